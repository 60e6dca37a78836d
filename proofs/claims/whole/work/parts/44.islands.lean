/-! joined cells: the least sets closed under growth and under points that go through the layers -/
def mSub (nl : Nat) (F G : Nat → Nat → Int32) : Prop := ∀ l, l < nl → rSub (F l) (G l)
def jCl (nl : Nat) (T : Nat → Nat → Int32) (ne : Int32) (F : Nat → Nat → Int32) (n : Nat) : Prop := ∀ p, 20 ≤ p → p < n → ptP T ne p = true → rcP nl T F p = true → ∀ l, l < nl → bt (F l (py T p)) (px T p) = true
def mClo (nl : Nat) (T : Nat → Nat → Int32) (ne : Int32) (O C : Nat → Nat → Int32) : Prop := (∀ l, l < nl → rClo (O l) (C l)) ∧ jCl nl T ne C 140
def mMin (nl : Nat) (T : Nat → Nat → Int32) (ne : Int32) (O F G : Nat → Nat → Int32) : Prop := ∀ C, mClo nl T ne O C → mSub nl F C → mSub nl G C
def mLst (nl : Nat) (T : Nat → Nat → Int32) (ne : Int32) (O F G : Nat → Nat → Int32) : Prop := mSub nl F G ∧ mMin nl T ne O F G ∧ mClo nl T ne O G
def mcel (R : Nat → Nat → Int32) : Nat → Nat
  | 0 => 0
  | n + 1 => mcel R n + cells (R n)
theorem mcel_le {F G : Nat → Nat → Int32} : ∀ n : Nat, mSub n F G → mcel F n ≤ mcel G n := by
  intro n
  induction n with
  | zero => intro _; exact Nat.le_refl _
  | succ n ih => intro h; exact Nat.add_le_add (ih (fun l hl => h l (by omega))) (cells_le (h n (by omega)))
theorem mcel_max {R : Nat → Nat → Int32} : ∀ n : Nat, mcel R n ≤ 768 * n := by
  intro n
  induction n with
  | zero => exact Nat.le_refl _
  | succ n ih => have := cells_max (R n); rw [mcel]; omega
theorem mcel_lt {F G : Nat → Nat → Int32} {l : Nat} : ∀ n : Nat, mSub n F G → l < n → cells (F l) < cells (G l) → mcel F n < mcel G n := by
  intro n
  induction n with
  | zero => intro _ h; omega
  | succ n ih =>
    intro h hl hc
    have h1 := mcel_le n (fun q hq => h q (by omega))
    have h2 := cells_le (h n (by omega))
    rw [mcel, mcel]
    by_cases hln : l = n
    · subst hln; omega
    · have := ih (fun q hq => h q (by omega)) (by omega) hc; omega
theorem mSub_rf {nl : Nat} {F : Nat → Nat → Int32} : mSub nl F F := fun l _ => rSub_rf _
theorem mSub_tr {nl : Nat} {F G K : Nat → Nat → Int32} (a : mSub nl F G) (b : mSub nl G K) : mSub nl F K := fun l hl => rSub_tr (a l hl) (b l hl)
theorem eqR_sub {nl : Nat} {F G : Nat → Nat → Int32} (h : eqR nl F G) : mSub nl F G := fun l hl y hy x hx q => by rw [← h l hl y hy]; exact q
theorem eqR_sub' {nl : Nat} {F G : Nat → Nat → Int32} (h : eqR nl F G) : mSub nl G F := fun l hl y hy x hx q => by rw [h l hl y hy]; exact q
theorem rc_iff {nl : Nat} {T R : Nat → Nat → Int32} {p : Nat} : rcP nl T R p = true ↔ ∃ l, l < nl ∧ bt (R l (py T p)) (px T p) = true := by
  rw [rcP, anyF_iff]
  constructor
  · rintro ⟨j, -, h2, h3⟩; exact ⟨j, by omega, h3⟩
  · rintro ⟨j, h2, h3⟩; exact ⟨j, by omega, by omega, h3⟩
theorem lay_bt {T R : Nat → Nat → Int32} {ne : Int32} {p l y x : Nat} (hG : ptG T ne) (h20 : 20 ≤ p) (h140 : p < 140) (hp : ptP T ne p = true) (hy : y < 24) (hx : x < 32) : bt (layF T p R l y) x = (bt (R l y) x || (decide (y = py T p) && decide (x = px T p))) := by
  obtain ⟨hx32, hy24, e6, e7, e8, e9⟩ := hG p h20 h140 hp
  have hk : T p 0 = 3 := by
    rw [ptP] at hp
    simp only [Bool.and_eq_true, decide_eq_true_eq] at hp
    exact hp.1.2
  rw [layF, hk, th_liesOn, decide_eq_true rfl, Bool.true_or, if_pos rfl, addR, e6, e7, e8, e9]
  by_cases hyy : y = py T p
  · subst hyy
    rw [if_pos ⟨Int32.le_refl _, Int32.le_refl _⟩, b_or, bits1 _ hx32 x hx, decide_eq_true rfl, Bool.true_and]
  · rw [if_neg (fun q => hyy (Nat.le_antisymm (nI_le' q.2 (by omega) (by omega)) (nI_le' q.1 (by omega) (by omega)))), decide_eq_false hyy, Bool.false_and, Bool.or_false]
theorem lay_sub {nl : Nat} {T R F : Nat → Nat → Int32} {ne : Int32} {p : Nat} (hG : ptG T ne) (h20 : 20 ≤ p) (h140 : p < 140) (hp : ptP T ne p = true) (e : eqR nl F (layF T p R)) : mSub nl R F := fun l hl y hy x hx q => by
  rw [e l hl y hy, lay_bt hG h20 h140 hp hy hx, q, Bool.true_or]
theorem lay_all {nl : Nat} {T R F : Nat → Nat → Int32} {ne : Int32} {p : Nat} (hG : ptG T ne) (h20 : 20 ≤ p) (h140 : p < 140) (hp : ptP T ne p = true) (e : eqR nl F (layF T p R)) {l : Nat} (hl : l < nl) : bt (F l (py T p)) (px T p) = true := by
  obtain ⟨hx32, hy24, -⟩ := hG p h20 h140 hp
  rw [e l hl _ hy24, lay_bt hG h20 h140 hp hy24 hx32, decide_eq_true rfl, decide_eq_true rfl]
  simp
theorem lay_min {nl : Nat} {T R F C : Nat → Nat → Int32} {ne : Int32} {p : Nat} (hG : ptG T ne) (h20 : 20 ≤ p) (h140 : p < 140) (hp : ptP T ne p = true) (e : eqR nl F (layF T p R)) (hs : mSub nl R C) (hc : ∀ l, l < nl → bt (C l (py T p)) (px T p) = true) : mSub nl F C := fun l hl y hy x hx q => by
  rw [e l hl y hy, lay_bt hG h20 h140 hp hy hx, Bool.or_eq_true] at q
  rcases q with q | q
  · exact hs l hl y hy x hx q
  · simp only [Bool.and_eq_true, decide_eq_true_eq] at q
    rw [q.1, q.2]; exact hc l hl
theorem lay_jCl {nl n : Nat} {T R F : Nat → Nat → Int32} {ne : Int32} {p : Nat} (hG : ptG T ne) (hn : n ≤ 140) (h20 : 20 ≤ p) (h140 : p < 140) (hp : ptP T ne p = true) (e : eqR nl F (layF T p R)) (h : ∀ p', 20 ≤ p' → p' < n → p' ≠ p → ptP T ne p' = true → rcP nl T R p' = true → ∀ l, l < nl → bt (R l (py T p')) (px T p') = true) : jCl nl T ne F n := fun p' h1 h2 hp' hr l hl => by
  by_cases hpp : p' = p
  · subst hpp; exact lay_all hG h20 h140 hp e hl
  · obtain ⟨hx32, hy24, -⟩ := hG p' h1 (by omega) hp'
    obtain ⟨l0, hl0, hb⟩ := rc_iff.mp hr
    rw [e l0 hl0 _ hy24, lay_bt hG h20 h140 hp hy24 hx32, Bool.or_eq_true] at hb
    rcases hb with hb | hb
    · exact lay_sub hG h20 h140 hp e l hl _ hy24 _ hx32 (h p' h1 h2 hpp hp' (rc_iff.mpr ⟨l0, hl0, hb⟩) l hl)
    · simp only [Bool.and_eq_true, decide_eq_true_eq] at hb
      rw [hb.1, hb.2]; exact lay_all hG h20 h140 hp e hl
def jI (nl : Nat) (T : Nat → Nat → Int32) (ne : Int32) (R R1 : Nat → Nat → Int32) (n : Nat) : Prop := mSub nl R R1 ∧ (∀ C, jCl nl T ne C 140 → mSub nl R C → mSub nl R1 C) ∧ jCl nl T ne R1 n
theorem jI_0 {nl : Nat} {T R : Nat → Nat → Int32} {ne : Int32} : jI nl T ne R R 20 := ⟨mSub_rf, fun _ _ h => h, fun p h1 h2 => by omega⟩
theorem jI_skip {nl n : Nat} {T R R1 : Nat → Nat → Int32} {ne : Int32} (h : jI nl T ne R R1 n) (hno : ptP T ne n = true → rcP nl T R1 n = false) : jI nl T ne R R1 (n + 1) := ⟨h.1, h.2.1, fun p h1 h2 hp hr => by
  by_cases hpn : p = n
  · subst hpn; rw [hno hp] at hr; cases hr
  · exact h.2.2 p h1 (by omega) hp hr⟩
theorem jI_lay {nl n : Nat} {T R R1 F : Nat → Nat → Int32} {ne : Int32} (hG : ptG T ne) (h : jI nl T ne R R1 n) (h20 : 20 ≤ n) (h140 : n < 140) (hp : ptP T ne n = true) (hr : rcP nl T R1 n = true) (e : eqR nl F (layF T n R1)) : jI nl T ne R F (n + 1) :=
  ⟨mSub_tr h.1 (lay_sub hG h20 h140 hp e), fun C hC hs => by
    have hs1 := h.2.1 C hC hs
    obtain ⟨hx32, hy24, -⟩ := hG n h20 h140 hp
    obtain ⟨l0, hl0, hb⟩ := rc_iff.mp hr
    exact lay_min hG h20 h140 hp e hs1 (hC n h20 h140 hp (rc_iff.mpr ⟨l0, hl0, hs1 l0 hl0 _ hy24 _ hx32 hb⟩)), lay_jCl hG (by omega) h20 h140 hp e (fun p' h1 h2 hne hp' hr' => h.2.2 p' h1 (by omega) hp' hr')⟩
def rfI (nl : Nat) (T : Nat → Nat → Int32) (ne : Int32) (O F R1 : Nat → Nat → Int32) (gr : Int32) (i : Nat) : Prop := mSub nl F R1 ∧ mMin nl T ne O F R1 ∧ jCl nl T ne R1 140 ∧ ((gr = 0 ∧ ∀ l, l < nl → rClo (O l) (R1 l)) ∨ (gr = 1 ∧ i ≤ mcel R1 nl))
def inI (nl : Nat) (T : Nat → Nat → Int32) (ne : Int32) (O F R1 R2 : Nat → Nat → Int32) (gr : Int32) (i : Nat) : Prop := mSub nl R1 R2 ∧ mMin nl T ne O F R2 ∧ ((gr = 0 ∧ eqR nl R2 R1 ∧ ∀ l, l < i → rClo (O l) (R2 l)) ∨ (gr = 1 ∧ mcel R1 nl < mcel R2 nl))
theorem rClo_congr {r f g : Nat → Int32} (h : ∀ y, y < 24 → g y = f y) (hc : rClo r f) : rClo r g := fun i hi => by rw [gr_congr h hi, hc i hi, h i hi]
theorem in_s {nl : Nat} {T : Nat → Nat → Int32} {ne : Int32} {O F R1 R2 : Nat → Nat → Int32} {gr q : Int32} {i : Nat} {g : Nat → Int32} (h : inI nl T ne O F R1 R2 gr i) (hi : i < nl) (a1 : rSub (R2 i) g) (a2 : rMin (O i) (R2 i) g) (a3 : rClo (O i) g) (a4 : (q = 0 ∧ ∀ y, y < 24 → g y = R2 i y) ∨ (q = 1 ∧ cells (R2 i) < cells g)) : inI nl T ne O F R1 (updT R2 i g) (gr ||| q) (i + 1) := by
  have hs : mSub nl R2 (updT R2 i g) := fun l hl => by
    by_cases hli : l = i
    · subst hli; rw [uT_s]; exact a1
    · rw [uT_n hli]; exact rSub_rf _
  refine ⟨mSub_tr h.1 hs, fun C hC hF l hl => ?_, ?_⟩
  · by_cases hli : l = i
    · subst hli; rw [uT_s]; exact a2 (C l) (hC.1 l hl) (h.2.1 C hC hF l hl)
    · rw [uT_n hli]; exact h.2.1 C hC hF l hl
  · rcases a4 with ⟨rfl, e⟩ | ⟨rfl, hlt⟩
    · rcases h.2.2 with ⟨rfl, e1, e2⟩ | ⟨rfl, hm⟩
      · refine Or.inl ⟨rfl, fun l hl j hj => ?_, fun l hl => ?_⟩
        · by_cases hli : l = i
          · subst hli; rw [uT_s, e j hj]; exact e1 l hl j hj
          · rw [uT_n hli]; exact e1 l hl j hj
        · by_cases hli : l = i
          · subst hli; rw [uT_s]; exact a3
          · rw [uT_n hli]; exact e2 l (by omega)
      · exact Or.inr ⟨rfl, Nat.lt_of_lt_of_le hm (mcel_le nl hs)⟩
    · have hm2 : mcel R2 nl < mcel (updT R2 i g) nl := mcel_lt nl hs hi (by rw [uT_s]; exact hlt)
      have hm1 : mcel R1 nl ≤ mcel R2 nl := mcel_le nl h.1
      rcases h.2.2 with ⟨rfl, -⟩ | ⟨rfl, -⟩
      · exact Or.inr ⟨rfl, by omega⟩
      · exact Or.inr ⟨rfl, by omega⟩
theorem jCl_congr {nl n : Nat} {T F G : Nat → Nat → Int32} {ne : Int32} (hG : ptG T ne) (hn : n ≤ 140) (h : eqR nl F G) (hc : jCl nl T ne G n) : jCl nl T ne F n := fun p h1 h2 hp hr l hl => by
  obtain ⟨hx32, hy24, -⟩ := hG p h1 (by omega) hp
  obtain ⟨l0, hl0, hb⟩ := rc_iff.mp hr
  rw [h l0 hl0 _ hy24] at hb
  rw [h l hl _ hy24]
  exact hc p h1 h2 hp (rc_iff.mpr ⟨l0, hl0, hb⟩) l hl
theorem rf_0 {nl i : Nat} {T : Nat → Nat → Int32} {ne : Int32} {O F R1 R2 : Nat → Nat → Int32} {gr g2 : Int32} {ib : Nat} (hG : ptG T ne) (h : rfI nl T ne O F R1 gr i) (h2 : inI nl T ne O F R1 R2 g2 ib) (hib : nl ≤ ib) (h0 : g2 = 0) : rfI nl T ne O F R2 g2 (i + 1) := by
  rcases h2.2.2 with ⟨-, e1, e2⟩ | ⟨e, -⟩
  · exact ⟨mSub_tr h.1 h2.1, h2.2.1, jCl_congr hG (by omega) e1 h.2.2.1, Or.inl ⟨h0, fun l hl => e2 l (by omega)⟩⟩
  · rw [e] at h0; exact absurd h0 (by decide)
theorem rf_1 {nl i : Nat} {T : Nat → Nat → Int32} {ne : Int32} {O F R1 R2 R4 : Nat → Nat → Int32} {gr g2 : Int32} {ib : Nat} (h : rfI nl T ne O F R1 gr i) (hgr : ¬ gr = 0) (h2 : inI nl T ne O F R1 R2 g2 ib) (h0 : ¬ g2 = 0) (h4 : jI nl T ne R2 R4 140) : rfI nl T ne O F R4 g2 (i + 1) := by
  rcases h2.2.2 with ⟨e, -⟩ | ⟨e, hm⟩
  · exact absurd e h0
  · rcases h.2.2.2 with ⟨e', -⟩ | ⟨-, hi⟩
    · exact absurd e' hgr
    · have := mcel_le nl h4.1
      exact ⟨mSub_tr (mSub_tr h.1 h2.1) h4.1, fun C hC hF => h4.2.1 C hC.2 (h2.2.1 C hC hF), h4.2.2, Or.inr ⟨e, by omega⟩⟩
theorem rf_s {nl : Nat} {T : Nat → Nat → Int32} {ne : Int32} {O R F : Nat → Nat → Int32} {p : Nat} (hG : ptG T ne) (hj : jCl nl T ne R 140) (h20 : 20 ≤ p) (h140 : p < 140) (hp : ptP T ne p = true) (e : eqR nl F (layF T p R)) : rfI nl T ne O (layF T p R) F 1 0 :=
  ⟨eqR_sub' e, fun C _ h => mSub_tr (eqR_sub e) h, lay_jCl hG (by omega) h20 h140 hp e (fun p' h1 h2 _ hp' hr => hj p' h1 h2 hp' hr), Or.inr ⟨rfl, Nat.zero_le _⟩⟩
theorem rf_end {nl i : Nat} {T : Nat → Nat → Int32} {ne : Int32} {O F R1 : Nat → Nat → Int32} {gr : Int32} (h : rfI nl T ne O F R1 gr i) (h0 : gr = 0) : mLst nl T ne O F R1 := by
  rcases h.2.2.2 with ⟨-, hc⟩ | ⟨e, -⟩
  · exact ⟨h.1, h.2.1, hc, h.2.2.1⟩
  · rw [e] at h0; exact absurd h0 (by decide)
theorem rf_no {nl i : Nat} {T : Nat → Nat → Int32} {ne : Int32} {O F R1 : Nat → Nat → Int32} {gr : Int32} (h : rfI nl T ne O F R1 gr i) (h0 : ¬ gr = 0) (hn : nl ≤ 4) : i ≤ 3072 := by
  rcases h.2.2.2 with ⟨e, -⟩ | ⟨-, hi⟩
  · exact absurd e h0
  · have := mcel_max (R := R1) nl; omega
/-- what layOut lays -/
def plP (T : Nat → Nat → Int32) (ne : Int32) (l : Nat) : Nat → Bool := fun s => !decide (T s 5 = 0) && decide (T s 3 = ne) && decide (T s 2 = nI l)
def plC (T : Nat → Nat → Int32) (g ne : Int32) (l : Nat) (O : Nat → Int32) (b : Bool) : Prop := (b = true → Clo (flR T (nI l) ne g 120) (fun j => flO T (nI l) ne 120 j &&& flR T (nI l) ne g 120 j) O) ∧ (b = false → ∀ j, j < 24 → O j = 0)
def plI (nl : Nat) (T : Nat → Nat → Int32) (g ne : Int32) (O : Nat → Nat → Int32) (n : Nat) : Prop := ∀ l, l < nl → plC T g ne l (O l) (anyF (plP T ne l) 140 (n - 140))
theorem anyF_snoc {P : Nat → Bool} : ∀ (n i : Nat), anyF P i (n + 1) = (anyF P i n || P (i + n)) := by
  intro n
  induction n with
  | zero => intro i; rw [anyF, anyF, anyF]; simp
  | succ n ih => intro i; rw [anyF, ih (i + 1), anyF, Bool.or_assoc, show i + 1 + n = i + (n + 1) by omega]
theorem anyF_sn {P : Nat → Bool} {a n : Nat} (h : a ≤ n) : anyF P a (n + 1 - a) = (anyF P a (n - a) || P n) := by
  have q := anyF_snoc (P := P) (n - a) a
  rw [show n - a + 1 = n + 1 - a by omega, show a + (n - a) = n by omega] at q
  exact q
theorem pl_0 {nl : Nat} {T : Nat → Nat → Int32} {g ne : Int32} {O : Nat → Nat → Int32} (h : ∀ l, l < nl → ∀ j, j < 24 → O l j = 0) : plI nl T g ne O 140 := fun l hl => ⟨fun q => (Bool.false_ne_true q).elim, fun _ => h l hl⟩
theorem pl_skip {nl n : Nat} {T : Nat → Nat → Int32} {g ne : Int32} {O : Nat → Nat → Int32} (h : plI nl T g ne O n) (hn : 140 ≤ n) (hno : ∀ l, plP T ne l n = false) : plI nl T g ne O (n + 1) := fun l hl => by
  have e : anyF (plP T ne l) 140 (n + 1 - 140) = anyF (plP T ne l) 140 (n - 140) := by rw [anyF_sn hn, hno l, Bool.or_false]
  rw [e]
  exact h l hl
theorem pl_fill {nl n L : Nat} {T : Nat → Nat → Int32} {g ne : Int32} {O : Nat → Nat → Int32} {G : Nat → Int32} (h : plI nl T g ne O n) (hn : 140 ≤ n) (hL : L < nl) (hn4 : nl ≤ 4) (h5 : ¬ T n 5 = 0) (h3 : T n 3 = ne) (h2 : T n 2 = nI L) (hC : Clo (flR T (T n 2) (T n 3) g 120) (fun j => flO T (T n 2) (T n 3) 120 j &&& flR T (T n 2) (T n 3) g 120 j) G) : plI nl T g ne (updT O L G) (n + 1) := fun l hl => by
  by_cases hlL : l = L
  · subst hlL
    rw [h2, h3] at hC
    have e : anyF (plP T ne l) 140 (n + 1 - 140) = true := by rw [anyF_sn hn, show plP T ne l n = true by simp [plP, h5, h3, h2], Bool.or_true]
    rw [e, uT_s]
    exact ⟨fun _ => hC, fun q => absurd q (by decide)⟩
  · have hf : plP T ne l n = false := by
      rw [plP, h2, decide_eq_false (fun q => hlL ((nI_eq (by omega) (by omega)).mp q).symm), Bool.and_false]
    have e : anyF (plP T ne l) 140 (n + 1 - 140) = anyF (plP T ne l) 140 (n - 140) := by rw [anyF_sn hn, hf, Bool.or_false]
    rw [e, uT_n hlL]
    exact h l hl
def loF (T : Nat → Nat → Int32) (ne : Int32) (P : Nat → Nat → Int32) : Nat → Nat → Nat → Int32
  | 0 => P
  | n + 1 => if (!decide (T (20 + n) 5 = 0) && decide (T (20 + n) 3 = ne)) = true then layF T (20 + n) (loF T ne P n) else loF T ne P n
theorem layF_congr {nl : Nat} {T O O' : Nat → Nat → Int32} {p : Nat} (h : eqR nl O O') : eqR nl (layF T p O) (layF T p O') := fun l hl j hj => by
  rw [layF, layF]; split
  · rw [addR, addR, h l hl j hj]
  · exact h l hl j hj
theorem lo_skip {nl i : Nat} {T O P : Nat → Nat → Int32} {ne : Int32} (h : eqR nl O (loF T ne P (i - 20))) (h20 : 20 ≤ i) (hno : (!decide (T i 5 = 0) && decide (T i 3 = ne)) = false) : eqR nl O (loF T ne P (i + 1 - 20)) := by
  rw [show i + 1 - 20 = (i - 20) + 1 by omega, loF, show 20 + (i - 20) = i by omega, hno]; exact h
theorem lo_lay {nl i : Nat} {T O O' P : Nat → Nat → Int32} {ne : Int32} (h : eqR nl O (loF T ne P (i - 20))) (h20 : 20 ≤ i) (hy : (!decide (T i 5 = 0) && decide (T i 3 = ne)) = true) (e : eqR nl O' (layF T i O)) : eqR nl O' (loF T ne P (i + 1 - 20)) := by
  rw [show i + 1 - 20 = (i - 20) + 1 by omega, loF, show 20 + (i - 20) = i by omega, if_pos hy]
  exact fun l hl j hj => (e l hl j hj).trans (layF_congr h l hl j hj)
def ldO (σ : HS) (ne : Int32) (O : Nat → Nat → Int32) : Prop := ∃ P, plI σ.nl σ.T σ.g ne P 150 ∧ eqR σ.nl O (loF σ.T ne P 120)
def zR (nl : Nat) (R : Nat → Nat → Int32) : Prop := ∀ l, l < nl → ∀ j, j < 24 → R l j = 0
/-- planes lie on layers of the board -/
def plG (σ : HS) : Prop := ∀ i, 140 ≤ i → i < 150 → ¬ σ.T i 5 = 0 → ∃ L, L < σ.nl ∧ σ.T i 2 = nI L
theorem z_step {O1 R1 : Nat → Nat → Int32} {i : Nat} {g g' : Nat → Int32} (h : ∀ l, l < i → ∀ j, j < 24 → O1 l j = 0 ∧ R1 l j = 0) (hg : ∀ j, j < 24 → g j = 0) (hg' : ∀ j, j < 24 → g' j = 0) : ∀ l, l < i + 1 → ∀ j, j < 24 → updT O1 i g l j = 0 ∧ updT R1 i g' l j = 0 := fun l hl j hj => by
  by_cases hli : l = i
  · subst hli; rw [uT_s, uT_s]; exact ⟨hg j hj, hg' j hj⟩
  · rw [uT_n hli, uT_n hli]; exact h l (by omega) j hj
def islR (nl : Nat) (T : Nat → Nat → Int32) (ne : Int32) (O : Nat → Nat → Int32) : Nat → (Nat → Nat → Int32) → Nat → Prop
  | 0, R, c => zR nl R ∧ c = 0
  | n + 1, R, c => ∃ R0 c0, islR nl T ne O n R0 c0 ∧ ((ptP T ne (20 + n) = true ∧ rcP nl T R0 (20 + n) = false ∧ c = c0 + 1 ∧ mLst nl T ne O (layF T (20 + n) R0) R) ∨ ((ptP T ne (20 + n) = false ∨ rcP nl T R0 (20 + n) = true) ∧ c = c0 ∧ R = R0))
theorem rClo_0 {r f : Nat → Int32} (h : ∀ j, j < 24 → f j = 0) : rClo r f := fun i hi => by
  refine b_ext (fun x hx => ?_)
  rw [Bool.eq_iff_iff, bt_row]
  constructor
  · rintro (q | q)
    · exact q
    · exfalso
      have hz : ∀ y, bt (gr_seeds f i &&& r i) y = true → False := fun y hy => by
        rw [b_and, Bool.and_eq_true] at hy
        rcases bt_seeds f |>.mp hy.1 with a | ⟨-, a⟩ | ⟨h23, a⟩
        · rw [h i hi, b_0] at a; cases a
        · rw [h (i - 1) (by omega), b_0] at a; cases a
        · rw [h (i + 1) (by omega), b_0] at a; cases a
      rcases (bt_runs _ _ hx).mp q with ⟨j, -, a, -⟩ | ⟨j, -, -, a, -⟩
      · exact hz j a
      · exact hz j a
  · exact Or.inl
theorem mClo_0 {nl : Nat} {T O R : Nat → Nat → Int32} {ne : Int32} (hG : ptG T ne) (h : zR nl R) : mClo nl T ne O R := ⟨fun l hl => rClo_0 (h l hl), fun p h1 h2 hp hr => by
  obtain ⟨hx32, hy24, -⟩ := hG p h1 h2 hp
  obtain ⟨l0, hl0, hb⟩ := rc_iff.mp hr
  rw [h l0 hl0 _ hy24, b_0] at hb; cases hb⟩
theorem isl_t {nl i c : Nat} {T O R R' : Nat → Nat → Int32} {ne : Int32} (h : islR nl T ne O (i - 20) R c) (h20 : 20 ≤ i) (hp : ptP T ne i = true) (hr : rcP nl T R i = false) (hm : mLst nl T ne O (layF T i R) R') : islR nl T ne O (i + 1 - 20) R' (c + 1) := by
  rw [show i + 1 - 20 = (i - 20) + 1 by omega, islR, show 20 + (i - 20) = i by omega]
  exact ⟨R, c, h, Or.inl ⟨hp, hr, rfl, hm⟩⟩
theorem isl_f {nl i c : Nat} {T O R : Nat → Nat → Int32} {ne : Int32} (h : islR nl T ne O (i - 20) R c) (h20 : 20 ≤ i) (hp : ptP T ne i = false ∨ rcP nl T R i = true) : islR nl T ne O (i + 1 - 20) R c := by
  rw [show i + 1 - 20 = (i - 20) + 1 by omega, islR, show 20 + (i - 20) = i by omega]
  exact ⟨R, c, h, Or.inr ⟨hp, rfl, rfl⟩⟩
set_option maxHeartbeats 4000000 in
set_option maxRecDepth 100000 in
/-- joinLayers -/
theorem c_Co_joinLayers (l : Launch) (D : va_G) (N0 : Nat) (k : Nat → Nat) (V : HV) (b : HA) (σ : HS) (O R : Nat → Nat → Int32) (hsh : shS k V b σ O R) (ne : Int32) (hG0 : ptG σ.T ne) : Met l y_Co_joinLayers (.code y_Co_joinLayers b_Co_joinLayers 4 none :: WS) ({ frames := 4, cells := 0, slots := 0, locals := 93 }) (mP D N0 k [.ref b.co, .int ne] V) (va_Qv (fun V' => ∃ R', shS k V' b σ O R' ∧ hsFr b b V V' ∧ jI σ.nl σ.T ne R R' 140) (mB D N0) (hA N0)) 0 0 (hA N0) := by
  refine Met.ofW (cc := b_Co_joinLayers) (maxL := 4) (ret := none) (by decide) rfl ?_
  intro p e s m args below meth c s₁ B hml hv0
  obtain ⟨rfl, hG, hV⟩ := hv0
  have hx := B.exec
  have hb := B.bytes
  have hr := B.returns
  have hts := atoms_spec (ws := .code y_Co_joinLayers b_Co_joinLayers 4 none :: WS) B.pre
  have hW : ∀ w ∈ WS, w.before _ s = true := fun w h => hts w (List.mem_cons_of_mem _ h)
  have hown : s.vm.findClass "BoardHouse$Copper" = some m.cls := findClass_of_methodNamed B.named
  have hlocks := B.notSynchronized
  have hS : va_S (hA N0) s.heap s.heap [] := va_S.rf
  have hl := lv_entry ([.ref b.co, .int ne]) (n := 4) (Nat.le_of_ble_eq_true rfl)
  rw [lg_entry_eq]
  generalize (lg_sl ([.ref b.co, .int ne]) ++ List.replicate (4 - (lg_sl ([.ref b.co, .int ne])).length) Slot.unset).toArray = ls at hl ⊢
  have hl : lv_has ls 4 [(0, .ref b.co), (1, .int ne)] := hl
  have hn4 := hsh.1.n4
  have hn1 := hsh.1.n1
  refine lv_bipush (v := 20) hx hb d_Co_joinLayers_0 (by decide) ?_
  refine lv_istore_n (lv' := [(2, .int 20), (0, .ref b.co), (1, .int ne)]) hx hb d_Co_joinLayers_2 rfl hl (by decide) rfl (fun ls hl => ?_)
  have loop_1 : ∀ (n i : Nat) (V1 : HV) (R1 : Nat → Nat → Int32) (H : Heap) (locs : List Loc) (ls : Array Slot), i ≤ 140 → 140 + 1 ≤ i + n → (shS k V1 b σ O R1 ∧ hsFr b b V V1 ∧ jI σ.nl σ.T ne R R1 i ∧ 20 ≤ i) → hv D vwCl N0 V1 H → va_S (hA N0) s.heap H locs → lv_has ls 4 [(0, .ref b.co), (1, .int ne), (2, .int (nI i))] → W p l e (headSpec (.code y_Co_joinLayers b_Co_joinLayers 4 none :: WS) ({ frames := 4, cells := 0, slots := 0, locals := 93 })).room s m #[.ref b.co, .int ne] below meth c H locs 0 0 (MQ below (va_Qv (fun V' => ∃ R', shS k V' b σ O R' ∧ hsFr b b V V' ∧ jI σ.nl σ.T ne R R' 140) (mB D N0) (hA N0)) #[.ref b.co, .int ne] s 0 0 (hA N0)) (F0 m 3 ls []) := by
    intro n
    induction n with
    | zero => intro i V1 R1 H locs ls h1 h2; exact absurd h2 (by omega)
    | succ n ih =>
      intro i V1 R1 H locs ls hi hin hI hV hS hl
      obtain ⟨hs1, hF1, hJ, h20⟩ := hI
      refine lv_iload_n hx hb d_Co_joinLayers_3 rfl (lv_at hl 2 rfl) ?_
      refine lv_sipush (v := 140) hx hb d_Co_joinLayers_4 (by decide) ?_
      refine lv_icmp_ge (tgt := 44) hx hb d_Co_joinLayers_7 (by decide) (fun c_2 => ?_) (fun c_2 => ?_)
      · have hge : 140 ≤ i := nI_le' (a := 140) (b := i) c_2 (by decide) (by omega)
        exact W.vret hx hb hr (fun t9 ht hW => ⟨⟨V1, rfl, ⟨R1, hs1, hF1, by rw [← show i = 140 by omega]; exact hJ⟩, mB_of ht hV⟩, hS.F ht⟩) hS.2.2 d_Co_joinLayers_44
      · have hlt : i < 140 := nI_nle' (a := 140) (b := i) c_2 (by decide) (by omega)
        refine lv_aload_n hx hb d_Co_joinLayers_10 rfl (lv_at hl 0 rfl) ?_
        refine lv_iload_n hx hb d_Co_joinLayers_11 rfl (lv_at hl 2 rfl) ?_
        refine lv_iload_n hx hb d_Co_joinLayers_12 rfl (lv_at hl 1 rfl) ?_
        refine rc_Q (va_runV (As := [.int (nI i), .int ne]) (rest := []) ⟨hx, hb, hml, hown, hts⟩ (c_Co_pointAt l D N0 k V1 b σ O R1 hs1 i (by omega) ne) (cwV 2 hts (gi_V wm_Co_120 wv_Co_pointAt ws_Co_pointAt wi_Co wc_Co_pointAt) rfl rfl rfl (by decide +kernel) ⟨Nat.le_of_ble_eq_true rfl, Nat.le_of_ble_eq_true rfl⟩) (mP.preV hG hS hV hs1.1.co rfl) rfl rfl hl.1 rfl (lv_room (Nat.le_of_ble_eq_true rfl)) d_Co_joinLayers_13 ⟨Nat.le_of_ble_eq_true rfl, Nat.le_of_ble_eq_true rfl⟩) hS (fun r_3 V_4 H locs hp_5 hV hS => ?_)
        obtain ⟨er_r_3, ev_r_3⟩ := hp_5
        rw [ev_r_3] at hV
        rw [er_r_3, ptO]
        cases hpt_6 : ptP σ.T ne i with
        | false =>
          refine W.eq (g2 := F0 m 16 ls [.null]) rfl ?_
          refine lv_astore_nN (lv' := [(3, .null), (0, .ref b.co), (1, .int ne), (2, .int (nI i))]) hx hb d_Co_joinLayers_16 rfl hl (by decide) rfl (fun ls hl => ?_)
          refine lv_aload_nN hx hb d_Co_joinLayers_17 rfl (lv_at hl 0 rfl) ?_
          refine lv_ifnullN (tgt := 38) hx hb d_Co_joinLayers_18 (by decide) ?_
          obtain ⟨i_8, ei_8⟩ : ∃ y : Int32, y = (nI i) + 1 := ⟨_, rfl⟩
          refine lv_iinc (v := i_8) (lv' := [(2, .int i_8), (3, .null), (0, .ref b.co), (1, .int ne)]) hx hb d_Co_joinLayers_38 hl (k := 3) rfl (by rw [ei_8]; rfl) (by decide) rfl (fun ls hl => ?_)
          refine lv_goto (tgt := 3) hx hb d_Co_joinLayers_41 (by decide) ?_
          rw [nI_1] at ei_8
          subst ei_8
          exact ih (i + 1) V1 R1 _ _ _ (by omega) (by omega) (⟨hs1, hF1, jI_skip hJ (fun q => by rw [hpt_6] at q; cases q), by omega⟩) hV hS (lv_sub hl [2, 3, 0] rfl)
        | true =>
          have h5_t_7 : ¬ σ.T i 5 = 0 := fun q => by rw [ptP, q] at hpt_6; simp at hpt_6
          obtain ⟨t_7, -, e2_t_7, h_t_7, ha_t_7⟩ := thO_some hs1.1.ts (show i < 150 by omega) h5_t_7
          rw [e2_t_7]
          refine W.eq (g2 := F0 m 16 ls [.ref t_7]) rfl ?_
          refine lv_astore_n (lv' := [(3, .ref t_7), (0, .ref b.co), (1, .int ne), (2, .int (nI i))]) hx hb d_Co_joinLayers_16 rfl hl (by decide) rfl (fun ls hl => ?_)
          refine lv_aload_n hx hb d_Co_joinLayers_17 rfl (lv_at hl 0 rfl) ?_
          refine lv_ifnull hx hb d_Co_joinLayers_18 ?_
          refine lv_aload_n hx hb d_Co_joinLayers_21 rfl (lv_at hl 1 rfl) ?_
          refine lv_aload_n hx hb d_Co_joinLayers_22 rfl (lv_at hl 0 rfl) ?_
          refine rc_i (va_runV (As := [.ref t_7]) (rest := []) ⟨hx, hb, hml, hown, hts⟩ (c_Co_isReached l D N0 k V1 b σ O R1 hs1 i t_7 (by omega) e2_t_7 ne hG0 (by omega) (by omega) hpt_6) (cwV 1 hts (gi_V wm_Co_124 wv_Co_isReached ws_Co_isReached wi_Co wc_Co_isReached) rfl rfl rfl (by decide +kernel) ⟨Nat.le_of_ble_eq_true rfl, Nat.le_of_ble_eq_true rfl⟩) (mP.preV hG hS hV hs1.1.co rfl) rfl rfl hl.1 rfl (lv_room (Nat.le_of_ble_eq_true rfl)) d_Co_joinLayers_23 ⟨Nat.le_of_ble_eq_true rfl, Nat.le_of_ble_eq_true rfl⟩) hS (fun H locs hV hS => ?_)
          refine lv_if_eq (tgt := 38) hx hb d_Co_joinLayers_26 (by decide) (fun c_9 => ?_) (fun c_9 => ?_)
          · obtain ⟨i_10, ei_10⟩ : ∃ y : Int32, y = (nI i) + 1 := ⟨_, rfl⟩
            refine lv_iinc (v := i_10) (lv' := [(2, .int i_10), (3, .ref t_7), (0, .ref b.co), (1, .int ne)]) hx hb d_Co_joinLayers_38 hl (k := 3) rfl (by rw [ei_10]; rfl) (by decide) rfl (fun ls hl => ?_)
            refine lv_goto (tgt := 3) hx hb d_Co_joinLayers_41 (by decide) ?_
            rw [nI_1] at ei_10
            subst ei_10
            exact ih (i + 1) V1 R1 _ _ _ (by omega) (by omega) (⟨hs1, hF1, jI_skip hJ (fun _ => bI_eq0.mp c_9), by omega⟩) hV hS (lv_sub hl [2, 3, 0] rfl)
          · refine lv_aload_n hx hb d_Co_joinLayers_29 rfl (lv_at hl 1 rfl) ?_
            refine lv_aload_n hx hb d_Co_joinLayers_30 rfl (lv_at hl 1 rfl) ?_
            refine gf_Co_39 hx hb hW hown hG hV hs1.1.co d_Co_joinLayers_31 ?_
            refine lv_aload_n hx hb d_Co_joinLayers_34 rfl (lv_at hl 0 rfl) ?_
            refine rc_V (va_runV (As := [.ref b.re, .ref t_7]) (rest := []) ⟨hx, hb, hml, hown, hts⟩ (c_Co_layOn_re l D N0 k V1 b σ O R1 hs1 i t_7 (by omega) e2_t_7) (cwV 2 hts (gi_V wm_Co_131 wv_Co_layOn ws_Co_layOn wi_Co wc_Co_layOn) rfl rfl rfl (by decide +kernel) ⟨Nat.le_of_ble_eq_true rfl, Nat.le_of_ble_eq_true rfl⟩) (mP.preV hG hS hV hs1.1.co rfl) rfl rfl hl.1 rfl (lv_room (Nat.le_of_ble_eq_true rfl)) d_Co_joinLayers_35 ⟨Nat.le_of_ble_eq_true rfl, Nat.le_of_ble_eq_true rfl⟩) hS (fun V_11 H locs hp_12 hV hS => ?_)
            obtain ⟨F_13, hq_14, hq_14f, e_F_13⟩ := hp_12
            obtain ⟨hz_15, hz_15a⟩ := hq_14.1.ts.2.1 i t_7 (by omega) e2_t_7
            obtain ⟨i_16, ei_16⟩ : ∃ y : Int32, y = (nI i) + 1 := ⟨_, rfl⟩
            refine lv_iinc (v := i_16) (lv' := [(2, .int i_16), (3, .ref t_7), (0, .ref b.co), (1, .int ne)]) hx hb d_Co_joinLayers_38 hl (k := 3) rfl (by rw [ei_16]; rfl) (by decide) rfl (fun ls hl => ?_)
            refine lv_goto (tgt := 3) hx hb d_Co_joinLayers_41 (by decide) ?_
            rw [nI_1] at ei_16
            subst ei_16
            exact ih (i + 1) V_11 F_13 _ _ _ (by omega) (by omega) (⟨hq_14, hF1.tr hq_14f, jI_lay hG0 hJ h20 hlt hpt_6 (bI_ne0.mp c_9) e_F_13, by omega⟩) hV hS (lv_sub hl [2, 3, 0] rfl)
  exact loop_1 (140 + 1 - 20) 20 V R _ _ _ (by omega) (by omega) (⟨hsh, hsFr.rf, jI_0, by omega⟩) hV hS (lv_sub hl [1, 2, 0] rfl)
set_option maxHeartbeats 4000000 in
set_option maxRecDepth 100000 in
/-- reachFrom -/
theorem c_Co_reachFrom (l : Launch) (D : va_G) (N0 : Nat) (k : Nat → Nat) (V : HV) (b : HA) (σ : HS) (O R : Nat → Nat → Int32) (hsh : shS k V b σ O R) (p0 t : Nat) (hp : p0 < 150) (hf : b.f p0 = some t) (ne : Int32) (hG0 : ptG σ.T ne) (h20 : 20 ≤ p0) (h140 : p0 < 140) (hpt : ptP σ.T ne p0 = true) (hj : jCl σ.nl σ.T ne R 140) : Met l y_Co_reachFrom (.code y_Co_reachFrom b_Co_reachFrom 5 none :: WS) ({ frames := 5, cells := 0, slots := 0, locals := 116 }) (mP D N0 k [.ref b.co, .ref t] V) (va_Qv (fun V' => ∃ R', shS k V' b σ O R' ∧ hsFr b b V V' ∧ mLst σ.nl σ.T ne O (layF σ.T p0 R) R') (mB D N0) (hA N0)) 0 0 (hA N0) := by
  refine Met.ofW (cc := b_Co_reachFrom) (maxL := 5) (ret := none) (by decide) rfl ?_
  intro p e s m args below meth c s₁ B hml hv0
  obtain ⟨rfl, hG, hV⟩ := hv0
  have hx := B.exec
  have hb := B.bytes
  have hr := B.returns
  have hts := atoms_spec (ws := .code y_Co_reachFrom b_Co_reachFrom 5 none :: WS) B.pre
  have hW : ∀ w ∈ WS, w.before _ s = true := fun w h => hts w (List.mem_cons_of_mem _ h)
  have hown : s.vm.findClass "BoardHouse$Copper" = some m.cls := findClass_of_methodNamed B.named
  have hlocks := B.notSynchronized
  have hS : va_S (hA N0) s.heap s.heap [] := va_S.rf
  have hl := lv_entry ([.ref b.co, .ref t]) (n := 5) (Nat.le_of_ble_eq_true rfl)
  rw [lg_entry_eq]
  generalize (lg_sl ([.ref b.co, .ref t]) ++ List.replicate (5 - (lg_sl ([.ref b.co, .ref t])).length) Slot.unset).toArray = ls at hl ⊢
  have hl : lv_has ls 5 [(0, .ref b.co), (1, .ref t)] := hl
  have hn4 := hsh.1.n4
  have hn1 := hsh.1.n1
  obtain ⟨hz_1, hz_1a⟩ := hsh.1.ts.2.1 p0 t hp hf
  refine lv_aload_n hx hb d_Co_reachFrom_0 rfl (lv_at hl 0 rfl) ?_
  refine lv_aload_n hx hb d_Co_reachFrom_1 rfl (lv_at hl 0 rfl) ?_
  refine gf_Co_39 hx hb hW hown hG hV hsh.1.co d_Co_reachFrom_2 ?_
  refine lv_aload_n hx hb d_Co_reachFrom_5 rfl (lv_at hl 1 rfl) ?_
  refine rc_V (va_runV (As := [.ref b.re, .ref t]) (rest := []) ⟨hx, hb, hml, hown, hts⟩ (c_Co_layOn_re l D N0 k V b σ O R hsh p0 t hp hf) (cwV 2 hts (gi_V wm_Co_131 wv_Co_layOn ws_Co_layOn wi_Co wc_Co_layOn) rfl rfl rfl (by decide +kernel) ⟨Nat.le_of_ble_eq_true rfl, Nat.le_of_ble_eq_true rfl⟩) (mP.preV hG hS hV hsh.1.co rfl) rfl rfl hl.1 rfl (lv_room (Nat.le_of_ble_eq_true rfl)) d_Co_reachFrom_6 ⟨Nat.le_of_ble_eq_true rfl, Nat.le_of_ble_eq_true rfl⟩) hS (fun V_2 H locs hp_3 hV hS => ?_)
  obtain ⟨F_4, hq_5, hq_5f, e_F_4⟩ := hp_3
  obtain ⟨hz_6, hz_6a⟩ := hq_5.1.ts.2.1 p0 t hp hf
  have hne3 : σ.T p0 3 = ne := by rw [ptP] at hpt; simp only [Bool.and_eq_true, decide_eq_true_eq] at hpt; exact hpt.2
  refine lv_iconst (v := 1) hx hb d_Co_reachFrom_9 (by decide) ?_
  refine lv_istore_n (lv' := [(2, .int 1), (0, .ref b.co), (1, .ref t)]) hx hb d_Co_reachFrom_10 rfl hl (by decide) rfl (fun ls hl => ?_)
  refine lv_iconst (v := 0) hx hb d_Co_reachFrom_11 (by decide) ?_
  refine lv_istore_n (lv' := [(3, .int 0), (2, .int 1), (0, .ref b.co), (1, .ref t)]) hx hb d_Co_reachFrom_12 rfl hl (by decide) rfl (fun ls hl => ?_)
  obtain ⟨Fp, eFp⟩ : ∃ z, z = layF σ.T p0 R := ⟨_, rfl⟩
  have loop_7 : ∀ (n i : Nat) (V1 : HV) (gr : Int32) (R1 : Nat → Nat → Int32) (H : Heap) (locs : List Loc) (ls : Array Slot), i ≤ 3073 → 3073 + 1 ≤ i + n → (shS k V1 b σ O R1 ∧ hsFr b b V V1 ∧ rfI σ.nl σ.T ne O Fp R1 gr i) → hv D vwCl N0 V1 H → va_S (hA N0) s.heap H locs → lv_has ls 5 [(0, .ref b.co), (1, .ref t), (2, .int gr), (3, .int (nI i))] → W p l e (headSpec (.code y_Co_reachFrom b_Co_reachFrom 5 none :: WS) ({ frames := 5, cells := 0, slots := 0, locals := 116 })).room s m #[.ref b.co, .ref t] below meth c H locs 0 0 (MQ below (va_Qv (fun V' => ∃ R', shS k V' b σ O R' ∧ hsFr b b V V' ∧ mLst σ.nl σ.T ne O (layF σ.T p0 R) R') (mB D N0) (hA N0)) #[.ref b.co, .ref t] s 0 0 (hA N0)) (F0 m 13 ls []) := by
    intro n
    induction n with
    | zero => intro i V1 gr R1 H locs ls h1 h2; exact absurd h2 (by omega)
    | succ n ih =>
      intro i V1 gr R1 H locs ls hi hin hI hV hS hl
      obtain ⟨hs1, hF1, hJ⟩ := hI
      obtain ⟨hz_8, hz_8a⟩ := hs1.1.ts.2.1 p0 t hp hf
      refine lv_iload_n hx hb d_Co_reachFrom_13 rfl (lv_at hl 2 rfl) ?_
      refine lv_if_eq (tgt := 92) hx hb d_Co_reachFrom_14 (by decide) (fun c_9 => ?_) (fun c_9 => ?_)
      · exact W.vret hx hb hr (fun t9 ht hW => ⟨⟨V1, rfl, ⟨R1, hs1, hF1, by rw [← eFp]; exact rf_end hJ c_9⟩, mB_of ht hV⟩, hS.F ht⟩) hS.2.2 d_Co_reachFrom_92
      · refine lv_iload_n hx hb d_Co_reachFrom_17 rfl (lv_at hl 3 rfl) ?_
        refine lv_sipush (v := 3072) hx hb d_Co_reachFrom_18 (by decide) ?_
        refine lv_icmp_gt (tgt := 92) hx hb d_Co_reachFrom_21 (by decide) (fun c_10 => ?_) (fun c_10 => ?_)
        · have c_10 := i_nle c_10
          exact absurd (nI_le (a := i) (b := 3072) (rf_no hJ c_9 hn4) (by omega)) c_10
        · have c_10 := i_le c_10
          have hi3 : i ≤ 3072 := nI_le' (a := i) (b := 3072) c_10 (by omega) (by decide)
          refine lv_iconst (v := 0) hx hb d_Co_reachFrom_24 (by decide) ?_
          refine lv_istore_n (lv' := [(2, .int 0), (0, .ref b.co), (1, .ref t), (3, .int (nI i))]) hx hb d_Co_reachFrom_25 rfl hl (by decide) rfl (fun ls hl => ?_)
          refine lv_iconst (v := 0) hx hb d_Co_reachFrom_26 (by decide) ?_
          refine lv_istore (lv' := [(4, .int 0), (2, .int 0), (0, .ref b.co), (1, .ref t), (3, .int (nI i))]) hx hb d_Co_reachFrom_27 hl (by decide) rfl (fun ls hl => ?_)
          have loop_11 : ∀ (nb ib : Nat) (V1b : HV) (g2 : Int32) (R2 : Nat → Nat → Int32) (H : Heap) (locs : List Loc) (ls : Array Slot), ib ≤ σ.nl → σ.nl + 1 ≤ ib + nb → (shS k V1b b σ O R2 ∧ hsFr b b V V1b ∧ inI σ.nl σ.T ne O Fp R1 R2 g2 ib) → hv D vwCl N0 V1b H → va_S (hA N0) s.heap H locs → lv_has ls 5 [(0, .ref b.co), (1, .ref t), (2, .int g2), (3, .int (nI i)), (4, .int (nI ib))] → W p l e (headSpec (.code y_Co_reachFrom b_Co_reachFrom 5 none :: WS) ({ frames := 5, cells := 0, slots := 0, locals := 116 })).room s m #[.ref b.co, .ref t] below meth c H locs 0 0 (MQ below (va_Qv (fun V' => ∃ R', shS k V' b σ O R' ∧ hsFr b b V V' ∧ mLst σ.nl σ.T ne O (layF σ.T p0 R) R') (mB D N0) (hA N0)) #[.ref b.co, .ref t] s 0 0 (hA N0)) (F0 m 29 ls []) := by
            intro nb
            induction nb with
            | zero => intro ib V1b g2 R2 H locs ls h1 h2; exact absurd h2 (by omega)
            | succ nb ihb =>
              intro ib V1b g2 R2 H locs ls hib hinb hIb hV hS hl
              obtain ⟨hs2, hF2, hJb⟩ := hIb
              obtain ⟨hz_12, hz_12a⟩ := hs2.1.ts.2.1 p0 t hp hf
              refine lv_iload hx hb d_Co_reachFrom_29 (lv_at hl 4 rfl) ?_
              refine lv_aload_n hx hb d_Co_reachFrom_31 rfl (lv_at hl 0 rfl) ?_
              refine gf_Co_24 hx hb hW hown hG hV hs2.1.co d_Co_reachFrom_32 ?_
              refine lv_icmp_ge (tgt := 74) hx hb d_Co_reachFrom_35 (by decide) (fun c_13 => ?_) (fun c_13 => ?_)
              · have hgeb : σ.nl ≤ ib := nI_le' (a := σ.nl) (b := ib) c_13 (by omega) (by omega)
                refine lv_iload_n hx hb d_Co_reachFrom_74 rfl (lv_at hl 2 rfl) ?_
                refine lv_if_eq (tgt := 86) hx hb d_Co_reachFrom_75 (by decide) (fun c_14 => ?_) (fun c_14 => ?_)
                · obtain ⟨i_15, ei_15⟩ : ∃ y : Int32, y = (nI i) + 1 := ⟨_, rfl⟩
                  refine lv_iinc (v := i_15) (lv' := [(3, .int i_15), (0, .ref b.co), (1, .ref t), (2, .int g2), (4, .int (nI ib))]) hx hb d_Co_reachFrom_86 hl (k := 3) rfl (by rw [ei_15]; rfl) (by decide) rfl (fun ls hl => ?_)
                  refine lv_goto (tgt := 13) hx hb d_Co_reachFrom_89 (by decide) ?_
                  rw [nI_1] at ei_15
                  subst ei_15
                  exact ih (i + 1) V1b g2 R2 _ _ _ (by omega) (by omega) (⟨hs2, hF2, rf_0 hG0 hJ hJb hgeb c_14⟩) hV hS (lv_sub hl [1, 2, 3, 0] rfl)
                · refine lv_aload_n hx hb d_Co_reachFrom_78 rfl (lv_at hl 0 rfl) ?_
                  refine lv_aload_n hx hb d_Co_reachFrom_79 rfl (lv_at hl 1 rfl) ?_
                  refine gf_Co_93 hx hb hW hown hG hV hz_12 d_Co_reachFrom_80 ?_
                  rw [hne3]
                  refine W.eq (g2 := F0 m 83 ls [.int ne, .ref b.co]) rfl ?_
                  refine rc_V (va_runV (As := [.int ne]) (rest := []) ⟨hx, hb, hml, hown, hts⟩ (c_Co_joinLayers l D N0 k V1b b σ O R2 hs2 ne hG0) (cwV 1 hts (gi_V wm_Co_142 wv_Co_joinLayers ws_Co_joinLayers wi_Co wc_Co_joinLayers) rfl rfl rfl (by decide +kernel) ⟨Nat.le_of_ble_eq_true rfl, Nat.le_of_ble_eq_true rfl⟩) (mP.preV hG hS hV hs2.1.co rfl) rfl rfl hl.1 rfl (lv_room (Nat.le_of_ble_eq_true rfl)) d_Co_reachFrom_83 ⟨Nat.le_of_ble_eq_true rfl, Nat.le_of_ble_eq_true rfl⟩) hS (fun V_16 H locs hp_17 hV hS => ?_)
                  obtain ⟨F_18, hq_19, hq_19f, j_F_18⟩ := hp_17
                  obtain ⟨hz_20, hz_20a⟩ := hq_19.1.ts.2.1 p0 t hp hf
                  obtain ⟨i_21, ei_21⟩ : ∃ y : Int32, y = (nI i) + 1 := ⟨_, rfl⟩
                  refine lv_iinc (v := i_21) (lv' := [(3, .int i_21), (0, .ref b.co), (1, .ref t), (2, .int g2), (4, .int (nI ib))]) hx hb d_Co_reachFrom_86 hl (k := 3) rfl (by rw [ei_21]; rfl) (by decide) rfl (fun ls hl => ?_)
                  refine lv_goto (tgt := 13) hx hb d_Co_reachFrom_89 (by decide) ?_
                  rw [nI_1] at ei_21
                  subst ei_21
                  exact ih (i + 1) V_16 g2 F_18 _ _ _ (by omega) (by omega) (⟨hq_19, hF2.tr hq_19f, rf_1 hJ c_9 hJb c_14 j_F_18⟩) hV hS (lv_sub hl [1, 2, 3, 0] rfl)
              · have hltb : ib < σ.nl := nI_nle' (a := σ.nl) (b := ib) c_13 (by omega) (by omega)
                refine lv_aload_n hx hb d_Co_reachFrom_38 rfl (lv_at hl 0 rfl) ?_
                refine gf_Co_39 hx hb hW hown hG hV hs2.1.co d_Co_reachFrom_39 ?_
                refine lv_iload hx hb d_Co_reachFrom_42 (lv_at hl 4 rfl) ?_
                refine hv_aald (v := b.fs ib) hx hb hG.K hV 6 hs2.1.re rfl (vp_in_nI (by omega) (by omega)) (by rw [nI_clamp (by omega)]) d_Co_reachFrom_44 ?_
                obtain ⟨hz_22a, hz_22b, -, hz_22c, hz_22d, -⟩ := hs2.1.os ib hltb
                rw [hz_22c]
                refine W.eq (g2 := F0 m 45 ls [.ref (b.ss ib)]) rfl ?_
                refine lv_aload_n hx hb d_Co_reachFrom_45 rfl (lv_at hl 0 rfl) ?_
                refine gf_Co_35 hx hb hW hown hG hV hs2.1.co d_Co_reachFrom_46 ?_
                refine lv_iload hx hb d_Co_reachFrom_49 (lv_at hl 4 rfl) ?_
                refine hv_aald (v := b.fo ib) hx hb hG.K hV 6 hs2.1.on rfl (vp_in_nI (by omega) (by omega)) (by rw [nI_clamp (by omega)]) d_Co_reachFrom_51 ?_
                obtain ⟨hz_23a, hz_23b, -, hz_23c, hz_23d, -⟩ := hs2.1.os ib hltb
                rw [hz_23a]
                refine W.eq (g2 := F0 m 52 ls [.ref (b.os ib), .ref (b.ss ib)]) rfl ?_
                refine rc_I (va_runV (As := [.ref (b.os ib)]) (rest := []) ⟨hx, hb, hml, hown, hts⟩ (c_Sh_growThrough l D N0 k V1b (b.ss ib) (b.sR ib) (R2 ib) hz_22d (hs2.2 ib hltb).2 (b.os ib) (b.oR ib) (O ib) hz_23b (hs2.2 ib hltb).1 (fun z => by have a1 := (hs2.1.lab.ls ib hltb).2.1; have a2 := (hs2.1.lab.ls ib hltb).2.2.2; rw [z] at a1; omega)) (cwV 1 hts (gi_V wm_Co_112 wv_Sh_growThrough ws_Sh_growThrough wi_Sh wc_Sh_growThrough) rfl rfl rfl (by decide +kernel) ⟨Nat.le_of_ble_eq_true rfl, Nat.le_of_ble_eq_true rfl⟩) (mP.preV hG hS hV hz_22d rfl) rfl rfl hl.1 rfl (lv_room (Nat.le_of_ble_eq_true rfl)) d_Co_reachFrom_52 ⟨Nat.le_of_ble_eq_true rfl, Nat.le_of_ble_eq_true rfl⟩) hS (fun r_24 V_25 H locs hp_26 hV hS => ?_)
                obtain ⟨g_27, ev_g_27, a1_g_27, a2_g_27, a3_g_27, a4_g_27⟩ := hp_26
                obtain ⟨hq_28, hq_28f⟩ := sh_setR hs2 (i := ib) hltb g_27
                rw [← ev_g_27] at hq_28 hq_28f
                obtain ⟨hz_29, hz_29a⟩ := hq_28.1.ts.2.1 p0 t hp hf
                refine lv_if_ne (tgt := 62) hx hb d_Co_reachFrom_55 (by decide) (fun c_30 => ?_) (fun c_30 => ?_)
                · refine lv_iconst (v := 1) hx hb d_Co_reachFrom_62 (by decide) ?_
                  refine lv_goto (tgt := 67) hx hb d_Co_reachFrom_63 (by decide) ?_
                  refine W.eq (g2 := F0 m 67 ls [.int (g2 ||| r_24)]) (congrArg (fun z => F0 m 67 ls [.int z]) (or_x (hJb.2.2.elim (fun a => Or.inl a.1) (fun a => Or.inr a.1)) (a4_g_27.elim (fun a => Or.inl a.1) (fun a => Or.inr a.1)) c_30)) ?_
                  refine lv_istore_n (lv' := [(2, .int (g2 ||| r_24)), (0, .ref b.co), (1, .ref t), (3, .int (nI i)), (4, .int (nI ib))]) hx hb d_Co_reachFrom_67 rfl hl (by decide) rfl (fun ls hl => ?_)
                  obtain ⟨i_31, ei_31⟩ : ∃ y : Int32, y = (nI ib) + 1 := ⟨_, rfl⟩
                  refine lv_iinc (v := i_31) (lv' := [(4, .int i_31), (2, .int (g2 ||| r_24)), (0, .ref b.co), (1, .ref t), (3, .int (nI i))]) hx hb d_Co_reachFrom_68 hl (k := 4) rfl (by rw [ei_31]; rfl) (by decide) rfl (fun ls hl => ?_)
                  refine lv_goto (tgt := 29) hx hb d_Co_reachFrom_71 (by decide) ?_
                  rw [nI_1] at ei_31
                  subst ei_31
                  exact ihb (ib + 1) V_25 (g2 ||| r_24) (updT R2 ib g_27) _ _ _ (by omega) (by omega) (⟨hq_28, hF2.tr hq_28f, in_s hJb hltb a1_g_27 a2_g_27 a3_g_27 a4_g_27⟩) hV hS (lv_sub hl [2, 3, 1, 4, 0] rfl)
                · refine lv_iload_n hx hb d_Co_reachFrom_58 rfl (lv_at hl 2 rfl) ?_
                  refine lv_if_eq (tgt := 66) hx hb d_Co_reachFrom_59 (by decide) (fun c_32 => ?_) (fun c_32 => ?_)
                  · refine lv_iconst (v := 0) hx hb d_Co_reachFrom_66 (by decide) ?_
                    refine W.eq (g2 := F0 m 67 ls [.int (g2 ||| r_24)]) (congrArg (fun z => F0 m 67 ls [.int z]) (or_z c_32 c_30)) ?_
                    refine lv_istore_n (lv' := [(2, .int (g2 ||| r_24)), (0, .ref b.co), (1, .ref t), (3, .int (nI i)), (4, .int (nI ib))]) hx hb d_Co_reachFrom_67 rfl hl (by decide) rfl (fun ls hl => ?_)
                    obtain ⟨i_33, ei_33⟩ : ∃ y : Int32, y = (nI ib) + 1 := ⟨_, rfl⟩
                    refine lv_iinc (v := i_33) (lv' := [(4, .int i_33), (2, .int (g2 ||| r_24)), (0, .ref b.co), (1, .ref t), (3, .int (nI i))]) hx hb d_Co_reachFrom_68 hl (k := 4) rfl (by rw [ei_33]; rfl) (by decide) rfl (fun ls hl => ?_)
                    refine lv_goto (tgt := 29) hx hb d_Co_reachFrom_71 (by decide) ?_
                    rw [nI_1] at ei_33
                    subst ei_33
                    exact ihb (ib + 1) V_25 (g2 ||| r_24) (updT R2 ib g_27) _ _ _ (by omega) (by omega) (⟨hq_28, hF2.tr hq_28f, in_s hJb hltb a1_g_27 a2_g_27 a3_g_27 a4_g_27⟩) hV hS (lv_sub hl [2, 3, 1, 4, 0] rfl)
                  · refine lv_iconst (v := 1) hx hb d_Co_reachFrom_62 (by decide) ?_
                    refine lv_goto (tgt := 67) hx hb d_Co_reachFrom_63 (by decide) ?_
                    refine W.eq (g2 := F0 m 67 ls [.int (g2 ||| r_24)]) (congrArg (fun z => F0 m 67 ls [.int z]) (or_q (hJb.2.2.elim (fun a => Or.inl a.1) (fun a => Or.inr a.1)) (a4_g_27.elim (fun a => Or.inl a.1) (fun a => Or.inr a.1)) c_32)) ?_
                    refine lv_istore_n (lv' := [(2, .int (g2 ||| r_24)), (0, .ref b.co), (1, .ref t), (3, .int (nI i)), (4, .int (nI ib))]) hx hb d_Co_reachFrom_67 rfl hl (by decide) rfl (fun ls hl => ?_)
                    obtain ⟨i_34, ei_34⟩ : ∃ y : Int32, y = (nI ib) + 1 := ⟨_, rfl⟩
                    refine lv_iinc (v := i_34) (lv' := [(4, .int i_34), (2, .int (g2 ||| r_24)), (0, .ref b.co), (1, .ref t), (3, .int (nI i))]) hx hb d_Co_reachFrom_68 hl (k := 4) rfl (by rw [ei_34]; rfl) (by decide) rfl (fun ls hl => ?_)
                    refine lv_goto (tgt := 29) hx hb d_Co_reachFrom_71 (by decide) ?_
                    rw [nI_1] at ei_34
                    subst ei_34
                    exact ihb (ib + 1) V_25 (g2 ||| r_24) (updT R2 ib g_27) _ _ _ (by omega) (by omega) (⟨hq_28, hF2.tr hq_28f, in_s hJb hltb a1_g_27 a2_g_27 a3_g_27 a4_g_27⟩) hV hS (lv_sub hl [2, 3, 1, 4, 0] rfl)
          exact loop_11 (σ.nl + 1 - 0) 0 V1 0 R1 _ _ _ (by omega) (by omega) (⟨hs1, hF1, mSub_rf, hJ.2.1, Or.inl ⟨rfl, fun _ _ _ _ => rfl, fun l hl => by omega⟩⟩) hV hS (lv_sub hl [2, 3, 1, 4, 0] rfl)
  exact loop_7 (3073 + 1 - 0) 0 V_2 1 F_4 _ _ _ (by omega) (by omega) (⟨hq_5, (hsFr.rf (a := b) (V := V)).tr hq_5f, by rw [eFp]; exact rf_s hG0 hj h20 h140 hpt e_F_4⟩) hV hS (lv_sub hl [2, 3, 1, 0] rfl)
set_option maxHeartbeats 4000000 in
set_option maxRecDepth 100000 in
/-- layOut -/
theorem c_Co_layOut (l : Launch) (D : va_G) (N0 : Nat) (k : Nat → Nat) (V : HV) (b : HA) (σ : HS) (O R : Nat → Nat → Int32) (hsh : shS k V b σ O R) (ne : Int32) (hPl : plG σ) : Met l y_Co_layOut (.code y_Co_layOut b_Co_layOut 4 none :: WS) ({ frames := 4, cells := 0, slots := 0, locals := 99 }) (mP D N0 k [.ref b.co, .int ne] V) (va_Qv (fun V' => ∃ O' R', shS k V' b σ O' R' ∧ hsFr b b V V' ∧ zR σ.nl R' ∧ ldO σ ne O') (mB D N0) (hA N0)) 0 0 (hA N0) := by
  refine Met.ofW (cc := b_Co_layOut) (maxL := 4) (ret := none) (by decide) rfl ?_
  intro p e s m args below meth c s₁ B hml hv0
  obtain ⟨rfl, hG, hV⟩ := hv0
  have hx := B.exec
  have hb := B.bytes
  have hr := B.returns
  have hts := atoms_spec (ws := .code y_Co_layOut b_Co_layOut 4 none :: WS) B.pre
  have hW : ∀ w ∈ WS, w.before _ s = true := fun w h => hts w (List.mem_cons_of_mem _ h)
  have hown : s.vm.findClass "BoardHouse$Copper" = some m.cls := findClass_of_methodNamed B.named
  have hlocks := B.notSynchronized
  have hS : va_S (hA N0) s.heap s.heap [] := va_S.rf
  have hl := lv_entry ([.ref b.co, .int ne]) (n := 4) (Nat.le_of_ble_eq_true rfl)
  rw [lg_entry_eq]
  generalize (lg_sl ([.ref b.co, .int ne]) ++ List.replicate (4 - (lg_sl ([.ref b.co, .int ne])).length) Slot.unset).toArray = ls at hl ⊢
  have hl : lv_has ls 4 [(0, .ref b.co), (1, .int ne)] := hl
  have hn4 := hsh.1.n4
  have hn1 := hsh.1.n1
  refine lv_iconst (v := 0) hx hb d_Co_layOut_0 (by decide) ?_
  refine lv_istore_n (lv' := [(2, .int 0), (0, .ref b.co), (1, .int ne)]) hx hb d_Co_layOut_1 rfl hl (by decide) rfl (fun ls hl => ?_)
  have loop_1 : ∀ (n i : Nat) (V1 : HV) (O1 R1 : Nat → Nat → Int32) (H : Heap) (locs : List Loc) (ls : Array Slot), i ≤ σ.nl → σ.nl + 1 ≤ i + n → (shS k V1 b σ O1 R1 ∧ hsFr b b V V1 ∧ ∀ l, l < i → ∀ j, j < 24 → O1 l j = 0 ∧ R1 l j = 0) → hv D vwCl N0 V1 H → va_S (hA N0) s.heap H locs → lv_has ls 4 [(0, .ref b.co), (1, .int ne), (2, .int (nI i))] → W p l e (headSpec (.code y_Co_layOut b_Co_layOut 4 none :: WS) ({ frames := 4, cells := 0, slots := 0, locals := 99 })).room s m #[.ref b.co, .int ne] below meth c H locs 0 0 (MQ below (va_Qv (fun V' => ∃ O' R', shS k V' b σ O' R' ∧ hsFr b b V V' ∧ zR σ.nl R' ∧ ldO σ ne O') (mB D N0) (hA N0)) #[.ref b.co, .int ne] s 0 0 (hA N0)) (F0 m 2 ls []) := by
    intro n
    induction n with
    | zero => intro i V1 O1 R1 H locs ls h1 h2; exact absurd h2 (by omega)
    | succ n ih =>
      intro i V1 O1 R1 H locs ls hi hin hI hV hS hl
      obtain ⟨hs1, hF1, hZ⟩ := hI
      refine lv_iload_n hx hb d_Co_layOut_2 rfl (lv_at hl 2 rfl) ?_
      refine lv_aload_n hx hb d_Co_layOut_3 rfl (lv_at hl 0 rfl) ?_
      refine gf_Co_24 hx hb hW hown hG hV hs1.1.co d_Co_layOut_4 ?_
      refine lv_icmp_ge (tgt := 34) hx hb d_Co_layOut_7 (by decide) (fun c_2 => ?_) (fun c_2 => ?_)
      · have hge : σ.nl ≤ i := nI_le' c_2 (by omega) (by omega)
        refine lv_sipush (v := 140) hx hb d_Co_layOut_34 (by decide) ?_
        refine lv_istore_n (lv' := [(2, .int 140), (0, .ref b.co), (1, .int ne)]) hx hb d_Co_layOut_37 rfl hl (by decide) rfl (fun ls hl => ?_)
        have loop_3 : ∀ (n2 i2 : Nat) (V12 : HV) (O2 R2 : Nat → Nat → Int32) (H : Heap) (locs : List Loc) (ls : Array Slot), i2 ≤ 150 → 150 + 1 ≤ i2 + n2 → (shS k V12 b σ O2 R2 ∧ hsFr b b V V12 ∧ zR σ.nl R2 ∧ plI σ.nl σ.T σ.g ne O2 i2 ∧ 140 ≤ i2) → hv D vwCl N0 V12 H → va_S (hA N0) s.heap H locs → lv_has ls 4 [(0, .ref b.co), (1, .int ne), (2, .int (nI i2))] → W p l e (headSpec (.code y_Co_layOut b_Co_layOut 4 none :: WS) ({ frames := 4, cells := 0, slots := 0, locals := 99 })).room s m #[.ref b.co, .int ne] below meth c H locs 0 0 (MQ below (va_Qv (fun V' => ∃ O' R', shS k V' b σ O' R' ∧ hsFr b b V V' ∧ zR σ.nl R' ∧ ldO σ ne O') (mB D N0) (hA N0)) #[.ref b.co, .int ne] s 0 0 (hA N0)) (F0 m 38 ls []) := by
          intro n2
          induction n2 with
          | zero => intro i2 V12 O2 R2 H locs ls h1 h2; exact absurd h2 (by omega)
          | succ n2 ih2 =>
            intro i2 V12 O2 R2 H locs ls hi2 hin2 hI2 hV hS hl
            obtain ⟨hs2, hF2, hZ2, hP2, h140⟩ := hI2
            refine lv_iload_n hx hb d_Co_layOut_38 rfl (lv_at hl 2 rfl) ?_
            refine lv_sipush (v := 150) hx hb d_Co_layOut_39 (by decide) ?_
            refine lv_icmp_ge (tgt := 83) hx hb d_Co_layOut_42 (by decide) (fun c_4 => ?_) (fun c_4 => ?_)
            · have hge2 : 150 ≤ i2 := nI_le' (a := 150) (b := i2) c_4 (by decide) (by omega)
              refine lv_bipush (v := 20) hx hb d_Co_layOut_83 (by decide) ?_
              refine lv_istore_n (lv' := [(2, .int 20), (0, .ref b.co), (1, .int ne)]) hx hb d_Co_layOut_85 rfl hl (by decide) rfl (fun ls hl => ?_)
              have loop_5 : ∀ (n3 i3 : Nat) (V13 : HV) (O3 : Nat → Nat → Int32) (H : Heap) (locs : List Loc) (ls : Array Slot), i3 ≤ 140 → 140 + 1 ≤ i3 + n3 → (shS k V13 b σ O3 R2 ∧ hsFr b b V V13 ∧ eqR σ.nl O3 (loF σ.T ne O2 (i3 - 20)) ∧ 20 ≤ i3) → hv D vwCl N0 V13 H → va_S (hA N0) s.heap H locs → lv_has ls 4 [(0, .ref b.co), (1, .int ne), (2, .int (nI i3))] → W p l e (headSpec (.code y_Co_layOut b_Co_layOut 4 none :: WS) ({ frames := 4, cells := 0, slots := 0, locals := 99 })).room s m #[.ref b.co, .int ne] below meth c H locs 0 0 (MQ below (va_Qv (fun V' => ∃ O' R', shS k V' b σ O' R' ∧ hsFr b b V V' ∧ zR σ.nl R' ∧ ldO σ ne O') (mB D N0) (hA N0)) #[.ref b.co, .int ne] s 0 0 (hA N0)) (F0 m 86 ls []) := by
                intro n3
                induction n3 with
                | zero => intro i3 V13 O3 H locs ls h1 h2; exact absurd h2 (by omega)
                | succ n3 ih3 =>
                  intro i3 V13 O3 H locs ls hi3 hin3 hI3 hV hS hl
                  obtain ⟨hs3, hF3, hO3, h20⟩ := hI3
                  refine lv_iload_n hx hb d_Co_layOut_86 rfl (lv_at hl 2 rfl) ?_
                  refine lv_sipush (v := 140) hx hb d_Co_layOut_87 (by decide) ?_
                  refine lv_icmp_ge (tgt := 126) hx hb d_Co_layOut_90 (by decide) (fun c_6 => ?_) (fun c_6 => ?_)
                  · have hge3 : 140 ≤ i3 := nI_le' (a := 140) (b := i3) c_6 (by decide) (by omega)
                    exact W.vret hx hb hr (fun t9 ht hW => ⟨⟨V13, rfl, ⟨O3, R2, hs3, hF3, hZ2, O2, by rw [← show i2 = 150 by omega]; exact hP2, by rw [← show i3 - 20 = 120 by omega]; exact hO3⟩, mB_of ht hV⟩, hS.F ht⟩) hS.2.2 d_Co_layOut_126
                  · have hlt3 : i3 < 140 := nI_nle' (a := 140) (b := i3) c_6 (by decide) (by omega)
                    refine lv_aload_n hx hb d_Co_layOut_93 rfl (lv_at hl 0 rfl) ?_
                    refine lv_iload_n hx hb d_Co_layOut_94 rfl (lv_at hl 2 rfl) ?_
                    refine rc_Q (va_runV (As := [.int (nI i3)]) (rest := []) ⟨hx, hb, hml, hown, hts⟩ (c_Co_thereAt l D N0 k V13 b.co b.ta b.ro b.on b.re (nI σ.nl) σ.g hs3.1.co b.f b.ar σ.T hs3.1.ts i3 (by omega)) (cwV 1 hts (gi_V wm_Co_46 wv_Co_thereAt ws_Co_thereAt wi_Co wc_Co_thereAt) rfl rfl rfl (by decide +kernel) ⟨Nat.le_of_ble_eq_true rfl, Nat.le_of_ble_eq_true rfl⟩) (mP.preV hG hS hV hs3.1.co rfl) rfl rfl hl.1 rfl (lv_room (Nat.le_of_ble_eq_true rfl)) d_Co_layOut_95 ⟨Nat.le_of_ble_eq_true rfl, Nat.le_of_ble_eq_true rfl⟩) hS (fun r_7 V_8 H locs hp_9 hV hS => ?_)
                    obtain ⟨er_r_7, ev_r_7⟩ := hp_9
                    rw [ev_r_7] at hV
                    rw [er_r_7]
                    by_cases h5_10 : σ.T i3 5 = 0
                    · rw [thO_none h5_10]
                      refine W.eq (g2 := F0 m 98 ls [.null]) rfl ?_
                      refine lv_astore_nN (lv' := [(3, .null), (0, .ref b.co), (1, .int ne), (2, .int (nI i3))]) hx hb d_Co_layOut_98 rfl hl (by decide) rfl (fun ls hl => ?_)
                      refine lv_aload_nN hx hb d_Co_layOut_99 rfl (lv_at hl 0 rfl) ?_
                      refine lv_ifnullN (tgt := 120) hx hb d_Co_layOut_100 (by decide) ?_
                      obtain ⟨i_12, ei_12⟩ : ∃ y : Int32, y = (nI i3) + 1 := ⟨_, rfl⟩
                      refine lv_iinc (v := i_12) (lv' := [(2, .int i_12), (3, .null), (0, .ref b.co), (1, .int ne)]) hx hb d_Co_layOut_120 hl (k := 3) rfl (by rw [ei_12]; rfl) (by decide) rfl (fun ls hl => ?_)
                      refine lv_goto (tgt := 86) hx hb d_Co_layOut_123 (by decide) ?_
                      rw [nI_1] at ei_12
                      subst ei_12
                      exact ih3 (i3 + 1) V13 O3 _ _ _ (by omega) (by omega) (⟨hs3, hF3, lo_skip hO3 h20 (by simp [h5_10]), by omega⟩) hV hS (lv_sub hl [2, 3, 0] rfl)
                    · obtain ⟨t_11, e1_t_11, e2_t_11, h_t_11, ha_t_11⟩ := thO_some hs3.1.ts (show i3 < 150 by omega) h5_10
                      rw [e1_t_11]
                      refine W.eq (g2 := F0 m 98 ls [.ref t_11]) rfl ?_
                      refine lv_astore_n (lv' := [(3, .ref t_11), (0, .ref b.co), (1, .int ne), (2, .int (nI i3))]) hx hb d_Co_layOut_98 rfl hl (by decide) rfl (fun ls hl => ?_)
                      refine lv_aload_n hx hb d_Co_layOut_99 rfl (lv_at hl 0 rfl) ?_
                      refine lv_ifnull hx hb d_Co_layOut_100 ?_
                      refine lv_aload_n hx hb d_Co_layOut_103 rfl (lv_at hl 0 rfl) ?_
                      refine gf_Co_93 hx hb hW hown hG hV h_t_11 d_Co_layOut_104 ?_
                      refine lv_iload_n hx hb d_Co_layOut_107 rfl (lv_at hl 2 rfl) ?_
                      refine lv_icmp_ne (tgt := 120) hx hb d_Co_layOut_108 (by decide) (fun c_13 => ?_) (fun c_13 => ?_)
                      · obtain ⟨i_14, ei_14⟩ : ∃ y : Int32, y = (nI i3) + 1 := ⟨_, rfl⟩
                        refine lv_iinc (v := i_14) (lv' := [(2, .int i_14), (3, .ref t_11), (0, .ref b.co), (1, .int ne)]) hx hb d_Co_layOut_120 hl (k := 3) rfl (by rw [ei_14]; rfl) (by decide) rfl (fun ls hl => ?_)
                        refine lv_goto (tgt := 86) hx hb d_Co_layOut_123 (by decide) ?_
                        rw [nI_1] at ei_14
                        subst ei_14
                        exact ih3 (i3 + 1) V13 O3 _ _ _ (by omega) (by omega) (⟨hs3, hF3, lo_skip hO3 h20 (by simp [c_13]), by omega⟩) hV hS (lv_sub hl [2, 3, 0] rfl)
                      · refine lv_aload_n hx hb d_Co_layOut_111 rfl (lv_at hl 1 rfl) ?_
                        refine lv_aload_n hx hb d_Co_layOut_112 rfl (lv_at hl 1 rfl) ?_
                        refine gf_Co_35 hx hb hW hown hG hV hs3.1.co d_Co_layOut_113 ?_
                        refine lv_aload_n hx hb d_Co_layOut_116 rfl (lv_at hl 0 rfl) ?_
                        refine rc_V (va_runV (As := [.ref b.on, .ref t_11]) (rest := []) ⟨hx, hb, hml, hown, hts⟩ (c_Co_layOn_on l D N0 k V13 b σ O3 R2 hs3 i3 t_11 (by omega) e2_t_11) (cwV 2 hts (gi_V wm_Co_131 wv_Co_layOn ws_Co_layOn wi_Co wc_Co_layOn) rfl rfl rfl (by decide +kernel) ⟨Nat.le_of_ble_eq_true rfl, Nat.le_of_ble_eq_true rfl⟩) (mP.preV hG hS hV hs3.1.co rfl) rfl rfl hl.1 rfl (lv_room (Nat.le_of_ble_eq_true rfl)) d_Co_layOut_117 ⟨Nat.le_of_ble_eq_true rfl, Nat.le_of_ble_eq_true rfl⟩) hS (fun V_15 H locs hp_16 hV hS => ?_)
                        obtain ⟨F_17, hq_18, hq_18f, e_F_17⟩ := hp_16
                        obtain ⟨hz_19, hz_19a⟩ := hq_18.1.ts.2.1 i3 t_11 (by omega) e2_t_11
                        obtain ⟨i_20, ei_20⟩ : ∃ y : Int32, y = (nI i3) + 1 := ⟨_, rfl⟩
                        refine lv_iinc (v := i_20) (lv' := [(2, .int i_20), (3, .ref t_11), (0, .ref b.co), (1, .int ne)]) hx hb d_Co_layOut_120 hl (k := 3) rfl (by rw [ei_20]; rfl) (by decide) rfl (fun ls hl => ?_)
                        refine lv_goto (tgt := 86) hx hb d_Co_layOut_123 (by decide) ?_
                        rw [nI_1] at ei_20
                        subst ei_20
                        exact ih3 (i3 + 1) V_15 F_17 _ _ _ (by omega) (by omega) (⟨hq_18, hF3.tr hq_18f, lo_lay hO3 h20 (by simp [h5_10, c_13]) e_F_17, by omega⟩) hV hS (lv_sub hl [2, 3, 0] rfl)
              exact loop_5 (140 + 1 - 20) 20 V12 O2 _ _ _ (by omega) (by omega) (⟨hs2, hF2, fun _ _ _ _ => rfl, by omega⟩) hV hS (lv_sub hl [1, 2, 0] rfl)
            · have hlt2 : i2 < 150 := nI_nle' (a := 150) (b := i2) c_4 (by decide) (by omega)
              refine lv_aload_n hx hb d_Co_layOut_45 rfl (lv_at hl 0 rfl) ?_
              refine lv_iload_n hx hb d_Co_layOut_46 rfl (lv_at hl 2 rfl) ?_
              refine rc_Q (va_runV (As := [.int (nI i2)]) (rest := []) ⟨hx, hb, hml, hown, hts⟩ (c_Co_thereAt l D N0 k V12 b.co b.ta b.ro b.on b.re (nI σ.nl) σ.g hs2.1.co b.f b.ar σ.T hs2.1.ts i2 (by omega)) (cwV 1 hts (gi_V wm_Co_46 wv_Co_thereAt ws_Co_thereAt wi_Co wc_Co_thereAt) rfl rfl rfl (by decide +kernel) ⟨Nat.le_of_ble_eq_true rfl, Nat.le_of_ble_eq_true rfl⟩) (mP.preV hG hS hV hs2.1.co rfl) rfl rfl hl.1 rfl (lv_room (Nat.le_of_ble_eq_true rfl)) d_Co_layOut_47 ⟨Nat.le_of_ble_eq_true rfl, Nat.le_of_ble_eq_true rfl⟩) hS (fun r_21 V_22 H locs hp_23 hV hS => ?_)
              obtain ⟨er_r_21, ev_r_21⟩ := hp_23
              rw [ev_r_21] at hV
              rw [er_r_21]
              by_cases h5_24 : σ.T i2 5 = 0
              · rw [thO_none h5_24]
                refine W.eq (g2 := F0 m 50 ls [.null]) rfl ?_
                refine lv_astore_nN (lv' := [(3, .null), (0, .ref b.co), (1, .int ne), (2, .int (nI i2))]) hx hb d_Co_layOut_50 rfl hl (by decide) rfl (fun ls hl => ?_)
                refine lv_aload_nN hx hb d_Co_layOut_51 rfl (lv_at hl 0 rfl) ?_
                refine lv_ifnullN (tgt := 77) hx hb d_Co_layOut_52 (by decide) ?_
                obtain ⟨i_26, ei_26⟩ : ∃ y : Int32, y = (nI i2) + 1 := ⟨_, rfl⟩
                refine lv_iinc (v := i_26) (lv' := [(2, .int i_26), (3, .null), (0, .ref b.co), (1, .int ne)]) hx hb d_Co_layOut_77 hl (k := 3) rfl (by rw [ei_26]; rfl) (by decide) rfl (fun ls hl => ?_)
                refine lv_goto (tgt := 38) hx hb d_Co_layOut_80 (by decide) ?_
                rw [nI_1] at ei_26
                subst ei_26
                exact ih2 (i2 + 1) V12 O2 R2 _ _ _ (by omega) (by omega) (⟨hs2, hF2, hZ2, pl_skip hP2 h140 (fun l => by simp [plP, h5_24]), by omega⟩) hV hS (lv_sub hl [2, 3, 0] rfl)
              · obtain ⟨t_25, e1_t_25, e2_t_25, h_t_25, ha_t_25⟩ := thO_some hs2.1.ts (show i2 < 150 by omega) h5_24
                rw [e1_t_25]
                refine W.eq (g2 := F0 m 50 ls [.ref t_25]) rfl ?_
                refine lv_astore_n (lv' := [(3, .ref t_25), (0, .ref b.co), (1, .int ne), (2, .int (nI i2))]) hx hb d_Co_layOut_50 rfl hl (by decide) rfl (fun ls hl => ?_)
                refine lv_aload_n hx hb d_Co_layOut_51 rfl (lv_at hl 0 rfl) ?_
                refine lv_ifnull hx hb d_Co_layOut_52 ?_
                refine lv_aload_n hx hb d_Co_layOut_55 rfl (lv_at hl 0 rfl) ?_
                refine gf_Co_93 hx hb hW hown hG hV h_t_25 d_Co_layOut_56 ?_
                refine lv_iload_n hx hb d_Co_layOut_59 rfl (lv_at hl 2 rfl) ?_
                refine lv_icmp_ne (tgt := 77) hx hb d_Co_layOut_60 (by decide) (fun c_27 => ?_) (fun c_27 => ?_)
                · obtain ⟨i_28, ei_28⟩ : ∃ y : Int32, y = (nI i2) + 1 := ⟨_, rfl⟩
                  refine lv_iinc (v := i_28) (lv' := [(2, .int i_28), (3, .ref t_25), (0, .ref b.co), (1, .int ne)]) hx hb d_Co_layOut_77 hl (k := 3) rfl (by rw [ei_28]; rfl) (by decide) rfl (fun ls hl => ?_)
                  refine lv_goto (tgt := 38) hx hb d_Co_layOut_80 (by decide) ?_
                  rw [nI_1] at ei_28
                  subst ei_28
                  exact ih2 (i2 + 1) V12 O2 R2 _ _ _ (by omega) (by omega) (⟨hs2, hF2, hZ2, pl_skip hP2 h140 (fun l => by simp [plP, c_27]), by omega⟩) hV hS (lv_sub hl [2, 3, 0] rfl)
                · refine lv_aload_n hx hb d_Co_layOut_63 rfl (lv_at hl 1 rfl) ?_
                  refine lv_aload_n hx hb d_Co_layOut_64 rfl (lv_at hl 1 rfl) ?_
                  refine gf_Co_35 hx hb hW hown hG hV hs2.1.co d_Co_layOut_65 ?_
                  refine lv_aload_n hx hb d_Co_layOut_68 rfl (lv_at hl 0 rfl) ?_
                  refine gf_Co_86 hx hb hW hown hG hV h_t_25 d_Co_layOut_69 ?_
                  obtain ⟨L, hL, eL⟩ := hPl i2 h140 hlt2 h5_24
                  rw [eL]
                  refine W.eq (g2 := F0 m 72 ls [.int (nI L), .ref b.on, .ref b.co]) rfl ?_
                  refine hv_aald (v := b.fo L) hx hb hG.K hV 6 hs2.1.on rfl (vp_in_nI (by omega) (by omega)) (by rw [nI_clamp (by omega)]) d_Co_layOut_72 ?_
                  obtain ⟨hz_29a, hz_29b, -, hz_29c, hz_29d, -⟩ := hs2.1.os L hL
                  rw [hz_29a]
                  refine W.eq (g2 := F0 m 73 ls [.ref (b.os L), .ref b.co]) rfl ?_
                  refine lv_aload_n hx hb d_Co_layOut_73 rfl (lv_at hl 0 rfl) ?_
                  obtain ⟨Q_30, hQ_30⟩ := hs2.1.rq
                  refine rc_V (va_runV (As := [.ref (b.os L), .ref t_25]) (rest := []) ⟨hx, hb, hml, hown, hts⟩ (c_Co_fill l D N0 k V12 b.co b.ta b.ro b.on b.re (nI σ.nl) σ.g hs2.1.co b.f b.ar σ.T hs2.1.ts (b.os L) (b.oR L) (O2 L) hz_29b (hs2.2 L hL).1 b.rq Q_30 hs2.1.ro hQ_30 (fun z => by have a1 := (hs2.1.lab.ls L hL).2.1; have a2 := hs2.1.lab.l9; rw [← z] at a1; omega) t_25 (b.ar i2) (σ.T i2 0) (σ.T i2 1) (σ.T i2 2) (σ.T i2 3) (σ.T i2 4) (σ.T i2 5) h_t_25) (cwV 2 hts (gi_V wm_Co_73 wv_Co_fill ws_Co_fill wi_Co wc_Co_fill) rfl rfl rfl (by decide +kernel) ⟨Nat.le_of_ble_eq_true rfl, Nat.le_of_ble_eq_true rfl⟩) (mP.preV hG hS hV hs2.1.co rfl) rfl rfl hl.1 rfl (lv_room (Nat.le_of_ble_eq_true rfl)) d_Co_layOut_74 ⟨Nat.le_of_ble_eq_true rfl, Nat.le_of_ble_eq_true rfl⟩) hS (fun V_31 H locs hp_32 hV hS => ?_)
                  obtain ⟨q_34, g_33, ev_g_33, -, hC_g_33⟩ := hp_32
                  obtain ⟨hq_35q, hq_35qf⟩ := sh_setQ hs2 q_34
                  obtain ⟨hq_35, hq_35f⟩ := sh_setO hq_35q (i := L) hL g_33
                  rw [← ev_g_33] at hq_35 hq_35f
                  obtain ⟨hz_36, hz_36a⟩ := hq_35.1.ts.2.1 i2 t_25 (by omega) e2_t_25
                  obtain ⟨i_37, ei_37⟩ : ∃ y : Int32, y = (nI i2) + 1 := ⟨_, rfl⟩
                  refine lv_iinc (v := i_37) (lv' := [(2, .int i_37), (3, .ref t_25), (0, .ref b.co), (1, .int ne)]) hx hb d_Co_layOut_77 hl (k := 3) rfl (by rw [ei_37]; rfl) (by decide) rfl (fun ls hl => ?_)
                  refine lv_goto (tgt := 38) hx hb d_Co_layOut_80 (by decide) ?_
                  rw [nI_1] at ei_37
                  subst ei_37
                  exact ih2 (i2 + 1) V_31 (updT O2 L g_33) R2 _ _ _ (by omega) (by omega) (⟨hq_35, (hF2.tr hq_35qf).tr hq_35f, hZ2, pl_fill hP2 h140 hL hn4 h5_24 c_27 eL hC_g_33, by omega⟩) hV hS (lv_sub hl [2, 3, 0] rfl)
        exact loop_3 (150 + 1 - 140) 140 V1 O1 R1 _ _ _ (by omega) (by omega) (⟨hs1, hF1, fun l hl j hj => (hZ l (by omega) j hj).2, pl_0 (fun l hl j hj => (hZ l (by omega) j hj).1), by omega⟩) hV hS (lv_sub hl [1, 2, 0] rfl)
      · have hlt : i < σ.nl := nI_nle' c_2 (by omega) (by omega)
        refine lv_aload_n hx hb d_Co_layOut_10 rfl (lv_at hl 0 rfl) ?_
        refine gf_Co_35 hx hb hW hown hG hV hs1.1.co d_Co_layOut_11 ?_
        refine lv_iload_n hx hb d_Co_layOut_14 rfl (lv_at hl 2 rfl) ?_
        refine hv_aald (v := b.fo i) hx hb hG.K hV 6 hs1.1.on rfl (vp_in_nI (by omega) (by omega)) (by rw [nI_clamp (by omega)]) d_Co_layOut_15 ?_
        obtain ⟨hz_38a, hz_38b, -, hz_38c, hz_38d, -⟩ := hs1.1.os i hlt
        rw [hz_38a]
        refine W.eq (g2 := F0 m 16 ls [.ref (b.os i)]) rfl ?_
        refine rc_V (va_runV (As := []) (rest := []) ⟨hx, hb, hml, hown, hts⟩ (c_Sh_clear l D N0 k V1 (b.os i) (b.oR i) (O1 i) hz_38b (hs1.2 i hlt).1) (cwV 0 hts (gi_V wm_Co_83 wv_Sh_clear ws_Sh_clear wi_Sh wc_Sh_clear) rfl rfl rfl (by decide +kernel) ⟨Nat.le_of_ble_eq_true rfl, Nat.le_of_ble_eq_true rfl⟩) (mP.preV hG hS hV hz_38b rfl) rfl rfl hl.1 rfl (lv_room (Nat.le_of_ble_eq_true rfl)) d_Co_layOut_16 ⟨Nat.le_of_ble_eq_true rfl, Nat.le_of_ble_eq_true rfl⟩) hS (fun V_39 H locs hp_40 hV hS => ?_)
        obtain ⟨g_41, ev_g_41, hg_g_41⟩ := hp_40
        obtain ⟨hq_42, hq_42f⟩ := sh_setO hs1 (i := i) hlt g_41
        rw [← ev_g_41] at hq_42 hq_42f
        refine lv_aload_n hx hb d_Co_layOut_19 rfl (lv_at hl 0 rfl) ?_
        refine gf_Co_39 hx hb hW hown hG hV hq_42.1.co d_Co_layOut_20 ?_
        refine lv_iload_n hx hb d_Co_layOut_23 rfl (lv_at hl 2 rfl) ?_
        refine hv_aald (v := b.fs i) hx hb hG.K hV 6 hq_42.1.re rfl (vp_in_nI (by omega) (by omega)) (by rw [nI_clamp (by omega)]) d_Co_layOut_24 ?_
        obtain ⟨hz_43a, hz_43b, -, hz_43c, hz_43d, -⟩ := hq_42.1.os i hlt
        rw [hz_43c]
        refine W.eq (g2 := F0 m 25 ls [.ref (b.ss i)]) rfl ?_
        refine rc_V (va_runV (As := []) (rest := []) ⟨hx, hb, hml, hown, hts⟩ (c_Sh_clear l D N0 k V_39 (b.ss i) (b.sR i) (R1 i) hz_43d (hq_42.2 i hlt).2) (cwV 0 hts (gi_V wm_Co_83 wv_Sh_clear ws_Sh_clear wi_Sh wc_Sh_clear) rfl rfl rfl (by decide +kernel) ⟨Nat.le_of_ble_eq_true rfl, Nat.le_of_ble_eq_true rfl⟩) (mP.preV hG hS hV hz_43d rfl) rfl rfl hl.1 rfl (lv_room (Nat.le_of_ble_eq_true rfl)) d_Co_layOut_25 ⟨Nat.le_of_ble_eq_true rfl, Nat.le_of_ble_eq_true rfl⟩) hS (fun V_44 H locs hp_45 hV hS => ?_)
        obtain ⟨g_46, ev_g_46, hg_g_46⟩ := hp_45
        obtain ⟨hq_47, hq_47f⟩ := sh_setR hq_42 (i := i) hlt g_46
        rw [← ev_g_46] at hq_47 hq_47f
        obtain ⟨i_48, ei_48⟩ : ∃ y : Int32, y = (nI i) + 1 := ⟨_, rfl⟩
        refine lv_iinc (v := i_48) (lv' := [(2, .int i_48), (0, .ref b.co), (1, .int ne)]) hx hb d_Co_layOut_28 hl (k := 2) rfl (by rw [ei_48]; rfl) (by decide) rfl (fun ls hl => ?_)
        refine lv_goto (tgt := 2) hx hb d_Co_layOut_31 (by decide) ?_
        rw [nI_1] at ei_48
        subst ei_48
        exact ih (i + 1) V_44 (updT O1 i g_41) (updT R1 i g_46) _ _ _ (by omega) (by omega) (⟨hq_47, (hF1.tr hq_42f).tr hq_47f, z_step hZ hg_g_41 hg_g_46⟩) hV hS (lv_sub hl [1, 2, 0] rfl)
  exact loop_1 (σ.nl + 1 - 0) 0 V O R _ _ _ (by omega) (by omega) (⟨hsh, hsFr.rf, fun l hl => by omega⟩) hV hS (lv_sub hl [1, 2, 0] rfl)
set_option maxHeartbeats 4000000 in
set_option maxRecDepth 100000 in
/-- countIslands -/
theorem c_Co_countIslands (l : Launch) (D : va_G) (N0 : Nat) (k : Nat → Nat) (V : HV) (b : HA) (σ : HS) (hH : hsOk k V b σ) (ne : Int32) (hG0 : ptG σ.T ne) (hPl : plG σ) : Met l y_Co_countIslands (.code y_Co_countIslands b_Co_countIslands 5 (some .int) :: WS) ({ frames := 6, cells := 0, slots := 0, locals := 140 }) (mP D N0 k [.ref b.co, .int ne] V) (va_Qi (fun r V' => ∃ O R c, hsOk k V' b σ ∧ hsFr b b V V' ∧ ldO σ ne O ∧ islR σ.nl σ.T ne O 120 R c ∧ r = nI c) (mB D N0) (hA N0)) 0 0 (hA N0) := by
  refine Met.ofW (cc := b_Co_countIslands) (maxL := 5) (ret := (some .int)) (by decide) rfl ?_
  intro p e s m args below meth c s₁ B hml hv0
  obtain ⟨rfl, hG, hV⟩ := hv0
  have hx := B.exec
  have hb := B.bytes
  have hr := B.returns
  have hts := atoms_spec (ws := .code y_Co_countIslands b_Co_countIslands 5 (some .int) :: WS) B.pre
  have hW : ∀ w ∈ WS, w.before _ s = true := fun w h => hts w (List.mem_cons_of_mem _ h)
  have hown : s.vm.findClass "BoardHouse$Copper" = some m.cls := findClass_of_methodNamed B.named
  have hlocks := B.notSynchronized
  have hS : va_S (hA N0) s.heap s.heap [] := va_S.rf
  have hl := lv_entry ([.ref b.co, .int ne]) (n := 5) (Nat.le_of_ble_eq_true rfl)
  rw [lg_entry_eq]
  generalize (lg_sl ([.ref b.co, .int ne]) ++ List.replicate (5 - (lg_sl ([.ref b.co, .int ne])).length) Slot.unset).toArray = ls at hl ⊢
  have hl : lv_has ls 5 [(0, .ref b.co), (1, .int ne)] := hl
  obtain ⟨O, R, hsh⟩ := sh_of hH
  have hn4 := hsh.1.n4
  have hn1 := hsh.1.n1
  refine lv_aload_n hx hb d_Co_countIslands_0 rfl (lv_at hl 0 rfl) ?_
  refine lv_iload_n hx hb d_Co_countIslands_1 rfl (lv_at hl 1 rfl) ?_
  refine rc_V (va_runV (As := [.int ne]) (rest := []) ⟨hx, hb, hml, hown, hts⟩ (c_Co_layOut l D N0 k V b σ O R hsh ne hPl) (cwV 1 hts (gi_V wm_Co_116 wv_Co_layOut ws_Co_layOut wi_Co wc_Co_layOut) rfl rfl rfl (by decide +kernel) ⟨Nat.le_of_ble_eq_true rfl, Nat.le_of_ble_eq_true rfl⟩) (mP.preV hG hS hV hsh.1.co rfl) rfl rfl hl.1 rfl (lv_room (Nat.le_of_ble_eq_true rfl)) d_Co_countIslands_2 ⟨Nat.le_of_ble_eq_true rfl, Nat.le_of_ble_eq_true rfl⟩) hS (fun V_1 H locs hp_2 hV hS => ?_)
  obtain ⟨Ob, Rb, hq_3, hq_3f, hzR, hld⟩ := hp_2
  refine lv_iconst (v := 0) hx hb d_Co_countIslands_5 (by decide) ?_
  refine lv_istore_n (lv' := [(2, .int 0), (0, .ref b.co), (1, .int ne)]) hx hb d_Co_countIslands_6 rfl hl (by decide) rfl (fun ls hl => ?_)
  refine lv_bipush (v := 20) hx hb d_Co_countIslands_7 (by decide) ?_
  refine lv_istore_n (lv' := [(3, .int 20), (2, .int 0), (0, .ref b.co), (1, .int ne)]) hx hb d_Co_countIslands_9 rfl hl (by decide) rfl (fun ls hl => ?_)
  have loop_4 : ∀ (n i : Nat) (V1 : HV) (R1 : Nat → Nat → Int32) (c0 : Nat) (H : Heap) (locs : List Loc) (ls : Array Slot), i ≤ 140 → 140 + 1 ≤ i + n → (shS k V1 b σ Ob R1 ∧ hsFr b b V V1 ∧ islR σ.nl σ.T ne Ob (i - 20) R1 c0 ∧ mClo σ.nl σ.T ne Ob R1 ∧ 20 ≤ i) → hv D vwCl N0 V1 H → va_S (hA N0) s.heap H locs → lv_has ls 5 [(0, .ref b.co), (1, .int ne), (2, .int (nI c0)), (3, .int (nI i))] → W p l e (headSpec (.code y_Co_countIslands b_Co_countIslands 5 (some .int) :: WS) ({ frames := 6, cells := 0, slots := 0, locals := 140 })).room s m #[.ref b.co, .int ne] below meth c H locs 0 0 (MQ below (va_Qi (fun r V' => ∃ O R c, hsOk k V' b σ ∧ hsFr b b V V' ∧ ldO σ ne O ∧ islR σ.nl σ.T ne O 120 R c ∧ r = nI c) (mB D N0) (hA N0)) #[.ref b.co, .int ne] s 0 0 (hA N0)) (F0 m 10 ls []) := by
    intro n
    induction n with
    | zero => intro i V1 R1 c0 H locs ls h1 h2; exact absurd h2 (by omega)
    | succ n ih =>
      intro i V1 R1 c0 H locs ls hi hin hI hV hS hl
      obtain ⟨hs1, hF1, hIs, hMc, h20⟩ := hI
      refine lv_iload_n hx hb d_Co_countIslands_10 rfl (lv_at hl 3 rfl) ?_
      refine lv_sipush (v := 140) hx hb d_Co_countIslands_11 (by decide) ?_
      refine lv_icmp_ge (tgt := 54) hx hb d_Co_countIslands_14 (by decide) (fun c_5 => ?_) (fun c_5 => ?_)
      · have hge : 140 ≤ i := nI_le' (a := 140) (b := i) c_5 (by decide) (by omega)
        refine lv_iload_n hx hb d_Co_countIslands_54 rfl (lv_at hl 2 rfl) ?_
        exact W.iret (v := (nI c0)) hx hb hr (fun t9 ht hW => ⟨⟨(nI c0), V1, rfl, ⟨Ob, R1, c0, hs1.1, hF1, hld, by rw [← show i - 20 = 120 by omega]; exact hIs, rfl⟩, mB_of ht hV⟩, hS.F ht⟩) hS.2.2 d_Co_countIslands_55
      · have hlt : i < 140 := nI_nle' (a := 140) (b := i) c_5 (by decide) (by omega)
        refine lv_aload_n hx hb d_Co_countIslands_17 rfl (lv_at hl 0 rfl) ?_
        refine lv_iload_n hx hb d_Co_countIslands_18 rfl (lv_at hl 3 rfl) ?_
        refine lv_iload_n hx hb d_Co_countIslands_19 rfl (lv_at hl 1 rfl) ?_
        refine rc_Q (va_runV (As := [.int (nI i), .int ne]) (rest := []) ⟨hx, hb, hml, hown, hts⟩ (c_Co_pointAt l D N0 k V1 b σ Ob R1 hs1 i (by omega) ne) (cwV 2 hts (gi_V wm_Co_120 wv_Co_pointAt ws_Co_pointAt wi_Co wc_Co_pointAt) rfl rfl rfl (by decide +kernel) ⟨Nat.le_of_ble_eq_true rfl, Nat.le_of_ble_eq_true rfl⟩) (mP.preV hG hS hV hs1.1.co rfl) rfl rfl hl.1 rfl (lv_room (Nat.le_of_ble_eq_true rfl)) d_Co_countIslands_20 ⟨Nat.le_of_ble_eq_true rfl, Nat.le_of_ble_eq_true rfl⟩) hS (fun r_6 V_7 H locs hp_8 hV hS => ?_)
        obtain ⟨er_r_6, ev_r_6⟩ := hp_8
        rw [ev_r_6] at hV
        rw [er_r_6, ptO]
        cases hpt_9 : ptP σ.T ne i with
        | false =>
          refine W.eq (g2 := F0 m 23 ls [.null]) rfl ?_
          refine lv_astoreN (lv' := [(4, .null), (0, .ref b.co), (1, .int ne), (2, .int (nI c0)), (3, .int (nI i))]) hx hb d_Co_countIslands_23 hl (by decide) rfl (fun ls hl => ?_)
          refine lv_aloadN hx hb d_Co_countIslands_25 (lv_at hl 0 rfl) ?_
          refine lv_ifnullN (tgt := 48) hx hb d_Co_countIslands_27 (by decide) ?_
          obtain ⟨i_11, ei_11⟩ : ∃ y : Int32, y = (nI i) + 1 := ⟨_, rfl⟩
          refine lv_iinc (v := i_11) (lv' := [(3, .int i_11), (4, .null), (0, .ref b.co), (1, .int ne), (2, .int (nI c0))]) hx hb d_Co_countIslands_48 hl (k := 4) rfl (by rw [ei_11]; rfl) (by decide) rfl (fun ls hl => ?_)
          refine lv_goto (tgt := 10) hx hb d_Co_countIslands_51 (by decide) ?_
          rw [nI_1] at ei_11
          subst ei_11
          exact ih (i + 1) V1 R1 c0 _ _ _ (by omega) (by omega) (⟨hs1, hF1, isl_f hIs h20 (Or.inl hpt_9), hMc, by omega⟩) hV hS (lv_sub hl [2, 3, 4, 0] rfl)
        | true =>
          have h5_t_10 : ¬ σ.T i 5 = 0 := fun q => by rw [ptP, q] at hpt_9; simp at hpt_9
          obtain ⟨t_10, -, e2_t_10, h_t_10, ha_t_10⟩ := thO_some hs1.1.ts (show i < 150 by omega) h5_t_10
          rw [e2_t_10]
          refine W.eq (g2 := F0 m 23 ls [.ref t_10]) rfl ?_
          refine lv_astore (lv' := [(4, .ref t_10), (0, .ref b.co), (1, .int ne), (2, .int (nI c0)), (3, .int (nI i))]) hx hb d_Co_countIslands_23 hl (by decide) rfl (fun ls hl => ?_)
          refine lv_aload hx hb d_Co_countIslands_25 (lv_at hl 0 rfl) ?_
          refine lv_ifnull hx hb d_Co_countIslands_27 ?_
          refine lv_aload_n hx hb d_Co_countIslands_30 rfl (lv_at hl 1 rfl) ?_
          refine lv_aload hx hb d_Co_countIslands_31 (lv_at hl 0 rfl) ?_
          refine rc_i (va_runV (As := [.ref t_10]) (rest := []) ⟨hx, hb, hml, hown, hts⟩ (c_Co_isReached l D N0 k V1 b σ Ob R1 hs1 i t_10 (by omega) e2_t_10 ne hG0 (by omega) (by omega) hpt_9) (cwV 1 hts (gi_V wm_Co_124 wv_Co_isReached ws_Co_isReached wi_Co wc_Co_isReached) rfl rfl rfl (by decide +kernel) ⟨Nat.le_of_ble_eq_true rfl, Nat.le_of_ble_eq_true rfl⟩) (mP.preV hG hS hV hs1.1.co rfl) rfl rfl hl.1 rfl (lv_room (Nat.le_of_ble_eq_true rfl)) d_Co_countIslands_33 ⟨Nat.le_of_ble_eq_true rfl, Nat.le_of_ble_eq_true rfl⟩) hS (fun H locs hV hS => ?_)
          refine lv_if_ne (tgt := 48) hx hb d_Co_countIslands_36 (by decide) (fun c_12 => ?_) (fun c_12 => ?_)
          · obtain ⟨i_13, ei_13⟩ : ∃ y : Int32, y = (nI i) + 1 := ⟨_, rfl⟩
            refine lv_iinc (v := i_13) (lv' := [(3, .int i_13), (4, .ref t_10), (0, .ref b.co), (1, .int ne), (2, .int (nI c0))]) hx hb d_Co_countIslands_48 hl (k := 4) rfl (by rw [ei_13]; rfl) (by decide) rfl (fun ls hl => ?_)
            refine lv_goto (tgt := 10) hx hb d_Co_countIslands_51 (by decide) ?_
            rw [nI_1] at ei_13
            subst ei_13
            exact ih (i + 1) V1 R1 c0 _ _ _ (by omega) (by omega) (⟨hs1, hF1, isl_f hIs h20 (Or.inr (bI_ne0.mp c_12)), hMc, by omega⟩) hV hS (lv_sub hl [2, 3, 4, 0] rfl)
          · obtain ⟨i_14, ei_14⟩ : ∃ y : Int32, y = (nI c0) + 1 := ⟨_, rfl⟩
            refine lv_iinc (v := i_14) (lv' := [(2, .int i_14), (4, .ref t_10), (0, .ref b.co), (1, .int ne), (3, .int (nI i))]) hx hb d_Co_countIslands_39 hl (k := 3) rfl (by rw [ei_14]; rfl) (by decide) rfl (fun ls hl => ?_)
            refine lv_aload_n hx hb d_Co_countIslands_42 rfl (lv_at hl 2 rfl) ?_
            refine lv_aload hx hb d_Co_countIslands_43 (lv_at hl 1 rfl) ?_
            refine rc_V (va_runV (As := [.ref t_10]) (rest := []) ⟨hx, hb, hml, hown, hts⟩ (c_Co_reachFrom l D N0 k V1 b σ Ob R1 hs1 i t_10 (by omega) e2_t_10 ne hG0 (by omega) (by omega) hpt_9 hMc.2) (cwV 1 hts (gi_V wm_Co_127 wv_Co_reachFrom ws_Co_reachFrom wi_Co wc_Co_reachFrom) rfl rfl rfl (by decide +kernel) ⟨Nat.le_of_ble_eq_true rfl, Nat.le_of_ble_eq_true rfl⟩) (mP.preV hG hS hV hs1.1.co rfl) rfl rfl hl.1 rfl (lv_room (Nat.le_of_ble_eq_true rfl)) d_Co_countIslands_45 ⟨Nat.le_of_ble_eq_true rfl, Nat.le_of_ble_eq_true rfl⟩) hS (fun V_15 H locs hp_16 hV hS => ?_)
            obtain ⟨F_17, hq_18, hq_18f, m_F_17⟩ := hp_16
            obtain ⟨hz_19, hz_19a⟩ := hq_18.1.ts.2.1 i t_10 (by omega) e2_t_10
            obtain ⟨i_20, ei_20⟩ : ∃ y : Int32, y = (nI i) + 1 := ⟨_, rfl⟩
            refine lv_iinc (v := i_20) (lv' := [(3, .int i_20), (2, .int i_14), (4, .ref t_10), (0, .ref b.co), (1, .int ne)]) hx hb d_Co_countIslands_48 hl (k := 4) rfl (by rw [ei_20]; rfl) (by decide) rfl (fun ls hl => ?_)
            refine lv_goto (tgt := 10) hx hb d_Co_countIslands_51 (by decide) ?_
            rw [nI_1] at ei_20
            subst ei_20
            rw [nI_1] at ei_14
            subst ei_14
            exact ih (i + 1) V_15 F_17 (c0 + 1) _ _ _ (by omega) (by omega) (⟨hq_18, hF1.tr hq_18f, isl_t hIs h20 hpt_9 (bI_eq0.mp c_12) m_F_17, m_F_17.2.2, by omega⟩) hV hS (lv_sub hl [3, 4, 1, 0] rfl)
  exact loop_4 (140 + 1 - 20) 20 V_1 Rb 0 _ _ _ (by omega) (by omega) (⟨hq_3, (hsFr.rf (a := b) (V := V)).tr hq_3f, ⟨hzR, rfl⟩, mClo_0 hG0 hzR, by omega⟩) hV hS (lv_sub hl [2, 3, 1, 0] rfl)
set_option maxHeartbeats 4000000 in
set_option maxRecDepth 100000 in
/-- countFilled -/
theorem c_Co_countFilled (l : Launch) (D : va_G) (N0 : Nat) (k : Nat → Nat) (V : HV) (b : HA) (σ : HS) (hH : hsOk k V b σ) (p0 t : Nat) (hp : p0 < 150) (hf : b.f p0 = some t) : Met l y_Co_countFilled (.code y_Co_countFilled b_Co_countFilled 3 (some .int) :: WS) ({ frames := 4, cells := 0, slots := 0, locals := 99 }) (mP D N0 k [.ref b.co, .ref t] V) (va_Qi (fun r V' => ∃ G, hsOk k V' b σ ∧ hsFr b b V V' ∧ Clo (flR σ.T (σ.T p0 2) (σ.T p0 3) σ.g 120) (fun j => flO σ.T (σ.T p0 2) (σ.T p0 3) 120 j &&& flR σ.T (σ.T p0 2) (σ.T p0 3) σ.g 120 j) G ∧ r = szF (fun j => jb_cnt (G j)) 0 24) (mB D N0) (hA N0)) 0 0 (hA N0) := by
  refine Met.ofW (cc := b_Co_countFilled) (maxL := 3) (ret := (some .int)) (by decide) rfl ?_
  intro p e s m args below meth c s₁ B hml hv0
  obtain ⟨rfl, hG, hV⟩ := hv0
  have hx := B.exec
  have hb := B.bytes
  have hr := B.returns
  have hts := atoms_spec (ws := .code y_Co_countFilled b_Co_countFilled 3 (some .int) :: WS) B.pre
  have hW : ∀ w ∈ WS, w.before _ s = true := fun w h => hts w (List.mem_cons_of_mem _ h)
  have hown : s.vm.findClass "BoardHouse$Copper" = some m.cls := findClass_of_methodNamed B.named
  have hlocks := B.notSynchronized
  have hS : va_S (hA N0) s.heap s.heap [] := va_S.rf
  have hl := lv_entry ([.ref b.co, .ref t]) (n := 3) (Nat.le_of_ble_eq_true rfl)
  rw [lg_entry_eq]
  generalize (lg_sl ([.ref b.co, .ref t]) ++ List.replicate (3 - (lg_sl ([.ref b.co, .ref t])).length) Slot.unset).toArray = ls at hl ⊢
  have hl : lv_has ls 3 [(0, .ref b.co), (1, .ref t)] := hl
  obtain ⟨O, R, hsh⟩ := sh_of hH
  have hn4 := hsh.1.n4
  have hn1 := hsh.1.n1
  obtain ⟨hz_1, hz_1a⟩ := hsh.1.ts.2.1 p0 t hp hf
  refine lv_aload_n hx hb d_Co_countFilled_0 rfl (lv_at hl 0 rfl) ?_
  refine gf_Co_39 hx hb hW hown hG hV hsh.1.co d_Co_countFilled_1 ?_
  refine lv_iconst (v := 0) hx hb d_Co_countFilled_4 (by decide) ?_
  refine W.eq (g2 := F0 m 5 ls [.int (nI 0), .ref b.re]) rfl ?_
  refine hv_aald (v := b.fs 0) hx hb hG.K hV 6 hsh.1.re rfl (vp_in_nI (by omega) (by omega)) (by rw [nI_clamp (by omega)]) d_Co_countFilled_5 ?_
  obtain ⟨hz_2a, hz_2b, -, hz_2c, hz_2d, -⟩ := hsh.1.os 0 (by omega)
  rw [hz_2c]
  refine W.eq (g2 := F0 m 6 ls [.ref (b.ss 0)]) rfl ?_
  refine lv_astore_n (lv' := [(2, .ref (b.ss 0)), (0, .ref b.co), (1, .ref t)]) hx hb d_Co_countFilled_6 rfl hl (by decide) rfl (fun ls hl => ?_)
  refine lv_aload_n hx hb d_Co_countFilled_7 rfl (lv_at hl 1 rfl) ?_
  refine lv_aload_n hx hb d_Co_countFilled_8 rfl (lv_at hl 0 rfl) ?_
  refine lv_aload_n hx hb d_Co_countFilled_9 rfl (lv_at hl 2 rfl) ?_
  obtain ⟨Q_3, hQ_3⟩ := hsh.1.rq
  refine rc_V (va_runV (As := [.ref (b.ss 0), .ref t]) (rest := []) ⟨hx, hb, hml, hown, hts⟩ (c_Co_fill l D N0 k V b.co b.ta b.ro b.on b.re (nI σ.nl) σ.g hsh.1.co b.f b.ar σ.T hsh.1.ts (b.ss 0) (b.sR 0) (R 0) hz_2d (hsh.2 0 (by omega)).2 b.rq Q_3 hsh.1.ro hQ_3 (fun z => by have a1 := (hsh.1.lab.ls 0 (by omega)).2.2.2; have a2 := hsh.1.lab.l9; rw [← z] at a1; omega) t (b.ar p0) (σ.T p0 0) (σ.T p0 1) (σ.T p0 2) (σ.T p0 3) (σ.T p0 4) (σ.T p0 5) hz_1) (cwV 2 hts (gi_V wm_Co_73 wv_Co_fill ws_Co_fill wi_Co wc_Co_fill) rfl rfl rfl (by decide +kernel) ⟨Nat.le_of_ble_eq_true rfl, Nat.le_of_ble_eq_true rfl⟩) (mP.preV hG hS hV hsh.1.co rfl) rfl rfl hl.1 rfl (lv_room (Nat.le_of_ble_eq_true rfl)) d_Co_countFilled_10 ⟨Nat.le_of_ble_eq_true rfl, Nat.le_of_ble_eq_true rfl⟩) hS (fun V_4 H locs hp_5 hV hS => ?_)
  obtain ⟨q_7, g_6, ev_g_6, -, hC_g_6⟩ := hp_5
  obtain ⟨hq_8q, hq_8qf⟩ := sh_setQ hsh q_7
  obtain ⟨hq_8, hq_8f⟩ := sh_setR hq_8q (i := 0) (by omega) g_6
  rw [← ev_g_6] at hq_8 hq_8f
  obtain ⟨hz_9, hz_9a⟩ := hq_8.1.ts.2.1 p0 t hp hf
  obtain ⟨-, -, -, -, hzd, -⟩ := hq_8.1.os 0 (by omega)
  have hze := (hq_8.2 0 (by omega)).2
  rw [uT_s] at hze
  refine lv_aload_n hx hb d_Co_countFilled_13 rfl (lv_at hl 0 rfl) ?_
  refine rc_i (va_runV (As := []) (rest := []) ⟨hx, hb, hml, hown, hts⟩ (c_Sh_size l D N0 k V_4 (b.ss 0) (b.sR 0) g_6 hzd hze) (cwV 0 hts (gi_V wm_Co_77 wv_Sh_size ws_Sh_size wi_Sh wc_Sh_size) rfl rfl rfl (by decide +kernel) ⟨Nat.le_of_ble_eq_true rfl, Nat.le_of_ble_eq_true rfl⟩) (mP.preV hG hS hV hzd rfl) rfl rfl hl.1 rfl (lv_room (Nat.le_of_ble_eq_true rfl)) d_Co_countFilled_14 ⟨Nat.le_of_ble_eq_true rfl, Nat.le_of_ble_eq_true rfl⟩) hS (fun H locs hV hS => ?_)
  exact W.iret (v := (szF (fun j => jb_cnt (g_6 j)) 0 24)) hx hb hr (fun t9 ht hW => ⟨⟨(szF (fun j => jb_cnt (g_6 j)) 0 24), V_4, rfl, ⟨g_6, hq_8.1, ((hsFr.rf (a := b) (V := V)).tr hq_8qf).tr hq_8f, hC_g_6, rfl⟩, mB_of ht hV⟩, hS.F ht⟩) hS.2.2 d_Co_countFilled_17
set_option maxHeartbeats 4000000 in
set_option maxRecDepth 100000 in
/-- islands -/
theorem c_Ho_islands (l : Launch) (D : va_G) (N0 : Nat) (k : Nat → Nat) (V : HV) (b : HA) (σ : HS) (hW0 : hsW k V b σ) (net : Int32) (hg : gvOk σ.G net = true) (hk1 : net / 1000 = 1) (hG0 : ptG σ.T net) (hPl : plG σ) : Met l y_Ho_islands (.code y_Ho_islands b_Ho_islands 2 (some .int) :: WS) ({ frames := 7, cells := 0, slots := 0, locals := 164 }) (mP D N0 k [.ref b.ho, .int net] V) (va_Qi (fun r V' => ∃ O R c, hsW k V' b σ ∧ hsFr b b V V' ∧ ldO σ net O ∧ islR σ.nl σ.T net O 120 R c ∧ r = nI c) (mB D N0) (hA N0)) 0 0 (hA N0) := by
  refine Met.ofW (cc := b_Ho_islands) (maxL := 2) (ret := (some .int)) (by decide) rfl ?_
  intro p e s m args below meth c s₁ B hml hv0
  obtain ⟨rfl, hG, hV⟩ := hv0
  have hx := B.exec
  have hb := B.bytes
  have hr := B.returns
  have hts := atoms_spec (ws := .code y_Ho_islands b_Ho_islands 2 (some .int) :: WS) B.pre
  have hW : ∀ w ∈ WS, w.before _ s = true := fun w h => hts w (List.mem_cons_of_mem _ h)
  have hown : s.vm.findClass "BoardHouse" = some m.cls := findClass_of_methodNamed B.named
  have hlocks := B.notSynchronized
  have hS : va_S (hA N0) s.heap s.heap [] := va_S.rf
  have hl := lv_entry ([.ref b.ho, .int net]) (n := 2) (Nat.le_of_ble_eq_true rfl)
  rw [lg_entry_eq]
  generalize (lg_sl ([.ref b.ho, .int net]) ++ List.replicate (2 - (lg_sl ([.ref b.ho, .int net])).length) Slot.unset).toArray = ls at hl ⊢
  have hl : lv_has ls 2 [(0, .ref b.ho), (1, .int net)] := hl
  have hH := hW0.1
  refine lv_aload_n hx hb d_Ho_islands_0 rfl (lv_at hl 0 rfl) ?_
  refine lv_iload_n hx hb d_Ho_islands_1 rfl (lv_at hl 1 rfl) ?_
  refine va_csv (va_Run.run (va_runV (As := [.int net]) (rest := []) ⟨hx, hb, hml, hown, hts⟩ (r_Ho_demandGiven l D N0 k V b.ho b.bo b.gi b.co b.ta b.ac b.ve (woA b σ.wo) (nI σ.nl) σ.rs hH.ho σ.G hH.gi net hg) (cwV 1 hts (gi_V wm_Ho_97 wv_Ho_demandGiven ws_Ho_demandGiven wi_Ho wc_Ho_demandGiven) rfl rfl rfl (by decide +kernel) ⟨Nat.le_of_ble_eq_true rfl, Nat.le_of_ble_eq_true rfl⟩) (mP.preV hG hS hV hH.ho rfl) rfl rfl hl.1 rfl (lv_room (Nat.le_of_ble_eq_true rfl)) d_Ho_islands_2 ⟨Nat.le_of_ble_eq_true rfl, Nat.le_of_ble_eq_true rfl⟩)) (fun _ => ?_)
  refine lv_iload_n hx hb d_Ho_islands_5 rfl (lv_at hl 1 rfl) ?_
  refine lv_iconst (v := 1) hx hb d_Ho_islands_6 (by decide) ?_
  refine va_csv (va_Run.run (va_runS (As := [.int net, .int 1]) (rest := []) ⟨hx, hb, hml, hown, hts⟩ (r_Ho_demandKind l D N0 k V net 1 hk1) (va_cwS 2 hts (gi_S wm_Ho_101 wt_Ho_demandKind wi_Ho wc_Ho_demandKind) rfl rfl rfl (by decide +kernel) ⟨Nat.le_of_ble_eq_true rfl, Nat.le_of_ble_eq_true rfl⟩) (mP.preS hG hS hV) rfl rfl hl.1 rfl (lv_room (Nat.le_of_ble_eq_true rfl)) d_Ho_islands_7 ⟨Nat.le_of_ble_eq_true rfl, Nat.le_of_ble_eq_true rfl⟩)) (fun _ => ?_)
  refine lv_aload_n hx hb d_Ho_islands_10 rfl (lv_at hl 0 rfl) ?_
  refine gf_Ho_62 hx hb hW hown hG hV hH.ho d_Ho_islands_11 ?_
  refine lv_iload_n hx hb d_Ho_islands_14 rfl (lv_at hl 1 rfl) ?_
  refine rc_I (va_runV (As := [.int net]) (rest := []) ⟨hx, hb, hml, hown, hts⟩ (c_Co_countIslands l D N0 k V b σ hH net hG0 hPl) (cwV 1 hts (gi_V wm_Ho_149 wv_Co_countIslands ws_Co_countIslands wi_Co wc_Co_countIslands) rfl rfl rfl (by decide +kernel) ⟨Nat.le_of_ble_eq_true rfl, Nat.le_of_ble_eq_true rfl⟩) (mP.preV hG hS hV hH.co rfl) rfl rfl hl.1 rfl (lv_room (Nat.le_of_ble_eq_true rfl)) d_Ho_islands_15 ⟨Nat.le_of_ble_eq_true rfl, Nat.le_of_ble_eq_true rfl⟩) hS (fun r_1 V_2 H locs hp_3 hV hS => ?_)
  obtain ⟨O, R, c0, hH2, hF2, hld, his, er⟩ := hp_3
  exact W.iret (v := r_1) hx hb hr (fun t9 ht hW => ⟨⟨r_1, V_2, rfl, ⟨O, R, c0, W_keep hW0 hH2 rfl rfl rfl rfl (fun i => ⟨rfl, rfl⟩), hF2, hld, his, er⟩, mB_of ht hV⟩, hS.F ht⟩) hS.2.2 d_Ho_islands_18
set_option maxHeartbeats 4000000 in
set_option maxRecDepth 100000 in
/-- islands: no such net -/
theorem t_Ho_islands1 (l : Launch) (hls : l.stackTraces = false) (D : va_G) (N0 : Nat) (k : Nat → Nat) (V : HV) (b : HA) (σ : HS) (hH : hsOk k V b σ) (net : Int32) (hg : gvOk σ.G net = false) : hx_Met l y_Ho_islands (.code y_Ho_islands b_Ho_islands 2 (some .int) :: WS) ({ frames := 7, cells := 1, slots := 6, locals := 164 }) (mP D N0 k [.ref b.ho, .int net] V) "java/lang/IndexOutOfBoundsException" (fun H9 => hv D vwCl N0 V H9) N0 1 6 := by
  refine hx_ofW (cc := b_Ho_islands) (maxL := 2) (ret := (some .int)) (by decide) rfl ?_
  intro p e s m args below meth c s₁ B hml hno hv0
  obtain ⟨rfl, hG, hV⟩ := hv0
  have hx := B.exec
  have hb := B.bytes
  have hr := B.returns
  have hts := atoms_spec (ws := .code y_Ho_islands b_Ho_islands 2 (some .int) :: WS) B.pre
  have hW : ∀ w ∈ WS, w.before _ s = true := fun w h => hts w (List.mem_cons_of_mem _ h)
  have hown : s.vm.findClass "BoardHouse" = some m.cls := findClass_of_methodNamed B.named
  have hlocks := B.notSynchronized
  have hS : va_S (hA N0) s.heap s.heap [] := va_S.rf
  have hl := lv_entry ([.ref b.ho, .int net]) (n := 2) (Nat.le_of_ble_eq_true rfl)
  rw [lg_entry_eq]
  generalize (lg_sl ([.ref b.ho, .int net]) ++ List.replicate (2 - (lg_sl ([.ref b.ho, .int net])).length) Slot.unset).toArray = ls at hl ⊢
  have hl : lv_has ls 2 [(0, .ref b.ho), (1, .int net)] := hl
  refine lv_aload_n hx hb d_Ho_islands_0 rfl (lv_at hl 0 rfl) ?_
  refine lv_iload_n hx hb d_Ho_islands_1 rfl (lv_at hl 1 rfl) ?_
  exact hx_callOut (hx_runV (As := [.int net]) (rest := []) ⟨hx, hb, hml, hown, hts⟩ (t_Ho_demandGiven l hls D N0 k V b.ho b.bo b.gi b.co b.ta b.ac b.ve (woA b σ.wo) (nI σ.nl) σ.rs hH.ho σ.G hH.gi net hg) (cwV 1 hts (gi_V wm_Ho_97 wv_Ho_demandGiven ws_Ho_demandGiven wi_Ho wc_Ho_demandGiven) rfl rfl rfl (by decide +kernel) ⟨Nat.le_of_ble_eq_true rfl, Nat.le_of_ble_eq_true rfl⟩) (mP.preV hG hS hV hH.ho rfl) rfl rfl hl.1 rfl (lv_room (Nat.le_of_ble_eq_true rfl)) d_Ho_islands_2 ⟨Nat.le_of_ble_eq_true rfl, Nat.le_of_ble_eq_true rfl⟩) hno hlocks hS (Nat.le_of_ble_eq_true rfl) (Nat.le_of_ble_eq_true rfl)
set_option maxHeartbeats 4000000 in
set_option maxRecDepth 100000 in
/-- islands: not a net -/
theorem t_Ho_islands2 (l : Launch) (hls : l.stackTraces = false) (D : va_G) (N0 : Nat) (k : Nat → Nat) (V : HV) (b : HA) (σ : HS) (hH : hsOk k V b σ) (net : Int32) (hg : gvOk σ.G net = true) (hk1 : ¬ net / 1000 = 1) : hx_Met l y_Ho_islands (.code y_Ho_islands b_Ho_islands 2 (some .int) :: WS) ({ frames := 7, cells := 1, slots := 6, locals := 164 }) (mP D N0 k [.ref b.ho, .int net] V) "java/lang/IllegalArgumentException" (fun H9 => hv D vwCl N0 V H9) N0 1 6 := by
  refine hx_ofW (cc := b_Ho_islands) (maxL := 2) (ret := (some .int)) (by decide) rfl ?_
  intro p e s m args below meth c s₁ B hml hno hv0
  obtain ⟨rfl, hG, hV⟩ := hv0
  have hx := B.exec
  have hb := B.bytes
  have hr := B.returns
  have hts := atoms_spec (ws := .code y_Ho_islands b_Ho_islands 2 (some .int) :: WS) B.pre
  have hW : ∀ w ∈ WS, w.before _ s = true := fun w h => hts w (List.mem_cons_of_mem _ h)
  have hown : s.vm.findClass "BoardHouse" = some m.cls := findClass_of_methodNamed B.named
  have hlocks := B.notSynchronized
  have hS : va_S (hA N0) s.heap s.heap [] := va_S.rf
  have hl := lv_entry ([.ref b.ho, .int net]) (n := 2) (Nat.le_of_ble_eq_true rfl)
  rw [lg_entry_eq]
  generalize (lg_sl ([.ref b.ho, .int net]) ++ List.replicate (2 - (lg_sl ([.ref b.ho, .int net])).length) Slot.unset).toArray = ls at hl ⊢
  have hl : lv_has ls 2 [(0, .ref b.ho), (1, .int net)] := hl
  refine lv_aload_n hx hb d_Ho_islands_0 rfl (lv_at hl 0 rfl) ?_
  refine lv_iload_n hx hb d_Ho_islands_1 rfl (lv_at hl 1 rfl) ?_
  refine va_csv (va_Run.run (va_runV (As := [.int net]) (rest := []) ⟨hx, hb, hml, hown, hts⟩ (r_Ho_demandGiven l D N0 k V b.ho b.bo b.gi b.co b.ta b.ac b.ve (woA b σ.wo) (nI σ.nl) σ.rs hH.ho σ.G hH.gi net hg) (cwV 1 hts (gi_V wm_Ho_97 wv_Ho_demandGiven ws_Ho_demandGiven wi_Ho wc_Ho_demandGiven) rfl rfl rfl (by decide +kernel) ⟨Nat.le_of_ble_eq_true rfl, Nat.le_of_ble_eq_true rfl⟩) (mP.preV hG hS hV hH.ho rfl) rfl rfl hl.1 rfl (lv_room (Nat.le_of_ble_eq_true rfl)) d_Ho_islands_2 ⟨Nat.le_of_ble_eq_true rfl, Nat.le_of_ble_eq_true rfl⟩)) (fun _ => ?_)
  refine lv_iload_n hx hb d_Ho_islands_5 rfl (lv_at hl 1 rfl) ?_
  refine lv_iconst (v := 1) hx hb d_Ho_islands_6 (by decide) ?_
  exact hx_callOut (hx_runS (As := [.int net, .int 1]) (rest := []) ⟨hx, hb, hml, hown, hts⟩ (t_Ho_demandKind l hls D N0 k V net 1 hk1) (va_cwS 2 hts (gi_S wm_Ho_101 wt_Ho_demandKind wi_Ho wc_Ho_demandKind) rfl rfl rfl (by decide +kernel) ⟨Nat.le_of_ble_eq_true rfl, Nat.le_of_ble_eq_true rfl⟩) (mP.preS hG hS hV) rfl rfl hl.1 rfl (lv_room (Nat.le_of_ble_eq_true rfl)) d_Ho_islands_7 ⟨Nat.le_of_ble_eq_true rfl, Nat.le_of_ble_eq_true rfl⟩) hno hlocks hS (Nat.le_of_ble_eq_true rfl) (Nat.le_of_ble_eq_true rfl)
set_option maxHeartbeats 4000000 in
set_option maxRecDepth 100000 in
/-- filled -/
theorem c_Ho_filled (l : Launch) (D : va_G) (N0 : Nat) (k : Nat → Nat) (V : HV) (b : HA) (σ : HS) (hW0 : hsW k V b σ) (h : Int32) (hg : gvOk σ.G h = true) (hk5 : h / 1000 = 5) (hth : ¬ σ.T (hdI h) 5 = 0) : Met l y_Ho_filled (.code y_Ho_filled b_Ho_filled 3 (some .int) :: WS) ({ frames := 7, cells := 0, slots := 0, locals := 121 }) (mP D N0 k [.ref b.ho, .int h] V) (va_Qi (fun r V' => ∃ G, hsW k V' b σ ∧ hsFr b b V V' ∧ Clo (flR σ.T (σ.T (hdI h) 2) (σ.T (hdI h) 3) σ.g 120) (fun j => flO σ.T (σ.T (hdI h) 2) (σ.T (hdI h) 3) 120 j &&& flR σ.T (σ.T (hdI h) 2) (σ.T (hdI h) 3) σ.g 120 j) G ∧ r = szF (fun j => jb_cnt (G j)) 0 24) (mB D N0) (hA N0)) 0 0 (hA N0) := by
  refine Met.ofW (cc := b_Ho_filled) (maxL := 3) (ret := (some .int)) (by decide) rfl ?_
  intro p e s m args below meth c s₁ B hml hv0
  obtain ⟨rfl, hG, hV⟩ := hv0
  have hx := B.exec
  have hb := B.bytes
  have hr := B.returns
  have hts := atoms_spec (ws := .code y_Ho_filled b_Ho_filled 3 (some .int) :: WS) B.pre
  have hW : ∀ w ∈ WS, w.before _ s = true := fun w h => hts w (List.mem_cons_of_mem _ h)
  have hown : s.vm.findClass "BoardHouse" = some m.cls := findClass_of_methodNamed B.named
  have hlocks := B.notSynchronized
  have hS : va_S (hA N0) s.heap s.heap [] := va_S.rf
  have hl := lv_entry ([.ref b.ho, .int h]) (n := 3) (Nat.le_of_ble_eq_true rfl)
  rw [lg_entry_eq]
  generalize (lg_sl ([.ref b.ho, .int h]) ++ List.replicate (3 - (lg_sl ([.ref b.ho, .int h])).length) Slot.unset).toArray = ls at hl ⊢
  have hl : lv_has ls 3 [(0, .ref b.ho), (1, .int h)] := hl
  have hH := hW0.1
  have hKh : hdK h = 5 := hdK_of (by decide) hk5
  obtain ⟨eK, eN, -⟩ := gv_of hW0.2.2.1 hg
  obtain ⟨efi, hi, hmi, t, hf⟩ := thing_of hW0 hg (by omega) (by omega)
  obtain ⟨i, ei⟩ : ∃ z, z = hdI h := ⟨_, rfl⟩
  rw [← ei] at efi hi hmi hf
  obtain ⟨h_t, h_a0⟩ := hH.ts.2.1 i t hi hf
  rw [← ei] at hth
  refine lv_aload_n hx hb d_Ho_filled_0 rfl (lv_at hl 0 rfl) ?_
  refine lv_iload_n hx hb d_Ho_filled_1 rfl (lv_at hl 1 rfl) ?_
  refine va_csv (va_Run.run (va_runV (As := [.int h]) (rest := []) ⟨hx, hb, hml, hown, hts⟩ (r_Ho_demandGiven l D N0 k V b.ho b.bo b.gi b.co b.ta b.ac b.ve (woA b σ.wo) (nI σ.nl) σ.rs hH.ho σ.G hH.gi h hg) (cwV 1 hts (gi_V wm_Ho_97 wv_Ho_demandGiven ws_Ho_demandGiven wi_Ho wc_Ho_demandGiven) rfl rfl rfl (by decide +kernel) ⟨Nat.le_of_ble_eq_true rfl, Nat.le_of_ble_eq_true rfl⟩) (mP.preV hG hS hV hH.ho rfl) rfl rfl hl.1 rfl (lv_room (Nat.le_of_ble_eq_true rfl)) d_Ho_filled_2 ⟨Nat.le_of_ble_eq_true rfl, Nat.le_of_ble_eq_true rfl⟩)) (fun _ => ?_)
  refine lv_iload_n hx hb d_Ho_filled_5 rfl (lv_at hl 1 rfl) ?_
  refine lv_iconst (v := 5) hx hb d_Ho_filled_6 (by decide) ?_
  refine va_csv (va_Run.run (va_runS (As := [.int h, .int 5]) (rest := []) ⟨hx, hb, hml, hown, hts⟩ (r_Ho_demandKind l D N0 k V h 5 hk5) (va_cwS 2 hts (gi_S wm_Ho_101 wt_Ho_demandKind wi_Ho wc_Ho_demandKind) rfl rfl rfl (by decide +kernel) ⟨Nat.le_of_ble_eq_true rfl, Nat.le_of_ble_eq_true rfl⟩) (mP.preS hG hS hV) rfl rfl hl.1 rfl (lv_room (Nat.le_of_ble_eq_true rfl)) d_Ho_filled_7 ⟨Nat.le_of_ble_eq_true rfl, Nat.le_of_ble_eq_true rfl⟩)) (fun _ => ?_)
  refine lv_aload_n hx hb d_Ho_filled_10 rfl (lv_at hl 0 rfl) ?_
  refine lv_iload_n hx hb d_Ho_filled_11 rfl (lv_at hl 1 rfl) ?_
  refine va_csq (va_Run.run (va_runV (As := [.int h]) (rest := []) ⟨hx, hb, hml, hown, hts⟩ (r_Ho_demandThing l D N0 k V b.ho b.bo b.gi b.co b.ta b.ac b.ve (woA b σ.wo) (nI σ.nl) σ.rs hH.ho σ.G hH.gi b.f b.ar σ.T hH.ts h (hdK h) (hdN h) i t eK eN (by omega) (by omega) efi hi hf) (cwV 1 hts (gi_V wm_Ho_104 wv_Ho_demandThing ws_Ho_demandThing wi_Ho wc_Ho_demandThing) rfl rfl rfl (by decide +kernel) ⟨Nat.le_of_ble_eq_true rfl, Nat.le_of_ble_eq_true rfl⟩) (mP.preV hG hS hV hH.ho rfl) rfl rfl hl.1 rfl (lv_room (Nat.le_of_ble_eq_true rfl)) d_Ho_filled_12 ⟨Nat.le_of_ble_eq_true rfl, Nat.le_of_ble_eq_true rfl⟩)) (fun r_1 hp_2 => ?_)
  subst hp_2
  refine W.eq (g2 := F0 m 15 ls [.ref t]) rfl ?_
  refine lv_astore_n (lv' := [(2, .ref t), (0, .ref b.ho), (1, .int h)]) hx hb d_Ho_filled_15 rfl hl (by decide) rfl (fun ls hl => ?_)
  refine lv_aload_n hx hb d_Ho_filled_16 rfl (lv_at hl 0 rfl) ?_
  refine va_csv (va_Run.run (va_runS (As := [.ref t]) (rest := []) ⟨hx, hb, hml, hown, hts⟩ (r_Ho_demandThere l D N0 k V t (b.ar i) (σ.T i 0) (σ.T i 1) (σ.T i 2) (σ.T i 3) (σ.T i 4) (σ.T i 5) h_t hth) (va_cwS 1 hts (gi_S wm_Ho_108 wt_Ho_demandThere wi_Ho wc_Ho_demandThere) rfl rfl rfl (by decide +kernel) ⟨Nat.le_of_ble_eq_true rfl, Nat.le_of_ble_eq_true rfl⟩) (mP.preS hG hS hV) rfl rfl hl.1 rfl (lv_room (Nat.le_of_ble_eq_true rfl)) d_Ho_filled_17 ⟨Nat.le_of_ble_eq_true rfl, Nat.le_of_ble_eq_true rfl⟩)) (fun _ => ?_)
  refine lv_aload_n hx hb d_Ho_filled_20 rfl (lv_at hl 1 rfl) ?_
  refine gf_Ho_62 hx hb hW hown hG hV hH.ho d_Ho_filled_21 ?_
  refine lv_aload_n hx hb d_Ho_filled_24 rfl (lv_at hl 0 rfl) ?_
  refine rc_I (va_runV (As := [.ref t]) (rest := []) ⟨hx, hb, hml, hown, hts⟩ (c_Co_countFilled l D N0 k V b σ hH i t hi hf) (cwV 1 hts (gi_V wm_Ho_166 wv_Co_countFilled ws_Co_countFilled wi_Co wc_Co_countFilled) rfl rfl rfl (by decide +kernel) ⟨Nat.le_of_ble_eq_true rfl, Nat.le_of_ble_eq_true rfl⟩) (mP.preV hG hS hV hH.co rfl) rfl rfl hl.1 rfl (lv_room (Nat.le_of_ble_eq_true rfl)) d_Ho_filled_25 ⟨Nat.le_of_ble_eq_true rfl, Nat.le_of_ble_eq_true rfl⟩) hS (fun r_3 V_4 H locs hp_5 hV hS => ?_)
  obtain ⟨G, hH2, hF2, hCl, er⟩ := hp_5
  exact W.iret (v := r_3) hx hb hr (fun t9 ht hW => ⟨⟨r_3, V_4, rfl, ⟨G, W_keep hW0 hH2 rfl rfl rfl rfl (fun i => ⟨rfl, rfl⟩), hF2, by rw [← ei]; exact hCl, er⟩, mB_of ht hV⟩, hS.F ht⟩) hS.2.2 d_Ho_filled_28
set_option maxHeartbeats 4000000 in
set_option maxRecDepth 100000 in
/-- filled: no such plane -/
theorem t_Ho_filled1 (l : Launch) (hls : l.stackTraces = false) (D : va_G) (N0 : Nat) (k : Nat → Nat) (V : HV) (b : HA) (σ : HS) (hH : hsOk k V b σ) (h : Int32) (hg : gvOk σ.G h = false) : hx_Met l y_Ho_filled (.code y_Ho_filled b_Ho_filled 3 (some .int) :: WS) ({ frames := 7, cells := 1, slots := 6, locals := 121 }) (mP D N0 k [.ref b.ho, .int h] V) "java/lang/IndexOutOfBoundsException" (fun H9 => hv D vwCl N0 V H9) N0 1 6 := by
  refine hx_ofW (cc := b_Ho_filled) (maxL := 3) (ret := (some .int)) (by decide) rfl ?_
  intro p e s m args below meth c s₁ B hml hno hv0
  obtain ⟨rfl, hG, hV⟩ := hv0
  have hx := B.exec
  have hb := B.bytes
  have hr := B.returns
  have hts := atoms_spec (ws := .code y_Ho_filled b_Ho_filled 3 (some .int) :: WS) B.pre
  have hW : ∀ w ∈ WS, w.before _ s = true := fun w h => hts w (List.mem_cons_of_mem _ h)
  have hown : s.vm.findClass "BoardHouse" = some m.cls := findClass_of_methodNamed B.named
  have hlocks := B.notSynchronized
  have hS : va_S (hA N0) s.heap s.heap [] := va_S.rf
  have hl := lv_entry ([.ref b.ho, .int h]) (n := 3) (Nat.le_of_ble_eq_true rfl)
  rw [lg_entry_eq]
  generalize (lg_sl ([.ref b.ho, .int h]) ++ List.replicate (3 - (lg_sl ([.ref b.ho, .int h])).length) Slot.unset).toArray = ls at hl ⊢
  have hl : lv_has ls 3 [(0, .ref b.ho), (1, .int h)] := hl
  refine lv_aload_n hx hb d_Ho_filled_0 rfl (lv_at hl 0 rfl) ?_
  refine lv_iload_n hx hb d_Ho_filled_1 rfl (lv_at hl 1 rfl) ?_
  exact hx_callOut (hx_runV (As := [.int h]) (rest := []) ⟨hx, hb, hml, hown, hts⟩ (t_Ho_demandGiven l hls D N0 k V b.ho b.bo b.gi b.co b.ta b.ac b.ve (woA b σ.wo) (nI σ.nl) σ.rs hH.ho σ.G hH.gi h hg) (cwV 1 hts (gi_V wm_Ho_97 wv_Ho_demandGiven ws_Ho_demandGiven wi_Ho wc_Ho_demandGiven) rfl rfl rfl (by decide +kernel) ⟨Nat.le_of_ble_eq_true rfl, Nat.le_of_ble_eq_true rfl⟩) (mP.preV hG hS hV hH.ho rfl) rfl rfl hl.1 rfl (lv_room (Nat.le_of_ble_eq_true rfl)) d_Ho_filled_2 ⟨Nat.le_of_ble_eq_true rfl, Nat.le_of_ble_eq_true rfl⟩) hno hlocks hS (Nat.le_of_ble_eq_true rfl) (Nat.le_of_ble_eq_true rfl)
set_option maxHeartbeats 4000000 in
set_option maxRecDepth 100000 in
/-- filled: not a plane -/
theorem t_Ho_filled2 (l : Launch) (hls : l.stackTraces = false) (D : va_G) (N0 : Nat) (k : Nat → Nat) (V : HV) (b : HA) (σ : HS) (hH : hsOk k V b σ) (h : Int32) (hg : gvOk σ.G h = true) (hk5 : ¬ h / 1000 = 5) : hx_Met l y_Ho_filled (.code y_Ho_filled b_Ho_filled 3 (some .int) :: WS) ({ frames := 7, cells := 1, slots := 6, locals := 121 }) (mP D N0 k [.ref b.ho, .int h] V) "java/lang/IllegalArgumentException" (fun H9 => hv D vwCl N0 V H9) N0 1 6 := by
  refine hx_ofW (cc := b_Ho_filled) (maxL := 3) (ret := (some .int)) (by decide) rfl ?_
  intro p e s m args below meth c s₁ B hml hno hv0
  obtain ⟨rfl, hG, hV⟩ := hv0
  have hx := B.exec
  have hb := B.bytes
  have hr := B.returns
  have hts := atoms_spec (ws := .code y_Ho_filled b_Ho_filled 3 (some .int) :: WS) B.pre
  have hW : ∀ w ∈ WS, w.before _ s = true := fun w h => hts w (List.mem_cons_of_mem _ h)
  have hown : s.vm.findClass "BoardHouse" = some m.cls := findClass_of_methodNamed B.named
  have hlocks := B.notSynchronized
  have hS : va_S (hA N0) s.heap s.heap [] := va_S.rf
  have hl := lv_entry ([.ref b.ho, .int h]) (n := 3) (Nat.le_of_ble_eq_true rfl)
  rw [lg_entry_eq]
  generalize (lg_sl ([.ref b.ho, .int h]) ++ List.replicate (3 - (lg_sl ([.ref b.ho, .int h])).length) Slot.unset).toArray = ls at hl ⊢
  have hl : lv_has ls 3 [(0, .ref b.ho), (1, .int h)] := hl
  refine lv_aload_n hx hb d_Ho_filled_0 rfl (lv_at hl 0 rfl) ?_
  refine lv_iload_n hx hb d_Ho_filled_1 rfl (lv_at hl 1 rfl) ?_
  refine va_csv (va_Run.run (va_runV (As := [.int h]) (rest := []) ⟨hx, hb, hml, hown, hts⟩ (r_Ho_demandGiven l D N0 k V b.ho b.bo b.gi b.co b.ta b.ac b.ve (woA b σ.wo) (nI σ.nl) σ.rs hH.ho σ.G hH.gi h hg) (cwV 1 hts (gi_V wm_Ho_97 wv_Ho_demandGiven ws_Ho_demandGiven wi_Ho wc_Ho_demandGiven) rfl rfl rfl (by decide +kernel) ⟨Nat.le_of_ble_eq_true rfl, Nat.le_of_ble_eq_true rfl⟩) (mP.preV hG hS hV hH.ho rfl) rfl rfl hl.1 rfl (lv_room (Nat.le_of_ble_eq_true rfl)) d_Ho_filled_2 ⟨Nat.le_of_ble_eq_true rfl, Nat.le_of_ble_eq_true rfl⟩)) (fun _ => ?_)
  refine lv_iload_n hx hb d_Ho_filled_5 rfl (lv_at hl 1 rfl) ?_
  refine lv_iconst (v := 5) hx hb d_Ho_filled_6 (by decide) ?_
  exact hx_callOut (hx_runS (As := [.int h, .int 5]) (rest := []) ⟨hx, hb, hml, hown, hts⟩ (t_Ho_demandKind l hls D N0 k V h 5 hk5) (va_cwS 2 hts (gi_S wm_Ho_101 wt_Ho_demandKind wi_Ho wc_Ho_demandKind) rfl rfl rfl (by decide +kernel) ⟨Nat.le_of_ble_eq_true rfl, Nat.le_of_ble_eq_true rfl⟩) (mP.preS hG hS hV) rfl rfl hl.1 rfl (lv_room (Nat.le_of_ble_eq_true rfl)) d_Ho_filled_7 ⟨Nat.le_of_ble_eq_true rfl, Nat.le_of_ble_eq_true rfl⟩) hno hlocks hS (Nat.le_of_ble_eq_true rfl) (Nat.le_of_ble_eq_true rfl)
set_option maxHeartbeats 4000000 in
set_option maxRecDepth 100000 in
/-- filled: dropped -/
theorem t_Ho_filled3 (l : Launch) (hls : l.stackTraces = false) (D : va_G) (N0 : Nat) (k : Nat → Nat) (V : HV) (b : HA) (σ : HS) (hW0 : hsW k V b σ) (h : Int32) (hg : gvOk σ.G h = true) (hk5 : h / 1000 = 5) (hth : σ.T (hdI h) 5 = 0) : hx_Met l y_Ho_filled (.code y_Ho_filled b_Ho_filled 3 (some .int) :: WS) ({ frames := 7, cells := 1, slots := 6, locals := 121 }) (mP D N0 k [.ref b.ho, .int h] V) "java/lang/IllegalStateException" (fun H9 => hv D vwCl N0 V H9) N0 1 6 := by
  refine hx_ofW (cc := b_Ho_filled) (maxL := 3) (ret := (some .int)) (by decide) rfl ?_
  intro p e s m args below meth c s₁ B hml hno hv0
  obtain ⟨rfl, hG, hV⟩ := hv0
  have hx := B.exec
  have hb := B.bytes
  have hr := B.returns
  have hts := atoms_spec (ws := .code y_Ho_filled b_Ho_filled 3 (some .int) :: WS) B.pre
  have hW : ∀ w ∈ WS, w.before _ s = true := fun w h => hts w (List.mem_cons_of_mem _ h)
  have hown : s.vm.findClass "BoardHouse" = some m.cls := findClass_of_methodNamed B.named
  have hlocks := B.notSynchronized
  have hS : va_S (hA N0) s.heap s.heap [] := va_S.rf
  have hl := lv_entry ([.ref b.ho, .int h]) (n := 3) (Nat.le_of_ble_eq_true rfl)
  rw [lg_entry_eq]
  generalize (lg_sl ([.ref b.ho, .int h]) ++ List.replicate (3 - (lg_sl ([.ref b.ho, .int h])).length) Slot.unset).toArray = ls at hl ⊢
  have hl : lv_has ls 3 [(0, .ref b.ho), (1, .int h)] := hl
  have hH := hW0.1
  have hKh : hdK h = 5 := hdK_of (by decide) hk5
  obtain ⟨eK, eN, -⟩ := gv_of hW0.2.2.1 hg
  obtain ⟨efi, hi, hmi, t, hf⟩ := thing_of hW0 hg (by omega) (by omega)
  obtain ⟨i, ei⟩ : ∃ z, z = hdI h := ⟨_, rfl⟩
  rw [← ei] at efi hi hmi hf
  obtain ⟨h_t, h_a0⟩ := hH.ts.2.1 i t hi hf
  rw [← ei] at hth
  refine lv_aload_n hx hb d_Ho_filled_0 rfl (lv_at hl 0 rfl) ?_
  refine lv_iload_n hx hb d_Ho_filled_1 rfl (lv_at hl 1 rfl) ?_
  refine va_csv (va_Run.run (va_runV (As := [.int h]) (rest := []) ⟨hx, hb, hml, hown, hts⟩ (r_Ho_demandGiven l D N0 k V b.ho b.bo b.gi b.co b.ta b.ac b.ve (woA b σ.wo) (nI σ.nl) σ.rs hH.ho σ.G hH.gi h hg) (cwV 1 hts (gi_V wm_Ho_97 wv_Ho_demandGiven ws_Ho_demandGiven wi_Ho wc_Ho_demandGiven) rfl rfl rfl (by decide +kernel) ⟨Nat.le_of_ble_eq_true rfl, Nat.le_of_ble_eq_true rfl⟩) (mP.preV hG hS hV hH.ho rfl) rfl rfl hl.1 rfl (lv_room (Nat.le_of_ble_eq_true rfl)) d_Ho_filled_2 ⟨Nat.le_of_ble_eq_true rfl, Nat.le_of_ble_eq_true rfl⟩)) (fun _ => ?_)
  refine lv_iload_n hx hb d_Ho_filled_5 rfl (lv_at hl 1 rfl) ?_
  refine lv_iconst (v := 5) hx hb d_Ho_filled_6 (by decide) ?_
  refine va_csv (va_Run.run (va_runS (As := [.int h, .int 5]) (rest := []) ⟨hx, hb, hml, hown, hts⟩ (r_Ho_demandKind l D N0 k V h 5 hk5) (va_cwS 2 hts (gi_S wm_Ho_101 wt_Ho_demandKind wi_Ho wc_Ho_demandKind) rfl rfl rfl (by decide +kernel) ⟨Nat.le_of_ble_eq_true rfl, Nat.le_of_ble_eq_true rfl⟩) (mP.preS hG hS hV) rfl rfl hl.1 rfl (lv_room (Nat.le_of_ble_eq_true rfl)) d_Ho_filled_7 ⟨Nat.le_of_ble_eq_true rfl, Nat.le_of_ble_eq_true rfl⟩)) (fun _ => ?_)
  refine lv_aload_n hx hb d_Ho_filled_10 rfl (lv_at hl 0 rfl) ?_
  refine lv_iload_n hx hb d_Ho_filled_11 rfl (lv_at hl 1 rfl) ?_
  refine va_csq (va_Run.run (va_runV (As := [.int h]) (rest := []) ⟨hx, hb, hml, hown, hts⟩ (r_Ho_demandThing l D N0 k V b.ho b.bo b.gi b.co b.ta b.ac b.ve (woA b σ.wo) (nI σ.nl) σ.rs hH.ho σ.G hH.gi b.f b.ar σ.T hH.ts h (hdK h) (hdN h) i t eK eN (by omega) (by omega) efi hi hf) (cwV 1 hts (gi_V wm_Ho_104 wv_Ho_demandThing ws_Ho_demandThing wi_Ho wc_Ho_demandThing) rfl rfl rfl (by decide +kernel) ⟨Nat.le_of_ble_eq_true rfl, Nat.le_of_ble_eq_true rfl⟩) (mP.preV hG hS hV hH.ho rfl) rfl rfl hl.1 rfl (lv_room (Nat.le_of_ble_eq_true rfl)) d_Ho_filled_12 ⟨Nat.le_of_ble_eq_true rfl, Nat.le_of_ble_eq_true rfl⟩)) (fun r_1 hp_2 => ?_)
  subst hp_2
  refine W.eq (g2 := F0 m 15 ls [.ref t]) rfl ?_
  refine lv_astore_n (lv' := [(2, .ref t), (0, .ref b.ho), (1, .int h)]) hx hb d_Ho_filled_15 rfl hl (by decide) rfl (fun ls hl => ?_)
  refine lv_aload_n hx hb d_Ho_filled_16 rfl (lv_at hl 0 rfl) ?_
  exact hx_callOut (hx_runS (As := [.ref t]) (rest := []) ⟨hx, hb, hml, hown, hts⟩ (t_Ho_demandThere l hls D N0 k V t (b.ar i) (σ.T i 0) (σ.T i 1) (σ.T i 2) (σ.T i 3) (σ.T i 4) (σ.T i 5) h_t hth) (va_cwS 1 hts (gi_S wm_Ho_108 wt_Ho_demandThere wi_Ho wc_Ho_demandThere) rfl rfl rfl (by decide +kernel) ⟨Nat.le_of_ble_eq_true rfl, Nat.le_of_ble_eq_true rfl⟩) (mP.preS hG hS hV) rfl rfl hl.1 rfl (lv_room (Nat.le_of_ble_eq_true rfl)) d_Ho_filled_17 ⟨Nat.le_of_ble_eq_true rfl, Nat.le_of_ble_eq_true rfl⟩) hno hlocks hS (Nat.le_of_ble_eq_true rfl) (Nat.le_of_ble_eq_true rfl)
