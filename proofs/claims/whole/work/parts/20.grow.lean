/-! Sheet.growThrough: the least set of cells, closed under steps inside the room, that holds the old one -/
def rSub (f g : Nat → Int32) : Prop := ∀ y, y < 24 → ∀ x, x < 32 → bt (f y) x = true → bt (g y) x = true
def rClo (r c : Nat → Int32) : Prop := ∀ i, i < 24 → gr_row c r i = c i
def rMin (r f g : Nat → Int32) : Prop := ∀ c, rClo r c → rSub f c → rSub g c
def cells (f : Nat → Int32) : Nat := cntF (fun q => bt (f (q / 32)) (q % 32)) 0 768
theorem cntF_le {P Q : Nat → Bool} : ∀ (n i : Nat), (∀ j, i ≤ j → j < i + n → P j = true → Q j = true) → cntF P i n ≤ cntF Q i n := by
  intro n
  induction n with
  | zero => intro i _; exact Nat.le_refl _
  | succ n ih =>
    intro i h
    have h1 := ih (i + 1) (fun j a b => h j (by omega) (by omega))
    have h2 := h i (Nat.le_refl _) (by omega)
    simp only [cntF]
    cases hP : P i
    · simp; omega
    · rw [h2 hP]; simp; omega
theorem cntF_lt {P Q : Nat → Bool} : ∀ (n i : Nat), (∀ j, i ≤ j → j < i + n → P j = true → Q j = true) → (∃ j, i ≤ j ∧ j < i + n ∧ P j = false ∧ Q j = true) → cntF P i n < cntF Q i n := by
  intro n
  induction n with
  | zero => intro i _ ⟨j, a, b, _⟩; omega
  | succ n ih =>
    intro i h ⟨j, a, b, c, d⟩
    simp only [cntF]
    by_cases hji : j = i
    · subst hji
      have h1 := cntF_le n (j + 1) (fun q a b => h q (by omega) (by omega))
      rw [c, d]; simp; omega
    · have h1 := ih (i + 1) (fun q a b => h q (by omega) (by omega)) ⟨j, by omega, by omega, c, d⟩
      have h2 := h i (Nat.le_refl _) (by omega)
      cases hP : P i
      · simp; omega
      · rw [h2 hP]; simp; omega
theorem cntF_max {P : Nat → Bool} : ∀ (n i : Nat), cntF P i n ≤ n := by
  intro n
  induction n with
  | zero => intro i; exact Nat.le_refl _
  | succ n ih =>
    intro i
    have := ih (i + 1)
    simp only [cntF]
    split <;> omega
theorem cells_max (f : Nat → Int32) : cells f ≤ 768 := cntF_max 768 0
theorem cells_le {f g : Nat → Int32} (h : rSub f g) : cells f ≤ cells g := cntF_le 768 0 (fun j _ hj => h (j / 32) (by omega) (j % 32) (by omega))
theorem cells_lt {f g : Nat → Int32} (h : rSub f g) {y : Nat} (hy : y < 24) (hne : ¬ g y = f y) : cells f < cells g := by
  refine cntF_lt 768 0 (fun j _ hj => h (j / 32) (by omega) (j % 32) (by omega)) ?_
  have hx : ∃ x, x < 32 ∧ ¬ bt (g y) x = bt (f y) x := by
    refine Classical.byContradiction (fun q => hne (b_ext (fun x hx => ?_)))
    exact Classical.byContradiction (fun q2 => q ⟨x, hx, q2⟩)
  obtain ⟨x, hx, hd⟩ := hx
  refine ⟨32 * y + x, by omega, by omega, ?_⟩
  rw [show (32 * y + x) / 32 = y by omega, show (32 * y + x) % 32 = x by omega]
  cases hf : bt (f y) x
  · refine ⟨rfl, ?_⟩
    cases hg : bt (g y) x
    · rw [hf, hg] at hd; exact absurd rfl hd
    · rfl
  · have := h y hy x hx hf
    rw [hf, this] at hd
    exact absurd rfl hd
theorem cells_congr {f g : Nat → Int32} (h : ∀ y, y < 24 → g y = f y) : cells g = cells f := Nat.le_antisymm (cells_le (fun y hy x _ q => by rw [← h y hy]; exact q)) (cells_le (fun y hy x _ q => by rw [h y hy]; exact q))
theorem bt_seeds (f : Nat → Int32) {i x : Nat} : bt (gr_seeds f i) x = true ↔ bt (f i) x = true ∨ (0 < i ∧ bt (f (i - 1)) x = true) ∨ (i < 23 ∧ bt (f (i + 1)) x = true) := by
  unfold gr_seeds
  by_cases h1 : i < 23 <;> by_cases h0 : 0 < i <;> simp [h1, h0, b_or, or_assoc]
theorem bt_row (f r : Nat → Int32) {i x : Nat} : bt (gr_row f r i) x = true ↔ bt (f i) x = true ∨ bt (sh_runs (gr_seeds f i &&& r i) (r i)) x = true := by
  rw [gr_row, b_or, Bool.or_eq_true]
theorem seeds_mono {f c : Nat → Int32} (h : rSub f c) {i x : Nat} (hi : i < 24) (hx : x < 32) (q : bt (gr_seeds f i) x = true) : bt (gr_seeds c i) x = true := by
  rw [bt_seeds] at q ⊢
  rcases q with q | ⟨a, q⟩ | ⟨a, q⟩
  · exact Or.inl (h i hi x hx q)
  · exact Or.inr (Or.inl ⟨a, h (i - 1) (by omega) x hx q⟩)
  · exact Or.inr (Or.inr ⟨a, h (i + 1) (by omega) x hx q⟩)
theorem runs_mono {z z' r : Int32} (h : ∀ x, x < 32 → bt z x = true → bt z' x = true) {x : Nat} (hx : x < 32) (q : bt (sh_runs z r) x = true) : bt (sh_runs z' r) x = true := by
  rw [bt_runs z r hx] at q
  rw [bt_runs z' r hx]
  rcases q with ⟨j, a, b, c⟩ | ⟨j, a, b, c, d⟩
  · exact Or.inl ⟨j, a, h j (by omega) b, c⟩
  · exact Or.inr ⟨j, a, b, h j b c, d⟩
theorem row_mono {f c r : Nat → Int32} (h : rSub f c) {i x : Nat} (hi : i < 24) (hx : x < 32) (q : bt (gr_row f r i) x = true) : bt (gr_row c r i) x = true := by
  rw [bt_row] at q ⊢
  rcases q with q | q
  · exact Or.inl (h i hi x hx q)
  · refine Or.inr (runs_mono (fun y hy q2 => ?_) hx q)
    rw [b_and, Bool.and_eq_true] at q2 ⊢
    exact ⟨seeds_mono h hi hy q2.1, q2.2⟩
theorem rSub_up (f r : Nat → Int32) {i : Nat} : rSub f (upd f i (gr_row f r i)) := by
  intro y hy x hx q
  by_cases h : y = i
  · subst h; rw [up_s, bt_row]; exact Or.inl q
  · rw [up_n h]; exact q
theorem rSub_rf (f : Nat → Int32) : rSub f f := fun y _ x _ q => q
theorem rSub_tr {f g h : Nat → Int32} (a : rSub f g) (b : rSub g h) : rSub f h := fun y hy x hx q => b y hy x hx (a y hy x hx q)
theorem rMin_up {f g r : Nat → Int32} (h : rMin r f g) {i : Nat} (hi : i < 24) : rMin r f (upd g i (gr_row g r i)) := by
  intro c hc hs y hy x hx q
  by_cases hyi : y = i
  · subst hyi
    rw [up_s] at q
    rw [← hc y hi]
    exact row_mono (h c hc hs) hi hx q
  · rw [up_n hyi] at q
    exact h c hc hs y hy x hx q
/-- within a pass from g: now g2, the flag q -/
def psI (r f g g2 : Nat → Int32) (q : Int32) (D : Nat → Prop) : Prop := rSub g g2 ∧ rMin r f g2 ∧ ((q = 0 ∧ (∀ y, y < 24 → g2 y = g y) ∧ ∀ y, y < 24 → D y → gr_row g r y = g y) ∨ (q = 1 ∧ cells g < cells g2))
theorem gr_congr {f g r : Nat → Int32} (h : ∀ y, y < 24 → g y = f y) {i : Nat} (hi : i < 24) : gr_row g r i = gr_row f r i := by
  have hs : gr_seeds g i = gr_seeds f i := by
    unfold gr_seeds
    rw [h i hi]
    by_cases h1 : i < 23
    · rw [if_pos h1, if_pos h1, h (i + 1) (by omega)]
      by_cases h0 : 0 < i
      · rw [if_pos h0, if_pos h0, h (i - 1) (by omega)]
      · rw [if_neg h0, if_neg h0]
    · rw [if_neg h1, if_neg h1]
      by_cases h0 : 0 < i
      · rw [if_pos h0, if_pos h0, h (i - 1) (by omega)]
      · rw [if_neg h0, if_neg h0]
  rw [gr_row, gr_row, hs, h i hi]
theorem ps_s {r f g g2 : Nat → Int32} {q : Int32} {D D' : Nat → Prop} (h : psI r f g g2 q D) {i : Nat} (hi : i < 24) (hD : ∀ y, D' y → D y ∨ y = i) : psI r f g (upd g2 i (gr_row g2 r i)) (q ||| bI (!decide (gr_row g2 r i = g2 i))) D' := by
  obtain ⟨h1, h2, h3⟩ := h
  have hu := rSub_up g2 r (i := i)
  refine ⟨rSub_tr h1 hu, rMin_up h2 hi, ?_⟩
  by_cases he : gr_row g2 r i = g2 i
  · have hsame : ∀ y, upd g2 i (gr_row g2 r i) y = g2 y := fun y => by
      by_cases hy : y = i
      · subst hy; rw [up_s, he]
      · rw [up_n hy]
    rcases h3 with ⟨a, b, c⟩ | ⟨a, b⟩
    · refine Or.inl ⟨by rw [a, he]; simp [bI], fun y hy => (hsame y).trans (b y hy), fun y hy hd => ?_⟩
      rcases hD y hd with q2 | q2
      · exact c y hy q2
      · subst q2; rw [← gr_congr b hi, he, b y hy]
    · refine Or.inr ⟨by rw [a, he]; simp [bI], ?_⟩
      rw [cells_congr (f := g2) (fun y _ => hsame y)]; exact b
  · have hlt : cells g2 < cells (upd g2 i (gr_row g2 r i)) := cells_lt hu hi (by rw [up_s]; exact he)
    have hge : cells g ≤ cells g2 := cells_le h1
    refine Or.inr ⟨?_, by omega⟩
    rcases h3 with ⟨a, b, c⟩ | ⟨a, b⟩ <;> rw [a] <;> simp [bI, he]
/-- at the head of a round -/
def rdI (r f g : Nat → Int32) (ge gr : Int32) (i : Nat) : Prop := rSub f g ∧ rMin r f g ∧ ((ge = 0 ∧ ∀ y, y < 24 → g y = f y) ∨ (ge = 1 ∧ cells f < cells g)) ∧ ((gr = 0 ∧ rClo r g) ∨ (gr = 1 ∧ i ≤ cells g))
theorem rd_0 {r f : Nat → Int32} : rdI r f f 0 1 0 := ⟨rSub_rf f, fun c _ h => h, Or.inl ⟨rfl, fun _ _ => rfl⟩, Or.inr ⟨rfl, Nat.zero_le _⟩⟩
theorem rd_s {r f g g2 : Nat → Int32} {ge gr q : Int32} {i : Nat} {D : Nat → Prop} (h : rdI r f g ge gr i) (hgr : ¬ gr = 0) (hp : psI r f g g2 q D) (hD : ∀ y, y < 24 → D y) : rdI r f g2 (ge ||| q) q (i + 1) := by
  obtain ⟨h1, h2, h3, h4⟩ := h
  obtain ⟨p1, p2, p3⟩ := hp
  have hi : i ≤ cells g := by
    rcases h4 with ⟨a, _⟩ | ⟨_, b⟩
    · exact absurd a hgr
    · exact b
  refine ⟨rSub_tr h1 p1, p2, ?_, ?_⟩
  · rcases p3 with ⟨a, b, _⟩ | ⟨a, b⟩
    · rcases h3 with ⟨c, d⟩ | ⟨c, d⟩
      · exact Or.inl ⟨by rw [a, c]; decide, fun y hy => (b y hy).trans (d y hy)⟩
      · exact Or.inr ⟨by rw [a, c]; decide, by rw [cells_congr b]; exact d⟩
    · have := cells_le h1
      refine Or.inr ⟨?_, by omega⟩
      rcases h3 with ⟨c, _⟩ | ⟨c, _⟩ <;> rw [a, c] <;> decide
  · rcases p3 with ⟨a, b, c⟩ | ⟨a, b⟩
    · refine Or.inl ⟨a, fun y hy => ?_⟩
      rw [gr_congr b hy, c y hy (hD y hy), b y hy]
    · exact Or.inr ⟨a, by omega⟩
theorem or_01 (b : Bool) : bI b = 0 ∨ bI b = 1 := by cases b <;> simp [bI]
theorem or_x {q x : Int32} (hq : q = 0 ∨ q = 1) (hx : x = 0 ∨ x = 1) (h : ¬ x = 0) : (1 : Int32) = q ||| x := by
  rcases hx with e | e
  · exact absurd e h
  · rcases hq with d | d <;> rw [d, e] <;> decide
theorem or_q {q x : Int32} (hq : q = 0 ∨ q = 1) (hx : x = 0 ∨ x = 1) (h : ¬ q = 0) : (1 : Int32) = q ||| x := by
  rcases hq with e | e
  · exact absurd e h
  · rcases hx with d | d <;> rw [d, e] <;> decide
theorem or_z {q x : Int32} (hq : q = 0) (hx : x = 0) : (0 : Int32) = q ||| x := by rw [hq, hx]; decide
theorem ps_0 {r f g : Nat → Int32} (h : rMin r f g) {D : Nat → Prop} (hD : ∀ y, ¬ D y) : psI r f g g 0 D := ⟨rSub_rf g, h, Or.inl ⟨rfl, fun _ _ => rfl, fun y _ q => absurd q (hD y)⟩⟩
set_option maxHeartbeats 4000000 in
set_option maxRecDepth 100000 in
/-- growThrough -/
theorem c_Sh_growThrough (l : Launch) (D : va_G) (N0 : Nat) (k : Nat → Nat) (V : HV) (sh ra : Nat) (f : Nat → Int32) (h_sh : V sh = some (eSh ra)) (h_ra : V ra = some (eI k 24 f)) (rm rb : Nat) (r : Nat → Int32) (h_rm : V rm = some (eSh rb)) (h_rb : V rb = some (eI k 24 r)) (hne : rb ≠ ra) : Met l y_Sh_growThrough (.code y_Sh_growThrough b_Sh_growThrough 6 (some .boolean) :: WS) ({ frames := 2, cells := 0, slots := 0, locals := 50 }) (mP D N0 k [.ref sh, .ref rm] V) (va_Qi (fun q V' => ∃ g, V' = hu V ra (eI k 24 g) ∧ rSub f g ∧ rMin r f g ∧ rClo r g ∧ ((q = 0 ∧ ∀ y, y < 24 → g y = f y) ∨ (q = 1 ∧ cells f < cells g))) (mB D N0) (hA N0)) 0 0 (hA N0) := by
  refine Met.ofW (cc := b_Sh_growThrough) (maxL := 6) (ret := (some .boolean)) (by decide) rfl ?_
  intro p e s m args below meth c s₁ B hml hv0
  obtain ⟨rfl, hG, hV⟩ := hv0
  have hx := B.exec
  have hb := B.bytes
  have hr := B.returns
  have hts := atoms_spec (ws := .code y_Sh_growThrough b_Sh_growThrough 6 (some .boolean) :: WS) B.pre
  have hW : ∀ w ∈ WS, w.before _ s = true := fun w h => hts w (List.mem_cons_of_mem _ h)
  have hown : s.vm.findClass "BoardHouse$Sheet" = some m.cls := findClass_of_methodNamed B.named
  have hlocks := B.notSynchronized
  have hS : va_S (hA N0) s.heap s.heap [] := va_S.rf
  have hl := lv_entry ([.ref sh, .ref rm]) (n := 6) (Nat.le_of_ble_eq_true rfl)
  rw [lg_entry_eq]
  generalize (lg_sl ([.ref sh, .ref rm]) ++ List.replicate (6 - (lg_sl ([.ref sh, .ref rm])).length) Slot.unset).toArray = ls at hl ⊢
  have hl : lv_has ls 6 [(0, .ref sh), (1, .ref rm)] := hl
  refine lv_iconst (v := 0) hx hb d_Sh_growThrough_0 (by decide) ?_
  refine lv_istore_n (lv' := [(2, .int 0), (0, .ref sh), (1, .ref rm)]) hx hb d_Sh_growThrough_1 rfl hl (by decide) rfl (fun ls hl => ?_)
  refine lv_iconst (v := 1) hx hb d_Sh_growThrough_2 (by decide) ?_
  refine lv_istore_n (lv' := [(3, .int 1), (2, .int 0), (0, .ref sh), (1, .ref rm)]) hx hb d_Sh_growThrough_3 rfl hl (by decide) rfl (fun ls hl => ?_)
  refine lv_iconst (v := 0) hx hb d_Sh_growThrough_4 (by decide) ?_
  refine lv_istore (lv' := [(4, .int 0), (3, .int 1), (2, .int 0), (0, .ref sh), (1, .ref rm)]) hx hb d_Sh_growThrough_5 hl (by decide) rfl (fun ls hl => ?_)
  rw [← hu_self h_ra] at hV
  have loop_1 : ∀ (n i : Nat) (g : Nat → Int32) (ge gr : Int32) (H : Heap) (locs : List Loc) (ls : Array Slot), i ≤ 3073 → 3073 + 1 ≤ i + n → (rdI r f g ge gr i) → hv D vwCl N0 (hu V ra (eI k 24 g)) H → va_S (hA N0) s.heap H locs → lv_has ls 6 [(0, .ref sh), (1, .ref rm), (2, .int ge), (3, .int gr), (4, .int (nI i))] → W p l e (headSpec (.code y_Sh_growThrough b_Sh_growThrough 6 (some .boolean) :: WS) ({ frames := 2, cells := 0, slots := 0, locals := 50 })).room s m #[.ref sh, .ref rm] below meth c H locs 0 0 (MQ below (va_Qi (fun q V' => ∃ g, V' = hu V ra (eI k 24 g) ∧ rSub f g ∧ rMin r f g ∧ rClo r g ∧ ((q = 0 ∧ ∀ y, y < 24 → g y = f y) ∨ (q = 1 ∧ cells f < cells g))) (mB D N0) (hA N0)) #[.ref sh, .ref rm] s 0 0 (hA N0)) (F0 m 7 ls []) := by
    intro n
    induction n with
    | zero => intro i g ge gr H locs ls h1 h2; exact absurd h2 (by omega)
    | succ n ih =>
      intro i g ge gr H locs ls hi hin hI hV hS hl
      have hw1_sh : (hu V ra (eI k 24 g)) sh = some (.inr (3, [.ref ra])) := hu_o h_ra h_sh (by simp)
      have hw2_rm : (hu V ra (eI k 24 g)) rm = some (.inr (3, [.ref rb])) := hu_o h_ra h_rm (by simp)
      have hw3_rb : (hu V ra (eI k 24 g)) rb = some (eI k 24 r) := (hu_n hne).trans h_rb
      refine lv_iload_n hx hb d_Sh_growThrough_7 rfl (lv_at hl 3 rfl) ?_
      refine lv_if_eq (tgt := 112) hx hb d_Sh_growThrough_8 (by decide) (fun c_2 => ?_) (fun c_2 => ?_)
      · have hgr1 : gr = 0 := c_2
        refine lv_iload_n hx hb d_Sh_growThrough_112 rfl (lv_at hl 2 rfl) ?_
        exact W.zret (v := ge) hx hb hr (by rcases hI.2.2.1 with ⟨q, _⟩ | ⟨q, _⟩ <;> rw [q] <;> rfl) (fun t9 ht hW => ⟨⟨ge, (hu V ra (eI k 24 g)), rfl, ⟨g, rfl, hI.1, hI.2.1, (hI.2.2.2.elim (fun q => q.2) (fun q => absurd (hgr1.symm.trans q.1) (by decide))), hI.2.2.1⟩, mB_of ht hV⟩, hS.F ht⟩) hS.2.2 d_Sh_growThrough_113
      · have hgr0 : ¬ gr = 0 := c_2
        refine lv_iload hx hb d_Sh_growThrough_11 (lv_at hl 4 rfl) ?_
        refine lv_sipush (v := 3072) hx hb d_Sh_growThrough_13 (by decide) ?_
        refine lv_icmp_gt (tgt := 112) hx hb d_Sh_growThrough_16 (by decide) (fun c_3 => ?_) (fun c_3 => ?_)
        · have c_3 := i_nle c_3
          have h9 : 3072 < i := nI_nle' (b := 3072) c_3 (by omega) (by decide)
          have h8 := cells_max g
          rcases hI.2.2.2 with ⟨q, _⟩ | ⟨_, q⟩
          · exact absurd q hgr0
          · omega
        · have c_3 := i_le c_3
          have h9 : i ≤ 3072 := nI_le' (b := 3072) c_3 (by omega) (by decide)
          refine lv_iconst (v := 0) hx hb d_Sh_growThrough_19 (by decide) ?_
          refine lv_istore_n (lv' := [(3, .int 0), (0, .ref sh), (1, .ref rm), (2, .int ge), (4, .int (nI i))]) hx hb d_Sh_growThrough_20 rfl hl (by decide) rfl (fun ls hl => ?_)
          refine lv_iconst (v := 0) hx hb d_Sh_growThrough_21 (by decide) ?_
          refine lv_istore (lv' := [(5, .int 0), (3, .int 0), (0, .ref sh), (1, .ref rm), (2, .int ge), (4, .int (nI i))]) hx hb d_Sh_growThrough_22 hl (by decide) rfl (fun ls hl => ?_)
          have down : ∀ (m0 : Nat) (g3 : Nat → Int32) (q3 : Int32) (H : Heap) (locs : List Loc) (ls : Array Slot), m0 ≤ 24 → psI r f g g3 q3 (fun y => m0 ≤ y ∨ y < 24) → hv D vwCl N0 (hu V ra (eI k 24 g3)) H → va_S (hA N0) s.heap H locs → lv_has ls 6 [(0, .ref sh), (1, .ref rm), (2, .int ge), (3, .int q3), (4, .int (nI i)), (5, .int (nI m0 + (-1)))] → W p l e (headSpec (.code y_Sh_growThrough b_Sh_growThrough 6 (some .boolean) :: WS) ({ frames := 2, cells := 0, slots := 0, locals := 50 })).room s m #[.ref sh, .ref rm] below meth c H locs 0 0 (MQ below (va_Qi (fun q V' => ∃ g, V' = hu V ra (eI k 24 g) ∧ rSub f g ∧ rMin r f g ∧ rClo r g ∧ ((q = 0 ∧ ∀ y, y < 24 → g y = f y) ∨ (q = 1 ∧ cells f < cells g))) (mB D N0) (hA N0)) #[.ref sh, .ref rm] s 0 0 (hA N0)) (F0 m 61 ls []) := by
            intro m0
            induction m0 with
            | zero =>
              intro g3 q3 H locs ls hm hps hV hS hl
              have hw4_sh : (hu V ra (eI k 24 g3)) sh = some (eSh ra) := hu_o h_ra h_sh (by simp)
              have hw5_rm : (hu V ra (eI k 24 g3)) rm = some (eSh rb) := hu_o h_ra h_rm (by simp)
              have hw6_rb : (hu V ra (eI k 24 g3)) rb = some (eI k 24 r) := (hu_n hne).trans h_rb
              refine lv_iload hx hb d_Sh_growThrough_61 (lv_at hl 5 rfl) ?_
              refine lv_if_lt (tgt := 92) hx hb d_Sh_growThrough_63 (by decide) (fun c_4 => ?_) (fun c_4 => ?_)
              · have c_4 := i_nle c_4
                refine lv_iload_n hx hb d_Sh_growThrough_92 rfl (lv_at hl 2 rfl) ?_
                refine lv_if_ne (tgt := 100) hx hb d_Sh_growThrough_93 (by decide) (fun c_5 => ?_) (fun c_5 => ?_)
                · refine lv_iconst (v := 1) hx hb d_Sh_growThrough_100 (by decide) ?_
                  refine lv_goto (tgt := 105) hx hb d_Sh_growThrough_101 (by decide) ?_
                  refine W.eq (g2 := F0 m 105 ls [.int (ge ||| q3)]) (congrArg (fun z => F0 m 105 ls [.int z]) (or_q (hI.2.2.1.elim (fun a => Or.inl a.1) (fun a => Or.inr a.1)) (hps.2.2.elim (fun a => Or.inl a.1) (fun a => Or.inr a.1)) c_5)) ?_
                  refine lv_istore_n (lv' := [(2, .int (ge ||| q3)), (0, .ref sh), (1, .ref rm), (3, .int q3), (4, .int (nI i)), (5, .int (nI 0 + (-1)))]) hx hb d_Sh_growThrough_105 rfl hl (by decide) rfl (fun ls hl => ?_)
                  obtain ⟨i_6, ei_6⟩ : ∃ y : Int32, y = (nI i) + 1 := ⟨_, rfl⟩
                  refine lv_iinc (v := i_6) (lv' := [(4, .int i_6), (2, .int (ge ||| q3)), (0, .ref sh), (1, .ref rm), (3, .int q3), (5, .int (nI 0 + (-1)))]) hx hb d_Sh_growThrough_106 hl (k := 4) rfl (by rw [ei_6]; rfl) (by decide) rfl (fun ls hl => ?_)
                  refine lv_goto (tgt := 7) hx hb d_Sh_growThrough_109 (by decide) ?_
                  rw [nI_1] at ei_6
                  subst ei_6
                  exact ih (i + 1) g3 (ge ||| q3) q3 _ _ _ (by omega) (by omega) (rd_s hI hgr0 hps (fun y hy => Or.inr (by omega))) hV hS (lv_sub hl [2, 3, 1, 4, 0] rfl)
                · refine lv_iload_n hx hb d_Sh_growThrough_96 rfl (lv_at hl 3 rfl) ?_
                  refine lv_if_eq (tgt := 104) hx hb d_Sh_growThrough_97 (by decide) (fun c_7 => ?_) (fun c_7 => ?_)
                  · refine lv_iconst (v := 0) hx hb d_Sh_growThrough_104 (by decide) ?_
                    refine W.eq (g2 := F0 m 105 ls [.int (ge ||| q3)]) (congrArg (fun z => F0 m 105 ls [.int z]) (or_z c_5 c_7)) ?_
                    refine lv_istore_n (lv' := [(2, .int (ge ||| q3)), (0, .ref sh), (1, .ref rm), (3, .int q3), (4, .int (nI i)), (5, .int (nI 0 + (-1)))]) hx hb d_Sh_growThrough_105 rfl hl (by decide) rfl (fun ls hl => ?_)
                    obtain ⟨i_8, ei_8⟩ : ∃ y : Int32, y = (nI i) + 1 := ⟨_, rfl⟩
                    refine lv_iinc (v := i_8) (lv' := [(4, .int i_8), (2, .int (ge ||| q3)), (0, .ref sh), (1, .ref rm), (3, .int q3), (5, .int (nI 0 + (-1)))]) hx hb d_Sh_growThrough_106 hl (k := 4) rfl (by rw [ei_8]; rfl) (by decide) rfl (fun ls hl => ?_)
                    refine lv_goto (tgt := 7) hx hb d_Sh_growThrough_109 (by decide) ?_
                    rw [nI_1] at ei_8
                    subst ei_8
                    exact ih (i + 1) g3 (ge ||| q3) q3 _ _ _ (by omega) (by omega) (rd_s hI hgr0 hps (fun y hy => Or.inr (by omega))) hV hS (lv_sub hl [2, 3, 1, 4, 0] rfl)
                  · refine lv_iconst (v := 1) hx hb d_Sh_growThrough_100 (by decide) ?_
                    refine lv_goto (tgt := 105) hx hb d_Sh_growThrough_101 (by decide) ?_
                    refine W.eq (g2 := F0 m 105 ls [.int (ge ||| q3)]) (congrArg (fun z => F0 m 105 ls [.int z]) (or_x (hI.2.2.1.elim (fun a => Or.inl a.1) (fun a => Or.inr a.1)) (hps.2.2.elim (fun a => Or.inl a.1) (fun a => Or.inr a.1)) c_7)) ?_
                    refine lv_istore_n (lv' := [(2, .int (ge ||| q3)), (0, .ref sh), (1, .ref rm), (3, .int q3), (4, .int (nI i)), (5, .int (nI 0 + (-1)))]) hx hb d_Sh_growThrough_105 rfl hl (by decide) rfl (fun ls hl => ?_)
                    obtain ⟨i_9, ei_9⟩ : ∃ y : Int32, y = (nI i) + 1 := ⟨_, rfl⟩
                    refine lv_iinc (v := i_9) (lv' := [(4, .int i_9), (2, .int (ge ||| q3)), (0, .ref sh), (1, .ref rm), (3, .int q3), (5, .int (nI 0 + (-1)))]) hx hb d_Sh_growThrough_106 hl (k := 4) rfl (by rw [ei_9]; rfl) (by decide) rfl (fun ls hl => ?_)
                    refine lv_goto (tgt := 7) hx hb d_Sh_growThrough_109 (by decide) ?_
                    rw [nI_1] at ei_9
                    subst ei_9
                    exact ih (i + 1) g3 (ge ||| q3) q3 _ _ _ (by omega) (by omega) (rd_s hI hgr0 hps (fun y hy => Or.inr (by omega))) hV hS (lv_sub hl [2, 3, 1, 4, 0] rfl)
              · have c_4 := i_le c_4
                exact absurd c_4 (by decide)
            | succ m0 ihd =>
              intro g3 q3 H locs ls hm hps hV hS hl
              rw [pk_m1] at hl
              have hw7_sh : (hu V ra (eI k 24 g3)) sh = some (eSh ra) := hu_o h_ra h_sh (by simp)
              have hw8_rm : (hu V ra (eI k 24 g3)) rm = some (eSh rb) := hu_o h_ra h_rm (by simp)
              have hw9_rb : (hu V ra (eI k 24 g3)) rb = some (eI k 24 r) := (hu_n hne).trans h_rb
              refine lv_iload hx hb d_Sh_growThrough_61 (lv_at hl 5 rfl) ?_
              refine lv_if_lt (tgt := 92) hx hb d_Sh_growThrough_63 (by decide) (fun c_10 => ?_) (fun c_10 => ?_)
              · have c_10 := i_nle c_10
                exact absurd (nI_pos' (by omega)) c_10
              · have c_10 := i_le c_10
                refine lv_aload_n hx hb d_Sh_growThrough_66 rfl (lv_at hl 0 rfl) ?_
                refine lv_iload hx hb d_Sh_growThrough_67 (lv_at hl 5 rfl) ?_
                refine lv_aload_n hx hb d_Sh_growThrough_69 rfl (lv_at hl 1 rfl) ?_
                refine rc_I (va_runV (As := [.int (nI m0), .ref rm]) (rest := []) ⟨hx, hb, hml, hown, hts⟩ (c_Sh_growRow l D N0 k (hu V ra (eI k 24 g3)) sh ra g3 hw7_sh hu_s rm rb r hw8_rm hw9_rb hne m0 (by omega)) (cwV 2 hts (gi_V wm_Sh_51 wv_Sh_growRow ws_Sh_growRow wi_Sh wc_Sh_growRow) rfl rfl rfl (by decide +kernel) ⟨Nat.le_of_ble_eq_true rfl, Nat.le_of_ble_eq_true rfl⟩) (mP.preV hG hS hV hw7_sh rfl) rfl rfl hl.1 rfl (lv_room (Nat.le_of_ble_eq_true rfl)) d_Sh_growThrough_70 ⟨Nat.le_of_ble_eq_true rfl, Nat.le_of_ble_eq_true rfl⟩) hS (fun r_11 V_12 H locs hp_13 hV hS => ?_)
                obtain ⟨er_r_11, ev_r_11⟩ := hp_13
                rw [ev_r_11, hu_u] at hV
                rw [er_r_11]
                refine lv_if_ne (tgt := 80) hx hb d_Sh_growThrough_73 (by decide) (fun c_14 => ?_) (fun c_14 => ?_)
                · refine lv_iconst (v := 1) hx hb d_Sh_growThrough_80 (by decide) ?_
                  refine lv_goto (tgt := 85) hx hb d_Sh_growThrough_81 (by decide) ?_
                  refine W.eq (g2 := F0 m 85 ls [.int (q3 ||| (bI (!decide (gr_row g3 r m0 = g3 m0))))]) (congrArg (fun z => F0 m 85 ls [.int z]) (or_x (hps.2.2.elim (fun a => Or.inl a.1) (fun a => Or.inr a.1)) (or_01 _) c_14)) ?_
                  refine lv_istore_n (lv' := [(3, .int (q3 ||| (bI (!decide (gr_row g3 r m0 = g3 m0))))), (0, .ref sh), (1, .ref rm), (2, .int ge), (4, .int (nI i)), (5, .int (nI m0))]) hx hb d_Sh_growThrough_85 rfl hl (by decide) rfl (fun ls hl => ?_)
                  obtain ⟨i_15, ei_15⟩ : ∃ y : Int32, y = (nI m0) + (-1) := ⟨_, rfl⟩
                  refine lv_iinc (v := i_15) (lv' := [(5, .int i_15), (3, .int (q3 ||| (bI (!decide (gr_row g3 r m0 = g3 m0))))), (0, .ref sh), (1, .ref rm), (2, .int ge), (4, .int (nI i))]) hx hb d_Sh_growThrough_86 hl (k := 5) rfl (by rw [ei_15]; rfl) (by decide) rfl (fun ls hl => ?_)
                  refine lv_goto (tgt := 61) hx hb d_Sh_growThrough_89 (by decide) ?_
                  subst ei_15
                  exact ihd _ _ _ _ _ (by omega) (ps_s hps (by omega) (fun y h => Or.inl (by omega))) hV hS (lv_sub hl [2, 3, 4, 1, 5, 0] rfl)
                · refine lv_iload_n hx hb d_Sh_growThrough_76 rfl (lv_at hl 3 rfl) ?_
                  refine lv_if_eq (tgt := 84) hx hb d_Sh_growThrough_77 (by decide) (fun c_16 => ?_) (fun c_16 => ?_)
                  · refine lv_iconst (v := 0) hx hb d_Sh_growThrough_84 (by decide) ?_
                    refine W.eq (g2 := F0 m 85 ls [.int (q3 ||| (bI (!decide (gr_row g3 r m0 = g3 m0))))]) (congrArg (fun z => F0 m 85 ls [.int z]) (or_z c_16 c_14)) ?_
                    refine lv_istore_n (lv' := [(3, .int (q3 ||| (bI (!decide (gr_row g3 r m0 = g3 m0))))), (0, .ref sh), (1, .ref rm), (2, .int ge), (4, .int (nI i)), (5, .int (nI m0))]) hx hb d_Sh_growThrough_85 rfl hl (by decide) rfl (fun ls hl => ?_)
                    obtain ⟨i_17, ei_17⟩ : ∃ y : Int32, y = (nI m0) + (-1) := ⟨_, rfl⟩
                    refine lv_iinc (v := i_17) (lv' := [(5, .int i_17), (3, .int (q3 ||| (bI (!decide (gr_row g3 r m0 = g3 m0))))), (0, .ref sh), (1, .ref rm), (2, .int ge), (4, .int (nI i))]) hx hb d_Sh_growThrough_86 hl (k := 5) rfl (by rw [ei_17]; rfl) (by decide) rfl (fun ls hl => ?_)
                    refine lv_goto (tgt := 61) hx hb d_Sh_growThrough_89 (by decide) ?_
                    subst ei_17
                    exact ihd _ _ _ _ _ (by omega) (ps_s hps (by omega) (fun y h => Or.inl (by omega))) hV hS (lv_sub hl [2, 3, 4, 1, 5, 0] rfl)
                  · refine lv_iconst (v := 1) hx hb d_Sh_growThrough_80 (by decide) ?_
                    refine lv_goto (tgt := 85) hx hb d_Sh_growThrough_81 (by decide) ?_
                    refine W.eq (g2 := F0 m 85 ls [.int (q3 ||| (bI (!decide (gr_row g3 r m0 = g3 m0))))]) (congrArg (fun z => F0 m 85 ls [.int z]) (or_q (hps.2.2.elim (fun a => Or.inl a.1) (fun a => Or.inr a.1)) (or_01 _) c_16)) ?_
                    refine lv_istore_n (lv' := [(3, .int (q3 ||| (bI (!decide (gr_row g3 r m0 = g3 m0))))), (0, .ref sh), (1, .ref rm), (2, .int ge), (4, .int (nI i)), (5, .int (nI m0))]) hx hb d_Sh_growThrough_85 rfl hl (by decide) rfl (fun ls hl => ?_)
                    obtain ⟨i_18, ei_18⟩ : ∃ y : Int32, y = (nI m0) + (-1) := ⟨_, rfl⟩
                    refine lv_iinc (v := i_18) (lv' := [(5, .int i_18), (3, .int (q3 ||| (bI (!decide (gr_row g3 r m0 = g3 m0))))), (0, .ref sh), (1, .ref rm), (2, .int ge), (4, .int (nI i))]) hx hb d_Sh_growThrough_86 hl (k := 5) rfl (by rw [ei_18]; rfl) (by decide) rfl (fun ls hl => ?_)
                    refine lv_goto (tgt := 61) hx hb d_Sh_growThrough_89 (by decide) ?_
                    subst ei_18
                    exact ihd _ _ _ _ _ (by omega) (ps_s hps (by omega) (fun y h => Or.inl (by omega))) hV hS (lv_sub hl [2, 3, 4, 1, 5, 0] rfl)
          have upw : ∀ (n2 i2 : Nat) (g2 : Nat → Int32) (q2 : Int32) (H : Heap) (locs : List Loc) (ls : Array Slot), i2 ≤ 24 → 25 ≤ i2 + n2 → psI r f g g2 q2 (fun y => y < i2) → hv D vwCl N0 (hu V ra (eI k 24 g2)) H → va_S (hA N0) s.heap H locs → lv_has ls 6 [(0, .ref sh), (1, .ref rm), (2, .int ge), (3, .int q2), (4, .int (nI i)), (5, .int (nI i2))] → W p l e (headSpec (.code y_Sh_growThrough b_Sh_growThrough 6 (some .boolean) :: WS) ({ frames := 2, cells := 0, slots := 0, locals := 50 })).room s m #[.ref sh, .ref rm] below meth c H locs 0 0 (MQ below (va_Qi (fun q V' => ∃ g, V' = hu V ra (eI k 24 g) ∧ rSub f g ∧ rMin r f g ∧ rClo r g ∧ ((q = 0 ∧ ∀ y, y < 24 → g y = f y) ∨ (q = 1 ∧ cells f < cells g))) (mB D N0) (hA N0)) #[.ref sh, .ref rm] s 0 0 (hA N0)) (F0 m 24 ls []) := by
            intro n2
            induction n2 with
            | zero => intro i2 g2 q2 H locs ls h1 h2; exact absurd h2 (by omega)
            | succ n2 ihu =>
              intro i2 g2 q2 H locs ls hi2 hin2 hps hV hS hl
              have hw10_sh : (hu V ra (eI k 24 g2)) sh = some (eSh ra) := hu_o h_ra h_sh (by simp)
              have hw11_rm : (hu V ra (eI k 24 g2)) rm = some (eSh rb) := hu_o h_ra h_rm (by simp)
              have hw12_rb : (hu V ra (eI k 24 g2)) rb = some (eI k 24 r) := (hu_n hne).trans h_rb
              refine lv_iload hx hb d_Sh_growThrough_24 (lv_at hl 5 rfl) ?_
              refine lv_bipush (v := 24) hx hb d_Sh_growThrough_26 (by decide) ?_
              refine lv_icmp_ge (tgt := 57) hx hb d_Sh_growThrough_28 (by decide) (fun c_19 => ?_) (fun c_19 => ?_)
              · have hge : 24 ≤ i2 := nI_le' (a := 24) c_19 (by decide) (by omega)
                refine lv_bipush (v := 23) hx hb d_Sh_growThrough_57 (by decide) ?_
                refine lv_istore (lv' := [(5, .int 23), (0, .ref sh), (1, .ref rm), (2, .int ge), (3, .int q2), (4, .int (nI i))]) hx hb d_Sh_growThrough_59 hl (by decide) rfl (fun ls hl => ?_)
                refine down 24 g2 q2 _ _ _ (by omega) ?_ hV hS (lv_sub hl [1, 2, 3, 4, 5, 0] rfl)
                obtain ⟨b1, b2, b3⟩ := hps
                refine ⟨b1, b2, ?_⟩
                rcases b3 with ⟨b4, b5, b6⟩ | b4
                · exact Or.inl ⟨b4, b5, fun y hy _ => b6 y hy (by omega)⟩
                · exact Or.inr b4
              · have hlt2 : i2 < 24 := nI_nle' (a := 24) c_19 (by decide) (by omega)
                refine lv_aload_n hx hb d_Sh_growThrough_31 rfl (lv_at hl 0 rfl) ?_
                refine lv_iload hx hb d_Sh_growThrough_32 (lv_at hl 5 rfl) ?_
                refine lv_aload_n hx hb d_Sh_growThrough_34 rfl (lv_at hl 1 rfl) ?_
                refine rc_I (va_runV (As := [.int (nI i2), .ref rm]) (rest := []) ⟨hx, hb, hml, hown, hts⟩ (c_Sh_growRow l D N0 k (hu V ra (eI k 24 g2)) sh ra g2 hw10_sh hu_s rm rb r hw11_rm hw12_rb hne i2 (by omega)) (cwV 2 hts (gi_V wm_Sh_51 wv_Sh_growRow ws_Sh_growRow wi_Sh wc_Sh_growRow) rfl rfl rfl (by decide +kernel) ⟨Nat.le_of_ble_eq_true rfl, Nat.le_of_ble_eq_true rfl⟩) (mP.preV hG hS hV hw10_sh rfl) rfl rfl hl.1 rfl (lv_room (Nat.le_of_ble_eq_true rfl)) d_Sh_growThrough_35 ⟨Nat.le_of_ble_eq_true rfl, Nat.le_of_ble_eq_true rfl⟩) hS (fun r_20 V_21 H locs hp_22 hV hS => ?_)
                obtain ⟨er_r_20, ev_r_20⟩ := hp_22
                rw [ev_r_20, hu_u] at hV
                rw [er_r_20]
                refine lv_if_ne (tgt := 45) hx hb d_Sh_growThrough_38 (by decide) (fun c_23 => ?_) (fun c_23 => ?_)
                · refine lv_iconst (v := 1) hx hb d_Sh_growThrough_45 (by decide) ?_
                  refine lv_goto (tgt := 50) hx hb d_Sh_growThrough_46 (by decide) ?_
                  refine W.eq (g2 := F0 m 50 ls [.int (q2 ||| (bI (!decide (gr_row g2 r i2 = g2 i2))))]) (congrArg (fun z => F0 m 50 ls [.int z]) (or_x (hps.2.2.elim (fun a => Or.inl a.1) (fun a => Or.inr a.1)) (or_01 _) c_23)) ?_
                  refine lv_istore_n (lv' := [(3, .int (q2 ||| (bI (!decide (gr_row g2 r i2 = g2 i2))))), (0, .ref sh), (1, .ref rm), (2, .int ge), (4, .int (nI i)), (5, .int (nI i2))]) hx hb d_Sh_growThrough_50 rfl hl (by decide) rfl (fun ls hl => ?_)
                  obtain ⟨i_24, ei_24⟩ : ∃ y : Int32, y = (nI i2) + 1 := ⟨_, rfl⟩
                  refine lv_iinc (v := i_24) (lv' := [(5, .int i_24), (3, .int (q2 ||| (bI (!decide (gr_row g2 r i2 = g2 i2))))), (0, .ref sh), (1, .ref rm), (2, .int ge), (4, .int (nI i))]) hx hb d_Sh_growThrough_51 hl (k := 5) rfl (by rw [ei_24]; rfl) (by decide) rfl (fun ls hl => ?_)
                  refine lv_goto (tgt := 24) hx hb d_Sh_growThrough_54 (by decide) ?_
                  rw [nI_1] at ei_24
                  subst ei_24
                  exact ihu (i2 + 1) _ _ _ _ _ (by omega) (by omega) (ps_s hps (by omega) (fun y h => by omega)) hV hS (lv_sub hl [2, 3, 4, 1, 5, 0] rfl)
                · refine lv_iload_n hx hb d_Sh_growThrough_41 rfl (lv_at hl 3 rfl) ?_
                  refine lv_if_eq (tgt := 49) hx hb d_Sh_growThrough_42 (by decide) (fun c_25 => ?_) (fun c_25 => ?_)
                  · refine lv_iconst (v := 0) hx hb d_Sh_growThrough_49 (by decide) ?_
                    refine W.eq (g2 := F0 m 50 ls [.int (q2 ||| (bI (!decide (gr_row g2 r i2 = g2 i2))))]) (congrArg (fun z => F0 m 50 ls [.int z]) (or_z c_25 c_23)) ?_
                    refine lv_istore_n (lv' := [(3, .int (q2 ||| (bI (!decide (gr_row g2 r i2 = g2 i2))))), (0, .ref sh), (1, .ref rm), (2, .int ge), (4, .int (nI i)), (5, .int (nI i2))]) hx hb d_Sh_growThrough_50 rfl hl (by decide) rfl (fun ls hl => ?_)
                    obtain ⟨i_26, ei_26⟩ : ∃ y : Int32, y = (nI i2) + 1 := ⟨_, rfl⟩
                    refine lv_iinc (v := i_26) (lv' := [(5, .int i_26), (3, .int (q2 ||| (bI (!decide (gr_row g2 r i2 = g2 i2))))), (0, .ref sh), (1, .ref rm), (2, .int ge), (4, .int (nI i))]) hx hb d_Sh_growThrough_51 hl (k := 5) rfl (by rw [ei_26]; rfl) (by decide) rfl (fun ls hl => ?_)
                    refine lv_goto (tgt := 24) hx hb d_Sh_growThrough_54 (by decide) ?_
                    rw [nI_1] at ei_26
                    subst ei_26
                    exact ihu (i2 + 1) _ _ _ _ _ (by omega) (by omega) (ps_s hps (by omega) (fun y h => by omega)) hV hS (lv_sub hl [2, 3, 4, 1, 5, 0] rfl)
                  · refine lv_iconst (v := 1) hx hb d_Sh_growThrough_45 (by decide) ?_
                    refine lv_goto (tgt := 50) hx hb d_Sh_growThrough_46 (by decide) ?_
                    refine W.eq (g2 := F0 m 50 ls [.int (q2 ||| (bI (!decide (gr_row g2 r i2 = g2 i2))))]) (congrArg (fun z => F0 m 50 ls [.int z]) (or_q (hps.2.2.elim (fun a => Or.inl a.1) (fun a => Or.inr a.1)) (or_01 _) c_25)) ?_
                    refine lv_istore_n (lv' := [(3, .int (q2 ||| (bI (!decide (gr_row g2 r i2 = g2 i2))))), (0, .ref sh), (1, .ref rm), (2, .int ge), (4, .int (nI i)), (5, .int (nI i2))]) hx hb d_Sh_growThrough_50 rfl hl (by decide) rfl (fun ls hl => ?_)
                    obtain ⟨i_27, ei_27⟩ : ∃ y : Int32, y = (nI i2) + 1 := ⟨_, rfl⟩
                    refine lv_iinc (v := i_27) (lv' := [(5, .int i_27), (3, .int (q2 ||| (bI (!decide (gr_row g2 r i2 = g2 i2))))), (0, .ref sh), (1, .ref rm), (2, .int ge), (4, .int (nI i))]) hx hb d_Sh_growThrough_51 hl (k := 5) rfl (by rw [ei_27]; rfl) (by decide) rfl (fun ls hl => ?_)
                    refine lv_goto (tgt := 24) hx hb d_Sh_growThrough_54 (by decide) ?_
                    rw [nI_1] at ei_27
                    subst ei_27
                    exact ihu (i2 + 1) _ _ _ _ _ (by omega) (by omega) (ps_s hps (by omega) (fun y h => by omega)) hV hS (lv_sub hl [2, 3, 4, 1, 5, 0] rfl)
          exact upw 25 0 g 0 _ _ _ (by omega) (by omega) (ps_0 hI.2.1 (fun y => by omega)) hV hS (lv_sub hl [2, 3, 4, 1, 5, 0] rfl)
  exact loop_1 (3073 + 1 - 0) 0 f 0 1 _ _ _ (by omega) (by omega) rd_0 hV hS (lv_sub hl [3, 4, 2, 1, 0] rfl)
