/-! the model: islands -/
def inW (ρ : MS) (ne : Int32) (nl : Nat) (f g G Gw : Nat → Int64) (mw : Bool) (i : Nat) : Prop := LIn nl f Gw ∧ LSub nl G Gw ∧ (∀ C, (∀ la, la < nl → lCl f C la) → jnC ρ ne nl C 80 → LSub nl g C → LSub nl Gw C) ∧ ((mw = false ∧ Gw = G ∧ jnC ρ ne nl G 80 ∧ ∀ la, la < i → lCl f G la) ∨ (mw = true ∧ mcL nl G < mcL nl Gw))
def mMd (ρ : MS) (ne : Int32) (nl : Nat) (f g G : Nat → Int64) (q : Int32) : Prop := LIn nl f G ∧ LSub nl g G ∧ (∀ C, (∀ la, la < nl → lCl f C la) → jnC ρ ne nl C 80 → LSub nl g C → LSub nl G C) ∧ (q = 0 → (∀ la, la < nl → lCl f G la) ∧ jnC ρ ne nl G 80)
def mFn (ρ : MS) (ne : Int32) (nl : Nat) (f g G : Nat → Int64) : Prop := LIn nl f G ∧ LSub nl g G ∧ (∀ C, (∀ la, la < nl → lCl f C la) → jnC ρ ne nl C 80 → LSub nl g C → LSub nl G C) ∧ (∀ la, la < nl → lCl f G la) ∧ jnC ρ ne nl G 80
theorem in_g {ρ : MS} {ne : Int32} {nl i : Nat} {f g G Gw : Nat → Int64} {mw : Bool} (h32 : ∀ la, la < nl → l32 f la) (h : inW ρ ne nl f g G Gw mw i) (hi : i < nl) : inW ρ ne nl f g G (moGr f i Gw 24) (anyF (moGm f i Gw) 0 24 || mw) (i + 1) := by
  obtain ⟨h1, h2, h3, h4⟩ := h
  obtain ⟨a1, a2, a3, a4, a5⟩ := gr_pass (h32 i hi) (h1 i hi) 24 (Nat.le_refl _)
  have hrow : ∀ la r, la ≠ i → r < 24 → moGr f i Gw 24 (24 * la + r) = Gw (24 * la + r) := fun la r hla hr => a3 _ (by omega)
  have hs : LSub nl Gw (moGr f i Gw 24) := fun la hla r hr x hx q => by
    by_cases hli : la = i
    · subst hli; exact a2 r hr x hx q
    · rw [hrow la r hli hr]; exact q
  refine ⟨fun la hla r hr x hx q => ?_, fun la hla => lSub_tr (h2 la hla) (hs la hla), fun C hC hj hg la hla r hr x hx q => ?_, ?_⟩
  · by_cases hli : la = i
    · subst hli; exact a1 r hr x hx q
    · rw [hrow la r hli hr] at q; exact h1 la hla r hr x hx q
  · by_cases hli : la = i
    · subst hli; exact a4 C (hC la hla) (h3 C hC hj hg la hla) r hr x hx q
    · rw [hrow la r hli hr] at q; exact h3 C hC hj hg la hla r hr x hx q
  · rcases a5 with ⟨e1, e2⟩ | ⟨e1, hlt⟩
    · rw [e1, Bool.false_or, e2]
      rcases h4 with ⟨f1, f2, f3, f4⟩ | h
      · refine Or.inl ⟨f1, f2, f3, fun la hla => ?_⟩
        by_cases hli : la = i
        · subst hli
          subst f2
          have hm := (mid_s (h32 la hi) (show lMid f Gw Gw la 1 from ⟨h1 la hi, lSub_rf, fun _ _ => rfl, fun _ _ h => h, fun q => absurd q (by decide)⟩)).1
          have := hm.2.2.2.2 (by rw [e1]; rfl)
          rw [e2] at this; exact this
        · exact f4 la (by omega)
      · exact Or.inr h
    · rw [e1, Bool.true_or]
      refine Or.inr ⟨rfl, ?_⟩
      have := mcL_le h2
      have := mcL_lt hs hi hlt
      omega
theorem in_0 {ρ : MS} {ne : Int32} {nl : Nat} {f g G : Nat → Int64} {q : Int32} (hP : ptI ρ ne nl f) (h : mMd ρ ne nl f g G q) : inW ρ ne nl f g G (moJn ρ ne nl G 60).1 (moJn ρ ne nl G 60).2 0 := by
  obtain ⟨h1, h2, h3, -⟩ := h
  obtain ⟨a1, a2, a3, a4⟩ := jn_pass hP h1 60 (Nat.le_refl _)
  refine ⟨a1, a2, fun C hC hj hg => a3 C hj (h3 C hC hj hg), ?_⟩
  rcases a4 with ⟨e1, e2, e3⟩ | h
  · exact Or.inl ⟨e1, e2, e3, fun la h => by omega⟩
  · exact Or.inr h
theorem in_e {ρ : MS} {ne : Int32} {nl i : Nat} {f g G Gw : Nat → Int64} {mw : Bool} {q : Int32} (h0 : mMd ρ ne nl f g G q) (h : inW ρ ne nl f g G Gw mw i) (hi : nl ≤ i) : mMd ρ ne nl f g Gw (bI mw) ∧ (mw = false ∨ mcL nl G < mcL nl Gw) := by
  obtain ⟨h1, h2, h3, h4⟩ := h
  refine ⟨⟨h1, fun la hla => lSub_tr (h0.2.1 la hla) (h2 la hla), h3, fun hq => ?_⟩, ?_⟩
  · rcases h4 with ⟨f1, f2, f3, f4⟩ | ⟨f1, -⟩
    · rw [f2]; exact ⟨fun la hla => f4 la (by omega), f3⟩
    · rw [f1] at hq; exact absurd hq (by decide)
  · rcases h4 with ⟨f1, -⟩ | ⟨-, h⟩
    · exact Or.inl f1
    · exact Or.inr h
def isL (ρ : MS) (ne : Int32) (g0 n5 : Nat) (f : Nat → Int64) (la : Nat) : Prop := ∃ ρx Gx, ρx.I = ρ.I ∧ lFin (moLL ρx ne la g0 120).2 (flS (moLL ρx ne la g0 120).1 (moLL ρx ne la g0 120).2 (ρx.L 2) (24 * la) 24) Gx la ∧ ∀ r, r < 24 → f (24 * la + r) = (moLL ρx ne la g0 120).1 (24 * la + r) ||| (if anyF (moHpP ρ.I ne (nI la)) 140 n5 = true then Gx (24 * la + r) else 0)
def fpP (o f G : Nat → Int64) (b : Bool) (a n : Nat) : Nat → Int64 := fun j => if a ≤ j ∧ j < a + n then o j ||| (if b = true then G j else 0) else f j
theorem fpP_s {o f G : Nat → Int64} {b : Bool} {a i : Nat} (h : a ≤ i) : vp_updL (fpP o f G b a (i - a)) i (o i ||| (if b = true then G i else 0)) = fpP o f G b a (i + 1 - a) := by
  funext j
  simp only [vp_updL, fpP]
  by_cases hj : j = i
  · rw [if_pos hj, hj, if_pos (show a ≤ i ∧ i < a + (i + 1 - a) by omega)]
  · rw [if_neg hj]
    by_cases h2 : a ≤ j ∧ j < a + (i - a)
    · rw [if_pos h2, if_pos (show a ≤ j ∧ j < a + (i + 1 - a) by omega)]
    · rw [if_neg h2, if_neg (by omega)]
theorem fpP_0 {o f G : Nat → Int64} {b : Bool} {a i : Nat} (h : i = a) : fpP o f G b a (i - a) = f := by
  funext j; simp only [fpP]; rw [if_neg (by omega)]
theorem isL_s {ρ ρx : MS} {ne : Int32} {g0 n5 i : Nat} {f fc Gx o1 f1 : Nat → Int64} (h : ∀ la, la < i → isL ρ ne g0 n5 f la) (hx : ρx.I = ρ.I) (eo : o1 = (moLL ρx ne i g0 120).1) (ef : f1 = (moLL ρx ne i g0 120).2) (hfin : lFin f1 (flS o1 f1 (ρx.L 2) (24 * i) 24) Gx i) (hL : ρx.L 1 = f) (hfc : fc = fpP o1 f1 Gx (anyF (moHpP ρ.I ne (nI i)) 140 n5) (24 * i) 24) : ∀ la, la < i + 1 → isL ρ ne g0 n5 fc la := fun la hla => by
  by_cases hli : la = i
  · subst hli
    refine ⟨ρx, Gx, hx, by rw [← eo, ← ef]; exact hfin, fun r hr => ?_⟩
    rw [hfc, ← eo]
    simp only [fpP]
    rw [if_pos (by omega)]
  · obtain ⟨ρy, Gy, b1, b2, b3⟩ := h la (by omega)
    refine ⟨ρy, Gy, b1, b2, fun r hr => ?_⟩
    rw [← b3 r hr, hfc]
    simp only [fpP]
    rw [if_neg (by omega), ef, ll_out 120 _ (by omega), hL]
theorem isL_32 {ρ : MS} {ne : Int32} {g0 n5 la : Nat} {f : Nat → Int64} (h : isL ρ ne g0 n5 f la) (ho : ∀ ρx : MS, ρx.I = ρ.I → l32 (moLL ρx ne la g0 120).1 la) : l32 f la := fun r hr x hx q => by
  obtain ⟨ρx, Gx, hI, hfin, hrow⟩ := h
  rw [hrow r hr, q_or, Bool.or_eq_true] at q
  rcases q with q | q
  · exact ho ρx hI r hr x hx q
  · split at q
    · exact ll_32 120 r hr x hx (hfin.1 r hr x hx q)
    · rw [q_0] at q; cases q
theorem wL_n3 {ρ : MS} {a b c a' b' c' : Nat → Int64} : (((((ρ.wL 0 a).wL 1 b).wL 2 c).wL 0 a').wL 1 b').wL 2 c' = ((ρ.wL 0 a').wL 1 b').wL 2 c' := by
  have : updQ (updQ (updQ (updQ (updQ (updQ ρ.L 0 a) 1 b) 2 c) 0 a') 1 b') 2 c' = updQ (updQ (updQ ρ.L 0 a') 1 b') 2 c' := by
    funext q
    by_cases h2 : q = 2
    · subst h2; rw [uQ_s, uQ_s]
    · by_cases h1 : q = 1
      · subst h1; rw [uQ_n h2, uQ_s, uQ_n h2, uQ_s]
      · by_cases h0 : q = 0
        · subst h0; rw [uQ_n h2, uQ_n h1, uQ_s, uQ_n h2, uQ_n h1, uQ_s]
        · rw [uQ_n h2, uQ_n h1, uQ_n h0, uQ_n h2, uQ_n h1, uQ_n h0, uQ_n h2, uQ_n h1, uQ_n h0]
  show (ρ.s, ρ.I, updQ (updQ (updQ (updQ (updQ (updQ ρ.L 0 a) 1 b) 2 c) 0 a') 1 b') 2 c') = (ρ.s, ρ.I, updQ (updQ (updQ ρ.L 0 a') 1 b') 2 c')
  rw [this]
theorem wL_n1 {ρ : MS} {a b c b' : Nat → Int64} : (((ρ.wL 0 a).wL 1 b).wL 2 c).wL 1 b' = ((ρ.wL 0 a).wL 1 b').wL 2 c := by
  have : updQ (updQ (updQ (updQ ρ.L 0 a) 1 b) 2 c) 1 b' = updQ (updQ (updQ ρ.L 0 a) 1 b') 2 c := by
    funext q
    by_cases h1 : q = 1
    · subst h1; rw [uQ_s, uQ_n (by omega), uQ_s]
    · by_cases h2 : q = 2
      · subst h2; rw [uQ_n h1, uQ_s, uQ_s]
      · rw [uQ_n h1, uQ_n h2, uQ_n h1, uQ_n h2, uQ_n h1]
  show (ρ.s, ρ.I, updQ (updQ (updQ (updQ ρ.L 0 a) 1 b) 2 c) 1 b') = (ρ.s, ρ.I, updQ (updQ (updQ ρ.L 0 a) 1 b') 2 c)
  rw [this]
theorem wL_s3 {ρ : MS} : ((ρ.wL 0 (ρ.L 0)).wL 1 (ρ.L 1)).wL 2 (ρ.L 2) = ρ := by
  rw [wL_self]
  show (ρ.wL 1 (ρ.L 1)).wL 2 (ρ.L 2) = ρ
  rw [wL_self]
  exact wL_self
theorem jn_eq {ρ ρ' : MS} {ne : Int32} {nl : Nat} {G : Nat → Int64} (h : ρ.I = ρ'.I) : ∀ n : Nat, moJn ρ ne nl G n = moJn ρ' ne nl G n := by
  intro n
  induction n with
  | zero => rfl
  | succ n ih =>
    have hj : ∀ (C : Nat → Int64) (t : Nat), jbt ρ C t = jbt ρ' C t := fun C t => by funext la; simp only [jbt, yq, h]
    rw [moJn, moJn, ih, hj, h, show yq ρ (20 + n) = yq ρ' (20 + n) by rw [yq, yq, h]]
theorem jn_st {ρ : MS} {ne : Int32} {nl n : Nat} {o f G : Nat → Int64} : moJn ((((ρ.ws 0 0).wL 0 o).wL 1 f).wL 2 G) ne nl (((((ρ.ws 0 0).wL 0 o).wL 1 f).wL 2 G).L 2) n = moJn ρ ne nl G n := by
  rw [ms_LL]; exact jn_eq (ρ := ((((ρ.ws 0 0).wL 0 o).wL 1 f).wL 2 G)) (ρ' := ρ) rfl n
theorem gr_st {ρ : MS} {la n : Nat} {o f G : Nat → Int64} : moGr (((((ρ.ws 0 0).wL 0 o).wL 1 f).wL 2 G).L 1) la (((((ρ.ws 0 0).wL 0 o).wL 1 f).wL 2 G).L 2) n = moGr f la G n := by
  rw [ms_LL, ms_Ln (by omega), ms_LL]
theorem gm_st {ρ : MS} {la n : Nat} {o f G : Nat → Int64} : anyF (moGm (((((ρ.ws 0 0).wL 0 o).wL 1 f).wL 2 G).L 1) la (((((ρ.ws 0 0).wL 0 o).wL 1 f).wL 2 G).L 2)) 0 n = anyF (moGm f la G) 0 n := by
  rw [ms_LL, ms_Ln (by omega), ms_LL]
/-- points: one cell -/
def mPt (ρ : MS) (ne : Int32) : Prop := ∀ t, 20 ≤ t → t < 80 → moPdP ρ.I ne t = true → ρ.I 2 t = nI (xq ρ t) ∧ xq ρ t < 32 ∧ ρ.I 4 t = 1 ∧ hq ρ t = 1
/-- copper lies within the columns -/
def moCw (ρ : MS) : Prop := ∀ t, 20 ≤ t → t < 140 → moCop ρ.I t = true → ∃ x n : Nat, ρ.I 2 t = nI x ∧ ρ.I 4 t = nI n ∧ x + n ≤ 32
theorem span32 : ∀ x, x < 33 → ∀ n, n < 33 → x + n ≤ 32 → moSpan (nI x) (nI n) &&& 4294967295 = moSpan (nI x) (nI n) := by decide +kernel
theorem own_32 {ρ : MS} {ne : Int32} {la g : Nat} (hC : moCw ρ) : ∀ n : Nat, n ≤ 120 → l32 (moLL ρ ne la g n).1 la := by
  intro n
  induction n with
  | zero =>
    intro _ r hr x hx q
    simp only [moLL, clR] at q
    rw [if_pos (by omega), q_0] at q; cases q
  | succ n ih =>
    intro hn r hr x hx q
    rw [moLL] at q
    split at q
    · rename_i hc
      rw [Bool.and_eq_true] at hc
      split at q
      · simp only [orR] at q
        split at q
        · rw [q_or, Bool.or_eq_true] at q
          rcases q with q | q
          · exact ih (by omega) r hr x hx q
          · obtain ⟨a, b, e1, e2, hab⟩ := hC (20 + n) (by omega) (by omega) hc.1
            rw [e1, e2, ← span32 a (by omega) b (by omega) hab, q_and, q_all x hx, Bool.and_eq_true] at q
            exact of_decide_eq_true q.2
        · exact ih (by omega) r hr x hx q
      · exact ih (by omega) r hr x hx q
    · exact ih (by omega) r hr x hx q
theorem kind3 : ∀ t, t < 80 → 20 ≤ t → moKind (nI t) = 3 := by decide +kernel
theorem isL_pt {ρ : MS} {ne : Int32} {g0 n5 nl : Nat} {f : Nat → Int64} (h : ∀ la, la < nl → isL ρ ne g0 n5 f la) (hO : mPt ρ ne) (hPv : moPv ρ ne) : ptI ρ ne nl f := fun t h20 h80 hp => by
  obtain ⟨ex, hx, ew, eh⟩ := hO t h20 h80 hp
  obtain ⟨-, hy⟩ := hPv t h20 h80 hp
  refine ⟨ex, hx, hy, fun la hla => ?_⟩
  obtain ⟨ρx, Gx, hI, -, hrow⟩ := h la hla
  have hp' := hp
  simp only [moPdP, Bool.and_eq_true, Bool.not_eq_true', decide_eq_false_iff_not, decide_eq_true_eq] at hp'
  have hk := kind3 t h80 h20
  have hc : moCop ρx.I t = true := by rw [hI, moCop, hk]; simp [hp'.1]
  have ho : moOn ρx.I t (nI la) = true := by rw [moOn, hk]; simp
  have hyx : yq ρx t = yq ρ t := by rw [yq, yq, hI]
  have hhx : hq ρx t = hq ρ t := by rw [hq, hq, hI]
  have := ll_own (ρ := ρx) (ne := ne) (la := la) (g := g0) (t := t) (r := yq ρ t) (x := xq ρ t) h20 hc ho (by rw [hI]; exact hp'.2) (by omega) (by omega) (by rw [hI, ex, ew, span1 _ hx _ (by omega)]; simp) 120 (by omega)
  rw [hrow _ hy, q_or, this, Bool.true_or]
def islM (ρ : MS) (ne : Int32) (nl : Nat) (f : Nat → Int64) : Nat → (Nat → Int64) → Nat → Prop
  | 0, G, c => (∀ j, j < 96 → G j = 0) ∧ c = 0
  | n + 1, G, c => ∃ G0 c0, islM ρ ne nl f n G0 c0 ∧ ((moPdP ρ.I ne (20 + n) = true ∧ moBit (G0 (yq ρ (20 + n))) (ρ.I 2 (20 + n)) = false ∧ c = c0 + 1 ∧ mFn ρ ne nl f (vp_updL G0 (yq ρ (20 + n)) (G0 (yq ρ (20 + n)) ||| (1 <<< ((ρ.I 2 (20 + n)).toInt64 &&& 63)))) G) ∨ ((moPdP ρ.I ne (20 + n) = false ∨ moBit (G0 (yq ρ (20 + n))) (ρ.I 2 (20 + n)) = true) ∧ c = c0 ∧ G = G0))
theorem islM_t {ρ : MS} {ne : Int32} {nl i c : Nat} {f G G' : Nat → Int64} (h : islM ρ ne nl f (i - 20) G c) (h20 : 20 ≤ i) (hp : moPdP ρ.I ne i = true) (hb : moBit (G (yq ρ i)) (ρ.I 2 i) = false) (hm : mFn ρ ne nl f (vp_updL G (yq ρ i) (G (yq ρ i) ||| (1 <<< ((ρ.I 2 i).toInt64 &&& 63)))) G') : islM ρ ne nl f (i + 1 - 20) G' (c + 1) := by
  rw [show i + 1 - 20 = (i - 20) + 1 by omega, islM, show 20 + (i - 20) = i by omega]
  exact ⟨G, c, h, Or.inl ⟨hp, hb, rfl, hm⟩⟩
theorem islM_f {ρ : MS} {ne : Int32} {nl i c : Nat} {f G : Nat → Int64} (h : islM ρ ne nl f (i - 20) G c) (h20 : 20 ≤ i) (hp : moPdP ρ.I ne i = false ∨ moBit (G (yq ρ i)) (ρ.I 2 i) = true) : islM ρ ne nl f (i + 1 - 20) G c := by
  rw [show i + 1 - 20 = (i - 20) + 1 by omega, islM, show 20 + (i - 20) = i by omega]
  exact ⟨G, c, h, Or.inr ⟨hp, rfl, rfl⟩⟩
theorem pt_md {ρ : MS} {ne : Int32} {nl t : Nat} {f G : Nat → Int64} (hnl : 1 ≤ nl) (hP : ptI ρ ne nl f) (hi : LIn nl f G) (h20 : 20 ≤ t) (h80 : t < 80) (hp : moPdP ρ.I ne t = true) : mMd ρ ne nl f (vp_updL G (yq ρ t) (G (yq ρ t) ||| (1 <<< ((ρ.I 2 t).toInt64 &&& 63)))) (vp_updL G (yq ρ t) (G (yq ρ t) ||| (1 <<< ((ρ.I 2 t).toInt64 &&& 63)))) 1 := by
  obtain ⟨ex, hx, hy, hf⟩ := hP t h20 h80 hp
  refine ⟨fun la hla r hr x hx2 q => ?_, fun _ _ => lSub_rf, fun _ _ _ h => h, fun q => absurd q (by decide)⟩
  by_cases h : 24 * la + r = yq ρ t
  · have hl0 : la = 0 := by omega
    subst hl0
    rw [h, uL_s, ex, q_or, Bool.or_eq_true] at q
    rcases q with q | q
    · have := hi 0 hla r hr x hx2
      rw [h] at this; rw [h]; exact this q
    · rw [shl1 _ hx x hx2] at q
      have := hf 0 hla
      rw [h, of_decide_eq_true q]
      rw [show 24 * 0 + yq ρ t = yq ρ t by omega] at this; exact this
  · rw [uL_n h] at q; exact hi la hla r hr x hx2 q
set_option maxHeartbeats 4000000 in
set_option maxRecDepth 100000 in
/-- islands -/
theorem c_Mo_islands (l : Launch) (D : va_G) (N0 : Nat) (k : Nat → Nat) (V : HV) (mo : Nat) (ad : Nat → Nat) (ρ : MS) (hM : mdOk k V mo ad ρ) (net : Int32) (hf0 : moFault (ρ.I 0) net 1 = 0) (ne : Int32) (ene : net - net / 1000 * 1000 = ne) (nl g0 : Nat) (hnl1 : 1 ≤ nl) (hnl : nl ≤ 4) (enl : ρ.s 1 = nI nl) (hg5 : g0 < 5) (hg0 : ρ.s 2 = nI g0) (hCv : moCv ρ) (hCw : moCw ρ) (hO : mPt ρ ne) (hPv : moPv ρ ne) (n5 : Nat) (hn5 : n5 ≤ 10) (en5 : ρ.I 0 5 = nI n5) : Met l y_Mo_islands (.code y_Mo_islands b_Mo_islands 7 (some .int) :: WS) ({ frames := 4, cells := 0, slots := 0, locals := 91 }) (mP D N0 k [.ref mo, .int net] V) (va_Qi (fun r V' => ∃ o f G c, mdOk k V' mo ad ((((ρ.ws 0 0).wL 0 o).wL 1 f).wL 2 G) ∧ mdFr mo ad V V' ∧ (∀ la, la < nl → isL ρ ne g0 n5 f la) ∧ islM ρ ne nl f 60 G c ∧ r = nI c) (mB D N0) (hA N0)) 0 0 (hA N0) := by
  refine Met.ofW (cc := b_Mo_islands) (maxL := 7) (ret := (some .int)) (by decide) rfl ?_
  intro p e s m args below meth c s₁ B hml hv0
  obtain ⟨rfl, hG, hV⟩ := hv0
  have hx := B.exec
  have hb := B.bytes
  have hr := B.returns
  have hts := atoms_spec (ws := .code y_Mo_islands b_Mo_islands 7 (some .int) :: WS) B.pre
  have hW : ∀ w ∈ WS, w.before _ s = true := fun w h => hts w (List.mem_cons_of_mem _ h)
  have hown : s.vm.findClass "BoardHouseModel" = some m.cls := findClass_of_methodNamed B.named
  have hlocks := B.notSynchronized
  have hS : va_S (hA N0) s.heap s.heap [] := va_S.rf
  have hl := lv_entry ([.ref mo, .int net]) (n := 7) (Nat.le_of_ble_eq_true rfl)
  rw [lg_entry_eq]
  generalize (lg_sl ([.ref mo, .int net]) ++ List.replicate (7 - (lg_sl ([.ref mo, .int net])).length) Slot.unset).toArray = ls at hl ⊢
  have hl : lv_has ls 7 [(0, .ref mo), (1, .int net)] := hl
  have hm_1 : V mo = some (.inr (7, [.int (ρ.s 0), .int (ρ.s 1), .int (ρ.s 2), .int (ρ.s 3), .ref (ad 0), .ref (ad 1), .ref (ad 2), .ref (ad 3), .ref (ad 4), .ref (ad 5), .ref (ad 6), .ref (ad 7), .ref (ad 8), .int (ρ.s 4), .ref (ad 9), .ref (ad 10), .ref (ad 11), .ref (ad 12), .ref (ad 13), .ref (ad 14), .ref (ad 15), .ref (ad 16), .ref (ad 17), .ref (ad 18), .ref (ad 19), .ref (ad 20), .ref (ad 21), .ref (ad 22), .ref (ad 23), .ref (ad 24), .ref (ad 25)])) := hM.1
  have hm_1_2 : V (ad 2) = some (eI k 150 (ρ.I 2)) := hM.a2
  have hm_1_3 : V (ad 3) = some (eI k 150 (ρ.I 3)) := hM.a3
  have hm_1_23 : V (ad 23) = some (eL k 96 (ρ.L 0)) := hM.a23
  have hm_1_24 : V (ad 24) = some (eL k 96 (ρ.L 1)) := hM.a24
  have hm_1_25 : V (ad 25) = some (eL k 96 (ρ.L 2)) := hM.a25
  refine lv_aload_n hx hb d_Mo_islands_0 rfl (lv_at hl 0 rfl) ?_
  refine lv_aload_n hx hb d_Mo_islands_1 rfl (lv_at hl 0 rfl) ?_
  refine lv_iload_n hx hb d_Mo_islands_2 rfl (lv_at hl 1 rfl) ?_
  refine lv_iconst (v := 1) hx hb d_Mo_islands_3 (by decide) ?_
  refine rc_i (va_runV (As := [.int net, .int 1]) (rest := [.ref mo]) ⟨hx, hb, hml, hown, hts⟩ (c_Mo_fault l D N0 k V mo ad ρ hM net 1) (cwV 2 hts (gi_V wm_Mo_176 wv_Mo_fault ws_Mo_fault wi_Mo wc_Mo_fault) rfl rfl rfl (by decide +kernel) ⟨Nat.le_of_ble_eq_true rfl, Nat.le_of_ble_eq_true rfl⟩) (mP.preV hG hS hV hm_1 rfl) rfl rfl hl.1 rfl (lv_room (Nat.le_of_ble_eq_true rfl)) d_Mo_islands_4 ⟨Nat.le_of_ble_eq_true rfl, Nat.le_of_ble_eq_true rfl⟩) hS (fun H locs hV hS => ?_)
  refine W.eq (g2 := F0 m 7 ls [.int (moFault (ρ.I 0) net 1), .ref mo]) rfl ?_
  refine lv_topi (fun f_2 ef_2 => ?_)
  refine pf_Mo_100 hx hb hW hown hG hV hS hm_1 d_Mo_islands_7 (fun H locs hV hS => ?_)
  replace hV : hv D vwCl N0 (hu V mo (.inr (7, [.int f_2, .int (ρ.s 1), .int (ρ.s 2), .int (ρ.s 3), .ref (ad 0), .ref (ad 1), .ref (ad 2), .ref (ad 3), .ref (ad 4), .ref (ad 5), .ref (ad 6), .ref (ad 7), .ref (ad 8), .int (ρ.s 4), .ref (ad 9), .ref (ad 10), .ref (ad 11), .ref (ad 12), .ref (ad 13), .ref (ad 14), .ref (ad 15), .ref (ad 16), .ref (ad 17), .ref (ad 18), .ref (ad 19), .ref (ad 20), .ref (ad 21), .ref (ad 22), .ref (ad 23), .ref (ad 24), .ref (ad 25)]))) H := hV
  generalize hV_V_3 : hu V mo (.inr (7, [.int f_2, .int (ρ.s 1), .int (ρ.s 2), .int (ρ.s 3), .ref (ad 0), .ref (ad 1), .ref (ad 2), .ref (ad 3), .ref (ad 4), .ref (ad 5), .ref (ad 6), .ref (ad 7), .ref (ad 8), .int (ρ.s 4), .ref (ad 9), .ref (ad 10), .ref (ad 11), .ref (ad 12), .ref (ad 13), .ref (ad 14), .ref (ad 15), .ref (ad 16), .ref (ad 17), .ref (ad 18), .ref (ad 19), .ref (ad 20), .ref (ad 21), .ref (ad 22), .ref (ad 23), .ref (ad 24), .ref (ad 25)])) = V_3 at hV
  have hM_3 : mdOk k V_3 mo ad (ρ.ws 0 f_2) := by rw [← hV_V_3]; exact md_put hM 0 f_2
  have hR_3 : mdFr mo ad V V_3 := by rw [← hV_V_3]; exact (mdFr.rf (mo := mo) (ad := ad) (V := V)).m
  have hm_4 : V_3 mo = some (.inr (7, [.int f_2, .int (ρ.s 1), .int (ρ.s 2), .int (ρ.s 3), .ref (ad 0), .ref (ad 1), .ref (ad 2), .ref (ad 3), .ref (ad 4), .ref (ad 5), .ref (ad 6), .ref (ad 7), .ref (ad 8), .int (ρ.s 4), .ref (ad 9), .ref (ad 10), .ref (ad 11), .ref (ad 12), .ref (ad 13), .ref (ad 14), .ref (ad 15), .ref (ad 16), .ref (ad 17), .ref (ad 18), .ref (ad 19), .ref (ad 20), .ref (ad 21), .ref (ad 22), .ref (ad 23), .ref (ad 24), .ref (ad 25)])) := hM_3.1
  have hm_4_2 : V_3 (ad 2) = some (eI k 150 (ρ.I 2)) := hM_3.a2
  have hm_4_3 : V_3 (ad 3) = some (eI k 150 (ρ.I 3)) := hM_3.a3
  have hm_4_23 : V_3 (ad 23) = some (eL k 96 (ρ.L 0)) := hM_3.a23
  have hm_4_24 : V_3 (ad 24) = some (eL k 96 (ρ.L 1)) := hM_3.a24
  have hm_4_25 : V_3 (ad 25) = some (eL k 96 (ρ.L 2)) := hM_3.a25
  refine lv_aload_n hx hb d_Mo_islands_10 rfl (lv_at hl 0 rfl) ?_
  refine gf_Mo_100 hx hb hW hown hG hV hm_4 d_Mo_islands_11 ?_
  refine lv_if_eq (tgt := 19) hx hb d_Mo_islands_14 (by decide) (fun c_5 => ?_) (fun c_5 => ?_)
  · have hz0 : f_2 = 0 := ef_2.trans hf0
    have hMc : mdOk k V_3 mo ad (ρ.ws 0 0) := by have q := hM_3; rw [hz0] at q; exact q
    have hm_6 : V_3 mo = some (.inr (7, [.int 0, .int (ρ.s 1), .int (ρ.s 2), .int (ρ.s 3), .ref (ad 0), .ref (ad 1), .ref (ad 2), .ref (ad 3), .ref (ad 4), .ref (ad 5), .ref (ad 6), .ref (ad 7), .ref (ad 8), .int (ρ.s 4), .ref (ad 9), .ref (ad 10), .ref (ad 11), .ref (ad 12), .ref (ad 13), .ref (ad 14), .ref (ad 15), .ref (ad 16), .ref (ad 17), .ref (ad 18), .ref (ad 19), .ref (ad 20), .ref (ad 21), .ref (ad 22), .ref (ad 23), .ref (ad 24), .ref (ad 25)])) := hMc.1
    have hm_6_2 : V_3 (ad 2) = some (eI k 150 (ρ.I 2)) := hMc.a2
    have hm_6_3 : V_3 (ad 3) = some (eI k 150 (ρ.I 3)) := hMc.a3
    have hm_6_23 : V_3 (ad 23) = some (eL k 96 (ρ.L 0)) := hMc.a23
    have hm_6_24 : V_3 (ad 24) = some (eL k 96 (ρ.L 1)) := hMc.a24
    have hm_6_25 : V_3 (ad 25) = some (eL k 96 (ρ.L 2)) := hMc.a25
    refine lv_iload_n hx hb d_Mo_islands_19 rfl (lv_at hl 1 rfl) ?_
    refine lv_sipush (v := 1000) hx hb d_Mo_islands_20 (by decide) ?_
    refine lv_irem hx hb d_Mo_islands_23 (by decide) ?_
    refine W.eq (g2 := F0 m 24 ls [.int (ne)]) (by rw [ene]) ?_
    refine lv_istore_n (lv' := [(2, .int (ne)), (0, .ref mo), (1, .int net)]) hx hb d_Mo_islands_24 rfl hl (by decide) rfl (fun ls hl => ?_)
    refine lv_iconst (v := 0) hx hb d_Mo_islands_25 (by decide) ?_
    refine lv_istore_n (lv' := [(3, .int 0), (2, .int (ne)), (0, .ref mo), (1, .int net)]) hx hb d_Mo_islands_26 rfl hl (by decide) rfl (fun ls hl => ?_)
    have loop_7 : ∀ (n i : Nat) (V1 : HV) (o f G : Nat → Int64) (H : Heap) (locs : List Loc) (ls : Array Slot), i ≤ nl → nl + 1 ≤ i + n → (mdOk k V1 mo ad ((((ρ.ws 0 0).wL 0 o).wL 1 f).wL 2 G) ∧ mdFr mo ad V V1 ∧ ∀ la, la < i → isL ρ ne g0 n5 f la) → hv D vwCl N0 V1 H → va_S (hA N0) s.heap H locs → lv_has ls 7 [(0, .ref mo), (2, .int (ne)), (3, .int (nI i))] → W p l e (headSpec (.code y_Mo_islands b_Mo_islands 7 (some .int) :: WS) ({ frames := 4, cells := 0, slots := 0, locals := 91 })).room s m #[.ref mo, .int net] below meth c H locs 0 0 (MQ below (va_Qi (fun r V' => ∃ o f G c, mdOk k V' mo ad ((((ρ.ws 0 0).wL 0 o).wL 1 f).wL 2 G) ∧ mdFr mo ad V V' ∧ (∀ la, la < nl → isL ρ ne g0 n5 f la) ∧ islM ρ ne nl f 60 G c ∧ r = nI c) (mB D N0) (hA N0)) #[.ref mo, .int net] s 0 0 (hA N0)) (F0 m 27 ls []) := by
      intro n
      induction n with
      | zero => intro i V1 o f G H locs ls h1 h2; exact absurd h2 (by omega)
      | succ n ih =>
        intro i V1 o f G H locs ls hi hin hI hV hS hl
        obtain ⟨hM1, hR1, hL1⟩ := hI
        have hm_8 : V1 mo = some (.inr (7, [.int 0, .int (ρ.s 1), .int (ρ.s 2), .int (ρ.s 3), .ref (ad 0), .ref (ad 1), .ref (ad 2), .ref (ad 3), .ref (ad 4), .ref (ad 5), .ref (ad 6), .ref (ad 7), .ref (ad 8), .int (ρ.s 4), .ref (ad 9), .ref (ad 10), .ref (ad 11), .ref (ad 12), .ref (ad 13), .ref (ad 14), .ref (ad 15), .ref (ad 16), .ref (ad 17), .ref (ad 18), .ref (ad 19), .ref (ad 20), .ref (ad 21), .ref (ad 22), .ref (ad 23), .ref (ad 24), .ref (ad 25)])) := hM1.1
        have hm_8_2 : V1 (ad 2) = some (eI k 150 (ρ.I 2)) := hM1.a2
        have hm_8_3 : V1 (ad 3) = some (eI k 150 (ρ.I 3)) := hM1.a3
        have hm_8_23 : V1 (ad 23) = some (eL k 96 o) := hM1.a23
        have hm_8_24 : V1 (ad 24) = some (eL k 96 f) := hM1.a24
        have hm_8_25 : V1 (ad 25) = some (eL k 96 G) := hM1.a25
        refine lv_iload_n hx hb d_Mo_islands_27 rfl (lv_at hl 2 rfl) ?_
        refine lv_aload_n hx hb d_Mo_islands_28 rfl (lv_at hl 0 rfl) ?_
        refine gf_Mo_94 hx hb hW hown hG hV hm_8 d_Mo_islands_29 ?_
        refine W.eq (g2 := F0 m 32 ls [.int (nI nl), .int (nI i)]) (by rw [enl]) ?_
        refine lv_icmp_ge (tgt := 110) hx hb d_Mo_islands_32 (by decide) (fun c_9 => ?_) (fun c_9 => ?_)
        · have hge : nl ≤ i := nI_le' c_9 (by omega) (by omega)
          refine lv_iconst (v := 0) hx hb d_Mo_islands_110 (by decide) ?_
          refine lv_istore_n (lv' := [(3, .int 0), (0, .ref mo), (2, .int (ne))]) hx hb d_Mo_islands_111 rfl hl (by decide) rfl (fun ls hl => ?_)
          have hL : ∀ la, la < nl → isL ρ ne g0 n5 f la := fun la h => hL1 la (by omega)
          have hP := isL_pt hL hO hPv
          have h32 : ∀ la, la < nl → l32 f la := fun la h => isL_32 (hL la h) (fun ρx hI => own_32 (fun t a b q => by rw [hI] at q ⊢; exact hCw t a b q) 120 (Nat.le_refl _))
          have loop_10 : ∀ (nz iz : Nat) (V1z : HV) (Gz : Nat → Int64) (H : Heap) (locs : List Loc) (ls : Array Slot), iz ≤ 96 → 96 + 1 ≤ iz + nz → (mdOk k V1z mo ad ((((ρ.ws 0 0).wL 0 o).wL 1 f).wL 2 Gz) ∧ mdFr mo ad V V1z ∧ ∀ j, j < iz → Gz j = 0) → hv D vwCl N0 V1z H → va_S (hA N0) s.heap H locs → lv_has ls 7 [(0, .ref mo), (2, .int (ne)), (3, .int (nI iz))] → W p l e (headSpec (.code y_Mo_islands b_Mo_islands 7 (some .int) :: WS) ({ frames := 4, cells := 0, slots := 0, locals := 91 })).room s m #[.ref mo, .int net] below meth c H locs 0 0 (MQ below (va_Qi (fun r V' => ∃ o f G c, mdOk k V' mo ad ((((ρ.ws 0 0).wL 0 o).wL 1 f).wL 2 G) ∧ mdFr mo ad V V' ∧ (∀ la, la < nl → isL ρ ne g0 n5 f la) ∧ islM ρ ne nl f 60 G c ∧ r = nI c) (mB D N0) (hA N0)) #[.ref mo, .int net] s 0 0 (hA N0)) (F0 m 112 ls []) := by
            intro nz
            induction nz with
            | zero => intro iz V1z Gz H locs ls h1 h2; exact absurd h2 (by omega)
            | succ nz ihz =>
              intro iz V1z Gz H locs ls hiz hinz hIz hV hS hl
              obtain ⟨hMz, hRz, hz⟩ := hIz
              have hm_11 : V1z mo = some (.inr (7, [.int 0, .int (ρ.s 1), .int (ρ.s 2), .int (ρ.s 3), .ref (ad 0), .ref (ad 1), .ref (ad 2), .ref (ad 3), .ref (ad 4), .ref (ad 5), .ref (ad 6), .ref (ad 7), .ref (ad 8), .int (ρ.s 4), .ref (ad 9), .ref (ad 10), .ref (ad 11), .ref (ad 12), .ref (ad 13), .ref (ad 14), .ref (ad 15), .ref (ad 16), .ref (ad 17), .ref (ad 18), .ref (ad 19), .ref (ad 20), .ref (ad 21), .ref (ad 22), .ref (ad 23), .ref (ad 24), .ref (ad 25)])) := hMz.1
              have hm_11_2 : V1z (ad 2) = some (eI k 150 (ρ.I 2)) := hMz.a2
              have hm_11_3 : V1z (ad 3) = some (eI k 150 (ρ.I 3)) := hMz.a3
              have hm_11_23 : V1z (ad 23) = some (eL k 96 o) := hMz.a23
              have hm_11_24 : V1z (ad 24) = some (eL k 96 f) := hMz.a24
              have hm_11_25 : V1z (ad 25) = some (eL k 96 Gz) := hMz.a25
              refine lv_iload_n hx hb d_Mo_islands_112 rfl (lv_at hl 2 rfl) ?_
              refine lv_bipush (v := 96) hx hb d_Mo_islands_113 (by decide) ?_
              refine lv_icmp_ge (tgt := 131) hx hb d_Mo_islands_115 (by decide) (fun c_12 => ?_) (fun c_12 => ?_)
              · have hgez : 96 ≤ iz := nI_le' (a := 96) (b := iz) c_12 (by decide) (by omega)
                refine lv_iconst (v := 0) hx hb d_Mo_islands_131 (by decide) ?_
                refine lv_istore_n (lv' := [(3, .int 0), (0, .ref mo), (2, .int (ne))]) hx hb d_Mo_islands_132 rfl hl (by decide) rfl (fun ls hl => ?_)
                refine lv_bipush (v := 20) hx hb d_Mo_islands_133 (by decide) ?_
                refine lv_istore (lv' := [(4, .int 20), (3, .int 0), (0, .ref mo), (2, .int (ne))]) hx hb d_Mo_islands_135 hl (by decide) rfl (fun ls hl => ?_)
                have loop_13 : ∀ (nt it : Nat) (V1t : HV) (Gt : Nat → Int64) (c0 : Nat) (H : Heap) (locs : List Loc) (ls : Array Slot), it ≤ 80 → 80 + 1 ≤ it + nt → (mdOk k V1t mo ad ((((ρ.ws 0 0).wL 0 o).wL 1 f).wL 2 Gt) ∧ mdFr mo ad V V1t ∧ islM ρ ne nl f (it - 20) Gt c0 ∧ LIn nl f Gt ∧ 20 ≤ it) → hv D vwCl N0 V1t H → va_S (hA N0) s.heap H locs → lv_has ls 7 [(0, .ref mo), (2, .int (ne)), (3, .int (nI c0)), (4, .int (nI it))] → W p l e (headSpec (.code y_Mo_islands b_Mo_islands 7 (some .int) :: WS) ({ frames := 4, cells := 0, slots := 0, locals := 91 })).room s m #[.ref mo, .int net] below meth c H locs 0 0 (MQ below (va_Qi (fun r V' => ∃ o f G c, mdOk k V' mo ad ((((ρ.ws 0 0).wL 0 o).wL 1 f).wL 2 G) ∧ mdFr mo ad V V' ∧ (∀ la, la < nl → isL ρ ne g0 n5 f la) ∧ islM ρ ne nl f 60 G c ∧ r = nI c) (mB D N0) (hA N0)) #[.ref mo, .int net] s 0 0 (hA N0)) (F0 m 137 ls []) := by
                  intro nt
                  induction nt with
                  | zero => intro it V1t Gt c0 H locs ls h1 h2; exact absurd h2 (by omega)
                  | succ nt iht =>
                    intro it V1t Gt c0 H locs ls hit hint hIt hV hS hl
                    obtain ⟨hMt, hRt, his, hLi, h20⟩ := hIt
                    have hm_14 : V1t mo = some (.inr (7, [.int 0, .int (ρ.s 1), .int (ρ.s 2), .int (ρ.s 3), .ref (ad 0), .ref (ad 1), .ref (ad 2), .ref (ad 3), .ref (ad 4), .ref (ad 5), .ref (ad 6), .ref (ad 7), .ref (ad 8), .int (ρ.s 4), .ref (ad 9), .ref (ad 10), .ref (ad 11), .ref (ad 12), .ref (ad 13), .ref (ad 14), .ref (ad 15), .ref (ad 16), .ref (ad 17), .ref (ad 18), .ref (ad 19), .ref (ad 20), .ref (ad 21), .ref (ad 22), .ref (ad 23), .ref (ad 24), .ref (ad 25)])) := hMt.1
                    have hm_14_2 : V1t (ad 2) = some (eI k 150 (ρ.I 2)) := hMt.a2
                    have hm_14_3 : V1t (ad 3) = some (eI k 150 (ρ.I 3)) := hMt.a3
                    have hm_14_23 : V1t (ad 23) = some (eL k 96 o) := hMt.a23
                    have hm_14_24 : V1t (ad 24) = some (eL k 96 f) := hMt.a24
                    have hm_14_25 : V1t (ad 25) = some (eL k 96 Gt) := hMt.a25
                    refine lv_iload hx hb d_Mo_islands_137 (lv_at hl 3 rfl) ?_
                    refine lv_bipush (v := 80) hx hb d_Mo_islands_139 (by decide) ?_
                    refine lv_icmp_ge (tgt := 266) hx hb d_Mo_islands_141 (by decide) (fun c_15 => ?_) (fun c_15 => ?_)
                    · have hget : 80 ≤ it := nI_le' (a := 80) (b := it) c_15 (by decide) (by omega)
                      refine lv_iload_n hx hb d_Mo_islands_266 rfl (lv_at hl 2 rfl) ?_
                      exact W.iret (v := (nI c0)) hx hb hr (fun t9 ht hW => ⟨⟨(nI c0), V1t, rfl, ⟨o, f, Gt, c0, hMt, hRt, hL, by rw [← show it - 20 = 60 by omega]; exact his, rfl⟩, mB_of ht hV⟩, hS.F ht⟩) hS.2.2 d_Mo_islands_267
                    · have hltt : it < 80 := nI_nle' (a := 80) (b := it) c_15 (by decide) (by omega)
                      refine lv_aload_n hx hb d_Mo_islands_144 rfl (lv_at hl 0 rfl) ?_
                      refine lv_iload hx hb d_Mo_islands_145 (lv_at hl 3 rfl) ?_
                      refine lv_iload_n hx hb d_Mo_islands_147 rfl (lv_at hl 1 rfl) ?_
                      refine rc_i (va_runV (As := [.int (nI it), .int (ne)]) (rest := []) ⟨hx, hb, hml, hown, hts⟩ (c_Mo_isPadOf l D N0 k V1t mo ad ((((ρ.ws 0 0).wL 0 o).wL 1 f).wL 2 Gt) hMt it (by omega) (ne)) (cwV 2 hts (gi_V wm_Mo_230 wv_Mo_isPadOf ws_Mo_isPadOf wi_Mo wc_Mo_isPadOf) rfl rfl rfl (by decide +kernel) ⟨Nat.le_of_ble_eq_true rfl, Nat.le_of_ble_eq_true rfl⟩) (mP.preV hG hS hV hm_14 rfl) rfl rfl hl.1 rfl (lv_room (Nat.le_of_ble_eq_true rfl)) d_Mo_islands_148 ⟨Nat.le_of_ble_eq_true rfl, Nat.le_of_ble_eq_true rfl⟩) hS (fun H locs hV hS => ?_)
                      refine W.eq (g2 := F0 m 151 ls [.int (bI (moPdP ρ.I (ne) it))]) rfl ?_
                      refine lv_if_eq (tgt := 260) hx hb d_Mo_islands_151 (by decide) (fun c_16 => ?_) (fun c_16 => ?_)
                      · obtain ⟨i_17, ei_17⟩ : ∃ y : Int32, y = (nI it) + 1 := ⟨_, rfl⟩
                        refine lv_iinc (v := i_17) (lv' := [(4, .int i_17), (0, .ref mo), (2, .int (ne)), (3, .int (nI c0))]) hx hb d_Mo_islands_260 hl (k := 3) rfl (by rw [ei_17]; rfl) (by decide) rfl (fun ls hl => ?_)
                        refine lv_goto (tgt := 137) hx hb d_Mo_islands_263 (by decide) ?_
                        rw [nI_1] at ei_17
                        subst ei_17
                        exact iht (it + 1) V1t Gt c0 _ _ _ (by omega) (by omega) (⟨hMt, hRt, islM_f his h20 (Or.inl (bI_eq0.mp c_16)), hLi, by omega⟩) hV hS (lv_sub hl [1, 2, 3, 0] rfl)
                      · obtain ⟨ey, hy24⟩ := hPv it h20 hltt (bI_ne0.mp c_16)
                        refine lv_aload_n hx hb d_Mo_islands_154 rfl (lv_at hl 0 rfl) ?_
                        refine lv_iload hx hb d_Mo_islands_155 (lv_at hl 3 rfl) ?_
                        refine rc_i (va_runV (As := [.int (nI it)]) (rest := []) ⟨hx, hb, hml, hown, hts⟩ (c_Mo_isGrown l D N0 k V1t mo ad ((((ρ.ws 0 0).wL 0 o).wL 1 f).wL 2 Gt) hMt it (yq ρ it) (by omega) hy24 ey) (cwV 1 hts (gi_V wm_Mo_236 wv_Mo_isGrown ws_Mo_isGrown wi_Mo wc_Mo_isGrown) rfl rfl rfl (by decide +kernel) ⟨Nat.le_of_ble_eq_true rfl, Nat.le_of_ble_eq_true rfl⟩) (mP.preV hG hS hV hm_14 rfl) rfl rfl hl.1 rfl (lv_room (Nat.le_of_ble_eq_true rfl)) d_Mo_islands_157 ⟨Nat.le_of_ble_eq_true rfl, Nat.le_of_ble_eq_true rfl⟩) hS (fun H locs hV hS => ?_)
                        refine W.eq (g2 := F0 m 160 ls [.int (bI (moBit (Gt (yq ρ it)) (ρ.I 2 it)))]) rfl ?_
                        refine lv_if_eq (tgt := 166) hx hb d_Mo_islands_160 (by decide) (fun c_18 => ?_) (fun c_18 => ?_)
                        · obtain ⟨i_19, ei_19⟩ : ∃ y : Int32, y = (nI c0) + 1 := ⟨_, rfl⟩
                          refine lv_iinc (v := i_19) (lv' := [(3, .int i_19), (0, .ref mo), (2, .int (ne)), (4, .int (nI it))]) hx hb d_Mo_islands_166 hl (k := 2) rfl (by rw [ei_19]; rfl) (by decide) rfl (fun ls hl => ?_)
                          rw [nI_1] at ei_19
                          subst ei_19
                          refine lv_aload_n hx hb d_Mo_islands_169 rfl (lv_at hl 1 rfl) ?_
                          refine gf_Mo_91 hx hb hW hown hG hV hm_14 d_Mo_islands_170 ?_
                          refine lv_aload_n hx hb d_Mo_islands_173 rfl (lv_at hl 1 rfl) ?_
                          refine gf_Mo_20 hx hb hW hown hG hV hm_14 d_Mo_islands_174 ?_
                          refine lv_iload hx hb d_Mo_islands_177 (lv_at hl 3 rfl) ?_
                          refine hv_iald hx hb hG.K hV 0 hm_14_3 rfl (vp_in_nI (by omega) (by omega)) d_Mo_islands_179 ?_
                          rw [nI_clamp (by omega)]
                          refine W.eq (g2 := F0 m 180 ls [.int (nI (yq ρ it)), .ref (ad 25)]) (by rw [ey]) ?_
                          refine lv_aload_n hx hb d_Mo_islands_180 rfl (lv_at hl 1 rfl) ?_
                          refine gf_Mo_91 hx hb hW hown hG hV hm_14 d_Mo_islands_181 ?_
                          refine lv_aload_n hx hb d_Mo_islands_184 rfl (lv_at hl 1 rfl) ?_
                          refine gf_Mo_20 hx hb hW hown hG hV hm_14 d_Mo_islands_185 ?_
                          refine lv_iload hx hb d_Mo_islands_188 (lv_at hl 3 rfl) ?_
                          refine hv_iald hx hb hG.K hV 0 hm_14_3 rfl (vp_in_nI (by omega) (by omega)) d_Mo_islands_190 ?_
                          rw [nI_clamp (by omega)]
                          refine W.eq (g2 := F0 m 191 ls [.int (nI (yq ρ it)), .ref (ad 25), .int (nI (yq ρ it)), .ref (ad 25)]) (by rw [ey]) ?_
                          refine hv_lald hx hb hG.K hV 1 hm_14_25 rfl (vp_in_nI (by omega) (by omega)) d_Mo_islands_191 ?_
                          rw [nI_clamp (by omega)]
                          refine lv_lconst (v := 1) hx hb d_Mo_islands_192 (by decide) ?_
                          refine lv_aload_n hx hb d_Mo_islands_193 rfl (lv_at hl 1 rfl) ?_
                          refine gf_Mo_17 hx hb hW hown hG hV hm_14 d_Mo_islands_194 ?_
                          refine lv_iload hx hb d_Mo_islands_197 (lv_at hl 3 rfl) ?_
                          refine hv_iald hx hb hG.K hV 0 hm_14_2 rfl (vp_in_nI (by omega) (by omega)) d_Mo_islands_199 ?_
                          rw [nI_clamp (by omega)]
                          refine lv_lshl hx hb d_Mo_islands_200 rfl ?_
                          refine lv_lor hx hb d_Mo_islands_201 ?_
                          refine hv_last hx hb hG.K hV hS 1 hm_14_25 rfl (vp_in_nI (by omega) (by omega)) d_Mo_islands_202 (fun H locs hV hS => ?_)
                          rw [nI_clamp (by omega)] at hV
                          replace hV : hv D vwCl N0 (hu V1t (ad 25) (eL k 96 (vp_updL Gt (yq ρ it) ((Gt (yq ρ it)) ||| (1 <<< (((ρ.I 2) it).toInt64 &&& 63)))))) H := hV
                          generalize hV_V_20 : hu V1t (ad 25) (eL k 96 (vp_updL Gt (yq ρ it) ((Gt (yq ρ it)) ||| (1 <<< (((ρ.I 2) it).toInt64 &&& 63))))) = V_20 at hV
                          have hM_20 : mdOk k V_20 mo ad (((((ρ.ws 0 0).wL 0 o).wL 1 f).wL 2 Gt).wL 2 (vp_updL Gt (yq ρ it) ((Gt (yq ρ it)) ||| (1 <<< (((ρ.I 2) it).toInt64 &&& 63))))) := by rw [← hV_V_20]; exact md_setL hMt 2 (by omega) (vp_updL Gt (yq ρ it) ((Gt (yq ρ it)) ||| (1 <<< (((ρ.I 2) it).toInt64 &&& 63))))
                          have hR_20 : mdFr mo ad V V_20 := by rw [← hV_V_20]; exact hRt.ar (j := 25) (by omega)
                          have hm_21 : V_20 mo = some (.inr (7, [.int 0, .int (ρ.s 1), .int (ρ.s 2), .int (ρ.s 3), .ref (ad 0), .ref (ad 1), .ref (ad 2), .ref (ad 3), .ref (ad 4), .ref (ad 5), .ref (ad 6), .ref (ad 7), .ref (ad 8), .int (ρ.s 4), .ref (ad 9), .ref (ad 10), .ref (ad 11), .ref (ad 12), .ref (ad 13), .ref (ad 14), .ref (ad 15), .ref (ad 16), .ref (ad 17), .ref (ad 18), .ref (ad 19), .ref (ad 20), .ref (ad 21), .ref (ad 22), .ref (ad 23), .ref (ad 24), .ref (ad 25)])) := hM_20.1
                          have hm_21_2 : V_20 (ad 2) = some (eI k 150 (ρ.I 2)) := hM_20.a2
                          have hm_21_3 : V_20 (ad 3) = some (eI k 150 (ρ.I 3)) := hM_20.a3
                          have hm_21_23 : V_20 (ad 23) = some (eL k 96 o) := hM_20.a23
                          have hm_21_24 : V_20 (ad 24) = some (eL k 96 f) := hM_20.a24
                          have hm_21_25 : V_20 (ad 25) = some (eL k 96 (vp_updL Gt (yq ρ it) ((Gt (yq ρ it)) ||| (1 <<< (((ρ.I 2) it).toInt64 &&& 63))))) := hM_20.a25
                          refine lv_iconst (v := 1) hx hb d_Mo_islands_203 (by decide) ?_
                          refine lv_istore (lv' := [(5, .int 1), (3, .int (nI (c0 + 1))), (0, .ref mo), (2, .int (ne)), (4, .int (nI it))]) hx hb d_Mo_islands_204 hl (by decide) rfl (fun ls hl => ?_)
                          obtain ⟨g, eg⟩ : ∃ z, z = (vp_updL Gt (yq ρ it) ((Gt (yq ρ it)) ||| (1 <<< (((ρ.I 2) it).toInt64 &&& 63)))) := ⟨_, rfl⟩
                          have hMg : mdOk k V_20 mo ad ((((ρ.ws 0 0).wL 0 o).wL 1 f).wL 2 g) := by have q := hM_20; rw [wL_wL, ← eg] at q; exact q
                          have loop : ∀ (n : Nat) (V9 : HV) (G9 : Nat → Int64) (q9 : Int32) (H : Heap) (locs : List Loc) (ls : Array Slot), ((q9 = 0 ∧ 1 ≤ n) ∨ 6146 ≤ mcL nl G9 + n) → mdOk k V9 mo ad ((((ρ.ws 0 0).wL 0 o).wL 1 f).wL 2 G9) → mdFr mo ad V V9 → mMd ρ ne nl f g G9 q9 → hv D vwCl N0 V9 H → va_S (hA N0) s.heap H locs → lv_has ls 7 [(0, .ref mo), (2, .int ne), (3, .int (nI (c0 + 1))), (4, .int (nI it)), (5, .int q9)] → W p l e (headSpec (.code y_Mo_islands b_Mo_islands 7 (some .int) :: WS) ({ frames := 4, cells := 0, slots := 0, locals := 91 })).room s m #[.ref mo, .int net] below meth c H locs 0 0 (MQ below (va_Qi (fun r V' => ∃ o f G c, mdOk k V' mo ad ((((ρ.ws 0 0).wL 0 o).wL 1 f).wL 2 G) ∧ mdFr mo ad V V' ∧ (∀ la, la < nl → isL ρ ne g0 n5 f la) ∧ islM ρ ne nl f 60 G c ∧ r = nI c) (mB D N0) (hA N0)) #[.ref mo, .int net] s 0 0 (hA N0)) (F0 m 206 ls []) := by
                            intro n
                            induction n with
                            | zero => intro V9 G9 q9 H locs ls h; have := mcL_max (nl := nl) (G := G9); exact absurd h (by omega)
                            | succ n ih =>
                              intro V9 G9 q9 H locs ls hn hM9 hR9 hI9 hV hS hl
                              have hm_22 : V9 mo = some (.inr (7, [.int 0, .int (ρ.s 1), .int (ρ.s 2), .int (ρ.s 3), .ref (ad 0), .ref (ad 1), .ref (ad 2), .ref (ad 3), .ref (ad 4), .ref (ad 5), .ref (ad 6), .ref (ad 7), .ref (ad 8), .int (ρ.s 4), .ref (ad 9), .ref (ad 10), .ref (ad 11), .ref (ad 12), .ref (ad 13), .ref (ad 14), .ref (ad 15), .ref (ad 16), .ref (ad 17), .ref (ad 18), .ref (ad 19), .ref (ad 20), .ref (ad 21), .ref (ad 22), .ref (ad 23), .ref (ad 24), .ref (ad 25)])) := hM9.1
                              have hm_22_2 : V9 (ad 2) = some (eI k 150 (ρ.I 2)) := hM9.a2
                              have hm_22_3 : V9 (ad 3) = some (eI k 150 (ρ.I 3)) := hM9.a3
                              have hm_22_23 : V9 (ad 23) = some (eL k 96 o) := hM9.a23
                              have hm_22_24 : V9 (ad 24) = some (eL k 96 f) := hM9.a24
                              have hm_22_25 : V9 (ad 25) = some (eL k 96 G9) := hM9.a25
                              refine lv_iload hx hb d_Mo_islands_206 (lv_at hl 4 rfl) ?_
                              refine lv_if_eq (tgt := 260) hx hb d_Mo_islands_208 (by decide) (fun c_23 => ?_) (fun c_23 => ?_)
                              · obtain ⟨i_24, ei_24⟩ : ∃ y : Int32, y = (nI it) + 1 := ⟨_, rfl⟩
                                refine lv_iinc (v := i_24) (lv' := [(4, .int i_24), (0, .ref mo), (2, .int ne), (3, .int (nI (c0 + 1))), (5, .int q9)]) hx hb d_Mo_islands_260 hl (k := 3) rfl (by rw [ei_24]; rfl) (by decide) rfl (fun ls hl => ?_)
                                refine lv_goto (tgt := 137) hx hb d_Mo_islands_263 (by decide) ?_
                                rw [nI_1] at ei_24
                                subst ei_24
                                exact iht (it + 1) V9 G9 (c0 + 1) _ _ _ (by omega) (by omega) (⟨hM9, hR9, islM_t his h20 (bI_ne0.mp c_16) (bI_eq0.mp c_18) (by rw [← eg]; exact ⟨hI9.1, hI9.2.1, hI9.2.2.1, hI9.2.2.2 c_23⟩), hI9.1, by omega⟩) hV hS (lv_sub hl [1, 2, 3, 0] rfl)
                              · refine lv_aload_n hx hb d_Mo_islands_211 rfl (lv_at hl 0 rfl) ?_
                                refine lv_iload_n hx hb d_Mo_islands_212 rfl (lv_at hl 1 rfl) ?_
                                refine rc_I (va_runV (As := [.int ne]) (rest := []) ⟨hx, hb, hml, hown, hts⟩ (c_Mo_joinLayers l D N0 k V9 mo ad ((((ρ.ws 0 0).wL 0 o).wL 1 f).wL 2 G9) hM9 ne nl hnl enl hPv) (cwV 1 hts (gi_V wm_Mo_239 wv_Mo_joinLayers ws_Mo_joinLayers wi_Mo wc_Mo_joinLayers) rfl rfl rfl (by decide +kernel) ⟨Nat.le_of_ble_eq_true rfl, Nat.le_of_ble_eq_true rfl⟩) (mP.preV hG hS hV hm_22 rfl) rfl rfl hl.1 rfl (lv_room (Nat.le_of_ble_eq_true rfl)) d_Mo_islands_213 ⟨Nat.le_of_ble_eq_true rfl, Nat.le_of_ble_eq_true rfl⟩) hS (fun r_25 V_26 H locs hp_27 hV hS => ?_)
                                obtain ⟨hMj, hMjR, ej⟩ := hp_27
                                rw [jn_st] at hMj ej
                                have hinJ := in_0 hP hI9
                                obtain ⟨Gj, eGj⟩ : ∃ z, z = (moJn ρ ne nl G9 60).1 := ⟨_, rfl⟩
                                obtain ⟨bj, ebj⟩ : ∃ z, z = (moJn ρ ne nl G9 60).2 := ⟨_, rfl⟩
                                rw [← eGj, wL_wL] at hMj
                                rw [← ebj] at ej
                                rw [← eGj, ← ebj] at hinJ
                                subst ej
                                have hm_28 : V_26 mo = some (.inr (7, [.int 0, .int (ρ.s 1), .int (ρ.s 2), .int (ρ.s 3), .ref (ad 0), .ref (ad 1), .ref (ad 2), .ref (ad 3), .ref (ad 4), .ref (ad 5), .ref (ad 6), .ref (ad 7), .ref (ad 8), .int (ρ.s 4), .ref (ad 9), .ref (ad 10), .ref (ad 11), .ref (ad 12), .ref (ad 13), .ref (ad 14), .ref (ad 15), .ref (ad 16), .ref (ad 17), .ref (ad 18), .ref (ad 19), .ref (ad 20), .ref (ad 21), .ref (ad 22), .ref (ad 23), .ref (ad 24), .ref (ad 25)])) := hMj.1
                                have hm_28_2 : V_26 (ad 2) = some (eI k 150 (ρ.I 2)) := hMj.a2
                                have hm_28_3 : V_26 (ad 3) = some (eI k 150 (ρ.I 3)) := hMj.a3
                                have hm_28_23 : V_26 (ad 23) = some (eL k 96 o) := hMj.a23
                                have hm_28_24 : V_26 (ad 24) = some (eL k 96 f) := hMj.a24
                                have hm_28_25 : V_26 (ad 25) = some (eL k 96 Gj) := hMj.a25
                                refine lv_istore (lv' := [(5, .int (bI bj)), (0, .ref mo), (2, .int ne), (3, .int (nI (c0 + 1))), (4, .int (nI it))]) hx hb d_Mo_islands_216 hl (by decide) rfl (fun ls hl => ?_)
                                refine lv_iconst (v := 0) hx hb d_Mo_islands_218 (by decide) ?_
                                refine lv_istore (lv' := [(6, .int 0), (5, .int (bI bj)), (0, .ref mo), (2, .int ne), (3, .int (nI (c0 + 1))), (4, .int (nI it))]) hx hb d_Mo_islands_219 hl (by decide) rfl (fun ls hl => ?_)
                                have loop_29 : ∀ (nw iw : Nat) (V1w : HV) (Gw : Nat → Int64) (mw : Bool) (H : Heap) (locs : List Loc) (ls : Array Slot), iw ≤ nl → nl + 1 ≤ iw + nw → (mdOk k V1w mo ad ((((ρ.ws 0 0).wL 0 o).wL 1 f).wL 2 Gw) ∧ mdFr mo ad V V1w ∧ inW ρ ne nl f g G9 Gw mw iw) → hv D vwCl N0 V1w H → va_S (hA N0) s.heap H locs → lv_has ls 7 [(0, .ref mo), (2, .int ne), (3, .int (nI (c0 + 1))), (4, .int (nI it)), (5, .int (bI mw)), (6, .int (nI iw))] → W p l e (headSpec (.code y_Mo_islands b_Mo_islands 7 (some .int) :: WS) ({ frames := 4, cells := 0, slots := 0, locals := 91 })).room s m #[.ref mo, .int net] below meth c H locs 0 0 (MQ below (va_Qi (fun r V' => ∃ o f G c, mdOk k V' mo ad ((((ρ.ws 0 0).wL 0 o).wL 1 f).wL 2 G) ∧ mdFr mo ad V V' ∧ (∀ la, la < nl → isL ρ ne g0 n5 f la) ∧ islM ρ ne nl f 60 G c ∧ r = nI c) (mB D N0) (hA N0)) #[.ref mo, .int net] s 0 0 (hA N0)) (F0 m 221 ls []) := by
                                  intro nw
                                  induction nw with
                                  | zero => intro iw V1w Gw mw H locs ls h1 h2; exact absurd h2 (by omega)
                                  | succ nw ihw =>
                                    intro iw V1w Gw mw H locs ls hiw hinw hIw hV hS hl
                                    obtain ⟨hMw, hRw, hinW⟩ := hIw
                                    have hm_30 : V1w mo = some (.inr (7, [.int 0, .int (ρ.s 1), .int (ρ.s 2), .int (ρ.s 3), .ref (ad 0), .ref (ad 1), .ref (ad 2), .ref (ad 3), .ref (ad 4), .ref (ad 5), .ref (ad 6), .ref (ad 7), .ref (ad 8), .int (ρ.s 4), .ref (ad 9), .ref (ad 10), .ref (ad 11), .ref (ad 12), .ref (ad 13), .ref (ad 14), .ref (ad 15), .ref (ad 16), .ref (ad 17), .ref (ad 18), .ref (ad 19), .ref (ad 20), .ref (ad 21), .ref (ad 22), .ref (ad 23), .ref (ad 24), .ref (ad 25)])) := hMw.1
                                    have hm_30_2 : V1w (ad 2) = some (eI k 150 (ρ.I 2)) := hMw.a2
                                    have hm_30_3 : V1w (ad 3) = some (eI k 150 (ρ.I 3)) := hMw.a3
                                    have hm_30_23 : V1w (ad 23) = some (eL k 96 o) := hMw.a23
                                    have hm_30_24 : V1w (ad 24) = some (eL k 96 f) := hMw.a24
                                    have hm_30_25 : V1w (ad 25) = some (eL k 96 Gw) := hMw.a25
                                    refine lv_iload hx hb d_Mo_islands_221 (lv_at hl 5 rfl) ?_
                                    refine lv_aload_n hx hb d_Mo_islands_223 rfl (lv_at hl 0 rfl) ?_
                                    refine gf_Mo_94 hx hb hW hown hG hV hm_30 d_Mo_islands_224 ?_
                                    refine W.eq (g2 := F0 m 227 ls [.int (nI nl), .int (nI iw)]) (by rw [enl]) ?_
                                    refine lv_icmp_ge (tgt := 257) hx hb d_Mo_islands_227 (by decide) (fun c_31 => ?_) (fun c_31 => ?_)
                                    · have hgew : nl ≤ iw := nI_le' (a := nl) (b := iw) c_31 (by omega) (by omega)
                                      refine lv_goto (tgt := 206) hx hb d_Mo_islands_257 (by decide) ?_
                                      obtain ⟨hI2, hc2⟩ := in_e hI9 hinW hgew
                                      have hn2 : (bI mw = 0 ∧ 1 ≤ n) ∨ 6146 ≤ mcL nl Gw + n := by
                                        have hmx := mcL_max (nl := nl) (G := G9)
                                        have hn1 : 6146 ≤ mcL nl G9 + (n + 1) := hn.elim (fun h => absurd h.1 c_23) (fun h => h)
                                        rcases hc2 with h | h
                                        · exact Or.inl ⟨by rw [h]; rfl, by omega⟩
                                        · exact Or.inr (by omega)
                                      exact ih V1w Gw (bI mw) _ _ _ hn2 hMw hRw hI2 hV hS (lv_sub hl [0, 1, 2, 3, 4] rfl)
                                    · have hltw : iw < nl := nI_nle' (a := nl) (b := iw) c_31 (by omega) (by omega)
                                      refine lv_aload_n hx hb d_Mo_islands_230 rfl (lv_at hl 0 rfl) ?_
                                      refine lv_iload hx hb d_Mo_islands_231 (lv_at hl 5 rfl) ?_
                                      refine rc_I (va_runV (As := [.int (nI iw)]) (rest := []) ⟨hx, hb, hml, hown, hts⟩ (c_Mo_grow l D N0 k V1w mo ad ((((ρ.ws 0 0).wL 0 o).wL 1 f).wL 2 Gw) hMw iw (by omega)) (cwV 1 hts (gi_V wm_Mo_220 wv_Mo_grow ws_Mo_grow wi_Mo wc_Mo_grow) rfl rfl rfl (by decide +kernel) ⟨Nat.le_of_ble_eq_true rfl, Nat.le_of_ble_eq_true rfl⟩) (mP.preV hG hS hV hm_30 rfl) rfl rfl hl.1 rfl (lv_room (Nat.le_of_ble_eq_true rfl)) d_Mo_islands_233 ⟨Nat.le_of_ble_eq_true rfl, Nat.le_of_ble_eq_true rfl⟩) hS (fun r_32 V_33 H locs hp_34 hV hS => ?_)
                                      obtain ⟨hMq, hMqR, eq⟩ := hp_34
                                      rw [gr_st] at hMq
                                      rw [gm_st] at eq
                                      obtain ⟨gq, egq⟩ : ∃ z, z = moGr f iw Gw 24 := ⟨_, rfl⟩
                                      obtain ⟨bq, ebq⟩ : ∃ z, z = anyF (moGm f iw Gw) 0 24 := ⟨_, rfl⟩
                                      rw [← egq, wL_wL] at hMq
                                      rw [← ebq] at eq
                                      subst eq
                                      have hm_35 : V_33 mo = some (.inr (7, [.int 0, .int (ρ.s 1), .int (ρ.s 2), .int (ρ.s 3), .ref (ad 0), .ref (ad 1), .ref (ad 2), .ref (ad 3), .ref (ad 4), .ref (ad 5), .ref (ad 6), .ref (ad 7), .ref (ad 8), .int (ρ.s 4), .ref (ad 9), .ref (ad 10), .ref (ad 11), .ref (ad 12), .ref (ad 13), .ref (ad 14), .ref (ad 15), .ref (ad 16), .ref (ad 17), .ref (ad 18), .ref (ad 19), .ref (ad 20), .ref (ad 21), .ref (ad 22), .ref (ad 23), .ref (ad 24), .ref (ad 25)])) := hMq.1
                                      have hm_35_2 : V_33 (ad 2) = some (eI k 150 (ρ.I 2)) := hMq.a2
                                      have hm_35_3 : V_33 (ad 3) = some (eI k 150 (ρ.I 3)) := hMq.a3
                                      have hm_35_23 : V_33 (ad 23) = some (eL k 96 o) := hMq.a23
                                      have hm_35_24 : V_33 (ad 24) = some (eL k 96 f) := hMq.a24
                                      have hm_35_25 : V_33 (ad 25) = some (eL k 96 gq) := hMq.a25
                                      have jn_36 : ∀ (ls : Array Slot), lv_has ls 7 [(0, .ref mo), (2, .int ne), (3, .int (nI (c0 + 1))), (4, .int (nI it)), (5, .int (bI mw)), (6, .int (nI iw))] → W p l e (headSpec (.code y_Mo_islands b_Mo_islands 7 (some .int) :: WS) ({ frames := 4, cells := 0, slots := 0, locals := 91 })).room s m #[.ref mo, .int net] below meth c H locs 0 0 (MQ below (va_Qi (fun r V' => ∃ o f G c, mdOk k V' mo ad ((((ρ.ws 0 0).wL 0 o).wL 1 f).wL 2 G) ∧ mdFr mo ad V V' ∧ (∀ la, la < nl → isL ρ ne g0 n5 f la) ∧ islM ρ ne nl f 60 G c ∧ r = nI c) (mB D N0) (hA N0)) #[.ref mo, .int net] s 0 0 (hA N0)) (F0 m 249 ls [.int (bI (bq || mw))]) := by
                                        intro ls hl
                                        refine lv_istore (lv' := [(5, .int (bI (bq || mw))), (0, .ref mo), (2, .int ne), (3, .int (nI (c0 + 1))), (4, .int (nI it)), (6, .int (nI iw))]) hx hb d_Mo_islands_249 hl (by decide) rfl (fun ls hl => ?_)
                                        obtain ⟨i_37, ei_37⟩ : ∃ y : Int32, y = (nI iw) + 1 := ⟨_, rfl⟩
                                        refine lv_iinc (v := i_37) (lv' := [(6, .int i_37), (5, .int (bI (bq || mw))), (0, .ref mo), (2, .int ne), (3, .int (nI (c0 + 1))), (4, .int (nI it))]) hx hb d_Mo_islands_251 hl (k := 5) rfl (by rw [ei_37]; rfl) (by decide) rfl (fun ls hl => ?_)
                                        refine lv_goto (tgt := 221) hx hb d_Mo_islands_254 (by decide) ?_
                                        rw [nI_1] at ei_37
                                        subst ei_37
                                        exact ihw (iw + 1) V_33 gq (bq || mw) _ _ _ (by omega) (by omega) (⟨hMq, hRw.tr hMqR, by rw [egq, ebq]; exact in_g h32 hinW hltw⟩) hV hS (lv_sub hl [2, 3, 4, 5, 1, 0] rfl)
                                      refine lv_if_ne (tgt := 244) hx hb d_Mo_islands_236 (by decide) (fun c_38 => ?_) (fun c_38 => ?_)
                                      · refine lv_iconst (v := 1) hx hb d_Mo_islands_244 (by decide) ?_
                                        refine lv_goto (tgt := 249) hx hb d_Mo_islands_245 (by decide) ?_
                                        have hE : (bI (bq || mw)) = 1 := by rw [bI_ne0.mp c_38]; rfl
                                        refine W.eq (g2 := F0 m 249 ls [.int (bI (bq || mw))]) (by rw [hE]) ?_
                                        exact jn_36 _ (lv_sub hl [0, 1, 2, 3, 4, 5] rfl)
                                      · refine lv_iload hx hb d_Mo_islands_239 (lv_at hl 4 rfl) ?_
                                        refine lv_if_eq (tgt := 248) hx hb d_Mo_islands_241 (by decide) (fun c_39 => ?_) (fun c_39 => ?_)
                                        · refine lv_iconst (v := 0) hx hb d_Mo_islands_248 (by decide) ?_
                                          have hE : (bI (bq || mw)) = 0 := by rw [bI_eq0.mp c_38, bI_eq0.mp c_39]; rfl
                                          refine W.eq (g2 := F0 m 249 ls [.int (bI (bq || mw))]) (by rw [hE]) ?_
                                          exact jn_36 _ (lv_sub hl [0, 1, 2, 3, 4, 5] rfl)
                                        · refine lv_iconst (v := 1) hx hb d_Mo_islands_244 (by decide) ?_
                                          refine lv_goto (tgt := 249) hx hb d_Mo_islands_245 (by decide) ?_
                                          have hE : (bI (bq || mw)) = 1 := by rw [bI_eq0.mp c_38, bI_ne0.mp c_39]; rfl
                                          refine W.eq (g2 := F0 m 249 ls [.int (bI (bq || mw))]) (by rw [hE]) ?_
                                          exact jn_36 _ (lv_sub hl [0, 1, 2, 3, 4, 5] rfl)
                                exact loop_29 (nl + 1 - 0) 0 V_26 Gj bj _ _ _ (by omega) (by omega) (⟨hMj, hR9.tr hMjR, hinJ⟩) hV hS (lv_sub hl [2, 3, 4, 5, 1, 0] rfl)
                          exact loop 6146 V_20 g 1 _ _ _ (Or.inr (by omega)) hMg hR_20 (by rw [eg]; exact pt_md hnl1 hP hLi h20 hltt (bI_ne0.mp c_16)) hV hS (lv_sub hl [2, 3, 1, 4, 0] rfl)
                        · refine lv_goto (tgt := 260) hx hb d_Mo_islands_163 (by decide) ?_
                          obtain ⟨i_40, ei_40⟩ : ∃ y : Int32, y = (nI it) + 1 := ⟨_, rfl⟩
                          refine lv_iinc (v := i_40) (lv' := [(4, .int i_40), (0, .ref mo), (2, .int (ne)), (3, .int (nI c0))]) hx hb d_Mo_islands_260 hl (k := 3) rfl (by rw [ei_40]; rfl) (by decide) rfl (fun ls hl => ?_)
                          refine lv_goto (tgt := 137) hx hb d_Mo_islands_263 (by decide) ?_
                          rw [nI_1] at ei_40
                          subst ei_40
                          exact iht (it + 1) V1t Gt c0 _ _ _ (by omega) (by omega) (⟨hMt, hRt, islM_f his h20 (Or.inr (bI_ne0.mp c_18)), hLi, by omega⟩) hV hS (lv_sub hl [1, 2, 3, 0] rfl)
                exact loop_13 (80 + 1 - 20) 20 V1z Gz 0 _ _ _ (by omega) (by omega) (⟨hMz, hRz, ⟨fun j h => hz j (by omega), rfl⟩, (fun la hla r hr x hx q => by rw [hz _ (by omega), q_0] at q; cases q), by omega⟩) hV hS (lv_sub hl [2, 3, 1, 0] rfl)
              · have hltz : iz < 96 := nI_nle' (a := 96) (b := iz) c_12 (by decide) (by omega)
                refine lv_aload_n hx hb d_Mo_islands_118 rfl (lv_at hl 0 rfl) ?_
                refine gf_Mo_91 hx hb hW hown hG hV hm_11 d_Mo_islands_119 ?_
                refine lv_iload_n hx hb d_Mo_islands_122 rfl (lv_at hl 2 rfl) ?_
                refine lv_lconst (v := 0) hx hb d_Mo_islands_123 (by decide) ?_
                refine hv_last hx hb hG.K hV hS 1 hm_11_25 rfl (vp_in_nI (by omega) (by omega)) d_Mo_islands_124 (fun H locs hV hS => ?_)
                rw [nI_clamp (by omega)] at hV
                replace hV : hv D vwCl N0 (hu V1z (ad 25) (eL k 96 (vp_updL Gz iz 0))) H := hV
                generalize hV_V_41 : hu V1z (ad 25) (eL k 96 (vp_updL Gz iz 0)) = V_41 at hV
                have hM_41 : mdOk k V_41 mo ad (((((ρ.ws 0 0).wL 0 o).wL 1 f).wL 2 Gz).wL 2 (vp_updL Gz iz 0)) := by rw [← hV_V_41]; exact md_setL hMz 2 (by omega) (vp_updL Gz iz 0)
                have hR_41 : mdFr mo ad V V_41 := by rw [← hV_V_41]; exact hRz.ar (j := 25) (by omega)
                have hm_42 : V_41 mo = some (.inr (7, [.int 0, .int (ρ.s 1), .int (ρ.s 2), .int (ρ.s 3), .ref (ad 0), .ref (ad 1), .ref (ad 2), .ref (ad 3), .ref (ad 4), .ref (ad 5), .ref (ad 6), .ref (ad 7), .ref (ad 8), .int (ρ.s 4), .ref (ad 9), .ref (ad 10), .ref (ad 11), .ref (ad 12), .ref (ad 13), .ref (ad 14), .ref (ad 15), .ref (ad 16), .ref (ad 17), .ref (ad 18), .ref (ad 19), .ref (ad 20), .ref (ad 21), .ref (ad 22), .ref (ad 23), .ref (ad 24), .ref (ad 25)])) := hM_41.1
                have hm_42_2 : V_41 (ad 2) = some (eI k 150 (ρ.I 2)) := hM_41.a2
                have hm_42_3 : V_41 (ad 3) = some (eI k 150 (ρ.I 3)) := hM_41.a3
                have hm_42_23 : V_41 (ad 23) = some (eL k 96 o) := hM_41.a23
                have hm_42_24 : V_41 (ad 24) = some (eL k 96 f) := hM_41.a24
                have hm_42_25 : V_41 (ad 25) = some (eL k 96 (vp_updL Gz iz 0)) := hM_41.a25
                obtain ⟨i_43, ei_43⟩ : ∃ y : Int32, y = (nI iz) + 1 := ⟨_, rfl⟩
                refine lv_iinc (v := i_43) (lv' := [(3, .int i_43), (0, .ref mo), (2, .int (ne))]) hx hb d_Mo_islands_125 hl (k := 2) rfl (by rw [ei_43]; rfl) (by decide) rfl (fun ls hl => ?_)
                refine lv_goto (tgt := 112) hx hb d_Mo_islands_128 (by decide) ?_
                rw [nI_1] at ei_43
                subst ei_43
                exact ihz (iz + 1) V_41 (vp_updL Gz iz 0) _ _ _ (by omega) (by omega) (⟨by have q := hM_41; rw [wL_wL] at q; exact q, hR_41, fun j hj => by
                    by_cases hji : j = iz
                    · rw [hji, uL_s]
                    · rw [uL_n hji]; exact hz j (by omega)⟩) hV hS (lv_sub hl [1, 2, 0] rfl)
          exact loop_10 (96 + 1 - 0) 0 V1 G _ _ _ (by omega) (by omega) (⟨hM1, hR1, fun j h => by omega⟩) hV hS (lv_sub hl [1, 2, 0] rfl)
        · have hlt : i < nl := nI_nle' c_9 (by omega) (by omega)
          refine lv_aload_n hx hb d_Mo_islands_35 rfl (lv_at hl 0 rfl) ?_
          refine lv_iload_n hx hb d_Mo_islands_36 rfl (lv_at hl 1 rfl) ?_
          refine lv_iload_n hx hb d_Mo_islands_37 rfl (lv_at hl 2 rfl) ?_
          refine rc_V (va_runV (As := [.int (ne), .int (nI i)]) (rest := []) ⟨hx, hb, hml, hown, hts⟩ (c_Mo_fill l D N0 k V1 mo ad ((((ρ.ws 0 0).wL 0 o).wL 1 f).wL 2 G) hM1 ne i g0 (by omega) hg5 hg0 hCv) (cwV 2 hts (gi_V wm_Mo_223 wv_Mo_fill ws_Mo_fill wi_Mo wc_Mo_fill) rfl rfl rfl (by decide +kernel) ⟨Nat.le_of_ble_eq_true rfl, Nat.le_of_ble_eq_true rfl⟩) (mP.preV hG hS hV hm_8 rfl) rfl rfl hl.1 rfl (lv_room (Nat.le_of_ble_eq_true rfl)) d_Mo_islands_38 ⟨Nat.le_of_ble_eq_true rfl, Nat.le_of_ble_eq_true rfl⟩) hS (fun V_44 H locs hp_45 hV hS => ?_)
          obtain ⟨Gx, hMx, hMxR, hfin⟩ := hp_45
          obtain ⟨o1, eo1⟩ : ∃ z, z = (moLL ((((ρ.ws 0 0).wL 0 o).wL 1 f).wL 2 G) ne i g0 120).1 := ⟨_, rfl⟩
          obtain ⟨f1, ef1⟩ : ∃ z, z = (moLL ((((ρ.ws 0 0).wL 0 o).wL 1 f).wL 2 G) ne i g0 120).2 := ⟨_, rfl⟩
          rw [← eo1, ← ef1, wL_n3] at hMx
          rw [← eo1, ← ef1] at hfin
          have hm_46 : V_44 mo = some (.inr (7, [.int 0, .int (ρ.s 1), .int (ρ.s 2), .int (ρ.s 3), .ref (ad 0), .ref (ad 1), .ref (ad 2), .ref (ad 3), .ref (ad 4), .ref (ad 5), .ref (ad 6), .ref (ad 7), .ref (ad 8), .int (ρ.s 4), .ref (ad 9), .ref (ad 10), .ref (ad 11), .ref (ad 12), .ref (ad 13), .ref (ad 14), .ref (ad 15), .ref (ad 16), .ref (ad 17), .ref (ad 18), .ref (ad 19), .ref (ad 20), .ref (ad 21), .ref (ad 22), .ref (ad 23), .ref (ad 24), .ref (ad 25)])) := hMx.1
          have hm_46_2 : V_44 (ad 2) = some (eI k 150 (ρ.I 2)) := hMx.a2
          have hm_46_3 : V_44 (ad 3) = some (eI k 150 (ρ.I 3)) := hMx.a3
          have hm_46_23 : V_44 (ad 23) = some (eL k 96 o1) := hMx.a23
          have hm_46_24 : V_44 (ad 24) = some (eL k 96 f1) := hMx.a24
          have hm_46_25 : V_44 (ad 25) = some (eL k 96 Gx) := hMx.a25
          refine lv_aload_n hx hb d_Mo_islands_41 rfl (lv_at hl 0 rfl) ?_
          refine lv_iload_n hx hb d_Mo_islands_42 rfl (lv_at hl 1 rfl) ?_
          refine lv_iload_n hx hb d_Mo_islands_43 rfl (lv_at hl 2 rfl) ?_
          refine rc_i (va_runV (As := [.int (ne), .int (nI i)]) (rest := []) ⟨hx, hb, hml, hown, hts⟩ (c_Mo_hasPlane l D N0 k V_44 mo ad ((((ρ.ws 0 0).wL 0 o1).wL 1 f1).wL 2 Gx) hMx (ne) (nI i) n5 hn5 en5) (cwV 2 hts (gi_V wm_Mo_233 wv_Mo_hasPlane ws_Mo_hasPlane wi_Mo wc_Mo_hasPlane) rfl rfl rfl (by decide +kernel) ⟨Nat.le_of_ble_eq_true rfl, Nat.le_of_ble_eq_true rfl⟩) (mP.preV hG hS hV hm_46 rfl) rfl rfl hl.1 rfl (lv_room (Nat.le_of_ble_eq_true rfl)) d_Mo_islands_44 ⟨Nat.le_of_ble_eq_true rfl, Nat.le_of_ble_eq_true rfl⟩) hS (fun H locs hV hS => ?_)
          refine W.eq (g2 := F0 m 47 ls [.int (bI (anyF (moHpP ρ.I (ne) (nI i)) 140 n5))]) rfl ?_
          obtain ⟨pb, epb⟩ : ∃ z, z = anyF (moHpP ρ.I ne (nI i)) 140 n5 := ⟨_, rfl⟩
          refine W.eq (g2 := F0 m 47 ls [.int (bI pb)]) (by rw [epb]) ?_
          refine lv_istore (lv' := [(4, .int (bI pb)), (0, .ref mo), (2, .int (ne)), (3, .int (nI i))]) hx hb d_Mo_islands_47 hl (by decide) rfl (fun ls hl => ?_)
          refine lv_bipush (v := 24) hx hb d_Mo_islands_49 (by decide) ?_
          refine lv_iload_n hx hb d_Mo_islands_51 rfl (lv_at hl 3 rfl) ?_
          refine lv_imul hx hb d_Mo_islands_52 ?_
          refine W.eq (g2 := F0 m 53 ls [.int (nI (24 * i))]) (by rw [show (24 : Int32) = nI 24 from rfl, nI_mulN]) ?_
          refine lv_istore (lv' := [(5, .int (nI (24 * i))), (4, .int (bI pb)), (0, .ref mo), (2, .int (ne)), (3, .int (nI i))]) hx hb d_Mo_islands_53 hl (by decide) rfl (fun ls hl => ?_)
          have loop_47 : ∀ (nc ic : Nat) (V1c : HV) (fc : Nat → Int64) (H : Heap) (locs : List Loc) (ls : Array Slot), ic ≤ (24 * i + 24) → (24 * i + 24) + 1 ≤ ic + nc → (mdOk k V1c mo ad ((((ρ.ws 0 0).wL 0 o1).wL 1 fc).wL 2 Gx) ∧ mdFr mo ad V V1c ∧ fc = fpP o1 f1 Gx pb (24 * i) (ic - 24 * i) ∧ 24 * i ≤ ic) → hv D vwCl N0 V1c H → va_S (hA N0) s.heap H locs → lv_has ls 7 [(0, .ref mo), (2, .int (ne)), (3, .int (nI i)), (4, .int (bI pb)), (5, .int (nI ic))] → W p l e (headSpec (.code y_Mo_islands b_Mo_islands 7 (some .int) :: WS) ({ frames := 4, cells := 0, slots := 0, locals := 91 })).room s m #[.ref mo, .int net] below meth c H locs 0 0 (MQ below (va_Qi (fun r V' => ∃ o f G c, mdOk k V' mo ad ((((ρ.ws 0 0).wL 0 o).wL 1 f).wL 2 G) ∧ mdFr mo ad V V' ∧ (∀ la, la < nl → isL ρ ne g0 n5 f la) ∧ islM ρ ne nl f 60 G c ∧ r = nI c) (mB D N0) (hA N0)) #[.ref mo, .int net] s 0 0 (hA N0)) (F0 m 55 ls []) := by
            intro nc
            induction nc with
            | zero => intro ic V1c fc H locs ls h1 h2; exact absurd h2 (by omega)
            | succ nc ihc =>
              intro ic V1c fc H locs ls hic hinc hIc hV hS hl
              obtain ⟨hMc9, hRc, hfc, hic24⟩ := hIc
              have hm_48 : V1c mo = some (.inr (7, [.int 0, .int (ρ.s 1), .int (ρ.s 2), .int (ρ.s 3), .ref (ad 0), .ref (ad 1), .ref (ad 2), .ref (ad 3), .ref (ad 4), .ref (ad 5), .ref (ad 6), .ref (ad 7), .ref (ad 8), .int (ρ.s 4), .ref (ad 9), .ref (ad 10), .ref (ad 11), .ref (ad 12), .ref (ad 13), .ref (ad 14), .ref (ad 15), .ref (ad 16), .ref (ad 17), .ref (ad 18), .ref (ad 19), .ref (ad 20), .ref (ad 21), .ref (ad 22), .ref (ad 23), .ref (ad 24), .ref (ad 25)])) := hMc9.1
              have hm_48_2 : V1c (ad 2) = some (eI k 150 (ρ.I 2)) := hMc9.a2
              have hm_48_3 : V1c (ad 3) = some (eI k 150 (ρ.I 3)) := hMc9.a3
              have hm_48_23 : V1c (ad 23) = some (eL k 96 o1) := hMc9.a23
              have hm_48_24 : V1c (ad 24) = some (eL k 96 fc) := hMc9.a24
              have hm_48_25 : V1c (ad 25) = some (eL k 96 Gx) := hMc9.a25
              refine lv_iload hx hb d_Mo_islands_55 (lv_at hl 4 rfl) ?_
              refine lv_bipush (v := 24) hx hb d_Mo_islands_57 (by decide) ?_
              refine lv_iload_n hx hb d_Mo_islands_59 rfl (lv_at hl 2 rfl) ?_
              refine lv_imul hx hb d_Mo_islands_60 ?_
              refine lv_bipush (v := 24) hx hb d_Mo_islands_61 (by decide) ?_
              refine lv_iadd hx hb d_Mo_islands_63 ?_
              refine W.eq (g2 := F0 m 64 ls [.int (nI (24 * i + 24)), .int (nI ic)]) (by rw [show (24 : Int32) = nI 24 from rfl, nI_mulN, nI_add]) ?_
              refine lv_icmp_ge (tgt := 104) hx hb d_Mo_islands_64 (by decide) (fun c_49 => ?_) (fun c_49 => ?_)
              · have hgec : (24 * i + 24) ≤ ic := nI_le' (a := (24 * i + 24)) (b := ic) c_49 (by omega) (by omega)
                obtain ⟨i_50, ei_50⟩ : ∃ y : Int32, y = (nI i) + 1 := ⟨_, rfl⟩
                refine lv_iinc (v := i_50) (lv' := [(3, .int i_50), (0, .ref mo), (2, .int (ne)), (4, .int (bI pb)), (5, .int (nI ic))]) hx hb d_Mo_islands_104 hl (k := 2) rfl (by rw [ei_50]; rfl) (by decide) rfl (fun ls hl => ?_)
                refine lv_goto (tgt := 27) hx hb d_Mo_islands_107 (by decide) ?_
                rw [nI_1] at ei_50
                subst ei_50
                have hfc2 : fc = fpP o1 f1 Gx (anyF (moHpP ρ.I ne (nI i)) 140 n5) (24 * i) 24 := by rw [hfc, epb, show ic - 24 * i = 24 by omega]
                exact ih (i + 1) V1c o1 fc Gx _ _ _ (by omega) (by omega) (⟨hMc9, hRc, isL_s hL1 (ρx := ((((ρ.ws 0 0).wL 0 o).wL 1 f).wL 2 G)) rfl eo1 ef1 hfin rfl hfc2⟩) hV hS (lv_sub hl [1, 2, 0] rfl)
              · have hltc : ic < (24 * i + 24) := nI_nle' (a := (24 * i + 24)) (b := ic) c_49 (by omega) (by omega)
                refine lv_aload_n hx hb d_Mo_islands_67 rfl (lv_at hl 0 rfl) ?_
                refine gf_Mo_88 hx hb hW hown hG hV hm_48 d_Mo_islands_68 ?_
                refine lv_iload hx hb d_Mo_islands_71 (lv_at hl 4 rfl) ?_
                refine lv_aload_n hx hb d_Mo_islands_73 rfl (lv_at hl 0 rfl) ?_
                refine gf_Mo_84 hx hb hW hown hG hV hm_48 d_Mo_islands_74 ?_
                refine lv_iload hx hb d_Mo_islands_77 (lv_at hl 4 rfl) ?_
                refine hv_lald hx hb hG.K hV 1 hm_48_23 rfl (vp_in_nI (by omega) (by omega)) d_Mo_islands_79 ?_
                rw [nI_clamp (by omega)]
                have jn_51 : ∀ (ls : Array Slot), lv_has ls 7 [(0, .ref mo), (2, .int (ne)), (3, .int (nI i)), (4, .int (bI pb)), (5, .int (nI ic))] → W p l e (headSpec (.code y_Mo_islands b_Mo_islands 7 (some .int) :: WS) ({ frames := 4, cells := 0, slots := 0, locals := 91 })).room s m #[.ref mo, .int net] below meth c H locs 0 0 (MQ below (va_Qi (fun r V' => ∃ o f G c, mdOk k V' mo ad ((((ρ.ws 0 0).wL 0 o).wL 1 f).wL 2 G) ∧ mdFr mo ad V V' ∧ (∀ la, la < nl → isL ρ ne g0 n5 f la) ∧ islM ρ ne nl f 60 G c ∧ r = nI c) (mB D N0) (hA N0)) #[.ref mo, .int net] s 0 0 (hA N0)) (F0 m 96 ls [.long (if pb = true then Gx ic else 0), .long (o1 ic), .int (nI ic), .ref (ad 24)]) := by
                  intro ls hl
                  refine lv_lor hx hb d_Mo_islands_96 ?_
                  refine hv_last hx hb hG.K hV hS 1 hm_48_24 rfl (vp_in_nI (by omega) (by omega)) d_Mo_islands_97 (fun H locs hV hS => ?_)
                  rw [nI_clamp (by omega)] at hV
                  replace hV : hv D vwCl N0 (hu V1c (ad 24) (eL k 96 (vp_updL fc ic ((o1 ic) ||| (if pb = true then Gx ic else 0))))) H := hV
                  generalize hV_V_52 : hu V1c (ad 24) (eL k 96 (vp_updL fc ic ((o1 ic) ||| (if pb = true then Gx ic else 0)))) = V_52 at hV
                  have hM_52 : mdOk k V_52 mo ad (((((ρ.ws 0 0).wL 0 o1).wL 1 fc).wL 2 Gx).wL 1 (vp_updL fc ic ((o1 ic) ||| (if pb = true then Gx ic else 0)))) := by rw [← hV_V_52]; exact md_setL hMc9 1 (by omega) (vp_updL fc ic ((o1 ic) ||| (if pb = true then Gx ic else 0)))
                  have hR_52 : mdFr mo ad V V_52 := by rw [← hV_V_52]; exact hRc.ar (j := 24) (by omega)
                  have hm_53 : V_52 mo = some (.inr (7, [.int 0, .int (ρ.s 1), .int (ρ.s 2), .int (ρ.s 3), .ref (ad 0), .ref (ad 1), .ref (ad 2), .ref (ad 3), .ref (ad 4), .ref (ad 5), .ref (ad 6), .ref (ad 7), .ref (ad 8), .int (ρ.s 4), .ref (ad 9), .ref (ad 10), .ref (ad 11), .ref (ad 12), .ref (ad 13), .ref (ad 14), .ref (ad 15), .ref (ad 16), .ref (ad 17), .ref (ad 18), .ref (ad 19), .ref (ad 20), .ref (ad 21), .ref (ad 22), .ref (ad 23), .ref (ad 24), .ref (ad 25)])) := hM_52.1
                  have hm_53_2 : V_52 (ad 2) = some (eI k 150 (ρ.I 2)) := hM_52.a2
                  have hm_53_3 : V_52 (ad 3) = some (eI k 150 (ρ.I 3)) := hM_52.a3
                  have hm_53_23 : V_52 (ad 23) = some (eL k 96 o1) := hM_52.a23
                  have hm_53_24 : V_52 (ad 24) = some (eL k 96 (vp_updL fc ic ((o1 ic) ||| (if pb = true then Gx ic else 0)))) := hM_52.a24
                  have hm_53_25 : V_52 (ad 25) = some (eL k 96 Gx) := hM_52.a25
                  obtain ⟨i_54, ei_54⟩ : ∃ y : Int32, y = (nI ic) + 1 := ⟨_, rfl⟩
                  refine lv_iinc (v := i_54) (lv' := [(5, .int i_54), (0, .ref mo), (2, .int (ne)), (3, .int (nI i)), (4, .int (bI pb))]) hx hb d_Mo_islands_98 hl (k := 4) rfl (by rw [ei_54]; rfl) (by decide) rfl (fun ls hl => ?_)
                  refine lv_goto (tgt := 55) hx hb d_Mo_islands_101 (by decide) ?_
                  rw [nI_1] at ei_54
                  subst ei_54
                  exact ihc (ic + 1) V_52 (vp_updL fc ic ((o1 ic) ||| (if pb = true then Gx ic else 0))) _ _ _ (by omega) (by omega) (⟨by have q := hM_52; rw [wL_n1] at q; exact q, hR_52, by rw [hfc]; exact fpP_s hic24, by omega⟩) hV hS (lv_sub hl [1, 2, 3, 4, 0] rfl)
                refine lv_iload hx hb d_Mo_islands_80 (lv_at hl 3 rfl) ?_
                refine lv_if_eq (tgt := 95) hx hb d_Mo_islands_82 (by decide) (fun c_55 => ?_) (fun c_55 => ?_)
                · refine lv_lconst (v := 0) hx hb d_Mo_islands_95 (by decide) ?_
                  have hE : (if pb = true then Gx ic else 0) = 0 := by rw [if_neg (fun z => absurd (bI_eq0.mp c_55) (by rw [z]; decide))]
                  refine W.eq (g2 := F0 m 96 ls [.long (if pb = true then Gx ic else 0), .long (o1 ic), .int (nI ic), .ref (ad 24)]) (by rw [hE]) ?_
                  exact jn_51 _ (lv_sub hl [0, 1, 2, 3, 4] rfl)
                · refine lv_aload_n hx hb d_Mo_islands_85 rfl (lv_at hl 0 rfl) ?_
                  refine gf_Mo_91 hx hb hW hown hG hV hm_48 d_Mo_islands_86 ?_
                  refine lv_iload hx hb d_Mo_islands_89 (lv_at hl 4 rfl) ?_
                  refine hv_lald hx hb hG.K hV 1 hm_48_25 rfl (vp_in_nI (by omega) (by omega)) d_Mo_islands_91 ?_
                  rw [nI_clamp (by omega)]
                  refine lv_goto (tgt := 96) hx hb d_Mo_islands_92 (by decide) ?_
                  have hE : (if pb = true then Gx ic else 0) = (Gx ic) := by rw [if_pos (bI_ne0.mp c_55)]
                  refine W.eq (g2 := F0 m 96 ls [.long (if pb = true then Gx ic else 0), .long (o1 ic), .int (nI ic), .ref (ad 24)]) (by rw [hE]) ?_
                  exact jn_51 _ (lv_sub hl [0, 1, 2, 3, 4] rfl)
          exact loop_47 ((24 * i + 24) + 1 - (24 * i)) (24 * i) V_44 f1 _ _ _ (by omega) (by omega) (⟨hMx, hR1.tr hMxR, (fpP_0 rfl).symm, Nat.le_refl _⟩) hV hS (lv_sub hl [2, 3, 4, 1, 0] rfl)
    exact loop_7 (nl + 1 - 0) 0 V_3 ((ρ.ws 0 0).L 0) ((ρ.ws 0 0).L 1) ((ρ.ws 0 0).L 2) _ _ _ (by omega) (by omega) (⟨by rw [wL_s3]; exact hMc, hR_3, fun la h => by omega⟩) hV hS (lv_sub hl [2, 1, 0] rfl)
  · exact absurd (ef_2.trans hf0) c_5
