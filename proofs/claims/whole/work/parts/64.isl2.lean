/-! the model: islands -/
def inW (ρ : MS) (ne : Int32) (nl : Nat) (f g G Gw : Nat → Int64) (mw : Bool) (i : Nat) : Prop := LIn nl f Gw ∧ LSub nl G Gw ∧ (∀ C, (∀ la, la < nl → lCl f C la) → jnC ρ ne nl C 80 → LSub nl g C → LSub nl Gw C) ∧ ((mw = false ∧ Gw = G ∧ jnC ρ ne nl G 80 ∧ ∀ la, la < i → lCl f G la) ∨ (mw = true ∧ mcL nl G < mcL nl Gw))
def mMd (ρ : MS) (ne : Int32) (nl : Nat) (f g G : Nat → Int64) (q : Int32) : Prop := LIn nl f G ∧ LSub nl g G ∧ (∀ C, (∀ la, la < nl → lCl f C la) → jnC ρ ne nl C 80 → LSub nl g C → LSub nl G C) ∧ (q = 0 → (∀ la, la < nl → lCl f G la) ∧ jnC ρ ne nl G 80)
def mFn (ρ : MS) (ne : Int32) (nl : Nat) (f g G : Nat → Int64) : Prop := LIn nl f G ∧ LSub nl g G ∧ (∀ C, (∀ la, la < nl → lCl f C la) → jnC ρ ne nl C 80 → LSub nl g C → LSub nl G C) ∧ (∀ la, la < nl → lCl f G la) ∧ jnC ρ ne nl G 80
theorem in_g {ρ : MS} {ne : Int32} {nl i : Nat} {f g G Gw : Nat → Int64} {mw : Bool} (h32 : ∀ la, la < nl → l32 f la) (h : inW ρ ne nl f g G Gw mw i) (hi : i < nl) : inW ρ ne nl f g G (moGr f i Gw 24) (anyF (moGm f i Gw) 0 24 || mw) (i + 1) := by
  obtain ⟨h1, h2, h3, h4⟩ := h
  obtain ⟨a1, a2, a3, a4, a5⟩ := gr_pass (h32 i hi) (h1 i hi) 24 (Nat.le_refl _)
  have hrow : ∀ la r, la ≠ i → r < 24 → moGr f i Gw 24 (24 * la + r) = Gw (24 * la + r) := fun la r hla hr => a3 _ (by omega)
  have hs : LSub nl Gw (moGr f i Gw 24) := fun la hla r hr x hx q => by
    by_cases hli : la = i
    · subst hli; exact a2 r hr x hx q
    · rw [hrow la r hli hr]; exact q
  refine ⟨fun la hla r hr x hx q => ?_, fun la hla => lSub_tr (h2 la hla) (hs la hla), fun C hC hj hg la hla r hr x hx q => ?_, ?_⟩
  · by_cases hli : la = i
    · subst hli; exact a1 r hr x hx q
    · rw [hrow la r hli hr] at q; exact h1 la hla r hr x hx q
  · by_cases hli : la = i
    · subst hli; exact a4 C (hC la hla) (h3 C hC hj hg la hla) r hr x hx q
    · rw [hrow la r hli hr] at q; exact h3 C hC hj hg la hla r hr x hx q
  · rcases a5 with ⟨e1, e2⟩ | ⟨e1, hlt⟩
    · rw [e1, Bool.false_or, e2]
      rcases h4 with ⟨f1, f2, f3, f4⟩ | h
      · refine Or.inl ⟨f1, f2, f3, fun la hla => ?_⟩
        by_cases hli : la = i
        · subst hli
          subst f2
          have hm := (mid_s (h32 la hi) (show lMid f Gw Gw la 1 from ⟨h1 la hi, lSub_rf, fun _ _ => rfl, fun _ _ h => h, fun q => absurd q (by decide)⟩)).1
          have := hm.2.2.2.2 (by rw [e1]; rfl)
          rw [e2] at this; exact this
        · exact f4 la (by omega)
      · exact Or.inr h
    · rw [e1, Bool.true_or]
      refine Or.inr ⟨rfl, ?_⟩
      have := mcL_le h2
      have := mcL_lt hs hi hlt
      omega
theorem in_0 {ρ : MS} {ne : Int32} {nl : Nat} {f g G : Nat → Int64} {q : Int32} (hP : ptI ρ ne nl f) (h : mMd ρ ne nl f g G q) : inW ρ ne nl f g G (moJn ρ ne nl G 60).1 (moJn ρ ne nl G 60).2 0 := by
  obtain ⟨h1, h2, h3, -⟩ := h
  obtain ⟨a1, a2, a3, a4⟩ := jn_pass hP h1 60 (Nat.le_refl _)
  refine ⟨a1, a2, fun C hC hj hg => a3 C hj (h3 C hC hj hg), ?_⟩
  rcases a4 with ⟨e1, e2, e3⟩ | h
  · exact Or.inl ⟨e1, e2, e3, fun la h => by omega⟩
  · exact Or.inr h
theorem in_e {ρ : MS} {ne : Int32} {nl i : Nat} {f g G Gw : Nat → Int64} {mw : Bool} {q : Int32} (h0 : mMd ρ ne nl f g G q) (h : inW ρ ne nl f g G Gw mw i) (hi : nl ≤ i) : mMd ρ ne nl f g Gw (bI mw) ∧ (mw = false ∨ mcL nl G < mcL nl Gw) := by
  obtain ⟨h1, h2, h3, h4⟩ := h
  refine ⟨⟨h1, fun la hla => lSub_tr (h0.2.1 la hla) (h2 la hla), h3, fun hq => ?_⟩, ?_⟩
  · rcases h4 with ⟨f1, f2, f3, f4⟩ | ⟨f1, -⟩
    · rw [f2]; exact ⟨fun la hla => f4 la (by omega), f3⟩
    · rw [f1] at hq; exact absurd hq (by decide)
  · rcases h4 with ⟨f1, -⟩ | ⟨-, h⟩
    · exact Or.inl f1
    · exact Or.inr h
def isL (ρ : MS) (ne : Int32) (g0 n5 : Nat) (f : Nat → Int64) (la : Nat) : Prop := ∃ ρx Gx, ρx.I = ρ.I ∧ lFin (moLL ρx ne la g0 120).2 (flS (moLL ρx ne la g0 120).1 (moLL ρx ne la g0 120).2 (ρx.L 2) (24 * la) 24) Gx la ∧ ∀ r, r < 24 → f (24 * la + r) = (moLL ρx ne la g0 120).1 (24 * la + r) ||| (if anyF (moHpP ρ.I ne (nI la)) 140 n5 = true then Gx (24 * la + r) else 0)
def fpP (o f G : Nat → Int64) (b : Bool) (a n : Nat) : Nat → Int64 := fun j => if a ≤ j ∧ j < a + n then o j ||| (if b = true then G j else 0) else f j
theorem fpP_s {o f G : Nat → Int64} {b : Bool} {a i : Nat} (h : a ≤ i) : vp_updL (fpP o f G b a (i - a)) i (o i ||| (if b = true then G i else 0)) = fpP o f G b a (i + 1 - a) := by
  funext j
  simp only [vp_updL, fpP]
  by_cases hj : j = i
  · rw [if_pos hj, hj, if_pos (show a ≤ i ∧ i < a + (i + 1 - a) by omega)]
  · rw [if_neg hj]
    by_cases h2 : a ≤ j ∧ j < a + (i - a)
    · rw [if_pos h2, if_pos (show a ≤ j ∧ j < a + (i + 1 - a) by omega)]
    · rw [if_neg h2, if_neg (by omega)]
theorem fpP_0 {o f G : Nat → Int64} {b : Bool} {a i : Nat} (h : i = a) : fpP o f G b a (i - a) = f := by
  funext j; simp only [fpP]; rw [if_neg (by omega)]
theorem isL_s {ρ ρx : MS} {ne : Int32} {g0 n5 i : Nat} {f fc Gx o1 f1 : Nat → Int64} (h : ∀ la, la < i → isL ρ ne g0 n5 f la) (hx : ρx.I = ρ.I) (eo : o1 = (moLL ρx ne i g0 120).1) (ef : f1 = (moLL ρx ne i g0 120).2) (hfin : lFin f1 (flS o1 f1 (ρx.L 2) (24 * i) 24) Gx i) (hL : ρx.L 1 = f) (hfc : fc = fpP o1 f1 Gx (anyF (moHpP ρ.I ne (nI i)) 140 n5) (24 * i) 24) : ∀ la, la < i + 1 → isL ρ ne g0 n5 fc la := fun la hla => by
  by_cases hli : la = i
  · subst hli
    refine ⟨ρx, Gx, hx, by rw [← eo, ← ef]; exact hfin, fun r hr => ?_⟩
    rw [hfc, ← eo]
    simp only [fpP]
    rw [if_pos (by omega)]
  · obtain ⟨ρy, Gy, b1, b2, b3⟩ := h la (by omega)
    refine ⟨ρy, Gy, b1, b2, fun r hr => ?_⟩
    rw [← b3 r hr, hfc]
    simp only [fpP]
    rw [if_neg (by omega), ef, ll_out 120 _ (by omega), hL]
theorem isL_32 {ρ : MS} {ne : Int32} {g0 n5 la : Nat} {f : Nat → Int64} (h : isL ρ ne g0 n5 f la) (ho : ∀ ρx : MS, ρx.I = ρ.I → l32 (moLL ρx ne la g0 120).1 la) : l32 f la := fun r hr x hx q => by
  obtain ⟨ρx, Gx, hI, hfin, hrow⟩ := h
  rw [hrow r hr, q_or, Bool.or_eq_true] at q
  rcases q with q | q
  · exact ho ρx hI r hr x hx q
  · split at q
    · exact ll_32 120 r hr x hx (hfin.1 r hr x hx q)
    · rw [q_0] at q; cases q
