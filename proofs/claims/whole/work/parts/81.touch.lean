theorem thR_mono {nl n2 n2' : Nat} {R : Nat → Int32} {I : Nat → Nat → Int32} {i : Nat} (hn : n2 ≤ n2') (h : thR nl n2 R I i) : thR nl n2' R I i := by
  obtain ⟨a, b, c, d, e, f, g⟩ := h
  refine ⟨a, b, c, d, e, ?_, g⟩
  rcases f with q | ⟨q1, q2, q, q3, q4⟩
  · exact Or.inl q
  · exact Or.inr ⟨q1, q2, q, by omega, q4⟩
theorem slM_up {σ σ' : HS} {K t : Nat} (h2 : 2 ≤ K) (h5 : K ≤ 5) (hl : gN σ K < liN K) (et : t = fiN K + gN σ K) (gK : gN σ' K = gN σ K + 1) (gn : ∀ K', K' ≠ K → gN σ' K' = gN σ K') {i : Nat} (hi : i < 150) : slM σ' i = (slM σ i || decide (i = t)) := by
  obtain ⟨s1, s2, s3⟩ := sl_of h2 h5 hl
  rw [← et] at s1 s2 s3
  by_cases hit : i = t
  · subst hit
    rw [slM, s1, s2, gK, decide_eq_true (show gN σ K < gN σ K + 1 by omega), decide_eq_true rfl, Bool.or_true]
  · rw [decide_eq_false hit, Bool.or_false, slM, slM]
    by_cases hk : slK i = K
    · rw [hk, gK]
      refine bo_eq ⟨fun q => ?_, fun q => by omega⟩
      have hne : slN i ≠ gN σ K := fun e => hit (by
        rcases slK_r i hi with r | r | r | r <;> rcases slK_r t s3 with r' | r' | r' | r' <;> omega)
      omega
    · rw [gn _ hk]
/-- one more is made, that isn't there yet -/
theorem JR.raise {σ σ' : HS} {ρ ρ' : MS} (hI : hsI σ) (h : JR σ ρ) {K t : Nat} {R : Nat → Int32} (h2 : 2 ≤ K) (h5 : K ≤ 5) (hf : ¬ limV K ≤ σ.G K) (et : t = fiN K + gN σ K) (eG : σ'.G = upd σ.G K (σ.G K + 1)) (eT : σ'.T = updT σ.T t R) (n1 : σ'.nl = σ.nl) (n2 : σ'.g = σ.g) (n3 : σ'.wo = σ.wo) (n6 : σ'.A = σ.A) (n7 : σ'.Z = σ.Z) (n8 : σ'.W = σ.W)
    (e0 : ρ'.I 0 = upd (ρ.I 0) K (ρ.I 0 K + 1)) (ek : ∀ k, k ≠ 0 → ρ'.I k = ρ.I k) (s1 : ρ'.s 1 = ρ.s 1) (s2 : ρ'.s 2 = ρ.s 2) (s4 : ρ'.s 4 = ρ.s 4) (e3 : ρ'.s 3 = σ'.rs) (hR : thR σ.nl (gN σ 2) R ρ.I t) (r0 : R 0 = nI K) (r1 : R 1 = σ.G K) (r5 : R 5 = 0) : JR σ' ρ' ∧ hsI σ' ∧ slM σ' t = true ∧ t < 150 ∧ slM σ t = false := by
  obtain ⟨gK, gn, hl, hG'⟩ := gN_up (σ' := σ') hI.1 (by omega) (by omega) hf eG
  obtain ⟨t1, t2, t3⟩ := sl_of h2 h5 hl
  rw [← et] at t1 t2 t3
  have hs : ∀ {i}, i < 150 → slM σ' i = (slM σ i || decide (i = t)) := fun {i} hi => slM_up h2 h5 hl et gK gn hi
  have hmono : ∀ {i}, i < 150 → slM σ i = true → slM σ' i = true := fun {i} hi q => by rw [hs hi, q]; rfl
  have htf : slM σ t = false := by rw [slM, t1, t2]; exact decide_eq_false (by omega)
  have htt : slM σ' t = true := by rw [hs t3, decide_eq_true rfl, Bool.or_true]
  have hg2 : gN σ 2 ≤ gN σ' 2 := by
    by_cases q : (2 : Nat) = K
    · rw [q, gK]; omega
    · rw [gn 2 q]; exact Nat.le_refl _
  have hcase : ∀ {i}, i < 150 → slM σ' i = true → i ≠ t → slM σ i = true := fun {i} hi q hne => by rw [hs hi, decide_eq_false hne, Bool.or_false] at q; exact q
  have hfal : ∀ {i}, i < 150 → slM σ' i = false → slM σ i = false ∧ i ≠ t := fun {i} hi q => by
    refine ⟨?_, fun e => by rw [e, htt] at q; cases q⟩
    rw [hs hi, Bool.or_eq_false_iff] at q; exact q.1
  have hk : ∀ v i, knw ρ' v i = knw ρ v i := fun v i => by rw [knw, knw, ek 19 (by omega)]
  have hv : ∀ v, vC ρ' v = vC ρ v := fun v => by funext i; rw [vC, vC, hk, ek 20 (by omega)]
  have hpo : ∀ th x y, pOK ρ.I th x y → pOK ρ'.I th x y := fun th x y q => by unfold pOK at *; rw [ek 8 (by omega), ek 4 (by omega), ek 5 (by omega)]; exact q
  have huc : ∀ j a b, a ≠ 0 → b ≠ 0 → uC ρ'.I j a b = uC ρ.I j a b := fun j a b ha hb => by funext i; rw [uC, uC, ek 15 (by omega), ek a ha, ek b hb]
  have htc : ∀ j i, tcd ρ'.I j i ↔ tcd ρ.I j i := fun j i => by rw [tcd, tcd, ek 15 (by omega)]
  have g6' : gN σ' 6 = gN σ 6 := gn 6 (by omega)
  have g7' : gN σ' 7 = gN σ 7 := gn 7 (by omega)
  refine ⟨⟨by rw [s1, n1]; exact h.nl, by rw [s2, n2]; exact h.gp, e3, by rw [n3, s4, g6', ek 9 (by omega)]; exact h.wo, ?_, by rw [ek 1 (by omega)]; exact h.b1, by rw [ek 16 (by omega)]; exact h.b16, ?_, ?_, ?_, ?_, ?_, ?_, ?_, ?_, ?_, ?_, ?_, ?_⟩, ⟨hG', ?_, by rw [n1]; exact hI.2.2.1, by rw [n1]; exact hI.2.2.2.1, ?_, ?_⟩, htt, t3, htf⟩
  · intro K' h1 h7
    rw [e0, eG]
    by_cases q : K' = K
    · rw [q, up_s, up_s, h.gv K (by omega) (by omega)]
    · rw [up_n q, up_n q]; exact h.gv K' h1 h7
  · intro i hi q
    refine thR_congr (I := ρ.I) (fun k hk0 => ?_) ?_
    · rw [ek k hk0]
    · rw [eT, n1]
      by_cases e : i = t
      · rw [e, uT_s]; exact thR_mono hg2 hR
      · rw [uT_n e]; exact thR_mono hg2 (h.th i hi (hcase hi q e))
  · intro i hi q; rw [ek 1 (by omega)]; exact h.un i hi (hfal hi q).1
  · intro j hj; rw [g6'] at hj; have := h.ac j hj; rw [acG] at *; rw [n6, ek 9 (by omega), ek 14 (by omega), ek 10 (by omega), ek 11 (by omega), ek 12 (by omega), ek 13 (by omega)]; exact this
  · rw [g6', ek 9 (by omega), ek 14 (by omega), ek 15 (by omega)]; exact h.au
  · intro j hj i hi
    rw [g6'] at hj
    rw [htc, n7, ek 15 (by omega), ek 16 (by omega), ek 17 (by omega), ek 18 (by omega), ek 4 (by omega), ek 5 (by omega)]
    rcases h.tz j hj i hi with q | ⟨q1, q2, q3⟩
    · exact Or.inl q
    · exact Or.inr ⟨q1, hmono hi q2, q3⟩
  · intro v hv' i hi
    rw [g7'] at hv'
    rw [hk, n8, ek 20 (by omega), ek 21 (by omega), ek 22 (by omega), ek 4 (by omega), ek 5 (by omega)]
    rcases h.vr v hv' i hi with q | ⟨q1, q2, q3⟩
    · exact Or.inl q
    · exact Or.inr ⟨q1, hmono hi q2, q3⟩
  · rw [ek 1 (by omega), ek 2 (by omega), ek 3 (by omega)]; exact hpo _ _ _ h.i1
  · intro j hj; rw [g6'] at hj; rw [ek 9 (by omega), ek 1 (by omega), ek 2 (by omega), ek 3 (by omega), ek 4 (by omega), ek 5 (by omega), ek 10 (by omega), ek 11 (by omega), ek 12 (by omega), ek 13 (by omega), ek 16 (by omega), ek 17 (by omega), ek 18 (by omega)]
    intro ho i hi hq; exact h.i2 j hj ho i hi ((htc j i).mp hq)
  · intro j k hj hk' hjk; rw [g6'] at hj hk'; rw [ek 9 (by omega)]; intro o1 o2; have := h.dj j k hj hk' hjk o1 o2; rw [apR] at *; rw [ek 10 (by omega), ek 11 (by omega), ek 12 (by omega), ek 13 (by omega)]; exact this
  · intro j k hj hk' hjk; rw [g6'] at hj hk'; rw [ek 9 (by omega)]; intro o1 o2 i hi hq; rw [ek 15 (by omega)]; exact h.td j k hj hk' hjk o1 o2 i hi ((htc j i).mp hq)
  · intro j hj; rw [g6'] at hj; rw [ek 9 (by omega), huc j 1 16 (by omega) (by omega), huc j 2 17 (by omega) (by omega), huc j 3 18 (by omega) (by omega)]; intro ho; exact hpo _ _ _ (h.i3 j hj ho)
  · intro v hv'; rw [g7'] at hv'; rw [hv, ek 21 (by omega), ek 22 (by omega)]; exact hpo _ _ _ (h.i4 v hv')
  · intro i hi q
    rw [eT]
    by_cases e : i = t
    · rw [e, uT_s, r0, r1, t1, t2]; exact ⟨rfl, (gN_of hI.1 (K := K) (by omega) (by omega)).1⟩
    · rw [uT_n e]; exact hI.2.1 i hi (hcase hi q e)
  · intro i hi q
    rw [eT, uT_n (hfal hi q).2]; exact hI.2.2.2.2.1 i hi (hfal hi q).1
  · rw [g6', n6]; exact hI.2.2.2.2.2
/-- a box apart from a region -/
def apB (x y w h a b c d : Int32) : Prop := x.toInt + w.toInt - 1 < a.toInt ∨ c.toInt < x.toInt ∨ y.toInt + h.toInt - 1 < b.toInt ∨ d.toInt < y.toInt
/-- the things of C are changed (where they are, whether they are there), and noted by the act that works -/
def TC (σ σ' : HS) (ρ ρ' : MS) (C : Nat → Bool) : Prop :=
  (σ'.nl = σ.nl) ∧
  (σ'.g = σ.g) ∧
  (σ'.wo = σ.wo) ∧
  (σ'.G = σ.G) ∧
  (σ'.W = σ.W) ∧
  (ρ'.s 1 = ρ.s 1) ∧
  (ρ'.s 2 = ρ.s 2) ∧
  (ρ'.s 4 = ρ.s 4) ∧
  (ρ'.s 3 = σ'.rs) ∧
  (∀ k, (k = 0 ∨ (3 < k ∧ k < 14) ∨ 18 < k) → ρ'.I k = ρ.I k) ∧
  (∀ i, C i = false → ρ'.I 1 i = ρ.I 1 i ∧ ρ'.I 2 i = ρ.I 2 i ∧ ρ'.I 3 i = ρ.I 3 i ∧ σ'.T i = σ.T i) ∧
  (∀ q, ρ'.I 1 q = 0 ∨ ρ'.I 1 q = 1) ∧
  (∀ q, ρ'.I 16 q = 0 ∨ ρ'.I 16 q = 1) ∧
  (∀ i, C i = true → i < 150 ∧ slM σ i = true) ∧
  (∀ i, C i = true → (σ'.T i 2 = σ.T i 2 ∧ σ'.T i 3 = σ.T i 3 ∧ σ'.T i 4 = σ.T i 4) ∧ σ'.T i 5 = ρ'.I 1 i ∧ (σ'.T i 6 = ρ'.I 2 i ∧ σ'.T i 7 = ρ'.I 3 i ∧ σ'.T i 8 = ρ'.I 2 i + ρ.I 4 i - 1 ∧ σ'.T i 9 = ρ'.I 3 i + ρ.I 5 i - 1) ∧ oB (ρ'.I 2 i) (ρ'.I 3 i) (ρ.I 4 i) (ρ.I 5 i)) ∧
  (σ.wo = none → σ'.A = σ.A ∧ σ'.Z = σ.Z ∧ ρ'.I 14 = ρ.I 14 ∧ ρ'.I 15 = ρ.I 15 ∧ ρ'.I 16 = ρ.I 16 ∧ ρ'.I 17 = ρ.I 17 ∧ ρ'.I 18 = ρ.I 18) ∧
  (∀ j, σ.wo = some j → (∀ k, k ≠ j → σ'.A k = σ.A k ∧ σ'.Z k = σ.Z k ∧ ρ'.I 14 k = ρ.I 14 k) ∧ (∀ q, q ≠ 1 → σ'.A j q = σ.A j q) ∧ σ'.A j 1 = ρ'.I 14 j) ∧
  (∀ j, σ.wo = some j → ∀ q, (∀ i, i < 150 → C i = true → q ≠ 150 * j + i) → ρ'.I 15 q = ρ.I 15 q ∧ ρ'.I 16 q = ρ.I 16 q ∧ ρ'.I 17 q = ρ.I 17 q ∧ ρ'.I 18 q = ρ.I 18 q) ∧
  (∀ j, σ.wo = some j → ∀ i, C i = true → ¬ ρ'.I 15 (150 * j + i) = 0 ∧ (ρ.I 15 (150 * j + i) = 0 → ρ'.I 16 (150 * j + i) = ρ.I 1 i ∧ ρ'.I 17 (150 * j + i) = ρ.I 2 i ∧ ρ'.I 18 (150 * j + i) = ρ.I 3 i) ∧ (¬ ρ.I 15 (150 * j + i) = 0 → ρ'.I 16 (150 * j + i) = ρ.I 16 (150 * j + i) ∧ ρ'.I 17 (150 * j + i) = ρ.I 17 (150 * j + i) ∧ ρ'.I 18 (150 * j + i) = ρ.I 18 (150 * j + i))) ∧
  (∀ j, σ.wo = some j → ∀ i, i < 150 → σ'.Z j i = if C i = true ∧ σ.Z j i = -1 then stT (σ.T i) else σ.Z j i)
theorem TC.nl {σ σ' : HS} {ρ ρ' : MS} {C : Nat → Bool} (h : TC σ σ' ρ ρ' C) : σ'.nl = σ.nl := h.1
theorem TC.g {σ σ' : HS} {ρ ρ' : MS} {C : Nat → Bool} (h : TC σ σ' ρ ρ' C) : σ'.g = σ.g := h.2.1
theorem TC.wo {σ σ' : HS} {ρ ρ' : MS} {C : Nat → Bool} (h : TC σ σ' ρ ρ' C) : σ'.wo = σ.wo := h.2.2.1
theorem TC.G {σ σ' : HS} {ρ ρ' : MS} {C : Nat → Bool} (h : TC σ σ' ρ ρ' C) : σ'.G = σ.G := h.2.2.2.1
theorem TC.W {σ σ' : HS} {ρ ρ' : MS} {C : Nat → Bool} (h : TC σ σ' ρ ρ' C) : σ'.W = σ.W := h.2.2.2.2.1
theorem TC.s1 {σ σ' : HS} {ρ ρ' : MS} {C : Nat → Bool} (h : TC σ σ' ρ ρ' C) : ρ'.s 1 = ρ.s 1 := h.2.2.2.2.2.1
theorem TC.s2 {σ σ' : HS} {ρ ρ' : MS} {C : Nat → Bool} (h : TC σ σ' ρ ρ' C) : ρ'.s 2 = ρ.s 2 := h.2.2.2.2.2.2.1
theorem TC.s4 {σ σ' : HS} {ρ ρ' : MS} {C : Nat → Bool} (h : TC σ σ' ρ ρ' C) : ρ'.s 4 = ρ.s 4 := h.2.2.2.2.2.2.2.1
theorem TC.s3 {σ σ' : HS} {ρ ρ' : MS} {C : Nat → Bool} (h : TC σ σ' ρ ρ' C) : ρ'.s 3 = σ'.rs := h.2.2.2.2.2.2.2.2.1
theorem TC.Ik {σ σ' : HS} {ρ ρ' : MS} {C : Nat → Bool} (h : TC σ σ' ρ ρ' C) : ∀ k, (k = 0 ∨ (3 < k ∧ k < 14) ∨ 18 < k) → ρ'.I k = ρ.I k := h.2.2.2.2.2.2.2.2.2.1
theorem TC.out {σ σ' : HS} {ρ ρ' : MS} {C : Nat → Bool} (h : TC σ σ' ρ ρ' C) : ∀ i, C i = false → ρ'.I 1 i = ρ.I 1 i ∧ ρ'.I 2 i = ρ.I 2 i ∧ ρ'.I 3 i = ρ.I 3 i ∧ σ'.T i = σ.T i := h.2.2.2.2.2.2.2.2.2.2.1
theorem TC.b1 {σ σ' : HS} {ρ ρ' : MS} {C : Nat → Bool} (h : TC σ σ' ρ ρ' C) : ∀ q, ρ'.I 1 q = 0 ∨ ρ'.I 1 q = 1 := h.2.2.2.2.2.2.2.2.2.2.2.1
theorem TC.b16 {σ σ' : HS} {ρ ρ' : MS} {C : Nat → Bool} (h : TC σ σ' ρ ρ' C) : ∀ q, ρ'.I 16 q = 0 ∨ ρ'.I 16 q = 1 := h.2.2.2.2.2.2.2.2.2.2.2.2.1
theorem TC.cin {σ σ' : HS} {ρ ρ' : MS} {C : Nat → Bool} (h : TC σ σ' ρ ρ' C) : ∀ i, C i = true → i < 150 ∧ slM σ i = true := h.2.2.2.2.2.2.2.2.2.2.2.2.2.1
theorem TC.row {σ σ' : HS} {ρ ρ' : MS} {C : Nat → Bool} (h : TC σ σ' ρ ρ' C) : ∀ i, C i = true → (σ'.T i 2 = σ.T i 2 ∧ σ'.T i 3 = σ.T i 3 ∧ σ'.T i 4 = σ.T i 4) ∧ σ'.T i 5 = ρ'.I 1 i ∧ (σ'.T i 6 = ρ'.I 2 i ∧ σ'.T i 7 = ρ'.I 3 i ∧ σ'.T i 8 = ρ'.I 2 i + ρ.I 4 i - 1 ∧ σ'.T i 9 = ρ'.I 3 i + ρ.I 5 i - 1) ∧ oB (ρ'.I 2 i) (ρ'.I 3 i) (ρ.I 4 i) (ρ.I 5 i) := h.2.2.2.2.2.2.2.2.2.2.2.2.2.2.1
theorem TC.nt0 {σ σ' : HS} {ρ ρ' : MS} {C : Nat → Bool} (h : TC σ σ' ρ ρ' C) : σ.wo = none → σ'.A = σ.A ∧ σ'.Z = σ.Z ∧ ρ'.I 14 = ρ.I 14 ∧ ρ'.I 15 = ρ.I 15 ∧ ρ'.I 16 = ρ.I 16 ∧ ρ'.I 17 = ρ.I 17 ∧ ρ'.I 18 = ρ.I 18 := h.2.2.2.2.2.2.2.2.2.2.2.2.2.2.2.1
theorem TC.nt1 {σ σ' : HS} {ρ ρ' : MS} {C : Nat → Bool} (h : TC σ σ' ρ ρ' C) : ∀ j, σ.wo = some j → (∀ k, k ≠ j → σ'.A k = σ.A k ∧ σ'.Z k = σ.Z k ∧ ρ'.I 14 k = ρ.I 14 k) ∧ (∀ q, q ≠ 1 → σ'.A j q = σ.A j q) ∧ σ'.A j 1 = ρ'.I 14 j := h.2.2.2.2.2.2.2.2.2.2.2.2.2.2.2.2.1
theorem TC.nt2 {σ σ' : HS} {ρ ρ' : MS} {C : Nat → Bool} (h : TC σ σ' ρ ρ' C) : ∀ j, σ.wo = some j → ∀ q, (∀ i, i < 150 → C i = true → q ≠ 150 * j + i) → ρ'.I 15 q = ρ.I 15 q ∧ ρ'.I 16 q = ρ.I 16 q ∧ ρ'.I 17 q = ρ.I 17 q ∧ ρ'.I 18 q = ρ.I 18 q := h.2.2.2.2.2.2.2.2.2.2.2.2.2.2.2.2.2.1
theorem TC.nt3 {σ σ' : HS} {ρ ρ' : MS} {C : Nat → Bool} (h : TC σ σ' ρ ρ' C) : ∀ j, σ.wo = some j → ∀ i, C i = true → ¬ ρ'.I 15 (150 * j + i) = 0 ∧ (ρ.I 15 (150 * j + i) = 0 → ρ'.I 16 (150 * j + i) = ρ.I 1 i ∧ ρ'.I 17 (150 * j + i) = ρ.I 2 i ∧ ρ'.I 18 (150 * j + i) = ρ.I 3 i) ∧ (¬ ρ.I 15 (150 * j + i) = 0 → ρ'.I 16 (150 * j + i) = ρ.I 16 (150 * j + i) ∧ ρ'.I 17 (150 * j + i) = ρ.I 17 (150 * j + i) ∧ ρ'.I 18 (150 * j + i) = ρ.I 18 (150 * j + i)) := h.2.2.2.2.2.2.2.2.2.2.2.2.2.2.2.2.2.2.1
theorem TC.nt4 {σ σ' : HS} {ρ ρ' : MS} {C : Nat → Bool} (h : TC σ σ' ρ ρ' C) : ∀ j, σ.wo = some j → ∀ i, i < 150 → σ'.Z j i = if C i = true ∧ σ.Z j i = -1 then stT (σ.T i) else σ.Z j i := h.2.2.2.2.2.2.2.2.2.2.2.2.2.2.2.2.2.2.2
theorem TC.unC {σ σ' : HS} {ρ ρ' : MS} {C : Nat → Bool} (c : TC σ σ' ρ ρ' C) {j : Nat} (hw : σ.wo = some j) {i : Nat} (hi : i < 150) : uC ρ'.I j 1 16 i = uC ρ.I j 1 16 i ∧ uC ρ'.I j 2 17 i = uC ρ.I j 2 17 i ∧ uC ρ'.I j 3 18 i = uC ρ.I j 3 18 i := by
  cases hC : C i with
  | false =>
    obtain ⟨a1, a2, a3, a4⟩ := c.nt2 j hw (150 * j + i) (fun i' hi' hc e => by rw [show i' = i by omega, hC] at hc; cases hc)
    obtain ⟨b1, b2, b3, -⟩ := c.out i hC
    simp only [uC, a1, a2, a3, a4, b1, b2, b3, and_self]
  | true =>
    obtain ⟨a1, a2, a3⟩ := c.nt3 j hw i hC
    by_cases h0 : ρ.I 15 (150 * j + i) = 0
    · obtain ⟨b1, b2, b3⟩ := a2 h0
      simp only [uC, if_neg a1, if_pos h0, b1, b2, b3, and_self]
    · obtain ⟨b1, b2, b3⟩ := a3 h0
      simp only [uC, if_neg a1, if_neg h0, b1, b2, b3, and_self]
/-- other acts' notes stay -/
theorem TC.oth {σ σ' : HS} {ρ ρ' : MS} {C : Nat → Bool} (c : TC σ σ' ρ ρ' C) {k : Nat} (hk : ¬ σ.wo = some k) {i : Nat} (hi : i < 150) : ρ'.I 15 (150 * k + i) = ρ.I 15 (150 * k + i) ∧ ρ'.I 16 (150 * k + i) = ρ.I 16 (150 * k + i) ∧ ρ'.I 17 (150 * k + i) = ρ.I 17 (150 * k + i) ∧ ρ'.I 18 (150 * k + i) = ρ.I 18 (150 * k + i) := by
  cases hw : σ.wo with
  | none => obtain ⟨-, -, -, a, b, c, d⟩ := c.nt0 hw; rw [a, b, c, d]; exact ⟨rfl, rfl, rfl, rfl⟩
  | some j => exact c.nt2 j hw _ (fun i' hi' _ e => hk (by rw [hw]; congr 1; omega))
theorem JR.touch {σ σ' : HS} {ρ ρ' : MS} {C : Nat → Bool} (hI : hsI σ) (h : JR σ ρ) (c : TC σ σ' ρ ρ' C) (hp : pOK ρ.I (ρ'.I 1) (ρ'.I 2) (ρ'.I 3))
    (hw : ∀ j, σ.wo = some j → ∀ i, C i = true → (¬ ρ.I 1 i = 0 → iR (ρ.I 2 i) (ρ.I 3 i) (ρ.I 4 i) (ρ.I 5 i) (ρ.I 10 j) (ρ.I 11 j) (ρ.I 12 j) (ρ.I 13 j)) ∧ (¬ ρ'.I 1 i = 0 → iR (ρ'.I 2 i) (ρ'.I 3 i) (ρ.I 4 i) (ρ.I 5 i) (ρ.I 10 j) (ρ.I 11 j) (ρ.I 12 j) (ρ.I 13 j)))
    (hk : ∀ k, k < gN σ 6 → ¬ ρ.I 9 k = 0 → ¬ σ.wo = some k → ∀ i, C i = true → (¬ ρ.I 1 i = 0 → apB (ρ.I 2 i) (ρ.I 3 i) (ρ.I 4 i) (ρ.I 5 i) (ρ.I 10 k) (ρ.I 11 k) (ρ.I 12 k) (ρ.I 13 k)) ∧ (¬ ρ'.I 1 i = 0 → apB (ρ'.I 2 i) (ρ'.I 3 i) (ρ.I 4 i) (ρ.I 5 i) (ρ.I 10 k) (ρ.I 11 k) (ρ.I 12 k) (ρ.I 13 k)))
    (hn : ∀ i, C i = true → ρ.I 1 i = 0 → ∀ k, k < gN σ 6 → ρ.I 15 (150 * k + i) = 0) : JR σ' ρ' := by
  have e4 := c.Ik 4 (by omega)
  have e5 := c.Ik 5 (by omega)
  have e8 := c.Ik 8 (by omega)
  have e9 := c.Ik 9 (by omega)
  have e10 := c.Ik 10 (by omega)
  have e11 := c.Ik 11 (by omega)
  have e12 := c.Ik 12 (by omega)
  have e13 := c.Ik 13 (by omega)
  have hsl : ∀ i, slM σ' i = slM σ i := slM_eq c.G
  have hg : ∀ K, gN σ' K = gN σ K := gN_eq c.G
  have hkn : ∀ v i, knw ρ' v i = knw ρ v i := fun v i => by rw [knw, knw, c.Ik 19 (by omega)]
  have hpo : ∀ th x y, pOK ρ.I th x y → pOK ρ'.I th x y := fun th x y q => by unfold pOK at *; rw [e8, e4, e5]; exact q
  -- a thing of C is not touched by another open act
  have hut : ∀ k, k < gN σ 6 → ¬ ρ.I 9 k = 0 → ¬ σ.wo = some k → ∀ i, C i = true → ρ.I 15 (150 * k + i) = 0 := fun k hk6 ho hwk i hC => by
    by_cases h1 : ρ.I 1 i = 0
    · exact hn i hC h1 k hk6
    · by_cases h15 : ρ.I 15 (150 * k + i) = 0
      · exact h15
      · obtain ⟨hi, hm⟩ := c.cin i hC
        have a := (h.i2 k hk6 ho i hi h15).1 h1
        have b := (hk k hk6 ho hwk i hC).1 h1
        have o := (h.th i hi hm).2.2.2.1
        unfold iR at a; unfold apB at b; unfold oB at o
        omega
  have ho9 : ∀ j, σ.wo = some j → j < gN σ 6 ∧ ¬ ρ.I 9 j = 0 := fun j e => by
    rcases h.wo with ⟨q, -⟩ | ⟨k, a, b, -, d⟩
    · rw [q] at e; cases e
    · rw [e] at b; cases b; exact ⟨a, d⟩
  refine ⟨by rw [c.s1, c.nl]; exact h.nl, by rw [c.s2, c.g]; exact h.gp, c.s3, by rw [c.wo, c.s4, hg, e9]; exact h.wo, by rw [c.Ik 0 (by omega), c.G]; exact h.gv, c.b1, c.b16, ?_, ?_, ?_, ?_, ?_, ?_, hpo _ _ _ hp, ?_, ?_, ?_, ?_, ?_⟩
  · intro i hi hm
    rw [hsl] at hm
    rw [hg, c.nl]
    cases hC : C i with
    | false =>
      obtain ⟨a1, a2, a3, a4⟩ := c.out i hC
      have := h.th i hi hm
      unfold thR at *
      rw [a1, a2, a3, a4, e4, e5, e8, c.Ik 6 (by omega), c.Ik 7 (by omega)]; exact this
    | true =>
      obtain ⟨⟨b2, b3, b4⟩, b5, b6, b7⟩ := c.row i hC
      obtain ⟨-, -, d2, -, d4, d5, d6, d7⟩ := h.th i hi hm
      refine ⟨b5, by rw [e4, e5]; exact b6, by rw [b2, c.Ik 6 (by omega)]; exact d2, by rw [e4, e5]; exact b7, by rw [b3, c.Ik 7 (by omega)]; exact d4, by rw [b4, e8]; exact d5, by rw [e4, e5, c.Ik 6 (by omega)]; exact d6, by rw [c.Ik 6 (by omega)]; exact d7⟩
  · intro i hi hm
    rw [hsl] at hm
    cases hC : C i with
    | false => rw [(c.out i hC).1]; exact h.un i hi hm
    | true => rw [(c.cin i hC).2] at hm; cases hm
  · intro j hj
    rw [hg] at hj
    obtain ⟨⟨a0, a1, a2, a3, a4, a5⟩, ag⟩ := h.ac j hj
    have ag' : acG ρ'.I j := by unfold acG at *; rw [e10, e11, e12, e13]; exact ag
    refine ⟨?_, ag'⟩
    rw [e9, e10, e11, e12, e13]
    cases hwo : σ.wo with
    | none => obtain ⟨q1, -, q2, -⟩ := c.nt0 hwo; rw [q1, q2]; exact ⟨a0, a1, a2, a3, a4, a5⟩
    | some w =>
      obtain ⟨q1, q2, q3⟩ := c.nt1 w hwo
      by_cases hjw : j = w
      · subst hjw; rw [q2 0 (by omega), q2 2 (by omega), q2 3 (by omega), q2 4 (by omega), q2 5 (by omega)]; exact ⟨a0, q3, a2, a3, a4, a5⟩
      · rw [(q1 j hjw).1, (q1 j hjw).2.2]; exact ⟨a0, a1, a2, a3, a4, a5⟩
  · intro j hj hj6
    rw [hg] at hj6
    obtain ⟨a, b, d⟩ := h.au j hj hj6
    have hwj : ¬ σ.wo = some j := fun e => by have := (ho9 j e).1; omega
    refine ⟨by rw [e9]; exact a, ?_, fun i hi => by rw [(c.oth hwj hi).1]; exact d i hi⟩
    cases hwo : σ.wo with
    | none => rw [(c.nt0 hwo).2.2.1]; exact b
    | some w => rw [((c.nt1 w hwo).1 j (fun e => hwj (by rw [hwo, e]))).2.2]; exact b
  · intro j hj i hi
    rw [hg] at hj
    rw [hsl, e4, e5]
    by_cases hwj : σ.wo = some j
    · have hz := c.nt4 j hwj i hi
      cases hC : C i with
      | false =>
        obtain ⟨a1, a2, a3, a4⟩ := c.nt2 j hwj (150 * j + i) (fun i' hi' hc e => by rw [show i' = i by omega, hC] at hc; cases hc)
        rw [hC] at hz; rw [if_neg (fun q => by cases q.1)] at hz
        rw [tcd, a1, a2, a3, a4, hz]; exact h.tz j hj i hi
      | true =>
        obtain ⟨a1, a2, a3⟩ := c.nt3 j hwj i hC
        obtain ⟨hi', hm⟩ := c.cin i hC
        have ht := h.th i hi hm
        refine Or.inr ⟨a1, hm, ?_⟩
        rcases h.tz j hj i hi with ⟨q1, q2⟩ | ⟨q1, q2, q3, q4⟩
        · rw [if_pos ⟨hC, q2⟩] at hz
          obtain ⟨b1, b2, b3⟩ := a2 q1
          rw [hz, b1, b2, b3, stT, ht.1, ht.2.1.1, ht.2.1.2.1]; exact ⟨rfl, ht.2.2.2.1⟩
        · obtain ⟨b1, b2, b3⟩ := a3 q1
          rw [if_neg (fun q => (st_oB q4 (h.b16 _)).1 (by rw [← q3]; exact q.2))] at hz
          rw [hz, b1, b2, b3]; exact ⟨q3, q4⟩
    · obtain ⟨a1, a2, a3, a4⟩ := c.oth hwj hi
      have hz : σ'.Z j = σ.Z j := by
        cases hwo : σ.wo with
        | none => rw [(c.nt0 hwo).2.1]
        | some w => exact ((c.nt1 w hwo).1 j (fun e => hwj (by rw [hwo, e]))).2.1
      rw [tcd, a1, a2, a3, a4, hz]; exact h.tz j hj i hi
  · intro v hv i hi
    rw [hg] at hv
    rw [hkn, hsl, c.W, e4, e5, c.Ik 20 (by omega), c.Ik 21 (by omega), c.Ik 22 (by omega)]; exact h.vr v hv i hi
  · intro j hj ho i hi hq
    rw [hg] at hj
    rw [e9] at ho
    rw [e4, e5, e10, e11, e12, e13]
    by_cases hwj : σ.wo = some j
    · cases hC : C i with
      | false =>
        obtain ⟨a1, a2, a3, a4⟩ := c.nt2 j hwj (150 * j + i) (fun i' hi' hc e => by rw [show i' = i by omega, hC] at hc; cases hc)
        obtain ⟨b1, b2, b3, -⟩ := c.out i hC
        rw [tcd, a1] at hq
        rw [a2, a3, a4, b1, b2, b3]; exact h.i2 j hj ho i hi hq
      | true =>
        obtain ⟨a1, a2, a3⟩ := c.nt3 j hwj i hC
        refine ⟨(hw j hwj i hC).2, fun h16 => ?_⟩
        by_cases h0 : ρ.I 15 (150 * j + i) = 0
        · obtain ⟨b1, b2, b3⟩ := a2 h0
          rw [b1] at h16; rw [b2, b3]; exact (hw j hwj i hC).1 h16
        · obtain ⟨b1, b2, b3⟩ := a3 h0
          rw [b1] at h16; rw [b2, b3]; exact (h.i2 j hj ho i hi h0).2 h16
    · obtain ⟨a1, a2, a3, a4⟩ := c.oth hwj hi
      rw [tcd, a1] at hq
      have hC : C i = false := by
        cases hC : C i with
        | false => rfl
        | true => exact absurd (hut j hj ho hwj i hC) hq
      obtain ⟨b1, b2, b3, -⟩ := c.out i hC
      rw [a2, a3, a4, b1, b2, b3]; exact h.i2 j hj ho i hi hq
  · intro j k hj hk6 hjk; rw [hg] at hj hk6; rw [e9]; intro o1 o2; have := h.dj j k hj hk6 hjk o1 o2; unfold apR at *; rw [e10, e11, e12, e13]; exact this
  · intro j k hj hk6 hjk
    rw [hg] at hj hk6
    rw [e9]
    intro o1 o2 i hi hq
    by_cases hwk : σ.wo = some k
    · have hwj : ¬ σ.wo = some j := fun e => hjk (by rw [hwk] at e; exact (Option.some.inj e).symm)
      rw [tcd, (c.oth hwj hi).1] at hq
      have hC : C i = false := by
        cases hC : C i with
        | false => rfl
        | true => exact absurd (hut j hj o1 hwj i hC) hq
      rw [(c.nt2 k hwk (150 * k + i) (fun i' hi' hc e => by rw [show i' = i by omega, hC] at hc; cases hc)).1]
      exact h.td j k hj hk6 hjk o1 o2 i hi hq
    · rw [(c.oth hwk hi).1]
      by_cases hwj : σ.wo = some j
      · cases hC : C i with
        | false =>
          rw [tcd, (c.nt2 j hwj (150 * j + i) (fun i' hi' hc e => by rw [show i' = i by omega, hC] at hc; cases hc)).1] at hq
          exact h.td j k hj hk6 hjk o1 o2 i hi hq
        | true => exact hut k hk6 o2 hwk i hC
      · rw [tcd, (c.oth hwj hi).1] at hq
        exact h.td j k hj hk6 hjk o1 o2 i hi hq
  · intro k hk6 ho
    rw [hg] at hk6
    rw [e9] at ho
    refine hpo _ _ _ ?_
    by_cases hwk : σ.wo = some k
    · refine pOK_congr (I := ρ.I) (fun p hp0 q => ?_) (fun q hq q0 => ?_) (h.i3 k hk6 ho)
      · obtain ⟨a, b, d⟩ := c.unC hwk hp0; exact ⟨a.symm, rfl, b, d⟩
      · obtain ⟨a, b, d⟩ := c.unC hwk (i := q) (by omega); exact ⟨a, b, d, rfl, rfl⟩
    · -- another act: what it touched isn't of C
      have hc1 : ∀ i, i < 150 → ρ.I 15 (150 * k + i) = 0 → uC ρ'.I k 1 16 i = ρ'.I 1 i ∧ uC ρ'.I k 2 17 i = ρ'.I 2 i ∧ uC ρ'.I k 3 18 i = ρ'.I 3 i := fun i hi q => by
        obtain ⟨a1, a2, a3, a4⟩ := c.oth hwk hi
        simp only [uC, a1, if_pos q, and_self]
      have hc2 : ∀ i, i < 150 → ¬ ρ.I 15 (150 * k + i) = 0 → uC ρ'.I k 1 16 i = uC ρ.I k 1 16 i ∧ uC ρ'.I k 2 17 i = uC ρ.I k 2 17 i ∧ uC ρ'.I k 3 18 i = uC ρ.I k 3 18 i := fun i hi q => by
        obtain ⟨a1, a2, a3, a4⟩ := c.oth hwk hi
        simp only [uC, a1, if_neg q, a2, a3, a4, and_self]
      have hc3 : ∀ i, i < 150 → ρ.I 15 (150 * k + i) = 0 → uC ρ.I k 1 16 i = ρ.I 1 i ∧ uC ρ.I k 2 17 i = ρ.I 2 i ∧ uC ρ.I k 3 18 i = ρ.I 3 i := fun i hi q => by
        simp only [uC, if_pos q, and_self]
      have hc4 : ∀ i, i < 150 → ¬ ρ.I 15 (150 * k + i) = 0 → uC ρ.I k 1 16 i = ρ.I 16 (150 * k + i) ∧ uC ρ.I k 2 17 i = ρ.I 17 (150 * k + i) ∧ uC ρ.I k 3 18 i = ρ.I 18 (150 * k + i) := fun i hi q => by
        simp only [uC, if_neg q, and_self]
      intro p q h1 h2 h3 h4 h5
      by_cases tp : ρ.I 15 (150 * k + p) = 0
      · obtain ⟨p1, p2, p3⟩ := hc1 p (by omega) tp
        rw [p1] at h5
        by_cases tq : ρ.I 15 (150 * k + q) = 0
        · obtain ⟨q1, q2, q3⟩ := hc1 q (by omega) tq
          rw [p2, p3, q1, q2, q3]; exact hp p q h1 h2 h3 h4 h5
        · obtain ⟨q1, q2, q3⟩ := hc2 q (by omega) tq
          have hqC : C q = false := by
            cases hC : C q with
            | false => rfl
            | true => exact absurd (hut k hk6 ho hwk q hC) tq
          obtain ⟨qo1, qo2, qo3, -⟩ := c.out q hqC
          cases hC : C p with
          | false =>
            obtain ⟨o1, o2, o3, -⟩ := c.out p hC
            have := h.i3 k hk6 ho p q h1 h2 h3 h4 (by rw [(hc3 p (by omega) tp).1, ← o1]; exact h5)
            rw [(hc3 p (by omega) tp).2.1, (hc3 p (by omega) tp).2.2] at this
            rw [p2, p3, q1, q2, q3, o2, o3]; exact this
          | true =>
            have a := (hk k hk6 ho hwk p hC).2 h5
            have b := hp p q h1 h2 h3 h4 h5
            rw [qo1, qo2, qo3] at b
            have d := (h.i2 k hk6 ho q (by omega) tq).1 b.1
            have f := (c.row p hC).2.2.2
            have hm : slM σ p = true := (c.cin p hC).2
            have e := (h.th p (by omega) hm).2.2.2.2.2.2.1 h1 h2
            unfold apB at a; unfold iR at d
            rw [e.1, e.2.1, t1] at a
            omega
      · obtain ⟨p1, p2, p3⟩ := hc2 p (by omega) tp
        rw [p1] at h5
        have old := h.i3 k hk6 ho p q h1 h2 h3 h4 h5
        by_cases tq : ρ.I 15 (150 * k + q) = 0
        · obtain ⟨q1, q2, q3⟩ := hc1 q (by omega) tq
          obtain ⟨r1, r2, r3⟩ := hc3 q (by omega) tq
          cases hC : C q with
          | false =>
            obtain ⟨o1, o2, o3, -⟩ := c.out q hC
            rw [p2, p3, q1, q2, q3, o1, o2, o3, ← r1, ← r2, ← r3]; exact old
          | true =>
            obtain ⟨u1, u2, u3⟩ := hc4 p (by omega) tp
            rw [r1, r2, r3, u2, u3] at old
            rw [u1] at h5
            have a := (hk k hk6 ho hwk q hC).1 old.1
            have d := (h.i2 k hk6 ho p (by omega) tp).2 h5
            have hm : slM σ p = true := by
              rcases h.tz k hk6 p (by omega) with z | ⟨-, z, -⟩
              · exact absurd z.1 tp
              · exact z
            have e := (h.th p (by omega) hm).2.2.2.2.2.2.1 h1 h2
            unfold apB at a; unfold iR at d
            rw [e.1, e.2.1, t1] at d
            omega
        · obtain ⟨q1, q2, q3⟩ := hc2 q (by omega) tq
          rw [p2, p3, q1, q2, q3]; exact old
  · intro v hv
    rw [hg] at hv
    have : vC ρ' v = vC ρ v := by funext i; rw [vC, vC, hkn, c.Ik 20 (by omega)]
    rw [this, c.Ik 21 (by omega), c.Ik 22 (by omega)]; exact hpo _ _ _ (h.i4 v hv)
theorem ntS_nl {σ : HS} {i : Nat} : (ntS σ i).nl = σ.nl := by unfold ntS; split <;> rfl
theorem ntS_g {σ : HS} {i : Nat} : (ntS σ i).g = σ.g := by unfold ntS; split <;> rfl
theorem ntS_W {σ : HS} {i : Nat} : (ntS σ i).W = σ.W := by unfold ntS; split <;> rfl
theorem ntS_no {σ : HS} {i : Nat} (h : σ.wo = none) : ntS σ i = σ := by unfold ntS; rw [h]
theorem ntS_so {σ : HS} {i j : Nat} (h : σ.wo = some j) : (ntS σ i).A = updT σ.A j (upd (σ.A j) 1 (σ.A j 1 + 1)) ∧ (ntS σ i).Z = updT σ.Z j (if σ.Z j i = -1 then upd (σ.Z j) i (stT (σ.T i)) else σ.Z j) := by unfold ntS; rw [h]; exact ⟨rfl, rfl⟩
theorem moNote_no {ρ : MS} {t : Nat} {was : Int32} (h : ρ.s 4 = -1) : moNote ρ t was = ρ := by rw [moNote, if_pos h]
theorem moNote_s {ρ : MS} {t : Nat} {was : Int32} : (moNote ρ t was).s = ρ.s := by
  unfold moNote; split
  · rfl
  · split <;> rfl
theorem moNote_k {ρ : MS} {t : Nat} {was : Int32} {k : Nat} (hk : k < 14 ∨ 18 < k) : (moNote ρ t was).I k = ρ.I k := by
  have h14 : k ≠ 14 := by omega
  have h15 : k ≠ 15 := by omega
  have h16 : k ≠ 16 := by omega
  have h17 : k ≠ 17 := by omega
  have h18 : k ≠ 18 := by omega
  unfold moNote; split
  · rfl
  · split
    · rw [ms_In h18, ms_In h17, ms_In h16, ms_In h15, ms_In h14]
    · rw [ms_In h14]
theorem moNote_t {ρ : MS} {t j : Nat} {was : Int32} (hj : j < 10) (e : ρ.s 4 = nI j) (h0 : ρ.I 15 (150 * j + t) = 0) : (moNote ρ t was).I 14 = upd (ρ.I 14) j (ρ.I 14 j + 1) ∧ (moNote ρ t was).I 15 = upd (ρ.I 15) (150 * j + t) 1 ∧ (moNote ρ t was).I 16 = upd (ρ.I 16) (150 * j + t) was ∧ (moNote ρ t was).I 17 = upd (ρ.I 17) (150 * j + t) (ρ.I 2 t) ∧ (moNote ρ t was).I 18 = upd (ρ.I 18) (150 * j + t) (ρ.I 3 t) := by
  have hc : (ρ.s 4).toNatClampNeg = j := by rw [e, nI_clamp (by omega)]
  rw [moNote, if_neg (by rw [e, tE, tn (by omega), tm1]; omega), hc, if_pos h0]
  exact ⟨rfl, rfl, rfl, rfl, rfl⟩
theorem moNote_u {ρ : MS} {t j : Nat} {was : Int32} (hj : j < 10) (e : ρ.s 4 = nI j) (h0 : ¬ ρ.I 15 (150 * j + t) = 0) : (moNote ρ t was).I 14 = upd (ρ.I 14) j (ρ.I 14 j + 1) ∧ (moNote ρ t was).I 15 = ρ.I 15 ∧ (moNote ρ t was).I 16 = ρ.I 16 ∧ (moNote ρ t was).I 17 = ρ.I 17 ∧ (moNote ρ t was).I 18 = ρ.I 18 := by
  have hc : (ρ.s 4).toNatClampNeg = j := by rw [e, nI_clamp (by omega)]
  rw [moNote, if_neg (by rw [e, tE, tn (by omega), tm1]; omega), hc, if_neg h0]
  exact ⟨rfl, rfl, rfl, rfl, rfl⟩
theorem TC.rf {σ σ' : HS} {ρ ρ' : MS} (h : JR σ ρ) (n1 : σ'.nl = σ.nl) (n2 : σ'.g = σ.g) (n3 : σ'.wo = σ.wo) (n4 : σ'.G = σ.G) (n5 : σ'.T = σ.T) (n6 : σ'.A = σ.A) (n7 : σ'.Z = σ.Z) (n8 : σ'.W = σ.W) (eI : ρ'.I = ρ.I) (s1 : ρ'.s 1 = ρ.s 1) (s2 : ρ'.s 2 = ρ.s 2) (s4 : ρ'.s 4 = ρ.s 4) (s3 : ρ'.s 3 = σ'.rs) : TC σ σ' ρ ρ' (fun _ => false) := by
  refine ⟨n1, n2, n3, n4, n8, s1, s2, s4, s3, fun k _ => by rw [eI], fun i _ => by rw [eI, n5]; exact ⟨rfl, rfl, rfl, rfl⟩, by rw [eI]; exact h.b1, by rw [eI]; exact h.b16, fun i q => (nomatch q), fun i q => (nomatch q), fun _ => by rw [n6, n7, eI]; exact ⟨rfl, rfl, rfl, rfl, rfl, rfl, rfl⟩, fun j hw => ?_, fun j hw q _ => by rw [eI]; exact ⟨rfl, rfl, rfl, rfl⟩, fun j hw i q => (nomatch q), fun j hw i hi => ?_⟩
  · rw [n6, n7, eI]
    refine ⟨fun k _ => ⟨rfl, rfl, rfl⟩, fun _ _ => rfl, ?_⟩
    rcases h.wo with ⟨q, -⟩ | ⟨k, a, b, -⟩
    · rw [q] at hw; cases hw
    · rw [hw] at b; cases b; exact (h.ac j a).1.2.1
  · rw [n7, if_neg (fun q => nomatch q.1)]
theorem TC.step {σ σ1 σ2 : HS} {ρ ρ1 ρ2 : MS} {C : Nat → Bool} {n : Nat} {was : Int32} {R : Nat → Int32} (hI : hsI σ) (h : JR σ ρ) (c : TC σ σ1 ρ ρ1 C) (hn : n < 150) (hm : slM σ n = true) (hC : C n = false) (e2 : σ2 = (ntS σ1 n).wT (updT σ1.T n R)) (ew : was = ρ.I 1 n)
    (es : ρ2.s = ρ1.s) (ek : ∀ k, k ≠ 1 → k ≠ 2 → k ≠ 3 → ρ2.I k = (moNote ρ1 n was).I k) (eo : ∀ i, i ≠ n → ρ2.I 1 i = ρ1.I 1 i ∧ ρ2.I 2 i = ρ1.I 2 i ∧ ρ2.I 3 i = ρ1.I 3 i) (eb : ρ2.I 1 n = 0 ∨ ρ2.I 1 n = 1)
    (hr : (R 2 = σ.T n 2 ∧ R 3 = σ.T n 3 ∧ R 4 = σ.T n 4) ∧ R 5 = ρ2.I 1 n ∧ (R 6 = ρ2.I 2 n ∧ R 7 = ρ2.I 3 n ∧ R 8 = ρ2.I 2 n + ρ.I 4 n - 1 ∧ R 9 = ρ2.I 3 n + ρ.I 5 n - 1) ∧ oB (ρ2.I 2 n) (ρ2.I 3 n) (ρ.I 4 n) (ρ.I 5 n)) : TC σ σ2 ρ ρ2 (fun i => C i || decide (i = n)) := by
  obtain ⟨on1, on2, on3, onT⟩ := c.out n hC
  have hT : σ2.T = updT σ1.T n R := by rw [e2]; rfl
  have hcn : ∀ {i}, (C i || decide (i = n)) = true → C i = true ∨ i = n := fun {i} q => by
    rw [Bool.or_eq_true, decide_eq_true_eq] at q; exact q
  have hcf : ∀ {i}, (C i || decide (i = n)) = false → C i = false ∧ i ≠ n := fun {i} q => by
    rw [Bool.or_eq_false_iff, decide_eq_false_iff_not] at q; exact q
  have hwo1 : ∀ {j}, σ.wo = some j → σ1.wo = some j ∧ ρ1.s 4 = nI j ∧ j < 10 := fun {j} e => by
    have := g6 hI
    rcases h.wo with ⟨q, -⟩ | ⟨k, a, b, d, -⟩
    · rw [q] at e; cases e
    · rw [e] at b; cases b; exact ⟨by rw [c.wo]; exact e, by rw [c.s4]; exact d, by omega⟩
  have h15n : ∀ {j}, σ.wo = some j → ρ1.I 15 (150 * j + n) = ρ.I 15 (150 * j + n) ∧ ρ1.I 16 (150 * j + n) = ρ.I 16 (150 * j + n) ∧ ρ1.I 17 (150 * j + n) = ρ.I 17 (150 * j + n) ∧ ρ1.I 18 (150 * j + n) = ρ.I 18 (150 * j + n) := fun {j} e => c.nt2 j e _ (fun i' hi' hc q => by rw [show i' = n by omega, hC] at hc; cases hc)
  refine ⟨by rw [e2]; exact ntS_nl.trans c.nl, by rw [e2]; exact ntS_g.trans c.g, by rw [e2]; exact ntS_wo.trans c.wo, by rw [e2]; exact ntS_G.trans c.G, by rw [e2]; exact ntS_W.trans c.W, by rw [es]; exact c.s1, by rw [es]; exact c.s2, by rw [es]; exact c.s4, by rw [es, e2]; exact c.s3.trans ntS_rs.symm, ?_, ?_, ?_, ?_, ?_, ?_, ?_, ?_, ?_, ?_, ?_⟩
  · intro k hk; rw [ek k (by omega) (by omega) (by omega), moNote_k (by omega)]; exact c.Ik k hk
  · intro i q
    obtain ⟨q1, q2⟩ := hcf q
    obtain ⟨a1, a2, a3⟩ := eo i q2
    rw [a1, a2, a3, hT, uT_n q2]; exact c.out i q1
  · intro q
    by_cases hq : q = n
    · rw [hq]; exact eb
    · rw [(eo q hq).1]; exact c.b1 q
  · intro q
    rw [ek 16 (by omega) (by omega) (by omega)]
    cases hw : σ.wo with
    | none =>
      have : ρ1.s 4 = -1 := by
        rw [c.s4]; rcases h.wo with ⟨-, z⟩ | ⟨k, -, z, -⟩
        · exact z
        · rw [hw] at z; cases z
      rw [moNote_no this]; exact c.b16 q
    | some j =>
      obtain ⟨-, s4, hj⟩ := hwo1 hw
      by_cases h0 : ρ1.I 15 (150 * j + n) = 0
      · rw [(moNote_t hj s4 h0).2.2.1]
        by_cases hq : q = 150 * j + n
        · rw [hq, up_s, ew]; exact h.b1 n
        · rw [up_n hq]; exact c.b16 q
      · rw [(moNote_u hj s4 h0).2.2.1]; exact c.b16 q
  · intro i q
    rcases hcn q with q | q
    · exact c.cin i q
    · rw [q]; exact ⟨hn, hm⟩
  · intro i q
    by_cases hi : i = n
    · rw [hi, hT, uT_s]; exact hr
    · obtain ⟨a1, a2, a3⟩ := eo i hi
      rw [a1, a2, a3, hT, uT_n hi]; exact c.row i ((hcn q).resolve_right hi)
  · intro hw
    have h1 : σ1.wo = none := by rw [c.wo]; exact hw
    have : ρ1.s 4 = -1 := by
      rw [c.s4]; rcases h.wo with ⟨-, z⟩ | ⟨k, -, z, -⟩
      · exact z
      · rw [hw] at z; cases z
    rw [ek 14 (by omega) (by omega) (by omega), ek 15 (by omega) (by omega) (by omega), ek 16 (by omega) (by omega) (by omega), ek 17 (by omega) (by omega) (by omega), ek 18 (by omega) (by omega) (by omega), moNote_no this, e2, ntS_no h1]
    exact c.nt0 hw
  · intro j hw
    obtain ⟨w1, s4, hj⟩ := hwo1 hw
    obtain ⟨a1, a2, a3⟩ := c.nt1 j hw
    obtain ⟨b1, b2⟩ := ntS_so (i := n) w1
    have hA : σ2.A = updT σ1.A j (upd (σ1.A j) 1 (σ1.A j 1 + 1)) := by rw [e2]; exact b1
    have hZ : σ2.Z = updT σ1.Z j (if σ1.Z j n = -1 then upd (σ1.Z j) n (stT (σ1.T n)) else σ1.Z j) := by rw [e2]; exact b2
    have h14 : ρ2.I 14 = upd (ρ1.I 14) j (ρ1.I 14 j + 1) := by
      rw [ek 14 (by omega) (by omega) (by omega)]
      by_cases h0 : ρ1.I 15 (150 * j + n) = 0
      · exact (moNote_t hj s4 h0).1
      · exact (moNote_u hj s4 h0).1
    refine ⟨fun k hk => ?_, fun q hq => ?_, ?_⟩
    · rw [hA, hZ, h14, uT_n hk, uT_n hk, up_n hk]; exact a1 k hk
    · rw [hA, uT_s, up_n hq]; exact a2 q hq
    · rw [hA, uT_s, up_s, h14, up_s, a3]
  · intro j hw q hq
    obtain ⟨w1, s4, hj⟩ := hwo1 hw
    have hqn : q ≠ 150 * j + n := hq n hn (by simp)
    have hc := c.nt2 j hw q (fun i hi hc => hq i hi (by show (C i || decide (i = n)) = true; rw [hc]; rfl))
    rw [ek 15 (by omega) (by omega) (by omega), ek 16 (by omega) (by omega) (by omega), ek 17 (by omega) (by omega) (by omega), ek 18 (by omega) (by omega) (by omega)]
    by_cases h0 : ρ1.I 15 (150 * j + n) = 0
    · obtain ⟨-, d1, d2, d3, d4⟩ := moNote_t (was := was) hj s4 h0
      rw [d1, d2, d3, d4, up_n hqn, up_n hqn, up_n hqn, up_n hqn]; exact hc
    · obtain ⟨-, d1, d2, d3, d4⟩ := moNote_u (was := was) hj s4 h0
      rw [d1, d2, d3, d4]; exact hc
  · intro j hw i q
    obtain ⟨w1, s4, hj⟩ := hwo1 hw
    rw [ek 15 (by omega) (by omega) (by omega), ek 16 (by omega) (by omega) (by omega), ek 17 (by omega) (by omega) (by omega), ek 18 (by omega) (by omega) (by omega)]
    obtain ⟨z1, z2, z3, z4⟩ := h15n hw
    by_cases hi : i = n
    · rw [hi]
      by_cases h0 : ρ1.I 15 (150 * j + n) = 0
      · obtain ⟨-, d1, d2, d3, d4⟩ := moNote_t (was := was) hj s4 h0
        rw [d1, d2, d3, d4, up_s, up_s, up_s, up_s, on2, on3]
        exact ⟨by decide, fun _ => ⟨ew, rfl, rfl⟩, fun q => absurd (by rw [← z1]; exact h0) q⟩
      · obtain ⟨-, d1, d2, d3, d4⟩ := moNote_u (was := was) hj s4 h0
        rw [d1, d2, d3, d4]
        exact ⟨h0, fun q => absurd (by rw [z1]; exact q) h0, fun _ => ⟨z2, z3, z4⟩⟩
    · have hne : 150 * j + i ≠ 150 * j + n := by omega
      have hc := c.nt3 j hw i ((hcn q).resolve_right hi)
      by_cases h0 : ρ1.I 15 (150 * j + n) = 0
      · obtain ⟨-, d1, d2, d3, d4⟩ := moNote_t (was := was) hj s4 h0
        rw [d1, d2, d3, d4, up_n hne, up_n hne, up_n hne, up_n hne]; exact hc
      · obtain ⟨-, d1, d2, d3, d4⟩ := moNote_u (was := was) hj s4 h0
        rw [d1, d2, d3, d4]; exact hc
  · intro j hw i hi
    obtain ⟨w1, s4, hj⟩ := hwo1 hw
    obtain ⟨b1, b2⟩ := ntS_so (i := n) w1
    have hZ : σ2.Z j = (if σ1.Z j n = -1 then upd (σ1.Z j) n (stT (σ1.T n)) else σ1.Z j) := by rw [e2]; show (ntS σ1 n).Z j = _; rw [b2, uT_s]
    have zn : σ1.Z j n = σ.Z j n := by rw [c.nt4 j hw n hn, hC, if_neg (fun q => nomatch q.1)]
    have zi := c.nt4 j hw i hi
    rw [hZ, zn, onT]
    by_cases hin : i = n
    · subst hin
      by_cases h0 : σ.Z j i = -1
      · rw [if_pos h0, up_s, if_pos ⟨by simp, h0⟩]
      · rw [if_neg h0, if_neg (fun q => h0 q.2), zn]
    · have : (C i || decide (i = n)) = C i := by rw [decide_eq_false hin, Bool.or_false]
      show _ = if (C i || decide (i = n)) = true ∧ σ.Z j i = -1 then stT (σ.T i) else σ.Z j i
      rw [this]
      by_cases h0 : σ.Z j n = -1
      · rw [if_pos h0, up_n hin]; exact zi
      · rw [if_neg h0]; exact zi
theorem iR_of {σ : HS} {ρ : MS} (h : JR σ ρ) {j : Nat} (hj : j < gN σ 6) {x y w ht u v : Int32} (hu : u.toInt = x.toInt + w.toInt - 1) (hv : v.toInt = y.toInt + ht.toInt - 1) (q : ar_holds (σ.A j 2) (σ.A j 3) (σ.A j 4) (σ.A j 5) x y u v = true) : iR x y w ht (ρ.I 10 j) (ρ.I 11 j) (ρ.I 12 j) (ρ.I 13 j) := by
  obtain ⟨⟨-, -, e2, e3, e4, e5⟩, -⟩ := h.ac j hj
  simp only [ar_holds, Bool.and_eq_true, decide_eq_true_eq, tL, e2, e3, e4, e5] at q
  unfold iR; omega
theorem barr_no {σ : HS} {ρ : MS} (hI : hsI σ) (h : JR σ ρ) {x y w ht u v : Int32} (hb : oB x y w ht) (hu : u.toInt = x.toInt + w.toInt - 1) (hv : v.toInt = y.toInt + ht.toInt - 1) (q : barr σ x y u v = false) :
    (∀ j, σ.wo = some j → iR x y w ht (ρ.I 10 j) (ρ.I 11 j) (ρ.I 12 j) (ρ.I 13 j)) ∧ ∀ k, k < gN σ 6 → ¬ ρ.I 9 k = 0 → ¬ σ.wo = some k → apB x y w ht (ρ.I 10 k) (ρ.I 11 k) (ρ.I 12 k) (ρ.I 13 k) := by
  rw [barr, Bool.or_eq_false_iff] at q
  refine ⟨fun j hj => ?_, fun k hk ho hw => ?_⟩
  · have q1 := q.1
    rw [hj] at q1
    have hj6 : j < gN σ 6 := by
      rcases h.wo with ⟨z, -⟩ | ⟨k, a, b, -⟩
      · rw [z] at hj; cases hj
      · rw [hj] at b; cases b; exact a
    exact iR_of h hj6 hu hv (by simpa [inA] using q1)
  · obtain ⟨⟨a0, -, e2, e3, e4, e5⟩, -⟩ := h.ac k hk
    have hm : ar_meets (σ.A k 2) (σ.A k 3) (σ.A k 4) (σ.A k 5) x y u v = false := by
      cases hm : ar_meets (σ.A k 2) (σ.A k 3) (σ.A k 4) (σ.A k 5) x y u v with
      | false => rfl
      | true =>
        have hb2 : brA σ.A σ.wo x y u v k = true := by rw [brA, a0, decide_eq_false ho, decide_eq_false hw, hm]; rfl
        have := (anyF_iff (P := brA σ.A σ.wo x y u v) 10 0).mpr ⟨k, by omega, by have := g6 hI; omega, hb2⟩
        rw [q.2] at this; cases this
    have : ¬ (ar_meets (σ.A k 2) (σ.A k 3) (σ.A k 4) (σ.A k 5) x y u v = true) := by rw [hm]; exact Bool.false_ne_true
    simp only [ar_meets, Bool.and_eq_true, decide_eq_true_eq, tL, e2, e3, e4, e5] at this
    unfold apB; omega
theorem lay_k {ρ : MS} {t k : Nat} {ne la x y w ht : Int32} {f : Nat → Int32} (hk : k < 2 ∨ 8 < k) : ((moLayS ρ t ne la x y w ht).wI 8 f).I k = ρ.I k := by
  rw [ms_In (by omega), moLayS, ms_In (by omega), ms_In (by omega), ms_In (by omega), ms_In (by omega), ms_In (by omega), ms_In (by omega)]
theorem lay_o {ρ : MS} {t i k : Nat} {ne la x y w ht pa : Int32} (hi : i ≠ t) : ((moLayS ρ t ne la x y w ht).wI 8 (upd (ρ.I 8) t pa)).I k i = ρ.I k i := by
  by_cases h8 : k = 8
  · rw [h8, ms_II, up_n hi]
  rw [ms_In h8, moLayS]
  by_cases h7 : k = 7
  · rw [h7, ms_II, up_n hi]
  rw [ms_In h7]
  by_cases h6 : k = 6
  · rw [h6, ms_II, up_n hi]
  rw [ms_In h6]
  by_cases h5 : k = 5
  · rw [h5, ms_II, up_n hi]
  rw [ms_In h5]
  by_cases h4 : k = 4
  · rw [h4, ms_II, up_n hi]
  rw [ms_In h4]
  by_cases h3 : k = 3
  · rw [h3, ms_II, up_n hi]
  rw [ms_In h3]
  by_cases h2 : k = 2
  · rw [h2, ms_II, up_n hi]
  rw [ms_In h2]
theorem mkA_k {ρ : MS} {K t k : Nat} {ne la x y w ht pa : Int32} (hk : k ≠ 0) : (moMkA ρ K t ne la x y w ht pa).I k = ((moLayS ρ t ne la x y w ht).wI 8 (upd (ρ.I 8) t pa)).I k := by
  rw [moMkA]
  by_cases h8 : k = 8
  · rw [h8, ms_II, ms_II]
  rw [ms_In h8, ms_In h8, moLayS, moLayS]
  by_cases h7 : k = 7
  · rw [h7, ms_II, ms_II]; rfl
  rw [ms_In h7, ms_In h7]
  by_cases h6 : k = 6
  · rw [h6, ms_II, ms_II]; rfl
  rw [ms_In h6, ms_In h6]
  by_cases h5 : k = 5
  · rw [h5, ms_II, ms_II]; rfl
  rw [ms_In h5, ms_In h5]
  by_cases h4 : k = 4
  · rw [h4, ms_II, ms_II]; rfl
  rw [ms_In h4, ms_In h4]
  by_cases h3 : k = 3
  · rw [h3, ms_II, ms_II]; rfl
  rw [ms_In h3, ms_In h3]
  by_cases h2 : k = 2
  · rw [h2, ms_II, ms_II]; rfl
  rw [ms_In h2, ms_In h2, ms_In hk]
/-- a thing is made -/
theorem JR.make {σ : HS} {ρ : MS} (hI : hsI σ) (h : JR σ ρ) {K t : Nat} {R : Nat → Int32} {ne la x y w ht pa : Int32} (h2 : 2 ≤ K) (h5 : K ≤ 5) (hf : ¬ limV K ≤ σ.G K) (et : t = fiN K + gN σ K) (s3 : ρ.s 3 = 0)
    (hR : thR σ.nl (gN σ 2) R (moMkA ρ K t ne la x y w ht pa).I t) (r0 : R 0 = nI K) (r1 : R 1 = σ.G K) (r5 : R 5 = 0) (hbar : barr σ (R 6) (R 7) (R 8) (R 9) = false)
    (hpad : ∀ q, q < 20 → pa = nI q → 20 ≤ t → t < 80 → q < gN σ 2 ∧ ¬ ρ.I 1 q = 0 ∧ (ρ.I 2 q).toInt ≤ x.toInt ∧ x.toInt < (ρ.I 2 q).toInt + (ρ.I 4 q).toInt ∧ (ρ.I 3 q).toInt ≤ y.toInt ∧ y.toInt < (ρ.I 3 q).toInt + (ρ.I 5 q).toInt) : JR (mkS σ K t R) (moMkS ρ K t ne la x y w ht pa) := by
  have hl := (gN_lt hI.1 (K := K) (by omega) (by omega) hf).2
  obtain ⟨t1', t2', t3'⟩ := sl_of h2 h5 hl
  rw [← et] at t1' t2' t3'
  have htf : slM σ t = false := by rw [slM, t1', t2']; exact decide_eq_false (by omega)
  -- the slot is written
  have J1 : JR σ ((moLayS ρ t ne la x y w ht).wI 8 (upd (ρ.I 8) t pa)) := h.scr hI t3' htf rfl (fun k i hi => lay_o hi) (fun k hk => lay_k hk)
  have eAk : ∀ k, k ≠ 0 → (moMkA ρ K t ne la x y w ht pa).I k = ((moLayS ρ t ne la x y w ht).wI 8 (upd (ρ.I 8) t pa)).I k := fun k hk => mkA_k hk
  have eA0 : (moMkA ρ K t ne la x y w ht pa).I 0 = upd (((moLayS ρ t ne la x y w ht).wI 8 (upd (ρ.I 8) t pa)).I 0) K (((moLayS ρ t ne la x y w ht).wI 8 (upd (ρ.I 8) t pa)).I 0 K + 1) := by rw [lay_k (by omega), moMkA, ms_In (by omega), moLayS, ms_In (by omega), ms_In (by omega), ms_In (by omega), ms_In (by omega), ms_In (by omega), ms_In (by omega), ms_II]
  have eAs : (moMkA ρ K t ne la x y w ht pa).s = ρ.s := rfl
  have e1s : ((moLayS ρ t ne la x y w ht).wI 8 (upd (ρ.I 8) t pa)).s = ρ.s := rfl
  have hR1 : thR σ.nl (gN σ 2) R ((moLayS ρ t ne la x y w ht).wI 8 (upd (ρ.I 8) t pa)).I t := thR_congr (fun k hk => by rw [eAk k hk]) hR
  have A1 : (moMkA ρ K t ne la x y w ht pa).I 1 = ρ.I 1 := by rw [eAk 1 (by omega), lay_k (by omega)]
  have A9 : (moMkA ρ K t ne la x y w ht pa).I 9 = ρ.I 9 := by rw [eAk 9 (by omega), lay_k (by omega)]
  have A10 : (moMkA ρ K t ne la x y w ht pa).I 10 = ρ.I 10 := by rw [eAk 10 (by omega), lay_k (by omega)]
  have A11 : (moMkA ρ K t ne la x y w ht pa).I 11 = ρ.I 11 := by rw [eAk 11 (by omega), lay_k (by omega)]
  have A12 : (moMkA ρ K t ne la x y w ht pa).I 12 = ρ.I 12 := by rw [eAk 12 (by omega), lay_k (by omega)]
  have A13 : (moMkA ρ K t ne la x y w ht pa).I 13 = ρ.I 13 := by rw [eAk 13 (by omega), lay_k (by omega)]
  have A15 : (moMkA ρ K t ne la x y w ht pa).I 15 = ρ.I 15 := by rw [eAk 15 (by omega), lay_k (by omega)]
  have A2' : (moMkA ρ K t ne la x y w ht pa).I 2 = upd (ρ.I 2) t x := rfl
  have A3' : (moMkA ρ K t ne la x y w ht pa).I 3 = upd (ρ.I 3) t y := rfl
  have A4' : (moMkA ρ K t ne la x y w ht pa).I 4 = upd (ρ.I 4) t w := rfl
  have A5' : (moMkA ρ K t ne la x y w ht pa).I 5 = upd (ρ.I 5) t ht := rfl
  have A8' : (moMkA ρ K t ne la x y w ht pa).I 8 = upd (ρ.I 8) t pa := rfl
  have eM : moMkS ρ K t ne la x y w ht pa = (moNote (moMkA ρ K t ne la x y w ht pa) t 0).wI 1 (upd ((moNote (moMkA ρ K t ne la x y w ht pa) t 0).I 1) t 1) := rfl
  rw [eM]
  generalize (moLayS ρ t ne la x y w ht).wI 8 (upd (ρ.I 8) t pa) = ρ1 at *
  generalize moMkA ρ K t ne la x y w ht pa = ρA at *
  obtain ⟨ρM, eρM⟩ : ∃ r : MS, r = (moNote ρA t 0).wI 1 (upd ((moNote ρA t 0).I 1) t 1) := ⟨_, rfl⟩
  rw [← eρM]
  obtain ⟨σA, eσ⟩ : ∃ q : HS, q = ((σ.wrs 0).wT (updT σ.T t R)).wG (upd σ.G K (σ.G K + 1)) := ⟨_, rfl⟩
  have a1 : σA.nl = σ.nl := by rw [eσ]; rfl
  have a2 : σA.g = σ.g := by rw [eσ]; rfl
  have a3 : σA.wo = σ.wo := by rw [eσ]; rfl
  have a4 : σA.G = upd σ.G K (σ.G K + 1) := by rw [eσ]; rfl
  have a5 : σA.T = updT σ.T t R := by rw [eσ]; rfl
  have a6 : σA.A = σ.A := by rw [eσ]; rfl
  have a7 : σA.Z = σ.Z := by rw [eσ]; rfl
  have a8 : σA.W = σ.W := by rw [eσ]; rfl
  have a9 : σA.rs = 0 := by rw [eσ]; rfl
  have eS : mkS σ K t R = (ntS σA t).wT (updT σA.T t (upd R 5 1)) := by
    rw [eσ]
    cases hw : σ.wo with
    | none => rw [mkS, ntS_no (σ := (σ.wrs 0).wT (updT σ.T t R)) hw, ntS_no (σ := ((σ.wrs 0).wT (updT σ.T t R)).wG (upd σ.G K (σ.G K + 1))) hw]; rfl
    | some j =>
      have a : (((σ.wrs 0).wT (updT σ.T t R)).wG (upd σ.G K (σ.G K + 1))).wo = some j := hw
      have b : ((σ.wrs 0).wT (updT σ.T t R)).wo = some j := hw
      unfold mkS ntS; rw [a, b]; rfl
  obtain ⟨J2, hI2, hmt, ht150, -⟩ := J1.raise (σ' := σA) (ρ' := ρA) hI h2 h5 hf et a4 a5 a1 a2 a3 a6 a7 a8 eA0 eAk (by rw [eAs, e1s]) (by rw [eAs, e1s]) (by rw [eAs, e1s]) (by rw [eAs, a9]; exact s3) hR1 r0 r1 r5
  generalize mkS σ K t R = σM at *
  have z1 : ρA.I 1 t = 0 := by rw [A1]; exact h.un t t3' htf
  have e1 : ∀ i, i ≠ t → ρM.I 1 i = ρA.I 1 i := fun i hi => by
    rw [eρM, ms_II, up_n hi, moNote_k (by omega)]
  have e1t : ρM.I 1 t = 1 := by rw [eρM, ms_II, up_s]
  have ekk : ∀ k, k ≠ 1 → ρM.I k = (moNote ρA t 0).I k := fun k hk => by rw [eρM, ms_In hk]
  have e2 : ρM.I 2 = ρA.I 2 := by rw [ekk 2 (by omega), moNote_k (by omega)]
  have e3 : ρM.I 3 = ρA.I 3 := by rw [ekk 3 (by omega), moNote_k (by omega)]
  have A2 : ρA.I 2 t = x := by rw [A2', up_s]
  have A3 : ρA.I 3 t = y := by rw [A3', up_s]
  have A4 : ρA.I 4 t = w := by rw [A4', up_s]
  have A5 : ρA.I 5 t = ht := by rw [A5', up_s]
  have A8 : ρA.I 8 t = pa := by rw [A8', up_s]
  obtain ⟨hR5, hR6, hR2, hob, -⟩ := id hR
  rw [A2, A3, A4, A5] at hR6 hob
  have TT : σA.T t = R := by rw [a5, uT_s]
  have c := (TC.rf (σ' := σA) (ρ' := ρA) J2 rfl rfl rfl rfl rfl rfl rfl rfl rfl rfl rfl rfl J2.rs).step (n := t) (was := 0) (R := upd R 5 1) (σ2 := σM) (ρ2 := ρM) hI2 J2 ht150 hmt rfl eS z1.symm (by rw [eρM]; exact moNote_s) (fun k hk _ _ => ekk k hk) (fun i hi => ⟨e1 i hi, by rw [e2], by rw [e3]⟩) (Or.inr e1t) (by
    rw [TT, e1t, e2, e3, A2, A3, A4, A5]
    exact ⟨⟨rfl, rfl, rfl⟩, rfl, ⟨hR6.1, hR6.2.1, hR6.2.2.1, hR6.2.2.2⟩, hob⟩)
  have hu := bx_u hob.1 hob.2.1 hob.2.2.1 hR6.2.2.1
  have hv := bx_u hob.2.2.2.1 hob.2.2.2.2.1 (by have := hob.2.2.2.2.2; omega) hR6.2.2.2
  rw [hR6.1, hR6.2.1] at hbar
  obtain ⟨n1, n2⟩ := barr_no hI h hob hu hv hbar
  have g6' : gN σA 6 = gN σ 6 := by
    rw [gN, gN, a4, up_n (by omega)]
  have hct : ∀ {i}, ((fun _ => false) i || decide (i = t)) = true → i = t := fun {i} q => by simpa using q
  have hq8 : ∀ p, p < 150 → slM σ p = true → ∀ q, ρ.I 8 p = nI q → q < 20 → 20 ≤ p → p < 80 → q < gN σ 2 := fun p hp hm q e hq20 hp20 hp80 => by
    obtain ⟨-, -, -, -, -, an, -⟩ := h.th p hp hm
    rcases an with ⟨-, e'⟩ | ⟨-, -, q', hq', -, e'⟩
    · rw [e', tE, tn (by omega), tm1] at e; omega
    · have := g2 hI
      rw [e', nI_eq (by omega) (by omega)] at e; omega
  refine J2.touch hI2 c ?_ (fun j hw i q => ?_) (fun k hk ho hw i q => ?_) (fun i q _ k hk => ?_)
  · -- pads
    intro p q h1 h2' h3 h4 h5'
    by_cases hpt : p = t
    · subst hpt
      rw [A8] at h4
      obtain ⟨b1, b2, b3⟩ := hpad q h3 h4 h1 h2'
      have hqt : q ≠ p := by omega
      rw [e1 q hqt, e2, e3, A2, A3]
      rw [A1, A2', A3', A4', A5', up_n hqt, up_n hqt, up_n hqt, up_n hqt]; exact ⟨b2, b3⟩
    · rw [e1 p hpt] at h5'
      have h5o : ¬ ρ.I 1 p = 0 := by rw [← A1]; exact h5'
      have h4o : ρ.I 8 p = nI q := by rw [← h4, A8', up_n hpt]
      have hmp : slM σ p = true := by
        cases hm : slM σ p with
        | true => rfl
        | false => exact absurd (h.un p (by omega) hm) h5o
      have hq2 := hq8 p (by omega) hmp q h4o h3 h1 h2'
      have hqt : q ≠ t := fun e => by
        have hmq : slM σ q = true := by rw [slM_p h3]; exact decide_eq_true hq2
        rw [e, htf] at hmq; cases hmq
      have old := h.i1 p q h1 h2' h3 h4o h5o
      rw [e1 q hqt, e2, e3]
      rw [A1, A2', A3', A4', A5', up_n hqt, up_n hqt, up_n hqt, up_n hqt, up_n hpt, up_n hpt]; exact old
  · rw [hct q, e2, e3, A2, A3, A4, A5, A10, A11, A12, A13]
    rw [a3] at hw
    exact ⟨fun z => absurd z1 z, fun _ => n1 j hw⟩
  · rw [hct q, e2, e3, A2, A3, A4, A5, A10, A11, A12, A13]
    rw [g6'] at hk; rw [a3] at hw; rw [A9] at ho
    exact ⟨fun z => absurd z1 z, fun _ => n2 k hk ho hw⟩
  · rw [g6'] at hk
    rw [hct q, A15]; exact un_t hI h t3' htf (by have := g6 hI; omega)
