/-! THE LAW'S CONTEXT: what holds all through its run -/
def LC (p : Program) (l : Launch) (s : State) (m : MethodId) (c : Code) (D : va_G) (k : Nat → Nat) (bb L : Nat) (xs : Nat → Int32) : Prop :=
  p.tables.exec = Jvm.exec ∧ c.code = b_La_law ∧ c.maxLocals = 7 ∧ s.vm.findClass "BoardHouseLaw" = some m.cls ∧ (∀ w ∈ (Cond.initialized "BoardHouse" :: WS), w.before #[Value.ref bb] s = true) ∧ hG D s.heap.size k s ∧ hNC s ∧ va_X bb L xs s s.heap ∧ bb < s.heap.size ∧ L ≤ 3586 ∧ l.stackTraces = false
/-- the house, the model, the cell for answers; the two tell the same story -/
def LJ (J : HS → MS → Prop) (k : Nat → Nat) (V : HV) (b : HA) (σ : HS) (mo : Nat) (ad : Nat → Nat) (ρ : MS) (ou : Nat) (g : Nat → Int64) : Prop :=
  hsW k V b σ ∧ mdOk k V mo ad ρ ∧ V ou = some (eL k 1 g) ∧ 9999 < b.lb ou ∧ 9999 < b.lb mo ∧ (∀ j, j < 26 → 9999 < b.lb (ad j)) ∧ J σ ρ
theorem sc_in {i K L : Nat} (h : i + K < L) (hL : L ≤ 3586) : vp_in (nI i + nI K) L := by rw [nI_add]; exact vp_in_nI h (by omega)
theorem sc_ix {i K : Nat} (h : i + K < 2 ^ 31) : (nI i + nI K).toNatClampNeg = i + K := by rw [nI_add, nI_clamp h]
theorem hsI_of {k : Nat → Nat} {V : HV} {b : HA} {σ : HS} (h : hsW k V b σ) : hsI σ := by
  obtain ⟨h0, ⟨m1, m2, -⟩, hG, hK⟩ := h
  refine ⟨hG, hK, h0.n1, h0.n4, fun i hi hs => ?_, fun j hj hn => ?_⟩
  · refine h0.ts.2.2 i hi ?_
    have := m1 i hi
    rw [hs] at this
    cases hf : b.f i with
    | none => rfl
    | some t => rw [hf] at this; cases this
  · refine h0.ac.2.2 j hj ?_
    have := m2 j hj
    rw [decide_eq_false hn] at this
    cases hf : b.fa j with
    | none => rfl
    | some t => rw [hf] at this; cases this
theorem ad_ou {k : Nat → Nat} {V : HV} {mo : Nat} {ad : Nat → Nat} {ρ : MS} {ou : Nat} {g : Nat → Int64} (hM : mdOk k V mo ad ρ) (ho : V ou = some (eL k 1 g)) : mo ≠ ou ∧ ∀ j, j < 26 → ad j ≠ ou := by
  refine ⟨fun e => ?_, fun j hj e => ?_⟩
  · have := hM.1; rw [e, ho] at this; cases this
  · by_cases h23 : j < 23
    · have := hM.2.2.1 j h23; rw [e, ho, eA] at this; simp at this
    · have := hM.2.2.2 (j - 23) (by omega); rw [show 23 + (j - 23) = j by omega, e, ho] at this; cases this
/-- the house's step leaves the model alone -/
theorem md_h {k : Nat → Nat} {V V1 : HV} {b b1 : HA} {mo : Nat} {ad : Nat → Nat} {ρ : MS} {ou : Nat} {g : Nat → Int64} (hM : mdOk k V mo ad ρ) (ho : V ou = some (eL k 1 g)) (l1 : 9999 < b.lb ou) (l2 : 9999 < b.lb mo) (l3 : ∀ j, j < 26 → 9999 < b.lb (ad j)) (hF : loFr b b1 ou V V1) : mdOk k V1 mo ad ρ ∧ 9999 < b1.lb ou ∧ 9999 < b1.lb mo ∧ ∀ j, j < 26 → 9999 < b1.lb (ad j) := by
  obtain ⟨n1, n2⟩ := ad_ou hM ho
  obtain ⟨-, f2, f3⟩ := hF
  have hj : ∀ j, j < 26 → ∃ e, V (ad j) = some e := fun j hj => by
    by_cases h23 : j < 23
    · exact ⟨_, hM.2.2.1 j h23⟩
    · have := hM.2.2.2 (j - 23) (by omega); rw [show 23 + (j - 23) = j by omega] at this; exact ⟨_, this⟩
  refine ⟨⟨(f3 mo _ n1 hM.1 l2).1, hM.2.1, fun j h => (f3 (ad j) _ (n2 j (by omega)) (hM.2.2.1 j h) (l3 j (by omega))).1, fun j h => (f3 (ad (23 + j)) _ (n2 _ (by omega)) (hM.2.2.2 j h) (l3 _ (by omega))).1⟩, by rw [f2]; exact l1, by rw [(f3 mo _ n1 hM.1 l2).2]; exact l2, fun j h => ?_⟩
  obtain ⟨e, he⟩ := hj j h
  rw [(f3 (ad j) e (n2 j h) he (l3 j h)).2]; exact l3 j h
theorem lo_fr {b b1 : HA} {ou : Nat} {V V1 : HV} {e : va_E} (h : hsFr b b1 V V1) (ho : V ou = some e) (hl : 9999 < b.lb ou) : loFr b b1 ou V V1 := ⟨h.1, (h.2 ou e ho hl).2, fun q e _ hV hb => h.2 q e hV hb⟩
/-- the model's step leaves the house alone -/
theorem md_m {k : Nat → Nat} {V V2 : HV} {b : HA} {σ : HS} {mo : Nat} {ad : Nat → Nat} {ρ : MS} {ou : Nat} {g : Nat → Int64} (hW : hsW k V b σ) (hM : mdOk k V mo ad ρ) (ho : V ou = some (eL k 1 g)) (l2 : 9999 < b.lb mo) (l3 : ∀ j, j < 26 → 9999 < b.lb (ad j)) (hF : mdFr mo ad V V2) : hsW k V2 b σ ∧ V2 ou = some (eL k 1 g) := by
  obtain ⟨n1, n2⟩ := ad_ou hM ho
  refine ⟨⟨hs_other hW.1 (fun q e hl hq => ?_), hW.2⟩, ?_⟩
  · rw [hF q (fun z => by rw [z] at hl; omega) (fun j hj z => by have := l3 j hj; rw [z] at hl; omega)]; exact hq
  · rw [hF ou (Ne.symm n1) (fun j hj => Ne.symm (n2 j hj))]; exact ho
theorem kd_nat {x : Int32} (h : (decide (2 ≤ x) && decide (x ≤ 5)) = true) : ∃ z : Nat, 2 ≤ z ∧ z ≤ 5 ∧ x = nI z := by
  rw [Bool.and_eq_true, decide_eq_true_eq, decide_eq_true_eq] at h
  obtain ⟨e, hb⟩ := nI_back (q := x) (Int32.le_trans (by decide) h.1)
  refine ⟨x.toNatClampNeg, ?_, ?_, e.symm⟩
  · have := h.1; rw [← e, show (2 : Int32) = nI 2 from rfl, nI_leI (by omega) hb] at this; exact this
  · have := h.2; rw [← e, show (5 : Int32) = nI 5 from rfl, nI_leI hb (by omega)] at this; exact this
theorem fl_la {ρ : MS} {h : Int32} (hG : moG ρ) (h8 : ∀ t, 140 ≤ t → t < 150 → ¬ ρ.I 1 t = 0 → ∃ la0, la0 < 4 ∧ ρ.I 6 t = nI la0) (hff : moFF ρ h = 0) : ∃ la0, la0 < 4 ∧ ρ.I 6 (140 + hdN h) = nI la0 := by
  obtain ⟨f0, f1⟩ := moFF0 hff
  rw [moFault] at f0
  cases hg : gvOk (ρ.I 0) h with
  | false => rw [hg, if_neg (by decide)] at f0; exact absurd f0 (by decide)
  | true =>
    rw [hg, if_pos rfl] at f0
    by_cases hk : h / 1000 = 5
    · obtain ⟨-, -, -, -, hlt⟩ := mg_of hG hg
      have ek : hdK h = 5 := by rw [hdK, hk]; rfl
      rw [ek] at hlt
      have := (mN_of hG (K := 5) (by omega) (by omega)).2
      have h10 : liN 5 = 10 := rfl
      exact h8 _ (by omega) (by omega) f1
    · rw [if_neg hk] at f0; exact absurd f0 (by decide)
