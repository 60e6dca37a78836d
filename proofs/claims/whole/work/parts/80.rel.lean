/-! PURE: the class's numbers and the model's tell the same story -/
theorem tA {a b : Int32} (h1 : -2147483648 ≤ a.toInt + b.toInt) (h2 : a.toInt + b.toInt < 2147483648) : (a + b).toInt = a.toInt + b.toInt := by
  rw [Int32.toInt_add]; exact Int.bmod_eq_of_le (by omega) (by omega)
theorem tS {a b : Int32} (h1 : -2147483648 ≤ a.toInt - b.toInt) (h2 : a.toInt - b.toInt < 2147483648) : (a - b).toInt = a.toInt - b.toInt := by
  rw [Int32.toInt_sub]; exact Int.bmod_eq_of_le (by omega) (by omega)
theorem tL {a b : Int32} : a ≤ b ↔ a.toInt ≤ b.toInt := Int32.le_iff_toInt_le
theorem tE {a b : Int32} : a = b ↔ a.toInt = b.toInt := Int32.toInt_inj.symm
theorem t1 : (1 : Int32).toInt = 1 := rfl
theorem t0 : (0 : Int32).toInt = 0 := rfl
theorem t31 : (31 : Int32).toInt = 31 := rfl
theorem t23 : (23 : Int32).toInt = 23 := rfl
theorem t32 : (32 : Int32).toInt = 32 := rfl
theorem t24 : (24 : Int32).toInt = 24 := rfl
theorem tm1 : (-1 : Int32).toInt = -1 := rfl
theorem tn {n : Nat} (h : n < 2 ^ 31) : (nI n).toInt = (n : Int) := nI_toInt h
theorem rg32 (a : Int32) : -2147483648 ≤ a.toInt ∧ a.toInt < 2147483648 := ⟨Int32.le_toInt a, Int32.toInt_lt a⟩
/-- a box on the board -/
def oB (x y w h : Int32) : Prop := 0 ≤ x.toInt ∧ 1 ≤ w.toInt ∧ x.toInt + w.toInt ≤ 32 ∧ 0 ≤ y.toInt ∧ 1 ≤ h.toInt ∧ y.toInt + h.toInt ≤ 24
/-- a box within a region -/
def iR (x y w h a b c d : Int32) : Prop := a.toInt ≤ x.toInt ∧ x.toInt + w.toInt - 1 ≤ c.toInt ∧ b.toInt ≤ y.toInt ∧ y.toInt + h.toInt - 1 ≤ d.toInt
/-- one thing: the class's row R, the model's columns at i -/
def thR (nl n2 : Nat) (R : Nat → Int32) (I : Nat → Nat → Int32) (i : Nat) : Prop :=
  R 5 = I 1 i ∧ (R 6 = I 2 i ∧ R 7 = I 3 i ∧ R 8 = I 2 i + I 4 i - 1 ∧ R 9 = I 3 i + I 5 i - 1) ∧ R 2 = I 6 i ∧ oB (I 2 i) (I 3 i) (I 4 i) (I 5 i) ∧
  ((i < 20 ∧ R 3 = -1 ∧ I 7 i = -1) ∨ (20 ≤ i ∧ ∃ n, n < 20 ∧ R 3 = nI (1000 + n) ∧ I 7 i = nI n)) ∧
  ((R 4 = -1 ∧ I 8 i = -1) ∨ (20 ≤ i ∧ i < 80 ∧ ∃ q, q < n2 ∧ R 4 = nI (2000 + q) ∧ I 8 i = nI q)) ∧
  (20 ≤ i → i < 80 → I 4 i = 1 ∧ I 5 i = 1 ∧ I 6 i = 0) ∧ (80 ≤ i → ∃ L, L < nl ∧ I 6 i = nI L)
/-- in a configuration of things, a pad that is there lies in its part, that is there -/
def pOK (I : Nat → Nat → Int32) (th x y : Nat → Int32) : Prop := ∀ p q, 20 ≤ p → p < 80 → q < 20 → I 8 p = nI q → ¬ th p = 0 →
  ¬ th q = 0 ∧ (x q).toInt ≤ (x p).toInt ∧ (x p).toInt < (x q).toInt + (I 4 q).toInt ∧ (y q).toInt ≤ (y p).toInt ∧ (y p).toInt < (y q).toInt + (I 5 q).toInt
/-- the configuration that undoing act j would give -/
def uC (I : Nat → Nat → Int32) (j a b i : Nat) : Int32 := if I 15 (150 * j + i) = 0 then I a i else I b (150 * j + i)
/-- the configuration of version v -/
def vC (ρ : MS) (v i : Nat) : Int32 := if knw ρ v i = true then ρ.I 20 (150 * v + i) else 0
def acG (I : Nat → Nat → Int32) (j : Nat) : Prop := 0 ≤ (I 10 j).toInt ∧ (I 10 j).toInt ≤ (I 12 j).toInt ∧ (I 12 j).toInt ≤ 31 ∧ 0 ≤ (I 11 j).toInt ∧ (I 11 j).toInt ≤ (I 13 j).toInt ∧ (I 13 j).toInt ≤ 23
def apR (I : Nat → Nat → Int32) (j k : Nat) : Prop := (I 12 j).toInt < (I 10 k).toInt ∨ (I 12 k).toInt < (I 10 j).toInt ∨ (I 13 j).toInt < (I 11 k).toInt ∨ (I 13 k).toInt < (I 11 j).toInt
def tcd (I : Nat → Nat → Int32) (j i : Nat) : Prop := ¬ I 15 (150 * j + i) = 0
def JR (σ : HS) (ρ : MS) : Prop :=
  (ρ.s 1 = nI σ.nl) ∧
  (ρ.s 2 = σ.g ∧ ∃ g0, g0 < 5 ∧ σ.g = nI g0) ∧
  (ρ.s 3 = σ.rs) ∧
  ((σ.wo = none ∧ ρ.s 4 = -1) ∨ ∃ j, j < gN σ 6 ∧ σ.wo = some j ∧ ρ.s 4 = nI j ∧ ¬ ρ.I 9 j = 0) ∧
  (∀ K, 1 ≤ K → K ≤ 7 → ρ.I 0 K = σ.G K) ∧
  (∀ q, ρ.I 1 q = 0 ∨ ρ.I 1 q = 1) ∧
  (∀ q, ρ.I 16 q = 0 ∨ ρ.I 16 q = 1) ∧
  (∀ i, i < 150 → slM σ i = true → thR σ.nl (gN σ 2) (σ.T i) ρ.I i) ∧
  (∀ i, i < 150 → slM σ i = false → ρ.I 1 i = 0) ∧
  (∀ j, j < gN σ 6 → (σ.A j 0 = ρ.I 9 j ∧ σ.A j 1 = ρ.I 14 j ∧ σ.A j 2 = ρ.I 10 j ∧ σ.A j 3 = ρ.I 11 j ∧ σ.A j 4 = ρ.I 12 j ∧ σ.A j 5 = ρ.I 13 j) ∧ acG ρ.I j) ∧
  (∀ j, j < 10 → gN σ 6 ≤ j → ρ.I 9 j = 0 ∧ ρ.I 14 j = 0 ∧ ∀ i, i < 150 → ρ.I 15 (150 * j + i) = 0) ∧
  (∀ j, j < gN σ 6 → ∀ i, i < 150 → (ρ.I 15 (150 * j + i) = 0 ∧ σ.Z j i = -1) ∨ (tcd ρ.I j i ∧ slM σ i = true ∧ σ.Z j i = th_st (ρ.I 17 (150 * j + i)) (ρ.I 18 (150 * j + i)) (ρ.I 16 (150 * j + i)) ∧ oB (ρ.I 17 (150 * j + i)) (ρ.I 18 (150 * j + i)) (ρ.I 4 i) (ρ.I 5 i))) ∧
  (∀ v, v < gN σ 7 → ∀ i, i < 150 → (knw ρ v i = false ∧ σ.W v i = -1) ∨ (knw ρ v i = true ∧ slM σ i = true ∧ σ.W v i = th_st (ρ.I 21 (150 * v + i)) (ρ.I 22 (150 * v + i)) (ρ.I 20 (150 * v + i)) ∧ (ρ.I 20 (150 * v + i) = 0 ∨ ρ.I 20 (150 * v + i) = 1) ∧ oB (ρ.I 21 (150 * v + i)) (ρ.I 22 (150 * v + i)) (ρ.I 4 i) (ρ.I 5 i))) ∧
  (pOK ρ.I (ρ.I 1) (ρ.I 2) (ρ.I 3)) ∧
  (∀ j, j < gN σ 6 → ¬ ρ.I 9 j = 0 → ∀ i, i < 150 → tcd ρ.I j i → (¬ ρ.I 1 i = 0 → iR (ρ.I 2 i) (ρ.I 3 i) (ρ.I 4 i) (ρ.I 5 i) (ρ.I 10 j) (ρ.I 11 j) (ρ.I 12 j) (ρ.I 13 j)) ∧ (¬ ρ.I 16 (150 * j + i) = 0 → iR (ρ.I 17 (150 * j + i)) (ρ.I 18 (150 * j + i)) (ρ.I 4 i) (ρ.I 5 i) (ρ.I 10 j) (ρ.I 11 j) (ρ.I 12 j) (ρ.I 13 j))) ∧
  (∀ j k, j < gN σ 6 → k < gN σ 6 → j ≠ k → ¬ ρ.I 9 j = 0 → ¬ ρ.I 9 k = 0 → apR ρ.I j k) ∧
  (∀ j k, j < gN σ 6 → k < gN σ 6 → j ≠ k → ¬ ρ.I 9 j = 0 → ¬ ρ.I 9 k = 0 → ∀ i, i < 150 → tcd ρ.I j i → ρ.I 15 (150 * k + i) = 0) ∧
  (∀ j, j < gN σ 6 → ¬ ρ.I 9 j = 0 → pOK ρ.I (uC ρ.I j 1 16) (uC ρ.I j 2 17) (uC ρ.I j 3 18)) ∧
  (∀ v, v < gN σ 7 → pOK ρ.I (vC ρ v) (fun i => ρ.I 21 (150 * v + i)) (fun i => ρ.I 22 (150 * v + i)))
theorem JR.nl {σ : HS} {ρ : MS} (h : JR σ ρ) : ρ.s 1 = nI σ.nl := h.1
theorem JR.gp {σ : HS} {ρ : MS} (h : JR σ ρ) : ρ.s 2 = σ.g ∧ ∃ g0, g0 < 5 ∧ σ.g = nI g0 := h.2.1
theorem JR.rs {σ : HS} {ρ : MS} (h : JR σ ρ) : ρ.s 3 = σ.rs := h.2.2.1
theorem JR.wo {σ : HS} {ρ : MS} (h : JR σ ρ) : (σ.wo = none ∧ ρ.s 4 = -1) ∨ ∃ j, j < gN σ 6 ∧ σ.wo = some j ∧ ρ.s 4 = nI j ∧ ¬ ρ.I 9 j = 0 := h.2.2.2.1
theorem JR.gv {σ : HS} {ρ : MS} (h : JR σ ρ) : ∀ K, 1 ≤ K → K ≤ 7 → ρ.I 0 K = σ.G K := h.2.2.2.2.1
theorem JR.b1 {σ : HS} {ρ : MS} (h : JR σ ρ) : ∀ q, ρ.I 1 q = 0 ∨ ρ.I 1 q = 1 := h.2.2.2.2.2.1
theorem JR.b16 {σ : HS} {ρ : MS} (h : JR σ ρ) : ∀ q, ρ.I 16 q = 0 ∨ ρ.I 16 q = 1 := h.2.2.2.2.2.2.1
theorem JR.th {σ : HS} {ρ : MS} (h : JR σ ρ) : ∀ i, i < 150 → slM σ i = true → thR σ.nl (gN σ 2) (σ.T i) ρ.I i := h.2.2.2.2.2.2.2.1
theorem JR.un {σ : HS} {ρ : MS} (h : JR σ ρ) : ∀ i, i < 150 → slM σ i = false → ρ.I 1 i = 0 := h.2.2.2.2.2.2.2.2.1
theorem JR.ac {σ : HS} {ρ : MS} (h : JR σ ρ) : ∀ j, j < gN σ 6 → (σ.A j 0 = ρ.I 9 j ∧ σ.A j 1 = ρ.I 14 j ∧ σ.A j 2 = ρ.I 10 j ∧ σ.A j 3 = ρ.I 11 j ∧ σ.A j 4 = ρ.I 12 j ∧ σ.A j 5 = ρ.I 13 j) ∧ acG ρ.I j := h.2.2.2.2.2.2.2.2.2.1
theorem JR.au {σ : HS} {ρ : MS} (h : JR σ ρ) : ∀ j, j < 10 → gN σ 6 ≤ j → ρ.I 9 j = 0 ∧ ρ.I 14 j = 0 ∧ ∀ i, i < 150 → ρ.I 15 (150 * j + i) = 0 := h.2.2.2.2.2.2.2.2.2.2.1
theorem JR.tz {σ : HS} {ρ : MS} (h : JR σ ρ) : ∀ j, j < gN σ 6 → ∀ i, i < 150 → (ρ.I 15 (150 * j + i) = 0 ∧ σ.Z j i = -1) ∨ (tcd ρ.I j i ∧ slM σ i = true ∧ σ.Z j i = th_st (ρ.I 17 (150 * j + i)) (ρ.I 18 (150 * j + i)) (ρ.I 16 (150 * j + i)) ∧ oB (ρ.I 17 (150 * j + i)) (ρ.I 18 (150 * j + i)) (ρ.I 4 i) (ρ.I 5 i)) := h.2.2.2.2.2.2.2.2.2.2.2.1
theorem JR.vr {σ : HS} {ρ : MS} (h : JR σ ρ) : ∀ v, v < gN σ 7 → ∀ i, i < 150 → (knw ρ v i = false ∧ σ.W v i = -1) ∨ (knw ρ v i = true ∧ slM σ i = true ∧ σ.W v i = th_st (ρ.I 21 (150 * v + i)) (ρ.I 22 (150 * v + i)) (ρ.I 20 (150 * v + i)) ∧ (ρ.I 20 (150 * v + i) = 0 ∨ ρ.I 20 (150 * v + i) = 1) ∧ oB (ρ.I 21 (150 * v + i)) (ρ.I 22 (150 * v + i)) (ρ.I 4 i) (ρ.I 5 i)) := h.2.2.2.2.2.2.2.2.2.2.2.2.1
theorem JR.i1 {σ : HS} {ρ : MS} (h : JR σ ρ) : pOK ρ.I (ρ.I 1) (ρ.I 2) (ρ.I 3) := h.2.2.2.2.2.2.2.2.2.2.2.2.2.1
theorem JR.i2 {σ : HS} {ρ : MS} (h : JR σ ρ) : ∀ j, j < gN σ 6 → ¬ ρ.I 9 j = 0 → ∀ i, i < 150 → tcd ρ.I j i → (¬ ρ.I 1 i = 0 → iR (ρ.I 2 i) (ρ.I 3 i) (ρ.I 4 i) (ρ.I 5 i) (ρ.I 10 j) (ρ.I 11 j) (ρ.I 12 j) (ρ.I 13 j)) ∧ (¬ ρ.I 16 (150 * j + i) = 0 → iR (ρ.I 17 (150 * j + i)) (ρ.I 18 (150 * j + i)) (ρ.I 4 i) (ρ.I 5 i) (ρ.I 10 j) (ρ.I 11 j) (ρ.I 12 j) (ρ.I 13 j)) := h.2.2.2.2.2.2.2.2.2.2.2.2.2.2.1
theorem JR.dj {σ : HS} {ρ : MS} (h : JR σ ρ) : ∀ j k, j < gN σ 6 → k < gN σ 6 → j ≠ k → ¬ ρ.I 9 j = 0 → ¬ ρ.I 9 k = 0 → apR ρ.I j k := h.2.2.2.2.2.2.2.2.2.2.2.2.2.2.2.1
theorem JR.td {σ : HS} {ρ : MS} (h : JR σ ρ) : ∀ j k, j < gN σ 6 → k < gN σ 6 → j ≠ k → ¬ ρ.I 9 j = 0 → ¬ ρ.I 9 k = 0 → ∀ i, i < 150 → tcd ρ.I j i → ρ.I 15 (150 * k + i) = 0 := h.2.2.2.2.2.2.2.2.2.2.2.2.2.2.2.2.1
theorem JR.i3 {σ : HS} {ρ : MS} (h : JR σ ρ) : ∀ j, j < gN σ 6 → ¬ ρ.I 9 j = 0 → pOK ρ.I (uC ρ.I j 1 16) (uC ρ.I j 2 17) (uC ρ.I j 3 18) := h.2.2.2.2.2.2.2.2.2.2.2.2.2.2.2.2.2.1
theorem JR.i4 {σ : HS} {ρ : MS} (h : JR σ ρ) : ∀ v, v < gN σ 7 → pOK ρ.I (vC ρ v) (fun i => ρ.I 21 (150 * v + i)) (fun i => ρ.I 22 (150 * v + i)) := h.2.2.2.2.2.2.2.2.2.2.2.2.2.2.2.2.2.2
theorem gN_eq {σ σ' : HS} (e : σ'.G = σ.G) (K : Nat) : gN σ' K = gN σ K := by rw [gN, gN, e]
theorem slM_eq {σ σ' : HS} (e : σ'.G = σ.G) (i : Nat) : slM σ' i = slM σ i := by rw [slM, slM, gN_eq e]
/-- numbers that don't matter may change: the one thrown, what is told -/
theorem JR.say {σ σ' : HS} {ρ ρ' : MS} (h : JR σ ρ) (eI : ρ'.I = ρ.I) (e1 : ρ'.s 1 = ρ.s 1) (e2 : ρ'.s 2 = ρ.s 2) (e4 : ρ'.s 4 = ρ.s 4) (n1 : σ'.nl = σ.nl) (n2 : σ'.g = σ.g) (n3 : σ'.wo = σ.wo) (n4 : σ'.G = σ.G) (n5 : σ'.T = σ.T) (n6 : σ'.A = σ.A) (n7 : σ'.Z = σ.Z) (n8 : σ'.W = σ.W) (e3 : ρ'.s 3 = σ'.rs) : JR σ' ρ' := by
  have hk : ∀ v i, knw ρ' v i = knw ρ v i := fun v i => by rw [knw, knw, eI]
  have hv : ∀ v, vC ρ' v = vC ρ v := fun v => by funext i; rw [vC, vC, hk, eI]
  refine ⟨?_, ?_, e3, ?_, ?_, ?_, ?_, ?_, ?_, ?_, ?_, ?_, ?_, ?_, ?_, ?_, ?_, ?_, ?_⟩
  · rw [e1, n1]; exact h.nl
  · rw [e2, n2]; exact h.gp
  · rw [n3, e4, gN_eq n4, eI]; exact h.wo
  · rw [eI, n4]; exact h.gv
  · rw [eI]; exact h.b1
  · rw [eI]; exact h.b16
  · intro i hi; rw [slM_eq n4, n1, gN_eq n4, n5, eI]; exact h.th i hi
  · intro i hi; rw [slM_eq n4, eI]; exact h.un i hi
  · rw [gN_eq n4, n6, eI]; exact h.ac
  · rw [gN_eq n4, eI]; exact h.au
  · intro j hj i hi; rw [gN_eq n4] at hj; rw [slM_eq n4, n7, eI]; exact h.tz j hj i hi
  · intro v hv' i hi; rw [gN_eq n4] at hv'; rw [hk, slM_eq n4, n8, eI]; exact h.vr v hv' i hi
  · rw [eI]; exact h.i1
  · rw [gN_eq n4, eI]; exact h.i2
  · rw [gN_eq n4, eI]; exact h.dj
  · rw [gN_eq n4, eI]; exact h.td
  · rw [gN_eq n4, eI]; exact h.i3
  · intro v hv'; rw [gN_eq n4] at hv'; rw [hv, eI]; exact h.i4 v hv'
theorem JR.thr {σ : HS} {ρ : MS} (h : JR σ ρ) (v : Int32) : JR σ (ρ.ws 0 v) := h.say rfl rfl rfl rfl rfl rfl rfl rfl rfl rfl rfl rfl (h.rs)
theorem JR.thr2 {σ : HS} {ρ : MS} (h : JR σ ρ) (v w : Int32) : JR σ ((ρ.ws 0 v).ws 0 w) := (h.thr v).thr w
theorem JR.tell {σ : HS} {ρ : MS} (h : JR σ ρ) (v : Int32) : JR (σ.wrs v) (ρ.ws 3 v) := h.say rfl rfl rfl rfl rfl rfl rfl rfl rfl rfl rfl rfl rfl
theorem mN_g {σ : HS} {ρ : MS} (h : JR σ ρ) {K : Nat} (h1 : 1 ≤ K) (h7 : K ≤ 7) : mN ρ K = gN σ K := by rw [mN, gN, h.gv K h1 h7]
theorem gv_g {σ : HS} {ρ : MS} (h : JR σ ρ) (a : Int32) : gvOk (ρ.I 0) a = gvOk σ.G a := by
  by_cases h1 : 1000 ≤ a
  · by_cases h7 : a / 1000 ≤ 7
    · obtain ⟨j, hj, -, hj1, e1, e2⟩ := h_nat h1
      have h8 : j / 1000 ≤ 7 := nI_le' (by rw [← e1]; exact h7) (by omega) (by decide)
      rw [gvOk, gvOk, e1, nI_clamp (by omega), h.gv (j / 1000) (by omega) h8]
    · simp [gvOk, h7]
  · simp [gvOk, h1]
theorem moG_of {σ : HS} {ρ : MS} (hI : hsI σ) (h : JR σ ρ) : moG ρ := fun K h1 h7 => by rw [h.gv K h1 h7]; exact hI.1 K h1 h7
theorem g6 {σ : HS} (hI : hsI σ) : gN σ 6 ≤ 10 := (gN_of hI.1 (K := 6) (by omega) (by omega)).2
theorem g7 {σ : HS} (hI : hsI σ) : gN σ 7 ≤ 8 := (gN_of hI.1 (K := 7) (by omega) (by omega)).2
theorem g2 {σ : HS} (hI : hsI σ) : gN σ 2 ≤ 20 := (gN_of hI.1 (K := 2) (by omega) (by omega)).2
theorem moWo_of {σ : HS} {ρ : MS} (hI : hsI σ) (h : JR σ ρ) : moWo ρ := by
  rcases h.wo with ⟨-, e⟩ | ⟨j, hj, -, e, -⟩
  · exact Or.inl e
  · exact Or.inr ⟨j, by have := g6 hI; omega, e⟩
theorem bx_u {x w u : Int32} (h0 : 0 ≤ x.toInt) (h1 : 1 ≤ w.toInt) (h2 : x.toInt + w.toInt ≤ 32) (e : u = x + w - 1) : u.toInt = x.toInt + w.toInt - 1 := by
  have e1 : (x + w).toInt = x.toInt + w.toInt := tA (by omega) (by omega)
  rw [e, tS (by rw [e1, t1]; omega) (by rw [e1, t1]; omega), e1, t1]
theorem bo_eq {p q : Prop} [Decidable p] [Decidable q] (h : p ↔ q) : decide p = decide q := by simp [h]
theorem wo_eq {σ : HS} {ρ : MS} (hI : hsI σ) (h : JR σ ρ) {j : Nat} (hj : j < 10) : decide (σ.wo = some j) = decide (nI j = ρ.s 4) := by
  refine bo_eq ?_
  rcases h.wo with ⟨e1, e2⟩ | ⟨k, hk, e1, e2, -⟩
  · rw [e1, e2]
    exact ⟨fun q => (nomatch q), fun q => by rw [tE, tn (by omega), tm1] at q; omega⟩
  · have := g6 hI
    rw [e1, e2, nI_eq (by omega) (by omega)]
    exact ⟨fun q => (Option.some.inj q).symm, fun q => by rw [q]⟩
theorem bp4 : ∀ a b c d : Bool, (a && b && c && d) = (b && a && d && c) := by decide
theorem bp5 : ∀ a b c d : Bool, (a && b && c && d) = (a && c && b && d) := by decide
theorem mt_eq {σ : HS} {ρ : MS} (h : JR σ ρ) {j : Nat} (hj : j < gN σ 6) {x y w ht u v : Int32} (hb : oB x y w ht) (hu : u.toInt = x.toInt + w.toInt - 1) (hv : v.toInt = y.toInt + ht.toInt - 1) : ar_meets (σ.A j 2) (σ.A j 3) (σ.A j 4) (σ.A j 5) x y u v = moMeet ρ.I j x y w ht := by
  obtain ⟨⟨-, -, e2, e3, e4, e5⟩, -⟩ := h.ac j hj
  have u1 := tE.mpr (hu.trans (bx_u hb.1 hb.2.1 hb.2.2.1 rfl).symm)
  have v1 := tE.mpr (hv.trans (bx_u hb.2.2.2.1 hb.2.2.2.2.1 (by have := hb.2.2.2.2.2; omega) rfl).symm)
  rw [ar_meets, moMeet, e2, e3, e4, e5, u1, v1]
  exact bp4 _ _ _ _
theorem in_eq {σ : HS} {ρ : MS} (h : JR σ ρ) {j : Nat} (hj : j < gN σ 6) {x y w ht u v : Int32} (hb : oB x y w ht) (hu : u.toInt = x.toInt + w.toInt - 1) (hv : v.toInt = y.toInt + ht.toInt - 1) : ar_holds (σ.A j 2) (σ.A j 3) (σ.A j 4) (σ.A j 5) x y u v = moIn ρ.I j x y w ht := by
  obtain ⟨⟨-, -, e2, e3, e4, e5⟩, -⟩ := h.ac j hj
  have u1 := tE.mpr (hu.trans (bx_u hb.1 hb.2.1 hb.2.2.1 rfl).symm)
  have v1 := tE.mpr (hv.trans (bx_u hb.2.2.2.1 hb.2.2.2.2.1 (by have := hb.2.2.2.2.2; omega) rfl).symm)
  rw [ar_holds, moIn, e2, e3, e4, e5, decide_eq_true (show x ≤ u by rw [tL, hu]; have := hb.2.1; omega), decide_eq_true (show y ≤ v by rw [tL, hv]; have := hb.2.2.2.2.1; omega), u1, v1]
  rw [Bool.and_true, Bool.and_true]; exact bp5 _ _ _ _
theorem any_ac {P Q : Nat → Bool} {n : Nat} (hn : n ≤ 10) (h1 : ∀ j, j < n → P j = Q j) (h2 : ∀ j, n ≤ j → j < 10 → P j = false) : anyF P 0 10 = anyF Q 0 n := by
  rw [Bool.eq_iff_iff, anyF_iff, anyF_iff]
  constructor
  · rintro ⟨j, -, a, b⟩
    by_cases hj : j < n
    · exact ⟨j, by omega, by omega, by rw [← h1 j hj]; exact b⟩
    · rw [h2 j (by omega) (by omega)] at b; cases b
  · rintro ⟨j, -, a, b⟩
    exact ⟨j, by omega, by omega, by rw [h1 j (by omega)]; exact b⟩
theorem barr_eq {σ : HS} {ρ : MS} (hI : hsI σ) (h : JR σ ρ) {x y w ht u v : Int32} (hb : oB x y w ht) (hu : u.toInt = x.toInt + w.toInt - 1) (hv : v.toInt = y.toInt + ht.toInt - 1) : moBarr ρ (mN ρ 6) x y w ht = barr σ x y u v := by
  have e1 : anyF (brA σ.A σ.wo x y u v) 0 10 = anyF (moBrP ρ x y w ht) 0 (mN ρ 6) := by
    rw [mN_g h (by omega) (by omega)]
    refine any_ac (g6 hI) (fun j hj => ?_) (fun j hj hj2 => ?_)
    · rw [brA, moBrP, (h.ac j hj).1.1, wo_eq hI h (by have := g6 hI; omega), mt_eq h hj hb hu hv]
    · rw [brA, hI.2.2.2.2.2 j hj2 (by omega), decide_eq_true rfl]; rfl
  have e2 : (!decide (ρ.s 4 = -1) && !moIn ρ.I (ρ.s 4).toNatClampNeg x y w ht) = !inA σ.A σ.wo x y u v := by
    rcases h.wo with ⟨e, e4⟩ | ⟨k, hk, e, e4, -⟩
    · rw [e, e4, decide_eq_true rfl]; rfl
    · have := g6 hI
      rw [e, e4, nI_clamp (by omega), decide_eq_false (by rw [tE, tn (by omega), tm1]; omega), ← in_eq h hk hb hu hv]; rfl
  rw [moBarr, barr, e1, e2, Bool.or_comm]
theorem kind_eq : ∀ i, i < 150 → moKind (nI i) = nI (slK i) := by decide +kernel
theorem han_eq : ∀ i, i < 150 → moHan (nI i) = 1000 * nI (slK i) + nI (slN i) := by decide +kernel
theorem slK_r : ∀ i, i < 150 → (i < 20 ∧ slK i = 2 ∧ slN i = i) ∨ (20 ≤ i ∧ i < 80 ∧ slK i = 3 ∧ slN i = i - 20) ∨ (80 ≤ i ∧ i < 140 ∧ slK i = 4 ∧ slN i = i - 80) ∨ (140 ≤ i ∧ slK i = 5 ∧ slN i = i - 140) := by decide +kernel
def crow (R : Nat → Int32) (I : Nat → Nat → Int32) (i : Nat) : Prop := R 0 = nI (slK i) ∧ R 2 = I 6 i ∧ (20 ≤ i → ∃ n, n < 20 ∧ R 3 = nI (1000 + n) ∧ I 7 i = nI n) ∧ (R 6 = I 2 i ∧ R 7 = I 3 i ∧ R 8 = I 2 i + I 4 i - 1 ∧ R 9 = I 3 i + I 5 i - 1) ∧ oB (I 2 i) (I 3 i) (I 4 i) (I 5 i)
theorem crow_of {σ : HS} {ρ : MS} (hI : hsI σ) (h : JR σ ρ) {i : Nat} (hi : i < 150) (hm : slM σ i = true) : crow (σ.T i) ρ.I i := by
  obtain ⟨a5, a6, a2, ob, an, -, -, -⟩ := h.th i hi hm
  refine ⟨(hI.2.1 i hi hm).1, a2, fun h20 => ?_, a6, ob⟩
  rcases an with ⟨h1, -⟩ | ⟨-, h2⟩
  · omega
  · exact h2
/-- along one axis: near is apart by no more than the gap -/
theorem near1 {x w a q u c g dx : Int32} (hx : 0 ≤ x.toInt) (hw : 1 ≤ w.toInt) (hxw : x.toInt + w.toInt ≤ 32) (ha : 0 ≤ a.toInt) (hq : 1 ≤ q.toInt) (haq : a.toInt + q.toInt ≤ 32) (hu : u.toInt = x.toInt + w.toInt - 1) (hc : c.toInt = a.toInt + q.toInt - 1) (hg : 0 ≤ g.toInt) (hg4 : g.toInt ≤ 4) (hd : -40 ≤ dx.toInt) (hd2 : dx.toInt ≤ 40) :
    decide (moApart (x + dx) w a q ≤ g) = (decide (x + dx ≤ c + g) && decide (a ≤ u + dx + g)) := by
  have e1 : (x + dx).toInt = x.toInt + dx.toInt := tA (by omega) (by omega)
  have e2 : (x + dx + w).toInt = x.toInt + dx.toInt + w.toInt := by rw [tA (by omega) (by omega), e1]
  have e3 : (a + q).toInt = a.toInt + q.toInt := tA (by omega) (by omega)
  have e4 : (c + g).toInt = c.toInt + g.toInt := tA (by omega) (by omega)
  have e5 : (u + dx).toInt = u.toInt + dx.toInt := tA (by omega) (by omega)
  have e6 : (u + dx + g).toInt = u.toInt + dx.toInt + g.toInt := by rw [tA (by omega) (by omega), e5]
  rw [← Bool.decide_and]
  refine bo_eq ?_
  rw [moApart]
  by_cases h1 : x + dx + w ≤ a
  · rw [if_pos h1]
    rw [tL, e2] at h1
    have f1 : (a - (x + dx)).toInt = a.toInt - (x.toInt + dx.toInt) := by rw [tS (by omega) (by omega), e1]
    have f2 : (a - (x + dx) - w).toInt = a.toInt - (x.toInt + dx.toInt) - w.toInt := by rw [tS (by omega) (by omega), f1]
    have f3 : (a - (x + dx) - w + 1).toInt = a.toInt - (x.toInt + dx.toInt) - w.toInt + 1 := by rw [tA (by rw [t1]; omega) (by rw [t1]; omega), f2, t1]
    rw [tL, tL, tL, f3, e1, e4, e6]; omega
  · rw [if_neg h1]
    rw [tL, e2] at h1
    by_cases h2 : a + q ≤ x + dx
    · rw [if_pos h2]
      rw [tL, e3, e1] at h2
      have f1 : (x + dx - a).toInt = x.toInt + dx.toInt - a.toInt := by rw [tS (by omega) (by omega), e1]
      have f2 : (x + dx - a - q).toInt = x.toInt + dx.toInt - a.toInt - q.toInt := by rw [tS (by omega) (by omega), f1]
      have f3 : (x + dx - a - q + 1).toInt = x.toInt + dx.toInt - a.toInt - q.toInt + 1 := by rw [tA (by rw [t1]; omega) (by rw [t1]; omega), f2, t1]
      rw [tL, tL, tL, f3, e1, e4, e6]; omega
    · rw [if_neg h2]
      rw [tL, e3, e1] at h2
      rw [tL, tL, tL, t0, e1, e4, e6]; omega
theorem bpN : ∀ a b c d e f : Bool, (a && b && (c && d) && (e && f)) = (a && b && (c && d && e && f)) := by decide
theorem bpS : ∀ a b c d : Bool, d = c → ((a || c) || (b || d)) = (a || b || c) := by decide
theorem near_eq {R S : Nat → Int32} {I : Nat → Nat → Int32} {t u : Nat} {g dx dy : Int32} (cR : crow R I t) (cS : crow S I u) (hg : 0 ≤ g.toInt) (hg4 : g.toInt ≤ 4) (hd : -40 ≤ dx.toInt ∧ dx.toInt ≤ 40) (hd2 : -40 ≤ dy.toInt ∧ dy.toInt ≤ 40) :
    ar_near (R 6) (R 7) (R 8) (R 9) (S 6) (S 7) (S 8) (S 9) g dx dy = (decide (moApart (I 2 t + dx) (I 4 t) (I 2 u) (I 4 u) ≤ g) && decide (moApart (I 3 t + dy) (I 5 t) (I 3 u) (I 5 u) ≤ g)) := by
  obtain ⟨-, -, -, ⟨r6, r7, r8, r9⟩, o1, o2, o3, o4, o5, o6⟩ := cR
  obtain ⟨-, -, -, ⟨s6, s7, s8, s9⟩, p1, p2, p3, p4, p5, p6⟩ := cS
  rw [near1 o1 o2 o3 p1 p2 p3 (bx_u o1 o2 o3 r8) (bx_u p1 p2 p3 s8) hg hg4 hd.1 hd.2, near1 o4 o5 (by omega) p4 p5 (by omega) (bx_u o4 o5 (by omega) r9) (bx_u p4 p5 (by omega) s9) hg hg4 hd2.1 hd2.2, ar_near, r6, r7, s6, s7]
  cases decide (I 2 t + dx ≤ S 8 + g) <;> simp [Bool.and_assoc]
theorem cl_row {R S : Nat → Int32} {ρ : MS} {t u : Nat} {g dx dy : Int32} (ht : 20 ≤ t) (ht2 : t < 140) (hu : 20 ≤ u) (hu2 : u < 140) (cR : crow R ρ.I t) (cS : crow S ρ.I u) (eg : ρ.s 2 = g) (hg : 0 ≤ g.toInt) (hg4 : g.toInt ≤ 4) (hd : -40 ≤ dx.toInt ∧ dx.toInt ≤ 40) (hd2 : -40 ≤ dy.toInt ∧ dy.toInt ≤ 40) :
    th_clash (R 0) (R 2) (R 3) (R 6) (R 7) (R 8) (R 9) (S 0) (S 2) (S 3) (S 6) (S 7) (S 8) (S 9) g dx dy = moClash ρ t dx dy u := by
  have kt : th_hasCopper (R 0) = true := by
    rw [cR.1]
    rcases slK_r t (by omega) with h | h | h | h
    · omega
    · rw [h.2.2.1]; rfl
    · rw [h.2.2.1]; rfl
    · omega
  have ku : th_hasCopper (S 0) = true := by
    rw [cS.1]
    rcases slK_r u (by omega) with h | h | h | h
    · omega
    · rw [h.2.2.1]; rfl
    · rw [h.2.2.1]; rfl
    · omega
  obtain ⟨n, hn, e1, e2⟩ := cR.2.2.1 ht
  obtain ⟨n', hn', e1', e2'⟩ := cS.2.2.1 hu
  have en : decide (R 3 = S 3) = decide (ρ.I 7 t = ρ.I 7 u) := bo_eq (by rw [e1, e1', e2, e2', nI_eq (by omega) (by omega), nI_eq (by omega) (by omega)]; omega)
  have el : decide (S 2 = R 2) = decide (R 2 = S 2) := bo_eq ⟨Eq.symm, Eq.symm⟩
  rw [th_clash, kt, ku, near_eq cR cS hg hg4 hd hd2, en, moClash, eg, moShare, kind_eq t (by omega), kind_eq u (by omega), ← cR.1, ← cS.1, th_liesOn, th_liesOn, bpS _ _ _ _ el, ← cR.2.1, ← cS.2.1]
  simp only [Bool.true_and, Bool.and_assoc]
theorem meet1 {x w a q u c : Int32} (hx : 0 ≤ x.toInt) (hw : 1 ≤ w.toInt) (hxw : x.toInt + w.toInt ≤ 32) (ha : 0 ≤ a.toInt) (hq : 1 ≤ q.toInt) (haq : a.toInt + q.toInt ≤ 32) (hu : u.toInt = x.toInt + w.toInt - 1) (hc : c.toInt = a.toInt + q.toInt - 1) :
    decide (moApart x w a q = 0) = (decide (a ≤ u) && decide (x ≤ c)) := by
  have e2 : (x + w).toInt = x.toInt + w.toInt := tA (by omega) (by omega)
  have e3 : (a + q).toInt = a.toInt + q.toInt := tA (by omega) (by omega)
  rw [← Bool.decide_and]
  refine bo_eq ?_
  rw [moApart]
  by_cases h1 : x + w ≤ a
  · rw [if_pos h1]
    rw [tL, e2] at h1
    have f1 : (a - x).toInt = a.toInt - x.toInt := tS (by omega) (by omega)
    have f2 : (a - x - w).toInt = a.toInt - x.toInt - w.toInt := by rw [tS (by omega) (by omega), f1]
    have f3 : (a - x - w + 1).toInt = a.toInt - x.toInt - w.toInt + 1 := by rw [tA (by rw [t1]; omega) (by rw [t1]; omega), f2, t1]
    rw [tE, tL, tL, f3, t0]; omega
  · rw [if_neg h1]
    rw [tL, e2] at h1
    by_cases h2 : a + q ≤ x
    · rw [if_pos h2]
      rw [tL, e3] at h2
      have f1 : (x - a).toInt = x.toInt - a.toInt := tS (by omega) (by omega)
      have f2 : (x - a - q).toInt = x.toInt - a.toInt - q.toInt := by rw [tS (by omega) (by omega), f1]
      have f3 : (x - a - q + 1).toInt = x.toInt - a.toInt - q.toInt + 1 := by rw [tA (by rw [t1]; omega) (by rw [t1]; omega), f2, t1]
      rw [tE, tL, tL, f3, t0]; omega
    · rw [if_neg h2]
      rw [tL, e3] at h2
      rw [tL, tL]; exact ⟨fun _ => by omega, fun _ => rfl⟩
theorem slM_p {σ : HS} {j : Nat} (hj : j < 20) : slM σ j = decide (j < gN σ 2) := by
  rw [slM]
  rcases slK_r j (by omega) with h | h | h | h
  · rw [h.2.1, h.2.2]
  all_goals omega
theorem slM_c {σ : HS} {j : Nat} (hj : 20 ≤ j) (hj2 : j < 80) : slM σ j = decide (j - 20 < gN σ 3) := by
  rw [slM]
  rcases slK_r j (by omega) with h | h | h | h
  · omega
  · rw [h.2.2.1, h.2.2.2]
  all_goals omega
theorem slM_t {σ : HS} {j : Nat} (hj : 80 ≤ j) (hj2 : j < 140) : slM σ j = decide (j - 80 < gN σ 4) := by
  rw [slM]
  rcases slK_r j (by omega) with h | h | h | h
  · omega
  · omega
  · rw [h.2.2.1, h.2.2.2]
  · omega
theorem slM_l {σ : HS} {j : Nat} (hj : 140 ≤ j) (hj2 : j < 150) : slM σ j = decide (j - 140 < gN σ 5) := by
  rw [slM]
  rcases slK_r j (by omega) with h | h | h | h
  · omega
  · omega
  · omega
  · rw [h.2.1, h.2.2]
theorem any_rg {P Q : Nat → Bool} {a n b m : Nat} (h1 : ∀ j, a ≤ j → j < a + n → P j = true → (b ≤ j ∧ j < b + m ∧ Q j = true)) (h2 : ∀ j, b ≤ j → j < b + m → Q j = true → (a ≤ j ∧ j < a + n ∧ P j = true)) : anyF P a n = anyF Q b m := by
  rw [Bool.eq_iff_iff, anyF_iff, anyF_iff]
  constructor
  · rintro ⟨j, x, y, z⟩; obtain ⟨u, v, w⟩ := h1 j x y z; exact ⟨j, u, v, w⟩
  · rintro ⟨j, x, y, z⟩; obtain ⟨u, v, w⟩ := h2 j x y z; exact ⟨j, u, v, w⟩
theorem ov_eq {σ : HS} {ρ : MS} (hI : hsI σ) (h : JR σ ρ) {ex : Option Nat} {pa sd x y w ht u v : Int32} (hex : ∀ j, j < 20 → decide (ex = some j) = decide (nI j = pa)) (hb : oB x y w ht) (hu : u.toInt = x.toInt + w.toInt - 1) (hv : v.toInt = y.toInt + ht.toInt - 1) :
    anyF (ovP σ.T ex 2 sd x y u v) 0 150 = anyF (moOvP ρ.I pa x y w ht sd) 0 (mN ρ 2) := by
  rw [mN_g h (by omega) (by omega)]
  have hg := g2 hI
  have key : ∀ j, j < gN σ 2 → ovP σ.T ex 2 sd x y u v j = moOvP ρ.I pa x y w ht sd j := fun j hj => by
    have hm : slM σ j = true := by rw [slM_p (by omega)]; exact decide_eq_true hj
    obtain ⟨k0, r2, -, ⟨r6, r7, r8, r9⟩, o1, o2, o3, o4, o5, o6⟩ := crow_of hI h (by omega) hm
    have ek : slK j = 2 := by rcases slK_r j (by omega) with q | q | q | q <;> omega
    rw [ovP, moOvP, hex j (by omega), (h.th j (by omega) hm).1, th_excludes, k0, ek, r2, meet1 hb.1 hb.2.1 hb.2.2.1 o1 o2 o3 hu (bx_u o1 o2 o3 r8), meet1 hb.2.2.2.1 hb.2.2.2.2.1 (by have := hb.2.2.2.2.2; omega) o4 o5 (by omega) hv (bx_u o4 o5 (by omega) r9), ar_meets, r6, r7]
    rw [show decide (nI 2 = 2) = true from rfl, Bool.true_and, Bool.true_or, Bool.and_true, Bool.and_assoc (decide (ρ.I 2 j ≤ u) && decide (x ≤ σ.T j 8))]
    cases decide (nI j = pa) <;> cases decide (ρ.I 1 j = 0) <;> simp [Bool.and_assoc]
  refine any_rg (fun j _ hj hp => ?_) (fun j _ hj hp => ?_)
  · by_cases hm : slM σ j = true
    · have hk := (hI.2.1 j (by omega) hm).1
      have hp' := hp
      simp only [ovP, th_excludes, Bool.and_eq_true, decide_eq_true_eq, hk] at hp
      have h20 : j < 20 := by
        have := hp.1.2.1.1
        rcases slK_r j (by omega) with q | q | q | q
        · exact q.1
        · rw [q.2.2.1] at this; exact absurd this (by decide)
        · rw [q.2.2.1] at this; exact absurd this (by decide)
        · rw [q.2.1] at this; exact absurd this (by decide)
      have hj2 : j < gN σ 2 := by
        rw [slM_p h20] at hm; exact of_decide_eq_true hm
      exact ⟨by omega, by omega, by rw [← key j hj2]; exact hp'⟩
    · rw [ovP, hI.2.2.2.2.1 j (by omega) (by simpa using hm)] at hp; simp at hp
  · exact ⟨by omega, by omega, by rw [key j (by omega)]; exact hp⟩
theorem pl_eq {σ : HS} {ρ : MS} (hI : hsI σ) (h : JR σ ρ) {la : Int32} : anyF (ovP σ.T none 5 la 0 0 31 23) 0 150 = anyF (moPlP ρ.I la) 140 (mN ρ 5) := by
  rw [mN_g h (by omega) (by omega)]
  have hg : gN σ 5 ≤ 10 := (gN_of hI.1 (K := 5) (by omega) (by omega)).2
  have key : ∀ j, 140 ≤ j → j < 140 + gN σ 5 → ovP σ.T none 5 la 0 0 31 23 j = moPlP ρ.I la j := fun j hj hj2 => by
    have hm : slM σ j = true := by rw [slM_l hj (by omega)]; exact decide_eq_true (by omega)
    obtain ⟨k0, r2, -, ⟨r6, r7, r8, r9⟩, o1, o2, o3, o4, o5, o6⟩ := crow_of hI h (by omega) hm
    have ek : slK j = 5 := by rcases slK_r j (by omega) with q | q | q | q <;> omega
    have a1 := bx_u o1 o2 o3 r8
    have a2 := bx_u o4 o5 (by omega) r9
    rw [ovP, moPlP, (h.th j (by omega) hm).1, th_excludes, k0, ek, r2, ar_meets, r6, r7, decide_eq_true (show ρ.I 2 j ≤ 31 by rw [tL, t31]; omega), decide_eq_true (show 0 ≤ σ.T j 8 by rw [tL, a1, t0]; omega), decide_eq_true (show ρ.I 3 j ≤ 23 by rw [tL, t23]; omega), decide_eq_true (show 0 ≤ σ.T j 9 by rw [tL, a2, t0]; omega)]
    rw [show decide (nI 5 = 5) = true from rfl]; simp
  refine any_rg (fun j _ hj hp => ?_) (fun j hj0 hj hp => ?_)
  · by_cases hm : slM σ j = true
    · have hk := (hI.2.1 j (by omega) hm).1
      have hp' := hp
      simp only [ovP, th_excludes, Bool.and_eq_true, decide_eq_true_eq, hk] at hp
      have h140 : 140 ≤ j := by
        have := hp.1.2.1.1
        rcases slK_r j (by omega) with q | q | q | q
        · rw [q.2.1] at this; exact absurd this (by decide)
        · rw [q.2.2.1] at this; exact absurd this (by decide)
        · rw [q.2.2.1] at this; exact absurd this (by decide)
        · exact q.1
      have hj2 : j < 140 + gN σ 5 := by
        rw [slM_l h140 (by omega)] at hm; have := of_decide_eq_true hm; omega
      exact ⟨h140, by omega, by rw [← key j h140 hj2]; exact hp'⟩
    · rw [ovP, hI.2.2.2.2.1 j (by omega) (by simpa using hm)] at hp; simp at hp
  · exact ⟨by omega, by omega, by rw [key j hj0 (by omega)]; exact hp⟩
theorem any_f {P : Nat → Bool} {a n : Nat} (h : ∀ j, a ≤ j → j < a + n → P j = false) : anyF P a n = false := by
  rw [Bool.eq_false_iff]; intro q
  obtain ⟨j, h1, h2, h3⟩ := (anyF_iff n a).mp q
  rw [h j h1 h2] at h3; cases h3
theorem ov_cu {T : Nat → Nat → Int32} {ex : Option Nat} {kd la x y u v : Int32} (hk : kd = 3 ∨ kd = 4) {a n : Nat} : anyF (ovP T ex kd la x y u v) a n = false := any_f (fun j _ _ => by
  have : th_excludes (T j 0) (T j 2) kd la = false := by
    rw [th_excludes]
    by_cases e : T j 0 = kd
    · rw [e]; rcases hk with rfl | rfl <;> simp
    · rw [decide_eq_false e]; rfl
  rw [ovP, this, Bool.and_false, Bool.false_and])
theorem cl_no {T : Nat → Nat → Int32} {ex : Option Nat} {hn g dx dy : Int32} {R : Nat → Int32} (hk : R 0 = 2 ∨ R 0 = 5) {a n : Nat} : anyF (clP T ex hn R g dx dy) a n = false := any_f (fun j _ _ => by
  have : th_hasCopper (R 0) = false := by rcases hk with e | e <;> rw [e] <;> rfl
  rw [clP, th_clash, this]; simp)
theorem cop_eq {σ : HS} {ρ : MS} (h : JR σ ρ) {j : Nat} (hj : 20 ≤ j) (hj2 : j < 140) (hm : slM σ j = true) : moCop ρ.I j = !decide (σ.T j 5 = 0) := by
  rw [moCop, kind_eq j (by omega), (h.th j (by omega) hm).1]
  rcases slK_r j (by omega) with q | q | q | q
  · omega
  · rw [q.2.2.1, show decide (nI 3 = 3) = true from rfl, Bool.true_or, Bool.and_true]
  · rw [q.2.2.1, show decide (nI 4 = 4) = true from rfl, Bool.or_true, Bool.and_true]
  · omega
theorem cop_un {σ : HS} {ρ : MS} (h : JR σ ρ) {j : Nat} (hj2 : j < 140) (hm : slM σ j = false) : moCop ρ.I j = false := by
  rw [moCop, h.un j (by omega) hm]; rfl
theorem gp_r {σ : HS} {ρ : MS} (h : JR σ ρ) : 0 ≤ σ.g.toInt ∧ σ.g.toInt ≤ 4 := by
  obtain ⟨-, g0, h5, e⟩ := h.gp
  rw [e, tn (by omega)]; omega
theorem pa_r {σ : HS} {ρ : MS} (hI : hsI σ) (h : JR σ ρ) {j : Nat} (hj2 : j < 150) (hm : slM σ j = true) {m : Nat} (h3 : 3000 ≤ m) (hm' : m < 2 ^ 31) : ¬ σ.T j 4 = nI m := by
  have := g2 hI
  obtain ⟨-, -, -, -, -, an, -⟩ := h.th j hj2 hm
  rcases an with ⟨e, -⟩ | ⟨-, -, q, hq, e, -⟩
  · rw [e, tE, tn (by omega), tm1]; omega
  · rw [e, nI_eq (by omega) (by omega)]; omega
/-- a new piece of copper: the same clashes -/
theorem cl_new {σ : HS} {ρ : MS} (hI : hsI σ) (h : JR σ ρ) {R : Nat → Int32} {t m : Nat} {hn : Int32} (ht : 20 ≤ t) (ht2 : t < 140) (hm : slM σ t = false) (cR : crow R ρ.I t) (eh : hn = nI m) (h3 : 3000 ≤ m) (hm2 : m < 2 ^ 31) : anyF (clP σ.T none hn R σ.g 0 0) 20 120 = anyF (moCwP ρ t 0 0 (-1)) 20 120 := by
  refine anyF_congr 120 20 (fun j hj hj2 => ?_)
  cases hmj : slM σ j with
  | false => rw [clP, hI.2.2.2.2.1 j (by omega) hmj, moCwP, cop_un h (by omega) hmj]; simp
  | true =>
    have hne : ¬ j = t := fun e => by rw [e, hm] at hmj; cases hmj
    rw [clP, moCwP, cop_eq h (by omega) (by omega) hmj, ← cl_row ht ht2 hj (by omega) cR (crow_of hI h (by omega) hmj) h.gp.1 (gp_r h).1 (gp_r h).2 (by rw [t0]; omega) (by rw [t0]; omega), eh, decide_eq_false (pa_r hI h (by omega) hmj h3 hm2), decide_eq_false (show ¬ nI j = nI t by rw [nI_eq (by omega) (by omega)]; exact hne)]
    simp
theorem st_all : ∀ x, x < 32 → ∀ y, y < 24 → ∀ b : Bool, th_st (nI x) (nI y) (bI b) ≠ -1 ∧ st_x (th_st (nI x) (nI y) (bI b)) = nI x ∧ st_y (th_st (nI x) (nI y) (bI b)) = nI y ∧ st_th (th_st (nI x) (nI y) (bI b)) = bI b := by decide +kernel
theorem nat_of {x : Int32} (h : 0 ≤ x.toInt) : x = nI x.toNatClampNeg ∧ (x.toNatClampNeg : Int) = x.toInt := by
  have h0 : 0 ≤ x := by rw [tL, t0]; exact h
  obtain ⟨e, hb⟩ := nI_back h0
  refine ⟨e.symm, ?_⟩
  have := tn (n := x.toNatClampNeg) hb
  rw [e] at this; exact this.symm
theorem bI_of {z : Int32} (h : z = 0 ∨ z = 1) : ∃ b, z = bI b := h.elim (fun e => ⟨false, e⟩) (fun e => ⟨true, e⟩)
theorem st_oB {x y w h z : Int32} (hb : oB x y w h) (hz : z = 0 ∨ z = 1) : th_st x y z ≠ -1 ∧ st_x (th_st x y z) = x ∧ st_y (th_st x y z) = y ∧ st_th (th_st x y z) = z := by
  obtain ⟨o1, o2, o3, o4, o5, o6⟩ := hb
  obtain ⟨ex, ex2⟩ := nat_of o1
  obtain ⟨ey, ey2⟩ := nat_of o4
  obtain ⟨b, eb⟩ := bI_of hz
  rw [ex, ey, eb]
  exact st_all _ (by omega) _ (by omega) b
theorem thR_congr {nl n2 : Nat} {R : Nat → Int32} {I I' : Nat → Nat → Int32} {i : Nat} (hk : ∀ k, k ≠ 0 → I' k i = I k i) (h : thR nl n2 R I i) : thR nl n2 R I' i := by
  unfold thR at *; rw [hk 1 (by omega), hk 2 (by omega), hk 3 (by omega), hk 4 (by omega), hk 5 (by omega), hk 6 (by omega), hk 7 (by omega), hk 8 (by omega)]; exact h
theorem pOK_congr {I I' : Nat → Nat → Int32} {th th' x y x' y' : Nat → Int32} (e : ∀ p, p < 150 → ¬ th' p = 0 → th p = th' p ∧ I' 8 p = I 8 p ∧ x' p = x p ∧ y' p = y p) (e2 : ∀ q, q < 20 → ¬ th q = 0 → th' q = th q ∧ x' q = x q ∧ y' q = y q ∧ I' 4 q = I 4 q ∧ I' 5 q = I 5 q) (h : pOK I th x y) : pOK I' th' x' y' := by
  intro p q h1 h2 h3 h4 h5
  obtain ⟨a0, a1, a2, a3⟩ := e p (by omega) h5
  obtain ⟨c1, c2⟩ := h p q h1 h2 h3 (by rw [← a1]; exact h4) (by rw [a0]; exact h5)
  obtain ⟨d0, d1, d2, d3, d4⟩ := e2 q h3 c1
  rw [a2, a3, d0, d1, d2, d3, d4]; exact ⟨c1, c2⟩
theorem un_t {σ : HS} {ρ : MS} (hI : hsI σ) (h : JR σ ρ) {i j : Nat} (hi : i < 150) (hm : slM σ i = false) (hj : j < 10) : ρ.I 15 (150 * j + i) = 0 := by
  by_cases h6 : j < gN σ 6
  · rcases h.tz j h6 i hi with ⟨e, -⟩ | ⟨-, e, -⟩
    · exact e
    · rw [hm] at e; cases e
  · exact (h.au j hj (by omega)).2.2 i hi
theorem uC_un {σ : HS} {ρ : MS} (hI : hsI σ) (h : JR σ ρ) {i j : Nat} (hi : i < 150) (hm : slM σ i = false) (hj : j < gN σ 6) : uC ρ.I j 1 16 i = 0 := by
  rw [uC, if_pos (un_t hI h hi hm (by have := g6 hI; omega))]; exact h.un i hi hm
theorem vC_un {σ : HS} {ρ : MS} (h : JR σ ρ) {i v : Nat} (hi : i < 150) (hm : slM σ i = false) (hv : v < gN σ 7) : knw ρ v i = false := by
  rcases h.vr v hv i hi with ⟨e, -⟩ | ⟨-, e, -⟩
  · exact e
  · rw [hm] at e; cases e
/-- a slot that nothing was made in yet may be written -/
theorem JR.scr {σ : HS} {ρ ρ' : MS} (hI : hsI σ) (h : JR σ ρ) {t : Nat} (ht : t < 150) (hm : slM σ t = false) (es : ρ'.s = ρ.s) (e1 : ∀ k i, i ≠ t → ρ'.I k i = ρ.I k i) (e2 : ∀ k, (k < 2 ∨ 8 < k) → ρ'.I k = ρ.I k) : JR σ ρ' := by
  have hne : ∀ {i}, slM σ i = true → i ≠ t := fun {i} q e => by rw [e, hm] at q; cases q
  have hk : ∀ v i, knw ρ' v i = knw ρ v i := fun v i => by rw [knw, knw, e2 19 (by omega)]
  have hv : ∀ v, vC ρ' v = vC ρ v := fun v => by funext i; rw [vC, vC, hk, e2 20 (by omega)]
  have hu : ∀ j i, uC ρ'.I j 1 16 i = uC ρ.I j 1 16 i := fun j i => by rw [uC, uC, e2 15 (by omega), e2 1 (by omega), e2 16 (by omega)]
  have hun : ∀ j, ρ'.I 15 = ρ.I 15 := fun _ => e2 15 (by omega)
  have htc : ∀ j i, tcd ρ'.I j i ↔ tcd ρ.I j i := fun j i => by rw [tcd, tcd, e2 15 (by omega)]
  refine ⟨by rw [es]; exact h.nl, by rw [es]; exact h.gp, by rw [es]; exact h.rs, by rw [es, e2 9 (by omega)]; exact h.wo, by rw [e2 0 (by omega)]; exact h.gv, by rw [e2 1 (by omega)]; exact h.b1, by rw [e2 16 (by omega)]; exact h.b16, fun i hi hs => thR_congr (fun k _ => e1 k i (hne hs)) (h.th i hi hs), by rw [e2 1 (by omega)]; exact h.un, ?_, ?_, ?_, ?_, ?_, ?_, ?_, ?_, ?_, ?_⟩
  · intro j hj; have := h.ac j hj; rw [acG] at *; rw [e2 9 (by omega), e2 14 (by omega), e2 10 (by omega), e2 11 (by omega), e2 12 (by omega), e2 13 (by omega)]; exact this
  · rw [e2 9 (by omega), e2 14 (by omega), e2 15 (by omega)]; exact h.au
  · intro j hj i hi
    rw [htc, e2 15 (by omega), e2 16 (by omega), e2 17 (by omega), e2 18 (by omega)]
    rcases h.tz j hj i hi with q | ⟨q1, q2, q3, q4⟩
    · exact Or.inl q
    · exact Or.inr ⟨q1, q2, q3, by rw [e1 4 i (hne q2), e1 5 i (hne q2)]; exact q4⟩
  · intro v hv i hi
    rw [hk, e2 20 (by omega), e2 21 (by omega), e2 22 (by omega)]
    rcases h.vr v hv i hi with q | ⟨q1, q2, q3, q4, q5⟩
    · exact Or.inl q
    · exact Or.inr ⟨q1, q2, q3, q4, by rw [e1 4 i (hne q2), e1 5 i (hne q2)]; exact q5⟩
  · rw [e2 1 (by omega)]
    have hz : ∀ {p}, ¬ ρ.I 1 p = 0 → p ≠ t := fun {p} q e => q (by rw [e]; exact h.un t ht hm)
    exact pOK_congr (fun p hp q => ⟨rfl, e1 8 p (hz q), e1 2 p (hz q), e1 3 p (hz q)⟩) (fun q hq q0 => ⟨rfl, e1 2 q (hz q0), e1 3 q (hz q0), e1 4 q (hz q0), e1 5 q (hz q0)⟩) h.i1
  · intro j hj ho i hi hq
    rw [e2 9 (by omega)] at ho
    rw [htc] at hq
    have hs : slM σ i = true := by
      rcases h.tz j hj i hi with q | ⟨-, q, -⟩
      · exact absurd q.1 hq
      · exact q
    rw [e2 1 (by omega), e2 16 (by omega), e2 17 (by omega), e2 18 (by omega), e2 10 (by omega), e2 11 (by omega), e2 12 (by omega), e2 13 (by omega), e1 2 i (hne hs), e1 3 i (hne hs), e1 4 i (hne hs), e1 5 i (hne hs)]
    exact h.i2 j hj ho i hi hq
  · intro j k hj hk hjk; rw [e2 9 (by omega)]; intro o1 o2; have := h.dj j k hj hk hjk o1 o2; rw [apR] at *; rw [e2 10 (by omega), e2 11 (by omega), e2 12 (by omega), e2 13 (by omega)]; exact this
  · intro j k hj hk hjk; rw [e2 9 (by omega)]; intro o1 o2 i hi hq; rw [htc] at hq; rw [e2 15 (by omega)]; exact h.td j k hj hk hjk o1 o2 i hi hq
  · intro j hj ho
    rw [e2 9 (by omega)] at ho
    have hz : ∀ {p}, ¬ uC ρ.I j 1 16 p = 0 → p < 150 → p ≠ t := fun {p} q _ e => q (by rw [e]; exact uC_un hI h ht hm hj)
    have h2 : ∀ p, p ≠ t → uC ρ'.I j 2 17 p = uC ρ.I j 2 17 p ∧ uC ρ'.I j 3 18 p = uC ρ.I j 3 18 p := fun p hp => by rw [uC, uC, uC, uC, e2 15 (by omega), e2 17 (by omega), e2 18 (by omega), e1 2 p hp, e1 3 p hp]; exact ⟨rfl, rfl⟩
    exact pOK_congr (fun p hp q => by rw [hu] at q; exact ⟨(hu j p).symm, e1 8 p (hz q hp), (h2 p (hz q hp)).1, (h2 p (hz q hp)).2⟩) (fun q hq q0 => ⟨hu j q, (h2 q (hz q0 (by omega))).1, (h2 q (hz q0 (by omega))).2, e1 4 q (hz q0 (by omega)), e1 5 q (hz q0 (by omega))⟩) (h.i3 j hj ho)
  · intro v hv'
    rw [hv, e2 21 (by omega), e2 22 (by omega)]
    have hz : ∀ {p}, ¬ vC ρ v p = 0 → p ≠ t := fun {p} q e => q (by rw [vC, e, vC_un h ht hm hv', if_neg Bool.false_ne_true])
    exact pOK_congr (fun p hp q => ⟨rfl, e1 8 p (hz q), rfl, rfl⟩) (fun q hq q0 => ⟨rfl, rfl, rfl, e1 4 q (hz q0), e1 5 q (hz q0)⟩) (h.i4 v hv')
