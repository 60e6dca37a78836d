/-! ===== Int32 by its bits: bt x i ===== -/
def bt (x : Int32) (i : Nat) : Bool := x.toBitVec.getLsbD i
theorem b_ext {x y : Int32} (h : ∀ i, i < 32 → bt x i = bt y i) : x = y := Int32.toBitVec_inj.mp (BitVec.eq_of_getLsbD_eq (fun i hi => h i hi))
theorem b_or (x y : Int32) (i : Nat) : bt (x ||| y) i = (bt x i || bt y i) := by unfold bt; rw [Int32.toBitVec_or, BitVec.getLsbD_or]
theorem b_and (x y : Int32) (i : Nat) : bt (x &&& y) i = (bt x i && bt y i) := by unfold bt; rw [Int32.toBitVec_and, BitVec.getLsbD_and]
theorem b_xor (x y : Int32) (i : Nat) : bt (x ^^^ y) i = (bt x i ^^ bt y i) := by unfold bt; rw [Int32.toBitVec_xor, BitVec.getLsbD_xor]
theorem b_big {x : Int32} {i : Nat} (h : 32 ≤ i) : bt x i = false := BitVec.getLsbD_of_ge _ _ h
theorem b_255 (i : Nat) : bt 255 i = decide (i < 8) := by
  rcases Nat.lt_or_ge i 32 with h | h
  · exact (by decide +kernel : ∀ i, i < 32 → bt 255 i = decide (i < 8)) i h
  · rw [b_big h, decide_eq_false (by omega)]
theorem b_65535 (i : Nat) : bt 65535 i = decide (i < 16) := by
  rcases Nat.lt_or_ge i 32 with h | h
  · exact (by decide +kernel : ∀ i, i < 32 → bt 65535 i = decide (i < 16)) i h
  · rw [b_big h, decide_eq_false (by omega)]
theorem b_m1 : ∀ i, i < 32 → bt (-1) i = true := by decide +kernel
theorem b_0 (i : Nat) : bt 0 i = false := BitVec.getLsbD_zero
theorem s_l : ∀ n, n < 32 → ((nI n &&& 31).toBitVec.smod 32).toNat = n := by decide +kernel
theorem s_u : ∀ n, n < 32 → (((nI n).toUInt32 &&& Int32.toUInt32 31).toBitVec % 32).toNat = n := by decide +kernel
theorem b_shl (n : Nat) (hn : n < 32) (x : Int32) {i : Nat} (hi : i < 32) : bt (x <<< (nI n &&& 31)) i = (decide (n ≤ i) && bt x (i - n)) := by
  unfold bt
  rw [Int32.toBitVec_shiftLeft]
  show (x.toBitVec <<< ((nI n &&& 31).toBitVec.smod 32).toNat).getLsbD i = _
  rw [s_l n hn, BitVec.getLsbD_shiftLeft]
  rcases Nat.lt_or_ge i n with h | h
  · simp [h, Nat.not_le.mpr h]
  · simp [hi, h, Nat.not_lt.mpr h]
theorem b_ushr (n : Nat) (hn : n < 32) (x : Int32) (i : Nat) : bt ((x.toUInt32 >>> ((nI n).toUInt32 &&& Int32.toUInt32 31)).toInt32) i = bt x (n + i) := by
  show (x.toUInt32 >>> ((nI n).toUInt32 &&& Int32.toUInt32 31)).toBitVec.getLsbD i = x.toUInt32.toBitVec.getLsbD (n + i)
  rw [UInt32.toBitVec_shiftRight]
  show (x.toUInt32.toBitVec >>> (((nI n).toUInt32 &&& Int32.toUInt32 31).toBitVec % 32).toNat).getLsbD i = _
  rw [s_u n hn, BitVec.getLsbD_ushiftRight]
theorem b_sshr (n : Nat) (hn : n < 32) (x : Int32) {i : Nat} (hi : i < 32) : bt (x >>> (nI n &&& 31)) i = if n + i < 32 then bt x (n + i) else bt x 31 := by
  unfold bt
  rw [Int32.toBitVec_shiftRight]
  show (x.toBitVec.sshiftRight ((nI n &&& 31).toBitVec.smod 32).toNat).getLsbD i = _
  rw [s_l n hn, BitVec.getLsbD_sshiftRight, BitVec.msb_eq_getLsbD_last]
  simp [hi]
theorem b_shl8 (x : Int32) {i : Nat} (hi : i < 32) : bt (x <<< ((8 : Int32) &&& 31)) i = (decide (8 ≤ i) && bt x (i - 8)) := b_shl 8 (by omega) x hi
theorem b_shl16 (x : Int32) {i : Nat} (hi : i < 32) : bt (x <<< ((16 : Int32) &&& 31)) i = (decide (16 ≤ i) && bt x (i - 16)) := b_shl 16 (by omega) x hi
theorem b_shl24 (x : Int32) {i : Nat} (hi : i < 32) : bt (x <<< ((24 : Int32) &&& 31)) i = (decide (24 ≤ i) && bt x (i - 24)) := b_shl 24 (by omega) x hi
theorem b_sshr8 (x : Int32) {i : Nat} (hi : i < 32) : bt (x >>> ((8 : Int32) &&& 31)) i = if 8 + i < 32 then bt x (8 + i) else bt x 31 := b_sshr 8 (by omega) x hi
/-! runs of a row, by bits -/
theorem run_u {z r u ru : Nat → Bool} {n : Nat} (hn : 0 < n) (hu : ∀ i, i < 32 → (u i = true ↔ ∃ j, j ≤ i ∧ i < j + n ∧ z j = true ∧ ∀ t, j < t → t ≤ i → r t = true)) (hr : ∀ i, i < 32 → (ru i = true ↔ n ≤ i + 1 ∧ ∀ t, i < t + n → t ≤ i → r t = true)) :
    ∀ i, i < 32 → ((u i || (ru i && (decide (n ≤ i) && u (i - n)))) = true ↔ ∃ j, j ≤ i ∧ i < j + (n + n) ∧ z j = true ∧ ∀ t, j < t → t ≤ i → r t = true) := by
  intro i hi
  simp only [Bool.or_eq_true, Bool.and_eq_true, decide_eq_true_eq]
  rw [hu i hi, hr i hi]
  constructor
  · rintro (⟨j, h1, h2, h3, h4⟩ | ⟨⟨h1, h2⟩, h3, h4⟩)
    · exact ⟨j, h1, by omega, h3, h4⟩
    · obtain ⟨j, a1, a2, a3, a4⟩ := (hu (i - n) (by omega)).mp h4
      refine ⟨j, by omega, by omega, a3, fun t q1 q2 => ?_⟩
      by_cases ht : t ≤ i - n
      · exact a4 t q1 ht
      · exact h2 t (by omega) q2
  · rintro ⟨j, h1, h2, h3, h4⟩
    by_cases hj : i < j + n
    · exact Or.inl ⟨j, h1, hj, h3, h4⟩
    · exact Or.inr ⟨⟨by omega, fun t q1 q2 => h4 t (by omega) q2⟩, by omega, (hu (i - n) (by omega)).mpr ⟨j, by omega, by omega, h3, fun t q1 q2 => h4 t q1 (by omega)⟩⟩
theorem run_ru {r ru : Nat → Bool} {n : Nat} (hr : ∀ i, i < 32 → (ru i = true ↔ n ≤ i + 1 ∧ ∀ t, i < t + n → t ≤ i → r t = true)) :
    ∀ i, i < 32 → ((ru i && (decide (n ≤ i) && ru (i - n))) = true ↔ n + n ≤ i + 1 ∧ ∀ t, i < t + (n + n) → t ≤ i → r t = true) := by
  intro i hi
  simp only [Bool.and_eq_true, decide_eq_true_eq]
  rw [hr i hi]
  constructor
  · rintro ⟨⟨h1, h2⟩, h3, h4⟩
    obtain ⟨a1, a2⟩ := (hr (i - n) (by omega)).mp h4
    refine ⟨by omega, fun t q1 q2 => ?_⟩
    by_cases ht : t ≤ i - n
    · exact a2 t (by omega) ht
    · exact h2 t (by omega) q2
  · rintro ⟨h1, h2⟩
    refine ⟨⟨by omega, fun t q1 q2 => h2 t (by omega) q2⟩, by omega, (hr (i - n) (by omega)).mpr ⟨by omega, fun t q1 q2 => h2 t (by omega) (by omega)⟩⟩
theorem run_d {z r u ru : Nat → Bool} {n : Nat} (hn : 0 < n) (hb : ∀ i, 32 ≤ i → u i = false) (hu : ∀ i, i < 32 → (u i = true ↔ ∃ j, i ≤ j ∧ j < i + n ∧ j < 32 ∧ z j = true ∧ ∀ t, i ≤ t → t < j → r t = true)) (hr : ∀ i, i < 32 → (ru i = true ↔ i + n ≤ 32 ∧ ∀ t, i ≤ t → t < i + n → r t = true)) :
    ∀ i, i < 32 → ((u i || (ru i && u (n + i))) = true ↔ ∃ j, i ≤ j ∧ j < i + (n + n) ∧ j < 32 ∧ z j = true ∧ ∀ t, i ≤ t → t < j → r t = true) := by
  intro i hi
  simp only [Bool.or_eq_true, Bool.and_eq_true]
  rw [hu i hi, hr i hi]
  constructor
  · rintro (⟨j, h1, h2, h2', h3, h4⟩ | ⟨⟨h1, h2⟩, h4⟩)
    · exact ⟨j, h1, by omega, h2', h3, h4⟩
    · have hlt : n + i < 32 := by
        rcases Nat.lt_or_ge (n + i) 32 with q | q
        · exact q
        · rw [hb _ q] at h4; cases h4
      obtain ⟨j, a1, a2, a2', a3, a4⟩ := (hu (n + i) hlt).mp h4
      refine ⟨j, by omega, by omega, a2', a3, fun t q1 q2 => ?_⟩
      by_cases ht : n + i ≤ t
      · exact a4 t ht q2
      · exact h2 t q1 (by omega)
  · rintro ⟨j, h1, h2, h2', h3, h4⟩
    by_cases hj : j < i + n
    · exact Or.inl ⟨j, h1, hj, h2', h3, h4⟩
    · exact Or.inr ⟨⟨by omega, fun t q1 q2 => h4 t q1 (by omega)⟩, (hu (n + i) (by omega)).mpr ⟨j, by omega, by omega, h2', h3, fun t q1 q2 => h4 t (by omega) q2⟩⟩
theorem run_rd {r ru : Nat → Bool} {n : Nat} (hb : ∀ i, 32 ≤ i → ru i = false) (hr : ∀ i, i < 32 → (ru i = true ↔ i + n ≤ 32 ∧ ∀ t, i ≤ t → t < i + n → r t = true)) :
    ∀ i, i < 32 → ((ru i && ru (n + i)) = true ↔ i + (n + n) ≤ 32 ∧ ∀ t, i ≤ t → t < i + (n + n) → r t = true) := by
  intro i hi
  simp only [Bool.and_eq_true]
  rw [hr i hi]
  constructor
  · rintro ⟨⟨h1, h2⟩, h4⟩
    have hlt : n + i < 32 := by
      rcases Nat.lt_or_ge (n + i) 32 with q | q
      · exact q
      · rw [hb _ q] at h4; cases h4
    obtain ⟨a1, a2⟩ := (hr (n + i) hlt).mp h4
    refine ⟨by omega, fun t q1 q2 => ?_⟩
    by_cases ht : n + i ≤ t
    · exact a2 t ht (by omega)
    · exact h2 t q1 (by omega)
  · rintro ⟨h1, h2⟩
    by_cases hlt : n + i < 32
    · exact ⟨⟨by omega, fun t q1 q2 => h2 t q1 (by omega)⟩, (hr (n + i) hlt).mpr ⟨by omega, fun t q1 q2 => h2 t (by omega) (by omega)⟩⟩
    · exact absurd h1 (by omega)
theorem bt_u (n : Nat) (hn : n < 32) (u ru : Int32) {i : Nat} (hi : i < 32) : bt (rn_u (nI n) u ru) i = (bt u i || (bt ru i && (decide (n ≤ i) && bt u (i - n)))) := by
  rw [rn_u, b_or, b_and, b_shl n hn u hi]
theorem bt_ru (n : Nat) (hn : n < 32) (ru : Int32) {i : Nat} (hi : i < 32) : bt (rn_ru (nI n) ru) i = (bt ru i && (decide (n ≤ i) && bt ru (i - n))) := by
  rw [rn_ru, b_and, b_shl n hn ru hi]
theorem bt_d (n : Nat) (hn : n < 32) (u ru : Int32) (i : Nat) : bt (rn_d (nI n) u ru) i = (bt u i || (bt ru i && bt u (n + i))) := by
  rw [rn_d, b_or, b_and, b_ushr n hn u i]
theorem bt_rd (n : Nat) (hn : n < 32) (ru : Int32) (i : Nat) : bt (rn_rd (nI n) ru) i = (bt ru i && bt ru (n + i)) := by
  rw [rn_rd, b_and, b_ushr n hn ru i]
def RU (r : Int32) (n : Nat) (x : Int32) : Prop := ∀ i, i < 32 → (bt x i = true ↔ n ≤ i + 1 ∧ ∀ t, i < t + n → t ≤ i → bt r t = true)
def UU (z r : Int32) (n : Nat) (x : Int32) : Prop := ∀ i, i < 32 → (bt x i = true ↔ ∃ j, j ≤ i ∧ i < j + n ∧ bt z j = true ∧ ∀ t, j < t → t ≤ i → bt r t = true)
def RD (r : Int32) (n : Nat) (x : Int32) : Prop := ∀ i, i < 32 → (bt x i = true ↔ i + n ≤ 32 ∧ ∀ t, i ≤ t → t < i + n → bt r t = true)
def DD (z r : Int32) (n : Nat) (x : Int32) : Prop := ∀ i, i < 32 → (bt x i = true ↔ ∃ j, i ≤ j ∧ j < i + n ∧ j < 32 ∧ bt z j = true ∧ ∀ t, i ≤ t → t < j → bt r t = true)
theorem RU_s {r x : Int32} {n : Nat} (hn : n < 32) (h : RU r n x) : RU r (n + n) (rn_ru (nI n) x) := fun i hi => by rw [bt_ru n hn x hi]; exact run_ru (ru := bt x) h i hi
theorem UU_s {z r x y : Int32} {n : Nat} (h0 : 0 < n) (hn : n < 32) (h : UU z r n x) (hr : RU r n y) : UU z r (n + n) (rn_u (nI n) x y) := fun i hi => by rw [bt_u n hn x y hi]; exact run_u (u := bt x) (ru := bt y) h0 h hr i hi
theorem RD_s {r x : Int32} {n : Nat} (hn : n < 32) (h : RD r n x) : RD r (n + n) (rn_rd (nI n) x) := fun i hi => by rw [bt_rd n hn x i]; exact run_rd (ru := bt x) (fun i q => b_big q) h i hi
theorem DD_s {z r x y : Int32} {n : Nat} (h0 : 0 < n) (hn : n < 32) (h : DD z r n x) (hr : RD r n y) : DD z r (n + n) (rn_d (nI n) x y) := fun i hi => by rw [bt_d n hn x y i]; exact run_d (u := bt x) (ru := bt y) h0 (fun i q => b_big q) h hr i hi
theorem bt_runs (z r : Int32) {i : Nat} (hi : i < 32) : bt (sh_runs z r) i = true ↔ (∃ j, j ≤ i ∧ bt z j = true ∧ ∀ t, j < t → t ≤ i → bt r t = true) ∨ (∃ j, i ≤ j ∧ j < 32 ∧ bt z j = true ∧ ∀ t, i ≤ t → t < j → bt r t = true) := by
  have r1 : RU r 1 r := fun i hi => ⟨fun h => ⟨by omega, fun t q1 q2 => by rw [show t = i by omega]; exact h⟩, fun h => h.2 i (by omega) (by omega)⟩
  have u1 : UU z r 1 z := fun i hi => ⟨fun h => ⟨i, by omega, by omega, h, fun t q1 q2 => by omega⟩, fun ⟨j, q1, q2, q3, _⟩ => by rw [show i = j by omega]; exact q3⟩
  have e1 : RD r 1 r := fun i hi => ⟨fun h => ⟨by omega, fun t q1 q2 => by rw [show t = i by omega]; exact h⟩, fun h => h.2 i (by omega) (by omega)⟩
  have d1 : DD z r 1 z := fun i hi => ⟨fun h => ⟨i, by omega, by omega, hi, h, fun t q1 q2 => by omega⟩, fun ⟨j, q1, q2, _, q3, _⟩ => by rw [show i = j by omega]; exact q3⟩
  have r2 := RU_s (n := 1) (by omega) r1
  have r4 := RU_s (n := 2) (by omega) r2
  have r8 := RU_s (n := 4) (by omega) r4
  have r16 := RU_s (n := 8) (by omega) r8
  have u2 := UU_s (n := 1) (by omega) (by omega) u1 r1
  have u4 := UU_s (n := 2) (by omega) (by omega) u2 r2
  have u8 := UU_s (n := 4) (by omega) (by omega) u4 r4
  have u16 := UU_s (n := 8) (by omega) (by omega) u8 r8
  have u32 := UU_s (n := 16) (by omega) (by omega) u16 r16
  have e2 := RD_s (n := 1) (by omega) e1
  have e4 := RD_s (n := 2) (by omega) e2
  have e8 := RD_s (n := 4) (by omega) e4
  have e16 := RD_s (n := 8) (by omega) e8
  have d2 := DD_s (n := 1) (by omega) (by omega) d1 e1
  have d4 := DD_s (n := 2) (by omega) (by omega) d2 e2
  have d8 := DD_s (n := 4) (by omega) (by omega) d4 e4
  have d16 := DD_s (n := 8) (by omega) (by omega) d8 e8
  have d32 := DD_s (n := 16) (by omega) (by omega) d16 e16
  have hU := u32 i hi
  have hD := d32 i hi
  have hs : bt (sh_runs z r) i = (bt (rn_u (nI 16) (rn_u (nI 8) (rn_u (nI 4) (rn_u (nI 2) (rn_u (nI 1) z r) (rn_ru (nI 1) r)) (rn_ru (nI 2) (rn_ru (nI 1) r))) (rn_ru (nI 4) (rn_ru (nI 2) (rn_ru (nI 1) r)))) (rn_ru (nI 8) (rn_ru (nI 4) (rn_ru (nI 2) (rn_ru (nI 1) r))))) i || bt (rn_d (nI 16) (rn_d (nI 8) (rn_d (nI 4) (rn_d (nI 2) (rn_d (nI 1) z r) (rn_rd (nI 1) r)) (rn_rd (nI 2) (rn_rd (nI 1) r))) (rn_rd (nI 4) (rn_rd (nI 2) (rn_rd (nI 1) r)))) (rn_rd (nI 8) (rn_rd (nI 4) (rn_rd (nI 2) (rn_rd (nI 1) r))))) i) := by
    rw [← b_or]; rfl
  rw [hs, Bool.or_eq_true, hU, hD]
  constructor
  · rintro (⟨j, q1, _, q3, q4⟩ | ⟨j, q1, _, q3, q4, q5⟩)
    · exact Or.inl ⟨j, q1, q3, q4⟩
    · exact Or.inr ⟨j, q1, q3, q4, q5⟩
  · rintro (⟨j, q1, q3, q4⟩ | ⟨j, q1, q3, q4, q5⟩)
    · exact Or.inl ⟨j, q1, by omega, q3, q4⟩
    · exact Or.inr ⟨j, q1, by omega, q3, q4, q5⟩
