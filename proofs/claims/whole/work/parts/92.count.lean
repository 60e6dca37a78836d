/-! COUNTING BITS -/
theorem land_split {w a b c d : Nat} (ha : a < 2 ^ w) (hc : c < 2 ^ w) : (2 ^ w * b + a) &&& (2 ^ w * d + c) = 2 ^ w * (b &&& d) + (a &&& c) := by
  apply Nat.eq_of_testBit_eq
  intro i
  rw [Nat.testBit_and, Nat.testBit_two_pow_mul_add b ha, Nat.testBit_two_pow_mul_add d hc, Nat.testBit_two_pow_mul_add _ (Nat.lt_of_le_of_lt Nat.and_le_left ha)]
  split
  · rw [Nat.testBit_and]
  · rw [Nat.testBit_and]
def pb8 (a : Nat) : Nat := cntF a.testBit 0 8
theorem by1 : ∀ a, a < 256 → ∀ e, e < 2 → (a / 2 + 128 * e) &&& 85 = (a / 2) &&& 85 := by decide +kernel
theorem by1s : ∀ a, a < 256 → (a / 2) &&& 85 ≤ a := by decide +kernel
def q1 (a : Nat) : Nat := a - ((a / 2) &&& 85)
def q2 (a : Nat) : Nat := (a &&& 51) + ((a / 4) &&& 51)
def q3 (a : Nat) : Nat := (a + a / 16) &&& 15
theorem q1_lt : ∀ a, a < 256 → q1 a < 256 := by decide +kernel
theorem by2 : ∀ a, a < 256 → ∀ e, e < 4 → (a / 4 + 64 * e) &&& 51 = (a / 4) &&& 51 := by decide +kernel
theorem q2_b : ∀ a, a < 256 → q2 (q1 a) ≤ 68 ∧ q2 (q1 a) % 16 ≤ 4 := by decide +kernel
theorem by3 : ∀ a, a < 69 → ∀ e, e < 5 → (a + a / 16 + 16 * e) &&& 15 = q3 a := by decide +kernel
theorem q_pop : ∀ a, a < 256 → q3 (q2 (q1 a)) = pb8 a ∧ pb8 a ≤ 8 := by decide +kernel
/-- x: four bytes -/
def b4 (a b c d : Nat) : Nat := 256 * (256 * (256 * d + c) + b) + a
theorem b4_and {a b c d a' b' c' d' : Nat} (ha : a < 256) (hb : b < 256) (hc : c < 256) (ha' : a' < 256) (hb' : b' < 256) (hc' : c' < 256) : b4 a b c d &&& b4 a' b' c' d' = b4 (a &&& a') (b &&& b') (c &&& c') (d &&& d') := by
  unfold b4
  have e := @land_split 8
  rw [show (2 : Nat) ^ 8 = 256 from rfl] at e
  rw [e ha ha', e hb hb', e hc hc']
theorem st1 {a b c d : Nat} (ha : a < 256) (hb : b < 256) (hc : c < 256) (hd : d < 256) : b4 a b c d - ((b4 a b c d / 2) &&& 1431655765) = b4 (q1 a) (q1 b) (q1 c) (q1 d) := by
  have e : b4 a b c d / 2 = b4 (a / 2 + 128 * (b % 2)) (b / 2 + 128 * (c % 2)) (c / 2 + 128 * (d % 2)) (d / 2) := by unfold b4; omega
  have em : (1431655765 : Nat) = b4 85 85 85 85 := by decide
  rw [e, em, b4_and (by omega) (by omega) (by omega) (by decide) (by decide) (by decide), by1 a ha _ (by omega), by1 b hb _ (by omega), by1 c hc _ (by omega)]
  have := by1s a ha
  have := by1s b hb
  have := by1s c hc
  have := by1s d hd
  unfold b4 q1; omega
theorem st2 {a b c d : Nat} (ha : a < 256) (hb : b < 256) (hc : c < 256) (hd : d < 256) : (b4 a b c d &&& 858993459) + ((b4 a b c d / 4) &&& 858993459) = b4 (q2 a) (q2 b) (q2 c) (q2 d) := by
  have e : b4 a b c d / 4 = b4 (a / 4 + 64 * (b % 4)) (b / 4 + 64 * (c % 4)) (c / 4 + 64 * (d % 4)) (d / 4) := by unfold b4; omega
  have em : (858993459 : Nat) = b4 51 51 51 51 := by decide
  rw [e, em, b4_and ha hb hc (by decide) (by decide) (by decide), b4_and (by omega) (by omega) (by omega) (by decide) (by decide) (by decide), by2 a ha _ (by omega), by2 b hb _ (by omega), by2 c hc _ (by omega)]
  unfold b4 q2; omega
theorem st3 {a b c d : Nat} (ha : a ≤ 68) (hb : b ≤ 68) (hc : c ≤ 68) (hd : d ≤ 68) (hb4 : b % 16 ≤ 4) (hc4 : c % 16 ≤ 4) (hd4 : d % 16 ≤ 4) : ((b4 a b c d + b4 a b c d / 16) &&& 252645135) = b4 (q3 a) (q3 b) (q3 c) (q3 d) := by
  have e : b4 a b c d + b4 a b c d / 16 = b4 (a + a / 16 + 16 * (b % 16)) (b + b / 16 + 16 * (c % 16)) (c + c / 16 + 16 * (d % 16)) (d + d / 16) := by unfold b4; omega
  have em : (252645135 : Nat) = b4 15 15 15 15 := by decide
  rw [e, em, b4_and (by omega) (by omega) (by omega) (by decide) (by decide) (by decide), by3 a (by omega) _ (by omega), by3 b (by omega) _ (by omega), by3 c (by omega) _ (by omega)]
  rfl
theorem pop_end {a b c d : Nat} (ha : a ≤ 8) (hb : b ≤ 8) (hc : c ≤ 8) (hd : d ≤ 8) : (b4 a b c d + b4 a b c d / 256 + (b4 a b c d + b4 a b c d / 256) / 65536) % 64 = a + b + c + d := by
  have d1 : b4 a b c d / 256 = 256 * (256 * d + c) + b := by unfold b4; omega
  have d2 : (b4 a b c d + (256 * (256 * d + c) + b)) / 65536 = 256 * d + (c + d) := by unfold b4; omega
  rw [d1, d2]
  have d3 : b4 a b c d + (256 * (256 * d + c) + b) + (256 * d + (c + d)) = 64 * (4 * (256 * (256 * d + c) + b) + 4 * (256 * d + c) + 4 * d) + (a + b + c + d) := by unfold b4; omega
  rw [d3, Nat.mul_add_mod, Nat.mod_eq_of_lt (by omega)]
def nb (x : Int32) : Nat := x.toBitVec.toNat
theorem nb_lt (x : Int32) : nb x < 4294967296 := x.toBitVec.isLt
theorem nb_and (x y : Int32) : nb (x &&& y) = nb x &&& nb y := by unfold nb; rw [Int32.toBitVec_and, BitVec.toNat_and]
theorem nb_add (x y : Int32) : nb (x + y) = (nb x + nb y) % 4294967296 := by unfold nb; rw [Int32.toBitVec_add, BitVec.toNat_add]
theorem nb_sub {x y : Int32} (h : nb y ≤ nb x) : nb (x - y) = nb x - nb y := by
  have h1 := nb_lt x
  unfold nb at *; rw [Int32.toBitVec_sub, BitVec.toNat_sub]
  omega
theorem nb_us (x : Int32) (n : Nat) (hn : n < 32) : nb (us x (nI n)) = nb x / 2 ^ n := by
  rw [← Nat.shiftRight_eq_div_pow]
  apply Nat.eq_of_testBit_eq
  intro i
  have h1 : ∀ (z : Int32) (i : Nat), (nb z).testBit i = bt z i := fun z i => rfl
  rw [Nat.testBit_shiftRight, h1, h1, us, b_ushr n hn]
theorem jb_nat (x : Int32) : jb_cnt x = nI (cntF (bt x) 0 32) := by
  have hx := nb_lt x
  have ex : nb x = b4 (nb x % 256) (nb x / 256 % 256) (nb x / 65536 % 256) (nb x / 16777216) := by unfold b4; omega
  have u1 := nb_us x 1 (by omega)
  generalize ha : nb x % 256 = a at *
  generalize hb : nb x / 256 % 256 = b at *
  generalize hc : nb x / 65536 % 256 = c at *
  generalize hd : nb x / 16777216 = d at *
  have a8 : a < 256 := by omega
  have b8 : b < 256 := by omega
  have c8 : c < 256 := by omega
  have d8 : d < 256 := by omega
  -- step 1
  have e1 : nb (bc1 x) = b4 (q1 a) (q1 b) (q1 c) (q1 d) := by
    have m : nb (us x 1 &&& 1431655765) = (nb x / 2) &&& 1431655765 := by rw [nb_and]; show nb (us x (nI 1)) &&& nb 1431655765 = _; rw [u1]; rfl
    have s := st1 a8 b8 c8 d8
    rw [← ex] at s
    rw [bc1, nb_sub (by rw [m]; exact Nat.le_trans Nat.and_le_left (Nat.div_le_self _ _)), m, s]
  have qa := q1_lt a a8
  have qb := q1_lt b b8
  have qc := q1_lt c c8
  have qd := q1_lt d d8
  obtain ⟨ra, ra'⟩ := q2_b a a8
  obtain ⟨rb, rb'⟩ := q2_b b b8
  obtain ⟨rc, rc'⟩ := q2_b c c8
  obtain ⟨rd, rd'⟩ := q2_b d d8
  have e2 : nb (bc2 (bc1 x)) = b4 (q2 (q1 a)) (q2 (q1 b)) (q2 (q1 c)) (q2 (q1 d)) := by
    have s := st2 qa qb qc qd
    have m : nb (us (bc1 x) 2 &&& 858993459) = (nb (bc1 x) / 4) &&& 858993459 := by rw [nb_and]; show nb (us (bc1 x) (nI 2)) &&& nb 858993459 = _; rw [nb_us _ 2 (by omega)]; rfl
    have m2 : nb (bc1 x &&& 858993459) = nb (bc1 x) &&& 858993459 := by rw [nb_and]; rfl
    rw [bc2, nb_add, m, m2, e1, s, Nat.mod_eq_of_lt (by unfold b4; omega)]
  obtain ⟨pa, pa8⟩ := q_pop a a8
  obtain ⟨pb, pb8'⟩ := q_pop b b8
  obtain ⟨pc, pc8⟩ := q_pop c c8
  obtain ⟨pd, pd8⟩ := q_pop d d8
  have e3 : nb (bc3 (bc2 (bc1 x))) = b4 (pb8 a) (pb8 b) (pb8 c) (pb8 d) := by
    have s := st3 ra rb rc rd rb' rc' rd'
    have m : nb (bc2 (bc1 x) + us (bc2 (bc1 x)) 4) = nb (bc2 (bc1 x)) + nb (bc2 (bc1 x)) / 16 := by
      rw [nb_add]; show (nb (bc2 (bc1 x)) + nb (us (bc2 (bc1 x)) (nI 4))) % _ = _
      rw [nb_us _ 4 (by omega), e2, Nat.mod_eq_of_lt (by unfold b4; omega)]
    rw [bc3, nb_and, m, e2]
    show (b4 _ _ _ _ + b4 _ _ _ _ / 16) &&& 252645135 = _
    rw [s, pa, pb, pc, pd]
  have e4 : nb (bc4 (bc3 (bc2 (bc1 x)))) = b4 (pb8 a) (pb8 b) (pb8 c) (pb8 d) + b4 (pb8 a) (pb8 b) (pb8 c) (pb8 d) / 256 := by
    rw [bc4, nb_add]; show (_ + nb (us _ (nI 8))) % _ = _
    rw [nb_us _ 8 (by omega), e3, Nat.mod_eq_of_lt (by unfold b4; omega)]
  have e5 : nb (bc5 (bc4 (bc3 (bc2 (bc1 x))))) = nb (bc4 (bc3 (bc2 (bc1 x)))) + nb (bc4 (bc3 (bc2 (bc1 x)))) / 65536 := by
    rw [bc5, nb_add]; show (_ + nb (us _ (nI 16))) % _ = _
    rw [nb_us _ 16 (by omega), e4, Nat.mod_eq_of_lt (by unfold b4; omega)]
  have e6 : nb (jb_cnt x) = pb8 a + pb8 b + pb8 c + pb8 d := by
    rw [jb_cnt, nb_and]; show _ &&& 63 = _
    rw [show (63 : Nat) = 2 ^ 6 - 1 from rfl, Nat.and_two_pow_sub_one_eq_mod, e5, e4]
    exact pop_end pa8 pb8' pc8 pd8
  have byt : ∀ (k v : Nat), (∀ j, j < 8 → bt x (8 * k + j) = v.testBit j) → cntF (bt x) (8 * k) 8 = pb8 v := fun k v hv => by
    rw [pb8]
    simp only [cntF, Nat.zero_add, Nat.add_zero, Nat.reduceAdd]
    rw [show bt x (8 * k) = v.testBit 0 from hv 0 (by omega), show bt x (8 * k + 1) = v.testBit 1 from hv 1 (by omega), show bt x (8 * k + 1 + 1) = v.testBit 2 from hv 2 (by omega), show bt x (8 * k + 1 + 1 + 1) = v.testBit 3 from hv 3 (by omega), show bt x (8 * k + 1 + 1 + 1 + 1) = v.testBit 4 from hv 4 (by omega), show bt x (8 * k + 1 + 1 + 1 + 1 + 1) = v.testBit 5 from hv 5 (by omega), show bt x (8 * k + 1 + 1 + 1 + 1 + 1 + 1) = v.testBit 6 from hv 6 (by omega), show bt x (8 * k + 1 + 1 + 1 + 1 + 1 + 1 + 1) = v.testBit 7 from hv 7 (by omega)]
  have tb : ∀ (k j : Nat), j < 8 → bt x (8 * k + j) = (nb x / 2 ^ (8 * k) % 256).testBit j := fun k j hj => by
    show (nb x).testBit (8 * k + j) = _
    rw [show (256 : Nat) = 2 ^ 8 from rfl, Nat.testBit_mod_two_pow, decide_eq_true hj, Bool.true_and, Nat.testBit_div_two_pow, Nat.add_comm]
  have cnt : cntF (bt x) 0 32 = pb8 a + pb8 b + pb8 c + pb8 d := by
    rw [show (32 : Nat) = 8 + (8 + (8 + 8)) from rfl, cntF_add, cntF_add, cntF_add]
    have w0 := byt 0 a (fun j hj => by rw [tb 0 j hj, ← ha, show 2 ^ (8 * 0) = 1 from rfl, Nat.div_one])
    have w1 := byt 1 b (fun j hj => by rw [tb 1 j hj, ← hb])
    have w2 := byt 2 c (fun j hj => by rw [tb 2 j hj, ← hc])
    have w3 := byt 3 d (fun j hj => by rw [tb 3 j hj, ← hd]; show (nb x / 16777216 % 256).testBit j = _; rw [Nat.mod_eq_of_lt (by omega)])
    rw [show cntF (bt x) 0 8 = pb8 a from w0, show cntF (bt x) (0 + 8) 8 = pb8 b from w1, show cntF (bt x) (0 + 8 + 8) 8 = pb8 c from w2, show cntF (bt x) (0 + 8 + 8 + 8) 8 = pb8 d from w3]; omega
  rw [cnt]
  apply Int32.toBitVec_inj.mp
  apply BitVec.eq_of_toNat_eq
  show nb (jb_cnt x) = nb (nI _)
  rw [e6]
  show _ = (BitVec.ofNat 32 (pb8 a + pb8 b + pb8 c + pb8 d)).toNat
  rw [BitVec.toNat_ofNat, Nat.mod_eq_of_lt (by omega)]
