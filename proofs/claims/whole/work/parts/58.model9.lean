/-! bits of longs; the model's grow and count -/
def lq (v : Int64) (i : Nat) : Bool := v.toBitVec.getLsbD i
theorem q_ext {x y : Int64} (h : ∀ i, i < 64 → lq x i = lq y i) : x = y := Int64.toBitVec_inj.mp (BitVec.eq_of_getLsbD_eq (fun i hi => h i hi))
theorem q_or (x y : Int64) (i : Nat) : lq (x ||| y) i = (lq x i || lq y i) := by unfold lq; rw [Int64.toBitVec_or, BitVec.getLsbD_or]
theorem q_and (x y : Int64) (i : Nat) : lq (x &&& y) i = (lq x i && lq y i) := by unfold lq; rw [Int64.toBitVec_and, BitVec.getLsbD_and]
theorem q_xor (x y : Int64) (i : Nat) : lq (x ^^^ y) i = (lq x i ^^ lq y i) := by unfold lq; rw [Int64.toBitVec_xor, BitVec.getLsbD_xor]
theorem q_big {x : Int64} {i : Nat} (h : 64 ≤ i) : lq x i = false := BitVec.getLsbD_of_ge _ _ h
theorem q_0 (i : Nat) : lq 0 i = false := BitVec.getLsbD_zero
theorem q_m1 : ∀ i, i < 64 → lq (-1) i = true := by decide +kernel
theorem q_1 : ∀ i, i < 64 → lq 1 i = decide (i = 0) := by decide +kernel
theorem q_all : ∀ i, i < 64 → lq 4294967295 i = decide (i < 32) := by decide +kernel
theorem s_q : ∀ n, n < 64 → (((nI n).toInt64 &&& 63).toBitVec.smod 64).toNat = n := by decide +kernel
theorem q_shl (n : Nat) (hn : n < 64) (x : Int64) {i : Nat} (hi : i < 64) : lq (x <<< ((nI n).toInt64 &&& 63)) i = (decide (n ≤ i) && lq x (i - n)) := by
  unfold lq
  rw [Int64.toBitVec_shiftLeft]
  show (x.toBitVec <<< (((nI n).toInt64 &&& 63).toBitVec.smod 64).toNat).getLsbD i = _
  rw [s_q n hn, BitVec.getLsbD_shiftLeft]
  rcases Nat.lt_or_ge i n with h | h
  · simp [h, Nat.not_le.mpr h]
  · simp [hi, h, Nat.not_lt.mpr h]
theorem q_shr (n : Nat) (hn : n < 64) (x : Int64) {i : Nat} (hi : i < 64) : lq (x >>> ((nI n).toInt64 &&& 63)) i = if n + i < 64 then lq x (n + i) else lq x 63 := by
  unfold lq
  rw [Int64.toBitVec_shiftRight]
  show (x.toBitVec.sshiftRight (((nI n).toInt64 &&& 63).toBitVec.smod 64).toNat).getLsbD i = _
  rw [s_q n hn, BitVec.getLsbD_sshiftRight, BitVec.msb_eq_getLsbD_last]
  simp [hi]
theorem q_W1 (v : Int64) {i : Nat} (hi : i < 64) : lq (moW1 v) i = (decide (i < 32) && (lq v i || (decide (1 ≤ i) && lq v (i - 1)) || lq v (1 + i))) := by
  unfold moW1
  rw [q_and, q_or, q_or, q_all i hi]
  rw [show ((1 : Int32).toInt64) = (nI 1).toInt64 from rfl, q_shl 1 (by omega) v hi, q_shr 1 (by omega) v hi]
  by_cases h : i < 32
  · rw [if_pos (by omega)]; simp [h]
  · simp [h]
theorem least {P : Nat → Bool} : ∀ n : Nat, P n = true → ∃ m, m ≤ n ∧ P m = true ∧ ∀ i, i < m → P i = false := by
  intro n
  induction n using Nat.strongRecOn with
  | _ n ih =>
    intro h
    by_cases hs : ∃ j, j < n ∧ P j = true
    · obtain ⟨j, hj, hp⟩ := hs
      obtain ⟨m, a, b, c⟩ := ih j hj hp
      exact ⟨m, by omega, b, c⟩
    · exact ⟨n, Nat.le_refl _, h, fun i hi => by
        cases hx : P i with
        | false => rfl
        | true => exact absurd ⟨i, hi, hx⟩ hs⟩
def pcn (v : Int64) : Nat := cntF (lq v) 0 64
theorem cntF_flip {P Q : Nat → Bool} {m : Nat} (hp : P m = true) (hq : Q m = false) (he : ∀ x, x ≠ m → Q x = P x) : ∀ (n i : Nat), i ≤ m → m < i + n → cntF Q i n + 1 = cntF P i n := by
  intro n
  induction n with
  | zero => intro i _ h; omega
  | succ n ih =>
    intro i h1 h2
    rw [cntF, cntF]
    by_cases him : i = m
    · subst him
      rw [hp, hq, cntF_congr n (i + 1) (fun j a _ => he j (by omega))]
      simp
      omega
    · rw [he i him, ← ih (i + 1) (by omega) (by omega)]; omega
theorem low_bits {N m : Nat} (hm : N.testBit m = true) (hl : ∀ i, i < m → N.testBit i = false) (x : Nat) : (N - 1).testBit x = if x < m then true else if x = m then false else N.testBit x := by
  have hmod : N % 2 ^ (m + 1) = 2 ^ m := by
    apply Nat.eq_of_testBit_eq
    intro i
    rw [Nat.testBit_mod_two_pow, Nat.testBit_two_pow]
    by_cases h : i < m
    · rw [hl i h, Bool.and_false]; exact (decide_eq_false (by omega)).symm
    · by_cases h2 : i = m
      · subst h2; rw [hm, decide_eq_true (by omega), Bool.and_true]; exact (decide_eq_true rfl).symm
      · rw [decide_eq_false (by omega), Bool.false_and]; exact (decide_eq_false (by omega)).symm
  have hdiv := Nat.div_add_mod N (2 ^ (m + 1))
  have hpos : 0 < 2 ^ m := Nat.two_pow_pos m
  have hp1 : 2 ^ (m + 1) = 2 ^ m + 2 ^ m := by rw [Nat.pow_succ]; omega
  have e1 : N - 1 = 2 ^ (m + 1) * (N / 2 ^ (m + 1)) + (2 ^ m - 1) := by rw [hmod] at hdiv; omega
  have e2 : N = 2 ^ (m + 1) * (N / 2 ^ (m + 1)) + 2 ^ m := by rw [hmod] at hdiv; exact hdiv.symm
  rw [e1, Nat.testBit_two_pow_mul_add _ (by omega), Nat.testBit_two_pow_sub_one]
  by_cases h : x < m
  · rw [if_pos (by omega), if_pos h]; exact decide_eq_true h
  · by_cases h2 : x = m
    · subst h2; rw [if_pos (by omega), if_neg h, if_pos rfl]; exact decide_eq_false h
    · rw [if_neg (by omega), if_neg h, if_neg h2]
      conv => rhs; rw [e2, Nat.testBit_two_pow_mul_add _ (by omega), if_neg (by omega)]
theorem pcn_low {v : Int64} (h : ¬ v = 0) : pcn (v &&& (v - 1)) + 1 = pcn v := by
  have hex : ∃ i, i < 64 ∧ lq v i = true := by
    apply Classical.byContradiction
    intro hn
    exact h (q_ext (fun i hi => by
      rw [q_0]
      cases hx : lq v i with
      | false => rfl
      | true => exact absurd ⟨i, hi, hx⟩ hn))
  obtain ⟨i, hi, hx⟩ := hex
  obtain ⟨m, hmi, hm, hl⟩ := least i hx
  have hb : ∀ x, lq (v - 1) x = if x < m then true else if x = m then false else lq v x := by
    intro x
    have h1 : 1 ≤ v.toBitVec.toNat := by
      apply Classical.byContradiction
      intro hn
      have : v.toBitVec.toNat = 0 := by omega
      have hz : v.toBitVec.toNat.testBit m = true := hm
      rw [this] at hz
      simp at hz
    have e : (v - 1).toBitVec.toNat = v.toBitVec.toNat - 1 := by
      rw [Int64.toBitVec_sub, BitVec.toNat_sub]
      show (2 ^ 64 - 1 + v.toBitVec.toNat) % 2 ^ 64 = _
      have := v.toBitVec.isLt
      omega
    show (v - 1).toBitVec.toNat.testBit x = _
    rw [e, low_bits (m := m) hm hl x]
    rfl
  exact cntF_flip (P := lq v) (Q := lq (v &&& (v - 1))) (m := m) hm (by rw [q_and, hb m, if_neg (by omega), if_pos rfl, Bool.and_false]) (fun x hx => by
    rw [q_and, hb x]
    by_cases hlt : x < m
    · rw [if_pos hlt, hl x hlt]; rfl
    · rw [if_neg hlt, if_neg hx]; cases lq v x <;> rfl) 64 0 (by omega) (by omega)
def grRow (F g : Nat → Int64) (la r : Nat) : Int64 := ((moWd (g (24 * la + r)) 1 ||| (if 0 < r then g (24 * la + r - 1) else 0)) ||| (if r < 23 then g (24 * la + r + 1) else 0)) &&& F (24 * la + r)
def moGr (F : Nat → Int64) (la : Nat) (g : Nat → Int64) : Nat → Nat → Int64
  | 0 => g
  | n + 1 => vp_updL (moGr F la g n) (24 * la + n) (grRow F (moGr F la g n) la n)
def moGm (F : Nat → Int64) (la : Nat) (g : Nat → Int64) : Nat → Bool := fun n => !decide (grRow F (moGr F la g n) la n = moGr F la g n (24 * la + n))
theorem wL_self {ρ : MS} {j : Nat} : ρ.wL j (ρ.L j) = ρ := by
  have : updQ ρ.L j (ρ.L j) = ρ.L := by
    funext q
    by_cases h : q = j
    · subst h; rw [uQ_s]
    · rw [uQ_n h]
  unfold MS.wL; rw [this]; rfl
theorem wL_wL {ρ : MS} {j : Nat} {f g : Nat → Int64} : (ρ.wL j f).wL j g = ρ.wL j g := by
  have : updQ (updQ ρ.L j f) j g = updQ ρ.L j g := by
    funext q
    by_cases h : q = j
    · subst h; rw [uQ_s, uQ_s]
    · rw [uQ_n h, uQ_n h, uQ_n h]
  show (ρ.s, ρ.I, updQ (updQ ρ.L j f) j g) = (ρ.s, ρ.I, updQ ρ.L j g)
  rw [this]
theorem nI_sb {a : Nat} (h : 1 ≤ a) : nI a - 1 = nI (a - 1) := by
  obtain ⟨b, rfl⟩ : ∃ b, a = b + 1 := ⟨a - 1, by omega⟩
  rw [Nat.add_sub_cancel, ← nI_1, Int32.add_sub_cancel]
set_option maxHeartbeats 4000000 in
set_option maxRecDepth 100000 in
/-- count of bits -/
theorem c_Mo_count (l : Launch) (D : va_G) (N0 : Nat) (k : Nat → Nat) (V : HV) (v0 : Int64) : Met l y_Mo_count (.code y_Mo_count b_Mo_count 5 (some .int) :: WS) ({ frames := 0, cells := 0, slots := 0, locals := 0 }) (mP D N0 k [.long v0] V) (va_Qi (fun r V' => r = nI (pcn v0) ∧ V' = V) (mB D N0) (hA N0)) 0 0 (hA N0) := by
  refine Met.ofW (cc := b_Mo_count) (maxL := 5) (ret := (some .int)) (by decide) rfl ?_
  intro p e s m args below meth c s₁ B hml hv0
  obtain ⟨rfl, hG, hV⟩ := hv0
  have hx := B.exec
  have hb := B.bytes
  have hr := B.returns
  have hts := atoms_spec (ws := .code y_Mo_count b_Mo_count 5 (some .int) :: WS) B.pre
  have hW : ∀ w ∈ WS, w.before _ s = true := fun w h => hts w (List.mem_cons_of_mem _ h)
  have hown : s.vm.findClass "BoardHouseModel" = some m.cls := findClass_of_methodNamed B.named
  have hlocks := B.notSynchronized
  have hS : va_S (hA N0) s.heap s.heap [] := va_S.rf
  have hl := lv_entry ([.long v0]) (n := 5) (Nat.le_of_ble_eq_true rfl)
  rw [lg_entry_eq]
  generalize (lg_sl ([.long v0]) ++ List.replicate (5 - (lg_sl ([.long v0])).length) Slot.unset).toArray = ls at hl ⊢
  have hl : lv_has ls 5 [(0, .long v0)] := hl
  refine lv_iconst (v := 0) hx hb d_Mo_count_0 (by decide) ?_
  refine lv_istore_n (lv' := [(2, .int 0), (0, .long v0)]) hx hb d_Mo_count_1 rfl hl (by decide) rfl (fun ls hl => ?_)
  refine lv_lload_n hx hb d_Mo_count_2 rfl (lv_at hl 1 rfl) ?_
  refine lv_lstore_n (lv' := [(3, .long v0), (2, .int 0), (0, .long v0)]) hx hb d_Mo_count_3 rfl hl (by decide) rfl (fun ls hl => ?_)
  have loop : ∀ (n : Nat) (b0 : Int64) (c0 : Nat) (ls : Array Slot), pcn b0 < n → c0 + pcn b0 = pcn v0 → lv_has ls 5 [(0, .long v0), (2, .int (nI c0)), (3, .long b0)] → W p l e (headSpec (.code y_Mo_count b_Mo_count 5 (some .int) :: WS) ({ frames := 0, cells := 0, slots := 0, locals := 0 })).room s m #[.long v0] below meth c s.heap [] 0 0 (MQ below (va_Qi (fun r V' => r = nI (pcn v0) ∧ V' = V) (mB D N0) (hA N0)) #[.long v0] s 0 0 (hA N0)) (F0 m 4 ls []) := by
    intro n
    induction n with
    | zero => intro b0 c0 ls h; exact absurd h (by omega)
    | succ n ih =>
      intro b0 c0 ls hn hI hl
      refine lv_lload_n hx hb d_Mo_count_4 rfl (lv_at hl 2 rfl) ?_
      refine lv_lconst (v := 0) hx hb d_Mo_count_5 (by decide) ?_
      refine lv_lcmp hx hb d_Mo_count_6 ?_
      refine lv_if_eq (tgt := 22) hx hb d_Mo_count_7 (by decide) (fun c_1 => ?_) (fun c_1 => ?_)
      · refine lv_iload_n hx hb d_Mo_count_22 rfl (lv_at hl 1 rfl) ?_
        rw [lcm_0] at c_1
        subst c_1
        exact W.iret (v := (nI c0)) hx hb hr (fun t9 ht hW => ⟨⟨(nI c0), V, rfl, ⟨by rw [← hI, show pcn 0 = 0 by decide +kernel]; rfl, rfl⟩, mB_of ht hV⟩, hS.F ht⟩) hS.2.2 d_Mo_count_23
      · obtain ⟨i_2, ei_2⟩ : ∃ y : Int32, y = (nI c0) + 1 := ⟨_, rfl⟩
        refine lv_iinc (v := i_2) (lv' := [(2, .int i_2), (0, .long v0), (3, .long b0)]) hx hb d_Mo_count_10 hl (k := 1) rfl (by rw [ei_2]; rfl) (by decide) rfl (fun ls hl => ?_)
        refine lv_lload_n hx hb d_Mo_count_13 rfl (lv_at hl 2 rfl) ?_
        refine lv_lload_n hx hb d_Mo_count_14 rfl (lv_at hl 2 rfl) ?_
        refine lv_lconst (v := 1) hx hb d_Mo_count_15 (by decide) ?_
        refine lv_lsub hx hb d_Mo_count_16 ?_
        refine lv_land hx hb d_Mo_count_17 ?_
        refine lv_lstore_n (lv' := [(3, .long (b0 &&& (b0 - 1))), (2, .int i_2), (0, .long v0)]) hx hb d_Mo_count_18 rfl hl (by decide) rfl (fun ls hl => ?_)
        refine lv_goto (tgt := 4) hx hb d_Mo_count_19 (by decide) ?_
        rw [nI_1] at ei_2
        subst ei_2
        rw [lcm_0] at c_1
        have hp := pcn_low c_1
        exact ih _ (c0 + 1) _ (by omega) (by omega) (lv_sub hl [2, 1, 0] rfl)
  exact loop (pcn v0 + 1) v0 0 _ (by omega) (Nat.zero_add _) (lv_sub hl [2, 1, 0] rfl)
set_option maxHeartbeats 4000000 in
set_option maxRecDepth 100000 in
/-- grow -/
theorem c_Mo_grow (l : Launch) (D : va_G) (N0 : Nat) (k : Nat → Nat) (V : HV) (mo : Nat) (ad : Nat → Nat) (ρ : MS) (hM : mdOk k V mo ad ρ) (la0 : Nat) (hla : la0 < 4) : Met l y_Mo_grow (.code y_Mo_grow b_Mo_grow 7 (some .boolean) :: WS) ({ frames := 1, cells := 0, slots := 0, locals := 25 }) (mP D N0 k [.ref mo, .int (nI la0)] V) (va_Qi (fun r V' => mdOk k V' mo ad (ρ.wL 2 (moGr (ρ.L 1) la0 (ρ.L 2) 24)) ∧ mdFr mo ad V V' ∧ r = bI (anyF (moGm (ρ.L 1) la0 (ρ.L 2)) 0 24)) (mB D N0) (hA N0)) 0 0 (hA N0) := by
  refine Met.ofW (cc := b_Mo_grow) (maxL := 7) (ret := (some .boolean)) (by decide) rfl ?_
  intro p e s m args below meth c s₁ B hml hv0
  obtain ⟨rfl, hG, hV⟩ := hv0
  have hx := B.exec
  have hb := B.bytes
  have hr := B.returns
  have hts := atoms_spec (ws := .code y_Mo_grow b_Mo_grow 7 (some .boolean) :: WS) B.pre
  have hW : ∀ w ∈ WS, w.before _ s = true := fun w h => hts w (List.mem_cons_of_mem _ h)
  have hown : s.vm.findClass "BoardHouseModel" = some m.cls := findClass_of_methodNamed B.named
  have hlocks := B.notSynchronized
  have hS : va_S (hA N0) s.heap s.heap [] := va_S.rf
  have hl := lv_entry ([.ref mo, .int (nI la0)]) (n := 7) (Nat.le_of_ble_eq_true rfl)
  rw [lg_entry_eq]
  generalize (lg_sl ([.ref mo, .int (nI la0)]) ++ List.replicate (7 - (lg_sl ([.ref mo, .int (nI la0)])).length) Slot.unset).toArray = ls at hl ⊢
  have hl : lv_has ls 7 [(0, .ref mo), (1, .int (nI la0))] := hl
  have hm_1 : V mo = some (.inr (7, [.int (ρ.s 0), .int (ρ.s 1), .int (ρ.s 2), .int (ρ.s 3), .ref (ad 0), .ref (ad 1), .ref (ad 2), .ref (ad 3), .ref (ad 4), .ref (ad 5), .ref (ad 6), .ref (ad 7), .ref (ad 8), .int (ρ.s 4), .ref (ad 9), .ref (ad 10), .ref (ad 11), .ref (ad 12), .ref (ad 13), .ref (ad 14), .ref (ad 15), .ref (ad 16), .ref (ad 17), .ref (ad 18), .ref (ad 19), .ref (ad 20), .ref (ad 21), .ref (ad 22), .ref (ad 23), .ref (ad 24), .ref (ad 25)])) := hM.1
  have hm_1_24 : V (ad 24) = some (eL k 96 (ρ.L 1)) := hM.a24
  have hm_1_25 : V (ad 25) = some (eL k 96 (ρ.L 2)) := hM.a25
  refine lv_iconst (v := 0) hx hb d_Mo_grow_0 (by decide) ?_
  refine lv_istore_n (lv' := [(2, .int 0), (0, .ref mo), (1, .int (nI la0))]) hx hb d_Mo_grow_1 rfl hl (by decide) rfl (fun ls hl => ?_)
  refine lv_iconst (v := 0) hx hb d_Mo_grow_2 (by decide) ?_
  refine lv_istore_n (lv' := [(3, .int 0), (2, .int 0), (0, .ref mo), (1, .int (nI la0))]) hx hb d_Mo_grow_3 rfl hl (by decide) rfl (fun ls hl => ?_)
  obtain ⟨Pm, hPm⟩ : ∃ z, z = moGm (ρ.L 1) la0 (ρ.L 2) := ⟨_, rfl⟩
  have loop_2 : ∀ (n i : Nat) (V1 : HV)  (H : Heap) (locs : List Loc) (ls : Array Slot), i ≤ 24 → 24 + 1 ≤ i + n → (mdOk k V1 mo ad (ρ.wL 2 (moGr (ρ.L 1) la0 (ρ.L 2) i)) ∧ mdFr mo ad V V1) → hv D vwCl N0 V1 H → va_S (hA N0) s.heap H locs → lv_has ls 7 [(0, .ref mo), (1, .int (nI la0)), (2, .int (bI (anyF Pm 0 i))), (3, .int (nI i))] → W p l e (headSpec (.code y_Mo_grow b_Mo_grow 7 (some .boolean) :: WS) ({ frames := 1, cells := 0, slots := 0, locals := 25 })).room s m #[.ref mo, .int (nI la0)] below meth c H locs 0 0 (MQ below (va_Qi (fun r V' => mdOk k V' mo ad (ρ.wL 2 (moGr (ρ.L 1) la0 (ρ.L 2) 24)) ∧ mdFr mo ad V V' ∧ r = bI (anyF (moGm (ρ.L 1) la0 (ρ.L 2)) 0 24)) (mB D N0) (hA N0)) #[.ref mo, .int (nI la0)] s 0 0 (hA N0)) (F0 m 4 ls []) := by
    intro n
    induction n with
    | zero => intro i V1  H locs ls h1 h2; exact absurd h2 (by omega)
    | succ n ih =>
      intro i V1  H locs ls hi hin hI hV hS hl
      obtain ⟨hM1, hR1⟩ := hI
      obtain ⟨g, eg⟩ : ∃ z, z = moGr (ρ.L 1) la0 (ρ.L 2) i := ⟨_, rfl⟩
      rw [← eg] at hM1
      have hm_3 : V1 mo = some (.inr (7, [.int (ρ.s 0), .int (ρ.s 1), .int (ρ.s 2), .int (ρ.s 3), .ref (ad 0), .ref (ad 1), .ref (ad 2), .ref (ad 3), .ref (ad 4), .ref (ad 5), .ref (ad 6), .ref (ad 7), .ref (ad 8), .int (ρ.s 4), .ref (ad 9), .ref (ad 10), .ref (ad 11), .ref (ad 12), .ref (ad 13), .ref (ad 14), .ref (ad 15), .ref (ad 16), .ref (ad 17), .ref (ad 18), .ref (ad 19), .ref (ad 20), .ref (ad 21), .ref (ad 22), .ref (ad 23), .ref (ad 24), .ref (ad 25)])) := hM1.1
      have hm_3_24 : V1 (ad 24) = some (eL k 96 (ρ.L 1)) := hM1.a24
      have hm_3_25 : V1 (ad 25) = some (eL k 96 g) := hM1.a25
      refine lv_iload_n hx hb d_Mo_grow_4 rfl (lv_at hl 3 rfl) ?_
      refine lv_bipush (v := 24) hx hb d_Mo_grow_5 (by decide) ?_
      refine lv_icmp_ge (tgt := 119) hx hb d_Mo_grow_7 (by decide) (fun c_4 => ?_) (fun c_4 => ?_)
      · have hge : 24 ≤ i := nI_le' c_4 (by omega) (by omega)
        refine lv_iload_n hx hb d_Mo_grow_119 rfl (lv_at hl 2 rfl) ?_
        exact W.zret (v := (bI (anyF Pm 0 i))) hx hb hr (bI_nar _) (fun t9 ht hW => ⟨⟨(bI (anyF Pm 0 i)), V1, rfl, ⟨by rw [← show i = 24 by omega, ← eg]; exact hM1, hR1, by rw [← hPm, show i = 24 by omega]⟩, mB_of ht hV⟩, hS.F ht⟩) hS.2.2 d_Mo_grow_120
      · have hlt : i < 24 := nI_nle' c_4 (by omega) (by omega)
        refine lv_bipush (v := 24) hx hb d_Mo_grow_10 (by decide) ?_
        refine lv_iload_n hx hb d_Mo_grow_12 rfl (lv_at hl 1 rfl) ?_
        refine lv_imul hx hb d_Mo_grow_13 ?_
        refine lv_iload_n hx hb d_Mo_grow_14 rfl (lv_at hl 3 rfl) ?_
        refine lv_iadd hx hb d_Mo_grow_15 ?_
        refine W.eq (g2 := F0 m 16 ls [.int (nI (24 * la0 + i))]) (by rw [show (24 : Int32) = nI 24 from rfl, nI_mulN, nI_add]) ?_
        refine lv_istore (lv' := [(4, .int (nI (24 * la0 + i))), (0, .ref mo), (1, .int (nI la0)), (2, .int (bI (anyF Pm 0 i))), (3, .int (nI i))]) hx hb d_Mo_grow_16 hl (by decide) rfl (fun ls hl => ?_)
        refine lv_aload_n hx hb d_Mo_grow_18 rfl (lv_at hl 1 rfl) ?_
        refine gf_Mo_91 hx hb hW hown hG hV hm_3 d_Mo_grow_19 ?_
        refine lv_iload hx hb d_Mo_grow_22 (lv_at hl 0 rfl) ?_
        refine hv_lald hx hb hG.K hV 1 hm_3_25 rfl (vp_in_nI (by omega) (by omega)) d_Mo_grow_24 ?_
        rw [nI_clamp (by omega)]
        refine lv_iconst (v := 1) hx hb d_Mo_grow_25 (by decide) ?_
        refine rc_l (va_runS (As := [.long (g (24 * la0 + i)), .int 1]) (rest := []) ⟨hx, hb, hml, hown, hts⟩ (c_Mo_wide l D N0 k V1 (g (24 * la0 + i)) 1 (by omega)) (va_cwS 2 hts (gi_S wm_Mo_210 wt_Mo_wide wi_Mo wc_Mo_wide) rfl rfl rfl (by decide +kernel) ⟨Nat.le_of_ble_eq_true rfl, Nat.le_of_ble_eq_true rfl⟩) (mP.preS hG hS hV) rfl rfl hl.1 rfl (lv_room (Nat.le_of_ble_eq_true rfl)) d_Mo_grow_26 ⟨Nat.le_of_ble_eq_true rfl, Nat.le_of_ble_eq_true rfl⟩) hS (fun H locs hV hS => ?_)
        refine lv_iload_n hx hb d_Mo_grow_29 rfl (lv_at hl 4 rfl) ?_
        have jn_5 : ∀ (ls : Array Slot), lv_has ls 7 [(4, .int (nI (24 * la0 + i))), (0, .ref mo), (1, .int (nI la0)), (2, .int (bI (anyF Pm 0 i))), (3, .int (nI i))] → W p l e (headSpec (.code y_Mo_grow b_Mo_grow 7 (some .boolean) :: WS) ({ frames := 1, cells := 0, slots := 0, locals := 25 })).room s m #[.ref mo, .int (nI la0)] below meth c H locs 0 0 (MQ below (va_Qi (fun r V' => mdOk k V' mo ad (ρ.wL 2 (moGr (ρ.L 1) la0 (ρ.L 2) 24)) ∧ mdFr mo ad V V' ∧ r = bI (anyF (moGm (ρ.L 1) la0 (ρ.L 2)) 0 24)) (mB D N0) (hA N0)) #[.ref mo, .int (nI la0)] s 0 0 (hA N0)) (F0 m 46 ls [.long (if 0 < i then g (24 * la0 + i - 1) else 0), .long (moWd (g (24 * la0 + i)) 1)]) := by
          intro ls hl
          refine lv_lor hx hb d_Mo_grow_46 ?_
          refine lv_iload_n hx hb d_Mo_grow_47 rfl (lv_at hl 4 rfl) ?_
          refine lv_bipush (v := 23) hx hb d_Mo_grow_48 (by decide) ?_
          have jn_6 : ∀ (ls : Array Slot), lv_has ls 7 [(4, .int (nI (24 * la0 + i))), (0, .ref mo), (1, .int (nI la0)), (2, .int (bI (anyF Pm 0 i))), (3, .int (nI i))] → W p l e (headSpec (.code y_Mo_grow b_Mo_grow 7 (some .boolean) :: WS) ({ frames := 1, cells := 0, slots := 0, locals := 25 })).room s m #[.ref mo, .int (nI la0)] below meth c H locs 0 0 (MQ below (va_Qi (fun r V' => mdOk k V' mo ad (ρ.wL 2 (moGr (ρ.L 1) la0 (ρ.L 2) 24)) ∧ mdFr mo ad V V' ∧ r = bI (anyF (moGm (ρ.L 1) la0 (ρ.L 2)) 0 24)) (mB D N0) (hA N0)) #[.ref mo, .int (nI la0)] s 0 0 (hA N0)) (F0 m 66 ls [.long (if i < 23 then g (24 * la0 + i + 1) else 0), .long ((moWd (g (24 * la0 + i)) 1) ||| (if 0 < i then g (24 * la0 + i - 1) else 0))]) := by
            intro ls hl
            refine lv_lor hx hb d_Mo_grow_66 ?_
            refine lv_lstore (lv' := [(5, .long (((moWd (g (24 * la0 + i)) 1) ||| (if 0 < i then g (24 * la0 + i - 1) else 0)) ||| (if i < 23 then g (24 * la0 + i + 1) else 0))), (4, .int (nI (24 * la0 + i))), (0, .ref mo), (1, .int (nI la0)), (2, .int (bI (anyF Pm 0 i))), (3, .int (nI i))]) hx hb d_Mo_grow_67 hl (by decide) rfl (fun ls hl => ?_)
            refine lv_lload hx hb d_Mo_grow_69 (lv_at hl 0 rfl) ?_
            refine lv_aload_n hx hb d_Mo_grow_71 rfl (lv_at hl 2 rfl) ?_
            refine gf_Mo_88 hx hb hW hown hG hV hm_3 d_Mo_grow_72 ?_
            refine lv_iload hx hb d_Mo_grow_75 (lv_at hl 1 rfl) ?_
            refine hv_lald hx hb hG.K hV 1 hm_3_24 rfl (vp_in_nI (by omega) (by omega)) d_Mo_grow_77 ?_
            rw [nI_clamp (by omega)]
            refine lv_land hx hb d_Mo_grow_78 ?_
            refine lv_lstore (lv' := [(5, .long ((((moWd (g (24 * la0 + i)) 1) ||| (if 0 < i then g (24 * la0 + i - 1) else 0)) ||| (if i < 23 then g (24 * la0 + i + 1) else 0)) &&& ((ρ.L 1) (24 * la0 + i)))), (4, .int (nI (24 * la0 + i))), (0, .ref mo), (1, .int (nI la0)), (2, .int (bI (anyF Pm 0 i))), (3, .int (nI i))]) hx hb d_Mo_grow_79 hl (by decide) rfl (fun ls hl => ?_)
            refine lv_iload_n hx hb d_Mo_grow_81 rfl (lv_at hl 4 rfl) ?_
            refine lv_if_ne (tgt := 98) hx hb d_Mo_grow_82 (by decide) (fun c_7 => ?_) (fun c_7 => ?_)
            · refine lv_iconst (v := 1) hx hb d_Mo_grow_98 (by decide) ?_
              refine lv_goto (tgt := 103) hx hb d_Mo_grow_99 (by decide) ?_
              refine lv_istore_n (lv' := [(2, .int 1), (5, .long ((((moWd (g (24 * la0 + i)) 1) ||| (if 0 < i then g (24 * la0 + i - 1) else 0)) ||| (if i < 23 then g (24 * la0 + i + 1) else 0)) &&& ((ρ.L 1) (24 * la0 + i)))), (4, .int (nI (24 * la0 + i))), (0, .ref mo), (1, .int (nI la0)), (3, .int (nI i))]) hx hb d_Mo_grow_103 rfl hl (by decide) rfl (fun ls hl => ?_)
              refine lv_aload_n hx hb d_Mo_grow_104 rfl (lv_at hl 3 rfl) ?_
              refine gf_Mo_91 hx hb hW hown hG hV hm_3 d_Mo_grow_105 ?_
              refine lv_iload hx hb d_Mo_grow_108 (lv_at hl 2 rfl) ?_
              refine lv_lload hx hb d_Mo_grow_110 (lv_at hl 1 rfl) ?_
              refine hv_last hx hb hG.K hV hS 1 hm_3_25 rfl (vp_in_nI (by omega) (by omega)) d_Mo_grow_112 (fun H locs hV hS => ?_)
              rw [nI_clamp (by omega)] at hV
              replace hV : hv D vwCl N0 (hu V1 (ad 25) (eL k 96 (vp_updL g (24 * la0 + i) ((((moWd (g (24 * la0 + i)) 1) ||| (if 0 < i then g (24 * la0 + i - 1) else 0)) ||| (if i < 23 then g (24 * la0 + i + 1) else 0)) &&& ((ρ.L 1) (24 * la0 + i)))))) H := hV
              generalize hV_V_8 : hu V1 (ad 25) (eL k 96 (vp_updL g (24 * la0 + i) ((((moWd (g (24 * la0 + i)) 1) ||| (if 0 < i then g (24 * la0 + i - 1) else 0)) ||| (if i < 23 then g (24 * la0 + i + 1) else 0)) &&& ((ρ.L 1) (24 * la0 + i))))) = V_8 at hV
              have hM_8 : mdOk k V_8 mo ad ((ρ.wL 2 g).wL 2 (vp_updL g (24 * la0 + i) ((((moWd (g (24 * la0 + i)) 1) ||| (if 0 < i then g (24 * la0 + i - 1) else 0)) ||| (if i < 23 then g (24 * la0 + i + 1) else 0)) &&& ((ρ.L 1) (24 * la0 + i))))) := by rw [← hV_V_8]; exact md_setL hM1 2 (by omega) (vp_updL g (24 * la0 + i) ((((moWd (g (24 * la0 + i)) 1) ||| (if 0 < i then g (24 * la0 + i - 1) else 0)) ||| (if i < 23 then g (24 * la0 + i + 1) else 0)) &&& ((ρ.L 1) (24 * la0 + i))))
              have hR_8 : mdFr mo ad V V_8 := by rw [← hV_V_8]; exact hR1.ar (j := 25) (by omega)
              have hm_9 : V_8 mo = some (.inr (7, [.int (ρ.s 0), .int (ρ.s 1), .int (ρ.s 2), .int (ρ.s 3), .ref (ad 0), .ref (ad 1), .ref (ad 2), .ref (ad 3), .ref (ad 4), .ref (ad 5), .ref (ad 6), .ref (ad 7), .ref (ad 8), .int (ρ.s 4), .ref (ad 9), .ref (ad 10), .ref (ad 11), .ref (ad 12), .ref (ad 13), .ref (ad 14), .ref (ad 15), .ref (ad 16), .ref (ad 17), .ref (ad 18), .ref (ad 19), .ref (ad 20), .ref (ad 21), .ref (ad 22), .ref (ad 23), .ref (ad 24), .ref (ad 25)])) := hM_8.1
              have hm_9_24 : V_8 (ad 24) = some (eL k 96 (ρ.L 1)) := hM_8.a24
              have hm_9_25 : V_8 (ad 25) = some (eL k 96 (vp_updL g (24 * la0 + i) ((((moWd (g (24 * la0 + i)) 1) ||| (if 0 < i then g (24 * la0 + i - 1) else 0)) ||| (if i < 23 then g (24 * la0 + i + 1) else 0)) &&& ((ρ.L 1) (24 * la0 + i))))) := hM_8.a25
              obtain ⟨i_10, ei_10⟩ : ∃ y : Int32, y = (nI i) + 1 := ⟨_, rfl⟩
              refine lv_iinc (v := i_10) (lv' := [(3, .int i_10), (2, .int 1), (5, .long ((((moWd (g (24 * la0 + i)) 1) ||| (if 0 < i then g (24 * la0 + i - 1) else 0)) ||| (if i < 23 then g (24 * la0 + i + 1) else 0)) &&& ((ρ.L 1) (24 * la0 + i)))), (4, .int (nI (24 * la0 + i))), (0, .ref mo), (1, .int (nI la0))]) hx hb d_Mo_grow_113 hl (k := 5) rfl (by rw [ei_10]; rfl) (by decide) rfl (fun ls hl => ?_)
              refine lv_goto (tgt := 4) hx hb d_Mo_grow_116 (by decide) ?_
              rw [nI_1] at ei_10
              subst ei_10
              have hPi : Pm i = !decide (grRow (ρ.L 1) g la0 i = g (24 * la0 + i)) := by rw [hPm, moGm, ← eg]
              have hb9 : bI (anyF Pm 0 (i + 1)) = 1 := by rw [anyF_snoc, Nat.zero_add, hPi, grRow]; rw [bI_ne0.mp c_7]; rfl
              exact ih (i + 1) V_8  _ _ _ (by omega) (by omega) (⟨by have q := hM_8; rw [wL_wL] at q; rw [moGr, ← eg]; exact q, hR_8⟩) hV hS (lv_sub hl [4, 5, 1, 0] (by rw [hb9]; rfl))
            · refine lv_lload hx hb d_Mo_grow_85 (lv_at hl 0 rfl) ?_
              refine lv_aload_n hx hb d_Mo_grow_87 rfl (lv_at hl 2 rfl) ?_
              refine gf_Mo_91 hx hb hW hown hG hV hm_3 d_Mo_grow_88 ?_
              refine lv_iload hx hb d_Mo_grow_91 (lv_at hl 1 rfl) ?_
              refine hv_lald hx hb hG.K hV 1 hm_3_25 rfl (vp_in_nI (by omega) (by omega)) d_Mo_grow_93 ?_
              rw [nI_clamp (by omega)]
              refine lv_lcmp hx hb d_Mo_grow_94 ?_
              refine lv_if_eq (tgt := 102) hx hb d_Mo_grow_95 (by decide) (fun c_11 => ?_) (fun c_11 => ?_)
              · refine lv_iconst (v := 0) hx hb d_Mo_grow_102 (by decide) ?_
                refine lv_istore_n (lv' := [(2, .int 0), (5, .long ((((moWd (g (24 * la0 + i)) 1) ||| (if 0 < i then g (24 * la0 + i - 1) else 0)) ||| (if i < 23 then g (24 * la0 + i + 1) else 0)) &&& ((ρ.L 1) (24 * la0 + i)))), (4, .int (nI (24 * la0 + i))), (0, .ref mo), (1, .int (nI la0)), (3, .int (nI i))]) hx hb d_Mo_grow_103 rfl hl (by decide) rfl (fun ls hl => ?_)
                refine lv_aload_n hx hb d_Mo_grow_104 rfl (lv_at hl 3 rfl) ?_
                refine gf_Mo_91 hx hb hW hown hG hV hm_3 d_Mo_grow_105 ?_
                refine lv_iload hx hb d_Mo_grow_108 (lv_at hl 2 rfl) ?_
                refine lv_lload hx hb d_Mo_grow_110 (lv_at hl 1 rfl) ?_
                refine hv_last hx hb hG.K hV hS 1 hm_3_25 rfl (vp_in_nI (by omega) (by omega)) d_Mo_grow_112 (fun H locs hV hS => ?_)
                rw [nI_clamp (by omega)] at hV
                replace hV : hv D vwCl N0 (hu V1 (ad 25) (eL k 96 (vp_updL g (24 * la0 + i) ((((moWd (g (24 * la0 + i)) 1) ||| (if 0 < i then g (24 * la0 + i - 1) else 0)) ||| (if i < 23 then g (24 * la0 + i + 1) else 0)) &&& ((ρ.L 1) (24 * la0 + i)))))) H := hV
                generalize hV_V_12 : hu V1 (ad 25) (eL k 96 (vp_updL g (24 * la0 + i) ((((moWd (g (24 * la0 + i)) 1) ||| (if 0 < i then g (24 * la0 + i - 1) else 0)) ||| (if i < 23 then g (24 * la0 + i + 1) else 0)) &&& ((ρ.L 1) (24 * la0 + i))))) = V_12 at hV
                have hM_12 : mdOk k V_12 mo ad ((ρ.wL 2 g).wL 2 (vp_updL g (24 * la0 + i) ((((moWd (g (24 * la0 + i)) 1) ||| (if 0 < i then g (24 * la0 + i - 1) else 0)) ||| (if i < 23 then g (24 * la0 + i + 1) else 0)) &&& ((ρ.L 1) (24 * la0 + i))))) := by rw [← hV_V_12]; exact md_setL hM1 2 (by omega) (vp_updL g (24 * la0 + i) ((((moWd (g (24 * la0 + i)) 1) ||| (if 0 < i then g (24 * la0 + i - 1) else 0)) ||| (if i < 23 then g (24 * la0 + i + 1) else 0)) &&& ((ρ.L 1) (24 * la0 + i))))
                have hR_12 : mdFr mo ad V V_12 := by rw [← hV_V_12]; exact hR1.ar (j := 25) (by omega)
                have hm_13 : V_12 mo = some (.inr (7, [.int (ρ.s 0), .int (ρ.s 1), .int (ρ.s 2), .int (ρ.s 3), .ref (ad 0), .ref (ad 1), .ref (ad 2), .ref (ad 3), .ref (ad 4), .ref (ad 5), .ref (ad 6), .ref (ad 7), .ref (ad 8), .int (ρ.s 4), .ref (ad 9), .ref (ad 10), .ref (ad 11), .ref (ad 12), .ref (ad 13), .ref (ad 14), .ref (ad 15), .ref (ad 16), .ref (ad 17), .ref (ad 18), .ref (ad 19), .ref (ad 20), .ref (ad 21), .ref (ad 22), .ref (ad 23), .ref (ad 24), .ref (ad 25)])) := hM_12.1
                have hm_13_24 : V_12 (ad 24) = some (eL k 96 (ρ.L 1)) := hM_12.a24
                have hm_13_25 : V_12 (ad 25) = some (eL k 96 (vp_updL g (24 * la0 + i) ((((moWd (g (24 * la0 + i)) 1) ||| (if 0 < i then g (24 * la0 + i - 1) else 0)) ||| (if i < 23 then g (24 * la0 + i + 1) else 0)) &&& ((ρ.L 1) (24 * la0 + i))))) := hM_12.a25
                obtain ⟨i_14, ei_14⟩ : ∃ y : Int32, y = (nI i) + 1 := ⟨_, rfl⟩
                refine lv_iinc (v := i_14) (lv' := [(3, .int i_14), (2, .int 0), (5, .long ((((moWd (g (24 * la0 + i)) 1) ||| (if 0 < i then g (24 * la0 + i - 1) else 0)) ||| (if i < 23 then g (24 * la0 + i + 1) else 0)) &&& ((ρ.L 1) (24 * la0 + i)))), (4, .int (nI (24 * la0 + i))), (0, .ref mo), (1, .int (nI la0))]) hx hb d_Mo_grow_113 hl (k := 5) rfl (by rw [ei_14]; rfl) (by decide) rfl (fun ls hl => ?_)
                refine lv_goto (tgt := 4) hx hb d_Mo_grow_116 (by decide) ?_
                rw [nI_1] at ei_14
                subst ei_14
                have hPi : Pm i = !decide (grRow (ρ.L 1) g la0 i = g (24 * la0 + i)) := by rw [hPm, moGm, ← eg]
                have hb9 : bI (anyF Pm 0 (i + 1)) = 0 := by rw [anyF_snoc, Nat.zero_add, hPi, grRow]; rw [bI_eq0.mp c_7, decide_eq_true (lcm_0.mp c_11)]; rfl
                exact ih (i + 1) V_12  _ _ _ (by omega) (by omega) (⟨by have q := hM_12; rw [wL_wL] at q; rw [moGr, ← eg]; exact q, hR_12⟩) hV hS (lv_sub hl [4, 5, 1, 0] (by rw [hb9]; rfl))
              · refine lv_iconst (v := 1) hx hb d_Mo_grow_98 (by decide) ?_
                refine lv_goto (tgt := 103) hx hb d_Mo_grow_99 (by decide) ?_
                refine lv_istore_n (lv' := [(2, .int 1), (5, .long ((((moWd (g (24 * la0 + i)) 1) ||| (if 0 < i then g (24 * la0 + i - 1) else 0)) ||| (if i < 23 then g (24 * la0 + i + 1) else 0)) &&& ((ρ.L 1) (24 * la0 + i)))), (4, .int (nI (24 * la0 + i))), (0, .ref mo), (1, .int (nI la0)), (3, .int (nI i))]) hx hb d_Mo_grow_103 rfl hl (by decide) rfl (fun ls hl => ?_)
                refine lv_aload_n hx hb d_Mo_grow_104 rfl (lv_at hl 3 rfl) ?_
                refine gf_Mo_91 hx hb hW hown hG hV hm_3 d_Mo_grow_105 ?_
                refine lv_iload hx hb d_Mo_grow_108 (lv_at hl 2 rfl) ?_
                refine lv_lload hx hb d_Mo_grow_110 (lv_at hl 1 rfl) ?_
                refine hv_last hx hb hG.K hV hS 1 hm_3_25 rfl (vp_in_nI (by omega) (by omega)) d_Mo_grow_112 (fun H locs hV hS => ?_)
                rw [nI_clamp (by omega)] at hV
                replace hV : hv D vwCl N0 (hu V1 (ad 25) (eL k 96 (vp_updL g (24 * la0 + i) ((((moWd (g (24 * la0 + i)) 1) ||| (if 0 < i then g (24 * la0 + i - 1) else 0)) ||| (if i < 23 then g (24 * la0 + i + 1) else 0)) &&& ((ρ.L 1) (24 * la0 + i)))))) H := hV
                generalize hV_V_15 : hu V1 (ad 25) (eL k 96 (vp_updL g (24 * la0 + i) ((((moWd (g (24 * la0 + i)) 1) ||| (if 0 < i then g (24 * la0 + i - 1) else 0)) ||| (if i < 23 then g (24 * la0 + i + 1) else 0)) &&& ((ρ.L 1) (24 * la0 + i))))) = V_15 at hV
                have hM_15 : mdOk k V_15 mo ad ((ρ.wL 2 g).wL 2 (vp_updL g (24 * la0 + i) ((((moWd (g (24 * la0 + i)) 1) ||| (if 0 < i then g (24 * la0 + i - 1) else 0)) ||| (if i < 23 then g (24 * la0 + i + 1) else 0)) &&& ((ρ.L 1) (24 * la0 + i))))) := by rw [← hV_V_15]; exact md_setL hM1 2 (by omega) (vp_updL g (24 * la0 + i) ((((moWd (g (24 * la0 + i)) 1) ||| (if 0 < i then g (24 * la0 + i - 1) else 0)) ||| (if i < 23 then g (24 * la0 + i + 1) else 0)) &&& ((ρ.L 1) (24 * la0 + i))))
                have hR_15 : mdFr mo ad V V_15 := by rw [← hV_V_15]; exact hR1.ar (j := 25) (by omega)
                have hm_16 : V_15 mo = some (.inr (7, [.int (ρ.s 0), .int (ρ.s 1), .int (ρ.s 2), .int (ρ.s 3), .ref (ad 0), .ref (ad 1), .ref (ad 2), .ref (ad 3), .ref (ad 4), .ref (ad 5), .ref (ad 6), .ref (ad 7), .ref (ad 8), .int (ρ.s 4), .ref (ad 9), .ref (ad 10), .ref (ad 11), .ref (ad 12), .ref (ad 13), .ref (ad 14), .ref (ad 15), .ref (ad 16), .ref (ad 17), .ref (ad 18), .ref (ad 19), .ref (ad 20), .ref (ad 21), .ref (ad 22), .ref (ad 23), .ref (ad 24), .ref (ad 25)])) := hM_15.1
                have hm_16_24 : V_15 (ad 24) = some (eL k 96 (ρ.L 1)) := hM_15.a24
                have hm_16_25 : V_15 (ad 25) = some (eL k 96 (vp_updL g (24 * la0 + i) ((((moWd (g (24 * la0 + i)) 1) ||| (if 0 < i then g (24 * la0 + i - 1) else 0)) ||| (if i < 23 then g (24 * la0 + i + 1) else 0)) &&& ((ρ.L 1) (24 * la0 + i))))) := hM_15.a25
                obtain ⟨i_17, ei_17⟩ : ∃ y : Int32, y = (nI i) + 1 := ⟨_, rfl⟩
                refine lv_iinc (v := i_17) (lv' := [(3, .int i_17), (2, .int 1), (5, .long ((((moWd (g (24 * la0 + i)) 1) ||| (if 0 < i then g (24 * la0 + i - 1) else 0)) ||| (if i < 23 then g (24 * la0 + i + 1) else 0)) &&& ((ρ.L 1) (24 * la0 + i)))), (4, .int (nI (24 * la0 + i))), (0, .ref mo), (1, .int (nI la0))]) hx hb d_Mo_grow_113 hl (k := 5) rfl (by rw [ei_17]; rfl) (by decide) rfl (fun ls hl => ?_)
                refine lv_goto (tgt := 4) hx hb d_Mo_grow_116 (by decide) ?_
                rw [nI_1] at ei_17
                subst ei_17
                have hPi : Pm i = !decide (grRow (ρ.L 1) g la0 i = g (24 * la0 + i)) := by rw [hPm, moGm, ← eg]
                have hb9 : bI (anyF Pm 0 (i + 1)) = 1 := by rw [anyF_snoc, Nat.zero_add, hPi, grRow]; rw [bI_eq0.mp c_7, decide_eq_false (fun q => c_11 (lcm_0.mpr q))]; rfl
                exact ih (i + 1) V_15  _ _ _ (by omega) (by omega) (⟨by have q := hM_15; rw [wL_wL] at q; rw [moGr, ← eg]; exact q, hR_15⟩) hV hS (lv_sub hl [4, 5, 1, 0] (by rw [hb9]; rfl))
          refine lv_icmp_ge (tgt := 65) hx hb d_Mo_grow_50 (by decide) (fun c_18 => ?_) (fun c_18 => ?_)
          · refine lv_lconst (v := 0) hx hb d_Mo_grow_65 (by decide) ?_
            have hE : (if i < 23 then g (24 * la0 + i + 1) else 0) = 0 := by rw [if_neg (fun z => absurd (nI_le' (a := 23) (b := i) c_18 (by decide) (by omega)) (by omega))]
            refine W.eq (g2 := F0 m 66 ls [.long (if i < 23 then g (24 * la0 + i + 1) else 0), .long ((moWd (g (24 * la0 + i)) 1) ||| (if 0 < i then g (24 * la0 + i - 1) else 0))]) (by rw [hE]) ?_
            exact jn_6 _ (lv_sub hl [0, 1, 2, 3, 4] rfl)
          · refine lv_aload_n hx hb d_Mo_grow_53 rfl (lv_at hl 1 rfl) ?_
            refine gf_Mo_91 hx hb hW hown hG hV hm_3 d_Mo_grow_54 ?_
            refine lv_iload hx hb d_Mo_grow_57 (lv_at hl 0 rfl) ?_
            refine lv_iconst (v := 1) hx hb d_Mo_grow_59 (by decide) ?_
            refine lv_iadd hx hb d_Mo_grow_60 ?_
            have hi23 : i < 23 := nI_nle' (a := 23) (b := i) c_18 (by decide) (by omega)
            refine W.eq (g2 := F0 m 61 ls [.int (nI (24 * la0 + i + 1)), .ref (ad 25), .long ((moWd (g (24 * la0 + i)) 1) ||| (if 0 < i then g (24 * la0 + i - 1) else 0))]) (by rw [nI_1]) ?_
            refine hv_lald hx hb hG.K hV 1 hm_3_25 rfl (vp_in_nI (by omega) (by omega)) d_Mo_grow_61 ?_
            rw [nI_clamp (by omega)]
            refine lv_goto (tgt := 66) hx hb d_Mo_grow_62 (by decide) ?_
            have hE : (if i < 23 then g (24 * la0 + i + 1) else 0) = (g (24 * la0 + i + 1)) := by rw [if_pos hi23]
            refine W.eq (g2 := F0 m 66 ls [.long (if i < 23 then g (24 * la0 + i + 1) else 0), .long ((moWd (g (24 * la0 + i)) 1) ||| (if 0 < i then g (24 * la0 + i - 1) else 0))]) (by rw [hE]) ?_
            exact jn_6 _ (lv_sub hl [0, 1, 2, 3, 4] rfl)
        refine lv_if_le (tgt := 45) hx hb d_Mo_grow_30 (by decide) (fun c_19 => ?_) (fun c_19 => ?_)
        · refine lv_lconst (v := 0) hx hb d_Mo_grow_45 (by decide) ?_
          have hE : (if 0 < i then g (24 * la0 + i - 1) else 0) = 0 := by rw [if_neg (fun z => absurd (nI_le' (a := i) (b := 0) c_19 (by omega) (by decide)) (by omega))]
          refine W.eq (g2 := F0 m 46 ls [.long (if 0 < i then g (24 * la0 + i - 1) else 0), .long (moWd (g (24 * la0 + i)) 1)]) (by rw [hE]) ?_
          exact jn_5 _ (lv_sub hl [0, 1, 2, 3, 4] rfl)
        · refine lv_aload_n hx hb d_Mo_grow_33 rfl (lv_at hl 1 rfl) ?_
          refine gf_Mo_91 hx hb hW hown hG hV hm_3 d_Mo_grow_34 ?_
          refine lv_iload hx hb d_Mo_grow_37 (lv_at hl 0 rfl) ?_
          refine lv_iconst (v := 1) hx hb d_Mo_grow_39 (by decide) ?_
          refine lv_isub hx hb d_Mo_grow_40 ?_
          have hip : 0 < i := nI_nle' (a := i) (b := 0) c_19 (by omega) (by decide)
          refine W.eq (g2 := F0 m 41 ls [.int (nI (24 * la0 + i - 1)), .ref (ad 25), .long (moWd (g (24 * la0 + i)) 1)]) (by rw [nI_sb (by omega)]) ?_
          refine hv_lald hx hb hG.K hV 1 hm_3_25 rfl (vp_in_nI (by omega) (by omega)) d_Mo_grow_41 ?_
          rw [nI_clamp (by omega)]
          refine lv_goto (tgt := 46) hx hb d_Mo_grow_42 (by decide) ?_
          have hE : (if 0 < i then g (24 * la0 + i - 1) else 0) = (g (24 * la0 + i - 1)) := by rw [if_pos hip]
          refine W.eq (g2 := F0 m 46 ls [.long (if 0 < i then g (24 * la0 + i - 1) else 0), .long (moWd (g (24 * la0 + i)) 1)]) (by rw [hE]) ?_
          exact jn_5 _ (lv_sub hl [0, 1, 2, 3, 4] rfl)
  exact loop_2 (24 + 1 - 0) 0 V  _ _ _ (by omega) (by omega) (⟨by show mdOk k _ mo ad (ρ.wL 2 (ρ.L 2)); rw [wL_self]; exact hM, mdFr.rf (mo := mo) (ad := ad) (V := V)⟩) hV hS (lv_sub hl [2, 3, 1, 0] rfl)
