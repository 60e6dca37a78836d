/-! the model: layLayer -/
def clR (g : Nat → Int64) (v : Int64) (a n : Nat) : Nat → Int64 := fun j => if a ≤ j ∧ j < a + n then v else g j
theorem clR_s {g : Nat → Int64} {v : Int64} {a i : Nat} (h : a ≤ i) : vp_updL (clR g v a (i - a)) i v = clR g v a (i + 1 - a) := by
  funext j
  simp only [vp_updL, clR]
  by_cases hj : j = i
  · rw [if_pos hj, if_pos (by omega)]
  · rw [if_neg hj]
    by_cases h2 : a ≤ j ∧ j < a + (i - a)
    · rw [if_pos h2, if_pos (by omega)]
    · rw [if_neg h2, if_neg (by omega)]
theorem clR_0 {g : Nat → Int64} {v : Int64} {a i : Nat} (h : i = a) : clR g v a (i - a) = g := by
  funext j; simp only [clR]; rw [if_neg (by omega)]
def orR (g : Nat → Int64) (v : Int64) (a n : Nat) : Nat → Int64 := fun j => if a ≤ j ∧ j < a + n then g j ||| v else g j
theorem orR_s {g : Nat → Int64} {v : Int64} {b y i : Nat} (h : y ≤ i) : vp_updL (orR g v (b + y) (i - y)) (b + i) (orR g v (b + y) (i - y) (b + i) ||| v) = orR g v (b + y) (i + 1 - y) := by
  funext j
  simp only [vp_updL, orR]
  by_cases hj : j = b + i
  · rw [if_pos hj, if_neg (by omega), if_pos (by omega), hj]
  · rw [if_neg hj]
    by_cases h2 : b + y ≤ j ∧ j < b + y + (i - y)
    · rw [if_pos h2, if_pos (by omega)]
    · rw [if_neg h2, if_neg (by omega)]
theorem orR_0 {g : Nat → Int64} {v : Int64} {a y i : Nat} (h : i = y) : orR g v a (i - y) = g := by
  funext j; simp only [orR]; rw [if_neg (by omega)]
def anR (g : Nat → Int64) (v : Int64) (lo hi : Nat) : Nat → Int64 := fun j => if lo ≤ j ∧ j < hi then g j &&& v else g j
theorem anR_0 {g : Nat → Int64} {v : Int64} {lo hi : Nat} (h : hi ≤ lo) : anR g v lo hi = g := by
  funext j; simp only [anR]; rw [if_neg (by omega)]
theorem anR_s {g : Nat → Int64} {v : Int64} {lo hi : Nat} (h : lo ≤ hi) : vp_updL (anR g v lo hi) hi (anR g v lo hi hi &&& v) = anR g v lo (hi + 1) := by
  funext j
  simp only [vp_updL, anR]
  by_cases hj : j = hi
  · rw [if_pos hj, if_neg (by omega), if_pos (by omega), hj]
  · rw [if_neg hj]
    by_cases h2 : lo ≤ j ∧ j < hi
    · rw [if_pos h2, if_pos (by omega)]
    · rw [if_neg h2, if_neg (by omega)]
def yq (ρ : MS) (t : Nat) : Nat := (ρ.I 3 t).toNatClampNeg
def hq (ρ : MS) (t : Nat) : Nat := (ρ.I 5 t).toNatClampNeg
def moLL (ρ : MS) (ne : Int32) (la g : Nat) : Nat → (Nat → Int64) × (Nat → Int64)
  | 0 => (clR (ρ.L 0) 0 (24 * la) 24, clR (ρ.L 1) 4294967295 (24 * la) 24)
  | n + 1 => if (moCop ρ.I (20 + n) && moOn ρ.I (20 + n) (nI la)) = true then
      (if ρ.I 7 (20 + n) = ne then (orR (moLL ρ ne la g n).1 (moSpan (ρ.I 2 (20 + n)) (ρ.I 4 (20 + n))) (24 * la + yq ρ (20 + n)) (hq ρ (20 + n)), (moLL ρ ne la g n).2)
      else ((moLL ρ ne la g n).1, anR (moLL ρ ne la g n).2 (moWd (moSpan (ρ.I 2 (20 + n)) (ρ.I 4 (20 + n))) g ^^^ -1) (24 * la + (yq ρ (20 + n) - g)) (24 * la + min 24 (yq ρ (20 + n) + hq ρ (20 + n) + g)))) else moLL ρ ne la g n
/-- copper lies within the rows -/
def moCv (ρ : MS) : Prop := ∀ t, 20 ≤ t → t < 140 → moCop ρ.I t = true → ρ.I 3 t = nI (yq ρ t) ∧ ρ.I 5 t = nI (hq ρ t) ∧ yq ρ t + hq ρ t ≤ 24
theorem wL_w2 {ρ : MS} {a b a' b' : Nat → Int64} : (((ρ.wL 0 a).wL 1 b).wL 0 a').wL 1 b' = (ρ.wL 0 a').wL 1 b' := by
  have : updQ (updQ (updQ (updQ ρ.L 0 a) 1 b) 0 a') 1 b' = updQ (updQ ρ.L 0 a') 1 b' := by
    funext q
    by_cases h1 : q = 1
    · subst h1; rw [uQ_s, uQ_s]
    · by_cases h0 : q = 0
      · subst h0; rw [uQ_n h1, uQ_s, uQ_n h1, uQ_s]
      · rw [uQ_n h1, uQ_n h0, uQ_n h1, uQ_n h0, uQ_n h1, uQ_n h0]
  show (ρ.s, ρ.I, updQ (updQ (updQ (updQ ρ.L 0 a) 1 b) 0 a') 1 b') = (ρ.s, ρ.I, updQ (updQ ρ.L 0 a') 1 b')
  rw [this]
theorem wL_w0 {ρ : MS} {a b a' : Nat → Int64} : ((ρ.wL 0 a).wL 1 b).wL 0 a' = (ρ.wL 0 a').wL 1 b := by
  have : updQ (updQ (updQ ρ.L 0 a) 1 b) 0 a' = updQ (updQ ρ.L 0 a') 1 b := by
    funext q
    by_cases h1 : q = 1
    · subst h1; rw [uQ_n (by omega), uQ_s, uQ_s]
    · by_cases h0 : q = 0
      · subst h0; rw [uQ_s, uQ_n h1, uQ_s]
      · rw [uQ_n h0, uQ_n h1, uQ_n h0, uQ_n h1, uQ_n h0]
  show (ρ.s, ρ.I, updQ (updQ (updQ ρ.L 0 a) 1 b) 0 a') = (ρ.s, ρ.I, updQ (updQ ρ.L 0 a') 1 b)
  rw [this]
theorem nI_sbN {a b : Nat} (h : b ≤ a) : nI a - nI b = nI (a - b) := by
  obtain ⟨d, rfl⟩ : ∃ d, a = d + b := ⟨a - b, by omega⟩
  rw [Nat.add_sub_cancel, ← nI_add, Int32.add_sub_cancel]
theorem sb_1 (a b : Nat) : nI a - nI b + 1 = nI (a + 1) - nI b := by
  rw [← nI_1]
  rw [Int32.sub_eq_add_neg, Int32.sub_eq_add_neg, Int32.add_assoc, Int32.add_comm (-nI b) 1, ← Int32.add_assoc]
theorem cmpB : ∀ g, g < 5 → ∀ j, j < 40 → ∀ A, A < 40 → decide (nI A ≤ nI j - nI g) = decide (A + g ≤ j) := by decide +kernel
theorem cmp_t {A j g : Nat} (hg : g < 5) (hj : j < 40) (hA : A < 40) (h : nI A ≤ nI j - nI g) : A + g ≤ j := by
  have := cmpB g hg j hj A hA
  rw [decide_eq_true h] at this
  exact of_decide_eq_true this.symm
theorem cmp_f {A j g : Nat} (hg : g < 5) (hj : j < 40) (hA : A < 40) (h : ¬ nI A ≤ nI j - nI g) : j < A + g := by
  have := cmpB g hg j hj A hA
  rw [decide_eq_false h] at this
  have := of_decide_eq_false this.symm
  omega
theorem ll_f {ρ : MS} {ne : Int32} {la g i : Nat} (h20 : 20 ≤ i) (h : (moCop ρ.I i && moOn ρ.I i (nI la)) = false) : moLL ρ ne la g (i + 1 - 20) = moLL ρ ne la g (i - 20) := by
  rw [show i + 1 - 20 = (i - 20) + 1 by omega, moLL, show 20 + (i - 20) = i by omega, h, if_neg Bool.false_ne_true]
theorem ll_o {ρ : MS} {ne : Int32} {la g i : Nat} (h20 : 20 ≤ i) (h : (moCop ρ.I i && moOn ρ.I i (nI la)) = true) (hn : ρ.I 7 i = ne) : moLL ρ ne la g (i + 1 - 20) = (orR (moLL ρ ne la g (i - 20)).1 (moSpan (ρ.I 2 i) (ρ.I 4 i)) (24 * la + yq ρ i) (hq ρ i), (moLL ρ ne la g (i - 20)).2) := by
  rw [show i + 1 - 20 = (i - 20) + 1 by omega, moLL, show 20 + (i - 20) = i by omega, if_pos h, if_pos hn]
theorem ll_a {ρ : MS} {ne : Int32} {la g i : Nat} (h20 : 20 ≤ i) (h : (moCop ρ.I i && moOn ρ.I i (nI la)) = true) (hn : ¬ ρ.I 7 i = ne) : moLL ρ ne la g (i + 1 - 20) = ((moLL ρ ne la g (i - 20)).1, anR (moLL ρ ne la g (i - 20)).2 (moWd (moSpan (ρ.I 2 i) (ρ.I 4 i)) g ^^^ -1) (24 * la + (yq ρ i - g)) (24 * la + min 24 (yq ρ i + hq ρ i + g))) := by
  rw [show i + 1 - 20 = (i - 20) + 1 by omega, moLL, show 20 + (i - 20) = i by omega, if_pos h, if_neg hn]
set_option maxHeartbeats 4000000 in
set_option maxRecDepth 100000 in
/-- layLayer -/
theorem c_Mo_layLayer (l : Launch) (D : va_G) (N0 : Nat) (k : Nat → Nat) (V : HV) (mo : Nat) (ad : Nat → Nat) (ρ : MS) (hM : mdOk k V mo ad ρ) (ne : Int32) (la0 g0 : Nat) (hla : la0 < 4) (hg5 : g0 < 5) (hg0 : ρ.s 2 = nI g0) (hCv : moCv ρ) : Met l y_Mo_layLayer (.code y_Mo_layLayer b_Mo_layLayer 7 none :: WS) ({ frames := 2, cells := 0, slots := 0, locals := 42 }) (mP D N0 k [.ref mo, .int ne, .int (nI la0)] V) (va_Qv (fun V' => mdOk k V' mo ad ((ρ.wL 0 (moLL ρ ne la0 g0 120).1).wL 1 (moLL ρ ne la0 g0 120).2) ∧ mdFr mo ad V V') (mB D N0) (hA N0)) 0 0 (hA N0) := by
  refine Met.ofW (cc := b_Mo_layLayer) (maxL := 7) (ret := none) (by decide) rfl ?_
  intro p e s m args below meth c s₁ B hml hv0
  obtain ⟨rfl, hG, hV⟩ := hv0
  have hx := B.exec
  have hb := B.bytes
  have hr := B.returns
  have hts := atoms_spec (ws := .code y_Mo_layLayer b_Mo_layLayer 7 none :: WS) B.pre
  have hW : ∀ w ∈ WS, w.before _ s = true := fun w h => hts w (List.mem_cons_of_mem _ h)
  have hown : s.vm.findClass "BoardHouseModel" = some m.cls := findClass_of_methodNamed B.named
  have hlocks := B.notSynchronized
  have hS : va_S (hA N0) s.heap s.heap [] := va_S.rf
  have hl := lv_entry ([.ref mo, .int ne, .int (nI la0)]) (n := 7) (Nat.le_of_ble_eq_true rfl)
  rw [lg_entry_eq]
  generalize (lg_sl ([.ref mo, .int ne, .int (nI la0)]) ++ List.replicate (7 - (lg_sl ([.ref mo, .int ne, .int (nI la0)])).length) Slot.unset).toArray = ls at hl ⊢
  have hl : lv_has ls 7 [(0, .ref mo), (1, .int ne), (2, .int (nI la0))] := hl
  have hm_1 : V mo = some (.inr (7, [.int (ρ.s 0), .int (ρ.s 1), .int (ρ.s 2), .int (ρ.s 3), .ref (ad 0), .ref (ad 1), .ref (ad 2), .ref (ad 3), .ref (ad 4), .ref (ad 5), .ref (ad 6), .ref (ad 7), .ref (ad 8), .int (ρ.s 4), .ref (ad 9), .ref (ad 10), .ref (ad 11), .ref (ad 12), .ref (ad 13), .ref (ad 14), .ref (ad 15), .ref (ad 16), .ref (ad 17), .ref (ad 18), .ref (ad 19), .ref (ad 20), .ref (ad 21), .ref (ad 22), .ref (ad 23), .ref (ad 24), .ref (ad 25)])) := hM.1
  have hm_1_2 : V (ad 2) = some (eI k 150 (ρ.I 2)) := hM.a2
  have hm_1_3 : V (ad 3) = some (eI k 150 (ρ.I 3)) := hM.a3
  have hm_1_4 : V (ad 4) = some (eI k 150 (ρ.I 4)) := hM.a4
  have hm_1_5 : V (ad 5) = some (eI k 150 (ρ.I 5)) := hM.a5
  have hm_1_7 : V (ad 7) = some (eI k 150 (ρ.I 7)) := hM.a7
  have hm_1_23 : V (ad 23) = some (eL k 96 (ρ.L 0)) := hM.a23
  have hm_1_24 : V (ad 24) = some (eL k 96 (ρ.L 1)) := hM.a24
  refine lv_bipush (v := 24) hx hb d_Mo_layLayer_0 (by decide) ?_
  refine lv_iload_n hx hb d_Mo_layLayer_2 rfl (lv_at hl 2 rfl) ?_
  refine lv_imul hx hb d_Mo_layLayer_3 ?_
  refine W.eq (g2 := F0 m 4 ls [.int (nI (24 * la0))]) (by rw [show (24 : Int32) = nI 24 from rfl, nI_mulN]) ?_
  refine lv_istore_n (lv' := [(3, .int (nI (24 * la0))), (0, .ref mo), (1, .int ne), (2, .int (nI la0))]) hx hb d_Mo_layLayer_4 rfl hl (by decide) rfl (fun ls hl => ?_)
  have loop_2 : ∀ (n i : Nat) (V1 : HV) (o f : Nat → Int64) (H : Heap) (locs : List Loc) (ls : Array Slot), i ≤ (24 * la0 + 24) → (24 * la0 + 24) + 1 ≤ i + n → (mdOk k V1 mo ad ((ρ.wL 0 o).wL 1 f) ∧ mdFr mo ad V V1 ∧ o = clR (ρ.L 0) 0 (24 * la0) (i - 24 * la0) ∧ f = clR (ρ.L 1) 4294967295 (24 * la0) (i - 24 * la0) ∧ 24 * la0 ≤ i) → hv D vwCl N0 V1 H → va_S (hA N0) s.heap H locs → lv_has ls 7 [(0, .ref mo), (1, .int ne), (2, .int (nI la0)), (3, .int (nI i))] → W p l e (headSpec (.code y_Mo_layLayer b_Mo_layLayer 7 none :: WS) ({ frames := 2, cells := 0, slots := 0, locals := 42 })).room s m #[.ref mo, .int ne, .int (nI la0)] below meth c H locs 0 0 (MQ below (va_Qv (fun V' => mdOk k V' mo ad ((ρ.wL 0 (moLL ρ ne la0 g0 120).1).wL 1 (moLL ρ ne la0 g0 120).2) ∧ mdFr mo ad V V') (mB D N0) (hA N0)) #[.ref mo, .int ne, .int (nI la0)] s 0 0 (hA N0)) (F0 m 5 ls []) := by
    intro n
    induction n with
    | zero => intro i V1 o f H locs ls h1 h2; exact absurd h2 (by omega)
    | succ n ih =>
      intro i V1 o f H locs ls hi hin hI hV hS hl
      obtain ⟨hM1, hR1, ho1, hf1, hi24⟩ := hI
      have hm_3 : V1 mo = some (.inr (7, [.int (ρ.s 0), .int (ρ.s 1), .int (ρ.s 2), .int (ρ.s 3), .ref (ad 0), .ref (ad 1), .ref (ad 2), .ref (ad 3), .ref (ad 4), .ref (ad 5), .ref (ad 6), .ref (ad 7), .ref (ad 8), .int (ρ.s 4), .ref (ad 9), .ref (ad 10), .ref (ad 11), .ref (ad 12), .ref (ad 13), .ref (ad 14), .ref (ad 15), .ref (ad 16), .ref (ad 17), .ref (ad 18), .ref (ad 19), .ref (ad 20), .ref (ad 21), .ref (ad 22), .ref (ad 23), .ref (ad 24), .ref (ad 25)])) := hM1.1
      have hm_3_2 : V1 (ad 2) = some (eI k 150 (ρ.I 2)) := hM1.a2
      have hm_3_3 : V1 (ad 3) = some (eI k 150 (ρ.I 3)) := hM1.a3
      have hm_3_4 : V1 (ad 4) = some (eI k 150 (ρ.I 4)) := hM1.a4
      have hm_3_5 : V1 (ad 5) = some (eI k 150 (ρ.I 5)) := hM1.a5
      have hm_3_7 : V1 (ad 7) = some (eI k 150 (ρ.I 7)) := hM1.a7
      have hm_3_23 : V1 (ad 23) = some (eL k 96 o) := hM1.a23
      have hm_3_24 : V1 (ad 24) = some (eL k 96 f) := hM1.a24
      refine lv_iload_n hx hb d_Mo_layLayer_5 rfl (lv_at hl 3 rfl) ?_
      refine lv_bipush (v := 24) hx hb d_Mo_layLayer_6 (by decide) ?_
      refine lv_iload_n hx hb d_Mo_layLayer_8 rfl (lv_at hl 2 rfl) ?_
      refine lv_imul hx hb d_Mo_layLayer_9 ?_
      refine lv_bipush (v := 24) hx hb d_Mo_layLayer_10 (by decide) ?_
      refine lv_iadd hx hb d_Mo_layLayer_12 ?_
      refine W.eq (g2 := F0 m 13 ls [.int (nI (24 * la0 + 24)), .int (nI i)]) (by rw [show (24 : Int32) = nI 24 from rfl, nI_mulN, nI_add]) ?_
      refine lv_icmp_ge (tgt := 38) hx hb d_Mo_layLayer_13 (by decide) (fun c_4 => ?_) (fun c_4 => ?_)
      · have hge : (24 * la0 + 24) ≤ i := nI_le' (a := (24 * la0 + 24)) (b := i) c_4 (by omega) (by omega)
        refine lv_bipush (v := 20) hx hb d_Mo_layLayer_38 (by decide) ?_
        refine lv_istore_n (lv' := [(3, .int 20), (0, .ref mo), (1, .int ne), (2, .int (nI la0))]) hx hb d_Mo_layLayer_40 rfl hl (by decide) rfl (fun ls hl => ?_)
        have loop_5 : ∀ (nz iz : Nat) (V1z : HV) (oz fz : Nat → Int64) (H : Heap) (locs : List Loc) (ls : Array Slot), iz ≤ 140 → 140 + 1 ≤ iz + nz → (mdOk k V1z mo ad ((ρ.wL 0 oz).wL 1 fz) ∧ mdFr mo ad V V1z ∧ (oz, fz) = moLL ρ ne la0 g0 (iz - 20) ∧ 20 ≤ iz) → hv D vwCl N0 V1z H → va_S (hA N0) s.heap H locs → lv_has ls 7 [(0, .ref mo), (1, .int ne), (2, .int (nI la0)), (3, .int (nI iz))] → W p l e (headSpec (.code y_Mo_layLayer b_Mo_layLayer 7 none :: WS) ({ frames := 2, cells := 0, slots := 0, locals := 42 })).room s m #[.ref mo, .int ne, .int (nI la0)] below meth c H locs 0 0 (MQ below (va_Qv (fun V' => mdOk k V' mo ad ((ρ.wL 0 (moLL ρ ne la0 g0 120).1).wL 1 (moLL ρ ne la0 g0 120).2) ∧ mdFr mo ad V V') (mB D N0) (hA N0)) #[.ref mo, .int ne, .int (nI la0)] s 0 0 (hA N0)) (F0 m 41 ls []) := by
          intro nz
          induction nz with
          | zero => intro iz V1z oz fz H locs ls h1 h2; exact absurd h2 (by omega)
          | succ nz ihz =>
            intro iz V1z oz fz H locs ls hiz hinz hIz hV hS hl
            obtain ⟨hMz, hRz, hpz, h20⟩ := hIz
            have hm_6 : V1z mo = some (.inr (7, [.int (ρ.s 0), .int (ρ.s 1), .int (ρ.s 2), .int (ρ.s 3), .ref (ad 0), .ref (ad 1), .ref (ad 2), .ref (ad 3), .ref (ad 4), .ref (ad 5), .ref (ad 6), .ref (ad 7), .ref (ad 8), .int (ρ.s 4), .ref (ad 9), .ref (ad 10), .ref (ad 11), .ref (ad 12), .ref (ad 13), .ref (ad 14), .ref (ad 15), .ref (ad 16), .ref (ad 17), .ref (ad 18), .ref (ad 19), .ref (ad 20), .ref (ad 21), .ref (ad 22), .ref (ad 23), .ref (ad 24), .ref (ad 25)])) := hMz.1
            have hm_6_2 : V1z (ad 2) = some (eI k 150 (ρ.I 2)) := hMz.a2
            have hm_6_3 : V1z (ad 3) = some (eI k 150 (ρ.I 3)) := hMz.a3
            have hm_6_4 : V1z (ad 4) = some (eI k 150 (ρ.I 4)) := hMz.a4
            have hm_6_5 : V1z (ad 5) = some (eI k 150 (ρ.I 5)) := hMz.a5
            have hm_6_7 : V1z (ad 7) = some (eI k 150 (ρ.I 7)) := hMz.a7
            have hm_6_23 : V1z (ad 23) = some (eL k 96 oz) := hMz.a23
            have hm_6_24 : V1z (ad 24) = some (eL k 96 fz) := hMz.a24
            refine lv_iload_n hx hb d_Mo_layLayer_41 rfl (lv_at hl 3 rfl) ?_
            refine lv_sipush (v := 140) hx hb d_Mo_layLayer_42 (by decide) ?_
            refine lv_icmp_ge (tgt := 255) hx hb d_Mo_layLayer_45 (by decide) (fun c_7 => ?_) (fun c_7 => ?_)
            · have hgez : 140 ≤ iz := nI_le' (a := 140) (b := iz) c_7 (by decide) (by omega)
              exact W.vret hx hb hr (fun t9 ht hW => ⟨⟨V1z, rfl, ⟨by rw [← show iz - 20 = 120 by omega, ← hpz]; exact hMz, hRz⟩, mB_of ht hV⟩, hS.F ht⟩) hS.2.2 d_Mo_layLayer_255
            · have hltz : iz < 140 := nI_nle' (a := 140) (b := iz) c_7 (by decide) (by omega)
              refine lv_aload_n hx hb d_Mo_layLayer_48 rfl (lv_at hl 0 rfl) ?_
              refine lv_iload_n hx hb d_Mo_layLayer_49 rfl (lv_at hl 3 rfl) ?_
              refine rc_i (va_runV (As := [.int (nI iz)]) (rest := []) ⟨hx, hb, hml, hown, hts⟩ (c_Mo_isCopper l D N0 k V1z mo ad ((ρ.wL 0 oz).wL 1 fz) hMz iz (by omega)) (cwV 1 hts (gi_V wm_Mo_133 wv_Mo_isCopper ws_Mo_isCopper wi_Mo wc_Mo_isCopper) rfl rfl rfl (by decide +kernel) ⟨Nat.le_of_ble_eq_true rfl, Nat.le_of_ble_eq_true rfl⟩) (mP.preV hG hS hV hm_6 rfl) rfl rfl hl.1 rfl (lv_room (Nat.le_of_ble_eq_true rfl)) d_Mo_layLayer_50 ⟨Nat.le_of_ble_eq_true rfl, Nat.le_of_ble_eq_true rfl⟩) hS (fun H locs hV hS => ?_)
              refine W.eq (g2 := F0 m 53 ls [.int (bI (moCop ρ.I iz))]) rfl ?_
              refine lv_if_eq (tgt := 249) hx hb d_Mo_layLayer_53 (by decide) (fun c_8 => ?_) (fun c_8 => ?_)
              · obtain ⟨i_9, ei_9⟩ : ∃ y : Int32, y = (nI iz) + 1 := ⟨_, rfl⟩
                refine lv_iinc (v := i_9) (lv' := [(3, .int i_9), (0, .ref mo), (1, .int ne), (2, .int (nI la0))]) hx hb d_Mo_layLayer_249 hl (k := 3) rfl (by rw [ei_9]; rfl) (by decide) rfl (fun ls hl => ?_)
                refine lv_goto (tgt := 41) hx hb d_Mo_layLayer_252 (by decide) ?_
                rw [nI_1] at ei_9
                subst ei_9
                try simp only [bI_ne0, bI_eq0, decide_eq_true_eq, decide_eq_false_iff_not, Bool.not_eq_false, Bool.not_eq_true, Decidable.not_not] at c_4
                try simp only [bI_ne0, bI_eq0, decide_eq_true_eq, decide_eq_false_iff_not, Bool.not_eq_false, Bool.not_eq_true, Decidable.not_not] at c_7
                try simp only [bI_ne0, bI_eq0, decide_eq_true_eq, decide_eq_false_iff_not, Bool.not_eq_false, Bool.not_eq_true, Decidable.not_not] at c_8
                exact ihz (iz + 1) V1z oz fz _ _ _ (by omega) (by omega) (⟨hMz, hRz, by rw [ll_f h20 (by simp [c_8])]; exact hpz, by omega⟩) hV hS (lv_sub hl [1, 2, 3, 0] rfl)
              · refine lv_aload_n hx hb d_Mo_layLayer_56 rfl (lv_at hl 0 rfl) ?_
                refine lv_iload_n hx hb d_Mo_layLayer_57 rfl (lv_at hl 3 rfl) ?_
                refine lv_iload_n hx hb d_Mo_layLayer_58 rfl (lv_at hl 2 rfl) ?_
                refine rc_i (va_runV (As := [.int (nI iz), .int (nI la0)]) (rest := []) ⟨hx, hb, hml, hown, hts⟩ (c_Mo_isOn l D N0 k V1z mo ad ((ρ.wL 0 oz).wL 1 fz) hMz iz (by omega) (nI la0)) (cwV 2 hts (gi_V wm_Mo_203 wv_Mo_isOn ws_Mo_isOn wi_Mo wc_Mo_isOn) rfl rfl rfl (by decide +kernel) ⟨Nat.le_of_ble_eq_true rfl, Nat.le_of_ble_eq_true rfl⟩) (mP.preV hG hS hV hm_6 rfl) rfl rfl hl.1 rfl (lv_room (Nat.le_of_ble_eq_true rfl)) d_Mo_layLayer_59 ⟨Nat.le_of_ble_eq_true rfl, Nat.le_of_ble_eq_true rfl⟩) hS (fun H locs hV hS => ?_)
                refine W.eq (g2 := F0 m 62 ls [.int (bI (moOn ρ.I iz (nI la0)))]) rfl ?_
                refine lv_if_ne (tgt := 68) hx hb d_Mo_layLayer_62 (by decide) (fun c_10 => ?_) (fun c_10 => ?_)
                · try simp only [bI_ne0, bI_eq0, decide_eq_true_eq, decide_eq_false_iff_not, Bool.not_eq_false, Bool.not_eq_true, Decidable.not_not] at c_4
                  try simp only [bI_ne0, bI_eq0, decide_eq_true_eq, decide_eq_false_iff_not, Bool.not_eq_false, Bool.not_eq_true, Decidable.not_not] at c_7
                  try simp only [bI_ne0, bI_eq0, decide_eq_true_eq, decide_eq_false_iff_not, Bool.not_eq_false, Bool.not_eq_true, Decidable.not_not] at c_8
                  try simp only [bI_ne0, bI_eq0, decide_eq_true_eq, decide_eq_false_iff_not, Bool.not_eq_false, Bool.not_eq_true, Decidable.not_not] at c_10
                  obtain ⟨ey, eh, hyh⟩ := hCv iz h20 hltz c_8
                  refine lv_aload_n hx hb d_Mo_layLayer_68 rfl (lv_at hl 0 rfl) ?_
                  refine gf_Mo_17 hx hb hW hown hG hV hm_6 d_Mo_layLayer_69 ?_
                  refine lv_iload_n hx hb d_Mo_layLayer_72 rfl (lv_at hl 3 rfl) ?_
                  refine hv_iald hx hb hG.K hV 0 hm_6_2 rfl (vp_in_nI (by omega) (by omega)) d_Mo_layLayer_73 ?_
                  rw [nI_clamp (by omega)]
                  refine lv_aload_n hx hb d_Mo_layLayer_74 rfl (lv_at hl 0 rfl) ?_
                  refine gf_Mo_23 hx hb hW hown hG hV hm_6 d_Mo_layLayer_75 ?_
                  refine lv_iload_n hx hb d_Mo_layLayer_78 rfl (lv_at hl 3 rfl) ?_
                  refine hv_iald hx hb hG.K hV 0 hm_6_4 rfl (vp_in_nI (by omega) (by omega)) d_Mo_layLayer_79 ?_
                  rw [nI_clamp (by omega)]
                  refine rc_l (va_runS (As := [.int ((ρ.I 2) iz), .int ((ρ.I 4) iz)]) (rest := []) ⟨hx, hb, hml, hown, hts⟩ (c_Mo_span l D N0 k V1z ((ρ.I 2) iz) ((ρ.I 4) iz)) (va_cwS 2 hts (gi_S wm_Mo_206 wt_Mo_span wi_Mo wc_Mo_span) rfl rfl rfl (by decide +kernel) ⟨Nat.le_of_ble_eq_true rfl, Nat.le_of_ble_eq_true rfl⟩) (mP.preS hG hS hV) rfl rfl hl.1 rfl (lv_room (Nat.le_of_ble_eq_true rfl)) d_Mo_layLayer_80 ⟨Nat.le_of_ble_eq_true rfl, Nat.le_of_ble_eq_true rfl⟩) hS (fun H locs hV hS => ?_)
                  refine lv_lstore (lv' := [(4, .long (moSpan ((ρ.I 2) iz) ((ρ.I 4) iz))), (0, .ref mo), (1, .int ne), (2, .int (nI la0)), (3, .int (nI iz))]) hx hb d_Mo_layLayer_83 hl (by decide) rfl (fun ls hl => ?_)
                  refine lv_aload_n hx hb d_Mo_layLayer_85 rfl (lv_at hl 1 rfl) ?_
                  refine gf_Mo_32 hx hb hW hown hG hV hm_6 d_Mo_layLayer_86 ?_
                  refine lv_iload_n hx hb d_Mo_layLayer_89 rfl (lv_at hl 4 rfl) ?_
                  refine hv_iald hx hb hG.K hV 0 hm_6_7 rfl (vp_in_nI (by omega) (by omega)) d_Mo_layLayer_90 ?_
                  rw [nI_clamp (by omega)]
                  refine lv_iload_n hx hb d_Mo_layLayer_91 rfl (lv_at hl 2 rfl) ?_
                  refine lv_icmp_ne (tgt := 157) hx hb d_Mo_layLayer_92 (by decide) (fun c_11 => ?_) (fun c_11 => ?_)
                  · refine lv_aload_n hx hb d_Mo_layLayer_157 rfl (lv_at hl 1 rfl) ?_
                    refine gf_Mo_20 hx hb hW hown hG hV hm_6 d_Mo_layLayer_158 ?_
                    refine lv_iload_n hx hb d_Mo_layLayer_161 rfl (lv_at hl 4 rfl) ?_
                    refine hv_iald hx hb hG.K hV 0 hm_6_3 rfl (vp_in_nI (by omega) (by omega)) d_Mo_layLayer_162 ?_
                    rw [nI_clamp (by omega)]
                    refine lv_aload_n hx hb d_Mo_layLayer_163 rfl (lv_at hl 1 rfl) ?_
                    refine gf_Mo_97 hx hb hW hown hG hV hm_6 d_Mo_layLayer_164 ?_
                    refine lv_isub hx hb d_Mo_layLayer_167 ?_
                    refine W.eq (g2 := F0 m 168 ls [.int (nI (yq ρ iz) - nI g0)]) (by rw [ey, hg0]) ?_
                    refine lv_istore (lv' := [(6, .int (nI (yq ρ iz) - nI g0)), (4, .long (moSpan ((ρ.I 2) iz) ((ρ.I 4) iz))), (0, .ref mo), (1, .int ne), (2, .int (nI la0)), (3, .int (nI iz))]) hx hb d_Mo_layLayer_168 hl (by decide) rfl (fun ls hl => ?_)
                    have loop_12 : ∀ (nb ib : Nat) (V1b : HV) (fb : Nat → Int64) (H : Heap) (locs : List Loc) (ls : Array Slot), ib ≤ (yq ρ iz + hq ρ iz + g0 + g0) → (yq ρ iz + hq ρ iz + g0 + g0) + 1 ≤ ib + nb → (mdOk k V1b mo ad ((ρ.wL 0 oz).wL 1 fb) ∧ mdFr mo ad V V1b ∧ fb = anR fz (moWd (moSpan (ρ.I 2 iz) (ρ.I 4 iz)) g0 ^^^ -1) (24 * la0 + (yq ρ iz - g0)) (24 * la0 + min 24 (ib - g0)) ∧ yq ρ iz ≤ ib) → hv D vwCl N0 V1b H → va_S (hA N0) s.heap H locs → lv_has ls 7 [(0, .ref mo), (1, .int ne), (2, .int (nI la0)), (3, .int (nI iz)), (4, .long (moSpan ((ρ.I 2) iz) ((ρ.I 4) iz))), (6, .int (nI ib - nI g0))] → W p l e (headSpec (.code y_Mo_layLayer b_Mo_layLayer 7 none :: WS) ({ frames := 2, cells := 0, slots := 0, locals := 42 })).room s m #[.ref mo, .int ne, .int (nI la0)] below meth c H locs 0 0 (MQ below (va_Qv (fun V' => mdOk k V' mo ad ((ρ.wL 0 (moLL ρ ne la0 g0 120).1).wL 1 (moLL ρ ne la0 g0 120).2) ∧ mdFr mo ad V V') (mB D N0) (hA N0)) #[.ref mo, .int ne, .int (nI la0)] s 0 0 (hA N0)) (F0 m 170 ls []) := by
                      intro nb
                      induction nb with
                      | zero => intro ib V1b fb H locs ls h1 h2; exact absurd h2 (by omega)
                      | succ nb ihb =>
                        intro ib V1b fb H locs ls hib hinb hIb hV hS hl
                        obtain ⟨hMb, hRb, hfb, hyb⟩ := hIb
                        have hm_13 : V1b mo = some (.inr (7, [.int (ρ.s 0), .int (ρ.s 1), .int (ρ.s 2), .int (ρ.s 3), .ref (ad 0), .ref (ad 1), .ref (ad 2), .ref (ad 3), .ref (ad 4), .ref (ad 5), .ref (ad 6), .ref (ad 7), .ref (ad 8), .int (ρ.s 4), .ref (ad 9), .ref (ad 10), .ref (ad 11), .ref (ad 12), .ref (ad 13), .ref (ad 14), .ref (ad 15), .ref (ad 16), .ref (ad 17), .ref (ad 18), .ref (ad 19), .ref (ad 20), .ref (ad 21), .ref (ad 22), .ref (ad 23), .ref (ad 24), .ref (ad 25)])) := hMb.1
                        have hm_13_2 : V1b (ad 2) = some (eI k 150 (ρ.I 2)) := hMb.a2
                        have hm_13_3 : V1b (ad 3) = some (eI k 150 (ρ.I 3)) := hMb.a3
                        have hm_13_4 : V1b (ad 4) = some (eI k 150 (ρ.I 4)) := hMb.a4
                        have hm_13_5 : V1b (ad 5) = some (eI k 150 (ρ.I 5)) := hMb.a5
                        have hm_13_7 : V1b (ad 7) = some (eI k 150 (ρ.I 7)) := hMb.a7
                        have hm_13_23 : V1b (ad 23) = some (eL k 96 oz) := hMb.a23
                        have hm_13_24 : V1b (ad 24) = some (eL k 96 fb) := hMb.a24
                        refine lv_iload hx hb d_Mo_layLayer_170 (lv_at hl 5 rfl) ?_
                        refine lv_aload_n hx hb d_Mo_layLayer_172 rfl (lv_at hl 0 rfl) ?_
                        refine gf_Mo_20 hx hb hW hown hG hV hm_13 d_Mo_layLayer_173 ?_
                        refine lv_iload_n hx hb d_Mo_layLayer_176 rfl (lv_at hl 3 rfl) ?_
                        refine hv_iald hx hb hG.K hV 0 hm_13_3 rfl (vp_in_nI (by omega) (by omega)) d_Mo_layLayer_177 ?_
                        rw [nI_clamp (by omega)]
                        refine lv_aload_n hx hb d_Mo_layLayer_178 rfl (lv_at hl 0 rfl) ?_
                        refine gf_Mo_26 hx hb hW hown hG hV hm_13 d_Mo_layLayer_179 ?_
                        refine lv_iload_n hx hb d_Mo_layLayer_182 rfl (lv_at hl 3 rfl) ?_
                        refine hv_iald hx hb hG.K hV 0 hm_13_5 rfl (vp_in_nI (by omega) (by omega)) d_Mo_layLayer_183 ?_
                        rw [nI_clamp (by omega)]
                        refine lv_iadd hx hb d_Mo_layLayer_184 ?_
                        refine lv_aload_n hx hb d_Mo_layLayer_185 rfl (lv_at hl 0 rfl) ?_
                        refine gf_Mo_97 hx hb hW hown hG hV hm_13 d_Mo_layLayer_186 ?_
                        refine lv_iadd hx hb d_Mo_layLayer_189 ?_
                        refine W.eq (g2 := F0 m 190 ls [.int (nI (yq ρ iz + hq ρ iz + g0)), .int (nI ib - nI g0)]) (by rw [ey, eh, hg0, nI_add, nI_add]) ?_
                        refine lv_icmp_ge (tgt := 249) hx hb d_Mo_layLayer_190 (by decide) (fun c_14 => ?_) (fun c_14 => ?_)
                        · have hgeb : yq ρ iz + hq ρ iz + g0 + g0 ≤ ib := cmp_t hg5 (by omega) (by omega) c_14
                          obtain ⟨i_15, ei_15⟩ : ∃ y : Int32, y = (nI iz) + 1 := ⟨_, rfl⟩
                          refine lv_iinc (v := i_15) (lv' := [(3, .int i_15), (0, .ref mo), (1, .int ne), (2, .int (nI la0)), (4, .long (moSpan ((ρ.I 2) iz) ((ρ.I 4) iz))), (6, .int (nI ib - nI g0))]) hx hb d_Mo_layLayer_249 hl (k := 3) rfl (by rw [ei_15]; rfl) (by decide) rfl (fun ls hl => ?_)
                          refine lv_goto (tgt := 41) hx hb d_Mo_layLayer_252 (by decide) ?_
                          rw [nI_1] at ei_15
                          subst ei_15
                          try simp only [bI_ne0, bI_eq0, decide_eq_true_eq, decide_eq_false_iff_not, Bool.not_eq_false, Bool.not_eq_true, Decidable.not_not] at c_4
                          try simp only [bI_ne0, bI_eq0, decide_eq_true_eq, decide_eq_false_iff_not, Bool.not_eq_false, Bool.not_eq_true, Decidable.not_not] at c_7
                          try simp only [bI_ne0, bI_eq0, decide_eq_true_eq, decide_eq_false_iff_not, Bool.not_eq_false, Bool.not_eq_true, Decidable.not_not] at c_8
                          try simp only [bI_ne0, bI_eq0, decide_eq_true_eq, decide_eq_false_iff_not, Bool.not_eq_false, Bool.not_eq_true, Decidable.not_not] at c_10
                          try simp only [bI_ne0, bI_eq0, decide_eq_true_eq, decide_eq_false_iff_not, Bool.not_eq_false, Bool.not_eq_true, Decidable.not_not] at c_11
                          try simp only [bI_ne0, bI_eq0, decide_eq_true_eq, decide_eq_false_iff_not, Bool.not_eq_false, Bool.not_eq_true, Decidable.not_not] at c_14
                          exact ihz (iz + 1) V1b oz fb _ _ _ (by omega) (by omega) (⟨hMb, hRb, by rw [ll_a h20 (by rw [c_8, c_10]; rfl) c_11, ← hpz, hfb, show min 24 (ib - g0) = min 24 (yq ρ iz + hq ρ iz + g0) by omega], by omega⟩) hV hS (lv_sub hl [1, 2, 3, 0] rfl)
                        · have hltb : ib < yq ρ iz + hq ρ iz + g0 + g0 := cmp_f hg5 (by omega) (by omega) c_14
                          refine lv_iload hx hb d_Mo_layLayer_193 (lv_at hl 5 rfl) ?_
                          refine lv_if_lt (tgt := 243) hx hb d_Mo_layLayer_195 (by decide) (fun c_16 => ?_) (fun c_16 => ?_)
                          · have c_16 := i_nle c_16
                            obtain ⟨i_17, ei_17⟩ : ∃ y : Int32, y = (nI ib - nI g0) + 1 := ⟨_, rfl⟩
                            refine lv_iinc (v := i_17) (lv' := [(6, .int i_17), (0, .ref mo), (1, .int ne), (2, .int (nI la0)), (3, .int (nI iz)), (4, .long (moSpan ((ρ.I 2) iz) ((ρ.I 4) iz)))]) hx hb d_Mo_layLayer_243 hl (k := 5) rfl (by rw [ei_17]; rfl) (by decide) rfl (fun ls hl => ?_)
                            refine lv_goto (tgt := 170) hx hb d_Mo_layLayer_246 (by decide) ?_
                            rw [sb_1] at ei_17
                            subst ei_17
                            exact ihb (ib + 1) V1b fb _ _ _ (by omega) (by omega) (⟨hMb, hRb, by rw [hfb, show min 24 (ib + 1 - g0) = min 24 (ib - g0) by have := cmp_f (A := 0) hg5 (by omega) (by omega) c_16; omega], by omega⟩) hV hS (lv_sub hl [1, 2, 3, 4, 5, 0] rfl)
                          · have c_16 := i_le c_16
                            have hb0 : g0 ≤ ib := by have := cmp_t (A := 0) hg5 (by omega) (by omega) c_16; omega
                            refine lv_iload hx hb d_Mo_layLayer_198 (lv_at hl 5 rfl) ?_
                            refine lv_bipush (v := 24) hx hb d_Mo_layLayer_200 (by decide) ?_
                            refine lv_icmp_ge (tgt := 243) hx hb d_Mo_layLayer_202 (by decide) (fun c_18 => ?_) (fun c_18 => ?_)
                            · obtain ⟨i_19, ei_19⟩ : ∃ y : Int32, y = (nI ib - nI g0) + 1 := ⟨_, rfl⟩
                              refine lv_iinc (v := i_19) (lv' := [(6, .int i_19), (0, .ref mo), (1, .int ne), (2, .int (nI la0)), (3, .int (nI iz)), (4, .long (moSpan ((ρ.I 2) iz) ((ρ.I 4) iz)))]) hx hb d_Mo_layLayer_243 hl (k := 5) rfl (by rw [ei_19]; rfl) (by decide) rfl (fun ls hl => ?_)
                              refine lv_goto (tgt := 170) hx hb d_Mo_layLayer_246 (by decide) ?_
                              rw [sb_1] at ei_19
                              subst ei_19
                              exact ihb (ib + 1) V1b fb _ _ _ (by omega) (by omega) (⟨hMb, hRb, by rw [hfb, show min 24 (ib + 1 - g0) = min 24 (ib - g0) by have := cmp_t (A := 24) hg5 (by omega) (by omega) c_18; omega], by omega⟩) hV hS (lv_sub hl [1, 2, 3, 4, 5, 0] rfl)
                            · have hb24 : ib < 24 + g0 := cmp_f (A := 24) hg5 (by omega) (by omega) c_18
                              refine lv_aload_n hx hb d_Mo_layLayer_205 rfl (lv_at hl 0 rfl) ?_
                              refine gf_Mo_88 hx hb hW hown hG hV hm_13 d_Mo_layLayer_206 ?_
                              refine lv_bipush (v := 24) hx hb d_Mo_layLayer_209 (by decide) ?_
                              refine lv_iload_n hx hb d_Mo_layLayer_211 rfl (lv_at hl 2 rfl) ?_
                              refine lv_imul hx hb d_Mo_layLayer_212 ?_
                              refine lv_iload hx hb d_Mo_layLayer_213 (lv_at hl 5 rfl) ?_
                              refine lv_iadd hx hb d_Mo_layLayer_215 ?_
                              refine W.eq (g2 := F0 m 216 ls [.int (nI (24 * la0 + (ib - g0))), .ref (ad 24)]) (by rw [nI_sbN hb0, show (24 : Int32) = nI 24 from rfl, nI_mulN, nI_add]) ?_
                              refine lv_aload_n hx hb d_Mo_layLayer_216 rfl (lv_at hl 0 rfl) ?_
                              refine gf_Mo_88 hx hb hW hown hG hV hm_13 d_Mo_layLayer_217 ?_
                              refine lv_bipush (v := 24) hx hb d_Mo_layLayer_220 (by decide) ?_
                              refine lv_iload_n hx hb d_Mo_layLayer_222 rfl (lv_at hl 2 rfl) ?_
                              refine lv_imul hx hb d_Mo_layLayer_223 ?_
                              refine lv_iload hx hb d_Mo_layLayer_224 (lv_at hl 5 rfl) ?_
                              refine lv_iadd hx hb d_Mo_layLayer_226 ?_
                              refine W.eq (g2 := F0 m 227 ls [.int (nI (24 * la0 + (ib - g0))), .ref (ad 24), .int (nI (24 * la0 + (ib - g0))), .ref (ad 24)]) (by rw [nI_sbN hb0, show (24 : Int32) = nI 24 from rfl, nI_mulN, nI_add]) ?_
                              refine hv_lald hx hb hG.K hV 1 hm_13_24 rfl (vp_in_nI (by omega) (by omega)) d_Mo_layLayer_227 ?_
                              rw [nI_clamp (by omega)]
                              refine lv_lload hx hb d_Mo_layLayer_228 (lv_at hl 4 rfl) ?_
                              refine lv_aload_n hx hb d_Mo_layLayer_230 rfl (lv_at hl 0 rfl) ?_
                              refine gf_Mo_97 hx hb hW hown hG hV hm_13 d_Mo_layLayer_231 ?_
                              refine W.eq (g2 := F0 m 234 ls [.int (nI g0), .long (moSpan ((ρ.I 2) iz) ((ρ.I 4) iz)), .long (fb (24 * la0 + (ib - g0))), .int (nI (24 * la0 + (ib - g0))), .ref (ad 24)]) (by rw [hg0]) ?_
                              refine rc_l (va_runS (As := [.long (moSpan ((ρ.I 2) iz) ((ρ.I 4) iz)), .int (nI g0)]) (rest := [.long (fb (24 * la0 + (ib - g0))), .int (nI (24 * la0 + (ib - g0))), .ref (ad 24)]) ⟨hx, hb, hml, hown, hts⟩ (c_Mo_wide l D N0 k V1b (moSpan ((ρ.I 2) iz) ((ρ.I 4) iz)) g0 (by omega)) (va_cwS 2 hts (gi_S wm_Mo_210 wt_Mo_wide wi_Mo wc_Mo_wide) rfl rfl rfl (by decide +kernel) ⟨Nat.le_of_ble_eq_true rfl, Nat.le_of_ble_eq_true rfl⟩) (mP.preS hG hS hV) rfl rfl hl.1 rfl (lv_room (Nat.le_of_ble_eq_true rfl)) d_Mo_layLayer_234 ⟨Nat.le_of_ble_eq_true rfl, Nat.le_of_ble_eq_true rfl⟩) hS (fun H locs hV hS => ?_)
                              refine lv_ldc2 (v := (-1)) hx hb hown (hW _ wql_Mo_214) d_Mo_layLayer_237 ?_
                              refine lv_lxor hx hb d_Mo_layLayer_240 ?_
                              refine lv_land hx hb d_Mo_layLayer_241 ?_
                              refine hv_last hx hb hG.K hV hS 1 hm_13_24 rfl (vp_in_nI (by omega) (by omega)) d_Mo_layLayer_242 (fun H locs hV hS => ?_)
                              rw [nI_clamp (by omega)] at hV
                              replace hV : hv D vwCl N0 (hu V1b (ad 24) (eL k 96 (vp_updL fb (24 * la0 + (ib - g0)) ((fb (24 * la0 + (ib - g0))) &&& ((moWd (moSpan ((ρ.I 2) iz) ((ρ.I 4) iz)) g0) ^^^ (-1)))))) H := hV
                              generalize hV_V_20 : hu V1b (ad 24) (eL k 96 (vp_updL fb (24 * la0 + (ib - g0)) ((fb (24 * la0 + (ib - g0))) &&& ((moWd (moSpan ((ρ.I 2) iz) ((ρ.I 4) iz)) g0) ^^^ (-1))))) = V_20 at hV
                              have hM_20 : mdOk k V_20 mo ad (((ρ.wL 0 oz).wL 1 fb).wL 1 (vp_updL fb (24 * la0 + (ib - g0)) ((fb (24 * la0 + (ib - g0))) &&& ((moWd (moSpan ((ρ.I 2) iz) ((ρ.I 4) iz)) g0) ^^^ (-1))))) := by rw [← hV_V_20]; exact md_setL hMb 1 (by omega) (vp_updL fb (24 * la0 + (ib - g0)) ((fb (24 * la0 + (ib - g0))) &&& ((moWd (moSpan ((ρ.I 2) iz) ((ρ.I 4) iz)) g0) ^^^ (-1))))
                              have hR_20 : mdFr mo ad V V_20 := by rw [← hV_V_20]; exact hRb.ar (j := 24) (by omega)
                              have hm_21 : V_20 mo = some (.inr (7, [.int (ρ.s 0), .int (ρ.s 1), .int (ρ.s 2), .int (ρ.s 3), .ref (ad 0), .ref (ad 1), .ref (ad 2), .ref (ad 3), .ref (ad 4), .ref (ad 5), .ref (ad 6), .ref (ad 7), .ref (ad 8), .int (ρ.s 4), .ref (ad 9), .ref (ad 10), .ref (ad 11), .ref (ad 12), .ref (ad 13), .ref (ad 14), .ref (ad 15), .ref (ad 16), .ref (ad 17), .ref (ad 18), .ref (ad 19), .ref (ad 20), .ref (ad 21), .ref (ad 22), .ref (ad 23), .ref (ad 24), .ref (ad 25)])) := hM_20.1
                              have hm_21_2 : V_20 (ad 2) = some (eI k 150 (ρ.I 2)) := hM_20.a2
                              have hm_21_3 : V_20 (ad 3) = some (eI k 150 (ρ.I 3)) := hM_20.a3
                              have hm_21_4 : V_20 (ad 4) = some (eI k 150 (ρ.I 4)) := hM_20.a4
                              have hm_21_5 : V_20 (ad 5) = some (eI k 150 (ρ.I 5)) := hM_20.a5
                              have hm_21_7 : V_20 (ad 7) = some (eI k 150 (ρ.I 7)) := hM_20.a7
                              have hm_21_23 : V_20 (ad 23) = some (eL k 96 oz) := hM_20.a23
                              have hm_21_24 : V_20 (ad 24) = some (eL k 96 (vp_updL fb (24 * la0 + (ib - g0)) ((fb (24 * la0 + (ib - g0))) &&& ((moWd (moSpan ((ρ.I 2) iz) ((ρ.I 4) iz)) g0) ^^^ (-1))))) := hM_20.a24
                              obtain ⟨i_22, ei_22⟩ : ∃ y : Int32, y = (nI ib - nI g0) + 1 := ⟨_, rfl⟩
                              refine lv_iinc (v := i_22) (lv' := [(6, .int i_22), (0, .ref mo), (1, .int ne), (2, .int (nI la0)), (3, .int (nI iz)), (4, .long (moSpan ((ρ.I 2) iz) ((ρ.I 4) iz)))]) hx hb d_Mo_layLayer_243 hl (k := 5) rfl (by rw [ei_22]; rfl) (by decide) rfl (fun ls hl => ?_)
                              refine lv_goto (tgt := 170) hx hb d_Mo_layLayer_246 (by decide) ?_
                              rw [sb_1] at ei_22
                              subst ei_22
                              exact ihb (ib + 1) V_20 (vp_updL fb (24 * la0 + (ib - g0)) ((fb (24 * la0 + (ib - g0))) &&& ((moWd (moSpan ((ρ.I 2) iz) ((ρ.I 4) iz)) g0) ^^^ (-1)))) _ _ _ (by omega) (by omega) (⟨by have q := hM_20; rw [wL_wL] at q; exact q, hR_20, by rw [hfb, show min 24 (ib + 1 - g0) = min 24 (ib - g0) + 1 by omega, ← Nat.add_assoc, ← anR_s (by omega), show min 24 (ib - g0) = ib - g0 by omega], by omega⟩) hV hS (lv_sub hl [1, 2, 3, 4, 5, 0] rfl)
                    exact loop_12 ((yq ρ iz + hq ρ iz + g0 + g0) + 1 - (yq ρ iz)) (yq ρ iz) V1z fz _ _ _ (by omega) (by omega) (⟨hMz, hRz, (anR_0 (by omega)).symm, Nat.le_refl _⟩) hV hS (lv_sub hl [2, 3, 4, 5, 1, 0] rfl)
                  · refine lv_aload_n hx hb d_Mo_layLayer_95 rfl (lv_at hl 1 rfl) ?_
                    refine gf_Mo_20 hx hb hW hown hG hV hm_6 d_Mo_layLayer_96 ?_
                    refine lv_iload_n hx hb d_Mo_layLayer_99 rfl (lv_at hl 4 rfl) ?_
                    refine hv_iald hx hb hG.K hV 0 hm_6_3 rfl (vp_in_nI (by omega) (by omega)) d_Mo_layLayer_100 ?_
                    rw [nI_clamp (by omega)]
                    refine W.eq (g2 := F0 m 101 ls [.int (nI (yq ρ iz))]) (by rw [ey]) ?_
                    refine lv_istore (lv' := [(6, .int (nI (yq ρ iz))), (4, .long (moSpan ((ρ.I 2) iz) ((ρ.I 4) iz))), (0, .ref mo), (1, .int ne), (2, .int (nI la0)), (3, .int (nI iz))]) hx hb d_Mo_layLayer_101 hl (by decide) rfl (fun ls hl => ?_)
                    have loop_23 : ∀ (na ia : Nat) (V1a : HV) (oa : Nat → Int64) (H : Heap) (locs : List Loc) (ls : Array Slot), ia ≤ (yq ρ iz + hq ρ iz) → (yq ρ iz + hq ρ iz) + 1 ≤ ia + na → (mdOk k V1a mo ad ((ρ.wL 0 oa).wL 1 fz) ∧ mdFr mo ad V V1a ∧ oa = orR oz (moSpan (ρ.I 2 iz) (ρ.I 4 iz)) (24 * la0 + yq ρ iz) (ia - yq ρ iz) ∧ yq ρ iz ≤ ia) → hv D vwCl N0 V1a H → va_S (hA N0) s.heap H locs → lv_has ls 7 [(0, .ref mo), (1, .int ne), (2, .int (nI la0)), (3, .int (nI iz)), (4, .long (moSpan ((ρ.I 2) iz) ((ρ.I 4) iz))), (6, .int (nI ia))] → W p l e (headSpec (.code y_Mo_layLayer b_Mo_layLayer 7 none :: WS) ({ frames := 2, cells := 0, slots := 0, locals := 42 })).room s m #[.ref mo, .int ne, .int (nI la0)] below meth c H locs 0 0 (MQ below (va_Qv (fun V' => mdOk k V' mo ad ((ρ.wL 0 (moLL ρ ne la0 g0 120).1).wL 1 (moLL ρ ne la0 g0 120).2) ∧ mdFr mo ad V V') (mB D N0) (hA N0)) #[.ref mo, .int ne, .int (nI la0)] s 0 0 (hA N0)) (F0 m 103 ls []) := by
                      intro na
                      induction na with
                      | zero => intro ia V1a oa H locs ls h1 h2; exact absurd h2 (by omega)
                      | succ na iha =>
                        intro ia V1a oa H locs ls hia hina hIa hV hS hl
                        obtain ⟨hMa, hRa, hoa, hya⟩ := hIa
                        have hm_24 : V1a mo = some (.inr (7, [.int (ρ.s 0), .int (ρ.s 1), .int (ρ.s 2), .int (ρ.s 3), .ref (ad 0), .ref (ad 1), .ref (ad 2), .ref (ad 3), .ref (ad 4), .ref (ad 5), .ref (ad 6), .ref (ad 7), .ref (ad 8), .int (ρ.s 4), .ref (ad 9), .ref (ad 10), .ref (ad 11), .ref (ad 12), .ref (ad 13), .ref (ad 14), .ref (ad 15), .ref (ad 16), .ref (ad 17), .ref (ad 18), .ref (ad 19), .ref (ad 20), .ref (ad 21), .ref (ad 22), .ref (ad 23), .ref (ad 24), .ref (ad 25)])) := hMa.1
                        have hm_24_2 : V1a (ad 2) = some (eI k 150 (ρ.I 2)) := hMa.a2
                        have hm_24_3 : V1a (ad 3) = some (eI k 150 (ρ.I 3)) := hMa.a3
                        have hm_24_4 : V1a (ad 4) = some (eI k 150 (ρ.I 4)) := hMa.a4
                        have hm_24_5 : V1a (ad 5) = some (eI k 150 (ρ.I 5)) := hMa.a5
                        have hm_24_7 : V1a (ad 7) = some (eI k 150 (ρ.I 7)) := hMa.a7
                        have hm_24_23 : V1a (ad 23) = some (eL k 96 oa) := hMa.a23
                        have hm_24_24 : V1a (ad 24) = some (eL k 96 fz) := hMa.a24
                        refine lv_iload hx hb d_Mo_layLayer_103 (lv_at hl 5 rfl) ?_
                        refine lv_aload_n hx hb d_Mo_layLayer_105 rfl (lv_at hl 0 rfl) ?_
                        refine gf_Mo_20 hx hb hW hown hG hV hm_24 d_Mo_layLayer_106 ?_
                        refine lv_iload_n hx hb d_Mo_layLayer_109 rfl (lv_at hl 3 rfl) ?_
                        refine hv_iald hx hb hG.K hV 0 hm_24_3 rfl (vp_in_nI (by omega) (by omega)) d_Mo_layLayer_110 ?_
                        rw [nI_clamp (by omega)]
                        refine lv_aload_n hx hb d_Mo_layLayer_111 rfl (lv_at hl 0 rfl) ?_
                        refine gf_Mo_26 hx hb hW hown hG hV hm_24 d_Mo_layLayer_112 ?_
                        refine lv_iload_n hx hb d_Mo_layLayer_115 rfl (lv_at hl 3 rfl) ?_
                        refine hv_iald hx hb hG.K hV 0 hm_24_5 rfl (vp_in_nI (by omega) (by omega)) d_Mo_layLayer_116 ?_
                        rw [nI_clamp (by omega)]
                        refine lv_iadd hx hb d_Mo_layLayer_117 ?_
                        refine W.eq (g2 := F0 m 118 ls [.int (nI (yq ρ iz + hq ρ iz)), .int (nI ia)]) (by rw [ey, eh, nI_add]) ?_
                        refine lv_icmp_ge (tgt := 154) hx hb d_Mo_layLayer_118 (by decide) (fun c_25 => ?_) (fun c_25 => ?_)
                        · have hgea : (yq ρ iz + hq ρ iz) ≤ ia := nI_le' (a := (yq ρ iz + hq ρ iz)) (b := ia) c_25 (by omega) (by omega)
                          refine lv_goto (tgt := 249) hx hb d_Mo_layLayer_154 (by decide) ?_
                          obtain ⟨i_26, ei_26⟩ : ∃ y : Int32, y = (nI iz) + 1 := ⟨_, rfl⟩
                          refine lv_iinc (v := i_26) (lv' := [(3, .int i_26), (0, .ref mo), (1, .int ne), (2, .int (nI la0)), (4, .long (moSpan ((ρ.I 2) iz) ((ρ.I 4) iz))), (6, .int (nI ia))]) hx hb d_Mo_layLayer_249 hl (k := 3) rfl (by rw [ei_26]; rfl) (by decide) rfl (fun ls hl => ?_)
                          refine lv_goto (tgt := 41) hx hb d_Mo_layLayer_252 (by decide) ?_
                          rw [nI_1] at ei_26
                          subst ei_26
                          try simp only [bI_ne0, bI_eq0, decide_eq_true_eq, decide_eq_false_iff_not, Bool.not_eq_false, Bool.not_eq_true, Decidable.not_not] at c_4
                          try simp only [bI_ne0, bI_eq0, decide_eq_true_eq, decide_eq_false_iff_not, Bool.not_eq_false, Bool.not_eq_true, Decidable.not_not] at c_7
                          try simp only [bI_ne0, bI_eq0, decide_eq_true_eq, decide_eq_false_iff_not, Bool.not_eq_false, Bool.not_eq_true, Decidable.not_not] at c_8
                          try simp only [bI_ne0, bI_eq0, decide_eq_true_eq, decide_eq_false_iff_not, Bool.not_eq_false, Bool.not_eq_true, Decidable.not_not] at c_10
                          try simp only [bI_ne0, bI_eq0, decide_eq_true_eq, decide_eq_false_iff_not, Bool.not_eq_false, Bool.not_eq_true, Decidable.not_not] at c_11
                          try simp only [bI_ne0, bI_eq0, decide_eq_true_eq, decide_eq_false_iff_not, Bool.not_eq_false, Bool.not_eq_true, Decidable.not_not] at c_25
                          exact ihz (iz + 1) V1a oa fz _ _ _ (by omega) (by omega) (⟨hMa, hRa, by rw [ll_o h20 (by rw [c_8, c_10]; rfl) c_11, ← hpz, hoa, show ia - yq ρ iz = hq ρ iz by omega], by omega⟩) hV hS (lv_sub hl [1, 2, 3, 0] rfl)
                        · have hlta : ia < (yq ρ iz + hq ρ iz) := nI_nle' (a := (yq ρ iz + hq ρ iz)) (b := ia) c_25 (by omega) (by omega)
                          refine lv_aload_n hx hb d_Mo_layLayer_121 rfl (lv_at hl 0 rfl) ?_
                          refine gf_Mo_84 hx hb hW hown hG hV hm_24 d_Mo_layLayer_122 ?_
                          refine lv_bipush (v := 24) hx hb d_Mo_layLayer_125 (by decide) ?_
                          refine lv_iload_n hx hb d_Mo_layLayer_127 rfl (lv_at hl 2 rfl) ?_
                          refine lv_imul hx hb d_Mo_layLayer_128 ?_
                          refine lv_iload hx hb d_Mo_layLayer_129 (lv_at hl 5 rfl) ?_
                          refine lv_iadd hx hb d_Mo_layLayer_131 ?_
                          refine W.eq (g2 := F0 m 132 ls [.int (nI (24 * la0 + ia)), .ref (ad 23)]) (by rw [show (24 : Int32) = nI 24 from rfl, nI_mulN, nI_add]) ?_
                          refine lv_aload_n hx hb d_Mo_layLayer_132 rfl (lv_at hl 0 rfl) ?_
                          refine gf_Mo_84 hx hb hW hown hG hV hm_24 d_Mo_layLayer_133 ?_
                          refine lv_bipush (v := 24) hx hb d_Mo_layLayer_136 (by decide) ?_
                          refine lv_iload_n hx hb d_Mo_layLayer_138 rfl (lv_at hl 2 rfl) ?_
                          refine lv_imul hx hb d_Mo_layLayer_139 ?_
                          refine lv_iload hx hb d_Mo_layLayer_140 (lv_at hl 5 rfl) ?_
                          refine lv_iadd hx hb d_Mo_layLayer_142 ?_
                          refine W.eq (g2 := F0 m 143 ls [.int (nI (24 * la0 + ia)), .ref (ad 23), .int (nI (24 * la0 + ia)), .ref (ad 23)]) (by rw [show (24 : Int32) = nI 24 from rfl, nI_mulN, nI_add]) ?_
                          refine hv_lald hx hb hG.K hV 1 hm_24_23 rfl (vp_in_nI (by omega) (by omega)) d_Mo_layLayer_143 ?_
                          rw [nI_clamp (by omega)]
                          refine lv_lload hx hb d_Mo_layLayer_144 (lv_at hl 4 rfl) ?_
                          refine lv_lor hx hb d_Mo_layLayer_146 ?_
                          refine hv_last hx hb hG.K hV hS 1 hm_24_23 rfl (vp_in_nI (by omega) (by omega)) d_Mo_layLayer_147 (fun H locs hV hS => ?_)
                          rw [nI_clamp (by omega)] at hV
                          replace hV : hv D vwCl N0 (hu V1a (ad 23) (eL k 96 (vp_updL oa (24 * la0 + ia) ((oa (24 * la0 + ia)) ||| (moSpan ((ρ.I 2) iz) ((ρ.I 4) iz)))))) H := hV
                          generalize hV_V_27 : hu V1a (ad 23) (eL k 96 (vp_updL oa (24 * la0 + ia) ((oa (24 * la0 + ia)) ||| (moSpan ((ρ.I 2) iz) ((ρ.I 4) iz))))) = V_27 at hV
                          have hM_27 : mdOk k V_27 mo ad (((ρ.wL 0 oa).wL 1 fz).wL 0 (vp_updL oa (24 * la0 + ia) ((oa (24 * la0 + ia)) ||| (moSpan ((ρ.I 2) iz) ((ρ.I 4) iz))))) := by rw [← hV_V_27]; exact md_setL hMa 0 (by omega) (vp_updL oa (24 * la0 + ia) ((oa (24 * la0 + ia)) ||| (moSpan ((ρ.I 2) iz) ((ρ.I 4) iz))))
                          have hR_27 : mdFr mo ad V V_27 := by rw [← hV_V_27]; exact hRa.ar (j := 23) (by omega)
                          have hm_28 : V_27 mo = some (.inr (7, [.int (ρ.s 0), .int (ρ.s 1), .int (ρ.s 2), .int (ρ.s 3), .ref (ad 0), .ref (ad 1), .ref (ad 2), .ref (ad 3), .ref (ad 4), .ref (ad 5), .ref (ad 6), .ref (ad 7), .ref (ad 8), .int (ρ.s 4), .ref (ad 9), .ref (ad 10), .ref (ad 11), .ref (ad 12), .ref (ad 13), .ref (ad 14), .ref (ad 15), .ref (ad 16), .ref (ad 17), .ref (ad 18), .ref (ad 19), .ref (ad 20), .ref (ad 21), .ref (ad 22), .ref (ad 23), .ref (ad 24), .ref (ad 25)])) := hM_27.1
                          have hm_28_2 : V_27 (ad 2) = some (eI k 150 (ρ.I 2)) := hM_27.a2
                          have hm_28_3 : V_27 (ad 3) = some (eI k 150 (ρ.I 3)) := hM_27.a3
                          have hm_28_4 : V_27 (ad 4) = some (eI k 150 (ρ.I 4)) := hM_27.a4
                          have hm_28_5 : V_27 (ad 5) = some (eI k 150 (ρ.I 5)) := hM_27.a5
                          have hm_28_7 : V_27 (ad 7) = some (eI k 150 (ρ.I 7)) := hM_27.a7
                          have hm_28_23 : V_27 (ad 23) = some (eL k 96 (vp_updL oa (24 * la0 + ia) ((oa (24 * la0 + ia)) ||| (moSpan ((ρ.I 2) iz) ((ρ.I 4) iz))))) := hM_27.a23
                          have hm_28_24 : V_27 (ad 24) = some (eL k 96 fz) := hM_27.a24
                          obtain ⟨i_29, ei_29⟩ : ∃ y : Int32, y = (nI ia) + 1 := ⟨_, rfl⟩
                          refine lv_iinc (v := i_29) (lv' := [(6, .int i_29), (0, .ref mo), (1, .int ne), (2, .int (nI la0)), (3, .int (nI iz)), (4, .long (moSpan ((ρ.I 2) iz) ((ρ.I 4) iz)))]) hx hb d_Mo_layLayer_148 hl (k := 5) rfl (by rw [ei_29]; rfl) (by decide) rfl (fun ls hl => ?_)
                          refine lv_goto (tgt := 103) hx hb d_Mo_layLayer_151 (by decide) ?_
                          rw [nI_1] at ei_29
                          subst ei_29
                          exact iha (ia + 1) V_27 (vp_updL oa (24 * la0 + ia) ((oa (24 * la0 + ia)) ||| (moSpan ((ρ.I 2) iz) ((ρ.I 4) iz)))) _ _ _ (by omega) (by omega) (⟨by have q := hM_27; rw [wL_w0] at q; exact q, hR_27, by rw [hoa]; exact orR_s hya, by omega⟩) hV hS (lv_sub hl [1, 2, 3, 4, 5, 0] rfl)
                    exact loop_23 ((yq ρ iz + hq ρ iz) + 1 - (yq ρ iz)) (yq ρ iz) V1z oz _ _ _ (by omega) (by omega) (⟨hMz, hRz, (orR_0 rfl).symm, Nat.le_refl _⟩) hV hS (lv_sub hl [2, 3, 4, 5, 1, 0] rfl)
                · refine lv_goto (tgt := 249) hx hb d_Mo_layLayer_65 (by decide) ?_
                  obtain ⟨i_30, ei_30⟩ : ∃ y : Int32, y = (nI iz) + 1 := ⟨_, rfl⟩
                  refine lv_iinc (v := i_30) (lv' := [(3, .int i_30), (0, .ref mo), (1, .int ne), (2, .int (nI la0))]) hx hb d_Mo_layLayer_249 hl (k := 3) rfl (by rw [ei_30]; rfl) (by decide) rfl (fun ls hl => ?_)
                  refine lv_goto (tgt := 41) hx hb d_Mo_layLayer_252 (by decide) ?_
                  rw [nI_1] at ei_30
                  subst ei_30
                  try simp only [bI_ne0, bI_eq0, decide_eq_true_eq, decide_eq_false_iff_not, Bool.not_eq_false, Bool.not_eq_true, Decidable.not_not] at c_4
                  try simp only [bI_ne0, bI_eq0, decide_eq_true_eq, decide_eq_false_iff_not, Bool.not_eq_false, Bool.not_eq_true, Decidable.not_not] at c_7
                  try simp only [bI_ne0, bI_eq0, decide_eq_true_eq, decide_eq_false_iff_not, Bool.not_eq_false, Bool.not_eq_true, Decidable.not_not] at c_8
                  try simp only [bI_ne0, bI_eq0, decide_eq_true_eq, decide_eq_false_iff_not, Bool.not_eq_false, Bool.not_eq_true, Decidable.not_not] at c_10
                  exact ihz (iz + 1) V1z oz fz _ _ _ (by omega) (by omega) (⟨hMz, hRz, by rw [ll_f h20 (by simp [c_8, c_10])]; exact hpz, by omega⟩) hV hS (lv_sub hl [1, 2, 3, 0] rfl)
        exact loop_5 (140 + 1 - 20) 20 V1 o f _ _ _ (by omega) (by omega) (⟨hM1, hR1, by rw [ho1, hf1, show i - 24 * la0 = 24 by omega]; rfl, by omega⟩) hV hS (lv_sub hl [1, 2, 3, 0] rfl)
      · have hlt : i < (24 * la0 + 24) := nI_nle' (a := (24 * la0 + 24)) (b := i) c_4 (by omega) (by omega)
        refine lv_aload_n hx hb d_Mo_layLayer_16 rfl (lv_at hl 0 rfl) ?_
        refine gf_Mo_84 hx hb hW hown hG hV hm_3 d_Mo_layLayer_17 ?_
        refine lv_iload_n hx hb d_Mo_layLayer_20 rfl (lv_at hl 3 rfl) ?_
        refine lv_lconst (v := 0) hx hb d_Mo_layLayer_21 (by decide) ?_
        refine hv_last hx hb hG.K hV hS 1 hm_3_23 rfl (vp_in_nI (by omega) (by omega)) d_Mo_layLayer_22 (fun H locs hV hS => ?_)
        rw [nI_clamp (by omega)] at hV
        replace hV : hv D vwCl N0 (hu V1 (ad 23) (eL k 96 (vp_updL o i 0))) H := hV
        generalize hV_V_31 : hu V1 (ad 23) (eL k 96 (vp_updL o i 0)) = V_31 at hV
        have hM_31 : mdOk k V_31 mo ad (((ρ.wL 0 o).wL 1 f).wL 0 (vp_updL o i 0)) := by rw [← hV_V_31]; exact md_setL hM1 0 (by omega) (vp_updL o i 0)
        have hR_31 : mdFr mo ad V V_31 := by rw [← hV_V_31]; exact hR1.ar (j := 23) (by omega)
        have hm_32 : V_31 mo = some (.inr (7, [.int (ρ.s 0), .int (ρ.s 1), .int (ρ.s 2), .int (ρ.s 3), .ref (ad 0), .ref (ad 1), .ref (ad 2), .ref (ad 3), .ref (ad 4), .ref (ad 5), .ref (ad 6), .ref (ad 7), .ref (ad 8), .int (ρ.s 4), .ref (ad 9), .ref (ad 10), .ref (ad 11), .ref (ad 12), .ref (ad 13), .ref (ad 14), .ref (ad 15), .ref (ad 16), .ref (ad 17), .ref (ad 18), .ref (ad 19), .ref (ad 20), .ref (ad 21), .ref (ad 22), .ref (ad 23), .ref (ad 24), .ref (ad 25)])) := hM_31.1
        have hm_32_2 : V_31 (ad 2) = some (eI k 150 (ρ.I 2)) := hM_31.a2
        have hm_32_3 : V_31 (ad 3) = some (eI k 150 (ρ.I 3)) := hM_31.a3
        have hm_32_4 : V_31 (ad 4) = some (eI k 150 (ρ.I 4)) := hM_31.a4
        have hm_32_5 : V_31 (ad 5) = some (eI k 150 (ρ.I 5)) := hM_31.a5
        have hm_32_7 : V_31 (ad 7) = some (eI k 150 (ρ.I 7)) := hM_31.a7
        have hm_32_23 : V_31 (ad 23) = some (eL k 96 (vp_updL o i 0)) := hM_31.a23
        have hm_32_24 : V_31 (ad 24) = some (eL k 96 f) := hM_31.a24
        refine lv_aload_n hx hb d_Mo_layLayer_23 rfl (lv_at hl 0 rfl) ?_
        refine gf_Mo_88 hx hb hW hown hG hV hm_32 d_Mo_layLayer_24 ?_
        refine lv_iload_n hx hb d_Mo_layLayer_27 rfl (lv_at hl 3 rfl) ?_
        refine lv_ldc2 (v := 4294967295) hx hb hown (hW _ wql_Mo_201) d_Mo_layLayer_28 ?_
        refine hv_last hx hb hG.K hV hS 1 hm_32_24 rfl (vp_in_nI (by omega) (by omega)) d_Mo_layLayer_31 (fun H locs hV hS => ?_)
        rw [nI_clamp (by omega)] at hV
        replace hV : hv D vwCl N0 (hu V_31 (ad 24) (eL k 96 (vp_updL f i 4294967295))) H := hV
        generalize hV_V_33 : hu V_31 (ad 24) (eL k 96 (vp_updL f i 4294967295)) = V_33 at hV
        have hM_33 : mdOk k V_33 mo ad ((((ρ.wL 0 o).wL 1 f).wL 0 (vp_updL o i 0)).wL 1 (vp_updL f i 4294967295)) := by rw [← hV_V_33]; exact md_setL hM_31 1 (by omega) (vp_updL f i 4294967295)
        have hR_33 : mdFr mo ad V V_33 := by rw [← hV_V_33]; exact hR_31.ar (j := 24) (by omega)
        have hm_34 : V_33 mo = some (.inr (7, [.int (ρ.s 0), .int (ρ.s 1), .int (ρ.s 2), .int (ρ.s 3), .ref (ad 0), .ref (ad 1), .ref (ad 2), .ref (ad 3), .ref (ad 4), .ref (ad 5), .ref (ad 6), .ref (ad 7), .ref (ad 8), .int (ρ.s 4), .ref (ad 9), .ref (ad 10), .ref (ad 11), .ref (ad 12), .ref (ad 13), .ref (ad 14), .ref (ad 15), .ref (ad 16), .ref (ad 17), .ref (ad 18), .ref (ad 19), .ref (ad 20), .ref (ad 21), .ref (ad 22), .ref (ad 23), .ref (ad 24), .ref (ad 25)])) := hM_33.1
        have hm_34_2 : V_33 (ad 2) = some (eI k 150 (ρ.I 2)) := hM_33.a2
        have hm_34_3 : V_33 (ad 3) = some (eI k 150 (ρ.I 3)) := hM_33.a3
        have hm_34_4 : V_33 (ad 4) = some (eI k 150 (ρ.I 4)) := hM_33.a4
        have hm_34_5 : V_33 (ad 5) = some (eI k 150 (ρ.I 5)) := hM_33.a5
        have hm_34_7 : V_33 (ad 7) = some (eI k 150 (ρ.I 7)) := hM_33.a7
        have hm_34_23 : V_33 (ad 23) = some (eL k 96 (vp_updL o i 0)) := hM_33.a23
        have hm_34_24 : V_33 (ad 24) = some (eL k 96 (vp_updL f i 4294967295)) := hM_33.a24
        obtain ⟨i_35, ei_35⟩ : ∃ y : Int32, y = (nI i) + 1 := ⟨_, rfl⟩
        refine lv_iinc (v := i_35) (lv' := [(3, .int i_35), (0, .ref mo), (1, .int ne), (2, .int (nI la0))]) hx hb d_Mo_layLayer_32 hl (k := 3) rfl (by rw [ei_35]; rfl) (by decide) rfl (fun ls hl => ?_)
        refine lv_goto (tgt := 5) hx hb d_Mo_layLayer_35 (by decide) ?_
        rw [nI_1] at ei_35
        subst ei_35
        exact ih (i + 1) V_33 (vp_updL o i 0) (vp_updL f i 4294967295) _ _ _ (by omega) (by omega) (⟨by have q := hM_33; rw [wL_w2] at q; exact q, hR_33, by rw [ho1]; exact clR_s hi24, by rw [hf1]; exact clR_s hi24, by omega⟩) hV hS (lv_sub hl [1, 2, 3, 0] rfl)
  exact loop_2 ((24 * la0 + 24) + 1 - (24 * la0)) (24 * la0) V (ρ.L 0) (ρ.L 1) _ _ _ (by omega) (by omega) (⟨by show mdOk k _ mo ad ((ρ.wL 0 (ρ.L 0)).wL 1 (ρ.L 1)); rw [wL_self, wL_self]; exact hM, mdFr.rf (mo := mo) (ad := ad) (V := V), (clR_0 rfl).symm, (clR_0 rfl).symm, Nat.le_refl _⟩) hV hS (lv_sub hl [1, 2, 3, 0] rfl)
