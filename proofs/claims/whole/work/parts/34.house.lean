/-! The house: counters, acts -/
abbrev eAc (rg sn : Nat) (op ch : Int32) : va_E := .inr (0, [.ref rg, .ref sn, .int op, .int ch])
abbrev eAs (k : Nat → Nat) (fa : Nat → Option Nat) : va_E := .inl (k 4, 10, .inr (.inr (.inr (.inr fa))))
/-- the acts: fa: where they lie; rg, sn, sa: their regions, snapshots, the snapshots' rows; A: 0 open, 1 changes, 2 to 5 the region; Z: what the snapshot knows -/
def acOk (k : Nat → Nat) (V : HV) (ac : Nat) (fa : Nat → Option Nat) (rg sn sa : Nat → Nat) (A Z : Nat → Nat → Int32) : Prop :=
  V ac = some (eAs k fa) ∧ (∀ j a, j < 10 → fa j = some a → V a = some (eAc (rg j) (sn j) (A j 0) (A j 1)) ∧ V (rg j) = some (eAr (A j 2) (A j 3) (A j 4) (A j 5)) ∧ V (sn j) = some (eSn (sa j)) ∧ V (sa j) = some (eI k 150 (Z j))) ∧ (∀ j, j < 10 → fa j = none → A j 0 = 0)
def opn (A : Nat → Nat → Int32) : Nat → Bool := fun j => !decide (A j 0 = 0)
/-- an open act other than ex whose region has a cell in common with the area -/
def mtP (fa : Nat → Option Nat) (A : Nat → Nat → Int32) (ex : Option Nat) (x y u v : Int32) : Nat → Bool := fun j => !decide (A j 0 = 0) && !decide (fa j = ex) && ar_meets (A j 2) (A j 3) (A j 4) (A j 5) x y u v
set_option maxHeartbeats 4000000 in
set_option maxRecDepth 100000 in
/-- isFull -/
theorem c_Ho_isFull (l : Launch) (D : va_G) (N0 : Nat) (k : Nat → Nat) (V : HV) (ho bo gi co ta ac ve : Nat) (wo : Option Nat) (lay rs : Int32) (h_ho : V ho = some (eHo lay bo gi co ta ac ve wo rs)) (G : Nat → Int32) (h_gi : V gi = some (eI k 8 G)) (K : Nat) (hK1 : 1 ≤ K) (hK7 : K ≤ 7) : Met l y_Ho_isFull (.code y_Ho_isFull b_Ho_isFull 2 (some .boolean) :: WS) ({ frames := 0, cells := 0, slots := 0, locals := 0 }) (mP D N0 k [.ref ho, .int (nI K)] V) (va_Qi (fun r V' => r = bI (decide (limV K ≤ G K)) ∧ V' = V) (mB D N0) (hA N0)) 0 0 (hA N0) := by
  refine Met.ofW (cc := b_Ho_isFull) (maxL := 2) (ret := (some .boolean)) (by decide) rfl ?_
  intro p e s m args below meth c s₁ B hml hv0
  obtain ⟨rfl, hG, hV⟩ := hv0
  have hx := B.exec
  have hb := B.bytes
  have hr := B.returns
  have hts := atoms_spec (ws := .code y_Ho_isFull b_Ho_isFull 2 (some .boolean) :: WS) B.pre
  have hW : ∀ w ∈ WS, w.before _ s = true := fun w h => hts w (List.mem_cons_of_mem _ h)
  have hown : s.vm.findClass "BoardHouse" = some m.cls := findClass_of_methodNamed B.named
  have hlocks := B.notSynchronized
  have hS : va_S (hA N0) s.heap s.heap [] := va_S.rf
  have hl := lv_entry ([.ref ho, .int (nI K)]) (n := 2) (Nat.le_of_ble_eq_true rfl)
  rw [lg_entry_eq]
  generalize (lg_sl ([.ref ho, .int (nI K)]) ++ List.replicate (2 - (lg_sl ([.ref ho, .int (nI K)])).length) Slot.unset).toArray = ls at hl ⊢
  have hl : lv_has ls 2 [(0, .ref ho), (1, .int (nI K))] := hl
  refine lv_aload_n hx hb d_Ho_isFull_0 rfl (lv_at hl 0 rfl) ?_
  refine gf_Ho_18 hx hb hW hown hG hV h_ho d_Ho_isFull_1 ?_
  refine lv_iload_n hx hb d_Ho_isFull_4 rfl (lv_at hl 1 rfl) ?_
  refine hv_iald hx hb hG.K hV 0 h_gi rfl (vp_in_nI (by omega) (by omega)) d_Ho_isFull_5 ?_
  rw [nI_clamp (by omega)]
  refine va_gets hx hb hG.2.2.2.2.1.1 hS hown (hW _ wf_Ho_22) (fun _ h => h) d_Ho_isFull_6 ?_
  refine lv_iload_n hx hb d_Ho_isFull_9 rfl (lv_at hl 1 rfl) ?_
  refine va_ti (v := .int (limV K)) hx hb hG.2.2.2.2.1.2 hS (vp_in_nI (by omega) (by omega)) (by rw [nI_clamp (by omega)]) d_Ho_isFull_10 ?_
  refine lv_icmp_lt (tgt := 18) hx hb d_Ho_isFull_11 (by decide) (fun c_1 => ?_) (fun c_1 => ?_)
  · have c_1 := i_nle c_1
    refine lv_iconst (v := 0) hx hb d_Ho_isFull_18 (by decide) ?_
    exact W.zret (v := 0) hx hb hr rfl (fun t ht hW => ⟨⟨0, V, rfl, ⟨by simp [bI, c_1], rfl⟩, mB_of ht hV⟩, hS.F ht⟩) hS.2.2 d_Ho_isFull_19
  · have c_1 := i_le c_1
    refine lv_iconst (v := 1) hx hb d_Ho_isFull_14 (by decide) ?_
    refine lv_goto (tgt := 19) hx hb d_Ho_isFull_15 (by decide) ?_
    exact W.zret (v := 1) hx hb hr rfl (fun t ht hW => ⟨⟨1, V, rfl, ⟨by simp [bI, c_1], rfl⟩, mB_of ht hV⟩, hS.F ht⟩) hS.2.2 d_Ho_isFull_19
set_option maxHeartbeats 4000000 in
set_option maxRecDepth 100000 in
/-- nextHandle -/
theorem c_Ho_nextHandle (l : Launch) (D : va_G) (N0 : Nat) (k : Nat → Nat) (V : HV) (ho bo gi co ta ac ve : Nat) (wo : Option Nat) (lay rs : Int32) (h_ho : V ho = some (eHo lay bo gi co ta ac ve wo rs)) (G : Nat → Int32) (h_gi : V gi = some (eI k 8 G)) (K : Nat) (hK1 : 1 ≤ K) (hK7 : K ≤ 7) : Met l y_Ho_nextHandle (.code y_Ho_nextHandle b_Ho_nextHandle 3 (some .int) :: WS) ({ frames := 0, cells := 0, slots := 0, locals := 0 }) (mP D N0 k [.ref ho, .int (nI K)] V) (va_Qi (fun r V' => r = 1000 * nI K + G K ∧ V' = hu V gi (eI k 8 (upd G K (G K + 1)))) (mB D N0) (hA N0)) 0 0 (hA N0) := by
  refine Met.ofW (cc := b_Ho_nextHandle) (maxL := 3) (ret := (some .int)) (by decide) rfl ?_
  intro p e s m args below meth c s₁ B hml hv0
  obtain ⟨rfl, hG, hV⟩ := hv0
  have hx := B.exec
  have hb := B.bytes
  have hr := B.returns
  have hts := atoms_spec (ws := .code y_Ho_nextHandle b_Ho_nextHandle 3 (some .int) :: WS) B.pre
  have hW : ∀ w ∈ WS, w.before _ s = true := fun w h => hts w (List.mem_cons_of_mem _ h)
  have hown : s.vm.findClass "BoardHouse" = some m.cls := findClass_of_methodNamed B.named
  have hlocks := B.notSynchronized
  have hS : va_S (hA N0) s.heap s.heap [] := va_S.rf
  have hl := lv_entry ([.ref ho, .int (nI K)]) (n := 3) (Nat.le_of_ble_eq_true rfl)
  rw [lg_entry_eq]
  generalize (lg_sl ([.ref ho, .int (nI K)]) ++ List.replicate (3 - (lg_sl ([.ref ho, .int (nI K)])).length) Slot.unset).toArray = ls at hl ⊢
  have hl : lv_has ls 3 [(0, .ref ho), (1, .int (nI K))] := hl
  refine lv_sipush (v := 1000) hx hb d_Ho_nextHandle_0 (by decide) ?_
  refine lv_iload_n hx hb d_Ho_nextHandle_3 rfl (lv_at hl 1 rfl) ?_
  refine lv_imul hx hb d_Ho_nextHandle_4 ?_
  refine lv_aload_n hx hb d_Ho_nextHandle_5 rfl (lv_at hl 0 rfl) ?_
  refine gf_Ho_18 hx hb hW hown hG hV h_ho d_Ho_nextHandle_6 ?_
  refine lv_iload_n hx hb d_Ho_nextHandle_9 rfl (lv_at hl 1 rfl) ?_
  refine hv_iald hx hb hG.K hV 0 h_gi rfl (vp_in_nI (by omega) (by omega)) d_Ho_nextHandle_10 ?_
  rw [nI_clamp (by omega)]
  refine lv_iadd hx hb d_Ho_nextHandle_11 ?_
  refine lv_istore_n (lv' := [(2, .int ((1000 * (nI K)) + (G K))), (0, .ref ho), (1, .int (nI K))]) hx hb d_Ho_nextHandle_12 rfl hl (by decide) rfl (fun ls hl => ?_)
  refine lv_aload_n hx hb d_Ho_nextHandle_13 rfl (lv_at hl 1 rfl) ?_
  refine gf_Ho_18 hx hb hW hown hG hV h_ho d_Ho_nextHandle_14 ?_
  refine lv_iload_n hx hb d_Ho_nextHandle_17 rfl (lv_at hl 2 rfl) ?_
  refine lv_dup2_11 hx hb d_Ho_nextHandle_18 rfl rfl ?_
  refine hv_iald hx hb hG.K hV 0 h_gi rfl (vp_in_nI (by omega) (by omega)) d_Ho_nextHandle_19 ?_
  rw [nI_clamp (by omega)]
  refine lv_iconst (v := 1) hx hb d_Ho_nextHandle_20 (by decide) ?_
  refine lv_iadd hx hb d_Ho_nextHandle_21 ?_
  refine hv_iast hx hb hG.K hV hS 0 h_gi rfl (vp_in_nI (by omega) (by omega)) d_Ho_nextHandle_22 (fun H locs hV hS => ?_)
  rw [nI_clamp (by omega)] at hV
  replace hV : hv D vwCl N0 (hu V gi (.inl (k 0, 8, .inl (upd G K ((G K) + 1))))) H := hV
  generalize hV_V_1 : hu V gi (.inl (k 0, 8, .inl (upd G K ((G K) + 1)))) = V_1 at hV
  have h_ho'V_1 : V_1 ho = some (.inr (6, [.int lay, .ref bo, .ref gi, .ref co, .ref ta, .ref ac, .ref ve, va_rf wo, .int rs])) := by rw [← hV_V_1]; exact hu_o h_gi h_ho (by simp)
  have hgi'V_1 : V_1 gi = some (.inl (k 0, 8, .inl (upd G K ((G K) + 1)))) := by rw [← hV_V_1]; exact hu_s
  refine lv_iload_n hx hb d_Ho_nextHandle_23 rfl (lv_at hl 0 rfl) ?_
  exact W.iret (v := ((1000 * (nI K)) + (G K))) hx hb hr (fun t ht hW => ⟨⟨((1000 * (nI K)) + (G K)), V_1, rfl, ⟨rfl, by first | rfl | exact hV_V_1.symm⟩, mB_of ht hV⟩, hS.F ht⟩) hS.2.2 d_Ho_nextHandle_24
set_option maxHeartbeats 4000000 in
set_option maxRecDepth 100000 in
/-- demandThing -/
theorem r_Ho_demandThing (l : Launch) (D : va_G) (N0 : Nat) (k : Nat → Nat) (V : HV) (ho bo gi co ta ac ve : Nat) (wo : Option Nat) (lay rs : Int32) (h_ho : V ho = some (eHo lay bo gi co ta ac ve wo rs)) (G : Nat → Int32) (h_gi : V gi = some (eI k 8 G)) (f : Nat → Option Nat) (ar : Nat → Nat) (T : Nat → Nat → Int32) (hT : tsOk k V ta f ar T) (h : Int32) (K N i t : Nat) (hK : h / 1000 = nI K) (hR : h - h / 1000 * 1000 = nI N) (hK2 : 2 ≤ K) (hK5 : K ≤ 5) (hi : firV K + nI N = nI i) (hi150 : i < 150) (hf : f i = some t) : Met l y_Ho_demandThing (.code y_Ho_demandThing b_Ho_demandThing 5 (some (.object "BoardHouse$Thing")) :: WS) ({ frames := 6, cells := 0, slots := 0, locals := 90 }) (mP D N0 k [.ref ho, .int h] V) (va_Sq (fun r => r = some t)) 0 0 (fun _ => False) := by
  refine Met.ofW (cc := b_Ho_demandThing) (maxL := 5) (ret := (some (.object "BoardHouse$Thing"))) (by decide) rfl ?_
  intro p e s m args below meth c s₁ B hml hv0
  obtain ⟨rfl, hG, hV⟩ := hv0
  have hx := B.exec
  have hb := B.bytes
  have hr := B.returns
  have hts := atoms_spec (ws := .code y_Ho_demandThing b_Ho_demandThing 5 (some (.object "BoardHouse$Thing")) :: WS) B.pre
  have hW : ∀ w ∈ WS, w.before _ s = true := fun w h => hts w (List.mem_cons_of_mem _ h)
  have hown : s.vm.findClass "BoardHouse" = some m.cls := findClass_of_methodNamed B.named
  have hlocks := B.notSynchronized
  have hS : va_S (hA N0) s.heap s.heap [] := va_S.rf
  have hl := lv_entry ([.ref ho, .int h]) (n := 5) (Nat.le_of_ble_eq_true rfl)
  rw [lg_entry_eq]
  generalize (lg_sl ([.ref ho, .int h]) ++ List.replicate (5 - (lg_sl ([.ref ho, .int h])).length) Slot.unset).toArray = ls at hl ⊢
  have hl : lv_has ls 5 [(0, .ref ho), (1, .int h)] := hl
  refine lv_iload_n hx hb d_Ho_demandThing_0 rfl (lv_at hl 1 rfl) ?_
  refine lv_sipush (v := 1000) hx hb d_Ho_demandThing_1 (by decide) ?_
  refine lv_idiv hx hb d_Ho_demandThing_4 (by decide) ?_
  rw [hK]
  refine W.eq (g2 := F0 m 5 ls [.int (nI K)]) rfl ?_
  refine lv_istore_n (lv' := [(2, .int (nI K)), (0, .ref ho), (1, .int h)]) hx hb d_Ho_demandThing_5 rfl hl (by decide) rfl (fun ls hl => ?_)
  refine lv_iload_n hx hb d_Ho_demandThing_6 rfl (lv_at hl 0 rfl) ?_
  refine lv_iconst (v := 2) hx hb d_Ho_demandThing_7 (by decide) ?_
  refine lv_icmp_lt (tgt := 16) hx hb d_Ho_demandThing_8 (by decide) (fun c_1 => ?_) (fun c_1 => ?_)
  · have c_1 := i_nle c_1
    exact absurd (nI_le (a := 2) (b := K) (by omega) (by omega)) c_1
  · have c_1 := i_le c_1
    refine lv_iload_n hx hb d_Ho_demandThing_11 rfl (lv_at hl 0 rfl) ?_
    refine lv_iconst (v := 5) hx hb d_Ho_demandThing_12 (by decide) ?_
    refine lv_icmp_le (tgt := 26) hx hb d_Ho_demandThing_13 (by decide) (fun c_2 => ?_) (fun c_2 => ?_)
    · refine va_gets hx hb hG.2.2.2.2.2.1.1 hS hown (hW _ wf_Ho_234) (fun _ h => h) d_Ho_demandThing_26 ?_
      refine lv_iload_n hx hb d_Ho_demandThing_29 rfl (lv_at hl 0 rfl) ?_
      refine va_ti (v := .int (firV K)) hx hb hG.2.2.2.2.2.1.2 hS (vp_in_nI (by omega) (by omega)) (by rw [nI_clamp (by omega)]) d_Ho_demandThing_30 ?_
      refine lv_iload_n hx hb d_Ho_demandThing_31 rfl (lv_at hl 2 rfl) ?_
      refine lv_sipush (v := 1000) hx hb d_Ho_demandThing_32 (by decide) ?_
      refine lv_irem hx hb d_Ho_demandThing_35 (by decide) ?_
      rw [hR]
      refine W.eq (g2 := F0 m 36 ls [.int (nI N), .int (firV K)]) rfl ?_
      refine lv_iadd hx hb d_Ho_demandThing_36 ?_
      rw [hi]
      refine W.eq (g2 := F0 m 37 ls [.int (nI i)]) rfl ?_
      refine lv_istore_n (lv' := [(3, .int (nI i)), (2, .int (nI K)), (0, .ref ho), (1, .int h)]) hx hb d_Ho_demandThing_37 rfl hl (by decide) rfl (fun ls hl => ?_)
      refine lv_iload_n hx hb d_Ho_demandThing_38 rfl (lv_at hl 0 rfl) ?_
      refine lv_sipush (v := 150) hx hb d_Ho_demandThing_39 (by decide) ?_
      refine lv_icmp_ge (tgt := 54) hx hb d_Ho_demandThing_42 (by decide) (fun c_3 => ?_) (fun c_3 => ?_)
      · exact absurd (nI_le' (a := 150) (b := i) c_3 (by decide) (by omega)) (by omega)
      · refine lv_aload_n hx hb d_Ho_demandThing_45 rfl (lv_at hl 2 rfl) ?_
        refine gf_Ho_70 hx hb hW hown hG hV h_ho d_Ho_demandThing_46 ?_
        refine lv_iload_n hx hb d_Ho_demandThing_49 rfl (lv_at hl 0 rfl) ?_
        refine hv_aald (v := f i) hx hb hG.K hV 3 hT.1 rfl (vp_in_nI (by omega) (by omega)) (by rw [nI_clamp (by omega)]) d_Ho_demandThing_50 ?_
        rw [hf]
        refine W.eq (g2 := F0 m 51 ls [.ref t]) rfl ?_
        refine lv_goto (tgt := 55) hx hb d_Ho_demandThing_51 (by decide) ?_
        refine lv_astore (lv' := [(4, .ref t), (3, .int (nI i)), (2, .int (nI K)), (0, .ref ho), (1, .int h)]) hx hb d_Ho_demandThing_55 hl (by decide) rfl (fun ls hl => ?_)
        refine lv_aload hx hb d_Ho_demandThing_57 (lv_at hl 0 rfl) ?_
        refine lv_ifnonnull (tgt := 72) hx hb d_Ho_demandThing_59 (by decide) ?_
        refine lv_aload hx hb d_Ho_demandThing_72 (lv_at hl 0 rfl) ?_
        exact W.aret (v := va_rf (some t)) hx hb hr (by first | exact Or.inl ⟨_, rfl⟩ | exact Or.inr ⟨_, rfl⟩) (va_rf_or _) (fun t9 ht hW => ⟨(some t), rfl, rfl, ht⟩) (fun q h => nomatch h) d_Ho_demandThing_74
    · exact absurd (nI_le (a := K) (b := 5) (by omega) (by omega)) c_2
set_option maxHeartbeats 4000000 in
set_option maxRecDepth 100000 in
/-- demandThing: none of a thing -/
theorem t_Ho_demandThing (l : Launch) (hls : l.stackTraces = false) (D : va_G) (N0 : Nat) (k : Nat → Nat) (V : HV) (ho bo gi co ta ac ve : Nat) (wo : Option Nat) (lay rs : Int32) (h_ho : V ho = some (eHo lay bo gi co ta ac ve wo rs)) (G : Nat → Int32) (h_gi : V gi = some (eI k 8 G)) (h : Int32) (K : Nat) (hK : h / 1000 = nI K) (hK7 : K ≤ 7) (hK2 : K < 2 ∨ 5 < K) : hx_Met l y_Ho_demandThing (.code y_Ho_demandThing b_Ho_demandThing 5 (some (.object "BoardHouse$Thing")) :: WS) ({ frames := 6, cells := 1, slots := 6, locals := 90 }) (mP D N0 k [.ref ho, .int h] V) "java/lang/IllegalArgumentException" (fun H9 => hv D vwCl N0 V H9) N0 1 6 := by
  refine hx_ofW (cc := b_Ho_demandThing) (maxL := 5) (ret := (some (.object "BoardHouse$Thing"))) (by decide) rfl ?_
  intro p e s m args below meth c s₁ B hml hno hv0
  obtain ⟨rfl, hG, hV⟩ := hv0
  have hx := B.exec
  have hb := B.bytes
  have hr := B.returns
  have hts := atoms_spec (ws := .code y_Ho_demandThing b_Ho_demandThing 5 (some (.object "BoardHouse$Thing")) :: WS) B.pre
  have hW : ∀ w ∈ WS, w.before _ s = true := fun w h => hts w (List.mem_cons_of_mem _ h)
  have hown : s.vm.findClass "BoardHouse" = some m.cls := findClass_of_methodNamed B.named
  have hlocks := B.notSynchronized
  have hS : va_S (hA N0) s.heap s.heap [] := va_S.rf
  have hl := lv_entry ([.ref ho, .int h]) (n := 5) (Nat.le_of_ble_eq_true rfl)
  rw [lg_entry_eq]
  generalize (lg_sl ([.ref ho, .int h]) ++ List.replicate (5 - (lg_sl ([.ref ho, .int h])).length) Slot.unset).toArray = ls at hl ⊢
  have hl : lv_has ls 5 [(0, .ref ho), (1, .int h)] := hl
  refine lv_iload_n hx hb d_Ho_demandThing_0 rfl (lv_at hl 1 rfl) ?_
  refine lv_sipush (v := 1000) hx hb d_Ho_demandThing_1 (by decide) ?_
  refine lv_idiv hx hb d_Ho_demandThing_4 (by decide) ?_
  rw [hK]
  refine W.eq (g2 := F0 m 5 ls [.int (nI K)]) rfl ?_
  refine lv_istore_n (lv' := [(2, .int (nI K)), (0, .ref ho), (1, .int h)]) hx hb d_Ho_demandThing_5 rfl hl (by decide) rfl (fun ls hl => ?_)
  refine lv_iload_n hx hb d_Ho_demandThing_6 rfl (lv_at hl 0 rfl) ?_
  refine lv_iconst (v := 2) hx hb d_Ho_demandThing_7 (by decide) ?_
  refine lv_icmp_lt (tgt := 16) hx hb d_Ho_demandThing_8 (by decide) (fun c_1 => ?_) (fun c_1 => ?_)
  · have c_1 := i_nle c_1
    obtain ⟨sa, hstr⟩ := hG.2.2.2.2.2.2.2.2 (232, "this handle is not of a thing") (by decide)
    exact hx_throwS (own := "BoardHouse") (cls := "java/lang/IllegalArgumentException") (text := "this handle is not of a thing") (names := xN) (ik := 79) (is := 232) (ic := 83) hx hb hls hown (by decide +kernel) (by decide +kernel) (hW _ wk_Ho_79) (hW _ wi_JG) hstr (own_of hW hG own_G) (by rw [hml]; exact hl.1) d_Ho_demandThing_16 d_Ho_demandThing_19 d_Ho_demandThing_20 d_Ho_demandThing_22 d_Ho_demandThing_25 hno (Nat.le_of_ble_eq_true rfl) (Nat.le_of_ble_eq_true rfl) (Nat.le_of_ble_eq_true rfl) (Nat.le_of_ble_eq_true rfl) hlocks (fun H9 h91 h92 => hv.keep hV h92)
  · have c_1 := i_le c_1
    refine lv_iload_n hx hb d_Ho_demandThing_11 rfl (lv_at hl 0 rfl) ?_
    refine lv_iconst (v := 5) hx hb d_Ho_demandThing_12 (by decide) ?_
    refine lv_icmp_le (tgt := 26) hx hb d_Ho_demandThing_13 (by decide) (fun c_2 => ?_) (fun c_2 => ?_)
    · exact absurd (nI_le' (a := 2) (b := K) c_1 (by decide) (by omega)) (fun q1 => absurd (nI_le' (a := K) (b := 5) c_2 (by omega) (by decide)) (by omega))
    · obtain ⟨sa, hstr⟩ := hG.2.2.2.2.2.2.2.2 (232, "this handle is not of a thing") (by decide)
      exact hx_throwS (own := "BoardHouse") (cls := "java/lang/IllegalArgumentException") (text := "this handle is not of a thing") (names := xN) (ik := 79) (is := 232) (ic := 83) hx hb hls hown (by decide +kernel) (by decide +kernel) (hW _ wk_Ho_79) (hW _ wi_JG) hstr (own_of hW hG own_G) (by rw [hml]; exact hl.1) d_Ho_demandThing_16 d_Ho_demandThing_19 d_Ho_demandThing_20 d_Ho_demandThing_22 d_Ho_demandThing_25 hno (Nat.le_of_ble_eq_true rfl) (Nat.le_of_ble_eq_true rfl) (Nat.le_of_ble_eq_true rfl) (Nat.le_of_ble_eq_true rfl) hlocks (fun H9 h91 h92 => hv.keep hV h92)
set_option maxHeartbeats 4000000 in
set_option maxRecDepth 100000 in
/-- meetsOpenAct -/
theorem c_Ho_meetsOpenAct_N (l : Launch) (D : va_G) (N0 : Nat) (k : Nat → Nat) (V : HV) (ho bo gi co ta ac ve : Nat) (wo : Option Nat) (lay rs : Int32) (h_ho : V ho = some (eHo lay bo gi co ta ac ve wo rs)) (G : Nat → Int32) (h_gi : V gi = some (eI k 8 G)) (fa : Nat → Option Nat) (rg sn sa : Nat → Nat) (A Z : Nat → Nat → Int32) (hA0 : acOk k V ac fa rg sn sa A Z) (a : Nat) (x y u v : Int32) (h_a : V a = some (eAr x y u v)) : Met l y_Ho_meetsOpenAct (.code y_Ho_meetsOpenAct b_Ho_meetsOpenAct 7 (some .boolean) :: WS) ({ frames := 1, cells := 0, slots := 0, locals := 21 }) (mP D N0 k [.ref ho, .ref a, .null] V) (va_Qi (fun r V' => r = bI (anyF (mtP fa A none x y u v) 0 10) ∧ V' = V) (mB D N0) (hA N0)) 0 0 (hA N0) := by
  refine Met.ofW (cc := b_Ho_meetsOpenAct) (maxL := 7) (ret := (some .boolean)) (by decide) rfl ?_
  intro p e s m args below meth c s₁ B hml hv0
  obtain ⟨rfl, hG, hV⟩ := hv0
  have hx := B.exec
  have hb := B.bytes
  have hr := B.returns
  have hts := atoms_spec (ws := .code y_Ho_meetsOpenAct b_Ho_meetsOpenAct 7 (some .boolean) :: WS) B.pre
  have hW : ∀ w ∈ WS, w.before _ s = true := fun w h => hts w (List.mem_cons_of_mem _ h)
  have hown : s.vm.findClass "BoardHouse" = some m.cls := findClass_of_methodNamed B.named
  have hlocks := B.notSynchronized
  have hS : va_S (hA N0) s.heap s.heap [] := va_S.rf
  have hl := lv_entry ([.ref ho, .ref a, .null]) (n := 7) (Nat.le_of_ble_eq_true rfl)
  rw [lg_entry_eq]
  generalize (lg_sl ([.ref ho, .ref a, .null]) ++ List.replicate (7 - (lg_sl ([.ref ho, .ref a, .null])).length) Slot.unset).toArray = ls at hl ⊢
  have hl : lv_has ls 7 [(0, .ref ho), (1, .ref a), (2, .null)] := hl
  refine lv_aload_n hx hb d_Ho_meetsOpenAct_0 rfl (lv_at hl 0 rfl) ?_
  refine gf_Ho_27 hx hb hW hown hG hV h_ho d_Ho_meetsOpenAct_1 ?_
  refine lv_astore_n (lv' := [(3, .ref ac), (0, .ref ho), (1, .ref a), (2, .null)]) hx hb d_Ho_meetsOpenAct_4 rfl hl (by decide) rfl (fun ls hl => ?_)
  refine lv_aload_n hx hb d_Ho_meetsOpenAct_5 rfl (lv_at hl 0 rfl) ?_
  refine hv_alen hx hb hG.K hV 4 hA0.1 rfl (v := nI 10) rfl d_Ho_meetsOpenAct_6 ?_
  refine lv_istore (lv' := [(4, .int (nI 10)), (3, .ref ac), (0, .ref ho), (1, .ref a), (2, .null)]) hx hb d_Ho_meetsOpenAct_7 hl (by decide) rfl (fun ls hl => ?_)
  refine lv_iconst (v := 0) hx hb d_Ho_meetsOpenAct_9 (by decide) ?_
  refine lv_istore (lv' := [(5, .int 0), (4, .int (nI 10)), (3, .ref ac), (0, .ref ho), (1, .ref a), (2, .null)]) hx hb d_Ho_meetsOpenAct_10 hl (by decide) rfl (fun ls hl => ?_)
  obtain ⟨P, hP⟩ : ∃ P : Nat → Bool, P = (mtP fa A none x y u v) := ⟨_, rfl⟩
  have loop_1 : ∀ (n i : Nat) (H : Heap) (locs : List Loc) (ls : Array Slot), i ≤ 10 → 10 + 1 ≤ i + n → (bI (anyF P 0 10) = bI (anyF P i (10 - i))) → hv D vwCl N0 V H → va_S (hA N0) s.heap H locs → lv_has ls 7 [(0, .ref ho), (1, .ref a), (2, .null), (3, .ref ac), (4, .int (nI 10)), (5, .int (nI i))] → W p l e (headSpec (.code y_Ho_meetsOpenAct b_Ho_meetsOpenAct 7 (some .boolean) :: WS) ({ frames := 1, cells := 0, slots := 0, locals := 21 })).room s m #[.ref ho, .ref a, .null] below meth c H locs 0 0 (MQ below (va_Qi (fun r V' => r = bI (anyF (mtP fa A none x y u v) 0 10) ∧ V' = V) (mB D N0) (hA N0)) #[.ref ho, .ref a, .null] s 0 0 (hA N0)) (F0 m 12 ls []) := by
    intro n
    induction n with
    | zero => intro i  H locs ls h1 h2; exact absurd h2 (by omega)
    | succ n ih =>
      intro i  H locs ls hi hin hI hV hS hl
      refine lv_iload hx hb d_Ho_meetsOpenAct_12 (lv_at hl 5 rfl) ?_
      refine lv_iload hx hb d_Ho_meetsOpenAct_14 (lv_at hl 4 rfl) ?_
      refine lv_icmp_ge (tgt := 64) hx hb d_Ho_meetsOpenAct_16 (by decide) (fun c_2 => ?_) (fun c_2 => ?_)
      · have hge : 10 ≤ i := nI_le' c_2 (by omega) (by omega)
        refine lv_iconst (v := 0) hx hb d_Ho_meetsOpenAct_64 (by decide) ?_
        exact W.zret (v := 0) hx hb hr rfl (fun t ht hW => ⟨⟨0, V, rfl, ⟨by rw [← hP, hI, anyF_end hge]; rfl, rfl⟩, mB_of ht hV⟩, hS.F ht⟩) hS.2.2 d_Ho_meetsOpenAct_65
      · have hlt : i < 10 := nI_nle' c_2 (by omega) (by omega)
        refine lv_aload_n hx hb d_Ho_meetsOpenAct_19 rfl (lv_at hl 3 rfl) ?_
        refine lv_iload hx hb d_Ho_meetsOpenAct_20 (lv_at hl 5 rfl) ?_
        refine hv_aald (v := fa i) hx hb hG.K hV 4 hA0.1 rfl (vp_in_nI (by omega) (by omega)) (by rw [nI_clamp (by omega)]) d_Ho_meetsOpenAct_22 ?_
        cases hf_3 : fa i with
        | none =>
          refine W.eq (g2 := F0 m 23 ls [.null]) rfl ?_
          refine lv_astoreN (lv' := [(6, .null), (0, .ref ho), (1, .ref a), (2, .null), (3, .ref ac), (4, .int (nI 10)), (5, .int (nI i))]) hx hb d_Ho_meetsOpenAct_23 hl (by decide) rfl (fun ls hl => ?_)
          refine lv_aloadN hx hb d_Ho_meetsOpenAct_25 (lv_at hl 0 rfl) ?_
          refine lv_ifnullN (tgt := 58) hx hb d_Ho_meetsOpenAct_27 (by decide) ?_
          obtain ⟨i_5, ei_5⟩ : ∃ y : Int32, y = (nI i) + 1 := ⟨_, rfl⟩
          refine lv_iinc (v := i_5) (lv' := [(5, .int i_5), (6, .null), (0, .ref ho), (1, .ref a), (2, .null), (3, .ref ac), (4, .int (nI 10))]) hx hb d_Ho_meetsOpenAct_58 hl (k := 6) rfl (by rw [ei_5]; rfl) (by decide) rfl (fun ls hl => ?_)
          refine lv_goto (tgt := 12) hx hb d_Ho_meetsOpenAct_61 (by decide) ?_
          rw [nI_1] at ei_5
          subst ei_5
          have hA9 := hA0.2.2 i (by omega) hf_3
          have hPi : P i = false := by subst hP; first | (simp [mtP, hA9, hf_3]; done) | (simp [mtP, hA9, hf_3]; simp_all; done)
          exact ih (i + 1)  _ _ _ (by omega) (by omega) (by rw [hI, anyF_step hlt, hPi, Bool.false_or]) hV hS (lv_sub hl [2, 3, 4, 5, 6, 0] rfl)
        | some t_4 =>
          refine W.eq (g2 := F0 m 23 ls [.ref t_4]) rfl ?_
          obtain ⟨h_t_4, hr_t_4, hs_t_4, hz_t_4⟩ := hA0.2.1 i t_4 (by omega) hf_3
          refine lv_astore (lv' := [(6, .ref t_4), (0, .ref ho), (1, .ref a), (2, .null), (3, .ref ac), (4, .int (nI 10)), (5, .int (nI i))]) hx hb d_Ho_meetsOpenAct_23 hl (by decide) rfl (fun ls hl => ?_)
          refine lv_aload hx hb d_Ho_meetsOpenAct_25 (lv_at hl 0 rfl) ?_
          refine lv_ifnull hx hb d_Ho_meetsOpenAct_27 ?_
          refine lv_aload hx hb d_Ho_meetsOpenAct_30 (lv_at hl 0 rfl) ?_
          refine gf_Ho_209 hx hb hW hown hG hV h_t_4 d_Ho_meetsOpenAct_32 ?_
          refine lv_if_eq (tgt := 58) hx hb d_Ho_meetsOpenAct_35 (by decide) (fun c_6 => ?_) (fun c_6 => ?_)
          · obtain ⟨i_7, ei_7⟩ : ∃ y : Int32, y = (nI i) + 1 := ⟨_, rfl⟩
            refine lv_iinc (v := i_7) (lv' := [(5, .int i_7), (6, .ref t_4), (0, .ref ho), (1, .ref a), (2, .null), (3, .ref ac), (4, .int (nI 10))]) hx hb d_Ho_meetsOpenAct_58 hl (k := 6) rfl (by rw [ei_7]; rfl) (by decide) rfl (fun ls hl => ?_)
            refine lv_goto (tgt := 12) hx hb d_Ho_meetsOpenAct_61 (by decide) ?_
            rw [nI_1] at ei_7
            subst ei_7
            try simp only [bI_ne0, bI_eq0] at c_6
            have hPi : P i = false := by subst hP; first | (simp [mtP, c_6, hf_3]; done) | (simp [mtP, c_6, hf_3]; simp_all; done)
            exact ih (i + 1)  _ _ _ (by omega) (by omega) (by rw [hI, anyF_step hlt, hPi, Bool.false_or]) hV hS (lv_sub hl [2, 3, 4, 5, 6, 0] rfl)
          · refine lv_aload hx hb d_Ho_meetsOpenAct_38 (lv_at hl 0 rfl) ?_
            refine lv_aload_nN hx hb d_Ho_meetsOpenAct_40 rfl (lv_at hl 3 rfl) ?_
            refine lv_acmp_eq (rx := some t_4) (ry := none) (tgt := 58) hx hb d_Ho_meetsOpenAct_41 (by decide) (fun c_8 => ?_) (fun c_8 => ?_)
            · obtain ⟨i_9, ei_9⟩ : ∃ y : Int32, y = (nI i) + 1 := ⟨_, rfl⟩
              refine lv_iinc (v := i_9) (lv' := [(5, .int i_9), (6, .ref t_4), (0, .ref ho), (1, .ref a), (2, .null), (3, .ref ac), (4, .int (nI 10))]) hx hb d_Ho_meetsOpenAct_58 hl (k := 6) rfl (by rw [ei_9]; rfl) (by decide) rfl (fun ls hl => ?_)
              refine lv_goto (tgt := 12) hx hb d_Ho_meetsOpenAct_61 (by decide) ?_
              rw [nI_1] at ei_9
              subst ei_9
              try simp only [bI_ne0, bI_eq0] at c_6
              try simp only [bI_ne0, bI_eq0] at c_8
              have hPi : P i = false := by subst hP; first | (simp [mtP, c_6, c_8, hf_3]; done) | (simp [mtP, c_6, c_8, hf_3]; simp_all; done)
              exact ih (i + 1)  _ _ _ (by omega) (by omega) (by rw [hI, anyF_step hlt, hPi, Bool.false_or]) hV hS (lv_sub hl [2, 3, 4, 5, 6, 0] rfl)
            · refine lv_aload hx hb d_Ho_meetsOpenAct_44 (lv_at hl 0 rfl) ?_
              refine gf_Ho_275 hx hb hW hown hG hV h_t_4 d_Ho_meetsOpenAct_46 ?_
              refine lv_aload_n hx hb d_Ho_meetsOpenAct_49 rfl (lv_at hl 2 rfl) ?_
              refine rc_i (va_runV (As := [.ref a]) (rest := []) ⟨hx, hb, hml, hown, hts⟩ (c_Ar_meets l D N0 k V (rg i) a (A i 2) (A i 3) (A i 4) (A i 5) x y u v hr_t_4 h_a) (cwV 1 hts (gi_V wm_Ho_278 wv_Ar_meets ws_Ar_meets wi_Ar wc_Ar_meets) rfl rfl rfl (by decide +kernel) ⟨Nat.le_of_ble_eq_true rfl, Nat.le_of_ble_eq_true rfl⟩) (mP.preV hG hS hV hr_t_4 rfl) rfl rfl hl.1 rfl (lv_room (Nat.le_of_ble_eq_true rfl)) d_Ho_meetsOpenAct_50 ⟨Nat.le_of_ble_eq_true rfl, Nat.le_of_ble_eq_true rfl⟩) hS (fun H locs hV hS => ?_)
              refine lv_if_eq (tgt := 58) hx hb d_Ho_meetsOpenAct_53 (by decide) (fun c_10 => ?_) (fun c_10 => ?_)
              · obtain ⟨i_11, ei_11⟩ : ∃ y : Int32, y = (nI i) + 1 := ⟨_, rfl⟩
                refine lv_iinc (v := i_11) (lv' := [(5, .int i_11), (6, .ref t_4), (0, .ref ho), (1, .ref a), (2, .null), (3, .ref ac), (4, .int (nI 10))]) hx hb d_Ho_meetsOpenAct_58 hl (k := 6) rfl (by rw [ei_11]; rfl) (by decide) rfl (fun ls hl => ?_)
                refine lv_goto (tgt := 12) hx hb d_Ho_meetsOpenAct_61 (by decide) ?_
                rw [nI_1] at ei_11
                subst ei_11
                try simp only [bI_ne0, bI_eq0] at c_6
                try simp only [bI_ne0, bI_eq0] at c_8
                try simp only [bI_ne0, bI_eq0] at c_10
                have hPi : P i = false := by subst hP; first | (simp [mtP, c_6, c_8, c_10, hf_3]; done) | (simp [mtP, c_6, c_8, c_10, hf_3]; simp_all; done)
                exact ih (i + 1)  _ _ _ (by omega) (by omega) (by rw [hI, anyF_step hlt, hPi, Bool.false_or]) hV hS (lv_sub hl [2, 3, 4, 5, 6, 0] rfl)
              · refine lv_iconst (v := 1) hx hb d_Ho_meetsOpenAct_56 (by decide) ?_
                try simp only [bI_ne0, bI_eq0] at c_6
                try simp only [bI_ne0, bI_eq0] at c_8
                try simp only [bI_ne0, bI_eq0] at c_10
                have hPi : P i = true := by subst hP; first | (simp [mtP, c_6, c_8, c_10, hf_3]; done) | (simp [mtP, hf_3]; simp_all; done)
                exact W.zret (v := 1) hx hb hr rfl (fun t ht hW => ⟨⟨1, V, rfl, ⟨by rw [← hP, hI, anyF_step hlt, hPi]; rfl, rfl⟩, mB_of ht hV⟩, hS.F ht⟩) hS.2.2 d_Ho_meetsOpenAct_57
  exact loop_1 (10 + 1 - 0) 0  _ _ _ (by omega) (by omega) rfl hV hS (lv_sub hl [3, 4, 5, 2, 1, 0] rfl)
set_option maxHeartbeats 4000000 in
set_option maxRecDepth 100000 in
/-- meetsOpenAct -/
theorem c_Ho_meetsOpenAct_S (l : Launch) (D : va_G) (N0 : Nat) (k : Nat → Nat) (V : HV) (ho bo gi co ta ac ve : Nat) (wo : Option Nat) (lay rs : Int32) (h_ho : V ho = some (eHo lay bo gi co ta ac ve wo rs)) (G : Nat → Int32) (h_gi : V gi = some (eI k 8 G)) (fa : Nat → Option Nat) (rg sn sa : Nat → Nat) (A Z : Nat → Nat → Int32) (hA0 : acOk k V ac fa rg sn sa A Z) (a : Nat) (x y u v : Int32) (h_a : V a = some (eAr x y u v)) (ex : Nat) : Met l y_Ho_meetsOpenAct (.code y_Ho_meetsOpenAct b_Ho_meetsOpenAct 7 (some .boolean) :: WS) ({ frames := 1, cells := 0, slots := 0, locals := 21 }) (mP D N0 k [.ref ho, .ref a, .ref ex] V) (va_Qi (fun r V' => r = bI (anyF (mtP fa A (some ex) x y u v) 0 10) ∧ V' = V) (mB D N0) (hA N0)) 0 0 (hA N0) := by
  refine Met.ofW (cc := b_Ho_meetsOpenAct) (maxL := 7) (ret := (some .boolean)) (by decide) rfl ?_
  intro p e s m args below meth c s₁ B hml hv0
  obtain ⟨rfl, hG, hV⟩ := hv0
  have hx := B.exec
  have hb := B.bytes
  have hr := B.returns
  have hts := atoms_spec (ws := .code y_Ho_meetsOpenAct b_Ho_meetsOpenAct 7 (some .boolean) :: WS) B.pre
  have hW : ∀ w ∈ WS, w.before _ s = true := fun w h => hts w (List.mem_cons_of_mem _ h)
  have hown : s.vm.findClass "BoardHouse" = some m.cls := findClass_of_methodNamed B.named
  have hlocks := B.notSynchronized
  have hS : va_S (hA N0) s.heap s.heap [] := va_S.rf
  have hl := lv_entry ([.ref ho, .ref a, .ref ex]) (n := 7) (Nat.le_of_ble_eq_true rfl)
  rw [lg_entry_eq]
  generalize (lg_sl ([.ref ho, .ref a, .ref ex]) ++ List.replicate (7 - (lg_sl ([.ref ho, .ref a, .ref ex])).length) Slot.unset).toArray = ls at hl ⊢
  have hl : lv_has ls 7 [(0, .ref ho), (1, .ref a), (2, .ref ex)] := hl
  refine lv_aload_n hx hb d_Ho_meetsOpenAct_0 rfl (lv_at hl 0 rfl) ?_
  refine gf_Ho_27 hx hb hW hown hG hV h_ho d_Ho_meetsOpenAct_1 ?_
  refine lv_astore_n (lv' := [(3, .ref ac), (0, .ref ho), (1, .ref a), (2, .ref ex)]) hx hb d_Ho_meetsOpenAct_4 rfl hl (by decide) rfl (fun ls hl => ?_)
  refine lv_aload_n hx hb d_Ho_meetsOpenAct_5 rfl (lv_at hl 0 rfl) ?_
  refine hv_alen hx hb hG.K hV 4 hA0.1 rfl (v := nI 10) rfl d_Ho_meetsOpenAct_6 ?_
  refine lv_istore (lv' := [(4, .int (nI 10)), (3, .ref ac), (0, .ref ho), (1, .ref a), (2, .ref ex)]) hx hb d_Ho_meetsOpenAct_7 hl (by decide) rfl (fun ls hl => ?_)
  refine lv_iconst (v := 0) hx hb d_Ho_meetsOpenAct_9 (by decide) ?_
  refine lv_istore (lv' := [(5, .int 0), (4, .int (nI 10)), (3, .ref ac), (0, .ref ho), (1, .ref a), (2, .ref ex)]) hx hb d_Ho_meetsOpenAct_10 hl (by decide) rfl (fun ls hl => ?_)
  obtain ⟨P, hP⟩ : ∃ P : Nat → Bool, P = (mtP fa A (some ex) x y u v) := ⟨_, rfl⟩
  have loop_1 : ∀ (n i : Nat) (H : Heap) (locs : List Loc) (ls : Array Slot), i ≤ 10 → 10 + 1 ≤ i + n → (bI (anyF P 0 10) = bI (anyF P i (10 - i))) → hv D vwCl N0 V H → va_S (hA N0) s.heap H locs → lv_has ls 7 [(0, .ref ho), (1, .ref a), (2, .ref ex), (3, .ref ac), (4, .int (nI 10)), (5, .int (nI i))] → W p l e (headSpec (.code y_Ho_meetsOpenAct b_Ho_meetsOpenAct 7 (some .boolean) :: WS) ({ frames := 1, cells := 0, slots := 0, locals := 21 })).room s m #[.ref ho, .ref a, .ref ex] below meth c H locs 0 0 (MQ below (va_Qi (fun r V' => r = bI (anyF (mtP fa A (some ex) x y u v) 0 10) ∧ V' = V) (mB D N0) (hA N0)) #[.ref ho, .ref a, .ref ex] s 0 0 (hA N0)) (F0 m 12 ls []) := by
    intro n
    induction n with
    | zero => intro i  H locs ls h1 h2; exact absurd h2 (by omega)
    | succ n ih =>
      intro i  H locs ls hi hin hI hV hS hl
      refine lv_iload hx hb d_Ho_meetsOpenAct_12 (lv_at hl 5 rfl) ?_
      refine lv_iload hx hb d_Ho_meetsOpenAct_14 (lv_at hl 4 rfl) ?_
      refine lv_icmp_ge (tgt := 64) hx hb d_Ho_meetsOpenAct_16 (by decide) (fun c_2 => ?_) (fun c_2 => ?_)
      · have hge : 10 ≤ i := nI_le' c_2 (by omega) (by omega)
        refine lv_iconst (v := 0) hx hb d_Ho_meetsOpenAct_64 (by decide) ?_
        exact W.zret (v := 0) hx hb hr rfl (fun t ht hW => ⟨⟨0, V, rfl, ⟨by rw [← hP, hI, anyF_end hge]; rfl, rfl⟩, mB_of ht hV⟩, hS.F ht⟩) hS.2.2 d_Ho_meetsOpenAct_65
      · have hlt : i < 10 := nI_nle' c_2 (by omega) (by omega)
        refine lv_aload_n hx hb d_Ho_meetsOpenAct_19 rfl (lv_at hl 3 rfl) ?_
        refine lv_iload hx hb d_Ho_meetsOpenAct_20 (lv_at hl 5 rfl) ?_
        refine hv_aald (v := fa i) hx hb hG.K hV 4 hA0.1 rfl (vp_in_nI (by omega) (by omega)) (by rw [nI_clamp (by omega)]) d_Ho_meetsOpenAct_22 ?_
        cases hf_3 : fa i with
        | none =>
          refine W.eq (g2 := F0 m 23 ls [.null]) rfl ?_
          refine lv_astoreN (lv' := [(6, .null), (0, .ref ho), (1, .ref a), (2, .ref ex), (3, .ref ac), (4, .int (nI 10)), (5, .int (nI i))]) hx hb d_Ho_meetsOpenAct_23 hl (by decide) rfl (fun ls hl => ?_)
          refine lv_aloadN hx hb d_Ho_meetsOpenAct_25 (lv_at hl 0 rfl) ?_
          refine lv_ifnullN (tgt := 58) hx hb d_Ho_meetsOpenAct_27 (by decide) ?_
          obtain ⟨i_5, ei_5⟩ : ∃ y : Int32, y = (nI i) + 1 := ⟨_, rfl⟩
          refine lv_iinc (v := i_5) (lv' := [(5, .int i_5), (6, .null), (0, .ref ho), (1, .ref a), (2, .ref ex), (3, .ref ac), (4, .int (nI 10))]) hx hb d_Ho_meetsOpenAct_58 hl (k := 6) rfl (by rw [ei_5]; rfl) (by decide) rfl (fun ls hl => ?_)
          refine lv_goto (tgt := 12) hx hb d_Ho_meetsOpenAct_61 (by decide) ?_
          rw [nI_1] at ei_5
          subst ei_5
          have hA9 := hA0.2.2 i (by omega) hf_3
          have hPi : P i = false := by subst hP; first | (simp [mtP, hA9, hf_3]; done) | (simp [mtP, hA9, hf_3]; simp_all; done)
          exact ih (i + 1)  _ _ _ (by omega) (by omega) (by rw [hI, anyF_step hlt, hPi, Bool.false_or]) hV hS (lv_sub hl [2, 3, 4, 5, 6, 0] rfl)
        | some t_4 =>
          refine W.eq (g2 := F0 m 23 ls [.ref t_4]) rfl ?_
          obtain ⟨h_t_4, hr_t_4, hs_t_4, hz_t_4⟩ := hA0.2.1 i t_4 (by omega) hf_3
          refine lv_astore (lv' := [(6, .ref t_4), (0, .ref ho), (1, .ref a), (2, .ref ex), (3, .ref ac), (4, .int (nI 10)), (5, .int (nI i))]) hx hb d_Ho_meetsOpenAct_23 hl (by decide) rfl (fun ls hl => ?_)
          refine lv_aload hx hb d_Ho_meetsOpenAct_25 (lv_at hl 0 rfl) ?_
          refine lv_ifnull hx hb d_Ho_meetsOpenAct_27 ?_
          refine lv_aload hx hb d_Ho_meetsOpenAct_30 (lv_at hl 0 rfl) ?_
          refine gf_Ho_209 hx hb hW hown hG hV h_t_4 d_Ho_meetsOpenAct_32 ?_
          refine lv_if_eq (tgt := 58) hx hb d_Ho_meetsOpenAct_35 (by decide) (fun c_6 => ?_) (fun c_6 => ?_)
          · obtain ⟨i_7, ei_7⟩ : ∃ y : Int32, y = (nI i) + 1 := ⟨_, rfl⟩
            refine lv_iinc (v := i_7) (lv' := [(5, .int i_7), (6, .ref t_4), (0, .ref ho), (1, .ref a), (2, .ref ex), (3, .ref ac), (4, .int (nI 10))]) hx hb d_Ho_meetsOpenAct_58 hl (k := 6) rfl (by rw [ei_7]; rfl) (by decide) rfl (fun ls hl => ?_)
            refine lv_goto (tgt := 12) hx hb d_Ho_meetsOpenAct_61 (by decide) ?_
            rw [nI_1] at ei_7
            subst ei_7
            try simp only [bI_ne0, bI_eq0] at c_6
            have hPi : P i = false := by subst hP; first | (simp [mtP, c_6, hf_3]; done) | (simp [mtP, c_6, hf_3]; simp_all; done)
            exact ih (i + 1)  _ _ _ (by omega) (by omega) (by rw [hI, anyF_step hlt, hPi, Bool.false_or]) hV hS (lv_sub hl [2, 3, 4, 5, 6, 0] rfl)
          · refine lv_aload hx hb d_Ho_meetsOpenAct_38 (lv_at hl 0 rfl) ?_
            refine lv_aload_n hx hb d_Ho_meetsOpenAct_40 rfl (lv_at hl 3 rfl) ?_
            refine lv_acmp_eq (rx := some t_4) (ry := some ex) (tgt := 58) hx hb d_Ho_meetsOpenAct_41 (by decide) (fun c_8 => ?_) (fun c_8 => ?_)
            · obtain ⟨i_9, ei_9⟩ : ∃ y : Int32, y = (nI i) + 1 := ⟨_, rfl⟩
              refine lv_iinc (v := i_9) (lv' := [(5, .int i_9), (6, .ref t_4), (0, .ref ho), (1, .ref a), (2, .ref ex), (3, .ref ac), (4, .int (nI 10))]) hx hb d_Ho_meetsOpenAct_58 hl (k := 6) rfl (by rw [ei_9]; rfl) (by decide) rfl (fun ls hl => ?_)
              refine lv_goto (tgt := 12) hx hb d_Ho_meetsOpenAct_61 (by decide) ?_
              rw [nI_1] at ei_9
              subst ei_9
              try simp only [bI_ne0, bI_eq0] at c_6
              try simp only [bI_ne0, bI_eq0] at c_8
              have hPi : P i = false := by subst hP; first | (simp [mtP, c_6, c_8, hf_3]; done) | (simp [mtP, c_6, c_8, hf_3]; simp_all; done)
              exact ih (i + 1)  _ _ _ (by omega) (by omega) (by rw [hI, anyF_step hlt, hPi, Bool.false_or]) hV hS (lv_sub hl [2, 3, 4, 5, 6, 0] rfl)
            · refine lv_aload hx hb d_Ho_meetsOpenAct_44 (lv_at hl 0 rfl) ?_
              refine gf_Ho_275 hx hb hW hown hG hV h_t_4 d_Ho_meetsOpenAct_46 ?_
              refine lv_aload_n hx hb d_Ho_meetsOpenAct_49 rfl (lv_at hl 2 rfl) ?_
              refine rc_i (va_runV (As := [.ref a]) (rest := []) ⟨hx, hb, hml, hown, hts⟩ (c_Ar_meets l D N0 k V (rg i) a (A i 2) (A i 3) (A i 4) (A i 5) x y u v hr_t_4 h_a) (cwV 1 hts (gi_V wm_Ho_278 wv_Ar_meets ws_Ar_meets wi_Ar wc_Ar_meets) rfl rfl rfl (by decide +kernel) ⟨Nat.le_of_ble_eq_true rfl, Nat.le_of_ble_eq_true rfl⟩) (mP.preV hG hS hV hr_t_4 rfl) rfl rfl hl.1 rfl (lv_room (Nat.le_of_ble_eq_true rfl)) d_Ho_meetsOpenAct_50 ⟨Nat.le_of_ble_eq_true rfl, Nat.le_of_ble_eq_true rfl⟩) hS (fun H locs hV hS => ?_)
              refine lv_if_eq (tgt := 58) hx hb d_Ho_meetsOpenAct_53 (by decide) (fun c_10 => ?_) (fun c_10 => ?_)
              · obtain ⟨i_11, ei_11⟩ : ∃ y : Int32, y = (nI i) + 1 := ⟨_, rfl⟩
                refine lv_iinc (v := i_11) (lv' := [(5, .int i_11), (6, .ref t_4), (0, .ref ho), (1, .ref a), (2, .ref ex), (3, .ref ac), (4, .int (nI 10))]) hx hb d_Ho_meetsOpenAct_58 hl (k := 6) rfl (by rw [ei_11]; rfl) (by decide) rfl (fun ls hl => ?_)
                refine lv_goto (tgt := 12) hx hb d_Ho_meetsOpenAct_61 (by decide) ?_
                rw [nI_1] at ei_11
                subst ei_11
                try simp only [bI_ne0, bI_eq0] at c_6
                try simp only [bI_ne0, bI_eq0] at c_8
                try simp only [bI_ne0, bI_eq0] at c_10
                have hPi : P i = false := by subst hP; first | (simp [mtP, c_6, c_8, c_10, hf_3]; done) | (simp [mtP, c_6, c_8, c_10, hf_3]; simp_all; done)
                exact ih (i + 1)  _ _ _ (by omega) (by omega) (by rw [hI, anyF_step hlt, hPi, Bool.false_or]) hV hS (lv_sub hl [2, 3, 4, 5, 6, 0] rfl)
              · refine lv_iconst (v := 1) hx hb d_Ho_meetsOpenAct_56 (by decide) ?_
                try simp only [bI_ne0, bI_eq0] at c_6
                try simp only [bI_ne0, bI_eq0] at c_8
                try simp only [bI_ne0, bI_eq0] at c_10
                have hPi : P i = true := by subst hP; first | (simp [mtP, c_6, c_8, c_10, hf_3]; done) | (simp [mtP, hf_3]; simp_all; done)
                exact W.zret (v := 1) hx hb hr rfl (fun t ht hW => ⟨⟨1, V, rfl, ⟨by rw [← hP, hI, anyF_step hlt, hPi]; rfl, rfl⟩, mB_of ht hV⟩, hS.F ht⟩) hS.2.2 d_Ho_meetsOpenAct_57
  exact loop_1 (10 + 1 - 0) 0  _ _ _ (by omega) (by omega) rfl hV hS (lv_sub hl [3, 4, 5, 2, 1, 0] rfl)
