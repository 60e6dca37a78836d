/-! The house: what its small methods demand -/
theorem hv.keep {D : va_G} {cl : List vw_C} {N0 : Nat} {V : HV} {H H' : Heap} (h : hv D cl N0 V H) (hk : ∀ q : Nat, q < H.size → H'[q]? = H[q]?) : hv D cl N0 V H' := fun a e ha => ⟨(h a e ha).1, (h a e ha).2.kept (hk a (h a e ha).2.lt)⟩
abbrev eHo (lay : Int32) (bo gi co ta ac ve : Nat) (wo : Option Nat) (rs : Int32) : va_E := .inr (6, [.int lay, .ref bo, .ref gi, .ref co, .ref ta, .ref ac, .ref ve, va_rf wo, .int rs])
def gvOk (G : Nat → Int32) (h : Int32) : Bool := decide (1000 ≤ h) && decide (h / 1000 ≤ 7) && !decide (G (h / 1000).toNatClampNeg ≤ h - h / 1000 * 1000)
theorem h_nat {h : Int32} (h1 : 1000 ≤ h) : ∃ j : Nat, j < 2 ^ 31 ∧ h = nI j ∧ 1000 ≤ j ∧ h / 1000 = nI (j / 1000) ∧ h - h / 1000 * 1000 = nI (j % 1000) := by
  obtain ⟨j, hj, rfl⟩ := nI_of (x := h) (fun q => Int32.lt_irrefl (Int32.lt_of_lt_of_le q (Int32.le_trans (by decide : (0 : Int32) ≤ 1000) h1)))
  have e : (1000 : Int32) = nI 1000 := rfl
  have hj1 : 1000 ≤ j := nI_le' (a := 1000) h1 (by decide) hj
  refine ⟨j, hj, rfl, hj1, ?_, ?_⟩
  · rw [e, pk_div hj (by decide) (by decide)]
  · rw [e, pk_rem hj (by decide) (by decide)]
theorem gv_in {h : Int32} (h1 : 1000 ≤ h) (h2 : h / 1000 ≤ 7) : vp_in (h / 1000) 8 := by
  obtain ⟨j, hj, -, -, e1, -⟩ := h_nat h1
  rw [e1] at h2 ⊢
  have := nI_le' (b := 7) h2 (by omega) (by decide)
  exact vp_in_nI (by omega) (by decide)
set_option maxHeartbeats 4000000 in
set_option maxRecDepth 100000 in
/-- demandGiven: the number was given -/
theorem r_Ho_demandGiven (l : Launch) (D : va_G) (N0 : Nat) (k : Nat → Nat) (V : HV) (ho bo gi co ta ac ve : Nat) (wo : Option Nat) (lay rs : Int32) (h_ho : V ho = some (eHo lay bo gi co ta ac ve wo rs)) (G : Nat → Int32) (h_gi : V gi = some (eI k 8 G)) (h : Int32) (hok : gvOk G h = true) : Met l y_Ho_demandGiven (.code y_Ho_demandGiven b_Ho_demandGiven 3 none :: WS) ({ frames := 6, cells := 0, slots := 0, locals := 90 }) (mP D N0 k [.ref ho, .int h] V) (va_Sv (fun _ => True)) 0 0 (fun _ => False) := by
  refine Met.ofW (cc := b_Ho_demandGiven) (maxL := 3) (ret := none) (by decide) rfl ?_
  intro p e s m args below meth c s₁ B hml hv0
  obtain ⟨rfl, hG, hV⟩ := hv0
  have hx := B.exec
  have hb := B.bytes
  have hr := B.returns
  have hts := atoms_spec (ws := .code y_Ho_demandGiven b_Ho_demandGiven 3 none :: WS) B.pre
  have hW : ∀ w ∈ WS, w.before _ s = true := fun w h => hts w (List.mem_cons_of_mem _ h)
  have hown : s.vm.findClass "BoardHouse" = some m.cls := findClass_of_methodNamed B.named
  have hlocks := B.notSynchronized
  have hS : va_S (hA N0) s.heap s.heap [] := va_S.rf
  have hl := lv_entry ([.ref ho, .int h]) (n := 3) (Nat.le_of_ble_eq_true rfl)
  rw [lg_entry_eq]
  generalize (lg_sl ([.ref ho, .int h]) ++ List.replicate (3 - (lg_sl ([.ref ho, .int h])).length) Slot.unset).toArray = ls at hl ⊢
  have hl : lv_has ls 3 [(0, .ref ho), (1, .int h)] := hl
  refine lv_iload_n hx hb d_Ho_demandGiven_0 rfl (lv_at hl 1 rfl) ?_
  refine lv_sipush (v := 1000) hx hb d_Ho_demandGiven_1 (by decide) ?_
  refine lv_idiv hx hb d_Ho_demandGiven_4 (by decide) ?_
  refine lv_istore_n (lv' := [(2, .int (h / 1000)), (0, .ref ho), (1, .int h)]) hx hb d_Ho_demandGiven_5 rfl hl (by decide) rfl (fun ls hl => ?_)
  refine lv_iload_n hx hb d_Ho_demandGiven_6 rfl (lv_at hl 2 rfl) ?_
  refine lv_sipush (v := 1000) hx hb d_Ho_demandGiven_7 (by decide) ?_
  refine lv_icmp_lt (tgt := 33) hx hb d_Ho_demandGiven_10 (by decide) (fun c_1 => ?_) (fun c_1 => ?_)
  · have c_1 := i_nle c_1
    exact absurd hok (by simp [gvOk, c_1])
  · have c_1 := i_le c_1
    refine lv_iload_n hx hb d_Ho_demandGiven_13 rfl (lv_at hl 0 rfl) ?_
    refine lv_bipush (v := 7) hx hb d_Ho_demandGiven_14 (by decide) ?_
    refine lv_icmp_gt (tgt := 33) hx hb d_Ho_demandGiven_16 (by decide) (fun c_2 => ?_) (fun c_2 => ?_)
    · have c_2 := i_nle c_2
      exact absurd hok (by simp [gvOk, c_1, c_2])
    · have c_2 := i_le c_2
      refine lv_iload_n hx hb d_Ho_demandGiven_19 rfl (lv_at hl 2 rfl) ?_
      refine lv_sipush (v := 1000) hx hb d_Ho_demandGiven_20 (by decide) ?_
      refine lv_irem hx hb d_Ho_demandGiven_23 (by decide) ?_
      refine lv_aload_n hx hb d_Ho_demandGiven_24 rfl (lv_at hl 1 rfl) ?_
      refine gf_Ho_18 hx hb hW hown hG hV h_ho d_Ho_demandGiven_25 ?_
      refine lv_iload_n hx hb d_Ho_demandGiven_28 rfl (lv_at hl 0 rfl) ?_
      refine hv_iald hx hb hG.K hV 0 h_gi rfl (gv_in c_1 c_2) d_Ho_demandGiven_29 ?_
      refine lv_icmp_lt (tgt := 43) hx hb d_Ho_demandGiven_30 (by decide) (fun c_3 => ?_) (fun c_3 => ?_)
      · have c_3 := i_nle c_3
        exact W.vret hx hb hr (fun t ht hW => ⟨rfl, trivial, ht⟩) (fun q h => nomatch h) d_Ho_demandGiven_43
      · have c_3 := i_le c_3
        exact absurd hok (by simp [gvOk, c_1, c_2, c_3])
set_option maxHeartbeats 4000000 in
set_option maxRecDepth 100000 in
/-- demandGiven: it was not -/
theorem t_Ho_demandGiven (l : Launch) (hls : l.stackTraces = false) (D : va_G) (N0 : Nat) (k : Nat → Nat) (V : HV) (ho bo gi co ta ac ve : Nat) (wo : Option Nat) (lay rs : Int32) (h_ho : V ho = some (eHo lay bo gi co ta ac ve wo rs)) (G : Nat → Int32) (h_gi : V gi = some (eI k 8 G)) (h : Int32) (hok : gvOk G h = false) : hx_Met l y_Ho_demandGiven (.code y_Ho_demandGiven b_Ho_demandGiven 3 none :: WS) ({ frames := 6, cells := 1, slots := 6, locals := 90 }) (mP D N0 k [.ref ho, .int h] V) "java/lang/IndexOutOfBoundsException" (fun H9 => hv D vwCl N0 V H9) N0 1 6 := by
  refine hx_ofW (cc := b_Ho_demandGiven) (maxL := 3) (ret := none) (by decide) rfl ?_
  intro p e s m args below meth c s₁ B hml hno hv0
  obtain ⟨rfl, hG, hV⟩ := hv0
  have hx := B.exec
  have hb := B.bytes
  have hr := B.returns
  have hts := atoms_spec (ws := .code y_Ho_demandGiven b_Ho_demandGiven 3 none :: WS) B.pre
  have hW : ∀ w ∈ WS, w.before _ s = true := fun w h => hts w (List.mem_cons_of_mem _ h)
  have hown : s.vm.findClass "BoardHouse" = some m.cls := findClass_of_methodNamed B.named
  have hlocks := B.notSynchronized
  have hS : va_S (hA N0) s.heap s.heap [] := va_S.rf
  have hl := lv_entry ([.ref ho, .int h]) (n := 3) (Nat.le_of_ble_eq_true rfl)
  rw [lg_entry_eq]
  generalize (lg_sl ([.ref ho, .int h]) ++ List.replicate (3 - (lg_sl ([.ref ho, .int h])).length) Slot.unset).toArray = ls at hl ⊢
  have hl : lv_has ls 3 [(0, .ref ho), (1, .int h)] := hl
  refine lv_iload_n hx hb d_Ho_demandGiven_0 rfl (lv_at hl 1 rfl) ?_
  refine lv_sipush (v := 1000) hx hb d_Ho_demandGiven_1 (by decide) ?_
  refine lv_idiv hx hb d_Ho_demandGiven_4 (by decide) ?_
  refine lv_istore_n (lv' := [(2, .int (h / 1000)), (0, .ref ho), (1, .int h)]) hx hb d_Ho_demandGiven_5 rfl hl (by decide) rfl (fun ls hl => ?_)
  refine lv_iload_n hx hb d_Ho_demandGiven_6 rfl (lv_at hl 2 rfl) ?_
  refine lv_sipush (v := 1000) hx hb d_Ho_demandGiven_7 (by decide) ?_
  refine lv_icmp_lt (tgt := 33) hx hb d_Ho_demandGiven_10 (by decide) (fun c_1 => ?_) (fun c_1 => ?_)
  · have c_1 := i_nle c_1
    obtain ⟨sa, hstr⟩ := hG.2.2.2.2.2.2.2.2 (226, "this number was not given") (by decide)
    exact hx_throwS (own := "BoardHouse") (cls := "java/lang/IndexOutOfBoundsException") (text := "this number was not given") (names := xN) (ik := 155) (is := 226) (ic := 159) hx hb hls hown (by decide +kernel) (by decide +kernel) (hW _ wk_Ho_155) (hW _ wi_JX) hstr (own_of hW hG own_X) (by rw [hml]; exact hl.1) d_Ho_demandGiven_33 d_Ho_demandGiven_36 d_Ho_demandGiven_37 d_Ho_demandGiven_39 d_Ho_demandGiven_42 hno (Nat.le_of_ble_eq_true rfl) (Nat.le_of_ble_eq_true rfl) (Nat.le_of_ble_eq_true rfl) (Nat.le_of_ble_eq_true rfl) hlocks (fun H9 h91 h92 => hv.keep hV h92)
  · have c_1 := i_le c_1
    refine lv_iload_n hx hb d_Ho_demandGiven_13 rfl (lv_at hl 0 rfl) ?_
    refine lv_bipush (v := 7) hx hb d_Ho_demandGiven_14 (by decide) ?_
    refine lv_icmp_gt (tgt := 33) hx hb d_Ho_demandGiven_16 (by decide) (fun c_2 => ?_) (fun c_2 => ?_)
    · have c_2 := i_nle c_2
      obtain ⟨sa, hstr⟩ := hG.2.2.2.2.2.2.2.2 (226, "this number was not given") (by decide)
      exact hx_throwS (own := "BoardHouse") (cls := "java/lang/IndexOutOfBoundsException") (text := "this number was not given") (names := xN) (ik := 155) (is := 226) (ic := 159) hx hb hls hown (by decide +kernel) (by decide +kernel) (hW _ wk_Ho_155) (hW _ wi_JX) hstr (own_of hW hG own_X) (by rw [hml]; exact hl.1) d_Ho_demandGiven_33 d_Ho_demandGiven_36 d_Ho_demandGiven_37 d_Ho_demandGiven_39 d_Ho_demandGiven_42 hno (Nat.le_of_ble_eq_true rfl) (Nat.le_of_ble_eq_true rfl) (Nat.le_of_ble_eq_true rfl) (Nat.le_of_ble_eq_true rfl) hlocks (fun H9 h91 h92 => hv.keep hV h92)
    · have c_2 := i_le c_2
      refine lv_iload_n hx hb d_Ho_demandGiven_19 rfl (lv_at hl 2 rfl) ?_
      refine lv_sipush (v := 1000) hx hb d_Ho_demandGiven_20 (by decide) ?_
      refine lv_irem hx hb d_Ho_demandGiven_23 (by decide) ?_
      refine lv_aload_n hx hb d_Ho_demandGiven_24 rfl (lv_at hl 1 rfl) ?_
      refine gf_Ho_18 hx hb hW hown hG hV h_ho d_Ho_demandGiven_25 ?_
      refine lv_iload_n hx hb d_Ho_demandGiven_28 rfl (lv_at hl 0 rfl) ?_
      refine hv_iald hx hb hG.K hV 0 h_gi rfl (gv_in c_1 c_2) d_Ho_demandGiven_29 ?_
      refine lv_icmp_lt (tgt := 43) hx hb d_Ho_demandGiven_30 (by decide) (fun c_3 => ?_) (fun c_3 => ?_)
      · have c_3 := i_nle c_3
        exact absurd hok (by simp [gvOk, c_1, c_2, c_3])
      · have c_3 := i_le c_3
        obtain ⟨sa, hstr⟩ := hG.2.2.2.2.2.2.2.2 (226, "this number was not given") (by decide)
        exact hx_throwS (own := "BoardHouse") (cls := "java/lang/IndexOutOfBoundsException") (text := "this number was not given") (names := xN) (ik := 155) (is := 226) (ic := 159) hx hb hls hown (by decide +kernel) (by decide +kernel) (hW _ wk_Ho_155) (hW _ wi_JX) hstr (own_of hW hG own_X) (by rw [hml]; exact hl.1) d_Ho_demandGiven_33 d_Ho_demandGiven_36 d_Ho_demandGiven_37 d_Ho_demandGiven_39 d_Ho_demandGiven_42 hno (Nat.le_of_ble_eq_true rfl) (Nat.le_of_ble_eq_true rfl) (Nat.le_of_ble_eq_true rfl) (Nat.le_of_ble_eq_true rfl) hlocks (fun H9 h91 h92 => hv.keep hV h92)
set_option maxHeartbeats 4000000 in
set_option maxRecDepth 100000 in
/-- demandKind -/
theorem r_Ho_demandKind (l : Launch) (D : va_G) (N0 : Nat) (k : Nat → Nat) (V : HV) (h q : Int32) (hok : h / 1000 = q) : Met l y_Ho_demandKind (.code y_Ho_demandKind b_Ho_demandKind 2 none :: WS) ({ frames := 6, cells := 0, slots := 0, locals := 90 }) (mP D N0 k [.int h, .int q] V) (va_Sv (fun _ => True)) 0 0 (fun _ => False) := by
  refine Met.ofW (cc := b_Ho_demandKind) (maxL := 2) (ret := none) (by decide) rfl ?_
  intro p e s m args below meth c s₁ B hml hv0
  obtain ⟨rfl, hG, hV⟩ := hv0
  have hx := B.exec
  have hb := B.bytes
  have hr := B.returns
  have hts := atoms_spec (ws := .code y_Ho_demandKind b_Ho_demandKind 2 none :: WS) B.pre
  have hW : ∀ w ∈ WS, w.before _ s = true := fun w h => hts w (List.mem_cons_of_mem _ h)
  have hown : s.vm.findClass "BoardHouse" = some m.cls := findClass_of_methodNamed B.named
  have hlocks := B.notSynchronized
  have hS : va_S (hA N0) s.heap s.heap [] := va_S.rf
  have hl := lv_entry ([.int h, .int q]) (n := 2) (Nat.le_of_ble_eq_true rfl)
  rw [lg_entry_eq]
  generalize (lg_sl ([.int h, .int q]) ++ List.replicate (2 - (lg_sl ([.int h, .int q])).length) Slot.unset).toArray = ls at hl ⊢
  have hl : lv_has ls 2 [(0, .int h), (1, .int q)] := hl
  refine lv_iload_n hx hb d_Ho_demandKind_0 rfl (lv_at hl 0 rfl) ?_
  refine lv_sipush (v := 1000) hx hb d_Ho_demandKind_1 (by decide) ?_
  refine lv_idiv hx hb d_Ho_demandKind_4 (by decide) ?_
  refine lv_iload_n hx hb d_Ho_demandKind_5 rfl (lv_at hl 1 rfl) ?_
  refine lv_icmp_eq (tgt := 19) hx hb d_Ho_demandKind_6 (by decide) (fun c_1 => ?_) (fun c_1 => ?_)
  · exact W.vret hx hb hr (fun t ht hW => ⟨rfl, trivial, ht⟩) (fun q h => nomatch h) d_Ho_demandKind_19
  · exact absurd hok c_1
set_option maxHeartbeats 4000000 in
set_option maxRecDepth 100000 in
/-- demandKind: another -/
theorem t_Ho_demandKind (l : Launch) (hls : l.stackTraces = false) (D : va_G) (N0 : Nat) (k : Nat → Nat) (V : HV) (h q : Int32) (hok : ¬ h / 1000 = q) : hx_Met l y_Ho_demandKind (.code y_Ho_demandKind b_Ho_demandKind 2 none :: WS) ({ frames := 6, cells := 1, slots := 6, locals := 90 }) (mP D N0 k [.int h, .int q] V) "java/lang/IllegalArgumentException" (fun H9 => hv D vwCl N0 V H9) N0 1 6 := by
  refine hx_ofW (cc := b_Ho_demandKind) (maxL := 2) (ret := none) (by decide) rfl ?_
  intro p e s m args below meth c s₁ B hml hno hv0
  obtain ⟨rfl, hG, hV⟩ := hv0
  have hx := B.exec
  have hb := B.bytes
  have hr := B.returns
  have hts := atoms_spec (ws := .code y_Ho_demandKind b_Ho_demandKind 2 none :: WS) B.pre
  have hW : ∀ w ∈ WS, w.before _ s = true := fun w h => hts w (List.mem_cons_of_mem _ h)
  have hown : s.vm.findClass "BoardHouse" = some m.cls := findClass_of_methodNamed B.named
  have hlocks := B.notSynchronized
  have hS : va_S (hA N0) s.heap s.heap [] := va_S.rf
  have hl := lv_entry ([.int h, .int q]) (n := 2) (Nat.le_of_ble_eq_true rfl)
  rw [lg_entry_eq]
  generalize (lg_sl ([.int h, .int q]) ++ List.replicate (2 - (lg_sl ([.int h, .int q])).length) Slot.unset).toArray = ls at hl ⊢
  have hl : lv_has ls 2 [(0, .int h), (1, .int q)] := hl
  refine lv_iload_n hx hb d_Ho_demandKind_0 rfl (lv_at hl 0 rfl) ?_
  refine lv_sipush (v := 1000) hx hb d_Ho_demandKind_1 (by decide) ?_
  refine lv_idiv hx hb d_Ho_demandKind_4 (by decide) ?_
  refine lv_iload_n hx hb d_Ho_demandKind_5 rfl (lv_at hl 1 rfl) ?_
  refine lv_icmp_eq (tgt := 19) hx hb d_Ho_demandKind_6 (by decide) (fun c_1 => ?_) (fun c_1 => ?_)
  · exact absurd c_1 hok
  · obtain ⟨sa, hstr⟩ := hG.2.2.2.2.2.2.2.2 (228, "this handle is of another kind") (by decide)
    exact hx_throwS (own := "BoardHouse") (cls := "java/lang/IllegalArgumentException") (text := "this handle is of another kind") (names := xN) (ik := 79) (is := 228) (ic := 83) hx hb hls hown (by decide +kernel) (by decide +kernel) (hW _ wk_Ho_79) (hW _ wi_JG) hstr (own_of hW hG own_G) (by rw [hml]; exact hl.1) d_Ho_demandKind_9 d_Ho_demandKind_12 d_Ho_demandKind_13 d_Ho_demandKind_15 d_Ho_demandKind_18 hno (Nat.le_of_ble_eq_true rfl) (Nat.le_of_ble_eq_true rfl) (Nat.le_of_ble_eq_true rfl) (Nat.le_of_ble_eq_true rfl) hlocks (fun H9 h91 h92 => hv.keep hV h92)
set_option maxHeartbeats 4000000 in
set_option maxRecDepth 100000 in
/-- demandLayer -/
theorem r_Ho_demandLayer (l : Launch) (D : va_G) (N0 : Nat) (k : Nat → Nat) (V : HV) (ho bo gi co ta ac ve : Nat) (wo : Option Nat) (lay rs : Int32) (h_ho : V ho = some (eHo lay bo gi co ta ac ve wo rs)) (G : Nat → Int32) (h_gi : V gi = some (eI k 8 G)) (x : Int32) (hok : (decide (0 ≤ x) && !decide (lay ≤ x)) = true) : Met l y_Ho_demandLayer (.code y_Ho_demandLayer b_Ho_demandLayer 2 none :: WS) ({ frames := 6, cells := 0, slots := 0, locals := 90 }) (mP D N0 k [.ref ho, .int x] V) (va_Sv (fun _ => True)) 0 0 (fun _ => False) := by
  refine Met.ofW (cc := b_Ho_demandLayer) (maxL := 2) (ret := none) (by decide) rfl ?_
  intro p e s m args below meth c s₁ B hml hv0
  obtain ⟨rfl, hG, hV⟩ := hv0
  have hx := B.exec
  have hb := B.bytes
  have hr := B.returns
  have hts := atoms_spec (ws := .code y_Ho_demandLayer b_Ho_demandLayer 2 none :: WS) B.pre
  have hW : ∀ w ∈ WS, w.before _ s = true := fun w h => hts w (List.mem_cons_of_mem _ h)
  have hown : s.vm.findClass "BoardHouse" = some m.cls := findClass_of_methodNamed B.named
  have hlocks := B.notSynchronized
  have hS : va_S (hA N0) s.heap s.heap [] := va_S.rf
  have hl := lv_entry ([.ref ho, .int x]) (n := 2) (Nat.le_of_ble_eq_true rfl)
  rw [lg_entry_eq]
  generalize (lg_sl ([.ref ho, .int x]) ++ List.replicate (2 - (lg_sl ([.ref ho, .int x])).length) Slot.unset).toArray = ls at hl ⊢
  have hl : lv_has ls 2 [(0, .ref ho), (1, .int x)] := hl
  refine lv_iload_n hx hb d_Ho_demandLayer_0 rfl (lv_at hl 1 rfl) ?_
  refine lv_if_lt (tgt := 12) hx hb d_Ho_demandLayer_1 (by decide) (fun c_1 => ?_) (fun c_1 => ?_)
  · have c_1 := i_nle c_1
    exact absurd hok (by simp [c_1])
  · have c_1 := i_le c_1
    refine lv_iload_n hx hb d_Ho_demandLayer_4 rfl (lv_at hl 1 rfl) ?_
    refine lv_aload_n hx hb d_Ho_demandLayer_5 rfl (lv_at hl 0 rfl) ?_
    refine gf_Ho_54 hx hb hW hown hG hV h_ho d_Ho_demandLayer_6 ?_
    refine lv_icmp_lt (tgt := 22) hx hb d_Ho_demandLayer_9 (by decide) (fun c_2 => ?_) (fun c_2 => ?_)
    · have c_2 := i_nle c_2
      exact W.vret hx hb hr (fun t ht hW => ⟨rfl, trivial, ht⟩) (fun q h => nomatch h) d_Ho_demandLayer_22
    · have c_2 := i_le c_2
      exact absurd hok (by simp [c_1, c_2])
set_option maxHeartbeats 4000000 in
set_option maxRecDepth 100000 in
/-- demandLayer: none such -/
theorem t_Ho_demandLayer (l : Launch) (hls : l.stackTraces = false) (D : va_G) (N0 : Nat) (k : Nat → Nat) (V : HV) (ho bo gi co ta ac ve : Nat) (wo : Option Nat) (lay rs : Int32) (h_ho : V ho = some (eHo lay bo gi co ta ac ve wo rs)) (G : Nat → Int32) (h_gi : V gi = some (eI k 8 G)) (x : Int32) (hok : (decide (0 ≤ x) && !decide (lay ≤ x)) = false) : hx_Met l y_Ho_demandLayer (.code y_Ho_demandLayer b_Ho_demandLayer 2 none :: WS) ({ frames := 6, cells := 1, slots := 6, locals := 90 }) (mP D N0 k [.ref ho, .int x] V) "java/lang/IndexOutOfBoundsException" (fun H9 => hv D vwCl N0 V H9) N0 1 6 := by
  refine hx_ofW (cc := b_Ho_demandLayer) (maxL := 2) (ret := none) (by decide) rfl ?_
  intro p e s m args below meth c s₁ B hml hno hv0
  obtain ⟨rfl, hG, hV⟩ := hv0
  have hx := B.exec
  have hb := B.bytes
  have hr := B.returns
  have hts := atoms_spec (ws := .code y_Ho_demandLayer b_Ho_demandLayer 2 none :: WS) B.pre
  have hW : ∀ w ∈ WS, w.before _ s = true := fun w h => hts w (List.mem_cons_of_mem _ h)
  have hown : s.vm.findClass "BoardHouse" = some m.cls := findClass_of_methodNamed B.named
  have hlocks := B.notSynchronized
  have hS : va_S (hA N0) s.heap s.heap [] := va_S.rf
  have hl := lv_entry ([.ref ho, .int x]) (n := 2) (Nat.le_of_ble_eq_true rfl)
  rw [lg_entry_eq]
  generalize (lg_sl ([.ref ho, .int x]) ++ List.replicate (2 - (lg_sl ([.ref ho, .int x])).length) Slot.unset).toArray = ls at hl ⊢
  have hl : lv_has ls 2 [(0, .ref ho), (1, .int x)] := hl
  refine lv_iload_n hx hb d_Ho_demandLayer_0 rfl (lv_at hl 1 rfl) ?_
  refine lv_if_lt (tgt := 12) hx hb d_Ho_demandLayer_1 (by decide) (fun c_1 => ?_) (fun c_1 => ?_)
  · have c_1 := i_nle c_1
    obtain ⟨sa, hstr⟩ := hG.2.2.2.2.2.2.2.2 (230, "there is no such layer") (by decide)
    exact hx_throwS (own := "BoardHouse") (cls := "java/lang/IndexOutOfBoundsException") (text := "there is no such layer") (names := xN) (ik := 155) (is := 230) (ic := 159) hx hb hls hown (by decide +kernel) (by decide +kernel) (hW _ wk_Ho_155) (hW _ wi_JX) hstr (own_of hW hG own_X) (by rw [hml]; exact hl.1) d_Ho_demandLayer_12 d_Ho_demandLayer_15 d_Ho_demandLayer_16 d_Ho_demandLayer_18 d_Ho_demandLayer_21 hno (Nat.le_of_ble_eq_true rfl) (Nat.le_of_ble_eq_true rfl) (Nat.le_of_ble_eq_true rfl) (Nat.le_of_ble_eq_true rfl) hlocks (fun H9 h91 h92 => hv.keep hV h92)
  · have c_1 := i_le c_1
    refine lv_iload_n hx hb d_Ho_demandLayer_4 rfl (lv_at hl 1 rfl) ?_
    refine lv_aload_n hx hb d_Ho_demandLayer_5 rfl (lv_at hl 0 rfl) ?_
    refine gf_Ho_54 hx hb hW hown hG hV h_ho d_Ho_demandLayer_6 ?_
    refine lv_icmp_lt (tgt := 22) hx hb d_Ho_demandLayer_9 (by decide) (fun c_2 => ?_) (fun c_2 => ?_)
    · have c_2 := i_nle c_2
      exact absurd hok (by simp [c_1, c_2])
    · have c_2 := i_le c_2
      obtain ⟨sa, hstr⟩ := hG.2.2.2.2.2.2.2.2 (230, "there is no such layer") (by decide)
      exact hx_throwS (own := "BoardHouse") (cls := "java/lang/IndexOutOfBoundsException") (text := "there is no such layer") (names := xN) (ik := 155) (is := 230) (ic := 159) hx hb hls hown (by decide +kernel) (by decide +kernel) (hW _ wk_Ho_155) (hW _ wi_JX) hstr (own_of hW hG own_X) (by rw [hml]; exact hl.1) d_Ho_demandLayer_12 d_Ho_demandLayer_15 d_Ho_demandLayer_16 d_Ho_demandLayer_18 d_Ho_demandLayer_21 hno (Nat.le_of_ble_eq_true rfl) (Nat.le_of_ble_eq_true rfl) (Nat.le_of_ble_eq_true rfl) (Nat.le_of_ble_eq_true rfl) hlocks (fun H9 h91 h92 => hv.keep hV h92)
set_option maxHeartbeats 4000000 in
set_option maxRecDepth 100000 in
/-- demandThere -/
theorem r_Ho_demandThere (l : Launch) (D : va_G) (N0 : Nat) (k : Nat → Nat) (V : HV) (t a : Nat) (kd nu la ne pa th : Int32) (h_t : V t = some (eTh kd nu a la ne pa th)) (hok : ¬ th = 0) : Met l y_Ho_demandThere (.code y_Ho_demandThere b_Ho_demandThere 1 none :: WS) ({ frames := 6, cells := 0, slots := 0, locals := 90 }) (mP D N0 k [.ref t] V) (va_Sv (fun _ => True)) 0 0 (fun _ => False) := by
  refine Met.ofW (cc := b_Ho_demandThere) (maxL := 1) (ret := none) (by decide) rfl ?_
  intro p e s m args below meth c s₁ B hml hv0
  obtain ⟨rfl, hG, hV⟩ := hv0
  have hx := B.exec
  have hb := B.bytes
  have hr := B.returns
  have hts := atoms_spec (ws := .code y_Ho_demandThere b_Ho_demandThere 1 none :: WS) B.pre
  have hW : ∀ w ∈ WS, w.before _ s = true := fun w h => hts w (List.mem_cons_of_mem _ h)
  have hown : s.vm.findClass "BoardHouse" = some m.cls := findClass_of_methodNamed B.named
  have hlocks := B.notSynchronized
  have hS : va_S (hA N0) s.heap s.heap [] := va_S.rf
  have hl := lv_entry ([.ref t]) (n := 1) (Nat.le_of_ble_eq_true rfl)
  rw [lg_entry_eq]
  generalize (lg_sl ([.ref t]) ++ List.replicate (1 - (lg_sl ([.ref t])).length) Slot.unset).toArray = ls at hl ⊢
  have hl : lv_has ls 1 [(0, .ref t)] := hl
  refine lv_aload_n hx hb d_Ho_demandThere_0 rfl (lv_at hl 0 rfl) ?_
  refine gf_Ho_172 hx hb hW hown hG hV h_t d_Ho_demandThere_1 ?_
  refine lv_if_ne (tgt := 17) hx hb d_Ho_demandThere_4 (by decide) (fun c_1 => ?_) (fun c_1 => ?_)
  · exact W.vret hx hb hr (fun t ht hW => ⟨rfl, trivial, ht⟩) (fun q h => nomatch h) d_Ho_demandThere_17
  · exact absurd c_1 hok
set_option maxHeartbeats 4000000 in
set_option maxRecDepth 100000 in
/-- demandThere: dropped -/
theorem t_Ho_demandThere (l : Launch) (hls : l.stackTraces = false) (D : va_G) (N0 : Nat) (k : Nat → Nat) (V : HV) (t a : Nat) (kd nu la ne pa th : Int32) (h_t : V t = some (eTh kd nu a la ne pa th)) (hok : th = 0) : hx_Met l y_Ho_demandThere (.code y_Ho_demandThere b_Ho_demandThere 1 none :: WS) ({ frames := 6, cells := 1, slots := 6, locals := 90 }) (mP D N0 k [.ref t] V) "java/lang/IllegalStateException" (fun H9 => hv D vwCl N0 V H9) N0 1 6 := by
  refine hx_ofW (cc := b_Ho_demandThere) (maxL := 1) (ret := none) (by decide) rfl ?_
  intro p e s m args below meth c s₁ B hml hno hv0
  obtain ⟨rfl, hG, hV⟩ := hv0
  have hx := B.exec
  have hb := B.bytes
  have hr := B.returns
  have hts := atoms_spec (ws := .code y_Ho_demandThere b_Ho_demandThere 1 none :: WS) B.pre
  have hW : ∀ w ∈ WS, w.before _ s = true := fun w h => hts w (List.mem_cons_of_mem _ h)
  have hown : s.vm.findClass "BoardHouse" = some m.cls := findClass_of_methodNamed B.named
  have hlocks := B.notSynchronized
  have hS : va_S (hA N0) s.heap s.heap [] := va_S.rf
  have hl := lv_entry ([.ref t]) (n := 1) (Nat.le_of_ble_eq_true rfl)
  rw [lg_entry_eq]
  generalize (lg_sl ([.ref t]) ++ List.replicate (1 - (lg_sl ([.ref t])).length) Slot.unset).toArray = ls at hl ⊢
  have hl : lv_has ls 1 [(0, .ref t)] := hl
  refine lv_aload_n hx hb d_Ho_demandThere_0 rfl (lv_at hl 0 rfl) ?_
  refine gf_Ho_172 hx hb hW hown hG hV h_t d_Ho_demandThere_1 ?_
  refine lv_if_ne (tgt := 17) hx hb d_Ho_demandThere_4 (by decide) (fun c_1 => ?_) (fun c_1 => ?_)
  · exact absurd hok c_1
  · obtain ⟨sa, hstr⟩ := hG.2.2.2.2.2.2.2.2 (239, "it was dropped") (by decide)
    exact hx_throwS (own := "BoardHouse") (cls := "java/lang/IllegalStateException") (text := "it was dropped") (names := xN) (ik := 237) (is := 239) (ic := 241) hx hb hls hown (by decide +kernel) (by decide +kernel) (hW _ wk_Ho_237) (hW _ wi_JS) hstr (own_of hW hG own_S) (by rw [hml]; exact hl.1) d_Ho_demandThere_7 d_Ho_demandThere_10 d_Ho_demandThere_11 d_Ho_demandThere_13 d_Ho_demandThere_16 hno (Nat.le_of_ble_eq_true rfl) (Nat.le_of_ble_eq_true rfl) (Nat.le_of_ble_eq_true rfl) (Nat.le_of_ble_eq_true rfl) hlocks (fun H9 h91 h92 => hv.keep hV h92)
