/-! Thing -/
abbrev eTh (kd nu : Int32) (ar : Nat) (la ne pa th : Int32) : va_E := .inr (5, [.int kd, .int nu, .ref ar, .int la, .int ne, .int pa, .int th])
def th_hasCopper (kd : Int32) : Bool := decide (kd = 3) || decide (kd = 4)
def th_liesOn (kd la x : Int32) : Bool := decide (kd = 3) || decide (la = x)
def th_goesWith (t u : Nat) (pa kd' nu' : Int32) : Bool := decide (t = u) || decide (pa = 1000 * kd' + nu')
def th_excludes (kd la kd' la' : Int32) : Bool := decide (kd = kd') && decide (la = la') && (decide (kd = 2) || decide (kd = 5))
def th_clash (kd la ne x y u v kd' la' ne' a b c d g dx dy : Int32) : Bool := th_hasCopper kd && th_hasCopper kd' && !decide (ne = ne') && (th_liesOn kd la la' || th_liesOn kd' la' la) && ar_near x y u v a b c d g dx dy
def th_state (x y th : Int32) : Int32 := ((y <<< ((6 : Int32) &&& 31)) ||| (x <<< ((1 : Int32) &&& 31))) ||| th
theorem bI_ne0 {b : Bool} : ¬ bI b = 0 ↔ b = true := by cases b <;> decide
theorem bI_eq0 {b : Bool} : bI b = 0 ↔ b = false := by cases b <;> decide
set_option maxHeartbeats 4000000 in
set_option maxRecDepth 100000 in
/-- Thing(..): not there -/
theorem c_Th_init (l : Launch) (D : va_G) (N0 : Nat) (k : Nat → Nat) (V : HV) (t b : Nat) (p0 p1 p2 p3 p4 : Int32) (h_t : V t = some (.inr (5, [.int 0, .int 0, .null, .int 0, .int 0, .int 0, .int 0]))) : Met l y_Th_init (.code y_Th_init b_Th_init 7 none :: WS) ({ frames := 1, cells := 0, slots := 0, locals := 20 }) (mP D N0 k [.ref t, .int p0, .int p1, .ref b, .int p2, .int p3, .int p4] V) (va_Qv (fun V' => V' = hu V t (eTh p0 p1 b p2 p3 p4 0)) (mB D N0) (hA N0)) 0 0 (hA N0) := by
  refine Met.ofW (cc := b_Th_init) (maxL := 7) (ret := none) (by decide) rfl ?_
  intro p e s m args below meth c s₁ B hml hv0
  obtain ⟨rfl, hG, hV⟩ := hv0
  have hx := B.exec
  have hb := B.bytes
  have hr := B.returns
  have hts := atoms_spec (ws := .code y_Th_init b_Th_init 7 none :: WS) B.pre
  have hW : ∀ w ∈ WS, w.before _ s = true := fun w h => hts w (List.mem_cons_of_mem _ h)
  have hown : s.vm.findClass "BoardHouse$Thing" = some m.cls := findClass_of_methodNamed B.named
  have hlocks := B.notSynchronized
  have hin : meth.name = "<init>" := (name_of_methodNamed B.named B.method).1
  have hS : va_S (hA N0) s.heap s.heap [] := va_S.rf
  have hl := lv_entry ([.ref t, .int p0, .int p1, .ref b, .int p2, .int p3, .int p4]) (n := 7) (Nat.le_of_ble_eq_true rfl)
  rw [lg_entry_eq]
  generalize (lg_sl ([.ref t, .int p0, .int p1, .ref b, .int p2, .int p3, .int p4]) ++ List.replicate (7 - (lg_sl ([.ref t, .int p0, .int p1, .ref b, .int p2, .int p3, .int p4])).length) Slot.unset).toArray = ls at hl ⊢
  have hl : lv_has ls 7 [(0, .ref t), (1, .int p0), (2, .int p1), (3, .ref b), (4, .int p2), (5, .int p3), (6, .int p4)] := hl
  refine lv_aload_n hx hb d_Th_init_0 rfl (lv_at hl 0 rfl) ?_
  refine W.objInit hx hb hown (hW _ wm_Th_3) (hW _ wv_JO_init) (hW _ wc_JO_init) rfl (by rw [hml]; exact hl.1) rfl d_Th_init_1 (Nat.le_of_ble_eq_true rfl) (Nat.le_of_ble_eq_true rfl) ?_
  refine W.eq (g2 := F0 m 4 ls []) rfl ?_
  refine lv_aload_n hx hb d_Th_init_4 rfl (lv_at hl 0 rfl) ?_
  refine lv_iconst (v := 0) hx hb d_Th_init_5 (by decide) ?_
  refine pf_Th_9 hx hb hW hown hG hV hS h_t (by decide) d_Th_init_6 (fun H locs hV hS => ?_)
  replace hV : hv D vwCl N0 (hu V t (.inr (5, [.int 0, .int 0, .null, .int 0, .int 0, .int 0, .int 0]))) H := hV
  generalize hV_V_1 : hu V t (.inr (5, [.int 0, .int 0, .null, .int 0, .int 0, .int 0, .int 0])) = V_1 at hV
  have ht'V_1 : V_1 t = some (.inr (5, [.int 0, .int 0, .null, .int 0, .int 0, .int 0, .int 0])) := by rw [← hV_V_1]; exact hu_s
  refine lv_aload_n hx hb d_Th_init_9 rfl (lv_at hl 0 rfl) ?_
  refine lv_iload_n hx hb d_Th_init_10 rfl (lv_at hl 1 rfl) ?_
  refine pf_Th_15 hx hb hW hown hG hV hS hin ht'V_1 d_Th_init_11 (fun H locs hV hS => ?_)
  replace hV : hv D vwCl N0 (hu V_1 t (.inr (5, [.int p0, .int 0, .null, .int 0, .int 0, .int 0, .int 0]))) H := hV
  generalize hV_V_2 : hu V_1 t (.inr (5, [.int p0, .int 0, .null, .int 0, .int 0, .int 0, .int 0])) = V_2 at hV
  have ht'V_2 : V_2 t = some (.inr (5, [.int p0, .int 0, .null, .int 0, .int 0, .int 0, .int 0])) := by rw [← hV_V_2]; exact hu_s
  refine lv_aload_n hx hb d_Th_init_14 rfl (lv_at hl 0 rfl) ?_
  refine lv_iload_n hx hb d_Th_init_15 rfl (lv_at hl 2 rfl) ?_
  refine pf_Th_19 hx hb hW hown hG hV hS hin ht'V_2 d_Th_init_16 (fun H locs hV hS => ?_)
  replace hV : hv D vwCl N0 (hu V_2 t (.inr (5, [.int p0, .int p1, .null, .int 0, .int 0, .int 0, .int 0]))) H := hV
  generalize hV_V_3 : hu V_2 t (.inr (5, [.int p0, .int p1, .null, .int 0, .int 0, .int 0, .int 0])) = V_3 at hV
  have ht'V_3 : V_3 t = some (.inr (5, [.int p0, .int p1, .null, .int 0, .int 0, .int 0, .int 0])) := by rw [← hV_V_3]; exact hu_s
  refine lv_aload_n hx hb d_Th_init_19 rfl (lv_at hl 0 rfl) ?_
  refine lv_aload_n hx hb d_Th_init_20 rfl (lv_at hl 3 rfl) ?_
  refine pf_Th_22 (x := some b) hx hb hW hown hG hV hS hin ht'V_3 d_Th_init_21 (fun H locs hV hS => ?_)
  replace hV : hv D vwCl N0 (hu V_3 t (.inr (5, [.int p0, .int p1, .ref b, .int 0, .int 0, .int 0, .int 0]))) H := hV
  generalize hV_V_4 : hu V_3 t (.inr (5, [.int p0, .int p1, .ref b, .int 0, .int 0, .int 0, .int 0])) = V_4 at hV
  have ht'V_4 : V_4 t = some (.inr (5, [.int p0, .int p1, .ref b, .int 0, .int 0, .int 0, .int 0])) := by rw [← hV_V_4]; exact hu_s
  refine lv_aload_n hx hb d_Th_init_24 rfl (lv_at hl 0 rfl) ?_
  refine lv_iload hx hb d_Th_init_25 (lv_at hl 4 rfl) ?_
  refine pf_Th_26 hx hb hW hown hG hV hS hin ht'V_4 d_Th_init_27 (fun H locs hV hS => ?_)
  replace hV : hv D vwCl N0 (hu V_4 t (.inr (5, [.int p0, .int p1, .ref b, .int p2, .int 0, .int 0, .int 0]))) H := hV
  generalize hV_V_5 : hu V_4 t (.inr (5, [.int p0, .int p1, .ref b, .int p2, .int 0, .int 0, .int 0])) = V_5 at hV
  have ht'V_5 : V_5 t = some (.inr (5, [.int p0, .int p1, .ref b, .int p2, .int 0, .int 0, .int 0])) := by rw [← hV_V_5]; exact hu_s
  refine lv_aload_n hx hb d_Th_init_30 rfl (lv_at hl 0 rfl) ?_
  refine lv_iload hx hb d_Th_init_31 (lv_at hl 5 rfl) ?_
  refine pf_Th_29 hx hb hW hown hG hV hS hin ht'V_5 d_Th_init_33 (fun H locs hV hS => ?_)
  replace hV : hv D vwCl N0 (hu V_5 t (.inr (5, [.int p0, .int p1, .ref b, .int p2, .int p3, .int 0, .int 0]))) H := hV
  generalize hV_V_6 : hu V_5 t (.inr (5, [.int p0, .int p1, .ref b, .int p2, .int p3, .int 0, .int 0])) = V_6 at hV
  have ht'V_6 : V_6 t = some (.inr (5, [.int p0, .int p1, .ref b, .int p2, .int p3, .int 0, .int 0])) := by rw [← hV_V_6]; exact hu_s
  refine lv_aload_n hx hb d_Th_init_36 rfl (lv_at hl 0 rfl) ?_
  refine lv_iload hx hb d_Th_init_37 (lv_at hl 6 rfl) ?_
  refine pf_Th_32 hx hb hW hown hG hV hS hin ht'V_6 d_Th_init_39 (fun H locs hV hS => ?_)
  replace hV : hv D vwCl N0 (hu V_6 t (.inr (5, [.int p0, .int p1, .ref b, .int p2, .int p3, .int p4, .int 0]))) H := hV
  generalize hV_V_7 : hu V_6 t (.inr (5, [.int p0, .int p1, .ref b, .int p2, .int p3, .int p4, .int 0])) = V_7 at hV
  have ht'V_7 : V_7 t = some (.inr (5, [.int p0, .int p1, .ref b, .int p2, .int p3, .int p4, .int 0])) := by rw [← hV_V_7]; exact hu_s
  exact W.vret hx hb hr (fun t ht hW => ⟨⟨V_7, rfl, by rw [← hV_V_7, ← hV_V_6, ← hV_V_5, ← hV_V_4, ← hV_V_3, ← hV_V_2, ← hV_V_1, hu_u, hu_u, hu_u, hu_u, hu_u, hu_u], mB_of ht hV⟩, hS.F ht⟩) hS.2.2 d_Th_init_42
set_option maxHeartbeats 4000000 in
set_option maxRecDepth 100000 in
/-- handle -/
theorem c_Th_handle (l : Launch) (D : va_G) (N0 : Nat) (k : Nat → Nat) (V : HV) (t a : Nat) (kd nu la ne pa th : Int32) (h_t : V t = some (eTh kd nu a la ne pa th)) : Met l y_Th_handle (.code y_Th_handle b_Th_handle 1 (some .int) :: WS) ({ frames := 0, cells := 0, slots := 0, locals := 0 }) (mP D N0 k [.ref t] V) (va_Qi (fun r V' => r = 1000 * kd + nu ∧ V' = V) (mB D N0) (hA N0)) 0 0 (hA N0) := by
  refine Met.ofW (cc := b_Th_handle) (maxL := 1) (ret := (some .int)) (by decide) rfl ?_
  intro p e s m args below meth c s₁ B hml hv0
  obtain ⟨rfl, hG, hV⟩ := hv0
  have hx := B.exec
  have hb := B.bytes
  have hr := B.returns
  have hts := atoms_spec (ws := .code y_Th_handle b_Th_handle 1 (some .int) :: WS) B.pre
  have hW : ∀ w ∈ WS, w.before _ s = true := fun w h => hts w (List.mem_cons_of_mem _ h)
  have hown : s.vm.findClass "BoardHouse$Thing" = some m.cls := findClass_of_methodNamed B.named
  have hlocks := B.notSynchronized
  have hS : va_S (hA N0) s.heap s.heap [] := va_S.rf
  have hl := lv_entry ([.ref t]) (n := 1) (Nat.le_of_ble_eq_true rfl)
  rw [lg_entry_eq]
  generalize (lg_sl ([.ref t]) ++ List.replicate (1 - (lg_sl ([.ref t])).length) Slot.unset).toArray = ls at hl ⊢
  have hl : lv_has ls 1 [(0, .ref t)] := hl
  refine lv_sipush (v := 1000) hx hb d_Th_handle_0 (by decide) ?_
  refine lv_aload_n hx hb d_Th_handle_3 rfl (lv_at hl 0 rfl) ?_
  refine gf_Th_15 hx hb hW hown hG hV h_t d_Th_handle_4 ?_
  refine lv_imul hx hb d_Th_handle_7 ?_
  refine lv_aload_n hx hb d_Th_handle_8 rfl (lv_at hl 0 rfl) ?_
  refine gf_Th_19 hx hb hW hown hG hV h_t d_Th_handle_9 ?_
  refine lv_iadd hx hb d_Th_handle_12 ?_
  exact W.iret (v := ((1000 * kd) + nu)) hx hb hr (fun t ht hW => ⟨⟨((1000 * kd) + nu), V, rfl, ⟨rfl, rfl⟩, mB_of ht hV⟩, hS.F ht⟩) hS.2.2 d_Th_handle_13
set_option maxHeartbeats 4000000 in
set_option maxRecDepth 100000 in
/-- slot -/
theorem c_Th_slot (l : Launch) (D : va_G) (N0 : Nat) (k : Nat → Nat) (V : HV) (t a : Nat) (kd nu la ne pa th : Int32) (h_t : V t = some (eTh kd nu a la ne pa th)) (j : Nat) (hj : kd = nI j) (hj6 : j < 6) : Met l y_Th_slot (.code y_Th_slot b_Th_slot 1 (some .int) :: WS) ({ frames := 0, cells := 0, slots := 0, locals := 0 }) (mP D N0 k [.ref t] V) (va_Qi (fun r V' => r = firV j + nu ∧ V' = V) (mB D N0) (hA N0)) 0 0 (hA N0) := by
  refine Met.ofW (cc := b_Th_slot) (maxL := 1) (ret := (some .int)) (by decide) rfl ?_
  intro p e s m args below meth c s₁ B hml hv0
  obtain ⟨rfl, hG, hV⟩ := hv0
  have hx := B.exec
  have hb := B.bytes
  have hr := B.returns
  have hts := atoms_spec (ws := .code y_Th_slot b_Th_slot 1 (some .int) :: WS) B.pre
  have hW : ∀ w ∈ WS, w.before _ s = true := fun w h => hts w (List.mem_cons_of_mem _ h)
  have hown : s.vm.findClass "BoardHouse$Thing" = some m.cls := findClass_of_methodNamed B.named
  have hlocks := B.notSynchronized
  have hS : va_S (hA N0) s.heap s.heap [] := va_S.rf
  have hl := lv_entry ([.ref t]) (n := 1) (Nat.le_of_ble_eq_true rfl)
  rw [lg_entry_eq]
  generalize (lg_sl ([.ref t]) ++ List.replicate (1 - (lg_sl ([.ref t])).length) Slot.unset).toArray = ls at hl ⊢
  have hl : lv_has ls 1 [(0, .ref t)] := hl
  refine va_getsN hx hb hG.2.2.2.2.2.1.1 hS hown (hG.nest wn_Th_35 rfl _) (fun _ h => h) d_Th_slot_0 ?_
  refine lv_aload_n hx hb d_Th_slot_3 rfl (lv_at hl 0 rfl) ?_
  refine gf_Th_15 hx hb hW hown hG hV h_t d_Th_slot_4 ?_
  refine va_ti (v := .int (firV j)) hx hb hG.2.2.2.2.2.1.2 hS (by rw [hj]; exact vp_in_nI hj6 (by decide)) (by rw [hj, nI_clamp (Nat.lt_trans hj6 (by decide))]) d_Th_slot_7 ?_
  refine lv_aload_n hx hb d_Th_slot_8 rfl (lv_at hl 0 rfl) ?_
  refine gf_Th_19 hx hb hW hown hG hV h_t d_Th_slot_9 ?_
  refine lv_iadd hx hb d_Th_slot_12 ?_
  exact W.iret (v := ((firV j) + nu)) hx hb hr (fun t ht hW => ⟨⟨((firV j) + nu), V, rfl, ⟨rfl, rfl⟩, mB_of ht hV⟩, hS.F ht⟩) hS.2.2 d_Th_slot_13
set_option maxHeartbeats 4000000 in
set_option maxRecDepth 100000 in
/-- hasCopper -/
theorem c_Th_hasCopper (l : Launch) (D : va_G) (N0 : Nat) (k : Nat → Nat) (V : HV) (t a : Nat) (kd nu la ne pa th : Int32) (h_t : V t = some (eTh kd nu a la ne pa th)) : Met l y_Th_hasCopper (.code y_Th_hasCopper b_Th_hasCopper 1 (some .boolean) :: WS) ({ frames := 0, cells := 0, slots := 0, locals := 0 }) (mP D N0 k [.ref t] V) (va_Qi (fun r V' => r = bI (th_hasCopper kd) ∧ V' = V) (mB D N0) (hA N0)) 0 0 (hA N0) := by
  refine Met.ofW (cc := b_Th_hasCopper) (maxL := 1) (ret := (some .boolean)) (by decide) rfl ?_
  intro p e s m args below meth c s₁ B hml hv0
  obtain ⟨rfl, hG, hV⟩ := hv0
  have hx := B.exec
  have hb := B.bytes
  have hr := B.returns
  have hts := atoms_spec (ws := .code y_Th_hasCopper b_Th_hasCopper 1 (some .boolean) :: WS) B.pre
  have hW : ∀ w ∈ WS, w.before _ s = true := fun w h => hts w (List.mem_cons_of_mem _ h)
  have hown : s.vm.findClass "BoardHouse$Thing" = some m.cls := findClass_of_methodNamed B.named
  have hlocks := B.notSynchronized
  have hS : va_S (hA N0) s.heap s.heap [] := va_S.rf
  have hl := lv_entry ([.ref t]) (n := 1) (Nat.le_of_ble_eq_true rfl)
  rw [lg_entry_eq]
  generalize (lg_sl ([.ref t]) ++ List.replicate (1 - (lg_sl ([.ref t])).length) Slot.unset).toArray = ls at hl ⊢
  have hl : lv_has ls 1 [(0, .ref t)] := hl
  refine lv_aload_n hx hb d_Th_hasCopper_0 rfl (lv_at hl 0 rfl) ?_
  refine gf_Th_15 hx hb hW hown hG hV h_t d_Th_hasCopper_1 ?_
  refine lv_iconst (v := 3) hx hb d_Th_hasCopper_4 (by decide) ?_
  refine lv_icmp_eq (tgt := 16) hx hb d_Th_hasCopper_5 (by decide) (fun c_1 => ?_) (fun c_1 => ?_)
  · refine lv_iconst (v := 1) hx hb d_Th_hasCopper_16 (by decide) ?_
    refine lv_goto (tgt := 21) hx hb d_Th_hasCopper_17 (by decide) ?_
    exact W.zret (v := 1) hx hb hr rfl (fun t ht hW => ⟨⟨1, V, rfl, ⟨by simp [bI, th_hasCopper, c_1], rfl⟩, mB_of ht hV⟩, hS.F ht⟩) hS.2.2 d_Th_hasCopper_21
  · refine lv_aload_n hx hb d_Th_hasCopper_8 rfl (lv_at hl 0 rfl) ?_
    refine gf_Th_15 hx hb hW hown hG hV h_t d_Th_hasCopper_9 ?_
    refine lv_iconst (v := 4) hx hb d_Th_hasCopper_12 (by decide) ?_
    refine lv_icmp_ne (tgt := 20) hx hb d_Th_hasCopper_13 (by decide) (fun c_2 => ?_) (fun c_2 => ?_)
    · refine lv_iconst (v := 0) hx hb d_Th_hasCopper_20 (by decide) ?_
      exact W.zret (v := 0) hx hb hr rfl (fun t ht hW => ⟨⟨0, V, rfl, ⟨by simp [bI, th_hasCopper, c_1, c_2], rfl⟩, mB_of ht hV⟩, hS.F ht⟩) hS.2.2 d_Th_hasCopper_21
    · refine lv_iconst (v := 1) hx hb d_Th_hasCopper_16 (by decide) ?_
      refine lv_goto (tgt := 21) hx hb d_Th_hasCopper_17 (by decide) ?_
      exact W.zret (v := 1) hx hb hr rfl (fun t ht hW => ⟨⟨1, V, rfl, ⟨by simp [bI, th_hasCopper, c_1, c_2], rfl⟩, mB_of ht hV⟩, hS.F ht⟩) hS.2.2 d_Th_hasCopper_21
set_option maxHeartbeats 4000000 in
set_option maxRecDepth 100000 in
/-- liesOn -/
theorem c_Th_liesOn (l : Launch) (D : va_G) (N0 : Nat) (k : Nat → Nat) (V : HV) (t a : Nat) (kd nu la ne pa th : Int32) (h_t : V t = some (eTh kd nu a la ne pa th)) (x : Int32) : Met l y_Th_liesOn (.code y_Th_liesOn b_Th_liesOn 2 (some .boolean) :: WS) ({ frames := 0, cells := 0, slots := 0, locals := 0 }) (mP D N0 k [.ref t, .int x] V) (va_Qi (fun r V' => r = bI (th_liesOn kd la x) ∧ V' = V) (mB D N0) (hA N0)) 0 0 (hA N0) := by
  refine Met.ofW (cc := b_Th_liesOn) (maxL := 2) (ret := (some .boolean)) (by decide) rfl ?_
  intro p e s m args below meth c s₁ B hml hv0
  obtain ⟨rfl, hG, hV⟩ := hv0
  have hx := B.exec
  have hb := B.bytes
  have hr := B.returns
  have hts := atoms_spec (ws := .code y_Th_liesOn b_Th_liesOn 2 (some .boolean) :: WS) B.pre
  have hW : ∀ w ∈ WS, w.before _ s = true := fun w h => hts w (List.mem_cons_of_mem _ h)
  have hown : s.vm.findClass "BoardHouse$Thing" = some m.cls := findClass_of_methodNamed B.named
  have hlocks := B.notSynchronized
  have hS : va_S (hA N0) s.heap s.heap [] := va_S.rf
  have hl := lv_entry ([.ref t, .int x]) (n := 2) (Nat.le_of_ble_eq_true rfl)
  rw [lg_entry_eq]
  generalize (lg_sl ([.ref t, .int x]) ++ List.replicate (2 - (lg_sl ([.ref t, .int x])).length) Slot.unset).toArray = ls at hl ⊢
  have hl : lv_has ls 2 [(0, .ref t), (1, .int x)] := hl
  refine lv_aload_n hx hb d_Th_liesOn_0 rfl (lv_at hl 0 rfl) ?_
  refine gf_Th_15 hx hb hW hown hG hV h_t d_Th_liesOn_1 ?_
  refine lv_iconst (v := 3) hx hb d_Th_liesOn_4 (by decide) ?_
  refine lv_icmp_eq (tgt := 16) hx hb d_Th_liesOn_5 (by decide) (fun c_1 => ?_) (fun c_1 => ?_)
  · refine lv_iconst (v := 1) hx hb d_Th_liesOn_16 (by decide) ?_
    refine lv_goto (tgt := 21) hx hb d_Th_liesOn_17 (by decide) ?_
    exact W.zret (v := 1) hx hb hr rfl (fun t ht hW => ⟨⟨1, V, rfl, ⟨by simp [bI, th_liesOn, c_1], rfl⟩, mB_of ht hV⟩, hS.F ht⟩) hS.2.2 d_Th_liesOn_21
  · refine lv_aload_n hx hb d_Th_liesOn_8 rfl (lv_at hl 0 rfl) ?_
    refine gf_Th_26 hx hb hW hown hG hV h_t d_Th_liesOn_9 ?_
    refine lv_iload_n hx hb d_Th_liesOn_12 rfl (lv_at hl 1 rfl) ?_
    refine lv_icmp_ne (tgt := 20) hx hb d_Th_liesOn_13 (by decide) (fun c_2 => ?_) (fun c_2 => ?_)
    · refine lv_iconst (v := 0) hx hb d_Th_liesOn_20 (by decide) ?_
      exact W.zret (v := 0) hx hb hr rfl (fun t ht hW => ⟨⟨0, V, rfl, ⟨by simp [bI, th_liesOn, c_1, c_2], rfl⟩, mB_of ht hV⟩, hS.F ht⟩) hS.2.2 d_Th_liesOn_21
    · refine lv_iconst (v := 1) hx hb d_Th_liesOn_16 (by decide) ?_
      refine lv_goto (tgt := 21) hx hb d_Th_liesOn_17 (by decide) ?_
      exact W.zret (v := 1) hx hb hr rfl (fun t ht hW => ⟨⟨1, V, rfl, ⟨by simp [bI, th_liesOn, c_1, c_2], rfl⟩, mB_of ht hV⟩, hS.F ht⟩) hS.2.2 d_Th_liesOn_21
set_option maxHeartbeats 4000000 in
set_option maxRecDepth 100000 in
/-- goesWith -/
theorem c_Th_goesWith (l : Launch) (D : va_G) (N0 : Nat) (k : Nat → Nat) (V : HV) (t a : Nat) (kd nu la ne pa th : Int32) (h_t : V t = some (eTh kd nu a la ne pa th)) (z a' : Nat) (kd' nu' la' ne' pa' th' : Int32) (h_z : V z = some (eTh kd' nu' a' la' ne' pa' th')) : Met l y_Th_goesWith (.code y_Th_goesWith b_Th_goesWith 2 (some .boolean) :: WS) ({ frames := 1, cells := 0, slots := 0, locals := 20 }) (mP D N0 k [.ref t, .ref z] V) (va_Qi (fun r V' => r = bI (th_goesWith t z pa kd' nu') ∧ V' = V) (mB D N0) (hA N0)) 0 0 (hA N0) := by
  refine Met.ofW (cc := b_Th_goesWith) (maxL := 2) (ret := (some .boolean)) (by decide) rfl ?_
  intro p e s m args below meth c s₁ B hml hv0
  obtain ⟨rfl, hG, hV⟩ := hv0
  have hx := B.exec
  have hb := B.bytes
  have hr := B.returns
  have hts := atoms_spec (ws := .code y_Th_goesWith b_Th_goesWith 2 (some .boolean) :: WS) B.pre
  have hW : ∀ w ∈ WS, w.before _ s = true := fun w h => hts w (List.mem_cons_of_mem _ h)
  have hown : s.vm.findClass "BoardHouse$Thing" = some m.cls := findClass_of_methodNamed B.named
  have hlocks := B.notSynchronized
  have hS : va_S (hA N0) s.heap s.heap [] := va_S.rf
  have hl := lv_entry ([.ref t, .ref z]) (n := 2) (Nat.le_of_ble_eq_true rfl)
  rw [lg_entry_eq]
  generalize (lg_sl ([.ref t, .ref z]) ++ List.replicate (2 - (lg_sl ([.ref t, .ref z])).length) Slot.unset).toArray = ls at hl ⊢
  have hl : lv_has ls 2 [(0, .ref t), (1, .ref z)] := hl
  refine lv_aload_n hx hb d_Th_goesWith_0 rfl (lv_at hl 0 rfl) ?_
  refine lv_aload_n hx hb d_Th_goesWith_1 rfl (lv_at hl 1 rfl) ?_
  refine lv_acmp_eq (rx := some t) (ry := some z) (tgt := 16) hx hb d_Th_goesWith_2 (by decide) (fun c_1 => ?_) (fun c_1 => ?_)
  · refine lv_iconst (v := 1) hx hb d_Th_goesWith_16 (by decide) ?_
    refine lv_goto (tgt := 21) hx hb d_Th_goesWith_17 (by decide) ?_
    exact W.zret (v := 1) hx hb hr rfl (fun t ht hW => ⟨⟨1, V, rfl, ⟨by simp at c_1; simp [bI, th_goesWith, c_1], rfl⟩, mB_of ht hV⟩, hS.F ht⟩) hS.2.2 d_Th_goesWith_21
  · refine lv_aload_n hx hb d_Th_goesWith_5 rfl (lv_at hl 0 rfl) ?_
    refine gf_Th_32 hx hb hW hown hG hV h_t d_Th_goesWith_6 ?_
    refine lv_aload_n hx hb d_Th_goesWith_9 rfl (lv_at hl 1 rfl) ?_
    refine rc_i (va_runV (As := []) (rest := [.int pa]) ⟨hx, hb, hml, hown, hts⟩ (c_Th_handle l D N0 k V z a' (kd') (nu') (la') (ne') (pa') (th') h_z) (cwV 0 hts (gi_V wm_Th_39 wv_Th_handle ws_Th_handle wi_Th wc_Th_handle) rfl rfl rfl (by decide +kernel) ⟨Nat.le_of_ble_eq_true rfl, Nat.le_of_ble_eq_true rfl⟩) (mP.preV hG hS hV h_z rfl) rfl rfl hl.1 rfl (lv_room (Nat.le_of_ble_eq_true rfl)) d_Th_goesWith_10 ⟨Nat.le_of_ble_eq_true rfl, Nat.le_of_ble_eq_true rfl⟩) hS (fun H locs hV hS => ?_)
    refine lv_icmp_ne (tgt := 20) hx hb d_Th_goesWith_13 (by decide) (fun c_2 => ?_) (fun c_2 => ?_)
    · refine lv_iconst (v := 0) hx hb d_Th_goesWith_20 (by decide) ?_
      exact W.zret (v := 0) hx hb hr rfl (fun t ht hW => ⟨⟨0, V, rfl, ⟨by simp at c_1; simp [bI, th_goesWith, c_1, c_2], rfl⟩, mB_of ht hV⟩, hS.F ht⟩) hS.2.2 d_Th_goesWith_21
    · refine lv_iconst (v := 1) hx hb d_Th_goesWith_16 (by decide) ?_
      refine lv_goto (tgt := 21) hx hb d_Th_goesWith_17 (by decide) ?_
      exact W.zret (v := 1) hx hb hr rfl (fun t ht hW => ⟨⟨1, V, rfl, ⟨by simp at c_1; simp [bI, th_goesWith, c_1, c_2], rfl⟩, mB_of ht hV⟩, hS.F ht⟩) hS.2.2 d_Th_goesWith_21
set_option maxHeartbeats 4000000 in
set_option maxRecDepth 100000 in
/-- excludes -/
theorem c_Th_excludes (l : Launch) (D : va_G) (N0 : Nat) (k : Nat → Nat) (V : HV) (t a : Nat) (kd nu la ne pa th : Int32) (h_t : V t = some (eTh kd nu a la ne pa th)) (z a' : Nat) (kd' nu' la' ne' pa' th' : Int32) (h_z : V z = some (eTh kd' nu' a' la' ne' pa' th')) : Met l y_Th_excludes (.code y_Th_excludes b_Th_excludes 2 (some .boolean) :: WS) ({ frames := 0, cells := 0, slots := 0, locals := 0 }) (mP D N0 k [.ref t, .ref z] V) (va_Qi (fun r V' => r = bI (th_excludes kd la kd' la') ∧ V' = V) (mB D N0) (hA N0)) 0 0 (hA N0) := by
  refine Met.ofW (cc := b_Th_excludes) (maxL := 2) (ret := (some .boolean)) (by decide) rfl ?_
  intro p e s m args below meth c s₁ B hml hv0
  obtain ⟨rfl, hG, hV⟩ := hv0
  have hx := B.exec
  have hb := B.bytes
  have hr := B.returns
  have hts := atoms_spec (ws := .code y_Th_excludes b_Th_excludes 2 (some .boolean) :: WS) B.pre
  have hW : ∀ w ∈ WS, w.before _ s = true := fun w h => hts w (List.mem_cons_of_mem _ h)
  have hown : s.vm.findClass "BoardHouse$Thing" = some m.cls := findClass_of_methodNamed B.named
  have hlocks := B.notSynchronized
  have hS : va_S (hA N0) s.heap s.heap [] := va_S.rf
  have hl := lv_entry ([.ref t, .ref z]) (n := 2) (Nat.le_of_ble_eq_true rfl)
  rw [lg_entry_eq]
  generalize (lg_sl ([.ref t, .ref z]) ++ List.replicate (2 - (lg_sl ([.ref t, .ref z])).length) Slot.unset).toArray = ls at hl ⊢
  have hl : lv_has ls 2 [(0, .ref t), (1, .ref z)] := hl
  refine lv_aload_n hx hb d_Th_excludes_0 rfl (lv_at hl 0 rfl) ?_
  refine gf_Th_15 hx hb hW hown hG hV h_t d_Th_excludes_1 ?_
  refine lv_aload_n hx hb d_Th_excludes_4 rfl (lv_at hl 1 rfl) ?_
  refine gf_Th_15 hx hb hW hown hG hV h_z d_Th_excludes_5 ?_
  refine lv_icmp_ne (tgt := 42) hx hb d_Th_excludes_8 (by decide) (fun c_1 => ?_) (fun c_1 => ?_)
  · refine lv_iconst (v := 0) hx hb d_Th_excludes_42 (by decide) ?_
    exact W.zret (v := 0) hx hb hr rfl (fun t ht hW => ⟨⟨0, V, rfl, ⟨by first | (simp [bI, th_excludes, c_1]; done) | (simp_all [bI, th_excludes]; done), rfl⟩, mB_of ht hV⟩, hS.F ht⟩) hS.2.2 d_Th_excludes_43
  · refine lv_aload_n hx hb d_Th_excludes_11 rfl (lv_at hl 0 rfl) ?_
    refine gf_Th_26 hx hb hW hown hG hV h_t d_Th_excludes_12 ?_
    refine lv_aload_n hx hb d_Th_excludes_15 rfl (lv_at hl 1 rfl) ?_
    refine gf_Th_26 hx hb hW hown hG hV h_z d_Th_excludes_16 ?_
    refine lv_icmp_ne (tgt := 42) hx hb d_Th_excludes_19 (by decide) (fun c_2 => ?_) (fun c_2 => ?_)
    · refine lv_iconst (v := 0) hx hb d_Th_excludes_42 (by decide) ?_
      exact W.zret (v := 0) hx hb hr rfl (fun t ht hW => ⟨⟨0, V, rfl, ⟨by first | (simp [bI, th_excludes, c_1, c_2]; done) | (simp_all [bI, th_excludes]; done), rfl⟩, mB_of ht hV⟩, hS.F ht⟩) hS.2.2 d_Th_excludes_43
    · refine lv_aload_n hx hb d_Th_excludes_22 rfl (lv_at hl 0 rfl) ?_
      refine gf_Th_15 hx hb hW hown hG hV h_t d_Th_excludes_23 ?_
      refine lv_iconst (v := 2) hx hb d_Th_excludes_26 (by decide) ?_
      refine lv_icmp_eq (tgt := 38) hx hb d_Th_excludes_27 (by decide) (fun c_3 => ?_) (fun c_3 => ?_)
      · refine lv_iconst (v := 1) hx hb d_Th_excludes_38 (by decide) ?_
        refine lv_goto (tgt := 43) hx hb d_Th_excludes_39 (by decide) ?_
        exact W.zret (v := 1) hx hb hr rfl (fun t ht hW => ⟨⟨1, V, rfl, ⟨by first | (simp [bI, th_excludes, c_1, c_2, c_3]; done) | (simp_all [bI, th_excludes]; done), rfl⟩, mB_of ht hV⟩, hS.F ht⟩) hS.2.2 d_Th_excludes_43
      · refine lv_aload_n hx hb d_Th_excludes_30 rfl (lv_at hl 0 rfl) ?_
        refine gf_Th_15 hx hb hW hown hG hV h_t d_Th_excludes_31 ?_
        refine lv_iconst (v := 5) hx hb d_Th_excludes_34 (by decide) ?_
        refine lv_icmp_ne (tgt := 42) hx hb d_Th_excludes_35 (by decide) (fun c_4 => ?_) (fun c_4 => ?_)
        · refine lv_iconst (v := 0) hx hb d_Th_excludes_42 (by decide) ?_
          exact W.zret (v := 0) hx hb hr rfl (fun t ht hW => ⟨⟨0, V, rfl, ⟨by first | (simp [bI, th_excludes, c_1, c_2, c_3, c_4]; done) | (simp_all [bI, th_excludes]; done), rfl⟩, mB_of ht hV⟩, hS.F ht⟩) hS.2.2 d_Th_excludes_43
        · refine lv_iconst (v := 1) hx hb d_Th_excludes_38 (by decide) ?_
          refine lv_goto (tgt := 43) hx hb d_Th_excludes_39 (by decide) ?_
          exact W.zret (v := 1) hx hb hr rfl (fun t ht hW => ⟨⟨1, V, rfl, ⟨by first | (simp [bI, th_excludes, c_1, c_2, c_3, c_4]; done) | (simp_all [bI, th_excludes]; done), rfl⟩, mB_of ht hV⟩, hS.F ht⟩) hS.2.2 d_Th_excludes_43
set_option maxHeartbeats 4000000 in
set_option maxRecDepth 100000 in
/-- clashesMoved -/
theorem c_Th_clashesMoved (l : Launch) (D : va_G) (N0 : Nat) (k : Nat → Nat) (V : HV) (t a : Nat) (kd nu la ne pa th : Int32) (h_t : V t = some (eTh kd nu a la ne pa th)) (z a' : Nat) (kd' nu' la' ne' pa' th' : Int32) (h_z : V z = some (eTh kd' nu' a' la' ne' pa' th')) (x y u v : Int32) (h_a : V a = some (eAr x y u v)) (x' y' u' v' : Int32) (h_a' : V a' = some (eAr x' y' u' v')) (g dx dy : Int32) : Met l y_Th_clashesMoved (.code y_Th_clashesMoved b_Th_clashesMoved 5 (some .boolean) :: WS) ({ frames := 1, cells := 0, slots := 0, locals := 24 }) (mP D N0 k [.ref t, .ref z, .int g, .int dx, .int dy] V) (va_Qi (fun r V' => r = bI (th_clash kd la ne x y u v kd' la' ne' x' y' u' v' g dx dy) ∧ V' = V) (mB D N0) (hA N0)) 0 0 (hA N0) := by
  refine Met.ofW (cc := b_Th_clashesMoved) (maxL := 5) (ret := (some .boolean)) (by decide) rfl ?_
  intro p e s m args below meth c s₁ B hml hv0
  obtain ⟨rfl, hG, hV⟩ := hv0
  have hx := B.exec
  have hb := B.bytes
  have hr := B.returns
  have hts := atoms_spec (ws := .code y_Th_clashesMoved b_Th_clashesMoved 5 (some .boolean) :: WS) B.pre
  have hW : ∀ w ∈ WS, w.before _ s = true := fun w h => hts w (List.mem_cons_of_mem _ h)
  have hown : s.vm.findClass "BoardHouse$Thing" = some m.cls := findClass_of_methodNamed B.named
  have hlocks := B.notSynchronized
  have hS : va_S (hA N0) s.heap s.heap [] := va_S.rf
  have hl := lv_entry ([.ref t, .ref z, .int g, .int dx, .int dy]) (n := 5) (Nat.le_of_ble_eq_true rfl)
  rw [lg_entry_eq]
  generalize (lg_sl ([.ref t, .ref z, .int g, .int dx, .int dy]) ++ List.replicate (5 - (lg_sl ([.ref t, .ref z, .int g, .int dx, .int dy])).length) Slot.unset).toArray = ls at hl ⊢
  have hl : lv_has ls 5 [(0, .ref t), (1, .ref z), (2, .int g), (3, .int dx), (4, .int dy)] := hl
  refine lv_aload_n hx hb d_Th_clashesMoved_0 rfl (lv_at hl 0 rfl) ?_
  refine rc_i (va_runV (As := []) (rest := []) ⟨hx, hb, hml, hown, hts⟩ (c_Th_hasCopper l D N0 k V t a kd nu la ne pa th h_t) (cwV 0 hts (gi_V wm_Th_43 wv_Th_hasCopper ws_Th_hasCopper wi_Th wc_Th_hasCopper) rfl rfl rfl (by decide +kernel) ⟨Nat.le_of_ble_eq_true rfl, Nat.le_of_ble_eq_true rfl⟩) (mP.preV hG hS hV h_t rfl) rfl rfl hl.1 rfl (lv_room (Nat.le_of_ble_eq_true rfl)) d_Th_clashesMoved_1 ⟨Nat.le_of_ble_eq_true rfl, Nat.le_of_ble_eq_true rfl⟩) hS (fun H locs hV hS => ?_)
  refine lv_if_eq (tgt := 69) hx hb d_Th_clashesMoved_4 (by decide) (fun c_1 => ?_) (fun c_1 => ?_)
  · refine lv_iconst (v := 0) hx hb d_Th_clashesMoved_69 (by decide) ?_
    exact W.zret (v := 0) hx hb hr rfl (fun t ht hW => ⟨⟨0, V, rfl, ⟨by simp only [bI_ne0, bI_eq0] at c_1; simp [bI, th_clash, c_1], rfl⟩, mB_of ht hV⟩, hS.F ht⟩) hS.2.2 d_Th_clashesMoved_70
  · refine lv_aload_n hx hb d_Th_clashesMoved_7 rfl (lv_at hl 1 rfl) ?_
    refine rc_i (va_runV (As := []) (rest := []) ⟨hx, hb, hml, hown, hts⟩ (c_Th_hasCopper l D N0 k V z a' (kd') (nu') (la') (ne') (pa') (th') h_z) (cwV 0 hts (gi_V wm_Th_43 wv_Th_hasCopper ws_Th_hasCopper wi_Th wc_Th_hasCopper) rfl rfl rfl (by decide +kernel) ⟨Nat.le_of_ble_eq_true rfl, Nat.le_of_ble_eq_true rfl⟩) (mP.preV hG hS hV h_z rfl) rfl rfl hl.1 rfl (lv_room (Nat.le_of_ble_eq_true rfl)) d_Th_clashesMoved_8 ⟨Nat.le_of_ble_eq_true rfl, Nat.le_of_ble_eq_true rfl⟩) hS (fun H locs hV hS => ?_)
    refine lv_if_eq (tgt := 69) hx hb d_Th_clashesMoved_11 (by decide) (fun c_2 => ?_) (fun c_2 => ?_)
    · refine lv_iconst (v := 0) hx hb d_Th_clashesMoved_69 (by decide) ?_
      exact W.zret (v := 0) hx hb hr rfl (fun t ht hW => ⟨⟨0, V, rfl, ⟨by simp only [bI_ne0, bI_eq0] at c_1 c_2; simp [bI, th_clash, c_1, c_2], rfl⟩, mB_of ht hV⟩, hS.F ht⟩) hS.2.2 d_Th_clashesMoved_70
    · refine lv_aload_n hx hb d_Th_clashesMoved_14 rfl (lv_at hl 0 rfl) ?_
      refine gf_Th_29 hx hb hW hown hG hV h_t d_Th_clashesMoved_15 ?_
      refine lv_aload_n hx hb d_Th_clashesMoved_18 rfl (lv_at hl 1 rfl) ?_
      refine gf_Th_29 hx hb hW hown hG hV h_z d_Th_clashesMoved_19 ?_
      refine lv_icmp_eq (tgt := 69) hx hb d_Th_clashesMoved_22 (by decide) (fun c_3 => ?_) (fun c_3 => ?_)
      · refine lv_iconst (v := 0) hx hb d_Th_clashesMoved_69 (by decide) ?_
        exact W.zret (v := 0) hx hb hr rfl (fun t ht hW => ⟨⟨0, V, rfl, ⟨by simp only [bI_ne0, bI_eq0] at c_1 c_2 c_3; simp [bI, th_clash, c_1, c_2, c_3], rfl⟩, mB_of ht hV⟩, hS.F ht⟩) hS.2.2 d_Th_clashesMoved_70
      · refine lv_aload_n hx hb d_Th_clashesMoved_25 rfl (lv_at hl 0 rfl) ?_
        refine lv_aload_n hx hb d_Th_clashesMoved_26 rfl (lv_at hl 1 rfl) ?_
        refine gf_Th_26 hx hb hW hown hG hV h_z d_Th_clashesMoved_27 ?_
        refine rc_i (va_runV (As := [.int la']) (rest := []) ⟨hx, hb, hml, hown, hts⟩ (c_Th_liesOn l D N0 k V t a kd nu la ne pa th h_t (la')) (cwV 1 hts (gi_V wm_Th_47 wv_Th_liesOn ws_Th_liesOn wi_Th wc_Th_liesOn) rfl rfl rfl (by decide +kernel) ⟨Nat.le_of_ble_eq_true rfl, Nat.le_of_ble_eq_true rfl⟩) (mP.preV hG hS hV h_t rfl) rfl rfl hl.1 rfl (lv_room (Nat.le_of_ble_eq_true rfl)) d_Th_clashesMoved_30 ⟨Nat.le_of_ble_eq_true rfl, Nat.le_of_ble_eq_true rfl⟩) hS (fun H locs hV hS => ?_)
        refine lv_if_ne (tgt := 47) hx hb d_Th_clashesMoved_33 (by decide) (fun c_4 => ?_) (fun c_4 => ?_)
        · refine lv_aload_n hx hb d_Th_clashesMoved_47 rfl (lv_at hl 0 rfl) ?_
          refine gf_Th_22 hx hb hW hown hG hV h_t d_Th_clashesMoved_48 ?_
          refine lv_aload_n hx hb d_Th_clashesMoved_51 rfl (lv_at hl 1 rfl) ?_
          refine gf_Th_22 hx hb hW hown hG hV h_z d_Th_clashesMoved_52 ?_
          refine lv_iload_n hx hb d_Th_clashesMoved_55 rfl (lv_at hl 2 rfl) ?_
          refine lv_iload_n hx hb d_Th_clashesMoved_56 rfl (lv_at hl 3 rfl) ?_
          refine lv_iload hx hb d_Th_clashesMoved_57 (lv_at hl 4 rfl) ?_
          refine rc_i (va_runV (As := [.ref a', .int g, .int dx, .int dy]) (rest := []) ⟨hx, hb, hml, hown, hts⟩ (c_Ar_comesNearMoved l D N0 k V a a' x y u v x' y' u' v' h_a h_a' g dx dy) (cwV 4 hts (gi_V wm_Th_51 wv_Ar_comesNearMoved ws_Ar_comesNearMoved wi_Ar wc_Ar_comesNearMoved) rfl rfl rfl (by decide +kernel) ⟨Nat.le_of_ble_eq_true rfl, Nat.le_of_ble_eq_true rfl⟩) (mP.preV hG hS hV h_a rfl) rfl rfl hl.1 rfl (lv_room (Nat.le_of_ble_eq_true rfl)) d_Th_clashesMoved_59 ⟨Nat.le_of_ble_eq_true rfl, Nat.le_of_ble_eq_true rfl⟩) hS (fun H locs hV hS => ?_)
          refine lv_if_eq (tgt := 69) hx hb d_Th_clashesMoved_62 (by decide) (fun c_5 => ?_) (fun c_5 => ?_)
          · refine lv_iconst (v := 0) hx hb d_Th_clashesMoved_69 (by decide) ?_
            exact W.zret (v := 0) hx hb hr rfl (fun t ht hW => ⟨⟨0, V, rfl, ⟨by simp only [bI_ne0, bI_eq0] at c_1 c_2 c_3 c_4 c_5; simp [bI, th_clash, c_1, c_2, c_3, c_4, c_5], rfl⟩, mB_of ht hV⟩, hS.F ht⟩) hS.2.2 d_Th_clashesMoved_70
          · refine lv_iconst (v := 1) hx hb d_Th_clashesMoved_65 (by decide) ?_
            refine lv_goto (tgt := 70) hx hb d_Th_clashesMoved_66 (by decide) ?_
            exact W.zret (v := 1) hx hb hr rfl (fun t ht hW => ⟨⟨1, V, rfl, ⟨by simp only [bI_ne0, bI_eq0] at c_1 c_2 c_3 c_4 c_5; simp [bI, th_clash, c_1, c_2, c_3, c_4, c_5], rfl⟩, mB_of ht hV⟩, hS.F ht⟩) hS.2.2 d_Th_clashesMoved_70
        · refine lv_aload_n hx hb d_Th_clashesMoved_36 rfl (lv_at hl 1 rfl) ?_
          refine lv_aload_n hx hb d_Th_clashesMoved_37 rfl (lv_at hl 0 rfl) ?_
          refine gf_Th_26 hx hb hW hown hG hV h_t d_Th_clashesMoved_38 ?_
          refine rc_i (va_runV (As := [.int la]) (rest := []) ⟨hx, hb, hml, hown, hts⟩ (c_Th_liesOn l D N0 k V z a' (kd') (nu') (la') (ne') (pa') (th') h_z la) (cwV 1 hts (gi_V wm_Th_47 wv_Th_liesOn ws_Th_liesOn wi_Th wc_Th_liesOn) rfl rfl rfl (by decide +kernel) ⟨Nat.le_of_ble_eq_true rfl, Nat.le_of_ble_eq_true rfl⟩) (mP.preV hG hS hV h_z rfl) rfl rfl hl.1 rfl (lv_room (Nat.le_of_ble_eq_true rfl)) d_Th_clashesMoved_41 ⟨Nat.le_of_ble_eq_true rfl, Nat.le_of_ble_eq_true rfl⟩) hS (fun H locs hV hS => ?_)
          refine lv_if_eq (tgt := 69) hx hb d_Th_clashesMoved_44 (by decide) (fun c_6 => ?_) (fun c_6 => ?_)
          · refine lv_iconst (v := 0) hx hb d_Th_clashesMoved_69 (by decide) ?_
            exact W.zret (v := 0) hx hb hr rfl (fun t ht hW => ⟨⟨0, V, rfl, ⟨by simp only [bI_ne0, bI_eq0] at c_1 c_2 c_3 c_4 c_6; simp [bI, th_clash, c_1, c_2, c_3, c_4, c_6], rfl⟩, mB_of ht hV⟩, hS.F ht⟩) hS.2.2 d_Th_clashesMoved_70
          · refine lv_aload_n hx hb d_Th_clashesMoved_47 rfl (lv_at hl 0 rfl) ?_
            refine gf_Th_22 hx hb hW hown hG hV h_t d_Th_clashesMoved_48 ?_
            refine lv_aload_n hx hb d_Th_clashesMoved_51 rfl (lv_at hl 1 rfl) ?_
            refine gf_Th_22 hx hb hW hown hG hV h_z d_Th_clashesMoved_52 ?_
            refine lv_iload_n hx hb d_Th_clashesMoved_55 rfl (lv_at hl 2 rfl) ?_
            refine lv_iload_n hx hb d_Th_clashesMoved_56 rfl (lv_at hl 3 rfl) ?_
            refine lv_iload hx hb d_Th_clashesMoved_57 (lv_at hl 4 rfl) ?_
            refine rc_i (va_runV (As := [.ref a', .int g, .int dx, .int dy]) (rest := []) ⟨hx, hb, hml, hown, hts⟩ (c_Ar_comesNearMoved l D N0 k V a a' x y u v x' y' u' v' h_a h_a' g dx dy) (cwV 4 hts (gi_V wm_Th_51 wv_Ar_comesNearMoved ws_Ar_comesNearMoved wi_Ar wc_Ar_comesNearMoved) rfl rfl rfl (by decide +kernel) ⟨Nat.le_of_ble_eq_true rfl, Nat.le_of_ble_eq_true rfl⟩) (mP.preV hG hS hV h_a rfl) rfl rfl hl.1 rfl (lv_room (Nat.le_of_ble_eq_true rfl)) d_Th_clashesMoved_59 ⟨Nat.le_of_ble_eq_true rfl, Nat.le_of_ble_eq_true rfl⟩) hS (fun H locs hV hS => ?_)
            refine lv_if_eq (tgt := 69) hx hb d_Th_clashesMoved_62 (by decide) (fun c_7 => ?_) (fun c_7 => ?_)
            · refine lv_iconst (v := 0) hx hb d_Th_clashesMoved_69 (by decide) ?_
              exact W.zret (v := 0) hx hb hr rfl (fun t ht hW => ⟨⟨0, V, rfl, ⟨by simp only [bI_ne0, bI_eq0] at c_1 c_2 c_3 c_4 c_6 c_7; simp [bI, th_clash, c_1, c_2, c_3, c_4, c_6, c_7], rfl⟩, mB_of ht hV⟩, hS.F ht⟩) hS.2.2 d_Th_clashesMoved_70
            · refine lv_iconst (v := 1) hx hb d_Th_clashesMoved_65 (by decide) ?_
              refine lv_goto (tgt := 70) hx hb d_Th_clashesMoved_66 (by decide) ?_
              exact W.zret (v := 1) hx hb hr rfl (fun t ht hW => ⟨⟨1, V, rfl, ⟨by simp only [bI_ne0, bI_eq0] at c_1 c_2 c_3 c_4 c_6 c_7; simp [bI, th_clash, c_1, c_2, c_3, c_4, c_6, c_7], rfl⟩, mB_of ht hV⟩, hS.F ht⟩) hS.2.2 d_Th_clashesMoved_70
