set_option maxHeartbeats 4000000 in
set_option maxRecDepth 100000 in
/-- Snapshot(): all unknown -/
theorem c_Sn_init (l : Launch) (D : va_G) (N0 : Nat) (k : Nat → Nat) (V : HV) (sn : Nat) (h_sn : V sn = some (.inr (4, [.null]))) : Met l y_Sn_init (.code y_Sn_init b_Sn_init 1 none :: WS) ({ frames := 1, cells := 1, slots := 150, locals := 23 }) (mP D N0 k [.ref sn] V) (va_Qv (fun V' => ∃ sa g, V sa = none ∧ V' = hu (hu V sa (eI k 150 g)) sn (eSn sa) ∧ ∀ j, j < 150 → g j = -1) (mB D N0) (hA N0)) 1 150 (hA N0) := by
  refine Met.ofW (cc := b_Sn_init) (maxL := 1) (ret := none) (by decide) rfl ?_
  intro p e s m args below meth c s₁ B hml hv0
  obtain ⟨rfl, hG, hV⟩ := hv0
  have hx := B.exec
  have hb := B.bytes
  have hr := B.returns
  have hts := atoms_spec (ws := .code y_Sn_init b_Sn_init 1 none :: WS) B.pre
  have hW : ∀ w ∈ WS, w.before _ s = true := fun w h => hts w (List.mem_cons_of_mem _ h)
  have hown : s.vm.findClass "BoardHouse$Snapshot" = some m.cls := findClass_of_methodNamed B.named
  have hlocks := B.notSynchronized
  have hin : meth.name = "<init>" := (name_of_methodNamed B.named B.method).1
  have hS : va_S (hA N0) s.heap s.heap [] := va_S.rf
  have hl := lv_entry ([.ref sn]) (n := 1) (Nat.le_of_ble_eq_true rfl)
  rw [lg_entry_eq]
  generalize (lg_sl ([.ref sn]) ++ List.replicate (1 - (lg_sl ([.ref sn])).length) Slot.unset).toArray = ls at hl ⊢
  have hl : lv_has ls 1 [(0, .ref sn)] := hl
  refine lv_aload_n hx hb d_Sn_init_0 rfl (lv_at hl 0 rfl) ?_
  refine W.objInit hx hb hown (hW _ wm_Sn_3) (hW _ wv_JO_init) (hW _ wc_JO_init) rfl (by rw [hml]; exact hl.1) rfl d_Sn_init_1 (Nat.le_of_ble_eq_true rfl) (Nat.le_of_ble_eq_true rfl) ?_
  refine W.eq (g2 := F0 m 4 ls []) rfl ?_
  refine lv_aload_n hx hb d_Sn_init_4 rfl (lv_at hl 0 rfl) ?_
  refine lv_sipush (v := 150) hx hb d_Sn_init_5 (by decide) ?_
  refine hv_newa (atype := .int) (a0 := (150, .inl (fun _ => 0))) hx hb (hW _ wa_int) rfl hG.K hV hS 0 rfl (fun cA h => h) (fun _ => rfl) (by decide) (by decide) (by decide) (Nat.le_of_ble_eq_true rfl) (Nat.le_of_ble_eq_true rfl) hG.N d_Sn_init_8 (fun q_1 H hn_q_1 hN_q_1 hV hS => ?_)
  have ne_sn_q_1 : sn ≠ q_1 := fun z => by rw [← z, h_sn] at hn_q_1; cases hn_q_1
  replace hV : hv D vwCl N0 (hu V q_1 (eI k 150 (fun _ => 0))) H := hV
  generalize hV_V_2 : hu V q_1 (eI k 150 (fun _ => 0)) = V_2 at hV
  have h_sn'V_2 : V_2 sn = some (.inr (4, [.null])) := by rw [← hV_V_2, hu_n ne_sn_q_1]; exact h_sn
  have hq_1'V_2 : V_2 q_1 = some (eI k 150 (fun _ => 0)) := by rw [← hV_V_2]; exact hu_s
  refine pf_Sn_9 (x := some q_1) hx hb hW hown hG hV hS hin h_sn'V_2 d_Sn_init_10 (fun H locs hV hS => ?_)
  replace hV : hv D vwCl N0 (hu V_2 sn (.inr (4, [.ref q_1]))) H := hV
  generalize hV_V_3 : hu V_2 sn (.inr (4, [.ref q_1])) = V_3 at hV
  have hq_1'V_3 : V_3 q_1 = some (eI k 150 (fun _ => 0)) := by rw [← hV_V_3, hu_n (Ne.symm ne_sn_q_1)]; exact hq_1'V_2
  have hsn'V_3 : V_3 sn = some (.inr (4, [.ref q_1])) := by rw [← hV_V_3]; exact hu_s
  refine lv_aload_n hx hb d_Sn_init_13 rfl (lv_at hl 0 rfl) ?_
  refine gf_Sn_9 hx hb hW hown hG hV hsn'V_3 d_Sn_init_14 ?_
  refine lv_iconst (v := (-1)) hx hb d_Sn_init_17 (by decide) ?_
  refine rc_V (va_runS (As := [.ref q_1, .int (-1)]) (rest := []) ⟨hx, hb, hml, hown, hts⟩ (c_JA_fill l D N0 k V_3 q_1 150 (-1) (fun _ => 0) (by omega) hq_1'V_3) (va_cwS 2 hts (gi_S wm_Sn_15 wt_JA_fill wi_JA wc_JA_fill) rfl rfl rfl (by decide +kernel) ⟨Nat.le_of_ble_eq_true rfl, Nat.le_of_ble_eq_true rfl⟩) (mP.preS hG hS hV) rfl rfl hl.1 rfl (lv_room (Nat.le_of_ble_eq_true rfl)) d_Sn_init_18 ⟨Nat.le_of_ble_eq_true rfl, Nat.le_of_ble_eq_true rfl⟩) hS (fun V_4 H locs hp_5 hV hS => ?_)
  obtain ⟨g_6, hV9_g_6, hg_g_6⟩ := hp_5
  have hV_V_4 := hV9_g_6.symm
  have hsn'V_4 : V_4 sn = some (.inr (4, [.ref q_1])) := by rw [← hV_V_4, hu_n ne_sn_q_1]; exact hsn'V_3
  have hq_1'V_4 : V_4 q_1 = some (eI k 150 g_6) := by rw [← hV_V_4]; exact hu_s
  exact W.vret hx hb hr (fun t ht hW => ⟨⟨V_4, rfl, ⟨q_1, g_6, hn_q_1, by rw [hV9_g_6, ← hV_V_3, ← hV_V_2, hu_c ne_sn_q_1, hu_u], hg_g_6⟩, mB_of ht hV⟩, hS.F ht⟩) hS.2.2 d_Sn_init_21
set_option maxHeartbeats 4000000 in
set_option maxRecDepth 100000 in
/-- noteFirst -/
theorem c_Sn_noteFirst (l : Launch) (D : va_G) (N0 : Nat) (k : Nat → Nat) (V : HV) (sn sa : Nat) (h0 : Nat → Int32) (h_sn : V sn = some (eSn sa)) (h_sa : V sa = some (eI k 150 h0)) (t a : Nat) (kd nu la ne pa th : Int32) (h_t : V t = some (eTh kd nu a la ne pa th)) (x y u v : Int32) (h_a : V a = some (eAr x y u v)) (i j : Nat) (hi : i < 150) (hj6 : j < 6) (hj : kd = nI j) (hsl : firV j + nu = nI i) : Met l y_Sn_noteFirst (.code y_Sn_noteFirst b_Sn_noteFirst 3 none :: WS) ({ frames := 1, cells := 0, slots := 0, locals := 20 }) (mP D N0 k [.ref sn, .ref t] V) (va_Qv (fun V' => V' = hu V sa (eI k 150 (if h0 i = -1 then upd h0 i (th_st x y th) else h0))) (mB D N0) (hA N0)) 0 0 (hA N0) := by
  refine Met.ofW (cc := b_Sn_noteFirst) (maxL := 3) (ret := none) (by decide) rfl ?_
  intro p e s m args below meth c s₁ B hml hv0
  obtain ⟨rfl, hG, hV⟩ := hv0
  have hx := B.exec
  have hb := B.bytes
  have hr := B.returns
  have hts := atoms_spec (ws := .code y_Sn_noteFirst b_Sn_noteFirst 3 none :: WS) B.pre
  have hW : ∀ w ∈ WS, w.before _ s = true := fun w h => hts w (List.mem_cons_of_mem _ h)
  have hown : s.vm.findClass "BoardHouse$Snapshot" = some m.cls := findClass_of_methodNamed B.named
  have hlocks := B.notSynchronized
  have hS : va_S (hA N0) s.heap s.heap [] := va_S.rf
  have hl := lv_entry ([.ref sn, .ref t]) (n := 3) (Nat.le_of_ble_eq_true rfl)
  rw [lg_entry_eq]
  generalize (lg_sl ([.ref sn, .ref t]) ++ List.replicate (3 - (lg_sl ([.ref sn, .ref t])).length) Slot.unset).toArray = ls at hl ⊢
  have hl : lv_has ls 3 [(0, .ref sn), (1, .ref t)] := hl
  refine lv_aload_n hx hb d_Sn_noteFirst_0 rfl (lv_at hl 1 rfl) ?_
  refine rc_i (va_runV (As := []) (rest := []) ⟨hx, hb, hml, hown, hts⟩ (c_Th_slot l D N0 k V t a kd nu la ne pa th h_t j hj hj6) (cwV 0 hts (gi_V wm_Sn_21 wv_Th_slot ws_Th_slot wi_Th wc_Th_slot) rfl rfl rfl (by decide +kernel) ⟨Nat.le_of_ble_eq_true rfl, Nat.le_of_ble_eq_true rfl⟩) (mP.preV hG hS hV h_t rfl) rfl rfl hl.1 rfl (lv_room (Nat.le_of_ble_eq_true rfl)) d_Sn_noteFirst_1 ⟨Nat.le_of_ble_eq_true rfl, Nat.le_of_ble_eq_true rfl⟩) hS (fun H locs hV hS => ?_)
  rw [hsl]
  refine lv_istore_n (lv' := [(2, .int (nI i)), (0, .ref sn), (1, .ref t)]) hx hb d_Sn_noteFirst_4 rfl hl (by decide) rfl (fun ls hl => ?_)
  refine lv_aload_n hx hb d_Sn_noteFirst_5 rfl (lv_at hl 1 rfl) ?_
  refine gf_Sn_9 hx hb hW hown hG hV h_sn d_Sn_noteFirst_6 ?_
  refine lv_iload_n hx hb d_Sn_noteFirst_9 rfl (lv_at hl 0 rfl) ?_
  refine hv_iald hx hb hG.K hV 0 h_sa rfl (vp_in_nI (by omega) (by omega)) d_Sn_noteFirst_10 ?_
  rw [nI_clamp (by omega)]
  refine lv_iconst (v := (-1)) hx hb d_Sn_noteFirst_11 (by decide) ?_
  refine lv_icmp_ne (tgt := 25) hx hb d_Sn_noteFirst_12 (by decide) (fun c_1 => ?_) (fun c_1 => ?_)
  · exact W.vret hx hb hr (fun t ht hW => ⟨⟨V, rfl, by rw [if_neg c_1, hu_self h_sa], mB_of ht hV⟩, hS.F ht⟩) hS.2.2 d_Sn_noteFirst_25
  · refine lv_aload_n hx hb d_Sn_noteFirst_15 rfl (lv_at hl 1 rfl) ?_
    refine gf_Sn_9 hx hb hW hown hG hV h_sn d_Sn_noteFirst_16 ?_
    refine lv_iload_n hx hb d_Sn_noteFirst_19 rfl (lv_at hl 0 rfl) ?_
    refine lv_aload_n hx hb d_Sn_noteFirst_20 rfl (lv_at hl 2 rfl) ?_
    refine rc_i (va_runV (As := []) (rest := [.int (nI i), .ref sa]) ⟨hx, hb, hml, hown, hts⟩ (c_Th_state l D N0 k V t a kd nu la ne pa th h_t x y u v h_a) (cwV 0 hts (gi_V wm_Sn_27 wv_Th_state ws_Th_state wi_Th wc_Th_state) rfl rfl rfl (by decide +kernel) ⟨Nat.le_of_ble_eq_true rfl, Nat.le_of_ble_eq_true rfl⟩) (mP.preV hG hS hV h_t rfl) rfl rfl hl.1 rfl (lv_room (Nat.le_of_ble_eq_true rfl)) d_Sn_noteFirst_21 ⟨Nat.le_of_ble_eq_true rfl, Nat.le_of_ble_eq_true rfl⟩) hS (fun H locs hV hS => ?_)
    refine hv_iast hx hb hG.K hV hS 0 h_sa rfl (vp_in_nI (by omega) (by omega)) d_Sn_noteFirst_24 (fun H locs hV hS => ?_)
    rw [nI_clamp (by omega)] at hV
    replace hV : hv D vwCl N0 (hu V sa (.inl (k 0, 150, .inl (upd h0 i (th_st x y th))))) H := hV
    generalize hV_V_2 : hu V sa (.inl (k 0, 150, .inl (upd h0 i (th_st x y th)))) = V_2 at hV
    have h_sn'V_2 : V_2 sn = some (.inr (4, [.ref sa])) := by rw [← hV_V_2]; exact hu_o h_sa h_sn (by simp)
    have h_t'V_2 : V_2 t = some (.inr (5, [.int kd, .int nu, .ref a, .int la, .int ne, .int pa, .int th])) := by rw [← hV_V_2]; exact hu_o h_sa h_t (by simp)
    have h_a'V_2 : V_2 a = some (.inr (1, [.int x, .int y, .int u, .int v])) := by rw [← hV_V_2]; exact hu_o h_sa h_a (by simp)
    have hsa'V_2 : V_2 sa = some (.inl (k 0, 150, .inl (upd h0 i (th_st x y th)))) := by rw [← hV_V_2]; exact hu_s
    exact W.vret hx hb hr (fun t ht hW => ⟨⟨V_2, rfl, by rw [if_pos c_1]; exact hV_V_2.symm, mB_of ht hV⟩, hS.F ht⟩) hS.2.2 d_Sn_noteFirst_25
/-- what a thing's numbers are when a snapshot that knows z of it is brought back -/
def roT (R : Nat → Int32) (z : Int32) : Nat → Int32 := if z = -1 then (fun q => if q = 5 then 0 else R q) else rsT R z
def stT (R : Nat → Int32) : Int32 := th_st (R 6) (R 7) (R 5)
abbrev eThR (R : Nat → Int32) (a : Nat) : va_E := eTh (R 0) (R 1) a (R 2) (R 3) (R 4) (R 5)
abbrev eArR (R : Nat → Int32) : va_E := eAr (R 6) (R 7) (R 8) (R 9)
set_option maxHeartbeats 4000000 in
set_option maxRecDepth 100000 in
/-- restoreOne -/
theorem c_Sn_restoreOne (l : Launch) (D : va_G) (N0 : Nat) (k : Nat → Nat) (V : HV) (sn sa : Nat) (h0 : Nat → Int32) (h_sn : V sn = some (eSn sa)) (h_sa : V sa = some (eI k 150 h0)) (t a : Nat) (R : Nat → Int32) (h_t : V t = some (eThR R a)) (h_a : V a = some (eArR R)) (i j : Nat) (hi : i < 150) (hj6 : j < 6) (hj : R 0 = nI j) (hsl : firV j + R 1 = nI i) : Met l y_Sn_restoreOne (.code y_Sn_restoreOne b_Sn_restoreOne 4 (some .boolean) :: WS) ({ frames := 2, cells := 0, slots := 0, locals := 43 }) (mP D N0 k [.ref sn, .ref t] V) (va_Qi (fun r V' => r = bI (!decide (stT (roT R (h0 i)) = stT R)) ∧ V' = hu (hu V t (eThR (roT R (h0 i)) a)) a (eArR (roT R (h0 i)))) (mB D N0) (hA N0)) 0 0 (hA N0) := by
  refine Met.ofW (cc := b_Sn_restoreOne) (maxL := 4) (ret := (some .boolean)) (by decide) rfl ?_
  intro p e s m args below meth c s₁ B hml hv0
  obtain ⟨rfl, hG, hV⟩ := hv0
  have hx := B.exec
  have hb := B.bytes
  have hr := B.returns
  have hts := atoms_spec (ws := .code y_Sn_restoreOne b_Sn_restoreOne 4 (some .boolean) :: WS) B.pre
  have hW : ∀ w ∈ WS, w.before _ s = true := fun w h => hts w (List.mem_cons_of_mem _ h)
  have hown : s.vm.findClass "BoardHouse$Snapshot" = some m.cls := findClass_of_methodNamed B.named
  have hlocks := B.notSynchronized
  have hS : va_S (hA N0) s.heap s.heap [] := va_S.rf
  have hl := lv_entry ([.ref sn, .ref t]) (n := 4) (Nat.le_of_ble_eq_true rfl)
  rw [lg_entry_eq]
  generalize (lg_sl ([.ref sn, .ref t]) ++ List.replicate (4 - (lg_sl ([.ref sn, .ref t])).length) Slot.unset).toArray = ls at hl ⊢
  have hl : lv_has ls 4 [(0, .ref sn), (1, .ref t)] := hl
  refine lv_aload_n hx hb d_Sn_restoreOne_0 rfl (lv_at hl 1 rfl) ?_
  refine rc_i (va_runV (As := []) (rest := []) ⟨hx, hb, hml, hown, hts⟩ (c_Th_state l D N0 k V t a (R 0) (R 1) (R 2) (R 3) (R 4) (R 5) h_t (R 6) (R 7) (R 8) (R 9) h_a) (cwV 0 hts (gi_V wm_Sn_27 wv_Th_state ws_Th_state wi_Th wc_Th_state) rfl rfl rfl (by decide +kernel) ⟨Nat.le_of_ble_eq_true rfl, Nat.le_of_ble_eq_true rfl⟩) (mP.preV hG hS hV h_t rfl) rfl rfl hl.1 rfl (lv_room (Nat.le_of_ble_eq_true rfl)) d_Sn_restoreOne_1 ⟨Nat.le_of_ble_eq_true rfl, Nat.le_of_ble_eq_true rfl⟩) hS (fun H locs hV hS => ?_)
  refine lv_istore_n (lv' := [(2, .int (th_st (R 6) (R 7) (R 5))), (0, .ref sn), (1, .ref t)]) hx hb d_Sn_restoreOne_4 rfl hl (by decide) rfl (fun ls hl => ?_)
  refine lv_aload_n hx hb d_Sn_restoreOne_5 rfl (lv_at hl 1 rfl) ?_
  refine gf_Sn_9 hx hb hW hown hG hV h_sn d_Sn_restoreOne_6 ?_
  refine lv_aload_n hx hb d_Sn_restoreOne_9 rfl (lv_at hl 2 rfl) ?_
  refine rc_i (va_runV (As := []) (rest := [.ref sa]) ⟨hx, hb, hml, hown, hts⟩ (c_Th_slot l D N0 k V t a (R 0) (R 1) (R 2) (R 3) (R 4) (R 5) h_t j hj hj6) (cwV 0 hts (gi_V wm_Sn_21 wv_Th_slot ws_Th_slot wi_Th wc_Th_slot) rfl rfl rfl (by decide +kernel) ⟨Nat.le_of_ble_eq_true rfl, Nat.le_of_ble_eq_true rfl⟩) (mP.preV hG hS hV h_t rfl) rfl rfl hl.1 rfl (lv_room (Nat.le_of_ble_eq_true rfl)) d_Sn_restoreOne_10 ⟨Nat.le_of_ble_eq_true rfl, Nat.le_of_ble_eq_true rfl⟩) hS (fun H locs hV hS => ?_)
  rw [hsl]
  refine hv_iald hx hb hG.K hV 0 h_sa rfl (vp_in_nI (by omega) (by omega)) d_Sn_restoreOne_13 ?_
  rw [nI_clamp (by omega)]
  refine lv_istore_n (lv' := [(3, .int (h0 i)), (2, .int (th_st (R 6) (R 7) (R 5))), (0, .ref sn), (1, .ref t)]) hx hb d_Sn_restoreOne_14 rfl hl (by decide) rfl (fun ls hl => ?_)
  refine lv_iload_n hx hb d_Sn_restoreOne_15 rfl (lv_at hl 0 rfl) ?_
  refine lv_iconst (v := (-1)) hx hb d_Sn_restoreOne_16 (by decide) ?_
  refine lv_icmp_ne (tgt := 28) hx hb d_Sn_restoreOne_17 (by decide) (fun c_1 => ?_) (fun c_1 => ?_)
  · refine lv_aload_n hx hb d_Sn_restoreOne_28 rfl (lv_at hl 3 rfl) ?_
    refine lv_iload_n hx hb d_Sn_restoreOne_29 rfl (lv_at hl 0 rfl) ?_
    refine rc_V (va_runV (As := [.int (h0 i)]) (rest := []) ⟨hx, hb, hml, hown, hts⟩ (c_Th_restore l D N0 k V t a (R 0) (R 1) (R 2) (R 3) (R 4) (R 5) h_t (R 6) (R 7) (R 8) (R 9) h_a (h0 i)) (cwV 1 hts (gi_V wm_Sn_34 wv_Th_restore ws_Th_restore wi_Th wc_Th_restore) rfl rfl rfl (by decide +kernel) ⟨Nat.le_of_ble_eq_true rfl, Nat.le_of_ble_eq_true rfl⟩) (mP.preV hG hS hV h_t rfl) rfl rfl hl.1 rfl (lv_room (Nat.le_of_ble_eq_true rfl)) d_Sn_restoreOne_30 ⟨Nat.le_of_ble_eq_true rfl, Nat.le_of_ble_eq_true rfl⟩) hS (fun V_2 H locs hp_3 hV hS => ?_)
    have hV_V_2 := hp_3.symm
    have hta_V_2 : t ≠ a := fun z9 => absurd (Option.some.inj ((z9 ▸ h_t : V a = _).symm.trans h_a)) (by simp)
    have h_t'V_2 : V_2 t = some (eTh (R 0) (R 1) a (R 2) (R 3) (R 4) (st_th (h0 i))) := by rw [← hV_V_2, hu_n hta_V_2]; exact hu_s
    have ha_t'V_2 : V_2 a = some (eAr ((R 6) + (st_x (h0 i) - (R 6))) ((R 7) + (st_y (h0 i) - (R 7))) ((R 8) + (st_x (h0 i) - (R 6))) ((R 9) + (st_y (h0 i) - (R 7)))) := by rw [← hV_V_2]; exact hu_s
    have hq_sn_V_2 : V_2 sn = some (.inr (4, [.ref sa])) := by rw [← hV_V_2]; exact hu_oo h_t h_a h_sn (by simp) (by simp)
    have hq_sa_V_2 : V_2 sa = some (eI k 150 h0) := by rw [← hV_V_2]; exact hu_oo h_t h_a h_sa (by simp) (by simp)
    refine lv_aload_n hx hb d_Sn_restoreOne_33 rfl (lv_at hl 3 rfl) ?_
    refine rc_i (va_runV (As := []) (rest := []) ⟨hx, hb, hml, hown, hts⟩ (c_Th_state l D N0 k V_2 t a (R 0) (R 1) (R 2) (R 3) (R 4) (st_th (h0 i)) h_t'V_2 ((R 6) + (st_x (h0 i) - (R 6))) ((R 7) + (st_y (h0 i) - (R 7))) ((R 8) + (st_x (h0 i) - (R 6))) ((R 9) + (st_y (h0 i) - (R 7))) ha_t'V_2) (cwV 0 hts (gi_V wm_Sn_27 wv_Th_state ws_Th_state wi_Th wc_Th_state) rfl rfl rfl (by decide +kernel) ⟨Nat.le_of_ble_eq_true rfl, Nat.le_of_ble_eq_true rfl⟩) (mP.preV hG hS hV h_t'V_2 rfl) rfl rfl hl.1 rfl (lv_room (Nat.le_of_ble_eq_true rfl)) d_Sn_restoreOne_34 ⟨Nat.le_of_ble_eq_true rfl, Nat.le_of_ble_eq_true rfl⟩) hS (fun H locs hV hS => ?_)
    refine lv_iload_n hx hb d_Sn_restoreOne_37 rfl (lv_at hl 1 rfl) ?_
    refine lv_icmp_eq (tgt := 45) hx hb d_Sn_restoreOne_38 (by decide) (fun c_4 => ?_) (fun c_4 => ?_)
    · refine lv_iconst (v := 0) hx hb d_Sn_restoreOne_45 (by decide) ?_
      have hro : roT R (h0 i) = rsT R (h0 i) := by rw [roT, if_neg c_1]
      have hVe : V_2 = hu (hu V t (eThR (roT R (h0 i)) a)) a (eArR (roT R (h0 i))) := by rw [hro]; exact hV_V_2.symm
      have hst : stT (roT R (h0 i)) = th_st (R 6 + (st_x (h0 i) - R 6)) (R 7 + (st_y (h0 i) - R 7)) (st_th (h0 i)) := by rw [hro]; rfl
      exact W.zret (v := 0) hx hb hr rfl (fun t ht hW => ⟨⟨0, V_2, rfl, ⟨by rw [hst]; show _ = bI (!decide (_ = th_st (R 6) (R 7) (R 5))); simp [bI, c_4], hVe⟩, mB_of ht hV⟩, hS.F ht⟩) hS.2.2 d_Sn_restoreOne_46
    · refine lv_iconst (v := 1) hx hb d_Sn_restoreOne_41 (by decide) ?_
      refine lv_goto (tgt := 46) hx hb d_Sn_restoreOne_42 (by decide) ?_
      have hro : roT R (h0 i) = rsT R (h0 i) := by rw [roT, if_neg c_1]
      have hVe : V_2 = hu (hu V t (eThR (roT R (h0 i)) a)) a (eArR (roT R (h0 i))) := by rw [hro]; exact hV_V_2.symm
      have hst : stT (roT R (h0 i)) = th_st (R 6 + (st_x (h0 i) - R 6)) (R 7 + (st_y (h0 i) - R 7)) (st_th (h0 i)) := by rw [hro]; rfl
      exact W.zret (v := 1) hx hb hr rfl (fun t ht hW => ⟨⟨1, V_2, rfl, ⟨by rw [hst]; show _ = bI (!decide (_ = th_st (R 6) (R 7) (R 5))); simp [bI, c_4], hVe⟩, mB_of ht hV⟩, hS.F ht⟩) hS.2.2 d_Sn_restoreOne_46
  · refine lv_aload_n hx hb d_Sn_restoreOne_20 rfl (lv_at hl 3 rfl) ?_
    refine lv_iconst (v := 0) hx hb d_Sn_restoreOne_21 (by decide) ?_
    refine pf_Sn_42 hx hb hW hown hG hV hS h_t (by decide) d_Sn_restoreOne_22 (fun H locs hV hS => ?_)
    replace hV : hv D vwCl N0 (hu V t (.inr (5, [.int (R 0), .int (R 1), .ref a, .int (R 2), .int (R 3), .int (R 4), .int 0]))) H := hV
    generalize hV_V_5 : hu V t (.inr (5, [.int (R 0), .int (R 1), .ref a, .int (R 2), .int (R 3), .int (R 4), .int 0])) = V_5 at hV
    have h_sn'V_5 : V_5 sn = some (.inr (4, [.ref sa])) := by rw [← hV_V_5]; exact hu_o h_t h_sn (by simp)
    have h_sa'V_5 : V_5 sa = some (eI k 150 h0) := by rw [← hV_V_5]; exact hu_o h_t h_sa (by simp)
    have h_a'V_5 : V_5 a = some (.inr (1, [.int (R 6), .int (R 7), .int (R 8), .int (R 9)])) := by rw [← hV_V_5]; exact hu_o h_t h_a (by simp)
    have ht'V_5 : V_5 t = some (.inr (5, [.int (R 0), .int (R 1), .ref a, .int (R 2), .int (R 3), .int (R 4), .int 0])) := by rw [← hV_V_5]; exact hu_s
    refine lv_goto (tgt := 33) hx hb d_Sn_restoreOne_25 (by decide) ?_
    refine lv_aload_n hx hb d_Sn_restoreOne_33 rfl (lv_at hl 3 rfl) ?_
    refine rc_i (va_runV (As := []) (rest := []) ⟨hx, hb, hml, hown, hts⟩ (c_Th_state l D N0 k V_5 t a (R 0) (R 1) (R 2) (R 3) (R 4) 0 ht'V_5 (R 6) (R 7) (R 8) (R 9) h_a'V_5) (cwV 0 hts (gi_V wm_Sn_27 wv_Th_state ws_Th_state wi_Th wc_Th_state) rfl rfl rfl (by decide +kernel) ⟨Nat.le_of_ble_eq_true rfl, Nat.le_of_ble_eq_true rfl⟩) (mP.preV hG hS hV ht'V_5 rfl) rfl rfl hl.1 rfl (lv_room (Nat.le_of_ble_eq_true rfl)) d_Sn_restoreOne_34 ⟨Nat.le_of_ble_eq_true rfl, Nat.le_of_ble_eq_true rfl⟩) hS (fun H locs hV hS => ?_)
    refine lv_iload_n hx hb d_Sn_restoreOne_37 rfl (lv_at hl 1 rfl) ?_
    refine lv_icmp_eq (tgt := 45) hx hb d_Sn_restoreOne_38 (by decide) (fun c_6 => ?_) (fun c_6 => ?_)
    · refine lv_iconst (v := 0) hx hb d_Sn_restoreOne_45 (by decide) ?_
      have hro : roT R (h0 i) = fun q => if q = 5 then 0 else R q := by rw [roT, if_pos c_1]
      have hVe : V_5 = hu (hu V t (eThR (roT R (h0 i)) a)) a (eArR (roT R (h0 i))) := by rw [hro]; have e9 : hu V t (eTh (R 0) (R 1) a (R 2) (R 3) (R 4) 0) = V_5 := hV_V_5; show V_5 = hu (hu V t (eTh (R 0) (R 1) a (R 2) (R 3) (R 4) 0)) a (eAr (R 6) (R 7) (R 8) (R 9)); rw [e9, hu_self h_a'V_5]
      have hst : stT (roT R (h0 i)) = th_st (R 6) (R 7) 0 := by rw [hro]; rfl
      exact W.zret (v := 0) hx hb hr rfl (fun t ht hW => ⟨⟨0, V_5, rfl, ⟨by rw [hst]; show _ = bI (!decide (_ = th_st (R 6) (R 7) (R 5))); simp [bI, c_6], hVe⟩, mB_of ht hV⟩, hS.F ht⟩) hS.2.2 d_Sn_restoreOne_46
    · refine lv_iconst (v := 1) hx hb d_Sn_restoreOne_41 (by decide) ?_
      refine lv_goto (tgt := 46) hx hb d_Sn_restoreOne_42 (by decide) ?_
      have hro : roT R (h0 i) = fun q => if q = 5 then 0 else R q := by rw [roT, if_pos c_1]
      have hVe : V_5 = hu (hu V t (eThR (roT R (h0 i)) a)) a (eArR (roT R (h0 i))) := by rw [hro]; have e9 : hu V t (eTh (R 0) (R 1) a (R 2) (R 3) (R 4) 0) = V_5 := hV_V_5; show V_5 = hu (hu V t (eTh (R 0) (R 1) a (R 2) (R 3) (R 4) 0)) a (eAr (R 6) (R 7) (R 8) (R 9)); rw [e9, hu_self h_a'V_5]
      have hst : stT (roT R (h0 i)) = th_st (R 6) (R 7) 0 := by rw [hro]; rfl
      exact W.zret (v := 1) hx hb hr rfl (fun t ht hW => ⟨⟨1, V_5, rfl, ⟨by rw [hst]; show _ = bI (!decide (_ = th_st (R 6) (R 7) (R 5))); simp [bI, c_6], hVe⟩, mB_of ht hV⟩, hS.F ht⟩) hS.2.2 d_Sn_restoreOne_46
