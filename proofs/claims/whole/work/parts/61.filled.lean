/-! the model: filled, joinLayers -/
def moFF (ρ : MS) (h : Int32) : Int32 := if moFault (ρ.I 0) h 5 = 0 then (if ρ.I 1 (140 + hdN h) = 0 then 3 else 0) else moFault (ρ.I 0) h 5
theorem moFF0 {ρ : MS} {h : Int32} (e : moFF ρ h = 0) : moFault (ρ.I 0) h 5 = 0 ∧ ¬ ρ.I 1 (140 + hdN h) = 0 := by
  unfold moFF at e
  by_cases h0 : moFault (ρ.I 0) h 5 = 0
  · rw [if_pos h0] at e
    refine ⟨h0, fun q => ?_⟩
    rw [if_pos q] at e; exact absurd e (by decide)
  · rw [if_neg h0] at e; exact absurd e h0
set_option maxHeartbeats 4000000 in
set_option maxRecDepth 100000 in
/-- filled -/
theorem c_Mo_filled (l : Launch) (D : va_G) (N0 : Nat) (k : Nat → Nat) (V : HV) (mo : Nat) (ad : Nat → Nat) (ρ : MS) (hM : mdOk k V mo ad ρ) (h : Int32) (hGm : moG ρ) (hff : moFF ρ h = 0) (la0 g0 : Nat) (hla : la0 < 4) (hg5 : g0 < 5) (hg0 : ρ.s 2 = nI g0) (hCv : moCv ρ) (ela : ρ.I 6 (140 + hdN h) = nI la0) : Met l y_Mo_filled (.code y_Mo_filled b_Mo_filled 5 (some .int) :: WS) ({ frames := 4, cells := 0, slots := 0, locals := 91 }) (mP D N0 k [.ref mo, .int h] V) (va_Qi (fun r V' => ∃ G, mdOk k V' mo ad (((((ρ.ws 0 0).wL 0 (moLL (ρ.ws 0 0) (ρ.I 7 (140 + hdN h)) la0 g0 120).1).wL 1 (moLL (ρ.ws 0 0) (ρ.I 7 (140 + hdN h)) la0 g0 120).2)).wL 2 G) ∧ mdFr mo ad V V' ∧ lFin (moLL (ρ.ws 0 0) (ρ.I 7 (140 + hdN h)) la0 g0 120).2 (flS (moLL (ρ.ws 0 0) (ρ.I 7 (140 + hdN h)) la0 g0 120).1 (moLL (ρ.ws 0 0) (ρ.I 7 (140 + hdN h)) la0 g0 120).2 (ρ.L 2) (24 * la0) 24) G la0 ∧ r = nI (cel la0 G)) (mB D N0) (hA N0)) 0 0 (hA N0) := by
  refine Met.ofW (cc := b_Mo_filled) (maxL := 5) (ret := (some .int)) (by decide) rfl ?_
  intro p e s m args below meth c s₁ B hml hv0
  obtain ⟨rfl, hG, hV⟩ := hv0
  have hx := B.exec
  have hb := B.bytes
  have hr := B.returns
  have hts := atoms_spec (ws := .code y_Mo_filled b_Mo_filled 5 (some .int) :: WS) B.pre
  have hW : ∀ w ∈ WS, w.before _ s = true := fun w h => hts w (List.mem_cons_of_mem _ h)
  have hown : s.vm.findClass "BoardHouseModel" = some m.cls := findClass_of_methodNamed B.named
  have hlocks := B.notSynchronized
  have hS : va_S (hA N0) s.heap s.heap [] := va_S.rf
  have hl := lv_entry ([.ref mo, .int h]) (n := 5) (Nat.le_of_ble_eq_true rfl)
  rw [lg_entry_eq]
  generalize (lg_sl ([.ref mo, .int h]) ++ List.replicate (5 - (lg_sl ([.ref mo, .int h])).length) Slot.unset).toArray = ls at hl ⊢
  have hl : lv_has ls 5 [(0, .ref mo), (1, .int h)] := hl
  have hm_1 : V mo = some (.inr (7, [.int (ρ.s 0), .int (ρ.s 1), .int (ρ.s 2), .int (ρ.s 3), .ref (ad 0), .ref (ad 1), .ref (ad 2), .ref (ad 3), .ref (ad 4), .ref (ad 5), .ref (ad 6), .ref (ad 7), .ref (ad 8), .int (ρ.s 4), .ref (ad 9), .ref (ad 10), .ref (ad 11), .ref (ad 12), .ref (ad 13), .ref (ad 14), .ref (ad 15), .ref (ad 16), .ref (ad 17), .ref (ad 18), .ref (ad 19), .ref (ad 20), .ref (ad 21), .ref (ad 22), .ref (ad 23), .ref (ad 24), .ref (ad 25)])) := hM.1
  have hm_1_1 : V (ad 1) = some (eZ k 150 (ρ.I 1)) := hM.a1
  have hm_1_6 : V (ad 6) = some (eI k 150 (ρ.I 6)) := hM.a6
  have hm_1_7 : V (ad 7) = some (eI k 150 (ρ.I 7)) := hM.a7
  have hm_1_25 : V (ad 25) = some (eL k 96 (ρ.L 2)) := hM.a25
  obtain ⟨hf0, hth0⟩ := moFF0 hff
  refine lv_aload_n hx hb d_Mo_filled_0 rfl (lv_at hl 0 rfl) ?_
  refine lv_aload_n hx hb d_Mo_filled_1 rfl (lv_at hl 0 rfl) ?_
  refine lv_iload_n hx hb d_Mo_filled_2 rfl (lv_at hl 1 rfl) ?_
  refine lv_iconst (v := 5) hx hb d_Mo_filled_3 (by decide) ?_
  refine rc_i (va_runV (As := [.int h, .int 5]) (rest := [.ref mo]) ⟨hx, hb, hml, hown, hts⟩ (c_Mo_fault l D N0 k V mo ad ρ hM h 5) (cwV 2 hts (gi_V wm_Mo_176 wv_Mo_fault ws_Mo_fault wi_Mo wc_Mo_fault) rfl rfl rfl (by decide +kernel) ⟨Nat.le_of_ble_eq_true rfl, Nat.le_of_ble_eq_true rfl⟩) (mP.preV hG hS hV hm_1 rfl) rfl rfl hl.1 rfl (lv_room (Nat.le_of_ble_eq_true rfl)) d_Mo_filled_4 ⟨Nat.le_of_ble_eq_true rfl, Nat.le_of_ble_eq_true rfl⟩) hS (fun H locs hV hS => ?_)
  refine W.eq (g2 := F0 m 7 ls [.int (moFault (ρ.I 0) h 5), .ref mo]) rfl ?_
  refine lv_topi (fun f_2 ef_2 => ?_)
  refine pf_Mo_100 hx hb hW hown hG hV hS hm_1 d_Mo_filled_7 (fun H locs hV hS => ?_)
  replace hV : hv D vwCl N0 (hu V mo (.inr (7, [.int f_2, .int (ρ.s 1), .int (ρ.s 2), .int (ρ.s 3), .ref (ad 0), .ref (ad 1), .ref (ad 2), .ref (ad 3), .ref (ad 4), .ref (ad 5), .ref (ad 6), .ref (ad 7), .ref (ad 8), .int (ρ.s 4), .ref (ad 9), .ref (ad 10), .ref (ad 11), .ref (ad 12), .ref (ad 13), .ref (ad 14), .ref (ad 15), .ref (ad 16), .ref (ad 17), .ref (ad 18), .ref (ad 19), .ref (ad 20), .ref (ad 21), .ref (ad 22), .ref (ad 23), .ref (ad 24), .ref (ad 25)]))) H := hV
  generalize hV_V_3 : hu V mo (.inr (7, [.int f_2, .int (ρ.s 1), .int (ρ.s 2), .int (ρ.s 3), .ref (ad 0), .ref (ad 1), .ref (ad 2), .ref (ad 3), .ref (ad 4), .ref (ad 5), .ref (ad 6), .ref (ad 7), .ref (ad 8), .int (ρ.s 4), .ref (ad 9), .ref (ad 10), .ref (ad 11), .ref (ad 12), .ref (ad 13), .ref (ad 14), .ref (ad 15), .ref (ad 16), .ref (ad 17), .ref (ad 18), .ref (ad 19), .ref (ad 20), .ref (ad 21), .ref (ad 22), .ref (ad 23), .ref (ad 24), .ref (ad 25)])) = V_3 at hV
  have hM_3 : mdOk k V_3 mo ad (ρ.ws 0 f_2) := by rw [← hV_V_3]; exact md_put hM 0 f_2
  have hR_3 : mdFr mo ad V V_3 := by rw [← hV_V_3]; exact (mdFr.rf (mo := mo) (ad := ad) (V := V)).m
  have hm_4 : V_3 mo = some (.inr (7, [.int f_2, .int (ρ.s 1), .int (ρ.s 2), .int (ρ.s 3), .ref (ad 0), .ref (ad 1), .ref (ad 2), .ref (ad 3), .ref (ad 4), .ref (ad 5), .ref (ad 6), .ref (ad 7), .ref (ad 8), .int (ρ.s 4), .ref (ad 9), .ref (ad 10), .ref (ad 11), .ref (ad 12), .ref (ad 13), .ref (ad 14), .ref (ad 15), .ref (ad 16), .ref (ad 17), .ref (ad 18), .ref (ad 19), .ref (ad 20), .ref (ad 21), .ref (ad 22), .ref (ad 23), .ref (ad 24), .ref (ad 25)])) := hM_3.1
  have hm_4_1 : V_3 (ad 1) = some (eZ k 150 (ρ.I 1)) := hM_3.a1
  have hm_4_6 : V_3 (ad 6) = some (eI k 150 (ρ.I 6)) := hM_3.a6
  have hm_4_7 : V_3 (ad 7) = some (eI k 150 (ρ.I 7)) := hM_3.a7
  have hm_4_25 : V_3 (ad 25) = some (eL k 96 (ρ.L 2)) := hM_3.a25
  refine lv_aload_n hx hb d_Mo_filled_10 rfl (lv_at hl 0 rfl) ?_
  refine lv_aload_n hx hb d_Mo_filled_11 rfl (lv_at hl 0 rfl) ?_
  refine gf_Mo_100 hx hb hW hown hG hV hm_4 d_Mo_filled_12 ?_
  refine lv_if_ne (tgt := 39) hx hb d_Mo_filled_15 (by decide) (fun c_5 => ?_) (fun c_5 => ?_)
  · exact absurd (ef_2.trans hf0) c_5
  · refine lv_aload_n hx hb d_Mo_filled_18 rfl (lv_at hl 0 rfl) ?_
    refine gf_Mo_13 hx hb hW hown hG hV hm_4 d_Mo_filled_19 ?_
    refine lv_sipush (v := 140) hx hb d_Mo_filled_22 (by decide) ?_
    refine lv_iload_n hx hb d_Mo_filled_25 rfl (lv_at hl 1 rfl) ?_
    refine lv_sipush (v := 1000) hx hb d_Mo_filled_26 (by decide) ?_
    refine lv_irem hx hb d_Mo_filled_29 (by decide) ?_
    refine lv_iadd hx hb d_Mo_filled_30 ?_
    obtain ⟨g0a, k0a⟩ := moFault0 hf0
    obtain ⟨-, eN, -, -, hlt9⟩ := mg_of hGm g0a
    have hKh : hdK h = 5 := hdK_of (by decide) k0a
    have hp9 : hdN h < 10 := by rw [hKh] at hlt9; exact Nat.lt_of_lt_of_le hlt9 (mN_of hGm (by omega) (by omega)).2
    refine W.eq (g2 := F0 m 31 ls [.int (nI (140 + hdN h)), .ref (ad 1), .ref mo]) (by rw [eN, show (140 : Int32) = nI 140 from rfl, nI_add]) ?_
    refine hv_zald hx hb hG.K hV 2 hm_4_1 rfl (vp_in_nI (by omega) (by omega)) d_Mo_filled_31 ?_
    rw [nI_clamp (by omega)]
    refine lv_if_ne (tgt := 39) hx hb d_Mo_filled_32 (by decide) (fun c_6 => ?_) (fun c_6 => ?_)
    · refine lv_aload_n hx hb d_Mo_filled_39 rfl (lv_at hl 0 rfl) ?_
      refine gf_Mo_100 hx hb hW hown hG hV hm_4 d_Mo_filled_40 ?_
      refine pf_Mo_100 hx hb hW hown hG hV hS hm_4 d_Mo_filled_43 (fun H locs hV hS => ?_)
      replace hV : hv D vwCl N0 (hu V_3 mo (.inr (7, [.int f_2, .int (ρ.s 1), .int (ρ.s 2), .int (ρ.s 3), .ref (ad 0), .ref (ad 1), .ref (ad 2), .ref (ad 3), .ref (ad 4), .ref (ad 5), .ref (ad 6), .ref (ad 7), .ref (ad 8), .int (ρ.s 4), .ref (ad 9), .ref (ad 10), .ref (ad 11), .ref (ad 12), .ref (ad 13), .ref (ad 14), .ref (ad 15), .ref (ad 16), .ref (ad 17), .ref (ad 18), .ref (ad 19), .ref (ad 20), .ref (ad 21), .ref (ad 22), .ref (ad 23), .ref (ad 24), .ref (ad 25)]))) H := hV
      generalize hV_V_7 : hu V_3 mo (.inr (7, [.int f_2, .int (ρ.s 1), .int (ρ.s 2), .int (ρ.s 3), .ref (ad 0), .ref (ad 1), .ref (ad 2), .ref (ad 3), .ref (ad 4), .ref (ad 5), .ref (ad 6), .ref (ad 7), .ref (ad 8), .int (ρ.s 4), .ref (ad 9), .ref (ad 10), .ref (ad 11), .ref (ad 12), .ref (ad 13), .ref (ad 14), .ref (ad 15), .ref (ad 16), .ref (ad 17), .ref (ad 18), .ref (ad 19), .ref (ad 20), .ref (ad 21), .ref (ad 22), .ref (ad 23), .ref (ad 24), .ref (ad 25)])) = V_7 at hV
      have hM_7 : mdOk k V_7 mo ad ((ρ.ws 0 f_2).ws 0 f_2) := by rw [← hV_V_7]; exact md_put hM_3 0 f_2
      have hR_7 : mdFr mo ad V V_7 := by rw [← hV_V_7]; exact hR_3.m
      have hm_8 : V_7 mo = some (.inr (7, [.int f_2, .int (ρ.s 1), .int (ρ.s 2), .int (ρ.s 3), .ref (ad 0), .ref (ad 1), .ref (ad 2), .ref (ad 3), .ref (ad 4), .ref (ad 5), .ref (ad 6), .ref (ad 7), .ref (ad 8), .int (ρ.s 4), .ref (ad 9), .ref (ad 10), .ref (ad 11), .ref (ad 12), .ref (ad 13), .ref (ad 14), .ref (ad 15), .ref (ad 16), .ref (ad 17), .ref (ad 18), .ref (ad 19), .ref (ad 20), .ref (ad 21), .ref (ad 22), .ref (ad 23), .ref (ad 24), .ref (ad 25)])) := hM_7.1
      have hm_8_1 : V_7 (ad 1) = some (eZ k 150 (ρ.I 1)) := hM_7.a1
      have hm_8_6 : V_7 (ad 6) = some (eI k 150 (ρ.I 6)) := hM_7.a6
      have hm_8_7 : V_7 (ad 7) = some (eI k 150 (ρ.I 7)) := hM_7.a7
      have hm_8_25 : V_7 (ad 25) = some (eL k 96 (ρ.L 2)) := hM_7.a25
      refine lv_aload_n hx hb d_Mo_filled_46 rfl (lv_at hl 0 rfl) ?_
      refine gf_Mo_100 hx hb hW hown hG hV hm_8 d_Mo_filled_47 ?_
      refine lv_if_eq (tgt := 55) hx hb d_Mo_filled_50 (by decide) (fun c_9 => ?_) (fun c_9 => ?_)
      · have hz0 : f_2 = 0 := ef_2.trans hf0
        have hMc : mdOk k V_7 mo ad (ρ.ws 0 0) := by have q := hM_7; rw [hz0, ws_ws] at q; exact q
        have hm_10 : V_7 mo = some (.inr (7, [.int 0, .int (ρ.s 1), .int (ρ.s 2), .int (ρ.s 3), .ref (ad 0), .ref (ad 1), .ref (ad 2), .ref (ad 3), .ref (ad 4), .ref (ad 5), .ref (ad 6), .ref (ad 7), .ref (ad 8), .int (ρ.s 4), .ref (ad 9), .ref (ad 10), .ref (ad 11), .ref (ad 12), .ref (ad 13), .ref (ad 14), .ref (ad 15), .ref (ad 16), .ref (ad 17), .ref (ad 18), .ref (ad 19), .ref (ad 20), .ref (ad 21), .ref (ad 22), .ref (ad 23), .ref (ad 24), .ref (ad 25)])) := hMc.1
        have hm_10_1 : V_7 (ad 1) = some (eZ k 150 (ρ.I 1)) := hMc.a1
        have hm_10_6 : V_7 (ad 6) = some (eI k 150 (ρ.I 6)) := hMc.a6
        have hm_10_7 : V_7 (ad 7) = some (eI k 150 (ρ.I 7)) := hMc.a7
        have hm_10_25 : V_7 (ad 25) = some (eL k 96 (ρ.L 2)) := hMc.a25
        refine lv_sipush (v := 140) hx hb d_Mo_filled_55 (by decide) ?_
        refine lv_iload_n hx hb d_Mo_filled_58 rfl (lv_at hl 1 rfl) ?_
        refine lv_sipush (v := 1000) hx hb d_Mo_filled_59 (by decide) ?_
        refine lv_irem hx hb d_Mo_filled_62 (by decide) ?_
        refine lv_iadd hx hb d_Mo_filled_63 ?_
        refine W.eq (g2 := F0 m 64 ls [.int (nI (140 + hdN h))]) (by rw [eN, show (140 : Int32) = nI 140 from rfl, nI_add]) ?_
        refine lv_istore_n (lv' := [(2, .int (nI (140 + hdN h))), (0, .ref mo), (1, .int h)]) hx hb d_Mo_filled_64 rfl hl (by decide) rfl (fun ls hl => ?_)
        refine lv_aload_n hx hb d_Mo_filled_65 rfl (lv_at hl 1 rfl) ?_
        refine lv_aload_n hx hb d_Mo_filled_66 rfl (lv_at hl 1 rfl) ?_
        refine gf_Mo_32 hx hb hW hown hG hV hm_10 d_Mo_filled_67 ?_
        refine lv_iload_n hx hb d_Mo_filled_70 rfl (lv_at hl 0 rfl) ?_
        refine hv_iald hx hb hG.K hV 0 hm_10_7 rfl (vp_in_nI (by omega) (by omega)) d_Mo_filled_71 ?_
        rw [nI_clamp (by omega)]
        refine lv_aload_n hx hb d_Mo_filled_72 rfl (lv_at hl 1 rfl) ?_
        refine gf_Mo_29 hx hb hW hown hG hV hm_10 d_Mo_filled_73 ?_
        refine lv_iload_n hx hb d_Mo_filled_76 rfl (lv_at hl 0 rfl) ?_
        refine hv_iald hx hb hG.K hV 0 hm_10_6 rfl (vp_in_nI (by omega) (by omega)) d_Mo_filled_77 ?_
        rw [nI_clamp (by omega)]
        refine W.eq (g2 := F0 m 78 ls [.int (nI la0), .int ((ρ.I 7) (140 + hdN h)), .ref mo]) (by rw [ela]) ?_
        refine rc_V (va_runV (As := [.int ((ρ.I 7) (140 + hdN h)), .int (nI la0)]) (rest := []) ⟨hx, hb, hml, hown, hts⟩ (c_Mo_fill l D N0 k V_7 mo ad (ρ.ws 0 0) hMc ((ρ.I 7) (140 + hdN h)) la0 g0 hla hg5 hg0 hCv) (cwV 2 hts (gi_V wm_Mo_223 wv_Mo_fill ws_Mo_fill wi_Mo wc_Mo_fill) rfl rfl rfl (by decide +kernel) ⟨Nat.le_of_ble_eq_true rfl, Nat.le_of_ble_eq_true rfl⟩) (mP.preV hG hS hV hm_10 rfl) rfl rfl hl.1 rfl (lv_room (Nat.le_of_ble_eq_true rfl)) d_Mo_filled_78 ⟨Nat.le_of_ble_eq_true rfl, Nat.le_of_ble_eq_true rfl⟩) hS (fun V_11 H locs hp_12 hV hS => ?_)
        obtain ⟨G_14, hM_13, hM_13R, hfin_G_14⟩ := hp_12
        have hm_15 : V_11 mo = some (.inr (7, [.int 0, .int (ρ.s 1), .int (ρ.s 2), .int (ρ.s 3), .ref (ad 0), .ref (ad 1), .ref (ad 2), .ref (ad 3), .ref (ad 4), .ref (ad 5), .ref (ad 6), .ref (ad 7), .ref (ad 8), .int (ρ.s 4), .ref (ad 9), .ref (ad 10), .ref (ad 11), .ref (ad 12), .ref (ad 13), .ref (ad 14), .ref (ad 15), .ref (ad 16), .ref (ad 17), .ref (ad 18), .ref (ad 19), .ref (ad 20), .ref (ad 21), .ref (ad 22), .ref (ad 23), .ref (ad 24), .ref (ad 25)])) := hM_13.1
        have hm_15_1 : V_11 (ad 1) = some (eZ k 150 (ρ.I 1)) := hM_13.a1
        have hm_15_6 : V_11 (ad 6) = some (eI k 150 (ρ.I 6)) := hM_13.a6
        have hm_15_7 : V_11 (ad 7) = some (eI k 150 (ρ.I 7)) := hM_13.a7
        have hm_15_25 : V_11 (ad 25) = some (eL k 96 G_14) := hM_13.a25
        refine lv_iconst (v := 0) hx hb d_Mo_filled_81 (by decide) ?_
        refine lv_istore_n (lv' := [(3, .int 0), (2, .int (nI (140 + hdN h))), (0, .ref mo), (1, .int h)]) hx hb d_Mo_filled_82 rfl hl (by decide) rfl (fun ls hl => ?_)
        refine lv_iconst (v := 0) hx hb d_Mo_filled_83 (by decide) ?_
        refine lv_istore (lv' := [(4, .int 0), (3, .int 0), (2, .int (nI (140 + hdN h))), (0, .ref mo), (1, .int h)]) hx hb d_Mo_filled_84 hl (by decide) rfl (fun ls hl => ?_)
        have loop_16 : ∀ (n i : Nat) (c0 : Nat) (H : Heap) (locs : List Loc) (ls : Array Slot), i ≤ 24 → 24 + 1 ≤ i + n → (c0 + sumN (fun r => pcn (G_14 (24 * la0 + r))) i (24 - i) = cel la0 G_14) → hv D vwCl N0 V_11 H → va_S (hA N0) s.heap H locs → lv_has ls 5 [(0, .ref mo), (1, .int h), (2, .int (nI (140 + hdN h))), (3, .int (nI c0)), (4, .int (nI i))] → W p l e (headSpec (.code y_Mo_filled b_Mo_filled 5 (some .int) :: WS) ({ frames := 4, cells := 0, slots := 0, locals := 91 })).room s m #[.ref mo, .int h] below meth c H locs 0 0 (MQ below (va_Qi (fun r V' => ∃ G, mdOk k V' mo ad (((((ρ.ws 0 0).wL 0 (moLL (ρ.ws 0 0) (ρ.I 7 (140 + hdN h)) la0 g0 120).1).wL 1 (moLL (ρ.ws 0 0) (ρ.I 7 (140 + hdN h)) la0 g0 120).2)).wL 2 G) ∧ mdFr mo ad V V' ∧ lFin (moLL (ρ.ws 0 0) (ρ.I 7 (140 + hdN h)) la0 g0 120).2 (flS (moLL (ρ.ws 0 0) (ρ.I 7 (140 + hdN h)) la0 g0 120).1 (moLL (ρ.ws 0 0) (ρ.I 7 (140 + hdN h)) la0 g0 120).2 (ρ.L 2) (24 * la0) 24) G la0 ∧ r = nI (cel la0 G)) (mB D N0) (hA N0)) #[.ref mo, .int h] s 0 0 (hA N0)) (F0 m 86 ls []) := by
          intro n
          induction n with
          | zero => intro i c0 H locs ls h1 h2; exact absurd h2 (by omega)
          | succ n ih =>
            intro i c0 H locs ls hi hin hI hV hS hl
            refine lv_iload hx hb d_Mo_filled_86 (lv_at hl 4 rfl) ?_
            refine lv_bipush (v := 24) hx hb d_Mo_filled_88 (by decide) ?_
            refine lv_icmp_ge (tgt := 122) hx hb d_Mo_filled_90 (by decide) (fun c_17 => ?_) (fun c_17 => ?_)
            · have hge : 24 ≤ i := nI_le' c_17 (by omega) (by omega)
              refine lv_iload_n hx hb d_Mo_filled_122 rfl (lv_at hl 3 rfl) ?_
              exact W.iret (v := (nI c0)) hx hb hr (fun t9 ht hW => ⟨⟨(nI c0), V_11, rfl, ⟨G_14, hM_13, hR_7.tr hM_13R, hfin_G_14, by rw [← hI, sumN_end hge]; rfl⟩, mB_of ht hV⟩, hS.F ht⟩) hS.2.2 d_Mo_filled_123
            · have hlt : i < 24 := nI_nle' c_17 (by omega) (by omega)
              refine lv_iload_n hx hb d_Mo_filled_93 rfl (lv_at hl 3 rfl) ?_
              refine lv_aload_n hx hb d_Mo_filled_94 rfl (lv_at hl 0 rfl) ?_
              refine gf_Mo_91 hx hb hW hown hG hV hm_15 d_Mo_filled_95 ?_
              refine lv_bipush (v := 24) hx hb d_Mo_filled_98 (by decide) ?_
              refine lv_aload_n hx hb d_Mo_filled_100 rfl (lv_at hl 0 rfl) ?_
              refine gf_Mo_29 hx hb hW hown hG hV hm_15 d_Mo_filled_101 ?_
              refine lv_iload_n hx hb d_Mo_filled_104 rfl (lv_at hl 2 rfl) ?_
              refine hv_iald hx hb hG.K hV 0 hm_15_6 rfl (vp_in_nI (by omega) (by omega)) d_Mo_filled_105 ?_
              rw [nI_clamp (by omega)]
              refine lv_imul hx hb d_Mo_filled_106 ?_
              refine lv_iload hx hb d_Mo_filled_107 (lv_at hl 4 rfl) ?_
              refine lv_iadd hx hb d_Mo_filled_109 ?_
              refine W.eq (g2 := F0 m 110 ls [.int (nI (24 * la0 + i)), .ref (ad 25), .int (nI c0)]) (by rw [ela, show (24 : Int32) = nI 24 from rfl, nI_mulN, nI_add]) ?_
              refine hv_lald hx hb hG.K hV 1 hm_15_25 rfl (vp_in_nI (by omega) (by omega)) d_Mo_filled_110 ?_
              rw [nI_clamp (by omega)]
              refine rc_i (va_runS (As := [.long (G_14 (24 * la0 + i))]) (rest := [.int (nI c0)]) ⟨hx, hb, hml, hown, hts⟩ (c_Mo_count l D N0 k V_11 (G_14 (24 * la0 + i))) (va_cwS 1 hts (gi_S wm_Mo_226 wt_Mo_count wi_Mo wc_Mo_count) rfl rfl rfl (by decide +kernel) ⟨Nat.le_of_ble_eq_true rfl, Nat.le_of_ble_eq_true rfl⟩) (mP.preS hG hS hV) rfl rfl hl.1 rfl (lv_room (Nat.le_of_ble_eq_true rfl)) d_Mo_filled_111 ⟨Nat.le_of_ble_eq_true rfl, Nat.le_of_ble_eq_true rfl⟩) hS (fun H locs hV hS => ?_)
              refine lv_iadd hx hb d_Mo_filled_114 ?_
              refine lv_istore_n (lv' := [(3, .int ((nI c0) + (nI (pcn (G_14 (24 * la0 + i)))))), (0, .ref mo), (1, .int h), (2, .int (nI (140 + hdN h))), (4, .int (nI i))]) hx hb d_Mo_filled_115 rfl hl (by decide) rfl (fun ls hl => ?_)
              obtain ⟨i_18, ei_18⟩ : ∃ y : Int32, y = (nI i) + 1 := ⟨_, rfl⟩
              refine lv_iinc (v := i_18) (lv' := [(4, .int i_18), (3, .int ((nI c0) + (nI (pcn (G_14 (24 * la0 + i)))))), (0, .ref mo), (1, .int h), (2, .int (nI (140 + hdN h)))]) hx hb d_Mo_filled_116 hl (k := 4) rfl (by rw [ei_18]; rfl) (by decide) rfl (fun ls hl => ?_)
              refine lv_goto (tgt := 86) hx hb d_Mo_filled_119 (by decide) ?_
              rw [nI_1] at ei_18
              subst ei_18
              rw [nI_add] at hl
              exact ih (i + 1) (c0 + pcn (G_14 (24 * la0 + i))) _ _ _ (by omega) (by omega) (by rw [← hI, sumN_step hlt]; omega) hV hS (lv_sub hl [2, 3, 4, 1, 0] rfl)
        exact loop_16 (24 + 1 - 0) 0 0 _ _ _ (by omega) (by omega) (Nat.zero_add _) hV hS (lv_sub hl [3, 4, 2, 1, 0] rfl)
      · exact absurd (ef_2.trans hf0) c_9
    · exact absurd c_6 hth0
set_option maxHeartbeats 4000000 in
set_option maxRecDepth 100000 in
/-- filled: refused -/
theorem c_Mo_filledt (l : Launch) (D : va_G) (N0 : Nat) (k : Nat → Nat) (V : HV) (mo : Nat) (ad : Nat → Nat) (ρ : MS) (hM : mdOk k V mo ad ρ) (h : Int32) (hGm : moG ρ) (hff : ¬ moFF ρ h = 0) : Met l y_Mo_filled (.code y_Mo_filled b_Mo_filled 5 (some .int) :: WS) ({ frames := 4, cells := 0, slots := 0, locals := 91 }) (mP D N0 k [.ref mo, .int h] V) (va_Qi (fun r V' => mdOk k V' mo ad (ρ.ws 0 (moFF ρ h)) ∧ mdFr mo ad V V' ∧ r = 0) (mB D N0) (hA N0)) 0 0 (hA N0) := by
  refine Met.ofW (cc := b_Mo_filled) (maxL := 5) (ret := (some .int)) (by decide) rfl ?_
  intro p e s m args below meth c s₁ B hml hv0
  obtain ⟨rfl, hG, hV⟩ := hv0
  have hx := B.exec
  have hb := B.bytes
  have hr := B.returns
  have hts := atoms_spec (ws := .code y_Mo_filled b_Mo_filled 5 (some .int) :: WS) B.pre
  have hW : ∀ w ∈ WS, w.before _ s = true := fun w h => hts w (List.mem_cons_of_mem _ h)
  have hown : s.vm.findClass "BoardHouseModel" = some m.cls := findClass_of_methodNamed B.named
  have hlocks := B.notSynchronized
  have hS : va_S (hA N0) s.heap s.heap [] := va_S.rf
  have hl := lv_entry ([.ref mo, .int h]) (n := 5) (Nat.le_of_ble_eq_true rfl)
  rw [lg_entry_eq]
  generalize (lg_sl ([.ref mo, .int h]) ++ List.replicate (5 - (lg_sl ([.ref mo, .int h])).length) Slot.unset).toArray = ls at hl ⊢
  have hl : lv_has ls 5 [(0, .ref mo), (1, .int h)] := hl
  have hm_1 : V mo = some (.inr (7, [.int (ρ.s 0), .int (ρ.s 1), .int (ρ.s 2), .int (ρ.s 3), .ref (ad 0), .ref (ad 1), .ref (ad 2), .ref (ad 3), .ref (ad 4), .ref (ad 5), .ref (ad 6), .ref (ad 7), .ref (ad 8), .int (ρ.s 4), .ref (ad 9), .ref (ad 10), .ref (ad 11), .ref (ad 12), .ref (ad 13), .ref (ad 14), .ref (ad 15), .ref (ad 16), .ref (ad 17), .ref (ad 18), .ref (ad 19), .ref (ad 20), .ref (ad 21), .ref (ad 22), .ref (ad 23), .ref (ad 24), .ref (ad 25)])) := hM.1
  have hm_1_1 : V (ad 1) = some (eZ k 150 (ρ.I 1)) := hM.a1
  have hm_1_6 : V (ad 6) = some (eI k 150 (ρ.I 6)) := hM.a6
  have hm_1_7 : V (ad 7) = some (eI k 150 (ρ.I 7)) := hM.a7
  have hm_1_25 : V (ad 25) = some (eL k 96 (ρ.L 2)) := hM.a25
  refine lv_aload_n hx hb d_Mo_filled_0 rfl (lv_at hl 0 rfl) ?_
  refine lv_aload_n hx hb d_Mo_filled_1 rfl (lv_at hl 0 rfl) ?_
  refine lv_iload_n hx hb d_Mo_filled_2 rfl (lv_at hl 1 rfl) ?_
  refine lv_iconst (v := 5) hx hb d_Mo_filled_3 (by decide) ?_
  refine rc_i (va_runV (As := [.int h, .int 5]) (rest := [.ref mo]) ⟨hx, hb, hml, hown, hts⟩ (c_Mo_fault l D N0 k V mo ad ρ hM h 5) (cwV 2 hts (gi_V wm_Mo_176 wv_Mo_fault ws_Mo_fault wi_Mo wc_Mo_fault) rfl rfl rfl (by decide +kernel) ⟨Nat.le_of_ble_eq_true rfl, Nat.le_of_ble_eq_true rfl⟩) (mP.preV hG hS hV hm_1 rfl) rfl rfl hl.1 rfl (lv_room (Nat.le_of_ble_eq_true rfl)) d_Mo_filled_4 ⟨Nat.le_of_ble_eq_true rfl, Nat.le_of_ble_eq_true rfl⟩) hS (fun H locs hV hS => ?_)
  refine W.eq (g2 := F0 m 7 ls [.int (moFault (ρ.I 0) h 5), .ref mo]) rfl ?_
  refine lv_topi (fun f_2 ef_2 => ?_)
  refine pf_Mo_100 hx hb hW hown hG hV hS hm_1 d_Mo_filled_7 (fun H locs hV hS => ?_)
  replace hV : hv D vwCl N0 (hu V mo (.inr (7, [.int f_2, .int (ρ.s 1), .int (ρ.s 2), .int (ρ.s 3), .ref (ad 0), .ref (ad 1), .ref (ad 2), .ref (ad 3), .ref (ad 4), .ref (ad 5), .ref (ad 6), .ref (ad 7), .ref (ad 8), .int (ρ.s 4), .ref (ad 9), .ref (ad 10), .ref (ad 11), .ref (ad 12), .ref (ad 13), .ref (ad 14), .ref (ad 15), .ref (ad 16), .ref (ad 17), .ref (ad 18), .ref (ad 19), .ref (ad 20), .ref (ad 21), .ref (ad 22), .ref (ad 23), .ref (ad 24), .ref (ad 25)]))) H := hV
  generalize hV_V_3 : hu V mo (.inr (7, [.int f_2, .int (ρ.s 1), .int (ρ.s 2), .int (ρ.s 3), .ref (ad 0), .ref (ad 1), .ref (ad 2), .ref (ad 3), .ref (ad 4), .ref (ad 5), .ref (ad 6), .ref (ad 7), .ref (ad 8), .int (ρ.s 4), .ref (ad 9), .ref (ad 10), .ref (ad 11), .ref (ad 12), .ref (ad 13), .ref (ad 14), .ref (ad 15), .ref (ad 16), .ref (ad 17), .ref (ad 18), .ref (ad 19), .ref (ad 20), .ref (ad 21), .ref (ad 22), .ref (ad 23), .ref (ad 24), .ref (ad 25)])) = V_3 at hV
  have hM_3 : mdOk k V_3 mo ad (ρ.ws 0 f_2) := by rw [← hV_V_3]; exact md_put hM 0 f_2
  have hR_3 : mdFr mo ad V V_3 := by rw [← hV_V_3]; exact (mdFr.rf (mo := mo) (ad := ad) (V := V)).m
  have hm_4 : V_3 mo = some (.inr (7, [.int f_2, .int (ρ.s 1), .int (ρ.s 2), .int (ρ.s 3), .ref (ad 0), .ref (ad 1), .ref (ad 2), .ref (ad 3), .ref (ad 4), .ref (ad 5), .ref (ad 6), .ref (ad 7), .ref (ad 8), .int (ρ.s 4), .ref (ad 9), .ref (ad 10), .ref (ad 11), .ref (ad 12), .ref (ad 13), .ref (ad 14), .ref (ad 15), .ref (ad 16), .ref (ad 17), .ref (ad 18), .ref (ad 19), .ref (ad 20), .ref (ad 21), .ref (ad 22), .ref (ad 23), .ref (ad 24), .ref (ad 25)])) := hM_3.1
  have hm_4_1 : V_3 (ad 1) = some (eZ k 150 (ρ.I 1)) := hM_3.a1
  have hm_4_6 : V_3 (ad 6) = some (eI k 150 (ρ.I 6)) := hM_3.a6
  have hm_4_7 : V_3 (ad 7) = some (eI k 150 (ρ.I 7)) := hM_3.a7
  have hm_4_25 : V_3 (ad 25) = some (eL k 96 (ρ.L 2)) := hM_3.a25
  refine lv_aload_n hx hb d_Mo_filled_10 rfl (lv_at hl 0 rfl) ?_
  refine lv_aload_n hx hb d_Mo_filled_11 rfl (lv_at hl 0 rfl) ?_
  refine gf_Mo_100 hx hb hW hown hG hV hm_4 d_Mo_filled_12 ?_
  refine lv_if_ne (tgt := 39) hx hb d_Mo_filled_15 (by decide) (fun c_5 => ?_) (fun c_5 => ?_)
  · refine lv_aload_n hx hb d_Mo_filled_39 rfl (lv_at hl 0 rfl) ?_
    refine gf_Mo_100 hx hb hW hown hG hV hm_4 d_Mo_filled_40 ?_
    refine pf_Mo_100 hx hb hW hown hG hV hS hm_4 d_Mo_filled_43 (fun H locs hV hS => ?_)
    replace hV : hv D vwCl N0 (hu V_3 mo (.inr (7, [.int f_2, .int (ρ.s 1), .int (ρ.s 2), .int (ρ.s 3), .ref (ad 0), .ref (ad 1), .ref (ad 2), .ref (ad 3), .ref (ad 4), .ref (ad 5), .ref (ad 6), .ref (ad 7), .ref (ad 8), .int (ρ.s 4), .ref (ad 9), .ref (ad 10), .ref (ad 11), .ref (ad 12), .ref (ad 13), .ref (ad 14), .ref (ad 15), .ref (ad 16), .ref (ad 17), .ref (ad 18), .ref (ad 19), .ref (ad 20), .ref (ad 21), .ref (ad 22), .ref (ad 23), .ref (ad 24), .ref (ad 25)]))) H := hV
    generalize hV_V_6 : hu V_3 mo (.inr (7, [.int f_2, .int (ρ.s 1), .int (ρ.s 2), .int (ρ.s 3), .ref (ad 0), .ref (ad 1), .ref (ad 2), .ref (ad 3), .ref (ad 4), .ref (ad 5), .ref (ad 6), .ref (ad 7), .ref (ad 8), .int (ρ.s 4), .ref (ad 9), .ref (ad 10), .ref (ad 11), .ref (ad 12), .ref (ad 13), .ref (ad 14), .ref (ad 15), .ref (ad 16), .ref (ad 17), .ref (ad 18), .ref (ad 19), .ref (ad 20), .ref (ad 21), .ref (ad 22), .ref (ad 23), .ref (ad 24), .ref (ad 25)])) = V_6 at hV
    have hM_6 : mdOk k V_6 mo ad ((ρ.ws 0 f_2).ws 0 f_2) := by rw [← hV_V_6]; exact md_put hM_3 0 f_2
    have hR_6 : mdFr mo ad V V_6 := by rw [← hV_V_6]; exact hR_3.m
    have hm_7 : V_6 mo = some (.inr (7, [.int f_2, .int (ρ.s 1), .int (ρ.s 2), .int (ρ.s 3), .ref (ad 0), .ref (ad 1), .ref (ad 2), .ref (ad 3), .ref (ad 4), .ref (ad 5), .ref (ad 6), .ref (ad 7), .ref (ad 8), .int (ρ.s 4), .ref (ad 9), .ref (ad 10), .ref (ad 11), .ref (ad 12), .ref (ad 13), .ref (ad 14), .ref (ad 15), .ref (ad 16), .ref (ad 17), .ref (ad 18), .ref (ad 19), .ref (ad 20), .ref (ad 21), .ref (ad 22), .ref (ad 23), .ref (ad 24), .ref (ad 25)])) := hM_6.1
    have hm_7_1 : V_6 (ad 1) = some (eZ k 150 (ρ.I 1)) := hM_6.a1
    have hm_7_6 : V_6 (ad 6) = some (eI k 150 (ρ.I 6)) := hM_6.a6
    have hm_7_7 : V_6 (ad 7) = some (eI k 150 (ρ.I 7)) := hM_6.a7
    have hm_7_25 : V_6 (ad 25) = some (eL k 96 (ρ.L 2)) := hM_6.a25
    refine lv_aload_n hx hb d_Mo_filled_46 rfl (lv_at hl 0 rfl) ?_
    refine gf_Mo_100 hx hb hW hown hG hV hm_7 d_Mo_filled_47 ?_
    refine lv_if_eq (tgt := 55) hx hb d_Mo_filled_50 (by decide) (fun c_8 => ?_) (fun c_8 => ?_)
    · exact absurd c_8 c_5
    · refine lv_iconst (v := 0) hx hb d_Mo_filled_53 (by decide) ?_
      exact W.iret (v := 0) hx hb hr (fun t9 ht hW => ⟨⟨0, V_6, rfl, ⟨by rw [moFF, if_neg (fun q => c_5 (ef_2.trans q))]; have q := hM_6; rw [ws_ws, ef_2] at q; exact q, hR_6, rfl⟩, mB_of ht hV⟩, hS.F ht⟩) hS.2.2 d_Mo_filled_54
  · refine lv_aload_n hx hb d_Mo_filled_18 rfl (lv_at hl 0 rfl) ?_
    refine gf_Mo_13 hx hb hW hown hG hV hm_4 d_Mo_filled_19 ?_
    refine lv_sipush (v := 140) hx hb d_Mo_filled_22 (by decide) ?_
    refine lv_iload_n hx hb d_Mo_filled_25 rfl (lv_at hl 1 rfl) ?_
    refine lv_sipush (v := 1000) hx hb d_Mo_filled_26 (by decide) ?_
    refine lv_irem hx hb d_Mo_filled_29 (by decide) ?_
    refine lv_iadd hx hb d_Mo_filled_30 ?_
    obtain ⟨g0a, k0a⟩ := moFault0 (ef_2.symm.trans c_5)
    obtain ⟨-, eN, -, -, hlt9⟩ := mg_of hGm g0a
    have hKh : hdK h = 5 := hdK_of (by decide) k0a
    have hp9 : hdN h < 10 := by rw [hKh] at hlt9; exact Nat.lt_of_lt_of_le hlt9 (mN_of hGm (by omega) (by omega)).2
    refine W.eq (g2 := F0 m 31 ls [.int (nI (140 + hdN h)), .ref (ad 1), .ref mo]) (by rw [eN, show (140 : Int32) = nI 140 from rfl, nI_add]) ?_
    refine hv_zald hx hb hG.K hV 2 hm_4_1 rfl (vp_in_nI (by omega) (by omega)) d_Mo_filled_31 ?_
    rw [nI_clamp (by omega)]
    refine lv_if_ne (tgt := 39) hx hb d_Mo_filled_32 (by decide) (fun c_9 => ?_) (fun c_9 => ?_)
    · refine lv_aload_n hx hb d_Mo_filled_39 rfl (lv_at hl 0 rfl) ?_
      refine gf_Mo_100 hx hb hW hown hG hV hm_4 d_Mo_filled_40 ?_
      refine pf_Mo_100 hx hb hW hown hG hV hS hm_4 d_Mo_filled_43 (fun H locs hV hS => ?_)
      replace hV : hv D vwCl N0 (hu V_3 mo (.inr (7, [.int f_2, .int (ρ.s 1), .int (ρ.s 2), .int (ρ.s 3), .ref (ad 0), .ref (ad 1), .ref (ad 2), .ref (ad 3), .ref (ad 4), .ref (ad 5), .ref (ad 6), .ref (ad 7), .ref (ad 8), .int (ρ.s 4), .ref (ad 9), .ref (ad 10), .ref (ad 11), .ref (ad 12), .ref (ad 13), .ref (ad 14), .ref (ad 15), .ref (ad 16), .ref (ad 17), .ref (ad 18), .ref (ad 19), .ref (ad 20), .ref (ad 21), .ref (ad 22), .ref (ad 23), .ref (ad 24), .ref (ad 25)]))) H := hV
      generalize hV_V_10 : hu V_3 mo (.inr (7, [.int f_2, .int (ρ.s 1), .int (ρ.s 2), .int (ρ.s 3), .ref (ad 0), .ref (ad 1), .ref (ad 2), .ref (ad 3), .ref (ad 4), .ref (ad 5), .ref (ad 6), .ref (ad 7), .ref (ad 8), .int (ρ.s 4), .ref (ad 9), .ref (ad 10), .ref (ad 11), .ref (ad 12), .ref (ad 13), .ref (ad 14), .ref (ad 15), .ref (ad 16), .ref (ad 17), .ref (ad 18), .ref (ad 19), .ref (ad 20), .ref (ad 21), .ref (ad 22), .ref (ad 23), .ref (ad 24), .ref (ad 25)])) = V_10 at hV
      have hM_10 : mdOk k V_10 mo ad ((ρ.ws 0 f_2).ws 0 f_2) := by rw [← hV_V_10]; exact md_put hM_3 0 f_2
      have hR_10 : mdFr mo ad V V_10 := by rw [← hV_V_10]; exact hR_3.m
      have hm_11 : V_10 mo = some (.inr (7, [.int f_2, .int (ρ.s 1), .int (ρ.s 2), .int (ρ.s 3), .ref (ad 0), .ref (ad 1), .ref (ad 2), .ref (ad 3), .ref (ad 4), .ref (ad 5), .ref (ad 6), .ref (ad 7), .ref (ad 8), .int (ρ.s 4), .ref (ad 9), .ref (ad 10), .ref (ad 11), .ref (ad 12), .ref (ad 13), .ref (ad 14), .ref (ad 15), .ref (ad 16), .ref (ad 17), .ref (ad 18), .ref (ad 19), .ref (ad 20), .ref (ad 21), .ref (ad 22), .ref (ad 23), .ref (ad 24), .ref (ad 25)])) := hM_10.1
      have hm_11_1 : V_10 (ad 1) = some (eZ k 150 (ρ.I 1)) := hM_10.a1
      have hm_11_6 : V_10 (ad 6) = some (eI k 150 (ρ.I 6)) := hM_10.a6
      have hm_11_7 : V_10 (ad 7) = some (eI k 150 (ρ.I 7)) := hM_10.a7
      have hm_11_25 : V_10 (ad 25) = some (eL k 96 (ρ.L 2)) := hM_10.a25
      refine lv_aload_n hx hb d_Mo_filled_46 rfl (lv_at hl 0 rfl) ?_
      refine gf_Mo_100 hx hb hW hown hG hV hm_11 d_Mo_filled_47 ?_
      refine lv_if_eq (tgt := 55) hx hb d_Mo_filled_50 (by decide) (fun c_12 => ?_) (fun c_12 => ?_)
      · exact absurd (show moFF ρ h = 0 by rw [moFF, if_pos (ef_2.symm.trans c_5), if_neg c_9]) hff
      · exact absurd c_5 c_12
    · refine lv_iconst (v := 3) hx hb d_Mo_filled_35 (by decide) ?_
      refine lv_goto (tgt := 43) hx hb d_Mo_filled_36 (by decide) ?_
      refine pf_Mo_100 hx hb hW hown hG hV hS hm_4 d_Mo_filled_43 (fun H locs hV hS => ?_)
      replace hV : hv D vwCl N0 (hu V_3 mo (.inr (7, [.int 3, .int (ρ.s 1), .int (ρ.s 2), .int (ρ.s 3), .ref (ad 0), .ref (ad 1), .ref (ad 2), .ref (ad 3), .ref (ad 4), .ref (ad 5), .ref (ad 6), .ref (ad 7), .ref (ad 8), .int (ρ.s 4), .ref (ad 9), .ref (ad 10), .ref (ad 11), .ref (ad 12), .ref (ad 13), .ref (ad 14), .ref (ad 15), .ref (ad 16), .ref (ad 17), .ref (ad 18), .ref (ad 19), .ref (ad 20), .ref (ad 21), .ref (ad 22), .ref (ad 23), .ref (ad 24), .ref (ad 25)]))) H := hV
      generalize hV_V_13 : hu V_3 mo (.inr (7, [.int 3, .int (ρ.s 1), .int (ρ.s 2), .int (ρ.s 3), .ref (ad 0), .ref (ad 1), .ref (ad 2), .ref (ad 3), .ref (ad 4), .ref (ad 5), .ref (ad 6), .ref (ad 7), .ref (ad 8), .int (ρ.s 4), .ref (ad 9), .ref (ad 10), .ref (ad 11), .ref (ad 12), .ref (ad 13), .ref (ad 14), .ref (ad 15), .ref (ad 16), .ref (ad 17), .ref (ad 18), .ref (ad 19), .ref (ad 20), .ref (ad 21), .ref (ad 22), .ref (ad 23), .ref (ad 24), .ref (ad 25)])) = V_13 at hV
      have hM_13 : mdOk k V_13 mo ad ((ρ.ws 0 f_2).ws 0 3) := by rw [← hV_V_13]; exact md_put hM_3 0 3
      have hR_13 : mdFr mo ad V V_13 := by rw [← hV_V_13]; exact hR_3.m
      have hm_14 : V_13 mo = some (.inr (7, [.int 3, .int (ρ.s 1), .int (ρ.s 2), .int (ρ.s 3), .ref (ad 0), .ref (ad 1), .ref (ad 2), .ref (ad 3), .ref (ad 4), .ref (ad 5), .ref (ad 6), .ref (ad 7), .ref (ad 8), .int (ρ.s 4), .ref (ad 9), .ref (ad 10), .ref (ad 11), .ref (ad 12), .ref (ad 13), .ref (ad 14), .ref (ad 15), .ref (ad 16), .ref (ad 17), .ref (ad 18), .ref (ad 19), .ref (ad 20), .ref (ad 21), .ref (ad 22), .ref (ad 23), .ref (ad 24), .ref (ad 25)])) := hM_13.1
      have hm_14_1 : V_13 (ad 1) = some (eZ k 150 (ρ.I 1)) := hM_13.a1
      have hm_14_6 : V_13 (ad 6) = some (eI k 150 (ρ.I 6)) := hM_13.a6
      have hm_14_7 : V_13 (ad 7) = some (eI k 150 (ρ.I 7)) := hM_13.a7
      have hm_14_25 : V_13 (ad 25) = some (eL k 96 (ρ.L 2)) := hM_13.a25
      refine lv_aload_n hx hb d_Mo_filled_46 rfl (lv_at hl 0 rfl) ?_
      refine gf_Mo_100 hx hb hW hown hG hV hm_14 d_Mo_filled_47 ?_
      refine lv_if_eq (tgt := 55) hx hb d_Mo_filled_50 (by decide) (fun q => absurd q (by decide)) (fun _ => ?_)
      refine lv_iconst (v := 0) hx hb d_Mo_filled_53 (by decide) ?_
      exact W.iret (v := 0) hx hb hr (fun t9 ht hW => ⟨⟨0, V_13, rfl, ⟨by rw [moFF, if_pos (ef_2.symm.trans c_5), if_pos c_9]; have q := hM_13; rw [ws_ws] at q; exact q, hR_13, rfl⟩, mB_of ht hV⟩, hS.F ht⟩) hS.2.2 d_Mo_filled_54
