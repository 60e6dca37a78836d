/-! move, drop -/
theorem W_lp {k : Nat → Nat} {V V' : HV} {b bm : HA} {σ : HS} {U : (Nat → Int32) → Nat → Int32} {ex : Option Nat} {hn r : Int32} (hW : hsW k V b σ) (hU : ∀ R q, q < 5 → U R q = R q) (h : hsOk k V' bm (lpS U ex hn (σ.wrs r) 150)) (e1 : bm.f = b.f) (e2 : bm.fa = b.fa) (e3 : bm.fv = b.fv) : hsW k V' bm (lpS U ex hn (σ.wrs r) 150) :=
  W_keep hW h e1 e2 e3 (lpS_G 150) (fun i => ⟨lpS_q hU 150 i 0 (by omega), lpS_q hU 150 i 1 (by omega)⟩)
set_option maxHeartbeats 4000000 in
set_option maxRecDepth 100000 in
/-- move -/
theorem c_Ho_move (l : Launch) (D : va_G) (N0 : Nat) (k : Nat → Nat) (V : HV) (b : HA) (σ : HS) (hW0 : hsW k V b σ) (part x y : Int32) (hg : gvOk σ.G part = true) (hk2 : part / 1000 = 2) (hth : ¬ σ.T (hdI part) 5 = 0) : Met l y_Ho_move (.code y_Ho_move b_Ho_move 5 (some .boolean) :: WS) ({ frames := 7, cells := 1, slots := 4, locals := 123 }) (mP D N0 k [.ref b.ho, .int part, .int x, .int y] V) (va_Qi (fun r V' => ∃ b', hsW k V' b' (mvS σ (hdI part) x y).2 ∧ hsFr b b' V V' ∧ r = (mvS σ (hdI part) x y).1) (mB D N0) (hA N0)) 1 4 (hA N0) := by
  refine Met.ofW (cc := b_Ho_move) (maxL := 5) (ret := (some .boolean)) (by decide) rfl ?_
  intro p e s m args below meth c s₁ B hml hv0
  obtain ⟨rfl, hG, hV⟩ := hv0
  have hx := B.exec
  have hb := B.bytes
  have hr := B.returns
  have hts := atoms_spec (ws := .code y_Ho_move b_Ho_move 5 (some .boolean) :: WS) B.pre
  have hW : ∀ w ∈ WS, w.before _ s = true := fun w h => hts w (List.mem_cons_of_mem _ h)
  have hown : s.vm.findClass "BoardHouse" = some m.cls := findClass_of_methodNamed B.named
  have hlocks := B.notSynchronized
  have hS : va_S (hA N0) s.heap s.heap [] := va_S.rf
  have hl := lv_entry ([.ref b.ho, .int part, .int x, .int y]) (n := 5) (Nat.le_of_ble_eq_true rfl)
  rw [lg_entry_eq]
  generalize (lg_sl ([.ref b.ho, .int part, .int x, .int y]) ++ List.replicate (5 - (lg_sl ([.ref b.ho, .int part, .int x, .int y])).length) Slot.unset).toArray = ls at hl ⊢
  have hl : lv_has ls 5 [(0, .ref b.ho), (1, .int part), (2, .int x), (3, .int y)] := hl
  have hH := hW0.1
  have hKh : hdK part = 2 := hdK_of (by decide) hk2
  obtain ⟨eK, eN, -⟩ := gv_of hW0.2.2.1 hg
  obtain ⟨efi, hi, hmi, t, hf⟩ := thing_of hW0 hg (by omega) (by omega)
  obtain ⟨i, ei⟩ : ∃ z, z = hdI part := ⟨_, rfl⟩
  rw [← ei] at efi hi hmi hf
  obtain ⟨h_t, h_a0⟩ := hH.ts.2.1 i t hi hf
  rw [← ei] at hth
  refine lv_aload_n hx hb d_Ho_move_0 rfl (lv_at hl 0 rfl) ?_
  refine lv_iload_n hx hb d_Ho_move_1 rfl (lv_at hl 1 rfl) ?_
  refine va_csv (va_Run.run (va_runV (As := [.int part]) (rest := []) ⟨hx, hb, hml, hown, hts⟩ (r_Ho_demandGiven l D N0 k V b.ho b.bo b.gi b.co b.ta b.ac b.ve (woA b σ.wo) (nI σ.nl) σ.rs hH.ho σ.G hH.gi part hg) (cwV 1 hts (gi_V wm_Ho_97 wv_Ho_demandGiven ws_Ho_demandGiven wi_Ho wc_Ho_demandGiven) rfl rfl rfl (by decide +kernel) ⟨Nat.le_of_ble_eq_true rfl, Nat.le_of_ble_eq_true rfl⟩) (mP.preV hG hS hV hH.ho rfl) rfl rfl hl.1 rfl (lv_room (Nat.le_of_ble_eq_true rfl)) d_Ho_move_2 ⟨Nat.le_of_ble_eq_true rfl, Nat.le_of_ble_eq_true rfl⟩)) (fun _ => ?_)
  refine lv_iload_n hx hb d_Ho_move_5 rfl (lv_at hl 1 rfl) ?_
  refine lv_iconst (v := 2) hx hb d_Ho_move_6 (by decide) ?_
  refine va_csv (va_Run.run (va_runS (As := [.int part, .int 2]) (rest := []) ⟨hx, hb, hml, hown, hts⟩ (r_Ho_demandKind l D N0 k V part 2 hk2) (va_cwS 2 hts (gi_S wm_Ho_101 wt_Ho_demandKind wi_Ho wc_Ho_demandKind) rfl rfl rfl (by decide +kernel) ⟨Nat.le_of_ble_eq_true rfl, Nat.le_of_ble_eq_true rfl⟩) (mP.preS hG hS hV) rfl rfl hl.1 rfl (lv_room (Nat.le_of_ble_eq_true rfl)) d_Ho_move_7 ⟨Nat.le_of_ble_eq_true rfl, Nat.le_of_ble_eq_true rfl⟩)) (fun _ => ?_)
  refine lv_aload_n hx hb d_Ho_move_10 rfl (lv_at hl 0 rfl) ?_
  refine lv_iload_n hx hb d_Ho_move_11 rfl (lv_at hl 1 rfl) ?_
  refine va_csq (va_Run.run (va_runV (As := [.int part]) (rest := []) ⟨hx, hb, hml, hown, hts⟩ (r_Ho_demandThing l D N0 k V b.ho b.bo b.gi b.co b.ta b.ac b.ve (woA b σ.wo) (nI σ.nl) σ.rs hH.ho σ.G hH.gi b.f b.ar σ.T hH.ts part (hdK part) (hdN part) i t eK eN (by omega) (by omega) efi hi hf) (cwV 1 hts (gi_V wm_Ho_104 wv_Ho_demandThing ws_Ho_demandThing wi_Ho wc_Ho_demandThing) rfl rfl rfl (by decide +kernel) ⟨Nat.le_of_ble_eq_true rfl, Nat.le_of_ble_eq_true rfl⟩) (mP.preV hG hS hV hH.ho rfl) rfl rfl hl.1 rfl (lv_room (Nat.le_of_ble_eq_true rfl)) d_Ho_move_12 ⟨Nat.le_of_ble_eq_true rfl, Nat.le_of_ble_eq_true rfl⟩)) (fun r_1 hp_2 => ?_)
  subst hp_2
  refine W.eq (g2 := F0 m 15 ls [.ref t]) rfl ?_
  refine lv_astore (lv' := [(4, .ref t), (0, .ref b.ho), (1, .int part), (2, .int x), (3, .int y)]) hx hb d_Ho_move_15 hl (by decide) rfl (fun ls hl => ?_)
  refine lv_aload hx hb d_Ho_move_17 (lv_at hl 0 rfl) ?_
  refine va_csv (va_Run.run (va_runS (As := [.ref t]) (rest := []) ⟨hx, hb, hml, hown, hts⟩ (r_Ho_demandThere l D N0 k V t (b.ar i) (σ.T i 0) (σ.T i 1) (σ.T i 2) (σ.T i 3) (σ.T i 4) (σ.T i 5) h_t hth) (va_cwS 1 hts (gi_S wm_Ho_108 wt_Ho_demandThere wi_Ho wc_Ho_demandThere) rfl rfl rfl (by decide +kernel) ⟨Nat.le_of_ble_eq_true rfl, Nat.le_of_ble_eq_true rfl⟩) (mP.preS hG hS hV) rfl rfl hl.1 rfl (lv_room (Nat.le_of_ble_eq_true rfl)) d_Ho_move_19 ⟨Nat.le_of_ble_eq_true rfl, Nat.le_of_ble_eq_true rfl⟩)) (fun _ => ?_)
  refine lv_aload_n hx hb d_Ho_move_22 rfl (lv_at hl 1 rfl) ?_
  refine lv_aload_n hx hb d_Ho_move_23 rfl (lv_at hl 1 rfl) ?_
  refine lv_aload hx hb d_Ho_move_24 (lv_at hl 0 rfl) ?_
  refine lv_aload hx hb d_Ho_move_26 (lv_at hl 0 rfl) ?_
  refine gf_Ho_112 hx hb hW hown hG hV h_t d_Ho_move_28 ?_
  refine lv_iload_n hx hb d_Ho_move_31 rfl (lv_at hl 3 rfl) ?_
  refine lv_iload_n hx hb d_Ho_move_32 rfl (lv_at hl 4 rfl) ?_
  refine rc_Q (va_runV (As := [.int x, .int y]) (rest := [.ref t, .ref b.ho, .ref b.ho]) ⟨hx, hb, hml, hown, hts⟩ (c_Ar_startingAt l D N0 k V (b.ar i) (σ.T i 6) (σ.T i 7) (σ.T i 8) (σ.T i 9) x y h_a0) (cwV 2 hts (gi_V wm_Ho_126 wv_Ar_startingAt ws_Ar_startingAt wi_Ar wc_Ar_startingAt) rfl rfl rfl (by decide +kernel) ⟨Nat.le_of_ble_eq_true rfl, Nat.le_of_ble_eq_true rfl⟩) (mP.preV hG hS hV h_a0 rfl) rfl rfl hl.1 rfl (lv_room (Nat.le_of_ble_eq_true rfl)) d_Ho_move_33 ⟨Nat.le_of_ble_eq_true rfl, Nat.le_of_ble_eq_true rfl⟩) hS (fun r_3 V_4 H locs hp_5 hV hS => ?_)
  obtain ⟨q_6, er_q_6, hn_q_6, ev_q_6⟩ := hp_5
  subst er_q_6
  refine W.eq (g2 := F0 m 36 ls [.ref q_6, .ref t, .ref b.ho, .ref b.ho]) rfl ?_
  have ne_bho_q_6 : b.ho ≠ q_6 := fun z => by rw [← z, hH.ho] at hn_q_6; cases hn_q_6
  have ne_bbo_q_6 : b.bo ≠ q_6 := fun z => by rw [← z, hH.bo] at hn_q_6; cases hn_q_6
  have ne_bgi_q_6 : b.gi ≠ q_6 := fun z => by rw [← z, hH.gi] at hn_q_6; cases hn_q_6
  have ne_bco_q_6 : b.co ≠ q_6 := fun z => by rw [← z, hH.co] at hn_q_6; cases hn_q_6
  have ne_bta_q_6 : b.ta ≠ q_6 := fun z => by rw [← z, hH.ts.1] at hn_q_6; cases hn_q_6
  have ne_bac_q_6 : b.ac ≠ q_6 := fun z => by rw [← z, hH.ac.1] at hn_q_6; cases hn_q_6
  have ne_bve_q_6 : b.ve ≠ q_6 := fun z => by rw [← z, hH.ve] at hn_q_6; cases hn_q_6
  have ne_t_q_6 : t ≠ q_6 := fun z => by rw [← z, h_t] at hn_q_6; cases hn_q_6
  have ne_bari_q_6 : (b.ar i) ≠ q_6 := fun z => by rw [← z, h_a0] at hn_q_6; cases hn_q_6
  have hV_V_4 := ev_q_6.symm
  have hH_ho'V_4 : V_4 b.ho = some (.inr (6, [.int (nI σ.nl), .ref b.bo, .ref b.gi, .ref b.co, .ref b.ta, .ref b.ac, .ref b.ve, va_rf (woA b σ.wo), .int σ.rs])) := by rw [← hV_V_4, hu_n ne_bho_q_6]; exact hH.ho
  have hH_bo'V_4 : V_4 b.bo = some (.inr (1, [.int 0, .int 0, .int 31, .int 23])) := by rw [← hV_V_4, hu_n ne_bbo_q_6]; exact hH.bo
  have hH_gi'V_4 : V_4 b.gi = some (eI k 8 σ.G) := by rw [← hV_V_4, hu_n ne_bgi_q_6]; exact hH.gi
  have hH_co'V_4 : V_4 b.co = some (.inr (2, [.ref b.ta, .int (nI σ.nl), .ref b.ro, .ref b.on, .ref b.re, .int σ.g])) := by rw [← hV_V_4, hu_n ne_bco_q_6]; exact hH.co
  have hH_ts_1'V_4 : V_4 b.ta = some (eTs k b.f) := by rw [← hV_V_4, hu_n ne_bta_q_6]; exact hH.ts.1
  have hH_ac_1'V_4 : V_4 b.ac = some (eAs k b.fa) := by rw [← hV_V_4, hu_n ne_bac_q_6]; exact hH.ac.1
  have hH_ve'V_4 : V_4 b.ve = some (eVs k b.fv) := by rw [← hV_V_4, hu_n ne_bve_q_6]; exact hH.ve
  have h_t'V_4 : V_4 t = some (.inr (5, [.int (σ.T i 0), .int (σ.T i 1), .ref (b.ar i), .int (σ.T i 2), .int (σ.T i 3), .int (σ.T i 4), .int (σ.T i 5)])) := by rw [← hV_V_4, hu_n ne_t_q_6]; exact h_t
  have h_a0'V_4 : V_4 (b.ar i) = some (.inr (1, [.int (σ.T i 6), .int (σ.T i 7), .int (σ.T i 8), .int (σ.T i 9)])) := by rw [← hV_V_4, hu_n ne_bari_q_6]; exact h_a0
  have hq_6'V_4 : V_4 q_6 = some (eAr x y (x + ((σ.T i 8) - (σ.T i 6))) (y + ((σ.T i 9) - (σ.T i 7)))) := by rw [← hV_V_4]; exact hu_s
  have hHm : hsOk k V_4 (b.lab q_6 5001) σ := by rw [← hV_V_4]; exact hs_new hH hn_q_6
  have hFm : hsFr b (b.lab q_6 5001) V V_4 := by rw [← hV_V_4]; exact hsFr_new hn_q_6
  refine rc_i (va_runV (As := [.ref t, .ref q_6]) (rest := [.ref b.ho]) ⟨hx, hb, hml, hown, hts⟩ (c_Ho_whyNotMoved l D N0 k V_4 (b.lab q_6 5001) σ hHm i t hi hf q_6 x y (x + ((σ.T i 8) - (σ.T i 6))) (y + ((σ.T i 9) - (σ.T i 7))) hq_6'V_4) (cwV 2 hts (gi_V wm_Ho_130 wv_Ho_whyNotMoved ws_Ho_whyNotMoved wi_Ho wc_Ho_whyNotMoved) rfl rfl rfl (by decide +kernel) ⟨Nat.le_of_ble_eq_true rfl, Nat.le_of_ble_eq_true rfl⟩) (mP.preV hG hS hV hH_ho'V_4 rfl) rfl rfl hl.1 rfl (lv_room (Nat.le_of_ble_eq_true rfl)) d_Ho_move_36 ⟨Nat.le_of_ble_eq_true rfl, Nat.le_of_ble_eq_true rfl⟩) hS (fun H locs hV hS => ?_)
  refine lv_topi (fun w_7 ew_7 => ?_)
  refine pf_Ho_41 hx hb hW hown hG hV hS hH_ho'V_4 d_Ho_move_39 (fun H locs hV hS => ?_)
  replace hV : hv D vwCl N0 (hu V_4 b.ho (.inr (6, [.int (nI σ.nl), .ref b.bo, .ref b.gi, .ref b.co, .ref b.ta, .ref b.ac, .ref b.ve, va_rf (woA b σ.wo), .int w_7]))) H := hV
  generalize hV_V_8 : hu V_4 b.ho (.inr (6, [.int (nI σ.nl), .ref b.bo, .ref b.gi, .ref b.co, .ref b.ta, .ref b.ac, .ref b.ve, va_rf (woA b σ.wo), .int w_7])) = V_8 at hV
  have hH_bo'V_8 : V_8 b.bo = some (.inr (1, [.int 0, .int 0, .int 31, .int 23])) := by rw [← hV_V_8]; exact hu_o hH_ho'V_4 hH_bo'V_4 (by simp)
  have hH_gi'V_8 : V_8 b.gi = some (eI k 8 σ.G) := by rw [← hV_V_8]; exact hu_o hH_ho'V_4 hH_gi'V_4 (by simp)
  have hH_co'V_8 : V_8 b.co = some (.inr (2, [.ref b.ta, .int (nI σ.nl), .ref b.ro, .ref b.on, .ref b.re, .int σ.g])) := by rw [← hV_V_8]; exact hu_o hH_ho'V_4 hH_co'V_4 (by simp)
  have hH_ts_1'V_8 : V_8 b.ta = some (eTs k b.f) := by rw [← hV_V_8]; exact hu_o hH_ho'V_4 hH_ts_1'V_4 (by simp)
  have hH_ac_1'V_8 : V_8 b.ac = some (eAs k b.fa) := by rw [← hV_V_8]; exact hu_o hH_ho'V_4 hH_ac_1'V_4 (by simp)
  have hH_ve'V_8 : V_8 b.ve = some (eVs k b.fv) := by rw [← hV_V_8]; exact hu_o hH_ho'V_4 hH_ve'V_4 (by simp)
  have h_t'V_8 : V_8 t = some (.inr (5, [.int (σ.T i 0), .int (σ.T i 1), .ref (b.ar i), .int (σ.T i 2), .int (σ.T i 3), .int (σ.T i 4), .int (σ.T i 5)])) := by rw [← hV_V_8]; exact hu_o hH_ho'V_4 h_t'V_4 (by simp)
  have h_a0'V_8 : V_8 (b.ar i) = some (.inr (1, [.int (σ.T i 6), .int (σ.T i 7), .int (σ.T i 8), .int (σ.T i 9)])) := by rw [← hV_V_8]; exact hu_o hH_ho'V_4 h_a0'V_4 (by simp)
  have hq_6'V_8 : V_8 q_6 = some (.inr (1, [.int x, .int y, .int (x + ((σ.T i 8) - (σ.T i 6))), .int (y + ((σ.T i 9) - (σ.T i 7)))])) := by rw [← hV_V_8, hu_n (Ne.symm ne_bho_q_6)]; exact hq_6'V_4
  have hbho'V_8 : V_8 b.ho = some (.inr (6, [.int (nI σ.nl), .ref b.bo, .ref b.gi, .ref b.co, .ref b.ta, .ref b.ac, .ref b.ve, va_rf (woA b σ.wo), .int w_7])) := by rw [← hV_V_8]; exact hu_s
  have hH1 : hsOk k V_8 (b.lab q_6 5001) (σ.wrs w_7) := by rw [← hV_V_8]; exact hs_rs hHm w_7
  have hF1 : hsFr b (b.lab q_6 5001) V V_8 := by rw [← hV_V_8]; exact hFm.tr (hsFr_hu (by rw [show HA.lb (b.lab q_6 5001) b.ho = 1 from hHm.lab.l1]; omega))
  refine lv_aload_n hx hb d_Ho_move_42 rfl (lv_at hl 1 rfl) ?_
  refine gf_Ho_41 hx hb hW hown hG hV hbho'V_8 d_Ho_move_43 ?_
  refine lv_if_ne (tgt := 75) hx hb d_Ho_move_46 (by decide) (fun c_9 => ?_) (fun c_9 => ?_)
  · refine lv_aload_n hx hb d_Ho_move_75 rfl (lv_at hl 1 rfl) ?_
    refine gf_Ho_41 hx hb hW hown hG hV hbho'V_8 d_Ho_move_76 ?_
    refine lv_if_ne (tgt := 86) hx hb d_Ho_move_79 (by decide) (fun c_10 => ?_) (fun c_10 => ?_)
    · refine lv_iconst (v := 0) hx hb d_Ho_move_86 (by decide) ?_
      have hne : ¬ whyMv σ i x y (x + (σ.T i 8 - σ.T i 6)) (y + (σ.T i 9 - σ.T i 7)) = 0 := fun q => c_9 (ew_7.trans q)
      exact W.zret (v := 0) hx hb hr rfl (fun t9 ht hW => ⟨⟨0, V_8, rfl, ⟨_, by rw [← ei, mvS, if_neg hne]; rw [ew_7] at hH1; exact W_keep hW0 hH1 rfl rfl rfl rfl (fun i => ⟨rfl, rfl⟩), hF1, by rw [← ei, mvS, if_neg hne]⟩, mB_of ht hV⟩, hS.F ht⟩) hS.2.2 d_Ho_move_87
    · exact absurd c_10 c_9
  · refine lv_aload_n hx hb d_Ho_move_49 rfl (lv_at hl 1 rfl) ?_
    refine lv_aload hx hb d_Ho_move_50 (lv_at hl 0 rfl) ?_
    refine lv_iload_n hx hb d_Ho_move_52 rfl (lv_at hl 3 rfl) ?_
    refine lv_aload hx hb d_Ho_move_53 (lv_at hl 0 rfl) ?_
    refine gf_Ho_112 hx hb hW hown hG hV h_t'V_8 d_Ho_move_55 ?_
    refine gf_Ho_115 hx hb hW hown hG hV h_a0'V_8 d_Ho_move_58 ?_
    refine lv_isub hx hb d_Ho_move_61 ?_
    refine lv_iload_n hx hb d_Ho_move_62 rfl (lv_at hl 4 rfl) ?_
    refine lv_aload hx hb d_Ho_move_63 (lv_at hl 0 rfl) ?_
    refine gf_Ho_112 hx hb hW hown hG hV h_t'V_8 d_Ho_move_65 ?_
    refine gf_Ho_118 hx hb hW hown hG hV h_a0'V_8 d_Ho_move_68 ?_
    refine lv_isub hx hb d_Ho_move_71 ?_
    refine rc_V (va_runV (As := [.ref t, .int (x - (σ.T i 6)), .int (y - (σ.T i 7))]) (rest := []) ⟨hx, hb, hml, hown, hts⟩ (c_Ho_shiftAll l D N0 k V_8 (b.lab q_6 5001) (σ.wrs w_7) hH1 i t hi hf (slOk_of hW0.2.1 hW0.2.2.2) (x - (σ.T i 6)) (y - (σ.T i 7))) (cwV 3 hts (gi_V wm_Ho_133 wv_Ho_shiftAll ws_Ho_shiftAll wi_Ho wc_Ho_shiftAll) rfl rfl rfl (by decide +kernel) ⟨Nat.le_of_ble_eq_true rfl, Nat.le_of_ble_eq_true rfl⟩) (mP.preV hG hS hV hbho'V_8 rfl) rfl rfl hl.1 rfl (lv_room (Nat.le_of_ble_eq_true rfl)) d_Ho_move_72 ⟨Nat.le_of_ble_eq_true rfl, Nat.le_of_ble_eq_true rfl⟩) hS (fun V_11 H locs hp_12 hV hS => ?_)
    obtain ⟨hH2, hF2⟩ := hp_12
    have hho2 : ∃ wo lay, V_11 b.ho = some (eHo lay b.bo b.gi b.co b.ta b.ac b.ve wo w_7) := ⟨_, _, by have q := hH2.ho; rw [lpS_rs] at q; exact q⟩
    obtain ⟨wo2, lay2, hho2⟩ := hho2
    refine lv_aload_n hx hb d_Ho_move_75 rfl (lv_at hl 1 rfl) ?_
    refine gf_Ho_41 hx hb hW hown hG hV hho2 d_Ho_move_76 ?_
    refine lv_if_ne (tgt := 86) hx hb d_Ho_move_79 (by decide) (fun c_13 => ?_) (fun c_13 => ?_)
    · exact absurd c_9 c_13
    · refine lv_iconst (v := 1) hx hb d_Ho_move_82 (by decide) ?_
      refine lv_goto (tgt := 87) hx hb d_Ho_move_83 (by decide) ?_
      rw [c_9] at hH2 ew_7
      have hz : hsW k V_11 (b.lab q_6 5001) (lpS (shR (x - σ.T i 6) (y - σ.T i 7)) (some i) (1000 * σ.T i 0 + σ.T i 1) (σ.wrs 0) 150) := W_lp hW0 (fun R q hq => shR_lo R q (by omega)) hH2 rfl rfl rfl
      generalize hgz : lpS (shR (x - σ.T i 6) (y - σ.T i 7)) (some i) (1000 * σ.T i 0 + σ.T i 1) (σ.wrs 0) 150 = zz at hz
      exact W.zret (v := 1) hx hb hr rfl (fun t9 ht hW => ⟨⟨1, V_11, rfl, ⟨_, by rw [← ei, mvS, if_pos ew_7.symm, hgz]; exact hz, hF1.tr hF2, by rw [← ei, mvS, if_pos ew_7.symm]⟩, mB_of ht hV⟩, hS.F ht⟩) hS.2.2 d_Ho_move_87
set_option maxHeartbeats 4000000 in
set_option maxRecDepth 100000 in
/-- move: no such part -/
theorem t_Ho_move1 (l : Launch) (hls : l.stackTraces = false) (D : va_G) (N0 : Nat) (k : Nat → Nat) (V : HV) (b : HA) (σ : HS) (hH : hsOk k V b σ) (part x y : Int32) (hg : gvOk σ.G part = false) : hx_Met l y_Ho_move (.code y_Ho_move b_Ho_move 5 (some .boolean) :: WS) ({ frames := 7, cells := 1, slots := 6, locals := 123 }) (mP D N0 k [.ref b.ho, .int part, .int x, .int y] V) "java/lang/IndexOutOfBoundsException" (fun H9 => hv D vwCl N0 V H9) N0 1 6 := by
  refine hx_ofW (cc := b_Ho_move) (maxL := 5) (ret := (some .boolean)) (by decide) rfl ?_
  intro p e s m args below meth c s₁ B hml hno hv0
  obtain ⟨rfl, hG, hV⟩ := hv0
  have hx := B.exec
  have hb := B.bytes
  have hr := B.returns
  have hts := atoms_spec (ws := .code y_Ho_move b_Ho_move 5 (some .boolean) :: WS) B.pre
  have hW : ∀ w ∈ WS, w.before _ s = true := fun w h => hts w (List.mem_cons_of_mem _ h)
  have hown : s.vm.findClass "BoardHouse" = some m.cls := findClass_of_methodNamed B.named
  have hlocks := B.notSynchronized
  have hS : va_S (hA N0) s.heap s.heap [] := va_S.rf
  have hl := lv_entry ([.ref b.ho, .int part, .int x, .int y]) (n := 5) (Nat.le_of_ble_eq_true rfl)
  rw [lg_entry_eq]
  generalize (lg_sl ([.ref b.ho, .int part, .int x, .int y]) ++ List.replicate (5 - (lg_sl ([.ref b.ho, .int part, .int x, .int y])).length) Slot.unset).toArray = ls at hl ⊢
  have hl : lv_has ls 5 [(0, .ref b.ho), (1, .int part), (2, .int x), (3, .int y)] := hl
  refine lv_aload_n hx hb d_Ho_move_0 rfl (lv_at hl 0 rfl) ?_
  refine lv_iload_n hx hb d_Ho_move_1 rfl (lv_at hl 1 rfl) ?_
  exact hx_callOut (hx_runV (As := [.int part]) (rest := []) ⟨hx, hb, hml, hown, hts⟩ (t_Ho_demandGiven l hls D N0 k V b.ho b.bo b.gi b.co b.ta b.ac b.ve (woA b σ.wo) (nI σ.nl) σ.rs hH.ho σ.G hH.gi part hg) (cwV 1 hts (gi_V wm_Ho_97 wv_Ho_demandGiven ws_Ho_demandGiven wi_Ho wc_Ho_demandGiven) rfl rfl rfl (by decide +kernel) ⟨Nat.le_of_ble_eq_true rfl, Nat.le_of_ble_eq_true rfl⟩) (mP.preV hG hS hV hH.ho rfl) rfl rfl hl.1 rfl (lv_room (Nat.le_of_ble_eq_true rfl)) d_Ho_move_2 ⟨Nat.le_of_ble_eq_true rfl, Nat.le_of_ble_eq_true rfl⟩) hno hlocks hS (Nat.le_of_ble_eq_true rfl) (Nat.le_of_ble_eq_true rfl)
set_option maxHeartbeats 4000000 in
set_option maxRecDepth 100000 in
/-- move: not a part -/
theorem t_Ho_move2 (l : Launch) (hls : l.stackTraces = false) (D : va_G) (N0 : Nat) (k : Nat → Nat) (V : HV) (b : HA) (σ : HS) (hH : hsOk k V b σ) (part x y : Int32) (hg : gvOk σ.G part = true) (hk2 : ¬ part / 1000 = 2) : hx_Met l y_Ho_move (.code y_Ho_move b_Ho_move 5 (some .boolean) :: WS) ({ frames := 7, cells := 1, slots := 6, locals := 123 }) (mP D N0 k [.ref b.ho, .int part, .int x, .int y] V) "java/lang/IllegalArgumentException" (fun H9 => hv D vwCl N0 V H9) N0 1 6 := by
  refine hx_ofW (cc := b_Ho_move) (maxL := 5) (ret := (some .boolean)) (by decide) rfl ?_
  intro p e s m args below meth c s₁ B hml hno hv0
  obtain ⟨rfl, hG, hV⟩ := hv0
  have hx := B.exec
  have hb := B.bytes
  have hr := B.returns
  have hts := atoms_spec (ws := .code y_Ho_move b_Ho_move 5 (some .boolean) :: WS) B.pre
  have hW : ∀ w ∈ WS, w.before _ s = true := fun w h => hts w (List.mem_cons_of_mem _ h)
  have hown : s.vm.findClass "BoardHouse" = some m.cls := findClass_of_methodNamed B.named
  have hlocks := B.notSynchronized
  have hS : va_S (hA N0) s.heap s.heap [] := va_S.rf
  have hl := lv_entry ([.ref b.ho, .int part, .int x, .int y]) (n := 5) (Nat.le_of_ble_eq_true rfl)
  rw [lg_entry_eq]
  generalize (lg_sl ([.ref b.ho, .int part, .int x, .int y]) ++ List.replicate (5 - (lg_sl ([.ref b.ho, .int part, .int x, .int y])).length) Slot.unset).toArray = ls at hl ⊢
  have hl : lv_has ls 5 [(0, .ref b.ho), (1, .int part), (2, .int x), (3, .int y)] := hl
  refine lv_aload_n hx hb d_Ho_move_0 rfl (lv_at hl 0 rfl) ?_
  refine lv_iload_n hx hb d_Ho_move_1 rfl (lv_at hl 1 rfl) ?_
  refine va_csv (va_Run.run (va_runV (As := [.int part]) (rest := []) ⟨hx, hb, hml, hown, hts⟩ (r_Ho_demandGiven l D N0 k V b.ho b.bo b.gi b.co b.ta b.ac b.ve (woA b σ.wo) (nI σ.nl) σ.rs hH.ho σ.G hH.gi part hg) (cwV 1 hts (gi_V wm_Ho_97 wv_Ho_demandGiven ws_Ho_demandGiven wi_Ho wc_Ho_demandGiven) rfl rfl rfl (by decide +kernel) ⟨Nat.le_of_ble_eq_true rfl, Nat.le_of_ble_eq_true rfl⟩) (mP.preV hG hS hV hH.ho rfl) rfl rfl hl.1 rfl (lv_room (Nat.le_of_ble_eq_true rfl)) d_Ho_move_2 ⟨Nat.le_of_ble_eq_true rfl, Nat.le_of_ble_eq_true rfl⟩)) (fun _ => ?_)
  refine lv_iload_n hx hb d_Ho_move_5 rfl (lv_at hl 1 rfl) ?_
  refine lv_iconst (v := 2) hx hb d_Ho_move_6 (by decide) ?_
  exact hx_callOut (hx_runS (As := [.int part, .int 2]) (rest := []) ⟨hx, hb, hml, hown, hts⟩ (t_Ho_demandKind l hls D N0 k V part 2 hk2) (va_cwS 2 hts (gi_S wm_Ho_101 wt_Ho_demandKind wi_Ho wc_Ho_demandKind) rfl rfl rfl (by decide +kernel) ⟨Nat.le_of_ble_eq_true rfl, Nat.le_of_ble_eq_true rfl⟩) (mP.preS hG hS hV) rfl rfl hl.1 rfl (lv_room (Nat.le_of_ble_eq_true rfl)) d_Ho_move_7 ⟨Nat.le_of_ble_eq_true rfl, Nat.le_of_ble_eq_true rfl⟩) hno hlocks hS (Nat.le_of_ble_eq_true rfl) (Nat.le_of_ble_eq_true rfl)
set_option maxHeartbeats 4000000 in
set_option maxRecDepth 100000 in
/-- move: dropped -/
theorem t_Ho_move3 (l : Launch) (hls : l.stackTraces = false) (D : va_G) (N0 : Nat) (k : Nat → Nat) (V : HV) (b : HA) (σ : HS) (hW0 : hsW k V b σ) (part x y : Int32) (hg : gvOk σ.G part = true) (hk2 : part / 1000 = 2) (hth : σ.T (hdI part) 5 = 0) : hx_Met l y_Ho_move (.code y_Ho_move b_Ho_move 5 (some .boolean) :: WS) ({ frames := 7, cells := 1, slots := 6, locals := 123 }) (mP D N0 k [.ref b.ho, .int part, .int x, .int y] V) "java/lang/IllegalStateException" (fun H9 => hv D vwCl N0 V H9) N0 1 6 := by
  refine hx_ofW (cc := b_Ho_move) (maxL := 5) (ret := (some .boolean)) (by decide) rfl ?_
  intro p e s m args below meth c s₁ B hml hno hv0
  obtain ⟨rfl, hG, hV⟩ := hv0
  have hx := B.exec
  have hb := B.bytes
  have hr := B.returns
  have hts := atoms_spec (ws := .code y_Ho_move b_Ho_move 5 (some .boolean) :: WS) B.pre
  have hW : ∀ w ∈ WS, w.before _ s = true := fun w h => hts w (List.mem_cons_of_mem _ h)
  have hown : s.vm.findClass "BoardHouse" = some m.cls := findClass_of_methodNamed B.named
  have hlocks := B.notSynchronized
  have hS : va_S (hA N0) s.heap s.heap [] := va_S.rf
  have hl := lv_entry ([.ref b.ho, .int part, .int x, .int y]) (n := 5) (Nat.le_of_ble_eq_true rfl)
  rw [lg_entry_eq]
  generalize (lg_sl ([.ref b.ho, .int part, .int x, .int y]) ++ List.replicate (5 - (lg_sl ([.ref b.ho, .int part, .int x, .int y])).length) Slot.unset).toArray = ls at hl ⊢
  have hl : lv_has ls 5 [(0, .ref b.ho), (1, .int part), (2, .int x), (3, .int y)] := hl
  have hH := hW0.1
  have hKh : hdK part = 2 := hdK_of (by decide) hk2
  obtain ⟨eK, eN, -⟩ := gv_of hW0.2.2.1 hg
  obtain ⟨efi, hi, hmi, t, hf⟩ := thing_of hW0 hg (by omega) (by omega)
  obtain ⟨i, ei⟩ : ∃ z, z = hdI part := ⟨_, rfl⟩
  rw [← ei] at efi hi hmi hf
  obtain ⟨h_t, h_a0⟩ := hH.ts.2.1 i t hi hf
  rw [← ei] at hth
  refine lv_aload_n hx hb d_Ho_move_0 rfl (lv_at hl 0 rfl) ?_
  refine lv_iload_n hx hb d_Ho_move_1 rfl (lv_at hl 1 rfl) ?_
  refine va_csv (va_Run.run (va_runV (As := [.int part]) (rest := []) ⟨hx, hb, hml, hown, hts⟩ (r_Ho_demandGiven l D N0 k V b.ho b.bo b.gi b.co b.ta b.ac b.ve (woA b σ.wo) (nI σ.nl) σ.rs hH.ho σ.G hH.gi part hg) (cwV 1 hts (gi_V wm_Ho_97 wv_Ho_demandGiven ws_Ho_demandGiven wi_Ho wc_Ho_demandGiven) rfl rfl rfl (by decide +kernel) ⟨Nat.le_of_ble_eq_true rfl, Nat.le_of_ble_eq_true rfl⟩) (mP.preV hG hS hV hH.ho rfl) rfl rfl hl.1 rfl (lv_room (Nat.le_of_ble_eq_true rfl)) d_Ho_move_2 ⟨Nat.le_of_ble_eq_true rfl, Nat.le_of_ble_eq_true rfl⟩)) (fun _ => ?_)
  refine lv_iload_n hx hb d_Ho_move_5 rfl (lv_at hl 1 rfl) ?_
  refine lv_iconst (v := 2) hx hb d_Ho_move_6 (by decide) ?_
  refine va_csv (va_Run.run (va_runS (As := [.int part, .int 2]) (rest := []) ⟨hx, hb, hml, hown, hts⟩ (r_Ho_demandKind l D N0 k V part 2 hk2) (va_cwS 2 hts (gi_S wm_Ho_101 wt_Ho_demandKind wi_Ho wc_Ho_demandKind) rfl rfl rfl (by decide +kernel) ⟨Nat.le_of_ble_eq_true rfl, Nat.le_of_ble_eq_true rfl⟩) (mP.preS hG hS hV) rfl rfl hl.1 rfl (lv_room (Nat.le_of_ble_eq_true rfl)) d_Ho_move_7 ⟨Nat.le_of_ble_eq_true rfl, Nat.le_of_ble_eq_true rfl⟩)) (fun _ => ?_)
  refine lv_aload_n hx hb d_Ho_move_10 rfl (lv_at hl 0 rfl) ?_
  refine lv_iload_n hx hb d_Ho_move_11 rfl (lv_at hl 1 rfl) ?_
  refine va_csq (va_Run.run (va_runV (As := [.int part]) (rest := []) ⟨hx, hb, hml, hown, hts⟩ (r_Ho_demandThing l D N0 k V b.ho b.bo b.gi b.co b.ta b.ac b.ve (woA b σ.wo) (nI σ.nl) σ.rs hH.ho σ.G hH.gi b.f b.ar σ.T hH.ts part (hdK part) (hdN part) i t eK eN (by omega) (by omega) efi hi hf) (cwV 1 hts (gi_V wm_Ho_104 wv_Ho_demandThing ws_Ho_demandThing wi_Ho wc_Ho_demandThing) rfl rfl rfl (by decide +kernel) ⟨Nat.le_of_ble_eq_true rfl, Nat.le_of_ble_eq_true rfl⟩) (mP.preV hG hS hV hH.ho rfl) rfl rfl hl.1 rfl (lv_room (Nat.le_of_ble_eq_true rfl)) d_Ho_move_12 ⟨Nat.le_of_ble_eq_true rfl, Nat.le_of_ble_eq_true rfl⟩)) (fun r_1 hp_2 => ?_)
  subst hp_2
  refine W.eq (g2 := F0 m 15 ls [.ref t]) rfl ?_
  refine lv_astore (lv' := [(4, .ref t), (0, .ref b.ho), (1, .int part), (2, .int x), (3, .int y)]) hx hb d_Ho_move_15 hl (by decide) rfl (fun ls hl => ?_)
  refine lv_aload hx hb d_Ho_move_17 (lv_at hl 0 rfl) ?_
  exact hx_callOut (hx_runS (As := [.ref t]) (rest := []) ⟨hx, hb, hml, hown, hts⟩ (t_Ho_demandThere l hls D N0 k V t (b.ar i) (σ.T i 0) (σ.T i 1) (σ.T i 2) (σ.T i 3) (σ.T i 4) (σ.T i 5) h_t hth) (va_cwS 1 hts (gi_S wm_Ho_108 wt_Ho_demandThere wi_Ho wc_Ho_demandThere) rfl rfl rfl (by decide +kernel) ⟨Nat.le_of_ble_eq_true rfl, Nat.le_of_ble_eq_true rfl⟩) (mP.preS hG hS hV) rfl rfl hl.1 rfl (lv_room (Nat.le_of_ble_eq_true rfl)) d_Ho_move_19 ⟨Nat.le_of_ble_eq_true rfl, Nat.le_of_ble_eq_true rfl⟩) hno hlocks hS (Nat.le_of_ble_eq_true rfl) (Nat.le_of_ble_eq_true rfl)
set_option maxHeartbeats 4000000 in
set_option maxRecDepth 100000 in
/-- drop -/
theorem c_Ho_drop (l : Launch) (D : va_G) (N0 : Nat) (k : Nat → Nat) (V : HV) (b : HA) (σ : HS) (hW0 : hsW k V b σ) (h : Int32) (hg : gvOk σ.G h = true) (hk2 : 2 ≤ hdK h) (hk5 : hdK h ≤ 5) (hth : ¬ σ.T (hdI h) 5 = 0) : Met l y_Ho_drop (.code y_Ho_drop b_Ho_drop 3 (some .boolean) :: WS) ({ frames := 7, cells := 0, slots := 0, locals := 114 }) (mP D N0 k [.ref b.ho, .int h] V) (va_Qi (fun r V' => ∃ b', hsW k V' b' (drS σ (hdI h)).2 ∧ hsFr b b' V V' ∧ r = (drS σ (hdI h)).1) (mB D N0) (hA N0)) 0 0 (hA N0) := by
  refine Met.ofW (cc := b_Ho_drop) (maxL := 3) (ret := (some .boolean)) (by decide) rfl ?_
  intro p e s m args below meth c s₁ B hml hv0
  obtain ⟨rfl, hG, hV⟩ := hv0
  have hx := B.exec
  have hb := B.bytes
  have hr := B.returns
  have hts := atoms_spec (ws := .code y_Ho_drop b_Ho_drop 3 (some .boolean) :: WS) B.pre
  have hW : ∀ w ∈ WS, w.before _ s = true := fun w h => hts w (List.mem_cons_of_mem _ h)
  have hown : s.vm.findClass "BoardHouse" = some m.cls := findClass_of_methodNamed B.named
  have hlocks := B.notSynchronized
  have hS : va_S (hA N0) s.heap s.heap [] := va_S.rf
  have hl := lv_entry ([.ref b.ho, .int h]) (n := 3) (Nat.le_of_ble_eq_true rfl)
  rw [lg_entry_eq]
  generalize (lg_sl ([.ref b.ho, .int h]) ++ List.replicate (3 - (lg_sl ([.ref b.ho, .int h])).length) Slot.unset).toArray = ls at hl ⊢
  have hl : lv_has ls 3 [(0, .ref b.ho), (1, .int h)] := hl
  have hH := hW0.1
  obtain ⟨eK, eN, -⟩ := gv_of hW0.2.2.1 hg
  obtain ⟨efi, hi, hmi, t, hf⟩ := thing_of hW0 hg hk2 hk5
  obtain ⟨i, ei⟩ : ∃ z, z = hdI h := ⟨_, rfl⟩
  rw [← ei] at efi hi hmi hf
  obtain ⟨h_t, h_a0⟩ := hH.ts.2.1 i t hi hf
  rw [← ei] at hth
  refine lv_aload_n hx hb d_Ho_drop_0 rfl (lv_at hl 0 rfl) ?_
  refine lv_iload_n hx hb d_Ho_drop_1 rfl (lv_at hl 1 rfl) ?_
  refine va_csv (va_Run.run (va_runV (As := [.int h]) (rest := []) ⟨hx, hb, hml, hown, hts⟩ (r_Ho_demandGiven l D N0 k V b.ho b.bo b.gi b.co b.ta b.ac b.ve (woA b σ.wo) (nI σ.nl) σ.rs hH.ho σ.G hH.gi h hg) (cwV 1 hts (gi_V wm_Ho_97 wv_Ho_demandGiven ws_Ho_demandGiven wi_Ho wc_Ho_demandGiven) rfl rfl rfl (by decide +kernel) ⟨Nat.le_of_ble_eq_true rfl, Nat.le_of_ble_eq_true rfl⟩) (mP.preV hG hS hV hH.ho rfl) rfl rfl hl.1 rfl (lv_room (Nat.le_of_ble_eq_true rfl)) d_Ho_drop_2 ⟨Nat.le_of_ble_eq_true rfl, Nat.le_of_ble_eq_true rfl⟩)) (fun _ => ?_)
  refine lv_aload_n hx hb d_Ho_drop_5 rfl (lv_at hl 0 rfl) ?_
  refine lv_iload_n hx hb d_Ho_drop_6 rfl (lv_at hl 1 rfl) ?_
  refine va_csq (va_Run.run (va_runV (As := [.int h]) (rest := []) ⟨hx, hb, hml, hown, hts⟩ (r_Ho_demandThing l D N0 k V b.ho b.bo b.gi b.co b.ta b.ac b.ve (woA b σ.wo) (nI σ.nl) σ.rs hH.ho σ.G hH.gi b.f b.ar σ.T hH.ts h (hdK h) (hdN h) i t eK eN hk2 hk5 efi hi hf) (cwV 1 hts (gi_V wm_Ho_104 wv_Ho_demandThing ws_Ho_demandThing wi_Ho wc_Ho_demandThing) rfl rfl rfl (by decide +kernel) ⟨Nat.le_of_ble_eq_true rfl, Nat.le_of_ble_eq_true rfl⟩) (mP.preV hG hS hV hH.ho rfl) rfl rfl hl.1 rfl (lv_room (Nat.le_of_ble_eq_true rfl)) d_Ho_drop_7 ⟨Nat.le_of_ble_eq_true rfl, Nat.le_of_ble_eq_true rfl⟩)) (fun r_1 hp_2 => ?_)
  subst hp_2
  refine W.eq (g2 := F0 m 10 ls [.ref t]) rfl ?_
  refine lv_astore_n (lv' := [(2, .ref t), (0, .ref b.ho), (1, .int h)]) hx hb d_Ho_drop_10 rfl hl (by decide) rfl (fun ls hl => ?_)
  refine lv_aload_n hx hb d_Ho_drop_11 rfl (lv_at hl 0 rfl) ?_
  refine va_csv (va_Run.run (va_runS (As := [.ref t]) (rest := []) ⟨hx, hb, hml, hown, hts⟩ (r_Ho_demandThere l D N0 k V t (b.ar i) (σ.T i 0) (σ.T i 1) (σ.T i 2) (σ.T i 3) (σ.T i 4) (σ.T i 5) h_t hth) (va_cwS 1 hts (gi_S wm_Ho_108 wt_Ho_demandThere wi_Ho wc_Ho_demandThere) rfl rfl rfl (by decide +kernel) ⟨Nat.le_of_ble_eq_true rfl, Nat.le_of_ble_eq_true rfl⟩) (mP.preS hG hS hV) rfl rfl hl.1 rfl (lv_room (Nat.le_of_ble_eq_true rfl)) d_Ho_drop_12 ⟨Nat.le_of_ble_eq_true rfl, Nat.le_of_ble_eq_true rfl⟩)) (fun _ => ?_)
  refine lv_aload_n hx hb d_Ho_drop_15 rfl (lv_at hl 1 rfl) ?_
  refine lv_aload_n hx hb d_Ho_drop_16 rfl (lv_at hl 1 rfl) ?_
  refine lv_aload_n hx hb d_Ho_drop_17 rfl (lv_at hl 0 rfl) ?_
  refine gf_Ho_112 hx hb hW hown hG hV h_t d_Ho_drop_18 ?_
  refine rc_i (va_runV (As := [.ref (b.ar i)]) (rest := [.ref b.ho]) ⟨hx, hb, hml, hown, hts⟩ (c_Ho_isBarred l D N0 k V b σ hH (b.ar i) (σ.T i 6) (σ.T i 7) (σ.T i 8) (σ.T i 9) h_a0) (cwV 1 hts (gi_V wm_Ho_137 wv_Ho_isBarred ws_Ho_isBarred wi_Ho wc_Ho_isBarred) rfl rfl rfl (by decide +kernel) ⟨Nat.le_of_ble_eq_true rfl, Nat.le_of_ble_eq_true rfl⟩) (mP.preV hG hS hV hH.ho rfl) rfl rfl hl.1 rfl (lv_room (Nat.le_of_ble_eq_true rfl)) d_Ho_drop_21 ⟨Nat.le_of_ble_eq_true rfl, Nat.le_of_ble_eq_true rfl⟩) hS (fun H locs hV hS => ?_)
  refine lv_if_eq (tgt := 31) hx hb d_Ho_drop_24 (by decide) (fun c_3 => ?_) (fun c_3 => ?_)
  · refine lv_iconst (v := 0) hx hb d_Ho_drop_31 (by decide) ?_
    refine pf_Ho_41 hx hb hW hown hG hV hS hH.ho d_Ho_drop_32 (fun H locs hV hS => ?_)
    replace hV : hv D vwCl N0 (hu V b.ho (.inr (6, [.int (nI σ.nl), .ref b.bo, .ref b.gi, .ref b.co, .ref b.ta, .ref b.ac, .ref b.ve, va_rf (woA b σ.wo), .int 0]))) H := hV
    generalize hV_V_4 : hu V b.ho (.inr (6, [.int (nI σ.nl), .ref b.bo, .ref b.gi, .ref b.co, .ref b.ta, .ref b.ac, .ref b.ve, va_rf (woA b σ.wo), .int 0])) = V_4 at hV
    have hH_bo'V_4 : V_4 b.bo = some (.inr (1, [.int 0, .int 0, .int 31, .int 23])) := by rw [← hV_V_4]; exact hu_o hH.ho hH.bo (by simp)
    have hH_gi'V_4 : V_4 b.gi = some (eI k 8 σ.G) := by rw [← hV_V_4]; exact hu_o hH.ho hH.gi (by simp)
    have hH_co'V_4 : V_4 b.co = some (.inr (2, [.ref b.ta, .int (nI σ.nl), .ref b.ro, .ref b.on, .ref b.re, .int σ.g])) := by rw [← hV_V_4]; exact hu_o hH.ho hH.co (by simp)
    have hH_ts_1'V_4 : V_4 b.ta = some (eTs k b.f) := by rw [← hV_V_4]; exact hu_o hH.ho hH.ts.1 (by simp)
    have hH_ac_1'V_4 : V_4 b.ac = some (eAs k b.fa) := by rw [← hV_V_4]; exact hu_o hH.ho hH.ac.1 (by simp)
    have hH_ve'V_4 : V_4 b.ve = some (eVs k b.fv) := by rw [← hV_V_4]; exact hu_o hH.ho hH.ve (by simp)
    have h_t'V_4 : V_4 t = some (.inr (5, [.int (σ.T i 0), .int (σ.T i 1), .ref (b.ar i), .int (σ.T i 2), .int (σ.T i 3), .int (σ.T i 4), .int (σ.T i 5)])) := by rw [← hV_V_4]; exact hu_o hH.ho h_t (by simp)
    have h_a0'V_4 : V_4 (b.ar i) = some (.inr (1, [.int (σ.T i 6), .int (σ.T i 7), .int (σ.T i 8), .int (σ.T i 9)])) := by rw [← hV_V_4]; exact hu_o hH.ho h_a0 (by simp)
    have hbho'V_4 : V_4 b.ho = some (.inr (6, [.int (nI σ.nl), .ref b.bo, .ref b.gi, .ref b.co, .ref b.ta, .ref b.ac, .ref b.ve, va_rf (woA b σ.wo), .int 0])) := by rw [← hV_V_4]; exact hu_s
    have hH1 : hsOk k V_4 b (σ.wrs 0) := by rw [← hV_V_4]; exact hs_rs hH 0
    have hF1 : hsFr b b V V_4 := by rw [← hV_V_4]; exact hsFr_hu (by rw [hH.lab.l1]; omega)
    refine lv_aload_n hx hb d_Ho_drop_35 rfl (lv_at hl 1 rfl) ?_
    refine gf_Ho_41 hx hb hW hown hG hV hbho'V_4 d_Ho_drop_36 ?_
    refine lv_if_ne (tgt := 47) hx hb d_Ho_drop_39 (by decide) (fun q => absurd q (by decide)) (fun _ => ?_)
    refine lv_aload_n hx hb d_Ho_drop_42 rfl (lv_at hl 1 rfl) ?_
    refine lv_aload_n hx hb d_Ho_drop_43 rfl (lv_at hl 0 rfl) ?_
    refine rc_V (va_runV (As := [.ref t]) (rest := []) ⟨hx, hb, hml, hown, hts⟩ (c_Ho_removeAll l D N0 k V_4 b (σ.wrs 0) hH1 i t hi hf (slOk_of hW0.2.1 hW0.2.2.2)) (cwV 1 hts (gi_V wm_Ho_141 wv_Ho_removeAll ws_Ho_removeAll wi_Ho wc_Ho_removeAll) rfl rfl rfl (by decide +kernel) ⟨Nat.le_of_ble_eq_true rfl, Nat.le_of_ble_eq_true rfl⟩) (mP.preV hG hS hV hbho'V_4 rfl) rfl rfl hl.1 rfl (lv_room (Nat.le_of_ble_eq_true rfl)) d_Ho_drop_44 ⟨Nat.le_of_ble_eq_true rfl, Nat.le_of_ble_eq_true rfl⟩) hS (fun V_5 H locs hp_6 hV hS => ?_)
    obtain ⟨hH2, hF2⟩ := hp_6
    have hho2 : ∃ wo lay, V_5 b.ho = some (eHo lay b.bo b.gi b.co b.ta b.ac b.ve wo 0) := ⟨_, _, by have q := hH2.ho; rw [lpS_rs] at q; exact q⟩
    obtain ⟨wo2, lay2, hho2⟩ := hho2
    refine lv_aload_n hx hb d_Ho_drop_47 rfl (lv_at hl 1 rfl) ?_
    refine gf_Ho_41 hx hb hW hown hG hV hho2 d_Ho_drop_48 ?_
    refine lv_if_ne (tgt := 58) hx hb d_Ho_drop_51 (by decide) (fun q => absurd q (by decide)) (fun _ => ?_)
    refine lv_iconst (v := 1) hx hb d_Ho_drop_54 (by decide) ?_
    refine lv_goto (tgt := 59) hx hb d_Ho_drop_55 (by decide) ?_
    rw [bI_eq0] at c_3
    have hz : hsW k V_5 b (lpS rmR (some i) (1000 * σ.T i 0 + σ.T i 1) (σ.wrs 0) 150) := W_lp hW0 rmR_lo hH2 rfl rfl rfl
    generalize hgz : lpS rmR (some i) (1000 * σ.T i 0 + σ.T i 1) (σ.wrs 0) 150 = zz at hz
    exact W.zret (v := 1) hx hb hr rfl (fun t9 ht hW => ⟨⟨1, V_5, rfl, ⟨_, by rw [← ei, drS, if_neg (by rw [c_3]; exact Bool.false_ne_true), hgz]; exact hz, hF1.tr hF2, by rw [← ei, drS, if_neg (by rw [c_3]; exact Bool.false_ne_true)]⟩, mB_of ht hV⟩, hS.F ht⟩) hS.2.2 d_Ho_drop_59
  · refine lv_iconst (v := 3) hx hb d_Ho_drop_27 (by decide) ?_
    refine lv_goto (tgt := 32) hx hb d_Ho_drop_28 (by decide) ?_
    refine pf_Ho_41 hx hb hW hown hG hV hS hH.ho d_Ho_drop_32 (fun H locs hV hS => ?_)
    replace hV : hv D vwCl N0 (hu V b.ho (.inr (6, [.int (nI σ.nl), .ref b.bo, .ref b.gi, .ref b.co, .ref b.ta, .ref b.ac, .ref b.ve, va_rf (woA b σ.wo), .int 3]))) H := hV
    generalize hV_V_7 : hu V b.ho (.inr (6, [.int (nI σ.nl), .ref b.bo, .ref b.gi, .ref b.co, .ref b.ta, .ref b.ac, .ref b.ve, va_rf (woA b σ.wo), .int 3])) = V_7 at hV
    have hH_bo'V_7 : V_7 b.bo = some (.inr (1, [.int 0, .int 0, .int 31, .int 23])) := by rw [← hV_V_7]; exact hu_o hH.ho hH.bo (by simp)
    have hH_gi'V_7 : V_7 b.gi = some (eI k 8 σ.G) := by rw [← hV_V_7]; exact hu_o hH.ho hH.gi (by simp)
    have hH_co'V_7 : V_7 b.co = some (.inr (2, [.ref b.ta, .int (nI σ.nl), .ref b.ro, .ref b.on, .ref b.re, .int σ.g])) := by rw [← hV_V_7]; exact hu_o hH.ho hH.co (by simp)
    have hH_ts_1'V_7 : V_7 b.ta = some (eTs k b.f) := by rw [← hV_V_7]; exact hu_o hH.ho hH.ts.1 (by simp)
    have hH_ac_1'V_7 : V_7 b.ac = some (eAs k b.fa) := by rw [← hV_V_7]; exact hu_o hH.ho hH.ac.1 (by simp)
    have hH_ve'V_7 : V_7 b.ve = some (eVs k b.fv) := by rw [← hV_V_7]; exact hu_o hH.ho hH.ve (by simp)
    have h_t'V_7 : V_7 t = some (.inr (5, [.int (σ.T i 0), .int (σ.T i 1), .ref (b.ar i), .int (σ.T i 2), .int (σ.T i 3), .int (σ.T i 4), .int (σ.T i 5)])) := by rw [← hV_V_7]; exact hu_o hH.ho h_t (by simp)
    have h_a0'V_7 : V_7 (b.ar i) = some (.inr (1, [.int (σ.T i 6), .int (σ.T i 7), .int (σ.T i 8), .int (σ.T i 9)])) := by rw [← hV_V_7]; exact hu_o hH.ho h_a0 (by simp)
    have hbho'V_7 : V_7 b.ho = some (.inr (6, [.int (nI σ.nl), .ref b.bo, .ref b.gi, .ref b.co, .ref b.ta, .ref b.ac, .ref b.ve, va_rf (woA b σ.wo), .int 3])) := by rw [← hV_V_7]; exact hu_s
    have hH1 : hsOk k V_7 b (σ.wrs 3) := by rw [← hV_V_7]; exact hs_rs hH 3
    have hF1 : hsFr b b V V_7 := by rw [← hV_V_7]; exact hsFr_hu (by rw [hH.lab.l1]; omega)
    refine lv_aload_n hx hb d_Ho_drop_35 rfl (lv_at hl 1 rfl) ?_
    refine gf_Ho_41 hx hb hW hown hG hV hbho'V_7 d_Ho_drop_36 ?_
    refine lv_if_ne (tgt := 47) hx hb d_Ho_drop_39 (by decide) (fun _ => ?_) (fun q => absurd q (by decide))
    refine lv_aload_n hx hb d_Ho_drop_47 rfl (lv_at hl 1 rfl) ?_
    refine gf_Ho_41 hx hb hW hown hG hV hbho'V_7 d_Ho_drop_48 ?_
    refine lv_if_ne (tgt := 58) hx hb d_Ho_drop_51 (by decide) (fun _ => ?_) (fun q => absurd q (by decide))
    refine lv_iconst (v := 0) hx hb d_Ho_drop_58 (by decide) ?_
    rw [bI_ne0] at c_3
    exact W.zret (v := 0) hx hb hr rfl (fun t9 ht hW => ⟨⟨0, V_7, rfl, ⟨_, by rw [← ei, drS, if_pos c_3]; exact W_keep hW0 hH1 rfl rfl rfl rfl (fun i => ⟨rfl, rfl⟩), hF1, by rw [← ei, drS, if_pos c_3]⟩, mB_of ht hV⟩, hS.F ht⟩) hS.2.2 d_Ho_drop_59
set_option maxHeartbeats 4000000 in
set_option maxRecDepth 100000 in
/-- drop: not given -/
theorem t_Ho_drop1 (l : Launch) (hls : l.stackTraces = false) (D : va_G) (N0 : Nat) (k : Nat → Nat) (V : HV) (b : HA) (σ : HS) (hH : hsOk k V b σ) (h : Int32) (hg : gvOk σ.G h = false) : hx_Met l y_Ho_drop (.code y_Ho_drop b_Ho_drop 3 (some .boolean) :: WS) ({ frames := 7, cells := 1, slots := 6, locals := 114 }) (mP D N0 k [.ref b.ho, .int h] V) "java/lang/IndexOutOfBoundsException" (fun H9 => hv D vwCl N0 V H9) N0 1 6 := by
  refine hx_ofW (cc := b_Ho_drop) (maxL := 3) (ret := (some .boolean)) (by decide) rfl ?_
  intro p e s m args below meth c s₁ B hml hno hv0
  obtain ⟨rfl, hG, hV⟩ := hv0
  have hx := B.exec
  have hb := B.bytes
  have hr := B.returns
  have hts := atoms_spec (ws := .code y_Ho_drop b_Ho_drop 3 (some .boolean) :: WS) B.pre
  have hW : ∀ w ∈ WS, w.before _ s = true := fun w h => hts w (List.mem_cons_of_mem _ h)
  have hown : s.vm.findClass "BoardHouse" = some m.cls := findClass_of_methodNamed B.named
  have hlocks := B.notSynchronized
  have hS : va_S (hA N0) s.heap s.heap [] := va_S.rf
  have hl := lv_entry ([.ref b.ho, .int h]) (n := 3) (Nat.le_of_ble_eq_true rfl)
  rw [lg_entry_eq]
  generalize (lg_sl ([.ref b.ho, .int h]) ++ List.replicate (3 - (lg_sl ([.ref b.ho, .int h])).length) Slot.unset).toArray = ls at hl ⊢
  have hl : lv_has ls 3 [(0, .ref b.ho), (1, .int h)] := hl
  refine lv_aload_n hx hb d_Ho_drop_0 rfl (lv_at hl 0 rfl) ?_
  refine lv_iload_n hx hb d_Ho_drop_1 rfl (lv_at hl 1 rfl) ?_
  exact hx_callOut (hx_runV (As := [.int h]) (rest := []) ⟨hx, hb, hml, hown, hts⟩ (t_Ho_demandGiven l hls D N0 k V b.ho b.bo b.gi b.co b.ta b.ac b.ve (woA b σ.wo) (nI σ.nl) σ.rs hH.ho σ.G hH.gi h hg) (cwV 1 hts (gi_V wm_Ho_97 wv_Ho_demandGiven ws_Ho_demandGiven wi_Ho wc_Ho_demandGiven) rfl rfl rfl (by decide +kernel) ⟨Nat.le_of_ble_eq_true rfl, Nat.le_of_ble_eq_true rfl⟩) (mP.preV hG hS hV hH.ho rfl) rfl rfl hl.1 rfl (lv_room (Nat.le_of_ble_eq_true rfl)) d_Ho_drop_2 ⟨Nat.le_of_ble_eq_true rfl, Nat.le_of_ble_eq_true rfl⟩) hno hlocks hS (Nat.le_of_ble_eq_true rfl) (Nat.le_of_ble_eq_true rfl)
set_option maxHeartbeats 4000000 in
set_option maxRecDepth 100000 in
/-- drop: not of a thing -/
theorem t_Ho_drop2 (l : Launch) (hls : l.stackTraces = false) (D : va_G) (N0 : Nat) (k : Nat → Nat) (V : HV) (b : HA) (σ : HS) (hH : hsOk k V b σ) (h : Int32) (hg : gvOk σ.G h = true) (hK : h / 1000 = nI (hdK h)) (hK7 : hdK h ≤ 7) (hk2 : hdK h < 2 ∨ 5 < hdK h) : hx_Met l y_Ho_drop (.code y_Ho_drop b_Ho_drop 3 (some .boolean) :: WS) ({ frames := 7, cells := 1, slots := 6, locals := 114 }) (mP D N0 k [.ref b.ho, .int h] V) "java/lang/IllegalArgumentException" (fun H9 => hv D vwCl N0 V H9) N0 1 6 := by
  refine hx_ofW (cc := b_Ho_drop) (maxL := 3) (ret := (some .boolean)) (by decide) rfl ?_
  intro p e s m args below meth c s₁ B hml hno hv0
  obtain ⟨rfl, hG, hV⟩ := hv0
  have hx := B.exec
  have hb := B.bytes
  have hr := B.returns
  have hts := atoms_spec (ws := .code y_Ho_drop b_Ho_drop 3 (some .boolean) :: WS) B.pre
  have hW : ∀ w ∈ WS, w.before _ s = true := fun w h => hts w (List.mem_cons_of_mem _ h)
  have hown : s.vm.findClass "BoardHouse" = some m.cls := findClass_of_methodNamed B.named
  have hlocks := B.notSynchronized
  have hS : va_S (hA N0) s.heap s.heap [] := va_S.rf
  have hl := lv_entry ([.ref b.ho, .int h]) (n := 3) (Nat.le_of_ble_eq_true rfl)
  rw [lg_entry_eq]
  generalize (lg_sl ([.ref b.ho, .int h]) ++ List.replicate (3 - (lg_sl ([.ref b.ho, .int h])).length) Slot.unset).toArray = ls at hl ⊢
  have hl : lv_has ls 3 [(0, .ref b.ho), (1, .int h)] := hl
  refine lv_aload_n hx hb d_Ho_drop_0 rfl (lv_at hl 0 rfl) ?_
  refine lv_iload_n hx hb d_Ho_drop_1 rfl (lv_at hl 1 rfl) ?_
  refine va_csv (va_Run.run (va_runV (As := [.int h]) (rest := []) ⟨hx, hb, hml, hown, hts⟩ (r_Ho_demandGiven l D N0 k V b.ho b.bo b.gi b.co b.ta b.ac b.ve (woA b σ.wo) (nI σ.nl) σ.rs hH.ho σ.G hH.gi h hg) (cwV 1 hts (gi_V wm_Ho_97 wv_Ho_demandGiven ws_Ho_demandGiven wi_Ho wc_Ho_demandGiven) rfl rfl rfl (by decide +kernel) ⟨Nat.le_of_ble_eq_true rfl, Nat.le_of_ble_eq_true rfl⟩) (mP.preV hG hS hV hH.ho rfl) rfl rfl hl.1 rfl (lv_room (Nat.le_of_ble_eq_true rfl)) d_Ho_drop_2 ⟨Nat.le_of_ble_eq_true rfl, Nat.le_of_ble_eq_true rfl⟩)) (fun _ => ?_)
  refine lv_aload_n hx hb d_Ho_drop_5 rfl (lv_at hl 0 rfl) ?_
  refine lv_iload_n hx hb d_Ho_drop_6 rfl (lv_at hl 1 rfl) ?_
  exact hx_callOut (hx_runV (As := [.int h]) (rest := []) ⟨hx, hb, hml, hown, hts⟩ (t_Ho_demandThing l hls D N0 k V b.ho b.bo b.gi b.co b.ta b.ac b.ve (woA b σ.wo) (nI σ.nl) σ.rs hH.ho σ.G hH.gi h (hdK h) hK hK7 hk2) (cwV 1 hts (gi_V wm_Ho_104 wv_Ho_demandThing ws_Ho_demandThing wi_Ho wc_Ho_demandThing) rfl rfl rfl (by decide +kernel) ⟨Nat.le_of_ble_eq_true rfl, Nat.le_of_ble_eq_true rfl⟩) (mP.preV hG hS hV hH.ho rfl) rfl rfl hl.1 rfl (lv_room (Nat.le_of_ble_eq_true rfl)) d_Ho_drop_7 ⟨Nat.le_of_ble_eq_true rfl, Nat.le_of_ble_eq_true rfl⟩) hno hlocks hS (Nat.le_of_ble_eq_true rfl) (Nat.le_of_ble_eq_true rfl)
set_option maxHeartbeats 4000000 in
set_option maxRecDepth 100000 in
/-- drop: dropped -/
theorem t_Ho_drop3 (l : Launch) (hls : l.stackTraces = false) (D : va_G) (N0 : Nat) (k : Nat → Nat) (V : HV) (b : HA) (σ : HS) (hW0 : hsW k V b σ) (h : Int32) (hg : gvOk σ.G h = true) (hk2 : 2 ≤ hdK h) (hk5 : hdK h ≤ 5) (hth : σ.T (hdI h) 5 = 0) : hx_Met l y_Ho_drop (.code y_Ho_drop b_Ho_drop 3 (some .boolean) :: WS) ({ frames := 7, cells := 1, slots := 6, locals := 114 }) (mP D N0 k [.ref b.ho, .int h] V) "java/lang/IllegalStateException" (fun H9 => hv D vwCl N0 V H9) N0 1 6 := by
  refine hx_ofW (cc := b_Ho_drop) (maxL := 3) (ret := (some .boolean)) (by decide) rfl ?_
  intro p e s m args below meth c s₁ B hml hno hv0
  obtain ⟨rfl, hG, hV⟩ := hv0
  have hx := B.exec
  have hb := B.bytes
  have hr := B.returns
  have hts := atoms_spec (ws := .code y_Ho_drop b_Ho_drop 3 (some .boolean) :: WS) B.pre
  have hW : ∀ w ∈ WS, w.before _ s = true := fun w h => hts w (List.mem_cons_of_mem _ h)
  have hown : s.vm.findClass "BoardHouse" = some m.cls := findClass_of_methodNamed B.named
  have hlocks := B.notSynchronized
  have hS : va_S (hA N0) s.heap s.heap [] := va_S.rf
  have hl := lv_entry ([.ref b.ho, .int h]) (n := 3) (Nat.le_of_ble_eq_true rfl)
  rw [lg_entry_eq]
  generalize (lg_sl ([.ref b.ho, .int h]) ++ List.replicate (3 - (lg_sl ([.ref b.ho, .int h])).length) Slot.unset).toArray = ls at hl ⊢
  have hl : lv_has ls 3 [(0, .ref b.ho), (1, .int h)] := hl
  have hH := hW0.1
  obtain ⟨eK, eN, -⟩ := gv_of hW0.2.2.1 hg
  obtain ⟨efi, hi, hmi, t, hf⟩ := thing_of hW0 hg hk2 hk5
  obtain ⟨i, ei⟩ : ∃ z, z = hdI h := ⟨_, rfl⟩
  rw [← ei] at efi hi hmi hf
  obtain ⟨h_t, h_a0⟩ := hH.ts.2.1 i t hi hf
  rw [← ei] at hth
  refine lv_aload_n hx hb d_Ho_drop_0 rfl (lv_at hl 0 rfl) ?_
  refine lv_iload_n hx hb d_Ho_drop_1 rfl (lv_at hl 1 rfl) ?_
  refine va_csv (va_Run.run (va_runV (As := [.int h]) (rest := []) ⟨hx, hb, hml, hown, hts⟩ (r_Ho_demandGiven l D N0 k V b.ho b.bo b.gi b.co b.ta b.ac b.ve (woA b σ.wo) (nI σ.nl) σ.rs hH.ho σ.G hH.gi h hg) (cwV 1 hts (gi_V wm_Ho_97 wv_Ho_demandGiven ws_Ho_demandGiven wi_Ho wc_Ho_demandGiven) rfl rfl rfl (by decide +kernel) ⟨Nat.le_of_ble_eq_true rfl, Nat.le_of_ble_eq_true rfl⟩) (mP.preV hG hS hV hH.ho rfl) rfl rfl hl.1 rfl (lv_room (Nat.le_of_ble_eq_true rfl)) d_Ho_drop_2 ⟨Nat.le_of_ble_eq_true rfl, Nat.le_of_ble_eq_true rfl⟩)) (fun _ => ?_)
  refine lv_aload_n hx hb d_Ho_drop_5 rfl (lv_at hl 0 rfl) ?_
  refine lv_iload_n hx hb d_Ho_drop_6 rfl (lv_at hl 1 rfl) ?_
  refine va_csq (va_Run.run (va_runV (As := [.int h]) (rest := []) ⟨hx, hb, hml, hown, hts⟩ (r_Ho_demandThing l D N0 k V b.ho b.bo b.gi b.co b.ta b.ac b.ve (woA b σ.wo) (nI σ.nl) σ.rs hH.ho σ.G hH.gi b.f b.ar σ.T hH.ts h (hdK h) (hdN h) i t eK eN hk2 hk5 efi hi hf) (cwV 1 hts (gi_V wm_Ho_104 wv_Ho_demandThing ws_Ho_demandThing wi_Ho wc_Ho_demandThing) rfl rfl rfl (by decide +kernel) ⟨Nat.le_of_ble_eq_true rfl, Nat.le_of_ble_eq_true rfl⟩) (mP.preV hG hS hV hH.ho rfl) rfl rfl hl.1 rfl (lv_room (Nat.le_of_ble_eq_true rfl)) d_Ho_drop_7 ⟨Nat.le_of_ble_eq_true rfl, Nat.le_of_ble_eq_true rfl⟩)) (fun r_1 hp_2 => ?_)
  subst hp_2
  refine W.eq (g2 := F0 m 10 ls [.ref t]) rfl ?_
  refine lv_astore_n (lv' := [(2, .ref t), (0, .ref b.ho), (1, .int h)]) hx hb d_Ho_drop_10 rfl hl (by decide) rfl (fun ls hl => ?_)
  refine lv_aload_n hx hb d_Ho_drop_11 rfl (lv_at hl 0 rfl) ?_
  exact hx_callOut (hx_runS (As := [.ref t]) (rest := []) ⟨hx, hb, hml, hown, hts⟩ (t_Ho_demandThere l hls D N0 k V t (b.ar i) (σ.T i 0) (σ.T i 1) (σ.T i 2) (σ.T i 3) (σ.T i 4) (σ.T i 5) h_t hth) (va_cwS 1 hts (gi_S wm_Ho_108 wt_Ho_demandThere wi_Ho wc_Ho_demandThere) rfl rfl rfl (by decide +kernel) ⟨Nat.le_of_ble_eq_true rfl, Nat.le_of_ble_eq_true rfl⟩) (mP.preS hG hS hV) rfl rfl hl.1 rfl (lv_room (Nat.le_of_ble_eq_true rfl)) d_Ho_drop_12 ⟨Nat.le_of_ble_eq_true rfl, Nat.le_of_ble_eq_true rfl⟩) hno hlocks hS (Nat.le_of_ble_eq_true rfl) (Nat.le_of_ble_eq_true rfl)
