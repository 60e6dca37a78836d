/-! make; the demands of acts -/
theorem exT_tmp {k : Nat → Nat} {V : HV} {b : HA} {σ : HS} (h : hsOk k V b σ) {t : Nat} (lt : b.lb t = 5000) : exT b.f t none := fun j hj => ⟨fun hf => by have := (h.lab.lt j t hj hf).1; omega, fun e => by cases e⟩
theorem why_full {σ : HS} {K : Nat} {R : Nat → Int32} {ex : Option Nat} {x y u v : Int32} (h : 0 = whyMd σ K R ex x y u v) : ¬ limV K ≤ σ.G K := fun q => by rw [whyMd, if_pos q] at h; exact absurd h (by decide)
set_option maxHeartbeats 4000000 in
set_option maxRecDepth 100000 in
/-- make -/
theorem c_Ho_make (l : Launch) (D : va_G) (N0 : Nat) (k : Nat → Nat) (V : HV) (b : HA) (σ : HS) (hH : hsOk k V b σ) (t a0 : Nat) (R : Nat → Int32) (h_t : V t = some (eThR R a0)) (h_a0 : V a0 = some (eArR R)) (a : Nat) (x y u v : Int32) (h_a : V a = some (eAr x y u v)) (K : Nat) (hK : R 0 = nI K) (hK2 : 2 ≤ K) (hK5 : K ≤ 5) (i : Nat) (hsl : ¬ limV K ≤ σ.G K → i < 150 ∧ firV K + R 1 = nI i ∧ b.f i = none) (lt : b.lb t = 5000) (la : b.lb a0 = 5001) : Met l y_Ho_make (.code y_Ho_make b_Ho_make 3 (some .int) :: WS) ({ frames := 4, cells := 0, slots := 0, locals := 96 }) (mP D N0 k [.ref b.ho, .ref t, .ref a] V) (va_Qi (fun r V' => (whyMd σ K R none x y u v = 0 → r = 1000 * nI K + σ.G K ∧ hsOk k V' (b.addT i t a0) (mkS σ K i R) ∧ hsFr b (b.addT i t a0) V V') ∧ (whyMd σ K R none x y u v ≠ 0 → r = -1 ∧ hsOk k V' b (σ.wrs (whyMd σ K R none x y u v)) ∧ hsFr b b V V')) (mB D N0) (hA N0)) 0 0 (hA N0) := by
  refine Met.ofW (cc := b_Ho_make) (maxL := 3) (ret := (some .int)) (by decide) rfl ?_
  intro p e s m args below meth c s₁ B hml hv0
  obtain ⟨rfl, hG, hV⟩ := hv0
  have hx := B.exec
  have hb := B.bytes
  have hr := B.returns
  have hts := atoms_spec (ws := .code y_Ho_make b_Ho_make 3 (some .int) :: WS) B.pre
  have hW : ∀ w ∈ WS, w.before _ s = true := fun w h => hts w (List.mem_cons_of_mem _ h)
  have hown : s.vm.findClass "BoardHouse" = some m.cls := findClass_of_methodNamed B.named
  have hlocks := B.notSynchronized
  have hS : va_S (hA N0) s.heap s.heap [] := va_S.rf
  have hl := lv_entry ([.ref b.ho, .ref t, .ref a]) (n := 3) (Nat.le_of_ble_eq_true rfl)
  rw [lg_entry_eq]
  generalize (lg_sl ([.ref b.ho, .ref t, .ref a]) ++ List.replicate (3 - (lg_sl ([.ref b.ho, .ref t, .ref a])).length) Slot.unset).toArray = ls at hl ⊢
  have hl : lv_has ls 3 [(0, .ref b.ho), (1, .ref t), (2, .ref a)] := hl
  refine lv_aload_n hx hb d_Ho_make_0 rfl (lv_at hl 0 rfl) ?_
  refine lv_aload_n hx hb d_Ho_make_1 rfl (lv_at hl 0 rfl) ?_
  refine lv_aload_n hx hb d_Ho_make_2 rfl (lv_at hl 1 rfl) ?_
  refine lv_aload_n hx hb d_Ho_make_3 rfl (lv_at hl 2 rfl) ?_
  refine rc_i (va_runV (As := [.ref t, .ref a]) (rest := [.ref b.ho]) ⟨hx, hb, hml, hown, hts⟩ (c_Ho_whyNotMade l D N0 k V b σ hH t a0 R h_t h_a0 a x y u v h_a none (exT_tmp hH lt) K hK (by omega) (by omega)) (cwV 2 hts (gi_V wm_Ho_246 wv_Ho_whyNotMade ws_Ho_whyNotMade wi_Ho wc_Ho_whyNotMade) rfl rfl rfl (by decide +kernel) ⟨Nat.le_of_ble_eq_true rfl, Nat.le_of_ble_eq_true rfl⟩) (mP.preV hG hS hV hH.ho rfl) rfl rfl hl.1 rfl (lv_room (Nat.le_of_ble_eq_true rfl)) d_Ho_make_4 ⟨Nat.le_of_ble_eq_true rfl, Nat.le_of_ble_eq_true rfl⟩) hS (fun H locs hV hS => ?_)
  refine lv_topi (fun w_1 ew_1 => ?_)
  refine pf_Ho_41 hx hb hW hown hG hV hS hH.ho d_Ho_make_7 (fun H locs hV hS => ?_)
  replace hV : hv D vwCl N0 (hu V b.ho (.inr (6, [.int (nI σ.nl), .ref b.bo, .ref b.gi, .ref b.co, .ref b.ta, .ref b.ac, .ref b.ve, va_rf (woA b σ.wo), .int w_1]))) H := hV
  generalize hV_V_2 : hu V b.ho (.inr (6, [.int (nI σ.nl), .ref b.bo, .ref b.gi, .ref b.co, .ref b.ta, .ref b.ac, .ref b.ve, va_rf (woA b σ.wo), .int w_1])) = V_2 at hV
  have hH_bo'V_2 : V_2 b.bo = some (.inr (1, [.int 0, .int 0, .int 31, .int 23])) := by rw [← hV_V_2]; exact hu_o hH.ho hH.bo (by simp)
  have hH_gi'V_2 : V_2 b.gi = some (eI k 8 σ.G) := by rw [← hV_V_2]; exact hu_o hH.ho hH.gi (by simp)
  have hH_co'V_2 : V_2 b.co = some (.inr (2, [.ref b.ta, .int (nI σ.nl), .ref b.ro, .ref b.on, .ref b.re, .int σ.g])) := by rw [← hV_V_2]; exact hu_o hH.ho hH.co (by simp)
  have hH_ts_1'V_2 : V_2 b.ta = some (eTs k b.f) := by rw [← hV_V_2]; exact hu_o hH.ho hH.ts.1 (by simp)
  have hH_ac_1'V_2 : V_2 b.ac = some (eAs k b.fa) := by rw [← hV_V_2]; exact hu_o hH.ho hH.ac.1 (by simp)
  have hH_ve'V_2 : V_2 b.ve = some (eVs k b.fv) := by rw [← hV_V_2]; exact hu_o hH.ho hH.ve (by simp)
  have h_t'V_2 : V_2 t = some (.inr (5, [.int (R 0), .int (R 1), .ref a0, .int (R 2), .int (R 3), .int (R 4), .int (R 5)])) := by rw [← hV_V_2]; exact hu_o hH.ho h_t (by simp)
  have h_a0'V_2 : V_2 a0 = some (.inr (1, [.int (R 6), .int (R 7), .int (R 8), .int (R 9)])) := by rw [← hV_V_2]; exact hu_o hH.ho h_a0 (by simp)
  have h_a'V_2 : V_2 a = some (.inr (1, [.int x, .int y, .int u, .int v])) := by rw [← hV_V_2]; exact hu_o hH.ho h_a (by simp)
  have hbho'V_2 : V_2 b.ho = some (.inr (6, [.int (nI σ.nl), .ref b.bo, .ref b.gi, .ref b.co, .ref b.ta, .ref b.ac, .ref b.ve, va_rf (woA b σ.wo), .int w_1])) := by rw [← hV_V_2]; exact hu_s
  refine lv_aload_n hx hb d_Ho_make_10 rfl (lv_at hl 0 rfl) ?_
  refine gf_Ho_41 hx hb hW hown hG hV hbho'V_2 d_Ho_make_11 ?_
  refine lv_if_eq (tgt := 19) hx hb d_Ho_make_14 (by decide) (fun c_3 => ?_) (fun c_3 => ?_)
  · subst c_3
    obtain ⟨hi, hsl1, hfn⟩ := hsl (why_full ew_1)
    refine lv_aload_n hx hb d_Ho_make_19 rfl (lv_at hl 0 rfl) ?_
    refine gf_Ho_70 hx hb hW hown hG hV hbho'V_2 d_Ho_make_20 ?_
    refine lv_aload_n hx hb d_Ho_make_23 rfl (lv_at hl 1 rfl) ?_
    refine rc_i (va_runV (As := []) (rest := [.ref b.ta]) ⟨hx, hb, hml, hown, hts⟩ (c_Th_slot l D N0 k V_2 t a0 (R 0) (R 1) (R 2) (R 3) (R 4) (R 5) h_t'V_2 K hK (by omega)) (cwV 0 hts (gi_V wm_Ho_249 wv_Th_slot ws_Th_slot wi_Th wc_Th_slot) rfl rfl rfl (by decide +kernel) ⟨Nat.le_of_ble_eq_true rfl, Nat.le_of_ble_eq_true rfl⟩) (mP.preV hG hS hV h_t'V_2 rfl) rfl rfl hl.1 rfl (lv_room (Nat.le_of_ble_eq_true rfl)) d_Ho_make_24 ⟨Nat.le_of_ble_eq_true rfl, Nat.le_of_ble_eq_true rfl⟩) hS (fun H locs hV hS => ?_)
    rw [hsl1]
    refine W.eq (g2 := F0 m 27 ls [.int (nI i), .ref b.ta]) rfl ?_
    refine lv_aload_n hx hb d_Ho_make_27 rfl (lv_at hl 1 rfl) ?_
    refine hv_aast hx hb hG.K hV hS 3 5 hH_ts_1'V_2 rfl h_t'V_2 rfl (vp_in_nI (by omega) (by omega)) d_Ho_make_28 (fun H locs hV hS => ?_)
    rw [nI_clamp (by omega)] at hV
    replace hV : hv D vwCl N0 (hu V_2 b.ta (.inl (k 3, 150, .inr (.inr (.inr (.inr (va_up b.f i (some t)))))))) H := hV
    generalize hV_V_4 : hu V_2 b.ta (.inl (k 3, 150, .inr (.inr (.inr (.inr (va_up b.f i (some t))))))) = V_4 at hV
    have hH_bo'V_4 : V_4 b.bo = some (.inr (1, [.int 0, .int 0, .int 31, .int 23])) := by rw [← hV_V_4]; exact hu_o hH_ts_1'V_2 hH_bo'V_2 (by simp)
    have hH_gi'V_4 : V_4 b.gi = some (eI k 8 σ.G) := by rw [← hV_V_4]; exact hu_o hH_ts_1'V_2 hH_gi'V_2 (by simp)
    have hH_co'V_4 : V_4 b.co = some (.inr (2, [.ref b.ta, .int (nI σ.nl), .ref b.ro, .ref b.on, .ref b.re, .int σ.g])) := by rw [← hV_V_4]; exact hu_o hH_ts_1'V_2 hH_co'V_2 (by simp)
    have hH_ac_1'V_4 : V_4 b.ac = some (eAs k b.fa) := by rw [← hV_V_4]; exact hu_o hH_ts_1'V_2 hH_ac_1'V_2 (by simp)
    have hH_ve'V_4 : V_4 b.ve = some (eVs k b.fv) := by rw [← hV_V_4]; exact hu_o hH_ts_1'V_2 hH_ve'V_2 (by simp)
    have h_t'V_4 : V_4 t = some (.inr (5, [.int (R 0), .int (R 1), .ref a0, .int (R 2), .int (R 3), .int (R 4), .int (R 5)])) := by rw [← hV_V_4]; exact hu_o hH_ts_1'V_2 h_t'V_2 (by simp)
    have h_a0'V_4 : V_4 a0 = some (.inr (1, [.int (R 6), .int (R 7), .int (R 8), .int (R 9)])) := by rw [← hV_V_4]; exact hu_o hH_ts_1'V_2 h_a0'V_2 (by simp)
    have h_a'V_4 : V_4 a = some (.inr (1, [.int x, .int y, .int u, .int v])) := by rw [← hV_V_4]; exact hu_o hH_ts_1'V_2 h_a'V_2 (by simp)
    have hbho'V_4 : V_4 b.ho = some (.inr (6, [.int (nI σ.nl), .ref b.bo, .ref b.gi, .ref b.co, .ref b.ta, .ref b.ac, .ref b.ve, va_rf (woA b σ.wo), .int 0])) := by rw [← hV_V_4]; exact hu_o hH_ts_1'V_2 hbho'V_2 (by simp)
    have hbta'V_4 : V_4 b.ta = some (.inl (k 3, 150, .inr (.inr (.inr (.inr (va_up b.f i (some t))))))) := by rw [← hV_V_4]; exact hu_s
    have hH2 : hsOk k V_4 (b.addT i t a0) ((σ.wrs 0).wT (updT σ.T i R)) := by rw [← hV_V_4, ← hV_V_2]; exact hs_addT (hs_rs hH 0) hi hfn (by rw [hV_V_2]; exact h_t'V_2) (by rw [hV_V_2]; exact h_a0'V_2) lt la
    have hF2 : hsFr b (b.addT i t a0) V V_4 := by rw [← hV_V_4, ← hV_V_2]; exact (hsFr_hu (by rw [hH.lab.l1]; omega)).tr (hsFr_addT hH.lab.l5 lt la)
    refine lv_aload_n hx hb d_Ho_make_29 rfl (lv_at hl 0 rfl) ?_
    refine lv_aload_n hx hb d_Ho_make_30 rfl (lv_at hl 1 rfl) ?_
    refine rc_V (va_runV (As := [.ref t]) (rest := []) ⟨hx, hb, hml, hown, hts⟩ (c_Ho_noteChange l D N0 k V_4 (b.addT i t a0) ((σ.wrs 0).wT (updT σ.T i R)) hH2 i t hi addT_f K (by omega) (by show updT σ.T i R i 0 = nI K; rw [uT_s]; exact hK) (by show firV K + updT σ.T i R i 1 = nI i; rw [uT_s]; exact hsl1)) (cwV 1 hts (gi_V wm_Ho_253 wv_Ho_noteChange ws_Ho_noteChange wi_Ho wc_Ho_noteChange) rfl rfl rfl (by decide +kernel) ⟨Nat.le_of_ble_eq_true rfl, Nat.le_of_ble_eq_true rfl⟩) (mP.preV hG hS hV hbho'V_4 rfl) rfl rfl hl.1 rfl (lv_room (Nat.le_of_ble_eq_true rfl)) d_Ho_make_31 ⟨Nat.le_of_ble_eq_true rfl, Nat.le_of_ble_eq_true rfl⟩) hS (fun V_5 H locs hp_6 hV hS => ?_)
    obtain ⟨hH_7, hF_8⟩ := hp_6
    have h_t3 : V_5 t = some (eThR R a0) := by
      have q := (hH_7.ts.2.1 i t hi addT_f).1
      rw [eThT, ntS_T, addT_ar] at q
      rw [q]
      show some (eThR (updT σ.T i R i) a0) = _
      rw [uT_s]
    have hgi3 : V_5 b.gi = some (eI k 8 σ.G) := by
      have q := hH_7.gi
      rw [ntS_G] at q
      exact q
    have hho3 : ∃ wo lay rs, V_5 b.ho = some (eHo lay b.bo b.gi b.co b.ta b.ac b.ve wo rs) := ⟨_, _, _, hH_7.ho⟩
    obtain ⟨wo3, lay3, rs3, hho3⟩ := hho3
    refine lv_aload_n hx hb d_Ho_make_34 rfl (lv_at hl 1 rfl) ?_
    refine lv_iconst (v := 1) hx hb d_Ho_make_35 (by decide) ?_
    refine pf_Ho_172 hx hb hW hown hG hV hS h_t3 (by decide) d_Ho_make_36 (fun H locs hV hS => ?_)
    replace hV : hv D vwCl N0 (hu V_5 t (.inr (5, [.int (R 0), .int (R 1), .ref a0, .int (R 2), .int (R 3), .int (R 4), .int 1]))) H := hV
    generalize hV_V_9 : hu V_5 t (.inr (5, [.int (R 0), .int (R 1), .ref a0, .int (R 2), .int (R 3), .int (R 4), .int 1])) = V_9 at hV
    have hgi3'V_9 : V_9 b.gi = some (eI k 8 σ.G) := by rw [← hV_V_9]; exact hu_o h_t3 hgi3 (by simp)
    have hho3'V_9 : V_9 b.ho = some (.inr (6, [.int lay3, .ref b.bo, .ref b.gi, .ref b.co, .ref b.ta, .ref b.ac, .ref b.ve, va_rf wo3, .int rs3])) := by rw [← hV_V_9]; exact hu_o h_t3 hho3 (by simp)
    have ht'V_9 : V_9 t = some (.inr (5, [.int (R 0), .int (R 1), .ref a0, .int (R 2), .int (R 3), .int (R 4), .int 1])) := by rw [← hV_V_9]; exact hu_s
    have hq4 := hs_th hH_7 hi addT_f (upd R 5 1) (fun q hq => by rw [ntS_T]; show _ = updT σ.T i R i q; rw [uT_s]; exact up_n (by omega))
    rw [addT_ar, ntS_T] at hq4
    have hH4 : hsOk k V_9 (b.addT i t a0) ((ntS ((σ.wrs 0).wT (updT σ.T i R)) i).wT (updT (updT σ.T i R) i (upd R 5 1))) := by rw [← hV_V_9]; exact hq4
    have hF4 : hsFr b (b.addT i t a0) V V_9 := by rw [← hV_V_9]; exact (hF2.tr hF_8).tr (th_put hH2.lab hi addT_f)
    refine lv_aload_n hx hb d_Ho_make_39 rfl (lv_at hl 0 rfl) ?_
    refine lv_aload_n hx hb d_Ho_make_40 rfl (lv_at hl 1 rfl) ?_
    refine gf_Ho_187 hx hb hW hown hG hV ht'V_9 d_Ho_make_41 ?_
    rw [hK]
    refine W.eq (g2 := F0 m 44 ls [.int (nI K), .ref b.ho]) rfl ?_
    refine rc_I (va_runV (As := [.int (nI K)]) (rest := []) ⟨hx, hb, hml, hown, hts⟩ (c_Ho_nextHandle l D N0 k V_9 b.ho b.bo b.gi b.co b.ta b.ac b.ve _ _ _ hho3'V_9 σ.G hgi3'V_9 K (by omega) (by omega)) (cwV 1 hts (gi_V wm_Ho_75 wv_Ho_nextHandle ws_Ho_nextHandle wi_Ho wc_Ho_nextHandle) rfl rfl rfl (by decide +kernel) ⟨Nat.le_of_ble_eq_true rfl, Nat.le_of_ble_eq_true rfl⟩) (mP.preV hG hS hV hho3'V_9 rfl) rfl rfl hl.1 rfl (lv_room (Nat.le_of_ble_eq_true rfl)) d_Ho_make_44 ⟨Nat.le_of_ble_eq_true rfl, Nat.le_of_ble_eq_true rfl⟩) hS (fun r_10 V_11 H locs hp_12 hV hS => ?_)
    obtain ⟨er_r_10, ev_r_10⟩ := hp_12
    exact W.iret (v := r_10) hx hb hr (fun t9 ht hW => ⟨⟨r_10, V_11, rfl, ⟨fun _ => ⟨er_r_10, by rw [ev_r_10]; exact hs_gi hH4 _, by rw [ev_r_10]; exact hF4.tr (hsFr_hu (by have q := hH2.lab.l3; show HA.lb _ (HA.gi (b.addT i t a0)) < 10000; rw [q]; omega))⟩, fun h0 => absurd ew_1.symm h0⟩, mB_of ht hV⟩, hS.F ht⟩) hS.2.2 d_Ho_make_47
  · refine lv_iconst (v := (-1)) hx hb d_Ho_make_17 (by decide) ?_
    exact W.iret (v := (-1)) hx hb hr (fun t9 ht hW => ⟨⟨(-1), V_2, rfl, ⟨fun h0 => absurd (ew_1.trans h0) c_3, fun _ => ⟨rfl, by rw [← hV_V_2, ← ew_1]; exact hs_rs hH _, by rw [← hV_V_2]; exact hsFr_hu (by rw [hH.lab.l1]; omega)⟩⟩, mB_of ht hV⟩, hS.F ht⟩) hS.2.2 d_Ho_make_18
set_option maxHeartbeats 4000000 in
set_option maxRecDepth 100000 in
/-- demandOpenAct -/
theorem r_Ho_demandOpenAct (l : Launch) (D : va_G) (N0 : Nat) (k : Nat → Nat) (V : HV) (b : HA) (σ : HS) (hH : hsOk k V b σ) (h : Int32) (hg : gvOk σ.G h = true) (hk6 : h / 1000 = 6) (N t : Nat) (hN : h - h / 1000 * 1000 = nI N) (hN10 : N < 10) (hf : b.fa N = some t) (hop : ¬ σ.A N 0 = 0) : Met l y_Ho_demandOpenAct (.code y_Ho_demandOpenAct b_Ho_demandOpenAct 3 (some (.object "BoardHouse$Act")) :: WS) ({ frames := 7, cells := 0, slots := 0, locals := 112 }) (mP D N0 k [.ref b.ho, .int h] V) (va_Sq (fun r => r = some t)) 0 0 (fun _ => False) := by
  refine Met.ofW (cc := b_Ho_demandOpenAct) (maxL := 3) (ret := (some (.object "BoardHouse$Act"))) (by decide) rfl ?_
  intro p e s m args below meth c s₁ B hml hv0
  obtain ⟨rfl, hG, hV⟩ := hv0
  have hx := B.exec
  have hb := B.bytes
  have hr := B.returns
  have hts := atoms_spec (ws := .code y_Ho_demandOpenAct b_Ho_demandOpenAct 3 (some (.object "BoardHouse$Act")) :: WS) B.pre
  have hW : ∀ w ∈ WS, w.before _ s = true := fun w h => hts w (List.mem_cons_of_mem _ h)
  have hown : s.vm.findClass "BoardHouse" = some m.cls := findClass_of_methodNamed B.named
  have hlocks := B.notSynchronized
  have hS : va_S (hA N0) s.heap s.heap [] := va_S.rf
  have hl := lv_entry ([.ref b.ho, .int h]) (n := 3) (Nat.le_of_ble_eq_true rfl)
  rw [lg_entry_eq]
  generalize (lg_sl ([.ref b.ho, .int h]) ++ List.replicate (3 - (lg_sl ([.ref b.ho, .int h])).length) Slot.unset).toArray = ls at hl ⊢
  have hl : lv_has ls 3 [(0, .ref b.ho), (1, .int h)] := hl
  refine lv_aload_n hx hb d_Ho_demandOpenAct_0 rfl (lv_at hl 0 rfl) ?_
  refine lv_iload_n hx hb d_Ho_demandOpenAct_1 rfl (lv_at hl 1 rfl) ?_
  refine va_csv (va_Run.run (va_runV (As := [.int h]) (rest := []) ⟨hx, hb, hml, hown, hts⟩ (r_Ho_demandGiven l D N0 k V b.ho b.bo b.gi b.co b.ta b.ac b.ve (woA b σ.wo) (nI σ.nl) σ.rs hH.ho σ.G hH.gi h hg) (cwV 1 hts (gi_V wm_Ho_97 wv_Ho_demandGiven ws_Ho_demandGiven wi_Ho wc_Ho_demandGiven) rfl rfl rfl (by decide +kernel) ⟨Nat.le_of_ble_eq_true rfl, Nat.le_of_ble_eq_true rfl⟩) (mP.preV hG hS hV hH.ho rfl) rfl rfl hl.1 rfl (lv_room (Nat.le_of_ble_eq_true rfl)) d_Ho_demandOpenAct_2 ⟨Nat.le_of_ble_eq_true rfl, Nat.le_of_ble_eq_true rfl⟩)) (fun _ => ?_)
  refine lv_iload_n hx hb d_Ho_demandOpenAct_5 rfl (lv_at hl 1 rfl) ?_
  refine lv_bipush (v := 6) hx hb d_Ho_demandOpenAct_6 (by decide) ?_
  refine va_csv (va_Run.run (va_runS (As := [.int h, .int 6]) (rest := []) ⟨hx, hb, hml, hown, hts⟩ (r_Ho_demandKind l D N0 k V h 6 hk6) (va_cwS 2 hts (gi_S wm_Ho_101 wt_Ho_demandKind wi_Ho wc_Ho_demandKind) rfl rfl rfl (by decide +kernel) ⟨Nat.le_of_ble_eq_true rfl, Nat.le_of_ble_eq_true rfl⟩) (mP.preS hG hS hV) rfl rfl hl.1 rfl (lv_room (Nat.le_of_ble_eq_true rfl)) d_Ho_demandOpenAct_8 ⟨Nat.le_of_ble_eq_true rfl, Nat.le_of_ble_eq_true rfl⟩)) (fun _ => ?_)
  refine lv_aload_n hx hb d_Ho_demandOpenAct_11 rfl (lv_at hl 0 rfl) ?_
  refine gf_Ho_27 hx hb hW hown hG hV hH.ho d_Ho_demandOpenAct_12 ?_
  refine lv_iload_n hx hb d_Ho_demandOpenAct_15 rfl (lv_at hl 1 rfl) ?_
  refine lv_sipush (v := 1000) hx hb d_Ho_demandOpenAct_16 (by decide) ?_
  refine lv_irem hx hb d_Ho_demandOpenAct_19 (by decide) ?_
  rw [hN]
  refine W.eq (g2 := F0 m 20 ls [.int (nI N), .ref b.ac]) rfl ?_
  refine hv_aald (v := b.fa N) hx hb hG.K hV 4 hH.ac.1 rfl (vp_in_nI (by omega) (by omega)) (by rw [nI_clamp (by omega)]) d_Ho_demandOpenAct_20 ?_
  obtain ⟨h_t, hr_t, hs_t, hz_t⟩ := hH.ac.2.1 N t hN10 hf
  rw [hf]
  refine W.eq (g2 := F0 m 21 ls [.ref t]) rfl ?_
  refine lv_astore_n (lv' := [(2, .ref t), (0, .ref b.ho), (1, .int h)]) hx hb d_Ho_demandOpenAct_21 rfl hl (by decide) rfl (fun ls hl => ?_)
  refine lv_aload_n hx hb d_Ho_demandOpenAct_22 rfl (lv_at hl 0 rfl) ?_
  refine lv_ifnull hx hb d_Ho_demandOpenAct_23 ?_
  refine lv_aload_n hx hb d_Ho_demandOpenAct_26 rfl (lv_at hl 0 rfl) ?_
  refine gf_Ho_209 hx hb hW hown hG hV h_t d_Ho_demandOpenAct_27 ?_
  refine lv_if_ne (tgt := 43) hx hb d_Ho_demandOpenAct_30 (by decide) (fun c_1 => ?_) (fun c_1 => ?_)
  · refine lv_aload_n hx hb d_Ho_demandOpenAct_43 rfl (lv_at hl 0 rfl) ?_
    exact W.aret (v := va_rf (some t)) hx hb hr (by first | exact Or.inl ⟨_, rfl⟩ | exact Or.inr ⟨_, rfl⟩) (va_rf_or _) (fun t9 ht hW => ⟨(some t), rfl, rfl, ht⟩) (fun q h => nomatch h) d_Ho_demandOpenAct_44
  · exact absurd c_1 hop
set_option maxHeartbeats 4000000 in
set_option maxRecDepth 100000 in
/-- demandOpenAct: not given -/
theorem t_Ho_demandOpenAct1 (l : Launch) (hls : l.stackTraces = false) (D : va_G) (N0 : Nat) (k : Nat → Nat) (V : HV) (b : HA) (σ : HS) (hH : hsOk k V b σ) (h : Int32) (hg : gvOk σ.G h = false) : hx_Met l y_Ho_demandOpenAct (.code y_Ho_demandOpenAct b_Ho_demandOpenAct 3 (some (.object "BoardHouse$Act")) :: WS) ({ frames := 7, cells := 1, slots := 6, locals := 112 }) (mP D N0 k [.ref b.ho, .int h] V) "java/lang/IndexOutOfBoundsException" (fun H9 => hv D vwCl N0 V H9) N0 1 6 := by
  refine hx_ofW (cc := b_Ho_demandOpenAct) (maxL := 3) (ret := (some (.object "BoardHouse$Act"))) (by decide) rfl ?_
  intro p e s m args below meth c s₁ B hml hno hv0
  obtain ⟨rfl, hG, hV⟩ := hv0
  have hx := B.exec
  have hb := B.bytes
  have hr := B.returns
  have hts := atoms_spec (ws := .code y_Ho_demandOpenAct b_Ho_demandOpenAct 3 (some (.object "BoardHouse$Act")) :: WS) B.pre
  have hW : ∀ w ∈ WS, w.before _ s = true := fun w h => hts w (List.mem_cons_of_mem _ h)
  have hown : s.vm.findClass "BoardHouse" = some m.cls := findClass_of_methodNamed B.named
  have hlocks := B.notSynchronized
  have hS : va_S (hA N0) s.heap s.heap [] := va_S.rf
  have hl := lv_entry ([.ref b.ho, .int h]) (n := 3) (Nat.le_of_ble_eq_true rfl)
  rw [lg_entry_eq]
  generalize (lg_sl ([.ref b.ho, .int h]) ++ List.replicate (3 - (lg_sl ([.ref b.ho, .int h])).length) Slot.unset).toArray = ls at hl ⊢
  have hl : lv_has ls 3 [(0, .ref b.ho), (1, .int h)] := hl
  refine lv_aload_n hx hb d_Ho_demandOpenAct_0 rfl (lv_at hl 0 rfl) ?_
  refine lv_iload_n hx hb d_Ho_demandOpenAct_1 rfl (lv_at hl 1 rfl) ?_
  exact hx_callOut (hx_runV (As := [.int h]) (rest := []) ⟨hx, hb, hml, hown, hts⟩ (t_Ho_demandGiven l hls D N0 k V b.ho b.bo b.gi b.co b.ta b.ac b.ve (woA b σ.wo) (nI σ.nl) σ.rs hH.ho σ.G hH.gi h hg) (cwV 1 hts (gi_V wm_Ho_97 wv_Ho_demandGiven ws_Ho_demandGiven wi_Ho wc_Ho_demandGiven) rfl rfl rfl (by decide +kernel) ⟨Nat.le_of_ble_eq_true rfl, Nat.le_of_ble_eq_true rfl⟩) (mP.preV hG hS hV hH.ho rfl) rfl rfl hl.1 rfl (lv_room (Nat.le_of_ble_eq_true rfl)) d_Ho_demandOpenAct_2 ⟨Nat.le_of_ble_eq_true rfl, Nat.le_of_ble_eq_true rfl⟩) hno hlocks hS (Nat.le_of_ble_eq_true rfl) (Nat.le_of_ble_eq_true rfl)
set_option maxHeartbeats 4000000 in
set_option maxRecDepth 100000 in
/-- demandOpenAct: another kind -/
theorem t_Ho_demandOpenAct2 (l : Launch) (hls : l.stackTraces = false) (D : va_G) (N0 : Nat) (k : Nat → Nat) (V : HV) (b : HA) (σ : HS) (hH : hsOk k V b σ) (h : Int32) (hg : gvOk σ.G h = true) (hk6 : ¬ h / 1000 = 6) : hx_Met l y_Ho_demandOpenAct (.code y_Ho_demandOpenAct b_Ho_demandOpenAct 3 (some (.object "BoardHouse$Act")) :: WS) ({ frames := 7, cells := 1, slots := 6, locals := 112 }) (mP D N0 k [.ref b.ho, .int h] V) "java/lang/IllegalArgumentException" (fun H9 => hv D vwCl N0 V H9) N0 1 6 := by
  refine hx_ofW (cc := b_Ho_demandOpenAct) (maxL := 3) (ret := (some (.object "BoardHouse$Act"))) (by decide) rfl ?_
  intro p e s m args below meth c s₁ B hml hno hv0
  obtain ⟨rfl, hG, hV⟩ := hv0
  have hx := B.exec
  have hb := B.bytes
  have hr := B.returns
  have hts := atoms_spec (ws := .code y_Ho_demandOpenAct b_Ho_demandOpenAct 3 (some (.object "BoardHouse$Act")) :: WS) B.pre
  have hW : ∀ w ∈ WS, w.before _ s = true := fun w h => hts w (List.mem_cons_of_mem _ h)
  have hown : s.vm.findClass "BoardHouse" = some m.cls := findClass_of_methodNamed B.named
  have hlocks := B.notSynchronized
  have hS : va_S (hA N0) s.heap s.heap [] := va_S.rf
  have hl := lv_entry ([.ref b.ho, .int h]) (n := 3) (Nat.le_of_ble_eq_true rfl)
  rw [lg_entry_eq]
  generalize (lg_sl ([.ref b.ho, .int h]) ++ List.replicate (3 - (lg_sl ([.ref b.ho, .int h])).length) Slot.unset).toArray = ls at hl ⊢
  have hl : lv_has ls 3 [(0, .ref b.ho), (1, .int h)] := hl
  refine lv_aload_n hx hb d_Ho_demandOpenAct_0 rfl (lv_at hl 0 rfl) ?_
  refine lv_iload_n hx hb d_Ho_demandOpenAct_1 rfl (lv_at hl 1 rfl) ?_
  refine va_csv (va_Run.run (va_runV (As := [.int h]) (rest := []) ⟨hx, hb, hml, hown, hts⟩ (r_Ho_demandGiven l D N0 k V b.ho b.bo b.gi b.co b.ta b.ac b.ve (woA b σ.wo) (nI σ.nl) σ.rs hH.ho σ.G hH.gi h hg) (cwV 1 hts (gi_V wm_Ho_97 wv_Ho_demandGiven ws_Ho_demandGiven wi_Ho wc_Ho_demandGiven) rfl rfl rfl (by decide +kernel) ⟨Nat.le_of_ble_eq_true rfl, Nat.le_of_ble_eq_true rfl⟩) (mP.preV hG hS hV hH.ho rfl) rfl rfl hl.1 rfl (lv_room (Nat.le_of_ble_eq_true rfl)) d_Ho_demandOpenAct_2 ⟨Nat.le_of_ble_eq_true rfl, Nat.le_of_ble_eq_true rfl⟩)) (fun _ => ?_)
  refine lv_iload_n hx hb d_Ho_demandOpenAct_5 rfl (lv_at hl 1 rfl) ?_
  refine lv_bipush (v := 6) hx hb d_Ho_demandOpenAct_6 (by decide) ?_
  exact hx_callOut (hx_runS (As := [.int h, .int 6]) (rest := []) ⟨hx, hb, hml, hown, hts⟩ (t_Ho_demandKind l hls D N0 k V h 6 hk6) (va_cwS 2 hts (gi_S wm_Ho_101 wt_Ho_demandKind wi_Ho wc_Ho_demandKind) rfl rfl rfl (by decide +kernel) ⟨Nat.le_of_ble_eq_true rfl, Nat.le_of_ble_eq_true rfl⟩) (mP.preS hG hS hV) rfl rfl hl.1 rfl (lv_room (Nat.le_of_ble_eq_true rfl)) d_Ho_demandOpenAct_8 ⟨Nat.le_of_ble_eq_true rfl, Nat.le_of_ble_eq_true rfl⟩) hno hlocks hS (Nat.le_of_ble_eq_true rfl) (Nat.le_of_ble_eq_true rfl)
set_option maxHeartbeats 4000000 in
set_option maxRecDepth 100000 in
/-- demandOpenAct: not open -/
theorem t_Ho_demandOpenAct3 (l : Launch) (hls : l.stackTraces = false) (D : va_G) (N0 : Nat) (k : Nat → Nat) (V : HV) (b : HA) (σ : HS) (hH : hsOk k V b σ) (h : Int32) (hg : gvOk σ.G h = true) (hk6 : h / 1000 = 6) (N t : Nat) (hN : h - h / 1000 * 1000 = nI N) (hN10 : N < 10) (hf : b.fa N = some t) (hop : σ.A N 0 = 0) : hx_Met l y_Ho_demandOpenAct (.code y_Ho_demandOpenAct b_Ho_demandOpenAct 3 (some (.object "BoardHouse$Act")) :: WS) ({ frames := 7, cells := 1, slots := 6, locals := 112 }) (mP D N0 k [.ref b.ho, .int h] V) "java/lang/IllegalStateException" (fun H9 => hv D vwCl N0 V H9) N0 1 6 := by
  refine hx_ofW (cc := b_Ho_demandOpenAct) (maxL := 3) (ret := (some (.object "BoardHouse$Act"))) (by decide) rfl ?_
  intro p e s m args below meth c s₁ B hml hno hv0
  obtain ⟨rfl, hG, hV⟩ := hv0
  have hx := B.exec
  have hb := B.bytes
  have hr := B.returns
  have hts := atoms_spec (ws := .code y_Ho_demandOpenAct b_Ho_demandOpenAct 3 (some (.object "BoardHouse$Act")) :: WS) B.pre
  have hW : ∀ w ∈ WS, w.before _ s = true := fun w h => hts w (List.mem_cons_of_mem _ h)
  have hown : s.vm.findClass "BoardHouse" = some m.cls := findClass_of_methodNamed B.named
  have hlocks := B.notSynchronized
  have hS : va_S (hA N0) s.heap s.heap [] := va_S.rf
  have hl := lv_entry ([.ref b.ho, .int h]) (n := 3) (Nat.le_of_ble_eq_true rfl)
  rw [lg_entry_eq]
  generalize (lg_sl ([.ref b.ho, .int h]) ++ List.replicate (3 - (lg_sl ([.ref b.ho, .int h])).length) Slot.unset).toArray = ls at hl ⊢
  have hl : lv_has ls 3 [(0, .ref b.ho), (1, .int h)] := hl
  refine lv_aload_n hx hb d_Ho_demandOpenAct_0 rfl (lv_at hl 0 rfl) ?_
  refine lv_iload_n hx hb d_Ho_demandOpenAct_1 rfl (lv_at hl 1 rfl) ?_
  refine va_csv (va_Run.run (va_runV (As := [.int h]) (rest := []) ⟨hx, hb, hml, hown, hts⟩ (r_Ho_demandGiven l D N0 k V b.ho b.bo b.gi b.co b.ta b.ac b.ve (woA b σ.wo) (nI σ.nl) σ.rs hH.ho σ.G hH.gi h hg) (cwV 1 hts (gi_V wm_Ho_97 wv_Ho_demandGiven ws_Ho_demandGiven wi_Ho wc_Ho_demandGiven) rfl rfl rfl (by decide +kernel) ⟨Nat.le_of_ble_eq_true rfl, Nat.le_of_ble_eq_true rfl⟩) (mP.preV hG hS hV hH.ho rfl) rfl rfl hl.1 rfl (lv_room (Nat.le_of_ble_eq_true rfl)) d_Ho_demandOpenAct_2 ⟨Nat.le_of_ble_eq_true rfl, Nat.le_of_ble_eq_true rfl⟩)) (fun _ => ?_)
  refine lv_iload_n hx hb d_Ho_demandOpenAct_5 rfl (lv_at hl 1 rfl) ?_
  refine lv_bipush (v := 6) hx hb d_Ho_demandOpenAct_6 (by decide) ?_
  refine va_csv (va_Run.run (va_runS (As := [.int h, .int 6]) (rest := []) ⟨hx, hb, hml, hown, hts⟩ (r_Ho_demandKind l D N0 k V h 6 hk6) (va_cwS 2 hts (gi_S wm_Ho_101 wt_Ho_demandKind wi_Ho wc_Ho_demandKind) rfl rfl rfl (by decide +kernel) ⟨Nat.le_of_ble_eq_true rfl, Nat.le_of_ble_eq_true rfl⟩) (mP.preS hG hS hV) rfl rfl hl.1 rfl (lv_room (Nat.le_of_ble_eq_true rfl)) d_Ho_demandOpenAct_8 ⟨Nat.le_of_ble_eq_true rfl, Nat.le_of_ble_eq_true rfl⟩)) (fun _ => ?_)
  refine lv_aload_n hx hb d_Ho_demandOpenAct_11 rfl (lv_at hl 0 rfl) ?_
  refine gf_Ho_27 hx hb hW hown hG hV hH.ho d_Ho_demandOpenAct_12 ?_
  refine lv_iload_n hx hb d_Ho_demandOpenAct_15 rfl (lv_at hl 1 rfl) ?_
  refine lv_sipush (v := 1000) hx hb d_Ho_demandOpenAct_16 (by decide) ?_
  refine lv_irem hx hb d_Ho_demandOpenAct_19 (by decide) ?_
  rw [hN]
  refine W.eq (g2 := F0 m 20 ls [.int (nI N), .ref b.ac]) rfl ?_
  refine hv_aald (v := b.fa N) hx hb hG.K hV 4 hH.ac.1 rfl (vp_in_nI (by omega) (by omega)) (by rw [nI_clamp (by omega)]) d_Ho_demandOpenAct_20 ?_
  obtain ⟨h_t, hr_t, hs_t, hz_t⟩ := hH.ac.2.1 N t hN10 hf
  rw [hf]
  refine W.eq (g2 := F0 m 21 ls [.ref t]) rfl ?_
  refine lv_astore_n (lv' := [(2, .ref t), (0, .ref b.ho), (1, .int h)]) hx hb d_Ho_demandOpenAct_21 rfl hl (by decide) rfl (fun ls hl => ?_)
  refine lv_aload_n hx hb d_Ho_demandOpenAct_22 rfl (lv_at hl 0 rfl) ?_
  refine lv_ifnull hx hb d_Ho_demandOpenAct_23 ?_
  refine lv_aload_n hx hb d_Ho_demandOpenAct_26 rfl (lv_at hl 0 rfl) ?_
  refine gf_Ho_209 hx hb hW hown hG hV h_t d_Ho_demandOpenAct_27 ?_
  refine lv_if_ne (tgt := 43) hx hb d_Ho_demandOpenAct_30 (by decide) (fun c_1 => ?_) (fun c_1 => ?_)
  · refine lv_aload_n hx hb d_Ho_demandOpenAct_43 rfl (lv_at hl 0 rfl) ?_
    exact absurd hop c_1
  · obtain ⟨sa, hstr⟩ := hG.2.2.2.2.2.2.2.2 (242, "this act is not open") (by decide)
    exact hx_throwS (own := "BoardHouse") (cls := "java/lang/IllegalStateException") (text := "this act is not open") (names := xN) (ik := 237) (is := 242) (ic := 241) hx hb hls hown (by decide +kernel) (by decide +kernel) (hW _ wk_Ho_237) (hW _ wi_JS) hstr (own_of hW hG own_S) (by rw [hml]; exact hl.1) d_Ho_demandOpenAct_33 d_Ho_demandOpenAct_36 d_Ho_demandOpenAct_37 d_Ho_demandOpenAct_39 d_Ho_demandOpenAct_42 hno (Nat.le_of_ble_eq_true rfl) (Nat.le_of_ble_eq_true rfl) (Nat.le_of_ble_eq_true rfl) (Nat.le_of_ble_eq_true rfl) hlocks (fun H9 h91 h92 => hv.keep hV h92)
set_option maxHeartbeats 4000000 in
set_option maxRecDepth 100000 in
/-- demandNoOpenAct -/
theorem r_Ho_demandNoOpenAct (l : Launch) (D : va_G) (N0 : Nat) (k : Nat → Nat) (V : HV) (b : HA) (σ : HS) (hH : hsOk k V b σ) (hno1 : anyF (opn σ.A) 0 10 = false) : Met l y_Ho_demandNoOpenAct (.code y_Ho_demandNoOpenAct b_Ho_demandNoOpenAct 5 none :: WS) ({ frames := 6, cells := 0, slots := 0, locals := 90 }) (mP D N0 k [.ref b.ho] V) (va_Sv (fun _ => True)) 0 0 (fun _ => False) := by
  refine Met.ofW (cc := b_Ho_demandNoOpenAct) (maxL := 5) (ret := none) (by decide) rfl ?_
  intro p e s m args below meth c s₁ B hml hv0
  obtain ⟨rfl, hG, hV⟩ := hv0
  have hx := B.exec
  have hb := B.bytes
  have hr := B.returns
  have hts := atoms_spec (ws := .code y_Ho_demandNoOpenAct b_Ho_demandNoOpenAct 5 none :: WS) B.pre
  have hW : ∀ w ∈ WS, w.before _ s = true := fun w h => hts w (List.mem_cons_of_mem _ h)
  have hown : s.vm.findClass "BoardHouse" = some m.cls := findClass_of_methodNamed B.named
  have hlocks := B.notSynchronized
  have hS : va_S (hA N0) s.heap s.heap [] := va_S.rf
  have hl := lv_entry ([.ref b.ho]) (n := 5) (Nat.le_of_ble_eq_true rfl)
  rw [lg_entry_eq]
  generalize (lg_sl ([.ref b.ho]) ++ List.replicate (5 - (lg_sl ([.ref b.ho])).length) Slot.unset).toArray = ls at hl ⊢
  have hl : lv_has ls 5 [(0, .ref b.ho)] := hl
  refine lv_aload_n hx hb d_Ho_demandNoOpenAct_0 rfl (lv_at hl 0 rfl) ?_
  refine gf_Ho_27 hx hb hW hown hG hV hH.ho d_Ho_demandNoOpenAct_1 ?_
  refine lv_astore_n (lv' := [(1, .ref b.ac), (0, .ref b.ho)]) hx hb d_Ho_demandNoOpenAct_4 rfl hl (by decide) rfl (fun ls hl => ?_)
  refine lv_aload_n hx hb d_Ho_demandNoOpenAct_5 rfl (lv_at hl 0 rfl) ?_
  refine hv_alen hx hb hG.K hV 4 hH.ac.1 rfl (v := nI 10) rfl d_Ho_demandNoOpenAct_6 ?_
  refine lv_istore_n (lv' := [(2, .int (nI 10)), (1, .ref b.ac), (0, .ref b.ho)]) hx hb d_Ho_demandNoOpenAct_7 rfl hl (by decide) rfl (fun ls hl => ?_)
  refine lv_iconst (v := 0) hx hb d_Ho_demandNoOpenAct_8 (by decide) ?_
  refine lv_istore_n (lv' := [(3, .int 0), (2, .int (nI 10)), (1, .ref b.ac), (0, .ref b.ho)]) hx hb d_Ho_demandNoOpenAct_9 rfl hl (by decide) rfl (fun ls hl => ?_)
  have loop_1 : ∀ (n i : Nat) (ls : Array Slot), i ≤ 10 → 10 + 1 ≤ i + n → (True) → lv_has ls 5 [(0, .ref b.ho), (1, .ref b.ac), (2, .int (nI 10)), (3, .int (nI i))] → W p l e (headSpec (.code y_Ho_demandNoOpenAct b_Ho_demandNoOpenAct 5 none :: WS) ({ frames := 6, cells := 0, slots := 0, locals := 90 })).room s m #[.ref b.ho] below meth c s.heap [] 0 0 (MQ below (va_Sv (fun _ => True)) #[.ref b.ho] s 0 0 (fun _ => False)) (F0 m 10 ls []) := by
    intro n
    induction n with
    | zero => intro i ls h1 h2; exact absurd h2 (by omega)
    | succ n ih =>
      intro i ls hi hin hI hl
      refine lv_iload_n hx hb d_Ho_demandNoOpenAct_10 rfl (lv_at hl 3 rfl) ?_
      refine lv_iload_n hx hb d_Ho_demandNoOpenAct_11 rfl (lv_at hl 2 rfl) ?_
      refine lv_icmp_ge (tgt := 49) hx hb d_Ho_demandNoOpenAct_12 (by decide) (fun c_2 => ?_) (fun c_2 => ?_)
      · have hge : 10 ≤ i := nI_le' c_2 (by omega) (by omega)
        exact W.vret hx hb hr (fun t9 ht hW => ⟨rfl, trivial, ht⟩) (fun q h => nomatch h) d_Ho_demandNoOpenAct_49
      · have hlt : i < 10 := nI_nle' c_2 (by omega) (by omega)
        refine lv_aload_n hx hb d_Ho_demandNoOpenAct_15 rfl (lv_at hl 1 rfl) ?_
        refine lv_iload_n hx hb d_Ho_demandNoOpenAct_16 rfl (lv_at hl 3 rfl) ?_
        refine hv_aald (v := b.fa i) hx hb hG.K hV 4 hH.ac.1 rfl (vp_in_nI (by omega) (by omega)) (by rw [nI_clamp (by omega)]) d_Ho_demandNoOpenAct_17 ?_
        cases hf_3 : b.fa i with
        | none =>
          refine W.eq (g2 := F0 m 18 ls [.null]) rfl ?_
          refine lv_astoreN (lv' := [(4, .null), (0, .ref b.ho), (1, .ref b.ac), (2, .int (nI 10)), (3, .int (nI i))]) hx hb d_Ho_demandNoOpenAct_18 hl (by decide) rfl (fun ls hl => ?_)
          refine lv_aloadN hx hb d_Ho_demandNoOpenAct_20 (lv_at hl 0 rfl) ?_
          refine lv_ifnullN (tgt := 43) hx hb d_Ho_demandNoOpenAct_22 (by decide) ?_
          obtain ⟨i_5, ei_5⟩ : ∃ y : Int32, y = (nI i) + 1 := ⟨_, rfl⟩
          refine lv_iinc (v := i_5) (lv' := [(3, .int i_5), (4, .null), (0, .ref b.ho), (1, .ref b.ac), (2, .int (nI 10))]) hx hb d_Ho_demandNoOpenAct_43 hl (k := 4) rfl (by rw [ei_5]; rfl) (by decide) rfl (fun ls hl => ?_)
          refine lv_goto (tgt := 10) hx hb d_Ho_demandNoOpenAct_46 (by decide) ?_
          rw [nI_1] at ei_5
          subst ei_5
          exact ih (i + 1) _ (by omega) (by omega) trivial (lv_sub hl [2, 3, 4, 0] rfl)
        | some t_4 =>
          refine W.eq (g2 := F0 m 18 ls [.ref t_4]) rfl ?_
          obtain ⟨h_t_4, -⟩ := hH.ac.2.1 i t_4 (by omega) hf_3
          refine lv_astore (lv' := [(4, .ref t_4), (0, .ref b.ho), (1, .ref b.ac), (2, .int (nI 10)), (3, .int (nI i))]) hx hb d_Ho_demandNoOpenAct_18 hl (by decide) rfl (fun ls hl => ?_)
          refine lv_aload hx hb d_Ho_demandNoOpenAct_20 (lv_at hl 0 rfl) ?_
          refine lv_ifnull hx hb d_Ho_demandNoOpenAct_22 ?_
          refine lv_aload hx hb d_Ho_demandNoOpenAct_25 (lv_at hl 0 rfl) ?_
          refine gf_Ho_209 hx hb hW hown hG hV h_t_4 d_Ho_demandNoOpenAct_27 ?_
          refine lv_if_eq (tgt := 43) hx hb d_Ho_demandNoOpenAct_30 (by decide) (fun c_6 => ?_) (fun c_6 => ?_)
          · obtain ⟨i_7, ei_7⟩ : ∃ y : Int32, y = (nI i) + 1 := ⟨_, rfl⟩
            refine lv_iinc (v := i_7) (lv' := [(3, .int i_7), (4, .ref t_4), (0, .ref b.ho), (1, .ref b.ac), (2, .int (nI 10))]) hx hb d_Ho_demandNoOpenAct_43 hl (k := 4) rfl (by rw [ei_7]; rfl) (by decide) rfl (fun ls hl => ?_)
            refine lv_goto (tgt := 10) hx hb d_Ho_demandNoOpenAct_46 (by decide) ?_
            rw [nI_1] at ei_7
            subst ei_7
            exact ih (i + 1) _ (by omega) (by omega) trivial (lv_sub hl [2, 3, 4, 0] rfl)
          · exact absurd hno1 (by rw [(anyF_iff 10 0).mpr ⟨i, by omega, by omega, by simp [opn, c_6]⟩]; decide)
  exact loop_1 (10 + 1) 0 _ (by omega) (by omega) trivial (lv_sub hl [3, 2, 1, 0] rfl)
set_option maxHeartbeats 4000000 in
set_option maxRecDepth 100000 in
/-- demandNoOpenAct: one is -/
theorem t_Ho_demandNoOpenAct (l : Launch) (hls : l.stackTraces = false) (D : va_G) (N0 : Nat) (k : Nat → Nat) (V : HV) (b : HA) (σ : HS) (hH : hsOk k V b σ) (hno1 : anyF (opn σ.A) 0 10 = true) : hx_Met l y_Ho_demandNoOpenAct (.code y_Ho_demandNoOpenAct b_Ho_demandNoOpenAct 5 none :: WS) ({ frames := 6, cells := 1, slots := 6, locals := 90 }) (mP D N0 k [.ref b.ho] V) "java/lang/IllegalStateException" (fun H9 => hv D vwCl N0 V H9) N0 1 6 := by
  refine hx_ofW (cc := b_Ho_demandNoOpenAct) (maxL := 5) (ret := none) (by decide) rfl ?_
  intro p e s m args below meth c s₁ B hml hno hv0
  obtain ⟨rfl, hG, hV⟩ := hv0
  have hx := B.exec
  have hb := B.bytes
  have hr := B.returns
  have hts := atoms_spec (ws := .code y_Ho_demandNoOpenAct b_Ho_demandNoOpenAct 5 none :: WS) B.pre
  have hW : ∀ w ∈ WS, w.before _ s = true := fun w h => hts w (List.mem_cons_of_mem _ h)
  have hown : s.vm.findClass "BoardHouse" = some m.cls := findClass_of_methodNamed B.named
  have hlocks := B.notSynchronized
  have hS : va_S (hA N0) s.heap s.heap [] := va_S.rf
  have hl := lv_entry ([.ref b.ho]) (n := 5) (Nat.le_of_ble_eq_true rfl)
  rw [lg_entry_eq]
  generalize (lg_sl ([.ref b.ho]) ++ List.replicate (5 - (lg_sl ([.ref b.ho])).length) Slot.unset).toArray = ls at hl ⊢
  have hl : lv_has ls 5 [(0, .ref b.ho)] := hl
  refine lv_aload_n hx hb d_Ho_demandNoOpenAct_0 rfl (lv_at hl 0 rfl) ?_
  refine gf_Ho_27 hx hb hW hown hG hV hH.ho d_Ho_demandNoOpenAct_1 ?_
  refine lv_astore_n (lv' := [(1, .ref b.ac), (0, .ref b.ho)]) hx hb d_Ho_demandNoOpenAct_4 rfl hl (by decide) rfl (fun ls hl => ?_)
  refine lv_aload_n hx hb d_Ho_demandNoOpenAct_5 rfl (lv_at hl 0 rfl) ?_
  refine hv_alen hx hb hG.K hV 4 hH.ac.1 rfl (v := nI 10) rfl d_Ho_demandNoOpenAct_6 ?_
  refine lv_istore_n (lv' := [(2, .int (nI 10)), (1, .ref b.ac), (0, .ref b.ho)]) hx hb d_Ho_demandNoOpenAct_7 rfl hl (by decide) rfl (fun ls hl => ?_)
  refine lv_iconst (v := 0) hx hb d_Ho_demandNoOpenAct_8 (by decide) ?_
  refine lv_istore_n (lv' := [(3, .int 0), (2, .int (nI 10)), (1, .ref b.ac), (0, .ref b.ho)]) hx hb d_Ho_demandNoOpenAct_9 rfl hl (by decide) rfl (fun ls hl => ?_)
  have loop_1 : ∀ (n i : Nat) (ls : Array Slot), i ≤ 10 → 10 + 1 ≤ i + n → (anyF (opn σ.A) i (10 - i) = true) → lv_has ls 5 [(0, .ref b.ho), (1, .ref b.ac), (2, .int (nI 10)), (3, .int (nI i))] → W p l e (headSpec (.code y_Ho_demandNoOpenAct b_Ho_demandNoOpenAct 5 none :: WS) ({ frames := 6, cells := 1, slots := 6, locals := 90 })).room s m #[.ref b.ho] below meth c s.heap [] 0 0 (hx_Q below "java/lang/IllegalStateException" (fun H9 => hv D vwCl N0 V H9) N0 1 6 #[.ref b.ho] s) (F0 m 10 ls []) := by
    intro n
    induction n with
    | zero => intro i ls h1 h2; exact absurd h2 (by omega)
    | succ n ih =>
      intro i ls hi hin hI hl
      refine lv_iload_n hx hb d_Ho_demandNoOpenAct_10 rfl (lv_at hl 3 rfl) ?_
      refine lv_iload_n hx hb d_Ho_demandNoOpenAct_11 rfl (lv_at hl 2 rfl) ?_
      refine lv_icmp_ge (tgt := 49) hx hb d_Ho_demandNoOpenAct_12 (by decide) (fun c_2 => ?_) (fun c_2 => ?_)
      · have hge : 10 ≤ i := nI_le' c_2 (by omega) (by omega)
        exact absurd hI (by rw [anyF_end hge]; decide)
      · have hlt : i < 10 := nI_nle' c_2 (by omega) (by omega)
        refine lv_aload_n hx hb d_Ho_demandNoOpenAct_15 rfl (lv_at hl 1 rfl) ?_
        refine lv_iload_n hx hb d_Ho_demandNoOpenAct_16 rfl (lv_at hl 3 rfl) ?_
        refine hv_aald (v := b.fa i) hx hb hG.K hV 4 hH.ac.1 rfl (vp_in_nI (by omega) (by omega)) (by rw [nI_clamp (by omega)]) d_Ho_demandNoOpenAct_17 ?_
        cases hf_3 : b.fa i with
        | none =>
          refine W.eq (g2 := F0 m 18 ls [.null]) rfl ?_
          refine lv_astoreN (lv' := [(4, .null), (0, .ref b.ho), (1, .ref b.ac), (2, .int (nI 10)), (3, .int (nI i))]) hx hb d_Ho_demandNoOpenAct_18 hl (by decide) rfl (fun ls hl => ?_)
          refine lv_aloadN hx hb d_Ho_demandNoOpenAct_20 (lv_at hl 0 rfl) ?_
          refine lv_ifnullN (tgt := 43) hx hb d_Ho_demandNoOpenAct_22 (by decide) ?_
          obtain ⟨i_5, ei_5⟩ : ∃ y : Int32, y = (nI i) + 1 := ⟨_, rfl⟩
          refine lv_iinc (v := i_5) (lv' := [(3, .int i_5), (4, .null), (0, .ref b.ho), (1, .ref b.ac), (2, .int (nI 10))]) hx hb d_Ho_demandNoOpenAct_43 hl (k := 4) rfl (by rw [ei_5]; rfl) (by decide) rfl (fun ls hl => ?_)
          refine lv_goto (tgt := 10) hx hb d_Ho_demandNoOpenAct_46 (by decide) ?_
          rw [nI_1] at ei_5
          subst ei_5
          have hA9 := hH.ac.2.2 i (by omega) hf_3
          exact ih (i + 1) _ (by omega) (by omega) (by rw [anyF_step hlt, show opn σ.A i = false by simp [opn, hA9], Bool.false_or] at hI; exact hI) (lv_sub hl [2, 3, 4, 0] rfl)
        | some t_4 =>
          refine W.eq (g2 := F0 m 18 ls [.ref t_4]) rfl ?_
          obtain ⟨h_t_4, -⟩ := hH.ac.2.1 i t_4 (by omega) hf_3
          refine lv_astore (lv' := [(4, .ref t_4), (0, .ref b.ho), (1, .ref b.ac), (2, .int (nI 10)), (3, .int (nI i))]) hx hb d_Ho_demandNoOpenAct_18 hl (by decide) rfl (fun ls hl => ?_)
          refine lv_aload hx hb d_Ho_demandNoOpenAct_20 (lv_at hl 0 rfl) ?_
          refine lv_ifnull hx hb d_Ho_demandNoOpenAct_22 ?_
          refine lv_aload hx hb d_Ho_demandNoOpenAct_25 (lv_at hl 0 rfl) ?_
          refine gf_Ho_209 hx hb hW hown hG hV h_t_4 d_Ho_demandNoOpenAct_27 ?_
          refine lv_if_eq (tgt := 43) hx hb d_Ho_demandNoOpenAct_30 (by decide) (fun c_6 => ?_) (fun c_6 => ?_)
          · obtain ⟨i_7, ei_7⟩ : ∃ y : Int32, y = (nI i) + 1 := ⟨_, rfl⟩
            refine lv_iinc (v := i_7) (lv' := [(3, .int i_7), (4, .ref t_4), (0, .ref b.ho), (1, .ref b.ac), (2, .int (nI 10))]) hx hb d_Ho_demandNoOpenAct_43 hl (k := 4) rfl (by rw [ei_7]; rfl) (by decide) rfl (fun ls hl => ?_)
            refine lv_goto (tgt := 10) hx hb d_Ho_demandNoOpenAct_46 (by decide) ?_
            rw [nI_1] at ei_7
            subst ei_7
            exact ih (i + 1) _ (by omega) (by omega) (by rw [anyF_step hlt, show opn σ.A i = false by simp [opn, c_6], Bool.false_or] at hI; exact hI) (lv_sub hl [2, 3, 4, 0] rfl)
          · obtain ⟨sa, hstr⟩ := hG.2.2.2.2.2.2.2.2 (244, "an act is open") (by decide)
            exact hx_throwS (own := "BoardHouse") (cls := "java/lang/IllegalStateException") (text := "an act is open") (names := xN) (ik := 237) (is := 244) (ic := 241) hx hb hls hown (by decide +kernel) (by decide +kernel) (hW _ wk_Ho_237) (hW _ wi_JS) hstr (own_of hW hG own_S) (by rw [hml]; exact hl.1) d_Ho_demandNoOpenAct_33 d_Ho_demandNoOpenAct_36 d_Ho_demandNoOpenAct_37 d_Ho_demandNoOpenAct_39 d_Ho_demandNoOpenAct_42 hno (Nat.le_of_ble_eq_true rfl) (Nat.le_of_ble_eq_true rfl) (Nat.le_of_ble_eq_true rfl) (Nat.le_of_ble_eq_true rfl) hlocks (fun H9 h91 h92 => hv.keep hV h92)
  exact loop_1 (10 + 1) 0 _ (by omega) (by omega) hno1 (lv_sub hl [3, 2, 1, 0] rfl)
