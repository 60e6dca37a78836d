/-! THE LAW'S START -/
def HA.setL (a : HA) (L : Nat → Nat) : HA := (a.F, a.E, a.f, a.ar, a.fa, a.rg, a.sn, a.sa, a.fv, a.vr, L)
/-- other labels, the same where there are cells -/
theorem hs_relab {k : Nat → Nat} {V : HV} {a : HA} {σ : HS} (h : hsOk k V a σ) {L : Nat → Nat} (hL : ∀ x y, V x = some y → L x = a.lb x) : hsOk k V (a.setL L) σ := by
  have hV : ∀ {x : Nat} {y : va_E}, V x = some y → V x = some y := fun {x y} hx => hx
  have hl : ∀ {x : Nat} {y : va_E}, V x = some y → (a.setL L).lb x = a.lb x := fun {x y} hx => hL x y hx
  refine ⟨⟨(hl h.ho).trans h.lab.l1, (hl h.bo).trans h.lab.l2, (hl h.gi).trans h.lab.l3, (hl h.co).trans h.lab.l4, (hl h.ts.1).trans h.lab.l5, (hl h.ac.1).trans h.lab.l6, (hl h.ve).trans h.lab.l7, (hl h.ro).trans h.lab.l8, h.rq.elim (fun F e => (hl e).trans h.lab.l9), (hl h.on).trans h.lab.l10, (hl h.re).trans h.lab.l11, fun i t hi hf => ⟨(hl (h.ts.2.1 i t hi hf).1).trans (h.lab.lt i t hi hf).1, (hl (h.ts.2.1 i t hi hf).2).trans (h.lab.lt i t hi hf).2⟩, fun j t hj hf => ?_, fun j v hj hf => ⟨(hl (h.vs j v hj hf).1).trans (h.lab.lv j v hj hf).1, (hl (h.vs j v hj hf).2).trans (h.lab.lv j v hj hf).2⟩, fun i hi => ?_⟩, hV h.ho, hV h.bo, hV h.gi, hV h.co, ⟨hV h.ts.1, fun i t hi hf => ⟨hV (h.ts.2.1 i t hi hf).1, hV (h.ts.2.1 i t hi hf).2⟩, h.ts.2.2⟩, ⟨hV h.ac.1, fun j t hj hf => ?_, h.ac.2.2⟩, hV h.ve, fun j v hj hf => ⟨hV (h.vs j v hj hf).1, hV (h.vs j v hj hf).2⟩, hV h.ro, h.rq.elim (fun F e => ⟨F, hV e⟩), hV h.on, hV h.re, fun i hi => ?_, h.wo, h.n1, h.n4⟩
  · obtain ⟨l1, l2, l3, l4⟩ := h.lab.la j t hj hf
    obtain ⟨e1, e2, e3, e4⟩ := h.ac.2.1 j t hj hf
    exact ⟨(hl e1).trans l1, (hl e2).trans l2, (hl e3).trans l3, (hl e4).trans l4⟩
  · obtain ⟨l1, l2, l3, l4⟩ := h.lab.ls i hi
    obtain ⟨e1, e2, ⟨F, e3⟩, e4, e5, ⟨F', e6⟩⟩ := h.os i hi
    exact ⟨(hl e2).trans l1, (hl e3).trans l2, (hl e5).trans l3, (hl e6).trans l4⟩
  · obtain ⟨e1, e2, e3, e4⟩ := h.ac.2.1 j t hj hf
    exact ⟨hV e1, hV e2, hV e3, hV e4⟩
  · obtain ⟨e1, e2, ⟨F, e3⟩, e4, e5, ⟨F', e6⟩⟩ := h.os i hi
    exact ⟨e1, hV e2, ⟨F, hV e3⟩, e4, hV e5, ⟨F', hV e6⟩⟩
theorem md_new {k : Nat → Nat} {V : HV} {mo : Nat} {ad : Nat → Nat} {ρ : MS} {q : Nat} {e : va_E} (h : mdOk k V mo ad ρ) (hq : V q = none) : mdOk k (hu V q e) mo ad ρ := ⟨hu_f hq h.1, h.2.1, fun j hj => hu_f hq (h.2.2.1 j hj), fun j hj => hu_f hq (h.2.2.2 j hj)⟩
theorem md_some {k : Nat → Nat} {V : HV} {mo : Nat} {ad : Nat → Nat} {ρ : MS} (h : mdOk k V mo ad ρ) {j : Nat} (hj : j < 26) : ∃ e, V (ad j) = some e := by
  by_cases h23 : j < 23
  · exact ⟨_, h.2.2.1 j h23⟩
  · have := h.2.2.2 (j - 23) (by omega); rw [show 23 + (j - 23) = j by omega] at this; exact ⟨_, this⟩
theorem gi_cw {w1 : Cond} {y2 : MethodName} {b2 : ByteArray} {m2 : Nat} {r2 : Option FieldType} (h : Cond.code y2 b2 m2 r2 ∈ WS) : GoodIn (w1 :: WS) (.code y2 b2 m2 r2 :: WS) := by
  intro w hw
  have hw' : w ∈ WS := (List.mem_cons.mp hw).elim (fun e => by rw [e]; exact h) id
  exact ⟨List.mem_cons_of_mem _ hw', good_of_word (WS_good w hw')⟩
/-- a start with the script in sight -/
def mPc (D : va_G) (N0 : Nat) (k : Nat → Nat) (av : List Value) (V : HV) (bb L : Nat) (xs : Nat → Int32) : Array Value → State → Prop := va_Pc av (fun U => (hG D N0 k U ∧ hv D vwCl N0 V U.heap) ∧ va_X bb L xs U U.heap ∧ bb < N0)
theorem mPc.preS {D : va_G} {N0 : Nat} {k : Nat → Nat} {As : List Value} {V : HV} {bb L : Nat} {xs : Nat → Int32} {s : State} {H : Heap} {locs : List Loc} (hG : hG D N0 k s) (hS : va_S (hA N0) s.heap H locs) (hV : hv D vwCl N0 V H) (hX : va_X bb L xs s s.heap) (hb : bb < N0) : PreS s H (mPc D N0 k As V bb L xs) As := by
  refine ⟨fun a U g mk h => ⟨h.1, ⟨⟨h.2.1.1.call g mk a, h.2.1.2⟩, va_X.moved (u := U) (U := U.calling g mk a) (Vm.Alike.refl U.vm) h.2.2.1, h.2.2.2⟩⟩, fun U hU hW => ⟨rfl, ⟨hG.next hS hU hW, by rw [hU]; exact hV⟩, ?_, hb⟩⟩
  refine va_X.moved hW.alike (va_X.kept hX ?_)
  rw [hU]; exact hS.2.1 bb (Nat.lt_of_lt_of_le hb hG.N) (Nat.not_le.mpr hb)
set_option maxHeartbeats 4000000 in
set_option maxRecDepth 100000 in
/-- cell -/
theorem c_La_cell (l : Launch) (D : va_G) (N0 : Nat) (k : Nat → Nat) (V : HV) (bb L : Nat) (xs : Nat → Int32) (K : Nat) (hK : K < 2) (hLL : L ≤ 3586) : Met l y_La_cell (.code y_La_cell b_La_cell 2 (some .int) :: WS) ({ frames := 0, cells := 0, slots := 0, locals := 0 }) (mPc D N0 k [.ref bb, .int (nI K)] V bb L xs) (va_Qi (fun r V' => r = (if K < L then xs K else 0) ∧ V' = V) (mB D N0) (hA N0)) 0 0 (hA N0) := by
  refine Met.ofW (cc := b_La_cell) (maxL := 2) (ret := (some .int)) (by decide) rfl ?_
  intro p e s m args below meth c s₁ B hml hv0
  obtain ⟨rfl, ⟨hG, hV⟩, hX, hbN⟩ := hv0
  have hx := B.exec
  have hb := B.bytes
  have hr := B.returns
  have hbl : bb < s.heap.size := Nat.lt_of_lt_of_le hbN hG.N
  have hbA : ¬ (hA N0) bb := Nat.not_le.mpr hbN
  have hlocks := B.notSynchronized
  have hS : va_S (hA N0) s.heap s.heap [] := va_S.rf
  have hl := lv_entry ([.ref bb, .int (nI K)]) (n := 2) (Nat.le_of_ble_eq_true rfl)
  rw [lg_entry_eq]
  generalize (lg_sl ([.ref bb, .int (nI K)]) ++ List.replicate (2 - (lg_sl ([.ref bb, .int (nI K)])).length) Slot.unset).toArray = ls at hl ⊢
  have hl : lv_has ls 2 [(0, .ref bb), (1, .int (nI K))] := hl
  refine lv_iload_n hx hb d_La_cell_0 rfl (lv_at hl 1 rfl) ?_
  refine lv_aload_n hx hb d_La_cell_1 rfl (lv_at hl 0 rfl) ?_
  refine va_slen hx hb hX hbl hbA hS d_La_cell_2 ?_
  refine lv_icmp_ge (tgt := 12) hx hb d_La_cell_3 (by decide) (fun c1 => ?_) (fun c1 => ?_)
  · have hn : ¬ K < L := fun q => absurd c1 (nI_ge q (by omega))
    refine lv_iconst (v := 0) hx hb d_La_cell_12 (by decide) ?_
    exact W.iret (v := 0) hx hb hr (fun t9 ht hW => ⟨⟨0, V, rfl, ⟨by rw [if_neg hn], rfl⟩, mB_of ht hV⟩, hS.F ht⟩) hS.2.2 d_La_cell_13
  · have hn : K < L := by
      rcases Nat.lt_or_ge K L with q | q
      · exact q
      · exact absurd (nI_le q (by omega)) c1
    refine lv_aload_n hx hb d_La_cell_6 rfl (lv_at hl 0 rfl) ?_
    refine lv_iload_n hx hb d_La_cell_7 rfl (lv_at hl 1 rfl) ?_
    refine va_sld (i := nI K) hx hb hX hbl hbA hS (vp_in_nI hn (by omega)) d_La_cell_8 ?_
    rw [nI_clamp (show K < 2 ^ 31 by omega)]
    refine lv_goto (tgt := 13) hx hb d_La_cell_9 (by decide) ?_
    exact W.iret (v := xs K) hx hb hr (fun t9 ht hW => ⟨⟨xs K, V, rfl, ⟨by rw [if_pos hn], rfl⟩, mB_of ht hV⟩, hS.F ht⟩) hS.2.2 d_La_cell_13
set_option maxHeartbeats 4000000 in
set_option maxRecDepth 100000 in
/-- THE LAW, from its entry -/
theorem whole_start {J : HS → MS → Prop} (hall : lawOk J) {p : Program} {e : Env} {s : State} {m : MethodId} {below : List Frame} {meth : Method} {c : Code} (l : Launch) (hls : l.stackTraces = false) {bb L : Nat} {xs : Nat → Int32} (hL : L ≤ 3586) (C0 : lw_At p s m meth c bb L xs) : W p l e room_1 s m #[Value.ref bb] below meth c s.heap [] 0 0 (lw_Z below #[Value.ref bb] s) (entryFrame m ([Value.ref bb] : List Value).toArray 7) := by
  obtain ⟨D, k, hG, hN⟩ := ctx_of C0
  obtain ⟨hx, hb, hr, hml, hown, hts0, hX, hbl, hlocks, hgv⟩ := id C0
  have hW : ∀ w ∈ WS, w.before #[Value.ref bb] s = true := fun w h => hts0 w (List.mem_filter.mp h).1
  have hts : ∀ w ∈ (Cond.initialized "BoardHouse" :: WS), w.before #[Value.ref bb] s = true := fun w h => (List.mem_cons.mp h).elim (fun q => by rw [q]; exact hW _ wi_Ho) (hW w)
  have hown : s.vm.findClass "BoardHouseLaw" = some m.cls := hown
  have C : LC p l s m c D k bb L xs := ⟨hx, hb, hml, hown, hts, hG, hN, hX, hbl, hL, hls⟩
  obtain ⟨V0, eV0⟩ : ∃ V : HV, V = fun _ => none := ⟨_, rfl⟩
  have hV : hv D vwCl s.heap.size V0 s.heap := fun a e h => by rw [eV0] at h; cases h
  have hS : va_S (hA s.heap.size) s.heap s.heap [] := va_S.rf
  have hl := lv_entry ([.ref bb]) (n := 7) (Nat.le_of_ble_eq_true rfl)
  rw [lg_entry_eq]
  generalize (lg_sl ([.ref bb]) ++ List.replicate (7 - (lg_sl ([.ref bb])).length) Slot.unset).toArray = ls at hl ⊢
  have hl : lv_has ls 7 [(0, .ref bb)] := hl
  refine hv_new (ci := 6) (fs := [.int 0, .null, .null, .null, .null, .null, .null, .null, .int 0]) (C := R_Ho) (T := T_Ho) (N := 9) hx hb hW in_Ho t_Ho ty_Ho hown (hW _ wk_La_8) (hW _ wo_Ho) (hW _ wi_Ho) hG.K hV hS rfl (fun j hj => by rcases (show j = 0 ∨ j = 1 ∨ j = 2 ∨ j = 3 ∨ j = 4 ∨ j = 5 ∨ j = 6 ∨ j = 7 ∨ j = 8 by omega) with rfl | rfl | rfl | rfl | rfl | rfl | rfl | rfl | rfl <;> rfl) (Nat.le_of_ble_eq_true rfl) (Nat.le_of_ble_eq_true rfl) hG.N d_La_law_0 (fun q_1 H hn_q_1 hN_q_1 hV hS => ?_)
  replace hV : hv D vwCl s.heap.size (hu V0 q_1 (.inr (6, [.int 0, .null, .null, .null, .null, .null, .null, .null, .int 0]))) H := hV
  generalize hV_V_2 : hu V0 q_1 (.inr (6, [.int 0, .null, .null, .null, .null, .null, .null, .null, .int 0])) = V_2 at hV
  have hq_1'V_2 : V_2 q_1 = some (.inr (6, [.int 0, .null, .null, .null, .null, .null, .null, .null, .int 0])) := by rw [← hV_V_2]; exact hu_s
  refine lv_dup hx hb d_La_law_3 rfl ?_
  refine lv_aload_n hx hb d_La_law_4 rfl (lv_at hl 0 rfl) ?_
  refine lv_iconst (v := 0) hx hb d_La_law_5 (by decide) ?_
  refine rc_i (va_runS (As := [.ref bb, .int (nI 0)]) (rest := [.ref q_1, .ref q_1]) ⟨hx, hb, hml, hown, hts⟩ (c_La_cell l D s.heap.size k V_2 bb L xs 0 (by omega) hL) (va_cwS 2 hts (gi_Sw wm_La_76 wt_La_cell wi_La wc_La_cell) rfl rfl rfl (by decide +kernel) ⟨Nat.le_of_ble_eq_true rfl, Nat.le_of_ble_eq_true rfl⟩) (mPc.preS hG hS hV hX hbl) rfl rfl hl.1 rfl (lv_room (Nat.le_of_ble_eq_true rfl)) d_La_law_6 ⟨Nat.le_of_ble_eq_true rfl, Nat.le_of_ble_eq_true rfl⟩) hS (fun H locs hV hS => ?_)
  refine lv_aload_n hx hb d_La_law_9 rfl (lv_at hl 0 rfl) ?_
  refine lv_iconst (v := 1) hx hb d_La_law_10 (by decide) ?_
  refine rc_i (va_runS (As := [.ref bb, .int (nI 1)]) (rest := [.int (if 0 < L then xs 0 else 0), .ref q_1, .ref q_1]) ⟨hx, hb, hml, hown, hts⟩ (c_La_cell l D s.heap.size k V_2 bb L xs 1 (by omega) hL) (va_cwS 2 hts (gi_Sw wm_La_76 wt_La_cell wi_La wc_La_cell) rfl rfl rfl (by decide +kernel) ⟨Nat.le_of_ble_eq_true rfl, Nat.le_of_ble_eq_true rfl⟩) (mPc.preS hG hS hV hX hbl) rfl rfl hl.1 rfl (lv_room (Nat.le_of_ble_eq_true rfl)) d_La_law_11 ⟨Nat.le_of_ble_eq_true rfl, Nat.le_of_ble_eq_true rfl⟩) hS (fun H locs hV hS => ?_)
  refine rc_V (va_runI (As := [.int (if 0 < L then xs 0 else 0), .int (if 1 < L then xs 1 else 0)]) (rest := [.ref q_1]) ⟨hx, hb, hml, hown, hts⟩ (c_Ho_init l D s.heap.size k V_2 q_1 (if 0 < L then xs 0 else 0) (if 1 < L then xs 1 else 0) hq_1'V_2) (cwI 2 hts (gi_cw wc_Ho_init) rfl rfl rfl (hW _ wi_Ho) (hW _ wm_La_82) (hW _ wv_Ho_init) rfl (by decide +kernel) ⟨Nat.le_of_ble_eq_true rfl, Nat.le_of_ble_eq_true rfl⟩) (mP.preS hG hS hV) rfl rfl hl.1 rfl (lv_room (Nat.le_of_ble_eq_true rfl)) d_La_law_14 ⟨Nat.le_of_ble_eq_true rfl, Nat.le_of_ble_eq_true rfl⟩) hS (fun WHo H locs hpHo hV hS => ?_)
  obtain ⟨n0, b0, hn1, hn4, hly, hho, hW0, hoth⟩ := hpHo
  refine lv_astore_n (lv' := [(1, .ref q_1), (0, .ref bb)]) hx hb d_La_law_17 rfl hl (by decide) rfl (fun ls hl => ?_)
  refine hv_new (ci := 7) (fs := [.int 0, .int 0, .int 0, .int 0, .null, .null, .null, .null, .null, .null, .null, .null, .null, .int 0, .null, .null, .null, .null, .null, .null, .null, .null, .null, .null, .null, .null, .null, .null, .null, .null, .null]) (C := R_Mo) (T := T_Mo) (N := 31) hx hb hW in_Mo t_Mo ty_Mo hown (hW _ wk_La_85) (hW _ wo_Mo) (hW _ wi_Mo) hG.K hV hS rfl (fun j hj => by rcases (show j = 0 ∨ j = 1 ∨ j = 2 ∨ j = 3 ∨ j = 4 ∨ j = 5 ∨ j = 6 ∨ j = 7 ∨ j = 8 ∨ j = 9 ∨ j = 10 ∨ j = 11 ∨ j = 12 ∨ j = 13 ∨ j = 14 ∨ j = 15 ∨ j = 16 ∨ j = 17 ∨ j = 18 ∨ j = 19 ∨ j = 20 ∨ j = 21 ∨ j = 22 ∨ j = 23 ∨ j = 24 ∨ j = 25 ∨ j = 26 ∨ j = 27 ∨ j = 28 ∨ j = 29 ∨ j = 30 by omega) with rfl | rfl | rfl | rfl | rfl | rfl | rfl | rfl | rfl | rfl | rfl | rfl | rfl | rfl | rfl | rfl | rfl | rfl | rfl | rfl | rfl | rfl | rfl | rfl | rfl | rfl | rfl | rfl | rfl | rfl | rfl <;> rfl) (Nat.le_of_ble_eq_true rfl) (Nat.le_of_ble_eq_true rfl) hG.N d_La_law_18 (fun q_3 H hn_q_3 hN_q_3 hV hS => ?_)
  replace hV : hv D vwCl s.heap.size (hu WHo q_3 (.inr (7, [.int 0, .int 0, .int 0, .int 0, .null, .null, .null, .null, .null, .null, .null, .null, .null, .int 0, .null, .null, .null, .null, .null, .null, .null, .null, .null, .null, .null, .null, .null, .null, .null, .null, .null]))) H := hV
  generalize hV_V_4 : hu WHo q_3 (.inr (7, [.int 0, .int 0, .int 0, .int 0, .null, .null, .null, .null, .null, .null, .null, .null, .null, .int 0, .null, .null, .null, .null, .null, .null, .null, .null, .null, .null, .null, .null, .null, .null, .null, .null, .null])) = V_4 at hV
  have hq_3'V_4 : V_4 q_3 = some (.inr (7, [.int 0, .int 0, .int 0, .int 0, .null, .null, .null, .null, .null, .null, .null, .null, .null, .int 0, .null, .null, .null, .null, .null, .null, .null, .null, .null, .null, .null, .null, .null, .null, .null, .null, .null])) := by rw [← hV_V_4]; exact hu_s
  refine lv_dup hx hb d_La_law_21 rfl ?_
  refine lv_aload_n hx hb d_La_law_22 rfl (lv_at hl 1 rfl) ?_
  refine lv_iconst (v := 0) hx hb d_La_law_23 (by decide) ?_
  refine rc_i (va_runS (As := [.ref bb, .int (nI 0)]) (rest := [.ref q_3, .ref q_3]) ⟨hx, hb, hml, hown, hts⟩ (c_La_cell l D s.heap.size k V_4 bb L xs 0 (by omega) hL) (va_cwS 2 hts (gi_Sw wm_La_76 wt_La_cell wi_La wc_La_cell) rfl rfl rfl (by decide +kernel) ⟨Nat.le_of_ble_eq_true rfl, Nat.le_of_ble_eq_true rfl⟩) (mPc.preS hG hS hV hX hbl) rfl rfl hl.1 rfl (lv_room (Nat.le_of_ble_eq_true rfl)) d_La_law_24 ⟨Nat.le_of_ble_eq_true rfl, Nat.le_of_ble_eq_true rfl⟩) hS (fun H locs hV hS => ?_)
  refine lv_aload_n hx hb d_La_law_27 rfl (lv_at hl 1 rfl) ?_
  refine lv_iconst (v := 1) hx hb d_La_law_28 (by decide) ?_
  refine rc_i (va_runS (As := [.ref bb, .int (nI 1)]) (rest := [.int (if 0 < L then xs 0 else 0), .ref q_3, .ref q_3]) ⟨hx, hb, hml, hown, hts⟩ (c_La_cell l D s.heap.size k V_4 bb L xs 1 (by omega) hL) (va_cwS 2 hts (gi_Sw wm_La_76 wt_La_cell wi_La wc_La_cell) rfl rfl rfl (by decide +kernel) ⟨Nat.le_of_ble_eq_true rfl, Nat.le_of_ble_eq_true rfl⟩) (mPc.preS hG hS hV hX hbl) rfl rfl hl.1 rfl (lv_room (Nat.le_of_ble_eq_true rfl)) d_La_law_29 ⟨Nat.le_of_ble_eq_true rfl, Nat.le_of_ble_eq_true rfl⟩) hS (fun H locs hV hS => ?_)
  refine rc_V (va_runI (As := [.int (if 0 < L then xs 0 else 0), .int (if 1 < L then xs 1 else 0)]) (rest := [.ref q_3]) ⟨hx, hb, hml, hown, hts⟩ (c_Mo_init l D s.heap.size k V_4 q_3 (if 0 < L then xs 0 else 0) (if 1 < L then xs 1 else 0) hq_3'V_4) (cwI 2 hts (gi_cw wc_Mo_init) rfl rfl rfl (hW _ wi_Mo) (hW _ wm_La_87) (hW _ wv_Mo_init) rfl (by decide +kernel) ⟨Nat.le_of_ble_eq_true rfl, Nat.le_of_ble_eq_true rfl⟩) (mP.preS hG hS hV) rfl rfl hl.1 rfl (lv_room (Nat.le_of_ble_eq_true rfl)) d_La_law_32 ⟨Nat.le_of_ble_eq_true rfl, Nat.le_of_ble_eq_true rfl⟩) hS (fun WMo H locs hpMo hV hS => ?_)
  obtain ⟨ad, hM3, hnone, hoth3⟩ := hpMo
  refine lv_astore_n (lv' := [(2, .ref q_3), (1, .ref q_1), (0, .ref bb)]) hx hb d_La_law_35 rfl hl (by decide) rfl (fun ls hl => ?_)
  refine lv_iconst (v := 1) hx hb d_La_law_36 (by decide) ?_
  refine hv_newa (atype := .long) (a0 := (1, .inr (.inl (fun _ => 0)))) hx hb (hW _ wa_long) rfl hG.K hV hS 1 rfl (fun cA h => h) (fun _ => rfl) (by decide) (by decide) (by decide) (Nat.le_of_ble_eq_true rfl) (Nat.le_of_ble_eq_true rfl) hG.N d_La_law_37 (fun ou H hn_ou hN_ou hV hS => ?_)
  refine lv_astore_n (lv' := [(3, .ref ou), (2, .ref q_3), (1, .ref q_1), (0, .ref bb)]) hx hb d_La_law_39 rfl hl (by decide) rfl (fun ls hl => ?_)
  refine lv_iconst (v := 2) hx hb d_La_law_40 (by decide) ?_
  refine lv_istore (lv' := [(4, .int 2), (3, .ref ou), (2, .ref q_3), (1, .ref q_1), (0, .ref bb)]) hx hb d_La_law_41 hl (by decide) rfl (fun ls hl => ?_)
  have hV : hv D vwCl s.heap.size (hu WMo ou (eL k 1 (fun _ => 0))) H := hV
  have hnm : WHo q_3 = none := hn_q_3
  have e2 : V_4 = hu WHo q_3 _ := hV_V_4.symm
  have hA1 : hsOk k V_4 (b0.lab q_3 10000) (hs0 n0 (gpC (if 1 < L then xs 1 else 0))) := by rw [e2]; exact hs_new hW0.1 hnm
  have hmo2 : V_4 q_3 = some _ := hq_3'V_4
  have lmo : (b0.lab q_3 10000).lb q_3 = 10000 := HA.lab_s
  obtain ⟨Lf, eLf⟩ : ∃ Lf : Nat → Nat, Lf = fun x => if (V_4 x).isNone then 10000 else (b0.lab q_3 10000).lb x := ⟨_, rfl⟩
  have Ls : ∀ x y, V_4 x = some y → Lf x = (b0.lab q_3 10000).lb x := fun x y h => by rw [eLf]; show (if (V_4 x).isNone then 10000 else _) = _; rw [h]; rfl
  have Ln : ∀ x, V_4 x = none → Lf x = 10000 := fun x h => by rw [eLf]; show (if (V_4 x).isNone then 10000 else _) = _; rw [h]; rfl
  have hA2 := hs_relab hA1 Ls
  have lmo2 : Lf q_3 = 10000 := (Ls _ _ hmo2).trans lmo
  have hA3 : hsOk k WMo ((b0.lab q_3 10000).setL Lf) (hs0 n0 (gpC (if 1 < L then xs 1 else 0))) := hs_other hA2 (fun q e hlq hq => hoth3 q e (fun z => by rw [z] at hlq; have : ((b0.lab q_3 10000).setL Lf).lb q_3 = 10000 := lmo2; omega) hq)
  have hA4 := hs_new (q := ou) (n := 10000) (e := eL k 1 (fun _ => 0)) hA3 hn_ou
  have hM4 := md_new (e := eL k 1 (fun _ => 0)) hM3 hn_ou
  have nmo : q_3 ≠ ou := fun z => by have := hM3.1; rw [z, hn_ou] at this; cases this
  have nad : ∀ j, j < 26 → ad j ≠ ou := fun j hj z => by obtain ⟨e, he⟩ := md_some hM3 hj; rw [z, hn_ou] at he; cases he
  refine W.widen (k := 55) (n := 11680) (Nat.le_of_ble_eq_true rfl) (Nat.le_of_ble_eq_true rfl) ?_
  have hho2 : (((b0.lab q_3 10000).setL Lf).lab ou 10000).ho = q_1 := hho
  refine l_loop hall C hr hlocks (mo := q_3) (ad := ad) (ou := ou) (L + 1) 2 55 11680 (hu WMo ou (eL k 1 (fun _ => 0))) (((b0.lab q_3 10000).setL Lf).lab ou 10000) (hs0 n0 (gpC (if 1 < L then xs 1 else 0))) (ms0 (mlC (if 0 < L then xs 0 else 0)) (mgC (if 1 < L then xs 1 else 0))) (fun _ => 0) H locs ls (by omega) (by omega) (by omega) (by omega) ⟨⟨hA4, hW0.2⟩, hM4, hu_s, ?_, ?_, fun j hj => ?_, ?_⟩ hV hS ?_
  · rw [HA.lab_s]; omega
  · rw [HA.lab_n nmo]; show 9999 < Lf q_3; rw [lmo2]; omega
  · rw [HA.lab_n (nad j hj)]; show 9999 < Lf (ad j); rw [Ln _ (hnone j hj)]; omega
  · exact hall.2.2.2.2.2.2.2.2.2.2.2.2.2.2.2.2.2.2.2.2.2.1 _ _ n0 hly hn1 hn4
  · rw [hho2]; exact lv_sub hl [0, 4, 3, 2, 1] rfl
