/-! the model: move, drop, at, count, begin, work, end, version, back, check, near -/
theorem ws_ws {ρ : MS} {i : Nat} {v v' : Int32} : (ρ.ws i v).ws i v' = ρ.ws i v' := by
  unfold MS.ws
  congr 1
  funext j
  by_cases h : j = i
  · subst h; rw [up_s, up_s]
  · rw [up_n h, up_n h]; exact up_n h
theorem moTF0 {G : Nat → Int32} {h : Int32} (e : moTF G h = 0) : gvOk G h = true ∧ 2 ≤ h / 1000 ∧ h / 1000 ≤ 5 := by
  unfold moTF at e
  split at e
  · split at e
    · rename_i a c
      simp only [Bool.and_eq_true, decide_eq_true_eq] at c
      exact ⟨a, c.1, c.2⟩
    · exact absurd e (by decide)
  · exact absurd e (by decide)
theorem moIdx_n {ρ : MS} (hG : moG ρ) {h : Int32} (e : moTF (ρ.I 0) h = 0) : moIdx h = nI (hdI h) ∧ hdI h < 150 ∧ 2 ≤ hdK h ∧ hdK h ≤ 5 := by
  obtain ⟨hg, h2, h5⟩ := moTF0 e
  obtain ⟨eK, eN, a1, a7, hlt⟩ := mg_of hG hg
  rw [eK] at h2 h5
  have k2 := nI_le' (a := 2) (b := hdK h) h2 (by decide) (by omega)
  have k5 := nI_le' (a := hdK h) (b := 5) h5 (by omega) (by decide)
  have := (mN_of hG a1 a7).2
  obtain ⟨-, -, s3⟩ := sl_of k2 k5 (Nat.lt_of_lt_of_le hlt this)
  exact ⟨by rw [moIdx, eN, eK, moBase_n k2 k5, nI_add, hdI], s3, k2, k5⟩
def moDrC (ρ : MS) (d t : Nat) : Bool := decide (nI t = nI d) || (!decide (20 ≤ nI d) && moOf ρ.I t (nI d))
def moDrL (ρ : MS) (d : Nat) : Nat → MS
  | 0 => ρ
  | n + 1 => if moDrC (moDrL ρ d n) d n = true then (moNote (moDrL ρ d n) n 1).wI 1 (upd ((moNote (moDrL ρ d n) n 1).I 1) n 0) else moDrL ρ d n
theorem drL_s {ρ : MS} {d : Nat} : ∀ n : Nat, (moDrL ρ d n).s = ρ.s := by
  intro n
  induction n with
  | zero => rfl
  | succ n ih => rw [moDrL]; split
                 · rw [ms_Is, note_s, ih]
                 · exact ih
def moDrop (ρ : MS) (n6 : Nat) (h : Int32) : Int32 × MS :=
  if moTF (ρ.I 0) h = 0 then
    if ρ.I 1 (hdI h) = 0 then (0, (ρ.ws 0 (moTF (ρ.I 0) h)).ws 0 3) else
    if moBarr ρ n6 (ρ.I 2 (hdI h)) (ρ.I 3 (hdI h)) (ρ.I 4 (hdI h)) (ρ.I 5 (hdI h)) = true then (0, ((ρ.ws 0 (moTF (ρ.I 0) h)).ws 0 (moTF (ρ.I 0) h)).ws 3 3) else (1, moDrL (((ρ.ws 0 (moTF (ρ.I 0) h)).ws 0 (moTF (ρ.I 0) h)).ws 3 0) (hdI h) 150)
  else (0, (ρ.ws 0 (moTF (ρ.I 0) h)).ws 0 (moTF (ρ.I 0) h))
def moAtV (ρ : MS) (i : Nat) (wh : Int32) : Int32 := if wh = 0 then (if ρ.I 1 i = 0 then 0 else 1) else if wh = 1 then ρ.I 2 i else if wh = 2 then ρ.I 3 i else if wh = 3 then ρ.I 6 i else if wh = 4 then (if ρ.I 7 i = -1 then -1 else 1000 + ρ.I 7 i) else (if ρ.I 8 i = -1 then -1 else 2000 + ρ.I 8 i)
def moAt (ρ : MS) (h wh : Int32) : Int32 × MS := if (decide (0 ≤ wh) && decide (wh ≤ 5)) = false then (0, ρ.ws 0 1) else if moTF (ρ.I 0) h = 0 then (moAtV ρ (hdI h) wh, ρ.ws 0 (moTF (ρ.I 0) h)) else (0, ρ.ws 0 (moTF (ρ.I 0) h))
def moThP (I : Nat → Nat → Int32) : Nat → Bool := fun t => !decide (I 1 t = 0)
def moWork (ρ : MS) (h : Int32) : Int32 × MS := if h = 0 then (bI (!decide (-1 = ρ.s 4)), (ρ.ws 0 0).ws 4 (-1)) else if moAF ρ h = 0 then (bI (!decide (h - h / 1000 * 1000 = ρ.s 4)), (ρ.ws 0 (moAF ρ h)).ws 4 (h - h / 1000 * 1000)) else (0, ρ.ws 0 (moAF ρ h))
def moBgP (I : Nat → Nat → Int32) (x y u v : Int32) : Nat → Bool := fun j => !decide (I 9 j = 0) && moMeet I j x y (u - x + 1) (v - y + 1)
def moBgS (ρ : MS) (n : Nat) (x y u v : Int32) : MS := ((((((((ρ.ws 0 0).ws 3 0).wI 0 (upd (ρ.I 0) 6 (ρ.I 0 6 + 1))).wI 9 (upd (ρ.I 9) n 1)).wI 10 (upd (ρ.I 10) n x)).wI 11 (upd (ρ.I 11) n y)).wI 12 (upd (ρ.I 12) n u)).wI 13 (upd (ρ.I 13) n v))
def moBegin (ρ : MS) (n6 : Nat) (x y u v : Int32) : Int32 × MS := if ρ.I 0 6 = nI (liN 6) then (-1, (ρ.ws 0 0).ws 3 1) else if (moCell x y && moCell u v && decide (x ≤ u) && decide (y ≤ v)) = false then (-1, (ρ.ws 0 0).ws 3 2) else if anyF (moBgP ρ.I x y u v) 0 n6 = true then (-1, (ρ.ws 0 0).ws 3 3) else (6000 + nI n6, moBgS ρ n6 x y u v)
set_option maxHeartbeats 4000000 in
set_option maxRecDepth 100000 in
/-- drop -/
theorem c_Mo_drop (l : Launch) (D : va_G) (N0 : Nat) (k : Nat → Nat) (V : HV) (mo : Nat) (ad : Nat → Nat) (ρ : MS) (hM : mdOk k V mo ad ρ) (h : Int32) (hGm : moG ρ) (n6 : Nat) (hn6 : n6 ≤ 10) (en6 : ρ.I 0 6 = nI n6) (hwo : moWo ρ) : Met l y_Mo_drop (.code y_Mo_drop b_Mo_drop 4 (some .boolean) :: WS) ({ frames := 3, cells := 0, slots := 0, locals := 71 }) (mP D N0 k [.ref mo, .int h] V) (va_Qi (fun r V' => mdOk k V' mo ad (moDrop ρ n6 h).2 ∧ mdFr mo ad V V' ∧ r = (moDrop ρ n6 h).1) (mB D N0) (hA N0)) 0 0 (hA N0) := by
  refine Met.ofW (cc := b_Mo_drop) (maxL := 4) (ret := (some .boolean)) (by decide) rfl ?_
  intro p e s m args below meth c s₁ B hml hv0
  obtain ⟨rfl, hG, hV⟩ := hv0
  have hx := B.exec
  have hb := B.bytes
  have hr := B.returns
  have hts := atoms_spec (ws := .code y_Mo_drop b_Mo_drop 4 (some .boolean) :: WS) B.pre
  have hW : ∀ w ∈ WS, w.before _ s = true := fun w h => hts w (List.mem_cons_of_mem _ h)
  have hown : s.vm.findClass "BoardHouseModel" = some m.cls := findClass_of_methodNamed B.named
  have hlocks := B.notSynchronized
  have hS : va_S (hA N0) s.heap s.heap [] := va_S.rf
  have hl := lv_entry ([.ref mo, .int h]) (n := 4) (Nat.le_of_ble_eq_true rfl)
  rw [lg_entry_eq]
  generalize (lg_sl ([.ref mo, .int h]) ++ List.replicate (4 - (lg_sl ([.ref mo, .int h])).length) Slot.unset).toArray = ls at hl ⊢
  have hl : lv_has ls 4 [(0, .ref mo), (1, .int h)] := hl
  have hm_1 : V mo = some (.inr (7, [.int (ρ.s 0), .int (ρ.s 1), .int (ρ.s 2), .int (ρ.s 3), .ref (ad 0), .ref (ad 1), .ref (ad 2), .ref (ad 3), .ref (ad 4), .ref (ad 5), .ref (ad 6), .ref (ad 7), .ref (ad 8), .int (ρ.s 4), .ref (ad 9), .ref (ad 10), .ref (ad 11), .ref (ad 12), .ref (ad 13), .ref (ad 14), .ref (ad 15), .ref (ad 16), .ref (ad 17), .ref (ad 18), .ref (ad 19), .ref (ad 20), .ref (ad 21), .ref (ad 22), .ref (ad 23), .ref (ad 24), .ref (ad 25)])) := hM.1
  have hm_1_1 : V (ad 1) = some (eZ k 150 (ρ.I 1)) := hM.a1
  refine lv_aload_n hx hb d_Mo_drop_0 rfl (lv_at hl 0 rfl) ?_
  refine lv_aload_n hx hb d_Mo_drop_1 rfl (lv_at hl 0 rfl) ?_
  refine lv_iload_n hx hb d_Mo_drop_2 rfl (lv_at hl 1 rfl) ?_
  refine rc_i (va_runV (As := [.int h]) (rest := [.ref mo]) ⟨hx, hb, hml, hown, hts⟩ (c_Mo_thingFault l D N0 k V mo ad ρ hM h) (cwV 1 hts (gi_V wm_Mo_195 wv_Mo_thingFault ws_Mo_thingFault wi_Mo wc_Mo_thingFault) rfl rfl rfl (by decide +kernel) ⟨Nat.le_of_ble_eq_true rfl, Nat.le_of_ble_eq_true rfl⟩) (mP.preV hG hS hV hm_1 rfl) rfl rfl hl.1 rfl (lv_room (Nat.le_of_ble_eq_true rfl)) d_Mo_drop_3 ⟨Nat.le_of_ble_eq_true rfl, Nat.le_of_ble_eq_true rfl⟩) hS (fun H locs hV hS => ?_)
  refine W.eq (g2 := F0 m 6 ls [.int (moTF (ρ.I 0) h), .ref mo]) rfl ?_
  refine lv_topi (fun f_2 ef_2 => ?_)
  refine pf_Mo_100 hx hb hW hown hG hV hS hm_1 d_Mo_drop_6 (fun H locs hV hS => ?_)
  replace hV : hv D vwCl N0 (hu V mo (.inr (7, [.int f_2, .int (ρ.s 1), .int (ρ.s 2), .int (ρ.s 3), .ref (ad 0), .ref (ad 1), .ref (ad 2), .ref (ad 3), .ref (ad 4), .ref (ad 5), .ref (ad 6), .ref (ad 7), .ref (ad 8), .int (ρ.s 4), .ref (ad 9), .ref (ad 10), .ref (ad 11), .ref (ad 12), .ref (ad 13), .ref (ad 14), .ref (ad 15), .ref (ad 16), .ref (ad 17), .ref (ad 18), .ref (ad 19), .ref (ad 20), .ref (ad 21), .ref (ad 22), .ref (ad 23), .ref (ad 24), .ref (ad 25)]))) H := hV
  generalize hV_V_3 : hu V mo (.inr (7, [.int f_2, .int (ρ.s 1), .int (ρ.s 2), .int (ρ.s 3), .ref (ad 0), .ref (ad 1), .ref (ad 2), .ref (ad 3), .ref (ad 4), .ref (ad 5), .ref (ad 6), .ref (ad 7), .ref (ad 8), .int (ρ.s 4), .ref (ad 9), .ref (ad 10), .ref (ad 11), .ref (ad 12), .ref (ad 13), .ref (ad 14), .ref (ad 15), .ref (ad 16), .ref (ad 17), .ref (ad 18), .ref (ad 19), .ref (ad 20), .ref (ad 21), .ref (ad 22), .ref (ad 23), .ref (ad 24), .ref (ad 25)])) = V_3 at hV
  have hM_3 : mdOk k V_3 mo ad (ρ.ws 0 f_2) := by rw [← hV_V_3]; exact md_put hM 0 f_2
  have hR_3 : mdFr mo ad V V_3 := by rw [← hV_V_3]; exact (mdFr.rf (mo := mo) (ad := ad) (V := V)).m
  have hm_4 : V_3 mo = some (.inr (7, [.int f_2, .int (ρ.s 1), .int (ρ.s 2), .int (ρ.s 3), .ref (ad 0), .ref (ad 1), .ref (ad 2), .ref (ad 3), .ref (ad 4), .ref (ad 5), .ref (ad 6), .ref (ad 7), .ref (ad 8), .int (ρ.s 4), .ref (ad 9), .ref (ad 10), .ref (ad 11), .ref (ad 12), .ref (ad 13), .ref (ad 14), .ref (ad 15), .ref (ad 16), .ref (ad 17), .ref (ad 18), .ref (ad 19), .ref (ad 20), .ref (ad 21), .ref (ad 22), .ref (ad 23), .ref (ad 24), .ref (ad 25)])) := hM_3.1
  have hm_4_1 : V_3 (ad 1) = some (eZ k 150 (ρ.I 1)) := hM_3.a1
  refine lv_aload_n hx hb d_Mo_drop_9 rfl (lv_at hl 0 rfl) ?_
  refine lv_aload_n hx hb d_Mo_drop_10 rfl (lv_at hl 0 rfl) ?_
  refine gf_Mo_100 hx hb hW hown hG hV hm_4 d_Mo_drop_11 ?_
  refine lv_if_ne (tgt := 33) hx hb d_Mo_drop_14 (by decide) (fun c_5 => ?_) (fun c_5 => ?_)
  · refine lv_aload_n hx hb d_Mo_drop_33 rfl (lv_at hl 0 rfl) ?_
    refine gf_Mo_100 hx hb hW hown hG hV hm_4 d_Mo_drop_34 ?_
    refine pf_Mo_100 hx hb hW hown hG hV hS hm_4 d_Mo_drop_37 (fun H locs hV hS => ?_)
    replace hV : hv D vwCl N0 (hu V_3 mo (.inr (7, [.int f_2, .int (ρ.s 1), .int (ρ.s 2), .int (ρ.s 3), .ref (ad 0), .ref (ad 1), .ref (ad 2), .ref (ad 3), .ref (ad 4), .ref (ad 5), .ref (ad 6), .ref (ad 7), .ref (ad 8), .int (ρ.s 4), .ref (ad 9), .ref (ad 10), .ref (ad 11), .ref (ad 12), .ref (ad 13), .ref (ad 14), .ref (ad 15), .ref (ad 16), .ref (ad 17), .ref (ad 18), .ref (ad 19), .ref (ad 20), .ref (ad 21), .ref (ad 22), .ref (ad 23), .ref (ad 24), .ref (ad 25)]))) H := hV
    generalize hV_V_6 : hu V_3 mo (.inr (7, [.int f_2, .int (ρ.s 1), .int (ρ.s 2), .int (ρ.s 3), .ref (ad 0), .ref (ad 1), .ref (ad 2), .ref (ad 3), .ref (ad 4), .ref (ad 5), .ref (ad 6), .ref (ad 7), .ref (ad 8), .int (ρ.s 4), .ref (ad 9), .ref (ad 10), .ref (ad 11), .ref (ad 12), .ref (ad 13), .ref (ad 14), .ref (ad 15), .ref (ad 16), .ref (ad 17), .ref (ad 18), .ref (ad 19), .ref (ad 20), .ref (ad 21), .ref (ad 22), .ref (ad 23), .ref (ad 24), .ref (ad 25)])) = V_6 at hV
    have hM_6 : mdOk k V_6 mo ad ((ρ.ws 0 f_2).ws 0 f_2) := by rw [← hV_V_6]; exact md_put hM_3 0 f_2
    have hR_6 : mdFr mo ad V V_6 := by rw [← hV_V_6]; exact hR_3.m
    have hm_7 : V_6 mo = some (.inr (7, [.int f_2, .int (ρ.s 1), .int (ρ.s 2), .int (ρ.s 3), .ref (ad 0), .ref (ad 1), .ref (ad 2), .ref (ad 3), .ref (ad 4), .ref (ad 5), .ref (ad 6), .ref (ad 7), .ref (ad 8), .int (ρ.s 4), .ref (ad 9), .ref (ad 10), .ref (ad 11), .ref (ad 12), .ref (ad 13), .ref (ad 14), .ref (ad 15), .ref (ad 16), .ref (ad 17), .ref (ad 18), .ref (ad 19), .ref (ad 20), .ref (ad 21), .ref (ad 22), .ref (ad 23), .ref (ad 24), .ref (ad 25)])) := hM_6.1
    have hm_7_1 : V_6 (ad 1) = some (eZ k 150 (ρ.I 1)) := hM_6.a1
    refine lv_aload_n hx hb d_Mo_drop_40 rfl (lv_at hl 0 rfl) ?_
    refine gf_Mo_100 hx hb hW hown hG hV hm_7 d_Mo_drop_41 ?_
    refine lv_if_eq (tgt := 49) hx hb d_Mo_drop_44 (by decide) (fun c_8 => ?_) (fun c_8 => ?_)
    · exact absurd c_8 c_5
    · refine lv_iconst (v := 0) hx hb d_Mo_drop_47 (by decide) ?_
      try simp only [bI_ne0, bI_eq0, decide_eq_true_eq, decide_eq_false_iff_not, Bool.not_eq_false, Bool.not_eq_true, Decidable.not_not] at c_5
      try simp only [bI_ne0, bI_eq0, decide_eq_true_eq, decide_eq_false_iff_not, Bool.not_eq_false, Bool.not_eq_true, Decidable.not_not] at c_8
      subst ef_2
      have hfin : moDrop ρ n6 h = (0, ((ρ.ws 0 (moTF (ρ.I 0) h)).ws 0 (moTF (ρ.I 0) h))) := by first | (simp only [moDrop, c_5, c_8, decide_true, decide_false, Bool.true_and, Bool.and_true, Bool.false_and, Bool.and_false, Bool.true_or, Bool.or_true, Bool.false_or, Bool.or_false, Bool.not_true, Bool.not_false, if_true, if_false, Bool.false_eq_true, Bool.true_eq_false, reduceIte, eq_self]; done) | (simp [moDrop, c_5, c_8]; done) | (simp_all [moDrop]; done)
      exact W.zret (v := 0) hx hb hr rfl (fun t9 ht hW => ⟨⟨0, V_6, rfl, ⟨by rw [hfin]; exact hM_6, hR_6, by rw [hfin]⟩, mB_of ht hV⟩, hS.F ht⟩) hS.2.2 d_Mo_drop_48
  · refine lv_aload_n hx hb d_Mo_drop_17 rfl (lv_at hl 0 rfl) ?_
    refine gf_Mo_13 hx hb hW hown hG hV hm_4 d_Mo_drop_18 ?_
    refine lv_iload_n hx hb d_Mo_drop_21 rfl (lv_at hl 1 rfl) ?_
    refine rc_i (va_runS (As := [.int h]) (rest := [.ref (ad 1), .ref mo]) ⟨hx, hb, hml, hown, hts⟩ (c_Mo_indexOf l D N0 k V_3 h) (va_cwS 1 hts (gi_S wm_Mo_198 wt_Mo_indexOf wi_Mo wc_Mo_indexOf) rfl rfl rfl (by decide +kernel) ⟨Nat.le_of_ble_eq_true rfl, Nat.le_of_ble_eq_true rfl⟩) (mP.preS hG hS hV) rfl rfl hl.1 rfl (lv_room (Nat.le_of_ble_eq_true rfl)) d_Mo_drop_22 ⟨Nat.le_of_ble_eq_true rfl, Nat.le_of_ble_eq_true rfl⟩) hS (fun H locs hV hS => ?_)
    obtain ⟨eix, hi150, hk2, hk5⟩ := moIdx_n hGm (ef_2.symm.trans c_5)
    rw [eix]
    refine W.eq (g2 := F0 m 25 ls [.int (nI (hdI h)), .ref (ad 1), .ref mo]) rfl ?_
    refine hv_zald hx hb hG.K hV 2 hm_4_1 rfl (vp_in_nI (by omega) (by omega)) d_Mo_drop_25 ?_
    rw [nI_clamp (by omega)]
    refine lv_if_ne (tgt := 33) hx hb d_Mo_drop_26 (by decide) (fun c_9 => ?_) (fun c_9 => ?_)
    · refine lv_aload_n hx hb d_Mo_drop_33 rfl (lv_at hl 0 rfl) ?_
      refine gf_Mo_100 hx hb hW hown hG hV hm_4 d_Mo_drop_34 ?_
      refine pf_Mo_100 hx hb hW hown hG hV hS hm_4 d_Mo_drop_37 (fun H locs hV hS => ?_)
      replace hV : hv D vwCl N0 (hu V_3 mo (.inr (7, [.int f_2, .int (ρ.s 1), .int (ρ.s 2), .int (ρ.s 3), .ref (ad 0), .ref (ad 1), .ref (ad 2), .ref (ad 3), .ref (ad 4), .ref (ad 5), .ref (ad 6), .ref (ad 7), .ref (ad 8), .int (ρ.s 4), .ref (ad 9), .ref (ad 10), .ref (ad 11), .ref (ad 12), .ref (ad 13), .ref (ad 14), .ref (ad 15), .ref (ad 16), .ref (ad 17), .ref (ad 18), .ref (ad 19), .ref (ad 20), .ref (ad 21), .ref (ad 22), .ref (ad 23), .ref (ad 24), .ref (ad 25)]))) H := hV
      generalize hV_V_10 : hu V_3 mo (.inr (7, [.int f_2, .int (ρ.s 1), .int (ρ.s 2), .int (ρ.s 3), .ref (ad 0), .ref (ad 1), .ref (ad 2), .ref (ad 3), .ref (ad 4), .ref (ad 5), .ref (ad 6), .ref (ad 7), .ref (ad 8), .int (ρ.s 4), .ref (ad 9), .ref (ad 10), .ref (ad 11), .ref (ad 12), .ref (ad 13), .ref (ad 14), .ref (ad 15), .ref (ad 16), .ref (ad 17), .ref (ad 18), .ref (ad 19), .ref (ad 20), .ref (ad 21), .ref (ad 22), .ref (ad 23), .ref (ad 24), .ref (ad 25)])) = V_10 at hV
      have hM_10 : mdOk k V_10 mo ad ((ρ.ws 0 f_2).ws 0 f_2) := by rw [← hV_V_10]; exact md_put hM_3 0 f_2
      have hR_10 : mdFr mo ad V V_10 := by rw [← hV_V_10]; exact hR_3.m
      have hm_11 : V_10 mo = some (.inr (7, [.int f_2, .int (ρ.s 1), .int (ρ.s 2), .int (ρ.s 3), .ref (ad 0), .ref (ad 1), .ref (ad 2), .ref (ad 3), .ref (ad 4), .ref (ad 5), .ref (ad 6), .ref (ad 7), .ref (ad 8), .int (ρ.s 4), .ref (ad 9), .ref (ad 10), .ref (ad 11), .ref (ad 12), .ref (ad 13), .ref (ad 14), .ref (ad 15), .ref (ad 16), .ref (ad 17), .ref (ad 18), .ref (ad 19), .ref (ad 20), .ref (ad 21), .ref (ad 22), .ref (ad 23), .ref (ad 24), .ref (ad 25)])) := hM_10.1
      have hm_11_1 : V_10 (ad 1) = some (eZ k 150 (ρ.I 1)) := hM_10.a1
      refine lv_aload_n hx hb d_Mo_drop_40 rfl (lv_at hl 0 rfl) ?_
      refine gf_Mo_100 hx hb hW hown hG hV hm_11 d_Mo_drop_41 ?_
      refine lv_if_eq (tgt := 49) hx hb d_Mo_drop_44 (by decide) (fun c_12 => ?_) (fun c_12 => ?_)
      · refine lv_iload_n hx hb d_Mo_drop_49 rfl (lv_at hl 1 rfl) ?_
        refine rc_i (va_runS (As := [.int h]) (rest := []) ⟨hx, hb, hml, hown, hts⟩ (c_Mo_indexOf l D N0 k V_10 h) (va_cwS 1 hts (gi_S wm_Mo_198 wt_Mo_indexOf wi_Mo wc_Mo_indexOf) rfl rfl rfl (by decide +kernel) ⟨Nat.le_of_ble_eq_true rfl, Nat.le_of_ble_eq_true rfl⟩) (mP.preS hG hS hV) rfl rfl hl.1 rfl (lv_room (Nat.le_of_ble_eq_true rfl)) d_Mo_drop_50 ⟨Nat.le_of_ble_eq_true rfl, Nat.le_of_ble_eq_true rfl⟩) hS (fun H locs hV hS => ?_)
        rw [eix]
        refine W.eq (g2 := F0 m 53 ls [.int (nI (hdI h))]) rfl ?_
        refine lv_istore_n (lv' := [(2, .int (nI (hdI h))), (0, .ref mo), (1, .int h)]) hx hb d_Mo_drop_53 rfl hl (by decide) rfl (fun ls hl => ?_)
        refine lv_aload_n hx hb d_Mo_drop_54 rfl (lv_at hl 1 rfl) ?_
        refine lv_aload_n hx hb d_Mo_drop_55 rfl (lv_at hl 1 rfl) ?_
        refine lv_iload_n hx hb d_Mo_drop_56 rfl (lv_at hl 0 rfl) ?_
        refine rc_i (va_runV (As := [.int (nI (hdI h))]) (rest := [.ref mo]) ⟨hx, hb, hml, hown, hts⟩ (c_Mo_isThingBarred l D N0 k V_10 mo ad ((ρ.ws 0 f_2).ws 0 f_2) hM_10 (hdI h) (by omega) n6 hn6 en6 hwo) (cwV 1 hts (gi_V wm_Mo_189 wv_Mo_isThingBarred ws_Mo_isThingBarred wi_Mo wc_Mo_isThingBarred) rfl rfl rfl (by decide +kernel) ⟨Nat.le_of_ble_eq_true rfl, Nat.le_of_ble_eq_true rfl⟩) (mP.preV hG hS hV hm_11 rfl) rfl rfl hl.1 rfl (lv_room (Nat.le_of_ble_eq_true rfl)) d_Mo_drop_57 ⟨Nat.le_of_ble_eq_true rfl, Nat.le_of_ble_eq_true rfl⟩) hS (fun H locs hV hS => ?_)
        refine W.eq (g2 := F0 m 60 ls [.int (bI (moBarr ρ n6 ((ρ.I 2) (hdI h)) ((ρ.I 3) (hdI h)) ((ρ.I 4) (hdI h)) ((ρ.I 5) (hdI h)))), .ref mo]) rfl ?_
        refine lv_if_eq (tgt := 67) hx hb d_Mo_drop_60 (by decide) (fun c_13 => ?_) (fun c_13 => ?_)
        · refine lv_iconst (v := 0) hx hb d_Mo_drop_67 (by decide) ?_
          refine pf_Mo_149 hx hb hW hown hG hV hS hm_11 d_Mo_drop_68 (fun H locs hV hS => ?_)
          replace hV : hv D vwCl N0 (hu V_10 mo (.inr (7, [.int f_2, .int (ρ.s 1), .int (ρ.s 2), .int 0, .ref (ad 0), .ref (ad 1), .ref (ad 2), .ref (ad 3), .ref (ad 4), .ref (ad 5), .ref (ad 6), .ref (ad 7), .ref (ad 8), .int (ρ.s 4), .ref (ad 9), .ref (ad 10), .ref (ad 11), .ref (ad 12), .ref (ad 13), .ref (ad 14), .ref (ad 15), .ref (ad 16), .ref (ad 17), .ref (ad 18), .ref (ad 19), .ref (ad 20), .ref (ad 21), .ref (ad 22), .ref (ad 23), .ref (ad 24), .ref (ad 25)]))) H := hV
          generalize hV_V_14 : hu V_10 mo (.inr (7, [.int f_2, .int (ρ.s 1), .int (ρ.s 2), .int 0, .ref (ad 0), .ref (ad 1), .ref (ad 2), .ref (ad 3), .ref (ad 4), .ref (ad 5), .ref (ad 6), .ref (ad 7), .ref (ad 8), .int (ρ.s 4), .ref (ad 9), .ref (ad 10), .ref (ad 11), .ref (ad 12), .ref (ad 13), .ref (ad 14), .ref (ad 15), .ref (ad 16), .ref (ad 17), .ref (ad 18), .ref (ad 19), .ref (ad 20), .ref (ad 21), .ref (ad 22), .ref (ad 23), .ref (ad 24), .ref (ad 25)])) = V_14 at hV
          have hM_14 : mdOk k V_14 mo ad (((ρ.ws 0 f_2).ws 0 f_2).ws 3 0) := by rw [← hV_V_14]; exact md_put hM_10 3 0
          have hR_14 : mdFr mo ad V V_14 := by rw [← hV_V_14]; exact hR_10.m
          have hm_15 : V_14 mo = some (.inr (7, [.int f_2, .int (ρ.s 1), .int (ρ.s 2), .int 0, .ref (ad 0), .ref (ad 1), .ref (ad 2), .ref (ad 3), .ref (ad 4), .ref (ad 5), .ref (ad 6), .ref (ad 7), .ref (ad 8), .int (ρ.s 4), .ref (ad 9), .ref (ad 10), .ref (ad 11), .ref (ad 12), .ref (ad 13), .ref (ad 14), .ref (ad 15), .ref (ad 16), .ref (ad 17), .ref (ad 18), .ref (ad 19), .ref (ad 20), .ref (ad 21), .ref (ad 22), .ref (ad 23), .ref (ad 24), .ref (ad 25)])) := hM_14.1
          have hm_15_1 : V_14 (ad 1) = some (eZ k 150 (ρ.I 1)) := hM_14.a1
          refine lv_aload_n hx hb d_Mo_drop_71 rfl (lv_at hl 1 rfl) ?_
          refine gf_Mo_149 hx hb hW hown hG hV hm_15 d_Mo_drop_72 ?_
          refine lv_if_eq (tgt := 80) hx hb d_Mo_drop_75 (by decide) (fun _ => ?_) (fun q => absurd q (by decide))
          refine lv_iconst (v := 0) hx hb d_Mo_drop_80 (by decide) ?_
          refine lv_istore_n (lv' := [(3, .int 0), (2, .int (nI (hdI h))), (0, .ref mo), (1, .int h)]) hx hb d_Mo_drop_81 rfl hl (by decide) rfl (fun ls hl => ?_)
          have loop_16 : ∀ (n i : Nat) (V1 : HV)  (H : Heap) (locs : List Loc) (ls : Array Slot), i ≤ 150 → 150 + 1 ≤ i + n → (mdOk k V1 mo ad (moDrL (((ρ.ws 0 f_2).ws 0 f_2).ws 3 0) (hdI h) i) ∧ mdFr mo ad V V1) → hv D vwCl N0 V1 H → va_S (hA N0) s.heap H locs → lv_has ls 4 [(0, .ref mo), (1, .int h), (2, .int (nI (hdI h))), (3, .int (nI i))] → W p l e (headSpec (.code y_Mo_drop b_Mo_drop 4 (some .boolean) :: WS) ({ frames := 3, cells := 0, slots := 0, locals := 71 })).room s m #[.ref mo, .int h] below meth c H locs 0 0 (MQ below (va_Qi (fun r V' => mdOk k V' mo ad (moDrop ρ n6 h).2 ∧ mdFr mo ad V V' ∧ r = (moDrop ρ n6 h).1) (mB D N0) (hA N0)) #[.ref mo, .int h] s 0 0 (hA N0)) (F0 m 82 ls []) := by
            intro n
            induction n with
            | zero => intro i V1  H locs ls h1 h2; exact absurd h2 (by omega)
            | succ n ih =>
              intro i V1  H locs ls hi hin hI hV hS hl
              obtain ⟨hM1, hR1⟩ := hI
              obtain ⟨ρl, eρl⟩ : ∃ z, z = moDrL (((ρ.ws 0 f_2).ws 0 f_2).ws 3 0) (hdI h) i := ⟨_, rfl⟩
              rw [← eρl] at hM1
              have hsl : ρl.s = ((((ρ.ws 0 f_2).ws 0 f_2).ws 3 0)).s := by rw [eρl]; exact drL_s i
              have hwol : moWo ρl := by unfold moWo; rw [hsl]; exact hwo
              have hm_17 : V1 mo = some (.inr (7, [.int (ρl.s 0), .int (ρl.s 1), .int (ρl.s 2), .int (ρl.s 3), .ref (ad 0), .ref (ad 1), .ref (ad 2), .ref (ad 3), .ref (ad 4), .ref (ad 5), .ref (ad 6), .ref (ad 7), .ref (ad 8), .int (ρl.s 4), .ref (ad 9), .ref (ad 10), .ref (ad 11), .ref (ad 12), .ref (ad 13), .ref (ad 14), .ref (ad 15), .ref (ad 16), .ref (ad 17), .ref (ad 18), .ref (ad 19), .ref (ad 20), .ref (ad 21), .ref (ad 22), .ref (ad 23), .ref (ad 24), .ref (ad 25)])) := hM1.1
              have hm_17_1 : V1 (ad 1) = some (eZ k 150 (ρl.I 1)) := hM1.a1
              refine lv_iload_n hx hb d_Mo_drop_82 rfl (lv_at hl 3 rfl) ?_
              refine lv_sipush (v := 150) hx hb d_Mo_drop_83 (by decide) ?_
              refine lv_icmp_ge (tgt := 131) hx hb d_Mo_drop_86 (by decide) (fun c_18 => ?_) (fun c_18 => ?_)
              · have hge : 150 ≤ i := nI_le' c_18 (by omega) (by omega)
                refine lv_iconst (v := 1) hx hb d_Mo_drop_131 (by decide) ?_
                have hi9 : i = 150 := by omega
                have hM9 := hM1
                rw [eρl, hi9] at hM9
                try simp only [bI_ne0, bI_eq0, decide_eq_true_eq, decide_eq_false_iff_not, Bool.not_eq_false, Bool.not_eq_true, Decidable.not_not] at c_5
                try simp only [bI_ne0, bI_eq0, decide_eq_true_eq, decide_eq_false_iff_not, Bool.not_eq_false, Bool.not_eq_true, Decidable.not_not] at c_9
                try simp only [bI_ne0, bI_eq0, decide_eq_true_eq, decide_eq_false_iff_not, Bool.not_eq_false, Bool.not_eq_true, Decidable.not_not] at c_12
                try simp only [bI_ne0, bI_eq0, decide_eq_true_eq, decide_eq_false_iff_not, Bool.not_eq_false, Bool.not_eq_true, Decidable.not_not] at c_13
                try simp only [bI_ne0, bI_eq0, decide_eq_true_eq, decide_eq_false_iff_not, Bool.not_eq_false, Bool.not_eq_true, Decidable.not_not] at c_18
                subst ef_2
                have hfin : moDrop ρ n6 h = (1, moDrL (((ρ.ws 0 (moTF (ρ.I 0) h)).ws 0 (moTF (ρ.I 0) h)).ws 3 0) (hdI h) 150) := by first | (simp [moDrop, c_5, c_9, c_12, c_13]; done) | (simp_all [moDrop]; done)
                exact W.zret (v := 1) hx hb hr rfl (fun t9 ht hW => ⟨⟨1, V1, rfl, ⟨by rw [hfin]; exact hM9, hR1, by rw [hfin]⟩, mB_of ht hV⟩, hS.F ht⟩) hS.2.2 d_Mo_drop_132
              · have hlt : i < 150 := nI_nle' c_18 (by omega) (by omega)
                refine lv_iload_n hx hb d_Mo_drop_89 rfl (lv_at hl 3 rfl) ?_
                refine lv_iload_n hx hb d_Mo_drop_90 rfl (lv_at hl 2 rfl) ?_
                refine lv_icmp_eq (tgt := 112) hx hb d_Mo_drop_91 (by decide) (fun c_19 => ?_) (fun c_19 => ?_)
                · refine lv_aload_n hx hb d_Mo_drop_112 rfl (lv_at hl 0 rfl) ?_
                  refine lv_iload_n hx hb d_Mo_drop_113 rfl (lv_at hl 3 rfl) ?_
                  refine lv_iconst (v := 1) hx hb d_Mo_drop_114 (by decide) ?_
                  refine rc_V (va_runV (As := [.int (nI i), .int 1]) (rest := []) ⟨hx, hb, hml, hown, hts⟩ (c_Mo_note l D N0 k V1 mo ad ρl hM1 i (by omega) 1 (by decide) hwol) (cwV 2 hts (gi_V wm_Mo_139 wv_Mo_note ws_Mo_note wi_Mo wc_Mo_note) rfl rfl rfl (by decide +kernel) ⟨Nat.le_of_ble_eq_true rfl, Nat.le_of_ble_eq_true rfl⟩) (mP.preV hG hS hV hm_17 rfl) rfl rfl hl.1 rfl (lv_room (Nat.le_of_ble_eq_true rfl)) d_Mo_drop_115 ⟨Nat.le_of_ble_eq_true rfl, Nat.le_of_ble_eq_true rfl⟩) hS (fun V_20 H locs hp_21 hV hS => ?_)
                  obtain ⟨hM_22, hM_22R⟩ := hp_21
                  obtain ⟨ρn_23, eρn_23⟩ : ∃ z, z = moNote ρl i 1 := ⟨_, rfl⟩
                  rw [← eρn_23] at hM_22
                  have hwo_ρn_23 : moWo ρn_23 := by unfold moWo; rw [eρn_23, note_s]; exact hwol
                  have hm_24 : V_20 mo = some (.inr (7, [.int (ρn_23.s 0), .int (ρn_23.s 1), .int (ρn_23.s 2), .int (ρn_23.s 3), .ref (ad 0), .ref (ad 1), .ref (ad 2), .ref (ad 3), .ref (ad 4), .ref (ad 5), .ref (ad 6), .ref (ad 7), .ref (ad 8), .int (ρn_23.s 4), .ref (ad 9), .ref (ad 10), .ref (ad 11), .ref (ad 12), .ref (ad 13), .ref (ad 14), .ref (ad 15), .ref (ad 16), .ref (ad 17), .ref (ad 18), .ref (ad 19), .ref (ad 20), .ref (ad 21), .ref (ad 22), .ref (ad 23), .ref (ad 24), .ref (ad 25)])) := hM_22.1
                  have hm_24_1 : V_20 (ad 1) = some (eZ k 150 (ρn_23.I 1)) := hM_22.a1
                  refine lv_aload_n hx hb d_Mo_drop_118 rfl (lv_at hl 0 rfl) ?_
                  refine gf_Mo_13 hx hb hW hown hG hV hm_24 d_Mo_drop_119 ?_
                  refine lv_iload_n hx hb d_Mo_drop_122 rfl (lv_at hl 3 rfl) ?_
                  refine lv_iconst (v := 0) hx hb d_Mo_drop_123 (by decide) ?_
                  refine hv_zast hx hb hG.K hV hS 2 hm_24_1 rfl (by decide) (vp_in_nI (by omega) (by omega)) d_Mo_drop_124 (fun H locs hV hS => ?_)
                  rw [nI_clamp (by omega)] at hV
                  replace hV : hv D vwCl N0 (hu V_20 (ad 1) (eZ k 150 (upd (ρn_23.I 1) i 0))) H := hV
                  generalize hV_V_25 : hu V_20 (ad 1) (eZ k 150 (upd (ρn_23.I 1) i 0)) = V_25 at hV
                  have hM_25 : mdOk k V_25 mo ad (ρn_23.wI 1 (upd (ρn_23.I 1) i 0)) := by rw [← hV_V_25]; exact md_set hM_22 1 (by omega) (upd (ρn_23.I 1) i 0)
                  have hR_25 : mdFr mo ad V V_25 := by rw [← hV_V_25]; exact (hR1.tr hM_22R).ar (j := 1) (by omega)
                  have hm_26 : V_25 mo = some (.inr (7, [.int (ρn_23.s 0), .int (ρn_23.s 1), .int (ρn_23.s 2), .int (ρn_23.s 3), .ref (ad 0), .ref (ad 1), .ref (ad 2), .ref (ad 3), .ref (ad 4), .ref (ad 5), .ref (ad 6), .ref (ad 7), .ref (ad 8), .int (ρn_23.s 4), .ref (ad 9), .ref (ad 10), .ref (ad 11), .ref (ad 12), .ref (ad 13), .ref (ad 14), .ref (ad 15), .ref (ad 16), .ref (ad 17), .ref (ad 18), .ref (ad 19), .ref (ad 20), .ref (ad 21), .ref (ad 22), .ref (ad 23), .ref (ad 24), .ref (ad 25)])) := hM_25.1
                  have hm_26_1 : V_25 (ad 1) = some (eZ k 150 (upd (ρn_23.I 1) i 0)) := hM_25.a1
                  obtain ⟨i_27, ei_27⟩ : ∃ y : Int32, y = (nI i) + 1 := ⟨_, rfl⟩
                  refine lv_iinc (v := i_27) (lv' := [(3, .int i_27), (0, .ref mo), (1, .int h), (2, .int (nI (hdI h)))]) hx hb d_Mo_drop_125 hl (k := 3) rfl (by rw [ei_27]; rfl) (by decide) rfl (fun ls hl => ?_)
                  refine lv_goto (tgt := 82) hx hb d_Mo_drop_128 (by decide) ?_
                  rw [nI_1] at ei_27
                  subst ei_27
                  try simp only [bI_ne0, bI_eq0, decide_eq_true_eq, decide_eq_false_iff_not, Bool.not_eq_false, Bool.not_eq_true, Decidable.not_not] at c_5
                  try simp only [bI_ne0, bI_eq0, decide_eq_true_eq, decide_eq_false_iff_not, Bool.not_eq_false, Bool.not_eq_true, Decidable.not_not] at c_9
                  try simp only [bI_ne0, bI_eq0, decide_eq_true_eq, decide_eq_false_iff_not, Bool.not_eq_false, Bool.not_eq_true, Decidable.not_not] at c_12
                  try simp only [bI_ne0, bI_eq0, decide_eq_true_eq, decide_eq_false_iff_not, Bool.not_eq_false, Bool.not_eq_true, Decidable.not_not] at c_13
                  try simp only [bI_ne0, bI_eq0, decide_eq_true_eq, decide_eq_false_iff_not, Bool.not_eq_false, Bool.not_eq_true, Decidable.not_not] at c_18
                  try simp only [bI_ne0, bI_eq0, decide_eq_true_eq, decide_eq_false_iff_not, Bool.not_eq_false, Bool.not_eq_true, Decidable.not_not] at c_19
                  exact ih (i + 1) V_25  _ _ _ (by omega) (by omega) (⟨by rw [moDrL, if_pos (by rw [← eρl]; first | (simp [moDrC, c_13, c_18, c_19]; done) | (simp_all [moDrC]; done)), ← eρl, ← eρn_23]; exact hM_25, hR_25⟩) hV hS (lv_sub hl [1, 2, 3, 0] rfl)
                · refine lv_iload_n hx hb d_Mo_drop_94 rfl (lv_at hl 2 rfl) ?_
                  refine lv_bipush (v := 20) hx hb d_Mo_drop_95 (by decide) ?_
                  refine lv_icmp_ge (tgt := 125) hx hb d_Mo_drop_97 (by decide) (fun c_28 => ?_) (fun c_28 => ?_)
                  · obtain ⟨i_29, ei_29⟩ : ∃ y : Int32, y = (nI i) + 1 := ⟨_, rfl⟩
                    refine lv_iinc (v := i_29) (lv' := [(3, .int i_29), (0, .ref mo), (1, .int h), (2, .int (nI (hdI h)))]) hx hb d_Mo_drop_125 hl (k := 3) rfl (by rw [ei_29]; rfl) (by decide) rfl (fun ls hl => ?_)
                    refine lv_goto (tgt := 82) hx hb d_Mo_drop_128 (by decide) ?_
                    rw [nI_1] at ei_29
                    subst ei_29
                    try simp only [bI_ne0, bI_eq0, decide_eq_true_eq, decide_eq_false_iff_not, Bool.not_eq_false, Bool.not_eq_true, Decidable.not_not] at c_5
                    try simp only [bI_ne0, bI_eq0, decide_eq_true_eq, decide_eq_false_iff_not, Bool.not_eq_false, Bool.not_eq_true, Decidable.not_not] at c_9
                    try simp only [bI_ne0, bI_eq0, decide_eq_true_eq, decide_eq_false_iff_not, Bool.not_eq_false, Bool.not_eq_true, Decidable.not_not] at c_12
                    try simp only [bI_ne0, bI_eq0, decide_eq_true_eq, decide_eq_false_iff_not, Bool.not_eq_false, Bool.not_eq_true, Decidable.not_not] at c_13
                    try simp only [bI_ne0, bI_eq0, decide_eq_true_eq, decide_eq_false_iff_not, Bool.not_eq_false, Bool.not_eq_true, Decidable.not_not] at c_18
                    try simp only [bI_ne0, bI_eq0, decide_eq_true_eq, decide_eq_false_iff_not, Bool.not_eq_false, Bool.not_eq_true, Decidable.not_not] at c_19
                    try simp only [bI_ne0, bI_eq0, decide_eq_true_eq, decide_eq_false_iff_not, Bool.not_eq_false, Bool.not_eq_true, Decidable.not_not] at c_28
                    exact ih (i + 1) V1  _ _ _ (by omega) (by omega) (⟨by rw [moDrL, if_neg (by rw [← eρl]; first | (simp [moDrC, c_18, c_19, c_28]; done) | (simp_all [moDrC]; done)), ← eρl]; exact hM1, hR1⟩) hV hS (lv_sub hl [1, 2, 3, 0] rfl)
                  · refine lv_aload_n hx hb d_Mo_drop_100 rfl (lv_at hl 0 rfl) ?_
                    refine lv_iload_n hx hb d_Mo_drop_101 rfl (lv_at hl 3 rfl) ?_
                    refine lv_iload_n hx hb d_Mo_drop_102 rfl (lv_at hl 2 rfl) ?_
                    refine rc_i (va_runV (As := [.int (nI i), .int (nI (hdI h))]) (rest := []) ⟨hx, hb, hml, hown, hts⟩ (c_Mo_isOf l D N0 k V1 mo ad ρl hM1 i (by omega) (nI (hdI h))) (cwV 2 hts (gi_V wm_Mo_192 wv_Mo_isOf ws_Mo_isOf wi_Mo wc_Mo_isOf) rfl rfl rfl (by decide +kernel) ⟨Nat.le_of_ble_eq_true rfl, Nat.le_of_ble_eq_true rfl⟩) (mP.preV hG hS hV hm_17 rfl) rfl rfl hl.1 rfl (lv_room (Nat.le_of_ble_eq_true rfl)) d_Mo_drop_103 ⟨Nat.le_of_ble_eq_true rfl, Nat.le_of_ble_eq_true rfl⟩) hS (fun H locs hV hS => ?_)
                    refine W.eq (g2 := F0 m 106 ls [.int (bI (moOf ρl.I i (nI (hdI h))))]) rfl ?_
                    refine lv_if_ne (tgt := 112) hx hb d_Mo_drop_106 (by decide) (fun c_30 => ?_) (fun c_30 => ?_)
                    · refine lv_aload_n hx hb d_Mo_drop_112 rfl (lv_at hl 0 rfl) ?_
                      refine lv_iload_n hx hb d_Mo_drop_113 rfl (lv_at hl 3 rfl) ?_
                      refine lv_iconst (v := 1) hx hb d_Mo_drop_114 (by decide) ?_
                      refine rc_V (va_runV (As := [.int (nI i), .int 1]) (rest := []) ⟨hx, hb, hml, hown, hts⟩ (c_Mo_note l D N0 k V1 mo ad ρl hM1 i (by omega) 1 (by decide) hwol) (cwV 2 hts (gi_V wm_Mo_139 wv_Mo_note ws_Mo_note wi_Mo wc_Mo_note) rfl rfl rfl (by decide +kernel) ⟨Nat.le_of_ble_eq_true rfl, Nat.le_of_ble_eq_true rfl⟩) (mP.preV hG hS hV hm_17 rfl) rfl rfl hl.1 rfl (lv_room (Nat.le_of_ble_eq_true rfl)) d_Mo_drop_115 ⟨Nat.le_of_ble_eq_true rfl, Nat.le_of_ble_eq_true rfl⟩) hS (fun V_31 H locs hp_32 hV hS => ?_)
                      obtain ⟨hM_33, hM_33R⟩ := hp_32
                      obtain ⟨ρn_34, eρn_34⟩ : ∃ z, z = moNote ρl i 1 := ⟨_, rfl⟩
                      rw [← eρn_34] at hM_33
                      have hwo_ρn_34 : moWo ρn_34 := by unfold moWo; rw [eρn_34, note_s]; exact hwol
                      have hm_35 : V_31 mo = some (.inr (7, [.int (ρn_34.s 0), .int (ρn_34.s 1), .int (ρn_34.s 2), .int (ρn_34.s 3), .ref (ad 0), .ref (ad 1), .ref (ad 2), .ref (ad 3), .ref (ad 4), .ref (ad 5), .ref (ad 6), .ref (ad 7), .ref (ad 8), .int (ρn_34.s 4), .ref (ad 9), .ref (ad 10), .ref (ad 11), .ref (ad 12), .ref (ad 13), .ref (ad 14), .ref (ad 15), .ref (ad 16), .ref (ad 17), .ref (ad 18), .ref (ad 19), .ref (ad 20), .ref (ad 21), .ref (ad 22), .ref (ad 23), .ref (ad 24), .ref (ad 25)])) := hM_33.1
                      have hm_35_1 : V_31 (ad 1) = some (eZ k 150 (ρn_34.I 1)) := hM_33.a1
                      refine lv_aload_n hx hb d_Mo_drop_118 rfl (lv_at hl 0 rfl) ?_
                      refine gf_Mo_13 hx hb hW hown hG hV hm_35 d_Mo_drop_119 ?_
                      refine lv_iload_n hx hb d_Mo_drop_122 rfl (lv_at hl 3 rfl) ?_
                      refine lv_iconst (v := 0) hx hb d_Mo_drop_123 (by decide) ?_
                      refine hv_zast hx hb hG.K hV hS 2 hm_35_1 rfl (by decide) (vp_in_nI (by omega) (by omega)) d_Mo_drop_124 (fun H locs hV hS => ?_)
                      rw [nI_clamp (by omega)] at hV
                      replace hV : hv D vwCl N0 (hu V_31 (ad 1) (eZ k 150 (upd (ρn_34.I 1) i 0))) H := hV
                      generalize hV_V_36 : hu V_31 (ad 1) (eZ k 150 (upd (ρn_34.I 1) i 0)) = V_36 at hV
                      have hM_36 : mdOk k V_36 mo ad (ρn_34.wI 1 (upd (ρn_34.I 1) i 0)) := by rw [← hV_V_36]; exact md_set hM_33 1 (by omega) (upd (ρn_34.I 1) i 0)
                      have hR_36 : mdFr mo ad V V_36 := by rw [← hV_V_36]; exact (hR1.tr hM_33R).ar (j := 1) (by omega)
                      have hm_37 : V_36 mo = some (.inr (7, [.int (ρn_34.s 0), .int (ρn_34.s 1), .int (ρn_34.s 2), .int (ρn_34.s 3), .ref (ad 0), .ref (ad 1), .ref (ad 2), .ref (ad 3), .ref (ad 4), .ref (ad 5), .ref (ad 6), .ref (ad 7), .ref (ad 8), .int (ρn_34.s 4), .ref (ad 9), .ref (ad 10), .ref (ad 11), .ref (ad 12), .ref (ad 13), .ref (ad 14), .ref (ad 15), .ref (ad 16), .ref (ad 17), .ref (ad 18), .ref (ad 19), .ref (ad 20), .ref (ad 21), .ref (ad 22), .ref (ad 23), .ref (ad 24), .ref (ad 25)])) := hM_36.1
                      have hm_37_1 : V_36 (ad 1) = some (eZ k 150 (upd (ρn_34.I 1) i 0)) := hM_36.a1
                      obtain ⟨i_38, ei_38⟩ : ∃ y : Int32, y = (nI i) + 1 := ⟨_, rfl⟩
                      refine lv_iinc (v := i_38) (lv' := [(3, .int i_38), (0, .ref mo), (1, .int h), (2, .int (nI (hdI h)))]) hx hb d_Mo_drop_125 hl (k := 3) rfl (by rw [ei_38]; rfl) (by decide) rfl (fun ls hl => ?_)
                      refine lv_goto (tgt := 82) hx hb d_Mo_drop_128 (by decide) ?_
                      rw [nI_1] at ei_38
                      subst ei_38
                      try simp only [bI_ne0, bI_eq0, decide_eq_true_eq, decide_eq_false_iff_not, Bool.not_eq_false, Bool.not_eq_true, Decidable.not_not] at c_5
                      try simp only [bI_ne0, bI_eq0, decide_eq_true_eq, decide_eq_false_iff_not, Bool.not_eq_false, Bool.not_eq_true, Decidable.not_not] at c_9
                      try simp only [bI_ne0, bI_eq0, decide_eq_true_eq, decide_eq_false_iff_not, Bool.not_eq_false, Bool.not_eq_true, Decidable.not_not] at c_12
                      try simp only [bI_ne0, bI_eq0, decide_eq_true_eq, decide_eq_false_iff_not, Bool.not_eq_false, Bool.not_eq_true, Decidable.not_not] at c_13
                      try simp only [bI_ne0, bI_eq0, decide_eq_true_eq, decide_eq_false_iff_not, Bool.not_eq_false, Bool.not_eq_true, Decidable.not_not] at c_18
                      try simp only [bI_ne0, bI_eq0, decide_eq_true_eq, decide_eq_false_iff_not, Bool.not_eq_false, Bool.not_eq_true, Decidable.not_not] at c_19
                      try simp only [bI_ne0, bI_eq0, decide_eq_true_eq, decide_eq_false_iff_not, Bool.not_eq_false, Bool.not_eq_true, Decidable.not_not] at c_28
                      try simp only [bI_ne0, bI_eq0, decide_eq_true_eq, decide_eq_false_iff_not, Bool.not_eq_false, Bool.not_eq_true, Decidable.not_not] at c_30
                      exact ih (i + 1) V_36  _ _ _ (by omega) (by omega) (⟨by rw [moDrL, if_pos (by rw [← eρl]; first | (simp [moDrC, c_19, c_28, c_30]; done) | (simp_all [moDrC]; done)), ← eρl, ← eρn_34]; exact hM_36, hR_36⟩) hV hS (lv_sub hl [1, 2, 3, 0] rfl)
                    · refine lv_goto (tgt := 125) hx hb d_Mo_drop_109 (by decide) ?_
                      obtain ⟨i_39, ei_39⟩ : ∃ y : Int32, y = (nI i) + 1 := ⟨_, rfl⟩
                      refine lv_iinc (v := i_39) (lv' := [(3, .int i_39), (0, .ref mo), (1, .int h), (2, .int (nI (hdI h)))]) hx hb d_Mo_drop_125 hl (k := 3) rfl (by rw [ei_39]; rfl) (by decide) rfl (fun ls hl => ?_)
                      refine lv_goto (tgt := 82) hx hb d_Mo_drop_128 (by decide) ?_
                      rw [nI_1] at ei_39
                      subst ei_39
                      try simp only [bI_ne0, bI_eq0, decide_eq_true_eq, decide_eq_false_iff_not, Bool.not_eq_false, Bool.not_eq_true, Decidable.not_not] at c_5
                      try simp only [bI_ne0, bI_eq0, decide_eq_true_eq, decide_eq_false_iff_not, Bool.not_eq_false, Bool.not_eq_true, Decidable.not_not] at c_9
                      try simp only [bI_ne0, bI_eq0, decide_eq_true_eq, decide_eq_false_iff_not, Bool.not_eq_false, Bool.not_eq_true, Decidable.not_not] at c_12
                      try simp only [bI_ne0, bI_eq0, decide_eq_true_eq, decide_eq_false_iff_not, Bool.not_eq_false, Bool.not_eq_true, Decidable.not_not] at c_13
                      try simp only [bI_ne0, bI_eq0, decide_eq_true_eq, decide_eq_false_iff_not, Bool.not_eq_false, Bool.not_eq_true, Decidable.not_not] at c_18
                      try simp only [bI_ne0, bI_eq0, decide_eq_true_eq, decide_eq_false_iff_not, Bool.not_eq_false, Bool.not_eq_true, Decidable.not_not] at c_19
                      try simp only [bI_ne0, bI_eq0, decide_eq_true_eq, decide_eq_false_iff_not, Bool.not_eq_false, Bool.not_eq_true, Decidable.not_not] at c_28
                      try simp only [bI_ne0, bI_eq0, decide_eq_true_eq, decide_eq_false_iff_not, Bool.not_eq_false, Bool.not_eq_true, Decidable.not_not] at c_30
                      exact ih (i + 1) V1  _ _ _ (by omega) (by omega) (⟨by rw [moDrL, if_neg (by rw [← eρl]; first | (simp [moDrC, c_19, c_28, c_30]; done) | (simp_all [moDrC]; done)), ← eρl]; exact hM1, hR1⟩) hV hS (lv_sub hl [1, 2, 3, 0] rfl)
          exact loop_16 (150 + 1 - 0) 0 V_14  _ _ _ (by omega) (by omega) (⟨hM_14, hR_14⟩) hV hS (lv_sub hl [2, 3, 1, 0] rfl)
        · refine lv_iconst (v := 3) hx hb d_Mo_drop_63 (by decide) ?_
          refine lv_goto (tgt := 68) hx hb d_Mo_drop_64 (by decide) ?_
          refine pf_Mo_149 hx hb hW hown hG hV hS hm_11 d_Mo_drop_68 (fun H locs hV hS => ?_)
          replace hV : hv D vwCl N0 (hu V_10 mo (.inr (7, [.int f_2, .int (ρ.s 1), .int (ρ.s 2), .int 3, .ref (ad 0), .ref (ad 1), .ref (ad 2), .ref (ad 3), .ref (ad 4), .ref (ad 5), .ref (ad 6), .ref (ad 7), .ref (ad 8), .int (ρ.s 4), .ref (ad 9), .ref (ad 10), .ref (ad 11), .ref (ad 12), .ref (ad 13), .ref (ad 14), .ref (ad 15), .ref (ad 16), .ref (ad 17), .ref (ad 18), .ref (ad 19), .ref (ad 20), .ref (ad 21), .ref (ad 22), .ref (ad 23), .ref (ad 24), .ref (ad 25)]))) H := hV
          generalize hV_V_40 : hu V_10 mo (.inr (7, [.int f_2, .int (ρ.s 1), .int (ρ.s 2), .int 3, .ref (ad 0), .ref (ad 1), .ref (ad 2), .ref (ad 3), .ref (ad 4), .ref (ad 5), .ref (ad 6), .ref (ad 7), .ref (ad 8), .int (ρ.s 4), .ref (ad 9), .ref (ad 10), .ref (ad 11), .ref (ad 12), .ref (ad 13), .ref (ad 14), .ref (ad 15), .ref (ad 16), .ref (ad 17), .ref (ad 18), .ref (ad 19), .ref (ad 20), .ref (ad 21), .ref (ad 22), .ref (ad 23), .ref (ad 24), .ref (ad 25)])) = V_40 at hV
          have hM_40 : mdOk k V_40 mo ad (((ρ.ws 0 f_2).ws 0 f_2).ws 3 3) := by rw [← hV_V_40]; exact md_put hM_10 3 3
          have hR_40 : mdFr mo ad V V_40 := by rw [← hV_V_40]; exact hR_10.m
          have hm_41 : V_40 mo = some (.inr (7, [.int f_2, .int (ρ.s 1), .int (ρ.s 2), .int 3, .ref (ad 0), .ref (ad 1), .ref (ad 2), .ref (ad 3), .ref (ad 4), .ref (ad 5), .ref (ad 6), .ref (ad 7), .ref (ad 8), .int (ρ.s 4), .ref (ad 9), .ref (ad 10), .ref (ad 11), .ref (ad 12), .ref (ad 13), .ref (ad 14), .ref (ad 15), .ref (ad 16), .ref (ad 17), .ref (ad 18), .ref (ad 19), .ref (ad 20), .ref (ad 21), .ref (ad 22), .ref (ad 23), .ref (ad 24), .ref (ad 25)])) := hM_40.1
          have hm_41_1 : V_40 (ad 1) = some (eZ k 150 (ρ.I 1)) := hM_40.a1
          refine lv_aload_n hx hb d_Mo_drop_71 rfl (lv_at hl 1 rfl) ?_
          refine gf_Mo_149 hx hb hW hown hG hV hm_41 d_Mo_drop_72 ?_
          refine lv_if_eq (tgt := 80) hx hb d_Mo_drop_75 (by decide) (fun q => absurd q (by decide)) (fun _ => ?_)
          refine lv_iconst (v := 0) hx hb d_Mo_drop_78 (by decide) ?_
          try simp only [bI_ne0, bI_eq0, decide_eq_true_eq, decide_eq_false_iff_not, Bool.not_eq_false, Bool.not_eq_true, Decidable.not_not] at c_5
          try simp only [bI_ne0, bI_eq0, decide_eq_true_eq, decide_eq_false_iff_not, Bool.not_eq_false, Bool.not_eq_true, Decidable.not_not] at c_9
          try simp only [bI_ne0, bI_eq0, decide_eq_true_eq, decide_eq_false_iff_not, Bool.not_eq_false, Bool.not_eq_true, Decidable.not_not] at c_12
          try simp only [bI_ne0, bI_eq0, decide_eq_true_eq, decide_eq_false_iff_not, Bool.not_eq_false, Bool.not_eq_true, Decidable.not_not] at c_13
          subst ef_2
          have hfin : moDrop ρ n6 h = (0, (((ρ.ws 0 (moTF (ρ.I 0) h)).ws 0 (moTF (ρ.I 0) h)).ws 3 3)) := by first | (simp only [moDrop, c_5, c_9, c_12, c_13, decide_true, decide_false, Bool.true_and, Bool.and_true, Bool.false_and, Bool.and_false, Bool.true_or, Bool.or_true, Bool.false_or, Bool.or_false, Bool.not_true, Bool.not_false, if_true, if_false, Bool.false_eq_true, Bool.true_eq_false, reduceIte, eq_self]; done) | (simp [moDrop, c_5, c_9, c_12, c_13]; done) | (simp_all [moDrop]; done)
          exact W.zret (v := 0) hx hb hr rfl (fun t9 ht hW => ⟨⟨0, V_40, rfl, ⟨by rw [hfin]; exact hM_40, hR_40, by rw [hfin]⟩, mB_of ht hV⟩, hS.F ht⟩) hS.2.2 d_Mo_drop_79
      · exact absurd c_5 c_12
    · refine lv_iconst (v := 3) hx hb d_Mo_drop_29 (by decide) ?_
      refine lv_goto (tgt := 37) hx hb d_Mo_drop_30 (by decide) ?_
      refine pf_Mo_100 hx hb hW hown hG hV hS hm_4 d_Mo_drop_37 (fun H locs hV hS => ?_)
      replace hV : hv D vwCl N0 (hu V_3 mo (.inr (7, [.int 3, .int (ρ.s 1), .int (ρ.s 2), .int (ρ.s 3), .ref (ad 0), .ref (ad 1), .ref (ad 2), .ref (ad 3), .ref (ad 4), .ref (ad 5), .ref (ad 6), .ref (ad 7), .ref (ad 8), .int (ρ.s 4), .ref (ad 9), .ref (ad 10), .ref (ad 11), .ref (ad 12), .ref (ad 13), .ref (ad 14), .ref (ad 15), .ref (ad 16), .ref (ad 17), .ref (ad 18), .ref (ad 19), .ref (ad 20), .ref (ad 21), .ref (ad 22), .ref (ad 23), .ref (ad 24), .ref (ad 25)]))) H := hV
      generalize hV_V_42 : hu V_3 mo (.inr (7, [.int 3, .int (ρ.s 1), .int (ρ.s 2), .int (ρ.s 3), .ref (ad 0), .ref (ad 1), .ref (ad 2), .ref (ad 3), .ref (ad 4), .ref (ad 5), .ref (ad 6), .ref (ad 7), .ref (ad 8), .int (ρ.s 4), .ref (ad 9), .ref (ad 10), .ref (ad 11), .ref (ad 12), .ref (ad 13), .ref (ad 14), .ref (ad 15), .ref (ad 16), .ref (ad 17), .ref (ad 18), .ref (ad 19), .ref (ad 20), .ref (ad 21), .ref (ad 22), .ref (ad 23), .ref (ad 24), .ref (ad 25)])) = V_42 at hV
      have hM_42 : mdOk k V_42 mo ad ((ρ.ws 0 f_2).ws 0 3) := by rw [← hV_V_42]; exact md_put hM_3 0 3
      have hR_42 : mdFr mo ad V V_42 := by rw [← hV_V_42]; exact hR_3.m
      have hm_43 : V_42 mo = some (.inr (7, [.int 3, .int (ρ.s 1), .int (ρ.s 2), .int (ρ.s 3), .ref (ad 0), .ref (ad 1), .ref (ad 2), .ref (ad 3), .ref (ad 4), .ref (ad 5), .ref (ad 6), .ref (ad 7), .ref (ad 8), .int (ρ.s 4), .ref (ad 9), .ref (ad 10), .ref (ad 11), .ref (ad 12), .ref (ad 13), .ref (ad 14), .ref (ad 15), .ref (ad 16), .ref (ad 17), .ref (ad 18), .ref (ad 19), .ref (ad 20), .ref (ad 21), .ref (ad 22), .ref (ad 23), .ref (ad 24), .ref (ad 25)])) := hM_42.1
      have hm_43_1 : V_42 (ad 1) = some (eZ k 150 (ρ.I 1)) := hM_42.a1
      refine lv_aload_n hx hb d_Mo_drop_40 rfl (lv_at hl 0 rfl) ?_
      refine gf_Mo_100 hx hb hW hown hG hV hm_43 d_Mo_drop_41 ?_
      refine lv_if_eq (tgt := 49) hx hb d_Mo_drop_44 (by decide) (fun q => absurd q (by decide)) (fun _ => ?_)
      refine lv_iconst (v := 0) hx hb d_Mo_drop_47 (by decide) ?_
      try simp only [bI_ne0, bI_eq0, decide_eq_true_eq, decide_eq_false_iff_not, Bool.not_eq_false, Bool.not_eq_true, Decidable.not_not] at c_5
      try simp only [bI_ne0, bI_eq0, decide_eq_true_eq, decide_eq_false_iff_not, Bool.not_eq_false, Bool.not_eq_true, Decidable.not_not] at c_9
      subst ef_2
      have hfin : moDrop ρ n6 h = (0, ((ρ.ws 0 (moTF (ρ.I 0) h)).ws 0 3)) := by first | (simp only [moDrop, c_5, c_9, decide_true, decide_false, Bool.true_and, Bool.and_true, Bool.false_and, Bool.and_false, Bool.true_or, Bool.or_true, Bool.false_or, Bool.or_false, Bool.not_true, Bool.not_false, if_true, if_false, Bool.false_eq_true, Bool.true_eq_false, reduceIte, eq_self]; done) | (simp [moDrop, c_5, c_9]; done) | (simp_all [moDrop]; done)
      exact W.zret (v := 0) hx hb hr rfl (fun t9 ht hW => ⟨⟨0, V_42, rfl, ⟨by rw [hfin]; exact hM_42, hR_42, by rw [hfin]⟩, mB_of ht hV⟩, hS.F ht⟩) hS.2.2 d_Mo_drop_48
set_option maxHeartbeats 4000000 in
set_option maxRecDepth 100000 in
/-- at -/
theorem c_Mo_at (l : Launch) (D : va_G) (N0 : Nat) (k : Nat → Nat) (V : HV) (mo : Nat) (ad : Nat → Nat) (ρ : MS) (hM : mdOk k V mo ad ρ) (h wh : Int32) (hGm : moG ρ) : Met l y_Mo_at (.code y_Mo_at b_Mo_at 4 (some .int) :: WS) ({ frames := 2, cells := 0, slots := 0, locals := 44 }) (mP D N0 k [.ref mo, .int h, .int wh] V) (va_Qi (fun r V' => mdOk k V' mo ad (moAt ρ h wh).2 ∧ mdFr mo ad V V' ∧ r = (moAt ρ h wh).1) (mB D N0) (hA N0)) 0 0 (hA N0) := by
  refine Met.ofW (cc := b_Mo_at) (maxL := 4) (ret := (some .int)) (by decide) rfl ?_
  intro p e s m args below meth c s₁ B hml hv0
  obtain ⟨rfl, hG, hV⟩ := hv0
  have hx := B.exec
  have hb := B.bytes
  have hr := B.returns
  have hts := atoms_spec (ws := .code y_Mo_at b_Mo_at 4 (some .int) :: WS) B.pre
  have hW : ∀ w ∈ WS, w.before _ s = true := fun w h => hts w (List.mem_cons_of_mem _ h)
  have hown : s.vm.findClass "BoardHouseModel" = some m.cls := findClass_of_methodNamed B.named
  have hlocks := B.notSynchronized
  have hS : va_S (hA N0) s.heap s.heap [] := va_S.rf
  have hl := lv_entry ([.ref mo, .int h, .int wh]) (n := 4) (Nat.le_of_ble_eq_true rfl)
  rw [lg_entry_eq]
  generalize (lg_sl ([.ref mo, .int h, .int wh]) ++ List.replicate (4 - (lg_sl ([.ref mo, .int h, .int wh])).length) Slot.unset).toArray = ls at hl ⊢
  have hl : lv_has ls 4 [(0, .ref mo), (1, .int h), (2, .int wh)] := hl
  have hm_1 : V mo = some (.inr (7, [.int (ρ.s 0), .int (ρ.s 1), .int (ρ.s 2), .int (ρ.s 3), .ref (ad 0), .ref (ad 1), .ref (ad 2), .ref (ad 3), .ref (ad 4), .ref (ad 5), .ref (ad 6), .ref (ad 7), .ref (ad 8), .int (ρ.s 4), .ref (ad 9), .ref (ad 10), .ref (ad 11), .ref (ad 12), .ref (ad 13), .ref (ad 14), .ref (ad 15), .ref (ad 16), .ref (ad 17), .ref (ad 18), .ref (ad 19), .ref (ad 20), .ref (ad 21), .ref (ad 22), .ref (ad 23), .ref (ad 24), .ref (ad 25)])) := hM.1
  have hm_1_1 : V (ad 1) = some (eZ k 150 (ρ.I 1)) := hM.a1
  have hm_1_2 : V (ad 2) = some (eI k 150 (ρ.I 2)) := hM.a2
  have hm_1_3 : V (ad 3) = some (eI k 150 (ρ.I 3)) := hM.a3
  have hm_1_6 : V (ad 6) = some (eI k 150 (ρ.I 6)) := hM.a6
  have hm_1_7 : V (ad 7) = some (eI k 150 (ρ.I 7)) := hM.a7
  have hm_1_8 : V (ad 8) = some (eI k 150 (ρ.I 8)) := hM.a8
  refine lv_aload_n hx hb d_Mo_at_0 rfl (lv_at hl 0 rfl) ?_
  refine lv_iload_n hx hb d_Mo_at_1 rfl (lv_at hl 2 rfl) ?_
  refine lv_if_lt (tgt := 10) hx hb d_Mo_at_2 (by decide) (fun c_2 => ?_) (fun c_2 => ?_)
  · have c_2 := i_nle c_2
    refine lv_iconst (v := 1) hx hb d_Mo_at_10 (by decide) ?_
    refine lv_goto (tgt := 19) hx hb d_Mo_at_11 (by decide) ?_
    refine pf_Mo_100 hx hb hW hown hG hV hS hm_1 d_Mo_at_19 (fun H locs hV hS => ?_)
    replace hV : hv D vwCl N0 (hu V mo (.inr (7, [.int 1, .int (ρ.s 1), .int (ρ.s 2), .int (ρ.s 3), .ref (ad 0), .ref (ad 1), .ref (ad 2), .ref (ad 3), .ref (ad 4), .ref (ad 5), .ref (ad 6), .ref (ad 7), .ref (ad 8), .int (ρ.s 4), .ref (ad 9), .ref (ad 10), .ref (ad 11), .ref (ad 12), .ref (ad 13), .ref (ad 14), .ref (ad 15), .ref (ad 16), .ref (ad 17), .ref (ad 18), .ref (ad 19), .ref (ad 20), .ref (ad 21), .ref (ad 22), .ref (ad 23), .ref (ad 24), .ref (ad 25)]))) H := hV
    generalize hV_V_3 : hu V mo (.inr (7, [.int 1, .int (ρ.s 1), .int (ρ.s 2), .int (ρ.s 3), .ref (ad 0), .ref (ad 1), .ref (ad 2), .ref (ad 3), .ref (ad 4), .ref (ad 5), .ref (ad 6), .ref (ad 7), .ref (ad 8), .int (ρ.s 4), .ref (ad 9), .ref (ad 10), .ref (ad 11), .ref (ad 12), .ref (ad 13), .ref (ad 14), .ref (ad 15), .ref (ad 16), .ref (ad 17), .ref (ad 18), .ref (ad 19), .ref (ad 20), .ref (ad 21), .ref (ad 22), .ref (ad 23), .ref (ad 24), .ref (ad 25)])) = V_3 at hV
    have hM_3 : mdOk k V_3 mo ad (ρ.ws 0 1) := by rw [← hV_V_3]; exact md_put hM 0 1
    have hR_3 : mdFr mo ad V V_3 := by rw [← hV_V_3]; exact (mdFr.rf (mo := mo) (ad := ad) (V := V)).m
    have hm_4 : V_3 mo = some (.inr (7, [.int 1, .int (ρ.s 1), .int (ρ.s 2), .int (ρ.s 3), .ref (ad 0), .ref (ad 1), .ref (ad 2), .ref (ad 3), .ref (ad 4), .ref (ad 5), .ref (ad 6), .ref (ad 7), .ref (ad 8), .int (ρ.s 4), .ref (ad 9), .ref (ad 10), .ref (ad 11), .ref (ad 12), .ref (ad 13), .ref (ad 14), .ref (ad 15), .ref (ad 16), .ref (ad 17), .ref (ad 18), .ref (ad 19), .ref (ad 20), .ref (ad 21), .ref (ad 22), .ref (ad 23), .ref (ad 24), .ref (ad 25)])) := hM_3.1
    have hm_4_1 : V_3 (ad 1) = some (eZ k 150 (ρ.I 1)) := hM_3.a1
    have hm_4_2 : V_3 (ad 2) = some (eI k 150 (ρ.I 2)) := hM_3.a2
    have hm_4_3 : V_3 (ad 3) = some (eI k 150 (ρ.I 3)) := hM_3.a3
    have hm_4_6 : V_3 (ad 6) = some (eI k 150 (ρ.I 6)) := hM_3.a6
    have hm_4_7 : V_3 (ad 7) = some (eI k 150 (ρ.I 7)) := hM_3.a7
    have hm_4_8 : V_3 (ad 8) = some (eI k 150 (ρ.I 8)) := hM_3.a8
    refine lv_aload_n hx hb d_Mo_at_22 rfl (lv_at hl 0 rfl) ?_
    refine gf_Mo_100 hx hb hW hown hG hV hm_4 d_Mo_at_23 ?_
    refine lv_if_eq (tgt := 31) hx hb d_Mo_at_26 (by decide) (fun q => absurd q (by decide)) (fun _ => ?_)
    refine lv_iconst (v := 0) hx hb d_Mo_at_29 (by decide) ?_
    try simp only [bI_ne0, bI_eq0, decide_eq_true_eq, decide_eq_false_iff_not, Bool.not_eq_false, Bool.not_eq_true, Decidable.not_not] at c_2
    have hfin : moAt ρ h wh = (0, (ρ.ws 0 1)) := by first | (simp only [moAt, moAtV, c_2, decide_true, decide_false, Bool.true_and, Bool.and_true, Bool.false_and, Bool.and_false, Bool.true_or, Bool.or_true, Bool.false_or, Bool.or_false, Bool.not_true, Bool.not_false, if_true, if_false, Bool.false_eq_true, Bool.true_eq_false, reduceIte, eq_self]; done) | (simp [moAt, moAtV, c_2]; done) | (simp_all [moAt, moAtV]; done)
    exact W.iret (v := 0) hx hb hr (fun t9 ht hW => ⟨⟨0, V_3, rfl, ⟨by rw [hfin]; exact hM_3, hR_3, by rw [hfin]⟩, mB_of ht hV⟩, hS.F ht⟩) hS.2.2 d_Mo_at_30
  · have c_2 := i_le c_2
    refine lv_iload_n hx hb d_Mo_at_5 rfl (lv_at hl 2 rfl) ?_
    refine lv_iconst (v := 5) hx hb d_Mo_at_6 (by decide) ?_
    refine lv_icmp_le (tgt := 14) hx hb d_Mo_at_7 (by decide) (fun c_5 => ?_) (fun c_5 => ?_)
    · refine lv_aload_n hx hb d_Mo_at_14 rfl (lv_at hl 0 rfl) ?_
      refine lv_iload_n hx hb d_Mo_at_15 rfl (lv_at hl 1 rfl) ?_
      refine rc_i (va_runV (As := [.int h]) (rest := [.ref mo]) ⟨hx, hb, hml, hown, hts⟩ (c_Mo_thingFault l D N0 k V mo ad ρ hM h) (cwV 1 hts (gi_V wm_Mo_195 wv_Mo_thingFault ws_Mo_thingFault wi_Mo wc_Mo_thingFault) rfl rfl rfl (by decide +kernel) ⟨Nat.le_of_ble_eq_true rfl, Nat.le_of_ble_eq_true rfl⟩) (mP.preV hG hS hV hm_1 rfl) rfl rfl hl.1 rfl (lv_room (Nat.le_of_ble_eq_true rfl)) d_Mo_at_16 ⟨Nat.le_of_ble_eq_true rfl, Nat.le_of_ble_eq_true rfl⟩) hS (fun H locs hV hS => ?_)
      refine W.eq (g2 := F0 m 19 ls [.int (moTF (ρ.I 0) h), .ref mo]) rfl ?_
      refine lv_topi (fun f_6 ef_6 => ?_)
      refine pf_Mo_100 hx hb hW hown hG hV hS hm_1 d_Mo_at_19 (fun H locs hV hS => ?_)
      replace hV : hv D vwCl N0 (hu V mo (.inr (7, [.int f_6, .int (ρ.s 1), .int (ρ.s 2), .int (ρ.s 3), .ref (ad 0), .ref (ad 1), .ref (ad 2), .ref (ad 3), .ref (ad 4), .ref (ad 5), .ref (ad 6), .ref (ad 7), .ref (ad 8), .int (ρ.s 4), .ref (ad 9), .ref (ad 10), .ref (ad 11), .ref (ad 12), .ref (ad 13), .ref (ad 14), .ref (ad 15), .ref (ad 16), .ref (ad 17), .ref (ad 18), .ref (ad 19), .ref (ad 20), .ref (ad 21), .ref (ad 22), .ref (ad 23), .ref (ad 24), .ref (ad 25)]))) H := hV
      generalize hV_V_7 : hu V mo (.inr (7, [.int f_6, .int (ρ.s 1), .int (ρ.s 2), .int (ρ.s 3), .ref (ad 0), .ref (ad 1), .ref (ad 2), .ref (ad 3), .ref (ad 4), .ref (ad 5), .ref (ad 6), .ref (ad 7), .ref (ad 8), .int (ρ.s 4), .ref (ad 9), .ref (ad 10), .ref (ad 11), .ref (ad 12), .ref (ad 13), .ref (ad 14), .ref (ad 15), .ref (ad 16), .ref (ad 17), .ref (ad 18), .ref (ad 19), .ref (ad 20), .ref (ad 21), .ref (ad 22), .ref (ad 23), .ref (ad 24), .ref (ad 25)])) = V_7 at hV
      have hM_7 : mdOk k V_7 mo ad (ρ.ws 0 f_6) := by rw [← hV_V_7]; exact md_put hM 0 f_6
      have hR_7 : mdFr mo ad V V_7 := by rw [← hV_V_7]; exact (mdFr.rf (mo := mo) (ad := ad) (V := V)).m
      have hm_8 : V_7 mo = some (.inr (7, [.int f_6, .int (ρ.s 1), .int (ρ.s 2), .int (ρ.s 3), .ref (ad 0), .ref (ad 1), .ref (ad 2), .ref (ad 3), .ref (ad 4), .ref (ad 5), .ref (ad 6), .ref (ad 7), .ref (ad 8), .int (ρ.s 4), .ref (ad 9), .ref (ad 10), .ref (ad 11), .ref (ad 12), .ref (ad 13), .ref (ad 14), .ref (ad 15), .ref (ad 16), .ref (ad 17), .ref (ad 18), .ref (ad 19), .ref (ad 20), .ref (ad 21), .ref (ad 22), .ref (ad 23), .ref (ad 24), .ref (ad 25)])) := hM_7.1
      have hm_8_1 : V_7 (ad 1) = some (eZ k 150 (ρ.I 1)) := hM_7.a1
      have hm_8_2 : V_7 (ad 2) = some (eI k 150 (ρ.I 2)) := hM_7.a2
      have hm_8_3 : V_7 (ad 3) = some (eI k 150 (ρ.I 3)) := hM_7.a3
      have hm_8_6 : V_7 (ad 6) = some (eI k 150 (ρ.I 6)) := hM_7.a6
      have hm_8_7 : V_7 (ad 7) = some (eI k 150 (ρ.I 7)) := hM_7.a7
      have hm_8_8 : V_7 (ad 8) = some (eI k 150 (ρ.I 8)) := hM_7.a8
      refine lv_aload_n hx hb d_Mo_at_22 rfl (lv_at hl 0 rfl) ?_
      refine gf_Mo_100 hx hb hW hown hG hV hm_8 d_Mo_at_23 ?_
      refine lv_if_eq (tgt := 31) hx hb d_Mo_at_26 (by decide) (fun c_9 => ?_) (fun c_9 => ?_)
      · refine lv_iload_n hx hb d_Mo_at_31 rfl (lv_at hl 1 rfl) ?_
        refine rc_i (va_runS (As := [.int h]) (rest := []) ⟨hx, hb, hml, hown, hts⟩ (c_Mo_indexOf l D N0 k V_7 h) (va_cwS 1 hts (gi_S wm_Mo_198 wt_Mo_indexOf wi_Mo wc_Mo_indexOf) rfl rfl rfl (by decide +kernel) ⟨Nat.le_of_ble_eq_true rfl, Nat.le_of_ble_eq_true rfl⟩) (mP.preS hG hS hV) rfl rfl hl.1 rfl (lv_room (Nat.le_of_ble_eq_true rfl)) d_Mo_at_32 ⟨Nat.le_of_ble_eq_true rfl, Nat.le_of_ble_eq_true rfl⟩) hS (fun H locs hV hS => ?_)
        obtain ⟨eix, hi150, hk2, hk5⟩ := moIdx_n hGm (ef_6.symm.trans c_9)
        rw [eix]
        refine W.eq (g2 := F0 m 35 ls [.int (nI (hdI h))]) rfl ?_
        refine lv_istore_n (lv' := [(3, .int (nI (hdI h))), (0, .ref mo), (1, .int h), (2, .int wh)]) hx hb d_Mo_at_35 rfl hl (by decide) rfl (fun ls hl => ?_)
        refine lv_iload_n hx hb d_Mo_at_36 rfl (lv_at hl 3 rfl) ?_
        by_cases k_10 : wh = (0 : Int32)
        · refine lv_tableIn (x := wh) (off := 35) (tgt := 72) hx hb d_Mo_at_37 (by rw [k_10]; decide +kernel) (by rw [k_10]; decide +kernel) (by rw [k_10]; decide +kernel) (by decide) ?_
          refine lv_aload_n hx hb d_Mo_at_72 rfl (lv_at hl 1 rfl) ?_
          refine gf_Mo_13 hx hb hW hown hG hV hm_8 d_Mo_at_73 ?_
          refine lv_iload_n hx hb d_Mo_at_76 rfl (lv_at hl 0 rfl) ?_
          refine hv_zald hx hb hG.K hV 2 hm_8_1 rfl (vp_in_nI (by omega) (by omega)) d_Mo_at_77 ?_
          rw [nI_clamp (by omega)]
          refine lv_if_eq (tgt := 85) hx hb d_Mo_at_78 (by decide) (fun c_11 => ?_) (fun c_11 => ?_)
          · refine lv_iconst (v := 0) hx hb d_Mo_at_85 (by decide) ?_
            try simp only [bI_ne0, bI_eq0, decide_eq_true_eq, decide_eq_false_iff_not, Bool.not_eq_false, Bool.not_eq_true, Decidable.not_not] at c_2
            try simp only [bI_ne0, bI_eq0, decide_eq_true_eq, decide_eq_false_iff_not, Bool.not_eq_false, Bool.not_eq_true, Decidable.not_not] at c_5
            try simp only [bI_ne0, bI_eq0, decide_eq_true_eq, decide_eq_false_iff_not, Bool.not_eq_false, Bool.not_eq_true, Decidable.not_not] at c_9
            try simp only [bI_ne0, bI_eq0, decide_eq_true_eq, decide_eq_false_iff_not, Bool.not_eq_false, Bool.not_eq_true, Decidable.not_not] at k_10
            try simp only [bI_ne0, bI_eq0, decide_eq_true_eq, decide_eq_false_iff_not, Bool.not_eq_false, Bool.not_eq_true, Decidable.not_not] at c_11
            subst ef_6
            have hfin : moAt ρ h wh = (0, (ρ.ws 0 (moTF (ρ.I 0) h))) := by first | (simp only [moAt, moAtV, c_2, c_5, c_9, k_10, c_11, decide_true, decide_false, Bool.true_and, Bool.and_true, Bool.false_and, Bool.and_false, Bool.true_or, Bool.or_true, Bool.false_or, Bool.or_false, Bool.not_true, Bool.not_false, if_true, if_false, Bool.false_eq_true, Bool.true_eq_false, reduceIte, eq_self]; done) | (simp [moAt, moAtV, c_2, c_5, c_9, k_10, c_11]; done) | (simp_all [moAt, moAtV]; done)
            exact W.iret (v := 0) hx hb hr (fun t9 ht hW => ⟨⟨0, V_7, rfl, ⟨by rw [hfin]; exact hM_7, hR_7, by rw [hfin]⟩, mB_of ht hV⟩, hS.F ht⟩) hS.2.2 d_Mo_at_86
          · refine lv_iconst (v := 1) hx hb d_Mo_at_81 (by decide) ?_
            refine lv_goto (tgt := 86) hx hb d_Mo_at_82 (by decide) ?_
            try simp only [bI_ne0, bI_eq0, decide_eq_true_eq, decide_eq_false_iff_not, Bool.not_eq_false, Bool.not_eq_true, Decidable.not_not] at c_2
            try simp only [bI_ne0, bI_eq0, decide_eq_true_eq, decide_eq_false_iff_not, Bool.not_eq_false, Bool.not_eq_true, Decidable.not_not] at c_5
            try simp only [bI_ne0, bI_eq0, decide_eq_true_eq, decide_eq_false_iff_not, Bool.not_eq_false, Bool.not_eq_true, Decidable.not_not] at c_9
            try simp only [bI_ne0, bI_eq0, decide_eq_true_eq, decide_eq_false_iff_not, Bool.not_eq_false, Bool.not_eq_true, Decidable.not_not] at k_10
            try simp only [bI_ne0, bI_eq0, decide_eq_true_eq, decide_eq_false_iff_not, Bool.not_eq_false, Bool.not_eq_true, Decidable.not_not] at c_11
            subst ef_6
            have hfin : moAt ρ h wh = (1, (ρ.ws 0 (moTF (ρ.I 0) h))) := by first | (simp only [moAt, moAtV, c_2, c_5, c_9, k_10, c_11, decide_true, decide_false, Bool.true_and, Bool.and_true, Bool.false_and, Bool.and_false, Bool.true_or, Bool.or_true, Bool.false_or, Bool.or_false, Bool.not_true, Bool.not_false, if_true, if_false, Bool.false_eq_true, Bool.true_eq_false, reduceIte, eq_self]; done) | (simp [moAt, moAtV, c_2, c_5, c_9, k_10, c_11]; done) | (simp_all [moAt, moAtV]; done)
            exact W.iret (v := 1) hx hb hr (fun t9 ht hW => ⟨⟨1, V_7, rfl, ⟨by rw [hfin]; exact hM_7, hR_7, by rw [hfin]⟩, mB_of ht hV⟩, hS.F ht⟩) hS.2.2 d_Mo_at_86
        by_cases k_12 : wh = (1 : Int32)
        · refine lv_tableIn (x := wh) (off := 50) (tgt := 87) hx hb d_Mo_at_37 (by rw [k_12]; decide +kernel) (by rw [k_12]; decide +kernel) (by rw [k_12]; decide +kernel) (by decide) ?_
          refine lv_aload_n hx hb d_Mo_at_87 rfl (lv_at hl 1 rfl) ?_
          refine gf_Mo_17 hx hb hW hown hG hV hm_8 d_Mo_at_88 ?_
          refine lv_iload_n hx hb d_Mo_at_91 rfl (lv_at hl 0 rfl) ?_
          refine hv_iald hx hb hG.K hV 0 hm_8_2 rfl (vp_in_nI (by omega) (by omega)) d_Mo_at_92 ?_
          rw [nI_clamp (by omega)]
          try simp only [bI_ne0, bI_eq0, decide_eq_true_eq, decide_eq_false_iff_not, Bool.not_eq_false, Bool.not_eq_true, Decidable.not_not] at c_2
          try simp only [bI_ne0, bI_eq0, decide_eq_true_eq, decide_eq_false_iff_not, Bool.not_eq_false, Bool.not_eq_true, Decidable.not_not] at c_5
          try simp only [bI_ne0, bI_eq0, decide_eq_true_eq, decide_eq_false_iff_not, Bool.not_eq_false, Bool.not_eq_true, Decidable.not_not] at c_9
          try simp only [bI_ne0, bI_eq0, decide_eq_true_eq, decide_eq_false_iff_not, Bool.not_eq_false, Bool.not_eq_true, Decidable.not_not] at k_10
          try simp only [bI_ne0, bI_eq0, decide_eq_true_eq, decide_eq_false_iff_not, Bool.not_eq_false, Bool.not_eq_true, Decidable.not_not] at k_12
          subst ef_6
          have hfin : moAt ρ h wh = (((ρ.I 2) (hdI h)), (ρ.ws 0 (moTF (ρ.I 0) h))) := by first | (simp only [moAt, moAtV, c_2, c_5, c_9, k_10, k_12, decide_true, decide_false, Bool.true_and, Bool.and_true, Bool.false_and, Bool.and_false, Bool.true_or, Bool.or_true, Bool.false_or, Bool.or_false, Bool.not_true, Bool.not_false, if_true, if_false, Bool.false_eq_true, Bool.true_eq_false, reduceIte, eq_self]; done) | (simp [moAt, moAtV, c_2, c_5, c_9, k_10, k_12]; done) | (simp_all [moAt, moAtV]; done)
          exact W.iret (v := ((ρ.I 2) (hdI h))) hx hb hr (fun t9 ht hW => ⟨⟨((ρ.I 2) (hdI h)), V_7, rfl, ⟨by rw [hfin]; exact hM_7, hR_7, by rw [hfin]⟩, mB_of ht hV⟩, hS.F ht⟩) hS.2.2 d_Mo_at_93
        by_cases k_13 : wh = (2 : Int32)
        · refine lv_tableIn (x := wh) (off := 57) (tgt := 94) hx hb d_Mo_at_37 (by rw [k_13]; decide +kernel) (by rw [k_13]; decide +kernel) (by rw [k_13]; decide +kernel) (by decide) ?_
          refine lv_aload_n hx hb d_Mo_at_94 rfl (lv_at hl 1 rfl) ?_
          refine gf_Mo_20 hx hb hW hown hG hV hm_8 d_Mo_at_95 ?_
          refine lv_iload_n hx hb d_Mo_at_98 rfl (lv_at hl 0 rfl) ?_
          refine hv_iald hx hb hG.K hV 0 hm_8_3 rfl (vp_in_nI (by omega) (by omega)) d_Mo_at_99 ?_
          rw [nI_clamp (by omega)]
          try simp only [bI_ne0, bI_eq0, decide_eq_true_eq, decide_eq_false_iff_not, Bool.not_eq_false, Bool.not_eq_true, Decidable.not_not] at c_2
          try simp only [bI_ne0, bI_eq0, decide_eq_true_eq, decide_eq_false_iff_not, Bool.not_eq_false, Bool.not_eq_true, Decidable.not_not] at c_5
          try simp only [bI_ne0, bI_eq0, decide_eq_true_eq, decide_eq_false_iff_not, Bool.not_eq_false, Bool.not_eq_true, Decidable.not_not] at c_9
          try simp only [bI_ne0, bI_eq0, decide_eq_true_eq, decide_eq_false_iff_not, Bool.not_eq_false, Bool.not_eq_true, Decidable.not_not] at k_10
          try simp only [bI_ne0, bI_eq0, decide_eq_true_eq, decide_eq_false_iff_not, Bool.not_eq_false, Bool.not_eq_true, Decidable.not_not] at k_12
          try simp only [bI_ne0, bI_eq0, decide_eq_true_eq, decide_eq_false_iff_not, Bool.not_eq_false, Bool.not_eq_true, Decidable.not_not] at k_13
          subst ef_6
          have hfin : moAt ρ h wh = (((ρ.I 3) (hdI h)), (ρ.ws 0 (moTF (ρ.I 0) h))) := by first | (simp only [moAt, moAtV, c_2, c_5, c_9, k_10, k_12, k_13, decide_true, decide_false, Bool.true_and, Bool.and_true, Bool.false_and, Bool.and_false, Bool.true_or, Bool.or_true, Bool.false_or, Bool.or_false, Bool.not_true, Bool.not_false, if_true, if_false, Bool.false_eq_true, Bool.true_eq_false, reduceIte, eq_self]; done) | (simp [moAt, moAtV, c_2, c_5, c_9, k_10, k_12, k_13]; done) | (simp_all [moAt, moAtV]; done)
          exact W.iret (v := ((ρ.I 3) (hdI h))) hx hb hr (fun t9 ht hW => ⟨⟨((ρ.I 3) (hdI h)), V_7, rfl, ⟨by rw [hfin]; exact hM_7, hR_7, by rw [hfin]⟩, mB_of ht hV⟩, hS.F ht⟩) hS.2.2 d_Mo_at_100
        by_cases k_14 : wh = (3 : Int32)
        · refine lv_tableIn (x := wh) (off := 64) (tgt := 101) hx hb d_Mo_at_37 (by rw [k_14]; decide +kernel) (by rw [k_14]; decide +kernel) (by rw [k_14]; decide +kernel) (by decide) ?_
          refine lv_aload_n hx hb d_Mo_at_101 rfl (lv_at hl 1 rfl) ?_
          refine gf_Mo_29 hx hb hW hown hG hV hm_8 d_Mo_at_102 ?_
          refine lv_iload_n hx hb d_Mo_at_105 rfl (lv_at hl 0 rfl) ?_
          refine hv_iald hx hb hG.K hV 0 hm_8_6 rfl (vp_in_nI (by omega) (by omega)) d_Mo_at_106 ?_
          rw [nI_clamp (by omega)]
          try simp only [bI_ne0, bI_eq0, decide_eq_true_eq, decide_eq_false_iff_not, Bool.not_eq_false, Bool.not_eq_true, Decidable.not_not] at c_2
          try simp only [bI_ne0, bI_eq0, decide_eq_true_eq, decide_eq_false_iff_not, Bool.not_eq_false, Bool.not_eq_true, Decidable.not_not] at c_5
          try simp only [bI_ne0, bI_eq0, decide_eq_true_eq, decide_eq_false_iff_not, Bool.not_eq_false, Bool.not_eq_true, Decidable.not_not] at c_9
          try simp only [bI_ne0, bI_eq0, decide_eq_true_eq, decide_eq_false_iff_not, Bool.not_eq_false, Bool.not_eq_true, Decidable.not_not] at k_10
          try simp only [bI_ne0, bI_eq0, decide_eq_true_eq, decide_eq_false_iff_not, Bool.not_eq_false, Bool.not_eq_true, Decidable.not_not] at k_12
          try simp only [bI_ne0, bI_eq0, decide_eq_true_eq, decide_eq_false_iff_not, Bool.not_eq_false, Bool.not_eq_true, Decidable.not_not] at k_13
          try simp only [bI_ne0, bI_eq0, decide_eq_true_eq, decide_eq_false_iff_not, Bool.not_eq_false, Bool.not_eq_true, Decidable.not_not] at k_14
          subst ef_6
          have hfin : moAt ρ h wh = (((ρ.I 6) (hdI h)), (ρ.ws 0 (moTF (ρ.I 0) h))) := by first | (simp only [moAt, moAtV, c_2, c_5, c_9, k_10, k_12, k_13, k_14, decide_true, decide_false, Bool.true_and, Bool.and_true, Bool.false_and, Bool.and_false, Bool.true_or, Bool.or_true, Bool.false_or, Bool.or_false, Bool.not_true, Bool.not_false, if_true, if_false, Bool.false_eq_true, Bool.true_eq_false, reduceIte, eq_self]; done) | (simp [moAt, moAtV, c_2, c_5, c_9, k_10, k_12, k_13, k_14]; done) | (simp_all [moAt, moAtV]; done)
          exact W.iret (v := ((ρ.I 6) (hdI h))) hx hb hr (fun t9 ht hW => ⟨⟨((ρ.I 6) (hdI h)), V_7, rfl, ⟨by rw [hfin]; exact hM_7, hR_7, by rw [hfin]⟩, mB_of ht hV⟩, hS.F ht⟩) hS.2.2 d_Mo_at_107
        by_cases k_15 : wh = (4 : Int32)
        · refine lv_tableIn (x := wh) (off := 71) (tgt := 108) hx hb d_Mo_at_37 (by rw [k_15]; decide +kernel) (by rw [k_15]; decide +kernel) (by rw [k_15]; decide +kernel) (by decide) ?_
          refine lv_aload_n hx hb d_Mo_at_108 rfl (lv_at hl 1 rfl) ?_
          refine gf_Mo_32 hx hb hW hown hG hV hm_8 d_Mo_at_109 ?_
          refine lv_iload_n hx hb d_Mo_at_112 rfl (lv_at hl 0 rfl) ?_
          refine hv_iald hx hb hG.K hV 0 hm_8_7 rfl (vp_in_nI (by omega) (by omega)) d_Mo_at_113 ?_
          rw [nI_clamp (by omega)]
          refine lv_iconst (v := (-1)) hx hb d_Mo_at_114 (by decide) ?_
          refine lv_icmp_ne (tgt := 122) hx hb d_Mo_at_115 (by decide) (fun c_16 => ?_) (fun c_16 => ?_)
          · refine lv_sipush (v := 1000) hx hb d_Mo_at_122 (by decide) ?_
            refine lv_aload_n hx hb d_Mo_at_125 rfl (lv_at hl 1 rfl) ?_
            refine gf_Mo_32 hx hb hW hown hG hV hm_8 d_Mo_at_126 ?_
            refine lv_iload_n hx hb d_Mo_at_129 rfl (lv_at hl 0 rfl) ?_
            refine hv_iald hx hb hG.K hV 0 hm_8_7 rfl (vp_in_nI (by omega) (by omega)) d_Mo_at_130 ?_
            rw [nI_clamp (by omega)]
            refine lv_iadd hx hb d_Mo_at_131 ?_
            try simp only [bI_ne0, bI_eq0, decide_eq_true_eq, decide_eq_false_iff_not, Bool.not_eq_false, Bool.not_eq_true, Decidable.not_not] at c_2
            try simp only [bI_ne0, bI_eq0, decide_eq_true_eq, decide_eq_false_iff_not, Bool.not_eq_false, Bool.not_eq_true, Decidable.not_not] at c_5
            try simp only [bI_ne0, bI_eq0, decide_eq_true_eq, decide_eq_false_iff_not, Bool.not_eq_false, Bool.not_eq_true, Decidable.not_not] at c_9
            try simp only [bI_ne0, bI_eq0, decide_eq_true_eq, decide_eq_false_iff_not, Bool.not_eq_false, Bool.not_eq_true, Decidable.not_not] at k_10
            try simp only [bI_ne0, bI_eq0, decide_eq_true_eq, decide_eq_false_iff_not, Bool.not_eq_false, Bool.not_eq_true, Decidable.not_not] at k_12
            try simp only [bI_ne0, bI_eq0, decide_eq_true_eq, decide_eq_false_iff_not, Bool.not_eq_false, Bool.not_eq_true, Decidable.not_not] at k_13
            try simp only [bI_ne0, bI_eq0, decide_eq_true_eq, decide_eq_false_iff_not, Bool.not_eq_false, Bool.not_eq_true, Decidable.not_not] at k_14
            try simp only [bI_ne0, bI_eq0, decide_eq_true_eq, decide_eq_false_iff_not, Bool.not_eq_false, Bool.not_eq_true, Decidable.not_not] at k_15
            try simp only [bI_ne0, bI_eq0, decide_eq_true_eq, decide_eq_false_iff_not, Bool.not_eq_false, Bool.not_eq_true, Decidable.not_not] at c_16
            subst ef_6
            have hfin : moAt ρ h wh = ((1000 + ((ρ.I 7) (hdI h))), (ρ.ws 0 (moTF (ρ.I 0) h))) := by first | (simp only [moAt, moAtV, c_2, c_5, c_9, k_10, k_12, k_13, k_14, k_15, c_16, decide_true, decide_false, Bool.true_and, Bool.and_true, Bool.false_and, Bool.and_false, Bool.true_or, Bool.or_true, Bool.false_or, Bool.or_false, Bool.not_true, Bool.not_false, if_true, if_false, Bool.false_eq_true, Bool.true_eq_false, reduceIte, eq_self]; done) | (simp [moAt, moAtV, c_2, c_5, c_9, k_10, k_12, k_13, k_14, k_15, c_16]; done) | (simp_all [moAt, moAtV]; done)
            exact W.iret (v := (1000 + ((ρ.I 7) (hdI h)))) hx hb hr (fun t9 ht hW => ⟨⟨(1000 + ((ρ.I 7) (hdI h))), V_7, rfl, ⟨by rw [hfin]; exact hM_7, hR_7, by rw [hfin]⟩, mB_of ht hV⟩, hS.F ht⟩) hS.2.2 d_Mo_at_132
          · refine lv_iconst (v := (-1)) hx hb d_Mo_at_118 (by decide) ?_
            refine lv_goto (tgt := 132) hx hb d_Mo_at_119 (by decide) ?_
            try simp only [bI_ne0, bI_eq0, decide_eq_true_eq, decide_eq_false_iff_not, Bool.not_eq_false, Bool.not_eq_true, Decidable.not_not] at c_2
            try simp only [bI_ne0, bI_eq0, decide_eq_true_eq, decide_eq_false_iff_not, Bool.not_eq_false, Bool.not_eq_true, Decidable.not_not] at c_5
            try simp only [bI_ne0, bI_eq0, decide_eq_true_eq, decide_eq_false_iff_not, Bool.not_eq_false, Bool.not_eq_true, Decidable.not_not] at c_9
            try simp only [bI_ne0, bI_eq0, decide_eq_true_eq, decide_eq_false_iff_not, Bool.not_eq_false, Bool.not_eq_true, Decidable.not_not] at k_10
            try simp only [bI_ne0, bI_eq0, decide_eq_true_eq, decide_eq_false_iff_not, Bool.not_eq_false, Bool.not_eq_true, Decidable.not_not] at k_12
            try simp only [bI_ne0, bI_eq0, decide_eq_true_eq, decide_eq_false_iff_not, Bool.not_eq_false, Bool.not_eq_true, Decidable.not_not] at k_13
            try simp only [bI_ne0, bI_eq0, decide_eq_true_eq, decide_eq_false_iff_not, Bool.not_eq_false, Bool.not_eq_true, Decidable.not_not] at k_14
            try simp only [bI_ne0, bI_eq0, decide_eq_true_eq, decide_eq_false_iff_not, Bool.not_eq_false, Bool.not_eq_true, Decidable.not_not] at k_15
            try simp only [bI_ne0, bI_eq0, decide_eq_true_eq, decide_eq_false_iff_not, Bool.not_eq_false, Bool.not_eq_true, Decidable.not_not] at c_16
            subst ef_6
            have hfin : moAt ρ h wh = ((-1), (ρ.ws 0 (moTF (ρ.I 0) h))) := by first | (simp only [moAt, moAtV, c_2, c_5, c_9, k_10, k_12, k_13, k_14, k_15, c_16, decide_true, decide_false, Bool.true_and, Bool.and_true, Bool.false_and, Bool.and_false, Bool.true_or, Bool.or_true, Bool.false_or, Bool.or_false, Bool.not_true, Bool.not_false, if_true, if_false, Bool.false_eq_true, Bool.true_eq_false, reduceIte, eq_self]; done) | (simp [moAt, moAtV, c_2, c_5, c_9, k_10, k_12, k_13, k_14, k_15, c_16]; done) | (simp_all [moAt, moAtV]; done)
            exact W.iret (v := (-1)) hx hb hr (fun t9 ht hW => ⟨⟨(-1), V_7, rfl, ⟨by rw [hfin]; exact hM_7, hR_7, by rw [hfin]⟩, mB_of ht hV⟩, hS.F ht⟩) hS.2.2 d_Mo_at_132
        refine lv_tableOut (x := wh) (tgt := 133) hx hb d_Mo_at_37 (by have qk_10 := lv_neT (a := 0) k_10 (by decide); have qk_12 := lv_neT (a := 1) k_12 (by decide); have qk_13 := lv_neT (a := 2) k_13 (by decide); have qk_14 := lv_neT (a := 3) k_14 (by decide); have qk_15 := lv_neT (a := 4) k_15 (by decide); omega) (by decide) ?_
        refine lv_aload_n hx hb d_Mo_at_133 rfl (lv_at hl 1 rfl) ?_
        refine gf_Mo_35 hx hb hW hown hG hV hm_8 d_Mo_at_134 ?_
        refine lv_iload_n hx hb d_Mo_at_137 rfl (lv_at hl 0 rfl) ?_
        refine hv_iald hx hb hG.K hV 0 hm_8_8 rfl (vp_in_nI (by omega) (by omega)) d_Mo_at_138 ?_
        rw [nI_clamp (by omega)]
        refine lv_iconst (v := (-1)) hx hb d_Mo_at_139 (by decide) ?_
        refine lv_icmp_ne (tgt := 147) hx hb d_Mo_at_140 (by decide) (fun c_17 => ?_) (fun c_17 => ?_)
        · refine lv_sipush (v := 2000) hx hb d_Mo_at_147 (by decide) ?_
          refine lv_aload_n hx hb d_Mo_at_150 rfl (lv_at hl 1 rfl) ?_
          refine gf_Mo_35 hx hb hW hown hG hV hm_8 d_Mo_at_151 ?_
          refine lv_iload_n hx hb d_Mo_at_154 rfl (lv_at hl 0 rfl) ?_
          refine hv_iald hx hb hG.K hV 0 hm_8_8 rfl (vp_in_nI (by omega) (by omega)) d_Mo_at_155 ?_
          rw [nI_clamp (by omega)]
          refine lv_iadd hx hb d_Mo_at_156 ?_
          try simp only [bI_ne0, bI_eq0, decide_eq_true_eq, decide_eq_false_iff_not, Bool.not_eq_false, Bool.not_eq_true, Decidable.not_not] at c_2
          try simp only [bI_ne0, bI_eq0, decide_eq_true_eq, decide_eq_false_iff_not, Bool.not_eq_false, Bool.not_eq_true, Decidable.not_not] at c_5
          try simp only [bI_ne0, bI_eq0, decide_eq_true_eq, decide_eq_false_iff_not, Bool.not_eq_false, Bool.not_eq_true, Decidable.not_not] at c_9
          try simp only [bI_ne0, bI_eq0, decide_eq_true_eq, decide_eq_false_iff_not, Bool.not_eq_false, Bool.not_eq_true, Decidable.not_not] at k_10
          try simp only [bI_ne0, bI_eq0, decide_eq_true_eq, decide_eq_false_iff_not, Bool.not_eq_false, Bool.not_eq_true, Decidable.not_not] at k_12
          try simp only [bI_ne0, bI_eq0, decide_eq_true_eq, decide_eq_false_iff_not, Bool.not_eq_false, Bool.not_eq_true, Decidable.not_not] at k_13
          try simp only [bI_ne0, bI_eq0, decide_eq_true_eq, decide_eq_false_iff_not, Bool.not_eq_false, Bool.not_eq_true, Decidable.not_not] at k_14
          try simp only [bI_ne0, bI_eq0, decide_eq_true_eq, decide_eq_false_iff_not, Bool.not_eq_false, Bool.not_eq_true, Decidable.not_not] at k_15
          try simp only [bI_ne0, bI_eq0, decide_eq_true_eq, decide_eq_false_iff_not, Bool.not_eq_false, Bool.not_eq_true, Decidable.not_not] at c_17
          subst ef_6
          have hfin : moAt ρ h wh = ((2000 + ((ρ.I 8) (hdI h))), (ρ.ws 0 (moTF (ρ.I 0) h))) := by first | (simp only [moAt, moAtV, c_2, c_5, c_9, k_10, k_12, k_13, k_14, k_15, c_17, decide_true, decide_false, Bool.true_and, Bool.and_true, Bool.false_and, Bool.and_false, Bool.true_or, Bool.or_true, Bool.false_or, Bool.or_false, Bool.not_true, Bool.not_false, if_true, if_false, Bool.false_eq_true, Bool.true_eq_false, reduceIte, eq_self]; done) | (simp [moAt, moAtV, c_2, c_5, c_9, k_10, k_12, k_13, k_14, k_15, c_17]; done) | (simp_all [moAt, moAtV]; done)
          exact W.iret (v := (2000 + ((ρ.I 8) (hdI h)))) hx hb hr (fun t9 ht hW => ⟨⟨(2000 + ((ρ.I 8) (hdI h))), V_7, rfl, ⟨by rw [hfin]; exact hM_7, hR_7, by rw [hfin]⟩, mB_of ht hV⟩, hS.F ht⟩) hS.2.2 d_Mo_at_157
        · refine lv_iconst (v := (-1)) hx hb d_Mo_at_143 (by decide) ?_
          refine lv_goto (tgt := 157) hx hb d_Mo_at_144 (by decide) ?_
          try simp only [bI_ne0, bI_eq0, decide_eq_true_eq, decide_eq_false_iff_not, Bool.not_eq_false, Bool.not_eq_true, Decidable.not_not] at c_2
          try simp only [bI_ne0, bI_eq0, decide_eq_true_eq, decide_eq_false_iff_not, Bool.not_eq_false, Bool.not_eq_true, Decidable.not_not] at c_5
          try simp only [bI_ne0, bI_eq0, decide_eq_true_eq, decide_eq_false_iff_not, Bool.not_eq_false, Bool.not_eq_true, Decidable.not_not] at c_9
          try simp only [bI_ne0, bI_eq0, decide_eq_true_eq, decide_eq_false_iff_not, Bool.not_eq_false, Bool.not_eq_true, Decidable.not_not] at k_10
          try simp only [bI_ne0, bI_eq0, decide_eq_true_eq, decide_eq_false_iff_not, Bool.not_eq_false, Bool.not_eq_true, Decidable.not_not] at k_12
          try simp only [bI_ne0, bI_eq0, decide_eq_true_eq, decide_eq_false_iff_not, Bool.not_eq_false, Bool.not_eq_true, Decidable.not_not] at k_13
          try simp only [bI_ne0, bI_eq0, decide_eq_true_eq, decide_eq_false_iff_not, Bool.not_eq_false, Bool.not_eq_true, Decidable.not_not] at k_14
          try simp only [bI_ne0, bI_eq0, decide_eq_true_eq, decide_eq_false_iff_not, Bool.not_eq_false, Bool.not_eq_true, Decidable.not_not] at k_15
          try simp only [bI_ne0, bI_eq0, decide_eq_true_eq, decide_eq_false_iff_not, Bool.not_eq_false, Bool.not_eq_true, Decidable.not_not] at c_17
          subst ef_6
          have hfin : moAt ρ h wh = ((-1), (ρ.ws 0 (moTF (ρ.I 0) h))) := by first | (simp only [moAt, moAtV, c_2, c_5, c_9, k_10, k_12, k_13, k_14, k_15, c_17, decide_true, decide_false, Bool.true_and, Bool.and_true, Bool.false_and, Bool.and_false, Bool.true_or, Bool.or_true, Bool.false_or, Bool.or_false, Bool.not_true, Bool.not_false, if_true, if_false, Bool.false_eq_true, Bool.true_eq_false, reduceIte, eq_self]; done) | (simp [moAt, moAtV, c_2, c_5, c_9, k_10, k_12, k_13, k_14, k_15, c_17]; done) | (simp_all [moAt, moAtV]; done)
          exact W.iret (v := (-1)) hx hb hr (fun t9 ht hW => ⟨⟨(-1), V_7, rfl, ⟨by rw [hfin]; exact hM_7, hR_7, by rw [hfin]⟩, mB_of ht hV⟩, hS.F ht⟩) hS.2.2 d_Mo_at_157
      · refine lv_iconst (v := 0) hx hb d_Mo_at_29 (by decide) ?_
        try simp only [bI_ne0, bI_eq0, decide_eq_true_eq, decide_eq_false_iff_not, Bool.not_eq_false, Bool.not_eq_true, Decidable.not_not] at c_2
        try simp only [bI_ne0, bI_eq0, decide_eq_true_eq, decide_eq_false_iff_not, Bool.not_eq_false, Bool.not_eq_true, Decidable.not_not] at c_5
        try simp only [bI_ne0, bI_eq0, decide_eq_true_eq, decide_eq_false_iff_not, Bool.not_eq_false, Bool.not_eq_true, Decidable.not_not] at c_9
        subst ef_6
        have hfin : moAt ρ h wh = (0, (ρ.ws 0 (moTF (ρ.I 0) h))) := by first | (simp only [moAt, moAtV, c_2, c_5, c_9, decide_true, decide_false, Bool.true_and, Bool.and_true, Bool.false_and, Bool.and_false, Bool.true_or, Bool.or_true, Bool.false_or, Bool.or_false, Bool.not_true, Bool.not_false, if_true, if_false, Bool.false_eq_true, Bool.true_eq_false, reduceIte, eq_self]; done) | (simp [moAt, moAtV, c_2, c_5, c_9]; done) | (simp_all [moAt, moAtV]; done)
        exact W.iret (v := 0) hx hb hr (fun t9 ht hW => ⟨⟨0, V_7, rfl, ⟨by rw [hfin]; exact hM_7, hR_7, by rw [hfin]⟩, mB_of ht hV⟩, hS.F ht⟩) hS.2.2 d_Mo_at_30
    · refine lv_iconst (v := 1) hx hb d_Mo_at_10 (by decide) ?_
      refine lv_goto (tgt := 19) hx hb d_Mo_at_11 (by decide) ?_
      refine pf_Mo_100 hx hb hW hown hG hV hS hm_1 d_Mo_at_19 (fun H locs hV hS => ?_)
      replace hV : hv D vwCl N0 (hu V mo (.inr (7, [.int 1, .int (ρ.s 1), .int (ρ.s 2), .int (ρ.s 3), .ref (ad 0), .ref (ad 1), .ref (ad 2), .ref (ad 3), .ref (ad 4), .ref (ad 5), .ref (ad 6), .ref (ad 7), .ref (ad 8), .int (ρ.s 4), .ref (ad 9), .ref (ad 10), .ref (ad 11), .ref (ad 12), .ref (ad 13), .ref (ad 14), .ref (ad 15), .ref (ad 16), .ref (ad 17), .ref (ad 18), .ref (ad 19), .ref (ad 20), .ref (ad 21), .ref (ad 22), .ref (ad 23), .ref (ad 24), .ref (ad 25)]))) H := hV
      generalize hV_V_18 : hu V mo (.inr (7, [.int 1, .int (ρ.s 1), .int (ρ.s 2), .int (ρ.s 3), .ref (ad 0), .ref (ad 1), .ref (ad 2), .ref (ad 3), .ref (ad 4), .ref (ad 5), .ref (ad 6), .ref (ad 7), .ref (ad 8), .int (ρ.s 4), .ref (ad 9), .ref (ad 10), .ref (ad 11), .ref (ad 12), .ref (ad 13), .ref (ad 14), .ref (ad 15), .ref (ad 16), .ref (ad 17), .ref (ad 18), .ref (ad 19), .ref (ad 20), .ref (ad 21), .ref (ad 22), .ref (ad 23), .ref (ad 24), .ref (ad 25)])) = V_18 at hV
      have hM_18 : mdOk k V_18 mo ad (ρ.ws 0 1) := by rw [← hV_V_18]; exact md_put hM 0 1
      have hR_18 : mdFr mo ad V V_18 := by rw [← hV_V_18]; exact (mdFr.rf (mo := mo) (ad := ad) (V := V)).m
      have hm_19 : V_18 mo = some (.inr (7, [.int 1, .int (ρ.s 1), .int (ρ.s 2), .int (ρ.s 3), .ref (ad 0), .ref (ad 1), .ref (ad 2), .ref (ad 3), .ref (ad 4), .ref (ad 5), .ref (ad 6), .ref (ad 7), .ref (ad 8), .int (ρ.s 4), .ref (ad 9), .ref (ad 10), .ref (ad 11), .ref (ad 12), .ref (ad 13), .ref (ad 14), .ref (ad 15), .ref (ad 16), .ref (ad 17), .ref (ad 18), .ref (ad 19), .ref (ad 20), .ref (ad 21), .ref (ad 22), .ref (ad 23), .ref (ad 24), .ref (ad 25)])) := hM_18.1
      have hm_19_1 : V_18 (ad 1) = some (eZ k 150 (ρ.I 1)) := hM_18.a1
      have hm_19_2 : V_18 (ad 2) = some (eI k 150 (ρ.I 2)) := hM_18.a2
      have hm_19_3 : V_18 (ad 3) = some (eI k 150 (ρ.I 3)) := hM_18.a3
      have hm_19_6 : V_18 (ad 6) = some (eI k 150 (ρ.I 6)) := hM_18.a6
      have hm_19_7 : V_18 (ad 7) = some (eI k 150 (ρ.I 7)) := hM_18.a7
      have hm_19_8 : V_18 (ad 8) = some (eI k 150 (ρ.I 8)) := hM_18.a8
      refine lv_aload_n hx hb d_Mo_at_22 rfl (lv_at hl 0 rfl) ?_
      refine gf_Mo_100 hx hb hW hown hG hV hm_19 d_Mo_at_23 ?_
      refine lv_if_eq (tgt := 31) hx hb d_Mo_at_26 (by decide) (fun q => absurd q (by decide)) (fun _ => ?_)
      refine lv_iconst (v := 0) hx hb d_Mo_at_29 (by decide) ?_
      try simp only [bI_ne0, bI_eq0, decide_eq_true_eq, decide_eq_false_iff_not, Bool.not_eq_false, Bool.not_eq_true, Decidable.not_not] at c_2
      try simp only [bI_ne0, bI_eq0, decide_eq_true_eq, decide_eq_false_iff_not, Bool.not_eq_false, Bool.not_eq_true, Decidable.not_not] at c_5
      have hfin : moAt ρ h wh = (0, (ρ.ws 0 1)) := by first | (simp only [moAt, moAtV, c_2, c_5, decide_true, decide_false, Bool.true_and, Bool.and_true, Bool.false_and, Bool.and_false, Bool.true_or, Bool.or_true, Bool.false_or, Bool.or_false, Bool.not_true, Bool.not_false, if_true, if_false, Bool.false_eq_true, Bool.true_eq_false, reduceIte, eq_self]; done) | (simp [moAt, moAtV, c_2, c_5]; done) | (simp_all [moAt, moAtV]; done)
      exact W.iret (v := 0) hx hb hr (fun t9 ht hW => ⟨⟨0, V_18, rfl, ⟨by rw [hfin]; exact hM_18, hR_18, by rw [hfin]⟩, mB_of ht hV⟩, hS.F ht⟩) hS.2.2 d_Mo_at_30
set_option maxHeartbeats 4000000 in
set_option maxRecDepth 100000 in
/-- count -/
theorem c_Mo_count2 (l : Launch) (D : va_G) (N0 : Nat) (k : Nat → Nat) (V : HV) (mo : Nat) (ad : Nat → Nat) (ρ : MS) (hM : mdOk k V mo ad ρ) (K n0 : Nat) (hK2 : 2 ≤ K) (hK5 : K ≤ 5) (en0 : ρ.I 0 K = nI n0) (hn0le : n0 ≤ liN K) : Met l y_Mo_count2 (.code y_Mo_count2 b_Mo_count2 4 (some .int) :: WS) ({ frames := 1, cells := 0, slots := 0, locals := 20 }) (mP D N0 k [.ref mo, .int (nI K)] V) (va_Qi (fun r V' => mdOk k V' mo ad (ρ.ws 0 0) ∧ mdFr mo ad V V' ∧ r = nI (cntF (moThP ρ.I) (fiN K) n0)) (mB D N0) (hA N0)) 0 0 (hA N0) := by
  refine Met.ofW (cc := b_Mo_count2) (maxL := 4) (ret := (some .int)) (by decide) rfl ?_
  intro p e s m args below meth c s₁ B hml hv0
  obtain ⟨rfl, hG, hV⟩ := hv0
  have hx := B.exec
  have hb := B.bytes
  have hr := B.returns
  have hts := atoms_spec (ws := .code y_Mo_count2 b_Mo_count2 4 (some .int) :: WS) B.pre
  have hW : ∀ w ∈ WS, w.before _ s = true := fun w h => hts w (List.mem_cons_of_mem _ h)
  have hown : s.vm.findClass "BoardHouseModel" = some m.cls := findClass_of_methodNamed B.named
  have hlocks := B.notSynchronized
  have hS : va_S (hA N0) s.heap s.heap [] := va_S.rf
  have hl := lv_entry ([.ref mo, .int (nI K)]) (n := 4) (Nat.le_of_ble_eq_true rfl)
  rw [lg_entry_eq]
  generalize (lg_sl ([.ref mo, .int (nI K)]) ++ List.replicate (4 - (lg_sl ([.ref mo, .int (nI K)])).length) Slot.unset).toArray = ls at hl ⊢
  have hl : lv_has ls 4 [(0, .ref mo), (1, .int (nI K))] := hl
  have hm_1 : V mo = some (.inr (7, [.int (ρ.s 0), .int (ρ.s 1), .int (ρ.s 2), .int (ρ.s 3), .ref (ad 0), .ref (ad 1), .ref (ad 2), .ref (ad 3), .ref (ad 4), .ref (ad 5), .ref (ad 6), .ref (ad 7), .ref (ad 8), .int (ρ.s 4), .ref (ad 9), .ref (ad 10), .ref (ad 11), .ref (ad 12), .ref (ad 13), .ref (ad 14), .ref (ad 15), .ref (ad 16), .ref (ad 17), .ref (ad 18), .ref (ad 19), .ref (ad 20), .ref (ad 21), .ref (ad 22), .ref (ad 23), .ref (ad 24), .ref (ad 25)])) := hM.1
  have hm_1_0 : V (ad 0) = some (eI k 8 (ρ.I 0)) := hM.a0
  have hm_1_1 : V (ad 1) = some (eZ k 150 (ρ.I 1)) := hM.a1
  refine lv_aload_n hx hb d_Mo_count2_0 rfl (lv_at hl 0 rfl) ?_
  refine lv_iload_n hx hb d_Mo_count2_1 rfl (lv_at hl 1 rfl) ?_
  refine lv_iconst (v := 2) hx hb d_Mo_count2_2 (by decide) ?_
  refine lv_icmp_lt (tgt := 15) hx hb d_Mo_count2_3 (by decide) (fun c_2 => ?_) (fun c_2 => ?_)
  · have c_2 := i_nle c_2
    exact absurd (nI_le (a := 2) (b := K) (by omega) (by omega)) c_2
  · have c_2 := i_le c_2
    refine lv_iload_n hx hb d_Mo_count2_6 rfl (lv_at hl 1 rfl) ?_
    refine lv_iconst (v := 5) hx hb d_Mo_count2_7 (by decide) ?_
    refine lv_icmp_gt (tgt := 15) hx hb d_Mo_count2_8 (by decide) (fun c_3 => ?_) (fun c_3 => ?_)
    · have c_3 := i_nle c_3
      exact absurd (nI_le (a := K) (b := 5) (by omega) (by omega)) c_3
    · have c_3 := i_le c_3
      refine lv_iconst (v := 0) hx hb d_Mo_count2_11 (by decide) ?_
      refine lv_goto (tgt := 16) hx hb d_Mo_count2_12 (by decide) ?_
      refine pf_Mo_100 hx hb hW hown hG hV hS hm_1 d_Mo_count2_16 (fun H locs hV hS => ?_)
      replace hV : hv D vwCl N0 (hu V mo (.inr (7, [.int 0, .int (ρ.s 1), .int (ρ.s 2), .int (ρ.s 3), .ref (ad 0), .ref (ad 1), .ref (ad 2), .ref (ad 3), .ref (ad 4), .ref (ad 5), .ref (ad 6), .ref (ad 7), .ref (ad 8), .int (ρ.s 4), .ref (ad 9), .ref (ad 10), .ref (ad 11), .ref (ad 12), .ref (ad 13), .ref (ad 14), .ref (ad 15), .ref (ad 16), .ref (ad 17), .ref (ad 18), .ref (ad 19), .ref (ad 20), .ref (ad 21), .ref (ad 22), .ref (ad 23), .ref (ad 24), .ref (ad 25)]))) H := hV
      generalize hV_V_4 : hu V mo (.inr (7, [.int 0, .int (ρ.s 1), .int (ρ.s 2), .int (ρ.s 3), .ref (ad 0), .ref (ad 1), .ref (ad 2), .ref (ad 3), .ref (ad 4), .ref (ad 5), .ref (ad 6), .ref (ad 7), .ref (ad 8), .int (ρ.s 4), .ref (ad 9), .ref (ad 10), .ref (ad 11), .ref (ad 12), .ref (ad 13), .ref (ad 14), .ref (ad 15), .ref (ad 16), .ref (ad 17), .ref (ad 18), .ref (ad 19), .ref (ad 20), .ref (ad 21), .ref (ad 22), .ref (ad 23), .ref (ad 24), .ref (ad 25)])) = V_4 at hV
      have hM_4 : mdOk k V_4 mo ad (ρ.ws 0 0) := by rw [← hV_V_4]; exact md_put hM 0 0
      have hR_4 : mdFr mo ad V V_4 := by rw [← hV_V_4]; exact (mdFr.rf (mo := mo) (ad := ad) (V := V)).m
      have hm_5 : V_4 mo = some (.inr (7, [.int 0, .int (ρ.s 1), .int (ρ.s 2), .int (ρ.s 3), .ref (ad 0), .ref (ad 1), .ref (ad 2), .ref (ad 3), .ref (ad 4), .ref (ad 5), .ref (ad 6), .ref (ad 7), .ref (ad 8), .int (ρ.s 4), .ref (ad 9), .ref (ad 10), .ref (ad 11), .ref (ad 12), .ref (ad 13), .ref (ad 14), .ref (ad 15), .ref (ad 16), .ref (ad 17), .ref (ad 18), .ref (ad 19), .ref (ad 20), .ref (ad 21), .ref (ad 22), .ref (ad 23), .ref (ad 24), .ref (ad 25)])) := hM_4.1
      have hm_5_0 : V_4 (ad 0) = some (eI k 8 (ρ.I 0)) := hM_4.a0
      have hm_5_1 : V_4 (ad 1) = some (eZ k 150 (ρ.I 1)) := hM_4.a1
      refine lv_aload_n hx hb d_Mo_count2_19 rfl (lv_at hl 0 rfl) ?_
      refine gf_Mo_100 hx hb hW hown hG hV hm_5 d_Mo_count2_20 ?_
      refine lv_if_eq (tgt := 28) hx hb d_Mo_count2_23 (by decide) (fun _ => ?_) (fun q => absurd q (by decide))
      refine lv_iconst (v := 0) hx hb d_Mo_count2_28 (by decide) ?_
      refine lv_istore_n (lv' := [(2, .int 0), (0, .ref mo), (1, .int (nI K))]) hx hb d_Mo_count2_29 rfl hl (by decide) rfl (fun ls hl => ?_)
      refine lv_iload_n hx hb d_Mo_count2_30 rfl (lv_at hl 2 rfl) ?_
      refine rc_i (va_runS (As := [.int (nI K)]) (rest := []) ⟨hx, hb, hml, hown, hts⟩ (c_Mo_baseOf l D N0 k V_4 (nI K)) (va_cwS 1 hts (gi_S wm_Mo_107 wt_Mo_baseOf wi_Mo wc_Mo_baseOf) rfl rfl rfl (by decide +kernel) ⟨Nat.le_of_ble_eq_true rfl, Nat.le_of_ble_eq_true rfl⟩) (mP.preS hG hS hV) rfl rfl hl.1 rfl (lv_room (Nat.le_of_ble_eq_true rfl)) d_Mo_count2_31 ⟨Nat.le_of_ble_eq_true rfl, Nat.le_of_ble_eq_true rfl⟩) hS (fun H locs hV hS => ?_)
      rw [moBase_n hK2 hK5]
      refine W.eq (g2 := F0 m 34 ls [.int (nI (fiN K))]) rfl ?_
      refine lv_istore_n (lv' := [(3, .int (nI (fiN K))), (2, .int 0), (0, .ref mo), (1, .int (nI K))]) hx hb d_Mo_count2_34 rfl hl (by decide) rfl (fun ls hl => ?_)
      obtain ⟨Pb, hPb⟩ : ∃ z, z = moThP ρ.I := ⟨_, rfl⟩
      have h150 : fiN K + n0 ≤ 150 := by rcases (show K = 2 ∨ K = 3 ∨ K = 4 ∨ K = 5 by omega) with rfl | rfl | rfl | rfl <;> simp only [fiN, liN] at * <;> omega
      have loop_6 : ∀ (n i : Nat) (c0 : Nat) (H : Heap) (locs : List Loc) (ls : Array Slot), i ≤ (fiN K + n0) → (fiN K + n0) + 1 ≤ i + n → (c0 + cntF Pb i (fiN K + n0 - i) = cntF Pb (fiN K) n0) → hv D vwCl N0 V_4 H → va_S (hA N0) s.heap H locs → lv_has ls 4 [(0, .ref mo), (1, .int (nI K)), (2, .int (nI c0)), (3, .int (nI i))] → W p l e (headSpec (.code y_Mo_count2 b_Mo_count2 4 (some .int) :: WS) ({ frames := 1, cells := 0, slots := 0, locals := 20 })).room s m #[.ref mo, .int (nI K)] below meth c H locs 0 0 (MQ below (va_Qi (fun r V' => mdOk k V' mo ad (ρ.ws 0 0) ∧ mdFr mo ad V V' ∧ r = nI (cntF (moThP ρ.I) (fiN K) n0)) (mB D N0) (hA N0)) #[.ref mo, .int (nI K)] s 0 0 (hA N0)) (F0 m 35 ls []) := by
        intro n
        induction n with
        | zero => intro i c0 H locs ls h1 h2; exact absurd h2 (by omega)
        | succ n ih =>
          intro i c0 H locs ls hi hin hI hV hS hl
          refine lv_iload_n hx hb d_Mo_count2_35 rfl (lv_at hl 3 rfl) ?_
          refine lv_iload_n hx hb d_Mo_count2_36 rfl (lv_at hl 1 rfl) ?_
          refine rc_i (va_runS (As := [.int (nI K)]) (rest := [.int (nI i)]) ⟨hx, hb, hml, hown, hts⟩ (c_Mo_baseOf l D N0 k V_4 (nI K)) (va_cwS 1 hts (gi_S wm_Mo_107 wt_Mo_baseOf wi_Mo wc_Mo_baseOf) rfl rfl rfl (by decide +kernel) ⟨Nat.le_of_ble_eq_true rfl, Nat.le_of_ble_eq_true rfl⟩) (mP.preS hG hS hV) rfl rfl hl.1 rfl (lv_room (Nat.le_of_ble_eq_true rfl)) d_Mo_count2_37 ⟨Nat.le_of_ble_eq_true rfl, Nat.le_of_ble_eq_true rfl⟩) hS (fun H locs hV hS => ?_)
          rw [moBase_n hK2 hK5]
          refine W.eq (g2 := F0 m 40 ls [.int (nI (fiN K)), .int (nI i)]) rfl ?_
          refine lv_aload_n hx hb d_Mo_count2_40 rfl (lv_at hl 0 rfl) ?_
          refine gf_Mo_7 hx hb hW hown hG hV hm_5 d_Mo_count2_41 ?_
          refine lv_iload_n hx hb d_Mo_count2_44 rfl (lv_at hl 1 rfl) ?_
          refine hv_iald hx hb hG.K hV 0 hm_5_0 rfl (vp_in_nI (by omega) (by omega)) d_Mo_count2_45 ?_
          rw [nI_clamp (by omega)]
          refine lv_iadd hx hb d_Mo_count2_46 ?_
          rw [en0, nI_add]
          refine W.eq (g2 := F0 m 47 ls [.int (nI (fiN K + n0)), .int (nI i)]) rfl ?_
          refine lv_icmp_ge (tgt := 73) hx hb d_Mo_count2_47 (by decide) (fun c_7 => ?_) (fun c_7 => ?_)
          · have hge : (fiN K + n0) ≤ i := nI_le' c_7 (by omega) (by omega)
            refine lv_iload_n hx hb d_Mo_count2_73 rfl (lv_at hl 2 rfl) ?_
            exact W.iret (v := (nI c0)) hx hb hr (fun t9 ht hW => ⟨⟨(nI c0), V_4, rfl, ⟨hM_4, hR_4, by rw [← hPb, ← hI, cntF_end hge]; rfl⟩, mB_of ht hV⟩, hS.F ht⟩) hS.2.2 d_Mo_count2_74
          · have hlt : i < (fiN K + n0) := nI_nle' c_7 (by omega) (by omega)
            refine lv_iload_n hx hb d_Mo_count2_50 rfl (lv_at hl 2 rfl) ?_
            refine lv_aload_n hx hb d_Mo_count2_51 rfl (lv_at hl 0 rfl) ?_
            refine gf_Mo_13 hx hb hW hown hG hV hm_5 d_Mo_count2_52 ?_
            refine lv_iload_n hx hb d_Mo_count2_55 rfl (lv_at hl 3 rfl) ?_
            refine hv_zald hx hb hG.K hV 2 hm_5_1 rfl (vp_in_nI (by omega) (by omega)) d_Mo_count2_56 ?_
            rw [nI_clamp (by omega)]
            refine lv_if_eq (tgt := 64) hx hb d_Mo_count2_57 (by decide) (fun c_8 => ?_) (fun c_8 => ?_)
            · refine lv_iconst (v := 0) hx hb d_Mo_count2_64 (by decide) ?_
              refine lv_iadd hx hb d_Mo_count2_65 ?_
              refine lv_istore_n (lv' := [(2, .int ((nI c0) + 0)), (0, .ref mo), (1, .int (nI K)), (3, .int (nI i))]) hx hb d_Mo_count2_66 rfl hl (by decide) rfl (fun ls hl => ?_)
              obtain ⟨i_9, ei_9⟩ : ∃ y : Int32, y = (nI i) + 1 := ⟨_, rfl⟩
              refine lv_iinc (v := i_9) (lv' := [(3, .int i_9), (2, .int ((nI c0) + 0)), (0, .ref mo), (1, .int (nI K))]) hx hb d_Mo_count2_67 hl (k := 3) rfl (by rw [ei_9]; rfl) (by decide) rfl (fun ls hl => ?_)
              refine lv_goto (tgt := 35) hx hb d_Mo_count2_70 (by decide) ?_
              rw [nI_1] at ei_9
              subst ei_9
              try simp only [bI_ne0, bI_eq0, decide_eq_true_eq, decide_eq_false_iff_not, Bool.not_eq_false, Bool.not_eq_true, Decidable.not_not] at c_2
              try simp only [bI_ne0, bI_eq0, decide_eq_true_eq, decide_eq_false_iff_not, Bool.not_eq_false, Bool.not_eq_true, Decidable.not_not] at c_3
              try simp only [bI_ne0, bI_eq0, decide_eq_true_eq, decide_eq_false_iff_not, Bool.not_eq_false, Bool.not_eq_true, Decidable.not_not] at c_7
              try simp only [bI_ne0, bI_eq0, decide_eq_true_eq, decide_eq_false_iff_not, Bool.not_eq_false, Bool.not_eq_true, Decidable.not_not] at c_8
              have hPi : Pb i = false := by subst hPb; simp [moThP, c_8]
              rw [show nI c0 + 0 = nI c0 from Int32.add_zero _] at hl
              exact ih (i + 1) c0 _ _ _ (by omega) (by omega) (by rw [← hI, cntF_step hlt, hPi]; simp) hV hS (lv_sub hl [2, 3, 1, 0] rfl)
            · refine lv_iconst (v := 1) hx hb d_Mo_count2_60 (by decide) ?_
              refine lv_goto (tgt := 65) hx hb d_Mo_count2_61 (by decide) ?_
              refine lv_iadd hx hb d_Mo_count2_65 ?_
              refine lv_istore_n (lv' := [(2, .int ((nI c0) + 1)), (0, .ref mo), (1, .int (nI K)), (3, .int (nI i))]) hx hb d_Mo_count2_66 rfl hl (by decide) rfl (fun ls hl => ?_)
              obtain ⟨i_10, ei_10⟩ : ∃ y : Int32, y = (nI i) + 1 := ⟨_, rfl⟩
              refine lv_iinc (v := i_10) (lv' := [(3, .int i_10), (2, .int ((nI c0) + 1)), (0, .ref mo), (1, .int (nI K))]) hx hb d_Mo_count2_67 hl (k := 3) rfl (by rw [ei_10]; rfl) (by decide) rfl (fun ls hl => ?_)
              refine lv_goto (tgt := 35) hx hb d_Mo_count2_70 (by decide) ?_
              rw [nI_1] at ei_10
              subst ei_10
              try simp only [bI_ne0, bI_eq0, decide_eq_true_eq, decide_eq_false_iff_not, Bool.not_eq_false, Bool.not_eq_true, Decidable.not_not] at c_2
              try simp only [bI_ne0, bI_eq0, decide_eq_true_eq, decide_eq_false_iff_not, Bool.not_eq_false, Bool.not_eq_true, Decidable.not_not] at c_3
              try simp only [bI_ne0, bI_eq0, decide_eq_true_eq, decide_eq_false_iff_not, Bool.not_eq_false, Bool.not_eq_true, Decidable.not_not] at c_7
              try simp only [bI_ne0, bI_eq0, decide_eq_true_eq, decide_eq_false_iff_not, Bool.not_eq_false, Bool.not_eq_true, Decidable.not_not] at c_8
              have hPi : Pb i = true := by subst hPb; simp [moThP, c_8]
              rw [nI_1] at hl
              exact ih (i + 1) (c0 + 1) _ _ _ (by omega) (by omega) (by rw [← hI, cntF_step hlt, hPi]; simp; omega) hV hS (lv_sub hl [2, 3, 1, 0] rfl)
      exact loop_6 ((fiN K + n0) + 1 - (fiN K)) (fiN K) 0 _ _ _ (by omega) (by omega) (by rw [show fiN K + n0 - fiN K = n0 by omega]; exact Nat.zero_add _) hV hS (lv_sub hl [2, 3, 1, 0] rfl)
set_option maxHeartbeats 4000000 in
set_option maxRecDepth 100000 in
/-- count: no such kind -/
theorem c_Mo_count2t (l : Launch) (D : va_G) (N0 : Nat) (k : Nat → Nat) (V : HV) (mo : Nat) (ad : Nat → Nat) (ρ : MS) (hM : mdOk k V mo ad ρ) (kd : Int32) (hok : (decide (2 ≤ kd) && decide (kd ≤ 5)) = false) : Met l y_Mo_count2 (.code y_Mo_count2 b_Mo_count2 4 (some .int) :: WS) ({ frames := 1, cells := 0, slots := 0, locals := 20 }) (mP D N0 k [.ref mo, .int kd] V) (va_Qi (fun r V' => mdOk k V' mo ad (ρ.ws 0 1) ∧ mdFr mo ad V V' ∧ r = 0) (mB D N0) (hA N0)) 0 0 (hA N0) := by
  refine Met.ofW (cc := b_Mo_count2) (maxL := 4) (ret := (some .int)) (by decide) rfl ?_
  intro p e s m args below meth c s₁ B hml hv0
  obtain ⟨rfl, hG, hV⟩ := hv0
  have hx := B.exec
  have hb := B.bytes
  have hr := B.returns
  have hts := atoms_spec (ws := .code y_Mo_count2 b_Mo_count2 4 (some .int) :: WS) B.pre
  have hW : ∀ w ∈ WS, w.before _ s = true := fun w h => hts w (List.mem_cons_of_mem _ h)
  have hown : s.vm.findClass "BoardHouseModel" = some m.cls := findClass_of_methodNamed B.named
  have hlocks := B.notSynchronized
  have hS : va_S (hA N0) s.heap s.heap [] := va_S.rf
  have hl := lv_entry ([.ref mo, .int kd]) (n := 4) (Nat.le_of_ble_eq_true rfl)
  rw [lg_entry_eq]
  generalize (lg_sl ([.ref mo, .int kd]) ++ List.replicate (4 - (lg_sl ([.ref mo, .int kd])).length) Slot.unset).toArray = ls at hl ⊢
  have hl : lv_has ls 4 [(0, .ref mo), (1, .int kd)] := hl
  have hm_1 : V mo = some (.inr (7, [.int (ρ.s 0), .int (ρ.s 1), .int (ρ.s 2), .int (ρ.s 3), .ref (ad 0), .ref (ad 1), .ref (ad 2), .ref (ad 3), .ref (ad 4), .ref (ad 5), .ref (ad 6), .ref (ad 7), .ref (ad 8), .int (ρ.s 4), .ref (ad 9), .ref (ad 10), .ref (ad 11), .ref (ad 12), .ref (ad 13), .ref (ad 14), .ref (ad 15), .ref (ad 16), .ref (ad 17), .ref (ad 18), .ref (ad 19), .ref (ad 20), .ref (ad 21), .ref (ad 22), .ref (ad 23), .ref (ad 24), .ref (ad 25)])) := hM.1
  have hm_1_0 : V (ad 0) = some (eI k 8 (ρ.I 0)) := hM.a0
  have hm_1_1 : V (ad 1) = some (eZ k 150 (ρ.I 1)) := hM.a1
  refine lv_aload_n hx hb d_Mo_count2_0 rfl (lv_at hl 0 rfl) ?_
  refine lv_iload_n hx hb d_Mo_count2_1 rfl (lv_at hl 1 rfl) ?_
  refine lv_iconst (v := 2) hx hb d_Mo_count2_2 (by decide) ?_
  refine lv_icmp_lt (tgt := 15) hx hb d_Mo_count2_3 (by decide) (fun c_2 => ?_) (fun c_2 => ?_)
  · have c_2 := i_nle c_2
    refine lv_iconst (v := 1) hx hb d_Mo_count2_15 (by decide) ?_
    refine pf_Mo_100 hx hb hW hown hG hV hS hm_1 d_Mo_count2_16 (fun H locs hV hS => ?_)
    replace hV : hv D vwCl N0 (hu V mo (.inr (7, [.int 1, .int (ρ.s 1), .int (ρ.s 2), .int (ρ.s 3), .ref (ad 0), .ref (ad 1), .ref (ad 2), .ref (ad 3), .ref (ad 4), .ref (ad 5), .ref (ad 6), .ref (ad 7), .ref (ad 8), .int (ρ.s 4), .ref (ad 9), .ref (ad 10), .ref (ad 11), .ref (ad 12), .ref (ad 13), .ref (ad 14), .ref (ad 15), .ref (ad 16), .ref (ad 17), .ref (ad 18), .ref (ad 19), .ref (ad 20), .ref (ad 21), .ref (ad 22), .ref (ad 23), .ref (ad 24), .ref (ad 25)]))) H := hV
    generalize hV_V_3 : hu V mo (.inr (7, [.int 1, .int (ρ.s 1), .int (ρ.s 2), .int (ρ.s 3), .ref (ad 0), .ref (ad 1), .ref (ad 2), .ref (ad 3), .ref (ad 4), .ref (ad 5), .ref (ad 6), .ref (ad 7), .ref (ad 8), .int (ρ.s 4), .ref (ad 9), .ref (ad 10), .ref (ad 11), .ref (ad 12), .ref (ad 13), .ref (ad 14), .ref (ad 15), .ref (ad 16), .ref (ad 17), .ref (ad 18), .ref (ad 19), .ref (ad 20), .ref (ad 21), .ref (ad 22), .ref (ad 23), .ref (ad 24), .ref (ad 25)])) = V_3 at hV
    have hM_3 : mdOk k V_3 mo ad (ρ.ws 0 1) := by rw [← hV_V_3]; exact md_put hM 0 1
    have hR_3 : mdFr mo ad V V_3 := by rw [← hV_V_3]; exact (mdFr.rf (mo := mo) (ad := ad) (V := V)).m
    have hm_4 : V_3 mo = some (.inr (7, [.int 1, .int (ρ.s 1), .int (ρ.s 2), .int (ρ.s 3), .ref (ad 0), .ref (ad 1), .ref (ad 2), .ref (ad 3), .ref (ad 4), .ref (ad 5), .ref (ad 6), .ref (ad 7), .ref (ad 8), .int (ρ.s 4), .ref (ad 9), .ref (ad 10), .ref (ad 11), .ref (ad 12), .ref (ad 13), .ref (ad 14), .ref (ad 15), .ref (ad 16), .ref (ad 17), .ref (ad 18), .ref (ad 19), .ref (ad 20), .ref (ad 21), .ref (ad 22), .ref (ad 23), .ref (ad 24), .ref (ad 25)])) := hM_3.1
    have hm_4_0 : V_3 (ad 0) = some (eI k 8 (ρ.I 0)) := hM_3.a0
    have hm_4_1 : V_3 (ad 1) = some (eZ k 150 (ρ.I 1)) := hM_3.a1
    refine lv_aload_n hx hb d_Mo_count2_19 rfl (lv_at hl 0 rfl) ?_
    refine gf_Mo_100 hx hb hW hown hG hV hm_4 d_Mo_count2_20 ?_
    refine lv_if_eq (tgt := 28) hx hb d_Mo_count2_23 (by decide) (fun q => absurd q (by decide)) (fun _ => ?_)
    refine lv_iconst (v := 0) hx hb d_Mo_count2_26 (by decide) ?_
    exact W.iret (v := 0) hx hb hr (fun t9 ht hW => ⟨⟨0, V_3, rfl, ⟨hM_3, hR_3, rfl⟩, mB_of ht hV⟩, hS.F ht⟩) hS.2.2 d_Mo_count2_27
  · have c_2 := i_le c_2
    refine lv_iload_n hx hb d_Mo_count2_6 rfl (lv_at hl 1 rfl) ?_
    refine lv_iconst (v := 5) hx hb d_Mo_count2_7 (by decide) ?_
    refine lv_icmp_gt (tgt := 15) hx hb d_Mo_count2_8 (by decide) (fun c_5 => ?_) (fun c_5 => ?_)
    · have c_5 := i_nle c_5
      refine lv_iconst (v := 1) hx hb d_Mo_count2_15 (by decide) ?_
      refine pf_Mo_100 hx hb hW hown hG hV hS hm_1 d_Mo_count2_16 (fun H locs hV hS => ?_)
      replace hV : hv D vwCl N0 (hu V mo (.inr (7, [.int 1, .int (ρ.s 1), .int (ρ.s 2), .int (ρ.s 3), .ref (ad 0), .ref (ad 1), .ref (ad 2), .ref (ad 3), .ref (ad 4), .ref (ad 5), .ref (ad 6), .ref (ad 7), .ref (ad 8), .int (ρ.s 4), .ref (ad 9), .ref (ad 10), .ref (ad 11), .ref (ad 12), .ref (ad 13), .ref (ad 14), .ref (ad 15), .ref (ad 16), .ref (ad 17), .ref (ad 18), .ref (ad 19), .ref (ad 20), .ref (ad 21), .ref (ad 22), .ref (ad 23), .ref (ad 24), .ref (ad 25)]))) H := hV
      generalize hV_V_6 : hu V mo (.inr (7, [.int 1, .int (ρ.s 1), .int (ρ.s 2), .int (ρ.s 3), .ref (ad 0), .ref (ad 1), .ref (ad 2), .ref (ad 3), .ref (ad 4), .ref (ad 5), .ref (ad 6), .ref (ad 7), .ref (ad 8), .int (ρ.s 4), .ref (ad 9), .ref (ad 10), .ref (ad 11), .ref (ad 12), .ref (ad 13), .ref (ad 14), .ref (ad 15), .ref (ad 16), .ref (ad 17), .ref (ad 18), .ref (ad 19), .ref (ad 20), .ref (ad 21), .ref (ad 22), .ref (ad 23), .ref (ad 24), .ref (ad 25)])) = V_6 at hV
      have hM_6 : mdOk k V_6 mo ad (ρ.ws 0 1) := by rw [← hV_V_6]; exact md_put hM 0 1
      have hR_6 : mdFr mo ad V V_6 := by rw [← hV_V_6]; exact (mdFr.rf (mo := mo) (ad := ad) (V := V)).m
      have hm_7 : V_6 mo = some (.inr (7, [.int 1, .int (ρ.s 1), .int (ρ.s 2), .int (ρ.s 3), .ref (ad 0), .ref (ad 1), .ref (ad 2), .ref (ad 3), .ref (ad 4), .ref (ad 5), .ref (ad 6), .ref (ad 7), .ref (ad 8), .int (ρ.s 4), .ref (ad 9), .ref (ad 10), .ref (ad 11), .ref (ad 12), .ref (ad 13), .ref (ad 14), .ref (ad 15), .ref (ad 16), .ref (ad 17), .ref (ad 18), .ref (ad 19), .ref (ad 20), .ref (ad 21), .ref (ad 22), .ref (ad 23), .ref (ad 24), .ref (ad 25)])) := hM_6.1
      have hm_7_0 : V_6 (ad 0) = some (eI k 8 (ρ.I 0)) := hM_6.a0
      have hm_7_1 : V_6 (ad 1) = some (eZ k 150 (ρ.I 1)) := hM_6.a1
      refine lv_aload_n hx hb d_Mo_count2_19 rfl (lv_at hl 0 rfl) ?_
      refine gf_Mo_100 hx hb hW hown hG hV hm_7 d_Mo_count2_20 ?_
      refine lv_if_eq (tgt := 28) hx hb d_Mo_count2_23 (by decide) (fun q => absurd q (by decide)) (fun _ => ?_)
      refine lv_iconst (v := 0) hx hb d_Mo_count2_26 (by decide) ?_
      exact W.iret (v := 0) hx hb hr (fun t9 ht hW => ⟨⟨0, V_6, rfl, ⟨hM_6, hR_6, rfl⟩, mB_of ht hV⟩, hS.F ht⟩) hS.2.2 d_Mo_count2_27
    · have c_5 := i_le c_5
      exact absurd hok (by simp [c_2, c_5])
set_option maxHeartbeats 4000000 in
set_option maxRecDepth 100000 in
/-- work -/
theorem c_Mo_work (l : Launch) (D : va_G) (N0 : Nat) (k : Nat → Nat) (V : HV) (mo : Nat) (ad : Nat → Nat) (ρ : MS) (hM : mdOk k V mo ad ρ) (h : Int32) (hGm : moG ρ) : Met l y_Mo_work (.code y_Mo_work b_Mo_work 4 (some .boolean) :: WS) ({ frames := 3, cells := 0, slots := 0, locals := 66 }) (mP D N0 k [.ref mo, .int h] V) (va_Qi (fun r V' => mdOk k V' mo ad (moWork ρ h).2 ∧ mdFr mo ad V V' ∧ r = (moWork ρ h).1) (mB D N0) (hA N0)) 0 0 (hA N0) := by
  refine Met.ofW (cc := b_Mo_work) (maxL := 4) (ret := (some .boolean)) (by decide) rfl ?_
  intro p e s m args below meth c s₁ B hml hv0
  obtain ⟨rfl, hG, hV⟩ := hv0
  have hx := B.exec
  have hb := B.bytes
  have hr := B.returns
  have hts := atoms_spec (ws := .code y_Mo_work b_Mo_work 4 (some .boolean) :: WS) B.pre
  have hW : ∀ w ∈ WS, w.before _ s = true := fun w h => hts w (List.mem_cons_of_mem _ h)
  have hown : s.vm.findClass "BoardHouseModel" = some m.cls := findClass_of_methodNamed B.named
  have hlocks := B.notSynchronized
  have hS : va_S (hA N0) s.heap s.heap [] := va_S.rf
  have hl := lv_entry ([.ref mo, .int h]) (n := 4) (Nat.le_of_ble_eq_true rfl)
  rw [lg_entry_eq]
  generalize (lg_sl ([.ref mo, .int h]) ++ List.replicate (4 - (lg_sl ([.ref mo, .int h])).length) Slot.unset).toArray = ls at hl ⊢
  have hl : lv_has ls 4 [(0, .ref mo), (1, .int h)] := hl
  have hm_1 : V mo = some (.inr (7, [.int (ρ.s 0), .int (ρ.s 1), .int (ρ.s 2), .int (ρ.s 3), .ref (ad 0), .ref (ad 1), .ref (ad 2), .ref (ad 3), .ref (ad 4), .ref (ad 5), .ref (ad 6), .ref (ad 7), .ref (ad 8), .int (ρ.s 4), .ref (ad 9), .ref (ad 10), .ref (ad 11), .ref (ad 12), .ref (ad 13), .ref (ad 14), .ref (ad 15), .ref (ad 16), .ref (ad 17), .ref (ad 18), .ref (ad 19), .ref (ad 20), .ref (ad 21), .ref (ad 22), .ref (ad 23), .ref (ad 24), .ref (ad 25)])) := hM.1
  refine lv_aload_n hx hb d_Mo_work_0 rfl (lv_at hl 0 rfl) ?_
  refine lv_iload_n hx hb d_Mo_work_1 rfl (lv_at hl 1 rfl) ?_
  refine lv_if_ne (tgt := 9) hx hb d_Mo_work_2 (by decide) (fun c_2 => ?_) (fun c_2 => ?_)
  · refine lv_aload_n hx hb d_Mo_work_9 rfl (lv_at hl 0 rfl) ?_
    refine lv_iload_n hx hb d_Mo_work_10 rfl (lv_at hl 1 rfl) ?_
    refine rc_i (va_runV (As := [.int h]) (rest := [.ref mo]) ⟨hx, hb, hml, hown, hts⟩ (c_Mo_actFault l D N0 k V mo ad ρ hM h hGm) (cwV 1 hts (gi_V wm_Mo_245 wv_Mo_actFault ws_Mo_actFault wi_Mo wc_Mo_actFault) rfl rfl rfl (by decide +kernel) ⟨Nat.le_of_ble_eq_true rfl, Nat.le_of_ble_eq_true rfl⟩) (mP.preV hG hS hV hm_1 rfl) rfl rfl hl.1 rfl (lv_room (Nat.le_of_ble_eq_true rfl)) d_Mo_work_11 ⟨Nat.le_of_ble_eq_true rfl, Nat.le_of_ble_eq_true rfl⟩) hS (fun H locs hV hS => ?_)
    refine W.eq (g2 := F0 m 14 ls [.int (moAF ρ h), .ref mo]) rfl ?_
    refine lv_topi (fun f_3 ef_3 => ?_)
    refine pf_Mo_100 hx hb hW hown hG hV hS hm_1 d_Mo_work_14 (fun H locs hV hS => ?_)
    replace hV : hv D vwCl N0 (hu V mo (.inr (7, [.int f_3, .int (ρ.s 1), .int (ρ.s 2), .int (ρ.s 3), .ref (ad 0), .ref (ad 1), .ref (ad 2), .ref (ad 3), .ref (ad 4), .ref (ad 5), .ref (ad 6), .ref (ad 7), .ref (ad 8), .int (ρ.s 4), .ref (ad 9), .ref (ad 10), .ref (ad 11), .ref (ad 12), .ref (ad 13), .ref (ad 14), .ref (ad 15), .ref (ad 16), .ref (ad 17), .ref (ad 18), .ref (ad 19), .ref (ad 20), .ref (ad 21), .ref (ad 22), .ref (ad 23), .ref (ad 24), .ref (ad 25)]))) H := hV
    generalize hV_V_4 : hu V mo (.inr (7, [.int f_3, .int (ρ.s 1), .int (ρ.s 2), .int (ρ.s 3), .ref (ad 0), .ref (ad 1), .ref (ad 2), .ref (ad 3), .ref (ad 4), .ref (ad 5), .ref (ad 6), .ref (ad 7), .ref (ad 8), .int (ρ.s 4), .ref (ad 9), .ref (ad 10), .ref (ad 11), .ref (ad 12), .ref (ad 13), .ref (ad 14), .ref (ad 15), .ref (ad 16), .ref (ad 17), .ref (ad 18), .ref (ad 19), .ref (ad 20), .ref (ad 21), .ref (ad 22), .ref (ad 23), .ref (ad 24), .ref (ad 25)])) = V_4 at hV
    have hM_4 : mdOk k V_4 mo ad (ρ.ws 0 f_3) := by rw [← hV_V_4]; exact md_put hM 0 f_3
    have hR_4 : mdFr mo ad V V_4 := by rw [← hV_V_4]; exact (mdFr.rf (mo := mo) (ad := ad) (V := V)).m
    have hm_5 : V_4 mo = some (.inr (7, [.int f_3, .int (ρ.s 1), .int (ρ.s 2), .int (ρ.s 3), .ref (ad 0), .ref (ad 1), .ref (ad 2), .ref (ad 3), .ref (ad 4), .ref (ad 5), .ref (ad 6), .ref (ad 7), .ref (ad 8), .int (ρ.s 4), .ref (ad 9), .ref (ad 10), .ref (ad 11), .ref (ad 12), .ref (ad 13), .ref (ad 14), .ref (ad 15), .ref (ad 16), .ref (ad 17), .ref (ad 18), .ref (ad 19), .ref (ad 20), .ref (ad 21), .ref (ad 22), .ref (ad 23), .ref (ad 24), .ref (ad 25)])) := hM_4.1
    refine lv_aload_n hx hb d_Mo_work_17 rfl (lv_at hl 0 rfl) ?_
    refine gf_Mo_100 hx hb hW hown hG hV hm_5 d_Mo_work_18 ?_
    refine lv_if_eq (tgt := 26) hx hb d_Mo_work_21 (by decide) (fun c_6 => ?_) (fun c_6 => ?_)
    · refine lv_iload_n hx hb d_Mo_work_26 rfl (lv_at hl 1 rfl) ?_
      refine lv_if_ne (tgt := 34) hx hb d_Mo_work_27 (by decide) (fun c_7 => ?_) (fun c_7 => ?_)
      · refine lv_iload_n hx hb d_Mo_work_34 rfl (lv_at hl 1 rfl) ?_
        refine lv_sipush (v := 1000) hx hb d_Mo_work_35 (by decide) ?_
        refine lv_irem hx hb d_Mo_work_38 (by decide) ?_
        refine lv_istore_n (lv' := [(2, .int (h - h / 1000 * 1000)), (0, .ref mo), (1, .int h)]) hx hb d_Mo_work_39 rfl hl (by decide) rfl (fun ls hl => ?_)
        refine lv_iload_n hx hb d_Mo_work_40 rfl (lv_at hl 0 rfl) ?_
        refine lv_aload_n hx hb d_Mo_work_41 rfl (lv_at hl 1 rfl) ?_
        refine gf_Mo_38 hx hb hW hown hG hV hm_5 d_Mo_work_42 ?_
        refine lv_icmp_eq (tgt := 52) hx hb d_Mo_work_45 (by decide) (fun c_8 => ?_) (fun c_8 => ?_)
        · refine lv_iconst (v := 0) hx hb d_Mo_work_52 (by decide) ?_
          refine lv_istore_n (lv' := [(3, .int 0), (2, .int (h - h / 1000 * 1000)), (0, .ref mo), (1, .int h)]) hx hb d_Mo_work_53 rfl hl (by decide) rfl (fun ls hl => ?_)
          refine lv_aload_n hx hb d_Mo_work_54 rfl (lv_at hl 2 rfl) ?_
          refine lv_iload_n hx hb d_Mo_work_55 rfl (lv_at hl 1 rfl) ?_
          refine pf_Mo_38 hx hb hW hown hG hV hS hm_5 d_Mo_work_56 (fun H locs hV hS => ?_)
          replace hV : hv D vwCl N0 (hu V_4 mo (.inr (7, [.int f_3, .int (ρ.s 1), .int (ρ.s 2), .int (ρ.s 3), .ref (ad 0), .ref (ad 1), .ref (ad 2), .ref (ad 3), .ref (ad 4), .ref (ad 5), .ref (ad 6), .ref (ad 7), .ref (ad 8), .int (h - h / 1000 * 1000), .ref (ad 9), .ref (ad 10), .ref (ad 11), .ref (ad 12), .ref (ad 13), .ref (ad 14), .ref (ad 15), .ref (ad 16), .ref (ad 17), .ref (ad 18), .ref (ad 19), .ref (ad 20), .ref (ad 21), .ref (ad 22), .ref (ad 23), .ref (ad 24), .ref (ad 25)]))) H := hV
          generalize hV_V_9 : hu V_4 mo (.inr (7, [.int f_3, .int (ρ.s 1), .int (ρ.s 2), .int (ρ.s 3), .ref (ad 0), .ref (ad 1), .ref (ad 2), .ref (ad 3), .ref (ad 4), .ref (ad 5), .ref (ad 6), .ref (ad 7), .ref (ad 8), .int (h - h / 1000 * 1000), .ref (ad 9), .ref (ad 10), .ref (ad 11), .ref (ad 12), .ref (ad 13), .ref (ad 14), .ref (ad 15), .ref (ad 16), .ref (ad 17), .ref (ad 18), .ref (ad 19), .ref (ad 20), .ref (ad 21), .ref (ad 22), .ref (ad 23), .ref (ad 24), .ref (ad 25)])) = V_9 at hV
          have hM_9 : mdOk k V_9 mo ad ((ρ.ws 0 f_3).ws 4 (h - h / 1000 * 1000)) := by rw [← hV_V_9]; exact md_put hM_4 4 (h - h / 1000 * 1000)
          have hR_9 : mdFr mo ad V V_9 := by rw [← hV_V_9]; exact hR_4.m
          have hm_10 : V_9 mo = some (.inr (7, [.int f_3, .int (ρ.s 1), .int (ρ.s 2), .int (ρ.s 3), .ref (ad 0), .ref (ad 1), .ref (ad 2), .ref (ad 3), .ref (ad 4), .ref (ad 5), .ref (ad 6), .ref (ad 7), .ref (ad 8), .int (h - h / 1000 * 1000), .ref (ad 9), .ref (ad 10), .ref (ad 11), .ref (ad 12), .ref (ad 13), .ref (ad 14), .ref (ad 15), .ref (ad 16), .ref (ad 17), .ref (ad 18), .ref (ad 19), .ref (ad 20), .ref (ad 21), .ref (ad 22), .ref (ad 23), .ref (ad 24), .ref (ad 25)])) := hM_9.1
          refine lv_iload_n hx hb d_Mo_work_59 rfl (lv_at hl 0 rfl) ?_
          try simp only [bI_ne0, bI_eq0, decide_eq_true_eq, decide_eq_false_iff_not, Bool.not_eq_false, Bool.not_eq_true, Decidable.not_not] at c_2
          try simp only [bI_ne0, bI_eq0, decide_eq_true_eq, decide_eq_false_iff_not, Bool.not_eq_false, Bool.not_eq_true, Decidable.not_not] at c_6
          try simp only [bI_ne0, bI_eq0, decide_eq_true_eq, decide_eq_false_iff_not, Bool.not_eq_false, Bool.not_eq_true, Decidable.not_not] at c_7
          try simp only [bI_ne0, bI_eq0, decide_eq_true_eq, decide_eq_false_iff_not, Bool.not_eq_false, Bool.not_eq_true, Decidable.not_not] at c_8
          subst ef_3
          have hfin : moWork ρ h = (0, ((ρ.ws 0 (moAF ρ h)).ws 4 (h - h / 1000 * 1000))) := by first | (simp only [moWork, bI, c_2, c_6, c_7, eq_true c_8, decide_true, decide_false, Bool.true_and, Bool.and_true, Bool.false_and, Bool.and_false, Bool.true_or, Bool.or_true, Bool.false_or, Bool.or_false, Bool.not_true, Bool.not_false, if_true, if_false, Bool.false_eq_true, Bool.true_eq_false, reduceIte, eq_self]; done) | (simp [moWork, bI, c_2, c_6, c_7, eq_true c_8]; done) | (simp_all [moWork, bI]; done)
          exact W.zret (v := 0) hx hb hr rfl (fun t9 ht hW => ⟨⟨0, V_9, rfl, ⟨by rw [hfin]; exact hM_9, hR_9, by rw [hfin]⟩, mB_of ht hV⟩, hS.F ht⟩) hS.2.2 d_Mo_work_60
        · refine lv_iconst (v := 1) hx hb d_Mo_work_48 (by decide) ?_
          refine lv_goto (tgt := 53) hx hb d_Mo_work_49 (by decide) ?_
          refine lv_istore_n (lv' := [(3, .int 1), (2, .int (h - h / 1000 * 1000)), (0, .ref mo), (1, .int h)]) hx hb d_Mo_work_53 rfl hl (by decide) rfl (fun ls hl => ?_)
          refine lv_aload_n hx hb d_Mo_work_54 rfl (lv_at hl 2 rfl) ?_
          refine lv_iload_n hx hb d_Mo_work_55 rfl (lv_at hl 1 rfl) ?_
          refine pf_Mo_38 hx hb hW hown hG hV hS hm_5 d_Mo_work_56 (fun H locs hV hS => ?_)
          replace hV : hv D vwCl N0 (hu V_4 mo (.inr (7, [.int f_3, .int (ρ.s 1), .int (ρ.s 2), .int (ρ.s 3), .ref (ad 0), .ref (ad 1), .ref (ad 2), .ref (ad 3), .ref (ad 4), .ref (ad 5), .ref (ad 6), .ref (ad 7), .ref (ad 8), .int (h - h / 1000 * 1000), .ref (ad 9), .ref (ad 10), .ref (ad 11), .ref (ad 12), .ref (ad 13), .ref (ad 14), .ref (ad 15), .ref (ad 16), .ref (ad 17), .ref (ad 18), .ref (ad 19), .ref (ad 20), .ref (ad 21), .ref (ad 22), .ref (ad 23), .ref (ad 24), .ref (ad 25)]))) H := hV
          generalize hV_V_11 : hu V_4 mo (.inr (7, [.int f_3, .int (ρ.s 1), .int (ρ.s 2), .int (ρ.s 3), .ref (ad 0), .ref (ad 1), .ref (ad 2), .ref (ad 3), .ref (ad 4), .ref (ad 5), .ref (ad 6), .ref (ad 7), .ref (ad 8), .int (h - h / 1000 * 1000), .ref (ad 9), .ref (ad 10), .ref (ad 11), .ref (ad 12), .ref (ad 13), .ref (ad 14), .ref (ad 15), .ref (ad 16), .ref (ad 17), .ref (ad 18), .ref (ad 19), .ref (ad 20), .ref (ad 21), .ref (ad 22), .ref (ad 23), .ref (ad 24), .ref (ad 25)])) = V_11 at hV
          have hM_11 : mdOk k V_11 mo ad ((ρ.ws 0 f_3).ws 4 (h - h / 1000 * 1000)) := by rw [← hV_V_11]; exact md_put hM_4 4 (h - h / 1000 * 1000)
          have hR_11 : mdFr mo ad V V_11 := by rw [← hV_V_11]; exact hR_4.m
          have hm_12 : V_11 mo = some (.inr (7, [.int f_3, .int (ρ.s 1), .int (ρ.s 2), .int (ρ.s 3), .ref (ad 0), .ref (ad 1), .ref (ad 2), .ref (ad 3), .ref (ad 4), .ref (ad 5), .ref (ad 6), .ref (ad 7), .ref (ad 8), .int (h - h / 1000 * 1000), .ref (ad 9), .ref (ad 10), .ref (ad 11), .ref (ad 12), .ref (ad 13), .ref (ad 14), .ref (ad 15), .ref (ad 16), .ref (ad 17), .ref (ad 18), .ref (ad 19), .ref (ad 20), .ref (ad 21), .ref (ad 22), .ref (ad 23), .ref (ad 24), .ref (ad 25)])) := hM_11.1
          refine lv_iload_n hx hb d_Mo_work_59 rfl (lv_at hl 0 rfl) ?_
          try simp only [bI_ne0, bI_eq0, decide_eq_true_eq, decide_eq_false_iff_not, Bool.not_eq_false, Bool.not_eq_true, Decidable.not_not] at c_2
          try simp only [bI_ne0, bI_eq0, decide_eq_true_eq, decide_eq_false_iff_not, Bool.not_eq_false, Bool.not_eq_true, Decidable.not_not] at c_6
          try simp only [bI_ne0, bI_eq0, decide_eq_true_eq, decide_eq_false_iff_not, Bool.not_eq_false, Bool.not_eq_true, Decidable.not_not] at c_7
          try simp only [bI_ne0, bI_eq0, decide_eq_true_eq, decide_eq_false_iff_not, Bool.not_eq_false, Bool.not_eq_true, Decidable.not_not] at c_8
          subst ef_3
          have hfin : moWork ρ h = (1, ((ρ.ws 0 (moAF ρ h)).ws 4 (h - h / 1000 * 1000))) := by first | (simp only [moWork, bI, c_2, c_6, c_7, c_8, decide_true, decide_false, Bool.true_and, Bool.and_true, Bool.false_and, Bool.and_false, Bool.true_or, Bool.or_true, Bool.false_or, Bool.or_false, Bool.not_true, Bool.not_false, if_true, if_false, Bool.false_eq_true, Bool.true_eq_false, reduceIte, eq_self]; done) | (simp [moWork, bI, c_2, c_6, c_7, c_8]; done) | (simp_all [moWork, bI]; done)
          exact W.zret (v := 1) hx hb hr rfl (fun t9 ht hW => ⟨⟨1, V_11, rfl, ⟨by rw [hfin]; exact hM_11, hR_11, by rw [hfin]⟩, mB_of ht hV⟩, hS.F ht⟩) hS.2.2 d_Mo_work_60
      · refine lv_iconst (v := (-1)) hx hb d_Mo_work_30 (by decide) ?_
        refine lv_goto (tgt := 39) hx hb d_Mo_work_31 (by decide) ?_
        refine lv_istore_n (lv' := [(2, .int (-1)), (0, .ref mo), (1, .int h)]) hx hb d_Mo_work_39 rfl hl (by decide) rfl (fun ls hl => ?_)
        refine lv_iload_n hx hb d_Mo_work_40 rfl (lv_at hl 0 rfl) ?_
        refine lv_aload_n hx hb d_Mo_work_41 rfl (lv_at hl 1 rfl) ?_
        refine gf_Mo_38 hx hb hW hown hG hV hm_5 d_Mo_work_42 ?_
        refine lv_icmp_eq (tgt := 52) hx hb d_Mo_work_45 (by decide) (fun c_13 => ?_) (fun c_13 => ?_)
        · refine lv_iconst (v := 0) hx hb d_Mo_work_52 (by decide) ?_
          refine lv_istore_n (lv' := [(3, .int 0), (2, .int (-1)), (0, .ref mo), (1, .int h)]) hx hb d_Mo_work_53 rfl hl (by decide) rfl (fun ls hl => ?_)
          refine lv_aload_n hx hb d_Mo_work_54 rfl (lv_at hl 2 rfl) ?_
          refine lv_iload_n hx hb d_Mo_work_55 rfl (lv_at hl 1 rfl) ?_
          refine pf_Mo_38 hx hb hW hown hG hV hS hm_5 d_Mo_work_56 (fun H locs hV hS => ?_)
          replace hV : hv D vwCl N0 (hu V_4 mo (.inr (7, [.int f_3, .int (ρ.s 1), .int (ρ.s 2), .int (ρ.s 3), .ref (ad 0), .ref (ad 1), .ref (ad 2), .ref (ad 3), .ref (ad 4), .ref (ad 5), .ref (ad 6), .ref (ad 7), .ref (ad 8), .int (-1), .ref (ad 9), .ref (ad 10), .ref (ad 11), .ref (ad 12), .ref (ad 13), .ref (ad 14), .ref (ad 15), .ref (ad 16), .ref (ad 17), .ref (ad 18), .ref (ad 19), .ref (ad 20), .ref (ad 21), .ref (ad 22), .ref (ad 23), .ref (ad 24), .ref (ad 25)]))) H := hV
          generalize hV_V_14 : hu V_4 mo (.inr (7, [.int f_3, .int (ρ.s 1), .int (ρ.s 2), .int (ρ.s 3), .ref (ad 0), .ref (ad 1), .ref (ad 2), .ref (ad 3), .ref (ad 4), .ref (ad 5), .ref (ad 6), .ref (ad 7), .ref (ad 8), .int (-1), .ref (ad 9), .ref (ad 10), .ref (ad 11), .ref (ad 12), .ref (ad 13), .ref (ad 14), .ref (ad 15), .ref (ad 16), .ref (ad 17), .ref (ad 18), .ref (ad 19), .ref (ad 20), .ref (ad 21), .ref (ad 22), .ref (ad 23), .ref (ad 24), .ref (ad 25)])) = V_14 at hV
          have hM_14 : mdOk k V_14 mo ad ((ρ.ws 0 f_3).ws 4 (-1)) := by rw [← hV_V_14]; exact md_put hM_4 4 (-1)
          have hR_14 : mdFr mo ad V V_14 := by rw [← hV_V_14]; exact hR_4.m
          have hm_15 : V_14 mo = some (.inr (7, [.int f_3, .int (ρ.s 1), .int (ρ.s 2), .int (ρ.s 3), .ref (ad 0), .ref (ad 1), .ref (ad 2), .ref (ad 3), .ref (ad 4), .ref (ad 5), .ref (ad 6), .ref (ad 7), .ref (ad 8), .int (-1), .ref (ad 9), .ref (ad 10), .ref (ad 11), .ref (ad 12), .ref (ad 13), .ref (ad 14), .ref (ad 15), .ref (ad 16), .ref (ad 17), .ref (ad 18), .ref (ad 19), .ref (ad 20), .ref (ad 21), .ref (ad 22), .ref (ad 23), .ref (ad 24), .ref (ad 25)])) := hM_14.1
          refine lv_iload_n hx hb d_Mo_work_59 rfl (lv_at hl 0 rfl) ?_
          try simp only [bI_ne0, bI_eq0, decide_eq_true_eq, decide_eq_false_iff_not, Bool.not_eq_false, Bool.not_eq_true, Decidable.not_not] at c_2
          try simp only [bI_ne0, bI_eq0, decide_eq_true_eq, decide_eq_false_iff_not, Bool.not_eq_false, Bool.not_eq_true, Decidable.not_not] at c_6
          try simp only [bI_ne0, bI_eq0, decide_eq_true_eq, decide_eq_false_iff_not, Bool.not_eq_false, Bool.not_eq_true, Decidable.not_not] at c_7
          try simp only [bI_ne0, bI_eq0, decide_eq_true_eq, decide_eq_false_iff_not, Bool.not_eq_false, Bool.not_eq_true, Decidable.not_not] at c_13
          subst ef_3
          have hfin : moWork ρ h = (0, ((ρ.ws 0 (moAF ρ h)).ws 4 (-1))) := by first | (simp only [moWork, bI, c_2, c_6, c_7, eq_true c_13, decide_true, decide_false, Bool.true_and, Bool.and_true, Bool.false_and, Bool.and_false, Bool.true_or, Bool.or_true, Bool.false_or, Bool.or_false, Bool.not_true, Bool.not_false, if_true, if_false, Bool.false_eq_true, Bool.true_eq_false, reduceIte, eq_self]; done) | (simp [moWork, bI, c_2, c_6, c_7, eq_true c_13]; done) | (simp_all [moWork, bI]; done)
          exact W.zret (v := 0) hx hb hr rfl (fun t9 ht hW => ⟨⟨0, V_14, rfl, ⟨by rw [hfin]; exact hM_14, hR_14, by rw [hfin]⟩, mB_of ht hV⟩, hS.F ht⟩) hS.2.2 d_Mo_work_60
        · refine lv_iconst (v := 1) hx hb d_Mo_work_48 (by decide) ?_
          refine lv_goto (tgt := 53) hx hb d_Mo_work_49 (by decide) ?_
          refine lv_istore_n (lv' := [(3, .int 1), (2, .int (-1)), (0, .ref mo), (1, .int h)]) hx hb d_Mo_work_53 rfl hl (by decide) rfl (fun ls hl => ?_)
          refine lv_aload_n hx hb d_Mo_work_54 rfl (lv_at hl 2 rfl) ?_
          refine lv_iload_n hx hb d_Mo_work_55 rfl (lv_at hl 1 rfl) ?_
          refine pf_Mo_38 hx hb hW hown hG hV hS hm_5 d_Mo_work_56 (fun H locs hV hS => ?_)
          replace hV : hv D vwCl N0 (hu V_4 mo (.inr (7, [.int f_3, .int (ρ.s 1), .int (ρ.s 2), .int (ρ.s 3), .ref (ad 0), .ref (ad 1), .ref (ad 2), .ref (ad 3), .ref (ad 4), .ref (ad 5), .ref (ad 6), .ref (ad 7), .ref (ad 8), .int (-1), .ref (ad 9), .ref (ad 10), .ref (ad 11), .ref (ad 12), .ref (ad 13), .ref (ad 14), .ref (ad 15), .ref (ad 16), .ref (ad 17), .ref (ad 18), .ref (ad 19), .ref (ad 20), .ref (ad 21), .ref (ad 22), .ref (ad 23), .ref (ad 24), .ref (ad 25)]))) H := hV
          generalize hV_V_16 : hu V_4 mo (.inr (7, [.int f_3, .int (ρ.s 1), .int (ρ.s 2), .int (ρ.s 3), .ref (ad 0), .ref (ad 1), .ref (ad 2), .ref (ad 3), .ref (ad 4), .ref (ad 5), .ref (ad 6), .ref (ad 7), .ref (ad 8), .int (-1), .ref (ad 9), .ref (ad 10), .ref (ad 11), .ref (ad 12), .ref (ad 13), .ref (ad 14), .ref (ad 15), .ref (ad 16), .ref (ad 17), .ref (ad 18), .ref (ad 19), .ref (ad 20), .ref (ad 21), .ref (ad 22), .ref (ad 23), .ref (ad 24), .ref (ad 25)])) = V_16 at hV
          have hM_16 : mdOk k V_16 mo ad ((ρ.ws 0 f_3).ws 4 (-1)) := by rw [← hV_V_16]; exact md_put hM_4 4 (-1)
          have hR_16 : mdFr mo ad V V_16 := by rw [← hV_V_16]; exact hR_4.m
          have hm_17 : V_16 mo = some (.inr (7, [.int f_3, .int (ρ.s 1), .int (ρ.s 2), .int (ρ.s 3), .ref (ad 0), .ref (ad 1), .ref (ad 2), .ref (ad 3), .ref (ad 4), .ref (ad 5), .ref (ad 6), .ref (ad 7), .ref (ad 8), .int (-1), .ref (ad 9), .ref (ad 10), .ref (ad 11), .ref (ad 12), .ref (ad 13), .ref (ad 14), .ref (ad 15), .ref (ad 16), .ref (ad 17), .ref (ad 18), .ref (ad 19), .ref (ad 20), .ref (ad 21), .ref (ad 22), .ref (ad 23), .ref (ad 24), .ref (ad 25)])) := hM_16.1
          refine lv_iload_n hx hb d_Mo_work_59 rfl (lv_at hl 0 rfl) ?_
          try simp only [bI_ne0, bI_eq0, decide_eq_true_eq, decide_eq_false_iff_not, Bool.not_eq_false, Bool.not_eq_true, Decidable.not_not] at c_2
          try simp only [bI_ne0, bI_eq0, decide_eq_true_eq, decide_eq_false_iff_not, Bool.not_eq_false, Bool.not_eq_true, Decidable.not_not] at c_6
          try simp only [bI_ne0, bI_eq0, decide_eq_true_eq, decide_eq_false_iff_not, Bool.not_eq_false, Bool.not_eq_true, Decidable.not_not] at c_7
          try simp only [bI_ne0, bI_eq0, decide_eq_true_eq, decide_eq_false_iff_not, Bool.not_eq_false, Bool.not_eq_true, Decidable.not_not] at c_13
          subst ef_3
          have hfin : moWork ρ h = (1, ((ρ.ws 0 (moAF ρ h)).ws 4 (-1))) := by first | (simp only [moWork, bI, c_2, c_6, c_7, c_13, decide_true, decide_false, Bool.true_and, Bool.and_true, Bool.false_and, Bool.and_false, Bool.true_or, Bool.or_true, Bool.false_or, Bool.or_false, Bool.not_true, Bool.not_false, if_true, if_false, Bool.false_eq_true, Bool.true_eq_false, reduceIte, eq_self]; done) | (simp [moWork, bI, c_2, c_6, c_7, c_13]; done) | (simp_all [moWork, bI]; done)
          exact W.zret (v := 1) hx hb hr rfl (fun t9 ht hW => ⟨⟨1, V_16, rfl, ⟨by rw [hfin]; exact hM_16, hR_16, by rw [hfin]⟩, mB_of ht hV⟩, hS.F ht⟩) hS.2.2 d_Mo_work_60
    · refine lv_iconst (v := 0) hx hb d_Mo_work_24 (by decide) ?_
      try simp only [bI_ne0, bI_eq0, decide_eq_true_eq, decide_eq_false_iff_not, Bool.not_eq_false, Bool.not_eq_true, Decidable.not_not] at c_2
      try simp only [bI_ne0, bI_eq0, decide_eq_true_eq, decide_eq_false_iff_not, Bool.not_eq_false, Bool.not_eq_true, Decidable.not_not] at c_6
      subst ef_3
      have hfin : moWork ρ h = (0, (ρ.ws 0 (moAF ρ h))) := by first | (simp only [moWork, bI, c_2, c_6, decide_true, decide_false, Bool.true_and, Bool.and_true, Bool.false_and, Bool.and_false, Bool.true_or, Bool.or_true, Bool.false_or, Bool.or_false, Bool.not_true, Bool.not_false, if_true, if_false, Bool.false_eq_true, Bool.true_eq_false, reduceIte, eq_self]; done) | (simp [moWork, bI, c_2, c_6]; done) | (simp_all [moWork, bI]; done)
      exact W.zret (v := 0) hx hb hr rfl (fun t9 ht hW => ⟨⟨0, V_4, rfl, ⟨by rw [hfin]; exact hM_4, hR_4, by rw [hfin]⟩, mB_of ht hV⟩, hS.F ht⟩) hS.2.2 d_Mo_work_25
  · refine lv_iconst (v := 0) hx hb d_Mo_work_5 (by decide) ?_
    refine lv_goto (tgt := 14) hx hb d_Mo_work_6 (by decide) ?_
    refine pf_Mo_100 hx hb hW hown hG hV hS hm_1 d_Mo_work_14 (fun H locs hV hS => ?_)
    replace hV : hv D vwCl N0 (hu V mo (.inr (7, [.int 0, .int (ρ.s 1), .int (ρ.s 2), .int (ρ.s 3), .ref (ad 0), .ref (ad 1), .ref (ad 2), .ref (ad 3), .ref (ad 4), .ref (ad 5), .ref (ad 6), .ref (ad 7), .ref (ad 8), .int (ρ.s 4), .ref (ad 9), .ref (ad 10), .ref (ad 11), .ref (ad 12), .ref (ad 13), .ref (ad 14), .ref (ad 15), .ref (ad 16), .ref (ad 17), .ref (ad 18), .ref (ad 19), .ref (ad 20), .ref (ad 21), .ref (ad 22), .ref (ad 23), .ref (ad 24), .ref (ad 25)]))) H := hV
    generalize hV_V_18 : hu V mo (.inr (7, [.int 0, .int (ρ.s 1), .int (ρ.s 2), .int (ρ.s 3), .ref (ad 0), .ref (ad 1), .ref (ad 2), .ref (ad 3), .ref (ad 4), .ref (ad 5), .ref (ad 6), .ref (ad 7), .ref (ad 8), .int (ρ.s 4), .ref (ad 9), .ref (ad 10), .ref (ad 11), .ref (ad 12), .ref (ad 13), .ref (ad 14), .ref (ad 15), .ref (ad 16), .ref (ad 17), .ref (ad 18), .ref (ad 19), .ref (ad 20), .ref (ad 21), .ref (ad 22), .ref (ad 23), .ref (ad 24), .ref (ad 25)])) = V_18 at hV
    have hM_18 : mdOk k V_18 mo ad (ρ.ws 0 0) := by rw [← hV_V_18]; exact md_put hM 0 0
    have hR_18 : mdFr mo ad V V_18 := by rw [← hV_V_18]; exact (mdFr.rf (mo := mo) (ad := ad) (V := V)).m
    have hm_19 : V_18 mo = some (.inr (7, [.int 0, .int (ρ.s 1), .int (ρ.s 2), .int (ρ.s 3), .ref (ad 0), .ref (ad 1), .ref (ad 2), .ref (ad 3), .ref (ad 4), .ref (ad 5), .ref (ad 6), .ref (ad 7), .ref (ad 8), .int (ρ.s 4), .ref (ad 9), .ref (ad 10), .ref (ad 11), .ref (ad 12), .ref (ad 13), .ref (ad 14), .ref (ad 15), .ref (ad 16), .ref (ad 17), .ref (ad 18), .ref (ad 19), .ref (ad 20), .ref (ad 21), .ref (ad 22), .ref (ad 23), .ref (ad 24), .ref (ad 25)])) := hM_18.1
    refine lv_aload_n hx hb d_Mo_work_17 rfl (lv_at hl 0 rfl) ?_
    refine gf_Mo_100 hx hb hW hown hG hV hm_19 d_Mo_work_18 ?_
    refine lv_if_eq (tgt := 26) hx hb d_Mo_work_21 (by decide) (fun _ => ?_) (fun q => absurd q (by decide))
    refine lv_iload_n hx hb d_Mo_work_26 rfl (lv_at hl 1 rfl) ?_
    refine lv_if_ne (tgt := 34) hx hb d_Mo_work_27 (by decide) (fun c_20 => ?_) (fun c_20 => ?_)
    · refine lv_iload_n hx hb d_Mo_work_34 rfl (lv_at hl 1 rfl) ?_
      refine lv_sipush (v := 1000) hx hb d_Mo_work_35 (by decide) ?_
      refine lv_irem hx hb d_Mo_work_38 (by decide) ?_
      refine lv_istore_n (lv' := [(2, .int (h - h / 1000 * 1000)), (0, .ref mo), (1, .int h)]) hx hb d_Mo_work_39 rfl hl (by decide) rfl (fun ls hl => ?_)
      refine lv_iload_n hx hb d_Mo_work_40 rfl (lv_at hl 0 rfl) ?_
      refine lv_aload_n hx hb d_Mo_work_41 rfl (lv_at hl 1 rfl) ?_
      refine gf_Mo_38 hx hb hW hown hG hV hm_19 d_Mo_work_42 ?_
      refine lv_icmp_eq (tgt := 52) hx hb d_Mo_work_45 (by decide) (fun c_21 => ?_) (fun c_21 => ?_)
      · refine lv_iconst (v := 0) hx hb d_Mo_work_52 (by decide) ?_
        refine lv_istore_n (lv' := [(3, .int 0), (2, .int (h - h / 1000 * 1000)), (0, .ref mo), (1, .int h)]) hx hb d_Mo_work_53 rfl hl (by decide) rfl (fun ls hl => ?_)
        refine lv_aload_n hx hb d_Mo_work_54 rfl (lv_at hl 2 rfl) ?_
        refine lv_iload_n hx hb d_Mo_work_55 rfl (lv_at hl 1 rfl) ?_
        refine pf_Mo_38 hx hb hW hown hG hV hS hm_19 d_Mo_work_56 (fun H locs hV hS => ?_)
        replace hV : hv D vwCl N0 (hu V_18 mo (.inr (7, [.int 0, .int (ρ.s 1), .int (ρ.s 2), .int (ρ.s 3), .ref (ad 0), .ref (ad 1), .ref (ad 2), .ref (ad 3), .ref (ad 4), .ref (ad 5), .ref (ad 6), .ref (ad 7), .ref (ad 8), .int (h - h / 1000 * 1000), .ref (ad 9), .ref (ad 10), .ref (ad 11), .ref (ad 12), .ref (ad 13), .ref (ad 14), .ref (ad 15), .ref (ad 16), .ref (ad 17), .ref (ad 18), .ref (ad 19), .ref (ad 20), .ref (ad 21), .ref (ad 22), .ref (ad 23), .ref (ad 24), .ref (ad 25)]))) H := hV
        generalize hV_V_22 : hu V_18 mo (.inr (7, [.int 0, .int (ρ.s 1), .int (ρ.s 2), .int (ρ.s 3), .ref (ad 0), .ref (ad 1), .ref (ad 2), .ref (ad 3), .ref (ad 4), .ref (ad 5), .ref (ad 6), .ref (ad 7), .ref (ad 8), .int (h - h / 1000 * 1000), .ref (ad 9), .ref (ad 10), .ref (ad 11), .ref (ad 12), .ref (ad 13), .ref (ad 14), .ref (ad 15), .ref (ad 16), .ref (ad 17), .ref (ad 18), .ref (ad 19), .ref (ad 20), .ref (ad 21), .ref (ad 22), .ref (ad 23), .ref (ad 24), .ref (ad 25)])) = V_22 at hV
        have hM_22 : mdOk k V_22 mo ad ((ρ.ws 0 0).ws 4 (h - h / 1000 * 1000)) := by rw [← hV_V_22]; exact md_put hM_18 4 (h - h / 1000 * 1000)
        have hR_22 : mdFr mo ad V V_22 := by rw [← hV_V_22]; exact hR_18.m
        have hm_23 : V_22 mo = some (.inr (7, [.int 0, .int (ρ.s 1), .int (ρ.s 2), .int (ρ.s 3), .ref (ad 0), .ref (ad 1), .ref (ad 2), .ref (ad 3), .ref (ad 4), .ref (ad 5), .ref (ad 6), .ref (ad 7), .ref (ad 8), .int (h - h / 1000 * 1000), .ref (ad 9), .ref (ad 10), .ref (ad 11), .ref (ad 12), .ref (ad 13), .ref (ad 14), .ref (ad 15), .ref (ad 16), .ref (ad 17), .ref (ad 18), .ref (ad 19), .ref (ad 20), .ref (ad 21), .ref (ad 22), .ref (ad 23), .ref (ad 24), .ref (ad 25)])) := hM_22.1
        refine lv_iload_n hx hb d_Mo_work_59 rfl (lv_at hl 0 rfl) ?_
        try simp only [bI_ne0, bI_eq0, decide_eq_true_eq, decide_eq_false_iff_not, Bool.not_eq_false, Bool.not_eq_true, Decidable.not_not] at c_2
        try simp only [bI_ne0, bI_eq0, decide_eq_true_eq, decide_eq_false_iff_not, Bool.not_eq_false, Bool.not_eq_true, Decidable.not_not] at c_20
        try simp only [bI_ne0, bI_eq0, decide_eq_true_eq, decide_eq_false_iff_not, Bool.not_eq_false, Bool.not_eq_true, Decidable.not_not] at c_21
        have hfin : moWork ρ h = (0, ((ρ.ws 0 0).ws 4 (h - h / 1000 * 1000))) := by first | (simp only [moWork, bI, c_2, c_20, eq_true c_21, decide_true, decide_false, Bool.true_and, Bool.and_true, Bool.false_and, Bool.and_false, Bool.true_or, Bool.or_true, Bool.false_or, Bool.or_false, Bool.not_true, Bool.not_false, if_true, if_false, Bool.false_eq_true, Bool.true_eq_false, reduceIte, eq_self]; done) | (simp [moWork, bI, c_2, c_20, eq_true c_21]; done) | (simp_all [moWork, bI]; done)
        exact W.zret (v := 0) hx hb hr rfl (fun t9 ht hW => ⟨⟨0, V_22, rfl, ⟨by rw [hfin]; exact hM_22, hR_22, by rw [hfin]⟩, mB_of ht hV⟩, hS.F ht⟩) hS.2.2 d_Mo_work_60
      · refine lv_iconst (v := 1) hx hb d_Mo_work_48 (by decide) ?_
        refine lv_goto (tgt := 53) hx hb d_Mo_work_49 (by decide) ?_
        refine lv_istore_n (lv' := [(3, .int 1), (2, .int (h - h / 1000 * 1000)), (0, .ref mo), (1, .int h)]) hx hb d_Mo_work_53 rfl hl (by decide) rfl (fun ls hl => ?_)
        refine lv_aload_n hx hb d_Mo_work_54 rfl (lv_at hl 2 rfl) ?_
        refine lv_iload_n hx hb d_Mo_work_55 rfl (lv_at hl 1 rfl) ?_
        refine pf_Mo_38 hx hb hW hown hG hV hS hm_19 d_Mo_work_56 (fun H locs hV hS => ?_)
        replace hV : hv D vwCl N0 (hu V_18 mo (.inr (7, [.int 0, .int (ρ.s 1), .int (ρ.s 2), .int (ρ.s 3), .ref (ad 0), .ref (ad 1), .ref (ad 2), .ref (ad 3), .ref (ad 4), .ref (ad 5), .ref (ad 6), .ref (ad 7), .ref (ad 8), .int (h - h / 1000 * 1000), .ref (ad 9), .ref (ad 10), .ref (ad 11), .ref (ad 12), .ref (ad 13), .ref (ad 14), .ref (ad 15), .ref (ad 16), .ref (ad 17), .ref (ad 18), .ref (ad 19), .ref (ad 20), .ref (ad 21), .ref (ad 22), .ref (ad 23), .ref (ad 24), .ref (ad 25)]))) H := hV
        generalize hV_V_24 : hu V_18 mo (.inr (7, [.int 0, .int (ρ.s 1), .int (ρ.s 2), .int (ρ.s 3), .ref (ad 0), .ref (ad 1), .ref (ad 2), .ref (ad 3), .ref (ad 4), .ref (ad 5), .ref (ad 6), .ref (ad 7), .ref (ad 8), .int (h - h / 1000 * 1000), .ref (ad 9), .ref (ad 10), .ref (ad 11), .ref (ad 12), .ref (ad 13), .ref (ad 14), .ref (ad 15), .ref (ad 16), .ref (ad 17), .ref (ad 18), .ref (ad 19), .ref (ad 20), .ref (ad 21), .ref (ad 22), .ref (ad 23), .ref (ad 24), .ref (ad 25)])) = V_24 at hV
        have hM_24 : mdOk k V_24 mo ad ((ρ.ws 0 0).ws 4 (h - h / 1000 * 1000)) := by rw [← hV_V_24]; exact md_put hM_18 4 (h - h / 1000 * 1000)
        have hR_24 : mdFr mo ad V V_24 := by rw [← hV_V_24]; exact hR_18.m
        have hm_25 : V_24 mo = some (.inr (7, [.int 0, .int (ρ.s 1), .int (ρ.s 2), .int (ρ.s 3), .ref (ad 0), .ref (ad 1), .ref (ad 2), .ref (ad 3), .ref (ad 4), .ref (ad 5), .ref (ad 6), .ref (ad 7), .ref (ad 8), .int (h - h / 1000 * 1000), .ref (ad 9), .ref (ad 10), .ref (ad 11), .ref (ad 12), .ref (ad 13), .ref (ad 14), .ref (ad 15), .ref (ad 16), .ref (ad 17), .ref (ad 18), .ref (ad 19), .ref (ad 20), .ref (ad 21), .ref (ad 22), .ref (ad 23), .ref (ad 24), .ref (ad 25)])) := hM_24.1
        refine lv_iload_n hx hb d_Mo_work_59 rfl (lv_at hl 0 rfl) ?_
        try simp only [bI_ne0, bI_eq0, decide_eq_true_eq, decide_eq_false_iff_not, Bool.not_eq_false, Bool.not_eq_true, Decidable.not_not] at c_2
        try simp only [bI_ne0, bI_eq0, decide_eq_true_eq, decide_eq_false_iff_not, Bool.not_eq_false, Bool.not_eq_true, Decidable.not_not] at c_20
        try simp only [bI_ne0, bI_eq0, decide_eq_true_eq, decide_eq_false_iff_not, Bool.not_eq_false, Bool.not_eq_true, Decidable.not_not] at c_21
        have hfin : moWork ρ h = (1, ((ρ.ws 0 0).ws 4 (h - h / 1000 * 1000))) := by first | (simp only [moWork, bI, c_2, c_20, c_21, decide_true, decide_false, Bool.true_and, Bool.and_true, Bool.false_and, Bool.and_false, Bool.true_or, Bool.or_true, Bool.false_or, Bool.or_false, Bool.not_true, Bool.not_false, if_true, if_false, Bool.false_eq_true, Bool.true_eq_false, reduceIte, eq_self]; done) | (simp [moWork, bI, c_2, c_20, c_21]; done) | (simp_all [moWork, bI]; done)
        exact W.zret (v := 1) hx hb hr rfl (fun t9 ht hW => ⟨⟨1, V_24, rfl, ⟨by rw [hfin]; exact hM_24, hR_24, by rw [hfin]⟩, mB_of ht hV⟩, hS.F ht⟩) hS.2.2 d_Mo_work_60
    · refine lv_iconst (v := (-1)) hx hb d_Mo_work_30 (by decide) ?_
      refine lv_goto (tgt := 39) hx hb d_Mo_work_31 (by decide) ?_
      refine lv_istore_n (lv' := [(2, .int (-1)), (0, .ref mo), (1, .int h)]) hx hb d_Mo_work_39 rfl hl (by decide) rfl (fun ls hl => ?_)
      refine lv_iload_n hx hb d_Mo_work_40 rfl (lv_at hl 0 rfl) ?_
      refine lv_aload_n hx hb d_Mo_work_41 rfl (lv_at hl 1 rfl) ?_
      refine gf_Mo_38 hx hb hW hown hG hV hm_19 d_Mo_work_42 ?_
      refine lv_icmp_eq (tgt := 52) hx hb d_Mo_work_45 (by decide) (fun c_26 => ?_) (fun c_26 => ?_)
      · refine lv_iconst (v := 0) hx hb d_Mo_work_52 (by decide) ?_
        refine lv_istore_n (lv' := [(3, .int 0), (2, .int (-1)), (0, .ref mo), (1, .int h)]) hx hb d_Mo_work_53 rfl hl (by decide) rfl (fun ls hl => ?_)
        refine lv_aload_n hx hb d_Mo_work_54 rfl (lv_at hl 2 rfl) ?_
        refine lv_iload_n hx hb d_Mo_work_55 rfl (lv_at hl 1 rfl) ?_
        refine pf_Mo_38 hx hb hW hown hG hV hS hm_19 d_Mo_work_56 (fun H locs hV hS => ?_)
        replace hV : hv D vwCl N0 (hu V_18 mo (.inr (7, [.int 0, .int (ρ.s 1), .int (ρ.s 2), .int (ρ.s 3), .ref (ad 0), .ref (ad 1), .ref (ad 2), .ref (ad 3), .ref (ad 4), .ref (ad 5), .ref (ad 6), .ref (ad 7), .ref (ad 8), .int (-1), .ref (ad 9), .ref (ad 10), .ref (ad 11), .ref (ad 12), .ref (ad 13), .ref (ad 14), .ref (ad 15), .ref (ad 16), .ref (ad 17), .ref (ad 18), .ref (ad 19), .ref (ad 20), .ref (ad 21), .ref (ad 22), .ref (ad 23), .ref (ad 24), .ref (ad 25)]))) H := hV
        generalize hV_V_27 : hu V_18 mo (.inr (7, [.int 0, .int (ρ.s 1), .int (ρ.s 2), .int (ρ.s 3), .ref (ad 0), .ref (ad 1), .ref (ad 2), .ref (ad 3), .ref (ad 4), .ref (ad 5), .ref (ad 6), .ref (ad 7), .ref (ad 8), .int (-1), .ref (ad 9), .ref (ad 10), .ref (ad 11), .ref (ad 12), .ref (ad 13), .ref (ad 14), .ref (ad 15), .ref (ad 16), .ref (ad 17), .ref (ad 18), .ref (ad 19), .ref (ad 20), .ref (ad 21), .ref (ad 22), .ref (ad 23), .ref (ad 24), .ref (ad 25)])) = V_27 at hV
        have hM_27 : mdOk k V_27 mo ad ((ρ.ws 0 0).ws 4 (-1)) := by rw [← hV_V_27]; exact md_put hM_18 4 (-1)
        have hR_27 : mdFr mo ad V V_27 := by rw [← hV_V_27]; exact hR_18.m
        have hm_28 : V_27 mo = some (.inr (7, [.int 0, .int (ρ.s 1), .int (ρ.s 2), .int (ρ.s 3), .ref (ad 0), .ref (ad 1), .ref (ad 2), .ref (ad 3), .ref (ad 4), .ref (ad 5), .ref (ad 6), .ref (ad 7), .ref (ad 8), .int (-1), .ref (ad 9), .ref (ad 10), .ref (ad 11), .ref (ad 12), .ref (ad 13), .ref (ad 14), .ref (ad 15), .ref (ad 16), .ref (ad 17), .ref (ad 18), .ref (ad 19), .ref (ad 20), .ref (ad 21), .ref (ad 22), .ref (ad 23), .ref (ad 24), .ref (ad 25)])) := hM_27.1
        refine lv_iload_n hx hb d_Mo_work_59 rfl (lv_at hl 0 rfl) ?_
        try simp only [bI_ne0, bI_eq0, decide_eq_true_eq, decide_eq_false_iff_not, Bool.not_eq_false, Bool.not_eq_true, Decidable.not_not] at c_2
        try simp only [bI_ne0, bI_eq0, decide_eq_true_eq, decide_eq_false_iff_not, Bool.not_eq_false, Bool.not_eq_true, Decidable.not_not] at c_20
        try simp only [bI_ne0, bI_eq0, decide_eq_true_eq, decide_eq_false_iff_not, Bool.not_eq_false, Bool.not_eq_true, Decidable.not_not] at c_26
        have hfin : moWork ρ h = (0, ((ρ.ws 0 0).ws 4 (-1))) := by first | (simp only [moWork, bI, c_2, c_20, eq_true c_26, decide_true, decide_false, Bool.true_and, Bool.and_true, Bool.false_and, Bool.and_false, Bool.true_or, Bool.or_true, Bool.false_or, Bool.or_false, Bool.not_true, Bool.not_false, if_true, if_false, Bool.false_eq_true, Bool.true_eq_false, reduceIte, eq_self]; done) | (simp [moWork, bI, c_2, c_20, eq_true c_26]; done) | (simp_all [moWork, bI]; done)
        exact W.zret (v := 0) hx hb hr rfl (fun t9 ht hW => ⟨⟨0, V_27, rfl, ⟨by rw [hfin]; exact hM_27, hR_27, by rw [hfin]⟩, mB_of ht hV⟩, hS.F ht⟩) hS.2.2 d_Mo_work_60
      · refine lv_iconst (v := 1) hx hb d_Mo_work_48 (by decide) ?_
        refine lv_goto (tgt := 53) hx hb d_Mo_work_49 (by decide) ?_
        refine lv_istore_n (lv' := [(3, .int 1), (2, .int (-1)), (0, .ref mo), (1, .int h)]) hx hb d_Mo_work_53 rfl hl (by decide) rfl (fun ls hl => ?_)
        refine lv_aload_n hx hb d_Mo_work_54 rfl (lv_at hl 2 rfl) ?_
        refine lv_iload_n hx hb d_Mo_work_55 rfl (lv_at hl 1 rfl) ?_
        refine pf_Mo_38 hx hb hW hown hG hV hS hm_19 d_Mo_work_56 (fun H locs hV hS => ?_)
        replace hV : hv D vwCl N0 (hu V_18 mo (.inr (7, [.int 0, .int (ρ.s 1), .int (ρ.s 2), .int (ρ.s 3), .ref (ad 0), .ref (ad 1), .ref (ad 2), .ref (ad 3), .ref (ad 4), .ref (ad 5), .ref (ad 6), .ref (ad 7), .ref (ad 8), .int (-1), .ref (ad 9), .ref (ad 10), .ref (ad 11), .ref (ad 12), .ref (ad 13), .ref (ad 14), .ref (ad 15), .ref (ad 16), .ref (ad 17), .ref (ad 18), .ref (ad 19), .ref (ad 20), .ref (ad 21), .ref (ad 22), .ref (ad 23), .ref (ad 24), .ref (ad 25)]))) H := hV
        generalize hV_V_29 : hu V_18 mo (.inr (7, [.int 0, .int (ρ.s 1), .int (ρ.s 2), .int (ρ.s 3), .ref (ad 0), .ref (ad 1), .ref (ad 2), .ref (ad 3), .ref (ad 4), .ref (ad 5), .ref (ad 6), .ref (ad 7), .ref (ad 8), .int (-1), .ref (ad 9), .ref (ad 10), .ref (ad 11), .ref (ad 12), .ref (ad 13), .ref (ad 14), .ref (ad 15), .ref (ad 16), .ref (ad 17), .ref (ad 18), .ref (ad 19), .ref (ad 20), .ref (ad 21), .ref (ad 22), .ref (ad 23), .ref (ad 24), .ref (ad 25)])) = V_29 at hV
        have hM_29 : mdOk k V_29 mo ad ((ρ.ws 0 0).ws 4 (-1)) := by rw [← hV_V_29]; exact md_put hM_18 4 (-1)
        have hR_29 : mdFr mo ad V V_29 := by rw [← hV_V_29]; exact hR_18.m
        have hm_30 : V_29 mo = some (.inr (7, [.int 0, .int (ρ.s 1), .int (ρ.s 2), .int (ρ.s 3), .ref (ad 0), .ref (ad 1), .ref (ad 2), .ref (ad 3), .ref (ad 4), .ref (ad 5), .ref (ad 6), .ref (ad 7), .ref (ad 8), .int (-1), .ref (ad 9), .ref (ad 10), .ref (ad 11), .ref (ad 12), .ref (ad 13), .ref (ad 14), .ref (ad 15), .ref (ad 16), .ref (ad 17), .ref (ad 18), .ref (ad 19), .ref (ad 20), .ref (ad 21), .ref (ad 22), .ref (ad 23), .ref (ad 24), .ref (ad 25)])) := hM_29.1
        refine lv_iload_n hx hb d_Mo_work_59 rfl (lv_at hl 0 rfl) ?_
        try simp only [bI_ne0, bI_eq0, decide_eq_true_eq, decide_eq_false_iff_not, Bool.not_eq_false, Bool.not_eq_true, Decidable.not_not] at c_2
        try simp only [bI_ne0, bI_eq0, decide_eq_true_eq, decide_eq_false_iff_not, Bool.not_eq_false, Bool.not_eq_true, Decidable.not_not] at c_20
        try simp only [bI_ne0, bI_eq0, decide_eq_true_eq, decide_eq_false_iff_not, Bool.not_eq_false, Bool.not_eq_true, Decidable.not_not] at c_26
        have hfin : moWork ρ h = (1, ((ρ.ws 0 0).ws 4 (-1))) := by first | (simp only [moWork, bI, c_2, c_20, c_26, decide_true, decide_false, Bool.true_and, Bool.and_true, Bool.false_and, Bool.and_false, Bool.true_or, Bool.or_true, Bool.false_or, Bool.or_false, Bool.not_true, Bool.not_false, if_true, if_false, Bool.false_eq_true, Bool.true_eq_false, reduceIte, eq_self]; done) | (simp [moWork, bI, c_2, c_20, c_26]; done) | (simp_all [moWork, bI]; done)
        exact W.zret (v := 1) hx hb hr rfl (fun t9 ht hW => ⟨⟨1, V_29, rfl, ⟨by rw [hfin]; exact hM_29, hR_29, by rw [hfin]⟩, mB_of ht hV⟩, hS.F ht⟩) hS.2.2 d_Mo_work_60
set_option maxHeartbeats 4000000 in
set_option maxRecDepth 100000 in
/-- begin -/
theorem c_Mo_begin (l : Launch) (D : va_G) (N0 : Nat) (k : Nat → Nat) (V : HV) (mo : Nat) (ad : Nat → Nat) (ρ : MS) (hM : mdOk k V mo ad ρ) (x y u v : Int32) (n6 : Nat) (hn6 : n6 ≤ 10) (en6 : ρ.I 0 6 = nI n6) : Met l y_Mo_begin (.code y_Mo_begin b_Mo_begin 6 (some .int) :: WS) ({ frames := 2, cells := 0, slots := 0, locals := 41 }) (mP D N0 k [.ref mo, .int x, .int y, .int u, .int v] V) (va_Qi (fun r V' => mdOk k V' mo ad (moBegin ρ n6 x y u v).2 ∧ mdFr mo ad V V' ∧ r = (moBegin ρ n6 x y u v).1) (mB D N0) (hA N0)) 0 0 (hA N0) := by
  refine Met.ofW (cc := b_Mo_begin) (maxL := 6) (ret := (some .int)) (by decide) rfl ?_
  intro p e s m args below meth c s₁ B hml hv0
  obtain ⟨rfl, hG, hV⟩ := hv0
  have hx := B.exec
  have hb := B.bytes
  have hr := B.returns
  have hts := atoms_spec (ws := .code y_Mo_begin b_Mo_begin 6 (some .int) :: WS) B.pre
  have hW : ∀ w ∈ WS, w.before _ s = true := fun w h => hts w (List.mem_cons_of_mem _ h)
  have hown : s.vm.findClass "BoardHouseModel" = some m.cls := findClass_of_methodNamed B.named
  have hlocks := B.notSynchronized
  have hS : va_S (hA N0) s.heap s.heap [] := va_S.rf
  have hl := lv_entry ([.ref mo, .int x, .int y, .int u, .int v]) (n := 6) (Nat.le_of_ble_eq_true rfl)
  rw [lg_entry_eq]
  generalize (lg_sl ([.ref mo, .int x, .int y, .int u, .int v]) ++ List.replicate (6 - (lg_sl ([.ref mo, .int x, .int y, .int u, .int v])).length) Slot.unset).toArray = ls at hl ⊢
  have hl : lv_has ls 6 [(0, .ref mo), (1, .int x), (2, .int y), (3, .int u), (4, .int v)] := hl
  have hm_1 : V mo = some (.inr (7, [.int (ρ.s 0), .int (ρ.s 1), .int (ρ.s 2), .int (ρ.s 3), .ref (ad 0), .ref (ad 1), .ref (ad 2), .ref (ad 3), .ref (ad 4), .ref (ad 5), .ref (ad 6), .ref (ad 7), .ref (ad 8), .int (ρ.s 4), .ref (ad 9), .ref (ad 10), .ref (ad 11), .ref (ad 12), .ref (ad 13), .ref (ad 14), .ref (ad 15), .ref (ad 16), .ref (ad 17), .ref (ad 18), .ref (ad 19), .ref (ad 20), .ref (ad 21), .ref (ad 22), .ref (ad 23), .ref (ad 24), .ref (ad 25)])) := hM.1
  have hm_1_0 : V (ad 0) = some (eI k 8 (ρ.I 0)) := hM.a0
  have hm_1_9 : V (ad 9) = some (eZ k 10 (ρ.I 9)) := hM.a9
  have hm_1_10 : V (ad 10) = some (eI k 10 (ρ.I 10)) := hM.a10
  have hm_1_11 : V (ad 11) = some (eI k 10 (ρ.I 11)) := hM.a11
  have hm_1_12 : V (ad 12) = some (eI k 10 (ρ.I 12)) := hM.a12
  have hm_1_13 : V (ad 13) = some (eI k 10 (ρ.I 13)) := hM.a13
  refine lv_aload_n hx hb d_Mo_begin_0 rfl (lv_at hl 0 rfl) ?_
  refine lv_iconst (v := 0) hx hb d_Mo_begin_1 (by decide) ?_
  refine pf_Mo_100 hx hb hW hown hG hV hS hm_1 d_Mo_begin_2 (fun H locs hV hS => ?_)
  replace hV : hv D vwCl N0 (hu V mo (.inr (7, [.int 0, .int (ρ.s 1), .int (ρ.s 2), .int (ρ.s 3), .ref (ad 0), .ref (ad 1), .ref (ad 2), .ref (ad 3), .ref (ad 4), .ref (ad 5), .ref (ad 6), .ref (ad 7), .ref (ad 8), .int (ρ.s 4), .ref (ad 9), .ref (ad 10), .ref (ad 11), .ref (ad 12), .ref (ad 13), .ref (ad 14), .ref (ad 15), .ref (ad 16), .ref (ad 17), .ref (ad 18), .ref (ad 19), .ref (ad 20), .ref (ad 21), .ref (ad 22), .ref (ad 23), .ref (ad 24), .ref (ad 25)]))) H := hV
  generalize hV_V_2 : hu V mo (.inr (7, [.int 0, .int (ρ.s 1), .int (ρ.s 2), .int (ρ.s 3), .ref (ad 0), .ref (ad 1), .ref (ad 2), .ref (ad 3), .ref (ad 4), .ref (ad 5), .ref (ad 6), .ref (ad 7), .ref (ad 8), .int (ρ.s 4), .ref (ad 9), .ref (ad 10), .ref (ad 11), .ref (ad 12), .ref (ad 13), .ref (ad 14), .ref (ad 15), .ref (ad 16), .ref (ad 17), .ref (ad 18), .ref (ad 19), .ref (ad 20), .ref (ad 21), .ref (ad 22), .ref (ad 23), .ref (ad 24), .ref (ad 25)])) = V_2 at hV
  have hM_2 : mdOk k V_2 mo ad (ρ.ws 0 0) := by rw [← hV_V_2]; exact md_put hM 0 0
  have hR_2 : mdFr mo ad V V_2 := by rw [← hV_V_2]; exact (mdFr.rf (mo := mo) (ad := ad) (V := V)).m
  have hm_3 : V_2 mo = some (.inr (7, [.int 0, .int (ρ.s 1), .int (ρ.s 2), .int (ρ.s 3), .ref (ad 0), .ref (ad 1), .ref (ad 2), .ref (ad 3), .ref (ad 4), .ref (ad 5), .ref (ad 6), .ref (ad 7), .ref (ad 8), .int (ρ.s 4), .ref (ad 9), .ref (ad 10), .ref (ad 11), .ref (ad 12), .ref (ad 13), .ref (ad 14), .ref (ad 15), .ref (ad 16), .ref (ad 17), .ref (ad 18), .ref (ad 19), .ref (ad 20), .ref (ad 21), .ref (ad 22), .ref (ad 23), .ref (ad 24), .ref (ad 25)])) := hM_2.1
  have hm_3_0 : V_2 (ad 0) = some (eI k 8 (ρ.I 0)) := hM_2.a0
  have hm_3_9 : V_2 (ad 9) = some (eZ k 10 (ρ.I 9)) := hM_2.a9
  have hm_3_10 : V_2 (ad 10) = some (eI k 10 (ρ.I 10)) := hM_2.a10
  have hm_3_11 : V_2 (ad 11) = some (eI k 10 (ρ.I 11)) := hM_2.a11
  have hm_3_12 : V_2 (ad 12) = some (eI k 10 (ρ.I 12)) := hM_2.a12
  have hm_3_13 : V_2 (ad 13) = some (eI k 10 (ρ.I 13)) := hM_2.a13
  refine lv_aload_n hx hb d_Mo_begin_5 rfl (lv_at hl 0 rfl) ?_
  refine lv_bipush (v := 6) hx hb d_Mo_begin_6 (by decide) ?_
  refine rc_i (va_runV (As := [.int 6]) (rest := []) ⟨hx, hb, hml, hown, hts⟩ (c_Mo_isFull l D N0 k V_2 mo ad (ρ.ws 0 0) hM_2 6 (by omega) (by omega)) (cwV 1 hts (gi_V wm_Mo_152 wv_Mo_isFull ws_Mo_isFull wi_Mo wc_Mo_isFull) rfl rfl rfl (by decide +kernel) ⟨Nat.le_of_ble_eq_true rfl, Nat.le_of_ble_eq_true rfl⟩) (mP.preV hG hS hV hm_3 rfl) rfl rfl hl.1 rfl (lv_room (Nat.le_of_ble_eq_true rfl)) d_Mo_begin_8 ⟨Nat.le_of_ble_eq_true rfl, Nat.le_of_ble_eq_true rfl⟩) hS (fun H locs hV hS => ?_)
  refine W.eq (g2 := F0 m 11 ls [.int (bI (decide ((ρ.I 0) 6 = nI (liN 6))))]) rfl ?_
  refine lv_if_eq (tgt := 20) hx hb d_Mo_begin_11 (by decide) (fun c_4 => ?_) (fun c_4 => ?_)
  · refine lv_iload_n hx hb d_Mo_begin_20 rfl (lv_at hl 1 rfl) ?_
    refine lv_iload_n hx hb d_Mo_begin_21 rfl (lv_at hl 2 rfl) ?_
    refine rc_i (va_runS (As := [.int x, .int y]) (rest := []) ⟨hx, hb, hml, hown, hts⟩ (c_Mo_isCell l D N0 k V_2 x y) (va_cwS 2 hts (gi_S wm_Mo_114 wt_Mo_isCell wi_Mo wc_Mo_isCell) rfl rfl rfl (by decide +kernel) ⟨Nat.le_of_ble_eq_true rfl, Nat.le_of_ble_eq_true rfl⟩) (mP.preS hG hS hV) rfl rfl hl.1 rfl (lv_room (Nat.le_of_ble_eq_true rfl)) d_Mo_begin_22 ⟨Nat.le_of_ble_eq_true rfl, Nat.le_of_ble_eq_true rfl⟩) hS (fun H locs hV hS => ?_)
    refine lv_if_eq (tgt := 48) hx hb d_Mo_begin_25 (by decide) (fun c_5 => ?_) (fun c_5 => ?_)
    · refine lv_aload_n hx hb d_Mo_begin_48 rfl (lv_at hl 0 rfl) ?_
      refine lv_iconst (v := 2) hx hb d_Mo_begin_49 (by decide) ?_
      refine rc_I (va_runV (As := [.int 2]) (rest := []) ⟨hx, hb, hml, hown, hts⟩ (c_Mo_refuse l D N0 k V_2 mo ad (ρ.ws 0 0) hM_2 2) (cwV 1 hts (gi_V wm_Mo_155 wv_Mo_refuse ws_Mo_refuse wi_Mo wc_Mo_refuse) rfl rfl rfl (by decide +kernel) ⟨Nat.le_of_ble_eq_true rfl, Nat.le_of_ble_eq_true rfl⟩) (mP.preV hG hS hV hm_3 rfl) rfl rfl hl.1 rfl (lv_room (Nat.le_of_ble_eq_true rfl)) d_Mo_begin_50 ⟨Nat.le_of_ble_eq_true rfl, Nat.le_of_ble_eq_true rfl⟩) hS (fun r_6 V_7 H locs hp_8 hV hS => ?_)
      obtain ⟨hM_9, hM_9R, hM_9e⟩ := hp_8
      subst hM_9e
      try simp only [bI_ne0, bI_eq0, decide_eq_true_eq, decide_eq_false_iff_not, Bool.not_eq_false, Bool.not_eq_true, Decidable.not_not] at c_4
      try simp only [bI_ne0, bI_eq0, decide_eq_true_eq, decide_eq_false_iff_not, Bool.not_eq_false, Bool.not_eq_true, Decidable.not_not] at c_5
      have hfin : moBegin ρ n6 x y u v = ((-1), ((ρ.ws 0 0).ws 3 2)) := by first | (simp only [moBegin, c_4, c_5, decide_true, decide_false, Bool.true_and, Bool.and_true, Bool.false_and, Bool.and_false, Bool.true_or, Bool.or_true, Bool.false_or, Bool.or_false, Bool.not_true, Bool.not_false, if_true, if_false, Bool.false_eq_true, Bool.true_eq_false, reduceIte, eq_self]; done) | (simp [moBegin, c_4, c_5]; done) | (simp_all [moBegin]; done)
      exact W.iret (v := (-1)) hx hb hr (fun t9 ht hW => ⟨⟨(-1), V_7, rfl, ⟨by rw [hfin]; exact hM_9, hR_2.tr hM_9R, by rw [hfin]⟩, mB_of ht hV⟩, hS.F ht⟩) hS.2.2 d_Mo_begin_53
    · refine lv_iload_n hx hb d_Mo_begin_28 rfl (lv_at hl 3 rfl) ?_
      refine lv_iload hx hb d_Mo_begin_29 (lv_at hl 4 rfl) ?_
      refine rc_i (va_runS (As := [.int u, .int v]) (rest := []) ⟨hx, hb, hml, hown, hts⟩ (c_Mo_isCell l D N0 k V_2 u v) (va_cwS 2 hts (gi_S wm_Mo_114 wt_Mo_isCell wi_Mo wc_Mo_isCell) rfl rfl rfl (by decide +kernel) ⟨Nat.le_of_ble_eq_true rfl, Nat.le_of_ble_eq_true rfl⟩) (mP.preS hG hS hV) rfl rfl hl.1 rfl (lv_room (Nat.le_of_ble_eq_true rfl)) d_Mo_begin_31 ⟨Nat.le_of_ble_eq_true rfl, Nat.le_of_ble_eq_true rfl⟩) hS (fun H locs hV hS => ?_)
      refine lv_if_eq (tgt := 48) hx hb d_Mo_begin_34 (by decide) (fun c_10 => ?_) (fun c_10 => ?_)
      · refine lv_aload_n hx hb d_Mo_begin_48 rfl (lv_at hl 0 rfl) ?_
        refine lv_iconst (v := 2) hx hb d_Mo_begin_49 (by decide) ?_
        refine rc_I (va_runV (As := [.int 2]) (rest := []) ⟨hx, hb, hml, hown, hts⟩ (c_Mo_refuse l D N0 k V_2 mo ad (ρ.ws 0 0) hM_2 2) (cwV 1 hts (gi_V wm_Mo_155 wv_Mo_refuse ws_Mo_refuse wi_Mo wc_Mo_refuse) rfl rfl rfl (by decide +kernel) ⟨Nat.le_of_ble_eq_true rfl, Nat.le_of_ble_eq_true rfl⟩) (mP.preV hG hS hV hm_3 rfl) rfl rfl hl.1 rfl (lv_room (Nat.le_of_ble_eq_true rfl)) d_Mo_begin_50 ⟨Nat.le_of_ble_eq_true rfl, Nat.le_of_ble_eq_true rfl⟩) hS (fun r_11 V_12 H locs hp_13 hV hS => ?_)
        obtain ⟨hM_14, hM_14R, hM_14e⟩ := hp_13
        subst hM_14e
        try simp only [bI_ne0, bI_eq0, decide_eq_true_eq, decide_eq_false_iff_not, Bool.not_eq_false, Bool.not_eq_true, Decidable.not_not] at c_4
        try simp only [bI_ne0, bI_eq0, decide_eq_true_eq, decide_eq_false_iff_not, Bool.not_eq_false, Bool.not_eq_true, Decidable.not_not] at c_5
        try simp only [bI_ne0, bI_eq0, decide_eq_true_eq, decide_eq_false_iff_not, Bool.not_eq_false, Bool.not_eq_true, Decidable.not_not] at c_10
        have hfin : moBegin ρ n6 x y u v = ((-1), ((ρ.ws 0 0).ws 3 2)) := by first | (simp only [moBegin, c_4, c_5, c_10, decide_true, decide_false, Bool.true_and, Bool.and_true, Bool.false_and, Bool.and_false, Bool.true_or, Bool.or_true, Bool.false_or, Bool.or_false, Bool.not_true, Bool.not_false, if_true, if_false, Bool.false_eq_true, Bool.true_eq_false, reduceIte, eq_self]; done) | (simp [moBegin, c_4, c_5, c_10]; done) | (simp_all [moBegin]; done)
        exact W.iret (v := (-1)) hx hb hr (fun t9 ht hW => ⟨⟨(-1), V_12, rfl, ⟨by rw [hfin]; exact hM_14, hR_2.tr hM_14R, by rw [hfin]⟩, mB_of ht hV⟩, hS.F ht⟩) hS.2.2 d_Mo_begin_53
      · refine lv_iload_n hx hb d_Mo_begin_37 rfl (lv_at hl 1 rfl) ?_
        refine lv_iload_n hx hb d_Mo_begin_38 rfl (lv_at hl 3 rfl) ?_
        refine lv_icmp_gt (tgt := 48) hx hb d_Mo_begin_39 (by decide) (fun c_15 => ?_) (fun c_15 => ?_)
        · have c_15 := i_nle c_15
          refine lv_aload_n hx hb d_Mo_begin_48 rfl (lv_at hl 0 rfl) ?_
          refine lv_iconst (v := 2) hx hb d_Mo_begin_49 (by decide) ?_
          refine rc_I (va_runV (As := [.int 2]) (rest := []) ⟨hx, hb, hml, hown, hts⟩ (c_Mo_refuse l D N0 k V_2 mo ad (ρ.ws 0 0) hM_2 2) (cwV 1 hts (gi_V wm_Mo_155 wv_Mo_refuse ws_Mo_refuse wi_Mo wc_Mo_refuse) rfl rfl rfl (by decide +kernel) ⟨Nat.le_of_ble_eq_true rfl, Nat.le_of_ble_eq_true rfl⟩) (mP.preV hG hS hV hm_3 rfl) rfl rfl hl.1 rfl (lv_room (Nat.le_of_ble_eq_true rfl)) d_Mo_begin_50 ⟨Nat.le_of_ble_eq_true rfl, Nat.le_of_ble_eq_true rfl⟩) hS (fun r_16 V_17 H locs hp_18 hV hS => ?_)
          obtain ⟨hM_19, hM_19R, hM_19e⟩ := hp_18
          subst hM_19e
          try simp only [bI_ne0, bI_eq0, decide_eq_true_eq, decide_eq_false_iff_not, Bool.not_eq_false, Bool.not_eq_true, Decidable.not_not] at c_4
          try simp only [bI_ne0, bI_eq0, decide_eq_true_eq, decide_eq_false_iff_not, Bool.not_eq_false, Bool.not_eq_true, Decidable.not_not] at c_5
          try simp only [bI_ne0, bI_eq0, decide_eq_true_eq, decide_eq_false_iff_not, Bool.not_eq_false, Bool.not_eq_true, Decidable.not_not] at c_10
          try simp only [bI_ne0, bI_eq0, decide_eq_true_eq, decide_eq_false_iff_not, Bool.not_eq_false, Bool.not_eq_true, Decidable.not_not] at c_15
          have hfin : moBegin ρ n6 x y u v = ((-1), ((ρ.ws 0 0).ws 3 2)) := by first | (simp only [moBegin, c_4, c_5, c_10, c_15, decide_true, decide_false, Bool.true_and, Bool.and_true, Bool.false_and, Bool.and_false, Bool.true_or, Bool.or_true, Bool.false_or, Bool.or_false, Bool.not_true, Bool.not_false, if_true, if_false, Bool.false_eq_true, Bool.true_eq_false, reduceIte, eq_self]; done) | (simp [moBegin, c_4, c_5, c_10, c_15]; done) | (simp_all [moBegin]; done)
          exact W.iret (v := (-1)) hx hb hr (fun t9 ht hW => ⟨⟨(-1), V_17, rfl, ⟨by rw [hfin]; exact hM_19, hR_2.tr hM_19R, by rw [hfin]⟩, mB_of ht hV⟩, hS.F ht⟩) hS.2.2 d_Mo_begin_53
        · have c_15 := i_le c_15
          refine lv_iload_n hx hb d_Mo_begin_42 rfl (lv_at hl 2 rfl) ?_
          refine lv_iload hx hb d_Mo_begin_43 (lv_at hl 4 rfl) ?_
          refine lv_icmp_le (tgt := 54) hx hb d_Mo_begin_45 (by decide) (fun c_20 => ?_) (fun c_20 => ?_)
          · refine lv_iconst (v := 0) hx hb d_Mo_begin_54 (by decide) ?_
            refine lv_istore (lv' := [(5, .int 0), (0, .ref mo), (1, .int x), (2, .int y), (3, .int u), (4, .int v)]) hx hb d_Mo_begin_55 hl (by decide) rfl (fun ls hl => ?_)
            obtain ⟨Pb, hPb⟩ : ∃ z, z = moBgP ρ.I x y u v := ⟨_, rfl⟩
            have loop_21 : ∀ (n i : Nat) (H : Heap) (locs : List Loc) (ls : Array Slot), i ≤ n6 → n6 + 1 ≤ i + n → (anyF Pb 0 n6 = anyF Pb i (n6 - i)) → hv D vwCl N0 V_2 H → va_S (hA N0) s.heap H locs → lv_has ls 6 [(0, .ref mo), (1, .int x), (2, .int y), (3, .int u), (4, .int v), (5, .int (nI i))] → W p l e (headSpec (.code y_Mo_begin b_Mo_begin 6 (some .int) :: WS) ({ frames := 2, cells := 0, slots := 0, locals := 41 })).room s m #[.ref mo, .int x, .int y, .int u, .int v] below meth c H locs 0 0 (MQ below (va_Qi (fun r V' => mdOk k V' mo ad (moBegin ρ n6 x y u v).2 ∧ mdFr mo ad V V' ∧ r = (moBegin ρ n6 x y u v).1) (mB D N0) (hA N0)) #[.ref mo, .int x, .int y, .int u, .int v] s 0 0 (hA N0)) (F0 m 57 ls []) := by
              intro n
              induction n with
              | zero => intro i  H locs ls h1 h2; exact absurd h2 (by omega)
              | succ n ih =>
                intro i  H locs ls hi hin hI hV hS hl
                refine lv_iload hx hb d_Mo_begin_57 (lv_at hl 5 rfl) ?_
                refine lv_aload_n hx hb d_Mo_begin_59 rfl (lv_at hl 0 rfl) ?_
                refine gf_Mo_7 hx hb hW hown hG hV hm_3 d_Mo_begin_60 ?_
                refine lv_bipush (v := 6) hx hb d_Mo_begin_63 (by decide) ?_
                refine hv_iald hx hb hG.K hV 0 hm_3_0 rfl ((vp_in_nI (by omega) (by omega) : vp_in (nI 6) 8)) d_Mo_begin_65 ?_
                rw [show (6 : Int32).toNatClampNeg = 6 from rfl]
                refine W.eq (g2 := F0 m 66 ls [.int (nI n6), .int (nI i)]) (by rw [en6]) ?_
                refine lv_icmp_ge (tgt := 113) hx hb d_Mo_begin_66 (by decide) (fun c_22 => ?_) (fun c_22 => ?_)
                · have hge : n6 ≤ i := nI_le' c_22 (by omega) (by omega)
                  refine lv_aload_n hx hb d_Mo_begin_113 rfl (lv_at hl 0 rfl) ?_
                  refine lv_iconst (v := 0) hx hb d_Mo_begin_114 (by decide) ?_
                  refine pf_Mo_149 hx hb hW hown hG hV hS hm_3 d_Mo_begin_115 (fun H locs hV hS => ?_)
                  replace hV : hv D vwCl N0 (hu V_2 mo (.inr (7, [.int 0, .int (ρ.s 1), .int (ρ.s 2), .int 0, .ref (ad 0), .ref (ad 1), .ref (ad 2), .ref (ad 3), .ref (ad 4), .ref (ad 5), .ref (ad 6), .ref (ad 7), .ref (ad 8), .int (ρ.s 4), .ref (ad 9), .ref (ad 10), .ref (ad 11), .ref (ad 12), .ref (ad 13), .ref (ad 14), .ref (ad 15), .ref (ad 16), .ref (ad 17), .ref (ad 18), .ref (ad 19), .ref (ad 20), .ref (ad 21), .ref (ad 22), .ref (ad 23), .ref (ad 24), .ref (ad 25)]))) H := hV
                  generalize hV_V_23 : hu V_2 mo (.inr (7, [.int 0, .int (ρ.s 1), .int (ρ.s 2), .int 0, .ref (ad 0), .ref (ad 1), .ref (ad 2), .ref (ad 3), .ref (ad 4), .ref (ad 5), .ref (ad 6), .ref (ad 7), .ref (ad 8), .int (ρ.s 4), .ref (ad 9), .ref (ad 10), .ref (ad 11), .ref (ad 12), .ref (ad 13), .ref (ad 14), .ref (ad 15), .ref (ad 16), .ref (ad 17), .ref (ad 18), .ref (ad 19), .ref (ad 20), .ref (ad 21), .ref (ad 22), .ref (ad 23), .ref (ad 24), .ref (ad 25)])) = V_23 at hV
                  have hM_23 : mdOk k V_23 mo ad ((ρ.ws 0 0).ws 3 0) := by rw [← hV_V_23]; exact md_put hM_2 3 0
                  have hR_23 : mdFr mo ad V V_23 := by rw [← hV_V_23]; exact hR_2.m
                  have hm_24 : V_23 mo = some (.inr (7, [.int 0, .int (ρ.s 1), .int (ρ.s 2), .int 0, .ref (ad 0), .ref (ad 1), .ref (ad 2), .ref (ad 3), .ref (ad 4), .ref (ad 5), .ref (ad 6), .ref (ad 7), .ref (ad 8), .int (ρ.s 4), .ref (ad 9), .ref (ad 10), .ref (ad 11), .ref (ad 12), .ref (ad 13), .ref (ad 14), .ref (ad 15), .ref (ad 16), .ref (ad 17), .ref (ad 18), .ref (ad 19), .ref (ad 20), .ref (ad 21), .ref (ad 22), .ref (ad 23), .ref (ad 24), .ref (ad 25)])) := hM_23.1
                  have hm_24_0 : V_23 (ad 0) = some (eI k 8 (ρ.I 0)) := hM_23.a0
                  have hm_24_9 : V_23 (ad 9) = some (eZ k 10 (ρ.I 9)) := hM_23.a9
                  have hm_24_10 : V_23 (ad 10) = some (eI k 10 (ρ.I 10)) := hM_23.a10
                  have hm_24_11 : V_23 (ad 11) = some (eI k 10 (ρ.I 11)) := hM_23.a11
                  have hm_24_12 : V_23 (ad 12) = some (eI k 10 (ρ.I 12)) := hM_23.a12
                  have hm_24_13 : V_23 (ad 13) = some (eI k 10 (ρ.I 13)) := hM_23.a13
                  refine lv_aload_n hx hb d_Mo_begin_118 rfl (lv_at hl 0 rfl) ?_
                  refine gf_Mo_7 hx hb hW hown hG hV hm_24 d_Mo_begin_119 ?_
                  refine lv_bipush (v := 6) hx hb d_Mo_begin_122 (by decide) ?_
                  refine hv_iald hx hb hG.K hV 0 hm_24_0 rfl ((vp_in_nI (by omega) (by omega) : vp_in (nI 6) 8)) d_Mo_begin_124 ?_
                  rw [show (6 : Int32).toNatClampNeg = 6 from rfl]
                  have hlt6 : n6 < 10 := by have q := bI_eq0.mp c_4; rw [en6] at q; have q2 := of_decide_eq_false q; exact Nat.lt_of_le_of_ne hn6 (fun z => q2 (by rw [z] <;> rfl))
                  refine W.eq (g2 := F0 m 125 ls [.int (nI n6)]) (by rw [en6]) ?_
                  refine lv_istore (lv' := [(5, .int (nI n6)), (0, .ref mo), (1, .int x), (2, .int y), (3, .int u), (4, .int v)]) hx hb d_Mo_begin_125 hl (by decide) rfl (fun ls hl => ?_)
                  refine lv_aload_n hx hb d_Mo_begin_127 rfl (lv_at hl 1 rfl) ?_
                  refine gf_Mo_7 hx hb hW hown hG hV hm_24 d_Mo_begin_128 ?_
                  refine lv_bipush (v := 6) hx hb d_Mo_begin_131 (by decide) ?_
                  refine lv_dup2_11 hx hb d_Mo_begin_133 rfl rfl ?_
                  refine hv_iald hx hb hG.K hV 0 hm_24_0 rfl ((vp_in_nI (by omega) (by omega) : vp_in (nI 6) 8)) d_Mo_begin_134 ?_
                  rw [show (6 : Int32).toNatClampNeg = 6 from rfl]
                  refine lv_iconst (v := 1) hx hb d_Mo_begin_135 (by decide) ?_
                  refine lv_iadd hx hb d_Mo_begin_136 ?_
                  refine hv_iast hx hb hG.K hV hS 0 hm_24_0 rfl ((vp_in_nI (by omega) (by omega) : vp_in (nI 6) 8)) d_Mo_begin_137 (fun H locs hV hS => ?_)
                  rw [show (6 : Int32).toNatClampNeg = 6 from rfl] at hV
                  replace hV : hv D vwCl N0 (hu V_23 (ad 0) (eI k 8 (upd (ρ.I 0) 6 (((ρ.I 0) 6) + 1)))) H := hV
                  generalize hV_V_25 : hu V_23 (ad 0) (eI k 8 (upd (ρ.I 0) 6 (((ρ.I 0) 6) + 1))) = V_25 at hV
                  have hM_25 : mdOk k V_25 mo ad (((ρ.ws 0 0).ws 3 0).wI 0 (upd (ρ.I 0) 6 (((ρ.I 0) 6) + 1))) := by rw [← hV_V_25]; exact md_set hM_23 0 (by omega) (upd (ρ.I 0) 6 (((ρ.I 0) 6) + 1))
                  have hR_25 : mdFr mo ad V V_25 := by rw [← hV_V_25]; exact hR_23.ar (j := 0) (by omega)
                  have hm_26 : V_25 mo = some (.inr (7, [.int 0, .int (ρ.s 1), .int (ρ.s 2), .int 0, .ref (ad 0), .ref (ad 1), .ref (ad 2), .ref (ad 3), .ref (ad 4), .ref (ad 5), .ref (ad 6), .ref (ad 7), .ref (ad 8), .int (ρ.s 4), .ref (ad 9), .ref (ad 10), .ref (ad 11), .ref (ad 12), .ref (ad 13), .ref (ad 14), .ref (ad 15), .ref (ad 16), .ref (ad 17), .ref (ad 18), .ref (ad 19), .ref (ad 20), .ref (ad 21), .ref (ad 22), .ref (ad 23), .ref (ad 24), .ref (ad 25)])) := hM_25.1
                  have hm_26_0 : V_25 (ad 0) = some (eI k 8 (upd (ρ.I 0) 6 (((ρ.I 0) 6) + 1))) := hM_25.a0
                  have hm_26_9 : V_25 (ad 9) = some (eZ k 10 (ρ.I 9)) := hM_25.a9
                  have hm_26_10 : V_25 (ad 10) = some (eI k 10 (ρ.I 10)) := hM_25.a10
                  have hm_26_11 : V_25 (ad 11) = some (eI k 10 (ρ.I 11)) := hM_25.a11
                  have hm_26_12 : V_25 (ad 12) = some (eI k 10 (ρ.I 12)) := hM_25.a12
                  have hm_26_13 : V_25 (ad 13) = some (eI k 10 (ρ.I 13)) := hM_25.a13
                  refine lv_aload_n hx hb d_Mo_begin_138 rfl (lv_at hl 1 rfl) ?_
                  refine gf_Mo_42 hx hb hW hown hG hV hm_26 d_Mo_begin_139 ?_
                  refine lv_iload hx hb d_Mo_begin_142 (lv_at hl 0 rfl) ?_
                  refine lv_iconst (v := 1) hx hb d_Mo_begin_144 (by decide) ?_
                  refine hv_zast hx hb hG.K hV hS 2 hm_26_9 rfl (by decide) (vp_in_nI (by omega) (by omega)) d_Mo_begin_145 (fun H locs hV hS => ?_)
                  rw [nI_clamp (by omega)] at hV
                  replace hV : hv D vwCl N0 (hu V_25 (ad 9) (eZ k 10 (upd (ρ.I 9) n6 1))) H := hV
                  generalize hV_V_27 : hu V_25 (ad 9) (eZ k 10 (upd (ρ.I 9) n6 1)) = V_27 at hV
                  have hM_27 : mdOk k V_27 mo ad ((((ρ.ws 0 0).ws 3 0).wI 0 (upd (ρ.I 0) 6 (((ρ.I 0) 6) + 1))).wI 9 (upd (ρ.I 9) n6 1)) := by rw [← hV_V_27]; exact md_set hM_25 9 (by omega) (upd (ρ.I 9) n6 1)
                  have hR_27 : mdFr mo ad V V_27 := by rw [← hV_V_27]; exact hR_25.ar (j := 9) (by omega)
                  have hm_28 : V_27 mo = some (.inr (7, [.int 0, .int (ρ.s 1), .int (ρ.s 2), .int 0, .ref (ad 0), .ref (ad 1), .ref (ad 2), .ref (ad 3), .ref (ad 4), .ref (ad 5), .ref (ad 6), .ref (ad 7), .ref (ad 8), .int (ρ.s 4), .ref (ad 9), .ref (ad 10), .ref (ad 11), .ref (ad 12), .ref (ad 13), .ref (ad 14), .ref (ad 15), .ref (ad 16), .ref (ad 17), .ref (ad 18), .ref (ad 19), .ref (ad 20), .ref (ad 21), .ref (ad 22), .ref (ad 23), .ref (ad 24), .ref (ad 25)])) := hM_27.1
                  have hm_28_0 : V_27 (ad 0) = some (eI k 8 (upd (ρ.I 0) 6 (((ρ.I 0) 6) + 1))) := hM_27.a0
                  have hm_28_9 : V_27 (ad 9) = some (eZ k 10 (upd (ρ.I 9) n6 1)) := hM_27.a9
                  have hm_28_10 : V_27 (ad 10) = some (eI k 10 (ρ.I 10)) := hM_27.a10
                  have hm_28_11 : V_27 (ad 11) = some (eI k 10 (ρ.I 11)) := hM_27.a11
                  have hm_28_12 : V_27 (ad 12) = some (eI k 10 (ρ.I 12)) := hM_27.a12
                  have hm_28_13 : V_27 (ad 13) = some (eI k 10 (ρ.I 13)) := hM_27.a13
                  refine lv_aload_n hx hb d_Mo_begin_146 rfl (lv_at hl 1 rfl) ?_
                  refine gf_Mo_45 hx hb hW hown hG hV hm_28 d_Mo_begin_147 ?_
                  refine lv_iload hx hb d_Mo_begin_150 (lv_at hl 0 rfl) ?_
                  refine lv_iload_n hx hb d_Mo_begin_152 rfl (lv_at hl 2 rfl) ?_
                  refine hv_iast hx hb hG.K hV hS 0 hm_28_10 rfl (vp_in_nI (by omega) (by omega)) d_Mo_begin_153 (fun H locs hV hS => ?_)
                  rw [nI_clamp (by omega)] at hV
                  replace hV : hv D vwCl N0 (hu V_27 (ad 10) (eI k 10 (upd (ρ.I 10) n6 x))) H := hV
                  generalize hV_V_29 : hu V_27 (ad 10) (eI k 10 (upd (ρ.I 10) n6 x)) = V_29 at hV
                  have hM_29 : mdOk k V_29 mo ad (((((ρ.ws 0 0).ws 3 0).wI 0 (upd (ρ.I 0) 6 (((ρ.I 0) 6) + 1))).wI 9 (upd (ρ.I 9) n6 1)).wI 10 (upd (ρ.I 10) n6 x)) := by rw [← hV_V_29]; exact md_set hM_27 10 (by omega) (upd (ρ.I 10) n6 x)
                  have hR_29 : mdFr mo ad V V_29 := by rw [← hV_V_29]; exact hR_27.ar (j := 10) (by omega)
                  have hm_30 : V_29 mo = some (.inr (7, [.int 0, .int (ρ.s 1), .int (ρ.s 2), .int 0, .ref (ad 0), .ref (ad 1), .ref (ad 2), .ref (ad 3), .ref (ad 4), .ref (ad 5), .ref (ad 6), .ref (ad 7), .ref (ad 8), .int (ρ.s 4), .ref (ad 9), .ref (ad 10), .ref (ad 11), .ref (ad 12), .ref (ad 13), .ref (ad 14), .ref (ad 15), .ref (ad 16), .ref (ad 17), .ref (ad 18), .ref (ad 19), .ref (ad 20), .ref (ad 21), .ref (ad 22), .ref (ad 23), .ref (ad 24), .ref (ad 25)])) := hM_29.1
                  have hm_30_0 : V_29 (ad 0) = some (eI k 8 (upd (ρ.I 0) 6 (((ρ.I 0) 6) + 1))) := hM_29.a0
                  have hm_30_9 : V_29 (ad 9) = some (eZ k 10 (upd (ρ.I 9) n6 1)) := hM_29.a9
                  have hm_30_10 : V_29 (ad 10) = some (eI k 10 (upd (ρ.I 10) n6 x)) := hM_29.a10
                  have hm_30_11 : V_29 (ad 11) = some (eI k 10 (ρ.I 11)) := hM_29.a11
                  have hm_30_12 : V_29 (ad 12) = some (eI k 10 (ρ.I 12)) := hM_29.a12
                  have hm_30_13 : V_29 (ad 13) = some (eI k 10 (ρ.I 13)) := hM_29.a13
                  refine lv_aload_n hx hb d_Mo_begin_154 rfl (lv_at hl 1 rfl) ?_
                  refine gf_Mo_48 hx hb hW hown hG hV hm_30 d_Mo_begin_155 ?_
                  refine lv_iload hx hb d_Mo_begin_158 (lv_at hl 0 rfl) ?_
                  refine lv_iload_n hx hb d_Mo_begin_160 rfl (lv_at hl 3 rfl) ?_
                  refine hv_iast hx hb hG.K hV hS 0 hm_30_11 rfl (vp_in_nI (by omega) (by omega)) d_Mo_begin_161 (fun H locs hV hS => ?_)
                  rw [nI_clamp (by omega)] at hV
                  replace hV : hv D vwCl N0 (hu V_29 (ad 11) (eI k 10 (upd (ρ.I 11) n6 y))) H := hV
                  generalize hV_V_31 : hu V_29 (ad 11) (eI k 10 (upd (ρ.I 11) n6 y)) = V_31 at hV
                  have hM_31 : mdOk k V_31 mo ad ((((((ρ.ws 0 0).ws 3 0).wI 0 (upd (ρ.I 0) 6 (((ρ.I 0) 6) + 1))).wI 9 (upd (ρ.I 9) n6 1)).wI 10 (upd (ρ.I 10) n6 x)).wI 11 (upd (ρ.I 11) n6 y)) := by rw [← hV_V_31]; exact md_set hM_29 11 (by omega) (upd (ρ.I 11) n6 y)
                  have hR_31 : mdFr mo ad V V_31 := by rw [← hV_V_31]; exact hR_29.ar (j := 11) (by omega)
                  have hm_32 : V_31 mo = some (.inr (7, [.int 0, .int (ρ.s 1), .int (ρ.s 2), .int 0, .ref (ad 0), .ref (ad 1), .ref (ad 2), .ref (ad 3), .ref (ad 4), .ref (ad 5), .ref (ad 6), .ref (ad 7), .ref (ad 8), .int (ρ.s 4), .ref (ad 9), .ref (ad 10), .ref (ad 11), .ref (ad 12), .ref (ad 13), .ref (ad 14), .ref (ad 15), .ref (ad 16), .ref (ad 17), .ref (ad 18), .ref (ad 19), .ref (ad 20), .ref (ad 21), .ref (ad 22), .ref (ad 23), .ref (ad 24), .ref (ad 25)])) := hM_31.1
                  have hm_32_0 : V_31 (ad 0) = some (eI k 8 (upd (ρ.I 0) 6 (((ρ.I 0) 6) + 1))) := hM_31.a0
                  have hm_32_9 : V_31 (ad 9) = some (eZ k 10 (upd (ρ.I 9) n6 1)) := hM_31.a9
                  have hm_32_10 : V_31 (ad 10) = some (eI k 10 (upd (ρ.I 10) n6 x)) := hM_31.a10
                  have hm_32_11 : V_31 (ad 11) = some (eI k 10 (upd (ρ.I 11) n6 y)) := hM_31.a11
                  have hm_32_12 : V_31 (ad 12) = some (eI k 10 (ρ.I 12)) := hM_31.a12
                  have hm_32_13 : V_31 (ad 13) = some (eI k 10 (ρ.I 13)) := hM_31.a13
                  refine lv_aload_n hx hb d_Mo_begin_162 rfl (lv_at hl 1 rfl) ?_
                  refine gf_Mo_51 hx hb hW hown hG hV hm_32 d_Mo_begin_163 ?_
                  refine lv_iload hx hb d_Mo_begin_166 (lv_at hl 0 rfl) ?_
                  refine lv_iload_n hx hb d_Mo_begin_168 rfl (lv_at hl 4 rfl) ?_
                  refine hv_iast hx hb hG.K hV hS 0 hm_32_12 rfl (vp_in_nI (by omega) (by omega)) d_Mo_begin_169 (fun H locs hV hS => ?_)
                  rw [nI_clamp (by omega)] at hV
                  replace hV : hv D vwCl N0 (hu V_31 (ad 12) (eI k 10 (upd (ρ.I 12) n6 u))) H := hV
                  generalize hV_V_33 : hu V_31 (ad 12) (eI k 10 (upd (ρ.I 12) n6 u)) = V_33 at hV
                  have hM_33 : mdOk k V_33 mo ad (((((((ρ.ws 0 0).ws 3 0).wI 0 (upd (ρ.I 0) 6 (((ρ.I 0) 6) + 1))).wI 9 (upd (ρ.I 9) n6 1)).wI 10 (upd (ρ.I 10) n6 x)).wI 11 (upd (ρ.I 11) n6 y)).wI 12 (upd (ρ.I 12) n6 u)) := by rw [← hV_V_33]; exact md_set hM_31 12 (by omega) (upd (ρ.I 12) n6 u)
                  have hR_33 : mdFr mo ad V V_33 := by rw [← hV_V_33]; exact hR_31.ar (j := 12) (by omega)
                  have hm_34 : V_33 mo = some (.inr (7, [.int 0, .int (ρ.s 1), .int (ρ.s 2), .int 0, .ref (ad 0), .ref (ad 1), .ref (ad 2), .ref (ad 3), .ref (ad 4), .ref (ad 5), .ref (ad 6), .ref (ad 7), .ref (ad 8), .int (ρ.s 4), .ref (ad 9), .ref (ad 10), .ref (ad 11), .ref (ad 12), .ref (ad 13), .ref (ad 14), .ref (ad 15), .ref (ad 16), .ref (ad 17), .ref (ad 18), .ref (ad 19), .ref (ad 20), .ref (ad 21), .ref (ad 22), .ref (ad 23), .ref (ad 24), .ref (ad 25)])) := hM_33.1
                  have hm_34_0 : V_33 (ad 0) = some (eI k 8 (upd (ρ.I 0) 6 (((ρ.I 0) 6) + 1))) := hM_33.a0
                  have hm_34_9 : V_33 (ad 9) = some (eZ k 10 (upd (ρ.I 9) n6 1)) := hM_33.a9
                  have hm_34_10 : V_33 (ad 10) = some (eI k 10 (upd (ρ.I 10) n6 x)) := hM_33.a10
                  have hm_34_11 : V_33 (ad 11) = some (eI k 10 (upd (ρ.I 11) n6 y)) := hM_33.a11
                  have hm_34_12 : V_33 (ad 12) = some (eI k 10 (upd (ρ.I 12) n6 u)) := hM_33.a12
                  have hm_34_13 : V_33 (ad 13) = some (eI k 10 (ρ.I 13)) := hM_33.a13
                  refine lv_aload_n hx hb d_Mo_begin_170 rfl (lv_at hl 1 rfl) ?_
                  refine gf_Mo_54 hx hb hW hown hG hV hm_34 d_Mo_begin_171 ?_
                  refine lv_iload hx hb d_Mo_begin_174 (lv_at hl 0 rfl) ?_
                  refine lv_iload hx hb d_Mo_begin_176 (lv_at hl 5 rfl) ?_
                  refine hv_iast hx hb hG.K hV hS 0 hm_34_13 rfl (vp_in_nI (by omega) (by omega)) d_Mo_begin_178 (fun H locs hV hS => ?_)
                  rw [nI_clamp (by omega)] at hV
                  replace hV : hv D vwCl N0 (hu V_33 (ad 13) (eI k 10 (upd (ρ.I 13) n6 v))) H := hV
                  generalize hV_V_35 : hu V_33 (ad 13) (eI k 10 (upd (ρ.I 13) n6 v)) = V_35 at hV
                  have hM_35 : mdOk k V_35 mo ad ((((((((ρ.ws 0 0).ws 3 0).wI 0 (upd (ρ.I 0) 6 (((ρ.I 0) 6) + 1))).wI 9 (upd (ρ.I 9) n6 1)).wI 10 (upd (ρ.I 10) n6 x)).wI 11 (upd (ρ.I 11) n6 y)).wI 12 (upd (ρ.I 12) n6 u)).wI 13 (upd (ρ.I 13) n6 v)) := by rw [← hV_V_35]; exact md_set hM_33 13 (by omega) (upd (ρ.I 13) n6 v)
                  have hR_35 : mdFr mo ad V V_35 := by rw [← hV_V_35]; exact hR_33.ar (j := 13) (by omega)
                  have hm_36 : V_35 mo = some (.inr (7, [.int 0, .int (ρ.s 1), .int (ρ.s 2), .int 0, .ref (ad 0), .ref (ad 1), .ref (ad 2), .ref (ad 3), .ref (ad 4), .ref (ad 5), .ref (ad 6), .ref (ad 7), .ref (ad 8), .int (ρ.s 4), .ref (ad 9), .ref (ad 10), .ref (ad 11), .ref (ad 12), .ref (ad 13), .ref (ad 14), .ref (ad 15), .ref (ad 16), .ref (ad 17), .ref (ad 18), .ref (ad 19), .ref (ad 20), .ref (ad 21), .ref (ad 22), .ref (ad 23), .ref (ad 24), .ref (ad 25)])) := hM_35.1
                  have hm_36_0 : V_35 (ad 0) = some (eI k 8 (upd (ρ.I 0) 6 (((ρ.I 0) 6) + 1))) := hM_35.a0
                  have hm_36_9 : V_35 (ad 9) = some (eZ k 10 (upd (ρ.I 9) n6 1)) := hM_35.a9
                  have hm_36_10 : V_35 (ad 10) = some (eI k 10 (upd (ρ.I 10) n6 x)) := hM_35.a10
                  have hm_36_11 : V_35 (ad 11) = some (eI k 10 (upd (ρ.I 11) n6 y)) := hM_35.a11
                  have hm_36_12 : V_35 (ad 12) = some (eI k 10 (upd (ρ.I 12) n6 u)) := hM_35.a12
                  have hm_36_13 : V_35 (ad 13) = some (eI k 10 (upd (ρ.I 13) n6 v)) := hM_35.a13
                  refine lv_sipush (v := 6000) hx hb d_Mo_begin_179 (by decide) ?_
                  refine lv_iload hx hb d_Mo_begin_182 (lv_at hl 0 rfl) ?_
                  refine lv_iadd hx hb d_Mo_begin_184 ?_
                  try simp only [bI_ne0, bI_eq0, decide_eq_true_eq, decide_eq_false_iff_not, Bool.not_eq_false, Bool.not_eq_true, Decidable.not_not] at c_4
                  try simp only [bI_ne0, bI_eq0, decide_eq_true_eq, decide_eq_false_iff_not, Bool.not_eq_false, Bool.not_eq_true, Decidable.not_not] at c_5
                  try simp only [bI_ne0, bI_eq0, decide_eq_true_eq, decide_eq_false_iff_not, Bool.not_eq_false, Bool.not_eq_true, Decidable.not_not] at c_10
                  try simp only [bI_ne0, bI_eq0, decide_eq_true_eq, decide_eq_false_iff_not, Bool.not_eq_false, Bool.not_eq_true, Decidable.not_not] at c_15
                  try simp only [bI_ne0, bI_eq0, decide_eq_true_eq, decide_eq_false_iff_not, Bool.not_eq_false, Bool.not_eq_true, Decidable.not_not] at c_20
                  try simp only [bI_ne0, bI_eq0, decide_eq_true_eq, decide_eq_false_iff_not, Bool.not_eq_false, Bool.not_eq_true, Decidable.not_not] at c_22
                  have hany : anyF (moBgP ρ.I x y u v) 0 n6 = false := by rw [← hPb, hI, anyF_end hge]
                  have hfin : moBegin ρ n6 x y u v = ((6000 + (nI n6)), ((((((((ρ.ws 0 0).ws 3 0).wI 0 (upd (ρ.I 0) 6 (((ρ.I 0) 6) + 1))).wI 9 (upd (ρ.I 9) n6 1)).wI 10 (upd (ρ.I 10) n6 x)).wI 11 (upd (ρ.I 11) n6 y)).wI 12 (upd (ρ.I 12) n6 u)).wI 13 (upd (ρ.I 13) n6 v))) := by first | (simp [moBegin, hany, moBgS, c_4, c_5, c_10, c_15, c_20]; done) | (simp_all [moBegin, moBgS]; done)
                  exact W.iret (v := (6000 + (nI n6))) hx hb hr (fun t9 ht hW => ⟨⟨(6000 + (nI n6)), V_35, rfl, ⟨by rw [hfin]; exact hM_35, hR_35, by rw [hfin]⟩, mB_of ht hV⟩, hS.F ht⟩) hS.2.2 d_Mo_begin_185
                · have hlt : i < n6 := nI_nle' c_22 (by omega) (by omega)
                  refine lv_aload_n hx hb d_Mo_begin_69 rfl (lv_at hl 0 rfl) ?_
                  refine gf_Mo_42 hx hb hW hown hG hV hm_3 d_Mo_begin_70 ?_
                  refine lv_iload hx hb d_Mo_begin_73 (lv_at hl 5 rfl) ?_
                  refine hv_zald hx hb hG.K hV 2 hm_3_9 rfl (vp_in_nI (by omega) (by omega)) d_Mo_begin_75 ?_
                  rw [nI_clamp (by omega)]
                  refine lv_if_eq (tgt := 107) hx hb d_Mo_begin_76 (by decide) (fun c_37 => ?_) (fun c_37 => ?_)
                  · obtain ⟨i_38, ei_38⟩ : ∃ y : Int32, y = (nI i) + 1 := ⟨_, rfl⟩
                    refine lv_iinc (v := i_38) (lv' := [(5, .int i_38), (0, .ref mo), (1, .int x), (2, .int y), (3, .int u), (4, .int v)]) hx hb d_Mo_begin_107 hl (k := 5) rfl (by rw [ei_38]; rfl) (by decide) rfl (fun ls hl => ?_)
                    refine lv_goto (tgt := 57) hx hb d_Mo_begin_110 (by decide) ?_
                    rw [nI_1] at ei_38
                    subst ei_38
                    try simp only [bI_ne0, bI_eq0, decide_eq_true_eq, decide_eq_false_iff_not, Bool.not_eq_false, Bool.not_eq_true, Decidable.not_not] at c_4
                    try simp only [bI_ne0, bI_eq0, decide_eq_true_eq, decide_eq_false_iff_not, Bool.not_eq_false, Bool.not_eq_true, Decidable.not_not] at c_5
                    try simp only [bI_ne0, bI_eq0, decide_eq_true_eq, decide_eq_false_iff_not, Bool.not_eq_false, Bool.not_eq_true, Decidable.not_not] at c_10
                    try simp only [bI_ne0, bI_eq0, decide_eq_true_eq, decide_eq_false_iff_not, Bool.not_eq_false, Bool.not_eq_true, Decidable.not_not] at c_15
                    try simp only [bI_ne0, bI_eq0, decide_eq_true_eq, decide_eq_false_iff_not, Bool.not_eq_false, Bool.not_eq_true, Decidable.not_not] at c_20
                    try simp only [bI_ne0, bI_eq0, decide_eq_true_eq, decide_eq_false_iff_not, Bool.not_eq_false, Bool.not_eq_true, Decidable.not_not] at c_22
                    try simp only [bI_ne0, bI_eq0, decide_eq_true_eq, decide_eq_false_iff_not, Bool.not_eq_false, Bool.not_eq_true, Decidable.not_not] at c_37
                    have hPi : Pb i = false := by subst hPb; first | (simp [moBgP, c_37]; done) | (simp_all [moBgP]; done)
                    exact ih (i + 1)  _ _ _ (by omega) (by omega) (by rw [hI, anyF_step hlt, hPi, Bool.false_or]) hV hS (lv_sub hl [1, 2, 3, 4, 5, 0] rfl)
                  · refine lv_aload_n hx hb d_Mo_begin_79 rfl (lv_at hl 0 rfl) ?_
                    refine lv_iload hx hb d_Mo_begin_80 (lv_at hl 5 rfl) ?_
                    refine lv_iload_n hx hb d_Mo_begin_82 rfl (lv_at hl 1 rfl) ?_
                    refine lv_iload_n hx hb d_Mo_begin_83 rfl (lv_at hl 2 rfl) ?_
                    refine lv_iload_n hx hb d_Mo_begin_84 rfl (lv_at hl 3 rfl) ?_
                    refine lv_iload_n hx hb d_Mo_begin_85 rfl (lv_at hl 1 rfl) ?_
                    refine lv_isub hx hb d_Mo_begin_86 ?_
                    refine lv_iconst (v := 1) hx hb d_Mo_begin_87 (by decide) ?_
                    refine lv_iadd hx hb d_Mo_begin_88 ?_
                    refine lv_iload hx hb d_Mo_begin_89 (lv_at hl 4 rfl) ?_
                    refine lv_iload_n hx hb d_Mo_begin_91 rfl (lv_at hl 2 rfl) ?_
                    refine lv_isub hx hb d_Mo_begin_92 ?_
                    refine lv_iconst (v := 1) hx hb d_Mo_begin_93 (by decide) ?_
                    refine lv_iadd hx hb d_Mo_begin_94 ?_
                    refine rc_i (va_runV (As := [.int (nI i), .int x, .int y, .int ((u - x) + 1), .int ((v - y) + 1)]) (rest := []) ⟨hx, hb, hml, hown, hts⟩ (c_Mo_meetsAct l D N0 k V_2 mo ad (ρ.ws 0 0) hM_2 i (by omega) x y ((u - x) + 1) ((v - y) + 1)) (cwV 5 hts (gi_V wm_Mo_118 wv_Mo_meetsAct ws_Mo_meetsAct wi_Mo wc_Mo_meetsAct) rfl rfl rfl (by decide +kernel) ⟨Nat.le_of_ble_eq_true rfl, Nat.le_of_ble_eq_true rfl⟩) (mP.preV hG hS hV hm_3 rfl) rfl rfl hl.1 rfl (lv_room (Nat.le_of_ble_eq_true rfl)) d_Mo_begin_95 ⟨Nat.le_of_ble_eq_true rfl, Nat.le_of_ble_eq_true rfl⟩) hS (fun H locs hV hS => ?_)
                    refine W.eq (g2 := F0 m 98 ls [.int (bI (moMeet ρ.I i x y ((u - x) + 1) ((v - y) + 1)))]) rfl ?_
                    refine lv_if_eq (tgt := 107) hx hb d_Mo_begin_98 (by decide) (fun c_39 => ?_) (fun c_39 => ?_)
                    · obtain ⟨i_40, ei_40⟩ : ∃ y : Int32, y = (nI i) + 1 := ⟨_, rfl⟩
                      refine lv_iinc (v := i_40) (lv' := [(5, .int i_40), (0, .ref mo), (1, .int x), (2, .int y), (3, .int u), (4, .int v)]) hx hb d_Mo_begin_107 hl (k := 5) rfl (by rw [ei_40]; rfl) (by decide) rfl (fun ls hl => ?_)
                      refine lv_goto (tgt := 57) hx hb d_Mo_begin_110 (by decide) ?_
                      rw [nI_1] at ei_40
                      subst ei_40
                      try simp only [bI_ne0, bI_eq0, decide_eq_true_eq, decide_eq_false_iff_not, Bool.not_eq_false, Bool.not_eq_true, Decidable.not_not] at c_4
                      try simp only [bI_ne0, bI_eq0, decide_eq_true_eq, decide_eq_false_iff_not, Bool.not_eq_false, Bool.not_eq_true, Decidable.not_not] at c_5
                      try simp only [bI_ne0, bI_eq0, decide_eq_true_eq, decide_eq_false_iff_not, Bool.not_eq_false, Bool.not_eq_true, Decidable.not_not] at c_10
                      try simp only [bI_ne0, bI_eq0, decide_eq_true_eq, decide_eq_false_iff_not, Bool.not_eq_false, Bool.not_eq_true, Decidable.not_not] at c_15
                      try simp only [bI_ne0, bI_eq0, decide_eq_true_eq, decide_eq_false_iff_not, Bool.not_eq_false, Bool.not_eq_true, Decidable.not_not] at c_20
                      try simp only [bI_ne0, bI_eq0, decide_eq_true_eq, decide_eq_false_iff_not, Bool.not_eq_false, Bool.not_eq_true, Decidable.not_not] at c_22
                      try simp only [bI_ne0, bI_eq0, decide_eq_true_eq, decide_eq_false_iff_not, Bool.not_eq_false, Bool.not_eq_true, Decidable.not_not] at c_37
                      try simp only [bI_ne0, bI_eq0, decide_eq_true_eq, decide_eq_false_iff_not, Bool.not_eq_false, Bool.not_eq_true, Decidable.not_not] at c_39
                      have hPi : Pb i = false := by subst hPb; first | (simp [moBgP, c_37, c_39]; done) | (simp_all [moBgP]; done)
                      exact ih (i + 1)  _ _ _ (by omega) (by omega) (by rw [hI, anyF_step hlt, hPi, Bool.false_or]) hV hS (lv_sub hl [1, 2, 3, 4, 5, 0] rfl)
                    · refine lv_aload_n hx hb d_Mo_begin_101 rfl (lv_at hl 0 rfl) ?_
                      refine lv_iconst (v := 3) hx hb d_Mo_begin_102 (by decide) ?_
                      refine rc_I (va_runV (As := [.int 3]) (rest := []) ⟨hx, hb, hml, hown, hts⟩ (c_Mo_refuse l D N0 k V_2 mo ad (ρ.ws 0 0) hM_2 3) (cwV 1 hts (gi_V wm_Mo_155 wv_Mo_refuse ws_Mo_refuse wi_Mo wc_Mo_refuse) rfl rfl rfl (by decide +kernel) ⟨Nat.le_of_ble_eq_true rfl, Nat.le_of_ble_eq_true rfl⟩) (mP.preV hG hS hV hm_3 rfl) rfl rfl hl.1 rfl (lv_room (Nat.le_of_ble_eq_true rfl)) d_Mo_begin_103 ⟨Nat.le_of_ble_eq_true rfl, Nat.le_of_ble_eq_true rfl⟩) hS (fun r_41 V_42 H locs hp_43 hV hS => ?_)
                      obtain ⟨hM_44, hM_44R, hM_44e⟩ := hp_43
                      subst hM_44e
                      try simp only [bI_ne0, bI_eq0, decide_eq_true_eq, decide_eq_false_iff_not, Bool.not_eq_false, Bool.not_eq_true, Decidable.not_not] at c_4
                      try simp only [bI_ne0, bI_eq0, decide_eq_true_eq, decide_eq_false_iff_not, Bool.not_eq_false, Bool.not_eq_true, Decidable.not_not] at c_5
                      try simp only [bI_ne0, bI_eq0, decide_eq_true_eq, decide_eq_false_iff_not, Bool.not_eq_false, Bool.not_eq_true, Decidable.not_not] at c_10
                      try simp only [bI_ne0, bI_eq0, decide_eq_true_eq, decide_eq_false_iff_not, Bool.not_eq_false, Bool.not_eq_true, Decidable.not_not] at c_15
                      try simp only [bI_ne0, bI_eq0, decide_eq_true_eq, decide_eq_false_iff_not, Bool.not_eq_false, Bool.not_eq_true, Decidable.not_not] at c_20
                      try simp only [bI_ne0, bI_eq0, decide_eq_true_eq, decide_eq_false_iff_not, Bool.not_eq_false, Bool.not_eq_true, Decidable.not_not] at c_22
                      try simp only [bI_ne0, bI_eq0, decide_eq_true_eq, decide_eq_false_iff_not, Bool.not_eq_false, Bool.not_eq_true, Decidable.not_not] at c_37
                      try simp only [bI_ne0, bI_eq0, decide_eq_true_eq, decide_eq_false_iff_not, Bool.not_eq_false, Bool.not_eq_true, Decidable.not_not] at c_39
                      have hPi : Pb i = true := by subst hPb; first | (simp [moBgP, c_37, c_39]; done) | (simp_all [moBgP]; done)
                      have hany : anyF (moBgP ρ.I x y u v) 0 n6 = true := by rw [← hPb, hI, anyF_step hlt, hPi]; rfl
                      have hfin : moBegin ρ n6 x y u v = ((-1), ((ρ.ws 0 0).ws 3 3)) := by first | (simp [moBegin, hany, moBgS, c_4, c_5, c_10, c_15, c_20]; done) | (simp_all [moBegin, moBgS]; done)
                      exact W.iret (v := (-1)) hx hb hr (fun t9 ht hW => ⟨⟨(-1), V_42, rfl, ⟨by rw [hfin]; exact hM_44, hR_2.tr hM_44R, by rw [hfin]⟩, mB_of ht hV⟩, hS.F ht⟩) hS.2.2 d_Mo_begin_106
            exact loop_21 (n6 + 1 - 0) 0  _ _ _ (by omega) (by omega) rfl hV hS (lv_sub hl [1, 2, 3, 4, 5, 0] rfl)
          · refine lv_aload_n hx hb d_Mo_begin_48 rfl (lv_at hl 0 rfl) ?_
            refine lv_iconst (v := 2) hx hb d_Mo_begin_49 (by decide) ?_
            refine rc_I (va_runV (As := [.int 2]) (rest := []) ⟨hx, hb, hml, hown, hts⟩ (c_Mo_refuse l D N0 k V_2 mo ad (ρ.ws 0 0) hM_2 2) (cwV 1 hts (gi_V wm_Mo_155 wv_Mo_refuse ws_Mo_refuse wi_Mo wc_Mo_refuse) rfl rfl rfl (by decide +kernel) ⟨Nat.le_of_ble_eq_true rfl, Nat.le_of_ble_eq_true rfl⟩) (mP.preV hG hS hV hm_3 rfl) rfl rfl hl.1 rfl (lv_room (Nat.le_of_ble_eq_true rfl)) d_Mo_begin_50 ⟨Nat.le_of_ble_eq_true rfl, Nat.le_of_ble_eq_true rfl⟩) hS (fun r_45 V_46 H locs hp_47 hV hS => ?_)
            obtain ⟨hM_48, hM_48R, hM_48e⟩ := hp_47
            subst hM_48e
            try simp only [bI_ne0, bI_eq0, decide_eq_true_eq, decide_eq_false_iff_not, Bool.not_eq_false, Bool.not_eq_true, Decidable.not_not] at c_4
            try simp only [bI_ne0, bI_eq0, decide_eq_true_eq, decide_eq_false_iff_not, Bool.not_eq_false, Bool.not_eq_true, Decidable.not_not] at c_5
            try simp only [bI_ne0, bI_eq0, decide_eq_true_eq, decide_eq_false_iff_not, Bool.not_eq_false, Bool.not_eq_true, Decidable.not_not] at c_10
            try simp only [bI_ne0, bI_eq0, decide_eq_true_eq, decide_eq_false_iff_not, Bool.not_eq_false, Bool.not_eq_true, Decidable.not_not] at c_15
            try simp only [bI_ne0, bI_eq0, decide_eq_true_eq, decide_eq_false_iff_not, Bool.not_eq_false, Bool.not_eq_true, Decidable.not_not] at c_20
            have hfin : moBegin ρ n6 x y u v = ((-1), ((ρ.ws 0 0).ws 3 2)) := by first | (simp only [moBegin, c_4, c_5, c_10, c_15, c_20, decide_true, decide_false, Bool.true_and, Bool.and_true, Bool.false_and, Bool.and_false, Bool.true_or, Bool.or_true, Bool.false_or, Bool.or_false, Bool.not_true, Bool.not_false, if_true, if_false, Bool.false_eq_true, Bool.true_eq_false, reduceIte, eq_self]; done) | (simp [moBegin, c_4, c_5, c_10, c_15, c_20]; done) | (simp_all [moBegin]; done)
            exact W.iret (v := (-1)) hx hb hr (fun t9 ht hW => ⟨⟨(-1), V_46, rfl, ⟨by rw [hfin]; exact hM_48, hR_2.tr hM_48R, by rw [hfin]⟩, mB_of ht hV⟩, hS.F ht⟩) hS.2.2 d_Mo_begin_53
  · refine lv_aload_n hx hb d_Mo_begin_14 rfl (lv_at hl 0 rfl) ?_
    refine lv_iconst (v := 1) hx hb d_Mo_begin_15 (by decide) ?_
    refine rc_I (va_runV (As := [.int 1]) (rest := []) ⟨hx, hb, hml, hown, hts⟩ (c_Mo_refuse l D N0 k V_2 mo ad (ρ.ws 0 0) hM_2 1) (cwV 1 hts (gi_V wm_Mo_155 wv_Mo_refuse ws_Mo_refuse wi_Mo wc_Mo_refuse) rfl rfl rfl (by decide +kernel) ⟨Nat.le_of_ble_eq_true rfl, Nat.le_of_ble_eq_true rfl⟩) (mP.preV hG hS hV hm_3 rfl) rfl rfl hl.1 rfl (lv_room (Nat.le_of_ble_eq_true rfl)) d_Mo_begin_16 ⟨Nat.le_of_ble_eq_true rfl, Nat.le_of_ble_eq_true rfl⟩) hS (fun r_49 V_50 H locs hp_51 hV hS => ?_)
    obtain ⟨hM_52, hM_52R, hM_52e⟩ := hp_51
    subst hM_52e
    try simp only [bI_ne0, bI_eq0, decide_eq_true_eq, decide_eq_false_iff_not, Bool.not_eq_false, Bool.not_eq_true, Decidable.not_not] at c_4
    have hfin : moBegin ρ n6 x y u v = ((-1), ((ρ.ws 0 0).ws 3 1)) := by first | (simp only [moBegin, c_4, decide_true, decide_false, Bool.true_and, Bool.and_true, Bool.false_and, Bool.and_false, Bool.true_or, Bool.or_true, Bool.false_or, Bool.or_false, Bool.not_true, Bool.not_false, if_true, if_false, Bool.false_eq_true, Bool.true_eq_false, reduceIte, eq_self]; done) | (simp [moBegin, c_4]; done) | (simp_all [moBegin]; done)
    exact W.iret (v := (-1)) hx hb hr (fun t9 ht hW => ⟨⟨(-1), V_50, rfl, ⟨by rw [hfin]; exact hM_52, hR_2.tr hM_52R, by rw [hfin]⟩, mB_of ht hV⟩, hS.F ht⟩) hS.2.2 d_Mo_begin_19
