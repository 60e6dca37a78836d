/-! the model: pad, track, plane, gap, acts, at, count, check -/
def moPad (ρ : MS) (n3 n6 : Nat) (part net dx dy : Int32) : Int32 × MS :=
  if moWorst (moFault (ρ.I 0) part 2) (moFault (ρ.I 0) net 1) = 0 then
    if ρ.I 1 (hdN part) = 0 then (0, (ρ.ws 0 (moWorst (moFault (ρ.I 0) part 2) (moFault (ρ.I 0) net 1))).ws 0 3) else
    if ρ.I 0 3 = nI (liN 3) then (-1, ((ρ.ws 0 (moWorst (moFault (ρ.I 0) part 2) (moFault (ρ.I 0) net 1))).ws 0 (moWorst (moFault (ρ.I 0) part 2) (moFault (ρ.I 0) net 1))).ws 3 1) else
    if (decide (0 ≤ dx) && decide (0 ≤ dy) && !decide (ρ.I 4 (hdN part) ≤ dx) && !decide (ρ.I 5 (hdN part) ≤ dy)) = false then (-1, ((ρ.ws 0 (moWorst (moFault (ρ.I 0) part 2) (moFault (ρ.I 0) net 1))).ws 0 (moWorst (moFault (ρ.I 0) part 2) (moFault (ρ.I 0) net 1))).ws 3 2) else
    moMkC ((ρ.ws 0 (moWorst (moFault (ρ.I 0) part 2) (moFault (ρ.I 0) net 1))).ws 0 (moWorst (moFault (ρ.I 0) part 2) (moFault (ρ.I 0) net 1))) 3 n3 n6 (net - net / 1000 * 1000) 0 (ρ.I 2 (hdN part) + dx) (ρ.I 3 (hdN part) + dy) 1 1 (nI (hdN part))
  else (0, (ρ.ws 0 (moWorst (moFault (ρ.I 0) part 2) (moFault (ρ.I 0) net 1))).ws 0 (moWorst (moFault (ρ.I 0) part 2) (moFault (ρ.I 0) net 1)))
def moTrack (ρ : MS) (n4 n6 : Nat) (net la x0 y0 x1 y1 : Int32) : Int32 × MS :=
  if moFault (ρ.I 0) net 1 = 1 then (0, ρ.ws 0 1) else if moLay (ρ.s 1) la = false then (0, ρ.ws 0 1) else if moFault (ρ.I 0) net 1 = 2 then (0, ρ.ws 0 2) else
  if (decide (x0 = x1) || decide (y0 = y1)) = false then (0, ρ.ws 0 2) else
  if ρ.I 0 4 = nI (liN 4) then (-1, (ρ.ws 0 0).ws 3 1) else if (moCell x0 y0 && moCell x1 y1) = false then (-1, (ρ.ws 0 0).ws 3 2) else
  moMkC (ρ.ws 0 0) 4 n4 n6 (net - net / 1000 * 1000) la (if x1 ≤ x0 then x1 else x0) (if y1 ≤ y0 then y1 else y0) (x0 + x1 - 2 * (if x1 ≤ x0 then x1 else x0) + 1) (y0 + y1 - 2 * (if y1 ≤ y0 then y1 else y0) + 1) (-1)
def moPlP (I : Nat → Nat → Int32) (la : Int32) : Nat → Bool := fun t => !decide (I 1 t = 0) && decide (I 6 t = la)
def moPlane (ρ : MS) (n5 n6 : Nat) (net la : Int32) : Int32 × MS :=
  if moFault (ρ.I 0) net 1 = 1 then (0, ρ.ws 0 1) else if moLay (ρ.s 1) la = false then (0, ρ.ws 0 1) else if moFault (ρ.I 0) net 1 = 0 then
    if ρ.I 0 5 = nI (liN 5) then (-1, (ρ.ws 0 (moFault (ρ.I 0) net 1)).ws 3 1) else if moBarr ρ n6 0 0 32 24 = true then (-1, (ρ.ws 0 (moFault (ρ.I 0) net 1)).ws 3 3) else if anyF (moPlP ρ.I la) 140 n5 = true then (-1, (ρ.ws 0 (moFault (ρ.I 0) net 1)).ws 3 4) else (moHan (nI (fiN 5 + n5)), moMkS ((ρ.ws 0 (moFault (ρ.I 0) net 1)).ws 3 0) 5 (fiN 5 + n5) (net - net / 1000 * 1000) la 0 0 32 24 (-1))
  else (0, ρ.ws 0 (moFault (ρ.I 0) net 1))
def moGap (ρ : MS) (v : Int32) : Int32 × MS := if (decide (0 ≤ v) && decide (v ≤ 4)) = true then (ρ.s 2, (ρ.ws 0 0).ws 2 v) else (0, ρ.ws 0 1)
def moOf (I : Nat → Nat → Int32) (t : Nat) (pa : Int32) : Bool := decide (20 ≤ nI t) && !decide (80 ≤ nI t) && !decide (I 1 t = 0) && decide (I 8 t = pa)
def moTF (G : Nat → Int32) (h : Int32) : Int32 := if gvOk G h = true then (if (decide (2 ≤ h / 1000) && decide (h / 1000 ≤ 5)) = true then 0 else 2) else 1
def moAF (ρ : MS) (h : Int32) : Int32 := if moFault (ρ.I 0) h 6 = 0 then (if ρ.I 9 (hdN h) = 0 then 3 else moFault (ρ.I 0) h 6) else moFault (ρ.I 0) h 6
def moOpn (I : Nat → Nat → Int32) : Nat → Bool := fun j => !decide (I 9 j = 0)
def moPr (ρ : MS) (t u : Nat) : Bool := moCop ρ.I t && moCop ρ.I u && moClash ρ t 0 0 u
set_option maxHeartbeats 4000000 in
set_option maxRecDepth 100000 in
/-- pad -/
theorem c_Mo_pad (l : Launch) (D : va_G) (N0 : Nat) (k : Nat → Nat) (V : HV) (mo : Nat) (ad : Nat → Nat) (ρ : MS) (hM : mdOk k V mo ad ρ) (part net dx dy : Int32) (hGm : moG ρ) (n3 : Nat) (hn3 : n3 ≤ 60) (en3 : ρ.I 0 3 = nI n3) (n6 : Nat) (hn6 : n6 ≤ 10) (en6 : ρ.I 0 6 = nI n6) (hwo : moWo ρ) : Met l y_Mo_pad (.code y_Mo_pad b_Mo_pad 6 (some .int) :: WS) ({ frames := 5, cells := 0, slots := 0, locals := 120 }) (mP D N0 k [.ref mo, .int part, .int net, .int dx, .int dy] V) (va_Qi (fun r V' => mdOk k V' mo ad (moPad ρ n3 n6 part net dx dy).2 ∧ mdFr mo ad V V' ∧ r = (moPad ρ n3 n6 part net dx dy).1) (mB D N0) (hA N0)) 0 0 (hA N0) := by
  refine Met.ofW (cc := b_Mo_pad) (maxL := 6) (ret := (some .int)) (by decide) rfl ?_
  intro p e s m args below meth c s₁ B hml hv0
  obtain ⟨rfl, hG, hV⟩ := hv0
  have hx := B.exec
  have hb := B.bytes
  have hr := B.returns
  have hts := atoms_spec (ws := .code y_Mo_pad b_Mo_pad 6 (some .int) :: WS) B.pre
  have hW : ∀ w ∈ WS, w.before _ s = true := fun w h => hts w (List.mem_cons_of_mem _ h)
  have hown : s.vm.findClass "BoardHouseModel" = some m.cls := findClass_of_methodNamed B.named
  have hlocks := B.notSynchronized
  have hS : va_S (hA N0) s.heap s.heap [] := va_S.rf
  have hl := lv_entry ([.ref mo, .int part, .int net, .int dx, .int dy]) (n := 6) (Nat.le_of_ble_eq_true rfl)
  rw [lg_entry_eq]
  generalize (lg_sl ([.ref mo, .int part, .int net, .int dx, .int dy]) ++ List.replicate (6 - (lg_sl ([.ref mo, .int part, .int net, .int dx, .int dy])).length) Slot.unset).toArray = ls at hl ⊢
  have hl : lv_has ls 6 [(0, .ref mo), (1, .int part), (2, .int net), (3, .int dx), (4, .int dy)] := hl
  have hm_1 : V mo = some (.inr (7, [.int (ρ.s 0), .int (ρ.s 1), .int (ρ.s 2), .int (ρ.s 3), .ref (ad 0), .ref (ad 1), .ref (ad 2), .ref (ad 3), .ref (ad 4), .ref (ad 5), .ref (ad 6), .ref (ad 7), .ref (ad 8), .int (ρ.s 4), .ref (ad 9), .ref (ad 10), .ref (ad 11), .ref (ad 12), .ref (ad 13), .ref (ad 14), .ref (ad 15), .ref (ad 16), .ref (ad 17), .ref (ad 18), .ref (ad 19), .ref (ad 20), .ref (ad 21), .ref (ad 22), .ref (ad 23), .ref (ad 24), .ref (ad 25)])) := hM.1
  have hm_1_1 : V (ad 1) = some (eZ k 150 (ρ.I 1)) := hM.a1
  have hm_1_2 : V (ad 2) = some (eI k 150 (ρ.I 2)) := hM.a2
  have hm_1_3 : V (ad 3) = some (eI k 150 (ρ.I 3)) := hM.a3
  have hm_1_4 : V (ad 4) = some (eI k 150 (ρ.I 4)) := hM.a4
  have hm_1_5 : V (ad 5) = some (eI k 150 (ρ.I 5)) := hM.a5
  refine lv_aload_n hx hb d_Mo_pad_0 rfl (lv_at hl 0 rfl) ?_
  refine lv_aload_n hx hb d_Mo_pad_1 rfl (lv_at hl 0 rfl) ?_
  refine lv_iload_n hx hb d_Mo_pad_2 rfl (lv_at hl 1 rfl) ?_
  refine lv_iconst (v := 2) hx hb d_Mo_pad_3 (by decide) ?_
  refine rc_i (va_runV (As := [.int part, .int 2]) (rest := [.ref mo]) ⟨hx, hb, hml, hown, hts⟩ (c_Mo_fault l D N0 k V mo ad ρ hM part 2) (cwV 2 hts (gi_V wm_Mo_176 wv_Mo_fault ws_Mo_fault wi_Mo wc_Mo_fault) rfl rfl rfl (by decide +kernel) ⟨Nat.le_of_ble_eq_true rfl, Nat.le_of_ble_eq_true rfl⟩) (mP.preV hG hS hV hm_1 rfl) rfl rfl hl.1 rfl (lv_room (Nat.le_of_ble_eq_true rfl)) d_Mo_pad_4 ⟨Nat.le_of_ble_eq_true rfl, Nat.le_of_ble_eq_true rfl⟩) hS (fun H locs hV hS => ?_)
  refine W.eq (g2 := F0 m 7 ls [.int (moFault (ρ.I 0) part 2), .ref mo]) rfl ?_
  refine lv_aload_n hx hb d_Mo_pad_7 rfl (lv_at hl 0 rfl) ?_
  refine lv_iload_n hx hb d_Mo_pad_8 rfl (lv_at hl 2 rfl) ?_
  refine lv_iconst (v := 1) hx hb d_Mo_pad_9 (by decide) ?_
  refine rc_i (va_runV (As := [.int net, .int 1]) (rest := [.int (moFault (ρ.I 0) part 2), .ref mo]) ⟨hx, hb, hml, hown, hts⟩ (c_Mo_fault l D N0 k V mo ad ρ hM net 1) (cwV 2 hts (gi_V wm_Mo_176 wv_Mo_fault ws_Mo_fault wi_Mo wc_Mo_fault) rfl rfl rfl (by decide +kernel) ⟨Nat.le_of_ble_eq_true rfl, Nat.le_of_ble_eq_true rfl⟩) (mP.preV hG hS hV hm_1 rfl) rfl rfl hl.1 rfl (lv_room (Nat.le_of_ble_eq_true rfl)) d_Mo_pad_10 ⟨Nat.le_of_ble_eq_true rfl, Nat.le_of_ble_eq_true rfl⟩) hS (fun H locs hV hS => ?_)
  refine W.eq (g2 := F0 m 13 ls [.int (moFault (ρ.I 0) net 1), .int (moFault (ρ.I 0) part 2), .ref mo]) rfl ?_
  refine rc_i (va_runS (As := [.int (moFault (ρ.I 0) part 2), .int (moFault (ρ.I 0) net 1)]) (rest := [.ref mo]) ⟨hx, hb, hml, hown, hts⟩ (c_Mo_worst l D N0 k V (moFault (ρ.I 0) part 2) (moFault (ρ.I 0) net 1)) (va_cwS 2 hts (gi_S wm_Mo_180 wt_Mo_worst wi_Mo wc_Mo_worst) rfl rfl rfl (by decide +kernel) ⟨Nat.le_of_ble_eq_true rfl, Nat.le_of_ble_eq_true rfl⟩) (mP.preS hG hS hV) rfl rfl hl.1 rfl (lv_room (Nat.le_of_ble_eq_true rfl)) d_Mo_pad_13 ⟨Nat.le_of_ble_eq_true rfl, Nat.le_of_ble_eq_true rfl⟩) hS (fun H locs hV hS => ?_)
  refine lv_topi (fun f_2 ef_2 => ?_)
  refine pf_Mo_100 hx hb hW hown hG hV hS hm_1 d_Mo_pad_16 (fun H locs hV hS => ?_)
  replace hV : hv D vwCl N0 (hu V mo (.inr (7, [.int f_2, .int (ρ.s 1), .int (ρ.s 2), .int (ρ.s 3), .ref (ad 0), .ref (ad 1), .ref (ad 2), .ref (ad 3), .ref (ad 4), .ref (ad 5), .ref (ad 6), .ref (ad 7), .ref (ad 8), .int (ρ.s 4), .ref (ad 9), .ref (ad 10), .ref (ad 11), .ref (ad 12), .ref (ad 13), .ref (ad 14), .ref (ad 15), .ref (ad 16), .ref (ad 17), .ref (ad 18), .ref (ad 19), .ref (ad 20), .ref (ad 21), .ref (ad 22), .ref (ad 23), .ref (ad 24), .ref (ad 25)]))) H := hV
  generalize hV_V_3 : hu V mo (.inr (7, [.int f_2, .int (ρ.s 1), .int (ρ.s 2), .int (ρ.s 3), .ref (ad 0), .ref (ad 1), .ref (ad 2), .ref (ad 3), .ref (ad 4), .ref (ad 5), .ref (ad 6), .ref (ad 7), .ref (ad 8), .int (ρ.s 4), .ref (ad 9), .ref (ad 10), .ref (ad 11), .ref (ad 12), .ref (ad 13), .ref (ad 14), .ref (ad 15), .ref (ad 16), .ref (ad 17), .ref (ad 18), .ref (ad 19), .ref (ad 20), .ref (ad 21), .ref (ad 22), .ref (ad 23), .ref (ad 24), .ref (ad 25)])) = V_3 at hV
  have hM_3 : mdOk k V_3 mo ad (ρ.ws 0 f_2) := by rw [← hV_V_3]; exact md_put hM 0 f_2
  have hR_3 : mdFr mo ad V V_3 := by rw [← hV_V_3]; exact (mdFr.rf (mo := mo) (ad := ad) (V := V)).m
  have hm_4 : V_3 mo = some (.inr (7, [.int f_2, .int (ρ.s 1), .int (ρ.s 2), .int (ρ.s 3), .ref (ad 0), .ref (ad 1), .ref (ad 2), .ref (ad 3), .ref (ad 4), .ref (ad 5), .ref (ad 6), .ref (ad 7), .ref (ad 8), .int (ρ.s 4), .ref (ad 9), .ref (ad 10), .ref (ad 11), .ref (ad 12), .ref (ad 13), .ref (ad 14), .ref (ad 15), .ref (ad 16), .ref (ad 17), .ref (ad 18), .ref (ad 19), .ref (ad 20), .ref (ad 21), .ref (ad 22), .ref (ad 23), .ref (ad 24), .ref (ad 25)])) := hM_3.1
  have hm_4_1 : V_3 (ad 1) = some (eZ k 150 (ρ.I 1)) := hM_3.a1
  have hm_4_2 : V_3 (ad 2) = some (eI k 150 (ρ.I 2)) := hM_3.a2
  have hm_4_3 : V_3 (ad 3) = some (eI k 150 (ρ.I 3)) := hM_3.a3
  have hm_4_4 : V_3 (ad 4) = some (eI k 150 (ρ.I 4)) := hM_3.a4
  have hm_4_5 : V_3 (ad 5) = some (eI k 150 (ρ.I 5)) := hM_3.a5
  refine lv_iload_n hx hb d_Mo_pad_19 rfl (lv_at hl 1 rfl) ?_
  refine lv_sipush (v := 1000) hx hb d_Mo_pad_20 (by decide) ?_
  refine lv_irem hx hb d_Mo_pad_23 (by decide) ?_
  refine lv_istore (lv' := [(5, .int (part - part / 1000 * 1000)), (0, .ref mo), (1, .int part), (2, .int net), (3, .int dx), (4, .int dy)]) hx hb d_Mo_pad_24 hl (by decide) rfl (fun ls hl => ?_)
  refine lv_aload_n hx hb d_Mo_pad_26 rfl (lv_at hl 1 rfl) ?_
  refine lv_aload_n hx hb d_Mo_pad_27 rfl (lv_at hl 1 rfl) ?_
  refine gf_Mo_100 hx hb hW hown hG hV hm_4 d_Mo_pad_28 ?_
  refine lv_if_ne (tgt := 48) hx hb d_Mo_pad_31 (by decide) (fun c_5 => ?_) (fun c_5 => ?_)
  · refine lv_aload_n hx hb d_Mo_pad_48 rfl (lv_at hl 1 rfl) ?_
    refine gf_Mo_100 hx hb hW hown hG hV hm_4 d_Mo_pad_49 ?_
    refine pf_Mo_100 hx hb hW hown hG hV hS hm_4 d_Mo_pad_52 (fun H locs hV hS => ?_)
    replace hV : hv D vwCl N0 (hu V_3 mo (.inr (7, [.int f_2, .int (ρ.s 1), .int (ρ.s 2), .int (ρ.s 3), .ref (ad 0), .ref (ad 1), .ref (ad 2), .ref (ad 3), .ref (ad 4), .ref (ad 5), .ref (ad 6), .ref (ad 7), .ref (ad 8), .int (ρ.s 4), .ref (ad 9), .ref (ad 10), .ref (ad 11), .ref (ad 12), .ref (ad 13), .ref (ad 14), .ref (ad 15), .ref (ad 16), .ref (ad 17), .ref (ad 18), .ref (ad 19), .ref (ad 20), .ref (ad 21), .ref (ad 22), .ref (ad 23), .ref (ad 24), .ref (ad 25)]))) H := hV
    generalize hV_V_6 : hu V_3 mo (.inr (7, [.int f_2, .int (ρ.s 1), .int (ρ.s 2), .int (ρ.s 3), .ref (ad 0), .ref (ad 1), .ref (ad 2), .ref (ad 3), .ref (ad 4), .ref (ad 5), .ref (ad 6), .ref (ad 7), .ref (ad 8), .int (ρ.s 4), .ref (ad 9), .ref (ad 10), .ref (ad 11), .ref (ad 12), .ref (ad 13), .ref (ad 14), .ref (ad 15), .ref (ad 16), .ref (ad 17), .ref (ad 18), .ref (ad 19), .ref (ad 20), .ref (ad 21), .ref (ad 22), .ref (ad 23), .ref (ad 24), .ref (ad 25)])) = V_6 at hV
    have hM_6 : mdOk k V_6 mo ad ((ρ.ws 0 f_2).ws 0 f_2) := by rw [← hV_V_6]; exact md_put hM_3 0 f_2
    have hR_6 : mdFr mo ad V V_6 := by rw [← hV_V_6]; exact hR_3.m
    have hm_7 : V_6 mo = some (.inr (7, [.int f_2, .int (ρ.s 1), .int (ρ.s 2), .int (ρ.s 3), .ref (ad 0), .ref (ad 1), .ref (ad 2), .ref (ad 3), .ref (ad 4), .ref (ad 5), .ref (ad 6), .ref (ad 7), .ref (ad 8), .int (ρ.s 4), .ref (ad 9), .ref (ad 10), .ref (ad 11), .ref (ad 12), .ref (ad 13), .ref (ad 14), .ref (ad 15), .ref (ad 16), .ref (ad 17), .ref (ad 18), .ref (ad 19), .ref (ad 20), .ref (ad 21), .ref (ad 22), .ref (ad 23), .ref (ad 24), .ref (ad 25)])) := hM_6.1
    have hm_7_1 : V_6 (ad 1) = some (eZ k 150 (ρ.I 1)) := hM_6.a1
    have hm_7_2 : V_6 (ad 2) = some (eI k 150 (ρ.I 2)) := hM_6.a2
    have hm_7_3 : V_6 (ad 3) = some (eI k 150 (ρ.I 3)) := hM_6.a3
    have hm_7_4 : V_6 (ad 4) = some (eI k 150 (ρ.I 4)) := hM_6.a4
    have hm_7_5 : V_6 (ad 5) = some (eI k 150 (ρ.I 5)) := hM_6.a5
    refine lv_aload_n hx hb d_Mo_pad_55 rfl (lv_at hl 1 rfl) ?_
    refine gf_Mo_100 hx hb hW hown hG hV hm_7 d_Mo_pad_56 ?_
    refine lv_if_eq (tgt := 64) hx hb d_Mo_pad_59 (by decide) (fun c_8 => ?_) (fun c_8 => ?_)
    · exact absurd c_8 c_5
    · refine lv_iconst (v := 0) hx hb d_Mo_pad_62 (by decide) ?_
      try simp only [bI_ne0, bI_eq0, decide_eq_true_eq, decide_eq_false_iff_not, Bool.not_eq_false, Bool.not_eq_true, Decidable.not_not] at c_5
      try simp only [bI_ne0, bI_eq0, decide_eq_true_eq, decide_eq_false_iff_not, Bool.not_eq_false, Bool.not_eq_true, Decidable.not_not] at c_8
      subst ef_2
      have hfin : moPad ρ n3 n6 part net dx dy = (0, ((ρ.ws 0 (moWorst (moFault (ρ.I 0) part 2) (moFault (ρ.I 0) net 1))).ws 0 (moWorst (moFault (ρ.I 0) part 2) (moFault (ρ.I 0) net 1)))) := by first | (simp only [moPad, c_5, c_8, decide_true, decide_false, Bool.true_and, Bool.and_true, Bool.false_and, Bool.and_false, Bool.true_or, Bool.or_true, Bool.false_or, Bool.or_false, Bool.not_true, Bool.not_false, if_true, if_false, Bool.false_eq_true, Bool.true_eq_false, reduceIte, eq_self]; done) | (simp [moPad, c_5, c_8]; done) | (simp_all [moPad]; done)
      exact W.iret (v := 0) hx hb hr (fun t9 ht hW => ⟨⟨0, V_6, rfl, ⟨by rw [hfin]; exact hM_6, hR_6, by rw [hfin]⟩, mB_of ht hV⟩, hS.F ht⟩) hS.2.2 d_Mo_pad_63
  · obtain ⟨f0a, f0b⟩ := moWorst0 (ef_2.symm.trans c_5) (moFault3 _ _ _) (moFault3 _ _ _)
    obtain ⟨g0a, k0a⟩ := moFault0 f0a
    obtain ⟨-, eN, -, -, hlt9⟩ := mg_of hGm g0a
    have hKh : hdK part = 2 := hdK_of (by decide) k0a
    have hp9 : hdN part < 20 := by rw [hKh] at hlt9; exact Nat.lt_of_lt_of_le hlt9 (mN_of hGm (by omega) (by omega)).2
    rw [eN] at hl
    refine lv_aload_n hx hb d_Mo_pad_34 rfl (lv_at hl 1 rfl) ?_
    refine gf_Mo_13 hx hb hW hown hG hV hm_4 d_Mo_pad_35 ?_
    refine lv_iload hx hb d_Mo_pad_38 (lv_at hl 0 rfl) ?_
    refine hv_zald hx hb hG.K hV 2 hm_4_1 rfl (vp_in_nI (by omega) (by omega)) d_Mo_pad_40 ?_
    rw [nI_clamp (by omega)]
    refine lv_if_ne (tgt := 48) hx hb d_Mo_pad_41 (by decide) (fun c_9 => ?_) (fun c_9 => ?_)
    · refine lv_aload_n hx hb d_Mo_pad_48 rfl (lv_at hl 1 rfl) ?_
      refine gf_Mo_100 hx hb hW hown hG hV hm_4 d_Mo_pad_49 ?_
      refine pf_Mo_100 hx hb hW hown hG hV hS hm_4 d_Mo_pad_52 (fun H locs hV hS => ?_)
      replace hV : hv D vwCl N0 (hu V_3 mo (.inr (7, [.int f_2, .int (ρ.s 1), .int (ρ.s 2), .int (ρ.s 3), .ref (ad 0), .ref (ad 1), .ref (ad 2), .ref (ad 3), .ref (ad 4), .ref (ad 5), .ref (ad 6), .ref (ad 7), .ref (ad 8), .int (ρ.s 4), .ref (ad 9), .ref (ad 10), .ref (ad 11), .ref (ad 12), .ref (ad 13), .ref (ad 14), .ref (ad 15), .ref (ad 16), .ref (ad 17), .ref (ad 18), .ref (ad 19), .ref (ad 20), .ref (ad 21), .ref (ad 22), .ref (ad 23), .ref (ad 24), .ref (ad 25)]))) H := hV
      generalize hV_V_10 : hu V_3 mo (.inr (7, [.int f_2, .int (ρ.s 1), .int (ρ.s 2), .int (ρ.s 3), .ref (ad 0), .ref (ad 1), .ref (ad 2), .ref (ad 3), .ref (ad 4), .ref (ad 5), .ref (ad 6), .ref (ad 7), .ref (ad 8), .int (ρ.s 4), .ref (ad 9), .ref (ad 10), .ref (ad 11), .ref (ad 12), .ref (ad 13), .ref (ad 14), .ref (ad 15), .ref (ad 16), .ref (ad 17), .ref (ad 18), .ref (ad 19), .ref (ad 20), .ref (ad 21), .ref (ad 22), .ref (ad 23), .ref (ad 24), .ref (ad 25)])) = V_10 at hV
      have hM_10 : mdOk k V_10 mo ad ((ρ.ws 0 f_2).ws 0 f_2) := by rw [← hV_V_10]; exact md_put hM_3 0 f_2
      have hR_10 : mdFr mo ad V V_10 := by rw [← hV_V_10]; exact hR_3.m
      have hm_11 : V_10 mo = some (.inr (7, [.int f_2, .int (ρ.s 1), .int (ρ.s 2), .int (ρ.s 3), .ref (ad 0), .ref (ad 1), .ref (ad 2), .ref (ad 3), .ref (ad 4), .ref (ad 5), .ref (ad 6), .ref (ad 7), .ref (ad 8), .int (ρ.s 4), .ref (ad 9), .ref (ad 10), .ref (ad 11), .ref (ad 12), .ref (ad 13), .ref (ad 14), .ref (ad 15), .ref (ad 16), .ref (ad 17), .ref (ad 18), .ref (ad 19), .ref (ad 20), .ref (ad 21), .ref (ad 22), .ref (ad 23), .ref (ad 24), .ref (ad 25)])) := hM_10.1
      have hm_11_1 : V_10 (ad 1) = some (eZ k 150 (ρ.I 1)) := hM_10.a1
      have hm_11_2 : V_10 (ad 2) = some (eI k 150 (ρ.I 2)) := hM_10.a2
      have hm_11_3 : V_10 (ad 3) = some (eI k 150 (ρ.I 3)) := hM_10.a3
      have hm_11_4 : V_10 (ad 4) = some (eI k 150 (ρ.I 4)) := hM_10.a4
      have hm_11_5 : V_10 (ad 5) = some (eI k 150 (ρ.I 5)) := hM_10.a5
      refine lv_aload_n hx hb d_Mo_pad_55 rfl (lv_at hl 1 rfl) ?_
      refine gf_Mo_100 hx hb hW hown hG hV hm_11 d_Mo_pad_56 ?_
      refine lv_if_eq (tgt := 64) hx hb d_Mo_pad_59 (by decide) (fun c_12 => ?_) (fun c_12 => ?_)
      · refine lv_aload_n hx hb d_Mo_pad_64 rfl (lv_at hl 1 rfl) ?_
        refine lv_iconst (v := 3) hx hb d_Mo_pad_65 (by decide) ?_
        refine rc_i (va_runV (As := [.int 3]) (rest := []) ⟨hx, hb, hml, hown, hts⟩ (c_Mo_isFull l D N0 k V_10 mo ad ((ρ.ws 0 f_2).ws 0 f_2) hM_10 3 (by omega) (by omega)) (cwV 1 hts (gi_V wm_Mo_152 wv_Mo_isFull ws_Mo_isFull wi_Mo wc_Mo_isFull) rfl rfl rfl (by decide +kernel) ⟨Nat.le_of_ble_eq_true rfl, Nat.le_of_ble_eq_true rfl⟩) (mP.preV hG hS hV hm_11 rfl) rfl rfl hl.1 rfl (lv_room (Nat.le_of_ble_eq_true rfl)) d_Mo_pad_66 ⟨Nat.le_of_ble_eq_true rfl, Nat.le_of_ble_eq_true rfl⟩) hS (fun H locs hV hS => ?_)
        refine W.eq (g2 := F0 m 69 ls [.int (bI (decide ((ρ.I 0) 3 = nI (liN 3))))]) rfl ?_
        refine lv_if_eq (tgt := 78) hx hb d_Mo_pad_69 (by decide) (fun c_13 => ?_) (fun c_13 => ?_)
        · refine lv_iload_n hx hb d_Mo_pad_78 rfl (lv_at hl 4 rfl) ?_
          refine lv_if_lt (tgt := 110) hx hb d_Mo_pad_79 (by decide) (fun c_14 => ?_) (fun c_14 => ?_)
          · have c_14 := i_nle c_14
            refine lv_aload_n hx hb d_Mo_pad_110 rfl (lv_at hl 1 rfl) ?_
            refine lv_iconst (v := 2) hx hb d_Mo_pad_111 (by decide) ?_
            refine rc_I (va_runV (As := [.int 2]) (rest := []) ⟨hx, hb, hml, hown, hts⟩ (c_Mo_refuse l D N0 k V_10 mo ad ((ρ.ws 0 f_2).ws 0 f_2) hM_10 2) (cwV 1 hts (gi_V wm_Mo_155 wv_Mo_refuse ws_Mo_refuse wi_Mo wc_Mo_refuse) rfl rfl rfl (by decide +kernel) ⟨Nat.le_of_ble_eq_true rfl, Nat.le_of_ble_eq_true rfl⟩) (mP.preV hG hS hV hm_11 rfl) rfl rfl hl.1 rfl (lv_room (Nat.le_of_ble_eq_true rfl)) d_Mo_pad_112 ⟨Nat.le_of_ble_eq_true rfl, Nat.le_of_ble_eq_true rfl⟩) hS (fun r_15 V_16 H locs hp_17 hV hS => ?_)
            obtain ⟨hM_18, hM_18R, hM_18e⟩ := hp_17
            subst hM_18e
            try simp only [bI_ne0, bI_eq0, decide_eq_true_eq, decide_eq_false_iff_not, Bool.not_eq_false, Bool.not_eq_true, Decidable.not_not] at c_5
            try simp only [bI_ne0, bI_eq0, decide_eq_true_eq, decide_eq_false_iff_not, Bool.not_eq_false, Bool.not_eq_true, Decidable.not_not] at c_9
            try simp only [bI_ne0, bI_eq0, decide_eq_true_eq, decide_eq_false_iff_not, Bool.not_eq_false, Bool.not_eq_true, Decidable.not_not] at c_12
            try simp only [bI_ne0, bI_eq0, decide_eq_true_eq, decide_eq_false_iff_not, Bool.not_eq_false, Bool.not_eq_true, Decidable.not_not] at c_13
            try simp only [bI_ne0, bI_eq0, decide_eq_true_eq, decide_eq_false_iff_not, Bool.not_eq_false, Bool.not_eq_true, Decidable.not_not] at c_14
            subst ef_2
            have hfin : moPad ρ n3 n6 part net dx dy = ((-1), (((ρ.ws 0 (moWorst (moFault (ρ.I 0) part 2) (moFault (ρ.I 0) net 1))).ws 0 (moWorst (moFault (ρ.I 0) part 2) (moFault (ρ.I 0) net 1))).ws 3 2)) := by first | (simp only [moPad, c_5, c_9, c_12, c_13, c_14, decide_true, decide_false, Bool.true_and, Bool.and_true, Bool.false_and, Bool.and_false, Bool.true_or, Bool.or_true, Bool.false_or, Bool.or_false, Bool.not_true, Bool.not_false, if_true, if_false, Bool.false_eq_true, Bool.true_eq_false, reduceIte, eq_self]; done) | (simp [moPad, c_5, c_9, c_12, c_13, c_14]; done) | (simp_all [moPad]; done)
            exact W.iret (v := (-1)) hx hb hr (fun t9 ht hW => ⟨⟨(-1), V_16, rfl, ⟨by rw [hfin]; exact hM_18, hR_10.tr hM_18R, by rw [hfin]⟩, mB_of ht hV⟩, hS.F ht⟩) hS.2.2 d_Mo_pad_115
          · have c_14 := i_le c_14
            refine lv_iload hx hb d_Mo_pad_82 (lv_at hl 5 rfl) ?_
            refine lv_if_lt (tgt := 110) hx hb d_Mo_pad_84 (by decide) (fun c_19 => ?_) (fun c_19 => ?_)
            · have c_19 := i_nle c_19
              refine lv_aload_n hx hb d_Mo_pad_110 rfl (lv_at hl 1 rfl) ?_
              refine lv_iconst (v := 2) hx hb d_Mo_pad_111 (by decide) ?_
              refine rc_I (va_runV (As := [.int 2]) (rest := []) ⟨hx, hb, hml, hown, hts⟩ (c_Mo_refuse l D N0 k V_10 mo ad ((ρ.ws 0 f_2).ws 0 f_2) hM_10 2) (cwV 1 hts (gi_V wm_Mo_155 wv_Mo_refuse ws_Mo_refuse wi_Mo wc_Mo_refuse) rfl rfl rfl (by decide +kernel) ⟨Nat.le_of_ble_eq_true rfl, Nat.le_of_ble_eq_true rfl⟩) (mP.preV hG hS hV hm_11 rfl) rfl rfl hl.1 rfl (lv_room (Nat.le_of_ble_eq_true rfl)) d_Mo_pad_112 ⟨Nat.le_of_ble_eq_true rfl, Nat.le_of_ble_eq_true rfl⟩) hS (fun r_20 V_21 H locs hp_22 hV hS => ?_)
              obtain ⟨hM_23, hM_23R, hM_23e⟩ := hp_22
              subst hM_23e
              try simp only [bI_ne0, bI_eq0, decide_eq_true_eq, decide_eq_false_iff_not, Bool.not_eq_false, Bool.not_eq_true, Decidable.not_not] at c_5
              try simp only [bI_ne0, bI_eq0, decide_eq_true_eq, decide_eq_false_iff_not, Bool.not_eq_false, Bool.not_eq_true, Decidable.not_not] at c_9
              try simp only [bI_ne0, bI_eq0, decide_eq_true_eq, decide_eq_false_iff_not, Bool.not_eq_false, Bool.not_eq_true, Decidable.not_not] at c_12
              try simp only [bI_ne0, bI_eq0, decide_eq_true_eq, decide_eq_false_iff_not, Bool.not_eq_false, Bool.not_eq_true, Decidable.not_not] at c_13
              try simp only [bI_ne0, bI_eq0, decide_eq_true_eq, decide_eq_false_iff_not, Bool.not_eq_false, Bool.not_eq_true, Decidable.not_not] at c_14
              try simp only [bI_ne0, bI_eq0, decide_eq_true_eq, decide_eq_false_iff_not, Bool.not_eq_false, Bool.not_eq_true, Decidable.not_not] at c_19
              subst ef_2
              have hfin : moPad ρ n3 n6 part net dx dy = ((-1), (((ρ.ws 0 (moWorst (moFault (ρ.I 0) part 2) (moFault (ρ.I 0) net 1))).ws 0 (moWorst (moFault (ρ.I 0) part 2) (moFault (ρ.I 0) net 1))).ws 3 2)) := by first | (simp only [moPad, c_5, c_9, c_12, c_13, c_14, c_19, decide_true, decide_false, Bool.true_and, Bool.and_true, Bool.false_and, Bool.and_false, Bool.true_or, Bool.or_true, Bool.false_or, Bool.or_false, Bool.not_true, Bool.not_false, if_true, if_false, Bool.false_eq_true, Bool.true_eq_false, reduceIte, eq_self]; done) | (simp [moPad, c_5, c_9, c_12, c_13, c_14, c_19]; done) | (simp_all [moPad]; done)
              exact W.iret (v := (-1)) hx hb hr (fun t9 ht hW => ⟨⟨(-1), V_21, rfl, ⟨by rw [hfin]; exact hM_23, hR_10.tr hM_23R, by rw [hfin]⟩, mB_of ht hV⟩, hS.F ht⟩) hS.2.2 d_Mo_pad_115
            · have c_19 := i_le c_19
              refine lv_iload_n hx hb d_Mo_pad_87 rfl (lv_at hl 4 rfl) ?_
              refine lv_aload_n hx hb d_Mo_pad_88 rfl (lv_at hl 1 rfl) ?_
              refine gf_Mo_23 hx hb hW hown hG hV hm_11 d_Mo_pad_89 ?_
              refine lv_iload hx hb d_Mo_pad_92 (lv_at hl 0 rfl) ?_
              refine hv_iald hx hb hG.K hV 0 hm_11_4 rfl (vp_in_nI (by omega) (by omega)) d_Mo_pad_94 ?_
              rw [nI_clamp (by omega)]
              refine lv_icmp_ge (tgt := 110) hx hb d_Mo_pad_95 (by decide) (fun c_24 => ?_) (fun c_24 => ?_)
              · refine lv_aload_n hx hb d_Mo_pad_110 rfl (lv_at hl 1 rfl) ?_
                refine lv_iconst (v := 2) hx hb d_Mo_pad_111 (by decide) ?_
                refine rc_I (va_runV (As := [.int 2]) (rest := []) ⟨hx, hb, hml, hown, hts⟩ (c_Mo_refuse l D N0 k V_10 mo ad ((ρ.ws 0 f_2).ws 0 f_2) hM_10 2) (cwV 1 hts (gi_V wm_Mo_155 wv_Mo_refuse ws_Mo_refuse wi_Mo wc_Mo_refuse) rfl rfl rfl (by decide +kernel) ⟨Nat.le_of_ble_eq_true rfl, Nat.le_of_ble_eq_true rfl⟩) (mP.preV hG hS hV hm_11 rfl) rfl rfl hl.1 rfl (lv_room (Nat.le_of_ble_eq_true rfl)) d_Mo_pad_112 ⟨Nat.le_of_ble_eq_true rfl, Nat.le_of_ble_eq_true rfl⟩) hS (fun r_25 V_26 H locs hp_27 hV hS => ?_)
                obtain ⟨hM_28, hM_28R, hM_28e⟩ := hp_27
                subst hM_28e
                try simp only [bI_ne0, bI_eq0, decide_eq_true_eq, decide_eq_false_iff_not, Bool.not_eq_false, Bool.not_eq_true, Decidable.not_not] at c_5
                try simp only [bI_ne0, bI_eq0, decide_eq_true_eq, decide_eq_false_iff_not, Bool.not_eq_false, Bool.not_eq_true, Decidable.not_not] at c_9
                try simp only [bI_ne0, bI_eq0, decide_eq_true_eq, decide_eq_false_iff_not, Bool.not_eq_false, Bool.not_eq_true, Decidable.not_not] at c_12
                try simp only [bI_ne0, bI_eq0, decide_eq_true_eq, decide_eq_false_iff_not, Bool.not_eq_false, Bool.not_eq_true, Decidable.not_not] at c_13
                try simp only [bI_ne0, bI_eq0, decide_eq_true_eq, decide_eq_false_iff_not, Bool.not_eq_false, Bool.not_eq_true, Decidable.not_not] at c_14
                try simp only [bI_ne0, bI_eq0, decide_eq_true_eq, decide_eq_false_iff_not, Bool.not_eq_false, Bool.not_eq_true, Decidable.not_not] at c_19
                try simp only [bI_ne0, bI_eq0, decide_eq_true_eq, decide_eq_false_iff_not, Bool.not_eq_false, Bool.not_eq_true, Decidable.not_not] at c_24
                subst ef_2
                have hfin : moPad ρ n3 n6 part net dx dy = ((-1), (((ρ.ws 0 (moWorst (moFault (ρ.I 0) part 2) (moFault (ρ.I 0) net 1))).ws 0 (moWorst (moFault (ρ.I 0) part 2) (moFault (ρ.I 0) net 1))).ws 3 2)) := by first | (simp only [moPad, c_5, c_9, c_12, c_13, c_14, c_19, c_24, decide_true, decide_false, Bool.true_and, Bool.and_true, Bool.false_and, Bool.and_false, Bool.true_or, Bool.or_true, Bool.false_or, Bool.or_false, Bool.not_true, Bool.not_false, if_true, if_false, Bool.false_eq_true, Bool.true_eq_false, reduceIte, eq_self]; done) | (simp [moPad, c_5, c_9, c_12, c_13, c_14, c_19, c_24]; done) | (simp_all [moPad]; done)
                exact W.iret (v := (-1)) hx hb hr (fun t9 ht hW => ⟨⟨(-1), V_26, rfl, ⟨by rw [hfin]; exact hM_28, hR_10.tr hM_28R, by rw [hfin]⟩, mB_of ht hV⟩, hS.F ht⟩) hS.2.2 d_Mo_pad_115
              · refine lv_iload hx hb d_Mo_pad_98 (lv_at hl 5 rfl) ?_
                refine lv_aload_n hx hb d_Mo_pad_100 rfl (lv_at hl 1 rfl) ?_
                refine gf_Mo_26 hx hb hW hown hG hV hm_11 d_Mo_pad_101 ?_
                refine lv_iload hx hb d_Mo_pad_104 (lv_at hl 0 rfl) ?_
                refine hv_iald hx hb hG.K hV 0 hm_11_5 rfl (vp_in_nI (by omega) (by omega)) d_Mo_pad_106 ?_
                rw [nI_clamp (by omega)]
                refine lv_icmp_lt (tgt := 116) hx hb d_Mo_pad_107 (by decide) (fun c_29 => ?_) (fun c_29 => ?_)
                · have c_29 := i_nle c_29
                  refine lv_aload_n hx hb d_Mo_pad_116 rfl (lv_at hl 1 rfl) ?_
                  refine lv_iconst (v := 3) hx hb d_Mo_pad_117 (by decide) ?_
                  refine lv_iload_n hx hb d_Mo_pad_118 rfl (lv_at hl 3 rfl) ?_
                  refine lv_sipush (v := 1000) hx hb d_Mo_pad_119 (by decide) ?_
                  refine lv_irem hx hb d_Mo_pad_122 (by decide) ?_
                  refine lv_iconst (v := 0) hx hb d_Mo_pad_123 (by decide) ?_
                  refine lv_aload_n hx hb d_Mo_pad_124 rfl (lv_at hl 1 rfl) ?_
                  refine gf_Mo_17 hx hb hW hown hG hV hm_11 d_Mo_pad_125 ?_
                  refine lv_iload hx hb d_Mo_pad_128 (lv_at hl 0 rfl) ?_
                  refine hv_iald hx hb hG.K hV 0 hm_11_2 rfl (vp_in_nI (by omega) (by omega)) d_Mo_pad_130 ?_
                  rw [nI_clamp (by omega)]
                  refine lv_iload_n hx hb d_Mo_pad_131 rfl (lv_at hl 4 rfl) ?_
                  refine lv_iadd hx hb d_Mo_pad_132 ?_
                  refine lv_aload_n hx hb d_Mo_pad_133 rfl (lv_at hl 1 rfl) ?_
                  refine gf_Mo_20 hx hb hW hown hG hV hm_11 d_Mo_pad_134 ?_
                  refine lv_iload hx hb d_Mo_pad_137 (lv_at hl 0 rfl) ?_
                  refine hv_iald hx hb hG.K hV 0 hm_11_3 rfl (vp_in_nI (by omega) (by omega)) d_Mo_pad_139 ?_
                  rw [nI_clamp (by omega)]
                  refine lv_iload hx hb d_Mo_pad_140 (lv_at hl 5 rfl) ?_
                  refine lv_iadd hx hb d_Mo_pad_142 ?_
                  refine lv_iconst (v := 1) hx hb d_Mo_pad_143 (by decide) ?_
                  refine lv_iconst (v := 1) hx hb d_Mo_pad_144 (by decide) ?_
                  refine lv_iload hx hb d_Mo_pad_145 (lv_at hl 0 rfl) ?_
                  refine rc_I (va_runV (As := [.int 3, .int (net - net / 1000 * 1000), .int 0, .int (((ρ.I 2) (hdN part)) + dx), .int (((ρ.I 3) (hdN part)) + dy), .int 1, .int 1, .int (nI (hdN part))]) (rest := []) ⟨hx, hb, hml, hown, hts⟩ (c_Mo_makeCopper l D N0 k V_10 mo ad ((ρ.ws 0 f_2).ws 0 f_2) hM_10 (net - net / 1000 * 1000) 0 (((ρ.I 2) (hdN part)) + dx) (((ρ.I 3) (hdN part)) + dy) 1 1 (nI (hdN part)) 3 n3 (by omega) (by omega) en3 hn3 n6 hn6 en6 hwo) (cwV 8 hts (gi_V wm_Mo_183 wv_Mo_makeCopper ws_Mo_makeCopper wi_Mo wc_Mo_makeCopper) rfl rfl rfl (by decide +kernel) ⟨Nat.le_of_ble_eq_true rfl, Nat.le_of_ble_eq_true rfl⟩) (mP.preV hG hS hV hm_11 rfl) rfl rfl hl.1 rfl (lv_room (Nat.le_of_ble_eq_true rfl)) d_Mo_pad_147 ⟨Nat.le_of_ble_eq_true rfl, Nat.le_of_ble_eq_true rfl⟩) hS (fun r_30 V_31 H locs hp_32 hV hS => ?_)
                  obtain ⟨hM_33, hM_33R, hM_33e⟩ := hp_32
                  subst hM_33e
                  try simp only [bI_ne0, bI_eq0, decide_eq_true_eq, decide_eq_false_iff_not, Bool.not_eq_false, Bool.not_eq_true, Decidable.not_not] at c_5
                  try simp only [bI_ne0, bI_eq0, decide_eq_true_eq, decide_eq_false_iff_not, Bool.not_eq_false, Bool.not_eq_true, Decidable.not_not] at c_9
                  try simp only [bI_ne0, bI_eq0, decide_eq_true_eq, decide_eq_false_iff_not, Bool.not_eq_false, Bool.not_eq_true, Decidable.not_not] at c_12
                  try simp only [bI_ne0, bI_eq0, decide_eq_true_eq, decide_eq_false_iff_not, Bool.not_eq_false, Bool.not_eq_true, Decidable.not_not] at c_13
                  try simp only [bI_ne0, bI_eq0, decide_eq_true_eq, decide_eq_false_iff_not, Bool.not_eq_false, Bool.not_eq_true, Decidable.not_not] at c_14
                  try simp only [bI_ne0, bI_eq0, decide_eq_true_eq, decide_eq_false_iff_not, Bool.not_eq_false, Bool.not_eq_true, Decidable.not_not] at c_19
                  try simp only [bI_ne0, bI_eq0, decide_eq_true_eq, decide_eq_false_iff_not, Bool.not_eq_false, Bool.not_eq_true, Decidable.not_not] at c_24
                  try simp only [bI_ne0, bI_eq0, decide_eq_true_eq, decide_eq_false_iff_not, Bool.not_eq_false, Bool.not_eq_true, Decidable.not_not] at c_29
                  subst ef_2
                  have hfin : moPad ρ n3 n6 part net dx dy = ((moMkC ((ρ.ws 0 (moWorst (moFault (ρ.I 0) part 2) (moFault (ρ.I 0) net 1))).ws 0 (moWorst (moFault (ρ.I 0) part 2) (moFault (ρ.I 0) net 1))) 3 n3 n6 (net - net / 1000 * 1000) 0 (((ρ.I 2) (hdN part)) + dx) (((ρ.I 3) (hdN part)) + dy) 1 1 (nI (hdN part))).1, (moMkC ((ρ.ws 0 (moWorst (moFault (ρ.I 0) part 2) (moFault (ρ.I 0) net 1))).ws 0 (moWorst (moFault (ρ.I 0) part 2) (moFault (ρ.I 0) net 1))) 3 n3 n6 (net - net / 1000 * 1000) 0 (((ρ.I 2) (hdN part)) + dx) (((ρ.I 3) (hdN part)) + dy) 1 1 (nI (hdN part))).2) := by first | (simp only [moPad, c_5, c_9, c_12, c_13, c_14, c_19, c_24, c_29, decide_true, decide_false, Bool.true_and, Bool.and_true, Bool.false_and, Bool.and_false, Bool.true_or, Bool.or_true, Bool.false_or, Bool.or_false, Bool.not_true, Bool.not_false, if_true, if_false, Bool.false_eq_true, Bool.true_eq_false, reduceIte, eq_self]; done) | (simp [moPad, c_5, c_9, c_12, c_13, c_14, c_19, c_24, c_29]; done) | (simp_all [moPad]; done)
                  exact W.iret (v := (moMkC ((ρ.ws 0 (moWorst (moFault (ρ.I 0) part 2) (moFault (ρ.I 0) net 1))).ws 0 (moWorst (moFault (ρ.I 0) part 2) (moFault (ρ.I 0) net 1))) 3 n3 n6 (net - net / 1000 * 1000) 0 (((ρ.I 2) (hdN part)) + dx) (((ρ.I 3) (hdN part)) + dy) 1 1 (nI (hdN part))).1) hx hb hr (fun t9 ht hW => ⟨⟨(moMkC ((ρ.ws 0 (moWorst (moFault (ρ.I 0) part 2) (moFault (ρ.I 0) net 1))).ws 0 (moWorst (moFault (ρ.I 0) part 2) (moFault (ρ.I 0) net 1))) 3 n3 n6 (net - net / 1000 * 1000) 0 (((ρ.I 2) (hdN part)) + dx) (((ρ.I 3) (hdN part)) + dy) 1 1 (nI (hdN part))).1, V_31, rfl, ⟨by rw [hfin]; exact hM_33, hR_10.tr hM_33R, by rw [hfin]⟩, mB_of ht hV⟩, hS.F ht⟩) hS.2.2 d_Mo_pad_150
                · have c_29 := i_le c_29
                  refine lv_aload_n hx hb d_Mo_pad_110 rfl (lv_at hl 1 rfl) ?_
                  refine lv_iconst (v := 2) hx hb d_Mo_pad_111 (by decide) ?_
                  refine rc_I (va_runV (As := [.int 2]) (rest := []) ⟨hx, hb, hml, hown, hts⟩ (c_Mo_refuse l D N0 k V_10 mo ad ((ρ.ws 0 f_2).ws 0 f_2) hM_10 2) (cwV 1 hts (gi_V wm_Mo_155 wv_Mo_refuse ws_Mo_refuse wi_Mo wc_Mo_refuse) rfl rfl rfl (by decide +kernel) ⟨Nat.le_of_ble_eq_true rfl, Nat.le_of_ble_eq_true rfl⟩) (mP.preV hG hS hV hm_11 rfl) rfl rfl hl.1 rfl (lv_room (Nat.le_of_ble_eq_true rfl)) d_Mo_pad_112 ⟨Nat.le_of_ble_eq_true rfl, Nat.le_of_ble_eq_true rfl⟩) hS (fun r_34 V_35 H locs hp_36 hV hS => ?_)
                  obtain ⟨hM_37, hM_37R, hM_37e⟩ := hp_36
                  subst hM_37e
                  try simp only [bI_ne0, bI_eq0, decide_eq_true_eq, decide_eq_false_iff_not, Bool.not_eq_false, Bool.not_eq_true, Decidable.not_not] at c_5
                  try simp only [bI_ne0, bI_eq0, decide_eq_true_eq, decide_eq_false_iff_not, Bool.not_eq_false, Bool.not_eq_true, Decidable.not_not] at c_9
                  try simp only [bI_ne0, bI_eq0, decide_eq_true_eq, decide_eq_false_iff_not, Bool.not_eq_false, Bool.not_eq_true, Decidable.not_not] at c_12
                  try simp only [bI_ne0, bI_eq0, decide_eq_true_eq, decide_eq_false_iff_not, Bool.not_eq_false, Bool.not_eq_true, Decidable.not_not] at c_13
                  try simp only [bI_ne0, bI_eq0, decide_eq_true_eq, decide_eq_false_iff_not, Bool.not_eq_false, Bool.not_eq_true, Decidable.not_not] at c_14
                  try simp only [bI_ne0, bI_eq0, decide_eq_true_eq, decide_eq_false_iff_not, Bool.not_eq_false, Bool.not_eq_true, Decidable.not_not] at c_19
                  try simp only [bI_ne0, bI_eq0, decide_eq_true_eq, decide_eq_false_iff_not, Bool.not_eq_false, Bool.not_eq_true, Decidable.not_not] at c_24
                  try simp only [bI_ne0, bI_eq0, decide_eq_true_eq, decide_eq_false_iff_not, Bool.not_eq_false, Bool.not_eq_true, Decidable.not_not] at c_29
                  subst ef_2
                  have hfin : moPad ρ n3 n6 part net dx dy = ((-1), (((ρ.ws 0 (moWorst (moFault (ρ.I 0) part 2) (moFault (ρ.I 0) net 1))).ws 0 (moWorst (moFault (ρ.I 0) part 2) (moFault (ρ.I 0) net 1))).ws 3 2)) := by first | (simp only [moPad, c_5, c_9, c_12, c_13, c_14, c_19, c_24, c_29, decide_true, decide_false, Bool.true_and, Bool.and_true, Bool.false_and, Bool.and_false, Bool.true_or, Bool.or_true, Bool.false_or, Bool.or_false, Bool.not_true, Bool.not_false, if_true, if_false, Bool.false_eq_true, Bool.true_eq_false, reduceIte, eq_self]; done) | (simp [moPad, c_5, c_9, c_12, c_13, c_14, c_19, c_24, c_29]; done) | (simp_all [moPad]; done)
                  exact W.iret (v := (-1)) hx hb hr (fun t9 ht hW => ⟨⟨(-1), V_35, rfl, ⟨by rw [hfin]; exact hM_37, hR_10.tr hM_37R, by rw [hfin]⟩, mB_of ht hV⟩, hS.F ht⟩) hS.2.2 d_Mo_pad_115
        · refine lv_aload_n hx hb d_Mo_pad_72 rfl (lv_at hl 1 rfl) ?_
          refine lv_iconst (v := 1) hx hb d_Mo_pad_73 (by decide) ?_
          refine rc_I (va_runV (As := [.int 1]) (rest := []) ⟨hx, hb, hml, hown, hts⟩ (c_Mo_refuse l D N0 k V_10 mo ad ((ρ.ws 0 f_2).ws 0 f_2) hM_10 1) (cwV 1 hts (gi_V wm_Mo_155 wv_Mo_refuse ws_Mo_refuse wi_Mo wc_Mo_refuse) rfl rfl rfl (by decide +kernel) ⟨Nat.le_of_ble_eq_true rfl, Nat.le_of_ble_eq_true rfl⟩) (mP.preV hG hS hV hm_11 rfl) rfl rfl hl.1 rfl (lv_room (Nat.le_of_ble_eq_true rfl)) d_Mo_pad_74 ⟨Nat.le_of_ble_eq_true rfl, Nat.le_of_ble_eq_true rfl⟩) hS (fun r_38 V_39 H locs hp_40 hV hS => ?_)
          obtain ⟨hM_41, hM_41R, hM_41e⟩ := hp_40
          subst hM_41e
          try simp only [bI_ne0, bI_eq0, decide_eq_true_eq, decide_eq_false_iff_not, Bool.not_eq_false, Bool.not_eq_true, Decidable.not_not] at c_5
          try simp only [bI_ne0, bI_eq0, decide_eq_true_eq, decide_eq_false_iff_not, Bool.not_eq_false, Bool.not_eq_true, Decidable.not_not] at c_9
          try simp only [bI_ne0, bI_eq0, decide_eq_true_eq, decide_eq_false_iff_not, Bool.not_eq_false, Bool.not_eq_true, Decidable.not_not] at c_12
          try simp only [bI_ne0, bI_eq0, decide_eq_true_eq, decide_eq_false_iff_not, Bool.not_eq_false, Bool.not_eq_true, Decidable.not_not] at c_13
          subst ef_2
          have hfin : moPad ρ n3 n6 part net dx dy = ((-1), (((ρ.ws 0 (moWorst (moFault (ρ.I 0) part 2) (moFault (ρ.I 0) net 1))).ws 0 (moWorst (moFault (ρ.I 0) part 2) (moFault (ρ.I 0) net 1))).ws 3 1)) := by first | (simp only [moPad, c_5, c_9, c_12, c_13, decide_true, decide_false, Bool.true_and, Bool.and_true, Bool.false_and, Bool.and_false, Bool.true_or, Bool.or_true, Bool.false_or, Bool.or_false, Bool.not_true, Bool.not_false, if_true, if_false, Bool.false_eq_true, Bool.true_eq_false, reduceIte, eq_self]; done) | (simp [moPad, c_5, c_9, c_12, c_13]; done) | (simp_all [moPad]; done)
          exact W.iret (v := (-1)) hx hb hr (fun t9 ht hW => ⟨⟨(-1), V_39, rfl, ⟨by rw [hfin]; exact hM_41, hR_10.tr hM_41R, by rw [hfin]⟩, mB_of ht hV⟩, hS.F ht⟩) hS.2.2 d_Mo_pad_77
      · exact absurd c_5 c_12
    · refine lv_iconst (v := 3) hx hb d_Mo_pad_44 (by decide) ?_
      refine lv_goto (tgt := 52) hx hb d_Mo_pad_45 (by decide) ?_
      refine pf_Mo_100 hx hb hW hown hG hV hS hm_4 d_Mo_pad_52 (fun H locs hV hS => ?_)
      replace hV : hv D vwCl N0 (hu V_3 mo (.inr (7, [.int 3, .int (ρ.s 1), .int (ρ.s 2), .int (ρ.s 3), .ref (ad 0), .ref (ad 1), .ref (ad 2), .ref (ad 3), .ref (ad 4), .ref (ad 5), .ref (ad 6), .ref (ad 7), .ref (ad 8), .int (ρ.s 4), .ref (ad 9), .ref (ad 10), .ref (ad 11), .ref (ad 12), .ref (ad 13), .ref (ad 14), .ref (ad 15), .ref (ad 16), .ref (ad 17), .ref (ad 18), .ref (ad 19), .ref (ad 20), .ref (ad 21), .ref (ad 22), .ref (ad 23), .ref (ad 24), .ref (ad 25)]))) H := hV
      generalize hV_V_42 : hu V_3 mo (.inr (7, [.int 3, .int (ρ.s 1), .int (ρ.s 2), .int (ρ.s 3), .ref (ad 0), .ref (ad 1), .ref (ad 2), .ref (ad 3), .ref (ad 4), .ref (ad 5), .ref (ad 6), .ref (ad 7), .ref (ad 8), .int (ρ.s 4), .ref (ad 9), .ref (ad 10), .ref (ad 11), .ref (ad 12), .ref (ad 13), .ref (ad 14), .ref (ad 15), .ref (ad 16), .ref (ad 17), .ref (ad 18), .ref (ad 19), .ref (ad 20), .ref (ad 21), .ref (ad 22), .ref (ad 23), .ref (ad 24), .ref (ad 25)])) = V_42 at hV
      have hM_42 : mdOk k V_42 mo ad ((ρ.ws 0 f_2).ws 0 3) := by rw [← hV_V_42]; exact md_put hM_3 0 3
      have hR_42 : mdFr mo ad V V_42 := by rw [← hV_V_42]; exact hR_3.m
      have hm_43 : V_42 mo = some (.inr (7, [.int 3, .int (ρ.s 1), .int (ρ.s 2), .int (ρ.s 3), .ref (ad 0), .ref (ad 1), .ref (ad 2), .ref (ad 3), .ref (ad 4), .ref (ad 5), .ref (ad 6), .ref (ad 7), .ref (ad 8), .int (ρ.s 4), .ref (ad 9), .ref (ad 10), .ref (ad 11), .ref (ad 12), .ref (ad 13), .ref (ad 14), .ref (ad 15), .ref (ad 16), .ref (ad 17), .ref (ad 18), .ref (ad 19), .ref (ad 20), .ref (ad 21), .ref (ad 22), .ref (ad 23), .ref (ad 24), .ref (ad 25)])) := hM_42.1
      have hm_43_1 : V_42 (ad 1) = some (eZ k 150 (ρ.I 1)) := hM_42.a1
      have hm_43_2 : V_42 (ad 2) = some (eI k 150 (ρ.I 2)) := hM_42.a2
      have hm_43_3 : V_42 (ad 3) = some (eI k 150 (ρ.I 3)) := hM_42.a3
      have hm_43_4 : V_42 (ad 4) = some (eI k 150 (ρ.I 4)) := hM_42.a4
      have hm_43_5 : V_42 (ad 5) = some (eI k 150 (ρ.I 5)) := hM_42.a5
      refine lv_aload_n hx hb d_Mo_pad_55 rfl (lv_at hl 1 rfl) ?_
      refine gf_Mo_100 hx hb hW hown hG hV hm_43 d_Mo_pad_56 ?_
      refine lv_if_eq (tgt := 64) hx hb d_Mo_pad_59 (by decide) (fun q => absurd q (by decide)) (fun _ => ?_)
      refine lv_iconst (v := 0) hx hb d_Mo_pad_62 (by decide) ?_
      try simp only [bI_ne0, bI_eq0, decide_eq_true_eq, decide_eq_false_iff_not, Bool.not_eq_false, Bool.not_eq_true, Decidable.not_not] at c_5
      try simp only [bI_ne0, bI_eq0, decide_eq_true_eq, decide_eq_false_iff_not, Bool.not_eq_false, Bool.not_eq_true, Decidable.not_not] at c_9
      subst ef_2
      have hfin : moPad ρ n3 n6 part net dx dy = (0, ((ρ.ws 0 (moWorst (moFault (ρ.I 0) part 2) (moFault (ρ.I 0) net 1))).ws 0 3)) := by first | (simp only [moPad, c_5, c_9, decide_true, decide_false, Bool.true_and, Bool.and_true, Bool.false_and, Bool.and_false, Bool.true_or, Bool.or_true, Bool.false_or, Bool.or_false, Bool.not_true, Bool.not_false, if_true, if_false, Bool.false_eq_true, Bool.true_eq_false, reduceIte, eq_self]; done) | (simp [moPad, c_5, c_9]; done) | (simp_all [moPad]; done)
      exact W.iret (v := 0) hx hb hr (fun t9 ht hW => ⟨⟨0, V_42, rfl, ⟨by rw [hfin]; exact hM_42, hR_42, by rw [hfin]⟩, mB_of ht hV⟩, hS.F ht⟩) hS.2.2 d_Mo_pad_63
set_option maxHeartbeats 4000000 in
set_option maxRecDepth 100000 in
/-- track -/
theorem c_Mo_track (l : Launch) (D : va_G) (N0 : Nat) (k : Nat → Nat) (V : HV) (mo : Nat) (ad : Nat → Nat) (ρ : MS) (hM : mdOk k V mo ad ρ) (net la x0 y0 x1 y1 : Int32) (n4 : Nat) (hn4 : n4 ≤ 60) (en4 : ρ.I 0 4 = nI n4) (n6 : Nat) (hn6 : n6 ≤ 10) (en6 : ρ.I 0 6 = nI n6) (hwo : moWo ρ) : Met l y_Mo_track (.code y_Mo_track b_Mo_track 11 (some .int) :: WS) ({ frames := 5, cells := 0, slots := 0, locals := 120 }) (mP D N0 k [.ref mo, .int net, .int la, .int x0, .int y0, .int x1, .int y1] V) (va_Qi (fun r V' => mdOk k V' mo ad (moTrack ρ n4 n6 net la x0 y0 x1 y1).2 ∧ mdFr mo ad V V' ∧ r = (moTrack ρ n4 n6 net la x0 y0 x1 y1).1) (mB D N0) (hA N0)) 0 0 (hA N0) := by
  refine Met.ofW (cc := b_Mo_track) (maxL := 11) (ret := (some .int)) (by decide) rfl ?_
  intro p e s m args below meth c s₁ B hml hv0
  obtain ⟨rfl, hG, hV⟩ := hv0
  have hx := B.exec
  have hb := B.bytes
  have hr := B.returns
  have hts := atoms_spec (ws := .code y_Mo_track b_Mo_track 11 (some .int) :: WS) B.pre
  have hW : ∀ w ∈ WS, w.before _ s = true := fun w h => hts w (List.mem_cons_of_mem _ h)
  have hown : s.vm.findClass "BoardHouseModel" = some m.cls := findClass_of_methodNamed B.named
  have hlocks := B.notSynchronized
  have hS : va_S (hA N0) s.heap s.heap [] := va_S.rf
  have hl := lv_entry ([.ref mo, .int net, .int la, .int x0, .int y0, .int x1, .int y1]) (n := 11) (Nat.le_of_ble_eq_true rfl)
  rw [lg_entry_eq]
  generalize (lg_sl ([.ref mo, .int net, .int la, .int x0, .int y0, .int x1, .int y1]) ++ List.replicate (11 - (lg_sl ([.ref mo, .int net, .int la, .int x0, .int y0, .int x1, .int y1])).length) Slot.unset).toArray = ls at hl ⊢
  have hl : lv_has ls 11 [(0, .ref mo), (1, .int net), (2, .int la), (3, .int x0), (4, .int y0), (5, .int x1), (6, .int y1)] := hl
  have hm_1 : V mo = some (.inr (7, [.int (ρ.s 0), .int (ρ.s 1), .int (ρ.s 2), .int (ρ.s 3), .ref (ad 0), .ref (ad 1), .ref (ad 2), .ref (ad 3), .ref (ad 4), .ref (ad 5), .ref (ad 6), .ref (ad 7), .ref (ad 8), .int (ρ.s 4), .ref (ad 9), .ref (ad 10), .ref (ad 11), .ref (ad 12), .ref (ad 13), .ref (ad 14), .ref (ad 15), .ref (ad 16), .ref (ad 17), .ref (ad 18), .ref (ad 19), .ref (ad 20), .ref (ad 21), .ref (ad 22), .ref (ad 23), .ref (ad 24), .ref (ad 25)])) := hM.1
  refine lv_aload_n hx hb d_Mo_track_0 rfl (lv_at hl 0 rfl) ?_
  refine lv_iload_n hx hb d_Mo_track_1 rfl (lv_at hl 2 rfl) ?_
  refine rc_i (va_runV (As := [.int la]) (rest := []) ⟨hx, hb, hml, hown, hts⟩ (c_Mo_isLayer l D N0 k V mo ad ρ hM la) (cwV 1 hts (gi_V wm_Mo_186 wv_Mo_isLayer ws_Mo_isLayer wi_Mo wc_Mo_isLayer) rfl rfl rfl (by decide +kernel) ⟨Nat.le_of_ble_eq_true rfl, Nat.le_of_ble_eq_true rfl⟩) (mP.preV hG hS hV hm_1 rfl) rfl rfl hl.1 rfl (lv_room (Nat.le_of_ble_eq_true rfl)) d_Mo_track_2 ⟨Nat.le_of_ble_eq_true rfl, Nat.le_of_ble_eq_true rfl⟩) hS (fun H locs hV hS => ?_)
  refine W.eq (g2 := F0 m 5 ls [.int (bI (moLay (ρ.s 1) la))]) rfl ?_
  refine lv_istore (lv' := [(7, .int (bI (moLay (ρ.s 1) la))), (0, .ref mo), (1, .int net), (2, .int la), (3, .int x0), (4, .int y0), (5, .int x1), (6, .int y1)]) hx hb d_Mo_track_5 hl (by decide) rfl (fun ls hl => ?_)
  refine lv_aload_n hx hb d_Mo_track_7 rfl (lv_at hl 1 rfl) ?_
  refine lv_iload_n hx hb d_Mo_track_8 rfl (lv_at hl 2 rfl) ?_
  refine lv_iconst (v := 1) hx hb d_Mo_track_9 (by decide) ?_
  refine rc_i (va_runV (As := [.int net, .int 1]) (rest := []) ⟨hx, hb, hml, hown, hts⟩ (c_Mo_fault l D N0 k V mo ad ρ hM net 1) (cwV 2 hts (gi_V wm_Mo_176 wv_Mo_fault ws_Mo_fault wi_Mo wc_Mo_fault) rfl rfl rfl (by decide +kernel) ⟨Nat.le_of_ble_eq_true rfl, Nat.le_of_ble_eq_true rfl⟩) (mP.preV hG hS hV hm_1 rfl) rfl rfl hl.1 rfl (lv_room (Nat.le_of_ble_eq_true rfl)) d_Mo_track_10 ⟨Nat.le_of_ble_eq_true rfl, Nat.le_of_ble_eq_true rfl⟩) hS (fun H locs hV hS => ?_)
  refine W.eq (g2 := F0 m 13 ls [.int (moFault (ρ.I 0) net 1)]) rfl ?_
  refine lv_istore (lv' := [(8, .int (moFault (ρ.I 0) net 1)), (7, .int (bI (moLay (ρ.s 1) la))), (0, .ref mo), (1, .int net), (2, .int la), (3, .int x0), (4, .int y0), (5, .int x1), (6, .int y1)]) hx hb d_Mo_track_13 hl (by decide) rfl (fun ls hl => ?_)
  refine lv_aload_n hx hb d_Mo_track_15 rfl (lv_at hl 2 rfl) ?_
  refine lv_iload hx hb d_Mo_track_16 (lv_at hl 0 rfl) ?_
  refine lv_iconst (v := 1) hx hb d_Mo_track_18 (by decide) ?_
  refine lv_icmp_eq (tgt := 27) hx hb d_Mo_track_19 (by decide) (fun c_2 => ?_) (fun c_2 => ?_)
  · refine lv_iconst (v := 1) hx hb d_Mo_track_27 (by decide) ?_
    refine lv_goto (tgt := 55) hx hb d_Mo_track_28 (by decide) ?_
    refine pf_Mo_100 hx hb hW hown hG hV hS hm_1 d_Mo_track_55 (fun H locs hV hS => ?_)
    replace hV : hv D vwCl N0 (hu V mo (.inr (7, [.int 1, .int (ρ.s 1), .int (ρ.s 2), .int (ρ.s 3), .ref (ad 0), .ref (ad 1), .ref (ad 2), .ref (ad 3), .ref (ad 4), .ref (ad 5), .ref (ad 6), .ref (ad 7), .ref (ad 8), .int (ρ.s 4), .ref (ad 9), .ref (ad 10), .ref (ad 11), .ref (ad 12), .ref (ad 13), .ref (ad 14), .ref (ad 15), .ref (ad 16), .ref (ad 17), .ref (ad 18), .ref (ad 19), .ref (ad 20), .ref (ad 21), .ref (ad 22), .ref (ad 23), .ref (ad 24), .ref (ad 25)]))) H := hV
    generalize hV_V_3 : hu V mo (.inr (7, [.int 1, .int (ρ.s 1), .int (ρ.s 2), .int (ρ.s 3), .ref (ad 0), .ref (ad 1), .ref (ad 2), .ref (ad 3), .ref (ad 4), .ref (ad 5), .ref (ad 6), .ref (ad 7), .ref (ad 8), .int (ρ.s 4), .ref (ad 9), .ref (ad 10), .ref (ad 11), .ref (ad 12), .ref (ad 13), .ref (ad 14), .ref (ad 15), .ref (ad 16), .ref (ad 17), .ref (ad 18), .ref (ad 19), .ref (ad 20), .ref (ad 21), .ref (ad 22), .ref (ad 23), .ref (ad 24), .ref (ad 25)])) = V_3 at hV
    have hM_3 : mdOk k V_3 mo ad (ρ.ws 0 1) := by rw [← hV_V_3]; exact md_put hM 0 1
    have hR_3 : mdFr mo ad V V_3 := by rw [← hV_V_3]; exact (mdFr.rf (mo := mo) (ad := ad) (V := V)).m
    have hm_4 : V_3 mo = some (.inr (7, [.int 1, .int (ρ.s 1), .int (ρ.s 2), .int (ρ.s 3), .ref (ad 0), .ref (ad 1), .ref (ad 2), .ref (ad 3), .ref (ad 4), .ref (ad 5), .ref (ad 6), .ref (ad 7), .ref (ad 8), .int (ρ.s 4), .ref (ad 9), .ref (ad 10), .ref (ad 11), .ref (ad 12), .ref (ad 13), .ref (ad 14), .ref (ad 15), .ref (ad 16), .ref (ad 17), .ref (ad 18), .ref (ad 19), .ref (ad 20), .ref (ad 21), .ref (ad 22), .ref (ad 23), .ref (ad 24), .ref (ad 25)])) := hM_3.1
    refine lv_aload_n hx hb d_Mo_track_58 rfl (lv_at hl 2 rfl) ?_
    refine gf_Mo_100 hx hb hW hown hG hV hm_4 d_Mo_track_59 ?_
    refine lv_if_eq (tgt := 67) hx hb d_Mo_track_62 (by decide) (fun q => absurd q (by decide)) (fun _ => ?_)
    refine lv_iconst (v := 0) hx hb d_Mo_track_65 (by decide) ?_
    try simp only [bI_ne0, bI_eq0, decide_eq_true_eq, decide_eq_false_iff_not, Bool.not_eq_false, Bool.not_eq_true, Decidable.not_not] at c_2
    have hfin : moTrack ρ n4 n6 net la x0 y0 x1 y1 = (0, (ρ.ws 0 1)) := by first | (simp only [moTrack, c_2, decide_true, decide_false, Bool.true_and, Bool.and_true, Bool.false_and, Bool.and_false, Bool.true_or, Bool.or_true, Bool.false_or, Bool.or_false, Bool.not_true, Bool.not_false, if_true, if_false, Bool.false_eq_true, Bool.true_eq_false, reduceIte, eq_self]; done) | (simp [moTrack, c_2]; done) | (simp_all [moTrack]; done)
    exact W.iret (v := 0) hx hb hr (fun t9 ht hW => ⟨⟨0, V_3, rfl, ⟨by rw [hfin]; exact hM_3, hR_3, by rw [hfin]⟩, mB_of ht hV⟩, hS.F ht⟩) hS.2.2 d_Mo_track_66
  · refine lv_iload hx hb d_Mo_track_22 (lv_at hl 1 rfl) ?_
    refine lv_if_ne (tgt := 31) hx hb d_Mo_track_24 (by decide) (fun c_5 => ?_) (fun c_5 => ?_)
    · refine lv_iload hx hb d_Mo_track_31 (lv_at hl 0 rfl) ?_
      refine lv_iconst (v := 2) hx hb d_Mo_track_33 (by decide) ?_
      refine lv_icmp_eq (tgt := 50) hx hb d_Mo_track_34 (by decide) (fun c_6 => ?_) (fun c_6 => ?_)
      · refine lv_iconst (v := 2) hx hb d_Mo_track_50 (by decide) ?_
        refine lv_goto (tgt := 55) hx hb d_Mo_track_51 (by decide) ?_
        refine pf_Mo_100 hx hb hW hown hG hV hS hm_1 d_Mo_track_55 (fun H locs hV hS => ?_)
        replace hV : hv D vwCl N0 (hu V mo (.inr (7, [.int 2, .int (ρ.s 1), .int (ρ.s 2), .int (ρ.s 3), .ref (ad 0), .ref (ad 1), .ref (ad 2), .ref (ad 3), .ref (ad 4), .ref (ad 5), .ref (ad 6), .ref (ad 7), .ref (ad 8), .int (ρ.s 4), .ref (ad 9), .ref (ad 10), .ref (ad 11), .ref (ad 12), .ref (ad 13), .ref (ad 14), .ref (ad 15), .ref (ad 16), .ref (ad 17), .ref (ad 18), .ref (ad 19), .ref (ad 20), .ref (ad 21), .ref (ad 22), .ref (ad 23), .ref (ad 24), .ref (ad 25)]))) H := hV
        generalize hV_V_7 : hu V mo (.inr (7, [.int 2, .int (ρ.s 1), .int (ρ.s 2), .int (ρ.s 3), .ref (ad 0), .ref (ad 1), .ref (ad 2), .ref (ad 3), .ref (ad 4), .ref (ad 5), .ref (ad 6), .ref (ad 7), .ref (ad 8), .int (ρ.s 4), .ref (ad 9), .ref (ad 10), .ref (ad 11), .ref (ad 12), .ref (ad 13), .ref (ad 14), .ref (ad 15), .ref (ad 16), .ref (ad 17), .ref (ad 18), .ref (ad 19), .ref (ad 20), .ref (ad 21), .ref (ad 22), .ref (ad 23), .ref (ad 24), .ref (ad 25)])) = V_7 at hV
        have hM_7 : mdOk k V_7 mo ad (ρ.ws 0 2) := by rw [← hV_V_7]; exact md_put hM 0 2
        have hR_7 : mdFr mo ad V V_7 := by rw [← hV_V_7]; exact (mdFr.rf (mo := mo) (ad := ad) (V := V)).m
        have hm_8 : V_7 mo = some (.inr (7, [.int 2, .int (ρ.s 1), .int (ρ.s 2), .int (ρ.s 3), .ref (ad 0), .ref (ad 1), .ref (ad 2), .ref (ad 3), .ref (ad 4), .ref (ad 5), .ref (ad 6), .ref (ad 7), .ref (ad 8), .int (ρ.s 4), .ref (ad 9), .ref (ad 10), .ref (ad 11), .ref (ad 12), .ref (ad 13), .ref (ad 14), .ref (ad 15), .ref (ad 16), .ref (ad 17), .ref (ad 18), .ref (ad 19), .ref (ad 20), .ref (ad 21), .ref (ad 22), .ref (ad 23), .ref (ad 24), .ref (ad 25)])) := hM_7.1
        refine lv_aload_n hx hb d_Mo_track_58 rfl (lv_at hl 2 rfl) ?_
        refine gf_Mo_100 hx hb hW hown hG hV hm_8 d_Mo_track_59 ?_
        refine lv_if_eq (tgt := 67) hx hb d_Mo_track_62 (by decide) (fun q => absurd q (by decide)) (fun _ => ?_)
        refine lv_iconst (v := 0) hx hb d_Mo_track_65 (by decide) ?_
        try simp only [bI_ne0, bI_eq0, decide_eq_true_eq, decide_eq_false_iff_not, Bool.not_eq_false, Bool.not_eq_true, Decidable.not_not] at c_2
        try simp only [bI_ne0, bI_eq0, decide_eq_true_eq, decide_eq_false_iff_not, Bool.not_eq_false, Bool.not_eq_true, Decidable.not_not] at c_5
        try simp only [bI_ne0, bI_eq0, decide_eq_true_eq, decide_eq_false_iff_not, Bool.not_eq_false, Bool.not_eq_true, Decidable.not_not] at c_6
        have hfin : moTrack ρ n4 n6 net la x0 y0 x1 y1 = (0, (ρ.ws 0 2)) := by first | (simp only [moTrack, c_2, c_5, c_6, decide_true, decide_false, Bool.true_and, Bool.and_true, Bool.false_and, Bool.and_false, Bool.true_or, Bool.or_true, Bool.false_or, Bool.or_false, Bool.not_true, Bool.not_false, if_true, if_false, Bool.false_eq_true, Bool.true_eq_false, reduceIte, eq_self]; done) | (simp [moTrack, c_2, c_5, c_6]; done) | (simp_all [moTrack]; done)
        exact W.iret (v := 0) hx hb hr (fun t9 ht hW => ⟨⟨0, V_7, rfl, ⟨by rw [hfin]; exact hM_7, hR_7, by rw [hfin]⟩, mB_of ht hV⟩, hS.F ht⟩) hS.2.2 d_Mo_track_66
      · refine lv_iload_n hx hb d_Mo_track_37 rfl (lv_at hl 5 rfl) ?_
        refine lv_iload hx hb d_Mo_track_38 (lv_at hl 7 rfl) ?_
        refine lv_icmp_eq (tgt := 54) hx hb d_Mo_track_40 (by decide) (fun c_9 => ?_) (fun c_9 => ?_)
        · refine lv_iconst (v := 0) hx hb d_Mo_track_54 (by decide) ?_
          refine pf_Mo_100 hx hb hW hown hG hV hS hm_1 d_Mo_track_55 (fun H locs hV hS => ?_)
          replace hV : hv D vwCl N0 (hu V mo (.inr (7, [.int 0, .int (ρ.s 1), .int (ρ.s 2), .int (ρ.s 3), .ref (ad 0), .ref (ad 1), .ref (ad 2), .ref (ad 3), .ref (ad 4), .ref (ad 5), .ref (ad 6), .ref (ad 7), .ref (ad 8), .int (ρ.s 4), .ref (ad 9), .ref (ad 10), .ref (ad 11), .ref (ad 12), .ref (ad 13), .ref (ad 14), .ref (ad 15), .ref (ad 16), .ref (ad 17), .ref (ad 18), .ref (ad 19), .ref (ad 20), .ref (ad 21), .ref (ad 22), .ref (ad 23), .ref (ad 24), .ref (ad 25)]))) H := hV
          generalize hV_V_10 : hu V mo (.inr (7, [.int 0, .int (ρ.s 1), .int (ρ.s 2), .int (ρ.s 3), .ref (ad 0), .ref (ad 1), .ref (ad 2), .ref (ad 3), .ref (ad 4), .ref (ad 5), .ref (ad 6), .ref (ad 7), .ref (ad 8), .int (ρ.s 4), .ref (ad 9), .ref (ad 10), .ref (ad 11), .ref (ad 12), .ref (ad 13), .ref (ad 14), .ref (ad 15), .ref (ad 16), .ref (ad 17), .ref (ad 18), .ref (ad 19), .ref (ad 20), .ref (ad 21), .ref (ad 22), .ref (ad 23), .ref (ad 24), .ref (ad 25)])) = V_10 at hV
          have hM_10 : mdOk k V_10 mo ad (ρ.ws 0 0) := by rw [← hV_V_10]; exact md_put hM 0 0
          have hR_10 : mdFr mo ad V V_10 := by rw [← hV_V_10]; exact (mdFr.rf (mo := mo) (ad := ad) (V := V)).m
          have hm_11 : V_10 mo = some (.inr (7, [.int 0, .int (ρ.s 1), .int (ρ.s 2), .int (ρ.s 3), .ref (ad 0), .ref (ad 1), .ref (ad 2), .ref (ad 3), .ref (ad 4), .ref (ad 5), .ref (ad 6), .ref (ad 7), .ref (ad 8), .int (ρ.s 4), .ref (ad 9), .ref (ad 10), .ref (ad 11), .ref (ad 12), .ref (ad 13), .ref (ad 14), .ref (ad 15), .ref (ad 16), .ref (ad 17), .ref (ad 18), .ref (ad 19), .ref (ad 20), .ref (ad 21), .ref (ad 22), .ref (ad 23), .ref (ad 24), .ref (ad 25)])) := hM_10.1
          refine lv_aload_n hx hb d_Mo_track_58 rfl (lv_at hl 2 rfl) ?_
          refine gf_Mo_100 hx hb hW hown hG hV hm_11 d_Mo_track_59 ?_
          refine lv_if_eq (tgt := 67) hx hb d_Mo_track_62 (by decide) (fun _ => ?_) (fun q => absurd q (by decide))
          refine lv_aload_n hx hb d_Mo_track_67 rfl (lv_at hl 2 rfl) ?_
          refine lv_iconst (v := 4) hx hb d_Mo_track_68 (by decide) ?_
          refine rc_i (va_runV (As := [.int 4]) (rest := []) ⟨hx, hb, hml, hown, hts⟩ (c_Mo_isFull l D N0 k V_10 mo ad (ρ.ws 0 0) hM_10 4 (by omega) (by omega)) (cwV 1 hts (gi_V wm_Mo_152 wv_Mo_isFull ws_Mo_isFull wi_Mo wc_Mo_isFull) rfl rfl rfl (by decide +kernel) ⟨Nat.le_of_ble_eq_true rfl, Nat.le_of_ble_eq_true rfl⟩) (mP.preV hG hS hV hm_11 rfl) rfl rfl hl.1 rfl (lv_room (Nat.le_of_ble_eq_true rfl)) d_Mo_track_69 ⟨Nat.le_of_ble_eq_true rfl, Nat.le_of_ble_eq_true rfl⟩) hS (fun H locs hV hS => ?_)
          refine W.eq (g2 := F0 m 72 ls [.int (bI (decide ((ρ.I 0) 4 = nI (liN 4))))]) rfl ?_
          refine lv_if_eq (tgt := 81) hx hb d_Mo_track_72 (by decide) (fun c_12 => ?_) (fun c_12 => ?_)
          · refine lv_iload_n hx hb d_Mo_track_81 rfl (lv_at hl 5 rfl) ?_
            refine lv_iload hx hb d_Mo_track_82 (lv_at hl 6 rfl) ?_
            refine rc_i (va_runS (As := [.int x0, .int y0]) (rest := []) ⟨hx, hb, hml, hown, hts⟩ (c_Mo_isCell l D N0 k V_10 x0 y0) (va_cwS 2 hts (gi_S wm_Mo_114 wt_Mo_isCell wi_Mo wc_Mo_isCell) rfl rfl rfl (by decide +kernel) ⟨Nat.le_of_ble_eq_true rfl, Nat.le_of_ble_eq_true rfl⟩) (mP.preS hG hS hV) rfl rfl hl.1 rfl (lv_room (Nat.le_of_ble_eq_true rfl)) d_Mo_track_84 ⟨Nat.le_of_ble_eq_true rfl, Nat.le_of_ble_eq_true rfl⟩) hS (fun H locs hV hS => ?_)
            refine lv_if_eq (tgt := 100) hx hb d_Mo_track_87 (by decide) (fun c_13 => ?_) (fun c_13 => ?_)
            · refine lv_aload_n hx hb d_Mo_track_100 rfl (lv_at hl 2 rfl) ?_
              refine lv_iconst (v := 2) hx hb d_Mo_track_101 (by decide) ?_
              refine rc_I (va_runV (As := [.int 2]) (rest := []) ⟨hx, hb, hml, hown, hts⟩ (c_Mo_refuse l D N0 k V_10 mo ad (ρ.ws 0 0) hM_10 2) (cwV 1 hts (gi_V wm_Mo_155 wv_Mo_refuse ws_Mo_refuse wi_Mo wc_Mo_refuse) rfl rfl rfl (by decide +kernel) ⟨Nat.le_of_ble_eq_true rfl, Nat.le_of_ble_eq_true rfl⟩) (mP.preV hG hS hV hm_11 rfl) rfl rfl hl.1 rfl (lv_room (Nat.le_of_ble_eq_true rfl)) d_Mo_track_102 ⟨Nat.le_of_ble_eq_true rfl, Nat.le_of_ble_eq_true rfl⟩) hS (fun r_14 V_15 H locs hp_16 hV hS => ?_)
              obtain ⟨hM_17, hM_17R, hM_17e⟩ := hp_16
              subst hM_17e
              try simp only [bI_ne0, bI_eq0, decide_eq_true_eq, decide_eq_false_iff_not, Bool.not_eq_false, Bool.not_eq_true, Decidable.not_not] at c_2
              try simp only [bI_ne0, bI_eq0, decide_eq_true_eq, decide_eq_false_iff_not, Bool.not_eq_false, Bool.not_eq_true, Decidable.not_not] at c_5
              try simp only [bI_ne0, bI_eq0, decide_eq_true_eq, decide_eq_false_iff_not, Bool.not_eq_false, Bool.not_eq_true, Decidable.not_not] at c_6
              try simp only [bI_ne0, bI_eq0, decide_eq_true_eq, decide_eq_false_iff_not, Bool.not_eq_false, Bool.not_eq_true, Decidable.not_not] at c_9
              try simp only [bI_ne0, bI_eq0, decide_eq_true_eq, decide_eq_false_iff_not, Bool.not_eq_false, Bool.not_eq_true, Decidable.not_not] at c_12
              try simp only [bI_ne0, bI_eq0, decide_eq_true_eq, decide_eq_false_iff_not, Bool.not_eq_false, Bool.not_eq_true, Decidable.not_not] at c_13
              have hfin : moTrack ρ n4 n6 net la x0 y0 x1 y1 = ((-1), ((ρ.ws 0 0).ws 3 2)) := by first | (simp only [moTrack, c_2, c_5, c_6, eq_true c_9, c_12, c_13, decide_true, decide_false, Bool.true_and, Bool.and_true, Bool.false_and, Bool.and_false, Bool.true_or, Bool.or_true, Bool.false_or, Bool.or_false, Bool.not_true, Bool.not_false, if_true, if_false, Bool.false_eq_true, Bool.true_eq_false, reduceIte, eq_self]; done) | (simp [moTrack, c_2, c_5, c_6, eq_true c_9, c_12, c_13]; done) | (simp_all [moTrack]; done)
              exact W.iret (v := (-1)) hx hb hr (fun t9 ht hW => ⟨⟨(-1), V_15, rfl, ⟨by rw [hfin]; exact hM_17, hR_10.tr hM_17R, by rw [hfin]⟩, mB_of ht hV⟩, hS.F ht⟩) hS.2.2 d_Mo_track_105
            · refine lv_iload hx hb d_Mo_track_90 (lv_at hl 7 rfl) ?_
              refine lv_iload hx hb d_Mo_track_92 (lv_at hl 8 rfl) ?_
              refine rc_i (va_runS (As := [.int x1, .int y1]) (rest := []) ⟨hx, hb, hml, hown, hts⟩ (c_Mo_isCell l D N0 k V_10 x1 y1) (va_cwS 2 hts (gi_S wm_Mo_114 wt_Mo_isCell wi_Mo wc_Mo_isCell) rfl rfl rfl (by decide +kernel) ⟨Nat.le_of_ble_eq_true rfl, Nat.le_of_ble_eq_true rfl⟩) (mP.preS hG hS hV) rfl rfl hl.1 rfl (lv_room (Nat.le_of_ble_eq_true rfl)) d_Mo_track_94 ⟨Nat.le_of_ble_eq_true rfl, Nat.le_of_ble_eq_true rfl⟩) hS (fun H locs hV hS => ?_)
              refine lv_if_ne (tgt := 106) hx hb d_Mo_track_97 (by decide) (fun c_18 => ?_) (fun c_18 => ?_)
              · refine lv_iload_n hx hb d_Mo_track_106 rfl (lv_at hl 5 rfl) ?_
                refine lv_iload hx hb d_Mo_track_107 (lv_at hl 7 rfl) ?_
                refine lv_icmp_ge (tgt := 116) hx hb d_Mo_track_109 (by decide) (fun c_19 => ?_) (fun c_19 => ?_)
                · refine lv_iload hx hb d_Mo_track_116 (lv_at hl 7 rfl) ?_
                  refine lv_istore (lv' := [(9, .int x1), (8, .int (moFault (ρ.I 0) net 1)), (7, .int (bI (moLay (ρ.s 1) la))), (0, .ref mo), (1, .int net), (2, .int la), (3, .int x0), (4, .int y0), (5, .int x1), (6, .int y1)]) hx hb d_Mo_track_118 hl (by decide) rfl (fun ls hl => ?_)
                  refine lv_iload hx hb d_Mo_track_120 (lv_at hl 7 rfl) ?_
                  refine lv_iload hx hb d_Mo_track_122 (lv_at hl 9 rfl) ?_
                  refine lv_icmp_ge (tgt := 132) hx hb d_Mo_track_124 (by decide) (fun c_20 => ?_) (fun c_20 => ?_)
                  · refine lv_iload hx hb d_Mo_track_132 (lv_at hl 9 rfl) ?_
                    refine lv_istore (lv' := [(10, .int y1), (9, .int x1), (8, .int (moFault (ρ.I 0) net 1)), (7, .int (bI (moLay (ρ.s 1) la))), (0, .ref mo), (1, .int net), (2, .int la), (3, .int x0), (4, .int y0), (5, .int x1), (6, .int y1)]) hx hb d_Mo_track_134 hl (by decide) rfl (fun ls hl => ?_)
                    refine lv_aload_n hx hb d_Mo_track_136 rfl (lv_at hl 4 rfl) ?_
                    refine lv_iconst (v := 4) hx hb d_Mo_track_137 (by decide) ?_
                    refine lv_iload_n hx hb d_Mo_track_138 rfl (lv_at hl 5 rfl) ?_
                    refine lv_sipush (v := 1000) hx hb d_Mo_track_139 (by decide) ?_
                    refine lv_irem hx hb d_Mo_track_142 (by decide) ?_
                    refine lv_iload_n hx hb d_Mo_track_143 rfl (lv_at hl 6 rfl) ?_
                    refine lv_iload hx hb d_Mo_track_144 (lv_at hl 1 rfl) ?_
                    refine lv_iload hx hb d_Mo_track_146 (lv_at hl 0 rfl) ?_
                    refine lv_iload_n hx hb d_Mo_track_148 rfl (lv_at hl 7 rfl) ?_
                    refine lv_iload hx hb d_Mo_track_149 (lv_at hl 9 rfl) ?_
                    refine lv_iadd hx hb d_Mo_track_151 ?_
                    refine lv_iconst (v := 2) hx hb d_Mo_track_152 (by decide) ?_
                    refine lv_iload hx hb d_Mo_track_153 (lv_at hl 1 rfl) ?_
                    refine lv_imul hx hb d_Mo_track_155 ?_
                    refine lv_isub hx hb d_Mo_track_156 ?_
                    refine lv_iconst (v := 1) hx hb d_Mo_track_157 (by decide) ?_
                    refine lv_iadd hx hb d_Mo_track_158 ?_
                    refine lv_iload hx hb d_Mo_track_159 (lv_at hl 8 rfl) ?_
                    refine lv_iload hx hb d_Mo_track_161 (lv_at hl 10 rfl) ?_
                    refine lv_iadd hx hb d_Mo_track_163 ?_
                    refine lv_iconst (v := 2) hx hb d_Mo_track_164 (by decide) ?_
                    refine lv_iload hx hb d_Mo_track_165 (lv_at hl 0 rfl) ?_
                    refine lv_imul hx hb d_Mo_track_167 ?_
                    refine lv_isub hx hb d_Mo_track_168 ?_
                    refine lv_iconst (v := 1) hx hb d_Mo_track_169 (by decide) ?_
                    refine lv_iadd hx hb d_Mo_track_170 ?_
                    refine lv_iconst (v := (-1)) hx hb d_Mo_track_171 (by decide) ?_
                    refine rc_I (va_runV (As := [.int 4, .int (net - net / 1000 * 1000), .int la, .int x1, .int y1, .int (((x0 + x1) - (2 * x1)) + 1), .int (((y0 + y1) - (2 * y1)) + 1), .int (-1)]) (rest := []) ⟨hx, hb, hml, hown, hts⟩ (c_Mo_makeCopper l D N0 k V_10 mo ad (ρ.ws 0 0) hM_10 (net - net / 1000 * 1000) la x1 y1 (((x0 + x1) - (2 * x1)) + 1) (((y0 + y1) - (2 * y1)) + 1) (-1) 4 n4 (by omega) (by omega) en4 hn4 n6 hn6 en6 hwo) (cwV 8 hts (gi_V wm_Mo_183 wv_Mo_makeCopper ws_Mo_makeCopper wi_Mo wc_Mo_makeCopper) rfl rfl rfl (by decide +kernel) ⟨Nat.le_of_ble_eq_true rfl, Nat.le_of_ble_eq_true rfl⟩) (mP.preV hG hS hV hm_11 rfl) rfl rfl hl.1 rfl (lv_room (Nat.le_of_ble_eq_true rfl)) d_Mo_track_172 ⟨Nat.le_of_ble_eq_true rfl, Nat.le_of_ble_eq_true rfl⟩) hS (fun r_21 V_22 H locs hp_23 hV hS => ?_)
                    obtain ⟨hM_24, hM_24R, hM_24e⟩ := hp_23
                    subst hM_24e
                    try simp only [bI_ne0, bI_eq0, decide_eq_true_eq, decide_eq_false_iff_not, Bool.not_eq_false, Bool.not_eq_true, Decidable.not_not] at c_2
                    try simp only [bI_ne0, bI_eq0, decide_eq_true_eq, decide_eq_false_iff_not, Bool.not_eq_false, Bool.not_eq_true, Decidable.not_not] at c_5
                    try simp only [bI_ne0, bI_eq0, decide_eq_true_eq, decide_eq_false_iff_not, Bool.not_eq_false, Bool.not_eq_true, Decidable.not_not] at c_6
                    try simp only [bI_ne0, bI_eq0, decide_eq_true_eq, decide_eq_false_iff_not, Bool.not_eq_false, Bool.not_eq_true, Decidable.not_not] at c_9
                    try simp only [bI_ne0, bI_eq0, decide_eq_true_eq, decide_eq_false_iff_not, Bool.not_eq_false, Bool.not_eq_true, Decidable.not_not] at c_12
                    try simp only [bI_ne0, bI_eq0, decide_eq_true_eq, decide_eq_false_iff_not, Bool.not_eq_false, Bool.not_eq_true, Decidable.not_not] at c_13
                    try simp only [bI_ne0, bI_eq0, decide_eq_true_eq, decide_eq_false_iff_not, Bool.not_eq_false, Bool.not_eq_true, Decidable.not_not] at c_18
                    try simp only [bI_ne0, bI_eq0, decide_eq_true_eq, decide_eq_false_iff_not, Bool.not_eq_false, Bool.not_eq_true, Decidable.not_not] at c_19
                    try simp only [bI_ne0, bI_eq0, decide_eq_true_eq, decide_eq_false_iff_not, Bool.not_eq_false, Bool.not_eq_true, Decidable.not_not] at c_20
                    have hfin : moTrack ρ n4 n6 net la x0 y0 x1 y1 = ((moMkC (ρ.ws 0 0) 4 n4 n6 (net - net / 1000 * 1000) la x1 y1 (((x0 + x1) - (2 * x1)) + 1) (((y0 + y1) - (2 * y1)) + 1) (-1)).1, (moMkC (ρ.ws 0 0) 4 n4 n6 (net - net / 1000 * 1000) la x1 y1 (((x0 + x1) - (2 * x1)) + 1) (((y0 + y1) - (2 * y1)) + 1) (-1)).2) := by first | (simp only [moTrack, c_2, c_5, c_6, eq_true c_9, c_12, c_13, c_18, c_19, c_20, decide_true, decide_false, Bool.true_and, Bool.and_true, Bool.false_and, Bool.and_false, Bool.true_or, Bool.or_true, Bool.false_or, Bool.or_false, Bool.not_true, Bool.not_false, if_true, if_false, Bool.false_eq_true, Bool.true_eq_false, reduceIte, eq_self]; done) | (simp [moTrack, c_2, c_5, c_6, eq_true c_9, c_12, c_13, c_18, c_19, c_20]; done) | (simp_all [moTrack]; done)
                    exact W.iret (v := (moMkC (ρ.ws 0 0) 4 n4 n6 (net - net / 1000 * 1000) la x1 y1 (((x0 + x1) - (2 * x1)) + 1) (((y0 + y1) - (2 * y1)) + 1) (-1)).1) hx hb hr (fun t9 ht hW => ⟨⟨(moMkC (ρ.ws 0 0) 4 n4 n6 (net - net / 1000 * 1000) la x1 y1 (((x0 + x1) - (2 * x1)) + 1) (((y0 + y1) - (2 * y1)) + 1) (-1)).1, V_22, rfl, ⟨by rw [hfin]; exact hM_24, hR_10.tr hM_24R, by rw [hfin]⟩, mB_of ht hV⟩, hS.F ht⟩) hS.2.2 d_Mo_track_175
                  · refine lv_iload hx hb d_Mo_track_127 (lv_at hl 7 rfl) ?_
                    refine lv_goto (tgt := 134) hx hb d_Mo_track_129 (by decide) ?_
                    refine lv_istore (lv' := [(10, .int y0), (9, .int x1), (8, .int (moFault (ρ.I 0) net 1)), (7, .int (bI (moLay (ρ.s 1) la))), (0, .ref mo), (1, .int net), (2, .int la), (3, .int x0), (4, .int y0), (5, .int x1), (6, .int y1)]) hx hb d_Mo_track_134 hl (by decide) rfl (fun ls hl => ?_)
                    refine lv_aload_n hx hb d_Mo_track_136 rfl (lv_at hl 4 rfl) ?_
                    refine lv_iconst (v := 4) hx hb d_Mo_track_137 (by decide) ?_
                    refine lv_iload_n hx hb d_Mo_track_138 rfl (lv_at hl 5 rfl) ?_
                    refine lv_sipush (v := 1000) hx hb d_Mo_track_139 (by decide) ?_
                    refine lv_irem hx hb d_Mo_track_142 (by decide) ?_
                    refine lv_iload_n hx hb d_Mo_track_143 rfl (lv_at hl 6 rfl) ?_
                    refine lv_iload hx hb d_Mo_track_144 (lv_at hl 1 rfl) ?_
                    refine lv_iload hx hb d_Mo_track_146 (lv_at hl 0 rfl) ?_
                    refine lv_iload_n hx hb d_Mo_track_148 rfl (lv_at hl 7 rfl) ?_
                    refine lv_iload hx hb d_Mo_track_149 (lv_at hl 9 rfl) ?_
                    refine lv_iadd hx hb d_Mo_track_151 ?_
                    refine lv_iconst (v := 2) hx hb d_Mo_track_152 (by decide) ?_
                    refine lv_iload hx hb d_Mo_track_153 (lv_at hl 1 rfl) ?_
                    refine lv_imul hx hb d_Mo_track_155 ?_
                    refine lv_isub hx hb d_Mo_track_156 ?_
                    refine lv_iconst (v := 1) hx hb d_Mo_track_157 (by decide) ?_
                    refine lv_iadd hx hb d_Mo_track_158 ?_
                    refine lv_iload hx hb d_Mo_track_159 (lv_at hl 8 rfl) ?_
                    refine lv_iload hx hb d_Mo_track_161 (lv_at hl 10 rfl) ?_
                    refine lv_iadd hx hb d_Mo_track_163 ?_
                    refine lv_iconst (v := 2) hx hb d_Mo_track_164 (by decide) ?_
                    refine lv_iload hx hb d_Mo_track_165 (lv_at hl 0 rfl) ?_
                    refine lv_imul hx hb d_Mo_track_167 ?_
                    refine lv_isub hx hb d_Mo_track_168 ?_
                    refine lv_iconst (v := 1) hx hb d_Mo_track_169 (by decide) ?_
                    refine lv_iadd hx hb d_Mo_track_170 ?_
                    refine lv_iconst (v := (-1)) hx hb d_Mo_track_171 (by decide) ?_
                    refine rc_I (va_runV (As := [.int 4, .int (net - net / 1000 * 1000), .int la, .int x1, .int y0, .int (((x0 + x1) - (2 * x1)) + 1), .int (((y0 + y1) - (2 * y0)) + 1), .int (-1)]) (rest := []) ⟨hx, hb, hml, hown, hts⟩ (c_Mo_makeCopper l D N0 k V_10 mo ad (ρ.ws 0 0) hM_10 (net - net / 1000 * 1000) la x1 y0 (((x0 + x1) - (2 * x1)) + 1) (((y0 + y1) - (2 * y0)) + 1) (-1) 4 n4 (by omega) (by omega) en4 hn4 n6 hn6 en6 hwo) (cwV 8 hts (gi_V wm_Mo_183 wv_Mo_makeCopper ws_Mo_makeCopper wi_Mo wc_Mo_makeCopper) rfl rfl rfl (by decide +kernel) ⟨Nat.le_of_ble_eq_true rfl, Nat.le_of_ble_eq_true rfl⟩) (mP.preV hG hS hV hm_11 rfl) rfl rfl hl.1 rfl (lv_room (Nat.le_of_ble_eq_true rfl)) d_Mo_track_172 ⟨Nat.le_of_ble_eq_true rfl, Nat.le_of_ble_eq_true rfl⟩) hS (fun r_25 V_26 H locs hp_27 hV hS => ?_)
                    obtain ⟨hM_28, hM_28R, hM_28e⟩ := hp_27
                    subst hM_28e
                    try simp only [bI_ne0, bI_eq0, decide_eq_true_eq, decide_eq_false_iff_not, Bool.not_eq_false, Bool.not_eq_true, Decidable.not_not] at c_2
                    try simp only [bI_ne0, bI_eq0, decide_eq_true_eq, decide_eq_false_iff_not, Bool.not_eq_false, Bool.not_eq_true, Decidable.not_not] at c_5
                    try simp only [bI_ne0, bI_eq0, decide_eq_true_eq, decide_eq_false_iff_not, Bool.not_eq_false, Bool.not_eq_true, Decidable.not_not] at c_6
                    try simp only [bI_ne0, bI_eq0, decide_eq_true_eq, decide_eq_false_iff_not, Bool.not_eq_false, Bool.not_eq_true, Decidable.not_not] at c_9
                    try simp only [bI_ne0, bI_eq0, decide_eq_true_eq, decide_eq_false_iff_not, Bool.not_eq_false, Bool.not_eq_true, Decidable.not_not] at c_12
                    try simp only [bI_ne0, bI_eq0, decide_eq_true_eq, decide_eq_false_iff_not, Bool.not_eq_false, Bool.not_eq_true, Decidable.not_not] at c_13
                    try simp only [bI_ne0, bI_eq0, decide_eq_true_eq, decide_eq_false_iff_not, Bool.not_eq_false, Bool.not_eq_true, Decidable.not_not] at c_18
                    try simp only [bI_ne0, bI_eq0, decide_eq_true_eq, decide_eq_false_iff_not, Bool.not_eq_false, Bool.not_eq_true, Decidable.not_not] at c_19
                    try simp only [bI_ne0, bI_eq0, decide_eq_true_eq, decide_eq_false_iff_not, Bool.not_eq_false, Bool.not_eq_true, Decidable.not_not] at c_20
                    have hfin : moTrack ρ n4 n6 net la x0 y0 x1 y1 = ((moMkC (ρ.ws 0 0) 4 n4 n6 (net - net / 1000 * 1000) la x1 y0 (((x0 + x1) - (2 * x1)) + 1) (((y0 + y1) - (2 * y0)) + 1) (-1)).1, (moMkC (ρ.ws 0 0) 4 n4 n6 (net - net / 1000 * 1000) la x1 y0 (((x0 + x1) - (2 * x1)) + 1) (((y0 + y1) - (2 * y0)) + 1) (-1)).2) := by first | (simp only [moTrack, c_2, c_5, c_6, eq_true c_9, c_12, c_13, c_18, c_19, c_20, decide_true, decide_false, Bool.true_and, Bool.and_true, Bool.false_and, Bool.and_false, Bool.true_or, Bool.or_true, Bool.false_or, Bool.or_false, Bool.not_true, Bool.not_false, if_true, if_false, Bool.false_eq_true, Bool.true_eq_false, reduceIte, eq_self]; done) | (simp [moTrack, c_2, c_5, c_6, eq_true c_9, c_12, c_13, c_18, c_19, c_20]; done) | (simp_all [moTrack]; done)
                    exact W.iret (v := (moMkC (ρ.ws 0 0) 4 n4 n6 (net - net / 1000 * 1000) la x1 y0 (((x0 + x1) - (2 * x1)) + 1) (((y0 + y1) - (2 * y0)) + 1) (-1)).1) hx hb hr (fun t9 ht hW => ⟨⟨(moMkC (ρ.ws 0 0) 4 n4 n6 (net - net / 1000 * 1000) la x1 y0 (((x0 + x1) - (2 * x1)) + 1) (((y0 + y1) - (2 * y0)) + 1) (-1)).1, V_26, rfl, ⟨by rw [hfin]; exact hM_28, hR_10.tr hM_28R, by rw [hfin]⟩, mB_of ht hV⟩, hS.F ht⟩) hS.2.2 d_Mo_track_175
                · refine lv_iload_n hx hb d_Mo_track_112 rfl (lv_at hl 5 rfl) ?_
                  refine lv_goto (tgt := 118) hx hb d_Mo_track_113 (by decide) ?_
                  refine lv_istore (lv' := [(9, .int x0), (8, .int (moFault (ρ.I 0) net 1)), (7, .int (bI (moLay (ρ.s 1) la))), (0, .ref mo), (1, .int net), (2, .int la), (3, .int x0), (4, .int y0), (5, .int x1), (6, .int y1)]) hx hb d_Mo_track_118 hl (by decide) rfl (fun ls hl => ?_)
                  refine lv_iload hx hb d_Mo_track_120 (lv_at hl 7 rfl) ?_
                  refine lv_iload hx hb d_Mo_track_122 (lv_at hl 9 rfl) ?_
                  refine lv_icmp_ge (tgt := 132) hx hb d_Mo_track_124 (by decide) (fun c_29 => ?_) (fun c_29 => ?_)
                  · refine lv_iload hx hb d_Mo_track_132 (lv_at hl 9 rfl) ?_
                    refine lv_istore (lv' := [(10, .int y1), (9, .int x0), (8, .int (moFault (ρ.I 0) net 1)), (7, .int (bI (moLay (ρ.s 1) la))), (0, .ref mo), (1, .int net), (2, .int la), (3, .int x0), (4, .int y0), (5, .int x1), (6, .int y1)]) hx hb d_Mo_track_134 hl (by decide) rfl (fun ls hl => ?_)
                    refine lv_aload_n hx hb d_Mo_track_136 rfl (lv_at hl 4 rfl) ?_
                    refine lv_iconst (v := 4) hx hb d_Mo_track_137 (by decide) ?_
                    refine lv_iload_n hx hb d_Mo_track_138 rfl (lv_at hl 5 rfl) ?_
                    refine lv_sipush (v := 1000) hx hb d_Mo_track_139 (by decide) ?_
                    refine lv_irem hx hb d_Mo_track_142 (by decide) ?_
                    refine lv_iload_n hx hb d_Mo_track_143 rfl (lv_at hl 6 rfl) ?_
                    refine lv_iload hx hb d_Mo_track_144 (lv_at hl 1 rfl) ?_
                    refine lv_iload hx hb d_Mo_track_146 (lv_at hl 0 rfl) ?_
                    refine lv_iload_n hx hb d_Mo_track_148 rfl (lv_at hl 7 rfl) ?_
                    refine lv_iload hx hb d_Mo_track_149 (lv_at hl 9 rfl) ?_
                    refine lv_iadd hx hb d_Mo_track_151 ?_
                    refine lv_iconst (v := 2) hx hb d_Mo_track_152 (by decide) ?_
                    refine lv_iload hx hb d_Mo_track_153 (lv_at hl 1 rfl) ?_
                    refine lv_imul hx hb d_Mo_track_155 ?_
                    refine lv_isub hx hb d_Mo_track_156 ?_
                    refine lv_iconst (v := 1) hx hb d_Mo_track_157 (by decide) ?_
                    refine lv_iadd hx hb d_Mo_track_158 ?_
                    refine lv_iload hx hb d_Mo_track_159 (lv_at hl 8 rfl) ?_
                    refine lv_iload hx hb d_Mo_track_161 (lv_at hl 10 rfl) ?_
                    refine lv_iadd hx hb d_Mo_track_163 ?_
                    refine lv_iconst (v := 2) hx hb d_Mo_track_164 (by decide) ?_
                    refine lv_iload hx hb d_Mo_track_165 (lv_at hl 0 rfl) ?_
                    refine lv_imul hx hb d_Mo_track_167 ?_
                    refine lv_isub hx hb d_Mo_track_168 ?_
                    refine lv_iconst (v := 1) hx hb d_Mo_track_169 (by decide) ?_
                    refine lv_iadd hx hb d_Mo_track_170 ?_
                    refine lv_iconst (v := (-1)) hx hb d_Mo_track_171 (by decide) ?_
                    refine rc_I (va_runV (As := [.int 4, .int (net - net / 1000 * 1000), .int la, .int x0, .int y1, .int (((x0 + x1) - (2 * x0)) + 1), .int (((y0 + y1) - (2 * y1)) + 1), .int (-1)]) (rest := []) ⟨hx, hb, hml, hown, hts⟩ (c_Mo_makeCopper l D N0 k V_10 mo ad (ρ.ws 0 0) hM_10 (net - net / 1000 * 1000) la x0 y1 (((x0 + x1) - (2 * x0)) + 1) (((y0 + y1) - (2 * y1)) + 1) (-1) 4 n4 (by omega) (by omega) en4 hn4 n6 hn6 en6 hwo) (cwV 8 hts (gi_V wm_Mo_183 wv_Mo_makeCopper ws_Mo_makeCopper wi_Mo wc_Mo_makeCopper) rfl rfl rfl (by decide +kernel) ⟨Nat.le_of_ble_eq_true rfl, Nat.le_of_ble_eq_true rfl⟩) (mP.preV hG hS hV hm_11 rfl) rfl rfl hl.1 rfl (lv_room (Nat.le_of_ble_eq_true rfl)) d_Mo_track_172 ⟨Nat.le_of_ble_eq_true rfl, Nat.le_of_ble_eq_true rfl⟩) hS (fun r_30 V_31 H locs hp_32 hV hS => ?_)
                    obtain ⟨hM_33, hM_33R, hM_33e⟩ := hp_32
                    subst hM_33e
                    try simp only [bI_ne0, bI_eq0, decide_eq_true_eq, decide_eq_false_iff_not, Bool.not_eq_false, Bool.not_eq_true, Decidable.not_not] at c_2
                    try simp only [bI_ne0, bI_eq0, decide_eq_true_eq, decide_eq_false_iff_not, Bool.not_eq_false, Bool.not_eq_true, Decidable.not_not] at c_5
                    try simp only [bI_ne0, bI_eq0, decide_eq_true_eq, decide_eq_false_iff_not, Bool.not_eq_false, Bool.not_eq_true, Decidable.not_not] at c_6
                    try simp only [bI_ne0, bI_eq0, decide_eq_true_eq, decide_eq_false_iff_not, Bool.not_eq_false, Bool.not_eq_true, Decidable.not_not] at c_9
                    try simp only [bI_ne0, bI_eq0, decide_eq_true_eq, decide_eq_false_iff_not, Bool.not_eq_false, Bool.not_eq_true, Decidable.not_not] at c_12
                    try simp only [bI_ne0, bI_eq0, decide_eq_true_eq, decide_eq_false_iff_not, Bool.not_eq_false, Bool.not_eq_true, Decidable.not_not] at c_13
                    try simp only [bI_ne0, bI_eq0, decide_eq_true_eq, decide_eq_false_iff_not, Bool.not_eq_false, Bool.not_eq_true, Decidable.not_not] at c_18
                    try simp only [bI_ne0, bI_eq0, decide_eq_true_eq, decide_eq_false_iff_not, Bool.not_eq_false, Bool.not_eq_true, Decidable.not_not] at c_19
                    try simp only [bI_ne0, bI_eq0, decide_eq_true_eq, decide_eq_false_iff_not, Bool.not_eq_false, Bool.not_eq_true, Decidable.not_not] at c_29
                    have hfin : moTrack ρ n4 n6 net la x0 y0 x1 y1 = ((moMkC (ρ.ws 0 0) 4 n4 n6 (net - net / 1000 * 1000) la x0 y1 (((x0 + x1) - (2 * x0)) + 1) (((y0 + y1) - (2 * y1)) + 1) (-1)).1, (moMkC (ρ.ws 0 0) 4 n4 n6 (net - net / 1000 * 1000) la x0 y1 (((x0 + x1) - (2 * x0)) + 1) (((y0 + y1) - (2 * y1)) + 1) (-1)).2) := by first | (simp only [moTrack, c_2, c_5, c_6, eq_true c_9, c_12, c_13, c_18, c_19, c_29, decide_true, decide_false, Bool.true_and, Bool.and_true, Bool.false_and, Bool.and_false, Bool.true_or, Bool.or_true, Bool.false_or, Bool.or_false, Bool.not_true, Bool.not_false, if_true, if_false, Bool.false_eq_true, Bool.true_eq_false, reduceIte, eq_self]; done) | (simp [moTrack, c_2, c_5, c_6, eq_true c_9, c_12, c_13, c_18, c_19, c_29]; done) | (simp_all [moTrack]; done)
                    exact W.iret (v := (moMkC (ρ.ws 0 0) 4 n4 n6 (net - net / 1000 * 1000) la x0 y1 (((x0 + x1) - (2 * x0)) + 1) (((y0 + y1) - (2 * y1)) + 1) (-1)).1) hx hb hr (fun t9 ht hW => ⟨⟨(moMkC (ρ.ws 0 0) 4 n4 n6 (net - net / 1000 * 1000) la x0 y1 (((x0 + x1) - (2 * x0)) + 1) (((y0 + y1) - (2 * y1)) + 1) (-1)).1, V_31, rfl, ⟨by rw [hfin]; exact hM_33, hR_10.tr hM_33R, by rw [hfin]⟩, mB_of ht hV⟩, hS.F ht⟩) hS.2.2 d_Mo_track_175
                  · refine lv_iload hx hb d_Mo_track_127 (lv_at hl 7 rfl) ?_
                    refine lv_goto (tgt := 134) hx hb d_Mo_track_129 (by decide) ?_
                    refine lv_istore (lv' := [(10, .int y0), (9, .int x0), (8, .int (moFault (ρ.I 0) net 1)), (7, .int (bI (moLay (ρ.s 1) la))), (0, .ref mo), (1, .int net), (2, .int la), (3, .int x0), (4, .int y0), (5, .int x1), (6, .int y1)]) hx hb d_Mo_track_134 hl (by decide) rfl (fun ls hl => ?_)
                    refine lv_aload_n hx hb d_Mo_track_136 rfl (lv_at hl 4 rfl) ?_
                    refine lv_iconst (v := 4) hx hb d_Mo_track_137 (by decide) ?_
                    refine lv_iload_n hx hb d_Mo_track_138 rfl (lv_at hl 5 rfl) ?_
                    refine lv_sipush (v := 1000) hx hb d_Mo_track_139 (by decide) ?_
                    refine lv_irem hx hb d_Mo_track_142 (by decide) ?_
                    refine lv_iload_n hx hb d_Mo_track_143 rfl (lv_at hl 6 rfl) ?_
                    refine lv_iload hx hb d_Mo_track_144 (lv_at hl 1 rfl) ?_
                    refine lv_iload hx hb d_Mo_track_146 (lv_at hl 0 rfl) ?_
                    refine lv_iload_n hx hb d_Mo_track_148 rfl (lv_at hl 7 rfl) ?_
                    refine lv_iload hx hb d_Mo_track_149 (lv_at hl 9 rfl) ?_
                    refine lv_iadd hx hb d_Mo_track_151 ?_
                    refine lv_iconst (v := 2) hx hb d_Mo_track_152 (by decide) ?_
                    refine lv_iload hx hb d_Mo_track_153 (lv_at hl 1 rfl) ?_
                    refine lv_imul hx hb d_Mo_track_155 ?_
                    refine lv_isub hx hb d_Mo_track_156 ?_
                    refine lv_iconst (v := 1) hx hb d_Mo_track_157 (by decide) ?_
                    refine lv_iadd hx hb d_Mo_track_158 ?_
                    refine lv_iload hx hb d_Mo_track_159 (lv_at hl 8 rfl) ?_
                    refine lv_iload hx hb d_Mo_track_161 (lv_at hl 10 rfl) ?_
                    refine lv_iadd hx hb d_Mo_track_163 ?_
                    refine lv_iconst (v := 2) hx hb d_Mo_track_164 (by decide) ?_
                    refine lv_iload hx hb d_Mo_track_165 (lv_at hl 0 rfl) ?_
                    refine lv_imul hx hb d_Mo_track_167 ?_
                    refine lv_isub hx hb d_Mo_track_168 ?_
                    refine lv_iconst (v := 1) hx hb d_Mo_track_169 (by decide) ?_
                    refine lv_iadd hx hb d_Mo_track_170 ?_
                    refine lv_iconst (v := (-1)) hx hb d_Mo_track_171 (by decide) ?_
                    refine rc_I (va_runV (As := [.int 4, .int (net - net / 1000 * 1000), .int la, .int x0, .int y0, .int (((x0 + x1) - (2 * x0)) + 1), .int (((y0 + y1) - (2 * y0)) + 1), .int (-1)]) (rest := []) ⟨hx, hb, hml, hown, hts⟩ (c_Mo_makeCopper l D N0 k V_10 mo ad (ρ.ws 0 0) hM_10 (net - net / 1000 * 1000) la x0 y0 (((x0 + x1) - (2 * x0)) + 1) (((y0 + y1) - (2 * y0)) + 1) (-1) 4 n4 (by omega) (by omega) en4 hn4 n6 hn6 en6 hwo) (cwV 8 hts (gi_V wm_Mo_183 wv_Mo_makeCopper ws_Mo_makeCopper wi_Mo wc_Mo_makeCopper) rfl rfl rfl (by decide +kernel) ⟨Nat.le_of_ble_eq_true rfl, Nat.le_of_ble_eq_true rfl⟩) (mP.preV hG hS hV hm_11 rfl) rfl rfl hl.1 rfl (lv_room (Nat.le_of_ble_eq_true rfl)) d_Mo_track_172 ⟨Nat.le_of_ble_eq_true rfl, Nat.le_of_ble_eq_true rfl⟩) hS (fun r_34 V_35 H locs hp_36 hV hS => ?_)
                    obtain ⟨hM_37, hM_37R, hM_37e⟩ := hp_36
                    subst hM_37e
                    try simp only [bI_ne0, bI_eq0, decide_eq_true_eq, decide_eq_false_iff_not, Bool.not_eq_false, Bool.not_eq_true, Decidable.not_not] at c_2
                    try simp only [bI_ne0, bI_eq0, decide_eq_true_eq, decide_eq_false_iff_not, Bool.not_eq_false, Bool.not_eq_true, Decidable.not_not] at c_5
                    try simp only [bI_ne0, bI_eq0, decide_eq_true_eq, decide_eq_false_iff_not, Bool.not_eq_false, Bool.not_eq_true, Decidable.not_not] at c_6
                    try simp only [bI_ne0, bI_eq0, decide_eq_true_eq, decide_eq_false_iff_not, Bool.not_eq_false, Bool.not_eq_true, Decidable.not_not] at c_9
                    try simp only [bI_ne0, bI_eq0, decide_eq_true_eq, decide_eq_false_iff_not, Bool.not_eq_false, Bool.not_eq_true, Decidable.not_not] at c_12
                    try simp only [bI_ne0, bI_eq0, decide_eq_true_eq, decide_eq_false_iff_not, Bool.not_eq_false, Bool.not_eq_true, Decidable.not_not] at c_13
                    try simp only [bI_ne0, bI_eq0, decide_eq_true_eq, decide_eq_false_iff_not, Bool.not_eq_false, Bool.not_eq_true, Decidable.not_not] at c_18
                    try simp only [bI_ne0, bI_eq0, decide_eq_true_eq, decide_eq_false_iff_not, Bool.not_eq_false, Bool.not_eq_true, Decidable.not_not] at c_19
                    try simp only [bI_ne0, bI_eq0, decide_eq_true_eq, decide_eq_false_iff_not, Bool.not_eq_false, Bool.not_eq_true, Decidable.not_not] at c_29
                    have hfin : moTrack ρ n4 n6 net la x0 y0 x1 y1 = ((moMkC (ρ.ws 0 0) 4 n4 n6 (net - net / 1000 * 1000) la x0 y0 (((x0 + x1) - (2 * x0)) + 1) (((y0 + y1) - (2 * y0)) + 1) (-1)).1, (moMkC (ρ.ws 0 0) 4 n4 n6 (net - net / 1000 * 1000) la x0 y0 (((x0 + x1) - (2 * x0)) + 1) (((y0 + y1) - (2 * y0)) + 1) (-1)).2) := by first | (simp only [moTrack, c_2, c_5, c_6, eq_true c_9, c_12, c_13, c_18, c_19, c_29, decide_true, decide_false, Bool.true_and, Bool.and_true, Bool.false_and, Bool.and_false, Bool.true_or, Bool.or_true, Bool.false_or, Bool.or_false, Bool.not_true, Bool.not_false, if_true, if_false, Bool.false_eq_true, Bool.true_eq_false, reduceIte, eq_self]; done) | (simp [moTrack, c_2, c_5, c_6, eq_true c_9, c_12, c_13, c_18, c_19, c_29]; done) | (simp_all [moTrack]; done)
                    exact W.iret (v := (moMkC (ρ.ws 0 0) 4 n4 n6 (net - net / 1000 * 1000) la x0 y0 (((x0 + x1) - (2 * x0)) + 1) (((y0 + y1) - (2 * y0)) + 1) (-1)).1) hx hb hr (fun t9 ht hW => ⟨⟨(moMkC (ρ.ws 0 0) 4 n4 n6 (net - net / 1000 * 1000) la x0 y0 (((x0 + x1) - (2 * x0)) + 1) (((y0 + y1) - (2 * y0)) + 1) (-1)).1, V_35, rfl, ⟨by rw [hfin]; exact hM_37, hR_10.tr hM_37R, by rw [hfin]⟩, mB_of ht hV⟩, hS.F ht⟩) hS.2.2 d_Mo_track_175
              · refine lv_aload_n hx hb d_Mo_track_100 rfl (lv_at hl 2 rfl) ?_
                refine lv_iconst (v := 2) hx hb d_Mo_track_101 (by decide) ?_
                refine rc_I (va_runV (As := [.int 2]) (rest := []) ⟨hx, hb, hml, hown, hts⟩ (c_Mo_refuse l D N0 k V_10 mo ad (ρ.ws 0 0) hM_10 2) (cwV 1 hts (gi_V wm_Mo_155 wv_Mo_refuse ws_Mo_refuse wi_Mo wc_Mo_refuse) rfl rfl rfl (by decide +kernel) ⟨Nat.le_of_ble_eq_true rfl, Nat.le_of_ble_eq_true rfl⟩) (mP.preV hG hS hV hm_11 rfl) rfl rfl hl.1 rfl (lv_room (Nat.le_of_ble_eq_true rfl)) d_Mo_track_102 ⟨Nat.le_of_ble_eq_true rfl, Nat.le_of_ble_eq_true rfl⟩) hS (fun r_38 V_39 H locs hp_40 hV hS => ?_)
                obtain ⟨hM_41, hM_41R, hM_41e⟩ := hp_40
                subst hM_41e
                try simp only [bI_ne0, bI_eq0, decide_eq_true_eq, decide_eq_false_iff_not, Bool.not_eq_false, Bool.not_eq_true, Decidable.not_not] at c_2
                try simp only [bI_ne0, bI_eq0, decide_eq_true_eq, decide_eq_false_iff_not, Bool.not_eq_false, Bool.not_eq_true, Decidable.not_not] at c_5
                try simp only [bI_ne0, bI_eq0, decide_eq_true_eq, decide_eq_false_iff_not, Bool.not_eq_false, Bool.not_eq_true, Decidable.not_not] at c_6
                try simp only [bI_ne0, bI_eq0, decide_eq_true_eq, decide_eq_false_iff_not, Bool.not_eq_false, Bool.not_eq_true, Decidable.not_not] at c_9
                try simp only [bI_ne0, bI_eq0, decide_eq_true_eq, decide_eq_false_iff_not, Bool.not_eq_false, Bool.not_eq_true, Decidable.not_not] at c_12
                try simp only [bI_ne0, bI_eq0, decide_eq_true_eq, decide_eq_false_iff_not, Bool.not_eq_false, Bool.not_eq_true, Decidable.not_not] at c_13
                try simp only [bI_ne0, bI_eq0, decide_eq_true_eq, decide_eq_false_iff_not, Bool.not_eq_false, Bool.not_eq_true, Decidable.not_not] at c_18
                have hfin : moTrack ρ n4 n6 net la x0 y0 x1 y1 = ((-1), ((ρ.ws 0 0).ws 3 2)) := by first | (simp only [moTrack, c_2, c_5, c_6, eq_true c_9, c_12, c_13, c_18, decide_true, decide_false, Bool.true_and, Bool.and_true, Bool.false_and, Bool.and_false, Bool.true_or, Bool.or_true, Bool.false_or, Bool.or_false, Bool.not_true, Bool.not_false, if_true, if_false, Bool.false_eq_true, Bool.true_eq_false, reduceIte, eq_self]; done) | (simp [moTrack, c_2, c_5, c_6, eq_true c_9, c_12, c_13, c_18]; done) | (simp_all [moTrack]; done)
                exact W.iret (v := (-1)) hx hb hr (fun t9 ht hW => ⟨⟨(-1), V_39, rfl, ⟨by rw [hfin]; exact hM_41, hR_10.tr hM_41R, by rw [hfin]⟩, mB_of ht hV⟩, hS.F ht⟩) hS.2.2 d_Mo_track_105
          · refine lv_aload_n hx hb d_Mo_track_75 rfl (lv_at hl 2 rfl) ?_
            refine lv_iconst (v := 1) hx hb d_Mo_track_76 (by decide) ?_
            refine rc_I (va_runV (As := [.int 1]) (rest := []) ⟨hx, hb, hml, hown, hts⟩ (c_Mo_refuse l D N0 k V_10 mo ad (ρ.ws 0 0) hM_10 1) (cwV 1 hts (gi_V wm_Mo_155 wv_Mo_refuse ws_Mo_refuse wi_Mo wc_Mo_refuse) rfl rfl rfl (by decide +kernel) ⟨Nat.le_of_ble_eq_true rfl, Nat.le_of_ble_eq_true rfl⟩) (mP.preV hG hS hV hm_11 rfl) rfl rfl hl.1 rfl (lv_room (Nat.le_of_ble_eq_true rfl)) d_Mo_track_77 ⟨Nat.le_of_ble_eq_true rfl, Nat.le_of_ble_eq_true rfl⟩) hS (fun r_42 V_43 H locs hp_44 hV hS => ?_)
            obtain ⟨hM_45, hM_45R, hM_45e⟩ := hp_44
            subst hM_45e
            try simp only [bI_ne0, bI_eq0, decide_eq_true_eq, decide_eq_false_iff_not, Bool.not_eq_false, Bool.not_eq_true, Decidable.not_not] at c_2
            try simp only [bI_ne0, bI_eq0, decide_eq_true_eq, decide_eq_false_iff_not, Bool.not_eq_false, Bool.not_eq_true, Decidable.not_not] at c_5
            try simp only [bI_ne0, bI_eq0, decide_eq_true_eq, decide_eq_false_iff_not, Bool.not_eq_false, Bool.not_eq_true, Decidable.not_not] at c_6
            try simp only [bI_ne0, bI_eq0, decide_eq_true_eq, decide_eq_false_iff_not, Bool.not_eq_false, Bool.not_eq_true, Decidable.not_not] at c_9
            try simp only [bI_ne0, bI_eq0, decide_eq_true_eq, decide_eq_false_iff_not, Bool.not_eq_false, Bool.not_eq_true, Decidable.not_not] at c_12
            have hfin : moTrack ρ n4 n6 net la x0 y0 x1 y1 = ((-1), ((ρ.ws 0 0).ws 3 1)) := by first | (simp only [moTrack, c_2, c_5, c_6, eq_true c_9, c_12, decide_true, decide_false, Bool.true_and, Bool.and_true, Bool.false_and, Bool.and_false, Bool.true_or, Bool.or_true, Bool.false_or, Bool.or_false, Bool.not_true, Bool.not_false, if_true, if_false, Bool.false_eq_true, Bool.true_eq_false, reduceIte, eq_self]; done) | (simp [moTrack, c_2, c_5, c_6, eq_true c_9, c_12]; done) | (simp_all [moTrack]; done)
            exact W.iret (v := (-1)) hx hb hr (fun t9 ht hW => ⟨⟨(-1), V_43, rfl, ⟨by rw [hfin]; exact hM_45, hR_10.tr hM_45R, by rw [hfin]⟩, mB_of ht hV⟩, hS.F ht⟩) hS.2.2 d_Mo_track_80
        · refine lv_iload hx hb d_Mo_track_43 (lv_at hl 6 rfl) ?_
          refine lv_iload hx hb d_Mo_track_45 (lv_at hl 8 rfl) ?_
          refine lv_icmp_eq (tgt := 54) hx hb d_Mo_track_47 (by decide) (fun c_46 => ?_) (fun c_46 => ?_)
          · refine lv_iconst (v := 0) hx hb d_Mo_track_54 (by decide) ?_
            refine pf_Mo_100 hx hb hW hown hG hV hS hm_1 d_Mo_track_55 (fun H locs hV hS => ?_)
            replace hV : hv D vwCl N0 (hu V mo (.inr (7, [.int 0, .int (ρ.s 1), .int (ρ.s 2), .int (ρ.s 3), .ref (ad 0), .ref (ad 1), .ref (ad 2), .ref (ad 3), .ref (ad 4), .ref (ad 5), .ref (ad 6), .ref (ad 7), .ref (ad 8), .int (ρ.s 4), .ref (ad 9), .ref (ad 10), .ref (ad 11), .ref (ad 12), .ref (ad 13), .ref (ad 14), .ref (ad 15), .ref (ad 16), .ref (ad 17), .ref (ad 18), .ref (ad 19), .ref (ad 20), .ref (ad 21), .ref (ad 22), .ref (ad 23), .ref (ad 24), .ref (ad 25)]))) H := hV
            generalize hV_V_47 : hu V mo (.inr (7, [.int 0, .int (ρ.s 1), .int (ρ.s 2), .int (ρ.s 3), .ref (ad 0), .ref (ad 1), .ref (ad 2), .ref (ad 3), .ref (ad 4), .ref (ad 5), .ref (ad 6), .ref (ad 7), .ref (ad 8), .int (ρ.s 4), .ref (ad 9), .ref (ad 10), .ref (ad 11), .ref (ad 12), .ref (ad 13), .ref (ad 14), .ref (ad 15), .ref (ad 16), .ref (ad 17), .ref (ad 18), .ref (ad 19), .ref (ad 20), .ref (ad 21), .ref (ad 22), .ref (ad 23), .ref (ad 24), .ref (ad 25)])) = V_47 at hV
            have hM_47 : mdOk k V_47 mo ad (ρ.ws 0 0) := by rw [← hV_V_47]; exact md_put hM 0 0
            have hR_47 : mdFr mo ad V V_47 := by rw [← hV_V_47]; exact (mdFr.rf (mo := mo) (ad := ad) (V := V)).m
            have hm_48 : V_47 mo = some (.inr (7, [.int 0, .int (ρ.s 1), .int (ρ.s 2), .int (ρ.s 3), .ref (ad 0), .ref (ad 1), .ref (ad 2), .ref (ad 3), .ref (ad 4), .ref (ad 5), .ref (ad 6), .ref (ad 7), .ref (ad 8), .int (ρ.s 4), .ref (ad 9), .ref (ad 10), .ref (ad 11), .ref (ad 12), .ref (ad 13), .ref (ad 14), .ref (ad 15), .ref (ad 16), .ref (ad 17), .ref (ad 18), .ref (ad 19), .ref (ad 20), .ref (ad 21), .ref (ad 22), .ref (ad 23), .ref (ad 24), .ref (ad 25)])) := hM_47.1
            refine lv_aload_n hx hb d_Mo_track_58 rfl (lv_at hl 2 rfl) ?_
            refine gf_Mo_100 hx hb hW hown hG hV hm_48 d_Mo_track_59 ?_
            refine lv_if_eq (tgt := 67) hx hb d_Mo_track_62 (by decide) (fun _ => ?_) (fun q => absurd q (by decide))
            refine lv_aload_n hx hb d_Mo_track_67 rfl (lv_at hl 2 rfl) ?_
            refine lv_iconst (v := 4) hx hb d_Mo_track_68 (by decide) ?_
            refine rc_i (va_runV (As := [.int 4]) (rest := []) ⟨hx, hb, hml, hown, hts⟩ (c_Mo_isFull l D N0 k V_47 mo ad (ρ.ws 0 0) hM_47 4 (by omega) (by omega)) (cwV 1 hts (gi_V wm_Mo_152 wv_Mo_isFull ws_Mo_isFull wi_Mo wc_Mo_isFull) rfl rfl rfl (by decide +kernel) ⟨Nat.le_of_ble_eq_true rfl, Nat.le_of_ble_eq_true rfl⟩) (mP.preV hG hS hV hm_48 rfl) rfl rfl hl.1 rfl (lv_room (Nat.le_of_ble_eq_true rfl)) d_Mo_track_69 ⟨Nat.le_of_ble_eq_true rfl, Nat.le_of_ble_eq_true rfl⟩) hS (fun H locs hV hS => ?_)
            refine W.eq (g2 := F0 m 72 ls [.int (bI (decide ((ρ.I 0) 4 = nI (liN 4))))]) rfl ?_
            refine lv_if_eq (tgt := 81) hx hb d_Mo_track_72 (by decide) (fun c_49 => ?_) (fun c_49 => ?_)
            · refine lv_iload_n hx hb d_Mo_track_81 rfl (lv_at hl 5 rfl) ?_
              refine lv_iload hx hb d_Mo_track_82 (lv_at hl 6 rfl) ?_
              refine rc_i (va_runS (As := [.int x0, .int y0]) (rest := []) ⟨hx, hb, hml, hown, hts⟩ (c_Mo_isCell l D N0 k V_47 x0 y0) (va_cwS 2 hts (gi_S wm_Mo_114 wt_Mo_isCell wi_Mo wc_Mo_isCell) rfl rfl rfl (by decide +kernel) ⟨Nat.le_of_ble_eq_true rfl, Nat.le_of_ble_eq_true rfl⟩) (mP.preS hG hS hV) rfl rfl hl.1 rfl (lv_room (Nat.le_of_ble_eq_true rfl)) d_Mo_track_84 ⟨Nat.le_of_ble_eq_true rfl, Nat.le_of_ble_eq_true rfl⟩) hS (fun H locs hV hS => ?_)
              refine lv_if_eq (tgt := 100) hx hb d_Mo_track_87 (by decide) (fun c_50 => ?_) (fun c_50 => ?_)
              · refine lv_aload_n hx hb d_Mo_track_100 rfl (lv_at hl 2 rfl) ?_
                refine lv_iconst (v := 2) hx hb d_Mo_track_101 (by decide) ?_
                refine rc_I (va_runV (As := [.int 2]) (rest := []) ⟨hx, hb, hml, hown, hts⟩ (c_Mo_refuse l D N0 k V_47 mo ad (ρ.ws 0 0) hM_47 2) (cwV 1 hts (gi_V wm_Mo_155 wv_Mo_refuse ws_Mo_refuse wi_Mo wc_Mo_refuse) rfl rfl rfl (by decide +kernel) ⟨Nat.le_of_ble_eq_true rfl, Nat.le_of_ble_eq_true rfl⟩) (mP.preV hG hS hV hm_48 rfl) rfl rfl hl.1 rfl (lv_room (Nat.le_of_ble_eq_true rfl)) d_Mo_track_102 ⟨Nat.le_of_ble_eq_true rfl, Nat.le_of_ble_eq_true rfl⟩) hS (fun r_51 V_52 H locs hp_53 hV hS => ?_)
                obtain ⟨hM_54, hM_54R, hM_54e⟩ := hp_53
                subst hM_54e
                try simp only [bI_ne0, bI_eq0, decide_eq_true_eq, decide_eq_false_iff_not, Bool.not_eq_false, Bool.not_eq_true, Decidable.not_not] at c_2
                try simp only [bI_ne0, bI_eq0, decide_eq_true_eq, decide_eq_false_iff_not, Bool.not_eq_false, Bool.not_eq_true, Decidable.not_not] at c_5
                try simp only [bI_ne0, bI_eq0, decide_eq_true_eq, decide_eq_false_iff_not, Bool.not_eq_false, Bool.not_eq_true, Decidable.not_not] at c_6
                try simp only [bI_ne0, bI_eq0, decide_eq_true_eq, decide_eq_false_iff_not, Bool.not_eq_false, Bool.not_eq_true, Decidable.not_not] at c_9
                try simp only [bI_ne0, bI_eq0, decide_eq_true_eq, decide_eq_false_iff_not, Bool.not_eq_false, Bool.not_eq_true, Decidable.not_not] at c_46
                try simp only [bI_ne0, bI_eq0, decide_eq_true_eq, decide_eq_false_iff_not, Bool.not_eq_false, Bool.not_eq_true, Decidable.not_not] at c_49
                try simp only [bI_ne0, bI_eq0, decide_eq_true_eq, decide_eq_false_iff_not, Bool.not_eq_false, Bool.not_eq_true, Decidable.not_not] at c_50
                have hfin : moTrack ρ n4 n6 net la x0 y0 x1 y1 = ((-1), ((ρ.ws 0 0).ws 3 2)) := by first | (simp only [moTrack, c_2, c_5, c_6, c_9, eq_true c_46, c_49, c_50, decide_true, decide_false, Bool.true_and, Bool.and_true, Bool.false_and, Bool.and_false, Bool.true_or, Bool.or_true, Bool.false_or, Bool.or_false, Bool.not_true, Bool.not_false, if_true, if_false, Bool.false_eq_true, Bool.true_eq_false, reduceIte, eq_self]; done) | (simp [moTrack, c_2, c_5, c_6, c_9, eq_true c_46, c_49, c_50]; done) | (simp_all [moTrack]; done)
                exact W.iret (v := (-1)) hx hb hr (fun t9 ht hW => ⟨⟨(-1), V_52, rfl, ⟨by rw [hfin]; exact hM_54, hR_47.tr hM_54R, by rw [hfin]⟩, mB_of ht hV⟩, hS.F ht⟩) hS.2.2 d_Mo_track_105
              · refine lv_iload hx hb d_Mo_track_90 (lv_at hl 7 rfl) ?_
                refine lv_iload hx hb d_Mo_track_92 (lv_at hl 8 rfl) ?_
                refine rc_i (va_runS (As := [.int x1, .int y1]) (rest := []) ⟨hx, hb, hml, hown, hts⟩ (c_Mo_isCell l D N0 k V_47 x1 y1) (va_cwS 2 hts (gi_S wm_Mo_114 wt_Mo_isCell wi_Mo wc_Mo_isCell) rfl rfl rfl (by decide +kernel) ⟨Nat.le_of_ble_eq_true rfl, Nat.le_of_ble_eq_true rfl⟩) (mP.preS hG hS hV) rfl rfl hl.1 rfl (lv_room (Nat.le_of_ble_eq_true rfl)) d_Mo_track_94 ⟨Nat.le_of_ble_eq_true rfl, Nat.le_of_ble_eq_true rfl⟩) hS (fun H locs hV hS => ?_)
                refine lv_if_ne (tgt := 106) hx hb d_Mo_track_97 (by decide) (fun c_55 => ?_) (fun c_55 => ?_)
                · refine lv_iload_n hx hb d_Mo_track_106 rfl (lv_at hl 5 rfl) ?_
                  refine lv_iload hx hb d_Mo_track_107 (lv_at hl 7 rfl) ?_
                  refine lv_icmp_ge (tgt := 116) hx hb d_Mo_track_109 (by decide) (fun c_56 => ?_) (fun c_56 => ?_)
                  · refine lv_iload hx hb d_Mo_track_116 (lv_at hl 7 rfl) ?_
                    refine lv_istore (lv' := [(9, .int x1), (8, .int (moFault (ρ.I 0) net 1)), (7, .int (bI (moLay (ρ.s 1) la))), (0, .ref mo), (1, .int net), (2, .int la), (3, .int x0), (4, .int y0), (5, .int x1), (6, .int y1)]) hx hb d_Mo_track_118 hl (by decide) rfl (fun ls hl => ?_)
                    refine lv_iload hx hb d_Mo_track_120 (lv_at hl 7 rfl) ?_
                    refine lv_iload hx hb d_Mo_track_122 (lv_at hl 9 rfl) ?_
                    refine lv_icmp_ge (tgt := 132) hx hb d_Mo_track_124 (by decide) (fun c_57 => ?_) (fun c_57 => ?_)
                    · refine lv_iload hx hb d_Mo_track_132 (lv_at hl 9 rfl) ?_
                      refine lv_istore (lv' := [(10, .int y1), (9, .int x1), (8, .int (moFault (ρ.I 0) net 1)), (7, .int (bI (moLay (ρ.s 1) la))), (0, .ref mo), (1, .int net), (2, .int la), (3, .int x0), (4, .int y0), (5, .int x1), (6, .int y1)]) hx hb d_Mo_track_134 hl (by decide) rfl (fun ls hl => ?_)
                      refine lv_aload_n hx hb d_Mo_track_136 rfl (lv_at hl 4 rfl) ?_
                      refine lv_iconst (v := 4) hx hb d_Mo_track_137 (by decide) ?_
                      refine lv_iload_n hx hb d_Mo_track_138 rfl (lv_at hl 5 rfl) ?_
                      refine lv_sipush (v := 1000) hx hb d_Mo_track_139 (by decide) ?_
                      refine lv_irem hx hb d_Mo_track_142 (by decide) ?_
                      refine lv_iload_n hx hb d_Mo_track_143 rfl (lv_at hl 6 rfl) ?_
                      refine lv_iload hx hb d_Mo_track_144 (lv_at hl 1 rfl) ?_
                      refine lv_iload hx hb d_Mo_track_146 (lv_at hl 0 rfl) ?_
                      refine lv_iload_n hx hb d_Mo_track_148 rfl (lv_at hl 7 rfl) ?_
                      refine lv_iload hx hb d_Mo_track_149 (lv_at hl 9 rfl) ?_
                      refine lv_iadd hx hb d_Mo_track_151 ?_
                      refine lv_iconst (v := 2) hx hb d_Mo_track_152 (by decide) ?_
                      refine lv_iload hx hb d_Mo_track_153 (lv_at hl 1 rfl) ?_
                      refine lv_imul hx hb d_Mo_track_155 ?_
                      refine lv_isub hx hb d_Mo_track_156 ?_
                      refine lv_iconst (v := 1) hx hb d_Mo_track_157 (by decide) ?_
                      refine lv_iadd hx hb d_Mo_track_158 ?_
                      refine lv_iload hx hb d_Mo_track_159 (lv_at hl 8 rfl) ?_
                      refine lv_iload hx hb d_Mo_track_161 (lv_at hl 10 rfl) ?_
                      refine lv_iadd hx hb d_Mo_track_163 ?_
                      refine lv_iconst (v := 2) hx hb d_Mo_track_164 (by decide) ?_
                      refine lv_iload hx hb d_Mo_track_165 (lv_at hl 0 rfl) ?_
                      refine lv_imul hx hb d_Mo_track_167 ?_
                      refine lv_isub hx hb d_Mo_track_168 ?_
                      refine lv_iconst (v := 1) hx hb d_Mo_track_169 (by decide) ?_
                      refine lv_iadd hx hb d_Mo_track_170 ?_
                      refine lv_iconst (v := (-1)) hx hb d_Mo_track_171 (by decide) ?_
                      refine rc_I (va_runV (As := [.int 4, .int (net - net / 1000 * 1000), .int la, .int x1, .int y1, .int (((x0 + x1) - (2 * x1)) + 1), .int (((y0 + y1) - (2 * y1)) + 1), .int (-1)]) (rest := []) ⟨hx, hb, hml, hown, hts⟩ (c_Mo_makeCopper l D N0 k V_47 mo ad (ρ.ws 0 0) hM_47 (net - net / 1000 * 1000) la x1 y1 (((x0 + x1) - (2 * x1)) + 1) (((y0 + y1) - (2 * y1)) + 1) (-1) 4 n4 (by omega) (by omega) en4 hn4 n6 hn6 en6 hwo) (cwV 8 hts (gi_V wm_Mo_183 wv_Mo_makeCopper ws_Mo_makeCopper wi_Mo wc_Mo_makeCopper) rfl rfl rfl (by decide +kernel) ⟨Nat.le_of_ble_eq_true rfl, Nat.le_of_ble_eq_true rfl⟩) (mP.preV hG hS hV hm_48 rfl) rfl rfl hl.1 rfl (lv_room (Nat.le_of_ble_eq_true rfl)) d_Mo_track_172 ⟨Nat.le_of_ble_eq_true rfl, Nat.le_of_ble_eq_true rfl⟩) hS (fun r_58 V_59 H locs hp_60 hV hS => ?_)
                      obtain ⟨hM_61, hM_61R, hM_61e⟩ := hp_60
                      subst hM_61e
                      try simp only [bI_ne0, bI_eq0, decide_eq_true_eq, decide_eq_false_iff_not, Bool.not_eq_false, Bool.not_eq_true, Decidable.not_not] at c_2
                      try simp only [bI_ne0, bI_eq0, decide_eq_true_eq, decide_eq_false_iff_not, Bool.not_eq_false, Bool.not_eq_true, Decidable.not_not] at c_5
                      try simp only [bI_ne0, bI_eq0, decide_eq_true_eq, decide_eq_false_iff_not, Bool.not_eq_false, Bool.not_eq_true, Decidable.not_not] at c_6
                      try simp only [bI_ne0, bI_eq0, decide_eq_true_eq, decide_eq_false_iff_not, Bool.not_eq_false, Bool.not_eq_true, Decidable.not_not] at c_9
                      try simp only [bI_ne0, bI_eq0, decide_eq_true_eq, decide_eq_false_iff_not, Bool.not_eq_false, Bool.not_eq_true, Decidable.not_not] at c_46
                      try simp only [bI_ne0, bI_eq0, decide_eq_true_eq, decide_eq_false_iff_not, Bool.not_eq_false, Bool.not_eq_true, Decidable.not_not] at c_49
                      try simp only [bI_ne0, bI_eq0, decide_eq_true_eq, decide_eq_false_iff_not, Bool.not_eq_false, Bool.not_eq_true, Decidable.not_not] at c_50
                      try simp only [bI_ne0, bI_eq0, decide_eq_true_eq, decide_eq_false_iff_not, Bool.not_eq_false, Bool.not_eq_true, Decidable.not_not] at c_55
                      try simp only [bI_ne0, bI_eq0, decide_eq_true_eq, decide_eq_false_iff_not, Bool.not_eq_false, Bool.not_eq_true, Decidable.not_not] at c_56
                      try simp only [bI_ne0, bI_eq0, decide_eq_true_eq, decide_eq_false_iff_not, Bool.not_eq_false, Bool.not_eq_true, Decidable.not_not] at c_57
                      have hfin : moTrack ρ n4 n6 net la x0 y0 x1 y1 = ((moMkC (ρ.ws 0 0) 4 n4 n6 (net - net / 1000 * 1000) la x1 y1 (((x0 + x1) - (2 * x1)) + 1) (((y0 + y1) - (2 * y1)) + 1) (-1)).1, (moMkC (ρ.ws 0 0) 4 n4 n6 (net - net / 1000 * 1000) la x1 y1 (((x0 + x1) - (2 * x1)) + 1) (((y0 + y1) - (2 * y1)) + 1) (-1)).2) := by first | (simp only [moTrack, c_2, c_5, c_6, c_9, eq_true c_46, c_49, c_50, c_55, c_56, c_57, decide_true, decide_false, Bool.true_and, Bool.and_true, Bool.false_and, Bool.and_false, Bool.true_or, Bool.or_true, Bool.false_or, Bool.or_false, Bool.not_true, Bool.not_false, if_true, if_false, Bool.false_eq_true, Bool.true_eq_false, reduceIte, eq_self]; done) | (simp [moTrack, c_2, c_5, c_6, c_9, eq_true c_46, c_49, c_50, c_55, c_56, c_57]; done) | (simp_all [moTrack]; done)
                      exact W.iret (v := (moMkC (ρ.ws 0 0) 4 n4 n6 (net - net / 1000 * 1000) la x1 y1 (((x0 + x1) - (2 * x1)) + 1) (((y0 + y1) - (2 * y1)) + 1) (-1)).1) hx hb hr (fun t9 ht hW => ⟨⟨(moMkC (ρ.ws 0 0) 4 n4 n6 (net - net / 1000 * 1000) la x1 y1 (((x0 + x1) - (2 * x1)) + 1) (((y0 + y1) - (2 * y1)) + 1) (-1)).1, V_59, rfl, ⟨by rw [hfin]; exact hM_61, hR_47.tr hM_61R, by rw [hfin]⟩, mB_of ht hV⟩, hS.F ht⟩) hS.2.2 d_Mo_track_175
                    · refine lv_iload hx hb d_Mo_track_127 (lv_at hl 7 rfl) ?_
                      refine lv_goto (tgt := 134) hx hb d_Mo_track_129 (by decide) ?_
                      refine lv_istore (lv' := [(10, .int y0), (9, .int x1), (8, .int (moFault (ρ.I 0) net 1)), (7, .int (bI (moLay (ρ.s 1) la))), (0, .ref mo), (1, .int net), (2, .int la), (3, .int x0), (4, .int y0), (5, .int x1), (6, .int y1)]) hx hb d_Mo_track_134 hl (by decide) rfl (fun ls hl => ?_)
                      refine lv_aload_n hx hb d_Mo_track_136 rfl (lv_at hl 4 rfl) ?_
                      refine lv_iconst (v := 4) hx hb d_Mo_track_137 (by decide) ?_
                      refine lv_iload_n hx hb d_Mo_track_138 rfl (lv_at hl 5 rfl) ?_
                      refine lv_sipush (v := 1000) hx hb d_Mo_track_139 (by decide) ?_
                      refine lv_irem hx hb d_Mo_track_142 (by decide) ?_
                      refine lv_iload_n hx hb d_Mo_track_143 rfl (lv_at hl 6 rfl) ?_
                      refine lv_iload hx hb d_Mo_track_144 (lv_at hl 1 rfl) ?_
                      refine lv_iload hx hb d_Mo_track_146 (lv_at hl 0 rfl) ?_
                      refine lv_iload_n hx hb d_Mo_track_148 rfl (lv_at hl 7 rfl) ?_
                      refine lv_iload hx hb d_Mo_track_149 (lv_at hl 9 rfl) ?_
                      refine lv_iadd hx hb d_Mo_track_151 ?_
                      refine lv_iconst (v := 2) hx hb d_Mo_track_152 (by decide) ?_
                      refine lv_iload hx hb d_Mo_track_153 (lv_at hl 1 rfl) ?_
                      refine lv_imul hx hb d_Mo_track_155 ?_
                      refine lv_isub hx hb d_Mo_track_156 ?_
                      refine lv_iconst (v := 1) hx hb d_Mo_track_157 (by decide) ?_
                      refine lv_iadd hx hb d_Mo_track_158 ?_
                      refine lv_iload hx hb d_Mo_track_159 (lv_at hl 8 rfl) ?_
                      refine lv_iload hx hb d_Mo_track_161 (lv_at hl 10 rfl) ?_
                      refine lv_iadd hx hb d_Mo_track_163 ?_
                      refine lv_iconst (v := 2) hx hb d_Mo_track_164 (by decide) ?_
                      refine lv_iload hx hb d_Mo_track_165 (lv_at hl 0 rfl) ?_
                      refine lv_imul hx hb d_Mo_track_167 ?_
                      refine lv_isub hx hb d_Mo_track_168 ?_
                      refine lv_iconst (v := 1) hx hb d_Mo_track_169 (by decide) ?_
                      refine lv_iadd hx hb d_Mo_track_170 ?_
                      refine lv_iconst (v := (-1)) hx hb d_Mo_track_171 (by decide) ?_
                      refine rc_I (va_runV (As := [.int 4, .int (net - net / 1000 * 1000), .int la, .int x1, .int y0, .int (((x0 + x1) - (2 * x1)) + 1), .int (((y0 + y1) - (2 * y0)) + 1), .int (-1)]) (rest := []) ⟨hx, hb, hml, hown, hts⟩ (c_Mo_makeCopper l D N0 k V_47 mo ad (ρ.ws 0 0) hM_47 (net - net / 1000 * 1000) la x1 y0 (((x0 + x1) - (2 * x1)) + 1) (((y0 + y1) - (2 * y0)) + 1) (-1) 4 n4 (by omega) (by omega) en4 hn4 n6 hn6 en6 hwo) (cwV 8 hts (gi_V wm_Mo_183 wv_Mo_makeCopper ws_Mo_makeCopper wi_Mo wc_Mo_makeCopper) rfl rfl rfl (by decide +kernel) ⟨Nat.le_of_ble_eq_true rfl, Nat.le_of_ble_eq_true rfl⟩) (mP.preV hG hS hV hm_48 rfl) rfl rfl hl.1 rfl (lv_room (Nat.le_of_ble_eq_true rfl)) d_Mo_track_172 ⟨Nat.le_of_ble_eq_true rfl, Nat.le_of_ble_eq_true rfl⟩) hS (fun r_62 V_63 H locs hp_64 hV hS => ?_)
                      obtain ⟨hM_65, hM_65R, hM_65e⟩ := hp_64
                      subst hM_65e
                      try simp only [bI_ne0, bI_eq0, decide_eq_true_eq, decide_eq_false_iff_not, Bool.not_eq_false, Bool.not_eq_true, Decidable.not_not] at c_2
                      try simp only [bI_ne0, bI_eq0, decide_eq_true_eq, decide_eq_false_iff_not, Bool.not_eq_false, Bool.not_eq_true, Decidable.not_not] at c_5
                      try simp only [bI_ne0, bI_eq0, decide_eq_true_eq, decide_eq_false_iff_not, Bool.not_eq_false, Bool.not_eq_true, Decidable.not_not] at c_6
                      try simp only [bI_ne0, bI_eq0, decide_eq_true_eq, decide_eq_false_iff_not, Bool.not_eq_false, Bool.not_eq_true, Decidable.not_not] at c_9
                      try simp only [bI_ne0, bI_eq0, decide_eq_true_eq, decide_eq_false_iff_not, Bool.not_eq_false, Bool.not_eq_true, Decidable.not_not] at c_46
                      try simp only [bI_ne0, bI_eq0, decide_eq_true_eq, decide_eq_false_iff_not, Bool.not_eq_false, Bool.not_eq_true, Decidable.not_not] at c_49
                      try simp only [bI_ne0, bI_eq0, decide_eq_true_eq, decide_eq_false_iff_not, Bool.not_eq_false, Bool.not_eq_true, Decidable.not_not] at c_50
                      try simp only [bI_ne0, bI_eq0, decide_eq_true_eq, decide_eq_false_iff_not, Bool.not_eq_false, Bool.not_eq_true, Decidable.not_not] at c_55
                      try simp only [bI_ne0, bI_eq0, decide_eq_true_eq, decide_eq_false_iff_not, Bool.not_eq_false, Bool.not_eq_true, Decidable.not_not] at c_56
                      try simp only [bI_ne0, bI_eq0, decide_eq_true_eq, decide_eq_false_iff_not, Bool.not_eq_false, Bool.not_eq_true, Decidable.not_not] at c_57
                      have hfin : moTrack ρ n4 n6 net la x0 y0 x1 y1 = ((moMkC (ρ.ws 0 0) 4 n4 n6 (net - net / 1000 * 1000) la x1 y0 (((x0 + x1) - (2 * x1)) + 1) (((y0 + y1) - (2 * y0)) + 1) (-1)).1, (moMkC (ρ.ws 0 0) 4 n4 n6 (net - net / 1000 * 1000) la x1 y0 (((x0 + x1) - (2 * x1)) + 1) (((y0 + y1) - (2 * y0)) + 1) (-1)).2) := by first | (simp only [moTrack, c_2, c_5, c_6, c_9, eq_true c_46, c_49, c_50, c_55, c_56, c_57, decide_true, decide_false, Bool.true_and, Bool.and_true, Bool.false_and, Bool.and_false, Bool.true_or, Bool.or_true, Bool.false_or, Bool.or_false, Bool.not_true, Bool.not_false, if_true, if_false, Bool.false_eq_true, Bool.true_eq_false, reduceIte, eq_self]; done) | (simp [moTrack, c_2, c_5, c_6, c_9, eq_true c_46, c_49, c_50, c_55, c_56, c_57]; done) | (simp_all [moTrack]; done)
                      exact W.iret (v := (moMkC (ρ.ws 0 0) 4 n4 n6 (net - net / 1000 * 1000) la x1 y0 (((x0 + x1) - (2 * x1)) + 1) (((y0 + y1) - (2 * y0)) + 1) (-1)).1) hx hb hr (fun t9 ht hW => ⟨⟨(moMkC (ρ.ws 0 0) 4 n4 n6 (net - net / 1000 * 1000) la x1 y0 (((x0 + x1) - (2 * x1)) + 1) (((y0 + y1) - (2 * y0)) + 1) (-1)).1, V_63, rfl, ⟨by rw [hfin]; exact hM_65, hR_47.tr hM_65R, by rw [hfin]⟩, mB_of ht hV⟩, hS.F ht⟩) hS.2.2 d_Mo_track_175
                  · refine lv_iload_n hx hb d_Mo_track_112 rfl (lv_at hl 5 rfl) ?_
                    refine lv_goto (tgt := 118) hx hb d_Mo_track_113 (by decide) ?_
                    refine lv_istore (lv' := [(9, .int x0), (8, .int (moFault (ρ.I 0) net 1)), (7, .int (bI (moLay (ρ.s 1) la))), (0, .ref mo), (1, .int net), (2, .int la), (3, .int x0), (4, .int y0), (5, .int x1), (6, .int y1)]) hx hb d_Mo_track_118 hl (by decide) rfl (fun ls hl => ?_)
                    refine lv_iload hx hb d_Mo_track_120 (lv_at hl 7 rfl) ?_
                    refine lv_iload hx hb d_Mo_track_122 (lv_at hl 9 rfl) ?_
                    refine lv_icmp_ge (tgt := 132) hx hb d_Mo_track_124 (by decide) (fun c_66 => ?_) (fun c_66 => ?_)
                    · refine lv_iload hx hb d_Mo_track_132 (lv_at hl 9 rfl) ?_
                      refine lv_istore (lv' := [(10, .int y1), (9, .int x0), (8, .int (moFault (ρ.I 0) net 1)), (7, .int (bI (moLay (ρ.s 1) la))), (0, .ref mo), (1, .int net), (2, .int la), (3, .int x0), (4, .int y0), (5, .int x1), (6, .int y1)]) hx hb d_Mo_track_134 hl (by decide) rfl (fun ls hl => ?_)
                      refine lv_aload_n hx hb d_Mo_track_136 rfl (lv_at hl 4 rfl) ?_
                      refine lv_iconst (v := 4) hx hb d_Mo_track_137 (by decide) ?_
                      refine lv_iload_n hx hb d_Mo_track_138 rfl (lv_at hl 5 rfl) ?_
                      refine lv_sipush (v := 1000) hx hb d_Mo_track_139 (by decide) ?_
                      refine lv_irem hx hb d_Mo_track_142 (by decide) ?_
                      refine lv_iload_n hx hb d_Mo_track_143 rfl (lv_at hl 6 rfl) ?_
                      refine lv_iload hx hb d_Mo_track_144 (lv_at hl 1 rfl) ?_
                      refine lv_iload hx hb d_Mo_track_146 (lv_at hl 0 rfl) ?_
                      refine lv_iload_n hx hb d_Mo_track_148 rfl (lv_at hl 7 rfl) ?_
                      refine lv_iload hx hb d_Mo_track_149 (lv_at hl 9 rfl) ?_
                      refine lv_iadd hx hb d_Mo_track_151 ?_
                      refine lv_iconst (v := 2) hx hb d_Mo_track_152 (by decide) ?_
                      refine lv_iload hx hb d_Mo_track_153 (lv_at hl 1 rfl) ?_
                      refine lv_imul hx hb d_Mo_track_155 ?_
                      refine lv_isub hx hb d_Mo_track_156 ?_
                      refine lv_iconst (v := 1) hx hb d_Mo_track_157 (by decide) ?_
                      refine lv_iadd hx hb d_Mo_track_158 ?_
                      refine lv_iload hx hb d_Mo_track_159 (lv_at hl 8 rfl) ?_
                      refine lv_iload hx hb d_Mo_track_161 (lv_at hl 10 rfl) ?_
                      refine lv_iadd hx hb d_Mo_track_163 ?_
                      refine lv_iconst (v := 2) hx hb d_Mo_track_164 (by decide) ?_
                      refine lv_iload hx hb d_Mo_track_165 (lv_at hl 0 rfl) ?_
                      refine lv_imul hx hb d_Mo_track_167 ?_
                      refine lv_isub hx hb d_Mo_track_168 ?_
                      refine lv_iconst (v := 1) hx hb d_Mo_track_169 (by decide) ?_
                      refine lv_iadd hx hb d_Mo_track_170 ?_
                      refine lv_iconst (v := (-1)) hx hb d_Mo_track_171 (by decide) ?_
                      refine rc_I (va_runV (As := [.int 4, .int (net - net / 1000 * 1000), .int la, .int x0, .int y1, .int (((x0 + x1) - (2 * x0)) + 1), .int (((y0 + y1) - (2 * y1)) + 1), .int (-1)]) (rest := []) ⟨hx, hb, hml, hown, hts⟩ (c_Mo_makeCopper l D N0 k V_47 mo ad (ρ.ws 0 0) hM_47 (net - net / 1000 * 1000) la x0 y1 (((x0 + x1) - (2 * x0)) + 1) (((y0 + y1) - (2 * y1)) + 1) (-1) 4 n4 (by omega) (by omega) en4 hn4 n6 hn6 en6 hwo) (cwV 8 hts (gi_V wm_Mo_183 wv_Mo_makeCopper ws_Mo_makeCopper wi_Mo wc_Mo_makeCopper) rfl rfl rfl (by decide +kernel) ⟨Nat.le_of_ble_eq_true rfl, Nat.le_of_ble_eq_true rfl⟩) (mP.preV hG hS hV hm_48 rfl) rfl rfl hl.1 rfl (lv_room (Nat.le_of_ble_eq_true rfl)) d_Mo_track_172 ⟨Nat.le_of_ble_eq_true rfl, Nat.le_of_ble_eq_true rfl⟩) hS (fun r_67 V_68 H locs hp_69 hV hS => ?_)
                      obtain ⟨hM_70, hM_70R, hM_70e⟩ := hp_69
                      subst hM_70e
                      try simp only [bI_ne0, bI_eq0, decide_eq_true_eq, decide_eq_false_iff_not, Bool.not_eq_false, Bool.not_eq_true, Decidable.not_not] at c_2
                      try simp only [bI_ne0, bI_eq0, decide_eq_true_eq, decide_eq_false_iff_not, Bool.not_eq_false, Bool.not_eq_true, Decidable.not_not] at c_5
                      try simp only [bI_ne0, bI_eq0, decide_eq_true_eq, decide_eq_false_iff_not, Bool.not_eq_false, Bool.not_eq_true, Decidable.not_not] at c_6
                      try simp only [bI_ne0, bI_eq0, decide_eq_true_eq, decide_eq_false_iff_not, Bool.not_eq_false, Bool.not_eq_true, Decidable.not_not] at c_9
                      try simp only [bI_ne0, bI_eq0, decide_eq_true_eq, decide_eq_false_iff_not, Bool.not_eq_false, Bool.not_eq_true, Decidable.not_not] at c_46
                      try simp only [bI_ne0, bI_eq0, decide_eq_true_eq, decide_eq_false_iff_not, Bool.not_eq_false, Bool.not_eq_true, Decidable.not_not] at c_49
                      try simp only [bI_ne0, bI_eq0, decide_eq_true_eq, decide_eq_false_iff_not, Bool.not_eq_false, Bool.not_eq_true, Decidable.not_not] at c_50
                      try simp only [bI_ne0, bI_eq0, decide_eq_true_eq, decide_eq_false_iff_not, Bool.not_eq_false, Bool.not_eq_true, Decidable.not_not] at c_55
                      try simp only [bI_ne0, bI_eq0, decide_eq_true_eq, decide_eq_false_iff_not, Bool.not_eq_false, Bool.not_eq_true, Decidable.not_not] at c_56
                      try simp only [bI_ne0, bI_eq0, decide_eq_true_eq, decide_eq_false_iff_not, Bool.not_eq_false, Bool.not_eq_true, Decidable.not_not] at c_66
                      have hfin : moTrack ρ n4 n6 net la x0 y0 x1 y1 = ((moMkC (ρ.ws 0 0) 4 n4 n6 (net - net / 1000 * 1000) la x0 y1 (((x0 + x1) - (2 * x0)) + 1) (((y0 + y1) - (2 * y1)) + 1) (-1)).1, (moMkC (ρ.ws 0 0) 4 n4 n6 (net - net / 1000 * 1000) la x0 y1 (((x0 + x1) - (2 * x0)) + 1) (((y0 + y1) - (2 * y1)) + 1) (-1)).2) := by first | (simp only [moTrack, c_2, c_5, c_6, c_9, eq_true c_46, c_49, c_50, c_55, c_56, c_66, decide_true, decide_false, Bool.true_and, Bool.and_true, Bool.false_and, Bool.and_false, Bool.true_or, Bool.or_true, Bool.false_or, Bool.or_false, Bool.not_true, Bool.not_false, if_true, if_false, Bool.false_eq_true, Bool.true_eq_false, reduceIte, eq_self]; done) | (simp [moTrack, c_2, c_5, c_6, c_9, eq_true c_46, c_49, c_50, c_55, c_56, c_66]; done) | (simp_all [moTrack]; done)
                      exact W.iret (v := (moMkC (ρ.ws 0 0) 4 n4 n6 (net - net / 1000 * 1000) la x0 y1 (((x0 + x1) - (2 * x0)) + 1) (((y0 + y1) - (2 * y1)) + 1) (-1)).1) hx hb hr (fun t9 ht hW => ⟨⟨(moMkC (ρ.ws 0 0) 4 n4 n6 (net - net / 1000 * 1000) la x0 y1 (((x0 + x1) - (2 * x0)) + 1) (((y0 + y1) - (2 * y1)) + 1) (-1)).1, V_68, rfl, ⟨by rw [hfin]; exact hM_70, hR_47.tr hM_70R, by rw [hfin]⟩, mB_of ht hV⟩, hS.F ht⟩) hS.2.2 d_Mo_track_175
                    · refine lv_iload hx hb d_Mo_track_127 (lv_at hl 7 rfl) ?_
                      refine lv_goto (tgt := 134) hx hb d_Mo_track_129 (by decide) ?_
                      refine lv_istore (lv' := [(10, .int y0), (9, .int x0), (8, .int (moFault (ρ.I 0) net 1)), (7, .int (bI (moLay (ρ.s 1) la))), (0, .ref mo), (1, .int net), (2, .int la), (3, .int x0), (4, .int y0), (5, .int x1), (6, .int y1)]) hx hb d_Mo_track_134 hl (by decide) rfl (fun ls hl => ?_)
                      refine lv_aload_n hx hb d_Mo_track_136 rfl (lv_at hl 4 rfl) ?_
                      refine lv_iconst (v := 4) hx hb d_Mo_track_137 (by decide) ?_
                      refine lv_iload_n hx hb d_Mo_track_138 rfl (lv_at hl 5 rfl) ?_
                      refine lv_sipush (v := 1000) hx hb d_Mo_track_139 (by decide) ?_
                      refine lv_irem hx hb d_Mo_track_142 (by decide) ?_
                      refine lv_iload_n hx hb d_Mo_track_143 rfl (lv_at hl 6 rfl) ?_
                      refine lv_iload hx hb d_Mo_track_144 (lv_at hl 1 rfl) ?_
                      refine lv_iload hx hb d_Mo_track_146 (lv_at hl 0 rfl) ?_
                      refine lv_iload_n hx hb d_Mo_track_148 rfl (lv_at hl 7 rfl) ?_
                      refine lv_iload hx hb d_Mo_track_149 (lv_at hl 9 rfl) ?_
                      refine lv_iadd hx hb d_Mo_track_151 ?_
                      refine lv_iconst (v := 2) hx hb d_Mo_track_152 (by decide) ?_
                      refine lv_iload hx hb d_Mo_track_153 (lv_at hl 1 rfl) ?_
                      refine lv_imul hx hb d_Mo_track_155 ?_
                      refine lv_isub hx hb d_Mo_track_156 ?_
                      refine lv_iconst (v := 1) hx hb d_Mo_track_157 (by decide) ?_
                      refine lv_iadd hx hb d_Mo_track_158 ?_
                      refine lv_iload hx hb d_Mo_track_159 (lv_at hl 8 rfl) ?_
                      refine lv_iload hx hb d_Mo_track_161 (lv_at hl 10 rfl) ?_
                      refine lv_iadd hx hb d_Mo_track_163 ?_
                      refine lv_iconst (v := 2) hx hb d_Mo_track_164 (by decide) ?_
                      refine lv_iload hx hb d_Mo_track_165 (lv_at hl 0 rfl) ?_
                      refine lv_imul hx hb d_Mo_track_167 ?_
                      refine lv_isub hx hb d_Mo_track_168 ?_
                      refine lv_iconst (v := 1) hx hb d_Mo_track_169 (by decide) ?_
                      refine lv_iadd hx hb d_Mo_track_170 ?_
                      refine lv_iconst (v := (-1)) hx hb d_Mo_track_171 (by decide) ?_
                      refine rc_I (va_runV (As := [.int 4, .int (net - net / 1000 * 1000), .int la, .int x0, .int y0, .int (((x0 + x1) - (2 * x0)) + 1), .int (((y0 + y1) - (2 * y0)) + 1), .int (-1)]) (rest := []) ⟨hx, hb, hml, hown, hts⟩ (c_Mo_makeCopper l D N0 k V_47 mo ad (ρ.ws 0 0) hM_47 (net - net / 1000 * 1000) la x0 y0 (((x0 + x1) - (2 * x0)) + 1) (((y0 + y1) - (2 * y0)) + 1) (-1) 4 n4 (by omega) (by omega) en4 hn4 n6 hn6 en6 hwo) (cwV 8 hts (gi_V wm_Mo_183 wv_Mo_makeCopper ws_Mo_makeCopper wi_Mo wc_Mo_makeCopper) rfl rfl rfl (by decide +kernel) ⟨Nat.le_of_ble_eq_true rfl, Nat.le_of_ble_eq_true rfl⟩) (mP.preV hG hS hV hm_48 rfl) rfl rfl hl.1 rfl (lv_room (Nat.le_of_ble_eq_true rfl)) d_Mo_track_172 ⟨Nat.le_of_ble_eq_true rfl, Nat.le_of_ble_eq_true rfl⟩) hS (fun r_71 V_72 H locs hp_73 hV hS => ?_)
                      obtain ⟨hM_74, hM_74R, hM_74e⟩ := hp_73
                      subst hM_74e
                      try simp only [bI_ne0, bI_eq0, decide_eq_true_eq, decide_eq_false_iff_not, Bool.not_eq_false, Bool.not_eq_true, Decidable.not_not] at c_2
                      try simp only [bI_ne0, bI_eq0, decide_eq_true_eq, decide_eq_false_iff_not, Bool.not_eq_false, Bool.not_eq_true, Decidable.not_not] at c_5
                      try simp only [bI_ne0, bI_eq0, decide_eq_true_eq, decide_eq_false_iff_not, Bool.not_eq_false, Bool.not_eq_true, Decidable.not_not] at c_6
                      try simp only [bI_ne0, bI_eq0, decide_eq_true_eq, decide_eq_false_iff_not, Bool.not_eq_false, Bool.not_eq_true, Decidable.not_not] at c_9
                      try simp only [bI_ne0, bI_eq0, decide_eq_true_eq, decide_eq_false_iff_not, Bool.not_eq_false, Bool.not_eq_true, Decidable.not_not] at c_46
                      try simp only [bI_ne0, bI_eq0, decide_eq_true_eq, decide_eq_false_iff_not, Bool.not_eq_false, Bool.not_eq_true, Decidable.not_not] at c_49
                      try simp only [bI_ne0, bI_eq0, decide_eq_true_eq, decide_eq_false_iff_not, Bool.not_eq_false, Bool.not_eq_true, Decidable.not_not] at c_50
                      try simp only [bI_ne0, bI_eq0, decide_eq_true_eq, decide_eq_false_iff_not, Bool.not_eq_false, Bool.not_eq_true, Decidable.not_not] at c_55
                      try simp only [bI_ne0, bI_eq0, decide_eq_true_eq, decide_eq_false_iff_not, Bool.not_eq_false, Bool.not_eq_true, Decidable.not_not] at c_56
                      try simp only [bI_ne0, bI_eq0, decide_eq_true_eq, decide_eq_false_iff_not, Bool.not_eq_false, Bool.not_eq_true, Decidable.not_not] at c_66
                      have hfin : moTrack ρ n4 n6 net la x0 y0 x1 y1 = ((moMkC (ρ.ws 0 0) 4 n4 n6 (net - net / 1000 * 1000) la x0 y0 (((x0 + x1) - (2 * x0)) + 1) (((y0 + y1) - (2 * y0)) + 1) (-1)).1, (moMkC (ρ.ws 0 0) 4 n4 n6 (net - net / 1000 * 1000) la x0 y0 (((x0 + x1) - (2 * x0)) + 1) (((y0 + y1) - (2 * y0)) + 1) (-1)).2) := by first | (simp only [moTrack, c_2, c_5, c_6, c_9, eq_true c_46, c_49, c_50, c_55, c_56, c_66, decide_true, decide_false, Bool.true_and, Bool.and_true, Bool.false_and, Bool.and_false, Bool.true_or, Bool.or_true, Bool.false_or, Bool.or_false, Bool.not_true, Bool.not_false, if_true, if_false, Bool.false_eq_true, Bool.true_eq_false, reduceIte, eq_self]; done) | (simp [moTrack, c_2, c_5, c_6, c_9, eq_true c_46, c_49, c_50, c_55, c_56, c_66]; done) | (simp_all [moTrack]; done)
                      exact W.iret (v := (moMkC (ρ.ws 0 0) 4 n4 n6 (net - net / 1000 * 1000) la x0 y0 (((x0 + x1) - (2 * x0)) + 1) (((y0 + y1) - (2 * y0)) + 1) (-1)).1) hx hb hr (fun t9 ht hW => ⟨⟨(moMkC (ρ.ws 0 0) 4 n4 n6 (net - net / 1000 * 1000) la x0 y0 (((x0 + x1) - (2 * x0)) + 1) (((y0 + y1) - (2 * y0)) + 1) (-1)).1, V_72, rfl, ⟨by rw [hfin]; exact hM_74, hR_47.tr hM_74R, by rw [hfin]⟩, mB_of ht hV⟩, hS.F ht⟩) hS.2.2 d_Mo_track_175
                · refine lv_aload_n hx hb d_Mo_track_100 rfl (lv_at hl 2 rfl) ?_
                  refine lv_iconst (v := 2) hx hb d_Mo_track_101 (by decide) ?_
                  refine rc_I (va_runV (As := [.int 2]) (rest := []) ⟨hx, hb, hml, hown, hts⟩ (c_Mo_refuse l D N0 k V_47 mo ad (ρ.ws 0 0) hM_47 2) (cwV 1 hts (gi_V wm_Mo_155 wv_Mo_refuse ws_Mo_refuse wi_Mo wc_Mo_refuse) rfl rfl rfl (by decide +kernel) ⟨Nat.le_of_ble_eq_true rfl, Nat.le_of_ble_eq_true rfl⟩) (mP.preV hG hS hV hm_48 rfl) rfl rfl hl.1 rfl (lv_room (Nat.le_of_ble_eq_true rfl)) d_Mo_track_102 ⟨Nat.le_of_ble_eq_true rfl, Nat.le_of_ble_eq_true rfl⟩) hS (fun r_75 V_76 H locs hp_77 hV hS => ?_)
                  obtain ⟨hM_78, hM_78R, hM_78e⟩ := hp_77
                  subst hM_78e
                  try simp only [bI_ne0, bI_eq0, decide_eq_true_eq, decide_eq_false_iff_not, Bool.not_eq_false, Bool.not_eq_true, Decidable.not_not] at c_2
                  try simp only [bI_ne0, bI_eq0, decide_eq_true_eq, decide_eq_false_iff_not, Bool.not_eq_false, Bool.not_eq_true, Decidable.not_not] at c_5
                  try simp only [bI_ne0, bI_eq0, decide_eq_true_eq, decide_eq_false_iff_not, Bool.not_eq_false, Bool.not_eq_true, Decidable.not_not] at c_6
                  try simp only [bI_ne0, bI_eq0, decide_eq_true_eq, decide_eq_false_iff_not, Bool.not_eq_false, Bool.not_eq_true, Decidable.not_not] at c_9
                  try simp only [bI_ne0, bI_eq0, decide_eq_true_eq, decide_eq_false_iff_not, Bool.not_eq_false, Bool.not_eq_true, Decidable.not_not] at c_46
                  try simp only [bI_ne0, bI_eq0, decide_eq_true_eq, decide_eq_false_iff_not, Bool.not_eq_false, Bool.not_eq_true, Decidable.not_not] at c_49
                  try simp only [bI_ne0, bI_eq0, decide_eq_true_eq, decide_eq_false_iff_not, Bool.not_eq_false, Bool.not_eq_true, Decidable.not_not] at c_50
                  try simp only [bI_ne0, bI_eq0, decide_eq_true_eq, decide_eq_false_iff_not, Bool.not_eq_false, Bool.not_eq_true, Decidable.not_not] at c_55
                  have hfin : moTrack ρ n4 n6 net la x0 y0 x1 y1 = ((-1), ((ρ.ws 0 0).ws 3 2)) := by first | (simp only [moTrack, c_2, c_5, c_6, c_9, eq_true c_46, c_49, c_50, c_55, decide_true, decide_false, Bool.true_and, Bool.and_true, Bool.false_and, Bool.and_false, Bool.true_or, Bool.or_true, Bool.false_or, Bool.or_false, Bool.not_true, Bool.not_false, if_true, if_false, Bool.false_eq_true, Bool.true_eq_false, reduceIte, eq_self]; done) | (simp [moTrack, c_2, c_5, c_6, c_9, eq_true c_46, c_49, c_50, c_55]; done) | (simp_all [moTrack]; done)
                  exact W.iret (v := (-1)) hx hb hr (fun t9 ht hW => ⟨⟨(-1), V_76, rfl, ⟨by rw [hfin]; exact hM_78, hR_47.tr hM_78R, by rw [hfin]⟩, mB_of ht hV⟩, hS.F ht⟩) hS.2.2 d_Mo_track_105
            · refine lv_aload_n hx hb d_Mo_track_75 rfl (lv_at hl 2 rfl) ?_
              refine lv_iconst (v := 1) hx hb d_Mo_track_76 (by decide) ?_
              refine rc_I (va_runV (As := [.int 1]) (rest := []) ⟨hx, hb, hml, hown, hts⟩ (c_Mo_refuse l D N0 k V_47 mo ad (ρ.ws 0 0) hM_47 1) (cwV 1 hts (gi_V wm_Mo_155 wv_Mo_refuse ws_Mo_refuse wi_Mo wc_Mo_refuse) rfl rfl rfl (by decide +kernel) ⟨Nat.le_of_ble_eq_true rfl, Nat.le_of_ble_eq_true rfl⟩) (mP.preV hG hS hV hm_48 rfl) rfl rfl hl.1 rfl (lv_room (Nat.le_of_ble_eq_true rfl)) d_Mo_track_77 ⟨Nat.le_of_ble_eq_true rfl, Nat.le_of_ble_eq_true rfl⟩) hS (fun r_79 V_80 H locs hp_81 hV hS => ?_)
              obtain ⟨hM_82, hM_82R, hM_82e⟩ := hp_81
              subst hM_82e
              try simp only [bI_ne0, bI_eq0, decide_eq_true_eq, decide_eq_false_iff_not, Bool.not_eq_false, Bool.not_eq_true, Decidable.not_not] at c_2
              try simp only [bI_ne0, bI_eq0, decide_eq_true_eq, decide_eq_false_iff_not, Bool.not_eq_false, Bool.not_eq_true, Decidable.not_not] at c_5
              try simp only [bI_ne0, bI_eq0, decide_eq_true_eq, decide_eq_false_iff_not, Bool.not_eq_false, Bool.not_eq_true, Decidable.not_not] at c_6
              try simp only [bI_ne0, bI_eq0, decide_eq_true_eq, decide_eq_false_iff_not, Bool.not_eq_false, Bool.not_eq_true, Decidable.not_not] at c_9
              try simp only [bI_ne0, bI_eq0, decide_eq_true_eq, decide_eq_false_iff_not, Bool.not_eq_false, Bool.not_eq_true, Decidable.not_not] at c_46
              try simp only [bI_ne0, bI_eq0, decide_eq_true_eq, decide_eq_false_iff_not, Bool.not_eq_false, Bool.not_eq_true, Decidable.not_not] at c_49
              have hfin : moTrack ρ n4 n6 net la x0 y0 x1 y1 = ((-1), ((ρ.ws 0 0).ws 3 1)) := by first | (simp only [moTrack, c_2, c_5, c_6, c_9, eq_true c_46, c_49, decide_true, decide_false, Bool.true_and, Bool.and_true, Bool.false_and, Bool.and_false, Bool.true_or, Bool.or_true, Bool.false_or, Bool.or_false, Bool.not_true, Bool.not_false, if_true, if_false, Bool.false_eq_true, Bool.true_eq_false, reduceIte, eq_self]; done) | (simp [moTrack, c_2, c_5, c_6, c_9, eq_true c_46, c_49]; done) | (simp_all [moTrack]; done)
              exact W.iret (v := (-1)) hx hb hr (fun t9 ht hW => ⟨⟨(-1), V_80, rfl, ⟨by rw [hfin]; exact hM_82, hR_47.tr hM_82R, by rw [hfin]⟩, mB_of ht hV⟩, hS.F ht⟩) hS.2.2 d_Mo_track_80
          · refine lv_iconst (v := 2) hx hb d_Mo_track_50 (by decide) ?_
            refine lv_goto (tgt := 55) hx hb d_Mo_track_51 (by decide) ?_
            refine pf_Mo_100 hx hb hW hown hG hV hS hm_1 d_Mo_track_55 (fun H locs hV hS => ?_)
            replace hV : hv D vwCl N0 (hu V mo (.inr (7, [.int 2, .int (ρ.s 1), .int (ρ.s 2), .int (ρ.s 3), .ref (ad 0), .ref (ad 1), .ref (ad 2), .ref (ad 3), .ref (ad 4), .ref (ad 5), .ref (ad 6), .ref (ad 7), .ref (ad 8), .int (ρ.s 4), .ref (ad 9), .ref (ad 10), .ref (ad 11), .ref (ad 12), .ref (ad 13), .ref (ad 14), .ref (ad 15), .ref (ad 16), .ref (ad 17), .ref (ad 18), .ref (ad 19), .ref (ad 20), .ref (ad 21), .ref (ad 22), .ref (ad 23), .ref (ad 24), .ref (ad 25)]))) H := hV
            generalize hV_V_83 : hu V mo (.inr (7, [.int 2, .int (ρ.s 1), .int (ρ.s 2), .int (ρ.s 3), .ref (ad 0), .ref (ad 1), .ref (ad 2), .ref (ad 3), .ref (ad 4), .ref (ad 5), .ref (ad 6), .ref (ad 7), .ref (ad 8), .int (ρ.s 4), .ref (ad 9), .ref (ad 10), .ref (ad 11), .ref (ad 12), .ref (ad 13), .ref (ad 14), .ref (ad 15), .ref (ad 16), .ref (ad 17), .ref (ad 18), .ref (ad 19), .ref (ad 20), .ref (ad 21), .ref (ad 22), .ref (ad 23), .ref (ad 24), .ref (ad 25)])) = V_83 at hV
            have hM_83 : mdOk k V_83 mo ad (ρ.ws 0 2) := by rw [← hV_V_83]; exact md_put hM 0 2
            have hR_83 : mdFr mo ad V V_83 := by rw [← hV_V_83]; exact (mdFr.rf (mo := mo) (ad := ad) (V := V)).m
            have hm_84 : V_83 mo = some (.inr (7, [.int 2, .int (ρ.s 1), .int (ρ.s 2), .int (ρ.s 3), .ref (ad 0), .ref (ad 1), .ref (ad 2), .ref (ad 3), .ref (ad 4), .ref (ad 5), .ref (ad 6), .ref (ad 7), .ref (ad 8), .int (ρ.s 4), .ref (ad 9), .ref (ad 10), .ref (ad 11), .ref (ad 12), .ref (ad 13), .ref (ad 14), .ref (ad 15), .ref (ad 16), .ref (ad 17), .ref (ad 18), .ref (ad 19), .ref (ad 20), .ref (ad 21), .ref (ad 22), .ref (ad 23), .ref (ad 24), .ref (ad 25)])) := hM_83.1
            refine lv_aload_n hx hb d_Mo_track_58 rfl (lv_at hl 2 rfl) ?_
            refine gf_Mo_100 hx hb hW hown hG hV hm_84 d_Mo_track_59 ?_
            refine lv_if_eq (tgt := 67) hx hb d_Mo_track_62 (by decide) (fun q => absurd q (by decide)) (fun _ => ?_)
            refine lv_iconst (v := 0) hx hb d_Mo_track_65 (by decide) ?_
            try simp only [bI_ne0, bI_eq0, decide_eq_true_eq, decide_eq_false_iff_not, Bool.not_eq_false, Bool.not_eq_true, Decidable.not_not] at c_2
            try simp only [bI_ne0, bI_eq0, decide_eq_true_eq, decide_eq_false_iff_not, Bool.not_eq_false, Bool.not_eq_true, Decidable.not_not] at c_5
            try simp only [bI_ne0, bI_eq0, decide_eq_true_eq, decide_eq_false_iff_not, Bool.not_eq_false, Bool.not_eq_true, Decidable.not_not] at c_6
            try simp only [bI_ne0, bI_eq0, decide_eq_true_eq, decide_eq_false_iff_not, Bool.not_eq_false, Bool.not_eq_true, Decidable.not_not] at c_9
            try simp only [bI_ne0, bI_eq0, decide_eq_true_eq, decide_eq_false_iff_not, Bool.not_eq_false, Bool.not_eq_true, Decidable.not_not] at c_46
            have hfin : moTrack ρ n4 n6 net la x0 y0 x1 y1 = (0, (ρ.ws 0 2)) := by first | (simp only [moTrack, c_2, c_5, c_6, c_9, c_46, decide_true, decide_false, Bool.true_and, Bool.and_true, Bool.false_and, Bool.and_false, Bool.true_or, Bool.or_true, Bool.false_or, Bool.or_false, Bool.not_true, Bool.not_false, if_true, if_false, Bool.false_eq_true, Bool.true_eq_false, reduceIte, eq_self]; done) | (simp [moTrack, c_2, c_5, c_6, c_9, c_46]; done) | (simp_all [moTrack]; done)
            exact W.iret (v := 0) hx hb hr (fun t9 ht hW => ⟨⟨0, V_83, rfl, ⟨by rw [hfin]; exact hM_83, hR_83, by rw [hfin]⟩, mB_of ht hV⟩, hS.F ht⟩) hS.2.2 d_Mo_track_66
    · refine lv_iconst (v := 1) hx hb d_Mo_track_27 (by decide) ?_
      refine lv_goto (tgt := 55) hx hb d_Mo_track_28 (by decide) ?_
      refine pf_Mo_100 hx hb hW hown hG hV hS hm_1 d_Mo_track_55 (fun H locs hV hS => ?_)
      replace hV : hv D vwCl N0 (hu V mo (.inr (7, [.int 1, .int (ρ.s 1), .int (ρ.s 2), .int (ρ.s 3), .ref (ad 0), .ref (ad 1), .ref (ad 2), .ref (ad 3), .ref (ad 4), .ref (ad 5), .ref (ad 6), .ref (ad 7), .ref (ad 8), .int (ρ.s 4), .ref (ad 9), .ref (ad 10), .ref (ad 11), .ref (ad 12), .ref (ad 13), .ref (ad 14), .ref (ad 15), .ref (ad 16), .ref (ad 17), .ref (ad 18), .ref (ad 19), .ref (ad 20), .ref (ad 21), .ref (ad 22), .ref (ad 23), .ref (ad 24), .ref (ad 25)]))) H := hV
      generalize hV_V_85 : hu V mo (.inr (7, [.int 1, .int (ρ.s 1), .int (ρ.s 2), .int (ρ.s 3), .ref (ad 0), .ref (ad 1), .ref (ad 2), .ref (ad 3), .ref (ad 4), .ref (ad 5), .ref (ad 6), .ref (ad 7), .ref (ad 8), .int (ρ.s 4), .ref (ad 9), .ref (ad 10), .ref (ad 11), .ref (ad 12), .ref (ad 13), .ref (ad 14), .ref (ad 15), .ref (ad 16), .ref (ad 17), .ref (ad 18), .ref (ad 19), .ref (ad 20), .ref (ad 21), .ref (ad 22), .ref (ad 23), .ref (ad 24), .ref (ad 25)])) = V_85 at hV
      have hM_85 : mdOk k V_85 mo ad (ρ.ws 0 1) := by rw [← hV_V_85]; exact md_put hM 0 1
      have hR_85 : mdFr mo ad V V_85 := by rw [← hV_V_85]; exact (mdFr.rf (mo := mo) (ad := ad) (V := V)).m
      have hm_86 : V_85 mo = some (.inr (7, [.int 1, .int (ρ.s 1), .int (ρ.s 2), .int (ρ.s 3), .ref (ad 0), .ref (ad 1), .ref (ad 2), .ref (ad 3), .ref (ad 4), .ref (ad 5), .ref (ad 6), .ref (ad 7), .ref (ad 8), .int (ρ.s 4), .ref (ad 9), .ref (ad 10), .ref (ad 11), .ref (ad 12), .ref (ad 13), .ref (ad 14), .ref (ad 15), .ref (ad 16), .ref (ad 17), .ref (ad 18), .ref (ad 19), .ref (ad 20), .ref (ad 21), .ref (ad 22), .ref (ad 23), .ref (ad 24), .ref (ad 25)])) := hM_85.1
      refine lv_aload_n hx hb d_Mo_track_58 rfl (lv_at hl 2 rfl) ?_
      refine gf_Mo_100 hx hb hW hown hG hV hm_86 d_Mo_track_59 ?_
      refine lv_if_eq (tgt := 67) hx hb d_Mo_track_62 (by decide) (fun q => absurd q (by decide)) (fun _ => ?_)
      refine lv_iconst (v := 0) hx hb d_Mo_track_65 (by decide) ?_
      try simp only [bI_ne0, bI_eq0, decide_eq_true_eq, decide_eq_false_iff_not, Bool.not_eq_false, Bool.not_eq_true, Decidable.not_not] at c_2
      try simp only [bI_ne0, bI_eq0, decide_eq_true_eq, decide_eq_false_iff_not, Bool.not_eq_false, Bool.not_eq_true, Decidable.not_not] at c_5
      have hfin : moTrack ρ n4 n6 net la x0 y0 x1 y1 = (0, (ρ.ws 0 1)) := by first | (simp only [moTrack, c_2, c_5, decide_true, decide_false, Bool.true_and, Bool.and_true, Bool.false_and, Bool.and_false, Bool.true_or, Bool.or_true, Bool.false_or, Bool.or_false, Bool.not_true, Bool.not_false, if_true, if_false, Bool.false_eq_true, Bool.true_eq_false, reduceIte, eq_self]; done) | (simp [moTrack, c_2, c_5]; done) | (simp_all [moTrack]; done)
      exact W.iret (v := 0) hx hb hr (fun t9 ht hW => ⟨⟨0, V_85, rfl, ⟨by rw [hfin]; exact hM_85, hR_85, by rw [hfin]⟩, mB_of ht hV⟩, hS.F ht⟩) hS.2.2 d_Mo_track_66
set_option maxHeartbeats 4000000 in
set_option maxRecDepth 100000 in
/-- plane -/
theorem c_Mo_plane (l : Launch) (D : va_G) (N0 : Nat) (k : Nat → Nat) (V : HV) (mo : Nat) (ad : Nat → Nat) (ρ : MS) (hM : mdOk k V mo ad ρ) (net la : Int32) (n5 : Nat) (hn5 : n5 ≤ 10) (en5 : ρ.I 0 5 = nI n5) (n6 : Nat) (hn6 : n6 ≤ 10) (en6 : ρ.I 0 6 = nI n6) (hwo : moWo ρ) : Met l y_Mo_plane (.code y_Mo_plane b_Mo_plane 6 (some .int) :: WS) ({ frames := 3, cells := 0, slots := 0, locals := 69 }) (mP D N0 k [.ref mo, .int net, .int la] V) (va_Qi (fun r V' => mdOk k V' mo ad (moPlane ρ n5 n6 net la).2 ∧ mdFr mo ad V V' ∧ r = (moPlane ρ n5 n6 net la).1) (mB D N0) (hA N0)) 0 0 (hA N0) := by
  refine Met.ofW (cc := b_Mo_plane) (maxL := 6) (ret := (some .int)) (by decide) rfl ?_
  intro p e s m args below meth c s₁ B hml hv0
  obtain ⟨rfl, hG, hV⟩ := hv0
  have hx := B.exec
  have hb := B.bytes
  have hr := B.returns
  have hts := atoms_spec (ws := .code y_Mo_plane b_Mo_plane 6 (some .int) :: WS) B.pre
  have hW : ∀ w ∈ WS, w.before _ s = true := fun w h => hts w (List.mem_cons_of_mem _ h)
  have hown : s.vm.findClass "BoardHouseModel" = some m.cls := findClass_of_methodNamed B.named
  have hlocks := B.notSynchronized
  have hS : va_S (hA N0) s.heap s.heap [] := va_S.rf
  have hl := lv_entry ([.ref mo, .int net, .int la]) (n := 6) (Nat.le_of_ble_eq_true rfl)
  rw [lg_entry_eq]
  generalize (lg_sl ([.ref mo, .int net, .int la]) ++ List.replicate (6 - (lg_sl ([.ref mo, .int net, .int la])).length) Slot.unset).toArray = ls at hl ⊢
  have hl : lv_has ls 6 [(0, .ref mo), (1, .int net), (2, .int la)] := hl
  have hm_1 : V mo = some (.inr (7, [.int (ρ.s 0), .int (ρ.s 1), .int (ρ.s 2), .int (ρ.s 3), .ref (ad 0), .ref (ad 1), .ref (ad 2), .ref (ad 3), .ref (ad 4), .ref (ad 5), .ref (ad 6), .ref (ad 7), .ref (ad 8), .int (ρ.s 4), .ref (ad 9), .ref (ad 10), .ref (ad 11), .ref (ad 12), .ref (ad 13), .ref (ad 14), .ref (ad 15), .ref (ad 16), .ref (ad 17), .ref (ad 18), .ref (ad 19), .ref (ad 20), .ref (ad 21), .ref (ad 22), .ref (ad 23), .ref (ad 24), .ref (ad 25)])) := hM.1
  have hm_1_0 : V (ad 0) = some (eI k 8 (ρ.I 0)) := hM.a0
  have hm_1_1 : V (ad 1) = some (eZ k 150 (ρ.I 1)) := hM.a1
  have hm_1_6 : V (ad 6) = some (eI k 150 (ρ.I 6)) := hM.a6
  refine lv_aload_n hx hb d_Mo_plane_0 rfl (lv_at hl 0 rfl) ?_
  refine lv_iload_n hx hb d_Mo_plane_1 rfl (lv_at hl 1 rfl) ?_
  refine lv_iconst (v := 1) hx hb d_Mo_plane_2 (by decide) ?_
  refine rc_i (va_runV (As := [.int net, .int 1]) (rest := []) ⟨hx, hb, hml, hown, hts⟩ (c_Mo_fault l D N0 k V mo ad ρ hM net 1) (cwV 2 hts (gi_V wm_Mo_176 wv_Mo_fault ws_Mo_fault wi_Mo wc_Mo_fault) rfl rfl rfl (by decide +kernel) ⟨Nat.le_of_ble_eq_true rfl, Nat.le_of_ble_eq_true rfl⟩) (mP.preV hG hS hV hm_1 rfl) rfl rfl hl.1 rfl (lv_room (Nat.le_of_ble_eq_true rfl)) d_Mo_plane_3 ⟨Nat.le_of_ble_eq_true rfl, Nat.le_of_ble_eq_true rfl⟩) hS (fun H locs hV hS => ?_)
  refine W.eq (g2 := F0 m 6 ls [.int (moFault (ρ.I 0) net 1)]) rfl ?_
  refine lv_istore_n (lv' := [(3, .int (moFault (ρ.I 0) net 1)), (0, .ref mo), (1, .int net), (2, .int la)]) hx hb d_Mo_plane_6 rfl hl (by decide) rfl (fun ls hl => ?_)
  refine lv_aload_n hx hb d_Mo_plane_7 rfl (lv_at hl 1 rfl) ?_
  refine lv_iload_n hx hb d_Mo_plane_8 rfl (lv_at hl 0 rfl) ?_
  refine lv_iconst (v := 1) hx hb d_Mo_plane_9 (by decide) ?_
  refine lv_icmp_eq (tgt := 21) hx hb d_Mo_plane_10 (by decide) (fun c_2 => ?_) (fun c_2 => ?_)
  · refine lv_iconst (v := 1) hx hb d_Mo_plane_21 (by decide) ?_
    refine lv_goto (tgt := 26) hx hb d_Mo_plane_22 (by decide) ?_
    refine pf_Mo_100 hx hb hW hown hG hV hS hm_1 d_Mo_plane_26 (fun H locs hV hS => ?_)
    replace hV : hv D vwCl N0 (hu V mo (.inr (7, [.int 1, .int (ρ.s 1), .int (ρ.s 2), .int (ρ.s 3), .ref (ad 0), .ref (ad 1), .ref (ad 2), .ref (ad 3), .ref (ad 4), .ref (ad 5), .ref (ad 6), .ref (ad 7), .ref (ad 8), .int (ρ.s 4), .ref (ad 9), .ref (ad 10), .ref (ad 11), .ref (ad 12), .ref (ad 13), .ref (ad 14), .ref (ad 15), .ref (ad 16), .ref (ad 17), .ref (ad 18), .ref (ad 19), .ref (ad 20), .ref (ad 21), .ref (ad 22), .ref (ad 23), .ref (ad 24), .ref (ad 25)]))) H := hV
    generalize hV_V_3 : hu V mo (.inr (7, [.int 1, .int (ρ.s 1), .int (ρ.s 2), .int (ρ.s 3), .ref (ad 0), .ref (ad 1), .ref (ad 2), .ref (ad 3), .ref (ad 4), .ref (ad 5), .ref (ad 6), .ref (ad 7), .ref (ad 8), .int (ρ.s 4), .ref (ad 9), .ref (ad 10), .ref (ad 11), .ref (ad 12), .ref (ad 13), .ref (ad 14), .ref (ad 15), .ref (ad 16), .ref (ad 17), .ref (ad 18), .ref (ad 19), .ref (ad 20), .ref (ad 21), .ref (ad 22), .ref (ad 23), .ref (ad 24), .ref (ad 25)])) = V_3 at hV
    have hM_3 : mdOk k V_3 mo ad (ρ.ws 0 1) := by rw [← hV_V_3]; exact md_put hM 0 1
    have hR_3 : mdFr mo ad V V_3 := by rw [← hV_V_3]; exact (mdFr.rf (mo := mo) (ad := ad) (V := V)).m
    have hm_4 : V_3 mo = some (.inr (7, [.int 1, .int (ρ.s 1), .int (ρ.s 2), .int (ρ.s 3), .ref (ad 0), .ref (ad 1), .ref (ad 2), .ref (ad 3), .ref (ad 4), .ref (ad 5), .ref (ad 6), .ref (ad 7), .ref (ad 8), .int (ρ.s 4), .ref (ad 9), .ref (ad 10), .ref (ad 11), .ref (ad 12), .ref (ad 13), .ref (ad 14), .ref (ad 15), .ref (ad 16), .ref (ad 17), .ref (ad 18), .ref (ad 19), .ref (ad 20), .ref (ad 21), .ref (ad 22), .ref (ad 23), .ref (ad 24), .ref (ad 25)])) := hM_3.1
    have hm_4_0 : V_3 (ad 0) = some (eI k 8 (ρ.I 0)) := hM_3.a0
    have hm_4_1 : V_3 (ad 1) = some (eZ k 150 (ρ.I 1)) := hM_3.a1
    have hm_4_6 : V_3 (ad 6) = some (eI k 150 (ρ.I 6)) := hM_3.a6
    refine lv_aload_n hx hb d_Mo_plane_29 rfl (lv_at hl 1 rfl) ?_
    refine gf_Mo_100 hx hb hW hown hG hV hm_4 d_Mo_plane_30 ?_
    refine lv_if_eq (tgt := 38) hx hb d_Mo_plane_33 (by decide) (fun q => absurd q (by decide)) (fun _ => ?_)
    refine lv_iconst (v := 0) hx hb d_Mo_plane_36 (by decide) ?_
    try simp only [bI_ne0, bI_eq0, decide_eq_true_eq, decide_eq_false_iff_not, Bool.not_eq_false, Bool.not_eq_true, Decidable.not_not] at c_2
    have hfin : moPlane ρ n5 n6 net la = (0, (ρ.ws 0 1)) := by first | (simp only [moPlane, c_2, decide_true, decide_false, Bool.true_and, Bool.and_true, Bool.false_and, Bool.and_false, Bool.true_or, Bool.or_true, Bool.false_or, Bool.or_false, Bool.not_true, Bool.not_false, if_true, if_false, Bool.false_eq_true, Bool.true_eq_false, reduceIte, eq_self]; done) | (simp [moPlane, c_2]; done) | (simp_all [moPlane]; done)
    exact W.iret (v := 0) hx hb hr (fun t9 ht hW => ⟨⟨0, V_3, rfl, ⟨by rw [hfin]; exact hM_3, hR_3, by rw [hfin]⟩, mB_of ht hV⟩, hS.F ht⟩) hS.2.2 d_Mo_plane_37
  · refine lv_aload_n hx hb d_Mo_plane_13 rfl (lv_at hl 1 rfl) ?_
    refine lv_iload_n hx hb d_Mo_plane_14 rfl (lv_at hl 3 rfl) ?_
    refine rc_i (va_runV (As := [.int la]) (rest := [.ref mo]) ⟨hx, hb, hml, hown, hts⟩ (c_Mo_isLayer l D N0 k V mo ad ρ hM la) (cwV 1 hts (gi_V wm_Mo_186 wv_Mo_isLayer ws_Mo_isLayer wi_Mo wc_Mo_isLayer) rfl rfl rfl (by decide +kernel) ⟨Nat.le_of_ble_eq_true rfl, Nat.le_of_ble_eq_true rfl⟩) (mP.preV hG hS hV hm_1 rfl) rfl rfl hl.1 rfl (lv_room (Nat.le_of_ble_eq_true rfl)) d_Mo_plane_15 ⟨Nat.le_of_ble_eq_true rfl, Nat.le_of_ble_eq_true rfl⟩) hS (fun H locs hV hS => ?_)
    refine W.eq (g2 := F0 m 18 ls [.int (bI (moLay (ρ.s 1) la)), .ref mo]) rfl ?_
    refine lv_if_ne (tgt := 25) hx hb d_Mo_plane_18 (by decide) (fun c_5 => ?_) (fun c_5 => ?_)
    · refine lv_iload_n hx hb d_Mo_plane_25 rfl (lv_at hl 0 rfl) ?_
      refine lv_topi (fun f_6 ef_6 => ?_)
      refine pf_Mo_100 hx hb hW hown hG hV hS hm_1 d_Mo_plane_26 (fun H locs hV hS => ?_)
      replace hV : hv D vwCl N0 (hu V mo (.inr (7, [.int f_6, .int (ρ.s 1), .int (ρ.s 2), .int (ρ.s 3), .ref (ad 0), .ref (ad 1), .ref (ad 2), .ref (ad 3), .ref (ad 4), .ref (ad 5), .ref (ad 6), .ref (ad 7), .ref (ad 8), .int (ρ.s 4), .ref (ad 9), .ref (ad 10), .ref (ad 11), .ref (ad 12), .ref (ad 13), .ref (ad 14), .ref (ad 15), .ref (ad 16), .ref (ad 17), .ref (ad 18), .ref (ad 19), .ref (ad 20), .ref (ad 21), .ref (ad 22), .ref (ad 23), .ref (ad 24), .ref (ad 25)]))) H := hV
      generalize hV_V_7 : hu V mo (.inr (7, [.int f_6, .int (ρ.s 1), .int (ρ.s 2), .int (ρ.s 3), .ref (ad 0), .ref (ad 1), .ref (ad 2), .ref (ad 3), .ref (ad 4), .ref (ad 5), .ref (ad 6), .ref (ad 7), .ref (ad 8), .int (ρ.s 4), .ref (ad 9), .ref (ad 10), .ref (ad 11), .ref (ad 12), .ref (ad 13), .ref (ad 14), .ref (ad 15), .ref (ad 16), .ref (ad 17), .ref (ad 18), .ref (ad 19), .ref (ad 20), .ref (ad 21), .ref (ad 22), .ref (ad 23), .ref (ad 24), .ref (ad 25)])) = V_7 at hV
      have hM_7 : mdOk k V_7 mo ad (ρ.ws 0 f_6) := by rw [← hV_V_7]; exact md_put hM 0 f_6
      have hR_7 : mdFr mo ad V V_7 := by rw [← hV_V_7]; exact (mdFr.rf (mo := mo) (ad := ad) (V := V)).m
      have hm_8 : V_7 mo = some (.inr (7, [.int f_6, .int (ρ.s 1), .int (ρ.s 2), .int (ρ.s 3), .ref (ad 0), .ref (ad 1), .ref (ad 2), .ref (ad 3), .ref (ad 4), .ref (ad 5), .ref (ad 6), .ref (ad 7), .ref (ad 8), .int (ρ.s 4), .ref (ad 9), .ref (ad 10), .ref (ad 11), .ref (ad 12), .ref (ad 13), .ref (ad 14), .ref (ad 15), .ref (ad 16), .ref (ad 17), .ref (ad 18), .ref (ad 19), .ref (ad 20), .ref (ad 21), .ref (ad 22), .ref (ad 23), .ref (ad 24), .ref (ad 25)])) := hM_7.1
      have hm_8_0 : V_7 (ad 0) = some (eI k 8 (ρ.I 0)) := hM_7.a0
      have hm_8_1 : V_7 (ad 1) = some (eZ k 150 (ρ.I 1)) := hM_7.a1
      have hm_8_6 : V_7 (ad 6) = some (eI k 150 (ρ.I 6)) := hM_7.a6
      refine lv_aload_n hx hb d_Mo_plane_29 rfl (lv_at hl 1 rfl) ?_
      refine gf_Mo_100 hx hb hW hown hG hV hm_8 d_Mo_plane_30 ?_
      refine lv_if_eq (tgt := 38) hx hb d_Mo_plane_33 (by decide) (fun c_9 => ?_) (fun c_9 => ?_)
      · refine lv_iconst (v := 0) hx hb d_Mo_plane_38 (by decide) ?_
        refine lv_istore (lv' := [(4, .int 0), (3, .int (moFault (ρ.I 0) net 1)), (0, .ref mo), (1, .int net), (2, .int la)]) hx hb d_Mo_plane_39 hl (by decide) rfl (fun ls hl => ?_)
        refine lv_sipush (v := 140) hx hb d_Mo_plane_41 (by decide) ?_
        refine lv_istore (lv' := [(5, .int 140), (4, .int 0), (3, .int (moFault (ρ.I 0) net 1)), (0, .ref mo), (1, .int net), (2, .int la)]) hx hb d_Mo_plane_44 hl (by decide) rfl (fun ls hl => ?_)
        obtain ⟨Pb, hPb⟩ : ∃ z, z = moPlP ρ.I la := ⟨_, rfl⟩
        have loop_10 : ∀ (n i : Nat) (H : Heap) (locs : List Loc) (ls : Array Slot), i ≤ (140 + n5) → (140 + n5) + 1 ≤ i + n → (140 ≤ i) → hv D vwCl N0 V_7 H → va_S (hA N0) s.heap H locs → lv_has ls 6 [(0, .ref mo), (1, .int net), (2, .int la), (3, .int (moFault (ρ.I 0) net 1)), (4, .int (bI (anyF Pb 140 (i - 140)))), (5, .int (nI i))] → W p l e (headSpec (.code y_Mo_plane b_Mo_plane 6 (some .int) :: WS) ({ frames := 3, cells := 0, slots := 0, locals := 69 })).room s m #[.ref mo, .int net, .int la] below meth c H locs 0 0 (MQ below (va_Qi (fun r V' => mdOk k V' mo ad (moPlane ρ n5 n6 net la).2 ∧ mdFr mo ad V V' ∧ r = (moPlane ρ n5 n6 net la).1) (mB D N0) (hA N0)) #[.ref mo, .int net, .int la] s 0 0 (hA N0)) (F0 m 46 ls []) := by
          intro n
          induction n with
          | zero => intro i  H locs ls h1 h2; exact absurd h2 (by omega)
          | succ n ih =>
            intro i  H locs ls hi hin hI hV hS hl
            refine lv_iload hx hb d_Mo_plane_46 (lv_at hl 5 rfl) ?_
            refine lv_sipush (v := 140) hx hb d_Mo_plane_48 (by decide) ?_
            refine lv_aload_n hx hb d_Mo_plane_51 rfl (lv_at hl 0 rfl) ?_
            refine gf_Mo_7 hx hb hW hown hG hV hm_8 d_Mo_plane_52 ?_
            refine lv_iconst (v := 5) hx hb d_Mo_plane_55 (by decide) ?_
            refine hv_iald hx hb hG.K hV 0 hm_8_0 rfl ((vp_in_nI (by omega) (by omega) : vp_in (nI 5) 8)) d_Mo_plane_56 ?_
            rw [show (5 : Int32).toNatClampNeg = 5 from rfl]
            refine lv_iadd hx hb d_Mo_plane_57 ?_
            rw [en5, show (140 : Int32) = nI 140 from rfl, nI_add]
            refine W.eq (g2 := F0 m 58 ls [.int (nI (140 + n5)), .int (nI i)]) rfl ?_
            refine lv_icmp_ge (tgt := 100) hx hb d_Mo_plane_58 (by decide) (fun c_11 => ?_) (fun c_11 => ?_)
            · have hge : (140 + n5) ≤ i := nI_le' c_11 (by omega) (by omega)
              have hi9 : i - 140 = n5 := by omega
              rw [hi9, hPb] at hl
              refine lv_aload_n hx hb d_Mo_plane_100 rfl (lv_at hl 0 rfl) ?_
              refine lv_aload_n hx hb d_Mo_plane_101 rfl (lv_at hl 0 rfl) ?_
              refine lv_iconst (v := 5) hx hb d_Mo_plane_102 (by decide) ?_
              refine rc_i (va_runV (As := [.int 5]) (rest := [.ref mo]) ⟨hx, hb, hml, hown, hts⟩ (c_Mo_isFull l D N0 k V_7 mo ad (ρ.ws 0 f_6) hM_7 5 (by omega) (by omega)) (cwV 1 hts (gi_V wm_Mo_152 wv_Mo_isFull ws_Mo_isFull wi_Mo wc_Mo_isFull) rfl rfl rfl (by decide +kernel) ⟨Nat.le_of_ble_eq_true rfl, Nat.le_of_ble_eq_true rfl⟩) (mP.preV hG hS hV hm_8 rfl) rfl rfl hl.1 rfl (lv_room (Nat.le_of_ble_eq_true rfl)) d_Mo_plane_103 ⟨Nat.le_of_ble_eq_true rfl, Nat.le_of_ble_eq_true rfl⟩) hS (fun H locs hV hS => ?_)
              refine W.eq (g2 := F0 m 106 ls [.int (bI (decide ((ρ.I 0) 5 = nI (liN 5)))), .ref mo]) rfl ?_
              refine lv_if_eq (tgt := 113) hx hb d_Mo_plane_106 (by decide) (fun c_12 => ?_) (fun c_12 => ?_)
              · refine lv_aload_n hx hb d_Mo_plane_113 rfl (lv_at hl 0 rfl) ?_
                refine lv_iconst (v := 0) hx hb d_Mo_plane_114 (by decide) ?_
                refine lv_iconst (v := 0) hx hb d_Mo_plane_115 (by decide) ?_
                refine lv_bipush (v := 32) hx hb d_Mo_plane_116 (by decide) ?_
                refine lv_bipush (v := 24) hx hb d_Mo_plane_118 (by decide) ?_
                refine rc_i (va_runV (As := [.int 0, .int 0, .int 32, .int 24]) (rest := [.ref mo]) ⟨hx, hb, hml, hown, hts⟩ (c_Mo_isBarred l D N0 k V_7 mo ad (ρ.ws 0 f_6) hM_7 0 0 32 24 n6 hn6 en6 hwo) (cwV 4 hts (gi_V wm_Mo_122 wv_Mo_isBarred ws_Mo_isBarred wi_Mo wc_Mo_isBarred) rfl rfl rfl (by decide +kernel) ⟨Nat.le_of_ble_eq_true rfl, Nat.le_of_ble_eq_true rfl⟩) (mP.preV hG hS hV hm_8 rfl) rfl rfl hl.1 rfl (lv_room (Nat.le_of_ble_eq_true rfl)) d_Mo_plane_120 ⟨Nat.le_of_ble_eq_true rfl, Nat.le_of_ble_eq_true rfl⟩) hS (fun H locs hV hS => ?_)
                refine W.eq (g2 := F0 m 123 ls [.int (bI (moBarr ρ n6 0 0 32 24)), .ref mo]) rfl ?_
                refine lv_if_eq (tgt := 130) hx hb d_Mo_plane_123 (by decide) (fun c_13 => ?_) (fun c_13 => ?_)
                · refine lv_iload hx hb d_Mo_plane_130 (lv_at hl 4 rfl) ?_
                  refine lv_if_eq (tgt := 139) hx hb d_Mo_plane_132 (by decide) (fun c_14 => ?_) (fun c_14 => ?_)
                  · refine lv_iconst (v := 0) hx hb d_Mo_plane_139 (by decide) ?_
                    refine pf_Mo_149 hx hb hW hown hG hV hS hm_8 d_Mo_plane_140 (fun H locs hV hS => ?_)
                    replace hV : hv D vwCl N0 (hu V_7 mo (.inr (7, [.int f_6, .int (ρ.s 1), .int (ρ.s 2), .int 0, .ref (ad 0), .ref (ad 1), .ref (ad 2), .ref (ad 3), .ref (ad 4), .ref (ad 5), .ref (ad 6), .ref (ad 7), .ref (ad 8), .int (ρ.s 4), .ref (ad 9), .ref (ad 10), .ref (ad 11), .ref (ad 12), .ref (ad 13), .ref (ad 14), .ref (ad 15), .ref (ad 16), .ref (ad 17), .ref (ad 18), .ref (ad 19), .ref (ad 20), .ref (ad 21), .ref (ad 22), .ref (ad 23), .ref (ad 24), .ref (ad 25)]))) H := hV
                    generalize hV_V_15 : hu V_7 mo (.inr (7, [.int f_6, .int (ρ.s 1), .int (ρ.s 2), .int 0, .ref (ad 0), .ref (ad 1), .ref (ad 2), .ref (ad 3), .ref (ad 4), .ref (ad 5), .ref (ad 6), .ref (ad 7), .ref (ad 8), .int (ρ.s 4), .ref (ad 9), .ref (ad 10), .ref (ad 11), .ref (ad 12), .ref (ad 13), .ref (ad 14), .ref (ad 15), .ref (ad 16), .ref (ad 17), .ref (ad 18), .ref (ad 19), .ref (ad 20), .ref (ad 21), .ref (ad 22), .ref (ad 23), .ref (ad 24), .ref (ad 25)])) = V_15 at hV
                    have hM_15 : mdOk k V_15 mo ad ((ρ.ws 0 f_6).ws 3 0) := by rw [← hV_V_15]; exact md_put hM_7 3 0
                    have hR_15 : mdFr mo ad V V_15 := by rw [← hV_V_15]; exact hR_7.m
                    have hm_16 : V_15 mo = some (.inr (7, [.int f_6, .int (ρ.s 1), .int (ρ.s 2), .int 0, .ref (ad 0), .ref (ad 1), .ref (ad 2), .ref (ad 3), .ref (ad 4), .ref (ad 5), .ref (ad 6), .ref (ad 7), .ref (ad 8), .int (ρ.s 4), .ref (ad 9), .ref (ad 10), .ref (ad 11), .ref (ad 12), .ref (ad 13), .ref (ad 14), .ref (ad 15), .ref (ad 16), .ref (ad 17), .ref (ad 18), .ref (ad 19), .ref (ad 20), .ref (ad 21), .ref (ad 22), .ref (ad 23), .ref (ad 24), .ref (ad 25)])) := hM_15.1
                    have hm_16_0 : V_15 (ad 0) = some (eI k 8 (ρ.I 0)) := hM_15.a0
                    have hm_16_1 : V_15 (ad 1) = some (eZ k 150 (ρ.I 1)) := hM_15.a1
                    have hm_16_6 : V_15 (ad 6) = some (eI k 150 (ρ.I 6)) := hM_15.a6
                    refine lv_aload_n hx hb d_Mo_plane_143 rfl (lv_at hl 0 rfl) ?_
                    refine gf_Mo_149 hx hb hW hown hG hV hm_16 d_Mo_plane_144 ?_
                    refine lv_if_ne (tgt := 171) hx hb d_Mo_plane_147 (by decide) (fun q => absurd q (by decide)) (fun _ => ?_)
                    have hlt5 : n5 < liN 5 := by have q := bI_eq0.mp c_12; rw [en5] at q; have q2 := of_decide_eq_false q; exact Nat.lt_of_le_of_ne hn5 (fun z => q2 (by rw [z]))
                    refine lv_aload_n hx hb d_Mo_plane_150 rfl (lv_at hl 0 rfl) ?_
                    refine lv_iconst (v := 5) hx hb d_Mo_plane_151 (by decide) ?_
                    refine lv_iload_n hx hb d_Mo_plane_152 rfl (lv_at hl 1 rfl) ?_
                    refine lv_sipush (v := 1000) hx hb d_Mo_plane_153 (by decide) ?_
                    refine lv_irem hx hb d_Mo_plane_156 (by decide) ?_
                    refine lv_iload_n hx hb d_Mo_plane_157 rfl (lv_at hl 2 rfl) ?_
                    refine lv_iconst (v := 0) hx hb d_Mo_plane_158 (by decide) ?_
                    refine lv_iconst (v := 0) hx hb d_Mo_plane_159 (by decide) ?_
                    refine lv_bipush (v := 32) hx hb d_Mo_plane_160 (by decide) ?_
                    refine lv_bipush (v := 24) hx hb d_Mo_plane_162 (by decide) ?_
                    refine lv_iconst (v := (-1)) hx hb d_Mo_plane_164 (by decide) ?_
                    refine rc_I (va_runV (As := [.int 5, .int (net - net / 1000 * 1000), .int la, .int 0, .int 0, .int 32, .int 24, .int (-1)]) (rest := []) ⟨hx, hb, hml, hown, hts⟩ (c_Mo_make l D N0 k V_15 mo ad ((ρ.ws 0 f_6).ws 3 0) hM_15 (net - net / 1000 * 1000) la 0 0 32 24 (-1) 5 n5 (by omega) (by omega) en5 hlt5 hwo) (cwV 8 hts (gi_V wm_Mo_165 wv_Mo_make ws_Mo_make wi_Mo wc_Mo_make) rfl rfl rfl (by decide +kernel) ⟨Nat.le_of_ble_eq_true rfl, Nat.le_of_ble_eq_true rfl⟩) (mP.preV hG hS hV hm_16 rfl) rfl rfl hl.1 rfl (lv_room (Nat.le_of_ble_eq_true rfl)) d_Mo_plane_165 ⟨Nat.le_of_ble_eq_true rfl, Nat.le_of_ble_eq_true rfl⟩) hS (fun r_17 V_18 H locs hp_19 hV hS => ?_)
                    obtain ⟨hM_20, hM_20R, hM_20e⟩ := hp_19
                    subst hM_20e
                    refine lv_goto (tgt := 172) hx hb d_Mo_plane_168 (by decide) ?_
                    try simp only [bI_ne0, bI_eq0, decide_eq_true_eq, decide_eq_false_iff_not, Bool.not_eq_false, Bool.not_eq_true, Decidable.not_not] at c_2
                    try simp only [bI_ne0, bI_eq0, decide_eq_true_eq, decide_eq_false_iff_not, Bool.not_eq_false, Bool.not_eq_true, Decidable.not_not] at c_5
                    try simp only [bI_ne0, bI_eq0, decide_eq_true_eq, decide_eq_false_iff_not, Bool.not_eq_false, Bool.not_eq_true, Decidable.not_not] at c_9
                    try simp only [bI_ne0, bI_eq0, decide_eq_true_eq, decide_eq_false_iff_not, Bool.not_eq_false, Bool.not_eq_true, Decidable.not_not] at c_11
                    try simp only [bI_ne0, bI_eq0, decide_eq_true_eq, decide_eq_false_iff_not, Bool.not_eq_false, Bool.not_eq_true, Decidable.not_not] at c_12
                    try simp only [bI_ne0, bI_eq0, decide_eq_true_eq, decide_eq_false_iff_not, Bool.not_eq_false, Bool.not_eq_true, Decidable.not_not] at c_13
                    try simp only [bI_ne0, bI_eq0, decide_eq_true_eq, decide_eq_false_iff_not, Bool.not_eq_false, Bool.not_eq_true, Decidable.not_not] at c_14
                    subst ef_6
                    have hfin : moPlane ρ n5 n6 net la = ((moHan (nI (fiN 5 + n5))), (moMkS ((ρ.ws 0 (moFault (ρ.I 0) net 1)).ws 3 0) 5 (fiN 5 + n5) (net - net / 1000 * 1000) la 0 0 32 24 (-1))) := by first | (simp only [moPlane, c_2, c_5, c_9, c_11, c_12, c_13, c_14, decide_true, decide_false, Bool.true_and, Bool.and_true, Bool.false_and, Bool.and_false, Bool.true_or, Bool.or_true, Bool.false_or, Bool.or_false, Bool.not_true, Bool.not_false, if_true, if_false, Bool.false_eq_true, Bool.true_eq_false, reduceIte, eq_self]; done) | (simp [moPlane, c_2, c_5, c_9, c_11, c_12, c_13, c_14]; done) | (simp_all [moPlane]; done)
                    exact W.iret (v := (moHan (nI (fiN 5 + n5)))) hx hb hr (fun t9 ht hW => ⟨⟨(moHan (nI (fiN 5 + n5))), V_18, rfl, ⟨by rw [hfin]; exact hM_20, hR_15.tr hM_20R, by rw [hfin]⟩, mB_of ht hV⟩, hS.F ht⟩) hS.2.2 d_Mo_plane_172
                  · refine lv_iconst (v := 4) hx hb d_Mo_plane_135 (by decide) ?_
                    refine lv_goto (tgt := 140) hx hb d_Mo_plane_136 (by decide) ?_
                    refine pf_Mo_149 hx hb hW hown hG hV hS hm_8 d_Mo_plane_140 (fun H locs hV hS => ?_)
                    replace hV : hv D vwCl N0 (hu V_7 mo (.inr (7, [.int f_6, .int (ρ.s 1), .int (ρ.s 2), .int 4, .ref (ad 0), .ref (ad 1), .ref (ad 2), .ref (ad 3), .ref (ad 4), .ref (ad 5), .ref (ad 6), .ref (ad 7), .ref (ad 8), .int (ρ.s 4), .ref (ad 9), .ref (ad 10), .ref (ad 11), .ref (ad 12), .ref (ad 13), .ref (ad 14), .ref (ad 15), .ref (ad 16), .ref (ad 17), .ref (ad 18), .ref (ad 19), .ref (ad 20), .ref (ad 21), .ref (ad 22), .ref (ad 23), .ref (ad 24), .ref (ad 25)]))) H := hV
                    generalize hV_V_21 : hu V_7 mo (.inr (7, [.int f_6, .int (ρ.s 1), .int (ρ.s 2), .int 4, .ref (ad 0), .ref (ad 1), .ref (ad 2), .ref (ad 3), .ref (ad 4), .ref (ad 5), .ref (ad 6), .ref (ad 7), .ref (ad 8), .int (ρ.s 4), .ref (ad 9), .ref (ad 10), .ref (ad 11), .ref (ad 12), .ref (ad 13), .ref (ad 14), .ref (ad 15), .ref (ad 16), .ref (ad 17), .ref (ad 18), .ref (ad 19), .ref (ad 20), .ref (ad 21), .ref (ad 22), .ref (ad 23), .ref (ad 24), .ref (ad 25)])) = V_21 at hV
                    have hM_21 : mdOk k V_21 mo ad ((ρ.ws 0 f_6).ws 3 4) := by rw [← hV_V_21]; exact md_put hM_7 3 4
                    have hR_21 : mdFr mo ad V V_21 := by rw [← hV_V_21]; exact hR_7.m
                    have hm_22 : V_21 mo = some (.inr (7, [.int f_6, .int (ρ.s 1), .int (ρ.s 2), .int 4, .ref (ad 0), .ref (ad 1), .ref (ad 2), .ref (ad 3), .ref (ad 4), .ref (ad 5), .ref (ad 6), .ref (ad 7), .ref (ad 8), .int (ρ.s 4), .ref (ad 9), .ref (ad 10), .ref (ad 11), .ref (ad 12), .ref (ad 13), .ref (ad 14), .ref (ad 15), .ref (ad 16), .ref (ad 17), .ref (ad 18), .ref (ad 19), .ref (ad 20), .ref (ad 21), .ref (ad 22), .ref (ad 23), .ref (ad 24), .ref (ad 25)])) := hM_21.1
                    have hm_22_0 : V_21 (ad 0) = some (eI k 8 (ρ.I 0)) := hM_21.a0
                    have hm_22_1 : V_21 (ad 1) = some (eZ k 150 (ρ.I 1)) := hM_21.a1
                    have hm_22_6 : V_21 (ad 6) = some (eI k 150 (ρ.I 6)) := hM_21.a6
                    refine lv_aload_n hx hb d_Mo_plane_143 rfl (lv_at hl 0 rfl) ?_
                    refine gf_Mo_149 hx hb hW hown hG hV hm_22 d_Mo_plane_144 ?_
                    refine lv_if_ne (tgt := 171) hx hb d_Mo_plane_147 (by decide) (fun _ => ?_) (fun q => absurd q (by decide))
                    refine lv_iconst (v := (-1)) hx hb d_Mo_plane_171 (by decide) ?_
                    try simp only [bI_ne0, bI_eq0, decide_eq_true_eq, decide_eq_false_iff_not, Bool.not_eq_false, Bool.not_eq_true, Decidable.not_not] at c_2
                    try simp only [bI_ne0, bI_eq0, decide_eq_true_eq, decide_eq_false_iff_not, Bool.not_eq_false, Bool.not_eq_true, Decidable.not_not] at c_5
                    try simp only [bI_ne0, bI_eq0, decide_eq_true_eq, decide_eq_false_iff_not, Bool.not_eq_false, Bool.not_eq_true, Decidable.not_not] at c_9
                    try simp only [bI_ne0, bI_eq0, decide_eq_true_eq, decide_eq_false_iff_not, Bool.not_eq_false, Bool.not_eq_true, Decidable.not_not] at c_11
                    try simp only [bI_ne0, bI_eq0, decide_eq_true_eq, decide_eq_false_iff_not, Bool.not_eq_false, Bool.not_eq_true, Decidable.not_not] at c_12
                    try simp only [bI_ne0, bI_eq0, decide_eq_true_eq, decide_eq_false_iff_not, Bool.not_eq_false, Bool.not_eq_true, Decidable.not_not] at c_13
                    try simp only [bI_ne0, bI_eq0, decide_eq_true_eq, decide_eq_false_iff_not, Bool.not_eq_false, Bool.not_eq_true, Decidable.not_not] at c_14
                    subst ef_6
                    have hfin : moPlane ρ n5 n6 net la = ((-1), ((ρ.ws 0 (moFault (ρ.I 0) net 1)).ws 3 4)) := by first | (simp only [moPlane, c_2, c_5, c_9, c_11, c_12, c_13, c_14, decide_true, decide_false, Bool.true_and, Bool.and_true, Bool.false_and, Bool.and_false, Bool.true_or, Bool.or_true, Bool.false_or, Bool.or_false, Bool.not_true, Bool.not_false, if_true, if_false, Bool.false_eq_true, Bool.true_eq_false, reduceIte, eq_self]; done) | (simp [moPlane, c_2, c_5, c_9, c_11, c_12, c_13, c_14]; done) | (simp_all [moPlane]; done)
                    exact W.iret (v := (-1)) hx hb hr (fun t9 ht hW => ⟨⟨(-1), V_21, rfl, ⟨by rw [hfin]; exact hM_21, hR_21, by rw [hfin]⟩, mB_of ht hV⟩, hS.F ht⟩) hS.2.2 d_Mo_plane_172
                · refine lv_iconst (v := 3) hx hb d_Mo_plane_126 (by decide) ?_
                  refine lv_goto (tgt := 140) hx hb d_Mo_plane_127 (by decide) ?_
                  refine pf_Mo_149 hx hb hW hown hG hV hS hm_8 d_Mo_plane_140 (fun H locs hV hS => ?_)
                  replace hV : hv D vwCl N0 (hu V_7 mo (.inr (7, [.int f_6, .int (ρ.s 1), .int (ρ.s 2), .int 3, .ref (ad 0), .ref (ad 1), .ref (ad 2), .ref (ad 3), .ref (ad 4), .ref (ad 5), .ref (ad 6), .ref (ad 7), .ref (ad 8), .int (ρ.s 4), .ref (ad 9), .ref (ad 10), .ref (ad 11), .ref (ad 12), .ref (ad 13), .ref (ad 14), .ref (ad 15), .ref (ad 16), .ref (ad 17), .ref (ad 18), .ref (ad 19), .ref (ad 20), .ref (ad 21), .ref (ad 22), .ref (ad 23), .ref (ad 24), .ref (ad 25)]))) H := hV
                  generalize hV_V_23 : hu V_7 mo (.inr (7, [.int f_6, .int (ρ.s 1), .int (ρ.s 2), .int 3, .ref (ad 0), .ref (ad 1), .ref (ad 2), .ref (ad 3), .ref (ad 4), .ref (ad 5), .ref (ad 6), .ref (ad 7), .ref (ad 8), .int (ρ.s 4), .ref (ad 9), .ref (ad 10), .ref (ad 11), .ref (ad 12), .ref (ad 13), .ref (ad 14), .ref (ad 15), .ref (ad 16), .ref (ad 17), .ref (ad 18), .ref (ad 19), .ref (ad 20), .ref (ad 21), .ref (ad 22), .ref (ad 23), .ref (ad 24), .ref (ad 25)])) = V_23 at hV
                  have hM_23 : mdOk k V_23 mo ad ((ρ.ws 0 f_6).ws 3 3) := by rw [← hV_V_23]; exact md_put hM_7 3 3
                  have hR_23 : mdFr mo ad V V_23 := by rw [← hV_V_23]; exact hR_7.m
                  have hm_24 : V_23 mo = some (.inr (7, [.int f_6, .int (ρ.s 1), .int (ρ.s 2), .int 3, .ref (ad 0), .ref (ad 1), .ref (ad 2), .ref (ad 3), .ref (ad 4), .ref (ad 5), .ref (ad 6), .ref (ad 7), .ref (ad 8), .int (ρ.s 4), .ref (ad 9), .ref (ad 10), .ref (ad 11), .ref (ad 12), .ref (ad 13), .ref (ad 14), .ref (ad 15), .ref (ad 16), .ref (ad 17), .ref (ad 18), .ref (ad 19), .ref (ad 20), .ref (ad 21), .ref (ad 22), .ref (ad 23), .ref (ad 24), .ref (ad 25)])) := hM_23.1
                  have hm_24_0 : V_23 (ad 0) = some (eI k 8 (ρ.I 0)) := hM_23.a0
                  have hm_24_1 : V_23 (ad 1) = some (eZ k 150 (ρ.I 1)) := hM_23.a1
                  have hm_24_6 : V_23 (ad 6) = some (eI k 150 (ρ.I 6)) := hM_23.a6
                  refine lv_aload_n hx hb d_Mo_plane_143 rfl (lv_at hl 0 rfl) ?_
                  refine gf_Mo_149 hx hb hW hown hG hV hm_24 d_Mo_plane_144 ?_
                  refine lv_if_ne (tgt := 171) hx hb d_Mo_plane_147 (by decide) (fun _ => ?_) (fun q => absurd q (by decide))
                  refine lv_iconst (v := (-1)) hx hb d_Mo_plane_171 (by decide) ?_
                  try simp only [bI_ne0, bI_eq0, decide_eq_true_eq, decide_eq_false_iff_not, Bool.not_eq_false, Bool.not_eq_true, Decidable.not_not] at c_2
                  try simp only [bI_ne0, bI_eq0, decide_eq_true_eq, decide_eq_false_iff_not, Bool.not_eq_false, Bool.not_eq_true, Decidable.not_not] at c_5
                  try simp only [bI_ne0, bI_eq0, decide_eq_true_eq, decide_eq_false_iff_not, Bool.not_eq_false, Bool.not_eq_true, Decidable.not_not] at c_9
                  try simp only [bI_ne0, bI_eq0, decide_eq_true_eq, decide_eq_false_iff_not, Bool.not_eq_false, Bool.not_eq_true, Decidable.not_not] at c_11
                  try simp only [bI_ne0, bI_eq0, decide_eq_true_eq, decide_eq_false_iff_not, Bool.not_eq_false, Bool.not_eq_true, Decidable.not_not] at c_12
                  try simp only [bI_ne0, bI_eq0, decide_eq_true_eq, decide_eq_false_iff_not, Bool.not_eq_false, Bool.not_eq_true, Decidable.not_not] at c_13
                  subst ef_6
                  have hfin : moPlane ρ n5 n6 net la = ((-1), ((ρ.ws 0 (moFault (ρ.I 0) net 1)).ws 3 3)) := by first | (simp only [moPlane, c_2, c_5, c_9, c_11, c_12, c_13, decide_true, decide_false, Bool.true_and, Bool.and_true, Bool.false_and, Bool.and_false, Bool.true_or, Bool.or_true, Bool.false_or, Bool.or_false, Bool.not_true, Bool.not_false, if_true, if_false, Bool.false_eq_true, Bool.true_eq_false, reduceIte, eq_self]; done) | (simp [moPlane, c_2, c_5, c_9, c_11, c_12, c_13]; done) | (simp_all [moPlane]; done)
                  exact W.iret (v := (-1)) hx hb hr (fun t9 ht hW => ⟨⟨(-1), V_23, rfl, ⟨by rw [hfin]; exact hM_23, hR_23, by rw [hfin]⟩, mB_of ht hV⟩, hS.F ht⟩) hS.2.2 d_Mo_plane_172
              · refine lv_iconst (v := 1) hx hb d_Mo_plane_109 (by decide) ?_
                refine lv_goto (tgt := 140) hx hb d_Mo_plane_110 (by decide) ?_
                refine pf_Mo_149 hx hb hW hown hG hV hS hm_8 d_Mo_plane_140 (fun H locs hV hS => ?_)
                replace hV : hv D vwCl N0 (hu V_7 mo (.inr (7, [.int f_6, .int (ρ.s 1), .int (ρ.s 2), .int 1, .ref (ad 0), .ref (ad 1), .ref (ad 2), .ref (ad 3), .ref (ad 4), .ref (ad 5), .ref (ad 6), .ref (ad 7), .ref (ad 8), .int (ρ.s 4), .ref (ad 9), .ref (ad 10), .ref (ad 11), .ref (ad 12), .ref (ad 13), .ref (ad 14), .ref (ad 15), .ref (ad 16), .ref (ad 17), .ref (ad 18), .ref (ad 19), .ref (ad 20), .ref (ad 21), .ref (ad 22), .ref (ad 23), .ref (ad 24), .ref (ad 25)]))) H := hV
                generalize hV_V_25 : hu V_7 mo (.inr (7, [.int f_6, .int (ρ.s 1), .int (ρ.s 2), .int 1, .ref (ad 0), .ref (ad 1), .ref (ad 2), .ref (ad 3), .ref (ad 4), .ref (ad 5), .ref (ad 6), .ref (ad 7), .ref (ad 8), .int (ρ.s 4), .ref (ad 9), .ref (ad 10), .ref (ad 11), .ref (ad 12), .ref (ad 13), .ref (ad 14), .ref (ad 15), .ref (ad 16), .ref (ad 17), .ref (ad 18), .ref (ad 19), .ref (ad 20), .ref (ad 21), .ref (ad 22), .ref (ad 23), .ref (ad 24), .ref (ad 25)])) = V_25 at hV
                have hM_25 : mdOk k V_25 mo ad ((ρ.ws 0 f_6).ws 3 1) := by rw [← hV_V_25]; exact md_put hM_7 3 1
                have hR_25 : mdFr mo ad V V_25 := by rw [← hV_V_25]; exact hR_7.m
                have hm_26 : V_25 mo = some (.inr (7, [.int f_6, .int (ρ.s 1), .int (ρ.s 2), .int 1, .ref (ad 0), .ref (ad 1), .ref (ad 2), .ref (ad 3), .ref (ad 4), .ref (ad 5), .ref (ad 6), .ref (ad 7), .ref (ad 8), .int (ρ.s 4), .ref (ad 9), .ref (ad 10), .ref (ad 11), .ref (ad 12), .ref (ad 13), .ref (ad 14), .ref (ad 15), .ref (ad 16), .ref (ad 17), .ref (ad 18), .ref (ad 19), .ref (ad 20), .ref (ad 21), .ref (ad 22), .ref (ad 23), .ref (ad 24), .ref (ad 25)])) := hM_25.1
                have hm_26_0 : V_25 (ad 0) = some (eI k 8 (ρ.I 0)) := hM_25.a0
                have hm_26_1 : V_25 (ad 1) = some (eZ k 150 (ρ.I 1)) := hM_25.a1
                have hm_26_6 : V_25 (ad 6) = some (eI k 150 (ρ.I 6)) := hM_25.a6
                refine lv_aload_n hx hb d_Mo_plane_143 rfl (lv_at hl 0 rfl) ?_
                refine gf_Mo_149 hx hb hW hown hG hV hm_26 d_Mo_plane_144 ?_
                refine lv_if_ne (tgt := 171) hx hb d_Mo_plane_147 (by decide) (fun _ => ?_) (fun q => absurd q (by decide))
                refine lv_iconst (v := (-1)) hx hb d_Mo_plane_171 (by decide) ?_
                try simp only [bI_ne0, bI_eq0, decide_eq_true_eq, decide_eq_false_iff_not, Bool.not_eq_false, Bool.not_eq_true, Decidable.not_not] at c_2
                try simp only [bI_ne0, bI_eq0, decide_eq_true_eq, decide_eq_false_iff_not, Bool.not_eq_false, Bool.not_eq_true, Decidable.not_not] at c_5
                try simp only [bI_ne0, bI_eq0, decide_eq_true_eq, decide_eq_false_iff_not, Bool.not_eq_false, Bool.not_eq_true, Decidable.not_not] at c_9
                try simp only [bI_ne0, bI_eq0, decide_eq_true_eq, decide_eq_false_iff_not, Bool.not_eq_false, Bool.not_eq_true, Decidable.not_not] at c_11
                try simp only [bI_ne0, bI_eq0, decide_eq_true_eq, decide_eq_false_iff_not, Bool.not_eq_false, Bool.not_eq_true, Decidable.not_not] at c_12
                subst ef_6
                have hfin : moPlane ρ n5 n6 net la = ((-1), ((ρ.ws 0 (moFault (ρ.I 0) net 1)).ws 3 1)) := by first | (simp only [moPlane, c_2, c_5, c_9, c_11, c_12, decide_true, decide_false, Bool.true_and, Bool.and_true, Bool.false_and, Bool.and_false, Bool.true_or, Bool.or_true, Bool.false_or, Bool.or_false, Bool.not_true, Bool.not_false, if_true, if_false, Bool.false_eq_true, Bool.true_eq_false, reduceIte, eq_self]; done) | (simp [moPlane, c_2, c_5, c_9, c_11, c_12]; done) | (simp_all [moPlane]; done)
                exact W.iret (v := (-1)) hx hb hr (fun t9 ht hW => ⟨⟨(-1), V_25, rfl, ⟨by rw [hfin]; exact hM_25, hR_25, by rw [hfin]⟩, mB_of ht hV⟩, hS.F ht⟩) hS.2.2 d_Mo_plane_172
            · have hlt : i < (140 + n5) := nI_nle' c_11 (by omega) (by omega)
              refine lv_iload hx hb d_Mo_plane_61 (lv_at hl 4 rfl) ?_
              refine lv_if_ne (tgt := 87) hx hb d_Mo_plane_63 (by decide) (fun c_27 => ?_) (fun c_27 => ?_)
              · refine lv_iconst (v := 1) hx hb d_Mo_plane_87 (by decide) ?_
                refine lv_goto (tgt := 92) hx hb d_Mo_plane_88 (by decide) ?_
                refine lv_istore (lv' := [(4, .int 1), (0, .ref mo), (1, .int net), (2, .int la), (3, .int (moFault (ρ.I 0) net 1)), (5, .int (nI i))]) hx hb d_Mo_plane_92 hl (by decide) rfl (fun ls hl => ?_)
                obtain ⟨i_28, ei_28⟩ : ∃ y : Int32, y = (nI i) + 1 := ⟨_, rfl⟩
                refine lv_iinc (v := i_28) (lv' := [(5, .int i_28), (4, .int 1), (0, .ref mo), (1, .int net), (2, .int la), (3, .int (moFault (ρ.I 0) net 1))]) hx hb d_Mo_plane_94 hl (k := 5) rfl (by rw [ei_28]; rfl) (by decide) rfl (fun ls hl => ?_)
                refine lv_goto (tgt := 46) hx hb d_Mo_plane_97 (by decide) ?_
                rw [nI_1] at ei_28
                subst ei_28
                try simp only [bI_ne0, bI_eq0, decide_eq_true_eq, decide_eq_false_iff_not, Bool.not_eq_false, Bool.not_eq_true, Decidable.not_not] at c_2
                try simp only [bI_ne0, bI_eq0, decide_eq_true_eq, decide_eq_false_iff_not, Bool.not_eq_false, Bool.not_eq_true, Decidable.not_not] at c_5
                try simp only [bI_ne0, bI_eq0, decide_eq_true_eq, decide_eq_false_iff_not, Bool.not_eq_false, Bool.not_eq_true, Decidable.not_not] at c_9
                try simp only [bI_ne0, bI_eq0, decide_eq_true_eq, decide_eq_false_iff_not, Bool.not_eq_false, Bool.not_eq_true, Decidable.not_not] at c_11
                try simp only [bI_ne0, bI_eq0, decide_eq_true_eq, decide_eq_false_iff_not, Bool.not_eq_false, Bool.not_eq_true, Decidable.not_not] at c_27
                have hb9 : bI (anyF Pb 140 (i + 1 - 140)) = 1 := by
                  rw [show i + 1 - 140 = (i - 140) + 1 by omega, anyF_snoc, show 140 + (i - 140) = i by omega]
                  subst hPb
                  first | (simp [bI, moPlP, c_27]; done) | (simp_all [bI, moPlP]; done)
                exact ih (i + 1)  _ _ _ (by omega) (by omega) (by omega) hV hS (lv_sub hl [2, 3, 4, 5, 1, 0] (by rw [hb9]; rfl))
              · refine lv_aload_n hx hb d_Mo_plane_66 rfl (lv_at hl 0 rfl) ?_
                refine gf_Mo_13 hx hb hW hown hG hV hm_8 d_Mo_plane_67 ?_
                refine lv_iload hx hb d_Mo_plane_70 (lv_at hl 5 rfl) ?_
                refine hv_zald hx hb hG.K hV 2 hm_8_1 rfl (vp_in_nI (by omega) (by omega)) d_Mo_plane_72 ?_
                rw [nI_clamp (by omega)]
                refine lv_if_eq (tgt := 91) hx hb d_Mo_plane_73 (by decide) (fun c_29 => ?_) (fun c_29 => ?_)
                · refine lv_iconst (v := 0) hx hb d_Mo_plane_91 (by decide) ?_
                  refine lv_istore (lv' := [(4, .int 0), (0, .ref mo), (1, .int net), (2, .int la), (3, .int (moFault (ρ.I 0) net 1)), (5, .int (nI i))]) hx hb d_Mo_plane_92 hl (by decide) rfl (fun ls hl => ?_)
                  obtain ⟨i_30, ei_30⟩ : ∃ y : Int32, y = (nI i) + 1 := ⟨_, rfl⟩
                  refine lv_iinc (v := i_30) (lv' := [(5, .int i_30), (4, .int 0), (0, .ref mo), (1, .int net), (2, .int la), (3, .int (moFault (ρ.I 0) net 1))]) hx hb d_Mo_plane_94 hl (k := 5) rfl (by rw [ei_30]; rfl) (by decide) rfl (fun ls hl => ?_)
                  refine lv_goto (tgt := 46) hx hb d_Mo_plane_97 (by decide) ?_
                  rw [nI_1] at ei_30
                  subst ei_30
                  try simp only [bI_ne0, bI_eq0, decide_eq_true_eq, decide_eq_false_iff_not, Bool.not_eq_false, Bool.not_eq_true, Decidable.not_not] at c_2
                  try simp only [bI_ne0, bI_eq0, decide_eq_true_eq, decide_eq_false_iff_not, Bool.not_eq_false, Bool.not_eq_true, Decidable.not_not] at c_5
                  try simp only [bI_ne0, bI_eq0, decide_eq_true_eq, decide_eq_false_iff_not, Bool.not_eq_false, Bool.not_eq_true, Decidable.not_not] at c_9
                  try simp only [bI_ne0, bI_eq0, decide_eq_true_eq, decide_eq_false_iff_not, Bool.not_eq_false, Bool.not_eq_true, Decidable.not_not] at c_11
                  try simp only [bI_ne0, bI_eq0, decide_eq_true_eq, decide_eq_false_iff_not, Bool.not_eq_false, Bool.not_eq_true, Decidable.not_not] at c_27
                  try simp only [bI_ne0, bI_eq0, decide_eq_true_eq, decide_eq_false_iff_not, Bool.not_eq_false, Bool.not_eq_true, Decidable.not_not] at c_29
                  have hb9 : bI (anyF Pb 140 (i + 1 - 140)) = 0 := by
                    rw [show i + 1 - 140 = (i - 140) + 1 by omega, anyF_snoc, show 140 + (i - 140) = i by omega]
                    subst hPb
                    first | (simp [bI, moPlP, c_27, c_29]; done) | (simp_all [bI, moPlP]; done)
                  exact ih (i + 1)  _ _ _ (by omega) (by omega) (by omega) hV hS (lv_sub hl [2, 3, 4, 5, 1, 0] (by rw [hb9]; rfl))
                · refine lv_aload_n hx hb d_Mo_plane_76 rfl (lv_at hl 0 rfl) ?_
                  refine gf_Mo_29 hx hb hW hown hG hV hm_8 d_Mo_plane_77 ?_
                  refine lv_iload hx hb d_Mo_plane_80 (lv_at hl 5 rfl) ?_
                  refine hv_iald hx hb hG.K hV 0 hm_8_6 rfl (vp_in_nI (by omega) (by omega)) d_Mo_plane_82 ?_
                  rw [nI_clamp (by omega)]
                  refine lv_iload_n hx hb d_Mo_plane_83 rfl (lv_at hl 2 rfl) ?_
                  refine lv_icmp_ne (tgt := 91) hx hb d_Mo_plane_84 (by decide) (fun c_31 => ?_) (fun c_31 => ?_)
                  · refine lv_iconst (v := 0) hx hb d_Mo_plane_91 (by decide) ?_
                    refine lv_istore (lv' := [(4, .int 0), (0, .ref mo), (1, .int net), (2, .int la), (3, .int (moFault (ρ.I 0) net 1)), (5, .int (nI i))]) hx hb d_Mo_plane_92 hl (by decide) rfl (fun ls hl => ?_)
                    obtain ⟨i_32, ei_32⟩ : ∃ y : Int32, y = (nI i) + 1 := ⟨_, rfl⟩
                    refine lv_iinc (v := i_32) (lv' := [(5, .int i_32), (4, .int 0), (0, .ref mo), (1, .int net), (2, .int la), (3, .int (moFault (ρ.I 0) net 1))]) hx hb d_Mo_plane_94 hl (k := 5) rfl (by rw [ei_32]; rfl) (by decide) rfl (fun ls hl => ?_)
                    refine lv_goto (tgt := 46) hx hb d_Mo_plane_97 (by decide) ?_
                    rw [nI_1] at ei_32
                    subst ei_32
                    try simp only [bI_ne0, bI_eq0, decide_eq_true_eq, decide_eq_false_iff_not, Bool.not_eq_false, Bool.not_eq_true, Decidable.not_not] at c_2
                    try simp only [bI_ne0, bI_eq0, decide_eq_true_eq, decide_eq_false_iff_not, Bool.not_eq_false, Bool.not_eq_true, Decidable.not_not] at c_5
                    try simp only [bI_ne0, bI_eq0, decide_eq_true_eq, decide_eq_false_iff_not, Bool.not_eq_false, Bool.not_eq_true, Decidable.not_not] at c_9
                    try simp only [bI_ne0, bI_eq0, decide_eq_true_eq, decide_eq_false_iff_not, Bool.not_eq_false, Bool.not_eq_true, Decidable.not_not] at c_11
                    try simp only [bI_ne0, bI_eq0, decide_eq_true_eq, decide_eq_false_iff_not, Bool.not_eq_false, Bool.not_eq_true, Decidable.not_not] at c_27
                    try simp only [bI_ne0, bI_eq0, decide_eq_true_eq, decide_eq_false_iff_not, Bool.not_eq_false, Bool.not_eq_true, Decidable.not_not] at c_29
                    try simp only [bI_ne0, bI_eq0, decide_eq_true_eq, decide_eq_false_iff_not, Bool.not_eq_false, Bool.not_eq_true, Decidable.not_not] at c_31
                    have hb9 : bI (anyF Pb 140 (i + 1 - 140)) = 0 := by
                      rw [show i + 1 - 140 = (i - 140) + 1 by omega, anyF_snoc, show 140 + (i - 140) = i by omega]
                      subst hPb
                      first | (simp [bI, moPlP, c_27, c_29, c_31]; done) | (simp_all [bI, moPlP]; done)
                    exact ih (i + 1)  _ _ _ (by omega) (by omega) (by omega) hV hS (lv_sub hl [2, 3, 4, 5, 1, 0] (by rw [hb9]; rfl))
                  · refine lv_iconst (v := 1) hx hb d_Mo_plane_87 (by decide) ?_
                    refine lv_goto (tgt := 92) hx hb d_Mo_plane_88 (by decide) ?_
                    refine lv_istore (lv' := [(4, .int 1), (0, .ref mo), (1, .int net), (2, .int la), (3, .int (moFault (ρ.I 0) net 1)), (5, .int (nI i))]) hx hb d_Mo_plane_92 hl (by decide) rfl (fun ls hl => ?_)
                    obtain ⟨i_33, ei_33⟩ : ∃ y : Int32, y = (nI i) + 1 := ⟨_, rfl⟩
                    refine lv_iinc (v := i_33) (lv' := [(5, .int i_33), (4, .int 1), (0, .ref mo), (1, .int net), (2, .int la), (3, .int (moFault (ρ.I 0) net 1))]) hx hb d_Mo_plane_94 hl (k := 5) rfl (by rw [ei_33]; rfl) (by decide) rfl (fun ls hl => ?_)
                    refine lv_goto (tgt := 46) hx hb d_Mo_plane_97 (by decide) ?_
                    rw [nI_1] at ei_33
                    subst ei_33
                    try simp only [bI_ne0, bI_eq0, decide_eq_true_eq, decide_eq_false_iff_not, Bool.not_eq_false, Bool.not_eq_true, Decidable.not_not] at c_2
                    try simp only [bI_ne0, bI_eq0, decide_eq_true_eq, decide_eq_false_iff_not, Bool.not_eq_false, Bool.not_eq_true, Decidable.not_not] at c_5
                    try simp only [bI_ne0, bI_eq0, decide_eq_true_eq, decide_eq_false_iff_not, Bool.not_eq_false, Bool.not_eq_true, Decidable.not_not] at c_9
                    try simp only [bI_ne0, bI_eq0, decide_eq_true_eq, decide_eq_false_iff_not, Bool.not_eq_false, Bool.not_eq_true, Decidable.not_not] at c_11
                    try simp only [bI_ne0, bI_eq0, decide_eq_true_eq, decide_eq_false_iff_not, Bool.not_eq_false, Bool.not_eq_true, Decidable.not_not] at c_27
                    try simp only [bI_ne0, bI_eq0, decide_eq_true_eq, decide_eq_false_iff_not, Bool.not_eq_false, Bool.not_eq_true, Decidable.not_not] at c_29
                    try simp only [bI_ne0, bI_eq0, decide_eq_true_eq, decide_eq_false_iff_not, Bool.not_eq_false, Bool.not_eq_true, Decidable.not_not] at c_31
                    have hb9 : bI (anyF Pb 140 (i + 1 - 140)) = 1 := by
                      rw [show i + 1 - 140 = (i - 140) + 1 by omega, anyF_snoc, show 140 + (i - 140) = i by omega]
                      subst hPb
                      first | (simp [bI, moPlP, c_27, c_29, c_31]; done) | (simp_all [bI, moPlP]; done)
                    exact ih (i + 1)  _ _ _ (by omega) (by omega) (by omega) hV hS (lv_sub hl [2, 3, 4, 5, 1, 0] (by rw [hb9]; rfl))
        exact loop_10 ((140 + n5) + 1 - 140) 140  _ _ _ (by omega) (by omega) (by omega) hV hS (lv_sub hl [3, 4, 5, 2, 1, 0] rfl)
      · refine lv_iconst (v := 0) hx hb d_Mo_plane_36 (by decide) ?_
        try simp only [bI_ne0, bI_eq0, decide_eq_true_eq, decide_eq_false_iff_not, Bool.not_eq_false, Bool.not_eq_true, Decidable.not_not] at c_2
        try simp only [bI_ne0, bI_eq0, decide_eq_true_eq, decide_eq_false_iff_not, Bool.not_eq_false, Bool.not_eq_true, Decidable.not_not] at c_5
        try simp only [bI_ne0, bI_eq0, decide_eq_true_eq, decide_eq_false_iff_not, Bool.not_eq_false, Bool.not_eq_true, Decidable.not_not] at c_9
        subst ef_6
        have hfin : moPlane ρ n5 n6 net la = (0, (ρ.ws 0 (moFault (ρ.I 0) net 1))) := by first | (simp only [moPlane, c_2, c_5, c_9, decide_true, decide_false, Bool.true_and, Bool.and_true, Bool.false_and, Bool.and_false, Bool.true_or, Bool.or_true, Bool.false_or, Bool.or_false, Bool.not_true, Bool.not_false, if_true, if_false, Bool.false_eq_true, Bool.true_eq_false, reduceIte, eq_self]; done) | (simp [moPlane, c_2, c_5, c_9]; done) | (simp_all [moPlane]; done)
        exact W.iret (v := 0) hx hb hr (fun t9 ht hW => ⟨⟨0, V_7, rfl, ⟨by rw [hfin]; exact hM_7, hR_7, by rw [hfin]⟩, mB_of ht hV⟩, hS.F ht⟩) hS.2.2 d_Mo_plane_37
    · refine lv_iconst (v := 1) hx hb d_Mo_plane_21 (by decide) ?_
      refine lv_goto (tgt := 26) hx hb d_Mo_plane_22 (by decide) ?_
      refine pf_Mo_100 hx hb hW hown hG hV hS hm_1 d_Mo_plane_26 (fun H locs hV hS => ?_)
      replace hV : hv D vwCl N0 (hu V mo (.inr (7, [.int 1, .int (ρ.s 1), .int (ρ.s 2), .int (ρ.s 3), .ref (ad 0), .ref (ad 1), .ref (ad 2), .ref (ad 3), .ref (ad 4), .ref (ad 5), .ref (ad 6), .ref (ad 7), .ref (ad 8), .int (ρ.s 4), .ref (ad 9), .ref (ad 10), .ref (ad 11), .ref (ad 12), .ref (ad 13), .ref (ad 14), .ref (ad 15), .ref (ad 16), .ref (ad 17), .ref (ad 18), .ref (ad 19), .ref (ad 20), .ref (ad 21), .ref (ad 22), .ref (ad 23), .ref (ad 24), .ref (ad 25)]))) H := hV
      generalize hV_V_34 : hu V mo (.inr (7, [.int 1, .int (ρ.s 1), .int (ρ.s 2), .int (ρ.s 3), .ref (ad 0), .ref (ad 1), .ref (ad 2), .ref (ad 3), .ref (ad 4), .ref (ad 5), .ref (ad 6), .ref (ad 7), .ref (ad 8), .int (ρ.s 4), .ref (ad 9), .ref (ad 10), .ref (ad 11), .ref (ad 12), .ref (ad 13), .ref (ad 14), .ref (ad 15), .ref (ad 16), .ref (ad 17), .ref (ad 18), .ref (ad 19), .ref (ad 20), .ref (ad 21), .ref (ad 22), .ref (ad 23), .ref (ad 24), .ref (ad 25)])) = V_34 at hV
      have hM_34 : mdOk k V_34 mo ad (ρ.ws 0 1) := by rw [← hV_V_34]; exact md_put hM 0 1
      have hR_34 : mdFr mo ad V V_34 := by rw [← hV_V_34]; exact (mdFr.rf (mo := mo) (ad := ad) (V := V)).m
      have hm_35 : V_34 mo = some (.inr (7, [.int 1, .int (ρ.s 1), .int (ρ.s 2), .int (ρ.s 3), .ref (ad 0), .ref (ad 1), .ref (ad 2), .ref (ad 3), .ref (ad 4), .ref (ad 5), .ref (ad 6), .ref (ad 7), .ref (ad 8), .int (ρ.s 4), .ref (ad 9), .ref (ad 10), .ref (ad 11), .ref (ad 12), .ref (ad 13), .ref (ad 14), .ref (ad 15), .ref (ad 16), .ref (ad 17), .ref (ad 18), .ref (ad 19), .ref (ad 20), .ref (ad 21), .ref (ad 22), .ref (ad 23), .ref (ad 24), .ref (ad 25)])) := hM_34.1
      have hm_35_0 : V_34 (ad 0) = some (eI k 8 (ρ.I 0)) := hM_34.a0
      have hm_35_1 : V_34 (ad 1) = some (eZ k 150 (ρ.I 1)) := hM_34.a1
      have hm_35_6 : V_34 (ad 6) = some (eI k 150 (ρ.I 6)) := hM_34.a6
      refine lv_aload_n hx hb d_Mo_plane_29 rfl (lv_at hl 1 rfl) ?_
      refine gf_Mo_100 hx hb hW hown hG hV hm_35 d_Mo_plane_30 ?_
      refine lv_if_eq (tgt := 38) hx hb d_Mo_plane_33 (by decide) (fun q => absurd q (by decide)) (fun _ => ?_)
      refine lv_iconst (v := 0) hx hb d_Mo_plane_36 (by decide) ?_
      try simp only [bI_ne0, bI_eq0, decide_eq_true_eq, decide_eq_false_iff_not, Bool.not_eq_false, Bool.not_eq_true, Decidable.not_not] at c_2
      try simp only [bI_ne0, bI_eq0, decide_eq_true_eq, decide_eq_false_iff_not, Bool.not_eq_false, Bool.not_eq_true, Decidable.not_not] at c_5
      have hfin : moPlane ρ n5 n6 net la = (0, (ρ.ws 0 1)) := by first | (simp only [moPlane, c_2, c_5, decide_true, decide_false, Bool.true_and, Bool.and_true, Bool.false_and, Bool.and_false, Bool.true_or, Bool.or_true, Bool.false_or, Bool.or_false, Bool.not_true, Bool.not_false, if_true, if_false, Bool.false_eq_true, Bool.true_eq_false, reduceIte, eq_self]; done) | (simp [moPlane, c_2, c_5]; done) | (simp_all [moPlane]; done)
      exact W.iret (v := 0) hx hb hr (fun t9 ht hW => ⟨⟨0, V_34, rfl, ⟨by rw [hfin]; exact hM_34, hR_34, by rw [hfin]⟩, mB_of ht hV⟩, hS.F ht⟩) hS.2.2 d_Mo_plane_37
set_option maxHeartbeats 4000000 in
set_option maxRecDepth 100000 in
/-- gap -/
theorem c_Mo_gap (l : Launch) (D : va_G) (N0 : Nat) (k : Nat → Nat) (V : HV) (mo : Nat) (ad : Nat → Nat) (ρ : MS) (hM : mdOk k V mo ad ρ) (v : Int32) : Met l y_Mo_gap (.code y_Mo_gap b_Mo_gap 3 (some .int) :: WS) ({ frames := 0, cells := 0, slots := 0, locals := 0 }) (mP D N0 k [.ref mo, .int v] V) (va_Qi (fun r V' => mdOk k V' mo ad (moGap ρ v).2 ∧ mdFr mo ad V V' ∧ r = (moGap ρ v).1) (mB D N0) (hA N0)) 0 0 (hA N0) := by
  refine Met.ofW (cc := b_Mo_gap) (maxL := 3) (ret := (some .int)) (by decide) rfl ?_
  intro p e s m args below meth c s₁ B hml hv0
  obtain ⟨rfl, hG, hV⟩ := hv0
  have hx := B.exec
  have hb := B.bytes
  have hr := B.returns
  have hts := atoms_spec (ws := .code y_Mo_gap b_Mo_gap 3 (some .int) :: WS) B.pre
  have hW : ∀ w ∈ WS, w.before _ s = true := fun w h => hts w (List.mem_cons_of_mem _ h)
  have hown : s.vm.findClass "BoardHouseModel" = some m.cls := findClass_of_methodNamed B.named
  have hlocks := B.notSynchronized
  have hS : va_S (hA N0) s.heap s.heap [] := va_S.rf
  have hl := lv_entry ([.ref mo, .int v]) (n := 3) (Nat.le_of_ble_eq_true rfl)
  rw [lg_entry_eq]
  generalize (lg_sl ([.ref mo, .int v]) ++ List.replicate (3 - (lg_sl ([.ref mo, .int v])).length) Slot.unset).toArray = ls at hl ⊢
  have hl : lv_has ls 3 [(0, .ref mo), (1, .int v)] := hl
  have hm_1 : V mo = some (.inr (7, [.int (ρ.s 0), .int (ρ.s 1), .int (ρ.s 2), .int (ρ.s 3), .ref (ad 0), .ref (ad 1), .ref (ad 2), .ref (ad 3), .ref (ad 4), .ref (ad 5), .ref (ad 6), .ref (ad 7), .ref (ad 8), .int (ρ.s 4), .ref (ad 9), .ref (ad 10), .ref (ad 11), .ref (ad 12), .ref (ad 13), .ref (ad 14), .ref (ad 15), .ref (ad 16), .ref (ad 17), .ref (ad 18), .ref (ad 19), .ref (ad 20), .ref (ad 21), .ref (ad 22), .ref (ad 23), .ref (ad 24), .ref (ad 25)])) := hM.1
  refine lv_aload_n hx hb d_Mo_gap_0 rfl (lv_at hl 0 rfl) ?_
  refine lv_iload_n hx hb d_Mo_gap_1 rfl (lv_at hl 1 rfl) ?_
  refine lv_if_lt (tgt := 10) hx hb d_Mo_gap_2 (by decide) (fun c_2 => ?_) (fun c_2 => ?_)
  · have c_2 := i_nle c_2
    refine lv_iconst (v := 1) hx hb d_Mo_gap_10 (by decide) ?_
    refine lv_goto (tgt := 15) hx hb d_Mo_gap_11 (by decide) ?_
    refine pf_Mo_100 hx hb hW hown hG hV hS hm_1 d_Mo_gap_15 (fun H locs hV hS => ?_)
    replace hV : hv D vwCl N0 (hu V mo (.inr (7, [.int 1, .int (ρ.s 1), .int (ρ.s 2), .int (ρ.s 3), .ref (ad 0), .ref (ad 1), .ref (ad 2), .ref (ad 3), .ref (ad 4), .ref (ad 5), .ref (ad 6), .ref (ad 7), .ref (ad 8), .int (ρ.s 4), .ref (ad 9), .ref (ad 10), .ref (ad 11), .ref (ad 12), .ref (ad 13), .ref (ad 14), .ref (ad 15), .ref (ad 16), .ref (ad 17), .ref (ad 18), .ref (ad 19), .ref (ad 20), .ref (ad 21), .ref (ad 22), .ref (ad 23), .ref (ad 24), .ref (ad 25)]))) H := hV
    generalize hV_V_3 : hu V mo (.inr (7, [.int 1, .int (ρ.s 1), .int (ρ.s 2), .int (ρ.s 3), .ref (ad 0), .ref (ad 1), .ref (ad 2), .ref (ad 3), .ref (ad 4), .ref (ad 5), .ref (ad 6), .ref (ad 7), .ref (ad 8), .int (ρ.s 4), .ref (ad 9), .ref (ad 10), .ref (ad 11), .ref (ad 12), .ref (ad 13), .ref (ad 14), .ref (ad 15), .ref (ad 16), .ref (ad 17), .ref (ad 18), .ref (ad 19), .ref (ad 20), .ref (ad 21), .ref (ad 22), .ref (ad 23), .ref (ad 24), .ref (ad 25)])) = V_3 at hV
    have hM_3 : mdOk k V_3 mo ad (ρ.ws 0 1) := by rw [← hV_V_3]; exact md_put hM 0 1
    have hR_3 : mdFr mo ad V V_3 := by rw [← hV_V_3]; exact (mdFr.rf (mo := mo) (ad := ad) (V := V)).m
    have hm_4 : V_3 mo = some (.inr (7, [.int 1, .int (ρ.s 1), .int (ρ.s 2), .int (ρ.s 3), .ref (ad 0), .ref (ad 1), .ref (ad 2), .ref (ad 3), .ref (ad 4), .ref (ad 5), .ref (ad 6), .ref (ad 7), .ref (ad 8), .int (ρ.s 4), .ref (ad 9), .ref (ad 10), .ref (ad 11), .ref (ad 12), .ref (ad 13), .ref (ad 14), .ref (ad 15), .ref (ad 16), .ref (ad 17), .ref (ad 18), .ref (ad 19), .ref (ad 20), .ref (ad 21), .ref (ad 22), .ref (ad 23), .ref (ad 24), .ref (ad 25)])) := hM_3.1
    refine lv_aload_n hx hb d_Mo_gap_18 rfl (lv_at hl 0 rfl) ?_
    refine gf_Mo_100 hx hb hW hown hG hV hm_4 d_Mo_gap_19 ?_
    refine lv_if_eq (tgt := 27) hx hb d_Mo_gap_22 (by decide) (fun q => absurd q (by decide)) (fun _ => ?_)
    refine lv_iconst (v := 0) hx hb d_Mo_gap_25 (by decide) ?_
    try simp only [bI_ne0, bI_eq0, decide_eq_true_eq, decide_eq_false_iff_not, Bool.not_eq_false, Bool.not_eq_true, Decidable.not_not] at c_2
    have hfin : moGap ρ v = (0, (ρ.ws 0 1)) := by first | (simp only [moGap, c_2, decide_true, decide_false, Bool.true_and, Bool.and_true, Bool.false_and, Bool.and_false, Bool.true_or, Bool.or_true, Bool.false_or, Bool.or_false, Bool.not_true, Bool.not_false, if_true, if_false, Bool.false_eq_true, Bool.true_eq_false, reduceIte, eq_self]; done) | (simp [moGap, c_2]; done) | (simp_all [moGap]; done)
    exact W.iret (v := 0) hx hb hr (fun t9 ht hW => ⟨⟨0, V_3, rfl, ⟨by rw [hfin]; exact hM_3, hR_3, by rw [hfin]⟩, mB_of ht hV⟩, hS.F ht⟩) hS.2.2 d_Mo_gap_26
  · have c_2 := i_le c_2
    refine lv_iload_n hx hb d_Mo_gap_5 rfl (lv_at hl 1 rfl) ?_
    refine lv_iconst (v := 4) hx hb d_Mo_gap_6 (by decide) ?_
    refine lv_icmp_le (tgt := 14) hx hb d_Mo_gap_7 (by decide) (fun c_5 => ?_) (fun c_5 => ?_)
    · refine lv_iconst (v := 0) hx hb d_Mo_gap_14 (by decide) ?_
      refine pf_Mo_100 hx hb hW hown hG hV hS hm_1 d_Mo_gap_15 (fun H locs hV hS => ?_)
      replace hV : hv D vwCl N0 (hu V mo (.inr (7, [.int 0, .int (ρ.s 1), .int (ρ.s 2), .int (ρ.s 3), .ref (ad 0), .ref (ad 1), .ref (ad 2), .ref (ad 3), .ref (ad 4), .ref (ad 5), .ref (ad 6), .ref (ad 7), .ref (ad 8), .int (ρ.s 4), .ref (ad 9), .ref (ad 10), .ref (ad 11), .ref (ad 12), .ref (ad 13), .ref (ad 14), .ref (ad 15), .ref (ad 16), .ref (ad 17), .ref (ad 18), .ref (ad 19), .ref (ad 20), .ref (ad 21), .ref (ad 22), .ref (ad 23), .ref (ad 24), .ref (ad 25)]))) H := hV
      generalize hV_V_6 : hu V mo (.inr (7, [.int 0, .int (ρ.s 1), .int (ρ.s 2), .int (ρ.s 3), .ref (ad 0), .ref (ad 1), .ref (ad 2), .ref (ad 3), .ref (ad 4), .ref (ad 5), .ref (ad 6), .ref (ad 7), .ref (ad 8), .int (ρ.s 4), .ref (ad 9), .ref (ad 10), .ref (ad 11), .ref (ad 12), .ref (ad 13), .ref (ad 14), .ref (ad 15), .ref (ad 16), .ref (ad 17), .ref (ad 18), .ref (ad 19), .ref (ad 20), .ref (ad 21), .ref (ad 22), .ref (ad 23), .ref (ad 24), .ref (ad 25)])) = V_6 at hV
      have hM_6 : mdOk k V_6 mo ad (ρ.ws 0 0) := by rw [← hV_V_6]; exact md_put hM 0 0
      have hR_6 : mdFr mo ad V V_6 := by rw [← hV_V_6]; exact (mdFr.rf (mo := mo) (ad := ad) (V := V)).m
      have hm_7 : V_6 mo = some (.inr (7, [.int 0, .int (ρ.s 1), .int (ρ.s 2), .int (ρ.s 3), .ref (ad 0), .ref (ad 1), .ref (ad 2), .ref (ad 3), .ref (ad 4), .ref (ad 5), .ref (ad 6), .ref (ad 7), .ref (ad 8), .int (ρ.s 4), .ref (ad 9), .ref (ad 10), .ref (ad 11), .ref (ad 12), .ref (ad 13), .ref (ad 14), .ref (ad 15), .ref (ad 16), .ref (ad 17), .ref (ad 18), .ref (ad 19), .ref (ad 20), .ref (ad 21), .ref (ad 22), .ref (ad 23), .ref (ad 24), .ref (ad 25)])) := hM_6.1
      refine lv_aload_n hx hb d_Mo_gap_18 rfl (lv_at hl 0 rfl) ?_
      refine gf_Mo_100 hx hb hW hown hG hV hm_7 d_Mo_gap_19 ?_
      refine lv_if_eq (tgt := 27) hx hb d_Mo_gap_22 (by decide) (fun _ => ?_) (fun q => absurd q (by decide))
      refine lv_aload_n hx hb d_Mo_gap_27 rfl (lv_at hl 0 rfl) ?_
      refine gf_Mo_97 hx hb hW hown hG hV hm_7 d_Mo_gap_28 ?_
      refine lv_istore_n (lv' := [(2, .int (ρ.s 2)), (0, .ref mo), (1, .int v)]) hx hb d_Mo_gap_31 rfl hl (by decide) rfl (fun ls hl => ?_)
      refine lv_aload_n hx hb d_Mo_gap_32 rfl (lv_at hl 1 rfl) ?_
      refine lv_iload_n hx hb d_Mo_gap_33 rfl (lv_at hl 2 rfl) ?_
      refine pf_Mo_97 hx hb hW hown hG hV hS hm_7 d_Mo_gap_34 (fun H locs hV hS => ?_)
      replace hV : hv D vwCl N0 (hu V_6 mo (.inr (7, [.int 0, .int (ρ.s 1), .int v, .int (ρ.s 3), .ref (ad 0), .ref (ad 1), .ref (ad 2), .ref (ad 3), .ref (ad 4), .ref (ad 5), .ref (ad 6), .ref (ad 7), .ref (ad 8), .int (ρ.s 4), .ref (ad 9), .ref (ad 10), .ref (ad 11), .ref (ad 12), .ref (ad 13), .ref (ad 14), .ref (ad 15), .ref (ad 16), .ref (ad 17), .ref (ad 18), .ref (ad 19), .ref (ad 20), .ref (ad 21), .ref (ad 22), .ref (ad 23), .ref (ad 24), .ref (ad 25)]))) H := hV
      generalize hV_V_8 : hu V_6 mo (.inr (7, [.int 0, .int (ρ.s 1), .int v, .int (ρ.s 3), .ref (ad 0), .ref (ad 1), .ref (ad 2), .ref (ad 3), .ref (ad 4), .ref (ad 5), .ref (ad 6), .ref (ad 7), .ref (ad 8), .int (ρ.s 4), .ref (ad 9), .ref (ad 10), .ref (ad 11), .ref (ad 12), .ref (ad 13), .ref (ad 14), .ref (ad 15), .ref (ad 16), .ref (ad 17), .ref (ad 18), .ref (ad 19), .ref (ad 20), .ref (ad 21), .ref (ad 22), .ref (ad 23), .ref (ad 24), .ref (ad 25)])) = V_8 at hV
      have hM_8 : mdOk k V_8 mo ad ((ρ.ws 0 0).ws 2 v) := by rw [← hV_V_8]; exact md_put hM_6 2 v
      have hR_8 : mdFr mo ad V V_8 := by rw [← hV_V_8]; exact hR_6.m
      have hm_9 : V_8 mo = some (.inr (7, [.int 0, .int (ρ.s 1), .int v, .int (ρ.s 3), .ref (ad 0), .ref (ad 1), .ref (ad 2), .ref (ad 3), .ref (ad 4), .ref (ad 5), .ref (ad 6), .ref (ad 7), .ref (ad 8), .int (ρ.s 4), .ref (ad 9), .ref (ad 10), .ref (ad 11), .ref (ad 12), .ref (ad 13), .ref (ad 14), .ref (ad 15), .ref (ad 16), .ref (ad 17), .ref (ad 18), .ref (ad 19), .ref (ad 20), .ref (ad 21), .ref (ad 22), .ref (ad 23), .ref (ad 24), .ref (ad 25)])) := hM_8.1
      refine lv_iload_n hx hb d_Mo_gap_37 rfl (lv_at hl 0 rfl) ?_
      try simp only [bI_ne0, bI_eq0, decide_eq_true_eq, decide_eq_false_iff_not, Bool.not_eq_false, Bool.not_eq_true, Decidable.not_not] at c_2
      try simp only [bI_ne0, bI_eq0, decide_eq_true_eq, decide_eq_false_iff_not, Bool.not_eq_false, Bool.not_eq_true, Decidable.not_not] at c_5
      have hfin : moGap ρ v = ((ρ.s 2), ((ρ.ws 0 0).ws 2 v)) := by first | (simp only [moGap, c_2, c_5, decide_true, decide_false, Bool.true_and, Bool.and_true, Bool.false_and, Bool.and_false, Bool.true_or, Bool.or_true, Bool.false_or, Bool.or_false, Bool.not_true, Bool.not_false, if_true, if_false, Bool.false_eq_true, Bool.true_eq_false, reduceIte, eq_self]; done) | (simp [moGap, c_2, c_5]; done) | (simp_all [moGap]; done)
      exact W.iret (v := (ρ.s 2)) hx hb hr (fun t9 ht hW => ⟨⟨(ρ.s 2), V_8, rfl, ⟨by rw [hfin]; exact hM_8, hR_8, by rw [hfin]⟩, mB_of ht hV⟩, hS.F ht⟩) hS.2.2 d_Mo_gap_38
    · refine lv_iconst (v := 1) hx hb d_Mo_gap_10 (by decide) ?_
      refine lv_goto (tgt := 15) hx hb d_Mo_gap_11 (by decide) ?_
      refine pf_Mo_100 hx hb hW hown hG hV hS hm_1 d_Mo_gap_15 (fun H locs hV hS => ?_)
      replace hV : hv D vwCl N0 (hu V mo (.inr (7, [.int 1, .int (ρ.s 1), .int (ρ.s 2), .int (ρ.s 3), .ref (ad 0), .ref (ad 1), .ref (ad 2), .ref (ad 3), .ref (ad 4), .ref (ad 5), .ref (ad 6), .ref (ad 7), .ref (ad 8), .int (ρ.s 4), .ref (ad 9), .ref (ad 10), .ref (ad 11), .ref (ad 12), .ref (ad 13), .ref (ad 14), .ref (ad 15), .ref (ad 16), .ref (ad 17), .ref (ad 18), .ref (ad 19), .ref (ad 20), .ref (ad 21), .ref (ad 22), .ref (ad 23), .ref (ad 24), .ref (ad 25)]))) H := hV
      generalize hV_V_10 : hu V mo (.inr (7, [.int 1, .int (ρ.s 1), .int (ρ.s 2), .int (ρ.s 3), .ref (ad 0), .ref (ad 1), .ref (ad 2), .ref (ad 3), .ref (ad 4), .ref (ad 5), .ref (ad 6), .ref (ad 7), .ref (ad 8), .int (ρ.s 4), .ref (ad 9), .ref (ad 10), .ref (ad 11), .ref (ad 12), .ref (ad 13), .ref (ad 14), .ref (ad 15), .ref (ad 16), .ref (ad 17), .ref (ad 18), .ref (ad 19), .ref (ad 20), .ref (ad 21), .ref (ad 22), .ref (ad 23), .ref (ad 24), .ref (ad 25)])) = V_10 at hV
      have hM_10 : mdOk k V_10 mo ad (ρ.ws 0 1) := by rw [← hV_V_10]; exact md_put hM 0 1
      have hR_10 : mdFr mo ad V V_10 := by rw [← hV_V_10]; exact (mdFr.rf (mo := mo) (ad := ad) (V := V)).m
      have hm_11 : V_10 mo = some (.inr (7, [.int 1, .int (ρ.s 1), .int (ρ.s 2), .int (ρ.s 3), .ref (ad 0), .ref (ad 1), .ref (ad 2), .ref (ad 3), .ref (ad 4), .ref (ad 5), .ref (ad 6), .ref (ad 7), .ref (ad 8), .int (ρ.s 4), .ref (ad 9), .ref (ad 10), .ref (ad 11), .ref (ad 12), .ref (ad 13), .ref (ad 14), .ref (ad 15), .ref (ad 16), .ref (ad 17), .ref (ad 18), .ref (ad 19), .ref (ad 20), .ref (ad 21), .ref (ad 22), .ref (ad 23), .ref (ad 24), .ref (ad 25)])) := hM_10.1
      refine lv_aload_n hx hb d_Mo_gap_18 rfl (lv_at hl 0 rfl) ?_
      refine gf_Mo_100 hx hb hW hown hG hV hm_11 d_Mo_gap_19 ?_
      refine lv_if_eq (tgt := 27) hx hb d_Mo_gap_22 (by decide) (fun q => absurd q (by decide)) (fun _ => ?_)
      refine lv_iconst (v := 0) hx hb d_Mo_gap_25 (by decide) ?_
      try simp only [bI_ne0, bI_eq0, decide_eq_true_eq, decide_eq_false_iff_not, Bool.not_eq_false, Bool.not_eq_true, Decidable.not_not] at c_2
      try simp only [bI_ne0, bI_eq0, decide_eq_true_eq, decide_eq_false_iff_not, Bool.not_eq_false, Bool.not_eq_true, Decidable.not_not] at c_5
      have hfin : moGap ρ v = (0, (ρ.ws 0 1)) := by first | (simp only [moGap, c_2, c_5, decide_true, decide_false, Bool.true_and, Bool.and_true, Bool.false_and, Bool.and_false, Bool.true_or, Bool.or_true, Bool.false_or, Bool.or_false, Bool.not_true, Bool.not_false, if_true, if_false, Bool.false_eq_true, Bool.true_eq_false, reduceIte, eq_self]; done) | (simp [moGap, c_2, c_5]; done) | (simp_all [moGap]; done)
      exact W.iret (v := 0) hx hb hr (fun t9 ht hW => ⟨⟨0, V_10, rfl, ⟨by rw [hfin]; exact hM_10, hR_10, by rw [hfin]⟩, mB_of ht hV⟩, hS.F ht⟩) hS.2.2 d_Mo_gap_26
set_option maxHeartbeats 4000000 in
set_option maxRecDepth 100000 in
/-- isOf -/
theorem c_Mo_isOf (l : Launch) (D : va_G) (N0 : Nat) (k : Nat → Nat) (V : HV) (mo : Nat) (ad : Nat → Nat) (ρ : MS) (hM : mdOk k V mo ad ρ) (t : Nat) (ht : t < 150) (pa : Int32) : Met l y_Mo_isOf (.code y_Mo_isOf b_Mo_isOf 3 (some .boolean) :: WS) ({ frames := 0, cells := 0, slots := 0, locals := 0 }) (mP D N0 k [.ref mo, .int (nI t), .int pa] V) (va_Qi (fun r V' => r = bI (moOf ρ.I t pa) ∧ V' = V) (mB D N0) (hA N0)) 0 0 (hA N0) := by
  refine Met.ofW (cc := b_Mo_isOf) (maxL := 3) (ret := (some .boolean)) (by decide) rfl ?_
  intro p e s m args below meth c s₁ B hml hv0
  obtain ⟨rfl, hG, hV⟩ := hv0
  have hx := B.exec
  have hb := B.bytes
  have hr := B.returns
  have hts := atoms_spec (ws := .code y_Mo_isOf b_Mo_isOf 3 (some .boolean) :: WS) B.pre
  have hW : ∀ w ∈ WS, w.before _ s = true := fun w h => hts w (List.mem_cons_of_mem _ h)
  have hown : s.vm.findClass "BoardHouseModel" = some m.cls := findClass_of_methodNamed B.named
  have hlocks := B.notSynchronized
  have hS : va_S (hA N0) s.heap s.heap [] := va_S.rf
  have hl := lv_entry ([.ref mo, .int (nI t), .int pa]) (n := 3) (Nat.le_of_ble_eq_true rfl)
  rw [lg_entry_eq]
  generalize (lg_sl ([.ref mo, .int (nI t), .int pa]) ++ List.replicate (3 - (lg_sl ([.ref mo, .int (nI t), .int pa])).length) Slot.unset).toArray = ls at hl ⊢
  have hl : lv_has ls 3 [(0, .ref mo), (1, .int (nI t)), (2, .int pa)] := hl
  have hm_1 : V mo = some (.inr (7, [.int (ρ.s 0), .int (ρ.s 1), .int (ρ.s 2), .int (ρ.s 3), .ref (ad 0), .ref (ad 1), .ref (ad 2), .ref (ad 3), .ref (ad 4), .ref (ad 5), .ref (ad 6), .ref (ad 7), .ref (ad 8), .int (ρ.s 4), .ref (ad 9), .ref (ad 10), .ref (ad 11), .ref (ad 12), .ref (ad 13), .ref (ad 14), .ref (ad 15), .ref (ad 16), .ref (ad 17), .ref (ad 18), .ref (ad 19), .ref (ad 20), .ref (ad 21), .ref (ad 22), .ref (ad 23), .ref (ad 24), .ref (ad 25)])) := hM.1
  have hm_1_1 : V (ad 1) = some (eZ k 150 (ρ.I 1)) := hM.a1
  have hm_1_8 : V (ad 8) = some (eI k 150 (ρ.I 8)) := hM.a8
  refine lv_iload_n hx hb d_Mo_isOf_0 rfl (lv_at hl 1 rfl) ?_
  refine lv_bipush (v := 20) hx hb d_Mo_isOf_1 (by decide) ?_
  refine lv_icmp_lt (tgt := 35) hx hb d_Mo_isOf_3 (by decide) (fun c_2 => ?_) (fun c_2 => ?_)
  · have c_2 := i_nle c_2
    refine lv_iconst (v := 0) hx hb d_Mo_isOf_35 (by decide) ?_
    try simp only [bI_ne0, bI_eq0] at c_2
    exact W.zret (v := 0) hx hb hr rfl (fun t9 ht hW => ⟨⟨0, V, rfl, ⟨by first | (simp [bI, moOf, c_2]; done) | (simp_all [bI, moOf]; done), rfl⟩, mB_of ht hV⟩, hS.F ht⟩) hS.2.2 d_Mo_isOf_36
  · have c_2 := i_le c_2
    refine lv_iload_n hx hb d_Mo_isOf_6 rfl (lv_at hl 1 rfl) ?_
    refine lv_bipush (v := 80) hx hb d_Mo_isOf_7 (by decide) ?_
    refine lv_icmp_ge (tgt := 35) hx hb d_Mo_isOf_9 (by decide) (fun c_3 => ?_) (fun c_3 => ?_)
    · refine lv_iconst (v := 0) hx hb d_Mo_isOf_35 (by decide) ?_
      try simp only [bI_ne0, bI_eq0] at c_2
      try simp only [bI_ne0, bI_eq0] at c_3
      exact W.zret (v := 0) hx hb hr rfl (fun t9 ht hW => ⟨⟨0, V, rfl, ⟨by first | (simp [bI, moOf, c_2, c_3]; done) | (simp_all [bI, moOf]; done), rfl⟩, mB_of ht hV⟩, hS.F ht⟩) hS.2.2 d_Mo_isOf_36
    · refine lv_aload_n hx hb d_Mo_isOf_12 rfl (lv_at hl 0 rfl) ?_
      refine gf_Mo_13 hx hb hW hown hG hV hm_1 d_Mo_isOf_13 ?_
      refine lv_iload_n hx hb d_Mo_isOf_16 rfl (lv_at hl 1 rfl) ?_
      refine hv_zald hx hb hG.K hV 2 hm_1_1 rfl (vp_in_nI (by omega) (by omega)) d_Mo_isOf_17 ?_
      rw [nI_clamp (by omega)]
      refine lv_if_eq (tgt := 35) hx hb d_Mo_isOf_18 (by decide) (fun c_4 => ?_) (fun c_4 => ?_)
      · refine lv_iconst (v := 0) hx hb d_Mo_isOf_35 (by decide) ?_
        try simp only [bI_ne0, bI_eq0] at c_2
        try simp only [bI_ne0, bI_eq0] at c_3
        try simp only [bI_ne0, bI_eq0] at c_4
        exact W.zret (v := 0) hx hb hr rfl (fun t9 ht hW => ⟨⟨0, V, rfl, ⟨by first | (simp [bI, moOf, c_2, c_3, c_4]; done) | (simp_all [bI, moOf]; done), rfl⟩, mB_of ht hV⟩, hS.F ht⟩) hS.2.2 d_Mo_isOf_36
      · refine lv_aload_n hx hb d_Mo_isOf_21 rfl (lv_at hl 0 rfl) ?_
        refine gf_Mo_35 hx hb hW hown hG hV hm_1 d_Mo_isOf_22 ?_
        refine lv_iload_n hx hb d_Mo_isOf_25 rfl (lv_at hl 1 rfl) ?_
        refine hv_iald hx hb hG.K hV 0 hm_1_8 rfl (vp_in_nI (by omega) (by omega)) d_Mo_isOf_26 ?_
        rw [nI_clamp (by omega)]
        refine lv_iload_n hx hb d_Mo_isOf_27 rfl (lv_at hl 2 rfl) ?_
        refine lv_icmp_ne (tgt := 35) hx hb d_Mo_isOf_28 (by decide) (fun c_5 => ?_) (fun c_5 => ?_)
        · refine lv_iconst (v := 0) hx hb d_Mo_isOf_35 (by decide) ?_
          try simp only [bI_ne0, bI_eq0] at c_2
          try simp only [bI_ne0, bI_eq0] at c_3
          try simp only [bI_ne0, bI_eq0] at c_4
          try simp only [bI_ne0, bI_eq0] at c_5
          exact W.zret (v := 0) hx hb hr rfl (fun t9 ht hW => ⟨⟨0, V, rfl, ⟨by first | (simp [bI, moOf, c_2, c_3, c_4, c_5]; done) | (simp_all [bI, moOf]; done), rfl⟩, mB_of ht hV⟩, hS.F ht⟩) hS.2.2 d_Mo_isOf_36
        · refine lv_iconst (v := 1) hx hb d_Mo_isOf_31 (by decide) ?_
          refine lv_goto (tgt := 36) hx hb d_Mo_isOf_32 (by decide) ?_
          try simp only [bI_ne0, bI_eq0] at c_2
          try simp only [bI_ne0, bI_eq0] at c_3
          try simp only [bI_ne0, bI_eq0] at c_4
          try simp only [bI_ne0, bI_eq0] at c_5
          exact W.zret (v := 1) hx hb hr rfl (fun t9 ht hW => ⟨⟨1, V, rfl, ⟨by first | (simp [bI, moOf, c_2, c_3, c_4, c_5]; done) | (simp_all [bI, moOf]; done), rfl⟩, mB_of ht hV⟩, hS.F ht⟩) hS.2.2 d_Mo_isOf_36
set_option maxHeartbeats 4000000 in
set_option maxRecDepth 100000 in
/-- thingFault -/
theorem c_Mo_thingFault (l : Launch) (D : va_G) (N0 : Nat) (k : Nat → Nat) (V : HV) (mo : Nat) (ad : Nat → Nat) (ρ : MS) (hM : mdOk k V mo ad ρ) (h : Int32) : Met l y_Mo_thingFault (.code y_Mo_thingFault b_Mo_thingFault 3 (some .int) :: WS) ({ frames := 1, cells := 0, slots := 0, locals := 22 }) (mP D N0 k [.ref mo, .int h] V) (va_Qi (fun r V' => r = moTF (ρ.I 0) h ∧ V' = V) (mB D N0) (hA N0)) 0 0 (hA N0) := by
  refine Met.ofW (cc := b_Mo_thingFault) (maxL := 3) (ret := (some .int)) (by decide) rfl ?_
  intro p e s m args below meth c s₁ B hml hv0
  obtain ⟨rfl, hG, hV⟩ := hv0
  have hx := B.exec
  have hb := B.bytes
  have hr := B.returns
  have hts := atoms_spec (ws := .code y_Mo_thingFault b_Mo_thingFault 3 (some .int) :: WS) B.pre
  have hW : ∀ w ∈ WS, w.before _ s = true := fun w h => hts w (List.mem_cons_of_mem _ h)
  have hown : s.vm.findClass "BoardHouseModel" = some m.cls := findClass_of_methodNamed B.named
  have hlocks := B.notSynchronized
  have hS : va_S (hA N0) s.heap s.heap [] := va_S.rf
  have hl := lv_entry ([.ref mo, .int h]) (n := 3) (Nat.le_of_ble_eq_true rfl)
  rw [lg_entry_eq]
  generalize (lg_sl ([.ref mo, .int h]) ++ List.replicate (3 - (lg_sl ([.ref mo, .int h])).length) Slot.unset).toArray = ls at hl ⊢
  have hl : lv_has ls 3 [(0, .ref mo), (1, .int h)] := hl
  have hm_1 : V mo = some (.inr (7, [.int (ρ.s 0), .int (ρ.s 1), .int (ρ.s 2), .int (ρ.s 3), .ref (ad 0), .ref (ad 1), .ref (ad 2), .ref (ad 3), .ref (ad 4), .ref (ad 5), .ref (ad 6), .ref (ad 7), .ref (ad 8), .int (ρ.s 4), .ref (ad 9), .ref (ad 10), .ref (ad 11), .ref (ad 12), .ref (ad 13), .ref (ad 14), .ref (ad 15), .ref (ad 16), .ref (ad 17), .ref (ad 18), .ref (ad 19), .ref (ad 20), .ref (ad 21), .ref (ad 22), .ref (ad 23), .ref (ad 24), .ref (ad 25)])) := hM.1
  refine lv_iload_n hx hb d_Mo_thingFault_0 rfl (lv_at hl 1 rfl) ?_
  refine lv_sipush (v := 1000) hx hb d_Mo_thingFault_1 (by decide) ?_
  refine lv_idiv hx hb d_Mo_thingFault_4 (by decide) ?_
  refine lv_istore_n (lv' := [(2, .int (h / 1000)), (0, .ref mo), (1, .int h)]) hx hb d_Mo_thingFault_5 rfl hl (by decide) rfl (fun ls hl => ?_)
  refine lv_aload_n hx hb d_Mo_thingFault_6 rfl (lv_at hl 1 rfl) ?_
  refine lv_iload_n hx hb d_Mo_thingFault_7 rfl (lv_at hl 2 rfl) ?_
  refine rc_i (va_runV (As := [.int h]) (rest := []) ⟨hx, hb, hml, hown, hts⟩ (c_Mo_isGiven l D N0 k V mo ad ρ hM h) (cwV 1 hts (gi_V wm_Mo_110 wv_Mo_isGiven ws_Mo_isGiven wi_Mo wc_Mo_isGiven) rfl rfl rfl (by decide +kernel) ⟨Nat.le_of_ble_eq_true rfl, Nat.le_of_ble_eq_true rfl⟩) (mP.preV hG hS hV hm_1 rfl) rfl rfl hl.1 rfl (lv_room (Nat.le_of_ble_eq_true rfl)) d_Mo_thingFault_8 ⟨Nat.le_of_ble_eq_true rfl, Nat.le_of_ble_eq_true rfl⟩) hS (fun H locs hV hS => ?_)
  refine W.eq (g2 := F0 m 11 ls [.int (bI (gvOk (ρ.I 0) h))]) rfl ?_
  refine lv_if_ne (tgt := 18) hx hb d_Mo_thingFault_11 (by decide) (fun c_2 => ?_) (fun c_2 => ?_)
  · refine lv_iload_n hx hb d_Mo_thingFault_18 rfl (lv_at hl 0 rfl) ?_
    refine lv_iconst (v := 2) hx hb d_Mo_thingFault_19 (by decide) ?_
    refine lv_icmp_lt (tgt := 28) hx hb d_Mo_thingFault_20 (by decide) (fun c_3 => ?_) (fun c_3 => ?_)
    · have c_3 := i_nle c_3
      refine lv_iconst (v := 2) hx hb d_Mo_thingFault_28 (by decide) ?_
      refine lv_goto (tgt := 33) hx hb d_Mo_thingFault_29 (by decide) ?_
      try simp only [bI_ne0, bI_eq0] at c_2
      try simp only [bI_ne0, bI_eq0] at c_3
      exact W.iret (v := 2) hx hb hr (fun t9 ht hW => ⟨⟨2, V, rfl, ⟨by first | (simp [bI, moTF, c_2, c_3]; done) | (simp_all [bI, moTF]; done), rfl⟩, mB_of ht hV⟩, hS.F ht⟩) hS.2.2 d_Mo_thingFault_33
    · have c_3 := i_le c_3
      refine lv_iload_n hx hb d_Mo_thingFault_23 rfl (lv_at hl 0 rfl) ?_
      refine lv_iconst (v := 5) hx hb d_Mo_thingFault_24 (by decide) ?_
      refine lv_icmp_le (tgt := 32) hx hb d_Mo_thingFault_25 (by decide) (fun c_4 => ?_) (fun c_4 => ?_)
      · refine lv_iconst (v := 0) hx hb d_Mo_thingFault_32 (by decide) ?_
        try simp only [bI_ne0, bI_eq0] at c_2
        try simp only [bI_ne0, bI_eq0] at c_3
        try simp only [bI_ne0, bI_eq0] at c_4
        exact W.iret (v := 0) hx hb hr (fun t9 ht hW => ⟨⟨0, V, rfl, ⟨by first | (simp [bI, moTF, c_2, c_3, c_4]; done) | (simp_all [bI, moTF]; done), rfl⟩, mB_of ht hV⟩, hS.F ht⟩) hS.2.2 d_Mo_thingFault_33
      · refine lv_iconst (v := 2) hx hb d_Mo_thingFault_28 (by decide) ?_
        refine lv_goto (tgt := 33) hx hb d_Mo_thingFault_29 (by decide) ?_
        try simp only [bI_ne0, bI_eq0] at c_2
        try simp only [bI_ne0, bI_eq0] at c_3
        try simp only [bI_ne0, bI_eq0] at c_4
        exact W.iret (v := 2) hx hb hr (fun t9 ht hW => ⟨⟨2, V, rfl, ⟨by first | (simp [bI, moTF, c_2, c_3, c_4]; done) | (simp_all [bI, moTF]; done), rfl⟩, mB_of ht hV⟩, hS.F ht⟩) hS.2.2 d_Mo_thingFault_33
  · refine lv_iconst (v := 1) hx hb d_Mo_thingFault_14 (by decide) ?_
    refine lv_goto (tgt := 33) hx hb d_Mo_thingFault_15 (by decide) ?_
    try simp only [bI_ne0, bI_eq0] at c_2
    exact W.iret (v := 1) hx hb hr (fun t9 ht hW => ⟨⟨1, V, rfl, ⟨by first | (simp [bI, moTF, c_2]; done) | (simp_all [bI, moTF]; done), rfl⟩, mB_of ht hV⟩, hS.F ht⟩) hS.2.2 d_Mo_thingFault_33
set_option maxHeartbeats 4000000 in
set_option maxRecDepth 100000 in
/-- actFault -/
theorem c_Mo_actFault (l : Launch) (D : va_G) (N0 : Nat) (k : Nat → Nat) (V : HV) (mo : Nat) (ad : Nat → Nat) (ρ : MS) (hM : mdOk k V mo ad ρ) (h : Int32) (hGm : moG ρ) : Met l y_Mo_actFault (.code y_Mo_actFault b_Mo_actFault 3 (some .int) :: WS) ({ frames := 2, cells := 0, slots := 0, locals := 44 }) (mP D N0 k [.ref mo, .int h] V) (va_Qi (fun r V' => r = moAF ρ h ∧ V' = V) (mB D N0) (hA N0)) 0 0 (hA N0) := by
  refine Met.ofW (cc := b_Mo_actFault) (maxL := 3) (ret := (some .int)) (by decide) rfl ?_
  intro p e s m args below meth c s₁ B hml hv0
  obtain ⟨rfl, hG, hV⟩ := hv0
  have hx := B.exec
  have hb := B.bytes
  have hr := B.returns
  have hts := atoms_spec (ws := .code y_Mo_actFault b_Mo_actFault 3 (some .int) :: WS) B.pre
  have hW : ∀ w ∈ WS, w.before _ s = true := fun w h => hts w (List.mem_cons_of_mem _ h)
  have hown : s.vm.findClass "BoardHouseModel" = some m.cls := findClass_of_methodNamed B.named
  have hlocks := B.notSynchronized
  have hS : va_S (hA N0) s.heap s.heap [] := va_S.rf
  have hl := lv_entry ([.ref mo, .int h]) (n := 3) (Nat.le_of_ble_eq_true rfl)
  rw [lg_entry_eq]
  generalize (lg_sl ([.ref mo, .int h]) ++ List.replicate (3 - (lg_sl ([.ref mo, .int h])).length) Slot.unset).toArray = ls at hl ⊢
  have hl : lv_has ls 3 [(0, .ref mo), (1, .int h)] := hl
  have hm_1 : V mo = some (.inr (7, [.int (ρ.s 0), .int (ρ.s 1), .int (ρ.s 2), .int (ρ.s 3), .ref (ad 0), .ref (ad 1), .ref (ad 2), .ref (ad 3), .ref (ad 4), .ref (ad 5), .ref (ad 6), .ref (ad 7), .ref (ad 8), .int (ρ.s 4), .ref (ad 9), .ref (ad 10), .ref (ad 11), .ref (ad 12), .ref (ad 13), .ref (ad 14), .ref (ad 15), .ref (ad 16), .ref (ad 17), .ref (ad 18), .ref (ad 19), .ref (ad 20), .ref (ad 21), .ref (ad 22), .ref (ad 23), .ref (ad 24), .ref (ad 25)])) := hM.1
  have hm_1_9 : V (ad 9) = some (eZ k 10 (ρ.I 9)) := hM.a9
  refine lv_aload_n hx hb d_Mo_actFault_0 rfl (lv_at hl 0 rfl) ?_
  refine lv_iload_n hx hb d_Mo_actFault_1 rfl (lv_at hl 1 rfl) ?_
  refine lv_bipush (v := 6) hx hb d_Mo_actFault_2 (by decide) ?_
  refine rc_i (va_runV (As := [.int h, .int 6]) (rest := []) ⟨hx, hb, hml, hown, hts⟩ (c_Mo_fault l D N0 k V mo ad ρ hM h 6) (cwV 2 hts (gi_V wm_Mo_176 wv_Mo_fault ws_Mo_fault wi_Mo wc_Mo_fault) rfl rfl rfl (by decide +kernel) ⟨Nat.le_of_ble_eq_true rfl, Nat.le_of_ble_eq_true rfl⟩) (mP.preV hG hS hV hm_1 rfl) rfl rfl hl.1 rfl (lv_room (Nat.le_of_ble_eq_true rfl)) d_Mo_actFault_4 ⟨Nat.le_of_ble_eq_true rfl, Nat.le_of_ble_eq_true rfl⟩) hS (fun H locs hV hS => ?_)
  refine W.eq (g2 := F0 m 7 ls [.int (moFault (ρ.I 0) h 6)]) rfl ?_
  refine lv_istore_n (lv' := [(2, .int (moFault (ρ.I 0) h 6)), (0, .ref mo), (1, .int h)]) hx hb d_Mo_actFault_7 rfl hl (by decide) rfl (fun ls hl => ?_)
  refine lv_iload_n hx hb d_Mo_actFault_8 rfl (lv_at hl 0 rfl) ?_
  refine lv_if_ne (tgt := 29) hx hb d_Mo_actFault_9 (by decide) (fun c_2 => ?_) (fun c_2 => ?_)
  · refine lv_iload_n hx hb d_Mo_actFault_29 rfl (lv_at hl 0 rfl) ?_
    try simp only [bI_ne0, bI_eq0] at c_2
    exact W.iret (v := (moFault (ρ.I 0) h 6)) hx hb hr (fun t9 ht hW => ⟨⟨(moFault (ρ.I 0) h 6), V, rfl, ⟨by first | (simp [bI, moAF, c_2]; done) | (simp_all [bI, moAF]; done), rfl⟩, mB_of ht hV⟩, hS.F ht⟩) hS.2.2 d_Mo_actFault_30
  · refine lv_aload_n hx hb d_Mo_actFault_12 rfl (lv_at hl 1 rfl) ?_
    refine gf_Mo_42 hx hb hW hown hG hV hm_1 d_Mo_actFault_13 ?_
    refine lv_iload_n hx hb d_Mo_actFault_16 rfl (lv_at hl 2 rfl) ?_
    refine lv_sipush (v := 1000) hx hb d_Mo_actFault_17 (by decide) ?_
    refine lv_irem hx hb d_Mo_actFault_20 (by decide) ?_
    obtain ⟨g0a, k0a⟩ := moFault0 c_2
    obtain ⟨-, eN, -, -, hlt9⟩ := mg_of hGm g0a
    have hKh : hdK h = 6 := hdK_of (by decide) k0a
    have hp9 : hdN h < 10 := by rw [hKh] at hlt9; exact Nat.lt_of_lt_of_le hlt9 (mN_of hGm (by omega) (by omega)).2
    rw [eN]
    refine W.eq (g2 := F0 m 21 ls [.int (nI (hdN h)), .ref (ad 9)]) rfl ?_
    refine hv_zald hx hb hG.K hV 2 hm_1_9 rfl (vp_in_nI (by omega) (by omega)) d_Mo_actFault_21 ?_
    rw [nI_clamp (by omega)]
    refine lv_if_ne (tgt := 29) hx hb d_Mo_actFault_22 (by decide) (fun c_3 => ?_) (fun c_3 => ?_)
    · refine lv_iload_n hx hb d_Mo_actFault_29 rfl (lv_at hl 0 rfl) ?_
      try simp only [bI_ne0, bI_eq0] at c_2
      try simp only [bI_ne0, bI_eq0] at c_3
      exact W.iret (v := (moFault (ρ.I 0) h 6)) hx hb hr (fun t9 ht hW => ⟨⟨(moFault (ρ.I 0) h 6), V, rfl, ⟨by first | (simp [bI, moAF, c_2, c_3]; done) | (simp_all [bI, moAF]; done), rfl⟩, mB_of ht hV⟩, hS.F ht⟩) hS.2.2 d_Mo_actFault_30
    · refine lv_iconst (v := 3) hx hb d_Mo_actFault_25 (by decide) ?_
      refine lv_goto (tgt := 30) hx hb d_Mo_actFault_26 (by decide) ?_
      try simp only [bI_ne0, bI_eq0] at c_2
      try simp only [bI_ne0, bI_eq0] at c_3
      exact W.iret (v := 3) hx hb hr (fun t9 ht hW => ⟨⟨3, V, rfl, ⟨by first | (simp [bI, moAF, c_2, c_3]; done) | (simp_all [bI, moAF]; done), rfl⟩, mB_of ht hV⟩, hS.F ht⟩) hS.2.2 d_Mo_actFault_30
set_option maxHeartbeats 4000000 in
set_option maxRecDepth 100000 in
/-- hasOpen -/
theorem c_Mo_hasOpen (l : Launch) (D : va_G) (N0 : Nat) (k : Nat → Nat) (V : HV) (mo : Nat) (ad : Nat → Nat) (ρ : MS) (hM : mdOk k V mo ad ρ) : Met l y_Mo_hasOpen (.code y_Mo_hasOpen b_Mo_hasOpen 3 (some .boolean) :: WS) ({ frames := 0, cells := 0, slots := 0, locals := 0 }) (mP D N0 k [.ref mo] V) (va_Qi (fun r V' => r = bI (anyF (moOpn ρ.I) 0 10) ∧ V' = V) (mB D N0) (hA N0)) 0 0 (hA N0) := by
  refine Met.ofW (cc := b_Mo_hasOpen) (maxL := 3) (ret := (some .boolean)) (by decide) rfl ?_
  intro p e s m args below meth c s₁ B hml hv0
  obtain ⟨rfl, hG, hV⟩ := hv0
  have hx := B.exec
  have hb := B.bytes
  have hr := B.returns
  have hts := atoms_spec (ws := .code y_Mo_hasOpen b_Mo_hasOpen 3 (some .boolean) :: WS) B.pre
  have hW : ∀ w ∈ WS, w.before _ s = true := fun w h => hts w (List.mem_cons_of_mem _ h)
  have hown : s.vm.findClass "BoardHouseModel" = some m.cls := findClass_of_methodNamed B.named
  have hlocks := B.notSynchronized
  have hS : va_S (hA N0) s.heap s.heap [] := va_S.rf
  have hl := lv_entry ([.ref mo]) (n := 3) (Nat.le_of_ble_eq_true rfl)
  rw [lg_entry_eq]
  generalize (lg_sl ([.ref mo]) ++ List.replicate (3 - (lg_sl ([.ref mo])).length) Slot.unset).toArray = ls at hl ⊢
  have hl : lv_has ls 3 [(0, .ref mo)] := hl
  have hm_1 : V mo = some (.inr (7, [.int (ρ.s 0), .int (ρ.s 1), .int (ρ.s 2), .int (ρ.s 3), .ref (ad 0), .ref (ad 1), .ref (ad 2), .ref (ad 3), .ref (ad 4), .ref (ad 5), .ref (ad 6), .ref (ad 7), .ref (ad 8), .int (ρ.s 4), .ref (ad 9), .ref (ad 10), .ref (ad 11), .ref (ad 12), .ref (ad 13), .ref (ad 14), .ref (ad 15), .ref (ad 16), .ref (ad 17), .ref (ad 18), .ref (ad 19), .ref (ad 20), .ref (ad 21), .ref (ad 22), .ref (ad 23), .ref (ad 24), .ref (ad 25)])) := hM.1
  have hm_1_9 : V (ad 9) = some (eZ k 10 (ρ.I 9)) := hM.a9
  refine lv_iconst (v := 0) hx hb d_Mo_hasOpen_0 (by decide) ?_
  refine lv_istore_n (lv' := [(1, .int 0), (0, .ref mo)]) hx hb d_Mo_hasOpen_1 rfl hl (by decide) rfl (fun ls hl => ?_)
  refine lv_iconst (v := 0) hx hb d_Mo_hasOpen_2 (by decide) ?_
  refine lv_istore_n (lv' := [(2, .int 0), (1, .int 0), (0, .ref mo)]) hx hb d_Mo_hasOpen_3 rfl hl (by decide) rfl (fun ls hl => ?_)
  obtain ⟨Pb, hPb⟩ : ∃ z, z = moOpn ρ.I := ⟨_, rfl⟩
  have loop_2 : ∀ (n i : Nat) (H : Heap) (locs : List Loc) (ls : Array Slot), i ≤ 10 → 10 + 1 ≤ i + n → (0 ≤ i) → hv D vwCl N0 V H → va_S (hA N0) s.heap H locs → lv_has ls 3 [(0, .ref mo), (1, .int (bI (anyF Pb 0 (i - 0)))), (2, .int (nI i))] → W p l e (headSpec (.code y_Mo_hasOpen b_Mo_hasOpen 3 (some .boolean) :: WS) ({ frames := 0, cells := 0, slots := 0, locals := 0 })).room s m #[.ref mo] below meth c H locs 0 0 (MQ below (va_Qi (fun r V' => r = bI (anyF (moOpn ρ.I) 0 10) ∧ V' = V) (mB D N0) (hA N0)) #[.ref mo] s 0 0 (hA N0)) (F0 m 4 ls []) := by
    intro n
    induction n with
    | zero => intro i  H locs ls h1 h2; exact absurd h2 (by omega)
    | succ n ih =>
      intro i  H locs ls hi hin hI hV hS hl
      refine lv_iload_n hx hb d_Mo_hasOpen_4 rfl (lv_at hl 2 rfl) ?_
      refine lv_bipush (v := 10) hx hb d_Mo_hasOpen_5 (by decide) ?_
      refine lv_icmp_ge (tgt := 35) hx hb d_Mo_hasOpen_7 (by decide) (fun c_3 => ?_) (fun c_3 => ?_)
      · have hge : 10 ≤ i := nI_le' c_3 (by omega) (by omega)
        refine lv_iload_n hx hb d_Mo_hasOpen_35 rfl (lv_at hl 1 rfl) ?_
        exact W.zret (v := (bI (anyF Pb 0 (i - 0)))) hx hb hr (bI_nar _) (fun t9 ht hW => ⟨⟨(bI (anyF Pb 0 (i - 0))), V, rfl, ⟨by rw [show i - 0 = 10 by omega, hPb], rfl⟩, mB_of ht hV⟩, hS.F ht⟩) hS.2.2 d_Mo_hasOpen_36
      · have hlt : i < 10 := nI_nle' c_3 (by omega) (by omega)
        refine lv_iload_n hx hb d_Mo_hasOpen_10 rfl (lv_at hl 1 rfl) ?_
        refine lv_if_ne (tgt := 23) hx hb d_Mo_hasOpen_11 (by decide) (fun c_4 => ?_) (fun c_4 => ?_)
        · refine lv_iconst (v := 1) hx hb d_Mo_hasOpen_23 (by decide) ?_
          refine lv_goto (tgt := 28) hx hb d_Mo_hasOpen_24 (by decide) ?_
          refine lv_istore_n (lv' := [(1, .int 1), (0, .ref mo), (2, .int (nI i))]) hx hb d_Mo_hasOpen_28 rfl hl (by decide) rfl (fun ls hl => ?_)
          obtain ⟨i_5, ei_5⟩ : ∃ y : Int32, y = (nI i) + 1 := ⟨_, rfl⟩
          refine lv_iinc (v := i_5) (lv' := [(2, .int i_5), (1, .int 1), (0, .ref mo)]) hx hb d_Mo_hasOpen_29 hl (k := 2) rfl (by rw [ei_5]; rfl) (by decide) rfl (fun ls hl => ?_)
          refine lv_goto (tgt := 4) hx hb d_Mo_hasOpen_32 (by decide) ?_
          rw [nI_1] at ei_5
          subst ei_5
          try simp only [bI_ne0, bI_eq0, decide_eq_true_eq, decide_eq_false_iff_not, Bool.not_eq_false, Bool.not_eq_true, Decidable.not_not] at c_3
          try simp only [bI_ne0, bI_eq0, decide_eq_true_eq, decide_eq_false_iff_not, Bool.not_eq_false, Bool.not_eq_true, Decidable.not_not] at c_4
          have hb9 : bI (anyF Pb 0 (i + 1 - 0)) = 1 := by
            rw [show i + 1 - 0 = (i - 0) + 1 by omega, anyF_snoc, show 0 + (i - 0) = i by omega]
            subst hPb
            first | (simp [bI, moOpn, c_4]; done) | (simp_all [bI, moOpn]; done)
          exact ih (i + 1)  _ _ _ (by omega) (by omega) (by omega) hV hS (lv_sub hl [2, 1, 0] (by rw [hb9]; rfl))
        · refine lv_aload_n hx hb d_Mo_hasOpen_14 rfl (lv_at hl 0 rfl) ?_
          refine gf_Mo_42 hx hb hW hown hG hV hm_1 d_Mo_hasOpen_15 ?_
          refine lv_iload_n hx hb d_Mo_hasOpen_18 rfl (lv_at hl 2 rfl) ?_
          refine hv_zald hx hb hG.K hV 2 hm_1_9 rfl (vp_in_nI (by omega) (by omega)) d_Mo_hasOpen_19 ?_
          rw [nI_clamp (by omega)]
          refine lv_if_eq (tgt := 27) hx hb d_Mo_hasOpen_20 (by decide) (fun c_6 => ?_) (fun c_6 => ?_)
          · refine lv_iconst (v := 0) hx hb d_Mo_hasOpen_27 (by decide) ?_
            refine lv_istore_n (lv' := [(1, .int 0), (0, .ref mo), (2, .int (nI i))]) hx hb d_Mo_hasOpen_28 rfl hl (by decide) rfl (fun ls hl => ?_)
            obtain ⟨i_7, ei_7⟩ : ∃ y : Int32, y = (nI i) + 1 := ⟨_, rfl⟩
            refine lv_iinc (v := i_7) (lv' := [(2, .int i_7), (1, .int 0), (0, .ref mo)]) hx hb d_Mo_hasOpen_29 hl (k := 2) rfl (by rw [ei_7]; rfl) (by decide) rfl (fun ls hl => ?_)
            refine lv_goto (tgt := 4) hx hb d_Mo_hasOpen_32 (by decide) ?_
            rw [nI_1] at ei_7
            subst ei_7
            try simp only [bI_ne0, bI_eq0, decide_eq_true_eq, decide_eq_false_iff_not, Bool.not_eq_false, Bool.not_eq_true, Decidable.not_not] at c_3
            try simp only [bI_ne0, bI_eq0, decide_eq_true_eq, decide_eq_false_iff_not, Bool.not_eq_false, Bool.not_eq_true, Decidable.not_not] at c_4
            try simp only [bI_ne0, bI_eq0, decide_eq_true_eq, decide_eq_false_iff_not, Bool.not_eq_false, Bool.not_eq_true, Decidable.not_not] at c_6
            have hb9 : bI (anyF Pb 0 (i + 1 - 0)) = 0 := by
              rw [show i + 1 - 0 = (i - 0) + 1 by omega, anyF_snoc, show 0 + (i - 0) = i by omega]
              subst hPb
              first | (simp [bI, moOpn, c_4, c_6]; done) | (simp_all [bI, moOpn]; done)
            exact ih (i + 1)  _ _ _ (by omega) (by omega) (by omega) hV hS (lv_sub hl [2, 1, 0] (by rw [hb9]; rfl))
          · refine lv_iconst (v := 1) hx hb d_Mo_hasOpen_23 (by decide) ?_
            refine lv_goto (tgt := 28) hx hb d_Mo_hasOpen_24 (by decide) ?_
            refine lv_istore_n (lv' := [(1, .int 1), (0, .ref mo), (2, .int (nI i))]) hx hb d_Mo_hasOpen_28 rfl hl (by decide) rfl (fun ls hl => ?_)
            obtain ⟨i_8, ei_8⟩ : ∃ y : Int32, y = (nI i) + 1 := ⟨_, rfl⟩
            refine lv_iinc (v := i_8) (lv' := [(2, .int i_8), (1, .int 1), (0, .ref mo)]) hx hb d_Mo_hasOpen_29 hl (k := 2) rfl (by rw [ei_8]; rfl) (by decide) rfl (fun ls hl => ?_)
            refine lv_goto (tgt := 4) hx hb d_Mo_hasOpen_32 (by decide) ?_
            rw [nI_1] at ei_8
            subst ei_8
            try simp only [bI_ne0, bI_eq0, decide_eq_true_eq, decide_eq_false_iff_not, Bool.not_eq_false, Bool.not_eq_true, Decidable.not_not] at c_3
            try simp only [bI_ne0, bI_eq0, decide_eq_true_eq, decide_eq_false_iff_not, Bool.not_eq_false, Bool.not_eq_true, Decidable.not_not] at c_4
            try simp only [bI_ne0, bI_eq0, decide_eq_true_eq, decide_eq_false_iff_not, Bool.not_eq_false, Bool.not_eq_true, Decidable.not_not] at c_6
            have hb9 : bI (anyF Pb 0 (i + 1 - 0)) = 1 := by
              rw [show i + 1 - 0 = (i - 0) + 1 by omega, anyF_snoc, show 0 + (i - 0) = i by omega]
              subst hPb
              first | (simp [bI, moOpn, c_4, c_6]; done) | (simp_all [bI, moOpn]; done)
            exact ih (i + 1)  _ _ _ (by omega) (by omega) (by omega) hV hS (lv_sub hl [2, 1, 0] (by rw [hb9]; rfl))
  exact loop_2 (10 + 1 - 0) 0  _ _ _ (by omega) (by omega) (by omega) hV hS (lv_sub hl [2, 1, 0] rfl)
set_option maxHeartbeats 4000000 in
set_option maxRecDepth 100000 in
/-- isPair -/
theorem c_Mo_isPair (l : Launch) (D : va_G) (N0 : Nat) (k : Nat → Nat) (V : HV) (mo : Nat) (ad : Nat → Nat) (ρ : MS) (hM : mdOk k V mo ad ρ) (t u : Nat) (ht : t < 150) (hu0 : u < 150) : Met l y_Mo_isPair (.code y_Mo_isPair b_Mo_isPair 3 (some .boolean) :: WS) ({ frames := 3, cells := 0, slots := 0, locals := 66 }) (mP D N0 k [.ref mo, .int (nI t), .int (nI u)] V) (va_Qi (fun r V' => r = bI (moPr ρ t u) ∧ V' = V) (mB D N0) (hA N0)) 0 0 (hA N0) := by
  refine Met.ofW (cc := b_Mo_isPair) (maxL := 3) (ret := (some .boolean)) (by decide) rfl ?_
  intro p e s m args below meth c s₁ B hml hv0
  obtain ⟨rfl, hG, hV⟩ := hv0
  have hx := B.exec
  have hb := B.bytes
  have hr := B.returns
  have hts := atoms_spec (ws := .code y_Mo_isPair b_Mo_isPair 3 (some .boolean) :: WS) B.pre
  have hW : ∀ w ∈ WS, w.before _ s = true := fun w h => hts w (List.mem_cons_of_mem _ h)
  have hown : s.vm.findClass "BoardHouseModel" = some m.cls := findClass_of_methodNamed B.named
  have hlocks := B.notSynchronized
  have hS : va_S (hA N0) s.heap s.heap [] := va_S.rf
  have hl := lv_entry ([.ref mo, .int (nI t), .int (nI u)]) (n := 3) (Nat.le_of_ble_eq_true rfl)
  rw [lg_entry_eq]
  generalize (lg_sl ([.ref mo, .int (nI t), .int (nI u)]) ++ List.replicate (3 - (lg_sl ([.ref mo, .int (nI t), .int (nI u)])).length) Slot.unset).toArray = ls at hl ⊢
  have hl : lv_has ls 3 [(0, .ref mo), (1, .int (nI t)), (2, .int (nI u))] := hl
  have hm_1 : V mo = some (.inr (7, [.int (ρ.s 0), .int (ρ.s 1), .int (ρ.s 2), .int (ρ.s 3), .ref (ad 0), .ref (ad 1), .ref (ad 2), .ref (ad 3), .ref (ad 4), .ref (ad 5), .ref (ad 6), .ref (ad 7), .ref (ad 8), .int (ρ.s 4), .ref (ad 9), .ref (ad 10), .ref (ad 11), .ref (ad 12), .ref (ad 13), .ref (ad 14), .ref (ad 15), .ref (ad 16), .ref (ad 17), .ref (ad 18), .ref (ad 19), .ref (ad 20), .ref (ad 21), .ref (ad 22), .ref (ad 23), .ref (ad 24), .ref (ad 25)])) := hM.1
  refine lv_aload_n hx hb d_Mo_isPair_0 rfl (lv_at hl 0 rfl) ?_
  refine lv_iload_n hx hb d_Mo_isPair_1 rfl (lv_at hl 1 rfl) ?_
  refine rc_i (va_runV (As := [.int (nI t)]) (rest := []) ⟨hx, hb, hml, hown, hts⟩ (c_Mo_isCopper l D N0 k V mo ad ρ hM t (by omega)) (cwV 1 hts (gi_V wm_Mo_133 wv_Mo_isCopper ws_Mo_isCopper wi_Mo wc_Mo_isCopper) rfl rfl rfl (by decide +kernel) ⟨Nat.le_of_ble_eq_true rfl, Nat.le_of_ble_eq_true rfl⟩) (mP.preV hG hS hV hm_1 rfl) rfl rfl hl.1 rfl (lv_room (Nat.le_of_ble_eq_true rfl)) d_Mo_isPair_2 ⟨Nat.le_of_ble_eq_true rfl, Nat.le_of_ble_eq_true rfl⟩) hS (fun H locs hV hS => ?_)
  refine W.eq (g2 := F0 m 5 ls [.int (bI (moCop ρ.I t))]) rfl ?_
  refine lv_if_eq (tgt := 31) hx hb d_Mo_isPair_5 (by decide) (fun c_2 => ?_) (fun c_2 => ?_)
  · refine lv_iconst (v := 0) hx hb d_Mo_isPair_31 (by decide) ?_
    try simp only [bI_ne0, bI_eq0] at c_2
    exact W.zret (v := 0) hx hb hr rfl (fun t9 ht hW => ⟨⟨0, V, rfl, ⟨by first | (simp [bI, moPr, c_2]; done) | (simp_all [bI, moPr]; done), rfl⟩, mB_of ht hV⟩, hS.F ht⟩) hS.2.2 d_Mo_isPair_32
  · refine lv_aload_n hx hb d_Mo_isPair_8 rfl (lv_at hl 0 rfl) ?_
    refine lv_iload_n hx hb d_Mo_isPair_9 rfl (lv_at hl 2 rfl) ?_
    refine rc_i (va_runV (As := [.int (nI u)]) (rest := []) ⟨hx, hb, hml, hown, hts⟩ (c_Mo_isCopper l D N0 k V mo ad ρ hM u (by omega)) (cwV 1 hts (gi_V wm_Mo_133 wv_Mo_isCopper ws_Mo_isCopper wi_Mo wc_Mo_isCopper) rfl rfl rfl (by decide +kernel) ⟨Nat.le_of_ble_eq_true rfl, Nat.le_of_ble_eq_true rfl⟩) (mP.preV hG hS hV hm_1 rfl) rfl rfl hl.1 rfl (lv_room (Nat.le_of_ble_eq_true rfl)) d_Mo_isPair_10 ⟨Nat.le_of_ble_eq_true rfl, Nat.le_of_ble_eq_true rfl⟩) hS (fun H locs hV hS => ?_)
    refine W.eq (g2 := F0 m 13 ls [.int (bI (moCop ρ.I u))]) rfl ?_
    refine lv_if_eq (tgt := 31) hx hb d_Mo_isPair_13 (by decide) (fun c_3 => ?_) (fun c_3 => ?_)
    · refine lv_iconst (v := 0) hx hb d_Mo_isPair_31 (by decide) ?_
      try simp only [bI_ne0, bI_eq0] at c_2
      try simp only [bI_ne0, bI_eq0] at c_3
      exact W.zret (v := 0) hx hb hr rfl (fun t9 ht hW => ⟨⟨0, V, rfl, ⟨by first | (simp [bI, moPr, c_2, c_3]; done) | (simp_all [bI, moPr]; done), rfl⟩, mB_of ht hV⟩, hS.F ht⟩) hS.2.2 d_Mo_isPair_32
    · refine lv_aload_n hx hb d_Mo_isPair_16 rfl (lv_at hl 0 rfl) ?_
      refine lv_iload_n hx hb d_Mo_isPair_17 rfl (lv_at hl 1 rfl) ?_
      refine lv_iconst (v := 0) hx hb d_Mo_isPair_18 (by decide) ?_
      refine lv_iconst (v := 0) hx hb d_Mo_isPair_19 (by decide) ?_
      refine lv_iload_n hx hb d_Mo_isPair_20 rfl (lv_at hl 2 rfl) ?_
      refine rc_i (va_runV (As := [.int (nI t), .int 0, .int 0, .int (nI u)]) (rest := []) ⟨hx, hb, hml, hown, hts⟩ (c_Mo_clash l D N0 k V mo ad ρ hM t u (by omega) (by omega) 0 0) (cwV 4 hts (gi_V wm_Mo_136 wv_Mo_clash ws_Mo_clash wi_Mo wc_Mo_clash) rfl rfl rfl (by decide +kernel) ⟨Nat.le_of_ble_eq_true rfl, Nat.le_of_ble_eq_true rfl⟩) (mP.preV hG hS hV hm_1 rfl) rfl rfl hl.1 rfl (lv_room (Nat.le_of_ble_eq_true rfl)) d_Mo_isPair_21 ⟨Nat.le_of_ble_eq_true rfl, Nat.le_of_ble_eq_true rfl⟩) hS (fun H locs hV hS => ?_)
      refine W.eq (g2 := F0 m 24 ls [.int (bI (moClash ρ t 0 0 u))]) rfl ?_
      refine lv_if_eq (tgt := 31) hx hb d_Mo_isPair_24 (by decide) (fun c_4 => ?_) (fun c_4 => ?_)
      · refine lv_iconst (v := 0) hx hb d_Mo_isPair_31 (by decide) ?_
        try simp only [bI_ne0, bI_eq0] at c_2
        try simp only [bI_ne0, bI_eq0] at c_3
        try simp only [bI_ne0, bI_eq0] at c_4
        exact W.zret (v := 0) hx hb hr rfl (fun t9 ht hW => ⟨⟨0, V, rfl, ⟨by first | (simp [bI, moPr, c_2, c_3, c_4]; done) | (simp_all [bI, moPr]; done), rfl⟩, mB_of ht hV⟩, hS.F ht⟩) hS.2.2 d_Mo_isPair_32
      · refine lv_iconst (v := 1) hx hb d_Mo_isPair_27 (by decide) ?_
        refine lv_goto (tgt := 32) hx hb d_Mo_isPair_28 (by decide) ?_
        try simp only [bI_ne0, bI_eq0] at c_2
        try simp only [bI_ne0, bI_eq0] at c_3
        try simp only [bI_ne0, bI_eq0] at c_4
        exact W.zret (v := 1) hx hb hr rfl (fun t9 ht hW => ⟨⟨1, V, rfl, ⟨by first | (simp [bI, moPr, c_2, c_3, c_4]; done) | (simp_all [bI, moPr]; done), rfl⟩, mB_of ht hV⟩, hS.F ht⟩) hS.2.2 d_Mo_isPair_32
