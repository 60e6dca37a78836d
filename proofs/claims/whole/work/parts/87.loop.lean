/-! THE LAW'S LOOP -/
theorem cmp_L {i L : Nat} (hi : i ≤ 4000) (hL : L ≤ 3586) : nI i ≤ Int32.ofNat L - 7 ↔ i + 7 ≤ L := by
  have e : (Int32.ofNat L).toInt = (L : Int) := tn (n := L) (by omega)
  have t7 : (7 : Int32).toInt = 7 := rfl
  rw [tL, tn (by omega), tS (by rw [e, t7]; omega) (by rw [e, t7]; omega), e, t7]; omega
theorem sc_i0 {i : Nat} (h : i < 2 ^ 31) : (nI i).toNatClampNeg = i := nI_clamp h
set_option maxHeartbeats 4000000 in
set_option maxRecDepth 100000 in
/-- THE LAW'S LOOP -/
theorem l_loop {J : HS → MS → Prop} (hall : lawOk J) {p : Program} {l : Launch} {e : Env} {s : State} {m : MethodId} {below : List Frame} {meth : Method} {c : Code} {D : va_G} {k : Nat → Nat} {bb L : Nat} {xs : Nat → Int32} (C : LC p l s m c D k bb L xs) (hr : meth.sig.returnType = ret) (hlocks : meth.locks = false) {mo : Nat} {ad : Nat → Nat} {ou : Nat} :
    ∀ (n i cells slots : Nat) (V : HV) (b : HA) (σ : HS) (ρ : MS) (g : Nat → Int64) (H : Heap) (locs : List Loc) (ls : Array Slot), i ≤ 4000 → L + 1 ≤ i + n → cells + 4 * n ≤ 601024 → slots + 159 * n ≤ 7293000 → LJ J k V b σ mo ad ρ ou g → hv D vwCl s.heap.size V H → va_S (hA s.heap.size) s.heap H locs → lv_has ls 7 [(4, .int (nI i)), (0, .ref bb), (1, .ref b.ho), (2, .ref mo), (3, .ref ou)] →
      W p l e room_1 s m #[Value.ref bb] below meth c H locs cells slots (lw_Z below #[Value.ref bb] s) (F0 m 43 ls []) := by
  obtain ⟨hx, hb, hml, hown, hts, hG, hN, hX, hbl, hLL, hls⟩ := id C
  have hbA : ¬ (hA s.heap.size) bb := Nat.not_le.mpr hbl
  have hpre := hall.2.2.2.2.2.2.2.2.2.2.2.2.2.2.2.2.2.2.2.2.2.2
  have hex : ∀ (i cells slots : Nat) (b : HA) (H : Heap) (locs : List Loc) (ls : Array Slot), i ≤ 4000 → ¬ i + 7 ≤ L → cells ≤ 601024 → slots ≤ 7293000 → va_S (hA s.heap.size) s.heap H locs → lv_has ls 7 [(4, .int (nI i)), (0, .ref bb), (1, .ref b.ho), (2, .ref mo), (3, .ref ou)] →
      W p l e room_1 s m #[Value.ref bb] below meth c H locs cells slots (lw_Z below #[Value.ref bb] s) (F0 m 43 ls []) := by
    intro i cells slots b H locs ls hi hni hc hs hS hl
    refine lv_iload hx hb d_La_law_43 (lv_at hl 0 rfl) ?_
    refine lv_aload_n hx hb d_La_law_45 rfl (lv_at hl 1 rfl) ?_
    refine va_slen hx hb hX hbl hbA hS d_La_law_46 ?_
    refine lv_bipush (v := 7) hx hb d_La_law_47 (by decide) ?_
    refine lv_isub hx hb d_La_law_49 ?_
    refine lv_icmp_gt (tgt := 1485) hx hb d_La_law_50 (by decide) (fun _ => ?_) (fun q => absurd ((cmp_L hi hLL).mp (i_le q)) hni)
    refine lv_iconst (v := 1) hx hb d_La_law_1485 (by decide) ?_
    refine va_forget (fun q hq => hS.2.2 q hq) ?_
    refine W.widen (k := 601024) (n := 7293000) hc hs ?_
    exact lw_ret hx hb hr hlocks d_La_law_1486
  intro n
  induction n with
  | zero =>
    intro i cells slots V b σ ρ g H locs ls hi hn hc hs hL hV hS hl
    exact hex i cells slots b H locs ls hi (by omega) (by omega) (by omega) hS hl
  | succ n ih =>
    intro i cells slots V b σ ρ g H locs ls hi hn hc hs hL hV hS hl
    by_cases hiL : i + 7 ≤ L
    · have kc : ∀ (V' : HV) (b' : HA) (σ' : HS) (ρ' : MS) (g' : Nat → Int64) (H' : Heap) (locs' : List Loc) (ls' : Array Slot), b'.ho = b.ho → LJ J k V' b' σ' mo ad ρ' ou g' → hv D vwCl s.heap.size V' H' → va_S (hA s.heap.size) s.heap H' locs' → lv_has ls' 7 [(4, .int (nI i)), (0, .ref bb), (1, .ref b.ho), (2, .ref mo), (3, .ref ou)] → W p l e room_1 s m #[Value.ref bb] below meth c H' locs' (cells + 4) (slots + 159) (lw_Z below #[Value.ref bb] s) (F0 m 1479 ls' []) := by
        intro V' b' σ' ρ' g' H' locs' ls' hho hL' hV' hS' hl'
        rw [← hho] at hl'
        refine lv_iinc (v := nI (i + 7)) (lv' := [(4, .int (nI (i + 7))), (0, .ref bb), (1, .ref b'.ho), (2, .ref mo), (3, .ref ou)]) hx hb d_La_law_1479 hl' (k := 0) rfl (by rw [← nI_add]; rfl) (by decide) rfl (fun ls hl => ?_)
        refine lv_goto (tgt := 43) hx hb d_La_law_1482 (by decide) ?_
        exact ih (i + 7) (cells + 4) (slots + 159) V' b' σ' ρ' g' H' locs' ls (by omega) (by omega) (by omega) (by omega) hL' hV' hS' hl
      refine lv_iload hx hb d_La_law_43 (lv_at hl 0 rfl) ?_
      refine lv_aload_n hx hb d_La_law_45 rfl (lv_at hl 1 rfl) ?_
      refine va_slen hx hb hX hbl hbA hS d_La_law_46 ?_
      refine lv_bipush (v := 7) hx hb d_La_law_47 (by decide) ?_
      refine lv_isub hx hb d_La_law_49 ?_
      refine lv_icmp_gt (tgt := 1485) hx hb d_La_law_50 (by decide) (fun q => absurd ((cmp_L hi hLL).mpr hiL) (i_nle q)) (fun _ => ?_)
      refine lv_aload_n hx hb d_La_law_53 rfl (lv_at hl 1 rfl) ?_
      refine lv_iload hx hb d_La_law_54 (lv_at hl 0 rfl) ?_
      refine va_sld (i := nI i) hx hb hX hbl hbA hS (vp_in_nI (by omega) (by omega)) d_La_law_56 ?_
      rw [sc_i0 (by omega)]
      refine lv_bipush (v := 31) hx hb d_La_law_57 (by decide) ?_
      refine lv_iand hx hb d_La_law_59 ?_
      refine lv_topi (fun zz ezz => ?_)
      by_cases k_1 : zz = (0 : Int32)
      · refine lv_tableIn (x := zz) (off := 100) (tgt := 160) hx hb d_La_law_60 (by rw [k_1]; decide +kernel) (by rw [k_1]; decide +kernel) (by rw [k_1]; decide +kernel) (by decide) ?_
        exact l_net hall.2.2.2.2.2.2.2.2.2.2.2.2.2.2.2.2.2.1 hpre C hL hiL (by omega) (by omega) hV hS hl kc
      by_cases k_2 : zz = (1 : Int32)
      · refine lv_tableIn (x := zz) (off := 113) (tgt := 173) hx hb d_La_law_60 (by rw [k_2]; decide +kernel) (by rw [k_2]; decide +kernel) (by rw [k_2]; decide +kernel) (by decide) ?_
        exact l_part hall.1 hpre C hL hiL (by omega) (by omega) hV hS hl kc
      by_cases k_3 : zz = (2 : Int32)
      · refine lv_tableIn (x := zz) (off := 217) (tgt := 277) hx hb d_La_law_60 (by rw [k_3]; decide +kernel) (by rw [k_3]; decide +kernel) (by rw [k_3]; decide +kernel) (by decide) ?_
        exact l_pad hall.2.1 hpre C hL hiL (by omega) (by omega) hV hS hl kc
      by_cases k_4 : zz = (3 : Int32)
      · refine lv_tableIn (x := zz) (off := 309) (tgt := 369) hx hb d_La_law_60 (by rw [k_4]; decide +kernel) (by rw [k_4]; decide +kernel) (by rw [k_4]; decide +kernel) (by decide) ?_
        exact l_via hall.2.2.1 hpre C hL hiL (by omega) (by omega) hV hS hl kc
      by_cases k_5 : zz = (4 : Int32)
      · refine lv_tableIn (x := zz) (off := 389) (tgt := 449) hx hb d_La_law_60 (by rw [k_5]; decide +kernel) (by rw [k_5]; decide +kernel) (by rw [k_5]; decide +kernel) (by decide) ?_
        exact l_track hall.2.2.2.1 hpre C hL hiL (by omega) (by omega) hV hS hl kc
      by_cases k_6 : zz = (5 : Int32)
      · refine lv_tableIn (x := zz) (off := 507) (tgt := 567) hx hb d_La_law_60 (by rw [k_6]; decide +kernel) (by rw [k_6]; decide +kernel) (by rw [k_6]; decide +kernel) (by decide) ?_
        exact l_plane hall.2.2.2.2.1 hpre C hL hiL (by omega) (by omega) hV hS hl kc
      by_cases k_7 : zz = (6 : Int32)
      · refine lv_tableIn (x := zz) (off := 575) (tgt := 635) hx hb d_La_law_60 (by rw [k_7]; decide +kernel) (by rw [k_7]; decide +kernel) (by rw [k_7]; decide +kernel) (by decide) ?_
        exact l_move hall.2.2.2.2.2.1 hpre C hL hiL (by omega) (by omega) hV hS hl kc
      by_cases k_8 : zz = (7 : Int32)
      · refine lv_tableIn (x := zz) (off := 662) (tgt := 722) hx hb d_La_law_60 (by rw [k_8]; decide +kernel) (by rw [k_8]; decide +kernel) (by rw [k_8]; decide +kernel) (by decide) ?_
        exact l_drop hall.2.2.2.2.2.2.1 hpre C hL hiL (by omega) (by omega) hV hS hl kc
      by_cases k_9 : zz = (8 : Int32)
      · refine lv_tableIn (x := zz) (off := 725) (tgt := 785) hx hb d_La_law_60 (by rw [k_9]; decide +kernel) (by rw [k_9]; decide +kernel) (by rw [k_9]; decide +kernel) (by decide) ?_
        exact l_gap hall.2.2.2.2.2.2.2.1 hpre C hL hiL (by omega) (by omega) hV hS hl kc
      by_cases k_10 : zz = (9 : Int32)
      · refine lv_tableIn (x := zz) (off := 781) (tgt := 841) hx hb d_La_law_60 (by rw [k_10]; decide +kernel) (by rw [k_10]; decide +kernel) (by rw [k_10]; decide +kernel) (by decide) ?_
        exact l_islands hall.2.2.2.2.2.2.2.2.1 hpre C hL hiL (by omega) (by omega) hV hS hl kc
      by_cases k_11 : zz = (10 : Int32)
      · refine lv_tableIn (x := zz) (off := 837) (tgt := 897) hx hb d_La_law_60 (by rw [k_11]; decide +kernel) (by rw [k_11]; decide +kernel) (by rw [k_11]; decide +kernel) (by decide) ?_
        exact l_check hall.2.2.2.2.2.2.2.2.2.2.2.2.2.2.2.2.2.2.1 hpre C hL hiL (by omega) (by omega) hV hS hl kc
      by_cases k_12 : zz = (11 : Int32)
      · refine lv_tableIn (x := zz) (off := 850) (tgt := 910) hx hb d_La_law_60 (by rw [k_12]; decide +kernel) (by rw [k_12]; decide +kernel) (by rw [k_12]; decide +kernel) (by decide) ?_
        exact l_near hall.2.2.2.2.2.2.2.2.2.1 hpre C hL hiL (by omega) (by omega) hV hS hl kc
      by_cases k_13 : zz = (12 : Int32)
      · refine lv_tableIn (x := zz) (off := 918) (tgt := 978) hx hb d_La_law_60 (by rw [k_13]; decide +kernel) (by rw [k_13]; decide +kernel) (by rw [k_13]; decide +kernel) (by decide) ?_
        exact l_filled hall.2.2.2.2.2.2.2.2.2.2.1 hpre C hL hiL (by omega) (by omega) hV hS hl kc
      by_cases k_14 : zz = (13 : Int32)
      · refine lv_tableIn (x := zz) (off := 974) (tgt := 1034) hx hb d_La_law_60 (by rw [k_14]; decide +kernel) (by rw [k_14]; decide +kernel) (by rw [k_14]; decide +kernel) (by decide) ?_
        exact l_at hall.2.2.2.2.2.2.2.2.2.2.2.1 hpre C hL hiL (by omega) (by omega) hV hS hl kc
      by_cases k_15 : zz = (14 : Int32)
      · refine lv_tableIn (x := zz) (off := 1042) (tgt := 1102) hx hb d_La_law_60 (by rw [k_15]; decide +kernel) (by rw [k_15]; decide +kernel) (by rw [k_15]; decide +kernel) (by decide) ?_
        exact l_count hall.2.2.2.2.2.2.2.2.2.2.2.2.1 hpre C hL hiL (by omega) (by omega) hV hS hl kc
      by_cases k_16 : zz = (15 : Int32)
      · refine lv_tableIn (x := zz) (off := 1098) (tgt := 1158) hx hb d_La_law_60 (by rw [k_16]; decide +kernel) (by rw [k_16]; decide +kernel) (by rw [k_16]; decide +kernel) (by decide) ?_
        exact l_begin hall.2.2.2.2.2.2.2.2.2.2.2.2.2.2.2.2.2.2.2.1 hpre C hL hiL (by omega) (by omega) hV hS hl kc
      by_cases k_17 : zz = (16 : Int32)
      · refine lv_tableIn (x := zz) (off := 1159) (tgt := 1219) hx hb d_La_law_60 (by rw [k_17]; decide +kernel) (by rw [k_17]; decide +kernel) (by rw [k_17]; decide +kernel) (by decide) ?_
        exact l_work hall.2.2.2.2.2.2.2.2.2.2.2.2.2.1 hpre C hL hiL (by omega) (by omega) hV hS hl kc
      by_cases k_18 : zz = (17 : Int32)
      · refine lv_tableIn (x := zz) (off := 1222) (tgt := 1282) hx hb d_La_law_60 (by rw [k_18]; decide +kernel) (by rw [k_18]; decide +kernel) (by rw [k_18]; decide +kernel) (by decide) ?_
        exact l_end hall.2.2.2.2.2.2.2.2.2.2.2.2.2.2.1 hpre C hL hiL (by omega) (by omega) hV hS hl kc
      by_cases k_19 : zz = (18 : Int32)
      · refine lv_tableIn (x := zz) (off := 1306) (tgt := 1366) hx hb d_La_law_60 (by rw [k_19]; decide +kernel) (by rw [k_19]; decide +kernel) (by rw [k_19]; decide +kernel) (by decide) ?_
        exact l_version hall.2.2.2.2.2.2.2.2.2.2.2.2.2.2.2.1 hpre C hL hiL (by omega) (by omega) hV hS hl kc
      by_cases k_20 : zz = (19 : Int32)
      · refine lv_tableIn (x := zz) (off := 1350) (tgt := 1410) hx hb d_La_law_60 (by rw [k_20]; decide +kernel) (by rw [k_20]; decide +kernel) (by rw [k_20]; decide +kernel) (by decide) ?_
        exact l_back hall.2.2.2.2.2.2.2.2.2.2.2.2.2.2.2.2.1 hpre C hL hiL (by omega) (by omega) hV hS hl kc
      by_cases k_21 : zz = (20 : Int32)
      · refine lv_tableIn (x := zz) (off := 1406) (tgt := 1466) hx hb d_La_law_60 (by rw [k_21]; decide +kernel) (by rw [k_21]; decide +kernel) (by rw [k_21]; decide +kernel) (by decide) ?_
        exact l_told hall.2.2.2.2.2.2.2.2.2.2.2.2.2.2.2.2.2.2.2.2.1 hpre C hL hiL (by omega) (by omega) hV hS hl kc
      refine lv_tableOut (x := zz) (tgt := 1479) hx hb d_La_law_60 (by have qk_1 := lv_neT (a := 0) k_1 (by decide); have qk_2 := lv_neT (a := 1) k_2 (by decide); have qk_3 := lv_neT (a := 2) k_3 (by decide); have qk_4 := lv_neT (a := 3) k_4 (by decide); have qk_5 := lv_neT (a := 4) k_5 (by decide); have qk_6 := lv_neT (a := 5) k_6 (by decide); have qk_7 := lv_neT (a := 6) k_7 (by decide); have qk_8 := lv_neT (a := 7) k_8 (by decide); have qk_9 := lv_neT (a := 8) k_9 (by decide); have qk_10 := lv_neT (a := 9) k_10 (by decide); have qk_11 := lv_neT (a := 10) k_11 (by decide); have qk_12 := lv_neT (a := 11) k_12 (by decide); have qk_13 := lv_neT (a := 12) k_13 (by decide); have qk_14 := lv_neT (a := 13) k_14 (by decide); have qk_15 := lv_neT (a := 14) k_15 (by decide); have qk_16 := lv_neT (a := 15) k_16 (by decide); have qk_17 := lv_neT (a := 16) k_17 (by decide); have qk_18 := lv_neT (a := 17) k_18 (by decide); have qk_19 := lv_neT (a := 18) k_19 (by decide); have qk_20 := lv_neT (a := 19) k_20 (by decide); have qk_21 := lv_neT (a := 20) k_21 (by decide); omega) (by decide) ?_
      refine W.widen (k := cells + 4) (n := slots + 159) (by omega) (by omega) ?_
      exact kc V b σ ρ g H locs ls rfl hL hV hS hl
    · exact hex i cells slots b H locs ls hi hiL (by omega) (by omega) hS hl
