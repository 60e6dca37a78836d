/-! the model: near, back -/
def moNrF (ρ : MS) (wh : Int32) : Nat → Nat → Nat → Int32
  | _, 0, _ => -1
  | i, n + 1, q => match nthF (moPr ρ i) (i + 1) (140 - (i + 1)) q with
    | some u => moHan (nI (if wh = 0 then i else u))
    | none => moNrF ρ wh (i + 1) n (q - moCkR ρ i)
theorem moNrF_step {ρ : MS} {wh : Int32} {i N q : Nat} (h : i < N) : moNrF ρ wh i (N - i) q = match nthF (moPr ρ i) (i + 1) (140 - (i + 1)) q with
    | some u => moHan (nI (if wh = 0 then i else u))
    | none => moNrF ρ wh (i + 1) (N - (i + 1)) (q - moCkR ρ i) := by
  rw [show N - i = (N - (i + 1)) + 1 by omega]; rfl
theorem moNrF_end {ρ : MS} {wh : Int32} {i N q : Nat} (h : N ≤ i) : moNrF ρ wh i (N - i) q = -1 := by
  rw [show N - i = 0 by omega]; rfl
theorem moNr_some {ρ : MS} {wh : Int32} {i N q u : Nat} (h : i < N) (e : nthF (moPr ρ i) (i + 1) (140 - (i + 1)) q = some u) : moNrF ρ wh i (N - i) q = moHan (nI (if wh = 0 then i else u)) := by
  rw [moNrF_step h, e]
theorem moNr_none {ρ : MS} {wh : Int32} {i N q d : Nat} (h : i < N) (e : nthF (moPr ρ i) (i + 1) (140 - (i + 1)) q = none) (hd : q = d + moCkR ρ i) : moNrF ρ wh i (N - i) q = moNrF ρ wh (i + 1) (N - (i + 1)) d := by
  rw [moNrF_step h, e, hd, Nat.add_sub_cancel]
theorem bI_or (b : Bool) : bI b = 0 ∨ bI b = 1 := by cases b <;> simp [bI]
theorem moKind_n : ∀ t, t < 150 → moKind (nI t) = nI (slK t) := by decide +kernel
theorem moSub_n : ∀ t, t < 150 → nI t - moBase (nI (slK t)) = nI (slN t) := by decide +kernel
def knw (ρ : MS) (v t : Nat) : Bool := !decide (ρ.I 19 (8 * v + slK t) ≤ nI (slN t))
def moBkN (ρ : MS) (v t : Nat) : Int32 := bI (knw ρ v t && !decide (ρ.I 20 (150 * v + t) = 0))
def moBkO (ρ : MS) (v t : Nat) : Bool := !decide (ρ.I 1 t = moBkN ρ v t) || (knw ρ v t && (!decide (ρ.I 2 t = ρ.I 21 (150 * v + t)) || !decide (ρ.I 3 t = ρ.I 22 (150 * v + t))))
def moBkS (ρ : MS) (v t : Nat) : MS := ((ρ.wI 1 (upd (ρ.I 1) t (moBkN ρ v t))).wI 2 (upd (ρ.I 2) t (if knw ρ v t = true then ρ.I 21 (150 * v + t) else ρ.I 2 t))).wI 3 (upd (ρ.I 3) t (if knw ρ v t = true then ρ.I 22 (150 * v + t) else ρ.I 3 t))
def moBkL (ρ : MS) (v : Nat) : Nat → MS
  | 0 => ρ
  | n + 1 => moBkS (moBkL ρ v n) v n
def moBkC (ρ : MS) (v : Nat) : Nat → Nat
  | 0 => 0
  | n + 1 => moBkC ρ v n + (if moBkO (moBkL ρ v n) v n = true then 1 else 0)
def moBack (ρ : MS) (h : Int32) : Int32 × MS := if moFault (ρ.I 0) h 7 = 0 then (if anyF (moOpn ρ.I) 0 10 = true then (0, ρ.ws 0 3) else (nI (moBkC (ρ.ws 0 0) (hdN h) 150), moBkL (ρ.ws 0 0) (hdN h) 150)) else (0, ρ.ws 0 (moFault (ρ.I 0) h 7))
set_option maxHeartbeats 4000000 in
set_option maxRecDepth 100000 in
/-- near -/
theorem c_Mo_near (l : Launch) (D : va_G) (N0 : Nat) (k : Nat → Nat) (V : HV) (mo : Nat) (ad : Nat → Nat) (ρ : MS) (hM : mdOk k V mo ad ρ) (q0 : Nat) (hq0 : q0 < 2 ^ 31) (wh : Int32) (hok : (decide (wh = 0) || decide (wh = 1)) = true) : Met l y_Mo_near (.code y_Mo_near b_Mo_near 6 (some .int) :: WS) ({ frames := 4, cells := 0, slots := 0, locals := 88 }) (mP D N0 k [.ref mo, .int (nI q0), .int wh] V) (va_Qi (fun r V' => mdOk k V' mo ad (ρ.ws 0 0) ∧ mdFr mo ad V V' ∧ r = moNrF ρ wh 20 120 q0) (mB D N0) (hA N0)) 0 0 (hA N0) := by
  refine Met.ofW (cc := b_Mo_near) (maxL := 6) (ret := (some .int)) (by decide) rfl ?_
  intro p e s m args below meth c s₁ B hml hv0
  obtain ⟨rfl, hG, hV⟩ := hv0
  have hx := B.exec
  have hb := B.bytes
  have hr := B.returns
  have hts := atoms_spec (ws := .code y_Mo_near b_Mo_near 6 (some .int) :: WS) B.pre
  have hW : ∀ w ∈ WS, w.before _ s = true := fun w h => hts w (List.mem_cons_of_mem _ h)
  have hown : s.vm.findClass "BoardHouseModel" = some m.cls := findClass_of_methodNamed B.named
  have hlocks := B.notSynchronized
  have hS : va_S (hA N0) s.heap s.heap [] := va_S.rf
  have hl := lv_entry ([.ref mo, .int (nI q0), .int wh]) (n := 6) (Nat.le_of_ble_eq_true rfl)
  rw [lg_entry_eq]
  generalize (lg_sl ([.ref mo, .int (nI q0), .int wh]) ++ List.replicate (6 - (lg_sl ([.ref mo, .int (nI q0), .int wh])).length) Slot.unset).toArray = ls at hl ⊢
  have hl : lv_has ls 6 [(0, .ref mo), (1, .int (nI q0)), (2, .int wh)] := hl
  have hm_1 : V mo = some (.inr (7, [.int (ρ.s 0), .int (ρ.s 1), .int (ρ.s 2), .int (ρ.s 3), .ref (ad 0), .ref (ad 1), .ref (ad 2), .ref (ad 3), .ref (ad 4), .ref (ad 5), .ref (ad 6), .ref (ad 7), .ref (ad 8), .int (ρ.s 4), .ref (ad 9), .ref (ad 10), .ref (ad 11), .ref (ad 12), .ref (ad 13), .ref (ad 14), .ref (ad 15), .ref (ad 16), .ref (ad 17), .ref (ad 18), .ref (ad 19), .ref (ad 20), .ref (ad 21), .ref (ad 22), .ref (ad 23), .ref (ad 24), .ref (ad 25)])) := hM.1
  refine lv_aload_n hx hb d_Mo_near_0 rfl (lv_at hl 0 rfl) ?_
  refine lv_iload_n hx hb d_Mo_near_1 rfl (lv_at hl 2 rfl) ?_
  refine lv_if_eq (tgt := 10) hx hb d_Mo_near_2 (by decide) (fun c_2 => ?_) (fun c_2 => ?_)
  · refine lv_iconst (v := 0) hx hb d_Mo_near_10 (by decide) ?_
    refine lv_goto (tgt := 15) hx hb d_Mo_near_11 (by decide) ?_
    refine pf_Mo_100 hx hb hW hown hG hV hS hm_1 d_Mo_near_15 (fun H locs hV hS => ?_)
    replace hV : hv D vwCl N0 (hu V mo (.inr (7, [.int 0, .int (ρ.s 1), .int (ρ.s 2), .int (ρ.s 3), .ref (ad 0), .ref (ad 1), .ref (ad 2), .ref (ad 3), .ref (ad 4), .ref (ad 5), .ref (ad 6), .ref (ad 7), .ref (ad 8), .int (ρ.s 4), .ref (ad 9), .ref (ad 10), .ref (ad 11), .ref (ad 12), .ref (ad 13), .ref (ad 14), .ref (ad 15), .ref (ad 16), .ref (ad 17), .ref (ad 18), .ref (ad 19), .ref (ad 20), .ref (ad 21), .ref (ad 22), .ref (ad 23), .ref (ad 24), .ref (ad 25)]))) H := hV
    generalize hV_V_3 : hu V mo (.inr (7, [.int 0, .int (ρ.s 1), .int (ρ.s 2), .int (ρ.s 3), .ref (ad 0), .ref (ad 1), .ref (ad 2), .ref (ad 3), .ref (ad 4), .ref (ad 5), .ref (ad 6), .ref (ad 7), .ref (ad 8), .int (ρ.s 4), .ref (ad 9), .ref (ad 10), .ref (ad 11), .ref (ad 12), .ref (ad 13), .ref (ad 14), .ref (ad 15), .ref (ad 16), .ref (ad 17), .ref (ad 18), .ref (ad 19), .ref (ad 20), .ref (ad 21), .ref (ad 22), .ref (ad 23), .ref (ad 24), .ref (ad 25)])) = V_3 at hV
    have hM_3 : mdOk k V_3 mo ad (ρ.ws 0 0) := by rw [← hV_V_3]; exact md_put hM 0 0
    have hR_3 : mdFr mo ad V V_3 := by rw [← hV_V_3]; exact (mdFr.rf (mo := mo) (ad := ad) (V := V)).m
    have hm_4 : V_3 mo = some (.inr (7, [.int 0, .int (ρ.s 1), .int (ρ.s 2), .int (ρ.s 3), .ref (ad 0), .ref (ad 1), .ref (ad 2), .ref (ad 3), .ref (ad 4), .ref (ad 5), .ref (ad 6), .ref (ad 7), .ref (ad 8), .int (ρ.s 4), .ref (ad 9), .ref (ad 10), .ref (ad 11), .ref (ad 12), .ref (ad 13), .ref (ad 14), .ref (ad 15), .ref (ad 16), .ref (ad 17), .ref (ad 18), .ref (ad 19), .ref (ad 20), .ref (ad 21), .ref (ad 22), .ref (ad 23), .ref (ad 24), .ref (ad 25)])) := hM_3.1
    refine lv_aload_n hx hb d_Mo_near_18 rfl (lv_at hl 0 rfl) ?_
    refine gf_Mo_100 hx hb hW hown hG hV hm_4 d_Mo_near_19 ?_
    refine lv_if_eq (tgt := 27) hx hb d_Mo_near_22 (by decide) (fun _ => ?_) (fun q => absurd q (by decide))
    refine lv_iload_n hx hb d_Mo_near_27 rfl (lv_at hl 1 rfl) ?_
    refine lv_istore_n (lv' := [(3, .int (nI q0)), (0, .ref mo), (1, .int (nI q0)), (2, .int wh)]) hx hb d_Mo_near_28 rfl hl (by decide) rfl (fun ls hl => ?_)
    refine lv_bipush (v := 20) hx hb d_Mo_near_29 (by decide) ?_
    refine lv_istore (lv' := [(4, .int 20), (3, .int (nI q0)), (0, .ref mo), (1, .int (nI q0)), (2, .int wh)]) hx hb d_Mo_near_31 hl (by decide) rfl (fun ls hl => ?_)
    have loop_5 : ∀ (n i : Nat) (c0 : Nat) (H : Heap) (locs : List Loc) (ls : Array Slot), i ≤ 140 → 140 + 1 ≤ i + n → (moNrF ρ wh 20 120 q0 = moNrF ρ wh i (140 - i) c0 ∧ 20 ≤ i ∧ c0 < 2 ^ 31) → hv D vwCl N0 V_3 H → va_S (hA N0) s.heap H locs → lv_has ls 6 [(0, .ref mo), (1, .int (nI q0)), (2, .int wh), (3, .int (nI c0)), (4, .int (nI i))] → W p l e (headSpec (.code y_Mo_near b_Mo_near 6 (some .int) :: WS) ({ frames := 4, cells := 0, slots := 0, locals := 88 })).room s m #[.ref mo, .int (nI q0), .int wh] below meth c H locs 0 0 (MQ below (va_Qi (fun r V' => mdOk k V' mo ad (ρ.ws 0 0) ∧ mdFr mo ad V V' ∧ r = moNrF ρ wh 20 120 q0) (mB D N0) (hA N0)) #[.ref mo, .int (nI q0), .int wh] s 0 0 (hA N0)) (F0 m 33 ls []) := by
      intro n
      induction n with
      | zero => intro i c0 H locs ls h1 h2; exact absurd h2 (by omega)
      | succ n ih =>
        intro i c0 H locs ls hi hin hI hV hS hl
        refine lv_iload hx hb d_Mo_near_33 (lv_at hl 4 rfl) ?_
        refine lv_sipush (v := 140) hx hb d_Mo_near_35 (by decide) ?_
        refine lv_icmp_ge (tgt := 107) hx hb d_Mo_near_38 (by decide) (fun c_6 => ?_) (fun c_6 => ?_)
        · have hge : 140 ≤ i := nI_le' (a := 140) (b := i) c_6 (by decide) (by omega)
          refine lv_iconst (v := (-1)) hx hb d_Mo_near_107 (by decide) ?_
          try simp only [bI_ne0, bI_eq0, decide_eq_true_eq, decide_eq_false_iff_not, Bool.not_eq_false, Bool.not_eq_true, Decidable.not_not] at c_2
          try simp only [bI_ne0, bI_eq0, decide_eq_true_eq, decide_eq_false_iff_not, Bool.not_eq_false, Bool.not_eq_true, Decidable.not_not] at c_6
          exact W.iret (v := (-1)) hx hb hr (fun t9 ht hW => ⟨⟨(-1), V_3, rfl, ⟨hM_3, hR_3, by rw [hI.1, moNrF_end hge]⟩, mB_of ht hV⟩, hS.F ht⟩) hS.2.2 d_Mo_near_108
        · have hlt : i < 140 := nI_nle' (a := 140) (b := i) c_6 (by decide) (by omega)
          refine lv_iload_n hx hb d_Mo_near_41 rfl (lv_at hl 1 rfl) ?_
          refine lv_if_lt (tgt := 107) hx hb d_Mo_near_42 (by decide) (fun c_7 => ?_) (fun c_7 => ?_)
          · have c_7 := i_nle c_7
            exact absurd (nI_le (a := 0) (b := q0) (by omega) hq0) c_7
          · have c_7 := i_le c_7
            refine lv_iload hx hb d_Mo_near_45 (lv_at hl 4 rfl) ?_
            refine lv_iconst (v := 1) hx hb d_Mo_near_47 (by decide) ?_
            refine lv_iadd hx hb d_Mo_near_48 ?_
            refine lv_istore (lv' := [(5, .int ((nI i) + 1)), (0, .ref mo), (1, .int (nI q0)), (2, .int wh), (3, .int (nI c0)), (4, .int (nI i))]) hx hb d_Mo_near_49 hl (by decide) rfl (fun ls hl => ?_)
            rw [nI_1] at hl
            have loop_8 : ∀ (nb ib : Nat) (d0 : Nat) (H : Heap) (locs : List Loc) (ls : Array Slot), ib ≤ 140 → 140 + 1 ≤ ib + nb → (nthF (moPr ρ i) (i + 1) (140 - (i + 1)) c0 = nthF (moPr ρ i) ib (140 - ib) d0 ∧ c0 + cntF (moPr ρ i) ib (140 - ib) = d0 + moCkR ρ i ∧ d0 ≤ c0 ∧ i < ib) → hv D vwCl N0 V_3 H → va_S (hA N0) s.heap H locs → lv_has ls 6 [(0, .ref mo), (1, .int (nI q0)), (2, .int wh), (3, .int (nI d0)), (4, .int (nI i)), (5, .int (nI ib))] → W p l e (headSpec (.code y_Mo_near b_Mo_near 6 (some .int) :: WS) ({ frames := 4, cells := 0, slots := 0, locals := 88 })).room s m #[.ref mo, .int (nI q0), .int wh] below meth c H locs 0 0 (MQ below (va_Qi (fun r V' => mdOk k V' mo ad (ρ.ws 0 0) ∧ mdFr mo ad V V' ∧ r = moNrF ρ wh 20 120 q0) (mB D N0) (hA N0)) #[.ref mo, .int (nI q0), .int wh] s 0 0 (hA N0)) (F0 m 51 ls []) := by
              intro nb
              induction nb with
              | zero => intro ib d0 H locs ls h1 h2; exact absurd h2 (by omega)
              | succ nb ihb =>
                intro ib d0 H locs ls hib hinb hIb hV hS hl
                refine lv_iload hx hb d_Mo_near_51 (lv_at hl 5 rfl) ?_
                refine lv_sipush (v := 140) hx hb d_Mo_near_53 (by decide) ?_
                refine lv_icmp_ge (tgt := 101) hx hb d_Mo_near_56 (by decide) (fun c_9 => ?_) (fun c_9 => ?_)
                · have hgeb : 140 ≤ ib := nI_le' (a := 140) (b := ib) c_9 (by decide) (by omega)
                  obtain ⟨i_10, ei_10⟩ : ∃ y : Int32, y = (nI i) + 1 := ⟨_, rfl⟩
                  refine lv_iinc (v := i_10) (lv' := [(4, .int i_10), (0, .ref mo), (1, .int (nI q0)), (2, .int wh), (3, .int (nI d0)), (5, .int (nI ib))]) hx hb d_Mo_near_101 hl (k := 4) rfl (by rw [ei_10]; rfl) (by decide) rfl (fun ls hl => ?_)
                  refine lv_goto (tgt := 33) hx hb d_Mo_near_104 (by decide) ?_
                  rw [nI_1] at ei_10
                  subst ei_10
                  exact ih (i + 1) d0 _ _ _ (by omega) (by omega) (⟨by rw [hI.1]; exact moNr_none hlt (by rw [hIb.1, nthF_end hgeb]) (by have q9 := hIb.2.1; rw [cntF_end hgeb] at q9; omega), by omega, by omega⟩) hV hS (lv_sub hl [1, 2, 3, 4, 0] rfl)
                · have hltb : ib < 140 := nI_nle' (a := 140) (b := ib) c_9 (by decide) (by omega)
                  refine lv_aload_n hx hb d_Mo_near_59 rfl (lv_at hl 0 rfl) ?_
                  refine lv_iload hx hb d_Mo_near_60 (lv_at hl 4 rfl) ?_
                  refine lv_iload hx hb d_Mo_near_62 (lv_at hl 5 rfl) ?_
                  refine rc_i (va_runV (As := [.int (nI i), .int (nI ib)]) (rest := []) ⟨hx, hb, hml, hown, hts⟩ (c_Mo_isPair l D N0 k V_3 mo ad (ρ.ws 0 0) hM_3 i ib (by omega) (by omega)) (cwV 2 hts (gi_V wm_Mo_242 wv_Mo_isPair ws_Mo_isPair wi_Mo wc_Mo_isPair) rfl rfl rfl (by decide +kernel) ⟨Nat.le_of_ble_eq_true rfl, Nat.le_of_ble_eq_true rfl⟩) (mP.preV hG hS hV hm_4 rfl) rfl rfl hl.1 rfl (lv_room (Nat.le_of_ble_eq_true rfl)) d_Mo_near_64 ⟨Nat.le_of_ble_eq_true rfl, Nat.le_of_ble_eq_true rfl⟩) hS (fun H locs hV hS => ?_)
                  refine W.eq (g2 := F0 m 67 ls [.int (bI (moPr ρ i ib))]) rfl ?_
                  refine lv_if_ne (tgt := 73) hx hb d_Mo_near_67 (by decide) (fun c_11 => ?_) (fun c_11 => ?_)
                  · refine lv_iload_n hx hb d_Mo_near_73 rfl (lv_at hl 3 rfl) ?_
                    refine lv_if_ne (tgt := 92) hx hb d_Mo_near_74 (by decide) (fun c_12 => ?_) (fun c_12 => ?_)
                    · obtain ⟨i_13, ei_13⟩ : ∃ y : Int32, y = (nI d0) + (-1) := ⟨_, rfl⟩
                      refine lv_iinc (v := i_13) (lv' := [(3, .int i_13), (0, .ref mo), (1, .int (nI q0)), (2, .int wh), (4, .int (nI i)), (5, .int (nI ib))]) hx hb d_Mo_near_92 hl (k := 3) rfl (by rw [ei_13]; rfl) (by decide) rfl (fun ls hl => ?_)
                      obtain ⟨i_14, ei_14⟩ : ∃ y : Int32, y = (nI ib) + 1 := ⟨_, rfl⟩
                      refine lv_iinc (v := i_14) (lv' := [(5, .int i_14), (3, .int i_13), (0, .ref mo), (1, .int (nI q0)), (2, .int wh), (4, .int (nI i))]) hx hb d_Mo_near_95 hl (k := 5) rfl (by rw [ei_14]; rfl) (by decide) rfl (fun ls hl => ?_)
                      refine lv_goto (tgt := 51) hx hb d_Mo_near_98 (by decide) ?_
                      rw [nI_1] at ei_14
                      subst ei_14
                      try simp only [bI_ne0, bI_eq0, decide_eq_true_eq, decide_eq_false_iff_not, Bool.not_eq_false, Bool.not_eq_true, Decidable.not_not] at c_2
                      try simp only [bI_ne0, bI_eq0, decide_eq_true_eq, decide_eq_false_iff_not, Bool.not_eq_false, Bool.not_eq_true, Decidable.not_not] at c_6
                      try simp only [bI_ne0, bI_eq0, decide_eq_true_eq, decide_eq_false_iff_not, Bool.not_eq_false, Bool.not_eq_true, Decidable.not_not] at c_7
                      try simp only [bI_ne0, bI_eq0, decide_eq_true_eq, decide_eq_false_iff_not, Bool.not_eq_false, Bool.not_eq_true, Decidable.not_not] at c_9
                      try simp only [bI_ne0, bI_eq0, decide_eq_true_eq, decide_eq_false_iff_not, Bool.not_eq_false, Bool.not_eq_true, Decidable.not_not] at c_11
                      try simp only [bI_ne0, bI_eq0, decide_eq_true_eq, decide_eq_false_iff_not, Bool.not_eq_false, Bool.not_eq_true, Decidable.not_not] at c_12
                      obtain ⟨d1, hd1⟩ : ∃ z, d0 = z + 1 := ⟨d0 - 1, by have : d0 ≠ 0 := (fun q => c_12 (by rw [q]; rfl)); omega⟩
                      subst hd1
                      rw [pk_m1] at ei_13
                      subst ei_13
                      exact ihb (ib + 1) d1 _ _ _ (by omega) (by omega) (⟨by rw [hIb.1, nthF_step hltb, c_11]; simp, by have q9 := hIb.2.1; rw [cntF_step hltb, c_11, if_pos rfl] at q9; omega, by omega, by omega⟩) hV hS (lv_sub hl [2, 3, 4, 1, 5, 0] rfl)
                    · refine lv_iload_n hx hb d_Mo_near_77 rfl (lv_at hl 2 rfl) ?_
                      refine lv_if_ne (tgt := 86) hx hb d_Mo_near_78 (by decide) (fun c_15 => ?_) (fun c_15 => ?_)
                      · refine lv_iload hx hb d_Mo_near_86 (lv_at hl 5 rfl) ?_
                        refine rc_i (va_runS (As := [.int (nI ib)]) (rest := []) ⟨hx, hb, hml, hown, hts⟩ (c_Mo_handleOf l D N0 k V_3 (nI ib)) (va_cwS 1 hts (gi_S wm_Mo_143 wt_Mo_handleOf wi_Mo wc_Mo_handleOf) rfl rfl rfl (by decide +kernel) ⟨Nat.le_of_ble_eq_true rfl, Nat.le_of_ble_eq_true rfl⟩) (mP.preS hG hS hV) rfl rfl hl.1 rfl (lv_room (Nat.le_of_ble_eq_true rfl)) d_Mo_near_88 ⟨Nat.le_of_ble_eq_true rfl, Nat.le_of_ble_eq_true rfl⟩) hS (fun H locs hV hS => ?_)
                        try simp only [bI_ne0, bI_eq0, decide_eq_true_eq, decide_eq_false_iff_not, Bool.not_eq_false, Bool.not_eq_true, Decidable.not_not] at c_2
                        try simp only [bI_ne0, bI_eq0, decide_eq_true_eq, decide_eq_false_iff_not, Bool.not_eq_false, Bool.not_eq_true, Decidable.not_not] at c_6
                        try simp only [bI_ne0, bI_eq0, decide_eq_true_eq, decide_eq_false_iff_not, Bool.not_eq_false, Bool.not_eq_true, Decidable.not_not] at c_7
                        try simp only [bI_ne0, bI_eq0, decide_eq_true_eq, decide_eq_false_iff_not, Bool.not_eq_false, Bool.not_eq_true, Decidable.not_not] at c_9
                        try simp only [bI_ne0, bI_eq0, decide_eq_true_eq, decide_eq_false_iff_not, Bool.not_eq_false, Bool.not_eq_true, Decidable.not_not] at c_11
                        try simp only [bI_ne0, bI_eq0, decide_eq_true_eq, decide_eq_false_iff_not, Bool.not_eq_false, Bool.not_eq_true, Decidable.not_not] at c_12
                        try simp only [bI_ne0, bI_eq0, decide_eq_true_eq, decide_eq_false_iff_not, Bool.not_eq_false, Bool.not_eq_true, Decidable.not_not] at c_15
                        have hd9 : d0 = 0 := (nI_eq (by omega) (by decide)).mp c_12
                        have hn9 : nthF (moPr ρ i) (i + 1) (140 - (i + 1)) c0 = some ib := by rw [hIb.1, nthF_step hltb, c_11, hd9]; simp
                        exact W.iret (v := (moHan (nI ib))) hx hb hr (fun t9 ht hW => ⟨⟨(moHan (nI ib)), V_3, rfl, ⟨hM_3, hR_3, by rw [hI.1, moNr_some hlt hn9, if_neg c_15]⟩, mB_of ht hV⟩, hS.F ht⟩) hS.2.2 d_Mo_near_91
                      · refine lv_iload hx hb d_Mo_near_81 (lv_at hl 4 rfl) ?_
                        refine lv_goto (tgt := 88) hx hb d_Mo_near_83 (by decide) ?_
                        refine rc_i (va_runS (As := [.int (nI i)]) (rest := []) ⟨hx, hb, hml, hown, hts⟩ (c_Mo_handleOf l D N0 k V_3 (nI i)) (va_cwS 1 hts (gi_S wm_Mo_143 wt_Mo_handleOf wi_Mo wc_Mo_handleOf) rfl rfl rfl (by decide +kernel) ⟨Nat.le_of_ble_eq_true rfl, Nat.le_of_ble_eq_true rfl⟩) (mP.preS hG hS hV) rfl rfl hl.1 rfl (lv_room (Nat.le_of_ble_eq_true rfl)) d_Mo_near_88 ⟨Nat.le_of_ble_eq_true rfl, Nat.le_of_ble_eq_true rfl⟩) hS (fun H locs hV hS => ?_)
                        try simp only [bI_ne0, bI_eq0, decide_eq_true_eq, decide_eq_false_iff_not, Bool.not_eq_false, Bool.not_eq_true, Decidable.not_not] at c_2
                        try simp only [bI_ne0, bI_eq0, decide_eq_true_eq, decide_eq_false_iff_not, Bool.not_eq_false, Bool.not_eq_true, Decidable.not_not] at c_6
                        try simp only [bI_ne0, bI_eq0, decide_eq_true_eq, decide_eq_false_iff_not, Bool.not_eq_false, Bool.not_eq_true, Decidable.not_not] at c_7
                        try simp only [bI_ne0, bI_eq0, decide_eq_true_eq, decide_eq_false_iff_not, Bool.not_eq_false, Bool.not_eq_true, Decidable.not_not] at c_9
                        try simp only [bI_ne0, bI_eq0, decide_eq_true_eq, decide_eq_false_iff_not, Bool.not_eq_false, Bool.not_eq_true, Decidable.not_not] at c_11
                        try simp only [bI_ne0, bI_eq0, decide_eq_true_eq, decide_eq_false_iff_not, Bool.not_eq_false, Bool.not_eq_true, Decidable.not_not] at c_12
                        try simp only [bI_ne0, bI_eq0, decide_eq_true_eq, decide_eq_false_iff_not, Bool.not_eq_false, Bool.not_eq_true, Decidable.not_not] at c_15
                        have hd9 : d0 = 0 := (nI_eq (by omega) (by decide)).mp c_12
                        have hn9 : nthF (moPr ρ i) (i + 1) (140 - (i + 1)) c0 = some ib := by rw [hIb.1, nthF_step hltb, c_11, hd9]; simp
                        exact W.iret (v := (moHan (nI i))) hx hb hr (fun t9 ht hW => ⟨⟨(moHan (nI i)), V_3, rfl, ⟨hM_3, hR_3, by rw [hI.1, moNr_some hlt hn9, if_pos c_15]⟩, mB_of ht hV⟩, hS.F ht⟩) hS.2.2 d_Mo_near_91
                  · refine lv_goto (tgt := 95) hx hb d_Mo_near_70 (by decide) ?_
                    obtain ⟨i_16, ei_16⟩ : ∃ y : Int32, y = (nI ib) + 1 := ⟨_, rfl⟩
                    refine lv_iinc (v := i_16) (lv' := [(5, .int i_16), (0, .ref mo), (1, .int (nI q0)), (2, .int wh), (3, .int (nI d0)), (4, .int (nI i))]) hx hb d_Mo_near_95 hl (k := 5) rfl (by rw [ei_16]; rfl) (by decide) rfl (fun ls hl => ?_)
                    refine lv_goto (tgt := 51) hx hb d_Mo_near_98 (by decide) ?_
                    rw [nI_1] at ei_16
                    subst ei_16
                    try simp only [bI_ne0, bI_eq0, decide_eq_true_eq, decide_eq_false_iff_not, Bool.not_eq_false, Bool.not_eq_true, Decidable.not_not] at c_2
                    try simp only [bI_ne0, bI_eq0, decide_eq_true_eq, decide_eq_false_iff_not, Bool.not_eq_false, Bool.not_eq_true, Decidable.not_not] at c_6
                    try simp only [bI_ne0, bI_eq0, decide_eq_true_eq, decide_eq_false_iff_not, Bool.not_eq_false, Bool.not_eq_true, Decidable.not_not] at c_7
                    try simp only [bI_ne0, bI_eq0, decide_eq_true_eq, decide_eq_false_iff_not, Bool.not_eq_false, Bool.not_eq_true, Decidable.not_not] at c_9
                    try simp only [bI_ne0, bI_eq0, decide_eq_true_eq, decide_eq_false_iff_not, Bool.not_eq_false, Bool.not_eq_true, Decidable.not_not] at c_11
                    exact ihb (ib + 1) d0 _ _ _ (by omega) (by omega) (⟨by rw [hIb.1, nthF_step hltb, c_11]; simp, by have q9 := hIb.2.1; rw [cntF_step hltb, c_11, if_neg Bool.false_ne_true] at q9; omega, by omega, by omega⟩) hV hS (lv_sub hl [1, 2, 3, 4, 5, 0] rfl)
            exact loop_8 (140 + 1 - (i + 1)) (i + 1) c0 _ _ _ (by omega) (by omega) (⟨rfl, rfl, Nat.le_refl _, by omega⟩) hV hS (lv_sub hl [1, 2, 3, 4, 5, 0] rfl)
    exact loop_5 (140 + 1 - 20) 20 q0 _ _ _ (by omega) (by omega) (⟨rfl, by omega, hq0⟩) hV hS (lv_sub hl [2, 3, 4, 1, 0] rfl)
  · refine lv_iload_n hx hb d_Mo_near_5 rfl (lv_at hl 2 rfl) ?_
    refine lv_iconst (v := 1) hx hb d_Mo_near_6 (by decide) ?_
    refine lv_icmp_ne (tgt := 14) hx hb d_Mo_near_7 (by decide) (fun c_17 => ?_) (fun c_17 => ?_)
    · exact absurd hok (by simp [c_2, c_17])
    · refine lv_iconst (v := 0) hx hb d_Mo_near_10 (by decide) ?_
      refine lv_goto (tgt := 15) hx hb d_Mo_near_11 (by decide) ?_
      refine pf_Mo_100 hx hb hW hown hG hV hS hm_1 d_Mo_near_15 (fun H locs hV hS => ?_)
      replace hV : hv D vwCl N0 (hu V mo (.inr (7, [.int 0, .int (ρ.s 1), .int (ρ.s 2), .int (ρ.s 3), .ref (ad 0), .ref (ad 1), .ref (ad 2), .ref (ad 3), .ref (ad 4), .ref (ad 5), .ref (ad 6), .ref (ad 7), .ref (ad 8), .int (ρ.s 4), .ref (ad 9), .ref (ad 10), .ref (ad 11), .ref (ad 12), .ref (ad 13), .ref (ad 14), .ref (ad 15), .ref (ad 16), .ref (ad 17), .ref (ad 18), .ref (ad 19), .ref (ad 20), .ref (ad 21), .ref (ad 22), .ref (ad 23), .ref (ad 24), .ref (ad 25)]))) H := hV
      generalize hV_V_18 : hu V mo (.inr (7, [.int 0, .int (ρ.s 1), .int (ρ.s 2), .int (ρ.s 3), .ref (ad 0), .ref (ad 1), .ref (ad 2), .ref (ad 3), .ref (ad 4), .ref (ad 5), .ref (ad 6), .ref (ad 7), .ref (ad 8), .int (ρ.s 4), .ref (ad 9), .ref (ad 10), .ref (ad 11), .ref (ad 12), .ref (ad 13), .ref (ad 14), .ref (ad 15), .ref (ad 16), .ref (ad 17), .ref (ad 18), .ref (ad 19), .ref (ad 20), .ref (ad 21), .ref (ad 22), .ref (ad 23), .ref (ad 24), .ref (ad 25)])) = V_18 at hV
      have hM_18 : mdOk k V_18 mo ad (ρ.ws 0 0) := by rw [← hV_V_18]; exact md_put hM 0 0
      have hR_18 : mdFr mo ad V V_18 := by rw [← hV_V_18]; exact (mdFr.rf (mo := mo) (ad := ad) (V := V)).m
      have hm_19 : V_18 mo = some (.inr (7, [.int 0, .int (ρ.s 1), .int (ρ.s 2), .int (ρ.s 3), .ref (ad 0), .ref (ad 1), .ref (ad 2), .ref (ad 3), .ref (ad 4), .ref (ad 5), .ref (ad 6), .ref (ad 7), .ref (ad 8), .int (ρ.s 4), .ref (ad 9), .ref (ad 10), .ref (ad 11), .ref (ad 12), .ref (ad 13), .ref (ad 14), .ref (ad 15), .ref (ad 16), .ref (ad 17), .ref (ad 18), .ref (ad 19), .ref (ad 20), .ref (ad 21), .ref (ad 22), .ref (ad 23), .ref (ad 24), .ref (ad 25)])) := hM_18.1
      refine lv_aload_n hx hb d_Mo_near_18 rfl (lv_at hl 0 rfl) ?_
      refine gf_Mo_100 hx hb hW hown hG hV hm_19 d_Mo_near_19 ?_
      refine lv_if_eq (tgt := 27) hx hb d_Mo_near_22 (by decide) (fun _ => ?_) (fun q => absurd q (by decide))
      refine lv_iload_n hx hb d_Mo_near_27 rfl (lv_at hl 1 rfl) ?_
      refine lv_istore_n (lv' := [(3, .int (nI q0)), (0, .ref mo), (1, .int (nI q0)), (2, .int wh)]) hx hb d_Mo_near_28 rfl hl (by decide) rfl (fun ls hl => ?_)
      refine lv_bipush (v := 20) hx hb d_Mo_near_29 (by decide) ?_
      refine lv_istore (lv' := [(4, .int 20), (3, .int (nI q0)), (0, .ref mo), (1, .int (nI q0)), (2, .int wh)]) hx hb d_Mo_near_31 hl (by decide) rfl (fun ls hl => ?_)
      have loop_20 : ∀ (n i : Nat) (c0 : Nat) (H : Heap) (locs : List Loc) (ls : Array Slot), i ≤ 140 → 140 + 1 ≤ i + n → (moNrF ρ wh 20 120 q0 = moNrF ρ wh i (140 - i) c0 ∧ 20 ≤ i ∧ c0 < 2 ^ 31) → hv D vwCl N0 V_18 H → va_S (hA N0) s.heap H locs → lv_has ls 6 [(0, .ref mo), (1, .int (nI q0)), (2, .int wh), (3, .int (nI c0)), (4, .int (nI i))] → W p l e (headSpec (.code y_Mo_near b_Mo_near 6 (some .int) :: WS) ({ frames := 4, cells := 0, slots := 0, locals := 88 })).room s m #[.ref mo, .int (nI q0), .int wh] below meth c H locs 0 0 (MQ below (va_Qi (fun r V' => mdOk k V' mo ad (ρ.ws 0 0) ∧ mdFr mo ad V V' ∧ r = moNrF ρ wh 20 120 q0) (mB D N0) (hA N0)) #[.ref mo, .int (nI q0), .int wh] s 0 0 (hA N0)) (F0 m 33 ls []) := by
        intro n
        induction n with
        | zero => intro i c0 H locs ls h1 h2; exact absurd h2 (by omega)
        | succ n ih =>
          intro i c0 H locs ls hi hin hI hV hS hl
          refine lv_iload hx hb d_Mo_near_33 (lv_at hl 4 rfl) ?_
          refine lv_sipush (v := 140) hx hb d_Mo_near_35 (by decide) ?_
          refine lv_icmp_ge (tgt := 107) hx hb d_Mo_near_38 (by decide) (fun c_21 => ?_) (fun c_21 => ?_)
          · have hge : 140 ≤ i := nI_le' (a := 140) (b := i) c_21 (by decide) (by omega)
            refine lv_iconst (v := (-1)) hx hb d_Mo_near_107 (by decide) ?_
            try simp only [bI_ne0, bI_eq0, decide_eq_true_eq, decide_eq_false_iff_not, Bool.not_eq_false, Bool.not_eq_true, Decidable.not_not] at c_2
            try simp only [bI_ne0, bI_eq0, decide_eq_true_eq, decide_eq_false_iff_not, Bool.not_eq_false, Bool.not_eq_true, Decidable.not_not] at c_17
            try simp only [bI_ne0, bI_eq0, decide_eq_true_eq, decide_eq_false_iff_not, Bool.not_eq_false, Bool.not_eq_true, Decidable.not_not] at c_21
            exact W.iret (v := (-1)) hx hb hr (fun t9 ht hW => ⟨⟨(-1), V_18, rfl, ⟨hM_18, hR_18, by rw [hI.1, moNrF_end hge]⟩, mB_of ht hV⟩, hS.F ht⟩) hS.2.2 d_Mo_near_108
          · have hlt : i < 140 := nI_nle' (a := 140) (b := i) c_21 (by decide) (by omega)
            refine lv_iload_n hx hb d_Mo_near_41 rfl (lv_at hl 1 rfl) ?_
            refine lv_if_lt (tgt := 107) hx hb d_Mo_near_42 (by decide) (fun c_22 => ?_) (fun c_22 => ?_)
            · have c_22 := i_nle c_22
              exact absurd (nI_le (a := 0) (b := q0) (by omega) hq0) c_22
            · have c_22 := i_le c_22
              refine lv_iload hx hb d_Mo_near_45 (lv_at hl 4 rfl) ?_
              refine lv_iconst (v := 1) hx hb d_Mo_near_47 (by decide) ?_
              refine lv_iadd hx hb d_Mo_near_48 ?_
              refine lv_istore (lv' := [(5, .int ((nI i) + 1)), (0, .ref mo), (1, .int (nI q0)), (2, .int wh), (3, .int (nI c0)), (4, .int (nI i))]) hx hb d_Mo_near_49 hl (by decide) rfl (fun ls hl => ?_)
              rw [nI_1] at hl
              have loop_23 : ∀ (nb ib : Nat) (d0 : Nat) (H : Heap) (locs : List Loc) (ls : Array Slot), ib ≤ 140 → 140 + 1 ≤ ib + nb → (nthF (moPr ρ i) (i + 1) (140 - (i + 1)) c0 = nthF (moPr ρ i) ib (140 - ib) d0 ∧ c0 + cntF (moPr ρ i) ib (140 - ib) = d0 + moCkR ρ i ∧ d0 ≤ c0 ∧ i < ib) → hv D vwCl N0 V_18 H → va_S (hA N0) s.heap H locs → lv_has ls 6 [(0, .ref mo), (1, .int (nI q0)), (2, .int wh), (3, .int (nI d0)), (4, .int (nI i)), (5, .int (nI ib))] → W p l e (headSpec (.code y_Mo_near b_Mo_near 6 (some .int) :: WS) ({ frames := 4, cells := 0, slots := 0, locals := 88 })).room s m #[.ref mo, .int (nI q0), .int wh] below meth c H locs 0 0 (MQ below (va_Qi (fun r V' => mdOk k V' mo ad (ρ.ws 0 0) ∧ mdFr mo ad V V' ∧ r = moNrF ρ wh 20 120 q0) (mB D N0) (hA N0)) #[.ref mo, .int (nI q0), .int wh] s 0 0 (hA N0)) (F0 m 51 ls []) := by
                intro nb
                induction nb with
                | zero => intro ib d0 H locs ls h1 h2; exact absurd h2 (by omega)
                | succ nb ihb =>
                  intro ib d0 H locs ls hib hinb hIb hV hS hl
                  refine lv_iload hx hb d_Mo_near_51 (lv_at hl 5 rfl) ?_
                  refine lv_sipush (v := 140) hx hb d_Mo_near_53 (by decide) ?_
                  refine lv_icmp_ge (tgt := 101) hx hb d_Mo_near_56 (by decide) (fun c_24 => ?_) (fun c_24 => ?_)
                  · have hgeb : 140 ≤ ib := nI_le' (a := 140) (b := ib) c_24 (by decide) (by omega)
                    obtain ⟨i_25, ei_25⟩ : ∃ y : Int32, y = (nI i) + 1 := ⟨_, rfl⟩
                    refine lv_iinc (v := i_25) (lv' := [(4, .int i_25), (0, .ref mo), (1, .int (nI q0)), (2, .int wh), (3, .int (nI d0)), (5, .int (nI ib))]) hx hb d_Mo_near_101 hl (k := 4) rfl (by rw [ei_25]; rfl) (by decide) rfl (fun ls hl => ?_)
                    refine lv_goto (tgt := 33) hx hb d_Mo_near_104 (by decide) ?_
                    rw [nI_1] at ei_25
                    subst ei_25
                    exact ih (i + 1) d0 _ _ _ (by omega) (by omega) (⟨by rw [hI.1]; exact moNr_none hlt (by rw [hIb.1, nthF_end hgeb]) (by have q9 := hIb.2.1; rw [cntF_end hgeb] at q9; omega), by omega, by omega⟩) hV hS (lv_sub hl [1, 2, 3, 4, 0] rfl)
                  · have hltb : ib < 140 := nI_nle' (a := 140) (b := ib) c_24 (by decide) (by omega)
                    refine lv_aload_n hx hb d_Mo_near_59 rfl (lv_at hl 0 rfl) ?_
                    refine lv_iload hx hb d_Mo_near_60 (lv_at hl 4 rfl) ?_
                    refine lv_iload hx hb d_Mo_near_62 (lv_at hl 5 rfl) ?_
                    refine rc_i (va_runV (As := [.int (nI i), .int (nI ib)]) (rest := []) ⟨hx, hb, hml, hown, hts⟩ (c_Mo_isPair l D N0 k V_18 mo ad (ρ.ws 0 0) hM_18 i ib (by omega) (by omega)) (cwV 2 hts (gi_V wm_Mo_242 wv_Mo_isPair ws_Mo_isPair wi_Mo wc_Mo_isPair) rfl rfl rfl (by decide +kernel) ⟨Nat.le_of_ble_eq_true rfl, Nat.le_of_ble_eq_true rfl⟩) (mP.preV hG hS hV hm_19 rfl) rfl rfl hl.1 rfl (lv_room (Nat.le_of_ble_eq_true rfl)) d_Mo_near_64 ⟨Nat.le_of_ble_eq_true rfl, Nat.le_of_ble_eq_true rfl⟩) hS (fun H locs hV hS => ?_)
                    refine W.eq (g2 := F0 m 67 ls [.int (bI (moPr ρ i ib))]) rfl ?_
                    refine lv_if_ne (tgt := 73) hx hb d_Mo_near_67 (by decide) (fun c_26 => ?_) (fun c_26 => ?_)
                    · refine lv_iload_n hx hb d_Mo_near_73 rfl (lv_at hl 3 rfl) ?_
                      refine lv_if_ne (tgt := 92) hx hb d_Mo_near_74 (by decide) (fun c_27 => ?_) (fun c_27 => ?_)
                      · obtain ⟨i_28, ei_28⟩ : ∃ y : Int32, y = (nI d0) + (-1) := ⟨_, rfl⟩
                        refine lv_iinc (v := i_28) (lv' := [(3, .int i_28), (0, .ref mo), (1, .int (nI q0)), (2, .int wh), (4, .int (nI i)), (5, .int (nI ib))]) hx hb d_Mo_near_92 hl (k := 3) rfl (by rw [ei_28]; rfl) (by decide) rfl (fun ls hl => ?_)
                        obtain ⟨i_29, ei_29⟩ : ∃ y : Int32, y = (nI ib) + 1 := ⟨_, rfl⟩
                        refine lv_iinc (v := i_29) (lv' := [(5, .int i_29), (3, .int i_28), (0, .ref mo), (1, .int (nI q0)), (2, .int wh), (4, .int (nI i))]) hx hb d_Mo_near_95 hl (k := 5) rfl (by rw [ei_29]; rfl) (by decide) rfl (fun ls hl => ?_)
                        refine lv_goto (tgt := 51) hx hb d_Mo_near_98 (by decide) ?_
                        rw [nI_1] at ei_29
                        subst ei_29
                        try simp only [bI_ne0, bI_eq0, decide_eq_true_eq, decide_eq_false_iff_not, Bool.not_eq_false, Bool.not_eq_true, Decidable.not_not] at c_2
                        try simp only [bI_ne0, bI_eq0, decide_eq_true_eq, decide_eq_false_iff_not, Bool.not_eq_false, Bool.not_eq_true, Decidable.not_not] at c_17
                        try simp only [bI_ne0, bI_eq0, decide_eq_true_eq, decide_eq_false_iff_not, Bool.not_eq_false, Bool.not_eq_true, Decidable.not_not] at c_21
                        try simp only [bI_ne0, bI_eq0, decide_eq_true_eq, decide_eq_false_iff_not, Bool.not_eq_false, Bool.not_eq_true, Decidable.not_not] at c_22
                        try simp only [bI_ne0, bI_eq0, decide_eq_true_eq, decide_eq_false_iff_not, Bool.not_eq_false, Bool.not_eq_true, Decidable.not_not] at c_24
                        try simp only [bI_ne0, bI_eq0, decide_eq_true_eq, decide_eq_false_iff_not, Bool.not_eq_false, Bool.not_eq_true, Decidable.not_not] at c_26
                        try simp only [bI_ne0, bI_eq0, decide_eq_true_eq, decide_eq_false_iff_not, Bool.not_eq_false, Bool.not_eq_true, Decidable.not_not] at c_27
                        obtain ⟨d1, hd1⟩ : ∃ z, d0 = z + 1 := ⟨d0 - 1, by have : d0 ≠ 0 := (fun q => c_27 (by rw [q]; rfl)); omega⟩
                        subst hd1
                        rw [pk_m1] at ei_28
                        subst ei_28
                        exact ihb (ib + 1) d1 _ _ _ (by omega) (by omega) (⟨by rw [hIb.1, nthF_step hltb, c_26]; simp, by have q9 := hIb.2.1; rw [cntF_step hltb, c_26, if_pos rfl] at q9; omega, by omega, by omega⟩) hV hS (lv_sub hl [2, 3, 4, 1, 5, 0] rfl)
                      · refine lv_iload_n hx hb d_Mo_near_77 rfl (lv_at hl 2 rfl) ?_
                        refine lv_if_ne (tgt := 86) hx hb d_Mo_near_78 (by decide) (fun c_30 => ?_) (fun c_30 => ?_)
                        · refine lv_iload hx hb d_Mo_near_86 (lv_at hl 5 rfl) ?_
                          refine rc_i (va_runS (As := [.int (nI ib)]) (rest := []) ⟨hx, hb, hml, hown, hts⟩ (c_Mo_handleOf l D N0 k V_18 (nI ib)) (va_cwS 1 hts (gi_S wm_Mo_143 wt_Mo_handleOf wi_Mo wc_Mo_handleOf) rfl rfl rfl (by decide +kernel) ⟨Nat.le_of_ble_eq_true rfl, Nat.le_of_ble_eq_true rfl⟩) (mP.preS hG hS hV) rfl rfl hl.1 rfl (lv_room (Nat.le_of_ble_eq_true rfl)) d_Mo_near_88 ⟨Nat.le_of_ble_eq_true rfl, Nat.le_of_ble_eq_true rfl⟩) hS (fun H locs hV hS => ?_)
                          try simp only [bI_ne0, bI_eq0, decide_eq_true_eq, decide_eq_false_iff_not, Bool.not_eq_false, Bool.not_eq_true, Decidable.not_not] at c_2
                          try simp only [bI_ne0, bI_eq0, decide_eq_true_eq, decide_eq_false_iff_not, Bool.not_eq_false, Bool.not_eq_true, Decidable.not_not] at c_17
                          try simp only [bI_ne0, bI_eq0, decide_eq_true_eq, decide_eq_false_iff_not, Bool.not_eq_false, Bool.not_eq_true, Decidable.not_not] at c_21
                          try simp only [bI_ne0, bI_eq0, decide_eq_true_eq, decide_eq_false_iff_not, Bool.not_eq_false, Bool.not_eq_true, Decidable.not_not] at c_22
                          try simp only [bI_ne0, bI_eq0, decide_eq_true_eq, decide_eq_false_iff_not, Bool.not_eq_false, Bool.not_eq_true, Decidable.not_not] at c_24
                          try simp only [bI_ne0, bI_eq0, decide_eq_true_eq, decide_eq_false_iff_not, Bool.not_eq_false, Bool.not_eq_true, Decidable.not_not] at c_26
                          try simp only [bI_ne0, bI_eq0, decide_eq_true_eq, decide_eq_false_iff_not, Bool.not_eq_false, Bool.not_eq_true, Decidable.not_not] at c_27
                          try simp only [bI_ne0, bI_eq0, decide_eq_true_eq, decide_eq_false_iff_not, Bool.not_eq_false, Bool.not_eq_true, Decidable.not_not] at c_30
                          have hd9 : d0 = 0 := (nI_eq (by omega) (by decide)).mp c_27
                          have hn9 : nthF (moPr ρ i) (i + 1) (140 - (i + 1)) c0 = some ib := by rw [hIb.1, nthF_step hltb, c_26, hd9]; simp
                          exact W.iret (v := (moHan (nI ib))) hx hb hr (fun t9 ht hW => ⟨⟨(moHan (nI ib)), V_18, rfl, ⟨hM_18, hR_18, by rw [hI.1, moNr_some hlt hn9, if_neg c_30]⟩, mB_of ht hV⟩, hS.F ht⟩) hS.2.2 d_Mo_near_91
                        · refine lv_iload hx hb d_Mo_near_81 (lv_at hl 4 rfl) ?_
                          refine lv_goto (tgt := 88) hx hb d_Mo_near_83 (by decide) ?_
                          refine rc_i (va_runS (As := [.int (nI i)]) (rest := []) ⟨hx, hb, hml, hown, hts⟩ (c_Mo_handleOf l D N0 k V_18 (nI i)) (va_cwS 1 hts (gi_S wm_Mo_143 wt_Mo_handleOf wi_Mo wc_Mo_handleOf) rfl rfl rfl (by decide +kernel) ⟨Nat.le_of_ble_eq_true rfl, Nat.le_of_ble_eq_true rfl⟩) (mP.preS hG hS hV) rfl rfl hl.1 rfl (lv_room (Nat.le_of_ble_eq_true rfl)) d_Mo_near_88 ⟨Nat.le_of_ble_eq_true rfl, Nat.le_of_ble_eq_true rfl⟩) hS (fun H locs hV hS => ?_)
                          try simp only [bI_ne0, bI_eq0, decide_eq_true_eq, decide_eq_false_iff_not, Bool.not_eq_false, Bool.not_eq_true, Decidable.not_not] at c_2
                          try simp only [bI_ne0, bI_eq0, decide_eq_true_eq, decide_eq_false_iff_not, Bool.not_eq_false, Bool.not_eq_true, Decidable.not_not] at c_17
                          try simp only [bI_ne0, bI_eq0, decide_eq_true_eq, decide_eq_false_iff_not, Bool.not_eq_false, Bool.not_eq_true, Decidable.not_not] at c_21
                          try simp only [bI_ne0, bI_eq0, decide_eq_true_eq, decide_eq_false_iff_not, Bool.not_eq_false, Bool.not_eq_true, Decidable.not_not] at c_22
                          try simp only [bI_ne0, bI_eq0, decide_eq_true_eq, decide_eq_false_iff_not, Bool.not_eq_false, Bool.not_eq_true, Decidable.not_not] at c_24
                          try simp only [bI_ne0, bI_eq0, decide_eq_true_eq, decide_eq_false_iff_not, Bool.not_eq_false, Bool.not_eq_true, Decidable.not_not] at c_26
                          try simp only [bI_ne0, bI_eq0, decide_eq_true_eq, decide_eq_false_iff_not, Bool.not_eq_false, Bool.not_eq_true, Decidable.not_not] at c_27
                          try simp only [bI_ne0, bI_eq0, decide_eq_true_eq, decide_eq_false_iff_not, Bool.not_eq_false, Bool.not_eq_true, Decidable.not_not] at c_30
                          have hd9 : d0 = 0 := (nI_eq (by omega) (by decide)).mp c_27
                          have hn9 : nthF (moPr ρ i) (i + 1) (140 - (i + 1)) c0 = some ib := by rw [hIb.1, nthF_step hltb, c_26, hd9]; simp
                          exact W.iret (v := (moHan (nI i))) hx hb hr (fun t9 ht hW => ⟨⟨(moHan (nI i)), V_18, rfl, ⟨hM_18, hR_18, by rw [hI.1, moNr_some hlt hn9, if_pos c_30]⟩, mB_of ht hV⟩, hS.F ht⟩) hS.2.2 d_Mo_near_91
                    · refine lv_goto (tgt := 95) hx hb d_Mo_near_70 (by decide) ?_
                      obtain ⟨i_31, ei_31⟩ : ∃ y : Int32, y = (nI ib) + 1 := ⟨_, rfl⟩
                      refine lv_iinc (v := i_31) (lv' := [(5, .int i_31), (0, .ref mo), (1, .int (nI q0)), (2, .int wh), (3, .int (nI d0)), (4, .int (nI i))]) hx hb d_Mo_near_95 hl (k := 5) rfl (by rw [ei_31]; rfl) (by decide) rfl (fun ls hl => ?_)
                      refine lv_goto (tgt := 51) hx hb d_Mo_near_98 (by decide) ?_
                      rw [nI_1] at ei_31
                      subst ei_31
                      try simp only [bI_ne0, bI_eq0, decide_eq_true_eq, decide_eq_false_iff_not, Bool.not_eq_false, Bool.not_eq_true, Decidable.not_not] at c_2
                      try simp only [bI_ne0, bI_eq0, decide_eq_true_eq, decide_eq_false_iff_not, Bool.not_eq_false, Bool.not_eq_true, Decidable.not_not] at c_17
                      try simp only [bI_ne0, bI_eq0, decide_eq_true_eq, decide_eq_false_iff_not, Bool.not_eq_false, Bool.not_eq_true, Decidable.not_not] at c_21
                      try simp only [bI_ne0, bI_eq0, decide_eq_true_eq, decide_eq_false_iff_not, Bool.not_eq_false, Bool.not_eq_true, Decidable.not_not] at c_22
                      try simp only [bI_ne0, bI_eq0, decide_eq_true_eq, decide_eq_false_iff_not, Bool.not_eq_false, Bool.not_eq_true, Decidable.not_not] at c_24
                      try simp only [bI_ne0, bI_eq0, decide_eq_true_eq, decide_eq_false_iff_not, Bool.not_eq_false, Bool.not_eq_true, Decidable.not_not] at c_26
                      exact ihb (ib + 1) d0 _ _ _ (by omega) (by omega) (⟨by rw [hIb.1, nthF_step hltb, c_26]; simp, by have q9 := hIb.2.1; rw [cntF_step hltb, c_26, if_neg Bool.false_ne_true] at q9; omega, by omega, by omega⟩) hV hS (lv_sub hl [1, 2, 3, 4, 5, 0] rfl)
              exact loop_23 (140 + 1 - (i + 1)) (i + 1) c0 _ _ _ (by omega) (by omega) (⟨rfl, rfl, Nat.le_refl _, by omega⟩) hV hS (lv_sub hl [1, 2, 3, 4, 5, 0] rfl)
      exact loop_20 (140 + 1 - 20) 20 q0 _ _ _ (by omega) (by omega) (⟨rfl, by omega, hq0⟩) hV hS (lv_sub hl [2, 3, 4, 1, 0] rfl)
set_option maxHeartbeats 4000000 in
set_option maxRecDepth 100000 in
/-- near: below 0 -/
theorem c_Mo_nearN (l : Launch) (D : va_G) (N0 : Nat) (k : Nat → Nat) (V : HV) (mo : Nat) (ad : Nat → Nat) (ρ : MS) (hM : mdOk k V mo ad ρ) (q0 wh : Int32) (hneg : ¬ 0 ≤ q0) (hok : (decide (wh = 0) || decide (wh = 1)) = true) : Met l y_Mo_near (.code y_Mo_near b_Mo_near 6 (some .int) :: WS) ({ frames := 4, cells := 0, slots := 0, locals := 88 }) (mP D N0 k [.ref mo, .int q0, .int wh] V) (va_Qi (fun r V' => mdOk k V' mo ad (ρ.ws 0 0) ∧ mdFr mo ad V V' ∧ r = -1) (mB D N0) (hA N0)) 0 0 (hA N0) := by
  refine Met.ofW (cc := b_Mo_near) (maxL := 6) (ret := (some .int)) (by decide) rfl ?_
  intro p e s m args below meth c s₁ B hml hv0
  obtain ⟨rfl, hG, hV⟩ := hv0
  have hx := B.exec
  have hb := B.bytes
  have hr := B.returns
  have hts := atoms_spec (ws := .code y_Mo_near b_Mo_near 6 (some .int) :: WS) B.pre
  have hW : ∀ w ∈ WS, w.before _ s = true := fun w h => hts w (List.mem_cons_of_mem _ h)
  have hown : s.vm.findClass "BoardHouseModel" = some m.cls := findClass_of_methodNamed B.named
  have hlocks := B.notSynchronized
  have hS : va_S (hA N0) s.heap s.heap [] := va_S.rf
  have hl := lv_entry ([.ref mo, .int q0, .int wh]) (n := 6) (Nat.le_of_ble_eq_true rfl)
  rw [lg_entry_eq]
  generalize (lg_sl ([.ref mo, .int q0, .int wh]) ++ List.replicate (6 - (lg_sl ([.ref mo, .int q0, .int wh])).length) Slot.unset).toArray = ls at hl ⊢
  have hl : lv_has ls 6 [(0, .ref mo), (1, .int q0), (2, .int wh)] := hl
  have hm_1 : V mo = some (.inr (7, [.int (ρ.s 0), .int (ρ.s 1), .int (ρ.s 2), .int (ρ.s 3), .ref (ad 0), .ref (ad 1), .ref (ad 2), .ref (ad 3), .ref (ad 4), .ref (ad 5), .ref (ad 6), .ref (ad 7), .ref (ad 8), .int (ρ.s 4), .ref (ad 9), .ref (ad 10), .ref (ad 11), .ref (ad 12), .ref (ad 13), .ref (ad 14), .ref (ad 15), .ref (ad 16), .ref (ad 17), .ref (ad 18), .ref (ad 19), .ref (ad 20), .ref (ad 21), .ref (ad 22), .ref (ad 23), .ref (ad 24), .ref (ad 25)])) := hM.1
  refine lv_aload_n hx hb d_Mo_near_0 rfl (lv_at hl 0 rfl) ?_
  refine lv_iload_n hx hb d_Mo_near_1 rfl (lv_at hl 2 rfl) ?_
  refine lv_if_eq (tgt := 10) hx hb d_Mo_near_2 (by decide) (fun c_2 => ?_) (fun c_2 => ?_)
  · refine lv_iconst (v := 0) hx hb d_Mo_near_10 (by decide) ?_
    refine lv_goto (tgt := 15) hx hb d_Mo_near_11 (by decide) ?_
    refine pf_Mo_100 hx hb hW hown hG hV hS hm_1 d_Mo_near_15 (fun H locs hV hS => ?_)
    replace hV : hv D vwCl N0 (hu V mo (.inr (7, [.int 0, .int (ρ.s 1), .int (ρ.s 2), .int (ρ.s 3), .ref (ad 0), .ref (ad 1), .ref (ad 2), .ref (ad 3), .ref (ad 4), .ref (ad 5), .ref (ad 6), .ref (ad 7), .ref (ad 8), .int (ρ.s 4), .ref (ad 9), .ref (ad 10), .ref (ad 11), .ref (ad 12), .ref (ad 13), .ref (ad 14), .ref (ad 15), .ref (ad 16), .ref (ad 17), .ref (ad 18), .ref (ad 19), .ref (ad 20), .ref (ad 21), .ref (ad 22), .ref (ad 23), .ref (ad 24), .ref (ad 25)]))) H := hV
    generalize hV_V_3 : hu V mo (.inr (7, [.int 0, .int (ρ.s 1), .int (ρ.s 2), .int (ρ.s 3), .ref (ad 0), .ref (ad 1), .ref (ad 2), .ref (ad 3), .ref (ad 4), .ref (ad 5), .ref (ad 6), .ref (ad 7), .ref (ad 8), .int (ρ.s 4), .ref (ad 9), .ref (ad 10), .ref (ad 11), .ref (ad 12), .ref (ad 13), .ref (ad 14), .ref (ad 15), .ref (ad 16), .ref (ad 17), .ref (ad 18), .ref (ad 19), .ref (ad 20), .ref (ad 21), .ref (ad 22), .ref (ad 23), .ref (ad 24), .ref (ad 25)])) = V_3 at hV
    have hM_3 : mdOk k V_3 mo ad (ρ.ws 0 0) := by rw [← hV_V_3]; exact md_put hM 0 0
    have hR_3 : mdFr mo ad V V_3 := by rw [← hV_V_3]; exact (mdFr.rf (mo := mo) (ad := ad) (V := V)).m
    have hm_4 : V_3 mo = some (.inr (7, [.int 0, .int (ρ.s 1), .int (ρ.s 2), .int (ρ.s 3), .ref (ad 0), .ref (ad 1), .ref (ad 2), .ref (ad 3), .ref (ad 4), .ref (ad 5), .ref (ad 6), .ref (ad 7), .ref (ad 8), .int (ρ.s 4), .ref (ad 9), .ref (ad 10), .ref (ad 11), .ref (ad 12), .ref (ad 13), .ref (ad 14), .ref (ad 15), .ref (ad 16), .ref (ad 17), .ref (ad 18), .ref (ad 19), .ref (ad 20), .ref (ad 21), .ref (ad 22), .ref (ad 23), .ref (ad 24), .ref (ad 25)])) := hM_3.1
    refine lv_aload_n hx hb d_Mo_near_18 rfl (lv_at hl 0 rfl) ?_
    refine gf_Mo_100 hx hb hW hown hG hV hm_4 d_Mo_near_19 ?_
    refine lv_if_eq (tgt := 27) hx hb d_Mo_near_22 (by decide) (fun _ => ?_) (fun q => absurd q (by decide))
    refine lv_iload_n hx hb d_Mo_near_27 rfl (lv_at hl 1 rfl) ?_
    refine lv_istore_n (lv' := [(3, .int q0), (0, .ref mo), (1, .int q0), (2, .int wh)]) hx hb d_Mo_near_28 rfl hl (by decide) rfl (fun ls hl => ?_)
    refine lv_bipush (v := 20) hx hb d_Mo_near_29 (by decide) ?_
    refine lv_istore (lv' := [(4, .int 20), (3, .int q0), (0, .ref mo), (1, .int q0), (2, .int wh)]) hx hb d_Mo_near_31 hl (by decide) rfl (fun ls hl => ?_)
    refine lv_iload hx hb d_Mo_near_33 (lv_at hl 0 rfl) ?_
    refine lv_sipush (v := 140) hx hb d_Mo_near_35 (by decide) ?_
    refine lv_icmp_ge (tgt := 107) hx hb d_Mo_near_38 (by decide) (fun q => absurd q (by decide)) (fun _ => ?_)
    refine lv_iload_n hx hb d_Mo_near_41 rfl (lv_at hl 3 rfl) ?_
    refine lv_if_lt (tgt := 107) hx hb d_Mo_near_42 (by decide) (fun c_5 => ?_) (fun c_5 => ?_)
    · have c_5 := i_nle c_5
      refine lv_iconst (v := (-1)) hx hb d_Mo_near_107 (by decide) ?_
      exact W.iret (v := (-1)) hx hb hr (fun t9 ht hW => ⟨⟨(-1), V_3, rfl, ⟨hM_3, hR_3, rfl⟩, mB_of ht hV⟩, hS.F ht⟩) hS.2.2 d_Mo_near_108
    · have c_5 := i_le c_5
      exact absurd c_5 hneg
  · refine lv_iload_n hx hb d_Mo_near_5 rfl (lv_at hl 2 rfl) ?_
    refine lv_iconst (v := 1) hx hb d_Mo_near_6 (by decide) ?_
    refine lv_icmp_ne (tgt := 14) hx hb d_Mo_near_7 (by decide) (fun c_6 => ?_) (fun c_6 => ?_)
    · exact absurd hok (by simp [c_2, c_6])
    · refine lv_iconst (v := 0) hx hb d_Mo_near_10 (by decide) ?_
      refine lv_goto (tgt := 15) hx hb d_Mo_near_11 (by decide) ?_
      refine pf_Mo_100 hx hb hW hown hG hV hS hm_1 d_Mo_near_15 (fun H locs hV hS => ?_)
      replace hV : hv D vwCl N0 (hu V mo (.inr (7, [.int 0, .int (ρ.s 1), .int (ρ.s 2), .int (ρ.s 3), .ref (ad 0), .ref (ad 1), .ref (ad 2), .ref (ad 3), .ref (ad 4), .ref (ad 5), .ref (ad 6), .ref (ad 7), .ref (ad 8), .int (ρ.s 4), .ref (ad 9), .ref (ad 10), .ref (ad 11), .ref (ad 12), .ref (ad 13), .ref (ad 14), .ref (ad 15), .ref (ad 16), .ref (ad 17), .ref (ad 18), .ref (ad 19), .ref (ad 20), .ref (ad 21), .ref (ad 22), .ref (ad 23), .ref (ad 24), .ref (ad 25)]))) H := hV
      generalize hV_V_7 : hu V mo (.inr (7, [.int 0, .int (ρ.s 1), .int (ρ.s 2), .int (ρ.s 3), .ref (ad 0), .ref (ad 1), .ref (ad 2), .ref (ad 3), .ref (ad 4), .ref (ad 5), .ref (ad 6), .ref (ad 7), .ref (ad 8), .int (ρ.s 4), .ref (ad 9), .ref (ad 10), .ref (ad 11), .ref (ad 12), .ref (ad 13), .ref (ad 14), .ref (ad 15), .ref (ad 16), .ref (ad 17), .ref (ad 18), .ref (ad 19), .ref (ad 20), .ref (ad 21), .ref (ad 22), .ref (ad 23), .ref (ad 24), .ref (ad 25)])) = V_7 at hV
      have hM_7 : mdOk k V_7 mo ad (ρ.ws 0 0) := by rw [← hV_V_7]; exact md_put hM 0 0
      have hR_7 : mdFr mo ad V V_7 := by rw [← hV_V_7]; exact (mdFr.rf (mo := mo) (ad := ad) (V := V)).m
      have hm_8 : V_7 mo = some (.inr (7, [.int 0, .int (ρ.s 1), .int (ρ.s 2), .int (ρ.s 3), .ref (ad 0), .ref (ad 1), .ref (ad 2), .ref (ad 3), .ref (ad 4), .ref (ad 5), .ref (ad 6), .ref (ad 7), .ref (ad 8), .int (ρ.s 4), .ref (ad 9), .ref (ad 10), .ref (ad 11), .ref (ad 12), .ref (ad 13), .ref (ad 14), .ref (ad 15), .ref (ad 16), .ref (ad 17), .ref (ad 18), .ref (ad 19), .ref (ad 20), .ref (ad 21), .ref (ad 22), .ref (ad 23), .ref (ad 24), .ref (ad 25)])) := hM_7.1
      refine lv_aload_n hx hb d_Mo_near_18 rfl (lv_at hl 0 rfl) ?_
      refine gf_Mo_100 hx hb hW hown hG hV hm_8 d_Mo_near_19 ?_
      refine lv_if_eq (tgt := 27) hx hb d_Mo_near_22 (by decide) (fun _ => ?_) (fun q => absurd q (by decide))
      refine lv_iload_n hx hb d_Mo_near_27 rfl (lv_at hl 1 rfl) ?_
      refine lv_istore_n (lv' := [(3, .int q0), (0, .ref mo), (1, .int q0), (2, .int wh)]) hx hb d_Mo_near_28 rfl hl (by decide) rfl (fun ls hl => ?_)
      refine lv_bipush (v := 20) hx hb d_Mo_near_29 (by decide) ?_
      refine lv_istore (lv' := [(4, .int 20), (3, .int q0), (0, .ref mo), (1, .int q0), (2, .int wh)]) hx hb d_Mo_near_31 hl (by decide) rfl (fun ls hl => ?_)
      refine lv_iload hx hb d_Mo_near_33 (lv_at hl 0 rfl) ?_
      refine lv_sipush (v := 140) hx hb d_Mo_near_35 (by decide) ?_
      refine lv_icmp_ge (tgt := 107) hx hb d_Mo_near_38 (by decide) (fun q => absurd q (by decide)) (fun _ => ?_)
      refine lv_iload_n hx hb d_Mo_near_41 rfl (lv_at hl 3 rfl) ?_
      refine lv_if_lt (tgt := 107) hx hb d_Mo_near_42 (by decide) (fun c_9 => ?_) (fun c_9 => ?_)
      · have c_9 := i_nle c_9
        refine lv_iconst (v := (-1)) hx hb d_Mo_near_107 (by decide) ?_
        exact W.iret (v := (-1)) hx hb hr (fun t9 ht hW => ⟨⟨(-1), V_7, rfl, ⟨hM_7, hR_7, rfl⟩, mB_of ht hV⟩, hS.F ht⟩) hS.2.2 d_Mo_near_108
      · have c_9 := i_le c_9
        exact absurd c_9 hneg
set_option maxHeartbeats 4000000 in
set_option maxRecDepth 100000 in
/-- near: no such which -/
theorem c_Mo_neart (l : Launch) (D : va_G) (N0 : Nat) (k : Nat → Nat) (V : HV) (mo : Nat) (ad : Nat → Nat) (ρ : MS) (hM : mdOk k V mo ad ρ) (q0 wh : Int32) (hok : (decide (wh = 0) || decide (wh = 1)) = false) : Met l y_Mo_near (.code y_Mo_near b_Mo_near 6 (some .int) :: WS) ({ frames := 4, cells := 0, slots := 0, locals := 88 }) (mP D N0 k [.ref mo, .int q0, .int wh] V) (va_Qi (fun r V' => mdOk k V' mo ad (ρ.ws 0 1) ∧ mdFr mo ad V V' ∧ r = 0) (mB D N0) (hA N0)) 0 0 (hA N0) := by
  refine Met.ofW (cc := b_Mo_near) (maxL := 6) (ret := (some .int)) (by decide) rfl ?_
  intro p e s m args below meth c s₁ B hml hv0
  obtain ⟨rfl, hG, hV⟩ := hv0
  have hx := B.exec
  have hb := B.bytes
  have hr := B.returns
  have hts := atoms_spec (ws := .code y_Mo_near b_Mo_near 6 (some .int) :: WS) B.pre
  have hW : ∀ w ∈ WS, w.before _ s = true := fun w h => hts w (List.mem_cons_of_mem _ h)
  have hown : s.vm.findClass "BoardHouseModel" = some m.cls := findClass_of_methodNamed B.named
  have hlocks := B.notSynchronized
  have hS : va_S (hA N0) s.heap s.heap [] := va_S.rf
  have hl := lv_entry ([.ref mo, .int q0, .int wh]) (n := 6) (Nat.le_of_ble_eq_true rfl)
  rw [lg_entry_eq]
  generalize (lg_sl ([.ref mo, .int q0, .int wh]) ++ List.replicate (6 - (lg_sl ([.ref mo, .int q0, .int wh])).length) Slot.unset).toArray = ls at hl ⊢
  have hl : lv_has ls 6 [(0, .ref mo), (1, .int q0), (2, .int wh)] := hl
  have hm_1 : V mo = some (.inr (7, [.int (ρ.s 0), .int (ρ.s 1), .int (ρ.s 2), .int (ρ.s 3), .ref (ad 0), .ref (ad 1), .ref (ad 2), .ref (ad 3), .ref (ad 4), .ref (ad 5), .ref (ad 6), .ref (ad 7), .ref (ad 8), .int (ρ.s 4), .ref (ad 9), .ref (ad 10), .ref (ad 11), .ref (ad 12), .ref (ad 13), .ref (ad 14), .ref (ad 15), .ref (ad 16), .ref (ad 17), .ref (ad 18), .ref (ad 19), .ref (ad 20), .ref (ad 21), .ref (ad 22), .ref (ad 23), .ref (ad 24), .ref (ad 25)])) := hM.1
  refine lv_aload_n hx hb d_Mo_near_0 rfl (lv_at hl 0 rfl) ?_
  refine lv_iload_n hx hb d_Mo_near_1 rfl (lv_at hl 2 rfl) ?_
  refine lv_if_eq (tgt := 10) hx hb d_Mo_near_2 (by decide) (fun c_2 => ?_) (fun c_2 => ?_)
  · exact absurd hok (by simp [c_2])
  · refine lv_iload_n hx hb d_Mo_near_5 rfl (lv_at hl 2 rfl) ?_
    refine lv_iconst (v := 1) hx hb d_Mo_near_6 (by decide) ?_
    refine lv_icmp_ne (tgt := 14) hx hb d_Mo_near_7 (by decide) (fun c_3 => ?_) (fun c_3 => ?_)
    · refine lv_iconst (v := 1) hx hb d_Mo_near_14 (by decide) ?_
      refine pf_Mo_100 hx hb hW hown hG hV hS hm_1 d_Mo_near_15 (fun H locs hV hS => ?_)
      replace hV : hv D vwCl N0 (hu V mo (.inr (7, [.int 1, .int (ρ.s 1), .int (ρ.s 2), .int (ρ.s 3), .ref (ad 0), .ref (ad 1), .ref (ad 2), .ref (ad 3), .ref (ad 4), .ref (ad 5), .ref (ad 6), .ref (ad 7), .ref (ad 8), .int (ρ.s 4), .ref (ad 9), .ref (ad 10), .ref (ad 11), .ref (ad 12), .ref (ad 13), .ref (ad 14), .ref (ad 15), .ref (ad 16), .ref (ad 17), .ref (ad 18), .ref (ad 19), .ref (ad 20), .ref (ad 21), .ref (ad 22), .ref (ad 23), .ref (ad 24), .ref (ad 25)]))) H := hV
      generalize hV_V_4 : hu V mo (.inr (7, [.int 1, .int (ρ.s 1), .int (ρ.s 2), .int (ρ.s 3), .ref (ad 0), .ref (ad 1), .ref (ad 2), .ref (ad 3), .ref (ad 4), .ref (ad 5), .ref (ad 6), .ref (ad 7), .ref (ad 8), .int (ρ.s 4), .ref (ad 9), .ref (ad 10), .ref (ad 11), .ref (ad 12), .ref (ad 13), .ref (ad 14), .ref (ad 15), .ref (ad 16), .ref (ad 17), .ref (ad 18), .ref (ad 19), .ref (ad 20), .ref (ad 21), .ref (ad 22), .ref (ad 23), .ref (ad 24), .ref (ad 25)])) = V_4 at hV
      have hM_4 : mdOk k V_4 mo ad (ρ.ws 0 1) := by rw [← hV_V_4]; exact md_put hM 0 1
      have hR_4 : mdFr mo ad V V_4 := by rw [← hV_V_4]; exact (mdFr.rf (mo := mo) (ad := ad) (V := V)).m
      have hm_5 : V_4 mo = some (.inr (7, [.int 1, .int (ρ.s 1), .int (ρ.s 2), .int (ρ.s 3), .ref (ad 0), .ref (ad 1), .ref (ad 2), .ref (ad 3), .ref (ad 4), .ref (ad 5), .ref (ad 6), .ref (ad 7), .ref (ad 8), .int (ρ.s 4), .ref (ad 9), .ref (ad 10), .ref (ad 11), .ref (ad 12), .ref (ad 13), .ref (ad 14), .ref (ad 15), .ref (ad 16), .ref (ad 17), .ref (ad 18), .ref (ad 19), .ref (ad 20), .ref (ad 21), .ref (ad 22), .ref (ad 23), .ref (ad 24), .ref (ad 25)])) := hM_4.1
      refine lv_aload_n hx hb d_Mo_near_18 rfl (lv_at hl 0 rfl) ?_
      refine gf_Mo_100 hx hb hW hown hG hV hm_5 d_Mo_near_19 ?_
      refine lv_if_eq (tgt := 27) hx hb d_Mo_near_22 (by decide) (fun q => absurd q (by decide)) (fun _ => ?_)
      refine lv_iconst (v := 0) hx hb d_Mo_near_25 (by decide) ?_
      exact W.iret (v := 0) hx hb hr (fun t9 ht hW => ⟨⟨0, V_4, rfl, ⟨hM_4, hR_4, rfl⟩, mB_of ht hV⟩, hS.F ht⟩) hS.2.2 d_Mo_near_26
    · exact absurd hok (by simp [c_2, c_3])
set_option maxHeartbeats 4000000 in
set_option maxRecDepth 100000 in
/-- back -/
theorem c_Mo_back (l : Launch) (D : va_G) (N0 : Nat) (k : Nat → Nat) (V : HV) (mo : Nat) (ad : Nat → Nat) (ρ : MS) (hM : mdOk k V mo ad ρ) (h : Int32) (hGm : moG ρ) : Met l y_Mo_back (.code y_Mo_back b_Mo_back 9 (some .int) :: WS) ({ frames := 2, cells := 0, slots := 0, locals := 44 }) (mP D N0 k [.ref mo, .int h] V) (va_Qi (fun r V' => mdOk k V' mo ad (moBack ρ h).2 ∧ mdFr mo ad V V' ∧ r = (moBack ρ h).1) (mB D N0) (hA N0)) 0 0 (hA N0) := by
  refine Met.ofW (cc := b_Mo_back) (maxL := 9) (ret := (some .int)) (by decide) rfl ?_
  intro p e s m args below meth c s₁ B hml hv0
  obtain ⟨rfl, hG, hV⟩ := hv0
  have hx := B.exec
  have hb := B.bytes
  have hr := B.returns
  have hts := atoms_spec (ws := .code y_Mo_back b_Mo_back 9 (some .int) :: WS) B.pre
  have hW : ∀ w ∈ WS, w.before _ s = true := fun w h => hts w (List.mem_cons_of_mem _ h)
  have hown : s.vm.findClass "BoardHouseModel" = some m.cls := findClass_of_methodNamed B.named
  have hlocks := B.notSynchronized
  have hS : va_S (hA N0) s.heap s.heap [] := va_S.rf
  have hl := lv_entry ([.ref mo, .int h]) (n := 9) (Nat.le_of_ble_eq_true rfl)
  rw [lg_entry_eq]
  generalize (lg_sl ([.ref mo, .int h]) ++ List.replicate (9 - (lg_sl ([.ref mo, .int h])).length) Slot.unset).toArray = ls at hl ⊢
  have hl : lv_has ls 9 [(0, .ref mo), (1, .int h)] := hl
  have hm_1 : V mo = some (.inr (7, [.int (ρ.s 0), .int (ρ.s 1), .int (ρ.s 2), .int (ρ.s 3), .ref (ad 0), .ref (ad 1), .ref (ad 2), .ref (ad 3), .ref (ad 4), .ref (ad 5), .ref (ad 6), .ref (ad 7), .ref (ad 8), .int (ρ.s 4), .ref (ad 9), .ref (ad 10), .ref (ad 11), .ref (ad 12), .ref (ad 13), .ref (ad 14), .ref (ad 15), .ref (ad 16), .ref (ad 17), .ref (ad 18), .ref (ad 19), .ref (ad 20), .ref (ad 21), .ref (ad 22), .ref (ad 23), .ref (ad 24), .ref (ad 25)])) := hM.1
  have hm_1_1 : V (ad 1) = some (eZ k 150 (ρ.I 1)) := hM.a1
  have hm_1_2 : V (ad 2) = some (eI k 150 (ρ.I 2)) := hM.a2
  have hm_1_3 : V (ad 3) = some (eI k 150 (ρ.I 3)) := hM.a3
  have hm_1_19 : V (ad 19) = some (eI k 64 (ρ.I 19)) := hM.a19
  have hm_1_20 : V (ad 20) = some (eZ k 1200 (ρ.I 20)) := hM.a20
  have hm_1_21 : V (ad 21) = some (eI k 1200 (ρ.I 21)) := hM.a21
  have hm_1_22 : V (ad 22) = some (eI k 1200 (ρ.I 22)) := hM.a22
  refine lv_aload_n hx hb d_Mo_back_0 rfl (lv_at hl 0 rfl) ?_
  refine lv_iload_n hx hb d_Mo_back_1 rfl (lv_at hl 1 rfl) ?_
  refine lv_bipush (v := 7) hx hb d_Mo_back_2 (by decide) ?_
  refine rc_i (va_runV (As := [.int h, .int 7]) (rest := []) ⟨hx, hb, hml, hown, hts⟩ (c_Mo_fault l D N0 k V mo ad ρ hM h 7) (cwV 2 hts (gi_V wm_Mo_176 wv_Mo_fault ws_Mo_fault wi_Mo wc_Mo_fault) rfl rfl rfl (by decide +kernel) ⟨Nat.le_of_ble_eq_true rfl, Nat.le_of_ble_eq_true rfl⟩) (mP.preV hG hS hV hm_1 rfl) rfl rfl hl.1 rfl (lv_room (Nat.le_of_ble_eq_true rfl)) d_Mo_back_4 ⟨Nat.le_of_ble_eq_true rfl, Nat.le_of_ble_eq_true rfl⟩) hS (fun H locs hV hS => ?_)
  refine W.eq (g2 := F0 m 7 ls [.int (moFault (ρ.I 0) h 7)]) rfl ?_
  refine lv_istore_n (lv' := [(2, .int (moFault (ρ.I 0) h 7)), (0, .ref mo), (1, .int h)]) hx hb d_Mo_back_7 rfl hl (by decide) rfl (fun ls hl => ?_)
  refine lv_aload_n hx hb d_Mo_back_8 rfl (lv_at hl 1 rfl) ?_
  refine lv_iload_n hx hb d_Mo_back_9 rfl (lv_at hl 0 rfl) ?_
  refine lv_if_eq (tgt := 17) hx hb d_Mo_back_10 (by decide) (fun c_2 => ?_) (fun c_2 => ?_)
  · refine lv_aload_n hx hb d_Mo_back_17 rfl (lv_at hl 1 rfl) ?_
    refine rc_i (va_runV (As := []) (rest := [.ref mo]) ⟨hx, hb, hml, hown, hts⟩ (c_Mo_hasOpen l D N0 k V mo ad ρ hM) (cwV 0 hts (gi_V wm_Mo_248 wv_Mo_hasOpen ws_Mo_hasOpen wi_Mo wc_Mo_hasOpen) rfl rfl rfl (by decide +kernel) ⟨Nat.le_of_ble_eq_true rfl, Nat.le_of_ble_eq_true rfl⟩) (mP.preV hG hS hV hm_1 rfl) rfl rfl hl.1 rfl (lv_room (Nat.le_of_ble_eq_true rfl)) d_Mo_back_18 ⟨Nat.le_of_ble_eq_true rfl, Nat.le_of_ble_eq_true rfl⟩) hS (fun H locs hV hS => ?_)
    refine W.eq (g2 := F0 m 21 ls [.int (bI (anyF (moOpn ρ.I) 0 10)), .ref mo]) rfl ?_
    refine lv_if_eq (tgt := 28) hx hb d_Mo_back_21 (by decide) (fun c_3 => ?_) (fun c_3 => ?_)
    · refine lv_iconst (v := 0) hx hb d_Mo_back_28 (by decide) ?_
      refine pf_Mo_100 hx hb hW hown hG hV hS hm_1 d_Mo_back_29 (fun H locs hV hS => ?_)
      replace hV : hv D vwCl N0 (hu V mo (.inr (7, [.int 0, .int (ρ.s 1), .int (ρ.s 2), .int (ρ.s 3), .ref (ad 0), .ref (ad 1), .ref (ad 2), .ref (ad 3), .ref (ad 4), .ref (ad 5), .ref (ad 6), .ref (ad 7), .ref (ad 8), .int (ρ.s 4), .ref (ad 9), .ref (ad 10), .ref (ad 11), .ref (ad 12), .ref (ad 13), .ref (ad 14), .ref (ad 15), .ref (ad 16), .ref (ad 17), .ref (ad 18), .ref (ad 19), .ref (ad 20), .ref (ad 21), .ref (ad 22), .ref (ad 23), .ref (ad 24), .ref (ad 25)]))) H := hV
      generalize hV_V_4 : hu V mo (.inr (7, [.int 0, .int (ρ.s 1), .int (ρ.s 2), .int (ρ.s 3), .ref (ad 0), .ref (ad 1), .ref (ad 2), .ref (ad 3), .ref (ad 4), .ref (ad 5), .ref (ad 6), .ref (ad 7), .ref (ad 8), .int (ρ.s 4), .ref (ad 9), .ref (ad 10), .ref (ad 11), .ref (ad 12), .ref (ad 13), .ref (ad 14), .ref (ad 15), .ref (ad 16), .ref (ad 17), .ref (ad 18), .ref (ad 19), .ref (ad 20), .ref (ad 21), .ref (ad 22), .ref (ad 23), .ref (ad 24), .ref (ad 25)])) = V_4 at hV
      have hM_4 : mdOk k V_4 mo ad (ρ.ws 0 0) := by rw [← hV_V_4]; exact md_put hM 0 0
      have hR_4 : mdFr mo ad V V_4 := by rw [← hV_V_4]; exact (mdFr.rf (mo := mo) (ad := ad) (V := V)).m
      have hm_5 : V_4 mo = some (.inr (7, [.int 0, .int (ρ.s 1), .int (ρ.s 2), .int (ρ.s 3), .ref (ad 0), .ref (ad 1), .ref (ad 2), .ref (ad 3), .ref (ad 4), .ref (ad 5), .ref (ad 6), .ref (ad 7), .ref (ad 8), .int (ρ.s 4), .ref (ad 9), .ref (ad 10), .ref (ad 11), .ref (ad 12), .ref (ad 13), .ref (ad 14), .ref (ad 15), .ref (ad 16), .ref (ad 17), .ref (ad 18), .ref (ad 19), .ref (ad 20), .ref (ad 21), .ref (ad 22), .ref (ad 23), .ref (ad 24), .ref (ad 25)])) := hM_4.1
      have hm_5_1 : V_4 (ad 1) = some (eZ k 150 (ρ.I 1)) := hM_4.a1
      have hm_5_2 : V_4 (ad 2) = some (eI k 150 (ρ.I 2)) := hM_4.a2
      have hm_5_3 : V_4 (ad 3) = some (eI k 150 (ρ.I 3)) := hM_4.a3
      have hm_5_19 : V_4 (ad 19) = some (eI k 64 (ρ.I 19)) := hM_4.a19
      have hm_5_20 : V_4 (ad 20) = some (eZ k 1200 (ρ.I 20)) := hM_4.a20
      have hm_5_21 : V_4 (ad 21) = some (eI k 1200 (ρ.I 21)) := hM_4.a21
      have hm_5_22 : V_4 (ad 22) = some (eI k 1200 (ρ.I 22)) := hM_4.a22
      refine lv_aload_n hx hb d_Mo_back_32 rfl (lv_at hl 1 rfl) ?_
      refine gf_Mo_100 hx hb hW hown hG hV hm_5 d_Mo_back_33 ?_
      refine lv_if_eq (tgt := 41) hx hb d_Mo_back_36 (by decide) (fun _ => ?_) (fun q => absurd q (by decide))
      obtain ⟨g0a, k0a⟩ := moFault0 c_2
      refine lv_iload_n hx hb d_Mo_back_41 rfl (lv_at hl 2 rfl) ?_
      refine lv_sipush (v := 1000) hx hb d_Mo_back_42 (by decide) ?_
      refine lv_irem hx hb d_Mo_back_45 (by decide) ?_
      obtain ⟨-, eN, -, -, hlt9⟩ := mg_of hGm g0a
      have hKh : hdK h = 7 := hdK_of (by decide) k0a
      have hp9 : hdN h < 8 := by rw [hKh] at hlt9; exact Nat.lt_of_lt_of_le hlt9 (mN_of hGm (by omega) (by omega)).2
      refine W.eq (g2 := F0 m 46 ls [.int (nI (hdN h))]) (by rw [eN]) ?_
      refine lv_istore_n (lv' := [(3, .int (nI (hdN h))), (2, .int (moFault (ρ.I 0) h 7)), (0, .ref mo), (1, .int h)]) hx hb d_Mo_back_46 rfl hl (by decide) rfl (fun ls hl => ?_)
      refine lv_iconst (v := 0) hx hb d_Mo_back_47 (by decide) ?_
      refine lv_istore (lv' := [(4, .int 0), (3, .int (nI (hdN h))), (2, .int (moFault (ρ.I 0) h 7)), (0, .ref mo), (1, .int h)]) hx hb d_Mo_back_48 hl (by decide) rfl (fun ls hl => ?_)
      refine lv_iconst (v := 0) hx hb d_Mo_back_50 (by decide) ?_
      refine lv_istore (lv' := [(5, .int 0), (4, .int 0), (3, .int (nI (hdN h))), (2, .int (moFault (ρ.I 0) h 7)), (0, .ref mo), (1, .int h)]) hx hb d_Mo_back_51 hl (by decide) rfl (fun ls hl => ?_)
      have loop_6 : ∀ (n i : Nat) (V1 : HV) (c0 : Nat) (H : Heap) (locs : List Loc) (ls : Array Slot), i ≤ 150 → 150 + 1 ≤ i + n → (mdOk k V1 mo ad (moBkL (ρ.ws 0 0) (hdN h) i) ∧ mdFr mo ad V V1 ∧ c0 = moBkC (ρ.ws 0 0) (hdN h) i) → hv D vwCl N0 V1 H → va_S (hA N0) s.heap H locs → lv_has ls 9 [(0, .ref mo), (1, .int h), (2, .int (moFault (ρ.I 0) h 7)), (3, .int (nI (hdN h))), (4, .int (nI c0)), (5, .int (nI i))] → W p l e (headSpec (.code y_Mo_back b_Mo_back 9 (some .int) :: WS) ({ frames := 2, cells := 0, slots := 0, locals := 44 })).room s m #[.ref mo, .int h] below meth c H locs 0 0 (MQ below (va_Qi (fun r V' => mdOk k V' mo ad (moBack ρ h).2 ∧ mdFr mo ad V V' ∧ r = (moBack ρ h).1) (mB D N0) (hA N0)) #[.ref mo, .int h] s 0 0 (hA N0)) (F0 m 53 ls []) := by
        intro n
        induction n with
        | zero => intro i V1 c0 H locs ls h1 h2; exact absurd h2 (by omega)
        | succ n ih =>
          intro i V1 c0 H locs ls hi hin hI hV hS hl
          obtain ⟨hM1, hR1, hc1⟩ := hI
          obtain ⟨ρl, eρl⟩ : ∃ z, z = moBkL (ρ.ws 0 0) (hdN h) i := ⟨_, rfl⟩
          rw [← eρl] at hM1
          have hm_7 : V1 mo = some (.inr (7, [.int (ρl.s 0), .int (ρl.s 1), .int (ρl.s 2), .int (ρl.s 3), .ref (ad 0), .ref (ad 1), .ref (ad 2), .ref (ad 3), .ref (ad 4), .ref (ad 5), .ref (ad 6), .ref (ad 7), .ref (ad 8), .int (ρl.s 4), .ref (ad 9), .ref (ad 10), .ref (ad 11), .ref (ad 12), .ref (ad 13), .ref (ad 14), .ref (ad 15), .ref (ad 16), .ref (ad 17), .ref (ad 18), .ref (ad 19), .ref (ad 20), .ref (ad 21), .ref (ad 22), .ref (ad 23), .ref (ad 24), .ref (ad 25)])) := hM1.1
          have hm_7_1 : V1 (ad 1) = some (eZ k 150 (ρl.I 1)) := hM1.a1
          have hm_7_2 : V1 (ad 2) = some (eI k 150 (ρl.I 2)) := hM1.a2
          have hm_7_3 : V1 (ad 3) = some (eI k 150 (ρl.I 3)) := hM1.a3
          have hm_7_19 : V1 (ad 19) = some (eI k 64 (ρl.I 19)) := hM1.a19
          have hm_7_20 : V1 (ad 20) = some (eZ k 1200 (ρl.I 20)) := hM1.a20
          have hm_7_21 : V1 (ad 21) = some (eI k 1200 (ρl.I 21)) := hM1.a21
          have hm_7_22 : V1 (ad 22) = some (eI k 1200 (ρl.I 22)) := hM1.a22
          refine lv_iload hx hb d_Mo_back_53 (lv_at hl 5 rfl) ?_
          refine lv_sipush (v := 150) hx hb d_Mo_back_55 (by decide) ?_
          refine lv_icmp_ge (tgt := 289) hx hb d_Mo_back_58 (by decide) (fun c_8 => ?_) (fun c_8 => ?_)
          · have hge : 150 ≤ i := nI_le' c_8 (by omega) (by omega)
            refine lv_iload hx hb d_Mo_back_289 (lv_at hl 4 rfl) ?_
            try simp only [bI_ne0, bI_eq0, decide_eq_true_eq, decide_eq_false_iff_not, Bool.not_eq_false, Bool.not_eq_true, Decidable.not_not] at c_2
            try simp only [bI_ne0, bI_eq0, decide_eq_true_eq, decide_eq_false_iff_not, Bool.not_eq_false, Bool.not_eq_true, Decidable.not_not] at c_3
            try simp only [bI_ne0, bI_eq0, decide_eq_true_eq, decide_eq_false_iff_not, Bool.not_eq_false, Bool.not_eq_true, Decidable.not_not] at c_8
            have hi9 : i = 150 := by omega
            have hM9 := hM1
            rw [eρl, hi9] at hM9
            rw [hi9] at hc1
            have hc9 := hc1
            have hfin : moBack ρ h = (nI c0, moBkL (ρ.ws 0 0) (hdN h) 150) := by rw [hc9]; simp only [moBack, c_2, c_3, decide_true, decide_false, Bool.true_and, Bool.and_true, Bool.false_and, Bool.and_false, Bool.true_or, Bool.or_true, Bool.false_or, Bool.or_false, Bool.not_true, Bool.not_false, if_true, if_false, Bool.false_eq_true, Bool.true_eq_false, reduceIte, eq_self]
            generalize moBkL (ρ.ws 0 0) (hdN h) 150 = zz at hM9 hfin
            exact W.iret (v := (nI c0)) hx hb hr (fun t9 ht hW => ⟨⟨(nI c0), V1, rfl, ⟨by rw [hfin]; exact hM9, hR1, by rw [hfin]⟩, mB_of ht hV⟩, hS.F ht⟩) hS.2.2 d_Mo_back_291
          · have hlt : i < 150 := nI_nle' c_8 (by omega) (by omega)
            refine lv_sipush (v := 150) hx hb d_Mo_back_61 (by decide) ?_
            refine lv_iload_n hx hb d_Mo_back_64 rfl (lv_at hl 3 rfl) ?_
            refine lv_imul hx hb d_Mo_back_65 ?_
            refine lv_iload hx hb d_Mo_back_66 (lv_at hl 5 rfl) ?_
            refine lv_iadd hx hb d_Mo_back_68 ?_
            have hk9 : (150 : Int32) * nI (hdN h) + nI i = nI (150 * hdN h + i) := by rw [show (150 : Int32) = nI 150 from rfl, nI_mulN, nI_add]
            refine W.eq (g2 := F0 m 69 ls [.int (nI (150 * hdN h + i))]) (by rw [hk9]) ?_
            refine lv_istore (lv' := [(6, .int (nI (150 * hdN h + i))), (0, .ref mo), (1, .int h), (2, .int (moFault (ρ.I 0) h 7)), (3, .int (nI (hdN h))), (4, .int (nI c0)), (5, .int (nI i))]) hx hb d_Mo_back_69 hl (by decide) rfl (fun ls hl => ?_)
            refine lv_iload hx hb d_Mo_back_71 (lv_at hl 6 rfl) ?_
            refine lv_iload hx hb d_Mo_back_73 (lv_at hl 6 rfl) ?_
            refine rc_i (va_runS (As := [.int (nI i)]) (rest := [.int (nI i)]) ⟨hx, hb, hml, hown, hts⟩ (c_Mo_kindOf l D N0 k V1 (nI i)) (va_cwS 1 hts (gi_S wm_Mo_103 wt_Mo_kindOf wi_Mo wc_Mo_kindOf) rfl rfl rfl (by decide +kernel) ⟨Nat.le_of_ble_eq_true rfl, Nat.le_of_ble_eq_true rfl⟩) (mP.preS hG hS hV) rfl rfl hl.1 rfl (lv_room (Nat.le_of_ble_eq_true rfl)) d_Mo_back_75 ⟨Nat.le_of_ble_eq_true rfl, Nat.le_of_ble_eq_true rfl⟩) hS (fun H locs hV hS => ?_)
            refine rc_i (va_runS (As := [.int (moKind (nI i))]) (rest := [.int (nI i)]) ⟨hx, hb, hml, hown, hts⟩ (c_Mo_baseOf l D N0 k V1 (moKind (nI i))) (va_cwS 1 hts (gi_S wm_Mo_107 wt_Mo_baseOf wi_Mo wc_Mo_baseOf) rfl rfl rfl (by decide +kernel) ⟨Nat.le_of_ble_eq_true rfl, Nat.le_of_ble_eq_true rfl⟩) (mP.preS hG hS hV) rfl rfl hl.1 rfl (lv_room (Nat.le_of_ble_eq_true rfl)) d_Mo_back_78 ⟨Nat.le_of_ble_eq_true rfl, Nat.le_of_ble_eq_true rfl⟩) hS (fun H locs hV hS => ?_)
            refine lv_isub hx hb d_Mo_back_81 ?_
            refine W.eq (g2 := F0 m 82 ls [.int (nI (slN i))]) (by rw [moKind_n i hlt, moSub_n i hlt]) ?_
            refine lv_aload_n hx hb d_Mo_back_82 rfl (lv_at hl 1 rfl) ?_
            refine gf_Mo_72 hx hb hW hown hG hV hm_7 d_Mo_back_83 ?_
            refine lv_bipush (v := 8) hx hb d_Mo_back_86 (by decide) ?_
            refine lv_iload_n hx hb d_Mo_back_88 rfl (lv_at hl 4 rfl) ?_
            refine lv_imul hx hb d_Mo_back_89 ?_
            refine lv_iload hx hb d_Mo_back_90 (lv_at hl 6 rfl) ?_
            refine rc_i (va_runS (As := [.int (nI i)]) (rest := [.int (8 * (nI (hdN h))), .ref (ad 19), .int (nI (slN i))]) ⟨hx, hb, hml, hown, hts⟩ (c_Mo_kindOf l D N0 k V1 (nI i)) (va_cwS 1 hts (gi_S wm_Mo_103 wt_Mo_kindOf wi_Mo wc_Mo_kindOf) rfl rfl rfl (by decide +kernel) ⟨Nat.le_of_ble_eq_true rfl, Nat.le_of_ble_eq_true rfl⟩) (mP.preS hG hS hV) rfl rfl hl.1 rfl (lv_room (Nat.le_of_ble_eq_true rfl)) d_Mo_back_92 ⟨Nat.le_of_ble_eq_true rfl, Nat.le_of_ble_eq_true rfl⟩) hS (fun H locs hV hS => ?_)
            refine lv_iadd hx hb d_Mo_back_95 ?_
            have hk8 : (8 : Int32) * nI (hdN h) + moKind (nI i) = nI (8 * hdN h + slK i) := by rw [moKind_n i hlt, show (8 : Int32) = nI 8 from rfl, nI_mulN, nI_add]
            have hsk := slK_in (i := i)
            refine W.eq (g2 := F0 m 96 ls [.int (nI (8 * hdN h + slK i)), .ref (ad 19), .int (nI (slN i))]) (by rw [hk8]) ?_
            refine hv_iald hx hb hG.K hV 0 hm_7_19 rfl (vp_in_nI (by omega) (by omega)) d_Mo_back_96 ?_
            rw [nI_clamp (by omega)]
            have jn_9 : ∀ (ls : Array Slot), lv_has ls 9 [(6, .int (nI (150 * hdN h + i))), (0, .ref mo), (1, .int h), (2, .int (moFault (ρ.I 0) h 7)), (3, .int (nI (hdN h))), (4, .int (nI c0)), (5, .int (nI i))] → W p l e (headSpec (.code y_Mo_back b_Mo_back 9 (some .int) :: WS) ({ frames := 2, cells := 0, slots := 0, locals := 44 })).room s m #[.ref mo, .int h] below meth c H locs 0 0 (MQ below (va_Qi (fun r V' => mdOk k V' mo ad (moBack ρ h).2 ∧ mdFr mo ad V V' ∧ r = (moBack ρ h).1) (mB D N0) (hA N0)) #[.ref mo, .int h] s 0 0 (hA N0)) (F0 m 105 ls [.int (bI (knw ρl (hdN h) i))]) := by
              intro ls hl
              refine lv_istore (lv' := [(7, .int (bI (knw ρl (hdN h) i))), (6, .int (nI (150 * hdN h + i))), (0, .ref mo), (1, .int h), (2, .int (moFault (ρ.I 0) h 7)), (3, .int (nI (hdN h))), (4, .int (nI c0)), (5, .int (nI i))]) hx hb d_Mo_back_105 hl (by decide) rfl (fun ls hl => ?_)
              refine lv_aload_n hx hb d_Mo_back_107 rfl (lv_at hl 2 rfl) ?_
              refine gf_Mo_13 hx hb hW hown hG hV hm_7 d_Mo_back_108 ?_
              refine lv_iload hx hb d_Mo_back_111 (lv_at hl 7 rfl) ?_
              refine hv_zald hx hb hG.K hV 2 hm_7_1 rfl (vp_in_nI (by omega) (by omega)) d_Mo_back_113 ?_
              rw [nI_clamp (by omega)]
              have jn_10 : ∀ (ls : Array Slot), lv_has ls 9 [(7, .int (bI (knw ρl (hdN h) i))), (6, .int (nI (150 * hdN h + i))), (0, .ref mo), (1, .int h), (2, .int (moFault (ρ.I 0) h 7)), (3, .int (nI (hdN h))), (4, .int (nI c0)), (5, .int (nI i))] → W p l e (headSpec (.code y_Mo_back b_Mo_back 9 (some .int) :: WS) ({ frames := 2, cells := 0, slots := 0, locals := 44 })).room s m #[.ref mo, .int h] below meth c H locs 0 0 (MQ below (va_Qi (fun r V' => mdOk k V' mo ad (moBack ρ h).2 ∧ mdFr mo ad V V' ∧ r = (moBack ρ h).1) (mB D N0) (hA N0)) #[.ref mo, .int h] s 0 0 (hA N0)) (F0 m 134 ls [.int (moBkN ρl (hdN h) i), .int ((ρl.I 1) i)]) := by
                intro ls hl
                have jn_11 : ∀ (ls : Array Slot), lv_has ls 9 [(7, .int (bI (knw ρl (hdN h) i))), (6, .int (nI (150 * hdN h + i))), (0, .ref mo), (1, .int h), (2, .int (moFault (ρ.I 0) h 7)), (3, .int (nI (hdN h))), (4, .int (nI c0)), (5, .int (nI i))] → W p l e (headSpec (.code y_Mo_back b_Mo_back 9 (some .int) :: WS) ({ frames := 2, cells := 0, slots := 0, locals := 44 })).room s m #[.ref mo, .int h] below meth c H locs 0 0 (MQ below (va_Qi (fun r V' => mdOk k V' mo ad (moBack ρ h).2 ∧ mdFr mo ad V V' ∧ r = (moBack ρ h).1) (mB D N0) (hA N0)) #[.ref mo, .int h] s 0 0 (hA N0)) (F0 m 181 ls [.int (bI (moBkO ρl (hdN h) i))]) := by
                  intro ls hl
                  refine lv_istore (lv' := [(8, .int (bI (moBkO ρl (hdN h) i))), (7, .int (bI (knw ρl (hdN h) i))), (6, .int (nI (150 * hdN h + i))), (0, .ref mo), (1, .int h), (2, .int (moFault (ρ.I 0) h 7)), (3, .int (nI (hdN h))), (4, .int (nI c0)), (5, .int (nI i))]) hx hb d_Mo_back_181 hl (by decide) rfl (fun ls hl => ?_)
                  refine lv_iload hx hb d_Mo_back_183 (lv_at hl 7 rfl) ?_
                  refine lv_iload hx hb d_Mo_back_185 (lv_at hl 0 rfl) ?_
                  have jn_12 : ∀ (ls : Array Slot), lv_has ls 9 [(8, .int (bI (moBkO ρl (hdN h) i))), (7, .int (bI (knw ρl (hdN h) i))), (6, .int (nI (150 * hdN h + i))), (0, .ref mo), (1, .int h), (2, .int (moFault (ρ.I 0) h 7)), (3, .int (nI (hdN h))), (4, .int (nI c0)), (5, .int (nI i))] → W p l e (headSpec (.code y_Mo_back b_Mo_back 9 (some .int) :: WS) ({ frames := 2, cells := 0, slots := 0, locals := 44 })).room s m #[.ref mo, .int h] below meth c H locs 0 0 (MQ below (va_Qi (fun r V' => mdOk k V' mo ad (moBack ρ h).2 ∧ mdFr mo ad V V' ∧ r = (moBack ρ h).1) (mB D N0) (hA N0)) #[.ref mo, .int h] s 0 0 (hA N0)) (F0 m 195 ls [.int (bI (moBkO ρl (hdN h) i)), .int (nI c0)]) := by
                    intro ls hl
                    refine lv_iadd hx hb d_Mo_back_195 ?_
                    refine lv_istore (lv' := [(4, .int ((nI c0) + (bI (moBkO ρl (hdN h) i)))), (8, .int (bI (moBkO ρl (hdN h) i))), (7, .int (bI (knw ρl (hdN h) i))), (6, .int (nI (150 * hdN h + i))), (0, .ref mo), (1, .int h), (2, .int (moFault (ρ.I 0) h 7)), (3, .int (nI (hdN h))), (5, .int (nI i))]) hx hb d_Mo_back_196 hl (by decide) rfl (fun ls hl => ?_)
                    refine lv_aload_n hx hb d_Mo_back_198 rfl (lv_at hl 4 rfl) ?_
                    refine gf_Mo_13 hx hb hW hown hG hV hm_7 d_Mo_back_199 ?_
                    refine lv_iload hx hb d_Mo_back_202 (lv_at hl 8 rfl) ?_
                    refine lv_iload hx hb d_Mo_back_204 (lv_at hl 2 rfl) ?_
                    have jn_13 : ∀ (ls : Array Slot), lv_has ls 9 [(4, .int ((nI c0) + (bI (moBkO ρl (hdN h) i)))), (8, .int (bI (moBkO ρl (hdN h) i))), (7, .int (bI (knw ρl (hdN h) i))), (6, .int (nI (150 * hdN h + i))), (0, .ref mo), (1, .int h), (2, .int (moFault (ρ.I 0) h 7)), (3, .int (nI (hdN h))), (5, .int (nI i))] → W p l e (headSpec (.code y_Mo_back b_Mo_back 9 (some .int) :: WS) ({ frames := 2, cells := 0, slots := 0, locals := 44 })).room s m #[.ref mo, .int h] below meth c H locs 0 0 (MQ below (va_Qi (fun r V' => mdOk k V' mo ad (moBack ρ h).2 ∧ mdFr mo ad V V' ∧ r = (moBack ρ h).1) (mB D N0) (hA N0)) #[.ref mo, .int h] s 0 0 (hA N0)) (F0 m 224 ls [.int (moBkN ρl (hdN h) i), .int (nI i), .ref (ad 1)]) := by
                      intro ls hl
                      refine hv_zast hx hb hG.K hV hS 2 hm_7_1 rfl (bI_or _) (vp_in_nI (by omega) (by omega)) d_Mo_back_224 (fun H locs hV hS => ?_)
                      rw [nI_clamp (by omega)] at hV
                      replace hV : hv D vwCl N0 (hu V1 (ad 1) (eZ k 150 (upd (ρl.I 1) i (moBkN ρl (hdN h) i)))) H := hV
                      generalize hV_V_14 : hu V1 (ad 1) (eZ k 150 (upd (ρl.I 1) i (moBkN ρl (hdN h) i))) = V_14 at hV
                      have hM_14 : mdOk k V_14 mo ad (ρl.wI 1 (upd (ρl.I 1) i (moBkN ρl (hdN h) i))) := by rw [← hV_V_14]; exact md_set hM1 1 (by omega) (upd (ρl.I 1) i (moBkN ρl (hdN h) i))
                      have hR_14 : mdFr mo ad V V_14 := by rw [← hV_V_14]; exact hR1.ar (j := 1) (by omega)
                      have hm_15 : V_14 mo = some (.inr (7, [.int (ρl.s 0), .int (ρl.s 1), .int (ρl.s 2), .int (ρl.s 3), .ref (ad 0), .ref (ad 1), .ref (ad 2), .ref (ad 3), .ref (ad 4), .ref (ad 5), .ref (ad 6), .ref (ad 7), .ref (ad 8), .int (ρl.s 4), .ref (ad 9), .ref (ad 10), .ref (ad 11), .ref (ad 12), .ref (ad 13), .ref (ad 14), .ref (ad 15), .ref (ad 16), .ref (ad 17), .ref (ad 18), .ref (ad 19), .ref (ad 20), .ref (ad 21), .ref (ad 22), .ref (ad 23), .ref (ad 24), .ref (ad 25)])) := hM_14.1
                      have hm_15_1 : V_14 (ad 1) = some (eZ k 150 (upd (ρl.I 1) i (moBkN ρl (hdN h) i))) := hM_14.a1
                      have hm_15_2 : V_14 (ad 2) = some (eI k 150 (ρl.I 2)) := hM_14.a2
                      have hm_15_3 : V_14 (ad 3) = some (eI k 150 (ρl.I 3)) := hM_14.a3
                      have hm_15_19 : V_14 (ad 19) = some (eI k 64 (ρl.I 19)) := hM_14.a19
                      have hm_15_20 : V_14 (ad 20) = some (eZ k 1200 (ρl.I 20)) := hM_14.a20
                      have hm_15_21 : V_14 (ad 21) = some (eI k 1200 (ρl.I 21)) := hM_14.a21
                      have hm_15_22 : V_14 (ad 22) = some (eI k 1200 (ρl.I 22)) := hM_14.a22
                      refine lv_aload_n hx hb d_Mo_back_225 rfl (lv_at hl 4 rfl) ?_
                      refine gf_Mo_17 hx hb hW hown hG hV hm_15 d_Mo_back_226 ?_
                      refine lv_iload hx hb d_Mo_back_229 (lv_at hl 8 rfl) ?_
                      refine lv_iload hx hb d_Mo_back_231 (lv_at hl 2 rfl) ?_
                      have jn_16 : ∀ (ls : Array Slot), lv_has ls 9 [(4, .int ((nI c0) + (bI (moBkO ρl (hdN h) i)))), (8, .int (bI (moBkO ρl (hdN h) i))), (7, .int (bI (knw ρl (hdN h) i))), (6, .int (nI (150 * hdN h + i))), (0, .ref mo), (1, .int h), (2, .int (moFault (ρ.I 0) h 7)), (3, .int (nI (hdN h))), (5, .int (nI i))] → W p l e (headSpec (.code y_Mo_back b_Mo_back 9 (some .int) :: WS) ({ frames := 2, cells := 0, slots := 0, locals := 44 })).room s m #[.ref mo, .int h] below meth c H locs 0 0 (MQ below (va_Qi (fun r V' => mdOk k V' mo ad (moBack ρ h).2 ∧ mdFr mo ad V V' ∧ r = (moBack ρ h).1) (mB D N0) (hA N0)) #[.ref mo, .int h] s 0 0 (hA N0)) (F0 m 253 ls [.int (if knw ρl (hdN h) i = true then ρl.I 21 (150 * hdN h + i) else ρl.I 2 i), .int (nI i), .ref (ad 2)]) := by
                        intro ls hl
                        refine hv_iast hx hb hG.K hV hS 0 hm_15_2 rfl (vp_in_nI (by omega) (by omega)) d_Mo_back_253 (fun H locs hV hS => ?_)
                        rw [nI_clamp (by omega)] at hV
                        replace hV : hv D vwCl N0 (hu V_14 (ad 2) (eI k 150 (upd (ρl.I 2) i (if knw ρl (hdN h) i = true then ρl.I 21 (150 * hdN h + i) else ρl.I 2 i)))) H := hV
                        generalize hV_V_17 : hu V_14 (ad 2) (eI k 150 (upd (ρl.I 2) i (if knw ρl (hdN h) i = true then ρl.I 21 (150 * hdN h + i) else ρl.I 2 i))) = V_17 at hV
                        have hM_17 : mdOk k V_17 mo ad ((ρl.wI 1 (upd (ρl.I 1) i (moBkN ρl (hdN h) i))).wI 2 (upd (ρl.I 2) i (if knw ρl (hdN h) i = true then ρl.I 21 (150 * hdN h + i) else ρl.I 2 i))) := by rw [← hV_V_17]; exact md_set hM_14 2 (by omega) (upd (ρl.I 2) i (if knw ρl (hdN h) i = true then ρl.I 21 (150 * hdN h + i) else ρl.I 2 i))
                        have hR_17 : mdFr mo ad V V_17 := by rw [← hV_V_17]; exact hR_14.ar (j := 2) (by omega)
                        have hm_18 : V_17 mo = some (.inr (7, [.int (ρl.s 0), .int (ρl.s 1), .int (ρl.s 2), .int (ρl.s 3), .ref (ad 0), .ref (ad 1), .ref (ad 2), .ref (ad 3), .ref (ad 4), .ref (ad 5), .ref (ad 6), .ref (ad 7), .ref (ad 8), .int (ρl.s 4), .ref (ad 9), .ref (ad 10), .ref (ad 11), .ref (ad 12), .ref (ad 13), .ref (ad 14), .ref (ad 15), .ref (ad 16), .ref (ad 17), .ref (ad 18), .ref (ad 19), .ref (ad 20), .ref (ad 21), .ref (ad 22), .ref (ad 23), .ref (ad 24), .ref (ad 25)])) := hM_17.1
                        have hm_18_1 : V_17 (ad 1) = some (eZ k 150 (upd (ρl.I 1) i (moBkN ρl (hdN h) i))) := hM_17.a1
                        have hm_18_2 : V_17 (ad 2) = some (eI k 150 (upd (ρl.I 2) i (if knw ρl (hdN h) i = true then ρl.I 21 (150 * hdN h + i) else ρl.I 2 i))) := hM_17.a2
                        have hm_18_3 : V_17 (ad 3) = some (eI k 150 (ρl.I 3)) := hM_17.a3
                        have hm_18_19 : V_17 (ad 19) = some (eI k 64 (ρl.I 19)) := hM_17.a19
                        have hm_18_20 : V_17 (ad 20) = some (eZ k 1200 (ρl.I 20)) := hM_17.a20
                        have hm_18_21 : V_17 (ad 21) = some (eI k 1200 (ρl.I 21)) := hM_17.a21
                        have hm_18_22 : V_17 (ad 22) = some (eI k 1200 (ρl.I 22)) := hM_17.a22
                        refine lv_aload_n hx hb d_Mo_back_254 rfl (lv_at hl 4 rfl) ?_
                        refine gf_Mo_20 hx hb hW hown hG hV hm_18 d_Mo_back_255 ?_
                        refine lv_iload hx hb d_Mo_back_258 (lv_at hl 8 rfl) ?_
                        refine lv_iload hx hb d_Mo_back_260 (lv_at hl 2 rfl) ?_
                        have jn_19 : ∀ (ls : Array Slot), lv_has ls 9 [(4, .int ((nI c0) + (bI (moBkO ρl (hdN h) i)))), (8, .int (bI (moBkO ρl (hdN h) i))), (7, .int (bI (knw ρl (hdN h) i))), (6, .int (nI (150 * hdN h + i))), (0, .ref mo), (1, .int h), (2, .int (moFault (ρ.I 0) h 7)), (3, .int (nI (hdN h))), (5, .int (nI i))] → W p l e (headSpec (.code y_Mo_back b_Mo_back 9 (some .int) :: WS) ({ frames := 2, cells := 0, slots := 0, locals := 44 })).room s m #[.ref mo, .int h] below meth c H locs 0 0 (MQ below (va_Qi (fun r V' => mdOk k V' mo ad (moBack ρ h).2 ∧ mdFr mo ad V V' ∧ r = (moBack ρ h).1) (mB D N0) (hA N0)) #[.ref mo, .int h] s 0 0 (hA N0)) (F0 m 282 ls [.int (if knw ρl (hdN h) i = true then ρl.I 22 (150 * hdN h + i) else ρl.I 3 i), .int (nI i), .ref (ad 3)]) := by
                          intro ls hl
                          refine hv_iast hx hb hG.K hV hS 0 hm_18_3 rfl (vp_in_nI (by omega) (by omega)) d_Mo_back_282 (fun H locs hV hS => ?_)
                          rw [nI_clamp (by omega)] at hV
                          replace hV : hv D vwCl N0 (hu V_17 (ad 3) (eI k 150 (upd (ρl.I 3) i (if knw ρl (hdN h) i = true then ρl.I 22 (150 * hdN h + i) else ρl.I 3 i)))) H := hV
                          generalize hV_V_20 : hu V_17 (ad 3) (eI k 150 (upd (ρl.I 3) i (if knw ρl (hdN h) i = true then ρl.I 22 (150 * hdN h + i) else ρl.I 3 i))) = V_20 at hV
                          have hM_20 : mdOk k V_20 mo ad (((ρl.wI 1 (upd (ρl.I 1) i (moBkN ρl (hdN h) i))).wI 2 (upd (ρl.I 2) i (if knw ρl (hdN h) i = true then ρl.I 21 (150 * hdN h + i) else ρl.I 2 i))).wI 3 (upd (ρl.I 3) i (if knw ρl (hdN h) i = true then ρl.I 22 (150 * hdN h + i) else ρl.I 3 i))) := by rw [← hV_V_20]; exact md_set hM_17 3 (by omega) (upd (ρl.I 3) i (if knw ρl (hdN h) i = true then ρl.I 22 (150 * hdN h + i) else ρl.I 3 i))
                          have hR_20 : mdFr mo ad V V_20 := by rw [← hV_V_20]; exact hR_17.ar (j := 3) (by omega)
                          have hm_21 : V_20 mo = some (.inr (7, [.int (ρl.s 0), .int (ρl.s 1), .int (ρl.s 2), .int (ρl.s 3), .ref (ad 0), .ref (ad 1), .ref (ad 2), .ref (ad 3), .ref (ad 4), .ref (ad 5), .ref (ad 6), .ref (ad 7), .ref (ad 8), .int (ρl.s 4), .ref (ad 9), .ref (ad 10), .ref (ad 11), .ref (ad 12), .ref (ad 13), .ref (ad 14), .ref (ad 15), .ref (ad 16), .ref (ad 17), .ref (ad 18), .ref (ad 19), .ref (ad 20), .ref (ad 21), .ref (ad 22), .ref (ad 23), .ref (ad 24), .ref (ad 25)])) := hM_20.1
                          have hm_21_1 : V_20 (ad 1) = some (eZ k 150 (upd (ρl.I 1) i (moBkN ρl (hdN h) i))) := hM_20.a1
                          have hm_21_2 : V_20 (ad 2) = some (eI k 150 (upd (ρl.I 2) i (if knw ρl (hdN h) i = true then ρl.I 21 (150 * hdN h + i) else ρl.I 2 i))) := hM_20.a2
                          have hm_21_3 : V_20 (ad 3) = some (eI k 150 (upd (ρl.I 3) i (if knw ρl (hdN h) i = true then ρl.I 22 (150 * hdN h + i) else ρl.I 3 i))) := hM_20.a3
                          have hm_21_19 : V_20 (ad 19) = some (eI k 64 (ρl.I 19)) := hM_20.a19
                          have hm_21_20 : V_20 (ad 20) = some (eZ k 1200 (ρl.I 20)) := hM_20.a20
                          have hm_21_21 : V_20 (ad 21) = some (eI k 1200 (ρl.I 21)) := hM_20.a21
                          have hm_21_22 : V_20 (ad 22) = some (eI k 1200 (ρl.I 22)) := hM_20.a22
                          obtain ⟨i_22, ei_22⟩ : ∃ y : Int32, y = (nI i) + 1 := ⟨_, rfl⟩
                          refine lv_iinc (v := i_22) (lv' := [(5, .int i_22), (4, .int ((nI c0) + (bI (moBkO ρl (hdN h) i)))), (8, .int (bI (moBkO ρl (hdN h) i))), (7, .int (bI (knw ρl (hdN h) i))), (6, .int (nI (150 * hdN h + i))), (0, .ref mo), (1, .int h), (2, .int (moFault (ρ.I 0) h 7)), (3, .int (nI (hdN h)))]) hx hb d_Mo_back_283 hl (k := 8) rfl (by rw [ei_22]; rfl) (by decide) rfl (fun ls hl => ?_)
                          refine lv_goto (tgt := 53) hx hb d_Mo_back_286 (by decide) ?_
                          rw [nI_1] at ei_22
                          subst ei_22
                          have hcn : nI (c0 + (if moBkO ρl (hdN h) i = true then 1 else 0)) = nI c0 + bI (moBkO ρl (hdN h) i) := by cases moBkO ρl (hdN h) i with | true => rw [if_pos rfl, ← nI_1]; rfl | false => rw [if_neg Bool.false_ne_true]; exact (Int32.add_zero _).symm
                          exact ih (i + 1) V_20 (c0 + (if moBkO ρl (hdN h) i = true then 1 else 0)) _ _ _ (by omega) (by omega) (⟨by rw [moBkL, ← eρl]; exact hM_20, hR_20, by rw [hc1, moBkC, ← eρl]⟩) hV hS (lv_sub hl [5, 6, 7, 8, 1, 0] (by rw [hcn]; rfl))
                        refine lv_if_eq (tgt := 275) hx hb d_Mo_back_262 (by decide) (fun c_23 => ?_) (fun c_23 => ?_)
                        · refine lv_aload_n hx hb d_Mo_back_275 rfl (lv_at hl 4 rfl) ?_
                          refine gf_Mo_20 hx hb hW hown hG hV hm_18 d_Mo_back_276 ?_
                          refine lv_iload hx hb d_Mo_back_279 (lv_at hl 8 rfl) ?_
                          refine hv_iald hx hb hG.K hV 0 hm_18_3 rfl (vp_in_nI (by omega) (by omega)) d_Mo_back_281 ?_
                          rw [nI_clamp (by omega)]
                          try simp only [bI_ne0, bI_eq0, decide_eq_true_eq, decide_eq_false_iff_not, Bool.not_eq_false, Bool.not_eq_true, Decidable.not_not] at c_2
                          try simp only [bI_ne0, bI_eq0, decide_eq_true_eq, decide_eq_false_iff_not, Bool.not_eq_false, Bool.not_eq_true, Decidable.not_not] at c_3
                          try simp only [bI_ne0, bI_eq0, decide_eq_true_eq, decide_eq_false_iff_not, Bool.not_eq_false, Bool.not_eq_true, Decidable.not_not] at c_8
                          try simp only [bI_ne0, bI_eq0, decide_eq_true_eq, decide_eq_false_iff_not, Bool.not_eq_false, Bool.not_eq_true, Decidable.not_not] at c_23
                          have hE : (if knw ρl (hdN h) i = true then ρl.I 22 (150 * hdN h + i) else ρl.I 3 i) = ((ρl.I 3) i) := by first | (simp only [bI, if_true, c_23, decide_true, decide_false, Bool.true_and, Bool.and_true, Bool.false_and, Bool.and_false, Bool.true_or, Bool.or_true, Bool.false_or, Bool.or_false, Bool.not_true, Bool.not_false, if_true, if_false, Bool.false_eq_true, Bool.true_eq_false, reduceIte, eq_self]; done) | (simp [bI, if_true, c_23]; done) | (simp_all [bI, if_true]; done)
                          refine W.eq (g2 := F0 m 282 ls [.int (if knw ρl (hdN h) i = true then ρl.I 22 (150 * hdN h + i) else ρl.I 3 i), .int (nI i), .ref (ad 3)]) (by rw [hE]) ?_
                          exact jn_19 _ (lv_sub hl [0, 1, 2, 3, 4, 5, 6, 7, 8] rfl)
                        · refine lv_aload_n hx hb d_Mo_back_265 rfl (lv_at hl 4 rfl) ?_
                          refine gf_Mo_81 hx hb hW hown hG hV hm_18 d_Mo_back_266 ?_
                          refine lv_iload hx hb d_Mo_back_269 (lv_at hl 3 rfl) ?_
                          refine hv_iald hx hb hG.K hV 0 hm_18_22 rfl (vp_in_nI (by omega) (by omega)) d_Mo_back_271 ?_
                          rw [nI_clamp (by omega)]
                          refine lv_goto (tgt := 282) hx hb d_Mo_back_272 (by decide) ?_
                          try simp only [bI_ne0, bI_eq0, decide_eq_true_eq, decide_eq_false_iff_not, Bool.not_eq_false, Bool.not_eq_true, Decidable.not_not] at c_2
                          try simp only [bI_ne0, bI_eq0, decide_eq_true_eq, decide_eq_false_iff_not, Bool.not_eq_false, Bool.not_eq_true, Decidable.not_not] at c_3
                          try simp only [bI_ne0, bI_eq0, decide_eq_true_eq, decide_eq_false_iff_not, Bool.not_eq_false, Bool.not_eq_true, Decidable.not_not] at c_8
                          try simp only [bI_ne0, bI_eq0, decide_eq_true_eq, decide_eq_false_iff_not, Bool.not_eq_false, Bool.not_eq_true, Decidable.not_not] at c_23
                          have hE : (if knw ρl (hdN h) i = true then ρl.I 22 (150 * hdN h + i) else ρl.I 3 i) = ((ρl.I 22) (150 * hdN h + i)) := by first | (simp only [bI, if_true, c_23, decide_true, decide_false, Bool.true_and, Bool.and_true, Bool.false_and, Bool.and_false, Bool.true_or, Bool.or_true, Bool.false_or, Bool.or_false, Bool.not_true, Bool.not_false, if_true, if_false, Bool.false_eq_true, Bool.true_eq_false, reduceIte, eq_self]; done) | (simp [bI, if_true, c_23]; done) | (simp_all [bI, if_true]; done)
                          refine W.eq (g2 := F0 m 282 ls [.int (if knw ρl (hdN h) i = true then ρl.I 22 (150 * hdN h + i) else ρl.I 3 i), .int (nI i), .ref (ad 3)]) (by rw [hE]) ?_
                          exact jn_19 _ (lv_sub hl [0, 1, 2, 3, 4, 5, 6, 7, 8] rfl)
                      refine lv_if_eq (tgt := 246) hx hb d_Mo_back_233 (by decide) (fun c_24 => ?_) (fun c_24 => ?_)
                      · refine lv_aload_n hx hb d_Mo_back_246 rfl (lv_at hl 4 rfl) ?_
                        refine gf_Mo_17 hx hb hW hown hG hV hm_15 d_Mo_back_247 ?_
                        refine lv_iload hx hb d_Mo_back_250 (lv_at hl 8 rfl) ?_
                        refine hv_iald hx hb hG.K hV 0 hm_15_2 rfl (vp_in_nI (by omega) (by omega)) d_Mo_back_252 ?_
                        rw [nI_clamp (by omega)]
                        try simp only [bI_ne0, bI_eq0, decide_eq_true_eq, decide_eq_false_iff_not, Bool.not_eq_false, Bool.not_eq_true, Decidable.not_not] at c_2
                        try simp only [bI_ne0, bI_eq0, decide_eq_true_eq, decide_eq_false_iff_not, Bool.not_eq_false, Bool.not_eq_true, Decidable.not_not] at c_3
                        try simp only [bI_ne0, bI_eq0, decide_eq_true_eq, decide_eq_false_iff_not, Bool.not_eq_false, Bool.not_eq_true, Decidable.not_not] at c_8
                        try simp only [bI_ne0, bI_eq0, decide_eq_true_eq, decide_eq_false_iff_not, Bool.not_eq_false, Bool.not_eq_true, Decidable.not_not] at c_24
                        have hE : (if knw ρl (hdN h) i = true then ρl.I 21 (150 * hdN h + i) else ρl.I 2 i) = ((ρl.I 2) i) := by first | (simp only [bI, if_true, c_24, decide_true, decide_false, Bool.true_and, Bool.and_true, Bool.false_and, Bool.and_false, Bool.true_or, Bool.or_true, Bool.false_or, Bool.or_false, Bool.not_true, Bool.not_false, if_true, if_false, Bool.false_eq_true, Bool.true_eq_false, reduceIte, eq_self]; done) | (simp [bI, if_true, c_24]; done) | (simp_all [bI, if_true]; done)
                        refine W.eq (g2 := F0 m 253 ls [.int (if knw ρl (hdN h) i = true then ρl.I 21 (150 * hdN h + i) else ρl.I 2 i), .int (nI i), .ref (ad 2)]) (by rw [hE]) ?_
                        exact jn_16 _ (lv_sub hl [0, 1, 2, 3, 4, 5, 6, 7, 8] rfl)
                      · refine lv_aload_n hx hb d_Mo_back_236 rfl (lv_at hl 4 rfl) ?_
                        refine gf_Mo_78 hx hb hW hown hG hV hm_15 d_Mo_back_237 ?_
                        refine lv_iload hx hb d_Mo_back_240 (lv_at hl 3 rfl) ?_
                        refine hv_iald hx hb hG.K hV 0 hm_15_21 rfl (vp_in_nI (by omega) (by omega)) d_Mo_back_242 ?_
                        rw [nI_clamp (by omega)]
                        refine lv_goto (tgt := 253) hx hb d_Mo_back_243 (by decide) ?_
                        try simp only [bI_ne0, bI_eq0, decide_eq_true_eq, decide_eq_false_iff_not, Bool.not_eq_false, Bool.not_eq_true, Decidable.not_not] at c_2
                        try simp only [bI_ne0, bI_eq0, decide_eq_true_eq, decide_eq_false_iff_not, Bool.not_eq_false, Bool.not_eq_true, Decidable.not_not] at c_3
                        try simp only [bI_ne0, bI_eq0, decide_eq_true_eq, decide_eq_false_iff_not, Bool.not_eq_false, Bool.not_eq_true, Decidable.not_not] at c_8
                        try simp only [bI_ne0, bI_eq0, decide_eq_true_eq, decide_eq_false_iff_not, Bool.not_eq_false, Bool.not_eq_true, Decidable.not_not] at c_24
                        have hE : (if knw ρl (hdN h) i = true then ρl.I 21 (150 * hdN h + i) else ρl.I 2 i) = ((ρl.I 21) (150 * hdN h + i)) := by first | (simp only [bI, if_true, c_24, decide_true, decide_false, Bool.true_and, Bool.and_true, Bool.false_and, Bool.and_false, Bool.true_or, Bool.or_true, Bool.false_or, Bool.or_false, Bool.not_true, Bool.not_false, if_true, if_false, Bool.false_eq_true, Bool.true_eq_false, reduceIte, eq_self]; done) | (simp [bI, if_true, c_24]; done) | (simp_all [bI, if_true]; done)
                        refine W.eq (g2 := F0 m 253 ls [.int (if knw ρl (hdN h) i = true then ρl.I 21 (150 * hdN h + i) else ρl.I 2 i), .int (nI i), .ref (ad 2)]) (by rw [hE]) ?_
                        exact jn_16 _ (lv_sub hl [0, 1, 2, 3, 4, 5, 6, 7, 8] rfl)
                    refine lv_if_eq (tgt := 223) hx hb d_Mo_back_206 (by decide) (fun c_25 => ?_) (fun c_25 => ?_)
                    · refine lv_iconst (v := 0) hx hb d_Mo_back_223 (by decide) ?_
                      try simp only [bI_ne0, bI_eq0, decide_eq_true_eq, decide_eq_false_iff_not, Bool.not_eq_false, Bool.not_eq_true, Decidable.not_not] at c_2
                      try simp only [bI_ne0, bI_eq0, decide_eq_true_eq, decide_eq_false_iff_not, Bool.not_eq_false, Bool.not_eq_true, Decidable.not_not] at c_3
                      try simp only [bI_ne0, bI_eq0, decide_eq_true_eq, decide_eq_false_iff_not, Bool.not_eq_false, Bool.not_eq_true, Decidable.not_not] at c_8
                      try simp only [bI_ne0, bI_eq0, decide_eq_true_eq, decide_eq_false_iff_not, Bool.not_eq_false, Bool.not_eq_true, Decidable.not_not] at c_25
                      have hE : (moBkN ρl (hdN h) i) = 0 := by first | (simp only [bI, moBkN, c_25, decide_true, decide_false, Bool.true_and, Bool.and_true, Bool.false_and, Bool.and_false, Bool.true_or, Bool.or_true, Bool.false_or, Bool.or_false, Bool.not_true, Bool.not_false, if_true, if_false, Bool.false_eq_true, Bool.true_eq_false, reduceIte, eq_self]; done) | (simp [bI, moBkN, c_25]; done) | (simp_all [bI, moBkN]; done)
                      refine W.eq (g2 := F0 m 224 ls [.int (moBkN ρl (hdN h) i), .int (nI i), .ref (ad 1)]) (by rw [hE]) ?_
                      exact jn_13 _ (lv_sub hl [0, 1, 2, 3, 4, 5, 6, 7, 8] rfl)
                    · refine lv_aload_n hx hb d_Mo_back_209 rfl (lv_at hl 4 rfl) ?_
                      refine gf_Mo_75 hx hb hW hown hG hV hm_7 d_Mo_back_210 ?_
                      refine lv_iload hx hb d_Mo_back_213 (lv_at hl 3 rfl) ?_
                      refine hv_zald hx hb hG.K hV 2 hm_7_20 rfl (vp_in_nI (by omega) (by omega)) d_Mo_back_215 ?_
                      rw [nI_clamp (by omega)]
                      refine lv_if_eq (tgt := 223) hx hb d_Mo_back_216 (by decide) (fun c_26 => ?_) (fun c_26 => ?_)
                      · refine lv_iconst (v := 0) hx hb d_Mo_back_223 (by decide) ?_
                        try simp only [bI_ne0, bI_eq0, decide_eq_true_eq, decide_eq_false_iff_not, Bool.not_eq_false, Bool.not_eq_true, Decidable.not_not] at c_2
                        try simp only [bI_ne0, bI_eq0, decide_eq_true_eq, decide_eq_false_iff_not, Bool.not_eq_false, Bool.not_eq_true, Decidable.not_not] at c_3
                        try simp only [bI_ne0, bI_eq0, decide_eq_true_eq, decide_eq_false_iff_not, Bool.not_eq_false, Bool.not_eq_true, Decidable.not_not] at c_8
                        try simp only [bI_ne0, bI_eq0, decide_eq_true_eq, decide_eq_false_iff_not, Bool.not_eq_false, Bool.not_eq_true, Decidable.not_not] at c_25
                        try simp only [bI_ne0, bI_eq0, decide_eq_true_eq, decide_eq_false_iff_not, Bool.not_eq_false, Bool.not_eq_true, Decidable.not_not] at c_26
                        have hE : (moBkN ρl (hdN h) i) = 0 := by first | (simp only [bI, moBkN, c_25, c_26, decide_true, decide_false, Bool.true_and, Bool.and_true, Bool.false_and, Bool.and_false, Bool.true_or, Bool.or_true, Bool.false_or, Bool.or_false, Bool.not_true, Bool.not_false, if_true, if_false, Bool.false_eq_true, Bool.true_eq_false, reduceIte, eq_self]; done) | (simp [bI, moBkN, c_25, c_26]; done) | (simp_all [bI, moBkN]; done)
                        refine W.eq (g2 := F0 m 224 ls [.int (moBkN ρl (hdN h) i), .int (nI i), .ref (ad 1)]) (by rw [hE]) ?_
                        exact jn_13 _ (lv_sub hl [0, 1, 2, 3, 4, 5, 6, 7, 8] rfl)
                      · refine lv_iconst (v := 1) hx hb d_Mo_back_219 (by decide) ?_
                        refine lv_goto (tgt := 224) hx hb d_Mo_back_220 (by decide) ?_
                        try simp only [bI_ne0, bI_eq0, decide_eq_true_eq, decide_eq_false_iff_not, Bool.not_eq_false, Bool.not_eq_true, Decidable.not_not] at c_2
                        try simp only [bI_ne0, bI_eq0, decide_eq_true_eq, decide_eq_false_iff_not, Bool.not_eq_false, Bool.not_eq_true, Decidable.not_not] at c_3
                        try simp only [bI_ne0, bI_eq0, decide_eq_true_eq, decide_eq_false_iff_not, Bool.not_eq_false, Bool.not_eq_true, Decidable.not_not] at c_8
                        try simp only [bI_ne0, bI_eq0, decide_eq_true_eq, decide_eq_false_iff_not, Bool.not_eq_false, Bool.not_eq_true, Decidable.not_not] at c_25
                        try simp only [bI_ne0, bI_eq0, decide_eq_true_eq, decide_eq_false_iff_not, Bool.not_eq_false, Bool.not_eq_true, Decidable.not_not] at c_26
                        have hE : (moBkN ρl (hdN h) i) = 1 := by first | (simp only [bI, moBkN, c_25, c_26, decide_true, decide_false, Bool.true_and, Bool.and_true, Bool.false_and, Bool.and_false, Bool.true_or, Bool.or_true, Bool.false_or, Bool.or_false, Bool.not_true, Bool.not_false, if_true, if_false, Bool.false_eq_true, Bool.true_eq_false, reduceIte, eq_self]; done) | (simp [bI, moBkN, c_25, c_26]; done) | (simp_all [bI, moBkN]; done)
                        refine W.eq (g2 := F0 m 224 ls [.int (moBkN ρl (hdN h) i), .int (nI i), .ref (ad 1)]) (by rw [hE]) ?_
                        exact jn_13 _ (lv_sub hl [0, 1, 2, 3, 4, 5, 6, 7, 8] rfl)
                  refine lv_if_eq (tgt := 194) hx hb d_Mo_back_187 (by decide) (fun c_27 => ?_) (fun c_27 => ?_)
                  · refine lv_iconst (v := 0) hx hb d_Mo_back_194 (by decide) ?_
                    try simp only [bI_ne0, bI_eq0, decide_eq_true_eq, decide_eq_false_iff_not, Bool.not_eq_false, Bool.not_eq_true, Decidable.not_not] at c_2
                    try simp only [bI_ne0, bI_eq0, decide_eq_true_eq, decide_eq_false_iff_not, Bool.not_eq_false, Bool.not_eq_true, Decidable.not_not] at c_3
                    try simp only [bI_ne0, bI_eq0, decide_eq_true_eq, decide_eq_false_iff_not, Bool.not_eq_false, Bool.not_eq_true, Decidable.not_not] at c_8
                    try simp only [bI_ne0, bI_eq0, decide_eq_true_eq, decide_eq_false_iff_not, Bool.not_eq_false, Bool.not_eq_true, Decidable.not_not] at c_27
                    have hE : (bI (moBkO ρl (hdN h) i)) = 0 := by first | (simp only [bI, bI, c_27, decide_true, decide_false, Bool.true_and, Bool.and_true, Bool.false_and, Bool.and_false, Bool.true_or, Bool.or_true, Bool.false_or, Bool.or_false, Bool.not_true, Bool.not_false, if_true, if_false, Bool.false_eq_true, Bool.true_eq_false, reduceIte, eq_self]; done) | (simp [bI, bI, c_27]; done) | (simp_all [bI, bI]; done)
                    refine W.eq (g2 := F0 m 195 ls [.int (bI (moBkO ρl (hdN h) i)), .int (nI c0)]) (by rw [hE]) ?_
                    exact jn_12 _ (lv_sub hl [0, 1, 2, 3, 4, 5, 6, 7, 8] rfl)
                  · refine lv_iconst (v := 1) hx hb d_Mo_back_190 (by decide) ?_
                    refine lv_goto (tgt := 195) hx hb d_Mo_back_191 (by decide) ?_
                    try simp only [bI_ne0, bI_eq0, decide_eq_true_eq, decide_eq_false_iff_not, Bool.not_eq_false, Bool.not_eq_true, Decidable.not_not] at c_2
                    try simp only [bI_ne0, bI_eq0, decide_eq_true_eq, decide_eq_false_iff_not, Bool.not_eq_false, Bool.not_eq_true, Decidable.not_not] at c_3
                    try simp only [bI_ne0, bI_eq0, decide_eq_true_eq, decide_eq_false_iff_not, Bool.not_eq_false, Bool.not_eq_true, Decidable.not_not] at c_8
                    try simp only [bI_ne0, bI_eq0, decide_eq_true_eq, decide_eq_false_iff_not, Bool.not_eq_false, Bool.not_eq_true, Decidable.not_not] at c_27
                    have hE : (bI (moBkO ρl (hdN h) i)) = 1 := by first | (simp only [bI, bI, c_27, decide_true, decide_false, Bool.true_and, Bool.and_true, Bool.false_and, Bool.and_false, Bool.true_or, Bool.or_true, Bool.false_or, Bool.or_false, Bool.not_true, Bool.not_false, if_true, if_false, Bool.false_eq_true, Bool.true_eq_false, reduceIte, eq_self]; done) | (simp [bI, bI, c_27]; done) | (simp_all [bI, bI]; done)
                    refine W.eq (g2 := F0 m 195 ls [.int (bI (moBkO ρl (hdN h) i)), .int (nI c0)]) (by rw [hE]) ?_
                    exact jn_12 _ (lv_sub hl [0, 1, 2, 3, 4, 5, 6, 7, 8] rfl)
                refine lv_icmp_ne (tgt := 176) hx hb d_Mo_back_134 (by decide) (fun c_28 => ?_) (fun c_28 => ?_)
                · refine lv_iconst (v := 1) hx hb d_Mo_back_176 (by decide) ?_
                  refine lv_goto (tgt := 181) hx hb d_Mo_back_177 (by decide) ?_
                  try simp only [bI_ne0, bI_eq0, decide_eq_true_eq, decide_eq_false_iff_not, Bool.not_eq_false, Bool.not_eq_true, Decidable.not_not] at c_2
                  try simp only [bI_ne0, bI_eq0, decide_eq_true_eq, decide_eq_false_iff_not, Bool.not_eq_false, Bool.not_eq_true, Decidable.not_not] at c_3
                  try simp only [bI_ne0, bI_eq0, decide_eq_true_eq, decide_eq_false_iff_not, Bool.not_eq_false, Bool.not_eq_true, Decidable.not_not] at c_8
                  try simp only [bI_ne0, bI_eq0, decide_eq_true_eq, decide_eq_false_iff_not, Bool.not_eq_false, Bool.not_eq_true, Decidable.not_not] at c_28
                  have hE : (bI (moBkO ρl (hdN h) i)) = 1 := by first | (simp only [bI, moBkO, c_28, decide_true, decide_false, Bool.true_and, Bool.and_true, Bool.false_and, Bool.and_false, Bool.true_or, Bool.or_true, Bool.false_or, Bool.or_false, Bool.not_true, Bool.not_false, if_true, if_false, Bool.false_eq_true, Bool.true_eq_false, reduceIte, eq_self]; done) | (simp [bI, moBkO, c_28]; done) | (simp_all [bI, moBkO]; done)
                  refine W.eq (g2 := F0 m 181 ls [.int (bI (moBkO ρl (hdN h) i))]) (by rw [hE]) ?_
                  exact jn_11 _ (lv_sub hl [0, 1, 2, 3, 4, 5, 6, 7] rfl)
                · refine lv_iload hx hb d_Mo_back_137 (lv_at hl 0 rfl) ?_
                  refine lv_if_eq (tgt := 180) hx hb d_Mo_back_139 (by decide) (fun c_29 => ?_) (fun c_29 => ?_)
                  · refine lv_iconst (v := 0) hx hb d_Mo_back_180 (by decide) ?_
                    try simp only [bI_ne0, bI_eq0, decide_eq_true_eq, decide_eq_false_iff_not, Bool.not_eq_false, Bool.not_eq_true, Decidable.not_not] at c_2
                    try simp only [bI_ne0, bI_eq0, decide_eq_true_eq, decide_eq_false_iff_not, Bool.not_eq_false, Bool.not_eq_true, Decidable.not_not] at c_3
                    try simp only [bI_ne0, bI_eq0, decide_eq_true_eq, decide_eq_false_iff_not, Bool.not_eq_false, Bool.not_eq_true, Decidable.not_not] at c_8
                    try simp only [bI_ne0, bI_eq0, decide_eq_true_eq, decide_eq_false_iff_not, Bool.not_eq_false, Bool.not_eq_true, Decidable.not_not] at c_28
                    try simp only [bI_ne0, bI_eq0, decide_eq_true_eq, decide_eq_false_iff_not, Bool.not_eq_false, Bool.not_eq_true, Decidable.not_not] at c_29
                    have hE : (bI (moBkO ρl (hdN h) i)) = 0 := by first | (simp only [bI, moBkO, eq_true c_28, c_29, decide_true, decide_false, Bool.true_and, Bool.and_true, Bool.false_and, Bool.and_false, Bool.true_or, Bool.or_true, Bool.false_or, Bool.or_false, Bool.not_true, Bool.not_false, if_true, if_false, Bool.false_eq_true, Bool.true_eq_false, reduceIte, eq_self]; done) | (simp [bI, moBkO, eq_true c_28, c_29]; done) | (simp_all [bI, moBkO]; done)
                    refine W.eq (g2 := F0 m 181 ls [.int (bI (moBkO ρl (hdN h) i))]) (by rw [hE]) ?_
                    exact jn_11 _ (lv_sub hl [0, 1, 2, 3, 4, 5, 6, 7] rfl)
                  · refine lv_aload_n hx hb d_Mo_back_142 rfl (lv_at hl 2 rfl) ?_
                    refine gf_Mo_17 hx hb hW hown hG hV hm_7 d_Mo_back_143 ?_
                    refine lv_iload hx hb d_Mo_back_146 (lv_at hl 7 rfl) ?_
                    refine hv_iald hx hb hG.K hV 0 hm_7_2 rfl (vp_in_nI (by omega) (by omega)) d_Mo_back_148 ?_
                    rw [nI_clamp (by omega)]
                    refine lv_aload_n hx hb d_Mo_back_149 rfl (lv_at hl 2 rfl) ?_
                    refine gf_Mo_78 hx hb hW hown hG hV hm_7 d_Mo_back_150 ?_
                    refine lv_iload hx hb d_Mo_back_153 (lv_at hl 1 rfl) ?_
                    refine hv_iald hx hb hG.K hV 0 hm_7_21 rfl (vp_in_nI (by omega) (by omega)) d_Mo_back_155 ?_
                    rw [nI_clamp (by omega)]
                    refine lv_icmp_ne (tgt := 176) hx hb d_Mo_back_156 (by decide) (fun c_30 => ?_) (fun c_30 => ?_)
                    · refine lv_iconst (v := 1) hx hb d_Mo_back_176 (by decide) ?_
                      refine lv_goto (tgt := 181) hx hb d_Mo_back_177 (by decide) ?_
                      try simp only [bI_ne0, bI_eq0, decide_eq_true_eq, decide_eq_false_iff_not, Bool.not_eq_false, Bool.not_eq_true, Decidable.not_not] at c_2
                      try simp only [bI_ne0, bI_eq0, decide_eq_true_eq, decide_eq_false_iff_not, Bool.not_eq_false, Bool.not_eq_true, Decidable.not_not] at c_3
                      try simp only [bI_ne0, bI_eq0, decide_eq_true_eq, decide_eq_false_iff_not, Bool.not_eq_false, Bool.not_eq_true, Decidable.not_not] at c_8
                      try simp only [bI_ne0, bI_eq0, decide_eq_true_eq, decide_eq_false_iff_not, Bool.not_eq_false, Bool.not_eq_true, Decidable.not_not] at c_28
                      try simp only [bI_ne0, bI_eq0, decide_eq_true_eq, decide_eq_false_iff_not, Bool.not_eq_false, Bool.not_eq_true, Decidable.not_not] at c_29
                      try simp only [bI_ne0, bI_eq0, decide_eq_true_eq, decide_eq_false_iff_not, Bool.not_eq_false, Bool.not_eq_true, Decidable.not_not] at c_30
                      have hE : (bI (moBkO ρl (hdN h) i)) = 1 := by first | (simp only [bI, moBkO, eq_true c_28, c_29, c_30, decide_true, decide_false, Bool.true_and, Bool.and_true, Bool.false_and, Bool.and_false, Bool.true_or, Bool.or_true, Bool.false_or, Bool.or_false, Bool.not_true, Bool.not_false, if_true, if_false, Bool.false_eq_true, Bool.true_eq_false, reduceIte, eq_self]; done) | (simp [bI, moBkO, eq_true c_28, c_29, c_30]; done) | (simp_all [bI, moBkO]; done)
                      refine W.eq (g2 := F0 m 181 ls [.int (bI (moBkO ρl (hdN h) i))]) (by rw [hE]) ?_
                      exact jn_11 _ (lv_sub hl [0, 1, 2, 3, 4, 5, 6, 7] rfl)
                    · refine lv_aload_n hx hb d_Mo_back_159 rfl (lv_at hl 2 rfl) ?_
                      refine gf_Mo_20 hx hb hW hown hG hV hm_7 d_Mo_back_160 ?_
                      refine lv_iload hx hb d_Mo_back_163 (lv_at hl 7 rfl) ?_
                      refine hv_iald hx hb hG.K hV 0 hm_7_3 rfl (vp_in_nI (by omega) (by omega)) d_Mo_back_165 ?_
                      rw [nI_clamp (by omega)]
                      refine lv_aload_n hx hb d_Mo_back_166 rfl (lv_at hl 2 rfl) ?_
                      refine gf_Mo_81 hx hb hW hown hG hV hm_7 d_Mo_back_167 ?_
                      refine lv_iload hx hb d_Mo_back_170 (lv_at hl 1 rfl) ?_
                      refine hv_iald hx hb hG.K hV 0 hm_7_22 rfl (vp_in_nI (by omega) (by omega)) d_Mo_back_172 ?_
                      rw [nI_clamp (by omega)]
                      refine lv_icmp_eq (tgt := 180) hx hb d_Mo_back_173 (by decide) (fun c_31 => ?_) (fun c_31 => ?_)
                      · refine lv_iconst (v := 0) hx hb d_Mo_back_180 (by decide) ?_
                        try simp only [bI_ne0, bI_eq0, decide_eq_true_eq, decide_eq_false_iff_not, Bool.not_eq_false, Bool.not_eq_true, Decidable.not_not] at c_2
                        try simp only [bI_ne0, bI_eq0, decide_eq_true_eq, decide_eq_false_iff_not, Bool.not_eq_false, Bool.not_eq_true, Decidable.not_not] at c_3
                        try simp only [bI_ne0, bI_eq0, decide_eq_true_eq, decide_eq_false_iff_not, Bool.not_eq_false, Bool.not_eq_true, Decidable.not_not] at c_8
                        try simp only [bI_ne0, bI_eq0, decide_eq_true_eq, decide_eq_false_iff_not, Bool.not_eq_false, Bool.not_eq_true, Decidable.not_not] at c_28
                        try simp only [bI_ne0, bI_eq0, decide_eq_true_eq, decide_eq_false_iff_not, Bool.not_eq_false, Bool.not_eq_true, Decidable.not_not] at c_29
                        try simp only [bI_ne0, bI_eq0, decide_eq_true_eq, decide_eq_false_iff_not, Bool.not_eq_false, Bool.not_eq_true, Decidable.not_not] at c_30
                        try simp only [bI_ne0, bI_eq0, decide_eq_true_eq, decide_eq_false_iff_not, Bool.not_eq_false, Bool.not_eq_true, Decidable.not_not] at c_31
                        have hE : (bI (moBkO ρl (hdN h) i)) = 0 := by first | (simp only [bI, moBkO, eq_true c_28, c_29, eq_true c_30, eq_true c_31, decide_true, decide_false, Bool.true_and, Bool.and_true, Bool.false_and, Bool.and_false, Bool.true_or, Bool.or_true, Bool.false_or, Bool.or_false, Bool.not_true, Bool.not_false, if_true, if_false, Bool.false_eq_true, Bool.true_eq_false, reduceIte, eq_self]; done) | (simp [bI, moBkO, eq_true c_28, c_29, eq_true c_30, eq_true c_31]; done) | (simp_all [bI, moBkO]; done)
                        refine W.eq (g2 := F0 m 181 ls [.int (bI (moBkO ρl (hdN h) i))]) (by rw [hE]) ?_
                        exact jn_11 _ (lv_sub hl [0, 1, 2, 3, 4, 5, 6, 7] rfl)
                      · refine lv_iconst (v := 1) hx hb d_Mo_back_176 (by decide) ?_
                        refine lv_goto (tgt := 181) hx hb d_Mo_back_177 (by decide) ?_
                        try simp only [bI_ne0, bI_eq0, decide_eq_true_eq, decide_eq_false_iff_not, Bool.not_eq_false, Bool.not_eq_true, Decidable.not_not] at c_2
                        try simp only [bI_ne0, bI_eq0, decide_eq_true_eq, decide_eq_false_iff_not, Bool.not_eq_false, Bool.not_eq_true, Decidable.not_not] at c_3
                        try simp only [bI_ne0, bI_eq0, decide_eq_true_eq, decide_eq_false_iff_not, Bool.not_eq_false, Bool.not_eq_true, Decidable.not_not] at c_8
                        try simp only [bI_ne0, bI_eq0, decide_eq_true_eq, decide_eq_false_iff_not, Bool.not_eq_false, Bool.not_eq_true, Decidable.not_not] at c_28
                        try simp only [bI_ne0, bI_eq0, decide_eq_true_eq, decide_eq_false_iff_not, Bool.not_eq_false, Bool.not_eq_true, Decidable.not_not] at c_29
                        try simp only [bI_ne0, bI_eq0, decide_eq_true_eq, decide_eq_false_iff_not, Bool.not_eq_false, Bool.not_eq_true, Decidable.not_not] at c_30
                        try simp only [bI_ne0, bI_eq0, decide_eq_true_eq, decide_eq_false_iff_not, Bool.not_eq_false, Bool.not_eq_true, Decidable.not_not] at c_31
                        have hE : (bI (moBkO ρl (hdN h) i)) = 1 := by first | (simp only [bI, moBkO, eq_true c_28, c_29, eq_true c_30, c_31, decide_true, decide_false, Bool.true_and, Bool.and_true, Bool.false_and, Bool.and_false, Bool.true_or, Bool.or_true, Bool.false_or, Bool.or_false, Bool.not_true, Bool.not_false, if_true, if_false, Bool.false_eq_true, Bool.true_eq_false, reduceIte, eq_self]; done) | (simp [bI, moBkO, eq_true c_28, c_29, eq_true c_30, c_31]; done) | (simp_all [bI, moBkO]; done)
                        refine W.eq (g2 := F0 m 181 ls [.int (bI (moBkO ρl (hdN h) i))]) (by rw [hE]) ?_
                        exact jn_11 _ (lv_sub hl [0, 1, 2, 3, 4, 5, 6, 7] rfl)
              refine lv_iload hx hb d_Mo_back_114 (lv_at hl 0 rfl) ?_
              refine lv_if_eq (tgt := 133) hx hb d_Mo_back_116 (by decide) (fun c_32 => ?_) (fun c_32 => ?_)
              · refine lv_iconst (v := 0) hx hb d_Mo_back_133 (by decide) ?_
                try simp only [bI_ne0, bI_eq0, decide_eq_true_eq, decide_eq_false_iff_not, Bool.not_eq_false, Bool.not_eq_true, Decidable.not_not] at c_2
                try simp only [bI_ne0, bI_eq0, decide_eq_true_eq, decide_eq_false_iff_not, Bool.not_eq_false, Bool.not_eq_true, Decidable.not_not] at c_3
                try simp only [bI_ne0, bI_eq0, decide_eq_true_eq, decide_eq_false_iff_not, Bool.not_eq_false, Bool.not_eq_true, Decidable.not_not] at c_8
                try simp only [bI_ne0, bI_eq0, decide_eq_true_eq, decide_eq_false_iff_not, Bool.not_eq_false, Bool.not_eq_true, Decidable.not_not] at c_32
                have hE : (moBkN ρl (hdN h) i) = 0 := by first | (simp only [bI, moBkN, c_32, decide_true, decide_false, Bool.true_and, Bool.and_true, Bool.false_and, Bool.and_false, Bool.true_or, Bool.or_true, Bool.false_or, Bool.or_false, Bool.not_true, Bool.not_false, if_true, if_false, Bool.false_eq_true, Bool.true_eq_false, reduceIte, eq_self]; done) | (simp [bI, moBkN, c_32]; done) | (simp_all [bI, moBkN]; done)
                refine W.eq (g2 := F0 m 134 ls [.int (moBkN ρl (hdN h) i), .int ((ρl.I 1) i)]) (by rw [hE]) ?_
                exact jn_10 _ (lv_sub hl [0, 1, 2, 3, 4, 5, 6, 7] rfl)
              · refine lv_aload_n hx hb d_Mo_back_119 rfl (lv_at hl 2 rfl) ?_
                refine gf_Mo_75 hx hb hW hown hG hV hm_7 d_Mo_back_120 ?_
                refine lv_iload hx hb d_Mo_back_123 (lv_at hl 1 rfl) ?_
                refine hv_zald hx hb hG.K hV 2 hm_7_20 rfl (vp_in_nI (by omega) (by omega)) d_Mo_back_125 ?_
                rw [nI_clamp (by omega)]
                refine lv_if_eq (tgt := 133) hx hb d_Mo_back_126 (by decide) (fun c_33 => ?_) (fun c_33 => ?_)
                · refine lv_iconst (v := 0) hx hb d_Mo_back_133 (by decide) ?_
                  try simp only [bI_ne0, bI_eq0, decide_eq_true_eq, decide_eq_false_iff_not, Bool.not_eq_false, Bool.not_eq_true, Decidable.not_not] at c_2
                  try simp only [bI_ne0, bI_eq0, decide_eq_true_eq, decide_eq_false_iff_not, Bool.not_eq_false, Bool.not_eq_true, Decidable.not_not] at c_3
                  try simp only [bI_ne0, bI_eq0, decide_eq_true_eq, decide_eq_false_iff_not, Bool.not_eq_false, Bool.not_eq_true, Decidable.not_not] at c_8
                  try simp only [bI_ne0, bI_eq0, decide_eq_true_eq, decide_eq_false_iff_not, Bool.not_eq_false, Bool.not_eq_true, Decidable.not_not] at c_32
                  try simp only [bI_ne0, bI_eq0, decide_eq_true_eq, decide_eq_false_iff_not, Bool.not_eq_false, Bool.not_eq_true, Decidable.not_not] at c_33
                  have hE : (moBkN ρl (hdN h) i) = 0 := by first | (simp only [bI, moBkN, c_32, c_33, decide_true, decide_false, Bool.true_and, Bool.and_true, Bool.false_and, Bool.and_false, Bool.true_or, Bool.or_true, Bool.false_or, Bool.or_false, Bool.not_true, Bool.not_false, if_true, if_false, Bool.false_eq_true, Bool.true_eq_false, reduceIte, eq_self]; done) | (simp [bI, moBkN, c_32, c_33]; done) | (simp_all [bI, moBkN]; done)
                  refine W.eq (g2 := F0 m 134 ls [.int (moBkN ρl (hdN h) i), .int ((ρl.I 1) i)]) (by rw [hE]) ?_
                  exact jn_10 _ (lv_sub hl [0, 1, 2, 3, 4, 5, 6, 7] rfl)
                · refine lv_iconst (v := 1) hx hb d_Mo_back_129 (by decide) ?_
                  refine lv_goto (tgt := 134) hx hb d_Mo_back_130 (by decide) ?_
                  try simp only [bI_ne0, bI_eq0, decide_eq_true_eq, decide_eq_false_iff_not, Bool.not_eq_false, Bool.not_eq_true, Decidable.not_not] at c_2
                  try simp only [bI_ne0, bI_eq0, decide_eq_true_eq, decide_eq_false_iff_not, Bool.not_eq_false, Bool.not_eq_true, Decidable.not_not] at c_3
                  try simp only [bI_ne0, bI_eq0, decide_eq_true_eq, decide_eq_false_iff_not, Bool.not_eq_false, Bool.not_eq_true, Decidable.not_not] at c_8
                  try simp only [bI_ne0, bI_eq0, decide_eq_true_eq, decide_eq_false_iff_not, Bool.not_eq_false, Bool.not_eq_true, Decidable.not_not] at c_32
                  try simp only [bI_ne0, bI_eq0, decide_eq_true_eq, decide_eq_false_iff_not, Bool.not_eq_false, Bool.not_eq_true, Decidable.not_not] at c_33
                  have hE : (moBkN ρl (hdN h) i) = 1 := by first | (simp only [bI, moBkN, c_32, c_33, decide_true, decide_false, Bool.true_and, Bool.and_true, Bool.false_and, Bool.and_false, Bool.true_or, Bool.or_true, Bool.false_or, Bool.or_false, Bool.not_true, Bool.not_false, if_true, if_false, Bool.false_eq_true, Bool.true_eq_false, reduceIte, eq_self]; done) | (simp [bI, moBkN, c_32, c_33]; done) | (simp_all [bI, moBkN]; done)
                  refine W.eq (g2 := F0 m 134 ls [.int (moBkN ρl (hdN h) i), .int ((ρl.I 1) i)]) (by rw [hE]) ?_
                  exact jn_10 _ (lv_sub hl [0, 1, 2, 3, 4, 5, 6, 7] rfl)
            refine lv_icmp_ge (tgt := 104) hx hb d_Mo_back_97 (by decide) (fun c_34 => ?_) (fun c_34 => ?_)
            · refine lv_iconst (v := 0) hx hb d_Mo_back_104 (by decide) ?_
              try simp only [bI_ne0, bI_eq0, decide_eq_true_eq, decide_eq_false_iff_not, Bool.not_eq_false, Bool.not_eq_true, Decidable.not_not] at c_2
              try simp only [bI_ne0, bI_eq0, decide_eq_true_eq, decide_eq_false_iff_not, Bool.not_eq_false, Bool.not_eq_true, Decidable.not_not] at c_3
              try simp only [bI_ne0, bI_eq0, decide_eq_true_eq, decide_eq_false_iff_not, Bool.not_eq_false, Bool.not_eq_true, Decidable.not_not] at c_8
              try simp only [bI_ne0, bI_eq0, decide_eq_true_eq, decide_eq_false_iff_not, Bool.not_eq_false, Bool.not_eq_true, Decidable.not_not] at c_34
              have hE : (bI (knw ρl (hdN h) i)) = 0 := by first | (simp only [bI, knw, c_34, decide_true, decide_false, Bool.true_and, Bool.and_true, Bool.false_and, Bool.and_false, Bool.true_or, Bool.or_true, Bool.false_or, Bool.or_false, Bool.not_true, Bool.not_false, if_true, if_false, Bool.false_eq_true, Bool.true_eq_false, reduceIte, eq_self]; done) | (simp [bI, knw, c_34]; done) | (simp_all [bI, knw]; done)
              refine W.eq (g2 := F0 m 105 ls [.int (bI (knw ρl (hdN h) i))]) (by rw [hE]) ?_
              exact jn_9 _ (lv_sub hl [0, 1, 2, 3, 4, 5, 6] rfl)
            · refine lv_iconst (v := 1) hx hb d_Mo_back_100 (by decide) ?_
              refine lv_goto (tgt := 105) hx hb d_Mo_back_101 (by decide) ?_
              try simp only [bI_ne0, bI_eq0, decide_eq_true_eq, decide_eq_false_iff_not, Bool.not_eq_false, Bool.not_eq_true, Decidable.not_not] at c_2
              try simp only [bI_ne0, bI_eq0, decide_eq_true_eq, decide_eq_false_iff_not, Bool.not_eq_false, Bool.not_eq_true, Decidable.not_not] at c_3
              try simp only [bI_ne0, bI_eq0, decide_eq_true_eq, decide_eq_false_iff_not, Bool.not_eq_false, Bool.not_eq_true, Decidable.not_not] at c_8
              try simp only [bI_ne0, bI_eq0, decide_eq_true_eq, decide_eq_false_iff_not, Bool.not_eq_false, Bool.not_eq_true, Decidable.not_not] at c_34
              have hE : (bI (knw ρl (hdN h) i)) = 1 := by first | (simp only [bI, knw, c_34, decide_true, decide_false, Bool.true_and, Bool.and_true, Bool.false_and, Bool.and_false, Bool.true_or, Bool.or_true, Bool.false_or, Bool.or_false, Bool.not_true, Bool.not_false, if_true, if_false, Bool.false_eq_true, Bool.true_eq_false, reduceIte, eq_self]; done) | (simp [bI, knw, c_34]; done) | (simp_all [bI, knw]; done)
              refine W.eq (g2 := F0 m 105 ls [.int (bI (knw ρl (hdN h) i))]) (by rw [hE]) ?_
              exact jn_9 _ (lv_sub hl [0, 1, 2, 3, 4, 5, 6] rfl)
      exact loop_6 (150 + 1 - 0) 0 V_4 0 _ _ _ (by omega) (by omega) (⟨hM_4, hR_4, rfl⟩) hV hS (lv_sub hl [4, 5, 3, 2, 1, 0] rfl)
    · refine lv_iconst (v := 3) hx hb d_Mo_back_24 (by decide) ?_
      refine lv_goto (tgt := 29) hx hb d_Mo_back_25 (by decide) ?_
      refine pf_Mo_100 hx hb hW hown hG hV hS hm_1 d_Mo_back_29 (fun H locs hV hS => ?_)
      replace hV : hv D vwCl N0 (hu V mo (.inr (7, [.int 3, .int (ρ.s 1), .int (ρ.s 2), .int (ρ.s 3), .ref (ad 0), .ref (ad 1), .ref (ad 2), .ref (ad 3), .ref (ad 4), .ref (ad 5), .ref (ad 6), .ref (ad 7), .ref (ad 8), .int (ρ.s 4), .ref (ad 9), .ref (ad 10), .ref (ad 11), .ref (ad 12), .ref (ad 13), .ref (ad 14), .ref (ad 15), .ref (ad 16), .ref (ad 17), .ref (ad 18), .ref (ad 19), .ref (ad 20), .ref (ad 21), .ref (ad 22), .ref (ad 23), .ref (ad 24), .ref (ad 25)]))) H := hV
      generalize hV_V_35 : hu V mo (.inr (7, [.int 3, .int (ρ.s 1), .int (ρ.s 2), .int (ρ.s 3), .ref (ad 0), .ref (ad 1), .ref (ad 2), .ref (ad 3), .ref (ad 4), .ref (ad 5), .ref (ad 6), .ref (ad 7), .ref (ad 8), .int (ρ.s 4), .ref (ad 9), .ref (ad 10), .ref (ad 11), .ref (ad 12), .ref (ad 13), .ref (ad 14), .ref (ad 15), .ref (ad 16), .ref (ad 17), .ref (ad 18), .ref (ad 19), .ref (ad 20), .ref (ad 21), .ref (ad 22), .ref (ad 23), .ref (ad 24), .ref (ad 25)])) = V_35 at hV
      have hM_35 : mdOk k V_35 mo ad (ρ.ws 0 3) := by rw [← hV_V_35]; exact md_put hM 0 3
      have hR_35 : mdFr mo ad V V_35 := by rw [← hV_V_35]; exact (mdFr.rf (mo := mo) (ad := ad) (V := V)).m
      have hm_36 : V_35 mo = some (.inr (7, [.int 3, .int (ρ.s 1), .int (ρ.s 2), .int (ρ.s 3), .ref (ad 0), .ref (ad 1), .ref (ad 2), .ref (ad 3), .ref (ad 4), .ref (ad 5), .ref (ad 6), .ref (ad 7), .ref (ad 8), .int (ρ.s 4), .ref (ad 9), .ref (ad 10), .ref (ad 11), .ref (ad 12), .ref (ad 13), .ref (ad 14), .ref (ad 15), .ref (ad 16), .ref (ad 17), .ref (ad 18), .ref (ad 19), .ref (ad 20), .ref (ad 21), .ref (ad 22), .ref (ad 23), .ref (ad 24), .ref (ad 25)])) := hM_35.1
      have hm_36_1 : V_35 (ad 1) = some (eZ k 150 (ρ.I 1)) := hM_35.a1
      have hm_36_2 : V_35 (ad 2) = some (eI k 150 (ρ.I 2)) := hM_35.a2
      have hm_36_3 : V_35 (ad 3) = some (eI k 150 (ρ.I 3)) := hM_35.a3
      have hm_36_19 : V_35 (ad 19) = some (eI k 64 (ρ.I 19)) := hM_35.a19
      have hm_36_20 : V_35 (ad 20) = some (eZ k 1200 (ρ.I 20)) := hM_35.a20
      have hm_36_21 : V_35 (ad 21) = some (eI k 1200 (ρ.I 21)) := hM_35.a21
      have hm_36_22 : V_35 (ad 22) = some (eI k 1200 (ρ.I 22)) := hM_35.a22
      refine lv_aload_n hx hb d_Mo_back_32 rfl (lv_at hl 1 rfl) ?_
      refine gf_Mo_100 hx hb hW hown hG hV hm_36 d_Mo_back_33 ?_
      refine lv_if_eq (tgt := 41) hx hb d_Mo_back_36 (by decide) (fun q => absurd q (by decide)) (fun _ => ?_)
      refine lv_iconst (v := 0) hx hb d_Mo_back_39 (by decide) ?_
      try simp only [bI_ne0, bI_eq0, decide_eq_true_eq, decide_eq_false_iff_not, Bool.not_eq_false, Bool.not_eq_true, Decidable.not_not] at c_2
      try simp only [bI_ne0, bI_eq0, decide_eq_true_eq, decide_eq_false_iff_not, Bool.not_eq_false, Bool.not_eq_true, Decidable.not_not] at c_3
      have hfin : moBack ρ h = (0, (ρ.ws 0 3)) := by first | (simp only [moBack, c_2, c_3, decide_true, decide_false, Bool.true_and, Bool.and_true, Bool.false_and, Bool.and_false, Bool.true_or, Bool.or_true, Bool.false_or, Bool.or_false, Bool.not_true, Bool.not_false, if_true, if_false, Bool.false_eq_true, Bool.true_eq_false, reduceIte, eq_self]; done) | (simp [moBack, c_2, c_3]; done) | (simp_all [moBack]; done)
      exact W.iret (v := 0) hx hb hr (fun t9 ht hW => ⟨⟨0, V_35, rfl, ⟨by rw [hfin]; exact hM_35, hR_35, by rw [hfin]⟩, mB_of ht hV⟩, hS.F ht⟩) hS.2.2 d_Mo_back_40
  · refine lv_iload_n hx hb d_Mo_back_13 rfl (lv_at hl 0 rfl) ?_
    refine lv_goto (tgt := 29) hx hb d_Mo_back_14 (by decide) ?_
    refine lv_topi (fun f_37 ef_37 => ?_)
    refine pf_Mo_100 hx hb hW hown hG hV hS hm_1 d_Mo_back_29 (fun H locs hV hS => ?_)
    replace hV : hv D vwCl N0 (hu V mo (.inr (7, [.int f_37, .int (ρ.s 1), .int (ρ.s 2), .int (ρ.s 3), .ref (ad 0), .ref (ad 1), .ref (ad 2), .ref (ad 3), .ref (ad 4), .ref (ad 5), .ref (ad 6), .ref (ad 7), .ref (ad 8), .int (ρ.s 4), .ref (ad 9), .ref (ad 10), .ref (ad 11), .ref (ad 12), .ref (ad 13), .ref (ad 14), .ref (ad 15), .ref (ad 16), .ref (ad 17), .ref (ad 18), .ref (ad 19), .ref (ad 20), .ref (ad 21), .ref (ad 22), .ref (ad 23), .ref (ad 24), .ref (ad 25)]))) H := hV
    generalize hV_V_38 : hu V mo (.inr (7, [.int f_37, .int (ρ.s 1), .int (ρ.s 2), .int (ρ.s 3), .ref (ad 0), .ref (ad 1), .ref (ad 2), .ref (ad 3), .ref (ad 4), .ref (ad 5), .ref (ad 6), .ref (ad 7), .ref (ad 8), .int (ρ.s 4), .ref (ad 9), .ref (ad 10), .ref (ad 11), .ref (ad 12), .ref (ad 13), .ref (ad 14), .ref (ad 15), .ref (ad 16), .ref (ad 17), .ref (ad 18), .ref (ad 19), .ref (ad 20), .ref (ad 21), .ref (ad 22), .ref (ad 23), .ref (ad 24), .ref (ad 25)])) = V_38 at hV
    have hM_38 : mdOk k V_38 mo ad (ρ.ws 0 f_37) := by rw [← hV_V_38]; exact md_put hM 0 f_37
    have hR_38 : mdFr mo ad V V_38 := by rw [← hV_V_38]; exact (mdFr.rf (mo := mo) (ad := ad) (V := V)).m
    have hm_39 : V_38 mo = some (.inr (7, [.int f_37, .int (ρ.s 1), .int (ρ.s 2), .int (ρ.s 3), .ref (ad 0), .ref (ad 1), .ref (ad 2), .ref (ad 3), .ref (ad 4), .ref (ad 5), .ref (ad 6), .ref (ad 7), .ref (ad 8), .int (ρ.s 4), .ref (ad 9), .ref (ad 10), .ref (ad 11), .ref (ad 12), .ref (ad 13), .ref (ad 14), .ref (ad 15), .ref (ad 16), .ref (ad 17), .ref (ad 18), .ref (ad 19), .ref (ad 20), .ref (ad 21), .ref (ad 22), .ref (ad 23), .ref (ad 24), .ref (ad 25)])) := hM_38.1
    have hm_39_1 : V_38 (ad 1) = some (eZ k 150 (ρ.I 1)) := hM_38.a1
    have hm_39_2 : V_38 (ad 2) = some (eI k 150 (ρ.I 2)) := hM_38.a2
    have hm_39_3 : V_38 (ad 3) = some (eI k 150 (ρ.I 3)) := hM_38.a3
    have hm_39_19 : V_38 (ad 19) = some (eI k 64 (ρ.I 19)) := hM_38.a19
    have hm_39_20 : V_38 (ad 20) = some (eZ k 1200 (ρ.I 20)) := hM_38.a20
    have hm_39_21 : V_38 (ad 21) = some (eI k 1200 (ρ.I 21)) := hM_38.a21
    have hm_39_22 : V_38 (ad 22) = some (eI k 1200 (ρ.I 22)) := hM_38.a22
    refine lv_aload_n hx hb d_Mo_back_32 rfl (lv_at hl 1 rfl) ?_
    refine gf_Mo_100 hx hb hW hown hG hV hm_39 d_Mo_back_33 ?_
    refine lv_if_eq (tgt := 41) hx hb d_Mo_back_36 (by decide) (fun c_40 => ?_) (fun c_40 => ?_)
    · exact absurd (ef_37.symm.trans c_40) c_2
    · refine lv_iconst (v := 0) hx hb d_Mo_back_39 (by decide) ?_
      try simp only [bI_ne0, bI_eq0, decide_eq_true_eq, decide_eq_false_iff_not, Bool.not_eq_false, Bool.not_eq_true, Decidable.not_not] at c_2
      try simp only [bI_ne0, bI_eq0, decide_eq_true_eq, decide_eq_false_iff_not, Bool.not_eq_false, Bool.not_eq_true, Decidable.not_not] at c_40
      subst ef_37
      have hfin : moBack ρ h = (0, (ρ.ws 0 (moFault (ρ.I 0) h 7))) := by first | (simp only [moBack, c_2, c_40, decide_true, decide_false, Bool.true_and, Bool.and_true, Bool.false_and, Bool.and_false, Bool.true_or, Bool.or_true, Bool.false_or, Bool.or_false, Bool.not_true, Bool.not_false, if_true, if_false, Bool.false_eq_true, Bool.true_eq_false, reduceIte, eq_self]; done) | (simp [moBack, c_2, c_40]; done) | (simp_all [moBack]; done)
      exact W.iret (v := 0) hx hb hr (fun t9 ht hW => ⟨⟨0, V_38, rfl, ⟨by rw [hfin]; exact hM_38, hR_38, by rw [hfin]⟩, mB_of ht hV⟩, hS.F ht⟩) hS.2.2 d_Mo_back_40
