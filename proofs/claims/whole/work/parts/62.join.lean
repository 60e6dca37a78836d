/-! the model: joinLayers -/
def jbt (ρ : MS) (G : Nat → Int64) (t la : Nat) : Bool := moBit (G (24 * la + yq ρ t)) (ρ.I 2 t)
def stB (G : Nat → Int64) (y : Nat) (b : Int64) : Nat → Nat → Int64
  | 0 => G
  | n + 1 => vp_updL (stB G y b n) (24 * n + y) (stB G y b n (24 * n + y) ||| b)
def moJn (ρ : MS) (ne : Int32) (nl : Nat) (G0 : Nat → Int64) : Nat → (Nat → Int64) × Bool
  | 0 => (G0, false)
  | n + 1 => if (moPdP ρ.I ne (20 + n) && anyF (jbt ρ (moJn ρ ne nl G0 n).1 (20 + n)) 0 nl && anyF (fun la => !jbt ρ (moJn ρ ne nl G0 n).1 (20 + n) la) 0 nl) = true then (stB (moJn ρ ne nl G0 n).1 (yq ρ (20 + n)) (1 <<< ((ρ.I 2 (20 + n)).toInt64 &&& 63)) nl, true) else moJn ρ ne nl G0 n
/-- points lie within the rows -/
def moPv (ρ : MS) (ne : Int32) : Prop := ∀ t, 20 ≤ t → t < 80 → moPdP ρ.I ne t = true → ρ.I 3 t = nI (yq ρ t) ∧ yq ρ t < 24
theorem jn_f {ρ : MS} {ne : Int32} {nl i : Nat} {G0 G : Nat → Int64} {b : Bool} (h20 : 20 ≤ i) (hp : (G, b) = moJn ρ ne nl G0 (i - 20)) (h : (moPdP ρ.I ne i && anyF (jbt ρ G i) 0 nl && anyF (fun la => !jbt ρ G i la) 0 nl) = false) : (G, b) = moJn ρ ne nl G0 (i + 1 - 20) := by
  rw [show i + 1 - 20 = (i - 20) + 1 by omega, moJn, show 20 + (i - 20) = i by omega, ← hp, if_neg (by rw [h]; exact Bool.false_ne_true)]
theorem jn_t {ρ : MS} {ne : Int32} {nl i : Nat} {G0 G : Nat → Int64} {b : Bool} (h20 : 20 ≤ i) (hp : (G, b) = moJn ρ ne nl G0 (i - 20)) (h : (moPdP ρ.I ne i && anyF (jbt ρ G i) 0 nl && anyF (fun la => !jbt ρ G i la) 0 nl) = true) : (stB G (yq ρ i) (1 <<< ((ρ.I 2 i).toInt64 &&& 63)) nl, true) = moJn ρ ne nl G0 (i + 1 - 20) := by
  rw [show i + 1 - 20 = (i - 20) + 1 by omega, moJn, show 20 + (i - 20) = i by omega, ← hp, if_pos h]
set_option maxHeartbeats 4000000 in
set_option maxRecDepth 100000 in
/-- joinLayers -/
theorem c_Mo_joinLayers (l : Launch) (D : va_G) (N0 : Nat) (k : Nat → Nat) (V : HV) (mo : Nat) (ad : Nat → Nat) (ρ : MS) (hM : mdOk k V mo ad ρ) (ne : Int32) (nl : Nat) (hnl : nl ≤ 4) (enl : ρ.s 1 = nI nl) (hPv : moPv ρ ne) : Met l y_Mo_joinLayers (.code y_Mo_joinLayers b_Mo_joinLayers 8 (some .boolean) :: WS) ({ frames := 1, cells := 0, slots := 0, locals := 22 }) (mP D N0 k [.ref mo, .int ne] V) (va_Qi (fun r V' => mdOk k V' mo ad (ρ.wL 2 (moJn ρ ne nl (ρ.L 2) 60).1) ∧ mdFr mo ad V V' ∧ r = bI (moJn ρ ne nl (ρ.L 2) 60).2) (mB D N0) (hA N0)) 0 0 (hA N0) := by
  refine Met.ofW (cc := b_Mo_joinLayers) (maxL := 8) (ret := (some .boolean)) (by decide) rfl ?_
  intro p e s m args below meth c s₁ B hml hv0
  obtain ⟨rfl, hG, hV⟩ := hv0
  have hx := B.exec
  have hb := B.bytes
  have hr := B.returns
  have hts := atoms_spec (ws := .code y_Mo_joinLayers b_Mo_joinLayers 8 (some .boolean) :: WS) B.pre
  have hW : ∀ w ∈ WS, w.before _ s = true := fun w h => hts w (List.mem_cons_of_mem _ h)
  have hown : s.vm.findClass "BoardHouseModel" = some m.cls := findClass_of_methodNamed B.named
  have hlocks := B.notSynchronized
  have hS : va_S (hA N0) s.heap s.heap [] := va_S.rf
  have hl := lv_entry ([.ref mo, .int ne]) (n := 8) (Nat.le_of_ble_eq_true rfl)
  rw [lg_entry_eq]
  generalize (lg_sl ([.ref mo, .int ne]) ++ List.replicate (8 - (lg_sl ([.ref mo, .int ne])).length) Slot.unset).toArray = ls at hl ⊢
  have hl : lv_has ls 8 [(0, .ref mo), (1, .int ne)] := hl
  have hm_1 : V mo = some (.inr (7, [.int (ρ.s 0), .int (ρ.s 1), .int (ρ.s 2), .int (ρ.s 3), .ref (ad 0), .ref (ad 1), .ref (ad 2), .ref (ad 3), .ref (ad 4), .ref (ad 5), .ref (ad 6), .ref (ad 7), .ref (ad 8), .int (ρ.s 4), .ref (ad 9), .ref (ad 10), .ref (ad 11), .ref (ad 12), .ref (ad 13), .ref (ad 14), .ref (ad 15), .ref (ad 16), .ref (ad 17), .ref (ad 18), .ref (ad 19), .ref (ad 20), .ref (ad 21), .ref (ad 22), .ref (ad 23), .ref (ad 24), .ref (ad 25)])) := hM.1
  have hm_1_2 : V (ad 2) = some (eI k 150 (ρ.I 2)) := hM.a2
  have hm_1_3 : V (ad 3) = some (eI k 150 (ρ.I 3)) := hM.a3
  have hm_1_25 : V (ad 25) = some (eL k 96 (ρ.L 2)) := hM.a25
  refine lv_iconst (v := 0) hx hb d_Mo_joinLayers_0 (by decide) ?_
  refine lv_istore_n (lv' := [(2, .int 0), (0, .ref mo), (1, .int ne)]) hx hb d_Mo_joinLayers_1 rfl hl (by decide) rfl (fun ls hl => ?_)
  refine lv_bipush (v := 20) hx hb d_Mo_joinLayers_2 (by decide) ?_
  refine lv_istore_n (lv' := [(3, .int 20), (2, .int 0), (0, .ref mo), (1, .int ne)]) hx hb d_Mo_joinLayers_4 rfl hl (by decide) rfl (fun ls hl => ?_)
  have loop_2 : ∀ (n i : Nat) (V1 : HV) (G : Nat → Int64) (b : Bool) (H : Heap) (locs : List Loc) (ls : Array Slot), i ≤ 80 → 80 + 1 ≤ i + n → (mdOk k V1 mo ad (ρ.wL 2 G) ∧ mdFr mo ad V V1 ∧ (G, b) = moJn ρ ne nl (ρ.L 2) (i - 20) ∧ 20 ≤ i) → hv D vwCl N0 V1 H → va_S (hA N0) s.heap H locs → lv_has ls 8 [(0, .ref mo), (1, .int ne), (2, .int (bI b)), (3, .int (nI i))] → W p l e (headSpec (.code y_Mo_joinLayers b_Mo_joinLayers 8 (some .boolean) :: WS) ({ frames := 1, cells := 0, slots := 0, locals := 22 })).room s m #[.ref mo, .int ne] below meth c H locs 0 0 (MQ below (va_Qi (fun r V' => mdOk k V' mo ad (ρ.wL 2 (moJn ρ ne nl (ρ.L 2) 60).1) ∧ mdFr mo ad V V' ∧ r = bI (moJn ρ ne nl (ρ.L 2) 60).2) (mB D N0) (hA N0)) #[.ref mo, .int ne] s 0 0 (hA N0)) (F0 m 5 ls []) := by
    intro n
    induction n with
    | zero => intro i V1 G b H locs ls h1 h2; exact absurd h2 (by omega)
    | succ n ih =>
      intro i V1 G b H locs ls hi hin hI hV hS hl
      obtain ⟨hM1, hR1, hp1, h20⟩ := hI
      have hm_3 : V1 mo = some (.inr (7, [.int (ρ.s 0), .int (ρ.s 1), .int (ρ.s 2), .int (ρ.s 3), .ref (ad 0), .ref (ad 1), .ref (ad 2), .ref (ad 3), .ref (ad 4), .ref (ad 5), .ref (ad 6), .ref (ad 7), .ref (ad 8), .int (ρ.s 4), .ref (ad 9), .ref (ad 10), .ref (ad 11), .ref (ad 12), .ref (ad 13), .ref (ad 14), .ref (ad 15), .ref (ad 16), .ref (ad 17), .ref (ad 18), .ref (ad 19), .ref (ad 20), .ref (ad 21), .ref (ad 22), .ref (ad 23), .ref (ad 24), .ref (ad 25)])) := hM1.1
      have hm_3_2 : V1 (ad 2) = some (eI k 150 (ρ.I 2)) := hM1.a2
      have hm_3_3 : V1 (ad 3) = some (eI k 150 (ρ.I 3)) := hM1.a3
      have hm_3_25 : V1 (ad 25) = some (eL k 96 G) := hM1.a25
      refine lv_iload_n hx hb d_Mo_joinLayers_5 rfl (lv_at hl 3 rfl) ?_
      refine lv_bipush (v := 80) hx hb d_Mo_joinLayers_6 (by decide) ?_
      refine lv_icmp_ge (tgt := 201) hx hb d_Mo_joinLayers_8 (by decide) (fun c_4 => ?_) (fun c_4 => ?_)
      · have hge : 80 ≤ i := nI_le' c_4 (by omega) (by omega)
        refine lv_iload_n hx hb d_Mo_joinLayers_201 rfl (lv_at hl 2 rfl) ?_
        exact W.zret (v := (bI b)) hx hb hr (bI_nar _) (fun t9 ht hW => ⟨⟨(bI b), V1, rfl, ⟨by rw [← show i - 20 = 60 by omega, ← hp1]; exact hM1, hR1, by rw [← show i - 20 = 60 by omega, ← hp1]⟩, mB_of ht hV⟩, hS.F ht⟩) hS.2.2 d_Mo_joinLayers_202
      · have hlt : i < 80 := nI_nle' c_4 (by omega) (by omega)
        refine lv_aload_n hx hb d_Mo_joinLayers_11 rfl (lv_at hl 0 rfl) ?_
        refine lv_iload_n hx hb d_Mo_joinLayers_12 rfl (lv_at hl 3 rfl) ?_
        refine lv_iload_n hx hb d_Mo_joinLayers_13 rfl (lv_at hl 1 rfl) ?_
        refine rc_i (va_runV (As := [.int (nI i), .int ne]) (rest := []) ⟨hx, hb, hml, hown, hts⟩ (c_Mo_isPadOf l D N0 k V1 mo ad (ρ.wL 2 G) hM1 i (by omega) ne) (cwV 2 hts (gi_V wm_Mo_230 wv_Mo_isPadOf ws_Mo_isPadOf wi_Mo wc_Mo_isPadOf) rfl rfl rfl (by decide +kernel) ⟨Nat.le_of_ble_eq_true rfl, Nat.le_of_ble_eq_true rfl⟩) (mP.preV hG hS hV hm_3 rfl) rfl rfl hl.1 rfl (lv_room (Nat.le_of_ble_eq_true rfl)) d_Mo_joinLayers_14 ⟨Nat.le_of_ble_eq_true rfl, Nat.le_of_ble_eq_true rfl⟩) hS (fun H locs hV hS => ?_)
        refine W.eq (g2 := F0 m 17 ls [.int (bI (moPdP ρ.I ne i))]) rfl ?_
        refine lv_if_ne (tgt := 23) hx hb d_Mo_joinLayers_17 (by decide) (fun c_5 => ?_) (fun c_5 => ?_)
        · obtain ⟨ey, hy24⟩ := hPv i h20 hlt (bI_ne0.mp c_5)
          refine lv_iconst (v := 0) hx hb d_Mo_joinLayers_23 (by decide) ?_
          refine lv_istore (lv' := [(4, .int 0), (0, .ref mo), (1, .int ne), (2, .int (bI b)), (3, .int (nI i))]) hx hb d_Mo_joinLayers_24 hl (by decide) rfl (fun ls hl => ?_)
          refine lv_iconst (v := 1) hx hb d_Mo_joinLayers_26 (by decide) ?_
          refine lv_istore (lv' := [(5, .int 1), (4, .int 0), (0, .ref mo), (1, .int ne), (2, .int (bI b)), (3, .int (nI i))]) hx hb d_Mo_joinLayers_27 hl (by decide) rfl (fun ls hl => ?_)
          refine lv_iconst (v := 0) hx hb d_Mo_joinLayers_29 (by decide) ?_
          refine lv_istore (lv' := [(6, .int 0), (5, .int 1), (4, .int 0), (0, .ref mo), (1, .int ne), (2, .int (bI b)), (3, .int (nI i))]) hx hb d_Mo_joinLayers_30 hl (by decide) rfl (fun ls hl => ?_)
          obtain ⟨Pa, hPa⟩ : ∃ z, z = jbt ρ G i := ⟨_, rfl⟩
          obtain ⟨Pn, hPn⟩ : ∃ z, z = fun la => !jbt ρ G i la := ⟨_, rfl⟩
          have loop_6 : ∀ (na ia : Nat) (H : Heap) (locs : List Loc) (ls : Array Slot), ia ≤ nl → nl + 1 ≤ ia + na → (True) → hv D vwCl N0 V1 H → va_S (hA N0) s.heap H locs → lv_has ls 8 [(0, .ref mo), (1, .int ne), (2, .int (bI b)), (3, .int (nI i)), (4, .int (bI (anyF Pa 0 ia))), (5, .int (bI (!anyF Pn 0 ia))), (6, .int (nI ia))] → W p l e (headSpec (.code y_Mo_joinLayers b_Mo_joinLayers 8 (some .boolean) :: WS) ({ frames := 1, cells := 0, slots := 0, locals := 22 })).room s m #[.ref mo, .int ne] below meth c H locs 0 0 (MQ below (va_Qi (fun r V' => mdOk k V' mo ad (ρ.wL 2 (moJn ρ ne nl (ρ.L 2) 60).1) ∧ mdFr mo ad V V' ∧ r = bI (moJn ρ ne nl (ρ.L 2) 60).2) (mB D N0) (hA N0)) #[.ref mo, .int ne] s 0 0 (hA N0)) (F0 m 32 ls []) := by
            intro na
            induction na with
            | zero => intro ia  H locs ls h1 h2; exact absurd h2 (by omega)
            | succ na iha =>
              intro ia  H locs ls hia hina hIa hV hS hl
              refine lv_iload hx hb d_Mo_joinLayers_32 (lv_at hl 6 rfl) ?_
              refine lv_aload_n hx hb d_Mo_joinLayers_34 rfl (lv_at hl 0 rfl) ?_
              refine gf_Mo_94 hx hb hW hown hG hV hm_3 d_Mo_joinLayers_35 ?_
              refine W.eq (g2 := F0 m 38 ls [.int (nI nl), .int (nI ia)]) (by rw [enl]) ?_
              refine lv_icmp_ge (tgt := 119) hx hb d_Mo_joinLayers_38 (by decide) (fun c_7 => ?_) (fun c_7 => ?_)
              · have hgea : nl ≤ ia := nI_le' (a := nl) (b := ia) c_7 (by omega) (by omega)
                have enl9 : ia = nl := by omega
                refine lv_iload hx hb d_Mo_joinLayers_119 (lv_at hl 4 rfl) ?_
                refine lv_if_eq (tgt := 195) hx hb d_Mo_joinLayers_121 (by decide) (fun c_8 => ?_) (fun c_8 => ?_)
                · have hany : anyF Pa 0 nl = false := by rw [← enl9]; exact bI_eq0.mp c_8
                  obtain ⟨i_9, ei_9⟩ : ∃ y : Int32, y = (nI i) + 1 := ⟨_, rfl⟩
                  refine lv_iinc (v := i_9) (lv' := [(3, .int i_9), (0, .ref mo), (1, .int ne), (2, .int (bI b)), (4, .int (bI (anyF Pa 0 ia))), (5, .int (bI (!anyF Pn 0 ia))), (6, .int (nI ia))]) hx hb d_Mo_joinLayers_195 hl (k := 3) rfl (by rw [ei_9]; rfl) (by decide) rfl (fun ls hl => ?_)
                  refine lv_goto (tgt := 5) hx hb d_Mo_joinLayers_198 (by decide) ?_
                  rw [nI_1] at ei_9
                  subst ei_9
                  exact ih (i + 1) V1 G b _ _ _ (by omega) (by omega) (⟨hM1, hR1, jn_f h20 hp1 (by rw [bI_ne0.mp c_5, ← hPa, hany]; rfl), by omega⟩) hV hS (lv_sub hl [1, 2, 3, 0] rfl)
                · have hany : anyF Pa 0 nl = true := by rw [← enl9]; exact bI_ne0.mp c_8
                  refine lv_iload hx hb d_Mo_joinLayers_124 (lv_at hl 5 rfl) ?_
                  refine lv_if_eq (tgt := 132) hx hb d_Mo_joinLayers_126 (by decide) (fun c_10 => ?_) (fun c_10 => ?_)
                  · have hall : anyF Pn 0 nl = true := by have q9 := bI_eq0.mp c_10; rw [← enl9]; cases hq : anyF Pn 0 ia with | true => rfl | false => rw [hq] at q9; cases q9
                    refine lv_iconst (v := 1) hx hb d_Mo_joinLayers_132 (by decide) ?_
                    refine lv_istore_n (lv' := [(2, .int 1), (0, .ref mo), (1, .int ne), (3, .int (nI i)), (4, .int (bI (anyF Pa 0 ia))), (5, .int (bI (!anyF Pn 0 ia))), (6, .int (nI ia))]) hx hb d_Mo_joinLayers_133 rfl hl (by decide) rfl (fun ls hl => ?_)
                    refine lv_iconst (v := 0) hx hb d_Mo_joinLayers_134 (by decide) ?_
                    refine lv_istore (lv' := [(6, .int 0), (2, .int 1), (0, .ref mo), (1, .int ne), (3, .int (nI i)), (4, .int (bI (anyF Pa 0 ia))), (5, .int (bI (!anyF Pn 0 ia)))]) hx hb d_Mo_joinLayers_135 hl (by decide) rfl (fun ls hl => ?_)
                    have loop_11 : ∀ (nc ic : Nat) (V1c : HV) (Gc : Nat → Int64) (H : Heap) (locs : List Loc) (ls : Array Slot), ic ≤ nl → nl + 1 ≤ ic + nc → (mdOk k V1c mo ad (ρ.wL 2 Gc) ∧ mdFr mo ad V V1c ∧ Gc = stB G (yq ρ i) (1 <<< ((ρ.I 2 i).toInt64 &&& 63)) ic) → hv D vwCl N0 V1c H → va_S (hA N0) s.heap H locs → lv_has ls 8 [(0, .ref mo), (1, .int ne), (2, .int 1), (3, .int (nI i)), (6, .int (nI ic))] → W p l e (headSpec (.code y_Mo_joinLayers b_Mo_joinLayers 8 (some .boolean) :: WS) ({ frames := 1, cells := 0, slots := 0, locals := 22 })).room s m #[.ref mo, .int ne] below meth c H locs 0 0 (MQ below (va_Qi (fun r V' => mdOk k V' mo ad (ρ.wL 2 (moJn ρ ne nl (ρ.L 2) 60).1) ∧ mdFr mo ad V V' ∧ r = bI (moJn ρ ne nl (ρ.L 2) 60).2) (mB D N0) (hA N0)) #[.ref mo, .int ne] s 0 0 (hA N0)) (F0 m 137 ls []) := by
                      intro nc
                      induction nc with
                      | zero => intro ic V1c Gc H locs ls h1 h2; exact absurd h2 (by omega)
                      | succ nc ihc =>
                        intro ic V1c Gc H locs ls hic hinc hIc hV hS hl
                        obtain ⟨hMc, hRc, hGc⟩ := hIc
                        have hm_12 : V1c mo = some (.inr (7, [.int (ρ.s 0), .int (ρ.s 1), .int (ρ.s 2), .int (ρ.s 3), .ref (ad 0), .ref (ad 1), .ref (ad 2), .ref (ad 3), .ref (ad 4), .ref (ad 5), .ref (ad 6), .ref (ad 7), .ref (ad 8), .int (ρ.s 4), .ref (ad 9), .ref (ad 10), .ref (ad 11), .ref (ad 12), .ref (ad 13), .ref (ad 14), .ref (ad 15), .ref (ad 16), .ref (ad 17), .ref (ad 18), .ref (ad 19), .ref (ad 20), .ref (ad 21), .ref (ad 22), .ref (ad 23), .ref (ad 24), .ref (ad 25)])) := hMc.1
                        have hm_12_2 : V1c (ad 2) = some (eI k 150 (ρ.I 2)) := hMc.a2
                        have hm_12_3 : V1c (ad 3) = some (eI k 150 (ρ.I 3)) := hMc.a3
                        have hm_12_25 : V1c (ad 25) = some (eL k 96 Gc) := hMc.a25
                        refine lv_iload hx hb d_Mo_joinLayers_137 (lv_at hl 4 rfl) ?_
                        refine lv_aload_n hx hb d_Mo_joinLayers_139 rfl (lv_at hl 0 rfl) ?_
                        refine gf_Mo_94 hx hb hW hown hG hV hm_12 d_Mo_joinLayers_140 ?_
                        refine W.eq (g2 := F0 m 143 ls [.int (nI nl), .int (nI ic)]) (by rw [enl]) ?_
                        refine lv_icmp_ge (tgt := 195) hx hb d_Mo_joinLayers_143 (by decide) (fun c_13 => ?_) (fun c_13 => ?_)
                        · have hgec : nl ≤ ic := nI_le' (a := nl) (b := ic) c_13 (by omega) (by omega)
                          obtain ⟨i_14, ei_14⟩ : ∃ y : Int32, y = (nI i) + 1 := ⟨_, rfl⟩
                          refine lv_iinc (v := i_14) (lv' := [(3, .int i_14), (0, .ref mo), (1, .int ne), (2, .int 1), (6, .int (nI ic))]) hx hb d_Mo_joinLayers_195 hl (k := 3) rfl (by rw [ei_14]; rfl) (by decide) rfl (fun ls hl => ?_)
                          refine lv_goto (tgt := 5) hx hb d_Mo_joinLayers_198 (by decide) ?_
                          rw [nI_1] at ei_14
                          subst ei_14
                          exact ih (i + 1) V1c Gc true _ _ _ (by omega) (by omega) (⟨hMc, hRc, by rw [hGc, show ic = nl by omega]; exact jn_t h20 hp1 (by rw [bI_ne0.mp c_5, ← hPn, hall, ← hPa, hany]; rfl), by omega⟩) hV hS (lv_sub hl [1, 2, 3, 0] rfl)
                        · have hltc : ic < nl := nI_nle' (a := nl) (b := ic) c_13 (by omega) (by omega)
                          refine lv_aload_n hx hb d_Mo_joinLayers_146 rfl (lv_at hl 0 rfl) ?_
                          refine gf_Mo_91 hx hb hW hown hG hV hm_12 d_Mo_joinLayers_147 ?_
                          refine lv_bipush (v := 24) hx hb d_Mo_joinLayers_150 (by decide) ?_
                          refine lv_iload hx hb d_Mo_joinLayers_152 (lv_at hl 4 rfl) ?_
                          refine lv_imul hx hb d_Mo_joinLayers_154 ?_
                          refine lv_aload_n hx hb d_Mo_joinLayers_155 rfl (lv_at hl 0 rfl) ?_
                          refine gf_Mo_20 hx hb hW hown hG hV hm_12 d_Mo_joinLayers_156 ?_
                          refine lv_iload_n hx hb d_Mo_joinLayers_159 rfl (lv_at hl 3 rfl) ?_
                          refine hv_iald hx hb hG.K hV 0 hm_12_3 rfl (vp_in_nI (by omega) (by omega)) d_Mo_joinLayers_160 ?_
                          rw [nI_clamp (by omega)]
                          refine lv_iadd hx hb d_Mo_joinLayers_161 ?_
                          refine W.eq (g2 := F0 m 162 ls [.int (nI (24 * ic + yq ρ i)), .ref (ad 25)]) (by rw [ey, show (24 : Int32) = nI 24 from rfl, nI_mulN, nI_add]) ?_
                          refine lv_aload_n hx hb d_Mo_joinLayers_162 rfl (lv_at hl 0 rfl) ?_
                          refine gf_Mo_91 hx hb hW hown hG hV hm_12 d_Mo_joinLayers_163 ?_
                          refine lv_bipush (v := 24) hx hb d_Mo_joinLayers_166 (by decide) ?_
                          refine lv_iload hx hb d_Mo_joinLayers_168 (lv_at hl 4 rfl) ?_
                          refine lv_imul hx hb d_Mo_joinLayers_170 ?_
                          refine lv_aload_n hx hb d_Mo_joinLayers_171 rfl (lv_at hl 0 rfl) ?_
                          refine gf_Mo_20 hx hb hW hown hG hV hm_12 d_Mo_joinLayers_172 ?_
                          refine lv_iload_n hx hb d_Mo_joinLayers_175 rfl (lv_at hl 3 rfl) ?_
                          refine hv_iald hx hb hG.K hV 0 hm_12_3 rfl (vp_in_nI (by omega) (by omega)) d_Mo_joinLayers_176 ?_
                          rw [nI_clamp (by omega)]
                          refine lv_iadd hx hb d_Mo_joinLayers_177 ?_
                          refine W.eq (g2 := F0 m 178 ls [.int (nI (24 * ic + yq ρ i)), .ref (ad 25), .int (nI (24 * ic + yq ρ i)), .ref (ad 25)]) (by rw [ey, show (24 : Int32) = nI 24 from rfl, nI_mulN, nI_add]) ?_
                          refine hv_lald hx hb hG.K hV 1 hm_12_25 rfl (vp_in_nI (by omega) (by omega)) d_Mo_joinLayers_178 ?_
                          rw [nI_clamp (by omega)]
                          refine lv_lconst (v := 1) hx hb d_Mo_joinLayers_179 (by decide) ?_
                          refine lv_aload_n hx hb d_Mo_joinLayers_180 rfl (lv_at hl 0 rfl) ?_
                          refine gf_Mo_17 hx hb hW hown hG hV hm_12 d_Mo_joinLayers_181 ?_
                          refine lv_iload_n hx hb d_Mo_joinLayers_184 rfl (lv_at hl 3 rfl) ?_
                          refine hv_iald hx hb hG.K hV 0 hm_12_2 rfl (vp_in_nI (by omega) (by omega)) d_Mo_joinLayers_185 ?_
                          rw [nI_clamp (by omega)]
                          refine lv_lshl hx hb d_Mo_joinLayers_186 rfl ?_
                          refine lv_lor hx hb d_Mo_joinLayers_187 ?_
                          refine hv_last hx hb hG.K hV hS 1 hm_12_25 rfl (vp_in_nI (by omega) (by omega)) d_Mo_joinLayers_188 (fun H locs hV hS => ?_)
                          rw [nI_clamp (by omega)] at hV
                          replace hV : hv D vwCl N0 (hu V1c (ad 25) (eL k 96 (vp_updL Gc (24 * ic + yq ρ i) ((Gc (24 * ic + yq ρ i)) ||| (1 <<< (((ρ.I 2) i).toInt64 &&& 63)))))) H := hV
                          generalize hV_V_15 : hu V1c (ad 25) (eL k 96 (vp_updL Gc (24 * ic + yq ρ i) ((Gc (24 * ic + yq ρ i)) ||| (1 <<< (((ρ.I 2) i).toInt64 &&& 63))))) = V_15 at hV
                          have hM_15 : mdOk k V_15 mo ad ((ρ.wL 2 Gc).wL 2 (vp_updL Gc (24 * ic + yq ρ i) ((Gc (24 * ic + yq ρ i)) ||| (1 <<< (((ρ.I 2) i).toInt64 &&& 63))))) := by rw [← hV_V_15]; exact md_setL hMc 2 (by omega) (vp_updL Gc (24 * ic + yq ρ i) ((Gc (24 * ic + yq ρ i)) ||| (1 <<< (((ρ.I 2) i).toInt64 &&& 63))))
                          have hR_15 : mdFr mo ad V V_15 := by rw [← hV_V_15]; exact hRc.ar (j := 25) (by omega)
                          have hm_16 : V_15 mo = some (.inr (7, [.int (ρ.s 0), .int (ρ.s 1), .int (ρ.s 2), .int (ρ.s 3), .ref (ad 0), .ref (ad 1), .ref (ad 2), .ref (ad 3), .ref (ad 4), .ref (ad 5), .ref (ad 6), .ref (ad 7), .ref (ad 8), .int (ρ.s 4), .ref (ad 9), .ref (ad 10), .ref (ad 11), .ref (ad 12), .ref (ad 13), .ref (ad 14), .ref (ad 15), .ref (ad 16), .ref (ad 17), .ref (ad 18), .ref (ad 19), .ref (ad 20), .ref (ad 21), .ref (ad 22), .ref (ad 23), .ref (ad 24), .ref (ad 25)])) := hM_15.1
                          have hm_16_2 : V_15 (ad 2) = some (eI k 150 (ρ.I 2)) := hM_15.a2
                          have hm_16_3 : V_15 (ad 3) = some (eI k 150 (ρ.I 3)) := hM_15.a3
                          have hm_16_25 : V_15 (ad 25) = some (eL k 96 (vp_updL Gc (24 * ic + yq ρ i) ((Gc (24 * ic + yq ρ i)) ||| (1 <<< (((ρ.I 2) i).toInt64 &&& 63))))) := hM_15.a25
                          obtain ⟨i_17, ei_17⟩ : ∃ y : Int32, y = (nI ic) + 1 := ⟨_, rfl⟩
                          refine lv_iinc (v := i_17) (lv' := [(6, .int i_17), (0, .ref mo), (1, .int ne), (2, .int 1), (3, .int (nI i))]) hx hb d_Mo_joinLayers_189 hl (k := 4) rfl (by rw [ei_17]; rfl) (by decide) rfl (fun ls hl => ?_)
                          refine lv_goto (tgt := 137) hx hb d_Mo_joinLayers_192 (by decide) ?_
                          rw [nI_1] at ei_17
                          subst ei_17
                          exact ihc (ic + 1) V_15 (vp_updL Gc (24 * ic + yq ρ i) ((Gc (24 * ic + yq ρ i)) ||| (1 <<< (((ρ.I 2) i).toInt64 &&& 63)))) _ _ _ (by omega) (by omega) (⟨by have q := hM_15; rw [wL_wL] at q; exact q, hR_15, by rw [hGc]; rfl⟩) hV hS (lv_sub hl [1, 2, 3, 4, 0] rfl)
                    exact loop_11 (nl + 1 - 0) 0 V1 G _ _ _ (by omega) (by omega) (⟨hM1, hR1, rfl⟩) hV hS (lv_sub hl [2, 3, 1, 4, 0] rfl)
                  · have hall : anyF Pn 0 nl = false := by have q9 := bI_ne0.mp c_10; rw [← enl9]; cases hq : anyF Pn 0 ia with | false => rfl | true => rw [hq] at q9; cases q9
                    refine lv_goto (tgt := 195) hx hb d_Mo_joinLayers_129 (by decide) ?_
                    obtain ⟨i_18, ei_18⟩ : ∃ y : Int32, y = (nI i) + 1 := ⟨_, rfl⟩
                    refine lv_iinc (v := i_18) (lv' := [(3, .int i_18), (0, .ref mo), (1, .int ne), (2, .int (bI b)), (4, .int (bI (anyF Pa 0 ia))), (5, .int (bI (!anyF Pn 0 ia))), (6, .int (nI ia))]) hx hb d_Mo_joinLayers_195 hl (k := 3) rfl (by rw [ei_18]; rfl) (by decide) rfl (fun ls hl => ?_)
                    refine lv_goto (tgt := 5) hx hb d_Mo_joinLayers_198 (by decide) ?_
                    rw [nI_1] at ei_18
                    subst ei_18
                    exact ih (i + 1) V1 G b _ _ _ (by omega) (by omega) (⟨hM1, hR1, jn_f h20 hp1 (by rw [bI_ne0.mp c_5, ← hPn, hall, ← hPa, hany]; rfl), by omega⟩) hV hS (lv_sub hl [1, 2, 3, 0] rfl)
              · have hlta : ia < nl := nI_nle' (a := nl) (b := ia) c_7 (by omega) (by omega)
                refine lv_aload_n hx hb d_Mo_joinLayers_41 rfl (lv_at hl 0 rfl) ?_
                refine gf_Mo_91 hx hb hW hown hG hV hm_3 d_Mo_joinLayers_42 ?_
                refine lv_bipush (v := 24) hx hb d_Mo_joinLayers_45 (by decide) ?_
                refine lv_iload hx hb d_Mo_joinLayers_47 (lv_at hl 6 rfl) ?_
                refine lv_imul hx hb d_Mo_joinLayers_49 ?_
                refine lv_aload_n hx hb d_Mo_joinLayers_50 rfl (lv_at hl 0 rfl) ?_
                refine gf_Mo_20 hx hb hW hown hG hV hm_3 d_Mo_joinLayers_51 ?_
                refine lv_iload_n hx hb d_Mo_joinLayers_54 rfl (lv_at hl 3 rfl) ?_
                refine hv_iald hx hb hG.K hV 0 hm_3_3 rfl (vp_in_nI (by omega) (by omega)) d_Mo_joinLayers_55 ?_
                rw [nI_clamp (by omega)]
                refine lv_iadd hx hb d_Mo_joinLayers_56 ?_
                refine W.eq (g2 := F0 m 57 ls [.int (nI (24 * ia + yq ρ i)), .ref (ad 25)]) (by rw [ey, show (24 : Int32) = nI 24 from rfl, nI_mulN, nI_add]) ?_
                refine hv_lald hx hb hG.K hV 1 hm_3_25 rfl (vp_in_nI (by omega) (by omega)) d_Mo_joinLayers_57 ?_
                rw [nI_clamp (by omega)]
                refine lv_aload_n hx hb d_Mo_joinLayers_58 rfl (lv_at hl 0 rfl) ?_
                refine gf_Mo_17 hx hb hW hown hG hV hm_3 d_Mo_joinLayers_59 ?_
                refine lv_iload_n hx hb d_Mo_joinLayers_62 rfl (lv_at hl 3 rfl) ?_
                refine hv_iald hx hb hG.K hV 0 hm_3_2 rfl (vp_in_nI (by omega) (by omega)) d_Mo_joinLayers_63 ?_
                rw [nI_clamp (by omega)]
                refine lv_lshr hx hb d_Mo_joinLayers_64 rfl ?_
                refine lv_lconst (v := 1) hx hb d_Mo_joinLayers_65 (by decide) ?_
                refine lv_land hx hb d_Mo_joinLayers_66 ?_
                refine lv_lconst (v := 1) hx hb d_Mo_joinLayers_67 (by decide) ?_
                refine lv_lcmp hx hb d_Mo_joinLayers_68 ?_
                have jn_19 : ∀ (ls : Array Slot), lv_has ls 8 [(0, .ref mo), (1, .int ne), (2, .int (bI b)), (3, .int (nI i)), (4, .int (bI (anyF Pa 0 ia))), (5, .int (bI (!anyF Pn 0 ia))), (6, .int (nI ia))] → W p l e (headSpec (.code y_Mo_joinLayers b_Mo_joinLayers 8 (some .boolean) :: WS) ({ frames := 1, cells := 0, slots := 0, locals := 22 })).room s m #[.ref mo, .int ne] below meth c H locs 0 0 (MQ below (va_Qi (fun r V' => mdOk k V' mo ad (ρ.wL 2 (moJn ρ ne nl (ρ.L 2) 60).1) ∧ mdFr mo ad V V' ∧ r = bI (moJn ρ ne nl (ρ.L 2) 60).2) (mB D N0) (hA N0)) #[.ref mo, .int ne] s 0 0 (hA N0)) (F0 m 77 ls [.int (bI (jbt ρ G i ia))]) := by
                  intro ls hl
                  refine lv_istore (lv' := [(7, .int (bI (jbt ρ G i ia))), (0, .ref mo), (1, .int ne), (2, .int (bI b)), (3, .int (nI i)), (4, .int (bI (anyF Pa 0 ia))), (5, .int (bI (!anyF Pn 0 ia))), (6, .int (nI ia))]) hx hb d_Mo_joinLayers_77 hl (by decide) rfl (fun ls hl => ?_)
                  refine lv_iload hx hb d_Mo_joinLayers_79 (lv_at hl 5 rfl) ?_
                  have jn_20 : ∀ (ls : Array Slot), lv_has ls 8 [(7, .int (bI (jbt ρ G i ia))), (0, .ref mo), (1, .int ne), (2, .int (bI b)), (3, .int (nI i)), (4, .int (bI (anyF Pa 0 ia))), (5, .int (bI (!anyF Pn 0 ia))), (6, .int (nI ia))] → W p l e (headSpec (.code y_Mo_joinLayers b_Mo_joinLayers 8 (some .boolean) :: WS) ({ frames := 1, cells := 0, slots := 0, locals := 22 })).room s m #[.ref mo, .int ne] below meth c H locs 0 0 (MQ below (va_Qi (fun r V' => mdOk k V' mo ad (ρ.wL 2 (moJn ρ ne nl (ρ.L 2) 60).1) ∧ mdFr mo ad V V' ∧ r = bI (moJn ρ ne nl (ρ.L 2) 60).2) (mB D N0) (hA N0)) #[.ref mo, .int ne] s 0 0 (hA N0)) (F0 m 94 ls [.int (bI (anyF Pa 0 (ia + 1)))]) := by
                    intro ls hl
                    refine lv_istore (lv' := [(4, .int (bI (anyF Pa 0 (ia + 1)))), (7, .int (bI (jbt ρ G i ia))), (0, .ref mo), (1, .int ne), (2, .int (bI b)), (3, .int (nI i)), (5, .int (bI (!anyF Pn 0 ia))), (6, .int (nI ia))]) hx hb d_Mo_joinLayers_94 hl (by decide) rfl (fun ls hl => ?_)
                    refine lv_iload hx hb d_Mo_joinLayers_96 (lv_at hl 6 rfl) ?_
                    have jn_21 : ∀ (ls : Array Slot), lv_has ls 8 [(4, .int (bI (anyF Pa 0 (ia + 1)))), (7, .int (bI (jbt ρ G i ia))), (0, .ref mo), (1, .int ne), (2, .int (bI b)), (3, .int (nI i)), (5, .int (bI (!anyF Pn 0 ia))), (6, .int (nI ia))] → W p l e (headSpec (.code y_Mo_joinLayers b_Mo_joinLayers 8 (some .boolean) :: WS) ({ frames := 1, cells := 0, slots := 0, locals := 22 })).room s m #[.ref mo, .int ne] below meth c H locs 0 0 (MQ below (va_Qi (fun r V' => mdOk k V' mo ad (ρ.wL 2 (moJn ρ ne nl (ρ.L 2) 60).1) ∧ mdFr mo ad V V' ∧ r = bI (moJn ρ ne nl (ρ.L 2) 60).2) (mB D N0) (hA N0)) #[.ref mo, .int ne] s 0 0 (hA N0)) (F0 m 111 ls [.int (bI (!anyF Pn 0 (ia + 1)))]) := by
                      intro ls hl
                      refine lv_istore (lv' := [(5, .int (bI (!anyF Pn 0 (ia + 1)))), (4, .int (bI (anyF Pa 0 (ia + 1)))), (7, .int (bI (jbt ρ G i ia))), (0, .ref mo), (1, .int ne), (2, .int (bI b)), (3, .int (nI i)), (6, .int (nI ia))]) hx hb d_Mo_joinLayers_111 hl (by decide) rfl (fun ls hl => ?_)
                      obtain ⟨i_22, ei_22⟩ : ∃ y : Int32, y = (nI ia) + 1 := ⟨_, rfl⟩
                      refine lv_iinc (v := i_22) (lv' := [(6, .int i_22), (5, .int (bI (!anyF Pn 0 (ia + 1)))), (4, .int (bI (anyF Pa 0 (ia + 1)))), (7, .int (bI (jbt ρ G i ia))), (0, .ref mo), (1, .int ne), (2, .int (bI b)), (3, .int (nI i))]) hx hb d_Mo_joinLayers_113 hl (k := 7) rfl (by rw [ei_22]; rfl) (by decide) rfl (fun ls hl => ?_)
                      refine lv_goto (tgt := 32) hx hb d_Mo_joinLayers_116 (by decide) ?_
                      rw [nI_1] at ei_22
                      subst ei_22
                      exact iha (ia + 1)  _ _ _ (by omega) (by omega) trivial hV hS (lv_sub hl [4, 5, 6, 7, 2, 1, 0] rfl)
                    refine lv_if_eq (tgt := 110) hx hb d_Mo_joinLayers_98 (by decide) (fun c_23 => ?_) (fun c_23 => ?_)
                    · refine lv_iconst (v := 0) hx hb d_Mo_joinLayers_110 (by decide) ?_
                      have hE : (bI (!anyF Pn 0 (ia + 1))) = 0 := by rw [anyF_snoc, Nat.zero_add]; have q9 := bI_eq0.mp c_23; have q8 : anyF Pn 0 ia = true := (by cases hq : anyF Pn 0 ia with | true => rfl | false => (rw [hq] at q9; cases q9)); rw [q8]; rfl
                      refine W.eq (g2 := F0 m 111 ls [.int (bI (!anyF Pn 0 (ia + 1)))]) (by rw [hE]) ?_
                      exact jn_21 _ (lv_sub hl [0, 1, 2, 3, 4, 5, 6, 7] rfl)
                    · refine lv_iload hx hb d_Mo_joinLayers_101 (lv_at hl 1 rfl) ?_
                      refine lv_if_eq (tgt := 110) hx hb d_Mo_joinLayers_103 (by decide) (fun c_24 => ?_) (fun c_24 => ?_)
                      · refine lv_iconst (v := 0) hx hb d_Mo_joinLayers_110 (by decide) ?_
                        have hE : (bI (!anyF Pn 0 (ia + 1))) = 0 := by rw [anyF_snoc, Nat.zero_add]; have q9 := bI_ne0.mp c_23; have q8 : anyF Pn 0 ia = false := (by cases hq : anyF Pn 0 ia with | false => rfl | true => (rw [hq] at q9; cases q9)); rw [q8, show Pn ia = !jbt ρ G i ia by rw [hPn], bI_eq0.mp c_24]; rfl
                        refine W.eq (g2 := F0 m 111 ls [.int (bI (!anyF Pn 0 (ia + 1)))]) (by rw [hE]) ?_
                        exact jn_21 _ (lv_sub hl [0, 1, 2, 3, 4, 5, 6, 7] rfl)
                      · refine lv_iconst (v := 1) hx hb d_Mo_joinLayers_106 (by decide) ?_
                        refine lv_goto (tgt := 111) hx hb d_Mo_joinLayers_107 (by decide) ?_
                        have hE : (bI (!anyF Pn 0 (ia + 1))) = 1 := by rw [anyF_snoc, Nat.zero_add]; have q9 := bI_ne0.mp c_23; have q8 : anyF Pn 0 ia = false := (by cases hq : anyF Pn 0 ia with | false => rfl | true => (rw [hq] at q9; cases q9)); rw [q8, show Pn ia = !jbt ρ G i ia by rw [hPn], bI_ne0.mp c_24]; rfl
                        refine W.eq (g2 := F0 m 111 ls [.int (bI (!anyF Pn 0 (ia + 1)))]) (by rw [hE]) ?_
                        exact jn_21 _ (lv_sub hl [0, 1, 2, 3, 4, 5, 6, 7] rfl)
                  refine lv_if_ne (tgt := 89) hx hb d_Mo_joinLayers_81 (by decide) (fun c_25 => ?_) (fun c_25 => ?_)
                  · refine lv_iconst (v := 1) hx hb d_Mo_joinLayers_89 (by decide) ?_
                    refine lv_goto (tgt := 94) hx hb d_Mo_joinLayers_90 (by decide) ?_
                    have hE : (bI (anyF Pa 0 (ia + 1))) = 1 := by rw [anyF_snoc, Nat.zero_add, hPa]; rw [← hPa, bI_ne0.mp c_25]; rfl
                    refine W.eq (g2 := F0 m 94 ls [.int (bI (anyF Pa 0 (ia + 1)))]) (by rw [hE]) ?_
                    exact jn_20 _ (lv_sub hl [0, 1, 2, 3, 4, 5, 6, 7] rfl)
                  · refine lv_iload hx hb d_Mo_joinLayers_84 (lv_at hl 0 rfl) ?_
                    refine lv_if_eq (tgt := 93) hx hb d_Mo_joinLayers_86 (by decide) (fun c_26 => ?_) (fun c_26 => ?_)
                    · refine lv_iconst (v := 0) hx hb d_Mo_joinLayers_93 (by decide) ?_
                      have hE : (bI (anyF Pa 0 (ia + 1))) = 0 := by rw [anyF_snoc, Nat.zero_add, hPa]; rw [← hPa, bI_eq0.mp c_25, show Pa ia = false by rw [hPa]; exact bI_eq0.mp c_26]; rfl
                      refine W.eq (g2 := F0 m 94 ls [.int (bI (anyF Pa 0 (ia + 1)))]) (by rw [hE]) ?_
                      exact jn_20 _ (lv_sub hl [0, 1, 2, 3, 4, 5, 6, 7] rfl)
                    · refine lv_iconst (v := 1) hx hb d_Mo_joinLayers_89 (by decide) ?_
                      refine lv_goto (tgt := 94) hx hb d_Mo_joinLayers_90 (by decide) ?_
                      have hE : (bI (anyF Pa 0 (ia + 1))) = 1 := by rw [anyF_snoc, Nat.zero_add, hPa]; rw [← hPa, bI_eq0.mp c_25, show Pa ia = true by rw [hPa]; exact bI_ne0.mp c_26]; rfl
                      refine W.eq (g2 := F0 m 94 ls [.int (bI (anyF Pa 0 (ia + 1)))]) (by rw [hE]) ?_
                      exact jn_20 _ (lv_sub hl [0, 1, 2, 3, 4, 5, 6, 7] rfl)
                refine lv_if_ne (tgt := 76) hx hb d_Mo_joinLayers_69 (by decide) (fun c_27 => ?_) (fun c_27 => ?_)
                · refine lv_iconst (v := 0) hx hb d_Mo_joinLayers_76 (by decide) ?_
                  have hE : (bI (jbt ρ G i ia)) = 0 := by rw [jbt, moBit, decide_eq_false (fun z => c_27 (lcm_0.mpr z))]; rfl
                  refine W.eq (g2 := F0 m 77 ls [.int (bI (jbt ρ G i ia))]) (by rw [hE]) ?_
                  exact jn_19 _ (lv_sub hl [0, 1, 2, 3, 4, 5, 6] rfl)
                · refine lv_iconst (v := 1) hx hb d_Mo_joinLayers_72 (by decide) ?_
                  refine lv_goto (tgt := 77) hx hb d_Mo_joinLayers_73 (by decide) ?_
                  have hE : (bI (jbt ρ G i ia)) = 1 := by rw [jbt, moBit, decide_eq_true (lcm_0.mp c_27)]; rfl
                  refine W.eq (g2 := F0 m 77 ls [.int (bI (jbt ρ G i ia))]) (by rw [hE]) ?_
                  exact jn_19 _ (lv_sub hl [0, 1, 2, 3, 4, 5, 6] rfl)
          exact loop_6 (nl + 1 - 0) 0  _ _ _ (by omega) (by omega) trivial hV hS (lv_sub hl [3, 4, 5, 6, 2, 1, 0] rfl)
        · refine lv_goto (tgt := 195) hx hb d_Mo_joinLayers_20 (by decide) ?_
          obtain ⟨i_28, ei_28⟩ : ∃ y : Int32, y = (nI i) + 1 := ⟨_, rfl⟩
          refine lv_iinc (v := i_28) (lv' := [(3, .int i_28), (0, .ref mo), (1, .int ne), (2, .int (bI b))]) hx hb d_Mo_joinLayers_195 hl (k := 3) rfl (by rw [ei_28]; rfl) (by decide) rfl (fun ls hl => ?_)
          refine lv_goto (tgt := 5) hx hb d_Mo_joinLayers_198 (by decide) ?_
          rw [nI_1] at ei_28
          subst ei_28
          exact ih (i + 1) V1 G b _ _ _ (by omega) (by omega) (⟨hM1, hR1, jn_f h20 hp1 (by rw [bI_eq0.mp c_5]; rfl), by omega⟩) hV hS (lv_sub hl [1, 2, 3, 0] rfl)
  exact loop_2 (80 + 1 - 20) 20 V (ρ.L 2) false _ _ _ (by omega) (by omega) (⟨by show mdOk k _ mo ad (ρ.wL 2 (ρ.L 2)); rw [wL_self]; exact hM, mdFr.rf (mo := mo) (ad := ad) (V := V), rfl, by omega⟩) hV hS (lv_sub hl [2, 3, 1, 0] rfl)
