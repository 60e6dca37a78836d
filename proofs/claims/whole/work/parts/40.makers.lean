/-! part, pad, track, plane, move, drop, gap, net, told -/
def hdK (h : Int32) : Nat := (h / 1000).toNatClampNeg
def hdN (h : Int32) : Nat := (h - h / 1000 * 1000).toNatClampNeg
def hdI (h : Int32) : Nat := fiN (hdK h) + hdN h
theorem gv_of {σ : HS} (hG : hsG σ) {h : Int32} (hg : gvOk σ.G h = true) : h / 1000 = nI (hdK h) ∧ h - h / 1000 * 1000 = nI (hdN h) ∧ 1 ≤ hdK h ∧ hdK h ≤ 7 ∧ hdN h < gN σ (hdK h) := by
  simp only [gvOk, Bool.and_eq_true, decide_eq_true_eq, Bool.not_eq_true', decide_eq_false_iff_not] at hg
  obtain ⟨⟨h1, h2⟩, h3⟩ := hg
  obtain ⟨j, hj, -, hj1, e1, e2⟩ := h_nat h1
  have hk : hdK h = j / 1000 := by rw [hdK, e1, nI_clamp (by omega)]
  have hn : hdN h = j % 1000 := by rw [hdN, e2, nI_clamp (by omega)]
  rw [e1] at h2
  have h7 := nI_le' (b := 7) h2 (by omega) (by decide)
  obtain ⟨eg, hle⟩ := gN_of hG (K := j / 1000) (by omega) (by omega)
  have := liN_le (K := j / 1000)
  rw [e2, e1, nI_clamp (by omega), eg] at h3
  exact ⟨by rw [e1, hk], by rw [e2, hn], by omega, by omega, by rw [hk, hn]; exact nI_nle' h3 (by omega) (by omega)⟩
theorem thing_of {k : Nat → Nat} {V : HV} {b : HA} {σ : HS} (hW : hsW k V b σ) {h : Int32} (hg : gvOk σ.G h = true) (h2 : 2 ≤ hdK h) (h5 : hdK h ≤ 5) : firV (hdK h) + nI (hdN h) = nI (hdI h) ∧ hdI h < 150 ∧ slM σ (hdI h) = true ∧ ∃ t, b.f (hdI h) = some t := by
  obtain ⟨-, -, h1, h7, hlt⟩ := gv_of hW.2.2.1 hg
  obtain ⟨-, hle⟩ := gN_of hW.2.2.1 h1 h7
  obtain ⟨s1, s2, s3⟩ := sl_of h2 h5 (Nat.lt_of_lt_of_le hlt hle)
  have hm : slM σ (hdI h) = true := by rw [slM, hdI, s1, s2]; exact decide_eq_true hlt
  refine ⟨by rw [firV_n h2 h5, nI_add, hdI], s3, hm, ?_⟩
  have := hW.2.1.1 (hdI h) s3
  rw [hm] at this
  exact Option.isSome_iff_exists.mp this
theorem hdK_of {h : Int32} {K : Nat} (hK : K < 2 ^ 31) (e : h / 1000 = nI K) : hdK h = K := by rw [hdK, e, nI_clamp hK]
theorem W_keep {k : Nat → Nat} {V V' : HV} {b bm : HA} {σ σ' : HS} (hW : hsW k V b σ) (h : hsOk k V' bm σ') (e1 : bm.f = b.f) (e2 : bm.fa = b.fa) (e3 : bm.fv = b.fv) (eG : σ'.G = σ.G) (e0 : ∀ i, σ'.T i 0 = σ.T i 0 ∧ σ'.T i 1 = σ.T i 1) : hsW k V' bm σ' := by
  obtain ⟨-, ⟨m1, m2, m3⟩, hG, hKK⟩ := hW
  have eg : ∀ K, gN σ' K = gN σ K := fun K => by rw [gN, gN, eG]
  have es : ∀ i, slM σ' i = slM σ i := fun i => by rw [slM, slM, eg]
  exact ⟨h, ⟨fun i hi => by rw [e1, es]; exact m1 i hi, fun j hj => by rw [e2, eg]; exact m2 j hj, fun j hj => by rw [e3, eg]; exact m3 j hj⟩, fun K a c => by rw [eG]; exact hG K a c, fun i hi hm => by rw [(e0 i).1, (e0 i).2]; rw [es] at hm; exact hKK i hi hm⟩
theorem ntS_rs {σ : HS} {i : Nat} : (ntS σ i).rs = σ.rs := by unfold ntS; split <;> rfl
theorem lpS_rs {U : (Nat → Int32) → Nat → Int32} {ex : Option Nat} {hn : Int32} {σ : HS} : ∀ i : Nat, (lpS U ex hn σ i).rs = σ.rs := by
  intro i
  induction i with
  | zero => rfl
  | succ i ih => rw [lpS]; split; · exact ntS_rs.trans ih
                 · exact ih
theorem lpS_G {U : (Nat → Int32) → Nat → Int32} {ex : Option Nat} {hn : Int32} {σ : HS} : ∀ i : Nat, (lpS U ex hn σ i).G = σ.G := by
  intro i
  induction i with
  | zero => rfl
  | succ i ih => rw [lpS]; split; · exact ntS_G.trans ih
                 · exact ih
def ptOk (w h side : Int32) : Bool := decide (1 ≤ w) && decide (w ≤ 8) && decide (1 ≤ h) && decide (h ≤ 8) && (decide (side = 0) || decide (side = 1))
def mvS (σ : HS) (i : Nat) (x y : Int32) : Int32 × HS :=
  if whyMv σ i x y (x + (σ.T i 8 - σ.T i 6)) (y + (σ.T i 9 - σ.T i 7)) = 0 then (1, lpS (shR (x - σ.T i 6) (y - σ.T i 7)) (some i) (1000 * σ.T i 0 + σ.T i 1) (σ.wrs 0) 150) else (0, σ.wrs (whyMv σ i x y (x + (σ.T i 8 - σ.T i 6)) (y + (σ.T i 9 - σ.T i 7))))
def drS (σ : HS) (i : Nat) : Int32 × HS :=
  if barr σ (σ.T i 6) (σ.T i 7) (σ.T i 8) (σ.T i 9) then (0, σ.wrs 3) else (1, lpS rmR (some i) (1000 * σ.T i 0 + σ.T i 1) (σ.wrs 0) 150)
def ntP (σ : HS) : Int32 × HS := if limV 1 ≤ σ.G 1 then (-1, σ.wrs 1) else (1000 + σ.G 1, (σ.wrs 0).wG (upd σ.G 1 (σ.G 1 + 1)))
theorem W_up {k : Nat → Nat} {V V' : HV} {b : HA} {σ σ' : HS} (hW : hsW k V b σ) (hf : ¬ limV 1 ≤ σ.G 1) (h : hsOk k V' b σ') (eG : σ'.G = upd σ.G 1 (σ.G 1 + 1)) (eT : σ'.T = σ.T) : hsW k V' b σ' := by
  obtain ⟨-, ⟨m1, m2, m3⟩, hG, hKK⟩ := hW
  obtain ⟨g1, g2, g3, g4⟩ := gN_up hG (by omega) (by omega) hf eG
  have es : ∀ i, slM σ' i = slM σ i := fun i => by have := slK_in (i := i); rw [slM, slM, g2 _ (by omega)]
  exact ⟨h, ⟨fun i hi => by rw [es]; exact m1 i hi, fun j hj => by rw [g2 6 (by omega)]; exact m2 j hj, fun j hj => by rw [g2 7 (by omega)]; exact m3 j hj⟩, g4, fun i hi hm => by rw [eT]; rw [es] at hm; exact hKK i hi hm⟩
set_option maxHeartbeats 4000000 in
set_option maxRecDepth 100000 in
/-- part -/
theorem c_Ho_part (l : Launch) (D : va_G) (N0 : Nat) (k : Nat → Nat) (V : HV) (b : HA) (σ : HS) (hW0 : hsW k V b σ) (pw ph x y side : Int32) (hok : ptOk pw ph side = true) : Met l y_Ho_part (.code y_Ho_part b_Ho_part 7 (some .int) :: WS) ({ frames := 6, cells := 2, slots := 11, locals := 118 }) (mP D N0 k [.ref b.ho, .int pw, .int ph, .int x, .int y, .int side] V) (va_Qi (fun r V' => ∃ b', hsW k V' b' (mkP σ 2 (mkR 2 (σ.G 2) side (-1) (-1) x y (x + (pw - 1)) (y + (ph - 1))) 0 0 31 23).2 ∧ hsFr b b' V V' ∧ r = (mkP σ 2 (mkR 2 (σ.G 2) side (-1) (-1) x y (x + (pw - 1)) (y + (ph - 1))) 0 0 31 23).1) (mB D N0) (hA N0)) 2 11 (hA N0) := by
  refine Met.ofW (cc := b_Ho_part) (maxL := 7) (ret := (some .int)) (by decide) rfl ?_
  intro p e s m args below meth c s₁ B hml hv0
  obtain ⟨rfl, hG, hV⟩ := hv0
  have hx := B.exec
  have hb := B.bytes
  have hr := B.returns
  have hts := atoms_spec (ws := .code y_Ho_part b_Ho_part 7 (some .int) :: WS) B.pre
  have hW : ∀ w ∈ WS, w.before _ s = true := fun w h => hts w (List.mem_cons_of_mem _ h)
  have hown : s.vm.findClass "BoardHouse" = some m.cls := findClass_of_methodNamed B.named
  have hlocks := B.notSynchronized
  have hS : va_S (hA N0) s.heap s.heap [] := va_S.rf
  have hl := lv_entry ([.ref b.ho, .int pw, .int ph, .int x, .int y, .int side]) (n := 7) (Nat.le_of_ble_eq_true rfl)
  rw [lg_entry_eq]
  generalize (lg_sl ([.ref b.ho, .int pw, .int ph, .int x, .int y, .int side]) ++ List.replicate (7 - (lg_sl ([.ref b.ho, .int pw, .int ph, .int x, .int y, .int side])).length) Slot.unset).toArray = ls at hl ⊢
  have hl : lv_has ls 7 [(0, .ref b.ho), (1, .int pw), (2, .int ph), (3, .int x), (4, .int y), (5, .int side)] := hl
  have hH := hW0.1
  refine lv_iload_n hx hb d_Ho_part_0 rfl (lv_at hl 1 rfl) ?_
  refine lv_iconst (v := 1) hx hb d_Ho_part_1 (by decide) ?_
  refine lv_icmp_lt (tgt := 22) hx hb d_Ho_part_2 (by decide) (fun c_1 => ?_) (fun c_1 => ?_)
  · have c_1 := i_nle c_1
    exact absurd hok (by simp [ptOk, c_1])
  · have c_1 := i_le c_1
    refine lv_iload_n hx hb d_Ho_part_5 rfl (lv_at hl 1 rfl) ?_
    refine lv_bipush (v := 8) hx hb d_Ho_part_6 (by decide) ?_
    refine lv_icmp_gt (tgt := 22) hx hb d_Ho_part_8 (by decide) (fun c_2 => ?_) (fun c_2 => ?_)
    · have c_2 := i_nle c_2
      exact absurd hok (by simp [ptOk, c_1, c_2])
    · have c_2 := i_le c_2
      refine lv_iload_n hx hb d_Ho_part_11 rfl (lv_at hl 2 rfl) ?_
      refine lv_iconst (v := 1) hx hb d_Ho_part_12 (by decide) ?_
      refine lv_icmp_lt (tgt := 22) hx hb d_Ho_part_13 (by decide) (fun c_3 => ?_) (fun c_3 => ?_)
      · have c_3 := i_nle c_3
        exact absurd hok (by simp [ptOk, c_1, c_2, c_3])
      · have c_3 := i_le c_3
        refine lv_iload_n hx hb d_Ho_part_16 rfl (lv_at hl 2 rfl) ?_
        refine lv_bipush (v := 8) hx hb d_Ho_part_17 (by decide) ?_
        refine lv_icmp_le (tgt := 32) hx hb d_Ho_part_19 (by decide) (fun c_4 => ?_) (fun c_4 => ?_)
        · refine lv_iload hx hb d_Ho_part_32 (lv_at hl 5 rfl) ?_
          refine lv_if_eq (tgt := 53) hx hb d_Ho_part_34 (by decide) (fun c_5 => ?_) (fun c_5 => ?_)
          · refine hv_new (ci := 1) (fs := [.int 0, .int 0, .int 0, .int 0]) (C := R_Ar) (T := T_Ar) (N := 4) hx hb hW in_Ar t_Ar ty_Ar hown (hW _ wk_Ho_9) (hW _ wo_Ar) (hW _ wi_Ar) hG.K hV hS rfl (fun j hj => by rcases (show j = 0 ∨ j = 1 ∨ j = 2 ∨ j = 3 by omega) with rfl | rfl | rfl | rfl <;> rfl) (Nat.le_of_ble_eq_true rfl) (Nat.le_of_ble_eq_true rfl) hG.N d_Ho_part_53 (fun q_6 H hn_q_6 hN_q_6 hV hS => ?_)
            have ne_bho_q_6 : b.ho ≠ q_6 := fun z => by rw [← z, hH.ho] at hn_q_6; cases hn_q_6
            have ne_bbo_q_6 : b.bo ≠ q_6 := fun z => by rw [← z, hH.bo] at hn_q_6; cases hn_q_6
            have ne_bgi_q_6 : b.gi ≠ q_6 := fun z => by rw [← z, hH.gi] at hn_q_6; cases hn_q_6
            have ne_bco_q_6 : b.co ≠ q_6 := fun z => by rw [← z, hH.co] at hn_q_6; cases hn_q_6
            have ne_bta_q_6 : b.ta ≠ q_6 := fun z => by rw [← z, hH.ts.1] at hn_q_6; cases hn_q_6
            have ne_bac_q_6 : b.ac ≠ q_6 := fun z => by rw [← z, hH.ac.1] at hn_q_6; cases hn_q_6
            have ne_bve_q_6 : b.ve ≠ q_6 := fun z => by rw [← z, hH.ve] at hn_q_6; cases hn_q_6
            replace hV : hv D vwCl N0 (hu V q_6 (.inr (1, [.int 0, .int 0, .int 0, .int 0]))) H := hV
            generalize hV_V_7 : hu V q_6 (.inr (1, [.int 0, .int 0, .int 0, .int 0])) = V_7 at hV
            have hH_ho'V_7 : V_7 b.ho = some (.inr (6, [.int (nI σ.nl), .ref b.bo, .ref b.gi, .ref b.co, .ref b.ta, .ref b.ac, .ref b.ve, va_rf (woA b σ.wo), .int σ.rs])) := by rw [← hV_V_7, hu_n ne_bho_q_6]; exact hH.ho
            have hH_bo'V_7 : V_7 b.bo = some (.inr (1, [.int 0, .int 0, .int 31, .int 23])) := by rw [← hV_V_7, hu_n ne_bbo_q_6]; exact hH.bo
            have hH_gi'V_7 : V_7 b.gi = some (eI k 8 σ.G) := by rw [← hV_V_7, hu_n ne_bgi_q_6]; exact hH.gi
            have hH_co'V_7 : V_7 b.co = some (.inr (2, [.ref b.ta, .int (nI σ.nl), .ref b.ro, .ref b.on, .ref b.re, .int σ.g])) := by rw [← hV_V_7, hu_n ne_bco_q_6]; exact hH.co
            have hH_ts_1'V_7 : V_7 b.ta = some (eTs k b.f) := by rw [← hV_V_7, hu_n ne_bta_q_6]; exact hH.ts.1
            have hH_ac_1'V_7 : V_7 b.ac = some (eAs k b.fa) := by rw [← hV_V_7, hu_n ne_bac_q_6]; exact hH.ac.1
            have hH_ve'V_7 : V_7 b.ve = some (eVs k b.fv) := by rw [← hV_V_7, hu_n ne_bve_q_6]; exact hH.ve
            have hq_6'V_7 : V_7 q_6 = some (.inr (1, [.int 0, .int 0, .int 0, .int 0])) := by rw [← hV_V_7]; exact hu_s
            refine lv_dup hx hb d_Ho_part_56 rfl ?_
            refine lv_iload_n hx hb d_Ho_part_57 rfl (lv_at hl 3 rfl) ?_
            refine lv_iload hx hb d_Ho_part_58 (lv_at hl 4 rfl) ?_
            refine lv_iload_n hx hb d_Ho_part_60 rfl (lv_at hl 3 rfl) ?_
            refine lv_iload_n hx hb d_Ho_part_61 rfl (lv_at hl 1 rfl) ?_
            refine lv_iconst (v := 1) hx hb d_Ho_part_62 (by decide) ?_
            refine lv_isub hx hb d_Ho_part_63 ?_
            refine lv_iadd hx hb d_Ho_part_64 ?_
            refine lv_iload hx hb d_Ho_part_65 (lv_at hl 4 rfl) ?_
            refine lv_iload_n hx hb d_Ho_part_67 rfl (lv_at hl 2 rfl) ?_
            refine lv_iconst (v := 1) hx hb d_Ho_part_68 (by decide) ?_
            refine lv_isub hx hb d_Ho_part_69 ?_
            refine lv_iadd hx hb d_Ho_part_70 ?_
            refine rc_V (va_runI (As := [.int x, .int y, .int (x + (pw - 1)), .int (y + (ph - 1))]) (rest := [.ref q_6]) ⟨hx, hb, hml, hown, hts⟩ (c_Ar_init l D N0 k V_7 q_6 x y (x + (pw - 1)) (y + (ph - 1)) 0 0 0 0 hq_6'V_7) (cwI 4 hts (gi_c wc_Ar_init) rfl rfl rfl (hW _ wi_Ar) (hW _ wm_Ho_11) (hW _ wv_Ar_init) rfl (by decide +kernel) ⟨Nat.le_of_ble_eq_true rfl, Nat.le_of_ble_eq_true rfl⟩) (mP.preS hG hS hV) rfl rfl hl.1 rfl (lv_room (Nat.le_of_ble_eq_true rfl)) d_Ho_part_71 ⟨Nat.le_of_ble_eq_true rfl, Nat.le_of_ble_eq_true rfl⟩) hS (fun V_8 H locs hp_9 hV hS => ?_)
            have hV_V_8 := hp_9.symm
            have hH_ho'V_8 : V_8 b.ho = some (.inr (6, [.int (nI σ.nl), .ref b.bo, .ref b.gi, .ref b.co, .ref b.ta, .ref b.ac, .ref b.ve, va_rf (woA b σ.wo), .int σ.rs])) := by rw [← hV_V_8, hu_n ne_bho_q_6]; exact hH_ho'V_7
            have hH_bo'V_8 : V_8 b.bo = some (.inr (1, [.int 0, .int 0, .int 31, .int 23])) := by rw [← hV_V_8, hu_n ne_bbo_q_6]; exact hH_bo'V_7
            have hH_gi'V_8 : V_8 b.gi = some (eI k 8 σ.G) := by rw [← hV_V_8, hu_n ne_bgi_q_6]; exact hH_gi'V_7
            have hH_co'V_8 : V_8 b.co = some (.inr (2, [.ref b.ta, .int (nI σ.nl), .ref b.ro, .ref b.on, .ref b.re, .int σ.g])) := by rw [← hV_V_8, hu_n ne_bco_q_6]; exact hH_co'V_7
            have hH_ts_1'V_8 : V_8 b.ta = some (eTs k b.f) := by rw [← hV_V_8, hu_n ne_bta_q_6]; exact hH_ts_1'V_7
            have hH_ac_1'V_8 : V_8 b.ac = some (eAs k b.fa) := by rw [← hV_V_8, hu_n ne_bac_q_6]; exact hH_ac_1'V_7
            have hH_ve'V_8 : V_8 b.ve = some (eVs k b.fv) := by rw [← hV_V_8, hu_n ne_bve_q_6]; exact hH_ve'V_7
            have hq_6'V_8 : V_8 q_6 = some (eAr x y (x + (pw - 1)) (y + (ph - 1))) := by rw [← hV_V_8]; exact hu_s
            refine lv_astore (lv' := [(6, .ref q_6), (0, .ref b.ho), (1, .int pw), (2, .int ph), (3, .int x), (4, .int y), (5, .int side)]) hx hb d_Ho_part_74 hl (by decide) rfl (fun ls hl => ?_)
            refine lv_aload_n hx hb d_Ho_part_76 rfl (lv_at hl 1 rfl) ?_
            refine hv_new (ci := 5) (fs := [.int 0, .int 0, .null, .int 0, .int 0, .int 0, .int 0]) (C := R_Th) (T := T_Th) (N := 7) hx hb hW in_Th t_Th ty_Th hown (hW _ wk_Ho_88) (hW _ wo_Th) (hW _ wi_Th) hG.K hV hS rfl (fun j hj => by rcases (show j = 0 ∨ j = 1 ∨ j = 2 ∨ j = 3 ∨ j = 4 ∨ j = 5 ∨ j = 6 by omega) with rfl | rfl | rfl | rfl | rfl | rfl | rfl <;> rfl) (Nat.le_of_ble_eq_true rfl) (Nat.le_of_ble_eq_true rfl) hG.N d_Ho_part_77 (fun q_10 H hn_q_10 hN_q_10 hV hS => ?_)
            have ne_bho_q_10 : b.ho ≠ q_10 := fun z => by rw [← z, hH_ho'V_8] at hn_q_10; cases hn_q_10
            have ne_bbo_q_10 : b.bo ≠ q_10 := fun z => by rw [← z, hH_bo'V_8] at hn_q_10; cases hn_q_10
            have ne_bgi_q_10 : b.gi ≠ q_10 := fun z => by rw [← z, hH_gi'V_8] at hn_q_10; cases hn_q_10
            have ne_bco_q_10 : b.co ≠ q_10 := fun z => by rw [← z, hH_co'V_8] at hn_q_10; cases hn_q_10
            have ne_bta_q_10 : b.ta ≠ q_10 := fun z => by rw [← z, hH_ts_1'V_8] at hn_q_10; cases hn_q_10
            have ne_bac_q_10 : b.ac ≠ q_10 := fun z => by rw [← z, hH_ac_1'V_8] at hn_q_10; cases hn_q_10
            have ne_bve_q_10 : b.ve ≠ q_10 := fun z => by rw [← z, hH_ve'V_8] at hn_q_10; cases hn_q_10
            have ne_q_6_q_10 : q_6 ≠ q_10 := fun z => by rw [← z, hq_6'V_8] at hn_q_10; cases hn_q_10
            replace hV : hv D vwCl N0 (hu V_8 q_10 (.inr (5, [.int 0, .int 0, .null, .int 0, .int 0, .int 0, .int 0]))) H := hV
            generalize hV_V_11 : hu V_8 q_10 (.inr (5, [.int 0, .int 0, .null, .int 0, .int 0, .int 0, .int 0])) = V_11 at hV
            have hH_ho'V_11 : V_11 b.ho = some (.inr (6, [.int (nI σ.nl), .ref b.bo, .ref b.gi, .ref b.co, .ref b.ta, .ref b.ac, .ref b.ve, va_rf (woA b σ.wo), .int σ.rs])) := by rw [← hV_V_11, hu_n ne_bho_q_10]; exact hH_ho'V_8
            have hH_bo'V_11 : V_11 b.bo = some (.inr (1, [.int 0, .int 0, .int 31, .int 23])) := by rw [← hV_V_11, hu_n ne_bbo_q_10]; exact hH_bo'V_8
            have hH_gi'V_11 : V_11 b.gi = some (eI k 8 σ.G) := by rw [← hV_V_11, hu_n ne_bgi_q_10]; exact hH_gi'V_8
            have hH_co'V_11 : V_11 b.co = some (.inr (2, [.ref b.ta, .int (nI σ.nl), .ref b.ro, .ref b.on, .ref b.re, .int σ.g])) := by rw [← hV_V_11, hu_n ne_bco_q_10]; exact hH_co'V_8
            have hH_ts_1'V_11 : V_11 b.ta = some (eTs k b.f) := by rw [← hV_V_11, hu_n ne_bta_q_10]; exact hH_ts_1'V_8
            have hH_ac_1'V_11 : V_11 b.ac = some (eAs k b.fa) := by rw [← hV_V_11, hu_n ne_bac_q_10]; exact hH_ac_1'V_8
            have hH_ve'V_11 : V_11 b.ve = some (eVs k b.fv) := by rw [← hV_V_11, hu_n ne_bve_q_10]; exact hH_ve'V_8
            have hq_6'V_11 : V_11 q_6 = some (.inr (1, [.int x, .int y, .int (x + (pw - 1)), .int (y + (ph - 1))])) := by rw [← hV_V_11, hu_n ne_q_6_q_10]; exact hq_6'V_8
            have hq_10'V_11 : V_11 q_10 = some (.inr (5, [.int 0, .int 0, .null, .int 0, .int 0, .int 0, .int 0])) := by rw [← hV_V_11]; exact hu_s
            refine lv_dup hx hb d_Ho_part_80 rfl ?_
            refine lv_iconst (v := 2) hx hb d_Ho_part_81 (by decide) ?_
            refine lv_aload_n hx hb d_Ho_part_82 rfl (lv_at hl 1 rfl) ?_
            refine gf_Ho_18 hx hb hW hown hG hV hH_ho'V_11 d_Ho_part_83 ?_
            refine lv_iconst (v := 2) hx hb d_Ho_part_86 (by decide) ?_
            refine hv_iald hx hb hG.K hV 0 hH_gi'V_11 rfl ((vp_in_nI (by omega) (by omega) : vp_in (nI 2) 8)) d_Ho_part_87 ?_
            rw [show (2 : Int32).toNatClampNeg = 2 from rfl]
            refine lv_aload hx hb d_Ho_part_88 (lv_at hl 0 rfl) ?_
            refine lv_iload hx hb d_Ho_part_90 (lv_at hl 6 rfl) ?_
            refine lv_iconst (v := (-1)) hx hb d_Ho_part_92 (by decide) ?_
            refine lv_iconst (v := (-1)) hx hb d_Ho_part_93 (by decide) ?_
            refine rc_V (va_runI (As := [.int 2, .int (σ.G 2), .ref q_6, .int side, .int (-1), .int (-1)]) (rest := [.ref q_10, .ref b.ho]) ⟨hx, hb, hml, hown, hts⟩ (c_Th_init l D N0 k V_11 q_10 q_6 2 (σ.G 2) side (-1) (-1) hq_10'V_11) (cwI 6 hts (gi_c wc_Th_init) rfl rfl rfl (hW _ wi_Th) (hW _ wm_Ho_90) (hW _ wv_Th_init) rfl (by decide +kernel) ⟨Nat.le_of_ble_eq_true rfl, Nat.le_of_ble_eq_true rfl⟩) (mP.preS hG hS hV) rfl rfl hl.1 rfl (lv_room (Nat.le_of_ble_eq_true rfl)) d_Ho_part_94 ⟨Nat.le_of_ble_eq_true rfl, Nat.le_of_ble_eq_true rfl⟩) hS (fun V_12 H locs hp_13 hV hS => ?_)
            have hV_V_12 := hp_13.symm
            have hH_ho'V_12 : V_12 b.ho = some (.inr (6, [.int (nI σ.nl), .ref b.bo, .ref b.gi, .ref b.co, .ref b.ta, .ref b.ac, .ref b.ve, va_rf (woA b σ.wo), .int σ.rs])) := by rw [← hV_V_12, hu_n ne_bho_q_10]; exact hH_ho'V_11
            have hH_bo'V_12 : V_12 b.bo = some (.inr (1, [.int 0, .int 0, .int 31, .int 23])) := by rw [← hV_V_12, hu_n ne_bbo_q_10]; exact hH_bo'V_11
            have hH_gi'V_12 : V_12 b.gi = some (eI k 8 σ.G) := by rw [← hV_V_12, hu_n ne_bgi_q_10]; exact hH_gi'V_11
            have hH_co'V_12 : V_12 b.co = some (.inr (2, [.ref b.ta, .int (nI σ.nl), .ref b.ro, .ref b.on, .ref b.re, .int σ.g])) := by rw [← hV_V_12, hu_n ne_bco_q_10]; exact hH_co'V_11
            have hH_ts_1'V_12 : V_12 b.ta = some (eTs k b.f) := by rw [← hV_V_12, hu_n ne_bta_q_10]; exact hH_ts_1'V_11
            have hH_ac_1'V_12 : V_12 b.ac = some (eAs k b.fa) := by rw [← hV_V_12, hu_n ne_bac_q_10]; exact hH_ac_1'V_11
            have hH_ve'V_12 : V_12 b.ve = some (eVs k b.fv) := by rw [← hV_V_12, hu_n ne_bve_q_10]; exact hH_ve'V_11
            have hq_6'V_12 : V_12 q_6 = some (.inr (1, [.int x, .int y, .int (x + (pw - 1)), .int (y + (ph - 1))])) := by rw [← hV_V_12, hu_n ne_q_6_q_10]; exact hq_6'V_11
            have hq_10'V_12 : V_12 q_10 = some (eTh 2 (σ.G 2) q_6 side (-1) (-1) 0) := by rw [← hV_V_12]; exact hu_s
            refine lv_aload_n hx hb d_Ho_part_97 rfl (lv_at hl 1 rfl) ?_
            refine gf_Ho_14 hx hb hW hown hG hV hH_ho'V_12 d_Ho_part_98 ?_
            obtain ⟨Vm, eVm⟩ : ∃ z, z = V_12 := ⟨_, rfl⟩
            have lb2 : ((b.lab q_6 5001).lab q_10 5000).lb q_10 = 5000 := HA.lab_s
            have lb1 : ((b.lab q_6 5001).lab q_10 5000).lb q_6 = 5001 := (HA.lab_n ne_q_6_q_10).trans HA.lab_s
            have hH_V_7 : hsOk k V_7 (b.lab q_6 5001) σ := by rw [← hV_V_7]; exact hs_new hH hn_q_6
            have hF_V_7 : hsFr b (b.lab q_6 5001) V V_7 := by rw [← hV_V_7]; exact hsFr.tr (hsFr.rf (a := b) (V := V)) (hsFr_new hn_q_6)
            have lz_V_8 : (b.lab q_6 5001).lb q_6 = 5001 := HA.lab_s
            have hH_V_8 : hsOk k V_8 (b.lab q_6 5001) σ := by rw [← hV_V_8]; exact hs_tmp hH_V_7 (by rw [lz_V_8]; omega)
            have hF_V_8 : hsFr b (b.lab q_6 5001) V V_8 := by rw [← hV_V_8]; exact hsFr.tr hF_V_7 (hsFr_hu (by rw [lz_V_8]; omega))
            have hH_V_11 : hsOk k V_11 ((b.lab q_6 5001).lab q_10 5000) σ := by rw [← hV_V_11]; exact hs_new hH_V_8 hn_q_10
            have hF_V_11 : hsFr b ((b.lab q_6 5001).lab q_10 5000) V V_11 := by rw [← hV_V_11]; exact hsFr.tr hF_V_8 (hsFr_new hn_q_10)
            have hH_V_12 : hsOk k V_12 ((b.lab q_6 5001).lab q_10 5000) σ := by rw [← hV_V_12]; exact hs_tmp hH_V_11 (by rw [lb2]; omega)
            have hF_V_12 : hsFr b ((b.lab q_6 5001).lab q_10 5000) V V_12 := by rw [← hV_V_12]; exact hsFr.tr hF_V_11 (hsFr_hu (by rw [lb2]; omega))
            have hHm := hH_V_12
            have hFm := hF_V_12
            refine rc_I (va_runV (As := [.ref q_10, .ref b.bo]) (rest := []) ⟨hx, hb, hml, hown, hts⟩ (c_Ho_make l D N0 k V_12 ((b.lab q_6 5001).lab q_10 5000) σ hHm q_10 q_6 (mkR 2 (σ.G 2) side (-1) (-1) x y (x + (pw - 1)) (y + (ph - 1))) hq_10'V_12 hq_6'V_12 b.bo 0 0 31 23 hH_bo'V_12 2 rfl (by omega) (by omega) (fiN 2 + gN σ 2) (fun hz => slot_free hW0 (by omega) (by omega) hz) lb2 lb1) (cwV 2 hts (gi_V wm_Ho_93 wv_Ho_make ws_Ho_make wi_Ho wc_Ho_make) rfl rfl rfl (by decide +kernel) ⟨Nat.le_of_ble_eq_true rfl, Nat.le_of_ble_eq_true rfl⟩) (mP.preV hG hS hV hH_ho'V_12 rfl) rfl rfl hl.1 rfl (lv_room (Nat.le_of_ble_eq_true rfl)) d_Ho_part_101 ⟨Nat.le_of_ble_eq_true rfl, Nat.le_of_ble_eq_true rfl⟩) hS (fun r_14 V_15 H locs hp_16 hV hS => ?_)
            have hfin := mk_post hW0 (bm := ((b.lab q_6 5001).lab q_10 5000)) (K := 2) (R := (mkR 2 (σ.G 2) side (-1) (-1) x y (x + (pw - 1)) (y + (ph - 1)))) rfl rfl rfl hFm (by omega) (by omega) rfl rfl hp_16
            exact W.iret (v := r_14) hx hb hr (fun t9 ht hW => ⟨⟨r_14, V_15, rfl, hfin, mB_of ht hV⟩, hS.F ht⟩) hS.2.2 d_Ho_part_104
          · refine lv_iload hx hb d_Ho_part_37 (lv_at hl 5 rfl) ?_
            refine lv_iconst (v := 1) hx hb d_Ho_part_39 (by decide) ?_
            refine lv_icmp_eq (tgt := 53) hx hb d_Ho_part_40 (by decide) (fun c_17 => ?_) (fun c_17 => ?_)
            · refine hv_new (ci := 1) (fs := [.int 0, .int 0, .int 0, .int 0]) (C := R_Ar) (T := T_Ar) (N := 4) hx hb hW in_Ar t_Ar ty_Ar hown (hW _ wk_Ho_9) (hW _ wo_Ar) (hW _ wi_Ar) hG.K hV hS rfl (fun j hj => by rcases (show j = 0 ∨ j = 1 ∨ j = 2 ∨ j = 3 by omega) with rfl | rfl | rfl | rfl <;> rfl) (Nat.le_of_ble_eq_true rfl) (Nat.le_of_ble_eq_true rfl) hG.N d_Ho_part_53 (fun q_18 H hn_q_18 hN_q_18 hV hS => ?_)
              have ne_bho_q_18 : b.ho ≠ q_18 := fun z => by rw [← z, hH.ho] at hn_q_18; cases hn_q_18
              have ne_bbo_q_18 : b.bo ≠ q_18 := fun z => by rw [← z, hH.bo] at hn_q_18; cases hn_q_18
              have ne_bgi_q_18 : b.gi ≠ q_18 := fun z => by rw [← z, hH.gi] at hn_q_18; cases hn_q_18
              have ne_bco_q_18 : b.co ≠ q_18 := fun z => by rw [← z, hH.co] at hn_q_18; cases hn_q_18
              have ne_bta_q_18 : b.ta ≠ q_18 := fun z => by rw [← z, hH.ts.1] at hn_q_18; cases hn_q_18
              have ne_bac_q_18 : b.ac ≠ q_18 := fun z => by rw [← z, hH.ac.1] at hn_q_18; cases hn_q_18
              have ne_bve_q_18 : b.ve ≠ q_18 := fun z => by rw [← z, hH.ve] at hn_q_18; cases hn_q_18
              replace hV : hv D vwCl N0 (hu V q_18 (.inr (1, [.int 0, .int 0, .int 0, .int 0]))) H := hV
              generalize hV_V_19 : hu V q_18 (.inr (1, [.int 0, .int 0, .int 0, .int 0])) = V_19 at hV
              have hH_ho'V_19 : V_19 b.ho = some (.inr (6, [.int (nI σ.nl), .ref b.bo, .ref b.gi, .ref b.co, .ref b.ta, .ref b.ac, .ref b.ve, va_rf (woA b σ.wo), .int σ.rs])) := by rw [← hV_V_19, hu_n ne_bho_q_18]; exact hH.ho
              have hH_bo'V_19 : V_19 b.bo = some (.inr (1, [.int 0, .int 0, .int 31, .int 23])) := by rw [← hV_V_19, hu_n ne_bbo_q_18]; exact hH.bo
              have hH_gi'V_19 : V_19 b.gi = some (eI k 8 σ.G) := by rw [← hV_V_19, hu_n ne_bgi_q_18]; exact hH.gi
              have hH_co'V_19 : V_19 b.co = some (.inr (2, [.ref b.ta, .int (nI σ.nl), .ref b.ro, .ref b.on, .ref b.re, .int σ.g])) := by rw [← hV_V_19, hu_n ne_bco_q_18]; exact hH.co
              have hH_ts_1'V_19 : V_19 b.ta = some (eTs k b.f) := by rw [← hV_V_19, hu_n ne_bta_q_18]; exact hH.ts.1
              have hH_ac_1'V_19 : V_19 b.ac = some (eAs k b.fa) := by rw [← hV_V_19, hu_n ne_bac_q_18]; exact hH.ac.1
              have hH_ve'V_19 : V_19 b.ve = some (eVs k b.fv) := by rw [← hV_V_19, hu_n ne_bve_q_18]; exact hH.ve
              have hq_18'V_19 : V_19 q_18 = some (.inr (1, [.int 0, .int 0, .int 0, .int 0])) := by rw [← hV_V_19]; exact hu_s
              refine lv_dup hx hb d_Ho_part_56 rfl ?_
              refine lv_iload_n hx hb d_Ho_part_57 rfl (lv_at hl 3 rfl) ?_
              refine lv_iload hx hb d_Ho_part_58 (lv_at hl 4 rfl) ?_
              refine lv_iload_n hx hb d_Ho_part_60 rfl (lv_at hl 3 rfl) ?_
              refine lv_iload_n hx hb d_Ho_part_61 rfl (lv_at hl 1 rfl) ?_
              refine lv_iconst (v := 1) hx hb d_Ho_part_62 (by decide) ?_
              refine lv_isub hx hb d_Ho_part_63 ?_
              refine lv_iadd hx hb d_Ho_part_64 ?_
              refine lv_iload hx hb d_Ho_part_65 (lv_at hl 4 rfl) ?_
              refine lv_iload_n hx hb d_Ho_part_67 rfl (lv_at hl 2 rfl) ?_
              refine lv_iconst (v := 1) hx hb d_Ho_part_68 (by decide) ?_
              refine lv_isub hx hb d_Ho_part_69 ?_
              refine lv_iadd hx hb d_Ho_part_70 ?_
              refine rc_V (va_runI (As := [.int x, .int y, .int (x + (pw - 1)), .int (y + (ph - 1))]) (rest := [.ref q_18]) ⟨hx, hb, hml, hown, hts⟩ (c_Ar_init l D N0 k V_19 q_18 x y (x + (pw - 1)) (y + (ph - 1)) 0 0 0 0 hq_18'V_19) (cwI 4 hts (gi_c wc_Ar_init) rfl rfl rfl (hW _ wi_Ar) (hW _ wm_Ho_11) (hW _ wv_Ar_init) rfl (by decide +kernel) ⟨Nat.le_of_ble_eq_true rfl, Nat.le_of_ble_eq_true rfl⟩) (mP.preS hG hS hV) rfl rfl hl.1 rfl (lv_room (Nat.le_of_ble_eq_true rfl)) d_Ho_part_71 ⟨Nat.le_of_ble_eq_true rfl, Nat.le_of_ble_eq_true rfl⟩) hS (fun V_20 H locs hp_21 hV hS => ?_)
              have hV_V_20 := hp_21.symm
              have hH_ho'V_20 : V_20 b.ho = some (.inr (6, [.int (nI σ.nl), .ref b.bo, .ref b.gi, .ref b.co, .ref b.ta, .ref b.ac, .ref b.ve, va_rf (woA b σ.wo), .int σ.rs])) := by rw [← hV_V_20, hu_n ne_bho_q_18]; exact hH_ho'V_19
              have hH_bo'V_20 : V_20 b.bo = some (.inr (1, [.int 0, .int 0, .int 31, .int 23])) := by rw [← hV_V_20, hu_n ne_bbo_q_18]; exact hH_bo'V_19
              have hH_gi'V_20 : V_20 b.gi = some (eI k 8 σ.G) := by rw [← hV_V_20, hu_n ne_bgi_q_18]; exact hH_gi'V_19
              have hH_co'V_20 : V_20 b.co = some (.inr (2, [.ref b.ta, .int (nI σ.nl), .ref b.ro, .ref b.on, .ref b.re, .int σ.g])) := by rw [← hV_V_20, hu_n ne_bco_q_18]; exact hH_co'V_19
              have hH_ts_1'V_20 : V_20 b.ta = some (eTs k b.f) := by rw [← hV_V_20, hu_n ne_bta_q_18]; exact hH_ts_1'V_19
              have hH_ac_1'V_20 : V_20 b.ac = some (eAs k b.fa) := by rw [← hV_V_20, hu_n ne_bac_q_18]; exact hH_ac_1'V_19
              have hH_ve'V_20 : V_20 b.ve = some (eVs k b.fv) := by rw [← hV_V_20, hu_n ne_bve_q_18]; exact hH_ve'V_19
              have hq_18'V_20 : V_20 q_18 = some (eAr x y (x + (pw - 1)) (y + (ph - 1))) := by rw [← hV_V_20]; exact hu_s
              refine lv_astore (lv' := [(6, .ref q_18), (0, .ref b.ho), (1, .int pw), (2, .int ph), (3, .int x), (4, .int y), (5, .int side)]) hx hb d_Ho_part_74 hl (by decide) rfl (fun ls hl => ?_)
              refine lv_aload_n hx hb d_Ho_part_76 rfl (lv_at hl 1 rfl) ?_
              refine hv_new (ci := 5) (fs := [.int 0, .int 0, .null, .int 0, .int 0, .int 0, .int 0]) (C := R_Th) (T := T_Th) (N := 7) hx hb hW in_Th t_Th ty_Th hown (hW _ wk_Ho_88) (hW _ wo_Th) (hW _ wi_Th) hG.K hV hS rfl (fun j hj => by rcases (show j = 0 ∨ j = 1 ∨ j = 2 ∨ j = 3 ∨ j = 4 ∨ j = 5 ∨ j = 6 by omega) with rfl | rfl | rfl | rfl | rfl | rfl | rfl <;> rfl) (Nat.le_of_ble_eq_true rfl) (Nat.le_of_ble_eq_true rfl) hG.N d_Ho_part_77 (fun q_22 H hn_q_22 hN_q_22 hV hS => ?_)
              have ne_bho_q_22 : b.ho ≠ q_22 := fun z => by rw [← z, hH_ho'V_20] at hn_q_22; cases hn_q_22
              have ne_bbo_q_22 : b.bo ≠ q_22 := fun z => by rw [← z, hH_bo'V_20] at hn_q_22; cases hn_q_22
              have ne_bgi_q_22 : b.gi ≠ q_22 := fun z => by rw [← z, hH_gi'V_20] at hn_q_22; cases hn_q_22
              have ne_bco_q_22 : b.co ≠ q_22 := fun z => by rw [← z, hH_co'V_20] at hn_q_22; cases hn_q_22
              have ne_bta_q_22 : b.ta ≠ q_22 := fun z => by rw [← z, hH_ts_1'V_20] at hn_q_22; cases hn_q_22
              have ne_bac_q_22 : b.ac ≠ q_22 := fun z => by rw [← z, hH_ac_1'V_20] at hn_q_22; cases hn_q_22
              have ne_bve_q_22 : b.ve ≠ q_22 := fun z => by rw [← z, hH_ve'V_20] at hn_q_22; cases hn_q_22
              have ne_q_18_q_22 : q_18 ≠ q_22 := fun z => by rw [← z, hq_18'V_20] at hn_q_22; cases hn_q_22
              replace hV : hv D vwCl N0 (hu V_20 q_22 (.inr (5, [.int 0, .int 0, .null, .int 0, .int 0, .int 0, .int 0]))) H := hV
              generalize hV_V_23 : hu V_20 q_22 (.inr (5, [.int 0, .int 0, .null, .int 0, .int 0, .int 0, .int 0])) = V_23 at hV
              have hH_ho'V_23 : V_23 b.ho = some (.inr (6, [.int (nI σ.nl), .ref b.bo, .ref b.gi, .ref b.co, .ref b.ta, .ref b.ac, .ref b.ve, va_rf (woA b σ.wo), .int σ.rs])) := by rw [← hV_V_23, hu_n ne_bho_q_22]; exact hH_ho'V_20
              have hH_bo'V_23 : V_23 b.bo = some (.inr (1, [.int 0, .int 0, .int 31, .int 23])) := by rw [← hV_V_23, hu_n ne_bbo_q_22]; exact hH_bo'V_20
              have hH_gi'V_23 : V_23 b.gi = some (eI k 8 σ.G) := by rw [← hV_V_23, hu_n ne_bgi_q_22]; exact hH_gi'V_20
              have hH_co'V_23 : V_23 b.co = some (.inr (2, [.ref b.ta, .int (nI σ.nl), .ref b.ro, .ref b.on, .ref b.re, .int σ.g])) := by rw [← hV_V_23, hu_n ne_bco_q_22]; exact hH_co'V_20
              have hH_ts_1'V_23 : V_23 b.ta = some (eTs k b.f) := by rw [← hV_V_23, hu_n ne_bta_q_22]; exact hH_ts_1'V_20
              have hH_ac_1'V_23 : V_23 b.ac = some (eAs k b.fa) := by rw [← hV_V_23, hu_n ne_bac_q_22]; exact hH_ac_1'V_20
              have hH_ve'V_23 : V_23 b.ve = some (eVs k b.fv) := by rw [← hV_V_23, hu_n ne_bve_q_22]; exact hH_ve'V_20
              have hq_18'V_23 : V_23 q_18 = some (.inr (1, [.int x, .int y, .int (x + (pw - 1)), .int (y + (ph - 1))])) := by rw [← hV_V_23, hu_n ne_q_18_q_22]; exact hq_18'V_20
              have hq_22'V_23 : V_23 q_22 = some (.inr (5, [.int 0, .int 0, .null, .int 0, .int 0, .int 0, .int 0])) := by rw [← hV_V_23]; exact hu_s
              refine lv_dup hx hb d_Ho_part_80 rfl ?_
              refine lv_iconst (v := 2) hx hb d_Ho_part_81 (by decide) ?_
              refine lv_aload_n hx hb d_Ho_part_82 rfl (lv_at hl 1 rfl) ?_
              refine gf_Ho_18 hx hb hW hown hG hV hH_ho'V_23 d_Ho_part_83 ?_
              refine lv_iconst (v := 2) hx hb d_Ho_part_86 (by decide) ?_
              refine hv_iald hx hb hG.K hV 0 hH_gi'V_23 rfl ((vp_in_nI (by omega) (by omega) : vp_in (nI 2) 8)) d_Ho_part_87 ?_
              rw [show (2 : Int32).toNatClampNeg = 2 from rfl]
              refine lv_aload hx hb d_Ho_part_88 (lv_at hl 0 rfl) ?_
              refine lv_iload hx hb d_Ho_part_90 (lv_at hl 6 rfl) ?_
              refine lv_iconst (v := (-1)) hx hb d_Ho_part_92 (by decide) ?_
              refine lv_iconst (v := (-1)) hx hb d_Ho_part_93 (by decide) ?_
              refine rc_V (va_runI (As := [.int 2, .int (σ.G 2), .ref q_18, .int side, .int (-1), .int (-1)]) (rest := [.ref q_22, .ref b.ho]) ⟨hx, hb, hml, hown, hts⟩ (c_Th_init l D N0 k V_23 q_22 q_18 2 (σ.G 2) side (-1) (-1) hq_22'V_23) (cwI 6 hts (gi_c wc_Th_init) rfl rfl rfl (hW _ wi_Th) (hW _ wm_Ho_90) (hW _ wv_Th_init) rfl (by decide +kernel) ⟨Nat.le_of_ble_eq_true rfl, Nat.le_of_ble_eq_true rfl⟩) (mP.preS hG hS hV) rfl rfl hl.1 rfl (lv_room (Nat.le_of_ble_eq_true rfl)) d_Ho_part_94 ⟨Nat.le_of_ble_eq_true rfl, Nat.le_of_ble_eq_true rfl⟩) hS (fun V_24 H locs hp_25 hV hS => ?_)
              have hV_V_24 := hp_25.symm
              have hH_ho'V_24 : V_24 b.ho = some (.inr (6, [.int (nI σ.nl), .ref b.bo, .ref b.gi, .ref b.co, .ref b.ta, .ref b.ac, .ref b.ve, va_rf (woA b σ.wo), .int σ.rs])) := by rw [← hV_V_24, hu_n ne_bho_q_22]; exact hH_ho'V_23
              have hH_bo'V_24 : V_24 b.bo = some (.inr (1, [.int 0, .int 0, .int 31, .int 23])) := by rw [← hV_V_24, hu_n ne_bbo_q_22]; exact hH_bo'V_23
              have hH_gi'V_24 : V_24 b.gi = some (eI k 8 σ.G) := by rw [← hV_V_24, hu_n ne_bgi_q_22]; exact hH_gi'V_23
              have hH_co'V_24 : V_24 b.co = some (.inr (2, [.ref b.ta, .int (nI σ.nl), .ref b.ro, .ref b.on, .ref b.re, .int σ.g])) := by rw [← hV_V_24, hu_n ne_bco_q_22]; exact hH_co'V_23
              have hH_ts_1'V_24 : V_24 b.ta = some (eTs k b.f) := by rw [← hV_V_24, hu_n ne_bta_q_22]; exact hH_ts_1'V_23
              have hH_ac_1'V_24 : V_24 b.ac = some (eAs k b.fa) := by rw [← hV_V_24, hu_n ne_bac_q_22]; exact hH_ac_1'V_23
              have hH_ve'V_24 : V_24 b.ve = some (eVs k b.fv) := by rw [← hV_V_24, hu_n ne_bve_q_22]; exact hH_ve'V_23
              have hq_18'V_24 : V_24 q_18 = some (.inr (1, [.int x, .int y, .int (x + (pw - 1)), .int (y + (ph - 1))])) := by rw [← hV_V_24, hu_n ne_q_18_q_22]; exact hq_18'V_23
              have hq_22'V_24 : V_24 q_22 = some (eTh 2 (σ.G 2) q_18 side (-1) (-1) 0) := by rw [← hV_V_24]; exact hu_s
              refine lv_aload_n hx hb d_Ho_part_97 rfl (lv_at hl 1 rfl) ?_
              refine gf_Ho_14 hx hb hW hown hG hV hH_ho'V_24 d_Ho_part_98 ?_
              obtain ⟨Vm, eVm⟩ : ∃ z, z = V_24 := ⟨_, rfl⟩
              have lb2 : ((b.lab q_18 5001).lab q_22 5000).lb q_22 = 5000 := HA.lab_s
              have lb1 : ((b.lab q_18 5001).lab q_22 5000).lb q_18 = 5001 := (HA.lab_n ne_q_18_q_22).trans HA.lab_s
              have hH_V_19 : hsOk k V_19 (b.lab q_18 5001) σ := by rw [← hV_V_19]; exact hs_new hH hn_q_18
              have hF_V_19 : hsFr b (b.lab q_18 5001) V V_19 := by rw [← hV_V_19]; exact hsFr.tr (hsFr.rf (a := b) (V := V)) (hsFr_new hn_q_18)
              have lz_V_20 : (b.lab q_18 5001).lb q_18 = 5001 := HA.lab_s
              have hH_V_20 : hsOk k V_20 (b.lab q_18 5001) σ := by rw [← hV_V_20]; exact hs_tmp hH_V_19 (by rw [lz_V_20]; omega)
              have hF_V_20 : hsFr b (b.lab q_18 5001) V V_20 := by rw [← hV_V_20]; exact hsFr.tr hF_V_19 (hsFr_hu (by rw [lz_V_20]; omega))
              have hH_V_23 : hsOk k V_23 ((b.lab q_18 5001).lab q_22 5000) σ := by rw [← hV_V_23]; exact hs_new hH_V_20 hn_q_22
              have hF_V_23 : hsFr b ((b.lab q_18 5001).lab q_22 5000) V V_23 := by rw [← hV_V_23]; exact hsFr.tr hF_V_20 (hsFr_new hn_q_22)
              have hH_V_24 : hsOk k V_24 ((b.lab q_18 5001).lab q_22 5000) σ := by rw [← hV_V_24]; exact hs_tmp hH_V_23 (by rw [lb2]; omega)
              have hF_V_24 : hsFr b ((b.lab q_18 5001).lab q_22 5000) V V_24 := by rw [← hV_V_24]; exact hsFr.tr hF_V_23 (hsFr_hu (by rw [lb2]; omega))
              have hHm := hH_V_24
              have hFm := hF_V_24
              refine rc_I (va_runV (As := [.ref q_22, .ref b.bo]) (rest := []) ⟨hx, hb, hml, hown, hts⟩ (c_Ho_make l D N0 k V_24 ((b.lab q_18 5001).lab q_22 5000) σ hHm q_22 q_18 (mkR 2 (σ.G 2) side (-1) (-1) x y (x + (pw - 1)) (y + (ph - 1))) hq_22'V_24 hq_18'V_24 b.bo 0 0 31 23 hH_bo'V_24 2 rfl (by omega) (by omega) (fiN 2 + gN σ 2) (fun hz => slot_free hW0 (by omega) (by omega) hz) lb2 lb1) (cwV 2 hts (gi_V wm_Ho_93 wv_Ho_make ws_Ho_make wi_Ho wc_Ho_make) rfl rfl rfl (by decide +kernel) ⟨Nat.le_of_ble_eq_true rfl, Nat.le_of_ble_eq_true rfl⟩) (mP.preV hG hS hV hH_ho'V_24 rfl) rfl rfl hl.1 rfl (lv_room (Nat.le_of_ble_eq_true rfl)) d_Ho_part_101 ⟨Nat.le_of_ble_eq_true rfl, Nat.le_of_ble_eq_true rfl⟩) hS (fun r_26 V_27 H locs hp_28 hV hS => ?_)
              have hfin := mk_post hW0 (bm := ((b.lab q_18 5001).lab q_22 5000)) (K := 2) (R := (mkR 2 (σ.G 2) side (-1) (-1) x y (x + (pw - 1)) (y + (ph - 1)))) rfl rfl rfl hFm (by omega) (by omega) rfl rfl hp_28
              exact W.iret (v := r_26) hx hb hr (fun t9 ht hW => ⟨⟨r_26, V_27, rfl, hfin, mB_of ht hV⟩, hS.F ht⟩) hS.2.2 d_Ho_part_104
            · exact absurd hok (by simp [ptOk, c_1, c_2, c_3, c_4, c_5, c_17])
        · exact absurd hok (by simp [ptOk, c_1, c_2, c_3, c_4])
set_option maxHeartbeats 4000000 in
set_option maxRecDepth 100000 in
/-- part: no such size or side -/
theorem t_Ho_part (l : Launch) (hls : l.stackTraces = false) (D : va_G) (N0 : Nat) (k : Nat → Nat) (V : HV) (b : HA) (σ : HS) (hH : hsOk k V b σ) (pw ph x y side : Int32) (hok : ptOk pw ph side = false) : hx_Met l y_Ho_part (.code y_Ho_part b_Ho_part 7 (some .int) :: WS) ({ frames := 6, cells := 1, slots := 6, locals := 118 }) (mP D N0 k [.ref b.ho, .int pw, .int ph, .int x, .int y, .int side] V) "java/lang/IllegalArgumentException" (fun H9 => hv D vwCl N0 V H9) N0 1 6 := by
  refine hx_ofW (cc := b_Ho_part) (maxL := 7) (ret := (some .int)) (by decide) rfl ?_
  intro p e s m args below meth c s₁ B hml hno hv0
  obtain ⟨rfl, hG, hV⟩ := hv0
  have hx := B.exec
  have hb := B.bytes
  have hr := B.returns
  have hts := atoms_spec (ws := .code y_Ho_part b_Ho_part 7 (some .int) :: WS) B.pre
  have hW : ∀ w ∈ WS, w.before _ s = true := fun w h => hts w (List.mem_cons_of_mem _ h)
  have hown : s.vm.findClass "BoardHouse" = some m.cls := findClass_of_methodNamed B.named
  have hlocks := B.notSynchronized
  have hS : va_S (hA N0) s.heap s.heap [] := va_S.rf
  have hl := lv_entry ([.ref b.ho, .int pw, .int ph, .int x, .int y, .int side]) (n := 7) (Nat.le_of_ble_eq_true rfl)
  rw [lg_entry_eq]
  generalize (lg_sl ([.ref b.ho, .int pw, .int ph, .int x, .int y, .int side]) ++ List.replicate (7 - (lg_sl ([.ref b.ho, .int pw, .int ph, .int x, .int y, .int side])).length) Slot.unset).toArray = ls at hl ⊢
  have hl : lv_has ls 7 [(0, .ref b.ho), (1, .int pw), (2, .int ph), (3, .int x), (4, .int y), (5, .int side)] := hl
  refine lv_iload_n hx hb d_Ho_part_0 rfl (lv_at hl 1 rfl) ?_
  refine lv_iconst (v := 1) hx hb d_Ho_part_1 (by decide) ?_
  refine lv_icmp_lt (tgt := 22) hx hb d_Ho_part_2 (by decide) (fun c_1 => ?_) (fun c_1 => ?_)
  · have c_1 := i_nle c_1
    obtain ⟨sa, hstr⟩ := hG.2.2.2.2.2.2.2.2 (81, "a part has 1 to 8 cells along x and along y") (by decide)
    exact hx_throwS (own := "BoardHouse") (cls := "java/lang/IllegalArgumentException") (text := "a part has 1 to 8 cells along x and along y") (names := xN) (ik := 79) (is := 81) (ic := 83) hx hb hls hown (by decide +kernel) (by decide +kernel) (hW _ wk_Ho_79) (hW _ wi_JG) hstr (own_of hW hG own_G) (by rw [hml]; exact hl.1) d_Ho_part_22 d_Ho_part_25 d_Ho_part_26 d_Ho_part_28 d_Ho_part_31 hno (Nat.le_of_ble_eq_true rfl) (Nat.le_of_ble_eq_true rfl) (Nat.le_of_ble_eq_true rfl) (Nat.le_of_ble_eq_true rfl) hlocks (fun H9 h91 h92 => hv.keep hV h92)
  · have c_1 := i_le c_1
    refine lv_iload_n hx hb d_Ho_part_5 rfl (lv_at hl 1 rfl) ?_
    refine lv_bipush (v := 8) hx hb d_Ho_part_6 (by decide) ?_
    refine lv_icmp_gt (tgt := 22) hx hb d_Ho_part_8 (by decide) (fun c_2 => ?_) (fun c_2 => ?_)
    · have c_2 := i_nle c_2
      obtain ⟨sa, hstr⟩ := hG.2.2.2.2.2.2.2.2 (81, "a part has 1 to 8 cells along x and along y") (by decide)
      exact hx_throwS (own := "BoardHouse") (cls := "java/lang/IllegalArgumentException") (text := "a part has 1 to 8 cells along x and along y") (names := xN) (ik := 79) (is := 81) (ic := 83) hx hb hls hown (by decide +kernel) (by decide +kernel) (hW _ wk_Ho_79) (hW _ wi_JG) hstr (own_of hW hG own_G) (by rw [hml]; exact hl.1) d_Ho_part_22 d_Ho_part_25 d_Ho_part_26 d_Ho_part_28 d_Ho_part_31 hno (Nat.le_of_ble_eq_true rfl) (Nat.le_of_ble_eq_true rfl) (Nat.le_of_ble_eq_true rfl) (Nat.le_of_ble_eq_true rfl) hlocks (fun H9 h91 h92 => hv.keep hV h92)
    · have c_2 := i_le c_2
      refine lv_iload_n hx hb d_Ho_part_11 rfl (lv_at hl 2 rfl) ?_
      refine lv_iconst (v := 1) hx hb d_Ho_part_12 (by decide) ?_
      refine lv_icmp_lt (tgt := 22) hx hb d_Ho_part_13 (by decide) (fun c_3 => ?_) (fun c_3 => ?_)
      · have c_3 := i_nle c_3
        obtain ⟨sa, hstr⟩ := hG.2.2.2.2.2.2.2.2 (81, "a part has 1 to 8 cells along x and along y") (by decide)
        exact hx_throwS (own := "BoardHouse") (cls := "java/lang/IllegalArgumentException") (text := "a part has 1 to 8 cells along x and along y") (names := xN) (ik := 79) (is := 81) (ic := 83) hx hb hls hown (by decide +kernel) (by decide +kernel) (hW _ wk_Ho_79) (hW _ wi_JG) hstr (own_of hW hG own_G) (by rw [hml]; exact hl.1) d_Ho_part_22 d_Ho_part_25 d_Ho_part_26 d_Ho_part_28 d_Ho_part_31 hno (Nat.le_of_ble_eq_true rfl) (Nat.le_of_ble_eq_true rfl) (Nat.le_of_ble_eq_true rfl) (Nat.le_of_ble_eq_true rfl) hlocks (fun H9 h91 h92 => hv.keep hV h92)
      · have c_3 := i_le c_3
        refine lv_iload_n hx hb d_Ho_part_16 rfl (lv_at hl 2 rfl) ?_
        refine lv_bipush (v := 8) hx hb d_Ho_part_17 (by decide) ?_
        refine lv_icmp_le (tgt := 32) hx hb d_Ho_part_19 (by decide) (fun c_4 => ?_) (fun c_4 => ?_)
        · refine lv_iload hx hb d_Ho_part_32 (lv_at hl 5 rfl) ?_
          refine lv_if_eq (tgt := 53) hx hb d_Ho_part_34 (by decide) (fun c_5 => ?_) (fun c_5 => ?_)
          · exact absurd hok (by simp [ptOk, c_1, c_2, c_3, c_4, c_5])
          · refine lv_iload hx hb d_Ho_part_37 (lv_at hl 5 rfl) ?_
            refine lv_iconst (v := 1) hx hb d_Ho_part_39 (by decide) ?_
            refine lv_icmp_eq (tgt := 53) hx hb d_Ho_part_40 (by decide) (fun c_6 => ?_) (fun c_6 => ?_)
            · exact absurd hok (by simp [ptOk, c_1, c_2, c_3, c_4, c_5, c_6])
            · obtain ⟨sa, hstr⟩ := hG.2.2.2.2.2.2.2.2 (86, "a side is 0 or 1") (by decide)
              exact hx_throwS (own := "BoardHouse") (cls := "java/lang/IllegalArgumentException") (text := "a side is 0 or 1") (names := xN) (ik := 79) (is := 86) (ic := 83) hx hb hls hown (by decide +kernel) (by decide +kernel) (hW _ wk_Ho_79) (hW _ wi_JG) hstr (own_of hW hG own_G) (by rw [hml]; exact hl.1) d_Ho_part_43 d_Ho_part_46 d_Ho_part_47 d_Ho_part_49 d_Ho_part_52 hno (Nat.le_of_ble_eq_true rfl) (Nat.le_of_ble_eq_true rfl) (Nat.le_of_ble_eq_true rfl) (Nat.le_of_ble_eq_true rfl) hlocks (fun H9 h91 h92 => hv.keep hV h92)
        · obtain ⟨sa, hstr⟩ := hG.2.2.2.2.2.2.2.2 (81, "a part has 1 to 8 cells along x and along y") (by decide)
          exact hx_throwS (own := "BoardHouse") (cls := "java/lang/IllegalArgumentException") (text := "a part has 1 to 8 cells along x and along y") (names := xN) (ik := 79) (is := 81) (ic := 83) hx hb hls hown (by decide +kernel) (by decide +kernel) (hW _ wk_Ho_79) (hW _ wi_JG) hstr (own_of hW hG own_G) (by rw [hml]; exact hl.1) d_Ho_part_22 d_Ho_part_25 d_Ho_part_26 d_Ho_part_28 d_Ho_part_31 hno (Nat.le_of_ble_eq_true rfl) (Nat.le_of_ble_eq_true rfl) (Nat.le_of_ble_eq_true rfl) (Nat.le_of_ble_eq_true rfl) hlocks (fun H9 h91 h92 => hv.keep hV h92)
set_option maxHeartbeats 4000000 in
set_option maxRecDepth 100000 in
/-- track -/
theorem c_Ho_track (l : Launch) (D : va_G) (N0 : Nat) (k : Nat → Nat) (V : HV) (b : HA) (σ : HS) (hW0 : hsW k V b σ) (net la x0 y0 x1 y1 : Int32) (hg : gvOk σ.G net = true) (hla : (decide (0 ≤ la) && !decide (nI σ.nl ≤ la)) = true) (hk1 : net / 1000 = 1) (hok : (decide (x0 = x1) || decide (y0 = y1)) = true) : Met l y_Ho_track (.code y_Ho_track b_Ho_track 8 (some .int) :: WS) ({ frames := 7, cells := 2, slots := 11, locals := 118 }) (mP D N0 k [.ref b.ho, .int net, .int la, .int x0, .int y0, .int x1, .int y1] V) (va_Qi (fun r V' => ∃ b', hsW k V' b' (mkP σ 4 (mkR 4 (σ.G 4) la net (-1) (if x1 < x0 then x1 else x0) (if y1 < y0 then y1 else y0) (if x0 < x1 then x1 else x0) (if y0 < y1 then y1 else y0)) 0 0 31 23).2 ∧ hsFr b b' V V' ∧ r = (mkP σ 4 (mkR 4 (σ.G 4) la net (-1) (if x1 < x0 then x1 else x0) (if y1 < y0 then y1 else y0) (if x0 < x1 then x1 else x0) (if y0 < y1 then y1 else y0)) 0 0 31 23).1) (mB D N0) (hA N0)) 2 11 (hA N0) := by
  refine Met.ofW (cc := b_Ho_track) (maxL := 8) (ret := (some .int)) (by decide) rfl ?_
  intro p e s m args below meth c s₁ B hml hv0
  obtain ⟨rfl, hG, hV⟩ := hv0
  have hx := B.exec
  have hb := B.bytes
  have hr := B.returns
  have hts := atoms_spec (ws := .code y_Ho_track b_Ho_track 8 (some .int) :: WS) B.pre
  have hW : ∀ w ∈ WS, w.before _ s = true := fun w h => hts w (List.mem_cons_of_mem _ h)
  have hown : s.vm.findClass "BoardHouse" = some m.cls := findClass_of_methodNamed B.named
  have hlocks := B.notSynchronized
  have hS : va_S (hA N0) s.heap s.heap [] := va_S.rf
  have hl := lv_entry ([.ref b.ho, .int net, .int la, .int x0, .int y0, .int x1, .int y1]) (n := 8) (Nat.le_of_ble_eq_true rfl)
  rw [lg_entry_eq]
  generalize (lg_sl ([.ref b.ho, .int net, .int la, .int x0, .int y0, .int x1, .int y1]) ++ List.replicate (8 - (lg_sl ([.ref b.ho, .int net, .int la, .int x0, .int y0, .int x1, .int y1])).length) Slot.unset).toArray = ls at hl ⊢
  have hl : lv_has ls 8 [(0, .ref b.ho), (1, .int net), (2, .int la), (3, .int x0), (4, .int y0), (5, .int x1), (6, .int y1)] := hl
  have hH := hW0.1
  refine lv_aload_n hx hb d_Ho_track_0 rfl (lv_at hl 0 rfl) ?_
  refine lv_iload_n hx hb d_Ho_track_1 rfl (lv_at hl 1 rfl) ?_
  refine va_csv (va_Run.run (va_runV (As := [.int net]) (rest := []) ⟨hx, hb, hml, hown, hts⟩ (r_Ho_demandGiven l D N0 k V b.ho b.bo b.gi b.co b.ta b.ac b.ve (woA b σ.wo) (nI σ.nl) σ.rs hH.ho σ.G hH.gi net hg) (cwV 1 hts (gi_V wm_Ho_97 wv_Ho_demandGiven ws_Ho_demandGiven wi_Ho wc_Ho_demandGiven) rfl rfl rfl (by decide +kernel) ⟨Nat.le_of_ble_eq_true rfl, Nat.le_of_ble_eq_true rfl⟩) (mP.preV hG hS hV hH.ho rfl) rfl rfl hl.1 rfl (lv_room (Nat.le_of_ble_eq_true rfl)) d_Ho_track_2 ⟨Nat.le_of_ble_eq_true rfl, Nat.le_of_ble_eq_true rfl⟩)) (fun _ => ?_)
  refine lv_aload_n hx hb d_Ho_track_5 rfl (lv_at hl 0 rfl) ?_
  refine lv_iload_n hx hb d_Ho_track_6 rfl (lv_at hl 2 rfl) ?_
  refine va_csv (va_Run.run (va_runV (As := [.int la]) (rest := []) ⟨hx, hb, hml, hown, hts⟩ (r_Ho_demandLayer l D N0 k V b.ho b.bo b.gi b.co b.ta b.ac b.ve (woA b σ.wo) (nI σ.nl) σ.rs hH.ho σ.G hH.gi la hla) (cwV 1 hts (gi_V wm_Ho_121 wv_Ho_demandLayer ws_Ho_demandLayer wi_Ho wc_Ho_demandLayer) rfl rfl rfl (by decide +kernel) ⟨Nat.le_of_ble_eq_true rfl, Nat.le_of_ble_eq_true rfl⟩) (mP.preV hG hS hV hH.ho rfl) rfl rfl hl.1 rfl (lv_room (Nat.le_of_ble_eq_true rfl)) d_Ho_track_7 ⟨Nat.le_of_ble_eq_true rfl, Nat.le_of_ble_eq_true rfl⟩)) (fun _ => ?_)
  refine lv_iload_n hx hb d_Ho_track_10 rfl (lv_at hl 1 rfl) ?_
  refine lv_iconst (v := 1) hx hb d_Ho_track_11 (by decide) ?_
  refine va_csv (va_Run.run (va_runS (As := [.int net, .int 1]) (rest := []) ⟨hx, hb, hml, hown, hts⟩ (r_Ho_demandKind l D N0 k V net 1 hk1) (va_cwS 2 hts (gi_S wm_Ho_101 wt_Ho_demandKind wi_Ho wc_Ho_demandKind) rfl rfl rfl (by decide +kernel) ⟨Nat.le_of_ble_eq_true rfl, Nat.le_of_ble_eq_true rfl⟩) (mP.preS hG hS hV) rfl rfl hl.1 rfl (lv_room (Nat.le_of_ble_eq_true rfl)) d_Ho_track_12 ⟨Nat.le_of_ble_eq_true rfl, Nat.le_of_ble_eq_true rfl⟩)) (fun _ => ?_)
  refine lv_iload_n hx hb d_Ho_track_15 rfl (lv_at hl 3 rfl) ?_
  refine lv_iload hx hb d_Ho_track_16 (lv_at hl 5 rfl) ?_
  refine lv_icmp_eq (tgt := 38) hx hb d_Ho_track_18 (by decide) (fun c_1 => ?_) (fun c_1 => ?_)
  · refine hv_new (ci := 1) (fs := [.int 0, .int 0, .int 0, .int 0]) (C := R_Ar) (T := T_Ar) (N := 4) hx hb hW in_Ar t_Ar ty_Ar hown (hW _ wk_Ho_9) (hW _ wo_Ar) (hW _ wi_Ar) hG.K hV hS rfl (fun j hj => by rcases (show j = 0 ∨ j = 1 ∨ j = 2 ∨ j = 3 by omega) with rfl | rfl | rfl | rfl <;> rfl) (Nat.le_of_ble_eq_true rfl) (Nat.le_of_ble_eq_true rfl) hG.N d_Ho_track_38 (fun q_2 H hn_q_2 hN_q_2 hV hS => ?_)
    have ne_bho_q_2 : b.ho ≠ q_2 := fun z => by rw [← z, hH.ho] at hn_q_2; cases hn_q_2
    have ne_bbo_q_2 : b.bo ≠ q_2 := fun z => by rw [← z, hH.bo] at hn_q_2; cases hn_q_2
    have ne_bgi_q_2 : b.gi ≠ q_2 := fun z => by rw [← z, hH.gi] at hn_q_2; cases hn_q_2
    have ne_bco_q_2 : b.co ≠ q_2 := fun z => by rw [← z, hH.co] at hn_q_2; cases hn_q_2
    have ne_bta_q_2 : b.ta ≠ q_2 := fun z => by rw [← z, hH.ts.1] at hn_q_2; cases hn_q_2
    have ne_bac_q_2 : b.ac ≠ q_2 := fun z => by rw [← z, hH.ac.1] at hn_q_2; cases hn_q_2
    have ne_bve_q_2 : b.ve ≠ q_2 := fun z => by rw [← z, hH.ve] at hn_q_2; cases hn_q_2
    replace hV : hv D vwCl N0 (hu V q_2 (.inr (1, [.int 0, .int 0, .int 0, .int 0]))) H := hV
    generalize hV_V_3 : hu V q_2 (.inr (1, [.int 0, .int 0, .int 0, .int 0])) = V_3 at hV
    have hH_ho'V_3 : V_3 b.ho = some (.inr (6, [.int (nI σ.nl), .ref b.bo, .ref b.gi, .ref b.co, .ref b.ta, .ref b.ac, .ref b.ve, va_rf (woA b σ.wo), .int σ.rs])) := by rw [← hV_V_3, hu_n ne_bho_q_2]; exact hH.ho
    have hH_bo'V_3 : V_3 b.bo = some (.inr (1, [.int 0, .int 0, .int 31, .int 23])) := by rw [← hV_V_3, hu_n ne_bbo_q_2]; exact hH.bo
    have hH_gi'V_3 : V_3 b.gi = some (eI k 8 σ.G) := by rw [← hV_V_3, hu_n ne_bgi_q_2]; exact hH.gi
    have hH_co'V_3 : V_3 b.co = some (.inr (2, [.ref b.ta, .int (nI σ.nl), .ref b.ro, .ref b.on, .ref b.re, .int σ.g])) := by rw [← hV_V_3, hu_n ne_bco_q_2]; exact hH.co
    have hH_ts_1'V_3 : V_3 b.ta = some (eTs k b.f) := by rw [← hV_V_3, hu_n ne_bta_q_2]; exact hH.ts.1
    have hH_ac_1'V_3 : V_3 b.ac = some (eAs k b.fa) := by rw [← hV_V_3, hu_n ne_bac_q_2]; exact hH.ac.1
    have hH_ve'V_3 : V_3 b.ve = some (eVs k b.fv) := by rw [← hV_V_3, hu_n ne_bve_q_2]; exact hH.ve
    have hq_2'V_3 : V_3 q_2 = some (.inr (1, [.int 0, .int 0, .int 0, .int 0])) := by rw [← hV_V_3]; exact hu_s
    refine lv_dup hx hb d_Ho_track_41 rfl ?_
    refine lv_iload_n hx hb d_Ho_track_42 rfl (lv_at hl 3 rfl) ?_
    refine lv_iload hx hb d_Ho_track_43 (lv_at hl 5 rfl) ?_
    refine va_mmin hx hb (by rw [hml, hl.1]) hown (hW _ wm_Ho_45) (hW _ wt_JM_min) (hW _ wi_JM) (hW _ wc_JM_min) (Nat.le_of_ble_eq_true rfl) (Nat.le_of_ble_eq_true rfl) (Nat.le_of_ble_eq_true rfl) (Nat.le_of_ble_eq_true rfl) d_Ho_track_45 ?_
    refine lv_topi (fun z_4 ez_4 => ?_)
    refine lv_iload hx hb d_Ho_track_48 (lv_at hl 4 rfl) ?_
    refine lv_iload hx hb d_Ho_track_50 (lv_at hl 6 rfl) ?_
    refine va_mmin hx hb (by rw [hml, hl.1]) hown (hW _ wm_Ho_45) (hW _ wt_JM_min) (hW _ wi_JM) (hW _ wc_JM_min) (Nat.le_of_ble_eq_true rfl) (Nat.le_of_ble_eq_true rfl) (Nat.le_of_ble_eq_true rfl) (Nat.le_of_ble_eq_true rfl) d_Ho_track_52 ?_
    refine lv_topi (fun z_5 ez_5 => ?_)
    refine lv_iload_n hx hb d_Ho_track_55 rfl (lv_at hl 3 rfl) ?_
    refine lv_iload hx hb d_Ho_track_56 (lv_at hl 5 rfl) ?_
    refine va_mmax hx hb (by rw [hml, hl.1]) hown (hW _ wm_Ho_51) (hW _ wt_JM_max) (hW _ wi_JM) (hW _ wc_JM_max) (Nat.le_of_ble_eq_true rfl) (Nat.le_of_ble_eq_true rfl) (Nat.le_of_ble_eq_true rfl) (Nat.le_of_ble_eq_true rfl) d_Ho_track_58 ?_
    refine lv_topi (fun z_6 ez_6 => ?_)
    refine lv_iload hx hb d_Ho_track_61 (lv_at hl 4 rfl) ?_
    refine lv_iload hx hb d_Ho_track_63 (lv_at hl 6 rfl) ?_
    refine va_mmax hx hb (by rw [hml, hl.1]) hown (hW _ wm_Ho_51) (hW _ wt_JM_max) (hW _ wi_JM) (hW _ wc_JM_max) (Nat.le_of_ble_eq_true rfl) (Nat.le_of_ble_eq_true rfl) (Nat.le_of_ble_eq_true rfl) (Nat.le_of_ble_eq_true rfl) d_Ho_track_65 ?_
    refine lv_topi (fun z_7 ez_7 => ?_)
    refine rc_V (va_runI (As := [.int z_4, .int z_5, .int z_6, .int z_7]) (rest := [.ref q_2]) ⟨hx, hb, hml, hown, hts⟩ (c_Ar_init l D N0 k V_3 q_2 z_4 z_5 z_6 z_7 0 0 0 0 hq_2'V_3) (cwI 4 hts (gi_c wc_Ar_init) rfl rfl rfl (hW _ wi_Ar) (hW _ wm_Ho_11) (hW _ wv_Ar_init) rfl (by decide +kernel) ⟨Nat.le_of_ble_eq_true rfl, Nat.le_of_ble_eq_true rfl⟩) (mP.preS hG hS hV) rfl rfl hl.1 rfl (lv_room (Nat.le_of_ble_eq_true rfl)) d_Ho_track_68 ⟨Nat.le_of_ble_eq_true rfl, Nat.le_of_ble_eq_true rfl⟩) hS (fun V_8 H locs hp_9 hV hS => ?_)
    have hV_V_8 := hp_9.symm
    have hH_ho'V_8 : V_8 b.ho = some (.inr (6, [.int (nI σ.nl), .ref b.bo, .ref b.gi, .ref b.co, .ref b.ta, .ref b.ac, .ref b.ve, va_rf (woA b σ.wo), .int σ.rs])) := by rw [← hV_V_8, hu_n ne_bho_q_2]; exact hH_ho'V_3
    have hH_bo'V_8 : V_8 b.bo = some (.inr (1, [.int 0, .int 0, .int 31, .int 23])) := by rw [← hV_V_8, hu_n ne_bbo_q_2]; exact hH_bo'V_3
    have hH_gi'V_8 : V_8 b.gi = some (eI k 8 σ.G) := by rw [← hV_V_8, hu_n ne_bgi_q_2]; exact hH_gi'V_3
    have hH_co'V_8 : V_8 b.co = some (.inr (2, [.ref b.ta, .int (nI σ.nl), .ref b.ro, .ref b.on, .ref b.re, .int σ.g])) := by rw [← hV_V_8, hu_n ne_bco_q_2]; exact hH_co'V_3
    have hH_ts_1'V_8 : V_8 b.ta = some (eTs k b.f) := by rw [← hV_V_8, hu_n ne_bta_q_2]; exact hH_ts_1'V_3
    have hH_ac_1'V_8 : V_8 b.ac = some (eAs k b.fa) := by rw [← hV_V_8, hu_n ne_bac_q_2]; exact hH_ac_1'V_3
    have hH_ve'V_8 : V_8 b.ve = some (eVs k b.fv) := by rw [← hV_V_8, hu_n ne_bve_q_2]; exact hH_ve'V_3
    have hq_2'V_8 : V_8 q_2 = some (eAr z_4 z_5 z_6 z_7) := by rw [← hV_V_8]; exact hu_s
    refine lv_astore (lv' := [(7, .ref q_2), (0, .ref b.ho), (1, .int net), (2, .int la), (3, .int x0), (4, .int y0), (5, .int x1), (6, .int y1)]) hx hb d_Ho_track_71 hl (by decide) rfl (fun ls hl => ?_)
    refine lv_aload_n hx hb d_Ho_track_73 rfl (lv_at hl 1 rfl) ?_
    refine hv_new (ci := 5) (fs := [.int 0, .int 0, .null, .int 0, .int 0, .int 0, .int 0]) (C := R_Th) (T := T_Th) (N := 7) hx hb hW in_Th t_Th ty_Th hown (hW _ wk_Ho_88) (hW _ wo_Th) (hW _ wi_Th) hG.K hV hS rfl (fun j hj => by rcases (show j = 0 ∨ j = 1 ∨ j = 2 ∨ j = 3 ∨ j = 4 ∨ j = 5 ∨ j = 6 by omega) with rfl | rfl | rfl | rfl | rfl | rfl | rfl <;> rfl) (Nat.le_of_ble_eq_true rfl) (Nat.le_of_ble_eq_true rfl) hG.N d_Ho_track_74 (fun q_10 H hn_q_10 hN_q_10 hV hS => ?_)
    have ne_bho_q_10 : b.ho ≠ q_10 := fun z => by rw [← z, hH_ho'V_8] at hn_q_10; cases hn_q_10
    have ne_bbo_q_10 : b.bo ≠ q_10 := fun z => by rw [← z, hH_bo'V_8] at hn_q_10; cases hn_q_10
    have ne_bgi_q_10 : b.gi ≠ q_10 := fun z => by rw [← z, hH_gi'V_8] at hn_q_10; cases hn_q_10
    have ne_bco_q_10 : b.co ≠ q_10 := fun z => by rw [← z, hH_co'V_8] at hn_q_10; cases hn_q_10
    have ne_bta_q_10 : b.ta ≠ q_10 := fun z => by rw [← z, hH_ts_1'V_8] at hn_q_10; cases hn_q_10
    have ne_bac_q_10 : b.ac ≠ q_10 := fun z => by rw [← z, hH_ac_1'V_8] at hn_q_10; cases hn_q_10
    have ne_bve_q_10 : b.ve ≠ q_10 := fun z => by rw [← z, hH_ve'V_8] at hn_q_10; cases hn_q_10
    have ne_q_2_q_10 : q_2 ≠ q_10 := fun z => by rw [← z, hq_2'V_8] at hn_q_10; cases hn_q_10
    replace hV : hv D vwCl N0 (hu V_8 q_10 (.inr (5, [.int 0, .int 0, .null, .int 0, .int 0, .int 0, .int 0]))) H := hV
    generalize hV_V_11 : hu V_8 q_10 (.inr (5, [.int 0, .int 0, .null, .int 0, .int 0, .int 0, .int 0])) = V_11 at hV
    have hH_ho'V_11 : V_11 b.ho = some (.inr (6, [.int (nI σ.nl), .ref b.bo, .ref b.gi, .ref b.co, .ref b.ta, .ref b.ac, .ref b.ve, va_rf (woA b σ.wo), .int σ.rs])) := by rw [← hV_V_11, hu_n ne_bho_q_10]; exact hH_ho'V_8
    have hH_bo'V_11 : V_11 b.bo = some (.inr (1, [.int 0, .int 0, .int 31, .int 23])) := by rw [← hV_V_11, hu_n ne_bbo_q_10]; exact hH_bo'V_8
    have hH_gi'V_11 : V_11 b.gi = some (eI k 8 σ.G) := by rw [← hV_V_11, hu_n ne_bgi_q_10]; exact hH_gi'V_8
    have hH_co'V_11 : V_11 b.co = some (.inr (2, [.ref b.ta, .int (nI σ.nl), .ref b.ro, .ref b.on, .ref b.re, .int σ.g])) := by rw [← hV_V_11, hu_n ne_bco_q_10]; exact hH_co'V_8
    have hH_ts_1'V_11 : V_11 b.ta = some (eTs k b.f) := by rw [← hV_V_11, hu_n ne_bta_q_10]; exact hH_ts_1'V_8
    have hH_ac_1'V_11 : V_11 b.ac = some (eAs k b.fa) := by rw [← hV_V_11, hu_n ne_bac_q_10]; exact hH_ac_1'V_8
    have hH_ve'V_11 : V_11 b.ve = some (eVs k b.fv) := by rw [← hV_V_11, hu_n ne_bve_q_10]; exact hH_ve'V_8
    have hq_2'V_11 : V_11 q_2 = some (.inr (1, [.int z_4, .int z_5, .int z_6, .int z_7])) := by rw [← hV_V_11, hu_n ne_q_2_q_10]; exact hq_2'V_8
    have hq_10'V_11 : V_11 q_10 = some (.inr (5, [.int 0, .int 0, .null, .int 0, .int 0, .int 0, .int 0])) := by rw [← hV_V_11]; exact hu_s
    refine lv_dup hx hb d_Ho_track_77 rfl ?_
    refine lv_iconst (v := 4) hx hb d_Ho_track_78 (by decide) ?_
    refine lv_aload_n hx hb d_Ho_track_79 rfl (lv_at hl 1 rfl) ?_
    refine gf_Ho_18 hx hb hW hown hG hV hH_ho'V_11 d_Ho_track_80 ?_
    refine lv_iconst (v := 4) hx hb d_Ho_track_83 (by decide) ?_
    refine hv_iald hx hb hG.K hV 0 hH_gi'V_11 rfl ((vp_in_nI (by omega) (by omega) : vp_in (nI 4) 8)) d_Ho_track_84 ?_
    rw [show (4 : Int32).toNatClampNeg = 4 from rfl]
    refine lv_aload hx hb d_Ho_track_85 (lv_at hl 0 rfl) ?_
    refine lv_iload_n hx hb d_Ho_track_87 rfl (lv_at hl 3 rfl) ?_
    refine lv_iload_n hx hb d_Ho_track_88 rfl (lv_at hl 2 rfl) ?_
    refine lv_iconst (v := (-1)) hx hb d_Ho_track_89 (by decide) ?_
    refine rc_V (va_runI (As := [.int 4, .int (σ.G 4), .ref q_2, .int la, .int net, .int (-1)]) (rest := [.ref q_10, .ref b.ho]) ⟨hx, hb, hml, hown, hts⟩ (c_Th_init l D N0 k V_11 q_10 q_2 4 (σ.G 4) la net (-1) hq_10'V_11) (cwI 6 hts (gi_c wc_Th_init) rfl rfl rfl (hW _ wi_Th) (hW _ wm_Ho_90) (hW _ wv_Th_init) rfl (by decide +kernel) ⟨Nat.le_of_ble_eq_true rfl, Nat.le_of_ble_eq_true rfl⟩) (mP.preS hG hS hV) rfl rfl hl.1 rfl (lv_room (Nat.le_of_ble_eq_true rfl)) d_Ho_track_90 ⟨Nat.le_of_ble_eq_true rfl, Nat.le_of_ble_eq_true rfl⟩) hS (fun V_12 H locs hp_13 hV hS => ?_)
    have hV_V_12 := hp_13.symm
    have hH_ho'V_12 : V_12 b.ho = some (.inr (6, [.int (nI σ.nl), .ref b.bo, .ref b.gi, .ref b.co, .ref b.ta, .ref b.ac, .ref b.ve, va_rf (woA b σ.wo), .int σ.rs])) := by rw [← hV_V_12, hu_n ne_bho_q_10]; exact hH_ho'V_11
    have hH_bo'V_12 : V_12 b.bo = some (.inr (1, [.int 0, .int 0, .int 31, .int 23])) := by rw [← hV_V_12, hu_n ne_bbo_q_10]; exact hH_bo'V_11
    have hH_gi'V_12 : V_12 b.gi = some (eI k 8 σ.G) := by rw [← hV_V_12, hu_n ne_bgi_q_10]; exact hH_gi'V_11
    have hH_co'V_12 : V_12 b.co = some (.inr (2, [.ref b.ta, .int (nI σ.nl), .ref b.ro, .ref b.on, .ref b.re, .int σ.g])) := by rw [← hV_V_12, hu_n ne_bco_q_10]; exact hH_co'V_11
    have hH_ts_1'V_12 : V_12 b.ta = some (eTs k b.f) := by rw [← hV_V_12, hu_n ne_bta_q_10]; exact hH_ts_1'V_11
    have hH_ac_1'V_12 : V_12 b.ac = some (eAs k b.fa) := by rw [← hV_V_12, hu_n ne_bac_q_10]; exact hH_ac_1'V_11
    have hH_ve'V_12 : V_12 b.ve = some (eVs k b.fv) := by rw [← hV_V_12, hu_n ne_bve_q_10]; exact hH_ve'V_11
    have hq_2'V_12 : V_12 q_2 = some (.inr (1, [.int z_4, .int z_5, .int z_6, .int z_7])) := by rw [← hV_V_12, hu_n ne_q_2_q_10]; exact hq_2'V_11
    have hq_10'V_12 : V_12 q_10 = some (eTh 4 (σ.G 4) q_2 la net (-1) 0) := by rw [← hV_V_12]; exact hu_s
    refine lv_aload_n hx hb d_Ho_track_93 rfl (lv_at hl 1 rfl) ?_
    refine gf_Ho_14 hx hb hW hown hG hV hH_ho'V_12 d_Ho_track_94 ?_
    obtain ⟨Vm, eVm⟩ : ∃ z, z = V_12 := ⟨_, rfl⟩
    have lb2 : ((b.lab q_2 5001).lab q_10 5000).lb q_10 = 5000 := HA.lab_s
    have lb1 : ((b.lab q_2 5001).lab q_10 5000).lb q_2 = 5001 := (HA.lab_n ne_q_2_q_10).trans HA.lab_s
    have hH_V_3 : hsOk k V_3 (b.lab q_2 5001) σ := by rw [← hV_V_3]; exact hs_new hH hn_q_2
    have hF_V_3 : hsFr b (b.lab q_2 5001) V V_3 := by rw [← hV_V_3]; exact hsFr.tr (hsFr.rf (a := b) (V := V)) (hsFr_new hn_q_2)
    have lz_V_8 : (b.lab q_2 5001).lb q_2 = 5001 := HA.lab_s
    have hH_V_8 : hsOk k V_8 (b.lab q_2 5001) σ := by rw [← hV_V_8]; exact hs_tmp hH_V_3 (by rw [lz_V_8]; omega)
    have hF_V_8 : hsFr b (b.lab q_2 5001) V V_8 := by rw [← hV_V_8]; exact hsFr.tr hF_V_3 (hsFr_hu (by rw [lz_V_8]; omega))
    have hH_V_11 : hsOk k V_11 ((b.lab q_2 5001).lab q_10 5000) σ := by rw [← hV_V_11]; exact hs_new hH_V_8 hn_q_10
    have hF_V_11 : hsFr b ((b.lab q_2 5001).lab q_10 5000) V V_11 := by rw [← hV_V_11]; exact hsFr.tr hF_V_8 (hsFr_new hn_q_10)
    have hH_V_12 : hsOk k V_12 ((b.lab q_2 5001).lab q_10 5000) σ := by rw [← hV_V_12]; exact hs_tmp hH_V_11 (by rw [lb2]; omega)
    have hF_V_12 : hsFr b ((b.lab q_2 5001).lab q_10 5000) V V_12 := by rw [← hV_V_12]; exact hsFr.tr hF_V_11 (hsFr_hu (by rw [lb2]; omega))
    have hHm := hH_V_12
    have hFm := hF_V_12
    refine rc_I (va_runV (As := [.ref q_10, .ref b.bo]) (rest := []) ⟨hx, hb, hml, hown, hts⟩ (c_Ho_make l D N0 k V_12 ((b.lab q_2 5001).lab q_10 5000) σ hHm q_10 q_2 (mkR 4 (σ.G 4) la net (-1) z_4 z_5 z_6 z_7) hq_10'V_12 hq_2'V_12 b.bo 0 0 31 23 hH_bo'V_12 4 rfl (by omega) (by omega) (fiN 4 + gN σ 4) (fun hz => slot_free hW0 (by omega) (by omega) hz) lb2 lb1) (cwV 2 hts (gi_V wm_Ho_93 wv_Ho_make ws_Ho_make wi_Ho wc_Ho_make) rfl rfl rfl (by decide +kernel) ⟨Nat.le_of_ble_eq_true rfl, Nat.le_of_ble_eq_true rfl⟩) (mP.preV hG hS hV hH_ho'V_12 rfl) rfl rfl hl.1 rfl (lv_room (Nat.le_of_ble_eq_true rfl)) d_Ho_track_97 ⟨Nat.le_of_ble_eq_true rfl, Nat.le_of_ble_eq_true rfl⟩) hS (fun r_14 V_15 H locs hp_16 hV hS => ?_)
    have hfin := mk_post hW0 (bm := ((b.lab q_2 5001).lab q_10 5000)) (K := 4) (R := (mkR 4 (σ.G 4) la net (-1) z_4 z_5 z_6 z_7)) rfl rfl rfl hFm (by omega) (by omega) rfl rfl hp_16
    subst ez_4 ez_5 ez_6 ez_7
    exact W.iret (v := r_14) hx hb hr (fun t9 ht hW => ⟨⟨r_14, V_15, rfl, hfin, mB_of ht hV⟩, hS.F ht⟩) hS.2.2 d_Ho_track_100
  · refine lv_iload hx hb d_Ho_track_21 (lv_at hl 4 rfl) ?_
    refine lv_iload hx hb d_Ho_track_23 (lv_at hl 6 rfl) ?_
    refine lv_icmp_eq (tgt := 38) hx hb d_Ho_track_25 (by decide) (fun c_17 => ?_) (fun c_17 => ?_)
    · refine hv_new (ci := 1) (fs := [.int 0, .int 0, .int 0, .int 0]) (C := R_Ar) (T := T_Ar) (N := 4) hx hb hW in_Ar t_Ar ty_Ar hown (hW _ wk_Ho_9) (hW _ wo_Ar) (hW _ wi_Ar) hG.K hV hS rfl (fun j hj => by rcases (show j = 0 ∨ j = 1 ∨ j = 2 ∨ j = 3 by omega) with rfl | rfl | rfl | rfl <;> rfl) (Nat.le_of_ble_eq_true rfl) (Nat.le_of_ble_eq_true rfl) hG.N d_Ho_track_38 (fun q_18 H hn_q_18 hN_q_18 hV hS => ?_)
      have ne_bho_q_18 : b.ho ≠ q_18 := fun z => by rw [← z, hH.ho] at hn_q_18; cases hn_q_18
      have ne_bbo_q_18 : b.bo ≠ q_18 := fun z => by rw [← z, hH.bo] at hn_q_18; cases hn_q_18
      have ne_bgi_q_18 : b.gi ≠ q_18 := fun z => by rw [← z, hH.gi] at hn_q_18; cases hn_q_18
      have ne_bco_q_18 : b.co ≠ q_18 := fun z => by rw [← z, hH.co] at hn_q_18; cases hn_q_18
      have ne_bta_q_18 : b.ta ≠ q_18 := fun z => by rw [← z, hH.ts.1] at hn_q_18; cases hn_q_18
      have ne_bac_q_18 : b.ac ≠ q_18 := fun z => by rw [← z, hH.ac.1] at hn_q_18; cases hn_q_18
      have ne_bve_q_18 : b.ve ≠ q_18 := fun z => by rw [← z, hH.ve] at hn_q_18; cases hn_q_18
      replace hV : hv D vwCl N0 (hu V q_18 (.inr (1, [.int 0, .int 0, .int 0, .int 0]))) H := hV
      generalize hV_V_19 : hu V q_18 (.inr (1, [.int 0, .int 0, .int 0, .int 0])) = V_19 at hV
      have hH_ho'V_19 : V_19 b.ho = some (.inr (6, [.int (nI σ.nl), .ref b.bo, .ref b.gi, .ref b.co, .ref b.ta, .ref b.ac, .ref b.ve, va_rf (woA b σ.wo), .int σ.rs])) := by rw [← hV_V_19, hu_n ne_bho_q_18]; exact hH.ho
      have hH_bo'V_19 : V_19 b.bo = some (.inr (1, [.int 0, .int 0, .int 31, .int 23])) := by rw [← hV_V_19, hu_n ne_bbo_q_18]; exact hH.bo
      have hH_gi'V_19 : V_19 b.gi = some (eI k 8 σ.G) := by rw [← hV_V_19, hu_n ne_bgi_q_18]; exact hH.gi
      have hH_co'V_19 : V_19 b.co = some (.inr (2, [.ref b.ta, .int (nI σ.nl), .ref b.ro, .ref b.on, .ref b.re, .int σ.g])) := by rw [← hV_V_19, hu_n ne_bco_q_18]; exact hH.co
      have hH_ts_1'V_19 : V_19 b.ta = some (eTs k b.f) := by rw [← hV_V_19, hu_n ne_bta_q_18]; exact hH.ts.1
      have hH_ac_1'V_19 : V_19 b.ac = some (eAs k b.fa) := by rw [← hV_V_19, hu_n ne_bac_q_18]; exact hH.ac.1
      have hH_ve'V_19 : V_19 b.ve = some (eVs k b.fv) := by rw [← hV_V_19, hu_n ne_bve_q_18]; exact hH.ve
      have hq_18'V_19 : V_19 q_18 = some (.inr (1, [.int 0, .int 0, .int 0, .int 0])) := by rw [← hV_V_19]; exact hu_s
      refine lv_dup hx hb d_Ho_track_41 rfl ?_
      refine lv_iload_n hx hb d_Ho_track_42 rfl (lv_at hl 3 rfl) ?_
      refine lv_iload hx hb d_Ho_track_43 (lv_at hl 5 rfl) ?_
      refine va_mmin hx hb (by rw [hml, hl.1]) hown (hW _ wm_Ho_45) (hW _ wt_JM_min) (hW _ wi_JM) (hW _ wc_JM_min) (Nat.le_of_ble_eq_true rfl) (Nat.le_of_ble_eq_true rfl) (Nat.le_of_ble_eq_true rfl) (Nat.le_of_ble_eq_true rfl) d_Ho_track_45 ?_
      refine lv_topi (fun z_20 ez_20 => ?_)
      refine lv_iload hx hb d_Ho_track_48 (lv_at hl 4 rfl) ?_
      refine lv_iload hx hb d_Ho_track_50 (lv_at hl 6 rfl) ?_
      refine va_mmin hx hb (by rw [hml, hl.1]) hown (hW _ wm_Ho_45) (hW _ wt_JM_min) (hW _ wi_JM) (hW _ wc_JM_min) (Nat.le_of_ble_eq_true rfl) (Nat.le_of_ble_eq_true rfl) (Nat.le_of_ble_eq_true rfl) (Nat.le_of_ble_eq_true rfl) d_Ho_track_52 ?_
      refine lv_topi (fun z_21 ez_21 => ?_)
      refine lv_iload_n hx hb d_Ho_track_55 rfl (lv_at hl 3 rfl) ?_
      refine lv_iload hx hb d_Ho_track_56 (lv_at hl 5 rfl) ?_
      refine va_mmax hx hb (by rw [hml, hl.1]) hown (hW _ wm_Ho_51) (hW _ wt_JM_max) (hW _ wi_JM) (hW _ wc_JM_max) (Nat.le_of_ble_eq_true rfl) (Nat.le_of_ble_eq_true rfl) (Nat.le_of_ble_eq_true rfl) (Nat.le_of_ble_eq_true rfl) d_Ho_track_58 ?_
      refine lv_topi (fun z_22 ez_22 => ?_)
      refine lv_iload hx hb d_Ho_track_61 (lv_at hl 4 rfl) ?_
      refine lv_iload hx hb d_Ho_track_63 (lv_at hl 6 rfl) ?_
      refine va_mmax hx hb (by rw [hml, hl.1]) hown (hW _ wm_Ho_51) (hW _ wt_JM_max) (hW _ wi_JM) (hW _ wc_JM_max) (Nat.le_of_ble_eq_true rfl) (Nat.le_of_ble_eq_true rfl) (Nat.le_of_ble_eq_true rfl) (Nat.le_of_ble_eq_true rfl) d_Ho_track_65 ?_
      refine lv_topi (fun z_23 ez_23 => ?_)
      refine rc_V (va_runI (As := [.int z_20, .int z_21, .int z_22, .int z_23]) (rest := [.ref q_18]) ⟨hx, hb, hml, hown, hts⟩ (c_Ar_init l D N0 k V_19 q_18 z_20 z_21 z_22 z_23 0 0 0 0 hq_18'V_19) (cwI 4 hts (gi_c wc_Ar_init) rfl rfl rfl (hW _ wi_Ar) (hW _ wm_Ho_11) (hW _ wv_Ar_init) rfl (by decide +kernel) ⟨Nat.le_of_ble_eq_true rfl, Nat.le_of_ble_eq_true rfl⟩) (mP.preS hG hS hV) rfl rfl hl.1 rfl (lv_room (Nat.le_of_ble_eq_true rfl)) d_Ho_track_68 ⟨Nat.le_of_ble_eq_true rfl, Nat.le_of_ble_eq_true rfl⟩) hS (fun V_24 H locs hp_25 hV hS => ?_)
      have hV_V_24 := hp_25.symm
      have hH_ho'V_24 : V_24 b.ho = some (.inr (6, [.int (nI σ.nl), .ref b.bo, .ref b.gi, .ref b.co, .ref b.ta, .ref b.ac, .ref b.ve, va_rf (woA b σ.wo), .int σ.rs])) := by rw [← hV_V_24, hu_n ne_bho_q_18]; exact hH_ho'V_19
      have hH_bo'V_24 : V_24 b.bo = some (.inr (1, [.int 0, .int 0, .int 31, .int 23])) := by rw [← hV_V_24, hu_n ne_bbo_q_18]; exact hH_bo'V_19
      have hH_gi'V_24 : V_24 b.gi = some (eI k 8 σ.G) := by rw [← hV_V_24, hu_n ne_bgi_q_18]; exact hH_gi'V_19
      have hH_co'V_24 : V_24 b.co = some (.inr (2, [.ref b.ta, .int (nI σ.nl), .ref b.ro, .ref b.on, .ref b.re, .int σ.g])) := by rw [← hV_V_24, hu_n ne_bco_q_18]; exact hH_co'V_19
      have hH_ts_1'V_24 : V_24 b.ta = some (eTs k b.f) := by rw [← hV_V_24, hu_n ne_bta_q_18]; exact hH_ts_1'V_19
      have hH_ac_1'V_24 : V_24 b.ac = some (eAs k b.fa) := by rw [← hV_V_24, hu_n ne_bac_q_18]; exact hH_ac_1'V_19
      have hH_ve'V_24 : V_24 b.ve = some (eVs k b.fv) := by rw [← hV_V_24, hu_n ne_bve_q_18]; exact hH_ve'V_19
      have hq_18'V_24 : V_24 q_18 = some (eAr z_20 z_21 z_22 z_23) := by rw [← hV_V_24]; exact hu_s
      refine lv_astore (lv' := [(7, .ref q_18), (0, .ref b.ho), (1, .int net), (2, .int la), (3, .int x0), (4, .int y0), (5, .int x1), (6, .int y1)]) hx hb d_Ho_track_71 hl (by decide) rfl (fun ls hl => ?_)
      refine lv_aload_n hx hb d_Ho_track_73 rfl (lv_at hl 1 rfl) ?_
      refine hv_new (ci := 5) (fs := [.int 0, .int 0, .null, .int 0, .int 0, .int 0, .int 0]) (C := R_Th) (T := T_Th) (N := 7) hx hb hW in_Th t_Th ty_Th hown (hW _ wk_Ho_88) (hW _ wo_Th) (hW _ wi_Th) hG.K hV hS rfl (fun j hj => by rcases (show j = 0 ∨ j = 1 ∨ j = 2 ∨ j = 3 ∨ j = 4 ∨ j = 5 ∨ j = 6 by omega) with rfl | rfl | rfl | rfl | rfl | rfl | rfl <;> rfl) (Nat.le_of_ble_eq_true rfl) (Nat.le_of_ble_eq_true rfl) hG.N d_Ho_track_74 (fun q_26 H hn_q_26 hN_q_26 hV hS => ?_)
      have ne_bho_q_26 : b.ho ≠ q_26 := fun z => by rw [← z, hH_ho'V_24] at hn_q_26; cases hn_q_26
      have ne_bbo_q_26 : b.bo ≠ q_26 := fun z => by rw [← z, hH_bo'V_24] at hn_q_26; cases hn_q_26
      have ne_bgi_q_26 : b.gi ≠ q_26 := fun z => by rw [← z, hH_gi'V_24] at hn_q_26; cases hn_q_26
      have ne_bco_q_26 : b.co ≠ q_26 := fun z => by rw [← z, hH_co'V_24] at hn_q_26; cases hn_q_26
      have ne_bta_q_26 : b.ta ≠ q_26 := fun z => by rw [← z, hH_ts_1'V_24] at hn_q_26; cases hn_q_26
      have ne_bac_q_26 : b.ac ≠ q_26 := fun z => by rw [← z, hH_ac_1'V_24] at hn_q_26; cases hn_q_26
      have ne_bve_q_26 : b.ve ≠ q_26 := fun z => by rw [← z, hH_ve'V_24] at hn_q_26; cases hn_q_26
      have ne_q_18_q_26 : q_18 ≠ q_26 := fun z => by rw [← z, hq_18'V_24] at hn_q_26; cases hn_q_26
      replace hV : hv D vwCl N0 (hu V_24 q_26 (.inr (5, [.int 0, .int 0, .null, .int 0, .int 0, .int 0, .int 0]))) H := hV
      generalize hV_V_27 : hu V_24 q_26 (.inr (5, [.int 0, .int 0, .null, .int 0, .int 0, .int 0, .int 0])) = V_27 at hV
      have hH_ho'V_27 : V_27 b.ho = some (.inr (6, [.int (nI σ.nl), .ref b.bo, .ref b.gi, .ref b.co, .ref b.ta, .ref b.ac, .ref b.ve, va_rf (woA b σ.wo), .int σ.rs])) := by rw [← hV_V_27, hu_n ne_bho_q_26]; exact hH_ho'V_24
      have hH_bo'V_27 : V_27 b.bo = some (.inr (1, [.int 0, .int 0, .int 31, .int 23])) := by rw [← hV_V_27, hu_n ne_bbo_q_26]; exact hH_bo'V_24
      have hH_gi'V_27 : V_27 b.gi = some (eI k 8 σ.G) := by rw [← hV_V_27, hu_n ne_bgi_q_26]; exact hH_gi'V_24
      have hH_co'V_27 : V_27 b.co = some (.inr (2, [.ref b.ta, .int (nI σ.nl), .ref b.ro, .ref b.on, .ref b.re, .int σ.g])) := by rw [← hV_V_27, hu_n ne_bco_q_26]; exact hH_co'V_24
      have hH_ts_1'V_27 : V_27 b.ta = some (eTs k b.f) := by rw [← hV_V_27, hu_n ne_bta_q_26]; exact hH_ts_1'V_24
      have hH_ac_1'V_27 : V_27 b.ac = some (eAs k b.fa) := by rw [← hV_V_27, hu_n ne_bac_q_26]; exact hH_ac_1'V_24
      have hH_ve'V_27 : V_27 b.ve = some (eVs k b.fv) := by rw [← hV_V_27, hu_n ne_bve_q_26]; exact hH_ve'V_24
      have hq_18'V_27 : V_27 q_18 = some (.inr (1, [.int z_20, .int z_21, .int z_22, .int z_23])) := by rw [← hV_V_27, hu_n ne_q_18_q_26]; exact hq_18'V_24
      have hq_26'V_27 : V_27 q_26 = some (.inr (5, [.int 0, .int 0, .null, .int 0, .int 0, .int 0, .int 0])) := by rw [← hV_V_27]; exact hu_s
      refine lv_dup hx hb d_Ho_track_77 rfl ?_
      refine lv_iconst (v := 4) hx hb d_Ho_track_78 (by decide) ?_
      refine lv_aload_n hx hb d_Ho_track_79 rfl (lv_at hl 1 rfl) ?_
      refine gf_Ho_18 hx hb hW hown hG hV hH_ho'V_27 d_Ho_track_80 ?_
      refine lv_iconst (v := 4) hx hb d_Ho_track_83 (by decide) ?_
      refine hv_iald hx hb hG.K hV 0 hH_gi'V_27 rfl ((vp_in_nI (by omega) (by omega) : vp_in (nI 4) 8)) d_Ho_track_84 ?_
      rw [show (4 : Int32).toNatClampNeg = 4 from rfl]
      refine lv_aload hx hb d_Ho_track_85 (lv_at hl 0 rfl) ?_
      refine lv_iload_n hx hb d_Ho_track_87 rfl (lv_at hl 3 rfl) ?_
      refine lv_iload_n hx hb d_Ho_track_88 rfl (lv_at hl 2 rfl) ?_
      refine lv_iconst (v := (-1)) hx hb d_Ho_track_89 (by decide) ?_
      refine rc_V (va_runI (As := [.int 4, .int (σ.G 4), .ref q_18, .int la, .int net, .int (-1)]) (rest := [.ref q_26, .ref b.ho]) ⟨hx, hb, hml, hown, hts⟩ (c_Th_init l D N0 k V_27 q_26 q_18 4 (σ.G 4) la net (-1) hq_26'V_27) (cwI 6 hts (gi_c wc_Th_init) rfl rfl rfl (hW _ wi_Th) (hW _ wm_Ho_90) (hW _ wv_Th_init) rfl (by decide +kernel) ⟨Nat.le_of_ble_eq_true rfl, Nat.le_of_ble_eq_true rfl⟩) (mP.preS hG hS hV) rfl rfl hl.1 rfl (lv_room (Nat.le_of_ble_eq_true rfl)) d_Ho_track_90 ⟨Nat.le_of_ble_eq_true rfl, Nat.le_of_ble_eq_true rfl⟩) hS (fun V_28 H locs hp_29 hV hS => ?_)
      have hV_V_28 := hp_29.symm
      have hH_ho'V_28 : V_28 b.ho = some (.inr (6, [.int (nI σ.nl), .ref b.bo, .ref b.gi, .ref b.co, .ref b.ta, .ref b.ac, .ref b.ve, va_rf (woA b σ.wo), .int σ.rs])) := by rw [← hV_V_28, hu_n ne_bho_q_26]; exact hH_ho'V_27
      have hH_bo'V_28 : V_28 b.bo = some (.inr (1, [.int 0, .int 0, .int 31, .int 23])) := by rw [← hV_V_28, hu_n ne_bbo_q_26]; exact hH_bo'V_27
      have hH_gi'V_28 : V_28 b.gi = some (eI k 8 σ.G) := by rw [← hV_V_28, hu_n ne_bgi_q_26]; exact hH_gi'V_27
      have hH_co'V_28 : V_28 b.co = some (.inr (2, [.ref b.ta, .int (nI σ.nl), .ref b.ro, .ref b.on, .ref b.re, .int σ.g])) := by rw [← hV_V_28, hu_n ne_bco_q_26]; exact hH_co'V_27
      have hH_ts_1'V_28 : V_28 b.ta = some (eTs k b.f) := by rw [← hV_V_28, hu_n ne_bta_q_26]; exact hH_ts_1'V_27
      have hH_ac_1'V_28 : V_28 b.ac = some (eAs k b.fa) := by rw [← hV_V_28, hu_n ne_bac_q_26]; exact hH_ac_1'V_27
      have hH_ve'V_28 : V_28 b.ve = some (eVs k b.fv) := by rw [← hV_V_28, hu_n ne_bve_q_26]; exact hH_ve'V_27
      have hq_18'V_28 : V_28 q_18 = some (.inr (1, [.int z_20, .int z_21, .int z_22, .int z_23])) := by rw [← hV_V_28, hu_n ne_q_18_q_26]; exact hq_18'V_27
      have hq_26'V_28 : V_28 q_26 = some (eTh 4 (σ.G 4) q_18 la net (-1) 0) := by rw [← hV_V_28]; exact hu_s
      refine lv_aload_n hx hb d_Ho_track_93 rfl (lv_at hl 1 rfl) ?_
      refine gf_Ho_14 hx hb hW hown hG hV hH_ho'V_28 d_Ho_track_94 ?_
      obtain ⟨Vm, eVm⟩ : ∃ z, z = V_28 := ⟨_, rfl⟩
      have lb2 : ((b.lab q_18 5001).lab q_26 5000).lb q_26 = 5000 := HA.lab_s
      have lb1 : ((b.lab q_18 5001).lab q_26 5000).lb q_18 = 5001 := (HA.lab_n ne_q_18_q_26).trans HA.lab_s
      have hH_V_19 : hsOk k V_19 (b.lab q_18 5001) σ := by rw [← hV_V_19]; exact hs_new hH hn_q_18
      have hF_V_19 : hsFr b (b.lab q_18 5001) V V_19 := by rw [← hV_V_19]; exact hsFr.tr (hsFr.rf (a := b) (V := V)) (hsFr_new hn_q_18)
      have lz_V_24 : (b.lab q_18 5001).lb q_18 = 5001 := HA.lab_s
      have hH_V_24 : hsOk k V_24 (b.lab q_18 5001) σ := by rw [← hV_V_24]; exact hs_tmp hH_V_19 (by rw [lz_V_24]; omega)
      have hF_V_24 : hsFr b (b.lab q_18 5001) V V_24 := by rw [← hV_V_24]; exact hsFr.tr hF_V_19 (hsFr_hu (by rw [lz_V_24]; omega))
      have hH_V_27 : hsOk k V_27 ((b.lab q_18 5001).lab q_26 5000) σ := by rw [← hV_V_27]; exact hs_new hH_V_24 hn_q_26
      have hF_V_27 : hsFr b ((b.lab q_18 5001).lab q_26 5000) V V_27 := by rw [← hV_V_27]; exact hsFr.tr hF_V_24 (hsFr_new hn_q_26)
      have hH_V_28 : hsOk k V_28 ((b.lab q_18 5001).lab q_26 5000) σ := by rw [← hV_V_28]; exact hs_tmp hH_V_27 (by rw [lb2]; omega)
      have hF_V_28 : hsFr b ((b.lab q_18 5001).lab q_26 5000) V V_28 := by rw [← hV_V_28]; exact hsFr.tr hF_V_27 (hsFr_hu (by rw [lb2]; omega))
      have hHm := hH_V_28
      have hFm := hF_V_28
      refine rc_I (va_runV (As := [.ref q_26, .ref b.bo]) (rest := []) ⟨hx, hb, hml, hown, hts⟩ (c_Ho_make l D N0 k V_28 ((b.lab q_18 5001).lab q_26 5000) σ hHm q_26 q_18 (mkR 4 (σ.G 4) la net (-1) z_20 z_21 z_22 z_23) hq_26'V_28 hq_18'V_28 b.bo 0 0 31 23 hH_bo'V_28 4 rfl (by omega) (by omega) (fiN 4 + gN σ 4) (fun hz => slot_free hW0 (by omega) (by omega) hz) lb2 lb1) (cwV 2 hts (gi_V wm_Ho_93 wv_Ho_make ws_Ho_make wi_Ho wc_Ho_make) rfl rfl rfl (by decide +kernel) ⟨Nat.le_of_ble_eq_true rfl, Nat.le_of_ble_eq_true rfl⟩) (mP.preV hG hS hV hH_ho'V_28 rfl) rfl rfl hl.1 rfl (lv_room (Nat.le_of_ble_eq_true rfl)) d_Ho_track_97 ⟨Nat.le_of_ble_eq_true rfl, Nat.le_of_ble_eq_true rfl⟩) hS (fun r_30 V_31 H locs hp_32 hV hS => ?_)
      have hfin := mk_post hW0 (bm := ((b.lab q_18 5001).lab q_26 5000)) (K := 4) (R := (mkR 4 (σ.G 4) la net (-1) z_20 z_21 z_22 z_23)) rfl rfl rfl hFm (by omega) (by omega) rfl rfl hp_32
      subst ez_20 ez_21 ez_22 ez_23
      exact W.iret (v := r_30) hx hb hr (fun t9 ht hW => ⟨⟨r_30, V_31, rfl, hfin, mB_of ht hV⟩, hS.F ht⟩) hS.2.2 d_Ho_track_100
    · exact absurd hok (by simp [Bool.or_eq_true, c_1, c_17])
set_option maxHeartbeats 4000000 in
set_option maxRecDepth 100000 in
/-- track: no such net -/
theorem t_Ho_track1 (l : Launch) (hls : l.stackTraces = false) (D : va_G) (N0 : Nat) (k : Nat → Nat) (V : HV) (b : HA) (σ : HS) (hH : hsOk k V b σ) (net la x0 y0 x1 y1 : Int32) (hg : gvOk σ.G net = false) : hx_Met l y_Ho_track (.code y_Ho_track b_Ho_track 8 (some .int) :: WS) ({ frames := 7, cells := 1, slots := 6, locals := 118 }) (mP D N0 k [.ref b.ho, .int net, .int la, .int x0, .int y0, .int x1, .int y1] V) "java/lang/IndexOutOfBoundsException" (fun H9 => hv D vwCl N0 V H9) N0 1 6 := by
  refine hx_ofW (cc := b_Ho_track) (maxL := 8) (ret := (some .int)) (by decide) rfl ?_
  intro p e s m args below meth c s₁ B hml hno hv0
  obtain ⟨rfl, hG, hV⟩ := hv0
  have hx := B.exec
  have hb := B.bytes
  have hr := B.returns
  have hts := atoms_spec (ws := .code y_Ho_track b_Ho_track 8 (some .int) :: WS) B.pre
  have hW : ∀ w ∈ WS, w.before _ s = true := fun w h => hts w (List.mem_cons_of_mem _ h)
  have hown : s.vm.findClass "BoardHouse" = some m.cls := findClass_of_methodNamed B.named
  have hlocks := B.notSynchronized
  have hS : va_S (hA N0) s.heap s.heap [] := va_S.rf
  have hl := lv_entry ([.ref b.ho, .int net, .int la, .int x0, .int y0, .int x1, .int y1]) (n := 8) (Nat.le_of_ble_eq_true rfl)
  rw [lg_entry_eq]
  generalize (lg_sl ([.ref b.ho, .int net, .int la, .int x0, .int y0, .int x1, .int y1]) ++ List.replicate (8 - (lg_sl ([.ref b.ho, .int net, .int la, .int x0, .int y0, .int x1, .int y1])).length) Slot.unset).toArray = ls at hl ⊢
  have hl : lv_has ls 8 [(0, .ref b.ho), (1, .int net), (2, .int la), (3, .int x0), (4, .int y0), (5, .int x1), (6, .int y1)] := hl
  refine lv_aload_n hx hb d_Ho_track_0 rfl (lv_at hl 0 rfl) ?_
  refine lv_iload_n hx hb d_Ho_track_1 rfl (lv_at hl 1 rfl) ?_
  exact hx_callOut (hx_runV (As := [.int net]) (rest := []) ⟨hx, hb, hml, hown, hts⟩ (t_Ho_demandGiven l hls D N0 k V b.ho b.bo b.gi b.co b.ta b.ac b.ve (woA b σ.wo) (nI σ.nl) σ.rs hH.ho σ.G hH.gi net hg) (cwV 1 hts (gi_V wm_Ho_97 wv_Ho_demandGiven ws_Ho_demandGiven wi_Ho wc_Ho_demandGiven) rfl rfl rfl (by decide +kernel) ⟨Nat.le_of_ble_eq_true rfl, Nat.le_of_ble_eq_true rfl⟩) (mP.preV hG hS hV hH.ho rfl) rfl rfl hl.1 rfl (lv_room (Nat.le_of_ble_eq_true rfl)) d_Ho_track_2 ⟨Nat.le_of_ble_eq_true rfl, Nat.le_of_ble_eq_true rfl⟩) hno hlocks hS (Nat.le_of_ble_eq_true rfl) (Nat.le_of_ble_eq_true rfl)
set_option maxHeartbeats 4000000 in
set_option maxRecDepth 100000 in
/-- track: no such layer -/
theorem t_Ho_track2 (l : Launch) (hls : l.stackTraces = false) (D : va_G) (N0 : Nat) (k : Nat → Nat) (V : HV) (b : HA) (σ : HS) (hH : hsOk k V b σ) (net la x0 y0 x1 y1 : Int32) (hg : gvOk σ.G net = true) (hla : (decide (0 ≤ la) && !decide (nI σ.nl ≤ la)) = false) : hx_Met l y_Ho_track (.code y_Ho_track b_Ho_track 8 (some .int) :: WS) ({ frames := 7, cells := 1, slots := 6, locals := 118 }) (mP D N0 k [.ref b.ho, .int net, .int la, .int x0, .int y0, .int x1, .int y1] V) "java/lang/IndexOutOfBoundsException" (fun H9 => hv D vwCl N0 V H9) N0 1 6 := by
  refine hx_ofW (cc := b_Ho_track) (maxL := 8) (ret := (some .int)) (by decide) rfl ?_
  intro p e s m args below meth c s₁ B hml hno hv0
  obtain ⟨rfl, hG, hV⟩ := hv0
  have hx := B.exec
  have hb := B.bytes
  have hr := B.returns
  have hts := atoms_spec (ws := .code y_Ho_track b_Ho_track 8 (some .int) :: WS) B.pre
  have hW : ∀ w ∈ WS, w.before _ s = true := fun w h => hts w (List.mem_cons_of_mem _ h)
  have hown : s.vm.findClass "BoardHouse" = some m.cls := findClass_of_methodNamed B.named
  have hlocks := B.notSynchronized
  have hS : va_S (hA N0) s.heap s.heap [] := va_S.rf
  have hl := lv_entry ([.ref b.ho, .int net, .int la, .int x0, .int y0, .int x1, .int y1]) (n := 8) (Nat.le_of_ble_eq_true rfl)
  rw [lg_entry_eq]
  generalize (lg_sl ([.ref b.ho, .int net, .int la, .int x0, .int y0, .int x1, .int y1]) ++ List.replicate (8 - (lg_sl ([.ref b.ho, .int net, .int la, .int x0, .int y0, .int x1, .int y1])).length) Slot.unset).toArray = ls at hl ⊢
  have hl : lv_has ls 8 [(0, .ref b.ho), (1, .int net), (2, .int la), (3, .int x0), (4, .int y0), (5, .int x1), (6, .int y1)] := hl
  refine lv_aload_n hx hb d_Ho_track_0 rfl (lv_at hl 0 rfl) ?_
  refine lv_iload_n hx hb d_Ho_track_1 rfl (lv_at hl 1 rfl) ?_
  refine va_csv (va_Run.run (va_runV (As := [.int net]) (rest := []) ⟨hx, hb, hml, hown, hts⟩ (r_Ho_demandGiven l D N0 k V b.ho b.bo b.gi b.co b.ta b.ac b.ve (woA b σ.wo) (nI σ.nl) σ.rs hH.ho σ.G hH.gi net hg) (cwV 1 hts (gi_V wm_Ho_97 wv_Ho_demandGiven ws_Ho_demandGiven wi_Ho wc_Ho_demandGiven) rfl rfl rfl (by decide +kernel) ⟨Nat.le_of_ble_eq_true rfl, Nat.le_of_ble_eq_true rfl⟩) (mP.preV hG hS hV hH.ho rfl) rfl rfl hl.1 rfl (lv_room (Nat.le_of_ble_eq_true rfl)) d_Ho_track_2 ⟨Nat.le_of_ble_eq_true rfl, Nat.le_of_ble_eq_true rfl⟩)) (fun _ => ?_)
  refine lv_aload_n hx hb d_Ho_track_5 rfl (lv_at hl 0 rfl) ?_
  refine lv_iload_n hx hb d_Ho_track_6 rfl (lv_at hl 2 rfl) ?_
  exact hx_callOut (hx_runV (As := [.int la]) (rest := []) ⟨hx, hb, hml, hown, hts⟩ (t_Ho_demandLayer l hls D N0 k V b.ho b.bo b.gi b.co b.ta b.ac b.ve (woA b σ.wo) (nI σ.nl) σ.rs hH.ho σ.G hH.gi la hla) (cwV 1 hts (gi_V wm_Ho_121 wv_Ho_demandLayer ws_Ho_demandLayer wi_Ho wc_Ho_demandLayer) rfl rfl rfl (by decide +kernel) ⟨Nat.le_of_ble_eq_true rfl, Nat.le_of_ble_eq_true rfl⟩) (mP.preV hG hS hV hH.ho rfl) rfl rfl hl.1 rfl (lv_room (Nat.le_of_ble_eq_true rfl)) d_Ho_track_7 ⟨Nat.le_of_ble_eq_true rfl, Nat.le_of_ble_eq_true rfl⟩) hno hlocks hS (Nat.le_of_ble_eq_true rfl) (Nat.le_of_ble_eq_true rfl)
set_option maxHeartbeats 4000000 in
set_option maxRecDepth 100000 in
/-- track: not a net -/
theorem t_Ho_track3 (l : Launch) (hls : l.stackTraces = false) (D : va_G) (N0 : Nat) (k : Nat → Nat) (V : HV) (b : HA) (σ : HS) (hH : hsOk k V b σ) (net la x0 y0 x1 y1 : Int32) (hg : gvOk σ.G net = true) (hla : (decide (0 ≤ la) && !decide (nI σ.nl ≤ la)) = true) (hk1 : ¬ net / 1000 = 1) : hx_Met l y_Ho_track (.code y_Ho_track b_Ho_track 8 (some .int) :: WS) ({ frames := 7, cells := 1, slots := 6, locals := 118 }) (mP D N0 k [.ref b.ho, .int net, .int la, .int x0, .int y0, .int x1, .int y1] V) "java/lang/IllegalArgumentException" (fun H9 => hv D vwCl N0 V H9) N0 1 6 := by
  refine hx_ofW (cc := b_Ho_track) (maxL := 8) (ret := (some .int)) (by decide) rfl ?_
  intro p e s m args below meth c s₁ B hml hno hv0
  obtain ⟨rfl, hG, hV⟩ := hv0
  have hx := B.exec
  have hb := B.bytes
  have hr := B.returns
  have hts := atoms_spec (ws := .code y_Ho_track b_Ho_track 8 (some .int) :: WS) B.pre
  have hW : ∀ w ∈ WS, w.before _ s = true := fun w h => hts w (List.mem_cons_of_mem _ h)
  have hown : s.vm.findClass "BoardHouse" = some m.cls := findClass_of_methodNamed B.named
  have hlocks := B.notSynchronized
  have hS : va_S (hA N0) s.heap s.heap [] := va_S.rf
  have hl := lv_entry ([.ref b.ho, .int net, .int la, .int x0, .int y0, .int x1, .int y1]) (n := 8) (Nat.le_of_ble_eq_true rfl)
  rw [lg_entry_eq]
  generalize (lg_sl ([.ref b.ho, .int net, .int la, .int x0, .int y0, .int x1, .int y1]) ++ List.replicate (8 - (lg_sl ([.ref b.ho, .int net, .int la, .int x0, .int y0, .int x1, .int y1])).length) Slot.unset).toArray = ls at hl ⊢
  have hl : lv_has ls 8 [(0, .ref b.ho), (1, .int net), (2, .int la), (3, .int x0), (4, .int y0), (5, .int x1), (6, .int y1)] := hl
  refine lv_aload_n hx hb d_Ho_track_0 rfl (lv_at hl 0 rfl) ?_
  refine lv_iload_n hx hb d_Ho_track_1 rfl (lv_at hl 1 rfl) ?_
  refine va_csv (va_Run.run (va_runV (As := [.int net]) (rest := []) ⟨hx, hb, hml, hown, hts⟩ (r_Ho_demandGiven l D N0 k V b.ho b.bo b.gi b.co b.ta b.ac b.ve (woA b σ.wo) (nI σ.nl) σ.rs hH.ho σ.G hH.gi net hg) (cwV 1 hts (gi_V wm_Ho_97 wv_Ho_demandGiven ws_Ho_demandGiven wi_Ho wc_Ho_demandGiven) rfl rfl rfl (by decide +kernel) ⟨Nat.le_of_ble_eq_true rfl, Nat.le_of_ble_eq_true rfl⟩) (mP.preV hG hS hV hH.ho rfl) rfl rfl hl.1 rfl (lv_room (Nat.le_of_ble_eq_true rfl)) d_Ho_track_2 ⟨Nat.le_of_ble_eq_true rfl, Nat.le_of_ble_eq_true rfl⟩)) (fun _ => ?_)
  refine lv_aload_n hx hb d_Ho_track_5 rfl (lv_at hl 0 rfl) ?_
  refine lv_iload_n hx hb d_Ho_track_6 rfl (lv_at hl 2 rfl) ?_
  refine va_csv (va_Run.run (va_runV (As := [.int la]) (rest := []) ⟨hx, hb, hml, hown, hts⟩ (r_Ho_demandLayer l D N0 k V b.ho b.bo b.gi b.co b.ta b.ac b.ve (woA b σ.wo) (nI σ.nl) σ.rs hH.ho σ.G hH.gi la hla) (cwV 1 hts (gi_V wm_Ho_121 wv_Ho_demandLayer ws_Ho_demandLayer wi_Ho wc_Ho_demandLayer) rfl rfl rfl (by decide +kernel) ⟨Nat.le_of_ble_eq_true rfl, Nat.le_of_ble_eq_true rfl⟩) (mP.preV hG hS hV hH.ho rfl) rfl rfl hl.1 rfl (lv_room (Nat.le_of_ble_eq_true rfl)) d_Ho_track_7 ⟨Nat.le_of_ble_eq_true rfl, Nat.le_of_ble_eq_true rfl⟩)) (fun _ => ?_)
  refine lv_iload_n hx hb d_Ho_track_10 rfl (lv_at hl 1 rfl) ?_
  refine lv_iconst (v := 1) hx hb d_Ho_track_11 (by decide) ?_
  exact hx_callOut (hx_runS (As := [.int net, .int 1]) (rest := []) ⟨hx, hb, hml, hown, hts⟩ (t_Ho_demandKind l hls D N0 k V net 1 hk1) (va_cwS 2 hts (gi_S wm_Ho_101 wt_Ho_demandKind wi_Ho wc_Ho_demandKind) rfl rfl rfl (by decide +kernel) ⟨Nat.le_of_ble_eq_true rfl, Nat.le_of_ble_eq_true rfl⟩) (mP.preS hG hS hV) rfl rfl hl.1 rfl (lv_room (Nat.le_of_ble_eq_true rfl)) d_Ho_track_12 ⟨Nat.le_of_ble_eq_true rfl, Nat.le_of_ble_eq_true rfl⟩) hno hlocks hS (Nat.le_of_ble_eq_true rfl) (Nat.le_of_ble_eq_true rfl)
set_option maxHeartbeats 4000000 in
set_option maxRecDepth 100000 in
/-- track: aslant -/
theorem t_Ho_track4 (l : Launch) (hls : l.stackTraces = false) (D : va_G) (N0 : Nat) (k : Nat → Nat) (V : HV) (b : HA) (σ : HS) (hH : hsOk k V b σ) (net la x0 y0 x1 y1 : Int32) (hg : gvOk σ.G net = true) (hla : (decide (0 ≤ la) && !decide (nI σ.nl ≤ la)) = true) (hk1 : net / 1000 = 1) (hok : (decide (x0 = x1) || decide (y0 = y1)) = false) : hx_Met l y_Ho_track (.code y_Ho_track b_Ho_track 8 (some .int) :: WS) ({ frames := 7, cells := 1, slots := 6, locals := 118 }) (mP D N0 k [.ref b.ho, .int net, .int la, .int x0, .int y0, .int x1, .int y1] V) "java/lang/IllegalArgumentException" (fun H9 => hv D vwCl N0 V H9) N0 1 6 := by
  refine hx_ofW (cc := b_Ho_track) (maxL := 8) (ret := (some .int)) (by decide) rfl ?_
  intro p e s m args below meth c s₁ B hml hno hv0
  obtain ⟨rfl, hG, hV⟩ := hv0
  have hx := B.exec
  have hb := B.bytes
  have hr := B.returns
  have hts := atoms_spec (ws := .code y_Ho_track b_Ho_track 8 (some .int) :: WS) B.pre
  have hW : ∀ w ∈ WS, w.before _ s = true := fun w h => hts w (List.mem_cons_of_mem _ h)
  have hown : s.vm.findClass "BoardHouse" = some m.cls := findClass_of_methodNamed B.named
  have hlocks := B.notSynchronized
  have hS : va_S (hA N0) s.heap s.heap [] := va_S.rf
  have hl := lv_entry ([.ref b.ho, .int net, .int la, .int x0, .int y0, .int x1, .int y1]) (n := 8) (Nat.le_of_ble_eq_true rfl)
  rw [lg_entry_eq]
  generalize (lg_sl ([.ref b.ho, .int net, .int la, .int x0, .int y0, .int x1, .int y1]) ++ List.replicate (8 - (lg_sl ([.ref b.ho, .int net, .int la, .int x0, .int y0, .int x1, .int y1])).length) Slot.unset).toArray = ls at hl ⊢
  have hl : lv_has ls 8 [(0, .ref b.ho), (1, .int net), (2, .int la), (3, .int x0), (4, .int y0), (5, .int x1), (6, .int y1)] := hl
  refine lv_aload_n hx hb d_Ho_track_0 rfl (lv_at hl 0 rfl) ?_
  refine lv_iload_n hx hb d_Ho_track_1 rfl (lv_at hl 1 rfl) ?_
  refine va_csv (va_Run.run (va_runV (As := [.int net]) (rest := []) ⟨hx, hb, hml, hown, hts⟩ (r_Ho_demandGiven l D N0 k V b.ho b.bo b.gi b.co b.ta b.ac b.ve (woA b σ.wo) (nI σ.nl) σ.rs hH.ho σ.G hH.gi net hg) (cwV 1 hts (gi_V wm_Ho_97 wv_Ho_demandGiven ws_Ho_demandGiven wi_Ho wc_Ho_demandGiven) rfl rfl rfl (by decide +kernel) ⟨Nat.le_of_ble_eq_true rfl, Nat.le_of_ble_eq_true rfl⟩) (mP.preV hG hS hV hH.ho rfl) rfl rfl hl.1 rfl (lv_room (Nat.le_of_ble_eq_true rfl)) d_Ho_track_2 ⟨Nat.le_of_ble_eq_true rfl, Nat.le_of_ble_eq_true rfl⟩)) (fun _ => ?_)
  refine lv_aload_n hx hb d_Ho_track_5 rfl (lv_at hl 0 rfl) ?_
  refine lv_iload_n hx hb d_Ho_track_6 rfl (lv_at hl 2 rfl) ?_
  refine va_csv (va_Run.run (va_runV (As := [.int la]) (rest := []) ⟨hx, hb, hml, hown, hts⟩ (r_Ho_demandLayer l D N0 k V b.ho b.bo b.gi b.co b.ta b.ac b.ve (woA b σ.wo) (nI σ.nl) σ.rs hH.ho σ.G hH.gi la hla) (cwV 1 hts (gi_V wm_Ho_121 wv_Ho_demandLayer ws_Ho_demandLayer wi_Ho wc_Ho_demandLayer) rfl rfl rfl (by decide +kernel) ⟨Nat.le_of_ble_eq_true rfl, Nat.le_of_ble_eq_true rfl⟩) (mP.preV hG hS hV hH.ho rfl) rfl rfl hl.1 rfl (lv_room (Nat.le_of_ble_eq_true rfl)) d_Ho_track_7 ⟨Nat.le_of_ble_eq_true rfl, Nat.le_of_ble_eq_true rfl⟩)) (fun _ => ?_)
  refine lv_iload_n hx hb d_Ho_track_10 rfl (lv_at hl 1 rfl) ?_
  refine lv_iconst (v := 1) hx hb d_Ho_track_11 (by decide) ?_
  refine va_csv (va_Run.run (va_runS (As := [.int net, .int 1]) (rest := []) ⟨hx, hb, hml, hown, hts⟩ (r_Ho_demandKind l D N0 k V net 1 hk1) (va_cwS 2 hts (gi_S wm_Ho_101 wt_Ho_demandKind wi_Ho wc_Ho_demandKind) rfl rfl rfl (by decide +kernel) ⟨Nat.le_of_ble_eq_true rfl, Nat.le_of_ble_eq_true rfl⟩) (mP.preS hG hS hV) rfl rfl hl.1 rfl (lv_room (Nat.le_of_ble_eq_true rfl)) d_Ho_track_12 ⟨Nat.le_of_ble_eq_true rfl, Nat.le_of_ble_eq_true rfl⟩)) (fun _ => ?_)
  refine lv_iload_n hx hb d_Ho_track_15 rfl (lv_at hl 3 rfl) ?_
  refine lv_iload hx hb d_Ho_track_16 (lv_at hl 5 rfl) ?_
  refine lv_icmp_eq (tgt := 38) hx hb d_Ho_track_18 (by decide) (fun c_1 => ?_) (fun c_1 => ?_)
  · exact absurd hok (by simp [Bool.or_eq_true, c_1])
  · refine lv_iload hx hb d_Ho_track_21 (lv_at hl 4 rfl) ?_
    refine lv_iload hx hb d_Ho_track_23 (lv_at hl 6 rfl) ?_
    refine lv_icmp_eq (tgt := 38) hx hb d_Ho_track_25 (by decide) (fun c_2 => ?_) (fun c_2 => ?_)
    · exact absurd hok (by simp [Bool.or_eq_true, c_1, c_2])
    · obtain ⟨sa, hstr⟩ := hG.2.2.2.2.2.2.2.2 (124, "a track goes along x or along y") (by decide)
      exact hx_throwS (own := "BoardHouse") (cls := "java/lang/IllegalArgumentException") (text := "a track goes along x or along y") (names := xN) (ik := 79) (is := 124) (ic := 83) hx hb hls hown (by decide +kernel) (by decide +kernel) (hW _ wk_Ho_79) (hW _ wi_JG) hstr (own_of hW hG own_G) (by rw [hml]; exact hl.1) d_Ho_track_28 d_Ho_track_31 d_Ho_track_32 d_Ho_track_34 d_Ho_track_37 hno (Nat.le_of_ble_eq_true rfl) (Nat.le_of_ble_eq_true rfl) (Nat.le_of_ble_eq_true rfl) (Nat.le_of_ble_eq_true rfl) hlocks (fun H9 h91 h92 => hv.keep hV h92)
set_option maxHeartbeats 4000000 in
set_option maxRecDepth 100000 in
/-- plane -/
theorem c_Ho_plane (l : Launch) (D : va_G) (N0 : Nat) (k : Nat → Nat) (V : HV) (b : HA) (σ : HS) (hW0 : hsW k V b σ) (net la : Int32) (hg : gvOk σ.G net = true) (hla : (decide (0 ≤ la) && !decide (nI σ.nl ≤ la)) = true) (hk1 : net / 1000 = 1) : Met l y_Ho_plane (.code y_Ho_plane b_Ho_plane 3 (some .int) :: WS) ({ frames := 7, cells := 2, slots := 11, locals := 118 }) (mP D N0 k [.ref b.ho, .int net, .int la] V) (va_Qi (fun r V' => ∃ b', hsW k V' b' (mkP σ 5 (mkR 5 (σ.G 5) la net (-1) 0 0 (0 + (31 - 0)) (0 + (23 - 0))) 0 0 31 23).2 ∧ hsFr b b' V V' ∧ r = (mkP σ 5 (mkR 5 (σ.G 5) la net (-1) 0 0 (0 + (31 - 0)) (0 + (23 - 0))) 0 0 31 23).1) (mB D N0) (hA N0)) 2 11 (hA N0) := by
  refine Met.ofW (cc := b_Ho_plane) (maxL := 3) (ret := (some .int)) (by decide) rfl ?_
  intro p e s m args below meth c s₁ B hml hv0
  obtain ⟨rfl, hG, hV⟩ := hv0
  have hx := B.exec
  have hb := B.bytes
  have hr := B.returns
  have hts := atoms_spec (ws := .code y_Ho_plane b_Ho_plane 3 (some .int) :: WS) B.pre
  have hW : ∀ w ∈ WS, w.before _ s = true := fun w h => hts w (List.mem_cons_of_mem _ h)
  have hown : s.vm.findClass "BoardHouse" = some m.cls := findClass_of_methodNamed B.named
  have hlocks := B.notSynchronized
  have hS : va_S (hA N0) s.heap s.heap [] := va_S.rf
  have hl := lv_entry ([.ref b.ho, .int net, .int la]) (n := 3) (Nat.le_of_ble_eq_true rfl)
  rw [lg_entry_eq]
  generalize (lg_sl ([.ref b.ho, .int net, .int la]) ++ List.replicate (3 - (lg_sl ([.ref b.ho, .int net, .int la])).length) Slot.unset).toArray = ls at hl ⊢
  have hl : lv_has ls 3 [(0, .ref b.ho), (1, .int net), (2, .int la)] := hl
  have hH := hW0.1
  refine lv_aload_n hx hb d_Ho_plane_0 rfl (lv_at hl 0 rfl) ?_
  refine lv_iload_n hx hb d_Ho_plane_1 rfl (lv_at hl 1 rfl) ?_
  refine va_csv (va_Run.run (va_runV (As := [.int net]) (rest := []) ⟨hx, hb, hml, hown, hts⟩ (r_Ho_demandGiven l D N0 k V b.ho b.bo b.gi b.co b.ta b.ac b.ve (woA b σ.wo) (nI σ.nl) σ.rs hH.ho σ.G hH.gi net hg) (cwV 1 hts (gi_V wm_Ho_97 wv_Ho_demandGiven ws_Ho_demandGiven wi_Ho wc_Ho_demandGiven) rfl rfl rfl (by decide +kernel) ⟨Nat.le_of_ble_eq_true rfl, Nat.le_of_ble_eq_true rfl⟩) (mP.preV hG hS hV hH.ho rfl) rfl rfl hl.1 rfl (lv_room (Nat.le_of_ble_eq_true rfl)) d_Ho_plane_2 ⟨Nat.le_of_ble_eq_true rfl, Nat.le_of_ble_eq_true rfl⟩)) (fun _ => ?_)
  refine lv_aload_n hx hb d_Ho_plane_5 rfl (lv_at hl 0 rfl) ?_
  refine lv_iload_n hx hb d_Ho_plane_6 rfl (lv_at hl 2 rfl) ?_
  refine va_csv (va_Run.run (va_runV (As := [.int la]) (rest := []) ⟨hx, hb, hml, hown, hts⟩ (r_Ho_demandLayer l D N0 k V b.ho b.bo b.gi b.co b.ta b.ac b.ve (woA b σ.wo) (nI σ.nl) σ.rs hH.ho σ.G hH.gi la hla) (cwV 1 hts (gi_V wm_Ho_121 wv_Ho_demandLayer ws_Ho_demandLayer wi_Ho wc_Ho_demandLayer) rfl rfl rfl (by decide +kernel) ⟨Nat.le_of_ble_eq_true rfl, Nat.le_of_ble_eq_true rfl⟩) (mP.preV hG hS hV hH.ho rfl) rfl rfl hl.1 rfl (lv_room (Nat.le_of_ble_eq_true rfl)) d_Ho_plane_7 ⟨Nat.le_of_ble_eq_true rfl, Nat.le_of_ble_eq_true rfl⟩)) (fun _ => ?_)
  refine lv_iload_n hx hb d_Ho_plane_10 rfl (lv_at hl 1 rfl) ?_
  refine lv_iconst (v := 1) hx hb d_Ho_plane_11 (by decide) ?_
  refine va_csv (va_Run.run (va_runS (As := [.int net, .int 1]) (rest := []) ⟨hx, hb, hml, hown, hts⟩ (r_Ho_demandKind l D N0 k V net 1 hk1) (va_cwS 2 hts (gi_S wm_Ho_101 wt_Ho_demandKind wi_Ho wc_Ho_demandKind) rfl rfl rfl (by decide +kernel) ⟨Nat.le_of_ble_eq_true rfl, Nat.le_of_ble_eq_true rfl⟩) (mP.preS hG hS hV) rfl rfl hl.1 rfl (lv_room (Nat.le_of_ble_eq_true rfl)) d_Ho_plane_12 ⟨Nat.le_of_ble_eq_true rfl, Nat.le_of_ble_eq_true rfl⟩)) (fun _ => ?_)
  refine lv_aload_n hx hb d_Ho_plane_15 rfl (lv_at hl 0 rfl) ?_
  refine hv_new (ci := 5) (fs := [.int 0, .int 0, .null, .int 0, .int 0, .int 0, .int 0]) (C := R_Th) (T := T_Th) (N := 7) hx hb hW in_Th t_Th ty_Th hown (hW _ wk_Ho_88) (hW _ wo_Th) (hW _ wi_Th) hG.K hV hS rfl (fun j hj => by rcases (show j = 0 ∨ j = 1 ∨ j = 2 ∨ j = 3 ∨ j = 4 ∨ j = 5 ∨ j = 6 by omega) with rfl | rfl | rfl | rfl | rfl | rfl | rfl <;> rfl) (Nat.le_of_ble_eq_true rfl) (Nat.le_of_ble_eq_true rfl) hG.N d_Ho_plane_16 (fun q_1 H hn_q_1 hN_q_1 hV hS => ?_)
  have ne_bho_q_1 : b.ho ≠ q_1 := fun z => by rw [← z, hH.ho] at hn_q_1; cases hn_q_1
  have ne_bbo_q_1 : b.bo ≠ q_1 := fun z => by rw [← z, hH.bo] at hn_q_1; cases hn_q_1
  have ne_bgi_q_1 : b.gi ≠ q_1 := fun z => by rw [← z, hH.gi] at hn_q_1; cases hn_q_1
  have ne_bco_q_1 : b.co ≠ q_1 := fun z => by rw [← z, hH.co] at hn_q_1; cases hn_q_1
  have ne_bta_q_1 : b.ta ≠ q_1 := fun z => by rw [← z, hH.ts.1] at hn_q_1; cases hn_q_1
  have ne_bac_q_1 : b.ac ≠ q_1 := fun z => by rw [← z, hH.ac.1] at hn_q_1; cases hn_q_1
  have ne_bve_q_1 : b.ve ≠ q_1 := fun z => by rw [← z, hH.ve] at hn_q_1; cases hn_q_1
  replace hV : hv D vwCl N0 (hu V q_1 (.inr (5, [.int 0, .int 0, .null, .int 0, .int 0, .int 0, .int 0]))) H := hV
  generalize hV_V_2 : hu V q_1 (.inr (5, [.int 0, .int 0, .null, .int 0, .int 0, .int 0, .int 0])) = V_2 at hV
  have hH_ho'V_2 : V_2 b.ho = some (.inr (6, [.int (nI σ.nl), .ref b.bo, .ref b.gi, .ref b.co, .ref b.ta, .ref b.ac, .ref b.ve, va_rf (woA b σ.wo), .int σ.rs])) := by rw [← hV_V_2, hu_n ne_bho_q_1]; exact hH.ho
  have hH_bo'V_2 : V_2 b.bo = some (.inr (1, [.int 0, .int 0, .int 31, .int 23])) := by rw [← hV_V_2, hu_n ne_bbo_q_1]; exact hH.bo
  have hH_gi'V_2 : V_2 b.gi = some (eI k 8 σ.G) := by rw [← hV_V_2, hu_n ne_bgi_q_1]; exact hH.gi
  have hH_co'V_2 : V_2 b.co = some (.inr (2, [.ref b.ta, .int (nI σ.nl), .ref b.ro, .ref b.on, .ref b.re, .int σ.g])) := by rw [← hV_V_2, hu_n ne_bco_q_1]; exact hH.co
  have hH_ts_1'V_2 : V_2 b.ta = some (eTs k b.f) := by rw [← hV_V_2, hu_n ne_bta_q_1]; exact hH.ts.1
  have hH_ac_1'V_2 : V_2 b.ac = some (eAs k b.fa) := by rw [← hV_V_2, hu_n ne_bac_q_1]; exact hH.ac.1
  have hH_ve'V_2 : V_2 b.ve = some (eVs k b.fv) := by rw [← hV_V_2, hu_n ne_bve_q_1]; exact hH.ve
  have hq_1'V_2 : V_2 q_1 = some (.inr (5, [.int 0, .int 0, .null, .int 0, .int 0, .int 0, .int 0])) := by rw [← hV_V_2]; exact hu_s
  refine lv_dup hx hb d_Ho_plane_19 rfl ?_
  refine lv_iconst (v := 5) hx hb d_Ho_plane_20 (by decide) ?_
  refine lv_aload_n hx hb d_Ho_plane_21 rfl (lv_at hl 0 rfl) ?_
  refine gf_Ho_18 hx hb hW hown hG hV hH_ho'V_2 d_Ho_plane_22 ?_
  refine lv_iconst (v := 5) hx hb d_Ho_plane_25 (by decide) ?_
  refine hv_iald hx hb hG.K hV 0 hH_gi'V_2 rfl ((vp_in_nI (by omega) (by omega) : vp_in (nI 5) 8)) d_Ho_plane_26 ?_
  rw [show (5 : Int32).toNatClampNeg = 5 from rfl]
  refine lv_aload_n hx hb d_Ho_plane_27 rfl (lv_at hl 0 rfl) ?_
  refine gf_Ho_14 hx hb hW hown hG hV hH_ho'V_2 d_Ho_plane_28 ?_
  refine lv_iconst (v := 0) hx hb d_Ho_plane_31 (by decide) ?_
  refine lv_iconst (v := 0) hx hb d_Ho_plane_32 (by decide) ?_
  refine rc_Q (va_runV (As := [.int 0, .int 0]) (rest := [.int (σ.G 5), .int 5, .ref q_1, .ref q_1, .ref b.ho]) ⟨hx, hb, hml, hown, hts⟩ (c_Ar_startingAt l D N0 k V_2 b.bo 0 0 31 23 0 0 hH_bo'V_2) (cwV 2 hts (gi_V wm_Ho_126 wv_Ar_startingAt ws_Ar_startingAt wi_Ar wc_Ar_startingAt) rfl rfl rfl (by decide +kernel) ⟨Nat.le_of_ble_eq_true rfl, Nat.le_of_ble_eq_true rfl⟩) (mP.preV hG hS hV hH_bo'V_2 rfl) rfl rfl hl.1 rfl (lv_room (Nat.le_of_ble_eq_true rfl)) d_Ho_plane_33 ⟨Nat.le_of_ble_eq_true rfl, Nat.le_of_ble_eq_true rfl⟩) hS (fun r_3 V_4 H locs hp_5 hV hS => ?_)
  obtain ⟨q_6, er_q_6, hn_q_6, ev_q_6⟩ := hp_5
  subst er_q_6
  refine W.eq (g2 := F0 m 36 ls [.ref q_6, .int (σ.G 5), .int 5, .ref q_1, .ref q_1, .ref b.ho]) rfl ?_
  have ne_bho_q_6 : b.ho ≠ q_6 := fun z => by rw [← z, hH_ho'V_2] at hn_q_6; cases hn_q_6
  have ne_bbo_q_6 : b.bo ≠ q_6 := fun z => by rw [← z, hH_bo'V_2] at hn_q_6; cases hn_q_6
  have ne_bgi_q_6 : b.gi ≠ q_6 := fun z => by rw [← z, hH_gi'V_2] at hn_q_6; cases hn_q_6
  have ne_bco_q_6 : b.co ≠ q_6 := fun z => by rw [← z, hH_co'V_2] at hn_q_6; cases hn_q_6
  have ne_bta_q_6 : b.ta ≠ q_6 := fun z => by rw [← z, hH_ts_1'V_2] at hn_q_6; cases hn_q_6
  have ne_bac_q_6 : b.ac ≠ q_6 := fun z => by rw [← z, hH_ac_1'V_2] at hn_q_6; cases hn_q_6
  have ne_bve_q_6 : b.ve ≠ q_6 := fun z => by rw [← z, hH_ve'V_2] at hn_q_6; cases hn_q_6
  have ne_q_1_q_6 : q_1 ≠ q_6 := fun z => by rw [← z, hq_1'V_2] at hn_q_6; cases hn_q_6
  have hV_V_4 := ev_q_6.symm
  have hH_ho'V_4 : V_4 b.ho = some (.inr (6, [.int (nI σ.nl), .ref b.bo, .ref b.gi, .ref b.co, .ref b.ta, .ref b.ac, .ref b.ve, va_rf (woA b σ.wo), .int σ.rs])) := by rw [← hV_V_4, hu_n ne_bho_q_6]; exact hH_ho'V_2
  have hH_bo'V_4 : V_4 b.bo = some (.inr (1, [.int 0, .int 0, .int 31, .int 23])) := by rw [← hV_V_4, hu_n ne_bbo_q_6]; exact hH_bo'V_2
  have hH_gi'V_4 : V_4 b.gi = some (eI k 8 σ.G) := by rw [← hV_V_4, hu_n ne_bgi_q_6]; exact hH_gi'V_2
  have hH_co'V_4 : V_4 b.co = some (.inr (2, [.ref b.ta, .int (nI σ.nl), .ref b.ro, .ref b.on, .ref b.re, .int σ.g])) := by rw [← hV_V_4, hu_n ne_bco_q_6]; exact hH_co'V_2
  have hH_ts_1'V_4 : V_4 b.ta = some (eTs k b.f) := by rw [← hV_V_4, hu_n ne_bta_q_6]; exact hH_ts_1'V_2
  have hH_ac_1'V_4 : V_4 b.ac = some (eAs k b.fa) := by rw [← hV_V_4, hu_n ne_bac_q_6]; exact hH_ac_1'V_2
  have hH_ve'V_4 : V_4 b.ve = some (eVs k b.fv) := by rw [← hV_V_4, hu_n ne_bve_q_6]; exact hH_ve'V_2
  have hq_1'V_4 : V_4 q_1 = some (.inr (5, [.int 0, .int 0, .null, .int 0, .int 0, .int 0, .int 0])) := by rw [← hV_V_4, hu_n ne_q_1_q_6]; exact hq_1'V_2
  have hq_6'V_4 : V_4 q_6 = some (eAr 0 0 (0 + (31 - 0)) (0 + (23 - 0))) := by rw [← hV_V_4]; exact hu_s
  refine lv_iload_n hx hb d_Ho_plane_36 rfl (lv_at hl 2 rfl) ?_
  refine lv_iload_n hx hb d_Ho_plane_37 rfl (lv_at hl 1 rfl) ?_
  refine lv_iconst (v := (-1)) hx hb d_Ho_plane_38 (by decide) ?_
  refine rc_V (va_runI (As := [.int 5, .int (σ.G 5), .ref q_6, .int la, .int net, .int (-1)]) (rest := [.ref q_1, .ref b.ho]) ⟨hx, hb, hml, hown, hts⟩ (c_Th_init l D N0 k V_4 q_1 q_6 5 (σ.G 5) la net (-1) hq_1'V_4) (cwI 6 hts (gi_c wc_Th_init) rfl rfl rfl (hW _ wi_Th) (hW _ wm_Ho_90) (hW _ wv_Th_init) rfl (by decide +kernel) ⟨Nat.le_of_ble_eq_true rfl, Nat.le_of_ble_eq_true rfl⟩) (mP.preS hG hS hV) rfl rfl hl.1 rfl (lv_room (Nat.le_of_ble_eq_true rfl)) d_Ho_plane_39 ⟨Nat.le_of_ble_eq_true rfl, Nat.le_of_ble_eq_true rfl⟩) hS (fun V_7 H locs hp_8 hV hS => ?_)
  have hV_V_7 := hp_8.symm
  have hH_ho'V_7 : V_7 b.ho = some (.inr (6, [.int (nI σ.nl), .ref b.bo, .ref b.gi, .ref b.co, .ref b.ta, .ref b.ac, .ref b.ve, va_rf (woA b σ.wo), .int σ.rs])) := by rw [← hV_V_7, hu_n ne_bho_q_1]; exact hH_ho'V_4
  have hH_bo'V_7 : V_7 b.bo = some (.inr (1, [.int 0, .int 0, .int 31, .int 23])) := by rw [← hV_V_7, hu_n ne_bbo_q_1]; exact hH_bo'V_4
  have hH_gi'V_7 : V_7 b.gi = some (eI k 8 σ.G) := by rw [← hV_V_7, hu_n ne_bgi_q_1]; exact hH_gi'V_4
  have hH_co'V_7 : V_7 b.co = some (.inr (2, [.ref b.ta, .int (nI σ.nl), .ref b.ro, .ref b.on, .ref b.re, .int σ.g])) := by rw [← hV_V_7, hu_n ne_bco_q_1]; exact hH_co'V_4
  have hH_ts_1'V_7 : V_7 b.ta = some (eTs k b.f) := by rw [← hV_V_7, hu_n ne_bta_q_1]; exact hH_ts_1'V_4
  have hH_ac_1'V_7 : V_7 b.ac = some (eAs k b.fa) := by rw [← hV_V_7, hu_n ne_bac_q_1]; exact hH_ac_1'V_4
  have hH_ve'V_7 : V_7 b.ve = some (eVs k b.fv) := by rw [← hV_V_7, hu_n ne_bve_q_1]; exact hH_ve'V_4
  have hq_6'V_7 : V_7 q_6 = some (.inr (1, [.int 0, .int 0, .int (0 + (31 - 0)), .int (0 + (23 - 0))])) := by rw [← hV_V_7, hu_n (Ne.symm ne_q_1_q_6)]; exact hq_6'V_4
  have hq_1'V_7 : V_7 q_1 = some (eTh 5 (σ.G 5) q_6 la net (-1) 0) := by rw [← hV_V_7]; exact hu_s
  refine lv_aload_n hx hb d_Ho_plane_42 rfl (lv_at hl 0 rfl) ?_
  refine gf_Ho_14 hx hb hW hown hG hV hH_ho'V_7 d_Ho_plane_43 ?_
  obtain ⟨Vm, eVm⟩ : ∃ z, z = V_7 := ⟨_, rfl⟩
  have lb2 : ((b.lab q_1 5000).lab q_6 5001).lb q_6 = 5001 := HA.lab_s
  have lb1 : ((b.lab q_1 5000).lab q_6 5001).lb q_1 = 5000 := (HA.lab_n ne_q_1_q_6).trans HA.lab_s
  have hH_V_2 : hsOk k V_2 (b.lab q_1 5000) σ := by rw [← hV_V_2]; exact hs_new hH hn_q_1
  have hF_V_2 : hsFr b (b.lab q_1 5000) V V_2 := by rw [← hV_V_2]; exact hsFr.tr (hsFr.rf (a := b) (V := V)) (hsFr_new hn_q_1)
  have hH_V_4 : hsOk k V_4 ((b.lab q_1 5000).lab q_6 5001) σ := by rw [← hV_V_4]; exact hs_new hH_V_2 hn_q_6
  have hF_V_4 : hsFr b ((b.lab q_1 5000).lab q_6 5001) V V_4 := by rw [← hV_V_4]; exact hsFr.tr hF_V_2 (hsFr_new hn_q_6)
  have hH_V_7 : hsOk k V_7 ((b.lab q_1 5000).lab q_6 5001) σ := by rw [← hV_V_7]; exact hs_tmp hH_V_4 (by rw [lb1]; omega)
  have hF_V_7 : hsFr b ((b.lab q_1 5000).lab q_6 5001) V V_7 := by rw [← hV_V_7]; exact hsFr.tr hF_V_4 (hsFr_hu (by rw [lb1]; omega))
  have hHm := hH_V_7
  have hFm := hF_V_7
  refine rc_I (va_runV (As := [.ref q_1, .ref b.bo]) (rest := []) ⟨hx, hb, hml, hown, hts⟩ (c_Ho_make l D N0 k V_7 ((b.lab q_1 5000).lab q_6 5001) σ hHm q_1 q_6 (mkR 5 (σ.G 5) la net (-1) 0 0 (0 + (31 - 0)) (0 + (23 - 0))) hq_1'V_7 hq_6'V_7 b.bo 0 0 31 23 hH_bo'V_7 5 rfl (by omega) (by omega) (fiN 5 + gN σ 5) (fun hz => slot_free hW0 (by omega) (by omega) hz) lb1 lb2) (cwV 2 hts (gi_V wm_Ho_93 wv_Ho_make ws_Ho_make wi_Ho wc_Ho_make) rfl rfl rfl (by decide +kernel) ⟨Nat.le_of_ble_eq_true rfl, Nat.le_of_ble_eq_true rfl⟩) (mP.preV hG hS hV hH_ho'V_7 rfl) rfl rfl hl.1 rfl (lv_room (Nat.le_of_ble_eq_true rfl)) d_Ho_plane_46 ⟨Nat.le_of_ble_eq_true rfl, Nat.le_of_ble_eq_true rfl⟩) hS (fun r_9 V_10 H locs hp_11 hV hS => ?_)
  have hfin := mk_post hW0 (bm := ((b.lab q_1 5000).lab q_6 5001)) (K := 5) (R := (mkR 5 (σ.G 5) la net (-1) 0 0 (0 + (31 - 0)) (0 + (23 - 0)))) rfl rfl rfl hFm (by omega) (by omega) rfl rfl hp_11
  exact W.iret (v := r_9) hx hb hr (fun t9 ht hW => ⟨⟨r_9, V_10, rfl, hfin, mB_of ht hV⟩, hS.F ht⟩) hS.2.2 d_Ho_plane_49
set_option maxHeartbeats 4000000 in
set_option maxRecDepth 100000 in
/-- plane: no such net -/
theorem t_Ho_plane1 (l : Launch) (hls : l.stackTraces = false) (D : va_G) (N0 : Nat) (k : Nat → Nat) (V : HV) (b : HA) (σ : HS) (hH : hsOk k V b σ) (net la : Int32) (hg : gvOk σ.G net = false) : hx_Met l y_Ho_plane (.code y_Ho_plane b_Ho_plane 3 (some .int) :: WS) ({ frames := 7, cells := 1, slots := 6, locals := 118 }) (mP D N0 k [.ref b.ho, .int net, .int la] V) "java/lang/IndexOutOfBoundsException" (fun H9 => hv D vwCl N0 V H9) N0 1 6 := by
  refine hx_ofW (cc := b_Ho_plane) (maxL := 3) (ret := (some .int)) (by decide) rfl ?_
  intro p e s m args below meth c s₁ B hml hno hv0
  obtain ⟨rfl, hG, hV⟩ := hv0
  have hx := B.exec
  have hb := B.bytes
  have hr := B.returns
  have hts := atoms_spec (ws := .code y_Ho_plane b_Ho_plane 3 (some .int) :: WS) B.pre
  have hW : ∀ w ∈ WS, w.before _ s = true := fun w h => hts w (List.mem_cons_of_mem _ h)
  have hown : s.vm.findClass "BoardHouse" = some m.cls := findClass_of_methodNamed B.named
  have hlocks := B.notSynchronized
  have hS : va_S (hA N0) s.heap s.heap [] := va_S.rf
  have hl := lv_entry ([.ref b.ho, .int net, .int la]) (n := 3) (Nat.le_of_ble_eq_true rfl)
  rw [lg_entry_eq]
  generalize (lg_sl ([.ref b.ho, .int net, .int la]) ++ List.replicate (3 - (lg_sl ([.ref b.ho, .int net, .int la])).length) Slot.unset).toArray = ls at hl ⊢
  have hl : lv_has ls 3 [(0, .ref b.ho), (1, .int net), (2, .int la)] := hl
  refine lv_aload_n hx hb d_Ho_plane_0 rfl (lv_at hl 0 rfl) ?_
  refine lv_iload_n hx hb d_Ho_plane_1 rfl (lv_at hl 1 rfl) ?_
  exact hx_callOut (hx_runV (As := [.int net]) (rest := []) ⟨hx, hb, hml, hown, hts⟩ (t_Ho_demandGiven l hls D N0 k V b.ho b.bo b.gi b.co b.ta b.ac b.ve (woA b σ.wo) (nI σ.nl) σ.rs hH.ho σ.G hH.gi net hg) (cwV 1 hts (gi_V wm_Ho_97 wv_Ho_demandGiven ws_Ho_demandGiven wi_Ho wc_Ho_demandGiven) rfl rfl rfl (by decide +kernel) ⟨Nat.le_of_ble_eq_true rfl, Nat.le_of_ble_eq_true rfl⟩) (mP.preV hG hS hV hH.ho rfl) rfl rfl hl.1 rfl (lv_room (Nat.le_of_ble_eq_true rfl)) d_Ho_plane_2 ⟨Nat.le_of_ble_eq_true rfl, Nat.le_of_ble_eq_true rfl⟩) hno hlocks hS (Nat.le_of_ble_eq_true rfl) (Nat.le_of_ble_eq_true rfl)
set_option maxHeartbeats 4000000 in
set_option maxRecDepth 100000 in
/-- plane: no such layer -/
theorem t_Ho_plane2 (l : Launch) (hls : l.stackTraces = false) (D : va_G) (N0 : Nat) (k : Nat → Nat) (V : HV) (b : HA) (σ : HS) (hH : hsOk k V b σ) (net la : Int32) (hg : gvOk σ.G net = true) (hla : (decide (0 ≤ la) && !decide (nI σ.nl ≤ la)) = false) : hx_Met l y_Ho_plane (.code y_Ho_plane b_Ho_plane 3 (some .int) :: WS) ({ frames := 7, cells := 1, slots := 6, locals := 118 }) (mP D N0 k [.ref b.ho, .int net, .int la] V) "java/lang/IndexOutOfBoundsException" (fun H9 => hv D vwCl N0 V H9) N0 1 6 := by
  refine hx_ofW (cc := b_Ho_plane) (maxL := 3) (ret := (some .int)) (by decide) rfl ?_
  intro p e s m args below meth c s₁ B hml hno hv0
  obtain ⟨rfl, hG, hV⟩ := hv0
  have hx := B.exec
  have hb := B.bytes
  have hr := B.returns
  have hts := atoms_spec (ws := .code y_Ho_plane b_Ho_plane 3 (some .int) :: WS) B.pre
  have hW : ∀ w ∈ WS, w.before _ s = true := fun w h => hts w (List.mem_cons_of_mem _ h)
  have hown : s.vm.findClass "BoardHouse" = some m.cls := findClass_of_methodNamed B.named
  have hlocks := B.notSynchronized
  have hS : va_S (hA N0) s.heap s.heap [] := va_S.rf
  have hl := lv_entry ([.ref b.ho, .int net, .int la]) (n := 3) (Nat.le_of_ble_eq_true rfl)
  rw [lg_entry_eq]
  generalize (lg_sl ([.ref b.ho, .int net, .int la]) ++ List.replicate (3 - (lg_sl ([.ref b.ho, .int net, .int la])).length) Slot.unset).toArray = ls at hl ⊢
  have hl : lv_has ls 3 [(0, .ref b.ho), (1, .int net), (2, .int la)] := hl
  refine lv_aload_n hx hb d_Ho_plane_0 rfl (lv_at hl 0 rfl) ?_
  refine lv_iload_n hx hb d_Ho_plane_1 rfl (lv_at hl 1 rfl) ?_
  refine va_csv (va_Run.run (va_runV (As := [.int net]) (rest := []) ⟨hx, hb, hml, hown, hts⟩ (r_Ho_demandGiven l D N0 k V b.ho b.bo b.gi b.co b.ta b.ac b.ve (woA b σ.wo) (nI σ.nl) σ.rs hH.ho σ.G hH.gi net hg) (cwV 1 hts (gi_V wm_Ho_97 wv_Ho_demandGiven ws_Ho_demandGiven wi_Ho wc_Ho_demandGiven) rfl rfl rfl (by decide +kernel) ⟨Nat.le_of_ble_eq_true rfl, Nat.le_of_ble_eq_true rfl⟩) (mP.preV hG hS hV hH.ho rfl) rfl rfl hl.1 rfl (lv_room (Nat.le_of_ble_eq_true rfl)) d_Ho_plane_2 ⟨Nat.le_of_ble_eq_true rfl, Nat.le_of_ble_eq_true rfl⟩)) (fun _ => ?_)
  refine lv_aload_n hx hb d_Ho_plane_5 rfl (lv_at hl 0 rfl) ?_
  refine lv_iload_n hx hb d_Ho_plane_6 rfl (lv_at hl 2 rfl) ?_
  exact hx_callOut (hx_runV (As := [.int la]) (rest := []) ⟨hx, hb, hml, hown, hts⟩ (t_Ho_demandLayer l hls D N0 k V b.ho b.bo b.gi b.co b.ta b.ac b.ve (woA b σ.wo) (nI σ.nl) σ.rs hH.ho σ.G hH.gi la hla) (cwV 1 hts (gi_V wm_Ho_121 wv_Ho_demandLayer ws_Ho_demandLayer wi_Ho wc_Ho_demandLayer) rfl rfl rfl (by decide +kernel) ⟨Nat.le_of_ble_eq_true rfl, Nat.le_of_ble_eq_true rfl⟩) (mP.preV hG hS hV hH.ho rfl) rfl rfl hl.1 rfl (lv_room (Nat.le_of_ble_eq_true rfl)) d_Ho_plane_7 ⟨Nat.le_of_ble_eq_true rfl, Nat.le_of_ble_eq_true rfl⟩) hno hlocks hS (Nat.le_of_ble_eq_true rfl) (Nat.le_of_ble_eq_true rfl)
set_option maxHeartbeats 4000000 in
set_option maxRecDepth 100000 in
/-- plane: not a net -/
theorem t_Ho_plane3 (l : Launch) (hls : l.stackTraces = false) (D : va_G) (N0 : Nat) (k : Nat → Nat) (V : HV) (b : HA) (σ : HS) (hH : hsOk k V b σ) (net la : Int32) (hg : gvOk σ.G net = true) (hla : (decide (0 ≤ la) && !decide (nI σ.nl ≤ la)) = true) (hk1 : ¬ net / 1000 = 1) : hx_Met l y_Ho_plane (.code y_Ho_plane b_Ho_plane 3 (some .int) :: WS) ({ frames := 7, cells := 1, slots := 6, locals := 118 }) (mP D N0 k [.ref b.ho, .int net, .int la] V) "java/lang/IllegalArgumentException" (fun H9 => hv D vwCl N0 V H9) N0 1 6 := by
  refine hx_ofW (cc := b_Ho_plane) (maxL := 3) (ret := (some .int)) (by decide) rfl ?_
  intro p e s m args below meth c s₁ B hml hno hv0
  obtain ⟨rfl, hG, hV⟩ := hv0
  have hx := B.exec
  have hb := B.bytes
  have hr := B.returns
  have hts := atoms_spec (ws := .code y_Ho_plane b_Ho_plane 3 (some .int) :: WS) B.pre
  have hW : ∀ w ∈ WS, w.before _ s = true := fun w h => hts w (List.mem_cons_of_mem _ h)
  have hown : s.vm.findClass "BoardHouse" = some m.cls := findClass_of_methodNamed B.named
  have hlocks := B.notSynchronized
  have hS : va_S (hA N0) s.heap s.heap [] := va_S.rf
  have hl := lv_entry ([.ref b.ho, .int net, .int la]) (n := 3) (Nat.le_of_ble_eq_true rfl)
  rw [lg_entry_eq]
  generalize (lg_sl ([.ref b.ho, .int net, .int la]) ++ List.replicate (3 - (lg_sl ([.ref b.ho, .int net, .int la])).length) Slot.unset).toArray = ls at hl ⊢
  have hl : lv_has ls 3 [(0, .ref b.ho), (1, .int net), (2, .int la)] := hl
  refine lv_aload_n hx hb d_Ho_plane_0 rfl (lv_at hl 0 rfl) ?_
  refine lv_iload_n hx hb d_Ho_plane_1 rfl (lv_at hl 1 rfl) ?_
  refine va_csv (va_Run.run (va_runV (As := [.int net]) (rest := []) ⟨hx, hb, hml, hown, hts⟩ (r_Ho_demandGiven l D N0 k V b.ho b.bo b.gi b.co b.ta b.ac b.ve (woA b σ.wo) (nI σ.nl) σ.rs hH.ho σ.G hH.gi net hg) (cwV 1 hts (gi_V wm_Ho_97 wv_Ho_demandGiven ws_Ho_demandGiven wi_Ho wc_Ho_demandGiven) rfl rfl rfl (by decide +kernel) ⟨Nat.le_of_ble_eq_true rfl, Nat.le_of_ble_eq_true rfl⟩) (mP.preV hG hS hV hH.ho rfl) rfl rfl hl.1 rfl (lv_room (Nat.le_of_ble_eq_true rfl)) d_Ho_plane_2 ⟨Nat.le_of_ble_eq_true rfl, Nat.le_of_ble_eq_true rfl⟩)) (fun _ => ?_)
  refine lv_aload_n hx hb d_Ho_plane_5 rfl (lv_at hl 0 rfl) ?_
  refine lv_iload_n hx hb d_Ho_plane_6 rfl (lv_at hl 2 rfl) ?_
  refine va_csv (va_Run.run (va_runV (As := [.int la]) (rest := []) ⟨hx, hb, hml, hown, hts⟩ (r_Ho_demandLayer l D N0 k V b.ho b.bo b.gi b.co b.ta b.ac b.ve (woA b σ.wo) (nI σ.nl) σ.rs hH.ho σ.G hH.gi la hla) (cwV 1 hts (gi_V wm_Ho_121 wv_Ho_demandLayer ws_Ho_demandLayer wi_Ho wc_Ho_demandLayer) rfl rfl rfl (by decide +kernel) ⟨Nat.le_of_ble_eq_true rfl, Nat.le_of_ble_eq_true rfl⟩) (mP.preV hG hS hV hH.ho rfl) rfl rfl hl.1 rfl (lv_room (Nat.le_of_ble_eq_true rfl)) d_Ho_plane_7 ⟨Nat.le_of_ble_eq_true rfl, Nat.le_of_ble_eq_true rfl⟩)) (fun _ => ?_)
  refine lv_iload_n hx hb d_Ho_plane_10 rfl (lv_at hl 1 rfl) ?_
  refine lv_iconst (v := 1) hx hb d_Ho_plane_11 (by decide) ?_
  exact hx_callOut (hx_runS (As := [.int net, .int 1]) (rest := []) ⟨hx, hb, hml, hown, hts⟩ (t_Ho_demandKind l hls D N0 k V net 1 hk1) (va_cwS 2 hts (gi_S wm_Ho_101 wt_Ho_demandKind wi_Ho wc_Ho_demandKind) rfl rfl rfl (by decide +kernel) ⟨Nat.le_of_ble_eq_true rfl, Nat.le_of_ble_eq_true rfl⟩) (mP.preS hG hS hV) rfl rfl hl.1 rfl (lv_room (Nat.le_of_ble_eq_true rfl)) d_Ho_plane_12 ⟨Nat.le_of_ble_eq_true rfl, Nat.le_of_ble_eq_true rfl⟩) hno hlocks hS (Nat.le_of_ble_eq_true rfl) (Nat.le_of_ble_eq_true rfl)
set_option maxHeartbeats 4000000 in
set_option maxRecDepth 100000 in
/-- pad -/
theorem c_Ho_pad (l : Launch) (D : va_G) (N0 : Nat) (k : Nat → Nat) (V : HV) (b : HA) (σ : HS) (hW0 : hsW k V b σ) (part net dx dy : Int32) (hg : gvOk σ.G part = true) (hg2 : gvOk σ.G net = true) (hk2 : part / 1000 = 2) (hk1 : net / 1000 = 1) (hth : ¬ σ.T (hdI part) 5 = 0) : Met l y_Ho_pad (.code y_Ho_pad b_Ho_pad 8 (some .int) :: WS) ({ frames := 7, cells := 2, slots := 11, locals := 118 }) (mP D N0 k [.ref b.ho, .int part, .int net, .int dx, .int dy] V) (va_Qi (fun r V' => ∃ b', hsW k V' b' (mkP σ 3 (mkR 3 (σ.G 3) 0 net part (σ.T (hdI part) 6 + dx) (σ.T (hdI part) 7 + dy) (σ.T (hdI part) 6 + dx) (σ.T (hdI part) 7 + dy)) (σ.T (hdI part) 6) (σ.T (hdI part) 7) (σ.T (hdI part) 8) (σ.T (hdI part) 9)).2 ∧ hsFr b b' V V' ∧ r = (mkP σ 3 (mkR 3 (σ.G 3) 0 net part (σ.T (hdI part) 6 + dx) (σ.T (hdI part) 7 + dy) (σ.T (hdI part) 6 + dx) (σ.T (hdI part) 7 + dy)) (σ.T (hdI part) 6) (σ.T (hdI part) 7) (σ.T (hdI part) 8) (σ.T (hdI part) 9)).1) (mB D N0) (hA N0)) 2 11 (hA N0) := by
  refine Met.ofW (cc := b_Ho_pad) (maxL := 8) (ret := (some .int)) (by decide) rfl ?_
  intro p e s m args below meth c s₁ B hml hv0
  obtain ⟨rfl, hG, hV⟩ := hv0
  have hx := B.exec
  have hb := B.bytes
  have hr := B.returns
  have hts := atoms_spec (ws := .code y_Ho_pad b_Ho_pad 8 (some .int) :: WS) B.pre
  have hW : ∀ w ∈ WS, w.before _ s = true := fun w h => hts w (List.mem_cons_of_mem _ h)
  have hown : s.vm.findClass "BoardHouse" = some m.cls := findClass_of_methodNamed B.named
  have hlocks := B.notSynchronized
  have hS : va_S (hA N0) s.heap s.heap [] := va_S.rf
  have hl := lv_entry ([.ref b.ho, .int part, .int net, .int dx, .int dy]) (n := 8) (Nat.le_of_ble_eq_true rfl)
  rw [lg_entry_eq]
  generalize (lg_sl ([.ref b.ho, .int part, .int net, .int dx, .int dy]) ++ List.replicate (8 - (lg_sl ([.ref b.ho, .int part, .int net, .int dx, .int dy])).length) Slot.unset).toArray = ls at hl ⊢
  have hl : lv_has ls 8 [(0, .ref b.ho), (1, .int part), (2, .int net), (3, .int dx), (4, .int dy)] := hl
  have hH := hW0.1
  have hKh : hdK part = 2 := hdK_of (by decide) hk2
  obtain ⟨eK, eN, -⟩ := gv_of hW0.2.2.1 hg
  obtain ⟨efi, hi, hmi, t, hf⟩ := thing_of hW0 hg (by omega) (by omega)
  obtain ⟨i, ei⟩ : ∃ z, z = hdI part := ⟨_, rfl⟩
  rw [← ei] at efi hi hmi hf
  obtain ⟨h_t, h_a0⟩ := hH.ts.2.1 i t hi hf
  rw [← ei] at hth
  refine lv_aload_n hx hb d_Ho_pad_0 rfl (lv_at hl 0 rfl) ?_
  refine lv_iload_n hx hb d_Ho_pad_1 rfl (lv_at hl 1 rfl) ?_
  refine va_csv (va_Run.run (va_runV (As := [.int part]) (rest := []) ⟨hx, hb, hml, hown, hts⟩ (r_Ho_demandGiven l D N0 k V b.ho b.bo b.gi b.co b.ta b.ac b.ve (woA b σ.wo) (nI σ.nl) σ.rs hH.ho σ.G hH.gi part hg) (cwV 1 hts (gi_V wm_Ho_97 wv_Ho_demandGiven ws_Ho_demandGiven wi_Ho wc_Ho_demandGiven) rfl rfl rfl (by decide +kernel) ⟨Nat.le_of_ble_eq_true rfl, Nat.le_of_ble_eq_true rfl⟩) (mP.preV hG hS hV hH.ho rfl) rfl rfl hl.1 rfl (lv_room (Nat.le_of_ble_eq_true rfl)) d_Ho_pad_2 ⟨Nat.le_of_ble_eq_true rfl, Nat.le_of_ble_eq_true rfl⟩)) (fun _ => ?_)
  refine lv_aload_n hx hb d_Ho_pad_5 rfl (lv_at hl 0 rfl) ?_
  refine lv_iload_n hx hb d_Ho_pad_6 rfl (lv_at hl 2 rfl) ?_
  refine va_csv (va_Run.run (va_runV (As := [.int net]) (rest := []) ⟨hx, hb, hml, hown, hts⟩ (r_Ho_demandGiven l D N0 k V b.ho b.bo b.gi b.co b.ta b.ac b.ve (woA b σ.wo) (nI σ.nl) σ.rs hH.ho σ.G hH.gi net hg2) (cwV 1 hts (gi_V wm_Ho_97 wv_Ho_demandGiven ws_Ho_demandGiven wi_Ho wc_Ho_demandGiven) rfl rfl rfl (by decide +kernel) ⟨Nat.le_of_ble_eq_true rfl, Nat.le_of_ble_eq_true rfl⟩) (mP.preV hG hS hV hH.ho rfl) rfl rfl hl.1 rfl (lv_room (Nat.le_of_ble_eq_true rfl)) d_Ho_pad_7 ⟨Nat.le_of_ble_eq_true rfl, Nat.le_of_ble_eq_true rfl⟩)) (fun _ => ?_)
  refine lv_iload_n hx hb d_Ho_pad_10 rfl (lv_at hl 1 rfl) ?_
  refine lv_iconst (v := 2) hx hb d_Ho_pad_11 (by decide) ?_
  refine va_csv (va_Run.run (va_runS (As := [.int part, .int 2]) (rest := []) ⟨hx, hb, hml, hown, hts⟩ (r_Ho_demandKind l D N0 k V part 2 hk2) (va_cwS 2 hts (gi_S wm_Ho_101 wt_Ho_demandKind wi_Ho wc_Ho_demandKind) rfl rfl rfl (by decide +kernel) ⟨Nat.le_of_ble_eq_true rfl, Nat.le_of_ble_eq_true rfl⟩) (mP.preS hG hS hV) rfl rfl hl.1 rfl (lv_room (Nat.le_of_ble_eq_true rfl)) d_Ho_pad_12 ⟨Nat.le_of_ble_eq_true rfl, Nat.le_of_ble_eq_true rfl⟩)) (fun _ => ?_)
  refine lv_iload_n hx hb d_Ho_pad_15 rfl (lv_at hl 2 rfl) ?_
  refine lv_iconst (v := 1) hx hb d_Ho_pad_16 (by decide) ?_
  refine va_csv (va_Run.run (va_runS (As := [.int net, .int 1]) (rest := []) ⟨hx, hb, hml, hown, hts⟩ (r_Ho_demandKind l D N0 k V net 1 hk1) (va_cwS 2 hts (gi_S wm_Ho_101 wt_Ho_demandKind wi_Ho wc_Ho_demandKind) rfl rfl rfl (by decide +kernel) ⟨Nat.le_of_ble_eq_true rfl, Nat.le_of_ble_eq_true rfl⟩) (mP.preS hG hS hV) rfl rfl hl.1 rfl (lv_room (Nat.le_of_ble_eq_true rfl)) d_Ho_pad_17 ⟨Nat.le_of_ble_eq_true rfl, Nat.le_of_ble_eq_true rfl⟩)) (fun _ => ?_)
  refine lv_aload_n hx hb d_Ho_pad_20 rfl (lv_at hl 0 rfl) ?_
  refine lv_iload_n hx hb d_Ho_pad_21 rfl (lv_at hl 1 rfl) ?_
  refine va_csq (va_Run.run (va_runV (As := [.int part]) (rest := []) ⟨hx, hb, hml, hown, hts⟩ (r_Ho_demandThing l D N0 k V b.ho b.bo b.gi b.co b.ta b.ac b.ve (woA b σ.wo) (nI σ.nl) σ.rs hH.ho σ.G hH.gi b.f b.ar σ.T hH.ts part (hdK part) (hdN part) i t eK eN (by omega) (by omega) efi hi hf) (cwV 1 hts (gi_V wm_Ho_104 wv_Ho_demandThing ws_Ho_demandThing wi_Ho wc_Ho_demandThing) rfl rfl rfl (by decide +kernel) ⟨Nat.le_of_ble_eq_true rfl, Nat.le_of_ble_eq_true rfl⟩) (mP.preV hG hS hV hH.ho rfl) rfl rfl hl.1 rfl (lv_room (Nat.le_of_ble_eq_true rfl)) d_Ho_pad_22 ⟨Nat.le_of_ble_eq_true rfl, Nat.le_of_ble_eq_true rfl⟩)) (fun r_1 hp_2 => ?_)
  subst hp_2
  refine W.eq (g2 := F0 m 25 ls [.ref t]) rfl ?_
  refine lv_astore (lv' := [(5, .ref t), (0, .ref b.ho), (1, .int part), (2, .int net), (3, .int dx), (4, .int dy)]) hx hb d_Ho_pad_25 hl (by decide) rfl (fun ls hl => ?_)
  refine lv_aload hx hb d_Ho_pad_27 (lv_at hl 0 rfl) ?_
  refine va_csv (va_Run.run (va_runS (As := [.ref t]) (rest := []) ⟨hx, hb, hml, hown, hts⟩ (r_Ho_demandThere l D N0 k V t (b.ar i) (σ.T i 0) (σ.T i 1) (σ.T i 2) (σ.T i 3) (σ.T i 4) (σ.T i 5) h_t hth) (va_cwS 1 hts (gi_S wm_Ho_108 wt_Ho_demandThere wi_Ho wc_Ho_demandThere) rfl rfl rfl (by decide +kernel) ⟨Nat.le_of_ble_eq_true rfl, Nat.le_of_ble_eq_true rfl⟩) (mP.preS hG hS hV) rfl rfl hl.1 rfl (lv_room (Nat.le_of_ble_eq_true rfl)) d_Ho_pad_29 ⟨Nat.le_of_ble_eq_true rfl, Nat.le_of_ble_eq_true rfl⟩)) (fun _ => ?_)
  refine lv_aload hx hb d_Ho_pad_32 (lv_at hl 0 rfl) ?_
  refine gf_Ho_112 hx hb hW hown hG hV h_t d_Ho_pad_34 ?_
  refine gf_Ho_115 hx hb hW hown hG hV h_a0 d_Ho_pad_37 ?_
  refine lv_iload_n hx hb d_Ho_pad_40 rfl (lv_at hl 4 rfl) ?_
  refine lv_iadd hx hb d_Ho_pad_41 ?_
  refine lv_istore (lv' := [(6, .int ((σ.T i 6) + dx)), (5, .ref t), (0, .ref b.ho), (1, .int part), (2, .int net), (3, .int dx), (4, .int dy)]) hx hb d_Ho_pad_42 hl (by decide) rfl (fun ls hl => ?_)
  refine lv_aload hx hb d_Ho_pad_44 (lv_at hl 1 rfl) ?_
  refine gf_Ho_112 hx hb hW hown hG hV h_t d_Ho_pad_46 ?_
  refine gf_Ho_118 hx hb hW hown hG hV h_a0 d_Ho_pad_49 ?_
  refine lv_iload hx hb d_Ho_pad_52 (lv_at hl 6 rfl) ?_
  refine lv_iadd hx hb d_Ho_pad_54 ?_
  refine lv_istore (lv' := [(7, .int ((σ.T i 7) + dy)), (6, .int ((σ.T i 6) + dx)), (5, .ref t), (0, .ref b.ho), (1, .int part), (2, .int net), (3, .int dx), (4, .int dy)]) hx hb d_Ho_pad_55 hl (by decide) rfl (fun ls hl => ?_)
  refine lv_aload_n hx hb d_Ho_pad_57 rfl (lv_at hl 3 rfl) ?_
  refine hv_new (ci := 5) (fs := [.int 0, .int 0, .null, .int 0, .int 0, .int 0, .int 0]) (C := R_Th) (T := T_Th) (N := 7) hx hb hW in_Th t_Th ty_Th hown (hW _ wk_Ho_88) (hW _ wo_Th) (hW _ wi_Th) hG.K hV hS rfl (fun j hj => by rcases (show j = 0 ∨ j = 1 ∨ j = 2 ∨ j = 3 ∨ j = 4 ∨ j = 5 ∨ j = 6 by omega) with rfl | rfl | rfl | rfl | rfl | rfl | rfl <;> rfl) (Nat.le_of_ble_eq_true rfl) (Nat.le_of_ble_eq_true rfl) hG.N d_Ho_pad_58 (fun q_3 H hn_q_3 hN_q_3 hV hS => ?_)
  have ne_bho_q_3 : b.ho ≠ q_3 := fun z => by rw [← z, hH.ho] at hn_q_3; cases hn_q_3
  have ne_bbo_q_3 : b.bo ≠ q_3 := fun z => by rw [← z, hH.bo] at hn_q_3; cases hn_q_3
  have ne_bgi_q_3 : b.gi ≠ q_3 := fun z => by rw [← z, hH.gi] at hn_q_3; cases hn_q_3
  have ne_bco_q_3 : b.co ≠ q_3 := fun z => by rw [← z, hH.co] at hn_q_3; cases hn_q_3
  have ne_bta_q_3 : b.ta ≠ q_3 := fun z => by rw [← z, hH.ts.1] at hn_q_3; cases hn_q_3
  have ne_bac_q_3 : b.ac ≠ q_3 := fun z => by rw [← z, hH.ac.1] at hn_q_3; cases hn_q_3
  have ne_bve_q_3 : b.ve ≠ q_3 := fun z => by rw [← z, hH.ve] at hn_q_3; cases hn_q_3
  have ne_t_q_3 : t ≠ q_3 := fun z => by rw [← z, h_t] at hn_q_3; cases hn_q_3
  have ne_bari_q_3 : (b.ar i) ≠ q_3 := fun z => by rw [← z, h_a0] at hn_q_3; cases hn_q_3
  replace hV : hv D vwCl N0 (hu V q_3 (.inr (5, [.int 0, .int 0, .null, .int 0, .int 0, .int 0, .int 0]))) H := hV
  generalize hV_V_4 : hu V q_3 (.inr (5, [.int 0, .int 0, .null, .int 0, .int 0, .int 0, .int 0])) = V_4 at hV
  have hH_ho'V_4 : V_4 b.ho = some (.inr (6, [.int (nI σ.nl), .ref b.bo, .ref b.gi, .ref b.co, .ref b.ta, .ref b.ac, .ref b.ve, va_rf (woA b σ.wo), .int σ.rs])) := by rw [← hV_V_4, hu_n ne_bho_q_3]; exact hH.ho
  have hH_bo'V_4 : V_4 b.bo = some (.inr (1, [.int 0, .int 0, .int 31, .int 23])) := by rw [← hV_V_4, hu_n ne_bbo_q_3]; exact hH.bo
  have hH_gi'V_4 : V_4 b.gi = some (eI k 8 σ.G) := by rw [← hV_V_4, hu_n ne_bgi_q_3]; exact hH.gi
  have hH_co'V_4 : V_4 b.co = some (.inr (2, [.ref b.ta, .int (nI σ.nl), .ref b.ro, .ref b.on, .ref b.re, .int σ.g])) := by rw [← hV_V_4, hu_n ne_bco_q_3]; exact hH.co
  have hH_ts_1'V_4 : V_4 b.ta = some (eTs k b.f) := by rw [← hV_V_4, hu_n ne_bta_q_3]; exact hH.ts.1
  have hH_ac_1'V_4 : V_4 b.ac = some (eAs k b.fa) := by rw [← hV_V_4, hu_n ne_bac_q_3]; exact hH.ac.1
  have hH_ve'V_4 : V_4 b.ve = some (eVs k b.fv) := by rw [← hV_V_4, hu_n ne_bve_q_3]; exact hH.ve
  have h_t'V_4 : V_4 t = some (.inr (5, [.int (σ.T i 0), .int (σ.T i 1), .ref (b.ar i), .int (σ.T i 2), .int (σ.T i 3), .int (σ.T i 4), .int (σ.T i 5)])) := by rw [← hV_V_4, hu_n ne_t_q_3]; exact h_t
  have h_a0'V_4 : V_4 (b.ar i) = some (.inr (1, [.int (σ.T i 6), .int (σ.T i 7), .int (σ.T i 8), .int (σ.T i 9)])) := by rw [← hV_V_4, hu_n ne_bari_q_3]; exact h_a0
  have hq_3'V_4 : V_4 q_3 = some (.inr (5, [.int 0, .int 0, .null, .int 0, .int 0, .int 0, .int 0])) := by rw [← hV_V_4]; exact hu_s
  refine lv_dup hx hb d_Ho_pad_61 rfl ?_
  refine lv_iconst (v := 3) hx hb d_Ho_pad_62 (by decide) ?_
  refine lv_aload_n hx hb d_Ho_pad_63 rfl (lv_at hl 3 rfl) ?_
  refine gf_Ho_18 hx hb hW hown hG hV hH_ho'V_4 d_Ho_pad_64 ?_
  refine lv_iconst (v := 3) hx hb d_Ho_pad_67 (by decide) ?_
  refine hv_iald hx hb hG.K hV 0 hH_gi'V_4 rfl ((vp_in_nI (by omega) (by omega) : vp_in (nI 3) 8)) d_Ho_pad_68 ?_
  rw [show (3 : Int32).toNatClampNeg = 3 from rfl]
  refine hv_new (ci := 1) (fs := [.int 0, .int 0, .int 0, .int 0]) (C := R_Ar) (T := T_Ar) (N := 4) hx hb hW in_Ar t_Ar ty_Ar hown (hW _ wk_Ho_9) (hW _ wo_Ar) (hW _ wi_Ar) hG.K hV hS rfl (fun j hj => by rcases (show j = 0 ∨ j = 1 ∨ j = 2 ∨ j = 3 by omega) with rfl | rfl | rfl | rfl <;> rfl) (Nat.le_of_ble_eq_true rfl) (Nat.le_of_ble_eq_true rfl) hG.N d_Ho_pad_69 (fun q_5 H hn_q_5 hN_q_5 hV hS => ?_)
  have ne_bho_q_5 : b.ho ≠ q_5 := fun z => by rw [← z, hH_ho'V_4] at hn_q_5; cases hn_q_5
  have ne_bbo_q_5 : b.bo ≠ q_5 := fun z => by rw [← z, hH_bo'V_4] at hn_q_5; cases hn_q_5
  have ne_bgi_q_5 : b.gi ≠ q_5 := fun z => by rw [← z, hH_gi'V_4] at hn_q_5; cases hn_q_5
  have ne_bco_q_5 : b.co ≠ q_5 := fun z => by rw [← z, hH_co'V_4] at hn_q_5; cases hn_q_5
  have ne_bta_q_5 : b.ta ≠ q_5 := fun z => by rw [← z, hH_ts_1'V_4] at hn_q_5; cases hn_q_5
  have ne_bac_q_5 : b.ac ≠ q_5 := fun z => by rw [← z, hH_ac_1'V_4] at hn_q_5; cases hn_q_5
  have ne_bve_q_5 : b.ve ≠ q_5 := fun z => by rw [← z, hH_ve'V_4] at hn_q_5; cases hn_q_5
  have ne_t_q_5 : t ≠ q_5 := fun z => by rw [← z, h_t'V_4] at hn_q_5; cases hn_q_5
  have ne_bari_q_5 : (b.ar i) ≠ q_5 := fun z => by rw [← z, h_a0'V_4] at hn_q_5; cases hn_q_5
  have ne_q_3_q_5 : q_3 ≠ q_5 := fun z => by rw [← z, hq_3'V_4] at hn_q_5; cases hn_q_5
  replace hV : hv D vwCl N0 (hu V_4 q_5 (.inr (1, [.int 0, .int 0, .int 0, .int 0]))) H := hV
  generalize hV_V_6 : hu V_4 q_5 (.inr (1, [.int 0, .int 0, .int 0, .int 0])) = V_6 at hV
  have hH_ho'V_6 : V_6 b.ho = some (.inr (6, [.int (nI σ.nl), .ref b.bo, .ref b.gi, .ref b.co, .ref b.ta, .ref b.ac, .ref b.ve, va_rf (woA b σ.wo), .int σ.rs])) := by rw [← hV_V_6, hu_n ne_bho_q_5]; exact hH_ho'V_4
  have hH_bo'V_6 : V_6 b.bo = some (.inr (1, [.int 0, .int 0, .int 31, .int 23])) := by rw [← hV_V_6, hu_n ne_bbo_q_5]; exact hH_bo'V_4
  have hH_gi'V_6 : V_6 b.gi = some (eI k 8 σ.G) := by rw [← hV_V_6, hu_n ne_bgi_q_5]; exact hH_gi'V_4
  have hH_co'V_6 : V_6 b.co = some (.inr (2, [.ref b.ta, .int (nI σ.nl), .ref b.ro, .ref b.on, .ref b.re, .int σ.g])) := by rw [← hV_V_6, hu_n ne_bco_q_5]; exact hH_co'V_4
  have hH_ts_1'V_6 : V_6 b.ta = some (eTs k b.f) := by rw [← hV_V_6, hu_n ne_bta_q_5]; exact hH_ts_1'V_4
  have hH_ac_1'V_6 : V_6 b.ac = some (eAs k b.fa) := by rw [← hV_V_6, hu_n ne_bac_q_5]; exact hH_ac_1'V_4
  have hH_ve'V_6 : V_6 b.ve = some (eVs k b.fv) := by rw [← hV_V_6, hu_n ne_bve_q_5]; exact hH_ve'V_4
  have h_t'V_6 : V_6 t = some (.inr (5, [.int (σ.T i 0), .int (σ.T i 1), .ref (b.ar i), .int (σ.T i 2), .int (σ.T i 3), .int (σ.T i 4), .int (σ.T i 5)])) := by rw [← hV_V_6, hu_n ne_t_q_5]; exact h_t'V_4
  have h_a0'V_6 : V_6 (b.ar i) = some (.inr (1, [.int (σ.T i 6), .int (σ.T i 7), .int (σ.T i 8), .int (σ.T i 9)])) := by rw [← hV_V_6, hu_n ne_bari_q_5]; exact h_a0'V_4
  have hq_3'V_6 : V_6 q_3 = some (.inr (5, [.int 0, .int 0, .null, .int 0, .int 0, .int 0, .int 0])) := by rw [← hV_V_6, hu_n ne_q_3_q_5]; exact hq_3'V_4
  have hq_5'V_6 : V_6 q_5 = some (.inr (1, [.int 0, .int 0, .int 0, .int 0])) := by rw [← hV_V_6]; exact hu_s
  refine lv_dup hx hb d_Ho_pad_72 rfl ?_
  refine lv_iload hx hb d_Ho_pad_73 (lv_at hl 1 rfl) ?_
  refine lv_iload hx hb d_Ho_pad_75 (lv_at hl 0 rfl) ?_
  refine lv_iload hx hb d_Ho_pad_77 (lv_at hl 1 rfl) ?_
  refine lv_iload hx hb d_Ho_pad_79 (lv_at hl 0 rfl) ?_
  refine rc_V (va_runI (As := [.int ((σ.T i 6) + dx), .int ((σ.T i 7) + dy), .int ((σ.T i 6) + dx), .int ((σ.T i 7) + dy)]) (rest := [.ref q_5, .int (σ.G 3), .int 3, .ref q_3, .ref q_3, .ref b.ho]) ⟨hx, hb, hml, hown, hts⟩ (c_Ar_init l D N0 k V_6 q_5 ((σ.T i 6) + dx) ((σ.T i 7) + dy) ((σ.T i 6) + dx) ((σ.T i 7) + dy) 0 0 0 0 hq_5'V_6) (cwI 4 hts (gi_c wc_Ar_init) rfl rfl rfl (hW _ wi_Ar) (hW _ wm_Ho_11) (hW _ wv_Ar_init) rfl (by decide +kernel) ⟨Nat.le_of_ble_eq_true rfl, Nat.le_of_ble_eq_true rfl⟩) (mP.preS hG hS hV) rfl rfl hl.1 rfl (lv_room (Nat.le_of_ble_eq_true rfl)) d_Ho_pad_81 ⟨Nat.le_of_ble_eq_true rfl, Nat.le_of_ble_eq_true rfl⟩) hS (fun V_7 H locs hp_8 hV hS => ?_)
  have hV_V_7 := hp_8.symm
  have hH_ho'V_7 : V_7 b.ho = some (.inr (6, [.int (nI σ.nl), .ref b.bo, .ref b.gi, .ref b.co, .ref b.ta, .ref b.ac, .ref b.ve, va_rf (woA b σ.wo), .int σ.rs])) := by rw [← hV_V_7, hu_n ne_bho_q_5]; exact hH_ho'V_6
  have hH_bo'V_7 : V_7 b.bo = some (.inr (1, [.int 0, .int 0, .int 31, .int 23])) := by rw [← hV_V_7, hu_n ne_bbo_q_5]; exact hH_bo'V_6
  have hH_gi'V_7 : V_7 b.gi = some (eI k 8 σ.G) := by rw [← hV_V_7, hu_n ne_bgi_q_5]; exact hH_gi'V_6
  have hH_co'V_7 : V_7 b.co = some (.inr (2, [.ref b.ta, .int (nI σ.nl), .ref b.ro, .ref b.on, .ref b.re, .int σ.g])) := by rw [← hV_V_7, hu_n ne_bco_q_5]; exact hH_co'V_6
  have hH_ts_1'V_7 : V_7 b.ta = some (eTs k b.f) := by rw [← hV_V_7, hu_n ne_bta_q_5]; exact hH_ts_1'V_6
  have hH_ac_1'V_7 : V_7 b.ac = some (eAs k b.fa) := by rw [← hV_V_7, hu_n ne_bac_q_5]; exact hH_ac_1'V_6
  have hH_ve'V_7 : V_7 b.ve = some (eVs k b.fv) := by rw [← hV_V_7, hu_n ne_bve_q_5]; exact hH_ve'V_6
  have h_t'V_7 : V_7 t = some (.inr (5, [.int (σ.T i 0), .int (σ.T i 1), .ref (b.ar i), .int (σ.T i 2), .int (σ.T i 3), .int (σ.T i 4), .int (σ.T i 5)])) := by rw [← hV_V_7, hu_n ne_t_q_5]; exact h_t'V_6
  have h_a0'V_7 : V_7 (b.ar i) = some (.inr (1, [.int (σ.T i 6), .int (σ.T i 7), .int (σ.T i 8), .int (σ.T i 9)])) := by rw [← hV_V_7, hu_n ne_bari_q_5]; exact h_a0'V_6
  have hq_3'V_7 : V_7 q_3 = some (.inr (5, [.int 0, .int 0, .null, .int 0, .int 0, .int 0, .int 0])) := by rw [← hV_V_7, hu_n ne_q_3_q_5]; exact hq_3'V_6
  have hq_5'V_7 : V_7 q_5 = some (eAr ((σ.T i 6) + dx) ((σ.T i 7) + dy) ((σ.T i 6) + dx) ((σ.T i 7) + dy)) := by rw [← hV_V_7]; exact hu_s
  refine lv_iconst (v := 0) hx hb d_Ho_pad_84 (by decide) ?_
  refine lv_iload_n hx hb d_Ho_pad_85 rfl (lv_at hl 5 rfl) ?_
  refine lv_iload_n hx hb d_Ho_pad_86 rfl (lv_at hl 4 rfl) ?_
  refine rc_V (va_runI (As := [.int 3, .int (σ.G 3), .ref q_5, .int 0, .int net, .int part]) (rest := [.ref q_3, .ref b.ho]) ⟨hx, hb, hml, hown, hts⟩ (c_Th_init l D N0 k V_7 q_3 q_5 3 (σ.G 3) 0 net part hq_3'V_7) (cwI 6 hts (gi_c wc_Th_init) rfl rfl rfl (hW _ wi_Th) (hW _ wm_Ho_90) (hW _ wv_Th_init) rfl (by decide +kernel) ⟨Nat.le_of_ble_eq_true rfl, Nat.le_of_ble_eq_true rfl⟩) (mP.preS hG hS hV) rfl rfl hl.1 rfl (lv_room (Nat.le_of_ble_eq_true rfl)) d_Ho_pad_87 ⟨Nat.le_of_ble_eq_true rfl, Nat.le_of_ble_eq_true rfl⟩) hS (fun V_9 H locs hp_10 hV hS => ?_)
  have hV_V_9 := hp_10.symm
  have hH_ho'V_9 : V_9 b.ho = some (.inr (6, [.int (nI σ.nl), .ref b.bo, .ref b.gi, .ref b.co, .ref b.ta, .ref b.ac, .ref b.ve, va_rf (woA b σ.wo), .int σ.rs])) := by rw [← hV_V_9, hu_n ne_bho_q_3]; exact hH_ho'V_7
  have hH_bo'V_9 : V_9 b.bo = some (.inr (1, [.int 0, .int 0, .int 31, .int 23])) := by rw [← hV_V_9, hu_n ne_bbo_q_3]; exact hH_bo'V_7
  have hH_gi'V_9 : V_9 b.gi = some (eI k 8 σ.G) := by rw [← hV_V_9, hu_n ne_bgi_q_3]; exact hH_gi'V_7
  have hH_co'V_9 : V_9 b.co = some (.inr (2, [.ref b.ta, .int (nI σ.nl), .ref b.ro, .ref b.on, .ref b.re, .int σ.g])) := by rw [← hV_V_9, hu_n ne_bco_q_3]; exact hH_co'V_7
  have hH_ts_1'V_9 : V_9 b.ta = some (eTs k b.f) := by rw [← hV_V_9, hu_n ne_bta_q_3]; exact hH_ts_1'V_7
  have hH_ac_1'V_9 : V_9 b.ac = some (eAs k b.fa) := by rw [← hV_V_9, hu_n ne_bac_q_3]; exact hH_ac_1'V_7
  have hH_ve'V_9 : V_9 b.ve = some (eVs k b.fv) := by rw [← hV_V_9, hu_n ne_bve_q_3]; exact hH_ve'V_7
  have h_t'V_9 : V_9 t = some (.inr (5, [.int (σ.T i 0), .int (σ.T i 1), .ref (b.ar i), .int (σ.T i 2), .int (σ.T i 3), .int (σ.T i 4), .int (σ.T i 5)])) := by rw [← hV_V_9, hu_n ne_t_q_3]; exact h_t'V_7
  have h_a0'V_9 : V_9 (b.ar i) = some (.inr (1, [.int (σ.T i 6), .int (σ.T i 7), .int (σ.T i 8), .int (σ.T i 9)])) := by rw [← hV_V_9, hu_n ne_bari_q_3]; exact h_a0'V_7
  have hq_5'V_9 : V_9 q_5 = some (.inr (1, [.int ((σ.T i 6) + dx), .int ((σ.T i 7) + dy), .int ((σ.T i 6) + dx), .int ((σ.T i 7) + dy)])) := by rw [← hV_V_9, hu_n (Ne.symm ne_q_3_q_5)]; exact hq_5'V_7
  have hq_3'V_9 : V_9 q_3 = some (eTh 3 (σ.G 3) q_5 0 net part 0) := by rw [← hV_V_9]; exact hu_s
  refine lv_aload hx hb d_Ho_pad_90 (lv_at hl 2 rfl) ?_
  refine gf_Ho_112 hx hb hW hown hG hV h_t'V_9 d_Ho_pad_92 ?_
  obtain ⟨Vm, eVm⟩ : ∃ z, z = V_9 := ⟨_, rfl⟩
  have lb2 : ((b.lab q_3 5000).lab q_5 5001).lb q_5 = 5001 := HA.lab_s
  have lb1 : ((b.lab q_3 5000).lab q_5 5001).lb q_3 = 5000 := (HA.lab_n ne_q_3_q_5).trans HA.lab_s
  have hH_V_4 : hsOk k V_4 (b.lab q_3 5000) σ := by rw [← hV_V_4]; exact hs_new hH hn_q_3
  have hF_V_4 : hsFr b (b.lab q_3 5000) V V_4 := by rw [← hV_V_4]; exact hsFr.tr (hsFr.rf (a := b) (V := V)) (hsFr_new hn_q_3)
  have hH_V_6 : hsOk k V_6 ((b.lab q_3 5000).lab q_5 5001) σ := by rw [← hV_V_6]; exact hs_new hH_V_4 hn_q_5
  have hF_V_6 : hsFr b ((b.lab q_3 5000).lab q_5 5001) V V_6 := by rw [← hV_V_6]; exact hsFr.tr hF_V_4 (hsFr_new hn_q_5)
  have hH_V_7 : hsOk k V_7 ((b.lab q_3 5000).lab q_5 5001) σ := by rw [← hV_V_7]; exact hs_tmp hH_V_6 (by rw [lb2]; omega)
  have hF_V_7 : hsFr b ((b.lab q_3 5000).lab q_5 5001) V V_7 := by rw [← hV_V_7]; exact hsFr.tr hF_V_6 (hsFr_hu (by rw [lb2]; omega))
  have hH_V_9 : hsOk k V_9 ((b.lab q_3 5000).lab q_5 5001) σ := by rw [← hV_V_9]; exact hs_tmp hH_V_7 (by rw [lb1]; omega)
  have hF_V_9 : hsFr b ((b.lab q_3 5000).lab q_5 5001) V V_9 := by rw [← hV_V_9]; exact hsFr.tr hF_V_7 (hsFr_hu (by rw [lb1]; omega))
  have hHm := hH_V_9
  have hFm := hF_V_9
  refine rc_I (va_runV (As := [.ref q_3, .ref (b.ar i)]) (rest := []) ⟨hx, hb, hml, hown, hts⟩ (c_Ho_make l D N0 k V_9 ((b.lab q_3 5000).lab q_5 5001) σ hHm q_3 q_5 (mkR 3 (σ.G 3) 0 net part ((σ.T i 6) + dx) ((σ.T i 7) + dy) ((σ.T i 6) + dx) ((σ.T i 7) + dy)) hq_3'V_9 hq_5'V_9 (b.ar i) (σ.T i 6) (σ.T i 7) (σ.T i 8) (σ.T i 9) h_a0'V_9 3 rfl (by omega) (by omega) (fiN 3 + gN σ 3) (fun hz => slot_free hW0 (by omega) (by omega) hz) lb1 lb2) (cwV 2 hts (gi_V wm_Ho_93 wv_Ho_make ws_Ho_make wi_Ho wc_Ho_make) rfl rfl rfl (by decide +kernel) ⟨Nat.le_of_ble_eq_true rfl, Nat.le_of_ble_eq_true rfl⟩) (mP.preV hG hS hV hH_ho'V_9 rfl) rfl rfl hl.1 rfl (lv_room (Nat.le_of_ble_eq_true rfl)) d_Ho_pad_95 ⟨Nat.le_of_ble_eq_true rfl, Nat.le_of_ble_eq_true rfl⟩) hS (fun r_11 V_12 H locs hp_13 hV hS => ?_)
  have hfin := mk_post hW0 (bm := ((b.lab q_3 5000).lab q_5 5001)) (K := 3) (R := (mkR 3 (σ.G 3) 0 net part ((σ.T i 6) + dx) ((σ.T i 7) + dy) ((σ.T i 6) + dx) ((σ.T i 7) + dy))) rfl rfl rfl hFm (by omega) (by omega) rfl rfl hp_13
  exact W.iret (v := r_11) hx hb hr (fun t9 ht hW => ⟨⟨r_11, V_12, rfl, by rw [← ei]; exact hfin, mB_of ht hV⟩, hS.F ht⟩) hS.2.2 d_Ho_pad_98
set_option maxHeartbeats 4000000 in
set_option maxRecDepth 100000 in
/-- pad: no such part -/
theorem t_Ho_pad1 (l : Launch) (hls : l.stackTraces = false) (D : va_G) (N0 : Nat) (k : Nat → Nat) (V : HV) (b : HA) (σ : HS) (hH : hsOk k V b σ) (part net dx dy : Int32) (hg : gvOk σ.G part = false) : hx_Met l y_Ho_pad (.code y_Ho_pad b_Ho_pad 8 (some .int) :: WS) ({ frames := 7, cells := 1, slots := 6, locals := 118 }) (mP D N0 k [.ref b.ho, .int part, .int net, .int dx, .int dy] V) "java/lang/IndexOutOfBoundsException" (fun H9 => hv D vwCl N0 V H9) N0 1 6 := by
  refine hx_ofW (cc := b_Ho_pad) (maxL := 8) (ret := (some .int)) (by decide) rfl ?_
  intro p e s m args below meth c s₁ B hml hno hv0
  obtain ⟨rfl, hG, hV⟩ := hv0
  have hx := B.exec
  have hb := B.bytes
  have hr := B.returns
  have hts := atoms_spec (ws := .code y_Ho_pad b_Ho_pad 8 (some .int) :: WS) B.pre
  have hW : ∀ w ∈ WS, w.before _ s = true := fun w h => hts w (List.mem_cons_of_mem _ h)
  have hown : s.vm.findClass "BoardHouse" = some m.cls := findClass_of_methodNamed B.named
  have hlocks := B.notSynchronized
  have hS : va_S (hA N0) s.heap s.heap [] := va_S.rf
  have hl := lv_entry ([.ref b.ho, .int part, .int net, .int dx, .int dy]) (n := 8) (Nat.le_of_ble_eq_true rfl)
  rw [lg_entry_eq]
  generalize (lg_sl ([.ref b.ho, .int part, .int net, .int dx, .int dy]) ++ List.replicate (8 - (lg_sl ([.ref b.ho, .int part, .int net, .int dx, .int dy])).length) Slot.unset).toArray = ls at hl ⊢
  have hl : lv_has ls 8 [(0, .ref b.ho), (1, .int part), (2, .int net), (3, .int dx), (4, .int dy)] := hl
  refine lv_aload_n hx hb d_Ho_pad_0 rfl (lv_at hl 0 rfl) ?_
  refine lv_iload_n hx hb d_Ho_pad_1 rfl (lv_at hl 1 rfl) ?_
  exact hx_callOut (hx_runV (As := [.int part]) (rest := []) ⟨hx, hb, hml, hown, hts⟩ (t_Ho_demandGiven l hls D N0 k V b.ho b.bo b.gi b.co b.ta b.ac b.ve (woA b σ.wo) (nI σ.nl) σ.rs hH.ho σ.G hH.gi part hg) (cwV 1 hts (gi_V wm_Ho_97 wv_Ho_demandGiven ws_Ho_demandGiven wi_Ho wc_Ho_demandGiven) rfl rfl rfl (by decide +kernel) ⟨Nat.le_of_ble_eq_true rfl, Nat.le_of_ble_eq_true rfl⟩) (mP.preV hG hS hV hH.ho rfl) rfl rfl hl.1 rfl (lv_room (Nat.le_of_ble_eq_true rfl)) d_Ho_pad_2 ⟨Nat.le_of_ble_eq_true rfl, Nat.le_of_ble_eq_true rfl⟩) hno hlocks hS (Nat.le_of_ble_eq_true rfl) (Nat.le_of_ble_eq_true rfl)
set_option maxHeartbeats 4000000 in
set_option maxRecDepth 100000 in
/-- pad: no such net -/
theorem t_Ho_pad2 (l : Launch) (hls : l.stackTraces = false) (D : va_G) (N0 : Nat) (k : Nat → Nat) (V : HV) (b : HA) (σ : HS) (hH : hsOk k V b σ) (part net dx dy : Int32) (hg : gvOk σ.G part = true) (hg2 : gvOk σ.G net = false) : hx_Met l y_Ho_pad (.code y_Ho_pad b_Ho_pad 8 (some .int) :: WS) ({ frames := 7, cells := 1, slots := 6, locals := 118 }) (mP D N0 k [.ref b.ho, .int part, .int net, .int dx, .int dy] V) "java/lang/IndexOutOfBoundsException" (fun H9 => hv D vwCl N0 V H9) N0 1 6 := by
  refine hx_ofW (cc := b_Ho_pad) (maxL := 8) (ret := (some .int)) (by decide) rfl ?_
  intro p e s m args below meth c s₁ B hml hno hv0
  obtain ⟨rfl, hG, hV⟩ := hv0
  have hx := B.exec
  have hb := B.bytes
  have hr := B.returns
  have hts := atoms_spec (ws := .code y_Ho_pad b_Ho_pad 8 (some .int) :: WS) B.pre
  have hW : ∀ w ∈ WS, w.before _ s = true := fun w h => hts w (List.mem_cons_of_mem _ h)
  have hown : s.vm.findClass "BoardHouse" = some m.cls := findClass_of_methodNamed B.named
  have hlocks := B.notSynchronized
  have hS : va_S (hA N0) s.heap s.heap [] := va_S.rf
  have hl := lv_entry ([.ref b.ho, .int part, .int net, .int dx, .int dy]) (n := 8) (Nat.le_of_ble_eq_true rfl)
  rw [lg_entry_eq]
  generalize (lg_sl ([.ref b.ho, .int part, .int net, .int dx, .int dy]) ++ List.replicate (8 - (lg_sl ([.ref b.ho, .int part, .int net, .int dx, .int dy])).length) Slot.unset).toArray = ls at hl ⊢
  have hl : lv_has ls 8 [(0, .ref b.ho), (1, .int part), (2, .int net), (3, .int dx), (4, .int dy)] := hl
  refine lv_aload_n hx hb d_Ho_pad_0 rfl (lv_at hl 0 rfl) ?_
  refine lv_iload_n hx hb d_Ho_pad_1 rfl (lv_at hl 1 rfl) ?_
  refine va_csv (va_Run.run (va_runV (As := [.int part]) (rest := []) ⟨hx, hb, hml, hown, hts⟩ (r_Ho_demandGiven l D N0 k V b.ho b.bo b.gi b.co b.ta b.ac b.ve (woA b σ.wo) (nI σ.nl) σ.rs hH.ho σ.G hH.gi part hg) (cwV 1 hts (gi_V wm_Ho_97 wv_Ho_demandGiven ws_Ho_demandGiven wi_Ho wc_Ho_demandGiven) rfl rfl rfl (by decide +kernel) ⟨Nat.le_of_ble_eq_true rfl, Nat.le_of_ble_eq_true rfl⟩) (mP.preV hG hS hV hH.ho rfl) rfl rfl hl.1 rfl (lv_room (Nat.le_of_ble_eq_true rfl)) d_Ho_pad_2 ⟨Nat.le_of_ble_eq_true rfl, Nat.le_of_ble_eq_true rfl⟩)) (fun _ => ?_)
  refine lv_aload_n hx hb d_Ho_pad_5 rfl (lv_at hl 0 rfl) ?_
  refine lv_iload_n hx hb d_Ho_pad_6 rfl (lv_at hl 2 rfl) ?_
  exact hx_callOut (hx_runV (As := [.int net]) (rest := []) ⟨hx, hb, hml, hown, hts⟩ (t_Ho_demandGiven l hls D N0 k V b.ho b.bo b.gi b.co b.ta b.ac b.ve (woA b σ.wo) (nI σ.nl) σ.rs hH.ho σ.G hH.gi net hg2) (cwV 1 hts (gi_V wm_Ho_97 wv_Ho_demandGiven ws_Ho_demandGiven wi_Ho wc_Ho_demandGiven) rfl rfl rfl (by decide +kernel) ⟨Nat.le_of_ble_eq_true rfl, Nat.le_of_ble_eq_true rfl⟩) (mP.preV hG hS hV hH.ho rfl) rfl rfl hl.1 rfl (lv_room (Nat.le_of_ble_eq_true rfl)) d_Ho_pad_7 ⟨Nat.le_of_ble_eq_true rfl, Nat.le_of_ble_eq_true rfl⟩) hno hlocks hS (Nat.le_of_ble_eq_true rfl) (Nat.le_of_ble_eq_true rfl)
set_option maxHeartbeats 4000000 in
set_option maxRecDepth 100000 in
/-- pad: not a part -/
theorem t_Ho_pad3 (l : Launch) (hls : l.stackTraces = false) (D : va_G) (N0 : Nat) (k : Nat → Nat) (V : HV) (b : HA) (σ : HS) (hH : hsOk k V b σ) (part net dx dy : Int32) (hg : gvOk σ.G part = true) (hg2 : gvOk σ.G net = true) (hk2 : ¬ part / 1000 = 2) : hx_Met l y_Ho_pad (.code y_Ho_pad b_Ho_pad 8 (some .int) :: WS) ({ frames := 7, cells := 1, slots := 6, locals := 118 }) (mP D N0 k [.ref b.ho, .int part, .int net, .int dx, .int dy] V) "java/lang/IllegalArgumentException" (fun H9 => hv D vwCl N0 V H9) N0 1 6 := by
  refine hx_ofW (cc := b_Ho_pad) (maxL := 8) (ret := (some .int)) (by decide) rfl ?_
  intro p e s m args below meth c s₁ B hml hno hv0
  obtain ⟨rfl, hG, hV⟩ := hv0
  have hx := B.exec
  have hb := B.bytes
  have hr := B.returns
  have hts := atoms_spec (ws := .code y_Ho_pad b_Ho_pad 8 (some .int) :: WS) B.pre
  have hW : ∀ w ∈ WS, w.before _ s = true := fun w h => hts w (List.mem_cons_of_mem _ h)
  have hown : s.vm.findClass "BoardHouse" = some m.cls := findClass_of_methodNamed B.named
  have hlocks := B.notSynchronized
  have hS : va_S (hA N0) s.heap s.heap [] := va_S.rf
  have hl := lv_entry ([.ref b.ho, .int part, .int net, .int dx, .int dy]) (n := 8) (Nat.le_of_ble_eq_true rfl)
  rw [lg_entry_eq]
  generalize (lg_sl ([.ref b.ho, .int part, .int net, .int dx, .int dy]) ++ List.replicate (8 - (lg_sl ([.ref b.ho, .int part, .int net, .int dx, .int dy])).length) Slot.unset).toArray = ls at hl ⊢
  have hl : lv_has ls 8 [(0, .ref b.ho), (1, .int part), (2, .int net), (3, .int dx), (4, .int dy)] := hl
  refine lv_aload_n hx hb d_Ho_pad_0 rfl (lv_at hl 0 rfl) ?_
  refine lv_iload_n hx hb d_Ho_pad_1 rfl (lv_at hl 1 rfl) ?_
  refine va_csv (va_Run.run (va_runV (As := [.int part]) (rest := []) ⟨hx, hb, hml, hown, hts⟩ (r_Ho_demandGiven l D N0 k V b.ho b.bo b.gi b.co b.ta b.ac b.ve (woA b σ.wo) (nI σ.nl) σ.rs hH.ho σ.G hH.gi part hg) (cwV 1 hts (gi_V wm_Ho_97 wv_Ho_demandGiven ws_Ho_demandGiven wi_Ho wc_Ho_demandGiven) rfl rfl rfl (by decide +kernel) ⟨Nat.le_of_ble_eq_true rfl, Nat.le_of_ble_eq_true rfl⟩) (mP.preV hG hS hV hH.ho rfl) rfl rfl hl.1 rfl (lv_room (Nat.le_of_ble_eq_true rfl)) d_Ho_pad_2 ⟨Nat.le_of_ble_eq_true rfl, Nat.le_of_ble_eq_true rfl⟩)) (fun _ => ?_)
  refine lv_aload_n hx hb d_Ho_pad_5 rfl (lv_at hl 0 rfl) ?_
  refine lv_iload_n hx hb d_Ho_pad_6 rfl (lv_at hl 2 rfl) ?_
  refine va_csv (va_Run.run (va_runV (As := [.int net]) (rest := []) ⟨hx, hb, hml, hown, hts⟩ (r_Ho_demandGiven l D N0 k V b.ho b.bo b.gi b.co b.ta b.ac b.ve (woA b σ.wo) (nI σ.nl) σ.rs hH.ho σ.G hH.gi net hg2) (cwV 1 hts (gi_V wm_Ho_97 wv_Ho_demandGiven ws_Ho_demandGiven wi_Ho wc_Ho_demandGiven) rfl rfl rfl (by decide +kernel) ⟨Nat.le_of_ble_eq_true rfl, Nat.le_of_ble_eq_true rfl⟩) (mP.preV hG hS hV hH.ho rfl) rfl rfl hl.1 rfl (lv_room (Nat.le_of_ble_eq_true rfl)) d_Ho_pad_7 ⟨Nat.le_of_ble_eq_true rfl, Nat.le_of_ble_eq_true rfl⟩)) (fun _ => ?_)
  refine lv_iload_n hx hb d_Ho_pad_10 rfl (lv_at hl 1 rfl) ?_
  refine lv_iconst (v := 2) hx hb d_Ho_pad_11 (by decide) ?_
  exact hx_callOut (hx_runS (As := [.int part, .int 2]) (rest := []) ⟨hx, hb, hml, hown, hts⟩ (t_Ho_demandKind l hls D N0 k V part 2 hk2) (va_cwS 2 hts (gi_S wm_Ho_101 wt_Ho_demandKind wi_Ho wc_Ho_demandKind) rfl rfl rfl (by decide +kernel) ⟨Nat.le_of_ble_eq_true rfl, Nat.le_of_ble_eq_true rfl⟩) (mP.preS hG hS hV) rfl rfl hl.1 rfl (lv_room (Nat.le_of_ble_eq_true rfl)) d_Ho_pad_12 ⟨Nat.le_of_ble_eq_true rfl, Nat.le_of_ble_eq_true rfl⟩) hno hlocks hS (Nat.le_of_ble_eq_true rfl) (Nat.le_of_ble_eq_true rfl)
set_option maxHeartbeats 4000000 in
set_option maxRecDepth 100000 in
/-- pad: not a net -/
theorem t_Ho_pad4 (l : Launch) (hls : l.stackTraces = false) (D : va_G) (N0 : Nat) (k : Nat → Nat) (V : HV) (b : HA) (σ : HS) (hH : hsOk k V b σ) (part net dx dy : Int32) (hg : gvOk σ.G part = true) (hg2 : gvOk σ.G net = true) (hk2 : part / 1000 = 2) (hk1 : ¬ net / 1000 = 1) : hx_Met l y_Ho_pad (.code y_Ho_pad b_Ho_pad 8 (some .int) :: WS) ({ frames := 7, cells := 1, slots := 6, locals := 118 }) (mP D N0 k [.ref b.ho, .int part, .int net, .int dx, .int dy] V) "java/lang/IllegalArgumentException" (fun H9 => hv D vwCl N0 V H9) N0 1 6 := by
  refine hx_ofW (cc := b_Ho_pad) (maxL := 8) (ret := (some .int)) (by decide) rfl ?_
  intro p e s m args below meth c s₁ B hml hno hv0
  obtain ⟨rfl, hG, hV⟩ := hv0
  have hx := B.exec
  have hb := B.bytes
  have hr := B.returns
  have hts := atoms_spec (ws := .code y_Ho_pad b_Ho_pad 8 (some .int) :: WS) B.pre
  have hW : ∀ w ∈ WS, w.before _ s = true := fun w h => hts w (List.mem_cons_of_mem _ h)
  have hown : s.vm.findClass "BoardHouse" = some m.cls := findClass_of_methodNamed B.named
  have hlocks := B.notSynchronized
  have hS : va_S (hA N0) s.heap s.heap [] := va_S.rf
  have hl := lv_entry ([.ref b.ho, .int part, .int net, .int dx, .int dy]) (n := 8) (Nat.le_of_ble_eq_true rfl)
  rw [lg_entry_eq]
  generalize (lg_sl ([.ref b.ho, .int part, .int net, .int dx, .int dy]) ++ List.replicate (8 - (lg_sl ([.ref b.ho, .int part, .int net, .int dx, .int dy])).length) Slot.unset).toArray = ls at hl ⊢
  have hl : lv_has ls 8 [(0, .ref b.ho), (1, .int part), (2, .int net), (3, .int dx), (4, .int dy)] := hl
  refine lv_aload_n hx hb d_Ho_pad_0 rfl (lv_at hl 0 rfl) ?_
  refine lv_iload_n hx hb d_Ho_pad_1 rfl (lv_at hl 1 rfl) ?_
  refine va_csv (va_Run.run (va_runV (As := [.int part]) (rest := []) ⟨hx, hb, hml, hown, hts⟩ (r_Ho_demandGiven l D N0 k V b.ho b.bo b.gi b.co b.ta b.ac b.ve (woA b σ.wo) (nI σ.nl) σ.rs hH.ho σ.G hH.gi part hg) (cwV 1 hts (gi_V wm_Ho_97 wv_Ho_demandGiven ws_Ho_demandGiven wi_Ho wc_Ho_demandGiven) rfl rfl rfl (by decide +kernel) ⟨Nat.le_of_ble_eq_true rfl, Nat.le_of_ble_eq_true rfl⟩) (mP.preV hG hS hV hH.ho rfl) rfl rfl hl.1 rfl (lv_room (Nat.le_of_ble_eq_true rfl)) d_Ho_pad_2 ⟨Nat.le_of_ble_eq_true rfl, Nat.le_of_ble_eq_true rfl⟩)) (fun _ => ?_)
  refine lv_aload_n hx hb d_Ho_pad_5 rfl (lv_at hl 0 rfl) ?_
  refine lv_iload_n hx hb d_Ho_pad_6 rfl (lv_at hl 2 rfl) ?_
  refine va_csv (va_Run.run (va_runV (As := [.int net]) (rest := []) ⟨hx, hb, hml, hown, hts⟩ (r_Ho_demandGiven l D N0 k V b.ho b.bo b.gi b.co b.ta b.ac b.ve (woA b σ.wo) (nI σ.nl) σ.rs hH.ho σ.G hH.gi net hg2) (cwV 1 hts (gi_V wm_Ho_97 wv_Ho_demandGiven ws_Ho_demandGiven wi_Ho wc_Ho_demandGiven) rfl rfl rfl (by decide +kernel) ⟨Nat.le_of_ble_eq_true rfl, Nat.le_of_ble_eq_true rfl⟩) (mP.preV hG hS hV hH.ho rfl) rfl rfl hl.1 rfl (lv_room (Nat.le_of_ble_eq_true rfl)) d_Ho_pad_7 ⟨Nat.le_of_ble_eq_true rfl, Nat.le_of_ble_eq_true rfl⟩)) (fun _ => ?_)
  refine lv_iload_n hx hb d_Ho_pad_10 rfl (lv_at hl 1 rfl) ?_
  refine lv_iconst (v := 2) hx hb d_Ho_pad_11 (by decide) ?_
  refine va_csv (va_Run.run (va_runS (As := [.int part, .int 2]) (rest := []) ⟨hx, hb, hml, hown, hts⟩ (r_Ho_demandKind l D N0 k V part 2 hk2) (va_cwS 2 hts (gi_S wm_Ho_101 wt_Ho_demandKind wi_Ho wc_Ho_demandKind) rfl rfl rfl (by decide +kernel) ⟨Nat.le_of_ble_eq_true rfl, Nat.le_of_ble_eq_true rfl⟩) (mP.preS hG hS hV) rfl rfl hl.1 rfl (lv_room (Nat.le_of_ble_eq_true rfl)) d_Ho_pad_12 ⟨Nat.le_of_ble_eq_true rfl, Nat.le_of_ble_eq_true rfl⟩)) (fun _ => ?_)
  refine lv_iload_n hx hb d_Ho_pad_15 rfl (lv_at hl 2 rfl) ?_
  refine lv_iconst (v := 1) hx hb d_Ho_pad_16 (by decide) ?_
  exact hx_callOut (hx_runS (As := [.int net, .int 1]) (rest := []) ⟨hx, hb, hml, hown, hts⟩ (t_Ho_demandKind l hls D N0 k V net 1 hk1) (va_cwS 2 hts (gi_S wm_Ho_101 wt_Ho_demandKind wi_Ho wc_Ho_demandKind) rfl rfl rfl (by decide +kernel) ⟨Nat.le_of_ble_eq_true rfl, Nat.le_of_ble_eq_true rfl⟩) (mP.preS hG hS hV) rfl rfl hl.1 rfl (lv_room (Nat.le_of_ble_eq_true rfl)) d_Ho_pad_17 ⟨Nat.le_of_ble_eq_true rfl, Nat.le_of_ble_eq_true rfl⟩) hno hlocks hS (Nat.le_of_ble_eq_true rfl) (Nat.le_of_ble_eq_true rfl)
set_option maxHeartbeats 4000000 in
set_option maxRecDepth 100000 in
/-- pad: dropped -/
theorem t_Ho_pad5 (l : Launch) (hls : l.stackTraces = false) (D : va_G) (N0 : Nat) (k : Nat → Nat) (V : HV) (b : HA) (σ : HS) (hW0 : hsW k V b σ) (part net dx dy : Int32) (hg : gvOk σ.G part = true) (hg2 : gvOk σ.G net = true) (hk2 : part / 1000 = 2) (hk1 : net / 1000 = 1) (hth : σ.T (hdI part) 5 = 0) : hx_Met l y_Ho_pad (.code y_Ho_pad b_Ho_pad 8 (some .int) :: WS) ({ frames := 7, cells := 1, slots := 6, locals := 118 }) (mP D N0 k [.ref b.ho, .int part, .int net, .int dx, .int dy] V) "java/lang/IllegalStateException" (fun H9 => hv D vwCl N0 V H9) N0 1 6 := by
  refine hx_ofW (cc := b_Ho_pad) (maxL := 8) (ret := (some .int)) (by decide) rfl ?_
  intro p e s m args below meth c s₁ B hml hno hv0
  obtain ⟨rfl, hG, hV⟩ := hv0
  have hx := B.exec
  have hb := B.bytes
  have hr := B.returns
  have hts := atoms_spec (ws := .code y_Ho_pad b_Ho_pad 8 (some .int) :: WS) B.pre
  have hW : ∀ w ∈ WS, w.before _ s = true := fun w h => hts w (List.mem_cons_of_mem _ h)
  have hown : s.vm.findClass "BoardHouse" = some m.cls := findClass_of_methodNamed B.named
  have hlocks := B.notSynchronized
  have hS : va_S (hA N0) s.heap s.heap [] := va_S.rf
  have hl := lv_entry ([.ref b.ho, .int part, .int net, .int dx, .int dy]) (n := 8) (Nat.le_of_ble_eq_true rfl)
  rw [lg_entry_eq]
  generalize (lg_sl ([.ref b.ho, .int part, .int net, .int dx, .int dy]) ++ List.replicate (8 - (lg_sl ([.ref b.ho, .int part, .int net, .int dx, .int dy])).length) Slot.unset).toArray = ls at hl ⊢
  have hl : lv_has ls 8 [(0, .ref b.ho), (1, .int part), (2, .int net), (3, .int dx), (4, .int dy)] := hl
  have hH := hW0.1
  have hKh : hdK part = 2 := hdK_of (by decide) hk2
  obtain ⟨eK, eN, -⟩ := gv_of hW0.2.2.1 hg
  obtain ⟨efi, hi, hmi, t, hf⟩ := thing_of hW0 hg (by omega) (by omega)
  obtain ⟨i, ei⟩ : ∃ z, z = hdI part := ⟨_, rfl⟩
  rw [← ei] at efi hi hmi hf
  obtain ⟨h_t, h_a0⟩ := hH.ts.2.1 i t hi hf
  rw [← ei] at hth
  refine lv_aload_n hx hb d_Ho_pad_0 rfl (lv_at hl 0 rfl) ?_
  refine lv_iload_n hx hb d_Ho_pad_1 rfl (lv_at hl 1 rfl) ?_
  refine va_csv (va_Run.run (va_runV (As := [.int part]) (rest := []) ⟨hx, hb, hml, hown, hts⟩ (r_Ho_demandGiven l D N0 k V b.ho b.bo b.gi b.co b.ta b.ac b.ve (woA b σ.wo) (nI σ.nl) σ.rs hH.ho σ.G hH.gi part hg) (cwV 1 hts (gi_V wm_Ho_97 wv_Ho_demandGiven ws_Ho_demandGiven wi_Ho wc_Ho_demandGiven) rfl rfl rfl (by decide +kernel) ⟨Nat.le_of_ble_eq_true rfl, Nat.le_of_ble_eq_true rfl⟩) (mP.preV hG hS hV hH.ho rfl) rfl rfl hl.1 rfl (lv_room (Nat.le_of_ble_eq_true rfl)) d_Ho_pad_2 ⟨Nat.le_of_ble_eq_true rfl, Nat.le_of_ble_eq_true rfl⟩)) (fun _ => ?_)
  refine lv_aload_n hx hb d_Ho_pad_5 rfl (lv_at hl 0 rfl) ?_
  refine lv_iload_n hx hb d_Ho_pad_6 rfl (lv_at hl 2 rfl) ?_
  refine va_csv (va_Run.run (va_runV (As := [.int net]) (rest := []) ⟨hx, hb, hml, hown, hts⟩ (r_Ho_demandGiven l D N0 k V b.ho b.bo b.gi b.co b.ta b.ac b.ve (woA b σ.wo) (nI σ.nl) σ.rs hH.ho σ.G hH.gi net hg2) (cwV 1 hts (gi_V wm_Ho_97 wv_Ho_demandGiven ws_Ho_demandGiven wi_Ho wc_Ho_demandGiven) rfl rfl rfl (by decide +kernel) ⟨Nat.le_of_ble_eq_true rfl, Nat.le_of_ble_eq_true rfl⟩) (mP.preV hG hS hV hH.ho rfl) rfl rfl hl.1 rfl (lv_room (Nat.le_of_ble_eq_true rfl)) d_Ho_pad_7 ⟨Nat.le_of_ble_eq_true rfl, Nat.le_of_ble_eq_true rfl⟩)) (fun _ => ?_)
  refine lv_iload_n hx hb d_Ho_pad_10 rfl (lv_at hl 1 rfl) ?_
  refine lv_iconst (v := 2) hx hb d_Ho_pad_11 (by decide) ?_
  refine va_csv (va_Run.run (va_runS (As := [.int part, .int 2]) (rest := []) ⟨hx, hb, hml, hown, hts⟩ (r_Ho_demandKind l D N0 k V part 2 hk2) (va_cwS 2 hts (gi_S wm_Ho_101 wt_Ho_demandKind wi_Ho wc_Ho_demandKind) rfl rfl rfl (by decide +kernel) ⟨Nat.le_of_ble_eq_true rfl, Nat.le_of_ble_eq_true rfl⟩) (mP.preS hG hS hV) rfl rfl hl.1 rfl (lv_room (Nat.le_of_ble_eq_true rfl)) d_Ho_pad_12 ⟨Nat.le_of_ble_eq_true rfl, Nat.le_of_ble_eq_true rfl⟩)) (fun _ => ?_)
  refine lv_iload_n hx hb d_Ho_pad_15 rfl (lv_at hl 2 rfl) ?_
  refine lv_iconst (v := 1) hx hb d_Ho_pad_16 (by decide) ?_
  refine va_csv (va_Run.run (va_runS (As := [.int net, .int 1]) (rest := []) ⟨hx, hb, hml, hown, hts⟩ (r_Ho_demandKind l D N0 k V net 1 hk1) (va_cwS 2 hts (gi_S wm_Ho_101 wt_Ho_demandKind wi_Ho wc_Ho_demandKind) rfl rfl rfl (by decide +kernel) ⟨Nat.le_of_ble_eq_true rfl, Nat.le_of_ble_eq_true rfl⟩) (mP.preS hG hS hV) rfl rfl hl.1 rfl (lv_room (Nat.le_of_ble_eq_true rfl)) d_Ho_pad_17 ⟨Nat.le_of_ble_eq_true rfl, Nat.le_of_ble_eq_true rfl⟩)) (fun _ => ?_)
  refine lv_aload_n hx hb d_Ho_pad_20 rfl (lv_at hl 0 rfl) ?_
  refine lv_iload_n hx hb d_Ho_pad_21 rfl (lv_at hl 1 rfl) ?_
  refine va_csq (va_Run.run (va_runV (As := [.int part]) (rest := []) ⟨hx, hb, hml, hown, hts⟩ (r_Ho_demandThing l D N0 k V b.ho b.bo b.gi b.co b.ta b.ac b.ve (woA b σ.wo) (nI σ.nl) σ.rs hH.ho σ.G hH.gi b.f b.ar σ.T hH.ts part (hdK part) (hdN part) i t eK eN (by omega) (by omega) efi hi hf) (cwV 1 hts (gi_V wm_Ho_104 wv_Ho_demandThing ws_Ho_demandThing wi_Ho wc_Ho_demandThing) rfl rfl rfl (by decide +kernel) ⟨Nat.le_of_ble_eq_true rfl, Nat.le_of_ble_eq_true rfl⟩) (mP.preV hG hS hV hH.ho rfl) rfl rfl hl.1 rfl (lv_room (Nat.le_of_ble_eq_true rfl)) d_Ho_pad_22 ⟨Nat.le_of_ble_eq_true rfl, Nat.le_of_ble_eq_true rfl⟩)) (fun r_1 hp_2 => ?_)
  subst hp_2
  refine W.eq (g2 := F0 m 25 ls [.ref t]) rfl ?_
  refine lv_astore (lv' := [(5, .ref t), (0, .ref b.ho), (1, .int part), (2, .int net), (3, .int dx), (4, .int dy)]) hx hb d_Ho_pad_25 hl (by decide) rfl (fun ls hl => ?_)
  refine lv_aload hx hb d_Ho_pad_27 (lv_at hl 0 rfl) ?_
  exact hx_callOut (hx_runS (As := [.ref t]) (rest := []) ⟨hx, hb, hml, hown, hts⟩ (t_Ho_demandThere l hls D N0 k V t (b.ar i) (σ.T i 0) (σ.T i 1) (σ.T i 2) (σ.T i 3) (σ.T i 4) (σ.T i 5) h_t hth) (va_cwS 1 hts (gi_S wm_Ho_108 wt_Ho_demandThere wi_Ho wc_Ho_demandThere) rfl rfl rfl (by decide +kernel) ⟨Nat.le_of_ble_eq_true rfl, Nat.le_of_ble_eq_true rfl⟩) (mP.preS hG hS hV) rfl rfl hl.1 rfl (lv_room (Nat.le_of_ble_eq_true rfl)) d_Ho_pad_29 ⟨Nat.le_of_ble_eq_true rfl, Nat.le_of_ble_eq_true rfl⟩) hno hlocks hS (Nat.le_of_ble_eq_true rfl) (Nat.le_of_ble_eq_true rfl)
set_option maxHeartbeats 4000000 in
set_option maxRecDepth 100000 in
/-- gap -/
theorem c_Ho_gap (l : Launch) (D : va_G) (N0 : Nat) (k : Nat → Nat) (V : HV) (b : HA) (σ : HS) (hW0 : hsW k V b σ) (v : Int32) (hok : (decide (0 ≤ v) && decide (v ≤ 4)) = true) : Met l y_Ho_gap (.code y_Ho_gap b_Ho_gap 3 (some .int) :: WS) ({ frames := 6, cells := 0, slots := 0, locals := 90 }) (mP D N0 k [.ref b.ho, .int v] V) (va_Qi (fun r V' => hsW k V' b (σ.wg v) ∧ hsFr b b V V' ∧ r = σ.g) (mB D N0) (hA N0)) 0 0 (hA N0) := by
  refine Met.ofW (cc := b_Ho_gap) (maxL := 3) (ret := (some .int)) (by decide) rfl ?_
  intro p e s m args below meth c s₁ B hml hv0
  obtain ⟨rfl, hG, hV⟩ := hv0
  have hx := B.exec
  have hb := B.bytes
  have hr := B.returns
  have hts := atoms_spec (ws := .code y_Ho_gap b_Ho_gap 3 (some .int) :: WS) B.pre
  have hW : ∀ w ∈ WS, w.before _ s = true := fun w h => hts w (List.mem_cons_of_mem _ h)
  have hown : s.vm.findClass "BoardHouse" = some m.cls := findClass_of_methodNamed B.named
  have hlocks := B.notSynchronized
  have hS : va_S (hA N0) s.heap s.heap [] := va_S.rf
  have hl := lv_entry ([.ref b.ho, .int v]) (n := 3) (Nat.le_of_ble_eq_true rfl)
  rw [lg_entry_eq]
  generalize (lg_sl ([.ref b.ho, .int v]) ++ List.replicate (3 - (lg_sl ([.ref b.ho, .int v])).length) Slot.unset).toArray = ls at hl ⊢
  have hl : lv_has ls 3 [(0, .ref b.ho), (1, .int v)] := hl
  have hH := hW0.1
  refine lv_iload_n hx hb d_Ho_gap_0 rfl (lv_at hl 1 rfl) ?_
  refine lv_if_lt (tgt := 9) hx hb d_Ho_gap_1 (by decide) (fun c_1 => ?_) (fun c_1 => ?_)
  · have c_1 := i_nle c_1
    exact absurd hok (by simp [Bool.and_eq_true, c_1])
  · have c_1 := i_le c_1
    refine lv_iload_n hx hb d_Ho_gap_4 rfl (lv_at hl 1 rfl) ?_
    refine lv_iconst (v := 4) hx hb d_Ho_gap_5 (by decide) ?_
    refine lv_icmp_le (tgt := 19) hx hb d_Ho_gap_6 (by decide) (fun c_2 => ?_) (fun c_2 => ?_)
    · refine lv_aload_n hx hb d_Ho_gap_19 rfl (lv_at hl 0 rfl) ?_
      refine gf_Ho_62 hx hb hW hown hG hV hH.ho d_Ho_gap_20 ?_
      refine gf_Ho_146 hx hb hW hown hG hV hH.co d_Ho_gap_23 ?_
      refine lv_istore_n (lv' := [(2, .int σ.g), (0, .ref b.ho), (1, .int v)]) hx hb d_Ho_gap_26 rfl hl (by decide) rfl (fun ls hl => ?_)
      refine lv_aload_n hx hb d_Ho_gap_27 rfl (lv_at hl 1 rfl) ?_
      refine gf_Ho_62 hx hb hW hown hG hV hH.ho d_Ho_gap_28 ?_
      refine lv_iload_n hx hb d_Ho_gap_31 rfl (lv_at hl 2 rfl) ?_
      refine pf_Ho_146 hx hb hW hown hG hV hS hH.co d_Ho_gap_32 (fun H locs hV hS => ?_)
      replace hV : hv D vwCl N0 (hu V b.co (.inr (2, [.ref b.ta, .int (nI σ.nl), .ref b.ro, .ref b.on, .ref b.re, .int v]))) H := hV
      generalize hV_V_3 : hu V b.co (.inr (2, [.ref b.ta, .int (nI σ.nl), .ref b.ro, .ref b.on, .ref b.re, .int v])) = V_3 at hV
      have hH_ho'V_3 : V_3 b.ho = some (.inr (6, [.int (nI σ.nl), .ref b.bo, .ref b.gi, .ref b.co, .ref b.ta, .ref b.ac, .ref b.ve, va_rf (woA b σ.wo), .int σ.rs])) := by rw [← hV_V_3]; exact hu_o hH.co hH.ho (by simp)
      have hH_bo'V_3 : V_3 b.bo = some (.inr (1, [.int 0, .int 0, .int 31, .int 23])) := by rw [← hV_V_3]; exact hu_o hH.co hH.bo (by simp)
      have hH_gi'V_3 : V_3 b.gi = some (eI k 8 σ.G) := by rw [← hV_V_3]; exact hu_o hH.co hH.gi (by simp)
      have hH_ts_1'V_3 : V_3 b.ta = some (eTs k b.f) := by rw [← hV_V_3]; exact hu_o hH.co hH.ts.1 (by simp)
      have hH_ac_1'V_3 : V_3 b.ac = some (eAs k b.fa) := by rw [← hV_V_3]; exact hu_o hH.co hH.ac.1 (by simp)
      have hH_ve'V_3 : V_3 b.ve = some (eVs k b.fv) := by rw [← hV_V_3]; exact hu_o hH.co hH.ve (by simp)
      have hbco'V_3 : V_3 b.co = some (.inr (2, [.ref b.ta, .int (nI σ.nl), .ref b.ro, .ref b.on, .ref b.re, .int v])) := by rw [← hV_V_3]; exact hu_s
      refine lv_iload_n hx hb d_Ho_gap_35 rfl (lv_at hl 0 rfl) ?_
      exact W.iret (v := σ.g) hx hb hr (fun t9 ht hW => ⟨⟨σ.g, V_3, rfl, ⟨W_keep hW0 (by rw [← hV_V_3]; exact hs_g hH v) rfl rfl rfl rfl (fun i => ⟨rfl, rfl⟩), by rw [← hV_V_3]; exact hsFr_hu (by rw [hH.lab.l4]; omega), rfl⟩, mB_of ht hV⟩, hS.F ht⟩) hS.2.2 d_Ho_gap_36
    · exact absurd hok (by simp [Bool.and_eq_true, c_1, c_2])
set_option maxHeartbeats 4000000 in
set_option maxRecDepth 100000 in
/-- gap: none such -/
theorem t_Ho_gap (l : Launch) (hls : l.stackTraces = false) (D : va_G) (N0 : Nat) (k : Nat → Nat) (V : HV) (b : HA) (σ : HS) (hH : hsOk k V b σ) (v : Int32) (hok : (decide (0 ≤ v) && decide (v ≤ 4)) = false) : hx_Met l y_Ho_gap (.code y_Ho_gap b_Ho_gap 3 (some .int) :: WS) ({ frames := 6, cells := 1, slots := 6, locals := 90 }) (mP D N0 k [.ref b.ho, .int v] V) "java/lang/IllegalArgumentException" (fun H9 => hv D vwCl N0 V H9) N0 1 6 := by
  refine hx_ofW (cc := b_Ho_gap) (maxL := 3) (ret := (some .int)) (by decide) rfl ?_
  intro p e s m args below meth c s₁ B hml hno hv0
  obtain ⟨rfl, hG, hV⟩ := hv0
  have hx := B.exec
  have hb := B.bytes
  have hr := B.returns
  have hts := atoms_spec (ws := .code y_Ho_gap b_Ho_gap 3 (some .int) :: WS) B.pre
  have hW : ∀ w ∈ WS, w.before _ s = true := fun w h => hts w (List.mem_cons_of_mem _ h)
  have hown : s.vm.findClass "BoardHouse" = some m.cls := findClass_of_methodNamed B.named
  have hlocks := B.notSynchronized
  have hS : va_S (hA N0) s.heap s.heap [] := va_S.rf
  have hl := lv_entry ([.ref b.ho, .int v]) (n := 3) (Nat.le_of_ble_eq_true rfl)
  rw [lg_entry_eq]
  generalize (lg_sl ([.ref b.ho, .int v]) ++ List.replicate (3 - (lg_sl ([.ref b.ho, .int v])).length) Slot.unset).toArray = ls at hl ⊢
  have hl : lv_has ls 3 [(0, .ref b.ho), (1, .int v)] := hl
  refine lv_iload_n hx hb d_Ho_gap_0 rfl (lv_at hl 1 rfl) ?_
  refine lv_if_lt (tgt := 9) hx hb d_Ho_gap_1 (by decide) (fun c_1 => ?_) (fun c_1 => ?_)
  · have c_1 := i_nle c_1
    obtain ⟨sa, hstr⟩ := hG.2.2.2.2.2.2.2.2 (144, "a gap is 0 to 4") (by decide)
    exact hx_throwS (own := "BoardHouse") (cls := "java/lang/IllegalArgumentException") (text := "a gap is 0 to 4") (names := xN) (ik := 79) (is := 144) (ic := 83) hx hb hls hown (by decide +kernel) (by decide +kernel) (hW _ wk_Ho_79) (hW _ wi_JG) hstr (own_of hW hG own_G) (by rw [hml]; exact hl.1) d_Ho_gap_9 d_Ho_gap_12 d_Ho_gap_13 d_Ho_gap_15 d_Ho_gap_18 hno (Nat.le_of_ble_eq_true rfl) (Nat.le_of_ble_eq_true rfl) (Nat.le_of_ble_eq_true rfl) (Nat.le_of_ble_eq_true rfl) hlocks (fun H9 h91 h92 => hv.keep hV h92)
  · have c_1 := i_le c_1
    refine lv_iload_n hx hb d_Ho_gap_4 rfl (lv_at hl 1 rfl) ?_
    refine lv_iconst (v := 4) hx hb d_Ho_gap_5 (by decide) ?_
    refine lv_icmp_le (tgt := 19) hx hb d_Ho_gap_6 (by decide) (fun c_2 => ?_) (fun c_2 => ?_)
    · exact absurd hok (by simp [Bool.and_eq_true, c_1, c_2])
    · obtain ⟨sa, hstr⟩ := hG.2.2.2.2.2.2.2.2 (144, "a gap is 0 to 4") (by decide)
      exact hx_throwS (own := "BoardHouse") (cls := "java/lang/IllegalArgumentException") (text := "a gap is 0 to 4") (names := xN) (ik := 79) (is := 144) (ic := 83) hx hb hls hown (by decide +kernel) (by decide +kernel) (hW _ wk_Ho_79) (hW _ wi_JG) hstr (own_of hW hG own_G) (by rw [hml]; exact hl.1) d_Ho_gap_9 d_Ho_gap_12 d_Ho_gap_13 d_Ho_gap_15 d_Ho_gap_18 hno (Nat.le_of_ble_eq_true rfl) (Nat.le_of_ble_eq_true rfl) (Nat.le_of_ble_eq_true rfl) (Nat.le_of_ble_eq_true rfl) hlocks (fun H9 h91 h92 => hv.keep hV h92)
set_option maxHeartbeats 4000000 in
set_option maxRecDepth 100000 in
/-- told -/
theorem c_Ho_told (l : Launch) (D : va_G) (N0 : Nat) (k : Nat → Nat) (V : HV) (b : HA) (σ : HS) (hW0 : hsW k V b σ) : Met l y_Ho_told (.code y_Ho_told b_Ho_told 1 (some .int) :: WS) ({ frames := 0, cells := 0, slots := 0, locals := 0 }) (mP D N0 k [.ref b.ho] V) (va_Qi (fun r V' => r = σ.rs ∧ V' = V) (mB D N0) (hA N0)) 0 0 (hA N0) := by
  refine Met.ofW (cc := b_Ho_told) (maxL := 1) (ret := (some .int)) (by decide) rfl ?_
  intro p e s m args below meth c s₁ B hml hv0
  obtain ⟨rfl, hG, hV⟩ := hv0
  have hx := B.exec
  have hb := B.bytes
  have hr := B.returns
  have hts := atoms_spec (ws := .code y_Ho_told b_Ho_told 1 (some .int) :: WS) B.pre
  have hW : ∀ w ∈ WS, w.before _ s = true := fun w h => hts w (List.mem_cons_of_mem _ h)
  have hown : s.vm.findClass "BoardHouse" = some m.cls := findClass_of_methodNamed B.named
  have hlocks := B.notSynchronized
  have hS : va_S (hA N0) s.heap s.heap [] := va_S.rf
  have hl := lv_entry ([.ref b.ho]) (n := 1) (Nat.le_of_ble_eq_true rfl)
  rw [lg_entry_eq]
  generalize (lg_sl ([.ref b.ho]) ++ List.replicate (1 - (lg_sl ([.ref b.ho])).length) Slot.unset).toArray = ls at hl ⊢
  have hl : lv_has ls 1 [(0, .ref b.ho)] := hl
  have hH := hW0.1
  refine lv_aload_n hx hb d_Ho_told_0 rfl (lv_at hl 0 rfl) ?_
  refine gf_Ho_41 hx hb hW hown hG hV hH.ho d_Ho_told_1 ?_
  exact W.iret (v := σ.rs) hx hb hr (fun t9 ht hW => ⟨⟨σ.rs, V, rfl, ⟨rfl, rfl⟩, mB_of ht hV⟩, hS.F ht⟩) hS.2.2 d_Ho_told_4
set_option maxHeartbeats 4000000 in
set_option maxRecDepth 100000 in
/-- net -/
theorem c_Ho_net (l : Launch) (D : va_G) (N0 : Nat) (k : Nat → Nat) (V : HV) (b : HA) (σ : HS) (hW0 : hsW k V b σ) : Met l y_Ho_net (.code y_Ho_net b_Ho_net 1 (some .int) :: WS) ({ frames := 1, cells := 0, slots := 0, locals := 22 }) (mP D N0 k [.ref b.ho] V) (va_Qi (fun r V' => hsW k V' b (ntP σ).2 ∧ hsFr b b V V' ∧ r = (ntP σ).1) (mB D N0) (hA N0)) 0 0 (hA N0) := by
  refine Met.ofW (cc := b_Ho_net) (maxL := 1) (ret := (some .int)) (by decide) rfl ?_
  intro p e s m args below meth c s₁ B hml hv0
  obtain ⟨rfl, hG, hV⟩ := hv0
  have hx := B.exec
  have hb := B.bytes
  have hr := B.returns
  have hts := atoms_spec (ws := .code y_Ho_net b_Ho_net 1 (some .int) :: WS) B.pre
  have hW : ∀ w ∈ WS, w.before _ s = true := fun w h => hts w (List.mem_cons_of_mem _ h)
  have hown : s.vm.findClass "BoardHouse" = some m.cls := findClass_of_methodNamed B.named
  have hlocks := B.notSynchronized
  have hS : va_S (hA N0) s.heap s.heap [] := va_S.rf
  have hl := lv_entry ([.ref b.ho]) (n := 1) (Nat.le_of_ble_eq_true rfl)
  rw [lg_entry_eq]
  generalize (lg_sl ([.ref b.ho]) ++ List.replicate (1 - (lg_sl ([.ref b.ho])).length) Slot.unset).toArray = ls at hl ⊢
  have hl : lv_has ls 1 [(0, .ref b.ho)] := hl
  have hH := hW0.1
  refine lv_aload_n hx hb d_Ho_net_0 rfl (lv_at hl 0 rfl) ?_
  refine lv_aload_n hx hb d_Ho_net_1 rfl (lv_at hl 0 rfl) ?_
  refine lv_iconst (v := 1) hx hb d_Ho_net_2 (by decide) ?_
  refine W.eq (g2 := F0 m 3 ls [.int (nI 1), .ref b.ho, .ref b.ho]) rfl ?_
  refine rc_i (va_runV (As := [.int (nI 1)]) (rest := [.ref b.ho]) ⟨hx, hb, hml, hown, hts⟩ (c_Ho_isFull l D N0 k V b.ho b.bo b.gi b.co b.ta b.ac b.ve (woA b σ.wo) (nI σ.nl) σ.rs hH.ho σ.G hH.gi 1 (by omega) (by omega)) (cwV 1 hts (gi_V wm_Ho_71 wv_Ho_isFull ws_Ho_isFull wi_Ho wc_Ho_isFull) rfl rfl rfl (by decide +kernel) ⟨Nat.le_of_ble_eq_true rfl, Nat.le_of_ble_eq_true rfl⟩) (mP.preV hG hS hV hH.ho rfl) rfl rfl hl.1 rfl (lv_room (Nat.le_of_ble_eq_true rfl)) d_Ho_net_3 ⟨Nat.le_of_ble_eq_true rfl, Nat.le_of_ble_eq_true rfl⟩) hS (fun H locs hV hS => ?_)
  refine lv_if_eq (tgt := 13) hx hb d_Ho_net_6 (by decide) (fun c_1 => ?_) (fun c_1 => ?_)
  · refine lv_iconst (v := 0) hx hb d_Ho_net_13 (by decide) ?_
    refine pf_Ho_41 hx hb hW hown hG hV hS hH.ho d_Ho_net_14 (fun H locs hV hS => ?_)
    replace hV : hv D vwCl N0 (hu V b.ho (.inr (6, [.int (nI σ.nl), .ref b.bo, .ref b.gi, .ref b.co, .ref b.ta, .ref b.ac, .ref b.ve, va_rf (woA b σ.wo), .int 0]))) H := hV
    generalize hV_V_2 : hu V b.ho (.inr (6, [.int (nI σ.nl), .ref b.bo, .ref b.gi, .ref b.co, .ref b.ta, .ref b.ac, .ref b.ve, va_rf (woA b σ.wo), .int 0])) = V_2 at hV
    have hH_bo'V_2 : V_2 b.bo = some (.inr (1, [.int 0, .int 0, .int 31, .int 23])) := by rw [← hV_V_2]; exact hu_o hH.ho hH.bo (by simp)
    have hH_gi'V_2 : V_2 b.gi = some (eI k 8 σ.G) := by rw [← hV_V_2]; exact hu_o hH.ho hH.gi (by simp)
    have hH_co'V_2 : V_2 b.co = some (.inr (2, [.ref b.ta, .int (nI σ.nl), .ref b.ro, .ref b.on, .ref b.re, .int σ.g])) := by rw [← hV_V_2]; exact hu_o hH.ho hH.co (by simp)
    have hH_ts_1'V_2 : V_2 b.ta = some (eTs k b.f) := by rw [← hV_V_2]; exact hu_o hH.ho hH.ts.1 (by simp)
    have hH_ac_1'V_2 : V_2 b.ac = some (eAs k b.fa) := by rw [← hV_V_2]; exact hu_o hH.ho hH.ac.1 (by simp)
    have hH_ve'V_2 : V_2 b.ve = some (eVs k b.fv) := by rw [← hV_V_2]; exact hu_o hH.ho hH.ve (by simp)
    have hbho'V_2 : V_2 b.ho = some (.inr (6, [.int (nI σ.nl), .ref b.bo, .ref b.gi, .ref b.co, .ref b.ta, .ref b.ac, .ref b.ve, va_rf (woA b σ.wo), .int 0])) := by rw [← hV_V_2]; exact hu_s
    refine lv_aload_n hx hb d_Ho_net_17 rfl (lv_at hl 0 rfl) ?_
    refine gf_Ho_41 hx hb hW hown hG hV hbho'V_2 d_Ho_net_18 ?_
    refine lv_if_ne (tgt := 32) hx hb d_Ho_net_21 (by decide) (fun q => absurd q (by decide)) (fun _ => ?_)
    refine lv_aload_n hx hb d_Ho_net_24 rfl (lv_at hl 0 rfl) ?_
    refine lv_iconst (v := 1) hx hb d_Ho_net_25 (by decide) ?_
    refine W.eq (g2 := F0 m 26 ls [.int (nI 1), .ref b.ho]) rfl ?_
    refine rc_I (va_runV (As := [.int (nI 1)]) (rest := []) ⟨hx, hb, hml, hown, hts⟩ (c_Ho_nextHandle l D N0 k V_2 b.ho b.bo b.gi b.co b.ta b.ac b.ve _ _ _ hbho'V_2 σ.G hH_gi'V_2 1 (by omega) (by omega)) (cwV 1 hts (gi_V wm_Ho_75 wv_Ho_nextHandle ws_Ho_nextHandle wi_Ho wc_Ho_nextHandle) rfl rfl rfl (by decide +kernel) ⟨Nat.le_of_ble_eq_true rfl, Nat.le_of_ble_eq_true rfl⟩) (mP.preV hG hS hV hbho'V_2 rfl) rfl rfl hl.1 rfl (lv_room (Nat.le_of_ble_eq_true rfl)) d_Ho_net_26 ⟨Nat.le_of_ble_eq_true rfl, Nat.le_of_ble_eq_true rfl⟩) hS (fun r_3 V_4 H locs hp_5 hV hS => ?_)
    obtain ⟨er_r_3, ev_r_3⟩ := hp_5
    refine lv_goto (tgt := 33) hx hb d_Ho_net_29 (by decide) ?_
    simp only [bI_ne0, bI_eq0, decide_eq_true_eq, decide_eq_false_iff_not, Decidable.not_not] at c_1
    have hH2 : hsOk k V_4 b ((σ.wrs 0).wG (upd σ.G 1 (σ.G 1 + 1))) := by rw [ev_r_3, ← hV_V_2]; exact hs_gi (hs_rs hH 0) _
    have hF2 : hsFr b b V V_4 := by rw [ev_r_3, ← hV_V_2]; exact (hsFr_hu (by rw [hH.lab.l1]; omega)).tr (hsFr_hu (by rw [hH.lab.l3]; omega))
    exact W.iret (v := r_3) hx hb hr (fun t9 ht hW => ⟨⟨r_3, V_4, rfl, ⟨by rw [ntP, if_neg c_1]; exact W_up hW0 c_1 hH2 rfl rfl, hF2, by rw [er_r_3, ntP, if_neg c_1]; rfl⟩, mB_of ht hV⟩, hS.F ht⟩) hS.2.2 d_Ho_net_33
  · refine lv_iconst (v := 1) hx hb d_Ho_net_9 (by decide) ?_
    refine lv_goto (tgt := 14) hx hb d_Ho_net_10 (by decide) ?_
    refine pf_Ho_41 hx hb hW hown hG hV hS hH.ho d_Ho_net_14 (fun H locs hV hS => ?_)
    replace hV : hv D vwCl N0 (hu V b.ho (.inr (6, [.int (nI σ.nl), .ref b.bo, .ref b.gi, .ref b.co, .ref b.ta, .ref b.ac, .ref b.ve, va_rf (woA b σ.wo), .int 1]))) H := hV
    generalize hV_V_6 : hu V b.ho (.inr (6, [.int (nI σ.nl), .ref b.bo, .ref b.gi, .ref b.co, .ref b.ta, .ref b.ac, .ref b.ve, va_rf (woA b σ.wo), .int 1])) = V_6 at hV
    have hH_bo'V_6 : V_6 b.bo = some (.inr (1, [.int 0, .int 0, .int 31, .int 23])) := by rw [← hV_V_6]; exact hu_o hH.ho hH.bo (by simp)
    have hH_gi'V_6 : V_6 b.gi = some (eI k 8 σ.G) := by rw [← hV_V_6]; exact hu_o hH.ho hH.gi (by simp)
    have hH_co'V_6 : V_6 b.co = some (.inr (2, [.ref b.ta, .int (nI σ.nl), .ref b.ro, .ref b.on, .ref b.re, .int σ.g])) := by rw [← hV_V_6]; exact hu_o hH.ho hH.co (by simp)
    have hH_ts_1'V_6 : V_6 b.ta = some (eTs k b.f) := by rw [← hV_V_6]; exact hu_o hH.ho hH.ts.1 (by simp)
    have hH_ac_1'V_6 : V_6 b.ac = some (eAs k b.fa) := by rw [← hV_V_6]; exact hu_o hH.ho hH.ac.1 (by simp)
    have hH_ve'V_6 : V_6 b.ve = some (eVs k b.fv) := by rw [← hV_V_6]; exact hu_o hH.ho hH.ve (by simp)
    have hbho'V_6 : V_6 b.ho = some (.inr (6, [.int (nI σ.nl), .ref b.bo, .ref b.gi, .ref b.co, .ref b.ta, .ref b.ac, .ref b.ve, va_rf (woA b σ.wo), .int 1])) := by rw [← hV_V_6]; exact hu_s
    refine lv_aload_n hx hb d_Ho_net_17 rfl (lv_at hl 0 rfl) ?_
    refine gf_Ho_41 hx hb hW hown hG hV hbho'V_6 d_Ho_net_18 ?_
    refine lv_if_ne (tgt := 32) hx hb d_Ho_net_21 (by decide) (fun _ => ?_) (fun q => absurd q (by decide))
    refine lv_iconst (v := (-1)) hx hb d_Ho_net_32 (by decide) ?_
    simp only [bI_ne0, bI_eq0, decide_eq_true_eq, decide_eq_false_iff_not, Decidable.not_not] at c_1
    exact W.iret (v := (-1)) hx hb hr (fun t9 ht hW => ⟨⟨(-1), V_6, rfl, ⟨by rw [ntP, if_pos c_1]; exact W_keep hW0 (by rw [← hV_V_6]; exact hs_rs hH 1) rfl rfl rfl rfl (fun i => ⟨rfl, rfl⟩), by rw [← hV_V_6]; exact hsFr_hu (by rw [hH.lab.l1]; omega), by rw [ntP, if_pos c_1]⟩, mB_of ht hV⟩, hS.F ht⟩) hS.2.2 d_Ho_net_33
