/-! The house with what it always keeps: hsW -/
def fiN (K : Nat) : Nat := match K with
  | 0 => 0
  | 1 => 0
  | 2 => 0
  | 3 => 20
  | 4 => 80
  | _ => 140
def liN (K : Nat) : Nat := match K with
  | 0 => 0
  | 1 => 20
  | 2 => 20
  | 3 => 60
  | 4 => 60
  | 5 => 10
  | 6 => 10
  | _ => 8
def slK (i : Nat) : Nat := if i < 20 then 2 else if i < 80 then 3 else if i < 140 then 4 else 5
def slN (i : Nat) : Nat := if i < 20 then i else if i < 80 then i - 20 else if i < 140 then i - 80 else i - 140
def gN (σ : HS) (K : Nat) : Nat := (σ.G K).toNatClampNeg
def slM (σ : HS) (i : Nat) : Bool := decide (slN i < gN σ (slK i))
theorem limV_n {K : Nat} (h1 : 1 ≤ K) (h7 : K ≤ 7) : limV K = nI (liN K) := by
  rcases (show K = 1 ∨ K = 2 ∨ K = 3 ∨ K = 4 ∨ K = 5 ∨ K = 6 ∨ K = 7 by omega) with rfl | rfl | rfl | rfl | rfl | rfl | rfl <;> rfl
theorem firV_n {K : Nat} (h1 : 2 ≤ K) (h7 : K ≤ 5) : firV K = nI (fiN K) := by
  rcases (show K = 2 ∨ K = 3 ∨ K = 4 ∨ K = 5 by omega) with rfl | rfl | rfl | rfl <;> rfl
theorem liN_le {K : Nat} : liN K ≤ 60 := by unfold liN; split <;> omega
theorem sl_of {K n : Nat} (h2 : 2 ≤ K) (h5 : K ≤ 5) (hn : n < liN K) : slK (fiN K + n) = K ∧ slN (fiN K + n) = n ∧ fiN K + n < 150 := by
  rcases (show K = 2 ∨ K = 3 ∨ K = 4 ∨ K = 5 by omega) with rfl | rfl | rfl | rfl <;> simp only [liN, fiN, slK, slN] at hn ⊢ <;> (repeat' split) <;> omega
theorem sl_inj {i j : Nat} (hk : slK i = slK j) (hn : slN i = slN j) : i = j := by
  simp only [slK, slN] at hk hn
  split at hk <;> split at hk <;> (try split at hk) <;> (try split at hk) <;> (try split at hk) <;> (try split at hk) <;> simp_all <;> omega
theorem slK_in {i : Nat} : 2 ≤ slK i ∧ slK i ≤ 5 := by unfold slK; (repeat' split) <;> omega
def hsG (σ : HS) : Prop := ∀ K, 1 ≤ K → K ≤ 7 → ∃ n, σ.G K = nI n ∧ n ≤ liN K
theorem gN_of {σ : HS} (h : hsG σ) {K : Nat} (h1 : 1 ≤ K) (h7 : K ≤ 7) : σ.G K = nI (gN σ K) ∧ gN σ K ≤ liN K := by
  obtain ⟨n, e, hn⟩ := h K h1 h7
  have := liN_le (K := K)
  have hg : gN σ K = n := by rw [gN, e, nI_clamp (by omega)]
  exact ⟨by rw [hg, e], by rw [hg]; exact hn⟩
def hsMd (b : HA) (σ : HS) : Prop := (∀ i, i < 150 → (b.f i).isSome = slM σ i) ∧ (∀ j, j < 10 → (b.fa j).isSome = decide (j < gN σ 6)) ∧ (∀ j, j < 8 → (b.fv j).isSome = decide (j < gN σ 7))
def hsK (σ : HS) : Prop := ∀ i, i < 150 → slM σ i = true → σ.T i 0 = nI (slK i) ∧ σ.T i 1 = nI (slN i)
def hsW (k : Nat → Nat) (V : HV) (b : HA) (σ : HS) : Prop := hsOk k V b σ ∧ hsMd b σ ∧ hsG σ ∧ hsK σ
theorem slOk_of {b : HA} {σ : HS} (hM : hsMd b σ) (hK : hsK σ) : slOk b.f σ.T := fun i t hi hf => by
  have hm : slM σ i = true := by rw [← hM.1 i hi, hf]; rfl
  obtain ⟨h0, h1⟩ := hK i hi hm
  have ⟨a1, a2⟩ := slK_in (i := i)
  refine ⟨slK i, by omega, h0, ?_⟩
  rw [h1, firV_n a1 a2, nI_add]
  congr 1
  simp only [slK, slN]
  (repeat' split) <;> simp only [fiN] <;> omega
theorem slot_free {k : Nat → Nat} {V : HV} {b : HA} {σ : HS} (h : hsW k V b σ) {K : Nat} (h2 : 2 ≤ K) (h5 : K ≤ 5) (hf : ¬ limV K ≤ σ.G K) : fiN K + gN σ K < 150 ∧ firV K + σ.G K = nI (fiN K + gN σ K) ∧ b.f (fiN K + gN σ K) = none := by
  obtain ⟨e, hle⟩ := gN_of h.2.2.1 (K := K) (by omega) (by omega)
  rw [e, limV_n (by omega) (by omega)] at hf
  have := liN_le (K := K)
  have hlt : gN σ K < liN K := Nat.not_le.mp (fun q => hf (nI_le q (by omega)))
  obtain ⟨s1, s2, s3⟩ := sl_of h2 h5 hlt
  refine ⟨s3, by rw [e, firV_n h2 h5, nI_add], ?_⟩
  have := h.2.1.1 _ s3
  rw [slM, s1, s2, decide_eq_false (Nat.lt_irrefl _)] at this
  exact Option.not_isSome_iff_eq_none.mp (by rw [this]; exact Bool.false_ne_true)
def mkR (kd nu la ne pa x y u v : Int32) : Nat → Int32 := fun q => match q with
  | 0 => kd
  | 1 => nu
  | 2 => la
  | 3 => ne
  | 4 => pa
  | 5 => 0
  | 6 => x
  | 7 => y
  | 8 => u
  | _ => v
def mkP (σ : HS) (K : Nat) (R : Nat → Int32) (x y u v : Int32) : Int32 × HS := if whyMd σ K R none x y u v = 0 then (1000 * nI K + σ.G K, mkS σ K (fiN K + gN σ K) R) else (-1, σ.wrs (whyMd σ K R none x y u v))
theorem mkS_T {σ : HS} {K i : Nat} {R : Nat → Int32} : (mkS σ K i R).T = updT (updT σ.T i R) i (upd R 5 1) := rfl
theorem mkS_G {σ : HS} {K i : Nat} {R : Nat → Int32} : (mkS σ K i R).G = upd σ.G K (σ.G K + 1) := rfl
theorem gN_up {σ σ' : HS} {K : Nat} (hG : hsG σ) (h1 : 1 ≤ K) (h7 : K ≤ 7) (hf : ¬ limV K ≤ σ.G K) (e : σ'.G = upd σ.G K (σ.G K + 1)) : gN σ' K = gN σ K + 1 ∧ (∀ K', K' ≠ K → gN σ' K' = gN σ K') ∧ gN σ K < liN K ∧ hsG σ' := by
  obtain ⟨eg, hle⟩ := gN_of hG h1 h7
  have := liN_le (K := K)
  have hf' := hf
  rw [eg, limV_n h1 h7] at hf'
  have hlt : gN σ K < liN K := Nat.not_le.mp (fun q => hf' (nI_le q (by omega)))
  have e1 : σ'.G K = nI (gN σ K + 1) := by rw [e, up_s, eg, nI_1]
  refine ⟨by rw [gN, e1, nI_clamp (by omega)], fun K' h => by rw [gN, e, up_n h]; rfl, hlt, fun K' a1 a7 => ?_⟩
  by_cases hk : K' = K
  · subst hk; exact ⟨_, e1, by omega⟩
  · rw [e, up_n hk]; exact hG K' a1 a7
theorem hs_tmp {k : Nat → Nat} {V : HV} {b : HA} {σ : HS} (h : hsOk k V b σ) {q : Nat} {e : va_E} (hl : 5000 ≤ b.lb q) : hsOk k (hu V q e) b σ := hs_other h (fun x y hx hy => by rw [hu_n (fun z => by rw [z] at hx; omega)]; exact hy)
theorem W_make {k : Nat → Nat} {V V' : HV} {b : HA} {σ : HS} (hW : hsW k V b σ) {K t a0 : Nat} {R : Nat → Int32} (h2 : 2 ≤ K) (h5 : K ≤ 5) (hf : ¬ limV K ≤ σ.G K) (hK : R 0 = nI K) (hN : R 1 = σ.G K) {bm : HA} (e1 : bm.f = b.f) (e2 : bm.fa = b.fa) (e3 : bm.fv = b.fv) (h : hsOk k V' (bm.addT (fiN K + gN σ K) t a0) (mkS σ K (fiN K + gN σ K) R)) : hsW k V' (bm.addT (fiN K + gN σ K) t a0) (mkS σ K (fiN K + gN σ K) R) := by
  obtain ⟨-, ⟨m1, m2, m3⟩, hG, hKK⟩ := hW
  obtain ⟨g1, g2, g3, g4⟩ := gN_up (σ' := mkS σ K (fiN K + gN σ K) R) hG (by omega) (by omega) hf mkS_G
  obtain ⟨s1, s2, s3⟩ := sl_of h2 h5 g3
  have hsl : ∀ j, j ≠ fiN K + gN σ K → slM (mkS σ K (fiN K + gN σ K) R) j = slM σ j := fun j hj => by
    rw [slM, slM]
    by_cases hk : slK j = K
    · rw [hk, g1]
      have : slN j ≠ gN σ K := fun q => hj (sl_inj (by rw [hk, s1]) (by rw [q, s2]))
      by_cases hlt : slN j < gN σ K
      · rw [decide_eq_true hlt, decide_eq_true (by omega)]
      · rw [decide_eq_false hlt, decide_eq_false (by omega)]
    · rw [g2 _ hk]
  have hsi : slM (mkS σ K (fiN K + gN σ K) R) (fiN K + gN σ K) = true := by rw [slM, s1, s2, g1]; exact decide_eq_true (by omega)
  refine ⟨h, ⟨fun i hi => ?_, fun j hj => ?_, fun j hj => ?_⟩, g4, fun i hi hm => ?_⟩
  · show (va_up bm.f (fiN K + gN σ K) (some t) i).isSome = _
    by_cases hii : i = fiN K + gN σ K
    · rw [hii, va_up_s, hsi]; rfl
    · rw [va_up_n hii, hsl i hii, e1]; exact m1 i hi
  · rw [g2 6 (by omega)]; show (bm.fa j).isSome = _; rw [e2]; exact m2 j hj
  · rw [g2 7 (by omega)]; show (bm.fv j).isSome = _; rw [e3]; exact m3 j hj
  · rw [mkS_T]
    by_cases hii : i = fiN K + gN σ K
    · subst hii
      rw [uT_s, up_n (by omega), up_n (by omega), s1, s2]
      exact ⟨hK, by rw [hN]; exact (gN_of hG (by omega) (by omega)).1⟩
    · rw [uT_n hii, uT_n hii]
      rw [hsl i hii] at hm
      exact hKK i hi hm
theorem W_rs {k : Nat → Nat} {V V' : HV} {b bm : HA} {σ : HS} (hW : hsW k V b σ) {r : Int32} (e1 : bm.f = b.f) (e2 : bm.fa = b.fa) (e3 : bm.fv = b.fv) (h : hsOk k V' bm (σ.wrs r)) : hsW k V' bm (σ.wrs r) := by
  obtain ⟨-, ⟨m1, m2, m3⟩, hG, hKK⟩ := hW
  exact ⟨h, ⟨fun i hi => by rw [e1]; exact m1 i hi, fun j hj => by rw [e2]; exact m2 j hj, fun j hj => by rw [e3]; exact m3 j hj⟩, hG, hKK⟩
theorem mk_post {k : Nat → Nat} {V Vm V' : HV} {b bm : HA} {σ : HS} {K t a0 : Nat} {R : Nat → Int32} {x y u v r : Int32} (hW : hsW k V b σ) (e1 : bm.f = b.f) (e2 : bm.fa = b.fa) (e3 : bm.fv = b.fv) (hF : hsFr b bm V Vm) (h2 : 2 ≤ K) (h5 : K ≤ 5) (hK : R 0 = nI K) (hN : R 1 = σ.G K)
    (hp : (whyMd σ K R none x y u v = 0 → r = 1000 * nI K + σ.G K ∧ hsOk k V' (bm.addT (fiN K + gN σ K) t a0) (mkS σ K (fiN K + gN σ K) R) ∧ hsFr bm (bm.addT (fiN K + gN σ K) t a0) Vm V') ∧ (whyMd σ K R none x y u v ≠ 0 → r = -1 ∧ hsOk k V' bm (σ.wrs (whyMd σ K R none x y u v)) ∧ hsFr bm bm Vm V')) :
    ∃ b', hsW k V' b' (mkP σ K R x y u v).2 ∧ hsFr b b' V V' ∧ r = (mkP σ K R x y u v).1 := by
  by_cases h0 : whyMd σ K R none x y u v = 0
  · obtain ⟨a1, a2, a3⟩ := hp.1 h0
    rw [mkP, if_pos h0]
    exact ⟨_, W_make hW h2 h5 (why_full h0.symm) hK hN e1 e2 e3 a2, hF.tr a3, a1⟩
  · obtain ⟨a1, a2, a3⟩ := hp.2 h0
    rw [mkP, if_neg h0]
    exact ⟨_, W_rs hW e1 e2 e3 a2, hF.tr a3, a1⟩
set_option maxHeartbeats 4000000 in
set_option maxRecDepth 100000 in
/-- via -/
theorem c_Ho_via (l : Launch) (D : va_G) (N0 : Nat) (k : Nat → Nat) (V : HV) (b : HA) (σ : HS) (hW0 : hsW k V b σ) (net x y : Int32) (hg : gvOk σ.G net = true) (hk1 : net / 1000 = 1) : Met l y_Ho_via (.code y_Ho_via b_Ho_via 4 (some .int) :: WS) ({ frames := 7, cells := 2, slots := 11, locals := 118 }) (mP D N0 k [.ref b.ho, .int net, .int x, .int y] V) (va_Qi (fun r V' => ∃ b', hsW k V' b' (mkP σ 3 (mkR 3 (σ.G 3) 0 net (-1) x y x y) 0 0 31 23).2 ∧ hsFr b b' V V' ∧ r = (mkP σ 3 (mkR 3 (σ.G 3) 0 net (-1) x y x y) 0 0 31 23).1) (mB D N0) (hA N0)) 2 11 (hA N0) := by
  refine Met.ofW (cc := b_Ho_via) (maxL := 4) (ret := (some .int)) (by decide) rfl ?_
  intro p e s m args below meth c s₁ B hml hv0
  obtain ⟨rfl, hG, hV⟩ := hv0
  have hx := B.exec
  have hb := B.bytes
  have hr := B.returns
  have hts := atoms_spec (ws := .code y_Ho_via b_Ho_via 4 (some .int) :: WS) B.pre
  have hW : ∀ w ∈ WS, w.before _ s = true := fun w h => hts w (List.mem_cons_of_mem _ h)
  have hown : s.vm.findClass "BoardHouse" = some m.cls := findClass_of_methodNamed B.named
  have hlocks := B.notSynchronized
  have hS : va_S (hA N0) s.heap s.heap [] := va_S.rf
  have hl := lv_entry ([.ref b.ho, .int net, .int x, .int y]) (n := 4) (Nat.le_of_ble_eq_true rfl)
  rw [lg_entry_eq]
  generalize (lg_sl ([.ref b.ho, .int net, .int x, .int y]) ++ List.replicate (4 - (lg_sl ([.ref b.ho, .int net, .int x, .int y])).length) Slot.unset).toArray = ls at hl ⊢
  have hl : lv_has ls 4 [(0, .ref b.ho), (1, .int net), (2, .int x), (3, .int y)] := hl
  have hH := hW0.1
  refine lv_aload_n hx hb d_Ho_via_0 rfl (lv_at hl 0 rfl) ?_
  refine lv_iload_n hx hb d_Ho_via_1 rfl (lv_at hl 1 rfl) ?_
  refine va_csv (va_Run.run (va_runV (As := [.int net]) (rest := []) ⟨hx, hb, hml, hown, hts⟩ (r_Ho_demandGiven l D N0 k V b.ho b.bo b.gi b.co b.ta b.ac b.ve (woA b σ.wo) (nI σ.nl) σ.rs hH.ho σ.G hH.gi net hg) (cwV 1 hts (gi_V wm_Ho_97 wv_Ho_demandGiven ws_Ho_demandGiven wi_Ho wc_Ho_demandGiven) rfl rfl rfl (by decide +kernel) ⟨Nat.le_of_ble_eq_true rfl, Nat.le_of_ble_eq_true rfl⟩) (mP.preV hG hS hV hH.ho rfl) rfl rfl hl.1 rfl (lv_room (Nat.le_of_ble_eq_true rfl)) d_Ho_via_2 ⟨Nat.le_of_ble_eq_true rfl, Nat.le_of_ble_eq_true rfl⟩)) (fun _ => ?_)
  refine lv_iload_n hx hb d_Ho_via_5 rfl (lv_at hl 1 rfl) ?_
  refine lv_iconst (v := 1) hx hb d_Ho_via_6 (by decide) ?_
  refine va_csv (va_Run.run (va_runS (As := [.int net, .int 1]) (rest := []) ⟨hx, hb, hml, hown, hts⟩ (r_Ho_demandKind l D N0 k V net 1 hk1) (va_cwS 2 hts (gi_S wm_Ho_101 wt_Ho_demandKind wi_Ho wc_Ho_demandKind) rfl rfl rfl (by decide +kernel) ⟨Nat.le_of_ble_eq_true rfl, Nat.le_of_ble_eq_true rfl⟩) (mP.preS hG hS hV) rfl rfl hl.1 rfl (lv_room (Nat.le_of_ble_eq_true rfl)) d_Ho_via_7 ⟨Nat.le_of_ble_eq_true rfl, Nat.le_of_ble_eq_true rfl⟩)) (fun _ => ?_)
  refine lv_aload_n hx hb d_Ho_via_10 rfl (lv_at hl 0 rfl) ?_
  refine hv_new (ci := 5) (fs := [.int 0, .int 0, .null, .int 0, .int 0, .int 0, .int 0]) (C := R_Th) (T := T_Th) (N := 7) hx hb hW in_Th t_Th ty_Th hown (hW _ wk_Ho_88) (hW _ wo_Th) (hW _ wi_Th) hG.K hV hS rfl (fun j hj => by rcases (show j = 0 ∨ j = 1 ∨ j = 2 ∨ j = 3 ∨ j = 4 ∨ j = 5 ∨ j = 6 by omega) with rfl | rfl | rfl | rfl | rfl | rfl | rfl <;> rfl) (Nat.le_of_ble_eq_true rfl) (Nat.le_of_ble_eq_true rfl) hG.N d_Ho_via_11 (fun q_1 H hn_q_1 hN_q_1 hV hS => ?_)
  have ne_bho_q_1 : b.ho ≠ q_1 := fun z => by rw [← z, hH.ho] at hn_q_1; cases hn_q_1
  have ne_bbo_q_1 : b.bo ≠ q_1 := fun z => by rw [← z, hH.bo] at hn_q_1; cases hn_q_1
  have ne_bgi_q_1 : b.gi ≠ q_1 := fun z => by rw [← z, hH.gi] at hn_q_1; cases hn_q_1
  have ne_bco_q_1 : b.co ≠ q_1 := fun z => by rw [← z, hH.co] at hn_q_1; cases hn_q_1
  have ne_bta_q_1 : b.ta ≠ q_1 := fun z => by rw [← z, hH.ts.1] at hn_q_1; cases hn_q_1
  have ne_bac_q_1 : b.ac ≠ q_1 := fun z => by rw [← z, hH.ac.1] at hn_q_1; cases hn_q_1
  have ne_bve_q_1 : b.ve ≠ q_1 := fun z => by rw [← z, hH.ve] at hn_q_1; cases hn_q_1
  replace hV : hv D vwCl N0 (hu V q_1 (.inr (5, [.int 0, .int 0, .null, .int 0, .int 0, .int 0, .int 0]))) H := hV
  generalize hV_V_2 : hu V q_1 (.inr (5, [.int 0, .int 0, .null, .int 0, .int 0, .int 0, .int 0])) = V_2 at hV
  have hH_ho'V_2 : V_2 b.ho = some (.inr (6, [.int (nI σ.nl), .ref b.bo, .ref b.gi, .ref b.co, .ref b.ta, .ref b.ac, .ref b.ve, va_rf (woA b σ.wo), .int σ.rs])) := by rw [← hV_V_2, hu_n ne_bho_q_1]; exact hH.ho
  have hH_bo'V_2 : V_2 b.bo = some (.inr (1, [.int 0, .int 0, .int 31, .int 23])) := by rw [← hV_V_2, hu_n ne_bbo_q_1]; exact hH.bo
  have hH_gi'V_2 : V_2 b.gi = some (eI k 8 σ.G) := by rw [← hV_V_2, hu_n ne_bgi_q_1]; exact hH.gi
  have hH_co'V_2 : V_2 b.co = some (.inr (2, [.ref b.ta, .int (nI σ.nl), .ref b.ro, .ref b.on, .ref b.re, .int σ.g])) := by rw [← hV_V_2, hu_n ne_bco_q_1]; exact hH.co
  have hH_ts_1'V_2 : V_2 b.ta = some (eTs k b.f) := by rw [← hV_V_2, hu_n ne_bta_q_1]; exact hH.ts.1
  have hH_ac_1'V_2 : V_2 b.ac = some (eAs k b.fa) := by rw [← hV_V_2, hu_n ne_bac_q_1]; exact hH.ac.1
  have hH_ve'V_2 : V_2 b.ve = some (eVs k b.fv) := by rw [← hV_V_2, hu_n ne_bve_q_1]; exact hH.ve
  have hq_1'V_2 : V_2 q_1 = some (.inr (5, [.int 0, .int 0, .null, .int 0, .int 0, .int 0, .int 0])) := by rw [← hV_V_2]; exact hu_s
  refine lv_dup hx hb d_Ho_via_14 rfl ?_
  refine lv_iconst (v := 3) hx hb d_Ho_via_15 (by decide) ?_
  refine lv_aload_n hx hb d_Ho_via_16 rfl (lv_at hl 0 rfl) ?_
  refine gf_Ho_18 hx hb hW hown hG hV hH_ho'V_2 d_Ho_via_17 ?_
  refine lv_iconst (v := 3) hx hb d_Ho_via_20 (by decide) ?_
  refine hv_iald hx hb hG.K hV 0 hH_gi'V_2 rfl ((vp_in_nI (by omega) (by omega) : vp_in (nI 3) 8)) d_Ho_via_21 ?_
  rw [show (3 : Int32).toNatClampNeg = 3 from rfl]
  refine hv_new (ci := 1) (fs := [.int 0, .int 0, .int 0, .int 0]) (C := R_Ar) (T := T_Ar) (N := 4) hx hb hW in_Ar t_Ar ty_Ar hown (hW _ wk_Ho_9) (hW _ wo_Ar) (hW _ wi_Ar) hG.K hV hS rfl (fun j hj => by rcases (show j = 0 ∨ j = 1 ∨ j = 2 ∨ j = 3 by omega) with rfl | rfl | rfl | rfl <;> rfl) (Nat.le_of_ble_eq_true rfl) (Nat.le_of_ble_eq_true rfl) hG.N d_Ho_via_22 (fun q_3 H hn_q_3 hN_q_3 hV hS => ?_)
  have ne_bho_q_3 : b.ho ≠ q_3 := fun z => by rw [← z, hH_ho'V_2] at hn_q_3; cases hn_q_3
  have ne_bbo_q_3 : b.bo ≠ q_3 := fun z => by rw [← z, hH_bo'V_2] at hn_q_3; cases hn_q_3
  have ne_bgi_q_3 : b.gi ≠ q_3 := fun z => by rw [← z, hH_gi'V_2] at hn_q_3; cases hn_q_3
  have ne_bco_q_3 : b.co ≠ q_3 := fun z => by rw [← z, hH_co'V_2] at hn_q_3; cases hn_q_3
  have ne_bta_q_3 : b.ta ≠ q_3 := fun z => by rw [← z, hH_ts_1'V_2] at hn_q_3; cases hn_q_3
  have ne_bac_q_3 : b.ac ≠ q_3 := fun z => by rw [← z, hH_ac_1'V_2] at hn_q_3; cases hn_q_3
  have ne_bve_q_3 : b.ve ≠ q_3 := fun z => by rw [← z, hH_ve'V_2] at hn_q_3; cases hn_q_3
  have ne_q_1_q_3 : q_1 ≠ q_3 := fun z => by rw [← z, hq_1'V_2] at hn_q_3; cases hn_q_3
  replace hV : hv D vwCl N0 (hu V_2 q_3 (.inr (1, [.int 0, .int 0, .int 0, .int 0]))) H := hV
  generalize hV_V_4 : hu V_2 q_3 (.inr (1, [.int 0, .int 0, .int 0, .int 0])) = V_4 at hV
  have hH_ho'V_4 : V_4 b.ho = some (.inr (6, [.int (nI σ.nl), .ref b.bo, .ref b.gi, .ref b.co, .ref b.ta, .ref b.ac, .ref b.ve, va_rf (woA b σ.wo), .int σ.rs])) := by rw [← hV_V_4, hu_n ne_bho_q_3]; exact hH_ho'V_2
  have hH_bo'V_4 : V_4 b.bo = some (.inr (1, [.int 0, .int 0, .int 31, .int 23])) := by rw [← hV_V_4, hu_n ne_bbo_q_3]; exact hH_bo'V_2
  have hH_gi'V_4 : V_4 b.gi = some (eI k 8 σ.G) := by rw [← hV_V_4, hu_n ne_bgi_q_3]; exact hH_gi'V_2
  have hH_co'V_4 : V_4 b.co = some (.inr (2, [.ref b.ta, .int (nI σ.nl), .ref b.ro, .ref b.on, .ref b.re, .int σ.g])) := by rw [← hV_V_4, hu_n ne_bco_q_3]; exact hH_co'V_2
  have hH_ts_1'V_4 : V_4 b.ta = some (eTs k b.f) := by rw [← hV_V_4, hu_n ne_bta_q_3]; exact hH_ts_1'V_2
  have hH_ac_1'V_4 : V_4 b.ac = some (eAs k b.fa) := by rw [← hV_V_4, hu_n ne_bac_q_3]; exact hH_ac_1'V_2
  have hH_ve'V_4 : V_4 b.ve = some (eVs k b.fv) := by rw [← hV_V_4, hu_n ne_bve_q_3]; exact hH_ve'V_2
  have hq_1'V_4 : V_4 q_1 = some (.inr (5, [.int 0, .int 0, .null, .int 0, .int 0, .int 0, .int 0])) := by rw [← hV_V_4, hu_n ne_q_1_q_3]; exact hq_1'V_2
  have hq_3'V_4 : V_4 q_3 = some (.inr (1, [.int 0, .int 0, .int 0, .int 0])) := by rw [← hV_V_4]; exact hu_s
  refine lv_dup hx hb d_Ho_via_25 rfl ?_
  refine lv_iload_n hx hb d_Ho_via_26 rfl (lv_at hl 2 rfl) ?_
  refine lv_iload_n hx hb d_Ho_via_27 rfl (lv_at hl 3 rfl) ?_
  refine lv_iload_n hx hb d_Ho_via_28 rfl (lv_at hl 2 rfl) ?_
  refine lv_iload_n hx hb d_Ho_via_29 rfl (lv_at hl 3 rfl) ?_
  refine rc_V (va_runI (As := [.int x, .int y, .int x, .int y]) (rest := [.ref q_3, .int (σ.G 3), .int 3, .ref q_1, .ref q_1, .ref b.ho]) ⟨hx, hb, hml, hown, hts⟩ (c_Ar_init l D N0 k V_4 q_3 x y x y 0 0 0 0 hq_3'V_4) (cwI 4 hts (gi_c wc_Ar_init) rfl rfl rfl (hW _ wi_Ar) (hW _ wm_Ho_11) (hW _ wv_Ar_init) rfl (by decide +kernel) ⟨Nat.le_of_ble_eq_true rfl, Nat.le_of_ble_eq_true rfl⟩) (mP.preS hG hS hV) rfl rfl hl.1 rfl (lv_room (Nat.le_of_ble_eq_true rfl)) d_Ho_via_30 ⟨Nat.le_of_ble_eq_true rfl, Nat.le_of_ble_eq_true rfl⟩) hS (fun V_5 H locs hp_6 hV hS => ?_)
  have hV_V_5 := hp_6.symm
  have hH_ho'V_5 : V_5 b.ho = some (.inr (6, [.int (nI σ.nl), .ref b.bo, .ref b.gi, .ref b.co, .ref b.ta, .ref b.ac, .ref b.ve, va_rf (woA b σ.wo), .int σ.rs])) := by rw [← hV_V_5, hu_n ne_bho_q_3]; exact hH_ho'V_4
  have hH_bo'V_5 : V_5 b.bo = some (.inr (1, [.int 0, .int 0, .int 31, .int 23])) := by rw [← hV_V_5, hu_n ne_bbo_q_3]; exact hH_bo'V_4
  have hH_gi'V_5 : V_5 b.gi = some (eI k 8 σ.G) := by rw [← hV_V_5, hu_n ne_bgi_q_3]; exact hH_gi'V_4
  have hH_co'V_5 : V_5 b.co = some (.inr (2, [.ref b.ta, .int (nI σ.nl), .ref b.ro, .ref b.on, .ref b.re, .int σ.g])) := by rw [← hV_V_5, hu_n ne_bco_q_3]; exact hH_co'V_4
  have hH_ts_1'V_5 : V_5 b.ta = some (eTs k b.f) := by rw [← hV_V_5, hu_n ne_bta_q_3]; exact hH_ts_1'V_4
  have hH_ac_1'V_5 : V_5 b.ac = some (eAs k b.fa) := by rw [← hV_V_5, hu_n ne_bac_q_3]; exact hH_ac_1'V_4
  have hH_ve'V_5 : V_5 b.ve = some (eVs k b.fv) := by rw [← hV_V_5, hu_n ne_bve_q_3]; exact hH_ve'V_4
  have hq_1'V_5 : V_5 q_1 = some (.inr (5, [.int 0, .int 0, .null, .int 0, .int 0, .int 0, .int 0])) := by rw [← hV_V_5, hu_n ne_q_1_q_3]; exact hq_1'V_4
  have hq_3'V_5 : V_5 q_3 = some (eAr x y x y) := by rw [← hV_V_5]; exact hu_s
  refine lv_iconst (v := 0) hx hb d_Ho_via_33 (by decide) ?_
  refine lv_iload_n hx hb d_Ho_via_34 rfl (lv_at hl 1 rfl) ?_
  refine lv_iconst (v := (-1)) hx hb d_Ho_via_35 (by decide) ?_
  refine rc_V (va_runI (As := [.int 3, .int (σ.G 3), .ref q_3, .int 0, .int net, .int (-1)]) (rest := [.ref q_1, .ref b.ho]) ⟨hx, hb, hml, hown, hts⟩ (c_Th_init l D N0 k V_5 q_1 q_3 3 (σ.G 3) 0 net (-1) hq_1'V_5) (cwI 6 hts (gi_c wc_Th_init) rfl rfl rfl (hW _ wi_Th) (hW _ wm_Ho_90) (hW _ wv_Th_init) rfl (by decide +kernel) ⟨Nat.le_of_ble_eq_true rfl, Nat.le_of_ble_eq_true rfl⟩) (mP.preS hG hS hV) rfl rfl hl.1 rfl (lv_room (Nat.le_of_ble_eq_true rfl)) d_Ho_via_36 ⟨Nat.le_of_ble_eq_true rfl, Nat.le_of_ble_eq_true rfl⟩) hS (fun V_7 H locs hp_8 hV hS => ?_)
  have hV_V_7 := hp_8.symm
  have hH_ho'V_7 : V_7 b.ho = some (.inr (6, [.int (nI σ.nl), .ref b.bo, .ref b.gi, .ref b.co, .ref b.ta, .ref b.ac, .ref b.ve, va_rf (woA b σ.wo), .int σ.rs])) := by rw [← hV_V_7, hu_n ne_bho_q_1]; exact hH_ho'V_5
  have hH_bo'V_7 : V_7 b.bo = some (.inr (1, [.int 0, .int 0, .int 31, .int 23])) := by rw [← hV_V_7, hu_n ne_bbo_q_1]; exact hH_bo'V_5
  have hH_gi'V_7 : V_7 b.gi = some (eI k 8 σ.G) := by rw [← hV_V_7, hu_n ne_bgi_q_1]; exact hH_gi'V_5
  have hH_co'V_7 : V_7 b.co = some (.inr (2, [.ref b.ta, .int (nI σ.nl), .ref b.ro, .ref b.on, .ref b.re, .int σ.g])) := by rw [← hV_V_7, hu_n ne_bco_q_1]; exact hH_co'V_5
  have hH_ts_1'V_7 : V_7 b.ta = some (eTs k b.f) := by rw [← hV_V_7, hu_n ne_bta_q_1]; exact hH_ts_1'V_5
  have hH_ac_1'V_7 : V_7 b.ac = some (eAs k b.fa) := by rw [← hV_V_7, hu_n ne_bac_q_1]; exact hH_ac_1'V_5
  have hH_ve'V_7 : V_7 b.ve = some (eVs k b.fv) := by rw [← hV_V_7, hu_n ne_bve_q_1]; exact hH_ve'V_5
  have hq_3'V_7 : V_7 q_3 = some (.inr (1, [.int x, .int y, .int x, .int y])) := by rw [← hV_V_7, hu_n (Ne.symm ne_q_1_q_3)]; exact hq_3'V_5
  have hq_1'V_7 : V_7 q_1 = some (eTh 3 (σ.G 3) q_3 0 net (-1) 0) := by rw [← hV_V_7]; exact hu_s
  refine lv_aload_n hx hb d_Ho_via_39 rfl (lv_at hl 0 rfl) ?_
  refine gf_Ho_14 hx hb hW hown hG hV hH_ho'V_7 d_Ho_via_40 ?_
  obtain ⟨Vm, eVm⟩ : ∃ z, z = V_7 := ⟨_, rfl⟩
  have lb2 : ((b.lab q_1 5000).lab q_3 5001).lb q_3 = 5001 := HA.lab_s
  have lb1 : ((b.lab q_1 5000).lab q_3 5001).lb q_1 = 5000 := (HA.lab_n ne_q_1_q_3).trans HA.lab_s
  have hH_V_2 : hsOk k V_2 (b.lab q_1 5000) σ := by rw [← hV_V_2]; exact hs_new hH hn_q_1
  have hF_V_2 : hsFr b (b.lab q_1 5000) V V_2 := by rw [← hV_V_2]; exact hsFr.tr (hsFr.rf (a := b) (V := V)) (hsFr_new hn_q_1)
  have hH_V_4 : hsOk k V_4 ((b.lab q_1 5000).lab q_3 5001) σ := by rw [← hV_V_4]; exact hs_new hH_V_2 hn_q_3
  have hF_V_4 : hsFr b ((b.lab q_1 5000).lab q_3 5001) V V_4 := by rw [← hV_V_4]; exact hsFr.tr hF_V_2 (hsFr_new hn_q_3)
  have hH_V_5 : hsOk k V_5 ((b.lab q_1 5000).lab q_3 5001) σ := by rw [← hV_V_5]; exact hs_tmp hH_V_4 (by rw [lb2]; omega)
  have hF_V_5 : hsFr b ((b.lab q_1 5000).lab q_3 5001) V V_5 := by rw [← hV_V_5]; exact hsFr.tr hF_V_4 (hsFr_hu (by rw [lb2]; omega))
  have hH_V_7 : hsOk k V_7 ((b.lab q_1 5000).lab q_3 5001) σ := by rw [← hV_V_7]; exact hs_tmp hH_V_5 (by rw [lb1]; omega)
  have hF_V_7 : hsFr b ((b.lab q_1 5000).lab q_3 5001) V V_7 := by rw [← hV_V_7]; exact hsFr.tr hF_V_5 (hsFr_hu (by rw [lb1]; omega))
  have hHm := hH_V_7
  have hFm := hF_V_7
  refine rc_I (va_runV (As := [.ref q_1, .ref b.bo]) (rest := []) ⟨hx, hb, hml, hown, hts⟩ (c_Ho_make l D N0 k V_7 ((b.lab q_1 5000).lab q_3 5001) σ hHm q_1 q_3 (mkR 3 (σ.G 3) 0 net (-1) x y x y) hq_1'V_7 hq_3'V_7 b.bo 0 0 31 23 hH_bo'V_7 3 rfl (by omega) (by omega) (fiN 3 + gN σ 3) (fun hz => slot_free hW0 (by omega) (by omega) hz) lb1 lb2) (cwV 2 hts (gi_V wm_Ho_93 wv_Ho_make ws_Ho_make wi_Ho wc_Ho_make) rfl rfl rfl (by decide +kernel) ⟨Nat.le_of_ble_eq_true rfl, Nat.le_of_ble_eq_true rfl⟩) (mP.preV hG hS hV hH_ho'V_7 rfl) rfl rfl hl.1 rfl (lv_room (Nat.le_of_ble_eq_true rfl)) d_Ho_via_43 ⟨Nat.le_of_ble_eq_true rfl, Nat.le_of_ble_eq_true rfl⟩) hS (fun r_9 V_10 H locs hp_11 hV hS => ?_)
  have hfin := mk_post hW0 (bm := ((b.lab q_1 5000).lab q_3 5001)) (K := 3) (R := (mkR 3 (σ.G 3) 0 net (-1) x y x y)) rfl rfl rfl hFm (by omega) (by omega) rfl rfl hp_11
  exact W.iret (v := r_9) hx hb hr (fun t9 ht hW => ⟨⟨r_9, V_10, rfl, hfin, mB_of ht hV⟩, hS.F ht⟩) hS.2.2 d_Ho_via_46
set_option maxHeartbeats 4000000 in
set_option maxRecDepth 100000 in
/-- via: no such net -/
theorem t_Ho_via1 (l : Launch) (hls : l.stackTraces = false) (D : va_G) (N0 : Nat) (k : Nat → Nat) (V : HV) (b : HA) (σ : HS) (hH : hsOk k V b σ) (net x y : Int32) (hg : gvOk σ.G net = false) : hx_Met l y_Ho_via (.code y_Ho_via b_Ho_via 4 (some .int) :: WS) ({ frames := 7, cells := 1, slots := 6, locals := 118 }) (mP D N0 k [.ref b.ho, .int net, .int x, .int y] V) "java/lang/IndexOutOfBoundsException" (fun H9 => hv D vwCl N0 V H9) N0 1 6 := by
  refine hx_ofW (cc := b_Ho_via) (maxL := 4) (ret := (some .int)) (by decide) rfl ?_
  intro p e s m args below meth c s₁ B hml hno hv0
  obtain ⟨rfl, hG, hV⟩ := hv0
  have hx := B.exec
  have hb := B.bytes
  have hr := B.returns
  have hts := atoms_spec (ws := .code y_Ho_via b_Ho_via 4 (some .int) :: WS) B.pre
  have hW : ∀ w ∈ WS, w.before _ s = true := fun w h => hts w (List.mem_cons_of_mem _ h)
  have hown : s.vm.findClass "BoardHouse" = some m.cls := findClass_of_methodNamed B.named
  have hlocks := B.notSynchronized
  have hS : va_S (hA N0) s.heap s.heap [] := va_S.rf
  have hl := lv_entry ([.ref b.ho, .int net, .int x, .int y]) (n := 4) (Nat.le_of_ble_eq_true rfl)
  rw [lg_entry_eq]
  generalize (lg_sl ([.ref b.ho, .int net, .int x, .int y]) ++ List.replicate (4 - (lg_sl ([.ref b.ho, .int net, .int x, .int y])).length) Slot.unset).toArray = ls at hl ⊢
  have hl : lv_has ls 4 [(0, .ref b.ho), (1, .int net), (2, .int x), (3, .int y)] := hl
  refine lv_aload_n hx hb d_Ho_via_0 rfl (lv_at hl 0 rfl) ?_
  refine lv_iload_n hx hb d_Ho_via_1 rfl (lv_at hl 1 rfl) ?_
  exact hx_callOut (hx_runV (As := [.int net]) (rest := []) ⟨hx, hb, hml, hown, hts⟩ (t_Ho_demandGiven l hls D N0 k V b.ho b.bo b.gi b.co b.ta b.ac b.ve (woA b σ.wo) (nI σ.nl) σ.rs hH.ho σ.G hH.gi net hg) (cwV 1 hts (gi_V wm_Ho_97 wv_Ho_demandGiven ws_Ho_demandGiven wi_Ho wc_Ho_demandGiven) rfl rfl rfl (by decide +kernel) ⟨Nat.le_of_ble_eq_true rfl, Nat.le_of_ble_eq_true rfl⟩) (mP.preV hG hS hV hH.ho rfl) rfl rfl hl.1 rfl (lv_room (Nat.le_of_ble_eq_true rfl)) d_Ho_via_2 ⟨Nat.le_of_ble_eq_true rfl, Nat.le_of_ble_eq_true rfl⟩) hno hlocks hS (Nat.le_of_ble_eq_true rfl) (Nat.le_of_ble_eq_true rfl)
set_option maxHeartbeats 4000000 in
set_option maxRecDepth 100000 in
/-- via: not a net -/
theorem t_Ho_via2 (l : Launch) (hls : l.stackTraces = false) (D : va_G) (N0 : Nat) (k : Nat → Nat) (V : HV) (b : HA) (σ : HS) (hH : hsOk k V b σ) (net x y : Int32) (hg : gvOk σ.G net = true) (hk1 : ¬ net / 1000 = 1) : hx_Met l y_Ho_via (.code y_Ho_via b_Ho_via 4 (some .int) :: WS) ({ frames := 7, cells := 1, slots := 6, locals := 118 }) (mP D N0 k [.ref b.ho, .int net, .int x, .int y] V) "java/lang/IllegalArgumentException" (fun H9 => hv D vwCl N0 V H9) N0 1 6 := by
  refine hx_ofW (cc := b_Ho_via) (maxL := 4) (ret := (some .int)) (by decide) rfl ?_
  intro p e s m args below meth c s₁ B hml hno hv0
  obtain ⟨rfl, hG, hV⟩ := hv0
  have hx := B.exec
  have hb := B.bytes
  have hr := B.returns
  have hts := atoms_spec (ws := .code y_Ho_via b_Ho_via 4 (some .int) :: WS) B.pre
  have hW : ∀ w ∈ WS, w.before _ s = true := fun w h => hts w (List.mem_cons_of_mem _ h)
  have hown : s.vm.findClass "BoardHouse" = some m.cls := findClass_of_methodNamed B.named
  have hlocks := B.notSynchronized
  have hS : va_S (hA N0) s.heap s.heap [] := va_S.rf
  have hl := lv_entry ([.ref b.ho, .int net, .int x, .int y]) (n := 4) (Nat.le_of_ble_eq_true rfl)
  rw [lg_entry_eq]
  generalize (lg_sl ([.ref b.ho, .int net, .int x, .int y]) ++ List.replicate (4 - (lg_sl ([.ref b.ho, .int net, .int x, .int y])).length) Slot.unset).toArray = ls at hl ⊢
  have hl : lv_has ls 4 [(0, .ref b.ho), (1, .int net), (2, .int x), (3, .int y)] := hl
  refine lv_aload_n hx hb d_Ho_via_0 rfl (lv_at hl 0 rfl) ?_
  refine lv_iload_n hx hb d_Ho_via_1 rfl (lv_at hl 1 rfl) ?_
  refine va_csv (va_Run.run (va_runV (As := [.int net]) (rest := []) ⟨hx, hb, hml, hown, hts⟩ (r_Ho_demandGiven l D N0 k V b.ho b.bo b.gi b.co b.ta b.ac b.ve (woA b σ.wo) (nI σ.nl) σ.rs hH.ho σ.G hH.gi net hg) (cwV 1 hts (gi_V wm_Ho_97 wv_Ho_demandGiven ws_Ho_demandGiven wi_Ho wc_Ho_demandGiven) rfl rfl rfl (by decide +kernel) ⟨Nat.le_of_ble_eq_true rfl, Nat.le_of_ble_eq_true rfl⟩) (mP.preV hG hS hV hH.ho rfl) rfl rfl hl.1 rfl (lv_room (Nat.le_of_ble_eq_true rfl)) d_Ho_via_2 ⟨Nat.le_of_ble_eq_true rfl, Nat.le_of_ble_eq_true rfl⟩)) (fun _ => ?_)
  refine lv_iload_n hx hb d_Ho_via_5 rfl (lv_at hl 1 rfl) ?_
  refine lv_iconst (v := 1) hx hb d_Ho_via_6 (by decide) ?_
  exact hx_callOut (hx_runS (As := [.int net, .int 1]) (rest := []) ⟨hx, hb, hml, hown, hts⟩ (t_Ho_demandKind l hls D N0 k V net 1 hk1) (va_cwS 2 hts (gi_S wm_Ho_101 wt_Ho_demandKind wi_Ho wc_Ho_demandKind) rfl rfl rfl (by decide +kernel) ⟨Nat.le_of_ble_eq_true rfl, Nat.le_of_ble_eq_true rfl⟩) (mP.preS hG hS hV) rfl rfl hl.1 rfl (lv_room (Nat.le_of_ble_eq_true rfl)) d_Ho_via_7 ⟨Nat.le_of_ble_eq_true rfl, Nat.le_of_ble_eq_true rfl⟩) hno hlocks hS (Nat.le_of_ble_eq_true rfl) (Nat.le_of_ble_eq_true rfl)
