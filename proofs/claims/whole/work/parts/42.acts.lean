/-! begin, work, end, version, back, check, near, count, at -/
theorem hs_extT {k : Nat → Nat} {V : HV} {b : HA} {σ : HS} {T1 T2 : Nat → Nat → Int32} (h : hsOk k V b (σ.wT T1)) (e : ∀ j, j < 150 → T1 j = T2 j) : hsOk k V b (σ.wT T2) := by
  obtain ⟨h0, h1, h2, h3, h4, h5, h6⟩ := h
  refine ⟨h0, h1, h2, h3, h4, ⟨h5.1, fun i t hi hf => ?_, fun i hi hf => ?_⟩, h6⟩
  · obtain ⟨e1, e2⟩ := h5.2.1 i t hi hf
    have q : (σ.wT T1).T i = (σ.wT T2).T i := e i hi
    rw [eThT, eArT, ← q]; exact ⟨e1, e2⟩
  · have q : (σ.wT T1).T i = (σ.wT T2).T i := e i hi
    rw [← q]; exact h5.2.2 i hi hf
def acR (x y u v : Int32) : Nat → Int32 := fun q => match q with
  | 0 => 1
  | 1 => 0
  | 2 => x
  | 3 => y
  | 4 => u
  | _ => v
def bgS (σ : HS) (Z' : Nat → Int32) (x y u v : Int32) : HS := (((σ.wrs 0).wA (updT σ.A (gN σ 6) (acR x y u v))).wZ (updT σ.Z (gN σ 6) Z')).wG (upd σ.G 6 (σ.G 6 + 1))
def bgP (σ : HS) (Z' : Nat → Int32) (x y u v : Int32) : Int32 × HS := if whyBg σ x y u v = 0 then (1000 * nI 6 + σ.G 6, bgS σ Z' x y u v) else (-1, σ.wrs (whyBg σ x y u v))
theorem whyB_full {σ : HS} {x y u v : Int32} (h : 0 = whyBg σ x y u v) : ¬ limV 6 ≤ σ.G 6 := fun q => by rw [whyBg, if_pos q] at h; exact absurd h (by decide)
theorem gN_lt {σ : HS} (hG : hsG σ) {K : Nat} (h1 : 1 ≤ K) (h7 : K ≤ 7) (hf : ¬ limV K ≤ σ.G K) : σ.G K = nI (gN σ K) ∧ gN σ K < liN K := by
  obtain ⟨e, hle⟩ := gN_of hG h1 h7
  have := liN_le (K := K)
  rw [e, limV_n h1 h7] at hf
  exact ⟨e, Nat.not_le.mp (fun q => hf (nI_le q (by omega)))⟩
theorem act_free {k : Nat → Nat} {V : HV} {b : HA} {σ : HS} (h : hsW k V b σ) (hf : ¬ limV 6 ≤ σ.G 6) : σ.G 6 = nI (gN σ 6) ∧ gN σ 6 < 10 ∧ b.fa (gN σ 6) = none := by
  obtain ⟨e, hlt⟩ := gN_lt h.2.2.1 (K := 6) (by omega) (by omega) hf
  have h10 : gN σ 6 < 10 := hlt
  have := h.2.1.2.1 _ h10
  rw [decide_eq_false (Nat.lt_irrefl _)] at this
  exact ⟨e, h10, Option.not_isSome_iff_eq_none.mp (by rw [this]; exact Bool.false_ne_true)⟩
theorem ver_free {k : Nat → Nat} {V : HV} {b : HA} {σ : HS} (h : hsW k V b σ) (hf : ¬ limV 7 ≤ σ.G 7) : σ.G 7 = nI (gN σ 7) ∧ gN σ 7 < 8 := by
  obtain ⟨e, hlt⟩ := gN_lt h.2.2.1 (K := 7) (by omega) (by omega) hf
  exact ⟨e, hlt⟩
theorem W_addA {k : Nat → Nat} {V V' : HV} {b bm : HA} {σ σ' : HS} (hW : hsW k V b σ) {t r n z : Nat} (hf : ¬ limV 6 ≤ σ.G 6) (e1 : bm.f = b.f) (e2 : bm.fa = b.fa) (e3 : bm.fv = b.fv) (eG : σ'.G = upd σ.G 6 (σ.G 6 + 1)) (eT : σ'.T = σ.T) (h : hsOk k V' (bm.addA (gN σ 6) t r n z) σ') : hsW k V' (bm.addA (gN σ 6) t r n z) σ' := by
  obtain ⟨-, ⟨m1, m2, m3⟩, hG, hKK⟩ := hW
  obtain ⟨g1, g2, g3, g4⟩ := gN_up hG (by omega) (by omega) hf eG
  have es : ∀ i, slM σ' i = slM σ i := fun i => by have := slK_in (i := i); rw [slM, slM, g2 _ (by omega)]
  refine ⟨h, ⟨fun i hi => by rw [es]; show (bm.f i).isSome = _; rw [e1]; exact m1 i hi, fun j hj => ?_, fun j hj => by rw [g2 7 (by omega)]; show (bm.fv j).isSome = _; rw [e3]; exact m3 j hj⟩, g4, fun i hi hm => by rw [eT]; rw [es] at hm; exact hKK i hi hm⟩
  rw [g1]
  show (va_up bm.fa (gN σ 6) (some t) j).isSome = _
  by_cases hji : j = gN σ 6
  · rw [hji, va_up_s, decide_eq_true (by omega)]; rfl
  · rw [va_up_n hji, e2, m2 j hj]
    by_cases hlt : j < gN σ 6
    · rw [decide_eq_true hlt, decide_eq_true (by omega)]
    · rw [decide_eq_false hlt, decide_eq_false (by omega)]
theorem W_addV {k : Nat → Nat} {V V' : HV} {b bm : HA} {σ σ' : HS} (hW : hsW k V b σ) {n z : Nat} (hf : ¬ limV 7 ≤ σ.G 7) (e1 : bm.f = b.f) (e2 : bm.fa = b.fa) (e3 : bm.fv = b.fv) (eG : σ'.G = upd σ.G 7 (σ.G 7 + 1)) (eT : σ'.T = σ.T) (h : hsOk k V' (bm.addV (gN σ 7) n z) σ') : hsW k V' (bm.addV (gN σ 7) n z) σ' := by
  obtain ⟨-, ⟨m1, m2, m3⟩, hG, hKK⟩ := hW
  obtain ⟨g1, g2, g3, g4⟩ := gN_up hG (by omega) (by omega) hf eG
  have es : ∀ i, slM σ' i = slM σ i := fun i => by have := slK_in (i := i); rw [slM, slM, g2 _ (by omega)]
  refine ⟨h, ⟨fun i hi => by rw [es]; show (bm.f i).isSome = _; rw [e1]; exact m1 i hi, fun j hj => by rw [g2 6 (by omega)]; show (bm.fa j).isSome = _; rw [e2]; exact m2 j hj, fun j hj => ?_⟩, g4, fun i hi hm => by rw [eT]; rw [es] at hm; exact hKK i hi hm⟩
  rw [g1]
  show (va_up bm.fv (gN σ 7) (some n) j).isSome = _
  by_cases hji : j = gN σ 7
  · rw [hji, va_up_s, decide_eq_true (by omega)]; rfl
  · rw [va_up_n hji, e3, m3 j hj]
    by_cases hlt : j < gN σ 7
    · rw [decide_eq_true hlt, decide_eq_true (by omega)]
    · rw [decide_eq_false hlt, decide_eq_false (by omega)]
theorem act_of {k : Nat → Nat} {V : HV} {b : HA} {σ : HS} (hW : hsW k V b σ) {h : Int32} (hg : gvOk σ.G h = true) (hk6 : h / 1000 = 6) : h - h / 1000 * 1000 = nI (hdN h) ∧ hdN h < 10 ∧ ∃ t, b.fa (hdN h) = some t := by
  obtain ⟨-, eN, -, -, hlt⟩ := gv_of hW.2.2.1 hg
  have hK : hdK h = 6 := hdK_of (by decide) hk6
  obtain ⟨-, hle⟩ := gN_of hW.2.2.1 (K := 6) (by omega) (by omega)
  rw [hK] at hlt
  have h10 : hdN h < 10 := Nat.lt_of_lt_of_le hlt hle
  have := hW.2.1.2.1 _ h10
  rw [decide_eq_true hlt] at this
  exact ⟨eN, h10, Option.isSome_iff_exists.mp this⟩
theorem ver_of {k : Nat → Nat} {V : HV} {b : HA} {σ : HS} (hW : hsW k V b σ) {h : Int32} (hg : gvOk σ.G h = true) (hk7 : h / 1000 = 7) : h - h / 1000 * 1000 = nI (hdN h) ∧ hdN h < 8 ∧ ∃ t, b.fv (hdN h) = some t := by
  obtain ⟨-, eN, -, -, hlt⟩ := gv_of hW.2.2.1 hg
  have hK : hdK h = 7 := hdK_of (by decide) hk7
  obtain ⟨-, hle⟩ := gN_of hW.2.2.1 (K := 7) (by omega) (by omega)
  rw [hK] at hlt
  have h8 : hdN h < 8 := Nat.lt_of_lt_of_le hlt hle
  have := hW.2.1.2.2 _ h8
  rw [decide_eq_true hlt] at this
  exact ⟨eN, h8, Option.isSome_iff_exists.mp this⟩
theorem wo_is {k : Nat → Nat} {V : HV} {b : HA} {σ : HS} (h : hsOk k V b σ) {N t : Nat} (hN : N < 10) (hf : b.fa N = some t) : woA b σ.wo = some t ↔ σ.wo = some N := by
  constructor
  · intro q
    cases hw : σ.wo with
    | none => rw [hw] at q; cases q
    | some j =>
      obtain ⟨hj, t', ht'⟩ := h.wo j hw
      rw [hw] at q
      have q2 : b.fa j = some t := q
      have l1 := (h.lab.la j t hj q2).1
      have l2 := (h.lab.la N t hN hf).1
      have : j = N := by omega
      rw [this]
  · intro q; rw [q]; exact hf
theorem wo_no {k : Nat → Nat} {V : HV} {b : HA} {σ : HS} (h : hsOk k V b σ) : woA b σ.wo = none ↔ σ.wo = none := by
  constructor
  · intro q
    cases hw : σ.wo with
    | none => rfl
    | some j =>
      obtain ⟨hj, t', ht'⟩ := h.wo j hw
      rw [hw] at q
      have q2 : b.fa j = none := q
      rw [q2] at ht'; cases ht'
  · intro q; rw [q]; rfl
def edT (σ : HS) (N : Nat) : Nat → Nat → Int32 := fun i => if slM σ i then rkT σ.T (σ.Z N) i else σ.T i
def edS (σ : HS) (N : Nat) (kp : Int32) : HS := ((if kp = 0 then σ.wT (edT σ N) else σ).wA (updT σ.A N (upd (σ.A N) 0 0))).wwo (if σ.wo = some N then none else σ.wo)
theorem edT_eq {b : HA} {σ : HS} {N : Nat} {T1 : Nat → Nat → Int32} (hM : hsMd b σ) (h : ∀ j, j < 150 → T1 j = if b.f j ≠ none then (rkT σ.T (σ.Z N)) j else σ.T j) : ∀ j, j < 150 → T1 j = edT σ N j := fun j hj => by
  rw [h j hj, edT, ← hM.1 j hj]
  cases b.f j <;> simp
theorem rsT_lo (R : Nat → Int32) (z : Int32) {q : Nat} (h : q < 5) : rsT R z q = R q := by
  rcases (show q = 0 ∨ q = 1 ∨ q = 2 ∨ q = 3 ∨ q = 4 by omega) with rfl | rfl | rfl | rfl | rfl <;> rfl
theorem edT_lo {σ : HS} {N i q : Nat} (h : q < 5) : edT σ N i q = σ.T i q := by
  rw [edT]; split
  · rw [rkT]; split
    · rfl
    · exact rsT_lo _ _ h
  · rfl
def bkT (σ : HS) (N : Nat) : Nat → Nat → Int32 := fun i => if slM σ i then roT (σ.T i) (σ.W N i) else σ.T i
theorem bkT_eq {b : HA} {σ : HS} {N : Nat} {T1 : Nat → Nat → Int32} (hM : hsMd b σ) (h : ∀ j, j < 150 → T1 j = if b.f j ≠ none then (raT σ.T (σ.W N)) j else σ.T j) : ∀ j, j < 150 → T1 j = bkT σ N j := fun j hj => by
  rw [h j hj, bkT, ← hM.1 j hj]
  cases b.f j <;> simp [raT]
theorem bkT_lo {σ : HS} {N i q : Nat} (h : q < 5) : bkT σ N i q = σ.T i q := by
  rw [bkT]; split
  · rw [roT]; split
    · exact if_neg (by omega)
    · exact rsT_lo _ _ h
  · rfl
def bkC (σ : HS) (N : Nat) : Int32 := nI (cntF (fun j => slM σ j && !decide (stT (roT (σ.T j) (σ.W N j)) = stT (σ.T j))) 0 150)
def vsP (σ : HS) (W' : Nat → Int32) : Int32 × HS := if limV 7 ≤ σ.G 7 then (-1, σ.wrs 1) else (1000 * nI 7 + σ.G 7, ((σ.wrs 0).wW (updT σ.W (gN σ 7) W')).wG (upd σ.G 7 (σ.G 7 + 1)))
/-- what a version knows of slot i -/
def vsW (σ : HS) (i : Nat) : Int32 := if slM σ i then stT (σ.T i) else -1
theorem vsW_eq {b : HA} {σ : HS} {g h0 : Nat → Int32} (hM : hsMd b σ) (h1 : ∀ j, j < 150 → h0 j = -1) (h : ∀ j, j < 150 → g j = naG b.f σ.T h0 150 j) : ∀ j, j < 150 → g j = vsW σ j := fun j hj => by
  rw [h j hj, naG, h1 j hj, vsW, ← hM.1 j hj]
  cases b.f j <;> simp [hj]
def cpF (T : Nat → Nat → Int32) (g : Int32) (w0 : Nat) : Int32 := if T w0 5 = 0 then 0 else nI (cntF (co_C T (T w0 0) (T w0 2) (T w0 3) (T w0 6) (T w0 7) (T w0 8) (T w0 9) g) (w0 + 1) (140 - (w0 + 1)))
def paF (T : Nat → Nat → Int32) (g : Int32) (w0 q0 : Nat) : Int32 := if T w0 5 = 0 then -1 else (match nthF (co_C T (T w0 0) (T w0 2) (T w0 3) (T w0 6) (T w0 7) (T w0 8) (T w0 9) g) (w0 + 1) (140 - (w0 + 1)) q0 with | none => -1 | some j => 1000 * T j 0 + T j 1)
def haF (T : Nat → Nat → Int32) (i : Nat) : Int32 := if T i 5 = 0 then -1 else 1000 * T i 0 + T i 1
def nrF (T : Nat → Nat → Int32) (g wh : Int32) : Nat → Nat → Int32 → Int32
  | _, 0, _ => -1
  | i, n + 1, q => if 0 ≤ q then (if cpF T g i ≤ q then nrF T g wh (i + 1) n (q - cpF T g i) else if wh = 0 then haF T i else paF T g i q.toNatClampNeg) else -1
theorem nrF_step {T : Nat → Nat → Int32} {g wh q : Int32} {i N : Nat} (h : i < N) : nrF T g wh i (N - i) q = if 0 ≤ q then (if cpF T g i ≤ q then nrF T g wh (i + 1) (N - (i + 1)) (q - cpF T g i) else if wh = 0 then haF T i else paF T g i q.toNatClampNeg) else -1 := by
  rw [show N - i = (N - (i + 1)) + 1 by omega]; rfl
theorem nrF_end {T : Nat → Nat → Int32} {g wh q : Int32} {i N : Nat} (h : N ≤ i) : nrF T g wh i (N - i) q = -1 := by
  rw [show N - i = 0 by omega]; rfl
theorem nI_back {q : Int32} (h : 0 ≤ q) : nI q.toNatClampNeg = q ∧ q.toNatClampNeg < 2 ^ 31 := by
  have h0 : 0 ≤ q.toInt := by have := Int32.le_iff_toInt_le.mp h; simpa using this
  have h1 : q.toInt < 2 ^ 31 := q.toInt_lt
  have e : q.toNatClampNeg = q.toInt.toNat := rfl
  refine ⟨?_, by rw [e]; omega⟩
  apply Int32.toInt_inj.mp
  rw [e, nI, Int32.toInt_ofNat_of_lt (by omega)]
  omega
def atV (T : Nat → Nat → Int32) (i : Nat) (wh : Int32) : Int32 := if wh = 0 then (if T i 5 = 0 then 0 else 1) else if wh = 1 then T i 6 else if wh = 2 then T i 7 else if wh = 3 then T i 2 else if wh = 4 then T i 3 else T i 4
def kdC (T : Nat → Nat → Int32) (kd : Int32) : Nat → Bool := fun j => !decide (T j 5 = 0) && decide (T j 0 = kd)
theorem hs_same_wo {k : Nat → Nat} {V : HV} {b : HA} {σ : HS} (h : hsOk k V b σ) : hsOk k V b (σ.wwo σ.wo) := h
set_option maxHeartbeats 4000000 in
set_option maxRecDepth 100000 in
/-- Act(region) -/
theorem c_Ac_init (l : Launch) (D : va_G) (N0 : Nat) (k : Nat → Nat) (V : HV) (t r : Nat) (h_t : V t = some (.inr (0, [.null, .null, .int 0, .int 0]))) : Met l y_Ac_init (.code y_Ac_init b_Ac_init 2 none :: WS) ({ frames := 2, cells := 2, slots := 151, locals := 43 }) (mP D N0 k [.ref t, .ref r] V) (va_Qv (fun V' => ∃ n z g, V n = none ∧ hu V n (.inr (4, [.null])) z = none ∧ V' = hu (hu (hu (hu V n (.inr (4, [.null]))) z (eI k 150 g)) n (eSn z)) t (eAc r n 1 0) ∧ ∀ j, j < 150 → g j = -1) (mB D N0) (hA N0)) 2 151 (hA N0) := by
  refine Met.ofW (cc := b_Ac_init) (maxL := 2) (ret := none) (by decide) rfl ?_
  intro p e s m args below meth c s₁ B hml hv0
  obtain ⟨rfl, hG, hV⟩ := hv0
  have hx := B.exec
  have hb := B.bytes
  have hr := B.returns
  have hts := atoms_spec (ws := .code y_Ac_init b_Ac_init 2 none :: WS) B.pre
  have hW : ∀ w ∈ WS, w.before _ s = true := fun w h => hts w (List.mem_cons_of_mem _ h)
  have hown : s.vm.findClass "BoardHouse$Act" = some m.cls := findClass_of_methodNamed B.named
  have hlocks := B.notSynchronized
  have hin : meth.name = "<init>" := (name_of_methodNamed B.named B.method).1
  have hS : va_S (hA N0) s.heap s.heap [] := va_S.rf
  have hl := lv_entry ([.ref t, .ref r]) (n := 2) (Nat.le_of_ble_eq_true rfl)
  rw [lg_entry_eq]
  generalize (lg_sl ([.ref t, .ref r]) ++ List.replicate (2 - (lg_sl ([.ref t, .ref r])).length) Slot.unset).toArray = ls at hl ⊢
  have hl : lv_has ls 2 [(0, .ref t), (1, .ref r)] := hl
  refine lv_aload_n hx hb d_Ac_init_0 rfl (lv_at hl 0 rfl) ?_
  refine W.objInit hx hb hown (hW _ wm_Ac_1) (hW _ wv_JO_init) (hW _ wc_JO_init) rfl (by rw [hml]; exact hl.1) rfl d_Ac_init_1 (Nat.le_of_ble_eq_true rfl) (Nat.le_of_ble_eq_true rfl) ?_
  refine W.eq (g2 := F0 m 4 ls []) rfl ?_
  refine lv_aload_n hx hb d_Ac_init_4 rfl (lv_at hl 0 rfl) ?_
  refine hv_new (ci := 4) (fs := [.null]) (C := R_Sn) (T := T_Sn) (N := 1) hx hb hW in_Sn t_Sn ty_Sn hown (hW _ wk_Ac_7) (hW _ wo_Sn) (hW _ wi_Sn) hG.K hV hS rfl (fun j hj => by rcases (show j = 0 by omega) with rfl <;> rfl) (Nat.le_of_ble_eq_true rfl) (Nat.le_of_ble_eq_true rfl) hG.N d_Ac_init_5 (fun q_1 H hn_q_1 hN_q_1 hV hS => ?_)
  have ne_t_q_1 : t ≠ q_1 := fun z => by rw [← z, h_t] at hn_q_1; cases hn_q_1
  replace hV : hv D vwCl N0 (hu V q_1 (.inr (4, [.null]))) H := hV
  generalize hV_V_2 : hu V q_1 (.inr (4, [.null])) = V_2 at hV
  have h_t'V_2 : V_2 t = some (.inr (0, [.null, .null, .int 0, .int 0])) := by rw [← hV_V_2, hu_n ne_t_q_1]; exact h_t
  have hq_1'V_2 : V_2 q_1 = some (.inr (4, [.null])) := by rw [← hV_V_2]; exact hu_s
  refine lv_dup hx hb d_Ac_init_8 rfl ?_
  refine rc_V (va_runI (As := []) (rest := [.ref q_1, .ref t]) ⟨hx, hb, hml, hown, hts⟩ (c_Sn_init l D N0 k V_2 q_1 hq_1'V_2) (cwI 0 hts (gi_c wc_Sn_init) rfl rfl rfl (hW _ wi_Sn) (hW _ wm_Ac_9) (hW _ wv_Sn_init) rfl (by decide +kernel) ⟨Nat.le_of_ble_eq_true rfl, Nat.le_of_ble_eq_true rfl⟩) (mP.preS hG hS hV) rfl rfl hl.1 rfl (lv_room (Nat.le_of_ble_eq_true rfl)) d_Ac_init_9 ⟨Nat.le_of_ble_eq_true rfl, Nat.le_of_ble_eq_true rfl⟩) hS (fun V_3 H locs hp_4 hV hS => ?_)
  obtain ⟨q_5, g_6, hn_q_5, ev_q_5, hg_g_6⟩ := hp_4
  obtain ⟨V_7, eV_V_7⟩ : ∃ z, z = hu V_2 q_5 (eI k 150 g_6) := ⟨_, rfl⟩
  rw [← eV_V_7] at ev_q_5
  have ne_t_q_5 : t ≠ q_5 := fun z => by rw [← z, h_t'V_2] at hn_q_5; cases hn_q_5
  have ne_q_1_q_5 : q_1 ≠ q_5 := fun z => by rw [← z, hq_1'V_2] at hn_q_5; cases hn_q_5
  have hV_V_7 := eV_V_7.symm
  have h_t'V_7 : V_7 t = some (.inr (0, [.null, .null, .int 0, .int 0])) := by rw [← hV_V_7, hu_n ne_t_q_5]; exact h_t'V_2
  have hq_1'V_7 : V_7 q_1 = some (.inr (4, [.null])) := by rw [← hV_V_7, hu_n ne_q_1_q_5]; exact hq_1'V_2
  have hq_5'V_7 : V_7 q_5 = some (eI k 150 g_6) := by rw [← hV_V_7]; exact hu_s
  have hV_V_3 := ev_q_5.symm
  have h_t'V_3 : V_3 t = some (.inr (0, [.null, .null, .int 0, .int 0])) := by rw [← hV_V_3, hu_n ne_t_q_1]; exact h_t'V_7
  have hq_5'V_3 : V_3 q_5 = some (eI k 150 g_6) := by rw [← hV_V_3, hu_n (Ne.symm ne_q_1_q_5)]; exact hq_5'V_7
  have hq_1'V_3 : V_3 q_1 = some (eSn q_5) := by rw [← hV_V_3]; exact hu_s
  have hn2 : hu V q_1 (.inr (4, [.null])) q_5 = none := by rw [hV_V_2]; exact hn_q_5
  refine pf_Ac_10 (x := some q_1) hx hb hW hown hG hV hS hin h_t'V_3 d_Ac_init_12 (fun H locs hV hS => ?_)
  replace hV : hv D vwCl N0 (hu V_3 t (.inr (0, [.null, .ref q_1, .int 0, .int 0]))) H := hV
  generalize hV_V_8 : hu V_3 t (.inr (0, [.null, .ref q_1, .int 0, .int 0])) = V_8 at hV
  have hq_5'V_8 : V_8 q_5 = some (eI k 150 g_6) := by rw [← hV_V_8, hu_n (Ne.symm ne_t_q_5)]; exact hq_5'V_3
  have hq_1'V_8 : V_8 q_1 = some (.inr (4, [.ref q_5])) := by rw [← hV_V_8, hu_n (Ne.symm ne_t_q_1)]; exact hq_1'V_3
  have ht'V_8 : V_8 t = some (.inr (0, [.null, .ref q_1, .int 0, .int 0])) := by rw [← hV_V_8]; exact hu_s
  refine lv_aload_n hx hb d_Ac_init_15 rfl (lv_at hl 0 rfl) ?_
  refine lv_iconst (v := 1) hx hb d_Ac_init_16 (by decide) ?_
  refine pf_Ac_16 hx hb hW hown hG hV hS ht'V_8 (by decide) d_Ac_init_17 (fun H locs hV hS => ?_)
  replace hV : hv D vwCl N0 (hu V_8 t (.inr (0, [.null, .ref q_1, .int 1, .int 0]))) H := hV
  generalize hV_V_9 : hu V_8 t (.inr (0, [.null, .ref q_1, .int 1, .int 0])) = V_9 at hV
  have hq_5'V_9 : V_9 q_5 = some (eI k 150 g_6) := by rw [← hV_V_9, hu_n (Ne.symm ne_t_q_5)]; exact hq_5'V_8
  have hq_1'V_9 : V_9 q_1 = some (.inr (4, [.ref q_5])) := by rw [← hV_V_9, hu_n (Ne.symm ne_t_q_1)]; exact hq_1'V_8
  have ht'V_9 : V_9 t = some (.inr (0, [.null, .ref q_1, .int 1, .int 0])) := by rw [← hV_V_9]; exact hu_s
  refine lv_aload_n hx hb d_Ac_init_20 rfl (lv_at hl 0 rfl) ?_
  refine lv_iconst (v := 0) hx hb d_Ac_init_21 (by decide) ?_
  refine pf_Ac_20 hx hb hW hown hG hV hS ht'V_9 d_Ac_init_22 (fun H locs hV hS => ?_)
  replace hV : hv D vwCl N0 (hu V_9 t (.inr (0, [.null, .ref q_1, .int 1, .int 0]))) H := hV
  generalize hV_V_10 : hu V_9 t (.inr (0, [.null, .ref q_1, .int 1, .int 0])) = V_10 at hV
  have hq_5'V_10 : V_10 q_5 = some (eI k 150 g_6) := by rw [← hV_V_10, hu_n (Ne.symm ne_t_q_5)]; exact hq_5'V_9
  have hq_1'V_10 : V_10 q_1 = some (.inr (4, [.ref q_5])) := by rw [← hV_V_10, hu_n (Ne.symm ne_t_q_1)]; exact hq_1'V_9
  have ht'V_10 : V_10 t = some (.inr (0, [.null, .ref q_1, .int 1, .int 0])) := by rw [← hV_V_10]; exact hu_s
  refine lv_aload_n hx hb d_Ac_init_25 rfl (lv_at hl 0 rfl) ?_
  refine lv_aload_n hx hb d_Ac_init_26 rfl (lv_at hl 1 rfl) ?_
  refine pf_Ac_24 (x := some r) hx hb hW hown hG hV hS hin ht'V_10 d_Ac_init_27 (fun H locs hV hS => ?_)
  replace hV : hv D vwCl N0 (hu V_10 t (.inr (0, [.ref r, .ref q_1, .int 1, .int 0]))) H := hV
  generalize hV_V_11 : hu V_10 t (.inr (0, [.ref r, .ref q_1, .int 1, .int 0])) = V_11 at hV
  have hq_5'V_11 : V_11 q_5 = some (eI k 150 g_6) := by rw [← hV_V_11, hu_n (Ne.symm ne_t_q_5)]; exact hq_5'V_10
  have hq_1'V_11 : V_11 q_1 = some (.inr (4, [.ref q_5])) := by rw [← hV_V_11, hu_n (Ne.symm ne_t_q_1)]; exact hq_1'V_10
  have ht'V_11 : V_11 t = some (.inr (0, [.ref r, .ref q_1, .int 1, .int 0])) := by rw [← hV_V_11]; exact hu_s
  exact W.vret hx hb hr (fun t9 ht hW => ⟨⟨V_11, rfl, ⟨q_1, q_5, g_6, hn_q_1, hn2, by rw [← hV_V_11, ← hV_V_10, ← hV_V_9, ← hV_V_8, ← hV_V_3, ← hV_V_7, ← hV_V_2, hu_u, hu_u, hu_u], hg_g_6⟩, mB_of ht hV⟩, hS.F ht⟩) hS.2.2 d_Ac_init_30
set_option maxHeartbeats 4000000 in
set_option maxRecDepth 100000 in
/-- begin -/
theorem c_Ho_begin (l : Launch) (D : va_G) (N0 : Nat) (k : Nat → Nat) (V : HV) (b : HA) (σ : HS) (hW0 : hsW k V b σ) (x y u v : Int32) : Met l y_Ho_begin (.code y_Ho_begin b_Ho_begin 6 (some .int) :: WS) ({ frames := 3, cells := 4, slots := 159, locals := 68 }) (mP D N0 k [.ref b.ho, .int x, .int y, .int u, .int v] V) (va_Qi (fun r V' => ∃ b' Z', (∀ i, i < 150 → Z' i = -1) ∧ hsW k V' b' (bgP σ Z' x y u v).2 ∧ hsFr b b' V V' ∧ r = (bgP σ Z' x y u v).1) (mB D N0) (hA N0)) 4 159 (hA N0) := by
  refine Met.ofW (cc := b_Ho_begin) (maxL := 6) (ret := (some .int)) (by decide) rfl ?_
  intro p e s m args below meth c s₁ B hml hv0
  obtain ⟨rfl, hG, hV⟩ := hv0
  have hx := B.exec
  have hb := B.bytes
  have hr := B.returns
  have hts := atoms_spec (ws := .code y_Ho_begin b_Ho_begin 6 (some .int) :: WS) B.pre
  have hW : ∀ w ∈ WS, w.before _ s = true := fun w h => hts w (List.mem_cons_of_mem _ h)
  have hown : s.vm.findClass "BoardHouse" = some m.cls := findClass_of_methodNamed B.named
  have hlocks := B.notSynchronized
  have hS : va_S (hA N0) s.heap s.heap [] := va_S.rf
  have hl := lv_entry ([.ref b.ho, .int x, .int y, .int u, .int v]) (n := 6) (Nat.le_of_ble_eq_true rfl)
  rw [lg_entry_eq]
  generalize (lg_sl ([.ref b.ho, .int x, .int y, .int u, .int v]) ++ List.replicate (6 - (lg_sl ([.ref b.ho, .int x, .int y, .int u, .int v])).length) Slot.unset).toArray = ls at hl ⊢
  have hl : lv_has ls 6 [(0, .ref b.ho), (1, .int x), (2, .int y), (3, .int u), (4, .int v)] := hl
  have hH := hW0.1
  refine hv_new (ci := 1) (fs := [.int 0, .int 0, .int 0, .int 0]) (C := R_Ar) (T := T_Ar) (N := 4) hx hb hW in_Ar t_Ar ty_Ar hown (hW _ wk_Ho_9) (hW _ wo_Ar) (hW _ wi_Ar) hG.K hV hS rfl (fun j hj => by rcases (show j = 0 ∨ j = 1 ∨ j = 2 ∨ j = 3 by omega) with rfl | rfl | rfl | rfl <;> rfl) (Nat.le_of_ble_eq_true rfl) (Nat.le_of_ble_eq_true rfl) hG.N d_Ho_begin_0 (fun q_1 H hn_q_1 hN_q_1 hV hS => ?_)
  have ne_bho_q_1 : b.ho ≠ q_1 := fun z => by rw [← z, hH.ho] at hn_q_1; cases hn_q_1
  have ne_bbo_q_1 : b.bo ≠ q_1 := fun z => by rw [← z, hH.bo] at hn_q_1; cases hn_q_1
  have ne_bgi_q_1 : b.gi ≠ q_1 := fun z => by rw [← z, hH.gi] at hn_q_1; cases hn_q_1
  have ne_bco_q_1 : b.co ≠ q_1 := fun z => by rw [← z, hH.co] at hn_q_1; cases hn_q_1
  have ne_bta_q_1 : b.ta ≠ q_1 := fun z => by rw [← z, hH.ts.1] at hn_q_1; cases hn_q_1
  have ne_bac_q_1 : b.ac ≠ q_1 := fun z => by rw [← z, hH.ac.1] at hn_q_1; cases hn_q_1
  have ne_bve_q_1 : b.ve ≠ q_1 := fun z => by rw [← z, hH.ve] at hn_q_1; cases hn_q_1
  replace hV : hv D vwCl N0 (hu V q_1 (.inr (1, [.int 0, .int 0, .int 0, .int 0]))) H := hV
  generalize hV_V_2 : hu V q_1 (.inr (1, [.int 0, .int 0, .int 0, .int 0])) = V_2 at hV
  have hH_ho'V_2 : V_2 b.ho = some (.inr (6, [.int (nI σ.nl), .ref b.bo, .ref b.gi, .ref b.co, .ref b.ta, .ref b.ac, .ref b.ve, va_rf (woA b σ.wo), .int σ.rs])) := by rw [← hV_V_2, hu_n ne_bho_q_1]; exact hH.ho
  have hH_bo'V_2 : V_2 b.bo = some (.inr (1, [.int 0, .int 0, .int 31, .int 23])) := by rw [← hV_V_2, hu_n ne_bbo_q_1]; exact hH.bo
  have hH_gi'V_2 : V_2 b.gi = some (eI k 8 σ.G) := by rw [← hV_V_2, hu_n ne_bgi_q_1]; exact hH.gi
  have hH_co'V_2 : V_2 b.co = some (.inr (2, [.ref b.ta, .int (nI σ.nl), .ref b.ro, .ref b.on, .ref b.re, .int σ.g])) := by rw [← hV_V_2, hu_n ne_bco_q_1]; exact hH.co
  have hH_ts_1'V_2 : V_2 b.ta = some (eTs k b.f) := by rw [← hV_V_2, hu_n ne_bta_q_1]; exact hH.ts.1
  have hH_ac_1'V_2 : V_2 b.ac = some (eAs k b.fa) := by rw [← hV_V_2, hu_n ne_bac_q_1]; exact hH.ac.1
  have hH_ve'V_2 : V_2 b.ve = some (eVs k b.fv) := by rw [← hV_V_2, hu_n ne_bve_q_1]; exact hH.ve
  have hq_1'V_2 : V_2 q_1 = some (.inr (1, [.int 0, .int 0, .int 0, .int 0])) := by rw [← hV_V_2]; exact hu_s
  refine lv_dup hx hb d_Ho_begin_3 rfl ?_
  refine lv_iload_n hx hb d_Ho_begin_4 rfl (lv_at hl 1 rfl) ?_
  refine lv_iload_n hx hb d_Ho_begin_5 rfl (lv_at hl 2 rfl) ?_
  refine lv_iload_n hx hb d_Ho_begin_6 rfl (lv_at hl 3 rfl) ?_
  refine lv_iload hx hb d_Ho_begin_7 (lv_at hl 4 rfl) ?_
  refine rc_V (va_runI (As := [.int x, .int y, .int u, .int v]) (rest := [.ref q_1]) ⟨hx, hb, hml, hown, hts⟩ (c_Ar_init l D N0 k V_2 q_1 x y u v 0 0 0 0 hq_1'V_2) (cwI 4 hts (gi_c wc_Ar_init) rfl rfl rfl (hW _ wi_Ar) (hW _ wm_Ho_11) (hW _ wv_Ar_init) rfl (by decide +kernel) ⟨Nat.le_of_ble_eq_true rfl, Nat.le_of_ble_eq_true rfl⟩) (mP.preS hG hS hV) rfl rfl hl.1 rfl (lv_room (Nat.le_of_ble_eq_true rfl)) d_Ho_begin_9 ⟨Nat.le_of_ble_eq_true rfl, Nat.le_of_ble_eq_true rfl⟩) hS (fun V_3 H locs hp_4 hV hS => ?_)
  have hV_V_3 := hp_4.symm
  have hH_ho'V_3 : V_3 b.ho = some (.inr (6, [.int (nI σ.nl), .ref b.bo, .ref b.gi, .ref b.co, .ref b.ta, .ref b.ac, .ref b.ve, va_rf (woA b σ.wo), .int σ.rs])) := by rw [← hV_V_3, hu_n ne_bho_q_1]; exact hH_ho'V_2
  have hH_bo'V_3 : V_3 b.bo = some (.inr (1, [.int 0, .int 0, .int 31, .int 23])) := by rw [← hV_V_3, hu_n ne_bbo_q_1]; exact hH_bo'V_2
  have hH_gi'V_3 : V_3 b.gi = some (eI k 8 σ.G) := by rw [← hV_V_3, hu_n ne_bgi_q_1]; exact hH_gi'V_2
  have hH_co'V_3 : V_3 b.co = some (.inr (2, [.ref b.ta, .int (nI σ.nl), .ref b.ro, .ref b.on, .ref b.re, .int σ.g])) := by rw [← hV_V_3, hu_n ne_bco_q_1]; exact hH_co'V_2
  have hH_ts_1'V_3 : V_3 b.ta = some (eTs k b.f) := by rw [← hV_V_3, hu_n ne_bta_q_1]; exact hH_ts_1'V_2
  have hH_ac_1'V_3 : V_3 b.ac = some (eAs k b.fa) := by rw [← hV_V_3, hu_n ne_bac_q_1]; exact hH_ac_1'V_2
  have hH_ve'V_3 : V_3 b.ve = some (eVs k b.fv) := by rw [← hV_V_3, hu_n ne_bve_q_1]; exact hH_ve'V_2
  have hq_1'V_3 : V_3 q_1 = some (eAr x y u v) := by rw [← hV_V_3]; exact hu_s
  refine lv_astore (lv' := [(5, .ref q_1), (0, .ref b.ho), (1, .int x), (2, .int y), (3, .int u), (4, .int v)]) hx hb d_Ho_begin_12 hl (by decide) rfl (fun ls hl => ?_)
  refine lv_aload_n hx hb d_Ho_begin_14 rfl (lv_at hl 1 rfl) ?_
  refine lv_aload_n hx hb d_Ho_begin_15 rfl (lv_at hl 1 rfl) ?_
  refine lv_aload hx hb d_Ho_begin_16 (lv_at hl 0 rfl) ?_
  have hH_V_2 : hsOk k V_2 (b.lab q_1 5001) σ := by rw [← hV_V_2]; exact hs_new hH hn_q_1
  have hF_V_2 : hsFr b (b.lab q_1 5001) V V_2 := by rw [← hV_V_2]; exact hsFr.tr (hsFr.rf (a := b) (V := V)) (hsFr_new hn_q_1)
  have lbV_2_q_1 : (b.lab q_1 5001).lb q_1 = 5001 := HA.lab_s
  have hH_V_3 : hsOk k V_3 (b.lab q_1 5001) σ := by rw [← hV_V_3]; exact hs_tmp hH_V_2 (by rw [lbV_2_q_1]; omega)
  have hF_V_3 : hsFr b (b.lab q_1 5001) V V_3 := by rw [← hV_V_3]; exact hsFr.tr hF_V_2 (hsFr_hu (by rw [lbV_2_q_1]; omega))
  refine rc_i (va_runV (As := [.ref q_1]) (rest := [.ref b.ho]) ⟨hx, hb, hml, hown, hts⟩ (c_Ho_whyNotBegun l D N0 k V_3 (b.lab q_1 5001) σ hH_V_3 q_1 x y u v hq_1'V_3) (cwV 1 hts (gi_V wm_Ho_190 wv_Ho_whyNotBegun ws_Ho_whyNotBegun wi_Ho wc_Ho_whyNotBegun) rfl rfl rfl (by decide +kernel) ⟨Nat.le_of_ble_eq_true rfl, Nat.le_of_ble_eq_true rfl⟩) (mP.preV hG hS hV hH_ho'V_3 rfl) rfl rfl hl.1 rfl (lv_room (Nat.le_of_ble_eq_true rfl)) d_Ho_begin_18 ⟨Nat.le_of_ble_eq_true rfl, Nat.le_of_ble_eq_true rfl⟩) hS (fun H locs hV hS => ?_)
  refine lv_topi (fun w_5 ew_5 => ?_)
  refine pf_Ho_41 hx hb hW hown hG hV hS hH_ho'V_3 d_Ho_begin_21 (fun H locs hV hS => ?_)
  replace hV : hv D vwCl N0 (hu V_3 b.ho (.inr (6, [.int (nI σ.nl), .ref b.bo, .ref b.gi, .ref b.co, .ref b.ta, .ref b.ac, .ref b.ve, va_rf (woA b σ.wo), .int w_5]))) H := hV
  generalize hV_V_6 : hu V_3 b.ho (.inr (6, [.int (nI σ.nl), .ref b.bo, .ref b.gi, .ref b.co, .ref b.ta, .ref b.ac, .ref b.ve, va_rf (woA b σ.wo), .int w_5])) = V_6 at hV
  have hH_bo'V_6 : V_6 b.bo = some (.inr (1, [.int 0, .int 0, .int 31, .int 23])) := by rw [← hV_V_6]; exact hu_o hH_ho'V_3 hH_bo'V_3 (by simp)
  have hH_gi'V_6 : V_6 b.gi = some (eI k 8 σ.G) := by rw [← hV_V_6]; exact hu_o hH_ho'V_3 hH_gi'V_3 (by simp)
  have hH_co'V_6 : V_6 b.co = some (.inr (2, [.ref b.ta, .int (nI σ.nl), .ref b.ro, .ref b.on, .ref b.re, .int σ.g])) := by rw [← hV_V_6]; exact hu_o hH_ho'V_3 hH_co'V_3 (by simp)
  have hH_ts_1'V_6 : V_6 b.ta = some (eTs k b.f) := by rw [← hV_V_6]; exact hu_o hH_ho'V_3 hH_ts_1'V_3 (by simp)
  have hH_ac_1'V_6 : V_6 b.ac = some (eAs k b.fa) := by rw [← hV_V_6]; exact hu_o hH_ho'V_3 hH_ac_1'V_3 (by simp)
  have hH_ve'V_6 : V_6 b.ve = some (eVs k b.fv) := by rw [← hV_V_6]; exact hu_o hH_ho'V_3 hH_ve'V_3 (by simp)
  have hq_1'V_6 : V_6 q_1 = some (.inr (1, [.int x, .int y, .int u, .int v])) := by rw [← hV_V_6, hu_n (Ne.symm ne_bho_q_1)]; exact hq_1'V_3
  have hbho'V_6 : V_6 b.ho = some (.inr (6, [.int (nI σ.nl), .ref b.bo, .ref b.gi, .ref b.co, .ref b.ta, .ref b.ac, .ref b.ve, va_rf (woA b σ.wo), .int w_5])) := by rw [← hV_V_6]; exact hu_s
  refine lv_aload_n hx hb d_Ho_begin_24 rfl (lv_at hl 1 rfl) ?_
  refine gf_Ho_41 hx hb hW hown hG hV hbho'V_6 d_Ho_begin_25 ?_
  refine lv_if_eq (tgt := 33) hx hb d_Ho_begin_28 (by decide) (fun c_7 => ?_) (fun c_7 => ?_)
  · have hH_V_6 : hsOk k V_6 (b.lab q_1 5001) (σ.wrs w_5) := by rw [← hV_V_6]; exact hs_rs hH_V_3 w_5
    have hF_V_6 : hsFr b (b.lab q_1 5001) V V_6 := by rw [← hV_V_6]; exact hsFr.tr hF_V_3 (hsFr_hu (by have q := hH_V_3.lab.l1; show HA.lb (b.lab q_1 5001) (HA.ho (b.lab q_1 5001)) < 10000; rw [q]; omega))
    subst c_7
    have hnf := whyB_full ew_5
    obtain ⟨eG6, hN10, hfa⟩ := act_free hW0 hnf
    refine lv_aload_n hx hb d_Ho_begin_33 rfl (lv_at hl 1 rfl) ?_
    refine gf_Ho_27 hx hb hW hown hG hV hbho'V_6 d_Ho_begin_34 ?_
    refine lv_aload_n hx hb d_Ho_begin_37 rfl (lv_at hl 1 rfl) ?_
    refine gf_Ho_18 hx hb hW hown hG hV hbho'V_6 d_Ho_begin_38 ?_
    refine lv_bipush (v := 6) hx hb d_Ho_begin_41 (by decide) ?_
    refine hv_iald hx hb hG.K hV 0 hH_gi'V_6 rfl ((vp_in_nI (by omega) (by omega) : vp_in (nI 6) 8)) d_Ho_begin_43 ?_
    rw [show (6 : Int32).toNatClampNeg = 6 from rfl]
    rw [eG6]
    refine W.eq (g2 := F0 m 44 ls [.int (nI (gN σ 6)), .ref b.ac]) rfl ?_
    refine hv_new (ci := 0) (fs := [.null, .null, .int 0, .int 0]) (C := R_Ac) (T := T_Ac) (N := 4) hx hb hW in_Ac t_Ac ty_Ac hown (hW _ wk_Ho_25) (hW _ wo_Ac) (hW _ wi_Ac) hG.K hV hS rfl (fun j hj => by rcases (show j = 0 ∨ j = 1 ∨ j = 2 ∨ j = 3 by omega) with rfl | rfl | rfl | rfl <;> rfl) (Nat.le_of_ble_eq_true rfl) (Nat.le_of_ble_eq_true rfl) hG.N d_Ho_begin_44 (fun q_8 H hn_q_8 hN_q_8 hV hS => ?_)
    have ne_bbo_q_8 : b.bo ≠ q_8 := fun z => by rw [← z, hH_bo'V_6] at hn_q_8; cases hn_q_8
    have ne_bgi_q_8 : b.gi ≠ q_8 := fun z => by rw [← z, hH_gi'V_6] at hn_q_8; cases hn_q_8
    have ne_bco_q_8 : b.co ≠ q_8 := fun z => by rw [← z, hH_co'V_6] at hn_q_8; cases hn_q_8
    have ne_bta_q_8 : b.ta ≠ q_8 := fun z => by rw [← z, hH_ts_1'V_6] at hn_q_8; cases hn_q_8
    have ne_bac_q_8 : b.ac ≠ q_8 := fun z => by rw [← z, hH_ac_1'V_6] at hn_q_8; cases hn_q_8
    have ne_bve_q_8 : b.ve ≠ q_8 := fun z => by rw [← z, hH_ve'V_6] at hn_q_8; cases hn_q_8
    have ne_q_1_q_8 : q_1 ≠ q_8 := fun z => by rw [← z, hq_1'V_6] at hn_q_8; cases hn_q_8
    have ne_bho_q_8 : b.ho ≠ q_8 := fun z => by rw [← z, hbho'V_6] at hn_q_8; cases hn_q_8
    replace hV : hv D vwCl N0 (hu V_6 q_8 (.inr (0, [.null, .null, .int 0, .int 0]))) H := hV
    generalize hV_V_9 : hu V_6 q_8 (.inr (0, [.null, .null, .int 0, .int 0])) = V_9 at hV
    have hH_bo'V_9 : V_9 b.bo = some (.inr (1, [.int 0, .int 0, .int 31, .int 23])) := by rw [← hV_V_9, hu_n ne_bbo_q_8]; exact hH_bo'V_6
    have hH_gi'V_9 : V_9 b.gi = some (eI k 8 σ.G) := by rw [← hV_V_9, hu_n ne_bgi_q_8]; exact hH_gi'V_6
    have hH_co'V_9 : V_9 b.co = some (.inr (2, [.ref b.ta, .int (nI σ.nl), .ref b.ro, .ref b.on, .ref b.re, .int σ.g])) := by rw [← hV_V_9, hu_n ne_bco_q_8]; exact hH_co'V_6
    have hH_ts_1'V_9 : V_9 b.ta = some (eTs k b.f) := by rw [← hV_V_9, hu_n ne_bta_q_8]; exact hH_ts_1'V_6
    have hH_ac_1'V_9 : V_9 b.ac = some (eAs k b.fa) := by rw [← hV_V_9, hu_n ne_bac_q_8]; exact hH_ac_1'V_6
    have hH_ve'V_9 : V_9 b.ve = some (eVs k b.fv) := by rw [← hV_V_9, hu_n ne_bve_q_8]; exact hH_ve'V_6
    have hq_1'V_9 : V_9 q_1 = some (.inr (1, [.int x, .int y, .int u, .int v])) := by rw [← hV_V_9, hu_n ne_q_1_q_8]; exact hq_1'V_6
    have hbho'V_9 : V_9 b.ho = some (.inr (6, [.int (nI σ.nl), .ref b.bo, .ref b.gi, .ref b.co, .ref b.ta, .ref b.ac, .ref b.ve, va_rf (woA b σ.wo), .int 0])) := by rw [← hV_V_9, hu_n ne_bho_q_8]; exact hbho'V_6
    have hq_8'V_9 : V_9 q_8 = some (.inr (0, [.null, .null, .int 0, .int 0])) := by rw [← hV_V_9]; exact hu_s
    refine lv_dup hx hb d_Ho_begin_47 rfl ?_
    refine lv_aload hx hb d_Ho_begin_48 (lv_at hl 0 rfl) ?_
    refine rc_V (va_runI (As := [.ref q_1]) (rest := [.ref q_8, .int (nI (gN σ 6)), .ref b.ac]) ⟨hx, hb, hml, hown, hts⟩ (c_Ac_init l D N0 k V_9 q_8 q_1 hq_8'V_9) (cwI 1 hts (gi_c wc_Ac_init) rfl rfl rfl (hW _ wi_Ac) (hW _ wm_Ho_194) (hW _ wv_Ac_init) rfl (by decide +kernel) ⟨Nat.le_of_ble_eq_true rfl, Nat.le_of_ble_eq_true rfl⟩) (mP.preS hG hS hV) rfl rfl hl.1 rfl (lv_room (Nat.le_of_ble_eq_true rfl)) d_Ho_begin_50 ⟨Nat.le_of_ble_eq_true rfl, Nat.le_of_ble_eq_true rfl⟩) hS (fun V_10 H locs hp_11 hV hS => ?_)
    obtain ⟨q_12, q_13, g_14, hn_q_12, hn_q_13, ev_q_12, hg_g_14⟩ := hp_11
    obtain ⟨V_15, eV_V_15⟩ : ∃ y, y = hu V_9 q_12 (.inr (4, [.null])) := ⟨_, rfl⟩
    rw [← eV_V_15] at ev_q_12
    obtain ⟨V_16, eV_V_16⟩ : ∃ y, y = hu V_15 q_13 (eI k 150 g_14) := ⟨_, rfl⟩
    rw [← eV_V_16] at ev_q_12
    obtain ⟨V_17, eV_V_17⟩ : ∃ y, y = hu V_16 q_12 (eSn q_13) := ⟨_, rfl⟩
    rw [← eV_V_17] at ev_q_12
    rw [← eV_V_15] at hn_q_13
    have ne_bbo_q_12 : b.bo ≠ q_12 := fun z => by rw [← z, hH_bo'V_9] at hn_q_12; cases hn_q_12
    have ne_bgi_q_12 : b.gi ≠ q_12 := fun z => by rw [← z, hH_gi'V_9] at hn_q_12; cases hn_q_12
    have ne_bco_q_12 : b.co ≠ q_12 := fun z => by rw [← z, hH_co'V_9] at hn_q_12; cases hn_q_12
    have ne_bta_q_12 : b.ta ≠ q_12 := fun z => by rw [← z, hH_ts_1'V_9] at hn_q_12; cases hn_q_12
    have ne_bac_q_12 : b.ac ≠ q_12 := fun z => by rw [← z, hH_ac_1'V_9] at hn_q_12; cases hn_q_12
    have ne_bve_q_12 : b.ve ≠ q_12 := fun z => by rw [← z, hH_ve'V_9] at hn_q_12; cases hn_q_12
    have ne_q_1_q_12 : q_1 ≠ q_12 := fun z => by rw [← z, hq_1'V_9] at hn_q_12; cases hn_q_12
    have ne_bho_q_12 : b.ho ≠ q_12 := fun z => by rw [← z, hbho'V_9] at hn_q_12; cases hn_q_12
    have ne_q_8_q_12 : q_8 ≠ q_12 := fun z => by rw [← z, hq_8'V_9] at hn_q_12; cases hn_q_12
    have hV_V_15 := eV_V_15.symm
    have hH_bo'V_15 : V_15 b.bo = some (.inr (1, [.int 0, .int 0, .int 31, .int 23])) := by rw [← hV_V_15, hu_n ne_bbo_q_12]; exact hH_bo'V_9
    have hH_gi'V_15 : V_15 b.gi = some (eI k 8 σ.G) := by rw [← hV_V_15, hu_n ne_bgi_q_12]; exact hH_gi'V_9
    have hH_co'V_15 : V_15 b.co = some (.inr (2, [.ref b.ta, .int (nI σ.nl), .ref b.ro, .ref b.on, .ref b.re, .int σ.g])) := by rw [← hV_V_15, hu_n ne_bco_q_12]; exact hH_co'V_9
    have hH_ts_1'V_15 : V_15 b.ta = some (eTs k b.f) := by rw [← hV_V_15, hu_n ne_bta_q_12]; exact hH_ts_1'V_9
    have hH_ac_1'V_15 : V_15 b.ac = some (eAs k b.fa) := by rw [← hV_V_15, hu_n ne_bac_q_12]; exact hH_ac_1'V_9
    have hH_ve'V_15 : V_15 b.ve = some (eVs k b.fv) := by rw [← hV_V_15, hu_n ne_bve_q_12]; exact hH_ve'V_9
    have hq_1'V_15 : V_15 q_1 = some (.inr (1, [.int x, .int y, .int u, .int v])) := by rw [← hV_V_15, hu_n ne_q_1_q_12]; exact hq_1'V_9
    have hbho'V_15 : V_15 b.ho = some (.inr (6, [.int (nI σ.nl), .ref b.bo, .ref b.gi, .ref b.co, .ref b.ta, .ref b.ac, .ref b.ve, va_rf (woA b σ.wo), .int 0])) := by rw [← hV_V_15, hu_n ne_bho_q_12]; exact hbho'V_9
    have hq_8'V_15 : V_15 q_8 = some (.inr (0, [.null, .null, .int 0, .int 0])) := by rw [← hV_V_15, hu_n ne_q_8_q_12]; exact hq_8'V_9
    have hq_12'V_15 : V_15 q_12 = some (.inr (4, [.null])) := by rw [← hV_V_15]; exact hu_s
    have ne_bbo_q_13 : b.bo ≠ q_13 := fun z => by rw [← z, hH_bo'V_15] at hn_q_13; cases hn_q_13
    have ne_bgi_q_13 : b.gi ≠ q_13 := fun z => by rw [← z, hH_gi'V_15] at hn_q_13; cases hn_q_13
    have ne_bco_q_13 : b.co ≠ q_13 := fun z => by rw [← z, hH_co'V_15] at hn_q_13; cases hn_q_13
    have ne_bta_q_13 : b.ta ≠ q_13 := fun z => by rw [← z, hH_ts_1'V_15] at hn_q_13; cases hn_q_13
    have ne_bac_q_13 : b.ac ≠ q_13 := fun z => by rw [← z, hH_ac_1'V_15] at hn_q_13; cases hn_q_13
    have ne_bve_q_13 : b.ve ≠ q_13 := fun z => by rw [← z, hH_ve'V_15] at hn_q_13; cases hn_q_13
    have ne_q_1_q_13 : q_1 ≠ q_13 := fun z => by rw [← z, hq_1'V_15] at hn_q_13; cases hn_q_13
    have ne_bho_q_13 : b.ho ≠ q_13 := fun z => by rw [← z, hbho'V_15] at hn_q_13; cases hn_q_13
    have ne_q_8_q_13 : q_8 ≠ q_13 := fun z => by rw [← z, hq_8'V_15] at hn_q_13; cases hn_q_13
    have ne_q_12_q_13 : q_12 ≠ q_13 := fun z => by rw [← z, hq_12'V_15] at hn_q_13; cases hn_q_13
    have hV_V_16 := eV_V_16.symm
    have hH_bo'V_16 : V_16 b.bo = some (.inr (1, [.int 0, .int 0, .int 31, .int 23])) := by rw [← hV_V_16, hu_n ne_bbo_q_13]; exact hH_bo'V_15
    have hH_gi'V_16 : V_16 b.gi = some (eI k 8 σ.G) := by rw [← hV_V_16, hu_n ne_bgi_q_13]; exact hH_gi'V_15
    have hH_co'V_16 : V_16 b.co = some (.inr (2, [.ref b.ta, .int (nI σ.nl), .ref b.ro, .ref b.on, .ref b.re, .int σ.g])) := by rw [← hV_V_16, hu_n ne_bco_q_13]; exact hH_co'V_15
    have hH_ts_1'V_16 : V_16 b.ta = some (eTs k b.f) := by rw [← hV_V_16, hu_n ne_bta_q_13]; exact hH_ts_1'V_15
    have hH_ac_1'V_16 : V_16 b.ac = some (eAs k b.fa) := by rw [← hV_V_16, hu_n ne_bac_q_13]; exact hH_ac_1'V_15
    have hH_ve'V_16 : V_16 b.ve = some (eVs k b.fv) := by rw [← hV_V_16, hu_n ne_bve_q_13]; exact hH_ve'V_15
    have hq_1'V_16 : V_16 q_1 = some (.inr (1, [.int x, .int y, .int u, .int v])) := by rw [← hV_V_16, hu_n ne_q_1_q_13]; exact hq_1'V_15
    have hbho'V_16 : V_16 b.ho = some (.inr (6, [.int (nI σ.nl), .ref b.bo, .ref b.gi, .ref b.co, .ref b.ta, .ref b.ac, .ref b.ve, va_rf (woA b σ.wo), .int 0])) := by rw [← hV_V_16, hu_n ne_bho_q_13]; exact hbho'V_15
    have hq_8'V_16 : V_16 q_8 = some (.inr (0, [.null, .null, .int 0, .int 0])) := by rw [← hV_V_16, hu_n ne_q_8_q_13]; exact hq_8'V_15
    have hq_12'V_16 : V_16 q_12 = some (.inr (4, [.null])) := by rw [← hV_V_16, hu_n ne_q_12_q_13]; exact hq_12'V_15
    have hq_13'V_16 : V_16 q_13 = some (eI k 150 g_14) := by rw [← hV_V_16]; exact hu_s
    have hV_V_17 := eV_V_17.symm
    have hH_bo'V_17 : V_17 b.bo = some (.inr (1, [.int 0, .int 0, .int 31, .int 23])) := by rw [← hV_V_17, hu_n ne_bbo_q_12]; exact hH_bo'V_16
    have hH_gi'V_17 : V_17 b.gi = some (eI k 8 σ.G) := by rw [← hV_V_17, hu_n ne_bgi_q_12]; exact hH_gi'V_16
    have hH_co'V_17 : V_17 b.co = some (.inr (2, [.ref b.ta, .int (nI σ.nl), .ref b.ro, .ref b.on, .ref b.re, .int σ.g])) := by rw [← hV_V_17, hu_n ne_bco_q_12]; exact hH_co'V_16
    have hH_ts_1'V_17 : V_17 b.ta = some (eTs k b.f) := by rw [← hV_V_17, hu_n ne_bta_q_12]; exact hH_ts_1'V_16
    have hH_ac_1'V_17 : V_17 b.ac = some (eAs k b.fa) := by rw [← hV_V_17, hu_n ne_bac_q_12]; exact hH_ac_1'V_16
    have hH_ve'V_17 : V_17 b.ve = some (eVs k b.fv) := by rw [← hV_V_17, hu_n ne_bve_q_12]; exact hH_ve'V_16
    have hq_1'V_17 : V_17 q_1 = some (.inr (1, [.int x, .int y, .int u, .int v])) := by rw [← hV_V_17, hu_n ne_q_1_q_12]; exact hq_1'V_16
    have hbho'V_17 : V_17 b.ho = some (.inr (6, [.int (nI σ.nl), .ref b.bo, .ref b.gi, .ref b.co, .ref b.ta, .ref b.ac, .ref b.ve, va_rf (woA b σ.wo), .int 0])) := by rw [← hV_V_17, hu_n ne_bho_q_12]; exact hbho'V_16
    have hq_8'V_17 : V_17 q_8 = some (.inr (0, [.null, .null, .int 0, .int 0])) := by rw [← hV_V_17, hu_n ne_q_8_q_12]; exact hq_8'V_16
    have hq_13'V_17 : V_17 q_13 = some (eI k 150 g_14) := by rw [← hV_V_17, hu_n (Ne.symm ne_q_12_q_13)]; exact hq_13'V_16
    have hq_12'V_17 : V_17 q_12 = some (eSn q_13) := by rw [← hV_V_17]; exact hu_s
    have hV_V_10 := ev_q_12.symm
    have hH_bo'V_10 : V_10 b.bo = some (.inr (1, [.int 0, .int 0, .int 31, .int 23])) := by rw [← hV_V_10, hu_n ne_bbo_q_8]; exact hH_bo'V_17
    have hH_gi'V_10 : V_10 b.gi = some (eI k 8 σ.G) := by rw [← hV_V_10, hu_n ne_bgi_q_8]; exact hH_gi'V_17
    have hH_co'V_10 : V_10 b.co = some (.inr (2, [.ref b.ta, .int (nI σ.nl), .ref b.ro, .ref b.on, .ref b.re, .int σ.g])) := by rw [← hV_V_10, hu_n ne_bco_q_8]; exact hH_co'V_17
    have hH_ts_1'V_10 : V_10 b.ta = some (eTs k b.f) := by rw [← hV_V_10, hu_n ne_bta_q_8]; exact hH_ts_1'V_17
    have hH_ac_1'V_10 : V_10 b.ac = some (eAs k b.fa) := by rw [← hV_V_10, hu_n ne_bac_q_8]; exact hH_ac_1'V_17
    have hH_ve'V_10 : V_10 b.ve = some (eVs k b.fv) := by rw [← hV_V_10, hu_n ne_bve_q_8]; exact hH_ve'V_17
    have hq_1'V_10 : V_10 q_1 = some (.inr (1, [.int x, .int y, .int u, .int v])) := by rw [← hV_V_10, hu_n ne_q_1_q_8]; exact hq_1'V_17
    have hbho'V_10 : V_10 b.ho = some (.inr (6, [.int (nI σ.nl), .ref b.bo, .ref b.gi, .ref b.co, .ref b.ta, .ref b.ac, .ref b.ve, va_rf (woA b σ.wo), .int 0])) := by rw [← hV_V_10, hu_n ne_bho_q_8]; exact hbho'V_17
    have hq_13'V_10 : V_10 q_13 = some (eI k 150 g_14) := by rw [← hV_V_10, hu_n (Ne.symm ne_q_8_q_13)]; exact hq_13'V_17
    have hq_12'V_10 : V_10 q_12 = some (.inr (4, [.ref q_13])) := by rw [← hV_V_10, hu_n (Ne.symm ne_q_8_q_12)]; exact hq_12'V_17
    have hq_8'V_10 : V_10 q_8 = some (eAc q_1 q_12 1 0) := by rw [← hV_V_10]; exact hu_s
    have hH_V_9 : hsOk k V_9 ((b.lab q_1 5001).lab q_8 5000) (σ.wrs 0) := by rw [← hV_V_9]; exact hs_new hH_V_6 hn_q_8
    have hF_V_9 : hsFr b ((b.lab q_1 5001).lab q_8 5000) V V_9 := by rw [← hV_V_9]; exact hsFr.tr hF_V_6 (hsFr_new hn_q_8)
    have lbV_9_q_1 : ((b.lab q_1 5001).lab q_8 5000).lb q_1 = 5001 := (HA.lab_n ne_q_1_q_8).trans lbV_2_q_1
    have lbV_9_q_8 : ((b.lab q_1 5001).lab q_8 5000).lb q_8 = 5000 := HA.lab_s
    have hH_V_15 : hsOk k V_15 (((b.lab q_1 5001).lab q_8 5000).lab q_12 5002) (σ.wrs 0) := by rw [← hV_V_15]; exact hs_new hH_V_9 hn_q_12
    have hF_V_15 : hsFr b (((b.lab q_1 5001).lab q_8 5000).lab q_12 5002) V V_15 := by rw [← hV_V_15]; exact hsFr.tr hF_V_9 (hsFr_new hn_q_12)
    have lbV_15_q_1 : (((b.lab q_1 5001).lab q_8 5000).lab q_12 5002).lb q_1 = 5001 := (HA.lab_n ne_q_1_q_12).trans lbV_9_q_1
    have lbV_15_q_8 : (((b.lab q_1 5001).lab q_8 5000).lab q_12 5002).lb q_8 = 5000 := (HA.lab_n ne_q_8_q_12).trans lbV_9_q_8
    have lbV_15_q_12 : (((b.lab q_1 5001).lab q_8 5000).lab q_12 5002).lb q_12 = 5002 := HA.lab_s
    have hH_V_16 : hsOk k V_16 ((((b.lab q_1 5001).lab q_8 5000).lab q_12 5002).lab q_13 5003) (σ.wrs 0) := by rw [← hV_V_16]; exact hs_new hH_V_15 hn_q_13
    have hF_V_16 : hsFr b ((((b.lab q_1 5001).lab q_8 5000).lab q_12 5002).lab q_13 5003) V V_16 := by rw [← hV_V_16]; exact hsFr.tr hF_V_15 (hsFr_new hn_q_13)
    have lbV_16_q_1 : ((((b.lab q_1 5001).lab q_8 5000).lab q_12 5002).lab q_13 5003).lb q_1 = 5001 := (HA.lab_n ne_q_1_q_13).trans lbV_15_q_1
    have lbV_16_q_8 : ((((b.lab q_1 5001).lab q_8 5000).lab q_12 5002).lab q_13 5003).lb q_8 = 5000 := (HA.lab_n ne_q_8_q_13).trans lbV_15_q_8
    have lbV_16_q_12 : ((((b.lab q_1 5001).lab q_8 5000).lab q_12 5002).lab q_13 5003).lb q_12 = 5002 := (HA.lab_n ne_q_12_q_13).trans lbV_15_q_12
    have lbV_16_q_13 : ((((b.lab q_1 5001).lab q_8 5000).lab q_12 5002).lab q_13 5003).lb q_13 = 5003 := HA.lab_s
    have hH_V_17 : hsOk k V_17 ((((b.lab q_1 5001).lab q_8 5000).lab q_12 5002).lab q_13 5003) (σ.wrs 0) := by rw [← hV_V_17]; exact hs_tmp hH_V_16 (by rw [lbV_16_q_12]; omega)
    have hF_V_17 : hsFr b ((((b.lab q_1 5001).lab q_8 5000).lab q_12 5002).lab q_13 5003) V V_17 := by rw [← hV_V_17]; exact hsFr.tr hF_V_16 (hsFr_hu (by rw [lbV_16_q_12]; omega))
    have hH_V_10 : hsOk k V_10 ((((b.lab q_1 5001).lab q_8 5000).lab q_12 5002).lab q_13 5003) (σ.wrs 0) := by rw [← hV_V_10]; exact hs_tmp hH_V_17 (by rw [lbV_16_q_8]; omega)
    have hF_V_10 : hsFr b ((((b.lab q_1 5001).lab q_8 5000).lab q_12 5002).lab q_13 5003) V V_10 := by rw [← hV_V_10]; exact hsFr.tr hF_V_17 (hsFr_hu (by rw [lbV_16_q_8]; omega))
    refine hv_aast hx hb hG.K hV hS 4 0 hH_ac_1'V_10 rfl hq_8'V_10 rfl (vp_in_nI (by omega) (by omega)) d_Ho_begin_53 (fun H locs hV hS => ?_)
    rw [nI_clamp (by omega)] at hV
    replace hV : hv D vwCl N0 (hu V_10 b.ac (.inl (k 4, 10, .inr (.inr (.inr (.inr (va_up b.fa (gN σ 6) (some q_8)))))))) H := hV
    generalize hV_V_18 : hu V_10 b.ac (.inl (k 4, 10, .inr (.inr (.inr (.inr (va_up b.fa (gN σ 6) (some q_8))))))) = V_18 at hV
    have hH_bo'V_18 : V_18 b.bo = some (.inr (1, [.int 0, .int 0, .int 31, .int 23])) := by rw [← hV_V_18]; exact hu_o hH_ac_1'V_10 hH_bo'V_10 (by simp)
    have hH_gi'V_18 : V_18 b.gi = some (eI k 8 σ.G) := by rw [← hV_V_18]; exact hu_o hH_ac_1'V_10 hH_gi'V_10 (by simp)
    have hH_co'V_18 : V_18 b.co = some (.inr (2, [.ref b.ta, .int (nI σ.nl), .ref b.ro, .ref b.on, .ref b.re, .int σ.g])) := by rw [← hV_V_18]; exact hu_o hH_ac_1'V_10 hH_co'V_10 (by simp)
    have hH_ts_1'V_18 : V_18 b.ta = some (eTs k b.f) := by rw [← hV_V_18]; exact hu_o hH_ac_1'V_10 hH_ts_1'V_10 (by simp)
    have hH_ve'V_18 : V_18 b.ve = some (eVs k b.fv) := by rw [← hV_V_18]; exact hu_o hH_ac_1'V_10 hH_ve'V_10 (by simp)
    have hq_1'V_18 : V_18 q_1 = some (.inr (1, [.int x, .int y, .int u, .int v])) := by rw [← hV_V_18, hu_n (Ne.symm ne_bac_q_1)]; exact hq_1'V_10
    have hbho'V_18 : V_18 b.ho = some (.inr (6, [.int (nI σ.nl), .ref b.bo, .ref b.gi, .ref b.co, .ref b.ta, .ref b.ac, .ref b.ve, va_rf (woA b σ.wo), .int 0])) := by rw [← hV_V_18]; exact hu_o hH_ac_1'V_10 hbho'V_10 (by simp)
    have hq_13'V_18 : V_18 q_13 = some (eI k 150 g_14) := by rw [← hV_V_18, hu_n (Ne.symm ne_bac_q_13)]; exact hq_13'V_10
    have hq_12'V_18 : V_18 q_12 = some (.inr (4, [.ref q_13])) := by rw [← hV_V_18, hu_n (Ne.symm ne_bac_q_12)]; exact hq_12'V_10
    have hq_8'V_18 : V_18 q_8 = some (.inr (0, [.ref q_1, .ref q_12, .int 1, .int 0])) := by rw [← hV_V_18, hu_n (Ne.symm ne_bac_q_8)]; exact hq_8'V_10
    have hbac'V_18 : V_18 b.ac = some (.inl (k 4, 10, .inr (.inr (.inr (.inr (va_up b.fa (gN σ 6) (some q_8))))))) := by rw [← hV_V_18]; exact hu_s
    have hH2 : hsOk k V_18 (((((b.lab q_1 5001).lab q_8 5000).lab q_12 5002).lab q_13 5003).addA (gN σ 6) q_8 q_1 q_12 q_13) (((σ.wrs 0).wA (updT σ.A (gN σ 6) (acR x y u v))).wZ (updT σ.Z (gN σ 6) g_14)) := by rw [← hV_V_18]; exact hs_addA (A' := acR x y u v) hH_V_10 hN10 hfa hq_8'V_10 hq_1'V_10 hq_12'V_10 hq_13'V_10 lbV_16_q_8 lbV_16_q_1 lbV_16_q_12 lbV_16_q_13
    have hF2 : hsFr b (((((b.lab q_1 5001).lab q_8 5000).lab q_12 5002).lab q_13 5003).addA (gN σ 6) q_8 q_1 q_12 q_13) V V_18 := by rw [← hV_V_18]; exact hsFr.tr hF_V_10 (hsFr_addA hH_V_10.lab.l6 lbV_16_q_8 lbV_16_q_1 lbV_16_q_12 lbV_16_q_13)
    refine W.eq (g2 := F0 m 54 ls []) rfl ?_
    refine lv_aload_n hx hb d_Ho_begin_54 rfl (lv_at hl 1 rfl) ?_
    refine lv_bipush (v := 6) hx hb d_Ho_begin_55 (by decide) ?_
    refine W.eq (g2 := F0 m 57 ls [.int (nI 6), .ref b.ho]) rfl ?_
    refine rc_I (va_runV (As := [.int (nI 6)]) (rest := []) ⟨hx, hb, hml, hown, hts⟩ (c_Ho_nextHandle l D N0 k V_18 b.ho b.bo b.gi b.co b.ta b.ac b.ve _ _ _ hbho'V_18 σ.G hH_gi'V_18 6 (by omega) (by omega)) (cwV 1 hts (gi_V wm_Ho_75 wv_Ho_nextHandle ws_Ho_nextHandle wi_Ho wc_Ho_nextHandle) rfl rfl rfl (by decide +kernel) ⟨Nat.le_of_ble_eq_true rfl, Nat.le_of_ble_eq_true rfl⟩) (mP.preV hG hS hV hbho'V_18 rfl) rfl rfl hl.1 rfl (lv_room (Nat.le_of_ble_eq_true rfl)) d_Ho_begin_57 ⟨Nat.le_of_ble_eq_true rfl, Nat.le_of_ble_eq_true rfl⟩) hS (fun r_19 V_20 H locs hp_21 hV hS => ?_)
    obtain ⟨er_r_19, ev_r_19⟩ := hp_21
    exact W.iret (v := r_19) hx hb hr (fun t9 ht hW => ⟨⟨r_19, V_20, rfl, ⟨(((((b.lab q_1 5001).lab q_8 5000).lab q_12 5002).lab q_13 5003).addA (gN σ 6) q_8 q_1 q_12 q_13), g_14, hg_g_14, by rw [bgP, if_pos ew_5.symm]; exact W_addA (bm := ((((b.lab q_1 5001).lab q_8 5000).lab q_12 5002).lab q_13 5003)) hW0 hnf rfl rfl rfl rfl rfl (by rw [ev_r_19]; exact hs_gi hH2 _), by rw [ev_r_19]; exact hF2.tr (hsFr_hu (by have q := hH2.lab.l3; show HA.lb (((((b.lab q_1 5001).lab q_8 5000).lab q_12 5002).lab q_13 5003).addA (gN σ 6) q_8 q_1 q_12 q_13) (HA.gi (((((b.lab q_1 5001).lab q_8 5000).lab q_12 5002).lab q_13 5003).addA (gN σ 6) q_8 q_1 q_12 q_13)) < 10000; rw [q]; omega)), by rw [bgP, if_pos ew_5.symm]; exact er_r_19⟩, mB_of ht hV⟩, hS.F ht⟩) hS.2.2 d_Ho_begin_60
  · refine lv_iconst (v := (-1)) hx hb d_Ho_begin_31 (by decide) ?_
    refine W.widen (k := 4) (n := 159) (by omega) (by omega) ?_
    have hH_V_6 : hsOk k V_6 (b.lab q_1 5001) (σ.wrs w_5) := by rw [← hV_V_6]; exact hs_rs hH_V_3 w_5
    have hF_V_6 : hsFr b (b.lab q_1 5001) V V_6 := by rw [← hV_V_6]; exact hsFr.tr hF_V_3 (hsFr_hu (by have q := hH_V_3.lab.l1; show HA.lb (b.lab q_1 5001) (HA.ho (b.lab q_1 5001)) < 10000; rw [q]; omega))
    have hne : ¬ whyBg σ x y u v = 0 := fun q => c_7 (ew_5.trans q)
    rw [ew_5] at hH_V_6
    exact W.iret (v := (-1)) hx hb hr (fun t9 ht hW => ⟨⟨(-1), V_6, rfl, ⟨(b.lab q_1 5001), fun _ => -1, fun _ _ => rfl, by rw [bgP, if_neg hne]; exact W_keep hW0 hH_V_6 rfl rfl rfl rfl (fun i => ⟨rfl, rfl⟩), hF_V_6, by rw [bgP, if_neg hne]⟩, mB_of ht hV⟩, hS.F ht⟩) hS.2.2 d_Ho_begin_32
set_option maxHeartbeats 4000000 in
set_option maxRecDepth 100000 in
/-- work(0) -/
theorem c_Ho_work0 (l : Launch) (D : va_G) (N0 : Nat) (k : Nat → Nat) (V : HV) (b : HA) (σ : HS) (hW0 : hsW k V b σ) : Met l y_Ho_work (.code y_Ho_work b_Ho_work 4 (some .boolean) :: WS) ({ frames := 8, cells := 0, slots := 0, locals := 134 }) (mP D N0 k [.ref b.ho, .int 0] V) (va_Qi (fun r V' => hsW k V' b (σ.wwo none) ∧ hsFr b b V V' ∧ r = bI (!decide (none = σ.wo))) (mB D N0) (hA N0)) 0 0 (hA N0) := by
  refine Met.ofW (cc := b_Ho_work) (maxL := 4) (ret := (some .boolean)) (by decide) rfl ?_
  intro p e s m args below meth c s₁ B hml hv0
  obtain ⟨rfl, hG, hV⟩ := hv0
  have hx := B.exec
  have hb := B.bytes
  have hr := B.returns
  have hts := atoms_spec (ws := .code y_Ho_work b_Ho_work 4 (some .boolean) :: WS) B.pre
  have hW : ∀ w ∈ WS, w.before _ s = true := fun w h => hts w (List.mem_cons_of_mem _ h)
  have hown : s.vm.findClass "BoardHouse" = some m.cls := findClass_of_methodNamed B.named
  have hlocks := B.notSynchronized
  have hS : va_S (hA N0) s.heap s.heap [] := va_S.rf
  have hl := lv_entry ([.ref b.ho, .int 0]) (n := 4) (Nat.le_of_ble_eq_true rfl)
  rw [lg_entry_eq]
  generalize (lg_sl ([.ref b.ho, .int 0]) ++ List.replicate (4 - (lg_sl ([.ref b.ho, .int 0])).length) Slot.unset).toArray = ls at hl ⊢
  have hl : lv_has ls 4 [(0, .ref b.ho), (1, .int 0)] := hl
  have hH := hW0.1
  refine lv_iload_n hx hb d_Ho_work_0 rfl (lv_at hl 1 rfl) ?_
  refine lv_if_ne (tgt := 8) hx hb d_Ho_work_1 (by decide) (fun q => absurd q (by decide)) (fun _ => ?_)
  refine lv_null hx hb d_Ho_work_4 ?_
  refine lv_goto (tgt := 13) hx hb d_Ho_work_5 (by decide) ?_
  refine lv_astore_nN (lv' := [(2, .null), (0, .ref b.ho), (1, .int 0)]) hx hb d_Ho_work_13 rfl hl (by decide) rfl (fun ls hl => ?_)
  refine lv_aload_nN hx hb d_Ho_work_14 rfl (lv_at hl 0 rfl) ?_
  refine lv_aload_n hx hb d_Ho_work_15 rfl (lv_at hl 1 rfl) ?_
  refine gf_Ho_37 hx hb hW hown hG hV hH.ho d_Ho_work_16 ?_
  refine lv_acmp_eq (rx := none) (ry := (woA b σ.wo)) (tgt := 26) hx hb d_Ho_work_19 (by decide) (fun c_1 => ?_) (fun c_1 => ?_)
  · refine lv_iconst (v := 0) hx hb d_Ho_work_26 (by decide) ?_
    refine lv_istore_n (lv' := [(3, .int 0), (2, .null), (0, .ref b.ho), (1, .int 0)]) hx hb d_Ho_work_27 rfl hl (by decide) rfl (fun ls hl => ?_)
    refine lv_aload_n hx hb d_Ho_work_28 rfl (lv_at hl 2 rfl) ?_
    refine lv_aload_nN hx hb d_Ho_work_29 rfl (lv_at hl 1 rfl) ?_
    refine pf_Ho_37 (x := none) hx hb hW hown hG hV hS hH.ho d_Ho_work_30 (fun H locs hV hS => ?_)
    replace hV : hv D vwCl N0 (hu V b.ho (.inr (6, [.int (nI σ.nl), .ref b.bo, .ref b.gi, .ref b.co, .ref b.ta, .ref b.ac, .ref b.ve, .null, .int σ.rs]))) H := hV
    generalize hV_V_2 : hu V b.ho (.inr (6, [.int (nI σ.nl), .ref b.bo, .ref b.gi, .ref b.co, .ref b.ta, .ref b.ac, .ref b.ve, .null, .int σ.rs])) = V_2 at hV
    have hH_bo'V_2 : V_2 b.bo = some (.inr (1, [.int 0, .int 0, .int 31, .int 23])) := by rw [← hV_V_2]; exact hu_o hH.ho hH.bo (by simp)
    have hH_gi'V_2 : V_2 b.gi = some (eI k 8 σ.G) := by rw [← hV_V_2]; exact hu_o hH.ho hH.gi (by simp)
    have hH_co'V_2 : V_2 b.co = some (.inr (2, [.ref b.ta, .int (nI σ.nl), .ref b.ro, .ref b.on, .ref b.re, .int σ.g])) := by rw [← hV_V_2]; exact hu_o hH.ho hH.co (by simp)
    have hH_ts_1'V_2 : V_2 b.ta = some (eTs k b.f) := by rw [← hV_V_2]; exact hu_o hH.ho hH.ts.1 (by simp)
    have hH_ac_1'V_2 : V_2 b.ac = some (eAs k b.fa) := by rw [← hV_V_2]; exact hu_o hH.ho hH.ac.1 (by simp)
    have hH_ve'V_2 : V_2 b.ve = some (eVs k b.fv) := by rw [← hV_V_2]; exact hu_o hH.ho hH.ve (by simp)
    have hbho'V_2 : V_2 b.ho = some (.inr (6, [.int (nI σ.nl), .ref b.bo, .ref b.gi, .ref b.co, .ref b.ta, .ref b.ac, .ref b.ve, .null, .int σ.rs])) := by rw [← hV_V_2]; exact hu_s
    refine lv_iload_n hx hb d_Ho_work_33 rfl (lv_at hl 0 rfl) ?_
    have hq := hs_wo hH none (fun j e => by cases e)
    have hio := wo_no hH
    exact W.zret (v := 0) hx hb hr rfl (fun t9 ht hW => ⟨⟨0, V_2, rfl, ⟨W_keep hW0 (by rw [← hV_V_2]; exact hq) rfl rfl rfl rfl (fun i => ⟨rfl, rfl⟩), by rw [← hV_V_2]; exact hsFr_hu (by rw [hH.lab.l1]; omega), by rw [show decide (none = σ.wo) = true from decide_eq_true (hio.mp c_1.symm).symm]; rfl⟩, mB_of ht hV⟩, hS.F ht⟩) hS.2.2 d_Ho_work_34
  · refine lv_iconst (v := 1) hx hb d_Ho_work_22 (by decide) ?_
    refine lv_goto (tgt := 27) hx hb d_Ho_work_23 (by decide) ?_
    refine lv_istore_n (lv' := [(3, .int 1), (2, .null), (0, .ref b.ho), (1, .int 0)]) hx hb d_Ho_work_27 rfl hl (by decide) rfl (fun ls hl => ?_)
    refine lv_aload_n hx hb d_Ho_work_28 rfl (lv_at hl 2 rfl) ?_
    refine lv_aload_nN hx hb d_Ho_work_29 rfl (lv_at hl 1 rfl) ?_
    refine pf_Ho_37 (x := none) hx hb hW hown hG hV hS hH.ho d_Ho_work_30 (fun H locs hV hS => ?_)
    replace hV : hv D vwCl N0 (hu V b.ho (.inr (6, [.int (nI σ.nl), .ref b.bo, .ref b.gi, .ref b.co, .ref b.ta, .ref b.ac, .ref b.ve, .null, .int σ.rs]))) H := hV
    generalize hV_V_3 : hu V b.ho (.inr (6, [.int (nI σ.nl), .ref b.bo, .ref b.gi, .ref b.co, .ref b.ta, .ref b.ac, .ref b.ve, .null, .int σ.rs])) = V_3 at hV
    have hH_bo'V_3 : V_3 b.bo = some (.inr (1, [.int 0, .int 0, .int 31, .int 23])) := by rw [← hV_V_3]; exact hu_o hH.ho hH.bo (by simp)
    have hH_gi'V_3 : V_3 b.gi = some (eI k 8 σ.G) := by rw [← hV_V_3]; exact hu_o hH.ho hH.gi (by simp)
    have hH_co'V_3 : V_3 b.co = some (.inr (2, [.ref b.ta, .int (nI σ.nl), .ref b.ro, .ref b.on, .ref b.re, .int σ.g])) := by rw [← hV_V_3]; exact hu_o hH.ho hH.co (by simp)
    have hH_ts_1'V_3 : V_3 b.ta = some (eTs k b.f) := by rw [← hV_V_3]; exact hu_o hH.ho hH.ts.1 (by simp)
    have hH_ac_1'V_3 : V_3 b.ac = some (eAs k b.fa) := by rw [← hV_V_3]; exact hu_o hH.ho hH.ac.1 (by simp)
    have hH_ve'V_3 : V_3 b.ve = some (eVs k b.fv) := by rw [← hV_V_3]; exact hu_o hH.ho hH.ve (by simp)
    have hbho'V_3 : V_3 b.ho = some (.inr (6, [.int (nI σ.nl), .ref b.bo, .ref b.gi, .ref b.co, .ref b.ta, .ref b.ac, .ref b.ve, .null, .int σ.rs])) := by rw [← hV_V_3]; exact hu_s
    refine lv_iload_n hx hb d_Ho_work_33 rfl (lv_at hl 0 rfl) ?_
    have hq := hs_wo hH none (fun j e => by cases e)
    have hio := wo_no hH
    exact W.zret (v := 1) hx hb hr rfl (fun t9 ht hW => ⟨⟨1, V_3, rfl, ⟨W_keep hW0 (by rw [← hV_V_3]; exact hq) rfl rfl rfl rfl (fun i => ⟨rfl, rfl⟩), by rw [← hV_V_3]; exact hsFr_hu (by rw [hH.lab.l1]; omega), by rw [show decide (none = σ.wo) = false from decide_eq_false (fun q => c_1 (hio.mpr q.symm).symm)]; rfl⟩, mB_of ht hV⟩, hS.F ht⟩) hS.2.2 d_Ho_work_34
set_option maxHeartbeats 4000000 in
set_option maxRecDepth 100000 in
/-- work -/
theorem c_Ho_work (l : Launch) (D : va_G) (N0 : Nat) (k : Nat → Nat) (V : HV) (b : HA) (σ : HS) (hW0 : hsW k V b σ) (h : Int32) (hh0 : ¬ h = 0) (hg : gvOk σ.G h = true) (hk6 : h / 1000 = 6) (hop : ¬ σ.A (hdN h) 0 = 0) : Met l y_Ho_work (.code y_Ho_work b_Ho_work 4 (some .boolean) :: WS) ({ frames := 8, cells := 0, slots := 0, locals := 134 }) (mP D N0 k [.ref b.ho, .int h] V) (va_Qi (fun r V' => hsW k V' b (σ.wwo (some (hdN h))) ∧ hsFr b b V V' ∧ r = bI (!decide ((some (hdN h)) = σ.wo))) (mB D N0) (hA N0)) 0 0 (hA N0) := by
  refine Met.ofW (cc := b_Ho_work) (maxL := 4) (ret := (some .boolean)) (by decide) rfl ?_
  intro p e s m args below meth c s₁ B hml hv0
  obtain ⟨rfl, hG, hV⟩ := hv0
  have hx := B.exec
  have hb := B.bytes
  have hr := B.returns
  have hts := atoms_spec (ws := .code y_Ho_work b_Ho_work 4 (some .boolean) :: WS) B.pre
  have hW : ∀ w ∈ WS, w.before _ s = true := fun w h => hts w (List.mem_cons_of_mem _ h)
  have hown : s.vm.findClass "BoardHouse" = some m.cls := findClass_of_methodNamed B.named
  have hlocks := B.notSynchronized
  have hS : va_S (hA N0) s.heap s.heap [] := va_S.rf
  have hl := lv_entry ([.ref b.ho, .int h]) (n := 4) (Nat.le_of_ble_eq_true rfl)
  rw [lg_entry_eq]
  generalize (lg_sl ([.ref b.ho, .int h]) ++ List.replicate (4 - (lg_sl ([.ref b.ho, .int h])).length) Slot.unset).toArray = ls at hl ⊢
  have hl : lv_has ls 4 [(0, .ref b.ho), (1, .int h)] := hl
  have hH := hW0.1
  obtain ⟨eN, hN10, t, hfa⟩ := act_of hW0 hg hk6
  obtain ⟨h_t, hr_t, hs_t, hz_t⟩ := hH.ac.2.1 (hdN h) t hN10 hfa
  refine lv_iload_n hx hb d_Ho_work_0 rfl (lv_at hl 1 rfl) ?_
  refine lv_if_ne (tgt := 8) hx hb d_Ho_work_1 (by decide) (fun c_1 => ?_) (fun c_1 => ?_)
  · refine lv_aload_n hx hb d_Ho_work_8 rfl (lv_at hl 0 rfl) ?_
    refine lv_iload_n hx hb d_Ho_work_9 rfl (lv_at hl 1 rfl) ?_
    refine va_csq (va_Run.run (va_runV (As := [.int h]) (rest := []) ⟨hx, hb, hml, hown, hts⟩ (r_Ho_demandOpenAct l D N0 k V b σ hH h hg hk6 (hdN h) t eN hN10 hfa hop) (cwV 1 hts (gi_V wm_Ho_197 wv_Ho_demandOpenAct ws_Ho_demandOpenAct wi_Ho wc_Ho_demandOpenAct) rfl rfl rfl (by decide +kernel) ⟨Nat.le_of_ble_eq_true rfl, Nat.le_of_ble_eq_true rfl⟩) (mP.preV hG hS hV hH.ho rfl) rfl rfl hl.1 rfl (lv_room (Nat.le_of_ble_eq_true rfl)) d_Ho_work_10 ⟨Nat.le_of_ble_eq_true rfl, Nat.le_of_ble_eq_true rfl⟩)) (fun r_2 hp_3 => ?_)
    subst hp_3
    refine W.eq (g2 := F0 m 13 ls [.ref t]) rfl ?_
    refine lv_astore_n (lv' := [(2, .ref t), (0, .ref b.ho), (1, .int h)]) hx hb d_Ho_work_13 rfl hl (by decide) rfl (fun ls hl => ?_)
    refine lv_aload_n hx hb d_Ho_work_14 rfl (lv_at hl 0 rfl) ?_
    refine lv_aload_n hx hb d_Ho_work_15 rfl (lv_at hl 1 rfl) ?_
    refine gf_Ho_37 hx hb hW hown hG hV hH.ho d_Ho_work_16 ?_
    refine lv_acmp_eq (rx := some t) (ry := (woA b σ.wo)) (tgt := 26) hx hb d_Ho_work_19 (by decide) (fun c_4 => ?_) (fun c_4 => ?_)
    · refine lv_iconst (v := 0) hx hb d_Ho_work_26 (by decide) ?_
      refine lv_istore_n (lv' := [(3, .int 0), (2, .ref t), (0, .ref b.ho), (1, .int h)]) hx hb d_Ho_work_27 rfl hl (by decide) rfl (fun ls hl => ?_)
      refine lv_aload_n hx hb d_Ho_work_28 rfl (lv_at hl 2 rfl) ?_
      refine lv_aload_n hx hb d_Ho_work_29 rfl (lv_at hl 1 rfl) ?_
      refine pf_Ho_37 (x := some t) hx hb hW hown hG hV hS hH.ho d_Ho_work_30 (fun H locs hV hS => ?_)
      replace hV : hv D vwCl N0 (hu V b.ho (.inr (6, [.int (nI σ.nl), .ref b.bo, .ref b.gi, .ref b.co, .ref b.ta, .ref b.ac, .ref b.ve, .ref t, .int σ.rs]))) H := hV
      generalize hV_V_5 : hu V b.ho (.inr (6, [.int (nI σ.nl), .ref b.bo, .ref b.gi, .ref b.co, .ref b.ta, .ref b.ac, .ref b.ve, .ref t, .int σ.rs])) = V_5 at hV
      have hH_bo'V_5 : V_5 b.bo = some (.inr (1, [.int 0, .int 0, .int 31, .int 23])) := by rw [← hV_V_5]; exact hu_o hH.ho hH.bo (by simp)
      have hH_gi'V_5 : V_5 b.gi = some (eI k 8 σ.G) := by rw [← hV_V_5]; exact hu_o hH.ho hH.gi (by simp)
      have hH_co'V_5 : V_5 b.co = some (.inr (2, [.ref b.ta, .int (nI σ.nl), .ref b.ro, .ref b.on, .ref b.re, .int σ.g])) := by rw [← hV_V_5]; exact hu_o hH.ho hH.co (by simp)
      have hH_ts_1'V_5 : V_5 b.ta = some (eTs k b.f) := by rw [← hV_V_5]; exact hu_o hH.ho hH.ts.1 (by simp)
      have hH_ac_1'V_5 : V_5 b.ac = some (eAs k b.fa) := by rw [← hV_V_5]; exact hu_o hH.ho hH.ac.1 (by simp)
      have hH_ve'V_5 : V_5 b.ve = some (eVs k b.fv) := by rw [← hV_V_5]; exact hu_o hH.ho hH.ve (by simp)
      have h_t'V_5 : V_5 t = some (.inr (0, [.ref (b.rg (hdN h)), .ref (b.sn (hdN h)), .int (σ.A (hdN h) 0), .int (σ.A (hdN h) 1)])) := by rw [← hV_V_5]; exact hu_o hH.ho h_t (by simp)
      have hs_t'V_5 : V_5 (b.sn (hdN h)) = some (.inr (4, [.ref (b.sa (hdN h))])) := by rw [← hV_V_5]; exact hu_o hH.ho hs_t (by simp)
      have hz_t'V_5 : V_5 (b.sa (hdN h)) = some (eI k 150 (σ.Z (hdN h))) := by rw [← hV_V_5]; exact hu_o hH.ho hz_t (by simp)
      have hbho'V_5 : V_5 b.ho = some (.inr (6, [.int (nI σ.nl), .ref b.bo, .ref b.gi, .ref b.co, .ref b.ta, .ref b.ac, .ref b.ve, .ref t, .int σ.rs])) := by rw [← hV_V_5]; exact hu_s
      refine lv_iload_n hx hb d_Ho_work_33 rfl (lv_at hl 0 rfl) ?_
      have hq := hs_wo hH (some (hdN h)) (fun j e => by cases e; exact ⟨hN10, t, hfa⟩)
      rw [show woA b (some (hdN h)) = some t from hfa] at hq
      have hio := wo_is hH hN10 hfa
      exact W.zret (v := 0) hx hb hr rfl (fun t9 ht hW => ⟨⟨0, V_5, rfl, ⟨W_keep hW0 (by rw [← hV_V_5]; exact hq) rfl rfl rfl rfl (fun i => ⟨rfl, rfl⟩), by rw [← hV_V_5]; exact hsFr_hu (by rw [hH.lab.l1]; omega), by rw [show decide ((some (hdN h)) = σ.wo) = true from decide_eq_true (hio.mp c_4.symm).symm]; rfl⟩, mB_of ht hV⟩, hS.F ht⟩) hS.2.2 d_Ho_work_34
    · refine lv_iconst (v := 1) hx hb d_Ho_work_22 (by decide) ?_
      refine lv_goto (tgt := 27) hx hb d_Ho_work_23 (by decide) ?_
      refine lv_istore_n (lv' := [(3, .int 1), (2, .ref t), (0, .ref b.ho), (1, .int h)]) hx hb d_Ho_work_27 rfl hl (by decide) rfl (fun ls hl => ?_)
      refine lv_aload_n hx hb d_Ho_work_28 rfl (lv_at hl 2 rfl) ?_
      refine lv_aload_n hx hb d_Ho_work_29 rfl (lv_at hl 1 rfl) ?_
      refine pf_Ho_37 (x := some t) hx hb hW hown hG hV hS hH.ho d_Ho_work_30 (fun H locs hV hS => ?_)
      replace hV : hv D vwCl N0 (hu V b.ho (.inr (6, [.int (nI σ.nl), .ref b.bo, .ref b.gi, .ref b.co, .ref b.ta, .ref b.ac, .ref b.ve, .ref t, .int σ.rs]))) H := hV
      generalize hV_V_6 : hu V b.ho (.inr (6, [.int (nI σ.nl), .ref b.bo, .ref b.gi, .ref b.co, .ref b.ta, .ref b.ac, .ref b.ve, .ref t, .int σ.rs])) = V_6 at hV
      have hH_bo'V_6 : V_6 b.bo = some (.inr (1, [.int 0, .int 0, .int 31, .int 23])) := by rw [← hV_V_6]; exact hu_o hH.ho hH.bo (by simp)
      have hH_gi'V_6 : V_6 b.gi = some (eI k 8 σ.G) := by rw [← hV_V_6]; exact hu_o hH.ho hH.gi (by simp)
      have hH_co'V_6 : V_6 b.co = some (.inr (2, [.ref b.ta, .int (nI σ.nl), .ref b.ro, .ref b.on, .ref b.re, .int σ.g])) := by rw [← hV_V_6]; exact hu_o hH.ho hH.co (by simp)
      have hH_ts_1'V_6 : V_6 b.ta = some (eTs k b.f) := by rw [← hV_V_6]; exact hu_o hH.ho hH.ts.1 (by simp)
      have hH_ac_1'V_6 : V_6 b.ac = some (eAs k b.fa) := by rw [← hV_V_6]; exact hu_o hH.ho hH.ac.1 (by simp)
      have hH_ve'V_6 : V_6 b.ve = some (eVs k b.fv) := by rw [← hV_V_6]; exact hu_o hH.ho hH.ve (by simp)
      have h_t'V_6 : V_6 t = some (.inr (0, [.ref (b.rg (hdN h)), .ref (b.sn (hdN h)), .int (σ.A (hdN h) 0), .int (σ.A (hdN h) 1)])) := by rw [← hV_V_6]; exact hu_o hH.ho h_t (by simp)
      have hs_t'V_6 : V_6 (b.sn (hdN h)) = some (.inr (4, [.ref (b.sa (hdN h))])) := by rw [← hV_V_6]; exact hu_o hH.ho hs_t (by simp)
      have hz_t'V_6 : V_6 (b.sa (hdN h)) = some (eI k 150 (σ.Z (hdN h))) := by rw [← hV_V_6]; exact hu_o hH.ho hz_t (by simp)
      have hbho'V_6 : V_6 b.ho = some (.inr (6, [.int (nI σ.nl), .ref b.bo, .ref b.gi, .ref b.co, .ref b.ta, .ref b.ac, .ref b.ve, .ref t, .int σ.rs])) := by rw [← hV_V_6]; exact hu_s
      refine lv_iload_n hx hb d_Ho_work_33 rfl (lv_at hl 0 rfl) ?_
      have hq := hs_wo hH (some (hdN h)) (fun j e => by cases e; exact ⟨hN10, t, hfa⟩)
      rw [show woA b (some (hdN h)) = some t from hfa] at hq
      have hio := wo_is hH hN10 hfa
      exact W.zret (v := 1) hx hb hr rfl (fun t9 ht hW => ⟨⟨1, V_6, rfl, ⟨W_keep hW0 (by rw [← hV_V_6]; exact hq) rfl rfl rfl rfl (fun i => ⟨rfl, rfl⟩), by rw [← hV_V_6]; exact hsFr_hu (by rw [hH.lab.l1]; omega), by rw [show decide ((some (hdN h)) = σ.wo) = false from decide_eq_false (fun q => c_4 (hio.mpr q.symm).symm)]; rfl⟩, mB_of ht hV⟩, hS.F ht⟩) hS.2.2 d_Ho_work_34
  · exact absurd c_1 hh0
set_option maxHeartbeats 4000000 in
set_option maxRecDepth 100000 in
/-- work: not given -/
theorem t_Ho_work1 (l : Launch) (hls : l.stackTraces = false) (D : va_G) (N0 : Nat) (k : Nat → Nat) (V : HV) (b : HA) (σ : HS) (hH : hsOk k V b σ) (h : Int32) (hh0 : ¬ h = 0) (hg : gvOk σ.G h = false) : hx_Met l y_Ho_work (.code y_Ho_work b_Ho_work 4 (some .boolean) :: WS) ({ frames := 8, cells := 1, slots := 6, locals := 134 }) (mP D N0 k [.ref b.ho, .int h] V) "java/lang/IndexOutOfBoundsException" (fun H9 => hv D vwCl N0 V H9) N0 1 6 := by
  refine hx_ofW (cc := b_Ho_work) (maxL := 4) (ret := (some .boolean)) (by decide) rfl ?_
  intro p e s m args below meth c s₁ B hml hno hv0
  obtain ⟨rfl, hG, hV⟩ := hv0
  have hx := B.exec
  have hb := B.bytes
  have hr := B.returns
  have hts := atoms_spec (ws := .code y_Ho_work b_Ho_work 4 (some .boolean) :: WS) B.pre
  have hW : ∀ w ∈ WS, w.before _ s = true := fun w h => hts w (List.mem_cons_of_mem _ h)
  have hown : s.vm.findClass "BoardHouse" = some m.cls := findClass_of_methodNamed B.named
  have hlocks := B.notSynchronized
  have hS : va_S (hA N0) s.heap s.heap [] := va_S.rf
  have hl := lv_entry ([.ref b.ho, .int h]) (n := 4) (Nat.le_of_ble_eq_true rfl)
  rw [lg_entry_eq]
  generalize (lg_sl ([.ref b.ho, .int h]) ++ List.replicate (4 - (lg_sl ([.ref b.ho, .int h])).length) Slot.unset).toArray = ls at hl ⊢
  have hl : lv_has ls 4 [(0, .ref b.ho), (1, .int h)] := hl
  refine lv_iload_n hx hb d_Ho_work_0 rfl (lv_at hl 1 rfl) ?_
  refine lv_if_ne (tgt := 8) hx hb d_Ho_work_1 (by decide) (fun c_1 => ?_) (fun c_1 => ?_)
  · refine lv_aload_n hx hb d_Ho_work_8 rfl (lv_at hl 0 rfl) ?_
    refine lv_iload_n hx hb d_Ho_work_9 rfl (lv_at hl 1 rfl) ?_
    exact hx_callOut (hx_runV (As := [.int h]) (rest := []) ⟨hx, hb, hml, hown, hts⟩ (t_Ho_demandOpenAct1 l hls D N0 k V b σ hH h hg) (cwV 1 hts (gi_V wm_Ho_197 wv_Ho_demandOpenAct ws_Ho_demandOpenAct wi_Ho wc_Ho_demandOpenAct) rfl rfl rfl (by decide +kernel) ⟨Nat.le_of_ble_eq_true rfl, Nat.le_of_ble_eq_true rfl⟩) (mP.preV hG hS hV hH.ho rfl) rfl rfl hl.1 rfl (lv_room (Nat.le_of_ble_eq_true rfl)) d_Ho_work_10 ⟨Nat.le_of_ble_eq_true rfl, Nat.le_of_ble_eq_true rfl⟩) hno hlocks hS (Nat.le_of_ble_eq_true rfl) (Nat.le_of_ble_eq_true rfl)
  · exact absurd c_1 hh0
set_option maxHeartbeats 4000000 in
set_option maxRecDepth 100000 in
/-- work: not an act -/
theorem t_Ho_work2 (l : Launch) (hls : l.stackTraces = false) (D : va_G) (N0 : Nat) (k : Nat → Nat) (V : HV) (b : HA) (σ : HS) (hH : hsOk k V b σ) (h : Int32) (hh0 : ¬ h = 0) (hg : gvOk σ.G h = true) (hk6 : ¬ h / 1000 = 6) : hx_Met l y_Ho_work (.code y_Ho_work b_Ho_work 4 (some .boolean) :: WS) ({ frames := 8, cells := 1, slots := 6, locals := 134 }) (mP D N0 k [.ref b.ho, .int h] V) "java/lang/IllegalArgumentException" (fun H9 => hv D vwCl N0 V H9) N0 1 6 := by
  refine hx_ofW (cc := b_Ho_work) (maxL := 4) (ret := (some .boolean)) (by decide) rfl ?_
  intro p e s m args below meth c s₁ B hml hno hv0
  obtain ⟨rfl, hG, hV⟩ := hv0
  have hx := B.exec
  have hb := B.bytes
  have hr := B.returns
  have hts := atoms_spec (ws := .code y_Ho_work b_Ho_work 4 (some .boolean) :: WS) B.pre
  have hW : ∀ w ∈ WS, w.before _ s = true := fun w h => hts w (List.mem_cons_of_mem _ h)
  have hown : s.vm.findClass "BoardHouse" = some m.cls := findClass_of_methodNamed B.named
  have hlocks := B.notSynchronized
  have hS : va_S (hA N0) s.heap s.heap [] := va_S.rf
  have hl := lv_entry ([.ref b.ho, .int h]) (n := 4) (Nat.le_of_ble_eq_true rfl)
  rw [lg_entry_eq]
  generalize (lg_sl ([.ref b.ho, .int h]) ++ List.replicate (4 - (lg_sl ([.ref b.ho, .int h])).length) Slot.unset).toArray = ls at hl ⊢
  have hl : lv_has ls 4 [(0, .ref b.ho), (1, .int h)] := hl
  refine lv_iload_n hx hb d_Ho_work_0 rfl (lv_at hl 1 rfl) ?_
  refine lv_if_ne (tgt := 8) hx hb d_Ho_work_1 (by decide) (fun c_1 => ?_) (fun c_1 => ?_)
  · refine lv_aload_n hx hb d_Ho_work_8 rfl (lv_at hl 0 rfl) ?_
    refine lv_iload_n hx hb d_Ho_work_9 rfl (lv_at hl 1 rfl) ?_
    exact hx_callOut (hx_runV (As := [.int h]) (rest := []) ⟨hx, hb, hml, hown, hts⟩ (t_Ho_demandOpenAct2 l hls D N0 k V b σ hH h hg hk6) (cwV 1 hts (gi_V wm_Ho_197 wv_Ho_demandOpenAct ws_Ho_demandOpenAct wi_Ho wc_Ho_demandOpenAct) rfl rfl rfl (by decide +kernel) ⟨Nat.le_of_ble_eq_true rfl, Nat.le_of_ble_eq_true rfl⟩) (mP.preV hG hS hV hH.ho rfl) rfl rfl hl.1 rfl (lv_room (Nat.le_of_ble_eq_true rfl)) d_Ho_work_10 ⟨Nat.le_of_ble_eq_true rfl, Nat.le_of_ble_eq_true rfl⟩) hno hlocks hS (Nat.le_of_ble_eq_true rfl) (Nat.le_of_ble_eq_true rfl)
  · exact absurd c_1 hh0
set_option maxHeartbeats 4000000 in
set_option maxRecDepth 100000 in
/-- work: not open -/
theorem t_Ho_work3 (l : Launch) (hls : l.stackTraces = false) (D : va_G) (N0 : Nat) (k : Nat → Nat) (V : HV) (b : HA) (σ : HS) (hW0 : hsW k V b σ) (h : Int32) (hh0 : ¬ h = 0) (hg : gvOk σ.G h = true) (hk6 : h / 1000 = 6) (hop : σ.A (hdN h) 0 = 0) : hx_Met l y_Ho_work (.code y_Ho_work b_Ho_work 4 (some .boolean) :: WS) ({ frames := 8, cells := 1, slots := 6, locals := 134 }) (mP D N0 k [.ref b.ho, .int h] V) "java/lang/IllegalStateException" (fun H9 => hv D vwCl N0 V H9) N0 1 6 := by
  refine hx_ofW (cc := b_Ho_work) (maxL := 4) (ret := (some .boolean)) (by decide) rfl ?_
  intro p e s m args below meth c s₁ B hml hno hv0
  obtain ⟨rfl, hG, hV⟩ := hv0
  have hx := B.exec
  have hb := B.bytes
  have hr := B.returns
  have hts := atoms_spec (ws := .code y_Ho_work b_Ho_work 4 (some .boolean) :: WS) B.pre
  have hW : ∀ w ∈ WS, w.before _ s = true := fun w h => hts w (List.mem_cons_of_mem _ h)
  have hown : s.vm.findClass "BoardHouse" = some m.cls := findClass_of_methodNamed B.named
  have hlocks := B.notSynchronized
  have hS : va_S (hA N0) s.heap s.heap [] := va_S.rf
  have hl := lv_entry ([.ref b.ho, .int h]) (n := 4) (Nat.le_of_ble_eq_true rfl)
  rw [lg_entry_eq]
  generalize (lg_sl ([.ref b.ho, .int h]) ++ List.replicate (4 - (lg_sl ([.ref b.ho, .int h])).length) Slot.unset).toArray = ls at hl ⊢
  have hl : lv_has ls 4 [(0, .ref b.ho), (1, .int h)] := hl
  have hH := hW0.1
  obtain ⟨eN, hN10, t, hfa⟩ := act_of hW0 hg hk6
  obtain ⟨h_t, hr_t, hs_t, hz_t⟩ := hH.ac.2.1 (hdN h) t hN10 hfa
  refine lv_iload_n hx hb d_Ho_work_0 rfl (lv_at hl 1 rfl) ?_
  refine lv_if_ne (tgt := 8) hx hb d_Ho_work_1 (by decide) (fun c_1 => ?_) (fun c_1 => ?_)
  · refine lv_aload_n hx hb d_Ho_work_8 rfl (lv_at hl 0 rfl) ?_
    refine lv_iload_n hx hb d_Ho_work_9 rfl (lv_at hl 1 rfl) ?_
    exact hx_callOut (hx_runV (As := [.int h]) (rest := []) ⟨hx, hb, hml, hown, hts⟩ (t_Ho_demandOpenAct3 l hls D N0 k V b σ hH h hg hk6 (hdN h) t eN hN10 hfa hop) (cwV 1 hts (gi_V wm_Ho_197 wv_Ho_demandOpenAct ws_Ho_demandOpenAct wi_Ho wc_Ho_demandOpenAct) rfl rfl rfl (by decide +kernel) ⟨Nat.le_of_ble_eq_true rfl, Nat.le_of_ble_eq_true rfl⟩) (mP.preV hG hS hV hH.ho rfl) rfl rfl hl.1 rfl (lv_room (Nat.le_of_ble_eq_true rfl)) d_Ho_work_10 ⟨Nat.le_of_ble_eq_true rfl, Nat.le_of_ble_eq_true rfl⟩) hno hlocks hS (Nat.le_of_ble_eq_true rfl) (Nat.le_of_ble_eq_true rfl)
  · exact absurd c_1 hh0
set_option maxHeartbeats 4000000 in
set_option maxRecDepth 100000 in
/-- end -/
theorem c_Ho_end (l : Launch) (D : va_G) (N0 : Nat) (k : Nat → Nat) (V : HV) (b : HA) (σ : HS) (hW0 : hsW k V b σ) (h : Int32) (kp : Int32) (hg : gvOk σ.G h = true) (hk6 : h / 1000 = 6) (hop : ¬ σ.A (hdN h) 0 = 0) : Met l y_Ho_end (.code y_Ho_end b_Ho_end 4 (some .int) :: WS) ({ frames := 8, cells := 0, slots := 0, locals := 134 }) (mP D N0 k [.ref b.ho, .int h, .int kp] V) (va_Qi (fun r V' => hsW k V' b (edS σ (hdN h) kp) ∧ hsFr b b V V' ∧ r = σ.A (hdN h) 1) (mB D N0) (hA N0)) 0 0 (hA N0) := by
  refine Met.ofW (cc := b_Ho_end) (maxL := 4) (ret := (some .int)) (by decide) rfl ?_
  intro p e s m args below meth c s₁ B hml hv0
  obtain ⟨rfl, hG, hV⟩ := hv0
  have hx := B.exec
  have hb := B.bytes
  have hr := B.returns
  have hts := atoms_spec (ws := .code y_Ho_end b_Ho_end 4 (some .int) :: WS) B.pre
  have hW : ∀ w ∈ WS, w.before _ s = true := fun w h => hts w (List.mem_cons_of_mem _ h)
  have hown : s.vm.findClass "BoardHouse" = some m.cls := findClass_of_methodNamed B.named
  have hlocks := B.notSynchronized
  have hS : va_S (hA N0) s.heap s.heap [] := va_S.rf
  have hl := lv_entry ([.ref b.ho, .int h, .int kp]) (n := 4) (Nat.le_of_ble_eq_true rfl)
  rw [lg_entry_eq]
  generalize (lg_sl ([.ref b.ho, .int h, .int kp]) ++ List.replicate (4 - (lg_sl ([.ref b.ho, .int h, .int kp])).length) Slot.unset).toArray = ls at hl ⊢
  have hl : lv_has ls 4 [(0, .ref b.ho), (1, .int h), (2, .int kp)] := hl
  have hH := hW0.1
  obtain ⟨eN, hN10, t, hfa⟩ := act_of hW0 hg hk6
  obtain ⟨h_t, hr_t, hs_t, hz_t⟩ := hH.ac.2.1 (hdN h) t hN10 hfa
  refine lv_aload_n hx hb d_Ho_end_0 rfl (lv_at hl 0 rfl) ?_
  refine lv_iload_n hx hb d_Ho_end_1 rfl (lv_at hl 1 rfl) ?_
  refine va_csq (va_Run.run (va_runV (As := [.int h]) (rest := []) ⟨hx, hb, hml, hown, hts⟩ (r_Ho_demandOpenAct l D N0 k V b σ hH h hg hk6 (hdN h) t eN hN10 hfa hop) (cwV 1 hts (gi_V wm_Ho_197 wv_Ho_demandOpenAct ws_Ho_demandOpenAct wi_Ho wc_Ho_demandOpenAct) rfl rfl rfl (by decide +kernel) ⟨Nat.le_of_ble_eq_true rfl, Nat.le_of_ble_eq_true rfl⟩) (mP.preV hG hS hV hH.ho rfl) rfl rfl hl.1 rfl (lv_room (Nat.le_of_ble_eq_true rfl)) d_Ho_end_2 ⟨Nat.le_of_ble_eq_true rfl, Nat.le_of_ble_eq_true rfl⟩)) (fun r_1 hp_2 => ?_)
  subst hp_2
  refine W.eq (g2 := F0 m 5 ls [.ref t]) rfl ?_
  refine lv_astore_n (lv' := [(3, .ref t), (0, .ref b.ho), (1, .int h), (2, .int kp)]) hx hb d_Ho_end_5 rfl hl (by decide) rfl (fun ls hl => ?_)
  refine lv_iload_n hx hb d_Ho_end_6 rfl (lv_at hl 3 rfl) ?_
  refine lv_if_ne (tgt := 21) hx hb d_Ho_end_7 (by decide) (fun c_3 => ?_) (fun c_3 => ?_)
  · refine lv_aload_n hx hb d_Ho_end_21 rfl (lv_at hl 0 rfl) ?_
    refine lv_iconst (v := 0) hx hb d_Ho_end_22 (by decide) ?_
    refine pf_Ho_209 hx hb hW hown hG hV hS h_t (by decide) d_Ho_end_23 (fun H locs hV hS => ?_)
    replace hV : hv D vwCl N0 (hu V t (.inr (0, [.ref (b.rg (hdN h)), .ref (b.sn (hdN h)), .int 0, .int (σ.A (hdN h) 1)]))) H := hV
    generalize hV_V_4 : hu V t (.inr (0, [.ref (b.rg (hdN h)), .ref (b.sn (hdN h)), .int 0, .int (σ.A (hdN h) 1)])) = V_4 at hV
    have hH_ho'V_4 : V_4 b.ho = some (.inr (6, [.int (nI σ.nl), .ref b.bo, .ref b.gi, .ref b.co, .ref b.ta, .ref b.ac, .ref b.ve, va_rf (woA b σ.wo), .int σ.rs])) := by rw [← hV_V_4]; exact hu_o h_t hH.ho (by simp)
    have hH_bo'V_4 : V_4 b.bo = some (.inr (1, [.int 0, .int 0, .int 31, .int 23])) := by rw [← hV_V_4]; exact hu_o h_t hH.bo (by simp)
    have hH_gi'V_4 : V_4 b.gi = some (eI k 8 σ.G) := by rw [← hV_V_4]; exact hu_o h_t hH.gi (by simp)
    have hH_co'V_4 : V_4 b.co = some (.inr (2, [.ref b.ta, .int (nI σ.nl), .ref b.ro, .ref b.on, .ref b.re, .int σ.g])) := by rw [← hV_V_4]; exact hu_o h_t hH.co (by simp)
    have hH_ts_1'V_4 : V_4 b.ta = some (eTs k b.f) := by rw [← hV_V_4]; exact hu_o h_t hH.ts.1 (by simp)
    have hH_ac_1'V_4 : V_4 b.ac = some (eAs k b.fa) := by rw [← hV_V_4]; exact hu_o h_t hH.ac.1 (by simp)
    have hH_ve'V_4 : V_4 b.ve = some (eVs k b.fv) := by rw [← hV_V_4]; exact hu_o h_t hH.ve (by simp)
    have hs_t'V_4 : V_4 (b.sn (hdN h)) = some (.inr (4, [.ref (b.sa (hdN h))])) := by rw [← hV_V_4]; exact hu_o h_t hs_t (by simp)
    have hz_t'V_4 : V_4 (b.sa (hdN h)) = some (eI k 150 (σ.Z (hdN h))) := by rw [← hV_V_4]; exact hu_o h_t hz_t (by simp)
    have ht'V_4 : V_4 t = some (.inr (0, [.ref (b.rg (hdN h)), .ref (b.sn (hdN h)), .int 0, .int (σ.A (hdN h) 1)])) := by rw [← hV_V_4]; exact hu_s
    have hq3 := hs_act hH hN10 hfa (upd (σ.A (hdN h)) 0 0) (fun q hq => up_n (by omega))
    rw [up_s, up_n (show (1 : Nat) ≠ 0 by omega)] at hq3
    have hH3 : hsOk k V_4 b (σ.wA (updT σ.A (hdN h) (upd (σ.A (hdN h)) 0 0))) := by rw [← hV_V_4]; exact hq3
    have hF3 : hsFr b b V V_4 := by rw [← hV_V_4]; exact hsFr.tr (hsFr.rf (a := b) (V := V)) (hsFr_hu (by rw [(hH.lab.la (hdN h) t hN10 hfa).1]; omega))
    refine lv_aload_n hx hb d_Ho_end_26 rfl (lv_at hl 1 rfl) ?_
    refine gf_Ho_37 hx hb hW hown hG hV hH_ho'V_4 d_Ho_end_27 ?_
    refine lv_aload_n hx hb d_Ho_end_30 rfl (lv_at hl 0 rfl) ?_
    refine lv_acmp_ne (rx := (woA b σ.wo)) (ry := some t) (tgt := 39) hx hb d_Ho_end_31 (by decide) (fun c_5 => ?_) (fun c_5 => ?_)
    · refine lv_aload_n hx hb d_Ho_end_39 rfl (lv_at hl 0 rfl) ?_
      refine gf_Ho_212 hx hb hW hown hG hV ht'V_4 d_Ho_end_40 ?_
      have hio := wo_is hH hN10 hfa
      exact W.iret (v := (σ.A (hdN h) 1)) hx hb hr (fun t9 ht hW => ⟨⟨(σ.A (hdN h) 1), V_4, rfl, ⟨by rw [edS, if_neg c_3, if_neg (fun q => c_5 (hio.mpr q))]; exact W_keep hW0 (hs_same_wo hH3) rfl rfl rfl rfl (fun i => ⟨rfl, rfl⟩), hF3, rfl⟩, mB_of ht hV⟩, hS.F ht⟩) hS.2.2 d_Ho_end_43
    · refine lv_aload_n hx hb d_Ho_end_34 rfl (lv_at hl 1 rfl) ?_
      refine lv_null hx hb d_Ho_end_35 ?_
      refine pf_Ho_37 (x := none) hx hb hW hown hG hV hS hH_ho'V_4 d_Ho_end_36 (fun H locs hV hS => ?_)
      replace hV : hv D vwCl N0 (hu V_4 b.ho (.inr (6, [.int (nI σ.nl), .ref b.bo, .ref b.gi, .ref b.co, .ref b.ta, .ref b.ac, .ref b.ve, .null, .int σ.rs]))) H := hV
      generalize hV_V_6 : hu V_4 b.ho (.inr (6, [.int (nI σ.nl), .ref b.bo, .ref b.gi, .ref b.co, .ref b.ta, .ref b.ac, .ref b.ve, .null, .int σ.rs])) = V_6 at hV
      have hH_bo'V_6 : V_6 b.bo = some (.inr (1, [.int 0, .int 0, .int 31, .int 23])) := by rw [← hV_V_6]; exact hu_o hH_ho'V_4 hH_bo'V_4 (by simp)
      have hH_gi'V_6 : V_6 b.gi = some (eI k 8 σ.G) := by rw [← hV_V_6]; exact hu_o hH_ho'V_4 hH_gi'V_4 (by simp)
      have hH_co'V_6 : V_6 b.co = some (.inr (2, [.ref b.ta, .int (nI σ.nl), .ref b.ro, .ref b.on, .ref b.re, .int σ.g])) := by rw [← hV_V_6]; exact hu_o hH_ho'V_4 hH_co'V_4 (by simp)
      have hH_ts_1'V_6 : V_6 b.ta = some (eTs k b.f) := by rw [← hV_V_6]; exact hu_o hH_ho'V_4 hH_ts_1'V_4 (by simp)
      have hH_ac_1'V_6 : V_6 b.ac = some (eAs k b.fa) := by rw [← hV_V_6]; exact hu_o hH_ho'V_4 hH_ac_1'V_4 (by simp)
      have hH_ve'V_6 : V_6 b.ve = some (eVs k b.fv) := by rw [← hV_V_6]; exact hu_o hH_ho'V_4 hH_ve'V_4 (by simp)
      have hs_t'V_6 : V_6 (b.sn (hdN h)) = some (.inr (4, [.ref (b.sa (hdN h))])) := by rw [← hV_V_6]; exact hu_o hH_ho'V_4 hs_t'V_4 (by simp)
      have hz_t'V_6 : V_6 (b.sa (hdN h)) = some (eI k 150 (σ.Z (hdN h))) := by rw [← hV_V_6]; exact hu_o hH_ho'V_4 hz_t'V_4 (by simp)
      have ht'V_6 : V_6 t = some (.inr (0, [.ref (b.rg (hdN h)), .ref (b.sn (hdN h)), .int 0, .int (σ.A (hdN h) 1)])) := by rw [← hV_V_6]; exact hu_o hH_ho'V_4 ht'V_4 (by simp)
      have hbho'V_6 : V_6 b.ho = some (.inr (6, [.int (nI σ.nl), .ref b.bo, .ref b.gi, .ref b.co, .ref b.ta, .ref b.ac, .ref b.ve, .null, .int σ.rs])) := by rw [← hV_V_6]; exact hu_s
      refine lv_aload_n hx hb d_Ho_end_39 rfl (lv_at hl 0 rfl) ?_
      refine gf_Ho_212 hx hb hW hown hG hV ht'V_6 d_Ho_end_40 ?_
      have hio := wo_is hH hN10 hfa
      have hq4 := hs_wo hH3 none (fun j e => by cases e)
      have hH4 : hsOk k V_6 b ((σ.wA (updT σ.A (hdN h) (upd (σ.A (hdN h)) 0 0))).wwo none) := by rw [← hV_V_6]; exact hq4
      have hF4 : hsFr b b V V_6 := by rw [← hV_V_6]; exact hF3.tr (hsFr_hu (by rw [hH.lab.l1]; omega))
      exact W.iret (v := (σ.A (hdN h) 1)) hx hb hr (fun t9 ht hW => ⟨⟨(σ.A (hdN h) 1), V_6, rfl, ⟨by rw [edS, if_neg c_3, if_pos (hio.mp c_5)]; exact W_keep hW0 hH4 rfl rfl rfl rfl (fun i => ⟨rfl, rfl⟩), hF4, rfl⟩, mB_of ht hV⟩, hS.F ht⟩) hS.2.2 d_Ho_end_43
  · refine lv_aload_n hx hb d_Ho_end_10 rfl (lv_at hl 0 rfl) ?_
    refine gf_Ho_201 hx hb hW hown hG hV h_t d_Ho_end_11 ?_
    refine lv_aload_n hx hb d_Ho_end_14 rfl (lv_at hl 1 rfl) ?_
    refine gf_Ho_70 hx hb hW hown hG hV hH.ho d_Ho_end_15 ?_
    refine rc_V (va_runV (As := [.ref b.ta]) (rest := []) ⟨hx, hb, hml, hown, hts⟩ (c_Sn_restoreKnown l D N0 k V (b.sn (hdN h)) (b.sa (hdN h)) (σ.Z (hdN h)) hs_t hz_t b.ta b.f b.ar σ.T hH.ts (slOk_of hW0.2.1 hW0.2.2.2) (tsIn_of hH.lab)) (cwV 1 hts (gi_V wm_Ho_205 wv_Sn_restoreKnown ws_Sn_restoreKnown wi_Sn wc_Sn_restoreKnown) rfl rfl rfl (by decide +kernel) ⟨Nat.le_of_ble_eq_true rfl, Nat.le_of_ble_eq_true rfl⟩) (mP.preV hG hS hV hs_t rfl) rfl rfl hl.1 rfl (lv_room (Nat.le_of_ble_eq_true rfl)) d_Ho_end_18 ⟨Nat.le_of_ble_eq_true rfl, Nat.le_of_ble_eq_true rfl⟩) hS (fun V_7 H locs hp_8 hV hS => ?_)
    obtain ⟨T1, hT1, hF1, eT1⟩ := hp_8
    obtain ⟨hHa, hFa⟩ := hs_all hH hT1 hF1
    have hHe : hsOk k V_7 b (σ.wT (edT σ (hdN h))) := hs_extT hHa (edT_eq hW0.2.1 eT1)
    obtain ⟨h_t2, -⟩ := hHe.ac.2.1 (hdN h) t hN10 hfa
    have h_t2 : V_7 t = some (eAc (b.rg (hdN h)) (b.sn (hdN h)) (σ.A (hdN h) 0) (σ.A (hdN h) 1)) := h_t2
    have hho2 : V_7 b.ho = some (eHo (nI σ.nl) b.bo b.gi b.co b.ta b.ac b.ve (woA b σ.wo) σ.rs) := hHe.ho
    refine lv_aload_n hx hb d_Ho_end_21 rfl (lv_at hl 0 rfl) ?_
    refine lv_iconst (v := 0) hx hb d_Ho_end_22 (by decide) ?_
    refine pf_Ho_209 hx hb hW hown hG hV hS h_t2 (by decide) d_Ho_end_23 (fun H locs hV hS => ?_)
    replace hV : hv D vwCl N0 (hu V_7 t (.inr (0, [.ref (b.rg (hdN h)), .ref (b.sn (hdN h)), .int 0, .int (σ.A (hdN h) 1)]))) H := hV
    generalize hV_V_9 : hu V_7 t (.inr (0, [.ref (b.rg (hdN h)), .ref (b.sn (hdN h)), .int 0, .int (σ.A (hdN h) 1)])) = V_9 at hV
    have hho2'V_9 : V_9 b.ho = some (.inr (6, [.int (nI σ.nl), .ref b.bo, .ref b.gi, .ref b.co, .ref b.ta, .ref b.ac, .ref b.ve, va_rf (woA b σ.wo), .int σ.rs])) := by rw [← hV_V_9]; exact hu_o h_t2 hho2 (by simp)
    have ht'V_9 : V_9 t = some (.inr (0, [.ref (b.rg (hdN h)), .ref (b.sn (hdN h)), .int 0, .int (σ.A (hdN h) 1)])) := by rw [← hV_V_9]; exact hu_s
    have hq3 := hs_act hHe hN10 hfa (upd (σ.A (hdN h)) 0 0) (fun q hq => up_n (by omega))
    rw [up_s, up_n (show (1 : Nat) ≠ 0 by omega)] at hq3
    have hH3 : hsOk k V_9 b ((σ.wT (edT σ (hdN h))).wA (updT σ.A (hdN h) (upd (σ.A (hdN h)) 0 0))) := by rw [← hV_V_9]; exact hq3
    have hF3 : hsFr b b V V_9 := by rw [← hV_V_9]; exact hsFr.tr (hFa) (hsFr_hu (by rw [(hH.lab.la (hdN h) t hN10 hfa).1]; omega))
    refine lv_aload_n hx hb d_Ho_end_26 rfl (lv_at hl 1 rfl) ?_
    refine gf_Ho_37 hx hb hW hown hG hV hho2'V_9 d_Ho_end_27 ?_
    refine lv_aload_n hx hb d_Ho_end_30 rfl (lv_at hl 0 rfl) ?_
    refine lv_acmp_ne (rx := (woA b σ.wo)) (ry := some t) (tgt := 39) hx hb d_Ho_end_31 (by decide) (fun c_10 => ?_) (fun c_10 => ?_)
    · refine lv_aload_n hx hb d_Ho_end_39 rfl (lv_at hl 0 rfl) ?_
      refine gf_Ho_212 hx hb hW hown hG hV ht'V_9 d_Ho_end_40 ?_
      have hio := wo_is hH hN10 hfa
      exact W.iret (v := (σ.A (hdN h) 1)) hx hb hr (fun t9 ht hW => ⟨⟨(σ.A (hdN h) 1), V_9, rfl, ⟨by rw [edS, if_pos c_3, if_neg (fun q => c_10 (hio.mpr q))]; exact W_keep hW0 (hs_same_wo hH3) rfl rfl rfl rfl (fun i => ⟨edT_lo (by omega), edT_lo (by omega)⟩), hF3, rfl⟩, mB_of ht hV⟩, hS.F ht⟩) hS.2.2 d_Ho_end_43
    · refine lv_aload_n hx hb d_Ho_end_34 rfl (lv_at hl 1 rfl) ?_
      refine lv_null hx hb d_Ho_end_35 ?_
      refine pf_Ho_37 (x := none) hx hb hW hown hG hV hS hho2'V_9 d_Ho_end_36 (fun H locs hV hS => ?_)
      replace hV : hv D vwCl N0 (hu V_9 b.ho (.inr (6, [.int (nI σ.nl), .ref b.bo, .ref b.gi, .ref b.co, .ref b.ta, .ref b.ac, .ref b.ve, .null, .int σ.rs]))) H := hV
      generalize hV_V_11 : hu V_9 b.ho (.inr (6, [.int (nI σ.nl), .ref b.bo, .ref b.gi, .ref b.co, .ref b.ta, .ref b.ac, .ref b.ve, .null, .int σ.rs])) = V_11 at hV
      have ht'V_11 : V_11 t = some (.inr (0, [.ref (b.rg (hdN h)), .ref (b.sn (hdN h)), .int 0, .int (σ.A (hdN h) 1)])) := by rw [← hV_V_11]; exact hu_o hho2'V_9 ht'V_9 (by simp)
      have hbho'V_11 : V_11 b.ho = some (.inr (6, [.int (nI σ.nl), .ref b.bo, .ref b.gi, .ref b.co, .ref b.ta, .ref b.ac, .ref b.ve, .null, .int σ.rs])) := by rw [← hV_V_11]; exact hu_s
      refine lv_aload_n hx hb d_Ho_end_39 rfl (lv_at hl 0 rfl) ?_
      refine gf_Ho_212 hx hb hW hown hG hV ht'V_11 d_Ho_end_40 ?_
      have hio := wo_is hH hN10 hfa
      have hq4 := hs_wo hH3 none (fun j e => by cases e)
      have hH4 : hsOk k V_11 b (((σ.wT (edT σ (hdN h))).wA (updT σ.A (hdN h) (upd (σ.A (hdN h)) 0 0))).wwo none) := by rw [← hV_V_11]; exact hq4
      have hF4 : hsFr b b V V_11 := by rw [← hV_V_11]; exact hF3.tr (hsFr_hu (by rw [hH.lab.l1]; omega))
      exact W.iret (v := (σ.A (hdN h) 1)) hx hb hr (fun t9 ht hW => ⟨⟨(σ.A (hdN h) 1), V_11, rfl, ⟨by rw [edS, if_pos c_3, if_pos (hio.mp c_10)]; exact W_keep hW0 hH4 rfl rfl rfl rfl (fun i => ⟨edT_lo (by omega), edT_lo (by omega)⟩), hF4, rfl⟩, mB_of ht hV⟩, hS.F ht⟩) hS.2.2 d_Ho_end_43
set_option maxHeartbeats 4000000 in
set_option maxRecDepth 100000 in
/-- end: not given -/
theorem t_Ho_end1 (l : Launch) (hls : l.stackTraces = false) (D : va_G) (N0 : Nat) (k : Nat → Nat) (V : HV) (b : HA) (σ : HS) (hH : hsOk k V b σ) (h : Int32) (kp : Int32) (hg : gvOk σ.G h = false) : hx_Met l y_Ho_end (.code y_Ho_end b_Ho_end 4 (some .int) :: WS) ({ frames := 8, cells := 1, slots := 6, locals := 134 }) (mP D N0 k [.ref b.ho, .int h, .int kp] V) "java/lang/IndexOutOfBoundsException" (fun H9 => hv D vwCl N0 V H9) N0 1 6 := by
  refine hx_ofW (cc := b_Ho_end) (maxL := 4) (ret := (some .int)) (by decide) rfl ?_
  intro p e s m args below meth c s₁ B hml hno hv0
  obtain ⟨rfl, hG, hV⟩ := hv0
  have hx := B.exec
  have hb := B.bytes
  have hr := B.returns
  have hts := atoms_spec (ws := .code y_Ho_end b_Ho_end 4 (some .int) :: WS) B.pre
  have hW : ∀ w ∈ WS, w.before _ s = true := fun w h => hts w (List.mem_cons_of_mem _ h)
  have hown : s.vm.findClass "BoardHouse" = some m.cls := findClass_of_methodNamed B.named
  have hlocks := B.notSynchronized
  have hS : va_S (hA N0) s.heap s.heap [] := va_S.rf
  have hl := lv_entry ([.ref b.ho, .int h, .int kp]) (n := 4) (Nat.le_of_ble_eq_true rfl)
  rw [lg_entry_eq]
  generalize (lg_sl ([.ref b.ho, .int h, .int kp]) ++ List.replicate (4 - (lg_sl ([.ref b.ho, .int h, .int kp])).length) Slot.unset).toArray = ls at hl ⊢
  have hl : lv_has ls 4 [(0, .ref b.ho), (1, .int h), (2, .int kp)] := hl
  refine lv_aload_n hx hb d_Ho_end_0 rfl (lv_at hl 0 rfl) ?_
  refine lv_iload_n hx hb d_Ho_end_1 rfl (lv_at hl 1 rfl) ?_
  exact hx_callOut (hx_runV (As := [.int h]) (rest := []) ⟨hx, hb, hml, hown, hts⟩ (t_Ho_demandOpenAct1 l hls D N0 k V b σ hH h hg) (cwV 1 hts (gi_V wm_Ho_197 wv_Ho_demandOpenAct ws_Ho_demandOpenAct wi_Ho wc_Ho_demandOpenAct) rfl rfl rfl (by decide +kernel) ⟨Nat.le_of_ble_eq_true rfl, Nat.le_of_ble_eq_true rfl⟩) (mP.preV hG hS hV hH.ho rfl) rfl rfl hl.1 rfl (lv_room (Nat.le_of_ble_eq_true rfl)) d_Ho_end_2 ⟨Nat.le_of_ble_eq_true rfl, Nat.le_of_ble_eq_true rfl⟩) hno hlocks hS (Nat.le_of_ble_eq_true rfl) (Nat.le_of_ble_eq_true rfl)
set_option maxHeartbeats 4000000 in
set_option maxRecDepth 100000 in
/-- end: not an act -/
theorem t_Ho_end2 (l : Launch) (hls : l.stackTraces = false) (D : va_G) (N0 : Nat) (k : Nat → Nat) (V : HV) (b : HA) (σ : HS) (hH : hsOk k V b σ) (h : Int32) (kp : Int32) (hg : gvOk σ.G h = true) (hk6 : ¬ h / 1000 = 6) : hx_Met l y_Ho_end (.code y_Ho_end b_Ho_end 4 (some .int) :: WS) ({ frames := 8, cells := 1, slots := 6, locals := 134 }) (mP D N0 k [.ref b.ho, .int h, .int kp] V) "java/lang/IllegalArgumentException" (fun H9 => hv D vwCl N0 V H9) N0 1 6 := by
  refine hx_ofW (cc := b_Ho_end) (maxL := 4) (ret := (some .int)) (by decide) rfl ?_
  intro p e s m args below meth c s₁ B hml hno hv0
  obtain ⟨rfl, hG, hV⟩ := hv0
  have hx := B.exec
  have hb := B.bytes
  have hr := B.returns
  have hts := atoms_spec (ws := .code y_Ho_end b_Ho_end 4 (some .int) :: WS) B.pre
  have hW : ∀ w ∈ WS, w.before _ s = true := fun w h => hts w (List.mem_cons_of_mem _ h)
  have hown : s.vm.findClass "BoardHouse" = some m.cls := findClass_of_methodNamed B.named
  have hlocks := B.notSynchronized
  have hS : va_S (hA N0) s.heap s.heap [] := va_S.rf
  have hl := lv_entry ([.ref b.ho, .int h, .int kp]) (n := 4) (Nat.le_of_ble_eq_true rfl)
  rw [lg_entry_eq]
  generalize (lg_sl ([.ref b.ho, .int h, .int kp]) ++ List.replicate (4 - (lg_sl ([.ref b.ho, .int h, .int kp])).length) Slot.unset).toArray = ls at hl ⊢
  have hl : lv_has ls 4 [(0, .ref b.ho), (1, .int h), (2, .int kp)] := hl
  refine lv_aload_n hx hb d_Ho_end_0 rfl (lv_at hl 0 rfl) ?_
  refine lv_iload_n hx hb d_Ho_end_1 rfl (lv_at hl 1 rfl) ?_
  exact hx_callOut (hx_runV (As := [.int h]) (rest := []) ⟨hx, hb, hml, hown, hts⟩ (t_Ho_demandOpenAct2 l hls D N0 k V b σ hH h hg hk6) (cwV 1 hts (gi_V wm_Ho_197 wv_Ho_demandOpenAct ws_Ho_demandOpenAct wi_Ho wc_Ho_demandOpenAct) rfl rfl rfl (by decide +kernel) ⟨Nat.le_of_ble_eq_true rfl, Nat.le_of_ble_eq_true rfl⟩) (mP.preV hG hS hV hH.ho rfl) rfl rfl hl.1 rfl (lv_room (Nat.le_of_ble_eq_true rfl)) d_Ho_end_2 ⟨Nat.le_of_ble_eq_true rfl, Nat.le_of_ble_eq_true rfl⟩) hno hlocks hS (Nat.le_of_ble_eq_true rfl) (Nat.le_of_ble_eq_true rfl)
set_option maxHeartbeats 4000000 in
set_option maxRecDepth 100000 in
/-- end: not open -/
theorem t_Ho_end3 (l : Launch) (hls : l.stackTraces = false) (D : va_G) (N0 : Nat) (k : Nat → Nat) (V : HV) (b : HA) (σ : HS) (hW0 : hsW k V b σ) (h : Int32) (kp : Int32) (hg : gvOk σ.G h = true) (hk6 : h / 1000 = 6) (hop : σ.A (hdN h) 0 = 0) : hx_Met l y_Ho_end (.code y_Ho_end b_Ho_end 4 (some .int) :: WS) ({ frames := 8, cells := 1, slots := 6, locals := 134 }) (mP D N0 k [.ref b.ho, .int h, .int kp] V) "java/lang/IllegalStateException" (fun H9 => hv D vwCl N0 V H9) N0 1 6 := by
  refine hx_ofW (cc := b_Ho_end) (maxL := 4) (ret := (some .int)) (by decide) rfl ?_
  intro p e s m args below meth c s₁ B hml hno hv0
  obtain ⟨rfl, hG, hV⟩ := hv0
  have hx := B.exec
  have hb := B.bytes
  have hr := B.returns
  have hts := atoms_spec (ws := .code y_Ho_end b_Ho_end 4 (some .int) :: WS) B.pre
  have hW : ∀ w ∈ WS, w.before _ s = true := fun w h => hts w (List.mem_cons_of_mem _ h)
  have hown : s.vm.findClass "BoardHouse" = some m.cls := findClass_of_methodNamed B.named
  have hlocks := B.notSynchronized
  have hS : va_S (hA N0) s.heap s.heap [] := va_S.rf
  have hl := lv_entry ([.ref b.ho, .int h, .int kp]) (n := 4) (Nat.le_of_ble_eq_true rfl)
  rw [lg_entry_eq]
  generalize (lg_sl ([.ref b.ho, .int h, .int kp]) ++ List.replicate (4 - (lg_sl ([.ref b.ho, .int h, .int kp])).length) Slot.unset).toArray = ls at hl ⊢
  have hl : lv_has ls 4 [(0, .ref b.ho), (1, .int h), (2, .int kp)] := hl
  have hH := hW0.1
  obtain ⟨eN, hN10, t, hfa⟩ := act_of hW0 hg hk6
  obtain ⟨h_t, hr_t, hs_t, hz_t⟩ := hH.ac.2.1 (hdN h) t hN10 hfa
  refine lv_aload_n hx hb d_Ho_end_0 rfl (lv_at hl 0 rfl) ?_
  refine lv_iload_n hx hb d_Ho_end_1 rfl (lv_at hl 1 rfl) ?_
  exact hx_callOut (hx_runV (As := [.int h]) (rest := []) ⟨hx, hb, hml, hown, hts⟩ (t_Ho_demandOpenAct3 l hls D N0 k V b σ hH h hg hk6 (hdN h) t eN hN10 hfa hop) (cwV 1 hts (gi_V wm_Ho_197 wv_Ho_demandOpenAct ws_Ho_demandOpenAct wi_Ho wc_Ho_demandOpenAct) rfl rfl rfl (by decide +kernel) ⟨Nat.le_of_ble_eq_true rfl, Nat.le_of_ble_eq_true rfl⟩) (mP.preV hG hS hV hH.ho rfl) rfl rfl hl.1 rfl (lv_room (Nat.le_of_ble_eq_true rfl)) d_Ho_end_2 ⟨Nat.le_of_ble_eq_true rfl, Nat.le_of_ble_eq_true rfl⟩) hno hlocks hS (Nat.le_of_ble_eq_true rfl) (Nat.le_of_ble_eq_true rfl)
set_option maxHeartbeats 4000000 in
set_option maxRecDepth 100000 in
/-- version -/
theorem c_Ho_version (l : Launch) (D : va_G) (N0 : Nat) (k : Nat → Nat) (V : HV) (b : HA) (σ : HS) (hW0 : hsW k V b σ) (hno1 : anyF (opn σ.A) 0 10 = false) : Met l y_Ho_version (.code y_Ho_version b_Ho_version 2 (some .int) :: WS) ({ frames := 7, cells := 2, slots := 151, locals := 114 }) (mP D N0 k [.ref b.ho] V) (va_Qi (fun r V' => ∃ b' W', (∀ i, i < 150 → W' i = vsW σ i) ∧ hsW k V' b' (vsP σ W').2 ∧ hsFr b b' V V' ∧ r = (vsP σ W').1) (mB D N0) (hA N0)) 2 151 (hA N0) := by
  refine Met.ofW (cc := b_Ho_version) (maxL := 2) (ret := (some .int)) (by decide) rfl ?_
  intro p e s m args below meth c s₁ B hml hv0
  obtain ⟨rfl, hG, hV⟩ := hv0
  have hx := B.exec
  have hb := B.bytes
  have hr := B.returns
  have hts := atoms_spec (ws := .code y_Ho_version b_Ho_version 2 (some .int) :: WS) B.pre
  have hW : ∀ w ∈ WS, w.before _ s = true := fun w h => hts w (List.mem_cons_of_mem _ h)
  have hown : s.vm.findClass "BoardHouse" = some m.cls := findClass_of_methodNamed B.named
  have hlocks := B.notSynchronized
  have hS : va_S (hA N0) s.heap s.heap [] := va_S.rf
  have hl := lv_entry ([.ref b.ho]) (n := 2) (Nat.le_of_ble_eq_true rfl)
  rw [lg_entry_eq]
  generalize (lg_sl ([.ref b.ho]) ++ List.replicate (2 - (lg_sl ([.ref b.ho])).length) Slot.unset).toArray = ls at hl ⊢
  have hl : lv_has ls 2 [(0, .ref b.ho)] := hl
  have hH := hW0.1
  refine lv_aload_n hx hb d_Ho_version_0 rfl (lv_at hl 0 rfl) ?_
  refine va_csv (va_Run.run (va_runV (As := []) (rest := []) ⟨hx, hb, hml, hown, hts⟩ (r_Ho_demandNoOpenAct l D N0 k V b σ hH  hno1) (cwV 0 hts (gi_V wm_Ho_215 wv_Ho_demandNoOpenAct ws_Ho_demandNoOpenAct wi_Ho wc_Ho_demandNoOpenAct) rfl rfl rfl (by decide +kernel) ⟨Nat.le_of_ble_eq_true rfl, Nat.le_of_ble_eq_true rfl⟩) (mP.preV hG hS hV hH.ho rfl) rfl rfl hl.1 rfl (lv_room (Nat.le_of_ble_eq_true rfl)) d_Ho_version_1 ⟨Nat.le_of_ble_eq_true rfl, Nat.le_of_ble_eq_true rfl⟩)) (fun _ => ?_)
  refine lv_aload_n hx hb d_Ho_version_4 rfl (lv_at hl 0 rfl) ?_
  refine lv_aload_n hx hb d_Ho_version_5 rfl (lv_at hl 0 rfl) ?_
  refine lv_bipush (v := 7) hx hb d_Ho_version_6 (by decide) ?_
  refine W.eq (g2 := F0 m 8 ls [.int (nI 7), .ref b.ho, .ref b.ho]) rfl ?_
  refine rc_i (va_runV (As := [.int (nI 7)]) (rest := [.ref b.ho]) ⟨hx, hb, hml, hown, hts⟩ (c_Ho_isFull l D N0 k V b.ho b.bo b.gi b.co b.ta b.ac b.ve (woA b σ.wo) (nI σ.nl) σ.rs hH.ho σ.G hH.gi 7 (by omega) (by omega)) (cwV 1 hts (gi_V wm_Ho_71 wv_Ho_isFull ws_Ho_isFull wi_Ho wc_Ho_isFull) rfl rfl rfl (by decide +kernel) ⟨Nat.le_of_ble_eq_true rfl, Nat.le_of_ble_eq_true rfl⟩) (mP.preV hG hS hV hH.ho rfl) rfl rfl hl.1 rfl (lv_room (Nat.le_of_ble_eq_true rfl)) d_Ho_version_8 ⟨Nat.le_of_ble_eq_true rfl, Nat.le_of_ble_eq_true rfl⟩) hS (fun H locs hV hS => ?_)
  refine lv_if_eq (tgt := 18) hx hb d_Ho_version_11 (by decide) (fun c_1 => ?_) (fun c_1 => ?_)
  · refine lv_iconst (v := 0) hx hb d_Ho_version_18 (by decide) ?_
    refine pf_Ho_41 hx hb hW hown hG hV hS hH.ho d_Ho_version_19 (fun H locs hV hS => ?_)
    replace hV : hv D vwCl N0 (hu V b.ho (.inr (6, [.int (nI σ.nl), .ref b.bo, .ref b.gi, .ref b.co, .ref b.ta, .ref b.ac, .ref b.ve, va_rf (woA b σ.wo), .int 0]))) H := hV
    generalize hV_V_2 : hu V b.ho (.inr (6, [.int (nI σ.nl), .ref b.bo, .ref b.gi, .ref b.co, .ref b.ta, .ref b.ac, .ref b.ve, va_rf (woA b σ.wo), .int 0])) = V_2 at hV
    have hH_bo'V_2 : V_2 b.bo = some (.inr (1, [.int 0, .int 0, .int 31, .int 23])) := by rw [← hV_V_2]; exact hu_o hH.ho hH.bo (by simp)
    have hH_gi'V_2 : V_2 b.gi = some (eI k 8 σ.G) := by rw [← hV_V_2]; exact hu_o hH.ho hH.gi (by simp)
    have hH_co'V_2 : V_2 b.co = some (.inr (2, [.ref b.ta, .int (nI σ.nl), .ref b.ro, .ref b.on, .ref b.re, .int σ.g])) := by rw [← hV_V_2]; exact hu_o hH.ho hH.co (by simp)
    have hH_ts_1'V_2 : V_2 b.ta = some (eTs k b.f) := by rw [← hV_V_2]; exact hu_o hH.ho hH.ts.1 (by simp)
    have hH_ac_1'V_2 : V_2 b.ac = some (eAs k b.fa) := by rw [← hV_V_2]; exact hu_o hH.ho hH.ac.1 (by simp)
    have hH_ve'V_2 : V_2 b.ve = some (eVs k b.fv) := by rw [← hV_V_2]; exact hu_o hH.ho hH.ve (by simp)
    have hbho'V_2 : V_2 b.ho = some (.inr (6, [.int (nI σ.nl), .ref b.bo, .ref b.gi, .ref b.co, .ref b.ta, .ref b.ac, .ref b.ve, va_rf (woA b σ.wo), .int 0])) := by rw [← hV_V_2]; exact hu_s
    refine lv_aload_n hx hb d_Ho_version_22 rfl (lv_at hl 0 rfl) ?_
    refine gf_Ho_41 hx hb hW hown hG hV hbho'V_2 d_Ho_version_23 ?_
    refine lv_if_eq (tgt := 31) hx hb d_Ho_version_26 (by decide) (fun _ => ?_) (fun q => absurd q (by decide))
    have hH_V_2 : hsOk k V_2 b (σ.wrs 0) := by rw [← hV_V_2]; exact hs_rs hH 0
    have hF_V_2 : hsFr b b V V_2 := by rw [← hV_V_2]; exact hsFr.tr (hsFr.rf (a := b) (V := V)) (hsFr_hu (by have q := hH.lab.l1; show HA.lb b (HA.ho b) < 10000; rw [q]; omega))
    have hnf : ¬ limV 7 ≤ σ.G 7 := of_decide_eq_false (bI_eq0.mp c_1)
    obtain ⟨eG7, hN8⟩ := ver_free hW0 hnf
    refine hv_new (ci := 4) (fs := [.null]) (C := R_Sn) (T := T_Sn) (N := 1) hx hb hW in_Sn t_Sn ty_Sn hown (hW _ wk_Ho_31) (hW _ wo_Sn) (hW _ wi_Sn) hG.K hV hS rfl (fun j hj => by rcases (show j = 0 by omega) with rfl <;> rfl) (Nat.le_of_ble_eq_true rfl) (Nat.le_of_ble_eq_true rfl) hG.N d_Ho_version_31 (fun q_3 H hn_q_3 hN_q_3 hV hS => ?_)
    have ne_bbo_q_3 : b.bo ≠ q_3 := fun z => by rw [← z, hH_bo'V_2] at hn_q_3; cases hn_q_3
    have ne_bgi_q_3 : b.gi ≠ q_3 := fun z => by rw [← z, hH_gi'V_2] at hn_q_3; cases hn_q_3
    have ne_bco_q_3 : b.co ≠ q_3 := fun z => by rw [← z, hH_co'V_2] at hn_q_3; cases hn_q_3
    have ne_bta_q_3 : b.ta ≠ q_3 := fun z => by rw [← z, hH_ts_1'V_2] at hn_q_3; cases hn_q_3
    have ne_bac_q_3 : b.ac ≠ q_3 := fun z => by rw [← z, hH_ac_1'V_2] at hn_q_3; cases hn_q_3
    have ne_bve_q_3 : b.ve ≠ q_3 := fun z => by rw [← z, hH_ve'V_2] at hn_q_3; cases hn_q_3
    have ne_bho_q_3 : b.ho ≠ q_3 := fun z => by rw [← z, hbho'V_2] at hn_q_3; cases hn_q_3
    replace hV : hv D vwCl N0 (hu V_2 q_3 (.inr (4, [.null]))) H := hV
    generalize hV_V_4 : hu V_2 q_3 (.inr (4, [.null])) = V_4 at hV
    have hH_bo'V_4 : V_4 b.bo = some (.inr (1, [.int 0, .int 0, .int 31, .int 23])) := by rw [← hV_V_4, hu_n ne_bbo_q_3]; exact hH_bo'V_2
    have hH_gi'V_4 : V_4 b.gi = some (eI k 8 σ.G) := by rw [← hV_V_4, hu_n ne_bgi_q_3]; exact hH_gi'V_2
    have hH_co'V_4 : V_4 b.co = some (.inr (2, [.ref b.ta, .int (nI σ.nl), .ref b.ro, .ref b.on, .ref b.re, .int σ.g])) := by rw [← hV_V_4, hu_n ne_bco_q_3]; exact hH_co'V_2
    have hH_ts_1'V_4 : V_4 b.ta = some (eTs k b.f) := by rw [← hV_V_4, hu_n ne_bta_q_3]; exact hH_ts_1'V_2
    have hH_ac_1'V_4 : V_4 b.ac = some (eAs k b.fa) := by rw [← hV_V_4, hu_n ne_bac_q_3]; exact hH_ac_1'V_2
    have hH_ve'V_4 : V_4 b.ve = some (eVs k b.fv) := by rw [← hV_V_4, hu_n ne_bve_q_3]; exact hH_ve'V_2
    have hbho'V_4 : V_4 b.ho = some (.inr (6, [.int (nI σ.nl), .ref b.bo, .ref b.gi, .ref b.co, .ref b.ta, .ref b.ac, .ref b.ve, va_rf (woA b σ.wo), .int 0])) := by rw [← hV_V_4, hu_n ne_bho_q_3]; exact hbho'V_2
    have hq_3'V_4 : V_4 q_3 = some (.inr (4, [.null])) := by rw [← hV_V_4]; exact hu_s
    refine lv_dup hx hb d_Ho_version_34 rfl ?_
    refine rc_V (va_runI (As := []) (rest := [.ref q_3]) ⟨hx, hb, hml, hown, hts⟩ (c_Sn_init l D N0 k V_4 q_3 hq_3'V_4) (cwI 0 hts (gi_c wc_Sn_init) rfl rfl rfl (hW _ wi_Sn) (hW _ wm_Ho_218) (hW _ wv_Sn_init) rfl (by decide +kernel) ⟨Nat.le_of_ble_eq_true rfl, Nat.le_of_ble_eq_true rfl⟩) (mP.preS hG hS hV) rfl rfl hl.1 rfl (lv_room (Nat.le_of_ble_eq_true rfl)) d_Ho_version_35 ⟨Nat.le_of_ble_eq_true rfl, Nat.le_of_ble_eq_true rfl⟩) hS (fun V_5 H locs hp_6 hV hS => ?_)
    obtain ⟨q_7, g_8, hn_q_7, ev_q_7, hg_g_8⟩ := hp_6
    obtain ⟨V_9, eV_V_9⟩ : ∃ z, z = hu V_4 q_7 (eI k 150 g_8) := ⟨_, rfl⟩
    rw [← eV_V_9] at ev_q_7
    have ne_bbo_q_7 : b.bo ≠ q_7 := fun z => by rw [← z, hH_bo'V_4] at hn_q_7; cases hn_q_7
    have ne_bgi_q_7 : b.gi ≠ q_7 := fun z => by rw [← z, hH_gi'V_4] at hn_q_7; cases hn_q_7
    have ne_bco_q_7 : b.co ≠ q_7 := fun z => by rw [← z, hH_co'V_4] at hn_q_7; cases hn_q_7
    have ne_bta_q_7 : b.ta ≠ q_7 := fun z => by rw [← z, hH_ts_1'V_4] at hn_q_7; cases hn_q_7
    have ne_bac_q_7 : b.ac ≠ q_7 := fun z => by rw [← z, hH_ac_1'V_4] at hn_q_7; cases hn_q_7
    have ne_bve_q_7 : b.ve ≠ q_7 := fun z => by rw [← z, hH_ve'V_4] at hn_q_7; cases hn_q_7
    have ne_bho_q_7 : b.ho ≠ q_7 := fun z => by rw [← z, hbho'V_4] at hn_q_7; cases hn_q_7
    have ne_q_3_q_7 : q_3 ≠ q_7 := fun z => by rw [← z, hq_3'V_4] at hn_q_7; cases hn_q_7
    have hV_V_9 := eV_V_9.symm
    have hH_bo'V_9 : V_9 b.bo = some (.inr (1, [.int 0, .int 0, .int 31, .int 23])) := by rw [← hV_V_9, hu_n ne_bbo_q_7]; exact hH_bo'V_4
    have hH_gi'V_9 : V_9 b.gi = some (eI k 8 σ.G) := by rw [← hV_V_9, hu_n ne_bgi_q_7]; exact hH_gi'V_4
    have hH_co'V_9 : V_9 b.co = some (.inr (2, [.ref b.ta, .int (nI σ.nl), .ref b.ro, .ref b.on, .ref b.re, .int σ.g])) := by rw [← hV_V_9, hu_n ne_bco_q_7]; exact hH_co'V_4
    have hH_ts_1'V_9 : V_9 b.ta = some (eTs k b.f) := by rw [← hV_V_9, hu_n ne_bta_q_7]; exact hH_ts_1'V_4
    have hH_ac_1'V_9 : V_9 b.ac = some (eAs k b.fa) := by rw [← hV_V_9, hu_n ne_bac_q_7]; exact hH_ac_1'V_4
    have hH_ve'V_9 : V_9 b.ve = some (eVs k b.fv) := by rw [← hV_V_9, hu_n ne_bve_q_7]; exact hH_ve'V_4
    have hbho'V_9 : V_9 b.ho = some (.inr (6, [.int (nI σ.nl), .ref b.bo, .ref b.gi, .ref b.co, .ref b.ta, .ref b.ac, .ref b.ve, va_rf (woA b σ.wo), .int 0])) := by rw [← hV_V_9, hu_n ne_bho_q_7]; exact hbho'V_4
    have hq_3'V_9 : V_9 q_3 = some (.inr (4, [.null])) := by rw [← hV_V_9, hu_n ne_q_3_q_7]; exact hq_3'V_4
    have hq_7'V_9 : V_9 q_7 = some (eI k 150 g_8) := by rw [← hV_V_9]; exact hu_s
    have hV_V_5 := ev_q_7.symm
    have hH_bo'V_5 : V_5 b.bo = some (.inr (1, [.int 0, .int 0, .int 31, .int 23])) := by rw [← hV_V_5, hu_n ne_bbo_q_3]; exact hH_bo'V_9
    have hH_gi'V_5 : V_5 b.gi = some (eI k 8 σ.G) := by rw [← hV_V_5, hu_n ne_bgi_q_3]; exact hH_gi'V_9
    have hH_co'V_5 : V_5 b.co = some (.inr (2, [.ref b.ta, .int (nI σ.nl), .ref b.ro, .ref b.on, .ref b.re, .int σ.g])) := by rw [← hV_V_5, hu_n ne_bco_q_3]; exact hH_co'V_9
    have hH_ts_1'V_5 : V_5 b.ta = some (eTs k b.f) := by rw [← hV_V_5, hu_n ne_bta_q_3]; exact hH_ts_1'V_9
    have hH_ac_1'V_5 : V_5 b.ac = some (eAs k b.fa) := by rw [← hV_V_5, hu_n ne_bac_q_3]; exact hH_ac_1'V_9
    have hH_ve'V_5 : V_5 b.ve = some (eVs k b.fv) := by rw [← hV_V_5, hu_n ne_bve_q_3]; exact hH_ve'V_9
    have hbho'V_5 : V_5 b.ho = some (.inr (6, [.int (nI σ.nl), .ref b.bo, .ref b.gi, .ref b.co, .ref b.ta, .ref b.ac, .ref b.ve, va_rf (woA b σ.wo), .int 0])) := by rw [← hV_V_5, hu_n ne_bho_q_3]; exact hbho'V_9
    have hq_7'V_5 : V_5 q_7 = some (eI k 150 g_8) := by rw [← hV_V_5, hu_n (Ne.symm ne_q_3_q_7)]; exact hq_7'V_9
    have hq_3'V_5 : V_5 q_3 = some (eSn q_7) := by rw [← hV_V_5]; exact hu_s
    refine lv_astore_n (lv' := [(1, .ref q_3), (0, .ref b.ho)]) hx hb d_Ho_version_38 rfl hl (by decide) rfl (fun ls hl => ?_)
    refine lv_aload_n hx hb d_Ho_version_39 rfl (lv_at hl 0 rfl) ?_
    refine lv_aload_n hx hb d_Ho_version_40 rfl (lv_at hl 1 rfl) ?_
    refine gf_Ho_70 hx hb hW hown hG hV hbho'V_5 d_Ho_version_41 ?_
    have hH_V_4 : hsOk k V_4 (b.lab q_3 5000) (σ.wrs 0) := by rw [← hV_V_4]; exact hs_new hH_V_2 hn_q_3
    have hF_V_4 : hsFr b (b.lab q_3 5000) V V_4 := by rw [← hV_V_4]; exact hsFr.tr hF_V_2 (hsFr_new hn_q_3)
    have lbV_4_q_3 : (b.lab q_3 5000).lb q_3 = 5000 := HA.lab_s
    have hH_V_9 : hsOk k V_9 ((b.lab q_3 5000).lab q_7 5001) (σ.wrs 0) := by rw [← hV_V_9]; exact hs_new hH_V_4 hn_q_7
    have hF_V_9 : hsFr b ((b.lab q_3 5000).lab q_7 5001) V V_9 := by rw [← hV_V_9]; exact hsFr.tr hF_V_4 (hsFr_new hn_q_7)
    have lbV_9_q_3 : ((b.lab q_3 5000).lab q_7 5001).lb q_3 = 5000 := (HA.lab_n ne_q_3_q_7).trans lbV_4_q_3
    have lbV_9_q_7 : ((b.lab q_3 5000).lab q_7 5001).lb q_7 = 5001 := HA.lab_s
    have hH_V_5 : hsOk k V_5 ((b.lab q_3 5000).lab q_7 5001) (σ.wrs 0) := by rw [← hV_V_5]; exact hs_tmp hH_V_9 (by rw [lbV_9_q_3]; omega)
    have hF_V_5 : hsFr b ((b.lab q_3 5000).lab q_7 5001) V V_5 := by rw [← hV_V_5]; exact hsFr.tr hF_V_9 (hsFr_hu (by rw [lbV_9_q_3]; omega))
    refine rc_V (va_runV (As := [.ref b.ta]) (rest := []) ⟨hx, hb, hml, hown, hts⟩ (c_Sn_noteAll l D N0 k V_5 q_3 q_7 g_8 hq_3'V_5 hq_7'V_5 b.ta b.f b.ar σ.T hH_V_5.ts (slOk_of hW0.2.1 hW0.2.2.2)) (cwV 1 hts (gi_V wm_Ho_219 wv_Sn_noteAll ws_Sn_noteAll wi_Sn wc_Sn_noteAll) rfl rfl rfl (by decide +kernel) ⟨Nat.le_of_ble_eq_true rfl, Nat.le_of_ble_eq_true rfl⟩) (mP.preV hG hS hV hq_3'V_5 rfl) rfl rfl hl.1 rfl (lv_room (Nat.le_of_ble_eq_true rfl)) d_Ho_version_44 ⟨Nat.le_of_ble_eq_true rfl, Nat.le_of_ble_eq_true rfl⟩) hS (fun V_10 H locs hp_11 hV hS => ?_)
    obtain ⟨g_12, ev_g_12, hg_g_12⟩ := hp_11
    have hV_V_10 := ev_g_12.symm
    have hH_bo'V_10 : V_10 b.bo = some (.inr (1, [.int 0, .int 0, .int 31, .int 23])) := by rw [← hV_V_10, hu_n ne_bbo_q_7]; exact hH_bo'V_5
    have hH_gi'V_10 : V_10 b.gi = some (eI k 8 σ.G) := by rw [← hV_V_10, hu_n ne_bgi_q_7]; exact hH_gi'V_5
    have hH_co'V_10 : V_10 b.co = some (.inr (2, [.ref b.ta, .int (nI σ.nl), .ref b.ro, .ref b.on, .ref b.re, .int σ.g])) := by rw [← hV_V_10, hu_n ne_bco_q_7]; exact hH_co'V_5
    have hH_ts_1'V_10 : V_10 b.ta = some (eTs k b.f) := by rw [← hV_V_10, hu_n ne_bta_q_7]; exact hH_ts_1'V_5
    have hH_ac_1'V_10 : V_10 b.ac = some (eAs k b.fa) := by rw [← hV_V_10, hu_n ne_bac_q_7]; exact hH_ac_1'V_5
    have hH_ve'V_10 : V_10 b.ve = some (eVs k b.fv) := by rw [← hV_V_10, hu_n ne_bve_q_7]; exact hH_ve'V_5
    have hbho'V_10 : V_10 b.ho = some (.inr (6, [.int (nI σ.nl), .ref b.bo, .ref b.gi, .ref b.co, .ref b.ta, .ref b.ac, .ref b.ve, va_rf (woA b σ.wo), .int 0])) := by rw [← hV_V_10, hu_n ne_bho_q_7]; exact hbho'V_5
    have hq_3'V_10 : V_10 q_3 = some (.inr (4, [.ref q_7])) := by rw [← hV_V_10, hu_n ne_q_3_q_7]; exact hq_3'V_5
    have hq_7'V_10 : V_10 q_7 = some (eI k 150 g_12) := by rw [← hV_V_10]; exact hu_s
    refine lv_aload_n hx hb d_Ho_version_47 rfl (lv_at hl 1 rfl) ?_
    refine gf_Ho_33 hx hb hW hown hG hV hbho'V_10 d_Ho_version_48 ?_
    refine lv_aload_n hx hb d_Ho_version_51 rfl (lv_at hl 1 rfl) ?_
    refine gf_Ho_18 hx hb hW hown hG hV hbho'V_10 d_Ho_version_52 ?_
    refine lv_bipush (v := 7) hx hb d_Ho_version_55 (by decide) ?_
    refine hv_iald hx hb hG.K hV 0 hH_gi'V_10 rfl ((vp_in_nI (by omega) (by omega) : vp_in (nI 7) 8)) d_Ho_version_57 ?_
    rw [show (7 : Int32).toNatClampNeg = 7 from rfl]
    rw [eG7]
    refine W.eq (g2 := F0 m 58 ls [.int (nI (gN σ 7)), .ref b.ve]) rfl ?_
    refine lv_aload_n hx hb d_Ho_version_58 rfl (lv_at hl 0 rfl) ?_
    have hH_V_10 : hsOk k V_10 ((b.lab q_3 5000).lab q_7 5001) (σ.wrs 0) := by rw [← hV_V_10]; exact hs_tmp hH_V_5 (by rw [lbV_9_q_7]; omega)
    have hF_V_10 : hsFr b ((b.lab q_3 5000).lab q_7 5001) V V_10 := by rw [← hV_V_10]; exact hsFr.tr hF_V_5 (hsFr_hu (by rw [lbV_9_q_7]; omega))
    refine hv_aast hx hb hG.K hV hS 5 4 hH_ve'V_10 rfl hq_3'V_10 rfl (vp_in_nI (by omega) (by omega)) d_Ho_version_59 (fun H locs hV hS => ?_)
    rw [nI_clamp (by omega)] at hV
    replace hV : hv D vwCl N0 (hu V_10 b.ve (.inl (k 5, 8, .inr (.inr (.inr (.inr (va_up b.fv (gN σ 7) (some q_3)))))))) H := hV
    generalize hV_V_13 : hu V_10 b.ve (.inl (k 5, 8, .inr (.inr (.inr (.inr (va_up b.fv (gN σ 7) (some q_3))))))) = V_13 at hV
    have hH_bo'V_13 : V_13 b.bo = some (.inr (1, [.int 0, .int 0, .int 31, .int 23])) := by rw [← hV_V_13]; exact hu_o hH_ve'V_10 hH_bo'V_10 (by simp)
    have hH_gi'V_13 : V_13 b.gi = some (eI k 8 σ.G) := by rw [← hV_V_13]; exact hu_o hH_ve'V_10 hH_gi'V_10 (by simp)
    have hH_co'V_13 : V_13 b.co = some (.inr (2, [.ref b.ta, .int (nI σ.nl), .ref b.ro, .ref b.on, .ref b.re, .int σ.g])) := by rw [← hV_V_13]; exact hu_o hH_ve'V_10 hH_co'V_10 (by simp)
    have hH_ts_1'V_13 : V_13 b.ta = some (eTs k b.f) := by rw [← hV_V_13]; exact hu_o hH_ve'V_10 hH_ts_1'V_10 (by simp)
    have hH_ac_1'V_13 : V_13 b.ac = some (eAs k b.fa) := by rw [← hV_V_13]; exact hu_o hH_ve'V_10 hH_ac_1'V_10 (by simp)
    have hbho'V_13 : V_13 b.ho = some (.inr (6, [.int (nI σ.nl), .ref b.bo, .ref b.gi, .ref b.co, .ref b.ta, .ref b.ac, .ref b.ve, va_rf (woA b σ.wo), .int 0])) := by rw [← hV_V_13]; exact hu_o hH_ve'V_10 hbho'V_10 (by simp)
    have hq_3'V_13 : V_13 q_3 = some (.inr (4, [.ref q_7])) := by rw [← hV_V_13, hu_n (Ne.symm ne_bve_q_3)]; exact hq_3'V_10
    have hq_7'V_13 : V_13 q_7 = some (eI k 150 g_12) := by rw [← hV_V_13, hu_n (Ne.symm ne_bve_q_7)]; exact hq_7'V_10
    have hbve'V_13 : V_13 b.ve = some (.inl (k 5, 8, .inr (.inr (.inr (.inr (va_up b.fv (gN σ 7) (some q_3))))))) := by rw [← hV_V_13]; exact hu_s
    have hH2 : hsOk k V_13 (((b.lab q_3 5000).lab q_7 5001).addV (gN σ 7) q_3 q_7) ((σ.wrs 0).wW (updT σ.W (gN σ 7) g_12)) := by rw [← hV_V_13]; exact hs_addV hH_V_10 hN8 hq_3'V_10 hq_7'V_10 lbV_9_q_3 lbV_9_q_7
    have hF2 : hsFr b (((b.lab q_3 5000).lab q_7 5001).addV (gN σ 7) q_3 q_7) V V_13 := by rw [← hV_V_13]; exact hsFr.tr hF_V_10 (hsFr_addV hH_V_10.lab.l7 lbV_9_q_3 lbV_9_q_7)
    refine W.eq (g2 := F0 m 60 ls []) rfl ?_
    refine lv_aload_n hx hb d_Ho_version_60 rfl (lv_at hl 1 rfl) ?_
    refine lv_bipush (v := 7) hx hb d_Ho_version_61 (by decide) ?_
    refine W.eq (g2 := F0 m 63 ls [.int (nI 7), .ref b.ho]) rfl ?_
    refine rc_I (va_runV (As := [.int (nI 7)]) (rest := []) ⟨hx, hb, hml, hown, hts⟩ (c_Ho_nextHandle l D N0 k V_13 b.ho b.bo b.gi b.co b.ta b.ac b.ve _ _ _ hbho'V_13 σ.G hH_gi'V_13 7 (by omega) (by omega)) (cwV 1 hts (gi_V wm_Ho_75 wv_Ho_nextHandle ws_Ho_nextHandle wi_Ho wc_Ho_nextHandle) rfl rfl rfl (by decide +kernel) ⟨Nat.le_of_ble_eq_true rfl, Nat.le_of_ble_eq_true rfl⟩) (mP.preV hG hS hV hbho'V_13 rfl) rfl rfl hl.1 rfl (lv_room (Nat.le_of_ble_eq_true rfl)) d_Ho_version_63 ⟨Nat.le_of_ble_eq_true rfl, Nat.le_of_ble_eq_true rfl⟩) hS (fun r_14 V_15 H locs hp_16 hV hS => ?_)
    obtain ⟨er_r_14, ev_r_14⟩ := hp_16
    exact W.iret (v := r_14) hx hb hr (fun t9 ht hW => ⟨⟨r_14, V_15, rfl, ⟨(((b.lab q_3 5000).lab q_7 5001).addV (gN σ 7) q_3 q_7), g_12, vsW_eq hW0.2.1 hg_g_8 hg_g_12, by rw [vsP, if_neg hnf]; exact W_addV (bm := ((b.lab q_3 5000).lab q_7 5001)) hW0 hnf rfl rfl rfl rfl rfl (by rw [ev_r_14]; exact hs_gi hH2 _), by rw [ev_r_14]; exact hF2.tr (hsFr_hu (by have q := hH2.lab.l3; show HA.lb (((b.lab q_3 5000).lab q_7 5001).addV (gN σ 7) q_3 q_7) (HA.gi (((b.lab q_3 5000).lab q_7 5001).addV (gN σ 7) q_3 q_7)) < 10000; rw [q]; omega)), by rw [vsP, if_neg hnf]; exact er_r_14⟩, mB_of ht hV⟩, hS.F ht⟩) hS.2.2 d_Ho_version_66
  · refine lv_iconst (v := 1) hx hb d_Ho_version_14 (by decide) ?_
    refine lv_goto (tgt := 19) hx hb d_Ho_version_15 (by decide) ?_
    refine pf_Ho_41 hx hb hW hown hG hV hS hH.ho d_Ho_version_19 (fun H locs hV hS => ?_)
    replace hV : hv D vwCl N0 (hu V b.ho (.inr (6, [.int (nI σ.nl), .ref b.bo, .ref b.gi, .ref b.co, .ref b.ta, .ref b.ac, .ref b.ve, va_rf (woA b σ.wo), .int 1]))) H := hV
    generalize hV_V_17 : hu V b.ho (.inr (6, [.int (nI σ.nl), .ref b.bo, .ref b.gi, .ref b.co, .ref b.ta, .ref b.ac, .ref b.ve, va_rf (woA b σ.wo), .int 1])) = V_17 at hV
    have hH_bo'V_17 : V_17 b.bo = some (.inr (1, [.int 0, .int 0, .int 31, .int 23])) := by rw [← hV_V_17]; exact hu_o hH.ho hH.bo (by simp)
    have hH_gi'V_17 : V_17 b.gi = some (eI k 8 σ.G) := by rw [← hV_V_17]; exact hu_o hH.ho hH.gi (by simp)
    have hH_co'V_17 : V_17 b.co = some (.inr (2, [.ref b.ta, .int (nI σ.nl), .ref b.ro, .ref b.on, .ref b.re, .int σ.g])) := by rw [← hV_V_17]; exact hu_o hH.ho hH.co (by simp)
    have hH_ts_1'V_17 : V_17 b.ta = some (eTs k b.f) := by rw [← hV_V_17]; exact hu_o hH.ho hH.ts.1 (by simp)
    have hH_ac_1'V_17 : V_17 b.ac = some (eAs k b.fa) := by rw [← hV_V_17]; exact hu_o hH.ho hH.ac.1 (by simp)
    have hH_ve'V_17 : V_17 b.ve = some (eVs k b.fv) := by rw [← hV_V_17]; exact hu_o hH.ho hH.ve (by simp)
    have hbho'V_17 : V_17 b.ho = some (.inr (6, [.int (nI σ.nl), .ref b.bo, .ref b.gi, .ref b.co, .ref b.ta, .ref b.ac, .ref b.ve, va_rf (woA b σ.wo), .int 1])) := by rw [← hV_V_17]; exact hu_s
    refine lv_aload_n hx hb d_Ho_version_22 rfl (lv_at hl 0 rfl) ?_
    refine gf_Ho_41 hx hb hW hown hG hV hbho'V_17 d_Ho_version_23 ?_
    refine lv_if_eq (tgt := 31) hx hb d_Ho_version_26 (by decide) (fun q => absurd q (by decide)) (fun _ => ?_)
    refine lv_iconst (v := (-1)) hx hb d_Ho_version_29 (by decide) ?_
    refine W.widen (k := 2) (n := 151) (by omega) (by omega) ?_
    have hH_V_17 : hsOk k V_17 b (σ.wrs 1) := by rw [← hV_V_17]; exact hs_rs hH 1
    have hF_V_17 : hsFr b b V V_17 := by rw [← hV_V_17]; exact hsFr.tr (hsFr.rf (a := b) (V := V)) (hsFr_hu (by have q := hH.lab.l1; show HA.lb b (HA.ho b) < 10000; rw [q]; omega))
    have hfu : limV 7 ≤ σ.G 7 := of_decide_eq_true (bI_ne0.mp c_1)
    exact W.iret (v := (-1)) hx hb hr (fun t9 ht hW => ⟨⟨(-1), V_17, rfl, ⟨b, fun i => vsW σ i, fun _ _ => rfl, by rw [vsP, if_pos hfu]; exact W_keep hW0 hH_V_17 rfl rfl rfl rfl (fun i => ⟨rfl, rfl⟩), hF_V_17, by rw [vsP, if_pos hfu]⟩, mB_of ht hV⟩, hS.F ht⟩) hS.2.2 d_Ho_version_30
set_option maxHeartbeats 4000000 in
set_option maxRecDepth 100000 in
/-- version: an act is open -/
theorem t_Ho_version1 (l : Launch) (hls : l.stackTraces = false) (D : va_G) (N0 : Nat) (k : Nat → Nat) (V : HV) (b : HA) (σ : HS) (hH : hsOk k V b σ) (hno1 : anyF (opn σ.A) 0 10 = true) : hx_Met l y_Ho_version (.code y_Ho_version b_Ho_version 2 (some .int) :: WS) ({ frames := 7, cells := 1, slots := 6, locals := 114 }) (mP D N0 k [.ref b.ho] V) "java/lang/IllegalStateException" (fun H9 => hv D vwCl N0 V H9) N0 1 6 := by
  refine hx_ofW (cc := b_Ho_version) (maxL := 2) (ret := (some .int)) (by decide) rfl ?_
  intro p e s m args below meth c s₁ B hml hno hv0
  obtain ⟨rfl, hG, hV⟩ := hv0
  have hx := B.exec
  have hb := B.bytes
  have hr := B.returns
  have hts := atoms_spec (ws := .code y_Ho_version b_Ho_version 2 (some .int) :: WS) B.pre
  have hW : ∀ w ∈ WS, w.before _ s = true := fun w h => hts w (List.mem_cons_of_mem _ h)
  have hown : s.vm.findClass "BoardHouse" = some m.cls := findClass_of_methodNamed B.named
  have hlocks := B.notSynchronized
  have hS : va_S (hA N0) s.heap s.heap [] := va_S.rf
  have hl := lv_entry ([.ref b.ho]) (n := 2) (Nat.le_of_ble_eq_true rfl)
  rw [lg_entry_eq]
  generalize (lg_sl ([.ref b.ho]) ++ List.replicate (2 - (lg_sl ([.ref b.ho])).length) Slot.unset).toArray = ls at hl ⊢
  have hl : lv_has ls 2 [(0, .ref b.ho)] := hl
  refine lv_aload_n hx hb d_Ho_version_0 rfl (lv_at hl 0 rfl) ?_
  exact hx_callOut (hx_runV (As := []) (rest := []) ⟨hx, hb, hml, hown, hts⟩ (t_Ho_demandNoOpenAct l hls D N0 k V b σ hH  hno1) (cwV 0 hts (gi_V wm_Ho_215 wv_Ho_demandNoOpenAct ws_Ho_demandNoOpenAct wi_Ho wc_Ho_demandNoOpenAct) rfl rfl rfl (by decide +kernel) ⟨Nat.le_of_ble_eq_true rfl, Nat.le_of_ble_eq_true rfl⟩) (mP.preV hG hS hV hH.ho rfl) rfl rfl hl.1 rfl (lv_room (Nat.le_of_ble_eq_true rfl)) d_Ho_version_1 ⟨Nat.le_of_ble_eq_true rfl, Nat.le_of_ble_eq_true rfl⟩) hno hlocks hS (Nat.le_of_ble_eq_true rfl) (Nat.le_of_ble_eq_true rfl)
set_option maxHeartbeats 4000000 in
set_option maxRecDepth 100000 in
/-- back -/
theorem c_Ho_back (l : Launch) (D : va_G) (N0 : Nat) (k : Nat → Nat) (V : HV) (b : HA) (σ : HS) (hW0 : hsW k V b σ) (h : Int32) (hg : gvOk σ.G h = true) (hk7 : h / 1000 = 7) (hno1 : anyF (opn σ.A) 0 10 = false) : Met l y_Ho_back (.code y_Ho_back b_Ho_back 3 (some .int) :: WS) ({ frames := 7, cells := 0, slots := 0, locals := 114 }) (mP D N0 k [.ref b.ho, .int h] V) (va_Qi (fun r V' => hsW k V' b (σ.wT (bkT σ (hdN h))) ∧ hsFr b b V V' ∧ r = bkC σ (hdN h)) (mB D N0) (hA N0)) 0 0 (hA N0) := by
  refine Met.ofW (cc := b_Ho_back) (maxL := 3) (ret := (some .int)) (by decide) rfl ?_
  intro p e s m args below meth c s₁ B hml hv0
  obtain ⟨rfl, hG, hV⟩ := hv0
  have hx := B.exec
  have hb := B.bytes
  have hr := B.returns
  have hts := atoms_spec (ws := .code y_Ho_back b_Ho_back 3 (some .int) :: WS) B.pre
  have hW : ∀ w ∈ WS, w.before _ s = true := fun w h => hts w (List.mem_cons_of_mem _ h)
  have hown : s.vm.findClass "BoardHouse" = some m.cls := findClass_of_methodNamed B.named
  have hlocks := B.notSynchronized
  have hS : va_S (hA N0) s.heap s.heap [] := va_S.rf
  have hl := lv_entry ([.ref b.ho, .int h]) (n := 3) (Nat.le_of_ble_eq_true rfl)
  rw [lg_entry_eq]
  generalize (lg_sl ([.ref b.ho, .int h]) ++ List.replicate (3 - (lg_sl ([.ref b.ho, .int h])).length) Slot.unset).toArray = ls at hl ⊢
  have hl : lv_has ls 3 [(0, .ref b.ho), (1, .int h)] := hl
  have hH := hW0.1
  obtain ⟨eN, hN8, t, hfv⟩ := ver_of hW0 hg hk7
  obtain ⟨h_t, hz_t⟩ := hH.vs (hdN h) t hN8 hfv
  refine lv_aload_n hx hb d_Ho_back_0 rfl (lv_at hl 0 rfl) ?_
  refine lv_iload_n hx hb d_Ho_back_1 rfl (lv_at hl 1 rfl) ?_
  refine va_csv (va_Run.run (va_runV (As := [.int h]) (rest := []) ⟨hx, hb, hml, hown, hts⟩ (r_Ho_demandGiven l D N0 k V b.ho b.bo b.gi b.co b.ta b.ac b.ve (woA b σ.wo) (nI σ.nl) σ.rs hH.ho σ.G hH.gi h hg) (cwV 1 hts (gi_V wm_Ho_97 wv_Ho_demandGiven ws_Ho_demandGiven wi_Ho wc_Ho_demandGiven) rfl rfl rfl (by decide +kernel) ⟨Nat.le_of_ble_eq_true rfl, Nat.le_of_ble_eq_true rfl⟩) (mP.preV hG hS hV hH.ho rfl) rfl rfl hl.1 rfl (lv_room (Nat.le_of_ble_eq_true rfl)) d_Ho_back_2 ⟨Nat.le_of_ble_eq_true rfl, Nat.le_of_ble_eq_true rfl⟩)) (fun _ => ?_)
  refine lv_iload_n hx hb d_Ho_back_5 rfl (lv_at hl 1 rfl) ?_
  refine lv_bipush (v := 7) hx hb d_Ho_back_6 (by decide) ?_
  refine va_csv (va_Run.run (va_runS (As := [.int h, .int 7]) (rest := []) ⟨hx, hb, hml, hown, hts⟩ (r_Ho_demandKind l D N0 k V h 7 hk7) (va_cwS 2 hts (gi_S wm_Ho_101 wt_Ho_demandKind wi_Ho wc_Ho_demandKind) rfl rfl rfl (by decide +kernel) ⟨Nat.le_of_ble_eq_true rfl, Nat.le_of_ble_eq_true rfl⟩) (mP.preS hG hS hV) rfl rfl hl.1 rfl (lv_room (Nat.le_of_ble_eq_true rfl)) d_Ho_back_8 ⟨Nat.le_of_ble_eq_true rfl, Nat.le_of_ble_eq_true rfl⟩)) (fun _ => ?_)
  refine lv_aload_n hx hb d_Ho_back_11 rfl (lv_at hl 0 rfl) ?_
  refine va_csv (va_Run.run (va_runV (As := []) (rest := []) ⟨hx, hb, hml, hown, hts⟩ (r_Ho_demandNoOpenAct l D N0 k V b σ hH  hno1) (cwV 0 hts (gi_V wm_Ho_215 wv_Ho_demandNoOpenAct ws_Ho_demandNoOpenAct wi_Ho wc_Ho_demandNoOpenAct) rfl rfl rfl (by decide +kernel) ⟨Nat.le_of_ble_eq_true rfl, Nat.le_of_ble_eq_true rfl⟩) (mP.preV hG hS hV hH.ho rfl) rfl rfl hl.1 rfl (lv_room (Nat.le_of_ble_eq_true rfl)) d_Ho_back_12 ⟨Nat.le_of_ble_eq_true rfl, Nat.le_of_ble_eq_true rfl⟩)) (fun _ => ?_)
  refine lv_aload_n hx hb d_Ho_back_15 rfl (lv_at hl 0 rfl) ?_
  refine gf_Ho_33 hx hb hW hown hG hV hH.ho d_Ho_back_16 ?_
  refine lv_iload_n hx hb d_Ho_back_19 rfl (lv_at hl 1 rfl) ?_
  refine lv_sipush (v := 1000) hx hb d_Ho_back_20 (by decide) ?_
  refine lv_irem hx hb d_Ho_back_23 (by decide) ?_
  rw [eN]
  refine W.eq (g2 := F0 m 24 ls [.int (nI (hdN h)), .ref b.ve]) rfl ?_
  refine hv_aald (v := b.fv (hdN h)) hx hb hG.K hV 5 hH.ve rfl (vp_in_nI (by omega) (by omega)) (by rw [nI_clamp (by omega)]) d_Ho_back_24 ?_
  rw [hfv]
  refine W.eq (g2 := F0 m 25 ls [.ref t]) rfl ?_
  refine lv_astore_n (lv' := [(2, .ref t), (0, .ref b.ho), (1, .int h)]) hx hb d_Ho_back_25 rfl hl (by decide) rfl (fun ls hl => ?_)
  refine lv_aload_n hx hb d_Ho_back_26 rfl (lv_at hl 0 rfl) ?_
  refine lv_ifnonnull (tgt := 34) hx hb d_Ho_back_27 (by decide) ?_
  refine lv_aload_n hx hb d_Ho_back_34 rfl (lv_at hl 0 rfl) ?_
  refine lv_aload_n hx hb d_Ho_back_35 rfl (lv_at hl 1 rfl) ?_
  refine gf_Ho_70 hx hb hW hown hG hV hH.ho d_Ho_back_36 ?_
  refine rc_I (va_runV (As := [.ref b.ta]) (rest := []) ⟨hx, hb, hml, hown, hts⟩ (c_Sn_restoreAll l D N0 k V t (b.vr (hdN h)) (σ.W (hdN h)) h_t hz_t b.ta b.f b.ar σ.T hH.ts (slOk_of hW0.2.1 hW0.2.2.2) (tsIn_of hH.lab)) (cwV 1 hts (gi_V wm_Ho_222 wv_Sn_restoreAll ws_Sn_restoreAll wi_Sn wc_Sn_restoreAll) rfl rfl rfl (by decide +kernel) ⟨Nat.le_of_ble_eq_true rfl, Nat.le_of_ble_eq_true rfl⟩) (mP.preV hG hS hV h_t rfl) rfl rfl hl.1 rfl (lv_room (Nat.le_of_ble_eq_true rfl)) d_Ho_back_39 ⟨Nat.le_of_ble_eq_true rfl, Nat.le_of_ble_eq_true rfl⟩) hS (fun r_1 V_2 H locs hp_3 hV hS => ?_)
  obtain ⟨er, T1, hT1, hF1, eT1⟩ := hp_3
  obtain ⟨hHa, hFa⟩ := hs_all hH hT1 hF1
  have hHe : hsOk k V_2 b (σ.wT (bkT σ (hdN h))) := hs_extT hHa (bkT_eq hW0.2.1 eT1)
  exact W.iret (v := r_1) hx hb hr (fun t9 ht hW => ⟨⟨r_1, V_2, rfl, ⟨W_keep hW0 hHe rfl rfl rfl rfl (fun i => ⟨bkT_lo (by omega), bkT_lo (by omega)⟩), hFa, by rw [er, bkC, cntF_congr 150 0 (fun j _ hj => by rw [hW0.2.1.1 j (by omega)])]⟩, mB_of ht hV⟩, hS.F ht⟩) hS.2.2 d_Ho_back_42
set_option maxHeartbeats 4000000 in
set_option maxRecDepth 100000 in
/-- back: not given -/
theorem t_Ho_back1 (l : Launch) (hls : l.stackTraces = false) (D : va_G) (N0 : Nat) (k : Nat → Nat) (V : HV) (b : HA) (σ : HS) (hH : hsOk k V b σ) (h : Int32) (hg : gvOk σ.G h = false) : hx_Met l y_Ho_back (.code y_Ho_back b_Ho_back 3 (some .int) :: WS) ({ frames := 7, cells := 1, slots := 6, locals := 114 }) (mP D N0 k [.ref b.ho, .int h] V) "java/lang/IndexOutOfBoundsException" (fun H9 => hv D vwCl N0 V H9) N0 1 6 := by
  refine hx_ofW (cc := b_Ho_back) (maxL := 3) (ret := (some .int)) (by decide) rfl ?_
  intro p e s m args below meth c s₁ B hml hno hv0
  obtain ⟨rfl, hG, hV⟩ := hv0
  have hx := B.exec
  have hb := B.bytes
  have hr := B.returns
  have hts := atoms_spec (ws := .code y_Ho_back b_Ho_back 3 (some .int) :: WS) B.pre
  have hW : ∀ w ∈ WS, w.before _ s = true := fun w h => hts w (List.mem_cons_of_mem _ h)
  have hown : s.vm.findClass "BoardHouse" = some m.cls := findClass_of_methodNamed B.named
  have hlocks := B.notSynchronized
  have hS : va_S (hA N0) s.heap s.heap [] := va_S.rf
  have hl := lv_entry ([.ref b.ho, .int h]) (n := 3) (Nat.le_of_ble_eq_true rfl)
  rw [lg_entry_eq]
  generalize (lg_sl ([.ref b.ho, .int h]) ++ List.replicate (3 - (lg_sl ([.ref b.ho, .int h])).length) Slot.unset).toArray = ls at hl ⊢
  have hl : lv_has ls 3 [(0, .ref b.ho), (1, .int h)] := hl
  refine lv_aload_n hx hb d_Ho_back_0 rfl (lv_at hl 0 rfl) ?_
  refine lv_iload_n hx hb d_Ho_back_1 rfl (lv_at hl 1 rfl) ?_
  exact hx_callOut (hx_runV (As := [.int h]) (rest := []) ⟨hx, hb, hml, hown, hts⟩ (t_Ho_demandGiven l hls D N0 k V b.ho b.bo b.gi b.co b.ta b.ac b.ve (woA b σ.wo) (nI σ.nl) σ.rs hH.ho σ.G hH.gi h hg) (cwV 1 hts (gi_V wm_Ho_97 wv_Ho_demandGiven ws_Ho_demandGiven wi_Ho wc_Ho_demandGiven) rfl rfl rfl (by decide +kernel) ⟨Nat.le_of_ble_eq_true rfl, Nat.le_of_ble_eq_true rfl⟩) (mP.preV hG hS hV hH.ho rfl) rfl rfl hl.1 rfl (lv_room (Nat.le_of_ble_eq_true rfl)) d_Ho_back_2 ⟨Nat.le_of_ble_eq_true rfl, Nat.le_of_ble_eq_true rfl⟩) hno hlocks hS (Nat.le_of_ble_eq_true rfl) (Nat.le_of_ble_eq_true rfl)
set_option maxHeartbeats 4000000 in
set_option maxRecDepth 100000 in
/-- back: not a version -/
theorem t_Ho_back2 (l : Launch) (hls : l.stackTraces = false) (D : va_G) (N0 : Nat) (k : Nat → Nat) (V : HV) (b : HA) (σ : HS) (hH : hsOk k V b σ) (h : Int32) (hg : gvOk σ.G h = true) (hk7 : ¬ h / 1000 = 7) : hx_Met l y_Ho_back (.code y_Ho_back b_Ho_back 3 (some .int) :: WS) ({ frames := 7, cells := 1, slots := 6, locals := 114 }) (mP D N0 k [.ref b.ho, .int h] V) "java/lang/IllegalArgumentException" (fun H9 => hv D vwCl N0 V H9) N0 1 6 := by
  refine hx_ofW (cc := b_Ho_back) (maxL := 3) (ret := (some .int)) (by decide) rfl ?_
  intro p e s m args below meth c s₁ B hml hno hv0
  obtain ⟨rfl, hG, hV⟩ := hv0
  have hx := B.exec
  have hb := B.bytes
  have hr := B.returns
  have hts := atoms_spec (ws := .code y_Ho_back b_Ho_back 3 (some .int) :: WS) B.pre
  have hW : ∀ w ∈ WS, w.before _ s = true := fun w h => hts w (List.mem_cons_of_mem _ h)
  have hown : s.vm.findClass "BoardHouse" = some m.cls := findClass_of_methodNamed B.named
  have hlocks := B.notSynchronized
  have hS : va_S (hA N0) s.heap s.heap [] := va_S.rf
  have hl := lv_entry ([.ref b.ho, .int h]) (n := 3) (Nat.le_of_ble_eq_true rfl)
  rw [lg_entry_eq]
  generalize (lg_sl ([.ref b.ho, .int h]) ++ List.replicate (3 - (lg_sl ([.ref b.ho, .int h])).length) Slot.unset).toArray = ls at hl ⊢
  have hl : lv_has ls 3 [(0, .ref b.ho), (1, .int h)] := hl
  refine lv_aload_n hx hb d_Ho_back_0 rfl (lv_at hl 0 rfl) ?_
  refine lv_iload_n hx hb d_Ho_back_1 rfl (lv_at hl 1 rfl) ?_
  refine va_csv (va_Run.run (va_runV (As := [.int h]) (rest := []) ⟨hx, hb, hml, hown, hts⟩ (r_Ho_demandGiven l D N0 k V b.ho b.bo b.gi b.co b.ta b.ac b.ve (woA b σ.wo) (nI σ.nl) σ.rs hH.ho σ.G hH.gi h hg) (cwV 1 hts (gi_V wm_Ho_97 wv_Ho_demandGiven ws_Ho_demandGiven wi_Ho wc_Ho_demandGiven) rfl rfl rfl (by decide +kernel) ⟨Nat.le_of_ble_eq_true rfl, Nat.le_of_ble_eq_true rfl⟩) (mP.preV hG hS hV hH.ho rfl) rfl rfl hl.1 rfl (lv_room (Nat.le_of_ble_eq_true rfl)) d_Ho_back_2 ⟨Nat.le_of_ble_eq_true rfl, Nat.le_of_ble_eq_true rfl⟩)) (fun _ => ?_)
  refine lv_iload_n hx hb d_Ho_back_5 rfl (lv_at hl 1 rfl) ?_
  refine lv_bipush (v := 7) hx hb d_Ho_back_6 (by decide) ?_
  exact hx_callOut (hx_runS (As := [.int h, .int 7]) (rest := []) ⟨hx, hb, hml, hown, hts⟩ (t_Ho_demandKind l hls D N0 k V h 7 hk7) (va_cwS 2 hts (gi_S wm_Ho_101 wt_Ho_demandKind wi_Ho wc_Ho_demandKind) rfl rfl rfl (by decide +kernel) ⟨Nat.le_of_ble_eq_true rfl, Nat.le_of_ble_eq_true rfl⟩) (mP.preS hG hS hV) rfl rfl hl.1 rfl (lv_room (Nat.le_of_ble_eq_true rfl)) d_Ho_back_8 ⟨Nat.le_of_ble_eq_true rfl, Nat.le_of_ble_eq_true rfl⟩) hno hlocks hS (Nat.le_of_ble_eq_true rfl) (Nat.le_of_ble_eq_true rfl)
set_option maxHeartbeats 4000000 in
set_option maxRecDepth 100000 in
/-- back: an act is open -/
theorem t_Ho_back3 (l : Launch) (hls : l.stackTraces = false) (D : va_G) (N0 : Nat) (k : Nat → Nat) (V : HV) (b : HA) (σ : HS) (hH : hsOk k V b σ) (h : Int32) (hg : gvOk σ.G h = true) (hk7 : h / 1000 = 7) (hno1 : anyF (opn σ.A) 0 10 = true) : hx_Met l y_Ho_back (.code y_Ho_back b_Ho_back 3 (some .int) :: WS) ({ frames := 7, cells := 1, slots := 6, locals := 114 }) (mP D N0 k [.ref b.ho, .int h] V) "java/lang/IllegalStateException" (fun H9 => hv D vwCl N0 V H9) N0 1 6 := by
  refine hx_ofW (cc := b_Ho_back) (maxL := 3) (ret := (some .int)) (by decide) rfl ?_
  intro p e s m args below meth c s₁ B hml hno hv0
  obtain ⟨rfl, hG, hV⟩ := hv0
  have hx := B.exec
  have hb := B.bytes
  have hr := B.returns
  have hts := atoms_spec (ws := .code y_Ho_back b_Ho_back 3 (some .int) :: WS) B.pre
  have hW : ∀ w ∈ WS, w.before _ s = true := fun w h => hts w (List.mem_cons_of_mem _ h)
  have hown : s.vm.findClass "BoardHouse" = some m.cls := findClass_of_methodNamed B.named
  have hlocks := B.notSynchronized
  have hS : va_S (hA N0) s.heap s.heap [] := va_S.rf
  have hl := lv_entry ([.ref b.ho, .int h]) (n := 3) (Nat.le_of_ble_eq_true rfl)
  rw [lg_entry_eq]
  generalize (lg_sl ([.ref b.ho, .int h]) ++ List.replicate (3 - (lg_sl ([.ref b.ho, .int h])).length) Slot.unset).toArray = ls at hl ⊢
  have hl : lv_has ls 3 [(0, .ref b.ho), (1, .int h)] := hl
  refine lv_aload_n hx hb d_Ho_back_0 rfl (lv_at hl 0 rfl) ?_
  refine lv_iload_n hx hb d_Ho_back_1 rfl (lv_at hl 1 rfl) ?_
  refine va_csv (va_Run.run (va_runV (As := [.int h]) (rest := []) ⟨hx, hb, hml, hown, hts⟩ (r_Ho_demandGiven l D N0 k V b.ho b.bo b.gi b.co b.ta b.ac b.ve (woA b σ.wo) (nI σ.nl) σ.rs hH.ho σ.G hH.gi h hg) (cwV 1 hts (gi_V wm_Ho_97 wv_Ho_demandGiven ws_Ho_demandGiven wi_Ho wc_Ho_demandGiven) rfl rfl rfl (by decide +kernel) ⟨Nat.le_of_ble_eq_true rfl, Nat.le_of_ble_eq_true rfl⟩) (mP.preV hG hS hV hH.ho rfl) rfl rfl hl.1 rfl (lv_room (Nat.le_of_ble_eq_true rfl)) d_Ho_back_2 ⟨Nat.le_of_ble_eq_true rfl, Nat.le_of_ble_eq_true rfl⟩)) (fun _ => ?_)
  refine lv_iload_n hx hb d_Ho_back_5 rfl (lv_at hl 1 rfl) ?_
  refine lv_bipush (v := 7) hx hb d_Ho_back_6 (by decide) ?_
  refine va_csv (va_Run.run (va_runS (As := [.int h, .int 7]) (rest := []) ⟨hx, hb, hml, hown, hts⟩ (r_Ho_demandKind l D N0 k V h 7 hk7) (va_cwS 2 hts (gi_S wm_Ho_101 wt_Ho_demandKind wi_Ho wc_Ho_demandKind) rfl rfl rfl (by decide +kernel) ⟨Nat.le_of_ble_eq_true rfl, Nat.le_of_ble_eq_true rfl⟩) (mP.preS hG hS hV) rfl rfl hl.1 rfl (lv_room (Nat.le_of_ble_eq_true rfl)) d_Ho_back_8 ⟨Nat.le_of_ble_eq_true rfl, Nat.le_of_ble_eq_true rfl⟩)) (fun _ => ?_)
  refine lv_aload_n hx hb d_Ho_back_11 rfl (lv_at hl 0 rfl) ?_
  exact hx_callOut (hx_runV (As := []) (rest := []) ⟨hx, hb, hml, hown, hts⟩ (t_Ho_demandNoOpenAct l hls D N0 k V b σ hH  hno1) (cwV 0 hts (gi_V wm_Ho_215 wv_Ho_demandNoOpenAct ws_Ho_demandNoOpenAct wi_Ho wc_Ho_demandNoOpenAct) rfl rfl rfl (by decide +kernel) ⟨Nat.le_of_ble_eq_true rfl, Nat.le_of_ble_eq_true rfl⟩) (mP.preV hG hS hV hH.ho rfl) rfl rfl hl.1 rfl (lv_room (Nat.le_of_ble_eq_true rfl)) d_Ho_back_12 ⟨Nat.le_of_ble_eq_true rfl, Nat.le_of_ble_eq_true rfl⟩) hno hlocks hS (Nat.le_of_ble_eq_true rfl) (Nat.le_of_ble_eq_true rfl)
set_option maxHeartbeats 4000000 in
set_option maxRecDepth 100000 in
/-- check -/
theorem c_Ho_check (l : Launch) (D : va_G) (N0 : Nat) (k : Nat → Nat) (V : HV) (b : HA) (σ : HS) (hW0 : hsW k V b σ) : Met l y_Ho_check (.code y_Ho_check b_Ho_check 3 (some .int) :: WS) ({ frames := 4, cells := 0, slots := 0, locals := 95 }) (mP D N0 k [.ref b.ho] V) (va_Qi (fun r V' => r = szF (cpF σ.T σ.g) 20 120 ∧ V' = V) (mB D N0) (hA N0)) 0 0 (hA N0) := by
  refine Met.ofW (cc := b_Ho_check) (maxL := 3) (ret := (some .int)) (by decide) rfl ?_
  intro p e s m args below meth c s₁ B hml hv0
  obtain ⟨rfl, hG, hV⟩ := hv0
  have hx := B.exec
  have hb := B.bytes
  have hr := B.returns
  have hts := atoms_spec (ws := .code y_Ho_check b_Ho_check 3 (some .int) :: WS) B.pre
  have hW : ∀ w ∈ WS, w.before _ s = true := fun w h => hts w (List.mem_cons_of_mem _ h)
  have hown : s.vm.findClass "BoardHouse" = some m.cls := findClass_of_methodNamed B.named
  have hlocks := B.notSynchronized
  have hS : va_S (hA N0) s.heap s.heap [] := va_S.rf
  have hl := lv_entry ([.ref b.ho]) (n := 3) (Nat.le_of_ble_eq_true rfl)
  rw [lg_entry_eq]
  generalize (lg_sl ([.ref b.ho]) ++ List.replicate (3 - (lg_sl ([.ref b.ho])).length) Slot.unset).toArray = ls at hl ⊢
  have hl : lv_has ls 3 [(0, .ref b.ho)] := hl
  have hH := hW0.1
  refine lv_iconst (v := 0) hx hb d_Ho_check_0 (by decide) ?_
  refine lv_istore_n (lv' := [(1, .int 0), (0, .ref b.ho)]) hx hb d_Ho_check_1 rfl hl (by decide) rfl (fun ls hl => ?_)
  refine lv_bipush (v := 20) hx hb d_Ho_check_2 (by decide) ?_
  refine lv_istore_n (lv' := [(2, .int 20), (1, .int 0), (0, .ref b.ho)]) hx hb d_Ho_check_4 rfl hl (by decide) rfl (fun ls hl => ?_)
  have loop_1 : ∀ (n i : Nat) (c0 : Int32) (H : Heap) (locs : List Loc) (ls : Array Slot), i ≤ 140 → 140 + 1 ≤ i + n → (c0 + szF (cpF σ.T σ.g) i (140 - i) = szF (cpF σ.T σ.g) 20 120) → hv D vwCl N0 V H → va_S (hA N0) s.heap H locs → lv_has ls 3 [(0, .ref b.ho), (1, .int c0), (2, .int (nI i))] → W p l e (headSpec (.code y_Ho_check b_Ho_check 3 (some .int) :: WS) ({ frames := 4, cells := 0, slots := 0, locals := 95 })).room s m #[.ref b.ho] below meth c H locs 0 0 (MQ below (va_Qi (fun r V' => r = szF (cpF σ.T σ.g) 20 120 ∧ V' = V) (mB D N0) (hA N0)) #[.ref b.ho] s 0 0 (hA N0)) (F0 m 5 ls []) := by
    intro n
    induction n with
    | zero => intro i c0 H locs ls h1 h2; exact absurd h2 (by omega)
    | succ n ih =>
      intro i c0 H locs ls hi hin hI hV hS hl
      refine lv_iload_n hx hb d_Ho_check_5 rfl (lv_at hl 2 rfl) ?_
      refine lv_sipush (v := 140) hx hb d_Ho_check_6 (by decide) ?_
      refine lv_icmp_ge (tgt := 29) hx hb d_Ho_check_9 (by decide) (fun c_2 => ?_) (fun c_2 => ?_)
      · have hge : 140 ≤ i := nI_le' (a := 140) (b := i) c_2 (by decide) (by omega)
        refine lv_iload_n hx hb d_Ho_check_29 rfl (lv_at hl 1 rfl) ?_
        exact W.iret (v := c0) hx hb hr (fun t9 ht hW => ⟨⟨c0, V, rfl, ⟨by rw [← hI, szF_end hge]; exact (Int32.add_zero _).symm, rfl⟩, mB_of ht hV⟩, hS.F ht⟩) hS.2.2 d_Ho_check_30
      · have hlt : i < 140 := nI_nle' (a := 140) (b := i) c_2 (by decide) (by omega)
        refine lv_iload_n hx hb d_Ho_check_12 rfl (lv_at hl 1 rfl) ?_
        refine lv_aload_n hx hb d_Ho_check_13 rfl (lv_at hl 0 rfl) ?_
        refine gf_Ho_62 hx hb hW hown hG hV hH.ho d_Ho_check_14 ?_
        refine lv_iload_n hx hb d_Ho_check_17 rfl (lv_at hl 2 rfl) ?_
        refine rc_i (va_runV (As := [.int (nI i)]) (rest := [.int c0]) ⟨hx, hb, hml, hown, hts⟩ (c_Co_countPartners l D N0 k V b.co b.ta b.ro b.on b.re (nI σ.nl) σ.g hH.co b.f b.ar σ.T hH.ts i (by omega)) (cwV 1 hts (gi_V wm_Ho_152 wv_Co_countPartners ws_Co_countPartners wi_Co wc_Co_countPartners) rfl rfl rfl (by decide +kernel) ⟨Nat.le_of_ble_eq_true rfl, Nat.le_of_ble_eq_true rfl⟩) (mP.preV hG hS hV hH.co rfl) rfl rfl hl.1 rfl (lv_room (Nat.le_of_ble_eq_true rfl)) d_Ho_check_18 ⟨Nat.le_of_ble_eq_true rfl, Nat.le_of_ble_eq_true rfl⟩) hS (fun H locs hV hS => ?_)
        refine W.eq (g2 := F0 m 21 ls [.int (cpF σ.T σ.g i), .int c0]) rfl ?_
        refine lv_iadd hx hb d_Ho_check_21 ?_
        refine lv_istore_n (lv' := [(1, .int (c0 + (cpF σ.T σ.g i))), (0, .ref b.ho), (2, .int (nI i))]) hx hb d_Ho_check_22 rfl hl (by decide) rfl (fun ls hl => ?_)
        obtain ⟨i_3, ei_3⟩ : ∃ y : Int32, y = (nI i) + 1 := ⟨_, rfl⟩
        refine lv_iinc (v := i_3) (lv' := [(2, .int i_3), (1, .int (c0 + (cpF σ.T σ.g i))), (0, .ref b.ho)]) hx hb d_Ho_check_23 hl (k := 2) rfl (by rw [ei_3]; rfl) (by decide) rfl (fun ls hl => ?_)
        refine lv_goto (tgt := 5) hx hb d_Ho_check_26 (by decide) ?_
        rw [nI_1] at ei_3
        subst ei_3
        exact ih (i + 1) (c0 + cpF σ.T σ.g i) _ _ _ (by omega) (by omega) (by rw [← hI, szF_step hlt, Int32.add_assoc]) hV hS (lv_sub hl [2, 1, 0] rfl)
  exact loop_1 (140 + 1 - 20) 20 0 _ _ _ (by omega) (by omega) (Int32.zero_add _) hV hS (lv_sub hl [2, 1, 0] rfl)
set_option maxHeartbeats 4000000 in
set_option maxRecDepth 100000 in
/-- near -/
theorem c_Ho_near (l : Launch) (D : va_G) (N0 : Nat) (k : Nat → Nat) (V : HV) (b : HA) (σ : HS) (hW0 : hsW k V b σ) (q0 wh : Int32) (hok : (decide (wh = 0) || decide (wh = 1)) = true) : Met l y_Ho_near (.code y_Ho_near b_Ho_near 6 (some .int) :: WS) ({ frames := 6, cells := 0, slots := 0, locals := 96 }) (mP D N0 k [.ref b.ho, .int q0, .int wh] V) (va_Qi (fun r V' => r = nrF σ.T σ.g wh 20 120 q0 ∧ V' = V) (mB D N0) (hA N0)) 0 0 (hA N0) := by
  refine Met.ofW (cc := b_Ho_near) (maxL := 6) (ret := (some .int)) (by decide) rfl ?_
  intro p e s m args below meth c s₁ B hml hv0
  obtain ⟨rfl, hG, hV⟩ := hv0
  have hx := B.exec
  have hb := B.bytes
  have hr := B.returns
  have hts := atoms_spec (ws := .code y_Ho_near b_Ho_near 6 (some .int) :: WS) B.pre
  have hW : ∀ w ∈ WS, w.before _ s = true := fun w h => hts w (List.mem_cons_of_mem _ h)
  have hown : s.vm.findClass "BoardHouse" = some m.cls := findClass_of_methodNamed B.named
  have hlocks := B.notSynchronized
  have hS : va_S (hA N0) s.heap s.heap [] := va_S.rf
  have hl := lv_entry ([.ref b.ho, .int q0, .int wh]) (n := 6) (Nat.le_of_ble_eq_true rfl)
  rw [lg_entry_eq]
  generalize (lg_sl ([.ref b.ho, .int q0, .int wh]) ++ List.replicate (6 - (lg_sl ([.ref b.ho, .int q0, .int wh])).length) Slot.unset).toArray = ls at hl ⊢
  have hl : lv_has ls 6 [(0, .ref b.ho), (1, .int q0), (2, .int wh)] := hl
  have hH := hW0.1
  refine lv_iload_n hx hb d_Ho_near_0 rfl (lv_at hl 2 rfl) ?_
  refine lv_if_eq (tgt := 19) hx hb d_Ho_near_1 (by decide) (fun c_1 => ?_) (fun c_1 => ?_)
  · refine lv_iload_n hx hb d_Ho_near_19 rfl (lv_at hl 1 rfl) ?_
    refine lv_istore_n (lv' := [(3, .int q0), (0, .ref b.ho), (1, .int q0), (2, .int wh)]) hx hb d_Ho_near_20 rfl hl (by decide) rfl (fun ls hl => ?_)
    refine lv_bipush (v := 20) hx hb d_Ho_near_21 (by decide) ?_
    refine lv_istore (lv' := [(4, .int 20), (3, .int q0), (0, .ref b.ho), (1, .int q0), (2, .int wh)]) hx hb d_Ho_near_23 hl (by decide) rfl (fun ls hl => ?_)
    have loop_2 : ∀ (n i : Nat) (c0 : Int32) (H : Heap) (locs : List Loc) (ls : Array Slot), i ≤ 140 → 140 + 1 ≤ i + n → (nrF σ.T σ.g wh 20 120 q0 = nrF σ.T σ.g wh i (140 - i) c0) → hv D vwCl N0 V H → va_S (hA N0) s.heap H locs → lv_has ls 6 [(0, .ref b.ho), (1, .int q0), (2, .int wh), (3, .int c0), (4, .int (nI i))] → W p l e (headSpec (.code y_Ho_near b_Ho_near 6 (some .int) :: WS) ({ frames := 6, cells := 0, slots := 0, locals := 96 })).room s m #[.ref b.ho, .int q0, .int wh] below meth c H locs 0 0 (MQ below (va_Qi (fun r V' => r = nrF σ.T σ.g wh 20 120 q0 ∧ V' = V) (mB D N0) (hA N0)) #[.ref b.ho, .int q0, .int wh] s 0 0 (hA N0)) (F0 m 25 ls []) := by
      intro n
      induction n with
      | zero => intro i c0 H locs ls h1 h2; exact absurd h2 (by omega)
      | succ n ih =>
        intro i c0 H locs ls hi hin hI hV hS hl
        refine lv_iload hx hb d_Ho_near_25 (lv_at hl 4 rfl) ?_
        refine lv_sipush (v := 140) hx hb d_Ho_near_27 (by decide) ?_
        refine lv_icmp_ge (tgt := 92) hx hb d_Ho_near_30 (by decide) (fun c_3 => ?_) (fun c_3 => ?_)
        · have hge : 140 ≤ i := nI_le' (a := 140) (b := i) c_3 (by decide) (by omega)
          refine lv_iconst (v := (-1)) hx hb d_Ho_near_92 (by decide) ?_
          exact W.iret (v := (-1)) hx hb hr (fun t9 ht hW => ⟨⟨(-1), V, rfl, ⟨by rw [hI, nrF_end hge], rfl⟩, mB_of ht hV⟩, hS.F ht⟩) hS.2.2 d_Ho_near_93
        · have hlt : i < 140 := nI_nle' (a := 140) (b := i) c_3 (by decide) (by omega)
          refine lv_iload_n hx hb d_Ho_near_33 rfl (lv_at hl 3 rfl) ?_
          refine lv_if_lt (tgt := 92) hx hb d_Ho_near_34 (by decide) (fun c_4 => ?_) (fun c_4 => ?_)
          · have c_4 := i_nle c_4
            refine lv_iconst (v := (-1)) hx hb d_Ho_near_92 (by decide) ?_
            exact W.iret (v := (-1)) hx hb hr (fun t9 ht hW => ⟨⟨(-1), V, rfl, ⟨by rw [hI, nrF_step hlt, if_neg c_4], rfl⟩, mB_of ht hV⟩, hS.F ht⟩) hS.2.2 d_Ho_near_93
          · have c_4 := i_le c_4
            refine lv_aload_n hx hb d_Ho_near_37 rfl (lv_at hl 0 rfl) ?_
            refine gf_Ho_62 hx hb hW hown hG hV hH.ho d_Ho_near_38 ?_
            refine lv_iload hx hb d_Ho_near_41 (lv_at hl 4 rfl) ?_
            refine rc_i (va_runV (As := [.int (nI i)]) (rest := []) ⟨hx, hb, hml, hown, hts⟩ (c_Co_countPartners l D N0 k V b.co b.ta b.ro b.on b.re (nI σ.nl) σ.g hH.co b.f b.ar σ.T hH.ts i (by omega)) (cwV 1 hts (gi_V wm_Ho_152 wv_Co_countPartners ws_Co_countPartners wi_Co wc_Co_countPartners) rfl rfl rfl (by decide +kernel) ⟨Nat.le_of_ble_eq_true rfl, Nat.le_of_ble_eq_true rfl⟩) (mP.preV hG hS hV hH.co rfl) rfl rfl hl.1 rfl (lv_room (Nat.le_of_ble_eq_true rfl)) d_Ho_near_43 ⟨Nat.le_of_ble_eq_true rfl, Nat.le_of_ble_eq_true rfl⟩) hS (fun H locs hV hS => ?_)
            refine W.eq (g2 := F0 m 46 ls [.int (cpF σ.T σ.g i)]) rfl ?_
            refine lv_istore (lv' := [(5, .int (cpF σ.T σ.g i)), (0, .ref b.ho), (1, .int q0), (2, .int wh), (3, .int c0), (4, .int (nI i))]) hx hb d_Ho_near_46 hl (by decide) rfl (fun ls hl => ?_)
            refine lv_iload_n hx hb d_Ho_near_48 rfl (lv_at hl 4 rfl) ?_
            refine lv_iload hx hb d_Ho_near_49 (lv_at hl 0 rfl) ?_
            refine lv_icmp_ge (tgt := 81) hx hb d_Ho_near_51 (by decide) (fun c_5 => ?_) (fun c_5 => ?_)
            · refine lv_iload_n hx hb d_Ho_near_81 rfl (lv_at hl 4 rfl) ?_
              refine lv_iload hx hb d_Ho_near_82 (lv_at hl 0 rfl) ?_
              refine lv_isub hx hb d_Ho_near_84 ?_
              refine lv_istore_n (lv' := [(3, .int (c0 - (cpF σ.T σ.g i))), (5, .int (cpF σ.T σ.g i)), (0, .ref b.ho), (1, .int q0), (2, .int wh), (4, .int (nI i))]) hx hb d_Ho_near_85 rfl hl (by decide) rfl (fun ls hl => ?_)
              obtain ⟨i_6, ei_6⟩ : ∃ y : Int32, y = (nI i) + 1 := ⟨_, rfl⟩
              refine lv_iinc (v := i_6) (lv' := [(4, .int i_6), (3, .int (c0 - (cpF σ.T σ.g i))), (5, .int (cpF σ.T σ.g i)), (0, .ref b.ho), (1, .int q0), (2, .int wh)]) hx hb d_Ho_near_86 hl (k := 5) rfl (by rw [ei_6]; rfl) (by decide) rfl (fun ls hl => ?_)
              refine lv_goto (tgt := 25) hx hb d_Ho_near_89 (by decide) ?_
              rw [nI_1] at ei_6
              subst ei_6
              exact ih (i + 1) (c0 - cpF σ.T σ.g i) _ _ _ (by omega) (by omega) (by rw [hI, nrF_step hlt, if_pos c_4, if_pos c_5]) hV hS (lv_sub hl [3, 4, 5, 1, 0] rfl)
            · refine lv_iload_n hx hb d_Ho_near_54 rfl (lv_at hl 3 rfl) ?_
              refine lv_if_ne (tgt := 70) hx hb d_Ho_near_55 (by decide) (fun c_7 => ?_) (fun c_7 => ?_)
              · obtain ⟨eb, hb31⟩ := nI_back c_4
                have hl : lv_has ls 6 [(5, .int (cpF σ.T σ.g i)), (0, .ref b.ho), (1, .int q0), (2, .int wh), (3, .int (nI c0.toNatClampNeg)), (4, .int (nI i))] := by rw [eb]; exact hl
                refine lv_aload_n hx hb d_Ho_near_70 rfl (lv_at hl 1 rfl) ?_
                refine gf_Ho_62 hx hb hW hown hG hV hH.ho d_Ho_near_71 ?_
                refine lv_iload hx hb d_Ho_near_74 (lv_at hl 5 rfl) ?_
                refine lv_iload_n hx hb d_Ho_near_76 rfl (lv_at hl 4 rfl) ?_
                refine rc_i (va_runV (As := [.int (nI i), .int (nI c0.toNatClampNeg)]) (rest := []) ⟨hx, hb, hml, hown, hts⟩ (c_Co_partnerOf l D N0 k V b.co b.ta b.ro b.on b.re (nI σ.nl) σ.g hH.co b.f b.ar σ.T hH.ts i c0.toNatClampNeg (by omega) hb31) (cwV 2 hts (gi_V wm_Ho_163 wv_Co_partnerOf ws_Co_partnerOf wi_Co wc_Co_partnerOf) rfl rfl rfl (by decide +kernel) ⟨Nat.le_of_ble_eq_true rfl, Nat.le_of_ble_eq_true rfl⟩) (mP.preV hG hS hV hH.co rfl) rfl rfl hl.1 rfl (lv_room (Nat.le_of_ble_eq_true rfl)) d_Ho_near_77 ⟨Nat.le_of_ble_eq_true rfl, Nat.le_of_ble_eq_true rfl⟩) hS (fun H locs hV hS => ?_)
                refine W.eq (g2 := F0 m 80 ls [.int (paF σ.T σ.g i c0.toNatClampNeg)]) rfl ?_
                exact W.iret (v := (paF σ.T σ.g i c0.toNatClampNeg)) hx hb hr (fun t9 ht hW => ⟨⟨(paF σ.T σ.g i c0.toNatClampNeg), V, rfl, ⟨by rw [hI, nrF_step hlt, if_pos c_4, if_neg c_5, if_neg c_7], rfl⟩, mB_of ht hV⟩, hS.F ht⟩) hS.2.2 d_Ho_near_80
              · refine lv_aload_n hx hb d_Ho_near_58 rfl (lv_at hl 1 rfl) ?_
                refine gf_Ho_62 hx hb hW hown hG hV hH.ho d_Ho_near_59 ?_
                refine lv_iload hx hb d_Ho_near_62 (lv_at hl 5 rfl) ?_
                refine rc_i (va_runV (As := [.int (nI i)]) (rest := []) ⟨hx, hb, hml, hown, hts⟩ (c_Co_handleAt l D N0 k V b.co b.ta b.ro b.on b.re (nI σ.nl) σ.g hH.co b.f b.ar σ.T hH.ts i (by omega)) (cwV 1 hts (gi_V wm_Ho_160 wv_Co_handleAt ws_Co_handleAt wi_Co wc_Co_handleAt) rfl rfl rfl (by decide +kernel) ⟨Nat.le_of_ble_eq_true rfl, Nat.le_of_ble_eq_true rfl⟩) (mP.preV hG hS hV hH.co rfl) rfl rfl hl.1 rfl (lv_room (Nat.le_of_ble_eq_true rfl)) d_Ho_near_64 ⟨Nat.le_of_ble_eq_true rfl, Nat.le_of_ble_eq_true rfl⟩) hS (fun H locs hV hS => ?_)
                refine W.eq (g2 := F0 m 67 ls [.int (haF σ.T i)]) rfl ?_
                refine lv_goto (tgt := 80) hx hb d_Ho_near_67 (by decide) ?_
                exact W.iret (v := (haF σ.T i)) hx hb hr (fun t9 ht hW => ⟨⟨(haF σ.T i), V, rfl, ⟨by rw [hI, nrF_step hlt, if_pos c_4, if_neg c_5, if_pos c_7], rfl⟩, mB_of ht hV⟩, hS.F ht⟩) hS.2.2 d_Ho_near_80
    exact loop_2 (140 + 1 - 20) 20 q0 _ _ _ (by omega) (by omega) rfl hV hS (lv_sub hl [2, 3, 4, 1, 0] rfl)
  · refine lv_iload_n hx hb d_Ho_near_4 rfl (lv_at hl 2 rfl) ?_
    refine lv_iconst (v := 1) hx hb d_Ho_near_5 (by decide) ?_
    refine lv_icmp_eq (tgt := 19) hx hb d_Ho_near_6 (by decide) (fun c_8 => ?_) (fun c_8 => ?_)
    · refine lv_iload_n hx hb d_Ho_near_19 rfl (lv_at hl 1 rfl) ?_
      refine lv_istore_n (lv' := [(3, .int q0), (0, .ref b.ho), (1, .int q0), (2, .int wh)]) hx hb d_Ho_near_20 rfl hl (by decide) rfl (fun ls hl => ?_)
      refine lv_bipush (v := 20) hx hb d_Ho_near_21 (by decide) ?_
      refine lv_istore (lv' := [(4, .int 20), (3, .int q0), (0, .ref b.ho), (1, .int q0), (2, .int wh)]) hx hb d_Ho_near_23 hl (by decide) rfl (fun ls hl => ?_)
      have loop_9 : ∀ (n i : Nat) (c0 : Int32) (H : Heap) (locs : List Loc) (ls : Array Slot), i ≤ 140 → 140 + 1 ≤ i + n → (nrF σ.T σ.g wh 20 120 q0 = nrF σ.T σ.g wh i (140 - i) c0) → hv D vwCl N0 V H → va_S (hA N0) s.heap H locs → lv_has ls 6 [(0, .ref b.ho), (1, .int q0), (2, .int wh), (3, .int c0), (4, .int (nI i))] → W p l e (headSpec (.code y_Ho_near b_Ho_near 6 (some .int) :: WS) ({ frames := 6, cells := 0, slots := 0, locals := 96 })).room s m #[.ref b.ho, .int q0, .int wh] below meth c H locs 0 0 (MQ below (va_Qi (fun r V' => r = nrF σ.T σ.g wh 20 120 q0 ∧ V' = V) (mB D N0) (hA N0)) #[.ref b.ho, .int q0, .int wh] s 0 0 (hA N0)) (F0 m 25 ls []) := by
        intro n
        induction n with
        | zero => intro i c0 H locs ls h1 h2; exact absurd h2 (by omega)
        | succ n ih =>
          intro i c0 H locs ls hi hin hI hV hS hl
          refine lv_iload hx hb d_Ho_near_25 (lv_at hl 4 rfl) ?_
          refine lv_sipush (v := 140) hx hb d_Ho_near_27 (by decide) ?_
          refine lv_icmp_ge (tgt := 92) hx hb d_Ho_near_30 (by decide) (fun c_10 => ?_) (fun c_10 => ?_)
          · have hge : 140 ≤ i := nI_le' (a := 140) (b := i) c_10 (by decide) (by omega)
            refine lv_iconst (v := (-1)) hx hb d_Ho_near_92 (by decide) ?_
            exact W.iret (v := (-1)) hx hb hr (fun t9 ht hW => ⟨⟨(-1), V, rfl, ⟨by rw [hI, nrF_end hge], rfl⟩, mB_of ht hV⟩, hS.F ht⟩) hS.2.2 d_Ho_near_93
          · have hlt : i < 140 := nI_nle' (a := 140) (b := i) c_10 (by decide) (by omega)
            refine lv_iload_n hx hb d_Ho_near_33 rfl (lv_at hl 3 rfl) ?_
            refine lv_if_lt (tgt := 92) hx hb d_Ho_near_34 (by decide) (fun c_11 => ?_) (fun c_11 => ?_)
            · have c_11 := i_nle c_11
              refine lv_iconst (v := (-1)) hx hb d_Ho_near_92 (by decide) ?_
              exact W.iret (v := (-1)) hx hb hr (fun t9 ht hW => ⟨⟨(-1), V, rfl, ⟨by rw [hI, nrF_step hlt, if_neg c_11], rfl⟩, mB_of ht hV⟩, hS.F ht⟩) hS.2.2 d_Ho_near_93
            · have c_11 := i_le c_11
              refine lv_aload_n hx hb d_Ho_near_37 rfl (lv_at hl 0 rfl) ?_
              refine gf_Ho_62 hx hb hW hown hG hV hH.ho d_Ho_near_38 ?_
              refine lv_iload hx hb d_Ho_near_41 (lv_at hl 4 rfl) ?_
              refine rc_i (va_runV (As := [.int (nI i)]) (rest := []) ⟨hx, hb, hml, hown, hts⟩ (c_Co_countPartners l D N0 k V b.co b.ta b.ro b.on b.re (nI σ.nl) σ.g hH.co b.f b.ar σ.T hH.ts i (by omega)) (cwV 1 hts (gi_V wm_Ho_152 wv_Co_countPartners ws_Co_countPartners wi_Co wc_Co_countPartners) rfl rfl rfl (by decide +kernel) ⟨Nat.le_of_ble_eq_true rfl, Nat.le_of_ble_eq_true rfl⟩) (mP.preV hG hS hV hH.co rfl) rfl rfl hl.1 rfl (lv_room (Nat.le_of_ble_eq_true rfl)) d_Ho_near_43 ⟨Nat.le_of_ble_eq_true rfl, Nat.le_of_ble_eq_true rfl⟩) hS (fun H locs hV hS => ?_)
              refine W.eq (g2 := F0 m 46 ls [.int (cpF σ.T σ.g i)]) rfl ?_
              refine lv_istore (lv' := [(5, .int (cpF σ.T σ.g i)), (0, .ref b.ho), (1, .int q0), (2, .int wh), (3, .int c0), (4, .int (nI i))]) hx hb d_Ho_near_46 hl (by decide) rfl (fun ls hl => ?_)
              refine lv_iload_n hx hb d_Ho_near_48 rfl (lv_at hl 4 rfl) ?_
              refine lv_iload hx hb d_Ho_near_49 (lv_at hl 0 rfl) ?_
              refine lv_icmp_ge (tgt := 81) hx hb d_Ho_near_51 (by decide) (fun c_12 => ?_) (fun c_12 => ?_)
              · refine lv_iload_n hx hb d_Ho_near_81 rfl (lv_at hl 4 rfl) ?_
                refine lv_iload hx hb d_Ho_near_82 (lv_at hl 0 rfl) ?_
                refine lv_isub hx hb d_Ho_near_84 ?_
                refine lv_istore_n (lv' := [(3, .int (c0 - (cpF σ.T σ.g i))), (5, .int (cpF σ.T σ.g i)), (0, .ref b.ho), (1, .int q0), (2, .int wh), (4, .int (nI i))]) hx hb d_Ho_near_85 rfl hl (by decide) rfl (fun ls hl => ?_)
                obtain ⟨i_13, ei_13⟩ : ∃ y : Int32, y = (nI i) + 1 := ⟨_, rfl⟩
                refine lv_iinc (v := i_13) (lv' := [(4, .int i_13), (3, .int (c0 - (cpF σ.T σ.g i))), (5, .int (cpF σ.T σ.g i)), (0, .ref b.ho), (1, .int q0), (2, .int wh)]) hx hb d_Ho_near_86 hl (k := 5) rfl (by rw [ei_13]; rfl) (by decide) rfl (fun ls hl => ?_)
                refine lv_goto (tgt := 25) hx hb d_Ho_near_89 (by decide) ?_
                rw [nI_1] at ei_13
                subst ei_13
                exact ih (i + 1) (c0 - cpF σ.T σ.g i) _ _ _ (by omega) (by omega) (by rw [hI, nrF_step hlt, if_pos c_11, if_pos c_12]) hV hS (lv_sub hl [3, 4, 5, 1, 0] rfl)
              · refine lv_iload_n hx hb d_Ho_near_54 rfl (lv_at hl 3 rfl) ?_
                refine lv_if_ne (tgt := 70) hx hb d_Ho_near_55 (by decide) (fun c_14 => ?_) (fun c_14 => ?_)
                · obtain ⟨eb, hb31⟩ := nI_back c_11
                  have hl : lv_has ls 6 [(5, .int (cpF σ.T σ.g i)), (0, .ref b.ho), (1, .int q0), (2, .int wh), (3, .int (nI c0.toNatClampNeg)), (4, .int (nI i))] := by rw [eb]; exact hl
                  refine lv_aload_n hx hb d_Ho_near_70 rfl (lv_at hl 1 rfl) ?_
                  refine gf_Ho_62 hx hb hW hown hG hV hH.ho d_Ho_near_71 ?_
                  refine lv_iload hx hb d_Ho_near_74 (lv_at hl 5 rfl) ?_
                  refine lv_iload_n hx hb d_Ho_near_76 rfl (lv_at hl 4 rfl) ?_
                  refine rc_i (va_runV (As := [.int (nI i), .int (nI c0.toNatClampNeg)]) (rest := []) ⟨hx, hb, hml, hown, hts⟩ (c_Co_partnerOf l D N0 k V b.co b.ta b.ro b.on b.re (nI σ.nl) σ.g hH.co b.f b.ar σ.T hH.ts i c0.toNatClampNeg (by omega) hb31) (cwV 2 hts (gi_V wm_Ho_163 wv_Co_partnerOf ws_Co_partnerOf wi_Co wc_Co_partnerOf) rfl rfl rfl (by decide +kernel) ⟨Nat.le_of_ble_eq_true rfl, Nat.le_of_ble_eq_true rfl⟩) (mP.preV hG hS hV hH.co rfl) rfl rfl hl.1 rfl (lv_room (Nat.le_of_ble_eq_true rfl)) d_Ho_near_77 ⟨Nat.le_of_ble_eq_true rfl, Nat.le_of_ble_eq_true rfl⟩) hS (fun H locs hV hS => ?_)
                  refine W.eq (g2 := F0 m 80 ls [.int (paF σ.T σ.g i c0.toNatClampNeg)]) rfl ?_
                  exact W.iret (v := (paF σ.T σ.g i c0.toNatClampNeg)) hx hb hr (fun t9 ht hW => ⟨⟨(paF σ.T σ.g i c0.toNatClampNeg), V, rfl, ⟨by rw [hI, nrF_step hlt, if_pos c_11, if_neg c_12, if_neg c_14], rfl⟩, mB_of ht hV⟩, hS.F ht⟩) hS.2.2 d_Ho_near_80
                · refine lv_aload_n hx hb d_Ho_near_58 rfl (lv_at hl 1 rfl) ?_
                  refine gf_Ho_62 hx hb hW hown hG hV hH.ho d_Ho_near_59 ?_
                  refine lv_iload hx hb d_Ho_near_62 (lv_at hl 5 rfl) ?_
                  refine rc_i (va_runV (As := [.int (nI i)]) (rest := []) ⟨hx, hb, hml, hown, hts⟩ (c_Co_handleAt l D N0 k V b.co b.ta b.ro b.on b.re (nI σ.nl) σ.g hH.co b.f b.ar σ.T hH.ts i (by omega)) (cwV 1 hts (gi_V wm_Ho_160 wv_Co_handleAt ws_Co_handleAt wi_Co wc_Co_handleAt) rfl rfl rfl (by decide +kernel) ⟨Nat.le_of_ble_eq_true rfl, Nat.le_of_ble_eq_true rfl⟩) (mP.preV hG hS hV hH.co rfl) rfl rfl hl.1 rfl (lv_room (Nat.le_of_ble_eq_true rfl)) d_Ho_near_64 ⟨Nat.le_of_ble_eq_true rfl, Nat.le_of_ble_eq_true rfl⟩) hS (fun H locs hV hS => ?_)
                  refine W.eq (g2 := F0 m 67 ls [.int (haF σ.T i)]) rfl ?_
                  refine lv_goto (tgt := 80) hx hb d_Ho_near_67 (by decide) ?_
                  exact W.iret (v := (haF σ.T i)) hx hb hr (fun t9 ht hW => ⟨⟨(haF σ.T i), V, rfl, ⟨by rw [hI, nrF_step hlt, if_pos c_11, if_neg c_12, if_pos c_14], rfl⟩, mB_of ht hV⟩, hS.F ht⟩) hS.2.2 d_Ho_near_80
      exact loop_9 (140 + 1 - 20) 20 q0 _ _ _ (by omega) (by omega) rfl hV hS (lv_sub hl [2, 3, 4, 1, 0] rfl)
    · exact absurd hok (by simp [Bool.or_eq_true, c_1, c_8])
set_option maxHeartbeats 4000000 in
set_option maxRecDepth 100000 in
/-- near: no such which -/
theorem t_Ho_near (l : Launch) (hls : l.stackTraces = false) (D : va_G) (N0 : Nat) (k : Nat → Nat) (V : HV) (b : HA) (σ : HS) (hH : hsOk k V b σ) (q0 wh : Int32) (hok : (decide (wh = 0) || decide (wh = 1)) = false) : hx_Met l y_Ho_near (.code y_Ho_near b_Ho_near 6 (some .int) :: WS) ({ frames := 6, cells := 1, slots := 6, locals := 96 }) (mP D N0 k [.ref b.ho, .int q0, .int wh] V) "java/lang/IndexOutOfBoundsException" (fun H9 => hv D vwCl N0 V H9) N0 1 6 := by
  refine hx_ofW (cc := b_Ho_near) (maxL := 6) (ret := (some .int)) (by decide) rfl ?_
  intro p e s m args below meth c s₁ B hml hno hv0
  obtain ⟨rfl, hG, hV⟩ := hv0
  have hx := B.exec
  have hb := B.bytes
  have hr := B.returns
  have hts := atoms_spec (ws := .code y_Ho_near b_Ho_near 6 (some .int) :: WS) B.pre
  have hW : ∀ w ∈ WS, w.before _ s = true := fun w h => hts w (List.mem_cons_of_mem _ h)
  have hown : s.vm.findClass "BoardHouse" = some m.cls := findClass_of_methodNamed B.named
  have hlocks := B.notSynchronized
  have hS : va_S (hA N0) s.heap s.heap [] := va_S.rf
  have hl := lv_entry ([.ref b.ho, .int q0, .int wh]) (n := 6) (Nat.le_of_ble_eq_true rfl)
  rw [lg_entry_eq]
  generalize (lg_sl ([.ref b.ho, .int q0, .int wh]) ++ List.replicate (6 - (lg_sl ([.ref b.ho, .int q0, .int wh])).length) Slot.unset).toArray = ls at hl ⊢
  have hl : lv_has ls 6 [(0, .ref b.ho), (1, .int q0), (2, .int wh)] := hl
  refine lv_iload_n hx hb d_Ho_near_0 rfl (lv_at hl 2 rfl) ?_
  refine lv_if_eq (tgt := 19) hx hb d_Ho_near_1 (by decide) (fun c_1 => ?_) (fun c_1 => ?_)
  · exact absurd hok (by simp [Bool.or_eq_true, c_1])
  · refine lv_iload_n hx hb d_Ho_near_4 rfl (lv_at hl 2 rfl) ?_
    refine lv_iconst (v := 1) hx hb d_Ho_near_5 (by decide) ?_
    refine lv_icmp_eq (tgt := 19) hx hb d_Ho_near_6 (by decide) (fun c_2 => ?_) (fun c_2 => ?_)
    · exact absurd hok (by simp [Bool.or_eq_true, c_1, c_2])
    · obtain ⟨sa, hstr⟩ := hG.2.2.2.2.2.2.2.2 (157, "which is 0 or 1") (by decide)
      exact hx_throwS (own := "BoardHouse") (cls := "java/lang/IndexOutOfBoundsException") (text := "which is 0 or 1") (names := xN) (ik := 155) (is := 157) (ic := 159) hx hb hls hown (by decide +kernel) (by decide +kernel) (hW _ wk_Ho_155) (hW _ wi_JX) hstr (own_of hW hG own_X) (by rw [hml]; exact hl.1) d_Ho_near_9 d_Ho_near_12 d_Ho_near_13 d_Ho_near_15 d_Ho_near_18 hno (Nat.le_of_ble_eq_true rfl) (Nat.le_of_ble_eq_true rfl) (Nat.le_of_ble_eq_true rfl) (Nat.le_of_ble_eq_true rfl) hlocks (fun H9 h91 h92 => hv.keep hV h92)
set_option maxHeartbeats 4000000 in
set_option maxRecDepth 100000 in
/-- count -/
theorem c_Ho_count (l : Launch) (D : va_G) (N0 : Nat) (k : Nat → Nat) (V : HV) (b : HA) (σ : HS) (hW0 : hsW k V b σ) (kd : Int32) (hok : (decide (2 ≤ kd) && decide (kd ≤ 5)) = true) : Met l y_Ho_count (.code y_Ho_count b_Ho_count 7 (some .int) :: WS) ({ frames := 6, cells := 0, slots := 0, locals := 90 }) (mP D N0 k [.ref b.ho, .int kd] V) (va_Qi (fun r V' => r = nI (cntF (kdC σ.T kd) 0 150) ∧ V' = V) (mB D N0) (hA N0)) 0 0 (hA N0) := by
  refine Met.ofW (cc := b_Ho_count) (maxL := 7) (ret := (some .int)) (by decide) rfl ?_
  intro p e s m args below meth c s₁ B hml hv0
  obtain ⟨rfl, hG, hV⟩ := hv0
  have hx := B.exec
  have hb := B.bytes
  have hr := B.returns
  have hts := atoms_spec (ws := .code y_Ho_count b_Ho_count 7 (some .int) :: WS) B.pre
  have hW : ∀ w ∈ WS, w.before _ s = true := fun w h => hts w (List.mem_cons_of_mem _ h)
  have hown : s.vm.findClass "BoardHouse" = some m.cls := findClass_of_methodNamed B.named
  have hlocks := B.notSynchronized
  have hS : va_S (hA N0) s.heap s.heap [] := va_S.rf
  have hl := lv_entry ([.ref b.ho, .int kd]) (n := 7) (Nat.le_of_ble_eq_true rfl)
  rw [lg_entry_eq]
  generalize (lg_sl ([.ref b.ho, .int kd]) ++ List.replicate (7 - (lg_sl ([.ref b.ho, .int kd])).length) Slot.unset).toArray = ls at hl ⊢
  have hl : lv_has ls 7 [(0, .ref b.ho), (1, .int kd)] := hl
  have hH := hW0.1
  refine lv_iload_n hx hb d_Ho_count_0 rfl (lv_at hl 1 rfl) ?_
  refine lv_iconst (v := 2) hx hb d_Ho_count_1 (by decide) ?_
  refine lv_icmp_lt (tgt := 10) hx hb d_Ho_count_2 (by decide) (fun c_1 => ?_) (fun c_1 => ?_)
  · have c_1 := i_nle c_1
    exact absurd hok (by simp [Bool.and_eq_true, c_1])
  · have c_1 := i_le c_1
    refine lv_iload_n hx hb d_Ho_count_5 rfl (lv_at hl 1 rfl) ?_
    refine lv_iconst (v := 5) hx hb d_Ho_count_6 (by decide) ?_
    refine lv_icmp_le (tgt := 20) hx hb d_Ho_count_7 (by decide) (fun c_2 => ?_) (fun c_2 => ?_)
    · refine lv_iconst (v := 0) hx hb d_Ho_count_20 (by decide) ?_
      refine lv_istore_n (lv' := [(2, .int 0), (0, .ref b.ho), (1, .int kd)]) hx hb d_Ho_count_21 rfl hl (by decide) rfl (fun ls hl => ?_)
      refine lv_aload_n hx hb d_Ho_count_22 rfl (lv_at hl 1 rfl) ?_
      refine gf_Ho_70 hx hb hW hown hG hV hH.ho d_Ho_count_23 ?_
      refine lv_astore_n (lv' := [(3, .ref b.ta), (2, .int 0), (0, .ref b.ho), (1, .int kd)]) hx hb d_Ho_count_26 rfl hl (by decide) rfl (fun ls hl => ?_)
      refine lv_aload_n hx hb d_Ho_count_27 rfl (lv_at hl 0 rfl) ?_
      refine hv_alen hx hb hG.K hV 3 hH.ts.1 rfl (v := nI 150) rfl d_Ho_count_28 ?_
      refine lv_istore (lv' := [(4, .int (nI 150)), (3, .ref b.ta), (2, .int 0), (0, .ref b.ho), (1, .int kd)]) hx hb d_Ho_count_29 hl (by decide) rfl (fun ls hl => ?_)
      refine lv_iconst (v := 0) hx hb d_Ho_count_31 (by decide) ?_
      refine lv_istore (lv' := [(5, .int 0), (4, .int (nI 150)), (3, .ref b.ta), (2, .int 0), (0, .ref b.ho), (1, .int kd)]) hx hb d_Ho_count_32 hl (by decide) rfl (fun ls hl => ?_)
      obtain ⟨P, hP⟩ : ∃ P : Nat → Bool, P = kdC σ.T kd := ⟨_, rfl⟩
      have loop_3 : ∀ (n i : Nat) (c0 : Nat) (H : Heap) (locs : List Loc) (ls : Array Slot), i ≤ 150 → 150 + 1 ≤ i + n → (c0 + cntF P i (150 - i) = cntF P 0 150) → hv D vwCl N0 V H → va_S (hA N0) s.heap H locs → lv_has ls 7 [(0, .ref b.ho), (1, .int kd), (2, .int (nI c0)), (3, .ref b.ta), (4, .int (nI 150)), (5, .int (nI i))] → W p l e (headSpec (.code y_Ho_count b_Ho_count 7 (some .int) :: WS) ({ frames := 6, cells := 0, slots := 0, locals := 90 })).room s m #[.ref b.ho, .int kd] below meth c H locs 0 0 (MQ below (va_Qi (fun r V' => r = nI (cntF (kdC σ.T kd) 0 150) ∧ V' = V) (mB D N0) (hA N0)) #[.ref b.ho, .int kd] s 0 0 (hA N0)) (F0 m 34 ls []) := by
        intro n
        induction n with
        | zero => intro i c0 H locs ls h1 h2; exact absurd h2 (by omega)
        | succ n ih =>
          intro i c0 H locs ls hi hin hI hV hS hl
          refine lv_iload hx hb d_Ho_count_34 (lv_at hl 5 rfl) ?_
          refine lv_iload hx hb d_Ho_count_36 (lv_at hl 4 rfl) ?_
          refine lv_icmp_ge (tgt := 78) hx hb d_Ho_count_38 (by decide) (fun c_4 => ?_) (fun c_4 => ?_)
          · have hge : 150 ≤ i := nI_le' c_4 (by omega) (by omega)
            refine lv_iload_n hx hb d_Ho_count_78 rfl (lv_at hl 2 rfl) ?_
            exact W.iret (v := (nI c0)) hx hb hr (fun t9 ht hW => ⟨⟨(nI c0), V, rfl, ⟨by rw [← hP, ← hI, cntF_end hge]; rfl, rfl⟩, mB_of ht hV⟩, hS.F ht⟩) hS.2.2 d_Ho_count_79
          · have hlt : i < 150 := nI_nle' c_4 (by omega) (by omega)
            refine lv_aload_n hx hb d_Ho_count_41 rfl (lv_at hl 3 rfl) ?_
            refine lv_iload hx hb d_Ho_count_42 (lv_at hl 5 rfl) ?_
            refine hv_aald (v := b.f i) hx hb hG.K hV 3 hH.ts.1 rfl (vp_in_nI (by omega) (by omega)) (by rw [nI_clamp (by omega)]) d_Ho_count_44 ?_
            cases hf_5 : b.f i with
            | none =>
              refine W.eq (g2 := F0 m 45 ls [.null]) rfl ?_
              refine lv_astoreN (lv' := [(6, .null), (0, .ref b.ho), (1, .int kd), (2, .int (nI c0)), (3, .ref b.ta), (4, .int (nI 150)), (5, .int (nI i))]) hx hb d_Ho_count_45 hl (by decide) rfl (fun ls hl => ?_)
              refine lv_aloadN hx hb d_Ho_count_47 (lv_at hl 0 rfl) ?_
              refine lv_ifnullN (tgt := 72) hx hb d_Ho_count_49 (by decide) ?_
              obtain ⟨i_7, ei_7⟩ : ∃ y : Int32, y = (nI i) + 1 := ⟨_, rfl⟩
              refine lv_iinc (v := i_7) (lv' := [(5, .int i_7), (6, .null), (0, .ref b.ho), (1, .int kd), (2, .int (nI c0)), (3, .ref b.ta), (4, .int (nI 150))]) hx hb d_Ho_count_72 hl (k := 6) rfl (by rw [ei_7]; rfl) (by decide) rfl (fun ls hl => ?_)
              refine lv_goto (tgt := 34) hx hb d_Ho_count_75 (by decide) ?_
              rw [nI_1] at ei_7
              subst ei_7
              have hA9 := hH.ts.2.2 i (by omega) hf_5
              have hPi : P i = false := by subst hP; simp [kdC, hA9]
              exact ih (i + 1) c0 _ _ _ (by omega) (by omega) (by rw [← hI, cntF_step hlt, hPi]; simp) hV hS (lv_sub hl [2, 3, 4, 5, 6, 0] rfl)
            | some t_6 =>
              refine W.eq (g2 := F0 m 45 ls [.ref t_6]) rfl ?_
              obtain ⟨h_t_6, ha_t_6⟩ := hH.ts.2.1 i t_6 (by omega) hf_5
              refine lv_astore (lv' := [(6, .ref t_6), (0, .ref b.ho), (1, .int kd), (2, .int (nI c0)), (3, .ref b.ta), (4, .int (nI 150)), (5, .int (nI i))]) hx hb d_Ho_count_45 hl (by decide) rfl (fun ls hl => ?_)
              refine lv_aload hx hb d_Ho_count_47 (lv_at hl 0 rfl) ?_
              refine lv_ifnull hx hb d_Ho_count_49 ?_
              refine lv_aload hx hb d_Ho_count_52 (lv_at hl 0 rfl) ?_
              refine gf_Ho_172 hx hb hW hown hG hV h_t_6 d_Ho_count_54 ?_
              refine lv_if_eq (tgt := 72) hx hb d_Ho_count_57 (by decide) (fun c_8 => ?_) (fun c_8 => ?_)
              · obtain ⟨i_9, ei_9⟩ : ∃ y : Int32, y = (nI i) + 1 := ⟨_, rfl⟩
                refine lv_iinc (v := i_9) (lv' := [(5, .int i_9), (6, .ref t_6), (0, .ref b.ho), (1, .int kd), (2, .int (nI c0)), (3, .ref b.ta), (4, .int (nI 150))]) hx hb d_Ho_count_72 hl (k := 6) rfl (by rw [ei_9]; rfl) (by decide) rfl (fun ls hl => ?_)
                refine lv_goto (tgt := 34) hx hb d_Ho_count_75 (by decide) ?_
                rw [nI_1] at ei_9
                subst ei_9
                have hPi : P i = false := by subst hP; simp [kdC, c_8]
                exact ih (i + 1) c0 _ _ _ (by omega) (by omega) (by rw [← hI, cntF_step hlt, hPi]; simp) hV hS (lv_sub hl [2, 3, 4, 5, 6, 0] rfl)
              · refine lv_aload hx hb d_Ho_count_60 (lv_at hl 0 rfl) ?_
                refine gf_Ho_187 hx hb hW hown hG hV h_t_6 d_Ho_count_62 ?_
                refine lv_iload_n hx hb d_Ho_count_65 rfl (lv_at hl 2 rfl) ?_
                refine lv_icmp_ne (tgt := 72) hx hb d_Ho_count_66 (by decide) (fun c_10 => ?_) (fun c_10 => ?_)
                · obtain ⟨i_11, ei_11⟩ : ∃ y : Int32, y = (nI i) + 1 := ⟨_, rfl⟩
                  refine lv_iinc (v := i_11) (lv' := [(5, .int i_11), (6, .ref t_6), (0, .ref b.ho), (1, .int kd), (2, .int (nI c0)), (3, .ref b.ta), (4, .int (nI 150))]) hx hb d_Ho_count_72 hl (k := 6) rfl (by rw [ei_11]; rfl) (by decide) rfl (fun ls hl => ?_)
                  refine lv_goto (tgt := 34) hx hb d_Ho_count_75 (by decide) ?_
                  rw [nI_1] at ei_11
                  subst ei_11
                  have hPi : P i = false := by subst hP; simp [kdC, c_8, c_10]
                  exact ih (i + 1) c0 _ _ _ (by omega) (by omega) (by rw [← hI, cntF_step hlt, hPi]; simp) hV hS (lv_sub hl [2, 3, 4, 5, 6, 0] rfl)
                · obtain ⟨i_12, ei_12⟩ : ∃ y : Int32, y = (nI c0) + 1 := ⟨_, rfl⟩
                  refine lv_iinc (v := i_12) (lv' := [(2, .int i_12), (6, .ref t_6), (0, .ref b.ho), (1, .int kd), (3, .ref b.ta), (4, .int (nI 150)), (5, .int (nI i))]) hx hb d_Ho_count_69 hl (k := 3) rfl (by rw [ei_12]; rfl) (by decide) rfl (fun ls hl => ?_)
                  obtain ⟨i_13, ei_13⟩ : ∃ y : Int32, y = (nI i) + 1 := ⟨_, rfl⟩
                  refine lv_iinc (v := i_13) (lv' := [(5, .int i_13), (2, .int i_12), (6, .ref t_6), (0, .ref b.ho), (1, .int kd), (3, .ref b.ta), (4, .int (nI 150))]) hx hb d_Ho_count_72 hl (k := 6) rfl (by rw [ei_13]; rfl) (by decide) rfl (fun ls hl => ?_)
                  refine lv_goto (tgt := 34) hx hb d_Ho_count_75 (by decide) ?_
                  rw [nI_1] at ei_13
                  subst ei_13
                  have hPi : P i = true := by subst hP; simp [kdC, c_8, c_10]
                  rw [nI_1] at ei_12
                  subst ei_12
                  exact ih (i + 1) (c0 + 1) _ _ _ (by omega) (by omega) (by rw [← hI, cntF_step hlt, hPi]; simp; omega) hV hS (lv_sub hl [3, 4, 1, 5, 6, 0] rfl)
      exact loop_3 (150 + 1 - 0) 0 0 _ _ _ (by omega) (by omega) (Nat.zero_add _) hV hS (lv_sub hl [4, 5, 3, 2, 1, 0] rfl)
    · exact absurd hok (by simp [Bool.and_eq_true, c_1, c_2])
set_option maxHeartbeats 4000000 in
set_option maxRecDepth 100000 in
/-- count: no such kind -/
theorem t_Ho_count (l : Launch) (hls : l.stackTraces = false) (D : va_G) (N0 : Nat) (k : Nat → Nat) (V : HV) (b : HA) (σ : HS) (hH : hsOk k V b σ) (kd : Int32) (hok : (decide (2 ≤ kd) && decide (kd ≤ 5)) = false) : hx_Met l y_Ho_count (.code y_Ho_count b_Ho_count 7 (some .int) :: WS) ({ frames := 6, cells := 1, slots := 6, locals := 90 }) (mP D N0 k [.ref b.ho, .int kd] V) "java/lang/IndexOutOfBoundsException" (fun H9 => hv D vwCl N0 V H9) N0 1 6 := by
  refine hx_ofW (cc := b_Ho_count) (maxL := 7) (ret := (some .int)) (by decide) rfl ?_
  intro p e s m args below meth c s₁ B hml hno hv0
  obtain ⟨rfl, hG, hV⟩ := hv0
  have hx := B.exec
  have hb := B.bytes
  have hr := B.returns
  have hts := atoms_spec (ws := .code y_Ho_count b_Ho_count 7 (some .int) :: WS) B.pre
  have hW : ∀ w ∈ WS, w.before _ s = true := fun w h => hts w (List.mem_cons_of_mem _ h)
  have hown : s.vm.findClass "BoardHouse" = some m.cls := findClass_of_methodNamed B.named
  have hlocks := B.notSynchronized
  have hS : va_S (hA N0) s.heap s.heap [] := va_S.rf
  have hl := lv_entry ([.ref b.ho, .int kd]) (n := 7) (Nat.le_of_ble_eq_true rfl)
  rw [lg_entry_eq]
  generalize (lg_sl ([.ref b.ho, .int kd]) ++ List.replicate (7 - (lg_sl ([.ref b.ho, .int kd])).length) Slot.unset).toArray = ls at hl ⊢
  have hl : lv_has ls 7 [(0, .ref b.ho), (1, .int kd)] := hl
  refine lv_iload_n hx hb d_Ho_count_0 rfl (lv_at hl 1 rfl) ?_
  refine lv_iconst (v := 2) hx hb d_Ho_count_1 (by decide) ?_
  refine lv_icmp_lt (tgt := 10) hx hb d_Ho_count_2 (by decide) (fun c_1 => ?_) (fun c_1 => ?_)
  · have c_1 := i_nle c_1
    obtain ⟨sa, hstr⟩ := hG.2.2.2.2.2.2.2.2 (185, "things are of the kinds 2 to 5") (by decide)
    exact hx_throwS (own := "BoardHouse") (cls := "java/lang/IndexOutOfBoundsException") (text := "things are of the kinds 2 to 5") (names := xN) (ik := 155) (is := 185) (ic := 159) hx hb hls hown (by decide +kernel) (by decide +kernel) (hW _ wk_Ho_155) (hW _ wi_JX) hstr (own_of hW hG own_X) (by rw [hml]; exact hl.1) d_Ho_count_10 d_Ho_count_13 d_Ho_count_14 d_Ho_count_16 d_Ho_count_19 hno (Nat.le_of_ble_eq_true rfl) (Nat.le_of_ble_eq_true rfl) (Nat.le_of_ble_eq_true rfl) (Nat.le_of_ble_eq_true rfl) hlocks (fun H9 h91 h92 => hv.keep hV h92)
  · have c_1 := i_le c_1
    refine lv_iload_n hx hb d_Ho_count_5 rfl (lv_at hl 1 rfl) ?_
    refine lv_iconst (v := 5) hx hb d_Ho_count_6 (by decide) ?_
    refine lv_icmp_le (tgt := 20) hx hb d_Ho_count_7 (by decide) (fun c_2 => ?_) (fun c_2 => ?_)
    · exact absurd hok (by simp [Bool.and_eq_true, c_1, c_2])
    · obtain ⟨sa, hstr⟩ := hG.2.2.2.2.2.2.2.2 (185, "things are of the kinds 2 to 5") (by decide)
      exact hx_throwS (own := "BoardHouse") (cls := "java/lang/IndexOutOfBoundsException") (text := "things are of the kinds 2 to 5") (names := xN) (ik := 155) (is := 185) (ic := 159) hx hb hls hown (by decide +kernel) (by decide +kernel) (hW _ wk_Ho_155) (hW _ wi_JX) hstr (own_of hW hG own_X) (by rw [hml]; exact hl.1) d_Ho_count_10 d_Ho_count_13 d_Ho_count_14 d_Ho_count_16 d_Ho_count_19 hno (Nat.le_of_ble_eq_true rfl) (Nat.le_of_ble_eq_true rfl) (Nat.le_of_ble_eq_true rfl) (Nat.le_of_ble_eq_true rfl) hlocks (fun H9 h91 h92 => hv.keep hV h92)
set_option maxHeartbeats 4000000 in
set_option maxRecDepth 100000 in
/-- at -/
theorem c_Ho_at (l : Launch) (D : va_G) (N0 : Nat) (k : Nat → Nat) (V : HV) (b : HA) (σ : HS) (hW0 : hsW k V b σ) (h wh : Int32) (hg : gvOk σ.G h = true) (hok : (decide (0 ≤ wh) && decide (wh ≤ 5)) = true) (hk2 : 2 ≤ hdK h) (hk5 : hdK h ≤ 5) : Met l y_Ho_at (.code y_Ho_at b_Ho_at 4 (some .int) :: WS) ({ frames := 7, cells := 0, slots := 0, locals := 114 }) (mP D N0 k [.ref b.ho, .int h, .int wh] V) (va_Qi (fun r V' => r = atV σ.T (hdI h) wh ∧ V' = V) (mB D N0) (hA N0)) 0 0 (hA N0) := by
  refine Met.ofW (cc := b_Ho_at) (maxL := 4) (ret := (some .int)) (by decide) rfl ?_
  intro p e s m args below meth c s₁ B hml hv0
  obtain ⟨rfl, hG, hV⟩ := hv0
  have hx := B.exec
  have hb := B.bytes
  have hr := B.returns
  have hts := atoms_spec (ws := .code y_Ho_at b_Ho_at 4 (some .int) :: WS) B.pre
  have hW : ∀ w ∈ WS, w.before _ s = true := fun w h => hts w (List.mem_cons_of_mem _ h)
  have hown : s.vm.findClass "BoardHouse" = some m.cls := findClass_of_methodNamed B.named
  have hlocks := B.notSynchronized
  have hS : va_S (hA N0) s.heap s.heap [] := va_S.rf
  have hl := lv_entry ([.ref b.ho, .int h, .int wh]) (n := 4) (Nat.le_of_ble_eq_true rfl)
  rw [lg_entry_eq]
  generalize (lg_sl ([.ref b.ho, .int h, .int wh]) ++ List.replicate (4 - (lg_sl ([.ref b.ho, .int h, .int wh])).length) Slot.unset).toArray = ls at hl ⊢
  have hl : lv_has ls 4 [(0, .ref b.ho), (1, .int h), (2, .int wh)] := hl
  have hH := hW0.1
  obtain ⟨eK, eN, -⟩ := gv_of hW0.2.2.1 hg
  obtain ⟨efi, hi, hmi, t, hf⟩ := thing_of hW0 hg hk2 hk5
  obtain ⟨i, ei⟩ : ∃ z, z = hdI h := ⟨_, rfl⟩
  rw [← ei] at efi hi hmi hf
  obtain ⟨h_t, h_a0⟩ := hH.ts.2.1 i t hi hf
  refine lv_aload_n hx hb d_Ho_at_0 rfl (lv_at hl 0 rfl) ?_
  refine lv_iload_n hx hb d_Ho_at_1 rfl (lv_at hl 1 rfl) ?_
  refine va_csv (va_Run.run (va_runV (As := [.int h]) (rest := []) ⟨hx, hb, hml, hown, hts⟩ (r_Ho_demandGiven l D N0 k V b.ho b.bo b.gi b.co b.ta b.ac b.ve (woA b σ.wo) (nI σ.nl) σ.rs hH.ho σ.G hH.gi h hg) (cwV 1 hts (gi_V wm_Ho_97 wv_Ho_demandGiven ws_Ho_demandGiven wi_Ho wc_Ho_demandGiven) rfl rfl rfl (by decide +kernel) ⟨Nat.le_of_ble_eq_true rfl, Nat.le_of_ble_eq_true rfl⟩) (mP.preV hG hS hV hH.ho rfl) rfl rfl hl.1 rfl (lv_room (Nat.le_of_ble_eq_true rfl)) d_Ho_at_2 ⟨Nat.le_of_ble_eq_true rfl, Nat.le_of_ble_eq_true rfl⟩)) (fun _ => ?_)
  refine lv_iload_n hx hb d_Ho_at_5 rfl (lv_at hl 2 rfl) ?_
  refine lv_if_lt (tgt := 14) hx hb d_Ho_at_6 (by decide) (fun c_1 => ?_) (fun c_1 => ?_)
  · have c_1 := i_nle c_1
    exact absurd hok (by simp [Bool.and_eq_true, c_1])
  · have c_1 := i_le c_1
    refine lv_iload_n hx hb d_Ho_at_9 rfl (lv_at hl 2 rfl) ?_
    refine lv_iconst (v := 5) hx hb d_Ho_at_10 (by decide) ?_
    refine lv_icmp_le (tgt := 24) hx hb d_Ho_at_11 (by decide) (fun c_2 => ?_) (fun c_2 => ?_)
    · refine lv_aload_n hx hb d_Ho_at_24 rfl (lv_at hl 0 rfl) ?_
      refine lv_iload_n hx hb d_Ho_at_25 rfl (lv_at hl 1 rfl) ?_
      refine va_csq (va_Run.run (va_runV (As := [.int h]) (rest := []) ⟨hx, hb, hml, hown, hts⟩ (r_Ho_demandThing l D N0 k V b.ho b.bo b.gi b.co b.ta b.ac b.ve (woA b σ.wo) (nI σ.nl) σ.rs hH.ho σ.G hH.gi b.f b.ar σ.T hH.ts h (hdK h) (hdN h) i t eK eN hk2 hk5 efi hi hf) (cwV 1 hts (gi_V wm_Ho_104 wv_Ho_demandThing ws_Ho_demandThing wi_Ho wc_Ho_demandThing) rfl rfl rfl (by decide +kernel) ⟨Nat.le_of_ble_eq_true rfl, Nat.le_of_ble_eq_true rfl⟩) (mP.preV hG hS hV hH.ho rfl) rfl rfl hl.1 rfl (lv_room (Nat.le_of_ble_eq_true rfl)) d_Ho_at_26 ⟨Nat.le_of_ble_eq_true rfl, Nat.le_of_ble_eq_true rfl⟩)) (fun r_3 hp_4 => ?_)
      subst hp_4
      refine W.eq (g2 := F0 m 29 ls [.ref t]) rfl ?_
      refine lv_astore_n (lv' := [(3, .ref t), (0, .ref b.ho), (1, .int h), (2, .int wh)]) hx hb d_Ho_at_29 rfl hl (by decide) rfl (fun ls hl => ?_)
      refine lv_iload_n hx hb d_Ho_at_30 rfl (lv_at hl 3 rfl) ?_
      by_cases k_5 : wh = (0 : Int32)
      · refine lv_tableIn (x := wh) (off := 33) (tgt := 64) hx hb d_Ho_at_31 (by rw [k_5]; decide +kernel) (by rw [k_5]; decide +kernel) (by rw [k_5]; decide +kernel) (by decide) ?_
        refine lv_aload_n hx hb d_Ho_at_64 rfl (lv_at hl 0 rfl) ?_
        refine gf_Ho_172 hx hb hW hown hG hV h_t d_Ho_at_65 ?_
        refine lv_if_eq (tgt := 75) hx hb d_Ho_at_68 (by decide) (fun c_6 => ?_) (fun c_6 => ?_)
        · refine lv_iconst (v := 0) hx hb d_Ho_at_75 (by decide) ?_
          exact W.iret (v := 0) hx hb hr (fun t9 ht hW => ⟨⟨0, V, rfl, ⟨by rw [← ei, atV, if_pos k_5, if_pos c_6], rfl⟩, mB_of ht hV⟩, hS.F ht⟩) hS.2.2 d_Ho_at_76
        · refine lv_iconst (v := 1) hx hb d_Ho_at_71 (by decide) ?_
          refine lv_goto (tgt := 76) hx hb d_Ho_at_72 (by decide) ?_
          exact W.iret (v := 1) hx hb hr (fun t9 ht hW => ⟨⟨1, V, rfl, ⟨by rw [← ei, atV, if_pos k_5, if_neg c_6], rfl⟩, mB_of ht hV⟩, hS.F ht⟩) hS.2.2 d_Ho_at_76
      by_cases k_7 : wh = (1 : Int32)
      · refine lv_tableIn (x := wh) (off := 46) (tgt := 77) hx hb d_Ho_at_31 (by rw [k_7]; decide +kernel) (by rw [k_7]; decide +kernel) (by rw [k_7]; decide +kernel) (by decide) ?_
        refine lv_aload_n hx hb d_Ho_at_77 rfl (lv_at hl 0 rfl) ?_
        refine gf_Ho_112 hx hb hW hown hG hV h_t d_Ho_at_78 ?_
        refine gf_Ho_115 hx hb hW hown hG hV h_a0 d_Ho_at_81 ?_
        exact W.iret (v := (σ.T i 6)) hx hb hr (fun t9 ht hW => ⟨⟨(σ.T i 6), V, rfl, ⟨by rw [← ei, atV, if_neg k_5, if_pos k_7], rfl⟩, mB_of ht hV⟩, hS.F ht⟩) hS.2.2 d_Ho_at_84
      by_cases k_8 : wh = (2 : Int32)
      · refine lv_tableIn (x := wh) (off := 54) (tgt := 85) hx hb d_Ho_at_31 (by rw [k_8]; decide +kernel) (by rw [k_8]; decide +kernel) (by rw [k_8]; decide +kernel) (by decide) ?_
        refine lv_aload_n hx hb d_Ho_at_85 rfl (lv_at hl 0 rfl) ?_
        refine gf_Ho_112 hx hb hW hown hG hV h_t d_Ho_at_86 ?_
        refine gf_Ho_118 hx hb hW hown hG hV h_a0 d_Ho_at_89 ?_
        exact W.iret (v := (σ.T i 7)) hx hb hr (fun t9 ht hW => ⟨⟨(σ.T i 7), V, rfl, ⟨by rw [← ei, atV, if_neg k_5, if_neg k_7, if_pos k_8], rfl⟩, mB_of ht hV⟩, hS.F ht⟩) hS.2.2 d_Ho_at_92
      by_cases k_9 : wh = (3 : Int32)
      · refine lv_tableIn (x := wh) (off := 62) (tgt := 93) hx hb d_Ho_at_31 (by rw [k_9]; decide +kernel) (by rw [k_9]; decide +kernel) (by rw [k_9]; decide +kernel) (by decide) ?_
        refine lv_aload_n hx hb d_Ho_at_93 rfl (lv_at hl 0 rfl) ?_
        refine gf_Ho_176 hx hb hW hown hG hV h_t d_Ho_at_94 ?_
        exact W.iret (v := (σ.T i 2)) hx hb hr (fun t9 ht hW => ⟨⟨(σ.T i 2), V, rfl, ⟨by rw [← ei, atV, if_neg k_5, if_neg k_7, if_neg k_8, if_pos k_9], rfl⟩, mB_of ht hV⟩, hS.F ht⟩) hS.2.2 d_Ho_at_97
      by_cases k_10 : wh = (4 : Int32)
      · refine lv_tableIn (x := wh) (off := 67) (tgt := 98) hx hb d_Ho_at_31 (by rw [k_10]; decide +kernel) (by rw [k_10]; decide +kernel) (by rw [k_10]; decide +kernel) (by decide) ?_
        refine lv_aload_n hx hb d_Ho_at_98 rfl (lv_at hl 0 rfl) ?_
        refine gf_Ho_179 hx hb hW hown hG hV h_t d_Ho_at_99 ?_
        exact W.iret (v := (σ.T i 3)) hx hb hr (fun t9 ht hW => ⟨⟨(σ.T i 3), V, rfl, ⟨by rw [← ei, atV, if_neg k_5, if_neg k_7, if_neg k_8, if_neg k_9, if_pos k_10], rfl⟩, mB_of ht hV⟩, hS.F ht⟩) hS.2.2 d_Ho_at_102
      refine lv_tableOut (x := wh) (tgt := 103) hx hb d_Ho_at_31 (by have qk_5 := lv_neT (a := 0) k_5 (by decide); have qk_7 := lv_neT (a := 1) k_7 (by decide); have qk_8 := lv_neT (a := 2) k_8 (by decide); have qk_9 := lv_neT (a := 3) k_9 (by decide); have qk_10 := lv_neT (a := 4) k_10 (by decide); omega) (by decide) ?_
      refine lv_aload_n hx hb d_Ho_at_103 rfl (lv_at hl 0 rfl) ?_
      refine gf_Ho_182 hx hb hW hown hG hV h_t d_Ho_at_104 ?_
      exact W.iret (v := (σ.T i 4)) hx hb hr (fun t9 ht hW => ⟨⟨(σ.T i 4), V, rfl, ⟨by rw [← ei, atV, if_neg k_5, if_neg k_7, if_neg k_8, if_neg k_9, if_neg k_10], rfl⟩, mB_of ht hV⟩, hS.F ht⟩) hS.2.2 d_Ho_at_107
    · exact absurd hok (by simp [Bool.and_eq_true, c_1, c_2])
set_option maxHeartbeats 4000000 in
set_option maxRecDepth 100000 in
/-- at: not given -/
theorem t_Ho_at1 (l : Launch) (hls : l.stackTraces = false) (D : va_G) (N0 : Nat) (k : Nat → Nat) (V : HV) (b : HA) (σ : HS) (hH : hsOk k V b σ) (h wh : Int32) (hg : gvOk σ.G h = false) : hx_Met l y_Ho_at (.code y_Ho_at b_Ho_at 4 (some .int) :: WS) ({ frames := 7, cells := 1, slots := 6, locals := 114 }) (mP D N0 k [.ref b.ho, .int h, .int wh] V) "java/lang/IndexOutOfBoundsException" (fun H9 => hv D vwCl N0 V H9) N0 1 6 := by
  refine hx_ofW (cc := b_Ho_at) (maxL := 4) (ret := (some .int)) (by decide) rfl ?_
  intro p e s m args below meth c s₁ B hml hno hv0
  obtain ⟨rfl, hG, hV⟩ := hv0
  have hx := B.exec
  have hb := B.bytes
  have hr := B.returns
  have hts := atoms_spec (ws := .code y_Ho_at b_Ho_at 4 (some .int) :: WS) B.pre
  have hW : ∀ w ∈ WS, w.before _ s = true := fun w h => hts w (List.mem_cons_of_mem _ h)
  have hown : s.vm.findClass "BoardHouse" = some m.cls := findClass_of_methodNamed B.named
  have hlocks := B.notSynchronized
  have hS : va_S (hA N0) s.heap s.heap [] := va_S.rf
  have hl := lv_entry ([.ref b.ho, .int h, .int wh]) (n := 4) (Nat.le_of_ble_eq_true rfl)
  rw [lg_entry_eq]
  generalize (lg_sl ([.ref b.ho, .int h, .int wh]) ++ List.replicate (4 - (lg_sl ([.ref b.ho, .int h, .int wh])).length) Slot.unset).toArray = ls at hl ⊢
  have hl : lv_has ls 4 [(0, .ref b.ho), (1, .int h), (2, .int wh)] := hl
  refine lv_aload_n hx hb d_Ho_at_0 rfl (lv_at hl 0 rfl) ?_
  refine lv_iload_n hx hb d_Ho_at_1 rfl (lv_at hl 1 rfl) ?_
  exact hx_callOut (hx_runV (As := [.int h]) (rest := []) ⟨hx, hb, hml, hown, hts⟩ (t_Ho_demandGiven l hls D N0 k V b.ho b.bo b.gi b.co b.ta b.ac b.ve (woA b σ.wo) (nI σ.nl) σ.rs hH.ho σ.G hH.gi h hg) (cwV 1 hts (gi_V wm_Ho_97 wv_Ho_demandGiven ws_Ho_demandGiven wi_Ho wc_Ho_demandGiven) rfl rfl rfl (by decide +kernel) ⟨Nat.le_of_ble_eq_true rfl, Nat.le_of_ble_eq_true rfl⟩) (mP.preV hG hS hV hH.ho rfl) rfl rfl hl.1 rfl (lv_room (Nat.le_of_ble_eq_true rfl)) d_Ho_at_2 ⟨Nat.le_of_ble_eq_true rfl, Nat.le_of_ble_eq_true rfl⟩) hno hlocks hS (Nat.le_of_ble_eq_true rfl) (Nat.le_of_ble_eq_true rfl)
set_option maxHeartbeats 4000000 in
set_option maxRecDepth 100000 in
/-- at: no such what -/
theorem t_Ho_at2 (l : Launch) (hls : l.stackTraces = false) (D : va_G) (N0 : Nat) (k : Nat → Nat) (V : HV) (b : HA) (σ : HS) (hH : hsOk k V b σ) (h wh : Int32) (hg : gvOk σ.G h = true) (hok : (decide (0 ≤ wh) && decide (wh ≤ 5)) = false) : hx_Met l y_Ho_at (.code y_Ho_at b_Ho_at 4 (some .int) :: WS) ({ frames := 7, cells := 1, slots := 6, locals := 114 }) (mP D N0 k [.ref b.ho, .int h, .int wh] V) "java/lang/IndexOutOfBoundsException" (fun H9 => hv D vwCl N0 V H9) N0 1 6 := by
  refine hx_ofW (cc := b_Ho_at) (maxL := 4) (ret := (some .int)) (by decide) rfl ?_
  intro p e s m args below meth c s₁ B hml hno hv0
  obtain ⟨rfl, hG, hV⟩ := hv0
  have hx := B.exec
  have hb := B.bytes
  have hr := B.returns
  have hts := atoms_spec (ws := .code y_Ho_at b_Ho_at 4 (some .int) :: WS) B.pre
  have hW : ∀ w ∈ WS, w.before _ s = true := fun w h => hts w (List.mem_cons_of_mem _ h)
  have hown : s.vm.findClass "BoardHouse" = some m.cls := findClass_of_methodNamed B.named
  have hlocks := B.notSynchronized
  have hS : va_S (hA N0) s.heap s.heap [] := va_S.rf
  have hl := lv_entry ([.ref b.ho, .int h, .int wh]) (n := 4) (Nat.le_of_ble_eq_true rfl)
  rw [lg_entry_eq]
  generalize (lg_sl ([.ref b.ho, .int h, .int wh]) ++ List.replicate (4 - (lg_sl ([.ref b.ho, .int h, .int wh])).length) Slot.unset).toArray = ls at hl ⊢
  have hl : lv_has ls 4 [(0, .ref b.ho), (1, .int h), (2, .int wh)] := hl
  refine lv_aload_n hx hb d_Ho_at_0 rfl (lv_at hl 0 rfl) ?_
  refine lv_iload_n hx hb d_Ho_at_1 rfl (lv_at hl 1 rfl) ?_
  refine va_csv (va_Run.run (va_runV (As := [.int h]) (rest := []) ⟨hx, hb, hml, hown, hts⟩ (r_Ho_demandGiven l D N0 k V b.ho b.bo b.gi b.co b.ta b.ac b.ve (woA b σ.wo) (nI σ.nl) σ.rs hH.ho σ.G hH.gi h hg) (cwV 1 hts (gi_V wm_Ho_97 wv_Ho_demandGiven ws_Ho_demandGiven wi_Ho wc_Ho_demandGiven) rfl rfl rfl (by decide +kernel) ⟨Nat.le_of_ble_eq_true rfl, Nat.le_of_ble_eq_true rfl⟩) (mP.preV hG hS hV hH.ho rfl) rfl rfl hl.1 rfl (lv_room (Nat.le_of_ble_eq_true rfl)) d_Ho_at_2 ⟨Nat.le_of_ble_eq_true rfl, Nat.le_of_ble_eq_true rfl⟩)) (fun _ => ?_)
  refine lv_iload_n hx hb d_Ho_at_5 rfl (lv_at hl 2 rfl) ?_
  refine lv_if_lt (tgt := 14) hx hb d_Ho_at_6 (by decide) (fun c_1 => ?_) (fun c_1 => ?_)
  · have c_1 := i_nle c_1
    obtain ⟨sa, hstr⟩ := hG.2.2.2.2.2.2.2.2 (170, "what is 0 to 5") (by decide)
    exact hx_throwS (own := "BoardHouse") (cls := "java/lang/IndexOutOfBoundsException") (text := "what is 0 to 5") (names := xN) (ik := 155) (is := 170) (ic := 159) hx hb hls hown (by decide +kernel) (by decide +kernel) (hW _ wk_Ho_155) (hW _ wi_JX) hstr (own_of hW hG own_X) (by rw [hml]; exact hl.1) d_Ho_at_14 d_Ho_at_17 d_Ho_at_18 d_Ho_at_20 d_Ho_at_23 hno (Nat.le_of_ble_eq_true rfl) (Nat.le_of_ble_eq_true rfl) (Nat.le_of_ble_eq_true rfl) (Nat.le_of_ble_eq_true rfl) hlocks (fun H9 h91 h92 => hv.keep hV h92)
  · have c_1 := i_le c_1
    refine lv_iload_n hx hb d_Ho_at_9 rfl (lv_at hl 2 rfl) ?_
    refine lv_iconst (v := 5) hx hb d_Ho_at_10 (by decide) ?_
    refine lv_icmp_le (tgt := 24) hx hb d_Ho_at_11 (by decide) (fun c_2 => ?_) (fun c_2 => ?_)
    · exact absurd hok (by simp [Bool.and_eq_true, c_1, c_2])
    · obtain ⟨sa, hstr⟩ := hG.2.2.2.2.2.2.2.2 (170, "what is 0 to 5") (by decide)
      exact hx_throwS (own := "BoardHouse") (cls := "java/lang/IndexOutOfBoundsException") (text := "what is 0 to 5") (names := xN) (ik := 155) (is := 170) (ic := 159) hx hb hls hown (by decide +kernel) (by decide +kernel) (hW _ wk_Ho_155) (hW _ wi_JX) hstr (own_of hW hG own_X) (by rw [hml]; exact hl.1) d_Ho_at_14 d_Ho_at_17 d_Ho_at_18 d_Ho_at_20 d_Ho_at_23 hno (Nat.le_of_ble_eq_true rfl) (Nat.le_of_ble_eq_true rfl) (Nat.le_of_ble_eq_true rfl) (Nat.le_of_ble_eq_true rfl) hlocks (fun H9 h91 h92 => hv.keep hV h92)
set_option maxHeartbeats 4000000 in
set_option maxRecDepth 100000 in
/-- at: not of a thing -/
theorem t_Ho_at3 (l : Launch) (hls : l.stackTraces = false) (D : va_G) (N0 : Nat) (k : Nat → Nat) (V : HV) (b : HA) (σ : HS) (hH : hsOk k V b σ) (h wh : Int32) (hg : gvOk σ.G h = true) (hok : (decide (0 ≤ wh) && decide (wh ≤ 5)) = true) (hK : h / 1000 = nI (hdK h)) (hK7 : hdK h ≤ 7) (hk2 : hdK h < 2 ∨ 5 < hdK h) : hx_Met l y_Ho_at (.code y_Ho_at b_Ho_at 4 (some .int) :: WS) ({ frames := 7, cells := 1, slots := 6, locals := 114 }) (mP D N0 k [.ref b.ho, .int h, .int wh] V) "java/lang/IllegalArgumentException" (fun H9 => hv D vwCl N0 V H9) N0 1 6 := by
  refine hx_ofW (cc := b_Ho_at) (maxL := 4) (ret := (some .int)) (by decide) rfl ?_
  intro p e s m args below meth c s₁ B hml hno hv0
  obtain ⟨rfl, hG, hV⟩ := hv0
  have hx := B.exec
  have hb := B.bytes
  have hr := B.returns
  have hts := atoms_spec (ws := .code y_Ho_at b_Ho_at 4 (some .int) :: WS) B.pre
  have hW : ∀ w ∈ WS, w.before _ s = true := fun w h => hts w (List.mem_cons_of_mem _ h)
  have hown : s.vm.findClass "BoardHouse" = some m.cls := findClass_of_methodNamed B.named
  have hlocks := B.notSynchronized
  have hS : va_S (hA N0) s.heap s.heap [] := va_S.rf
  have hl := lv_entry ([.ref b.ho, .int h, .int wh]) (n := 4) (Nat.le_of_ble_eq_true rfl)
  rw [lg_entry_eq]
  generalize (lg_sl ([.ref b.ho, .int h, .int wh]) ++ List.replicate (4 - (lg_sl ([.ref b.ho, .int h, .int wh])).length) Slot.unset).toArray = ls at hl ⊢
  have hl : lv_has ls 4 [(0, .ref b.ho), (1, .int h), (2, .int wh)] := hl
  refine lv_aload_n hx hb d_Ho_at_0 rfl (lv_at hl 0 rfl) ?_
  refine lv_iload_n hx hb d_Ho_at_1 rfl (lv_at hl 1 rfl) ?_
  refine va_csv (va_Run.run (va_runV (As := [.int h]) (rest := []) ⟨hx, hb, hml, hown, hts⟩ (r_Ho_demandGiven l D N0 k V b.ho b.bo b.gi b.co b.ta b.ac b.ve (woA b σ.wo) (nI σ.nl) σ.rs hH.ho σ.G hH.gi h hg) (cwV 1 hts (gi_V wm_Ho_97 wv_Ho_demandGiven ws_Ho_demandGiven wi_Ho wc_Ho_demandGiven) rfl rfl rfl (by decide +kernel) ⟨Nat.le_of_ble_eq_true rfl, Nat.le_of_ble_eq_true rfl⟩) (mP.preV hG hS hV hH.ho rfl) rfl rfl hl.1 rfl (lv_room (Nat.le_of_ble_eq_true rfl)) d_Ho_at_2 ⟨Nat.le_of_ble_eq_true rfl, Nat.le_of_ble_eq_true rfl⟩)) (fun _ => ?_)
  refine lv_iload_n hx hb d_Ho_at_5 rfl (lv_at hl 2 rfl) ?_
  refine lv_if_lt (tgt := 14) hx hb d_Ho_at_6 (by decide) (fun c_1 => ?_) (fun c_1 => ?_)
  · have c_1 := i_nle c_1
    exact absurd hok (by simp [Bool.and_eq_true, c_1])
  · have c_1 := i_le c_1
    refine lv_iload_n hx hb d_Ho_at_9 rfl (lv_at hl 2 rfl) ?_
    refine lv_iconst (v := 5) hx hb d_Ho_at_10 (by decide) ?_
    refine lv_icmp_le (tgt := 24) hx hb d_Ho_at_11 (by decide) (fun c_2 => ?_) (fun c_2 => ?_)
    · refine lv_aload_n hx hb d_Ho_at_24 rfl (lv_at hl 0 rfl) ?_
      refine lv_iload_n hx hb d_Ho_at_25 rfl (lv_at hl 1 rfl) ?_
      exact hx_callOut (hx_runV (As := [.int h]) (rest := []) ⟨hx, hb, hml, hown, hts⟩ (t_Ho_demandThing l hls D N0 k V b.ho b.bo b.gi b.co b.ta b.ac b.ve (woA b σ.wo) (nI σ.nl) σ.rs hH.ho σ.G hH.gi h (hdK h) hK hK7 hk2) (cwV 1 hts (gi_V wm_Ho_104 wv_Ho_demandThing ws_Ho_demandThing wi_Ho wc_Ho_demandThing) rfl rfl rfl (by decide +kernel) ⟨Nat.le_of_ble_eq_true rfl, Nat.le_of_ble_eq_true rfl⟩) (mP.preV hG hS hV hH.ho rfl) rfl rfl hl.1 rfl (lv_room (Nat.le_of_ble_eq_true rfl)) d_Ho_at_26 ⟨Nat.le_of_ble_eq_true rfl, Nat.le_of_ble_eq_true rfl⟩) hno hlocks hS (Nat.le_of_ble_eq_true rfl) (Nat.le_of_ble_eq_true rfl)
    · exact absurd hok (by simp [Bool.and_eq_true, c_1, c_2])
