/-! noteChange, shiftAll, removeAll, make -/
theorem ntS_T {σ : HS} {i : Nat} : (ntS σ i).T = σ.T := by unfold ntS; split <;> rfl
theorem ntS_wo {σ : HS} {i : Nat} : (ntS σ i).wo = σ.wo := by unfold ntS; split <;> rfl
theorem ntS_G {σ : HS} {i : Nat} : (ntS σ i).G = σ.G := by unfold ntS; split <;> rfl
/-- the things that go with the lead -/
def goP (T : Nat → Nat → Int32) (ex : Option Nat) (hn : Int32) (j : Nat) : Bool := !decide (T j 5 = 0) && (decide (ex = some j) || decide (T j 4 = hn))
/-- all that go with the lead, of the first i slots, are noted and changed by U -/
def lpS (U : (Nat → Int32) → Nat → Int32) (ex : Option Nat) (hn : Int32) (σ : HS) : Nat → HS
  | 0 => σ
  | i + 1 => if goP (lpS U ex hn σ i).T ex hn i then (ntS (lpS U ex hn σ i) i).wT (updT (lpS U ex hn σ i).T i (U ((lpS U ex hn σ i).T i))) else lpS U ex hn σ i
theorem lpS_hi {U : (Nat → Int32) → Nat → Int32} {ex : Option Nat} {hn : Int32} {σ : HS} : ∀ (i j : Nat), i ≤ j → (lpS U ex hn σ i).T j = σ.T j := by
  intro i
  induction i with
  | zero => intro j _; rfl
  | succ i ih =>
    intro j hj
    rw [lpS]
    split
    · show updT _ i _ j = _
      rw [uT_n (by omega), ih j (by omega)]
    · exact ih j (by omega)
theorem lpS_q {U : (Nat → Int32) → Nat → Int32} {ex : Option Nat} {hn : Int32} {σ : HS} (hU : ∀ R q, q < 5 → U R q = R q) : ∀ (i j q : Nat), q < 5 → (lpS U ex hn σ i).T j q = σ.T j q := by
  intro i
  induction i with
  | zero => intro j q _; rfl
  | succ i ih =>
    intro j q hq
    rw [lpS]
    split
    · show updT _ i _ j q = _
      by_cases hji : j = i
      · subst hji; rw [uT_s, hU _ _ hq, ih j q hq]
      · rw [uT_n hji, ih j q hq]
    · exact ih j q hq
theorem lpS_sl {U : (Nat → Int32) → Nat → Int32} {ex : Option Nat} {hn : Int32} {σ : HS} {f : Nat → Option Nat} (hU : ∀ R q, q < 5 → U R q = R q) (h : slOk f σ.T) (i : Nat) : slOk f (lpS U ex hn σ i).T := fun j t hj hf => by
  obtain ⟨c, h1, h2, h3⟩ := h j t hj hf
  exact ⟨c, h1, by rw [lpS_q hU i j 0 (by omega)]; exact h2, by rw [lpS_q hU i j 1 (by omega)]; exact h3⟩
theorem lpS_t {U : (Nat → Int32) → Nat → Int32} {ex : Option Nat} {hn : Int32} {σ : HS} {i : Nat} (h : goP σ.T ex hn i = true) : lpS U ex hn σ (i + 1) = (ntS (lpS U ex hn σ i) i).wT (updT (lpS U ex hn σ i).T i (U ((lpS U ex hn σ i).T i))) := by
  have hg : goP (lpS U ex hn σ i).T ex hn i = true := by rw [goP, lpS_hi i i (Nat.le_refl _)]; exact h
  rw [lpS, if_pos hg]
theorem lpS_f {U : (Nat → Int32) → Nat → Int32} {ex : Option Nat} {hn : Int32} {σ : HS} {i : Nat} (h : goP σ.T ex hn i = false) : lpS U ex hn σ (i + 1) = lpS U ex hn σ i := by
  have hg : goP (lpS U ex hn σ i).T ex hn i = false := by rw [goP, lpS_hi i i (Nat.le_refl _)]; exact h
  rw [lpS, if_neg (by rw [hg]; exact Bool.false_ne_true)]
theorem go_of {f : Nat → Option Nat} {T T' : Nat → Nat → Int32} {ld tl i t : Nat} {hn kd nu : Int32} (hex : exT f tl (some ld)) (hi : i < 150) (hf : f i = some t) (he : T' i = T i) (ehn : hn = 1000 * kd + nu) : goP T' (some ld) hn i = (!decide (T i 5 = 0) && th_goesWith t tl (T i 4) kd nu) := by
  rw [goP, th_goesWith, ← exT_d hex hi, hf, he, ehn]
  congr 2
  by_cases h : t = tl
  · subst h; simp
  · simp [h]
def shR (dx dy : Int32) (R : Nat → Int32) : Nat → Int32 := fun q => match q with
  | 6 => R 6 + dx
  | 7 => R 7 + dy
  | 8 => R 8 + dx
  | 9 => R 9 + dy
  | q => R q
def rmR (R : Nat → Int32) : Nat → Int32 := fun q => if q = 5 then 0 else R q
theorem shR_lo {dx dy : Int32} : ∀ (R : Nat → Int32) (q : Nat), q < 6 → shR dx dy R q = R q := by
  intro R q hq
  rcases (show q = 0 ∨ q = 1 ∨ q = 2 ∨ q = 3 ∨ q = 4 ∨ q = 5 by omega) with rfl | rfl | rfl | rfl | rfl | rfl <;> rfl
theorem rmR_lo : ∀ (R : Nat → Int32) (q : Nat), q < 5 → rmR R q = R q := fun R q hq => if_neg (by omega)
def mkS (σ : HS) (K i : Nat) (R : Nat → Int32) : HS := ((ntS ((σ.wrs 0).wT (updT σ.T i R)) i).wT (updT (updT σ.T i R) i (upd R 5 1))).wG (upd σ.G K (σ.G K + 1))
theorem addT_ar {b : HA} {i t a0 : Nat} : (b.addT i t a0).ar i = a0 := if_pos rfl
theorem addT_f {b : HA} {i t a0 : Nat} : (b.addT i t a0).f i = some t := va_up_s
theorem ar_put {b : HA} {i t : Nat} {V : HV} {e : va_E} {nl : Nat} (h : hsLb b nl) (hi : i < 150) (hf : b.f i = some t) : hsFr b b V (hu V (b.ar i) e) := hsFr_hu (by rw [(h.lt i t hi hf).2]; omega)
theorem th_put {b : HA} {i t : Nat} {V : HV} {e : va_E} {nl : Nat} (h : hsLb b nl) (hi : i < 150) (hf : b.f i = some t) : hsFr b b V (hu V t e) := hsFr_hu (by rw [(h.lt i t hi hf).1]; omega)
set_option maxHeartbeats 4000000 in
set_option maxRecDepth 100000 in
/-- noteChange -/
theorem c_Ho_noteChange (l : Launch) (D : va_G) (N0 : Nat) (k : Nat → Nat) (V : HV) (b : HA) (σ : HS) (hH : hsOk k V b σ) (i t : Nat) (hi : i < 150) (hf : b.f i = some t) (j : Nat) (hj6 : j < 6) (hj : σ.T i 0 = nI j) (hsl : firV j + σ.T i 1 = nI i) : Met l y_Ho_noteChange (.code y_Ho_noteChange b_Ho_noteChange 2 none :: WS) ({ frames := 2, cells := 0, slots := 0, locals := 42 }) (mP D N0 k [.ref b.ho, .ref t] V) (va_Qv (fun V' => hsOk k V' b (ntS σ i) ∧ hsFr b b V V') (mB D N0) (hA N0)) 0 0 (hA N0) := by
  refine Met.ofW (cc := b_Ho_noteChange) (maxL := 2) (ret := none) (by decide) rfl ?_
  intro p e s m args below meth c s₁ B hml hv0
  obtain ⟨rfl, hG, hV⟩ := hv0
  have hx := B.exec
  have hb := B.bytes
  have hr := B.returns
  have hts := atoms_spec (ws := .code y_Ho_noteChange b_Ho_noteChange 2 none :: WS) B.pre
  have hW : ∀ w ∈ WS, w.before _ s = true := fun w h => hts w (List.mem_cons_of_mem _ h)
  have hown : s.vm.findClass "BoardHouse" = some m.cls := findClass_of_methodNamed B.named
  have hlocks := B.notSynchronized
  have hS : va_S (hA N0) s.heap s.heap [] := va_S.rf
  have hl := lv_entry ([.ref b.ho, .ref t]) (n := 2) (Nat.le_of_ble_eq_true rfl)
  rw [lg_entry_eq]
  generalize (lg_sl ([.ref b.ho, .ref t]) ++ List.replicate (2 - (lg_sl ([.ref b.ho, .ref t])).length) Slot.unset).toArray = ls at hl ⊢
  have hl : lv_has ls 2 [(0, .ref b.ho), (1, .ref t)] := hl
  obtain ⟨h_t, h_a0⟩ := hH.ts.2.1 i t hi hf
  cases hwo : σ.wo with
  | none =>
    have hho : V b.ho = some (.inr (6, [.int (nI σ.nl), .ref b.bo, .ref b.gi, .ref b.co, .ref b.ta, .ref b.ac, .ref b.ve, .null, .int σ.rs])) := by rw [hH.ho, hwo]; rfl
    refine lv_aload_n hx hb d_Ho_noteChange_0 rfl (lv_at hl 0 rfl) ?_
    refine gf_Ho_37 hx hb hW hown hG hV hho d_Ho_noteChange_1 ?_
    refine lv_ifnullN (tgt := 31) hx hb d_Ho_noteChange_4 (by decide) ?_
    exact W.vret hx hb hr (fun t ht hW => ⟨⟨V, rfl, ⟨by rw [ntS, hwo]; exact hH, hsFr.rf⟩, mB_of ht hV⟩, hS.F ht⟩) hS.2.2 d_Ho_noteChange_31
  | some jw =>
    obtain ⟨hjw, tw, hfw⟩ := hH.wo jw hwo
    obtain ⟨h_tw, hr_tw, hs_tw, hz_tw⟩ := hH.ac.2.1 jw tw hjw hfw
    have hwA : woA b σ.wo = some tw := by rw [woA, hwo, Option.bind_some, hfw]
    have hho : V b.ho = some (.inr (6, [.int (nI σ.nl), .ref b.bo, .ref b.gi, .ref b.co, .ref b.ta, .ref b.ac, .ref b.ve, .ref tw, .int σ.rs])) := by rw [hH.ho, hwA]; rfl
    refine lv_aload_n hx hb d_Ho_noteChange_0 rfl (lv_at hl 0 rfl) ?_
    refine gf_Ho_37 hx hb hW hown hG hV hho d_Ho_noteChange_1 ?_
    refine lv_ifnull hx hb d_Ho_noteChange_4 ?_
    refine lv_aload_n hx hb d_Ho_noteChange_7 rfl (lv_at hl 0 rfl) ?_
    refine gf_Ho_37 hx hb hW hown hG hV hho d_Ho_noteChange_8 ?_
    refine lv_dup hx hb d_Ho_noteChange_11 rfl ?_
    refine gf_Ho_212 hx hb hW hown hG hV h_tw d_Ho_noteChange_12 ?_
    refine lv_iconst (v := 1) hx hb d_Ho_noteChange_15 (by decide) ?_
    refine lv_iadd hx hb d_Ho_noteChange_16 ?_
    refine pf_Ho_212 hx hb hW hown hG hV hS h_tw d_Ho_noteChange_17 (fun H locs hV hS => ?_)
    replace hV : hv D vwCl N0 (hu V tw (.inr (0, [.ref (b.rg jw), .ref (b.sn jw), .int (σ.A jw 0), .int ((σ.A jw 1) + 1)]))) H := hV
    generalize hV_V_1 : hu V tw (.inr (0, [.ref (b.rg jw), .ref (b.sn jw), .int (σ.A jw 0), .int ((σ.A jw 1) + 1)])) = V_1 at hV
    have hho'V_1 : V_1 b.ho = some (.inr (6, [.int (nI σ.nl), .ref b.bo, .ref b.gi, .ref b.co, .ref b.ta, .ref b.ac, .ref b.ve, .ref tw, .int σ.rs])) := by rw [← hV_V_1]; exact hu_o h_tw hho (by simp)
    have h_t'V_1 : V_1 t = some (.inr (5, [.int (σ.T i 0), .int (σ.T i 1), .ref (b.ar i), .int (σ.T i 2), .int (σ.T i 3), .int (σ.T i 4), .int (σ.T i 5)])) := by rw [← hV_V_1]; exact hu_o h_tw h_t (by simp)
    have h_a0'V_1 : V_1 (b.ar i) = some (.inr (1, [.int (σ.T i 6), .int (σ.T i 7), .int (σ.T i 8), .int (σ.T i 9)])) := by rw [← hV_V_1]; exact hu_o h_tw h_a0 (by simp)
    have hr_tw'V_1 : V_1 (b.rg jw) = some (.inr (1, [.int (σ.A jw 2), .int (σ.A jw 3), .int (σ.A jw 4), .int (σ.A jw 5)])) := by rw [← hV_V_1]; exact hu_o h_tw hr_tw (by simp)
    have hs_tw'V_1 : V_1 (b.sn jw) = some (.inr (4, [.ref (b.sa jw)])) := by rw [← hV_V_1]; exact hu_o h_tw hs_tw (by simp)
    have hz_tw'V_1 : V_1 (b.sa jw) = some (eI k 150 (σ.Z jw)) := by rw [← hV_V_1]; exact hu_o h_tw hz_tw (by simp)
    have htw'V_1 : V_1 tw = some (.inr (0, [.ref (b.rg jw), .ref (b.sn jw), .int (σ.A jw 0), .int ((σ.A jw 1) + 1)])) := by rw [← hV_V_1]; exact hu_s
    refine lv_aload_n hx hb d_Ho_noteChange_20 rfl (lv_at hl 0 rfl) ?_
    refine gf_Ho_37 hx hb hW hown hG hV hho'V_1 d_Ho_noteChange_21 ?_
    refine gf_Ho_201 hx hb hW hown hG hV htw'V_1 d_Ho_noteChange_24 ?_
    refine lv_aload_n hx hb d_Ho_noteChange_27 rfl (lv_at hl 1 rfl) ?_
    refine rc_V (va_runV (As := [.ref t]) (rest := []) ⟨hx, hb, hml, hown, hts⟩ (c_Sn_noteFirst l D N0 k V_1 (b.sn jw) (b.sa jw) (σ.Z jw) hs_tw'V_1 hz_tw'V_1 t (b.ar i) (σ.T i 0) (σ.T i 1) (σ.T i 2) (σ.T i 3) (σ.T i 4) (σ.T i 5) h_t'V_1 (σ.T i 6) (σ.T i 7) (σ.T i 8) (σ.T i 9) h_a0'V_1 i j (by omega) hj6 hj hsl) (cwV 1 hts (gi_V wm_Ho_291 wv_Sn_noteFirst ws_Sn_noteFirst wi_Sn wc_Sn_noteFirst) rfl rfl rfl (by decide +kernel) ⟨Nat.le_of_ble_eq_true rfl, Nat.le_of_ble_eq_true rfl⟩) (mP.preV hG hS hV hs_tw'V_1 rfl) rfl rfl hl.1 rfl (lv_room (Nat.le_of_ble_eq_true rfl)) d_Ho_noteChange_28 ⟨Nat.le_of_ble_eq_true rfl, Nat.le_of_ble_eq_true rfl⟩) hS (fun V_2 H locs hp_3 hV hS => ?_)
    have hV_V_2 := hp_3.symm
    have hq1 := hs_act hH hjw hfw (upd (σ.A jw) 1 (σ.A jw 1 + 1)) (fun q hq => up_n (by omega))
    have hq2 := hs_sa hq1 hjw hfw (if σ.Z jw i = -1 then upd (σ.Z jw) i (stT (σ.T i)) else σ.Z jw)
    exact W.vret hx hb hr (fun t ht hW => ⟨⟨V_2, rfl, ⟨by rw [← hV_V_2, ← hV_V_1, ntS, hwo]; exact hq2, by rw [← hV_V_2, ← hV_V_1]; exact (hsFr_hu (by rw [(hH.lab.la jw tw hjw hfw).1]; omega)).tr (hsFr_hu (by rw [(hH.lab.la jw tw hjw hfw).2.2.2]; omega))⟩, mB_of ht hV⟩, hS.F ht⟩) hS.2.2 d_Ho_noteChange_31
set_option maxHeartbeats 4000000 in
set_option maxRecDepth 100000 in
/-- shiftAll -/
theorem c_Ho_shiftAll (l : Launch) (D : va_G) (N0 : Nat) (k : Nat → Nat) (V : HV) (b : HA) (σ : HS) (hH : hsOk k V b σ) (ld tl : Nat) (hld : ld < 150) (hfl : b.f ld = some tl) (hSl : slOk b.f σ.T) (dx dy : Int32) : Met l y_Ho_shiftAll (.code y_Ho_shiftAll b_Ho_shiftAll 8 none :: WS) ({ frames := 3, cells := 0, slots := 0, locals := 63 }) (mP D N0 k [.ref b.ho, .ref tl, .int dx, .int dy] V) (va_Qv (fun V' => hsOk k V' b (lpS (shR dx dy) (some ld) (1000 * σ.T ld 0 + σ.T ld 1) σ 150) ∧ hsFr b b V V') (mB D N0) (hA N0)) 0 0 (hA N0) := by
  refine Met.ofW (cc := b_Ho_shiftAll) (maxL := 8) (ret := none) (by decide) rfl ?_
  intro p e s m args below meth c s₁ B hml hv0
  obtain ⟨rfl, hG, hV⟩ := hv0
  have hx := B.exec
  have hb := B.bytes
  have hr := B.returns
  have hts := atoms_spec (ws := .code y_Ho_shiftAll b_Ho_shiftAll 8 none :: WS) B.pre
  have hW : ∀ w ∈ WS, w.before _ s = true := fun w h => hts w (List.mem_cons_of_mem _ h)
  have hown : s.vm.findClass "BoardHouse" = some m.cls := findClass_of_methodNamed B.named
  have hlocks := B.notSynchronized
  have hS : va_S (hA N0) s.heap s.heap [] := va_S.rf
  have hl := lv_entry ([.ref b.ho, .ref tl, .int dx, .int dy]) (n := 8) (Nat.le_of_ble_eq_true rfl)
  rw [lg_entry_eq]
  generalize (lg_sl ([.ref b.ho, .ref tl, .int dx, .int dy]) ++ List.replicate (8 - (lg_sl ([.ref b.ho, .ref tl, .int dx, .int dy])).length) Slot.unset).toArray = ls at hl ⊢
  have hl : lv_has ls 8 [(0, .ref b.ho), (1, .ref tl), (2, .int dx), (3, .int dy)] := hl
  refine lv_aload_n hx hb d_Ho_shiftAll_0 rfl (lv_at hl 0 rfl) ?_
  refine gf_Ho_70 hx hb hW hown hG hV hH.ho d_Ho_shiftAll_1 ?_
  refine lv_astore (lv' := [(4, .ref b.ta), (0, .ref b.ho), (1, .ref tl), (2, .int dx), (3, .int dy)]) hx hb d_Ho_shiftAll_4 hl (by decide) rfl (fun ls hl => ?_)
  refine lv_aload hx hb d_Ho_shiftAll_6 (lv_at hl 0 rfl) ?_
  refine hv_alen hx hb hG.K hV 3 hH.ts.1 rfl (v := nI 150) rfl d_Ho_shiftAll_8 ?_
  refine lv_istore (lv' := [(5, .int (nI 150)), (4, .ref b.ta), (0, .ref b.ho), (1, .ref tl), (2, .int dx), (3, .int dy)]) hx hb d_Ho_shiftAll_9 hl (by decide) rfl (fun ls hl => ?_)
  refine lv_iconst (v := 0) hx hb d_Ho_shiftAll_11 (by decide) ?_
  refine lv_istore (lv' := [(6, .int 0), (5, .int (nI 150)), (4, .ref b.ta), (0, .ref b.ho), (1, .ref tl), (2, .int dx), (3, .int dy)]) hx hb d_Ho_shiftAll_12 hl (by decide) rfl (fun ls hl => ?_)
  obtain ⟨hn, ehn⟩ : ∃ z, z = 1000 * σ.T ld 0 + σ.T ld 1 := ⟨_, rfl⟩
  have loop_1 : ∀ (n i : Nat) (V1 : HV) (H : Heap) (locs : List Loc) (ls : Array Slot), i ≤ 150 → 151 ≤ i + n → hsOk k V1 b (lpS (shR dx dy) (some ld) hn σ i) → hsFr b b V V1 → hv D vwCl N0 V1 H → va_S (hA N0) s.heap H locs → lv_has ls 8 [(0, .ref b.ho), (1, .ref tl), (2, .int dx), (3, .int dy), (4, .ref b.ta), (5, .int (nI 150)), (6, .int (nI i))] → W p l e (headSpec (.code y_Ho_shiftAll b_Ho_shiftAll 8 none :: WS) ({ frames := 3, cells := 0, slots := 0, locals := 63 })).room s m #[.ref b.ho, .ref tl, .int dx, .int dy] below meth c H locs 0 0 (MQ below (va_Qv (fun V' => hsOk k V' b (lpS (shR dx dy) (some ld) (1000 * σ.T ld 0 + σ.T ld 1) σ 150) ∧ hsFr b b V V') (mB D N0) (hA N0)) #[.ref b.ho, .ref tl, .int dx, .int dy] s 0 0 (hA N0)) (F0 m 14 ls []) := by
    intro n
    induction n with
    | zero => intro i V1 H locs ls h1 h2; exact absurd h2 (by omega)
    | succ n ih =>
      intro i V1 H locs ls hi hin hH1 hF1 hV hS hl
      have hLq := lpS_q (U := (shR dx dy)) (ex := some ld) (hn := hn) (σ := σ) (fun R q hq => shR_lo R q (by omega)) i
      have hLi := lpS_hi (U := (shR dx dy)) (ex := some ld) (hn := hn) (σ := σ) i i (Nat.le_refl _)
      have hLs := lpS_sl (U := (shR dx dy)) (ex := some ld) (hn := hn) (σ := σ) (f := b.f) (fun R q hq => shR_lo R q (by omega)) hSl i
      have hLt := lpS_t (U := (shR dx dy)) (ex := some ld) (hn := hn) (σ := σ) (i := i)
      have hLf := lpS_f (U := (shR dx dy)) (ex := some ld) (hn := hn) (σ := σ) (i := i)
      have hH0 := hH1
      generalize lpS (shR dx dy) (some ld) hn σ i = s1 at hH1 hLq hLi hLs hLt hLf
      obtain ⟨h_tl, h_al⟩ := hH1.ts.2.1 ld tl hld hfl
      refine lv_iload hx hb d_Ho_shiftAll_14 (lv_at hl 6 rfl) ?_
      refine lv_iload hx hb d_Ho_shiftAll_16 (lv_at hl 5 rfl) ?_
      refine lv_icmp_ge (tgt := 72) hx hb d_Ho_shiftAll_18 (by decide) (fun c_2 => ?_) (fun c_2 => ?_)
      · have hge : 150 ≤ i := nI_le' c_2 (by omega) (by omega)
        exact W.vret hx hb hr (fun t ht hW => ⟨⟨V1, rfl, ⟨by rw [← ehn, ← show i = 150 by omega]; exact hH0, hF1⟩, mB_of ht hV⟩, hS.F ht⟩) hS.2.2 d_Ho_shiftAll_72
      · have hlt : i < 150 := nI_nle' c_2 (by omega) (by omega)
        refine lv_aload hx hb d_Ho_shiftAll_21 (lv_at hl 4 rfl) ?_
        refine lv_iload hx hb d_Ho_shiftAll_23 (lv_at hl 6 rfl) ?_
        refine hv_aald (v := b.f i) hx hb hG.K hV 3 hH1.ts.1 rfl (vp_in_nI (by omega) (by omega)) (by rw [nI_clamp (by omega)]) d_Ho_shiftAll_25 ?_
        cases hf_3 : b.f i with
        | none =>
          refine W.eq (g2 := F0 m 26 ls [.null]) rfl ?_
          refine lv_astoreN (lv' := [(7, .null), (0, .ref b.ho), (1, .ref tl), (2, .int dx), (3, .int dy), (4, .ref b.ta), (5, .int (nI 150)), (6, .int (nI i))]) hx hb d_Ho_shiftAll_26 hl (by decide) rfl (fun ls hl => ?_)
          refine lv_aloadN hx hb d_Ho_shiftAll_28 (lv_at hl 0 rfl) ?_
          refine lv_ifnullN (tgt := 66) hx hb d_Ho_shiftAll_30 (by decide) ?_
          obtain ⟨i_5, ei_5⟩ : ∃ y : Int32, y = (nI i) + 1 := ⟨_, rfl⟩
          refine lv_iinc (v := i_5) (lv' := [(6, .int i_5), (7, .null), (0, .ref b.ho), (1, .ref tl), (2, .int dx), (3, .int dy), (4, .ref b.ta), (5, .int (nI 150))]) hx hb d_Ho_shiftAll_66 hl (k := 7) rfl (by rw [ei_5]; rfl) (by decide) rfl (fun ls hl => ?_)
          refine lv_goto (tgt := 14) hx hb d_Ho_shiftAll_69 (by decide) ?_
          rw [nI_1] at ei_5
          subst ei_5
          have hgo : goP σ.T (some ld) hn i = false := by
            have h5 := hH1.ts.2.2 i (by omega) hf_3
            rw [hLi] at h5
            rw [goP, h5]; rfl
          exact ih (i + 1) V1 _ _ _ (by omega) (by omega) (by rw [hLf hgo]; exact hH1) hF1 hV hS (lv_sub hl [2, 3, 4, 5, 6, 7, 0] rfl)
        | some t_4 =>
          refine W.eq (g2 := F0 m 26 ls [.ref t_4]) rfl ?_
          obtain ⟨h_t_4, ha_t_4⟩ := hH1.ts.2.1 i t_4 (by omega) hf_3
          obtain ⟨j1, hj61, hj1, hsl1⟩ := hLs i t_4 (by omega) hf_3
          refine lv_astore (lv' := [(7, .ref t_4), (0, .ref b.ho), (1, .ref tl), (2, .int dx), (3, .int dy), (4, .ref b.ta), (5, .int (nI 150)), (6, .int (nI i))]) hx hb d_Ho_shiftAll_26 hl (by decide) rfl (fun ls hl => ?_)
          refine lv_aload hx hb d_Ho_shiftAll_28 (lv_at hl 0 rfl) ?_
          refine lv_ifnull hx hb d_Ho_shiftAll_30 ?_
          refine lv_aload hx hb d_Ho_shiftAll_33 (lv_at hl 0 rfl) ?_
          refine gf_Ho_172 hx hb hW hown hG hV h_t_4 d_Ho_shiftAll_35 ?_
          refine lv_if_eq (tgt := 66) hx hb d_Ho_shiftAll_38 (by decide) (fun c_6 => ?_) (fun c_6 => ?_)
          · obtain ⟨i_7, ei_7⟩ : ∃ y : Int32, y = (nI i) + 1 := ⟨_, rfl⟩
            refine lv_iinc (v := i_7) (lv' := [(6, .int i_7), (7, .ref t_4), (0, .ref b.ho), (1, .ref tl), (2, .int dx), (3, .int dy), (4, .ref b.ta), (5, .int (nI 150))]) hx hb d_Ho_shiftAll_66 hl (k := 7) rfl (by rw [ei_7]; rfl) (by decide) rfl (fun ls hl => ?_)
            refine lv_goto (tgt := 14) hx hb d_Ho_shiftAll_69 (by decide) ?_
            rw [nI_1] at ei_7
            subst ei_7
            have hgo := go_of (T := s1.T) (T' := σ.T) (kd := s1.T ld 0) (nu := s1.T ld 1) (exT_of hH1 hld hfl) (show i < 150 by omega) hf_3 hLi.symm (by rw [hLq ld 0 (by omega), hLq ld 1 (by omega), ← ehn])
            rw [decide_eq_true c_6] at hgo
            have hgo : goP σ.T (some ld) hn i = false := hgo
            exact ih (i + 1) V1 _ _ _ (by omega) (by omega) (by rw [hLf hgo]; exact hH1) hF1 hV hS (lv_sub hl [2, 3, 4, 5, 6, 7, 0] rfl)
          · refine lv_aload hx hb d_Ho_shiftAll_41 (lv_at hl 0 rfl) ?_
            refine lv_aload_n hx hb d_Ho_shiftAll_43 rfl (lv_at hl 2 rfl) ?_
            refine rc_i (va_runV (As := [.ref tl]) (rest := []) ⟨hx, hb, hml, hown, hts⟩ (c_Th_goesWith l D N0 k V1 t_4 (b.ar i) (s1.T i 0) (s1.T i 1) (s1.T i 2) (s1.T i 3) (s1.T i 4) (s1.T i 5) h_t_4 tl (b.ar ld) (s1.T ld 0) (s1.T ld 1) (s1.T ld 2) (s1.T ld 3) (s1.T ld 4) (s1.T ld 5) h_tl) (cwV 1 hts (gi_V wm_Ho_285 wv_Th_goesWith ws_Th_goesWith wi_Th wc_Th_goesWith) rfl rfl rfl (by decide +kernel) ⟨Nat.le_of_ble_eq_true rfl, Nat.le_of_ble_eq_true rfl⟩) (mP.preV hG hS hV h_t_4 rfl) rfl rfl hl.1 rfl (lv_room (Nat.le_of_ble_eq_true rfl)) d_Ho_shiftAll_44 ⟨Nat.le_of_ble_eq_true rfl, Nat.le_of_ble_eq_true rfl⟩) hS (fun H locs hV hS => ?_)
            refine lv_if_eq (tgt := 66) hx hb d_Ho_shiftAll_47 (by decide) (fun c_8 => ?_) (fun c_8 => ?_)
            · obtain ⟨i_9, ei_9⟩ : ∃ y : Int32, y = (nI i) + 1 := ⟨_, rfl⟩
              refine lv_iinc (v := i_9) (lv' := [(6, .int i_9), (7, .ref t_4), (0, .ref b.ho), (1, .ref tl), (2, .int dx), (3, .int dy), (4, .ref b.ta), (5, .int (nI 150))]) hx hb d_Ho_shiftAll_66 hl (k := 7) rfl (by rw [ei_9]; rfl) (by decide) rfl (fun ls hl => ?_)
              refine lv_goto (tgt := 14) hx hb d_Ho_shiftAll_69 (by decide) ?_
              rw [nI_1] at ei_9
              subst ei_9
              have hgo := go_of (T := s1.T) (T' := σ.T) (kd := s1.T ld 0) (nu := s1.T ld 1) (exT_of hH1 hld hfl) (show i < 150 by omega) hf_3 hLi.symm (by rw [hLq ld 0 (by omega), hLq ld 1 (by omega), ← ehn])
              simp only [bI_ne0, bI_eq0] at c_8
              rw [c_8, Bool.and_false] at hgo
              have hgo : goP σ.T (some ld) hn i = false := hgo
              exact ih (i + 1) V1 _ _ _ (by omega) (by omega) (by rw [hLf hgo]; exact hH1) hF1 hV hS (lv_sub hl [2, 3, 4, 5, 6, 7, 0] rfl)
            · refine lv_aload_n hx hb d_Ho_shiftAll_50 rfl (lv_at hl 1 rfl) ?_
              refine lv_aload hx hb d_Ho_shiftAll_51 (lv_at hl 0 rfl) ?_
              refine rc_V (va_runV (As := [.ref t_4]) (rest := []) ⟨hx, hb, hml, hown, hts⟩ (c_Ho_noteChange l D N0 k V1 b s1 hH1 i t_4 (by omega) hf_3 j1 hj61 hj1 hsl1) (cwV 1 hts (gi_V wm_Ho_253 wv_Ho_noteChange ws_Ho_noteChange wi_Ho wc_Ho_noteChange) rfl rfl rfl (by decide +kernel) ⟨Nat.le_of_ble_eq_true rfl, Nat.le_of_ble_eq_true rfl⟩) (mP.preV hG hS hV hH1.ho rfl) rfl rfl hl.1 rfl (lv_room (Nat.le_of_ble_eq_true rfl)) d_Ho_shiftAll_53 ⟨Nat.le_of_ble_eq_true rfl, Nat.le_of_ble_eq_true rfl⟩) hS (fun V_10 H locs hp_11 hV hS => ?_)
              obtain ⟨hH_12, hF_13⟩ := hp_11
              obtain ⟨h2_t_4, ha2_t_4⟩ := hH_12.ts.2.1 i t_4 (by omega) hf_3
              rw [eThT, ntS_T] at h2_t_4
              rw [eArT, ntS_T] at ha2_t_4
              refine lv_aload hx hb d_Ho_shiftAll_56 (lv_at hl 0 rfl) ?_
              refine gf_Ho_112 hx hb hW hown hG hV h2_t_4 d_Ho_shiftAll_58 ?_
              refine lv_iload_n hx hb d_Ho_shiftAll_61 rfl (lv_at hl 3 rfl) ?_
              refine lv_iload_n hx hb d_Ho_shiftAll_62 rfl (lv_at hl 4 rfl) ?_
              refine rc_V (va_runV (As := [.int dx, .int dy]) (rest := []) ⟨hx, hb, hml, hown, hts⟩ (c_Ar_shift l D N0 k V_10 (b.ar i) (s1.T i 6) (s1.T i 7) (s1.T i 8) (s1.T i 9) dx dy ha2_t_4) (cwV 2 hts (gi_V wm_Ho_288 wv_Ar_shift ws_Ar_shift wi_Ar wc_Ar_shift) rfl rfl rfl (by decide +kernel) ⟨Nat.le_of_ble_eq_true rfl, Nat.le_of_ble_eq_true rfl⟩) (mP.preV hG hS hV ha2_t_4 rfl) rfl rfl hl.1 rfl (lv_room (Nat.le_of_ble_eq_true rfl)) d_Ho_shiftAll_63 ⟨Nat.le_of_ble_eq_true rfl, Nat.le_of_ble_eq_true rfl⟩) hS (fun V_14 H locs hp_15 hV hS => ?_)
              have hHn := hs_ar hH_12 (by omega) hf_3 (shR dx dy (s1.T i)) (fun q hq => by rw [ntS_T]; exact shR_lo _ q hq)
              rw [ntS_T] at hHn
              have hH3 : hsOk k V_14 b ((ntS s1 i).wT (updT s1.T i (shR dx dy (s1.T i)))) := by rw [hp_15]; exact hHn
              have hF3 : hsFr b b V V_14 := by rw [hp_15]; exact (hF1.tr hF_13).tr (ar_put hH1.lab (by omega) hf_3)
              obtain ⟨i_16, ei_16⟩ : ∃ y : Int32, y = (nI i) + 1 := ⟨_, rfl⟩
              refine lv_iinc (v := i_16) (lv' := [(6, .int i_16), (7, .ref t_4), (0, .ref b.ho), (1, .ref tl), (2, .int dx), (3, .int dy), (4, .ref b.ta), (5, .int (nI 150))]) hx hb d_Ho_shiftAll_66 hl (k := 7) rfl (by rw [ei_16]; rfl) (by decide) rfl (fun ls hl => ?_)
              refine lv_goto (tgt := 14) hx hb d_Ho_shiftAll_69 (by decide) ?_
              rw [nI_1] at ei_16
              subst ei_16
              have hgo := go_of (T := s1.T) (T' := σ.T) (kd := s1.T ld 0) (nu := s1.T ld 1) (exT_of hH1 hld hfl) (show i < 150 by omega) hf_3 hLi.symm (by rw [hLq ld 0 (by omega), hLq ld 1 (by omega), ← ehn])
              rw [bI_ne0.mp c_8, decide_eq_false c_6] at hgo
              have hgo : goP σ.T (some ld) hn i = true := hgo
              exact ih (i + 1) V_14 _ _ _ (by omega) (by omega) (by rw [hLt hgo]; exact hH3) hF3 hV hS (lv_sub hl [2, 3, 4, 5, 6, 7, 0] rfl)
  exact loop_1 151 0 V _ _ _ (by omega) (by omega) hH hsFr.rf hV hS (lv_sub hl [3, 4, 5, 6, 2, 1, 0] rfl)
set_option maxHeartbeats 4000000 in
set_option maxRecDepth 100000 in
/-- removeAll -/
theorem c_Ho_removeAll (l : Launch) (D : va_G) (N0 : Nat) (k : Nat → Nat) (V : HV) (b : HA) (σ : HS) (hH : hsOk k V b σ) (ld tl : Nat) (hld : ld < 150) (hfl : b.f ld = some tl) (hSl : slOk b.f σ.T) : Met l y_Ho_removeAll (.code y_Ho_removeAll b_Ho_removeAll 6 none :: WS) ({ frames := 3, cells := 0, slots := 0, locals := 63 }) (mP D N0 k [.ref b.ho, .ref tl] V) (va_Qv (fun V' => hsOk k V' b (lpS rmR (some ld) (1000 * σ.T ld 0 + σ.T ld 1) σ 150) ∧ hsFr b b V V') (mB D N0) (hA N0)) 0 0 (hA N0) := by
  refine Met.ofW (cc := b_Ho_removeAll) (maxL := 6) (ret := none) (by decide) rfl ?_
  intro p e s m args below meth c s₁ B hml hv0
  obtain ⟨rfl, hG, hV⟩ := hv0
  have hx := B.exec
  have hb := B.bytes
  have hr := B.returns
  have hts := atoms_spec (ws := .code y_Ho_removeAll b_Ho_removeAll 6 none :: WS) B.pre
  have hW : ∀ w ∈ WS, w.before _ s = true := fun w h => hts w (List.mem_cons_of_mem _ h)
  have hown : s.vm.findClass "BoardHouse" = some m.cls := findClass_of_methodNamed B.named
  have hlocks := B.notSynchronized
  have hS : va_S (hA N0) s.heap s.heap [] := va_S.rf
  have hl := lv_entry ([.ref b.ho, .ref tl]) (n := 6) (Nat.le_of_ble_eq_true rfl)
  rw [lg_entry_eq]
  generalize (lg_sl ([.ref b.ho, .ref tl]) ++ List.replicate (6 - (lg_sl ([.ref b.ho, .ref tl])).length) Slot.unset).toArray = ls at hl ⊢
  have hl : lv_has ls 6 [(0, .ref b.ho), (1, .ref tl)] := hl
  refine lv_aload_n hx hb d_Ho_removeAll_0 rfl (lv_at hl 0 rfl) ?_
  refine gf_Ho_70 hx hb hW hown hG hV hH.ho d_Ho_removeAll_1 ?_
  refine lv_astore_n (lv' := [(2, .ref b.ta), (0, .ref b.ho), (1, .ref tl)]) hx hb d_Ho_removeAll_4 rfl hl (by decide) rfl (fun ls hl => ?_)
  refine lv_aload_n hx hb d_Ho_removeAll_5 rfl (lv_at hl 0 rfl) ?_
  refine hv_alen hx hb hG.K hV 3 hH.ts.1 rfl (v := nI 150) rfl d_Ho_removeAll_6 ?_
  refine lv_istore_n (lv' := [(3, .int (nI 150)), (2, .ref b.ta), (0, .ref b.ho), (1, .ref tl)]) hx hb d_Ho_removeAll_7 rfl hl (by decide) rfl (fun ls hl => ?_)
  refine lv_iconst (v := 0) hx hb d_Ho_removeAll_8 (by decide) ?_
  refine lv_istore (lv' := [(4, .int 0), (3, .int (nI 150)), (2, .ref b.ta), (0, .ref b.ho), (1, .ref tl)]) hx hb d_Ho_removeAll_9 hl (by decide) rfl (fun ls hl => ?_)
  obtain ⟨hn, ehn⟩ : ∃ z, z = 1000 * σ.T ld 0 + σ.T ld 1 := ⟨_, rfl⟩
  have loop_1 : ∀ (n i : Nat) (V1 : HV) (H : Heap) (locs : List Loc) (ls : Array Slot), i ≤ 150 → 151 ≤ i + n → hsOk k V1 b (lpS rmR (some ld) hn σ i) → hsFr b b V V1 → hv D vwCl N0 V1 H → va_S (hA N0) s.heap H locs → lv_has ls 6 [(0, .ref b.ho), (1, .ref tl), (2, .ref b.ta), (3, .int (nI 150)), (4, .int (nI i))] → W p l e (headSpec (.code y_Ho_removeAll b_Ho_removeAll 6 none :: WS) ({ frames := 3, cells := 0, slots := 0, locals := 63 })).room s m #[.ref b.ho, .ref tl] below meth c H locs 0 0 (MQ below (va_Qv (fun V' => hsOk k V' b (lpS rmR (some ld) (1000 * σ.T ld 0 + σ.T ld 1) σ 150) ∧ hsFr b b V V') (mB D N0) (hA N0)) #[.ref b.ho, .ref tl] s 0 0 (hA N0)) (F0 m 11 ls []) := by
    intro n
    induction n with
    | zero => intro i V1 H locs ls h1 h2; exact absurd h2 (by omega)
    | succ n ih =>
      intro i V1 H locs ls hi hin hH1 hF1 hV hS hl
      have hLq := lpS_q (U := rmR) (ex := some ld) (hn := hn) (σ := σ) rmR_lo i
      have hLi := lpS_hi (U := rmR) (ex := some ld) (hn := hn) (σ := σ) i i (Nat.le_refl _)
      have hLs := lpS_sl (U := rmR) (ex := some ld) (hn := hn) (σ := σ) (f := b.f) rmR_lo hSl i
      have hLt := lpS_t (U := rmR) (ex := some ld) (hn := hn) (σ := σ) (i := i)
      have hLf := lpS_f (U := rmR) (ex := some ld) (hn := hn) (σ := σ) (i := i)
      have hH0 := hH1
      generalize lpS rmR (some ld) hn σ i = s1 at hH1 hLq hLi hLs hLt hLf
      obtain ⟨h_tl, h_al⟩ := hH1.ts.2.1 ld tl hld hfl
      refine lv_iload hx hb d_Ho_removeAll_11 (lv_at hl 4 rfl) ?_
      refine lv_iload_n hx hb d_Ho_removeAll_13 rfl (lv_at hl 3 rfl) ?_
      refine lv_icmp_ge (tgt := 63) hx hb d_Ho_removeAll_14 (by decide) (fun c_2 => ?_) (fun c_2 => ?_)
      · have hge : 150 ≤ i := nI_le' c_2 (by omega) (by omega)
        exact W.vret hx hb hr (fun t ht hW => ⟨⟨V1, rfl, ⟨by rw [← ehn, ← show i = 150 by omega]; exact hH0, hF1⟩, mB_of ht hV⟩, hS.F ht⟩) hS.2.2 d_Ho_removeAll_63
      · have hlt : i < 150 := nI_nle' c_2 (by omega) (by omega)
        refine lv_aload_n hx hb d_Ho_removeAll_17 rfl (lv_at hl 2 rfl) ?_
        refine lv_iload hx hb d_Ho_removeAll_18 (lv_at hl 4 rfl) ?_
        refine hv_aald (v := b.f i) hx hb hG.K hV 3 hH1.ts.1 rfl (vp_in_nI (by omega) (by omega)) (by rw [nI_clamp (by omega)]) d_Ho_removeAll_20 ?_
        cases hf_3 : b.f i with
        | none =>
          refine W.eq (g2 := F0 m 21 ls [.null]) rfl ?_
          refine lv_astoreN (lv' := [(5, .null), (0, .ref b.ho), (1, .ref tl), (2, .ref b.ta), (3, .int (nI 150)), (4, .int (nI i))]) hx hb d_Ho_removeAll_21 hl (by decide) rfl (fun ls hl => ?_)
          refine lv_aloadN hx hb d_Ho_removeAll_23 (lv_at hl 0 rfl) ?_
          refine lv_ifnullN (tgt := 57) hx hb d_Ho_removeAll_25 (by decide) ?_
          obtain ⟨i_5, ei_5⟩ : ∃ y : Int32, y = (nI i) + 1 := ⟨_, rfl⟩
          refine lv_iinc (v := i_5) (lv' := [(4, .int i_5), (5, .null), (0, .ref b.ho), (1, .ref tl), (2, .ref b.ta), (3, .int (nI 150))]) hx hb d_Ho_removeAll_57 hl (k := 5) rfl (by rw [ei_5]; rfl) (by decide) rfl (fun ls hl => ?_)
          refine lv_goto (tgt := 11) hx hb d_Ho_removeAll_60 (by decide) ?_
          rw [nI_1] at ei_5
          subst ei_5
          have hgo : goP σ.T (some ld) hn i = false := by
            have h5 := hH1.ts.2.2 i (by omega) hf_3
            rw [hLi] at h5
            rw [goP, h5]; rfl
          exact ih (i + 1) V1 _ _ _ (by omega) (by omega) (by rw [hLf hgo]; exact hH1) hF1 hV hS (lv_sub hl [2, 3, 4, 5, 0] rfl)
        | some t_4 =>
          refine W.eq (g2 := F0 m 21 ls [.ref t_4]) rfl ?_
          obtain ⟨h_t_4, ha_t_4⟩ := hH1.ts.2.1 i t_4 (by omega) hf_3
          obtain ⟨j1, hj61, hj1, hsl1⟩ := hLs i t_4 (by omega) hf_3
          refine lv_astore (lv' := [(5, .ref t_4), (0, .ref b.ho), (1, .ref tl), (2, .ref b.ta), (3, .int (nI 150)), (4, .int (nI i))]) hx hb d_Ho_removeAll_21 hl (by decide) rfl (fun ls hl => ?_)
          refine lv_aload hx hb d_Ho_removeAll_23 (lv_at hl 0 rfl) ?_
          refine lv_ifnull hx hb d_Ho_removeAll_25 ?_
          refine lv_aload hx hb d_Ho_removeAll_28 (lv_at hl 0 rfl) ?_
          refine gf_Ho_172 hx hb hW hown hG hV h_t_4 d_Ho_removeAll_30 ?_
          refine lv_if_eq (tgt := 57) hx hb d_Ho_removeAll_33 (by decide) (fun c_6 => ?_) (fun c_6 => ?_)
          · obtain ⟨i_7, ei_7⟩ : ∃ y : Int32, y = (nI i) + 1 := ⟨_, rfl⟩
            refine lv_iinc (v := i_7) (lv' := [(4, .int i_7), (5, .ref t_4), (0, .ref b.ho), (1, .ref tl), (2, .ref b.ta), (3, .int (nI 150))]) hx hb d_Ho_removeAll_57 hl (k := 5) rfl (by rw [ei_7]; rfl) (by decide) rfl (fun ls hl => ?_)
            refine lv_goto (tgt := 11) hx hb d_Ho_removeAll_60 (by decide) ?_
            rw [nI_1] at ei_7
            subst ei_7
            have hgo := go_of (T := s1.T) (T' := σ.T) (kd := s1.T ld 0) (nu := s1.T ld 1) (exT_of hH1 hld hfl) (show i < 150 by omega) hf_3 hLi.symm (by rw [hLq ld 0 (by omega), hLq ld 1 (by omega), ← ehn])
            rw [decide_eq_true c_6] at hgo
            have hgo : goP σ.T (some ld) hn i = false := hgo
            exact ih (i + 1) V1 _ _ _ (by omega) (by omega) (by rw [hLf hgo]; exact hH1) hF1 hV hS (lv_sub hl [2, 3, 4, 5, 0] rfl)
          · refine lv_aload hx hb d_Ho_removeAll_36 (lv_at hl 0 rfl) ?_
            refine lv_aload_n hx hb d_Ho_removeAll_38 rfl (lv_at hl 2 rfl) ?_
            refine rc_i (va_runV (As := [.ref tl]) (rest := []) ⟨hx, hb, hml, hown, hts⟩ (c_Th_goesWith l D N0 k V1 t_4 (b.ar i) (s1.T i 0) (s1.T i 1) (s1.T i 2) (s1.T i 3) (s1.T i 4) (s1.T i 5) h_t_4 tl (b.ar ld) (s1.T ld 0) (s1.T ld 1) (s1.T ld 2) (s1.T ld 3) (s1.T ld 4) (s1.T ld 5) h_tl) (cwV 1 hts (gi_V wm_Ho_285 wv_Th_goesWith ws_Th_goesWith wi_Th wc_Th_goesWith) rfl rfl rfl (by decide +kernel) ⟨Nat.le_of_ble_eq_true rfl, Nat.le_of_ble_eq_true rfl⟩) (mP.preV hG hS hV h_t_4 rfl) rfl rfl hl.1 rfl (lv_room (Nat.le_of_ble_eq_true rfl)) d_Ho_removeAll_39 ⟨Nat.le_of_ble_eq_true rfl, Nat.le_of_ble_eq_true rfl⟩) hS (fun H locs hV hS => ?_)
            refine lv_if_eq (tgt := 57) hx hb d_Ho_removeAll_42 (by decide) (fun c_8 => ?_) (fun c_8 => ?_)
            · obtain ⟨i_9, ei_9⟩ : ∃ y : Int32, y = (nI i) + 1 := ⟨_, rfl⟩
              refine lv_iinc (v := i_9) (lv' := [(4, .int i_9), (5, .ref t_4), (0, .ref b.ho), (1, .ref tl), (2, .ref b.ta), (3, .int (nI 150))]) hx hb d_Ho_removeAll_57 hl (k := 5) rfl (by rw [ei_9]; rfl) (by decide) rfl (fun ls hl => ?_)
              refine lv_goto (tgt := 11) hx hb d_Ho_removeAll_60 (by decide) ?_
              rw [nI_1] at ei_9
              subst ei_9
              have hgo := go_of (T := s1.T) (T' := σ.T) (kd := s1.T ld 0) (nu := s1.T ld 1) (exT_of hH1 hld hfl) (show i < 150 by omega) hf_3 hLi.symm (by rw [hLq ld 0 (by omega), hLq ld 1 (by omega), ← ehn])
              simp only [bI_ne0, bI_eq0] at c_8
              rw [c_8, Bool.and_false] at hgo
              have hgo : goP σ.T (some ld) hn i = false := hgo
              exact ih (i + 1) V1 _ _ _ (by omega) (by omega) (by rw [hLf hgo]; exact hH1) hF1 hV hS (lv_sub hl [2, 3, 4, 5, 0] rfl)
            · refine lv_aload_n hx hb d_Ho_removeAll_45 rfl (lv_at hl 1 rfl) ?_
              refine lv_aload hx hb d_Ho_removeAll_46 (lv_at hl 0 rfl) ?_
              refine rc_V (va_runV (As := [.ref t_4]) (rest := []) ⟨hx, hb, hml, hown, hts⟩ (c_Ho_noteChange l D N0 k V1 b s1 hH1 i t_4 (by omega) hf_3 j1 hj61 hj1 hsl1) (cwV 1 hts (gi_V wm_Ho_253 wv_Ho_noteChange ws_Ho_noteChange wi_Ho wc_Ho_noteChange) rfl rfl rfl (by decide +kernel) ⟨Nat.le_of_ble_eq_true rfl, Nat.le_of_ble_eq_true rfl⟩) (mP.preV hG hS hV hH1.ho rfl) rfl rfl hl.1 rfl (lv_room (Nat.le_of_ble_eq_true rfl)) d_Ho_removeAll_48 ⟨Nat.le_of_ble_eq_true rfl, Nat.le_of_ble_eq_true rfl⟩) hS (fun V_10 H locs hp_11 hV hS => ?_)
              obtain ⟨hH_12, hF_13⟩ := hp_11
              obtain ⟨h2_t_4, ha2_t_4⟩ := hH_12.ts.2.1 i t_4 (by omega) hf_3
              rw [eThT, ntS_T] at h2_t_4
              rw [eArT, ntS_T] at ha2_t_4
              refine lv_aload hx hb d_Ho_removeAll_51 (lv_at hl 0 rfl) ?_
              refine lv_iconst (v := 0) hx hb d_Ho_removeAll_53 (by decide) ?_
              refine pf_Ho_172 hx hb hW hown hG hV hS h2_t_4 (by decide) d_Ho_removeAll_54 (fun H locs hV hS => ?_)
              replace hV : hv D vwCl N0 (hu V_10 t_4 (.inr (5, [.int (s1.T i 0), .int (s1.T i 1), .ref (b.ar i), .int (s1.T i 2), .int (s1.T i 3), .int (s1.T i 4), .int 0]))) H := hV
              generalize hV_V_14 : hu V_10 t_4 (.inr (5, [.int (s1.T i 0), .int (s1.T i 1), .ref (b.ar i), .int (s1.T i 2), .int (s1.T i 3), .int (s1.T i 4), .int 0])) = V_14 at hV
              have ha2_t_4'V_14 : V_14 (b.ar i) = some (.inr (1, [.int (s1.T i 6), .int (s1.T i 7), .int (s1.T i 8), .int (s1.T i 9)])) := by rw [← hV_V_14]; exact hu_o h2_t_4 ha2_t_4 (by simp)
              have ht_4'V_14 : V_14 t_4 = some (.inr (5, [.int (s1.T i 0), .int (s1.T i 1), .ref (b.ar i), .int (s1.T i 2), .int (s1.T i 3), .int (s1.T i 4), .int 0])) := by rw [← hV_V_14]; exact hu_s
              have hHn := hs_th hH_12 (by omega) hf_3 (rmR (s1.T i)) (fun q hq => by rw [ntS_T]; exact if_neg (by omega))
              rw [ntS_T] at hHn
              have hH3 : hsOk k V_14 b ((ntS s1 i).wT (updT s1.T i (rmR (s1.T i)))) := by rw [← hV_V_14]; exact hHn
              have hF3 : hsFr b b V V_14 := by rw [← hV_V_14]; exact (hF1.tr hF_13).tr (th_put hH1.lab (by omega) hf_3)
              obtain ⟨i_15, ei_15⟩ : ∃ y : Int32, y = (nI i) + 1 := ⟨_, rfl⟩
              refine lv_iinc (v := i_15) (lv' := [(4, .int i_15), (5, .ref t_4), (0, .ref b.ho), (1, .ref tl), (2, .ref b.ta), (3, .int (nI 150))]) hx hb d_Ho_removeAll_57 hl (k := 5) rfl (by rw [ei_15]; rfl) (by decide) rfl (fun ls hl => ?_)
              refine lv_goto (tgt := 11) hx hb d_Ho_removeAll_60 (by decide) ?_
              rw [nI_1] at ei_15
              subst ei_15
              have hgo := go_of (T := s1.T) (T' := σ.T) (kd := s1.T ld 0) (nu := s1.T ld 1) (exT_of hH1 hld hfl) (show i < 150 by omega) hf_3 hLi.symm (by rw [hLq ld 0 (by omega), hLq ld 1 (by omega), ← ehn])
              rw [bI_ne0.mp c_8, decide_eq_false c_6] at hgo
              have hgo : goP σ.T (some ld) hn i = true := hgo
              exact ih (i + 1) V_14 _ _ _ (by omega) (by omega) (by rw [hLt hgo]; exact hH3) hF3 hV hS (lv_sub hl [2, 3, 4, 5, 0] rfl)
  exact loop_1 151 0 V _ _ _ (by omega) (by omega) hH hsFr.rf hV hS (lv_sub hl [3, 4, 2, 1, 0] rfl)
