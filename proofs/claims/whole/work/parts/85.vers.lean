theorem opn_eq {σ : HS} {ρ : MS} (hI : hsI σ) (h : JR σ ρ) : anyF (moOpn ρ.I) 0 10 = anyF (opn σ.A) 0 10 := anyF_congr 10 0 (fun j _ hj => by
  rw [moOpn, opn]
  by_cases q : j < gN σ 6
  · rw [(h.ac j q).1.1]
  · rw [hI.2.2.2.2.2 j (by omega) q, (h.au j (by omega) (by omega)).1])
theorem J_version : ok_version JR := by
  intro σ ρ hI h r a σ' ans ρ' hR hM
  have eo := opn_eq hI h
  have hf := full_eq hI h (K := 7) (by omega) (by omega)
  rcases hR with ⟨c1, er, es⟩ | ⟨c1, er, W', hW, es, ev⟩
  · rw [c1] at eo
    rcases hM with ⟨-, ea, eρ⟩ | ⟨z, -⟩ | ⟨z, -⟩
    · rw [es]; exact bad h eρ er (by decide)
    · rw [eo] at z; cases z
    · rw [eo] at z; cases z
  · rw [c1] at eo
    rcases hM with ⟨z, -⟩ | ⟨-, c2, ea, eρ⟩ | ⟨-, c2, ea, g0, g1, g2, g3, eρ, hP⟩
    · rw [eo] at z; cases z
    · rw [vsP, if_pos (hf.mp c2)] at es ev
      rw [es, eρ, ev, ea, er]
      exact ⟨(h.thr 0).tell 1, by show ((ρ.ws 0 0).ws 3 1).s 0 = 0; rw [ms_sn (by decide), ms_ss], fun _ => rfl⟩
    · have hq : ¬ limV 7 ≤ σ.G 7 := fun z => c2 (hf.mpr z)
      rw [vsP, if_neg hq] at es ev
      have em := mN_g h (K := 7) (by omega) (by omega)
      rw [em] at ea hP
      obtain ⟨gK, gn, hl, hG'⟩ := gN_up (σ' := ((σ.wrs 0).wW (updT σ.W (gN σ 7) W')).wG (upd σ.G 7 (σ.G 7 + 1))) hI.1 (by omega) (by omega) hq rfl
      have hn := (gN_of hI.1 (K := 7) (by omega) (by omega)).1
      rw [es, eρ, ev, ea, er]
      refine ⟨?_, by show ((ρ.ws 0 0).ws 3 0).s 0 = 0; rw [ms_sn (by decide), ms_ss], fun _ => congrArg Int32.toInt64 (by show 1000 * nI 7 + σ.G 7 = 7000 + nI (gN σ 7); rw [hn]; rfl)⟩
      show JR (((σ.wrs 0).wW (updT σ.W (gN σ 7) W')).wG (upd σ.G 7 (σ.G 7 + 1))) (moVrS ρ g0 g1 g2 g3)
      have f1 : (((σ.wrs 0).wW (updT σ.W (gN σ 7) W')).wG (upd σ.G 7 (σ.G 7 + 1))).nl = σ.nl := rfl
      have f2 : (((σ.wrs 0).wW (updT σ.W (gN σ 7) W')).wG (upd σ.G 7 (σ.G 7 + 1))).g = σ.g := rfl
      have f3 : (((σ.wrs 0).wW (updT σ.W (gN σ 7) W')).wG (upd σ.G 7 (σ.G 7 + 1))).rs = 0 := rfl
      have f4 : (((σ.wrs 0).wW (updT σ.W (gN σ 7) W')).wG (upd σ.G 7 (σ.G 7 + 1))).wo = σ.wo := rfl
      have f5 : (((σ.wrs 0).wW (updT σ.W (gN σ 7) W')).wG (upd σ.G 7 (σ.G 7 + 1))).T = σ.T := rfl
      have f6 : (((σ.wrs 0).wW (updT σ.W (gN σ 7) W')).wG (upd σ.G 7 (σ.G 7 + 1))).A = σ.A := rfl
      have f7 : (((σ.wrs 0).wW (updT σ.W (gN σ 7) W')).wG (upd σ.G 7 (σ.G 7 + 1))).Z = σ.Z := rfl
      have f8 : (((σ.wrs 0).wW (updT σ.W (gN σ 7) W')).wG (upd σ.G 7 (σ.G 7 + 1))).W = updT σ.W (gN σ 7) W' := rfl
      have f9 : (((σ.wrs 0).wW (updT σ.W (gN σ 7) W')).wG (upd σ.G 7 (σ.G 7 + 1))).G = upd σ.G 7 (σ.G 7 + 1) := rfl
      have hs : ∀ i, i < 150 → slM (((σ.wrs 0).wW (updT σ.W (gN σ 7) W')).wG (upd σ.G 7 (σ.G 7 + 1))) i = slM σ i := fun i hi => by
        rw [slM, slM, gn _ (by rcases slK_r i hi with z | z | z | z <;> omega)]
      have g2' := gn 2 (by omega)
      have g6' := gn 6 (by omega)
      generalize ((σ.wrs 0).wW (updT σ.W (gN σ 7) W')).wG (upd σ.G 7 (σ.G 7 + 1)) = σ1 at *
      have d0 : (moVrS ρ g0 g1 g2 g3).I 0 = upd (ρ.I 0) 7 (ρ.I 0 7 + 1) := rfl
      have d19 : (moVrS ρ g0 g1 g2 g3).I 19 = g0 := rfl
      have d20 : (moVrS ρ g0 g1 g2 g3).I 20 = g1 := rfl
      have d21 : (moVrS ρ g0 g1 g2 g3).I 21 = g2 := rfl
      have d22 : (moVrS ρ g0 g1 g2 g3).I 22 = g3 := rfl
      have dk : ∀ k, k ≠ 0 → k < 19 → (moVrS ρ g0 g1 g2 g3).I k = ρ.I k := fun k hk hk2 => by
        rw [moVrS, ms_In (by omega), ms_In (by omega), ms_In (by omega), ms_In (by omega), ms_In hk]; rfl
      have ds : (moVrS ρ g0 g1 g2 g3).s = ((ρ.ws 0 0).ws 3 0).s := rfl
      generalize moVrS ρ g0 g1 g2 g3 = ρ1 at *
      obtain ⟨p1, p2, p3, p4⟩ := hP
      have j := (h.thr 0).tell 0
      have kN : ∀ i, i < 150 → knw ρ1 (gN σ 7) i = slM σ i := fun i hi => by
        have hk5 : slK i ≤ 5 ∧ 2 ≤ slK i := by rcases slK_r i hi with z | z | z | z <;> omega
        obtain ⟨e, hle⟩ := gN_of hI.1 (K := slK i) (by omega) (by omega)
        have := liN_le (K := slK i)
        rw [knw, d19, p1 (slK i) (by omega), up_n (by omega), h.gv (slK i) (by omega) (by omega), e, slM, Bool.eq_iff_iff]
        simp only [Bool.not_eq_true', decide_eq_false_iff_not, decide_eq_true_eq]
        rw [nI_leI (by omega) (by rcases slK_r i hi with z | z | z | z <;> omega)]; omega
      have kO : ∀ w, w < gN σ 7 → ∀ i, i < 150 → knw ρ1 w i = knw ρ w i := fun w hw i hi => by
        have hk5 : slK i ≤ 5 := by rcases slK_r i hi with z | z | z | z <;> omega
        rw [knw, knw, d19, p2 _ (by omega)]
      have vO : ∀ w, w < gN σ 7 → ∀ i, i < 150 → vC ρ1 w i = vC ρ w i := fun w hw i hi => by
        rw [vC, vC, kO w hw i hi, d20, (p4 _ (by omega)).1]
      have hpo : ∀ th x y, pOK ρ.I th x y → pOK ρ1.I th x y := fun th x y q => by unfold pOK at *; rw [dk 8 (by omega) (by omega), dk 4 (by omega) (by omega), dk 5 (by omega) (by omega)]; exact q
      have huc : ∀ j a b, a ≠ 0 → b ≠ 0 → a < 19 → b < 19 → uC ρ1.I j a b = uC ρ.I j a b := fun j a b ha hb q1 q2 => by funext i; rw [uC, uC, dk 15 (by omega) (by omega), dk a ha q1, dk b hb q2]
      have htc : ∀ j i, tcd ρ1.I j i ↔ tcd ρ.I j i := fun j i => by rw [tcd, tcd, dk 15 (by omega) (by omega)]
      refine ⟨by rw [ds, f1]; exact j.nl, by rw [ds, f2]; exact j.gp, by rw [ds, f3]; exact j.rs, by rw [f4, ds, g6', dk 9 (by omega) (by omega)]; exact j.wo, ?_, by rw [dk 1 (by omega) (by omega)]; exact h.b1, by rw [dk 16 (by omega) (by omega)]; exact h.b16, ?_, ?_, ?_, ?_, ?_, ?_, ?_, ?_, ?_, ?_, ?_, ?_⟩
      · intro K h1 h7
        rw [d0, f9]
        by_cases q : K = 7
        · rw [q, up_s, up_s, h.gv 7 (by omega) (by omega)]
        · rw [up_n q, up_n q]; exact h.gv K h1 h7
      · intro i hi q
        rw [hs i hi] at q
        rw [f1, g2', f5]
        have := h.th i hi q
        unfold thR at *
        rw [dk 1 (by omega) (by omega), dk 2 (by omega) (by omega), dk 3 (by omega) (by omega), dk 4 (by omega) (by omega), dk 5 (by omega) (by omega), dk 6 (by omega) (by omega), dk 7 (by omega) (by omega), dk 8 (by omega) (by omega)]; exact this
      · intro i hi q; rw [hs i hi] at q; rw [dk 1 (by omega) (by omega)]; exact h.un i hi q
      · intro k hk6; rw [g6'] at hk6; have := h.ac k hk6; unfold acG at *; rw [f6, dk 9 (by omega) (by omega), dk 14 (by omega) (by omega), dk 10 (by omega) (by omega), dk 11 (by omega) (by omega), dk 12 (by omega) (by omega), dk 13 (by omega) (by omega)]; exact this
      · rw [g6', dk 9 (by omega) (by omega), dk 14 (by omega) (by omega), dk 15 (by omega) (by omega)]; exact h.au
      · intro k hk6 i hi
        rw [g6'] at hk6
        rw [htc, hs i hi, f7, dk 15 (by omega) (by omega), dk 16 (by omega) (by omega), dk 17 (by omega) (by omega), dk 18 (by omega) (by omega), dk 4 (by omega) (by omega), dk 5 (by omega) (by omega)]; exact h.tz k hk6 i hi
      · intro w hw i hi
        rw [hs i hi, f8, d20, d21, d22, dk 4 (by omega) (by omega), dk 5 (by omega) (by omega)]
        by_cases q : w = gN σ 7
        · subst q
          obtain ⟨x1, x2, x3⟩ := p3 i hi
          rw [kN i hi, uT_s, hW i hi, x1, x2, x3, vsW]
          cases hm : slM σ i with
          | false => exact Or.inl ⟨rfl, by rw [if_neg (by decide)]⟩
          | true =>
            have ht := h.th i hi hm
            exact Or.inr ⟨rfl, rfl, by rw [if_pos rfl, stT, ht.1, ht.2.1.1, ht.2.1.2.1], h.b1 i, ht.2.2.2.1⟩
        · have hw' : w < gN σ 7 := by omega
          rw [kO w hw' i hi, uT_n q, (p4 (150 * w + i) (by omega)).1, (p4 (150 * w + i) (by omega)).2.1, (p4 (150 * w + i) (by omega)).2.2]; exact h.vr w hw' i hi
      · rw [dk 1 (by omega) (by omega), dk 2 (by omega) (by omega), dk 3 (by omega) (by omega)]; exact hpo _ _ _ h.i1
      · intro k hk6 ho i hi hq
        rw [g6'] at hk6
        rw [htc] at hq
        rw [dk 9 (by omega) (by omega)] at ho
        rw [dk 1 (by omega) (by omega), dk 2 (by omega) (by omega), dk 3 (by omega) (by omega), dk 4 (by omega) (by omega), dk 5 (by omega) (by omega), dk 10 (by omega) (by omega), dk 11 (by omega) (by omega), dk 12 (by omega) (by omega), dk 13 (by omega) (by omega), dk 16 (by omega) (by omega), dk 17 (by omega) (by omega), dk 18 (by omega) (by omega)]; exact h.i2 k hk6 ho i hi hq
      · intro a b ha hb hab; rw [g6'] at ha hb; rw [dk 9 (by omega) (by omega)]; intro o1 o2; have := h.dj a b ha hb hab o1 o2; unfold apR at *; rw [dk 10 (by omega) (by omega), dk 11 (by omega) (by omega), dk 12 (by omega) (by omega), dk 13 (by omega) (by omega)]; exact this
      · intro a b ha hb hab; rw [g6'] at ha hb; rw [dk 9 (by omega) (by omega)]; intro o1 o2 i hi hq; rw [dk 15 (by omega) (by omega)]; exact h.td a b ha hb hab o1 o2 i hi ((htc a i).mp hq)
      · intro k hk6; rw [g6'] at hk6; rw [dk 9 (by omega) (by omega), huc k 1 16 (by omega) (by omega) (by omega) (by omega), huc k 2 17 (by omega) (by omega) (by omega) (by omega), huc k 3 18 (by omega) (by omega) (by omega) (by omega)]; intro ho; exact hpo _ _ _ (h.i3 k hk6 ho)
      · intro w hw
        rw [d21, d22]
        refine hpo _ _ _ ?_
        by_cases q : w = gN σ 7
        · subst q
          have vN : ∀ i, i < 150 → vC ρ1 (gN σ 7) i = ρ.I 1 i := fun i hi => by
            rw [vC, kN i hi, d20, (p3 i hi).1]
            cases hm : slM σ i with
            | true => rw [if_pos rfl]
            | false => rw [if_neg (by decide)]; exact (h.un i hi hm).symm
          refine pOK_congr (I := ρ.I) (fun p hp q => ⟨(vN p hp).symm, rfl, (p3 p hp).2.1, (p3 p hp).2.2⟩) (fun p hp q => ⟨vN p (by omega), (p3 p (by omega)).2.1, (p3 p (by omega)).2.2, rfl, rfl⟩) h.i1
        · have hw' : w < gN σ 7 := by omega
          refine pOK_congr (I := ρ.I) (fun p hp q => ⟨(vO w hw' p hp).symm, rfl, (p4 _ (by omega)).2.1, (p4 _ (by omega)).2.2⟩) (fun p hp q => ⟨vO w hw' p (by omega), (p4 _ (by omega)).2.1, (p4 _ (by omega)).2.2, rfl, rfl⟩) (h.i4 w hw')
theorem bkL_c {ρ : MS} {v : Nat} : ∀ n, (moBkL ρ v n).s = ρ.s ∧ (∀ k, k ≠ 1 → k ≠ 2 → k ≠ 3 → (moBkL ρ v n).I k = ρ.I k) ∧ (∀ i, i < n → (moBkL ρ v n).I 1 i = moBkN ρ v i ∧ (moBkL ρ v n).I 2 i = (if knw ρ v i = true then ρ.I 21 (150 * v + i) else ρ.I 2 i) ∧ (moBkL ρ v n).I 3 i = (if knw ρ v i = true then ρ.I 22 (150 * v + i) else ρ.I 3 i)) ∧ ∀ i, n ≤ i → (moBkL ρ v n).I 1 i = ρ.I 1 i ∧ (moBkL ρ v n).I 2 i = ρ.I 2 i ∧ (moBkL ρ v n).I 3 i = ρ.I 3 i := by
  intro n
  induction n with
  | zero => exact ⟨rfl, fun _ _ _ _ => rfl, fun i hi => absurd hi (by omega), fun _ _ => ⟨rfl, rfl, rfl⟩⟩
  | succ n ih =>
    obtain ⟨a1, a2, a3, a4⟩ := ih
    rw [moBkL]
    generalize moBkL ρ v n = r at *
    have kn : knw r v n = knw ρ v n := by rw [knw, knw, a2 19 (by omega) (by omega) (by omega)]
    have bn : moBkN r v n = moBkN ρ v n := by rw [moBkN, moBkN, kn, a2 20 (by omega) (by omega) (by omega)]
    have f1 : (moBkS r v n).I 1 = upd (r.I 1) n (moBkN r v n) := by rw [moBkS, ms_In (by decide), ms_In (by decide), ms_II]
    have f2 : (moBkS r v n).I 2 = upd (r.I 2) n (if knw r v n = true then r.I 21 (150 * v + n) else r.I 2 n) := by rw [moBkS, ms_In (by decide), ms_II]
    have f3 : (moBkS r v n).I 3 = upd (r.I 3) n (if knw r v n = true then r.I 22 (150 * v + n) else r.I 3 n) := by rw [moBkS, ms_II]
    refine ⟨a1, fun k k1 k2 k3 => by rw [moBkS, ms_In k3, ms_In k2, ms_In k1]; exact a2 k k1 k2 k3, fun i hi => ?_, fun i hi => ?_⟩
    · rw [f1, f2, f3]
      by_cases e : i = n
      · rw [e, up_s, up_s, up_s, kn, bn, a2 21 (by omega) (by omega) (by omega), a2 22 (by omega) (by omega) (by omega), (a4 n (Nat.le_refl _)).2.1, (a4 n (Nat.le_refl _)).2.2]; exact ⟨rfl, rfl, rfl⟩
      · rw [up_n e, up_n e, up_n e]; exact a3 i (by omega)
    · rw [f1, f2, f3, up_n (by omega), up_n (by omega), up_n (by omega)]; exact a4 i (by omega)
theorem bkC_c {ρ : MS} {v : Nat} : ∀ n, moBkC ρ v n = cntF (moBkO ρ v) 0 n := by
  intro n
  induction n with
  | zero => rfl
  | succ n ih =>
    obtain ⟨-, a2, -, a4⟩ := bkL_c (ρ := ρ) (v := v) n
    rw [moBkC, ih, cntF_add n 0 1, Nat.zero_add, cntF, cntF, Nat.add_zero]
    congr 1
    have : moBkO (moBkL ρ v n) v n = moBkO ρ v n := by
      have kn : knw (moBkL ρ v n) v n = knw ρ v n := by rw [knw, knw, a2 19 (by omega) (by omega) (by omega)]
      rw [moBkO, moBkO, moBkN, moBkN, kn, a2 20 (by omega) (by omega) (by omega), a2 21 (by omega) (by omega) (by omega), a2 22 (by omega) (by omega) (by omega), (a4 n (Nat.le_refl _)).1, (a4 n (Nat.le_refl _)).2.1, (a4 n (Nat.le_refl _)).2.2]
    rw [this]
theorem st_inj {x y w h x' y' w' h' z z' : Int32} (hb : oB x y w h) (hb' : oB x' y' w' h') (hz : z = 0 ∨ z = 1) (hz' : z' = 0 ∨ z' = 1) : th_st x y z = th_st x' y' z' ↔ (x = x' ∧ y = y' ∧ z = z') := by
  obtain ⟨-, a1, a2, a3⟩ := st_oB hb hz
  obtain ⟨-, b1, b2, b3⟩ := st_oB hb' hz'
  constructor
  · intro e
    rw [e] at a1 a2 a3
    exact ⟨a1.symm.trans b1, a2.symm.trans b2, a3.symm.trans b3⟩
  · rintro ⟨rfl, rfl, rfl⟩; rfl
theorem J_back : ok_back JR := by
  intro σ ρ hI h hh r a σ' ans ρ' hR hM
  obtain ⟨ea, eρ⟩ := hM
  have fp := flt h hh 7
  have eo := opn_eq hI h
  rw [moBack] at ea eρ
  rcases hR with ⟨c1, er, es⟩ | ⟨c1, c2, er, es⟩ | ⟨c1, c2, c3, er, es⟩ | ⟨c1, c2, c3, er, es, ev⟩
  · rw [c1, if_neg (by decide)] at fp
    rw [fp, if_neg (by decide)] at eρ
    rw [es]; exact bad h eρ er (by decide)
  · rw [c1, if_pos rfl, if_neg c2] at fp
    rw [fp, if_neg (by decide)] at eρ
    rw [es]; exact bad h eρ er (by decide)
  · rw [c1, if_pos rfl, if_pos c2] at fp
    rw [fp, if_pos rfl, eo, if_pos c3] at eρ
    rw [es]; exact bad h eρ er (by decide)
  · rw [c1, if_pos rfl, if_pos c2] at fp
    rw [fp, if_pos rfl, eo, if_neg (by rw [c3]; decide)] at eρ ea
    obtain ⟨-, -, hv, -⟩ := hd_of hI c1 (K := 7) (by omega) (by omega) c2
    generalize hdN hh = v at *
    have h0 : JR σ (ρ.ws 0 0) := h.thr 0
    have s0 : (ρ.ws 0 0).s 0 = 0 := ms_ss
    generalize ρ.ws 0 0 = ρ0 at *
    have hcl : ∀ k, k < gN σ 6 → ρ0.I 9 k = 0 := fun k hk => by
      by_cases q : ρ0.I 9 k = 0
      · exact q
      · have hq : opn σ.A k = true := by rw [opn, (h0.ac k hk).1.1, decide_eq_false q]; rfl
        have := (anyF_iff (P := opn σ.A) 10 0).mpr ⟨k, by omega, by have := g6 hI; omega, hq⟩
        rw [c3] at this; cases this
    obtain ⟨q1, q2, q3, q4⟩ := bkL_c (ρ := ρ0) (v := v) 150
    rw [bkC_c] at ea
    generalize moBkL ρ0 v 150 = ρ1 at *
    have kU : ∀ i, i < 150 → slM σ i = false → knw ρ0 v i = false := fun i hi hm => vC_un h0 hi hm hv
    -- what is known of slot i
    have kk : ∀ i, i < 150 → slM σ i = true → (knw ρ0 v i = false ∧ roT (σ.T i) (σ.W v i) = (fun q => if q = 5 then 0 else σ.T i q) ∧ moBkN ρ0 v i = 0) ∨ (knw ρ0 v i = true ∧ roT (σ.T i) (σ.W v i) = rsT (σ.T i) (σ.W v i) ∧ moBkN ρ0 v i = ρ0.I 20 (150 * v + i) ∧ σ.W v i = th_st (ρ0.I 21 (150 * v + i)) (ρ0.I 22 (150 * v + i)) (ρ0.I 20 (150 * v + i)) ∧ (ρ0.I 20 (150 * v + i) = 0 ∨ ρ0.I 20 (150 * v + i) = 1) ∧ oB (ρ0.I 21 (150 * v + i)) (ρ0.I 22 (150 * v + i)) (ρ0.I 4 i) (ρ0.I 5 i)) := fun i hi hm => by
      rcases h0.vr v hv i hi with ⟨a1, a2⟩ | ⟨a1, a2, a3, a4, a5⟩
      · exact Or.inl ⟨a1, by rw [roT, if_pos a2], by rw [moBkN, a1]; rfl⟩
      · refine Or.inr ⟨a1, by rw [roT, if_neg (fun q => (st_oB a5 a4).1 (by rw [← a3]; exact q))], ?_, a3, a4, a5⟩
        rw [moBkN, a1]
        rcases a4 with q | q <;> rw [q] <;> rfl
    have cnt : bkC σ v = nI (cntF (moBkO ρ0 v) 0 150) := by
      rw [bkC]
      refine congrArg nI (cntF_congr 150 0 (fun i _ hi => ?_))
      cases hm : slM σ i with
      | false =>
        rw [Bool.false_and, moBkO, moBkN, kU i (by omega) hm, h0.un i (by omega) hm]; rfl
      | true =>
        have ht := h0.th i (by omega) hm
        have sT : stT (σ.T i) = th_st (ρ0.I 2 i) (ρ0.I 3 i) (ρ0.I 1 i) := by rw [stT, ht.1, ht.2.1.1, ht.2.1.2.1]
        rw [Bool.true_and, sT]
        rcases kk i (by omega) hm with ⟨a1, a2, a3⟩ | ⟨a1, a2, a3, a4, a5, a6⟩
        · rw [a2, moBkO, a1, a3, Bool.false_and, Bool.or_false]
          have : stT (fun q => if q = 5 then 0 else σ.T i q) = th_st (ρ0.I 2 i) (ρ0.I 3 i) 0 := by
            show th_st (σ.T i 6) (σ.T i 7) 0 = _; rw [ht.2.1.1, ht.2.1.2.1]
          rw [this]
          congr 1
          refine bo_eq ?_
          rw [st_inj ht.2.2.2.1 ht.2.2.2.1 (Or.inl rfl) (h0.b1 i)]
          exact ⟨fun q => q.2.2.symm, fun q => ⟨rfl, rfl, q.symm⟩⟩
        · obtain ⟨v5, v6, v7, -, -⟩ := rs_row ht a4 a6 a5
          rw [a2, moBkO, a1, a3, Bool.true_and]
          have : stT (rsT (σ.T i) (σ.W v i)) = th_st (ρ0.I 21 (150 * v + i)) (ρ0.I 22 (150 * v + i)) (ρ0.I 20 (150 * v + i)) := by rw [stT, v5, v6, v7]
          rw [this, Bool.eq_iff_iff]
          simp only [Bool.or_eq_true, Bool.not_eq_true', decide_eq_false_iff_not]
          rw [st_inj a6 ht.2.2.2.1 a5 (h0.b1 i)]
          constructor
          · intro q
            by_cases e1 : ρ0.I 1 i = ρ0.I 20 (150 * v + i)
            · right
              by_cases e2 : ρ0.I 2 i = ρ0.I 21 (150 * v + i)
              · right; intro e3; exact q ⟨e2.symm, e3.symm, e1.symm⟩
              · left; exact e2
            · left; exact e1
          · rintro q ⟨e1, e2, e3⟩
            rcases q with q | q | q
            · exact q e3.symm
            · exact q e1.symm
            · exact q e2.symm
    rw [es, eρ, ev, ea, er, cnt]
    refine ⟨?_, by show ρ1.s 0 = 0; rw [q1]; exact s0, fun _ => rfl⟩
    show JR (σ.wT (bkT σ v)) ρ1
    have ek := q2
    have hk : ∀ w i, knw ρ1 w i = knw ρ0 w i := fun w i => by rw [knw, knw, ek 19 (by omega) (by omega) (by omega)]
    have hvC : ∀ w, vC ρ1 w = vC ρ0 w := fun w => by funext i; rw [vC, vC, hk, ek 20 (by omega) (by omega) (by omega)]
    have hpo : ∀ th x y, pOK ρ0.I th x y → pOK ρ1.I th x y := fun th x y q => by unfold pOK at *; rw [ek 8 (by omega) (by omega) (by omega), ek 4 (by omega) (by omega) (by omega), ek 5 (by omega) (by omega) (by omega)]; exact q
    have htc : ∀ j i, tcd ρ1.I j i ↔ tcd ρ0.I j i := fun j i => by rw [tcd, tcd, ek 15 (by omega) (by omega) (by omega)]
    have e9 := ek 9 (by omega) (by omega) (by omega)
    have w20 : ∀ i, i < 150 → ρ1.I 1 i = vC ρ0 v i := fun i hi => by
      rw [(q3 i hi).1, vC]
      cases hm : slM σ i with
      | false => rw [moBkN, kU i hi hm]; rfl
      | true =>
        rcases kk i hi hm with ⟨a1, -, a3⟩ | ⟨a1, -, a3, -⟩
        · rw [a3, a1, if_neg (by decide)]
        · rw [a3, a1, if_pos rfl]
    refine ⟨by rw [q1]; exact h0.nl, by rw [q1]; exact h0.gp, by rw [q1]; exact h0.rs, by rw [q1, e9]; exact h0.wo, by rw [ek 0 (by omega) (by omega) (by omega)]; exact h0.gv, ?_, by rw [ek 16 (by omega) (by omega) (by omega)]; exact h0.b16, ?_, ?_, ?_, ?_, ?_, ?_, ?_, ?_, ?_, ?_, ?_, ?_⟩
    · intro q
      by_cases hq : q < 150
      · rw [(q3 q hq).1, moBkN]
        cases (knw ρ0 v q && !decide (ρ0.I 20 (150 * v + q) = 0))
        · exact Or.inl rfl
        · exact Or.inr rfl
      · rw [(q4 q (by omega)).1]; exact h0.b1 q
    · intro i hi hm
      have hm' : slM σ i = true := hm
      have ht := h0.th i hi hm'
      show thR σ.nl (gN σ 2) (bkT σ v i) ρ1.I i
      rw [bkT, if_pos hm']
      obtain ⟨x1, x2, x3⟩ := q3 i hi
      rcases kk i hi hm' with ⟨a1, a2, a3⟩ | ⟨a1, a2, a3, a4, a5, a6⟩
      · rw [a1, if_neg (by decide)] at x2 x3
        rw [a2]
        exact rs_th ht (fun k _ k1 k2 k3 _ => by rw [ek k k1 k2 k3]) rfl rfl rfl (by rw [x1, a3]; rfl) (by rw [x2, x3]; exact ht.2.1) (by rw [x2, x3]; exact ht.2.2.2.1)
      · rw [a1, if_pos rfl] at x2 x3
        obtain ⟨v5, v6, v7, v8, v9⟩ := rs_row ht a4 a6 a5
        rw [a2]
        exact rs_th ht (fun k _ k1 k2 k3 _ => by rw [ek k k1 k2 k3]) rfl rfl rfl (by rw [x1, a3]; exact v5) (by rw [x2, x3]; exact ⟨v6, v7, v8, v9⟩) (by rw [x2, x3]; exact a6)
    · intro i hi hm
      have hm' : slM σ i = false := hm
      rw [w20 i hi, vC, kU i hi hm', if_neg (by decide)]
    · intro k hk6; have hk6' : k < gN σ 6 := hk6; have := h0.ac k hk6'; unfold acG at *; rw [e9, ek 14 (by omega) (by omega) (by omega), ek 10 (by omega) (by omega) (by omega), ek 11 (by omega) (by omega) (by omega), ek 12 (by omega) (by omega) (by omega), ek 13 (by omega) (by omega) (by omega)]; exact this
    · rw [e9, ek 14 (by omega) (by omega) (by omega), ek 15 (by omega) (by omega) (by omega)]; exact h0.au
    · intro k hk6 i hi
      rw [htc, ek 15 (by omega) (by omega) (by omega), ek 16 (by omega) (by omega) (by omega), ek 17 (by omega) (by omega) (by omega), ek 18 (by omega) (by omega) (by omega), ek 4 (by omega) (by omega) (by omega), ek 5 (by omega) (by omega) (by omega)]; exact h0.tz k hk6 i hi
    · intro w hw i hi
      rw [hk, ek 20 (by omega) (by omega) (by omega), ek 21 (by omega) (by omega) (by omega), ek 22 (by omega) (by omega) (by omega), ek 4 (by omega) (by omega) (by omega), ek 5 (by omega) (by omega) (by omega)]; exact h0.vr w hw i hi
    · refine hpo _ _ _ (pOK_congr (I := ρ0.I) (fun p hp q => ?_) (fun p hp q => ?_) (h0.i4 v hv))
      · rw [w20 p hp] at q
        have hkn : knw ρ0 v p = true := by
          cases z : knw ρ0 v p with
          | true => rfl
          | false => rw [vC, z, if_neg (by decide)] at q; exact absurd rfl q
        exact ⟨(w20 p hp).symm, rfl, by rw [(q3 p hp).2.1, if_pos hkn], by rw [(q3 p hp).2.2, if_pos hkn]⟩
      · have hkn : knw ρ0 v p = true := by
          cases z : knw ρ0 v p with
          | true => rfl
          | false => rw [vC, z, if_neg (by decide)] at q; exact absurd rfl q
        exact ⟨w20 p (by omega), by rw [(q3 p (by omega)).2.1, if_pos hkn], by rw [(q3 p (by omega)).2.2, if_pos hkn], rfl, rfl⟩
    · intro k hk6 ho; rw [e9] at ho; exact absurd (hcl k hk6) ho
    · intro a b ha hb hab o1 o2; rw [e9] at o1; exact absurd (hcl a ha) o1
    · intro a b ha hb hab o1 o2; rw [e9] at o1; exact absurd (hcl a ha) o1
    · intro k hk6 ho; rw [e9] at ho; exact absurd (hcl k hk6) ho
    · intro w hw; rw [hvC, ek 21 (by omega) (by omega) (by omega), ek 22 (by omega) (by omega) (by omega)]; exact hpo _ _ _ (h0.i4 w hw)
theorem t4 : (4 : Int32).toInt = 4 := rfl
theorem ly_eq (x : Int32) : mlC x = lyC x := by
  have h4 : (x < 4 ∧ x.toInt < 4) ∨ (¬ x < 4 ∧ 4 ≤ x.toInt) := by rw [tT, t4]; omega
  have e4 : (x ≤ 4 ∧ x.toInt ≤ 4) ∨ (¬ x ≤ 4 ∧ 4 < x.toInt) := by rw [tL, t4]; omega
  have h1 : (1 ≤ x ∧ 1 ≤ x.toInt) ∨ (¬ 1 ≤ x ∧ x.toInt < 1) := by rw [tL, t1]; omega
  have f1 : (1 < x ∧ 1 < x.toInt) ∨ (¬ 1 < x ∧ x.toInt ≤ 1) := by rw [tT, t1]; omega
  rw [mlC, lyC]
  rcases h4 with ⟨a, a'⟩ | ⟨a, a'⟩ <;> rcases e4 with ⟨b, b'⟩ | ⟨b, b'⟩ <;> rcases h1 with ⟨c, c'⟩ | ⟨c, c'⟩ <;> rcases f1 with ⟨d, d'⟩ | ⟨d, d'⟩ <;> simp only [a, b, c, d, if_true, if_false, if_pos, if_neg, not_false_eq_true] <;> first | rfl | (exfalso; omega) | (rw [tE]; first | (rw [t1]; omega) | (rw [if_pos (by decide), t4]; omega)) | (rw [if_pos (by decide)]) | (rw [tE, t4]; omega)
theorem gp_eq (x : Int32) : mgC x = gpC x ∧ ∃ g0, g0 < 5 ∧ gpC x = nI g0 := by
  have key : mgC x = gpC x := by
    have h4 : (x < 4 ∧ x.toInt < 4) ∨ (¬ x < 4 ∧ 4 ≤ x.toInt) := by rw [tT, t4]; omega
    have e4 : (x ≤ 4 ∧ x.toInt ≤ 4) ∨ (¬ x ≤ 4 ∧ 4 < x.toInt) := by rw [tL, t4]; omega
    have h1 : (0 ≤ x ∧ 0 ≤ x.toInt) ∨ (¬ 0 ≤ x ∧ x.toInt < 0) := by rw [tL, t0]; omega
    have f1 : (0 < x ∧ 0 < x.toInt) ∨ (¬ 0 < x ∧ x.toInt ≤ 0) := by rw [tT, t0]; omega
    rw [mgC, gpC]
    rcases h4 with ⟨a, a'⟩ | ⟨a, a'⟩ <;> rcases e4 with ⟨b, b'⟩ | ⟨b, b'⟩ <;> rcases h1 with ⟨c, c'⟩ | ⟨c, c'⟩ <;> rcases f1 with ⟨d, d'⟩ | ⟨d, d'⟩ <;> simp only [a, b, c, d, if_true, if_false, if_pos, if_neg, not_false_eq_true] <;> first | rfl | (exfalso; omega) | (rw [tE]; first | (rw [t0]; omega) | (rw [if_pos (by decide), t4]; omega)) | (rw [if_pos (by decide)]) | (rw [tE, t4]; omega)
  refine ⟨key, ?_⟩
  rw [← key, mgC]
  by_cases a : 0 ≤ x
  · rw [if_pos a]
    by_cases b : x ≤ 4
    · rw [if_pos b]
      obtain ⟨e, hb⟩ := nI_back a
      refine ⟨x.toNatClampNeg, ?_, e.symm⟩
      rw [← e, show (4 : Int32) = nI 4 from rfl, nI_leI hb (by omega)] at b; omega
    · rw [if_neg b]; exact ⟨4, by omega, rfl⟩
  · rw [if_neg a]; exact ⟨0, by omega, rfl⟩
theorem J_start : ok_start JR := by
  intro la gp n hn h1 h4
  have g0 : ∀ K, gN (hs0 n (gpC gp)) K = 0 := fun K => rfl
  have hm : ∀ i, slM (hs0 n (gpC gp)) i = false := fun i => by rw [slM, g0]; exact decide_eq_false (by omega)
  refine ⟨?_, ⟨(gp_eq gp).1, (gp_eq gp).2⟩, rfl, Or.inl ⟨rfl, rfl⟩, fun K _ _ => rfl, fun q => Or.inl rfl, fun q => Or.inl rfl, fun i hi q => ?_, fun i hi q => rfl, fun j hj => ?_, fun j hj _ => ⟨rfl, rfl, fun i hi => rfl⟩, fun j hj => ?_, fun v hv => ?_, fun p q h1 h2 h3 h4 h5 => absurd rfl h5, fun j hj => ?_, fun j k hj => ?_, fun j k hj => ?_, fun j hj => ?_, fun v hv => ?_⟩
  · show mlC la = nI n; rw [ly_eq]; exact hn
  · rw [hm i] at q; cases q
  all_goals (rw [g0] at *; omega)
theorem J_pre : ok_pre JR := by
  intro σ ρ hI h
  refine ⟨⟨moG_of hI h, moWo_of hI h, h.b16, h.b1⟩, ?_, ?_, h.nl, ?_, ?_, ?_, ?_, ?_⟩
  · intro net p hp hp2 hq
    simp only [ptP, Bool.and_eq_true, decide_eq_true_eq, Bool.not_eq_true', decide_eq_false_iff_not] at hq
    obtain ⟨⟨q5, q0⟩, -⟩ := hq
    have hm : slM σ p = true := by
      cases z : slM σ p with
      | true => rfl
      | false => exact absurd (hI.2.2.2.2.1 p (by omega) z) q5
    have h80 : p < 80 := by
      rw [(hI.2.1 p (by omega) hm).1] at q0
      rcases slK_r p (by omega) with z | z | z | z
      · omega
      · omega
      · rw [z.2.2.1] at q0; exact absurd q0 (by decide)
      · omega
    obtain ⟨-, ⟨r6, r7, r8, r9⟩, -, ⟨o1, o2, o3, o4, o5, o6⟩, -, -, pt, -⟩ := h.th p (by omega) hm
    obtain ⟨w1, w2, -⟩ := pt hp h80
    obtain ⟨x1, x2⟩ := nat_of o1
    obtain ⟨y1, y2⟩ := nat_of o4
    rw [w1, Int32.add_sub_cancel] at r8
    rw [w2, Int32.add_sub_cancel] at r9
    rw [px, py, r8, r9, r6, r7]
    exact ⟨by omega, by omega, x1, y1, x1, y1⟩
  · intro i hi hi2 h5
    have hm : slM σ i = true := by
      cases z : slM σ i with
      | true => rfl
      | false => exact absurd (hI.2.2.2.2.1 i (by omega) z) h5
    have ht := h.th i (by omega) hm
    rw [ht.2.2.1]; exact ht.2.2.2.2.2.2.2 (by omega)
  · obtain ⟨e, g0, h5, e2⟩ := h.gp; exact ⟨g0, h5, by rw [e]; exact e2⟩
  · intro t ht ht2 hc
    have hm : slM σ t = true := by
      cases z : slM σ t with
      | true => rfl
      | false => rw [cop_un h ht2 z] at hc; cases hc
    obtain ⟨-, -, -, ⟨o1, o2, o3, o4, o5, o6⟩, -⟩ := h.th t (by omega) hm
    obtain ⟨y1, y2⟩ := nat_of o4
    obtain ⟨z1, z2⟩ := nat_of (x := ρ.I 5 t) (by omega)
    exact ⟨y1, z1, by rw [yq, hq]; omega⟩
  · intro t ht ht2 hc
    have hm : slM σ t = true := by
      cases z : slM σ t with
      | true => rfl
      | false => rw [cop_un h ht2 z] at hc; cases hc
    obtain ⟨-, -, -, ⟨o1, o2, o3, o4, o5, o6⟩, -⟩ := h.th t (by omega) hm
    obtain ⟨y1, y2⟩ := nat_of o1
    obtain ⟨z1, z2⟩ := nat_of (x := ρ.I 4 t) (by omega)
    exact ⟨_, _, y1, z1, by omega⟩
  · intro ne
    have key : ∀ t, 20 ≤ t → t < 80 → moPdP ρ.I ne t = true → (ρ.I 2 t = nI (xq ρ t) ∧ xq ρ t < 32 ∧ ρ.I 4 t = 1 ∧ hq ρ t = 1) ∧ ρ.I 3 t = nI (yq ρ t) ∧ yq ρ t < 24 := fun t ht ht2 hc => by
      have hm : slM σ t = true := by
        cases z : slM σ t with
        | true => rfl
        | false => rw [moPdP, h.un t (by omega) z] at hc; simp at hc
      obtain ⟨-, -, -, ⟨o1, o2, o3, o4, o5, o6⟩, -, -, pt, -⟩ := h.th t (by omega) hm
      obtain ⟨w1, w2, -⟩ := pt ht ht2
      obtain ⟨x1, x2⟩ := nat_of o1
      obtain ⟨y1, y2⟩ := nat_of o4
      exact ⟨⟨x1, by rw [xq]; omega, w1, by rw [hq, w2]; rfl⟩, y1, by rw [yq]; omega⟩
    exact ⟨fun t a b c => (key t a b c).1, fun t a b c => (key t a b c).2⟩
  · intro t ht ht2 h1
    have hm : slM σ t = true := by
      cases z : slM σ t with
      | true => rfl
      | false => exact absurd (h.un t (by omega) z) h1
    obtain ⟨L, hL, e⟩ := (h.th t (by omega) hm).2.2.2.2.2.2.2 (by omega)
    exact ⟨L, by have := hI.2.2.2.1; omega, e⟩
