theorem J_gap : ok_gap JR := by
  intro σ ρ hI h v r a σ' ans ρ' hR hM
  obtain ⟨ea, eρ⟩ := hM
  rw [moGap] at ea eρ
  rcases hR with ⟨c1, er, es⟩ | ⟨c1, er, es, ev⟩
  · rw [if_neg (by rw [c1]; decide)] at eρ
    rw [es]; exact bad h eρ er (by decide)
  · rw [if_pos c1] at eρ ea
    rw [es, eρ, ev, ea, er]
    simp only [Bool.and_eq_true, decide_eq_true_eq] at c1
    obtain ⟨e, hb⟩ := nI_back c1.1
    have h5 : v.toNatClampNeg < 5 := by
      have q := c1.2
      rw [← e, show (4 : Int32) = nI 4 from rfl, nI_leI hb (by omega)] at q; omega
    refine ⟨?_, by show ((ρ.ws 0 0).ws 2 v).s 0 = 0; rw [ms_sn (by decide), ms_ss], fun _ => by show σ.g.toInt64 = (ρ.s 2).toInt64; rw [h.gp.1]⟩
    have j := (h.thr 0)
    exact ⟨j.nl, ⟨ms_ss, v.toNatClampNeg, h5, e.symm⟩, j.rs, j.wo, j.gv, j.b1, j.b16, j.th, j.un, j.ac, j.au, j.tz, j.vr, j.i1, j.i2, j.dj, j.td, j.i3, j.i4⟩
theorem J_told : ok_told JR := fun σ ρ hI h => ⟨h.thr 0, h.rs.symm⟩
theorem J_net : ok_net JR := by
  intro σ ρ hI h
  have hf := full_eq hI h (K := 1) (by omega) (by omega)
  rw [ntP, moNet]
  by_cases hq : limV 1 ≤ σ.G 1
  · rw [if_pos hq, if_pos (hf.mpr hq)]; exact ⟨(h.thr 0).tell 1, rfl⟩
  · rw [if_neg hq, if_neg (fun z => hq (hf.mp z))]
    have e1 := h.gv 1 (by omega) (by omega)
    obtain ⟨gK, gn, hl, hG'⟩ := gN_up (σ' := (σ.wrs 0).wG (upd σ.G 1 (σ.G 1 + 1))) hI.1 (by omega) (by omega) hq rfl
    have j := (h.thr 0).tell 0
    have hs : ∀ i, i < 150 → slM ((σ.wrs 0).wG (upd σ.G 1 (σ.G 1 + 1))) i = slM σ i := fun i hi => by
      rw [slM, slM, gn _ (by rcases slK_r i hi with z | z | z | z <;> omega)]
    have g2' := gn 2 (by omega)
    have g6' := gn 6 (by omega)
    have g7' := gn 7 (by omega)
    refine ⟨?_, ?_⟩
    · generalize hσ : (σ.wrs 0).wG (upd σ.G 1 (σ.G 1 + 1)) = σ1 at *
      have ek : ∀ k, k ≠ 0 → (((ρ.ws 0 0).ws 3 0).wI 0 (upd (ρ.I 0) 1 (ρ.I 0 1 + 1))).I k = ρ.I k := fun k hk => by rw [ms_In hk]; rfl
      have e0 : (((ρ.ws 0 0).ws 3 0).wI 0 (upd (ρ.I 0) 1 (ρ.I 0 1 + 1))).I 0 = upd (ρ.I 0) 1 (ρ.I 0 1 + 1) := rfl
      have es : (((ρ.ws 0 0).ws 3 0).wI 0 (upd (ρ.I 0) 1 (ρ.I 0 1 + 1))).s = ((ρ.ws 0 0).ws 3 0).s := rfl
      generalize ((ρ.ws 0 0).ws 3 0).wI 0 (upd (ρ.I 0) 1 (ρ.I 0 1 + 1)) = ρ1 at *
      have jI : ((ρ.ws 0 0).ws 3 0).I = ρ.I := rfl
      have hk : ∀ v i, knw ρ1 v i = knw ((ρ.ws 0 0).ws 3 0) v i := fun v i => by rw [knw, knw, ek 19 (by omega), jI]
      have hv : ∀ v, vC ρ1 v = vC ((ρ.ws 0 0).ws 3 0) v := fun v => by funext i; rw [vC, vC, hk, ek 20 (by omega), jI]
      generalize (ρ.ws 0 0).ws 3 0 = ρ0 at *
      have ek' : ∀ k, k ≠ 0 → ρ1.I k = ρ0.I k := fun k q => by rw [ek k q, jI]
      have n1 : σ1.nl = σ.nl := by rw [← hσ]; rfl
      have n2 : σ1.g = σ.g := by rw [← hσ]; rfl
      have n3 : σ1.rs = 0 := by rw [← hσ]; rfl
      have n4 : σ1.wo = σ.wo := by rw [← hσ]; rfl
      have n5 : σ1.T = σ.T := by rw [← hσ]; rfl
      have n6 : σ1.A = σ.A := by rw [← hσ]; rfl
      have n7 : σ1.Z = σ.Z := by rw [← hσ]; rfl
      have n8 : σ1.W = σ.W := by rw [← hσ]; rfl
      have n9 : σ1.G = upd σ.G 1 (σ.G 1 + 1) := by rw [← hσ]; rfl
      have hpo : ∀ th x y, pOK ρ0.I th x y → pOK ρ1.I th x y := fun th x y q => by unfold pOK at *; rw [ek' 8 (by omega), ek' 4 (by omega), ek' 5 (by omega)]; exact q
      have huc : ∀ j a b, a ≠ 0 → b ≠ 0 → uC ρ1.I j a b = uC ρ0.I j a b := fun j a b ha hb => by funext i; rw [uC, uC, ek' 15 (by omega), ek' a ha, ek' b hb]
      have htc : ∀ j i, tcd ρ1.I j i ↔ tcd ρ0.I j i := fun j i => by rw [tcd, tcd, ek' 15 (by omega)]
      have j0 : JR (σ.wrs 0) ρ0 := j
      refine ⟨by rw [es, n1]; exact j0.nl, by rw [es, n2]; exact j0.gp, by rw [es, n3]; exact j0.rs, by rw [n4, es, g6', ek' 9 (by omega)]; exact j0.wo, ?_, by rw [ek' 1 (by omega)]; exact j0.b1, by rw [ek' 16 (by omega)]; exact j0.b16, ?_, ?_, ?_, ?_, ?_, ?_, ?_, ?_, ?_, ?_, ?_, ?_⟩
      · intro K h1 h7
        rw [e0, n9]
        by_cases q : K = 1
        · rw [q, up_s, up_s, e1]
        · rw [up_n q, up_n q]; exact h.gv K h1 h7
      · intro i hi q
        rw [hs i hi] at q
        rw [n1, g2', n5]
        exact thR_congr (fun k hk0 => by rw [ek' k hk0]) (j0.th i hi q)
      · intro i hi q; rw [hs i hi] at q; rw [ek' 1 (by omega)]; exact j0.un i hi q
      · intro j hj; rw [g6'] at hj; have := j0.ac j hj; unfold acG at *; rw [n6, ek' 9 (by omega), ek' 14 (by omega), ek' 10 (by omega), ek' 11 (by omega), ek' 12 (by omega), ek' 13 (by omega)]; exact this
      · rw [g6', ek' 9 (by omega), ek' 14 (by omega), ek' 15 (by omega)]; exact j0.au
      · intro j hj i hi
        rw [g6'] at hj
        rw [htc, hs i hi, n7, ek' 15 (by omega), ek' 16 (by omega), ek' 17 (by omega), ek' 18 (by omega), ek' 4 (by omega), ek' 5 (by omega)]; exact j0.tz j hj i hi
      · intro v hv' i hi
        rw [g7'] at hv'
        rw [hk, hs i hi, n8, ek' 20 (by omega), ek' 21 (by omega), ek' 22 (by omega), ek' 4 (by omega), ek' 5 (by omega)]; exact j0.vr v hv' i hi
      · rw [ek' 1 (by omega), ek' 2 (by omega), ek' 3 (by omega)]; exact hpo _ _ _ j0.i1
      · intro j hj; rw [g6'] at hj; rw [ek' 9 (by omega), ek' 1 (by omega), ek' 2 (by omega), ek' 3 (by omega), ek' 4 (by omega), ek' 5 (by omega), ek' 10 (by omega), ek' 11 (by omega), ek' 12 (by omega), ek' 13 (by omega), ek' 16 (by omega), ek' 17 (by omega), ek' 18 (by omega)]
        intro ho i hi hq; exact j0.i2 j hj ho i hi ((htc j i).mp hq)
      · intro j k hj hk' hjk; rw [g6'] at hj hk'; rw [ek' 9 (by omega)]; intro o1 o2; have := j0.dj j k hj hk' hjk o1 o2; unfold apR at *; rw [ek' 10 (by omega), ek' 11 (by omega), ek' 12 (by omega), ek' 13 (by omega)]; exact this
      · intro j k hj hk' hjk; rw [g6'] at hj hk'; rw [ek' 9 (by omega)]; intro o1 o2 i hi hq; rw [ek' 15 (by omega)]; exact j0.td j k hj hk' hjk o1 o2 i hi ((htc j i).mp hq)
      · intro j hj; rw [g6'] at hj; rw [ek' 9 (by omega), huc j 1 16 (by omega) (by omega), huc j 2 17 (by omega) (by omega), huc j 3 18 (by omega) (by omega)]; intro ho; exact hpo _ _ _ (j0.i3 j hj ho)
      · intro v hv'; rw [g7'] at hv'; rw [hv, ek' 21 (by omega), ek' 22 (by omega)]; exact hpo _ _ _ (j0.i4 v hv')
    · show 1000 + σ.G 1 = 999 + (ρ.I 0 1 + 1)
      rw [e1, (gN_of hI.1 (K := 1) (by omega) (by omega)).1, show (1000 : Int32) = nI 1000 from rfl, show (999 : Int32) = nI 999 from rfl, nI_1, nI_add, nI_add]; congr 1; omega
theorem bg_box {x y u v : Int32} : ar_holds 0 0 31 23 x y u v = (moCell x y && moCell u v && decide (x ≤ u) && decide (y ≤ v)) := by
  rw [Bool.eq_iff_iff]
  simp only [ar_holds, moCell, Bool.and_eq_true, Bool.not_eq_true', decide_eq_true_eq, decide_eq_false_iff_not, tL, t0, t31, t23, t32, t24]
  omega
theorem J_begin : ok_begin JR := by
  intro σ ρ hI h x y u v Z' hZ
  have hf := full_eq hI h (K := 6) (by omega) (by omega)
  rw [bgP, moBegin, whyBg]
  by_cases hq : limV 6 ≤ σ.G 6
  · rw [if_pos hq, if_neg (show ¬ ((1 : Int32) = 0) by decide), if_pos (hf.mpr hq)]; exact ⟨(h.thr 0).tell 1, rfl⟩
  · rw [if_neg hq, if_neg (fun z => hq (hf.mp z)), ← bg_box]
    cases hb : ar_holds 0 0 31 23 x y u v with
    | false =>
      rw [if_pos rfl, if_neg (show ¬ ((2 : Int32) = 0) by decide), if_pos rfl]; exact ⟨(h.thr 0).tell 2, rfl⟩
    | true =>
      rw [if_neg (show ¬ (true = false) by decide), if_neg (show ¬ (true = false) by decide)]
      simp only [ar_holds, Bool.and_eq_true, decide_eq_true_eq, tL, t0, t31, t23] at hb
      have ew : (u - x + 1).toInt = u.toInt - x.toInt + 1 := by
        have e1 : (u - x).toInt = u.toInt - x.toInt := tS (by omega) (by omega)
        rw [tA (by rw [e1, t1]; omega) (by rw [e1, t1]; omega), e1, t1]
      have eh : (v - y + 1).toInt = v.toInt - y.toInt + 1 := by
        have e1 : (v - y).toInt = v.toInt - y.toInt := tS (by omega) (by omega)
        rw [tA (by rw [e1, t1]; omega) (by rw [e1, t1]; omega), e1, t1]
      have hob : oB x y (u - x + 1) (v - y + 1) := by unfold oB; rw [ew, eh]; omega
      have g6' := mN_g h (K := 6) (by omega) (by omega)
      have hm : anyF (brA σ.A none x y u v) 0 10 = anyF (moBgP ρ.I x y u v) 0 (mN ρ 6) := by
        rw [g6']
        refine any_ac (g6 hI) (fun j hj => ?_) (fun j hj hj2 => ?_)
        · rw [brA, moBgP, (h.ac j hj).1.1, mt_eq h hj hob (by rw [ew]; omega) (by rw [eh]; omega)]; simp
        · rw [brA, hI.2.2.2.2.2 j hj2 (by omega), decide_eq_true rfl]; rfl
      rw [hm]
      cases hc : anyF (moBgP ρ.I x y u v) 0 (mN ρ 6) with
      | true =>
        rw [if_pos rfl, if_neg (show ¬ ((3 : Int32) = 0) by decide), if_pos rfl]; exact ⟨(h.thr 0).tell 3, rfl⟩
      | false =>
        rw [if_neg (show ¬ (false = true) by decide), if_pos rfl, if_neg (show ¬ (false = true) by decide)]
        obtain ⟨gK, gn, hl, hG'⟩ := gN_up (σ' := bgS σ Z' x y u v) hI.1 (by omega) (by omega) hq rfl
        rw [show liN 6 = 10 from rfl] at hl
        have ha : ∀ k, k < gN σ 6 → ¬ ρ.I 9 k = 0 → (ρ.I 12 k).toInt < x.toInt ∨ u.toInt < (ρ.I 10 k).toInt ∨ (ρ.I 13 k).toInt < y.toInt ∨ v.toInt < (ρ.I 11 k).toInt := fun k hk ho => by
          have hk2 : moBgP ρ.I x y u v k = false := by
            cases z : moBgP ρ.I x y u v k with
            | false => rfl
            | true =>
              have := (anyF_iff (P := moBgP ρ.I x y u v) (mN ρ 6) 0).mpr ⟨k, by omega, by omega, z⟩
              rw [hc] at this; cases this
          rw [moBgP, decide_eq_false ho, ← mt_eq h hk hob (u := u) (v := v) (by rw [ew]; omega) (by rw [eh]; omega)] at hk2
          obtain ⟨⟨-, -, e2, e3, e4, e5⟩, -⟩ := h.ac k hk
          have : ¬ (ar_meets (σ.A k 2) (σ.A k 3) (σ.A k 4) (σ.A k 5) x y u v = true) := by
            have z : ar_meets (σ.A k 2) (σ.A k 3) (σ.A k 4) (σ.A k 5) x y u v = false := by simpa using hk2
            rw [z]; decide
          simp only [ar_meets, Bool.and_eq_true, decide_eq_true_eq, tL, e2, e3, e4, e5] at this
          omega
        have hn := (gN_of hI.1 (K := 6) (by omega) (by omega)).1
        have hnN := (gN_of hG' (K := 6) (by omega) (by omega)).1
        have eA : (bgS σ Z' x y u v).A = updT σ.A (gN σ 6) (acR x y u v) := rfl
        have eZ : (bgS σ Z' x y u v).Z = updT σ.Z (gN σ 6) Z' := rfl
        have eG : (bgS σ Z' x y u v).G = upd σ.G 6 (σ.G 6 + 1) := rfl
        have hs : ∀ i, i < 150 → slM (bgS σ Z' x y u v) i = slM σ i := fun i hi => by
          rw [slM, slM, gn _ (by rcases slK_r i hi with z | z | z | z <;> omega)]
        have g2' := gn 2 (by omega)
        have g7' := gn 7 (by omega)
        have f1 : (bgS σ Z' x y u v).nl = σ.nl := rfl
        have f2 : (bgS σ Z' x y u v).g = σ.g := rfl
        have f3 : (bgS σ Z' x y u v).rs = 0 := rfl
        have f4 : (bgS σ Z' x y u v).wo = σ.wo := rfl
        have f5 : (bgS σ Z' x y u v).T = σ.T := rfl
        have f6 : (bgS σ Z' x y u v).W = σ.W := rfl
        rw [g6']
        have d0 : (moBgS ρ (gN σ 6) x y u v).I 0 = upd (ρ.I 0) 6 (ρ.I 0 6 + 1) := rfl
        have d9 : (moBgS ρ (gN σ 6) x y u v).I 9 = upd (ρ.I 9) (gN σ 6) 1 := rfl
        have d10 : (moBgS ρ (gN σ 6) x y u v).I 10 = upd (ρ.I 10) (gN σ 6) x := rfl
        have d11 : (moBgS ρ (gN σ 6) x y u v).I 11 = upd (ρ.I 11) (gN σ 6) y := rfl
        have d12 : (moBgS ρ (gN σ 6) x y u v).I 12 = upd (ρ.I 12) (gN σ 6) u := rfl
        have d13 : (moBgS ρ (gN σ 6) x y u v).I 13 = upd (ρ.I 13) (gN σ 6) v := rfl
        have dk : ∀ k, k ≠ 0 → (k < 9 ∨ 13 < k) → (moBgS ρ (gN σ 6) x y u v).I k = ρ.I k := fun k hk hk2 => by
          rw [moBgS, ms_In (by omega), ms_In (by omega), ms_In (by omega), ms_In (by omega), ms_In (by omega), ms_In hk]; rfl
        have ds : (moBgS ρ (gN σ 6) x y u v).s = ((ρ.ws 0 0).ws 3 0).s := rfl
        refine ⟨?_, by show 1000 * nI 6 + σ.G 6 = 6000 + nI (gN σ 6); rw [hn]; rfl⟩
        show JR (bgS σ Z' x y u v) (moBgS ρ (gN σ 6) x y u v)
        generalize bgS σ Z' x y u v = σ1 at *
        generalize moBgS ρ (gN σ 6) x y u v = ρ1 at *
        have j := (h.thr 0).tell 0
        have hne : ∀ {k}, k < gN σ 6 → k ≠ gN σ 6 := fun {k} q => by omega
        have hk : ∀ v i, knw ρ1 v i = knw ρ v i := fun v i => by rw [knw, knw, dk 19 (by omega) (by omega)]
        have hv : ∀ v, vC ρ1 v = vC ρ v := fun v => by funext i; rw [vC, vC, hk, dk 20 (by omega) (by omega)]
        have hpo : ∀ th x y, pOK ρ.I th x y → pOK ρ1.I th x y := fun th x y q => by unfold pOK at *; rw [dk 8 (by omega) (by omega), dk 4 (by omega) (by omega), dk 5 (by omega) (by omega)]; exact q
        have huc : ∀ j a b, a ≠ 0 → b ≠ 0 → (a < 9 ∨ 13 < a) → (b < 9 ∨ 13 < b) → uC ρ1.I j a b = uC ρ.I j a b := fun j a b ha hb q1 q2 => by funext i; rw [uC, uC, dk 15 (by omega) (by omega), dk a ha q1, dk b hb q2]
        have htc : ∀ j i, tcd ρ1.I j i ↔ tcd ρ.I j i := fun j i => by rw [tcd, tcd, dk 15 (by omega) (by omega)]
        have hnt : ∀ i, i < 150 → ρ.I 15 (150 * gN σ 6 + i) = 0 := fun i hi => (h.au (gN σ 6) (by omega) (Nat.le_refl _)).2.2 i hi
        have hcase : ∀ {k}, k < gN σ1 6 → k < gN σ 6 ∨ k = gN σ 6 := fun {k} q => by omega
        refine ⟨by rw [ds, f1]; exact j.nl, by rw [ds, f2]; exact j.gp, by rw [ds, f3]; exact j.rs, ?_, ?_, by rw [dk 1 (by omega) (by omega)]; exact h.b1, by rw [dk 16 (by omega) (by omega)]; exact h.b16, ?_, ?_, ?_, ?_, ?_, ?_, ?_, ?_, ?_, ?_, ?_, ?_⟩
        · rw [f4, ds]
          rcases j.wo with q | ⟨w, w1, w2, w3, w4⟩
          · exact Or.inl q
          · exact Or.inr ⟨w, by have : w < gN σ 6 := w1; omega, w2, w3, by rw [d9, up_n (hne w1)]; exact w4⟩
        · intro K h1 h7
          rw [d0, eG]
          by_cases q : K = 6
          · rw [q, up_s, up_s, h.gv 6 (by omega) (by omega)]
          · rw [up_n q, up_n q]; exact h.gv K h1 h7
        · intro i hi q
          rw [hs i hi] at q
          rw [f1, g2', f5]
          have := h.th i hi q
          unfold thR at *
          rw [dk 1 (by omega) (by omega), dk 2 (by omega) (by omega), dk 3 (by omega) (by omega), dk 4 (by omega) (by omega), dk 5 (by omega) (by omega), dk 6 (by omega) (by omega), dk 7 (by omega) (by omega), dk 8 (by omega) (by omega)]; exact this
        · intro i hi q; rw [hs i hi] at q; rw [dk 1 (by omega) (by omega)]; exact h.un i hi q
        · intro k hk6
          rw [eA]
          unfold acG
          rw [d9, d10, d11, d12, d13, dk 14 (by omega) (by omega)]
          rcases hcase hk6 with q | q
          · rw [uT_n (hne q), up_n (hne q), up_n (hne q), up_n (hne q), up_n (hne q), up_n (hne q)]; exact h.ac k q
          · rw [q, uT_s, up_s, up_s, up_s, up_s, up_s]
            refine ⟨⟨rfl, (h.au (gN σ 6) (by omega) (Nat.le_refl _)).2.1.symm, rfl, rfl, rfl, rfl⟩, by omega⟩
        · intro k hk10 hk6
          have := h.au k hk10 (by omega)
          rw [d9, up_n (by omega), dk 14 (by omega) (by omega), dk 15 (by omega) (by omega)]; exact this
        · intro k hk6 i hi
          rw [htc, hs i hi, eZ, dk 15 (by omega) (by omega), dk 16 (by omega) (by omega), dk 17 (by omega) (by omega), dk 18 (by omega) (by omega), dk 4 (by omega) (by omega), dk 5 (by omega) (by omega)]
          rcases hcase hk6 with q | q
          · rw [uT_n (hne q)]; exact h.tz k q i hi
          · rw [q, uT_s]; exact Or.inl ⟨hnt i hi, hZ i hi⟩
        · intro w hw i hi
          rw [g7'] at hw
          rw [hk, hs i hi, f6, dk 20 (by omega) (by omega), dk 21 (by omega) (by omega), dk 22 (by omega) (by omega), dk 4 (by omega) (by omega), dk 5 (by omega) (by omega)]; exact h.vr w hw i hi
        · rw [dk 1 (by omega) (by omega), dk 2 (by omega) (by omega), dk 3 (by omega) (by omega)]; exact hpo _ _ _ h.i1
        · intro k hk6 ho i hi hq
          rw [htc] at hq
          rcases hcase hk6 with q | q
          · rw [d9, up_n (hne q)] at ho
            rw [d10, d11, d12, d13, up_n (hne q), up_n (hne q), up_n (hne q), up_n (hne q), dk 1 (by omega) (by omega), dk 2 (by omega) (by omega), dk 3 (by omega) (by omega), dk 4 (by omega) (by omega), dk 5 (by omega) (by omega), dk 16 (by omega) (by omega), dk 17 (by omega) (by omega), dk 18 (by omega) (by omega)]
            exact h.i2 k q ho i hi hq
          · rw [q] at hq; exact absurd (hnt i hi) hq
        · intro a b ha6 hb6 hab
          rw [d9]
          unfold apR
          rw [d10, d11, d12, d13]
          intro o1 o2
          rcases hcase ha6 with q | q <;> rcases hcase hb6 with q' | q'
          · rw [up_n (hne q)] at o1; rw [up_n (hne q')] at o2
            rw [up_n (hne q), up_n (hne q), up_n (hne q), up_n (hne q), up_n (hne q'), up_n (hne q'), up_n (hne q'), up_n (hne q')]
            exact h.dj a b q q' hab o1 o2
          · rw [up_n (hne q)] at o1
            rw [q', up_n (hne q), up_n (hne q), up_n (hne q), up_n (hne q), up_s, up_s, up_s, up_s]
            have := ha a q o1; omega
          · rw [up_n (hne q')] at o2
            rw [q, up_n (hne q'), up_n (hne q'), up_n (hne q'), up_n (hne q'), up_s, up_s, up_s, up_s]
            have := ha b q' o2; omega
          · omega
        · intro a b ha6 hb6 hab
          rw [d9]
          intro o1 o2 i hi hq
          rw [htc] at hq
          rw [dk 15 (by omega) (by omega)]
          rcases hcase ha6 with q | q
          · rcases hcase hb6 with q' | q'
            · rw [up_n (hne q)] at o1; rw [up_n (hne q')] at o2
              exact h.td a b q q' hab o1 o2 i hi hq
            · rw [q']; exact hnt i hi
          · rw [q] at hq; exact absurd (hnt i hi) hq
        · intro k hk6 ho
          rw [huc k 1 16 (by omega) (by omega) (by omega) (by omega), huc k 2 17 (by omega) (by omega) (by omega) (by omega), huc k 3 18 (by omega) (by omega) (by omega) (by omega)]
          refine hpo _ _ _ ?_
          rcases hcase hk6 with q | q
          · rw [d9, up_n (hne q)] at ho; exact h.i3 k q ho
          · rw [q]
            refine pOK_congr (I := ρ.I) (fun p hp q => ?_) (fun p hp q => ?_) h.i1
            · rw [uC, if_pos (hnt p hp)] at q
              simp only [uC, if_pos (hnt p hp), and_self]
            · simp only [uC, if_pos (hnt p (by omega)), and_self]
        · intro w hw; rw [g7'] at hw; rw [hv, dk 21 (by omega) (by omega), dk 22 (by omega) (by omega)]; exact hpo _ _ _ (h.i4 w hw)
theorem bI0 {b : Bool} : (bI b = 0) ↔ b = false := by cases b <;> decide
theorem JR.work {σ : HS} {ρ : MS} (h : JR σ ρ) {z : Option Nat} {s4 : Int32} (hw : (z = none ∧ s4 = -1) ∨ ∃ j, j < gN σ 6 ∧ z = some j ∧ s4 = nI j ∧ ¬ ρ.I 9 j = 0) : JR (σ.wwo z) ((ρ.ws 0 0).ws 4 s4) := by
  have j := h.thr 0
  exact ⟨j.nl, j.gp, j.rs, hw, j.gv, j.b1, j.b16, j.th, j.un, j.ac, j.au, j.tz, j.vr, j.i1, j.i2, j.dj, j.td, j.i3, j.i4⟩
theorem acN_of {σ : HS} {ρ : MS} (hI : hsI σ) (h : JR σ ρ) {hh : Int32} (c1 : gvOk σ.G hh = true) (c2 : hh / 1000 = 6) : hdN hh < gN σ 6 ∧ hh - hh / 1000 * 1000 = nI (hdN hh) ∧ σ.A (hdN hh) 0 = ρ.I 9 (hdN hh) ∧ σ.A (hdN hh) 1 = ρ.I 14 (hdN hh) := by
  obtain ⟨-, e2, e3, -⟩ := hd_of hI c1 (K := 6) (by omega) (by omega) c2
  exact ⟨e3, e2, (h.ac _ e3).1.1, (h.ac _ e3).1.2.1⟩
theorem J_work : ok_work JR := by
  intro σ ρ hI h hh r a σ' ans ρ' hR hM
  obtain ⟨ea, eρ⟩ := hM
  have fp := flt h hh 6
  rw [moWork] at ea eρ
  rcases hR with ⟨c0, er, es, ev⟩ | ⟨c0, c1, er, es⟩ | ⟨c0, c1, c2, er, es⟩ | ⟨c0, c1, c2, c3, er, es⟩ | ⟨c0, c1, c2, c3, er, es, ev⟩
  · rw [if_pos c0] at ea eρ
    rw [es, eρ, ev, ea, er]
    refine ⟨h.work (Or.inl ⟨rfl, rfl⟩), by show ((ρ.ws 0 0).ws 4 (-1)).s 0 = 0; rw [ms_sn (by decide), ms_ss], fun _ => ?_⟩
    have : decide (none = σ.wo) = decide (-1 = ρ.s 4) := bo_eq (by
      rcases h.wo with ⟨q1, q2⟩ | ⟨k, hk, q1, q2, -⟩
      · rw [q1, q2]; exact ⟨fun _ => rfl, fun _ => rfl⟩
      · have := g6 hI
        rw [q1, q2]; exact ⟨fun q => (nomatch q), fun q => by rw [tE, tn (by omega), tm1] at q; omega⟩)
    rw [this]
  · rw [c1, if_neg (by decide)] at fp
    have fa : moAF ρ hh = 1 := by rw [moAF, fp, if_neg (by decide)]
    rw [if_neg c0, fa, if_neg (by decide)] at eρ
    rw [es]; exact bad h eρ er (by decide)
  · rw [c1, if_pos rfl, if_neg c2] at fp
    have fa : moAF ρ hh = 2 := by rw [moAF, fp, if_neg (by decide)]
    rw [if_neg c0, fa, if_neg (by decide)] at eρ
    rw [es]; exact bad h eρ er (by decide)
  all_goals
    rw [c1, if_pos rfl, if_pos c2] at fp
    obtain ⟨k1, k2, k3, k4⟩ := acN_of hI h c1 c2
  · have fa : moAF ρ hh = 3 := by rw [moAF, fp, if_pos rfl, if_pos (by rw [← k3]; exact c3)]
    rw [if_neg c0, fa, if_neg (by decide)] at eρ
    rw [es]; exact bad h eρ er (by decide)
  · have fa : moAF ρ hh = 0 := by rw [moAF, fp, if_pos rfl, if_neg (by rw [← k3]; exact c3)]
    rw [if_neg c0, fa, if_pos rfl, k2] at ea eρ
    rw [es, eρ, ev, ea, er]
    refine ⟨h.work (Or.inr ⟨hdN hh, k1, rfl, rfl, by rw [← k3]; exact c3⟩), by show ((ρ.ws 0 0).ws 4 (nI (hdN hh))).s 0 = 0; rw [ms_sn (by decide), ms_ss], fun _ => ?_⟩
    have : decide (some (hdN hh) = σ.wo) = decide (nI (hdN hh) = ρ.s 4) := by
      rw [← wo_eq hI h (by have := g6 hI; omega)]; exact bo_eq ⟨Eq.symm, Eq.symm⟩
    rw [this]
theorem thF {σ : HS} {ρ : MS} (hI : hsI σ) (h : JR σ ρ) (hh : Int32) : moTF (ρ.I 0) hh = if gvOk σ.G hh = true then (if 2 ≤ hdK hh ∧ hdK hh ≤ 5 then 0 else 2) else 1 := by
  rw [moTF, gv_g h]
  by_cases c : gvOk σ.G hh = true
  · rw [if_pos c, if_pos c]
    obtain ⟨e1, -, k1, k7, -⟩ := gv_of (σ := σ) hI.1 c
    have : (decide (2 ≤ hh / 1000) && decide (hh / 1000 ≤ 5)) = decide (2 ≤ hdK hh ∧ hdK hh ≤ 5) := by
      rw [e1, Bool.eq_iff_iff]
      simp only [Bool.and_eq_true, decide_eq_true_eq, show (2 : Int32) = nI 2 from rfl, show (5 : Int32) = nI 5 from rfl]
      rw [nI_leI (by omega) (by omega), nI_leI (by omega) (by omega)]
    rw [this]
    by_cases q : 2 ≤ hdK hh ∧ hdK hh ≤ 5
    · rw [if_pos q, if_pos (decide_eq_true q)]
    · rw [if_neg q, if_neg (by rw [decide_eq_false q]; decide)]
  · rw [if_neg c, if_neg c]
theorem thI {σ : HS} (hI : hsI σ) {hh : Int32} (c1 : gvOk σ.G hh = true) (c2 : 2 ≤ hdK hh ∧ hdK hh ≤ 5) : hdI hh < 150 ∧ slM σ (hdI hh) = true := by
  obtain ⟨e1, e2, k1, k7, hlt⟩ := gv_of (σ := σ) hI.1 c1
  have hli : hdN hh < liN (hdK hh) := Nat.lt_of_lt_of_le hlt (gN_of hI.1 (K := hdK hh) (by omega) (by omega)).2
  obtain ⟨s1, s2, hd⟩ := sl_of c2.1 c2.2 hli
  exact ⟨hd, by rw [hdI, slM, s1, s2]; exact decide_eq_true hlt⟩
theorem J_at : ok_at JR := by
  intro σ ρ hI h hh wh r a σ' ans ρ' hR hM
  obtain ⟨ea, eρ⟩ := hM
  have tf := thF hI h hh
  rw [moAt] at ea eρ
  rcases hR with ⟨c1, er, es⟩ | ⟨c1, c2, er, es⟩ | ⟨c1, c2, c3, er, es⟩ | ⟨c1, c2, c3, er, es, ev⟩
  · rw [c1, if_neg (by decide)] at tf
    rw [tf, if_neg (show ¬ ((1 : Int32) = 0) by decide)] at eρ
    rw [es]
    refine bad (v := 1) h ?_ er (by decide)
    rw [eρ]; split <;> rfl
  · rw [if_pos c2] at eρ
    rw [es]; exact bad h eρ er (by decide)
  · rw [c1, if_pos rfl, if_neg c3] at tf
    rw [if_neg (by rw [c2]; decide), tf, if_neg (show ¬ ((2 : Int32) = 0) by decide)] at eρ
    rw [es]; exact bad h eρ er (by decide)
  · rw [c1, if_pos rfl, if_pos c3] at tf
    rw [if_neg (by rw [c2]; decide), tf, if_pos rfl] at eρ ea
    obtain ⟨hd, hm⟩ := thI hI c1 c3
    obtain ⟨e5, ⟨e6, e7, -⟩, e2, -, an, ap, -⟩ := h.th _ hd hm
    rw [es, eρ, ev, ea, er]
    refine ⟨h.thr 0, ms_ss, fun _ => congrArg Int32.toInt64 ?_⟩
    show atV σ.T (hdI hh) wh = moAtV ρ (hdI hh) wh
    have hg := g2 hI
    have a3 : σ.T (hdI hh) 3 = (if ρ.I 7 (hdI hh) = -1 then -1 else 1000 + ρ.I 7 (hdI hh)) := by
      rcases an with ⟨-, q1, q2⟩ | ⟨-, n, hn, q1, q2⟩
      · rw [q1, q2, if_pos rfl]
      · rw [q1, q2, if_neg (by rw [tE, tn (by omega), tm1]; omega), show (1000 : Int32) = nI 1000 from rfl, nI_add]
    have a4 : σ.T (hdI hh) 4 = (if ρ.I 8 (hdI hh) = -1 then -1 else 2000 + ρ.I 8 (hdI hh)) := by
      rcases ap with ⟨q1, q2⟩ | ⟨-, -, n, hn, q1, q2⟩
      · rw [q1, q2, if_pos rfl]
      · rw [q1, q2, if_neg (by rw [tE, tn (by omega), tm1]; omega), show (2000 : Int32) = nI 2000 from rfl, nI_add]
    rw [atV, moAtV, e5, e6, e7, e2, a3, a4]
theorem cntF_add {P : Nat → Bool} : ∀ (n i m : Nat), cntF P i (n + m) = cntF P i n + cntF P (i + n) m := by
  intro n
  induction n with
  | zero => intro i m; rw [Nat.zero_add, cntF, Nat.add_zero, Nat.zero_add]
  | succ n ih => intro i m; rw [show n + 1 + m = (n + m) + 1 by omega, cntF, ih, cntF, show i + 1 + n = i + (n + 1) by omega]; omega
theorem cntF_no {P : Nat → Bool} : ∀ (n i : Nat), (∀ j, i ≤ j → j < i + n → P j = false) → cntF P i n = 0 := by
  intro n
  induction n with
  | zero => intros; rfl
  | succ n ih => intro i h; rw [cntF, ih (i + 1) (fun j a b => h j (by omega) (by omega)), h i (by omega) (by omega)]; rfl
theorem J_count : ok_count JR := by
  intro σ ρ hI h kd r a σ' ans ρ' hR hM
  rcases hR with ⟨c1, er, es⟩ | ⟨c1, er, es, ev⟩
  · rcases hM with ⟨-, ea, eρ⟩ | ⟨z, -, -⟩
    · rw [es]; exact bad h eρ er (by decide)
    · rw [c1] at z; cases z
  · rcases hM with ⟨z, -, -⟩ | ⟨-, ea, eρ⟩
    · rw [c1] at z; cases z
    · rw [es, eρ, ev, ea, er]
      refine ⟨h.thr 0, ms_ss, fun _ => congrArg Int32.toInt64 (congrArg nI ?_)⟩
      simp only [Bool.and_eq_true, decide_eq_true_eq] at c1
      obtain ⟨e, hb⟩ := nI_back (q := kd) (by rw [tL] at *; rw [t0]; have := c1.1; rw [show (2 : Int32).toInt = 2 from rfl] at this; omega)
      have h2 := c1.1
      have h5 := c1.2
      rw [← e, show (2 : Int32) = nI 2 from rfl, nI_leI (by omega) hb] at h2
      rw [← e, show (5 : Int32) = nI 5 from rfl, nI_leI hb (by omega)] at h5
      generalize kd.toNatClampNeg = K at *
      subst e
      have eg := mN_g h (K := K) (by omega) (by omega)
      have hl := (gN_of hI.1 (K := K) (by omega) (by omega)).2
      rw [eg]
      have hfi : fiN K + liN K ≤ 150 := by
        rcases (show K = 2 ∨ K = 3 ∨ K = 4 ∨ K = 5 by omega) with q | q | q | q <;> rw [q] <;> decide
      -- what is of kind K
      have hP : ∀ j, j < 150 → kdC σ.T (nI K) j = true → fiN K ≤ j ∧ j < fiN K + gN σ K := fun j hj q => by
        rw [kdC, Bool.and_eq_true, decide_eq_true_eq] at q
        have h5' : ¬ σ.T j 5 = 0 := by simpa using q.1
        have hm : slM σ j = true := by
          cases z : slM σ j with
          | true => rfl
          | false => exact absurd (hI.2.2.2.2.1 j hj z) h5'
        have k0 := q.2
        rw [(hI.2.1 j hj hm).1] at k0
        have hk : slK j = K := by
          rw [nI_eq (by rcases slK_r j hj with z | z | z | z <;> omega) (by omega)] at k0; exact k0
        rw [slM, hk] at hm
        have := of_decide_eq_true hm
        rcases slK_r j hj with z | z | z | z
        · have : K = 2 := by omega
          subst this; simp only [fiN]; omega
        · have : K = 3 := by omega
          subst this; simp only [fiN]; omega
        · have : K = 4 := by omega
          subst this; simp only [fiN]; omega
        · have : K = 5 := by omega
          subst this; simp only [fiN]; omega
      have hQ : ∀ j, fiN K ≤ j → j < fiN K + gN σ K → kdC σ.T (nI K) j = moThP ρ.I j := fun j h1 h2' => by
        obtain ⟨s1, s2, s3⟩ := sl_of (K := K) (n := j - fiN K) h2 h5 (by omega)
        rw [show fiN K + (j - fiN K) = j by omega] at s1 s2 s3
        have hm : slM σ j = true := by rw [slM, s1, s2]; exact decide_eq_true (by omega)
        rw [kdC, moThP, (h.th j s3 hm).1, (hI.2.1 j s3 hm).1, s1, decide_eq_true rfl, Bool.and_true]
      rw [show (150 : Nat) = fiN K + (gN σ K + (150 - fiN K - gN σ K)) by omega, cntF_add, cntF_add, Nat.zero_add, cntF_no (fiN K) 0 (fun j a b => ?_), cntF_no _ (fiN K + gN σ K) (fun j a b => ?_), Nat.zero_add, Nat.add_zero]
      · exact cntF_congr _ _ (fun j a b => hQ j a b)
      · cases z : kdC σ.T (nI K) j with
        | false => rfl
        | true => have := hP j (by omega) z; omega
      · cases z : kdC σ.T (nI K) j with
        | false => rfl
        | true => have := hP j (by omega) z; omega
theorem pr_eq {σ : HS} {ρ : MS} (hI : hsI σ) (h : JR σ ρ) {i : Nat} (hi : 20 ≤ i) (hi2 : i < 140) (h5 : ¬ σ.T i 5 = 0) {j : Nat} (hj : 20 ≤ j) (hj2 : j < 140) : co_C σ.T (σ.T i 0) (σ.T i 2) (σ.T i 3) (σ.T i 6) (σ.T i 7) (σ.T i 8) (σ.T i 9) σ.g j = moPr ρ i j := by
  have hm : slM σ i = true := by
    cases z : slM σ i with
    | true => rfl
    | false => exact absurd (hI.2.2.2.2.1 i (by omega) z) h5
  rw [co_C, moPr, cop_eq h hi hi2 hm, decide_eq_false h5]
  cases hmj : slM σ j with
  | false => rw [hI.2.2.2.2.1 j (by omega) hmj, cop_un h (by omega) hmj]; simp
  | true =>
    rw [cop_eq h hj hj2 hmj, ← cl_row hi hi2 hj hj2 (crow_of hI h (by omega) hm) (crow_of hI h (by omega) hmj) h.gp.1 (gp_r h).1 (gp_r h).2 (by rw [t0]; omega) (by rw [t0]; omega)]; simp
theorem pr_no {σ : HS} {ρ : MS} (hI : hsI σ) (h : JR σ ρ) {i : Nat} (hi : 20 ≤ i) (hi2 : i < 140) (h5 : σ.T i 5 = 0) (j : Nat) : moPr ρ i j = false := by
  rw [moPr]
  cases hm : slM σ i with
  | false => rw [cop_un h hi2 hm]; rfl
  | true => rw [cop_eq h hi hi2 hm, decide_eq_true h5]; rfl
theorem cp_eq {σ : HS} {ρ : MS} (hI : hsI σ) (h : JR σ ρ) {i : Nat} (hi : 20 ≤ i) (hi2 : i < 140) : cpF σ.T σ.g i = nI (moCkR ρ i) := by
  rw [cpF, moCkR]
  by_cases h5 : σ.T i 5 = 0
  · rw [if_pos h5, cntF_no _ _ (fun j _ _ => pr_no hI h hi hi2 h5 j)]; rfl
  · rw [if_neg h5]; exact congrArg nI (cntF_congr _ _ (fun j a b => pr_eq hI h hi hi2 h5 (by omega) (by omega)))
theorem sz_sum {f : Nat → Int32} {g : Nat → Nat} : ∀ (n i : Nat), (∀ j, i ≤ j → j < i + n → f j = nI (g j)) → szF f i n = nI (sumN g i n) := by
  intro n
  induction n with
  | zero => intros; rfl
  | succ n ih => intro i hq; rw [szF, sumN, hq i (by omega) (by omega), ih (i + 1) (fun j a b => hq j (by omega) (by omega)), nI_add]
theorem J_check : ok_check JR := fun σ ρ hI h => ⟨h.thr 0, sz_sum 120 20 (fun j a b => cp_eq hI h a (by omega))⟩
theorem nth_none {P : Nat → Bool} : ∀ (n i q : Nat), (nthF P i n q = none ↔ cntF P i n ≤ q) := by
  intro n
  induction n with
  | zero => intro i q; rw [nthF, cntF]; simp
  | succ n ih =>
    intro i q
    rw [nthF, cntF]
    cases P i with
    | false => simp only [Bool.false_eq_true, if_false]; rw [ih]; omega
    | true =>
      simp only [if_true]
      by_cases h0 : q = 0
      · rw [if_pos h0]; simp; omega
      · rw [if_neg h0, ih]; omega
theorem nth_rng {P : Nat → Bool} : ∀ (n i q u : Nat), nthF P i n q = some u → i ≤ u ∧ u < i + n ∧ P u = true := by
  intro n
  induction n with
  | zero => intro i q u h; rw [nthF] at h; cases h
  | succ n ih =>
    intro i q u h
    rw [nthF] at h
    cases hp : P i with
    | false => rw [hp] at h; simp only [Bool.false_eq_true, if_false] at h; obtain ⟨a, b, c⟩ := ih _ _ _ h; exact ⟨by omega, by omega, c⟩
    | true =>
      rw [hp] at h; simp only [if_true] at h
      by_cases h0 : q = 0
      · rw [if_pos h0] at h; cases h; exact ⟨by omega, by omega, hp⟩
      · rw [if_neg h0] at h; obtain ⟨a, b, c⟩ := ih _ _ _ h; exact ⟨by omega, by omega, c⟩
theorem nthF_congr {P Q : Nat → Bool} : ∀ (n i q : Nat), (∀ j, i ≤ j → j < i + n → P j = Q j) → nthF P i n q = nthF Q i n q := by
  intro n
  induction n with
  | zero => intros; rfl
  | succ n ih => intro i q h; rw [nthF, nthF, h i (by omega) (by omega), ih (i + 1) (q - 1) (fun j a b => h j (by omega) (by omega)), ih (i + 1) q (fun j a b => h j (by omega) (by omega))]
theorem nr_eq {σ : HS} {ρ : MS} (hI : hsI σ) (h : JR σ ρ) {wh : Int32} : ∀ (n i q : Nat), 20 ≤ i → i + n ≤ 140 → q < 2 ^ 31 → nrF σ.T σ.g wh i n (nI q) = moNrF ρ wh i n q := by
  intro n
  induction n with
  | zero => intros; rfl
  | succ n ih =>
    intro i q hi hn hq
    have hck : moCkR ρ i ≤ 140 := by rw [moCkR]; exact Nat.le_trans (cntF_max _ _) (by omega)
    rw [nrF, moNrF, if_pos (nI_pos' hq), cp_eq hI h hi (by omega)]
    cases e : nthF (moPr ρ i) (i + 1) (140 - (i + 1)) q with
    | none =>
      have : moCkR ρ i ≤ q := (nth_none _ _ _).mp e
      rw [if_pos ((nI_leI (by omega) hq).mpr this), nI_sbN this]
      exact ih (i + 1) (q - moCkR ρ i) (by omega) (by omega) (by omega)
    | some u =>
      have hlt : ¬ moCkR ρ i ≤ q := fun z => by rw [(nth_none _ _ _).mpr z] at e; cases e
      rw [if_neg (fun z => hlt ((nI_leI (by omega) hq).mp z)), nI_clamp hq]
      obtain ⟨u1, u2, u3⟩ := nth_rng _ _ _ _ e
      have h5 : ¬ σ.T i 5 = 0 := fun z => by rw [pr_no hI h hi (by omega) z] at u3; cases u3
      have made : ∀ k, 20 ≤ k → k < 140 → ¬ σ.T k 5 = 0 → moHan (nI k) = 1000 * σ.T k 0 + σ.T k 1 := fun k k1 k2 k3 => by
        have hm : slM σ k = true := by
          cases z : slM σ k with
          | true => rfl
          | false => exact absurd (hI.2.2.2.2.1 k (by omega) z) k3
        rw [han_eq k (by omega), (hI.2.1 k (by omega) hm).1, (hI.2.1 k (by omega) hm).2]
      by_cases hw : wh = 0
      · rw [if_pos hw]
        show haF σ.T i = moHan (nI (if wh = 0 then i else u))
        rw [if_pos hw, haF, if_neg h5, made i hi (by omega) h5]
      · rw [if_neg hw]
        show paF σ.T σ.g i q = moHan (nI (if wh = 0 then i else u))
        rw [if_neg hw, paF, if_neg h5, nthF_congr (Q := moPr ρ i) _ _ _ (fun j a b => pr_eq hI h hi (by omega) h5 (by omega) (by omega)), e]
        rw [moPr, Bool.and_eq_true, Bool.and_eq_true] at u3
        have h5u : ¬ σ.T u 5 = 0 := fun z => by
          have z2 := u3.1.2
          cases hm : slM σ u with
          | false => rw [cop_un h (by omega) hm] at z2; cases z2
          | true => rw [cop_eq h (by omega) (by omega) hm, decide_eq_true z] at z2; cases z2
        show 1000 * σ.T u 0 + σ.T u 1 = _
        rw [made u (by omega) (by omega) h5u]
theorem J_near : ok_near JR := by
  intro σ ρ hI h q0 wh r a σ' ans ρ' hR hM
  rcases hR with ⟨c1, er, es⟩ | ⟨c1, er, es, ev⟩
  · rcases hM with ⟨-, ea, eρ⟩ | ⟨z, -⟩ | ⟨z, -⟩
    · rw [es]; exact bad h eρ er (by decide)
    · rw [c1] at z; cases z
    · rw [c1] at z; cases z
  · rcases hM with ⟨z, -, -⟩ | ⟨-, hn, ea, eρ⟩ | ⟨-, hn, ea, eρ⟩
    · rw [c1] at z; cases z
    · rw [es, eρ, ev, ea, er]
      refine ⟨h.thr 0, ms_ss, fun _ => congrArg Int32.toInt64 ?_⟩
      rw [nrF, if_neg hn]
    · rw [es, eρ, ev, ea, er]
      refine ⟨h.thr 0, ms_ss, fun _ => congrArg Int32.toInt64 ?_⟩
      obtain ⟨e, hb⟩ := nI_back hn
      have := nr_eq hI h (wh := wh) 120 20 q0.toNatClampNeg (by omega) (by omega) hb
      rw [e] at this; exact this
/-- act N is ended -/
theorem JR.shut {σ σ' : HS} {ρ ρ' : MS} {N : Nat} (hI : hsI σ) (h : JR σ ρ) (hN : N < gN σ 6) (n1 : σ'.nl = σ.nl) (n2 : σ'.g = σ.g) (n3 : σ'.rs = σ.rs) (n4 : σ'.wo = if σ.wo = some N then none else σ.wo) (n5 : σ'.G = σ.G) (n6 : σ'.A = updT σ.A N (upd (σ.A N) 0 0)) (n7 : σ'.Z = σ.Z) (n8 : σ'.W = σ.W)
    (s1 : ρ'.s 1 = ρ.s 1) (s2 : ρ'.s 2 = ρ.s 2) (s3 : ρ'.s 3 = ρ.s 3) (s4 : ρ'.s 4 = if ρ.s 4 = nI N then -1 else ρ.s 4) (e9 : ρ'.I 9 = upd (ρ.I 9) N 0) (ek : ∀ k, k ≠ 9 → k ≠ 1 → k ≠ 2 → k ≠ 3 → ρ'.I k = ρ.I k)
    (hT : ∀ i, i < 150 → slM σ i = true → thR σ.nl (gN σ 2) (σ'.T i) ρ'.I i) (hun : ∀ i, i < 150 → slM σ i = false → ρ'.I 1 i = 0) (hb1 : ∀ q, ρ'.I 1 q = 0 ∨ ρ'.I 1 q = 1)
    (hk2 : ∀ k, k < gN σ 6 → k ≠ N → ¬ ρ.I 9 k = 0 → ∀ i, i < 150 → tcd ρ.I k i → ρ'.I 1 i = ρ.I 1 i ∧ ρ'.I 2 i = ρ.I 2 i ∧ ρ'.I 3 i = ρ.I 3 i) (hp : pOK ρ.I (ρ'.I 1) (ρ'.I 2) (ρ'.I 3)) (hi3 : ∀ k, k < gN σ 6 → k ≠ N → ¬ ρ.I 9 k = 0 → pOK ρ.I (uC ρ'.I k 1 16) (uC ρ'.I k 2 17) (uC ρ'.I k 3 18)) : JR σ' ρ' := by
  have hg : ∀ K, gN σ' K = gN σ K := gN_eq n5
  have hs : ∀ i, slM σ' i = slM σ i := slM_eq n5
  have k4 := ek 4 (by omega) (by omega) (by omega) (by omega)
  have k5 := ek 5 (by omega) (by omega) (by omega) (by omega)
  have k8 := ek 8 (by omega) (by omega) (by omega) (by omega)
  have k10 := ek 10 (by omega) (by omega) (by omega) (by omega)
  have k11 := ek 11 (by omega) (by omega) (by omega) (by omega)
  have k12 := ek 12 (by omega) (by omega) (by omega) (by omega)
  have k13 := ek 13 (by omega) (by omega) (by omega) (by omega)
  have k14 := ek 14 (by omega) (by omega) (by omega) (by omega)
  have k15 := ek 15 (by omega) (by omega) (by omega) (by omega)
  have k16 := ek 16 (by omega) (by omega) (by omega) (by omega)
  have k17 := ek 17 (by omega) (by omega) (by omega) (by omega)
  have k18 := ek 18 (by omega) (by omega) (by omega) (by omega)
  have k20 := ek 20 (by omega) (by omega) (by omega) (by omega)
  have k21 := ek 21 (by omega) (by omega) (by omega) (by omega)
  have k22 := ek 22 (by omega) (by omega) (by omega) (by omega)
  have hk : ∀ v i, knw ρ' v i = knw ρ v i := fun v i => by rw [knw, knw, ek 19 (by omega) (by omega) (by omega) (by omega)]
  have hv : ∀ v, vC ρ' v = vC ρ v := fun v => by funext i; rw [vC, vC, hk, k20]
  have hpo : ∀ th x y, pOK ρ.I th x y → pOK ρ'.I th x y := fun th x y q => by unfold pOK at *; rw [k8, k4, k5]; exact q
  have htc : ∀ j i, tcd ρ'.I j i ↔ tcd ρ.I j i := fun j i => by rw [tcd, tcd, k15]
  have hop : ∀ {k}, ¬ ρ'.I 9 k = 0 → k ≠ N ∧ ¬ ρ.I 9 k = 0 := fun {k} q => by
    rw [e9] at q
    by_cases e : k = N
    · rw [e, up_s] at q; exact absurd rfl q
    · rw [up_n e] at q; exact ⟨e, q⟩
  have g10 := g6 hI
  refine ⟨by rw [s1, n1]; exact h.nl, by rw [s2, n2]; exact h.gp, by rw [s3, n3]; exact h.rs, ?_, by rw [ek 0 (by omega) (by omega) (by omega) (by omega), n5]; exact h.gv, hb1, by rw [k16]; exact h.b16, ?_, ?_, ?_, ?_, ?_, ?_, hpo _ _ _ hp, ?_, ?_, ?_, ?_, ?_⟩
  · rw [n4, s4, hg]
    rcases h.wo with ⟨q1, q2⟩ | ⟨w, w1, w2, w3, w4⟩
    · rw [q1, q2, if_neg (by simp), if_neg (by rw [tE, tn (by omega), tm1]; omega)]; exact Or.inl ⟨rfl, rfl⟩
    · rw [w2, w3]
      by_cases e : w = N
      · rw [e, if_pos rfl, if_pos rfl]; exact Or.inl ⟨rfl, rfl⟩
      · rw [if_neg (fun z => e (Option.some.inj z)), if_neg (by rw [nI_eq (by omega) (by omega)]; exact e)]
        exact Or.inr ⟨w, w1, rfl, rfl, by rw [e9, up_n e]; exact w4⟩
  · intro i hi q; rw [hs] at q; rw [n1, hg]; exact hT i hi q
  · intro i hi q; rw [hs] at q; exact hun i hi q
  · intro j hj
    rw [hg] at hj
    obtain ⟨⟨a0, a1, a2, a3, a4, a5⟩, ag⟩ := h.ac j hj
    refine ⟨?_, by unfold acG at *; rw [k10, k11, k12, k13]; exact ag⟩
    rw [n6, e9, k14, k10, k11, k12, k13]
    by_cases e : j = N
    · subst e; rw [uT_s, up_s, up_s, up_n (by decide), up_n (by decide), up_n (by decide), up_n (by decide), up_n (by decide)]; exact ⟨rfl, a1, a2, a3, a4, a5⟩
    · rw [uT_n e, up_n e]; exact ⟨a0, a1, a2, a3, a4, a5⟩
  · intro j hj hj6
    rw [hg] at hj6
    rw [e9, up_n (by omega), k14, k15]; exact h.au j hj hj6
  · intro j hj i hi
    rw [hg] at hj
    rw [htc, hs, n7, k15, k16, k17, k18, k4, k5]; exact h.tz j hj i hi
  · intro v hv' i hi
    rw [hg] at hv'
    rw [hk, hs, n8, k20, k21, k22, k4, k5]; exact h.vr v hv' i hi
  · intro j hj ho i hi hq
    rw [hg] at hj
    obtain ⟨o1, o2⟩ := hop ho
    rw [htc] at hq
    obtain ⟨q1, q2, q3⟩ := hk2 j hj o1 o2 i hi hq
    rw [q1, q2, q3, k4, k5, k10, k11, k12, k13, k16, k17, k18]; exact h.i2 j hj o2 i hi hq
  · intro j k hj hk6 hjk o1 o2
    rw [hg] at hj hk6
    have := h.dj j k hj hk6 hjk (hop o1).2 (hop o2).2
    unfold apR at *; rw [k10, k11, k12, k13]; exact this
  · intro j k hj hk6 hjk o1 o2 i hi hq
    rw [hg] at hj hk6
    rw [htc] at hq
    rw [k15]; exact h.td j k hj hk6 hjk (hop o1).2 (hop o2).2 i hi hq
  · intro k hk6 ho
    rw [hg] at hk6
    exact hpo _ _ _ (hi3 k hk6 (hop ho).1 (hop ho).2)
  · intro v hv'
    rw [hg] at hv'
    rw [hv, k21, k22]; exact hpo _ _ _ (h.i4 v hv')
theorem edL_c {ρ : MS} {j : Nat} : ∀ n, (moEdL ρ j n).s = ρ.s ∧ (∀ k, k ≠ 1 → k ≠ 2 → k ≠ 3 → (moEdL ρ j n).I k = ρ.I k) ∧ (∀ i, i < n → (moEdL ρ j n).I 1 i = uC ρ.I j 1 16 i ∧ (moEdL ρ j n).I 2 i = uC ρ.I j 2 17 i ∧ (moEdL ρ j n).I 3 i = uC ρ.I j 3 18 i) ∧ ∀ i, n ≤ i → (moEdL ρ j n).I 1 i = ρ.I 1 i ∧ (moEdL ρ j n).I 2 i = ρ.I 2 i ∧ (moEdL ρ j n).I 3 i = ρ.I 3 i := by
  intro n
  induction n with
  | zero => exact ⟨rfl, fun _ _ _ _ => rfl, fun i hi => absurd hi (by omega), fun _ _ => ⟨rfl, rfl, rfl⟩⟩
  | succ n ih =>
    obtain ⟨a1, a2, a3, a4⟩ := ih
    rw [moEdL]
    generalize moEdL ρ j n = r at *
    have r15 := a2 15 (by omega) (by omega) (by omega)
    by_cases h0 : r.I 15 (150 * j + n) = 0
    · rw [if_pos h0]
      refine ⟨a1, a2, fun i hi => ?_, fun i hi => a4 i (by omega)⟩
      by_cases e : i = n
      · rw [e, (a4 n (Nat.le_refl _)).1, (a4 n (Nat.le_refl _)).2.1, (a4 n (Nat.le_refl _)).2.2]
        rw [r15] at h0
        simp only [uC, if_pos h0, and_self]
      · exact a3 i (by omega)
    · rw [if_neg h0]
      have f1 : (((r.wI 1 (upd (r.I 1) n (r.I 16 (150 * j + n)))).wI 2 (upd (r.I 2) n (r.I 17 (150 * j + n)))).wI 3 (upd (r.I 3) n (r.I 18 (150 * j + n)))).I 1 = upd (r.I 1) n (r.I 16 (150 * j + n)) := by rw [ms_In (by decide), ms_In (by decide), ms_II]
      have f2 : (((r.wI 1 (upd (r.I 1) n (r.I 16 (150 * j + n)))).wI 2 (upd (r.I 2) n (r.I 17 (150 * j + n)))).wI 3 (upd (r.I 3) n (r.I 18 (150 * j + n)))).I 2 = upd (r.I 2) n (r.I 17 (150 * j + n)) := by rw [ms_In (by decide), ms_II]
      have f3 : (((r.wI 1 (upd (r.I 1) n (r.I 16 (150 * j + n)))).wI 2 (upd (r.I 2) n (r.I 17 (150 * j + n)))).wI 3 (upd (r.I 3) n (r.I 18 (150 * j + n)))).I 3 = upd (r.I 3) n (r.I 18 (150 * j + n)) := by rw [ms_II]
      refine ⟨a1, fun k k1 k2 k3 => by rw [ms_In k3, ms_In k2, ms_In k1]; exact a2 k k1 k2 k3, fun i hi => ?_, fun i hi => ?_⟩
      · rw [f1, f2, f3]
        by_cases e : i = n
        · rw [e, up_s, up_s, up_s]
          rw [r15] at h0
          rw [a2 16 (by omega) (by omega) (by omega), a2 17 (by omega) (by omega) (by omega), a2 18 (by omega) (by omega) (by omega)]
          simp only [uC, if_neg h0, and_self]
        · rw [up_n e, up_n e, up_n e]; exact a3 i (by omega)
      · rw [f1, f2, f3, up_n (by omega), up_n (by omega), up_n (by omega)]; exact a4 i (by omega)
theorem add_sub_i (a b : Int32) : a + (b - a) = b := by rw [Int32.add_comm, Int32.sub_add_cancel]
theorem rs_row {nl n2 : Nat} {R : Nat → Int32} {I : Nat → Nat → Int32} {i : Nat} (h : thR nl n2 R I i) {x y z q : Int32} (hq : q = th_st x y z) (hb : oB x y (I 4 i) (I 5 i)) (hz : z = 0 ∨ z = 1) : rsT R q 5 = z ∧ rsT R q 6 = x ∧ rsT R q 7 = y ∧ rsT R q 8 = x + I 4 i - 1 ∧ rsT R q 9 = y + I 5 i - 1 := by
  obtain ⟨-, c2, c3, c4⟩ := st_oB hb hz
  obtain ⟨-, ⟨r6, r7, r8, r9⟩, -, ⟨o1, o2, o3, o4, o5, o6⟩, -⟩ := h
  obtain ⟨b1, b2, b3, b4, b5, b6⟩ := hb
  have t8 := bx_u o1 o2 o3 r8
  have t9 := bx_u o4 o5 (by omega) r9
  refine ⟨by show st_th q = z; rw [hq]; exact c4, by show R 6 + (st_x q - R 6) = x; rw [add_sub_i, hq]; exact c2, by show R 7 + (st_y q - R 7) = y; rw [add_sub_i, hq]; exact c3, ?_, ?_⟩
  · show R 8 + (st_x q - R 6) = _
    rw [hq, c2, r6]
    have e1 : (x - I 2 i).toInt = x.toInt - (I 2 i).toInt := tS (by omega) (by omega)
    rw [tE, bx_u b1 b2 b3 rfl, tA (by rw [t8, e1]; omega) (by rw [t8, e1]; omega), t8, e1]; omega
  · show R 9 + (st_y q - R 7) = _
    rw [hq, c3, r7]
    have e1 : (y - I 3 i).toInt = y.toInt - (I 3 i).toInt := tS (by omega) (by omega)
    rw [tE, bx_u b4 b5 (by omega) rfl, tA (by rw [t9, e1]; omega) (by rw [t9, e1]; omega), t9, e1]; omega
theorem rs_th {nl n2 : Nat} {R R' : Nat → Int32} {I I' : Nat → Nat → Int32} {i : Nat} (h : thR nl n2 R I i) (ek : ∀ k, k ≠ 0 → k ≠ 1 → k ≠ 2 → k ≠ 3 → k < 9 → I' k i = I k i) (e2 : R' 2 = R 2) (e3 : R' 3 = R 3) (e4 : R' 4 = R 4) (e5 : R' 5 = I' 1 i) (e6 : R' 6 = I' 2 i ∧ R' 7 = I' 3 i ∧ R' 8 = I' 2 i + I 4 i - 1 ∧ R' 9 = I' 3 i + I 5 i - 1) (hb : oB (I' 2 i) (I' 3 i) (I 4 i) (I 5 i)) : thR nl n2 R' I' i := by
  obtain ⟨-, -, d2, -, d4, d5, d6, d7⟩ := h
  have k4 := ek 4 (by omega) (by omega) (by omega) (by omega) (by omega)
  have k5 := ek 5 (by omega) (by omega) (by omega) (by omega) (by omega)
  have k6 := ek 6 (by omega) (by omega) (by omega) (by omega) (by omega)
  have k7 := ek 7 (by omega) (by omega) (by omega) (by omega) (by omega)
  have k8 := ek 8 (by omega) (by omega) (by omega) (by omega) (by omega)
  exact ⟨e5, by rw [k4, k5]; exact e6, by rw [e2, k6]; exact d2, by rw [k4, k5]; exact hb, by rw [e3, k7]; exact d4, by rw [e4, k8]; exact d5, by rw [k4, k5, k6]; exact d6, by rw [k6]; exact d7⟩
theorem J_end : ok_end JR := by
  intro σ ρ hI h hh kp r a σ' ans ρ' hR hM
  obtain ⟨ea, eρ⟩ := hM
  have fp := flt h hh 6
  rw [moEnd] at ea eρ
  rcases hR with ⟨c1, er, es⟩ | ⟨c1, c2, er, es⟩ | ⟨c1, c2, c3, er, es⟩ | ⟨c1, c2, c3, er, es, ev⟩
  · rw [c1, if_neg (by decide)] at fp
    have fa : moAF ρ hh = 1 := by rw [moAF, fp, if_neg (by decide)]
    rw [fa, if_neg (by decide)] at eρ
    rw [es]; exact bad h eρ er (by decide)
  · rw [c1, if_pos rfl, if_neg c2] at fp
    have fa : moAF ρ hh = 2 := by rw [moAF, fp, if_neg (by decide)]
    rw [fa, if_neg (by decide)] at eρ
    rw [es]; exact bad h eρ er (by decide)
  all_goals
    rw [c1, if_pos rfl, if_pos c2] at fp
    obtain ⟨k1, k2, k3, k4⟩ := acN_of hI h c1 c2
  · have fa : moAF ρ hh = 3 := by rw [moAF, fp, if_pos rfl, if_pos (by rw [← k3]; exact c3)]
    rw [fa, if_neg (by decide)] at eρ
    rw [es]; exact bad h eρ er (by decide)
  · have fa : moAF ρ hh = 0 := by rw [moAF, fp, if_pos rfl, if_neg (by rw [← k3]; exact c3)]
    rw [fa, if_pos rfl] at ea eρ
    have hop : ¬ ρ.I 9 (hdN hh) = 0 := by rw [← k3]; exact c3
    have z1 : (moEnS ρ 0 hh).s 1 = ρ.s 1 := rfl
    have z2 : (moEnS ρ 0 hh).s 2 = ρ.s 2 := rfl
    have z3 : (moEnS ρ 0 hh).s 3 = ρ.s 3 := rfl
    have z4 : (moEnS ρ 0 hh).s 4 = if ρ.s 4 = nI (hdN hh) then -1 else ρ.s 4 := rfl
    have z0 : (moEnS ρ 0 hh).s 0 = 0 := rfl
    have z9 : (moEnS ρ 0 hh).I 9 = upd (ρ.I 9) (hdN hh) 0 := rfl
    have zk : ∀ k, k ≠ 9 → (moEnS ρ 0 hh).I k = ρ.I k := fun k hk => by
      show ((ρ.ws 0 0).wI 9 (upd (ρ.I 9) (hdN hh) 0)).I k = _
      rw [ms_In hk]; rfl
    generalize moEnS ρ 0 hh = ρe at *
    generalize hdN hh = N at *
    have a0 : (σ.A N 1).toInt64 = (ρ.I 14 N).toInt64 := by rw [k4]
    have noteM : ∀ i, i < 150 → tcd ρ.I N i → slM σ i = true := fun i hi q => by
      rcases h.tz N k1 i hi with z | ⟨-, z, -⟩
      · exact absurd z.1 q
      · exact z
    by_cases hkp : kp = 0
    · rw [if_pos hkp] at eρ
      rw [edS, if_pos hkp] at es
      obtain ⟨q1, q2, q3, q4⟩ := edL_c (ρ := ρe) (j := N) 150
      generalize moEdL ρe N 150 = ρ1 at *
      rw [er, ev, ea, eρ]
      refine ⟨?_, by show ρ1.s 0 = 0; rw [q1]; exact z0, fun _ => a0⟩
      show JR σ' ρ1
      have uCe : ∀ a b, a ≠ 9 → b ≠ 9 → uC ρe.I N a b = uC ρ.I N a b := fun a b h1 h2 => by funext i; rw [uC, uC, zk 15 (by omega), zk a h1, zk b h2]
      have w1 : ∀ i, i < 150 → ρ1.I 1 i = uC ρ.I N 1 16 i ∧ ρ1.I 2 i = uC ρ.I N 2 17 i ∧ ρ1.I 3 i = uC ρ.I N 3 18 i := fun i hi => by
        rw [← uCe 1 16 (by omega) (by omega), ← uCe 2 17 (by omega) (by omega), ← uCe 3 18 (by omega) (by omega)]; exact q3 i hi
      have ek : ∀ k, k ≠ 9 → k ≠ 1 → k ≠ 2 → k ≠ 3 → ρ1.I k = ρ.I k := fun k h9 h1 h2 h3 => by rw [q2 k h1 h2 h3, zk k h9]
      have w2 : ∀ i, i < 150 → ρ.I 15 (150 * N + i) = 0 → ρ1.I 1 i = ρ.I 1 i ∧ ρ1.I 2 i = ρ.I 2 i ∧ ρ1.I 3 i = ρ.I 3 i := fun i hi q => by
        obtain ⟨x1, x2, x3⟩ := w1 i hi
        rw [x1, x2, x3]; simp only [uC, if_pos q, and_self]
      have w3 : ∀ i, i < 150 → tcd ρ.I N i → ρ1.I 1 i = ρ.I 16 (150 * N + i) ∧ ρ1.I 2 i = ρ.I 17 (150 * N + i) ∧ ρ1.I 3 i = ρ.I 18 (150 * N + i) := fun i hi q => by
        obtain ⟨x1, x2, x3⟩ := w1 i hi
        rw [x1, x2, x3]; unfold tcd at q; simp only [uC, if_neg q, and_self]
      have hnk : ∀ k, k < gN σ 6 → k ≠ N → ¬ ρ.I 9 k = 0 → ∀ i, i < 150 → tcd ρ.I k i → ρ.I 15 (150 * N + i) = 0 := fun k hk hkN ho i hi q => h.td k N hk k1 hkN ho hop i hi q
      have eT : ∀ i, σ'.T i = if slM σ i then rkT σ.T (σ.Z N) i else σ.T i := fun i => by rw [es]; rfl
      refine h.shut hI k1 (by rw [es]; rfl) (by rw [es]; rfl) (by rw [es]; rfl) (by rw [es]; rfl) (by rw [es]; rfl) (by rw [es]; rfl) (by rw [es]; rfl) (by rw [es]; rfl) (by rw [q1]; exact z1) (by rw [q1]; exact z2) (by rw [q1]; exact z3) (by rw [q1]; exact z4) (by rw [q2 9 (by omega) (by omega) (by omega)]; exact z9) ek ?_ ?_ ?_ ?_ ?_ ?_
      · intro i hi hm
        have ht := h.th i hi hm
        rw [eT i, if_pos hm, rkT]
        rcases h.tz N k1 i hi with ⟨y1, y2⟩ | ⟨y1, y2, y3, y4⟩
        · rw [if_pos y2]
          obtain ⟨x1, x2, x3⟩ := w2 i hi y1
          exact rs_th ht (fun k _ h1 h2 h3 h9 => by rw [ek k (by omega) h1 h2 h3]) rfl rfl rfl (by rw [x1]; exact ht.1) (by rw [x2, x3]; exact ht.2.1) (by rw [x2, x3]; exact ht.2.2.2.1)
        · rw [if_neg (fun q => (st_oB y4 (h.b16 _)).1 (by rw [← y3]; exact q))]
          obtain ⟨x1, x2, x3⟩ := w3 i hi y1
          obtain ⟨v5, v6, v7, v8, v9⟩ := rs_row ht y3 y4 (h.b16 _)
          exact rs_th ht (fun k _ h1 h2 h3 h9 => by rw [ek k (by omega) h1 h2 h3]) rfl rfl rfl (by rw [x1]; exact v5) (by rw [x2, x3]; exact ⟨v6, v7, v8, v9⟩) (by rw [x2, x3]; exact y4)
      · intro i hi hm
        have h0 := un_t hI h hi hm (j := N) (by have := g6 hI; omega)
        rw [(w2 i hi h0).1]; exact h.un i hi hm
      · intro q
        by_cases hq : q < 150
        · by_cases h0 : ρ.I 15 (150 * N + q) = 0
          · rw [(w2 q hq h0).1]; exact h.b1 q
          · rw [(w3 q hq h0).1]; exact h.b16 _
        · rw [(q4 q (by omega)).1, zk 1 (by omega)]; exact h.b1 q
      · intro k hk hkN ho i hi q
        exact w2 i hi (hnk k hk hkN ho i hi q)
      · refine pOK_congr (I := ρ.I) (fun p hp q => ?_) (fun p hp q => ?_) (h.i3 N k1 hop)
        · obtain ⟨x1, x2, x3⟩ := w1 p hp; exact ⟨x1.symm, rfl, x2, x3⟩
        · obtain ⟨x1, x2, x3⟩ := w1 p (by omega); exact ⟨x1, x2, x3, rfl, rfl⟩
      · intro k hk hkN ho p q h1 h2 h3 h4 h5
        have e15 := ek 15 (by omega) (by omega) (by omega) (by omega)
        have e16 := ek 16 (by omega) (by omega) (by omega) (by omega)
        have e17 := ek 17 (by omega) (by omega) (by omega) (by omega)
        have e18 := ek 18 (by omega) (by omega) (by omega) (by omega)
        have c0 : ∀ i, ρ.I 15 (150 * k + i) = 0 → uC ρ1.I k 1 16 i = ρ1.I 1 i ∧ uC ρ1.I k 2 17 i = ρ1.I 2 i ∧ uC ρ1.I k 3 18 i = ρ1.I 3 i := fun i q => by simp only [uC, e15, if_pos q, and_self]
        have c1' : ∀ i, tcd ρ.I k i → uC ρ1.I k 1 16 i = ρ.I 16 (150 * k + i) ∧ uC ρ1.I k 2 17 i = ρ.I 17 (150 * k + i) ∧ uC ρ1.I k 3 18 i = ρ.I 18 (150 * k + i) := fun i q => by unfold tcd at q; simp only [uC, e15, e16, e17, e18, if_neg q, and_self]
        have o0 : ∀ i, ρ.I 15 (150 * k + i) = 0 → uC ρ.I k 1 16 i = ρ.I 1 i ∧ uC ρ.I k 2 17 i = ρ.I 2 i ∧ uC ρ.I k 3 18 i = ρ.I 3 i := fun i q => by simp only [uC, if_pos q, and_self]
        have o1 : ∀ i, tcd ρ.I k i → uC ρ.I k 1 16 i = ρ.I 16 (150 * k + i) ∧ uC ρ.I k 2 17 i = ρ.I 17 (150 * k + i) ∧ uC ρ.I k 3 18 i = ρ.I 18 (150 * k + i) := fun i q => by unfold tcd at q; simp only [uC, if_neg q, and_self]
        have dj := h.dj k N hk k1 hkN ho hop
        by_cases tp : ρ.I 15 (150 * k + p) = 0
        · obtain ⟨p1, p2, p3⟩ := c0 p tp
          rw [p1] at h5
          by_cases tq : ρ.I 15 (150 * k + q) = 0
          · obtain ⟨b1, b2, b3⟩ := c0 q tq
            rw [p2, p3, b1, b2, b3]
            obtain ⟨x1, x2, x3⟩ := w1 p (by omega)
            obtain ⟨y1, y2, y3⟩ := w1 q (by omega)
            rw [x1] at h5
            rw [x2, x3, y1, y2, y3]; exact h.i3 N k1 hop p q h1 h2 h3 h4 h5
          · obtain ⟨b1, b2, b3⟩ := c1' q tq
            obtain ⟨d1, d2, d3⟩ := o1 q tq
            have tqN := hnk k hk hkN ho q (by omega) tq
            by_cases tpN : ρ.I 15 (150 * N + p) = 0
            · obtain ⟨x1, x2, x3⟩ := w2 p (by omega) tpN
              rw [x1] at h5
              have := h.i3 k hk ho p q h1 h2 h3 h4 (by rw [(o0 p tp).1]; exact h5)
              rw [(o0 p tp).2.1, (o0 p tp).2.2, d1, d2, d3] at this
              rw [p2, p3, b1, b2, b3, x2, x3]; exact this
            · exfalso
              obtain ⟨x1, x2, x3⟩ := w3 p (by omega) tpN
              rw [x1] at h5
              have A := h.i3 N k1 hop p q h1 h2 h3 h4 (by rw [(w1 p (by omega)).1.symm, x1]; exact h5)
              rw [← (w1 p (by omega)).2.1, ← (w1 p (by omega)).2.2, ← (w1 q (by omega)).1, ← (w1 q (by omega)).2.1, ← (w1 q (by omega)).2.2, x2, x3, (w2 q (by omega) tqN).1, (w2 q (by omega) tqN).2.1, (w2 q (by omega) tqN).2.2] at A
              have B := (h.i2 N k1 hop p (by omega) tpN).2 h5
              have D := (h.i2 k hk ho q (by omega) tq).1 A.1
              have e := (h.th p (by omega) (noteM p (by omega) tpN)).2.2.2.2.2.2.1 h1 h2
              unfold iR at B D; unfold apR at dj
              rw [e.1, e.2.1, t1] at B
              omega
        · obtain ⟨p1, p2, p3⟩ := c1' p tp
          rw [p1] at h5
          have A := h.i3 k hk ho p q h1 h2 h3 h4 (by rw [(o1 p tp).1]; exact h5)
          rw [(o1 p tp).2.1, (o1 p tp).2.2] at A
          by_cases tq : ρ.I 15 (150 * k + q) = 0
          · obtain ⟨b1, b2, b3⟩ := c0 q tq
            obtain ⟨d1, d2, d3⟩ := o0 q tq
            rw [d1, d2, d3] at A
            by_cases tqN : ρ.I 15 (150 * N + q) = 0
            · obtain ⟨x1, x2, x3⟩ := w2 q (by omega) tqN
              rw [p2, p3, b1, b2, b3, x1, x2, x3]; exact A
            · exfalso
              have B := (h.i2 k hk ho p (by omega) tp).2 h5
              have D := (h.i2 N k1 hop q (by omega) tqN).1 A.1
              have hmp : slM σ p = true := by
                rcases h.tz k hk p (by omega) with z | ⟨-, z, -⟩
                · exact absurd z.1 tp
                · exact z
              have e := (h.th p (by omega) hmp).2.2.2.2.2.2.1 h1 h2
              unfold iR at B D; unfold apR at dj
              rw [e.1, e.2.1, t1] at B
              omega
          · obtain ⟨b1, b2, b3⟩ := c1' q tq
            obtain ⟨d1, d2, d3⟩ := o1 q tq
            rw [d1, d2, d3] at A
            rw [p2, p3, b1, b2, b3]; exact A
    · rw [if_neg hkp] at eρ
      rw [edS, if_neg hkp] at es
      rw [er, ev, ea, eρ]
      refine ⟨?_, z0, fun _ => a0⟩
      show JR σ' ρe
      refine h.shut hI k1 (by rw [es]; rfl) (by rw [es]; rfl) (by rw [es]; rfl) (by rw [es]; rfl) (by rw [es]; rfl) (by rw [es]; rfl) (by rw [es]; rfl) (by rw [es]; rfl) z1 z2 z3 z4 z9 (fun k h9 _ _ _ => zk k h9) ?_ ?_ ?_ ?_ ?_ ?_
      · intro i hi hm
        have : σ'.T i = σ.T i := by rw [es]; rfl
        rw [this]
        have ht := h.th i hi hm
        unfold thR at *
        rw [zk 1 (by omega), zk 2 (by omega), zk 3 (by omega), zk 4 (by omega), zk 5 (by omega), zk 6 (by omega), zk 7 (by omega), zk 8 (by omega)]; exact ht
      · rw [zk 1 (by omega)]; exact h.un
      · rw [zk 1 (by omega)]; exact h.b1
      · intro k hk hkN ho i hi q; rw [zk 1 (by omega), zk 2 (by omega), zk 3 (by omega)]; exact ⟨rfl, rfl, rfl⟩
      · rw [zk 1 (by omega), zk 2 (by omega), zk 3 (by omega)]; exact h.i1
      · intro k hk hkN ho
        have : ∀ a b, a ≠ 9 → b ≠ 9 → uC ρe.I k a b = uC ρ.I k a b := fun a b h1 h2 => by funext i; rw [uC, uC, zk 15 (by omega), zk a h1, zk b h2]
        rw [this 1 16 (by omega) (by omega), this 2 17 (by omega) (by omega), this 3 18 (by omega) (by omega)]; exact h.i3 k hk ho
