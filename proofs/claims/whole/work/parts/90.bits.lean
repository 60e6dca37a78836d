/-! BITS: the class's rows of 32 and the model's of 64 -/
theorem sf_n {x g : Nat} (hx : x < 32) (hg : g < 5) : sh_from (nI x - nI g) = nI (x - g) := by
  have e : (nI x - nI g).toInt = (x : Int) - (g : Int) := by rw [tS (by rw [tn (by omega), tn (by omega)]; omega) (by rw [tn (by omega), tn (by omega)]; omega), tn (by omega), tn (by omega)]
  rw [sh_from]
  by_cases h : 0 < nI x - nI g
  · rw [if_pos h]
    rw [tT, t0, e] at h
    rw [nI_sbN (by omega)]
  · rw [if_neg h]
    rw [tT, t0, e] at h
    rw [show x - g = 0 by omega]; rfl
theorem st_n {u g : Nat} (hu : u < 32) (hg : g < 5) : sh_to (nI u + nI g) = nI (min 31 (u + g)) := by
  rw [sh_to, nI_add]
  by_cases h : nI (u + g) < 31
  · rw [if_pos h]
    rw [tT, t31, tn (by omega)] at h
    congr 1; omega
  · rw [if_neg h]
    rw [tT, t31, tn (by omega)] at h
    rw [show min 31 (u + g) = 31 by omega]; rfl
theorem bt_sb {a b : Int32} {f t : Nat} (hf : sh_from a = nI f) (ht : sh_to b = nI t) (hft : f ≤ t) (h31 : t ≤ 31) {q : Nat} (hq : q < 32) : bt (sh_bits a b) q = decide (f ≤ q ∧ q ≤ t) := by
  have e1 : (31 : Int32) - (nI t - nI f) = nI (31 - (t - f)) := by rw [nI_sbN hft, show (31 : Int32) = nI 31 from rfl, nI_sbN (by omega)]
  rw [sh_bits, hf, ht, if_pos ((nI_leI (by omega) (by omega)).mpr hft), e1, b_shl f (by omega) _ hq]
  by_cases h : f ≤ q
  · rw [decide_eq_true h, Bool.true_and, b_ushr (31 - (t - f)) (by omega)]
    by_cases h2 : q ≤ t
    · rw [b_m1 _ (by omega), decide_eq_true ⟨h, h2⟩]
    · rw [b_big (by omega), decide_eq_false (fun z => h2 z.2)]
  · rw [decide_eq_false h, Bool.false_and, decide_eq_false (fun z => h z.1)]
theorem sp_a : ∀ w, w < 33 → ∀ i, i < 64 → lq ((1 <<< ((nI w).toInt64 &&& 63)) - 1) i = decide (i < w) := by decide +kernel
theorem lq_sp {x w : Nat} (hxw : x + w ≤ 32) {q : Nat} (hq : q < 64) : lq (moSpan (nI x) (nI w)) q = decide (x ≤ q ∧ q < x + w) := by
  rw [moSpan, q_shl x (by omega) _ hq]
  by_cases h : x ≤ q
  · rw [decide_eq_true h, Bool.true_and, sp_a w (by omega) _ (by omega)]; exact bo_eq (by omega)
  · rw [decide_eq_false h, Bool.false_and, decide_eq_false (fun z => h z.1)]
theorem lq_wd {x w : Nat} (hw : 1 ≤ w) (hxw : x + w ≤ 32) : ∀ (g q : Nat), q < 64 → lq (moWd (moSpan (nI x) (nI w)) g) q = decide (q < 32 ∧ x ≤ q + g ∧ q < x + w + g) := by
  intro g
  induction g with
  | zero => intro q hq; rw [moWd, lq_sp hxw hq]; exact bo_eq (by omega)
  | succ g ih =>
    intro q hq
    rw [moWd, q_W1 _ hq, Bool.eq_iff_iff]
    by_cases h32 : q < 32
    · rw [ih q hq, ih (1 + q) (by omega), ih (q - 1) (by omega)]
      simp only [Bool.and_eq_true, Bool.or_eq_true, decide_eq_true_eq]
      omega
    · rw [decide_eq_false h32]
      simp only [Bool.false_and, Bool.false_eq_true, decide_eq_true_eq, false_iff]; omega
/-- a row of the class and one of the model hold the same cells -/
def eqB (la : Nat) (c : Nat → Int32) (C : Nat → Int64) : Prop := ∀ y, y < 24 → ∀ x, x < 32 → bt (c y) x = lq (C (24 * la + y)) x
theorem box_nat {x y w h : Int32} (hb : oB x y w h) : ∃ X Y W H : Nat, x = nI X ∧ y = nI Y ∧ w = nI W ∧ h = nI H ∧ 1 ≤ W ∧ 1 ≤ H ∧ X + W ≤ 32 ∧ Y + H ≤ 24 := by
  obtain ⟨o1, o2, o3, o4, o5, o6⟩ := hb
  obtain ⟨a, a'⟩ := nat_of o1
  obtain ⟨b, b'⟩ := nat_of o4
  obtain ⟨c, c'⟩ := nat_of (x := w) (by omega)
  obtain ⟨d, d'⟩ := nat_of (x := h) (by omega)
  exact ⟨_, _, _, _, a, b, c, d, by omega, by omega, by omega, by omega⟩
theorem fl_bits {σ : HS} {ρ ρx : MS} (hI : hsI σ) (h : JR σ ρ) (eI : ρx.I = ρ.I) {la n0 g0 : Nat} (hla : la < 4) (hn0 : n0 < 20) (hg5 : g0 < 5) (eg : σ.g = nI g0) : ∀ n, n ≤ 120 → eqB la (flO σ.T (nI la) (nI (1000 + n0)) n) (moLL ρx (nI n0) la g0 n).1 ∧ eqB la (flR σ.T (nI la) (nI (1000 + n0)) σ.g n) (moLL ρx (nI n0) la g0 n).2 := by
  intro n
  induction n with
  | zero =>
    intro _
    refine ⟨fun y hy x hx => ?_, fun y hy x hx => ?_⟩
    · rw [flO, moLL]; show bt 0 x = lq (clR (ρx.L 0) 0 (24 * la) 24 (24 * la + y)) x
      rw [clR, if_pos (by omega), b_0, q_0]
    · rw [flR, moLL]; show bt (-1) x = lq (clR (ρx.L 1) 4294967295 (24 * la) 24 (24 * la + y)) x
      rw [clR, if_pos (by omega), b_m1 x hx, q_all x (by omega), decide_eq_true hx]
  | succ n ih =>
    intro hn
    obtain ⟨ih1, ih2⟩ := ih (by omega)
    rw [flO, flR, moLL]
    cases hm : slM σ (20 + n) with
    | false =>
      have c0 : moCop ρx.I (20 + n) = false := by rw [eI]; exact cop_un h (by omega) hm
      rw [hI.2.2.2.2.1 _ (by omega) hm, decide_eq_true rfl, c0]
      simp only [Bool.not_true, Bool.false_and, Bool.false_eq_true, if_false]
      exact ⟨ih1, ih2⟩
    | true =>
      have ht := h.th (20 + n) (by omega) hm
      obtain ⟨-, ⟨r6, r7, r8, r9⟩, r2, hob, an, -⟩ := id ht
      obtain ⟨n', hn', e3, e7⟩ : ∃ n', n' < 20 ∧ σ.T (20 + n) 3 = nI (1000 + n') ∧ ρ.I 7 (20 + n) = nI n' := by
        rcases an with q | q
        · omega
        · exact q.2
      have c0 : moCop ρx.I (20 + n) = !decide (σ.T (20 + n) 5 = 0) := by rw [eI]; exact cop_eq h (by omega) (by omega) hm
      have on : moOn ρx.I (20 + n) (nI la) = th_liesOn (σ.T (20 + n) 0) (σ.T (20 + n) 2) (nI la) := by
        rw [moOn, th_liesOn, kind_eq _ (by omega), (hI.2.1 _ (by omega) hm).1, eI, r2]
      have en : decide (σ.T (20 + n) 3 = nI (1000 + n0)) = decide (ρx.I 7 (20 + n) = nI n0) := bo_eq (by rw [eI, e3, e7, nI_eq (by omega) (by omega), nI_eq (by omega) (by omega)]; omega)
      rw [c0, on, en]
      cases hqq : (!decide (σ.T (20 + n) 5 = 0) && th_liesOn (σ.T (20 + n) 0) (σ.T (20 + n) 2) (nI la)) with
      | false => simp only [Bool.false_and, Bool.false_eq_true, if_false]; exact ⟨ih1, ih2⟩
      | true =>
        rw [if_pos rfl]
        obtain ⟨X, Y, W, H, eX, eY, eW, eH, hW, hH, hXW, hYH⟩ := box_nat hob
        have ey : yq ρx (20 + n) = Y := by rw [yq, eI, eY, nI_clamp (by omega)]
        have eh : hq ρx (20 + n) = H := by rw [hq, eI, eH, nI_clamp (by omega)]
        have eU : σ.T (20 + n) 8 = nI (X + W - 1) := by rw [r8, eX, eW, nI_add, show (1 : Int32) = nI 1 from rfl, nI_sbN (by omega)]
        have eV : σ.T (20 + n) 9 = nI (Y + H - 1) := by rw [r9, eY, eH, nI_add, show (1 : Int32) = nI 1 from rfl, nI_sbN (by omega)]
        rw [r6, r7, eU, eV, eX, eY, ey, eh, eI, eX, eW, eg]
        by_cases hne : ρ.I 7 (20 + n) = nI n0
        · simp only [decide_eq_true hne, if_pos hne, Bool.and_self, Bool.not_true, Bool.and_false, Bool.false_eq_true, if_true, if_false]
          refine ⟨fun y hy x hx => ?_, by rw [← eg]; exact ih2⟩
          show bt (addR _ _ _ _ _ y) x = lq (orR _ _ _ _ (24 * la + y)) x
          have f0 : sh_from (nI X) = nI X := by have := sf_n (x := X) (g := 0) (by omega) (by omega); rw [nI_0, Int32.sub_zero] at this; exact this
          have t0' : sh_to (nI (X + W - 1)) = nI (X + W - 1) := by have := st_n (u := X + W - 1) (g := 0) (by omega) (by omega); rw [nI_0, Int32.add_zero, show min 31 (X + W - 1 + 0) = X + W - 1 by omega] at this; exact this
          rw [addR, orR]
          by_cases hr : Y ≤ y ∧ y < Y + H
          · rw [if_pos ⟨(nI_leI (by omega) (by omega)).mpr hr.1, (nI_leI (by omega) (by omega)).mpr (by omega)⟩, if_pos (by omega), b_or, q_or, ih1 y hy x hx, bt_sb f0 t0' (by omega) (by omega) hx, lq_sp hXW (by omega)]
            congr 1; exact bo_eq (by omega)
          · rw [if_neg (by rw [nI_leI (by omega) (by omega), nI_leI (by omega) (by omega)]; omega), if_neg (by omega)]; exact ih1 y hy x hx
        · simp only [decide_eq_false hne, if_neg hne, Bool.not_false, Bool.and_self, Bool.and_false, Bool.false_eq_true, if_true, if_false]
          refine ⟨ih1, fun y hy x hx => ?_⟩
          show bt (remR _ _ _ _ _ _ y) x = lq (anR _ _ _ _ (24 * la + y)) x
          rw [remR, anR]
          have c1 : nI Y - nI g0 ≤ nI y ↔ Y ≤ y + g0 := by
            rw [tL, tS (by rw [tn (by omega), tn (by omega)]; omega) (by rw [tn (by omega), tn (by omega)]; omega), tn (by omega), tn (by omega), tn (by omega)]; omega
          have c2 : nI y ≤ nI (Y + H - 1) + nI g0 ↔ y < Y + H + g0 := by rw [nI_add, nI_leI (by omega) (by omega)]; omega
          rw [eg] at ih2
          by_cases hr : Y ≤ y + g0 ∧ y < Y + H + g0
          · rw [if_pos ⟨c1.mpr hr.1, c2.mpr hr.2⟩, if_pos (by omega), b_and, q_and, b_xor, q_xor, b_m1 x hx, q_m1 x (by omega), ih2 y hy x hx, bt_sb (sf_n (by omega) hg5) (st_n (by omega) hg5) (by omega) (by omega) hx, lq_wd hW hXW g0 x (by omega)]
            congr 2; exact bo_eq (by omega)
          · rw [if_neg (by rw [c1, c2]; exact hr), if_neg (by omega)]; exact ih2 y hy x hx
