/-! ISLANDS -/
theorem pt_eq {σ : HS} {ρ : MS} (hI : hsI σ) (h : JR σ ρ) {n0 t : Nat} (hn0 : n0 < 20) (ht : 20 ≤ t) (ht2 : t < 80) : ptP σ.T (nI (1000 + n0)) t = moPdP ρ.I (nI n0) t := by
  rw [ptP, moPdP]
  cases hm : slM σ t with
  | false => rw [hI.2.2.2.2.1 t (by omega) hm, h.un t (by omega) hm]; simp
  | true =>
    obtain ⟨e5, -, -, -, an, -⟩ := h.th t (by omega) hm
    obtain ⟨n', hn', e3, e7⟩ : ∃ n', n' < 20 ∧ σ.T t 3 = nI (1000 + n') ∧ ρ.I 7 t = nI n' := by
      rcases an with q | q
      · omega
      · exact q.2
    have k3 : σ.T t 0 = 3 := by
      rw [(hI.2.1 t (by omega) hm).1]
      rcases slK_r t (by omega) with z | z | z | z
      · omega
      · rw [z.2.2.1]; rfl
      all_goals omega
    rw [e5, k3, decide_eq_true rfl, Bool.and_true]
    congr 1
    exact bo_eq (by rw [e3, e7, nI_eq (by omega) (by omega), nI_eq (by omega) (by omega)]; omega)
theorem pt_no {σ : HS} (hI : hsI σ) {ne : Int32} {t : Nat} (ht : 80 ≤ t) (ht2 : t < 140) : ptP σ.T ne t = false := by
  rw [ptP]
  cases hm : slM σ t with
  | false => rw [hI.2.2.2.2.1 t (by omega) hm]; simp
  | true =>
    rw [(hI.2.1 t (by omega) hm).1]
    rcases slK_r t (by omega) with z | z | z | z
    · omega
    · omega
    · rw [z.2.2.1, show decide (nI 4 = 3) = false from rfl]; simp
    · omega
/-- a point's cell -/
theorem pt_xy {σ : HS} {ρ : MS} (hI : hsI σ) (h : JR σ ρ) {n0 t : Nat} (ht : 20 ≤ t) (ht2 : t < 80) (hp : moPdP ρ.I (nI n0) t = true) :
    slM σ t = true ∧ σ.T t 6 = nI (xq ρ t) ∧ σ.T t 7 = nI (yq ρ t) ∧ σ.T t 8 = nI (xq ρ t) ∧ σ.T t 9 = nI (yq ρ t) ∧ xq ρ t < 32 ∧ yq ρ t < 24 ∧ px σ.T t = xq ρ t ∧ py σ.T t = yq ρ t ∧ ρ.I 2 t = nI (xq ρ t) ∧ σ.T t 0 = 3 ∧ ρ.I 7 t = nI n0 ∧ ρ.I 4 t = 1 ∧ hq ρ t = 1 ∧ moCop ρ.I t = true := by
  simp only [moPdP, Bool.and_eq_true, decide_eq_true_eq, Bool.not_eq_true', decide_eq_false_iff_not] at hp
  have hm : slM σ t = true := by
    cases z : slM σ t with
    | true => rfl
    | false => exact absurd (h.un t (by omega) z) hp.1
  obtain ⟨e5, ⟨r6, r7, r8, r9⟩, -, ⟨o1, o2, o3, o4, o5, o6⟩, -, -, pt, -⟩ := h.th t (by omega) hm
  obtain ⟨w1, w2, -⟩ := pt ht ht2
  obtain ⟨x1, x2⟩ := nat_of o1
  obtain ⟨y1, y2⟩ := nat_of o4
  rw [w1, Int32.add_sub_cancel] at r8
  rw [w2, Int32.add_sub_cancel] at r9
  have k3 : σ.T t 0 = 3 := by
    rw [(hI.2.1 t (by omega) hm).1]
    rcases slK_r t (by omega) with z | z | z | z
    · omega
    · rw [z.2.2.1]; rfl
    all_goals omega
  refine ⟨hm, r6.trans x1, r7.trans y1, r8.trans x1, r9.trans y1, by rw [xq]; omega, by rw [yq]; omega, by rw [px, r6, xq], by rw [py, r7, yq], x1, k3, hp.2, w1, by rw [hq, w2]; rfl, ?_⟩
  rw [cop_eq h ht (by omega) hm, e5, decide_eq_false hp.1]; rfl
theorem bt_add {o : Nat → Int32} {x y u v : Int32} {j q : Nat} : bt (addR o x y u v j) q = (bt (o j) q || (decide (y ≤ nI j ∧ nI j ≤ v) && bt (sh_bits x u) q)) := by
  rw [addR]
  by_cases h : y ≤ nI j ∧ nI j ≤ v
  · rw [if_pos h, b_or, decide_eq_true h, Bool.true_and]
  · rw [if_neg h, decide_eq_false h, Bool.false_and, Bool.or_false]
theorem lo_bits {T : Nat → Nat → Int32} {ne : Int32} {P : Nat → Nat → Int32} {l y x : Nat} : ∀ n, bt (loF T ne P n l y) x = (bt (P l y) x || bt (flO T (nI l) ne n y) x) := by
  intro n
  induction n with
  | zero => rw [loF, flO, b_0, Bool.or_false]
  | succ n ih =>
    rw [loF, flO]
    cases h1 : decide (T (20 + n) 5 = 0) with
    | true => simp only [Bool.not_true, Bool.false_and, Bool.false_eq_true, if_false]; exact ih
    | false =>
      cases h2 : decide (T (20 + n) 3 = ne) with
      | false => simp only [Bool.and_false, Bool.false_eq_true, if_false]; exact ih
      | true =>
        simp only [Bool.not_false, Bool.and_self, Bool.true_and, Bool.and_true, if_true]
        rw [layF]
        cases h3 : th_liesOn (T (20 + n) 0) (T (20 + n) 2) (nI l) with
        | false => simp only [Bool.false_eq_true, if_false]; exact ih
        | true => simp only [if_true]; rw [bt_add, bt_add, ih, Bool.or_assoc]
theorem hp_eq {σ : HS} {ρ : MS} (hI : hsI σ) (h : JR σ ρ) {n0 l : Nat} (hn0 : n0 < 20) : anyF (plP σ.T (nI (1000 + n0)) l) 140 10 = anyF (moHpP ρ.I (nI n0) (nI l)) 140 (mN ρ 5) := by
  rw [mN_g h (by omega) (by omega)]
  have hg : gN σ 5 ≤ 10 := (gN_of hI.1 (K := 5) (by omega) (by omega)).2
  have key : ∀ j, 140 ≤ j → j < 140 + gN σ 5 → plP σ.T (nI (1000 + n0)) l j = moHpP ρ.I (nI n0) (nI l) j := fun j hj hj2 => by
    have hm : slM σ j = true := by rw [slM_l hj (by omega)]; exact decide_eq_true (by omega)
    obtain ⟨e5, -, r2, -, an, -⟩ := h.th j (by omega) hm
    obtain ⟨n', hn', e3, e7⟩ : ∃ n', n' < 20 ∧ σ.T j 3 = nI (1000 + n') ∧ ρ.I 7 j = nI n' := by
      rcases an with q | q
      · omega
      · exact q.2
    have en : decide (σ.T j 3 = nI (1000 + n0)) = decide (ρ.I 7 j = nI n0) := bo_eq (by rw [e3, e7, nI_eq (by omega) (by omega), nI_eq (by omega) (by omega)]; omega)
    rw [plP, moHpP, e5, en, r2]
  refine any_rg (fun j h1 h2 q => ?_) (fun j h1 h2 q => ⟨by omega, by omega, by rw [key j h1 h2]; exact q⟩)
  by_cases hm : slM σ j = true
  · have hj2 : j < 140 + gN σ 5 := by rw [slM_l h1 (by omega)] at hm; have := of_decide_eq_true hm; omega
    exact ⟨h1, hj2, by rw [← key j h1 hj2]; exact q⟩
  · rw [plP, hI.2.2.2.2.1 j (by omega) (by simpa using hm)] at q; simp at q
theorem q_sh1 {v : Int64} {X x : Nat} (hX : X < 32) (hx : x < 64) : lq (v ||| (1 <<< ((nI X).toInt64 &&& 63))) x = (lq v x || decide (x = X)) := by rw [q_or, shl1 X hX x hx]
def isI (σ : HS) (ne : Int32) (O R : Nat → Nat → Int32) (G : Nat → Int64) : Prop :=
  (∀ l, l < σ.nl → eqB l (R l) G) ∧
  (∀ l, l < σ.nl → l32 G l) ∧
  (mSub σ.nl R O) ∧
  (mClo σ.nl σ.T ne O R)
theorem isI.eq {σ : HS} {ne : Int32} {O R : Nat → Nat → Int32} {G : Nat → Int64} (h : isI σ ne O R G) : ∀ l, l < σ.nl → eqB l (R l) G := h.1
theorem isI.g32 {σ : HS} {ne : Int32} {O R : Nat → Nat → Int32} {G : Nat → Int64} (h : isI σ ne O R G) : ∀ l, l < σ.nl → l32 G l := h.2.1
theorem isI.sub {σ : HS} {ne : Int32} {O R : Nat → Nat → Int32} {G : Nat → Int64} (h : isI σ ne O R G) : mSub σ.nl R O := h.2.2.1
theorem isI.clo {σ : HS} {ne : Int32} {O R : Nat → Nat → Int32} {G : Nat → Int64} (h : isI σ ne O R G) : mClo σ.nl σ.T ne O R := h.2.2.2
theorem J_islands : ok_islands JR := by
  intro σ ρ hI h net r a σ' ans ρ' hR hM
  have fp := flt h net 1
  rcases hR with ⟨c1, er, es⟩ | ⟨c1, c2, er, es⟩ | ⟨c1, c2, er, es, O, R, c, hO, hIs, ev⟩
  · rw [c1, if_neg (by decide)] at fp
    rcases hM with ⟨-, ea, eρ⟩ | ⟨z, -⟩
    · rw [fp] at eρ; rw [es]; exact bad h eρ er (by decide)
    · rw [fp] at z; exact absurd z (by decide)
  · rw [c1, if_pos rfl, if_neg c2] at fp
    rcases hM with ⟨-, ea, eρ⟩ | ⟨z, -⟩
    · rw [fp] at eρ; rw [es]; exact bad h eρ er (by decide)
    · rw [fp] at z; exact absurd z (by decide)
  · rw [c1, if_pos rfl, if_pos c2] at fp
    rcases hM with ⟨z, -⟩ | ⟨-, nl, g0, o, f, G, cm, hnl1, hnl4, enl, hg5, eg, eρ, hL, hIm, ea⟩
    · exact absurd fp z
    · have hnlE : nl = σ.nl := by
        have := h.nl; rw [enl, nI_eq (by omega) (by have := hI.2.2.2.1; omega)] at this; exact this
      subst hnlE
      obtain ⟨n0, hn0, en, en2⟩ := net_of hI c1 c2
      rw [en2] at hL hIm
      rw [en] at hO hIs
      clear en en2 c1 c2 fp
      have eg' : σ.g = nI g0 := by rw [← h.gp.1]; exact eg
      obtain ⟨-, -, -, -, -, -, hcw, -⟩ := J_pre σ ρ hI h
      have own32 : ∀ (ρx : MS) (l : Nat), ρx.I = ρ.I → l32 (moLL ρx (nI n0) l g0 120).1 l := fun ρx l e => own_32 (by unfold moCw at *; rw [e]; exact hcw) 120 (Nat.le_refl _)
      have f32 : ∀ l, l < σ.nl → l32 f l := fun l hl => isL_32 (hL l hl) (fun ρx e => own32 ρx l e)
      -- the copper of the net
      have eO : ∀ l, l < σ.nl → eqB l (O l) f := fun l hl => by
        obtain ⟨P, hP, hE⟩ := hO
        obtain ⟨ρx, Gx, eI, hfin, hrow⟩ := hL l hl
        obtain ⟨f1, f2⟩ := fl_bits (ρx := ρx) hI h eI (la := l) (by omega) hn0 hg5 eg' 120 (Nat.le_refl _)
        have F32 := ll_32 (ρ := ρx) (ne := nI n0) (la := l) (g := g0) 120
        have hPl := hP l hl
        rw [show (150 : Nat) - 140 = 10 from rfl, hp_eq hI h hn0] at hPl
        intro y hy x hx
        rw [hE l hl y hy, lo_bits, hrow y hy, q_or, f1 y hy x hx, Bool.or_comm]
        congr 1
        cases hb : anyF (moHpP ρ.I (nI n0) (nI l)) 140 (mN ρ 5) with
        | false => rw [hPl.2 hb y hy, if_neg (by decide), b_0, q_0]
        | true =>
          rw [if_pos rfl]
          refine fin_eq f2 (fun y hy x hx => ?_) (fun y hy x hx q => by rw [b_and, Bool.and_eq_true] at q; exact q.2) F32 (hPl.1 hb) hfin y hy x hx
          show bt (flO σ.T (nI l) (nI (1000 + n0)) 120 y &&& flR σ.T (nI l) (nI (1000 + n0)) σ.g 120 y) x = lq (flS _ _ _ (24 * l) 24 (24 * l + y)) x
          rw [flS, if_pos (by omega), b_and, q_and, f1 y hy x hx, f2 y hy x hx]
      -- a point's cell is copper, on every layer
      have ptO : ∀ t, 20 ≤ t → t < 80 → moPdP ρ.I (nI n0) t = true → ∀ l, l < σ.nl → bt (O l (yq ρ t)) (xq ρ t) = true := fun t ht ht2 hp l hl => by
        obtain ⟨hm, -, -, -, -, hX, hY, -, -, eX, -, e7, w1, h1, hc⟩ := pt_xy hI h ht ht2 hp
        obtain ⟨ρx, Gx, eI, hfin, hrow⟩ := hL l hl
        have ey : yq ρx t = yq ρ t := by rw [yq, yq, eI]
        have eh : hq ρx t = 1 := by rw [hq, eI]; exact h1
        have := ll_own (ρ := ρx) (ne := nI n0) (la := l) (g := g0) (t := t) (r := yq ρ t) (x := xq ρ t) ht (by rw [eI]; exact hc) (by rw [moOn, kind_eq t (by omega)]; rcases slK_r t (by omega) with z | z | z | z <;> first | omega | (rw [z.2.2.1]; rfl)) (by rw [eI]; exact e7) (by omega) (by omega) (by rw [eI, eX, w1]; show lq (moSpan (nI (xq ρ t)) (nI 1)) _ = true; rw [lq_sp (by omega) (by omega)]; exact decide_eq_true (by omega)) 120 (by omega)
        rw [eO l hl _ hY _ hX, hrow _ hY, q_or, this, Bool.true_or]
      have jO : jCl σ.nl σ.T (nI (1000 + n0)) O 140 := fun t ht ht2 hp _ l hl => by
        by_cases h80 : t < 80
        · rw [pt_eq hI h hn0 ht h80] at hp
          obtain ⟨-, -, -, -, -, -, -, ex, ey, -⟩ := pt_xy hI h ht h80 hp
          rw [ex, ey]; exact ptO t ht h80 hp l hl
        · rw [pt_no hI (by omega) ht2] at hp; cases hp
      have main : ∀ n, n ≤ 60 → ∀ R c G cm, islR σ.nl σ.T (nI (1000 + n0)) O n R c → islM ρ (nI n0) σ.nl f n G cm → isI σ (nI (1000 + n0)) O R G ∧ c = cm := by
        intro n
        induction n with
        | zero =>
          intro _ R c G cm hr hm
          obtain ⟨z1, z2⟩ := hr
          obtain ⟨m1, m2⟩ := hm
          have b0 : ∀ l, l < σ.nl → ∀ y, y < 24 → ∀ x, bt (R l y) x = false := fun l hl y hy x => by rw [z1 l hl y hy, b_0]
          have g0' : ∀ l, l < σ.nl → ∀ y, y < 24 → ∀ x, lq (G (24 * l + y)) x = false := fun l hl y hy x => by rw [m1 _ (by omega), q_0]
          refine ⟨⟨fun l hl y hy x hx => by rw [b0 l hl y hy, g0' l hl y hy], fun l hl y hy x hx q => (by rw [g0' l hl y hy] at q; cases q), fun l hl y hy x hx q => (by rw [b0 l hl y hy] at q; cases q), fun l hl => ?_, fun t ht ht2 hp hrc l hl => ?_⟩, by rw [z2, m2]⟩
          · refine (rClo_nb (fun y hy x hx q => by rw [b0 l hl y hy] at q; cases q)).mpr (fun y hy x hx _ q => ?_)
            exfalso
            rcases q with q | ⟨q1, q⟩ | ⟨q1, q⟩ | ⟨q1, q⟩ | ⟨q1, q⟩
            · have q' : bt (R l y) x = true := q; rw [b0 l hl y hy] at q'; cases q'
            · have q' : bt (R l y) (x - 1) = true := q; rw [b0 l hl y hy] at q'; cases q'
            · have q' : bt (R l y) (x + 1) = true := q; rw [b0 l hl y hy] at q'; cases q'
            · have q' : bt (R l (y - 1)) x = true := q; rw [b0 l hl (y - 1) (by omega)] at q'; cases q'
            · have q' : bt (R l (y + 1)) x = true := q; rw [b0 l hl (y + 1) (by omega)] at q'; cases q'
          · rw [rcP] at hrc
            obtain ⟨l', -, h2, h3⟩ := (anyF_iff _ _).mp hrc
            by_cases h80 : t < 80
            · rw [pt_eq hI h hn0 ht h80] at hp
              obtain ⟨-, -, -, -, -, -, hY, -, ey, -⟩ := pt_xy hI h ht h80 hp
              have h3' : bt (R l' (py σ.T t)) (px σ.T t) = true := h3
              rw [b0 l' (by omega) _ (by rw [ey]; exact hY)] at h3'; cases h3'
            · rw [pt_no hI (by omega) ht2] at hp; cases hp
        | succ n ih =>
          intro hn R c G cm hr hm
          obtain ⟨R0, c0, hr0, hr⟩ := hr
          obtain ⟨G0, cm0, hm0, hm⟩ := hm
          obtain ⟨I0, ec⟩ := ih (by omega) R0 c0 G0 cm0 hr0 hm0
          have ht : 20 ≤ 20 + n := by omega
          have ht2 : 20 + n < 80 := by omega
          have hpe := pt_eq hI h hn0 ht ht2
          generalize 20 + n = t at *
          by_cases hp : moPdP ρ.I (nI n0) t = true
          · obtain ⟨hmade, r6, r7, r8, r9, hX, hY, ex, ey, eX, k3, -⟩ := pt_xy hI h ht ht2 hp
            rw [hp] at hpe
            -- reached: on some layer, on layer 0
            have hrc : rcP σ.nl σ.T R0 t = moBit (G0 (yq ρ t)) (ρ.I 2 t) := by
              rw [eX, bit_of hX, Bool.eq_iff_iff]
              have e0 := I0.eq 0 (by omega) _ hY _ hX
              rw [Nat.mul_zero, Nat.zero_add] at e0
              constructor
              · intro q
                have := I0.clo.2 t ht (by omega) hpe q 0 (by omega)
                rw [ex, ey] at this; rw [← e0]; exact this
              · intro q
                rw [rcP]
                refine (anyF_iff _ _).mpr ⟨0, Nat.le_refl _, by omega, ?_⟩
                show bt (R0 0 (py σ.T t)) (px σ.T t) = true
                rw [ex, ey, e0]; exact q
            rw [hrc] at hr
            rcases hr with ⟨-, a2, a3, a4⟩ | ⟨a1, a2, a3⟩
            · rcases hm with ⟨-, b2, b3, b4⟩ | ⟨b1, -, -⟩
              · refine ⟨?_, by rw [a3, b3, ec]⟩
                obtain ⟨A1, A2, A3⟩ := a4
                obtain ⟨B1, B2, B3, B4, B5⟩ := b4
                -- the seeds
                have sF : ∀ l, l < σ.nl → ∀ y, y < 24 → ∀ x, x < 32 → bt (layF σ.T t R0 l y) x = (bt (R0 l y) x || (decide (y = yq ρ t) && decide (x = xq ρ t))) := fun l hl y hy x hx => by
                  have hlo : th_liesOn (σ.T t 0) (σ.T t 2) (nI l) = true := by rw [th_liesOn, k3]; rfl
                  rw [layF, hlo, if_pos rfl, bt_add, r6, r7, r8, r9, bits1 _ hX x hx]
                  congr 2
                  exact bo_eq (by rw [nI_leI (by omega) (by omega), nI_leI (by omega) (by omega)]; omega)
                have sG : ∀ l, l < σ.nl → ∀ y, y < 24 → ∀ x, x < 64 → lq (vp_updL G0 (yq ρ t) (G0 (yq ρ t) ||| (1 <<< ((ρ.I 2 t).toInt64 &&& 63))) (24 * l + y)) x = (lq (G0 (24 * l + y)) x || (decide (l = 0 ∧ y = yq ρ t) && decide (x = xq ρ t))) := fun l hl y hy x hx => by
                  by_cases hz : l = 0 ∧ y = yq ρ t
                  · rw [hz.1, hz.2, Nat.mul_zero, Nat.zero_add, uL_s, eX, q_sh1 hX hx, decide_eq_true (show 0 = 0 ∧ yq ρ t = yq ρ t from ⟨rfl, rfl⟩), Bool.true_and]
                  · rw [uL_n (by omega), decide_eq_false hz, Bool.false_and, Bool.or_false]
                have FO : mSub σ.nl (layF σ.T t R0) O := fun l hl y hy x hx q => by
                  rw [sF l hl y hy x hx, Bool.or_eq_true, Bool.and_eq_true, decide_eq_true_eq, decide_eq_true_eq] at q
                  rcases q with q | ⟨q1, q2⟩
                  · exact I0.sub l hl y hy x hx q
                  · rw [q1, q2]; exact ptO t ht ht2 hp l hl
                have RO : mSub σ.nl R O := A2 O ⟨fun l hl => rClo_rf (O l), jO⟩ FO
                have G32 : ∀ l, l < σ.nl → l32 G l := fun l hl y hy x hx q => f32 l hl y hy x hx (B1 l hl y hy x hx q)
                -- the model's is closed in the class's way
                have s1 : mSub σ.nl R (fun l => to32 G l) := by
                  refine A2 _ ⟨fun l hl => ?_, fun u hu hu2 hup hurc l hl => ?_⟩ (fun l hl y hy x hx q => ?_)
                  · refine (rClo_nb (fun y hy x hx q => ?_)).mpr ?_
                    · rw [to32_b hx] at q; rw [eO l hl y hy x hx]; exact B1 l hl y hy x (by omega) q
                    · exact nb_congr (fun y hy x hx => eO l hl y hy x hx) (fun y hy x hx => to32_b hx) ((lCl_nb (f32 l hl) (G32 l hl)).mp (B4 l hl))
                  · by_cases h80 : u < 80
                    · rw [pt_eq hI h hn0 hu h80] at hup
                      obtain ⟨-, -, -, -, -, uX, uY, uex, uey, -⟩ := pt_xy hI h hu h80 hup
                      rw [rcP] at hurc
                      obtain ⟨l', -, h2, h3⟩ := (anyF_iff _ _).mp hurc
                      have h3' : bt (to32 G l' (py σ.T u)) (px σ.T u) = true := h3
                      rw [uex, uey, to32_b uX] at h3'
                      rw [uex, uey, to32_b uX]; exact B5 u hu h80 hup l' (by omega) h3' l hl
                    · rw [pt_no hI (by omega) hu2] at hup; cases hup
                  · rw [to32_b hx]
                    rw [sF l hl y hy x hx, Bool.or_eq_true, Bool.and_eq_true, decide_eq_true_eq, decide_eq_true_eq] at q
                    rcases q with q | ⟨q1, q2⟩
                    · refine B2 l hl y hy x (by omega) ?_
                      rw [sG l hl y hy x (by omega), ← I0.eq l hl y hy x hx, q, Bool.true_or]
                    · rw [q1, q2]
                      refine B5 t ht ht2 hp 0 (by omega) ?_ l hl
                      refine B2 0 (by omega) _ hY _ (by omega) ?_
                      rw [sG 0 (by omega) _ hY _ (by omega), decide_eq_true (show 0 = 0 ∧ yq ρ t = yq ρ t from ⟨rfl, rfl⟩), decide_eq_true rfl, Bool.and_self, Bool.or_true]
                -- and the class's in the model's
                have s2 : LSub σ.nl G (to64 R) := by
                  refine B3 _ (fun l hl => ?_) (fun u hu hu2 hup l' hl' q l hl => ?_) (fun l hl y hy x hx q => ?_)
                  · refine (lCl_nb (f32 l hl) to64_32).mpr ?_
                    exact nb_congr (fun y hy x hx => (eO l hl y hy x hx).symm) (fun y hy x hx => to64_b hy (by omega)) ((rClo_nb (RO l hl)).mp (A3.1 l hl))
                  · obtain ⟨-, -, -, -, -, uX, uY, uex, uey, -⟩ := pt_xy hI h hu hu2 hup
                    rw [to64_b uY (by omega)] at q ⊢
                    have := A3.2 u hu (by omega) (by rw [pt_eq hI h hn0 hu hu2]; exact hup) (by
                      rw [rcP]
                      refine (anyF_iff _ _).mpr ⟨l', Nat.zero_le _, by omega, ?_⟩
                      show bt (R l' (py σ.T u)) (px σ.T u) = true
                      rw [uex, uey]; exact q) l hl
                    rw [uex, uey] at this; exact this
                  · have h32 := G32 l hl y hy x hx (B2 l hl y hy x hx q)
                    rw [to64_b hy hx]
                    refine A1 l hl y hy x h32 ?_
                    rw [sG l hl y hy x hx, Bool.or_eq_true, Bool.and_eq_true, decide_eq_true_eq, decide_eq_true_eq] at q
                    rw [sF l hl y hy x h32, I0.eq l hl y hy x h32]
                    rcases q with q | ⟨q1, q2⟩
                    · rw [q, Bool.true_or]
                    · rw [decide_eq_true q1.2, decide_eq_true q2, Bool.and_self, Bool.or_true]
                refine ⟨fun l hl y hy x hx => ?_, G32, RO, A3⟩
                rw [Bool.eq_iff_iff]
                constructor
                · intro q; have := s1 l hl y hy x hx q; rw [to32_b hx] at this; exact this
                · intro q; have := s2 l hl y hy x (by omega) q; rw [to64_b hy (by omega)] at this; exact this
              · exfalso
                rcases b1 with z | z
                · rw [hp] at z; cases z
                · rw [a2] at z; cases z
            · rcases hm with ⟨-, b2, -, -⟩ | ⟨-, b2, b3⟩
              · exfalso
                rcases a1 with z | z
                · rw [hpe] at z; cases z
                · rw [b2] at z; cases z
              · rw [a3, b3]; exact ⟨I0, by rw [a2, b2, ec]⟩
          · have hpf : moPdP ρ.I (nI n0) t = false := by simpa using hp
            rw [hpf] at hpe
            rcases hr with ⟨a1, -⟩ | ⟨-, a2, a3⟩
            · rw [hpe] at a1; cases a1
            · rcases hm with ⟨b1, -⟩ | ⟨-, b2, b3⟩
              · rw [hpf] at b1; cases b1
              · rw [a3, b3]; exact ⟨I0, by rw [a2, b2, ec]⟩
      -- beyond the points nothing comes
      have tail : ∀ n, n ≤ 60 → ∀ R c, islR σ.nl σ.T (nI (1000 + n0)) O (60 + n) R c → islR σ.nl σ.T (nI (1000 + n0)) O 60 R c := by
        intro n
        induction n with
        | zero => intro _ R c q; exact q
        | succ n ih =>
          intro hn R c q
          rw [show 60 + (n + 1) = (60 + n) + 1 by omega, islR] at q
          obtain ⟨R0, c0, q0, q1⟩ := q
          rcases q1 with ⟨a1, -⟩ | ⟨-, a2, a3⟩
          · rw [pt_no hI (by omega) (by omega)] at a1; cases a1
          · rw [a2, a3]; exact ih (by omega) R0 c0 q0
      obtain ⟨-, ecc⟩ := main 60 (Nat.le_refl _) R c G cm (tail 60 (Nat.le_refl _) R c hIs) hIm
      rw [es, eρ, ev, ea, er, ecc]
      exact ⟨h.say rfl rfl rfl rfl rfl rfl rfl rfl rfl rfl rfl rfl h.rs, rfl, fun _ => rfl⟩
