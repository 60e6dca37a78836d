theorem hand_t {σ : HS} (hI : hsI σ) {d : Nat} (hd : d < 150) (hm : slM σ d = true) : 1000 * σ.T d 0 + σ.T d 1 = nI (1000 * slK d + slN d) := by
  rw [(hI.2.1 d hd hm).1, (hI.2.1 d hd hm).2, show (1000 : Int32) = nI 1000 from rfl, nI_mulN, nI_add]
theorem go_eq {σ : HS} {ρ : MS} (hI : hsI σ) (h : JR σ ρ) {d n : Nat} (hd : d < 150) (hm : slM σ d = true) (hth : ¬ σ.T d 5 = 0) (hn : n < 150) : goP σ.T (some d) (1000 * σ.T d 0 + σ.T d 1) n = (decide (nI n = nI d) || (!decide (20 ≤ nI d) && moOf ρ.I n (nI d))) := by
  have hg := g2 hI
  rw [hand_t hI hd hm, goP, moOf]
  by_cases hnd : n = d
  · subst hnd
    rw [decide_eq_true rfl, decide_eq_true rfl, decide_eq_false hth]; rfl
  · rw [decide_eq_false (show ¬ some d = some n from fun q => hnd (Option.some.inj q).symm), decide_eq_false (show ¬ nI n = nI d by rw [nI_eq (by omega) (by omega)]; exact hnd), Bool.false_or, Bool.false_or]
    cases hmn : slM σ n with
    | false => rw [hI.2.2.2.2.1 n hn hmn, h.un n hn hmn]; simp
    | true =>
      obtain ⟨e5, -, -, -, -, an, -⟩ := h.th n hn hmn
      rw [e5]
      have e20 : decide ((20 : Int32) ≤ nI d) = decide (20 ≤ d) := bo_eq (by rw [show (20 : Int32) = nI 20 from rfl, nI_leI (by omega) (by omega)])
      have f20 : decide ((20 : Int32) ≤ nI n) = decide (20 ≤ n) := bo_eq (by rw [show (20 : Int32) = nI 20 from rfl, nI_leI (by omega) (by omega)])
      have f80 : decide ((80 : Int32) ≤ nI n) = decide (80 ≤ n) := bo_eq (by rw [show (80 : Int32) = nI 80 from rfl, nI_leI (by omega) (by omega)])
      rw [e20, f20, f80]
      have key : decide (σ.T n 4 = nI (1000 * slK d + slN d)) = (!decide (20 ≤ d) && decide (20 ≤ n) && !decide (80 ≤ n) && decide (ρ.I 8 n = nI d)) := by
        rw [Bool.eq_iff_iff]
        simp only [Bool.and_eq_true, decide_eq_true_eq, Bool.not_eq_true', decide_eq_false_iff_not]
        have k1 : slK d ≤ 5 := by rcases slK_r d hd with z | z | z | z <;> omega
        have k2 : slN d ≤ 150 := by rcases slK_r d hd with z | z | z | z <;> omega
        rcases an with ⟨a1, a2⟩ | ⟨a1, a2, q, hq, a3, a4⟩
        · rw [a1, a2]
          constructor
          · intro z; rw [tE, tn (by omega), tm1] at z; omega
          · rintro ⟨-, z⟩; rw [tE, tn (by omega), tm1] at z; omega
        · rw [a3, a4, nI_eq (by omega) (by omega)]
          rcases slK_r d hd with z | z | z | z
          · rw [z.2.1, z.2.2, nI_eq (by omega) (by omega)]; omega
          · rw [z.2.2.1, nI_eq (by omega) (by omega)]; omega
          · rw [z.2.2.1, nI_eq (by omega) (by omega)]; omega
          · rw [z.2.1, nI_eq (by omega) (by omega)]; omega
      rw [key]
      cases decide (ρ.I 1 n = 0) <;> cases decide (20 ≤ d) <;> cases decide (20 ≤ n) <;> cases decide (80 ≤ n) <;> simp
def Cn (go : Nat → Bool) (n : Nat) : Nat → Bool := fun i => decide (i < n) && go i
theorem Cn_0 (go : Nat → Bool) : Cn go 0 = fun _ => false := by funext i; simp [Cn]
theorem Cn_s {go : Nat → Bool} {n : Nat} (h : go n = true) : Cn go (n + 1) = fun i => Cn go n i || decide (i = n) := by
  funext i; rw [Cn, Cn, Bool.eq_iff_iff]
  simp only [Bool.and_eq_true, Bool.or_eq_true, decide_eq_true_eq]
  constructor
  · rintro ⟨a, b⟩
    by_cases e : i = n
    · exact Or.inr e
    · exact Or.inl ⟨by omega, b⟩
  · rintro (⟨a, b⟩ | e)
    · exact ⟨by omega, b⟩
    · rw [e]; exact ⟨by omega, h⟩
theorem Cn_f {go : Nat → Bool} {n : Nat} (h : go n = false) : Cn go (n + 1) = Cn go n := by
  funext i; rw [Cn, Cn, Bool.eq_iff_iff]
  simp only [Bool.and_eq_true, decide_eq_true_eq]
  constructor
  · rintro ⟨a, b⟩
    refine ⟨?_, b⟩
    by_cases e : i = n
    · rw [e, h] at b; cases b
    · omega
  · rintro ⟨a, b⟩; exact ⟨by omega, b⟩
theorem Cn_n {go : Nat → Bool} {n : Nat} : Cn go n n = false := by simp [Cn]
/-- the pads of a part that is there lie in it: what belongs to slot d, when it is there -/
theorem go_in {σ : HS} {ρ : MS} (hI : hsI σ) (h : JR σ ρ) {d : Nat} (hd : d < 150) (hm : slM σ d = true) (hth : ¬ σ.T d 5 = 0) {i : Nat} (hi : i < 150) (hgo : goP σ.T (some d) (1000 * σ.T d 0 + σ.T d 1) i = true) :
    slM σ i = true ∧ ¬ ρ.I 1 i = 0 ∧ (i = d ∨ (d < 20 ∧ 20 ≤ i ∧ i < 80 ∧ ρ.I 8 i = nI d ∧ ρ.I 4 i = 1 ∧ ρ.I 5 i = 1 ∧ (ρ.I 2 d).toInt ≤ (ρ.I 2 i).toInt ∧ (ρ.I 2 i).toInt < (ρ.I 2 d).toInt + (ρ.I 4 d).toInt ∧ (ρ.I 3 d).toInt ≤ (ρ.I 3 i).toInt ∧ (ρ.I 3 i).toInt < (ρ.I 3 d).toInt + (ρ.I 5 d).toInt)) := by
  have h5 : ¬ σ.T i 5 = 0 := by
    rw [goP, Bool.and_eq_true] at hgo; simpa using hgo.1
  have hmi : slM σ i = true := by
    cases q : slM σ i with
    | true => rfl
    | false => exact absurd (hI.2.2.2.2.1 i hi q) h5
  have ht := h.th i hi hmi
  have h1 : ¬ ρ.I 1 i = 0 := by rw [← ht.1]; exact h5
  refine ⟨hmi, h1, ?_⟩
  rw [go_eq hI h hd hm hth hi, Bool.or_eq_true, decide_eq_true_eq, nI_eq (by omega) (by omega)] at hgo
  rcases hgo with e | e
  · exact Or.inl e
  · simp only [moOf, Bool.and_eq_true, decide_eq_true_eq, Bool.not_eq_true', decide_eq_false_iff_not, show (20 : Int32) = nI 20 from rfl, show (80 : Int32) = nI 80 from rfl] at e
    rw [nI_leI (by omega) (by omega), nI_leI (by omega) (by omega), nI_leI (by omega) (by omega)] at e
    obtain ⟨a, ⟨⟨b, c⟩, -⟩, f⟩ := e
    have r := ht.2.2.2.2.2.2.1 b (by omega)
    exact Or.inr ⟨by omega, b, by omega, f, r.1, r.2.1, (h.i1 i d b (by omega) (by omega) f h1).2⟩
theorem J_drop : ok_drop JR := by
  intro σ ρ hI h hh r a σ' ans ρ' hR hM
  obtain ⟨ea, eρ⟩ := hM
  have tf : moTF (ρ.I 0) hh = if gvOk σ.G hh = true then (if (decide (2 ≤ hh / 1000) && decide (hh / 1000 ≤ 5)) = true then 0 else 2) else 1 := by rw [moTF, gv_g h]
  rw [moDrop] at ea eρ
  have kd : gvOk σ.G hh = true → (decide (2 ≤ hh / 1000) && decide (hh / 1000 ≤ 5)) = decide (2 ≤ hdK hh ∧ hdK hh ≤ 5) := fun c => by
    obtain ⟨e1, -, k1, k7, -⟩ := gv_of (σ := σ) hI.1 c
    rw [e1, Bool.eq_iff_iff]
    simp only [Bool.and_eq_true, decide_eq_true_eq, show (2 : Int32) = nI 2 from rfl, show (5 : Int32) = nI 5 from rfl]
    rw [nI_leI (by omega) (by omega), nI_leI (by omega) (by omega)]
  rcases hR with ⟨c1, er, es⟩ | ⟨c1, c2, er, es⟩ | ⟨c1, c2, c3, er, es⟩ | ⟨c1, c2, c3, er, es, ev⟩
  · rw [c1, if_neg (by decide)] at tf
    rw [tf, if_neg (by decide)] at eρ
    rw [es]; exact bad2 h eρ er (by decide)
  · rw [c1, if_pos rfl, kd c1, if_neg (by rw [decide_eq_true_eq]; exact c2)] at tf
    rw [tf, if_neg (by decide)] at eρ
    rw [es]; exact bad2 h eρ er (by decide)
  all_goals
    rw [c1, if_pos rfl, kd c1, if_pos (by rw [decide_eq_true_eq]; exact c2)] at tf
    rw [tf, if_pos rfl] at eρ ea
    obtain ⟨e1, e2, k1, k7, hlt⟩ := gv_of (σ := σ) hI.1 c1
    have hli : hdN hh < liN (hdK hh) := Nat.lt_of_lt_of_le hlt (gN_of hI.1 (K := hdK hh) (by omega) (by omega)).2
    obtain ⟨s1, s2, hd⟩ := sl_of c2.1 c2.2 hli
    have hm : slM σ (hdI hh) = true := by rw [hdI, slM, s1, s2]; exact decide_eq_true hlt
    have hd' : hdI hh < 150 := hd
    generalize hdI hh = d at *
    have ht := h.th d hd' hm
  · rw [if_pos (by rw [← ht.1]; exact c3)] at eρ
    rw [es]; exact bad2 h eρ er (by decide)
  · rw [if_neg (by rw [← ht.1]; exact c3)] at eρ ea
    obtain ⟨-, ⟨r6, r7, r8, r9⟩, -, hob, -⟩ := id ht
    obtain ⟨o1, o2, o3, o4, o5, o6⟩ := id hob
    have hu := bx_u o1 o2 o3 r8
    have hv := bx_u o4 o5 (by omega) r9
    rw [barr_eq hI h hob hu hv] at eρ ea
    have h0 : JR σ ((ρ.ws 0 0).ws 0 0) := h.thr2 0 0
    have s0 : ((ρ.ws 0 0).ws 0 0).s 0 = 0 := ms_ss
    have eI0 : ((ρ.ws 0 0).ws 0 0).I = ρ.I := rfl
    rw [drS, r6, r7] at es ev
    cases hb : barr σ (ρ.I 2 d) (ρ.I 3 d) (σ.T d 8) (σ.T d 9) with
    | true =>
      rw [if_pos hb] at es ev eρ ea
      rw [es, ev, eρ, ea, er]
      exact ⟨h0.tell 3, by rw [ms_sn (by decide)]; exact s0, fun _ => rfl⟩
    | false =>
      have hbn : ¬ barr σ (ρ.I 2 d) (ρ.I 3 d) (σ.T d 8) (σ.T d 9) = true := by rw [hb]; decide
      rw [if_neg hbn] at es ev eρ ea
      obtain ⟨n1, n2⟩ := barr_no hI h hob hu hv hb
      generalize (ρ.ws 0 0).ws 0 0 = ρ0 at *
      have hgo : ∀ i, i < 150 → goP σ.T (some d) (1000 * σ.T d 0 + σ.T d 1) i = true → _ := fun i hi q => go_in hI h hd' hm c3 hi q
      have ge : ∀ n, n < 150 → goP σ.T (some d) (1000 * σ.T d 0 + σ.T d 1) n = _ := fun n hn => go_eq hI h hd' hm c3 hn
      generalize hhn : 1000 * σ.T d 0 + σ.T d 1 = hn at *
      have L : ∀ n, n ≤ 150 → TC σ (lpS rmR (some d) hn (σ.wrs 0) n) ρ0 (moDrL (ρ0.ws 3 0) d n) (Cn (goP σ.T (some d) hn) n) ∧ (∀ i, Cn (goP σ.T (some d) hn) n i = true → (moDrL (ρ0.ws 3 0) d n).I 1 i = 0 ∧ (moDrL (ρ0.ws 3 0) d n).I 2 i = ρ0.I 2 i ∧ (moDrL (ρ0.ws 3 0) d n).I 3 i = ρ0.I 3 i) ∧ (moDrL (ρ0.ws 3 0) d n).s = (ρ0.ws 3 0).s := by
        intro n
        induction n with
        | zero =>
          intro _
          refine ⟨?_, fun i q => (by rw [Cn_0] at q; cases q), rfl⟩
          rw [Cn_0]
          exact TC.rf h0 rfl rfl rfl rfl rfl rfl rfl rfl rfl rfl rfl rfl rfl
        | succ n ih =>
          intro hn150
          obtain ⟨c, ih2, ihs⟩ := ih (by omega)
          obtain ⟨z1, z2, z3, zT⟩ := c.out n Cn_n
          have eg : goP (lpS rmR (some d) hn (σ.wrs 0) n).T (some d) hn n = goP σ.T (some d) hn n := by rw [goP, goP, zT]
          have em : moDrC (moDrL (ρ0.ws 3 0) d n) d n = goP σ.T (some d) hn n := by
            rw [ge n (by omega), moDrC, moOf, moOf, z1, c.Ik 8 (by omega), eI0]
          rw [lpS, moDrL, eg, em]
          cases hg : goP σ.T (some d) hn n with
          | false =>
            rw [if_neg (by decide), if_neg (by decide), Cn_f hg]; exact ⟨c, ih2, ihs⟩
          | true =>
            rw [if_pos rfl, if_pos rfl, Cn_s hg]
            obtain ⟨mn, tn1, -⟩ := hgo n (by omega) hg
            have htn := h0.th n (by omega) mn
            have b1 : ρ0.I 1 n = 1 := by
              rcases h0.b1 n with q | q
              · rw [eI0] at q; exact absurd q tn1
              · exact q
            generalize moDrL (ρ0.ws 3 0) d n = ρ1 at *
            generalize lpS rmR (some d) hn (σ.wrs 0) n = σ1 at *
            have k2 : (moNote ρ1 n 1).I 1 = ρ1.I 1 := moNote_k (by omega)
            have f1 : ∀ k, k ≠ 1 → ((moNote ρ1 n 1).wI 1 (upd ((moNote ρ1 n 1).I 1) n 0)).I k = (moNote ρ1 n 1).I k := fun k hk => ms_In hk
            have f2 : ((moNote ρ1 n 1).wI 1 (upd ((moNote ρ1 n 1).I 1) n 0)).I 1 = upd (ρ1.I 1) n 0 := by rw [ms_II, k2]
            have f3 : ((moNote ρ1 n 1).wI 1 (upd ((moNote ρ1 n 1).I 1) n 0)).s = ρ1.s := by rw [ms_Is, moNote_s]
            generalize (moNote ρ1 n 1).wI 1 (upd ((moNote ρ1 n 1).I 1) n 0) = ρ2 at *
            have g2' : ρ2.I 2 = ρ1.I 2 := by rw [f1 2 (by omega), moNote_k (by omega)]
            have g3' : ρ2.I 3 = ρ1.I 3 := by rw [f1 3 (by omega), moNote_k (by omega)]
            refine ⟨c.step (n := n) (was := 1) (R := rmR (σ1.T n)) hI h0 (by omega) mn Cn_n rfl b1.symm f3 (fun k hk _ _ => f1 k hk) (fun i hi => ⟨by rw [f2, up_n hi], by rw [g2'], by rw [g3']⟩) (Or.inl (by rw [f2, up_s])) ?_, fun i q => ?_, by rw [f3]; exact ihs⟩
            · rw [f2, up_s, g2', g3', z2, z3, zT]
              exact ⟨⟨rfl, rfl, rfl⟩, rfl, htn.2.1, htn.2.2.2.1⟩
            · rw [f2, g2', g3']
              by_cases hin : i = n
              · rw [hin, up_s, z2, z3]; exact ⟨rfl, rfl, rfl⟩
              · rw [up_n hin]; exact ih2 i (by rw [Bool.or_eq_true, decide_eq_true_eq] at q; exact q.resolve_right hin)
      obtain ⟨c, lv, lsv⟩ := L 150 (Nat.le_refl _)
      clear L
      generalize moDrL (ρ0.ws 3 0) d 150 = ρ1 at *
      generalize lpS rmR (some d) hn (σ.wrs 0) 150 = σ1 at *
      rw [es, ev, eρ, ea, er]
      refine ⟨?_, by show ρ1.s 0 = 0; rw [lsv, ms_sn (by decide)]; exact s0, fun _ => rfl⟩
      show JR σ1 ρ1
      have hCn : ∀ {i}, Cn (goP σ.T (some d) hn) 150 i = true → i < 150 ∧ goP σ.T (some d) hn i = true := fun {i} q => by rw [Cn, Bool.and_eq_true, decide_eq_true_eq] at q; exact q
      refine h0.touch hI c ?_ (fun j hw i q => ?_) (fun k hk ho hw i q => ?_) (fun i q z => ?_)
      · intro p q h1 h2' h3 h4 h5
        cases hC : Cn (goP σ.T (some d) hn) 150 p with
        | true => exact absurd (lv p hC).1 h5
        | false =>
          obtain ⟨z1, z2, z3, -⟩ := c.out p hC
          rw [z1] at h5
          have old := h0.i1 p q h1 h2' h3 h4 h5
          cases hCq : Cn (goP σ.T (some d) hn) 150 q with
          | false => obtain ⟨y1, y2, y3, -⟩ := c.out q hCq; rw [y1, y2, y3, z2, z3]; exact old
          | true =>
            exfalso
            obtain ⟨-, -, w⟩ := hgo q (by omega) (hCn hCq).2
            rcases w with w | w
            · have : goP σ.T (some d) hn p = true := by
                rw [ge p (by omega), ← w]
                have e1' : ¬ (20 : Int32) ≤ nI q := by rw [show (20 : Int32) = nI 20 from rfl, nI_leI (by omega) (by omega)]; omega
                have e2' : (20 : Int32) ≤ nI p := by rw [show (20 : Int32) = nI 20 from rfl, nI_leI (by omega) (by omega)]; omega
                have e3' : ¬ (80 : Int32) ≤ nI p := by rw [show (80 : Int32) = nI 80 from rfl, nI_leI (by omega) (by omega)]; omega
                rw [eI0] at h4 h5
                simp [moOf, e1', e2', e3', h4, h5]
              rw [Cn, this, decide_eq_true (show p < 150 by omega)] at hC; cases hC
            · omega
      · refine ⟨fun _ => ?_, fun z => absurd (lv i q).1 z⟩
        obtain ⟨hi, hq⟩ := hCn q
        obtain ⟨-, -, w⟩ := hgo i hi hq
        have A := n1 j hw
        rw [eI0]
        rcases w with w | ⟨-, -, -, -, w4, w5, w⟩
        · rw [w]; exact A
        · unfold iR at *; rw [w4, w5, t1]; omega
      · refine ⟨fun _ => ?_, fun z => absurd (lv i q).1 z⟩
        obtain ⟨hi, hq⟩ := hCn q
        obtain ⟨-, -, w⟩ := hgo i hi hq
        have A := n2 k hk (by rw [← eI0]; exact ho) hw
        rw [eI0]
        rcases w with w | ⟨-, -, -, -, w4, w5, w⟩
        · rw [w]; exact A
        · unfold apB at *; rw [w4, w5, t1]; omega
      · obtain ⟨hi, hq⟩ := hCn q
        obtain ⟨-, w, -⟩ := hgo i hi hq
        rw [eI0] at z; exact absurd z w
/-- what belongs to a part: the clashes behind a move -/
theorem clA_eq {σ : HS} {ρ : MS} (hI : hsI σ) (h : JR σ ρ) {d : Nat} {dx dy : Int32} (hd : d < 20) (hm : slM σ d = true) (hth : ¬ σ.T d 5 = 0) (hdx : -40 ≤ dx.toInt ∧ dx.toInt ≤ 40) (hdy : -40 ≤ dy.toInt ∧ dy.toInt ≤ 40) :
    anyF (clA σ.T (some d) (1000 * σ.T d 0 + σ.T d 1) σ.g dx dy) 20 120 = anyF (moMvP ρ d dx dy) 20 60 := by
  have hg := g2 hI
  have e20 : ¬ (20 : Int32) ≤ nI d := by rw [show (20 : Int32) = nI 20 from rfl, nI_leI (by omega) (by omega)]; omega
  have go : ∀ n, 20 ≤ n → n < 140 → (!decide (σ.T n 5 = 0) && (decide (some d = some n) || decide (σ.T n 4 = 1000 * σ.T d 0 + σ.T d 1))) = moOf ρ.I n (nI d) := fun n hn hn2 => by
    have := go_eq hI h (by omega) hm hth (n := n) (by omega)
    rw [goP] at this
    rw [this, decide_eq_false (show ¬ nI n = nI d by rw [nI_eq (by omega) (by omega)]; omega), decide_eq_false e20, Bool.false_or]; rfl
  have inn : ∀ t, 20 ≤ t → t < 140 → moOf ρ.I t (nI d) = true → anyF (clP σ.T (some d) (1000 * σ.T d 0 + σ.T d 1) (σ.T t) σ.g dx dy) 20 120 = anyF (moCwP ρ t dx dy (nI d)) 20 120 := fun t ht ht2 hot => by
    refine anyF_congr 120 20 (fun u hu hu2 => ?_)
    have hmt : slM σ t = true := by
      cases q : slM σ t with
      | true => rfl
      | false => rw [moOf, h.un t (by omega) q] at hot; simp at hot
    have gu := go u hu (by omega)
    have gt := go t ht (by omega)
    rw [hot] at gt
    cases hmu : slM σ u with
    | false => rw [clP, hI.2.2.2.2.1 u (by omega) hmu, moCwP, cop_un h (by omega) hmu]; simp
    | true =>
      rw [clP, moCwP, cop_eq h hu (by omega) hmu, ← cl_row ht ht2 hu (by omega) (crow_of hI h (by omega) hmt) (crow_of hI h (by omega) hmu) h.gp.1 (gp_r h).1 (gp_r h).2 hdx hdy, decide_eq_false (show ¬ nI d = -1 by rw [tE, tn (by omega), tm1]; omega), Bool.false_or]
      by_cases h5 : σ.T u 5 = 0
      · rw [decide_eq_true h5]; simp
      · rw [decide_eq_false h5] at gu ⊢
        have e1 := (h.th u (by omega) hmu).1
        have g' : (decide (some d = some u) || decide (σ.T u 4 = 1000 * σ.T d 0 + σ.T d 1)) = moOf ρ.I u (nI d) := by rw [← gu]; rfl
        rw [g']
        by_cases hut : u = t
        · rw [hut, hot, decide_eq_true rfl]; simp
        · have : moOf ρ.I u (nI d) = decide (ρ.I 8 u = nI d) := by
            rw [Bool.eq_iff_iff, moOf]
            simp only [Bool.and_eq_true, decide_eq_true_eq, Bool.not_eq_true', decide_eq_false_iff_not]
            refine ⟨fun q => q.2, fun q => ⟨⟨⟨?_, ?_⟩, by rw [← e1]; exact h5⟩, q⟩⟩
            · rw [show (20 : Int32) = nI 20 from rfl, nI_leI (by omega) (by omega)]; exact hu
            · rw [show (80 : Int32) = nI 80 from rfl, nI_leI (by omega) (by omega)]
              obtain ⟨-, -, -, -, -, an, -⟩ := h.th u (by omega) hmu
              rcases an with ⟨-, z⟩ | ⟨-, z, -⟩
              · rw [z, tE, tn (by omega), tm1] at q; omega
              · omega
          rw [this, decide_eq_false (show ¬ nI u = nI t by rw [nI_eq (by omega) (by omega)]; exact hut)]
          simp
  refine any_rg (fun j h1 h2 q => ?_) (fun j h1 h2 q => ?_)
  · rw [clA, Bool.and_eq_true, go j h1 (by omega)] at q
    have h80 : j < 80 := by
      have := q.1
      simp only [moOf, Bool.and_eq_true, decide_eq_true_eq, Bool.not_eq_true', decide_eq_false_iff_not, show (80 : Int32) = nI 80 from rfl] at this
      rw [nI_leI (by omega) (by omega)] at this; omega
    refine ⟨h1, by omega, ?_⟩
    rw [moMvP, q.1, ← inn j h1 (by omega) q.1, q.2]; rfl
  · rw [moMvP, Bool.and_eq_true] at q
    refine ⟨h1, by omega, ?_⟩
    rw [clA, go j h1 (by omega), q.1, inn j h1 (by omega) q.1, q.2]; rfl
theorem mvW_eq {σ : HS} {ρ : MS} (hI : hsI σ) (h : JR σ ρ) {d : Nat} {x y : Int32} (hd : d < 20) (hm : slM σ d = true) (hth : ¬ σ.T d 5 = 0) :
    whyMv σ d x y (x + (σ.T d 8 - σ.T d 6)) (y + (σ.T d 9 - σ.T d 7)) = moMvW ρ (mN ρ 2) (mN ρ 6) d x y ∧ (moMvW ρ (mN ρ 2) (mN ρ 6) d x y = 0 → oB x y (ρ.I 4 d) (ρ.I 5 d) ∧ barr σ (ρ.I 2 d) (ρ.I 3 d) (σ.T d 8) (σ.T d 9) = false ∧ (∃ u v, u.toInt = x.toInt + (ρ.I 4 d).toInt - 1 ∧ v.toInt = y.toInt + (ρ.I 5 d).toInt - 1 ∧ barr σ x y u v = false)) := by
  have hg := g2 hI
  obtain ⟨e5, ⟨r6, r7, r8, r9⟩, r2, hob, -⟩ := h.th d (by omega) hm
  obtain ⟨o1, o2, o3, o4, o5, o6⟩ := id hob
  have hu := bx_u o1 o2 o3 r8
  have hv := bx_u o4 o5 (by omega) r9
  have eu : σ.T d 8 - σ.T d 6 = ρ.I 4 d - 1 := by
    rw [tE, tS (by rw [hu, r6]; omega) (by rw [hu, r6]; omega), hu, r6, tS (by rw [t1]; omega) (by rw [t1]; omega), t1]; omega
  have ev : σ.T d 9 - σ.T d 7 = ρ.I 5 d - 1 := by
    rw [tE, tS (by rw [hv, r7]; omega) (by rw [hv, r7]; omega), hv, r7, tS (by rw [t1]; omega) (by rw [t1]; omega), t1]; omega
  have hbox := box_eq (x := x) (y := y) (w := ρ.I 4 d) (ht := ρ.I 5 d) o2 (by omega) o5 (by omega)
  have tf : ¬ (true = false) := by decide
  have ft : ¬ (false = true) := by decide
  rw [eu, ev, whyMv, moMvW, ← hbox]
  cases hb : moBox x y (ρ.I 4 d) (ρ.I 5 d) with
  | false => simp only [if_pos]; exact ⟨trivial, fun q => absurd q (by decide)⟩
  | true =>
    simp only [if_neg tf]
    have hob2 := box_oB o2 (by omega) o5 (by omega) hb
    have bu := bx_u hob2.1 hob2.2.1 hob2.2.2.1 (box_u hob2.1 hob2.2.1 hob2.2.2.1)
    have bv := bx_u hob2.2.2.2.1 hob2.2.2.2.2.1 (by have := hob2.2.2.2.2.2; omega) (box_u hob2.2.2.2.1 hob2.2.2.2.2.1 (by have := hob2.2.2.2.2.2; omega))
    rw [barr_eq hI h hob hu hv, barr_eq hI h hob2 bu bv, r6, r7]
    cases hb1 : barr σ (ρ.I 2 d) (ρ.I 3 d) (σ.T d 8) (σ.T d 9) with
    | true => simp only [Bool.true_or, if_pos]; exact ⟨trivial, fun q => absurd q (by decide)⟩
    | false =>
      simp only [Bool.false_or, if_neg ft]
      cases hb2 : barr σ x y (x + (ρ.I 4 d - 1)) (y + (ρ.I 5 d - 1)) with
      | true => simp only [if_pos]; exact ⟨trivial, fun q => absurd q (by decide)⟩
      | false =>
        simp only [if_neg ft]
        have k2 : σ.T d 0 = 2 := by
          rw [(hI.2.1 d (by omega) hm).1]
          rcases slK_r d (by omega) with z | z | z | z
          · rw [z.2.1]; rfl
          all_goals omega
        have hov := ov_eq (ex := some d) (pa := nI d) (sd := ρ.I 6 d) hI h (fun j hj => bo_eq (by rw [nI_eq (by omega) (by omega)]; exact ⟨fun q => (Option.some.inj q).symm, fun q => by rw [q]⟩)) hob2 bu bv
        have hcl := clA_eq (dx := x - ρ.I 2 d) (dy := y - ρ.I 3 d) hI h hd hm hth (by rw [tS (by have := hob2.1; have := hob2.2.1; have := hob2.2.2.1; omega) (by have := hob2.1; have := hob2.2.1; have := hob2.2.2.1; omega)]; have := hob2.1; have := hob2.2.2.1; omega) (by have z := hob2.2.2.2; rw [tS (by omega) (by omega)]; omega)
        refine ⟨?_, fun _ => ⟨hob2, trivial, _, _, bu, bv, hb2⟩⟩
        rw [hcl, r2]
        rw [show ovP σ.T (some d) (σ.T d 0) = ovP σ.T (some d) 2 by rw [k2], hov]
theorem J_move : ok_move JR := by
  intro σ ρ hI h part x y r a σ' ans ρ' hR hM
  obtain ⟨ea, eρ⟩ := hM
  have fp := flt h part 2
  rw [moMove] at ea eρ
  rcases hR with ⟨c1, er, es⟩ | ⟨c1, c2, er, es⟩ | ⟨c1, c2, c3, er, es⟩ | ⟨c1, c2, c3, er, es, ev⟩
  · rw [c1, if_neg (by decide)] at fp
    rw [fp, if_neg (by decide)] at eρ
    rw [es]; exact bad2 h eρ er (by decide)
  · rw [c1, if_pos rfl, if_neg c2] at fp
    rw [fp, if_neg (by decide)] at eρ
    rw [es]; exact bad2 h eρ er (by decide)
  all_goals
    rw [c1, if_pos rfl, if_pos c2] at fp
    rw [fp, if_pos rfl] at eρ ea
    obtain ⟨-, -, p3, p4⟩ := hd_of hI c1 (K := 2) (by omega) (by omega) c2
    have hg := g2 hI
    have hd : hdN part < 20 := by omega
    have hm : slM σ (hdN part) = true := by rw [slM_p hd]; exact decide_eq_true p3
    have eI : hdI part = hdN part := by rw [hdI, p4]; exact Nat.zero_add _
    rw [eI] at c3
  · generalize hdN part = d at *
    have ht := h.th d (by omega) hm
    rw [if_pos (by rw [← ht.1]; exact c3)] at eρ
    rw [es]; exact bad2 h eρ er (by decide)
  · rw [eI] at es ev
    generalize hdN part = d at *
    have ht := h.th d (by omega) hm
    rw [if_neg (by rw [← ht.1]; exact c3)] at eρ ea
    obtain ⟨ew, hw0⟩ := mvW_eq (x := x) (y := y) hI h hd hm c3
    obtain ⟨-, ⟨r6, r7, r8, r9⟩, -, hob, -⟩ := id ht
    obtain ⟨o1, o2, o3, o4, o5, o6⟩ := id hob
    have hu := bx_u o1 o2 o3 r8
    have hv := bx_u o4 o5 (by omega) r9
    have h0 : JR σ ((ρ.ws 0 0).ws 0 0) := h.thr2 0 0
    have s0 : ((ρ.ws 0 0).ws 0 0).s 0 = 0 := ms_ss
    have eI0 : ((ρ.ws 0 0).ws 0 0).I = ρ.I := rfl
    rw [mvS, ew] at es ev
    by_cases hW : moMvW ρ (mN ρ 2) (mN ρ 6) d x y = 0
    · rw [if_pos hW] at es ev eρ ea
      obtain ⟨nb, hb1, bu, bv, ebu, ebv, hb2⟩ := hw0 hW
      obtain ⟨m1, m2, m3, m4, m5, m6⟩ := id nb
      obtain ⟨n1, n2⟩ := barr_no hI h hob hu hv hb1
      obtain ⟨n3, n4⟩ := barr_no hI h nb ebu ebv hb2
      rw [r6, r7] at es ev
      generalize (ρ.ws 0 0).ws 0 0 = ρ0 at *
      have dxe : (x - ρ.I 2 d).toInt = x.toInt - (ρ.I 2 d).toInt := tS (by omega) (by omega)
      have dye : (y - ρ.I 3 d).toInt = y.toInt - (ρ.I 3 d).toInt := tS (by omega) (by omega)
      generalize hdx : x - ρ.I 2 d = dx at *
      generalize hdy : y - ρ.I 3 d = dy at *
      have hgo : ∀ i, i < 150 → goP σ.T (some d) (1000 * σ.T d 0 + σ.T d 1) i = true → _ := fun i hi q => go_in hI h (by omega) hm c3 hi q
      have ge : ∀ n, n < 150 → goP σ.T (some d) (1000 * σ.T d 0 + σ.T d 1) n = _ := fun n hn => go_eq hI h (by omega) hm c3 hn
      have e20 : decide ((20 : Int32) ≤ nI d) = false := decide_eq_false (by rw [show (20 : Int32) = nI 20 from rfl, nI_leI (by omega) (by omega)]; omega)
      generalize hhn : 1000 * σ.T d 0 + σ.T d 1 = hn at *
      -- the new place of what moves
      have hnew : ∀ i, i < 150 → goP σ.T (some d) hn i = true → (ρ.I 2 i + dx).toInt = (ρ.I 2 i).toInt + dx.toInt ∧ (ρ.I 3 i + dy).toInt = (ρ.I 3 i).toInt + dy.toInt ∧ oB (ρ.I 2 i + dx) (ρ.I 3 i + dy) (ρ.I 4 i) (ρ.I 5 i) := fun i hi q => by
        obtain ⟨mi, -, w⟩ := hgo i hi q
        have obi := (h.th i hi mi).2.2.2.1
        rcases w with w | ⟨-, -, -, -, w4, w5, w⟩
        · subst w
          have a1 : (ρ.I 2 i + dx).toInt = (ρ.I 2 i).toInt + dx.toInt := tA (by omega) (by omega)
          have a2 : (ρ.I 3 i + dy).toInt = (ρ.I 3 i).toInt + dy.toInt := tA (by omega) (by omega)
          refine ⟨a1, a2, ?_⟩
          unfold oB; rw [a1, a2]; omega
        · unfold oB at obi
          rw [w4, w5] at obi ⊢
          rw [t1] at obi
          have a1 : (ρ.I 2 i + dx).toInt = (ρ.I 2 i).toInt + dx.toInt := tA (by omega) (by omega)
          have a2 : (ρ.I 3 i + dy).toInt = (ρ.I 3 i).toInt + dy.toInt := tA (by omega) (by omega)
          refine ⟨a1, a2, ?_⟩
          unfold oB; rw [a1, a2, t1]; omega
      have L : ∀ n, n ≤ 150 → TC σ (lpS (shR dx dy) (some d) hn (σ.wrs 0) n) ρ0 (moMvL (ρ0.ws 3 0) d dx dy (min n 80)) (Cn (goP σ.T (some d) hn) n) ∧ (∀ i, Cn (goP σ.T (some d) hn) n i = true → (moMvL (ρ0.ws 3 0) d dx dy (min n 80)).I 1 i = ρ0.I 1 i ∧ (moMvL (ρ0.ws 3 0) d dx dy (min n 80)).I 2 i = ρ0.I 2 i + dx ∧ (moMvL (ρ0.ws 3 0) d dx dy (min n 80)).I 3 i = ρ0.I 3 i + dy) ∧ (moMvL (ρ0.ws 3 0) d dx dy (min n 80)).s = (ρ0.ws 3 0).s := by
        intro n
        induction n with
        | zero =>
          intro _
          refine ⟨?_, fun i q => (by rw [Cn_0] at q; cases q), rfl⟩
          rw [Cn_0]
          exact TC.rf h0 rfl rfl rfl rfl rfl rfl rfl rfl rfl rfl rfl rfl rfl
        | succ n ih =>
          intro hn150
          obtain ⟨c, ih2, ihs⟩ := ih (by omega)
          obtain ⟨z1, z2, z3, zT⟩ := c.out n Cn_n
          have eg : goP (lpS (shR dx dy) (some d) hn (σ.wrs 0) n).T (some d) hn n = goP σ.T (some d) hn n := by rw [goP, goP, zT]
          by_cases h80 : n < 80
          · rw [show min n 80 = n by omega] at c ih2 ihs z1 z2 z3
            rw [show min (n + 1) 80 = n + 1 by omega]
            have em : moMvC (moMvL (ρ0.ws 3 0) d dx dy n) d n = goP σ.T (some d) hn n := by
              rw [ge n (by omega), moMvC, moOf, moOf, z1, c.Ik 8 (by omega), eI0, e20]; rfl
            rw [lpS, moMvL, eg, em]
            cases hg : goP σ.T (some d) hn n with
            | false =>
              rw [if_neg (by decide), if_neg (by decide), Cn_f hg]; exact ⟨c, ih2, ihs⟩
            | true =>
              rw [if_pos rfl, if_pos rfl, Cn_s hg]
              obtain ⟨mn, tn1, -⟩ := hgo n (by omega) hg
              obtain ⟨-, -, nob⟩ := hnew n (by omega) hg
              have htn := h0.th n (by omega) mn
              have b1 : ρ0.I 1 n = 1 := by
                rcases h0.b1 n with q | q
                · rw [eI0] at q; exact absurd q tn1
                · exact q
              generalize moMvL (ρ0.ws 3 0) d dx dy n = ρ1 at *
              generalize lpS (shR dx dy) (some d) hn (σ.wrs 0) n = σ1 at *
              have k2 : (moNote ρ1 n 1).I 2 = ρ1.I 2 := moNote_k (by omega)
              have k3 : (moNote ρ1 n 1).I 3 = ρ1.I 3 := moNote_k (by omega)
              have k1 : (moNote ρ1 n 1).I 1 = ρ1.I 1 := moNote_k (by omega)
              have f1 : ∀ k, k ≠ 2 → k ≠ 3 → (((moNote ρ1 n 1).wI 2 (upd ((moNote ρ1 n 1).I 2) n ((moNote ρ1 n 1).I 2 n + dx))).wI 3 (upd ((moNote ρ1 n 1).I 3) n ((moNote ρ1 n 1).I 3 n + dy))).I k = (moNote ρ1 n 1).I k := fun k hk hk3 => by rw [ms_In hk3, ms_In hk]
              have f2 : (((moNote ρ1 n 1).wI 2 (upd ((moNote ρ1 n 1).I 2) n ((moNote ρ1 n 1).I 2 n + dx))).wI 3 (upd ((moNote ρ1 n 1).I 3) n ((moNote ρ1 n 1).I 3 n + dy))).I 2 = upd (ρ1.I 2) n (ρ1.I 2 n + dx) := by rw [ms_In (by decide), ms_II, k2]
              have f4 : (((moNote ρ1 n 1).wI 2 (upd ((moNote ρ1 n 1).I 2) n ((moNote ρ1 n 1).I 2 n + dx))).wI 3 (upd ((moNote ρ1 n 1).I 3) n ((moNote ρ1 n 1).I 3 n + dy))).I 3 = upd (ρ1.I 3) n (ρ1.I 3 n + dy) := by rw [ms_II, k3]
              have f3 : (((moNote ρ1 n 1).wI 2 (upd ((moNote ρ1 n 1).I 2) n ((moNote ρ1 n 1).I 2 n + dx))).wI 3 (upd ((moNote ρ1 n 1).I 3) n ((moNote ρ1 n 1).I 3 n + dy))).s = ρ1.s := by rw [ms_Is, ms_Is, moNote_s]
              generalize ((moNote ρ1 n 1).wI 2 (upd ((moNote ρ1 n 1).I 2) n ((moNote ρ1 n 1).I 2 n + dx))).wI 3 (upd ((moNote ρ1 n 1).I 3) n ((moNote ρ1 n 1).I 3 n + dy)) = ρ2 at *
              have g1' : ρ2.I 1 = ρ1.I 1 := by rw [f1 1 (by omega) (by omega), k1]
              refine ⟨c.step (n := n) (was := 1) (R := shR dx dy (σ1.T n)) hI h0 (by omega) mn Cn_n rfl b1.symm f3 (fun k hk hk2 hk3 => f1 k hk2 hk3) (fun i hi => ⟨by rw [g1'], by rw [f2, up_n hi], by rw [f4, up_n hi]⟩) (Or.inr (by rw [g1', z1]; exact b1)) ?_, fun i q => ?_, by rw [f3]; exact ihs⟩
              · rw [g1', f2, f4, up_s, up_s, z1, z2, z3, zT]
                obtain ⟨q5, ⟨q6, q7, q8, q9⟩, -⟩ := htn
                rw [← eI0] at nob
                refine ⟨⟨rfl, rfl, rfl⟩, q5, ⟨by show σ.T n 6 + dx = _; rw [q6], by show σ.T n 7 + dy = _; rw [q7], ?_, ?_⟩, nob⟩
                · show σ.T n 8 + dx = _
                  obtain ⟨a1, a2, -⟩ := hnew n (by omega) hg
                  rw [eI0] at *
                  have obn := (h.th n (by omega) mn).2.2.2.1
                  obtain ⟨w1, w2, w3, w4, w5, w6⟩ := nob
                  obtain ⟨v1, v2, v3, v4, v5, v6⟩ := obn
                  have t8 := bx_u v1 v2 v3 q8
                  rw [tE, bx_u w1 w2 w3 rfl, tA (by rw [t8]; omega) (by rw [t8]; omega), t8, a1]; omega
                · show σ.T n 9 + dy = _
                  obtain ⟨a1, a2, -⟩ := hnew n (by omega) hg
                  rw [eI0] at *
                  have obn := (h.th n (by omega) mn).2.2.2.1
                  obtain ⟨w1, w2, w3, w4, w5, w6⟩ := nob
                  obtain ⟨v1, v2, v3, v4, v5, v6⟩ := obn
                  have t9 := bx_u v4 v5 (by omega) q9
                  rw [tE, bx_u w4 w5 (by omega) rfl, tA (by rw [t9]; omega) (by rw [t9]; omega), t9, a2]; omega
              · rw [g1', f2, f4]
                by_cases hin : i = n
                · rw [hin, up_s, up_s, z1, z2, z3]; exact ⟨rfl, rfl, rfl⟩
                · rw [up_n hin, up_n hin]; exact ih2 i (by rw [Bool.or_eq_true, decide_eq_true_eq] at q; exact q.resolve_right hin)
          · have hg : goP σ.T (some d) hn n = false := by
              cases hg : goP σ.T (some d) hn n with
              | false => rfl
              | true =>
                obtain ⟨-, -, w⟩ := hgo n (by omega) hg
                rcases w with w | w <;> omega
            rw [show min (n + 1) 80 = min n 80 by omega, lpS, eg, hg, if_neg (by decide), Cn_f hg]; exact ⟨c, ih2, ihs⟩
      obtain ⟨c, lv, lsv⟩ := L 150 (Nat.le_refl _)
      rw [show min 150 80 = 80 from rfl] at c lv lsv
      clear L
      generalize moMvL (ρ0.ws 3 0) d dx dy 80 = ρ1 at *
      generalize lpS (shR dx dy) (some d) hn (σ.wrs 0) 150 = σ1 at *
      rw [es, ev, eρ, ea, er]
      refine ⟨?_, by show ρ1.s 0 = 0; rw [lsv, ms_sn (by decide)]; exact s0, fun _ => rfl⟩
      show JR σ1 ρ1
      have hCn : ∀ {i}, Cn (goP σ.T (some d) hn) 150 i = true → i < 150 ∧ goP σ.T (some d) hn i = true := fun {i} q => by rw [Cn, Bool.and_eq_true, decide_eq_true_eq] at q; exact q
      have hdC : Cn (goP σ.T (some d) hn) 150 d = true := by
        have : goP σ.T (some d) hn d = true := by rw [ge d (by omega), decide_eq_true rfl, Bool.true_or]
        rw [Cn, this, decide_eq_true (show d < 150 by omega)]; rfl
      refine h0.touch hI c ?_ (fun j hw i q => ?_) (fun k hk ho hw i q => ?_) (fun i q z => ?_)
      · intro p q h1 h2' h3 h4 h5
        cases hC : Cn (goP σ.T (some d) hn) 150 p with
        | true =>
          obtain ⟨v1, v2, v3⟩ := lv p hC
          obtain ⟨hi, hq⟩ := hCn hC
          obtain ⟨mp, tp, w⟩ := hgo p hi hq
          have hqd : q = d := by
            rcases w with w | ⟨-, -, -, w, -⟩
            · omega
            · rw [eI0, w, nI_eq (by omega) (by omega)] at h4; omega
          subst hqd
          obtain ⟨u1, u2, u3⟩ := lv q hdC
          rw [v1] at h5
          have old := h0.i1 p q h1 h2' h3 h4 h5
          obtain ⟨a1, a2, -⟩ := hnew p hi hq
          obtain ⟨b1, b2, -⟩ := hnew q (by omega) (hCn hdC).2
          rw [u1, u2, u3, v2, v3]
          rw [eI0] at old ⊢
          rw [a1, a2, b1, b2]; refine ⟨old.1, ?_⟩; omega
        | false =>
          obtain ⟨z1, z2, z3, -⟩ := c.out p hC
          rw [z1] at h5
          have old := h0.i1 p q h1 h2' h3 h4 h5
          cases hCq : Cn (goP σ.T (some d) hn) 150 q with
          | false => obtain ⟨y1, y2, y3, -⟩ := c.out q hCq; rw [y1, y2, y3, z2, z3]; exact old
          | true =>
            exfalso
            obtain ⟨-, -, w⟩ := hgo q (by omega) (hCn hCq).2
            rcases w with w | w
            · have : goP σ.T (some d) hn p = true := by
                rw [ge p (by omega), ← w]
                have e1' : ¬ (20 : Int32) ≤ nI q := by rw [show (20 : Int32) = nI 20 from rfl, nI_leI (by omega) (by omega)]; omega
                have e2' : (20 : Int32) ≤ nI p := by rw [show (20 : Int32) = nI 20 from rfl, nI_leI (by omega) (by omega)]; omega
                have e3' : ¬ (80 : Int32) ≤ nI p := by rw [show (80 : Int32) = nI 80 from rfl, nI_leI (by omega) (by omega)]; omega
                rw [eI0] at h4 h5
                simp [moOf, e1', e2', e3', h4, h5]
              rw [Cn, this, decide_eq_true (show p < 150 by omega)] at hC; cases hC
            · omega
      · obtain ⟨hi, hq⟩ := hCn q
        obtain ⟨-, -, w⟩ := hgo i hi hq
        obtain ⟨v1, v2, v3⟩ := lv i q
        obtain ⟨a1, a2, -⟩ := hnew i hi hq
        have A := n1 j hw
        have A2 := n3 j hw
        rw [v2, v3]
        rw [eI0]
        refine ⟨fun _ => ?_, fun _ => ?_⟩
        · rcases w with w | ⟨-, -, -, -, w4, w5, w⟩
          · rw [w]; exact A
          · unfold iR at *; rw [w4, w5, t1]; omega
        · unfold iR at *
          rw [a1, a2]
          rcases w with w | ⟨-, -, -, -, w4, w5, w⟩
          · rw [w]; omega
          · rw [w4, w5, t1]; omega
      · obtain ⟨hi, hq⟩ := hCn q
        obtain ⟨-, -, w⟩ := hgo i hi hq
        obtain ⟨v1, v2, v3⟩ := lv i q
        obtain ⟨a1, a2, -⟩ := hnew i hi hq
        have A := n2 k hk (by rw [← eI0]; exact ho) hw
        have A2 := n4 k hk (by rw [← eI0]; exact ho) hw
        rw [v2, v3]
        rw [eI0]
        refine ⟨fun _ => ?_, fun _ => ?_⟩
        · rcases w with w | ⟨-, -, -, -, w4, w5, w⟩
          · rw [w]; exact A
          · unfold apB at *; rw [w4, w5, t1]; omega
        · unfold apB at *
          rw [a1, a2]
          rcases w with w | ⟨-, -, -, -, w4, w5, w⟩
          · rw [w]; omega
          · rw [w4, w5, t1]; omega
      · obtain ⟨hi, hq⟩ := hCn q
        obtain ⟨-, w, -⟩ := hgo i hi hq
        rw [eI0] at z; exact absurd z w
    · rw [if_neg hW] at es ev eρ ea
      rw [es, ev, eρ, ea, er]
      exact ⟨h0.tell _, by rw [ms_sn (by decide)]; exact s0, fun _ => rfl⟩
