theorem tW {a b : Int32} : ((a + b).toInt = a.toInt + b.toInt) ∨ (2147483648 ≤ a.toInt + b.toInt ∧ (a + b).toInt = a.toInt + b.toInt - 4294967296) ∨ (a.toInt + b.toInt < -2147483648 ∧ (a + b).toInt = a.toInt + b.toInt + 4294967296) := by
  obtain ⟨a1, a2⟩ := rg32 a
  obtain ⟨b1, b2⟩ := rg32 b
  rw [Int32.toInt_add, Int.bmod_def]
  omega
theorem full_eq {σ : HS} {ρ : MS} (hI : hsI σ) (h : JR σ ρ) {K : Nat} (h1 : 1 ≤ K) (h7 : K ≤ 7) : ρ.I 0 K = nI (liN K) ↔ limV K ≤ σ.G K := by
  obtain ⟨e, hn⟩ := gN_of hI.1 h1 h7
  have := liN_le (K := K)
  rw [h.gv K h1 h7, limV_n h1 h7, e, nI_leI (by omega) (by omega), nI_eq (by omega) (by omega)]; omega
theorem box_u {x w : Int32} (h0 : 0 ≤ x.toInt) (h1 : 1 ≤ w.toInt) (h2 : x.toInt + w.toInt ≤ 32) : x + (w - 1) = x + w - 1 := by
  have e1 : (w - 1).toInt = w.toInt - 1 := by rw [tS (by rw [t1]; omega) (by rw [t1]; omega), t1]
  rw [tE, bx_u h0 h1 h2 rfl, tA (by omega) (by omega), e1]; omega
theorem box1 {x w : Int32} (h1 : 1 ≤ w.toInt) (h32 : w.toInt ≤ 32) {m : Int32} {M : Int} (hm : m.toInt = M) (hM : 1 ≤ M ∧ M ≤ 32) : (0 ≤ x ∧ x ≤ x + (w - 1) ∧ x + (w - 1) ≤ m - 1) ↔ (0 ≤ x ∧ ¬ m ≤ x ∧ x + w ≤ m) := by
  have e1 : (w - 1).toInt = w.toInt - 1 := by rw [tS (by rw [t1]; omega) (by rw [t1]; omega), t1]
  have e2 : (m - 1).toInt = m.toInt - 1 := by rw [tS (by rw [t1]; omega) (by rw [t1]; omega), t1]
  obtain ⟨a1, a2⟩ := rg32 x
  rw [tL, tL, tL, tL, tL, t0, e2]
  have q1 := tW (a := x) (b := w - 1)
  have q2 := tW (a := x) (b := w)
  rw [e1] at q1
  omega
theorem box_eq {x y w ht : Int32} (w1 : 1 ≤ w.toInt) (w32 : w.toInt ≤ 32) (h1 : 1 ≤ ht.toInt) (h24 : ht.toInt ≤ 24) : moBox x y w ht = ar_holds 0 0 31 23 x y (x + (w - 1)) (y + (ht - 1)) := by
  have a := box1 (x := x) (m := 32) w1 w32 t32 ⟨by omega, by omega⟩
  have b := box1 (x := y) (m := 24) h1 (by omega) t24 ⟨by omega, by omega⟩
  rw [show (32 : Int32) - 1 = 31 from rfl] at a
  rw [show (24 : Int32) - 1 = 23 from rfl] at b
  rw [Bool.eq_iff_iff]
  simp only [moBox, moCell, ar_holds, Bool.and_eq_true, Bool.not_eq_true', decide_eq_true_eq, decide_eq_false_iff_not]
  constructor
  · rintro ⟨⟨⟨⟨⟨q1, q2⟩, q3⟩, q4⟩, q5⟩, q6⟩
    obtain ⟨a1, a2, a3⟩ := a.mpr ⟨q1, q2, q5⟩
    obtain ⟨b1, b2, b3⟩ := b.mpr ⟨q3, q4, q6⟩
    exact ⟨⟨⟨⟨⟨a1, a2⟩, a3⟩, b1⟩, b2⟩, b3⟩
  · rintro ⟨⟨⟨⟨⟨q1, q2⟩, q3⟩, q4⟩, q5⟩, q6⟩
    obtain ⟨a1, a2, a3⟩ := a.mp ⟨q1, q2, q3⟩
    obtain ⟨b1, b2, b3⟩ := b.mp ⟨q4, q5, q6⟩
    exact ⟨⟨⟨⟨⟨a1, a2⟩, b1⟩, b2⟩, a3⟩, b3⟩
theorem box_oB {x y w ht : Int32} (w1 : 1 ≤ w.toInt) (w32 : w.toInt ≤ 32) (h1 : 1 ≤ ht.toInt) (h24 : ht.toInt ≤ 24) (q : moBox x y w ht = true) : oB x y w ht := by
  simp only [moBox, moCell, Bool.and_eq_true, Bool.not_eq_true', decide_eq_true_eq, decide_eq_false_iff_not, tL, t0, t32, t24] at q
  obtain ⟨⟨⟨⟨⟨q1, q2⟩, q3⟩, q4⟩, q5⟩, q6⟩ := q
  rw [tA (by omega) (by omega)] at q5 q6
  exact ⟨q1, w1, q5, q3, h1, q6⟩
theorem mkP_n {σ : HS} {K : Nat} {R : Nat → Int32} {x y u v : Int32} {c : Int32} (h : whyMd σ K R none x y u v = c) (hc : ¬ c = 0) : mkP σ K R x y u v = (-1, σ.wrs c) := by rw [mkP, h, if_neg hc]
theorem mkP_y {σ : HS} {K : Nat} {R : Nat → Int32} {x y u v : Int32} (h : whyMd σ K R none x y u v = 0) : mkP σ K R x y u v = (1000 * nI K + σ.G K, mkS σ K (fiN K + gN σ K) R) := by rw [mkP, h, if_pos rfl]
theorem lay0_k {ρ : MS} {t k : Nat} {ne la x y w ht : Int32} (hk : k < 2 ∨ 7 < k) : (moLayS ρ t ne la x y w ht).I k = ρ.I k := by
  rw [moLayS, ms_In (by omega), ms_In (by omega), ms_In (by omega), ms_In (by omega), ms_In (by omega), ms_In (by omega)]
theorem lay0_o {ρ : MS} {t i k : Nat} {ne la x y w ht : Int32} (hi : i ≠ t) : (moLayS ρ t ne la x y w ht).I k i = ρ.I k i := by
  by_cases h8 : k = 8
  · rw [lay0_k (by omega)]
  · have := lay_o (ρ := ρ) (k := k) (ne := ne) (la := la) (x := x) (y := y) (w := w) (ht := ht) (pa := 0) hi
    rw [ms_In h8] at this; exact this
theorem new_id {σ : HS} (hI : hsI σ) {K : Nat} (h2 : 2 ≤ K) (h5 : K ≤ 5) (hf : ¬ limV K ≤ σ.G K) : moHan (nI (fiN K + gN σ K)) = 1000 * nI K + σ.G K ∧ fiN K + gN σ K < 150 ∧ slM σ (fiN K + gN σ K) = false ∧ slK (fiN K + gN σ K) = K := by
  obtain ⟨e, hl⟩ := gN_lt hI.1 (K := K) (by omega) (by omega) hf
  obtain ⟨t1', t2', t3'⟩ := sl_of h2 h5 hl
  refine ⟨by rw [han_eq _ t3', t1', t2', ← e], t3', by rw [slM, t1', t2']; exact decide_eq_false (by omega), t1'⟩
theorem mkS_s {ρ : MS} {K t : Nat} {ne la x y w ht pa : Int32} : (moMkS ρ K t ne la x y w ht pa).s = ρ.s := by rw [moMkS, ms_Is, moNote_s]; rfl
theorem mkA_2 {ρ : MS} {K t : Nat} {ne la x y w ht pa : Int32} : (moMkA ρ K t ne la x y w ht pa).I 2 = upd (ρ.I 2) t x := rfl
theorem mkA_3 {ρ : MS} {K t : Nat} {ne la x y w ht pa : Int32} : (moMkA ρ K t ne la x y w ht pa).I 3 = upd (ρ.I 3) t y := rfl
theorem mkA_4 {ρ : MS} {K t : Nat} {ne la x y w ht pa : Int32} : (moMkA ρ K t ne la x y w ht pa).I 4 = upd (ρ.I 4) t w := rfl
theorem mkA_5 {ρ : MS} {K t : Nat} {ne la x y w ht pa : Int32} : (moMkA ρ K t ne la x y w ht pa).I 5 = upd (ρ.I 5) t ht := rfl
theorem mkA_6 {ρ : MS} {K t : Nat} {ne la x y w ht pa : Int32} : (moMkA ρ K t ne la x y w ht pa).I 6 = upd (ρ.I 6) t la := rfl
theorem mkA_7 {ρ : MS} {K t : Nat} {ne la x y w ht pa : Int32} : (moMkA ρ K t ne la x y w ht pa).I 7 = upd (ρ.I 7) t ne := rfl
theorem mkA_8 {ρ : MS} {K t : Nat} {ne la x y w ht pa : Int32} : (moMkA ρ K t ne la x y w ht pa).I 8 = upd (ρ.I 8) t pa := rfl
/-- a piece of copper, once it is on the board and there is room -/
theorem copper {σ : HS} {ρ : MS} (hI : hsI σ) (h : JR σ ρ) {K n q0 : Nat} {ne la x y w ht pa net u v bx bY bu bv pb : Int32} (hK : K = 3 ∨ K = 4) (hf : ¬ limV K ≤ σ.G K) (hob : oB x y w ht) (hu : u = x + w - 1) (hv : v = y + ht - 1) (hbx : moBox x y w ht = true) (hho : ar_holds bx bY bu bv x y u v = true)
    (hn : n < 20) (en : net = nI (1000 + n)) (ene : ne = nI n) (hla : K = 3 → la = 0 ∧ w = 1 ∧ ht = 1) (hl4 : K = 4 → ∃ L, L < σ.nl ∧ la = nI L) (hpa : (pb = -1 ∧ pa = -1) ∨ (K = 3 ∧ q0 < gN σ 2 ∧ pb = nI (2000 + q0) ∧ pa = nI q0 ∧ ¬ ρ.I 1 q0 = 0 ∧ (ρ.I 2 q0).toInt ≤ x.toInt ∧ x.toInt < (ρ.I 2 q0).toInt + (ρ.I 4 q0).toInt ∧ (ρ.I 3 q0).toInt ≤ y.toInt ∧ y.toInt < (ρ.I 3 q0).toInt + (ρ.I 5 q0).toInt)) :
    JR (mkP σ K (mkR (nI K) (σ.G K) la net pb x y u v) bx bY bu bv).2 (moMkC ρ K (mN ρ K) (mN ρ 6) ne la x y w ht pa).2 ∧ (moMkC ρ K (mN ρ K) (mN ρ 6) ne la x y w ht pa).2.s 0 = ρ.s 0 ∧ (mkP σ K (mkR (nI K) (σ.G K) la net pb x y u v) bx bY bu bv).1 = (moMkC ρ K (mN ρ K) (mN ρ 6) ne la x y w ht pa).1 := by
  have h2 : 2 ≤ K := by omega
  have h5 : K ≤ 5 := by omega
  obtain ⟨eid, t3, htf, esk⟩ := new_id hI h2 h5 hf
  have eg : mN ρ K = gN σ K := mN_g h (by omega) (by omega)
  have hbu : u.toInt = x.toInt + w.toInt - 1 := bx_u hob.1 hob.2.1 hob.2.2.1 hu
  have hbv : v.toInt = y.toInt + ht.toInt - 1 := bx_u hob.2.2.2.1 hob.2.2.2.2.1 (by have := hob.2.2.2.2.2; omega) hv
  have hfull : ¬ ρ.I 0 K = nI (liN K) := fun q => hf ((full_eq hI h (by omega) (by omega)).mp q)
  have hbar := barr_eq hI h hob hbu hbv
  have h20 : 20 ≤ fiN K + gN σ K := by rcases hK with e | e <;> rw [e] <;> simp [fiN] <;> omega
  have h140 : fiN K + gN σ K < 140 := by
    rcases slK_r _ t3 with r | r | r | r <;> omega
  rw [moMkC, if_neg hfull, hbx, if_neg (by decide), hbar, eg]
  generalize hRR : mkR (nI K) (σ.G K) la net pb x y u v = R
  have R0 : R 0 = nI K := by rw [← hRR]; rfl
  have R1 : R 1 = σ.G K := by rw [← hRR]; rfl
  have R2 : R 2 = la := by rw [← hRR]; rfl
  have R3 : R 3 = net := by rw [← hRR]; rfl
  have R4 : R 4 = pb := by rw [← hRR]; rfl
  have R5 : R 5 = 0 := by rw [← hRR]; rfl
  have R6 : R 6 = x := by rw [← hRR]; rfl
  have R7 : R 7 = y := by rw [← hRR]; rfl
  have R8 : R 8 = u := by rw [← hRR]; rfl
  have R9 : R 9 = v := by rw [← hRR]; rfl
  clear hRR
  have hk34 : R 0 = 3 ∨ R 0 = 4 := by
    rcases hK with e | e
    · rw [R0, e]; exact Or.inl rfl
    · rw [R0, e]; exact Or.inr rfl
  have wy : whyMd σ K R none bx bY bu bv = if barr σ x y u v = true then 3 else if anyF (clP σ.T none (1000 * R 0 + R 1) R σ.g 0 0) 20 120 = true then 5 else 0 := by
    rw [whyMd, if_neg hf, ov_cu hk34, R6, R7, R8, R9, hho, if_neg (by decide), if_neg (show ¬ (false = true) by decide)]
  cases hb : barr σ x y u v with
  | true =>
    rw [hb, if_pos rfl] at wy
    rw [mkP_n wy (by decide), if_pos rfl]
    exact ⟨h.tell 3, rfl, rfl⟩
  | false =>
    rw [hb, if_neg (by decide)] at wy
    rw [if_neg (by decide)]
    generalize hR' : fiN K + gN σ K = t at *
    have J0 : JR (σ.wrs 0) (ρ.ws 3 0) := h.tell 0
    have hI0 : hsI (σ.wrs 0) := hI
    have JL : JR (σ.wrs 0) (moLayS (ρ.ws 3 0) t ne la x y w ht) := J0.scr hI0 t3 htf rfl (fun k i hi => lay0_o hi) (fun k hk => by
      by_cases h8 : k = 8
      · rw [h8, lay0_k (by omega)]
      · exact lay0_k (by omega))
    have L1 : (moLayS (ρ.ws 3 0) t ne la x y w ht).I 1 = ρ.I 1 := lay0_k (by omega)
    have L2 : (moLayS (ρ.ws 3 0) t ne la x y w ht).I 2 = upd (ρ.I 2) t x := rfl
    have L3 : (moLayS (ρ.ws 3 0) t ne la x y w ht).I 3 = upd (ρ.I 3) t y := rfl
    have L4 : (moLayS (ρ.ws 3 0) t ne la x y w ht).I 4 = upd (ρ.I 4) t w := rfl
    have L5 : (moLayS (ρ.ws 3 0) t ne la x y w ht).I 5 = upd (ρ.I 5) t ht := rfl
    have L6 : (moLayS (ρ.ws 3 0) t ne la x y w ht).I 6 = upd (ρ.I 6) t la := rfl
    have L7 : (moLayS (ρ.ws 3 0) t ne la x y w ht).I 7 = upd (ρ.I 7) t ne := rfl
    have Ls : (moLayS (ρ.ws 3 0) t ne la x y w ht).s = upd ρ.s 3 0 := rfl
    generalize moLayS (ρ.ws 3 0) t ne la x y w ht = ρL at *
    have cR : crow R ρL.I t := by
      refine ⟨by rw [R0, esk], by rw [R2, L6, up_s], fun _ => ⟨n, hn, by rw [R3, en], by rw [L7, up_s, ene]⟩, ?_, ?_⟩
      · rw [R6, R7, R8, R9, L2, L3, L4, L5, up_s, up_s, up_s, up_s]; exact ⟨rfl, rfl, hu, hv⟩
      · rw [L2, L3, L4, L5, up_s, up_s, up_s, up_s]; exact hob
    have hgl := gN_lt hI.1 (K := K) (by omega) (by omega) hf
    have hlim := liN_le (K := K)
    have ehn : (1000 * R 0 + R 1) = nI (1000 * K + gN σ K) := by rw [R0, R1, hgl.1, show (1000 : Int32) = nI 1000 from rfl, nI_mulN, nI_add]
    have ecl := cl_new (R := R) hI0 JL h20 h140 htf cR ehn (by omega) (by omega)
    have eT0 : (σ.wrs 0).T = σ.T := rfl
    have eg0 : (σ.wrs 0).g = σ.g := rfl
    rw [eT0, eg0] at ecl
    rw [ecl] at wy
    cases hc : anyF (moCwP ρL t 0 0 (-1)) 20 120 with
    | true =>
      rw [hc, if_pos rfl] at wy
      rw [mkP_n wy (by decide), if_pos rfl]
      refine ⟨JL.tell 5, ?_, rfl⟩
      show (ρL.ws 3 5).s 0 = ρ.s 0
      rw [ms_sn (by decide), Ls, up_n (by decide)]
    | false =>
      rw [hc, if_neg (by decide)] at wy
      rw [mkP_y wy, if_neg (by decide), hR', eid]
      refine ⟨?_, by show (moMkS ρL K t ne la x y w ht pa).s 0 = _; rw [mkS_s, Ls, up_n (by decide)], rfl⟩
      show JR (mkS σ K t R) (moMkS ρL K t ne la x y w ht pa)
      have A1 : (moMkA ρL K t ne la x y w ht pa).I 1 = ρL.I 1 := by rw [mkA_k (by omega), lay_k (by omega)]
      have A2 : (moMkA ρL K t ne la x y w ht pa).I 2 t = x := by rw [mkA_2, up_s]
      have A3 : (moMkA ρL K t ne la x y w ht pa).I 3 t = y := by rw [mkA_3, up_s]
      have A4 : (moMkA ρL K t ne la x y w ht pa).I 4 t = w := by rw [mkA_4, up_s]
      have A5 : (moMkA ρL K t ne la x y w ht pa).I 5 t = ht := by rw [mkA_5, up_s]
      have A6 : (moMkA ρL K t ne la x y w ht pa).I 6 t = la := by rw [mkA_6, up_s]
      have A7 : (moMkA ρL K t ne la x y w ht pa).I 7 t = ne := by rw [mkA_7, up_s]
      have A8 : (moMkA ρL K t ne la x y w ht pa).I 8 t = pa := by rw [mkA_8, up_s]
      have hs3 : ρL.s 3 = 0 := by rw [Ls, up_s]
      have eMS : mkS σ K t R = mkS (σ.wrs 0) K t R := rfl
      rw [eMS]
      refine JL.make hI0 h2 h5 hf hR'.symm hs3 ?_ R0 R1 R5 (by rw [R6, R7, R8, R9]; exact hb) ?_
      · unfold thR
        rw [A1, A2, A3, A4, A5, A6, A7, A8, R2, R3, R4, R5, R6, R7, R8, R9]
        refine ⟨(JL.un t t3 htf).symm, ⟨rfl, rfl, hu, hv⟩, rfl, hob, Or.inr ⟨h20, n, hn, en, ene⟩, ?_, fun _ q80 => ?_, fun q80 => ?_⟩
        · rcases hpa with q | ⟨q1, q2, q3, q4, -⟩
          · exact Or.inl q
          · refine Or.inr ⟨h20, ?_, q0, q2, q3, q4⟩
            rcases slK_r _ t3 with r | r | r | r <;> omega
        · have e3 : K = 3 := by rcases slK_r _ t3 with r | r | r | r <;> omega
          obtain ⟨z1, z2, z3⟩ := hla e3; exact ⟨z2, z3, z1⟩
        · have e4 : K = 4 := by rcases slK_r _ t3 with r | r | r | r <;> omega
          exact hl4 e4
      · intro q hq20 eq _ _
        rcases hpa with ⟨-, z⟩ | ⟨q1, q2, q3, q4, q5⟩
        · rw [z, tE, tn (by omega), tm1] at eq; omega
        · have hg2 := g2 hI
          have : q0 = q := by rw [q4, nI_eq (by omega) (by omega)] at eq; exact eq
          subst this
          have hqt : q0 ≠ t := by omega
          rw [L1, L2, L3, L4, L5, up_n hqt, up_n hqt, up_n hqt, up_n hqt]
          exact ⟨q2, q5⟩
theorem hd_of {σ : HS} (hI : hsI σ) {a : Int32} (hg : gvOk σ.G a = true) {K : Nat} (hK1 : 1 ≤ K) (hK : K ≤ 7) (hk : a / 1000 = nI K) : a = nI (1000 * K + hdN a) ∧ a - a / 1000 * 1000 = nI (hdN a) ∧ hdN a < gN σ K ∧ hdK a = K := by
  obtain ⟨e1, e2, -, -, h5⟩ := gv_of (σ := σ) hI.1 hg
  have ek : hdK a = K := by rw [hdK, hk, nI_clamp (by omega)]
  rw [ek] at h5
  have hl := (gN_of hI.1 (K := K) (by omega) (by omega)).2
  have := liN_le (K := K)
  have h1 : 1000 ≤ a := by
    simp only [gvOk, Bool.and_eq_true, decide_eq_true_eq] at hg; exact hg.1.1
  obtain ⟨j, hj, ej, -, d1, d2⟩ := h_nat h1
  have a1 : j / 1000 = K := by rw [hk] at d1; rw [nI_eq (by omega) (by omega)] at d1; omega
  have a2 : j % 1000 = hdN a := by rw [e2] at d2; rw [nI_eq (by omega) (by omega)] at d2; omega
  exact ⟨ej.trans (congrArg nI (by omega)), e2, h5, ek⟩
theorem net_of {σ : HS} (hI : hsI σ) {a : Int32} (hg : gvOk σ.G a = true) (hk : a / 1000 = 1) : ∃ n, n < 20 ∧ a = nI (1000 + n) ∧ a - a / 1000 * 1000 = nI n := by
  obtain ⟨e1, e2, e3, -⟩ := hd_of hI hg (K := 1) (by omega) (by omega) hk
  have := (gN_of hI.1 (K := 1) (by omega) (by omega)).2
  exact ⟨hdN a, by simp only [liN] at this; omega, e1, e2⟩
theorem flt {σ : HS} {ρ : MS} (h : JR σ ρ) (a kd : Int32) : moFault (ρ.I 0) a kd = if gvOk σ.G a = true then (if a / 1000 = kd then 0 else 2) else 1 := by rw [moFault, gv_g h]
theorem bad {σ : HS} {ρ ρ' : MS} {r v : Int32} {P : Prop} (h : JR σ ρ) (e : ρ' = ρ.ws 0 v) (er : r = v) (hv : ¬ v = 0) : JR σ ρ' ∧ ρ'.s 0 = r ∧ (r = 0 → P) := by
  rw [e, er]; exact ⟨h.thr v, ms_ss, fun q => absurd q hv⟩
theorem bad2 {σ : HS} {ρ ρ' : MS} {r v w : Int32} {P : Prop} (h : JR σ ρ) (e : ρ' = (ρ.ws 0 w).ws 0 v) (er : r = v) (hv : ¬ v = 0) : JR σ ρ' ∧ ρ'.s 0 = r ∧ (r = 0 → P) := by
  rw [e, er]; exact ⟨(h.thr w).thr v, ms_ss, fun q => absurd q hv⟩
theorem J_via : ok_via JR := by
  intro σ ρ hI h net x y r a σ' ans ρ' hR hM
  obtain ⟨ea, eρ⟩ := hM
  rcases hR with ⟨c1, er, es⟩ | ⟨c1, c2, er, es⟩ | ⟨c1, c2, er, es, ev⟩
  · have f : moFault (ρ.I 0) net 1 = 1 := by rw [flt h, c1, if_neg (by decide)]
    rw [moVia, f, if_neg (by decide)] at eρ
    rw [es]; exact bad h eρ er (by decide)
  · have f : moFault (ρ.I 0) net 1 = 2 := by rw [flt h, c1, if_pos rfl, if_neg c2]
    rw [moVia, f, if_neg (by decide)] at eρ
    rw [es]; exact bad h eρ er (by decide)
  · have f : moFault (ρ.I 0) net 1 = 0 := by rw [flt h, c1, if_pos rfl, if_pos c2]
    obtain ⟨n, hn, en, en2⟩ := net_of hI c1 c2
    rw [moVia, f, if_pos rfl] at eρ ea
    have h0 : JR σ (ρ.ws 0 0) := h.thr 0
    have m3 : mN ρ 3 = mN (ρ.ws 0 0) 3 := rfl
    have m6 : mN ρ 6 = mN (ρ.ws 0 0) 6 := rfl
    rw [m3, m6] at eρ ea
    have s0 : (ρ.ws 0 0).s 0 = 0 := ms_ss
    generalize ρ.ws 0 0 = ρ0 at *
    rw [er]
    have e1 : x + ((1 : Int32) - 1) = x := by rw [show (1 : Int32) - 1 = 0 from rfl, Int32.add_zero]
    have e2 : y + ((1 : Int32) - 1) = y := by rw [show (1 : Int32) - 1 = 0 from rfl, Int32.add_zero]
    have hbox := box_eq (x := x) (y := y) (w := 1) (ht := 1) (by rw [t1]; omega) (by rw [t1]; omega) (by rw [t1]; omega) (by rw [t1]; omega)
    rw [e1, e2] at hbox
    by_cases hf : limV 3 ≤ σ.G 3
    · rw [moMkC, if_pos ((full_eq hI h0 (by omega) (by omega)).mpr hf)] at eρ ea
      rw [mkP_n (c := 1) (by rw [whyMd, if_pos hf]) (by decide)] at es ev
      rw [es, eρ, ev, ea]
      exact ⟨h0.tell 1, by show (ρ0.ws 3 1).s 0 = 0; rw [ms_sn (by decide)]; exact s0, fun _ => rfl⟩
    · cases hb : moBox x y 1 1 with
      | false =>
        rw [moMkC, if_neg (fun q => hf ((full_eq hI h0 (by omega) (by omega)).mp q)), if_pos hb] at eρ ea
        rw [mkP_n (c := 2) (by rw [whyMd, if_neg hf]; show (if ar_holds 0 0 31 23 x y x y = false then _ else _) = _; rw [← hbox, if_pos hb]) (by decide)] at es ev
        rw [es, eρ, ev, ea]
        exact ⟨h0.tell 2, by show (ρ0.ws 3 2).s 0 = 0; rw [ms_sn (by decide)]; exact s0, fun _ => rfl⟩
      | true =>
        have hob := box_oB (x := x) (y := y) (w := 1) (ht := 1) (by rw [t1]; omega) (by rw [t1]; omega) (by rw [t1]; omega) (by rw [t1]; omega) hb
        obtain ⟨j1, j2, j3⟩ := copper (K := 3) (n := n) (q0 := 0) (ne := net - net / 1000 * 1000) (la := 0) (x := x) (y := y) (w := 1) (ht := 1) (pa := -1) (net := net) (u := x) (v := y) (bx := 0) (bY := 0) (bu := 31) (bv := 23) (pb := -1) hI h0 (Or.inl rfl) hf hob (by rw [Int32.add_sub_cancel]) (by rw [Int32.add_sub_cancel]) hb (by rw [← hbox]; exact hb) hn en en2 (fun _ => ⟨rfl, rfl, rfl⟩) (fun q => absurd q (by decide)) (Or.inl ⟨rfl, rfl⟩)
        rw [es, eρ, ev, ea]
        exact ⟨j1, by rw [j2]; exact s0, fun _ => congrArg Int32.toInt64 j3⟩
theorem no_mk {σ σ' : HS} {ρ0 ρ' : MS} {c r ans : Int32} {a : Int64} {P : Int32 × HS} (h0 : JR σ ρ0) (s0 : ρ0.s 0 = 0) (hP : P = (-1, σ.wrs c)) (es : σ' = P.2) (ev : a = P.1.toInt64) (eρ : ρ' = ρ0.ws 3 c) (ea : ans = -1) (er : r = 0) : JR σ' ρ' ∧ ρ'.s 0 = r ∧ (r = 0 → a = ans.toInt64) := by
  rw [es, ev, hP, eρ, ea, er]
  exact ⟨h0.tell c, by rw [ms_sn (by decide)]; exact s0, fun _ => rfl⟩
theorem yes_mk {σ' : HS} {ρ' : MS} {r ans : Int32} {a : Int64} {P : Int32 × HS} {M : Int32 × MS} (j : JR P.2 M.2 ∧ M.2.s 0 = 0 ∧ P.1 = M.1) (es : σ' = P.2) (ev : a = P.1.toInt64) (eρ : ρ' = M.2) (ea : ans = M.1) (er : r = 0) : JR σ' ρ' ∧ ρ'.s 0 = r ∧ (r = 0 → a = ans.toInt64) := by
  rw [es, ev, eρ, ea, er]
  exact ⟨j.1, j.2.1, fun _ => congrArg Int32.toInt64 j.2.2⟩
theorem why2 {σ : HS} {K : Nat} {R : Nat → Int32} {x y u v : Int32} (hf : ¬ limV K ≤ σ.G K) (h : ar_holds x y u v (R 6) (R 7) (R 8) (R 9) = false) : whyMd σ K R none x y u v = 2 := by rw [whyMd, if_neg hf, if_pos h]
theorem pad1 {x w dx u : Int32} (h0 : 0 ≤ x.toInt) (h1 : 1 ≤ w.toInt) (h2 : x.toInt + w.toInt ≤ 32) (hu : u.toInt = x.toInt + w.toInt - 1) : (x ≤ x + dx ∧ x + dx ≤ u) ↔ (0 ≤ dx ∧ ¬ w ≤ dx) := by
  rw [tL, tL, tL, tL, t0, hu]
  have := tW (a := x) (b := dx)
  obtain ⟨a1, a2⟩ := rg32 dx
  omega
theorem pad2 {x w dx : Int32} (h0 : 0 ≤ x.toInt) (h1 : 1 ≤ w.toInt) (h2 : x.toInt + w.toInt ≤ 32) (h3 : 0 ≤ dx) (h4 : ¬ w ≤ dx) : (x + dx).toInt = x.toInt + dx.toInt ∧ 0 ≤ dx.toInt ∧ dx.toInt < w.toInt := by
  rw [tL, t0] at h3; rw [tL] at h4
  exact ⟨tA (by omega) (by omega), h3, by omega⟩
theorem J_pad : ok_pad JR := by
  intro σ ρ hI h part net dx dy r a σ' ans ρ' hR hM
  obtain ⟨ea, eρ⟩ := hM
  have fp := flt h part 2
  have fn := flt h net 1
  rcases hR with ⟨c1, er, es⟩ | ⟨c1, c2, er, es⟩ | ⟨c1, c2, c3, er, es⟩ | ⟨c1, c2, c3, c4, er, es⟩ | ⟨c1, c2, c3, c4, c5, er, es⟩ | ⟨c1, c2, c3, c4, c5, er, es, ev⟩
  · rw [c1, if_neg (by decide)] at fp
    have w : moWorst (moFault (ρ.I 0) part 2) (moFault (ρ.I 0) net 1) = 1 := by rw [moWorst, fp, if_pos rfl]
    rw [moPad, w, if_neg (by decide)] at eρ
    rw [es]; exact bad2 h eρ er (by decide)
  · rw [c2, if_neg (by decide)] at fn
    have w : moWorst (moFault (ρ.I 0) part 2) (moFault (ρ.I 0) net 1) = 1 := by rw [moWorst, fn, if_pos rfl]; split <;> rfl
    rw [moPad, w, if_neg (by decide)] at eρ
    rw [es]; exact bad2 h eρ er (by decide)
  · rw [c1, if_pos rfl, if_neg c3] at fp
    rw [c2, if_pos rfl] at fn
    have w : moWorst (moFault (ρ.I 0) part 2) (moFault (ρ.I 0) net 1) = 2 := by
      rw [moWorst, fp, fn]; split
      · rename_i q; exact absurd q (by decide)
      · by_cases q : net / 1000 = 1
        · rw [if_pos q]; rfl
        · rw [if_neg q]; rfl
    rw [moPad, w, if_neg (by decide)] at eρ
    rw [es]; exact bad2 h eρ er (by decide)
  · rw [c1, if_pos rfl, if_pos c3] at fp
    rw [c2, if_pos rfl, if_neg c4] at fn
    have w : moWorst (moFault (ρ.I 0) part 2) (moFault (ρ.I 0) net 1) = 2 := by rw [moWorst, fp, fn]; rfl
    rw [moPad, w, if_neg (by decide)] at eρ
    rw [es]; exact bad2 h eρ er (by decide)
  all_goals
    rw [c1, if_pos rfl, if_pos c3] at fp
    rw [c2, if_pos rfl, if_pos c4] at fn
    have w : moWorst (moFault (ρ.I 0) part 2) (moFault (ρ.I 0) net 1) = 0 := by rw [moWorst, fp, fn]; rfl
    obtain ⟨p1, p2, p3, p4⟩ := hd_of hI c1 (K := 2) (by omega) (by omega) c3
    have hg := g2 hI
    have eI : hdI part = hdN part := by rw [hdI, p4]; exact Nat.zero_add _
    have hm : slM σ (hdN part) = true := by rw [slM_p (by omega)]; exact decide_eq_true p3
    have ht := h.th (hdN part) (by omega) hm
    rw [eI] at c5
    rw [moPad, w, if_pos rfl] at eρ ea
  · rw [if_pos (by rw [← ht.1]; exact c5)] at eρ
    rw [es]; exact bad2 h eρ er (by decide)
  · obtain ⟨n, hn, en, en2⟩ := net_of hI c2 c4
    rw [eI] at es ev
    rw [if_neg (by rw [← ht.1]; exact c5)] at eρ ea
    have h0 : JR σ ((ρ.ws 0 0).ws 0 0) := h.thr2 0 0
    have s0 : ((ρ.ws 0 0).ws 0 0).s 0 = 0 := ms_ss
    have eI0 : ((ρ.ws 0 0).ws 0 0).I = ρ.I := rfl
    have m3 : mN ρ 3 = mN ((ρ.ws 0 0).ws 0 0) 3 := rfl
    have m6 : mN ρ 6 = mN ((ρ.ws 0 0).ws 0 0) 6 := rfl
    rw [m3, m6] at eρ ea
    generalize (ρ.ws 0 0).ws 0 0 = ρ0 at *
    obtain ⟨-, ⟨r6, r7, r8, r9⟩, -, hob, -⟩ := ht
    obtain ⟨o1, o2, o3, o4, o5, o6⟩ := hob
    have hu := bx_u o1 o2 o3 r8
    have hv := bx_u o4 o5 (by omega) r9
    by_cases hf : limV 3 ≤ σ.G 3
    · rw [if_pos (by rw [← eI0]; exact (full_eq hI h0 (by omega) (by omega)).mpr hf)] at eρ ea
      exact no_mk h0 s0 (mkP_n (c := 1) (by rw [whyMd, if_pos hf]) (by decide)) es ev eρ ea er
    · rw [if_neg (by rw [← eI0]; exact fun q => hf ((full_eq hI h0 (by omega) (by omega)).mp q))] at eρ ea
      have ax := pad1 (dx := dx) o1 o2 o3 hu
      have ay := pad1 (dx := dy) o4 o5 (by omega) hv
      have hho : ar_holds (σ.T (hdN part) 6) (σ.T (hdN part) 7) (σ.T (hdN part) 8) (σ.T (hdN part) 9) (σ.T (hdN part) 6 + dx) (σ.T (hdN part) 7 + dy) (σ.T (hdN part) 6 + dx) (σ.T (hdN part) 7 + dy) = (decide (0 ≤ dx) && decide (0 ≤ dy) && !decide (ρ.I 4 (hdN part) ≤ dx) && !decide (ρ.I 5 (hdN part) ≤ dy)) := by
        rw [Bool.eq_iff_iff]
        simp only [ar_holds, Bool.and_eq_true, decide_eq_true_eq, Bool.not_eq_true', decide_eq_false_iff_not, r6, r7]
        constructor
        · rintro ⟨⟨⟨⟨⟨q1, -⟩, q3⟩, q4⟩, -⟩, q6⟩
          obtain ⟨a1, a2⟩ := ax.mp ⟨q1, q3⟩
          obtain ⟨b1, b2⟩ := ay.mp ⟨q4, q6⟩
          exact ⟨⟨⟨a1, b1⟩, a2⟩, b2⟩
        · rintro ⟨⟨⟨q1, q2⟩, q3⟩, q4⟩
          obtain ⟨a1, a2⟩ := ax.mpr ⟨q1, q3⟩
          obtain ⟨b1, b2⟩ := ay.mpr ⟨q2, q4⟩
          exact ⟨⟨⟨⟨⟨a1, Int32.le_refl _⟩, a2⟩, b1⟩, Int32.le_refl _⟩, b2⟩
      cases hb : (decide (0 ≤ dx) && decide (0 ≤ dy) && !decide (ρ.I 4 (hdN part) ≤ dx) && !decide (ρ.I 5 (hdN part) ≤ dy)) with
      | false =>
        rw [if_pos hb] at eρ ea
        rw [hb] at hho
        generalize hRR : mkR 3 (σ.G 3) 0 net part (σ.T (hdN part) 6 + dx) (σ.T (hdN part) 7 + dy) (σ.T (hdN part) 6 + dx) (σ.T (hdN part) 7 + dy) = R at es ev
        have q6 : R 6 = σ.T (hdN part) 6 + dx := by rw [← hRR]; rfl
        have q7 : R 7 = σ.T (hdN part) 7 + dy := by rw [← hRR]; rfl
        have q8 : R 8 = σ.T (hdN part) 6 + dx := by rw [← hRR]; rfl
        have q9 : R 9 = σ.T (hdN part) 7 + dy := by rw [← hRR]; rfl
        have hW := why2 (R := R) hf (by rw [q6, q7, q8, q9]; exact hho)
        exact no_mk h0 s0 (mkP_n hW (by decide)) es ev eρ ea er
      | true =>
        rw [hb] at hho
        rw [if_neg (by rw [hb]; decide)] at eρ ea
        simp only [Bool.and_eq_true, decide_eq_true_eq, Bool.not_eq_true', decide_eq_false_iff_not] at hb
        obtain ⟨⟨⟨q1, q2⟩, q3⟩, q4⟩ := hb
        obtain ⟨x1, x2, x3⟩ := pad2 o1 o2 o3 q1 q3
        obtain ⟨y1, y2, y3⟩ := pad2 o4 o5 (by omega) q2 q4
        have hob : oB (ρ.I 2 (hdN part) + dx) (ρ.I 3 (hdN part) + dy) 1 1 := by unfold oB; rw [x1, y1, t1]; omega
        have hbx : moBox (ρ.I 2 (hdN part) + dx) (ρ.I 3 (hdN part) + dy) 1 1 = true := by
          rw [box_eq (by rw [t1]; omega) (by rw [t1]; omega) (by rw [t1]; omega) (by rw [t1]; omega)]
          have e0 : ∀ z : Int32, z + ((1 : Int32) - 1) = z := fun z => by rw [show (1 : Int32) - 1 = 0 from rfl, Int32.add_zero]
          rw [e0, e0]
          simp only [ar_holds, Bool.and_eq_true, decide_eq_true_eq, tL, t0, t31, t23, x1, y1]; omega
        rw [r6, r7] at es ev hho
        have ep : part = nI (2000 + hdN part) := p1
        obtain ⟨j1, j2, j3⟩ := copper (K := 3) (n := n) (q0 := hdN part) (ne := net - net / 1000 * 1000) (la := 0) (x := ρ.I 2 (hdN part) + dx) (y := ρ.I 3 (hdN part) + dy) (w := 1) (ht := 1) (pa := nI (hdN part)) (net := net) (u := ρ.I 2 (hdN part) + dx) (v := ρ.I 3 (hdN part) + dy) (bx := ρ.I 2 (hdN part)) (bY := ρ.I 3 (hdN part)) (bu := σ.T (hdN part) 8) (bv := σ.T (hdN part) 9) (pb := part) hI h0 (Or.inl rfl) hf hob (by rw [Int32.add_sub_cancel]) (by rw [Int32.add_sub_cancel]) hbx hho hn en en2 (fun _ => ⟨rfl, rfl, rfl⟩) (fun q => absurd q (by decide)) (Or.inr ⟨rfl, p3, ep, rfl, by
            rw [eI0]
            refine ⟨fun q => c5 (by rw [(h.th (hdN part) (by omega) hm).1]; exact q), ?_⟩
            rw [x1, y1]; omega⟩)
        exact yes_mk (M := moMkC ρ0 3 (mN ρ0 3) (mN ρ0 6) (net - net / 1000 * 1000) 0 (ρ.I 2 (hdN part) + dx) (ρ.I 3 (hdN part) + dy) 1 1 (nI (hdN part))) ⟨j1, by rw [j2]; exact s0, j3⟩ es ev eρ ea er
theorem J_part : ok_part JR := by
  intro σ ρ hI h pw ph x y sd r a σ' ans ρ' hR hM
  obtain ⟨ea, eρ⟩ := hM
  rcases hR with ⟨c1, er, es⟩ | ⟨c1, er, es, ev⟩
  · rw [moPart, if_pos c1] at eρ
    rw [es]; exact bad h eρ er (by decide)
  · rw [moPart, if_neg (by rw [c1]; decide)] at eρ ea
    have h0 : JR σ (ρ.ws 0 0) := h.thr 0
    have s0 : (ρ.ws 0 0).s 0 = 0 := ms_ss
    have hI0 : (ρ.ws 0 0).I = ρ.I := rfl
    simp only [ptOk, Bool.and_eq_true, Bool.or_eq_true, decide_eq_true_eq] at c1
    obtain ⟨⟨⟨⟨w1, w8⟩, h1⟩, h8⟩, hsd⟩ := c1
    rw [tL] at w1 w8 h1 h8
    rw [t1] at w1 h1
    rw [show (8 : Int32).toInt = 8 from rfl] at w8 h8
    have hbox := box_eq (x := x) (y := y) (w := pw) (ht := ph) w1 (by omega) h1 (by omega)
    by_cases hf : limV 2 ≤ σ.G 2
    · rw [if_pos ((full_eq hI h (by omega) (by omega)).mpr hf)] at eρ ea
      exact no_mk h0 s0 (mkP_n (c := 1) (by rw [whyMd, if_pos hf]) (by decide)) es ev eρ ea er
    · rw [if_neg (fun q => hf ((full_eq hI h (by omega) (by omega)).mp q))] at eρ ea
      cases hb : moBox x y pw ph with
      | false =>
        rw [if_pos hb] at eρ ea
        rw [hb] at hbox
        generalize hRR : mkR 2 (σ.G 2) sd (-1) (-1) x y (x + (pw - 1)) (y + (ph - 1)) = R at es ev
        have q6 : R 6 = x := by rw [← hRR]; rfl
        have q7 : R 7 = y := by rw [← hRR]; rfl
        have q8 : R 8 = x + (pw - 1) := by rw [← hRR]; rfl
        have q9 : R 9 = y + (ph - 1) := by rw [← hRR]; rfl
        have hW := why2 (R := R) hf (by rw [q6, q7, q8, q9]; exact hbox.symm)
        exact no_mk h0 s0 (mkP_n hW (by decide)) es ev eρ ea er
      | true =>
        rw [hb] at hbox
        rw [if_neg (by rw [hb]; decide)] at eρ ea
        have hob := box_oB w1 (by omega) h1 (by omega) hb
        have eu := box_u hob.1 hob.2.1 hob.2.2.1
        have ev' := box_u hob.2.2.2.1 hob.2.2.2.2.1 (by have := hob.2.2.2.2.2; omega)
        have hbu := bx_u hob.1 hob.2.1 hob.2.2.1 eu
        have hbv := bx_u hob.2.2.2.1 hob.2.2.2.2.1 (by have := hob.2.2.2.2.2; omega) ev'
        rw [barr_eq hI h hob hbu hbv] at eρ ea
        generalize hRR : mkR 2 (σ.G 2) sd (-1) (-1) x y (x + (pw - 1)) (y + (ph - 1)) = R at *
        have R0 : R 0 = 2 := by rw [← hRR]; rfl
        have R1 : R 1 = σ.G 2 := by rw [← hRR]; rfl
        have R2 : R 2 = sd := by rw [← hRR]; rfl
        have R3 : R 3 = -1 := by rw [← hRR]; rfl
        have R4 : R 4 = -1 := by rw [← hRR]; rfl
        have R5 : R 5 = 0 := by rw [← hRR]; rfl
        have R6 : R 6 = x := by rw [← hRR]; rfl
        have R7 : R 7 = y := by rw [← hRR]; rfl
        have R8 : R 8 = x + (pw - 1) := by rw [← hRR]; rfl
        have R9 : R 9 = y + (ph - 1) := by rw [← hRR]; rfl
        have hov := ov_eq (ex := none) (pa := -1) (sd := sd) hI h (fun j hj => bo_eq ⟨fun q => (nomatch q), fun q => by rw [tE, tn (by omega), tm1] at q; omega⟩) hob hbu hbv
        have wy : whyMd σ 2 R none 0 0 31 23 = if barr σ x y (x + (pw - 1)) (y + (ph - 1)) = true then 3 else if anyF (moOvP ρ.I (-1) x y pw ph sd) 0 (mN ρ 2) = true then 4 else 0 := by
          rw [whyMd, if_neg hf, cl_no (Or.inl R0), R0, R2, R6, R7, R8, R9, ← hbox, if_neg (by decide), hov, if_neg (show ¬ (false = true) by decide)]
        cases hba : barr σ x y (x + (pw - 1)) (y + (ph - 1)) with
        | true =>
          rw [hba, if_pos rfl] at wy eρ ea
          exact no_mk h0 s0 (mkP_n wy (by decide)) es ev eρ ea er
        | false =>
          rw [hba, if_neg (by decide)] at wy eρ ea
          cases hoo : anyF (moOvP ρ.I (-1) x y pw ph sd) 0 (mN ρ 2) with
          | true =>
            rw [hoo, if_pos rfl] at wy eρ ea
            exact no_mk h0 s0 (mkP_n wy (by decide)) es ev eρ ea er
          | false =>
            rw [hoo, if_neg (by decide)] at wy eρ ea
            rw [mkP_y wy] at es ev
            have eg : mN ρ 2 = gN σ 2 := mN_g h (by omega) (by omega)
            obtain ⟨eid, t3, htf, esk⟩ := new_id hI (K := 2) (by omega) (by omega) hf
            have J0 : JR (σ.wrs 0) ((ρ.ws 0 0).ws 3 0) := h0.tell 0
            have JM : JR (mkS (σ.wrs 0) 2 (fiN 2 + gN σ 2) R) (moMkS ((ρ.ws 0 0).ws 3 0) 2 (fiN 2 + gN σ 2) (-1) sd x y pw ph (-1)) := by
              refine J0.make (σ := σ.wrs 0) (show hsI (σ.wrs 0) from hI) (by omega) (by omega) hf rfl ms_ss ?_ R0 R1 R5 (by rw [R6, R7, R8, R9]; exact hba) ?_
              · have A1 : (moMkA ((ρ.ws 0 0).ws 3 0) 2 (fiN 2 + gN σ 2) (-1) sd x y pw ph (-1)).I 1 = ρ.I 1 := by rw [mkA_k (by omega), lay_k (by omega)]; rfl
                unfold thR
                rw [A1, mkA_2, mkA_3, mkA_4, mkA_5, mkA_6, mkA_7, mkA_8, up_s, up_s, up_s, up_s, up_s, up_s, up_s, R2, R3, R4, R5, R6, R7, R8, R9]
                have h20 : fiN 2 + gN σ 2 < 20 := by
                  rcases slK_r _ t3 with q | q | q | q <;> omega
                exact ⟨(h.un _ t3 htf).symm, ⟨rfl, rfl, eu, ev'⟩, rfl, hob, Or.inl ⟨h20, rfl, rfl⟩, Or.inl ⟨rfl, rfl⟩, fun q => absurd h20 (by omega), fun q => absurd h20 (by omega)⟩
              · intro q hq eq; rw [tE, tn (by omega), tm1] at eq; omega
            rw [eg] at eρ ea
            rw [es, ev, eρ, ea, er]
            exact ⟨JM, by show (moMkS ((ρ.ws 0 0).ws 3 0) 2 (fiN 2 + gN σ 2) (-1) sd x y pw ph (-1)).s 0 = 0; rw [mkS_s, ms_sn (by decide)]; exact s0, fun _ => by rw [eid]⟩
theorem tT {a b : Int32} : a < b ↔ a.toInt < b.toInt := Int32.lt_iff_toInt_lt
theorem trk1 {p q : Int32} (p0 : 0 ≤ p.toInt) (p1 : p.toInt ≤ 31) (q0 : 0 ≤ q.toInt) (q1 : q.toInt ≤ 31) : (if q < p then q else p) = (if q ≤ p then q else p) ∧ (if p < q then q else p) = (if q ≤ p then q else p) + (p + q - 2 * (if q ≤ p then q else p) + 1) - 1 ∧ 0 ≤ (if q ≤ p then q else p).toInt ∧ 1 ≤ (p + q - 2 * (if q ≤ p then q else p) + 1).toInt ∧ (if q ≤ p then q else p).toInt + (p + q - 2 * (if q ≤ p then q else p) + 1).toInt ≤ (if q ≤ p then p.toInt else q.toInt) + 1 := by
  have e1 : (p + q).toInt = p.toInt + q.toInt := tA (by omega) (by omega)
  have t2 : (2 : Int32).toInt = 2 := rfl
  have e2 : ∀ m : Int32, 0 ≤ m.toInt → m.toInt ≤ 31 → (2 * m).toInt = 2 * m.toInt := fun m h1 h2 => by
    rw [Int32.toInt_mul, t2]; exact Int.bmod_eq_of_le (by omega) (by omega)
  by_cases h : q ≤ p
  · simp only [if_pos h]
    have f1 : (p + q - 2 * q).toInt = p.toInt + q.toInt - 2 * q.toInt := by rw [tS (by rw [e1, e2 q q0 q1]; omega) (by rw [e1, e2 q q0 q1]; omega), e1, e2 q q0 q1]
    have f2 : (p + q - 2 * q + 1).toInt = p.toInt - q.toInt + 1 := by rw [tA (by rw [f1, t1]; omega) (by rw [f1, t1]; omega), f1, t1]; omega
    rw [tL] at h
    refine ⟨?_, ?_, q0, by rw [f2]; omega, by rw [f2]; omega⟩
    · split
      · rfl
      · rename_i z; rw [tT] at z; rw [tE]; omega
    · rw [if_neg (by rw [tT]; omega), tE, bx_u q0 (by rw [f2]; omega) (by rw [f2]; omega) rfl, f2]; omega
  · simp only [if_neg h]
    have f1 : (p + q - 2 * p).toInt = p.toInt + q.toInt - 2 * p.toInt := by rw [tS (by rw [e1, e2 p p0 p1]; omega) (by rw [e1, e2 p p0 p1]; omega), e1, e2 p p0 p1]
    have f2 : (p + q - 2 * p + 1).toInt = q.toInt - p.toInt + 1 := by rw [tA (by rw [f1, t1]; omega) (by rw [f1, t1]; omega), f1, t1]; omega
    rw [tL] at h
    refine ⟨?_, ?_, p0, by rw [f2]; omega, by rw [f2]; omega⟩
    · rw [if_neg (by rw [tT]; omega)]
    · rw [if_pos (by rw [tT]; omega), tE, bx_u p0 (by rw [f2]; omega) (by rw [f2]; omega) rfl, f2]; omega
theorem trk2 {p q m : Int32} : (0 ≤ (if q < p then q else p) ∧ (if q < p then q else p) ≤ (if p < q then q else p) ∧ (if p < q then q else p) ≤ m) ↔ ((0 ≤ p ∧ p ≤ m) ∧ (0 ≤ q ∧ q ≤ m)) := by
  by_cases h : q < p
  · have h' : ¬ p < q := by rw [tT] at *; omega
    simp only [if_pos h, if_neg h', tL, t0]; rw [tT] at h; omega
  · simp only [if_neg h]
    by_cases h2 : p < q
    · simp only [if_pos h2, tL, t0]; rw [tT] at h2; omega
    · simp only [if_neg h2, tL, t0]; rw [tT] at h h2; omega
theorem le31 {p : Int32} : ¬ 32 ≤ p ↔ p ≤ 31 := by rw [tL, tL, t32, t31]; omega
theorem le23 {p : Int32} : ¬ 24 ≤ p ↔ p ≤ 23 := by rw [tL, tL, t24, t23]; omega
theorem trk3 {x0 y0 x1 y1 : Int32} : ar_holds 0 0 31 23 (if x1 < x0 then x1 else x0) (if y1 < y0 then y1 else y0) (if x0 < x1 then x1 else x0) (if y0 < y1 then y1 else y0) = (moCell x0 y0 && moCell x1 y1) := by
  have a := trk2 (p := x0) (q := x1) (m := 31)
  have b := trk2 (p := y0) (q := y1) (m := 23)
  rw [Bool.eq_iff_iff]
  simp only [ar_holds, moCell, Bool.and_eq_true, Bool.not_eq_true', decide_eq_true_eq, decide_eq_false_iff_not, le31, le23]
  constructor
  · rintro ⟨⟨⟨⟨⟨q1, q2⟩, q3⟩, q4⟩, q5⟩, q6⟩
    obtain ⟨⟨a1, a2⟩, a3, a4⟩ := a.mp ⟨q1, q2, q3⟩
    obtain ⟨⟨b1, b2⟩, b3, b4⟩ := b.mp ⟨q4, q5, q6⟩
    exact ⟨⟨⟨⟨a1, a2⟩, b1⟩, b2⟩, ⟨⟨a3, a4⟩, b3⟩, b4⟩
  · rintro ⟨⟨⟨⟨a1, a2⟩, b1⟩, b2⟩, ⟨⟨a3, a4⟩, b3⟩, b4⟩
    obtain ⟨q1, q2, q3⟩ := a.mpr ⟨⟨a1, a2⟩, a3, a4⟩
    obtain ⟨q4, q5, q6⟩ := b.mpr ⟨⟨b1, b2⟩, b3, b4⟩
    exact ⟨⟨⟨⟨⟨q1, q2⟩, q3⟩, q4⟩, q5⟩, q6⟩
theorem lay_of {σ : HS} {ρ : MS} (hI : hsI σ) {la : Int32} (q : (decide (0 ≤ la) && !decide (nI σ.nl ≤ la)) = true) : ∃ L, L < σ.nl ∧ la = nI L := by
  simp only [Bool.and_eq_true, decide_eq_true_eq, Bool.not_eq_true', decide_eq_false_iff_not] at q
  obtain ⟨e, hb⟩ := nI_back q.1
  have := hI.2.2.2.1
  refine ⟨la.toNatClampNeg, ?_, e.symm⟩
  have q2 := q.2
  rw [← e, nI_leI (by omega) hb] at q2; omega
theorem J_track : ok_track JR := by
  intro σ ρ hI h net la x0 y0 x1 y1 r a σ' ans ρ' hR hM
  obtain ⟨ea, eρ⟩ := hM
  have fn := flt h net 1
  have el : moLay (ρ.s 1) la = (decide (0 ≤ la) && !decide (nI σ.nl ≤ la)) := by rw [moLay, h.nl]
  rw [moTrack] at ea eρ
  rcases hR with ⟨c1, er, es⟩ | ⟨c1, c2, er, es⟩ | ⟨c1, c2, c3, er, es⟩ | ⟨c1, c2, c3, c4, er, es⟩ | ⟨c1, c2, c3, c4, er, es, ev⟩
  · rw [c1, if_neg (by decide)] at fn
    rw [fn, if_pos rfl] at eρ
    rw [es]; exact bad h eρ er (by decide)
  · rw [c1, if_pos rfl] at fn
    rw [if_neg (by rw [fn]; split <;> decide), if_pos (by rw [el]; exact c2)] at eρ
    rw [es]; exact bad h eρ er (by decide)
  · rw [c1, if_pos rfl, if_neg c3] at fn
    rw [fn, if_neg (by decide), if_neg (by rw [el, c2]; decide), if_pos rfl] at eρ
    rw [es]; exact bad h eρ er (by decide)
  · rw [c1, if_pos rfl, if_pos c3] at fn
    rw [fn, if_neg (by decide), if_neg (by rw [el, c2]; decide), if_neg (by decide), if_pos c4] at eρ
    rw [es]; exact bad h eρ er (by decide)
  · rw [c1, if_pos rfl, if_pos c3] at fn
    rw [fn, if_neg (by decide), if_neg (by rw [el, c2]; decide), if_neg (by decide), if_neg (by rw [c4]; decide)] at eρ ea
    obtain ⟨n, hn, en, en2⟩ := net_of hI c1 c3
    have h0 : JR σ (ρ.ws 0 0) := h.thr 0
    have s0 : (ρ.ws 0 0).s 0 = 0 := ms_ss
    have eI0 : (ρ.ws 0 0).I = ρ.I := rfl
    have m4 : mN ρ 4 = mN (ρ.ws 0 0) 4 := rfl
    have m6 : mN ρ 6 = mN (ρ.ws 0 0) 6 := rfl
    rw [m4, m6] at eρ ea
    generalize ρ.ws 0 0 = ρ0 at *
    by_cases hf : limV 4 ≤ σ.G 4
    · rw [if_pos (by rw [← eI0]; exact (full_eq hI h0 (by omega) (by omega)).mpr hf)] at eρ ea
      exact no_mk h0 s0 (mkP_n (c := 1) (by rw [whyMd, if_pos hf]) (by decide)) es ev eρ ea er
    · rw [if_neg (by rw [← eI0]; exact fun q => hf ((full_eq hI h0 (by omega) (by omega)).mp q))] at eρ ea
      have hho := trk3 (x0 := x0) (y0 := y0) (x1 := x1) (y1 := y1)
      cases hb : (moCell x0 y0 && moCell x1 y1) with
      | false =>
        rw [if_pos hb] at eρ ea
        rw [hb] at hho
        generalize hRR : mkR 4 (σ.G 4) la net (-1) (if x1 < x0 then x1 else x0) (if y1 < y0 then y1 else y0) (if x0 < x1 then x1 else x0) (if y0 < y1 then y1 else y0) = R at es ev
        have q6 : R 6 = (if x1 < x0 then x1 else x0) := by rw [← hRR]; rfl
        have q7 : R 7 = (if y1 < y0 then y1 else y0) := by rw [← hRR]; rfl
        have q8 : R 8 = (if x0 < x1 then x1 else x0) := by rw [← hRR]; rfl
        have q9 : R 9 = (if y0 < y1 then y1 else y0) := by rw [← hRR]; rfl
        have hW := why2 (R := R) hf (by rw [q6, q7, q8, q9]; exact hho)
        exact no_mk h0 s0 (mkP_n hW (by decide)) es ev eρ ea er
      | true =>
        rw [hb] at hho
        rw [if_neg (by rw [hb]; decide)] at eρ ea
        simp only [moCell, Bool.and_eq_true, Bool.not_eq_true', decide_eq_true_eq, decide_eq_false_iff_not, tL, t0, t32, t24] at hb
        obtain ⟨⟨⟨⟨p1, p2⟩, p3⟩, p4⟩, ⟨⟨p5, p6⟩, p7⟩, p8⟩ := hb
        obtain ⟨ex, eu, o1, o2, o3⟩ := trk1 p1 (by omega) p5 (by omega)
        obtain ⟨ey, ev2, o4, o5, o6⟩ := trk1 p3 (by omega) p7 (by omega)
        have o3' : (if x1 ≤ x0 then x1 else x0).toInt + (x0 + x1 - 2 * (if x1 ≤ x0 then x1 else x0) + 1).toInt ≤ 32 := by
          have hM : (if x1 ≤ x0 then x0.toInt else x1.toInt) ≤ 31 := by split <;> omega
          omega
        have o6' : (if y1 ≤ y0 then y1 else y0).toInt + (y0 + y1 - 2 * (if y1 ≤ y0 then y1 else y0) + 1).toInt ≤ 24 := by
          have hM : (if y1 ≤ y0 then y0.toInt else y1.toInt) ≤ 23 := by split <;> omega
          omega
        rw [ex, ey] at es ev hho
        generalize (if x1 ≤ x0 then x1 else x0) = X at *
        generalize (if y1 ≤ y0 then y1 else y0) = Y at *
        generalize x0 + x1 - 2 * X + 1 = w at *
        generalize y0 + y1 - 2 * Y + 1 = ht at *
        generalize (if x0 < x1 then x1 else x0) = u at *
        generalize (if y0 < y1 then y1 else y0) = v at *
        have hob : oB X Y w ht := ⟨o1, o2, o3', o4, o5, o6'⟩
        have hbx : moBox X Y w ht = true := by
          rw [box_eq o2 (by omega) o5 (by omega), box_u o1 o2 o3', box_u o4 o5 (by omega), ← eu, ← ev2]; exact hho
        obtain ⟨j1, j2, j3⟩ := copper (K := 4) (n := n) (q0 := 0) (ne := net - net / 1000 * 1000) (la := la) (x := X) (y := Y) (w := w) (ht := ht) (pa := -1) (net := net) (u := u) (v := v) (bx := 0) (bY := 0) (bu := 31) (bv := 23) (pb := -1) hI h0 (Or.inr rfl) hf hob eu ev2 hbx hho hn en en2 (fun q => absurd q (by decide)) (fun _ => lay_of (ρ := ρ) hI c2) (Or.inl ⟨rfl, rfl⟩)
        exact yes_mk (M := moMkC ρ0 4 (mN ρ0 4) (mN ρ0 6) (net - net / 1000 * 1000) la X Y w ht (-1)) ⟨j1, by rw [j2]; exact s0, j3⟩ es ev eρ ea er
theorem J_plane : ok_plane JR := by
  intro σ ρ hI h net la r a σ' ans ρ' hR hM
  obtain ⟨ea, eρ⟩ := hM
  have fn := flt h net 1
  have el : moLay (ρ.s 1) la = (decide (0 ≤ la) && !decide (nI σ.nl ≤ la)) := by rw [moLay, h.nl]
  rw [moPlane] at ea eρ
  rcases hR with ⟨c1, er, es⟩ | ⟨c1, c2, er, es⟩ | ⟨c1, c2, c3, er, es⟩ | ⟨c1, c2, c3, er, es, ev⟩
  · rw [c1, if_neg (by decide)] at fn
    rw [fn, if_pos rfl] at eρ
    rw [es]; exact bad h eρ er (by decide)
  · rw [c1, if_pos rfl] at fn
    rw [if_neg (by rw [fn]; split <;> decide), if_pos (by rw [el]; exact c2)] at eρ
    rw [es]; exact bad h eρ er (by decide)
  · rw [c1, if_pos rfl, if_neg c3] at fn
    rw [fn, if_neg (by decide), if_neg (by rw [el, c2]; decide), if_neg (by decide)] at eρ
    rw [es]; exact bad h eρ er (by decide)
  · rw [c1, if_pos rfl, if_pos c3] at fn
    rw [fn, if_neg (by decide), if_neg (by rw [el, c2]; decide), if_pos rfl] at eρ ea
    obtain ⟨n, hn, en, en2⟩ := net_of hI c1 c3
    have h0 : JR σ (ρ.ws 0 0) := h.thr 0
    have s0 : (ρ.ws 0 0).s 0 = 0 := ms_ss
    have hob : oB 0 0 32 24 := by unfold oB; rw [t0, t32, t24]; omega
    have hbar := barr_eq (x := 0) (y := 0) (w := 32) (ht := 24) (u := 31) (v := 23) hI h hob (by decide) (by decide)
    rw [hbar] at eρ ea
    have e31 : (0 : Int32) + (31 - 0) = 31 := by decide
    have e23 : (0 : Int32) + (23 - 0) = 23 := by decide
    rw [e31, e23] at es ev
    by_cases hf : limV 5 ≤ σ.G 5
    · rw [if_pos ((full_eq hI h (by omega) (by omega)).mpr hf)] at eρ ea
      exact no_mk h0 s0 (mkP_n (c := 1) (by rw [whyMd, if_pos hf]) (by decide)) es ev eρ ea er
    · rw [if_neg (fun q => hf ((full_eq hI h (by omega) (by omega)).mp q))] at eρ ea
      generalize hRR : mkR 5 (σ.G 5) la net (-1) 0 0 31 23 = R at *
      have R0 : R 0 = 5 := by rw [← hRR]; rfl
      have R1 : R 1 = σ.G 5 := by rw [← hRR]; rfl
      have R2 : R 2 = la := by rw [← hRR]; rfl
      have R3 : R 3 = net := by rw [← hRR]; rfl
      have R4 : R 4 = -1 := by rw [← hRR]; rfl
      have R5 : R 5 = 0 := by rw [← hRR]; rfl
      have R6 : R 6 = 0 := by rw [← hRR]; rfl
      have R7 : R 7 = 0 := by rw [← hRR]; rfl
      have R8 : R 8 = 31 := by rw [← hRR]; rfl
      have R9 : R 9 = 23 := by rw [← hRR]; rfl
      have wy : whyMd σ 5 R none 0 0 31 23 = if barr σ 0 0 31 23 = true then 3 else if anyF (moPlP ρ.I la) 140 (mN ρ 5) = true then 4 else 0 := by
        rw [whyMd, if_neg hf, cl_no (Or.inr R0), R0, R2, R6, R7, R8, R9, if_neg (by decide), pl_eq hI h, if_neg (show ¬ (false = true) by decide)]
      cases hba : barr σ 0 0 31 23 with
      | true =>
        rw [hba, if_pos rfl] at wy eρ ea
        exact no_mk h0 s0 (mkP_n wy (by decide)) es ev eρ ea er
      | false =>
        rw [hba, if_neg (by decide)] at wy eρ ea
        cases hoo : anyF (moPlP ρ.I la) 140 (mN ρ 5) with
        | true =>
          rw [hoo, if_pos rfl] at wy eρ ea
          exact no_mk h0 s0 (mkP_n wy (by decide)) es ev eρ ea er
        | false =>
          rw [hoo, if_neg (by decide)] at wy eρ ea
          rw [mkP_y wy] at es ev
          have eg : mN ρ 5 = gN σ 5 := mN_g h (by omega) (by omega)
          obtain ⟨eid, t3, htf, esk⟩ := new_id hI (K := 5) (by omega) (by omega) hf
          have J0 : JR (σ.wrs 0) ((ρ.ws 0 0).ws 3 0) := h0.tell 0
          have h140 : 140 ≤ fiN 5 + gN σ 5 := by
            rcases slK_r _ t3 with q | q | q | q <;> omega
          have JM : JR (mkS (σ.wrs 0) 5 (fiN 5 + gN σ 5) R) (moMkS ((ρ.ws 0 0).ws 3 0) 5 (fiN 5 + gN σ 5) (net - net / 1000 * 1000) la 0 0 32 24 (-1)) := by
            refine J0.make (σ := σ.wrs 0) (show hsI (σ.wrs 0) from hI) (by omega) (by omega) hf rfl ms_ss ?_ R0 R1 R5 (by rw [R6, R7, R8, R9]; exact hba) ?_
            · have A1 : (moMkA ((ρ.ws 0 0).ws 3 0) 5 (fiN 5 + gN σ 5) (net - net / 1000 * 1000) la 0 0 32 24 (-1)).I 1 = ρ.I 1 := by rw [mkA_k (by omega), lay_k (by omega)]; rfl
              unfold thR
              rw [A1, mkA_2, mkA_3, mkA_4, mkA_5, mkA_6, mkA_7, mkA_8, up_s, up_s, up_s, up_s, up_s, up_s, up_s, R2, R3, R4, R5, R6, R7, R8, R9]
              exact ⟨(h.un _ t3 htf).symm, ⟨rfl, rfl, by decide, by decide⟩, rfl, hob, Or.inr ⟨by omega, n, hn, en, en2⟩, Or.inl ⟨rfl, rfl⟩, fun _ q => absurd h140 (by omega), fun _ => lay_of (ρ := ρ) hI c2⟩
            · intro q hq eq; rw [tE, tn (by omega), tm1] at eq; omega
          rw [eg] at eρ ea
          rw [es, ev, eρ, ea, er]
          exact ⟨JM, by show (moMkS ((ρ.ws 0 0).ws 3 0) 5 (fiN 5 + gN σ 5) (net - net / 1000 * 1000) la 0 0 32 24 (-1)).s 0 = 0; rw [mkS_s, ms_sn (by decide)]; exact s0, fun _ => by rw [eid]⟩
