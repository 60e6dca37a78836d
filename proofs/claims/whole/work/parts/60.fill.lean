/-! the model: what grows in a layer, to its end -/
def lIn (F g : Nat → Int64) (la : Nat) : Prop := ∀ r, r < 24 → ∀ x, x < 64 → lq (g (24 * la + r)) x = true → lq (F (24 * la + r)) x = true
def l32 (F : Nat → Int64) (la : Nat) : Prop := ∀ r, r < 24 → ∀ x, x < 64 → lq (F (24 * la + r)) x = true → x < 32
def lSub (la : Nat) (g G : Nat → Int64) : Prop := ∀ r, r < 24 → ∀ x, x < 64 → lq (g (24 * la + r)) x = true → lq (G (24 * la + r)) x = true
def lCl (F C : Nat → Int64) (la : Nat) : Prop := ∀ r, r < 24 → ∀ x, x < 64 → lq (grRow F C la r) x = true → lq (C (24 * la + r)) x = true
def lOut (la : Nat) (g G : Nat → Int64) : Prop := ∀ j, (j < 24 * la ∨ 24 * la + 24 ≤ j) → G j = g j
def cel (la : Nat) (g : Nat → Int64) : Nat := sumN (fun r => pcn (g (24 * la + r))) 0 24
theorem lSub_rf {la : Nat} {g : Nat → Int64} : lSub la g g := fun _ _ _ _ h => h
theorem lSub_tr {la : Nat} {g h k : Nat → Int64} (a : lSub la g h) (b : lSub la h k) : lSub la g k := fun r hr x hx q => b r hr x hx (a r hr x hx q)
theorem q_row {F g : Nat → Int64} {la r x : Nat} (hx : x < 64) : lq (grRow F g la r) x = (((decide (x < 32) && (lq (g (24 * la + r)) x || (decide (1 ≤ x) && lq (g (24 * la + r)) (x - 1)) || lq (g (24 * la + r)) (1 + x))) || (if 0 < r then lq (g (24 * la + r - 1)) x else false) || (if r < 23 then lq (g (24 * la + r + 1)) x else false)) && lq (F (24 * la + r)) x) := by
  unfold grRow
  rw [q_and, q_or, q_or, show moWd (g (24 * la + r)) 1 = moW1 (g (24 * la + r)) from rfl, q_W1 _ hx]
  congr 2
  · congr 1
    split
    · rfl
    · exact q_0 x
  · split
    · rfl
    · exact q_0 x
theorem row_inc {F g : Nat → Int64} {la r x : Nat} (hF : l32 F la) (hi : lIn F g la) (hr : r < 24) (hx : x < 64) (h : lq (g (24 * la + r)) x = true) : lq (grRow F g la r) x = true := by
  have hf := hi r hr x hx h
  rw [q_row hx, h, hf, decide_eq_true (hF r hr x hx hf)]
  simp
theorem row_in {F g : Nat → Int64} {la r x : Nat} (hx : x < 64) (h : lq (grRow F g la r) x = true) : lq (F (24 * la + r)) x = true := by
  rw [q_row hx, Bool.and_eq_true] at h; exact h.2
theorem row_mon {F g c : Nat → Int64} {la r x : Nat} (hs : lSub la g c) (hr : r < 24) (hx : x < 64) (h : lq (grRow F g la r) x = true) : lq (grRow F c la r) x = true := by
  rw [q_row hx] at h ⊢
  simp only [Bool.and_eq_true, Bool.or_eq_true, decide_eq_true_eq] at h ⊢
  obtain ⟨h, hf⟩ := h
  refine ⟨?_, hf⟩
  rcases h with (⟨h32, h⟩ | h) | h
  · refine Or.inl (Or.inl ⟨h32, ?_⟩)
    rcases h with (h | ⟨h1, h⟩) | h
    · exact Or.inl (Or.inl (hs r hr x hx h))
    · exact Or.inl (Or.inr ⟨h1, hs r hr (x - 1) (by omega) h⟩)
    · exact Or.inr (hs r hr (1 + x) (by omega) h)
  · refine Or.inl (Or.inr ?_)
    by_cases h0 : 0 < r
    · rw [if_pos h0] at h ⊢
      have := hs (r - 1) (by omega) x hx (by rw [show 24 * la + (r - 1) = 24 * la + r - 1 by omega]; exact h)
      rw [show 24 * la + (r - 1) = 24 * la + r - 1 by omega] at this; exact this
    · rw [if_neg h0] at h; cases h
  · refine Or.inr ?_
    by_cases h0 : r < 23
    · rw [if_pos h0] at h ⊢
      exact hs (r + 1) (by omega) x hx h
    · rw [if_neg h0] at h; cases h
theorem uL_s {f : Nat → Int64} {i : Nat} {x : Int64} : vp_updL f i x i = x := by simp [vp_updL]
theorem uL_n {f : Nat → Int64} {i j : Nat} {x : Int64} (h : j ≠ i) : vp_updL f i x j = f j := by simp [vp_updL, h]
theorem sumN_le {f g : Nat → Nat} : ∀ (n i : Nat), (∀ j, i ≤ j → j < i + n → f j ≤ g j) → sumN f i n ≤ sumN g i n := by
  intro n
  induction n with
  | zero => intro i _; exact Nat.le_refl _
  | succ n ih => intro i h; rw [sumN, sumN]; exact Nat.add_le_add (h i (by omega) (by omega)) (ih (i + 1) (fun j a b => h j (by omega) (by omega)))
theorem sumN_lt {f g : Nat → Nat} {m : Nat} : ∀ (n i : Nat), (∀ j, i ≤ j → j < i + n → f j ≤ g j) → i ≤ m → m < i + n → f m < g m → sumN f i n < sumN g i n := by
  intro n
  induction n with
  | zero => intro i _ h1 h2; omega
  | succ n ih =>
    intro i h h1 h2 h3
    rw [sumN, sumN]
    have a := h i (by omega) (by omega)
    by_cases him : i = m
    · subst him
      have := sumN_le n (i + 1) (fun j a b => h j (by omega) (by omega))
      omega
    · have := ih (i + 1) (fun j a b => h j (by omega) (by omega)) (by omega) (by omega) h3
      omega
theorem sumN_max {f : Nat → Nat} {b : Nat} : ∀ (n i : Nat), (∀ j, f j ≤ b) → sumN f i n ≤ n * b := by
  intro n
  induction n with
  | zero => intro i _; exact Nat.zero_le _
  | succ n ih => intro i h; rw [sumN, Nat.succ_mul]; have := ih (i + 1) h; have := h i; omega
theorem cel_max (la : Nat) (g : Nat → Int64) : cel la g ≤ 1536 := sumN_max 24 0 (fun j => cntF_max 64 0)
theorem pcn_lt {v w : Int64} (h : ∀ x, x < 64 → lq v x = true → lq w x = true) (hne : ¬ w = v) : pcn v < pcn w := by
  refine cntF_lt 64 0 (fun j _ hj => h j (by omega)) ?_
  apply Classical.byContradiction
  intro hn
  refine hne (q_ext (fun i hi => ?_))
  cases hw : lq w i with
  | false => cases hv : lq v i with
    | false => rfl
    | true => rw [h i hi hv] at hw; cases hw
  | true => cases hv : lq v i with
    | true => rfl
    | false => exact absurd ⟨i, by omega, by omega, hv, hw⟩ hn
/-- one pass -/
theorem gr_pass {F g : Nat → Int64} {la : Nat} (hF : l32 F la) (hi : lIn F g la) : ∀ n : Nat, n ≤ 24 → lIn F (moGr F la g n) la ∧ lSub la g (moGr F la g n) ∧ lOut la g (moGr F la g n) ∧ (∀ C, lCl F C la → lSub la g C → lSub la (moGr F la g n) C) ∧ ((anyF (moGm F la g) 0 n = false ∧ moGr F la g n = g) ∨ (anyF (moGm F la g) 0 n = true ∧ cel la g < cel la (moGr F la g n))) := by
  intro n
  induction n with
  | zero => intro _; exact ⟨hi, lSub_rf, fun _ _ => rfl, fun _ _ h => h, Or.inl ⟨rfl, rfl⟩⟩
  | succ n ih =>
    intro hn
    obtain ⟨a1, a2, a3, a4, a5⟩ := ih (by omega)
    have hinc : lSub la (moGr F la g n) (moGr F la g (n + 1)) := fun r hr x hx q => by
      rw [moGr]
      by_cases hrn : r = n
      · subst hrn; rw [uL_s]; exact row_inc hF a1 hr hx q
      · rw [uL_n (by omega)]; exact q
    refine ⟨fun r hr x hx q => ?_, lSub_tr a2 hinc, fun j hj => ?_, fun C hC hs r hr x hx q => ?_, ?_⟩
    · rw [moGr] at q
      by_cases hrn : r = n
      · subst hrn; rw [uL_s] at q; exact row_in hx q
      · rw [uL_n (by omega)] at q; exact a1 r hr x hx q
    · rw [moGr, uL_n (by omega)]; exact a3 j hj
    · rw [moGr] at q
      by_cases hrn : r = n
      · subst hrn; rw [uL_s] at q; exact hC r hr x hx (row_mon (a4 C hC hs) hr hx q)
      · rw [uL_n (by omega)] at q; exact a4 C hC hs r hr x hx q
    · have hle : ∀ j, pcn (moGr F la g n (24 * la + j)) ≤ pcn (moGr F la g (n + 1) (24 * la + j)) := fun j => by
        by_cases hj : j < 24
        · exact cntF_le 64 0 (fun x _ hx => hinc j hj x (by omega))
        · rw [show moGr F la g (n + 1) (24 * la + j) = moGr F la g n (24 * la + j) by rw [moGr, uL_n (by omega)]]; exact Nat.le_refl _
      rw [anyF_snoc, Nat.zero_add]
      by_cases he : grRow F (moGr F la g n) la n = moGr F la g n (24 * la + n)
      · have hm : moGm F la g n = false := by rw [moGm, decide_eq_true he]; rfl
        have hs : moGr F la g (n + 1) = moGr F la g n := by
          funext j
          rw [moGr]
          by_cases hj : j = 24 * la + n
          · rw [hj, uL_s, he]
          · rw [uL_n hj]
        rw [hm, Bool.or_false, hs]; exact a5
      · have hm : moGm F la g n = true := by rw [moGm, decide_eq_false he]; rfl
        refine Or.inr ⟨by rw [hm, Bool.or_true], ?_⟩
        have hlt : cel la (moGr F la g n) < cel la (moGr F la g (n + 1)) := sumN_lt (m := n) 24 0 (fun j _ _ => hle j) (by omega) (by omega) (pcn_lt (fun x hx q => hinc n (by omega) x hx q) (by rw [moGr, uL_s]; exact he))
        rcases a5 with ⟨-, e⟩ | ⟨-, h5⟩
        · rw [e] at hlt; exact hlt
        · omega
/-- grown to its end -/
def lFin (F g G : Nat → Int64) (la : Nat) : Prop := lIn F G la ∧ lSub la g G ∧ lOut la g G ∧ (∀ C, lCl F C la → lSub la g C → lSub la G C) ∧ lCl F G la
def lMid (F g G : Nat → Int64) (la : Nat) (q : Int32) : Prop := lIn F G la ∧ lSub la g G ∧ lOut la g G ∧ (∀ C, lCl F C la → lSub la g C → lSub la G C) ∧ (q = 0 → lCl F G la)
theorem mid_s {F g G : Nat → Int64} {la : Nat} {q : Int32} (hF : l32 F la) (h : lMid F g G la q) : lMid F g (moGr F la G 24) la (bI (anyF (moGm F la G) 0 24)) ∧ ((anyF (moGm F la G) 0 24 = false) ∨ (anyF (moGm F la G) 0 24 = true ∧ cel la G < cel la (moGr F la G 24))) := by
  obtain ⟨h1, h2, h3, h4, h5⟩ := h
  obtain ⟨a1, a2, a3, a4, a5⟩ := gr_pass hF h1 24 (Nat.le_refl _)
  refine ⟨⟨a1, lSub_tr h2 a2, fun j hj => (a3 j hj).trans (h3 j hj), fun C hC hs => a4 C hC (h4 C hC hs), fun hq => ?_⟩, ?_⟩
  · rcases a5 with ⟨hf, e⟩ | ⟨ht, -⟩
    · rw [e]
      intro r hr x hx q
      have hm : moGm F la G r = false := by
        cases hx2 : moGm F la G r with
        | false => rfl
        | true => rw [(anyF_iff 24 0).mpr ⟨r, by omega, by omega, hx2⟩] at hf; cases hf
      obtain ⟨-, -, -, -, b5⟩ := gr_pass hF h1 r (by omega)
      have hfr : anyF (moGm F la G) 0 r = false := by
        cases hy : anyF (moGm F la G) 0 r with
        | false => rfl
        | true => obtain ⟨j, c1, c2, c3⟩ := (anyF_iff r 0).mp hy; rw [(anyF_iff 24 0).mpr ⟨j, c1, by omega, c3⟩] at hf; cases hf
      have er : moGr F la G r = G := by
        rcases b5 with ⟨-, e⟩ | ⟨ht, -⟩
        · exact e
        · rw [hfr] at ht; cases ht
      rw [moGm, er] at hm
      have this : grRow F G la r = G (24 * la + r) := by simpa using hm
      rw [this] at q; exact q
    · rw [ht] at hq; exact absurd hq (by decide)
  · rcases a5 with ⟨hf, -⟩ | h
    · exact Or.inl hf
    · exact Or.inr h
theorem wL_w3 {ρ : MS} {a b c : Nat → Int64} {f : Nat → Int64} : (((ρ.wL 0 a).wL 1 b).wL 2 c).wL 2 f = ((ρ.wL 0 a).wL 1 b).wL 2 f := wL_wL
def flS (o f g : Nat → Int64) (a n : Nat) : Nat → Int64 := fun j => if a ≤ j ∧ j < a + n then o j &&& f j else g j
theorem flS_s {o f g : Nat → Int64} {a i : Nat} (h : a ≤ i) : vp_updL (flS o f g a (i - a)) i (o i &&& f i) = flS o f g a (i + 1 - a) := by
  funext j
  simp only [vp_updL, flS]
  by_cases hj : j = i
  · rw [if_pos hj, if_pos (by omega), hj]
  · rw [if_neg hj]
    by_cases h2 : a ≤ j ∧ j < a + (i - a)
    · rw [if_pos h2, if_pos (by omega)]
    · rw [if_neg h2, if_neg (by omega)]
theorem flS_0 {o f g : Nat → Int64} {a i : Nat} (h : i = a) : flS o f g a (i - a) = g := by
  funext j; simp only [flS]; rw [if_neg (by omega)]
theorem fl_mid {o f g : Nat → Int64} {la : Nat} : lMid f (flS o f g (24 * la) 24) (flS o f g (24 * la) 24) la 1 :=
  ⟨fun r hr x hx q => by
    simp only [flS] at q
    rw [if_pos (by omega), q_and, Bool.and_eq_true] at q
    exact q.2, lSub_rf, fun _ _ => rfl, fun _ _ h => h, fun q => absurd q (by decide)⟩
/-- free rows have bits of cells alone -/
theorem ll_32 {ρ : MS} {ne : Int32} {la g : Nat} : ∀ n : Nat, l32 (moLL ρ ne la g n).2 la := by
  intro n
  induction n with
  | zero =>
    intro r hr x hx q
    simp only [moLL, clR] at q
    rw [if_pos (by omega), q_all x hx] at q
    exact of_decide_eq_true q
  | succ n ih =>
    rw [moLL]
    split
    · split
      · exact ih
      · intro r hr x hx q
        simp only [anR] at q
        split at q
        · rw [q_and, Bool.and_eq_true] at q; exact ih r hr x hx q.1
        · exact ih r hr x hx q
    · exact ih
set_option maxHeartbeats 4000000 in
set_option maxRecDepth 100000 in
/-- fill -/
theorem c_Mo_fill (l : Launch) (D : va_G) (N0 : Nat) (k : Nat → Nat) (V : HV) (mo : Nat) (ad : Nat → Nat) (ρ : MS) (hM : mdOk k V mo ad ρ) (ne : Int32) (la0 g0 : Nat) (hla : la0 < 4) (hg5 : g0 < 5) (hg0 : ρ.s 2 = nI g0) (hCv : moCv ρ) : Met l y_Mo_fill (.code y_Mo_fill b_Mo_fill 4 none :: WS) ({ frames := 3, cells := 0, slots := 0, locals := 68 }) (mP D N0 k [.ref mo, .int ne, .int (nI la0)] V) (va_Qv (fun V' => ∃ G, mdOk k V' mo ad (((ρ.wL 0 (moLL ρ ne la0 g0 120).1).wL 1 (moLL ρ ne la0 g0 120).2).wL 2 G) ∧ mdFr mo ad V V' ∧ lFin (moLL ρ ne la0 g0 120).2 (flS (moLL ρ ne la0 g0 120).1 (moLL ρ ne la0 g0 120).2 (ρ.L 2) (24 * la0) 24) G la0) (mB D N0) (hA N0)) 0 0 (hA N0) := by
  refine Met.ofW (cc := b_Mo_fill) (maxL := 4) (ret := none) (by decide) rfl ?_
  intro p e s m args below meth c s₁ B hml hv0
  obtain ⟨rfl, hG, hV⟩ := hv0
  have hx := B.exec
  have hb := B.bytes
  have hr := B.returns
  have hts := atoms_spec (ws := .code y_Mo_fill b_Mo_fill 4 none :: WS) B.pre
  have hW : ∀ w ∈ WS, w.before _ s = true := fun w h => hts w (List.mem_cons_of_mem _ h)
  have hown : s.vm.findClass "BoardHouseModel" = some m.cls := findClass_of_methodNamed B.named
  have hlocks := B.notSynchronized
  have hS : va_S (hA N0) s.heap s.heap [] := va_S.rf
  have hl := lv_entry ([.ref mo, .int ne, .int (nI la0)]) (n := 4) (Nat.le_of_ble_eq_true rfl)
  rw [lg_entry_eq]
  generalize (lg_sl ([.ref mo, .int ne, .int (nI la0)]) ++ List.replicate (4 - (lg_sl ([.ref mo, .int ne, .int (nI la0)])).length) Slot.unset).toArray = ls at hl ⊢
  have hl : lv_has ls 4 [(0, .ref mo), (1, .int ne), (2, .int (nI la0))] := hl
  have hm_1 : V mo = some (.inr (7, [.int (ρ.s 0), .int (ρ.s 1), .int (ρ.s 2), .int (ρ.s 3), .ref (ad 0), .ref (ad 1), .ref (ad 2), .ref (ad 3), .ref (ad 4), .ref (ad 5), .ref (ad 6), .ref (ad 7), .ref (ad 8), .int (ρ.s 4), .ref (ad 9), .ref (ad 10), .ref (ad 11), .ref (ad 12), .ref (ad 13), .ref (ad 14), .ref (ad 15), .ref (ad 16), .ref (ad 17), .ref (ad 18), .ref (ad 19), .ref (ad 20), .ref (ad 21), .ref (ad 22), .ref (ad 23), .ref (ad 24), .ref (ad 25)])) := hM.1
  have hm_1_23 : V (ad 23) = some (eL k 96 (ρ.L 0)) := hM.a23
  have hm_1_24 : V (ad 24) = some (eL k 96 (ρ.L 1)) := hM.a24
  have hm_1_25 : V (ad 25) = some (eL k 96 (ρ.L 2)) := hM.a25
  refine lv_aload_n hx hb d_Mo_fill_0 rfl (lv_at hl 0 rfl) ?_
  refine lv_iload_n hx hb d_Mo_fill_1 rfl (lv_at hl 1 rfl) ?_
  refine lv_iload_n hx hb d_Mo_fill_2 rfl (lv_at hl 2 rfl) ?_
  refine rc_V (va_runV (As := [.int ne, .int (nI la0)]) (rest := []) ⟨hx, hb, hml, hown, hts⟩ (c_Mo_layLayer l D N0 k V mo ad ρ hM ne la0 g0 hla hg5 hg0 hCv) (cwV 2 hts (gi_V wm_Mo_216 wv_Mo_layLayer ws_Mo_layLayer wi_Mo wc_Mo_layLayer) rfl rfl rfl (by decide +kernel) ⟨Nat.le_of_ble_eq_true rfl, Nat.le_of_ble_eq_true rfl⟩) (mP.preV hG hS hV hm_1 rfl) rfl rfl hl.1 rfl (lv_room (Nat.le_of_ble_eq_true rfl)) d_Mo_fill_3 ⟨Nat.le_of_ble_eq_true rfl, Nat.le_of_ble_eq_true rfl⟩) hS (fun V_2 H locs hp_3 hV hS => ?_)
  obtain ⟨hM_4, hM_4R⟩ := hp_3
  obtain ⟨o9, eo9⟩ : ∃ z, z = (moLL ρ ne la0 g0 120).1 := ⟨_, rfl⟩
  obtain ⟨f9, ef9⟩ : ∃ z, z = (moLL ρ ne la0 g0 120).2 := ⟨_, rfl⟩
  rw [← eo9, ← ef9] at hM_4
  have h32 : l32 f9 la0 := by rw [ef9]; exact ll_32 120
  have hm_5 : V_2 mo = some (.inr (7, [.int (ρ.s 0), .int (ρ.s 1), .int (ρ.s 2), .int (ρ.s 3), .ref (ad 0), .ref (ad 1), .ref (ad 2), .ref (ad 3), .ref (ad 4), .ref (ad 5), .ref (ad 6), .ref (ad 7), .ref (ad 8), .int (ρ.s 4), .ref (ad 9), .ref (ad 10), .ref (ad 11), .ref (ad 12), .ref (ad 13), .ref (ad 14), .ref (ad 15), .ref (ad 16), .ref (ad 17), .ref (ad 18), .ref (ad 19), .ref (ad 20), .ref (ad 21), .ref (ad 22), .ref (ad 23), .ref (ad 24), .ref (ad 25)])) := hM_4.1
  have hm_5_23 : V_2 (ad 23) = some (eL k 96 o9) := hM_4.a23
  have hm_5_24 : V_2 (ad 24) = some (eL k 96 f9) := hM_4.a24
  have hm_5_25 : V_2 (ad 25) = some (eL k 96 (ρ.L 2)) := hM_4.a25
  refine lv_bipush (v := 24) hx hb d_Mo_fill_6 (by decide) ?_
  refine lv_iload_n hx hb d_Mo_fill_8 rfl (lv_at hl 2 rfl) ?_
  refine lv_imul hx hb d_Mo_fill_9 ?_
  refine W.eq (g2 := F0 m 10 ls [.int (nI (24 * la0))]) (by rw [show (24 : Int32) = nI 24 from rfl, nI_mulN]) ?_
  refine lv_istore_n (lv' := [(3, .int (nI (24 * la0))), (0, .ref mo), (1, .int ne), (2, .int (nI la0))]) hx hb d_Mo_fill_10 rfl hl (by decide) rfl (fun ls hl => ?_)
  have loop_6 : ∀ (n i : Nat) (V1 : HV) (g : Nat → Int64) (H : Heap) (locs : List Loc) (ls : Array Slot), i ≤ (24 * la0 + 24) → (24 * la0 + 24) + 1 ≤ i + n → (mdOk k V1 mo ad (((ρ.wL 0 o9).wL 1 f9).wL 2 g) ∧ mdFr mo ad V V1 ∧ g = flS o9 f9 (ρ.L 2) (24 * la0) (i - 24 * la0) ∧ 24 * la0 ≤ i) → hv D vwCl N0 V1 H → va_S (hA N0) s.heap H locs → lv_has ls 4 [(0, .ref mo), (1, .int ne), (2, .int (nI la0)), (3, .int (nI i))] → W p l e (headSpec (.code y_Mo_fill b_Mo_fill 4 none :: WS) ({ frames := 3, cells := 0, slots := 0, locals := 68 })).room s m #[.ref mo, .int ne, .int (nI la0)] below meth c H locs 0 0 (MQ below (va_Qv (fun V' => ∃ G, mdOk k V' mo ad (((ρ.wL 0 (moLL ρ ne la0 g0 120).1).wL 1 (moLL ρ ne la0 g0 120).2).wL 2 G) ∧ mdFr mo ad V V' ∧ lFin (moLL ρ ne la0 g0 120).2 (flS (moLL ρ ne la0 g0 120).1 (moLL ρ ne la0 g0 120).2 (ρ.L 2) (24 * la0) 24) G la0) (mB D N0) (hA N0)) #[.ref mo, .int ne, .int (nI la0)] s 0 0 (hA N0)) (F0 m 11 ls []) := by
    intro n
    induction n with
    | zero => intro i V1 g H locs ls h1 h2; exact absurd h2 (by omega)
    | succ n ih =>
      intro i V1 g H locs ls hi hin hI hV hS hl
      obtain ⟨hM1, hR1, hg1, hi24⟩ := hI
      have hm_7 : V1 mo = some (.inr (7, [.int (ρ.s 0), .int (ρ.s 1), .int (ρ.s 2), .int (ρ.s 3), .ref (ad 0), .ref (ad 1), .ref (ad 2), .ref (ad 3), .ref (ad 4), .ref (ad 5), .ref (ad 6), .ref (ad 7), .ref (ad 8), .int (ρ.s 4), .ref (ad 9), .ref (ad 10), .ref (ad 11), .ref (ad 12), .ref (ad 13), .ref (ad 14), .ref (ad 15), .ref (ad 16), .ref (ad 17), .ref (ad 18), .ref (ad 19), .ref (ad 20), .ref (ad 21), .ref (ad 22), .ref (ad 23), .ref (ad 24), .ref (ad 25)])) := hM1.1
      have hm_7_23 : V1 (ad 23) = some (eL k 96 o9) := hM1.a23
      have hm_7_24 : V1 (ad 24) = some (eL k 96 f9) := hM1.a24
      have hm_7_25 : V1 (ad 25) = some (eL k 96 g) := hM1.a25
      refine lv_iload_n hx hb d_Mo_fill_11 rfl (lv_at hl 3 rfl) ?_
      refine lv_bipush (v := 24) hx hb d_Mo_fill_12 (by decide) ?_
      refine lv_iload_n hx hb d_Mo_fill_14 rfl (lv_at hl 2 rfl) ?_
      refine lv_imul hx hb d_Mo_fill_15 ?_
      refine lv_bipush (v := 24) hx hb d_Mo_fill_16 (by decide) ?_
      refine lv_iadd hx hb d_Mo_fill_18 ?_
      refine W.eq (g2 := F0 m 19 ls [.int (nI (24 * la0 + 24)), .int (nI i)]) (by rw [show (24 : Int32) = nI 24 from rfl, nI_mulN, nI_add]) ?_
      refine lv_icmp_ge (tgt := 47) hx hb d_Mo_fill_19 (by decide) (fun c_8 => ?_) (fun c_8 => ?_)
      · have hge : (24 * la0 + 24) ≤ i := nI_le' (a := (24 * la0 + 24)) (b := i) c_8 (by omega) (by omega)
        refine lv_iconst (v := 1) hx hb d_Mo_fill_47 (by decide) ?_
        refine lv_istore_n (lv' := [(3, .int 1), (0, .ref mo), (1, .int ne), (2, .int (nI la0))]) hx hb d_Mo_fill_48 rfl hl (by decide) rfl (fun ls hl => ?_)
        have e24 : i - 24 * la0 = 24 := by omega
        rw [e24] at hg1
        have loop : ∀ (n : Nat) (V9 : HV) (G : Nat → Int64) (q9 : Int32) (H : Heap) (locs : List Loc) (ls : Array Slot), ((q9 = 0 ∧ 1 ≤ n) ∨ 1538 ≤ cel la0 G + n) → mdOk k V9 mo ad (((ρ.wL 0 o9).wL 1 f9).wL 2 G) → mdFr mo ad V V9 → lMid f9 g G la0 q9 → hv D vwCl N0 V9 H → va_S (hA N0) s.heap H locs → lv_has ls 4 [(0, .ref mo), (1, .int ne), (2, .int (nI la0)), (3, .int q9)] → W p l e (headSpec (.code y_Mo_fill b_Mo_fill 4 none :: WS) ({ frames := 3, cells := 0, slots := 0, locals := 68 })).room s m #[.ref mo, .int ne, .int (nI la0)] below meth c H locs 0 0 (MQ below (va_Qv (fun V' => ∃ G, mdOk k V' mo ad (((ρ.wL 0 (moLL ρ ne la0 g0 120).1).wL 1 (moLL ρ ne la0 g0 120).2).wL 2 G) ∧ mdFr mo ad V V' ∧ lFin (moLL ρ ne la0 g0 120).2 (flS (moLL ρ ne la0 g0 120).1 (moLL ρ ne la0 g0 120).2 (ρ.L 2) (24 * la0) 24) G la0) (mB D N0) (hA N0)) #[.ref mo, .int ne, .int (nI la0)] s 0 0 (hA N0)) (F0 m 49 ls []) := by
          intro n
          induction n with
          | zero => intro V9 G q9 H locs ls h; have := cel_max la0 G; exact absurd h (by omega)
          | succ n ih =>
            intro V9 G q9 H locs ls hn hM9 hR9 hI9 hV hS hl
            have hm_9 : V9 mo = some (.inr (7, [.int (ρ.s 0), .int (ρ.s 1), .int (ρ.s 2), .int (ρ.s 3), .ref (ad 0), .ref (ad 1), .ref (ad 2), .ref (ad 3), .ref (ad 4), .ref (ad 5), .ref (ad 6), .ref (ad 7), .ref (ad 8), .int (ρ.s 4), .ref (ad 9), .ref (ad 10), .ref (ad 11), .ref (ad 12), .ref (ad 13), .ref (ad 14), .ref (ad 15), .ref (ad 16), .ref (ad 17), .ref (ad 18), .ref (ad 19), .ref (ad 20), .ref (ad 21), .ref (ad 22), .ref (ad 23), .ref (ad 24), .ref (ad 25)])) := hM9.1
            have hm_9_23 : V9 (ad 23) = some (eL k 96 o9) := hM9.a23
            have hm_9_24 : V9 (ad 24) = some (eL k 96 f9) := hM9.a24
            have hm_9_25 : V9 (ad 25) = some (eL k 96 G) := hM9.a25
            refine lv_iload_n hx hb d_Mo_fill_49 rfl (lv_at hl 3 rfl) ?_
            refine lv_if_eq (tgt := 62) hx hb d_Mo_fill_50 (by decide) (fun c_10 => ?_) (fun c_10 => ?_)
            · exact W.vret hx hb hr (fun t9 ht hW => ⟨⟨V9, rfl, ⟨G, by rw [← eo9, ← ef9]; exact hM9, hR9, by rw [← ef9, ← eo9, ← hg1]; exact ⟨hI9.1, hI9.2.1, hI9.2.2.1, hI9.2.2.2.1, hI9.2.2.2.2 c_10⟩⟩, mB_of ht hV⟩, hS.F ht⟩) hS.2.2 d_Mo_fill_62
            · refine lv_aload_n hx hb d_Mo_fill_53 rfl (lv_at hl 0 rfl) ?_
              refine lv_iload_n hx hb d_Mo_fill_54 rfl (lv_at hl 2 rfl) ?_
              refine rc_I (va_runV (As := [.int (nI la0)]) (rest := []) ⟨hx, hb, hml, hown, hts⟩ (c_Mo_grow l D N0 k V9 mo ad (((ρ.wL 0 o9).wL 1 f9).wL 2 G) hM9 la0 hla) (cwV 1 hts (gi_V wm_Mo_220 wv_Mo_grow ws_Mo_grow wi_Mo wc_Mo_grow) rfl rfl rfl (by decide +kernel) ⟨Nat.le_of_ble_eq_true rfl, Nat.le_of_ble_eq_true rfl⟩) (mP.preV hG hS hV hm_9 rfl) rfl rfl hl.1 rfl (lv_room (Nat.le_of_ble_eq_true rfl)) d_Mo_fill_55 ⟨Nat.le_of_ble_eq_true rfl, Nat.le_of_ble_eq_true rfl⟩) hS (fun r_11 V_12 H locs hp_13 hV hS => ?_)
              obtain ⟨hM_14, hM_14R, hM_14e⟩ := hp_13
              subst hM_14e
              refine W.eq (g2 := F0 m 58 ls [.int (bI (anyF (moGm f9 la0 G) 0 24))]) rfl ?_
              have hM_14q : mdOk k V_12 mo ad (((ρ.wL 0 o9).wL 1 f9).wL 2 (moGr f9 la0 G 24)) := by have q := hM_14; rw [wL_wL] at q; exact q
              refine lv_istore_n (lv' := [(3, .int (bI (anyF (moGm f9 la0 G) 0 24))), (0, .ref mo), (1, .int ne), (2, .int (nI la0))]) hx hb d_Mo_fill_58 rfl hl (by decide) rfl (fun ls hl => ?_)
              refine lv_goto (tgt := 49) hx hb d_Mo_fill_59 (by decide) ?_
              obtain ⟨hI2, hc2⟩ := mid_s h32 hI9
              have hn2 : (bI (anyF (moGm f9 la0 G) 0 24) = 0 ∧ 1 ≤ n) ∨ 1538 ≤ cel la0 (moGr f9 la0 G 24) + n := by
                have hmx := cel_max la0 G
                have hn1 : 1538 ≤ cel la0 G + (n + 1) := hn.elim (fun h => absurd h.1 c_10) (fun h => h)
                rcases hc2 with h | ⟨_, h⟩
                · exact Or.inl ⟨by rw [h]; rfl, by omega⟩
                · exact Or.inr (by omega)
              exact ih V_12 _ _ _ _ _ hn2 hM_14q (hR9.tr hM_14R) hI2 hV hS (lv_sub hl [1, 2, 3, 0] rfl)
        exact loop 1538 V1 g 1 _ _ _ (Or.inr (by omega)) hM1 hR1 (by rw [hg1]; exact fl_mid) hV hS (lv_sub hl [1, 2, 3, 0] rfl)
      · have hlt : i < (24 * la0 + 24) := nI_nle' (a := (24 * la0 + 24)) (b := i) c_8 (by omega) (by omega)
        refine lv_aload_n hx hb d_Mo_fill_22 rfl (lv_at hl 0 rfl) ?_
        refine gf_Mo_91 hx hb hW hown hG hV hm_7 d_Mo_fill_23 ?_
        refine lv_iload_n hx hb d_Mo_fill_26 rfl (lv_at hl 3 rfl) ?_
        refine lv_aload_n hx hb d_Mo_fill_27 rfl (lv_at hl 0 rfl) ?_
        refine gf_Mo_84 hx hb hW hown hG hV hm_7 d_Mo_fill_28 ?_
        refine lv_iload_n hx hb d_Mo_fill_31 rfl (lv_at hl 3 rfl) ?_
        refine hv_lald hx hb hG.K hV 1 hm_7_23 rfl (vp_in_nI (by omega) (by omega)) d_Mo_fill_32 ?_
        rw [nI_clamp (by omega)]
        refine lv_aload_n hx hb d_Mo_fill_33 rfl (lv_at hl 0 rfl) ?_
        refine gf_Mo_88 hx hb hW hown hG hV hm_7 d_Mo_fill_34 ?_
        refine lv_iload_n hx hb d_Mo_fill_37 rfl (lv_at hl 3 rfl) ?_
        refine hv_lald hx hb hG.K hV 1 hm_7_24 rfl (vp_in_nI (by omega) (by omega)) d_Mo_fill_38 ?_
        rw [nI_clamp (by omega)]
        refine lv_land hx hb d_Mo_fill_39 ?_
        refine hv_last hx hb hG.K hV hS 1 hm_7_25 rfl (vp_in_nI (by omega) (by omega)) d_Mo_fill_40 (fun H locs hV hS => ?_)
        rw [nI_clamp (by omega)] at hV
        replace hV : hv D vwCl N0 (hu V1 (ad 25) (eL k 96 (vp_updL g i ((o9 i) &&& (f9 i))))) H := hV
        generalize hV_V_15 : hu V1 (ad 25) (eL k 96 (vp_updL g i ((o9 i) &&& (f9 i)))) = V_15 at hV
        have hM_15 : mdOk k V_15 mo ad ((((ρ.wL 0 o9).wL 1 f9).wL 2 g).wL 2 (vp_updL g i ((o9 i) &&& (f9 i)))) := by rw [← hV_V_15]; exact md_setL hM1 2 (by omega) (vp_updL g i ((o9 i) &&& (f9 i)))
        have hR_15 : mdFr mo ad V V_15 := by rw [← hV_V_15]; exact hR1.ar (j := 25) (by omega)
        have hm_16 : V_15 mo = some (.inr (7, [.int (ρ.s 0), .int (ρ.s 1), .int (ρ.s 2), .int (ρ.s 3), .ref (ad 0), .ref (ad 1), .ref (ad 2), .ref (ad 3), .ref (ad 4), .ref (ad 5), .ref (ad 6), .ref (ad 7), .ref (ad 8), .int (ρ.s 4), .ref (ad 9), .ref (ad 10), .ref (ad 11), .ref (ad 12), .ref (ad 13), .ref (ad 14), .ref (ad 15), .ref (ad 16), .ref (ad 17), .ref (ad 18), .ref (ad 19), .ref (ad 20), .ref (ad 21), .ref (ad 22), .ref (ad 23), .ref (ad 24), .ref (ad 25)])) := hM_15.1
        have hm_16_23 : V_15 (ad 23) = some (eL k 96 o9) := hM_15.a23
        have hm_16_24 : V_15 (ad 24) = some (eL k 96 f9) := hM_15.a24
        have hm_16_25 : V_15 (ad 25) = some (eL k 96 (vp_updL g i ((o9 i) &&& (f9 i)))) := hM_15.a25
        obtain ⟨i_17, ei_17⟩ : ∃ y : Int32, y = (nI i) + 1 := ⟨_, rfl⟩
        refine lv_iinc (v := i_17) (lv' := [(3, .int i_17), (0, .ref mo), (1, .int ne), (2, .int (nI la0))]) hx hb d_Mo_fill_41 hl (k := 3) rfl (by rw [ei_17]; rfl) (by decide) rfl (fun ls hl => ?_)
        refine lv_goto (tgt := 11) hx hb d_Mo_fill_44 (by decide) ?_
        rw [nI_1] at ei_17
        subst ei_17
        exact ih (i + 1) V_15 (vp_updL g i ((o9 i) &&& (f9 i))) _ _ _ (by omega) (by omega) (⟨by have q := hM_15; rw [wL_wL] at q; exact q, hR_15, by rw [hg1]; exact flS_s hi24, by omega⟩) hV hS (lv_sub hl [1, 2, 3, 0] rfl)
  exact loop_6 ((24 * la0 + 24) + 1 - (24 * la0)) (24 * la0) V_2 (ρ.L 2) _ _ _ (by omega) (by omega) (⟨by show mdOk k _ mo ad (((ρ.wL 0 o9).wL 1 f9).wL 2 (((ρ.wL 0 o9).wL 1 f9).L 2)); rw [wL_self]; exact hM_4, (mdFr.rf (mo := mo) (ad := ad) (V := V)).tr hM_4R, (flS_0 rfl).symm, Nat.le_refl _⟩) hV hS (lv_sub hl [1, 2, 3, 0] rfl)
