/-! the model: islands; what layLayer leaves as it was, and the points in it -/
theorem ll_out {ρ : MS} {ne : Int32} {la g : Nat} : ∀ (n j : Nat), (j < 24 * la ∨ 24 * la + 24 ≤ j) → (moLL ρ ne la g n).2 j = ρ.L 1 j := by
  intro n j hj
  induction n with
  | zero => simp only [moLL, clR]; rw [if_neg (by omega)]
  | succ n ih =>
    rw [moLL]
    split
    · split
      · exact ih
      · simp only [anR]; rw [if_neg (by omega)]; exact ih
    · exact ih
/-- own copper of slots below 20 + n is in the rows -/
theorem ll_own {ρ : MS} {ne : Int32} {la g t : Nat} {r x : Nat} (h20 : 20 ≤ t) (hc : moCop ρ.I t = true) (ho : moOn ρ.I t (nI la) = true) (hn : ρ.I 7 t = ne) (hr1 : yq ρ t ≤ r) (hr2 : r < yq ρ t + hq ρ t) (hb : lq (moSpan (ρ.I 2 t) (ρ.I 4 t)) x = true) : ∀ n : Nat, t < 20 + n → lq ((moLL ρ ne la g n).1 (24 * la + r)) x = true := by
  intro n
  induction n with
  | zero => intro h; omega
  | succ n ih =>
    intro hlt
    by_cases hnt : 20 + n = t
    · rw [moLL, hnt, hc, ho, if_pos (by rfl), if_pos hn]
      simp only [orR]
      rw [if_pos (by omega), q_or, hb, Bool.or_true]
    · have := ih (by omega)
      rw [moLL]
      split
      · split
        · simp only [orR]
          split
          · rw [q_or, this, Bool.true_or]
          · exact this
        · exact this
      · exact this
theorem span1 : ∀ x, x < 32 → ∀ i, i < 64 → lq (moSpan (nI x) 1) i = decide (i = x) := by decide +kernel
theorem bit_of {v : Int64} {x : Nat} (hx : x < 32) : moBit v (nI x) = lq v x := by
  unfold moBit
  have h : ∀ i, i < 64 → lq ((v >>> ((nI x).toInt64 &&& 63)) &&& 1) i = (decide (i = 0) && lq v x) := fun i hi => by
    rw [q_and, q_1 i hi, q_shr x (by omega) v hi]
    by_cases h0 : i = 0
    · subst h0; rw [if_pos (by omega)]; simp
    · simp [h0]
  cases hv : lq v x with
  | true => exact decide_eq_true (q_ext (fun i hi => by rw [h i hi, hv, q_1 i hi, Bool.and_true]))
  | false =>
    refine decide_eq_false (fun q => ?_)
    have := h 0 (by omega)
    rw [q, hv, q_1 0 (by omega)] at this
    simp at this
theorem shl1 : ∀ x, x < 32 → ∀ i, i < 64 → lq (1 <<< ((nI x).toInt64 &&& 63)) i = decide (i = x) := by decide +kernel
def xq (ρ : MS) (t : Nat) : Nat := (ρ.I 2 t).toNatClampNeg
/-- points of the net: one cell of the board, and in the rows f of every layer -/
def ptI (ρ : MS) (ne : Int32) (nl : Nat) (f : Nat → Int64) : Prop := ∀ t, 20 ≤ t → t < 80 → moPdP ρ.I ne t = true → ρ.I 2 t = nI (xq ρ t) ∧ xq ρ t < 32 ∧ yq ρ t < 24 ∧ ∀ la, la < nl → lq (f (24 * la + yq ρ t)) (xq ρ t) = true
def LSub (nl : Nat) (g G : Nat → Int64) : Prop := ∀ la, la < nl → lSub la g G
def LIn (nl : Nat) (f G : Nat → Int64) : Prop := ∀ la, la < nl → lIn f G la
def jnC (ρ : MS) (ne : Int32) (nl : Nat) (C : Nat → Int64) (n : Nat) : Prop := ∀ t, 20 ≤ t → t < n → moPdP ρ.I ne t = true → ∀ la0, la0 < nl → lq (C (24 * la0 + yq ρ t)) (xq ρ t) = true → ∀ la, la < nl → lq (C (24 * la + yq ρ t)) (xq ρ t) = true
def mcL (nl : Nat) (G : Nat → Int64) : Nat := sumN (fun la => cel la G) 0 nl
theorem mcL_max {nl : Nat} {G : Nat → Int64} : mcL nl G ≤ nl * 1536 := sumN_max nl 0 (fun j => cel_max j G)
theorem cel_le {la : Nat} {g G : Nat → Int64} (h : lSub la g G) : cel la g ≤ cel la G := sumN_le 24 0 (fun r _ hr => cntF_le 64 0 (fun x _ hx => h r (by omega) x (by omega)))
theorem mcL_le {nl : Nat} {g G : Nat → Int64} (h : LSub nl g G) : mcL nl g ≤ mcL nl G := sumN_le nl 0 (fun la _ hla => cel_le (h la (by omega)))
theorem cel_lt {la r x : Nat} {g G : Nat → Int64} (h : lSub la g G) (hr : r < 24) (hx : x < 64) (h0 : lq (g (24 * la + r)) x = false) (h1 : lq (G (24 * la + r)) x = true) : cel la g < cel la G :=
  sumN_lt (m := r) 24 0 (fun r _ hr => cntF_le 64 0 (fun x _ hx => h r (by omega) x (by omega))) (by omega) (by omega) (pcn_lt (fun x hx q => h r hr x hx q) (fun e => by rw [e, h0] at h1; cases h1))
theorem mcL_lt {nl la : Nat} {g G : Nat → Int64} (h : LSub nl g G) (hla : la < nl) (hc : cel la g < cel la G) : mcL nl g < mcL nl G :=
  sumN_lt (m := la) nl 0 (fun j _ hj => cel_le (h j (by omega))) (by omega) (by omega) hc
theorem stB_row {G : Nat → Int64} {y : Nat} {b : Int64} (hy : y < 24) : ∀ n la r : Nat, r < 24 → stB G y b n (24 * la + r) = if r = y ∧ la < n then G (24 * la + r) ||| b else G (24 * la + r) := by
  intro n
  induction n with
  | zero => intro la r _; rw [if_neg (by omega)]; rfl
  | succ n ih =>
    intro la r hr
    rw [stB]
    by_cases h : 24 * la + r = 24 * n + y
    · have hln : la = n := by omega
      have hry : r = y := by omega
      subst hln; subst hry
      rw [uL_s, ih la r hr, if_neg (by omega), if_pos (by omega)]
    · rw [uL_n h, ih la r hr]
      by_cases h2 : r = y ∧ la < n
      · rw [if_pos h2, if_pos (by omega)]
      · rw [if_neg h2, if_neg (by omega)]
theorem jbt_q {ρ : MS} {ne : Int32} {nl t la : Nat} {f G : Nat → Int64} (hP : ptI ρ ne nl f) (h20 : 20 ≤ t) (h80 : t < 80) (hp : moPdP ρ.I ne t = true) : jbt ρ G t la = lq (G (24 * la + yq ρ t)) (xq ρ t) := by
  obtain ⟨ex, hx, -, -⟩ := hP t h20 h80 hp
  rw [jbt, ex, bit_of hx]
theorem jn_pass {ρ : MS} {ne : Int32} {nl : Nat} {f G : Nat → Int64} (hP : ptI ρ ne nl f) (hi : LIn nl f G) : ∀ n : Nat, n ≤ 60 → LIn nl f (moJn ρ ne nl G n).1 ∧ LSub nl G (moJn ρ ne nl G n).1 ∧ (∀ C, jnC ρ ne nl C 80 → LSub nl G C → LSub nl (moJn ρ ne nl G n).1 C) ∧ (((moJn ρ ne nl G n).2 = false ∧ (moJn ρ ne nl G n).1 = G ∧ jnC ρ ne nl G (20 + n)) ∨ ((moJn ρ ne nl G n).2 = true ∧ mcL nl G < mcL nl (moJn ρ ne nl G n).1)) := by
  intro n
  induction n with
  | zero => intro _; exact ⟨hi, fun _ _ => lSub_rf, fun _ _ h => h, Or.inl ⟨rfl, rfl, fun t h1 h2 => by omega⟩⟩
  | succ n ih =>
    intro hn
    obtain ⟨a1, a2, a3, a4⟩ := ih (by omega)
    rw [moJn]
    generalize hpq : moJn ρ ne nl G n = pq at a1 a2 a3 a4
    obtain ⟨G1, b1⟩ := pq
    simp only at a1 a2 a3 a4 ⊢
    by_cases hc : (moPdP ρ.I ne (20 + n) && anyF (jbt ρ G1 (20 + n)) 0 nl && anyF (fun la => !jbt ρ G1 (20 + n) la) 0 nl) = true
    · rw [if_pos hc]
      dsimp only
      simp only [Bool.and_eq_true] at hc
      obtain ⟨⟨hp, hany⟩, hnall⟩ := hc
      obtain ⟨ex, hx, hy, hf⟩ := hP (20 + n) (by omega) (by omega) hp
      obtain ⟨la0, -, hla0, hb0⟩ := (anyF_iff nl 0).mp hany
      obtain ⟨la1, -, hla1, hb1⟩ := (anyF_iff nl 0).mp hnall
      rw [jbt_q hP (by omega) (by omega) hp] at hb0
      have hb1' : lq (G1 (24 * la1 + yq ρ (20 + n))) (xq ρ (20 + n)) = false := by
        have := hb1
        simp only [jbt_q hP (show 20 ≤ 20 + n by omega) (show 20 + n < 80 by omega) hp] at this
        simpa using this
      have hrow : ∀ la r, r < 24 → stB G1 (yq ρ (20 + n)) (1 <<< ((ρ.I 2 (20 + n)).toInt64 &&& 63)) nl (24 * la + r) = if r = yq ρ (20 + n) ∧ la < nl then G1 (24 * la + r) ||| (1 <<< ((nI (xq ρ (20 + n))).toInt64 &&& 63)) else G1 (24 * la + r) := fun la r hr => by
        rw [stB_row hy nl la r hr, ← ex]
      have hsub : LSub nl G1 (stB G1 (yq ρ (20 + n)) (1 <<< ((ρ.I 2 (20 + n)).toInt64 &&& 63)) nl) := fun la hla r hr x hx2 q => by
        rw [hrow la r hr]
        split
        · rw [q_or, q, Bool.true_or]
        · exact q
      have hnew : ∀ la, la < nl → lq (stB G1 (yq ρ (20 + n)) (1 <<< ((ρ.I 2 (20 + n)).toInt64 &&& 63)) nl (24 * la + yq ρ (20 + n))) (xq ρ (20 + n)) = true := fun la hla => by
        rw [hrow la _ hy, if_pos ⟨rfl, hla⟩, q_or, shl1 _ hx _ (by omega)]; simp
      refine ⟨fun la hla r hr x hx2 q => ?_, fun la hla => lSub_tr (a2 la hla) (hsub la hla), fun C hC hs la hla r hr x hx2 q => ?_, Or.inr ⟨rfl, ?_⟩⟩
      · rw [hrow la r hr] at q
        split at q
        · rename_i hry
          rw [q_or, Bool.or_eq_true] at q
          rcases q with q | q
          · exact a1 la hla r hr x hx2 q
          · rw [shl1 _ hx x hx2] at q
            rw [of_decide_eq_true q, hry.1]; exact hf la hla
        · exact a1 la hla r hr x hx2 q
      · rw [hrow la r hr] at q
        split at q
        · rename_i hry
          rw [q_or, Bool.or_eq_true] at q
          rcases q with q | q
          · exact a3 C hC hs la hla r hr x hx2 q
          · rw [shl1 _ hx x hx2] at q
            rw [of_decide_eq_true q, hry.1]
            exact hC (20 + n) (by omega) (by omega) hp la0 (by omega) (a3 C hC hs la0 (by omega) _ hy _ (by omega) hb0) la hla
        · exact a3 C hC hs la hla r hr x hx2 q
      · have hlt := mcL_lt hsub (show la1 < nl by omega) (cel_lt (hsub la1 (by omega)) hy (by omega) hb1' (hnew la1 (by omega)))
        have := mcL_le a2
        omega
    · rw [if_neg hc]
      refine ⟨a1, a2, a3, ?_⟩
      rcases a4 with ⟨e1, e2, e3⟩ | h
      · refine Or.inl ⟨e1, e2, fun t h1 h2 hp la0 hla0 hb la hla => ?_⟩
        by_cases ht : t = 20 + n
        · subst ht
          apply Classical.byContradiction
          intro hno
          refine hc ?_
          rw [e2, hp, (anyF_iff nl 0).mpr ⟨la0, by omega, by omega, by rw [jbt_q hP (by omega) (by omega) hp]; exact hb⟩, (anyF_iff nl 0).mpr ⟨la, by omega, by omega, by
            simp only [jbt_q hP (show 20 ≤ 20 + n by omega) (show 20 + n < 80 by omega) hp]
            simpa using hno⟩]
          rfl
        · exact e3 t h1 (by omega) hp la0 hla0 hb la hla
      · exact Or.inr h
set_option maxHeartbeats 4000000 in
set_option maxRecDepth 100000 in
/-- islands: refused -/
theorem c_Mo_islandst (l : Launch) (D : va_G) (N0 : Nat) (k : Nat → Nat) (V : HV) (mo : Nat) (ad : Nat → Nat) (ρ : MS) (hM : mdOk k V mo ad ρ) (net : Int32) (hf0 : ¬ moFault (ρ.I 0) net 1 = 0) : Met l y_Mo_islands (.code y_Mo_islands b_Mo_islands 7 (some .int) :: WS) ({ frames := 4, cells := 0, slots := 0, locals := 91 }) (mP D N0 k [.ref mo, .int net] V) (va_Qi (fun r V' => mdOk k V' mo ad (ρ.ws 0 (moFault (ρ.I 0) net 1)) ∧ mdFr mo ad V V' ∧ r = 0) (mB D N0) (hA N0)) 0 0 (hA N0) := by
  refine Met.ofW (cc := b_Mo_islands) (maxL := 7) (ret := (some .int)) (by decide) rfl ?_
  intro p e s m args below meth c s₁ B hml hv0
  obtain ⟨rfl, hG, hV⟩ := hv0
  have hx := B.exec
  have hb := B.bytes
  have hr := B.returns
  have hts := atoms_spec (ws := .code y_Mo_islands b_Mo_islands 7 (some .int) :: WS) B.pre
  have hW : ∀ w ∈ WS, w.before _ s = true := fun w h => hts w (List.mem_cons_of_mem _ h)
  have hown : s.vm.findClass "BoardHouseModel" = some m.cls := findClass_of_methodNamed B.named
  have hlocks := B.notSynchronized
  have hS : va_S (hA N0) s.heap s.heap [] := va_S.rf
  have hl := lv_entry ([.ref mo, .int net]) (n := 7) (Nat.le_of_ble_eq_true rfl)
  rw [lg_entry_eq]
  generalize (lg_sl ([.ref mo, .int net]) ++ List.replicate (7 - (lg_sl ([.ref mo, .int net])).length) Slot.unset).toArray = ls at hl ⊢
  have hl : lv_has ls 7 [(0, .ref mo), (1, .int net)] := hl
  have hm_1 : V mo = some (.inr (7, [.int (ρ.s 0), .int (ρ.s 1), .int (ρ.s 2), .int (ρ.s 3), .ref (ad 0), .ref (ad 1), .ref (ad 2), .ref (ad 3), .ref (ad 4), .ref (ad 5), .ref (ad 6), .ref (ad 7), .ref (ad 8), .int (ρ.s 4), .ref (ad 9), .ref (ad 10), .ref (ad 11), .ref (ad 12), .ref (ad 13), .ref (ad 14), .ref (ad 15), .ref (ad 16), .ref (ad 17), .ref (ad 18), .ref (ad 19), .ref (ad 20), .ref (ad 21), .ref (ad 22), .ref (ad 23), .ref (ad 24), .ref (ad 25)])) := hM.1
  have hm_1_2 : V (ad 2) = some (eI k 150 (ρ.I 2)) := hM.a2
  have hm_1_3 : V (ad 3) = some (eI k 150 (ρ.I 3)) := hM.a3
  have hm_1_23 : V (ad 23) = some (eL k 96 (ρ.L 0)) := hM.a23
  have hm_1_24 : V (ad 24) = some (eL k 96 (ρ.L 1)) := hM.a24
  have hm_1_25 : V (ad 25) = some (eL k 96 (ρ.L 2)) := hM.a25
  refine lv_aload_n hx hb d_Mo_islands_0 rfl (lv_at hl 0 rfl) ?_
  refine lv_aload_n hx hb d_Mo_islands_1 rfl (lv_at hl 0 rfl) ?_
  refine lv_iload_n hx hb d_Mo_islands_2 rfl (lv_at hl 1 rfl) ?_
  refine lv_iconst (v := 1) hx hb d_Mo_islands_3 (by decide) ?_
  refine rc_i (va_runV (As := [.int net, .int 1]) (rest := [.ref mo]) ⟨hx, hb, hml, hown, hts⟩ (c_Mo_fault l D N0 k V mo ad ρ hM net 1) (cwV 2 hts (gi_V wm_Mo_176 wv_Mo_fault ws_Mo_fault wi_Mo wc_Mo_fault) rfl rfl rfl (by decide +kernel) ⟨Nat.le_of_ble_eq_true rfl, Nat.le_of_ble_eq_true rfl⟩) (mP.preV hG hS hV hm_1 rfl) rfl rfl hl.1 rfl (lv_room (Nat.le_of_ble_eq_true rfl)) d_Mo_islands_4 ⟨Nat.le_of_ble_eq_true rfl, Nat.le_of_ble_eq_true rfl⟩) hS (fun H locs hV hS => ?_)
  refine W.eq (g2 := F0 m 7 ls [.int (moFault (ρ.I 0) net 1), .ref mo]) rfl ?_
  refine lv_topi (fun f_2 ef_2 => ?_)
  refine pf_Mo_100 hx hb hW hown hG hV hS hm_1 d_Mo_islands_7 (fun H locs hV hS => ?_)
  replace hV : hv D vwCl N0 (hu V mo (.inr (7, [.int f_2, .int (ρ.s 1), .int (ρ.s 2), .int (ρ.s 3), .ref (ad 0), .ref (ad 1), .ref (ad 2), .ref (ad 3), .ref (ad 4), .ref (ad 5), .ref (ad 6), .ref (ad 7), .ref (ad 8), .int (ρ.s 4), .ref (ad 9), .ref (ad 10), .ref (ad 11), .ref (ad 12), .ref (ad 13), .ref (ad 14), .ref (ad 15), .ref (ad 16), .ref (ad 17), .ref (ad 18), .ref (ad 19), .ref (ad 20), .ref (ad 21), .ref (ad 22), .ref (ad 23), .ref (ad 24), .ref (ad 25)]))) H := hV
  generalize hV_V_3 : hu V mo (.inr (7, [.int f_2, .int (ρ.s 1), .int (ρ.s 2), .int (ρ.s 3), .ref (ad 0), .ref (ad 1), .ref (ad 2), .ref (ad 3), .ref (ad 4), .ref (ad 5), .ref (ad 6), .ref (ad 7), .ref (ad 8), .int (ρ.s 4), .ref (ad 9), .ref (ad 10), .ref (ad 11), .ref (ad 12), .ref (ad 13), .ref (ad 14), .ref (ad 15), .ref (ad 16), .ref (ad 17), .ref (ad 18), .ref (ad 19), .ref (ad 20), .ref (ad 21), .ref (ad 22), .ref (ad 23), .ref (ad 24), .ref (ad 25)])) = V_3 at hV
  have hM_3 : mdOk k V_3 mo ad (ρ.ws 0 f_2) := by rw [← hV_V_3]; exact md_put hM 0 f_2
  have hR_3 : mdFr mo ad V V_3 := by rw [← hV_V_3]; exact (mdFr.rf (mo := mo) (ad := ad) (V := V)).m
  have hm_4 : V_3 mo = some (.inr (7, [.int f_2, .int (ρ.s 1), .int (ρ.s 2), .int (ρ.s 3), .ref (ad 0), .ref (ad 1), .ref (ad 2), .ref (ad 3), .ref (ad 4), .ref (ad 5), .ref (ad 6), .ref (ad 7), .ref (ad 8), .int (ρ.s 4), .ref (ad 9), .ref (ad 10), .ref (ad 11), .ref (ad 12), .ref (ad 13), .ref (ad 14), .ref (ad 15), .ref (ad 16), .ref (ad 17), .ref (ad 18), .ref (ad 19), .ref (ad 20), .ref (ad 21), .ref (ad 22), .ref (ad 23), .ref (ad 24), .ref (ad 25)])) := hM_3.1
  have hm_4_2 : V_3 (ad 2) = some (eI k 150 (ρ.I 2)) := hM_3.a2
  have hm_4_3 : V_3 (ad 3) = some (eI k 150 (ρ.I 3)) := hM_3.a3
  have hm_4_23 : V_3 (ad 23) = some (eL k 96 (ρ.L 0)) := hM_3.a23
  have hm_4_24 : V_3 (ad 24) = some (eL k 96 (ρ.L 1)) := hM_3.a24
  have hm_4_25 : V_3 (ad 25) = some (eL k 96 (ρ.L 2)) := hM_3.a25
  refine lv_aload_n hx hb d_Mo_islands_10 rfl (lv_at hl 0 rfl) ?_
  refine gf_Mo_100 hx hb hW hown hG hV hm_4 d_Mo_islands_11 ?_
  refine lv_if_eq (tgt := 19) hx hb d_Mo_islands_14 (by decide) (fun c_5 => ?_) (fun c_5 => ?_)
  · exact absurd (ef_2.symm.trans c_5) hf0
  · refine lv_iconst (v := 0) hx hb d_Mo_islands_17 (by decide) ?_
    exact W.iret (v := 0) hx hb hr (fun t9 ht hW => ⟨⟨0, V_3, rfl, ⟨by rw [← ef_2]; exact hM_3, hR_3, rfl⟩, mB_of ht hV⟩, hS.F ht⟩) hS.2.2 d_Mo_islands_18
