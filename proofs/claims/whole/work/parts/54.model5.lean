/-! the model: move, end, version, check -/
def moMvP (ρ : MS) (q : Nat) (dx dy : Int32) : Nat → Bool := fun t => moOf ρ.I t (nI q) && anyF (moCwP ρ t dx dy (nI q)) 20 120
def moMvW (ρ : MS) (n2 n6 q : Nat) (x y : Int32) : Int32 := if moBox x y (ρ.I 4 q) (ρ.I 5 q) = false then 2 else if moBarr ρ n6 (ρ.I 2 q) (ρ.I 3 q) (ρ.I 4 q) (ρ.I 5 q) = true then 3 else if moBarr ρ n6 x y (ρ.I 4 q) (ρ.I 5 q) = true then 3 else if anyF (moOvP ρ.I (nI q) x y (ρ.I 4 q) (ρ.I 5 q) (ρ.I 6 q)) 0 n2 = true then 4 else if anyF (moMvP ρ q (x - ρ.I 2 q) (y - ρ.I 3 q)) 20 60 = true then 5 else 0
def moMvC (ρ : MS) (q t : Nat) : Bool := decide (nI t = nI q) || moOf ρ.I t (nI q)
def moMvL (ρ : MS) (q : Nat) (dx dy : Int32) : Nat → MS
  | 0 => ρ
  | n + 1 => if moMvC (moMvL ρ q dx dy n) q n = true then ((moNote (moMvL ρ q dx dy n) n 1).wI 2 (upd ((moNote (moMvL ρ q dx dy n) n 1).I 2) n ((moNote (moMvL ρ q dx dy n) n 1).I 2 n + dx))).wI 3 (upd ((moNote (moMvL ρ q dx dy n) n 1).I 3) n ((moNote (moMvL ρ q dx dy n) n 1).I 3 n + dy)) else moMvL ρ q dx dy n
theorem mvL_s {ρ : MS} {q : Nat} {dx dy : Int32} : ∀ n : Nat, (moMvL ρ q dx dy n).s = ρ.s := by
  intro n
  induction n with
  | zero => rfl
  | succ n ih => rw [moMvL]; split
                 · rw [ms_Is, ms_Is, note_s, ih]
                 · exact ih
def moMove (ρ : MS) (n2 n6 : Nat) (part x y : Int32) : Int32 × MS :=
  if moFault (ρ.I 0) part 2 = 0 then
    if ρ.I 1 (hdN part) = 0 then (0, (ρ.ws 0 (moFault (ρ.I 0) part 2)).ws 0 3) else
    if moMvW ρ n2 n6 (hdN part) x y = 0 then (1, moMvL (((ρ.ws 0 (moFault (ρ.I 0) part 2)).ws 0 (moFault (ρ.I 0) part 2)).ws 3 0) (hdN part) (x - ρ.I 2 (hdN part)) (y - ρ.I 3 (hdN part)) 80) else (0, ((ρ.ws 0 (moFault (ρ.I 0) part 2)).ws 0 (moFault (ρ.I 0) part 2)).ws 3 (moMvW ρ n2 n6 (hdN part) x y))
  else (0, (ρ.ws 0 (moFault (ρ.I 0) part 2)).ws 0 (moFault (ρ.I 0) part 2))
theorem moAF0 {ρ : MS} {h : Int32} (e : moAF ρ h = 0) : moFault (ρ.I 0) h 6 = 0 := by
  unfold moAF at e
  split at e
  · assumption
  · exact e
def moEdL (ρ : MS) (j : Nat) : Nat → MS
  | 0 => ρ
  | n + 1 => if (moEdL ρ j n).I 15 (150 * j + n) = 0 then moEdL ρ j n else (((moEdL ρ j n).wI 1 (upd ((moEdL ρ j n).I 1) n ((moEdL ρ j n).I 16 (150 * j + n)))).wI 2 (upd ((moEdL ρ j n).I 2) n ((moEdL ρ j n).I 17 (150 * j + n)))).wI 3 (upd ((moEdL ρ j n).I 3) n ((moEdL ρ j n).I 18 (150 * j + n)))
theorem edL_I {ρ : MS} {j : Nat} {q : Nat} (h : 3 < q) : ∀ n : Nat, (moEdL ρ j n).I q = ρ.I q := by
  intro n
  induction n with
  | zero => rfl
  | succ n ih => rw [moEdL]; split
                 · exact ih
                 · rw [ms_In (by omega), ms_In (by omega), ms_In (by omega), ih]
def moEnS (ρ : MS) (f h : Int32) : MS := ((ρ.ws 0 f).wI 9 (upd (ρ.I 9) (hdN h) 0)).ws 4 (if ρ.s 4 = nI (hdN h) then -1 else ρ.s 4)
def moEnd (ρ : MS) (h kp : Int32) : Int32 × MS := if moAF ρ h = 0 then (ρ.I 14 (hdN h), if kp = 0 then moEdL (moEnS ρ (moAF ρ h) h) (hdN h) 150 else moEnS ρ (moAF ρ h) h) else (0, ρ.ws 0 (moAF ρ h))
def sumN (f : Nat → Nat) : Nat → Nat → Nat
  | _, 0 => 0
  | i, n + 1 => f i + sumN f (i + 1) n
theorem sumN_step {f : Nat → Nat} {i N : Nat} (h : i < N) : sumN f i (N - i) = f i + sumN f (i + 1) (N - (i + 1)) := by
  rw [show N - i = (N - (i + 1)) + 1 by omega]; rfl
theorem sumN_end {f : Nat → Nat} {i N : Nat} (h : N ≤ i) : sumN f i (N - i) = 0 := by
  rw [show N - i = 0 by omega]; rfl
def moCkR (ρ : MS) (t : Nat) : Nat := cntF (moPr ρ t) (t + 1) (140 - (t + 1))
theorem wI_self {ρ : MS} {j : Nat} : ρ.wI j (ρ.I j) = ρ := by
  have : updT ρ.I j (ρ.I j) = ρ.I := by
    funext q
    by_cases h : q = j
    · subst h; rw [uT_s]
    · rw [uT_n h]
  unfold MS.wI; rw [this]; rfl
theorem wI_wI {ρ : MS} {j : Nat} {f g : Nat → Int32} : (ρ.wI j f).wI j g = ρ.wI j g := by
  have : updT (updT ρ.I j f) j g = updT ρ.I j g := by
    funext q
    by_cases h : q = j
    · subst h; rw [uT_s, uT_s]
    · rw [uT_n h, uT_n h, uT_n h]
  show (ρ.s, updT (updT ρ.I j f) j g, ρ.L) = (ρ.s, updT ρ.I j g, ρ.L)
  rw [this]
theorem wI_w3 {ρ : MS} {a b c a' b' c' : Nat → Int32} : ((((((ρ.wI 20 a).wI 21 b).wI 22 c).wI 20 a').wI 21 b').wI 22 c') = ((ρ.wI 20 a').wI 21 b').wI 22 c' := by
  have : updT (updT (updT (updT (updT (updT ρ.I 20 a) 21 b) 22 c) 20 a') 21 b') 22 c' = updT (updT (updT ρ.I 20 a') 21 b') 22 c' := by
    funext q
    by_cases h2 : q = 22
    · subst h2; rw [uT_s, uT_s]
    · by_cases h1 : q = 21
      · subst h1; rw [uT_n h2, uT_s, uT_n h2, uT_s]
      · by_cases h0 : q = 20
        · subst h0; rw [uT_n h2, uT_n h1, uT_s, uT_n h2, uT_n h1, uT_s]
        · rw [uT_n h2, uT_n h1, uT_n h0, uT_n h2, uT_n h1, uT_n h0, uT_n h2, uT_n h1, uT_n h0]
  show (ρ.s, updT (updT (updT (updT (updT (updT ρ.I 20 a) 21 b) 22 c) 20 a') 21 b') 22 c', ρ.L) = (ρ.s, updT (updT (updT ρ.I 20 a') 21 b') 22 c', ρ.L)
  rw [this]
def moVrS (ρ : MS) (g0 g1 g2 g3 : Nat → Int32) : MS := ((((((ρ.ws 0 0).ws 3 0).wI 0 (upd (ρ.I 0) 7 (ρ.I 0 7 + 1))).wI 19 g0).wI 20 g1).wI 21 g2).wI 22 g3
/-- what a version's rows say -/
def moVrP (ρ : MS) (v : Nat) (g0 g1 g2 g3 : Nat → Int32) : Prop := (∀ q, q < 8 → g0 (8 * v + q) = upd (ρ.I 0) 7 (ρ.I 0 7 + 1) q) ∧ (∀ j, j < 8 * v → g0 j = ρ.I 19 j) ∧ (∀ i, i < 150 → g1 (150 * v + i) = ρ.I 1 i ∧ g2 (150 * v + i) = ρ.I 2 i ∧ g3 (150 * v + i) = ρ.I 3 i) ∧ ∀ j, j < 150 * v → g1 j = ρ.I 20 j ∧ g2 j = ρ.I 21 j ∧ g3 j = ρ.I 22 j
theorem vr_s {g G : Nat → Int32} {m i : Nat} (h : ∀ q, q < i → g (m + q) = G q) : ∀ q, q < i + 1 → upd g (m + i) (G i) (m + q) = G q := fun q hq => by
  by_cases hqi : q = i
  · subst hqi; exact up_s
  · rw [up_n (by omega)]; exact h q (by omega)
set_option maxHeartbeats 4000000 in
set_option maxRecDepth 100000 in
/-- move -/
theorem c_Mo_move (l : Launch) (D : va_G) (N0 : Nat) (k : Nat → Nat) (V : HV) (mo : Nat) (ad : Nat → Nat) (ρ : MS) (hM : mdOk k V mo ad ρ) (part x y : Int32) (hGm : moG ρ) (n2 : Nat) (hn2 : n2 ≤ 20) (en2 : ρ.I 0 2 = nI n2) (n6 : Nat) (hn6 : n6 ≤ 10) (en6 : ρ.I 0 6 = nI n6) (hwo : moWo ρ) : Met l y_Mo_move (.code y_Mo_move b_Mo_move 8 (some .boolean) :: WS) ({ frames := 4, cells := 0, slots := 0, locals := 91 }) (mP D N0 k [.ref mo, .int part, .int x, .int y] V) (va_Qi (fun r V' => mdOk k V' mo ad (moMove ρ n2 n6 part x y).2 ∧ mdFr mo ad V V' ∧ r = (moMove ρ n2 n6 part x y).1) (mB D N0) (hA N0)) 0 0 (hA N0) := by
  refine Met.ofW (cc := b_Mo_move) (maxL := 8) (ret := (some .boolean)) (by decide) rfl ?_
  intro p e s m args below meth c s₁ B hml hv0
  obtain ⟨rfl, hG, hV⟩ := hv0
  have hx := B.exec
  have hb := B.bytes
  have hr := B.returns
  have hts := atoms_spec (ws := .code y_Mo_move b_Mo_move 8 (some .boolean) :: WS) B.pre
  have hW : ∀ w ∈ WS, w.before _ s = true := fun w h => hts w (List.mem_cons_of_mem _ h)
  have hown : s.vm.findClass "BoardHouseModel" = some m.cls := findClass_of_methodNamed B.named
  have hlocks := B.notSynchronized
  have hS : va_S (hA N0) s.heap s.heap [] := va_S.rf
  have hl := lv_entry ([.ref mo, .int part, .int x, .int y]) (n := 8) (Nat.le_of_ble_eq_true rfl)
  rw [lg_entry_eq]
  generalize (lg_sl ([.ref mo, .int part, .int x, .int y]) ++ List.replicate (8 - (lg_sl ([.ref mo, .int part, .int x, .int y])).length) Slot.unset).toArray = ls at hl ⊢
  have hl : lv_has ls 8 [(0, .ref mo), (1, .int part), (2, .int x), (3, .int y)] := hl
  have hm_1 : V mo = some (.inr (7, [.int (ρ.s 0), .int (ρ.s 1), .int (ρ.s 2), .int (ρ.s 3), .ref (ad 0), .ref (ad 1), .ref (ad 2), .ref (ad 3), .ref (ad 4), .ref (ad 5), .ref (ad 6), .ref (ad 7), .ref (ad 8), .int (ρ.s 4), .ref (ad 9), .ref (ad 10), .ref (ad 11), .ref (ad 12), .ref (ad 13), .ref (ad 14), .ref (ad 15), .ref (ad 16), .ref (ad 17), .ref (ad 18), .ref (ad 19), .ref (ad 20), .ref (ad 21), .ref (ad 22), .ref (ad 23), .ref (ad 24), .ref (ad 25)])) := hM.1
  have hm_1_1 : V (ad 1) = some (eZ k 150 (ρ.I 1)) := hM.a1
  have hm_1_2 : V (ad 2) = some (eI k 150 (ρ.I 2)) := hM.a2
  have hm_1_3 : V (ad 3) = some (eI k 150 (ρ.I 3)) := hM.a3
  have hm_1_4 : V (ad 4) = some (eI k 150 (ρ.I 4)) := hM.a4
  have hm_1_5 : V (ad 5) = some (eI k 150 (ρ.I 5)) := hM.a5
  have hm_1_6 : V (ad 6) = some (eI k 150 (ρ.I 6)) := hM.a6
  refine lv_aload_n hx hb d_Mo_move_0 rfl (lv_at hl 0 rfl) ?_
  refine lv_aload_n hx hb d_Mo_move_1 rfl (lv_at hl 0 rfl) ?_
  refine lv_iload_n hx hb d_Mo_move_2 rfl (lv_at hl 1 rfl) ?_
  refine lv_iconst (v := 2) hx hb d_Mo_move_3 (by decide) ?_
  refine rc_i (va_runV (As := [.int part, .int 2]) (rest := [.ref mo]) ⟨hx, hb, hml, hown, hts⟩ (c_Mo_fault l D N0 k V mo ad ρ hM part 2) (cwV 2 hts (gi_V wm_Mo_176 wv_Mo_fault ws_Mo_fault wi_Mo wc_Mo_fault) rfl rfl rfl (by decide +kernel) ⟨Nat.le_of_ble_eq_true rfl, Nat.le_of_ble_eq_true rfl⟩) (mP.preV hG hS hV hm_1 rfl) rfl rfl hl.1 rfl (lv_room (Nat.le_of_ble_eq_true rfl)) d_Mo_move_4 ⟨Nat.le_of_ble_eq_true rfl, Nat.le_of_ble_eq_true rfl⟩) hS (fun H locs hV hS => ?_)
  refine W.eq (g2 := F0 m 7 ls [.int (moFault (ρ.I 0) part 2), .ref mo]) rfl ?_
  refine lv_topi (fun f_2 ef_2 => ?_)
  refine pf_Mo_100 hx hb hW hown hG hV hS hm_1 d_Mo_move_7 (fun H locs hV hS => ?_)
  replace hV : hv D vwCl N0 (hu V mo (.inr (7, [.int f_2, .int (ρ.s 1), .int (ρ.s 2), .int (ρ.s 3), .ref (ad 0), .ref (ad 1), .ref (ad 2), .ref (ad 3), .ref (ad 4), .ref (ad 5), .ref (ad 6), .ref (ad 7), .ref (ad 8), .int (ρ.s 4), .ref (ad 9), .ref (ad 10), .ref (ad 11), .ref (ad 12), .ref (ad 13), .ref (ad 14), .ref (ad 15), .ref (ad 16), .ref (ad 17), .ref (ad 18), .ref (ad 19), .ref (ad 20), .ref (ad 21), .ref (ad 22), .ref (ad 23), .ref (ad 24), .ref (ad 25)]))) H := hV
  generalize hV_V_3 : hu V mo (.inr (7, [.int f_2, .int (ρ.s 1), .int (ρ.s 2), .int (ρ.s 3), .ref (ad 0), .ref (ad 1), .ref (ad 2), .ref (ad 3), .ref (ad 4), .ref (ad 5), .ref (ad 6), .ref (ad 7), .ref (ad 8), .int (ρ.s 4), .ref (ad 9), .ref (ad 10), .ref (ad 11), .ref (ad 12), .ref (ad 13), .ref (ad 14), .ref (ad 15), .ref (ad 16), .ref (ad 17), .ref (ad 18), .ref (ad 19), .ref (ad 20), .ref (ad 21), .ref (ad 22), .ref (ad 23), .ref (ad 24), .ref (ad 25)])) = V_3 at hV
  have hM_3 : mdOk k V_3 mo ad (ρ.ws 0 f_2) := by rw [← hV_V_3]; exact md_put hM 0 f_2
  have hR_3 : mdFr mo ad V V_3 := by rw [← hV_V_3]; exact (mdFr.rf (mo := mo) (ad := ad) (V := V)).m
  have hm_4 : V_3 mo = some (.inr (7, [.int f_2, .int (ρ.s 1), .int (ρ.s 2), .int (ρ.s 3), .ref (ad 0), .ref (ad 1), .ref (ad 2), .ref (ad 3), .ref (ad 4), .ref (ad 5), .ref (ad 6), .ref (ad 7), .ref (ad 8), .int (ρ.s 4), .ref (ad 9), .ref (ad 10), .ref (ad 11), .ref (ad 12), .ref (ad 13), .ref (ad 14), .ref (ad 15), .ref (ad 16), .ref (ad 17), .ref (ad 18), .ref (ad 19), .ref (ad 20), .ref (ad 21), .ref (ad 22), .ref (ad 23), .ref (ad 24), .ref (ad 25)])) := hM_3.1
  have hm_4_1 : V_3 (ad 1) = some (eZ k 150 (ρ.I 1)) := hM_3.a1
  have hm_4_2 : V_3 (ad 2) = some (eI k 150 (ρ.I 2)) := hM_3.a2
  have hm_4_3 : V_3 (ad 3) = some (eI k 150 (ρ.I 3)) := hM_3.a3
  have hm_4_4 : V_3 (ad 4) = some (eI k 150 (ρ.I 4)) := hM_3.a4
  have hm_4_5 : V_3 (ad 5) = some (eI k 150 (ρ.I 5)) := hM_3.a5
  have hm_4_6 : V_3 (ad 6) = some (eI k 150 (ρ.I 6)) := hM_3.a6
  refine lv_iload_n hx hb d_Mo_move_10 rfl (lv_at hl 1 rfl) ?_
  refine lv_sipush (v := 1000) hx hb d_Mo_move_11 (by decide) ?_
  refine lv_irem hx hb d_Mo_move_14 (by decide) ?_
  refine lv_istore (lv' := [(4, .int (part - part / 1000 * 1000)), (0, .ref mo), (1, .int part), (2, .int x), (3, .int y)]) hx hb d_Mo_move_15 hl (by decide) rfl (fun ls hl => ?_)
  refine lv_aload_n hx hb d_Mo_move_17 rfl (lv_at hl 1 rfl) ?_
  refine lv_aload_n hx hb d_Mo_move_18 rfl (lv_at hl 1 rfl) ?_
  refine gf_Mo_100 hx hb hW hown hG hV hm_4 d_Mo_move_19 ?_
  refine lv_if_ne (tgt := 39) hx hb d_Mo_move_22 (by decide) (fun c_5 => ?_) (fun c_5 => ?_)
  · refine lv_aload_n hx hb d_Mo_move_39 rfl (lv_at hl 1 rfl) ?_
    refine gf_Mo_100 hx hb hW hown hG hV hm_4 d_Mo_move_40 ?_
    refine pf_Mo_100 hx hb hW hown hG hV hS hm_4 d_Mo_move_43 (fun H locs hV hS => ?_)
    replace hV : hv D vwCl N0 (hu V_3 mo (.inr (7, [.int f_2, .int (ρ.s 1), .int (ρ.s 2), .int (ρ.s 3), .ref (ad 0), .ref (ad 1), .ref (ad 2), .ref (ad 3), .ref (ad 4), .ref (ad 5), .ref (ad 6), .ref (ad 7), .ref (ad 8), .int (ρ.s 4), .ref (ad 9), .ref (ad 10), .ref (ad 11), .ref (ad 12), .ref (ad 13), .ref (ad 14), .ref (ad 15), .ref (ad 16), .ref (ad 17), .ref (ad 18), .ref (ad 19), .ref (ad 20), .ref (ad 21), .ref (ad 22), .ref (ad 23), .ref (ad 24), .ref (ad 25)]))) H := hV
    generalize hV_V_6 : hu V_3 mo (.inr (7, [.int f_2, .int (ρ.s 1), .int (ρ.s 2), .int (ρ.s 3), .ref (ad 0), .ref (ad 1), .ref (ad 2), .ref (ad 3), .ref (ad 4), .ref (ad 5), .ref (ad 6), .ref (ad 7), .ref (ad 8), .int (ρ.s 4), .ref (ad 9), .ref (ad 10), .ref (ad 11), .ref (ad 12), .ref (ad 13), .ref (ad 14), .ref (ad 15), .ref (ad 16), .ref (ad 17), .ref (ad 18), .ref (ad 19), .ref (ad 20), .ref (ad 21), .ref (ad 22), .ref (ad 23), .ref (ad 24), .ref (ad 25)])) = V_6 at hV
    have hM_6 : mdOk k V_6 mo ad ((ρ.ws 0 f_2).ws 0 f_2) := by rw [← hV_V_6]; exact md_put hM_3 0 f_2
    have hR_6 : mdFr mo ad V V_6 := by rw [← hV_V_6]; exact hR_3.m
    have hm_7 : V_6 mo = some (.inr (7, [.int f_2, .int (ρ.s 1), .int (ρ.s 2), .int (ρ.s 3), .ref (ad 0), .ref (ad 1), .ref (ad 2), .ref (ad 3), .ref (ad 4), .ref (ad 5), .ref (ad 6), .ref (ad 7), .ref (ad 8), .int (ρ.s 4), .ref (ad 9), .ref (ad 10), .ref (ad 11), .ref (ad 12), .ref (ad 13), .ref (ad 14), .ref (ad 15), .ref (ad 16), .ref (ad 17), .ref (ad 18), .ref (ad 19), .ref (ad 20), .ref (ad 21), .ref (ad 22), .ref (ad 23), .ref (ad 24), .ref (ad 25)])) := hM_6.1
    have hm_7_1 : V_6 (ad 1) = some (eZ k 150 (ρ.I 1)) := hM_6.a1
    have hm_7_2 : V_6 (ad 2) = some (eI k 150 (ρ.I 2)) := hM_6.a2
    have hm_7_3 : V_6 (ad 3) = some (eI k 150 (ρ.I 3)) := hM_6.a3
    have hm_7_4 : V_6 (ad 4) = some (eI k 150 (ρ.I 4)) := hM_6.a4
    have hm_7_5 : V_6 (ad 5) = some (eI k 150 (ρ.I 5)) := hM_6.a5
    have hm_7_6 : V_6 (ad 6) = some (eI k 150 (ρ.I 6)) := hM_6.a6
    refine lv_aload_n hx hb d_Mo_move_46 rfl (lv_at hl 1 rfl) ?_
    refine gf_Mo_100 hx hb hW hown hG hV hm_7 d_Mo_move_47 ?_
    refine lv_if_eq (tgt := 55) hx hb d_Mo_move_50 (by decide) (fun c_8 => ?_) (fun c_8 => ?_)
    · exact absurd c_8 c_5
    · refine lv_iconst (v := 0) hx hb d_Mo_move_53 (by decide) ?_
      try simp only [bI_ne0, bI_eq0, decide_eq_true_eq, decide_eq_false_iff_not, Bool.not_eq_false, Bool.not_eq_true, Decidable.not_not] at c_5
      try simp only [bI_ne0, bI_eq0, decide_eq_true_eq, decide_eq_false_iff_not, Bool.not_eq_false, Bool.not_eq_true, Decidable.not_not] at c_8
      subst ef_2
      have hfin : moMove ρ n2 n6 part x y = (0, ((ρ.ws 0 (moFault (ρ.I 0) part 2)).ws 0 (moFault (ρ.I 0) part 2))) := by first | (simp only [moMove, moMvW, c_5, c_8, decide_true, decide_false, Bool.true_and, Bool.and_true, Bool.false_and, Bool.and_false, Bool.true_or, Bool.or_true, Bool.false_or, Bool.or_false, Bool.not_true, Bool.not_false, if_true, if_false, Bool.false_eq_true, Bool.true_eq_false, reduceIte, eq_self]; done) | (simp [moMove, moMvW, c_5, c_8]; done) | (simp_all [moMove, moMvW]; done)
      exact W.zret (v := 0) hx hb hr rfl (fun t9 ht hW => ⟨⟨0, V_6, rfl, ⟨by rw [hfin]; exact hM_6, hR_6, by rw [hfin]⟩, mB_of ht hV⟩, hS.F ht⟩) hS.2.2 d_Mo_move_54
  · obtain ⟨g0a, k0a⟩ := moFault0 (ef_2.symm.trans c_5)
    obtain ⟨-, eN, -, -, hlt9⟩ := mg_of hGm g0a
    have hKh : hdK part = 2 := hdK_of (by decide) k0a
    have hp9 : hdN part < 20 := by rw [hKh] at hlt9; exact Nat.lt_of_lt_of_le hlt9 (mN_of hGm (by omega) (by omega)).2
    rw [eN] at hl
    refine lv_aload_n hx hb d_Mo_move_25 rfl (lv_at hl 1 rfl) ?_
    refine gf_Mo_13 hx hb hW hown hG hV hm_4 d_Mo_move_26 ?_
    refine lv_iload hx hb d_Mo_move_29 (lv_at hl 0 rfl) ?_
    refine hv_zald hx hb hG.K hV 2 hm_4_1 rfl (vp_in_nI (by omega) (by omega)) d_Mo_move_31 ?_
    rw [nI_clamp (by omega)]
    refine lv_if_ne (tgt := 39) hx hb d_Mo_move_32 (by decide) (fun c_9 => ?_) (fun c_9 => ?_)
    · refine lv_aload_n hx hb d_Mo_move_39 rfl (lv_at hl 1 rfl) ?_
      refine gf_Mo_100 hx hb hW hown hG hV hm_4 d_Mo_move_40 ?_
      refine pf_Mo_100 hx hb hW hown hG hV hS hm_4 d_Mo_move_43 (fun H locs hV hS => ?_)
      replace hV : hv D vwCl N0 (hu V_3 mo (.inr (7, [.int f_2, .int (ρ.s 1), .int (ρ.s 2), .int (ρ.s 3), .ref (ad 0), .ref (ad 1), .ref (ad 2), .ref (ad 3), .ref (ad 4), .ref (ad 5), .ref (ad 6), .ref (ad 7), .ref (ad 8), .int (ρ.s 4), .ref (ad 9), .ref (ad 10), .ref (ad 11), .ref (ad 12), .ref (ad 13), .ref (ad 14), .ref (ad 15), .ref (ad 16), .ref (ad 17), .ref (ad 18), .ref (ad 19), .ref (ad 20), .ref (ad 21), .ref (ad 22), .ref (ad 23), .ref (ad 24), .ref (ad 25)]))) H := hV
      generalize hV_V_10 : hu V_3 mo (.inr (7, [.int f_2, .int (ρ.s 1), .int (ρ.s 2), .int (ρ.s 3), .ref (ad 0), .ref (ad 1), .ref (ad 2), .ref (ad 3), .ref (ad 4), .ref (ad 5), .ref (ad 6), .ref (ad 7), .ref (ad 8), .int (ρ.s 4), .ref (ad 9), .ref (ad 10), .ref (ad 11), .ref (ad 12), .ref (ad 13), .ref (ad 14), .ref (ad 15), .ref (ad 16), .ref (ad 17), .ref (ad 18), .ref (ad 19), .ref (ad 20), .ref (ad 21), .ref (ad 22), .ref (ad 23), .ref (ad 24), .ref (ad 25)])) = V_10 at hV
      have hM_10 : mdOk k V_10 mo ad ((ρ.ws 0 f_2).ws 0 f_2) := by rw [← hV_V_10]; exact md_put hM_3 0 f_2
      have hR_10 : mdFr mo ad V V_10 := by rw [← hV_V_10]; exact hR_3.m
      have hm_11 : V_10 mo = some (.inr (7, [.int f_2, .int (ρ.s 1), .int (ρ.s 2), .int (ρ.s 3), .ref (ad 0), .ref (ad 1), .ref (ad 2), .ref (ad 3), .ref (ad 4), .ref (ad 5), .ref (ad 6), .ref (ad 7), .ref (ad 8), .int (ρ.s 4), .ref (ad 9), .ref (ad 10), .ref (ad 11), .ref (ad 12), .ref (ad 13), .ref (ad 14), .ref (ad 15), .ref (ad 16), .ref (ad 17), .ref (ad 18), .ref (ad 19), .ref (ad 20), .ref (ad 21), .ref (ad 22), .ref (ad 23), .ref (ad 24), .ref (ad 25)])) := hM_10.1
      have hm_11_1 : V_10 (ad 1) = some (eZ k 150 (ρ.I 1)) := hM_10.a1
      have hm_11_2 : V_10 (ad 2) = some (eI k 150 (ρ.I 2)) := hM_10.a2
      have hm_11_3 : V_10 (ad 3) = some (eI k 150 (ρ.I 3)) := hM_10.a3
      have hm_11_4 : V_10 (ad 4) = some (eI k 150 (ρ.I 4)) := hM_10.a4
      have hm_11_5 : V_10 (ad 5) = some (eI k 150 (ρ.I 5)) := hM_10.a5
      have hm_11_6 : V_10 (ad 6) = some (eI k 150 (ρ.I 6)) := hM_10.a6
      refine lv_aload_n hx hb d_Mo_move_46 rfl (lv_at hl 1 rfl) ?_
      refine gf_Mo_100 hx hb hW hown hG hV hm_11 d_Mo_move_47 ?_
      refine lv_if_eq (tgt := 55) hx hb d_Mo_move_50 (by decide) (fun c_12 => ?_) (fun c_12 => ?_)
      · refine lv_aload_n hx hb d_Mo_move_55 rfl (lv_at hl 1 rfl) ?_
        refine lv_iload_n hx hb d_Mo_move_56 rfl (lv_at hl 3 rfl) ?_
        refine lv_iload_n hx hb d_Mo_move_57 rfl (lv_at hl 4 rfl) ?_
        refine lv_aload_n hx hb d_Mo_move_58 rfl (lv_at hl 1 rfl) ?_
        refine gf_Mo_23 hx hb hW hown hG hV hm_11 d_Mo_move_59 ?_
        refine lv_iload hx hb d_Mo_move_62 (lv_at hl 0 rfl) ?_
        refine hv_iald hx hb hG.K hV 0 hm_11_4 rfl (vp_in_nI (by omega) (by omega)) d_Mo_move_64 ?_
        rw [nI_clamp (by omega)]
        refine lv_aload_n hx hb d_Mo_move_65 rfl (lv_at hl 1 rfl) ?_
        refine gf_Mo_26 hx hb hW hown hG hV hm_11 d_Mo_move_66 ?_
        refine lv_iload hx hb d_Mo_move_69 (lv_at hl 0 rfl) ?_
        refine hv_iald hx hb hG.K hV 0 hm_11_5 rfl (vp_in_nI (by omega) (by omega)) d_Mo_move_71 ?_
        rw [nI_clamp (by omega)]
        refine rc_i (va_runS (As := [.int x, .int y, .int ((ρ.I 4) (hdN part)), .int ((ρ.I 5) (hdN part))]) (rest := [.ref mo]) ⟨hx, hb, hml, hown, hts⟩ (c_Mo_isBox l D N0 k V_10 x y ((ρ.I 4) (hdN part)) ((ρ.I 5) (hdN part))) (va_cwS 4 hts (gi_S wm_Mo_158 wt_Mo_isBox wi_Mo wc_Mo_isBox) rfl rfl rfl (by decide +kernel) ⟨Nat.le_of_ble_eq_true rfl, Nat.le_of_ble_eq_true rfl⟩) (mP.preS hG hS hV) rfl rfl hl.1 rfl (lv_room (Nat.le_of_ble_eq_true rfl)) d_Mo_move_72 ⟨Nat.le_of_ble_eq_true rfl, Nat.le_of_ble_eq_true rfl⟩) hS (fun H locs hV hS => ?_)
        refine lv_if_ne (tgt := 82) hx hb d_Mo_move_75 (by decide) (fun c_13 => ?_) (fun c_13 => ?_)
        · refine lv_aload_n hx hb d_Mo_move_82 rfl (lv_at hl 1 rfl) ?_
          refine lv_iload hx hb d_Mo_move_83 (lv_at hl 0 rfl) ?_
          refine rc_i (va_runV (As := [.int (nI (hdN part))]) (rest := [.ref mo]) ⟨hx, hb, hml, hown, hts⟩ (c_Mo_isThingBarred l D N0 k V_10 mo ad ((ρ.ws 0 f_2).ws 0 f_2) hM_10 (hdN part) (by omega) n6 hn6 en6 hwo) (cwV 1 hts (gi_V wm_Mo_189 wv_Mo_isThingBarred ws_Mo_isThingBarred wi_Mo wc_Mo_isThingBarred) rfl rfl rfl (by decide +kernel) ⟨Nat.le_of_ble_eq_true rfl, Nat.le_of_ble_eq_true rfl⟩) (mP.preV hG hS hV hm_11 rfl) rfl rfl hl.1 rfl (lv_room (Nat.le_of_ble_eq_true rfl)) d_Mo_move_85 ⟨Nat.le_of_ble_eq_true rfl, Nat.le_of_ble_eq_true rfl⟩) hS (fun H locs hV hS => ?_)
          refine W.eq (g2 := F0 m 88 ls [.int (bI (moBarr ρ n6 ((ρ.I 2) (hdN part)) ((ρ.I 3) (hdN part)) ((ρ.I 4) (hdN part)) ((ρ.I 5) (hdN part)))), .ref mo]) rfl ?_
          refine lv_if_ne (tgt := 114) hx hb d_Mo_move_88 (by decide) (fun c_14 => ?_) (fun c_14 => ?_)
          · refine lv_iconst (v := 3) hx hb d_Mo_move_114 (by decide) ?_
            refine lv_goto (tgt := 155) hx hb d_Mo_move_115 (by decide) ?_
            refine pf_Mo_149 hx hb hW hown hG hV hS hm_11 d_Mo_move_155 (fun H locs hV hS => ?_)
            replace hV : hv D vwCl N0 (hu V_10 mo (.inr (7, [.int f_2, .int (ρ.s 1), .int (ρ.s 2), .int 3, .ref (ad 0), .ref (ad 1), .ref (ad 2), .ref (ad 3), .ref (ad 4), .ref (ad 5), .ref (ad 6), .ref (ad 7), .ref (ad 8), .int (ρ.s 4), .ref (ad 9), .ref (ad 10), .ref (ad 11), .ref (ad 12), .ref (ad 13), .ref (ad 14), .ref (ad 15), .ref (ad 16), .ref (ad 17), .ref (ad 18), .ref (ad 19), .ref (ad 20), .ref (ad 21), .ref (ad 22), .ref (ad 23), .ref (ad 24), .ref (ad 25)]))) H := hV
            generalize hV_V_15 : hu V_10 mo (.inr (7, [.int f_2, .int (ρ.s 1), .int (ρ.s 2), .int 3, .ref (ad 0), .ref (ad 1), .ref (ad 2), .ref (ad 3), .ref (ad 4), .ref (ad 5), .ref (ad 6), .ref (ad 7), .ref (ad 8), .int (ρ.s 4), .ref (ad 9), .ref (ad 10), .ref (ad 11), .ref (ad 12), .ref (ad 13), .ref (ad 14), .ref (ad 15), .ref (ad 16), .ref (ad 17), .ref (ad 18), .ref (ad 19), .ref (ad 20), .ref (ad 21), .ref (ad 22), .ref (ad 23), .ref (ad 24), .ref (ad 25)])) = V_15 at hV
            have hM_15 : mdOk k V_15 mo ad (((ρ.ws 0 f_2).ws 0 f_2).ws 3 3) := by rw [← hV_V_15]; exact md_put hM_10 3 3
            have hR_15 : mdFr mo ad V V_15 := by rw [← hV_V_15]; exact hR_10.m
            have hm_16 : V_15 mo = some (.inr (7, [.int f_2, .int (ρ.s 1), .int (ρ.s 2), .int 3, .ref (ad 0), .ref (ad 1), .ref (ad 2), .ref (ad 3), .ref (ad 4), .ref (ad 5), .ref (ad 6), .ref (ad 7), .ref (ad 8), .int (ρ.s 4), .ref (ad 9), .ref (ad 10), .ref (ad 11), .ref (ad 12), .ref (ad 13), .ref (ad 14), .ref (ad 15), .ref (ad 16), .ref (ad 17), .ref (ad 18), .ref (ad 19), .ref (ad 20), .ref (ad 21), .ref (ad 22), .ref (ad 23), .ref (ad 24), .ref (ad 25)])) := hM_15.1
            have hm_16_1 : V_15 (ad 1) = some (eZ k 150 (ρ.I 1)) := hM_15.a1
            have hm_16_2 : V_15 (ad 2) = some (eI k 150 (ρ.I 2)) := hM_15.a2
            have hm_16_3 : V_15 (ad 3) = some (eI k 150 (ρ.I 3)) := hM_15.a3
            have hm_16_4 : V_15 (ad 4) = some (eI k 150 (ρ.I 4)) := hM_15.a4
            have hm_16_5 : V_15 (ad 5) = some (eI k 150 (ρ.I 5)) := hM_15.a5
            have hm_16_6 : V_15 (ad 6) = some (eI k 150 (ρ.I 6)) := hM_15.a6
            refine lv_iload_n hx hb d_Mo_move_158 rfl (lv_at hl 3 rfl) ?_
            refine lv_aload_n hx hb d_Mo_move_159 rfl (lv_at hl 1 rfl) ?_
            refine gf_Mo_17 hx hb hW hown hG hV hm_16 d_Mo_move_160 ?_
            refine lv_iload hx hb d_Mo_move_163 (lv_at hl 0 rfl) ?_
            refine hv_iald hx hb hG.K hV 0 hm_16_2 rfl (vp_in_nI (by omega) (by omega)) d_Mo_move_165 ?_
            rw [nI_clamp (by omega)]
            refine lv_isub hx hb d_Mo_move_166 ?_
            refine lv_istore (lv' := [(5, .int (x - ((ρ.I 2) (hdN part)))), (4, .int (nI (hdN part))), (0, .ref mo), (1, .int part), (2, .int x), (3, .int y)]) hx hb d_Mo_move_167 hl (by decide) rfl (fun ls hl => ?_)
            refine lv_iload_n hx hb d_Mo_move_169 rfl (lv_at hl 5 rfl) ?_
            refine lv_aload_n hx hb d_Mo_move_170 rfl (lv_at hl 2 rfl) ?_
            refine gf_Mo_20 hx hb hW hown hG hV hm_16 d_Mo_move_171 ?_
            refine lv_iload hx hb d_Mo_move_174 (lv_at hl 1 rfl) ?_
            refine hv_iald hx hb hG.K hV 0 hm_16_3 rfl (vp_in_nI (by omega) (by omega)) d_Mo_move_176 ?_
            rw [nI_clamp (by omega)]
            refine lv_isub hx hb d_Mo_move_177 ?_
            refine lv_istore (lv' := [(6, .int (y - ((ρ.I 3) (hdN part)))), (5, .int (x - ((ρ.I 2) (hdN part)))), (4, .int (nI (hdN part))), (0, .ref mo), (1, .int part), (2, .int x), (3, .int y)]) hx hb d_Mo_move_178 hl (by decide) rfl (fun ls hl => ?_)
            refine lv_bipush (v := 20) hx hb d_Mo_move_180 (by decide) ?_
            refine lv_istore (lv' := [(7, .int 20), (6, .int (y - ((ρ.I 3) (hdN part)))), (5, .int (x - ((ρ.I 2) (hdN part)))), (4, .int (nI (hdN part))), (0, .ref mo), (1, .int part), (2, .int x), (3, .int y)]) hx hb d_Mo_move_182 hl (by decide) rfl (fun ls hl => ?_)
            refine lv_iload hx hb d_Mo_move_184 (lv_at hl 0 rfl) ?_
            refine lv_bipush (v := 80) hx hb d_Mo_move_186 (by decide) ?_
            refine lv_icmp_ge (tgt := 239) hx hb d_Mo_move_188 (by decide) (fun q => absurd q (by decide)) (fun _ => ?_)
            refine lv_aload_n hx hb d_Mo_move_191 rfl (lv_at hl 4 rfl) ?_
            refine gf_Mo_149 hx hb hW hown hG hV hm_16 d_Mo_move_192 ?_
            refine lv_if_ne (tgt := 239) hx hb d_Mo_move_195 (by decide) (fun _ => ?_) (fun q => absurd q (by decide))
            refine lv_aload_n hx hb d_Mo_move_239 rfl (lv_at hl 4 rfl) ?_
            refine gf_Mo_149 hx hb hW hown hG hV hm_16 d_Mo_move_240 ?_
            refine lv_if_eq (tgt := 248) hx hb d_Mo_move_243 (by decide) (fun q => absurd q (by decide)) (fun _ => ?_)
            refine lv_iconst (v := 0) hx hb d_Mo_move_246 (by decide) ?_
            try simp only [bI_ne0, bI_eq0, decide_eq_true_eq, decide_eq_false_iff_not, Bool.not_eq_false, Bool.not_eq_true, Decidable.not_not] at c_5
            try simp only [bI_ne0, bI_eq0, decide_eq_true_eq, decide_eq_false_iff_not, Bool.not_eq_false, Bool.not_eq_true, Decidable.not_not] at c_9
            try simp only [bI_ne0, bI_eq0, decide_eq_true_eq, decide_eq_false_iff_not, Bool.not_eq_false, Bool.not_eq_true, Decidable.not_not] at c_12
            try simp only [bI_ne0, bI_eq0, decide_eq_true_eq, decide_eq_false_iff_not, Bool.not_eq_false, Bool.not_eq_true, Decidable.not_not] at c_13
            try simp only [bI_ne0, bI_eq0, decide_eq_true_eq, decide_eq_false_iff_not, Bool.not_eq_false, Bool.not_eq_true, Decidable.not_not] at c_14
            subst ef_2
            have hfin : moMove ρ n2 n6 part x y = (0, (((ρ.ws 0 (moFault (ρ.I 0) part 2)).ws 0 (moFault (ρ.I 0) part 2)).ws 3 3)) := by first | (simp only [moMove, moMvW, c_5, c_9, c_12, c_13, c_14, decide_true, decide_false, Bool.true_and, Bool.and_true, Bool.false_and, Bool.and_false, Bool.true_or, Bool.or_true, Bool.false_or, Bool.or_false, Bool.not_true, Bool.not_false, if_true, if_false, Bool.false_eq_true, Bool.true_eq_false, reduceIte, eq_self]; done) | (simp [moMove, moMvW, c_5, c_9, c_12, c_13, c_14]; done) | (simp_all [moMove, moMvW]; done)
            exact W.zret (v := 0) hx hb hr rfl (fun t9 ht hW => ⟨⟨0, V_15, rfl, ⟨by rw [hfin]; exact hM_15, hR_15, by rw [hfin]⟩, mB_of ht hV⟩, hS.F ht⟩) hS.2.2 d_Mo_move_247
          · refine lv_aload_n hx hb d_Mo_move_91 rfl (lv_at hl 1 rfl) ?_
            refine lv_iload_n hx hb d_Mo_move_92 rfl (lv_at hl 3 rfl) ?_
            refine lv_iload_n hx hb d_Mo_move_93 rfl (lv_at hl 4 rfl) ?_
            refine lv_aload_n hx hb d_Mo_move_94 rfl (lv_at hl 1 rfl) ?_
            refine gf_Mo_23 hx hb hW hown hG hV hm_11 d_Mo_move_95 ?_
            refine lv_iload hx hb d_Mo_move_98 (lv_at hl 0 rfl) ?_
            refine hv_iald hx hb hG.K hV 0 hm_11_4 rfl (vp_in_nI (by omega) (by omega)) d_Mo_move_100 ?_
            rw [nI_clamp (by omega)]
            refine lv_aload_n hx hb d_Mo_move_101 rfl (lv_at hl 1 rfl) ?_
            refine gf_Mo_26 hx hb hW hown hG hV hm_11 d_Mo_move_102 ?_
            refine lv_iload hx hb d_Mo_move_105 (lv_at hl 0 rfl) ?_
            refine hv_iald hx hb hG.K hV 0 hm_11_5 rfl (vp_in_nI (by omega) (by omega)) d_Mo_move_107 ?_
            rw [nI_clamp (by omega)]
            refine rc_i (va_runV (As := [.int x, .int y, .int ((ρ.I 4) (hdN part)), .int ((ρ.I 5) (hdN part))]) (rest := [.ref mo]) ⟨hx, hb, hml, hown, hts⟩ (c_Mo_isBarred l D N0 k V_10 mo ad ((ρ.ws 0 f_2).ws 0 f_2) hM_10 x y ((ρ.I 4) (hdN part)) ((ρ.I 5) (hdN part)) n6 hn6 en6 hwo) (cwV 4 hts (gi_V wm_Mo_122 wv_Mo_isBarred ws_Mo_isBarred wi_Mo wc_Mo_isBarred) rfl rfl rfl (by decide +kernel) ⟨Nat.le_of_ble_eq_true rfl, Nat.le_of_ble_eq_true rfl⟩) (mP.preV hG hS hV hm_11 rfl) rfl rfl hl.1 rfl (lv_room (Nat.le_of_ble_eq_true rfl)) d_Mo_move_108 ⟨Nat.le_of_ble_eq_true rfl, Nat.le_of_ble_eq_true rfl⟩) hS (fun H locs hV hS => ?_)
            refine W.eq (g2 := F0 m 111 ls [.int (bI (moBarr ρ n6 x y ((ρ.I 4) (hdN part)) ((ρ.I 5) (hdN part)))), .ref mo]) rfl ?_
            refine lv_if_eq (tgt := 118) hx hb d_Mo_move_111 (by decide) (fun c_17 => ?_) (fun c_17 => ?_)
            · refine lv_aload_n hx hb d_Mo_move_118 rfl (lv_at hl 1 rfl) ?_
              refine lv_iload hx hb d_Mo_move_119 (lv_at hl 0 rfl) ?_
              refine lv_iload_n hx hb d_Mo_move_121 rfl (lv_at hl 3 rfl) ?_
              refine lv_iload_n hx hb d_Mo_move_122 rfl (lv_at hl 4 rfl) ?_
              refine lv_aload_n hx hb d_Mo_move_123 rfl (lv_at hl 1 rfl) ?_
              refine gf_Mo_23 hx hb hW hown hG hV hm_11 d_Mo_move_124 ?_
              refine lv_iload hx hb d_Mo_move_127 (lv_at hl 0 rfl) ?_
              refine hv_iald hx hb hG.K hV 0 hm_11_4 rfl (vp_in_nI (by omega) (by omega)) d_Mo_move_129 ?_
              rw [nI_clamp (by omega)]
              refine lv_aload_n hx hb d_Mo_move_130 rfl (lv_at hl 1 rfl) ?_
              refine gf_Mo_26 hx hb hW hown hG hV hm_11 d_Mo_move_131 ?_
              refine lv_iload hx hb d_Mo_move_134 (lv_at hl 0 rfl) ?_
              refine hv_iald hx hb hG.K hV 0 hm_11_5 rfl (vp_in_nI (by omega) (by omega)) d_Mo_move_136 ?_
              rw [nI_clamp (by omega)]
              refine lv_aload_n hx hb d_Mo_move_137 rfl (lv_at hl 1 rfl) ?_
              refine gf_Mo_29 hx hb hW hown hG hV hm_11 d_Mo_move_138 ?_
              refine lv_iload hx hb d_Mo_move_141 (lv_at hl 0 rfl) ?_
              refine hv_iald hx hb hG.K hV 0 hm_11_6 rfl (vp_in_nI (by omega) (by omega)) d_Mo_move_143 ?_
              rw [nI_clamp (by omega)]
              refine rc_i (va_runV (As := [.int (nI (hdN part)), .int x, .int y, .int ((ρ.I 4) (hdN part)), .int ((ρ.I 5) (hdN part)), .int ((ρ.I 6) (hdN part))]) (rest := [.ref mo]) ⟨hx, hb, hml, hown, hts⟩ (c_Mo_overlaps l D N0 k V_10 mo ad ((ρ.ws 0 f_2).ws 0 f_2) hM_10 (nI (hdN part)) x y ((ρ.I 4) (hdN part)) ((ρ.I 5) (hdN part)) ((ρ.I 6) (hdN part)) n2 hn2 en2) (cwV 6 hts (gi_V wm_Mo_161 wv_Mo_overlaps ws_Mo_overlaps wi_Mo wc_Mo_overlaps) rfl rfl rfl (by decide +kernel) ⟨Nat.le_of_ble_eq_true rfl, Nat.le_of_ble_eq_true rfl⟩) (mP.preV hG hS hV hm_11 rfl) rfl rfl hl.1 rfl (lv_room (Nat.le_of_ble_eq_true rfl)) d_Mo_move_144 ⟨Nat.le_of_ble_eq_true rfl, Nat.le_of_ble_eq_true rfl⟩) hS (fun H locs hV hS => ?_)
              refine W.eq (g2 := F0 m 147 ls [.int (bI (anyF (moOvP ρ.I (nI (hdN part)) x y ((ρ.I 4) (hdN part)) ((ρ.I 5) (hdN part)) ((ρ.I 6) (hdN part))) 0 n2)), .ref mo]) rfl ?_
              refine lv_if_eq (tgt := 154) hx hb d_Mo_move_147 (by decide) (fun c_18 => ?_) (fun c_18 => ?_)
              · refine lv_iconst (v := 0) hx hb d_Mo_move_154 (by decide) ?_
                refine pf_Mo_149 hx hb hW hown hG hV hS hm_11 d_Mo_move_155 (fun H locs hV hS => ?_)
                replace hV : hv D vwCl N0 (hu V_10 mo (.inr (7, [.int f_2, .int (ρ.s 1), .int (ρ.s 2), .int 0, .ref (ad 0), .ref (ad 1), .ref (ad 2), .ref (ad 3), .ref (ad 4), .ref (ad 5), .ref (ad 6), .ref (ad 7), .ref (ad 8), .int (ρ.s 4), .ref (ad 9), .ref (ad 10), .ref (ad 11), .ref (ad 12), .ref (ad 13), .ref (ad 14), .ref (ad 15), .ref (ad 16), .ref (ad 17), .ref (ad 18), .ref (ad 19), .ref (ad 20), .ref (ad 21), .ref (ad 22), .ref (ad 23), .ref (ad 24), .ref (ad 25)]))) H := hV
                generalize hV_V_19 : hu V_10 mo (.inr (7, [.int f_2, .int (ρ.s 1), .int (ρ.s 2), .int 0, .ref (ad 0), .ref (ad 1), .ref (ad 2), .ref (ad 3), .ref (ad 4), .ref (ad 5), .ref (ad 6), .ref (ad 7), .ref (ad 8), .int (ρ.s 4), .ref (ad 9), .ref (ad 10), .ref (ad 11), .ref (ad 12), .ref (ad 13), .ref (ad 14), .ref (ad 15), .ref (ad 16), .ref (ad 17), .ref (ad 18), .ref (ad 19), .ref (ad 20), .ref (ad 21), .ref (ad 22), .ref (ad 23), .ref (ad 24), .ref (ad 25)])) = V_19 at hV
                have hM_19 : mdOk k V_19 mo ad (((ρ.ws 0 f_2).ws 0 f_2).ws 3 0) := by rw [← hV_V_19]; exact md_put hM_10 3 0
                have hR_19 : mdFr mo ad V V_19 := by rw [← hV_V_19]; exact hR_10.m
                have hm_20 : V_19 mo = some (.inr (7, [.int f_2, .int (ρ.s 1), .int (ρ.s 2), .int 0, .ref (ad 0), .ref (ad 1), .ref (ad 2), .ref (ad 3), .ref (ad 4), .ref (ad 5), .ref (ad 6), .ref (ad 7), .ref (ad 8), .int (ρ.s 4), .ref (ad 9), .ref (ad 10), .ref (ad 11), .ref (ad 12), .ref (ad 13), .ref (ad 14), .ref (ad 15), .ref (ad 16), .ref (ad 17), .ref (ad 18), .ref (ad 19), .ref (ad 20), .ref (ad 21), .ref (ad 22), .ref (ad 23), .ref (ad 24), .ref (ad 25)])) := hM_19.1
                have hm_20_1 : V_19 (ad 1) = some (eZ k 150 (ρ.I 1)) := hM_19.a1
                have hm_20_2 : V_19 (ad 2) = some (eI k 150 (ρ.I 2)) := hM_19.a2
                have hm_20_3 : V_19 (ad 3) = some (eI k 150 (ρ.I 3)) := hM_19.a3
                have hm_20_4 : V_19 (ad 4) = some (eI k 150 (ρ.I 4)) := hM_19.a4
                have hm_20_5 : V_19 (ad 5) = some (eI k 150 (ρ.I 5)) := hM_19.a5
                have hm_20_6 : V_19 (ad 6) = some (eI k 150 (ρ.I 6)) := hM_19.a6
                refine lv_iload_n hx hb d_Mo_move_158 rfl (lv_at hl 3 rfl) ?_
                refine lv_aload_n hx hb d_Mo_move_159 rfl (lv_at hl 1 rfl) ?_
                refine gf_Mo_17 hx hb hW hown hG hV hm_20 d_Mo_move_160 ?_
                refine lv_iload hx hb d_Mo_move_163 (lv_at hl 0 rfl) ?_
                refine hv_iald hx hb hG.K hV 0 hm_20_2 rfl (vp_in_nI (by omega) (by omega)) d_Mo_move_165 ?_
                rw [nI_clamp (by omega)]
                refine lv_isub hx hb d_Mo_move_166 ?_
                refine lv_istore (lv' := [(5, .int (x - ((ρ.I 2) (hdN part)))), (4, .int (nI (hdN part))), (0, .ref mo), (1, .int part), (2, .int x), (3, .int y)]) hx hb d_Mo_move_167 hl (by decide) rfl (fun ls hl => ?_)
                refine lv_iload_n hx hb d_Mo_move_169 rfl (lv_at hl 5 rfl) ?_
                refine lv_aload_n hx hb d_Mo_move_170 rfl (lv_at hl 2 rfl) ?_
                refine gf_Mo_20 hx hb hW hown hG hV hm_20 d_Mo_move_171 ?_
                refine lv_iload hx hb d_Mo_move_174 (lv_at hl 1 rfl) ?_
                refine hv_iald hx hb hG.K hV 0 hm_20_3 rfl (vp_in_nI (by omega) (by omega)) d_Mo_move_176 ?_
                rw [nI_clamp (by omega)]
                refine lv_isub hx hb d_Mo_move_177 ?_
                refine lv_istore (lv' := [(6, .int (y - ((ρ.I 3) (hdN part)))), (5, .int (x - ((ρ.I 2) (hdN part)))), (4, .int (nI (hdN part))), (0, .ref mo), (1, .int part), (2, .int x), (3, .int y)]) hx hb d_Mo_move_178 hl (by decide) rfl (fun ls hl => ?_)
                refine lv_bipush (v := 20) hx hb d_Mo_move_180 (by decide) ?_
                refine lv_istore (lv' := [(7, .int 20), (6, .int (y - ((ρ.I 3) (hdN part)))), (5, .int (x - ((ρ.I 2) (hdN part)))), (4, .int (nI (hdN part))), (0, .ref mo), (1, .int part), (2, .int x), (3, .int y)]) hx hb d_Mo_move_182 hl (by decide) rfl (fun ls hl => ?_)
                obtain ⟨Pb, hPb⟩ : ∃ z, z = moMvP ρ (hdN part) (x - (ρ.I 2 (hdN part))) (y - (ρ.I 3 (hdN part))) := ⟨_, rfl⟩
                have loop_21 : ∀ (n i : Nat) (V1 : HV) (to : Int32) (H : Heap) (locs : List Loc) (ls : Array Slot), i ≤ 80 → 80 + 1 ≤ i + n → (mdOk k V1 mo ad (((ρ.ws 0 f_2).ws 0 f_2).ws 3 to) ∧ mdFr mo ad V V1 ∧ ((to = 0 ∧ anyF Pb 20 (i - 20) = false) ∨ (to = 5 ∧ anyF Pb 20 60 = true)) ∧ 20 ≤ i) → hv D vwCl N0 V1 H → va_S (hA N0) s.heap H locs → lv_has ls 8 [(0, .ref mo), (1, .int part), (2, .int x), (3, .int y), (4, .int (nI (hdN part))), (5, .int (x - ((ρ.I 2) (hdN part)))), (6, .int (y - ((ρ.I 3) (hdN part)))), (7, .int (nI i))] → W p l e (headSpec (.code y_Mo_move b_Mo_move 8 (some .boolean) :: WS) ({ frames := 4, cells := 0, slots := 0, locals := 91 })).room s m #[.ref mo, .int part, .int x, .int y] below meth c H locs 0 0 (MQ below (va_Qi (fun r V' => mdOk k V' mo ad (moMove ρ n2 n6 part x y).2 ∧ mdFr mo ad V V' ∧ r = (moMove ρ n2 n6 part x y).1) (mB D N0) (hA N0)) #[.ref mo, .int part, .int x, .int y] s 0 0 (hA N0)) (F0 m 184 ls []) := by
                  intro n
                  induction n with
                  | zero => intro i V1 to H locs ls h1 h2; exact absurd h2 (by omega)
                  | succ n ih =>
                    intro i V1 to H locs ls hi hin hI hV hS hl
                    obtain ⟨hM1, hR1, hT1, h20⟩ := hI
                    have hm_22 : V1 mo = some (.inr (7, [.int f_2, .int (ρ.s 1), .int (ρ.s 2), .int to, .ref (ad 0), .ref (ad 1), .ref (ad 2), .ref (ad 3), .ref (ad 4), .ref (ad 5), .ref (ad 6), .ref (ad 7), .ref (ad 8), .int (ρ.s 4), .ref (ad 9), .ref (ad 10), .ref (ad 11), .ref (ad 12), .ref (ad 13), .ref (ad 14), .ref (ad 15), .ref (ad 16), .ref (ad 17), .ref (ad 18), .ref (ad 19), .ref (ad 20), .ref (ad 21), .ref (ad 22), .ref (ad 23), .ref (ad 24), .ref (ad 25)])) := hM1.1
                    have hm_22_1 : V1 (ad 1) = some (eZ k 150 (ρ.I 1)) := hM1.a1
                    have hm_22_2 : V1 (ad 2) = some (eI k 150 (ρ.I 2)) := hM1.a2
                    have hm_22_3 : V1 (ad 3) = some (eI k 150 (ρ.I 3)) := hM1.a3
                    have hm_22_4 : V1 (ad 4) = some (eI k 150 (ρ.I 4)) := hM1.a4
                    have hm_22_5 : V1 (ad 5) = some (eI k 150 (ρ.I 5)) := hM1.a5
                    have hm_22_6 : V1 (ad 6) = some (eI k 150 (ρ.I 6)) := hM1.a6
                    refine lv_iload hx hb d_Mo_move_184 (lv_at hl 7 rfl) ?_
                    refine lv_bipush (v := 80) hx hb d_Mo_move_186 (by decide) ?_
                    refine lv_icmp_ge (tgt := 239) hx hb d_Mo_move_188 (by decide) (fun c_23 => ?_) (fun c_23 => ?_)
                    · have hge : 80 ≤ i := nI_le' (a := 80) (b := i) c_23 (by omega) (by omega)
                      have hto : to = if anyF Pb 20 60 = true then 5 else 0 := hT1.elim (fun q => by rw [if_neg (by rw [show 60 = i - 20 by omega, q.2]; exact Bool.false_ne_true)]; exact q.1) (fun q => by rw [if_pos q.2]; exact q.1)
                      refine lv_aload_n hx hb d_Mo_move_239 rfl (lv_at hl 0 rfl) ?_
                      refine gf_Mo_149 hx hb hW hown hG hV hm_22 d_Mo_move_240 ?_
                      refine lv_if_eq (tgt := 248) hx hb d_Mo_move_243 (by decide) (fun c_24 => ?_) (fun c_24 => ?_)
                      · have hany : anyF Pb 20 60 = false := by cases hq : anyF Pb 20 60 with | false => rfl | true => rw [hq, if_pos rfl] at hto; rw [hto] at c_24; exact absurd c_24 (by decide)
                        subst c_24
                        refine lv_iconst (v := 0) hx hb d_Mo_move_248 (by decide) ?_
                        refine lv_istore (lv' := [(7, .int 0), (0, .ref mo), (1, .int part), (2, .int x), (3, .int y), (4, .int (nI (hdN part))), (5, .int (x - ((ρ.I 2) (hdN part)))), (6, .int (y - ((ρ.I 3) (hdN part))))]) hx hb d_Mo_move_249 hl (by decide) rfl (fun ls hl => ?_)
                        have loop_25 : ∀ (nz iz : Nat) (V1z : HV)  (H : Heap) (locs : List Loc) (ls : Array Slot), iz ≤ 80 → 80 + 1 ≤ iz + nz → (mdOk k V1z mo ad (moMvL (((ρ.ws 0 f_2).ws 0 f_2).ws 3 0) (hdN part) (x - (ρ.I 2 (hdN part))) (y - (ρ.I 3 (hdN part))) iz) ∧ mdFr mo ad V V1z) → hv D vwCl N0 V1z H → va_S (hA N0) s.heap H locs → lv_has ls 8 [(0, .ref mo), (1, .int part), (2, .int x), (3, .int y), (4, .int (nI (hdN part))), (5, .int (x - ((ρ.I 2) (hdN part)))), (6, .int (y - ((ρ.I 3) (hdN part)))), (7, .int (nI iz))] → W p l e (headSpec (.code y_Mo_move b_Mo_move 8 (some .boolean) :: WS) ({ frames := 4, cells := 0, slots := 0, locals := 91 })).room s m #[.ref mo, .int part, .int x, .int y] below meth c H locs 0 0 (MQ below (va_Qi (fun r V' => mdOk k V' mo ad (moMove ρ n2 n6 part x y).2 ∧ mdFr mo ad V V' ∧ r = (moMove ρ n2 n6 part x y).1) (mB D N0) (hA N0)) #[.ref mo, .int part, .int x, .int y] s 0 0 (hA N0)) (F0 m 251 ls []) := by
                          intro nz
                          induction nz with
                          | zero => intro iz V1z  H locs ls h1 h2; exact absurd h2 (by omega)
                          | succ nz ihz =>
                            intro iz V1z  H locs ls hiz hinz hIz hV hS hl
                            obtain ⟨hM2, hR2⟩ := hIz
                            obtain ⟨ρl, eρl⟩ : ∃ z, z = moMvL (((ρ.ws 0 f_2).ws 0 f_2).ws 3 0) (hdN part) (x - (ρ.I 2 (hdN part))) (y - (ρ.I 3 (hdN part))) iz := ⟨_, rfl⟩
                            rw [← eρl] at hM2
                            have hsl : ρl.s = (((ρ.ws 0 f_2).ws 0 f_2).ws 3 0).s := by rw [eρl]; exact mvL_s iz
                            have hwol : moWo ρl := by unfold moWo; rw [hsl]; exact hwo
                            have hm_26 : V1z mo = some (.inr (7, [.int (ρl.s 0), .int (ρl.s 1), .int (ρl.s 2), .int (ρl.s 3), .ref (ad 0), .ref (ad 1), .ref (ad 2), .ref (ad 3), .ref (ad 4), .ref (ad 5), .ref (ad 6), .ref (ad 7), .ref (ad 8), .int (ρl.s 4), .ref (ad 9), .ref (ad 10), .ref (ad 11), .ref (ad 12), .ref (ad 13), .ref (ad 14), .ref (ad 15), .ref (ad 16), .ref (ad 17), .ref (ad 18), .ref (ad 19), .ref (ad 20), .ref (ad 21), .ref (ad 22), .ref (ad 23), .ref (ad 24), .ref (ad 25)])) := hM2.1
                            have hm_26_1 : V1z (ad 1) = some (eZ k 150 (ρl.I 1)) := hM2.a1
                            have hm_26_2 : V1z (ad 2) = some (eI k 150 (ρl.I 2)) := hM2.a2
                            have hm_26_3 : V1z (ad 3) = some (eI k 150 (ρl.I 3)) := hM2.a3
                            have hm_26_4 : V1z (ad 4) = some (eI k 150 (ρl.I 4)) := hM2.a4
                            have hm_26_5 : V1z (ad 5) = some (eI k 150 (ρl.I 5)) := hM2.a5
                            have hm_26_6 : V1z (ad 6) = some (eI k 150 (ρl.I 6)) := hM2.a6
                            refine lv_iload hx hb d_Mo_move_251 (lv_at hl 7 rfl) ?_
                            refine lv_bipush (v := 80) hx hb d_Mo_move_253 (by decide) ?_
                            refine lv_icmp_ge (tgt := 316) hx hb d_Mo_move_255 (by decide) (fun c_27 => ?_) (fun c_27 => ?_)
                            · have hgez : 80 ≤ iz := nI_le' (a := 80) (b := iz) c_27 (by omega) (by omega)
                              refine lv_iconst (v := 1) hx hb d_Mo_move_316 (by decide) ?_
                              try simp only [bI_ne0, bI_eq0, decide_eq_true_eq, decide_eq_false_iff_not, Bool.not_eq_false, Bool.not_eq_true] at c_5
                              try simp only [bI_ne0, bI_eq0, decide_eq_true_eq, decide_eq_false_iff_not, Bool.not_eq_false, Bool.not_eq_true] at c_9
                              try simp only [bI_ne0, bI_eq0, decide_eq_true_eq, decide_eq_false_iff_not, Bool.not_eq_false, Bool.not_eq_true] at c_12
                              try simp only [bI_ne0, bI_eq0, decide_eq_true_eq, decide_eq_false_iff_not, Bool.not_eq_false, Bool.not_eq_true] at c_13
                              try simp only [bI_ne0, bI_eq0, decide_eq_true_eq, decide_eq_false_iff_not, Bool.not_eq_false, Bool.not_eq_true] at c_14
                              try simp only [bI_ne0, bI_eq0, decide_eq_true_eq, decide_eq_false_iff_not, Bool.not_eq_false, Bool.not_eq_true] at c_17
                              try simp only [bI_ne0, bI_eq0, decide_eq_true_eq, decide_eq_false_iff_not, Bool.not_eq_false, Bool.not_eq_true] at c_18
                              have hi9 : iz = 80 := by omega
                              have hM9 := hM2
                              rw [eρl, hi9] at hM9
                              rw [hPb] at hany
                              subst ef_2
                              have hfin : moMove ρ n2 n6 part x y = (1, moMvL (((ρ.ws 0 (moFault (ρ.I 0) part 2)).ws 0 (moFault (ρ.I 0) part 2)).ws 3 0) (hdN part) (x - (ρ.I 2 (hdN part))) (y - (ρ.I 3 (hdN part))) 80) := by simp only [moMove, moMvW, hany, c_5, c_9, c_12, c_13, c_14, c_17, c_18, decide_true, decide_false, Bool.true_and, Bool.and_true, Bool.false_and, Bool.and_false, Bool.true_or, Bool.or_true, Bool.false_or, Bool.or_false, Bool.not_true, Bool.not_false, if_true, if_false, Bool.false_eq_true, Bool.true_eq_false, reduceIte, eq_self]
                              generalize moMvL (((ρ.ws 0 (moFault (ρ.I 0) part 2)).ws 0 (moFault (ρ.I 0) part 2)).ws 3 0) (hdN part) (x - (ρ.I 2 (hdN part))) (y - (ρ.I 3 (hdN part))) 80 = zz at hM9 hfin
                              exact W.zret (v := 1) hx hb hr rfl (fun t9 ht hW => ⟨⟨1, V1z, rfl, ⟨by rw [hfin]; exact hM9, hR2, by rw [hfin]⟩, mB_of ht hV⟩, hS.F ht⟩) hS.2.2 d_Mo_move_317
                            · have hltz : iz < 80 := nI_nle' (a := 80) (b := iz) c_27 (by omega) (by omega)
                              refine lv_iload hx hb d_Mo_move_258 (lv_at hl 7 rfl) ?_
                              refine lv_iload hx hb d_Mo_move_260 (lv_at hl 4 rfl) ?_
                              refine lv_icmp_eq (tgt := 279) hx hb d_Mo_move_262 (by decide) (fun c_28 => ?_) (fun c_28 => ?_)
                              · refine lv_aload_n hx hb d_Mo_move_279 rfl (lv_at hl 0 rfl) ?_
                                refine lv_iload hx hb d_Mo_move_280 (lv_at hl 7 rfl) ?_
                                refine lv_iconst (v := 1) hx hb d_Mo_move_282 (by decide) ?_
                                refine rc_V (va_runV (As := [.int (nI iz), .int 1]) (rest := []) ⟨hx, hb, hml, hown, hts⟩ (c_Mo_note l D N0 k V1z mo ad ρl hM2 iz (by omega) 1 (by decide) hwol) (cwV 2 hts (gi_V wm_Mo_139 wv_Mo_note ws_Mo_note wi_Mo wc_Mo_note) rfl rfl rfl (by decide +kernel) ⟨Nat.le_of_ble_eq_true rfl, Nat.le_of_ble_eq_true rfl⟩) (mP.preV hG hS hV hm_26 rfl) rfl rfl hl.1 rfl (lv_room (Nat.le_of_ble_eq_true rfl)) d_Mo_move_283 ⟨Nat.le_of_ble_eq_true rfl, Nat.le_of_ble_eq_true rfl⟩) hS (fun V_29 H locs hp_30 hV hS => ?_)
                                obtain ⟨hM_31, hM_31R⟩ := hp_30
                                obtain ⟨ρn_32, eρn_32⟩ : ∃ z, z = moNote ρl iz 1 := ⟨_, rfl⟩
                                rw [← eρn_32] at hM_31
                                have hwo_ρn_32 : moWo ρn_32 := by unfold moWo; rw [eρn_32, note_s]; exact hwol
                                have hm_33 : V_29 mo = some (.inr (7, [.int (ρn_32.s 0), .int (ρn_32.s 1), .int (ρn_32.s 2), .int (ρn_32.s 3), .ref (ad 0), .ref (ad 1), .ref (ad 2), .ref (ad 3), .ref (ad 4), .ref (ad 5), .ref (ad 6), .ref (ad 7), .ref (ad 8), .int (ρn_32.s 4), .ref (ad 9), .ref (ad 10), .ref (ad 11), .ref (ad 12), .ref (ad 13), .ref (ad 14), .ref (ad 15), .ref (ad 16), .ref (ad 17), .ref (ad 18), .ref (ad 19), .ref (ad 20), .ref (ad 21), .ref (ad 22), .ref (ad 23), .ref (ad 24), .ref (ad 25)])) := hM_31.1
                                have hm_33_1 : V_29 (ad 1) = some (eZ k 150 (ρn_32.I 1)) := hM_31.a1
                                have hm_33_2 : V_29 (ad 2) = some (eI k 150 (ρn_32.I 2)) := hM_31.a2
                                have hm_33_3 : V_29 (ad 3) = some (eI k 150 (ρn_32.I 3)) := hM_31.a3
                                have hm_33_4 : V_29 (ad 4) = some (eI k 150 (ρn_32.I 4)) := hM_31.a4
                                have hm_33_5 : V_29 (ad 5) = some (eI k 150 (ρn_32.I 5)) := hM_31.a5
                                have hm_33_6 : V_29 (ad 6) = some (eI k 150 (ρn_32.I 6)) := hM_31.a6
                                refine lv_aload_n hx hb d_Mo_move_286 rfl (lv_at hl 0 rfl) ?_
                                refine gf_Mo_17 hx hb hW hown hG hV hm_33 d_Mo_move_287 ?_
                                refine lv_iload hx hb d_Mo_move_290 (lv_at hl 7 rfl) ?_
                                refine lv_dup2_11 hx hb d_Mo_move_292 rfl rfl ?_
                                refine hv_iald hx hb hG.K hV 0 hm_33_2 rfl (vp_in_nI (by omega) (by omega)) d_Mo_move_293 ?_
                                rw [nI_clamp (by omega)]
                                refine lv_iload hx hb d_Mo_move_294 (lv_at hl 5 rfl) ?_
                                refine lv_iadd hx hb d_Mo_move_296 ?_
                                refine hv_iast hx hb hG.K hV hS 0 hm_33_2 rfl (vp_in_nI (by omega) (by omega)) d_Mo_move_297 (fun H locs hV hS => ?_)
                                rw [nI_clamp (by omega)] at hV
                                replace hV : hv D vwCl N0 (hu V_29 (ad 2) (eI k 150 (upd (ρn_32.I 2) iz (((ρn_32.I 2) iz) + (x - ((ρ.I 2) (hdN part))))))) H := hV
                                generalize hV_V_34 : hu V_29 (ad 2) (eI k 150 (upd (ρn_32.I 2) iz (((ρn_32.I 2) iz) + (x - ((ρ.I 2) (hdN part)))))) = V_34 at hV
                                have hM_34 : mdOk k V_34 mo ad (ρn_32.wI 2 (upd (ρn_32.I 2) iz (((ρn_32.I 2) iz) + (x - ((ρ.I 2) (hdN part)))))) := by rw [← hV_V_34]; exact md_set hM_31 2 (by omega) (upd (ρn_32.I 2) iz (((ρn_32.I 2) iz) + (x - ((ρ.I 2) (hdN part)))))
                                have hR_34 : mdFr mo ad V V_34 := by rw [← hV_V_34]; exact (hR2.tr hM_31R).ar (j := 2) (by omega)
                                have hm_35 : V_34 mo = some (.inr (7, [.int (ρn_32.s 0), .int (ρn_32.s 1), .int (ρn_32.s 2), .int (ρn_32.s 3), .ref (ad 0), .ref (ad 1), .ref (ad 2), .ref (ad 3), .ref (ad 4), .ref (ad 5), .ref (ad 6), .ref (ad 7), .ref (ad 8), .int (ρn_32.s 4), .ref (ad 9), .ref (ad 10), .ref (ad 11), .ref (ad 12), .ref (ad 13), .ref (ad 14), .ref (ad 15), .ref (ad 16), .ref (ad 17), .ref (ad 18), .ref (ad 19), .ref (ad 20), .ref (ad 21), .ref (ad 22), .ref (ad 23), .ref (ad 24), .ref (ad 25)])) := hM_34.1
                                have hm_35_1 : V_34 (ad 1) = some (eZ k 150 (ρn_32.I 1)) := hM_34.a1
                                have hm_35_2 : V_34 (ad 2) = some (eI k 150 (upd (ρn_32.I 2) iz (((ρn_32.I 2) iz) + (x - ((ρ.I 2) (hdN part)))))) := hM_34.a2
                                have hm_35_3 : V_34 (ad 3) = some (eI k 150 (ρn_32.I 3)) := hM_34.a3
                                have hm_35_4 : V_34 (ad 4) = some (eI k 150 (ρn_32.I 4)) := hM_34.a4
                                have hm_35_5 : V_34 (ad 5) = some (eI k 150 (ρn_32.I 5)) := hM_34.a5
                                have hm_35_6 : V_34 (ad 6) = some (eI k 150 (ρn_32.I 6)) := hM_34.a6
                                refine lv_aload_n hx hb d_Mo_move_298 rfl (lv_at hl 0 rfl) ?_
                                refine gf_Mo_20 hx hb hW hown hG hV hm_35 d_Mo_move_299 ?_
                                refine lv_iload hx hb d_Mo_move_302 (lv_at hl 7 rfl) ?_
                                refine lv_dup2_11 hx hb d_Mo_move_304 rfl rfl ?_
                                refine hv_iald hx hb hG.K hV 0 hm_35_3 rfl (vp_in_nI (by omega) (by omega)) d_Mo_move_305 ?_
                                rw [nI_clamp (by omega)]
                                refine lv_iload hx hb d_Mo_move_306 (lv_at hl 6 rfl) ?_
                                refine lv_iadd hx hb d_Mo_move_308 ?_
                                refine hv_iast hx hb hG.K hV hS 0 hm_35_3 rfl (vp_in_nI (by omega) (by omega)) d_Mo_move_309 (fun H locs hV hS => ?_)
                                rw [nI_clamp (by omega)] at hV
                                replace hV : hv D vwCl N0 (hu V_34 (ad 3) (eI k 150 (upd (ρn_32.I 3) iz (((ρn_32.I 3) iz) + (y - ((ρ.I 3) (hdN part))))))) H := hV
                                generalize hV_V_36 : hu V_34 (ad 3) (eI k 150 (upd (ρn_32.I 3) iz (((ρn_32.I 3) iz) + (y - ((ρ.I 3) (hdN part)))))) = V_36 at hV
                                have hM_36 : mdOk k V_36 mo ad ((ρn_32.wI 2 (upd (ρn_32.I 2) iz (((ρn_32.I 2) iz) + (x - ((ρ.I 2) (hdN part)))))).wI 3 (upd (ρn_32.I 3) iz (((ρn_32.I 3) iz) + (y - ((ρ.I 3) (hdN part)))))) := by rw [← hV_V_36]; exact md_set hM_34 3 (by omega) (upd (ρn_32.I 3) iz (((ρn_32.I 3) iz) + (y - ((ρ.I 3) (hdN part)))))
                                have hR_36 : mdFr mo ad V V_36 := by rw [← hV_V_36]; exact hR_34.ar (j := 3) (by omega)
                                have hm_37 : V_36 mo = some (.inr (7, [.int (ρn_32.s 0), .int (ρn_32.s 1), .int (ρn_32.s 2), .int (ρn_32.s 3), .ref (ad 0), .ref (ad 1), .ref (ad 2), .ref (ad 3), .ref (ad 4), .ref (ad 5), .ref (ad 6), .ref (ad 7), .ref (ad 8), .int (ρn_32.s 4), .ref (ad 9), .ref (ad 10), .ref (ad 11), .ref (ad 12), .ref (ad 13), .ref (ad 14), .ref (ad 15), .ref (ad 16), .ref (ad 17), .ref (ad 18), .ref (ad 19), .ref (ad 20), .ref (ad 21), .ref (ad 22), .ref (ad 23), .ref (ad 24), .ref (ad 25)])) := hM_36.1
                                have hm_37_1 : V_36 (ad 1) = some (eZ k 150 (ρn_32.I 1)) := hM_36.a1
                                have hm_37_2 : V_36 (ad 2) = some (eI k 150 (upd (ρn_32.I 2) iz (((ρn_32.I 2) iz) + (x - ((ρ.I 2) (hdN part)))))) := hM_36.a2
                                have hm_37_3 : V_36 (ad 3) = some (eI k 150 (upd (ρn_32.I 3) iz (((ρn_32.I 3) iz) + (y - ((ρ.I 3) (hdN part)))))) := hM_36.a3
                                have hm_37_4 : V_36 (ad 4) = some (eI k 150 (ρn_32.I 4)) := hM_36.a4
                                have hm_37_5 : V_36 (ad 5) = some (eI k 150 (ρn_32.I 5)) := hM_36.a5
                                have hm_37_6 : V_36 (ad 6) = some (eI k 150 (ρn_32.I 6)) := hM_36.a6
                                obtain ⟨i_38, ei_38⟩ : ∃ y : Int32, y = (nI iz) + 1 := ⟨_, rfl⟩
                                refine lv_iinc (v := i_38) (lv' := [(7, .int i_38), (0, .ref mo), (1, .int part), (2, .int x), (3, .int y), (4, .int (nI (hdN part))), (5, .int (x - ((ρ.I 2) (hdN part)))), (6, .int (y - ((ρ.I 3) (hdN part))))]) hx hb d_Mo_move_310 hl (k := 7) rfl (by rw [ei_38]; rfl) (by decide) rfl (fun ls hl => ?_)
                                refine lv_goto (tgt := 251) hx hb d_Mo_move_313 (by decide) ?_
                                rw [nI_1] at ei_38
                                subst ei_38
                                try simp only [bI_ne0, bI_eq0, decide_eq_true_eq, decide_eq_false_iff_not, Bool.not_eq_false, Bool.not_eq_true, Decidable.not_not] at c_5
                                try simp only [bI_ne0, bI_eq0, decide_eq_true_eq, decide_eq_false_iff_not, Bool.not_eq_false, Bool.not_eq_true, Decidable.not_not] at c_9
                                try simp only [bI_ne0, bI_eq0, decide_eq_true_eq, decide_eq_false_iff_not, Bool.not_eq_false, Bool.not_eq_true, Decidable.not_not] at c_12
                                try simp only [bI_ne0, bI_eq0, decide_eq_true_eq, decide_eq_false_iff_not, Bool.not_eq_false, Bool.not_eq_true, Decidable.not_not] at c_13
                                try simp only [bI_ne0, bI_eq0, decide_eq_true_eq, decide_eq_false_iff_not, Bool.not_eq_false, Bool.not_eq_true, Decidable.not_not] at c_14
                                try simp only [bI_ne0, bI_eq0, decide_eq_true_eq, decide_eq_false_iff_not, Bool.not_eq_false, Bool.not_eq_true, Decidable.not_not] at c_17
                                try simp only [bI_ne0, bI_eq0, decide_eq_true_eq, decide_eq_false_iff_not, Bool.not_eq_false, Bool.not_eq_true, Decidable.not_not] at c_18
                                try simp only [bI_ne0, bI_eq0, decide_eq_true_eq, decide_eq_false_iff_not, Bool.not_eq_false, Bool.not_eq_true, Decidable.not_not] at c_23
                                try simp only [bI_ne0, bI_eq0, decide_eq_true_eq, decide_eq_false_iff_not, Bool.not_eq_false, Bool.not_eq_true, Decidable.not_not] at c_24
                                try simp only [bI_ne0, bI_eq0, decide_eq_true_eq, decide_eq_false_iff_not, Bool.not_eq_false, Bool.not_eq_true, Decidable.not_not] at c_27
                                try simp only [bI_ne0, bI_eq0, decide_eq_true_eq, decide_eq_false_iff_not, Bool.not_eq_false, Bool.not_eq_true, Decidable.not_not] at c_28
                                exact ihz (iz + 1) V_36  _ _ _ (by omega) (by omega) (⟨by rw [moMvL, if_pos (by rw [← eρl]; first | (simp only [moMvC, eq_true c_28, decide_true, decide_false, Bool.true_and, Bool.and_true, Bool.false_and, Bool.and_false, Bool.true_or, Bool.or_true, Bool.false_or, Bool.or_false, Bool.not_true, Bool.not_false, if_true, if_false, Bool.false_eq_true, Bool.true_eq_false, reduceIte, eq_self]; done) | (simp_all [moMvC]; done)), ← eρl, ← eρn_32]; exact hM_36, hR_36⟩) hV hS (lv_sub hl [1, 2, 3, 4, 5, 6, 7, 0] rfl)
                              · refine lv_aload_n hx hb d_Mo_move_265 rfl (lv_at hl 0 rfl) ?_
                                refine lv_iload hx hb d_Mo_move_266 (lv_at hl 7 rfl) ?_
                                refine lv_iload hx hb d_Mo_move_268 (lv_at hl 4 rfl) ?_
                                refine rc_i (va_runV (As := [.int (nI iz), .int (nI (hdN part))]) (rest := []) ⟨hx, hb, hml, hown, hts⟩ (c_Mo_isOf l D N0 k V1z mo ad ρl hM2 iz (by omega) (nI (hdN part))) (cwV 2 hts (gi_V wm_Mo_192 wv_Mo_isOf ws_Mo_isOf wi_Mo wc_Mo_isOf) rfl rfl rfl (by decide +kernel) ⟨Nat.le_of_ble_eq_true rfl, Nat.le_of_ble_eq_true rfl⟩) (mP.preV hG hS hV hm_26 rfl) rfl rfl hl.1 rfl (lv_room (Nat.le_of_ble_eq_true rfl)) d_Mo_move_270 ⟨Nat.le_of_ble_eq_true rfl, Nat.le_of_ble_eq_true rfl⟩) hS (fun H locs hV hS => ?_)
                                refine W.eq (g2 := F0 m 273 ls [.int (bI (moOf ρl.I iz (nI (hdN part))))]) rfl ?_
                                refine lv_if_ne (tgt := 279) hx hb d_Mo_move_273 (by decide) (fun c_39 => ?_) (fun c_39 => ?_)
                                · refine lv_aload_n hx hb d_Mo_move_279 rfl (lv_at hl 0 rfl) ?_
                                  refine lv_iload hx hb d_Mo_move_280 (lv_at hl 7 rfl) ?_
                                  refine lv_iconst (v := 1) hx hb d_Mo_move_282 (by decide) ?_
                                  refine rc_V (va_runV (As := [.int (nI iz), .int 1]) (rest := []) ⟨hx, hb, hml, hown, hts⟩ (c_Mo_note l D N0 k V1z mo ad ρl hM2 iz (by omega) 1 (by decide) hwol) (cwV 2 hts (gi_V wm_Mo_139 wv_Mo_note ws_Mo_note wi_Mo wc_Mo_note) rfl rfl rfl (by decide +kernel) ⟨Nat.le_of_ble_eq_true rfl, Nat.le_of_ble_eq_true rfl⟩) (mP.preV hG hS hV hm_26 rfl) rfl rfl hl.1 rfl (lv_room (Nat.le_of_ble_eq_true rfl)) d_Mo_move_283 ⟨Nat.le_of_ble_eq_true rfl, Nat.le_of_ble_eq_true rfl⟩) hS (fun V_40 H locs hp_41 hV hS => ?_)
                                  obtain ⟨hM_42, hM_42R⟩ := hp_41
                                  obtain ⟨ρn_43, eρn_43⟩ : ∃ z, z = moNote ρl iz 1 := ⟨_, rfl⟩
                                  rw [← eρn_43] at hM_42
                                  have hwo_ρn_43 : moWo ρn_43 := by unfold moWo; rw [eρn_43, note_s]; exact hwol
                                  have hm_44 : V_40 mo = some (.inr (7, [.int (ρn_43.s 0), .int (ρn_43.s 1), .int (ρn_43.s 2), .int (ρn_43.s 3), .ref (ad 0), .ref (ad 1), .ref (ad 2), .ref (ad 3), .ref (ad 4), .ref (ad 5), .ref (ad 6), .ref (ad 7), .ref (ad 8), .int (ρn_43.s 4), .ref (ad 9), .ref (ad 10), .ref (ad 11), .ref (ad 12), .ref (ad 13), .ref (ad 14), .ref (ad 15), .ref (ad 16), .ref (ad 17), .ref (ad 18), .ref (ad 19), .ref (ad 20), .ref (ad 21), .ref (ad 22), .ref (ad 23), .ref (ad 24), .ref (ad 25)])) := hM_42.1
                                  have hm_44_1 : V_40 (ad 1) = some (eZ k 150 (ρn_43.I 1)) := hM_42.a1
                                  have hm_44_2 : V_40 (ad 2) = some (eI k 150 (ρn_43.I 2)) := hM_42.a2
                                  have hm_44_3 : V_40 (ad 3) = some (eI k 150 (ρn_43.I 3)) := hM_42.a3
                                  have hm_44_4 : V_40 (ad 4) = some (eI k 150 (ρn_43.I 4)) := hM_42.a4
                                  have hm_44_5 : V_40 (ad 5) = some (eI k 150 (ρn_43.I 5)) := hM_42.a5
                                  have hm_44_6 : V_40 (ad 6) = some (eI k 150 (ρn_43.I 6)) := hM_42.a6
                                  refine lv_aload_n hx hb d_Mo_move_286 rfl (lv_at hl 0 rfl) ?_
                                  refine gf_Mo_17 hx hb hW hown hG hV hm_44 d_Mo_move_287 ?_
                                  refine lv_iload hx hb d_Mo_move_290 (lv_at hl 7 rfl) ?_
                                  refine lv_dup2_11 hx hb d_Mo_move_292 rfl rfl ?_
                                  refine hv_iald hx hb hG.K hV 0 hm_44_2 rfl (vp_in_nI (by omega) (by omega)) d_Mo_move_293 ?_
                                  rw [nI_clamp (by omega)]
                                  refine lv_iload hx hb d_Mo_move_294 (lv_at hl 5 rfl) ?_
                                  refine lv_iadd hx hb d_Mo_move_296 ?_
                                  refine hv_iast hx hb hG.K hV hS 0 hm_44_2 rfl (vp_in_nI (by omega) (by omega)) d_Mo_move_297 (fun H locs hV hS => ?_)
                                  rw [nI_clamp (by omega)] at hV
                                  replace hV : hv D vwCl N0 (hu V_40 (ad 2) (eI k 150 (upd (ρn_43.I 2) iz (((ρn_43.I 2) iz) + (x - ((ρ.I 2) (hdN part))))))) H := hV
                                  generalize hV_V_45 : hu V_40 (ad 2) (eI k 150 (upd (ρn_43.I 2) iz (((ρn_43.I 2) iz) + (x - ((ρ.I 2) (hdN part)))))) = V_45 at hV
                                  have hM_45 : mdOk k V_45 mo ad (ρn_43.wI 2 (upd (ρn_43.I 2) iz (((ρn_43.I 2) iz) + (x - ((ρ.I 2) (hdN part)))))) := by rw [← hV_V_45]; exact md_set hM_42 2 (by omega) (upd (ρn_43.I 2) iz (((ρn_43.I 2) iz) + (x - ((ρ.I 2) (hdN part)))))
                                  have hR_45 : mdFr mo ad V V_45 := by rw [← hV_V_45]; exact (hR2.tr hM_42R).ar (j := 2) (by omega)
                                  have hm_46 : V_45 mo = some (.inr (7, [.int (ρn_43.s 0), .int (ρn_43.s 1), .int (ρn_43.s 2), .int (ρn_43.s 3), .ref (ad 0), .ref (ad 1), .ref (ad 2), .ref (ad 3), .ref (ad 4), .ref (ad 5), .ref (ad 6), .ref (ad 7), .ref (ad 8), .int (ρn_43.s 4), .ref (ad 9), .ref (ad 10), .ref (ad 11), .ref (ad 12), .ref (ad 13), .ref (ad 14), .ref (ad 15), .ref (ad 16), .ref (ad 17), .ref (ad 18), .ref (ad 19), .ref (ad 20), .ref (ad 21), .ref (ad 22), .ref (ad 23), .ref (ad 24), .ref (ad 25)])) := hM_45.1
                                  have hm_46_1 : V_45 (ad 1) = some (eZ k 150 (ρn_43.I 1)) := hM_45.a1
                                  have hm_46_2 : V_45 (ad 2) = some (eI k 150 (upd (ρn_43.I 2) iz (((ρn_43.I 2) iz) + (x - ((ρ.I 2) (hdN part)))))) := hM_45.a2
                                  have hm_46_3 : V_45 (ad 3) = some (eI k 150 (ρn_43.I 3)) := hM_45.a3
                                  have hm_46_4 : V_45 (ad 4) = some (eI k 150 (ρn_43.I 4)) := hM_45.a4
                                  have hm_46_5 : V_45 (ad 5) = some (eI k 150 (ρn_43.I 5)) := hM_45.a5
                                  have hm_46_6 : V_45 (ad 6) = some (eI k 150 (ρn_43.I 6)) := hM_45.a6
                                  refine lv_aload_n hx hb d_Mo_move_298 rfl (lv_at hl 0 rfl) ?_
                                  refine gf_Mo_20 hx hb hW hown hG hV hm_46 d_Mo_move_299 ?_
                                  refine lv_iload hx hb d_Mo_move_302 (lv_at hl 7 rfl) ?_
                                  refine lv_dup2_11 hx hb d_Mo_move_304 rfl rfl ?_
                                  refine hv_iald hx hb hG.K hV 0 hm_46_3 rfl (vp_in_nI (by omega) (by omega)) d_Mo_move_305 ?_
                                  rw [nI_clamp (by omega)]
                                  refine lv_iload hx hb d_Mo_move_306 (lv_at hl 6 rfl) ?_
                                  refine lv_iadd hx hb d_Mo_move_308 ?_
                                  refine hv_iast hx hb hG.K hV hS 0 hm_46_3 rfl (vp_in_nI (by omega) (by omega)) d_Mo_move_309 (fun H locs hV hS => ?_)
                                  rw [nI_clamp (by omega)] at hV
                                  replace hV : hv D vwCl N0 (hu V_45 (ad 3) (eI k 150 (upd (ρn_43.I 3) iz (((ρn_43.I 3) iz) + (y - ((ρ.I 3) (hdN part))))))) H := hV
                                  generalize hV_V_47 : hu V_45 (ad 3) (eI k 150 (upd (ρn_43.I 3) iz (((ρn_43.I 3) iz) + (y - ((ρ.I 3) (hdN part)))))) = V_47 at hV
                                  have hM_47 : mdOk k V_47 mo ad ((ρn_43.wI 2 (upd (ρn_43.I 2) iz (((ρn_43.I 2) iz) + (x - ((ρ.I 2) (hdN part)))))).wI 3 (upd (ρn_43.I 3) iz (((ρn_43.I 3) iz) + (y - ((ρ.I 3) (hdN part)))))) := by rw [← hV_V_47]; exact md_set hM_45 3 (by omega) (upd (ρn_43.I 3) iz (((ρn_43.I 3) iz) + (y - ((ρ.I 3) (hdN part)))))
                                  have hR_47 : mdFr mo ad V V_47 := by rw [← hV_V_47]; exact hR_45.ar (j := 3) (by omega)
                                  have hm_48 : V_47 mo = some (.inr (7, [.int (ρn_43.s 0), .int (ρn_43.s 1), .int (ρn_43.s 2), .int (ρn_43.s 3), .ref (ad 0), .ref (ad 1), .ref (ad 2), .ref (ad 3), .ref (ad 4), .ref (ad 5), .ref (ad 6), .ref (ad 7), .ref (ad 8), .int (ρn_43.s 4), .ref (ad 9), .ref (ad 10), .ref (ad 11), .ref (ad 12), .ref (ad 13), .ref (ad 14), .ref (ad 15), .ref (ad 16), .ref (ad 17), .ref (ad 18), .ref (ad 19), .ref (ad 20), .ref (ad 21), .ref (ad 22), .ref (ad 23), .ref (ad 24), .ref (ad 25)])) := hM_47.1
                                  have hm_48_1 : V_47 (ad 1) = some (eZ k 150 (ρn_43.I 1)) := hM_47.a1
                                  have hm_48_2 : V_47 (ad 2) = some (eI k 150 (upd (ρn_43.I 2) iz (((ρn_43.I 2) iz) + (x - ((ρ.I 2) (hdN part)))))) := hM_47.a2
                                  have hm_48_3 : V_47 (ad 3) = some (eI k 150 (upd (ρn_43.I 3) iz (((ρn_43.I 3) iz) + (y - ((ρ.I 3) (hdN part)))))) := hM_47.a3
                                  have hm_48_4 : V_47 (ad 4) = some (eI k 150 (ρn_43.I 4)) := hM_47.a4
                                  have hm_48_5 : V_47 (ad 5) = some (eI k 150 (ρn_43.I 5)) := hM_47.a5
                                  have hm_48_6 : V_47 (ad 6) = some (eI k 150 (ρn_43.I 6)) := hM_47.a6
                                  obtain ⟨i_49, ei_49⟩ : ∃ y : Int32, y = (nI iz) + 1 := ⟨_, rfl⟩
                                  refine lv_iinc (v := i_49) (lv' := [(7, .int i_49), (0, .ref mo), (1, .int part), (2, .int x), (3, .int y), (4, .int (nI (hdN part))), (5, .int (x - ((ρ.I 2) (hdN part)))), (6, .int (y - ((ρ.I 3) (hdN part))))]) hx hb d_Mo_move_310 hl (k := 7) rfl (by rw [ei_49]; rfl) (by decide) rfl (fun ls hl => ?_)
                                  refine lv_goto (tgt := 251) hx hb d_Mo_move_313 (by decide) ?_
                                  rw [nI_1] at ei_49
                                  subst ei_49
                                  try simp only [bI_ne0, bI_eq0, decide_eq_true_eq, decide_eq_false_iff_not, Bool.not_eq_false, Bool.not_eq_true, Decidable.not_not] at c_5
                                  try simp only [bI_ne0, bI_eq0, decide_eq_true_eq, decide_eq_false_iff_not, Bool.not_eq_false, Bool.not_eq_true, Decidable.not_not] at c_9
                                  try simp only [bI_ne0, bI_eq0, decide_eq_true_eq, decide_eq_false_iff_not, Bool.not_eq_false, Bool.not_eq_true, Decidable.not_not] at c_12
                                  try simp only [bI_ne0, bI_eq0, decide_eq_true_eq, decide_eq_false_iff_not, Bool.not_eq_false, Bool.not_eq_true, Decidable.not_not] at c_13
                                  try simp only [bI_ne0, bI_eq0, decide_eq_true_eq, decide_eq_false_iff_not, Bool.not_eq_false, Bool.not_eq_true, Decidable.not_not] at c_14
                                  try simp only [bI_ne0, bI_eq0, decide_eq_true_eq, decide_eq_false_iff_not, Bool.not_eq_false, Bool.not_eq_true, Decidable.not_not] at c_17
                                  try simp only [bI_ne0, bI_eq0, decide_eq_true_eq, decide_eq_false_iff_not, Bool.not_eq_false, Bool.not_eq_true, Decidable.not_not] at c_18
                                  try simp only [bI_ne0, bI_eq0, decide_eq_true_eq, decide_eq_false_iff_not, Bool.not_eq_false, Bool.not_eq_true, Decidable.not_not] at c_23
                                  try simp only [bI_ne0, bI_eq0, decide_eq_true_eq, decide_eq_false_iff_not, Bool.not_eq_false, Bool.not_eq_true, Decidable.not_not] at c_24
                                  try simp only [bI_ne0, bI_eq0, decide_eq_true_eq, decide_eq_false_iff_not, Bool.not_eq_false, Bool.not_eq_true, Decidable.not_not] at c_27
                                  try simp only [bI_ne0, bI_eq0, decide_eq_true_eq, decide_eq_false_iff_not, Bool.not_eq_false, Bool.not_eq_true, Decidable.not_not] at c_28
                                  try simp only [bI_ne0, bI_eq0, decide_eq_true_eq, decide_eq_false_iff_not, Bool.not_eq_false, Bool.not_eq_true, Decidable.not_not] at c_39
                                  exact ihz (iz + 1) V_47  _ _ _ (by omega) (by omega) (⟨by rw [moMvL, if_pos (by rw [← eρl]; first | (simp only [moMvC, c_28, c_39, decide_true, decide_false, Bool.true_and, Bool.and_true, Bool.false_and, Bool.and_false, Bool.true_or, Bool.or_true, Bool.false_or, Bool.or_false, Bool.not_true, Bool.not_false, if_true, if_false, Bool.false_eq_true, Bool.true_eq_false, reduceIte, eq_self]; done) | (simp_all [moMvC]; done)), ← eρl, ← eρn_43]; exact hM_47, hR_47⟩) hV hS (lv_sub hl [1, 2, 3, 4, 5, 6, 7, 0] rfl)
                                · refine lv_goto (tgt := 310) hx hb d_Mo_move_276 (by decide) ?_
                                  obtain ⟨i_50, ei_50⟩ : ∃ y : Int32, y = (nI iz) + 1 := ⟨_, rfl⟩
                                  refine lv_iinc (v := i_50) (lv' := [(7, .int i_50), (0, .ref mo), (1, .int part), (2, .int x), (3, .int y), (4, .int (nI (hdN part))), (5, .int (x - ((ρ.I 2) (hdN part)))), (6, .int (y - ((ρ.I 3) (hdN part))))]) hx hb d_Mo_move_310 hl (k := 7) rfl (by rw [ei_50]; rfl) (by decide) rfl (fun ls hl => ?_)
                                  refine lv_goto (tgt := 251) hx hb d_Mo_move_313 (by decide) ?_
                                  rw [nI_1] at ei_50
                                  subst ei_50
                                  try simp only [bI_ne0, bI_eq0, decide_eq_true_eq, decide_eq_false_iff_not, Bool.not_eq_false, Bool.not_eq_true, Decidable.not_not] at c_5
                                  try simp only [bI_ne0, bI_eq0, decide_eq_true_eq, decide_eq_false_iff_not, Bool.not_eq_false, Bool.not_eq_true, Decidable.not_not] at c_9
                                  try simp only [bI_ne0, bI_eq0, decide_eq_true_eq, decide_eq_false_iff_not, Bool.not_eq_false, Bool.not_eq_true, Decidable.not_not] at c_12
                                  try simp only [bI_ne0, bI_eq0, decide_eq_true_eq, decide_eq_false_iff_not, Bool.not_eq_false, Bool.not_eq_true, Decidable.not_not] at c_13
                                  try simp only [bI_ne0, bI_eq0, decide_eq_true_eq, decide_eq_false_iff_not, Bool.not_eq_false, Bool.not_eq_true, Decidable.not_not] at c_14
                                  try simp only [bI_ne0, bI_eq0, decide_eq_true_eq, decide_eq_false_iff_not, Bool.not_eq_false, Bool.not_eq_true, Decidable.not_not] at c_17
                                  try simp only [bI_ne0, bI_eq0, decide_eq_true_eq, decide_eq_false_iff_not, Bool.not_eq_false, Bool.not_eq_true, Decidable.not_not] at c_18
                                  try simp only [bI_ne0, bI_eq0, decide_eq_true_eq, decide_eq_false_iff_not, Bool.not_eq_false, Bool.not_eq_true, Decidable.not_not] at c_23
                                  try simp only [bI_ne0, bI_eq0, decide_eq_true_eq, decide_eq_false_iff_not, Bool.not_eq_false, Bool.not_eq_true, Decidable.not_not] at c_24
                                  try simp only [bI_ne0, bI_eq0, decide_eq_true_eq, decide_eq_false_iff_not, Bool.not_eq_false, Bool.not_eq_true, Decidable.not_not] at c_27
                                  try simp only [bI_ne0, bI_eq0, decide_eq_true_eq, decide_eq_false_iff_not, Bool.not_eq_false, Bool.not_eq_true, Decidable.not_not] at c_28
                                  try simp only [bI_ne0, bI_eq0, decide_eq_true_eq, decide_eq_false_iff_not, Bool.not_eq_false, Bool.not_eq_true, Decidable.not_not] at c_39
                                  exact ihz (iz + 1) V1z  _ _ _ (by omega) (by omega) (⟨by rw [moMvL, if_neg (by rw [← eρl]; first | (simp only [moMvC, c_28, c_39, decide_true, decide_false, Bool.true_and, Bool.and_true, Bool.false_and, Bool.and_false, Bool.true_or, Bool.or_true, Bool.false_or, Bool.or_false, Bool.not_true, Bool.not_false, if_true, if_false, Bool.false_eq_true, Bool.true_eq_false, reduceIte, eq_self, not_false_eq_true]; done) | (simp_all [moMvC]; done)), ← eρl]; exact hM2, hR2⟩) hV hS (lv_sub hl [1, 2, 3, 4, 5, 6, 7, 0] rfl)
                        exact loop_25 (80 + 1 - 0) 0 V1  _ _ _ (by omega) (by omega) (⟨hM1, hR1⟩) hV hS (lv_sub hl [1, 2, 3, 4, 5, 6, 7, 0] rfl)
                      · refine lv_iconst (v := 0) hx hb d_Mo_move_246 (by decide) ?_
                        try simp only [bI_ne0, bI_eq0, decide_eq_true_eq, decide_eq_false_iff_not, Bool.not_eq_false, Bool.not_eq_true] at c_5
                        try simp only [bI_ne0, bI_eq0, decide_eq_true_eq, decide_eq_false_iff_not, Bool.not_eq_false, Bool.not_eq_true] at c_9
                        try simp only [bI_ne0, bI_eq0, decide_eq_true_eq, decide_eq_false_iff_not, Bool.not_eq_false, Bool.not_eq_true] at c_12
                        try simp only [bI_ne0, bI_eq0, decide_eq_true_eq, decide_eq_false_iff_not, Bool.not_eq_false, Bool.not_eq_true] at c_13
                        try simp only [bI_ne0, bI_eq0, decide_eq_true_eq, decide_eq_false_iff_not, Bool.not_eq_false, Bool.not_eq_true] at c_14
                        try simp only [bI_ne0, bI_eq0, decide_eq_true_eq, decide_eq_false_iff_not, Bool.not_eq_false, Bool.not_eq_true] at c_17
                        try simp only [bI_ne0, bI_eq0, decide_eq_true_eq, decide_eq_false_iff_not, Bool.not_eq_false, Bool.not_eq_true] at c_18
                        have hany : anyF Pb 20 60 = true := by cases hq : anyF Pb 20 60 with | true => rfl | false => rw [hq] at hto; exact absurd hto c_24
                        rw [hany, if_pos rfl] at hto
                        subst hto
                        rw [hPb] at hany
                        subst ef_2
                        have hfin : moMove ρ n2 n6 part x y = (0, ((ρ.ws 0 (moFault (ρ.I 0) part 2)).ws 0 (moFault (ρ.I 0) part 2)).ws 3 5) := by first | (simp only [moMove, moMvW, hany, c_5, c_9, c_12, c_13, c_14, c_17, c_18, decide_true, decide_false, Bool.true_and, Bool.and_true, Bool.false_and, Bool.and_false, Bool.true_or, Bool.or_true, Bool.false_or, Bool.or_false, Bool.not_true, Bool.not_false, if_true, if_false, Bool.false_eq_true, Bool.true_eq_false, reduceIte, eq_self]; done) | (simp only [moMove, moMvW, hany, c_5, c_9, c_12, c_13, c_14, c_17, c_18, decide_true, decide_false, Bool.true_and, Bool.and_true, Bool.false_and, Bool.and_false, Bool.true_or, Bool.or_true, Bool.false_or, Bool.or_false, Bool.not_true, Bool.not_false, if_true, if_false, Bool.false_eq_true, Bool.true_eq_false, reduceIte, eq_self]; rw [if_neg (by decide)])
                        exact W.zret (v := 0) hx hb hr rfl (fun t9 ht hW => ⟨⟨0, V1, rfl, ⟨by rw [hfin]; exact hM1, hR1, by rw [hfin]⟩, mB_of ht hV⟩, hS.F ht⟩) hS.2.2 d_Mo_move_247
                    · have hlt : i < 80 := nI_nle' c_23 (by omega) (by omega)
                      refine lv_aload_n hx hb d_Mo_move_191 rfl (lv_at hl 0 rfl) ?_
                      refine gf_Mo_149 hx hb hW hown hG hV hm_22 d_Mo_move_192 ?_
                      refine lv_if_ne (tgt := 239) hx hb d_Mo_move_195 (by decide) (fun c_51 => ?_) (fun c_51 => ?_)
                      · have hto : to = if anyF Pb 20 60 = true then 5 else 0 := hT1.elim (fun q => absurd q.1 c_51) (fun q => by rw [if_pos q.2]; exact q.1)
                        refine lv_aload_n hx hb d_Mo_move_239 rfl (lv_at hl 0 rfl) ?_
                        refine gf_Mo_149 hx hb hW hown hG hV hm_22 d_Mo_move_240 ?_
                        refine lv_if_eq (tgt := 248) hx hb d_Mo_move_243 (by decide) (fun c_52 => ?_) (fun c_52 => ?_)
                        · have hany : anyF Pb 20 60 = false := by cases hq : anyF Pb 20 60 with | false => rfl | true => rw [hq, if_pos rfl] at hto; rw [hto] at c_52; exact absurd c_52 (by decide)
                          subst c_52
                          refine lv_iconst (v := 0) hx hb d_Mo_move_248 (by decide) ?_
                          refine lv_istore (lv' := [(7, .int 0), (0, .ref mo), (1, .int part), (2, .int x), (3, .int y), (4, .int (nI (hdN part))), (5, .int (x - ((ρ.I 2) (hdN part)))), (6, .int (y - ((ρ.I 3) (hdN part))))]) hx hb d_Mo_move_249 hl (by decide) rfl (fun ls hl => ?_)
                          have loop_53 : ∀ (nz iz : Nat) (V1z : HV)  (H : Heap) (locs : List Loc) (ls : Array Slot), iz ≤ 80 → 80 + 1 ≤ iz + nz → (mdOk k V1z mo ad (moMvL (((ρ.ws 0 f_2).ws 0 f_2).ws 3 0) (hdN part) (x - (ρ.I 2 (hdN part))) (y - (ρ.I 3 (hdN part))) iz) ∧ mdFr mo ad V V1z) → hv D vwCl N0 V1z H → va_S (hA N0) s.heap H locs → lv_has ls 8 [(0, .ref mo), (1, .int part), (2, .int x), (3, .int y), (4, .int (nI (hdN part))), (5, .int (x - ((ρ.I 2) (hdN part)))), (6, .int (y - ((ρ.I 3) (hdN part)))), (7, .int (nI iz))] → W p l e (headSpec (.code y_Mo_move b_Mo_move 8 (some .boolean) :: WS) ({ frames := 4, cells := 0, slots := 0, locals := 91 })).room s m #[.ref mo, .int part, .int x, .int y] below meth c H locs 0 0 (MQ below (va_Qi (fun r V' => mdOk k V' mo ad (moMove ρ n2 n6 part x y).2 ∧ mdFr mo ad V V' ∧ r = (moMove ρ n2 n6 part x y).1) (mB D N0) (hA N0)) #[.ref mo, .int part, .int x, .int y] s 0 0 (hA N0)) (F0 m 251 ls []) := by
                            intro nz
                            induction nz with
                            | zero => intro iz V1z  H locs ls h1 h2; exact absurd h2 (by omega)
                            | succ nz ihz =>
                              intro iz V1z  H locs ls hiz hinz hIz hV hS hl
                              obtain ⟨hM2, hR2⟩ := hIz
                              obtain ⟨ρl, eρl⟩ : ∃ z, z = moMvL (((ρ.ws 0 f_2).ws 0 f_2).ws 3 0) (hdN part) (x - (ρ.I 2 (hdN part))) (y - (ρ.I 3 (hdN part))) iz := ⟨_, rfl⟩
                              rw [← eρl] at hM2
                              have hsl : ρl.s = (((ρ.ws 0 f_2).ws 0 f_2).ws 3 0).s := by rw [eρl]; exact mvL_s iz
                              have hwol : moWo ρl := by unfold moWo; rw [hsl]; exact hwo
                              have hm_54 : V1z mo = some (.inr (7, [.int (ρl.s 0), .int (ρl.s 1), .int (ρl.s 2), .int (ρl.s 3), .ref (ad 0), .ref (ad 1), .ref (ad 2), .ref (ad 3), .ref (ad 4), .ref (ad 5), .ref (ad 6), .ref (ad 7), .ref (ad 8), .int (ρl.s 4), .ref (ad 9), .ref (ad 10), .ref (ad 11), .ref (ad 12), .ref (ad 13), .ref (ad 14), .ref (ad 15), .ref (ad 16), .ref (ad 17), .ref (ad 18), .ref (ad 19), .ref (ad 20), .ref (ad 21), .ref (ad 22), .ref (ad 23), .ref (ad 24), .ref (ad 25)])) := hM2.1
                              have hm_54_1 : V1z (ad 1) = some (eZ k 150 (ρl.I 1)) := hM2.a1
                              have hm_54_2 : V1z (ad 2) = some (eI k 150 (ρl.I 2)) := hM2.a2
                              have hm_54_3 : V1z (ad 3) = some (eI k 150 (ρl.I 3)) := hM2.a3
                              have hm_54_4 : V1z (ad 4) = some (eI k 150 (ρl.I 4)) := hM2.a4
                              have hm_54_5 : V1z (ad 5) = some (eI k 150 (ρl.I 5)) := hM2.a5
                              have hm_54_6 : V1z (ad 6) = some (eI k 150 (ρl.I 6)) := hM2.a6
                              refine lv_iload hx hb d_Mo_move_251 (lv_at hl 7 rfl) ?_
                              refine lv_bipush (v := 80) hx hb d_Mo_move_253 (by decide) ?_
                              refine lv_icmp_ge (tgt := 316) hx hb d_Mo_move_255 (by decide) (fun c_55 => ?_) (fun c_55 => ?_)
                              · have hgez : 80 ≤ iz := nI_le' (a := 80) (b := iz) c_55 (by omega) (by omega)
                                refine lv_iconst (v := 1) hx hb d_Mo_move_316 (by decide) ?_
                                try simp only [bI_ne0, bI_eq0, decide_eq_true_eq, decide_eq_false_iff_not, Bool.not_eq_false, Bool.not_eq_true] at c_5
                                try simp only [bI_ne0, bI_eq0, decide_eq_true_eq, decide_eq_false_iff_not, Bool.not_eq_false, Bool.not_eq_true] at c_9
                                try simp only [bI_ne0, bI_eq0, decide_eq_true_eq, decide_eq_false_iff_not, Bool.not_eq_false, Bool.not_eq_true] at c_12
                                try simp only [bI_ne0, bI_eq0, decide_eq_true_eq, decide_eq_false_iff_not, Bool.not_eq_false, Bool.not_eq_true] at c_13
                                try simp only [bI_ne0, bI_eq0, decide_eq_true_eq, decide_eq_false_iff_not, Bool.not_eq_false, Bool.not_eq_true] at c_14
                                try simp only [bI_ne0, bI_eq0, decide_eq_true_eq, decide_eq_false_iff_not, Bool.not_eq_false, Bool.not_eq_true] at c_17
                                try simp only [bI_ne0, bI_eq0, decide_eq_true_eq, decide_eq_false_iff_not, Bool.not_eq_false, Bool.not_eq_true] at c_18
                                have hi9 : iz = 80 := by omega
                                have hM9 := hM2
                                rw [eρl, hi9] at hM9
                                rw [hPb] at hany
                                subst ef_2
                                have hfin : moMove ρ n2 n6 part x y = (1, moMvL (((ρ.ws 0 (moFault (ρ.I 0) part 2)).ws 0 (moFault (ρ.I 0) part 2)).ws 3 0) (hdN part) (x - (ρ.I 2 (hdN part))) (y - (ρ.I 3 (hdN part))) 80) := by simp only [moMove, moMvW, hany, c_5, c_9, c_12, c_13, c_14, c_17, c_18, decide_true, decide_false, Bool.true_and, Bool.and_true, Bool.false_and, Bool.and_false, Bool.true_or, Bool.or_true, Bool.false_or, Bool.or_false, Bool.not_true, Bool.not_false, if_true, if_false, Bool.false_eq_true, Bool.true_eq_false, reduceIte, eq_self]
                                generalize moMvL (((ρ.ws 0 (moFault (ρ.I 0) part 2)).ws 0 (moFault (ρ.I 0) part 2)).ws 3 0) (hdN part) (x - (ρ.I 2 (hdN part))) (y - (ρ.I 3 (hdN part))) 80 = zz at hM9 hfin
                                exact W.zret (v := 1) hx hb hr rfl (fun t9 ht hW => ⟨⟨1, V1z, rfl, ⟨by rw [hfin]; exact hM9, hR2, by rw [hfin]⟩, mB_of ht hV⟩, hS.F ht⟩) hS.2.2 d_Mo_move_317
                              · have hltz : iz < 80 := nI_nle' (a := 80) (b := iz) c_55 (by omega) (by omega)
                                refine lv_iload hx hb d_Mo_move_258 (lv_at hl 7 rfl) ?_
                                refine lv_iload hx hb d_Mo_move_260 (lv_at hl 4 rfl) ?_
                                refine lv_icmp_eq (tgt := 279) hx hb d_Mo_move_262 (by decide) (fun c_56 => ?_) (fun c_56 => ?_)
                                · refine lv_aload_n hx hb d_Mo_move_279 rfl (lv_at hl 0 rfl) ?_
                                  refine lv_iload hx hb d_Mo_move_280 (lv_at hl 7 rfl) ?_
                                  refine lv_iconst (v := 1) hx hb d_Mo_move_282 (by decide) ?_
                                  refine rc_V (va_runV (As := [.int (nI iz), .int 1]) (rest := []) ⟨hx, hb, hml, hown, hts⟩ (c_Mo_note l D N0 k V1z mo ad ρl hM2 iz (by omega) 1 (by decide) hwol) (cwV 2 hts (gi_V wm_Mo_139 wv_Mo_note ws_Mo_note wi_Mo wc_Mo_note) rfl rfl rfl (by decide +kernel) ⟨Nat.le_of_ble_eq_true rfl, Nat.le_of_ble_eq_true rfl⟩) (mP.preV hG hS hV hm_54 rfl) rfl rfl hl.1 rfl (lv_room (Nat.le_of_ble_eq_true rfl)) d_Mo_move_283 ⟨Nat.le_of_ble_eq_true rfl, Nat.le_of_ble_eq_true rfl⟩) hS (fun V_57 H locs hp_58 hV hS => ?_)
                                  obtain ⟨hM_59, hM_59R⟩ := hp_58
                                  obtain ⟨ρn_60, eρn_60⟩ : ∃ z, z = moNote ρl iz 1 := ⟨_, rfl⟩
                                  rw [← eρn_60] at hM_59
                                  have hwo_ρn_60 : moWo ρn_60 := by unfold moWo; rw [eρn_60, note_s]; exact hwol
                                  have hm_61 : V_57 mo = some (.inr (7, [.int (ρn_60.s 0), .int (ρn_60.s 1), .int (ρn_60.s 2), .int (ρn_60.s 3), .ref (ad 0), .ref (ad 1), .ref (ad 2), .ref (ad 3), .ref (ad 4), .ref (ad 5), .ref (ad 6), .ref (ad 7), .ref (ad 8), .int (ρn_60.s 4), .ref (ad 9), .ref (ad 10), .ref (ad 11), .ref (ad 12), .ref (ad 13), .ref (ad 14), .ref (ad 15), .ref (ad 16), .ref (ad 17), .ref (ad 18), .ref (ad 19), .ref (ad 20), .ref (ad 21), .ref (ad 22), .ref (ad 23), .ref (ad 24), .ref (ad 25)])) := hM_59.1
                                  have hm_61_1 : V_57 (ad 1) = some (eZ k 150 (ρn_60.I 1)) := hM_59.a1
                                  have hm_61_2 : V_57 (ad 2) = some (eI k 150 (ρn_60.I 2)) := hM_59.a2
                                  have hm_61_3 : V_57 (ad 3) = some (eI k 150 (ρn_60.I 3)) := hM_59.a3
                                  have hm_61_4 : V_57 (ad 4) = some (eI k 150 (ρn_60.I 4)) := hM_59.a4
                                  have hm_61_5 : V_57 (ad 5) = some (eI k 150 (ρn_60.I 5)) := hM_59.a5
                                  have hm_61_6 : V_57 (ad 6) = some (eI k 150 (ρn_60.I 6)) := hM_59.a6
                                  refine lv_aload_n hx hb d_Mo_move_286 rfl (lv_at hl 0 rfl) ?_
                                  refine gf_Mo_17 hx hb hW hown hG hV hm_61 d_Mo_move_287 ?_
                                  refine lv_iload hx hb d_Mo_move_290 (lv_at hl 7 rfl) ?_
                                  refine lv_dup2_11 hx hb d_Mo_move_292 rfl rfl ?_
                                  refine hv_iald hx hb hG.K hV 0 hm_61_2 rfl (vp_in_nI (by omega) (by omega)) d_Mo_move_293 ?_
                                  rw [nI_clamp (by omega)]
                                  refine lv_iload hx hb d_Mo_move_294 (lv_at hl 5 rfl) ?_
                                  refine lv_iadd hx hb d_Mo_move_296 ?_
                                  refine hv_iast hx hb hG.K hV hS 0 hm_61_2 rfl (vp_in_nI (by omega) (by omega)) d_Mo_move_297 (fun H locs hV hS => ?_)
                                  rw [nI_clamp (by omega)] at hV
                                  replace hV : hv D vwCl N0 (hu V_57 (ad 2) (eI k 150 (upd (ρn_60.I 2) iz (((ρn_60.I 2) iz) + (x - ((ρ.I 2) (hdN part))))))) H := hV
                                  generalize hV_V_62 : hu V_57 (ad 2) (eI k 150 (upd (ρn_60.I 2) iz (((ρn_60.I 2) iz) + (x - ((ρ.I 2) (hdN part)))))) = V_62 at hV
                                  have hM_62 : mdOk k V_62 mo ad (ρn_60.wI 2 (upd (ρn_60.I 2) iz (((ρn_60.I 2) iz) + (x - ((ρ.I 2) (hdN part)))))) := by rw [← hV_V_62]; exact md_set hM_59 2 (by omega) (upd (ρn_60.I 2) iz (((ρn_60.I 2) iz) + (x - ((ρ.I 2) (hdN part)))))
                                  have hR_62 : mdFr mo ad V V_62 := by rw [← hV_V_62]; exact (hR2.tr hM_59R).ar (j := 2) (by omega)
                                  have hm_63 : V_62 mo = some (.inr (7, [.int (ρn_60.s 0), .int (ρn_60.s 1), .int (ρn_60.s 2), .int (ρn_60.s 3), .ref (ad 0), .ref (ad 1), .ref (ad 2), .ref (ad 3), .ref (ad 4), .ref (ad 5), .ref (ad 6), .ref (ad 7), .ref (ad 8), .int (ρn_60.s 4), .ref (ad 9), .ref (ad 10), .ref (ad 11), .ref (ad 12), .ref (ad 13), .ref (ad 14), .ref (ad 15), .ref (ad 16), .ref (ad 17), .ref (ad 18), .ref (ad 19), .ref (ad 20), .ref (ad 21), .ref (ad 22), .ref (ad 23), .ref (ad 24), .ref (ad 25)])) := hM_62.1
                                  have hm_63_1 : V_62 (ad 1) = some (eZ k 150 (ρn_60.I 1)) := hM_62.a1
                                  have hm_63_2 : V_62 (ad 2) = some (eI k 150 (upd (ρn_60.I 2) iz (((ρn_60.I 2) iz) + (x - ((ρ.I 2) (hdN part)))))) := hM_62.a2
                                  have hm_63_3 : V_62 (ad 3) = some (eI k 150 (ρn_60.I 3)) := hM_62.a3
                                  have hm_63_4 : V_62 (ad 4) = some (eI k 150 (ρn_60.I 4)) := hM_62.a4
                                  have hm_63_5 : V_62 (ad 5) = some (eI k 150 (ρn_60.I 5)) := hM_62.a5
                                  have hm_63_6 : V_62 (ad 6) = some (eI k 150 (ρn_60.I 6)) := hM_62.a6
                                  refine lv_aload_n hx hb d_Mo_move_298 rfl (lv_at hl 0 rfl) ?_
                                  refine gf_Mo_20 hx hb hW hown hG hV hm_63 d_Mo_move_299 ?_
                                  refine lv_iload hx hb d_Mo_move_302 (lv_at hl 7 rfl) ?_
                                  refine lv_dup2_11 hx hb d_Mo_move_304 rfl rfl ?_
                                  refine hv_iald hx hb hG.K hV 0 hm_63_3 rfl (vp_in_nI (by omega) (by omega)) d_Mo_move_305 ?_
                                  rw [nI_clamp (by omega)]
                                  refine lv_iload hx hb d_Mo_move_306 (lv_at hl 6 rfl) ?_
                                  refine lv_iadd hx hb d_Mo_move_308 ?_
                                  refine hv_iast hx hb hG.K hV hS 0 hm_63_3 rfl (vp_in_nI (by omega) (by omega)) d_Mo_move_309 (fun H locs hV hS => ?_)
                                  rw [nI_clamp (by omega)] at hV
                                  replace hV : hv D vwCl N0 (hu V_62 (ad 3) (eI k 150 (upd (ρn_60.I 3) iz (((ρn_60.I 3) iz) + (y - ((ρ.I 3) (hdN part))))))) H := hV
                                  generalize hV_V_64 : hu V_62 (ad 3) (eI k 150 (upd (ρn_60.I 3) iz (((ρn_60.I 3) iz) + (y - ((ρ.I 3) (hdN part)))))) = V_64 at hV
                                  have hM_64 : mdOk k V_64 mo ad ((ρn_60.wI 2 (upd (ρn_60.I 2) iz (((ρn_60.I 2) iz) + (x - ((ρ.I 2) (hdN part)))))).wI 3 (upd (ρn_60.I 3) iz (((ρn_60.I 3) iz) + (y - ((ρ.I 3) (hdN part)))))) := by rw [← hV_V_64]; exact md_set hM_62 3 (by omega) (upd (ρn_60.I 3) iz (((ρn_60.I 3) iz) + (y - ((ρ.I 3) (hdN part)))))
                                  have hR_64 : mdFr mo ad V V_64 := by rw [← hV_V_64]; exact hR_62.ar (j := 3) (by omega)
                                  have hm_65 : V_64 mo = some (.inr (7, [.int (ρn_60.s 0), .int (ρn_60.s 1), .int (ρn_60.s 2), .int (ρn_60.s 3), .ref (ad 0), .ref (ad 1), .ref (ad 2), .ref (ad 3), .ref (ad 4), .ref (ad 5), .ref (ad 6), .ref (ad 7), .ref (ad 8), .int (ρn_60.s 4), .ref (ad 9), .ref (ad 10), .ref (ad 11), .ref (ad 12), .ref (ad 13), .ref (ad 14), .ref (ad 15), .ref (ad 16), .ref (ad 17), .ref (ad 18), .ref (ad 19), .ref (ad 20), .ref (ad 21), .ref (ad 22), .ref (ad 23), .ref (ad 24), .ref (ad 25)])) := hM_64.1
                                  have hm_65_1 : V_64 (ad 1) = some (eZ k 150 (ρn_60.I 1)) := hM_64.a1
                                  have hm_65_2 : V_64 (ad 2) = some (eI k 150 (upd (ρn_60.I 2) iz (((ρn_60.I 2) iz) + (x - ((ρ.I 2) (hdN part)))))) := hM_64.a2
                                  have hm_65_3 : V_64 (ad 3) = some (eI k 150 (upd (ρn_60.I 3) iz (((ρn_60.I 3) iz) + (y - ((ρ.I 3) (hdN part)))))) := hM_64.a3
                                  have hm_65_4 : V_64 (ad 4) = some (eI k 150 (ρn_60.I 4)) := hM_64.a4
                                  have hm_65_5 : V_64 (ad 5) = some (eI k 150 (ρn_60.I 5)) := hM_64.a5
                                  have hm_65_6 : V_64 (ad 6) = some (eI k 150 (ρn_60.I 6)) := hM_64.a6
                                  obtain ⟨i_66, ei_66⟩ : ∃ y : Int32, y = (nI iz) + 1 := ⟨_, rfl⟩
                                  refine lv_iinc (v := i_66) (lv' := [(7, .int i_66), (0, .ref mo), (1, .int part), (2, .int x), (3, .int y), (4, .int (nI (hdN part))), (5, .int (x - ((ρ.I 2) (hdN part)))), (6, .int (y - ((ρ.I 3) (hdN part))))]) hx hb d_Mo_move_310 hl (k := 7) rfl (by rw [ei_66]; rfl) (by decide) rfl (fun ls hl => ?_)
                                  refine lv_goto (tgt := 251) hx hb d_Mo_move_313 (by decide) ?_
                                  rw [nI_1] at ei_66
                                  subst ei_66
                                  try simp only [bI_ne0, bI_eq0, decide_eq_true_eq, decide_eq_false_iff_not, Bool.not_eq_false, Bool.not_eq_true, Decidable.not_not] at c_5
                                  try simp only [bI_ne0, bI_eq0, decide_eq_true_eq, decide_eq_false_iff_not, Bool.not_eq_false, Bool.not_eq_true, Decidable.not_not] at c_9
                                  try simp only [bI_ne0, bI_eq0, decide_eq_true_eq, decide_eq_false_iff_not, Bool.not_eq_false, Bool.not_eq_true, Decidable.not_not] at c_12
                                  try simp only [bI_ne0, bI_eq0, decide_eq_true_eq, decide_eq_false_iff_not, Bool.not_eq_false, Bool.not_eq_true, Decidable.not_not] at c_13
                                  try simp only [bI_ne0, bI_eq0, decide_eq_true_eq, decide_eq_false_iff_not, Bool.not_eq_false, Bool.not_eq_true, Decidable.not_not] at c_14
                                  try simp only [bI_ne0, bI_eq0, decide_eq_true_eq, decide_eq_false_iff_not, Bool.not_eq_false, Bool.not_eq_true, Decidable.not_not] at c_17
                                  try simp only [bI_ne0, bI_eq0, decide_eq_true_eq, decide_eq_false_iff_not, Bool.not_eq_false, Bool.not_eq_true, Decidable.not_not] at c_18
                                  try simp only [bI_ne0, bI_eq0, decide_eq_true_eq, decide_eq_false_iff_not, Bool.not_eq_false, Bool.not_eq_true, Decidable.not_not] at c_23
                                  try simp only [bI_ne0, bI_eq0, decide_eq_true_eq, decide_eq_false_iff_not, Bool.not_eq_false, Bool.not_eq_true, Decidable.not_not] at c_51
                                  try simp only [bI_ne0, bI_eq0, decide_eq_true_eq, decide_eq_false_iff_not, Bool.not_eq_false, Bool.not_eq_true, Decidable.not_not] at c_52
                                  try simp only [bI_ne0, bI_eq0, decide_eq_true_eq, decide_eq_false_iff_not, Bool.not_eq_false, Bool.not_eq_true, Decidable.not_not] at c_55
                                  try simp only [bI_ne0, bI_eq0, decide_eq_true_eq, decide_eq_false_iff_not, Bool.not_eq_false, Bool.not_eq_true, Decidable.not_not] at c_56
                                  exact ihz (iz + 1) V_64  _ _ _ (by omega) (by omega) (⟨by rw [moMvL, if_pos (by rw [← eρl]; first | (simp only [moMvC, eq_true c_56, decide_true, decide_false, Bool.true_and, Bool.and_true, Bool.false_and, Bool.and_false, Bool.true_or, Bool.or_true, Bool.false_or, Bool.or_false, Bool.not_true, Bool.not_false, if_true, if_false, Bool.false_eq_true, Bool.true_eq_false, reduceIte, eq_self]; done) | (simp_all [moMvC]; done)), ← eρl, ← eρn_60]; exact hM_64, hR_64⟩) hV hS (lv_sub hl [1, 2, 3, 4, 5, 6, 7, 0] rfl)
                                · refine lv_aload_n hx hb d_Mo_move_265 rfl (lv_at hl 0 rfl) ?_
                                  refine lv_iload hx hb d_Mo_move_266 (lv_at hl 7 rfl) ?_
                                  refine lv_iload hx hb d_Mo_move_268 (lv_at hl 4 rfl) ?_
                                  refine rc_i (va_runV (As := [.int (nI iz), .int (nI (hdN part))]) (rest := []) ⟨hx, hb, hml, hown, hts⟩ (c_Mo_isOf l D N0 k V1z mo ad ρl hM2 iz (by omega) (nI (hdN part))) (cwV 2 hts (gi_V wm_Mo_192 wv_Mo_isOf ws_Mo_isOf wi_Mo wc_Mo_isOf) rfl rfl rfl (by decide +kernel) ⟨Nat.le_of_ble_eq_true rfl, Nat.le_of_ble_eq_true rfl⟩) (mP.preV hG hS hV hm_54 rfl) rfl rfl hl.1 rfl (lv_room (Nat.le_of_ble_eq_true rfl)) d_Mo_move_270 ⟨Nat.le_of_ble_eq_true rfl, Nat.le_of_ble_eq_true rfl⟩) hS (fun H locs hV hS => ?_)
                                  refine W.eq (g2 := F0 m 273 ls [.int (bI (moOf ρl.I iz (nI (hdN part))))]) rfl ?_
                                  refine lv_if_ne (tgt := 279) hx hb d_Mo_move_273 (by decide) (fun c_67 => ?_) (fun c_67 => ?_)
                                  · refine lv_aload_n hx hb d_Mo_move_279 rfl (lv_at hl 0 rfl) ?_
                                    refine lv_iload hx hb d_Mo_move_280 (lv_at hl 7 rfl) ?_
                                    refine lv_iconst (v := 1) hx hb d_Mo_move_282 (by decide) ?_
                                    refine rc_V (va_runV (As := [.int (nI iz), .int 1]) (rest := []) ⟨hx, hb, hml, hown, hts⟩ (c_Mo_note l D N0 k V1z mo ad ρl hM2 iz (by omega) 1 (by decide) hwol) (cwV 2 hts (gi_V wm_Mo_139 wv_Mo_note ws_Mo_note wi_Mo wc_Mo_note) rfl rfl rfl (by decide +kernel) ⟨Nat.le_of_ble_eq_true rfl, Nat.le_of_ble_eq_true rfl⟩) (mP.preV hG hS hV hm_54 rfl) rfl rfl hl.1 rfl (lv_room (Nat.le_of_ble_eq_true rfl)) d_Mo_move_283 ⟨Nat.le_of_ble_eq_true rfl, Nat.le_of_ble_eq_true rfl⟩) hS (fun V_68 H locs hp_69 hV hS => ?_)
                                    obtain ⟨hM_70, hM_70R⟩ := hp_69
                                    obtain ⟨ρn_71, eρn_71⟩ : ∃ z, z = moNote ρl iz 1 := ⟨_, rfl⟩
                                    rw [← eρn_71] at hM_70
                                    have hwo_ρn_71 : moWo ρn_71 := by unfold moWo; rw [eρn_71, note_s]; exact hwol
                                    have hm_72 : V_68 mo = some (.inr (7, [.int (ρn_71.s 0), .int (ρn_71.s 1), .int (ρn_71.s 2), .int (ρn_71.s 3), .ref (ad 0), .ref (ad 1), .ref (ad 2), .ref (ad 3), .ref (ad 4), .ref (ad 5), .ref (ad 6), .ref (ad 7), .ref (ad 8), .int (ρn_71.s 4), .ref (ad 9), .ref (ad 10), .ref (ad 11), .ref (ad 12), .ref (ad 13), .ref (ad 14), .ref (ad 15), .ref (ad 16), .ref (ad 17), .ref (ad 18), .ref (ad 19), .ref (ad 20), .ref (ad 21), .ref (ad 22), .ref (ad 23), .ref (ad 24), .ref (ad 25)])) := hM_70.1
                                    have hm_72_1 : V_68 (ad 1) = some (eZ k 150 (ρn_71.I 1)) := hM_70.a1
                                    have hm_72_2 : V_68 (ad 2) = some (eI k 150 (ρn_71.I 2)) := hM_70.a2
                                    have hm_72_3 : V_68 (ad 3) = some (eI k 150 (ρn_71.I 3)) := hM_70.a3
                                    have hm_72_4 : V_68 (ad 4) = some (eI k 150 (ρn_71.I 4)) := hM_70.a4
                                    have hm_72_5 : V_68 (ad 5) = some (eI k 150 (ρn_71.I 5)) := hM_70.a5
                                    have hm_72_6 : V_68 (ad 6) = some (eI k 150 (ρn_71.I 6)) := hM_70.a6
                                    refine lv_aload_n hx hb d_Mo_move_286 rfl (lv_at hl 0 rfl) ?_
                                    refine gf_Mo_17 hx hb hW hown hG hV hm_72 d_Mo_move_287 ?_
                                    refine lv_iload hx hb d_Mo_move_290 (lv_at hl 7 rfl) ?_
                                    refine lv_dup2_11 hx hb d_Mo_move_292 rfl rfl ?_
                                    refine hv_iald hx hb hG.K hV 0 hm_72_2 rfl (vp_in_nI (by omega) (by omega)) d_Mo_move_293 ?_
                                    rw [nI_clamp (by omega)]
                                    refine lv_iload hx hb d_Mo_move_294 (lv_at hl 5 rfl) ?_
                                    refine lv_iadd hx hb d_Mo_move_296 ?_
                                    refine hv_iast hx hb hG.K hV hS 0 hm_72_2 rfl (vp_in_nI (by omega) (by omega)) d_Mo_move_297 (fun H locs hV hS => ?_)
                                    rw [nI_clamp (by omega)] at hV
                                    replace hV : hv D vwCl N0 (hu V_68 (ad 2) (eI k 150 (upd (ρn_71.I 2) iz (((ρn_71.I 2) iz) + (x - ((ρ.I 2) (hdN part))))))) H := hV
                                    generalize hV_V_73 : hu V_68 (ad 2) (eI k 150 (upd (ρn_71.I 2) iz (((ρn_71.I 2) iz) + (x - ((ρ.I 2) (hdN part)))))) = V_73 at hV
                                    have hM_73 : mdOk k V_73 mo ad (ρn_71.wI 2 (upd (ρn_71.I 2) iz (((ρn_71.I 2) iz) + (x - ((ρ.I 2) (hdN part)))))) := by rw [← hV_V_73]; exact md_set hM_70 2 (by omega) (upd (ρn_71.I 2) iz (((ρn_71.I 2) iz) + (x - ((ρ.I 2) (hdN part)))))
                                    have hR_73 : mdFr mo ad V V_73 := by rw [← hV_V_73]; exact (hR2.tr hM_70R).ar (j := 2) (by omega)
                                    have hm_74 : V_73 mo = some (.inr (7, [.int (ρn_71.s 0), .int (ρn_71.s 1), .int (ρn_71.s 2), .int (ρn_71.s 3), .ref (ad 0), .ref (ad 1), .ref (ad 2), .ref (ad 3), .ref (ad 4), .ref (ad 5), .ref (ad 6), .ref (ad 7), .ref (ad 8), .int (ρn_71.s 4), .ref (ad 9), .ref (ad 10), .ref (ad 11), .ref (ad 12), .ref (ad 13), .ref (ad 14), .ref (ad 15), .ref (ad 16), .ref (ad 17), .ref (ad 18), .ref (ad 19), .ref (ad 20), .ref (ad 21), .ref (ad 22), .ref (ad 23), .ref (ad 24), .ref (ad 25)])) := hM_73.1
                                    have hm_74_1 : V_73 (ad 1) = some (eZ k 150 (ρn_71.I 1)) := hM_73.a1
                                    have hm_74_2 : V_73 (ad 2) = some (eI k 150 (upd (ρn_71.I 2) iz (((ρn_71.I 2) iz) + (x - ((ρ.I 2) (hdN part)))))) := hM_73.a2
                                    have hm_74_3 : V_73 (ad 3) = some (eI k 150 (ρn_71.I 3)) := hM_73.a3
                                    have hm_74_4 : V_73 (ad 4) = some (eI k 150 (ρn_71.I 4)) := hM_73.a4
                                    have hm_74_5 : V_73 (ad 5) = some (eI k 150 (ρn_71.I 5)) := hM_73.a5
                                    have hm_74_6 : V_73 (ad 6) = some (eI k 150 (ρn_71.I 6)) := hM_73.a6
                                    refine lv_aload_n hx hb d_Mo_move_298 rfl (lv_at hl 0 rfl) ?_
                                    refine gf_Mo_20 hx hb hW hown hG hV hm_74 d_Mo_move_299 ?_
                                    refine lv_iload hx hb d_Mo_move_302 (lv_at hl 7 rfl) ?_
                                    refine lv_dup2_11 hx hb d_Mo_move_304 rfl rfl ?_
                                    refine hv_iald hx hb hG.K hV 0 hm_74_3 rfl (vp_in_nI (by omega) (by omega)) d_Mo_move_305 ?_
                                    rw [nI_clamp (by omega)]
                                    refine lv_iload hx hb d_Mo_move_306 (lv_at hl 6 rfl) ?_
                                    refine lv_iadd hx hb d_Mo_move_308 ?_
                                    refine hv_iast hx hb hG.K hV hS 0 hm_74_3 rfl (vp_in_nI (by omega) (by omega)) d_Mo_move_309 (fun H locs hV hS => ?_)
                                    rw [nI_clamp (by omega)] at hV
                                    replace hV : hv D vwCl N0 (hu V_73 (ad 3) (eI k 150 (upd (ρn_71.I 3) iz (((ρn_71.I 3) iz) + (y - ((ρ.I 3) (hdN part))))))) H := hV
                                    generalize hV_V_75 : hu V_73 (ad 3) (eI k 150 (upd (ρn_71.I 3) iz (((ρn_71.I 3) iz) + (y - ((ρ.I 3) (hdN part)))))) = V_75 at hV
                                    have hM_75 : mdOk k V_75 mo ad ((ρn_71.wI 2 (upd (ρn_71.I 2) iz (((ρn_71.I 2) iz) + (x - ((ρ.I 2) (hdN part)))))).wI 3 (upd (ρn_71.I 3) iz (((ρn_71.I 3) iz) + (y - ((ρ.I 3) (hdN part)))))) := by rw [← hV_V_75]; exact md_set hM_73 3 (by omega) (upd (ρn_71.I 3) iz (((ρn_71.I 3) iz) + (y - ((ρ.I 3) (hdN part)))))
                                    have hR_75 : mdFr mo ad V V_75 := by rw [← hV_V_75]; exact hR_73.ar (j := 3) (by omega)
                                    have hm_76 : V_75 mo = some (.inr (7, [.int (ρn_71.s 0), .int (ρn_71.s 1), .int (ρn_71.s 2), .int (ρn_71.s 3), .ref (ad 0), .ref (ad 1), .ref (ad 2), .ref (ad 3), .ref (ad 4), .ref (ad 5), .ref (ad 6), .ref (ad 7), .ref (ad 8), .int (ρn_71.s 4), .ref (ad 9), .ref (ad 10), .ref (ad 11), .ref (ad 12), .ref (ad 13), .ref (ad 14), .ref (ad 15), .ref (ad 16), .ref (ad 17), .ref (ad 18), .ref (ad 19), .ref (ad 20), .ref (ad 21), .ref (ad 22), .ref (ad 23), .ref (ad 24), .ref (ad 25)])) := hM_75.1
                                    have hm_76_1 : V_75 (ad 1) = some (eZ k 150 (ρn_71.I 1)) := hM_75.a1
                                    have hm_76_2 : V_75 (ad 2) = some (eI k 150 (upd (ρn_71.I 2) iz (((ρn_71.I 2) iz) + (x - ((ρ.I 2) (hdN part)))))) := hM_75.a2
                                    have hm_76_3 : V_75 (ad 3) = some (eI k 150 (upd (ρn_71.I 3) iz (((ρn_71.I 3) iz) + (y - ((ρ.I 3) (hdN part)))))) := hM_75.a3
                                    have hm_76_4 : V_75 (ad 4) = some (eI k 150 (ρn_71.I 4)) := hM_75.a4
                                    have hm_76_5 : V_75 (ad 5) = some (eI k 150 (ρn_71.I 5)) := hM_75.a5
                                    have hm_76_6 : V_75 (ad 6) = some (eI k 150 (ρn_71.I 6)) := hM_75.a6
                                    obtain ⟨i_77, ei_77⟩ : ∃ y : Int32, y = (nI iz) + 1 := ⟨_, rfl⟩
                                    refine lv_iinc (v := i_77) (lv' := [(7, .int i_77), (0, .ref mo), (1, .int part), (2, .int x), (3, .int y), (4, .int (nI (hdN part))), (5, .int (x - ((ρ.I 2) (hdN part)))), (6, .int (y - ((ρ.I 3) (hdN part))))]) hx hb d_Mo_move_310 hl (k := 7) rfl (by rw [ei_77]; rfl) (by decide) rfl (fun ls hl => ?_)
                                    refine lv_goto (tgt := 251) hx hb d_Mo_move_313 (by decide) ?_
                                    rw [nI_1] at ei_77
                                    subst ei_77
                                    try simp only [bI_ne0, bI_eq0, decide_eq_true_eq, decide_eq_false_iff_not, Bool.not_eq_false, Bool.not_eq_true, Decidable.not_not] at c_5
                                    try simp only [bI_ne0, bI_eq0, decide_eq_true_eq, decide_eq_false_iff_not, Bool.not_eq_false, Bool.not_eq_true, Decidable.not_not] at c_9
                                    try simp only [bI_ne0, bI_eq0, decide_eq_true_eq, decide_eq_false_iff_not, Bool.not_eq_false, Bool.not_eq_true, Decidable.not_not] at c_12
                                    try simp only [bI_ne0, bI_eq0, decide_eq_true_eq, decide_eq_false_iff_not, Bool.not_eq_false, Bool.not_eq_true, Decidable.not_not] at c_13
                                    try simp only [bI_ne0, bI_eq0, decide_eq_true_eq, decide_eq_false_iff_not, Bool.not_eq_false, Bool.not_eq_true, Decidable.not_not] at c_14
                                    try simp only [bI_ne0, bI_eq0, decide_eq_true_eq, decide_eq_false_iff_not, Bool.not_eq_false, Bool.not_eq_true, Decidable.not_not] at c_17
                                    try simp only [bI_ne0, bI_eq0, decide_eq_true_eq, decide_eq_false_iff_not, Bool.not_eq_false, Bool.not_eq_true, Decidable.not_not] at c_18
                                    try simp only [bI_ne0, bI_eq0, decide_eq_true_eq, decide_eq_false_iff_not, Bool.not_eq_false, Bool.not_eq_true, Decidable.not_not] at c_23
                                    try simp only [bI_ne0, bI_eq0, decide_eq_true_eq, decide_eq_false_iff_not, Bool.not_eq_false, Bool.not_eq_true, Decidable.not_not] at c_51
                                    try simp only [bI_ne0, bI_eq0, decide_eq_true_eq, decide_eq_false_iff_not, Bool.not_eq_false, Bool.not_eq_true, Decidable.not_not] at c_52
                                    try simp only [bI_ne0, bI_eq0, decide_eq_true_eq, decide_eq_false_iff_not, Bool.not_eq_false, Bool.not_eq_true, Decidable.not_not] at c_55
                                    try simp only [bI_ne0, bI_eq0, decide_eq_true_eq, decide_eq_false_iff_not, Bool.not_eq_false, Bool.not_eq_true, Decidable.not_not] at c_56
                                    try simp only [bI_ne0, bI_eq0, decide_eq_true_eq, decide_eq_false_iff_not, Bool.not_eq_false, Bool.not_eq_true, Decidable.not_not] at c_67
                                    exact ihz (iz + 1) V_75  _ _ _ (by omega) (by omega) (⟨by rw [moMvL, if_pos (by rw [← eρl]; first | (simp only [moMvC, c_56, c_67, decide_true, decide_false, Bool.true_and, Bool.and_true, Bool.false_and, Bool.and_false, Bool.true_or, Bool.or_true, Bool.false_or, Bool.or_false, Bool.not_true, Bool.not_false, if_true, if_false, Bool.false_eq_true, Bool.true_eq_false, reduceIte, eq_self]; done) | (simp_all [moMvC]; done)), ← eρl, ← eρn_71]; exact hM_75, hR_75⟩) hV hS (lv_sub hl [1, 2, 3, 4, 5, 6, 7, 0] rfl)
                                  · refine lv_goto (tgt := 310) hx hb d_Mo_move_276 (by decide) ?_
                                    obtain ⟨i_78, ei_78⟩ : ∃ y : Int32, y = (nI iz) + 1 := ⟨_, rfl⟩
                                    refine lv_iinc (v := i_78) (lv' := [(7, .int i_78), (0, .ref mo), (1, .int part), (2, .int x), (3, .int y), (4, .int (nI (hdN part))), (5, .int (x - ((ρ.I 2) (hdN part)))), (6, .int (y - ((ρ.I 3) (hdN part))))]) hx hb d_Mo_move_310 hl (k := 7) rfl (by rw [ei_78]; rfl) (by decide) rfl (fun ls hl => ?_)
                                    refine lv_goto (tgt := 251) hx hb d_Mo_move_313 (by decide) ?_
                                    rw [nI_1] at ei_78
                                    subst ei_78
                                    try simp only [bI_ne0, bI_eq0, decide_eq_true_eq, decide_eq_false_iff_not, Bool.not_eq_false, Bool.not_eq_true, Decidable.not_not] at c_5
                                    try simp only [bI_ne0, bI_eq0, decide_eq_true_eq, decide_eq_false_iff_not, Bool.not_eq_false, Bool.not_eq_true, Decidable.not_not] at c_9
                                    try simp only [bI_ne0, bI_eq0, decide_eq_true_eq, decide_eq_false_iff_not, Bool.not_eq_false, Bool.not_eq_true, Decidable.not_not] at c_12
                                    try simp only [bI_ne0, bI_eq0, decide_eq_true_eq, decide_eq_false_iff_not, Bool.not_eq_false, Bool.not_eq_true, Decidable.not_not] at c_13
                                    try simp only [bI_ne0, bI_eq0, decide_eq_true_eq, decide_eq_false_iff_not, Bool.not_eq_false, Bool.not_eq_true, Decidable.not_not] at c_14
                                    try simp only [bI_ne0, bI_eq0, decide_eq_true_eq, decide_eq_false_iff_not, Bool.not_eq_false, Bool.not_eq_true, Decidable.not_not] at c_17
                                    try simp only [bI_ne0, bI_eq0, decide_eq_true_eq, decide_eq_false_iff_not, Bool.not_eq_false, Bool.not_eq_true, Decidable.not_not] at c_18
                                    try simp only [bI_ne0, bI_eq0, decide_eq_true_eq, decide_eq_false_iff_not, Bool.not_eq_false, Bool.not_eq_true, Decidable.not_not] at c_23
                                    try simp only [bI_ne0, bI_eq0, decide_eq_true_eq, decide_eq_false_iff_not, Bool.not_eq_false, Bool.not_eq_true, Decidable.not_not] at c_51
                                    try simp only [bI_ne0, bI_eq0, decide_eq_true_eq, decide_eq_false_iff_not, Bool.not_eq_false, Bool.not_eq_true, Decidable.not_not] at c_52
                                    try simp only [bI_ne0, bI_eq0, decide_eq_true_eq, decide_eq_false_iff_not, Bool.not_eq_false, Bool.not_eq_true, Decidable.not_not] at c_55
                                    try simp only [bI_ne0, bI_eq0, decide_eq_true_eq, decide_eq_false_iff_not, Bool.not_eq_false, Bool.not_eq_true, Decidable.not_not] at c_56
                                    try simp only [bI_ne0, bI_eq0, decide_eq_true_eq, decide_eq_false_iff_not, Bool.not_eq_false, Bool.not_eq_true, Decidable.not_not] at c_67
                                    exact ihz (iz + 1) V1z  _ _ _ (by omega) (by omega) (⟨by rw [moMvL, if_neg (by rw [← eρl]; first | (simp only [moMvC, c_56, c_67, decide_true, decide_false, Bool.true_and, Bool.and_true, Bool.false_and, Bool.and_false, Bool.true_or, Bool.or_true, Bool.false_or, Bool.or_false, Bool.not_true, Bool.not_false, if_true, if_false, Bool.false_eq_true, Bool.true_eq_false, reduceIte, eq_self, not_false_eq_true]; done) | (simp_all [moMvC]; done)), ← eρl]; exact hM2, hR2⟩) hV hS (lv_sub hl [1, 2, 3, 4, 5, 6, 7, 0] rfl)
                          exact loop_53 (80 + 1 - 0) 0 V1  _ _ _ (by omega) (by omega) (⟨hM1, hR1⟩) hV hS (lv_sub hl [1, 2, 3, 4, 5, 6, 7, 0] rfl)
                        · refine lv_iconst (v := 0) hx hb d_Mo_move_246 (by decide) ?_
                          try simp only [bI_ne0, bI_eq0, decide_eq_true_eq, decide_eq_false_iff_not, Bool.not_eq_false, Bool.not_eq_true] at c_5
                          try simp only [bI_ne0, bI_eq0, decide_eq_true_eq, decide_eq_false_iff_not, Bool.not_eq_false, Bool.not_eq_true] at c_9
                          try simp only [bI_ne0, bI_eq0, decide_eq_true_eq, decide_eq_false_iff_not, Bool.not_eq_false, Bool.not_eq_true] at c_12
                          try simp only [bI_ne0, bI_eq0, decide_eq_true_eq, decide_eq_false_iff_not, Bool.not_eq_false, Bool.not_eq_true] at c_13
                          try simp only [bI_ne0, bI_eq0, decide_eq_true_eq, decide_eq_false_iff_not, Bool.not_eq_false, Bool.not_eq_true] at c_14
                          try simp only [bI_ne0, bI_eq0, decide_eq_true_eq, decide_eq_false_iff_not, Bool.not_eq_false, Bool.not_eq_true] at c_17
                          try simp only [bI_ne0, bI_eq0, decide_eq_true_eq, decide_eq_false_iff_not, Bool.not_eq_false, Bool.not_eq_true] at c_18
                          have hany : anyF Pb 20 60 = true := by cases hq : anyF Pb 20 60 with | true => rfl | false => rw [hq] at hto; exact absurd hto c_52
                          rw [hany, if_pos rfl] at hto
                          subst hto
                          rw [hPb] at hany
                          subst ef_2
                          have hfin : moMove ρ n2 n6 part x y = (0, ((ρ.ws 0 (moFault (ρ.I 0) part 2)).ws 0 (moFault (ρ.I 0) part 2)).ws 3 5) := by first | (simp only [moMove, moMvW, hany, c_5, c_9, c_12, c_13, c_14, c_17, c_18, decide_true, decide_false, Bool.true_and, Bool.and_true, Bool.false_and, Bool.and_false, Bool.true_or, Bool.or_true, Bool.false_or, Bool.or_false, Bool.not_true, Bool.not_false, if_true, if_false, Bool.false_eq_true, Bool.true_eq_false, reduceIte, eq_self]; done) | (simp only [moMove, moMvW, hany, c_5, c_9, c_12, c_13, c_14, c_17, c_18, decide_true, decide_false, Bool.true_and, Bool.and_true, Bool.false_and, Bool.and_false, Bool.true_or, Bool.or_true, Bool.false_or, Bool.or_false, Bool.not_true, Bool.not_false, if_true, if_false, Bool.false_eq_true, Bool.true_eq_false, reduceIte, eq_self]; rw [if_neg (by decide)])
                          exact W.zret (v := 0) hx hb hr rfl (fun t9 ht hW => ⟨⟨0, V1, rfl, ⟨by rw [hfin]; exact hM1, hR1, by rw [hfin]⟩, mB_of ht hV⟩, hS.F ht⟩) hS.2.2 d_Mo_move_247
                      · refine lv_aload_n hx hb d_Mo_move_198 rfl (lv_at hl 0 rfl) ?_
                        refine lv_aload_n hx hb d_Mo_move_199 rfl (lv_at hl 0 rfl) ?_
                        refine lv_iload hx hb d_Mo_move_200 (lv_at hl 7 rfl) ?_
                        refine lv_iload hx hb d_Mo_move_202 (lv_at hl 4 rfl) ?_
                        refine rc_i (va_runV (As := [.int (nI i), .int (nI (hdN part))]) (rest := [.ref mo]) ⟨hx, hb, hml, hown, hts⟩ (c_Mo_isOf l D N0 k V1 mo ad (((ρ.ws 0 f_2).ws 0 f_2).ws 3 to) hM1 i (by omega) (nI (hdN part))) (cwV 2 hts (gi_V wm_Mo_192 wv_Mo_isOf ws_Mo_isOf wi_Mo wc_Mo_isOf) rfl rfl rfl (by decide +kernel) ⟨Nat.le_of_ble_eq_true rfl, Nat.le_of_ble_eq_true rfl⟩) (mP.preV hG hS hV hm_22 rfl) rfl rfl hl.1 rfl (lv_room (Nat.le_of_ble_eq_true rfl)) d_Mo_move_204 ⟨Nat.le_of_ble_eq_true rfl, Nat.le_of_ble_eq_true rfl⟩) hS (fun H locs hV hS => ?_)
                        refine W.eq (g2 := F0 m 207 ls [.int (bI (moOf ρ.I i (nI (hdN part)))), .ref mo]) rfl ?_
                        refine lv_if_eq (tgt := 229) hx hb d_Mo_move_207 (by decide) (fun c_79 => ?_) (fun c_79 => ?_)
                        · refine lv_iconst (v := 0) hx hb d_Mo_move_229 (by decide) ?_
                          refine pf_Mo_149 hx hb hW hown hG hV hS hm_22 d_Mo_move_230 (fun H locs hV hS => ?_)
                          replace hV : hv D vwCl N0 (hu V1 mo (.inr (7, [.int f_2, .int (ρ.s 1), .int (ρ.s 2), .int 0, .ref (ad 0), .ref (ad 1), .ref (ad 2), .ref (ad 3), .ref (ad 4), .ref (ad 5), .ref (ad 6), .ref (ad 7), .ref (ad 8), .int (ρ.s 4), .ref (ad 9), .ref (ad 10), .ref (ad 11), .ref (ad 12), .ref (ad 13), .ref (ad 14), .ref (ad 15), .ref (ad 16), .ref (ad 17), .ref (ad 18), .ref (ad 19), .ref (ad 20), .ref (ad 21), .ref (ad 22), .ref (ad 23), .ref (ad 24), .ref (ad 25)]))) H := hV
                          generalize hV_V_80 : hu V1 mo (.inr (7, [.int f_2, .int (ρ.s 1), .int (ρ.s 2), .int 0, .ref (ad 0), .ref (ad 1), .ref (ad 2), .ref (ad 3), .ref (ad 4), .ref (ad 5), .ref (ad 6), .ref (ad 7), .ref (ad 8), .int (ρ.s 4), .ref (ad 9), .ref (ad 10), .ref (ad 11), .ref (ad 12), .ref (ad 13), .ref (ad 14), .ref (ad 15), .ref (ad 16), .ref (ad 17), .ref (ad 18), .ref (ad 19), .ref (ad 20), .ref (ad 21), .ref (ad 22), .ref (ad 23), .ref (ad 24), .ref (ad 25)])) = V_80 at hV
                          have hM_80 : mdOk k V_80 mo ad ((((ρ.ws 0 f_2).ws 0 f_2).ws 3 to).ws 3 0) := by rw [← hV_V_80]; exact md_put hM1 3 0
                          have hR_80 : mdFr mo ad V V_80 := by rw [← hV_V_80]; exact hR1.m
                          have hm_81 : V_80 mo = some (.inr (7, [.int f_2, .int (ρ.s 1), .int (ρ.s 2), .int 0, .ref (ad 0), .ref (ad 1), .ref (ad 2), .ref (ad 3), .ref (ad 4), .ref (ad 5), .ref (ad 6), .ref (ad 7), .ref (ad 8), .int (ρ.s 4), .ref (ad 9), .ref (ad 10), .ref (ad 11), .ref (ad 12), .ref (ad 13), .ref (ad 14), .ref (ad 15), .ref (ad 16), .ref (ad 17), .ref (ad 18), .ref (ad 19), .ref (ad 20), .ref (ad 21), .ref (ad 22), .ref (ad 23), .ref (ad 24), .ref (ad 25)])) := hM_80.1
                          have hm_81_1 : V_80 (ad 1) = some (eZ k 150 (ρ.I 1)) := hM_80.a1
                          have hm_81_2 : V_80 (ad 2) = some (eI k 150 (ρ.I 2)) := hM_80.a2
                          have hm_81_3 : V_80 (ad 3) = some (eI k 150 (ρ.I 3)) := hM_80.a3
                          have hm_81_4 : V_80 (ad 4) = some (eI k 150 (ρ.I 4)) := hM_80.a4
                          have hm_81_5 : V_80 (ad 5) = some (eI k 150 (ρ.I 5)) := hM_80.a5
                          have hm_81_6 : V_80 (ad 6) = some (eI k 150 (ρ.I 6)) := hM_80.a6
                          obtain ⟨i_82, ei_82⟩ : ∃ y : Int32, y = (nI i) + 1 := ⟨_, rfl⟩
                          refine lv_iinc (v := i_82) (lv' := [(7, .int i_82), (0, .ref mo), (1, .int part), (2, .int x), (3, .int y), (4, .int (nI (hdN part))), (5, .int (x - ((ρ.I 2) (hdN part)))), (6, .int (y - ((ρ.I 3) (hdN part))))]) hx hb d_Mo_move_233 hl (k := 7) rfl (by rw [ei_82]; rfl) (by decide) rfl (fun ls hl => ?_)
                          refine lv_goto (tgt := 184) hx hb d_Mo_move_236 (by decide) ?_
                          rw [nI_1] at ei_82
                          subst ei_82
                          try simp only [bI_ne0, bI_eq0, decide_eq_true_eq, decide_eq_false_iff_not, Bool.not_eq_false, Bool.not_eq_true, Decidable.not_not] at c_5
                          try simp only [bI_ne0, bI_eq0, decide_eq_true_eq, decide_eq_false_iff_not, Bool.not_eq_false, Bool.not_eq_true, Decidable.not_not] at c_9
                          try simp only [bI_ne0, bI_eq0, decide_eq_true_eq, decide_eq_false_iff_not, Bool.not_eq_false, Bool.not_eq_true, Decidable.not_not] at c_12
                          try simp only [bI_ne0, bI_eq0, decide_eq_true_eq, decide_eq_false_iff_not, Bool.not_eq_false, Bool.not_eq_true, Decidable.not_not] at c_13
                          try simp only [bI_ne0, bI_eq0, decide_eq_true_eq, decide_eq_false_iff_not, Bool.not_eq_false, Bool.not_eq_true, Decidable.not_not] at c_14
                          try simp only [bI_ne0, bI_eq0, decide_eq_true_eq, decide_eq_false_iff_not, Bool.not_eq_false, Bool.not_eq_true, Decidable.not_not] at c_17
                          try simp only [bI_ne0, bI_eq0, decide_eq_true_eq, decide_eq_false_iff_not, Bool.not_eq_false, Bool.not_eq_true, Decidable.not_not] at c_18
                          try simp only [bI_ne0, bI_eq0, decide_eq_true_eq, decide_eq_false_iff_not, Bool.not_eq_false, Bool.not_eq_true, Decidable.not_not] at c_23
                          try simp only [bI_ne0, bI_eq0, decide_eq_true_eq, decide_eq_false_iff_not, Bool.not_eq_false, Bool.not_eq_true, Decidable.not_not] at c_51
                          try simp only [bI_ne0, bI_eq0, decide_eq_true_eq, decide_eq_false_iff_not, Bool.not_eq_false, Bool.not_eq_true, Decidable.not_not] at c_79
                          have hPi : Pb i = false := by subst hPb; simp only [moMvP, c_51, c_79, decide_true, decide_false, Bool.true_and, Bool.and_true, Bool.false_and, Bool.and_false, Bool.true_or, Bool.or_true, Bool.false_or, Bool.or_false, Bool.not_true, Bool.not_false, if_true, if_false, Bool.false_eq_true, Bool.true_eq_false, reduceIte, eq_self]
                          exact ih (i + 1) V_80 0 _ _ _ (by omega) (by omega) (⟨by have q := hM_80; rw [ws_ws] at q; exact q, hR_80, hT1.elim (fun q => Or.inl ⟨rfl, by rw [anyF_sn h20, q.2, hPi]; rfl⟩) (fun q => absurd (q.1.symm.trans c_51) (by decide)), by omega⟩) hV hS (lv_sub hl [1, 2, 3, 4, 5, 6, 7, 0] rfl)
                        · refine lv_aload_n hx hb d_Mo_move_210 rfl (lv_at hl 0 rfl) ?_
                          refine lv_iload hx hb d_Mo_move_211 (lv_at hl 7 rfl) ?_
                          refine lv_iload hx hb d_Mo_move_213 (lv_at hl 5 rfl) ?_
                          refine lv_iload hx hb d_Mo_move_215 (lv_at hl 6 rfl) ?_
                          refine lv_iload hx hb d_Mo_move_217 (lv_at hl 4 rfl) ?_
                          refine rc_i (va_runV (As := [.int (nI i), .int (x - ((ρ.I 2) (hdN part))), .int (y - ((ρ.I 3) (hdN part))), .int (nI (hdN part))]) (rest := [.ref mo]) ⟨hx, hb, hml, hown, hts⟩ (c_Mo_clashesWithAny l D N0 k V1 mo ad (((ρ.ws 0 f_2).ws 0 f_2).ws 3 to) hM1 i (by omega) (x - ((ρ.I 2) (hdN part))) (y - ((ρ.I 3) (hdN part))) (nI (hdN part))) (cwV 4 hts (gi_V wm_Mo_173 wv_Mo_clashesWithAny ws_Mo_clashesWithAny wi_Mo wc_Mo_clashesWithAny) rfl rfl rfl (by decide +kernel) ⟨Nat.le_of_ble_eq_true rfl, Nat.le_of_ble_eq_true rfl⟩) (mP.preV hG hS hV hm_22 rfl) rfl rfl hl.1 rfl (lv_room (Nat.le_of_ble_eq_true rfl)) d_Mo_move_219 ⟨Nat.le_of_ble_eq_true rfl, Nat.le_of_ble_eq_true rfl⟩) hS (fun H locs hV hS => ?_)
                          refine W.eq (g2 := F0 m 222 ls [.int (bI (anyF (moCwP ρ i (x - ((ρ.I 2) (hdN part))) (y - ((ρ.I 3) (hdN part))) (nI (hdN part))) 20 120)), .ref mo]) rfl ?_
                          refine lv_if_eq (tgt := 229) hx hb d_Mo_move_222 (by decide) (fun c_83 => ?_) (fun c_83 => ?_)
                          · refine lv_iconst (v := 0) hx hb d_Mo_move_229 (by decide) ?_
                            refine pf_Mo_149 hx hb hW hown hG hV hS hm_22 d_Mo_move_230 (fun H locs hV hS => ?_)
                            replace hV : hv D vwCl N0 (hu V1 mo (.inr (7, [.int f_2, .int (ρ.s 1), .int (ρ.s 2), .int 0, .ref (ad 0), .ref (ad 1), .ref (ad 2), .ref (ad 3), .ref (ad 4), .ref (ad 5), .ref (ad 6), .ref (ad 7), .ref (ad 8), .int (ρ.s 4), .ref (ad 9), .ref (ad 10), .ref (ad 11), .ref (ad 12), .ref (ad 13), .ref (ad 14), .ref (ad 15), .ref (ad 16), .ref (ad 17), .ref (ad 18), .ref (ad 19), .ref (ad 20), .ref (ad 21), .ref (ad 22), .ref (ad 23), .ref (ad 24), .ref (ad 25)]))) H := hV
                            generalize hV_V_84 : hu V1 mo (.inr (7, [.int f_2, .int (ρ.s 1), .int (ρ.s 2), .int 0, .ref (ad 0), .ref (ad 1), .ref (ad 2), .ref (ad 3), .ref (ad 4), .ref (ad 5), .ref (ad 6), .ref (ad 7), .ref (ad 8), .int (ρ.s 4), .ref (ad 9), .ref (ad 10), .ref (ad 11), .ref (ad 12), .ref (ad 13), .ref (ad 14), .ref (ad 15), .ref (ad 16), .ref (ad 17), .ref (ad 18), .ref (ad 19), .ref (ad 20), .ref (ad 21), .ref (ad 22), .ref (ad 23), .ref (ad 24), .ref (ad 25)])) = V_84 at hV
                            have hM_84 : mdOk k V_84 mo ad ((((ρ.ws 0 f_2).ws 0 f_2).ws 3 to).ws 3 0) := by rw [← hV_V_84]; exact md_put hM1 3 0
                            have hR_84 : mdFr mo ad V V_84 := by rw [← hV_V_84]; exact hR1.m
                            have hm_85 : V_84 mo = some (.inr (7, [.int f_2, .int (ρ.s 1), .int (ρ.s 2), .int 0, .ref (ad 0), .ref (ad 1), .ref (ad 2), .ref (ad 3), .ref (ad 4), .ref (ad 5), .ref (ad 6), .ref (ad 7), .ref (ad 8), .int (ρ.s 4), .ref (ad 9), .ref (ad 10), .ref (ad 11), .ref (ad 12), .ref (ad 13), .ref (ad 14), .ref (ad 15), .ref (ad 16), .ref (ad 17), .ref (ad 18), .ref (ad 19), .ref (ad 20), .ref (ad 21), .ref (ad 22), .ref (ad 23), .ref (ad 24), .ref (ad 25)])) := hM_84.1
                            have hm_85_1 : V_84 (ad 1) = some (eZ k 150 (ρ.I 1)) := hM_84.a1
                            have hm_85_2 : V_84 (ad 2) = some (eI k 150 (ρ.I 2)) := hM_84.a2
                            have hm_85_3 : V_84 (ad 3) = some (eI k 150 (ρ.I 3)) := hM_84.a3
                            have hm_85_4 : V_84 (ad 4) = some (eI k 150 (ρ.I 4)) := hM_84.a4
                            have hm_85_5 : V_84 (ad 5) = some (eI k 150 (ρ.I 5)) := hM_84.a5
                            have hm_85_6 : V_84 (ad 6) = some (eI k 150 (ρ.I 6)) := hM_84.a6
                            obtain ⟨i_86, ei_86⟩ : ∃ y : Int32, y = (nI i) + 1 := ⟨_, rfl⟩
                            refine lv_iinc (v := i_86) (lv' := [(7, .int i_86), (0, .ref mo), (1, .int part), (2, .int x), (3, .int y), (4, .int (nI (hdN part))), (5, .int (x - ((ρ.I 2) (hdN part)))), (6, .int (y - ((ρ.I 3) (hdN part))))]) hx hb d_Mo_move_233 hl (k := 7) rfl (by rw [ei_86]; rfl) (by decide) rfl (fun ls hl => ?_)
                            refine lv_goto (tgt := 184) hx hb d_Mo_move_236 (by decide) ?_
                            rw [nI_1] at ei_86
                            subst ei_86
                            try simp only [bI_ne0, bI_eq0, decide_eq_true_eq, decide_eq_false_iff_not, Bool.not_eq_false, Bool.not_eq_true, Decidable.not_not] at c_5
                            try simp only [bI_ne0, bI_eq0, decide_eq_true_eq, decide_eq_false_iff_not, Bool.not_eq_false, Bool.not_eq_true, Decidable.not_not] at c_9
                            try simp only [bI_ne0, bI_eq0, decide_eq_true_eq, decide_eq_false_iff_not, Bool.not_eq_false, Bool.not_eq_true, Decidable.not_not] at c_12
                            try simp only [bI_ne0, bI_eq0, decide_eq_true_eq, decide_eq_false_iff_not, Bool.not_eq_false, Bool.not_eq_true, Decidable.not_not] at c_13
                            try simp only [bI_ne0, bI_eq0, decide_eq_true_eq, decide_eq_false_iff_not, Bool.not_eq_false, Bool.not_eq_true, Decidable.not_not] at c_14
                            try simp only [bI_ne0, bI_eq0, decide_eq_true_eq, decide_eq_false_iff_not, Bool.not_eq_false, Bool.not_eq_true, Decidable.not_not] at c_17
                            try simp only [bI_ne0, bI_eq0, decide_eq_true_eq, decide_eq_false_iff_not, Bool.not_eq_false, Bool.not_eq_true, Decidable.not_not] at c_18
                            try simp only [bI_ne0, bI_eq0, decide_eq_true_eq, decide_eq_false_iff_not, Bool.not_eq_false, Bool.not_eq_true, Decidable.not_not] at c_23
                            try simp only [bI_ne0, bI_eq0, decide_eq_true_eq, decide_eq_false_iff_not, Bool.not_eq_false, Bool.not_eq_true, Decidable.not_not] at c_51
                            try simp only [bI_ne0, bI_eq0, decide_eq_true_eq, decide_eq_false_iff_not, Bool.not_eq_false, Bool.not_eq_true, Decidable.not_not] at c_79
                            try simp only [bI_ne0, bI_eq0, decide_eq_true_eq, decide_eq_false_iff_not, Bool.not_eq_false, Bool.not_eq_true, Decidable.not_not] at c_83
                            have hPi : Pb i = false := by subst hPb; simp only [moMvP, c_51, c_79, c_83, decide_true, decide_false, Bool.true_and, Bool.and_true, Bool.false_and, Bool.and_false, Bool.true_or, Bool.or_true, Bool.false_or, Bool.or_false, Bool.not_true, Bool.not_false, if_true, if_false, Bool.false_eq_true, Bool.true_eq_false, reduceIte, eq_self]
                            exact ih (i + 1) V_84 0 _ _ _ (by omega) (by omega) (⟨by have q := hM_84; rw [ws_ws] at q; exact q, hR_84, hT1.elim (fun q => Or.inl ⟨rfl, by rw [anyF_sn h20, q.2, hPi]; rfl⟩) (fun q => absurd (q.1.symm.trans c_51) (by decide)), by omega⟩) hV hS (lv_sub hl [1, 2, 3, 4, 5, 6, 7, 0] rfl)
                          · refine lv_iconst (v := 5) hx hb d_Mo_move_225 (by decide) ?_
                            refine lv_goto (tgt := 230) hx hb d_Mo_move_226 (by decide) ?_
                            refine pf_Mo_149 hx hb hW hown hG hV hS hm_22 d_Mo_move_230 (fun H locs hV hS => ?_)
                            replace hV : hv D vwCl N0 (hu V1 mo (.inr (7, [.int f_2, .int (ρ.s 1), .int (ρ.s 2), .int 5, .ref (ad 0), .ref (ad 1), .ref (ad 2), .ref (ad 3), .ref (ad 4), .ref (ad 5), .ref (ad 6), .ref (ad 7), .ref (ad 8), .int (ρ.s 4), .ref (ad 9), .ref (ad 10), .ref (ad 11), .ref (ad 12), .ref (ad 13), .ref (ad 14), .ref (ad 15), .ref (ad 16), .ref (ad 17), .ref (ad 18), .ref (ad 19), .ref (ad 20), .ref (ad 21), .ref (ad 22), .ref (ad 23), .ref (ad 24), .ref (ad 25)]))) H := hV
                            generalize hV_V_87 : hu V1 mo (.inr (7, [.int f_2, .int (ρ.s 1), .int (ρ.s 2), .int 5, .ref (ad 0), .ref (ad 1), .ref (ad 2), .ref (ad 3), .ref (ad 4), .ref (ad 5), .ref (ad 6), .ref (ad 7), .ref (ad 8), .int (ρ.s 4), .ref (ad 9), .ref (ad 10), .ref (ad 11), .ref (ad 12), .ref (ad 13), .ref (ad 14), .ref (ad 15), .ref (ad 16), .ref (ad 17), .ref (ad 18), .ref (ad 19), .ref (ad 20), .ref (ad 21), .ref (ad 22), .ref (ad 23), .ref (ad 24), .ref (ad 25)])) = V_87 at hV
                            have hM_87 : mdOk k V_87 mo ad ((((ρ.ws 0 f_2).ws 0 f_2).ws 3 to).ws 3 5) := by rw [← hV_V_87]; exact md_put hM1 3 5
                            have hR_87 : mdFr mo ad V V_87 := by rw [← hV_V_87]; exact hR1.m
                            have hm_88 : V_87 mo = some (.inr (7, [.int f_2, .int (ρ.s 1), .int (ρ.s 2), .int 5, .ref (ad 0), .ref (ad 1), .ref (ad 2), .ref (ad 3), .ref (ad 4), .ref (ad 5), .ref (ad 6), .ref (ad 7), .ref (ad 8), .int (ρ.s 4), .ref (ad 9), .ref (ad 10), .ref (ad 11), .ref (ad 12), .ref (ad 13), .ref (ad 14), .ref (ad 15), .ref (ad 16), .ref (ad 17), .ref (ad 18), .ref (ad 19), .ref (ad 20), .ref (ad 21), .ref (ad 22), .ref (ad 23), .ref (ad 24), .ref (ad 25)])) := hM_87.1
                            have hm_88_1 : V_87 (ad 1) = some (eZ k 150 (ρ.I 1)) := hM_87.a1
                            have hm_88_2 : V_87 (ad 2) = some (eI k 150 (ρ.I 2)) := hM_87.a2
                            have hm_88_3 : V_87 (ad 3) = some (eI k 150 (ρ.I 3)) := hM_87.a3
                            have hm_88_4 : V_87 (ad 4) = some (eI k 150 (ρ.I 4)) := hM_87.a4
                            have hm_88_5 : V_87 (ad 5) = some (eI k 150 (ρ.I 5)) := hM_87.a5
                            have hm_88_6 : V_87 (ad 6) = some (eI k 150 (ρ.I 6)) := hM_87.a6
                            obtain ⟨i_89, ei_89⟩ : ∃ y : Int32, y = (nI i) + 1 := ⟨_, rfl⟩
                            refine lv_iinc (v := i_89) (lv' := [(7, .int i_89), (0, .ref mo), (1, .int part), (2, .int x), (3, .int y), (4, .int (nI (hdN part))), (5, .int (x - ((ρ.I 2) (hdN part)))), (6, .int (y - ((ρ.I 3) (hdN part))))]) hx hb d_Mo_move_233 hl (k := 7) rfl (by rw [ei_89]; rfl) (by decide) rfl (fun ls hl => ?_)
                            refine lv_goto (tgt := 184) hx hb d_Mo_move_236 (by decide) ?_
                            rw [nI_1] at ei_89
                            subst ei_89
                            try simp only [bI_ne0, bI_eq0, decide_eq_true_eq, decide_eq_false_iff_not, Bool.not_eq_false, Bool.not_eq_true, Decidable.not_not] at c_5
                            try simp only [bI_ne0, bI_eq0, decide_eq_true_eq, decide_eq_false_iff_not, Bool.not_eq_false, Bool.not_eq_true, Decidable.not_not] at c_9
                            try simp only [bI_ne0, bI_eq0, decide_eq_true_eq, decide_eq_false_iff_not, Bool.not_eq_false, Bool.not_eq_true, Decidable.not_not] at c_12
                            try simp only [bI_ne0, bI_eq0, decide_eq_true_eq, decide_eq_false_iff_not, Bool.not_eq_false, Bool.not_eq_true, Decidable.not_not] at c_13
                            try simp only [bI_ne0, bI_eq0, decide_eq_true_eq, decide_eq_false_iff_not, Bool.not_eq_false, Bool.not_eq_true, Decidable.not_not] at c_14
                            try simp only [bI_ne0, bI_eq0, decide_eq_true_eq, decide_eq_false_iff_not, Bool.not_eq_false, Bool.not_eq_true, Decidable.not_not] at c_17
                            try simp only [bI_ne0, bI_eq0, decide_eq_true_eq, decide_eq_false_iff_not, Bool.not_eq_false, Bool.not_eq_true, Decidable.not_not] at c_18
                            try simp only [bI_ne0, bI_eq0, decide_eq_true_eq, decide_eq_false_iff_not, Bool.not_eq_false, Bool.not_eq_true, Decidable.not_not] at c_23
                            try simp only [bI_ne0, bI_eq0, decide_eq_true_eq, decide_eq_false_iff_not, Bool.not_eq_false, Bool.not_eq_true, Decidable.not_not] at c_51
                            try simp only [bI_ne0, bI_eq0, decide_eq_true_eq, decide_eq_false_iff_not, Bool.not_eq_false, Bool.not_eq_true, Decidable.not_not] at c_79
                            try simp only [bI_ne0, bI_eq0, decide_eq_true_eq, decide_eq_false_iff_not, Bool.not_eq_false, Bool.not_eq_true, Decidable.not_not] at c_83
                            have hPi : Pb i = true := by subst hPb; simp only [moMvP, c_51, c_79, c_83, decide_true, decide_false, Bool.true_and, Bool.and_true, Bool.false_and, Bool.and_false, Bool.true_or, Bool.or_true, Bool.false_or, Bool.or_false, Bool.not_true, Bool.not_false, if_true, if_false, Bool.false_eq_true, Bool.true_eq_false, reduceIte, eq_self]
                            exact ih (i + 1) V_87 5 _ _ _ (by omega) (by omega) (⟨by have q := hM_87; rw [ws_ws] at q; exact q, hR_87, Or.inr ⟨rfl, (anyF_iff 60 20).mpr ⟨i, h20, by omega, hPi⟩⟩, by omega⟩) hV hS (lv_sub hl [1, 2, 3, 4, 5, 6, 7, 0] rfl)
                exact loop_21 (80 + 1 - 20) 20 V_19 0 _ _ _ (by omega) (by omega) (⟨hM_19, hR_19, Or.inl ⟨rfl, rfl⟩, by omega⟩) hV hS (lv_sub hl [4, 5, 6, 7, 3, 2, 1, 0] rfl)
              · refine lv_iconst (v := 4) hx hb d_Mo_move_150 (by decide) ?_
                refine lv_goto (tgt := 155) hx hb d_Mo_move_151 (by decide) ?_
                refine pf_Mo_149 hx hb hW hown hG hV hS hm_11 d_Mo_move_155 (fun H locs hV hS => ?_)
                replace hV : hv D vwCl N0 (hu V_10 mo (.inr (7, [.int f_2, .int (ρ.s 1), .int (ρ.s 2), .int 4, .ref (ad 0), .ref (ad 1), .ref (ad 2), .ref (ad 3), .ref (ad 4), .ref (ad 5), .ref (ad 6), .ref (ad 7), .ref (ad 8), .int (ρ.s 4), .ref (ad 9), .ref (ad 10), .ref (ad 11), .ref (ad 12), .ref (ad 13), .ref (ad 14), .ref (ad 15), .ref (ad 16), .ref (ad 17), .ref (ad 18), .ref (ad 19), .ref (ad 20), .ref (ad 21), .ref (ad 22), .ref (ad 23), .ref (ad 24), .ref (ad 25)]))) H := hV
                generalize hV_V_90 : hu V_10 mo (.inr (7, [.int f_2, .int (ρ.s 1), .int (ρ.s 2), .int 4, .ref (ad 0), .ref (ad 1), .ref (ad 2), .ref (ad 3), .ref (ad 4), .ref (ad 5), .ref (ad 6), .ref (ad 7), .ref (ad 8), .int (ρ.s 4), .ref (ad 9), .ref (ad 10), .ref (ad 11), .ref (ad 12), .ref (ad 13), .ref (ad 14), .ref (ad 15), .ref (ad 16), .ref (ad 17), .ref (ad 18), .ref (ad 19), .ref (ad 20), .ref (ad 21), .ref (ad 22), .ref (ad 23), .ref (ad 24), .ref (ad 25)])) = V_90 at hV
                have hM_90 : mdOk k V_90 mo ad (((ρ.ws 0 f_2).ws 0 f_2).ws 3 4) := by rw [← hV_V_90]; exact md_put hM_10 3 4
                have hR_90 : mdFr mo ad V V_90 := by rw [← hV_V_90]; exact hR_10.m
                have hm_91 : V_90 mo = some (.inr (7, [.int f_2, .int (ρ.s 1), .int (ρ.s 2), .int 4, .ref (ad 0), .ref (ad 1), .ref (ad 2), .ref (ad 3), .ref (ad 4), .ref (ad 5), .ref (ad 6), .ref (ad 7), .ref (ad 8), .int (ρ.s 4), .ref (ad 9), .ref (ad 10), .ref (ad 11), .ref (ad 12), .ref (ad 13), .ref (ad 14), .ref (ad 15), .ref (ad 16), .ref (ad 17), .ref (ad 18), .ref (ad 19), .ref (ad 20), .ref (ad 21), .ref (ad 22), .ref (ad 23), .ref (ad 24), .ref (ad 25)])) := hM_90.1
                have hm_91_1 : V_90 (ad 1) = some (eZ k 150 (ρ.I 1)) := hM_90.a1
                have hm_91_2 : V_90 (ad 2) = some (eI k 150 (ρ.I 2)) := hM_90.a2
                have hm_91_3 : V_90 (ad 3) = some (eI k 150 (ρ.I 3)) := hM_90.a3
                have hm_91_4 : V_90 (ad 4) = some (eI k 150 (ρ.I 4)) := hM_90.a4
                have hm_91_5 : V_90 (ad 5) = some (eI k 150 (ρ.I 5)) := hM_90.a5
                have hm_91_6 : V_90 (ad 6) = some (eI k 150 (ρ.I 6)) := hM_90.a6
                refine lv_iload_n hx hb d_Mo_move_158 rfl (lv_at hl 3 rfl) ?_
                refine lv_aload_n hx hb d_Mo_move_159 rfl (lv_at hl 1 rfl) ?_
                refine gf_Mo_17 hx hb hW hown hG hV hm_91 d_Mo_move_160 ?_
                refine lv_iload hx hb d_Mo_move_163 (lv_at hl 0 rfl) ?_
                refine hv_iald hx hb hG.K hV 0 hm_91_2 rfl (vp_in_nI (by omega) (by omega)) d_Mo_move_165 ?_
                rw [nI_clamp (by omega)]
                refine lv_isub hx hb d_Mo_move_166 ?_
                refine lv_istore (lv' := [(5, .int (x - ((ρ.I 2) (hdN part)))), (4, .int (nI (hdN part))), (0, .ref mo), (1, .int part), (2, .int x), (3, .int y)]) hx hb d_Mo_move_167 hl (by decide) rfl (fun ls hl => ?_)
                refine lv_iload_n hx hb d_Mo_move_169 rfl (lv_at hl 5 rfl) ?_
                refine lv_aload_n hx hb d_Mo_move_170 rfl (lv_at hl 2 rfl) ?_
                refine gf_Mo_20 hx hb hW hown hG hV hm_91 d_Mo_move_171 ?_
                refine lv_iload hx hb d_Mo_move_174 (lv_at hl 1 rfl) ?_
                refine hv_iald hx hb hG.K hV 0 hm_91_3 rfl (vp_in_nI (by omega) (by omega)) d_Mo_move_176 ?_
                rw [nI_clamp (by omega)]
                refine lv_isub hx hb d_Mo_move_177 ?_
                refine lv_istore (lv' := [(6, .int (y - ((ρ.I 3) (hdN part)))), (5, .int (x - ((ρ.I 2) (hdN part)))), (4, .int (nI (hdN part))), (0, .ref mo), (1, .int part), (2, .int x), (3, .int y)]) hx hb d_Mo_move_178 hl (by decide) rfl (fun ls hl => ?_)
                refine lv_bipush (v := 20) hx hb d_Mo_move_180 (by decide) ?_
                refine lv_istore (lv' := [(7, .int 20), (6, .int (y - ((ρ.I 3) (hdN part)))), (5, .int (x - ((ρ.I 2) (hdN part)))), (4, .int (nI (hdN part))), (0, .ref mo), (1, .int part), (2, .int x), (3, .int y)]) hx hb d_Mo_move_182 hl (by decide) rfl (fun ls hl => ?_)
                refine lv_iload hx hb d_Mo_move_184 (lv_at hl 0 rfl) ?_
                refine lv_bipush (v := 80) hx hb d_Mo_move_186 (by decide) ?_
                refine lv_icmp_ge (tgt := 239) hx hb d_Mo_move_188 (by decide) (fun q => absurd q (by decide)) (fun _ => ?_)
                refine lv_aload_n hx hb d_Mo_move_191 rfl (lv_at hl 4 rfl) ?_
                refine gf_Mo_149 hx hb hW hown hG hV hm_91 d_Mo_move_192 ?_
                refine lv_if_ne (tgt := 239) hx hb d_Mo_move_195 (by decide) (fun _ => ?_) (fun q => absurd q (by decide))
                refine lv_aload_n hx hb d_Mo_move_239 rfl (lv_at hl 4 rfl) ?_
                refine gf_Mo_149 hx hb hW hown hG hV hm_91 d_Mo_move_240 ?_
                refine lv_if_eq (tgt := 248) hx hb d_Mo_move_243 (by decide) (fun q => absurd q (by decide)) (fun _ => ?_)
                refine lv_iconst (v := 0) hx hb d_Mo_move_246 (by decide) ?_
                try simp only [bI_ne0, bI_eq0, decide_eq_true_eq, decide_eq_false_iff_not, Bool.not_eq_false, Bool.not_eq_true, Decidable.not_not] at c_5
                try simp only [bI_ne0, bI_eq0, decide_eq_true_eq, decide_eq_false_iff_not, Bool.not_eq_false, Bool.not_eq_true, Decidable.not_not] at c_9
                try simp only [bI_ne0, bI_eq0, decide_eq_true_eq, decide_eq_false_iff_not, Bool.not_eq_false, Bool.not_eq_true, Decidable.not_not] at c_12
                try simp only [bI_ne0, bI_eq0, decide_eq_true_eq, decide_eq_false_iff_not, Bool.not_eq_false, Bool.not_eq_true, Decidable.not_not] at c_13
                try simp only [bI_ne0, bI_eq0, decide_eq_true_eq, decide_eq_false_iff_not, Bool.not_eq_false, Bool.not_eq_true, Decidable.not_not] at c_14
                try simp only [bI_ne0, bI_eq0, decide_eq_true_eq, decide_eq_false_iff_not, Bool.not_eq_false, Bool.not_eq_true, Decidable.not_not] at c_17
                try simp only [bI_ne0, bI_eq0, decide_eq_true_eq, decide_eq_false_iff_not, Bool.not_eq_false, Bool.not_eq_true, Decidable.not_not] at c_18
                subst ef_2
                have hfin : moMove ρ n2 n6 part x y = (0, (((ρ.ws 0 (moFault (ρ.I 0) part 2)).ws 0 (moFault (ρ.I 0) part 2)).ws 3 4)) := by first | (simp only [moMove, moMvW, c_5, c_9, c_12, c_13, c_14, c_17, c_18, decide_true, decide_false, Bool.true_and, Bool.and_true, Bool.false_and, Bool.and_false, Bool.true_or, Bool.or_true, Bool.false_or, Bool.or_false, Bool.not_true, Bool.not_false, if_true, if_false, Bool.false_eq_true, Bool.true_eq_false, reduceIte, eq_self]; done) | (simp [moMove, moMvW, c_5, c_9, c_12, c_13, c_14, c_17, c_18]; done) | (simp_all [moMove, moMvW]; done)
                exact W.zret (v := 0) hx hb hr rfl (fun t9 ht hW => ⟨⟨0, V_90, rfl, ⟨by rw [hfin]; exact hM_90, hR_90, by rw [hfin]⟩, mB_of ht hV⟩, hS.F ht⟩) hS.2.2 d_Mo_move_247
            · refine lv_iconst (v := 3) hx hb d_Mo_move_114 (by decide) ?_
              refine lv_goto (tgt := 155) hx hb d_Mo_move_115 (by decide) ?_
              refine pf_Mo_149 hx hb hW hown hG hV hS hm_11 d_Mo_move_155 (fun H locs hV hS => ?_)
              replace hV : hv D vwCl N0 (hu V_10 mo (.inr (7, [.int f_2, .int (ρ.s 1), .int (ρ.s 2), .int 3, .ref (ad 0), .ref (ad 1), .ref (ad 2), .ref (ad 3), .ref (ad 4), .ref (ad 5), .ref (ad 6), .ref (ad 7), .ref (ad 8), .int (ρ.s 4), .ref (ad 9), .ref (ad 10), .ref (ad 11), .ref (ad 12), .ref (ad 13), .ref (ad 14), .ref (ad 15), .ref (ad 16), .ref (ad 17), .ref (ad 18), .ref (ad 19), .ref (ad 20), .ref (ad 21), .ref (ad 22), .ref (ad 23), .ref (ad 24), .ref (ad 25)]))) H := hV
              generalize hV_V_92 : hu V_10 mo (.inr (7, [.int f_2, .int (ρ.s 1), .int (ρ.s 2), .int 3, .ref (ad 0), .ref (ad 1), .ref (ad 2), .ref (ad 3), .ref (ad 4), .ref (ad 5), .ref (ad 6), .ref (ad 7), .ref (ad 8), .int (ρ.s 4), .ref (ad 9), .ref (ad 10), .ref (ad 11), .ref (ad 12), .ref (ad 13), .ref (ad 14), .ref (ad 15), .ref (ad 16), .ref (ad 17), .ref (ad 18), .ref (ad 19), .ref (ad 20), .ref (ad 21), .ref (ad 22), .ref (ad 23), .ref (ad 24), .ref (ad 25)])) = V_92 at hV
              have hM_92 : mdOk k V_92 mo ad (((ρ.ws 0 f_2).ws 0 f_2).ws 3 3) := by rw [← hV_V_92]; exact md_put hM_10 3 3
              have hR_92 : mdFr mo ad V V_92 := by rw [← hV_V_92]; exact hR_10.m
              have hm_93 : V_92 mo = some (.inr (7, [.int f_2, .int (ρ.s 1), .int (ρ.s 2), .int 3, .ref (ad 0), .ref (ad 1), .ref (ad 2), .ref (ad 3), .ref (ad 4), .ref (ad 5), .ref (ad 6), .ref (ad 7), .ref (ad 8), .int (ρ.s 4), .ref (ad 9), .ref (ad 10), .ref (ad 11), .ref (ad 12), .ref (ad 13), .ref (ad 14), .ref (ad 15), .ref (ad 16), .ref (ad 17), .ref (ad 18), .ref (ad 19), .ref (ad 20), .ref (ad 21), .ref (ad 22), .ref (ad 23), .ref (ad 24), .ref (ad 25)])) := hM_92.1
              have hm_93_1 : V_92 (ad 1) = some (eZ k 150 (ρ.I 1)) := hM_92.a1
              have hm_93_2 : V_92 (ad 2) = some (eI k 150 (ρ.I 2)) := hM_92.a2
              have hm_93_3 : V_92 (ad 3) = some (eI k 150 (ρ.I 3)) := hM_92.a3
              have hm_93_4 : V_92 (ad 4) = some (eI k 150 (ρ.I 4)) := hM_92.a4
              have hm_93_5 : V_92 (ad 5) = some (eI k 150 (ρ.I 5)) := hM_92.a5
              have hm_93_6 : V_92 (ad 6) = some (eI k 150 (ρ.I 6)) := hM_92.a6
              refine lv_iload_n hx hb d_Mo_move_158 rfl (lv_at hl 3 rfl) ?_
              refine lv_aload_n hx hb d_Mo_move_159 rfl (lv_at hl 1 rfl) ?_
              refine gf_Mo_17 hx hb hW hown hG hV hm_93 d_Mo_move_160 ?_
              refine lv_iload hx hb d_Mo_move_163 (lv_at hl 0 rfl) ?_
              refine hv_iald hx hb hG.K hV 0 hm_93_2 rfl (vp_in_nI (by omega) (by omega)) d_Mo_move_165 ?_
              rw [nI_clamp (by omega)]
              refine lv_isub hx hb d_Mo_move_166 ?_
              refine lv_istore (lv' := [(5, .int (x - ((ρ.I 2) (hdN part)))), (4, .int (nI (hdN part))), (0, .ref mo), (1, .int part), (2, .int x), (3, .int y)]) hx hb d_Mo_move_167 hl (by decide) rfl (fun ls hl => ?_)
              refine lv_iload_n hx hb d_Mo_move_169 rfl (lv_at hl 5 rfl) ?_
              refine lv_aload_n hx hb d_Mo_move_170 rfl (lv_at hl 2 rfl) ?_
              refine gf_Mo_20 hx hb hW hown hG hV hm_93 d_Mo_move_171 ?_
              refine lv_iload hx hb d_Mo_move_174 (lv_at hl 1 rfl) ?_
              refine hv_iald hx hb hG.K hV 0 hm_93_3 rfl (vp_in_nI (by omega) (by omega)) d_Mo_move_176 ?_
              rw [nI_clamp (by omega)]
              refine lv_isub hx hb d_Mo_move_177 ?_
              refine lv_istore (lv' := [(6, .int (y - ((ρ.I 3) (hdN part)))), (5, .int (x - ((ρ.I 2) (hdN part)))), (4, .int (nI (hdN part))), (0, .ref mo), (1, .int part), (2, .int x), (3, .int y)]) hx hb d_Mo_move_178 hl (by decide) rfl (fun ls hl => ?_)
              refine lv_bipush (v := 20) hx hb d_Mo_move_180 (by decide) ?_
              refine lv_istore (lv' := [(7, .int 20), (6, .int (y - ((ρ.I 3) (hdN part)))), (5, .int (x - ((ρ.I 2) (hdN part)))), (4, .int (nI (hdN part))), (0, .ref mo), (1, .int part), (2, .int x), (3, .int y)]) hx hb d_Mo_move_182 hl (by decide) rfl (fun ls hl => ?_)
              refine lv_iload hx hb d_Mo_move_184 (lv_at hl 0 rfl) ?_
              refine lv_bipush (v := 80) hx hb d_Mo_move_186 (by decide) ?_
              refine lv_icmp_ge (tgt := 239) hx hb d_Mo_move_188 (by decide) (fun q => absurd q (by decide)) (fun _ => ?_)
              refine lv_aload_n hx hb d_Mo_move_191 rfl (lv_at hl 4 rfl) ?_
              refine gf_Mo_149 hx hb hW hown hG hV hm_93 d_Mo_move_192 ?_
              refine lv_if_ne (tgt := 239) hx hb d_Mo_move_195 (by decide) (fun _ => ?_) (fun q => absurd q (by decide))
              refine lv_aload_n hx hb d_Mo_move_239 rfl (lv_at hl 4 rfl) ?_
              refine gf_Mo_149 hx hb hW hown hG hV hm_93 d_Mo_move_240 ?_
              refine lv_if_eq (tgt := 248) hx hb d_Mo_move_243 (by decide) (fun q => absurd q (by decide)) (fun _ => ?_)
              refine lv_iconst (v := 0) hx hb d_Mo_move_246 (by decide) ?_
              try simp only [bI_ne0, bI_eq0, decide_eq_true_eq, decide_eq_false_iff_not, Bool.not_eq_false, Bool.not_eq_true, Decidable.not_not] at c_5
              try simp only [bI_ne0, bI_eq0, decide_eq_true_eq, decide_eq_false_iff_not, Bool.not_eq_false, Bool.not_eq_true, Decidable.not_not] at c_9
              try simp only [bI_ne0, bI_eq0, decide_eq_true_eq, decide_eq_false_iff_not, Bool.not_eq_false, Bool.not_eq_true, Decidable.not_not] at c_12
              try simp only [bI_ne0, bI_eq0, decide_eq_true_eq, decide_eq_false_iff_not, Bool.not_eq_false, Bool.not_eq_true, Decidable.not_not] at c_13
              try simp only [bI_ne0, bI_eq0, decide_eq_true_eq, decide_eq_false_iff_not, Bool.not_eq_false, Bool.not_eq_true, Decidable.not_not] at c_14
              try simp only [bI_ne0, bI_eq0, decide_eq_true_eq, decide_eq_false_iff_not, Bool.not_eq_false, Bool.not_eq_true, Decidable.not_not] at c_17
              subst ef_2
              have hfin : moMove ρ n2 n6 part x y = (0, (((ρ.ws 0 (moFault (ρ.I 0) part 2)).ws 0 (moFault (ρ.I 0) part 2)).ws 3 3)) := by first | (simp only [moMove, moMvW, c_5, c_9, c_12, c_13, c_14, c_17, decide_true, decide_false, Bool.true_and, Bool.and_true, Bool.false_and, Bool.and_false, Bool.true_or, Bool.or_true, Bool.false_or, Bool.or_false, Bool.not_true, Bool.not_false, if_true, if_false, Bool.false_eq_true, Bool.true_eq_false, reduceIte, eq_self]; done) | (simp [moMove, moMvW, c_5, c_9, c_12, c_13, c_14, c_17]; done) | (simp_all [moMove, moMvW]; done)
              exact W.zret (v := 0) hx hb hr rfl (fun t9 ht hW => ⟨⟨0, V_92, rfl, ⟨by rw [hfin]; exact hM_92, hR_92, by rw [hfin]⟩, mB_of ht hV⟩, hS.F ht⟩) hS.2.2 d_Mo_move_247
        · refine lv_iconst (v := 2) hx hb d_Mo_move_78 (by decide) ?_
          refine lv_goto (tgt := 155) hx hb d_Mo_move_79 (by decide) ?_
          refine pf_Mo_149 hx hb hW hown hG hV hS hm_11 d_Mo_move_155 (fun H locs hV hS => ?_)
          replace hV : hv D vwCl N0 (hu V_10 mo (.inr (7, [.int f_2, .int (ρ.s 1), .int (ρ.s 2), .int 2, .ref (ad 0), .ref (ad 1), .ref (ad 2), .ref (ad 3), .ref (ad 4), .ref (ad 5), .ref (ad 6), .ref (ad 7), .ref (ad 8), .int (ρ.s 4), .ref (ad 9), .ref (ad 10), .ref (ad 11), .ref (ad 12), .ref (ad 13), .ref (ad 14), .ref (ad 15), .ref (ad 16), .ref (ad 17), .ref (ad 18), .ref (ad 19), .ref (ad 20), .ref (ad 21), .ref (ad 22), .ref (ad 23), .ref (ad 24), .ref (ad 25)]))) H := hV
          generalize hV_V_94 : hu V_10 mo (.inr (7, [.int f_2, .int (ρ.s 1), .int (ρ.s 2), .int 2, .ref (ad 0), .ref (ad 1), .ref (ad 2), .ref (ad 3), .ref (ad 4), .ref (ad 5), .ref (ad 6), .ref (ad 7), .ref (ad 8), .int (ρ.s 4), .ref (ad 9), .ref (ad 10), .ref (ad 11), .ref (ad 12), .ref (ad 13), .ref (ad 14), .ref (ad 15), .ref (ad 16), .ref (ad 17), .ref (ad 18), .ref (ad 19), .ref (ad 20), .ref (ad 21), .ref (ad 22), .ref (ad 23), .ref (ad 24), .ref (ad 25)])) = V_94 at hV
          have hM_94 : mdOk k V_94 mo ad (((ρ.ws 0 f_2).ws 0 f_2).ws 3 2) := by rw [← hV_V_94]; exact md_put hM_10 3 2
          have hR_94 : mdFr mo ad V V_94 := by rw [← hV_V_94]; exact hR_10.m
          have hm_95 : V_94 mo = some (.inr (7, [.int f_2, .int (ρ.s 1), .int (ρ.s 2), .int 2, .ref (ad 0), .ref (ad 1), .ref (ad 2), .ref (ad 3), .ref (ad 4), .ref (ad 5), .ref (ad 6), .ref (ad 7), .ref (ad 8), .int (ρ.s 4), .ref (ad 9), .ref (ad 10), .ref (ad 11), .ref (ad 12), .ref (ad 13), .ref (ad 14), .ref (ad 15), .ref (ad 16), .ref (ad 17), .ref (ad 18), .ref (ad 19), .ref (ad 20), .ref (ad 21), .ref (ad 22), .ref (ad 23), .ref (ad 24), .ref (ad 25)])) := hM_94.1
          have hm_95_1 : V_94 (ad 1) = some (eZ k 150 (ρ.I 1)) := hM_94.a1
          have hm_95_2 : V_94 (ad 2) = some (eI k 150 (ρ.I 2)) := hM_94.a2
          have hm_95_3 : V_94 (ad 3) = some (eI k 150 (ρ.I 3)) := hM_94.a3
          have hm_95_4 : V_94 (ad 4) = some (eI k 150 (ρ.I 4)) := hM_94.a4
          have hm_95_5 : V_94 (ad 5) = some (eI k 150 (ρ.I 5)) := hM_94.a5
          have hm_95_6 : V_94 (ad 6) = some (eI k 150 (ρ.I 6)) := hM_94.a6
          refine lv_iload_n hx hb d_Mo_move_158 rfl (lv_at hl 3 rfl) ?_
          refine lv_aload_n hx hb d_Mo_move_159 rfl (lv_at hl 1 rfl) ?_
          refine gf_Mo_17 hx hb hW hown hG hV hm_95 d_Mo_move_160 ?_
          refine lv_iload hx hb d_Mo_move_163 (lv_at hl 0 rfl) ?_
          refine hv_iald hx hb hG.K hV 0 hm_95_2 rfl (vp_in_nI (by omega) (by omega)) d_Mo_move_165 ?_
          rw [nI_clamp (by omega)]
          refine lv_isub hx hb d_Mo_move_166 ?_
          refine lv_istore (lv' := [(5, .int (x - ((ρ.I 2) (hdN part)))), (4, .int (nI (hdN part))), (0, .ref mo), (1, .int part), (2, .int x), (3, .int y)]) hx hb d_Mo_move_167 hl (by decide) rfl (fun ls hl => ?_)
          refine lv_iload_n hx hb d_Mo_move_169 rfl (lv_at hl 5 rfl) ?_
          refine lv_aload_n hx hb d_Mo_move_170 rfl (lv_at hl 2 rfl) ?_
          refine gf_Mo_20 hx hb hW hown hG hV hm_95 d_Mo_move_171 ?_
          refine lv_iload hx hb d_Mo_move_174 (lv_at hl 1 rfl) ?_
          refine hv_iald hx hb hG.K hV 0 hm_95_3 rfl (vp_in_nI (by omega) (by omega)) d_Mo_move_176 ?_
          rw [nI_clamp (by omega)]
          refine lv_isub hx hb d_Mo_move_177 ?_
          refine lv_istore (lv' := [(6, .int (y - ((ρ.I 3) (hdN part)))), (5, .int (x - ((ρ.I 2) (hdN part)))), (4, .int (nI (hdN part))), (0, .ref mo), (1, .int part), (2, .int x), (3, .int y)]) hx hb d_Mo_move_178 hl (by decide) rfl (fun ls hl => ?_)
          refine lv_bipush (v := 20) hx hb d_Mo_move_180 (by decide) ?_
          refine lv_istore (lv' := [(7, .int 20), (6, .int (y - ((ρ.I 3) (hdN part)))), (5, .int (x - ((ρ.I 2) (hdN part)))), (4, .int (nI (hdN part))), (0, .ref mo), (1, .int part), (2, .int x), (3, .int y)]) hx hb d_Mo_move_182 hl (by decide) rfl (fun ls hl => ?_)
          refine lv_iload hx hb d_Mo_move_184 (lv_at hl 0 rfl) ?_
          refine lv_bipush (v := 80) hx hb d_Mo_move_186 (by decide) ?_
          refine lv_icmp_ge (tgt := 239) hx hb d_Mo_move_188 (by decide) (fun q => absurd q (by decide)) (fun _ => ?_)
          refine lv_aload_n hx hb d_Mo_move_191 rfl (lv_at hl 4 rfl) ?_
          refine gf_Mo_149 hx hb hW hown hG hV hm_95 d_Mo_move_192 ?_
          refine lv_if_ne (tgt := 239) hx hb d_Mo_move_195 (by decide) (fun _ => ?_) (fun q => absurd q (by decide))
          refine lv_aload_n hx hb d_Mo_move_239 rfl (lv_at hl 4 rfl) ?_
          refine gf_Mo_149 hx hb hW hown hG hV hm_95 d_Mo_move_240 ?_
          refine lv_if_eq (tgt := 248) hx hb d_Mo_move_243 (by decide) (fun q => absurd q (by decide)) (fun _ => ?_)
          refine lv_iconst (v := 0) hx hb d_Mo_move_246 (by decide) ?_
          try simp only [bI_ne0, bI_eq0, decide_eq_true_eq, decide_eq_false_iff_not, Bool.not_eq_false, Bool.not_eq_true, Decidable.not_not] at c_5
          try simp only [bI_ne0, bI_eq0, decide_eq_true_eq, decide_eq_false_iff_not, Bool.not_eq_false, Bool.not_eq_true, Decidable.not_not] at c_9
          try simp only [bI_ne0, bI_eq0, decide_eq_true_eq, decide_eq_false_iff_not, Bool.not_eq_false, Bool.not_eq_true, Decidable.not_not] at c_12
          try simp only [bI_ne0, bI_eq0, decide_eq_true_eq, decide_eq_false_iff_not, Bool.not_eq_false, Bool.not_eq_true, Decidable.not_not] at c_13
          subst ef_2
          have hfin : moMove ρ n2 n6 part x y = (0, (((ρ.ws 0 (moFault (ρ.I 0) part 2)).ws 0 (moFault (ρ.I 0) part 2)).ws 3 2)) := by first | (simp only [moMove, moMvW, c_5, c_9, c_12, c_13, decide_true, decide_false, Bool.true_and, Bool.and_true, Bool.false_and, Bool.and_false, Bool.true_or, Bool.or_true, Bool.false_or, Bool.or_false, Bool.not_true, Bool.not_false, if_true, if_false, Bool.false_eq_true, Bool.true_eq_false, reduceIte, eq_self]; done) | (simp [moMove, moMvW, c_5, c_9, c_12, c_13]; done) | (simp_all [moMove, moMvW]; done)
          exact W.zret (v := 0) hx hb hr rfl (fun t9 ht hW => ⟨⟨0, V_94, rfl, ⟨by rw [hfin]; exact hM_94, hR_94, by rw [hfin]⟩, mB_of ht hV⟩, hS.F ht⟩) hS.2.2 d_Mo_move_247
      · exact absurd c_5 c_12
    · refine lv_iconst (v := 3) hx hb d_Mo_move_35 (by decide) ?_
      refine lv_goto (tgt := 43) hx hb d_Mo_move_36 (by decide) ?_
      refine pf_Mo_100 hx hb hW hown hG hV hS hm_4 d_Mo_move_43 (fun H locs hV hS => ?_)
      replace hV : hv D vwCl N0 (hu V_3 mo (.inr (7, [.int 3, .int (ρ.s 1), .int (ρ.s 2), .int (ρ.s 3), .ref (ad 0), .ref (ad 1), .ref (ad 2), .ref (ad 3), .ref (ad 4), .ref (ad 5), .ref (ad 6), .ref (ad 7), .ref (ad 8), .int (ρ.s 4), .ref (ad 9), .ref (ad 10), .ref (ad 11), .ref (ad 12), .ref (ad 13), .ref (ad 14), .ref (ad 15), .ref (ad 16), .ref (ad 17), .ref (ad 18), .ref (ad 19), .ref (ad 20), .ref (ad 21), .ref (ad 22), .ref (ad 23), .ref (ad 24), .ref (ad 25)]))) H := hV
      generalize hV_V_96 : hu V_3 mo (.inr (7, [.int 3, .int (ρ.s 1), .int (ρ.s 2), .int (ρ.s 3), .ref (ad 0), .ref (ad 1), .ref (ad 2), .ref (ad 3), .ref (ad 4), .ref (ad 5), .ref (ad 6), .ref (ad 7), .ref (ad 8), .int (ρ.s 4), .ref (ad 9), .ref (ad 10), .ref (ad 11), .ref (ad 12), .ref (ad 13), .ref (ad 14), .ref (ad 15), .ref (ad 16), .ref (ad 17), .ref (ad 18), .ref (ad 19), .ref (ad 20), .ref (ad 21), .ref (ad 22), .ref (ad 23), .ref (ad 24), .ref (ad 25)])) = V_96 at hV
      have hM_96 : mdOk k V_96 mo ad ((ρ.ws 0 f_2).ws 0 3) := by rw [← hV_V_96]; exact md_put hM_3 0 3
      have hR_96 : mdFr mo ad V V_96 := by rw [← hV_V_96]; exact hR_3.m
      have hm_97 : V_96 mo = some (.inr (7, [.int 3, .int (ρ.s 1), .int (ρ.s 2), .int (ρ.s 3), .ref (ad 0), .ref (ad 1), .ref (ad 2), .ref (ad 3), .ref (ad 4), .ref (ad 5), .ref (ad 6), .ref (ad 7), .ref (ad 8), .int (ρ.s 4), .ref (ad 9), .ref (ad 10), .ref (ad 11), .ref (ad 12), .ref (ad 13), .ref (ad 14), .ref (ad 15), .ref (ad 16), .ref (ad 17), .ref (ad 18), .ref (ad 19), .ref (ad 20), .ref (ad 21), .ref (ad 22), .ref (ad 23), .ref (ad 24), .ref (ad 25)])) := hM_96.1
      have hm_97_1 : V_96 (ad 1) = some (eZ k 150 (ρ.I 1)) := hM_96.a1
      have hm_97_2 : V_96 (ad 2) = some (eI k 150 (ρ.I 2)) := hM_96.a2
      have hm_97_3 : V_96 (ad 3) = some (eI k 150 (ρ.I 3)) := hM_96.a3
      have hm_97_4 : V_96 (ad 4) = some (eI k 150 (ρ.I 4)) := hM_96.a4
      have hm_97_5 : V_96 (ad 5) = some (eI k 150 (ρ.I 5)) := hM_96.a5
      have hm_97_6 : V_96 (ad 6) = some (eI k 150 (ρ.I 6)) := hM_96.a6
      refine lv_aload_n hx hb d_Mo_move_46 rfl (lv_at hl 1 rfl) ?_
      refine gf_Mo_100 hx hb hW hown hG hV hm_97 d_Mo_move_47 ?_
      refine lv_if_eq (tgt := 55) hx hb d_Mo_move_50 (by decide) (fun q => absurd q (by decide)) (fun _ => ?_)
      refine lv_iconst (v := 0) hx hb d_Mo_move_53 (by decide) ?_
      try simp only [bI_ne0, bI_eq0, decide_eq_true_eq, decide_eq_false_iff_not, Bool.not_eq_false, Bool.not_eq_true, Decidable.not_not] at c_5
      try simp only [bI_ne0, bI_eq0, decide_eq_true_eq, decide_eq_false_iff_not, Bool.not_eq_false, Bool.not_eq_true, Decidable.not_not] at c_9
      subst ef_2
      have hfin : moMove ρ n2 n6 part x y = (0, ((ρ.ws 0 (moFault (ρ.I 0) part 2)).ws 0 3)) := by first | (simp only [moMove, moMvW, c_5, c_9, decide_true, decide_false, Bool.true_and, Bool.and_true, Bool.false_and, Bool.and_false, Bool.true_or, Bool.or_true, Bool.false_or, Bool.or_false, Bool.not_true, Bool.not_false, if_true, if_false, Bool.false_eq_true, Bool.true_eq_false, reduceIte, eq_self]; done) | (simp [moMove, moMvW, c_5, c_9]; done) | (simp_all [moMove, moMvW]; done)
      exact W.zret (v := 0) hx hb hr rfl (fun t9 ht hW => ⟨⟨0, V_96, rfl, ⟨by rw [hfin]; exact hM_96, hR_96, by rw [hfin]⟩, mB_of ht hV⟩, hS.F ht⟩) hS.2.2 d_Mo_move_54
set_option maxHeartbeats 4000000 in
set_option maxRecDepth 100000 in
/-- check -/
theorem c_Mo_check (l : Launch) (D : va_G) (N0 : Nat) (k : Nat → Nat) (V : HV) (mo : Nat) (ad : Nat → Nat) (ρ : MS) (hM : mdOk k V mo ad ρ) : Met l y_Mo_check (.code y_Mo_check b_Mo_check 4 (some .int) :: WS) ({ frames := 4, cells := 0, slots := 0, locals := 88 }) (mP D N0 k [.ref mo] V) (va_Qi (fun r V' => mdOk k V' mo ad (ρ.ws 0 0) ∧ mdFr mo ad V V' ∧ r = nI (sumN (moCkR ρ) 20 120)) (mB D N0) (hA N0)) 0 0 (hA N0) := by
  refine Met.ofW (cc := b_Mo_check) (maxL := 4) (ret := (some .int)) (by decide) rfl ?_
  intro p e s m args below meth c s₁ B hml hv0
  obtain ⟨rfl, hG, hV⟩ := hv0
  have hx := B.exec
  have hb := B.bytes
  have hr := B.returns
  have hts := atoms_spec (ws := .code y_Mo_check b_Mo_check 4 (some .int) :: WS) B.pre
  have hW : ∀ w ∈ WS, w.before _ s = true := fun w h => hts w (List.mem_cons_of_mem _ h)
  have hown : s.vm.findClass "BoardHouseModel" = some m.cls := findClass_of_methodNamed B.named
  have hlocks := B.notSynchronized
  have hS : va_S (hA N0) s.heap s.heap [] := va_S.rf
  have hl := lv_entry ([.ref mo]) (n := 4) (Nat.le_of_ble_eq_true rfl)
  rw [lg_entry_eq]
  generalize (lg_sl ([.ref mo]) ++ List.replicate (4 - (lg_sl ([.ref mo])).length) Slot.unset).toArray = ls at hl ⊢
  have hl : lv_has ls 4 [(0, .ref mo)] := hl
  have hm_1 : V mo = some (.inr (7, [.int (ρ.s 0), .int (ρ.s 1), .int (ρ.s 2), .int (ρ.s 3), .ref (ad 0), .ref (ad 1), .ref (ad 2), .ref (ad 3), .ref (ad 4), .ref (ad 5), .ref (ad 6), .ref (ad 7), .ref (ad 8), .int (ρ.s 4), .ref (ad 9), .ref (ad 10), .ref (ad 11), .ref (ad 12), .ref (ad 13), .ref (ad 14), .ref (ad 15), .ref (ad 16), .ref (ad 17), .ref (ad 18), .ref (ad 19), .ref (ad 20), .ref (ad 21), .ref (ad 22), .ref (ad 23), .ref (ad 24), .ref (ad 25)])) := hM.1
  refine lv_aload_n hx hb d_Mo_check_0 rfl (lv_at hl 0 rfl) ?_
  refine lv_iconst (v := 0) hx hb d_Mo_check_1 (by decide) ?_
  refine pf_Mo_100 hx hb hW hown hG hV hS hm_1 d_Mo_check_2 (fun H locs hV hS => ?_)
  replace hV : hv D vwCl N0 (hu V mo (.inr (7, [.int 0, .int (ρ.s 1), .int (ρ.s 2), .int (ρ.s 3), .ref (ad 0), .ref (ad 1), .ref (ad 2), .ref (ad 3), .ref (ad 4), .ref (ad 5), .ref (ad 6), .ref (ad 7), .ref (ad 8), .int (ρ.s 4), .ref (ad 9), .ref (ad 10), .ref (ad 11), .ref (ad 12), .ref (ad 13), .ref (ad 14), .ref (ad 15), .ref (ad 16), .ref (ad 17), .ref (ad 18), .ref (ad 19), .ref (ad 20), .ref (ad 21), .ref (ad 22), .ref (ad 23), .ref (ad 24), .ref (ad 25)]))) H := hV
  generalize hV_V_2 : hu V mo (.inr (7, [.int 0, .int (ρ.s 1), .int (ρ.s 2), .int (ρ.s 3), .ref (ad 0), .ref (ad 1), .ref (ad 2), .ref (ad 3), .ref (ad 4), .ref (ad 5), .ref (ad 6), .ref (ad 7), .ref (ad 8), .int (ρ.s 4), .ref (ad 9), .ref (ad 10), .ref (ad 11), .ref (ad 12), .ref (ad 13), .ref (ad 14), .ref (ad 15), .ref (ad 16), .ref (ad 17), .ref (ad 18), .ref (ad 19), .ref (ad 20), .ref (ad 21), .ref (ad 22), .ref (ad 23), .ref (ad 24), .ref (ad 25)])) = V_2 at hV
  have hM_2 : mdOk k V_2 mo ad (ρ.ws 0 0) := by rw [← hV_V_2]; exact md_put hM 0 0
  have hR_2 : mdFr mo ad V V_2 := by rw [← hV_V_2]; exact (mdFr.rf (mo := mo) (ad := ad) (V := V)).m
  have hm_3 : V_2 mo = some (.inr (7, [.int 0, .int (ρ.s 1), .int (ρ.s 2), .int (ρ.s 3), .ref (ad 0), .ref (ad 1), .ref (ad 2), .ref (ad 3), .ref (ad 4), .ref (ad 5), .ref (ad 6), .ref (ad 7), .ref (ad 8), .int (ρ.s 4), .ref (ad 9), .ref (ad 10), .ref (ad 11), .ref (ad 12), .ref (ad 13), .ref (ad 14), .ref (ad 15), .ref (ad 16), .ref (ad 17), .ref (ad 18), .ref (ad 19), .ref (ad 20), .ref (ad 21), .ref (ad 22), .ref (ad 23), .ref (ad 24), .ref (ad 25)])) := hM_2.1
  refine lv_iconst (v := 0) hx hb d_Mo_check_5 (by decide) ?_
  refine lv_istore_n (lv' := [(1, .int 0), (0, .ref mo)]) hx hb d_Mo_check_6 rfl hl (by decide) rfl (fun ls hl => ?_)
  refine lv_bipush (v := 20) hx hb d_Mo_check_7 (by decide) ?_
  refine lv_istore_n (lv' := [(2, .int 20), (1, .int 0), (0, .ref mo)]) hx hb d_Mo_check_9 rfl hl (by decide) rfl (fun ls hl => ?_)
  have loop_4 : ∀ (n i : Nat) (c0 : Nat) (H : Heap) (locs : List Loc) (ls : Array Slot), i ≤ 140 → 140 + 1 ≤ i + n → (c0 + sumN (moCkR ρ) i (140 - i) = sumN (moCkR ρ) 20 120 ∧ 20 ≤ i) → hv D vwCl N0 V_2 H → va_S (hA N0) s.heap H locs → lv_has ls 4 [(0, .ref mo), (1, .int (nI c0)), (2, .int (nI i))] → W p l e (headSpec (.code y_Mo_check b_Mo_check 4 (some .int) :: WS) ({ frames := 4, cells := 0, slots := 0, locals := 88 })).room s m #[.ref mo] below meth c H locs 0 0 (MQ below (va_Qi (fun r V' => mdOk k V' mo ad (ρ.ws 0 0) ∧ mdFr mo ad V V' ∧ r = nI (sumN (moCkR ρ) 20 120)) (mB D N0) (hA N0)) #[.ref mo] s 0 0 (hA N0)) (F0 m 10 ls []) := by
    intro n
    induction n with
    | zero => intro i c0 H locs ls h1 h2; exact absurd h2 (by omega)
    | succ n ih =>
      intro i c0 H locs ls hi hin hI hV hS hl
      refine lv_iload_n hx hb d_Mo_check_10 rfl (lv_at hl 2 rfl) ?_
      refine lv_sipush (v := 140) hx hb d_Mo_check_11 (by decide) ?_
      refine lv_icmp_ge (tgt := 57) hx hb d_Mo_check_14 (by decide) (fun c_5 => ?_) (fun c_5 => ?_)
      · have hge : 140 ≤ i := nI_le' (a := 140) (b := i) c_5 (by decide) (by omega)
        refine lv_iload_n hx hb d_Mo_check_57 rfl (lv_at hl 1 rfl) ?_
        exact W.iret (v := (nI c0)) hx hb hr (fun t9 ht hW => ⟨⟨(nI c0), V_2, rfl, ⟨hM_2, hR_2, by rw [← hI.1, sumN_end hge]; rfl⟩, mB_of ht hV⟩, hS.F ht⟩) hS.2.2 d_Mo_check_58
      · have hlt : i < 140 := nI_nle' (a := 140) (b := i) c_5 (by decide) (by omega)
        refine lv_iload_n hx hb d_Mo_check_17 rfl (lv_at hl 2 rfl) ?_
        refine lv_iconst (v := 1) hx hb d_Mo_check_18 (by decide) ?_
        refine lv_iadd hx hb d_Mo_check_19 ?_
        refine lv_istore_n (lv' := [(3, .int ((nI i) + 1)), (0, .ref mo), (1, .int (nI c0)), (2, .int (nI i))]) hx hb d_Mo_check_20 rfl hl (by decide) rfl (fun ls hl => ?_)
        rw [nI_1] at hl
        have loop_6 : ∀ (nb ib : Nat) (d0 : Nat) (H : Heap) (locs : List Loc) (ls : Array Slot), ib ≤ 140 → 140 + 1 ≤ ib + nb → (d0 + cntF (moPr ρ i) ib (140 - ib) = c0 + cntF (moPr ρ i) (i + 1) (140 - (i + 1)) ∧ i < ib) → hv D vwCl N0 V_2 H → va_S (hA N0) s.heap H locs → lv_has ls 4 [(0, .ref mo), (1, .int (nI d0)), (2, .int (nI i)), (3, .int (nI ib))] → W p l e (headSpec (.code y_Mo_check b_Mo_check 4 (some .int) :: WS) ({ frames := 4, cells := 0, slots := 0, locals := 88 })).room s m #[.ref mo] below meth c H locs 0 0 (MQ below (va_Qi (fun r V' => mdOk k V' mo ad (ρ.ws 0 0) ∧ mdFr mo ad V V' ∧ r = nI (sumN (moCkR ρ) 20 120)) (mB D N0) (hA N0)) #[.ref mo] s 0 0 (hA N0)) (F0 m 21 ls []) := by
          intro nb
          induction nb with
          | zero => intro ib d0 H locs ls h1 h2; exact absurd h2 (by omega)
          | succ nb ihb =>
            intro ib d0 H locs ls hib hinb hIb hV hS hl
            refine lv_iload_n hx hb d_Mo_check_21 rfl (lv_at hl 3 rfl) ?_
            refine lv_sipush (v := 140) hx hb d_Mo_check_22 (by decide) ?_
            refine lv_icmp_ge (tgt := 51) hx hb d_Mo_check_25 (by decide) (fun c_7 => ?_) (fun c_7 => ?_)
            · have hgeb : 140 ≤ ib := nI_le' (a := 140) (b := ib) c_7 (by decide) (by omega)
              obtain ⟨i_8, ei_8⟩ : ∃ y : Int32, y = (nI i) + 1 := ⟨_, rfl⟩
              refine lv_iinc (v := i_8) (lv' := [(2, .int i_8), (0, .ref mo), (1, .int (nI d0)), (3, .int (nI ib))]) hx hb d_Mo_check_51 hl (k := 2) rfl (by rw [ei_8]; rfl) (by decide) rfl (fun ls hl => ?_)
              refine lv_goto (tgt := 10) hx hb d_Mo_check_54 (by decide) ?_
              rw [nI_1] at ei_8
              subst ei_8
              exact ih (i + 1) d0 _ _ _ (by omega) (by omega) (⟨by rw [← hI.1, sumN_step hlt, moCkR]; have := hIb.1; rw [cntF_end hgeb] at this; omega, by omega⟩) hV hS (lv_sub hl [1, 2, 0] rfl)
            · have hltb : ib < 140 := nI_nle' (a := 140) (b := ib) c_7 (by decide) (by omega)
              refine lv_iload_n hx hb d_Mo_check_28 rfl (lv_at hl 1 rfl) ?_
              refine lv_aload_n hx hb d_Mo_check_29 rfl (lv_at hl 0 rfl) ?_
              refine lv_iload_n hx hb d_Mo_check_30 rfl (lv_at hl 2 rfl) ?_
              refine lv_iload_n hx hb d_Mo_check_31 rfl (lv_at hl 3 rfl) ?_
              refine rc_i (va_runV (As := [.int (nI i), .int (nI ib)]) (rest := [.int (nI d0)]) ⟨hx, hb, hml, hown, hts⟩ (c_Mo_isPair l D N0 k V_2 mo ad (ρ.ws 0 0) hM_2 i ib (by omega) (by omega)) (cwV 2 hts (gi_V wm_Mo_242 wv_Mo_isPair ws_Mo_isPair wi_Mo wc_Mo_isPair) rfl rfl rfl (by decide +kernel) ⟨Nat.le_of_ble_eq_true rfl, Nat.le_of_ble_eq_true rfl⟩) (mP.preV hG hS hV hm_3 rfl) rfl rfl hl.1 rfl (lv_room (Nat.le_of_ble_eq_true rfl)) d_Mo_check_32 ⟨Nat.le_of_ble_eq_true rfl, Nat.le_of_ble_eq_true rfl⟩) hS (fun H locs hV hS => ?_)
              refine W.eq (g2 := F0 m 35 ls [.int (bI (moPr ρ i ib)), .int (nI d0)]) rfl ?_
              refine lv_if_eq (tgt := 42) hx hb d_Mo_check_35 (by decide) (fun c_9 => ?_) (fun c_9 => ?_)
              · refine lv_iconst (v := 0) hx hb d_Mo_check_42 (by decide) ?_
                refine lv_iadd hx hb d_Mo_check_43 ?_
                refine lv_istore_n (lv' := [(1, .int ((nI d0) + 0)), (0, .ref mo), (2, .int (nI i)), (3, .int (nI ib))]) hx hb d_Mo_check_44 rfl hl (by decide) rfl (fun ls hl => ?_)
                obtain ⟨i_10, ei_10⟩ : ∃ y : Int32, y = (nI ib) + 1 := ⟨_, rfl⟩
                refine lv_iinc (v := i_10) (lv' := [(3, .int i_10), (1, .int ((nI d0) + 0)), (0, .ref mo), (2, .int (nI i))]) hx hb d_Mo_check_45 hl (k := 3) rfl (by rw [ei_10]; rfl) (by decide) rfl (fun ls hl => ?_)
                refine lv_goto (tgt := 21) hx hb d_Mo_check_48 (by decide) ?_
                rw [nI_1] at ei_10
                subst ei_10
                try simp only [bI_ne0, bI_eq0, decide_eq_true_eq, decide_eq_false_iff_not, Bool.not_eq_false, Bool.not_eq_true, Decidable.not_not] at c_5
                try simp only [bI_ne0, bI_eq0, decide_eq_true_eq, decide_eq_false_iff_not, Bool.not_eq_false, Bool.not_eq_true, Decidable.not_not] at c_7
                try simp only [bI_ne0, bI_eq0, decide_eq_true_eq, decide_eq_false_iff_not, Bool.not_eq_false, Bool.not_eq_true, Decidable.not_not] at c_9
                rw [show nI d0 + 0 = nI d0 from Int32.add_zero _] at hl
                exact ihb (ib + 1) d0 _ _ _ (by omega) (by omega) (⟨by rw [← hIb.1, cntF_step hltb, c_9]; simp, by omega⟩) hV hS (lv_sub hl [2, 1, 3, 0] rfl)
              · refine lv_iconst (v := 1) hx hb d_Mo_check_38 (by decide) ?_
                refine lv_goto (tgt := 43) hx hb d_Mo_check_39 (by decide) ?_
                refine lv_iadd hx hb d_Mo_check_43 ?_
                refine lv_istore_n (lv' := [(1, .int ((nI d0) + 1)), (0, .ref mo), (2, .int (nI i)), (3, .int (nI ib))]) hx hb d_Mo_check_44 rfl hl (by decide) rfl (fun ls hl => ?_)
                obtain ⟨i_11, ei_11⟩ : ∃ y : Int32, y = (nI ib) + 1 := ⟨_, rfl⟩
                refine lv_iinc (v := i_11) (lv' := [(3, .int i_11), (1, .int ((nI d0) + 1)), (0, .ref mo), (2, .int (nI i))]) hx hb d_Mo_check_45 hl (k := 3) rfl (by rw [ei_11]; rfl) (by decide) rfl (fun ls hl => ?_)
                refine lv_goto (tgt := 21) hx hb d_Mo_check_48 (by decide) ?_
                rw [nI_1] at ei_11
                subst ei_11
                try simp only [bI_ne0, bI_eq0, decide_eq_true_eq, decide_eq_false_iff_not, Bool.not_eq_false, Bool.not_eq_true, Decidable.not_not] at c_5
                try simp only [bI_ne0, bI_eq0, decide_eq_true_eq, decide_eq_false_iff_not, Bool.not_eq_false, Bool.not_eq_true, Decidable.not_not] at c_7
                try simp only [bI_ne0, bI_eq0, decide_eq_true_eq, decide_eq_false_iff_not, Bool.not_eq_false, Bool.not_eq_true, Decidable.not_not] at c_9
                rw [nI_1] at hl
                exact ihb (ib + 1) (d0 + 1) _ _ _ (by omega) (by omega) (⟨by rw [← hIb.1, cntF_step hltb, c_9]; simp; omega, by omega⟩) hV hS (lv_sub hl [2, 1, 3, 0] rfl)
        exact loop_6 (140 + 1 - (i + 1)) (i + 1) c0 _ _ _ (by omega) (by omega) (⟨rfl, by omega⟩) hV hS (lv_sub hl [1, 2, 3, 0] rfl)
  exact loop_4 (140 + 1 - 20) 20 0 _ _ _ (by omega) (by omega) (⟨Nat.zero_add _, by omega⟩) hV hS (lv_sub hl [2, 1, 0] rfl)
set_option maxHeartbeats 4000000 in
set_option maxRecDepth 100000 in
/-- end -/
theorem c_Mo_end (l : Launch) (D : va_G) (N0 : Nat) (k : Nat → Nat) (V : HV) (mo : Nat) (ad : Nat → Nat) (ρ : MS) (hM : mdOk k V mo ad ρ) (h kp : Int32) (hGm : moG ρ) (hz16 : ∀ q, ρ.I 16 q = 0 ∨ ρ.I 16 q = 1) : Met l y_Mo_end (.code y_Mo_end b_Mo_end 6 (some .int) :: WS) ({ frames := 3, cells := 0, slots := 0, locals := 66 }) (mP D N0 k [.ref mo, .int h, .int kp] V) (va_Qi (fun r V' => mdOk k V' mo ad (moEnd ρ h kp).2 ∧ mdFr mo ad V V' ∧ r = (moEnd ρ h kp).1) (mB D N0) (hA N0)) 0 0 (hA N0) := by
  refine Met.ofW (cc := b_Mo_end) (maxL := 6) (ret := (some .int)) (by decide) rfl ?_
  intro p e s m args below meth c s₁ B hml hv0
  obtain ⟨rfl, hG, hV⟩ := hv0
  have hx := B.exec
  have hb := B.bytes
  have hr := B.returns
  have hts := atoms_spec (ws := .code y_Mo_end b_Mo_end 6 (some .int) :: WS) B.pre
  have hW : ∀ w ∈ WS, w.before _ s = true := fun w h => hts w (List.mem_cons_of_mem _ h)
  have hown : s.vm.findClass "BoardHouseModel" = some m.cls := findClass_of_methodNamed B.named
  have hlocks := B.notSynchronized
  have hS : va_S (hA N0) s.heap s.heap [] := va_S.rf
  have hl := lv_entry ([.ref mo, .int h, .int kp]) (n := 6) (Nat.le_of_ble_eq_true rfl)
  rw [lg_entry_eq]
  generalize (lg_sl ([.ref mo, .int h, .int kp]) ++ List.replicate (6 - (lg_sl ([.ref mo, .int h, .int kp])).length) Slot.unset).toArray = ls at hl ⊢
  have hl : lv_has ls 6 [(0, .ref mo), (1, .int h), (2, .int kp)] := hl
  have hm_1 : V mo = some (.inr (7, [.int (ρ.s 0), .int (ρ.s 1), .int (ρ.s 2), .int (ρ.s 3), .ref (ad 0), .ref (ad 1), .ref (ad 2), .ref (ad 3), .ref (ad 4), .ref (ad 5), .ref (ad 6), .ref (ad 7), .ref (ad 8), .int (ρ.s 4), .ref (ad 9), .ref (ad 10), .ref (ad 11), .ref (ad 12), .ref (ad 13), .ref (ad 14), .ref (ad 15), .ref (ad 16), .ref (ad 17), .ref (ad 18), .ref (ad 19), .ref (ad 20), .ref (ad 21), .ref (ad 22), .ref (ad 23), .ref (ad 24), .ref (ad 25)])) := hM.1
  have hm_1_1 : V (ad 1) = some (eZ k 150 (ρ.I 1)) := hM.a1
  have hm_1_2 : V (ad 2) = some (eI k 150 (ρ.I 2)) := hM.a2
  have hm_1_3 : V (ad 3) = some (eI k 150 (ρ.I 3)) := hM.a3
  have hm_1_9 : V (ad 9) = some (eZ k 10 (ρ.I 9)) := hM.a9
  have hm_1_14 : V (ad 14) = some (eI k 10 (ρ.I 14)) := hM.a14
  have hm_1_15 : V (ad 15) = some (eZ k 1500 (ρ.I 15)) := hM.a15
  have hm_1_16 : V (ad 16) = some (eZ k 1500 (ρ.I 16)) := hM.a16
  have hm_1_17 : V (ad 17) = some (eI k 1500 (ρ.I 17)) := hM.a17
  have hm_1_18 : V (ad 18) = some (eI k 1500 (ρ.I 18)) := hM.a18
  refine lv_aload_n hx hb d_Mo_end_0 rfl (lv_at hl 0 rfl) ?_
  refine lv_aload_n hx hb d_Mo_end_1 rfl (lv_at hl 0 rfl) ?_
  refine lv_iload_n hx hb d_Mo_end_2 rfl (lv_at hl 1 rfl) ?_
  refine rc_i (va_runV (As := [.int h]) (rest := [.ref mo]) ⟨hx, hb, hml, hown, hts⟩ (c_Mo_actFault l D N0 k V mo ad ρ hM h hGm) (cwV 1 hts (gi_V wm_Mo_245 wv_Mo_actFault ws_Mo_actFault wi_Mo wc_Mo_actFault) rfl rfl rfl (by decide +kernel) ⟨Nat.le_of_ble_eq_true rfl, Nat.le_of_ble_eq_true rfl⟩) (mP.preV hG hS hV hm_1 rfl) rfl rfl hl.1 rfl (lv_room (Nat.le_of_ble_eq_true rfl)) d_Mo_end_3 ⟨Nat.le_of_ble_eq_true rfl, Nat.le_of_ble_eq_true rfl⟩) hS (fun H locs hV hS => ?_)
  refine W.eq (g2 := F0 m 6 ls [.int (moAF ρ h), .ref mo]) rfl ?_
  refine lv_topi (fun f_2 ef_2 => ?_)
  refine pf_Mo_100 hx hb hW hown hG hV hS hm_1 d_Mo_end_6 (fun H locs hV hS => ?_)
  replace hV : hv D vwCl N0 (hu V mo (.inr (7, [.int f_2, .int (ρ.s 1), .int (ρ.s 2), .int (ρ.s 3), .ref (ad 0), .ref (ad 1), .ref (ad 2), .ref (ad 3), .ref (ad 4), .ref (ad 5), .ref (ad 6), .ref (ad 7), .ref (ad 8), .int (ρ.s 4), .ref (ad 9), .ref (ad 10), .ref (ad 11), .ref (ad 12), .ref (ad 13), .ref (ad 14), .ref (ad 15), .ref (ad 16), .ref (ad 17), .ref (ad 18), .ref (ad 19), .ref (ad 20), .ref (ad 21), .ref (ad 22), .ref (ad 23), .ref (ad 24), .ref (ad 25)]))) H := hV
  generalize hV_V_3 : hu V mo (.inr (7, [.int f_2, .int (ρ.s 1), .int (ρ.s 2), .int (ρ.s 3), .ref (ad 0), .ref (ad 1), .ref (ad 2), .ref (ad 3), .ref (ad 4), .ref (ad 5), .ref (ad 6), .ref (ad 7), .ref (ad 8), .int (ρ.s 4), .ref (ad 9), .ref (ad 10), .ref (ad 11), .ref (ad 12), .ref (ad 13), .ref (ad 14), .ref (ad 15), .ref (ad 16), .ref (ad 17), .ref (ad 18), .ref (ad 19), .ref (ad 20), .ref (ad 21), .ref (ad 22), .ref (ad 23), .ref (ad 24), .ref (ad 25)])) = V_3 at hV
  have hM_3 : mdOk k V_3 mo ad (ρ.ws 0 f_2) := by rw [← hV_V_3]; exact md_put hM 0 f_2
  have hR_3 : mdFr mo ad V V_3 := by rw [← hV_V_3]; exact (mdFr.rf (mo := mo) (ad := ad) (V := V)).m
  have hm_4 : V_3 mo = some (.inr (7, [.int f_2, .int (ρ.s 1), .int (ρ.s 2), .int (ρ.s 3), .ref (ad 0), .ref (ad 1), .ref (ad 2), .ref (ad 3), .ref (ad 4), .ref (ad 5), .ref (ad 6), .ref (ad 7), .ref (ad 8), .int (ρ.s 4), .ref (ad 9), .ref (ad 10), .ref (ad 11), .ref (ad 12), .ref (ad 13), .ref (ad 14), .ref (ad 15), .ref (ad 16), .ref (ad 17), .ref (ad 18), .ref (ad 19), .ref (ad 20), .ref (ad 21), .ref (ad 22), .ref (ad 23), .ref (ad 24), .ref (ad 25)])) := hM_3.1
  have hm_4_1 : V_3 (ad 1) = some (eZ k 150 (ρ.I 1)) := hM_3.a1
  have hm_4_2 : V_3 (ad 2) = some (eI k 150 (ρ.I 2)) := hM_3.a2
  have hm_4_3 : V_3 (ad 3) = some (eI k 150 (ρ.I 3)) := hM_3.a3
  have hm_4_9 : V_3 (ad 9) = some (eZ k 10 (ρ.I 9)) := hM_3.a9
  have hm_4_14 : V_3 (ad 14) = some (eI k 10 (ρ.I 14)) := hM_3.a14
  have hm_4_15 : V_3 (ad 15) = some (eZ k 1500 (ρ.I 15)) := hM_3.a15
  have hm_4_16 : V_3 (ad 16) = some (eZ k 1500 (ρ.I 16)) := hM_3.a16
  have hm_4_17 : V_3 (ad 17) = some (eI k 1500 (ρ.I 17)) := hM_3.a17
  have hm_4_18 : V_3 (ad 18) = some (eI k 1500 (ρ.I 18)) := hM_3.a18
  refine lv_aload_n hx hb d_Mo_end_9 rfl (lv_at hl 0 rfl) ?_
  refine gf_Mo_100 hx hb hW hown hG hV hm_4 d_Mo_end_10 ?_
  refine lv_if_eq (tgt := 18) hx hb d_Mo_end_13 (by decide) (fun c_5 => ?_) (fun c_5 => ?_)
  · refine lv_iload_n hx hb d_Mo_end_18 rfl (lv_at hl 1 rfl) ?_
    refine lv_sipush (v := 1000) hx hb d_Mo_end_19 (by decide) ?_
    refine lv_irem hx hb d_Mo_end_22 (by decide) ?_
    refine lv_istore_n (lv' := [(3, .int (h - h / 1000 * 1000)), (0, .ref mo), (1, .int h), (2, .int kp)]) hx hb d_Mo_end_23 rfl hl (by decide) rfl (fun ls hl => ?_)
    obtain ⟨g0a, k0a⟩ := moFault0 (moAF0 (ef_2.symm.trans c_5))
    obtain ⟨-, eN, -, -, hlt9⟩ := mg_of hGm g0a
    have hKh : hdK h = 6 := hdK_of (by decide) k0a
    have hp9 : hdN h < 10 := by rw [hKh] at hlt9; exact Nat.lt_of_lt_of_le hlt9 (mN_of hGm (by omega) (by omega)).2
    rw [eN] at hl
    refine lv_aload_n hx hb d_Mo_end_24 rfl (lv_at hl 1 rfl) ?_
    refine gf_Mo_42 hx hb hW hown hG hV hm_4 d_Mo_end_25 ?_
    refine lv_iload_n hx hb d_Mo_end_28 rfl (lv_at hl 0 rfl) ?_
    refine lv_iconst (v := 0) hx hb d_Mo_end_29 (by decide) ?_
    refine hv_zast hx hb hG.K hV hS 2 hm_4_9 rfl (by decide) (vp_in_nI (by omega) (by omega)) d_Mo_end_30 (fun H locs hV hS => ?_)
    rw [nI_clamp (by omega)] at hV
    replace hV : hv D vwCl N0 (hu V_3 (ad 9) (eZ k 10 (upd (ρ.I 9) (hdN h) 0))) H := hV
    generalize hV_V_6 : hu V_3 (ad 9) (eZ k 10 (upd (ρ.I 9) (hdN h) 0)) = V_6 at hV
    have hM_6 : mdOk k V_6 mo ad ((ρ.ws 0 f_2).wI 9 (upd (ρ.I 9) (hdN h) 0)) := by rw [← hV_V_6]; exact md_set hM_3 9 (by omega) (upd (ρ.I 9) (hdN h) 0)
    have hR_6 : mdFr mo ad V V_6 := by rw [← hV_V_6]; exact hR_3.ar (j := 9) (by omega)
    have hm_7 : V_6 mo = some (.inr (7, [.int f_2, .int (ρ.s 1), .int (ρ.s 2), .int (ρ.s 3), .ref (ad 0), .ref (ad 1), .ref (ad 2), .ref (ad 3), .ref (ad 4), .ref (ad 5), .ref (ad 6), .ref (ad 7), .ref (ad 8), .int (ρ.s 4), .ref (ad 9), .ref (ad 10), .ref (ad 11), .ref (ad 12), .ref (ad 13), .ref (ad 14), .ref (ad 15), .ref (ad 16), .ref (ad 17), .ref (ad 18), .ref (ad 19), .ref (ad 20), .ref (ad 21), .ref (ad 22), .ref (ad 23), .ref (ad 24), .ref (ad 25)])) := hM_6.1
    have hm_7_1 : V_6 (ad 1) = some (eZ k 150 (ρ.I 1)) := hM_6.a1
    have hm_7_2 : V_6 (ad 2) = some (eI k 150 (ρ.I 2)) := hM_6.a2
    have hm_7_3 : V_6 (ad 3) = some (eI k 150 (ρ.I 3)) := hM_6.a3
    have hm_7_9 : V_6 (ad 9) = some (eZ k 10 (upd (ρ.I 9) (hdN h) 0)) := hM_6.a9
    have hm_7_14 : V_6 (ad 14) = some (eI k 10 (ρ.I 14)) := hM_6.a14
    have hm_7_15 : V_6 (ad 15) = some (eZ k 1500 (ρ.I 15)) := hM_6.a15
    have hm_7_16 : V_6 (ad 16) = some (eZ k 1500 (ρ.I 16)) := hM_6.a16
    have hm_7_17 : V_6 (ad 17) = some (eI k 1500 (ρ.I 17)) := hM_6.a17
    have hm_7_18 : V_6 (ad 18) = some (eI k 1500 (ρ.I 18)) := hM_6.a18
    refine lv_aload_n hx hb d_Mo_end_31 rfl (lv_at hl 1 rfl) ?_
    refine lv_aload_n hx hb d_Mo_end_32 rfl (lv_at hl 1 rfl) ?_
    refine gf_Mo_38 hx hb hW hown hG hV hm_7 d_Mo_end_33 ?_
    refine lv_iload_n hx hb d_Mo_end_36 rfl (lv_at hl 0 rfl) ?_
    refine lv_icmp_ne (tgt := 44) hx hb d_Mo_end_37 (by decide) (fun c_8 => ?_) (fun c_8 => ?_)
    · refine lv_aload_n hx hb d_Mo_end_44 rfl (lv_at hl 1 rfl) ?_
      refine gf_Mo_38 hx hb hW hown hG hV hm_7 d_Mo_end_45 ?_
      refine pf_Mo_38 hx hb hW hown hG hV hS hm_7 d_Mo_end_48 (fun H locs hV hS => ?_)
      replace hV : hv D vwCl N0 (hu V_6 mo (.inr (7, [.int f_2, .int (ρ.s 1), .int (ρ.s 2), .int (ρ.s 3), .ref (ad 0), .ref (ad 1), .ref (ad 2), .ref (ad 3), .ref (ad 4), .ref (ad 5), .ref (ad 6), .ref (ad 7), .ref (ad 8), .int (ρ.s 4), .ref (ad 9), .ref (ad 10), .ref (ad 11), .ref (ad 12), .ref (ad 13), .ref (ad 14), .ref (ad 15), .ref (ad 16), .ref (ad 17), .ref (ad 18), .ref (ad 19), .ref (ad 20), .ref (ad 21), .ref (ad 22), .ref (ad 23), .ref (ad 24), .ref (ad 25)]))) H := hV
      generalize hV_V_9 : hu V_6 mo (.inr (7, [.int f_2, .int (ρ.s 1), .int (ρ.s 2), .int (ρ.s 3), .ref (ad 0), .ref (ad 1), .ref (ad 2), .ref (ad 3), .ref (ad 4), .ref (ad 5), .ref (ad 6), .ref (ad 7), .ref (ad 8), .int (ρ.s 4), .ref (ad 9), .ref (ad 10), .ref (ad 11), .ref (ad 12), .ref (ad 13), .ref (ad 14), .ref (ad 15), .ref (ad 16), .ref (ad 17), .ref (ad 18), .ref (ad 19), .ref (ad 20), .ref (ad 21), .ref (ad 22), .ref (ad 23), .ref (ad 24), .ref (ad 25)])) = V_9 at hV
      have hM_9 : mdOk k V_9 mo ad (((ρ.ws 0 f_2).wI 9 (upd (ρ.I 9) (hdN h) 0)).ws 4 (ρ.s 4)) := by rw [← hV_V_9]; exact md_put hM_6 4 (ρ.s 4)
      have hR_9 : mdFr mo ad V V_9 := by rw [← hV_V_9]; exact hR_6.m
      have hm_10 : V_9 mo = some (.inr (7, [.int f_2, .int (ρ.s 1), .int (ρ.s 2), .int (ρ.s 3), .ref (ad 0), .ref (ad 1), .ref (ad 2), .ref (ad 3), .ref (ad 4), .ref (ad 5), .ref (ad 6), .ref (ad 7), .ref (ad 8), .int (ρ.s 4), .ref (ad 9), .ref (ad 10), .ref (ad 11), .ref (ad 12), .ref (ad 13), .ref (ad 14), .ref (ad 15), .ref (ad 16), .ref (ad 17), .ref (ad 18), .ref (ad 19), .ref (ad 20), .ref (ad 21), .ref (ad 22), .ref (ad 23), .ref (ad 24), .ref (ad 25)])) := hM_9.1
      have hm_10_1 : V_9 (ad 1) = some (eZ k 150 (ρ.I 1)) := hM_9.a1
      have hm_10_2 : V_9 (ad 2) = some (eI k 150 (ρ.I 2)) := hM_9.a2
      have hm_10_3 : V_9 (ad 3) = some (eI k 150 (ρ.I 3)) := hM_9.a3
      have hm_10_9 : V_9 (ad 9) = some (eZ k 10 (upd (ρ.I 9) (hdN h) 0)) := hM_9.a9
      have hm_10_14 : V_9 (ad 14) = some (eI k 10 (ρ.I 14)) := hM_9.a14
      have hm_10_15 : V_9 (ad 15) = some (eZ k 1500 (ρ.I 15)) := hM_9.a15
      have hm_10_16 : V_9 (ad 16) = some (eZ k 1500 (ρ.I 16)) := hM_9.a16
      have hm_10_17 : V_9 (ad 17) = some (eI k 1500 (ρ.I 17)) := hM_9.a17
      have hm_10_18 : V_9 (ad 18) = some (eI k 1500 (ρ.I 18)) := hM_9.a18
      refine lv_iconst (v := 0) hx hb d_Mo_end_51 (by decide) ?_
      refine lv_istore (lv' := [(4, .int 0), (3, .int (nI (hdN h))), (0, .ref mo), (1, .int h), (2, .int kp)]) hx hb d_Mo_end_52 hl (by decide) rfl (fun ls hl => ?_)
      have hMe : mdOk k V_9 mo ad (moEnS ρ f_2 h) := by rw [moEnS, if_neg c_8]; exact hM_9
      obtain ⟨ρe, eρe⟩ : ∃ z, z = moEnS ρ f_2 h := ⟨_, rfl⟩
      rw [← eρe] at hMe
      have hRe := hR_9
      have hm_11 : V_9 mo = some (.inr (7, [.int (ρe.s 0), .int (ρe.s 1), .int (ρe.s 2), .int (ρe.s 3), .ref (ad 0), .ref (ad 1), .ref (ad 2), .ref (ad 3), .ref (ad 4), .ref (ad 5), .ref (ad 6), .ref (ad 7), .ref (ad 8), .int (ρe.s 4), .ref (ad 9), .ref (ad 10), .ref (ad 11), .ref (ad 12), .ref (ad 13), .ref (ad 14), .ref (ad 15), .ref (ad 16), .ref (ad 17), .ref (ad 18), .ref (ad 19), .ref (ad 20), .ref (ad 21), .ref (ad 22), .ref (ad 23), .ref (ad 24), .ref (ad 25)])) := hMe.1
      have hm_11_1 : V_9 (ad 1) = some (eZ k 150 (ρe.I 1)) := hMe.a1
      have hm_11_2 : V_9 (ad 2) = some (eI k 150 (ρe.I 2)) := hMe.a2
      have hm_11_3 : V_9 (ad 3) = some (eI k 150 (ρe.I 3)) := hMe.a3
      have hm_11_9 : V_9 (ad 9) = some (eZ k 10 (ρe.I 9)) := hMe.a9
      have hm_11_14 : V_9 (ad 14) = some (eI k 10 (ρe.I 14)) := hMe.a14
      have hm_11_15 : V_9 (ad 15) = some (eZ k 1500 (ρe.I 15)) := hMe.a15
      have hm_11_16 : V_9 (ad 16) = some (eZ k 1500 (ρe.I 16)) := hMe.a16
      have hm_11_17 : V_9 (ad 17) = some (eI k 1500 (ρe.I 17)) := hMe.a17
      have hm_11_18 : V_9 (ad 18) = some (eI k 1500 (ρe.I 18)) := hMe.a18
      by_cases hkp : kp = 0
      · have loop_12 : ∀ (n i : Nat) (V1 : HV)  (H : Heap) (locs : List Loc) (ls : Array Slot), i ≤ 150 → 150 + 1 ≤ i + n → (mdOk k V1 mo ad (moEdL ρe (hdN h) i) ∧ mdFr mo ad V V1) → hv D vwCl N0 V1 H → va_S (hA N0) s.heap H locs → lv_has ls 6 [(0, .ref mo), (1, .int h), (2, .int kp), (3, .int (nI (hdN h))), (4, .int (nI i))] → W p l e (headSpec (.code y_Mo_end b_Mo_end 6 (some .int) :: WS) ({ frames := 3, cells := 0, slots := 0, locals := 66 })).room s m #[.ref mo, .int h, .int kp] below meth c H locs 0 0 (MQ below (va_Qi (fun r V' => mdOk k V' mo ad (moEnd ρ h kp).2 ∧ mdFr mo ad V V' ∧ r = (moEnd ρ h kp).1) (mB D N0) (hA N0)) #[.ref mo, .int h, .int kp] s 0 0 (hA N0)) (F0 m 54 ls []) := by
          intro n
          induction n with
          | zero => intro i V1  H locs ls h1 h2; exact absurd h2 (by omega)
          | succ n ih =>
            intro i V1  H locs ls hi hin hI hV hS hl
            obtain ⟨hM1, hR1⟩ := hI
            obtain ⟨ρl, eρl⟩ : ∃ z, z = moEdL ρe (hdN h) i := ⟨_, rfl⟩
            rw [← eρl] at hM1
            have hz9 : ∀ q, ρl.I 16 q = 0 ∨ ρl.I 16 q = 1 := by rw [eρl, edL_I (by omega), eρe]; exact hz16
            have hm_13 : V1 mo = some (.inr (7, [.int (ρl.s 0), .int (ρl.s 1), .int (ρl.s 2), .int (ρl.s 3), .ref (ad 0), .ref (ad 1), .ref (ad 2), .ref (ad 3), .ref (ad 4), .ref (ad 5), .ref (ad 6), .ref (ad 7), .ref (ad 8), .int (ρl.s 4), .ref (ad 9), .ref (ad 10), .ref (ad 11), .ref (ad 12), .ref (ad 13), .ref (ad 14), .ref (ad 15), .ref (ad 16), .ref (ad 17), .ref (ad 18), .ref (ad 19), .ref (ad 20), .ref (ad 21), .ref (ad 22), .ref (ad 23), .ref (ad 24), .ref (ad 25)])) := hM1.1
            have hm_13_1 : V1 (ad 1) = some (eZ k 150 (ρl.I 1)) := hM1.a1
            have hm_13_2 : V1 (ad 2) = some (eI k 150 (ρl.I 2)) := hM1.a2
            have hm_13_3 : V1 (ad 3) = some (eI k 150 (ρl.I 3)) := hM1.a3
            have hm_13_9 : V1 (ad 9) = some (eZ k 10 (ρl.I 9)) := hM1.a9
            have hm_13_14 : V1 (ad 14) = some (eI k 10 (ρl.I 14)) := hM1.a14
            have hm_13_15 : V1 (ad 15) = some (eZ k 1500 (ρl.I 15)) := hM1.a15
            have hm_13_16 : V1 (ad 16) = some (eZ k 1500 (ρl.I 16)) := hM1.a16
            have hm_13_17 : V1 (ad 17) = some (eI k 1500 (ρl.I 17)) := hM1.a17
            have hm_13_18 : V1 (ad 18) = some (eI k 1500 (ρl.I 18)) := hM1.a18
            refine lv_iload hx hb d_Mo_end_54 (lv_at hl 4 rfl) ?_
            refine lv_sipush (v := 150) hx hb d_Mo_end_56 (by decide) ?_
            refine lv_icmp_ge (tgt := 137) hx hb d_Mo_end_59 (by decide) (fun c_14 => ?_) (fun c_14 => ?_)
            · have hge : 150 ≤ i := nI_le' c_14 (by omega) (by omega)
              refine lv_aload_n hx hb d_Mo_end_137 rfl (lv_at hl 0 rfl) ?_
              refine gf_Mo_57 hx hb hW hown hG hV hm_13 d_Mo_end_138 ?_
              refine lv_iload_n hx hb d_Mo_end_141 rfl (lv_at hl 3 rfl) ?_
              refine hv_iald hx hb hG.K hV 0 hm_13_14 rfl (vp_in_nI (by omega) (by omega)) d_Mo_end_142 ?_
              rw [nI_clamp (by omega)]
              have hf0 : moAF ρ h = 0 := ef_2.symm.trans c_5
              have hi9 : i = 150 := by omega
              have hv9 : ρl.I 14 (hdN h) = ρ.I 14 (hdN h) := by rw [eρl, edL_I (by omega), eρe]; rfl
              have hM9 := hM1
              rw [eρl, hi9] at hM9
              have hfin : moEnd ρ h kp = (ρl.I 14 (hdN h), moEdL ρe (hdN h) 150) := by rw [hv9, eρe, moEnd, if_pos hf0, if_pos hkp, ef_2]
              generalize moEdL ρe (hdN h) 150 = zz at hM9 hfin
              exact W.iret (v := ((ρl.I 14) (hdN h))) hx hb hr (fun t9 ht hW => ⟨⟨((ρl.I 14) (hdN h)), V1, rfl, ⟨by rw [hfin]; exact hM9, hR1, by rw [hfin]⟩, mB_of ht hV⟩, hS.F ht⟩) hS.2.2 d_Mo_end_143
            · have hlt : i < 150 := nI_nle' c_14 (by omega) (by omega)
              refine lv_iload_n hx hb d_Mo_end_62 rfl (lv_at hl 2 rfl) ?_
              refine lv_if_ne (tgt := 137) hx hb d_Mo_end_63 (by decide) (fun c_15 => ?_) (fun c_15 => ?_)
              · exact absurd hkp c_15
              · refine lv_sipush (v := 150) hx hb d_Mo_end_66 (by decide) ?_
                refine lv_iload_n hx hb d_Mo_end_69 rfl (lv_at hl 3 rfl) ?_
                refine lv_imul hx hb d_Mo_end_70 ?_
                refine lv_iload hx hb d_Mo_end_71 (lv_at hl 4 rfl) ?_
                refine lv_iadd hx hb d_Mo_end_73 ?_
                have hk9 : (150 : Int32) * nI (hdN h) + nI i = nI (150 * hdN h + i) := by rw [show (150 : Int32) = nI 150 from rfl, nI_mulN, nI_add]
                rw [hk9]
                refine W.eq (g2 := F0 m 74 ls [.int (nI (150 * hdN h + i))]) rfl ?_
                refine lv_istore (lv' := [(5, .int (nI (150 * hdN h + i))), (0, .ref mo), (1, .int h), (2, .int kp), (3, .int (nI (hdN h))), (4, .int (nI i))]) hx hb d_Mo_end_74 hl (by decide) rfl (fun ls hl => ?_)
                refine lv_aload_n hx hb d_Mo_end_76 rfl (lv_at hl 1 rfl) ?_
                refine gf_Mo_60 hx hb hW hown hG hV hm_13 d_Mo_end_77 ?_
                refine lv_iload hx hb d_Mo_end_80 (lv_at hl 0 rfl) ?_
                refine hv_zald hx hb hG.K hV 2 hm_13_15 rfl (vp_in_nI (by omega) (by omega)) d_Mo_end_82 ?_
                rw [nI_clamp (by omega)]
                refine lv_if_ne (tgt := 89) hx hb d_Mo_end_83 (by decide) (fun c_16 => ?_) (fun c_16 => ?_)
                · refine lv_aload_n hx hb d_Mo_end_89 rfl (lv_at hl 1 rfl) ?_
                  refine gf_Mo_13 hx hb hW hown hG hV hm_13 d_Mo_end_90 ?_
                  refine lv_iload hx hb d_Mo_end_93 (lv_at hl 5 rfl) ?_
                  refine lv_aload_n hx hb d_Mo_end_95 rfl (lv_at hl 1 rfl) ?_
                  refine gf_Mo_63 hx hb hW hown hG hV hm_13 d_Mo_end_96 ?_
                  refine lv_iload hx hb d_Mo_end_99 (lv_at hl 0 rfl) ?_
                  refine hv_zald hx hb hG.K hV 2 hm_13_16 rfl (vp_in_nI (by omega) (by omega)) d_Mo_end_101 ?_
                  rw [nI_clamp (by omega)]
                  refine hv_zast hx hb hG.K hV hS 2 hm_13_1 rfl (hz9 _) (vp_in_nI (by omega) (by omega)) d_Mo_end_102 (fun H locs hV hS => ?_)
                  rw [nI_clamp (by omega)] at hV
                  replace hV : hv D vwCl N0 (hu V1 (ad 1) (eZ k 150 (upd (ρl.I 1) i ((ρl.I 16) (150 * hdN h + i))))) H := hV
                  generalize hV_V_17 : hu V1 (ad 1) (eZ k 150 (upd (ρl.I 1) i ((ρl.I 16) (150 * hdN h + i)))) = V_17 at hV
                  have hM_17 : mdOk k V_17 mo ad (ρl.wI 1 (upd (ρl.I 1) i ((ρl.I 16) (150 * hdN h + i)))) := by rw [← hV_V_17]; exact md_set hM1 1 (by omega) (upd (ρl.I 1) i ((ρl.I 16) (150 * hdN h + i)))
                  have hR_17 : mdFr mo ad V V_17 := by rw [← hV_V_17]; exact hR1.ar (j := 1) (by omega)
                  have hm_18 : V_17 mo = some (.inr (7, [.int (ρl.s 0), .int (ρl.s 1), .int (ρl.s 2), .int (ρl.s 3), .ref (ad 0), .ref (ad 1), .ref (ad 2), .ref (ad 3), .ref (ad 4), .ref (ad 5), .ref (ad 6), .ref (ad 7), .ref (ad 8), .int (ρl.s 4), .ref (ad 9), .ref (ad 10), .ref (ad 11), .ref (ad 12), .ref (ad 13), .ref (ad 14), .ref (ad 15), .ref (ad 16), .ref (ad 17), .ref (ad 18), .ref (ad 19), .ref (ad 20), .ref (ad 21), .ref (ad 22), .ref (ad 23), .ref (ad 24), .ref (ad 25)])) := hM_17.1
                  have hm_18_1 : V_17 (ad 1) = some (eZ k 150 (upd (ρl.I 1) i ((ρl.I 16) (150 * hdN h + i)))) := hM_17.a1
                  have hm_18_2 : V_17 (ad 2) = some (eI k 150 (ρl.I 2)) := hM_17.a2
                  have hm_18_3 : V_17 (ad 3) = some (eI k 150 (ρl.I 3)) := hM_17.a3
                  have hm_18_9 : V_17 (ad 9) = some (eZ k 10 (ρl.I 9)) := hM_17.a9
                  have hm_18_14 : V_17 (ad 14) = some (eI k 10 (ρl.I 14)) := hM_17.a14
                  have hm_18_15 : V_17 (ad 15) = some (eZ k 1500 (ρl.I 15)) := hM_17.a15
                  have hm_18_16 : V_17 (ad 16) = some (eZ k 1500 (ρl.I 16)) := hM_17.a16
                  have hm_18_17 : V_17 (ad 17) = some (eI k 1500 (ρl.I 17)) := hM_17.a17
                  have hm_18_18 : V_17 (ad 18) = some (eI k 1500 (ρl.I 18)) := hM_17.a18
                  refine lv_aload_n hx hb d_Mo_end_103 rfl (lv_at hl 1 rfl) ?_
                  refine gf_Mo_17 hx hb hW hown hG hV hm_18 d_Mo_end_104 ?_
                  refine lv_iload hx hb d_Mo_end_107 (lv_at hl 5 rfl) ?_
                  refine lv_aload_n hx hb d_Mo_end_109 rfl (lv_at hl 1 rfl) ?_
                  refine gf_Mo_66 hx hb hW hown hG hV hm_18 d_Mo_end_110 ?_
                  refine lv_iload hx hb d_Mo_end_113 (lv_at hl 0 rfl) ?_
                  refine hv_iald hx hb hG.K hV 0 hm_18_17 rfl (vp_in_nI (by omega) (by omega)) d_Mo_end_115 ?_
                  rw [nI_clamp (by omega)]
                  refine hv_iast hx hb hG.K hV hS 0 hm_18_2 rfl (vp_in_nI (by omega) (by omega)) d_Mo_end_116 (fun H locs hV hS => ?_)
                  rw [nI_clamp (by omega)] at hV
                  replace hV : hv D vwCl N0 (hu V_17 (ad 2) (eI k 150 (upd (ρl.I 2) i ((ρl.I 17) (150 * hdN h + i))))) H := hV
                  generalize hV_V_19 : hu V_17 (ad 2) (eI k 150 (upd (ρl.I 2) i ((ρl.I 17) (150 * hdN h + i)))) = V_19 at hV
                  have hM_19 : mdOk k V_19 mo ad ((ρl.wI 1 (upd (ρl.I 1) i ((ρl.I 16) (150 * hdN h + i)))).wI 2 (upd (ρl.I 2) i ((ρl.I 17) (150 * hdN h + i)))) := by rw [← hV_V_19]; exact md_set hM_17 2 (by omega) (upd (ρl.I 2) i ((ρl.I 17) (150 * hdN h + i)))
                  have hR_19 : mdFr mo ad V V_19 := by rw [← hV_V_19]; exact hR_17.ar (j := 2) (by omega)
                  have hm_20 : V_19 mo = some (.inr (7, [.int (ρl.s 0), .int (ρl.s 1), .int (ρl.s 2), .int (ρl.s 3), .ref (ad 0), .ref (ad 1), .ref (ad 2), .ref (ad 3), .ref (ad 4), .ref (ad 5), .ref (ad 6), .ref (ad 7), .ref (ad 8), .int (ρl.s 4), .ref (ad 9), .ref (ad 10), .ref (ad 11), .ref (ad 12), .ref (ad 13), .ref (ad 14), .ref (ad 15), .ref (ad 16), .ref (ad 17), .ref (ad 18), .ref (ad 19), .ref (ad 20), .ref (ad 21), .ref (ad 22), .ref (ad 23), .ref (ad 24), .ref (ad 25)])) := hM_19.1
                  have hm_20_1 : V_19 (ad 1) = some (eZ k 150 (upd (ρl.I 1) i ((ρl.I 16) (150 * hdN h + i)))) := hM_19.a1
                  have hm_20_2 : V_19 (ad 2) = some (eI k 150 (upd (ρl.I 2) i ((ρl.I 17) (150 * hdN h + i)))) := hM_19.a2
                  have hm_20_3 : V_19 (ad 3) = some (eI k 150 (ρl.I 3)) := hM_19.a3
                  have hm_20_9 : V_19 (ad 9) = some (eZ k 10 (ρl.I 9)) := hM_19.a9
                  have hm_20_14 : V_19 (ad 14) = some (eI k 10 (ρl.I 14)) := hM_19.a14
                  have hm_20_15 : V_19 (ad 15) = some (eZ k 1500 (ρl.I 15)) := hM_19.a15
                  have hm_20_16 : V_19 (ad 16) = some (eZ k 1500 (ρl.I 16)) := hM_19.a16
                  have hm_20_17 : V_19 (ad 17) = some (eI k 1500 (ρl.I 17)) := hM_19.a17
                  have hm_20_18 : V_19 (ad 18) = some (eI k 1500 (ρl.I 18)) := hM_19.a18
                  refine lv_aload_n hx hb d_Mo_end_117 rfl (lv_at hl 1 rfl) ?_
                  refine gf_Mo_20 hx hb hW hown hG hV hm_20 d_Mo_end_118 ?_
                  refine lv_iload hx hb d_Mo_end_121 (lv_at hl 5 rfl) ?_
                  refine lv_aload_n hx hb d_Mo_end_123 rfl (lv_at hl 1 rfl) ?_
                  refine gf_Mo_69 hx hb hW hown hG hV hm_20 d_Mo_end_124 ?_
                  refine lv_iload hx hb d_Mo_end_127 (lv_at hl 0 rfl) ?_
                  refine hv_iald hx hb hG.K hV 0 hm_20_18 rfl (vp_in_nI (by omega) (by omega)) d_Mo_end_129 ?_
                  rw [nI_clamp (by omega)]
                  refine hv_iast hx hb hG.K hV hS 0 hm_20_3 rfl (vp_in_nI (by omega) (by omega)) d_Mo_end_130 (fun H locs hV hS => ?_)
                  rw [nI_clamp (by omega)] at hV
                  replace hV : hv D vwCl N0 (hu V_19 (ad 3) (eI k 150 (upd (ρl.I 3) i ((ρl.I 18) (150 * hdN h + i))))) H := hV
                  generalize hV_V_21 : hu V_19 (ad 3) (eI k 150 (upd (ρl.I 3) i ((ρl.I 18) (150 * hdN h + i)))) = V_21 at hV
                  have hM_21 : mdOk k V_21 mo ad (((ρl.wI 1 (upd (ρl.I 1) i ((ρl.I 16) (150 * hdN h + i)))).wI 2 (upd (ρl.I 2) i ((ρl.I 17) (150 * hdN h + i)))).wI 3 (upd (ρl.I 3) i ((ρl.I 18) (150 * hdN h + i)))) := by rw [← hV_V_21]; exact md_set hM_19 3 (by omega) (upd (ρl.I 3) i ((ρl.I 18) (150 * hdN h + i)))
                  have hR_21 : mdFr mo ad V V_21 := by rw [← hV_V_21]; exact hR_19.ar (j := 3) (by omega)
                  have hm_22 : V_21 mo = some (.inr (7, [.int (ρl.s 0), .int (ρl.s 1), .int (ρl.s 2), .int (ρl.s 3), .ref (ad 0), .ref (ad 1), .ref (ad 2), .ref (ad 3), .ref (ad 4), .ref (ad 5), .ref (ad 6), .ref (ad 7), .ref (ad 8), .int (ρl.s 4), .ref (ad 9), .ref (ad 10), .ref (ad 11), .ref (ad 12), .ref (ad 13), .ref (ad 14), .ref (ad 15), .ref (ad 16), .ref (ad 17), .ref (ad 18), .ref (ad 19), .ref (ad 20), .ref (ad 21), .ref (ad 22), .ref (ad 23), .ref (ad 24), .ref (ad 25)])) := hM_21.1
                  have hm_22_1 : V_21 (ad 1) = some (eZ k 150 (upd (ρl.I 1) i ((ρl.I 16) (150 * hdN h + i)))) := hM_21.a1
                  have hm_22_2 : V_21 (ad 2) = some (eI k 150 (upd (ρl.I 2) i ((ρl.I 17) (150 * hdN h + i)))) := hM_21.a2
                  have hm_22_3 : V_21 (ad 3) = some (eI k 150 (upd (ρl.I 3) i ((ρl.I 18) (150 * hdN h + i)))) := hM_21.a3
                  have hm_22_9 : V_21 (ad 9) = some (eZ k 10 (ρl.I 9)) := hM_21.a9
                  have hm_22_14 : V_21 (ad 14) = some (eI k 10 (ρl.I 14)) := hM_21.a14
                  have hm_22_15 : V_21 (ad 15) = some (eZ k 1500 (ρl.I 15)) := hM_21.a15
                  have hm_22_16 : V_21 (ad 16) = some (eZ k 1500 (ρl.I 16)) := hM_21.a16
                  have hm_22_17 : V_21 (ad 17) = some (eI k 1500 (ρl.I 17)) := hM_21.a17
                  have hm_22_18 : V_21 (ad 18) = some (eI k 1500 (ρl.I 18)) := hM_21.a18
                  obtain ⟨i_23, ei_23⟩ : ∃ y : Int32, y = (nI i) + 1 := ⟨_, rfl⟩
                  refine lv_iinc (v := i_23) (lv' := [(4, .int i_23), (5, .int (nI (150 * hdN h + i))), (0, .ref mo), (1, .int h), (2, .int kp), (3, .int (nI (hdN h)))]) hx hb d_Mo_end_131 hl (k := 5) rfl (by rw [ei_23]; rfl) (by decide) rfl (fun ls hl => ?_)
                  refine lv_goto (tgt := 54) hx hb d_Mo_end_134 (by decide) ?_
                  rw [nI_1] at ei_23
                  subst ei_23
                  exact ih (i + 1) V_21  _ _ _ (by omega) (by omega) (⟨by rw [moEdL, if_neg (by rw [← eρl]; exact c_16), ← eρl]; exact hM_21, hR_21⟩) hV hS (lv_sub hl [2, 3, 4, 5, 0] rfl)
                · refine lv_goto (tgt := 131) hx hb d_Mo_end_86 (by decide) ?_
                  obtain ⟨i_24, ei_24⟩ : ∃ y : Int32, y = (nI i) + 1 := ⟨_, rfl⟩
                  refine lv_iinc (v := i_24) (lv' := [(4, .int i_24), (5, .int (nI (150 * hdN h + i))), (0, .ref mo), (1, .int h), (2, .int kp), (3, .int (nI (hdN h)))]) hx hb d_Mo_end_131 hl (k := 5) rfl (by rw [ei_24]; rfl) (by decide) rfl (fun ls hl => ?_)
                  refine lv_goto (tgt := 54) hx hb d_Mo_end_134 (by decide) ?_
                  rw [nI_1] at ei_24
                  subst ei_24
                  exact ih (i + 1) V1  _ _ _ (by omega) (by omega) (⟨by rw [moEdL, if_pos (by rw [← eρl]; exact c_16), ← eρl]; exact hM1, hR1⟩) hV hS (lv_sub hl [2, 3, 4, 5, 0] rfl)
        exact loop_12 (150 + 1 - 0) 0 V_9  _ _ _ (by omega) (by omega) (⟨hMe, hRe⟩) hV hS (lv_sub hl [2, 3, 4, 1, 0] rfl)
      · refine lv_iload hx hb d_Mo_end_54 (lv_at hl 0 rfl) ?_
        refine lv_sipush (v := 150) hx hb d_Mo_end_56 (by decide) ?_
        refine lv_icmp_ge (tgt := 137) hx hb d_Mo_end_59 (by decide) (fun q => absurd q (by decide)) (fun _ => ?_)
        refine lv_iload_n hx hb d_Mo_end_62 rfl (lv_at hl 4 rfl) ?_
        refine lv_if_ne (tgt := 137) hx hb d_Mo_end_63 (by decide) (fun c_25 => ?_) (fun c_25 => ?_)
        · refine lv_aload_n hx hb d_Mo_end_137 rfl (lv_at hl 2 rfl) ?_
          refine gf_Mo_57 hx hb hW hown hG hV hm_11 d_Mo_end_138 ?_
          refine lv_iload_n hx hb d_Mo_end_141 rfl (lv_at hl 1 rfl) ?_
          refine hv_iald hx hb hG.K hV 0 hm_11_14 rfl (vp_in_nI (by omega) (by omega)) d_Mo_end_142 ?_
          rw [nI_clamp (by omega)]
          have hf0 : moAF ρ h = 0 := ef_2.symm.trans c_5
          have hv9 : ρe.I 14 (hdN h) = ρ.I 14 (hdN h) := by rw [eρe]; rfl
          have hfin : moEnd ρ h kp = (ρe.I 14 (hdN h), ρe) := by rw [hv9, eρe, moEnd, if_pos hf0, if_neg hkp, ef_2]
          exact W.iret (v := ((ρe.I 14) (hdN h))) hx hb hr (fun t9 ht hW => ⟨⟨((ρe.I 14) (hdN h)), V_9, rfl, ⟨by rw [hfin]; exact hMe, hRe, by rw [hfin]⟩, mB_of ht hV⟩, hS.F ht⟩) hS.2.2 d_Mo_end_143
        · exact absurd c_25 hkp
    · refine lv_iconst (v := (-1)) hx hb d_Mo_end_40 (by decide) ?_
      refine lv_goto (tgt := 48) hx hb d_Mo_end_41 (by decide) ?_
      refine pf_Mo_38 hx hb hW hown hG hV hS hm_7 d_Mo_end_48 (fun H locs hV hS => ?_)
      replace hV : hv D vwCl N0 (hu V_6 mo (.inr (7, [.int f_2, .int (ρ.s 1), .int (ρ.s 2), .int (ρ.s 3), .ref (ad 0), .ref (ad 1), .ref (ad 2), .ref (ad 3), .ref (ad 4), .ref (ad 5), .ref (ad 6), .ref (ad 7), .ref (ad 8), .int (-1), .ref (ad 9), .ref (ad 10), .ref (ad 11), .ref (ad 12), .ref (ad 13), .ref (ad 14), .ref (ad 15), .ref (ad 16), .ref (ad 17), .ref (ad 18), .ref (ad 19), .ref (ad 20), .ref (ad 21), .ref (ad 22), .ref (ad 23), .ref (ad 24), .ref (ad 25)]))) H := hV
      generalize hV_V_26 : hu V_6 mo (.inr (7, [.int f_2, .int (ρ.s 1), .int (ρ.s 2), .int (ρ.s 3), .ref (ad 0), .ref (ad 1), .ref (ad 2), .ref (ad 3), .ref (ad 4), .ref (ad 5), .ref (ad 6), .ref (ad 7), .ref (ad 8), .int (-1), .ref (ad 9), .ref (ad 10), .ref (ad 11), .ref (ad 12), .ref (ad 13), .ref (ad 14), .ref (ad 15), .ref (ad 16), .ref (ad 17), .ref (ad 18), .ref (ad 19), .ref (ad 20), .ref (ad 21), .ref (ad 22), .ref (ad 23), .ref (ad 24), .ref (ad 25)])) = V_26 at hV
      have hM_26 : mdOk k V_26 mo ad (((ρ.ws 0 f_2).wI 9 (upd (ρ.I 9) (hdN h) 0)).ws 4 (-1)) := by rw [← hV_V_26]; exact md_put hM_6 4 (-1)
      have hR_26 : mdFr mo ad V V_26 := by rw [← hV_V_26]; exact hR_6.m
      have hm_27 : V_26 mo = some (.inr (7, [.int f_2, .int (ρ.s 1), .int (ρ.s 2), .int (ρ.s 3), .ref (ad 0), .ref (ad 1), .ref (ad 2), .ref (ad 3), .ref (ad 4), .ref (ad 5), .ref (ad 6), .ref (ad 7), .ref (ad 8), .int (-1), .ref (ad 9), .ref (ad 10), .ref (ad 11), .ref (ad 12), .ref (ad 13), .ref (ad 14), .ref (ad 15), .ref (ad 16), .ref (ad 17), .ref (ad 18), .ref (ad 19), .ref (ad 20), .ref (ad 21), .ref (ad 22), .ref (ad 23), .ref (ad 24), .ref (ad 25)])) := hM_26.1
      have hm_27_1 : V_26 (ad 1) = some (eZ k 150 (ρ.I 1)) := hM_26.a1
      have hm_27_2 : V_26 (ad 2) = some (eI k 150 (ρ.I 2)) := hM_26.a2
      have hm_27_3 : V_26 (ad 3) = some (eI k 150 (ρ.I 3)) := hM_26.a3
      have hm_27_9 : V_26 (ad 9) = some (eZ k 10 (upd (ρ.I 9) (hdN h) 0)) := hM_26.a9
      have hm_27_14 : V_26 (ad 14) = some (eI k 10 (ρ.I 14)) := hM_26.a14
      have hm_27_15 : V_26 (ad 15) = some (eZ k 1500 (ρ.I 15)) := hM_26.a15
      have hm_27_16 : V_26 (ad 16) = some (eZ k 1500 (ρ.I 16)) := hM_26.a16
      have hm_27_17 : V_26 (ad 17) = some (eI k 1500 (ρ.I 17)) := hM_26.a17
      have hm_27_18 : V_26 (ad 18) = some (eI k 1500 (ρ.I 18)) := hM_26.a18
      refine lv_iconst (v := 0) hx hb d_Mo_end_51 (by decide) ?_
      refine lv_istore (lv' := [(4, .int 0), (3, .int (nI (hdN h))), (0, .ref mo), (1, .int h), (2, .int kp)]) hx hb d_Mo_end_52 hl (by decide) rfl (fun ls hl => ?_)
      have hMe : mdOk k V_26 mo ad (moEnS ρ f_2 h) := by rw [moEnS, if_pos c_8]; exact hM_26
      obtain ⟨ρe, eρe⟩ : ∃ z, z = moEnS ρ f_2 h := ⟨_, rfl⟩
      rw [← eρe] at hMe
      have hRe := hR_26
      have hm_28 : V_26 mo = some (.inr (7, [.int (ρe.s 0), .int (ρe.s 1), .int (ρe.s 2), .int (ρe.s 3), .ref (ad 0), .ref (ad 1), .ref (ad 2), .ref (ad 3), .ref (ad 4), .ref (ad 5), .ref (ad 6), .ref (ad 7), .ref (ad 8), .int (ρe.s 4), .ref (ad 9), .ref (ad 10), .ref (ad 11), .ref (ad 12), .ref (ad 13), .ref (ad 14), .ref (ad 15), .ref (ad 16), .ref (ad 17), .ref (ad 18), .ref (ad 19), .ref (ad 20), .ref (ad 21), .ref (ad 22), .ref (ad 23), .ref (ad 24), .ref (ad 25)])) := hMe.1
      have hm_28_1 : V_26 (ad 1) = some (eZ k 150 (ρe.I 1)) := hMe.a1
      have hm_28_2 : V_26 (ad 2) = some (eI k 150 (ρe.I 2)) := hMe.a2
      have hm_28_3 : V_26 (ad 3) = some (eI k 150 (ρe.I 3)) := hMe.a3
      have hm_28_9 : V_26 (ad 9) = some (eZ k 10 (ρe.I 9)) := hMe.a9
      have hm_28_14 : V_26 (ad 14) = some (eI k 10 (ρe.I 14)) := hMe.a14
      have hm_28_15 : V_26 (ad 15) = some (eZ k 1500 (ρe.I 15)) := hMe.a15
      have hm_28_16 : V_26 (ad 16) = some (eZ k 1500 (ρe.I 16)) := hMe.a16
      have hm_28_17 : V_26 (ad 17) = some (eI k 1500 (ρe.I 17)) := hMe.a17
      have hm_28_18 : V_26 (ad 18) = some (eI k 1500 (ρe.I 18)) := hMe.a18
      by_cases hkp : kp = 0
      · have loop_29 : ∀ (n i : Nat) (V1 : HV)  (H : Heap) (locs : List Loc) (ls : Array Slot), i ≤ 150 → 150 + 1 ≤ i + n → (mdOk k V1 mo ad (moEdL ρe (hdN h) i) ∧ mdFr mo ad V V1) → hv D vwCl N0 V1 H → va_S (hA N0) s.heap H locs → lv_has ls 6 [(0, .ref mo), (1, .int h), (2, .int kp), (3, .int (nI (hdN h))), (4, .int (nI i))] → W p l e (headSpec (.code y_Mo_end b_Mo_end 6 (some .int) :: WS) ({ frames := 3, cells := 0, slots := 0, locals := 66 })).room s m #[.ref mo, .int h, .int kp] below meth c H locs 0 0 (MQ below (va_Qi (fun r V' => mdOk k V' mo ad (moEnd ρ h kp).2 ∧ mdFr mo ad V V' ∧ r = (moEnd ρ h kp).1) (mB D N0) (hA N0)) #[.ref mo, .int h, .int kp] s 0 0 (hA N0)) (F0 m 54 ls []) := by
          intro n
          induction n with
          | zero => intro i V1  H locs ls h1 h2; exact absurd h2 (by omega)
          | succ n ih =>
            intro i V1  H locs ls hi hin hI hV hS hl
            obtain ⟨hM1, hR1⟩ := hI
            obtain ⟨ρl, eρl⟩ : ∃ z, z = moEdL ρe (hdN h) i := ⟨_, rfl⟩
            rw [← eρl] at hM1
            have hz9 : ∀ q, ρl.I 16 q = 0 ∨ ρl.I 16 q = 1 := by rw [eρl, edL_I (by omega), eρe]; exact hz16
            have hm_30 : V1 mo = some (.inr (7, [.int (ρl.s 0), .int (ρl.s 1), .int (ρl.s 2), .int (ρl.s 3), .ref (ad 0), .ref (ad 1), .ref (ad 2), .ref (ad 3), .ref (ad 4), .ref (ad 5), .ref (ad 6), .ref (ad 7), .ref (ad 8), .int (ρl.s 4), .ref (ad 9), .ref (ad 10), .ref (ad 11), .ref (ad 12), .ref (ad 13), .ref (ad 14), .ref (ad 15), .ref (ad 16), .ref (ad 17), .ref (ad 18), .ref (ad 19), .ref (ad 20), .ref (ad 21), .ref (ad 22), .ref (ad 23), .ref (ad 24), .ref (ad 25)])) := hM1.1
            have hm_30_1 : V1 (ad 1) = some (eZ k 150 (ρl.I 1)) := hM1.a1
            have hm_30_2 : V1 (ad 2) = some (eI k 150 (ρl.I 2)) := hM1.a2
            have hm_30_3 : V1 (ad 3) = some (eI k 150 (ρl.I 3)) := hM1.a3
            have hm_30_9 : V1 (ad 9) = some (eZ k 10 (ρl.I 9)) := hM1.a9
            have hm_30_14 : V1 (ad 14) = some (eI k 10 (ρl.I 14)) := hM1.a14
            have hm_30_15 : V1 (ad 15) = some (eZ k 1500 (ρl.I 15)) := hM1.a15
            have hm_30_16 : V1 (ad 16) = some (eZ k 1500 (ρl.I 16)) := hM1.a16
            have hm_30_17 : V1 (ad 17) = some (eI k 1500 (ρl.I 17)) := hM1.a17
            have hm_30_18 : V1 (ad 18) = some (eI k 1500 (ρl.I 18)) := hM1.a18
            refine lv_iload hx hb d_Mo_end_54 (lv_at hl 4 rfl) ?_
            refine lv_sipush (v := 150) hx hb d_Mo_end_56 (by decide) ?_
            refine lv_icmp_ge (tgt := 137) hx hb d_Mo_end_59 (by decide) (fun c_31 => ?_) (fun c_31 => ?_)
            · have hge : 150 ≤ i := nI_le' c_31 (by omega) (by omega)
              refine lv_aload_n hx hb d_Mo_end_137 rfl (lv_at hl 0 rfl) ?_
              refine gf_Mo_57 hx hb hW hown hG hV hm_30 d_Mo_end_138 ?_
              refine lv_iload_n hx hb d_Mo_end_141 rfl (lv_at hl 3 rfl) ?_
              refine hv_iald hx hb hG.K hV 0 hm_30_14 rfl (vp_in_nI (by omega) (by omega)) d_Mo_end_142 ?_
              rw [nI_clamp (by omega)]
              have hf0 : moAF ρ h = 0 := ef_2.symm.trans c_5
              have hi9 : i = 150 := by omega
              have hv9 : ρl.I 14 (hdN h) = ρ.I 14 (hdN h) := by rw [eρl, edL_I (by omega), eρe]; rfl
              have hM9 := hM1
              rw [eρl, hi9] at hM9
              have hfin : moEnd ρ h kp = (ρl.I 14 (hdN h), moEdL ρe (hdN h) 150) := by rw [hv9, eρe, moEnd, if_pos hf0, if_pos hkp, ef_2]
              generalize moEdL ρe (hdN h) 150 = zz at hM9 hfin
              exact W.iret (v := ((ρl.I 14) (hdN h))) hx hb hr (fun t9 ht hW => ⟨⟨((ρl.I 14) (hdN h)), V1, rfl, ⟨by rw [hfin]; exact hM9, hR1, by rw [hfin]⟩, mB_of ht hV⟩, hS.F ht⟩) hS.2.2 d_Mo_end_143
            · have hlt : i < 150 := nI_nle' c_31 (by omega) (by omega)
              refine lv_iload_n hx hb d_Mo_end_62 rfl (lv_at hl 2 rfl) ?_
              refine lv_if_ne (tgt := 137) hx hb d_Mo_end_63 (by decide) (fun c_32 => ?_) (fun c_32 => ?_)
              · exact absurd hkp c_32
              · refine lv_sipush (v := 150) hx hb d_Mo_end_66 (by decide) ?_
                refine lv_iload_n hx hb d_Mo_end_69 rfl (lv_at hl 3 rfl) ?_
                refine lv_imul hx hb d_Mo_end_70 ?_
                refine lv_iload hx hb d_Mo_end_71 (lv_at hl 4 rfl) ?_
                refine lv_iadd hx hb d_Mo_end_73 ?_
                have hk9 : (150 : Int32) * nI (hdN h) + nI i = nI (150 * hdN h + i) := by rw [show (150 : Int32) = nI 150 from rfl, nI_mulN, nI_add]
                rw [hk9]
                refine W.eq (g2 := F0 m 74 ls [.int (nI (150 * hdN h + i))]) rfl ?_
                refine lv_istore (lv' := [(5, .int (nI (150 * hdN h + i))), (0, .ref mo), (1, .int h), (2, .int kp), (3, .int (nI (hdN h))), (4, .int (nI i))]) hx hb d_Mo_end_74 hl (by decide) rfl (fun ls hl => ?_)
                refine lv_aload_n hx hb d_Mo_end_76 rfl (lv_at hl 1 rfl) ?_
                refine gf_Mo_60 hx hb hW hown hG hV hm_30 d_Mo_end_77 ?_
                refine lv_iload hx hb d_Mo_end_80 (lv_at hl 0 rfl) ?_
                refine hv_zald hx hb hG.K hV 2 hm_30_15 rfl (vp_in_nI (by omega) (by omega)) d_Mo_end_82 ?_
                rw [nI_clamp (by omega)]
                refine lv_if_ne (tgt := 89) hx hb d_Mo_end_83 (by decide) (fun c_33 => ?_) (fun c_33 => ?_)
                · refine lv_aload_n hx hb d_Mo_end_89 rfl (lv_at hl 1 rfl) ?_
                  refine gf_Mo_13 hx hb hW hown hG hV hm_30 d_Mo_end_90 ?_
                  refine lv_iload hx hb d_Mo_end_93 (lv_at hl 5 rfl) ?_
                  refine lv_aload_n hx hb d_Mo_end_95 rfl (lv_at hl 1 rfl) ?_
                  refine gf_Mo_63 hx hb hW hown hG hV hm_30 d_Mo_end_96 ?_
                  refine lv_iload hx hb d_Mo_end_99 (lv_at hl 0 rfl) ?_
                  refine hv_zald hx hb hG.K hV 2 hm_30_16 rfl (vp_in_nI (by omega) (by omega)) d_Mo_end_101 ?_
                  rw [nI_clamp (by omega)]
                  refine hv_zast hx hb hG.K hV hS 2 hm_30_1 rfl (hz9 _) (vp_in_nI (by omega) (by omega)) d_Mo_end_102 (fun H locs hV hS => ?_)
                  rw [nI_clamp (by omega)] at hV
                  replace hV : hv D vwCl N0 (hu V1 (ad 1) (eZ k 150 (upd (ρl.I 1) i ((ρl.I 16) (150 * hdN h + i))))) H := hV
                  generalize hV_V_34 : hu V1 (ad 1) (eZ k 150 (upd (ρl.I 1) i ((ρl.I 16) (150 * hdN h + i)))) = V_34 at hV
                  have hM_34 : mdOk k V_34 mo ad (ρl.wI 1 (upd (ρl.I 1) i ((ρl.I 16) (150 * hdN h + i)))) := by rw [← hV_V_34]; exact md_set hM1 1 (by omega) (upd (ρl.I 1) i ((ρl.I 16) (150 * hdN h + i)))
                  have hR_34 : mdFr mo ad V V_34 := by rw [← hV_V_34]; exact hR1.ar (j := 1) (by omega)
                  have hm_35 : V_34 mo = some (.inr (7, [.int (ρl.s 0), .int (ρl.s 1), .int (ρl.s 2), .int (ρl.s 3), .ref (ad 0), .ref (ad 1), .ref (ad 2), .ref (ad 3), .ref (ad 4), .ref (ad 5), .ref (ad 6), .ref (ad 7), .ref (ad 8), .int (ρl.s 4), .ref (ad 9), .ref (ad 10), .ref (ad 11), .ref (ad 12), .ref (ad 13), .ref (ad 14), .ref (ad 15), .ref (ad 16), .ref (ad 17), .ref (ad 18), .ref (ad 19), .ref (ad 20), .ref (ad 21), .ref (ad 22), .ref (ad 23), .ref (ad 24), .ref (ad 25)])) := hM_34.1
                  have hm_35_1 : V_34 (ad 1) = some (eZ k 150 (upd (ρl.I 1) i ((ρl.I 16) (150 * hdN h + i)))) := hM_34.a1
                  have hm_35_2 : V_34 (ad 2) = some (eI k 150 (ρl.I 2)) := hM_34.a2
                  have hm_35_3 : V_34 (ad 3) = some (eI k 150 (ρl.I 3)) := hM_34.a3
                  have hm_35_9 : V_34 (ad 9) = some (eZ k 10 (ρl.I 9)) := hM_34.a9
                  have hm_35_14 : V_34 (ad 14) = some (eI k 10 (ρl.I 14)) := hM_34.a14
                  have hm_35_15 : V_34 (ad 15) = some (eZ k 1500 (ρl.I 15)) := hM_34.a15
                  have hm_35_16 : V_34 (ad 16) = some (eZ k 1500 (ρl.I 16)) := hM_34.a16
                  have hm_35_17 : V_34 (ad 17) = some (eI k 1500 (ρl.I 17)) := hM_34.a17
                  have hm_35_18 : V_34 (ad 18) = some (eI k 1500 (ρl.I 18)) := hM_34.a18
                  refine lv_aload_n hx hb d_Mo_end_103 rfl (lv_at hl 1 rfl) ?_
                  refine gf_Mo_17 hx hb hW hown hG hV hm_35 d_Mo_end_104 ?_
                  refine lv_iload hx hb d_Mo_end_107 (lv_at hl 5 rfl) ?_
                  refine lv_aload_n hx hb d_Mo_end_109 rfl (lv_at hl 1 rfl) ?_
                  refine gf_Mo_66 hx hb hW hown hG hV hm_35 d_Mo_end_110 ?_
                  refine lv_iload hx hb d_Mo_end_113 (lv_at hl 0 rfl) ?_
                  refine hv_iald hx hb hG.K hV 0 hm_35_17 rfl (vp_in_nI (by omega) (by omega)) d_Mo_end_115 ?_
                  rw [nI_clamp (by omega)]
                  refine hv_iast hx hb hG.K hV hS 0 hm_35_2 rfl (vp_in_nI (by omega) (by omega)) d_Mo_end_116 (fun H locs hV hS => ?_)
                  rw [nI_clamp (by omega)] at hV
                  replace hV : hv D vwCl N0 (hu V_34 (ad 2) (eI k 150 (upd (ρl.I 2) i ((ρl.I 17) (150 * hdN h + i))))) H := hV
                  generalize hV_V_36 : hu V_34 (ad 2) (eI k 150 (upd (ρl.I 2) i ((ρl.I 17) (150 * hdN h + i)))) = V_36 at hV
                  have hM_36 : mdOk k V_36 mo ad ((ρl.wI 1 (upd (ρl.I 1) i ((ρl.I 16) (150 * hdN h + i)))).wI 2 (upd (ρl.I 2) i ((ρl.I 17) (150 * hdN h + i)))) := by rw [← hV_V_36]; exact md_set hM_34 2 (by omega) (upd (ρl.I 2) i ((ρl.I 17) (150 * hdN h + i)))
                  have hR_36 : mdFr mo ad V V_36 := by rw [← hV_V_36]; exact hR_34.ar (j := 2) (by omega)
                  have hm_37 : V_36 mo = some (.inr (7, [.int (ρl.s 0), .int (ρl.s 1), .int (ρl.s 2), .int (ρl.s 3), .ref (ad 0), .ref (ad 1), .ref (ad 2), .ref (ad 3), .ref (ad 4), .ref (ad 5), .ref (ad 6), .ref (ad 7), .ref (ad 8), .int (ρl.s 4), .ref (ad 9), .ref (ad 10), .ref (ad 11), .ref (ad 12), .ref (ad 13), .ref (ad 14), .ref (ad 15), .ref (ad 16), .ref (ad 17), .ref (ad 18), .ref (ad 19), .ref (ad 20), .ref (ad 21), .ref (ad 22), .ref (ad 23), .ref (ad 24), .ref (ad 25)])) := hM_36.1
                  have hm_37_1 : V_36 (ad 1) = some (eZ k 150 (upd (ρl.I 1) i ((ρl.I 16) (150 * hdN h + i)))) := hM_36.a1
                  have hm_37_2 : V_36 (ad 2) = some (eI k 150 (upd (ρl.I 2) i ((ρl.I 17) (150 * hdN h + i)))) := hM_36.a2
                  have hm_37_3 : V_36 (ad 3) = some (eI k 150 (ρl.I 3)) := hM_36.a3
                  have hm_37_9 : V_36 (ad 9) = some (eZ k 10 (ρl.I 9)) := hM_36.a9
                  have hm_37_14 : V_36 (ad 14) = some (eI k 10 (ρl.I 14)) := hM_36.a14
                  have hm_37_15 : V_36 (ad 15) = some (eZ k 1500 (ρl.I 15)) := hM_36.a15
                  have hm_37_16 : V_36 (ad 16) = some (eZ k 1500 (ρl.I 16)) := hM_36.a16
                  have hm_37_17 : V_36 (ad 17) = some (eI k 1500 (ρl.I 17)) := hM_36.a17
                  have hm_37_18 : V_36 (ad 18) = some (eI k 1500 (ρl.I 18)) := hM_36.a18
                  refine lv_aload_n hx hb d_Mo_end_117 rfl (lv_at hl 1 rfl) ?_
                  refine gf_Mo_20 hx hb hW hown hG hV hm_37 d_Mo_end_118 ?_
                  refine lv_iload hx hb d_Mo_end_121 (lv_at hl 5 rfl) ?_
                  refine lv_aload_n hx hb d_Mo_end_123 rfl (lv_at hl 1 rfl) ?_
                  refine gf_Mo_69 hx hb hW hown hG hV hm_37 d_Mo_end_124 ?_
                  refine lv_iload hx hb d_Mo_end_127 (lv_at hl 0 rfl) ?_
                  refine hv_iald hx hb hG.K hV 0 hm_37_18 rfl (vp_in_nI (by omega) (by omega)) d_Mo_end_129 ?_
                  rw [nI_clamp (by omega)]
                  refine hv_iast hx hb hG.K hV hS 0 hm_37_3 rfl (vp_in_nI (by omega) (by omega)) d_Mo_end_130 (fun H locs hV hS => ?_)
                  rw [nI_clamp (by omega)] at hV
                  replace hV : hv D vwCl N0 (hu V_36 (ad 3) (eI k 150 (upd (ρl.I 3) i ((ρl.I 18) (150 * hdN h + i))))) H := hV
                  generalize hV_V_38 : hu V_36 (ad 3) (eI k 150 (upd (ρl.I 3) i ((ρl.I 18) (150 * hdN h + i)))) = V_38 at hV
                  have hM_38 : mdOk k V_38 mo ad (((ρl.wI 1 (upd (ρl.I 1) i ((ρl.I 16) (150 * hdN h + i)))).wI 2 (upd (ρl.I 2) i ((ρl.I 17) (150 * hdN h + i)))).wI 3 (upd (ρl.I 3) i ((ρl.I 18) (150 * hdN h + i)))) := by rw [← hV_V_38]; exact md_set hM_36 3 (by omega) (upd (ρl.I 3) i ((ρl.I 18) (150 * hdN h + i)))
                  have hR_38 : mdFr mo ad V V_38 := by rw [← hV_V_38]; exact hR_36.ar (j := 3) (by omega)
                  have hm_39 : V_38 mo = some (.inr (7, [.int (ρl.s 0), .int (ρl.s 1), .int (ρl.s 2), .int (ρl.s 3), .ref (ad 0), .ref (ad 1), .ref (ad 2), .ref (ad 3), .ref (ad 4), .ref (ad 5), .ref (ad 6), .ref (ad 7), .ref (ad 8), .int (ρl.s 4), .ref (ad 9), .ref (ad 10), .ref (ad 11), .ref (ad 12), .ref (ad 13), .ref (ad 14), .ref (ad 15), .ref (ad 16), .ref (ad 17), .ref (ad 18), .ref (ad 19), .ref (ad 20), .ref (ad 21), .ref (ad 22), .ref (ad 23), .ref (ad 24), .ref (ad 25)])) := hM_38.1
                  have hm_39_1 : V_38 (ad 1) = some (eZ k 150 (upd (ρl.I 1) i ((ρl.I 16) (150 * hdN h + i)))) := hM_38.a1
                  have hm_39_2 : V_38 (ad 2) = some (eI k 150 (upd (ρl.I 2) i ((ρl.I 17) (150 * hdN h + i)))) := hM_38.a2
                  have hm_39_3 : V_38 (ad 3) = some (eI k 150 (upd (ρl.I 3) i ((ρl.I 18) (150 * hdN h + i)))) := hM_38.a3
                  have hm_39_9 : V_38 (ad 9) = some (eZ k 10 (ρl.I 9)) := hM_38.a9
                  have hm_39_14 : V_38 (ad 14) = some (eI k 10 (ρl.I 14)) := hM_38.a14
                  have hm_39_15 : V_38 (ad 15) = some (eZ k 1500 (ρl.I 15)) := hM_38.a15
                  have hm_39_16 : V_38 (ad 16) = some (eZ k 1500 (ρl.I 16)) := hM_38.a16
                  have hm_39_17 : V_38 (ad 17) = some (eI k 1500 (ρl.I 17)) := hM_38.a17
                  have hm_39_18 : V_38 (ad 18) = some (eI k 1500 (ρl.I 18)) := hM_38.a18
                  obtain ⟨i_40, ei_40⟩ : ∃ y : Int32, y = (nI i) + 1 := ⟨_, rfl⟩
                  refine lv_iinc (v := i_40) (lv' := [(4, .int i_40), (5, .int (nI (150 * hdN h + i))), (0, .ref mo), (1, .int h), (2, .int kp), (3, .int (nI (hdN h)))]) hx hb d_Mo_end_131 hl (k := 5) rfl (by rw [ei_40]; rfl) (by decide) rfl (fun ls hl => ?_)
                  refine lv_goto (tgt := 54) hx hb d_Mo_end_134 (by decide) ?_
                  rw [nI_1] at ei_40
                  subst ei_40
                  exact ih (i + 1) V_38  _ _ _ (by omega) (by omega) (⟨by rw [moEdL, if_neg (by rw [← eρl]; exact c_33), ← eρl]; exact hM_38, hR_38⟩) hV hS (lv_sub hl [2, 3, 4, 5, 0] rfl)
                · refine lv_goto (tgt := 131) hx hb d_Mo_end_86 (by decide) ?_
                  obtain ⟨i_41, ei_41⟩ : ∃ y : Int32, y = (nI i) + 1 := ⟨_, rfl⟩
                  refine lv_iinc (v := i_41) (lv' := [(4, .int i_41), (5, .int (nI (150 * hdN h + i))), (0, .ref mo), (1, .int h), (2, .int kp), (3, .int (nI (hdN h)))]) hx hb d_Mo_end_131 hl (k := 5) rfl (by rw [ei_41]; rfl) (by decide) rfl (fun ls hl => ?_)
                  refine lv_goto (tgt := 54) hx hb d_Mo_end_134 (by decide) ?_
                  rw [nI_1] at ei_41
                  subst ei_41
                  exact ih (i + 1) V1  _ _ _ (by omega) (by omega) (⟨by rw [moEdL, if_pos (by rw [← eρl]; exact c_33), ← eρl]; exact hM1, hR1⟩) hV hS (lv_sub hl [2, 3, 4, 5, 0] rfl)
        exact loop_29 (150 + 1 - 0) 0 V_26  _ _ _ (by omega) (by omega) (⟨hMe, hRe⟩) hV hS (lv_sub hl [2, 3, 4, 1, 0] rfl)
      · refine lv_iload hx hb d_Mo_end_54 (lv_at hl 0 rfl) ?_
        refine lv_sipush (v := 150) hx hb d_Mo_end_56 (by decide) ?_
        refine lv_icmp_ge (tgt := 137) hx hb d_Mo_end_59 (by decide) (fun q => absurd q (by decide)) (fun _ => ?_)
        refine lv_iload_n hx hb d_Mo_end_62 rfl (lv_at hl 4 rfl) ?_
        refine lv_if_ne (tgt := 137) hx hb d_Mo_end_63 (by decide) (fun c_42 => ?_) (fun c_42 => ?_)
        · refine lv_aload_n hx hb d_Mo_end_137 rfl (lv_at hl 2 rfl) ?_
          refine gf_Mo_57 hx hb hW hown hG hV hm_28 d_Mo_end_138 ?_
          refine lv_iload_n hx hb d_Mo_end_141 rfl (lv_at hl 1 rfl) ?_
          refine hv_iald hx hb hG.K hV 0 hm_28_14 rfl (vp_in_nI (by omega) (by omega)) d_Mo_end_142 ?_
          rw [nI_clamp (by omega)]
          have hf0 : moAF ρ h = 0 := ef_2.symm.trans c_5
          have hv9 : ρe.I 14 (hdN h) = ρ.I 14 (hdN h) := by rw [eρe]; rfl
          have hfin : moEnd ρ h kp = (ρe.I 14 (hdN h), ρe) := by rw [hv9, eρe, moEnd, if_pos hf0, if_neg hkp, ef_2]
          exact W.iret (v := ((ρe.I 14) (hdN h))) hx hb hr (fun t9 ht hW => ⟨⟨((ρe.I 14) (hdN h)), V_26, rfl, ⟨by rw [hfin]; exact hMe, hRe, by rw [hfin]⟩, mB_of ht hV⟩, hS.F ht⟩) hS.2.2 d_Mo_end_143
        · exact absurd c_42 hkp
  · refine lv_iconst (v := 0) hx hb d_Mo_end_16 (by decide) ?_
    try simp only [bI_ne0, bI_eq0, decide_eq_true_eq, decide_eq_false_iff_not, Bool.not_eq_false, Bool.not_eq_true, Decidable.not_not] at c_5
    subst ef_2
    have hfin : moEnd ρ h kp = (0, (ρ.ws 0 (moAF ρ h))) := by first | (simp only [moEnd, c_5, decide_true, decide_false, Bool.true_and, Bool.and_true, Bool.false_and, Bool.and_false, Bool.true_or, Bool.or_true, Bool.false_or, Bool.or_false, Bool.not_true, Bool.not_false, if_true, if_false, Bool.false_eq_true, Bool.true_eq_false, reduceIte, eq_self]; done) | (simp [moEnd, c_5]; done) | (simp_all [moEnd]; done)
    exact W.iret (v := 0) hx hb hr (fun t9 ht hW => ⟨⟨0, V_3, rfl, ⟨by rw [hfin]; exact hM_3, hR_3, by rw [hfin]⟩, mB_of ht hV⟩, hS.F ht⟩) hS.2.2 d_Mo_end_17
set_option maxHeartbeats 4000000 in
set_option maxRecDepth 100000 in
/-- version -/
theorem c_Mo_version (l : Launch) (D : va_G) (N0 : Nat) (k : Nat → Nat) (V : HV) (mo : Nat) (ad : Nat → Nat) (ρ : MS) (hM : mdOk k V mo ad ρ) (n7 : Nat) (hn7 : n7 ≤ 8) (en7 : ρ.I 0 7 = nI n7) (hz1 : ∀ q, ρ.I 1 q = 0 ∨ ρ.I 1 q = 1) : Met l y_Mo_version (.code y_Mo_version b_Mo_version 3 (some .int) :: WS) ({ frames := 2, cells := 0, slots := 0, locals := 41 }) (mP D N0 k [.ref mo] V) (va_Qi (fun r V' => ((anyF (moOpn ρ.I) 0 10 = true ∧ r = 0 ∧ mdOk k V' mo ad (ρ.ws 0 1)) ∨ (anyF (moOpn ρ.I) 0 10 = false ∧ ρ.I 0 7 = nI (liN 7) ∧ r = -1 ∧ mdOk k V' mo ad ((ρ.ws 0 0).ws 3 1)) ∨ (anyF (moOpn ρ.I) 0 10 = false ∧ ¬ ρ.I 0 7 = nI (liN 7) ∧ r = 7000 + nI n7 ∧ ∃ g0 g1 g2 g3, mdOk k V' mo ad (moVrS ρ g0 g1 g2 g3) ∧ moVrP ρ n7 g0 g1 g2 g3)) ∧ mdFr mo ad V V') (mB D N0) (hA N0)) 0 0 (hA N0) := by
  refine Met.ofW (cc := b_Mo_version) (maxL := 3) (ret := (some .int)) (by decide) rfl ?_
  intro p e s m args below meth c s₁ B hml hv0
  obtain ⟨rfl, hG, hV⟩ := hv0
  have hx := B.exec
  have hb := B.bytes
  have hr := B.returns
  have hts := atoms_spec (ws := .code y_Mo_version b_Mo_version 3 (some .int) :: WS) B.pre
  have hW : ∀ w ∈ WS, w.before _ s = true := fun w h => hts w (List.mem_cons_of_mem _ h)
  have hown : s.vm.findClass "BoardHouseModel" = some m.cls := findClass_of_methodNamed B.named
  have hlocks := B.notSynchronized
  have hS : va_S (hA N0) s.heap s.heap [] := va_S.rf
  have hl := lv_entry ([.ref mo]) (n := 3) (Nat.le_of_ble_eq_true rfl)
  rw [lg_entry_eq]
  generalize (lg_sl ([.ref mo]) ++ List.replicate (3 - (lg_sl ([.ref mo])).length) Slot.unset).toArray = ls at hl ⊢
  have hl : lv_has ls 3 [(0, .ref mo)] := hl
  have hm_1 : V mo = some (.inr (7, [.int (ρ.s 0), .int (ρ.s 1), .int (ρ.s 2), .int (ρ.s 3), .ref (ad 0), .ref (ad 1), .ref (ad 2), .ref (ad 3), .ref (ad 4), .ref (ad 5), .ref (ad 6), .ref (ad 7), .ref (ad 8), .int (ρ.s 4), .ref (ad 9), .ref (ad 10), .ref (ad 11), .ref (ad 12), .ref (ad 13), .ref (ad 14), .ref (ad 15), .ref (ad 16), .ref (ad 17), .ref (ad 18), .ref (ad 19), .ref (ad 20), .ref (ad 21), .ref (ad 22), .ref (ad 23), .ref (ad 24), .ref (ad 25)])) := hM.1
  have hm_1_0 : V (ad 0) = some (eI k 8 (ρ.I 0)) := hM.a0
  have hm_1_1 : V (ad 1) = some (eZ k 150 (ρ.I 1)) := hM.a1
  have hm_1_2 : V (ad 2) = some (eI k 150 (ρ.I 2)) := hM.a2
  have hm_1_3 : V (ad 3) = some (eI k 150 (ρ.I 3)) := hM.a3
  have hm_1_19 : V (ad 19) = some (eI k 64 (ρ.I 19)) := hM.a19
  have hm_1_20 : V (ad 20) = some (eZ k 1200 (ρ.I 20)) := hM.a20
  have hm_1_21 : V (ad 21) = some (eI k 1200 (ρ.I 21)) := hM.a21
  have hm_1_22 : V (ad 22) = some (eI k 1200 (ρ.I 22)) := hM.a22
  refine lv_aload_n hx hb d_Mo_version_0 rfl (lv_at hl 0 rfl) ?_
  refine lv_aload_n hx hb d_Mo_version_1 rfl (lv_at hl 0 rfl) ?_
  refine rc_i (va_runV (As := []) (rest := [.ref mo]) ⟨hx, hb, hml, hown, hts⟩ (c_Mo_hasOpen l D N0 k V mo ad ρ hM) (cwV 0 hts (gi_V wm_Mo_248 wv_Mo_hasOpen ws_Mo_hasOpen wi_Mo wc_Mo_hasOpen) rfl rfl rfl (by decide +kernel) ⟨Nat.le_of_ble_eq_true rfl, Nat.le_of_ble_eq_true rfl⟩) (mP.preV hG hS hV hm_1 rfl) rfl rfl hl.1 rfl (lv_room (Nat.le_of_ble_eq_true rfl)) d_Mo_version_2 ⟨Nat.le_of_ble_eq_true rfl, Nat.le_of_ble_eq_true rfl⟩) hS (fun H locs hV hS => ?_)
  refine W.eq (g2 := F0 m 5 ls [.int (bI (anyF (moOpn ρ.I) 0 10)), .ref mo]) rfl ?_
  refine lv_if_eq (tgt := 12) hx hb d_Mo_version_5 (by decide) (fun c_2 => ?_) (fun c_2 => ?_)
  · refine lv_iconst (v := 0) hx hb d_Mo_version_12 (by decide) ?_
    refine pf_Mo_100 hx hb hW hown hG hV hS hm_1 d_Mo_version_13 (fun H locs hV hS => ?_)
    replace hV : hv D vwCl N0 (hu V mo (.inr (7, [.int 0, .int (ρ.s 1), .int (ρ.s 2), .int (ρ.s 3), .ref (ad 0), .ref (ad 1), .ref (ad 2), .ref (ad 3), .ref (ad 4), .ref (ad 5), .ref (ad 6), .ref (ad 7), .ref (ad 8), .int (ρ.s 4), .ref (ad 9), .ref (ad 10), .ref (ad 11), .ref (ad 12), .ref (ad 13), .ref (ad 14), .ref (ad 15), .ref (ad 16), .ref (ad 17), .ref (ad 18), .ref (ad 19), .ref (ad 20), .ref (ad 21), .ref (ad 22), .ref (ad 23), .ref (ad 24), .ref (ad 25)]))) H := hV
    generalize hV_V_3 : hu V mo (.inr (7, [.int 0, .int (ρ.s 1), .int (ρ.s 2), .int (ρ.s 3), .ref (ad 0), .ref (ad 1), .ref (ad 2), .ref (ad 3), .ref (ad 4), .ref (ad 5), .ref (ad 6), .ref (ad 7), .ref (ad 8), .int (ρ.s 4), .ref (ad 9), .ref (ad 10), .ref (ad 11), .ref (ad 12), .ref (ad 13), .ref (ad 14), .ref (ad 15), .ref (ad 16), .ref (ad 17), .ref (ad 18), .ref (ad 19), .ref (ad 20), .ref (ad 21), .ref (ad 22), .ref (ad 23), .ref (ad 24), .ref (ad 25)])) = V_3 at hV
    have hM_3 : mdOk k V_3 mo ad (ρ.ws 0 0) := by rw [← hV_V_3]; exact md_put hM 0 0
    have hR_3 : mdFr mo ad V V_3 := by rw [← hV_V_3]; exact (mdFr.rf (mo := mo) (ad := ad) (V := V)).m
    have hm_4 : V_3 mo = some (.inr (7, [.int 0, .int (ρ.s 1), .int (ρ.s 2), .int (ρ.s 3), .ref (ad 0), .ref (ad 1), .ref (ad 2), .ref (ad 3), .ref (ad 4), .ref (ad 5), .ref (ad 6), .ref (ad 7), .ref (ad 8), .int (ρ.s 4), .ref (ad 9), .ref (ad 10), .ref (ad 11), .ref (ad 12), .ref (ad 13), .ref (ad 14), .ref (ad 15), .ref (ad 16), .ref (ad 17), .ref (ad 18), .ref (ad 19), .ref (ad 20), .ref (ad 21), .ref (ad 22), .ref (ad 23), .ref (ad 24), .ref (ad 25)])) := hM_3.1
    have hm_4_0 : V_3 (ad 0) = some (eI k 8 (ρ.I 0)) := hM_3.a0
    have hm_4_1 : V_3 (ad 1) = some (eZ k 150 (ρ.I 1)) := hM_3.a1
    have hm_4_2 : V_3 (ad 2) = some (eI k 150 (ρ.I 2)) := hM_3.a2
    have hm_4_3 : V_3 (ad 3) = some (eI k 150 (ρ.I 3)) := hM_3.a3
    have hm_4_19 : V_3 (ad 19) = some (eI k 64 (ρ.I 19)) := hM_3.a19
    have hm_4_20 : V_3 (ad 20) = some (eZ k 1200 (ρ.I 20)) := hM_3.a20
    have hm_4_21 : V_3 (ad 21) = some (eI k 1200 (ρ.I 21)) := hM_3.a21
    have hm_4_22 : V_3 (ad 22) = some (eI k 1200 (ρ.I 22)) := hM_3.a22
    refine lv_aload_n hx hb d_Mo_version_16 rfl (lv_at hl 0 rfl) ?_
    refine gf_Mo_100 hx hb hW hown hG hV hm_4 d_Mo_version_17 ?_
    refine lv_if_eq (tgt := 25) hx hb d_Mo_version_20 (by decide) (fun _ => ?_) (fun q => absurd q (by decide))
    refine lv_aload_n hx hb d_Mo_version_25 rfl (lv_at hl 0 rfl) ?_
    refine lv_bipush (v := 7) hx hb d_Mo_version_26 (by decide) ?_
    refine rc_i (va_runV (As := [.int 7]) (rest := []) ⟨hx, hb, hml, hown, hts⟩ (c_Mo_isFull l D N0 k V_3 mo ad (ρ.ws 0 0) hM_3 7 (by omega) (by omega)) (cwV 1 hts (gi_V wm_Mo_152 wv_Mo_isFull ws_Mo_isFull wi_Mo wc_Mo_isFull) rfl rfl rfl (by decide +kernel) ⟨Nat.le_of_ble_eq_true rfl, Nat.le_of_ble_eq_true rfl⟩) (mP.preV hG hS hV hm_4 rfl) rfl rfl hl.1 rfl (lv_room (Nat.le_of_ble_eq_true rfl)) d_Mo_version_28 ⟨Nat.le_of_ble_eq_true rfl, Nat.le_of_ble_eq_true rfl⟩) hS (fun H locs hV hS => ?_)
    refine W.eq (g2 := F0 m 31 ls [.int (bI (decide ((ρ.I 0) 7 = nI (liN 7))))]) rfl ?_
    refine lv_if_eq (tgt := 40) hx hb d_Mo_version_31 (by decide) (fun c_5 => ?_) (fun c_5 => ?_)
    · refine lv_aload_n hx hb d_Mo_version_40 rfl (lv_at hl 0 rfl) ?_
      refine lv_iconst (v := 0) hx hb d_Mo_version_41 (by decide) ?_
      refine pf_Mo_149 hx hb hW hown hG hV hS hm_4 d_Mo_version_42 (fun H locs hV hS => ?_)
      replace hV : hv D vwCl N0 (hu V_3 mo (.inr (7, [.int 0, .int (ρ.s 1), .int (ρ.s 2), .int 0, .ref (ad 0), .ref (ad 1), .ref (ad 2), .ref (ad 3), .ref (ad 4), .ref (ad 5), .ref (ad 6), .ref (ad 7), .ref (ad 8), .int (ρ.s 4), .ref (ad 9), .ref (ad 10), .ref (ad 11), .ref (ad 12), .ref (ad 13), .ref (ad 14), .ref (ad 15), .ref (ad 16), .ref (ad 17), .ref (ad 18), .ref (ad 19), .ref (ad 20), .ref (ad 21), .ref (ad 22), .ref (ad 23), .ref (ad 24), .ref (ad 25)]))) H := hV
      generalize hV_V_6 : hu V_3 mo (.inr (7, [.int 0, .int (ρ.s 1), .int (ρ.s 2), .int 0, .ref (ad 0), .ref (ad 1), .ref (ad 2), .ref (ad 3), .ref (ad 4), .ref (ad 5), .ref (ad 6), .ref (ad 7), .ref (ad 8), .int (ρ.s 4), .ref (ad 9), .ref (ad 10), .ref (ad 11), .ref (ad 12), .ref (ad 13), .ref (ad 14), .ref (ad 15), .ref (ad 16), .ref (ad 17), .ref (ad 18), .ref (ad 19), .ref (ad 20), .ref (ad 21), .ref (ad 22), .ref (ad 23), .ref (ad 24), .ref (ad 25)])) = V_6 at hV
      have hM_6 : mdOk k V_6 mo ad ((ρ.ws 0 0).ws 3 0) := by rw [← hV_V_6]; exact md_put hM_3 3 0
      have hR_6 : mdFr mo ad V V_6 := by rw [← hV_V_6]; exact hR_3.m
      have hm_7 : V_6 mo = some (.inr (7, [.int 0, .int (ρ.s 1), .int (ρ.s 2), .int 0, .ref (ad 0), .ref (ad 1), .ref (ad 2), .ref (ad 3), .ref (ad 4), .ref (ad 5), .ref (ad 6), .ref (ad 7), .ref (ad 8), .int (ρ.s 4), .ref (ad 9), .ref (ad 10), .ref (ad 11), .ref (ad 12), .ref (ad 13), .ref (ad 14), .ref (ad 15), .ref (ad 16), .ref (ad 17), .ref (ad 18), .ref (ad 19), .ref (ad 20), .ref (ad 21), .ref (ad 22), .ref (ad 23), .ref (ad 24), .ref (ad 25)])) := hM_6.1
      have hm_7_0 : V_6 (ad 0) = some (eI k 8 (ρ.I 0)) := hM_6.a0
      have hm_7_1 : V_6 (ad 1) = some (eZ k 150 (ρ.I 1)) := hM_6.a1
      have hm_7_2 : V_6 (ad 2) = some (eI k 150 (ρ.I 2)) := hM_6.a2
      have hm_7_3 : V_6 (ad 3) = some (eI k 150 (ρ.I 3)) := hM_6.a3
      have hm_7_19 : V_6 (ad 19) = some (eI k 64 (ρ.I 19)) := hM_6.a19
      have hm_7_20 : V_6 (ad 20) = some (eZ k 1200 (ρ.I 20)) := hM_6.a20
      have hm_7_21 : V_6 (ad 21) = some (eI k 1200 (ρ.I 21)) := hM_6.a21
      have hm_7_22 : V_6 (ad 22) = some (eI k 1200 (ρ.I 22)) := hM_6.a22
      refine lv_aload_n hx hb d_Mo_version_45 rfl (lv_at hl 0 rfl) ?_
      refine gf_Mo_7 hx hb hW hown hG hV hm_7 d_Mo_version_46 ?_
      refine lv_bipush (v := 7) hx hb d_Mo_version_49 (by decide) ?_
      refine hv_iald hx hb hG.K hV 0 hm_7_0 rfl ((vp_in_nI (by omega) (by omega) : vp_in (nI 7) 8)) d_Mo_version_51 ?_
      rw [show (7 : Int32).toNatClampNeg = 7 from rfl]
      have hlt7 : n7 < 8 := by have q := bI_eq0.mp c_5; rw [en7] at q; have q2 := of_decide_eq_false q; exact Nat.lt_of_le_of_ne hn7 (fun z => q2 (by rw [z] <;> rfl))
      refine W.eq (g2 := F0 m 52 ls [.int (nI n7)]) (by rw [en7]) ?_
      refine lv_istore_n (lv' := [(1, .int (nI n7)), (0, .ref mo)]) hx hb d_Mo_version_52 rfl hl (by decide) rfl (fun ls hl => ?_)
      refine lv_aload_n hx hb d_Mo_version_53 rfl (lv_at hl 1 rfl) ?_
      refine gf_Mo_7 hx hb hW hown hG hV hm_7 d_Mo_version_54 ?_
      refine lv_bipush (v := 7) hx hb d_Mo_version_57 (by decide) ?_
      refine lv_dup2_11 hx hb d_Mo_version_59 rfl rfl ?_
      refine hv_iald hx hb hG.K hV 0 hm_7_0 rfl ((vp_in_nI (by omega) (by omega) : vp_in (nI 7) 8)) d_Mo_version_60 ?_
      rw [show (7 : Int32).toNatClampNeg = 7 from rfl]
      refine lv_iconst (v := 1) hx hb d_Mo_version_61 (by decide) ?_
      refine lv_iadd hx hb d_Mo_version_62 ?_
      refine hv_iast hx hb hG.K hV hS 0 hm_7_0 rfl ((vp_in_nI (by omega) (by omega) : vp_in (nI 7) 8)) d_Mo_version_63 (fun H locs hV hS => ?_)
      rw [show (7 : Int32).toNatClampNeg = 7 from rfl] at hV
      replace hV : hv D vwCl N0 (hu V_6 (ad 0) (eI k 8 (upd (ρ.I 0) 7 (((ρ.I 0) 7) + 1)))) H := hV
      generalize hV_V_8 : hu V_6 (ad 0) (eI k 8 (upd (ρ.I 0) 7 (((ρ.I 0) 7) + 1))) = V_8 at hV
      have hM_8 : mdOk k V_8 mo ad (((ρ.ws 0 0).ws 3 0).wI 0 (upd (ρ.I 0) 7 (((ρ.I 0) 7) + 1))) := by rw [← hV_V_8]; exact md_set hM_6 0 (by omega) (upd (ρ.I 0) 7 (((ρ.I 0) 7) + 1))
      have hR_8 : mdFr mo ad V V_8 := by rw [← hV_V_8]; exact hR_6.ar (j := 0) (by omega)
      have hm_9 : V_8 mo = some (.inr (7, [.int 0, .int (ρ.s 1), .int (ρ.s 2), .int 0, .ref (ad 0), .ref (ad 1), .ref (ad 2), .ref (ad 3), .ref (ad 4), .ref (ad 5), .ref (ad 6), .ref (ad 7), .ref (ad 8), .int (ρ.s 4), .ref (ad 9), .ref (ad 10), .ref (ad 11), .ref (ad 12), .ref (ad 13), .ref (ad 14), .ref (ad 15), .ref (ad 16), .ref (ad 17), .ref (ad 18), .ref (ad 19), .ref (ad 20), .ref (ad 21), .ref (ad 22), .ref (ad 23), .ref (ad 24), .ref (ad 25)])) := hM_8.1
      have hm_9_0 : V_8 (ad 0) = some (eI k 8 (upd (ρ.I 0) 7 (((ρ.I 0) 7) + 1))) := hM_8.a0
      have hm_9_1 : V_8 (ad 1) = some (eZ k 150 (ρ.I 1)) := hM_8.a1
      have hm_9_2 : V_8 (ad 2) = some (eI k 150 (ρ.I 2)) := hM_8.a2
      have hm_9_3 : V_8 (ad 3) = some (eI k 150 (ρ.I 3)) := hM_8.a3
      have hm_9_19 : V_8 (ad 19) = some (eI k 64 (ρ.I 19)) := hM_8.a19
      have hm_9_20 : V_8 (ad 20) = some (eZ k 1200 (ρ.I 20)) := hM_8.a20
      have hm_9_21 : V_8 (ad 21) = some (eI k 1200 (ρ.I 21)) := hM_8.a21
      have hm_9_22 : V_8 (ad 22) = some (eI k 1200 (ρ.I 22)) := hM_8.a22
      refine lv_iconst (v := 0) hx hb d_Mo_version_64 (by decide) ?_
      refine lv_istore_n (lv' := [(2, .int 0), (1, .int (nI n7)), (0, .ref mo)]) hx hb d_Mo_version_65 rfl hl (by decide) rfl (fun ls hl => ?_)
      have loop_10 : ∀ (n i : Nat) (V1 : HV) (g : Nat → Int32) (H : Heap) (locs : List Loc) (ls : Array Slot), i ≤ 8 → 8 + 1 ≤ i + n → (mdOk k V1 mo ad ((((ρ.ws 0 0).ws 3 0).wI 0 (upd (ρ.I 0) 7 (((ρ.I 0) 7) + 1))).wI 19 g) ∧ mdFr mo ad V V1 ∧ (∀ q, q < i → g (8 * n7 + q) = (upd (ρ.I 0) 7 (((ρ.I 0) 7) + 1)) q) ∧ ∀ j, j < 8 * n7 → g j = ρ.I 19 j) → hv D vwCl N0 V1 H → va_S (hA N0) s.heap H locs → lv_has ls 3 [(0, .ref mo), (1, .int (nI n7)), (2, .int (nI i))] → W p l e (headSpec (.code y_Mo_version b_Mo_version 3 (some .int) :: WS) ({ frames := 2, cells := 0, slots := 0, locals := 41 })).room s m #[.ref mo] below meth c H locs 0 0 (MQ below (va_Qi (fun r V' => ((anyF (moOpn ρ.I) 0 10 = true ∧ r = 0 ∧ mdOk k V' mo ad (ρ.ws 0 1)) ∨ (anyF (moOpn ρ.I) 0 10 = false ∧ ρ.I 0 7 = nI (liN 7) ∧ r = -1 ∧ mdOk k V' mo ad ((ρ.ws 0 0).ws 3 1)) ∨ (anyF (moOpn ρ.I) 0 10 = false ∧ ¬ ρ.I 0 7 = nI (liN 7) ∧ r = 7000 + nI n7 ∧ ∃ g0 g1 g2 g3, mdOk k V' mo ad (moVrS ρ g0 g1 g2 g3) ∧ moVrP ρ n7 g0 g1 g2 g3)) ∧ mdFr mo ad V V') (mB D N0) (hA N0)) #[.ref mo] s 0 0 (hA N0)) (F0 m 66 ls []) := by
        intro n
        induction n with
        | zero => intro i V1 g H locs ls h1 h2; exact absurd h2 (by omega)
        | succ n ih =>
          intro i V1 g H locs ls hi hin hI hV hS hl
          obtain ⟨hM1, hR1, hA1, hB1⟩ := hI
          have hm_11 : V1 mo = some (.inr (7, [.int 0, .int (ρ.s 1), .int (ρ.s 2), .int 0, .ref (ad 0), .ref (ad 1), .ref (ad 2), .ref (ad 3), .ref (ad 4), .ref (ad 5), .ref (ad 6), .ref (ad 7), .ref (ad 8), .int (ρ.s 4), .ref (ad 9), .ref (ad 10), .ref (ad 11), .ref (ad 12), .ref (ad 13), .ref (ad 14), .ref (ad 15), .ref (ad 16), .ref (ad 17), .ref (ad 18), .ref (ad 19), .ref (ad 20), .ref (ad 21), .ref (ad 22), .ref (ad 23), .ref (ad 24), .ref (ad 25)])) := hM1.1
          have hm_11_0 : V1 (ad 0) = some (eI k 8 (upd (ρ.I 0) 7 (((ρ.I 0) 7) + 1))) := hM1.a0
          have hm_11_1 : V1 (ad 1) = some (eZ k 150 (ρ.I 1)) := hM1.a1
          have hm_11_2 : V1 (ad 2) = some (eI k 150 (ρ.I 2)) := hM1.a2
          have hm_11_3 : V1 (ad 3) = some (eI k 150 (ρ.I 3)) := hM1.a3
          have hm_11_19 : V1 (ad 19) = some (eI k 64 g) := hM1.a19
          have hm_11_20 : V1 (ad 20) = some (eZ k 1200 (ρ.I 20)) := hM1.a20
          have hm_11_21 : V1 (ad 21) = some (eI k 1200 (ρ.I 21)) := hM1.a21
          have hm_11_22 : V1 (ad 22) = some (eI k 1200 (ρ.I 22)) := hM1.a22
          refine lv_iload_n hx hb d_Mo_version_66 rfl (lv_at hl 2 rfl) ?_
          refine lv_bipush (v := 8) hx hb d_Mo_version_67 (by decide) ?_
          refine lv_icmp_ge (tgt := 95) hx hb d_Mo_version_69 (by decide) (fun c_12 => ?_) (fun c_12 => ?_)
          · have hge : 8 ≤ i := nI_le' c_12 (by omega) (by omega)
            refine lv_iconst (v := 0) hx hb d_Mo_version_95 (by decide) ?_
            refine lv_istore_n (lv' := [(2, .int 0), (0, .ref mo), (1, .int (nI n7))]) hx hb d_Mo_version_96 rfl hl (by decide) rfl (fun ls hl => ?_)
            have loop_13 : ∀ (nz iz : Nat) (V1z : HV) (g1 g2 g3 : Nat → Int32) (H : Heap) (locs : List Loc) (ls : Array Slot), iz ≤ 150 → 150 + 1 ≤ iz + nz → (mdOk k V1z mo ad (((((((ρ.ws 0 0).ws 3 0).wI 0 (upd (ρ.I 0) 7 (((ρ.I 0) 7) + 1))).wI 19 g).wI 20 g1).wI 21 g2).wI 22 g3) ∧ mdFr mo ad V V1z ∧ (∀ q, q < iz → g1 (150 * n7 + q) = (ρ.I 1) q) ∧ (∀ q, q < iz → g2 (150 * n7 + q) = (ρ.I 2) q) ∧ (∀ q, q < iz → g3 (150 * n7 + q) = (ρ.I 3) q) ∧ ∀ j, j < 150 * n7 → g1 j = ρ.I 20 j ∧ g2 j = ρ.I 21 j ∧ g3 j = ρ.I 22 j) → hv D vwCl N0 V1z H → va_S (hA N0) s.heap H locs → lv_has ls 3 [(0, .ref mo), (1, .int (nI n7)), (2, .int (nI iz))] → W p l e (headSpec (.code y_Mo_version b_Mo_version 3 (some .int) :: WS) ({ frames := 2, cells := 0, slots := 0, locals := 41 })).room s m #[.ref mo] below meth c H locs 0 0 (MQ below (va_Qi (fun r V' => ((anyF (moOpn ρ.I) 0 10 = true ∧ r = 0 ∧ mdOk k V' mo ad (ρ.ws 0 1)) ∨ (anyF (moOpn ρ.I) 0 10 = false ∧ ρ.I 0 7 = nI (liN 7) ∧ r = -1 ∧ mdOk k V' mo ad ((ρ.ws 0 0).ws 3 1)) ∨ (anyF (moOpn ρ.I) 0 10 = false ∧ ¬ ρ.I 0 7 = nI (liN 7) ∧ r = 7000 + nI n7 ∧ ∃ g0 g1 g2 g3, mdOk k V' mo ad (moVrS ρ g0 g1 g2 g3) ∧ moVrP ρ n7 g0 g1 g2 g3)) ∧ mdFr mo ad V V') (mB D N0) (hA N0)) #[.ref mo] s 0 0 (hA N0)) (F0 m 97 ls []) := by
              intro nz
              induction nz with
              | zero => intro iz V1z g1 g2 g3 H locs ls h1 h2; exact absurd h2 (by omega)
              | succ nz ihz =>
                intro iz V1z g1 g2 g3 H locs ls hiz hinz hIz hV hS hl
                obtain ⟨hM2, hR2, hA2, hB2, hC2, hD2⟩ := hIz
                have hm_14 : V1z mo = some (.inr (7, [.int 0, .int (ρ.s 1), .int (ρ.s 2), .int 0, .ref (ad 0), .ref (ad 1), .ref (ad 2), .ref (ad 3), .ref (ad 4), .ref (ad 5), .ref (ad 6), .ref (ad 7), .ref (ad 8), .int (ρ.s 4), .ref (ad 9), .ref (ad 10), .ref (ad 11), .ref (ad 12), .ref (ad 13), .ref (ad 14), .ref (ad 15), .ref (ad 16), .ref (ad 17), .ref (ad 18), .ref (ad 19), .ref (ad 20), .ref (ad 21), .ref (ad 22), .ref (ad 23), .ref (ad 24), .ref (ad 25)])) := hM2.1
                have hm_14_0 : V1z (ad 0) = some (eI k 8 (upd (ρ.I 0) 7 (((ρ.I 0) 7) + 1))) := hM2.a0
                have hm_14_1 : V1z (ad 1) = some (eZ k 150 (ρ.I 1)) := hM2.a1
                have hm_14_2 : V1z (ad 2) = some (eI k 150 (ρ.I 2)) := hM2.a2
                have hm_14_3 : V1z (ad 3) = some (eI k 150 (ρ.I 3)) := hM2.a3
                have hm_14_19 : V1z (ad 19) = some (eI k 64 g) := hM2.a19
                have hm_14_20 : V1z (ad 20) = some (eZ k 1200 g1) := hM2.a20
                have hm_14_21 : V1z (ad 21) = some (eI k 1200 g2) := hM2.a21
                have hm_14_22 : V1z (ad 22) = some (eI k 1200 g3) := hM2.a22
                refine lv_iload_n hx hb d_Mo_version_97 rfl (lv_at hl 2 rfl) ?_
                refine lv_sipush (v := 150) hx hb d_Mo_version_98 (by decide) ?_
                refine lv_icmp_ge (tgt := 164) hx hb d_Mo_version_101 (by decide) (fun c_15 => ?_) (fun c_15 => ?_)
                · have hgez : 150 ≤ iz := nI_le' (a := 150) (b := iz) c_15 (by omega) (by omega)
                  refine lv_sipush (v := 7000) hx hb d_Mo_version_164 (by decide) ?_
                  refine lv_iload_n hx hb d_Mo_version_167 rfl (lv_at hl 1 rfl) ?_
                  refine lv_iadd hx hb d_Mo_version_168 ?_
                  simp only [bI_ne0, bI_eq0, decide_eq_false_iff_not] at c_2 c_5
                  exact W.iret (v := (7000 + (nI n7))) hx hb hr (fun t9 ht hW => ⟨⟨(7000 + (nI n7)), V1z, rfl, ⟨Or.inr (Or.inr ⟨c_2, c_5, rfl, g, g1, g2, g3, hM2, fun q hq => hA1 q (by omega), hB1, fun q hq => ⟨hA2 q (by omega), hB2 q (by omega), hC2 q (by omega)⟩, hD2⟩), hR2⟩, mB_of ht hV⟩, hS.F ht⟩) hS.2.2 d_Mo_version_169
                · have hltz : iz < 150 := nI_nle' (a := 150) (b := iz) c_15 (by omega) (by omega)
                  refine lv_aload_n hx hb d_Mo_version_104 rfl (lv_at hl 0 rfl) ?_
                  refine gf_Mo_75 hx hb hW hown hG hV hm_14 d_Mo_version_105 ?_
                  refine lv_sipush (v := 150) hx hb d_Mo_version_108 (by decide) ?_
                  refine lv_iload_n hx hb d_Mo_version_111 rfl (lv_at hl 1 rfl) ?_
                  refine lv_imul hx hb d_Mo_version_112 ?_
                  refine lv_iload_n hx hb d_Mo_version_113 rfl (lv_at hl 2 rfl) ?_
                  refine lv_iadd hx hb d_Mo_version_114 ?_
                  have hk_16 : (150 : Int32) * nI n7 + nI iz = nI (150 * n7 + iz) := by rw [show (150 : Int32) = nI 150 from rfl, nI_mulN, nI_add]
                  rw [hk_16]
                  refine W.eq (g2 := F0 m 115 ls [.int (nI (150 * n7 + iz)), .ref (ad 20)]) rfl ?_
                  refine lv_aload_n hx hb d_Mo_version_115 rfl (lv_at hl 0 rfl) ?_
                  refine gf_Mo_13 hx hb hW hown hG hV hm_14 d_Mo_version_116 ?_
                  refine lv_iload_n hx hb d_Mo_version_119 rfl (lv_at hl 2 rfl) ?_
                  refine hv_zald hx hb hG.K hV 2 hm_14_1 rfl (vp_in_nI (by omega) (by omega)) d_Mo_version_120 ?_
                  rw [nI_clamp (by omega)]
                  refine hv_zast hx hb hG.K hV hS 2 hm_14_20 rfl (hz1 _) (vp_in_nI (by omega) (by omega)) d_Mo_version_121 (fun H locs hV hS => ?_)
                  rw [nI_clamp (by omega)] at hV
                  replace hV : hv D vwCl N0 (hu V1z (ad 20) (eZ k 1200 (upd g1 (150 * n7 + iz) ((ρ.I 1) iz)))) H := hV
                  generalize hV_V_17 : hu V1z (ad 20) (eZ k 1200 (upd g1 (150 * n7 + iz) ((ρ.I 1) iz))) = V_17 at hV
                  have hM_17 : mdOk k V_17 mo ad ((((((((ρ.ws 0 0).ws 3 0).wI 0 (upd (ρ.I 0) 7 (((ρ.I 0) 7) + 1))).wI 19 g).wI 20 g1).wI 21 g2).wI 22 g3).wI 20 (upd g1 (150 * n7 + iz) ((ρ.I 1) iz))) := by rw [← hV_V_17]; exact md_set hM2 20 (by omega) (upd g1 (150 * n7 + iz) ((ρ.I 1) iz))
                  have hR_17 : mdFr mo ad V V_17 := by rw [← hV_V_17]; exact hR2.ar (j := 20) (by omega)
                  have hm_18 : V_17 mo = some (.inr (7, [.int 0, .int (ρ.s 1), .int (ρ.s 2), .int 0, .ref (ad 0), .ref (ad 1), .ref (ad 2), .ref (ad 3), .ref (ad 4), .ref (ad 5), .ref (ad 6), .ref (ad 7), .ref (ad 8), .int (ρ.s 4), .ref (ad 9), .ref (ad 10), .ref (ad 11), .ref (ad 12), .ref (ad 13), .ref (ad 14), .ref (ad 15), .ref (ad 16), .ref (ad 17), .ref (ad 18), .ref (ad 19), .ref (ad 20), .ref (ad 21), .ref (ad 22), .ref (ad 23), .ref (ad 24), .ref (ad 25)])) := hM_17.1
                  have hm_18_0 : V_17 (ad 0) = some (eI k 8 (upd (ρ.I 0) 7 (((ρ.I 0) 7) + 1))) := hM_17.a0
                  have hm_18_1 : V_17 (ad 1) = some (eZ k 150 (ρ.I 1)) := hM_17.a1
                  have hm_18_2 : V_17 (ad 2) = some (eI k 150 (ρ.I 2)) := hM_17.a2
                  have hm_18_3 : V_17 (ad 3) = some (eI k 150 (ρ.I 3)) := hM_17.a3
                  have hm_18_19 : V_17 (ad 19) = some (eI k 64 g) := hM_17.a19
                  have hm_18_20 : V_17 (ad 20) = some (eZ k 1200 (upd g1 (150 * n7 + iz) ((ρ.I 1) iz))) := hM_17.a20
                  have hm_18_21 : V_17 (ad 21) = some (eI k 1200 g2) := hM_17.a21
                  have hm_18_22 : V_17 (ad 22) = some (eI k 1200 g3) := hM_17.a22
                  refine lv_aload_n hx hb d_Mo_version_122 rfl (lv_at hl 0 rfl) ?_
                  refine gf_Mo_78 hx hb hW hown hG hV hm_18 d_Mo_version_123 ?_
                  refine lv_sipush (v := 150) hx hb d_Mo_version_126 (by decide) ?_
                  refine lv_iload_n hx hb d_Mo_version_129 rfl (lv_at hl 1 rfl) ?_
                  refine lv_imul hx hb d_Mo_version_130 ?_
                  refine lv_iload_n hx hb d_Mo_version_131 rfl (lv_at hl 2 rfl) ?_
                  refine lv_iadd hx hb d_Mo_version_132 ?_
                  have hk_19 : (150 : Int32) * nI n7 + nI iz = nI (150 * n7 + iz) := by rw [show (150 : Int32) = nI 150 from rfl, nI_mulN, nI_add]
                  rw [hk_19]
                  refine W.eq (g2 := F0 m 133 ls [.int (nI (150 * n7 + iz)), .ref (ad 21)]) rfl ?_
                  refine lv_aload_n hx hb d_Mo_version_133 rfl (lv_at hl 0 rfl) ?_
                  refine gf_Mo_17 hx hb hW hown hG hV hm_18 d_Mo_version_134 ?_
                  refine lv_iload_n hx hb d_Mo_version_137 rfl (lv_at hl 2 rfl) ?_
                  refine hv_iald hx hb hG.K hV 0 hm_18_2 rfl (vp_in_nI (by omega) (by omega)) d_Mo_version_138 ?_
                  rw [nI_clamp (by omega)]
                  refine hv_iast hx hb hG.K hV hS 0 hm_18_21 rfl (vp_in_nI (by omega) (by omega)) d_Mo_version_139 (fun H locs hV hS => ?_)
                  rw [nI_clamp (by omega)] at hV
                  replace hV : hv D vwCl N0 (hu V_17 (ad 21) (eI k 1200 (upd g2 (150 * n7 + iz) ((ρ.I 2) iz)))) H := hV
                  generalize hV_V_20 : hu V_17 (ad 21) (eI k 1200 (upd g2 (150 * n7 + iz) ((ρ.I 2) iz))) = V_20 at hV
                  have hM_20 : mdOk k V_20 mo ad (((((((((ρ.ws 0 0).ws 3 0).wI 0 (upd (ρ.I 0) 7 (((ρ.I 0) 7) + 1))).wI 19 g).wI 20 g1).wI 21 g2).wI 22 g3).wI 20 (upd g1 (150 * n7 + iz) ((ρ.I 1) iz))).wI 21 (upd g2 (150 * n7 + iz) ((ρ.I 2) iz))) := by rw [← hV_V_20]; exact md_set hM_17 21 (by omega) (upd g2 (150 * n7 + iz) ((ρ.I 2) iz))
                  have hR_20 : mdFr mo ad V V_20 := by rw [← hV_V_20]; exact hR_17.ar (j := 21) (by omega)
                  have hm_21 : V_20 mo = some (.inr (7, [.int 0, .int (ρ.s 1), .int (ρ.s 2), .int 0, .ref (ad 0), .ref (ad 1), .ref (ad 2), .ref (ad 3), .ref (ad 4), .ref (ad 5), .ref (ad 6), .ref (ad 7), .ref (ad 8), .int (ρ.s 4), .ref (ad 9), .ref (ad 10), .ref (ad 11), .ref (ad 12), .ref (ad 13), .ref (ad 14), .ref (ad 15), .ref (ad 16), .ref (ad 17), .ref (ad 18), .ref (ad 19), .ref (ad 20), .ref (ad 21), .ref (ad 22), .ref (ad 23), .ref (ad 24), .ref (ad 25)])) := hM_20.1
                  have hm_21_0 : V_20 (ad 0) = some (eI k 8 (upd (ρ.I 0) 7 (((ρ.I 0) 7) + 1))) := hM_20.a0
                  have hm_21_1 : V_20 (ad 1) = some (eZ k 150 (ρ.I 1)) := hM_20.a1
                  have hm_21_2 : V_20 (ad 2) = some (eI k 150 (ρ.I 2)) := hM_20.a2
                  have hm_21_3 : V_20 (ad 3) = some (eI k 150 (ρ.I 3)) := hM_20.a3
                  have hm_21_19 : V_20 (ad 19) = some (eI k 64 g) := hM_20.a19
                  have hm_21_20 : V_20 (ad 20) = some (eZ k 1200 (upd g1 (150 * n7 + iz) ((ρ.I 1) iz))) := hM_20.a20
                  have hm_21_21 : V_20 (ad 21) = some (eI k 1200 (upd g2 (150 * n7 + iz) ((ρ.I 2) iz))) := hM_20.a21
                  have hm_21_22 : V_20 (ad 22) = some (eI k 1200 g3) := hM_20.a22
                  refine lv_aload_n hx hb d_Mo_version_140 rfl (lv_at hl 0 rfl) ?_
                  refine gf_Mo_81 hx hb hW hown hG hV hm_21 d_Mo_version_141 ?_
                  refine lv_sipush (v := 150) hx hb d_Mo_version_144 (by decide) ?_
                  refine lv_iload_n hx hb d_Mo_version_147 rfl (lv_at hl 1 rfl) ?_
                  refine lv_imul hx hb d_Mo_version_148 ?_
                  refine lv_iload_n hx hb d_Mo_version_149 rfl (lv_at hl 2 rfl) ?_
                  refine lv_iadd hx hb d_Mo_version_150 ?_
                  have hk_22 : (150 : Int32) * nI n7 + nI iz = nI (150 * n7 + iz) := by rw [show (150 : Int32) = nI 150 from rfl, nI_mulN, nI_add]
                  rw [hk_22]
                  refine W.eq (g2 := F0 m 151 ls [.int (nI (150 * n7 + iz)), .ref (ad 22)]) rfl ?_
                  refine lv_aload_n hx hb d_Mo_version_151 rfl (lv_at hl 0 rfl) ?_
                  refine gf_Mo_20 hx hb hW hown hG hV hm_21 d_Mo_version_152 ?_
                  refine lv_iload_n hx hb d_Mo_version_155 rfl (lv_at hl 2 rfl) ?_
                  refine hv_iald hx hb hG.K hV 0 hm_21_3 rfl (vp_in_nI (by omega) (by omega)) d_Mo_version_156 ?_
                  rw [nI_clamp (by omega)]
                  refine hv_iast hx hb hG.K hV hS 0 hm_21_22 rfl (vp_in_nI (by omega) (by omega)) d_Mo_version_157 (fun H locs hV hS => ?_)
                  rw [nI_clamp (by omega)] at hV
                  replace hV : hv D vwCl N0 (hu V_20 (ad 22) (eI k 1200 (upd g3 (150 * n7 + iz) ((ρ.I 3) iz)))) H := hV
                  generalize hV_V_23 : hu V_20 (ad 22) (eI k 1200 (upd g3 (150 * n7 + iz) ((ρ.I 3) iz))) = V_23 at hV
                  have hM_23 : mdOk k V_23 mo ad ((((((((((ρ.ws 0 0).ws 3 0).wI 0 (upd (ρ.I 0) 7 (((ρ.I 0) 7) + 1))).wI 19 g).wI 20 g1).wI 21 g2).wI 22 g3).wI 20 (upd g1 (150 * n7 + iz) ((ρ.I 1) iz))).wI 21 (upd g2 (150 * n7 + iz) ((ρ.I 2) iz))).wI 22 (upd g3 (150 * n7 + iz) ((ρ.I 3) iz))) := by rw [← hV_V_23]; exact md_set hM_20 22 (by omega) (upd g3 (150 * n7 + iz) ((ρ.I 3) iz))
                  have hR_23 : mdFr mo ad V V_23 := by rw [← hV_V_23]; exact hR_20.ar (j := 22) (by omega)
                  have hm_24 : V_23 mo = some (.inr (7, [.int 0, .int (ρ.s 1), .int (ρ.s 2), .int 0, .ref (ad 0), .ref (ad 1), .ref (ad 2), .ref (ad 3), .ref (ad 4), .ref (ad 5), .ref (ad 6), .ref (ad 7), .ref (ad 8), .int (ρ.s 4), .ref (ad 9), .ref (ad 10), .ref (ad 11), .ref (ad 12), .ref (ad 13), .ref (ad 14), .ref (ad 15), .ref (ad 16), .ref (ad 17), .ref (ad 18), .ref (ad 19), .ref (ad 20), .ref (ad 21), .ref (ad 22), .ref (ad 23), .ref (ad 24), .ref (ad 25)])) := hM_23.1
                  have hm_24_0 : V_23 (ad 0) = some (eI k 8 (upd (ρ.I 0) 7 (((ρ.I 0) 7) + 1))) := hM_23.a0
                  have hm_24_1 : V_23 (ad 1) = some (eZ k 150 (ρ.I 1)) := hM_23.a1
                  have hm_24_2 : V_23 (ad 2) = some (eI k 150 (ρ.I 2)) := hM_23.a2
                  have hm_24_3 : V_23 (ad 3) = some (eI k 150 (ρ.I 3)) := hM_23.a3
                  have hm_24_19 : V_23 (ad 19) = some (eI k 64 g) := hM_23.a19
                  have hm_24_20 : V_23 (ad 20) = some (eZ k 1200 (upd g1 (150 * n7 + iz) ((ρ.I 1) iz))) := hM_23.a20
                  have hm_24_21 : V_23 (ad 21) = some (eI k 1200 (upd g2 (150 * n7 + iz) ((ρ.I 2) iz))) := hM_23.a21
                  have hm_24_22 : V_23 (ad 22) = some (eI k 1200 (upd g3 (150 * n7 + iz) ((ρ.I 3) iz))) := hM_23.a22
                  obtain ⟨i_25, ei_25⟩ : ∃ y : Int32, y = (nI iz) + 1 := ⟨_, rfl⟩
                  refine lv_iinc (v := i_25) (lv' := [(2, .int i_25), (0, .ref mo), (1, .int (nI n7))]) hx hb d_Mo_version_158 hl (k := 2) rfl (by rw [ei_25]; rfl) (by decide) rfl (fun ls hl => ?_)
                  refine lv_goto (tgt := 97) hx hb d_Mo_version_161 (by decide) ?_
                  rw [nI_1] at ei_25
                  subst ei_25
                  exact ihz (iz + 1) V_23 (upd g1 (150 * n7 + iz) ((ρ.I 1) iz)) (upd g2 (150 * n7 + iz) ((ρ.I 2) iz)) (upd g3 (150 * n7 + iz) ((ρ.I 3) iz)) _ _ _ (by omega) (by omega) (⟨by have q := hM_23; rw [wI_w3] at q; exact q, hR_23, vr_s hA2, vr_s hB2, vr_s hC2, fun j hj => by rw [up_n (by omega), up_n (by omega), up_n (by omega)]; exact hD2 j hj⟩) hV hS (lv_sub hl [1, 2, 0] rfl)
            exact loop_13 (150 + 1 - 0) 0 V1 (ρ.I 20) (ρ.I 21) (ρ.I 22) _ _ _ (by omega) (by omega) (⟨by have q1 := wI_self (ρ := ((((ρ.ws 0 0).ws 3 0).wI 0 (upd (ρ.I 0) 7 (((ρ.I 0) 7) + 1))).wI 19 g)) (j := 20); have q2 := wI_self (ρ := ((((ρ.ws 0 0).ws 3 0).wI 0 (upd (ρ.I 0) 7 (((ρ.I 0) 7) + 1))).wI 19 g)) (j := 21); have q3 := wI_self (ρ := ((((ρ.ws 0 0).ws 3 0).wI 0 (upd (ρ.I 0) 7 (((ρ.I 0) 7) + 1))).wI 19 g)) (j := 22); show mdOk k _ mo ad (((((((ρ.ws 0 0).ws 3 0).wI 0 (upd (ρ.I 0) 7 (((ρ.I 0) 7) + 1))).wI 19 g).wI 20 (((((ρ.ws 0 0).ws 3 0).wI 0 (upd (ρ.I 0) 7 (((ρ.I 0) 7) + 1))).wI 19 g).I 20)).wI 21 (((((ρ.ws 0 0).ws 3 0).wI 0 (upd (ρ.I 0) 7 (((ρ.I 0) 7) + 1))).wI 19 g).I 21)).wI 22 (((((ρ.ws 0 0).ws 3 0).wI 0 (upd (ρ.I 0) 7 (((ρ.I 0) 7) + 1))).wI 19 g).I 22)); rw [q1, q2, q3]; exact hM1, hR1, fun q hq => by omega, fun q hq => by omega, fun q hq => by omega, fun _ _ => ⟨rfl, rfl, rfl⟩⟩) hV hS (lv_sub hl [1, 2, 0] rfl)
          · have hlt : i < 8 := nI_nle' c_12 (by omega) (by omega)
            refine lv_aload_n hx hb d_Mo_version_72 rfl (lv_at hl 0 rfl) ?_
            refine gf_Mo_72 hx hb hW hown hG hV hm_11 d_Mo_version_73 ?_
            refine lv_bipush (v := 8) hx hb d_Mo_version_76 (by decide) ?_
            refine lv_iload_n hx hb d_Mo_version_78 rfl (lv_at hl 1 rfl) ?_
            refine lv_imul hx hb d_Mo_version_79 ?_
            refine lv_iload_n hx hb d_Mo_version_80 rfl (lv_at hl 2 rfl) ?_
            refine lv_iadd hx hb d_Mo_version_81 ?_
            have hk_26 : (8 : Int32) * nI n7 + nI i = nI (8 * n7 + i) := by rw [show (8 : Int32) = nI 8 from rfl, nI_mulN, nI_add]
            rw [hk_26]
            refine W.eq (g2 := F0 m 82 ls [.int (nI (8 * n7 + i)), .ref (ad 19)]) rfl ?_
            refine lv_aload_n hx hb d_Mo_version_82 rfl (lv_at hl 0 rfl) ?_
            refine gf_Mo_7 hx hb hW hown hG hV hm_11 d_Mo_version_83 ?_
            refine lv_iload_n hx hb d_Mo_version_86 rfl (lv_at hl 2 rfl) ?_
            refine hv_iald hx hb hG.K hV 0 hm_11_0 rfl (vp_in_nI (by omega) (by omega)) d_Mo_version_87 ?_
            rw [nI_clamp (by omega)]
            refine hv_iast hx hb hG.K hV hS 0 hm_11_19 rfl (vp_in_nI (by omega) (by omega)) d_Mo_version_88 (fun H locs hV hS => ?_)
            rw [nI_clamp (by omega)] at hV
            replace hV : hv D vwCl N0 (hu V1 (ad 19) (eI k 64 (upd g (8 * n7 + i) ((upd (ρ.I 0) 7 (((ρ.I 0) 7) + 1)) i)))) H := hV
            generalize hV_V_27 : hu V1 (ad 19) (eI k 64 (upd g (8 * n7 + i) ((upd (ρ.I 0) 7 (((ρ.I 0) 7) + 1)) i))) = V_27 at hV
            have hM_27 : mdOk k V_27 mo ad (((((ρ.ws 0 0).ws 3 0).wI 0 (upd (ρ.I 0) 7 (((ρ.I 0) 7) + 1))).wI 19 g).wI 19 (upd g (8 * n7 + i) ((upd (ρ.I 0) 7 (((ρ.I 0) 7) + 1)) i))) := by rw [← hV_V_27]; exact md_set hM1 19 (by omega) (upd g (8 * n7 + i) ((upd (ρ.I 0) 7 (((ρ.I 0) 7) + 1)) i))
            have hR_27 : mdFr mo ad V V_27 := by rw [← hV_V_27]; exact hR1.ar (j := 19) (by omega)
            have hm_28 : V_27 mo = some (.inr (7, [.int 0, .int (ρ.s 1), .int (ρ.s 2), .int 0, .ref (ad 0), .ref (ad 1), .ref (ad 2), .ref (ad 3), .ref (ad 4), .ref (ad 5), .ref (ad 6), .ref (ad 7), .ref (ad 8), .int (ρ.s 4), .ref (ad 9), .ref (ad 10), .ref (ad 11), .ref (ad 12), .ref (ad 13), .ref (ad 14), .ref (ad 15), .ref (ad 16), .ref (ad 17), .ref (ad 18), .ref (ad 19), .ref (ad 20), .ref (ad 21), .ref (ad 22), .ref (ad 23), .ref (ad 24), .ref (ad 25)])) := hM_27.1
            have hm_28_0 : V_27 (ad 0) = some (eI k 8 (upd (ρ.I 0) 7 (((ρ.I 0) 7) + 1))) := hM_27.a0
            have hm_28_1 : V_27 (ad 1) = some (eZ k 150 (ρ.I 1)) := hM_27.a1
            have hm_28_2 : V_27 (ad 2) = some (eI k 150 (ρ.I 2)) := hM_27.a2
            have hm_28_3 : V_27 (ad 3) = some (eI k 150 (ρ.I 3)) := hM_27.a3
            have hm_28_19 : V_27 (ad 19) = some (eI k 64 (upd g (8 * n7 + i) ((upd (ρ.I 0) 7 (((ρ.I 0) 7) + 1)) i))) := hM_27.a19
            have hm_28_20 : V_27 (ad 20) = some (eZ k 1200 (ρ.I 20)) := hM_27.a20
            have hm_28_21 : V_27 (ad 21) = some (eI k 1200 (ρ.I 21)) := hM_27.a21
            have hm_28_22 : V_27 (ad 22) = some (eI k 1200 (ρ.I 22)) := hM_27.a22
            obtain ⟨i_29, ei_29⟩ : ∃ y : Int32, y = (nI i) + 1 := ⟨_, rfl⟩
            refine lv_iinc (v := i_29) (lv' := [(2, .int i_29), (0, .ref mo), (1, .int (nI n7))]) hx hb d_Mo_version_89 hl (k := 2) rfl (by rw [ei_29]; rfl) (by decide) rfl (fun ls hl => ?_)
            refine lv_goto (tgt := 66) hx hb d_Mo_version_92 (by decide) ?_
            rw [nI_1] at ei_29
            subst ei_29
            exact ih (i + 1) V_27 (upd g (8 * n7 + i) ((upd (ρ.I 0) 7 (((ρ.I 0) 7) + 1)) i)) _ _ _ (by omega) (by omega) (⟨by have q := hM_27; rw [wI_wI] at q; exact q, hR_27, vr_s hA1, fun j hj => by rw [up_n (by omega)]; exact hB1 j hj⟩) hV hS (lv_sub hl [1, 2, 0] rfl)
      exact loop_10 (8 + 1 - 0) 0 V_8 (ρ.I 19) _ _ _ (by omega) (by omega) (⟨by have q := wI_self (ρ := (((ρ.ws 0 0).ws 3 0).wI 0 (upd (ρ.I 0) 7 (((ρ.I 0) 7) + 1)))) (j := 19); show mdOk k _ mo ad ((((ρ.ws 0 0).ws 3 0).wI 0 (upd (ρ.I 0) 7 (((ρ.I 0) 7) + 1))).wI 19 ((((ρ.ws 0 0).ws 3 0).wI 0 (upd (ρ.I 0) 7 (((ρ.I 0) 7) + 1))).I 19)); rw [q]; exact hM_8, hR_8, fun q hq => by omega, fun _ _ => rfl⟩) hV hS (lv_sub hl [2, 1, 0] rfl)
    · refine lv_aload_n hx hb d_Mo_version_34 rfl (lv_at hl 0 rfl) ?_
      refine lv_iconst (v := 1) hx hb d_Mo_version_35 (by decide) ?_
      refine rc_I (va_runV (As := [.int 1]) (rest := []) ⟨hx, hb, hml, hown, hts⟩ (c_Mo_refuse l D N0 k V_3 mo ad (ρ.ws 0 0) hM_3 1) (cwV 1 hts (gi_V wm_Mo_155 wv_Mo_refuse ws_Mo_refuse wi_Mo wc_Mo_refuse) rfl rfl rfl (by decide +kernel) ⟨Nat.le_of_ble_eq_true rfl, Nat.le_of_ble_eq_true rfl⟩) (mP.preV hG hS hV hm_4 rfl) rfl rfl hl.1 rfl (lv_room (Nat.le_of_ble_eq_true rfl)) d_Mo_version_36 ⟨Nat.le_of_ble_eq_true rfl, Nat.le_of_ble_eq_true rfl⟩) hS (fun r_30 V_31 H locs hp_32 hV hS => ?_)
      obtain ⟨hM_33, hM_33R, hM_33e⟩ := hp_32
      subst hM_33e
      try simp only [bI_ne0, bI_eq0, decide_eq_true_eq, decide_eq_false_iff_not, Bool.not_eq_false, Bool.not_eq_true, Decidable.not_not] at c_2
      try simp only [bI_ne0, bI_eq0, decide_eq_true_eq, decide_eq_false_iff_not, Bool.not_eq_false, Bool.not_eq_true, Decidable.not_not] at c_5
      exact W.iret (v := (-1)) hx hb hr (fun t9 ht hW => ⟨⟨(-1), V_31, rfl, ⟨Or.inr (Or.inl ⟨c_2, c_5, rfl, hM_33⟩), hR_3.tr hM_33R⟩, mB_of ht hV⟩, hS.F ht⟩) hS.2.2 d_Mo_version_39
  · refine lv_iconst (v := 1) hx hb d_Mo_version_8 (by decide) ?_
    refine lv_goto (tgt := 13) hx hb d_Mo_version_9 (by decide) ?_
    refine pf_Mo_100 hx hb hW hown hG hV hS hm_1 d_Mo_version_13 (fun H locs hV hS => ?_)
    replace hV : hv D vwCl N0 (hu V mo (.inr (7, [.int 1, .int (ρ.s 1), .int (ρ.s 2), .int (ρ.s 3), .ref (ad 0), .ref (ad 1), .ref (ad 2), .ref (ad 3), .ref (ad 4), .ref (ad 5), .ref (ad 6), .ref (ad 7), .ref (ad 8), .int (ρ.s 4), .ref (ad 9), .ref (ad 10), .ref (ad 11), .ref (ad 12), .ref (ad 13), .ref (ad 14), .ref (ad 15), .ref (ad 16), .ref (ad 17), .ref (ad 18), .ref (ad 19), .ref (ad 20), .ref (ad 21), .ref (ad 22), .ref (ad 23), .ref (ad 24), .ref (ad 25)]))) H := hV
    generalize hV_V_34 : hu V mo (.inr (7, [.int 1, .int (ρ.s 1), .int (ρ.s 2), .int (ρ.s 3), .ref (ad 0), .ref (ad 1), .ref (ad 2), .ref (ad 3), .ref (ad 4), .ref (ad 5), .ref (ad 6), .ref (ad 7), .ref (ad 8), .int (ρ.s 4), .ref (ad 9), .ref (ad 10), .ref (ad 11), .ref (ad 12), .ref (ad 13), .ref (ad 14), .ref (ad 15), .ref (ad 16), .ref (ad 17), .ref (ad 18), .ref (ad 19), .ref (ad 20), .ref (ad 21), .ref (ad 22), .ref (ad 23), .ref (ad 24), .ref (ad 25)])) = V_34 at hV
    have hM_34 : mdOk k V_34 mo ad (ρ.ws 0 1) := by rw [← hV_V_34]; exact md_put hM 0 1
    have hR_34 : mdFr mo ad V V_34 := by rw [← hV_V_34]; exact (mdFr.rf (mo := mo) (ad := ad) (V := V)).m
    have hm_35 : V_34 mo = some (.inr (7, [.int 1, .int (ρ.s 1), .int (ρ.s 2), .int (ρ.s 3), .ref (ad 0), .ref (ad 1), .ref (ad 2), .ref (ad 3), .ref (ad 4), .ref (ad 5), .ref (ad 6), .ref (ad 7), .ref (ad 8), .int (ρ.s 4), .ref (ad 9), .ref (ad 10), .ref (ad 11), .ref (ad 12), .ref (ad 13), .ref (ad 14), .ref (ad 15), .ref (ad 16), .ref (ad 17), .ref (ad 18), .ref (ad 19), .ref (ad 20), .ref (ad 21), .ref (ad 22), .ref (ad 23), .ref (ad 24), .ref (ad 25)])) := hM_34.1
    have hm_35_0 : V_34 (ad 0) = some (eI k 8 (ρ.I 0)) := hM_34.a0
    have hm_35_1 : V_34 (ad 1) = some (eZ k 150 (ρ.I 1)) := hM_34.a1
    have hm_35_2 : V_34 (ad 2) = some (eI k 150 (ρ.I 2)) := hM_34.a2
    have hm_35_3 : V_34 (ad 3) = some (eI k 150 (ρ.I 3)) := hM_34.a3
    have hm_35_19 : V_34 (ad 19) = some (eI k 64 (ρ.I 19)) := hM_34.a19
    have hm_35_20 : V_34 (ad 20) = some (eZ k 1200 (ρ.I 20)) := hM_34.a20
    have hm_35_21 : V_34 (ad 21) = some (eI k 1200 (ρ.I 21)) := hM_34.a21
    have hm_35_22 : V_34 (ad 22) = some (eI k 1200 (ρ.I 22)) := hM_34.a22
    refine lv_aload_n hx hb d_Mo_version_16 rfl (lv_at hl 0 rfl) ?_
    refine gf_Mo_100 hx hb hW hown hG hV hm_35 d_Mo_version_17 ?_
    refine lv_if_eq (tgt := 25) hx hb d_Mo_version_20 (by decide) (fun q => absurd q (by decide)) (fun _ => ?_)
    refine lv_iconst (v := 0) hx hb d_Mo_version_23 (by decide) ?_
    try simp only [bI_ne0, bI_eq0, decide_eq_true_eq, decide_eq_false_iff_not, Bool.not_eq_false, Bool.not_eq_true, Decidable.not_not] at c_2
    exact W.iret (v := 0) hx hb hr (fun t9 ht hW => ⟨⟨0, V_34, rfl, ⟨Or.inl ⟨c_2, rfl, hM_34⟩, hR_34⟩, mB_of ht hV⟩, hS.F ht⟩) hS.2.2 d_Mo_version_24
