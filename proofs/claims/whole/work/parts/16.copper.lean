/-! The things of a board: f: where a slot's thing lies; ar: where its area lies; T: its numbers (0 kind, 1 number, 2 layer, 3 net, 4 part, 5 there, 6 to 9 the area) -/
abbrev eCo (ta : Nat) (lay : Int32) (ro on re : Nat) (g : Int32) : va_E := .inr (2, [.ref ta, .int lay, .ref ro, .ref on, .ref re, .int g])
abbrev eTs (k : Nat → Nat) (f : Nat → Option Nat) : va_E := .inl (k 3, 150, .inr (.inr (.inr (.inr f))))
abbrev eThT (T : Nat → Nat → Int32) (ar : Nat → Nat) (i : Nat) : va_E := eTh (T i 0) (T i 1) (ar i) (T i 2) (T i 3) (T i 4) (T i 5)
abbrev eArT (T : Nat → Nat → Int32) (i : Nat) : va_E := eAr (T i 6) (T i 7) (T i 8) (T i 9)
def tsOk (k : Nat → Nat) (V : HV) (ta : Nat) (f : Nat → Option Nat) (ar : Nat → Nat) (T : Nat → Nat → Int32) : Prop :=
  V ta = some (eTs k f) ∧ (∀ i t, i < 150 → f i = some t → V t = some (eThT T ar i) ∧ V (ar i) = some (eArT T i)) ∧ (∀ i, i < 150 → f i = none → T i 5 = 0)
def thO (f : Nat → Option Nat) (T : Nat → Nat → Int32) (i : Nat) : Option Nat := if T i 5 = 0 then none else f i
theorem thO_some {f : Nat → Option Nat} {T : Nat → Nat → Int32} {k : Nat → Nat} {V : HV} {ta : Nat} {ar : Nat → Nat} {i : Nat} (h : tsOk k V ta f ar T) (hi : i < 150) (h5 : ¬ T i 5 = 0) : ∃ t, thO f T i = some t ∧ f i = some t ∧ V t = some (eThT T ar i) ∧ V (ar i) = some (eArT T i) := by
  cases hf : f i with
  | none => exact absurd (h.2.2 i hi hf) h5
  | some t => exact ⟨t, by rw [thO, if_neg h5, hf], rfl, (h.2.1 i t hi hf).1, (h.2.1 i t hi hf).2⟩
theorem thO_none {f : Nat → Option Nat} {T : Nat → Nat → Int32} {i : Nat} (h5 : T i 5 = 0) : thO f T i = none := by rw [thO, if_pos h5]
/-- from i on, n places: one of them has P -/
def anyF (P : Nat → Bool) : Nat → Nat → Bool
  | _, 0 => false
  | i, n + 1 => P i || anyF P (i + 1) n
def cntF (P : Nat → Bool) : Nat → Nat → Nat
  | _, 0 => 0
  | i, n + 1 => (if P i then 1 else 0) + cntF P (i + 1) n
theorem anyF_iff {P : Nat → Bool} : ∀ (n i : Nat), anyF P i n = true ↔ ∃ j, i ≤ j ∧ j < i + n ∧ P j = true := by
  intro n
  induction n with
  | zero => intro i; simp only [anyF]; constructor <;> intro h; · cases h
            · obtain ⟨j, h1, h2, -⟩ := h; omega
  | succ n ih =>
    intro i
    rw [anyF, Bool.or_eq_true, ih]
    constructor
    · rintro (h | ⟨j, h1, h2, h3⟩)
      · exact ⟨i, Nat.le_refl _, by omega, h⟩
      · exact ⟨j, by omega, by omega, h3⟩
    · rintro ⟨j, h1, h2, h3⟩
      by_cases hj : j = i
      · subst hj; exact Or.inl h3
      · exact Or.inr ⟨j, by omega, by omega, h3⟩
theorem anyF_step {P : Nat → Bool} {i N : Nat} (h : i < N) : anyF P i (N - i) = (P i || anyF P (i + 1) (N - (i + 1))) := by
  rw [show N - i = (N - (i + 1)) + 1 by omega]; rfl
theorem cntF_step {P : Nat → Bool} {i N : Nat} (h : i < N) : cntF P i (N - i) = (if P i then 1 else 0) + cntF P (i + 1) (N - (i + 1)) := by
  rw [show N - i = (N - (i + 1)) + 1 by omega]; rfl
theorem anyF_end {P : Nat → Bool} {i N : Nat} (h : N ≤ i) : anyF P i (N - i) = false := by
  rw [show N - i = 0 by omega]; rfl
theorem cntF_end {P : Nat → Bool} {i N : Nat} (h : N ≤ i) : cntF P i (N - i) = 0 := by
  rw [show N - i = 0 by omega]; rfl
theorem nI_le' {a b : Nat} (h : nI a ≤ nI b) (ha : a < 2 ^ 31) (hb : b < 2 ^ 31) : a ≤ b := (nI_leI ha hb).mp h
theorem nI_nle' {a b : Nat} (h : ¬ nI a ≤ nI b) (ha : a < 2 ^ 31) (hb : b < 2 ^ 31) : b < a := Nat.not_le.mp (fun q => h ((nI_leI ha hb).mpr q))
/-- the thing in slot j goes with the lead (at z, of that handle) -/
def goesT (f : Nat → Option Nat) (T : Nat → Nat → Int32) (z : Nat) (kd nu : Int32) (j : Nat) : Bool := decide (f j = some z) || decide (T j 4 = 1000 * kd + nu)
/-- slot j's thing is there, doesn't go with the lead, and clashes with a thing moved by dx, dy -/
def co_P (f : Nat → Option Nat) (T : Nat → Nat → Int32) (z : Nat) (kd' nu' kd la ne x y u v g dx dy : Int32) : Nat → Bool := fun j => !decide (T j 5 = 0) && !goesT f T z kd' nu' j && th_clash kd la ne x y u v (T j 0) (T j 2) (T j 3) (T j 6) (T j 7) (T j 8) (T j 9) g dx dy
/-- slot j's thing is there, goes with the lead, and clashes, moved, with one that doesn't -/
def co_A (f : Nat → Option Nat) (T : Nat → Nat → Int32) (z : Nat) (kd nu g dx dy : Int32) : Nat → Bool := fun j => !decide (T j 5 = 0) && goesT f T z kd nu j && anyF (co_P f T z kd nu (T j 0) (T j 2) (T j 3) (T j 6) (T j 7) (T j 8) (T j 9) g dx dy) 20 120
/-- slot j's thing is there and clashes with a thing -/
def co_C (T : Nat → Nat → Int32) (kd la ne x y u v g : Int32) : Nat → Bool := fun j => !decide (T j 5 = 0) && th_clash kd la ne x y u v (T j 0) (T j 2) (T j 3) (T j 6) (T j 7) (T j 8) (T j 9) g 0 0
/-- thing i, moved, clashes with thing j -/
def cl_T (T : Nat → Nat → Int32) (i j : Nat) (g dx dy : Int32) : Bool := th_clash (T i 0) (T i 2) (T i 3) (T i 6) (T i 7) (T i 8) (T i 9) (T j 0) (T j 2) (T j 3) (T j 6) (T j 7) (T j 8) (T j 9) g dx dy
set_option maxHeartbeats 4000000 in
set_option maxRecDepth 100000 in
/-- thereAt -/
theorem c_Co_thereAt (l : Launch) (D : va_G) (N0 : Nat) (k : Nat → Nat) (V : HV) (co ta ro on re : Nat) (lay g : Int32) (h_co : V co = some (eCo ta lay ro on re g)) (f : Nat → Option Nat) (ar : Nat → Nat) (T : Nat → Nat → Int32) (hT : tsOk k V ta f ar T) (i : Nat) (hi : i < 150) : Met l y_Co_thereAt (.code y_Co_thereAt b_Co_thereAt 3 (some (.object "BoardHouse$Thing")) :: WS) ({ frames := 0, cells := 0, slots := 0, locals := 0 }) (mP D N0 k [.ref co, .int (nI i)] V) (va_Qq (fun r V' => r = thO f T i ∧ V' = V) (mB D N0) (hA N0)) 0 0 (hA N0) := by
  refine Met.ofW (cc := b_Co_thereAt) (maxL := 3) (ret := (some (.object "BoardHouse$Thing"))) (by decide) rfl ?_
  intro p e s m args below meth c s₁ B hml hv0
  obtain ⟨rfl, hG, hV⟩ := hv0
  have hx := B.exec
  have hb := B.bytes
  have hr := B.returns
  have hts := atoms_spec (ws := .code y_Co_thereAt b_Co_thereAt 3 (some (.object "BoardHouse$Thing")) :: WS) B.pre
  have hW : ∀ w ∈ WS, w.before _ s = true := fun w h => hts w (List.mem_cons_of_mem _ h)
  have hown : s.vm.findClass "BoardHouse$Copper" = some m.cls := findClass_of_methodNamed B.named
  have hlocks := B.notSynchronized
  have hS : va_S (hA N0) s.heap s.heap [] := va_S.rf
  have hl := lv_entry ([.ref co, .int (nI i)]) (n := 3) (Nat.le_of_ble_eq_true rfl)
  rw [lg_entry_eq]
  generalize (lg_sl ([.ref co, .int (nI i)]) ++ List.replicate (3 - (lg_sl ([.ref co, .int (nI i)])).length) Slot.unset).toArray = ls at hl ⊢
  have hl : lv_has ls 3 [(0, .ref co), (1, .int (nI i))] := hl
  refine lv_aload_n hx hb d_Co_thereAt_0 rfl (lv_at hl 0 rfl) ?_
  refine gf_Co_11 hx hb hW hown hG hV h_co d_Co_thereAt_1 ?_
  refine lv_iload_n hx hb d_Co_thereAt_4 rfl (lv_at hl 1 rfl) ?_
  refine hv_aald (v := f i) hx hb hG.K hV 3 hT.1 rfl (vp_in_nI (by omega) (by omega)) (by rw [nI_clamp (by omega)]) d_Co_thereAt_5 ?_
  cases hf_1 : f i with
  | none =>
    refine W.eq (g2 := F0 m 6 ls [.null]) rfl ?_
    refine lv_astore_nN (lv' := [(2, .null), (0, .ref co), (1, .int (nI i))]) hx hb d_Co_thereAt_6 rfl hl (by decide) rfl (fun ls hl => ?_)
    refine lv_aload_nN hx hb d_Co_thereAt_7 rfl (lv_at hl 0 rfl) ?_
    refine lv_ifnullN (tgt := 22) hx hb d_Co_thereAt_8 (by decide) ?_
    refine lv_null hx hb d_Co_thereAt_22 ?_
    exact W.aret (v := va_rf (none)) hx hb hr (by first | exact Or.inl ⟨_, rfl⟩ | exact Or.inr ⟨_, rfl⟩) (va_rf_or _) (fun t ht hW => ⟨⟨none, V, rfl, ⟨by rw [thO, hf_1]; split <;> rfl, rfl⟩, mB_of ht hV⟩, hS.F ht⟩) hS.2.2 d_Co_thereAt_23
  | some t_2 =>
    refine W.eq (g2 := F0 m 6 ls [.ref t_2]) rfl ?_
    obtain ⟨h_t_2, ha_t_2⟩ := hT.2.1 i t_2 (by omega) hf_1
    refine lv_astore_n (lv' := [(2, .ref t_2), (0, .ref co), (1, .int (nI i))]) hx hb d_Co_thereAt_6 rfl hl (by decide) rfl (fun ls hl => ?_)
    refine lv_aload_n hx hb d_Co_thereAt_7 rfl (lv_at hl 0 rfl) ?_
    refine lv_ifnull hx hb d_Co_thereAt_8 ?_
    refine lv_aload_n hx hb d_Co_thereAt_11 rfl (lv_at hl 0 rfl) ?_
    refine gf_Co_42 hx hb hW hown hG hV h_t_2 d_Co_thereAt_12 ?_
    refine lv_if_eq (tgt := 22) hx hb d_Co_thereAt_15 (by decide) (fun c_3 => ?_) (fun c_3 => ?_)
    · refine lv_null hx hb d_Co_thereAt_22 ?_
      exact W.aret (v := va_rf (none)) hx hb hr (by first | exact Or.inl ⟨_, rfl⟩ | exact Or.inr ⟨_, rfl⟩) (va_rf_or _) (fun t ht hW => ⟨⟨none, V, rfl, ⟨by rw [thO, if_pos c_3], rfl⟩, mB_of ht hV⟩, hS.F ht⟩) hS.2.2 d_Co_thereAt_23
    · refine lv_aload_n hx hb d_Co_thereAt_18 rfl (lv_at hl 0 rfl) ?_
      refine lv_goto (tgt := 23) hx hb d_Co_thereAt_19 (by decide) ?_
      exact W.aret (v := va_rf (some t_2)) hx hb hr (by first | exact Or.inl ⟨_, rfl⟩ | exact Or.inr ⟨_, rfl⟩) (va_rf_or _) (fun t ht hW => ⟨⟨(some t_2), V, rfl, ⟨by rw [thO, if_neg c_3, hf_1], rfl⟩, mB_of ht hV⟩, hS.F ht⟩) hS.2.2 d_Co_thereAt_23
set_option maxHeartbeats 4000000 in
set_option maxRecDepth 100000 in
/-- handleAt -/
theorem c_Co_handleAt (l : Launch) (D : va_G) (N0 : Nat) (k : Nat → Nat) (V : HV) (co ta ro on re : Nat) (lay g : Int32) (h_co : V co = some (eCo ta lay ro on re g)) (f : Nat → Option Nat) (ar : Nat → Nat) (T : Nat → Nat → Int32) (hT : tsOk k V ta f ar T) (i : Nat) (hi : i < 150) : Met l y_Co_handleAt (.code y_Co_handleAt b_Co_handleAt 3 (some .int) :: WS) ({ frames := 1, cells := 0, slots := 0, locals := 22 }) (mP D N0 k [.ref co, .int (nI i)] V) (va_Qi (fun r V' => r = (if T i 5 = 0 then -1 else 1000 * T i 0 + T i 1) ∧ V' = V) (mB D N0) (hA N0)) 0 0 (hA N0) := by
  refine Met.ofW (cc := b_Co_handleAt) (maxL := 3) (ret := (some .int)) (by decide) rfl ?_
  intro p e s m args below meth c s₁ B hml hv0
  obtain ⟨rfl, hG, hV⟩ := hv0
  have hx := B.exec
  have hb := B.bytes
  have hr := B.returns
  have hts := atoms_spec (ws := .code y_Co_handleAt b_Co_handleAt 3 (some .int) :: WS) B.pre
  have hW : ∀ w ∈ WS, w.before _ s = true := fun w h => hts w (List.mem_cons_of_mem _ h)
  have hown : s.vm.findClass "BoardHouse$Copper" = some m.cls := findClass_of_methodNamed B.named
  have hlocks := B.notSynchronized
  have hS : va_S (hA N0) s.heap s.heap [] := va_S.rf
  have hl := lv_entry ([.ref co, .int (nI i)]) (n := 3) (Nat.le_of_ble_eq_true rfl)
  rw [lg_entry_eq]
  generalize (lg_sl ([.ref co, .int (nI i)]) ++ List.replicate (3 - (lg_sl ([.ref co, .int (nI i)])).length) Slot.unset).toArray = ls at hl ⊢
  have hl : lv_has ls 3 [(0, .ref co), (1, .int (nI i))] := hl
  refine lv_aload_n hx hb d_Co_handleAt_0 rfl (lv_at hl 0 rfl) ?_
  refine lv_iload_n hx hb d_Co_handleAt_1 rfl (lv_at hl 1 rfl) ?_
  refine rc_Q (va_runV (As := [.int (nI i)]) (rest := []) ⟨hx, hb, hml, hown, hts⟩ (c_Co_thereAt l D N0 k V co ta ro on re lay g h_co f ar T hT i (by omega)) (cwV 1 hts (gi_V wm_Co_46 wv_Co_thereAt ws_Co_thereAt wi_Co wc_Co_thereAt) rfl rfl rfl (by decide +kernel) ⟨Nat.le_of_ble_eq_true rfl, Nat.le_of_ble_eq_true rfl⟩) (mP.preV hG hS hV h_co rfl) rfl rfl hl.1 rfl (lv_room (Nat.le_of_ble_eq_true rfl)) d_Co_handleAt_2 ⟨Nat.le_of_ble_eq_true rfl, Nat.le_of_ble_eq_true rfl⟩) hS (fun r_1 V_2 H locs hp_3 hV hS => ?_)
  obtain ⟨er_r_1, ev_r_1⟩ := hp_3
  rw [ev_r_1] at hV
  rw [er_r_1]
  by_cases h5_4 : T i 5 = 0
  · rw [thO_none h5_4]
    refine W.eq (g2 := F0 m 5 ls [.null]) rfl ?_
    refine lv_astore_nN (lv' := [(2, .null), (0, .ref co), (1, .int (nI i))]) hx hb d_Co_handleAt_5 rfl hl (by decide) rfl (fun ls hl => ?_)
    refine lv_aload_nN hx hb d_Co_handleAt_6 rfl (lv_at hl 0 rfl) ?_
    refine lv_ifnonnullN hx hb d_Co_handleAt_7 ?_
    refine lv_iconst (v := (-1)) hx hb d_Co_handleAt_10 (by decide) ?_
    refine lv_goto (tgt := 18) hx hb d_Co_handleAt_11 (by decide) ?_
    exact W.iret (v := (-1)) hx hb hr (fun t ht hW => ⟨⟨(-1), V, rfl, ⟨by rw [if_pos h5_4], rfl⟩, mB_of ht hV⟩, hS.F ht⟩) hS.2.2 d_Co_handleAt_18
  · obtain ⟨t_5, e1_t_5, e2_t_5, h_t_5, ha_t_5⟩ := thO_some hT (show i < 150 by omega) h5_4
    rw [e1_t_5]
    refine W.eq (g2 := F0 m 5 ls [.ref t_5]) rfl ?_
    refine lv_astore_n (lv' := [(2, .ref t_5), (0, .ref co), (1, .int (nI i))]) hx hb d_Co_handleAt_5 rfl hl (by decide) rfl (fun ls hl => ?_)
    refine lv_aload_n hx hb d_Co_handleAt_6 rfl (lv_at hl 0 rfl) ?_
    refine lv_ifnonnull (tgt := 14) hx hb d_Co_handleAt_7 (by decide) ?_
    refine lv_aload_n hx hb d_Co_handleAt_14 rfl (lv_at hl 0 rfl) ?_
    refine rc_i (va_runV (As := []) (rest := []) ⟨hx, hb, hml, hown, hts⟩ (c_Th_handle l D N0 k V t_5 (ar i) (T i 0) (T i 1) (T i 2) (T i 3) (T i 4) (T i 5) h_t_5) (cwV 0 hts (gi_V wm_Co_50 wv_Th_handle ws_Th_handle wi_Th wc_Th_handle) rfl rfl rfl (by decide +kernel) ⟨Nat.le_of_ble_eq_true rfl, Nat.le_of_ble_eq_true rfl⟩) (mP.preV hG hS hV h_t_5 rfl) rfl rfl hl.1 rfl (lv_room (Nat.le_of_ble_eq_true rfl)) d_Co_handleAt_15 ⟨Nat.le_of_ble_eq_true rfl, Nat.le_of_ble_eq_true rfl⟩) hS (fun H locs hV hS => ?_)
    exact W.iret (v := (1000 * (T i 0) + (T i 1))) hx hb hr (fun t ht hW => ⟨⟨(1000 * (T i 0) + (T i 1)), V, rfl, ⟨by rw [if_neg h5_4], rfl⟩, mB_of ht hV⟩, hS.F ht⟩) hS.2.2 d_Co_handleAt_18
set_option maxHeartbeats 4000000 in
set_option maxRecDepth 100000 in
/-- clashesMoved -/
theorem c_Co_clashesMoved (l : Launch) (D : va_G) (N0 : Nat) (k : Nat → Nat) (V : HV) (co ta ro on re : Nat) (lay g : Int32) (h_co : V co = some (eCo ta lay ro on re g)) (f : Nat → Option Nat) (ar : Nat → Nat) (T : Nat → Nat → Int32) (hT : tsOk k V ta f ar T) (t a : Nat) (kd nu la ne pa th : Int32) (h_t : V t = some (eTh kd nu a la ne pa th)) (x y u v : Int32) (h_a : V a = some (eAr x y u v)) (z a' : Nat) (kd' nu' la' ne' pa' th' : Int32) (h_z : V z = some (eTh kd' nu' a' la' ne' pa' th')) (dx dy : Int32) : Met l y_Co_clashesMoved (.code y_Co_clashesMoved b_Co_clashesMoved 7 (some .boolean) :: WS) ({ frames := 2, cells := 0, slots := 0, locals := 48 }) (mP D N0 k [.ref co, .ref t, .ref z, .int dx, .int dy] V) (va_Qi (fun r V' => r = bI (anyF (co_P f T z kd' nu' kd la ne x y u v g dx dy) 20 120) ∧ V' = V) (mB D N0) (hA N0)) 0 0 (hA N0) := by
  refine Met.ofW (cc := b_Co_clashesMoved) (maxL := 7) (ret := (some .boolean)) (by decide) rfl ?_
  intro p e s m args below meth c s₁ B hml hv0
  obtain ⟨rfl, hG, hV⟩ := hv0
  have hx := B.exec
  have hb := B.bytes
  have hr := B.returns
  have hts := atoms_spec (ws := .code y_Co_clashesMoved b_Co_clashesMoved 7 (some .boolean) :: WS) B.pre
  have hW : ∀ w ∈ WS, w.before _ s = true := fun w h => hts w (List.mem_cons_of_mem _ h)
  have hown : s.vm.findClass "BoardHouse$Copper" = some m.cls := findClass_of_methodNamed B.named
  have hlocks := B.notSynchronized
  have hS : va_S (hA N0) s.heap s.heap [] := va_S.rf
  have hl := lv_entry ([.ref co, .ref t, .ref z, .int dx, .int dy]) (n := 7) (Nat.le_of_ble_eq_true rfl)
  rw [lg_entry_eq]
  generalize (lg_sl ([.ref co, .ref t, .ref z, .int dx, .int dy]) ++ List.replicate (7 - (lg_sl ([.ref co, .ref t, .ref z, .int dx, .int dy])).length) Slot.unset).toArray = ls at hl ⊢
  have hl : lv_has ls 7 [(0, .ref co), (1, .ref t), (2, .ref z), (3, .int dx), (4, .int dy)] := hl
  refine lv_bipush (v := 20) hx hb d_Co_clashesMoved_0 (by decide) ?_
  refine lv_istore (lv' := [(5, .int 20), (0, .ref co), (1, .ref t), (2, .ref z), (3, .int dx), (4, .int dy)]) hx hb d_Co_clashesMoved_2 hl (by decide) rfl (fun ls hl => ?_)
  obtain ⟨P, hP⟩ : ∃ P : Nat → Bool, P = (co_P f T z kd' nu' kd la ne x y u v g dx dy) := ⟨_, rfl⟩
  have loop_1 : ∀ (n i : Nat) (H : Heap) (locs : List Loc) (ls : Array Slot), i ≤ 140 → 140 + 1 ≤ i + n → (bI (anyF P 20 120) = bI (anyF P i (140 - i))) → hv D vwCl N0 V H → va_S (hA N0) s.heap H locs → lv_has ls 7 [(5, .int (nI i)), (0, .ref co), (1, .ref t), (2, .ref z), (3, .int dx), (4, .int dy)] → W p l e (headSpec (.code y_Co_clashesMoved b_Co_clashesMoved 7 (some .boolean) :: WS) ({ frames := 2, cells := 0, slots := 0, locals := 48 })).room s m #[.ref co, .ref t, .ref z, .int dx, .int dy] below meth c H locs 0 0 (MQ below (va_Qi (fun r V' => r = bI (anyF (co_P f T z kd' nu' kd la ne x y u v g dx dy) 20 120) ∧ V' = V) (mB D N0) (hA N0)) #[.ref co, .ref t, .ref z, .int dx, .int dy] s 0 0 (hA N0)) (F0 m 4 ls []) := by
    intro n
    induction n with
    | zero => intro i  H locs ls h1 h2; exact absurd h2 (by omega)
    | succ n ih =>
      intro i  H locs ls hi hin hI hV hS hl
      refine lv_iload hx hb d_Co_clashesMoved_4 (lv_at hl 0 rfl) ?_
      refine lv_sipush (v := 140) hx hb d_Co_clashesMoved_6 (by decide) ?_
      refine lv_icmp_ge (tgt := 58) hx hb d_Co_clashesMoved_9 (by decide) (fun c_2 => ?_) (fun c_2 => ?_)
      · have hge : 140 ≤ i := nI_le' (a := 140) (b := i) c_2 (by decide) (by omega)
        refine lv_iconst (v := 0) hx hb d_Co_clashesMoved_58 (by decide) ?_
        have hz : anyF (co_P f T z kd' nu' kd la ne x y u v g dx dy) 20 120 = false := by rw [← hP]; exact bI_eq0.mp (hI.trans (by rw [anyF_end hge]; rfl))
        exact W.zret (v := 0) hx hb hr rfl (fun t ht hW => ⟨⟨0, V, rfl, ⟨by rw [hz]; rfl, rfl⟩, mB_of ht hV⟩, hS.F ht⟩) hS.2.2 d_Co_clashesMoved_59
      · have hlt : i < 140 := nI_nle' (a := 140) (b := i) c_2 (by decide) (by omega)
        refine lv_aload_n hx hb d_Co_clashesMoved_12 rfl (lv_at hl 1 rfl) ?_
        refine lv_iload hx hb d_Co_clashesMoved_13 (lv_at hl 0 rfl) ?_
        refine rc_Q (va_runV (As := [.int (nI i)]) (rest := []) ⟨hx, hb, hml, hown, hts⟩ (c_Co_thereAt l D N0 k V co ta ro on re lay g h_co f ar T hT i (by omega)) (cwV 1 hts (gi_V wm_Co_46 wv_Co_thereAt ws_Co_thereAt wi_Co wc_Co_thereAt) rfl rfl rfl (by decide +kernel) ⟨Nat.le_of_ble_eq_true rfl, Nat.le_of_ble_eq_true rfl⟩) (mP.preV hG hS hV h_co rfl) rfl rfl hl.1 rfl (lv_room (Nat.le_of_ble_eq_true rfl)) d_Co_clashesMoved_15 ⟨Nat.le_of_ble_eq_true rfl, Nat.le_of_ble_eq_true rfl⟩) hS (fun r_3 V_4 H locs hp_5 hV hS => ?_)
        obtain ⟨er_r_3, ev_r_3⟩ := hp_5
        rw [ev_r_3] at hV
        rw [er_r_3]
        by_cases h5_6 : T i 5 = 0
        · rw [thO_none h5_6]
          refine W.eq (g2 := F0 m 18 ls [.null]) rfl ?_
          refine lv_astoreN (lv' := [(6, .null), (5, .int (nI i)), (0, .ref co), (1, .ref t), (2, .ref z), (3, .int dx), (4, .int dy)]) hx hb d_Co_clashesMoved_18 hl (by decide) rfl (fun ls hl => ?_)
          refine lv_aloadN hx hb d_Co_clashesMoved_20 (lv_at hl 0 rfl) ?_
          refine lv_ifnullN (tgt := 52) hx hb d_Co_clashesMoved_22 (by decide) ?_
          obtain ⟨i_8, ei_8⟩ : ∃ y : Int32, y = (nI i) + 1 := ⟨_, rfl⟩
          refine lv_iinc (v := i_8) (lv' := [(5, .int i_8), (6, .null), (0, .ref co), (1, .ref t), (2, .ref z), (3, .int dx), (4, .int dy)]) hx hb d_Co_clashesMoved_52 hl (k := 1) rfl (by rw [ei_8]; rfl) (by decide) rfl (fun ls hl => ?_)
          refine lv_goto (tgt := 4) hx hb d_Co_clashesMoved_55 (by decide) ?_
          rw [nI_1] at ei_8
          subst ei_8
          have hPi : P i = false := by subst hP; simp [co_P, co_A, goesT, h5_6]
          exact ih (i + 1)  _ _ _ (by omega) (by omega) (by rw [hI, anyF_step hlt, hPi, Bool.false_or]) hV hS (lv_sub hl [0, 2, 3, 4, 5, 6] rfl)
        · obtain ⟨t_7, e1_t_7, e2_t_7, h_t_7, ha_t_7⟩ := thO_some hT (show i < 150 by omega) h5_6
          rw [e1_t_7]
          refine W.eq (g2 := F0 m 18 ls [.ref t_7]) rfl ?_
          refine lv_astore (lv' := [(6, .ref t_7), (5, .int (nI i)), (0, .ref co), (1, .ref t), (2, .ref z), (3, .int dx), (4, .int dy)]) hx hb d_Co_clashesMoved_18 hl (by decide) rfl (fun ls hl => ?_)
          refine lv_aload hx hb d_Co_clashesMoved_20 (lv_at hl 0 rfl) ?_
          refine lv_ifnull hx hb d_Co_clashesMoved_22 ?_
          refine lv_aload hx hb d_Co_clashesMoved_25 (lv_at hl 0 rfl) ?_
          refine lv_aload_n hx hb d_Co_clashesMoved_27 rfl (lv_at hl 4 rfl) ?_
          refine rc_i (va_runV (As := [.ref z]) (rest := []) ⟨hx, hb, hml, hown, hts⟩ (c_Th_goesWith l D N0 k V t_7 (ar i) (T i 0) (T i 1) (T i 2) (T i 3) (T i 4) (T i 5) h_t_7 z a' (kd') (nu') (la') (ne') (pa') (th') h_z) (cwV 1 hts (gi_V wm_Co_54 wv_Th_goesWith ws_Th_goesWith wi_Th wc_Th_goesWith) rfl rfl rfl (by decide +kernel) ⟨Nat.le_of_ble_eq_true rfl, Nat.le_of_ble_eq_true rfl⟩) (mP.preV hG hS hV h_t_7 rfl) rfl rfl hl.1 rfl (lv_room (Nat.le_of_ble_eq_true rfl)) d_Co_clashesMoved_28 ⟨Nat.le_of_ble_eq_true rfl, Nat.le_of_ble_eq_true rfl⟩) hS (fun H locs hV hS => ?_)
          refine lv_if_ne (tgt := 52) hx hb d_Co_clashesMoved_31 (by decide) (fun c_9 => ?_) (fun c_9 => ?_)
          · obtain ⟨i_10, ei_10⟩ : ∃ y : Int32, y = (nI i) + 1 := ⟨_, rfl⟩
            refine lv_iinc (v := i_10) (lv' := [(5, .int i_10), (6, .ref t_7), (0, .ref co), (1, .ref t), (2, .ref z), (3, .int dx), (4, .int dy)]) hx hb d_Co_clashesMoved_52 hl (k := 1) rfl (by rw [ei_10]; rfl) (by decide) rfl (fun ls hl => ?_)
            refine lv_goto (tgt := 4) hx hb d_Co_clashesMoved_55 (by decide) ?_
            rw [nI_1] at ei_10
            subst ei_10
            try simp only [bI_ne0, bI_eq0] at c_9
            try simp only [th_goesWith] at c_9
            have e2s := e2_t_7
            have hPi : P i = false := by subst hP; simp [co_P, co_A, goesT, c_9, h5_6, e2s]
            exact ih (i + 1)  _ _ _ (by omega) (by omega) (by rw [hI, anyF_step hlt, hPi, Bool.false_or]) hV hS (lv_sub hl [0, 2, 3, 4, 5, 6] rfl)
          · refine lv_aload_n hx hb d_Co_clashesMoved_34 rfl (lv_at hl 3 rfl) ?_
            refine lv_aload hx hb d_Co_clashesMoved_35 (lv_at hl 0 rfl) ?_
            refine lv_aload_n hx hb d_Co_clashesMoved_37 rfl (lv_at hl 2 rfl) ?_
            refine gf_Co_28 hx hb hW hown hG hV h_co d_Co_clashesMoved_38 ?_
            refine lv_iload_n hx hb d_Co_clashesMoved_41 rfl (lv_at hl 5 rfl) ?_
            refine lv_iload hx hb d_Co_clashesMoved_42 (lv_at hl 6 rfl) ?_
            refine rc_i (va_runV (As := [.ref t_7, .int g, .int dx, .int dy]) (rest := []) ⟨hx, hb, hml, hown, hts⟩ (c_Th_clashesMoved l D N0 k V t a kd nu la ne pa th h_t t_7 (ar i) (T i 0) (T i 1) (T i 2) (T i 3) (T i 4) (T i 5) h_t_7 x y u v h_a (T i 6) (T i 7) (T i 8) (T i 9) ha_t_7 g dx dy) (cwV 4 hts (gi_V wm_Co_58 wv_Th_clashesMoved ws_Th_clashesMoved wi_Th wc_Th_clashesMoved) rfl rfl rfl (by decide +kernel) ⟨Nat.le_of_ble_eq_true rfl, Nat.le_of_ble_eq_true rfl⟩) (mP.preV hG hS hV h_t rfl) rfl rfl hl.1 rfl (lv_room (Nat.le_of_ble_eq_true rfl)) d_Co_clashesMoved_44 ⟨Nat.le_of_ble_eq_true rfl, Nat.le_of_ble_eq_true rfl⟩) hS (fun H locs hV hS => ?_)
            refine lv_if_eq (tgt := 52) hx hb d_Co_clashesMoved_47 (by decide) (fun c_11 => ?_) (fun c_11 => ?_)
            · obtain ⟨i_12, ei_12⟩ : ∃ y : Int32, y = (nI i) + 1 := ⟨_, rfl⟩
              refine lv_iinc (v := i_12) (lv' := [(5, .int i_12), (6, .ref t_7), (0, .ref co), (1, .ref t), (2, .ref z), (3, .int dx), (4, .int dy)]) hx hb d_Co_clashesMoved_52 hl (k := 1) rfl (by rw [ei_12]; rfl) (by decide) rfl (fun ls hl => ?_)
              refine lv_goto (tgt := 4) hx hb d_Co_clashesMoved_55 (by decide) ?_
              rw [nI_1] at ei_12
              subst ei_12
              try simp only [bI_ne0, bI_eq0] at c_9
              try simp only [bI_ne0, bI_eq0] at c_11
              try simp only [th_goesWith] at c_9
              try simp only [th_goesWith] at c_11
              have e2s := e2_t_7
              have hPi : P i = false := by subst hP; simp [co_P, co_A, goesT, c_9, c_11, h5_6, e2s]
              exact ih (i + 1)  _ _ _ (by omega) (by omega) (by rw [hI, anyF_step hlt, hPi, Bool.false_or]) hV hS (lv_sub hl [0, 2, 3, 4, 5, 6] rfl)
            · refine lv_iconst (v := 1) hx hb d_Co_clashesMoved_50 (by decide) ?_
              try simp only [bI_ne0, bI_eq0] at c_9
              try simp only [bI_ne0, bI_eq0] at c_11
              try simp only [th_goesWith] at c_9
              try simp only [th_goesWith] at c_11
              have e2s := e2_t_7
              have hPi : P i = true := by subst hP; simp [co_P, co_A, goesT, c_9, c_11, h5_6, e2s]
              have hz : anyF (co_P f T z kd' nu' kd la ne x y u v g dx dy) 20 120 = true := by rw [← hP]; exact bI_ne0.mp (fun q => by rw [hI, anyF_step hlt, hPi, Bool.true_or] at q; exact absurd q (by decide))
              exact W.zret (v := 1) hx hb hr rfl (fun t ht hW => ⟨⟨1, V, rfl, ⟨by rw [hz]; rfl, rfl⟩, mB_of ht hV⟩, hS.F ht⟩) hS.2.2 d_Co_clashesMoved_51
  exact loop_1 (140 + 1 - 20) 20  _ _ _ (by omega) (by omega) rfl hV hS (lv_sub hl [0, 1, 2, 3, 4, 5] rfl)
set_option maxHeartbeats 4000000 in
set_option maxRecDepth 100000 in
/-- anyPadClashesMoved -/
theorem c_Co_anyPadClashesMoved (l : Launch) (D : va_G) (N0 : Nat) (k : Nat → Nat) (V : HV) (co ta ro on re : Nat) (lay g : Int32) (h_co : V co = some (eCo ta lay ro on re g)) (f : Nat → Option Nat) (ar : Nat → Nat) (T : Nat → Nat → Int32) (hT : tsOk k V ta f ar T) (z a : Nat) (kd nu la ne pa th : Int32) (h_z : V z = some (eTh kd nu a la ne pa th)) (dx dy : Int32) : Met l y_Co_anyPadClashesMoved (.code y_Co_anyPadClashesMoved b_Co_anyPadClashesMoved 6 (some .boolean) :: WS) ({ frames := 3, cells := 0, slots := 0, locals := 74 }) (mP D N0 k [.ref co, .ref z, .int dx, .int dy] V) (va_Qi (fun r V' => r = bI (anyF (co_A f T z kd nu g dx dy) 20 120) ∧ V' = V) (mB D N0) (hA N0)) 0 0 (hA N0) := by
  refine Met.ofW (cc := b_Co_anyPadClashesMoved) (maxL := 6) (ret := (some .boolean)) (by decide) rfl ?_
  intro p e s m args below meth c s₁ B hml hv0
  obtain ⟨rfl, hG, hV⟩ := hv0
  have hx := B.exec
  have hb := B.bytes
  have hr := B.returns
  have hts := atoms_spec (ws := .code y_Co_anyPadClashesMoved b_Co_anyPadClashesMoved 6 (some .boolean) :: WS) B.pre
  have hW : ∀ w ∈ WS, w.before _ s = true := fun w h => hts w (List.mem_cons_of_mem _ h)
  have hown : s.vm.findClass "BoardHouse$Copper" = some m.cls := findClass_of_methodNamed B.named
  have hlocks := B.notSynchronized
  have hS : va_S (hA N0) s.heap s.heap [] := va_S.rf
  have hl := lv_entry ([.ref co, .ref z, .int dx, .int dy]) (n := 6) (Nat.le_of_ble_eq_true rfl)
  rw [lg_entry_eq]
  generalize (lg_sl ([.ref co, .ref z, .int dx, .int dy]) ++ List.replicate (6 - (lg_sl ([.ref co, .ref z, .int dx, .int dy])).length) Slot.unset).toArray = ls at hl ⊢
  have hl : lv_has ls 6 [(0, .ref co), (1, .ref z), (2, .int dx), (3, .int dy)] := hl
  refine lv_bipush (v := 20) hx hb d_Co_anyPadClashesMoved_0 (by decide) ?_
  refine lv_istore (lv' := [(4, .int 20), (0, .ref co), (1, .ref z), (2, .int dx), (3, .int dy)]) hx hb d_Co_anyPadClashesMoved_2 hl (by decide) rfl (fun ls hl => ?_)
  obtain ⟨P, hP⟩ : ∃ P : Nat → Bool, P = (co_A f T z kd nu g dx dy) := ⟨_, rfl⟩
  have loop_1 : ∀ (n i : Nat) (H : Heap) (locs : List Loc) (ls : Array Slot), i ≤ 140 → 140 + 1 ≤ i + n → (bI (anyF P 20 120) = bI (anyF P i (140 - i))) → hv D vwCl N0 V H → va_S (hA N0) s.heap H locs → lv_has ls 6 [(4, .int (nI i)), (0, .ref co), (1, .ref z), (2, .int dx), (3, .int dy)] → W p l e (headSpec (.code y_Co_anyPadClashesMoved b_Co_anyPadClashesMoved 6 (some .boolean) :: WS) ({ frames := 3, cells := 0, slots := 0, locals := 74 })).room s m #[.ref co, .ref z, .int dx, .int dy] below meth c H locs 0 0 (MQ below (va_Qi (fun r V' => r = bI (anyF (co_A f T z kd nu g dx dy) 20 120) ∧ V' = V) (mB D N0) (hA N0)) #[.ref co, .ref z, .int dx, .int dy] s 0 0 (hA N0)) (F0 m 4 ls []) := by
    intro n
    induction n with
    | zero => intro i  H locs ls h1 h2; exact absurd h2 (by omega)
    | succ n ih =>
      intro i  H locs ls hi hin hI hV hS hl
      refine lv_iload hx hb d_Co_anyPadClashesMoved_4 (lv_at hl 0 rfl) ?_
      refine lv_sipush (v := 140) hx hb d_Co_anyPadClashesMoved_6 (by decide) ?_
      refine lv_icmp_ge (tgt := 54) hx hb d_Co_anyPadClashesMoved_9 (by decide) (fun c_2 => ?_) (fun c_2 => ?_)
      · have hge : 140 ≤ i := nI_le' (a := 140) (b := i) c_2 (by decide) (by omega)
        refine lv_iconst (v := 0) hx hb d_Co_anyPadClashesMoved_54 (by decide) ?_
        have hz : anyF (co_A f T z kd nu g dx dy) 20 120 = false := by rw [← hP]; exact bI_eq0.mp (hI.trans (by rw [anyF_end hge]; rfl))
        exact W.zret (v := 0) hx hb hr rfl (fun t ht hW => ⟨⟨0, V, rfl, ⟨by rw [hz]; rfl, rfl⟩, mB_of ht hV⟩, hS.F ht⟩) hS.2.2 d_Co_anyPadClashesMoved_55
      · have hlt : i < 140 := nI_nle' (a := 140) (b := i) c_2 (by decide) (by omega)
        refine lv_aload_n hx hb d_Co_anyPadClashesMoved_12 rfl (lv_at hl 1 rfl) ?_
        refine lv_iload hx hb d_Co_anyPadClashesMoved_13 (lv_at hl 0 rfl) ?_
        refine rc_Q (va_runV (As := [.int (nI i)]) (rest := []) ⟨hx, hb, hml, hown, hts⟩ (c_Co_thereAt l D N0 k V co ta ro on re lay g h_co f ar T hT i (by omega)) (cwV 1 hts (gi_V wm_Co_46 wv_Co_thereAt ws_Co_thereAt wi_Co wc_Co_thereAt) rfl rfl rfl (by decide +kernel) ⟨Nat.le_of_ble_eq_true rfl, Nat.le_of_ble_eq_true rfl⟩) (mP.preV hG hS hV h_co rfl) rfl rfl hl.1 rfl (lv_room (Nat.le_of_ble_eq_true rfl)) d_Co_anyPadClashesMoved_15 ⟨Nat.le_of_ble_eq_true rfl, Nat.le_of_ble_eq_true rfl⟩) hS (fun r_3 V_4 H locs hp_5 hV hS => ?_)
        obtain ⟨er_r_3, ev_r_3⟩ := hp_5
        rw [ev_r_3] at hV
        rw [er_r_3]
        by_cases h5_6 : T i 5 = 0
        · rw [thO_none h5_6]
          refine W.eq (g2 := F0 m 18 ls [.null]) rfl ?_
          refine lv_astoreN (lv' := [(5, .null), (4, .int (nI i)), (0, .ref co), (1, .ref z), (2, .int dx), (3, .int dy)]) hx hb d_Co_anyPadClashesMoved_18 hl (by decide) rfl (fun ls hl => ?_)
          refine lv_aloadN hx hb d_Co_anyPadClashesMoved_20 (lv_at hl 0 rfl) ?_
          refine lv_ifnullN (tgt := 48) hx hb d_Co_anyPadClashesMoved_22 (by decide) ?_
          obtain ⟨i_8, ei_8⟩ : ∃ y : Int32, y = (nI i) + 1 := ⟨_, rfl⟩
          refine lv_iinc (v := i_8) (lv' := [(4, .int i_8), (5, .null), (0, .ref co), (1, .ref z), (2, .int dx), (3, .int dy)]) hx hb d_Co_anyPadClashesMoved_48 hl (k := 1) rfl (by rw [ei_8]; rfl) (by decide) rfl (fun ls hl => ?_)
          refine lv_goto (tgt := 4) hx hb d_Co_anyPadClashesMoved_51 (by decide) ?_
          rw [nI_1] at ei_8
          subst ei_8
          have hPi : P i = false := by subst hP; simp [co_P, co_A, goesT, h5_6]
          exact ih (i + 1)  _ _ _ (by omega) (by omega) (by rw [hI, anyF_step hlt, hPi, Bool.false_or]) hV hS (lv_sub hl [0, 2, 3, 4, 5] rfl)
        · obtain ⟨t_7, e1_t_7, e2_t_7, h_t_7, ha_t_7⟩ := thO_some hT (show i < 150 by omega) h5_6
          rw [e1_t_7]
          refine W.eq (g2 := F0 m 18 ls [.ref t_7]) rfl ?_
          refine lv_astore (lv' := [(5, .ref t_7), (4, .int (nI i)), (0, .ref co), (1, .ref z), (2, .int dx), (3, .int dy)]) hx hb d_Co_anyPadClashesMoved_18 hl (by decide) rfl (fun ls hl => ?_)
          refine lv_aload hx hb d_Co_anyPadClashesMoved_20 (lv_at hl 0 rfl) ?_
          refine lv_ifnull hx hb d_Co_anyPadClashesMoved_22 ?_
          refine lv_aload hx hb d_Co_anyPadClashesMoved_25 (lv_at hl 0 rfl) ?_
          refine lv_aload_n hx hb d_Co_anyPadClashesMoved_27 rfl (lv_at hl 3 rfl) ?_
          refine rc_i (va_runV (As := [.ref z]) (rest := []) ⟨hx, hb, hml, hown, hts⟩ (c_Th_goesWith l D N0 k V t_7 (ar i) (T i 0) (T i 1) (T i 2) (T i 3) (T i 4) (T i 5) h_t_7 z a kd nu la ne pa th h_z) (cwV 1 hts (gi_V wm_Co_54 wv_Th_goesWith ws_Th_goesWith wi_Th wc_Th_goesWith) rfl rfl rfl (by decide +kernel) ⟨Nat.le_of_ble_eq_true rfl, Nat.le_of_ble_eq_true rfl⟩) (mP.preV hG hS hV h_t_7 rfl) rfl rfl hl.1 rfl (lv_room (Nat.le_of_ble_eq_true rfl)) d_Co_anyPadClashesMoved_28 ⟨Nat.le_of_ble_eq_true rfl, Nat.le_of_ble_eq_true rfl⟩) hS (fun H locs hV hS => ?_)
          refine lv_if_eq (tgt := 48) hx hb d_Co_anyPadClashesMoved_31 (by decide) (fun c_9 => ?_) (fun c_9 => ?_)
          · obtain ⟨i_10, ei_10⟩ : ∃ y : Int32, y = (nI i) + 1 := ⟨_, rfl⟩
            refine lv_iinc (v := i_10) (lv' := [(4, .int i_10), (5, .ref t_7), (0, .ref co), (1, .ref z), (2, .int dx), (3, .int dy)]) hx hb d_Co_anyPadClashesMoved_48 hl (k := 1) rfl (by rw [ei_10]; rfl) (by decide) rfl (fun ls hl => ?_)
            refine lv_goto (tgt := 4) hx hb d_Co_anyPadClashesMoved_51 (by decide) ?_
            rw [nI_1] at ei_10
            subst ei_10
            try simp only [bI_ne0, bI_eq0] at c_9
            try simp only [th_goesWith] at c_9
            have e2s := e2_t_7
            have hPi : P i = false := by subst hP; simp [co_P, co_A, goesT, c_9, h5_6, e2s]
            exact ih (i + 1)  _ _ _ (by omega) (by omega) (by rw [hI, anyF_step hlt, hPi, Bool.false_or]) hV hS (lv_sub hl [0, 2, 3, 4, 5] rfl)
          · refine lv_aload_n hx hb d_Co_anyPadClashesMoved_34 rfl (lv_at hl 2 rfl) ?_
            refine lv_aload hx hb d_Co_anyPadClashesMoved_35 (lv_at hl 0 rfl) ?_
            refine lv_aload_n hx hb d_Co_anyPadClashesMoved_37 rfl (lv_at hl 3 rfl) ?_
            refine lv_iload_n hx hb d_Co_anyPadClashesMoved_38 rfl (lv_at hl 4 rfl) ?_
            refine lv_iload_n hx hb d_Co_anyPadClashesMoved_39 rfl (lv_at hl 5 rfl) ?_
            refine rc_i (va_runV (As := [.ref t_7, .ref z, .int dx, .int dy]) (rest := []) ⟨hx, hb, hml, hown, hts⟩ (c_Co_clashesMoved l D N0 k V co ta ro on re lay g h_co f ar T hT t_7 (ar i) (T i 0) (T i 1) (T i 2) (T i 3) (T i 4) (T i 5) h_t_7 (T i 6) (T i 7) (T i 8) (T i 9) ha_t_7 z a kd nu la ne pa th h_z dx dy) (cwV 4 hts (gi_V wm_Co_62 wv_Co_clashesMoved ws_Co_clashesMoved wi_Co wc_Co_clashesMoved) rfl rfl rfl (by decide +kernel) ⟨Nat.le_of_ble_eq_true rfl, Nat.le_of_ble_eq_true rfl⟩) (mP.preV hG hS hV h_co rfl) rfl rfl hl.1 rfl (lv_room (Nat.le_of_ble_eq_true rfl)) d_Co_anyPadClashesMoved_40 ⟨Nat.le_of_ble_eq_true rfl, Nat.le_of_ble_eq_true rfl⟩) hS (fun H locs hV hS => ?_)
            refine lv_if_eq (tgt := 48) hx hb d_Co_anyPadClashesMoved_43 (by decide) (fun c_11 => ?_) (fun c_11 => ?_)
            · obtain ⟨i_12, ei_12⟩ : ∃ y : Int32, y = (nI i) + 1 := ⟨_, rfl⟩
              refine lv_iinc (v := i_12) (lv' := [(4, .int i_12), (5, .ref t_7), (0, .ref co), (1, .ref z), (2, .int dx), (3, .int dy)]) hx hb d_Co_anyPadClashesMoved_48 hl (k := 1) rfl (by rw [ei_12]; rfl) (by decide) rfl (fun ls hl => ?_)
              refine lv_goto (tgt := 4) hx hb d_Co_anyPadClashesMoved_51 (by decide) ?_
              rw [nI_1] at ei_12
              subst ei_12
              try simp only [bI_ne0, bI_eq0] at c_9
              try simp only [bI_ne0, bI_eq0] at c_11
              try simp only [th_goesWith] at c_9
              try simp only [th_goesWith] at c_11
              have e2s := e2_t_7
              have hPi : P i = false := by subst hP; simp [co_P, co_A, goesT, c_9, c_11, h5_6, e2s]
              exact ih (i + 1)  _ _ _ (by omega) (by omega) (by rw [hI, anyF_step hlt, hPi, Bool.false_or]) hV hS (lv_sub hl [0, 2, 3, 4, 5] rfl)
            · refine lv_iconst (v := 1) hx hb d_Co_anyPadClashesMoved_46 (by decide) ?_
              try simp only [bI_ne0, bI_eq0] at c_9
              try simp only [bI_ne0, bI_eq0] at c_11
              try simp only [th_goesWith] at c_9
              try simp only [th_goesWith] at c_11
              have e2s := e2_t_7
              have hPi : P i = true := by subst hP; simp [co_P, co_A, goesT, c_9, c_11, h5_6, e2s]
              have hz : anyF (co_A f T z kd nu g dx dy) 20 120 = true := by rw [← hP]; exact bI_ne0.mp (fun q => by rw [hI, anyF_step hlt, hPi, Bool.true_or] at q; exact absurd q (by decide))
              exact W.zret (v := 1) hx hb hr rfl (fun t ht hW => ⟨⟨1, V, rfl, ⟨by rw [hz]; rfl, rfl⟩, mB_of ht hV⟩, hS.F ht⟩) hS.2.2 d_Co_anyPadClashesMoved_47
  exact loop_1 (140 + 1 - 20) 20  _ _ _ (by omega) (by omega) rfl hV hS (lv_sub hl [0, 1, 2, 3, 4] rfl)
set_option maxHeartbeats 4000000 in
set_option maxRecDepth 100000 in
/-- isPair -/
theorem c_Co_isPair (l : Launch) (D : va_G) (N0 : Nat) (k : Nat → Nat) (V : HV) (co ta ro on re : Nat) (lay g : Int32) (h_co : V co = some (eCo ta lay ro on re g)) (f : Nat → Option Nat) (ar : Nat → Nat) (T : Nat → Nat → Int32) (hT : tsOk k V ta f ar T) (t a : Nat) (kd nu la ne pa th : Int32) (h_t : V t = some (eTh kd nu a la ne pa th)) (x y u v : Int32) (h_a : V a = some (eAr x y u v)) (i : Nat) (hi : i < 150) : Met l y_Co_isPair (.code y_Co_isPair b_Co_isPair 4 (some .boolean) :: WS) ({ frames := 2, cells := 0, slots := 0, locals := 48 }) (mP D N0 k [.ref co, .ref t, .int (nI i)] V) (va_Qi (fun r V' => r = bI (co_C T kd la ne x y u v g i) ∧ V' = V) (mB D N0) (hA N0)) 0 0 (hA N0) := by
  refine Met.ofW (cc := b_Co_isPair) (maxL := 4) (ret := (some .boolean)) (by decide) rfl ?_
  intro p e s m args below meth c s₁ B hml hv0
  obtain ⟨rfl, hG, hV⟩ := hv0
  have hx := B.exec
  have hb := B.bytes
  have hr := B.returns
  have hts := atoms_spec (ws := .code y_Co_isPair b_Co_isPair 4 (some .boolean) :: WS) B.pre
  have hW : ∀ w ∈ WS, w.before _ s = true := fun w h => hts w (List.mem_cons_of_mem _ h)
  have hown : s.vm.findClass "BoardHouse$Copper" = some m.cls := findClass_of_methodNamed B.named
  have hlocks := B.notSynchronized
  have hS : va_S (hA N0) s.heap s.heap [] := va_S.rf
  have hl := lv_entry ([.ref co, .ref t, .int (nI i)]) (n := 4) (Nat.le_of_ble_eq_true rfl)
  rw [lg_entry_eq]
  generalize (lg_sl ([.ref co, .ref t, .int (nI i)]) ++ List.replicate (4 - (lg_sl ([.ref co, .ref t, .int (nI i)])).length) Slot.unset).toArray = ls at hl ⊢
  have hl : lv_has ls 4 [(0, .ref co), (1, .ref t), (2, .int (nI i))] := hl
  refine lv_aload_n hx hb d_Co_isPair_0 rfl (lv_at hl 0 rfl) ?_
  refine lv_iload_n hx hb d_Co_isPair_1 rfl (lv_at hl 2 rfl) ?_
  refine rc_Q (va_runV (As := [.int (nI i)]) (rest := []) ⟨hx, hb, hml, hown, hts⟩ (c_Co_thereAt l D N0 k V co ta ro on re lay g h_co f ar T hT i (by omega)) (cwV 1 hts (gi_V wm_Co_46 wv_Co_thereAt ws_Co_thereAt wi_Co wc_Co_thereAt) rfl rfl rfl (by decide +kernel) ⟨Nat.le_of_ble_eq_true rfl, Nat.le_of_ble_eq_true rfl⟩) (mP.preV hG hS hV h_co rfl) rfl rfl hl.1 rfl (lv_room (Nat.le_of_ble_eq_true rfl)) d_Co_isPair_2 ⟨Nat.le_of_ble_eq_true rfl, Nat.le_of_ble_eq_true rfl⟩) hS (fun r_1 V_2 H locs hp_3 hV hS => ?_)
  obtain ⟨er_r_1, ev_r_1⟩ := hp_3
  rw [ev_r_1] at hV
  rw [er_r_1]
  by_cases h5_4 : T i 5 = 0
  · rw [thO_none h5_4]
    refine W.eq (g2 := F0 m 5 ls [.null]) rfl ?_
    refine lv_astore_nN (lv' := [(3, .null), (0, .ref co), (1, .ref t), (2, .int (nI i))]) hx hb d_Co_isPair_5 rfl hl (by decide) rfl (fun ls hl => ?_)
    refine lv_aload_nN hx hb d_Co_isPair_6 rfl (lv_at hl 0 rfl) ?_
    refine lv_ifnullN (tgt := 28) hx hb d_Co_isPair_7 (by decide) ?_
    refine lv_iconst (v := 0) hx hb d_Co_isPair_28 (by decide) ?_
    exact W.zret (v := 0) hx hb hr rfl (fun t ht hW => ⟨⟨0, V, rfl, ⟨by simp [bI, co_C, h5_4], rfl⟩, mB_of ht hV⟩, hS.F ht⟩) hS.2.2 d_Co_isPair_29
  · obtain ⟨t_5, e1_t_5, e2_t_5, h_t_5, ha_t_5⟩ := thO_some hT (show i < 150 by omega) h5_4
    rw [e1_t_5]
    refine W.eq (g2 := F0 m 5 ls [.ref t_5]) rfl ?_
    refine lv_astore_n (lv' := [(3, .ref t_5), (0, .ref co), (1, .ref t), (2, .int (nI i))]) hx hb d_Co_isPair_5 rfl hl (by decide) rfl (fun ls hl => ?_)
    refine lv_aload_n hx hb d_Co_isPair_6 rfl (lv_at hl 0 rfl) ?_
    refine lv_ifnull hx hb d_Co_isPair_7 ?_
    refine lv_aload_n hx hb d_Co_isPair_10 rfl (lv_at hl 2 rfl) ?_
    refine lv_aload_n hx hb d_Co_isPair_11 rfl (lv_at hl 0 rfl) ?_
    refine lv_aload_n hx hb d_Co_isPair_12 rfl (lv_at hl 1 rfl) ?_
    refine gf_Co_28 hx hb hW hown hG hV h_co d_Co_isPair_13 ?_
    refine lv_iconst (v := 0) hx hb d_Co_isPair_16 (by decide) ?_
    refine lv_iconst (v := 0) hx hb d_Co_isPair_17 (by decide) ?_
    refine rc_i (va_runV (As := [.ref t_5, .int g, .int 0, .int 0]) (rest := []) ⟨hx, hb, hml, hown, hts⟩ (c_Th_clashesMoved l D N0 k V t a kd nu la ne pa th h_t t_5 (ar i) (T i 0) (T i 1) (T i 2) (T i 3) (T i 4) (T i 5) h_t_5 x y u v h_a (T i 6) (T i 7) (T i 8) (T i 9) ha_t_5 g 0 0) (cwV 4 hts (gi_V wm_Co_58 wv_Th_clashesMoved ws_Th_clashesMoved wi_Th wc_Th_clashesMoved) rfl rfl rfl (by decide +kernel) ⟨Nat.le_of_ble_eq_true rfl, Nat.le_of_ble_eq_true rfl⟩) (mP.preV hG hS hV h_t rfl) rfl rfl hl.1 rfl (lv_room (Nat.le_of_ble_eq_true rfl)) d_Co_isPair_18 ⟨Nat.le_of_ble_eq_true rfl, Nat.le_of_ble_eq_true rfl⟩) hS (fun H locs hV hS => ?_)
    refine lv_if_eq (tgt := 28) hx hb d_Co_isPair_21 (by decide) (fun c_6 => ?_) (fun c_6 => ?_)
    · refine lv_iconst (v := 0) hx hb d_Co_isPair_28 (by decide) ?_
      exact W.zret (v := 0) hx hb hr rfl (fun t ht hW => ⟨⟨0, V, rfl, ⟨by simp only [bI_ne0, bI_eq0] at c_6; simp [bI, co_C, h5_4, c_6], rfl⟩, mB_of ht hV⟩, hS.F ht⟩) hS.2.2 d_Co_isPair_29
    · refine lv_iconst (v := 1) hx hb d_Co_isPair_24 (by decide) ?_
      refine lv_goto (tgt := 29) hx hb d_Co_isPair_25 (by decide) ?_
      exact W.zret (v := 1) hx hb hr rfl (fun t ht hW => ⟨⟨1, V, rfl, ⟨by simp only [bI_ne0, bI_eq0] at c_6; simp [bI, co_C, h5_4, c_6], rfl⟩, mB_of ht hV⟩, hS.F ht⟩) hS.2.2 d_Co_isPair_29
set_option maxHeartbeats 4000000 in
set_option maxRecDepth 100000 in
/-- countPartners -/
theorem c_Co_countPartners (l : Launch) (D : va_G) (N0 : Nat) (k : Nat → Nat) (V : HV) (co ta ro on re : Nat) (lay g : Int32) (h_co : V co = some (eCo ta lay ro on re g)) (f : Nat → Option Nat) (ar : Nat → Nat) (T : Nat → Nat → Int32) (hT : tsOk k V ta f ar T) (w0 : Nat) (hw : w0 < 140) : Met l y_Co_countPartners (.code y_Co_countPartners b_Co_countPartners 5 (some .int) :: WS) ({ frames := 3, cells := 0, slots := 0, locals := 71 }) (mP D N0 k [.ref co, .int (nI w0)] V) (va_Qi (fun r V' => r = (if T w0 5 = 0 then 0 else nI (cntF (co_C T (T w0 0) (T w0 2) (T w0 3) (T w0 6) (T w0 7) (T w0 8) (T w0 9) g) (w0 + 1) (140 - (w0 + 1)))) ∧ V' = V) (mB D N0) (hA N0)) 0 0 (hA N0) := by
  refine Met.ofW (cc := b_Co_countPartners) (maxL := 5) (ret := (some .int)) (by decide) rfl ?_
  intro p e s m args below meth c s₁ B hml hv0
  obtain ⟨rfl, hG, hV⟩ := hv0
  have hx := B.exec
  have hb := B.bytes
  have hr := B.returns
  have hts := atoms_spec (ws := .code y_Co_countPartners b_Co_countPartners 5 (some .int) :: WS) B.pre
  have hW : ∀ w ∈ WS, w.before _ s = true := fun w h => hts w (List.mem_cons_of_mem _ h)
  have hown : s.vm.findClass "BoardHouse$Copper" = some m.cls := findClass_of_methodNamed B.named
  have hlocks := B.notSynchronized
  have hS : va_S (hA N0) s.heap s.heap [] := va_S.rf
  have hl := lv_entry ([.ref co, .int (nI w0)]) (n := 5) (Nat.le_of_ble_eq_true rfl)
  rw [lg_entry_eq]
  generalize (lg_sl ([.ref co, .int (nI w0)]) ++ List.replicate (5 - (lg_sl ([.ref co, .int (nI w0)])).length) Slot.unset).toArray = ls at hl ⊢
  have hl : lv_has ls 5 [(0, .ref co), (1, .int (nI w0))] := hl
  refine lv_aload_n hx hb d_Co_countPartners_0 rfl (lv_at hl 0 rfl) ?_
  refine lv_iload_n hx hb d_Co_countPartners_1 rfl (lv_at hl 1 rfl) ?_
  refine rc_Q (va_runV (As := [.int (nI w0)]) (rest := []) ⟨hx, hb, hml, hown, hts⟩ (c_Co_thereAt l D N0 k V co ta ro on re lay g h_co f ar T hT w0 (by omega)) (cwV 1 hts (gi_V wm_Co_46 wv_Co_thereAt ws_Co_thereAt wi_Co wc_Co_thereAt) rfl rfl rfl (by decide +kernel) ⟨Nat.le_of_ble_eq_true rfl, Nat.le_of_ble_eq_true rfl⟩) (mP.preV hG hS hV h_co rfl) rfl rfl hl.1 rfl (lv_room (Nat.le_of_ble_eq_true rfl)) d_Co_countPartners_2 ⟨Nat.le_of_ble_eq_true rfl, Nat.le_of_ble_eq_true rfl⟩) hS (fun r_1 V_2 H locs hp_3 hV hS => ?_)
  obtain ⟨er_r_1, ev_r_1⟩ := hp_3
  rw [ev_r_1] at hV
  rw [er_r_1]
  by_cases h5_4 : T w0 5 = 0
  · rw [thO_none h5_4]
    refine W.eq (g2 := F0 m 5 ls [.null]) rfl ?_
    refine lv_astore_nN (lv' := [(2, .null), (0, .ref co), (1, .int (nI w0))]) hx hb d_Co_countPartners_5 rfl hl (by decide) rfl (fun ls hl => ?_)
    refine lv_iconst (v := 0) hx hb d_Co_countPartners_6 (by decide) ?_
    refine lv_istore_n (lv' := [(3, .int 0), (2, .null), (0, .ref co), (1, .int (nI w0))]) hx hb d_Co_countPartners_7 rfl hl (by decide) rfl (fun ls hl => ?_)
    refine lv_iload_n hx hb d_Co_countPartners_8 rfl (lv_at hl 3 rfl) ?_
    refine lv_iconst (v := 1) hx hb d_Co_countPartners_9 (by decide) ?_
    refine lv_iadd hx hb d_Co_countPartners_10 ?_
    refine lv_istore (lv' := [(4, .int ((nI w0) + 1)), (3, .int 0), (2, .null), (0, .ref co), (1, .int (nI w0))]) hx hb d_Co_countPartners_11 hl (by decide) rfl (fun ls hl => ?_)
    refine lv_aload_nN hx hb d_Co_countPartners_13 rfl (lv_at hl 2 rfl) ?_
    refine lv_ifnullN (tgt := 44) hx hb d_Co_countPartners_14 (by decide) ?_
    refine lv_iload_n hx hb d_Co_countPartners_44 rfl (lv_at hl 1 rfl) ?_
    exact W.iret (v := 0) hx hb hr (fun t ht hW => ⟨⟨0, V, rfl, ⟨by rw [if_pos h5_4], rfl⟩, mB_of ht hV⟩, hS.F ht⟩) hS.2.2 d_Co_countPartners_45
  · obtain ⟨t_5, e1_t_5, e2_t_5, h_t_5, ha_t_5⟩ := thO_some hT (show w0 < 150 by omega) h5_4
    rw [e1_t_5]
    refine W.eq (g2 := F0 m 5 ls [.ref t_5]) rfl ?_
    refine lv_astore_n (lv' := [(2, .ref t_5), (0, .ref co), (1, .int (nI w0))]) hx hb d_Co_countPartners_5 rfl hl (by decide) rfl (fun ls hl => ?_)
    refine lv_iconst (v := 0) hx hb d_Co_countPartners_6 (by decide) ?_
    refine lv_istore_n (lv' := [(3, .int 0), (2, .ref t_5), (0, .ref co), (1, .int (nI w0))]) hx hb d_Co_countPartners_7 rfl hl (by decide) rfl (fun ls hl => ?_)
    refine lv_iload_n hx hb d_Co_countPartners_8 rfl (lv_at hl 3 rfl) ?_
    refine lv_iconst (v := 1) hx hb d_Co_countPartners_9 (by decide) ?_
    refine lv_iadd hx hb d_Co_countPartners_10 ?_
    refine lv_istore (lv' := [(4, .int ((nI w0) + 1)), (3, .int 0), (2, .ref t_5), (0, .ref co), (1, .int (nI w0))]) hx hb d_Co_countPartners_11 hl (by decide) rfl (fun ls hl => ?_)
    obtain ⟨P, hP⟩ : ∃ P : Nat → Bool, P = (co_C T (T w0 0) (T w0 2) (T w0 3) (T w0 6) (T w0 7) (T w0 8) (T w0 9) g) := ⟨_, rfl⟩
    rw [nI_1] at hl
    have loop_6 : ∀ (n i : Nat) (c0 : Nat) (H : Heap) (locs : List Loc) (ls : Array Slot), i ≤ 140 → 140 + 1 ≤ i + n → (c0 + cntF P i (140 - i) = cntF P (w0 + 1) (140 - (w0 + 1))) → hv D vwCl N0 V H → va_S (hA N0) s.heap H locs → lv_has ls 5 [(4, .int (nI i)), (3, .int (nI c0)), (2, .ref t_5), (0, .ref co), (1, .int (nI w0))] → W p l e (headSpec (.code y_Co_countPartners b_Co_countPartners 5 (some .int) :: WS) ({ frames := 3, cells := 0, slots := 0, locals := 71 })).room s m #[.ref co, .int (nI w0)] below meth c H locs 0 0 (MQ below (va_Qi (fun r V' => r = (if T w0 5 = 0 then 0 else nI (cntF (co_C T (T w0 0) (T w0 2) (T w0 3) (T w0 6) (T w0 7) (T w0 8) (T w0 9) g) (w0 + 1) (140 - (w0 + 1)))) ∧ V' = V) (mB D N0) (hA N0)) #[.ref co, .int (nI w0)] s 0 0 (hA N0)) (F0 m 13 ls []) := by
      intro n
      induction n with
      | zero => intro i c0 H locs ls h1 h2; exact absurd h2 (by omega)
      | succ n ih =>
        intro i c0 H locs ls hi hin hI hV hS hl
        refine lv_aload_n hx hb d_Co_countPartners_13 rfl (lv_at hl 2 rfl) ?_
        refine lv_ifnull hx hb d_Co_countPartners_14 ?_
        refine lv_iload hx hb d_Co_countPartners_17 (lv_at hl 0 rfl) ?_
        refine lv_sipush (v := 140) hx hb d_Co_countPartners_19 (by decide) ?_
        refine lv_icmp_ge (tgt := 44) hx hb d_Co_countPartners_22 (by decide) (fun c_7 => ?_) (fun c_7 => ?_)
        · have hge : 140 ≤ i := nI_le' (a := 140) (b := i) c_7 (by decide) (by omega)
          refine lv_iload_n hx hb d_Co_countPartners_44 rfl (lv_at hl 1 rfl) ?_
          exact W.iret (v := (nI c0)) hx hb hr (fun t ht hW => ⟨⟨(nI c0), V, rfl, ⟨by rw [if_neg h5_4]; rw [cntF_end hge] at hI; subst hP; rw [← hI]; rfl, rfl⟩, mB_of ht hV⟩, hS.F ht⟩) hS.2.2 d_Co_countPartners_45
        · have hlt : i < 140 := nI_nle' (a := 140) (b := i) c_7 (by decide) (by omega)
          refine lv_aload_n hx hb d_Co_countPartners_25 rfl (lv_at hl 3 rfl) ?_
          refine lv_aload_n hx hb d_Co_countPartners_26 rfl (lv_at hl 2 rfl) ?_
          refine lv_iload hx hb d_Co_countPartners_27 (lv_at hl 0 rfl) ?_
          refine rc_i (va_runV (As := [.ref t_5, .int (nI i)]) (rest := []) ⟨hx, hb, hml, hown, hts⟩ (c_Co_isPair l D N0 k V co ta ro on re lay g h_co f ar T hT t_5 (ar w0) (T w0 0) (T w0 1) (T w0 2) (T w0 3) (T w0 4) (T w0 5) h_t_5 (T w0 6) (T w0 7) (T w0 8) (T w0 9) ha_t_5 i (by omega)) (cwV 2 hts (gi_V wm_Co_65 wv_Co_isPair ws_Co_isPair wi_Co wc_Co_isPair) rfl rfl rfl (by decide +kernel) ⟨Nat.le_of_ble_eq_true rfl, Nat.le_of_ble_eq_true rfl⟩) (mP.preV hG hS hV h_co rfl) rfl rfl hl.1 rfl (lv_room (Nat.le_of_ble_eq_true rfl)) d_Co_countPartners_29 ⟨Nat.le_of_ble_eq_true rfl, Nat.le_of_ble_eq_true rfl⟩) hS (fun H locs hV hS => ?_)
          refine lv_if_eq (tgt := 38) hx hb d_Co_countPartners_32 (by decide) (fun c_8 => ?_) (fun c_8 => ?_)
          · obtain ⟨i_9, ei_9⟩ : ∃ y : Int32, y = (nI i) + 1 := ⟨_, rfl⟩
            refine lv_iinc (v := i_9) (lv' := [(4, .int i_9), (3, .int (nI c0)), (2, .ref t_5), (0, .ref co), (1, .int (nI w0))]) hx hb d_Co_countPartners_38 hl (k := 0) rfl (by rw [ei_9]; rfl) (by decide) rfl (fun ls hl => ?_)
            refine lv_goto (tgt := 13) hx hb d_Co_countPartners_41 (by decide) ?_
            rw [nI_1] at ei_9
            subst ei_9
            simp only [bI_ne0, bI_eq0] at c_8
            have hPi : P i = false := by subst hP; exact c_8
            exact ih (i + 1) c0 _ _ _ (by omega) (by omega) (by rw [← hI, cntF_step hlt, hPi]; simp) hV hS (lv_sub hl [0, 1, 2, 3, 4] rfl)
          · obtain ⟨i_10, ei_10⟩ : ∃ y : Int32, y = (nI c0) + 1 := ⟨_, rfl⟩
            refine lv_iinc (v := i_10) (lv' := [(3, .int i_10), (4, .int (nI i)), (2, .ref t_5), (0, .ref co), (1, .int (nI w0))]) hx hb d_Co_countPartners_35 hl (k := 1) rfl (by rw [ei_10]; rfl) (by decide) rfl (fun ls hl => ?_)
            obtain ⟨i_11, ei_11⟩ : ∃ y : Int32, y = (nI i) + 1 := ⟨_, rfl⟩
            refine lv_iinc (v := i_11) (lv' := [(4, .int i_11), (3, .int i_10), (2, .ref t_5), (0, .ref co), (1, .int (nI w0))]) hx hb d_Co_countPartners_38 hl (k := 1) rfl (by rw [ei_11]; rfl) (by decide) rfl (fun ls hl => ?_)
            refine lv_goto (tgt := 13) hx hb d_Co_countPartners_41 (by decide) ?_
            rw [nI_1] at ei_11
            subst ei_11
            simp only [bI_ne0, bI_eq0] at c_8
            rw [nI_1] at ei_10
            subst ei_10
            have hPi : P i = true := by subst hP; simpa using c_8
            exact ih (i + 1) (c0 + 1) _ _ _ (by omega) (by omega) (by rw [← hI, cntF_step hlt, hPi]; simp; omega) hV hS (lv_sub hl [0, 1, 2, 3, 4] rfl)
    exact loop_6 (140 + 1 - (w0 + 1)) (w0 + 1) 0 _ _ _ (by omega) (by omega) (by omega) hV hS (lv_sub hl [0, 1, 2, 3, 4] rfl)
/-- the q-th place that has P, from i on, n places -/
def nthF (P : Nat → Bool) : Nat → Nat → Nat → Option Nat
  | _, 0, _ => none
  | i, n + 1, q => if P i then (if q = 0 then some i else nthF P (i + 1) n (q - 1)) else nthF P (i + 1) n q
theorem nthF_step {P : Nat → Bool} {i N q : Nat} (h : i < N) : nthF P i (N - i) q = if P i then (if q = 0 then some i else nthF P (i + 1) (N - (i + 1)) (q - 1)) else nthF P (i + 1) (N - (i + 1)) q := by
  rw [show N - i = (N - (i + 1)) + 1 by omega]; rfl
theorem nthF_end {P : Nat → Bool} {i N q : Nat} (h : N ≤ i) : nthF P i (N - i) q = none := by
  rw [show N - i = 0 by omega]; rfl
set_option maxHeartbeats 4000000 in
set_option maxRecDepth 100000 in
/-- partnerOf -/
theorem c_Co_partnerOf (l : Launch) (D : va_G) (N0 : Nat) (k : Nat → Nat) (V : HV) (co ta ro on re : Nat) (lay g : Int32) (h_co : V co = some (eCo ta lay ro on re g)) (f : Nat → Option Nat) (ar : Nat → Nat) (T : Nat → Nat → Int32) (hT : tsOk k V ta f ar T) (w0 q0 : Nat) (hw : w0 < 140) (hq : q0 < 2 ^ 31) : Met l y_Co_partnerOf (.code y_Co_partnerOf b_Co_partnerOf 6 (some .int) :: WS) ({ frames := 3, cells := 0, slots := 0, locals := 71 }) (mP D N0 k [.ref co, .int (nI w0), .int (nI q0)] V) (va_Qi (fun r V' => r = (if T w0 5 = 0 then -1 else (match nthF (co_C T (T w0 0) (T w0 2) (T w0 3) (T w0 6) (T w0 7) (T w0 8) (T w0 9) g) (w0 + 1) (140 - (w0 + 1)) q0 with | none => -1 | some j => 1000 * T j 0 + T j 1)) ∧ V' = V) (mB D N0) (hA N0)) 0 0 (hA N0) := by
  refine Met.ofW (cc := b_Co_partnerOf) (maxL := 6) (ret := (some .int)) (by decide) rfl ?_
  intro p e s m args below meth c s₁ B hml hv0
  obtain ⟨rfl, hG, hV⟩ := hv0
  have hx := B.exec
  have hb := B.bytes
  have hr := B.returns
  have hts := atoms_spec (ws := .code y_Co_partnerOf b_Co_partnerOf 6 (some .int) :: WS) B.pre
  have hW : ∀ w ∈ WS, w.before _ s = true := fun w h => hts w (List.mem_cons_of_mem _ h)
  have hown : s.vm.findClass "BoardHouse$Copper" = some m.cls := findClass_of_methodNamed B.named
  have hlocks := B.notSynchronized
  have hS : va_S (hA N0) s.heap s.heap [] := va_S.rf
  have hl := lv_entry ([.ref co, .int (nI w0), .int (nI q0)]) (n := 6) (Nat.le_of_ble_eq_true rfl)
  rw [lg_entry_eq]
  generalize (lg_sl ([.ref co, .int (nI w0), .int (nI q0)]) ++ List.replicate (6 - (lg_sl ([.ref co, .int (nI w0), .int (nI q0)])).length) Slot.unset).toArray = ls at hl ⊢
  have hl : lv_has ls 6 [(0, .ref co), (1, .int (nI w0)), (2, .int (nI q0))] := hl
  refine lv_aload_n hx hb d_Co_partnerOf_0 rfl (lv_at hl 0 rfl) ?_
  refine lv_iload_n hx hb d_Co_partnerOf_1 rfl (lv_at hl 1 rfl) ?_
  refine rc_Q (va_runV (As := [.int (nI w0)]) (rest := []) ⟨hx, hb, hml, hown, hts⟩ (c_Co_thereAt l D N0 k V co ta ro on re lay g h_co f ar T hT w0 (by omega)) (cwV 1 hts (gi_V wm_Co_46 wv_Co_thereAt ws_Co_thereAt wi_Co wc_Co_thereAt) rfl rfl rfl (by decide +kernel) ⟨Nat.le_of_ble_eq_true rfl, Nat.le_of_ble_eq_true rfl⟩) (mP.preV hG hS hV h_co rfl) rfl rfl hl.1 rfl (lv_room (Nat.le_of_ble_eq_true rfl)) d_Co_partnerOf_2 ⟨Nat.le_of_ble_eq_true rfl, Nat.le_of_ble_eq_true rfl⟩) hS (fun r_1 V_2 H locs hp_3 hV hS => ?_)
  obtain ⟨er_r_1, ev_r_1⟩ := hp_3
  rw [ev_r_1] at hV
  rw [er_r_1]
  by_cases h5_4 : T w0 5 = 0
  · rw [thO_none h5_4]
    refine W.eq (g2 := F0 m 5 ls [.null]) rfl ?_
    refine lv_astore_nN (lv' := [(3, .null), (0, .ref co), (1, .int (nI w0)), (2, .int (nI q0))]) hx hb d_Co_partnerOf_5 rfl hl (by decide) rfl (fun ls hl => ?_)
    refine lv_iload_n hx hb d_Co_partnerOf_6 rfl (lv_at hl 3 rfl) ?_
    refine lv_istore (lv' := [(4, .int (nI q0)), (3, .null), (0, .ref co), (1, .int (nI w0)), (2, .int (nI q0))]) hx hb d_Co_partnerOf_7 hl (by decide) rfl (fun ls hl => ?_)
    refine lv_iload_n hx hb d_Co_partnerOf_9 rfl (lv_at hl 3 rfl) ?_
    refine lv_iconst (v := 1) hx hb d_Co_partnerOf_10 (by decide) ?_
    refine lv_iadd hx hb d_Co_partnerOf_11 ?_
    refine lv_istore (lv' := [(5, .int ((nI w0) + 1)), (4, .int (nI q0)), (3, .null), (0, .ref co), (1, .int (nI w0)), (2, .int (nI q0))]) hx hb d_Co_partnerOf_12 hl (by decide) rfl (fun ls hl => ?_)
    refine lv_aload_nN hx hb d_Co_partnerOf_14 rfl (lv_at hl 2 rfl) ?_
    refine lv_ifnullN (tgt := 57) hx hb d_Co_partnerOf_15 (by decide) ?_
    refine lv_iconst (v := (-1)) hx hb d_Co_partnerOf_57 (by decide) ?_
    exact W.iret (v := (-1)) hx hb hr (fun t ht hW => ⟨⟨(-1), V, rfl, ⟨by rw [if_pos h5_4], rfl⟩, mB_of ht hV⟩, hS.F ht⟩) hS.2.2 d_Co_partnerOf_58
  · obtain ⟨t_5, e1_t_5, e2_t_5, h_t_5, ha_t_5⟩ := thO_some hT (show w0 < 150 by omega) h5_4
    rw [e1_t_5]
    refine W.eq (g2 := F0 m 5 ls [.ref t_5]) rfl ?_
    refine lv_astore_n (lv' := [(3, .ref t_5), (0, .ref co), (1, .int (nI w0)), (2, .int (nI q0))]) hx hb d_Co_partnerOf_5 rfl hl (by decide) rfl (fun ls hl => ?_)
    refine lv_iload_n hx hb d_Co_partnerOf_6 rfl (lv_at hl 3 rfl) ?_
    refine lv_istore (lv' := [(4, .int (nI q0)), (3, .ref t_5), (0, .ref co), (1, .int (nI w0)), (2, .int (nI q0))]) hx hb d_Co_partnerOf_7 hl (by decide) rfl (fun ls hl => ?_)
    refine lv_iload_n hx hb d_Co_partnerOf_9 rfl (lv_at hl 3 rfl) ?_
    refine lv_iconst (v := 1) hx hb d_Co_partnerOf_10 (by decide) ?_
    refine lv_iadd hx hb d_Co_partnerOf_11 ?_
    refine lv_istore (lv' := [(5, .int ((nI w0) + 1)), (4, .int (nI q0)), (3, .ref t_5), (0, .ref co), (1, .int (nI w0)), (2, .int (nI q0))]) hx hb d_Co_partnerOf_12 hl (by decide) rfl (fun ls hl => ?_)
    obtain ⟨P, hP⟩ : ∃ P : Nat → Bool, P = (co_C T (T w0 0) (T w0 2) (T w0 3) (T w0 6) (T w0 7) (T w0 8) (T w0 9) g) := ⟨_, rfl⟩
    rw [nI_1] at hl
    have loop_6 : ∀ (n i : Nat) (c0 : Nat) (H : Heap) (locs : List Loc) (ls : Array Slot), i ≤ 140 → 140 + 1 ≤ i + n → (c0 < 2 ^ 31 ∧ nthF P (w0 + 1) (140 - (w0 + 1)) q0 = nthF P i (140 - i) c0) → hv D vwCl N0 V H → va_S (hA N0) s.heap H locs → lv_has ls 6 [(5, .int (nI i)), (4, .int (nI c0)), (3, .ref t_5), (0, .ref co), (1, .int (nI w0)), (2, .int (nI q0))] → W p l e (headSpec (.code y_Co_partnerOf b_Co_partnerOf 6 (some .int) :: WS) ({ frames := 3, cells := 0, slots := 0, locals := 71 })).room s m #[.ref co, .int (nI w0), .int (nI q0)] below meth c H locs 0 0 (MQ below (va_Qi (fun r V' => r = (if T w0 5 = 0 then -1 else (match nthF (co_C T (T w0 0) (T w0 2) (T w0 3) (T w0 6) (T w0 7) (T w0 8) (T w0 9) g) (w0 + 1) (140 - (w0 + 1)) q0 with | none => -1 | some j => 1000 * T j 0 + T j 1)) ∧ V' = V) (mB D N0) (hA N0)) #[.ref co, .int (nI w0), .int (nI q0)] s 0 0 (hA N0)) (F0 m 14 ls []) := by
      intro n
      induction n with
      | zero => intro i c0 H locs ls h1 h2; exact absurd h2 (by omega)
      | succ n ih =>
        intro i c0 H locs ls hi hin hI hV hS hl
        refine lv_aload_n hx hb d_Co_partnerOf_14 rfl (lv_at hl 2 rfl) ?_
        refine lv_ifnull hx hb d_Co_partnerOf_15 ?_
        refine lv_iload hx hb d_Co_partnerOf_18 (lv_at hl 0 rfl) ?_
        refine lv_sipush (v := 140) hx hb d_Co_partnerOf_20 (by decide) ?_
        refine lv_icmp_ge (tgt := 57) hx hb d_Co_partnerOf_23 (by decide) (fun c_7 => ?_) (fun c_7 => ?_)
        · have hge : 140 ≤ i := nI_le' (a := 140) (b := i) c_7 (by decide) (by omega)
          refine lv_iconst (v := (-1)) hx hb d_Co_partnerOf_57 (by decide) ?_
          exact W.iret (v := (-1)) hx hb hr (fun t ht hW => ⟨⟨(-1), V, rfl, ⟨by rw [if_neg h5_4, ← hP, hI.2, nthF_end hge], rfl⟩, mB_of ht hV⟩, hS.F ht⟩) hS.2.2 d_Co_partnerOf_58
        · have hlt : i < 140 := nI_nle' (a := 140) (b := i) c_7 (by decide) (by omega)
          refine lv_aload_n hx hb d_Co_partnerOf_26 rfl (lv_at hl 3 rfl) ?_
          refine lv_aload_n hx hb d_Co_partnerOf_27 rfl (lv_at hl 2 rfl) ?_
          refine lv_iload hx hb d_Co_partnerOf_28 (lv_at hl 0 rfl) ?_
          refine rc_i (va_runV (As := [.ref t_5, .int (nI i)]) (rest := []) ⟨hx, hb, hml, hown, hts⟩ (c_Co_isPair l D N0 k V co ta ro on re lay g h_co f ar T hT t_5 (ar w0) (T w0 0) (T w0 1) (T w0 2) (T w0 3) (T w0 4) (T w0 5) h_t_5 (T w0 6) (T w0 7) (T w0 8) (T w0 9) ha_t_5 i (by omega)) (cwV 2 hts (gi_V wm_Co_65 wv_Co_isPair ws_Co_isPair wi_Co wc_Co_isPair) rfl rfl rfl (by decide +kernel) ⟨Nat.le_of_ble_eq_true rfl, Nat.le_of_ble_eq_true rfl⟩) (mP.preV hG hS hV h_co rfl) rfl rfl hl.1 rfl (lv_room (Nat.le_of_ble_eq_true rfl)) d_Co_partnerOf_30 ⟨Nat.le_of_ble_eq_true rfl, Nat.le_of_ble_eq_true rfl⟩) hS (fun H locs hV hS => ?_)
          refine lv_if_eq (tgt := 51) hx hb d_Co_partnerOf_33 (by decide) (fun c_8 => ?_) (fun c_8 => ?_)
          · obtain ⟨i_9, ei_9⟩ : ∃ y : Int32, y = (nI i) + 1 := ⟨_, rfl⟩
            refine lv_iinc (v := i_9) (lv' := [(5, .int i_9), (4, .int (nI c0)), (3, .ref t_5), (0, .ref co), (1, .int (nI w0)), (2, .int (nI q0))]) hx hb d_Co_partnerOf_51 hl (k := 0) rfl (by rw [ei_9]; rfl) (by decide) rfl (fun ls hl => ?_)
            refine lv_goto (tgt := 14) hx hb d_Co_partnerOf_54 (by decide) ?_
            rw [nI_1] at ei_9
            subst ei_9
            simp only [bI_ne0, bI_eq0] at c_8
            have hPi : P i = false := by subst hP; exact c_8
            exact ih (i + 1) c0 _ _ _ (by omega) (by omega) (⟨hI.1, by rw [hI.2, nthF_step hlt, hPi]; simp⟩) hV hS (lv_sub hl [0, 1, 2, 3, 4, 5] rfl)
          · refine lv_iload hx hb d_Co_partnerOf_36 (lv_at hl 1 rfl) ?_
            refine lv_if_ne (tgt := 48) hx hb d_Co_partnerOf_38 (by decide) (fun c_10 => ?_) (fun c_10 => ?_)
            · obtain ⟨i_11, ei_11⟩ : ∃ y : Int32, y = (nI c0) + (-1) := ⟨_, rfl⟩
              refine lv_iinc (v := i_11) (lv' := [(4, .int i_11), (5, .int (nI i)), (3, .ref t_5), (0, .ref co), (1, .int (nI w0)), (2, .int (nI q0))]) hx hb d_Co_partnerOf_48 hl (k := 1) rfl (by rw [ei_11]; rfl) (by decide) rfl (fun ls hl => ?_)
              obtain ⟨i_12, ei_12⟩ : ∃ y : Int32, y = (nI i) + 1 := ⟨_, rfl⟩
              refine lv_iinc (v := i_12) (lv' := [(5, .int i_12), (4, .int i_11), (3, .ref t_5), (0, .ref co), (1, .int (nI w0)), (2, .int (nI q0))]) hx hb d_Co_partnerOf_51 hl (k := 1) rfl (by rw [ei_12]; rfl) (by decide) rfl (fun ls hl => ?_)
              refine lv_goto (tgt := 14) hx hb d_Co_partnerOf_54 (by decide) ?_
              rw [nI_1] at ei_12
              subst ei_12
              simp only [bI_ne0, bI_eq0] at c_8
              have hPi : P i = true := by subst hP; simpa using c_8
              obtain ⟨c1, hc1⟩ : ∃ c1, c0 = c1 + 1 := ⟨c0 - 1, by have : c0 ≠ 0 := (fun q => c_10 (by rw [q]; rfl)); omega⟩
              subst hc1
              rw [pk_m1] at ei_11
              subst ei_11
              exact ih (i + 1) c1 _ _ _ (by omega) (by omega) (⟨by omega, by rw [hI.2, nthF_step hlt, hPi]; simp⟩) hV hS (lv_sub hl [0, 1, 2, 3, 4, 5] rfl)
            · refine lv_aload_n hx hb d_Co_partnerOf_41 rfl (lv_at hl 3 rfl) ?_
              refine lv_iload hx hb d_Co_partnerOf_42 (lv_at hl 0 rfl) ?_
              refine rc_i (va_runV (As := [.int (nI i)]) (rest := []) ⟨hx, hb, hml, hown, hts⟩ (c_Co_handleAt l D N0 k V co ta ro on re lay g h_co f ar T hT i (by omega)) (cwV 1 hts (gi_V wm_Co_69 wv_Co_handleAt ws_Co_handleAt wi_Co wc_Co_handleAt) rfl rfl rfl (by decide +kernel) ⟨Nat.le_of_ble_eq_true rfl, Nat.le_of_ble_eq_true rfl⟩) (mP.preV hG hS hV h_co rfl) rfl rfl hl.1 rfl (lv_room (Nat.le_of_ble_eq_true rfl)) d_Co_partnerOf_44 ⟨Nat.le_of_ble_eq_true rfl, Nat.le_of_ble_eq_true rfl⟩) hS (fun H locs hV hS => ?_)
              simp only [bI_ne0, bI_eq0] at c_8
              have hPi : P i = true := by subst hP; simpa using c_8
              have hc0 : c0 = 0 := (nI_eq hI.1 (by decide)).mp c_10
              have h5i : ¬ T i 5 = 0 := by intro q; rw [hP] at hPi; simp [co_C, q] at hPi
              exact W.iret (v := (if T i 5 = 0 then -1 else 1000 * T i 0 + T i 1)) hx hb hr (fun t ht hW => ⟨⟨(if T i 5 = 0 then -1 else 1000 * T i 0 + T i 1), V, rfl, ⟨by rw [if_neg h5_4, ← hP, hI.2, nthF_step hlt, hPi, hc0, if_neg h5i]; simp, rfl⟩, mB_of ht hV⟩, hS.F ht⟩) hS.2.2 d_Co_partnerOf_47
    exact loop_6 (140 + 1 - (w0 + 1)) (w0 + 1) q0 _ _ _ (by omega) (by omega) (⟨hq, rfl⟩) hV hS (lv_sub hl [0, 1, 2, 3, 4, 5] rfl)
