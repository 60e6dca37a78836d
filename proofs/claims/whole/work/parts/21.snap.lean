/-! Thing.state, restore; Snapshot -/
theorem hu_oo {V : HV} {a b q : Nat} {ea eb xa xb y : va_E} (ha : V a = some xa) (hb : V b = some xb) (hq : V q = some y) (h1 : xa ≠ y) (h2 : xb ≠ y) : hu (hu V a ea) b eb q = some y := by
  rw [hu_n (fun z => h2 (by rw [z, hb] at hq; exact Option.some.inj hq))]
  exact hu_o ha hq h1
def th_st (x y th : Int32) : Int32 := ((y <<< ((6 : Int32) &&& 31)) ||| (x <<< ((1 : Int32) &&& 31))) ||| (if th = 0 then 0 else 1)
def st_th (z : Int32) : Int32 := if z &&& 1 = 0 then 0 else 1
def st_x (z : Int32) : Int32 := (z >>> ((1 : Int32) &&& 31)) &&& 31
def st_y (z : Int32) : Int32 := z >>> ((6 : Int32) &&& 31)
abbrev eSn (sa : Nat) : va_E := .inr (4, [.ref sa])
/-- what a thing's numbers are behind restore(z) -/
def rsT (R : Nat → Int32) (z : Int32) : Nat → Int32 := fun q => match q with
  | 5 => st_th z
  | 6 => R 6 + (st_x z - R 6)
  | 7 => R 7 + (st_y z - R 7)
  | 8 => R 8 + (st_x z - R 6)
  | 9 => R 9 + (st_y z - R 7)
  | q => R q
def updT (T : Nat → Nat → Int32) (i : Nat) (R : Nat → Int32) : Nat → Nat → Int32 := fun j => if j = i then R else T j
theorem uT_s {T : Nat → Nat → Int32} {i : Nat} {R : Nat → Int32} : updT T i R i = R := if_pos rfl
theorem uT_n {T : Nat → Nat → Int32} {i j : Nat} {R : Nat → Int32} (h : j ≠ i) : updT T i R j = T j := if_neg h
def tsIn (f : Nat → Option Nat) (ar : Nat → Nat) : Prop := (∀ i j t, i < 150 → j < 150 → f i = some t → f j = some t → i = j) ∧ (∀ i j t t', i < 150 → j < 150 → f i = some t → f j = some t' → ar i = ar j → i = j)
def tsFr (f : Nat → Option Nat) (ar : Nat → Nat) (V V' : HV) : Prop := ∀ q, (∀ i t, i < 150 → f i = some t → q ≠ t ∧ q ≠ ar i) → V' q = V q
theorem tsFr.rf {f : Nat → Option Nat} {ar : Nat → Nat} {V : HV} : tsFr f ar V V := fun _ _ => rfl
theorem ts_out {k : Nat → Nat} {V : HV} {ta : Nat} {f : Nat → Option Nat} {ar : Nat → Nat} {T : Nat → Nat → Int32} (hT : tsOk k V ta f ar T) {q : Nat} {e : va_E} (h : V q = some e) (h1 : ∀ x y u v, e ≠ eAr x y u v) (h5 : ∀ a b c d e1 f1 g1, e ≠ eTh a b c d e1 f1 g1) : ∀ i t, i < 150 → f i = some t → q ≠ t ∧ q ≠ ar i := by
  intro i t hi hf
  obtain ⟨a, b⟩ := hT.2.1 i t hi hf
  refine ⟨fun z => ?_, fun z => ?_⟩
  · rw [z, a] at h
    exact h5 _ _ _ _ _ _ _ (Option.some.inj h).symm
  · rw [z, b] at h
    exact h1 _ _ _ _ (Option.some.inj h).symm
/-- one thing's numbers change: its cell and its area are laid anew -/
theorem ts_put {k : Nat → Nat} {V : HV} {ta : Nat} {f : Nat → Option Nat} {ar : Nat → Nat} {T : Nat → Nat → Int32} (hT : tsOk k V ta f ar T) (hin : tsIn f ar) {i t : Nat} (hi : i < 150) (hf : f i = some t) (R : Nat → Int32) :
    tsOk k (hu (hu V t (eTh (R 0) (R 1) (ar i) (R 2) (R 3) (R 4) (R 5))) (ar i) (eAr (R 6) (R 7) (R 8) (R 9))) ta f ar (updT T i R) := by
  obtain ⟨h1, h2, h3⟩ := hT
  obtain ⟨ht, ha⟩ := h2 i t hi hf
  have hta : t ≠ ar i := fun z => by rw [z, ha] at ht; simp at ht
  refine ⟨?_, fun j t' hj hf' => ?_, fun j hj hf' => ?_⟩
  · rw [hu_n (fun z => by rw [z, ha] at h1; simp at h1), hu_n (fun z => by rw [z, ht] at h1; simp at h1), h1]
  · obtain ⟨ht', ha'⟩ := h2 j t' hj hf'
    by_cases hji : j = i
    · subst hji
      have : t' = t := Option.some.inj (hf'.symm.trans hf)
      subst this
      refine ⟨?_, ?_⟩
      · rw [hu_n hta, hu_s, eThT, uT_s]
      · rw [hu_s, eArT, uT_s]
    · refine ⟨?_, ?_⟩
      · rw [hu_n (fun z => by rw [z, ha] at ht'; simp at ht'), hu_n (fun z => hji (hin.1 j i t hj hi (by rw [← z]; exact hf') hf)), eThT, uT_n hji]
        exact ht'
      · rw [hu_n (fun z => hji (hin.2 j i t' t hj hi hf' hf z)), hu_n (fun z => by rw [z, ht] at ha'; simp at ha'), eArT, uT_n hji]
        exact ha'
  · have hji : j ≠ i := fun z => by rw [z, hf] at hf'; cases hf'
    rw [uT_n hji]
    exact h3 j hj hf'
theorem ts_fr {f : Nat → Option Nat} {ar : Nat → Nat} {V V1 : HV} {i t : Nat} {e e' : va_E} (h : tsFr f ar V V1) (hi : i < 150) (hf : f i = some t) : tsFr f ar V (hu (hu V1 t e) (ar i) e') := by
  intro q hq
  obtain ⟨a, b⟩ := hq i t hi hf
  rw [hu_n b, hu_n a]
  exact h q hq
/-- each thing's kind and number tell its slot -/
def slOk (f : Nat → Option Nat) (T : Nat → Nat → Int32) : Prop := ∀ i t, i < 150 → f i = some t → ∃ j, j < 6 ∧ T i 0 = nI j ∧ firV j + T i 1 = nI i
theorem sl_put {f : Nat → Option Nat} {T : Nat → Nat → Int32} (h : slOk f T) {i : Nat} {R : Nat → Int32} (h0 : R 0 = T i 0) (h1 : R 1 = T i 1) : slOk f (updT T i R) := by
  intro j t hj hf
  by_cases hji : j = i
  · subst hji; rw [uT_s, h0, h1]; exact h j t hj hf
  · rw [uT_n hji]; exact h j t hj hf
set_option maxHeartbeats 4000000 in
set_option maxRecDepth 100000 in
/-- state -/
theorem c_Th_state (l : Launch) (D : va_G) (N0 : Nat) (k : Nat → Nat) (V : HV) (t a : Nat) (kd nu la ne pa th : Int32) (h_t : V t = some (eTh kd nu a la ne pa th)) (x y u v : Int32) (h_a : V a = some (eAr x y u v)) : Met l y_Th_state (.code y_Th_state b_Th_state 1 (some .int) :: WS) ({ frames := 0, cells := 0, slots := 0, locals := 0 }) (mP D N0 k [.ref t] V) (va_Qi (fun r V' => r = th_st x y th ∧ V' = V) (mB D N0) (hA N0)) 0 0 (hA N0) := by
  refine Met.ofW (cc := b_Th_state) (maxL := 1) (ret := (some .int)) (by decide) rfl ?_
  intro p e s m args below meth c s₁ B hml hv0
  obtain ⟨rfl, hG, hV⟩ := hv0
  have hx := B.exec
  have hb := B.bytes
  have hr := B.returns
  have hts := atoms_spec (ws := .code y_Th_state b_Th_state 1 (some .int) :: WS) B.pre
  have hW : ∀ w ∈ WS, w.before _ s = true := fun w h => hts w (List.mem_cons_of_mem _ h)
  have hown : s.vm.findClass "BoardHouse$Thing" = some m.cls := findClass_of_methodNamed B.named
  have hlocks := B.notSynchronized
  have hS : va_S (hA N0) s.heap s.heap [] := va_S.rf
  have hl := lv_entry ([.ref t]) (n := 1) (Nat.le_of_ble_eq_true rfl)
  rw [lg_entry_eq]
  generalize (lg_sl ([.ref t]) ++ List.replicate (1 - (lg_sl ([.ref t])).length) Slot.unset).toArray = ls at hl ⊢
  have hl : lv_has ls 1 [(0, .ref t)] := hl
  refine lv_aload_n hx hb d_Th_state_0 rfl (lv_at hl 0 rfl) ?_
  refine gf_Th_22 hx hb hW hown hG hV h_t d_Th_state_1 ?_
  refine gf_Th_57 hx hb hW hown hG hV h_a d_Th_state_4 ?_
  refine lv_bipush (v := 6) hx hb d_Th_state_7 (by decide) ?_
  refine lv_ishl hx hb d_Th_state_9 ?_
  refine lv_aload_n hx hb d_Th_state_10 rfl (lv_at hl 0 rfl) ?_
  refine gf_Th_22 hx hb hW hown hG hV h_t d_Th_state_11 ?_
  refine gf_Th_60 hx hb hW hown hG hV h_a d_Th_state_14 ?_
  refine lv_iconst (v := 1) hx hb d_Th_state_17 (by decide) ?_
  refine lv_ishl hx hb d_Th_state_18 ?_
  refine lv_ior hx hb d_Th_state_19 ?_
  refine lv_aload_n hx hb d_Th_state_20 rfl (lv_at hl 0 rfl) ?_
  refine gf_Th_9 hx hb hW hown hG hV h_t d_Th_state_21 ?_
  refine lv_if_eq (tgt := 31) hx hb d_Th_state_24 (by decide) (fun c_1 => ?_) (fun c_1 => ?_)
  · refine lv_iconst (v := 0) hx hb d_Th_state_31 (by decide) ?_
    refine lv_ior hx hb d_Th_state_32 ?_
    exact W.iret (v := (((y <<< (6 &&& 31)) ||| (x <<< (1 &&& 31))) ||| 0)) hx hb hr (fun t ht hW => ⟨⟨(((y <<< (6 &&& 31)) ||| (x <<< (1 &&& 31))) ||| 0), V, rfl, ⟨by rw [th_st, if_pos c_1], rfl⟩, mB_of ht hV⟩, hS.F ht⟩) hS.2.2 d_Th_state_33
  · refine lv_iconst (v := 1) hx hb d_Th_state_27 (by decide) ?_
    refine lv_goto (tgt := 32) hx hb d_Th_state_28 (by decide) ?_
    refine lv_ior hx hb d_Th_state_32 ?_
    exact W.iret (v := (((y <<< (6 &&& 31)) ||| (x <<< (1 &&& 31))) ||| 1)) hx hb hr (fun t ht hW => ⟨⟨(((y <<< (6 &&& 31)) ||| (x <<< (1 &&& 31))) ||| 1), V, rfl, ⟨by rw [th_st, if_neg c_1], rfl⟩, mB_of ht hV⟩, hS.F ht⟩) hS.2.2 d_Th_state_33
set_option maxHeartbeats 4000000 in
set_option maxRecDepth 100000 in
/-- restore -/
theorem c_Th_restore (l : Launch) (D : va_G) (N0 : Nat) (k : Nat → Nat) (V : HV) (t a : Nat) (kd nu la ne pa th : Int32) (h_t : V t = some (eTh kd nu a la ne pa th)) (x y u v : Int32) (h_a : V a = some (eAr x y u v)) (z : Int32) : Met l y_Th_restore (.code y_Th_restore b_Th_restore 2 none :: WS) ({ frames := 1, cells := 0, slots := 0, locals := 22 }) (mP D N0 k [.ref t, .int z] V) (va_Qv (fun V' => V' = hu (hu V t (eTh kd nu a la ne pa (st_th z))) a (eAr (x + (st_x z - x)) (y + (st_y z - y)) (u + (st_x z - x)) (v + (st_y z - y)))) (mB D N0) (hA N0)) 0 0 (hA N0) := by
  refine Met.ofW (cc := b_Th_restore) (maxL := 2) (ret := none) (by decide) rfl ?_
  intro p e s m args below meth c s₁ B hml hv0
  obtain ⟨rfl, hG, hV⟩ := hv0
  have hx := B.exec
  have hb := B.bytes
  have hr := B.returns
  have hts := atoms_spec (ws := .code y_Th_restore b_Th_restore 2 none :: WS) B.pre
  have hW : ∀ w ∈ WS, w.before _ s = true := fun w h => hts w (List.mem_cons_of_mem _ h)
  have hown : s.vm.findClass "BoardHouse$Thing" = some m.cls := findClass_of_methodNamed B.named
  have hlocks := B.notSynchronized
  have hS : va_S (hA N0) s.heap s.heap [] := va_S.rf
  have hl := lv_entry ([.ref t, .int z]) (n := 2) (Nat.le_of_ble_eq_true rfl)
  rw [lg_entry_eq]
  generalize (lg_sl ([.ref t, .int z]) ++ List.replicate (2 - (lg_sl ([.ref t, .int z])).length) Slot.unset).toArray = ls at hl ⊢
  have hl : lv_has ls 2 [(0, .ref t), (1, .int z)] := hl
  refine lv_aload_n hx hb d_Th_restore_0 rfl (lv_at hl 0 rfl) ?_
  refine lv_iload_n hx hb d_Th_restore_1 rfl (lv_at hl 1 rfl) ?_
  refine lv_iconst (v := 1) hx hb d_Th_restore_2 (by decide) ?_
  refine lv_iand hx hb d_Th_restore_3 ?_
  refine lv_if_eq (tgt := 11) hx hb d_Th_restore_4 (by decide) (fun c_1 => ?_) (fun c_1 => ?_)
  · refine lv_iconst (v := 0) hx hb d_Th_restore_11 (by decide) ?_
    refine pf_Th_9 hx hb hW hown hG hV hS h_t (by decide) d_Th_restore_12 (fun H locs hV hS => ?_)
    replace hV : hv D vwCl N0 (hu V t (.inr (5, [.int kd, .int nu, .ref a, .int la, .int ne, .int pa, .int 0]))) H := hV
    generalize hV_V_2 : hu V t (.inr (5, [.int kd, .int nu, .ref a, .int la, .int ne, .int pa, .int 0])) = V_2 at hV
    have h_a'V_2 : V_2 a = some (.inr (1, [.int x, .int y, .int u, .int v])) := by rw [← hV_V_2]; exact hu_o h_t h_a (by simp)
    have ht'V_2 : V_2 t = some (.inr (5, [.int kd, .int nu, .ref a, .int la, .int ne, .int pa, .int 0])) := by rw [← hV_V_2]; exact hu_s
    refine lv_aload_n hx hb d_Th_restore_15 rfl (lv_at hl 0 rfl) ?_
    refine gf_Th_22 hx hb hW hown hG hV ht'V_2 d_Th_restore_16 ?_
    refine lv_iload_n hx hb d_Th_restore_19 rfl (lv_at hl 1 rfl) ?_
    refine lv_iconst (v := 1) hx hb d_Th_restore_20 (by decide) ?_
    refine lv_ishr hx hb d_Th_restore_21 ?_
    refine lv_bipush (v := 31) hx hb d_Th_restore_22 (by decide) ?_
    refine lv_iand hx hb d_Th_restore_24 ?_
    refine lv_aload_n hx hb d_Th_restore_25 rfl (lv_at hl 0 rfl) ?_
    refine gf_Th_22 hx hb hW hown hG hV ht'V_2 d_Th_restore_26 ?_
    refine gf_Th_60 hx hb hW hown hG hV h_a'V_2 d_Th_restore_29 ?_
    refine lv_isub hx hb d_Th_restore_32 ?_
    refine lv_iload_n hx hb d_Th_restore_33 rfl (lv_at hl 1 rfl) ?_
    refine lv_bipush (v := 6) hx hb d_Th_restore_34 (by decide) ?_
    refine lv_ishr hx hb d_Th_restore_36 ?_
    refine lv_aload_n hx hb d_Th_restore_37 rfl (lv_at hl 0 rfl) ?_
    refine gf_Th_22 hx hb hW hown hG hV ht'V_2 d_Th_restore_38 ?_
    refine gf_Th_57 hx hb hW hown hG hV h_a'V_2 d_Th_restore_41 ?_
    refine lv_isub hx hb d_Th_restore_44 ?_
    refine rc_V (va_runV (As := [.int (((z >>> (1 &&& 31)) &&& 31) - x), .int ((z >>> (6 &&& 31)) - y)]) (rest := []) ⟨hx, hb, hml, hown, hts⟩ (c_Ar_shift l D N0 k V_2 a x y u v (((z >>> (1 &&& 31)) &&& 31) - x) ((z >>> (6 &&& 31)) - y) h_a'V_2) (cwV 2 hts (gi_V wm_Th_63 wv_Ar_shift ws_Ar_shift wi_Ar wc_Ar_shift) rfl rfl rfl (by decide +kernel) ⟨Nat.le_of_ble_eq_true rfl, Nat.le_of_ble_eq_true rfl⟩) (mP.preV hG hS hV h_a'V_2 rfl) rfl rfl hl.1 rfl (lv_room (Nat.le_of_ble_eq_true rfl)) d_Th_restore_45 ⟨Nat.le_of_ble_eq_true rfl, Nat.le_of_ble_eq_true rfl⟩) hS (fun V_3 H locs hp_4 hV hS => ?_)
    have hV_V_3 := hp_4.symm
    have ht'V_3 : V_3 t = some (.inr (5, [.int kd, .int nu, .ref a, .int la, .int ne, .int pa, .int 0])) := by rw [← hV_V_3]; exact hu_o h_a'V_2 ht'V_2 (by simp)
    have ha'V_3 : V_3 a = some (eAr (x + (((z >>> (1 &&& 31)) &&& 31) - x)) (y + ((z >>> (6 &&& 31)) - y)) (u + (((z >>> (1 &&& 31)) &&& 31) - x)) (v + ((z >>> (6 &&& 31)) - y))) := by rw [← hV_V_3]; exact hu_s
    exact W.vret hx hb hr (fun t ht hW => ⟨⟨V_3, rfl, by rw [st_th, if_pos c_1, ← hV_V_3, ← hV_V_2]; rfl, mB_of ht hV⟩, hS.F ht⟩) hS.2.2 d_Th_restore_48
  · refine lv_iconst (v := 1) hx hb d_Th_restore_7 (by decide) ?_
    refine lv_goto (tgt := 12) hx hb d_Th_restore_8 (by decide) ?_
    refine pf_Th_9 hx hb hW hown hG hV hS h_t (by decide) d_Th_restore_12 (fun H locs hV hS => ?_)
    replace hV : hv D vwCl N0 (hu V t (.inr (5, [.int kd, .int nu, .ref a, .int la, .int ne, .int pa, .int 1]))) H := hV
    generalize hV_V_5 : hu V t (.inr (5, [.int kd, .int nu, .ref a, .int la, .int ne, .int pa, .int 1])) = V_5 at hV
    have h_a'V_5 : V_5 a = some (.inr (1, [.int x, .int y, .int u, .int v])) := by rw [← hV_V_5]; exact hu_o h_t h_a (by simp)
    have ht'V_5 : V_5 t = some (.inr (5, [.int kd, .int nu, .ref a, .int la, .int ne, .int pa, .int 1])) := by rw [← hV_V_5]; exact hu_s
    refine lv_aload_n hx hb d_Th_restore_15 rfl (lv_at hl 0 rfl) ?_
    refine gf_Th_22 hx hb hW hown hG hV ht'V_5 d_Th_restore_16 ?_
    refine lv_iload_n hx hb d_Th_restore_19 rfl (lv_at hl 1 rfl) ?_
    refine lv_iconst (v := 1) hx hb d_Th_restore_20 (by decide) ?_
    refine lv_ishr hx hb d_Th_restore_21 ?_
    refine lv_bipush (v := 31) hx hb d_Th_restore_22 (by decide) ?_
    refine lv_iand hx hb d_Th_restore_24 ?_
    refine lv_aload_n hx hb d_Th_restore_25 rfl (lv_at hl 0 rfl) ?_
    refine gf_Th_22 hx hb hW hown hG hV ht'V_5 d_Th_restore_26 ?_
    refine gf_Th_60 hx hb hW hown hG hV h_a'V_5 d_Th_restore_29 ?_
    refine lv_isub hx hb d_Th_restore_32 ?_
    refine lv_iload_n hx hb d_Th_restore_33 rfl (lv_at hl 1 rfl) ?_
    refine lv_bipush (v := 6) hx hb d_Th_restore_34 (by decide) ?_
    refine lv_ishr hx hb d_Th_restore_36 ?_
    refine lv_aload_n hx hb d_Th_restore_37 rfl (lv_at hl 0 rfl) ?_
    refine gf_Th_22 hx hb hW hown hG hV ht'V_5 d_Th_restore_38 ?_
    refine gf_Th_57 hx hb hW hown hG hV h_a'V_5 d_Th_restore_41 ?_
    refine lv_isub hx hb d_Th_restore_44 ?_
    refine rc_V (va_runV (As := [.int (((z >>> (1 &&& 31)) &&& 31) - x), .int ((z >>> (6 &&& 31)) - y)]) (rest := []) ⟨hx, hb, hml, hown, hts⟩ (c_Ar_shift l D N0 k V_5 a x y u v (((z >>> (1 &&& 31)) &&& 31) - x) ((z >>> (6 &&& 31)) - y) h_a'V_5) (cwV 2 hts (gi_V wm_Th_63 wv_Ar_shift ws_Ar_shift wi_Ar wc_Ar_shift) rfl rfl rfl (by decide +kernel) ⟨Nat.le_of_ble_eq_true rfl, Nat.le_of_ble_eq_true rfl⟩) (mP.preV hG hS hV h_a'V_5 rfl) rfl rfl hl.1 rfl (lv_room (Nat.le_of_ble_eq_true rfl)) d_Th_restore_45 ⟨Nat.le_of_ble_eq_true rfl, Nat.le_of_ble_eq_true rfl⟩) hS (fun V_6 H locs hp_7 hV hS => ?_)
    have hV_V_6 := hp_7.symm
    have ht'V_6 : V_6 t = some (.inr (5, [.int kd, .int nu, .ref a, .int la, .int ne, .int pa, .int 1])) := by rw [← hV_V_6]; exact hu_o h_a'V_5 ht'V_5 (by simp)
    have ha'V_6 : V_6 a = some (eAr (x + (((z >>> (1 &&& 31)) &&& 31) - x)) (y + ((z >>> (6 &&& 31)) - y)) (u + (((z >>> (1 &&& 31)) &&& 31) - x)) (v + ((z >>> (6 &&& 31)) - y))) := by rw [← hV_V_6]; exact hu_s
    exact W.vret hx hb hr (fun t ht hW => ⟨⟨V_6, rfl, by rw [st_th, if_neg c_1, ← hV_V_6, ← hV_V_5]; rfl, mB_of ht hV⟩, hS.F ht⟩) hS.2.2 d_Th_restore_48
