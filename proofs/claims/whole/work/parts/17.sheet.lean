/-! Sheet: 24 rows of 32 cells -/
def sh_from (a : Int32) : Int32 := if 0 < a then a else 0
def sh_to (b : Int32) : Int32 := if b < 31 then b else 31
def sh_bits (a b : Int32) : Int32 := if sh_from a ≤ sh_to b then ((-1 : Int32).toUInt32 >>> ((31 - (sh_to b - sh_from a)).toUInt32 &&& Int32.toUInt32 31)).toInt32 <<< (sh_from a &&& 31) else 0
def rn_u (n u ru : Int32) : Int32 := u ||| (ru &&& (u <<< (n &&& 31)))
def rn_d (n d rd : Int32) : Int32 := d ||| (rd &&& (d.toUInt32 >>> (n.toUInt32 &&& Int32.toUInt32 31)).toInt32)
def rn_ru (n ru : Int32) : Int32 := ru &&& (ru <<< (n &&& 31))
def rn_rd (n rd : Int32) : Int32 := rd &&& (rd.toUInt32 >>> (n.toUInt32 &&& Int32.toUInt32 31)).toInt32
def sh_runs (z r : Int32) : Int32 :=
  rn_u 16 (rn_u 8 (rn_u 4 (rn_u 2 (rn_u 1 z r) (rn_ru 1 r)) (rn_ru 2 (rn_ru 1 r))) (rn_ru 4 (rn_ru 2 (rn_ru 1 r)))) (rn_ru 8 (rn_ru 4 (rn_ru 2 (rn_ru 1 r)))) |||
  rn_d 16 (rn_d 8 (rn_d 4 (rn_d 2 (rn_d 1 z r) (rn_rd 1 r)) (rn_rd 2 (rn_rd 1 r))) (rn_rd 4 (rn_rd 2 (rn_rd 1 r)))) (rn_rd 8 (rn_rd 4 (rn_rd 2 (rn_rd 1 r))))
abbrev eSh (ra : Nat) : va_E := .inr (3, [.ref ra])
def gr_seeds (f : Nat → Int32) (i : Nat) : Int32 := if i < 23 then (if 0 < i then f i ||| f (i - 1) else f i) ||| f (i + 1) else (if 0 < i then f i ||| f (i - 1) else f i)
def gr_row (f r : Nat → Int32) (i : Nat) : Int32 := f i ||| sh_runs (gr_seeds f i &&& r i) (r i)
theorem up_s {f : Nat → Int32} {i : Nat} {x : Int32} : upd f i x i = x := by simp [upd]
theorem up_n {f : Nat → Int32} {i j : Nat} {x : Int32} (h : j ≠ i) : upd f i x j = f j := by simp [upd, h]
abbrev eI (k : Nat → Nat) (n : Nat) (g : Nat → Int32) : va_E := .inl (k 0, n, .inl g)
theorem upd_lt {g : Nat → Int32} {i : Nat} {x : Int32} (h : ∀ j, j < i → g j = x) : ∀ j, j < i + 1 → upd g i x j = x := by
  intro j hj
  by_cases hji : j = i
  · rw [hji, up_s]
  · rw [up_n hji]; exact h j (by omega)
set_option maxHeartbeats 4000000 in
set_option maxRecDepth 100000 in
/-- Arrays.fill of ints -/
theorem c_JA_fill (l : Launch) (D : va_G) (N0 : Nat) (k : Nat → Nat) (V : HV) (b n0 : Nat) (x : Int32) (f : Nat → Int32) (hn : n0 < 2 ^ 30) (h_b : V b = some (eI k n0 f)) : Met l y_JA_fill (.code y_JA_fill b_JA_fill 4 none :: WS) ({ frames := 0, cells := 0, slots := 0, locals := 0 }) (mP D N0 k [.ref b, .int x] V) (va_Qv (fun V' => ∃ g, V' = hu V b (eI k n0 g) ∧ ∀ j, j < n0 → g j = x) (mB D N0) (hA N0)) 0 0 (hA N0) := by
  refine Met.ofW (cc := b_JA_fill) (maxL := 4) (ret := none) (by decide) rfl ?_
  intro p e s m args below meth c s₁ B hml hv0
  obtain ⟨rfl, hG, hV⟩ := hv0
  have hx := B.exec
  have hb := B.bytes
  have hr := B.returns
  have hts := atoms_spec (ws := .code y_JA_fill b_JA_fill 4 none :: WS) B.pre
  have hW : ∀ w ∈ WS, w.before _ s = true := fun w h => hts w (List.mem_cons_of_mem _ h)
  have hown : s.vm.findClass "java/util/Arrays" = some m.cls := findClass_of_methodNamed B.named
  have hlocks := B.notSynchronized
  have hS : va_S (hA N0) s.heap s.heap [] := va_S.rf
  have hl := lv_entry ([.ref b, .int x]) (n := 4) (Nat.le_of_ble_eq_true rfl)
  rw [lg_entry_eq]
  generalize (lg_sl ([.ref b, .int x]) ++ List.replicate (4 - (lg_sl ([.ref b, .int x])).length) Slot.unset).toArray = ls at hl ⊢
  have hl : lv_has ls 4 [(0, .ref b), (1, .int x)] := hl
  refine lv_iconst (v := 0) hx hb d_JA_fill_0 (by decide) ?_
  refine lv_istore_n (lv' := [(2, .int 0), (0, .ref b), (1, .int x)]) hx hb d_JA_fill_1 rfl hl (by decide) rfl (fun ls hl => ?_)
  refine lv_aload_n hx hb d_JA_fill_2 rfl (lv_at hl 1 rfl) ?_
  refine hv_alen hx hb hG.K hV 0 h_b rfl (v := nI n0) rfl d_JA_fill_3 ?_
  refine lv_istore_n (lv' := [(3, .int (nI n0)), (2, .int 0), (0, .ref b), (1, .int x)]) hx hb d_JA_fill_4 rfl hl (by decide) rfl (fun ls hl => ?_)
  rw [← hu_self h_b] at hV
  have loop_1 : ∀ (n i : Nat) (g : Nat → Int32)  (H : Heap) (locs : List Loc) (ls : Array Slot), i ≤ n0 → n0 + 1 ≤ i + n → (∀ j, j < i → g j = x) → hv D vwCl N0 (hu V b (eI k n0 g)) H → va_S (hA N0) s.heap H locs → lv_has ls 4 [(3, .int (nI n0)), (2, .int (nI i)), (0, .ref b), (1, .int x)] → W p l e (headSpec (.code y_JA_fill b_JA_fill 4 none :: WS) ({ frames := 0, cells := 0, slots := 0, locals := 0 })).room s m #[.ref b, .int x] below meth c H locs 0 0 (MQ below (va_Qv (fun V' => ∃ g, V' = hu V b (eI k n0 g) ∧ ∀ j, j < n0 → g j = x) (mB D N0) (hA N0)) #[.ref b, .int x] s 0 0 (hA N0)) (F0 m 5 ls []) := by
    intro n
    induction n with
    | zero => intro i g H locs ls h1 h2; exact absurd h2 (by omega)
    | succ n ih =>
      intro i g H locs ls hi hin hI hV hS hl
      refine lv_iload_n hx hb d_JA_fill_5 rfl (lv_at hl 1 rfl) ?_
      refine lv_iload_n hx hb d_JA_fill_6 rfl (lv_at hl 0 rfl) ?_
      refine lv_icmp_ge (tgt := 20) hx hb d_JA_fill_7 (by decide) (fun c_2 => ?_) (fun c_2 => ?_)
      · have hge : n0 ≤ i := nI_le' c_2 (by omega) (by omega)
        exact W.vret hx hb hr (fun t ht hW => ⟨⟨(hu V b (eI k n0 g)), rfl, ⟨g, rfl, fun j hj => hI j (by omega)⟩, mB_of ht hV⟩, hS.F ht⟩) hS.2.2 d_JA_fill_20
      · have hlt : i < n0 := nI_nle' c_2 (by omega) (by omega)
        refine lv_aload_n hx hb d_JA_fill_10 rfl (lv_at hl 2 rfl) ?_
        refine lv_iload_n hx hb d_JA_fill_11 rfl (lv_at hl 1 rfl) ?_
        refine lv_iload_n hx hb d_JA_fill_12 rfl (lv_at hl 3 rfl) ?_
        refine hv_iast hx hb hG.K hV hS 0 hu_s rfl (vp_in_nI (by omega) (by omega)) d_JA_fill_13 (fun H locs hV hS => ?_)
        rw [nI_clamp (by omega)] at hV
        replace hV : hv D vwCl N0 (hu (hu V b (eI k n0 g)) b (.inl (k 0, n0, .inl (upd g i x)))) H := hV
        generalize hV_V_3 : hu (hu V b (eI k n0 g)) b (.inl (k 0, n0, .inl (upd g i x))) = V_3 at hV
        have hb'V_3 : V_3 b = some (.inl (k 0, n0, .inl (upd g i x))) := by rw [← hV_V_3]; exact hu_s
        obtain ⟨i_4, ei_4⟩ : ∃ y : Int32, y = (nI i) + 1 := ⟨_, rfl⟩
        refine lv_iinc (v := i_4) (lv' := [(2, .int i_4), (3, .int (nI n0)), (0, .ref b), (1, .int x)]) hx hb d_JA_fill_14 hl (k := 1) rfl (by rw [ei_4]; rfl) (by decide) rfl (fun ls hl => ?_)
        refine lv_goto (tgt := 5) hx hb d_JA_fill_17 (by decide) ?_
        rw [nI_1] at ei_4
        subst ei_4
        rw [← hV_V_3, hu_u] at hV
        exact ih (i + 1) (upd g i x)  _ _ _ (by omega) (by omega) (upd_lt hI) hV hS (lv_sub hl [1, 0, 2, 3] rfl)
  exact loop_1 (n0 + 1 - 0) 0 f  _ _ _ (by omega) (by omega) (fun j hj => absurd hj (by omega)) hV hS (lv_sub hl [0, 1, 2, 3] rfl)
set_option maxHeartbeats 4000000 in
set_option maxRecDepth 100000 in
/-- Sh_clear -/
theorem c_Sh_clear (l : Launch) (D : va_G) (N0 : Nat) (k : Nat → Nat) (V : HV) (sh ra : Nat) (f : Nat → Int32) (h_sh : V sh = some (eSh ra)) (h_ra : V ra = some (eI k 24 f)) : Met l y_Sh_clear (.code y_Sh_clear b_Sh_clear 1 none :: WS) ({ frames := 1, cells := 0, slots := 0, locals := 23 }) (mP D N0 k [.ref sh] V) (va_Qv (fun V' => ∃ g, V' = hu V ra (eI k 24 g) ∧ ∀ j, j < 24 → g j = 0) (mB D N0) (hA N0)) 0 0 (hA N0) := by
  refine Met.ofW (cc := b_Sh_clear) (maxL := 1) (ret := none) (by decide) rfl ?_
  intro p e s m args below meth c s₁ B hml hv0
  obtain ⟨rfl, hG, hV⟩ := hv0
  have hx := B.exec
  have hb := B.bytes
  have hr := B.returns
  have hts := atoms_spec (ws := .code y_Sh_clear b_Sh_clear 1 none :: WS) B.pre
  have hW : ∀ w ∈ WS, w.before _ s = true := fun w h => hts w (List.mem_cons_of_mem _ h)
  have hown : s.vm.findClass "BoardHouse$Sheet" = some m.cls := findClass_of_methodNamed B.named
  have hlocks := B.notSynchronized
  have hS : va_S (hA N0) s.heap s.heap [] := va_S.rf
  have hl := lv_entry ([.ref sh]) (n := 1) (Nat.le_of_ble_eq_true rfl)
  rw [lg_entry_eq]
  generalize (lg_sl ([.ref sh]) ++ List.replicate (1 - (lg_sl ([.ref sh])).length) Slot.unset).toArray = ls at hl ⊢
  have hl : lv_has ls 1 [(0, .ref sh)] := hl
  refine lv_aload_n hx hb d_Sh_clear_0 rfl (lv_at hl 0 rfl) ?_
  refine gf_Sh_9 hx hb hW hown hG hV h_sh d_Sh_clear_1 ?_
  refine lv_iconst (v := 0) hx hb d_Sh_clear_4 (by decide) ?_
  refine rc_V (va_runS (As := [.ref ra, .int 0]) (rest := []) ⟨hx, hb, hml, hown, hts⟩ (c_JA_fill l D N0 k V ra 24 0 f (by omega) h_ra) (va_cwS 2 hts (gi_S wm_Sh_15 wt_JA_fill wi_JA wc_JA_fill) rfl rfl rfl (by decide +kernel) ⟨Nat.le_of_ble_eq_true rfl, Nat.le_of_ble_eq_true rfl⟩) (mP.preS hG hS hV) rfl rfl hl.1 rfl (lv_room (Nat.le_of_ble_eq_true rfl)) d_Sh_clear_5 ⟨Nat.le_of_ble_eq_true rfl, Nat.le_of_ble_eq_true rfl⟩) hS (fun V_1 H locs hp_2 hV hS => ?_)
  obtain ⟨g_3, hV9_g_3, hg_g_3⟩ := hp_2
  have hV_V_1 := hV9_g_3.symm
  have h_sh'V_1 : V_1 sh = some (.inr (3, [.ref ra])) := by rw [← hV_V_1]; exact hu_o h_ra h_sh (by simp)
  have hra'V_1 : V_1 ra = some (eI k 24 g_3) := by rw [← hV_V_1]; exact hu_s
  exact W.vret hx hb hr (fun t ht hW => ⟨⟨V_1, rfl, ⟨g_3, hV9_g_3, hg_g_3⟩, mB_of ht hV⟩, hS.F ht⟩) hS.2.2 d_Sh_clear_8
set_option maxHeartbeats 4000000 in
set_option maxRecDepth 100000 in
/-- Sh_addAll -/
theorem c_Sh_addAll (l : Launch) (D : va_G) (N0 : Nat) (k : Nat → Nat) (V : HV) (sh ra : Nat) (f : Nat → Int32) (h_sh : V sh = some (eSh ra)) (h_ra : V ra = some (eI k 24 f)) : Met l y_Sh_addAll (.code y_Sh_addAll b_Sh_addAll 1 none :: WS) ({ frames := 1, cells := 0, slots := 0, locals := 23 }) (mP D N0 k [.ref sh] V) (va_Qv (fun V' => ∃ g, V' = hu V ra (eI k 24 g) ∧ ∀ j, j < 24 → g j = (-1)) (mB D N0) (hA N0)) 0 0 (hA N0) := by
  refine Met.ofW (cc := b_Sh_addAll) (maxL := 1) (ret := none) (by decide) rfl ?_
  intro p e s m args below meth c s₁ B hml hv0
  obtain ⟨rfl, hG, hV⟩ := hv0
  have hx := B.exec
  have hb := B.bytes
  have hr := B.returns
  have hts := atoms_spec (ws := .code y_Sh_addAll b_Sh_addAll 1 none :: WS) B.pre
  have hW : ∀ w ∈ WS, w.before _ s = true := fun w h => hts w (List.mem_cons_of_mem _ h)
  have hown : s.vm.findClass "BoardHouse$Sheet" = some m.cls := findClass_of_methodNamed B.named
  have hlocks := B.notSynchronized
  have hS : va_S (hA N0) s.heap s.heap [] := va_S.rf
  have hl := lv_entry ([.ref sh]) (n := 1) (Nat.le_of_ble_eq_true rfl)
  rw [lg_entry_eq]
  generalize (lg_sl ([.ref sh]) ++ List.replicate (1 - (lg_sl ([.ref sh])).length) Slot.unset).toArray = ls at hl ⊢
  have hl : lv_has ls 1 [(0, .ref sh)] := hl
  refine lv_aload_n hx hb d_Sh_addAll_0 rfl (lv_at hl 0 rfl) ?_
  refine gf_Sh_9 hx hb hW hown hG hV h_sh d_Sh_addAll_1 ?_
  refine lv_iconst (v := (-1)) hx hb d_Sh_addAll_4 (by decide) ?_
  refine rc_V (va_runS (As := [.ref ra, .int (-1)]) (rest := []) ⟨hx, hb, hml, hown, hts⟩ (c_JA_fill l D N0 k V ra 24 (-1) f (by omega) h_ra) (va_cwS 2 hts (gi_S wm_Sh_15 wt_JA_fill wi_JA wc_JA_fill) rfl rfl rfl (by decide +kernel) ⟨Nat.le_of_ble_eq_true rfl, Nat.le_of_ble_eq_true rfl⟩) (mP.preS hG hS hV) rfl rfl hl.1 rfl (lv_room (Nat.le_of_ble_eq_true rfl)) d_Sh_addAll_5 ⟨Nat.le_of_ble_eq_true rfl, Nat.le_of_ble_eq_true rfl⟩) hS (fun V_1 H locs hp_2 hV hS => ?_)
  obtain ⟨g_3, hV9_g_3, hg_g_3⟩ := hp_2
  have hV_V_1 := hV9_g_3.symm
  have h_sh'V_1 : V_1 sh = some (.inr (3, [.ref ra])) := by rw [← hV_V_1]; exact hu_o h_ra h_sh (by simp)
  have hra'V_1 : V_1 ra = some (eI k 24 g_3) := by rw [← hV_V_1]; exact hu_s
  exact W.vret hx hb hr (fun t ht hW => ⟨⟨V_1, rfl, ⟨g_3, hV9_g_3, hg_g_3⟩, mB_of ht hV⟩, hS.F ht⟩) hS.2.2 d_Sh_addAll_8
set_option maxHeartbeats 4000000 in
set_option maxRecDepth 100000 in
/-- Sheet(): 24 rows of 0 -/
theorem c_Sh_init (l : Launch) (D : va_G) (N0 : Nat) (k : Nat → Nat) (V : HV) (sh : Nat) (h_sh : V sh = some (.inr (3, [.null]))) : Met l y_Sh_init (.code y_Sh_init b_Sh_init 1 none :: WS) ({ frames := 1, cells := 1, slots := 24, locals := 20 }) (mP D N0 k [.ref sh] V) (va_Qv (fun V' => ∃ ra, V ra = none ∧ V' = hu (hu V ra (eI k 24 (fun _ => 0))) sh (eSh ra)) (mB D N0) (hA N0)) 1 24 (hA N0) := by
  refine Met.ofW (cc := b_Sh_init) (maxL := 1) (ret := none) (by decide) rfl ?_
  intro p e s m args below meth c s₁ B hml hv0
  obtain ⟨rfl, hG, hV⟩ := hv0
  have hx := B.exec
  have hb := B.bytes
  have hr := B.returns
  have hts := atoms_spec (ws := .code y_Sh_init b_Sh_init 1 none :: WS) B.pre
  have hW : ∀ w ∈ WS, w.before _ s = true := fun w h => hts w (List.mem_cons_of_mem _ h)
  have hown : s.vm.findClass "BoardHouse$Sheet" = some m.cls := findClass_of_methodNamed B.named
  have hlocks := B.notSynchronized
  have hin : meth.name = "<init>" := (name_of_methodNamed B.named B.method).1
  have hS : va_S (hA N0) s.heap s.heap [] := va_S.rf
  have hl := lv_entry ([.ref sh]) (n := 1) (Nat.le_of_ble_eq_true rfl)
  rw [lg_entry_eq]
  generalize (lg_sl ([.ref sh]) ++ List.replicate (1 - (lg_sl ([.ref sh])).length) Slot.unset).toArray = ls at hl ⊢
  have hl : lv_has ls 1 [(0, .ref sh)] := hl
  refine lv_aload_n hx hb d_Sh_init_0 rfl (lv_at hl 0 rfl) ?_
  refine W.objInit hx hb hown (hW _ wm_Sh_3) (hW _ wv_JO_init) (hW _ wc_JO_init) rfl (by rw [hml]; exact hl.1) rfl d_Sh_init_1 (Nat.le_of_ble_eq_true rfl) (Nat.le_of_ble_eq_true rfl) ?_
  refine W.eq (g2 := F0 m 4 ls []) rfl ?_
  refine lv_aload_n hx hb d_Sh_init_4 rfl (lv_at hl 0 rfl) ?_
  refine lv_bipush (v := 24) hx hb d_Sh_init_5 (by decide) ?_
  refine hv_newa (atype := .int) (a0 := (24, .inl (fun _ => 0))) hx hb (hW _ wa_int) rfl hG.K hV hS 0 rfl (fun cA h => h) (fun _ => rfl) (by decide) (by decide) (by decide) (Nat.le_of_ble_eq_true rfl) (Nat.le_of_ble_eq_true rfl) hG.N d_Sh_init_7 (fun q_1 H hn_q_1 hN_q_1 hV hS => ?_)
  have ne_sh_q_1 : sh ≠ q_1 := fun z => by rw [← z, h_sh] at hn_q_1; cases hn_q_1
  replace hV : hv D vwCl N0 (hu V q_1 (eI k 24 (fun _ => 0))) H := hV
  generalize hV_V_2 : hu V q_1 (eI k 24 (fun _ => 0)) = V_2 at hV
  have h_sh'V_2 : V_2 sh = some (.inr (3, [.null])) := by rw [← hV_V_2, hu_n ne_sh_q_1]; exact h_sh
  have hq_1'V_2 : V_2 q_1 = some (eI k 24 (fun _ => 0)) := by rw [← hV_V_2]; exact hu_s
  refine pf_Sh_9 (x := some q_1) hx hb hW hown hG hV hS hin h_sh'V_2 d_Sh_init_9 (fun H locs hV hS => ?_)
  replace hV : hv D vwCl N0 (hu V_2 sh (.inr (3, [.ref q_1]))) H := hV
  generalize hV_V_3 : hu V_2 sh (.inr (3, [.ref q_1])) = V_3 at hV
  have hq_1'V_3 : V_3 q_1 = some (eI k 24 (fun _ => 0)) := by rw [← hV_V_3, hu_n (Ne.symm ne_sh_q_1)]; exact hq_1'V_2
  have hsh'V_3 : V_3 sh = some (.inr (3, [.ref q_1])) := by rw [← hV_V_3]; exact hu_s
  exact W.vret hx hb hr (fun t ht hW => ⟨⟨V_3, rfl, ⟨q_1, hn_q_1, by rw [← hV_V_3, ← hV_V_2]⟩, mB_of ht hV⟩, hS.F ht⟩) hS.2.2 d_Sh_init_12
set_option maxHeartbeats 4000000 in
set_option maxRecDepth 100000 in
/-- bits -/
theorem c_Sh_bits (l : Launch) (D : va_G) (N0 : Nat) (k : Nat → Nat) (V : HV) (x y : Int32) : Met l y_Sh_bits (.code y_Sh_bits b_Sh_bits 4 (some .int) :: WS) ({ frames := 1, cells := 0, slots := 0, locals := 24 }) (mP D N0 k [.int x, .int y] V) (va_Qi (fun r V' => r = sh_bits x y ∧ V' = V) (mB D N0) (hA N0)) 0 0 (hA N0) := by
  refine Met.ofW (cc := b_Sh_bits) (maxL := 4) (ret := (some .int)) (by decide) rfl ?_
  intro p e s m args below meth c s₁ B hml hv0
  obtain ⟨rfl, hG, hV⟩ := hv0
  have hx := B.exec
  have hb := B.bytes
  have hr := B.returns
  have hts := atoms_spec (ws := .code y_Sh_bits b_Sh_bits 4 (some .int) :: WS) B.pre
  have hW : ∀ w ∈ WS, w.before _ s = true := fun w h => hts w (List.mem_cons_of_mem _ h)
  have hown : s.vm.findClass "BoardHouse$Sheet" = some m.cls := findClass_of_methodNamed B.named
  have hlocks := B.notSynchronized
  have hS : va_S (hA N0) s.heap s.heap [] := va_S.rf
  have hl := lv_entry ([.int x, .int y]) (n := 4) (Nat.le_of_ble_eq_true rfl)
  rw [lg_entry_eq]
  generalize (lg_sl ([.int x, .int y]) ++ List.replicate (4 - (lg_sl ([.int x, .int y])).length) Slot.unset).toArray = ls at hl ⊢
  have hl : lv_has ls 4 [(0, .int x), (1, .int y)] := hl
  refine lv_iconst (v := 0) hx hb d_Sh_bits_0 (by decide) ?_
  refine lv_iload_n hx hb d_Sh_bits_1 rfl (lv_at hl 0 rfl) ?_
  refine va_mmax hx hb (by rw [hml, hl.1]) hown (hW _ wm_Sh_37) (hW _ wt_JM_max) (hW _ wi_JM) (hW _ wc_JM_max) (Nat.le_of_ble_eq_true rfl) (Nat.le_of_ble_eq_true rfl) (Nat.le_of_ble_eq_true rfl) (Nat.le_of_ble_eq_true rfl) d_Sh_bits_2 ?_
  refine lv_topi (fun z_1 ez_1 => ?_)
  refine lv_istore_n (lv' := [(2, .int z_1), (0, .int x), (1, .int y)]) hx hb d_Sh_bits_5 rfl hl (by decide) rfl (fun ls hl => ?_)
  refine lv_bipush (v := 31) hx hb d_Sh_bits_6 (by decide) ?_
  refine lv_iload_n hx hb d_Sh_bits_8 rfl (lv_at hl 2 rfl) ?_
  refine va_mmin hx hb (by rw [hml, hl.1]) hown (hW _ wm_Sh_58) (hW _ wt_JM_min) (hW _ wi_JM) (hW _ wc_JM_min) (Nat.le_of_ble_eq_true rfl) (Nat.le_of_ble_eq_true rfl) (Nat.le_of_ble_eq_true rfl) (Nat.le_of_ble_eq_true rfl) d_Sh_bits_9 ?_
  refine lv_topi (fun z_2 ez_2 => ?_)
  refine lv_istore_n (lv' := [(3, .int z_2), (2, .int z_1), (0, .int x), (1, .int y)]) hx hb d_Sh_bits_12 rfl hl (by decide) rfl (fun ls hl => ?_)
  refine lv_iload_n hx hb d_Sh_bits_13 rfl (lv_at hl 1 rfl) ?_
  refine lv_iload_n hx hb d_Sh_bits_14 rfl (lv_at hl 0 rfl) ?_
  refine lv_icmp_le (tgt := 22) hx hb d_Sh_bits_15 (by decide) (fun c_3 => ?_) (fun c_3 => ?_)
  · refine lv_iconst (v := (-1)) hx hb d_Sh_bits_22 (by decide) ?_
    refine lv_bipush (v := 31) hx hb d_Sh_bits_23 (by decide) ?_
    refine lv_iload_n hx hb d_Sh_bits_25 rfl (lv_at hl 0 rfl) ?_
    refine lv_iload_n hx hb d_Sh_bits_26 rfl (lv_at hl 1 rfl) ?_
    refine lv_isub hx hb d_Sh_bits_27 ?_
    refine lv_isub hx hb d_Sh_bits_28 ?_
    refine lv_iushr hx hb d_Sh_bits_29 rfl ?_
    refine lv_iload_n hx hb d_Sh_bits_30 rfl (lv_at hl 1 rfl) ?_
    refine lv_ishl hx hb d_Sh_bits_31 ?_
    refine lv_topi (fun r_4 er_4 => ?_)
    have h1 : z_1 = sh_from x := ez_1
    have h2 : z_2 = sh_to y := ez_2
    exact W.iret (v := r_4) hx hb hr (fun t ht hW => ⟨⟨r_4, V, rfl, ⟨by rw [sh_bits, ← h1, ← h2, if_pos c_3, er_4], rfl⟩, mB_of ht hV⟩, hS.F ht⟩) hS.2.2 d_Sh_bits_32
  · refine lv_iconst (v := 0) hx hb d_Sh_bits_18 (by decide) ?_
    refine lv_goto (tgt := 32) hx hb d_Sh_bits_19 (by decide) ?_
    have h1 : z_1 = sh_from x := ez_1
    have h2 : z_2 = sh_to y := ez_2
    exact W.iret (v := 0) hx hb hr (fun t ht hW => ⟨⟨0, V, rfl, ⟨by rw [sh_bits, ← h1, ← h2, if_neg c_3], rfl⟩, mB_of ht hV⟩, hS.F ht⟩) hS.2.2 d_Sh_bits_32
set_option maxHeartbeats 4000000 in
set_option maxRecDepth 100000 in
/-- runsFrom -/
theorem c_Sh_runsFrom (l : Launch) (D : va_G) (N0 : Nat) (k : Nat → Nat) (V : HV) (x y : Int32) : Met l y_Sh_runsFrom (.code y_Sh_runsFrom b_Sh_runsFrom 7 (some .int) :: WS) ({ frames := 0, cells := 0, slots := 0, locals := 0 }) (mP D N0 k [.int x, .int y] V) (va_Qi (fun r V' => r = sh_runs x y ∧ V' = V) (mB D N0) (hA N0)) 0 0 (hA N0) := by
  refine Met.ofW (cc := b_Sh_runsFrom) (maxL := 7) (ret := (some .int)) (by decide) rfl ?_
  intro p e s m args below meth c s₁ B hml hv0
  obtain ⟨rfl, hG, hV⟩ := hv0
  have hx := B.exec
  have hb := B.bytes
  have hr := B.returns
  have hts := atoms_spec (ws := .code y_Sh_runsFrom b_Sh_runsFrom 7 (some .int) :: WS) B.pre
  have hW : ∀ w ∈ WS, w.before _ s = true := fun w h => hts w (List.mem_cons_of_mem _ h)
  have hown : s.vm.findClass "BoardHouse$Sheet" = some m.cls := findClass_of_methodNamed B.named
  have hlocks := B.notSynchronized
  have hS : va_S (hA N0) s.heap s.heap [] := va_S.rf
  have hl := lv_entry ([.int x, .int y]) (n := 7) (Nat.le_of_ble_eq_true rfl)
  rw [lg_entry_eq]
  generalize (lg_sl ([.int x, .int y]) ++ List.replicate (7 - (lg_sl ([.int x, .int y])).length) Slot.unset).toArray = ls at hl ⊢
  have hl : lv_has ls 7 [(0, .int x), (1, .int y)] := hl
  refine lv_iload_n hx hb d_Sh_runsFrom_0 rfl (lv_at hl 0 rfl) ?_
  refine lv_istore_n (lv' := [(2, .int x), (0, .int x), (1, .int y)]) hx hb d_Sh_runsFrom_1 rfl hl (by decide) rfl (fun ls hl => ?_)
  refine lv_iload_n hx hb d_Sh_runsFrom_2 rfl (lv_at hl 1 rfl) ?_
  refine lv_istore_n (lv' := [(3, .int x), (2, .int x), (0, .int x), (1, .int y)]) hx hb d_Sh_runsFrom_3 rfl hl (by decide) rfl (fun ls hl => ?_)
  refine lv_iload_n hx hb d_Sh_runsFrom_4 rfl (lv_at hl 3 rfl) ?_
  refine lv_istore (lv' := [(4, .int y), (3, .int x), (2, .int x), (0, .int x), (1, .int y)]) hx hb d_Sh_runsFrom_5 hl (by decide) rfl (fun ls hl => ?_)
  refine lv_iload_n hx hb d_Sh_runsFrom_7 rfl (lv_at hl 4 rfl) ?_
  refine lv_istore (lv' := [(5, .int y), (4, .int y), (3, .int x), (2, .int x), (0, .int x), (1, .int y)]) hx hb d_Sh_runsFrom_8 hl (by decide) rfl (fun ls hl => ?_)
  refine lv_iconst (v := 1) hx hb d_Sh_runsFrom_10 (by decide) ?_
  refine lv_istore (lv' := [(6, .int 1), (5, .int y), (4, .int y), (3, .int x), (2, .int x), (0, .int x), (1, .int y)]) hx hb d_Sh_runsFrom_11 hl (by decide) rfl (fun ls hl => ?_)
  refine lv_iload hx hb d_Sh_runsFrom_13 (lv_at hl 0 rfl) ?_
  refine lv_bipush (v := 32) hx hb d_Sh_runsFrom_15 (by decide) ?_
  refine lv_icmp_ge (tgt := 69) hx hb d_Sh_runsFrom_17 (by decide) (fun q => absurd q (by decide)) (fun _ => ?_)
  refine lv_iload_n hx hb d_Sh_runsFrom_20 rfl (lv_at hl 4 rfl) ?_
  refine lv_iload hx hb d_Sh_runsFrom_21 (lv_at hl 2 rfl) ?_
  refine lv_iload_n hx hb d_Sh_runsFrom_23 rfl (lv_at hl 4 rfl) ?_
  refine lv_iload hx hb d_Sh_runsFrom_24 (lv_at hl 0 rfl) ?_
  refine lv_ishl hx hb d_Sh_runsFrom_26 ?_
  refine lv_iand hx hb d_Sh_runsFrom_27 ?_
  refine lv_ior hx hb d_Sh_runsFrom_28 ?_
  refine lv_topi (fun z_1 ez_1 => ?_)
  refine lv_istore_n (lv' := [(2, .int z_1), (6, .int 1), (5, .int y), (4, .int y), (3, .int x), (0, .int x), (1, .int y)]) hx hb d_Sh_runsFrom_29 rfl hl (by decide) rfl (fun ls hl => ?_)
  refine lv_iload_n hx hb d_Sh_runsFrom_30 rfl (lv_at hl 4 rfl) ?_
  refine lv_iload hx hb d_Sh_runsFrom_31 (lv_at hl 2 rfl) ?_
  refine lv_iload_n hx hb d_Sh_runsFrom_33 rfl (lv_at hl 4 rfl) ?_
  refine lv_iload hx hb d_Sh_runsFrom_34 (lv_at hl 1 rfl) ?_
  refine lv_iushr hx hb d_Sh_runsFrom_36 rfl ?_
  refine lv_iand hx hb d_Sh_runsFrom_37 ?_
  refine lv_ior hx hb d_Sh_runsFrom_38 ?_
  refine lv_topi (fun z_2 ez_2 => ?_)
  refine lv_istore_n (lv' := [(3, .int z_2), (2, .int z_1), (6, .int 1), (5, .int y), (4, .int y), (0, .int x), (1, .int y)]) hx hb d_Sh_runsFrom_39 rfl hl (by decide) rfl (fun ls hl => ?_)
  refine lv_iload hx hb d_Sh_runsFrom_40 (lv_at hl 4 rfl) ?_
  refine lv_iload hx hb d_Sh_runsFrom_42 (lv_at hl 4 rfl) ?_
  refine lv_iload hx hb d_Sh_runsFrom_44 (lv_at hl 2 rfl) ?_
  refine lv_ishl hx hb d_Sh_runsFrom_46 ?_
  refine lv_iand hx hb d_Sh_runsFrom_47 ?_
  refine lv_topi (fun z_3 ez_3 => ?_)
  refine lv_istore (lv' := [(4, .int z_3), (3, .int z_2), (2, .int z_1), (6, .int 1), (5, .int y), (0, .int x), (1, .int y)]) hx hb d_Sh_runsFrom_48 hl (by decide) rfl (fun ls hl => ?_)
  refine lv_iload hx hb d_Sh_runsFrom_50 (lv_at hl 4 rfl) ?_
  refine lv_iload hx hb d_Sh_runsFrom_52 (lv_at hl 4 rfl) ?_
  refine lv_iload hx hb d_Sh_runsFrom_54 (lv_at hl 3 rfl) ?_
  refine lv_iushr hx hb d_Sh_runsFrom_56 rfl ?_
  refine lv_iand hx hb d_Sh_runsFrom_57 ?_
  refine lv_topi (fun z_4 ez_4 => ?_)
  refine lv_istore (lv' := [(5, .int z_4), (4, .int z_3), (3, .int z_2), (2, .int z_1), (6, .int 1), (0, .int x), (1, .int y)]) hx hb d_Sh_runsFrom_58 hl (by decide) rfl (fun ls hl => ?_)
  refine lv_iload hx hb d_Sh_runsFrom_60 (lv_at hl 4 rfl) ?_
  refine lv_iconst (v := 2) hx hb d_Sh_runsFrom_62 (by decide) ?_
  refine lv_imul hx hb d_Sh_runsFrom_63 ?_
  refine W.eq (g2 := F0 m 64 ls [.int 2]) rfl ?_
  refine lv_istore (lv' := [(6, .int 2), (5, .int z_4), (4, .int z_3), (3, .int z_2), (2, .int z_1), (0, .int x), (1, .int y)]) hx hb d_Sh_runsFrom_64 hl (by decide) rfl (fun ls hl => ?_)
  refine lv_goto (tgt := 13) hx hb d_Sh_runsFrom_66 (by decide) ?_
  refine lv_iload hx hb d_Sh_runsFrom_13 (lv_at hl 0 rfl) ?_
  refine lv_bipush (v := 32) hx hb d_Sh_runsFrom_15 (by decide) ?_
  refine lv_icmp_ge (tgt := 69) hx hb d_Sh_runsFrom_17 (by decide) (fun q => absurd q (by decide)) (fun _ => ?_)
  refine lv_iload_n hx hb d_Sh_runsFrom_20 rfl (lv_at hl 4 rfl) ?_
  refine lv_iload hx hb d_Sh_runsFrom_21 (lv_at hl 2 rfl) ?_
  refine lv_iload_n hx hb d_Sh_runsFrom_23 rfl (lv_at hl 4 rfl) ?_
  refine lv_iload hx hb d_Sh_runsFrom_24 (lv_at hl 0 rfl) ?_
  refine lv_ishl hx hb d_Sh_runsFrom_26 ?_
  refine lv_iand hx hb d_Sh_runsFrom_27 ?_
  refine lv_ior hx hb d_Sh_runsFrom_28 ?_
  refine lv_topi (fun z_5 ez_5 => ?_)
  refine lv_istore_n (lv' := [(2, .int z_5), (6, .int 2), (5, .int z_4), (4, .int z_3), (3, .int z_2), (0, .int x), (1, .int y)]) hx hb d_Sh_runsFrom_29 rfl hl (by decide) rfl (fun ls hl => ?_)
  refine lv_iload_n hx hb d_Sh_runsFrom_30 rfl (lv_at hl 4 rfl) ?_
  refine lv_iload hx hb d_Sh_runsFrom_31 (lv_at hl 2 rfl) ?_
  refine lv_iload_n hx hb d_Sh_runsFrom_33 rfl (lv_at hl 4 rfl) ?_
  refine lv_iload hx hb d_Sh_runsFrom_34 (lv_at hl 1 rfl) ?_
  refine lv_iushr hx hb d_Sh_runsFrom_36 rfl ?_
  refine lv_iand hx hb d_Sh_runsFrom_37 ?_
  refine lv_ior hx hb d_Sh_runsFrom_38 ?_
  refine lv_topi (fun z_6 ez_6 => ?_)
  refine lv_istore_n (lv' := [(3, .int z_6), (2, .int z_5), (6, .int 2), (5, .int z_4), (4, .int z_3), (0, .int x), (1, .int y)]) hx hb d_Sh_runsFrom_39 rfl hl (by decide) rfl (fun ls hl => ?_)
  refine lv_iload hx hb d_Sh_runsFrom_40 (lv_at hl 4 rfl) ?_
  refine lv_iload hx hb d_Sh_runsFrom_42 (lv_at hl 4 rfl) ?_
  refine lv_iload hx hb d_Sh_runsFrom_44 (lv_at hl 2 rfl) ?_
  refine lv_ishl hx hb d_Sh_runsFrom_46 ?_
  refine lv_iand hx hb d_Sh_runsFrom_47 ?_
  refine lv_topi (fun z_7 ez_7 => ?_)
  refine lv_istore (lv' := [(4, .int z_7), (3, .int z_6), (2, .int z_5), (6, .int 2), (5, .int z_4), (0, .int x), (1, .int y)]) hx hb d_Sh_runsFrom_48 hl (by decide) rfl (fun ls hl => ?_)
  refine lv_iload hx hb d_Sh_runsFrom_50 (lv_at hl 4 rfl) ?_
  refine lv_iload hx hb d_Sh_runsFrom_52 (lv_at hl 4 rfl) ?_
  refine lv_iload hx hb d_Sh_runsFrom_54 (lv_at hl 3 rfl) ?_
  refine lv_iushr hx hb d_Sh_runsFrom_56 rfl ?_
  refine lv_iand hx hb d_Sh_runsFrom_57 ?_
  refine lv_topi (fun z_8 ez_8 => ?_)
  refine lv_istore (lv' := [(5, .int z_8), (4, .int z_7), (3, .int z_6), (2, .int z_5), (6, .int 2), (0, .int x), (1, .int y)]) hx hb d_Sh_runsFrom_58 hl (by decide) rfl (fun ls hl => ?_)
  refine lv_iload hx hb d_Sh_runsFrom_60 (lv_at hl 4 rfl) ?_
  refine lv_iconst (v := 2) hx hb d_Sh_runsFrom_62 (by decide) ?_
  refine lv_imul hx hb d_Sh_runsFrom_63 ?_
  refine W.eq (g2 := F0 m 64 ls [.int 4]) rfl ?_
  refine lv_istore (lv' := [(6, .int 4), (5, .int z_8), (4, .int z_7), (3, .int z_6), (2, .int z_5), (0, .int x), (1, .int y)]) hx hb d_Sh_runsFrom_64 hl (by decide) rfl (fun ls hl => ?_)
  refine lv_goto (tgt := 13) hx hb d_Sh_runsFrom_66 (by decide) ?_
  refine lv_iload hx hb d_Sh_runsFrom_13 (lv_at hl 0 rfl) ?_
  refine lv_bipush (v := 32) hx hb d_Sh_runsFrom_15 (by decide) ?_
  refine lv_icmp_ge (tgt := 69) hx hb d_Sh_runsFrom_17 (by decide) (fun q => absurd q (by decide)) (fun _ => ?_)
  refine lv_iload_n hx hb d_Sh_runsFrom_20 rfl (lv_at hl 4 rfl) ?_
  refine lv_iload hx hb d_Sh_runsFrom_21 (lv_at hl 2 rfl) ?_
  refine lv_iload_n hx hb d_Sh_runsFrom_23 rfl (lv_at hl 4 rfl) ?_
  refine lv_iload hx hb d_Sh_runsFrom_24 (lv_at hl 0 rfl) ?_
  refine lv_ishl hx hb d_Sh_runsFrom_26 ?_
  refine lv_iand hx hb d_Sh_runsFrom_27 ?_
  refine lv_ior hx hb d_Sh_runsFrom_28 ?_
  refine lv_topi (fun z_9 ez_9 => ?_)
  refine lv_istore_n (lv' := [(2, .int z_9), (6, .int 4), (5, .int z_8), (4, .int z_7), (3, .int z_6), (0, .int x), (1, .int y)]) hx hb d_Sh_runsFrom_29 rfl hl (by decide) rfl (fun ls hl => ?_)
  refine lv_iload_n hx hb d_Sh_runsFrom_30 rfl (lv_at hl 4 rfl) ?_
  refine lv_iload hx hb d_Sh_runsFrom_31 (lv_at hl 2 rfl) ?_
  refine lv_iload_n hx hb d_Sh_runsFrom_33 rfl (lv_at hl 4 rfl) ?_
  refine lv_iload hx hb d_Sh_runsFrom_34 (lv_at hl 1 rfl) ?_
  refine lv_iushr hx hb d_Sh_runsFrom_36 rfl ?_
  refine lv_iand hx hb d_Sh_runsFrom_37 ?_
  refine lv_ior hx hb d_Sh_runsFrom_38 ?_
  refine lv_topi (fun z_10 ez_10 => ?_)
  refine lv_istore_n (lv' := [(3, .int z_10), (2, .int z_9), (6, .int 4), (5, .int z_8), (4, .int z_7), (0, .int x), (1, .int y)]) hx hb d_Sh_runsFrom_39 rfl hl (by decide) rfl (fun ls hl => ?_)
  refine lv_iload hx hb d_Sh_runsFrom_40 (lv_at hl 4 rfl) ?_
  refine lv_iload hx hb d_Sh_runsFrom_42 (lv_at hl 4 rfl) ?_
  refine lv_iload hx hb d_Sh_runsFrom_44 (lv_at hl 2 rfl) ?_
  refine lv_ishl hx hb d_Sh_runsFrom_46 ?_
  refine lv_iand hx hb d_Sh_runsFrom_47 ?_
  refine lv_topi (fun z_11 ez_11 => ?_)
  refine lv_istore (lv' := [(4, .int z_11), (3, .int z_10), (2, .int z_9), (6, .int 4), (5, .int z_8), (0, .int x), (1, .int y)]) hx hb d_Sh_runsFrom_48 hl (by decide) rfl (fun ls hl => ?_)
  refine lv_iload hx hb d_Sh_runsFrom_50 (lv_at hl 4 rfl) ?_
  refine lv_iload hx hb d_Sh_runsFrom_52 (lv_at hl 4 rfl) ?_
  refine lv_iload hx hb d_Sh_runsFrom_54 (lv_at hl 3 rfl) ?_
  refine lv_iushr hx hb d_Sh_runsFrom_56 rfl ?_
  refine lv_iand hx hb d_Sh_runsFrom_57 ?_
  refine lv_topi (fun z_12 ez_12 => ?_)
  refine lv_istore (lv' := [(5, .int z_12), (4, .int z_11), (3, .int z_10), (2, .int z_9), (6, .int 4), (0, .int x), (1, .int y)]) hx hb d_Sh_runsFrom_58 hl (by decide) rfl (fun ls hl => ?_)
  refine lv_iload hx hb d_Sh_runsFrom_60 (lv_at hl 4 rfl) ?_
  refine lv_iconst (v := 2) hx hb d_Sh_runsFrom_62 (by decide) ?_
  refine lv_imul hx hb d_Sh_runsFrom_63 ?_
  refine W.eq (g2 := F0 m 64 ls [.int 8]) rfl ?_
  refine lv_istore (lv' := [(6, .int 8), (5, .int z_12), (4, .int z_11), (3, .int z_10), (2, .int z_9), (0, .int x), (1, .int y)]) hx hb d_Sh_runsFrom_64 hl (by decide) rfl (fun ls hl => ?_)
  refine lv_goto (tgt := 13) hx hb d_Sh_runsFrom_66 (by decide) ?_
  refine lv_iload hx hb d_Sh_runsFrom_13 (lv_at hl 0 rfl) ?_
  refine lv_bipush (v := 32) hx hb d_Sh_runsFrom_15 (by decide) ?_
  refine lv_icmp_ge (tgt := 69) hx hb d_Sh_runsFrom_17 (by decide) (fun q => absurd q (by decide)) (fun _ => ?_)
  refine lv_iload_n hx hb d_Sh_runsFrom_20 rfl (lv_at hl 4 rfl) ?_
  refine lv_iload hx hb d_Sh_runsFrom_21 (lv_at hl 2 rfl) ?_
  refine lv_iload_n hx hb d_Sh_runsFrom_23 rfl (lv_at hl 4 rfl) ?_
  refine lv_iload hx hb d_Sh_runsFrom_24 (lv_at hl 0 rfl) ?_
  refine lv_ishl hx hb d_Sh_runsFrom_26 ?_
  refine lv_iand hx hb d_Sh_runsFrom_27 ?_
  refine lv_ior hx hb d_Sh_runsFrom_28 ?_
  refine lv_topi (fun z_13 ez_13 => ?_)
  refine lv_istore_n (lv' := [(2, .int z_13), (6, .int 8), (5, .int z_12), (4, .int z_11), (3, .int z_10), (0, .int x), (1, .int y)]) hx hb d_Sh_runsFrom_29 rfl hl (by decide) rfl (fun ls hl => ?_)
  refine lv_iload_n hx hb d_Sh_runsFrom_30 rfl (lv_at hl 4 rfl) ?_
  refine lv_iload hx hb d_Sh_runsFrom_31 (lv_at hl 2 rfl) ?_
  refine lv_iload_n hx hb d_Sh_runsFrom_33 rfl (lv_at hl 4 rfl) ?_
  refine lv_iload hx hb d_Sh_runsFrom_34 (lv_at hl 1 rfl) ?_
  refine lv_iushr hx hb d_Sh_runsFrom_36 rfl ?_
  refine lv_iand hx hb d_Sh_runsFrom_37 ?_
  refine lv_ior hx hb d_Sh_runsFrom_38 ?_
  refine lv_topi (fun z_14 ez_14 => ?_)
  refine lv_istore_n (lv' := [(3, .int z_14), (2, .int z_13), (6, .int 8), (5, .int z_12), (4, .int z_11), (0, .int x), (1, .int y)]) hx hb d_Sh_runsFrom_39 rfl hl (by decide) rfl (fun ls hl => ?_)
  refine lv_iload hx hb d_Sh_runsFrom_40 (lv_at hl 4 rfl) ?_
  refine lv_iload hx hb d_Sh_runsFrom_42 (lv_at hl 4 rfl) ?_
  refine lv_iload hx hb d_Sh_runsFrom_44 (lv_at hl 2 rfl) ?_
  refine lv_ishl hx hb d_Sh_runsFrom_46 ?_
  refine lv_iand hx hb d_Sh_runsFrom_47 ?_
  refine lv_topi (fun z_15 ez_15 => ?_)
  refine lv_istore (lv' := [(4, .int z_15), (3, .int z_14), (2, .int z_13), (6, .int 8), (5, .int z_12), (0, .int x), (1, .int y)]) hx hb d_Sh_runsFrom_48 hl (by decide) rfl (fun ls hl => ?_)
  refine lv_iload hx hb d_Sh_runsFrom_50 (lv_at hl 4 rfl) ?_
  refine lv_iload hx hb d_Sh_runsFrom_52 (lv_at hl 4 rfl) ?_
  refine lv_iload hx hb d_Sh_runsFrom_54 (lv_at hl 3 rfl) ?_
  refine lv_iushr hx hb d_Sh_runsFrom_56 rfl ?_
  refine lv_iand hx hb d_Sh_runsFrom_57 ?_
  refine lv_topi (fun z_16 ez_16 => ?_)
  refine lv_istore (lv' := [(5, .int z_16), (4, .int z_15), (3, .int z_14), (2, .int z_13), (6, .int 8), (0, .int x), (1, .int y)]) hx hb d_Sh_runsFrom_58 hl (by decide) rfl (fun ls hl => ?_)
  refine lv_iload hx hb d_Sh_runsFrom_60 (lv_at hl 4 rfl) ?_
  refine lv_iconst (v := 2) hx hb d_Sh_runsFrom_62 (by decide) ?_
  refine lv_imul hx hb d_Sh_runsFrom_63 ?_
  refine W.eq (g2 := F0 m 64 ls [.int 16]) rfl ?_
  refine lv_istore (lv' := [(6, .int 16), (5, .int z_16), (4, .int z_15), (3, .int z_14), (2, .int z_13), (0, .int x), (1, .int y)]) hx hb d_Sh_runsFrom_64 hl (by decide) rfl (fun ls hl => ?_)
  refine lv_goto (tgt := 13) hx hb d_Sh_runsFrom_66 (by decide) ?_
  refine lv_iload hx hb d_Sh_runsFrom_13 (lv_at hl 0 rfl) ?_
  refine lv_bipush (v := 32) hx hb d_Sh_runsFrom_15 (by decide) ?_
  refine lv_icmp_ge (tgt := 69) hx hb d_Sh_runsFrom_17 (by decide) (fun q => absurd q (by decide)) (fun _ => ?_)
  refine lv_iload_n hx hb d_Sh_runsFrom_20 rfl (lv_at hl 4 rfl) ?_
  refine lv_iload hx hb d_Sh_runsFrom_21 (lv_at hl 2 rfl) ?_
  refine lv_iload_n hx hb d_Sh_runsFrom_23 rfl (lv_at hl 4 rfl) ?_
  refine lv_iload hx hb d_Sh_runsFrom_24 (lv_at hl 0 rfl) ?_
  refine lv_ishl hx hb d_Sh_runsFrom_26 ?_
  refine lv_iand hx hb d_Sh_runsFrom_27 ?_
  refine lv_ior hx hb d_Sh_runsFrom_28 ?_
  refine lv_topi (fun z_17 ez_17 => ?_)
  refine lv_istore_n (lv' := [(2, .int z_17), (6, .int 16), (5, .int z_16), (4, .int z_15), (3, .int z_14), (0, .int x), (1, .int y)]) hx hb d_Sh_runsFrom_29 rfl hl (by decide) rfl (fun ls hl => ?_)
  refine lv_iload_n hx hb d_Sh_runsFrom_30 rfl (lv_at hl 4 rfl) ?_
  refine lv_iload hx hb d_Sh_runsFrom_31 (lv_at hl 2 rfl) ?_
  refine lv_iload_n hx hb d_Sh_runsFrom_33 rfl (lv_at hl 4 rfl) ?_
  refine lv_iload hx hb d_Sh_runsFrom_34 (lv_at hl 1 rfl) ?_
  refine lv_iushr hx hb d_Sh_runsFrom_36 rfl ?_
  refine lv_iand hx hb d_Sh_runsFrom_37 ?_
  refine lv_ior hx hb d_Sh_runsFrom_38 ?_
  refine lv_topi (fun z_18 ez_18 => ?_)
  refine lv_istore_n (lv' := [(3, .int z_18), (2, .int z_17), (6, .int 16), (5, .int z_16), (4, .int z_15), (0, .int x), (1, .int y)]) hx hb d_Sh_runsFrom_39 rfl hl (by decide) rfl (fun ls hl => ?_)
  refine lv_iload hx hb d_Sh_runsFrom_40 (lv_at hl 4 rfl) ?_
  refine lv_iload hx hb d_Sh_runsFrom_42 (lv_at hl 4 rfl) ?_
  refine lv_iload hx hb d_Sh_runsFrom_44 (lv_at hl 2 rfl) ?_
  refine lv_ishl hx hb d_Sh_runsFrom_46 ?_
  refine lv_iand hx hb d_Sh_runsFrom_47 ?_
  refine lv_topi (fun z_19 ez_19 => ?_)
  refine lv_istore (lv' := [(4, .int z_19), (3, .int z_18), (2, .int z_17), (6, .int 16), (5, .int z_16), (0, .int x), (1, .int y)]) hx hb d_Sh_runsFrom_48 hl (by decide) rfl (fun ls hl => ?_)
  refine lv_iload hx hb d_Sh_runsFrom_50 (lv_at hl 4 rfl) ?_
  refine lv_iload hx hb d_Sh_runsFrom_52 (lv_at hl 4 rfl) ?_
  refine lv_iload hx hb d_Sh_runsFrom_54 (lv_at hl 3 rfl) ?_
  refine lv_iushr hx hb d_Sh_runsFrom_56 rfl ?_
  refine lv_iand hx hb d_Sh_runsFrom_57 ?_
  refine lv_topi (fun z_20 ez_20 => ?_)
  refine lv_istore (lv' := [(5, .int z_20), (4, .int z_19), (3, .int z_18), (2, .int z_17), (6, .int 16), (0, .int x), (1, .int y)]) hx hb d_Sh_runsFrom_58 hl (by decide) rfl (fun ls hl => ?_)
  refine lv_iload hx hb d_Sh_runsFrom_60 (lv_at hl 4 rfl) ?_
  refine lv_iconst (v := 2) hx hb d_Sh_runsFrom_62 (by decide) ?_
  refine lv_imul hx hb d_Sh_runsFrom_63 ?_
  refine W.eq (g2 := F0 m 64 ls [.int 32]) rfl ?_
  refine lv_istore (lv' := [(6, .int 32), (5, .int z_20), (4, .int z_19), (3, .int z_18), (2, .int z_17), (0, .int x), (1, .int y)]) hx hb d_Sh_runsFrom_64 hl (by decide) rfl (fun ls hl => ?_)
  refine lv_goto (tgt := 13) hx hb d_Sh_runsFrom_66 (by decide) ?_
  refine lv_iload hx hb d_Sh_runsFrom_13 (lv_at hl 0 rfl) ?_
  refine lv_bipush (v := 32) hx hb d_Sh_runsFrom_15 (by decide) ?_
  refine lv_icmp_ge (tgt := 69) hx hb d_Sh_runsFrom_17 (by decide) (fun _ => ?_) (fun q => absurd q (by decide))
  refine lv_iload_n hx hb d_Sh_runsFrom_69 rfl (lv_at hl 4 rfl) ?_
  refine lv_iload_n hx hb d_Sh_runsFrom_70 rfl (lv_at hl 3 rfl) ?_
  refine lv_ior hx hb d_Sh_runsFrom_71 ?_
  refine lv_topi (fun r_21 er_21 => ?_)
  have hz_1 : z_1 = rn_u 1 x y := ez_1
  have hz_2 : z_2 = rn_d 1 x y := ez_2
  have hz_3 : z_3 = rn_ru 1 y := ez_3
  have hz_4 : z_4 = rn_rd 1 y := ez_4
  have hz_5 : z_5 = rn_u 2 z_1 z_3 := ez_5
  have hz_6 : z_6 = rn_d 2 z_2 z_4 := ez_6
  have hz_7 : z_7 = rn_ru 2 z_3 := ez_7
  have hz_8 : z_8 = rn_rd 2 z_4 := ez_8
  have hz_9 : z_9 = rn_u 4 z_5 z_7 := ez_9
  have hz_10 : z_10 = rn_d 4 z_6 z_8 := ez_10
  have hz_11 : z_11 = rn_ru 4 z_7 := ez_11
  have hz_12 : z_12 = rn_rd 4 z_8 := ez_12
  have hz_13 : z_13 = rn_u 8 z_9 z_11 := ez_13
  have hz_14 : z_14 = rn_d 8 z_10 z_12 := ez_14
  have hz_15 : z_15 = rn_ru 8 z_11 := ez_15
  have hz_16 : z_16 = rn_rd 8 z_12 := ez_16
  have hz_17 : z_17 = rn_u 16 z_13 z_15 := ez_17
  have hz_18 : z_18 = rn_d 16 z_14 z_16 := ez_18
  have hz_19 : z_19 = rn_ru 16 z_15 := ez_19
  have hz_20 : z_20 = rn_rd 16 z_16 := ez_20
  exact W.iret (v := r_21) hx hb hr (fun t ht hW => ⟨⟨r_21, V, rfl, ⟨by rw [er_21, hz_17, hz_18, hz_13, hz_14, hz_9, hz_10, hz_5, hz_6, hz_1, hz_2, hz_15, hz_16, hz_11, hz_12, hz_7, hz_8, hz_3, hz_4]; rfl, rfl⟩, mB_of ht hV⟩, hS.F ht⟩) hS.2.2 d_Sh_runsFrom_72
theorem ko_step {f g r : Nat → Int32} {i : Nat} (h : ∀ j, j < 24 → g j = if j < i then f j &&& r j else f j) (hi : i < 24) : ∀ j, j < 24 → upd g i (g i &&& r i) j = if j < i + 1 then f j &&& r j else f j := by
  intro j hj
  by_cases hji : j = i
  · rw [hji, up_s, h i hi, if_neg (by omega), if_pos (by omega)]
  · rw [up_n hji, h j hj]
    by_cases hlt : j < i
    · rw [if_pos hlt, if_pos (by omega)]
    · rw [if_neg hlt, if_neg (by omega)]
set_option maxHeartbeats 4000000 in
set_option maxRecDepth 100000 in
/-- keepOnly -/
theorem c_Sh_keepOnly (l : Launch) (D : va_G) (N0 : Nat) (k : Nat → Nat) (V : HV) (sh ra : Nat) (f : Nat → Int32) (h_sh : V sh = some (eSh ra)) (h_ra : V ra = some (eI k 24 f)) (rm rb : Nat) (r : Nat → Int32) (h_rm : V rm = some (eSh rb)) (h_rb : V rb = some (eI k 24 r)) (hne : rb ≠ ra) : Met l y_Sh_keepOnly (.code y_Sh_keepOnly b_Sh_keepOnly 3 none :: WS) ({ frames := 0, cells := 0, slots := 0, locals := 0 }) (mP D N0 k [.ref sh, .ref rm] V) (va_Qv (fun V' => ∃ g, V' = hu V ra (eI k 24 g) ∧ ∀ j, j < 24 → g j = f j &&& r j) (mB D N0) (hA N0)) 0 0 (hA N0) := by
  refine Met.ofW (cc := b_Sh_keepOnly) (maxL := 3) (ret := none) (by decide) rfl ?_
  intro p e s m args below meth c s₁ B hml hv0
  obtain ⟨rfl, hG, hV⟩ := hv0
  have hx := B.exec
  have hb := B.bytes
  have hr := B.returns
  have hts := atoms_spec (ws := .code y_Sh_keepOnly b_Sh_keepOnly 3 none :: WS) B.pre
  have hW : ∀ w ∈ WS, w.before _ s = true := fun w h => hts w (List.mem_cons_of_mem _ h)
  have hown : s.vm.findClass "BoardHouse$Sheet" = some m.cls := findClass_of_methodNamed B.named
  have hlocks := B.notSynchronized
  have hS : va_S (hA N0) s.heap s.heap [] := va_S.rf
  have hl := lv_entry ([.ref sh, .ref rm]) (n := 3) (Nat.le_of_ble_eq_true rfl)
  rw [lg_entry_eq]
  generalize (lg_sl ([.ref sh, .ref rm]) ++ List.replicate (3 - (lg_sl ([.ref sh, .ref rm])).length) Slot.unset).toArray = ls at hl ⊢
  have hl : lv_has ls 3 [(0, .ref sh), (1, .ref rm)] := hl
  refine lv_iconst (v := 0) hx hb d_Sh_keepOnly_0 (by decide) ?_
  refine lv_istore_n (lv' := [(2, .int 0), (0, .ref sh), (1, .ref rm)]) hx hb d_Sh_keepOnly_1 rfl hl (by decide) rfl (fun ls hl => ?_)
  rw [← hu_self h_ra] at hV
  have loop_1 : ∀ (n i : Nat) (g : Nat → Int32)  (H : Heap) (locs : List Loc) (ls : Array Slot), i ≤ 24 → 24 + 1 ≤ i + n → (∀ j, j < 24 → g j = if j < i then f j &&& r j else f j) → hv D vwCl N0 (hu V ra (eI k 24 g)) H → va_S (hA N0) s.heap H locs → lv_has ls 3 [(2, .int (nI i)), (0, .ref sh), (1, .ref rm)] → W p l e (headSpec (.code y_Sh_keepOnly b_Sh_keepOnly 3 none :: WS) ({ frames := 0, cells := 0, slots := 0, locals := 0 })).room s m #[.ref sh, .ref rm] below meth c H locs 0 0 (MQ below (va_Qv (fun V' => ∃ g, V' = hu V ra (eI k 24 g) ∧ ∀ j, j < 24 → g j = f j &&& r j) (mB D N0) (hA N0)) #[.ref sh, .ref rm] s 0 0 (hA N0)) (F0 m 2 ls []) := by
    intro n
    induction n with
    | zero => intro i g H locs ls h1 h2; exact absurd h2 (by omega)
    | succ n ih =>
      intro i g H locs ls hi hin hI hV hS hl
      have hw1_sh : (hu V ra (eI k 24 g)) sh = some (.inr (3, [.ref ra])) := hu_o h_ra h_sh (by simp)
      have hw2_rm : (hu V ra (eI k 24 g)) rm = some (.inr (3, [.ref rb])) := hu_o h_ra h_rm (by simp)
      have hw3_rb : (hu V ra (eI k 24 g)) rb = some (eI k 24 r) := (hu_n hne).trans h_rb
      refine lv_iload_n hx hb d_Sh_keepOnly_2 rfl (lv_at hl 0 rfl) ?_
      refine lv_bipush (v := 24) hx hb d_Sh_keepOnly_3 (by decide) ?_
      refine lv_icmp_ge (tgt := 29) hx hb d_Sh_keepOnly_5 (by decide) (fun c_2 => ?_) (fun c_2 => ?_)
      · have hge : 24 ≤ i := nI_le' c_2 (by omega) (by omega)
        exact W.vret hx hb hr (fun t ht hW => ⟨⟨(hu V ra (eI k 24 g)), rfl, ⟨g, rfl, fun j hj => by rw [hI j hj, if_pos (by omega)]⟩, mB_of ht hV⟩, hS.F ht⟩) hS.2.2 d_Sh_keepOnly_29
      · have hlt : i < 24 := nI_nle' c_2 (by omega) (by omega)
        refine lv_aload_n hx hb d_Sh_keepOnly_8 rfl (lv_at hl 1 rfl) ?_
        refine gf_Sh_9 hx hb hW hown hG hV hw1_sh d_Sh_keepOnly_9 ?_
        refine lv_iload_n hx hb d_Sh_keepOnly_12 rfl (lv_at hl 0 rfl) ?_
        refine lv_dup2_11 hx hb d_Sh_keepOnly_13 rfl rfl ?_
        refine hv_iald hx hb hG.K hV 0 hu_s rfl (vp_in_nI (by omega) (by omega)) d_Sh_keepOnly_14 ?_
        rw [nI_clamp (by omega)]
        refine lv_aload_n hx hb d_Sh_keepOnly_15 rfl (lv_at hl 2 rfl) ?_
        refine gf_Sh_9 hx hb hW hown hG hV hw2_rm d_Sh_keepOnly_16 ?_
        refine lv_iload_n hx hb d_Sh_keepOnly_19 rfl (lv_at hl 0 rfl) ?_
        refine hv_iald hx hb hG.K hV 0 hw3_rb rfl (vp_in_nI (by omega) (by omega)) d_Sh_keepOnly_20 ?_
        rw [nI_clamp (by omega)]
        refine lv_iand hx hb d_Sh_keepOnly_21 ?_
        refine hv_iast hx hb hG.K hV hS 0 hu_s rfl (vp_in_nI (by omega) (by omega)) d_Sh_keepOnly_22 (fun H locs hV hS => ?_)
        rw [nI_clamp (by omega)] at hV
        replace hV : hv D vwCl N0 (hu (hu V ra (eI k 24 g)) ra (.inl (k 0, 24, .inl (upd g i ((g i) &&& (r i)))))) H := hV
        generalize hV_V_3 : hu (hu V ra (eI k 24 g)) ra (.inl (k 0, 24, .inl (upd g i ((g i) &&& (r i))))) = V_3 at hV
        have hw1_sh'V_3 : V_3 sh = some (.inr (3, [.ref ra])) := by rw [← hV_V_3]; exact hu_o hu_s hw1_sh (by simp)
        have hw2_rm'V_3 : V_3 rm = some (.inr (3, [.ref rb])) := by rw [← hV_V_3]; exact hu_o hu_s hw2_rm (by simp)
        have hw3_rb'V_3 : V_3 rb = some (eI k 24 r) := by rw [← hV_V_3, hu_n hne]; exact hw3_rb
        have hra'V_3 : V_3 ra = some (.inl (k 0, 24, .inl (upd g i ((g i) &&& (r i))))) := by rw [← hV_V_3]; exact hu_s
        obtain ⟨i_4, ei_4⟩ : ∃ y : Int32, y = (nI i) + 1 := ⟨_, rfl⟩
        refine lv_iinc (v := i_4) (lv' := [(2, .int i_4), (0, .ref sh), (1, .ref rm)]) hx hb d_Sh_keepOnly_23 hl (k := 0) rfl (by rw [ei_4]; rfl) (by decide) rfl (fun ls hl => ?_)
        refine lv_goto (tgt := 2) hx hb d_Sh_keepOnly_26 (by decide) ?_
        rw [nI_1] at ei_4
        subst ei_4
        rw [← hV_V_3, hu_u] at hV
        exact ih (i + 1) (upd g i ((g i) &&& (r i)))  _ _ _ (by omega) (by omega) (ko_step hI (by omega)) hV hS (lv_sub hl [0, 1, 2] rfl)
  exact loop_1 (24 + 1 - 0) 0 f  _ _ _ (by omega) (by omega) (fun j hj => by rw [if_neg (by omega)]) hV hS (lv_sub hl [0, 1, 2] rfl)
theorem nI_m1 {i : Nat} (h : 0 < i) : nI i - 1 = nI (i - 1) := by
  obtain ⟨j, rfl⟩ : ∃ j, i = j + 1 := ⟨i - 1, by omega⟩
  exact nI_pred j
theorem gr_a {f : Nat → Int32} {i : Nat} (h1 : i < 23) (h0 : 0 < i) : gr_seeds f i = (f i ||| f (i - 1)) ||| f (i + 1) := by rw [gr_seeds, if_pos h1, if_pos h0]
theorem gr_b {f : Nat → Int32} {i : Nat} (h1 : ¬ i < 23) (h0 : 0 < i) : gr_seeds f i = f i ||| f (i - 1) := by rw [gr_seeds, if_neg h1, if_pos h0]
theorem gr_c {f : Nat → Int32} {i : Nat} (h1 : i < 23) (h0 : ¬ 0 < i) : gr_seeds f i = f i ||| f (i + 1) := by rw [gr_seeds, if_pos h1, if_neg h0]
theorem gr_d {f : Nat → Int32} {i : Nat} (h1 : ¬ i < 23) (h0 : ¬ 0 < i) : gr_seeds f i = f i := by rw [gr_seeds, if_neg h1, if_neg h0]
set_option maxHeartbeats 4000000 in
set_option maxRecDepth 100000 in
/-- growRow -/
theorem c_Sh_growRow (l : Launch) (D : va_G) (N0 : Nat) (k : Nat → Nat) (V : HV) (sh ra : Nat) (f : Nat → Int32) (h_sh : V sh = some (eSh ra)) (h_ra : V ra = some (eI k 24 f)) (rm rb : Nat) (r : Nat → Int32) (h_rm : V rm = some (eSh rb)) (h_rb : V rb = some (eI k 24 r)) (hne : rb ≠ ra) (i : Nat) (hi : i < 24) : Met l y_Sh_growRow (.code y_Sh_growRow b_Sh_growRow 5 (some .boolean) :: WS) ({ frames := 1, cells := 0, slots := 0, locals := 26 }) (mP D N0 k [.ref sh, .int (nI i), .ref rm] V) (va_Qi (fun q V' => q = bI (!decide (gr_row f r i = f i)) ∧ V' = hu V ra (eI k 24 (upd f i (gr_row f r i)))) (mB D N0) (hA N0)) 0 0 (hA N0) := by
  refine Met.ofW (cc := b_Sh_growRow) (maxL := 5) (ret := (some .boolean)) (by decide) rfl ?_
  intro p e s m args below meth c s₁ B hml hv0
  obtain ⟨rfl, hG, hV⟩ := hv0
  have hx := B.exec
  have hb := B.bytes
  have hr := B.returns
  have hts := atoms_spec (ws := .code y_Sh_growRow b_Sh_growRow 5 (some .boolean) :: WS) B.pre
  have hW : ∀ w ∈ WS, w.before _ s = true := fun w h => hts w (List.mem_cons_of_mem _ h)
  have hown : s.vm.findClass "BoardHouse$Sheet" = some m.cls := findClass_of_methodNamed B.named
  have hlocks := B.notSynchronized
  have hS : va_S (hA N0) s.heap s.heap [] := va_S.rf
  have hl := lv_entry ([.ref sh, .int (nI i), .ref rm]) (n := 5) (Nat.le_of_ble_eq_true rfl)
  rw [lg_entry_eq]
  generalize (lg_sl ([.ref sh, .int (nI i), .ref rm]) ++ List.replicate (5 - (lg_sl ([.ref sh, .int (nI i), .ref rm])).length) Slot.unset).toArray = ls at hl ⊢
  have hl : lv_has ls 5 [(0, .ref sh), (1, .int (nI i)), (2, .ref rm)] := hl
  refine lv_aload_n hx hb d_Sh_growRow_0 rfl (lv_at hl 0 rfl) ?_
  refine gf_Sh_9 hx hb hW hown hG hV h_sh d_Sh_growRow_1 ?_
  refine lv_iload_n hx hb d_Sh_growRow_4 rfl (lv_at hl 1 rfl) ?_
  refine hv_iald hx hb hG.K hV 0 h_ra rfl (vp_in_nI (by omega) (by omega)) d_Sh_growRow_5 ?_
  rw [nI_clamp (by omega)]
  refine lv_istore_n (lv' := [(3, .int (f i)), (0, .ref sh), (1, .int (nI i)), (2, .ref rm)]) hx hb d_Sh_growRow_6 rfl hl (by decide) rfl (fun ls hl => ?_)
  refine lv_iload_n hx hb d_Sh_growRow_7 rfl (lv_at hl 0 rfl) ?_
  refine lv_istore (lv' := [(4, .int (f i)), (3, .int (f i)), (0, .ref sh), (1, .int (nI i)), (2, .ref rm)]) hx hb d_Sh_growRow_8 hl (by decide) rfl (fun ls hl => ?_)
  refine lv_iload_n hx hb d_Sh_growRow_10 rfl (lv_at hl 3 rfl) ?_
  refine lv_if_le (tgt := 27) hx hb d_Sh_growRow_11 (by decide) (fun c_1 => ?_) (fun c_1 => ?_)
  · have h0 : ¬ 0 < i := fun q => absurd (nI_le' (b := 0) c_1 (by omega) (by decide)) (by omega)
    refine lv_iload_n hx hb d_Sh_growRow_27 rfl (lv_at hl 3 rfl) ?_
    refine lv_bipush (v := 23) hx hb d_Sh_growRow_28 (by decide) ?_
    refine lv_icmp_ge (tgt := 46) hx hb d_Sh_growRow_30 (by decide) (fun c_2 => ?_) (fun c_2 => ?_)
    · have h1 : ¬ i < 23 := Nat.not_lt.mpr (nI_le' (a := 23) c_2 (by decide) (by omega))
      refine lv_aload_n hx hb d_Sh_growRow_46 rfl (lv_at hl 2 rfl) ?_
      refine gf_Sh_9 hx hb hW hown hG hV h_sh d_Sh_growRow_47 ?_
      refine lv_iload_n hx hb d_Sh_growRow_50 rfl (lv_at hl 3 rfl) ?_
      refine lv_iload_n hx hb d_Sh_growRow_51 rfl (lv_at hl 1 rfl) ?_
      refine lv_iload hx hb d_Sh_growRow_52 (lv_at hl 0 rfl) ?_
      refine lv_aload_n hx hb d_Sh_growRow_54 rfl (lv_at hl 4 rfl) ?_
      refine gf_Sh_9 hx hb hW hown hG hV h_rm d_Sh_growRow_55 ?_
      refine lv_iload_n hx hb d_Sh_growRow_58 rfl (lv_at hl 3 rfl) ?_
      refine hv_iald hx hb hG.K hV 0 h_rb rfl (vp_in_nI (by omega) (by omega)) d_Sh_growRow_59 ?_
      rw [nI_clamp (by omega)]
      refine lv_iand hx hb d_Sh_growRow_60 ?_
      refine lv_aload_n hx hb d_Sh_growRow_61 rfl (lv_at hl 4 rfl) ?_
      refine gf_Sh_9 hx hb hW hown hG hV h_rm d_Sh_growRow_62 ?_
      refine lv_iload_n hx hb d_Sh_growRow_65 rfl (lv_at hl 3 rfl) ?_
      refine hv_iald hx hb hG.K hV 0 h_rb rfl (vp_in_nI (by omega) (by omega)) d_Sh_growRow_66 ?_
      rw [nI_clamp (by omega)]
      refine rc_i (va_runS (As := [.int ((f i) &&& (r i)), .int (r i)]) (rest := [.int (f i), .int (nI i), .ref ra]) ⟨hx, hb, hml, hown, hts⟩ (c_Sh_runsFrom l D N0 k V ((f i) &&& (r i)) (r i)) (va_cwS 2 hts (gi_S wm_Sh_55 wt_Sh_runsFrom wi_Sh wc_Sh_runsFrom) rfl rfl rfl (by decide +kernel) ⟨Nat.le_of_ble_eq_true rfl, Nat.le_of_ble_eq_true rfl⟩) (mP.preS hG hS hV) rfl rfl hl.1 rfl (lv_room (Nat.le_of_ble_eq_true rfl)) d_Sh_growRow_67 ⟨Nat.le_of_ble_eq_true rfl, Nat.le_of_ble_eq_true rfl⟩) hS (fun H locs hV hS => ?_)
      refine lv_ior hx hb d_Sh_growRow_70 ?_
      refine hv_iast hx hb hG.K hV hS 0 h_ra rfl (vp_in_nI (by omega) (by omega)) d_Sh_growRow_71 (fun H locs hV hS => ?_)
      rw [nI_clamp (by omega)] at hV
      replace hV : hv D vwCl N0 (hu V ra (.inl (k 0, 24, .inl (upd f i ((f i) ||| (sh_runs ((f i) &&& (r i)) (r i))))))) H := hV
      generalize hV_V_3 : hu V ra (.inl (k 0, 24, .inl (upd f i ((f i) ||| (sh_runs ((f i) &&& (r i)) (r i)))))) = V_3 at hV
      have h_sh'V_3 : V_3 sh = some (.inr (3, [.ref ra])) := by rw [← hV_V_3]; exact hu_o h_ra h_sh (by simp)
      have h_rm'V_3 : V_3 rm = some (.inr (3, [.ref rb])) := by rw [← hV_V_3]; exact hu_o h_ra h_rm (by simp)
      have hra'V_3 : V_3 ra = some (.inl (k 0, 24, .inl (upd f i ((f i) ||| (sh_runs ((f i) &&& (r i)) (r i)))))) := by rw [← hV_V_3]; exact hu_s
      refine lv_aload_n hx hb d_Sh_growRow_72 rfl (lv_at hl 2 rfl) ?_
      refine gf_Sh_9 hx hb hW hown hG hV h_sh'V_3 d_Sh_growRow_73 ?_
      refine lv_iload_n hx hb d_Sh_growRow_76 rfl (lv_at hl 3 rfl) ?_
      refine hv_iald hx hb hG.K hV 0 hra'V_3 rfl (vp_in_nI (by omega) (by omega)) d_Sh_growRow_77 ?_
      rw [nI_clamp (by omega)]
      refine lv_iload_n hx hb d_Sh_growRow_78 rfl (lv_at hl 1 rfl) ?_
      refine lv_icmp_eq (tgt := 86) hx hb d_Sh_growRow_79 (by decide) (fun c_4 => ?_) (fun c_4 => ?_)
      · refine lv_iconst (v := 0) hx hb d_Sh_growRow_86 (by decide) ?_
        have hsd : gr_row f r i = f i ||| sh_runs ((f i) &&& r i) (r i) := by rw [gr_row]; first | rw [gr_a h1 h0] | rw [gr_b h1 h0] | rw [gr_c h1 h0] | rw [gr_d h1 h0]
        rw [up_s] at c_4
        rw [← hsd] at c_4 hV_V_3
        exact W.zret (v := 0) hx hb hr rfl (fun t ht hW => ⟨⟨0, V_3, rfl, ⟨by simp [bI, c_4], hV_V_3.symm⟩, mB_of ht hV⟩, hS.F ht⟩) hS.2.2 d_Sh_growRow_87
      · refine lv_iconst (v := 1) hx hb d_Sh_growRow_82 (by decide) ?_
        refine lv_goto (tgt := 87) hx hb d_Sh_growRow_83 (by decide) ?_
        have hsd : gr_row f r i = f i ||| sh_runs ((f i) &&& r i) (r i) := by rw [gr_row]; first | rw [gr_a h1 h0] | rw [gr_b h1 h0] | rw [gr_c h1 h0] | rw [gr_d h1 h0]
        rw [up_s] at c_4
        rw [← hsd] at c_4 hV_V_3
        exact W.zret (v := 1) hx hb hr rfl (fun t ht hW => ⟨⟨1, V_3, rfl, ⟨by simp [bI, c_4], hV_V_3.symm⟩, mB_of ht hV⟩, hS.F ht⟩) hS.2.2 d_Sh_growRow_87
    · have h1 : i < 23 := nI_nle' (a := 23) c_2 (by decide) (by omega)
      refine lv_iload hx hb d_Sh_growRow_33 (lv_at hl 0 rfl) ?_
      refine lv_aload_n hx hb d_Sh_growRow_35 rfl (lv_at hl 2 rfl) ?_
      refine gf_Sh_9 hx hb hW hown hG hV h_sh d_Sh_growRow_36 ?_
      refine lv_iload_n hx hb d_Sh_growRow_39 rfl (lv_at hl 3 rfl) ?_
      refine lv_iconst (v := 1) hx hb d_Sh_growRow_40 (by decide) ?_
      refine lv_iadd hx hb d_Sh_growRow_41 ?_
      refine hv_iald hx hb hG.K hV 0 h_ra rfl (by rw [nI_1]; exact vp_in_nI (by omega) (by omega)) d_Sh_growRow_42 ?_
      rw [nI_1, nI_clamp (by omega)]
      refine lv_ior hx hb d_Sh_growRow_43 ?_
      refine lv_istore (lv' := [(4, .int ((f i) ||| (f (i + 1)))), (3, .int (f i)), (0, .ref sh), (1, .int (nI i)), (2, .ref rm)]) hx hb d_Sh_growRow_44 hl (by decide) rfl (fun ls hl => ?_)
      refine lv_aload_n hx hb d_Sh_growRow_46 rfl (lv_at hl 2 rfl) ?_
      refine gf_Sh_9 hx hb hW hown hG hV h_sh d_Sh_growRow_47 ?_
      refine lv_iload_n hx hb d_Sh_growRow_50 rfl (lv_at hl 3 rfl) ?_
      refine lv_iload_n hx hb d_Sh_growRow_51 rfl (lv_at hl 1 rfl) ?_
      refine lv_iload hx hb d_Sh_growRow_52 (lv_at hl 0 rfl) ?_
      refine lv_aload_n hx hb d_Sh_growRow_54 rfl (lv_at hl 4 rfl) ?_
      refine gf_Sh_9 hx hb hW hown hG hV h_rm d_Sh_growRow_55 ?_
      refine lv_iload_n hx hb d_Sh_growRow_58 rfl (lv_at hl 3 rfl) ?_
      refine hv_iald hx hb hG.K hV 0 h_rb rfl (vp_in_nI (by omega) (by omega)) d_Sh_growRow_59 ?_
      rw [nI_clamp (by omega)]
      refine lv_iand hx hb d_Sh_growRow_60 ?_
      refine lv_aload_n hx hb d_Sh_growRow_61 rfl (lv_at hl 4 rfl) ?_
      refine gf_Sh_9 hx hb hW hown hG hV h_rm d_Sh_growRow_62 ?_
      refine lv_iload_n hx hb d_Sh_growRow_65 rfl (lv_at hl 3 rfl) ?_
      refine hv_iald hx hb hG.K hV 0 h_rb rfl (vp_in_nI (by omega) (by omega)) d_Sh_growRow_66 ?_
      rw [nI_clamp (by omega)]
      refine rc_i (va_runS (As := [.int (((f i) ||| (f (i + 1))) &&& (r i)), .int (r i)]) (rest := [.int (f i), .int (nI i), .ref ra]) ⟨hx, hb, hml, hown, hts⟩ (c_Sh_runsFrom l D N0 k V (((f i) ||| (f (i + 1))) &&& (r i)) (r i)) (va_cwS 2 hts (gi_S wm_Sh_55 wt_Sh_runsFrom wi_Sh wc_Sh_runsFrom) rfl rfl rfl (by decide +kernel) ⟨Nat.le_of_ble_eq_true rfl, Nat.le_of_ble_eq_true rfl⟩) (mP.preS hG hS hV) rfl rfl hl.1 rfl (lv_room (Nat.le_of_ble_eq_true rfl)) d_Sh_growRow_67 ⟨Nat.le_of_ble_eq_true rfl, Nat.le_of_ble_eq_true rfl⟩) hS (fun H locs hV hS => ?_)
      refine lv_ior hx hb d_Sh_growRow_70 ?_
      refine hv_iast hx hb hG.K hV hS 0 h_ra rfl (vp_in_nI (by omega) (by omega)) d_Sh_growRow_71 (fun H locs hV hS => ?_)
      rw [nI_clamp (by omega)] at hV
      replace hV : hv D vwCl N0 (hu V ra (.inl (k 0, 24, .inl (upd f i ((f i) ||| (sh_runs (((f i) ||| (f (i + 1))) &&& (r i)) (r i))))))) H := hV
      generalize hV_V_5 : hu V ra (.inl (k 0, 24, .inl (upd f i ((f i) ||| (sh_runs (((f i) ||| (f (i + 1))) &&& (r i)) (r i)))))) = V_5 at hV
      have h_sh'V_5 : V_5 sh = some (.inr (3, [.ref ra])) := by rw [← hV_V_5]; exact hu_o h_ra h_sh (by simp)
      have h_rm'V_5 : V_5 rm = some (.inr (3, [.ref rb])) := by rw [← hV_V_5]; exact hu_o h_ra h_rm (by simp)
      have hra'V_5 : V_5 ra = some (.inl (k 0, 24, .inl (upd f i ((f i) ||| (sh_runs (((f i) ||| (f (i + 1))) &&& (r i)) (r i)))))) := by rw [← hV_V_5]; exact hu_s
      refine lv_aload_n hx hb d_Sh_growRow_72 rfl (lv_at hl 2 rfl) ?_
      refine gf_Sh_9 hx hb hW hown hG hV h_sh'V_5 d_Sh_growRow_73 ?_
      refine lv_iload_n hx hb d_Sh_growRow_76 rfl (lv_at hl 3 rfl) ?_
      refine hv_iald hx hb hG.K hV 0 hra'V_5 rfl (vp_in_nI (by omega) (by omega)) d_Sh_growRow_77 ?_
      rw [nI_clamp (by omega)]
      refine lv_iload_n hx hb d_Sh_growRow_78 rfl (lv_at hl 1 rfl) ?_
      refine lv_icmp_eq (tgt := 86) hx hb d_Sh_growRow_79 (by decide) (fun c_6 => ?_) (fun c_6 => ?_)
      · refine lv_iconst (v := 0) hx hb d_Sh_growRow_86 (by decide) ?_
        have hsd : gr_row f r i = f i ||| sh_runs (((f i) ||| (f (i + 1))) &&& r i) (r i) := by rw [gr_row]; first | rw [gr_a h1 h0] | rw [gr_b h1 h0] | rw [gr_c h1 h0] | rw [gr_d h1 h0]
        rw [up_s] at c_6
        rw [← hsd] at c_6 hV_V_5
        exact W.zret (v := 0) hx hb hr rfl (fun t ht hW => ⟨⟨0, V_5, rfl, ⟨by simp [bI, c_6], hV_V_5.symm⟩, mB_of ht hV⟩, hS.F ht⟩) hS.2.2 d_Sh_growRow_87
      · refine lv_iconst (v := 1) hx hb d_Sh_growRow_82 (by decide) ?_
        refine lv_goto (tgt := 87) hx hb d_Sh_growRow_83 (by decide) ?_
        have hsd : gr_row f r i = f i ||| sh_runs (((f i) ||| (f (i + 1))) &&& r i) (r i) := by rw [gr_row]; first | rw [gr_a h1 h0] | rw [gr_b h1 h0] | rw [gr_c h1 h0] | rw [gr_d h1 h0]
        rw [up_s] at c_6
        rw [← hsd] at c_6 hV_V_5
        exact W.zret (v := 1) hx hb hr rfl (fun t ht hW => ⟨⟨1, V_5, rfl, ⟨by simp [bI, c_6], hV_V_5.symm⟩, mB_of ht hV⟩, hS.F ht⟩) hS.2.2 d_Sh_growRow_87
  · have h0 : 0 < i := nI_nle' (b := 0) c_1 (by omega) (by decide)
    refine lv_iload hx hb d_Sh_growRow_14 (lv_at hl 0 rfl) ?_
    refine lv_aload_n hx hb d_Sh_growRow_16 rfl (lv_at hl 2 rfl) ?_
    refine gf_Sh_9 hx hb hW hown hG hV h_sh d_Sh_growRow_17 ?_
    refine lv_iload_n hx hb d_Sh_growRow_20 rfl (lv_at hl 3 rfl) ?_
    refine lv_iconst (v := 1) hx hb d_Sh_growRow_21 (by decide) ?_
    refine lv_isub hx hb d_Sh_growRow_22 ?_
    refine hv_iald hx hb hG.K hV 0 h_ra rfl (by rw [nI_m1 (by omega)]; exact vp_in_nI (by omega) (by omega)) d_Sh_growRow_23 ?_
    rw [nI_m1 (by omega), nI_clamp (by omega)]
    refine lv_ior hx hb d_Sh_growRow_24 ?_
    refine lv_istore (lv' := [(4, .int ((f i) ||| (f (i - 1)))), (3, .int (f i)), (0, .ref sh), (1, .int (nI i)), (2, .ref rm)]) hx hb d_Sh_growRow_25 hl (by decide) rfl (fun ls hl => ?_)
    refine lv_iload_n hx hb d_Sh_growRow_27 rfl (lv_at hl 3 rfl) ?_
    refine lv_bipush (v := 23) hx hb d_Sh_growRow_28 (by decide) ?_
    refine lv_icmp_ge (tgt := 46) hx hb d_Sh_growRow_30 (by decide) (fun c_7 => ?_) (fun c_7 => ?_)
    · have h1 : ¬ i < 23 := Nat.not_lt.mpr (nI_le' (a := 23) c_7 (by decide) (by omega))
      refine lv_aload_n hx hb d_Sh_growRow_46 rfl (lv_at hl 2 rfl) ?_
      refine gf_Sh_9 hx hb hW hown hG hV h_sh d_Sh_growRow_47 ?_
      refine lv_iload_n hx hb d_Sh_growRow_50 rfl (lv_at hl 3 rfl) ?_
      refine lv_iload_n hx hb d_Sh_growRow_51 rfl (lv_at hl 1 rfl) ?_
      refine lv_iload hx hb d_Sh_growRow_52 (lv_at hl 0 rfl) ?_
      refine lv_aload_n hx hb d_Sh_growRow_54 rfl (lv_at hl 4 rfl) ?_
      refine gf_Sh_9 hx hb hW hown hG hV h_rm d_Sh_growRow_55 ?_
      refine lv_iload_n hx hb d_Sh_growRow_58 rfl (lv_at hl 3 rfl) ?_
      refine hv_iald hx hb hG.K hV 0 h_rb rfl (vp_in_nI (by omega) (by omega)) d_Sh_growRow_59 ?_
      rw [nI_clamp (by omega)]
      refine lv_iand hx hb d_Sh_growRow_60 ?_
      refine lv_aload_n hx hb d_Sh_growRow_61 rfl (lv_at hl 4 rfl) ?_
      refine gf_Sh_9 hx hb hW hown hG hV h_rm d_Sh_growRow_62 ?_
      refine lv_iload_n hx hb d_Sh_growRow_65 rfl (lv_at hl 3 rfl) ?_
      refine hv_iald hx hb hG.K hV 0 h_rb rfl (vp_in_nI (by omega) (by omega)) d_Sh_growRow_66 ?_
      rw [nI_clamp (by omega)]
      refine rc_i (va_runS (As := [.int (((f i) ||| (f (i - 1))) &&& (r i)), .int (r i)]) (rest := [.int (f i), .int (nI i), .ref ra]) ⟨hx, hb, hml, hown, hts⟩ (c_Sh_runsFrom l D N0 k V (((f i) ||| (f (i - 1))) &&& (r i)) (r i)) (va_cwS 2 hts (gi_S wm_Sh_55 wt_Sh_runsFrom wi_Sh wc_Sh_runsFrom) rfl rfl rfl (by decide +kernel) ⟨Nat.le_of_ble_eq_true rfl, Nat.le_of_ble_eq_true rfl⟩) (mP.preS hG hS hV) rfl rfl hl.1 rfl (lv_room (Nat.le_of_ble_eq_true rfl)) d_Sh_growRow_67 ⟨Nat.le_of_ble_eq_true rfl, Nat.le_of_ble_eq_true rfl⟩) hS (fun H locs hV hS => ?_)
      refine lv_ior hx hb d_Sh_growRow_70 ?_
      refine hv_iast hx hb hG.K hV hS 0 h_ra rfl (vp_in_nI (by omega) (by omega)) d_Sh_growRow_71 (fun H locs hV hS => ?_)
      rw [nI_clamp (by omega)] at hV
      replace hV : hv D vwCl N0 (hu V ra (.inl (k 0, 24, .inl (upd f i ((f i) ||| (sh_runs (((f i) ||| (f (i - 1))) &&& (r i)) (r i))))))) H := hV
      generalize hV_V_8 : hu V ra (.inl (k 0, 24, .inl (upd f i ((f i) ||| (sh_runs (((f i) ||| (f (i - 1))) &&& (r i)) (r i)))))) = V_8 at hV
      have h_sh'V_8 : V_8 sh = some (.inr (3, [.ref ra])) := by rw [← hV_V_8]; exact hu_o h_ra h_sh (by simp)
      have h_rm'V_8 : V_8 rm = some (.inr (3, [.ref rb])) := by rw [← hV_V_8]; exact hu_o h_ra h_rm (by simp)
      have hra'V_8 : V_8 ra = some (.inl (k 0, 24, .inl (upd f i ((f i) ||| (sh_runs (((f i) ||| (f (i - 1))) &&& (r i)) (r i)))))) := by rw [← hV_V_8]; exact hu_s
      refine lv_aload_n hx hb d_Sh_growRow_72 rfl (lv_at hl 2 rfl) ?_
      refine gf_Sh_9 hx hb hW hown hG hV h_sh'V_8 d_Sh_growRow_73 ?_
      refine lv_iload_n hx hb d_Sh_growRow_76 rfl (lv_at hl 3 rfl) ?_
      refine hv_iald hx hb hG.K hV 0 hra'V_8 rfl (vp_in_nI (by omega) (by omega)) d_Sh_growRow_77 ?_
      rw [nI_clamp (by omega)]
      refine lv_iload_n hx hb d_Sh_growRow_78 rfl (lv_at hl 1 rfl) ?_
      refine lv_icmp_eq (tgt := 86) hx hb d_Sh_growRow_79 (by decide) (fun c_9 => ?_) (fun c_9 => ?_)
      · refine lv_iconst (v := 0) hx hb d_Sh_growRow_86 (by decide) ?_
        have hsd : gr_row f r i = f i ||| sh_runs (((f i) ||| (f (i - 1))) &&& r i) (r i) := by rw [gr_row]; first | rw [gr_a h1 h0] | rw [gr_b h1 h0] | rw [gr_c h1 h0] | rw [gr_d h1 h0]
        rw [up_s] at c_9
        rw [← hsd] at c_9 hV_V_8
        exact W.zret (v := 0) hx hb hr rfl (fun t ht hW => ⟨⟨0, V_8, rfl, ⟨by simp [bI, c_9], hV_V_8.symm⟩, mB_of ht hV⟩, hS.F ht⟩) hS.2.2 d_Sh_growRow_87
      · refine lv_iconst (v := 1) hx hb d_Sh_growRow_82 (by decide) ?_
        refine lv_goto (tgt := 87) hx hb d_Sh_growRow_83 (by decide) ?_
        have hsd : gr_row f r i = f i ||| sh_runs (((f i) ||| (f (i - 1))) &&& r i) (r i) := by rw [gr_row]; first | rw [gr_a h1 h0] | rw [gr_b h1 h0] | rw [gr_c h1 h0] | rw [gr_d h1 h0]
        rw [up_s] at c_9
        rw [← hsd] at c_9 hV_V_8
        exact W.zret (v := 1) hx hb hr rfl (fun t ht hW => ⟨⟨1, V_8, rfl, ⟨by simp [bI, c_9], hV_V_8.symm⟩, mB_of ht hV⟩, hS.F ht⟩) hS.2.2 d_Sh_growRow_87
    · have h1 : i < 23 := nI_nle' (a := 23) c_7 (by decide) (by omega)
      refine lv_iload hx hb d_Sh_growRow_33 (lv_at hl 0 rfl) ?_
      refine lv_aload_n hx hb d_Sh_growRow_35 rfl (lv_at hl 2 rfl) ?_
      refine gf_Sh_9 hx hb hW hown hG hV h_sh d_Sh_growRow_36 ?_
      refine lv_iload_n hx hb d_Sh_growRow_39 rfl (lv_at hl 3 rfl) ?_
      refine lv_iconst (v := 1) hx hb d_Sh_growRow_40 (by decide) ?_
      refine lv_iadd hx hb d_Sh_growRow_41 ?_
      refine hv_iald hx hb hG.K hV 0 h_ra rfl (by rw [nI_1]; exact vp_in_nI (by omega) (by omega)) d_Sh_growRow_42 ?_
      rw [nI_1, nI_clamp (by omega)]
      refine lv_ior hx hb d_Sh_growRow_43 ?_
      refine lv_istore (lv' := [(4, .int (((f i) ||| (f (i - 1))) ||| (f (i + 1)))), (3, .int (f i)), (0, .ref sh), (1, .int (nI i)), (2, .ref rm)]) hx hb d_Sh_growRow_44 hl (by decide) rfl (fun ls hl => ?_)
      refine lv_aload_n hx hb d_Sh_growRow_46 rfl (lv_at hl 2 rfl) ?_
      refine gf_Sh_9 hx hb hW hown hG hV h_sh d_Sh_growRow_47 ?_
      refine lv_iload_n hx hb d_Sh_growRow_50 rfl (lv_at hl 3 rfl) ?_
      refine lv_iload_n hx hb d_Sh_growRow_51 rfl (lv_at hl 1 rfl) ?_
      refine lv_iload hx hb d_Sh_growRow_52 (lv_at hl 0 rfl) ?_
      refine lv_aload_n hx hb d_Sh_growRow_54 rfl (lv_at hl 4 rfl) ?_
      refine gf_Sh_9 hx hb hW hown hG hV h_rm d_Sh_growRow_55 ?_
      refine lv_iload_n hx hb d_Sh_growRow_58 rfl (lv_at hl 3 rfl) ?_
      refine hv_iald hx hb hG.K hV 0 h_rb rfl (vp_in_nI (by omega) (by omega)) d_Sh_growRow_59 ?_
      rw [nI_clamp (by omega)]
      refine lv_iand hx hb d_Sh_growRow_60 ?_
      refine lv_aload_n hx hb d_Sh_growRow_61 rfl (lv_at hl 4 rfl) ?_
      refine gf_Sh_9 hx hb hW hown hG hV h_rm d_Sh_growRow_62 ?_
      refine lv_iload_n hx hb d_Sh_growRow_65 rfl (lv_at hl 3 rfl) ?_
      refine hv_iald hx hb hG.K hV 0 h_rb rfl (vp_in_nI (by omega) (by omega)) d_Sh_growRow_66 ?_
      rw [nI_clamp (by omega)]
      refine rc_i (va_runS (As := [.int ((((f i) ||| (f (i - 1))) ||| (f (i + 1))) &&& (r i)), .int (r i)]) (rest := [.int (f i), .int (nI i), .ref ra]) ⟨hx, hb, hml, hown, hts⟩ (c_Sh_runsFrom l D N0 k V ((((f i) ||| (f (i - 1))) ||| (f (i + 1))) &&& (r i)) (r i)) (va_cwS 2 hts (gi_S wm_Sh_55 wt_Sh_runsFrom wi_Sh wc_Sh_runsFrom) rfl rfl rfl (by decide +kernel) ⟨Nat.le_of_ble_eq_true rfl, Nat.le_of_ble_eq_true rfl⟩) (mP.preS hG hS hV) rfl rfl hl.1 rfl (lv_room (Nat.le_of_ble_eq_true rfl)) d_Sh_growRow_67 ⟨Nat.le_of_ble_eq_true rfl, Nat.le_of_ble_eq_true rfl⟩) hS (fun H locs hV hS => ?_)
      refine lv_ior hx hb d_Sh_growRow_70 ?_
      refine hv_iast hx hb hG.K hV hS 0 h_ra rfl (vp_in_nI (by omega) (by omega)) d_Sh_growRow_71 (fun H locs hV hS => ?_)
      rw [nI_clamp (by omega)] at hV
      replace hV : hv D vwCl N0 (hu V ra (.inl (k 0, 24, .inl (upd f i ((f i) ||| (sh_runs ((((f i) ||| (f (i - 1))) ||| (f (i + 1))) &&& (r i)) (r i))))))) H := hV
      generalize hV_V_10 : hu V ra (.inl (k 0, 24, .inl (upd f i ((f i) ||| (sh_runs ((((f i) ||| (f (i - 1))) ||| (f (i + 1))) &&& (r i)) (r i)))))) = V_10 at hV
      have h_sh'V_10 : V_10 sh = some (.inr (3, [.ref ra])) := by rw [← hV_V_10]; exact hu_o h_ra h_sh (by simp)
      have h_rm'V_10 : V_10 rm = some (.inr (3, [.ref rb])) := by rw [← hV_V_10]; exact hu_o h_ra h_rm (by simp)
      have hra'V_10 : V_10 ra = some (.inl (k 0, 24, .inl (upd f i ((f i) ||| (sh_runs ((((f i) ||| (f (i - 1))) ||| (f (i + 1))) &&& (r i)) (r i)))))) := by rw [← hV_V_10]; exact hu_s
      refine lv_aload_n hx hb d_Sh_growRow_72 rfl (lv_at hl 2 rfl) ?_
      refine gf_Sh_9 hx hb hW hown hG hV h_sh'V_10 d_Sh_growRow_73 ?_
      refine lv_iload_n hx hb d_Sh_growRow_76 rfl (lv_at hl 3 rfl) ?_
      refine hv_iald hx hb hG.K hV 0 hra'V_10 rfl (vp_in_nI (by omega) (by omega)) d_Sh_growRow_77 ?_
      rw [nI_clamp (by omega)]
      refine lv_iload_n hx hb d_Sh_growRow_78 rfl (lv_at hl 1 rfl) ?_
      refine lv_icmp_eq (tgt := 86) hx hb d_Sh_growRow_79 (by decide) (fun c_11 => ?_) (fun c_11 => ?_)
      · refine lv_iconst (v := 0) hx hb d_Sh_growRow_86 (by decide) ?_
        have hsd : gr_row f r i = f i ||| sh_runs ((((f i) ||| (f (i - 1))) ||| (f (i + 1))) &&& r i) (r i) := by rw [gr_row]; first | rw [gr_a h1 h0] | rw [gr_b h1 h0] | rw [gr_c h1 h0] | rw [gr_d h1 h0]
        rw [up_s] at c_11
        rw [← hsd] at c_11 hV_V_10
        exact W.zret (v := 0) hx hb hr rfl (fun t ht hW => ⟨⟨0, V_10, rfl, ⟨by simp [bI, c_11], hV_V_10.symm⟩, mB_of ht hV⟩, hS.F ht⟩) hS.2.2 d_Sh_growRow_87
      · refine lv_iconst (v := 1) hx hb d_Sh_growRow_82 (by decide) ?_
        refine lv_goto (tgt := 87) hx hb d_Sh_growRow_83 (by decide) ?_
        have hsd : gr_row f r i = f i ||| sh_runs ((((f i) ||| (f (i - 1))) ||| (f (i + 1))) &&& r i) (r i) := by rw [gr_row]; first | rw [gr_a h1 h0] | rw [gr_b h1 h0] | rw [gr_c h1 h0] | rw [gr_d h1 h0]
        rw [up_s] at c_11
        rw [← hsd] at c_11 hV_V_10
        exact W.zret (v := 1) hx hb hr rfl (fun t ht hW => ⟨⟨1, V_10, rfl, ⟨by simp [bI, c_11], hV_V_10.symm⟩, mB_of ht hV⟩, hS.F ht⟩) hS.2.2 d_Sh_growRow_87
