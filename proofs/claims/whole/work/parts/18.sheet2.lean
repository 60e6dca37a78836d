/-! Sheet: ranges of rows, counts -/
theorem sh_from_nat (x : Int32) : ∃ j : Nat, j < 2 ^ 31 ∧ sh_from x = nI j ∧ ∀ i : Nat, i < 2 ^ 31 → (j ≤ i ↔ x ≤ nI i) := by
  unfold sh_from
  by_cases h : 0 < x
  · rw [if_pos h]
    obtain ⟨j, hj, rfl⟩ := nI_of (x := x) (fun q => Int32.lt_irrefl (Int32.lt_trans h q))
    exact ⟨j, hj, rfl, fun i hi => (nI_leI hj hi).symm⟩
  · rw [if_neg h]
    refine ⟨0, by decide, rfl, fun i hi => ⟨fun _ => Int32.le_trans (Int32.not_lt.mp h) (nI_pos' hi), fun _ => Nat.zero_le _⟩⟩
/-- rows from a0 on, as far as i: h; the others: f -/
def rg (f h g : Nat → Int32) (a0 i : Nat) (hy : Int32) : Prop := a0 ≤ i ∧ (∀ j, j < 24 → g j = if a0 ≤ j ∧ j < i then h j else f j) ∧ ∀ j, a0 ≤ j → j < i → nI j ≤ hy
theorem rg_0 {f h : Nat → Int32} {a0 : Nat} {hy : Int32} : rg f h f a0 a0 hy := ⟨Nat.le_refl _, fun j _ => by rw [if_neg (by omega)], fun j h1 h2 => by omega⟩
theorem rg_s {f h g : Nat → Int32} {a0 i : Nat} {hy : Int32} (hI : rg f h g a0 i hy) (hi : i < 24) (hc : nI i ≤ hy) {x : Int32} (hx : f i = g i → x = h i) : rg f h (upd g i x) a0 (i + 1) hy := by
  obtain ⟨h0, h1, h2⟩ := hI
  have hgi : g i = f i := by rw [h1 i hi, if_neg (by omega)]
  refine ⟨by omega, fun j hj => ?_, fun j h3 h4 => ?_⟩
  · by_cases hji : j = i
    · rw [hji, up_s, if_pos (by omega)]; exact hx hgi.symm
    · rw [up_n hji, h1 j hj]
      by_cases hlt : a0 ≤ j ∧ j < i
      · rw [if_pos hlt, if_pos (by omega)]
      · rw [if_neg hlt, if_neg (by omega)]
  · by_cases hji : j = i
    · rw [hji]; exact hc
    · exact h2 j h3 (by omega)
theorem rg_e {f h g : Nat → Int32} {a0 i : Nat} {x hy : Int32} (hI : rg f h g a0 i hy) (ha : ∀ i : Nat, i < 2 ^ 31 → (a0 ≤ i ↔ x ≤ nI i)) (hi : i < 2 ^ 31) (hc : ¬ nI i ≤ hy ∨ 24 ≤ i) : ∀ j, j < 24 → g j = if x ≤ nI j ∧ nI j ≤ hy then h j else f j := by
  intro j hj
  obtain ⟨h0, h1, h2⟩ := hI
  rw [h1 j hj]
  by_cases hlt : a0 ≤ j ∧ j < i
  · rw [if_pos hlt, if_pos ⟨(ha j (by omega)).mp hlt.1, h2 j hlt.1 hlt.2⟩]
  · rw [if_neg hlt, if_neg]
    rintro ⟨q1, q2⟩
    have hj0 := (ha j (by omega)).mpr q1
    rcases hc with hc | hc
    · exact hc (Int32.le_trans ((nI_leI hi (by omega)).mpr (by omega)) q2)
    · omega
def szF (h : Nat → Int32) : Nat → Nat → Int32
  | _, 0 => 0
  | i, n + 1 => h i + szF h (i + 1) n
theorem szF_step {h : Nat → Int32} {i N : Nat} (hi : i < N) : szF h i (N - i) = h i + szF h (i + 1) (N - (i + 1)) := by
  rw [show N - i = (N - (i + 1)) + 1 by omega]; rfl
theorem szF_end {h : Nat → Int32} {i N : Nat} (hi : N ≤ i) : szF h i (N - i) = 0 := by
  rw [show N - i = 0 by omega]; rfl
def us (x n : Int32) : Int32 := (x.toUInt32 >>> (n.toUInt32 &&& Int32.toUInt32 31)).toInt32
def bc1 (x : Int32) : Int32 := x - (us x 1 &&& 1431655765)
def bc2 (x : Int32) : Int32 := (x &&& 858993459) + (us x 2 &&& 858993459)
def bc3 (x : Int32) : Int32 := (x + us x 4) &&& 252645135
def bc4 (x : Int32) : Int32 := x + us x 8
def bc5 (x : Int32) : Int32 := x + us x 16
def jb_cnt (x : Int32) : Int32 := bc5 (bc4 (bc3 (bc2 (bc1 x)))) &&& 63
set_option maxHeartbeats 4000000 in
set_option maxRecDepth 100000 in
/-- Integer.bitCount -/
theorem c_JI_bitCount (l : Launch) (D : va_G) (N0 : Nat) (k : Nat → Nat) (V : HV) (x : Int32) : Met l y_JI_bitCount (.code y_JI_bitCount b_JI_bitCount 1 (some .int) :: WS) ({ frames := 0, cells := 0, slots := 0, locals := 0 }) (mP D N0 k [.int x] V) (va_Qi (fun r V' => r = jb_cnt x ∧ V' = V) (mB D N0) (hA N0)) 0 0 (hA N0) := by
  refine Met.ofW (cc := b_JI_bitCount) (maxL := 1) (ret := (some .int)) (by decide) rfl ?_
  intro p e s m args below meth c s₁ B hml hv0
  obtain ⟨rfl, hG, hV⟩ := hv0
  have hx := B.exec
  have hb := B.bytes
  have hr := B.returns
  have hts := atoms_spec (ws := .code y_JI_bitCount b_JI_bitCount 1 (some .int) :: WS) B.pre
  have hW : ∀ w ∈ WS, w.before _ s = true := fun w h => hts w (List.mem_cons_of_mem _ h)
  have hown : s.vm.findClass "java/lang/Integer" = some m.cls := findClass_of_methodNamed B.named
  have hlocks := B.notSynchronized
  have hS : va_S (hA N0) s.heap s.heap [] := va_S.rf
  have hl := lv_entry ([.int x]) (n := 1) (Nat.le_of_ble_eq_true rfl)
  rw [lg_entry_eq]
  generalize (lg_sl ([.int x]) ++ List.replicate (1 - (lg_sl ([.int x])).length) Slot.unset).toArray = ls at hl ⊢
  have hl : lv_has ls 1 [(0, .int x)] := hl
  refine lv_iload_n hx hb d_JI_bitCount_0 rfl (lv_at hl 0 rfl) ?_
  refine lv_iload_n hx hb d_JI_bitCount_1 rfl (lv_at hl 0 rfl) ?_
  refine lv_iconst (v := 1) hx hb d_JI_bitCount_2 (by decide) ?_
  refine lv_iushr hx hb d_JI_bitCount_3 rfl ?_
  refine lv_ldcw (v := 1431655765) hx hb hown (hW _ wq_JI_265) d_JI_bitCount_4 ?_
  refine lv_iand hx hb d_JI_bitCount_7 ?_
  refine lv_isub hx hb d_JI_bitCount_8 ?_
  refine lv_topi (fun z_1 ez_1 => ?_)
  refine lv_istore_n (lv' := [(0, .int z_1)]) hx hb d_JI_bitCount_9 rfl hl (by decide) rfl (fun ls hl => ?_)
  refine lv_iload_n hx hb d_JI_bitCount_10 rfl (lv_at hl 0 rfl) ?_
  refine lv_ldcw (v := 858993459) hx hb hown (hW _ wq_JI_266) d_JI_bitCount_11 ?_
  refine lv_iand hx hb d_JI_bitCount_14 ?_
  refine lv_iload_n hx hb d_JI_bitCount_15 rfl (lv_at hl 0 rfl) ?_
  refine lv_iconst (v := 2) hx hb d_JI_bitCount_16 (by decide) ?_
  refine lv_iushr hx hb d_JI_bitCount_17 rfl ?_
  refine lv_ldcw (v := 858993459) hx hb hown (hW _ wq_JI_266) d_JI_bitCount_18 ?_
  refine lv_iand hx hb d_JI_bitCount_21 ?_
  refine lv_iadd hx hb d_JI_bitCount_22 ?_
  refine lv_topi (fun z_2 ez_2 => ?_)
  refine lv_istore_n (lv' := [(0, .int z_2)]) hx hb d_JI_bitCount_23 rfl hl (by decide) rfl (fun ls hl => ?_)
  refine lv_iload_n hx hb d_JI_bitCount_24 rfl (lv_at hl 0 rfl) ?_
  refine lv_iload_n hx hb d_JI_bitCount_25 rfl (lv_at hl 0 rfl) ?_
  refine lv_iconst (v := 4) hx hb d_JI_bitCount_26 (by decide) ?_
  refine lv_iushr hx hb d_JI_bitCount_27 rfl ?_
  refine lv_iadd hx hb d_JI_bitCount_28 ?_
  refine lv_ldcw (v := 252645135) hx hb hown (hW _ wq_JI_267) d_JI_bitCount_29 ?_
  refine lv_iand hx hb d_JI_bitCount_32 ?_
  refine lv_topi (fun z_3 ez_3 => ?_)
  refine lv_istore_n (lv' := [(0, .int z_3)]) hx hb d_JI_bitCount_33 rfl hl (by decide) rfl (fun ls hl => ?_)
  refine lv_iload_n hx hb d_JI_bitCount_34 rfl (lv_at hl 0 rfl) ?_
  refine lv_iload_n hx hb d_JI_bitCount_35 rfl (lv_at hl 0 rfl) ?_
  refine lv_bipush (v := 8) hx hb d_JI_bitCount_36 (by decide) ?_
  refine lv_iushr hx hb d_JI_bitCount_38 rfl ?_
  refine lv_iadd hx hb d_JI_bitCount_39 ?_
  refine lv_topi (fun z_4 ez_4 => ?_)
  refine lv_istore_n (lv' := [(0, .int z_4)]) hx hb d_JI_bitCount_40 rfl hl (by decide) rfl (fun ls hl => ?_)
  refine lv_iload_n hx hb d_JI_bitCount_41 rfl (lv_at hl 0 rfl) ?_
  refine lv_iload_n hx hb d_JI_bitCount_42 rfl (lv_at hl 0 rfl) ?_
  refine lv_bipush (v := 16) hx hb d_JI_bitCount_43 (by decide) ?_
  refine lv_iushr hx hb d_JI_bitCount_45 rfl ?_
  refine lv_iadd hx hb d_JI_bitCount_46 ?_
  refine lv_topi (fun z_5 ez_5 => ?_)
  refine lv_istore_n (lv' := [(0, .int z_5)]) hx hb d_JI_bitCount_47 rfl hl (by decide) rfl (fun ls hl => ?_)
  refine lv_iload_n hx hb d_JI_bitCount_48 rfl (lv_at hl 0 rfl) ?_
  refine lv_bipush (v := 63) hx hb d_JI_bitCount_49 (by decide) ?_
  refine lv_iand hx hb d_JI_bitCount_51 ?_
  refine lv_topi (fun r_6 er_6 => ?_)
  have hz_1 : z_1 = bc1 x := ez_1
  have hz_2 : z_2 = bc2 z_1 := ez_2
  have hz_3 : z_3 = bc3 z_2 := ez_3
  have hz_4 : z_4 = bc4 z_3 := ez_4
  have hz_5 : z_5 = bc5 z_4 := ez_5
  exact W.iret (v := r_6) hx hb hr (fun t ht hW => ⟨⟨r_6, V, rfl, ⟨by rw [er_6, hz_5, hz_4, hz_3, hz_2, hz_1]; rfl, rfl⟩, mB_of ht hV⟩, hS.F ht⟩) hS.2.2 d_JI_bitCount_52
set_option maxHeartbeats 4000000 in
set_option maxRecDepth 100000 in
/-- size -/
theorem c_Sh_size (l : Launch) (D : va_G) (N0 : Nat) (k : Nat → Nat) (V : HV) (sh ra : Nat) (f : Nat → Int32) (h_sh : V sh = some (eSh ra)) (h_ra : V ra = some (eI k 24 f)) : Met l y_Sh_size (.code y_Sh_size b_Sh_size 6 (some .int) :: WS) ({ frames := 1, cells := 0, slots := 0, locals := 20 }) (mP D N0 k [.ref sh] V) (va_Qi (fun q V' => q = szF (fun j => jb_cnt (f j)) 0 24 ∧ V' = V) (mB D N0) (hA N0)) 0 0 (hA N0) := by
  refine Met.ofW (cc := b_Sh_size) (maxL := 6) (ret := (some .int)) (by decide) rfl ?_
  intro p e s m args below meth c s₁ B hml hv0
  obtain ⟨rfl, hG, hV⟩ := hv0
  have hx := B.exec
  have hb := B.bytes
  have hr := B.returns
  have hts := atoms_spec (ws := .code y_Sh_size b_Sh_size 6 (some .int) :: WS) B.pre
  have hW : ∀ w ∈ WS, w.before _ s = true := fun w h => hts w (List.mem_cons_of_mem _ h)
  have hown : s.vm.findClass "BoardHouse$Sheet" = some m.cls := findClass_of_methodNamed B.named
  have hlocks := B.notSynchronized
  have hS : va_S (hA N0) s.heap s.heap [] := va_S.rf
  have hl := lv_entry ([.ref sh]) (n := 6) (Nat.le_of_ble_eq_true rfl)
  rw [lg_entry_eq]
  generalize (lg_sl ([.ref sh]) ++ List.replicate (6 - (lg_sl ([.ref sh])).length) Slot.unset).toArray = ls at hl ⊢
  have hl : lv_has ls 6 [(0, .ref sh)] := hl
  refine lv_iconst (v := 0) hx hb d_Sh_size_0 (by decide) ?_
  refine lv_istore_n (lv' := [(1, .int 0), (0, .ref sh)]) hx hb d_Sh_size_1 rfl hl (by decide) rfl (fun ls hl => ?_)
  refine lv_aload_n hx hb d_Sh_size_2 rfl (lv_at hl 1 rfl) ?_
  refine gf_Sh_9 hx hb hW hown hG hV h_sh d_Sh_size_3 ?_
  refine lv_astore_n (lv' := [(2, .ref ra), (1, .int 0), (0, .ref sh)]) hx hb d_Sh_size_6 rfl hl (by decide) rfl (fun ls hl => ?_)
  refine lv_aload_n hx hb d_Sh_size_7 rfl (lv_at hl 0 rfl) ?_
  refine hv_alen hx hb hG.K hV 0 h_ra rfl (v := nI 24) rfl d_Sh_size_8 ?_
  refine lv_istore_n (lv' := [(3, .int (nI 24)), (2, .ref ra), (1, .int 0), (0, .ref sh)]) hx hb d_Sh_size_9 rfl hl (by decide) rfl (fun ls hl => ?_)
  refine lv_iconst (v := 0) hx hb d_Sh_size_10 (by decide) ?_
  refine lv_istore (lv' := [(4, .int 0), (3, .int (nI 24)), (2, .ref ra), (1, .int 0), (0, .ref sh)]) hx hb d_Sh_size_11 hl (by decide) rfl (fun ls hl => ?_)
  have loop_1 : ∀ (n i : Nat) (a1 : Int32) (H : Heap) (locs : List Loc) (ls : Array Slot), i ≤ 24 → 24 + 1 ≤ i + n → (a1 + szF (fun j => jb_cnt (f j)) i (24 - i) = szF (fun j => jb_cnt (f j)) 0 24) → hv D vwCl N0 V H → va_S (hA N0) s.heap H locs → lv_has ls 6 [(4, .int (nI i)), (3, .int (nI 24)), (2, .ref ra), (1, .int a1), (0, .ref sh)] → W p l e (headSpec (.code y_Sh_size b_Sh_size 6 (some .int) :: WS) ({ frames := 1, cells := 0, slots := 0, locals := 20 })).room s m #[.ref sh] below meth c H locs 0 0 (MQ below (va_Qi (fun q V' => q = szF (fun j => jb_cnt (f j)) 0 24 ∧ V' = V) (mB D N0) (hA N0)) #[.ref sh] s 0 0 (hA N0)) (F0 m 13 ls []) := by
    intro n
    induction n with
    | zero => intro i a1 H locs ls h1 h2; exact absurd h2 (by omega)
    | succ n ih =>
      intro i a1 H locs ls hi hin hI hV hS hl
      refine lv_iload hx hb d_Sh_size_13 (lv_at hl 0 rfl) ?_
      refine lv_iload_n hx hb d_Sh_size_15 rfl (lv_at hl 1 rfl) ?_
      refine lv_icmp_ge (tgt := 39) hx hb d_Sh_size_16 (by decide) (fun c_2 => ?_) (fun c_2 => ?_)
      · have hge : 24 ≤ i := nI_le' c_2 (by omega) (by omega)
        refine lv_iload_n hx hb d_Sh_size_39 rfl (lv_at hl 3 rfl) ?_
        exact W.iret (v := a1) hx hb hr (fun t ht hW => ⟨⟨a1, V, rfl, ⟨by rw [szF_end hge] at hI; rw [← hI]; simp, rfl⟩, mB_of ht hV⟩, hS.F ht⟩) hS.2.2 d_Sh_size_40
      · have hlt : i < 24 := nI_nle' c_2 (by omega) (by omega)
        refine lv_aload_n hx hb d_Sh_size_19 rfl (lv_at hl 2 rfl) ?_
        refine lv_iload hx hb d_Sh_size_20 (lv_at hl 0 rfl) ?_
        refine hv_iald hx hb hG.K hV 0 h_ra rfl (vp_in_nI (by omega) (by omega)) d_Sh_size_22 ?_
        rw [nI_clamp (by omega)]
        refine lv_istore (lv' := [(5, .int (f i)), (4, .int (nI i)), (3, .int (nI 24)), (2, .ref ra), (1, .int a1), (0, .ref sh)]) hx hb d_Sh_size_23 hl (by decide) rfl (fun ls hl => ?_)
        refine lv_iload_n hx hb d_Sh_size_25 rfl (lv_at hl 4 rfl) ?_
        refine lv_iload hx hb d_Sh_size_26 (lv_at hl 0 rfl) ?_
        refine rc_i (va_runS (As := [.int (f i)]) (rest := [.int a1]) ⟨hx, hb, hml, hown, hts⟩ (c_JI_bitCount l D N0 k V (f i)) (va_cwS 1 hts (gi_S wm_Sh_45 wt_JI_bitCount wi_JI wc_JI_bitCount) rfl rfl rfl (by decide +kernel) ⟨Nat.le_of_ble_eq_true rfl, Nat.le_of_ble_eq_true rfl⟩) (mP.preS hG hS hV) rfl rfl hl.1 rfl (lv_room (Nat.le_of_ble_eq_true rfl)) d_Sh_size_28 ⟨Nat.le_of_ble_eq_true rfl, Nat.le_of_ble_eq_true rfl⟩) hS (fun H locs hV hS => ?_)
        refine lv_iadd hx hb d_Sh_size_31 ?_
        refine lv_istore_n (lv' := [(1, .int (a1 + (jb_cnt (f i)))), (5, .int (f i)), (4, .int (nI i)), (3, .int (nI 24)), (2, .ref ra), (0, .ref sh)]) hx hb d_Sh_size_32 rfl hl (by decide) rfl (fun ls hl => ?_)
        obtain ⟨i_3, ei_3⟩ : ∃ y : Int32, y = (nI i) + 1 := ⟨_, rfl⟩
        refine lv_iinc (v := i_3) (lv' := [(4, .int i_3), (1, .int (a1 + (jb_cnt (f i)))), (5, .int (f i)), (3, .int (nI 24)), (2, .ref ra), (0, .ref sh)]) hx hb d_Sh_size_33 hl (k := 2) rfl (by rw [ei_3]; rfl) (by decide) rfl (fun ls hl => ?_)
        refine lv_goto (tgt := 13) hx hb d_Sh_size_36 (by decide) ?_
        rw [nI_1] at ei_3
        subst ei_3
        exact ih (i + 1) (a1 + (jb_cnt (f i))) _ _ _ (by omega) (by omega) (by rw [← hI, szF_step hlt]; exact Int32.add_assoc _ _ _) hV hS (lv_sub hl [0, 3, 4, 1, 5] rfl)
  exact loop_1 (24 + 1 - 0) 0 0 _ _ _ (by omega) (by omega) (by simp) hV hS (lv_sub hl [0, 1, 2, 3, 4] rfl)
set_option maxHeartbeats 4000000 in
set_option maxRecDepth 100000 in
/-- Sh_add -/
theorem c_Sh_add (l : Launch) (D : va_G) (N0 : Nat) (k : Nat → Nat) (V : HV) (sh ra : Nat) (f : Nat → Int32) (h_sh : V sh = some (eSh ra)) (h_ra : V ra = some (eI k 24 f)) (a : Nat) (x y u v : Int32) (h_a : V a = some (eAr x y u v)) : Met l y_Sh_add (.code y_Sh_add b_Sh_add 4 none :: WS) ({ frames := 2, cells := 0, slots := 0, locals := 47 }) (mP D N0 k [.ref sh, .ref a] V) (va_Qv (fun V' => ∃ g, V' = hu V ra (eI k 24 g) ∧ ∀ j, j < 24 → g j = if y ≤ nI j ∧ nI j ≤ v then f j ||| sh_bits x u else f j) (mB D N0) (hA N0)) 0 0 (hA N0) := by
  refine Met.ofW (cc := b_Sh_add) (maxL := 4) (ret := none) (by decide) rfl ?_
  intro p e s m args below meth c s₁ B hml hv0
  obtain ⟨rfl, hG, hV⟩ := hv0
  have hx := B.exec
  have hb := B.bytes
  have hr := B.returns
  have hts := atoms_spec (ws := .code y_Sh_add b_Sh_add 4 none :: WS) B.pre
  have hW : ∀ w ∈ WS, w.before _ s = true := fun w h => hts w (List.mem_cons_of_mem _ h)
  have hown : s.vm.findClass "BoardHouse$Sheet" = some m.cls := findClass_of_methodNamed B.named
  have hlocks := B.notSynchronized
  have hS : va_S (hA N0) s.heap s.heap [] := va_S.rf
  have hl := lv_entry ([.ref sh, .ref a]) (n := 4) (Nat.le_of_ble_eq_true rfl)
  rw [lg_entry_eq]
  generalize (lg_sl ([.ref sh, .ref a]) ++ List.replicate (4 - (lg_sl ([.ref sh, .ref a])).length) Slot.unset).toArray = ls at hl ⊢
  have hl : lv_has ls 4 [(0, .ref sh), (1, .ref a)] := hl
  refine lv_aload_n hx hb d_Sh_add_0 rfl (lv_at hl 1 rfl) ?_
  refine gf_Sh_21 hx hb hW hown hG hV h_a d_Sh_add_1 ?_
  refine lv_aload_n hx hb d_Sh_add_4 rfl (lv_at hl 1 rfl) ?_
  refine gf_Sh_27 hx hb hW hown hG hV h_a d_Sh_add_5 ?_
  refine rc_i (va_runS (As := [.int x, .int u]) (rest := []) ⟨hx, hb, hml, hown, hts⟩ (c_Sh_bits l D N0 k V x u) (va_cwS 2 hts (gi_S wm_Sh_30 wt_Sh_bits wi_Sh wc_Sh_bits) rfl rfl rfl (by decide +kernel) ⟨Nat.le_of_ble_eq_true rfl, Nat.le_of_ble_eq_true rfl⟩) (mP.preS hG hS hV) rfl rfl hl.1 rfl (lv_room (Nat.le_of_ble_eq_true rfl)) d_Sh_add_8 ⟨Nat.le_of_ble_eq_true rfl, Nat.le_of_ble_eq_true rfl⟩) hS (fun H locs hV hS => ?_)
  refine lv_istore_n (lv' := [(2, .int (sh_bits x u)), (0, .ref sh), (1, .ref a)]) hx hb d_Sh_add_11 rfl hl (by decide) rfl (fun ls hl => ?_)
  refine lv_iconst (v := 0) hx hb d_Sh_add_12 (by decide) ?_
  refine lv_aload_n hx hb d_Sh_add_13 rfl (lv_at hl 2 rfl) ?_
  refine gf_Sh_34 hx hb hW hown hG hV h_a d_Sh_add_14 ?_
  refine va_mmax hx hb (by rw [hml, hl.1]) hown (hW _ wm_Sh_37) (hW _ wt_JM_max) (hW _ wi_JM) (hW _ wc_JM_max) (Nat.le_of_ble_eq_true rfl) (Nat.le_of_ble_eq_true rfl) (Nat.le_of_ble_eq_true rfl) (Nat.le_of_ble_eq_true rfl) d_Sh_add_17 ?_
  refine lv_topi (fun z_1 ez_1 => ?_)
  refine lv_istore_n (lv' := [(3, .int z_1), (2, .int (sh_bits x u)), (0, .ref sh), (1, .ref a)]) hx hb d_Sh_add_20 rfl hl (by decide) rfl (fun ls hl => ?_)
  obtain ⟨a0, ha0, ea0, hle0⟩ := sh_from_nat y
  have hz0 : z_1 = nI a0 := (show z_1 = sh_from y from ez_1).trans ea0
  clear ez_1
  subst hz0
  rw [← hu_self h_ra] at hV
  have loop_2 : ∀ (n i : Nat) (g : Nat → Int32)  (H : Heap) (locs : List Loc) (ls : Array Slot), i ≤ (max a0 24) → (max a0 24) + 1 ≤ i + n → (rg f (fun j => f j ||| sh_bits x u) g a0 i v) → hv D vwCl N0 (hu V ra (eI k 24 g)) H → va_S (hA N0) s.heap H locs → lv_has ls 4 [(3, .int (nI i)), (2, .int (sh_bits x u)), (0, .ref sh), (1, .ref a)] → W p l e (headSpec (.code y_Sh_add b_Sh_add 4 none :: WS) ({ frames := 2, cells := 0, slots := 0, locals := 47 })).room s m #[.ref sh, .ref a] below meth c H locs 0 0 (MQ below (va_Qv (fun V' => ∃ g, V' = hu V ra (eI k 24 g) ∧ ∀ j, j < 24 → g j = if y ≤ nI j ∧ nI j ≤ v then f j ||| sh_bits x u else f j) (mB D N0) (hA N0)) #[.ref sh, .ref a] s 0 0 (hA N0)) (F0 m 21 ls []) := by
    intro n
    induction n with
    | zero => intro i g H locs ls h1 h2; exact absurd h2 (by omega)
    | succ n ih =>
      intro i g H locs ls hi hin hI hV hS hl
      have hw1_sh : (hu V ra (eI k 24 g)) sh = some (.inr (3, [.ref ra])) := hu_o h_ra h_sh (by simp)
      have hw2_a : (hu V ra (eI k 24 g)) a = some (.inr (1, [.int x, .int y, .int u, .int v])) := hu_o h_ra h_a (by simp)
      refine lv_iload_n hx hb d_Sh_add_21 rfl (lv_at hl 0 rfl) ?_
      refine lv_aload_n hx hb d_Sh_add_22 rfl (lv_at hl 3 rfl) ?_
      refine gf_Sh_42 hx hb hW hown hG hV hw2_a d_Sh_add_23 ?_
      refine lv_icmp_gt (tgt := 51) hx hb d_Sh_add_26 (by decide) (fun c_3 => ?_) (fun c_3 => ?_)
      · have c_3 := i_nle c_3
        have hexit : ¬ nI i ≤ v ∨ 24 ≤ i := Or.inl c_3
        exact W.vret hx hb hr (fun t ht hW => ⟨⟨(hu V ra (eI k 24 g)), rfl, ⟨g, rfl, rg_e hI hle0 (by omega) hexit⟩, mB_of ht hV⟩, hS.F ht⟩) hS.2.2 d_Sh_add_51
      · have c_3 := i_le c_3
        have hle : nI i ≤ v := c_3
        refine lv_iload_n hx hb d_Sh_add_29 rfl (lv_at hl 0 rfl) ?_
        refine lv_bipush (v := 24) hx hb d_Sh_add_30 (by decide) ?_
        refine lv_icmp_ge (tgt := 51) hx hb d_Sh_add_32 (by decide) (fun c_4 => ?_) (fun c_4 => ?_)
        · have hexit : ¬ nI i ≤ v ∨ 24 ≤ i := Or.inr (nI_le' (a := 24) c_4 (by decide) (by omega))
          exact W.vret hx hb hr (fun t ht hW => ⟨⟨(hu V ra (eI k 24 g)), rfl, ⟨g, rfl, rg_e hI hle0 (by omega) hexit⟩, mB_of ht hV⟩, hS.F ht⟩) hS.2.2 d_Sh_add_51
        · have hlt : i < 24 := nI_nle' (a := 24) c_4 (by decide) (by omega)
          refine lv_aload_n hx hb d_Sh_add_35 rfl (lv_at hl 2 rfl) ?_
          refine gf_Sh_9 hx hb hW hown hG hV hw1_sh d_Sh_add_36 ?_
          refine lv_iload_n hx hb d_Sh_add_39 rfl (lv_at hl 0 rfl) ?_
          refine lv_dup2_11 hx hb d_Sh_add_40 rfl rfl ?_
          refine hv_iald hx hb hG.K hV 0 hu_s rfl (vp_in_nI (by omega) (by omega)) d_Sh_add_41 ?_
          rw [nI_clamp (by omega)]
          refine lv_iload_n hx hb d_Sh_add_42 rfl (lv_at hl 1 rfl) ?_
          refine lv_ior hx hb d_Sh_add_43 ?_
          refine hv_iast hx hb hG.K hV hS 0 hu_s rfl (vp_in_nI (by omega) (by omega)) d_Sh_add_44 (fun H locs hV hS => ?_)
          rw [nI_clamp (by omega)] at hV
          replace hV : hv D vwCl N0 (hu (hu V ra (eI k 24 g)) ra (.inl (k 0, 24, .inl (upd g i ((g i) ||| (sh_bits x u)))))) H := hV
          generalize hV_V_5 : hu (hu V ra (eI k 24 g)) ra (.inl (k 0, 24, .inl (upd g i ((g i) ||| (sh_bits x u))))) = V_5 at hV
          have hw1_sh'V_5 : V_5 sh = some (.inr (3, [.ref ra])) := by rw [← hV_V_5]; exact hu_o hu_s hw1_sh (by simp)
          have hw2_a'V_5 : V_5 a = some (.inr (1, [.int x, .int y, .int u, .int v])) := by rw [← hV_V_5]; exact hu_o hu_s hw2_a (by simp)
          have hra'V_5 : V_5 ra = some (.inl (k 0, 24, .inl (upd g i ((g i) ||| (sh_bits x u))))) := by rw [← hV_V_5]; exact hu_s
          obtain ⟨i_6, ei_6⟩ : ∃ y : Int32, y = (nI i) + 1 := ⟨_, rfl⟩
          refine lv_iinc (v := i_6) (lv' := [(3, .int i_6), (2, .int (sh_bits x u)), (0, .ref sh), (1, .ref a)]) hx hb d_Sh_add_45 hl (k := 0) rfl (by rw [ei_6]; rfl) (by decide) rfl (fun ls hl => ?_)
          refine lv_goto (tgt := 21) hx hb d_Sh_add_48 (by decide) ?_
          rw [nI_1] at ei_6
          subst ei_6
          rw [← hV_V_5, hu_u] at hV
          exact ih (i + 1) (upd g i ((g i) ||| (sh_bits x u)))  _ _ _ (by omega) (by omega) (rg_s hI hlt hle (fun q9 => by rw [← q9])) hV hS (lv_sub hl [0, 1, 2, 3] rfl)
  exact loop_2 ((max a0 24) + 1 - a0) a0 f  _ _ _ (by omega) (by omega) rg_0 hV hS (lv_sub hl [0, 1, 2, 3] rfl)
set_option maxHeartbeats 4000000 in
set_option maxRecDepth 100000 in
/-- Sh_removeWithin -/
theorem c_Sh_removeWithin (l : Launch) (D : va_G) (N0 : Nat) (k : Nat → Nat) (V : HV) (sh ra : Nat) (f : Nat → Int32) (h_sh : V sh = some (eSh ra)) (h_ra : V ra = some (eI k 24 f)) (a : Nat) (x y u v : Int32) (h_a : V a = some (eAr x y u v)) (g0 : Int32) : Met l y_Sh_removeWithin (.code y_Sh_removeWithin b_Sh_removeWithin 5 none :: WS) ({ frames := 2, cells := 0, slots := 0, locals := 47 }) (mP D N0 k [.ref sh, .ref a, .int g0] V) (va_Qv (fun V' => ∃ g, V' = hu V ra (eI k 24 g) ∧ ∀ j, j < 24 → g j = if (y - g0) ≤ nI j ∧ nI j ≤ (v + g0) then f j &&& (sh_bits (x - g0) (u + g0) ^^^ (-1)) else f j) (mB D N0) (hA N0)) 0 0 (hA N0) := by
  refine Met.ofW (cc := b_Sh_removeWithin) (maxL := 5) (ret := none) (by decide) rfl ?_
  intro p e s m args below meth c s₁ B hml hv0
  obtain ⟨rfl, hG, hV⟩ := hv0
  have hx := B.exec
  have hb := B.bytes
  have hr := B.returns
  have hts := atoms_spec (ws := .code y_Sh_removeWithin b_Sh_removeWithin 5 none :: WS) B.pre
  have hW : ∀ w ∈ WS, w.before _ s = true := fun w h => hts w (List.mem_cons_of_mem _ h)
  have hown : s.vm.findClass "BoardHouse$Sheet" = some m.cls := findClass_of_methodNamed B.named
  have hlocks := B.notSynchronized
  have hS : va_S (hA N0) s.heap s.heap [] := va_S.rf
  have hl := lv_entry ([.ref sh, .ref a, .int g0]) (n := 5) (Nat.le_of_ble_eq_true rfl)
  rw [lg_entry_eq]
  generalize (lg_sl ([.ref sh, .ref a, .int g0]) ++ List.replicate (5 - (lg_sl ([.ref sh, .ref a, .int g0])).length) Slot.unset).toArray = ls at hl ⊢
  have hl : lv_has ls 5 [(0, .ref sh), (1, .ref a), (2, .int g0)] := hl
  refine lv_aload_n hx hb d_Sh_removeWithin_0 rfl (lv_at hl 1 rfl) ?_
  refine gf_Sh_21 hx hb hW hown hG hV h_a d_Sh_removeWithin_1 ?_
  refine lv_iload_n hx hb d_Sh_removeWithin_4 rfl (lv_at hl 2 rfl) ?_
  refine lv_isub hx hb d_Sh_removeWithin_5 ?_
  refine lv_aload_n hx hb d_Sh_removeWithin_6 rfl (lv_at hl 1 rfl) ?_
  refine gf_Sh_27 hx hb hW hown hG hV h_a d_Sh_removeWithin_7 ?_
  refine lv_iload_n hx hb d_Sh_removeWithin_10 rfl (lv_at hl 2 rfl) ?_
  refine lv_iadd hx hb d_Sh_removeWithin_11 ?_
  refine rc_i (va_runS (As := [.int (x - g0), .int (u + g0)]) (rest := []) ⟨hx, hb, hml, hown, hts⟩ (c_Sh_bits l D N0 k V (x - g0) (u + g0)) (va_cwS 2 hts (gi_S wm_Sh_30 wt_Sh_bits wi_Sh wc_Sh_bits) rfl rfl rfl (by decide +kernel) ⟨Nat.le_of_ble_eq_true rfl, Nat.le_of_ble_eq_true rfl⟩) (mP.preS hG hS hV) rfl rfl hl.1 rfl (lv_room (Nat.le_of_ble_eq_true rfl)) d_Sh_removeWithin_12 ⟨Nat.le_of_ble_eq_true rfl, Nat.le_of_ble_eq_true rfl⟩) hS (fun H locs hV hS => ?_)
  refine lv_istore_n (lv' := [(3, .int (sh_bits (x - g0) (u + g0))), (0, .ref sh), (1, .ref a), (2, .int g0)]) hx hb d_Sh_removeWithin_15 rfl hl (by decide) rfl (fun ls hl => ?_)
  refine lv_iconst (v := 0) hx hb d_Sh_removeWithin_16 (by decide) ?_
  refine lv_aload_n hx hb d_Sh_removeWithin_17 rfl (lv_at hl 2 rfl) ?_
  refine gf_Sh_34 hx hb hW hown hG hV h_a d_Sh_removeWithin_18 ?_
  refine lv_iload_n hx hb d_Sh_removeWithin_21 rfl (lv_at hl 3 rfl) ?_
  refine lv_isub hx hb d_Sh_removeWithin_22 ?_
  refine va_mmax hx hb (by rw [hml, hl.1]) hown (hW _ wm_Sh_37) (hW _ wt_JM_max) (hW _ wi_JM) (hW _ wc_JM_max) (Nat.le_of_ble_eq_true rfl) (Nat.le_of_ble_eq_true rfl) (Nat.le_of_ble_eq_true rfl) (Nat.le_of_ble_eq_true rfl) d_Sh_removeWithin_23 ?_
  refine lv_topi (fun z_1 ez_1 => ?_)
  refine lv_istore (lv' := [(4, .int z_1), (3, .int (sh_bits (x - g0) (u + g0))), (0, .ref sh), (1, .ref a), (2, .int g0)]) hx hb d_Sh_removeWithin_26 hl (by decide) rfl (fun ls hl => ?_)
  obtain ⟨a0, ha0, ea0, hle0⟩ := sh_from_nat (y - g0)
  have hz0 : z_1 = nI a0 := (show z_1 = sh_from (y - g0) from ez_1).trans ea0
  clear ez_1
  subst hz0
  rw [← hu_self h_ra] at hV
  have loop_2 : ∀ (n i : Nat) (g : Nat → Int32)  (H : Heap) (locs : List Loc) (ls : Array Slot), i ≤ (max a0 24) → (max a0 24) + 1 ≤ i + n → (rg f (fun j => f j &&& (sh_bits (x - g0) (u + g0) ^^^ (-1))) g a0 i (v + g0)) → hv D vwCl N0 (hu V ra (eI k 24 g)) H → va_S (hA N0) s.heap H locs → lv_has ls 5 [(4, .int (nI i)), (3, .int (sh_bits (x - g0) (u + g0))), (0, .ref sh), (1, .ref a), (2, .int g0)] → W p l e (headSpec (.code y_Sh_removeWithin b_Sh_removeWithin 5 none :: WS) ({ frames := 2, cells := 0, slots := 0, locals := 47 })).room s m #[.ref sh, .ref a, .int g0] below meth c H locs 0 0 (MQ below (va_Qv (fun V' => ∃ g, V' = hu V ra (eI k 24 g) ∧ ∀ j, j < 24 → g j = if (y - g0) ≤ nI j ∧ nI j ≤ (v + g0) then f j &&& (sh_bits (x - g0) (u + g0) ^^^ (-1)) else f j) (mB D N0) (hA N0)) #[.ref sh, .ref a, .int g0] s 0 0 (hA N0)) (F0 m 28 ls []) := by
    intro n
    induction n with
    | zero => intro i g H locs ls h1 h2; exact absurd h2 (by omega)
    | succ n ih =>
      intro i g H locs ls hi hin hI hV hS hl
      have hw1_sh : (hu V ra (eI k 24 g)) sh = some (.inr (3, [.ref ra])) := hu_o h_ra h_sh (by simp)
      have hw2_a : (hu V ra (eI k 24 g)) a = some (.inr (1, [.int x, .int y, .int u, .int v])) := hu_o h_ra h_a (by simp)
      refine lv_iload hx hb d_Sh_removeWithin_28 (lv_at hl 0 rfl) ?_
      refine lv_aload_n hx hb d_Sh_removeWithin_30 rfl (lv_at hl 3 rfl) ?_
      refine gf_Sh_42 hx hb hW hown hG hV hw2_a d_Sh_removeWithin_31 ?_
      refine lv_iload_n hx hb d_Sh_removeWithin_34 rfl (lv_at hl 4 rfl) ?_
      refine lv_iadd hx hb d_Sh_removeWithin_35 ?_
      refine lv_icmp_gt (tgt := 65) hx hb d_Sh_removeWithin_36 (by decide) (fun c_3 => ?_) (fun c_3 => ?_)
      · have c_3 := i_nle c_3
        have hexit : ¬ nI i ≤ (v + g0) ∨ 24 ≤ i := Or.inl c_3
        exact W.vret hx hb hr (fun t ht hW => ⟨⟨(hu V ra (eI k 24 g)), rfl, ⟨g, rfl, rg_e hI hle0 (by omega) hexit⟩, mB_of ht hV⟩, hS.F ht⟩) hS.2.2 d_Sh_removeWithin_65
      · have c_3 := i_le c_3
        have hle : nI i ≤ (v + g0) := c_3
        refine lv_iload hx hb d_Sh_removeWithin_39 (lv_at hl 0 rfl) ?_
        refine lv_bipush (v := 24) hx hb d_Sh_removeWithin_41 (by decide) ?_
        refine lv_icmp_ge (tgt := 65) hx hb d_Sh_removeWithin_43 (by decide) (fun c_4 => ?_) (fun c_4 => ?_)
        · have hexit : ¬ nI i ≤ (v + g0) ∨ 24 ≤ i := Or.inr (nI_le' (a := 24) c_4 (by decide) (by omega))
          exact W.vret hx hb hr (fun t ht hW => ⟨⟨(hu V ra (eI k 24 g)), rfl, ⟨g, rfl, rg_e hI hle0 (by omega) hexit⟩, mB_of ht hV⟩, hS.F ht⟩) hS.2.2 d_Sh_removeWithin_65
        · have hlt : i < 24 := nI_nle' (a := 24) c_4 (by decide) (by omega)
          refine lv_aload_n hx hb d_Sh_removeWithin_46 rfl (lv_at hl 2 rfl) ?_
          refine gf_Sh_9 hx hb hW hown hG hV hw1_sh d_Sh_removeWithin_47 ?_
          refine lv_iload hx hb d_Sh_removeWithin_50 (lv_at hl 0 rfl) ?_
          refine lv_dup2_11 hx hb d_Sh_removeWithin_52 rfl rfl ?_
          refine hv_iald hx hb hG.K hV 0 hu_s rfl (vp_in_nI (by omega) (by omega)) d_Sh_removeWithin_53 ?_
          rw [nI_clamp (by omega)]
          refine lv_iload_n hx hb d_Sh_removeWithin_54 rfl (lv_at hl 1 rfl) ?_
          refine lv_iconst (v := (-1)) hx hb d_Sh_removeWithin_55 (by decide) ?_
          refine lv_ixor hx hb d_Sh_removeWithin_56 ?_
          refine lv_iand hx hb d_Sh_removeWithin_57 ?_
          refine hv_iast hx hb hG.K hV hS 0 hu_s rfl (vp_in_nI (by omega) (by omega)) d_Sh_removeWithin_58 (fun H locs hV hS => ?_)
          rw [nI_clamp (by omega)] at hV
          replace hV : hv D vwCl N0 (hu (hu V ra (eI k 24 g)) ra (.inl (k 0, 24, .inl (upd g i ((g i) &&& ((sh_bits (x - g0) (u + g0)) ^^^ (-1))))))) H := hV
          generalize hV_V_5 : hu (hu V ra (eI k 24 g)) ra (.inl (k 0, 24, .inl (upd g i ((g i) &&& ((sh_bits (x - g0) (u + g0)) ^^^ (-1)))))) = V_5 at hV
          have hw1_sh'V_5 : V_5 sh = some (.inr (3, [.ref ra])) := by rw [← hV_V_5]; exact hu_o hu_s hw1_sh (by simp)
          have hw2_a'V_5 : V_5 a = some (.inr (1, [.int x, .int y, .int u, .int v])) := by rw [← hV_V_5]; exact hu_o hu_s hw2_a (by simp)
          have hra'V_5 : V_5 ra = some (.inl (k 0, 24, .inl (upd g i ((g i) &&& ((sh_bits (x - g0) (u + g0)) ^^^ (-1)))))) := by rw [← hV_V_5]; exact hu_s
          obtain ⟨i_6, ei_6⟩ : ∃ y : Int32, y = (nI i) + 1 := ⟨_, rfl⟩
          refine lv_iinc (v := i_6) (lv' := [(4, .int i_6), (3, .int (sh_bits (x - g0) (u + g0))), (0, .ref sh), (1, .ref a), (2, .int g0)]) hx hb d_Sh_removeWithin_59 hl (k := 0) rfl (by rw [ei_6]; rfl) (by decide) rfl (fun ls hl => ?_)
          refine lv_goto (tgt := 28) hx hb d_Sh_removeWithin_62 (by decide) ?_
          rw [nI_1] at ei_6
          subst ei_6
          rw [← hV_V_5, hu_u] at hV
          exact ih (i + 1) (upd g i ((g i) &&& ((sh_bits (x - g0) (u + g0)) ^^^ (-1))))  _ _ _ (by omega) (by omega) (rg_s hI hlt hle (fun q9 => by rw [← q9])) hV hS (lv_sub hl [0, 1, 2, 3, 4] rfl)
  exact loop_2 ((max a0 24) + 1 - a0) a0 f  _ _ _ (by omega) (by omega) rg_0 hV hS (lv_sub hl [0, 1, 2, 3, 4] rfl)
set_option maxHeartbeats 4000000 in
set_option maxRecDepth 100000 in
/-- hasFirstOf -/
theorem c_Sh_hasFirstOf (l : Launch) (D : va_G) (N0 : Nat) (k : Nat → Nat) (V : HV) (sh ra : Nat) (f : Nat → Int32) (h_sh : V sh = some (eSh ra)) (h_ra : V ra = some (eI k 24 f)) (a j0 : Nat) (x u v : Int32) (hj : j0 < 24) (h_a : V a = some (eAr x (nI j0) u v)) : Met l y_Sh_hasFirstOf (.code y_Sh_hasFirstOf b_Sh_hasFirstOf 3 (some .boolean) :: WS) ({ frames := 2, cells := 0, slots := 0, locals := 47 }) (mP D N0 k [.ref sh, .ref a] V) (va_Qi (fun q V' => q = bI (!decide (f j0 &&& sh_bits x x = 0)) ∧ V' = V) (mB D N0) (hA N0)) 0 0 (hA N0) := by
  refine Met.ofW (cc := b_Sh_hasFirstOf) (maxL := 3) (ret := (some .boolean)) (by decide) rfl ?_
  intro p e s m args below meth c s₁ B hml hv0
  obtain ⟨rfl, hG, hV⟩ := hv0
  have hx := B.exec
  have hb := B.bytes
  have hr := B.returns
  have hts := atoms_spec (ws := .code y_Sh_hasFirstOf b_Sh_hasFirstOf 3 (some .boolean) :: WS) B.pre
  have hW : ∀ w ∈ WS, w.before _ s = true := fun w h => hts w (List.mem_cons_of_mem _ h)
  have hown : s.vm.findClass "BoardHouse$Sheet" = some m.cls := findClass_of_methodNamed B.named
  have hlocks := B.notSynchronized
  have hS : va_S (hA N0) s.heap s.heap [] := va_S.rf
  have hl := lv_entry ([.ref sh, .ref a]) (n := 3) (Nat.le_of_ble_eq_true rfl)
  rw [lg_entry_eq]
  generalize (lg_sl ([.ref sh, .ref a]) ++ List.replicate (3 - (lg_sl ([.ref sh, .ref a])).length) Slot.unset).toArray = ls at hl ⊢
  have hl : lv_has ls 3 [(0, .ref sh), (1, .ref a)] := hl
  refine lv_aload_n hx hb d_Sh_hasFirstOf_0 rfl (lv_at hl 1 rfl) ?_
  refine gf_Sh_34 hx hb hW hown hG hV h_a d_Sh_hasFirstOf_1 ?_
  refine lv_istore_n (lv' := [(2, .int (nI j0)), (0, .ref sh), (1, .ref a)]) hx hb d_Sh_hasFirstOf_4 rfl hl (by decide) rfl (fun ls hl => ?_)
  refine lv_iload_n hx hb d_Sh_hasFirstOf_5 rfl (lv_at hl 0 rfl) ?_
  refine lv_if_lt (tgt := 40) hx hb d_Sh_hasFirstOf_6 (by decide) (fun c_1 => ?_) (fun c_1 => ?_)
  · have c_1 := i_nle c_1
    exact absurd (nI_pos' (by omega)) c_1
  · have c_1 := i_le c_1
    refine lv_iload_n hx hb d_Sh_hasFirstOf_9 rfl (lv_at hl 0 rfl) ?_
    refine lv_bipush (v := 24) hx hb d_Sh_hasFirstOf_10 (by decide) ?_
    refine lv_icmp_ge (tgt := 40) hx hb d_Sh_hasFirstOf_12 (by decide) (fun c_2 => ?_) (fun c_2 => ?_)
    · exact absurd (nI_le' (a := 24) (b := j0) c_2 (by decide) (by omega)) (by omega)
    · refine lv_aload_n hx hb d_Sh_hasFirstOf_15 rfl (lv_at hl 1 rfl) ?_
      refine gf_Sh_9 hx hb hW hown hG hV h_sh d_Sh_hasFirstOf_16 ?_
      refine lv_iload_n hx hb d_Sh_hasFirstOf_19 rfl (lv_at hl 0 rfl) ?_
      refine hv_iald hx hb hG.K hV 0 h_ra rfl (vp_in_nI (by omega) (by omega)) d_Sh_hasFirstOf_20 ?_
      rw [nI_clamp (by omega)]
      refine lv_aload_n hx hb d_Sh_hasFirstOf_21 rfl (lv_at hl 2 rfl) ?_
      refine gf_Sh_21 hx hb hW hown hG hV h_a d_Sh_hasFirstOf_22 ?_
      refine lv_aload_n hx hb d_Sh_hasFirstOf_25 rfl (lv_at hl 2 rfl) ?_
      refine gf_Sh_21 hx hb hW hown hG hV h_a d_Sh_hasFirstOf_26 ?_
      refine rc_i (va_runS (As := [.int x, .int x]) (rest := [.int (f j0)]) ⟨hx, hb, hml, hown, hts⟩ (c_Sh_bits l D N0 k V x x) (va_cwS 2 hts (gi_S wm_Sh_30 wt_Sh_bits wi_Sh wc_Sh_bits) rfl rfl rfl (by decide +kernel) ⟨Nat.le_of_ble_eq_true rfl, Nat.le_of_ble_eq_true rfl⟩) (mP.preS hG hS hV) rfl rfl hl.1 rfl (lv_room (Nat.le_of_ble_eq_true rfl)) d_Sh_hasFirstOf_29 ⟨Nat.le_of_ble_eq_true rfl, Nat.le_of_ble_eq_true rfl⟩) hS (fun H locs hV hS => ?_)
      refine lv_iand hx hb d_Sh_hasFirstOf_32 ?_
      refine lv_if_eq (tgt := 40) hx hb d_Sh_hasFirstOf_33 (by decide) (fun c_3 => ?_) (fun c_3 => ?_)
      · refine lv_iconst (v := 0) hx hb d_Sh_hasFirstOf_40 (by decide) ?_
        exact W.zret (v := 0) hx hb hr rfl (fun t ht hW => ⟨⟨0, V, rfl, ⟨by simp [bI, c_3], rfl⟩, mB_of ht hV⟩, hS.F ht⟩) hS.2.2 d_Sh_hasFirstOf_41
      · refine lv_iconst (v := 1) hx hb d_Sh_hasFirstOf_36 (by decide) ?_
        refine lv_goto (tgt := 41) hx hb d_Sh_hasFirstOf_37 (by decide) ?_
        exact W.zret (v := 1) hx hb hr rfl (fun t ht hW => ⟨⟨1, V, rfl, ⟨by simp [bI, c_3], rfl⟩, mB_of ht hV⟩, hS.F ht⟩) hS.2.2 d_Sh_hasFirstOf_41
