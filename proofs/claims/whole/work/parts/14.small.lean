/-! what the small classes' methods answer -/
def bI (b : Bool) : Int32 := if b then 1 else 0
theorem bI_t : bI true = 1 := rfl
theorem bI_f : bI false = 0 := rfl
abbrev eAr (x y u v : Int32) : va_E := .inr (1, [.int x, .int y, .int u, .int v])
def ar_holds (x y u v a b c d : Int32) : Bool := decide (x ≤ a) && decide (a ≤ c) && decide (c ≤ u) && decide (y ≤ b) && decide (b ≤ d) && decide (d ≤ v)
def ar_meets (x y u v a b c d : Int32) : Bool := decide (x ≤ c) && decide (a ≤ u) && decide (y ≤ d) && decide (b ≤ v)
def ar_near (x y u v a b c d g dx dy : Int32) : Bool := decide (x + dx ≤ c + g) && decide (a ≤ u + dx + g) && decide (y + dy ≤ d + g) && decide (b ≤ v + dy + g)
set_option maxHeartbeats 4000000 in
set_option maxRecDepth 100000 in
/-- Area(x, y, u, v) -/
theorem c_Ar_init (l : Launch) (D : va_G) (N0 : Nat) (k : Nat → Nat) (V : HV) (a : Nat) (x y u v f0 f1 f2 f3 : Int32) (h_a : V a = some (eAr f0 f1 f2 f3)) : Met l y_Ar_init (.code y_Ar_init b_Ar_init 5 none :: WS) ({ frames := 1, cells := 0, slots := 0, locals := 20 }) (mP D N0 k [.ref a, .int x, .int y, .int u, .int v] V) (va_Qv (fun V' => V' = hu V a (eAr x y u v)) (mB D N0) (hA N0)) 0 0 (hA N0) := by
  refine Met.ofW (cc := b_Ar_init) (maxL := 5) (ret := none) (by decide) rfl ?_
  intro p e s m args below meth c s₁ B hml hv0
  obtain ⟨rfl, hG, hV⟩ := hv0
  have hx := B.exec
  have hb := B.bytes
  have hr := B.returns
  have hts := atoms_spec (ws := .code y_Ar_init b_Ar_init 5 none :: WS) B.pre
  have hW : ∀ w ∈ WS, w.before _ s = true := fun w h => hts w (List.mem_cons_of_mem _ h)
  have hown : s.vm.findClass "BoardHouse$Area" = some m.cls := findClass_of_methodNamed B.named
  have hlocks := B.notSynchronized
  have hin : meth.name = "<init>" := (name_of_methodNamed B.named B.method).1
  have hS : va_S (hA N0) s.heap s.heap [] := va_S.rf
  have hl := lv_entry ([.ref a, .int x, .int y, .int u, .int v]) (n := 5) (Nat.le_of_ble_eq_true rfl)
  rw [lg_entry_eq]
  generalize (lg_sl ([.ref a, .int x, .int y, .int u, .int v]) ++ List.replicate (5 - (lg_sl ([.ref a, .int x, .int y, .int u, .int v])).length) Slot.unset).toArray = ls at hl ⊢
  have hl : lv_has ls 5 [(0, .ref a), (1, .int x), (2, .int y), (3, .int u), (4, .int v)] := hl
  refine lv_aload_n hx hb d_Ar_init_0 rfl (lv_at hl 0 rfl) ?_
  refine W.objInit hx hb hown (hW _ wm_Ar_1) (hW _ wv_JO_init) (hW _ wc_JO_init) rfl (by rw [hml]; exact hl.1) rfl d_Ar_init_1 (Nat.le_of_ble_eq_true rfl) (Nat.le_of_ble_eq_true rfl) ?_
  refine W.eq (g2 := F0 m 4 ls []) rfl ?_
  refine lv_aload_n hx hb d_Ar_init_4 rfl (lv_at hl 0 rfl) ?_
  refine lv_iload_n hx hb d_Ar_init_5 rfl (lv_at hl 1 rfl) ?_
  refine pf_Ar_7 hx hb hW hown hG hV hS h_a d_Ar_init_6 (fun H locs hV hS => ?_)
  replace hV : hv D vwCl N0 (hu V a (.inr (1, [.int x, .int f1, .int f2, .int f3]))) H := hV
  generalize hV_V_1 : hu V a (.inr (1, [.int x, .int f1, .int f2, .int f3])) = V_1 at hV
  have ha'V_1 : V_1 a = some (.inr (1, [.int x, .int f1, .int f2, .int f3])) := by rw [← hV_V_1]; exact hu_s
  refine lv_aload_n hx hb d_Ar_init_9 rfl (lv_at hl 0 rfl) ?_
  refine lv_iload_n hx hb d_Ar_init_10 rfl (lv_at hl 2 rfl) ?_
  refine pf_Ar_13 hx hb hW hown hG hV hS ha'V_1 d_Ar_init_11 (fun H locs hV hS => ?_)
  replace hV : hv D vwCl N0 (hu V_1 a (.inr (1, [.int x, .int y, .int f2, .int f3]))) H := hV
  generalize hV_V_2 : hu V_1 a (.inr (1, [.int x, .int y, .int f2, .int f3])) = V_2 at hV
  have ha'V_2 : V_2 a = some (.inr (1, [.int x, .int y, .int f2, .int f3])) := by rw [← hV_V_2]; exact hu_s
  refine lv_aload_n hx hb d_Ar_init_14 rfl (lv_at hl 0 rfl) ?_
  refine lv_iload_n hx hb d_Ar_init_15 rfl (lv_at hl 3 rfl) ?_
  refine pf_Ar_16 hx hb hW hown hG hV hS ha'V_2 d_Ar_init_16 (fun H locs hV hS => ?_)
  replace hV : hv D vwCl N0 (hu V_2 a (.inr (1, [.int x, .int y, .int u, .int f3]))) H := hV
  generalize hV_V_3 : hu V_2 a (.inr (1, [.int x, .int y, .int u, .int f3])) = V_3 at hV
  have ha'V_3 : V_3 a = some (.inr (1, [.int x, .int y, .int u, .int f3])) := by rw [← hV_V_3]; exact hu_s
  refine lv_aload_n hx hb d_Ar_init_19 rfl (lv_at hl 0 rfl) ?_
  refine lv_iload hx hb d_Ar_init_20 (lv_at hl 4 rfl) ?_
  refine pf_Ar_19 hx hb hW hown hG hV hS ha'V_3 d_Ar_init_22 (fun H locs hV hS => ?_)
  replace hV : hv D vwCl N0 (hu V_3 a (.inr (1, [.int x, .int y, .int u, .int v]))) H := hV
  generalize hV_V_4 : hu V_3 a (.inr (1, [.int x, .int y, .int u, .int v])) = V_4 at hV
  have ha'V_4 : V_4 a = some (.inr (1, [.int x, .int y, .int u, .int v])) := by rw [← hV_V_4]; exact hu_s
  exact W.vret hx hb hr (fun t ht hW => ⟨⟨V_4, rfl, by rw [← hV_V_4, ← hV_V_3, ← hV_V_2, ← hV_V_1, hu_u, hu_u, hu_u], mB_of ht hV⟩, hS.F ht⟩) hS.2.2 d_Ar_init_25
set_option maxHeartbeats 4000000 in
set_option maxRecDepth 100000 in
/-- holds -/
theorem c_Ar_holds (l : Launch) (D : va_G) (N0 : Nat) (k : Nat → Nat) (V : HV) (a b : Nat) (x y u v a0 b0 c0 d0 : Int32) (h_a : V a = some (eAr x y u v)) (h_b : V b = some (eAr a0 b0 c0 d0)) : Met l y_Ar_holds (.code y_Ar_holds b_Ar_holds 2 (some .boolean) :: WS) ({ frames := 0, cells := 0, slots := 0, locals := 0 }) (mP D N0 k [.ref a, .ref b] V) (va_Qi (fun r V' => r = bI (ar_holds x y u v a0 b0 c0 d0) ∧ V' = V) (mB D N0) (hA N0)) 0 0 (hA N0) := by
  refine Met.ofW (cc := b_Ar_holds) (maxL := 2) (ret := (some .boolean)) (by decide) rfl ?_
  intro p e s m args below meth c s₁ B hml hv0
  obtain ⟨rfl, hG, hV⟩ := hv0
  have hx := B.exec
  have hb := B.bytes
  have hr := B.returns
  have hts := atoms_spec (ws := .code y_Ar_holds b_Ar_holds 2 (some .boolean) :: WS) B.pre
  have hW : ∀ w ∈ WS, w.before _ s = true := fun w h => hts w (List.mem_cons_of_mem _ h)
  have hown : s.vm.findClass "BoardHouse$Area" = some m.cls := findClass_of_methodNamed B.named
  have hlocks := B.notSynchronized
  have hS : va_S (hA N0) s.heap s.heap [] := va_S.rf
  have hl := lv_entry ([.ref a, .ref b]) (n := 2) (Nat.le_of_ble_eq_true rfl)
  rw [lg_entry_eq]
  generalize (lg_sl ([.ref a, .ref b]) ++ List.replicate (2 - (lg_sl ([.ref a, .ref b])).length) Slot.unset).toArray = ls at hl ⊢
  have hl : lv_has ls 2 [(0, .ref a), (1, .ref b)] := hl
  refine lv_aload_n hx hb d_Ar_holds_0 rfl (lv_at hl 0 rfl) ?_
  refine gf_Ar_7 hx hb hW hown hG hV h_a d_Ar_holds_1 ?_
  refine lv_aload_n hx hb d_Ar_holds_4 rfl (lv_at hl 1 rfl) ?_
  refine gf_Ar_7 hx hb hW hown hG hV h_b d_Ar_holds_5 ?_
  refine lv_icmp_gt (tgt := 70) hx hb d_Ar_holds_8 (by decide) (fun c_1 => ?_) (fun c_1 => ?_)
  · have c_1 := i_nle c_1
    refine lv_iconst (v := 0) hx hb d_Ar_holds_70 (by decide) ?_
    exact W.zret (v := 0) hx hb hr rfl (fun t ht hW => ⟨⟨0, V, rfl, ⟨by simp [bI, ar_holds, c_1], rfl⟩, mB_of ht hV⟩, hS.F ht⟩) hS.2.2 d_Ar_holds_71
  · have c_1 := i_le c_1
    refine lv_aload_n hx hb d_Ar_holds_11 rfl (lv_at hl 1 rfl) ?_
    refine gf_Ar_7 hx hb hW hown hG hV h_b d_Ar_holds_12 ?_
    refine lv_aload_n hx hb d_Ar_holds_15 rfl (lv_at hl 1 rfl) ?_
    refine gf_Ar_16 hx hb hW hown hG hV h_b d_Ar_holds_16 ?_
    refine lv_icmp_gt (tgt := 70) hx hb d_Ar_holds_19 (by decide) (fun c_2 => ?_) (fun c_2 => ?_)
    · have c_2 := i_nle c_2
      refine lv_iconst (v := 0) hx hb d_Ar_holds_70 (by decide) ?_
      exact W.zret (v := 0) hx hb hr rfl (fun t ht hW => ⟨⟨0, V, rfl, ⟨by simp [bI, ar_holds, c_1, c_2], rfl⟩, mB_of ht hV⟩, hS.F ht⟩) hS.2.2 d_Ar_holds_71
    · have c_2 := i_le c_2
      refine lv_aload_n hx hb d_Ar_holds_22 rfl (lv_at hl 1 rfl) ?_
      refine gf_Ar_16 hx hb hW hown hG hV h_b d_Ar_holds_23 ?_
      refine lv_aload_n hx hb d_Ar_holds_26 rfl (lv_at hl 0 rfl) ?_
      refine gf_Ar_16 hx hb hW hown hG hV h_a d_Ar_holds_27 ?_
      refine lv_icmp_gt (tgt := 70) hx hb d_Ar_holds_30 (by decide) (fun c_3 => ?_) (fun c_3 => ?_)
      · have c_3 := i_nle c_3
        refine lv_iconst (v := 0) hx hb d_Ar_holds_70 (by decide) ?_
        exact W.zret (v := 0) hx hb hr rfl (fun t ht hW => ⟨⟨0, V, rfl, ⟨by simp [bI, ar_holds, c_1, c_2, c_3], rfl⟩, mB_of ht hV⟩, hS.F ht⟩) hS.2.2 d_Ar_holds_71
      · have c_3 := i_le c_3
        refine lv_aload_n hx hb d_Ar_holds_33 rfl (lv_at hl 0 rfl) ?_
        refine gf_Ar_13 hx hb hW hown hG hV h_a d_Ar_holds_34 ?_
        refine lv_aload_n hx hb d_Ar_holds_37 rfl (lv_at hl 1 rfl) ?_
        refine gf_Ar_13 hx hb hW hown hG hV h_b d_Ar_holds_38 ?_
        refine lv_icmp_gt (tgt := 70) hx hb d_Ar_holds_41 (by decide) (fun c_4 => ?_) (fun c_4 => ?_)
        · have c_4 := i_nle c_4
          refine lv_iconst (v := 0) hx hb d_Ar_holds_70 (by decide) ?_
          exact W.zret (v := 0) hx hb hr rfl (fun t ht hW => ⟨⟨0, V, rfl, ⟨by simp [bI, ar_holds, c_1, c_2, c_3, c_4], rfl⟩, mB_of ht hV⟩, hS.F ht⟩) hS.2.2 d_Ar_holds_71
        · have c_4 := i_le c_4
          refine lv_aload_n hx hb d_Ar_holds_44 rfl (lv_at hl 1 rfl) ?_
          refine gf_Ar_13 hx hb hW hown hG hV h_b d_Ar_holds_45 ?_
          refine lv_aload_n hx hb d_Ar_holds_48 rfl (lv_at hl 1 rfl) ?_
          refine gf_Ar_19 hx hb hW hown hG hV h_b d_Ar_holds_49 ?_
          refine lv_icmp_gt (tgt := 70) hx hb d_Ar_holds_52 (by decide) (fun c_5 => ?_) (fun c_5 => ?_)
          · have c_5 := i_nle c_5
            refine lv_iconst (v := 0) hx hb d_Ar_holds_70 (by decide) ?_
            exact W.zret (v := 0) hx hb hr rfl (fun t ht hW => ⟨⟨0, V, rfl, ⟨by simp [bI, ar_holds, c_1, c_2, c_3, c_4, c_5], rfl⟩, mB_of ht hV⟩, hS.F ht⟩) hS.2.2 d_Ar_holds_71
          · have c_5 := i_le c_5
            refine lv_aload_n hx hb d_Ar_holds_55 rfl (lv_at hl 1 rfl) ?_
            refine gf_Ar_19 hx hb hW hown hG hV h_b d_Ar_holds_56 ?_
            refine lv_aload_n hx hb d_Ar_holds_59 rfl (lv_at hl 0 rfl) ?_
            refine gf_Ar_19 hx hb hW hown hG hV h_a d_Ar_holds_60 ?_
            refine lv_icmp_gt (tgt := 70) hx hb d_Ar_holds_63 (by decide) (fun c_6 => ?_) (fun c_6 => ?_)
            · have c_6 := i_nle c_6
              refine lv_iconst (v := 0) hx hb d_Ar_holds_70 (by decide) ?_
              exact W.zret (v := 0) hx hb hr rfl (fun t ht hW => ⟨⟨0, V, rfl, ⟨by simp [bI, ar_holds, c_1, c_2, c_3, c_4, c_5, c_6], rfl⟩, mB_of ht hV⟩, hS.F ht⟩) hS.2.2 d_Ar_holds_71
            · have c_6 := i_le c_6
              refine lv_iconst (v := 1) hx hb d_Ar_holds_66 (by decide) ?_
              refine lv_goto (tgt := 71) hx hb d_Ar_holds_67 (by decide) ?_
              exact W.zret (v := 1) hx hb hr rfl (fun t ht hW => ⟨⟨1, V, rfl, ⟨by simp [bI, ar_holds, c_1, c_2, c_3, c_4, c_5, c_6], rfl⟩, mB_of ht hV⟩, hS.F ht⟩) hS.2.2 d_Ar_holds_71
set_option maxHeartbeats 4000000 in
set_option maxRecDepth 100000 in
/-- meets -/
theorem c_Ar_meets (l : Launch) (D : va_G) (N0 : Nat) (k : Nat → Nat) (V : HV) (a b : Nat) (x y u v a0 b0 c0 d0 : Int32) (h_a : V a = some (eAr x y u v)) (h_b : V b = some (eAr a0 b0 c0 d0)) : Met l y_Ar_meets (.code y_Ar_meets b_Ar_meets 2 (some .boolean) :: WS) ({ frames := 0, cells := 0, slots := 0, locals := 0 }) (mP D N0 k [.ref a, .ref b] V) (va_Qi (fun r V' => r = bI (ar_meets x y u v a0 b0 c0 d0) ∧ V' = V) (mB D N0) (hA N0)) 0 0 (hA N0) := by
  refine Met.ofW (cc := b_Ar_meets) (maxL := 2) (ret := (some .boolean)) (by decide) rfl ?_
  intro p e s m args below meth c s₁ B hml hv0
  obtain ⟨rfl, hG, hV⟩ := hv0
  have hx := B.exec
  have hb := B.bytes
  have hr := B.returns
  have hts := atoms_spec (ws := .code y_Ar_meets b_Ar_meets 2 (some .boolean) :: WS) B.pre
  have hW : ∀ w ∈ WS, w.before _ s = true := fun w h => hts w (List.mem_cons_of_mem _ h)
  have hown : s.vm.findClass "BoardHouse$Area" = some m.cls := findClass_of_methodNamed B.named
  have hlocks := B.notSynchronized
  have hS : va_S (hA N0) s.heap s.heap [] := va_S.rf
  have hl := lv_entry ([.ref a, .ref b]) (n := 2) (Nat.le_of_ble_eq_true rfl)
  rw [lg_entry_eq]
  generalize (lg_sl ([.ref a, .ref b]) ++ List.replicate (2 - (lg_sl ([.ref a, .ref b])).length) Slot.unset).toArray = ls at hl ⊢
  have hl : lv_has ls 2 [(0, .ref a), (1, .ref b)] := hl
  refine lv_aload_n hx hb d_Ar_meets_0 rfl (lv_at hl 0 rfl) ?_
  refine gf_Ar_7 hx hb hW hown hG hV h_a d_Ar_meets_1 ?_
  refine lv_aload_n hx hb d_Ar_meets_4 rfl (lv_at hl 1 rfl) ?_
  refine gf_Ar_16 hx hb hW hown hG hV h_b d_Ar_meets_5 ?_
  refine lv_icmp_gt (tgt := 48) hx hb d_Ar_meets_8 (by decide) (fun c_1 => ?_) (fun c_1 => ?_)
  · have c_1 := i_nle c_1
    refine lv_iconst (v := 0) hx hb d_Ar_meets_48 (by decide) ?_
    exact W.zret (v := 0) hx hb hr rfl (fun t ht hW => ⟨⟨0, V, rfl, ⟨by simp [bI, ar_meets, c_1], rfl⟩, mB_of ht hV⟩, hS.F ht⟩) hS.2.2 d_Ar_meets_49
  · have c_1 := i_le c_1
    refine lv_aload_n hx hb d_Ar_meets_11 rfl (lv_at hl 1 rfl) ?_
    refine gf_Ar_7 hx hb hW hown hG hV h_b d_Ar_meets_12 ?_
    refine lv_aload_n hx hb d_Ar_meets_15 rfl (lv_at hl 0 rfl) ?_
    refine gf_Ar_16 hx hb hW hown hG hV h_a d_Ar_meets_16 ?_
    refine lv_icmp_gt (tgt := 48) hx hb d_Ar_meets_19 (by decide) (fun c_2 => ?_) (fun c_2 => ?_)
    · have c_2 := i_nle c_2
      refine lv_iconst (v := 0) hx hb d_Ar_meets_48 (by decide) ?_
      exact W.zret (v := 0) hx hb hr rfl (fun t ht hW => ⟨⟨0, V, rfl, ⟨by simp [bI, ar_meets, c_1, c_2], rfl⟩, mB_of ht hV⟩, hS.F ht⟩) hS.2.2 d_Ar_meets_49
    · have c_2 := i_le c_2
      refine lv_aload_n hx hb d_Ar_meets_22 rfl (lv_at hl 0 rfl) ?_
      refine gf_Ar_13 hx hb hW hown hG hV h_a d_Ar_meets_23 ?_
      refine lv_aload_n hx hb d_Ar_meets_26 rfl (lv_at hl 1 rfl) ?_
      refine gf_Ar_19 hx hb hW hown hG hV h_b d_Ar_meets_27 ?_
      refine lv_icmp_gt (tgt := 48) hx hb d_Ar_meets_30 (by decide) (fun c_3 => ?_) (fun c_3 => ?_)
      · have c_3 := i_nle c_3
        refine lv_iconst (v := 0) hx hb d_Ar_meets_48 (by decide) ?_
        exact W.zret (v := 0) hx hb hr rfl (fun t ht hW => ⟨⟨0, V, rfl, ⟨by simp [bI, ar_meets, c_1, c_2, c_3], rfl⟩, mB_of ht hV⟩, hS.F ht⟩) hS.2.2 d_Ar_meets_49
      · have c_3 := i_le c_3
        refine lv_aload_n hx hb d_Ar_meets_33 rfl (lv_at hl 1 rfl) ?_
        refine gf_Ar_13 hx hb hW hown hG hV h_b d_Ar_meets_34 ?_
        refine lv_aload_n hx hb d_Ar_meets_37 rfl (lv_at hl 0 rfl) ?_
        refine gf_Ar_19 hx hb hW hown hG hV h_a d_Ar_meets_38 ?_
        refine lv_icmp_gt (tgt := 48) hx hb d_Ar_meets_41 (by decide) (fun c_4 => ?_) (fun c_4 => ?_)
        · have c_4 := i_nle c_4
          refine lv_iconst (v := 0) hx hb d_Ar_meets_48 (by decide) ?_
          exact W.zret (v := 0) hx hb hr rfl (fun t ht hW => ⟨⟨0, V, rfl, ⟨by simp [bI, ar_meets, c_1, c_2, c_3, c_4], rfl⟩, mB_of ht hV⟩, hS.F ht⟩) hS.2.2 d_Ar_meets_49
        · have c_4 := i_le c_4
          refine lv_iconst (v := 1) hx hb d_Ar_meets_44 (by decide) ?_
          refine lv_goto (tgt := 49) hx hb d_Ar_meets_45 (by decide) ?_
          exact W.zret (v := 1) hx hb hr rfl (fun t ht hW => ⟨⟨1, V, rfl, ⟨by simp [bI, ar_meets, c_1, c_2, c_3, c_4], rfl⟩, mB_of ht hV⟩, hS.F ht⟩) hS.2.2 d_Ar_meets_49
set_option maxHeartbeats 4000000 in
set_option maxRecDepth 100000 in
/-- comesNearMoved -/
theorem c_Ar_comesNearMoved (l : Launch) (D : va_G) (N0 : Nat) (k : Nat → Nat) (V : HV) (a b : Nat) (x y u v a0 b0 c0 d0 : Int32) (h_a : V a = some (eAr x y u v)) (h_b : V b = some (eAr a0 b0 c0 d0)) (g dx dy : Int32) : Met l y_Ar_comesNearMoved (.code y_Ar_comesNearMoved b_Ar_comesNearMoved 5 (some .boolean) :: WS) ({ frames := 0, cells := 0, slots := 0, locals := 0 }) (mP D N0 k [.ref a, .ref b, .int g, .int dx, .int dy] V) (va_Qi (fun r V' => r = bI (ar_near x y u v a0 b0 c0 d0 g dx dy) ∧ V' = V) (mB D N0) (hA N0)) 0 0 (hA N0) := by
  refine Met.ofW (cc := b_Ar_comesNearMoved) (maxL := 5) (ret := (some .boolean)) (by decide) rfl ?_
  intro p e s m args below meth c s₁ B hml hv0
  obtain ⟨rfl, hG, hV⟩ := hv0
  have hx := B.exec
  have hb := B.bytes
  have hr := B.returns
  have hts := atoms_spec (ws := .code y_Ar_comesNearMoved b_Ar_comesNearMoved 5 (some .boolean) :: WS) B.pre
  have hW : ∀ w ∈ WS, w.before _ s = true := fun w h => hts w (List.mem_cons_of_mem _ h)
  have hown : s.vm.findClass "BoardHouse$Area" = some m.cls := findClass_of_methodNamed B.named
  have hlocks := B.notSynchronized
  have hS : va_S (hA N0) s.heap s.heap [] := va_S.rf
  have hl := lv_entry ([.ref a, .ref b, .int g, .int dx, .int dy]) (n := 5) (Nat.le_of_ble_eq_true rfl)
  rw [lg_entry_eq]
  generalize (lg_sl ([.ref a, .ref b, .int g, .int dx, .int dy]) ++ List.replicate (5 - (lg_sl ([.ref a, .ref b, .int g, .int dx, .int dy])).length) Slot.unset).toArray = ls at hl ⊢
  have hl : lv_has ls 5 [(0, .ref a), (1, .ref b), (2, .int g), (3, .int dx), (4, .int dy)] := hl
  refine lv_aload_n hx hb d_Ar_comesNearMoved_0 rfl (lv_at hl 0 rfl) ?_
  refine gf_Ar_7 hx hb hW hown hG hV h_a d_Ar_comesNearMoved_1 ?_
  refine lv_iload_n hx hb d_Ar_comesNearMoved_4 rfl (lv_at hl 3 rfl) ?_
  refine lv_iadd hx hb d_Ar_comesNearMoved_5 ?_
  refine lv_aload_n hx hb d_Ar_comesNearMoved_6 rfl (lv_at hl 1 rfl) ?_
  refine gf_Ar_16 hx hb hW hown hG hV h_b d_Ar_comesNearMoved_7 ?_
  refine lv_iload_n hx hb d_Ar_comesNearMoved_10 rfl (lv_at hl 2 rfl) ?_
  refine lv_iadd hx hb d_Ar_comesNearMoved_11 ?_
  refine lv_icmp_gt (tgt := 66) hx hb d_Ar_comesNearMoved_12 (by decide) (fun c_1 => ?_) (fun c_1 => ?_)
  · have c_1 := i_nle c_1
    refine lv_iconst (v := 0) hx hb d_Ar_comesNearMoved_66 (by decide) ?_
    exact W.zret (v := 0) hx hb hr rfl (fun t ht hW => ⟨⟨0, V, rfl, ⟨by simp [bI, ar_near, c_1], rfl⟩, mB_of ht hV⟩, hS.F ht⟩) hS.2.2 d_Ar_comesNearMoved_67
  · have c_1 := i_le c_1
    refine lv_aload_n hx hb d_Ar_comesNearMoved_15 rfl (lv_at hl 1 rfl) ?_
    refine gf_Ar_7 hx hb hW hown hG hV h_b d_Ar_comesNearMoved_16 ?_
    refine lv_aload_n hx hb d_Ar_comesNearMoved_19 rfl (lv_at hl 0 rfl) ?_
    refine gf_Ar_16 hx hb hW hown hG hV h_a d_Ar_comesNearMoved_20 ?_
    refine lv_iload_n hx hb d_Ar_comesNearMoved_23 rfl (lv_at hl 3 rfl) ?_
    refine lv_iadd hx hb d_Ar_comesNearMoved_24 ?_
    refine lv_iload_n hx hb d_Ar_comesNearMoved_25 rfl (lv_at hl 2 rfl) ?_
    refine lv_iadd hx hb d_Ar_comesNearMoved_26 ?_
    refine lv_icmp_gt (tgt := 66) hx hb d_Ar_comesNearMoved_27 (by decide) (fun c_2 => ?_) (fun c_2 => ?_)
    · have c_2 := i_nle c_2
      refine lv_iconst (v := 0) hx hb d_Ar_comesNearMoved_66 (by decide) ?_
      exact W.zret (v := 0) hx hb hr rfl (fun t ht hW => ⟨⟨0, V, rfl, ⟨by simp [bI, ar_near, c_1, c_2], rfl⟩, mB_of ht hV⟩, hS.F ht⟩) hS.2.2 d_Ar_comesNearMoved_67
    · have c_2 := i_le c_2
      refine lv_aload_n hx hb d_Ar_comesNearMoved_30 rfl (lv_at hl 0 rfl) ?_
      refine gf_Ar_13 hx hb hW hown hG hV h_a d_Ar_comesNearMoved_31 ?_
      refine lv_iload hx hb d_Ar_comesNearMoved_34 (lv_at hl 4 rfl) ?_
      refine lv_iadd hx hb d_Ar_comesNearMoved_36 ?_
      refine lv_aload_n hx hb d_Ar_comesNearMoved_37 rfl (lv_at hl 1 rfl) ?_
      refine gf_Ar_19 hx hb hW hown hG hV h_b d_Ar_comesNearMoved_38 ?_
      refine lv_iload_n hx hb d_Ar_comesNearMoved_41 rfl (lv_at hl 2 rfl) ?_
      refine lv_iadd hx hb d_Ar_comesNearMoved_42 ?_
      refine lv_icmp_gt (tgt := 66) hx hb d_Ar_comesNearMoved_43 (by decide) (fun c_3 => ?_) (fun c_3 => ?_)
      · have c_3 := i_nle c_3
        refine lv_iconst (v := 0) hx hb d_Ar_comesNearMoved_66 (by decide) ?_
        exact W.zret (v := 0) hx hb hr rfl (fun t ht hW => ⟨⟨0, V, rfl, ⟨by simp [bI, ar_near, c_1, c_2, c_3], rfl⟩, mB_of ht hV⟩, hS.F ht⟩) hS.2.2 d_Ar_comesNearMoved_67
      · have c_3 := i_le c_3
        refine lv_aload_n hx hb d_Ar_comesNearMoved_46 rfl (lv_at hl 1 rfl) ?_
        refine gf_Ar_13 hx hb hW hown hG hV h_b d_Ar_comesNearMoved_47 ?_
        refine lv_aload_n hx hb d_Ar_comesNearMoved_50 rfl (lv_at hl 0 rfl) ?_
        refine gf_Ar_19 hx hb hW hown hG hV h_a d_Ar_comesNearMoved_51 ?_
        refine lv_iload hx hb d_Ar_comesNearMoved_54 (lv_at hl 4 rfl) ?_
        refine lv_iadd hx hb d_Ar_comesNearMoved_56 ?_
        refine lv_iload_n hx hb d_Ar_comesNearMoved_57 rfl (lv_at hl 2 rfl) ?_
        refine lv_iadd hx hb d_Ar_comesNearMoved_58 ?_
        refine lv_icmp_gt (tgt := 66) hx hb d_Ar_comesNearMoved_59 (by decide) (fun c_4 => ?_) (fun c_4 => ?_)
        · have c_4 := i_nle c_4
          refine lv_iconst (v := 0) hx hb d_Ar_comesNearMoved_66 (by decide) ?_
          exact W.zret (v := 0) hx hb hr rfl (fun t ht hW => ⟨⟨0, V, rfl, ⟨by simp [bI, ar_near, c_1, c_2, c_3, c_4], rfl⟩, mB_of ht hV⟩, hS.F ht⟩) hS.2.2 d_Ar_comesNearMoved_67
        · have c_4 := i_le c_4
          refine lv_iconst (v := 1) hx hb d_Ar_comesNearMoved_62 (by decide) ?_
          refine lv_goto (tgt := 67) hx hb d_Ar_comesNearMoved_63 (by decide) ?_
          exact W.zret (v := 1) hx hb hr rfl (fun t ht hW => ⟨⟨1, V, rfl, ⟨by simp [bI, ar_near, c_1, c_2, c_3, c_4], rfl⟩, mB_of ht hV⟩, hS.F ht⟩) hS.2.2 d_Ar_comesNearMoved_67
set_option maxHeartbeats 4000000 in
set_option maxRecDepth 100000 in
/-- shift -/
theorem c_Ar_shift (l : Launch) (D : va_G) (N0 : Nat) (k : Nat → Nat) (V : HV) (a : Nat) (x y u v dx dy : Int32) (h_a : V a = some (eAr x y u v)) : Met l y_Ar_shift (.code y_Ar_shift b_Ar_shift 3 none :: WS) ({ frames := 0, cells := 0, slots := 0, locals := 0 }) (mP D N0 k [.ref a, .int dx, .int dy] V) (va_Qv (fun V' => V' = hu V a (eAr (x + dx) (y + dy) (u + dx) (v + dy))) (mB D N0) (hA N0)) 0 0 (hA N0) := by
  refine Met.ofW (cc := b_Ar_shift) (maxL := 3) (ret := none) (by decide) rfl ?_
  intro p e s m args below meth c s₁ B hml hv0
  obtain ⟨rfl, hG, hV⟩ := hv0
  have hx := B.exec
  have hb := B.bytes
  have hr := B.returns
  have hts := atoms_spec (ws := .code y_Ar_shift b_Ar_shift 3 none :: WS) B.pre
  have hW : ∀ w ∈ WS, w.before _ s = true := fun w h => hts w (List.mem_cons_of_mem _ h)
  have hown : s.vm.findClass "BoardHouse$Area" = some m.cls := findClass_of_methodNamed B.named
  have hlocks := B.notSynchronized
  have hS : va_S (hA N0) s.heap s.heap [] := va_S.rf
  have hl := lv_entry ([.ref a, .int dx, .int dy]) (n := 3) (Nat.le_of_ble_eq_true rfl)
  rw [lg_entry_eq]
  generalize (lg_sl ([.ref a, .int dx, .int dy]) ++ List.replicate (3 - (lg_sl ([.ref a, .int dx, .int dy])).length) Slot.unset).toArray = ls at hl ⊢
  have hl : lv_has ls 3 [(0, .ref a), (1, .int dx), (2, .int dy)] := hl
  refine lv_aload_n hx hb d_Ar_shift_0 rfl (lv_at hl 0 rfl) ?_
  refine lv_dup hx hb d_Ar_shift_1 rfl ?_
  refine gf_Ar_7 hx hb hW hown hG hV h_a d_Ar_shift_2 ?_
  refine lv_iload_n hx hb d_Ar_shift_5 rfl (lv_at hl 1 rfl) ?_
  refine lv_iadd hx hb d_Ar_shift_6 ?_
  refine pf_Ar_7 hx hb hW hown hG hV hS h_a d_Ar_shift_7 (fun H locs hV hS => ?_)
  replace hV : hv D vwCl N0 (hu V a (.inr (1, [.int (x + dx), .int y, .int u, .int v]))) H := hV
  generalize hV_V_1 : hu V a (.inr (1, [.int (x + dx), .int y, .int u, .int v])) = V_1 at hV
  have ha'V_1 : V_1 a = some (.inr (1, [.int (x + dx), .int y, .int u, .int v])) := by rw [← hV_V_1]; exact hu_s
  refine lv_aload_n hx hb d_Ar_shift_10 rfl (lv_at hl 0 rfl) ?_
  refine lv_dup hx hb d_Ar_shift_11 rfl ?_
  refine gf_Ar_16 hx hb hW hown hG hV ha'V_1 d_Ar_shift_12 ?_
  refine lv_iload_n hx hb d_Ar_shift_15 rfl (lv_at hl 1 rfl) ?_
  refine lv_iadd hx hb d_Ar_shift_16 ?_
  refine pf_Ar_16 hx hb hW hown hG hV hS ha'V_1 d_Ar_shift_17 (fun H locs hV hS => ?_)
  replace hV : hv D vwCl N0 (hu V_1 a (.inr (1, [.int (x + dx), .int y, .int (u + dx), .int v]))) H := hV
  generalize hV_V_2 : hu V_1 a (.inr (1, [.int (x + dx), .int y, .int (u + dx), .int v])) = V_2 at hV
  have ha'V_2 : V_2 a = some (.inr (1, [.int (x + dx), .int y, .int (u + dx), .int v])) := by rw [← hV_V_2]; exact hu_s
  refine lv_aload_n hx hb d_Ar_shift_20 rfl (lv_at hl 0 rfl) ?_
  refine lv_dup hx hb d_Ar_shift_21 rfl ?_
  refine gf_Ar_13 hx hb hW hown hG hV ha'V_2 d_Ar_shift_22 ?_
  refine lv_iload_n hx hb d_Ar_shift_25 rfl (lv_at hl 2 rfl) ?_
  refine lv_iadd hx hb d_Ar_shift_26 ?_
  refine pf_Ar_13 hx hb hW hown hG hV hS ha'V_2 d_Ar_shift_27 (fun H locs hV hS => ?_)
  replace hV : hv D vwCl N0 (hu V_2 a (.inr (1, [.int (x + dx), .int (y + dy), .int (u + dx), .int v]))) H := hV
  generalize hV_V_3 : hu V_2 a (.inr (1, [.int (x + dx), .int (y + dy), .int (u + dx), .int v])) = V_3 at hV
  have ha'V_3 : V_3 a = some (.inr (1, [.int (x + dx), .int (y + dy), .int (u + dx), .int v])) := by rw [← hV_V_3]; exact hu_s
  refine lv_aload_n hx hb d_Ar_shift_30 rfl (lv_at hl 0 rfl) ?_
  refine lv_dup hx hb d_Ar_shift_31 rfl ?_
  refine gf_Ar_19 hx hb hW hown hG hV ha'V_3 d_Ar_shift_32 ?_
  refine lv_iload_n hx hb d_Ar_shift_35 rfl (lv_at hl 2 rfl) ?_
  refine lv_iadd hx hb d_Ar_shift_36 ?_
  refine pf_Ar_19 hx hb hW hown hG hV hS ha'V_3 d_Ar_shift_37 (fun H locs hV hS => ?_)
  replace hV : hv D vwCl N0 (hu V_3 a (.inr (1, [.int (x + dx), .int (y + dy), .int (u + dx), .int (v + dy)]))) H := hV
  generalize hV_V_4 : hu V_3 a (.inr (1, [.int (x + dx), .int (y + dy), .int (u + dx), .int (v + dy)])) = V_4 at hV
  have ha'V_4 : V_4 a = some (.inr (1, [.int (x + dx), .int (y + dy), .int (u + dx), .int (v + dy)])) := by rw [← hV_V_4]; exact hu_s
  exact W.vret hx hb hr (fun t ht hW => ⟨⟨V_4, rfl, by rw [← hV_V_4, ← hV_V_3, ← hV_V_2, ← hV_V_1, hu_u, hu_u, hu_u], mB_of ht hV⟩, hS.F ht⟩) hS.2.2 d_Ar_shift_40
set_option maxHeartbeats 4000000 in
set_option maxRecDepth 100000 in
/-- startingAt -/
theorem c_Ar_startingAt (l : Launch) (D : va_G) (N0 : Nat) (k : Nat → Nat) (V : HV) (a : Nat) (x y u v p0 p1 : Int32) (h_a : V a = some (eAr x y u v)) : Met l y_Ar_startingAt (.code y_Ar_startingAt b_Ar_startingAt 3 (some (.object "BoardHouse$Area")) :: WS) ({ frames := 2, cells := 1, slots := 4, locals := 44 }) (mP D N0 k [.ref a, .int p0, .int p1] V) (va_Qq (fun r V' => ∃ q, r = some q ∧ V q = none ∧ V' = hu V q (eAr p0 p1 (p0 + (u - x)) (p1 + (v - y)))) (mB D N0) (hA N0)) 1 4 (hA N0) := by
  refine Met.ofW (cc := b_Ar_startingAt) (maxL := 3) (ret := (some (.object "BoardHouse$Area"))) (by decide) rfl ?_
  intro p e s m args below meth c s₁ B hml hv0
  obtain ⟨rfl, hG, hV⟩ := hv0
  have hx := B.exec
  have hb := B.bytes
  have hr := B.returns
  have hts := atoms_spec (ws := .code y_Ar_startingAt b_Ar_startingAt 3 (some (.object "BoardHouse$Area")) :: WS) B.pre
  have hW : ∀ w ∈ WS, w.before _ s = true := fun w h => hts w (List.mem_cons_of_mem _ h)
  have hown : s.vm.findClass "BoardHouse$Area" = some m.cls := findClass_of_methodNamed B.named
  have hlocks := B.notSynchronized
  have hS : va_S (hA N0) s.heap s.heap [] := va_S.rf
  have hl := lv_entry ([.ref a, .int p0, .int p1]) (n := 3) (Nat.le_of_ble_eq_true rfl)
  rw [lg_entry_eq]
  generalize (lg_sl ([.ref a, .int p0, .int p1]) ++ List.replicate (3 - (lg_sl ([.ref a, .int p0, .int p1])).length) Slot.unset).toArray = ls at hl ⊢
  have hl : lv_has ls 3 [(0, .ref a), (1, .int p0), (2, .int p1)] := hl
  refine hv_new (ci := 1) (fs := [.int 0, .int 0, .int 0, .int 0]) (C := R_Ar) (T := T_Ar) (N := 4) hx hb hW in_Ar t_Ar ty_Ar hown (hW _ wk_Ar_8) (hW _ wo_Ar) (hW _ wi_Ar) hG.K hV hS rfl (fun j hj => by rcases (show j = 0 ∨ j = 1 ∨ j = 2 ∨ j = 3 by omega) with rfl | rfl | rfl | rfl <;> rfl) (Nat.le_of_ble_eq_true rfl) (Nat.le_of_ble_eq_true rfl) hG.N d_Ar_startingAt_0 (fun q_1 H hn_q_1 hN_q_1 hV hS => ?_)
  have ne_a_q_1 : a ≠ q_1 := fun z => by rw [← z, h_a] at hn_q_1; cases hn_q_1
  replace hV : hv D vwCl N0 (hu V q_1 (.inr (1, [.int 0, .int 0, .int 0, .int 0]))) H := hV
  generalize hV_V_2 : hu V q_1 (.inr (1, [.int 0, .int 0, .int 0, .int 0])) = V_2 at hV
  have h_a'V_2 : V_2 a = some (.inr (1, [.int x, .int y, .int u, .int v])) := by rw [← hV_V_2, hu_n ne_a_q_1]; exact h_a
  have hq_1'V_2 : V_2 q_1 = some (.inr (1, [.int 0, .int 0, .int 0, .int 0])) := by rw [← hV_V_2]; exact hu_s
  refine lv_dup hx hb d_Ar_startingAt_3 rfl ?_
  refine lv_iload_n hx hb d_Ar_startingAt_4 rfl (lv_at hl 1 rfl) ?_
  refine lv_iload_n hx hb d_Ar_startingAt_5 rfl (lv_at hl 2 rfl) ?_
  refine lv_iload_n hx hb d_Ar_startingAt_6 rfl (lv_at hl 1 rfl) ?_
  refine lv_aload_n hx hb d_Ar_startingAt_7 rfl (lv_at hl 0 rfl) ?_
  refine gf_Ar_16 hx hb hW hown hG hV h_a'V_2 d_Ar_startingAt_8 ?_
  refine lv_aload_n hx hb d_Ar_startingAt_11 rfl (lv_at hl 0 rfl) ?_
  refine gf_Ar_7 hx hb hW hown hG hV h_a'V_2 d_Ar_startingAt_12 ?_
  refine lv_isub hx hb d_Ar_startingAt_15 ?_
  refine lv_iadd hx hb d_Ar_startingAt_16 ?_
  refine lv_iload_n hx hb d_Ar_startingAt_17 rfl (lv_at hl 2 rfl) ?_
  refine lv_aload_n hx hb d_Ar_startingAt_18 rfl (lv_at hl 0 rfl) ?_
  refine gf_Ar_19 hx hb hW hown hG hV h_a'V_2 d_Ar_startingAt_19 ?_
  refine lv_aload_n hx hb d_Ar_startingAt_22 rfl (lv_at hl 0 rfl) ?_
  refine gf_Ar_13 hx hb hW hown hG hV h_a'V_2 d_Ar_startingAt_23 ?_
  refine lv_isub hx hb d_Ar_startingAt_26 ?_
  refine lv_iadd hx hb d_Ar_startingAt_27 ?_
  refine rc_V (va_runI (As := [.int p0, .int p1, .int (p0 + (u - x)), .int (p1 + (v - y))]) (rest := [.ref q_1]) ⟨hx, hb, hml, hown, hts⟩ (c_Ar_init l D N0 k V_2 q_1 p0 p1 (p0 + (u - x)) (p1 + (v - y)) 0 0 0 0 hq_1'V_2) (cwI 4 hts (gi_c wc_Ar_init) rfl rfl rfl (hW _ wi_Ar) (hW _ wm_Ar_22) (hW _ wv_Ar_init) rfl (by decide +kernel) ⟨Nat.le_of_ble_eq_true rfl, Nat.le_of_ble_eq_true rfl⟩) (mP.preS hG hS hV) rfl rfl hl.1 rfl (lv_room (Nat.le_of_ble_eq_true rfl)) d_Ar_startingAt_28 ⟨Nat.le_of_ble_eq_true rfl, Nat.le_of_ble_eq_true rfl⟩) hS (fun V_3 H locs hp_4 hV hS => ?_)
  have hV_V_3 := hp_4.symm
  have h_a'V_3 : V_3 a = some (.inr (1, [.int x, .int y, .int u, .int v])) := by rw [← hV_V_3, hu_n ne_a_q_1]; exact h_a'V_2
  have hq_1'V_3 : V_3 q_1 = some (eAr p0 p1 (p0 + (u - x)) (p1 + (v - y))) := by rw [← hV_V_3]; exact hu_s
  exact W.aret (v := va_rf (some q_1)) hx hb hr (by first | exact Or.inl ⟨_, rfl⟩ | exact Or.inr ⟨_, rfl⟩) (va_rf_or _) (fun t ht hW => ⟨⟨(some q_1), V_3, rfl, ⟨q_1, rfl, hn_q_1, by rw [← hV_V_3, ← hV_V_2, hu_u]⟩, mB_of ht hV⟩, hS.F ht⟩) hS.2.2 d_Ar_startingAt_31
