/-! the model: rows of longs -/
section RCL
variable {p : Program} {l : Launch} {e : Env} {R : Room} {s : State} {m : MethodId} {args : Array Value} {below : List Frame} {meth : Method} {c : Code} {H : Heap} {locs : List Loc} {cells slots : Nat} {Q : State → Prop}
variable {pc : Nat} {ls : Array Slot} {rest st0 : List Value} {a : Array Value} {mc ms : Nat} {D : va_G} {N0 : Nat} {V : HV}
theorem rc_l {F : Int64} (hr : va_Run p l e R s m args below meth c H locs cells slots mc ms (F0 m pc ls st0) rest (va_Ql (fun r V' => r = F ∧ V' = V) (mB D N0) (hA N0) a) (hA N0)) (hS : va_S (hA N0) s.heap H locs)
    (kk : ∀ (H1 : Heap) (locs1 : List Loc), hv D vwCl N0 V H1 → va_S (hA N0) s.heap H1 locs1 → W p l e R s m args below meth c H1 locs1 (cells + mc) (slots + ms) Q (F0 m (pc + 3) ls (.long F :: rest))) : W p l e R s m args below meth c H locs cells slots Q (F0 m pc ls st0) := by
  refine va_calll hr hS (fun q _ h => h) (fun q h => h) (fun r u t H1 locs1 ht hvm hw hB hz hk hS1 => ?_)
  obtain ⟨rfl, rfl⟩ := hw
  subst ht
  exact kk _ _ hB hS1
end RCL
def moSpan (x n : Int32) : Int64 := ((1 <<< (n.toInt64 &&& 63)) - 1) <<< (x.toInt64 &&& 63)
def moW1 (v : Int64) : Int64 := ((v ||| (v <<< ((1 : Int32).toInt64 &&& 63))) ||| (v >>> ((1 : Int32).toInt64 &&& 63))) &&& 4294967295
def moWd (v : Int64) : Nat → Int64
  | 0 => v
  | n + 1 => moW1 (moWd v n)
def moOn (I : Nat → Nat → Int32) (t : Nat) (la : Int32) : Bool := decide (moKind (nI t) = 3) || decide (I 6 t = la)
def moHpP (I : Nat → Nat → Int32) (ne la : Int32) : Nat → Bool := fun t => !decide (I 1 t = 0) && decide (I 7 t = ne) && decide (I 6 t = la)
def moPdP (I : Nat → Nat → Int32) (ne : Int32) (t : Nat) : Bool := !decide (I 1 t = 0) && decide (I 7 t = ne)
def moBit (v : Int64) (x : Int32) : Bool := decide ((v >>> (x.toInt64 &&& 63)) &&& 1 = 1)
set_option maxHeartbeats 4000000 in
set_option maxRecDepth 100000 in
/-- span -/
theorem c_Mo_span (l : Launch) (D : va_G) (N0 : Nat) (k : Nat → Nat) (V : HV) (x n0 : Int32) : Met l y_Mo_span (.code y_Mo_span b_Mo_span 2 (some .long) :: WS) ({ frames := 0, cells := 0, slots := 0, locals := 0 }) (mP D N0 k [.int x, .int n0] V) (va_Ql (fun r V' => r = moSpan x n0 ∧ V' = V) (mB D N0) (hA N0)) 0 0 (hA N0) := by
  refine Met.ofW (cc := b_Mo_span) (maxL := 2) (ret := (some .long)) (by decide) rfl ?_
  intro p e s m args below meth c s₁ B hml hv0
  obtain ⟨rfl, hG, hV⟩ := hv0
  have hx := B.exec
  have hb := B.bytes
  have hr := B.returns
  have hts := atoms_spec (ws := .code y_Mo_span b_Mo_span 2 (some .long) :: WS) B.pre
  have hW : ∀ w ∈ WS, w.before _ s = true := fun w h => hts w (List.mem_cons_of_mem _ h)
  have hown : s.vm.findClass "BoardHouseModel" = some m.cls := findClass_of_methodNamed B.named
  have hlocks := B.notSynchronized
  have hS : va_S (hA N0) s.heap s.heap [] := va_S.rf
  have hl := lv_entry ([.int x, .int n0]) (n := 2) (Nat.le_of_ble_eq_true rfl)
  rw [lg_entry_eq]
  generalize (lg_sl ([.int x, .int n0]) ++ List.replicate (2 - (lg_sl ([.int x, .int n0])).length) Slot.unset).toArray = ls at hl ⊢
  have hl : lv_has ls 2 [(0, .int x), (1, .int n0)] := hl
  refine lv_lconst (v := 1) hx hb d_Mo_span_0 (by decide) ?_
  refine lv_iload_n hx hb d_Mo_span_1 rfl (lv_at hl 1 rfl) ?_
  refine lv_lshl hx hb d_Mo_span_2 rfl ?_
  refine lv_lconst (v := 1) hx hb d_Mo_span_3 (by decide) ?_
  refine lv_lsub hx hb d_Mo_span_4 ?_
  refine lv_iload_n hx hb d_Mo_span_5 rfl (lv_at hl 0 rfl) ?_
  refine lv_lshl hx hb d_Mo_span_6 rfl ?_
  exact W.lret (v := (((1 <<< (n0.toInt64 &&& 63)) - 1) <<< (x.toInt64 &&& 63))) hx hb hr (fun t9 ht hW => ⟨⟨(((1 <<< (n0.toInt64 &&& 63)) - 1) <<< (x.toInt64 &&& 63)), V, rfl, ⟨rfl, rfl⟩, mB_of ht hV⟩, hS.F ht⟩) hS.2.2 d_Mo_span_7
set_option maxHeartbeats 4000000 in
set_option maxRecDepth 100000 in
/-- wide -/
theorem c_Mo_wide (l : Launch) (D : va_G) (N0 : Nat) (k : Nat → Nat) (V : HV) (v0 : Int64) (n0 : Nat) (hn0 : n0 < 100) : Met l y_Mo_wide (.code y_Mo_wide b_Mo_wide 6 (some .long) :: WS) ({ frames := 0, cells := 0, slots := 0, locals := 0 }) (mP D N0 k [.long v0, .int (nI n0)] V) (va_Ql (fun r V' => r = moWd v0 n0 ∧ V' = V) (mB D N0) (hA N0)) 0 0 (hA N0) := by
  refine Met.ofW (cc := b_Mo_wide) (maxL := 6) (ret := (some .long)) (by decide) rfl ?_
  intro p e s m args below meth c s₁ B hml hv0
  obtain ⟨rfl, hG, hV⟩ := hv0
  have hx := B.exec
  have hb := B.bytes
  have hr := B.returns
  have hts := atoms_spec (ws := .code y_Mo_wide b_Mo_wide 6 (some .long) :: WS) B.pre
  have hW : ∀ w ∈ WS, w.before _ s = true := fun w h => hts w (List.mem_cons_of_mem _ h)
  have hown : s.vm.findClass "BoardHouseModel" = some m.cls := findClass_of_methodNamed B.named
  have hlocks := B.notSynchronized
  have hS : va_S (hA N0) s.heap s.heap [] := va_S.rf
  have hl := lv_entry ([.long v0, .int (nI n0)]) (n := 6) (Nat.le_of_ble_eq_true rfl)
  rw [lg_entry_eq]
  generalize (lg_sl ([.long v0, .int (nI n0)]) ++ List.replicate (6 - (lg_sl ([.long v0, .int (nI n0)])).length) Slot.unset).toArray = ls at hl ⊢
  have hl : lv_has ls 6 [(0, .long v0), (2, .int (nI n0))] := hl
  refine lv_lload_n hx hb d_Mo_wide_0 rfl (lv_at hl 0 rfl) ?_
  refine lv_lstore_n (lv' := [(3, .long v0), (0, .long v0), (2, .int (nI n0))]) hx hb d_Mo_wide_1 rfl hl (by decide) rfl (fun ls hl => ?_)
  refine lv_iconst (v := 0) hx hb d_Mo_wide_2 (by decide) ?_
  refine lv_istore (lv' := [(5, .int 0), (3, .long v0), (0, .long v0), (2, .int (nI n0))]) hx hb d_Mo_wide_3 hl (by decide) rfl (fun ls hl => ?_)
  have loop_1 : ∀ (n i : Nat) (b0 : Int64) (H : Heap) (locs : List Loc) (ls : Array Slot), i ≤ n0 → n0 + 1 ≤ i + n → (b0 = moWd v0 i) → hv D vwCl N0 V H → va_S (hA N0) s.heap H locs → lv_has ls 6 [(0, .long v0), (2, .int (nI n0)), (3, .long b0), (5, .int (nI i))] → W p l e (headSpec (.code y_Mo_wide b_Mo_wide 6 (some .long) :: WS) ({ frames := 0, cells := 0, slots := 0, locals := 0 })).room s m #[.long v0, .int (nI n0)] below meth c H locs 0 0 (MQ below (va_Ql (fun r V' => r = moWd v0 n0 ∧ V' = V) (mB D N0) (hA N0)) #[.long v0, .int (nI n0)] s 0 0 (hA N0)) (F0 m 5 ls []) := by
    intro n
    induction n with
    | zero => intro i b0 H locs ls h1 h2; exact absurd h2 (by omega)
    | succ n ih =>
      intro i b0 H locs ls hi hin hI hV hS hl
      refine lv_iload hx hb d_Mo_wide_5 (lv_at hl 3 rfl) ?_
      refine lv_iload_n hx hb d_Mo_wide_7 rfl (lv_at hl 1 rfl) ?_
      refine lv_icmp_ge (tgt := 31) hx hb d_Mo_wide_8 (by decide) (fun c_2 => ?_) (fun c_2 => ?_)
      · have hge : n0 ≤ i := nI_le' c_2 (by omega) (by omega)
        refine lv_lload_n hx hb d_Mo_wide_31 rfl (lv_at hl 2 rfl) ?_
        exact W.lret (v := b0) hx hb hr (fun t9 ht hW => ⟨⟨b0, V, rfl, ⟨by rw [hI, show i = n0 by omega], rfl⟩, mB_of ht hV⟩, hS.F ht⟩) hS.2.2 d_Mo_wide_32
      · have hlt : i < n0 := nI_nle' c_2 (by omega) (by omega)
        refine lv_lload_n hx hb d_Mo_wide_11 rfl (lv_at hl 2 rfl) ?_
        refine lv_lload_n hx hb d_Mo_wide_12 rfl (lv_at hl 2 rfl) ?_
        refine lv_iconst (v := 1) hx hb d_Mo_wide_13 (by decide) ?_
        refine lv_lshl hx hb d_Mo_wide_14 rfl ?_
        refine lv_lor hx hb d_Mo_wide_15 ?_
        refine lv_lload_n hx hb d_Mo_wide_16 rfl (lv_at hl 2 rfl) ?_
        refine lv_iconst (v := 1) hx hb d_Mo_wide_17 (by decide) ?_
        refine lv_lshr hx hb d_Mo_wide_18 rfl ?_
        refine lv_lor hx hb d_Mo_wide_19 ?_
        refine lv_ldc2 (v := 4294967295) hx hb hown (hW _ wql_Mo_201) d_Mo_wide_20 ?_
        refine lv_land hx hb d_Mo_wide_23 ?_
        refine lv_lstore_n (lv' := [(3, .long (((b0 ||| (b0 <<< ((1 : Int32).toInt64 &&& 63))) ||| (b0 >>> ((1 : Int32).toInt64 &&& 63))) &&& 4294967295)), (0, .long v0), (2, .int (nI n0)), (5, .int (nI i))]) hx hb d_Mo_wide_24 rfl hl (by decide) rfl (fun ls hl => ?_)
        obtain ⟨i_3, ei_3⟩ : ∃ y : Int32, y = (nI i) + 1 := ⟨_, rfl⟩
        refine lv_iinc (v := i_3) (lv' := [(5, .int i_3), (3, .long (((b0 ||| (b0 <<< ((1 : Int32).toInt64 &&& 63))) ||| (b0 >>> ((1 : Int32).toInt64 &&& 63))) &&& 4294967295)), (0, .long v0), (2, .int (nI n0))]) hx hb d_Mo_wide_25 hl (k := 3) rfl (by rw [ei_3]; rfl) (by decide) rfl (fun ls hl => ?_)
        refine lv_goto (tgt := 5) hx hb d_Mo_wide_28 (by decide) ?_
        rw [nI_1] at ei_3
        subst ei_3
        exact ih (i + 1) (((b0 ||| (b0 <<< ((1 : Int32).toInt64 &&& 63))) ||| (b0 >>> ((1 : Int32).toInt64 &&& 63))) &&& 4294967295) _ _ _ (by omega) (by omega) (by rw [hI]; rfl) hV hS (lv_sub hl [2, 3, 1, 0] rfl)
  exact loop_1 (n0 + 1 - 0) 0 v0 _ _ _ (by omega) (by omega) rfl hV hS (lv_sub hl [2, 3, 1, 0] rfl)
set_option maxHeartbeats 4000000 in
set_option maxRecDepth 100000 in
/-- isOn -/
theorem c_Mo_isOn (l : Launch) (D : va_G) (N0 : Nat) (k : Nat → Nat) (V : HV) (mo : Nat) (ad : Nat → Nat) (ρ : MS) (hM : mdOk k V mo ad ρ) (t : Nat) (ht : t < 150) (la : Int32) : Met l y_Mo_isOn (.code y_Mo_isOn b_Mo_isOn 3 (some .boolean) :: WS) ({ frames := 1, cells := 0, slots := 0, locals := 20 }) (mP D N0 k [.ref mo, .int (nI t), .int la] V) (va_Qi (fun r V' => r = bI (moOn ρ.I t la) ∧ V' = V) (mB D N0) (hA N0)) 0 0 (hA N0) := by
  refine Met.ofW (cc := b_Mo_isOn) (maxL := 3) (ret := (some .boolean)) (by decide) rfl ?_
  intro p e s m args below meth c s₁ B hml hv0
  obtain ⟨rfl, hG, hV⟩ := hv0
  have hx := B.exec
  have hb := B.bytes
  have hr := B.returns
  have hts := atoms_spec (ws := .code y_Mo_isOn b_Mo_isOn 3 (some .boolean) :: WS) B.pre
  have hW : ∀ w ∈ WS, w.before _ s = true := fun w h => hts w (List.mem_cons_of_mem _ h)
  have hown : s.vm.findClass "BoardHouseModel" = some m.cls := findClass_of_methodNamed B.named
  have hlocks := B.notSynchronized
  have hS : va_S (hA N0) s.heap s.heap [] := va_S.rf
  have hl := lv_entry ([.ref mo, .int (nI t), .int la]) (n := 3) (Nat.le_of_ble_eq_true rfl)
  rw [lg_entry_eq]
  generalize (lg_sl ([.ref mo, .int (nI t), .int la]) ++ List.replicate (3 - (lg_sl ([.ref mo, .int (nI t), .int la])).length) Slot.unset).toArray = ls at hl ⊢
  have hl : lv_has ls 3 [(0, .ref mo), (1, .int (nI t)), (2, .int la)] := hl
  have hm_1 : V mo = some (.inr (7, [.int (ρ.s 0), .int (ρ.s 1), .int (ρ.s 2), .int (ρ.s 3), .ref (ad 0), .ref (ad 1), .ref (ad 2), .ref (ad 3), .ref (ad 4), .ref (ad 5), .ref (ad 6), .ref (ad 7), .ref (ad 8), .int (ρ.s 4), .ref (ad 9), .ref (ad 10), .ref (ad 11), .ref (ad 12), .ref (ad 13), .ref (ad 14), .ref (ad 15), .ref (ad 16), .ref (ad 17), .ref (ad 18), .ref (ad 19), .ref (ad 20), .ref (ad 21), .ref (ad 22), .ref (ad 23), .ref (ad 24), .ref (ad 25)])) := hM.1
  have hm_1_6 : V (ad 6) = some (eI k 150 (ρ.I 6)) := hM.a6
  refine lv_iload_n hx hb d_Mo_isOn_0 rfl (lv_at hl 1 rfl) ?_
  refine rc_i (va_runS (As := [.int (nI t)]) (rest := []) ⟨hx, hb, hml, hown, hts⟩ (c_Mo_kindOf l D N0 k V (nI t)) (va_cwS 1 hts (gi_S wm_Mo_103 wt_Mo_kindOf wi_Mo wc_Mo_kindOf) rfl rfl rfl (by decide +kernel) ⟨Nat.le_of_ble_eq_true rfl, Nat.le_of_ble_eq_true rfl⟩) (mP.preS hG hS hV) rfl rfl hl.1 rfl (lv_room (Nat.le_of_ble_eq_true rfl)) d_Mo_isOn_1 ⟨Nat.le_of_ble_eq_true rfl, Nat.le_of_ble_eq_true rfl⟩) hS (fun H locs hV hS => ?_)
  refine lv_iconst (v := 3) hx hb d_Mo_isOn_4 (by decide) ?_
  refine lv_icmp_eq (tgt := 18) hx hb d_Mo_isOn_5 (by decide) (fun c_2 => ?_) (fun c_2 => ?_)
  · refine lv_iconst (v := 1) hx hb d_Mo_isOn_18 (by decide) ?_
    refine lv_goto (tgt := 23) hx hb d_Mo_isOn_19 (by decide) ?_
    try simp only [bI_ne0, bI_eq0] at c_2
    exact W.zret (v := 1) hx hb hr rfl (fun t9 ht hW => ⟨⟨1, V, rfl, ⟨by first | (simp [bI, moOn, c_2]; done) | (simp_all [bI, moOn]; done), rfl⟩, mB_of ht hV⟩, hS.F ht⟩) hS.2.2 d_Mo_isOn_23
  · refine lv_aload_n hx hb d_Mo_isOn_8 rfl (lv_at hl 0 rfl) ?_
    refine gf_Mo_29 hx hb hW hown hG hV hm_1 d_Mo_isOn_9 ?_
    refine lv_iload_n hx hb d_Mo_isOn_12 rfl (lv_at hl 1 rfl) ?_
    refine hv_iald hx hb hG.K hV 0 hm_1_6 rfl (vp_in_nI (by omega) (by omega)) d_Mo_isOn_13 ?_
    rw [nI_clamp (by omega)]
    refine lv_iload_n hx hb d_Mo_isOn_14 rfl (lv_at hl 2 rfl) ?_
    refine lv_icmp_ne (tgt := 22) hx hb d_Mo_isOn_15 (by decide) (fun c_3 => ?_) (fun c_3 => ?_)
    · refine lv_iconst (v := 0) hx hb d_Mo_isOn_22 (by decide) ?_
      try simp only [bI_ne0, bI_eq0] at c_2
      try simp only [bI_ne0, bI_eq0] at c_3
      exact W.zret (v := 0) hx hb hr rfl (fun t9 ht hW => ⟨⟨0, V, rfl, ⟨by first | (simp [bI, moOn, c_2, c_3]; done) | (simp_all [bI, moOn]; done), rfl⟩, mB_of ht hV⟩, hS.F ht⟩) hS.2.2 d_Mo_isOn_23
    · refine lv_iconst (v := 1) hx hb d_Mo_isOn_18 (by decide) ?_
      refine lv_goto (tgt := 23) hx hb d_Mo_isOn_19 (by decide) ?_
      try simp only [bI_ne0, bI_eq0] at c_2
      try simp only [bI_ne0, bI_eq0] at c_3
      exact W.zret (v := 1) hx hb hr rfl (fun t9 ht hW => ⟨⟨1, V, rfl, ⟨by first | (simp [bI, moOn, c_2, c_3]; done) | (simp_all [bI, moOn]; done), rfl⟩, mB_of ht hV⟩, hS.F ht⟩) hS.2.2 d_Mo_isOn_23
set_option maxHeartbeats 4000000 in
set_option maxRecDepth 100000 in
/-- hasPlane -/
theorem c_Mo_hasPlane (l : Launch) (D : va_G) (N0 : Nat) (k : Nat → Nat) (V : HV) (mo : Nat) (ad : Nat → Nat) (ρ : MS) (hM : mdOk k V mo ad ρ) (ne la : Int32) (n5 : Nat) (hn5 : n5 ≤ 10) (en5 : ρ.I 0 5 = nI n5) : Met l y_Mo_hasPlane (.code y_Mo_hasPlane b_Mo_hasPlane 5 (some .boolean) :: WS) ({ frames := 0, cells := 0, slots := 0, locals := 0 }) (mP D N0 k [.ref mo, .int ne, .int la] V) (va_Qi (fun r V' => r = bI (anyF (moHpP ρ.I ne la) 140 n5) ∧ V' = V) (mB D N0) (hA N0)) 0 0 (hA N0) := by
  refine Met.ofW (cc := b_Mo_hasPlane) (maxL := 5) (ret := (some .boolean)) (by decide) rfl ?_
  intro p e s m args below meth c s₁ B hml hv0
  obtain ⟨rfl, hG, hV⟩ := hv0
  have hx := B.exec
  have hb := B.bytes
  have hr := B.returns
  have hts := atoms_spec (ws := .code y_Mo_hasPlane b_Mo_hasPlane 5 (some .boolean) :: WS) B.pre
  have hW : ∀ w ∈ WS, w.before _ s = true := fun w h => hts w (List.mem_cons_of_mem _ h)
  have hown : s.vm.findClass "BoardHouseModel" = some m.cls := findClass_of_methodNamed B.named
  have hlocks := B.notSynchronized
  have hS : va_S (hA N0) s.heap s.heap [] := va_S.rf
  have hl := lv_entry ([.ref mo, .int ne, .int la]) (n := 5) (Nat.le_of_ble_eq_true rfl)
  rw [lg_entry_eq]
  generalize (lg_sl ([.ref mo, .int ne, .int la]) ++ List.replicate (5 - (lg_sl ([.ref mo, .int ne, .int la])).length) Slot.unset).toArray = ls at hl ⊢
  have hl : lv_has ls 5 [(0, .ref mo), (1, .int ne), (2, .int la)] := hl
  have hm_1 : V mo = some (.inr (7, [.int (ρ.s 0), .int (ρ.s 1), .int (ρ.s 2), .int (ρ.s 3), .ref (ad 0), .ref (ad 1), .ref (ad 2), .ref (ad 3), .ref (ad 4), .ref (ad 5), .ref (ad 6), .ref (ad 7), .ref (ad 8), .int (ρ.s 4), .ref (ad 9), .ref (ad 10), .ref (ad 11), .ref (ad 12), .ref (ad 13), .ref (ad 14), .ref (ad 15), .ref (ad 16), .ref (ad 17), .ref (ad 18), .ref (ad 19), .ref (ad 20), .ref (ad 21), .ref (ad 22), .ref (ad 23), .ref (ad 24), .ref (ad 25)])) := hM.1
  have hm_1_0 : V (ad 0) = some (eI k 8 (ρ.I 0)) := hM.a0
  have hm_1_1 : V (ad 1) = some (eZ k 150 (ρ.I 1)) := hM.a1
  have hm_1_6 : V (ad 6) = some (eI k 150 (ρ.I 6)) := hM.a6
  have hm_1_7 : V (ad 7) = some (eI k 150 (ρ.I 7)) := hM.a7
  refine lv_iconst (v := 0) hx hb d_Mo_hasPlane_0 (by decide) ?_
  refine lv_istore_n (lv' := [(3, .int 0), (0, .ref mo), (1, .int ne), (2, .int la)]) hx hb d_Mo_hasPlane_1 rfl hl (by decide) rfl (fun ls hl => ?_)
  refine lv_sipush (v := 140) hx hb d_Mo_hasPlane_2 (by decide) ?_
  refine lv_istore (lv' := [(4, .int 140), (3, .int 0), (0, .ref mo), (1, .int ne), (2, .int la)]) hx hb d_Mo_hasPlane_5 hl (by decide) rfl (fun ls hl => ?_)
  obtain ⟨Pb, hPb⟩ : ∃ z, z = moHpP ρ.I ne la := ⟨_, rfl⟩
  have loop_2 : ∀ (n i : Nat) (H : Heap) (locs : List Loc) (ls : Array Slot), i ≤ (140 + n5) → (140 + n5) + 1 ≤ i + n → (140 ≤ i) → hv D vwCl N0 V H → va_S (hA N0) s.heap H locs → lv_has ls 5 [(0, .ref mo), (1, .int ne), (2, .int la), (3, .int (bI (anyF Pb 140 (i - 140)))), (4, .int (nI i))] → W p l e (headSpec (.code y_Mo_hasPlane b_Mo_hasPlane 5 (some .boolean) :: WS) ({ frames := 0, cells := 0, slots := 0, locals := 0 })).room s m #[.ref mo, .int ne, .int la] below meth c H locs 0 0 (MQ below (va_Qi (fun r V' => r = bI (anyF (moHpP ρ.I ne la) 140 n5) ∧ V' = V) (mB D N0) (hA N0)) #[.ref mo, .int ne, .int la] s 0 0 (hA N0)) (F0 m 7 ls []) := by
    intro n
    induction n with
    | zero => intro i  H locs ls h1 h2; exact absurd h2 (by omega)
    | succ n ih =>
      intro i  H locs ls hi hin hI hV hS hl
      refine lv_iload hx hb d_Mo_hasPlane_7 (lv_at hl 4 rfl) ?_
      refine lv_sipush (v := 140) hx hb d_Mo_hasPlane_9 (by decide) ?_
      refine lv_aload_n hx hb d_Mo_hasPlane_12 rfl (lv_at hl 0 rfl) ?_
      refine gf_Mo_7 hx hb hW hown hG hV hm_1 d_Mo_hasPlane_13 ?_
      refine lv_iconst (v := 5) hx hb d_Mo_hasPlane_16 (by decide) ?_
      refine hv_iald hx hb hG.K hV 0 hm_1_0 rfl ((vp_in_nI (by omega) (by omega) : vp_in (nI 5) 8)) d_Mo_hasPlane_17 ?_
      rw [show (5 : Int32).toNatClampNeg = 5 from rfl]
      refine lv_iadd hx hb d_Mo_hasPlane_18 ?_
      refine W.eq (g2 := F0 m 19 ls [.int (nI (140 + n5)), .int (nI i)]) (by rw [en5, show (140 : Int32) = nI 140 from rfl, nI_add]) ?_
      refine lv_icmp_ge (tgt := 70) hx hb d_Mo_hasPlane_19 (by decide) (fun c_3 => ?_) (fun c_3 => ?_)
      · have hge : (140 + n5) ≤ i := nI_le' c_3 (by omega) (by omega)
        refine lv_iload_n hx hb d_Mo_hasPlane_70 rfl (lv_at hl 3 rfl) ?_
        exact W.zret (v := (bI (anyF Pb 140 (i - 140)))) hx hb hr (bI_nar _) (fun t9 ht hW => ⟨⟨(bI (anyF Pb 140 (i - 140))), V, rfl, ⟨by rw [show i - 140 = n5 by omega, hPb], rfl⟩, mB_of ht hV⟩, hS.F ht⟩) hS.2.2 d_Mo_hasPlane_71
      · have hlt : i < (140 + n5) := nI_nle' c_3 (by omega) (by omega)
        refine lv_iload_n hx hb d_Mo_hasPlane_22 rfl (lv_at hl 3 rfl) ?_
        refine lv_if_ne (tgt := 58) hx hb d_Mo_hasPlane_23 (by decide) (fun c_4 => ?_) (fun c_4 => ?_)
        · refine lv_iconst (v := 1) hx hb d_Mo_hasPlane_58 (by decide) ?_
          refine lv_goto (tgt := 63) hx hb d_Mo_hasPlane_59 (by decide) ?_
          refine lv_istore_n (lv' := [(3, .int 1), (0, .ref mo), (1, .int ne), (2, .int la), (4, .int (nI i))]) hx hb d_Mo_hasPlane_63 rfl hl (by decide) rfl (fun ls hl => ?_)
          obtain ⟨i_5, ei_5⟩ : ∃ y : Int32, y = (nI i) + 1 := ⟨_, rfl⟩
          refine lv_iinc (v := i_5) (lv' := [(4, .int i_5), (3, .int 1), (0, .ref mo), (1, .int ne), (2, .int la)]) hx hb d_Mo_hasPlane_64 hl (k := 4) rfl (by rw [ei_5]; rfl) (by decide) rfl (fun ls hl => ?_)
          refine lv_goto (tgt := 7) hx hb d_Mo_hasPlane_67 (by decide) ?_
          rw [nI_1] at ei_5
          subst ei_5
          try simp only [bI_ne0, bI_eq0, decide_eq_true_eq, decide_eq_false_iff_not, Bool.not_eq_false, Bool.not_eq_true, Decidable.not_not] at c_3
          try simp only [bI_ne0, bI_eq0, decide_eq_true_eq, decide_eq_false_iff_not, Bool.not_eq_false, Bool.not_eq_true, Decidable.not_not] at c_4
          have hb9 : bI (anyF Pb 140 (i + 1 - 140)) = 1 := by
            rw [show i + 1 - 140 = (i - 140) + 1 by omega, anyF_snoc, show 140 + (i - 140) = i by omega]
            subst hPb
            first | (simp [bI, moHpP, c_4]; done) | (simp_all [bI, moHpP]; done)
          exact ih (i + 1)  _ _ _ (by omega) (by omega) (by omega) hV hS (lv_sub hl [2, 3, 4, 1, 0] (by rw [hb9]; rfl))
        · refine lv_aload_n hx hb d_Mo_hasPlane_26 rfl (lv_at hl 0 rfl) ?_
          refine gf_Mo_13 hx hb hW hown hG hV hm_1 d_Mo_hasPlane_27 ?_
          refine lv_iload hx hb d_Mo_hasPlane_30 (lv_at hl 4 rfl) ?_
          refine hv_zald hx hb hG.K hV 2 hm_1_1 rfl (vp_in_nI (by omega) (by omega)) d_Mo_hasPlane_32 ?_
          rw [nI_clamp (by omega)]
          refine lv_if_eq (tgt := 62) hx hb d_Mo_hasPlane_33 (by decide) (fun c_6 => ?_) (fun c_6 => ?_)
          · refine lv_iconst (v := 0) hx hb d_Mo_hasPlane_62 (by decide) ?_
            refine lv_istore_n (lv' := [(3, .int 0), (0, .ref mo), (1, .int ne), (2, .int la), (4, .int (nI i))]) hx hb d_Mo_hasPlane_63 rfl hl (by decide) rfl (fun ls hl => ?_)
            obtain ⟨i_7, ei_7⟩ : ∃ y : Int32, y = (nI i) + 1 := ⟨_, rfl⟩
            refine lv_iinc (v := i_7) (lv' := [(4, .int i_7), (3, .int 0), (0, .ref mo), (1, .int ne), (2, .int la)]) hx hb d_Mo_hasPlane_64 hl (k := 4) rfl (by rw [ei_7]; rfl) (by decide) rfl (fun ls hl => ?_)
            refine lv_goto (tgt := 7) hx hb d_Mo_hasPlane_67 (by decide) ?_
            rw [nI_1] at ei_7
            subst ei_7
            try simp only [bI_ne0, bI_eq0, decide_eq_true_eq, decide_eq_false_iff_not, Bool.not_eq_false, Bool.not_eq_true, Decidable.not_not] at c_3
            try simp only [bI_ne0, bI_eq0, decide_eq_true_eq, decide_eq_false_iff_not, Bool.not_eq_false, Bool.not_eq_true, Decidable.not_not] at c_4
            try simp only [bI_ne0, bI_eq0, decide_eq_true_eq, decide_eq_false_iff_not, Bool.not_eq_false, Bool.not_eq_true, Decidable.not_not] at c_6
            have hb9 : bI (anyF Pb 140 (i + 1 - 140)) = 0 := by
              rw [show i + 1 - 140 = (i - 140) + 1 by omega, anyF_snoc, show 140 + (i - 140) = i by omega]
              subst hPb
              first | (simp [bI, moHpP, c_4, c_6]; done) | (simp_all [bI, moHpP]; done)
            exact ih (i + 1)  _ _ _ (by omega) (by omega) (by omega) hV hS (lv_sub hl [2, 3, 4, 1, 0] (by rw [hb9]; rfl))
          · refine lv_aload_n hx hb d_Mo_hasPlane_36 rfl (lv_at hl 0 rfl) ?_
            refine gf_Mo_32 hx hb hW hown hG hV hm_1 d_Mo_hasPlane_37 ?_
            refine lv_iload hx hb d_Mo_hasPlane_40 (lv_at hl 4 rfl) ?_
            refine hv_iald hx hb hG.K hV 0 hm_1_7 rfl (vp_in_nI (by omega) (by omega)) d_Mo_hasPlane_42 ?_
            rw [nI_clamp (by omega)]
            refine lv_iload_n hx hb d_Mo_hasPlane_43 rfl (lv_at hl 1 rfl) ?_
            refine lv_icmp_ne (tgt := 62) hx hb d_Mo_hasPlane_44 (by decide) (fun c_8 => ?_) (fun c_8 => ?_)
            · refine lv_iconst (v := 0) hx hb d_Mo_hasPlane_62 (by decide) ?_
              refine lv_istore_n (lv' := [(3, .int 0), (0, .ref mo), (1, .int ne), (2, .int la), (4, .int (nI i))]) hx hb d_Mo_hasPlane_63 rfl hl (by decide) rfl (fun ls hl => ?_)
              obtain ⟨i_9, ei_9⟩ : ∃ y : Int32, y = (nI i) + 1 := ⟨_, rfl⟩
              refine lv_iinc (v := i_9) (lv' := [(4, .int i_9), (3, .int 0), (0, .ref mo), (1, .int ne), (2, .int la)]) hx hb d_Mo_hasPlane_64 hl (k := 4) rfl (by rw [ei_9]; rfl) (by decide) rfl (fun ls hl => ?_)
              refine lv_goto (tgt := 7) hx hb d_Mo_hasPlane_67 (by decide) ?_
              rw [nI_1] at ei_9
              subst ei_9
              try simp only [bI_ne0, bI_eq0, decide_eq_true_eq, decide_eq_false_iff_not, Bool.not_eq_false, Bool.not_eq_true, Decidable.not_not] at c_3
              try simp only [bI_ne0, bI_eq0, decide_eq_true_eq, decide_eq_false_iff_not, Bool.not_eq_false, Bool.not_eq_true, Decidable.not_not] at c_4
              try simp only [bI_ne0, bI_eq0, decide_eq_true_eq, decide_eq_false_iff_not, Bool.not_eq_false, Bool.not_eq_true, Decidable.not_not] at c_6
              try simp only [bI_ne0, bI_eq0, decide_eq_true_eq, decide_eq_false_iff_not, Bool.not_eq_false, Bool.not_eq_true, Decidable.not_not] at c_8
              have hb9 : bI (anyF Pb 140 (i + 1 - 140)) = 0 := by
                rw [show i + 1 - 140 = (i - 140) + 1 by omega, anyF_snoc, show 140 + (i - 140) = i by omega]
                subst hPb
                first | (simp [bI, moHpP, c_4, c_6, c_8]; done) | (simp_all [bI, moHpP]; done)
              exact ih (i + 1)  _ _ _ (by omega) (by omega) (by omega) hV hS (lv_sub hl [2, 3, 4, 1, 0] (by rw [hb9]; rfl))
            · refine lv_aload_n hx hb d_Mo_hasPlane_47 rfl (lv_at hl 0 rfl) ?_
              refine gf_Mo_29 hx hb hW hown hG hV hm_1 d_Mo_hasPlane_48 ?_
              refine lv_iload hx hb d_Mo_hasPlane_51 (lv_at hl 4 rfl) ?_
              refine hv_iald hx hb hG.K hV 0 hm_1_6 rfl (vp_in_nI (by omega) (by omega)) d_Mo_hasPlane_53 ?_
              rw [nI_clamp (by omega)]
              refine lv_iload_n hx hb d_Mo_hasPlane_54 rfl (lv_at hl 2 rfl) ?_
              refine lv_icmp_ne (tgt := 62) hx hb d_Mo_hasPlane_55 (by decide) (fun c_10 => ?_) (fun c_10 => ?_)
              · refine lv_iconst (v := 0) hx hb d_Mo_hasPlane_62 (by decide) ?_
                refine lv_istore_n (lv' := [(3, .int 0), (0, .ref mo), (1, .int ne), (2, .int la), (4, .int (nI i))]) hx hb d_Mo_hasPlane_63 rfl hl (by decide) rfl (fun ls hl => ?_)
                obtain ⟨i_11, ei_11⟩ : ∃ y : Int32, y = (nI i) + 1 := ⟨_, rfl⟩
                refine lv_iinc (v := i_11) (lv' := [(4, .int i_11), (3, .int 0), (0, .ref mo), (1, .int ne), (2, .int la)]) hx hb d_Mo_hasPlane_64 hl (k := 4) rfl (by rw [ei_11]; rfl) (by decide) rfl (fun ls hl => ?_)
                refine lv_goto (tgt := 7) hx hb d_Mo_hasPlane_67 (by decide) ?_
                rw [nI_1] at ei_11
                subst ei_11
                try simp only [bI_ne0, bI_eq0, decide_eq_true_eq, decide_eq_false_iff_not, Bool.not_eq_false, Bool.not_eq_true, Decidable.not_not] at c_3
                try simp only [bI_ne0, bI_eq0, decide_eq_true_eq, decide_eq_false_iff_not, Bool.not_eq_false, Bool.not_eq_true, Decidable.not_not] at c_4
                try simp only [bI_ne0, bI_eq0, decide_eq_true_eq, decide_eq_false_iff_not, Bool.not_eq_false, Bool.not_eq_true, Decidable.not_not] at c_6
                try simp only [bI_ne0, bI_eq0, decide_eq_true_eq, decide_eq_false_iff_not, Bool.not_eq_false, Bool.not_eq_true, Decidable.not_not] at c_8
                try simp only [bI_ne0, bI_eq0, decide_eq_true_eq, decide_eq_false_iff_not, Bool.not_eq_false, Bool.not_eq_true, Decidable.not_not] at c_10
                have hb9 : bI (anyF Pb 140 (i + 1 - 140)) = 0 := by
                  rw [show i + 1 - 140 = (i - 140) + 1 by omega, anyF_snoc, show 140 + (i - 140) = i by omega]
                  subst hPb
                  first | (simp [bI, moHpP, c_4, c_6, c_8, c_10]; done) | (simp_all [bI, moHpP]; done)
                exact ih (i + 1)  _ _ _ (by omega) (by omega) (by omega) hV hS (lv_sub hl [2, 3, 4, 1, 0] (by rw [hb9]; rfl))
              · refine lv_iconst (v := 1) hx hb d_Mo_hasPlane_58 (by decide) ?_
                refine lv_goto (tgt := 63) hx hb d_Mo_hasPlane_59 (by decide) ?_
                refine lv_istore_n (lv' := [(3, .int 1), (0, .ref mo), (1, .int ne), (2, .int la), (4, .int (nI i))]) hx hb d_Mo_hasPlane_63 rfl hl (by decide) rfl (fun ls hl => ?_)
                obtain ⟨i_12, ei_12⟩ : ∃ y : Int32, y = (nI i) + 1 := ⟨_, rfl⟩
                refine lv_iinc (v := i_12) (lv' := [(4, .int i_12), (3, .int 1), (0, .ref mo), (1, .int ne), (2, .int la)]) hx hb d_Mo_hasPlane_64 hl (k := 4) rfl (by rw [ei_12]; rfl) (by decide) rfl (fun ls hl => ?_)
                refine lv_goto (tgt := 7) hx hb d_Mo_hasPlane_67 (by decide) ?_
                rw [nI_1] at ei_12
                subst ei_12
                try simp only [bI_ne0, bI_eq0, decide_eq_true_eq, decide_eq_false_iff_not, Bool.not_eq_false, Bool.not_eq_true, Decidable.not_not] at c_3
                try simp only [bI_ne0, bI_eq0, decide_eq_true_eq, decide_eq_false_iff_not, Bool.not_eq_false, Bool.not_eq_true, Decidable.not_not] at c_4
                try simp only [bI_ne0, bI_eq0, decide_eq_true_eq, decide_eq_false_iff_not, Bool.not_eq_false, Bool.not_eq_true, Decidable.not_not] at c_6
                try simp only [bI_ne0, bI_eq0, decide_eq_true_eq, decide_eq_false_iff_not, Bool.not_eq_false, Bool.not_eq_true, Decidable.not_not] at c_8
                try simp only [bI_ne0, bI_eq0, decide_eq_true_eq, decide_eq_false_iff_not, Bool.not_eq_false, Bool.not_eq_true, Decidable.not_not] at c_10
                have hb9 : bI (anyF Pb 140 (i + 1 - 140)) = 1 := by
                  rw [show i + 1 - 140 = (i - 140) + 1 by omega, anyF_snoc, show 140 + (i - 140) = i by omega]
                  subst hPb
                  first | (simp [bI, moHpP, c_4, c_6, c_8, c_10]; done) | (simp_all [bI, moHpP]; done)
                exact ih (i + 1)  _ _ _ (by omega) (by omega) (by omega) hV hS (lv_sub hl [2, 3, 4, 1, 0] (by rw [hb9]; rfl))
  exact loop_2 ((140 + n5) + 1 - 140) 140  _ _ _ (by omega) (by omega) (by omega) hV hS (lv_sub hl [2, 3, 4, 1, 0] rfl)
set_option maxHeartbeats 4000000 in
set_option maxRecDepth 100000 in
/-- isPadOf -/
theorem c_Mo_isPadOf (l : Launch) (D : va_G) (N0 : Nat) (k : Nat → Nat) (V : HV) (mo : Nat) (ad : Nat → Nat) (ρ : MS) (hM : mdOk k V mo ad ρ) (t : Nat) (ht : t < 150) (ne : Int32) : Met l y_Mo_isPadOf (.code y_Mo_isPadOf b_Mo_isPadOf 3 (some .boolean) :: WS) ({ frames := 0, cells := 0, slots := 0, locals := 0 }) (mP D N0 k [.ref mo, .int (nI t), .int ne] V) (va_Qi (fun r V' => r = bI (moPdP ρ.I ne t) ∧ V' = V) (mB D N0) (hA N0)) 0 0 (hA N0) := by
  refine Met.ofW (cc := b_Mo_isPadOf) (maxL := 3) (ret := (some .boolean)) (by decide) rfl ?_
  intro p e s m args below meth c s₁ B hml hv0
  obtain ⟨rfl, hG, hV⟩ := hv0
  have hx := B.exec
  have hb := B.bytes
  have hr := B.returns
  have hts := atoms_spec (ws := .code y_Mo_isPadOf b_Mo_isPadOf 3 (some .boolean) :: WS) B.pre
  have hW : ∀ w ∈ WS, w.before _ s = true := fun w h => hts w (List.mem_cons_of_mem _ h)
  have hown : s.vm.findClass "BoardHouseModel" = some m.cls := findClass_of_methodNamed B.named
  have hlocks := B.notSynchronized
  have hS : va_S (hA N0) s.heap s.heap [] := va_S.rf
  have hl := lv_entry ([.ref mo, .int (nI t), .int ne]) (n := 3) (Nat.le_of_ble_eq_true rfl)
  rw [lg_entry_eq]
  generalize (lg_sl ([.ref mo, .int (nI t), .int ne]) ++ List.replicate (3 - (lg_sl ([.ref mo, .int (nI t), .int ne])).length) Slot.unset).toArray = ls at hl ⊢
  have hl : lv_has ls 3 [(0, .ref mo), (1, .int (nI t)), (2, .int ne)] := hl
  have hm_1 : V mo = some (.inr (7, [.int (ρ.s 0), .int (ρ.s 1), .int (ρ.s 2), .int (ρ.s 3), .ref (ad 0), .ref (ad 1), .ref (ad 2), .ref (ad 3), .ref (ad 4), .ref (ad 5), .ref (ad 6), .ref (ad 7), .ref (ad 8), .int (ρ.s 4), .ref (ad 9), .ref (ad 10), .ref (ad 11), .ref (ad 12), .ref (ad 13), .ref (ad 14), .ref (ad 15), .ref (ad 16), .ref (ad 17), .ref (ad 18), .ref (ad 19), .ref (ad 20), .ref (ad 21), .ref (ad 22), .ref (ad 23), .ref (ad 24), .ref (ad 25)])) := hM.1
  have hm_1_1 : V (ad 1) = some (eZ k 150 (ρ.I 1)) := hM.a1
  have hm_1_7 : V (ad 7) = some (eI k 150 (ρ.I 7)) := hM.a7
  refine lv_aload_n hx hb d_Mo_isPadOf_0 rfl (lv_at hl 0 rfl) ?_
  refine gf_Mo_13 hx hb hW hown hG hV hm_1 d_Mo_isPadOf_1 ?_
  refine lv_iload_n hx hb d_Mo_isPadOf_4 rfl (lv_at hl 1 rfl) ?_
  refine hv_zald hx hb hG.K hV 2 hm_1_1 rfl (vp_in_nI (by omega) (by omega)) d_Mo_isPadOf_5 ?_
  rw [nI_clamp (by omega)]
  refine lv_if_eq (tgt := 23) hx hb d_Mo_isPadOf_6 (by decide) (fun c_2 => ?_) (fun c_2 => ?_)
  · refine lv_iconst (v := 0) hx hb d_Mo_isPadOf_23 (by decide) ?_
    try simp only [bI_ne0, bI_eq0] at c_2
    exact W.zret (v := 0) hx hb hr rfl (fun t9 ht hW => ⟨⟨0, V, rfl, ⟨by first | (simp [bI, moPdP, c_2]; done) | (simp_all [bI, moPdP]; done), rfl⟩, mB_of ht hV⟩, hS.F ht⟩) hS.2.2 d_Mo_isPadOf_24
  · refine lv_aload_n hx hb d_Mo_isPadOf_9 rfl (lv_at hl 0 rfl) ?_
    refine gf_Mo_32 hx hb hW hown hG hV hm_1 d_Mo_isPadOf_10 ?_
    refine lv_iload_n hx hb d_Mo_isPadOf_13 rfl (lv_at hl 1 rfl) ?_
    refine hv_iald hx hb hG.K hV 0 hm_1_7 rfl (vp_in_nI (by omega) (by omega)) d_Mo_isPadOf_14 ?_
    rw [nI_clamp (by omega)]
    refine lv_iload_n hx hb d_Mo_isPadOf_15 rfl (lv_at hl 2 rfl) ?_
    refine lv_icmp_ne (tgt := 23) hx hb d_Mo_isPadOf_16 (by decide) (fun c_3 => ?_) (fun c_3 => ?_)
    · refine lv_iconst (v := 0) hx hb d_Mo_isPadOf_23 (by decide) ?_
      try simp only [bI_ne0, bI_eq0] at c_2
      try simp only [bI_ne0, bI_eq0] at c_3
      exact W.zret (v := 0) hx hb hr rfl (fun t9 ht hW => ⟨⟨0, V, rfl, ⟨by first | (simp [bI, moPdP, c_2, c_3]; done) | (simp_all [bI, moPdP]; done), rfl⟩, mB_of ht hV⟩, hS.F ht⟩) hS.2.2 d_Mo_isPadOf_24
    · refine lv_iconst (v := 1) hx hb d_Mo_isPadOf_19 (by decide) ?_
      refine lv_goto (tgt := 24) hx hb d_Mo_isPadOf_20 (by decide) ?_
      try simp only [bI_ne0, bI_eq0] at c_2
      try simp only [bI_ne0, bI_eq0] at c_3
      exact W.zret (v := 1) hx hb hr rfl (fun t9 ht hW => ⟨⟨1, V, rfl, ⟨by first | (simp [bI, moPdP, c_2, c_3]; done) | (simp_all [bI, moPdP]; done), rfl⟩, mB_of ht hV⟩, hS.F ht⟩) hS.2.2 d_Mo_isPadOf_24
set_option maxHeartbeats 4000000 in
set_option maxRecDepth 100000 in
/-- isGrown -/
theorem c_Mo_isGrown (l : Launch) (D : va_G) (N0 : Nat) (k : Nat → Nat) (V : HV) (mo : Nat) (ad : Nat → Nat) (ρ : MS) (hM : mdOk k V mo ad ρ) (t y0 : Nat) (ht : t < 150) (hy0 : y0 < 24) (ey0 : ρ.I 3 t = nI y0) : Met l y_Mo_isGrown (.code y_Mo_isGrown b_Mo_isGrown 2 (some .boolean) :: WS) ({ frames := 0, cells := 0, slots := 0, locals := 0 }) (mP D N0 k [.ref mo, .int (nI t)] V) (va_Qi (fun r V' => r = bI (moBit (ρ.L 2 y0) (ρ.I 2 t)) ∧ V' = V) (mB D N0) (hA N0)) 0 0 (hA N0) := by
  refine Met.ofW (cc := b_Mo_isGrown) (maxL := 2) (ret := (some .boolean)) (by decide) rfl ?_
  intro p e s m args below meth c s₁ B hml hv0
  obtain ⟨rfl, hG, hV⟩ := hv0
  have hx := B.exec
  have hb := B.bytes
  have hr := B.returns
  have hts := atoms_spec (ws := .code y_Mo_isGrown b_Mo_isGrown 2 (some .boolean) :: WS) B.pre
  have hW : ∀ w ∈ WS, w.before _ s = true := fun w h => hts w (List.mem_cons_of_mem _ h)
  have hown : s.vm.findClass "BoardHouseModel" = some m.cls := findClass_of_methodNamed B.named
  have hlocks := B.notSynchronized
  have hS : va_S (hA N0) s.heap s.heap [] := va_S.rf
  have hl := lv_entry ([.ref mo, .int (nI t)]) (n := 2) (Nat.le_of_ble_eq_true rfl)
  rw [lg_entry_eq]
  generalize (lg_sl ([.ref mo, .int (nI t)]) ++ List.replicate (2 - (lg_sl ([.ref mo, .int (nI t)])).length) Slot.unset).toArray = ls at hl ⊢
  have hl : lv_has ls 2 [(0, .ref mo), (1, .int (nI t))] := hl
  have hm_1 : V mo = some (.inr (7, [.int (ρ.s 0), .int (ρ.s 1), .int (ρ.s 2), .int (ρ.s 3), .ref (ad 0), .ref (ad 1), .ref (ad 2), .ref (ad 3), .ref (ad 4), .ref (ad 5), .ref (ad 6), .ref (ad 7), .ref (ad 8), .int (ρ.s 4), .ref (ad 9), .ref (ad 10), .ref (ad 11), .ref (ad 12), .ref (ad 13), .ref (ad 14), .ref (ad 15), .ref (ad 16), .ref (ad 17), .ref (ad 18), .ref (ad 19), .ref (ad 20), .ref (ad 21), .ref (ad 22), .ref (ad 23), .ref (ad 24), .ref (ad 25)])) := hM.1
  have hm_1_2 : V (ad 2) = some (eI k 150 (ρ.I 2)) := hM.a2
  have hm_1_3 : V (ad 3) = some (eI k 150 (ρ.I 3)) := hM.a3
  have hm_1_25 : V (ad 25) = some (eL k 96 (ρ.L 2)) := hM.a25
  refine lv_aload_n hx hb d_Mo_isGrown_0 rfl (lv_at hl 0 rfl) ?_
  refine gf_Mo_91 hx hb hW hown hG hV hm_1 d_Mo_isGrown_1 ?_
  refine lv_aload_n hx hb d_Mo_isGrown_4 rfl (lv_at hl 0 rfl) ?_
  refine gf_Mo_20 hx hb hW hown hG hV hm_1 d_Mo_isGrown_5 ?_
  refine lv_iload_n hx hb d_Mo_isGrown_8 rfl (lv_at hl 1 rfl) ?_
  refine hv_iald hx hb hG.K hV 0 hm_1_3 rfl (vp_in_nI (by omega) (by omega)) d_Mo_isGrown_9 ?_
  rw [nI_clamp (by omega)]
  refine W.eq (g2 := F0 m 10 ls [.int (nI y0), .ref (ad 25)]) (by rw [ey0]) ?_
  refine hv_lald hx hb hG.K hV 1 hm_1_25 rfl (vp_in_nI (by omega) (by omega)) d_Mo_isGrown_10 ?_
  rw [nI_clamp (by omega)]
  refine lv_aload_n hx hb d_Mo_isGrown_11 rfl (lv_at hl 0 rfl) ?_
  refine gf_Mo_17 hx hb hW hown hG hV hm_1 d_Mo_isGrown_12 ?_
  refine lv_iload_n hx hb d_Mo_isGrown_15 rfl (lv_at hl 1 rfl) ?_
  refine hv_iald hx hb hG.K hV 0 hm_1_2 rfl (vp_in_nI (by omega) (by omega)) d_Mo_isGrown_16 ?_
  rw [nI_clamp (by omega)]
  refine lv_lshr hx hb d_Mo_isGrown_17 rfl ?_
  refine lv_lconst (v := 1) hx hb d_Mo_isGrown_18 (by decide) ?_
  refine lv_land hx hb d_Mo_isGrown_19 ?_
  refine lv_lconst (v := 1) hx hb d_Mo_isGrown_20 (by decide) ?_
  refine lv_lcmp hx hb d_Mo_isGrown_21 ?_
  refine lv_if_ne (tgt := 29) hx hb d_Mo_isGrown_22 (by decide) (fun c_2 => ?_) (fun c_2 => ?_)
  · refine lv_iconst (v := 0) hx hb d_Mo_isGrown_29 (by decide) ?_
    rw [lcm_0] at c_2
    exact W.zret (v := 0) hx hb hr rfl (fun t9 ht hW => ⟨⟨0, V, rfl, ⟨by simp [bI, moBit, c_2], rfl⟩, mB_of ht hV⟩, hS.F ht⟩) hS.2.2 d_Mo_isGrown_30
  · refine lv_iconst (v := 1) hx hb d_Mo_isGrown_25 (by decide) ?_
    refine lv_goto (tgt := 30) hx hb d_Mo_isGrown_26 (by decide) ?_
    rw [lcm_0] at c_2
    exact W.zret (v := 1) hx hb hr rfl (fun t9 ht hW => ⟨⟨1, V, rfl, ⟨by simp [bI, moBit, c_2], rfl⟩, mB_of ht hV⟩, hS.F ht⟩) hS.2.2 d_Mo_isGrown_30
