/-! WHAT THE STATEMENT GIVES at the law's entry: the context -/
theorem not_cast {args : Array Value} {s : State} {A B : String} {a b : ClassId} (h : (Cond.not (.castable A B)).before args s = true) (ha : s.vm.findClass A = some a) (hb : s.vm.findClass B = some b) : s.vm.assignable a b = false := by
  simp only [Cond.before, Cond.holds, Cond.value, ha, hb] at h
  cases q : s.vm.assignable a b with
  | false => rfl
  | true => simp [q] at h
theorem arr_p {args : Array Value} {s : State} {ty : FieldType} (h : (Cond.arrayClass ty).before args s = true) : ∃ c, ArrOfT s c ty ∧ s.vm.findClass ("[" ++ ty.toString) = some c := by
  obtain ⟨c, k, comp, h1, h2, h3⟩ := Cond.arrayClass_spec h
  exact ⟨c, fun n z => ⟨fun k h => (by cases h), k, h2, comp, h3⟩, h1⟩
theorem arr_o {args : Array Value} {s : State} {C : String} (h : (Cond.arrayOver (.object C)).before args s = true) : ∃ c, ArrOfT s c (.object C) ∧ va_RA s c (.object C) := by
  obtain ⟨comp, c, k, h1, h2, h3, h4, h5⟩ := Cond.arrayOver_spec h
  exact ⟨c, fun n z => ⟨fun k h => (by cases h), k, h3, comp, h4⟩, k, comp, h3, h4, h1, h5⟩
theorem stat_L {args : Array Value} {s : State} {C n d : String} (hl : (Cond.laysStatic C n d).before args s = true) (hr : (Cond.isRef (.static C n d)).before args s = true) : ht_L C n d s.heap.size s := by
  obtain ⟨c, k, i, f, a, cell, h1, h2, h3, h4, h5, h6, h7, h8, h9⟩ := Cond.laysStatic_spec hl
  obtain ⟨v, hv, hrf⟩ := Cond.isRef_spec hr
  obtain ⟨-, a', cell', ha', hcell', -, hslot⟩ := Term.static_spec h2 hv
  cases h4.symm.trans ha'
  cases h5.symm.trans hcell'
  exact ⟨c, k, i, f, a, cell, v, h1, h2, h3, h4, h5, h6, h7, h8, h9, hslot, hrf, (Array.getElem?_eq_some_iff.mp h5).1⟩
set_option maxRecDepth 100000 in
theorem ctx_of {p : Program} {s : State} {m : MethodId} {meth : Method} {c : Code} {b L : Nat} {xs : Nat → Int32} (C0 : lw_At p s m meth c b L xs) : ∃ (D : va_G) (k : Nat → Nat), hG D s.heap.size k s ∧ hNC s := by
  obtain ⟨hx, hb, hr, hml, hown, hts, hX, hbl, hlocks, hgv⟩ := C0
  have hs := flat_of_before _ hgv
  have hW : ∀ w ∈ WS, w.before #[Value.ref b] s = true := fun w h => hts w (List.mem_filter.mp h).1
  have hA0 : ∀ a : Nat, a < s.heap.size → ¬ (hA s.heap.size) a := fun a h => Nat.not_le.mpr h
  obtain ⟨c0, i0, K0⟩ := u_known (C := R_Ac) (T := T_Ac) (N := 4) (n := 4) hW in_Ac (hW _ wo_Ac)
  obtain ⟨c1, i1, K1⟩ := u_known (C := R_Ar) (T := T_Ar) (N := 4) (n := 4) hW in_Ar (hW _ wo_Ar)
  obtain ⟨c2, i2, K2⟩ := u_known (C := R_Co) (T := T_Co) (N := 6) (n := 6) hW in_Co (hW _ wo_Co)
  obtain ⟨c3, i3, K3⟩ := u_known (C := R_Sh) (T := T_Sh) (N := 1) (n := 1) hW in_Sh (hW _ wo_Sh)
  obtain ⟨c4, i4, K4⟩ := u_known (C := R_Sn) (T := T_Sn) (N := 1) (n := 1) hW in_Sn (hW _ wo_Sn)
  obtain ⟨c5, i5, K5⟩ := u_known (C := R_Th) (T := T_Th) (N := 7) (n := 7) hW in_Th (hW _ wo_Th)
  obtain ⟨c6, i6, K6⟩ := u_known (C := R_Ho) (T := T_Ho) (N := 9) (n := 9) hW in_Ho (hW _ wo_Ho)
  obtain ⟨c7, i7, K7⟩ := u_known (C := R_Mo) (T := T_Mo) (N := 31) (n := 31) hW in_Mo (hW _ wo_Mo)
  obtain ⟨a0, A0, B0⟩ := arr_p (hW _ wa_int)
  obtain ⟨a1, A1, B1⟩ := arr_p (hW _ wa_long)
  obtain ⟨a2, A2, B2⟩ := arr_p (hW _ wa_boolean)
  have o3 := hts _ wao_Th
  have o4 := hts _ wao_Ac
  have o5 := hts _ wao_Sn
  have o6 := hts _ wao_Sh
  obtain ⟨a3, A3, B3⟩ := arr_o o3
  obtain ⟨a4, A4, B4⟩ := arr_o o4
  obtain ⟨a5, A5, B5⟩ := arr_o o5
  obtain ⟨a6, A6, B6⟩ := arr_o o6
  have hs' : ∀ w ∈ flatC (Jvm.Cond.and given_1 narrow_1), w.before #[Value.ref b] s = true := hs
  obtain ⟨t7, e7, T7⟩ := va_Tof (args := #[Value.ref b]) (s := s) (tm := .static "BoardHouse" "LIMITS" "[I") (ty := .int) (N := 8) (f := fun j => .int (limV j)) (A := hA s.heap.size) (by decide) (hs' _ (by decide +kernel)) (va_eqt (hs' _ (by decide +kernel))) (fun j hj => by
    rcases (show j = 0 ∨ j = 1 ∨ j = 2 ∨ j = 3 ∨ j = 4 ∨ j = 5 ∨ j = 6 ∨ j = 7 by omega) with rfl | rfl | rfl | rfl | rfl | rfl | rfl | rfl <;> exact va_eqt (hs' _ (by decide +kernel))) hA0
  obtain ⟨t8, e8, T8⟩ := va_Tof (args := #[Value.ref b]) (s := s) (tm := .static "BoardHouse" "FIRST_SLOT" "[I") (ty := .int) (N := 6) (f := fun j => .int (firV j)) (A := hA s.heap.size) (by decide) (hs' _ (by decide +kernel)) (va_eqt (hs' _ (by decide +kernel))) (fun j hj => by
    rcases (show j = 0 ∨ j = 1 ∨ j = 2 ∨ j = 3 ∨ j = 4 ∨ j = 5 by omega) with rfl | rfl | rfl | rfl | rfl | rfl <;> exact va_eqt (hs' _ (by decide +kernel))) hA0
  have Z7 := va_Zof (hts (.laysStatic "BoardHouse" "LIMITS" "[I") (by decide +kernel)) (hW _ wi_Ho) e7 hA0
  have Z8 := va_Zof (hts (.laysStatic "BoardHouse" "FIRST_SLOT" "[I") (by decide +kernel)) (hW _ wi_Ho) e8 hA0
  refine ⟨(fun q => if q = 0 then c0 else if q = 1 then c1 else if q = 2 then c2 else if q = 3 then c3 else if q = 4 then c4 else if q = 5 then c5 else if q = 6 then c6 else c7, fun q => if q = 0 then i0 else if q = 1 then i1 else if q = 2 then i2 else if q = 3 then i3 else if q = 4 then i4 else if q = 5 then i5 else if q = 6 then i6 else i7), fun q => if q = 0 then a0 else if q = 1 then a1 else if q = 2 then a2 else if q = 3 then a3 else if q = 4 then a4 else if q = 5 then a5 else if q = 6 then a6 else if q = 7 then t7 else t8, ⟨Nat.le_refl _, ⟨?_, ?_⟩, fun w hw => va_Nw.of (NW_onT hw) (hts w (NW_in w hw)), ⟨va_AO.of o3, va_AO.of o4, va_AO.of o5, va_AO.of o6⟩, ⟨Z7, T7⟩, ⟨Z8, T8⟩, fun w hw => va_Nw.of (XW_onT hw) (hts w (List.mem_filter.mp hw).1), ⟨?_, ?_⟩, ?_⟩, ?_, ?_⟩
  · intro q r hq
    match q, hq with
    | 0, hq => cases hq; exact K0
    | 1, hq => cases hq; exact K1
    | 2, hq => cases hq; exact K2
    | 3, hq => cases hq; exact K3
    | 4, hq => cases hq; exact K4
    | 5, hq => cases hq; exact K5
    | 6, hq => cases hq; exact K6
    | 7, hq => cases hq; exact K7
    | q + 8, hq => simp [vwCl] at hq
  · intro q r hq
    match q, hq with
    | 0, hq => cases hq; exact ⟨A0, B0⟩
    | 1, hq => cases hq; exact ⟨A1, B1⟩
    | 2, hq => cases hq; exact ⟨A2, B2⟩
    | 3, hq => cases hq; exact ⟨A3, B3⟩
    | 4, hq => cases hq; exact ⟨A4, B4⟩
    | 5, hq => cases hq; exact ⟨A5, B5⟩
    | 6, hq => cases hq; exact ⟨A6, B6⟩
    | q + 7, hq => simp [tyL] at hq
  · exact stat_L (hts (.laysStatic "java/lang/Throwable" "UNASSIGNED_STACK" "[Ljava/lang/StackTraceElement;") (by decide +kernel)) (hs' (.isRef (.static "java/lang/Throwable" "UNASSIGNED_STACK" "[Ljava/lang/StackTraceElement;")) (by decide +kernel))
  · exact stat_L (hts (.laysStatic "java/lang/Throwable" "SUPPRESSED_SENTINEL" "Ljava/util/List;") (by decide +kernel)) (hs' (.isRef (.static "java/lang/Throwable" "SUPPRESSED_SENTINEL" "Ljava/util/List;")) (by decide +kernel))
  · have key : ∀ (n : Nat) (tx : String), (Cond.stringRef "BoardHouse" n tx) ∈ lw_tbl → (Cond.exactly (.string "BoardHouse" n) "java/lang/String") ∈ flatC (Jvm.Cond.and given_1 narrow_1) → ∃ a, vk_R "BoardHouse" n tx a s := fun n tx h1 h2 => by
      obtain ⟨a, -, -, -, e, -⟩ := Cond.exactly_spec (hs' _ h2)
      exact ⟨a, vk_R.of (hts _ h1) e⟩
    intro q hq
    simp only [strL, List.mem_cons, List.not_mem_nil, or_false] at hq
    rcases hq with rfl | rfl | rfl | rfl | rfl | rfl | rfl | rfl | rfl | rfl | rfl | rfl | rfl | rfl
    · exact key _ _ wr_Ho_81 (by decide +kernel)
    · exact key _ _ wr_Ho_86 (by decide +kernel)
    · exact key _ _ wr_Ho_226 (by decide +kernel)
    · exact key _ _ wr_Ho_228 (by decide +kernel)
    · exact key _ _ wr_Ho_232 (by decide +kernel)
    · exact key _ _ wr_Ho_239 (by decide +kernel)
    · exact key _ _ wr_Ho_230 (by decide +kernel)
    · exact key _ _ wr_Ho_124 (by decide +kernel)
    · exact key _ _ wr_Ho_144 (by decide +kernel)
    · exact key _ _ wr_Ho_157 (by decide +kernel)
    · exact key _ _ wr_Ho_170 (by decide +kernel)
    · exact key _ _ wr_Ho_185 (by decide +kernel)
    · exact key _ _ wr_Ho_242 (by decide +kernel)
    · exact key _ _ wr_Ho_244 (by decide +kernel)
  · obtain ⟨g1, g1', h1, h1', -⟩ := Cond.castable_spec (hts (.castable xG xG) (by decide +kernel))
    obtain ⟨g2, g2', h2, h2', -⟩ := Cond.castable_spec (hts (.castable xS xS) (by decide +kernel))
    obtain ⟨g3, g3', h3, h3', -⟩ := Cond.castable_spec (hts (.castable xX xX) (by decide +kernel))
    intro q hq
    simp only [ncW, List.mem_cons, List.not_mem_nil, or_false] at hq
    rcases hq with rfl | rfl | rfl | rfl | rfl | rfl
    · exact ⟨_, _, h1, h2, not_cast (hs' (.not (.castable xG xS)) (by decide +kernel)) h1 h2⟩
    · exact ⟨_, _, h1, h3, not_cast (hs' (.not (.castable xG xX)) (by decide +kernel)) h1 h3⟩
    · exact ⟨_, _, h2, h1, not_cast (hs' (.not (.castable xS xG)) (by decide +kernel)) h2 h1⟩
    · exact ⟨_, _, h2, h3, not_cast (hs' (.not (.castable xS xX)) (by decide +kernel)) h2 h3⟩
    · exact ⟨_, _, h3, h1, not_cast (hs' (.not (.castable xX xG)) (by decide +kernel)) h3 h1⟩
    · exact ⟨_, _, h3, h2, not_cast (hs' (.not (.castable xX xS)) (by decide +kernel)) h3 h2⟩
  · intro E hE
    simp only [List.mem_cons, List.not_mem_nil, or_false] at hE
    rcases hE with rfl | rfl | rfl
    · obtain ⟨a, a', h1, h2, h3⟩ := Cond.castable_spec (hts (.castable xG xG) (by decide +kernel))
      cases h1.symm.trans h2; exact ⟨a, h1, h3⟩
    · obtain ⟨a, a', h1, h2, h3⟩ := Cond.castable_spec (hts (.castable xS xS) (by decide +kernel))
      cases h1.symm.trans h2; exact ⟨a, h1, h3⟩
    · obtain ⟨a, a', h1, h2, h3⟩ := Cond.castable_spec (hts (.castable xX xX) (by decide +kernel))
      cases h1.symm.trans h2; exact ⟨a, h1, h3⟩
