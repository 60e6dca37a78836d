/-! THE CONTEXT of every method: what the tables and the statics give, wherever the run is. N0: the heap's size when the law began; k: the numbers of array classes, the places of static arrays. -/
def tyL (k : Nat → Nat) : List (ClassId × FieldType) := [(k 0, .int), (k 1, .long), (k 2, .boolean), (k 3, .object "BoardHouse$Thing"), (k 4, .object "BoardHouse$Act"), (k 5, .object "BoardHouse$Snapshot"), (k 6, .object "BoardHouse$Sheet")]
def isNest (w : Cond) : Bool := match w with
  | .fieldLinkNest .. => true
  | .methodLinkNest .. => true
  | _ => false
def NW : List Cond := lw_tbl.filter isNest
theorem NW_in : ∀ w ∈ NW, w ∈ lw_tbl := fun w h => (List.mem_filter.mp h).1
theorem NW_of {w : Cond} (h : w ∈ lw_tbl) (hn : isNest w = true) : w ∈ NW := List.mem_filter.mpr ⟨h, hn⟩
theorem NW_warm {w : Cond} (h : w ∈ NW) {s U : State} (hW : s.WarmedH U.vm) (hs : va_Nw w s) : va_Nw w U := by
  have hn := (List.mem_filter.mp h).2
  cases w with
  | fieldLinkNest a i b n d h => exact va_Nw.warmF hW hs
  | methodLinkNest a i x h => exact va_Nw.warmM hW hs
  | _ => simp [isNest] at hn
theorem NW_onT {w : Cond} (h : w ∈ NW) : w.onTables = true := by
  have hn := (List.mem_filter.mp h).2
  cases w with
  | fieldLinkNest a i b n d h => rfl
  | methodLinkNest a i x h => rfl
  | _ => simp [isNest] at hn
def limV (j : Nat) : Int32 := match j with
  | 0 => 0
  | 1 => 20
  | 2 => 20
  | 3 => 60
  | 4 => 60
  | 5 => 10
  | 6 => 10
  | _ => 8
def firV (j : Nat) : Int32 := match j with
  | 0 => 0
  | 1 => 0
  | 2 => 0
  | 3 => 20
  | 4 => 80
  | _ => 140
/-- where a static field lies, below N0 -/
def ht_L (C n d : String) (N0 : Nat) (U : State) : Prop := ∃ (c : ClassId) (k : Class) (i : Nat) (f : Field) (a : Nat) (cell : Cell) (v : Value), U.vm.findClass C = some c ∧ U.fieldFound? C n d = some (c, k, i, f) ∧ f.isStatic = true ∧ k.statics = some a ∧ U.heap[a]? = some cell ∧ cell.vm.isStatics = true ∧ cell.cls = c ∧ f.slot < cell.slots.size ∧ k.staticTypes[f.slot]? = some f.type ∧ cell.slots[f.slot]? = some v ∧ v.isRef = true ∧ a < N0
theorem ht_L.lays {C n d : String} {N0 : Nat} {U : State} {args : Array Value} (h : ht_L C n d N0 U) : (Cond.laysStatic C n d).before args U = true := by
  obtain ⟨c, k, i, f, a, cell, v, h1, h2, h3, h4, h5, h6, h7, h8, h9, h10, h11, h12⟩ := h
  simp [Cond.before, Cond.holds, Cond.value, h1, h2, h3, h4, h5, h6, h7, h8, h9]
theorem ht_L.ref {C n d : String} {N0 : Nat} {U : State} {args : Array Value} (h : ht_L C n d N0 U) : (Cond.isRef (.static C n d)).before args U = true := by
  obtain ⟨c, k, i, f, a, cell, v, h1, h2, h3, h4, h5, h6, h7, h8, h9, h10, h11, h12⟩ := h
  have hn : U.fieldNamed? C n d true = some (c, k, f.slot) := by simp [State.fieldNamed?, h2, h3]
  simp [Cond.before, Cond.holds, Cond.value, Term.eval, hn, h4, h5, h6, h10]
  cases v <;> simp_all [Value.isRef]
theorem ht_L.next {C n d : String} {N0 : Nat} {s U : State} {H : Heap} {locs : List Loc} (h : ht_L C n d N0 s) (hN : N0 ≤ s.heap.size) (hS : va_S (hA N0) s.heap H locs) (hU : U.heap = H) (hW : s.WarmedH U.vm) : ht_L C n d N0 U := by
  obtain ⟨c, k, i, f, a, cell, v, h1, h2, h3, h4, h5, h6, h7, h8, h9, h10, h11, h12⟩ := h
  obtain ⟨k', hi', he⟩ := State.fieldFound?_setVm hW.alike h2
  refine ⟨c, k', i, f, a, cell, v, by rw [hW.alike.findClass]; exact h1, hi', h3, by rw [he]; exact h4, ?_, h6, h7, h8, by rw [he]; exact h9, h10, h11, h12⟩
  rw [hU, hS.2.1 a (by omega) (by show ¬ N0 ≤ a; omega)]
  exact h5
def isXw (w : Cond) : Bool := match w with
  | .castable .. => true
  | .declares .. => true
  | _ => false
def XW : List Cond := lw_tbl.filter isXw
theorem XW_warm {w : Cond} (h : w ∈ XW) {s U : State} (hW : s.WarmedH U.vm) (hs : va_Nw w s) : va_Nw w U := by
  have hn := (List.mem_filter.mp h).2
  cases w with
  | castable a b => exact va_tabs rfl (rfl : (s.setVm U.vm).vm = U.vm) (by rw [Cond.castable_setVm hW.alike]; exact hs)
  | declares x => exact va_tabs rfl (rfl : (s.setVm U.vm).vm = U.vm) (by rw [Cond.declares_setVm hW.alike]; exact hs)
  | _ => simp [isXw] at hn
theorem XW_onT {w : Cond} (h : w ∈ XW) : w.onTables = true := by
  have hn := (List.mem_filter.mp h).2
  cases w with
  | castable a b => rfl
  | declares x => rfl
  | _ => simp [isXw] at hn
def strL : List (Nat × String) := [(81, "a part has 1 to 8 cells along x and along y"), (86, "a side is 0 or 1"), (226, "this number was not given"), (228, "this handle is of another kind"), (232, "this handle is not of a thing"), (239, "it was dropped"), (230, "there is no such layer"), (124, "a track goes along x or along y"), (144, "a gap is 0 to 4"), (157, "which is 0 or 1"), (170, "what is 0 to 5"), (185, "things are of the kinds 2 to 5"), (242, "this act is not open"), (244, "an act is open")]
/-- what throwing needs -/
def hGx (N0 : Nat) (U : State) : Prop := (∀ w ∈ XW, va_Nw w U) ∧ (ht_L Bundle.tN "UNASSIGNED_STACK" Bundle.steD N0 U ∧ ht_L Bundle.tN "SUPPRESSED_SENTINEL" Bundle.listD N0 U) ∧ ∀ q ∈ strL, ∃ a, vk_R "BoardHouse" q.1 q.2 a U
theorem hGx.next {N0 : Nat} {s U : State} {H : Heap} {locs : List Loc} (h : hGx N0 s) (hN : N0 ≤ s.heap.size) (hS : va_S (hA N0) s.heap H locs) (hU : U.heap = H) (hW : s.WarmedH U.vm) : hGx N0 U :=
  ⟨fun w hw => XW_warm hw hW (h.1 w hw), ⟨h.2.1.1.next hN hS hU hW, h.2.1.2.next hN hS hU hW⟩, fun q hq => (h.2.2 q hq).elim (fun a ha => ⟨a, vk_R.warm hW ha⟩)⟩
def hG (D : va_G) (N0 : Nat) (k : Nat → Nat) (U : State) : Prop :=
  N0 ≤ U.heap.size ∧ va_K D vwCl (tyL k) U ∧ (∀ w ∈ NW, va_Nw w U) ∧ (va_AO "BoardHouse$Thing" U ∧ va_AO "BoardHouse$Act" U ∧ va_AO "BoardHouse$Snapshot" U ∧ va_AO "BoardHouse$Sheet" U) ∧
  (va_Z "BoardHouse" "LIMITS" "[I" (.ref (k 7)) (hA N0) U U.heap ∧ va_T .int (k 7) 8 (fun j => .int (limV j)) (hA N0) U U.heap) ∧
  (va_Z "BoardHouse" "FIRST_SLOT" "[I" (.ref (k 8)) (hA N0) U U.heap ∧ va_T .int (k 8) 6 (fun j => .int (firV j)) (hA N0) U U.heap) ∧ hGx N0 U
theorem hG.K {D : va_G} {N0 : Nat} {k : Nat → Nat} {U : State} (h : hG D N0 k U) : va_K D vwCl (tyL k) U := h.2.1
theorem hG.N {D : va_G} {N0 : Nat} {k : Nat → Nat} {U : State} (h : hG D N0 k U) : N0 ≤ U.heap.size := h.1
theorem hG.nest {D : va_G} {N0 : Nat} {k : Nat → Nat} {U : State} (h : hG D N0 k U) {w : Cond} (hw : w ∈ lw_tbl) (hn : isNest w = true) (args : Array Value) : w.before args U = true := va_Nw.use (NW_onT (NW_of hw hn)) (h.2.2.1 w (NW_of hw hn))
/-- the context goes on: to a later state of the same run -/
theorem hG.next {D : va_G} {N0 : Nat} {k : Nat → Nat} {s U : State} {H : Heap} {locs : List Loc} (h : hG D N0 k s) (hS : va_S (hA N0) s.heap H locs) (hU : U.heap = H) (hW : s.WarmedH U.vm) : hG D N0 k U := by
  obtain ⟨h1, h2, h3, ⟨a1, a2, a3, a4⟩, ⟨z1, t1⟩, ⟨z2, t2⟩, gx⟩ := h
  have gx' := gx.next h1 hS hU hW
  subst hU
  refine ⟨Nat.le_trans h1 hS.1, va_K.moved hW.alike h2, fun w hw => NW_warm hw hW (h3 w hw), ⟨a1.moved hW.alike, a2.moved hW.alike, a3.moved hW.alike, a4.moved hW.alike⟩, ⟨?_, ?_⟩, ⟨?_, ?_⟩, gx'⟩
  · exact va_Z.moved hW.alike (z1.kept hS.2.1)
  · exact va_T.moved hW.alike (t1.kept hS.2.1)
  · exact va_Z.moved hW.alike (z2.kept hS.2.1)
  · exact va_T.moved hW.alike (t2.kept hS.2.1)
theorem hG.call {D : va_G} {N0 : Nat} {k : Nat → Nat} {U : State} (h : hG D N0 k U) (g : JFrame) (mk : MethodId) (a : Array Value) : hG D N0 k (U.calling g mk a) := by
  refine hG.next (s := U) (H := U.heap) (locs := []) h va_S.rf rfl (State.WarmedH.refl U)
/-- a method's start: its arguments, the context, a view -/
def mP (D : va_G) (N0 : Nat) (k : Nat → Nat) (av : List Value) (V : HV) : Array Value → State → Prop := va_Pc av (fun U => hG D N0 k U ∧ hv D vwCl N0 V U.heap)
theorem mP.blind {D : va_G} {N0 : Nat} {k : Nat → Nat} {av : List Value} {V : HV} : FrameBlind (mP D N0 k av V) := fun a U g mk h => ⟨h.1, h.2.1.call g mk a, h.2.2⟩
/-- .. and its end -/
abbrev mB (D : va_G) (N0 : Nat) : HV → State → Prop := fun V t => hv D vwCl N0 V t.heap
theorem mP.preS {D : va_G} {N0 : Nat} {k : Nat → Nat} {As : List Value} {V : HV} {s : State} {H : Heap} {locs : List Loc} (hG : hG D N0 k s) (hS : va_S (hA N0) s.heap H locs) (hV : hv D vwCl N0 V H) : PreS s H (mP D N0 k As V) As :=
  ⟨mP.blind, fun U hU hW => ⟨rfl, hG.next hS hU hW, by rw [hU]; exact hV⟩⟩
theorem mP.preV {D : va_G} {N0 : Nat} {k : Nat → Nat} {As : List Value} {V : HV} {s : State} {H : Heap} {locs : List Loc} {b ci : Nat} {q : vw_C} {fs : List Value} (hG : hG D N0 k s) (hS : va_S (hA N0) s.heap H locs) (hV : hv D vwCl N0 V H) (he : V b = some (.inr (ci, fs))) (hc : vwCl[ci]? = some q) : PreV s H q.1 b (mP D N0 k (.ref b :: As) V) As :=
  ⟨mP.blind, va_recv hG.K (hV.at1 he) (q0 := 0) hc rfl, fun U hU hW => ⟨rfl, hG.next hS hU hW, by rw [hU]; exact hV⟩⟩
/-- the words of a callee among a caller's: all good words -/
theorem gi_c {y1 y2 : MethodName} {b1 b2 : ByteArray} {m1 m2 : Nat} {r1 r2 : Option FieldType} (h : Cond.code y2 b2 m2 r2 ∈ WS) : GoodIn (.code y1 b1 m1 r1 :: WS) (.code y2 b2 m2 r2 :: WS) := by
  intro w hw
  have hw' : w ∈ WS := (List.mem_cons.mp hw).elim (fun e => by rw [e]; exact h) id
  exact ⟨List.mem_cons_of_mem _ hw', good_of_word (WS_good w hw')⟩
theorem gi_V {y1 y2 : MethodName} {b1 b2 : ByteArray} {m1 m2 idx : Nat} {r1 r2 : Option FieldType} {own C : String} (h1 : Cond.methodLink own idx y2 ∈ WS) (h2 : Cond.instanceMethod y2 ∈ WS) (h3 : Cond.selects C y2 y2 ∈ WS) (h4 : Cond.initialized C ∈ WS) (h : Cond.code y2 b2 m2 r2 ∈ WS) : GoodIn (.code y1 b1 m1 r1 :: WS) (wsV own idx C y2 (.code y2 b2 m2 r2 :: WS)) := by
  intro w hw
  have hw' : w ∈ WS := by
    simp only [wsV, List.mem_append, List.mem_cons, List.not_mem_nil, or_false] at hw
    rcases hw with (e | e | e | e) | e | e
    · rw [e]; exact h1
    · rw [e]; exact h2
    · rw [e]; exact h3
    · rw [e]; exact h4
    · rw [e]; exact h
    · exact e
  exact ⟨List.mem_cons_of_mem _ hw', good_of_word (WS_good w hw')⟩
theorem gi_S {y1 y2 : MethodName} {b1 b2 : ByteArray} {m1 m2 idx : Nat} {r1 r2 : Option FieldType} {own : String} (h1 : Cond.methodLink own idx y2 ∈ WS) (h2 : Cond.static y2 ∈ WS) (h4 : Cond.initialized y2.cls ∈ WS) (h : Cond.code y2 b2 m2 r2 ∈ WS) : GoodIn (.code y1 b1 m1 r1 :: WS) (va_wsS own idx y2 (.code y2 b2 m2 r2 :: WS)) := by
  intro w hw
  have hw' : w ∈ WS := by
    simp only [va_wsS, List.mem_append, List.mem_cons, List.not_mem_nil, or_false] at hw
    rcases hw with (e | e | e) | e | e
    · rw [e]; exact h1
    · rw [e]; exact h2
    · rw [e]; exact h4
    · rw [e]; exact h
    · exact e
  exact ⟨List.mem_cons_of_mem _ hw', good_of_word (WS_good w hw')⟩
