/-! THROWS: a method that ends by throwing an E; its caller hands it on, or catches it -/
/-- where a static field lies, below N0 -/
def ht_L (C n d : String) (N0 : Nat) (U : State) : Prop := ∃ (c : ClassId) (k : Class) (i : Nat) (f : Field) (a : Nat) (cell : Cell) (v : Value), U.vm.findClass C = some c ∧ U.fieldFound? C n d = some (c, k, i, f) ∧ f.isStatic = true ∧ k.statics = some a ∧ U.heap[a]? = some cell ∧ cell.vm.isStatics = true ∧ cell.cls = c ∧ f.slot < cell.slots.size ∧ k.staticTypes[f.slot]? = some f.type ∧ cell.slots[f.slot]? = some v ∧ v.isRef = true ∧ a < N0
theorem ht_L.lays {C n d : String} {N0 : Nat} {U : State} {args : Array Value} (h : ht_L C n d N0 U) : (Cond.laysStatic C n d).before args U = true := by
  obtain ⟨c, k, i, f, a, cell, v, h1, h2, h3, h4, h5, h6, h7, h8, h9, h10, h11, h12⟩ := h
  simp [Cond.before, Cond.holds, Cond.value, h1, h2, h3, h4, h5, h6, h7, h8, h9]
theorem ht_L.ref {C n d : String} {N0 : Nat} {U : State} {args : Array Value} (h : ht_L C n d N0 U) : (Cond.isRef (.static C n d)).before args U = true := by
  obtain ⟨c, k, i, f, a, cell, v, h1, h2, h3, h4, h5, h6, h7, h8, h9, h10, h11, h12⟩ := h
  have hn : U.fieldNamed? C n d true = some (c, k, f.slot) := by simp [State.fieldNamed?, h2, h3]
  simp [Cond.before, Cond.holds, Cond.value, Term.eval, hn, h4, h5, h6, h10]
  cases v <;> simp_all [Value.isRef]
theorem ht_L.next {C n d : String} {N0 : Nat} {s U : State} {H : Heap} {locs : List Loc} (h : ht_L C n d N0 s) (hN : N0 ≤ s.heap.size) (hS : va_S (hA N0) s.heap H locs) (hU : U.heap = H) (hW : s.WarmedH U.vm) : ht_L C n d N0 U := by
  obtain ⟨c, k, i, f, a, cell, v, h1, h2, h3, h4, h5, h6, h7, h8, h9, h10, h11, h12⟩ := h
  obtain ⟨k', hi', he⟩ := State.fieldFound?_setVm hW.alike h2
  refine ⟨c, k', i, f, a, cell, v, by rw [hW.alike.findClass]; exact h1, hi', h3, by rw [he]; exact h4, ?_, h6, h7, h8, by rw [he]; exact h9, h10, h11, h12⟩
  rw [hU, hS.2.1 a (by omega) (by show ¬ N0 ≤ a; omega)]
  exact h5
def isXw (w : Cond) : Bool := match w with
  | .castable .. => true
  | .declares .. => true
  | _ => false
def XW : List Cond := lw_tbl.filter isXw
theorem XW_warm {w : Cond} (h : w ∈ XW) {s U : State} (hW : s.WarmedH U.vm) (hs : va_Nw w s) : va_Nw w U := by
  have hn := (List.mem_filter.mp h).2
  cases w with
  | castable a b => exact va_tabs rfl (rfl : (s.setVm U.vm).vm = U.vm) (by rw [Cond.castable_setVm hW.alike]; exact hs)
  | declares x => exact va_tabs rfl (rfl : (s.setVm U.vm).vm = U.vm) (by rw [Cond.declares_setVm hW.alike]; exact hs)
  | _ => simp [isXw] at hn
theorem XW_onT {w : Cond} (h : w ∈ XW) : w.onTables = true := by
  have hn := (List.mem_filter.mp h).2
  cases w with
  | castable a b => rfl
  | declares x => rfl
  | _ => simp [isXw] at hn
/-- nothing but new cells: the old ones are as they were -/
theorem hx_old {s U : State} {k n : Nat} (h : s.sameButNew ({ U with vm := s.vm } : State) [] k n) : s.heap.size ≤ U.heap.size ∧ ∀ q : Nat, q < s.heap.size → U.heap[q]? = s.heap[q]? := by
  refine ⟨h.2.1, fun q hq => ?_⟩
  obtain ⟨c', a1, a2, a3, a4⟩ := h.2.2.2.2.2 q _ (Array.getElem?_eq_getElem hq)
  have e1 : U.heap[q]? = some c' := a1
  have e2 : c'.slots = (s.heap[q]).slots := Array.ext_getElem? fun i => a4 i (List.not_mem_nil)
  rw [e1, a2, e2, Array.getElem?_eq_getElem hq]

section HX
variable {p : Program} {l : Launch} {e : Env} {R : Room} {s : State} {m : MethodId} {args : Array Value} {below : List Frame} {meth : Method} {c : Code} {H : Heap} {locs : List Loc} {cells slots : Nat} {Q : State → Prop}
/-- the frame g, with q thrown over it -/
def hx_X (p : Program) (l : Launch) (e : Env) (R : Room) (s : State) (m : MethodId) (args : Array Value) (below : List Frame) (meth : Method) (c : Code) (H : Heap) (locs : List Loc) (cells slots : Nat) (Q : State → Prop) (g : JFrame) (q : Addr) : Prop :=
  ∀ T : State, T.heap = H → Stand p l e R s m args below meth c T locs cells slots → ∃ t, Steps p.tables e below ((T.setTop g).pushFrame (.throwing q)) t ∧ Q t
/-- q is an exception of class E -/
def hx_E (E : String) (st : State) (q : Addr) (H : Heap) : Prop := ∃ ce : Cell, H[q]? = some ce ∧ ce.vm = .none ∧ st.vm.findClass E = some ce.cls
def hx_F (E : String) (B : Heap → Prop) (N0 mc ms : Nat) : Array Value → State → Outcome → State → Prop := fun _ st o t =>
  ∃ q, o = .threw q ∧ hx_E E st q t.heap ∧ B t.heap ∧ va_F (hA N0) st t ∧ st.WarmedH t.vm ∧ ∃ L : List Loc, st.sameButNew ({ t with vm := st.vm } : State) L mc ms ∧ ∀ z ∈ L, N0 ≤ z.base
def hx_Met (l : Launch) (y : MethodName) (ws : List Cond) (rm : Room) (Pc : Array Value → State → Prop) (E : String) (B : Heap → Prop) (N0 mc ms : Nat) : Prop :=
  MetFree l y (headSpec ws rm) Pc (fun _ _ _ _ _ => True) (hx_F E B N0 mc ms)
/-- what a body that throws owes at its end -/
def hx_Q (below : List Frame) (E : String) (B : Heap → Prop) (N0 mc ms : Nat) (a : Array Value) (s : State) : State → Prop := fun t => ∃ o, t.status = .running ∧ Ended t below o ∧ hx_F E B N0 mc ms a s o t
theorem hx_ofW {y : MethodName} {ws ws' : List Cond} {rm : Room} {Pc : Array Value → State → Prop} {E : String} {B : Heap → Prop} {N0 mc ms : Nat} {cc : ByteArray} {maxL : Nat} {ret : Option FieldType}
    (hy : plainName y.cls = true) (hw : ws = Cond.code y cc maxL ret :: ws')
    (body : ∀ p e s m args below meth c s₁, BodyLoose p l y (headSpec ws rm) cc maxL ret e s m args below meth c s₁ → c.maxLocals = maxL → c.exceptionTable.toList = [] → Pc args s →
      W p l e (headSpec ws rm).room s m args below meth c s.heap [] 0 0 (hx_Q below E B N0 mc ms args s) (entryFrame m args maxL)) : hx_Met l y ws rm Pc E B N0 mc ms := by
  refine MetFree.of_bodyS (code := cc) (maxLocals := maxL) (ret := ret) hy ?_ ?_
  · intro args s m h hn
    obtain ⟨meth, c, h1, h2, h3, h4, h5, h6, -, -⟩ := Cond.code_spec hn (atoms_spec (ws := ws) h _ (by rw [hw]; exact List.mem_cons_self))
    exact ⟨meth, c, h1, h2, h3, h4, h5, h6⟩
  · intro p e s m args below meth c s₁ B0 hml hP _
    have hcode : (Cond.code y cc maxL ret).before args s = true := atoms_spec (ws := ws) B0.pre _ (by rw [hw]; exact List.mem_cons_self)
    obtain ⟨meth', c', hm', hc', -, -, -, -, hempty, -⟩ := Cond.code_spec B0.named hcode
    cases B0.method.symm.trans hm'
    cases (Stand.of_body B0).code.symm.trans hc'
    have hno : c.exceptionTable.toList = [] := by
      have h0 : c.exceptionTable.size = 0 := by simpa [Array.isEmpty] using hempty
      exact List.eq_nil_of_length_eq_zero (by simpa using h0)
    obtain ⟨t, a1, o, b1, b2, b3⟩ := body p e s m args below meth c s₁ B0 hml hno hP s₁ (by rw [B0.state]; rfl) (Stand.of_body B0)
    exact ⟨t, o, a1, b1, b2, b3⟩
/-- not caught here: it goes on to the caller -/
theorem hx_out {E : String} {B : Heap → Prop} {N0 mc ms pc : Nat} {ls : Array Slot} {rest : List Value} {q : Addr} (hno : c.exceptionTable.toList = []) (hlocks : meth.locks = false) (hE : hx_E E s q H) (hB : B H) (hS : va_S (hA N0) s.heap H locs) (hc : cells ≤ mc) (hs : slots ≤ ms) :
    hx_X p l e R s m args below meth c H locs cells slots (hx_Q below E B N0 mc ms args s) (F0 m pc ls rest) q := by
  intro T hT X
  subst hT
  obtain ⟨l1, l2, l3, l4, l5⟩ := X.leaveThrown q (g := F0 m pc ls rest) rfl rfl rfl (by rw [hno]; intro x hx; cases hx) hlocks
  exact ⟨_, l1, .threw q, l2, l3, q, rfl, hE, hB, hS.F rfl, l4, locs, l5.mono hc hs, hS.2.2⟩
end HX
section HXC
variable {p : Program} {l : Launch} {e : Env} {R : Room} {s : State} {m : MethodId} {args : Array Value} {below : List Frame} {meth : Method} {c : Code} {T : State} {locs : List Loc} {cells slots : Nat}
variable {y : MethodName} {ws : List Cond} {rm : Room} {Pc : Array Value → State → Prop} {E : String} {B : Heap → Prop} {N0 mc ms maxL len : Nat} {bytes : ByteArray} {ret : Option FieldType}
/-- a call of a method that throws: back in the caller's frame, with the note over it -/
theorem hx_back (X : Stand p l e R s m args below meth c T locs cells slots) (hM : hx_Met l y ws rm Pc E B N0 mc ms) (hbl : FrameBlind Pc) (hrc : rm.cells = mc) (hrs : rm.slots = ms) (hfr : rm.frames + 1 ≤ R.frames) (hlo : 8 + (maxL + 11) + rm.locals ≤ R.locals)
    (hws : ∀ w ∈ ws, ∀ (a' : Array Value) (U : State), s.WarmedH U.vm → w.before a' U = true) (hcode : Cond.code y bytes maxL ret ∈ ws) (hini : ∀ (a' : Array Value) (U : State), s.WarmedH U.vm → (Cond.initialized y.cls).before a' U = true)
    {g : JFrame} {ig : Instr} {mk : MethodId} {a : Array Value} (hg : g.method = m) (hsize : g.locals.size = c.maxLocals) (hdg : decode c.code g.pc = .ok (ig, len)) (hW : 2 * g.monitorRoom + (g.stack.map fun v => v.category).sum ≤ 8)
    (hn : T.methodNamed? y = some mk) (hf : cells + mc ≤ R.cells ∧ slots + ms ≤ R.slots) (hp : Pc a T) :
    ∃ (q : Addr) (T' : State) (L : List Loc), Stand p l e R s m args below meth c T' (locs ++ L) (cells + mc) (slots + ms) ∧ (∀ z ∈ L, N0 ≤ z.base) ∧ hx_E E s q T'.heap ∧ B T'.heap ∧
      (T.heap.size ≤ T'.heap.size ∧ ∀ x : Nat, x < T.heap.size → ¬ hA N0 x → T'.heap[x]? = T.heap[x]?) ∧ Steps p.tables e below (doInvoke e (T.setTop g) [] mk a).1 ((T'.setTop g).pushFrame (.throwing q)) := by
  have hcd : (Cond.code y bytes maxL ret).before a T = true := hws _ hcode _ _ X.warmed
  obtain ⟨methY, cY, hmY, hcY, -, hlY, -, -, -, -⟩ := Cond.code_spec hn hcd
  obtain ⟨kY, hkY, -⟩ := className_of_methodNamed hn
  have hiY : kY.init = .initialized := Cond.initialized_spec (findClass_of_methodNamed hn) hkY (hini a T X.warmed)
  have hat : At T g.method c below := by rw [hg]; exact X.here
  have happ : (headSpec ws rm).appliesLoose y e.platform (T.calling g mk a) = true :=
    Spec.appliesLoose_calling (g := g) hat hdg hn hkY hiY (X.room_calling (g := g) (R' := rm) hsize hmY hcY hfr (by rw [hlY]; omega) (by rw [hrc]; exact hf.1) (by rw [hrs]; exact hf.2)) (atoms_intro fun w hw => hws w hw _ _ X.warmed)
  obtain ⟨mid, hmid⟩ := hat.above
  have hfrs : (T.setTop g).frames = (.java g :: mid) ++ below := by rw [State.frames_setTop' g hat.top, hmid]; rfl
  obtain ⟨o, u, hst, -, hend, q, ho, hE, hB, hF, hWu, L, hsm, hL⟩ := Steps.callFree hM p X.admits X.cas X.clock (acts := []) hfrs happ (hbl _ _ _ _ hp) trivial
  subst ho
  have hsm : (T.calling g mk a).sameButNew ({ u with vm := (T.calling g mk a).vm } : State) L mc ms := hsm
  rw [State.frames_setTop' g hat.top] at hend
  have hfu : u.frames = .throwing q :: .java g :: T.frames.tail := hend
  obtain ⟨g₀, hg0⟩ := Option.isSome_iff_exists.mp hat.top
  obtain ⟨r, hr⟩ := State.topJava?_eq_some.mp hg0
  have hWT : T.WarmedH u.vm := hWu
  obtain ⟨T', hT'⟩ : ∃ z, z = (({ T with heap := u.heap, slotsUsed := u.slotsUsed } : State).setVm u.vm) := ⟨_, rfl⟩
  have hr' : T'.frames = .java g₀ :: r := by rw [hT']; exact hr
  have hsu : u = (T'.setTop g).pushFrame (.throwing q) := by
    have e1 : u = ({ (T.calling g mk a).setFrames u.frames with heap := u.heap, slotsUsed := u.slotsUsed } : State).setVm u.vm := by
      have h9 : u = ({ u with vm := (T.calling g mk a).vm } : State).setVm u.vm := rfl
      rw [hsm.1] at h9
      exact h9
    refine e1.trans ?_
    rw [hfu, State.calling_eq hat.top, State.setFrames_setFrames, State.pushFrame, State.frames_setTop _ hr', State.setTop_of_frames _ hr', State.setFrames_setFrames, hr, hT']
    rfl
  have hsame : T.sameButNew ({ T with heap := u.heap, slotsUsed := u.slotsUsed } : State) L mc ms := by
    refine ⟨?_, hsm.2⟩
    obtain ⟨th, hth, -⟩ := State.frames_cons hr
    show ({ T with heap := u.heap, slotsUsed := u.slotsUsed } : State) = { T.setFrames T.frames with heap := u.heap, slotsUsed := u.slotsUsed }
    rw [State.setFrames_self hth]
  subst hg
  refine ⟨q, T', L, ?_, hL, ?_, by rw [hT']; exact hB, by rw [hT']; exact hF, by rw [← hsu]; exact hst⟩
  · rw [hT']
    exact ⟨X.admits, X.cas, X.clock, X.frames, X.room, X.hears, X.method, X.code, (X.here.setHeapUsed u.heap u.slotsUsed).setVm hWT.alike, X.tail, State.WarmedH.trans X.warmed hWT, X.limits, X.bytes, X.same.trans (hsame.setVm s.vm)⟩
  · obtain ⟨ce, h1, h2, h3⟩ := hE
    refine ⟨ce, by rw [hT']; exact h1, h2, ?_⟩
    have h4 : T.vm.findClass E = some ce.cls := h3
    rw [X.warmed.alike.findClass] at h4
    exact h4
end HXC
