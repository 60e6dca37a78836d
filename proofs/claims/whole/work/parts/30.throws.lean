/-! THROWS: a method that ends by throwing an E; its caller hands it on, or catches it -/
/-- nothing but new cells: the old ones are as they were -/
theorem hx_old {s U : State} {k n : Nat} (h : s.sameButNew ({ U with vm := s.vm } : State) [] k n) : s.heap.size ≤ U.heap.size ∧ ∀ q : Nat, q < s.heap.size → U.heap[q]? = s.heap[q]? := by
  refine ⟨h.2.1, fun q hq => ?_⟩
  obtain ⟨c', a1, a2, a3, a4⟩ := h.2.2.2.2.2 q _ (Array.getElem?_eq_getElem hq)
  have e1 : U.heap[q]? = some c' := a1
  have e2 : c'.slots = (s.heap[q]).slots := Array.ext_getElem? fun i => a4 i (List.not_mem_nil)
  rw [e1, a2, e2, Array.getElem?_eq_getElem hq]

section HX
variable {p : Program} {l : Launch} {e : Env} {R : Room} {s : State} {m : MethodId} {args : Array Value} {below : List Frame} {meth : Method} {c : Code} {H : Heap} {locs : List Loc} {cells slots : Nat} {Q : State → Prop}
/-- the frame g, with q thrown over it -/
def hx_X (p : Program) (l : Launch) (e : Env) (R : Room) (s : State) (m : MethodId) (args : Array Value) (below : List Frame) (meth : Method) (c : Code) (H : Heap) (locs : List Loc) (cells slots : Nat) (Q : State → Prop) (g : JFrame) (q : Addr) : Prop :=
  ∀ T : State, T.heap = H → Stand p l e R s m args below meth c T locs cells slots → ∃ t, Steps p.tables e below ((T.setTop g).pushFrame (.throwing q)) t ∧ Q t
/-- q is an exception of class E -/
def hx_E (E : String) (st : State) (q : Addr) (H : Heap) : Prop := ∃ ce : Cell, H[q]? = some ce ∧ ce.vm = .none ∧ st.vm.findClass E = some ce.cls
def hx_F (E : String) (B : Heap → Prop) (N0 mc ms : Nat) : Array Value → State → Outcome → State → Prop := fun _ st o t =>
  ∃ q, o = .threw q ∧ hx_E E st q t.heap ∧ B t.heap ∧ va_F (hA N0) st t ∧ st.WarmedH t.vm ∧ ∃ L : List Loc, st.sameButNew ({ t with vm := st.vm } : State) L mc ms ∧ ∀ z ∈ L, N0 ≤ z.base
def hx_Met (l : Launch) (y : MethodName) (ws : List Cond) (rm : Room) (Pc : Array Value → State → Prop) (E : String) (B : Heap → Prop) (N0 mc ms : Nat) : Prop :=
  MetFree l y (headSpec ws rm) Pc (fun _ _ _ _ _ => True) (hx_F E B N0 mc ms)
/-- what a body that throws owes at its end -/
def hx_Q (below : List Frame) (E : String) (B : Heap → Prop) (N0 mc ms : Nat) (a : Array Value) (s : State) : State → Prop := fun t => ∃ o, t.status = .running ∧ Ended t below o ∧ hx_F E B N0 mc ms a s o t
theorem hx_ofW {y : MethodName} {ws ws' : List Cond} {rm : Room} {Pc : Array Value → State → Prop} {E : String} {B : Heap → Prop} {N0 mc ms : Nat} {cc : ByteArray} {maxL : Nat} {ret : Option FieldType}
    (hy : plainName y.cls = true) (hw : ws = Cond.code y cc maxL ret :: ws')
    (body : ∀ p e s m args below meth c s₁, BodyLoose p l y (headSpec ws rm) cc maxL ret e s m args below meth c s₁ → c.maxLocals = maxL → c.exceptionTable.toList = [] → Pc args s →
      W p l e (headSpec ws rm).room s m args below meth c s.heap [] 0 0 (hx_Q below E B N0 mc ms args s) (entryFrame m args maxL)) : hx_Met l y ws rm Pc E B N0 mc ms := by
  refine MetFree.of_bodyS (code := cc) (maxLocals := maxL) (ret := ret) hy ?_ ?_
  · intro args s m h hn
    obtain ⟨meth, c, h1, h2, h3, h4, h5, h6, -, -⟩ := Cond.code_spec hn (atoms_spec (ws := ws) h _ (by rw [hw]; exact List.mem_cons_self))
    exact ⟨meth, c, h1, h2, h3, h4, h5, h6⟩
  · intro p e s m args below meth c s₁ B0 hml hP _
    have hcode : (Cond.code y cc maxL ret).before args s = true := atoms_spec (ws := ws) B0.pre _ (by rw [hw]; exact List.mem_cons_self)
    obtain ⟨meth', c', hm', hc', -, -, -, -, hempty, -⟩ := Cond.code_spec B0.named hcode
    cases B0.method.symm.trans hm'
    cases (Stand.of_body B0).code.symm.trans hc'
    have hno : c.exceptionTable.toList = [] := by
      have h0 : c.exceptionTable.size = 0 := by simpa [Array.isEmpty] using hempty
      exact List.eq_nil_of_length_eq_zero (by simpa using h0)
    obtain ⟨t, a1, o, b1, b2, b3⟩ := body p e s m args below meth c s₁ B0 hml hno hP s₁ (by rw [B0.state]; rfl) (Stand.of_body B0)
    exact ⟨t, o, a1, b1, b2, b3⟩
/-- not caught here: it goes on to the caller -/
theorem hx_out {E : String} {B : Heap → Prop} {N0 mc ms pc : Nat} {ls : Array Slot} {rest : List Value} {q : Addr} (hno : c.exceptionTable.toList = []) (hlocks : meth.locks = false) (hE : hx_E E s q H) (hB : B H) (hS : va_S (hA N0) s.heap H locs) (hc : cells ≤ mc) (hs : slots ≤ ms) :
    hx_X p l e R s m args below meth c H locs cells slots (hx_Q below E B N0 mc ms args s) (F0 m pc ls rest) q := by
  intro T hT X
  subst hT
  obtain ⟨l1, l2, l3, l4, l5⟩ := X.leaveThrown q (g := F0 m pc ls rest) rfl rfl rfl (by rw [hno]; intro x hx; cases hx) hlocks
  exact ⟨_, l1, .threw q, l2, l3, q, rfl, hE, hB, hS.F rfl, l4, locs, l5.mono hc hs, hS.2.2⟩
end HX
section HXC
variable {p : Program} {l : Launch} {e : Env} {R : Room} {s : State} {m : MethodId} {args : Array Value} {below : List Frame} {meth : Method} {c : Code} {T : State} {locs : List Loc} {cells slots : Nat}
variable {y : MethodName} {ws : List Cond} {rm : Room} {Pc : Array Value → State → Prop} {E : String} {B : Heap → Prop} {N0 mc ms maxL len : Nat} {bytes : ByteArray} {ret : Option FieldType}
/-- a call of a method that throws: back in the caller's frame, with the note over it -/
theorem hx_back (X : Stand p l e R s m args below meth c T locs cells slots) (hM : hx_Met l y ws rm Pc E B N0 mc ms) (hbl : FrameBlind Pc) (hrc : rm.cells = mc) (hrs : rm.slots = ms) (hfr : rm.frames + 1 ≤ R.frames) (hlo : 8 + (maxL + 11) + rm.locals ≤ R.locals)
    (hws : ∀ w ∈ ws, ∀ (a' : Array Value) (U : State), s.WarmedH U.vm → w.before a' U = true) (hcode : Cond.code y bytes maxL ret ∈ ws) (hini : ∀ (a' : Array Value) (U : State), s.WarmedH U.vm → (Cond.initialized y.cls).before a' U = true)
    {g : JFrame} {ig : Instr} {mk : MethodId} {a : Array Value} (hg : g.method = m) (hsize : g.locals.size = c.maxLocals) (hdg : decode c.code g.pc = .ok (ig, len)) (hW : 2 * g.monitorRoom + (g.stack.map fun v => v.category).sum ≤ 8)
    (hn : T.methodNamed? y = some mk) (hf : cells + mc ≤ R.cells ∧ slots + ms ≤ R.slots) (hp : Pc a T) :
    ∃ (q : Addr) (T' : State) (L : List Loc), Stand p l e R s m args below meth c T' (locs ++ L) (cells + mc) (slots + ms) ∧ (∀ z ∈ L, N0 ≤ z.base) ∧ hx_E E s q T'.heap ∧ B T'.heap ∧
      (T.heap.size ≤ T'.heap.size ∧ ∀ x : Nat, x < T.heap.size → ¬ hA N0 x → T'.heap[x]? = T.heap[x]?) ∧ Steps p.tables e below (doInvoke e (T.setTop g) [] mk a).1 ((T'.setTop g).pushFrame (.throwing q)) := by
  have hcd : (Cond.code y bytes maxL ret).before a T = true := hws _ hcode _ _ X.warmed
  obtain ⟨methY, cY, hmY, hcY, -, hlY, -, -, -, -⟩ := Cond.code_spec hn hcd
  obtain ⟨kY, hkY, -⟩ := className_of_methodNamed hn
  have hiY : kY.init = .initialized := Cond.initialized_spec (findClass_of_methodNamed hn) hkY (hini a T X.warmed)
  have hat : At T g.method c below := by rw [hg]; exact X.here
  have happ : (headSpec ws rm).appliesLoose y e.platform (T.calling g mk a) = true :=
    Spec.appliesLoose_calling (g := g) hat hdg hn hkY hiY (X.room_calling (g := g) (R' := rm) hsize hmY hcY hfr (by rw [hlY]; omega) (by rw [hrc]; exact hf.1) (by rw [hrs]; exact hf.2)) (atoms_intro fun w hw => hws w hw _ _ X.warmed)
  obtain ⟨mid, hmid⟩ := hat.above
  have hfrs : (T.setTop g).frames = (.java g :: mid) ++ below := by rw [State.frames_setTop' g hat.top, hmid]; rfl
  obtain ⟨o, u, hst, -, hend, q, ho, hE, hB, hF, hWu, L, hsm, hL⟩ := Steps.callFree hM p X.admits X.cas X.clock (acts := []) hfrs happ (hbl _ _ _ _ hp) trivial
  subst ho
  have hsm : (T.calling g mk a).sameButNew ({ u with vm := (T.calling g mk a).vm } : State) L mc ms := hsm
  rw [State.frames_setTop' g hat.top] at hend
  have hfu : u.frames = .throwing q :: .java g :: T.frames.tail := hend
  obtain ⟨g₀, hg0⟩ := Option.isSome_iff_exists.mp hat.top
  obtain ⟨r, hr⟩ := State.topJava?_eq_some.mp hg0
  have hWT : T.WarmedH u.vm := hWu
  obtain ⟨T', hT'⟩ : ∃ z, z = (({ T with heap := u.heap, slotsUsed := u.slotsUsed } : State).setVm u.vm) := ⟨_, rfl⟩
  have hr' : T'.frames = .java g₀ :: r := by rw [hT']; exact hr
  have hsu : u = (T'.setTop g).pushFrame (.throwing q) := by
    have e1 : u = ({ (T.calling g mk a).setFrames u.frames with heap := u.heap, slotsUsed := u.slotsUsed } : State).setVm u.vm := by
      have h9 : u = ({ u with vm := (T.calling g mk a).vm } : State).setVm u.vm := rfl
      rw [hsm.1] at h9
      exact h9
    refine e1.trans ?_
    rw [hfu, State.calling_eq hat.top, State.setFrames_setFrames, State.pushFrame, State.frames_setTop _ hr', State.setTop_of_frames _ hr', State.setFrames_setFrames, hr, hT']
    rfl
  have hsame : T.sameButNew ({ T with heap := u.heap, slotsUsed := u.slotsUsed } : State) L mc ms := by
    refine ⟨?_, hsm.2⟩
    obtain ⟨th, hth, -⟩ := State.frames_cons hr
    show ({ T with heap := u.heap, slotsUsed := u.slotsUsed } : State) = { T.setFrames T.frames with heap := u.heap, slotsUsed := u.slotsUsed }
    rw [State.setFrames_self hth]
  subst hg
  refine ⟨q, T', L, ?_, hL, ?_, by rw [hT']; exact hB, by rw [hT']; exact hF, by rw [← hsu]; exact hst⟩
  · rw [hT']
    exact ⟨X.admits, X.cas, X.clock, X.frames, X.room, X.hears, X.method, X.code, (X.here.setHeapUsed u.heap u.slotsUsed).setVm hWT.alike, X.tail, State.WarmedH.trans X.warmed hWT, X.limits, X.bytes, X.same.trans (hsame.setVm s.vm)⟩
  · obtain ⟨ce, h1, h2, h3⟩ := hE
    refine ⟨ce, by rw [hT']; exact h1, h2, ?_⟩
    have h4 : T.vm.findClass E = some ce.cls := h3
    rw [X.warmed.alike.findClass] at h4
    exact h4
end HXC
section HXT
variable {p : Program} {l : Launch} {e : Env} {R : Room} {s : State} {m : MethodId} {args : Array Value} {below : List Frame} {meth : Method} {c : Code}
variable {cc : ByteArray} {pc : Nat} {ls : Array Slot} {rest : List Value} {N0 : Nat} {B : Heap → Prop}
/-- the constructor of a fresh exception, and athrow: the method ends so -/
theorem hx_ctor {H1 : Heap} {cells slots : Nat} (hexec : p.tables.exec = Jvm.exec) (hb : c.code = cc) (hl : l.stackTraces = false) {own cls : String} {names : List String} {ic sa a mc ms : Nat} {cX : ClassId} {kX : Class}
    (hown : s.vm.findClass own = some m.cls) (hcls : Bundle.fit cls = true) (hnames : ∀ n ∈ names, Bundle.fit n = true) (h : ∀ w ∈ Bundle.ownAtoms own ic cls names, w.before args s = true)
    (hfX : s.vm.findClass cls = some cX) (hkX : s.vm.classes[cX]? = some kX) (hcell : H1[a]? = some (freshCell cX kX)) (hnew : s.heap.size ≤ a) (hsize : ls.size = c.maxLocals)
    (d6 : decode cc pc = .ok (.invokespecial ic, 3)) (d9 : decode cc (pc + 3) = .ok (.athrow, 1)) (hno : c.exceptionTable.toList = [])
    (hRf : names.length + 3 < R.frames) (hRl : (rest.map fun v => v.category).sum + (13 * (names.length + 1) + 43) ≤ R.locals) (hlocks : meth.locks = false) (hc : cells ≤ mc) (hs : slots ≤ ms)
    (hB : ∀ H' : Heap, s.heap.size ≤ H'.size → (∀ q : Nat, q < s.heap.size → H'[q]? = s.heap[q]?) → B H') :
    W p l e R s m args below meth c H1 [] cells slots (hx_Q below cls B N0 mc ms args s) (F0 m pc ls (.ref sa :: .ref a :: .ref a :: rest)) := by
  intro T hT X
  have htr : e.platform.stackTraces = false := (show e.platform.stackTraces = l.stackTraces by rw [X.admits.platform]).trans hl
  obtain ⟨U, hst, hrun, hend, hW, hsame, ce, hce, hO⟩ := X.ctorThrowS hexec htr (own := own) (cls := cls) (names := names) (ic := ic) hown hcls hnames h (fun x hx => nomatch hx) hfX hkX (a := a) (by rw [hT]; exact hcell) hnew (msg := .ref sa) rfl
    (g := F0 m pc ls (.ref sa :: .ref a :: .ref a :: rest)) rfl hsize rfl rfl (rest := rest) rfl (by rw [hb]; exact d6) (by rw [hb]; exact d9) (by rw [hno]; intro x hx; cases hx) hRf
    (by simp only [List.map_cons, List.sum_cons]; show 2 * 0 + (1 + (rest.map fun v => v.category).sum) + _ ≤ _; omega) hlocks
  obtain ⟨f1, f2⟩ := hx_old hsame
  exact ⟨U, hst, .threw a, hrun, hend, a, rfl, ⟨ce, hce, hO.vm, hO.cls⟩, hB _ f1 f2, ⟨f1, fun q hq _ => f2 q hq⟩, hW, [], hsame.mono hc hs, fun z hz => nomatch hz⟩
/-- 'throw new E("text")' where the method has changed nothing -/
theorem hx_throwS (hexec : p.tables.exec = Jvm.exec) (hb : c.code = cc) (hl : l.stackTraces = false) {own cls text : String} {names : List String} {ik is ic sa : Nat}
    (hown : s.vm.findClass own = some m.cls) (hcls : Bundle.fit cls = true) (hnames : ∀ n ∈ names, Bundle.fit n = true) (hk : (Cond.classLink own ik cls).before args s = true) (hini : (Cond.initialized cls).before args s = true) (hstr : vk_R own is text sa s) (h : ∀ w ∈ Bundle.ownAtoms own ic cls names, w.before args s = true)
    (hsize : ls.size = c.maxLocals) (d0 : decode cc pc = .ok (.new ik, 3)) (d3 : decode cc (pc + 3) = .ok (.dup, 1)) (d4 : decode cc (pc + 4) = .ok (.ldc is, 2)) (d6 : decode cc (pc + 6) = .ok (.invokespecial ic, 3)) (d9 : decode cc (pc + 9) = .ok (.athrow, 1)) (hno : c.exceptionTable.toList = [])
    (hRf : names.length + 3 < R.frames) (hRl : (rest.map fun v => v.category).sum + (13 * (names.length + 1) + 43) ≤ R.locals) (hRc : 1 ≤ R.cells) (hRs : 6 ≤ R.slots) (hlocks : meth.locks = false)
    (hB : ∀ H' : Heap, s.heap.size ≤ H'.size → (∀ q : Nat, q < s.heap.size → H'[q]? = s.heap[q]?) → B H') :
    W p l e R s m args below meth c s.heap [] 0 0 (hx_Q below cls B N0 1 6 args s) (F0 m pc ls rest) := by
  refine W.newc (n := 6) hexec hb hown hk (h _ (by simp [Bundle.ownAtoms])) hini rfl d0 (by omega) (by omega) (fun cX kX h1 h2 h3 h4 => ?_)
  refine lv_dup (pc := pc + 3) hexec hb d3 rfl ?_
  refine va_ldcS (pc := pc + 4) hexec hb hown hstr d4 ?_
  exact hx_ctor (pc := pc + 6) hexec hb hl hown hcls hnames h h1 h2 (by rw [Array.getElem?_push_size, freshCell]) (Nat.le_refl _) hsize d6 d9 hno hRf hRl hlocks (by omega) (by omega) hB
end HXT
