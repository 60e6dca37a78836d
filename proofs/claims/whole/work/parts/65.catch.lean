/-! CATCHING: methods with a table (the law's helpers) -/
abbrev xG : String := "java/lang/IllegalArgumentException"
abbrev xS : String := "java/lang/IllegalStateException"
abbrev xX : String := "java/lang/IndexOutOfBoundsException"
def ncW : List (String × String) := [(xG, xS), (xG, xX), (xS, xG), (xS, xX), (xX, xG), (xX, xS)]
/-- the three exceptions: none is another's -/
def hNC (U : State) : Prop := (∀ q ∈ ncW, ∃ a b, U.vm.findClass q.1 = some a ∧ U.vm.findClass q.2 = some b ∧ U.vm.assignable a b = false) ∧ ∀ E ∈ [xG, xS, xX], ∃ a, U.vm.findClass E = some a ∧ U.vm.assignable a a = true
theorem hNC.next {s U : State} (h : hNC s) (hW : s.WarmedH U.vm) : hNC U :=
  ⟨fun q hq => by
    obtain ⟨a, b, h1, h2, h3⟩ := h.1 q hq
    exact ⟨a, b, by rw [hW.alike.findClass]; exact h1, by rw [hW.alike.findClass]; exact h2, by rw [hW.alike.assignable]; exact h3⟩, fun E hE => by
    obtain ⟨a, h1, h2⟩ := h.2 E hE
    exact ⟨a, by rw [hW.alike.findClass]; exact h1, by rw [hW.alike.assignable]; exact h2⟩⟩
def mPx (D : va_G) (N0 : Nat) (k : Nat → Nat) (av : List Value) (V : HV) : Array Value → State → Prop := va_Pc av (fun U => (hG D N0 k U ∧ hNC U) ∧ hv D vwCl N0 V U.heap)
theorem mPx.blind {D : va_G} {N0 : Nat} {k : Nat → Nat} {av : List Value} {V : HV} : FrameBlind (mPx D N0 k av V) := fun a U g mk h => ⟨h.1, ⟨h.2.1.1.call g mk a, h.2.1.2⟩, h.2.2⟩
theorem mPx.preS {D : va_G} {N0 : Nat} {k : Nat → Nat} {As : List Value} {V : HV} {s : State} {H : Heap} {locs : List Loc} (hG : hG D N0 k s) (hN : hNC s) (hS : va_S (hA N0) s.heap H locs) (hV : hv D vwCl N0 V H) : PreS s H (mPx D N0 k As V) As :=
  ⟨mPx.blind, fun U hU hW => ⟨rfl, ⟨hG.next hS hU hW, hN.next hW⟩, by rw [hU]; exact hV⟩⟩
/-- the words of a callee among a caller's, whatever stands before them -/
theorem gi_Vw {w1 : Cond} {y2 : MethodName} {b2 : ByteArray} {m2 idx : Nat} {r2 : Option FieldType} {own C : String} (h1 : Cond.methodLink own idx y2 ∈ WS) (h2 : Cond.instanceMethod y2 ∈ WS) (h3 : Cond.selects C y2 y2 ∈ WS) (h4 : Cond.initialized C ∈ WS) (h : Cond.code y2 b2 m2 r2 ∈ WS) : GoodIn (w1 :: WS) (wsV own idx C y2 (.code y2 b2 m2 r2 :: WS)) := by
  intro w hw
  have hw' : w ∈ WS := by
    simp only [wsV, List.mem_append, List.mem_cons, List.not_mem_nil, or_false] at hw
    rcases hw with (e | e | e | e) | e | e
    · rw [e]; exact h1
    · rw [e]; exact h2
    · rw [e]; exact h3
    · rw [e]; exact h4
    · rw [e]; exact h
    · exact e
  exact ⟨List.mem_cons_of_mem _ hw', good_of_word (WS_good w hw')⟩
theorem gi_Sw {w1 w2 : Cond} {y2 : MethodName} {idx : Nat} {own : String} (h1 : Cond.methodLink own idx y2 ∈ WS) (h2 : Cond.static y2 ∈ WS) (h4 : Cond.initialized y2.cls ∈ WS) (h : w2 ∈ WS) : GoodIn (w1 :: WS) (va_wsS own idx y2 (w2 :: WS)) := by
  intro w hw
  have hw' : w ∈ WS := by
    simp only [va_wsS, List.mem_append, List.mem_cons, List.not_mem_nil, or_false] at hw
    rcases hw with (e | e | e) | e | e
    · rw [e]; exact h1
    · rw [e]; exact h2
    · rw [e]; exact h4
    · rw [e]; exact h
    · exact e
  exact ⟨List.mem_cons_of_mem _ hw', good_of_word (WS_good w hw')⟩
section HXW
variable {l : Launch}
theorem hx_MetW {y : MethodName} {ws ws' : List Cond} {rm : Room} {Pc : Array Value → State → Prop} {Qc : Array Value → State → Outcome → State → Prop} {mc ms : Nat} {free : Addr → Prop} {cc : ByteArray} {maxL : Nat} {ret : Option FieldType} {hh : List (Nat × Nat × Nat × Nat)}
    (hy : plainName y.cls = true) (hw : ws = Cond.codeWith y cc maxL ret hh :: ws')
    (body : ∀ p e s m args below meth c s₁, BodyLoose p l y (headSpec ws rm) cc maxL ret e s m args below meth c s₁ → c.maxLocals = maxL → c.exceptionTable.toList = tableOf hh → Pc args s →
      W p l e (headSpec ws rm).room s m args below meth c s.heap [] 0 0 (MQ below Qc args s mc ms free) (entryFrame m args maxL)) : Met l y ws rm Pc Qc mc ms free := by
  refine va_MetW (hh := hh) hy hw ?_
  intro p e s m args below meth c s₁ B hml hP
  obtain ⟨m9, meth', c', hn9, hm', hc', -, -, ht, -⟩ := Cond.codeWith_spec (atoms_spec (ws := ws) B.pre _ (by rw [hw]; exact List.mem_cons_self))
  cases B.named.symm.trans hn9
  cases B.method.symm.trans hm'
  cases (Stand.of_body B).code.symm.trans hc'
  exact body p e s m args below meth c s₁ B hml (by rw [← ht, table_eq]) hP
end HXW
section HXS
variable {p : Program} {l : Launch} {e : Env} {R : Room} {s : State} {m : MethodId} {args : Array Value} {below : List Frame} {meth : Method} {c : Code} {H : Heap} {locs : List Loc} {cells slots : Nat} {Q : State → Prop}
variable {y : MethodName} {bytes cc : ByteArray} {maxL nL mc ms n index : Nat} {ret : Option FieldType} {ws ws' : List Cond} {rm : Room} {Pc : Array Value → State → Prop} {E : String} {B : Heap → Prop} {N0 : Nat} {Ts : List Cond} {own C : String} {b : Addr} {As rest : List Value} {g : JFrame} {hh : List (Nat × Nat × Nat × Nat)} {Qc : Array Value → State → Outcome → State → Prop} {free : Addr → Prop}
/-- into the handler of the caller's own table: the rows before it name other exceptions -/
theorem hx_callCatchL {pc : Nat} {ls : Array Slot} {st0 : List Value} (hr : hx_Run p l e R s m args below meth c H locs cells slots mc ms (F0 m pc ls st0) rest E B N0) (hS : va_S (hA N0) s.heap H locs) (hown : s.vm.findClass own = some m.cls) (hN : hNC s) (hE : E ∈ [xG, xS, xX])
    (pre : List (ExceptionTableEntry × String)) (x : ExceptionTableEntry) (rst : List ExceptionTableEntry) (hsplit : c.exceptionTable.toList = pre.map (fun q => q.1) ++ x :: rst)
    (hpre : ∀ q ∈ pre, q.1.catchType ≠ 0 ∧ (Cond.classLink own q.1.catchType q.2).before args s = true ∧ (E, q.2) ∈ ncW) (hx : covers x pc = true) (h0 : x.catchType ≠ 0) (hlink : (Cond.classLink own x.catchType E).before args s = true)
    (kk : ∀ (q : Addr) (H1 : Heap) (locs1 : List Loc), B H1 → va_S (hA N0) s.heap H1 locs1 → W p l e R s m args below meth c H1 locs1 (cells + mc) (slots + ms) Q (F0 m x.handlerPc ls [.ref q])) :
    W p l e R s m args below meth c H locs cells slots Q (F0 m pc ls st0) := by
  intro T hT X
  obtain ⟨q, T', L, a1, a2, a3, a4, ⟨b1, b2⟩, a6⟩ := hr T hT X
  have hS' : va_S (hA N0) s.heap T'.heap (locs ++ L) := ⟨Nat.le_trans hS.1 b1, fun x h1 h2 => (b2 x (Nat.lt_of_lt_of_le h1 hS.1) h2).trans (hS.2.1 x h1 h2), fun z hz => (List.mem_append.mp hz).elim (hS.2.2 z) (a2 z)⟩
  obtain ⟨ce, h1, h2, h3⟩ := a3
  obtain ⟨cE, f1, f2⟩ := hN.2 E hE
  cases h3.symm.trans f1
  have hpl : e.platform.magicAccessors = ({} : Platform).magicAccessors := by rw [a1.admits.platform]
  obtain ⟨hend, hk0⟩ := a1.catches_of_link hown h0 hlink f1 f2
  obtain ⟨vm', XV, st⟩ := a1.thenCaughtThrough q (g := F0 m pc ls rest) rfl a6 h1 (by rw [h2]; rfl) hk0 (pre.map (fun q => q.1)) x rst hsplit (fun y hy => by
    obtain ⟨z, hz, rfl⟩ := List.mem_map.mp hy
    obtain ⟨g1, g2, g3⟩ := hpre z hz
    obtain ⟨a, b, k1, k2, k3⟩ := hN.1 _ g3
    cases f1.symm.trans k1
    obtain ⟨c', hc', hcl⟩ := Cond.classLink_spec hown g2 e.platform hpl
    cases k2.symm.trans hc'
    exact Or.inr ⟨g1, _, hcl, k3⟩) hx hend
  obtain ⟨t, st2, hq⟩ := kk q T'.heap (locs ++ L) a4 hS' (T'.setVm vm') rfl XV
  exact ⟨t, st.trans st2, hq⟩
abbrev callSW (R : Room) (s : State) (args : Array Value) (own : String) (index : Nat) (y : MethodName) (bytes : ByteArray) (maxL : Nat) (ret : Option FieldType) (hh : List (Nat × Nat × Nat × Nat)) (ws : List Cond) (rm : Room) (mc ms n : Nat) : Prop :=
  rm.cells = mc ∧ rm.slots = ms ∧ rm.frames + 1 ≤ R.frames ∧ 8 + (maxL + 11) + rm.locals ≤ R.locals ∧ (∀ w ∈ ws, ∀ (a' : Array Value) (U : State), s.WarmedH U.vm → w.before a' U = true) ∧ Cond.codeWith y bytes maxL ret hh ∈ ws ∧
  (Cond.codeWith y bytes maxL ret hh).before args s = true ∧ (Cond.initialized y.cls).before args s = true ∧ (y.cls ≠ "java/lang/invoke/MethodHandle" ∧ y.cls ≠ "java/lang/invoke/VarHandle") ∧ (∀ sig, parseMethodDescriptor y.desc = some sig → n = sig.parameters.length) ∧ (Cond.methodLink own index y).before args s = true ∧ (Cond.static y).before args s = true
theorem va_cwSW (n : Nat) (ht : ∀ w ∈ Ts, w.before args s = true) (hT : GoodIn Ts (va_wsS own index y ws)) (hw : ws = Cond.codeWith y bytes maxL ret hh :: ws') (hrc : rm.cells = mc) (hrs : rm.slots = ms)
    (hd : y.cls ≠ "java/lang/invoke/MethodHandle" ∧ y.cls ≠ "java/lang/invoke/VarHandle" ∧ (parseMethodDescriptor y.desc).map (fun d => d.parameters.length) = some n) (hR : rm.frames + 1 ≤ R.frames ∧ 8 + (maxL + 11) + rm.locals ≤ R.locals) :
    callSW R s args own index y bytes maxL ret hh ws rm mc ms n := by
  have ok : ∀ w ∈ va_wsS own index y ws, w.before args s = true := fun w h => ht w (hT w h).1
  have hG : GoodIn Ts ws := fun w h => hT w (by unfold va_wsS; exact List.mem_append_right _ h)
  have hc : Cond.codeWith y bytes maxL ret hh ∈ ws := by rw [hw]; exact List.mem_cons_self
  refine ⟨hrc, hrs, hR.1, hR.2, pay_in ht hG, hc, ht _ (hG _ hc).1, ok _ (by simp [va_wsS]), ⟨hd.1, hd.2.1⟩, fun sig h => ?_, ok _ (by simp [va_wsS]), ok _ (by simp [va_wsS])⟩
  have h2 := hd.2.2
  rw [h] at h2
  exact (Option.some.inj h2).symm
theorem va_runSW (S : CallFix p m c cc nL s args Ts own) (hM : Met l y ws rm Pc Qc mc ms free) (cw : callSW R s args own index y bytes maxL ret hh ws rm mc ms n) (hp : PreS s H Pc As)
    (hg : g.method = m) (hn : As.length = n) (hsize : g.locals.size = nL) (hstack : g.stack = As.reverse ++ rest) (hW : 2 * g.monitorRoom + (rest.map fun v => v.category).sum ≤ 8) (hdg : decode cc g.pc = .ok (.invokestatic index, 3)) (hf : cells + mc ≤ R.cells ∧ slots + ms ≤ R.slots) :
    va_Run p l e R s m args below meth c H locs cells slots mc ms g rest (Qc As.toArray) (free) := by
  obtain ⟨hrc, hrs, hfr, hlo, hws, hcw, hcode, hini, hy, hlen, hl, hstt⟩ := cw
  have hK : Back l R p e below s args y 3 8 (PreOf R mc ms Pc) (PostOf Qc mc ms free) := va_backW (hh := hh) (bytes := bytes) (maxL := maxL) (ret := ret) hM hp.1 hrc hrs hfr hlo hws hcw (fun a' U hW => word_at hW (Or.inl (by first | rfl | simp [Cond.onTables, Cond.keeps, Cond.steady])) hini)
  obtain ⟨hx, hb, hml, ho, -⟩ := S
  intro T hT X
  obtain ⟨mk, methM, cM, hnamed, hmethM, -, -, -, -, -, -, hsigM⟩ := Cond.codeWith_spec hcode
  have hstatic : methM.isStatic = true := Cond.static_spec hnamed hmethM hstt
  obtain ⟨kP, hkP, -⟩ := className_of_methodNamed hnamed
  have hinitP : kP.init = .initialized := Cond.initialized_spec (findClass_of_methodNamed hnamed) hkP hini
  obtain ⟨vm₁, X₁, hstep₁⟩ := X.invokestatic hx ho hl hnamed hmethM hstatic hkP hinitP hy (g := g) hg (argsL := As) (rest := rest) (hn.trans (hlen _ hsigM)) hstack (by rw [hb]; exact hdg)
  obtain ⟨v, ⟨U', l2, c2, s2⟩, X', ⟨g', mk', t, L, e1, e2, hq, h1, hL, h2, h3⟩, hsteps⟩ := hK m meth c ⟨T.setVm vm₁, locs, cells, slots⟩ { g with stack := rest } (.invokestatic index) mk As.toArray X₁ hg (hsize.trans hml.symm) (by rw [hb]; exact hdg) hW (X₁.named hnamed) ⟨hf.1, hf.2, hp.2 (T.setVm vm₁) hT X₁.warmed⟩
  dsimp only [Pt.U, Pt.locs, Pt.cells, Pt.slots] at X' e1 e2 h1 h2 h3 hsteps
  subst h1; subst h2; subst h3
  exact ⟨v, (T.setVm vm₁).calling g' mk' As.toArray, t, U', L, hT, X', hL, e1, e2, hq, fun target h => hstep₁ _ fun acts => by rw [doInvoke_state]; exact hsteps.trans h⟩
end HXS
