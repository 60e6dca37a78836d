/-! a call of a method that throws, by invokevirtual and by invokestatic: with the note over the caller's frame; and out of the caller -/
section HXR
variable {p : Program} {l : Launch} {e : Env} {R : Room} {s : State} {m : MethodId} {args : Array Value} {below : List Frame} {meth : Method} {c : Code} {H : Heap} {locs : List Loc} {cells slots : Nat} {Q : State → Prop}
variable {y : MethodName} {bytes cc : ByteArray} {maxL nL mc ms n index : Nat} {ret : Option FieldType} {ws : List Cond} {rm : Room} {Pc : Array Value → State → Prop} {E : String} {B : Heap → Prop} {N0 : Nat} {Ts : List Cond} {own C : String} {b : Addr} {As rest : List Value} {g : JFrame}
def hx_Run (p : Program) (l : Launch) (e : Env) (R : Room) (s : State) (m : MethodId) (args : Array Value) (below : List Frame) (meth : Method) (c : Code) (H : Heap) (locs : List Loc) (cells slots mc ms : Nat) (g : JFrame) (rest : List Value) (E : String) (B : Heap → Prop) (N0 : Nat) : Prop :=
  ∀ T : State, T.heap = H → Stand p l e R s m args below meth c T locs cells slots → ∃ (q : Addr) (T' : State) (L : List Loc), Stand p l e R s m args below meth c T' (locs ++ L) (cells + mc) (slots + ms) ∧ (∀ z ∈ L, N0 ≤ z.base) ∧ hx_E E s q T'.heap ∧ B T'.heap ∧
    (H.size ≤ T'.heap.size ∧ ∀ x : Nat, x < H.size → ¬ hA N0 x → T'.heap[x]? = H[x]?) ∧ Steps p.tables e below (T.setTop g) ((T'.setTop { g with stack := rest }).pushFrame (.throwing q))
theorem hx_runV (S : CallFix p m c cc nL s args Ts own) (hM : hx_Met l y ws rm Pc E B N0 mc ms) (cw : CallW R s args own C index y bytes maxL ret ws rm mc ms n) (hp : PreV s H C b Pc As)
    (hg : g.method = m) (hn : As.length = n) (hsize : g.locals.size = nL) (hstack : g.stack = As.reverse ++ .ref b :: rest) (hW : 2 * g.monitorRoom + (rest.map fun v => v.category).sum ≤ 8) (hdg : decode cc g.pc = .ok (.invokevirtual index, 3)) (hf : cells + mc ≤ R.cells ∧ slots + ms ≤ R.slots) :
    hx_Run p l e R s m args below meth c H locs cells slots mc ms g rest E B N0 := by
  obtain ⟨⟨hrc, hrs, hfr, hlo, hws, hcw, hcode, hini, hy, hlen, hl⟩, hinst, hsel⟩ := cw
  obtain ⟨hx, hb, hml, ho, -⟩ := S
  obtain ⟨hbl, ⟨cellB, hcB, hoB, hclB⟩, hPc⟩ := hp
  intro T hT X
  obtain ⟨mk, methM, hnamed, hmethM, hstM, habM⟩ := Cond.instanceMethod_spec hinst
  obtain ⟨methM', cM, hmethM', -, -, -, -, -, -, hsigM⟩ := Cond.code_spec hnamed hcode
  cases hmethM.symm.trans hmethM'
  obtain ⟨c2, r2, m2, q1, q2, q3, q4, kP, hkP, hkPi⟩ := Cond.selects_spec hsel
  cases hclB.symm.trans q1
  cases (State.methodFound?_of_named hnamed hy).symm.trans q2
  cases hnamed.symm.trans q3
  have hselP : selectMethod e.platform s.vm cellB.cls mk = .method mk := by rw [Launch.admits_selectMethod X.admits]; exact q4
  obtain ⟨vm1, X1, hstep⟩ := X.invokevirtual hx ho hl hnamed hmethM hstM hkP hkPi hy (a := b) (cell := cellB) (by rw [hT]; exact hcB) (fun z h => by rw [h] at hoB; cases hoB) hselP hmethM habM hkP hkPi (g := g) hg (argsL := As) (rest := rest) (hn.trans (hlen _ hsigM)) hstack (by rw [hb]; exact hdg)
  obtain ⟨q, T', L, a1, a2, a3, a4, a5, a6⟩ := hx_back (bytes := bytes) (maxL := maxL) (ret := ret) (len := 3) (ig := .invokevirtual index) (mk := mk) (a := (Value.ref b :: As).toArray) X1 hM hbl hrc hrs hfr hlo hws hcw (fun a' U hWU => word_at hWU (Or.inl (by first | rfl | simp [Cond.onTables, Cond.keeps, Cond.steady])) hini) (g := { g with stack := rest }) hg (hsize.trans hml.symm) (by rw [hb]; exact hdg) hW (X1.named hnamed) hf (hPc (T.setVm vm1) hT X1.warmed)
  refine ⟨q, T', L, a1, a2, a3, a4, ?_, ?_⟩
  · have h5 : T.heap.size ≤ T'.heap.size ∧ ∀ x : Nat, x < T.heap.size → ¬ hA N0 x → T'.heap[x]? = T.heap[x]? := a5
    rw [hT] at h5
    exact h5
  · exact hstep _ fun acts => by rw [doInvoke_state]; rw [doInvoke_state] at a6; exact a6
theorem hx_runS (S : CallFix p m c cc nL s args Ts own) (hM : hx_Met l y ws rm Pc E B N0 mc ms) (cw : CallB R s args own index y bytes maxL ret ws rm mc ms n ∧ (Cond.static y).before args s = true) (hp : PreS s H Pc As)
    (hg : g.method = m) (hn : As.length = n) (hsize : g.locals.size = nL) (hstack : g.stack = As.reverse ++ rest) (hW : 2 * g.monitorRoom + (rest.map fun v => v.category).sum ≤ 8) (hdg : decode cc g.pc = .ok (.invokestatic index, 3)) (hf : cells + mc ≤ R.cells ∧ slots + ms ≤ R.slots) :
    hx_Run p l e R s m args below meth c H locs cells slots mc ms g rest E B N0 := by
  obtain ⟨⟨hrc, hrs, hfr, hlo, hws, hcw, hcode, hini, hy, hlen, hl⟩, hstt⟩ := cw
  obtain ⟨hx, hb, hml, ho, -⟩ := S
  obtain ⟨hbl, hPc⟩ := hp
  intro T hT X
  obtain ⟨mk, hnamed⟩ := Cond.code_named hcode
  obtain ⟨methM, cM, hmethM, -, -, -, -, -, -, hsigM⟩ := Cond.code_spec hnamed hcode
  have hstatic : methM.isStatic = true := Cond.static_spec hnamed hmethM hstt
  obtain ⟨kP, hkP, -⟩ := className_of_methodNamed hnamed
  have hinitP : kP.init = .initialized := Cond.initialized_spec (findClass_of_methodNamed hnamed) hkP hini
  obtain ⟨vm1, X1, hstep⟩ := X.invokestatic hx ho hl hnamed hmethM hstatic hkP hinitP hy (g := g) hg (argsL := As) (rest := rest) (hn.trans (hlen _ hsigM)) hstack (by rw [hb]; exact hdg)
  obtain ⟨q, T', L, a1, a2, a3, a4, a5, a6⟩ := hx_back (bytes := bytes) (maxL := maxL) (ret := ret) (len := 3) (ig := .invokestatic index) (mk := mk) (a := As.toArray) X1 hM hbl hrc hrs hfr hlo hws hcw (fun a' U hWU => word_at hWU (Or.inl (by first | rfl | simp [Cond.onTables, Cond.keeps, Cond.steady])) hini) (g := { g with stack := rest }) hg (hsize.trans hml.symm) (by rw [hb]; exact hdg) hW (X1.named hnamed) hf (hPc (T.setVm vm1) hT X1.warmed)
  refine ⟨q, T', L, a1, a2, a3, a4, ?_, ?_⟩
  · have h5 : T.heap.size ≤ T'.heap.size ∧ ∀ x : Nat, x < T.heap.size → ¬ hA N0 x → T'.heap[x]? = T.heap[x]? := a5
    rw [hT] at h5
    exact h5
  · exact hstep _ fun acts => by rw [doInvoke_state]; rw [doInvoke_state] at a6; exact a6
/-- out of the caller, which has no table -/
theorem hx_callOut {pc : Nat} {ls : Array Slot} {st0 : List Value} {mc' ms' : Nat} (hr : hx_Run p l e R s m args below meth c H locs cells slots mc ms (F0 m pc ls st0) rest E B N0) (hno : c.exceptionTable.toList = []) (hlocks : meth.locks = false) (hS : va_S (hA N0) s.heap H locs) (hc : cells + mc ≤ mc') (hs : slots + ms ≤ ms') :
    W p l e R s m args below meth c H locs cells slots (hx_Q below E B N0 mc' ms' args s) (F0 m pc ls st0) := by
  intro T hT X
  obtain ⟨q, T', L, a1, a2, a3, a4, ⟨b1, b2⟩, a6⟩ := hr T hT X
  have hS' : va_S (hA N0) s.heap T'.heap (locs ++ L) := ⟨Nat.le_trans hS.1 b1, fun x h1 h2 => (b2 x (Nat.lt_of_lt_of_le h1 hS.1) h2).trans (hS.2.1 x h1 h2), fun z hz => (List.mem_append.mp hz).elim (hS.2.2 z) (a2 z)⟩
  obtain ⟨t, st, hq⟩ := hx_out (pc := pc) (ls := ls) (rest := rest) hno hlocks a3 a4 hS' hc hs T' rfl a1
  exact ⟨t, a6.trans st, hq⟩
/-- into the handler at h of the caller's own table: 'finds' is what its table says -/
theorem hx_callCatch {pc h : Nat} {ls : Array Slot} {st0 : List Value} (hr : hx_Run p l e R s m args below meth c H locs cells slots mc ms (F0 m pc ls st0) rest E B N0) (hS : va_S (hA N0) s.heap H locs)
    (hfind : ∀ (T : State) (q : Addr) (locs1 : List Loc), Stand p l e R s m args below meth c T locs1 (cells + mc) (slots + ms) → hx_E E s q T.heap → Finds e ((T.setTop (F0 m pc ls rest)).pushFrame (.throwing q)) (F0 m pc ls rest) q (.found h))
    (kk : ∀ (q : Addr) (H1 : Heap) (locs1 : List Loc), B H1 → va_S (hA N0) s.heap H1 locs1 → W p l e R s m args below meth c H1 locs1 (cells + mc) (slots + ms) Q (F0 m h ls [.ref q])) :
    W p l e R s m args below meth c H locs cells slots Q (F0 m pc ls st0) := by
  intro T hT X
  obtain ⟨q, T', L, a1, a2, a3, a4, ⟨b1, b2⟩, a6⟩ := hr T hT X
  have hS' : va_S (hA N0) s.heap T'.heap (locs ++ L) := ⟨Nat.le_trans hS.1 b1, fun x h1 h2 => (b2 x (Nat.lt_of_lt_of_le h1 hS.1) h2).trans (hS.2.1 x h1 h2), fun z hz => (List.mem_append.mp hz).elim (hS.2.2 z) (a2 z)⟩
  obtain ⟨t, st, hq⟩ := kk q T'.heap (locs ++ L) a4 hS' T' rfl a1
  exact ⟨t, a6.trans (Steps.caught (g := F0 m pc ls rest) a1.here (hfind T' q _ a1 a3) st), hq⟩
end HXR
