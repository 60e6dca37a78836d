/-! THE VIEW: a heap seen as a partial function V of addresses. A contract speaks of any view that holds the cells it needs, and its end says which view there is then: no frame is cut or joined. All cells of a view lie from N0 on, and may be written. -/
abbrev HV : Type := Nat → Option va_E
abbrev hA (N0 : Nat) : Nat → Prop := fun q => N0 ≤ q
def hv (D : va_G) (cl : List vw_C) (N0 : Nat) (V : HV) (H : Heap) : Prop := ∀ (a : Nat) (e : va_E), V a = some e → N0 ≤ a ∧ va_at D cl (a, e) H
def hu (V : HV) (a : Nat) (e : va_E) : HV := fun q => if q = a then some e else V q
theorem hu_s {V : HV} {a : Nat} {e : va_E} : hu V a e a = some e := if_pos rfl
theorem hu_n {V : HV} {a q : Nat} {e : va_E} (h : q ≠ a) : hu V a e q = V q := if_neg h
theorem hu_o {V : HV} {a q : Nat} {e : va_E} {x y : va_E} (ha : V a = some x) (hq : V q = some y) (h : x ≠ y) : hu V a e q = some y := by
  rw [hu_n (fun z => h (by rw [z, ha] at hq; exact Option.some.inj hq)), hq]
theorem hu_f {V : HV} {a q : Nat} {e y : va_E} (ha : V a = none) (hq : V q = some y) : hu V a e q = some y := by
  rw [hu_n (fun z => by rw [z, ha] at hq; cases hq), hq]
theorem hu_u {V : HV} {a : Nat} {e e' : va_E} : hu (hu V a e) a e' = hu V a e' := by
  funext q
  by_cases h : q = a
  · rw [h, hu_s, hu_s]
  · rw [hu_n h, hu_n h, hu_n h]
theorem hu_c {V : HV} {a b : Nat} {e e' : va_E} (h : a ≠ b) : hu (hu V a e) b e' = hu (hu V b e') a e := by
  funext q
  by_cases h1 : q = a
  · subst h1
    rw [hu_n h, hu_s, hu_s]
  · by_cases h2 : q = b
    · subst h2
      rw [hu_s, hu_n h1, hu_s]
    · rw [hu_n h2, hu_n h1, hu_n h1, hu_n h2]
theorem hu_self {V : HV} {a : Nat} {e : va_E} (h : V a = some e) : hu V a e = V := by
  funext q
  by_cases h1 : q = a
  · rw [h1, hu_s, h]
  · rw [hu_n h1]
theorem hv.at1 {D : va_G} {cl : List vw_C} {N0 : Nat} {V : HV} {H : Heap} {a : Nat} {e : va_E} (h : hv D cl N0 V H) (ha : V a = some e) : va_P D cl [(a, e)] H := by
  intro k q hk
  have hz : k < 1 := (List.getElem?_eq_some_iff.mp hk).1
  rw [show k = 0 by omega] at hk
  cases hk
  exact (h a e ha).2
/-- the cells of a view as a list -/
def hv_L (V : HV) (n : Nat) : va_W := (List.range n).filterMap (fun q => (V q).map (fun e => (q, e)))
theorem hv_L_mem {V : HV} {n q : Nat} {e : va_E} : (q, e) ∈ hv_L V n ↔ q < n ∧ V q = some e := by
  unfold hv_L
  rw [List.mem_filterMap]
  constructor
  · intro ⟨x, hx, h⟩
    rw [Option.map_eq_some_iff] at h
    obtain ⟨y, h1, h2⟩ := h
    cases h2
    exact ⟨List.mem_range.mp hx, h1⟩
  · intro ⟨h1, h2⟩
    exact ⟨q, List.mem_range.mpr h1, by rw [h2]; rfl⟩
theorem hv_L_apart (V : HV) (n : Nat) : ∀ (i j : Nat) (x y : Nat × va_E), (hv_L V n)[i]? = some x → (hv_L V n)[j]? = some y → x.1 = y.1 → i = j := by
  have hp : (hv_L V n).Pairwise (fun x y => x.1 ≠ y.1) := by
    unfold hv_L
    rw [List.pairwise_filterMap]
    refine List.Pairwise.imp ?_ (List.nodup_range (n := n))
    intro a b hab x hx y hy
    rw [Option.map_eq_some_iff] at hx hy
    obtain ⟨_, -, rfl⟩ := hx
    obtain ⟨_, -, rfl⟩ := hy
    exact hab
  rw [List.pairwise_iff_getElem] at hp
  intro i j x y hx hy hxy
  obtain ⟨hi, rfl⟩ := List.getElem?_eq_some_iff.mp hx
  obtain ⟨hj, rfl⟩ := List.getElem?_eq_some_iff.mp hy
  rcases Nat.lt_trichotomy i j with h | h | h
  · exact absurd hxy (hp i j hi hj h)
  · exact h
  · exact absurd hxy.symm (hp j i hj hi h)
theorem hv.list {D : va_G} {cl : List vw_C} {N0 : Nat} {V : HV} {H : Heap} (h : hv D cl N0 V H) : ∃ ws : va_W, va_P D cl ws H ∧ va_D (hA N0) ws ∧ (∀ (a : Nat) (e : va_E), V a = some e → ∃ k : Nat, ws[k]? = some (a, e)) := by
  refine ⟨hv_L V H.size, fun k q hk => ?_, ⟨hv_L_apart V H.size, fun k q hk => ?_⟩, fun a e ha => ?_⟩
  · exact (h q.1 q.2 (hv_L_mem.mp (List.mem_of_getElem? hk)).2).2
  · exact (h q.1 q.2 (hv_L_mem.mp (List.mem_of_getElem? hk)).2).1
  · exact List.getElem?_of_mem (hv_L_mem.mpr ⟨(h a e ha).2.lt, ha⟩)
theorem hv.ofSet {D : va_G} {cl : List vw_C} {N0 : Nat} {V : HV} {H H1 : Heap} {ws : va_W} {a k0 : Nat} {e e1 : va_E} (h : hv D cl N0 V H) (hD : va_D (hA N0) ws) (hws : ∀ (a : Nat) (e : va_E), V a = some e → ∃ k : Nat, ws[k]? = some (a, e)) (hk0 : ws[k0]? = some (a, e)) (hP1 : va_P D cl (ws.set k0 (a, e1)) H1) : hv D cl N0 (hu V a e1) H1 := by
  have hl := (List.getElem?_eq_some_iff.mp hk0).1
  intro q x hq
  by_cases hqa : q = a
  · subst hqa
    rw [hu_s] at hq
    cases hq
    exact ⟨hD.2 k0 _ hk0, hP1 k0 _ (List.getElem?_set_self hl)⟩
  · rw [hu_n hqa] at hq
    obtain ⟨k, hk⟩ := hws q x hq
    have hkk : k ≠ k0 := fun z => by
      rw [z, hk0] at hk
      cases hk
      exact hqa rfl
    exact ⟨(h q x hq).1, hP1 k _ (by rw [List.getElem?_set_ne (Ne.symm hkk)]; exact hk)⟩
theorem hv.ofPush {D : va_G} {cl : List vw_C} {N0 : Nat} {V : HV} {H H1 : Heap} {ws : va_W} {q : Nat} {e1 : va_E} (h : hv D cl N0 V H) (hws : ∀ (a : Nat) (e : va_E), V a = some e → ∃ k : Nat, ws[k]? = some (a, e)) (hP1 : va_P D cl (ws ++ [(q, e1)]) H1) (hD1 : va_D (hA N0) (ws ++ [(q, e1)])) : V q = none ∧ N0 ≤ q ∧ hv D cl N0 (hu V q e1) H1 := by
  have hlast : (ws ++ [(q, e1)])[ws.length]? = some (q, e1) := by rw [List.getElem?_append_right (Nat.le_refl _), Nat.sub_self]; rfl
  have hin : ∀ (a : Nat) (e : va_E), V a = some e → ∃ k : Nat, k < ws.length ∧ (ws ++ [(q, e1)])[k]? = some (a, e) := by
    intro a e ha
    obtain ⟨k, hk⟩ := hws a e ha
    have hl := (List.getElem?_eq_some_iff.mp hk).1
    exact ⟨k, hl, by rw [List.getElem?_append_left hl]; exact hk⟩
  have hn : V q = none := by
    cases hvq : V q with
    | none => rfl
    | some x =>
      obtain ⟨k, hl, hk⟩ := hin q x hvq
      have := hD1.1 _ _ _ _ hk hlast rfl
      omega
  refine ⟨hn, hD1.2 _ _ hlast, fun a x ha => ?_⟩
  by_cases hqa : a = q
  · subst hqa
    rw [hu_s] at ha
    cases ha
    exact ⟨hD1.2 _ _ hlast, hP1 _ _ hlast⟩
  · rw [hu_n hqa] at ha
    obtain ⟨k, -, hk⟩ := hin a x ha
    exact ⟨(h a x ha).1, hP1 k _ hk⟩
section HVR
variable {p : Program} {l : Launch} {e : Env} {R : Room} {s : State} {m : MethodId} {args : Array Value} {below : List Frame} {meth : Method} {c : Code} {H : Heap} {locs : List Loc} {cells slots : Nat} {Q : State → Prop}
variable {cc : ByteArray} {pc : Nat} {ls : Array Slot} {rest : List Value} {D : va_G} {cl : List vw_C} {N0 : Nat} {a : Nat} {tys : List (ClassId × FieldType)} {V : HV} {H0 : Heap}
theorem hv_get (hexec : p.tables.exec = Jvm.exec) (hb : c.code = cc) {own ref C : String} {T : u_T} {N ci index : Nat} {Ts : List Cond} (hts : ∀ w ∈ Ts, w.before args s = true) (hin : ∀ w ∈ u_ws C T N, w ∈ Ts) (hown : s.vm.findClass own = some m.cls) (hK : va_K D cl tys s) (hV : hv D cl N0 V H) {fs : List Value} (he : V a = some (.inr (ci, fs))) (hc : cl[ci]? = some (C, T, N)) (k : Nat) (hk : k < N) (hlink : (Cond.fieldLink own index ref (T k).2.1 (T k).2.2.1).before args s = true) (hsame : (T k).1 = ref) {v : Value} (hv : fs[k]? = some v) (hdg : decode cc pc = .ok (.getfield index, 3))
    (kk : W p l e R s m args below meth c H locs cells slots Q (F0 m (pc + 3) ls (v :: rest))) : W p l e R s m args below meth c H locs cells slots Q (F0 m pc ls (.ref a :: rest)) :=
  va_get hexec hb hts hin hown hK (hV.at1 he) 0 rfl hc k hk hlink (fun x h => by rw [← hsame]; exact h) hv hdg kk
theorem hv_getN (hexec : p.tables.exec = Jvm.exec) (hb : c.code = cc) {own ref C host : String} {T : u_T} {N ci index : Nat} {Ts : List Cond} (hts : ∀ w ∈ Ts, w.before args s = true) (hin : ∀ w ∈ u_ws C T N, w ∈ Ts) (hown : s.vm.findClass own = some m.cls) (hK : va_K D cl tys s) (hV : hv D cl N0 V H) {fs : List Value} (he : V a = some (.inr (ci, fs))) (hc : cl[ci]? = some (C, T, N)) (k : Nat) (hk : k < N) (hlink : (Cond.fieldLinkNest own index ref (T k).2.1 (T k).2.2.1 host).before args s = true) (hsame : (T k).1 = ref) {v : Value} (hv : fs[k]? = some v) (hdg : decode cc pc = .ok (.getfield index, 3))
    (kk : W p l e R s m args below meth c H locs cells slots Q (F0 m (pc + 3) ls (v :: rest))) : W p l e R s m args below meth c H locs cells slots Q (F0 m pc ls (.ref a :: rest)) :=
  va_getN hexec hb hts hin hown hK (hV.at1 he) 0 rfl hc k hk hlink (fun x h => by rw [← hsame]; exact h) hv hdg kk
theorem hv_put (hexec : p.tables.exec = Jvm.exec) (hb : c.code = cc) {own ref C : String} {T : u_T} {N ci index : Nat} {Ts : List Cond} (hts : ∀ w ∈ Ts, w.before args s = true) (hin : ∀ w ∈ u_ws C T N, w ∈ Ts) (ty0 : Nat → FieldType) (hty : ∀ k, k < N → parseFieldDescriptor (T k).2.2.1 = some (ty0 k)) (hnm : ∀ a, a < N → ∀ b, b < N → a ≠ b → (T a).2.1 ≠ (T b).2.1) (hown : s.vm.findClass own = some m.cls) (hK : va_K D cl tys s) (hV : hv D cl N0 V H) (hS : va_S (hA N0) H0 H locs) {fs : List Value} (he : V a = some (.inr (ci, fs))) (hc : cl[ci]? = some (C, T, N)) (k : Nat) (hk : k < N) (hlink : (Cond.fieldLink own index ref (T k).2.1 (T k).2.2.1).before args s = true) (hsame : (T k).1 = ref) (hfin : (T k).2.2.2 = false) {ty : FieldType} {v : Value} (hd : parseFieldDescriptor (T k).2.2.1 = some ty) (hn : narrow ty v = v) (hfit : fits ty v = true) (hl : k < fs.length)
    (hdg : decode cc pc = .ok (.putfield index, 3)) (kk : ∀ (H1 : Heap) (locs1 : List Loc), hv D cl N0 (hu V a (.inr (ci, fs.set k v))) H1 → va_S (hA N0) H0 H1 locs1 → W p l e R s m args below meth c H1 locs1 cells slots Q (F0 m (pc + 3) ls rest)) : W p l e R s m args below meth c H locs cells slots Q (F0 m pc ls (v :: .ref a :: rest)) := by
  obtain ⟨ws, hP, hD, hws⟩ := hV.list
  obtain ⟨k0, hk0⟩ := hws _ _ he
  exact va_put hexec hb hts hin ty0 hty hnm hown hK hP hD hS k0 hk0 hc k hk hlink (fun x h => by rw [← hsame]; exact h) hfin hd hn hfit hl hdg (fun H1 locs1 hP1 _ hS1 => kk H1 locs1 (hV.ofSet hD hws hk0 hP1) hS1)
theorem hv_putN (hexec : p.tables.exec = Jvm.exec) (hb : c.code = cc) {own ref C host : String} {T : u_T} {N ci index : Nat} {Ts : List Cond} (hts : ∀ w ∈ Ts, w.before args s = true) (hin : ∀ w ∈ u_ws C T N, w ∈ Ts) (ty0 : Nat → FieldType) (hty : ∀ k, k < N → parseFieldDescriptor (T k).2.2.1 = some (ty0 k)) (hnm : ∀ a, a < N → ∀ b, b < N → a ≠ b → (T a).2.1 ≠ (T b).2.1) (hown : s.vm.findClass own = some m.cls) (hK : va_K D cl tys s) (hV : hv D cl N0 V H) (hS : va_S (hA N0) H0 H locs) {fs : List Value} (he : V a = some (.inr (ci, fs))) (hc : cl[ci]? = some (C, T, N)) (k : Nat) (hk : k < N) (hlink : (Cond.fieldLinkNest own index ref (T k).2.1 (T k).2.2.1 host).before args s = true) (hsame : (T k).1 = ref) (hfin : (T k).2.2.2 = false) {ty : FieldType} {v : Value} (hd : parseFieldDescriptor (T k).2.2.1 = some ty) (hn : narrow ty v = v) (hfit : fits ty v = true) (hl : k < fs.length)
    (hdg : decode cc pc = .ok (.putfield index, 3)) (kk : ∀ (H1 : Heap) (locs1 : List Loc), hv D cl N0 (hu V a (.inr (ci, fs.set k v))) H1 → va_S (hA N0) H0 H1 locs1 → W p l e R s m args below meth c H1 locs1 cells slots Q (F0 m (pc + 3) ls rest)) : W p l e R s m args below meth c H locs cells slots Q (F0 m pc ls (v :: .ref a :: rest)) := by
  obtain ⟨ws, hP, hD, hws⟩ := hV.list
  obtain ⟨k0, hk0⟩ := hws _ _ he
  exact va_putN hexec hb hts hin ty0 hty hnm hown hK hP hD hS k0 hk0 hc k hk hlink (fun x h => by rw [← hsame]; exact h) hfin hd hn hfit hl hdg (fun H1 locs1 hP1 _ hS1 => kk H1 locs1 (hV.ofSet hD hws hk0 hP1) hS1)
theorem hv_putF (hexec : p.tables.exec = Jvm.exec) (hb : c.code = cc) {own ref C : String} {T : u_T} {N ci index : Nat} {Ts : List Cond} (hts : ∀ w ∈ Ts, w.before args s = true) (hin : ∀ w ∈ u_ws C T N, w ∈ Ts) (ty0 : Nat → FieldType) (hty : ∀ k, k < N → parseFieldDescriptor (T k).2.2.1 = some (ty0 k)) (hnm : ∀ a, a < N → ∀ b, b < N → a ≠ b → (T a).2.1 ≠ (T b).2.1) (hown : s.vm.findClass own = some m.cls) (hK : va_K D cl tys s) (hV : hv D cl N0 V H) (hS : va_S (hA N0) H0 H locs) {fs : List Value} (he : V a = some (.inr (ci, fs))) (hc : cl[ci]? = some (C, T, N)) (k : Nat) (hk : k < N) (hlink : (Cond.fieldLink own index ref (T k).2.1 (T k).2.2.1).before args s = true) (hsame : (T k).1 = ref) (hfin : (T k).2.2.2 = true) (hin2 : meth.name = "<init>") (hdecl : (T k).1 = own) {ty : FieldType} {v : Value} (hd : parseFieldDescriptor (T k).2.2.1 = some ty) (hn : narrow ty v = v) (hfit : fits ty v = true) (hl : k < fs.length)
    (hdg : decode cc pc = .ok (.putfield index, 3)) (kk : ∀ (H1 : Heap) (locs1 : List Loc), hv D cl N0 (hu V a (.inr (ci, fs.set k v))) H1 → va_S (hA N0) H0 H1 locs1 → W p l e R s m args below meth c H1 locs1 cells slots Q (F0 m (pc + 3) ls rest)) : W p l e R s m args below meth c H locs cells slots Q (F0 m pc ls (v :: .ref a :: rest)) := by
  obtain ⟨ws, hP, hD, hws⟩ := hV.list
  obtain ⟨k0, hk0⟩ := hws _ _ he
  exact va_putF hexec hb hts hin ty0 hty hnm hown hK hP hD hS k0 hk0 hc k hk hlink (fun x h => by rw [← hsame]; exact h) hfin hin2 hdecl hd hn hfit hl hdg (fun H1 locs1 hP1 _ hS1 => kk H1 locs1 (hV.ofSet hD hws hk0 hP1) hS1)
theorem hv_iald (hexec : p.tables.exec = Jvm.exec) (hb : c.code = cc) (hK : va_K D cl tys s) (hV : hv D cl N0 V H) (t0 : Nat) {cA : ClassId} {n : Nat} {f : Nat → Int32} (ha : V a = some (.inl (cA, n, .inl f))) (ht : tys[t0]? = some (cA, .int)) {i : Int32} (hin : vp_in i n) (hdg : decode cc pc = .ok (.iaload, 1))
    (kk : W p l e R s m args below meth c H locs cells slots Q (F0 m (pc + 1) ls (.int (f i.toNatClampNeg) :: rest))) : W p l e R s m args below meth c H locs cells slots Q (F0 m pc ls (.int i :: .ref a :: rest)) :=
  va_iald hexec hb hK (hV.at1 ha) 0 t0 rfl ht hin hdg kk
theorem hv_lald (hexec : p.tables.exec = Jvm.exec) (hb : c.code = cc) (hK : va_K D cl tys s) (hV : hv D cl N0 V H) (t0 : Nat) {cA : ClassId} {n : Nat} {f : Nat → Int64} (ha : V a = some (.inl (cA, n, .inr (.inl f)))) (ht : tys[t0]? = some (cA, .long)) {i : Int32} (hin : vp_in i n) (hdg : decode cc pc = .ok (.laload, 1))
    (kk : W p l e R s m args below meth c H locs cells slots Q (F0 m (pc + 1) ls (.long (f i.toNatClampNeg) :: rest))) : W p l e R s m args below meth c H locs cells slots Q (F0 m pc ls (.int i :: .ref a :: rest)) :=
  va_lald hexec hb hK (hV.at1 ha) 0 t0 rfl ht hin hdg kk
theorem hv_alen (hexec : p.tables.exec = Jvm.exec) (hb : c.code = cc) (hK : va_K D cl tys s) (hV : hv D cl N0 V H) (t0 : Nat) {cA : ClassId} {x : vp_A} (ha : V a = some (.inl (cA, x))) {ty : FieldType} (ht : tys[t0]? = some (cA, ty)) {v : Int32} (hv : Int32.ofNat x.1 = v) (hdg : decode cc pc = .ok (.arraylength, 1))
    (kk : W p l e R s m args below meth c H locs cells slots Q (F0 m (pc + 1) ls (.int v :: rest))) : W p l e R s m args below meth c H locs cells slots Q (F0 m pc ls (.ref a :: rest)) :=
  va_alen hexec hb hK (hV.at1 ha) 0 t0 rfl ht hv hdg kk
theorem hv_aald (hexec : p.tables.exec = Jvm.exec) (hb : c.code = cc) (hK : va_K D cl tys s) (hV : hv D cl N0 V H) (t0 : Nat) {cA : ClassId} {C : String} {n : Nat} {f : Nat → Option Nat} (ha : V a = some (.inl (cA, n, .inr (.inr (.inr (.inr f)))))) (ht : tys[t0]? = some (cA, .object C)) {i : Int32} (hin : vp_in i n) {v : Option Nat} (hv : f i.toNatClampNeg = v) (hdg : decode cc pc = .ok (.aaload, 1))
    (kk : W p l e R s m args below meth c H locs cells slots Q (F0 m (pc + 1) ls (va_rf v :: rest))) : W p l e R s m args below meth c H locs cells slots Q (F0 m pc ls (.int i :: .ref a :: rest)) := by
  subst hv
  exact va_aldq hexec hb hK (hV.at1 ha) 0 t0 rfl ht hin hdg kk
theorem hv_iast (hexec : p.tables.exec = Jvm.exec) (hb : c.code = cc) (hK : va_K D cl tys s) (hV : hv D cl N0 V H) (hS : va_S (hA N0) H0 H locs) (t0 : Nat) {cA : ClassId} {n : Nat} {f : Nat → Int32} (ha : V a = some (.inl (cA, n, .inl f))) (ht : tys[t0]? = some (cA, .int)) {i : Int32} {x : Int32} (hin : vp_in i n) (hdg : decode cc pc = .ok (.iastore, 1))
    (kk : ∀ (H1 : Heap) (locs1 : List Loc), hv D cl N0 (hu V a (.inl (cA, n, .inl (upd f i.toNatClampNeg x)))) H1 → va_S (hA N0) H0 H1 locs1 → W p l e R s m args below meth c H1 locs1 cells slots Q (F0 m (pc + 1) ls rest)) : W p l e R s m args below meth c H locs cells slots Q (F0 m pc ls (.int x :: .int i :: .ref a :: rest)) := by
  obtain ⟨ws, hP, hD, hws⟩ := hV.list
  obtain ⟨k0, hk0⟩ := hws _ _ ha
  exact va_iast hexec hb hK hP hD hS k0 t0 hk0 ht hin hdg (fun H1 locs1 hP1 _ hS1 => kk H1 locs1 (hV.ofSet hD hws hk0 hP1) hS1)
theorem hv_last (hexec : p.tables.exec = Jvm.exec) (hb : c.code = cc) (hK : va_K D cl tys s) (hV : hv D cl N0 V H) (hS : va_S (hA N0) H0 H locs) (t0 : Nat) {cA : ClassId} {n : Nat} {f : Nat → Int64} (ha : V a = some (.inl (cA, n, .inr (.inl f)))) (ht : tys[t0]? = some (cA, .long)) {i : Int32} {x : Int64} (hin : vp_in i n) (hdg : decode cc pc = .ok (.lastore, 1))
    (kk : ∀ (H1 : Heap) (locs1 : List Loc), hv D cl N0 (hu V a (.inl (cA, n, .inr (.inl (vp_updL f i.toNatClampNeg x))))) H1 → va_S (hA N0) H0 H1 locs1 → W p l e R s m args below meth c H1 locs1 cells slots Q (F0 m (pc + 1) ls rest)) : W p l e R s m args below meth c H locs cells slots Q (F0 m pc ls (.long x :: .int i :: .ref a :: rest)) := by
  obtain ⟨ws, hP, hD, hws⟩ := hV.list
  obtain ⟨k0, hk0⟩ := hws _ _ ha
  exact va_last hexec hb hK hP hD hS k0 t0 hk0 ht hin hdg (fun H1 locs1 hP1 _ hS1 => kk H1 locs1 (hV.ofSet hD hws hk0 hP1) hS1)
theorem hv_aast (hexec : p.tables.exec = Jvm.exec) (hb : c.code = cc) (hK : va_K D cl tys s) (hV : hv D cl N0 V H) (hS : va_S (hA N0) H0 H locs) (t0 ci : Nat) {cA : ClassId} {r : vw_C} {n v : Nat} {vs : List Value} {f : Nat → Option Nat} (ha : V a = some (.inl (cA, n, .inr (.inr (.inr (.inr f)))))) (ht : tys[t0]? = some (cA, .object r.1)) (hvv : V v = some (.inr (ci, vs))) (hc : cl[ci]? = some r) {i : Int32} (hin : vp_in i n) (hdg : decode cc pc = .ok (.aastore, 1))
    (kk : ∀ (H1 : Heap) (locs1 : List Loc), hv D cl N0 (hu V a (.inl (cA, n, .inr (.inr (.inr (.inr (va_up f i.toNatClampNeg (some v)))))))) H1 → va_S (hA N0) H0 H1 locs1 → W p l e R s m args below meth c H1 locs1 cells slots Q (F0 m (pc + 1) ls rest)) : W p l e R s m args below meth c H locs cells slots Q (F0 m pc ls (.ref v :: .int i :: .ref a :: rest)) := by
  obtain ⟨ws, hP, hD, hws⟩ := hV.list
  obtain ⟨k0, hk0⟩ := hws _ _ ha
  obtain ⟨k1, hk1⟩ := hws _ _ hvv
  exact va_astq hexec hb hK hP hD hS k0 t0 k1 ci hk0 ht hk1 hc hin hdg (fun H1 locs1 hP1 _ hS1 => kk H1 locs1 (hV.ofSet hD hws hk0 hP1) hS1)
theorem hv_newa (hexec : p.tables.exec = Jvm.exec) (hb : c.code = cc) {atype : ArrayType} (harr : (Cond.arrayClass (newarray.typeOf atype)).before args s = true) {ty : FieldType} (hty : newarray.typeOf atype = ty) (hK : va_K D cl tys s) (hV : hv D cl N0 V H) (hS : va_S (hA N0) H0 H locs) (t0 : Nat) {cI : ClassId} (ht : tys[t0]? = some (cI, ty)) (hpr : ∀ cA : ClassId, va_RA s cA ty → s.vm.findClass ("[" ++ ty.toString) = some cA)
    {n : Int32} {N' : Nat} {a0 : vp_A} (ha : ∀ cA : ClassId, vp_cell cA a0 = arrV cA N' (fun _ => defaultValue ty)) (hn : ¬ n < 0) (hN : n.toNatClampNeg = N') (hbytes : N' * componentBytes ty ≤ 536870912) (hcells : cells + 1 ≤ R.cells) (hslots : slots + N' ≤ R.slots) (hN0 : N0 ≤ H0.size) (hdg : decode cc pc = .ok (.newarray atype, 2))
    (kk : ∀ (q : Nat) (H1 : Heap), V q = none → N0 ≤ q → hv D cl N0 (hu V q (.inl (cI, a0))) H1 → va_S (hA N0) H0 H1 locs →
      W p l e R s m args below meth c H1 locs (cells + 1) (slots + N') Q (F0 m (pc + 2) ls (.ref q :: rest))) : W p l e R s m args below meth c H locs cells slots Q (F0 m pc ls (.int n :: rest)) := by
  obtain ⟨ws, hP, hD, hws⟩ := hV.list
  refine va_newa hexec hb harr hty hK hP hD hS (fun q hq => Nat.le_trans hN0 hq) ha hn hN hbytes hcells hslots hdg (fun q cA H1 hK1 hP1 hD1 hS1 => ?_)
  have h1 := hpr cA (hK1.2 tys.length (cA, ty) (by rw [List.getElem?_append_right (Nat.le_refl _), Nat.sub_self]; rfl)).2
  have h2 := hpr cI (hK.2 t0 _ ht).2
  have hcA : cA = cI := Option.some.inj (h1.symm.trans h2)
  subst hcA
  obtain ⟨a1, a2, a3⟩ := hV.ofPush hws hP1 hD1
  exact kk q H1 a1 a2 a3 hS1
theorem hv_newq (hexec : p.tables.exec = Jvm.exec) (hb : c.code = cc) {own C : String} {index : Nat} (hown : s.vm.findClass own = some m.cls) (hclink : (Cond.classLink own index C).before args s = true) (hover : va_AO C s) (hK : va_K D cl tys s) (hV : hv D cl N0 V H) (hS : va_S (hA N0) H0 H locs) (t0 : Nat) {cI : ClassId} (ht : tys[t0]? = some (cI, .object C))
    {n : Int32} {N' : Nat} (hn : ¬ n < 0) (hN : n.toNatClampNeg = N') (hbytes : N' * 4 ≤ 536870912) (hcells : cells + 1 ≤ R.cells) (hslots : slots + N' ≤ R.slots) (hN0 : N0 ≤ H0.size) (hdg : decode cc pc = .ok (.anewarray index, 3))
    (kk : ∀ (q : Nat) (H1 : Heap), V q = none → N0 ≤ q → hv D cl N0 (hu V q (.inl (cI, N', .inr (.inr (.inr (.inr (fun _ => none))))))) H1 → va_S (hA N0) H0 H1 locs →
      W p l e R s m args below meth c H1 locs (cells + 1) (slots + N') Q (F0 m (pc + 3) ls (.ref q :: rest))) : W p l e R s m args below meth c H locs cells slots Q (F0 m pc ls (.int n :: rest)) := by
  obtain ⟨ws, hP, hD, hws⟩ := hV.list
  refine va_newq hexec hb hown hclink hover hK hP hD hS (fun q hq => Nat.le_trans hN0 hq) hn hN hbytes hcells hslots hdg (fun q cA H1 hK1 hP1 hD1 hS1 => ?_)
  obtain ⟨_, _, -, -, -, h1⟩ := (hK1.2 tys.length (cA, .object C) (by rw [List.getElem?_append_right (Nat.le_refl _), Nat.sub_self]; rfl)).2
  obtain ⟨_, _, -, -, -, h2⟩ := (hK.2 t0 _ ht).2
  have hcA : cA = cI := Option.some.inj (h1.symm.trans h2)
  subst hcA
  obtain ⟨a1, a2, a3⟩ := hV.ofPush hws hP1 hD1
  exact kk q H1 a1 a2 a3 hS1
theorem hv_new {c0 : Code} (hexec : p.tables.exec = Jvm.exec) (hb : c0.code = cc) {own C : String} {T : u_T} {N ci index : Nat} {Ts : List Cond} (hts : ∀ w ∈ Ts, w.before args s = true) (hin : ∀ w ∈ u_ws C T N, w ∈ Ts) (ty : Nat → FieldType) (hty : ∀ k, k < N → parseFieldDescriptor (T k).2.2.1 = some (ty k)) (hown : s.vm.findClass own = some m.cls) (hcl : (Cond.classLink own index C).before args s = true) (hinst : (Cond.instantiable C N).before args s = true) (hini : (Cond.initialized C).before args s = true)
    (hK : va_K D cl tys s) (hV : hv D cl N0 V H) (hS : va_S (hA N0) H0 H locs) (hc : cl[ci]? = some (C, T, N)) {fs : List Value} (hfs : ∀ j, j < N → defaultValue (ty j) = vp_V fs j) (hcells : cells + 1 ≤ R.cells) (hslots : slots + N ≤ R.slots) (hN0 : N0 ≤ H0.size) (hdg : decode cc pc = .ok (.new index, 3))
    (kk : ∀ (q : Nat) (H1 : Heap), V q = none → N0 ≤ q → hv D cl N0 (hu V q (.inr (ci, fs))) H1 → va_S (hA N0) H0 H1 locs →
      W p l e R s m args below meth c0 H1 locs (cells + 1) (slots + N) Q (F0 m (pc + 3) ls (.ref q :: rest))) : W p l e R s m args below meth c0 H locs cells slots Q (F0 m pc ls rest) := by
  obtain ⟨ws, hP, hD, hws⟩ := hV.list
  refine va_new hexec hb hts hin ty hty hown hcl hinst hini hK hP hD hS (fun q hq => Nat.le_trans hN0 hq) hc hfs hcells hslots hdg (fun q H1 hP1 hD1 hS1 => ?_)
  obtain ⟨a1, a2, a3⟩ := hV.ofPush hws hP1 hD1
  exact kk q H1 a1 a2 a3 hS1
end HVR
