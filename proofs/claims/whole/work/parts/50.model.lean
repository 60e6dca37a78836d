/-! THE MODEL (the reference): its state in a view. s: 0 thrown, 1 layers, 2 gap, 3 told, 4 working; I: the arrays of ints and booleans, L: of longs, in the order of the class's rows -/
abbrev eZ (k : Nat → Nat) (n : Nat) (f : Nat → Int32) : va_E := .inl (k 2, n, .inl f)
abbrev eL (k : Nat → Nat) (n : Nat) (f : Nat → Int64) : va_E := .inl (k 1, n, .inr (.inl f))
section HVZ
variable {p : Program} {l : Launch} {e : Env} {R : Room} {s : State} {m : MethodId} {args : Array Value} {below : List Frame} {meth : Method} {c : Code} {H : Heap} {locs : List Loc} {cells slots : Nat} {Q : State → Prop}
variable {cc : ByteArray} {pc : Nat} {ls : Array Slot} {rest : List Value} {D : va_G} {cl : List vw_C} {N0 : Nat} {a : Nat} {tys : List (ClassId × FieldType)} {V : HV} {H0 : Heap}
theorem hv_zald (hexec : p.tables.exec = Jvm.exec) (hb : c.code = cc) (hK : va_K D cl tys s) (hV : hv D cl N0 V H) (t0 : Nat) {cA : ClassId} {n : Nat} {f : Nat → Int32} (ha : V a = some (.inl (cA, n, .inl f))) (ht : tys[t0]? = some (cA, .boolean)) {i : Int32} (hin : vp_in i n) (hdg : decode cc pc = .ok (.baload, 1))
    (kk : W p l e R s m args below meth c H locs cells slots Q (F0 m (pc + 1) ls (.int (f i.toNatClampNeg) :: rest))) : W p l e R s m args below meth c H locs cells slots Q (F0 m pc ls (.int i :: .ref a :: rest)) :=
  va_zald hexec hb hK (hV.at1 ha) 0 t0 rfl ht hin hdg kk
theorem hv_zast (hexec : p.tables.exec = Jvm.exec) (hb : c.code = cc) (hK : va_K D cl tys s) (hV : hv D cl N0 V H) (hS : va_S (hA N0) H0 H locs) (t0 : Nat) {cA : ClassId} {n : Nat} {f : Nat → Int32} (ha : V a = some (.inl (cA, n, .inl f))) (ht : tys[t0]? = some (cA, .boolean)) {i : Int32} {x : Int32} (hz : x = 0 ∨ x = 1) (hin : vp_in i n) (hdg : decode cc pc = .ok (.bastore, 1))
    (kk : ∀ (H1 : Heap) (locs1 : List Loc), hv D cl N0 (hu V a (.inl (cA, n, .inl (upd f i.toNatClampNeg x)))) H1 → va_S (hA N0) H0 H1 locs1 → W p l e R s m args below meth c H1 locs1 cells slots Q (F0 m (pc + 1) ls rest)) : W p l e R s m args below meth c H locs cells slots Q (F0 m pc ls (.int x :: .int i :: .ref a :: rest)) := by
  obtain ⟨ws, hP, hD, hws⟩ := hV.list
  obtain ⟨k0, hk0⟩ := hws _ _ ha
  have hn : vp_nar .boolean x = x := by rcases hz with rfl | rfl <;> rfl
  exact va_zast hexec hb hK hP hD hS k0 t0 hk0 ht hin hdg (fun H1 locs1 hP1 _ hS1 => kk H1 locs1 (by rw [hn] at hP1; exact hV.ofSet hD hws hk0 hP1) hS1)
/-- what lcmp pushes -/
def lcm (x y : Int64) : Int32 := if x > y then 1 else if x = y then 0 else -1
theorem lcm_0 {x y : Int64} : lcm x y = 0 ↔ x = y := by
  unfold lcm
  constructor
  · intro h
    split at h
    · exact absurd h (by decide)
    · split at h
      · assumption
      · exact absurd h (by decide)
  · intro h; subst h
    rw [if_neg (by simp), if_pos rfl]
theorem lv_lcmp (hexec : p.tables.exec = Jvm.exec) (hb : c.code = cc) {x y : Int64} (hdg : decode cc pc = .ok (.lcmp, 1))
    (k : W p l e R s m args below meth c H locs cells slots Q (F0 m (pc + 1) ls (.int (lcm x y) :: rest))) : W p l e R s m args below meth c H locs cells slots Q (F0 m pc ls (.long y :: .long x :: rest)) := by
  intro T hT X
  obtain ⟨t, a, b⟩ := k T hT X
  refine ⟨t, ?_, b⟩
  unfold lcm at a
  by_cases h1 : x > y
  · rw [if_pos h1] at a
    jvm_step X.here [X.here.top, hexec, hb, hdg, h1]
    exact a
  · rw [if_neg h1] at a
    by_cases h2 : x = y
    · rw [if_pos h2] at a
      jvm_step X.here [X.here.top, hexec, hb, hdg, h1, h2]
      exact a
    · rw [if_neg h2] at a
      jvm_step X.here [X.here.top, hexec, hb, hdg, h1, h2]
      exact a
end HVZ
def MS : Type := (Nat → Int32) × (Nat → Nat → Int32) × (Nat → Nat → Int64)
def MS.s (ρ : MS) : Nat → Int32 := ρ.1
def MS.I (ρ : MS) : Nat → Nat → Int32 := ρ.2.1
def MS.L (ρ : MS) : Nat → Nat → Int64 := ρ.2.2
def MS.ws (ρ : MS) (i : Nat) (v : Int32) : MS := (upd ρ.s i v, ρ.I, ρ.L)
def MS.wI (ρ : MS) (j : Nat) (f : Nat → Int32) : MS := (ρ.s, updT ρ.I j f, ρ.L)
def updQ (T : Nat → Nat → Int64) (i : Nat) (R : Nat → Int64) : Nat → Nat → Int64 := fun j => if j = i then R else T j
theorem uQ_s {T : Nat → Nat → Int64} {i : Nat} {R : Nat → Int64} : updQ T i R i = R := if_pos rfl
theorem uQ_n {T : Nat → Nat → Int64} {i j : Nat} {R : Nat → Int64} (h : j ≠ i) : updQ T i R j = T j := if_neg h
def MS.wL (ρ : MS) (j : Nat) (f : Nat → Int64) : MS := (ρ.s, ρ.I, updQ ρ.L j f)
theorem ms_ss {ρ : MS} {i : Nat} {v : Int32} : (ρ.ws i v).s i = v := up_s
theorem ms_sn {ρ : MS} {i j : Nat} {v : Int32} (h : j ≠ i) : (ρ.ws i v).s j = ρ.s j := up_n h
theorem ms_sI {ρ : MS} {i : Nat} {v : Int32} : (ρ.ws i v).I = ρ.I := rfl
theorem ms_sL {ρ : MS} {i : Nat} {v : Int32} : (ρ.ws i v).L = ρ.L := rfl
theorem ms_Is {ρ : MS} {i : Nat} {f : Nat → Int32} : (ρ.wI i f).s = ρ.s := rfl
theorem ms_II {ρ : MS} {i : Nat} {f : Nat → Int32} : (ρ.wI i f).I i = f := uT_s
theorem ms_In {ρ : MS} {i j : Nat} {f : Nat → Int32} (h : j ≠ i) : (ρ.wI i f).I j = ρ.I j := uT_n h
theorem ms_IL {ρ : MS} {i : Nat} {f : Nat → Int32} : (ρ.wI i f).L = ρ.L := rfl
theorem ms_Ls {ρ : MS} {i : Nat} {f : Nat → Int64} : (ρ.wL i f).s = ρ.s := rfl
theorem ms_LI {ρ : MS} {i : Nat} {f : Nat → Int64} : (ρ.wL i f).I = ρ.I := rfl
theorem ms_LL {ρ : MS} {i : Nat} {f : Nat → Int64} : (ρ.wL i f).L i = f := uQ_s
theorem ms_Ln {ρ : MS} {i j : Nat} {f : Nat → Int64} (h : j ≠ i) : (ρ.wL i f).L j = ρ.L j := uQ_n h
def tyN (j : Nat) : Nat := match j with
  | 1 => 2
  | 9 => 2
  | 15 => 2
  | 16 => 2
  | 20 => 2
  | _ => 0
def szN (j : Nat) : Nat := match j with
  | 0 => 8
  | 9 => 10
  | 10 => 10
  | 11 => 10
  | 12 => 10
  | 13 => 10
  | 14 => 10
  | 15 => 1500
  | 16 => 1500
  | 17 => 1500
  | 18 => 1500
  | 19 => 64
  | 20 => 1200
  | 21 => 1200
  | 22 => 1200
  | _ => 150
def eA (k : Nat → Nat) (j : Nat) (f : Nat → Int32) : va_E := .inl (k (tyN j), szN j, .inl f)
abbrev eMo (s : Nat → Int32) (ad : Nat → Nat) : va_E := .inr (7, [.int (s 0), .int (s 1), .int (s 2), .int (s 3), .ref (ad 0), .ref (ad 1), .ref (ad 2), .ref (ad 3), .ref (ad 4), .ref (ad 5), .ref (ad 6), .ref (ad 7), .ref (ad 8), .int (s 4), .ref (ad 9), .ref (ad 10), .ref (ad 11), .ref (ad 12), .ref (ad 13), .ref (ad 14), .ref (ad 15), .ref (ad 16), .ref (ad 17), .ref (ad 18), .ref (ad 19), .ref (ad 20), .ref (ad 21), .ref (ad 22), .ref (ad 23), .ref (ad 24), .ref (ad 25)])
def mdOk (k : Nat → Nat) (V : HV) (mo : Nat) (ad : Nat → Nat) (ρ : MS) : Prop := V mo = some (eMo ρ.s ad) ∧ (∀ i j, i < 26 → j < 26 → ad i = ad j → i = j) ∧ (∀ j, j < 23 → V (ad j) = some (eA k j (ρ.I j))) ∧ (∀ j, j < 3 → V (ad (23 + j)) = some (eL k 96 (ρ.L j)))
def mdFr (mo : Nat) (ad : Nat → Nat) (V V' : HV) : Prop := ∀ q, q ≠ mo → (∀ j, j < 26 → q ≠ ad j) → V' q = V q
theorem mdFr.rf {mo : Nat} {ad : Nat → Nat} {V : HV} : mdFr mo ad V V := fun _ _ _ => rfl
theorem mdFr.tr {mo : Nat} {ad : Nat → Nat} {V V1 V2 : HV} (h : mdFr mo ad V V1) (h2 : mdFr mo ad V1 V2) : mdFr mo ad V V2 := fun q a b => (h2 q a b).trans (h q a b)
theorem mdFr.m {mo : Nat} {ad : Nat → Nat} {V V1 : HV} {e : va_E} (h : mdFr mo ad V V1) : mdFr mo ad V (hu V1 mo e) := fun q a b => (hu_n a).trans (h q a b)
theorem mdFr.ar {mo : Nat} {ad : Nat → Nat} {V V1 : HV} {e : va_E} (h : mdFr mo ad V V1) {j : Nat} (hj : j < 26) : mdFr mo ad V (hu V1 (ad j) e) := fun q a b => (hu_n (b j hj)).trans (h q a b)
theorem md_put {k : Nat → Nat} {V : HV} {mo : Nat} {ad : Nat → Nat} {ρ : MS} (h : mdOk k V mo ad ρ) (i : Nat) (v : Int32) : mdOk k (hu V mo (eMo (upd ρ.s i v) ad)) mo ad (ρ.ws i v) :=
  ⟨hu_s, h.2.1, fun j hj => by rw [hu_n (fun z => by have := h.2.2.1 j hj; rw [z, h.1] at this; cases this)]; exact h.2.2.1 j hj, fun j hj => by rw [hu_n (fun z => by have := h.2.2.2 j hj; rw [z, h.1] at this; cases this)]; exact h.2.2.2 j hj⟩
theorem md_set {k : Nat → Nat} {V : HV} {mo : Nat} {ad : Nat → Nat} {ρ : MS} (h : mdOk k V mo ad ρ) (j : Nat) (hj : j < 23) (f : Nat → Int32) : mdOk k (hu V (ad j) (eA k j f)) mo ad (ρ.wI j f) := by
  refine ⟨by rw [hu_n (fun z => by have := h.2.2.1 j hj; rw [← z, h.1] at this; cases this)]; exact h.1, h.2.1, fun i hi => ?_, fun i hi => ?_⟩
  · by_cases hij : i = j
    · subst hij; rw [ms_II]; exact hu_s
    · rw [ms_In hij, hu_n (fun z => hij (h.2.1 i j (by omega) (by omega) z))]; exact h.2.2.1 i hi
  · rw [hu_n (fun z => by have := h.2.1 (23 + i) j (by omega) (by omega) z; omega)]; exact h.2.2.2 i hi
theorem md_setL {k : Nat → Nat} {V : HV} {mo : Nat} {ad : Nat → Nat} {ρ : MS} (h : mdOk k V mo ad ρ) (j : Nat) (hj : j < 3) (f : Nat → Int64) : mdOk k (hu V (ad (23 + j)) (eL k 96 f)) mo ad (ρ.wL j f) := by
  refine ⟨by rw [hu_n (fun z => by have := h.2.2.2 j hj; rw [← z, h.1] at this; cases this)]; exact h.1, h.2.1, fun i hi => ?_, fun i hi => ?_⟩
  · rw [hu_n (fun z => by have := h.2.1 i (23 + j) (by omega) (by omega) z; omega)]; exact h.2.2.1 i hi
  · by_cases hij : i = j
    · subst hij; rw [ms_LL]; exact hu_s
    · rw [ms_Ln hij, hu_n (fun z => by have := h.2.1 (23 + i) (23 + j) (by omega) (by omega) z; omega)]; exact h.2.2.2 i hi
theorem mdOk.a0 {k : Nat → Nat} {V : HV} {mo : Nat} {ad : Nat → Nat} {ρ : MS} (h : mdOk k V mo ad ρ) : V (ad 0) = some (eI k 8 (ρ.I 0)) := h.2.2.1 0 (by omega)
theorem mdOk.a1 {k : Nat → Nat} {V : HV} {mo : Nat} {ad : Nat → Nat} {ρ : MS} (h : mdOk k V mo ad ρ) : V (ad 1) = some (eZ k 150 (ρ.I 1)) := h.2.2.1 1 (by omega)
theorem mdOk.a2 {k : Nat → Nat} {V : HV} {mo : Nat} {ad : Nat → Nat} {ρ : MS} (h : mdOk k V mo ad ρ) : V (ad 2) = some (eI k 150 (ρ.I 2)) := h.2.2.1 2 (by omega)
theorem mdOk.a3 {k : Nat → Nat} {V : HV} {mo : Nat} {ad : Nat → Nat} {ρ : MS} (h : mdOk k V mo ad ρ) : V (ad 3) = some (eI k 150 (ρ.I 3)) := h.2.2.1 3 (by omega)
theorem mdOk.a4 {k : Nat → Nat} {V : HV} {mo : Nat} {ad : Nat → Nat} {ρ : MS} (h : mdOk k V mo ad ρ) : V (ad 4) = some (eI k 150 (ρ.I 4)) := h.2.2.1 4 (by omega)
theorem mdOk.a5 {k : Nat → Nat} {V : HV} {mo : Nat} {ad : Nat → Nat} {ρ : MS} (h : mdOk k V mo ad ρ) : V (ad 5) = some (eI k 150 (ρ.I 5)) := h.2.2.1 5 (by omega)
theorem mdOk.a6 {k : Nat → Nat} {V : HV} {mo : Nat} {ad : Nat → Nat} {ρ : MS} (h : mdOk k V mo ad ρ) : V (ad 6) = some (eI k 150 (ρ.I 6)) := h.2.2.1 6 (by omega)
theorem mdOk.a7 {k : Nat → Nat} {V : HV} {mo : Nat} {ad : Nat → Nat} {ρ : MS} (h : mdOk k V mo ad ρ) : V (ad 7) = some (eI k 150 (ρ.I 7)) := h.2.2.1 7 (by omega)
theorem mdOk.a8 {k : Nat → Nat} {V : HV} {mo : Nat} {ad : Nat → Nat} {ρ : MS} (h : mdOk k V mo ad ρ) : V (ad 8) = some (eI k 150 (ρ.I 8)) := h.2.2.1 8 (by omega)
theorem mdOk.a9 {k : Nat → Nat} {V : HV} {mo : Nat} {ad : Nat → Nat} {ρ : MS} (h : mdOk k V mo ad ρ) : V (ad 9) = some (eZ k 10 (ρ.I 9)) := h.2.2.1 9 (by omega)
theorem mdOk.a10 {k : Nat → Nat} {V : HV} {mo : Nat} {ad : Nat → Nat} {ρ : MS} (h : mdOk k V mo ad ρ) : V (ad 10) = some (eI k 10 (ρ.I 10)) := h.2.2.1 10 (by omega)
theorem mdOk.a11 {k : Nat → Nat} {V : HV} {mo : Nat} {ad : Nat → Nat} {ρ : MS} (h : mdOk k V mo ad ρ) : V (ad 11) = some (eI k 10 (ρ.I 11)) := h.2.2.1 11 (by omega)
theorem mdOk.a12 {k : Nat → Nat} {V : HV} {mo : Nat} {ad : Nat → Nat} {ρ : MS} (h : mdOk k V mo ad ρ) : V (ad 12) = some (eI k 10 (ρ.I 12)) := h.2.2.1 12 (by omega)
theorem mdOk.a13 {k : Nat → Nat} {V : HV} {mo : Nat} {ad : Nat → Nat} {ρ : MS} (h : mdOk k V mo ad ρ) : V (ad 13) = some (eI k 10 (ρ.I 13)) := h.2.2.1 13 (by omega)
theorem mdOk.a14 {k : Nat → Nat} {V : HV} {mo : Nat} {ad : Nat → Nat} {ρ : MS} (h : mdOk k V mo ad ρ) : V (ad 14) = some (eI k 10 (ρ.I 14)) := h.2.2.1 14 (by omega)
theorem mdOk.a15 {k : Nat → Nat} {V : HV} {mo : Nat} {ad : Nat → Nat} {ρ : MS} (h : mdOk k V mo ad ρ) : V (ad 15) = some (eZ k 1500 (ρ.I 15)) := h.2.2.1 15 (by omega)
theorem mdOk.a16 {k : Nat → Nat} {V : HV} {mo : Nat} {ad : Nat → Nat} {ρ : MS} (h : mdOk k V mo ad ρ) : V (ad 16) = some (eZ k 1500 (ρ.I 16)) := h.2.2.1 16 (by omega)
theorem mdOk.a17 {k : Nat → Nat} {V : HV} {mo : Nat} {ad : Nat → Nat} {ρ : MS} (h : mdOk k V mo ad ρ) : V (ad 17) = some (eI k 1500 (ρ.I 17)) := h.2.2.1 17 (by omega)
theorem mdOk.a18 {k : Nat → Nat} {V : HV} {mo : Nat} {ad : Nat → Nat} {ρ : MS} (h : mdOk k V mo ad ρ) : V (ad 18) = some (eI k 1500 (ρ.I 18)) := h.2.2.1 18 (by omega)
theorem mdOk.a19 {k : Nat → Nat} {V : HV} {mo : Nat} {ad : Nat → Nat} {ρ : MS} (h : mdOk k V mo ad ρ) : V (ad 19) = some (eI k 64 (ρ.I 19)) := h.2.2.1 19 (by omega)
theorem mdOk.a20 {k : Nat → Nat} {V : HV} {mo : Nat} {ad : Nat → Nat} {ρ : MS} (h : mdOk k V mo ad ρ) : V (ad 20) = some (eZ k 1200 (ρ.I 20)) := h.2.2.1 20 (by omega)
theorem mdOk.a21 {k : Nat → Nat} {V : HV} {mo : Nat} {ad : Nat → Nat} {ρ : MS} (h : mdOk k V mo ad ρ) : V (ad 21) = some (eI k 1200 (ρ.I 21)) := h.2.2.1 21 (by omega)
theorem mdOk.a22 {k : Nat → Nat} {V : HV} {mo : Nat} {ad : Nat → Nat} {ρ : MS} (h : mdOk k V mo ad ρ) : V (ad 22) = some (eI k 1200 (ρ.I 22)) := h.2.2.1 22 (by omega)
theorem mdOk.a23 {k : Nat → Nat} {V : HV} {mo : Nat} {ad : Nat → Nat} {ρ : MS} (h : mdOk k V mo ad ρ) : V (ad 23) = some (eL k 96 (ρ.L 0)) := h.2.2.2 0 (by omega)
theorem mdOk.a24 {k : Nat → Nat} {V : HV} {mo : Nat} {ad : Nat → Nat} {ρ : MS} (h : mdOk k V mo ad ρ) : V (ad 24) = some (eL k 96 (ρ.L 1)) := h.2.2.2 1 (by omega)
theorem mdOk.a25 {k : Nat → Nat} {V : HV} {mo : Nat} {ad : Nat → Nat} {ρ : MS} (h : mdOk k V mo ad ρ) : V (ad 25) = some (eL k 96 (ρ.L 2)) := h.2.2.2 2 (by omega)
theorem bI_nar (b : Bool) : narrow .boolean (.int (bI b)) = .int (bI b) := by cases b <;> rfl
theorem i8 {x : Int32} : 8 ≤ x ↔ ¬ x ≤ 7 := by
  rw [Int32.le_iff_toInt_le, Int32.le_iff_toInt_le, show (8 : Int32).toInt = 8 from rfl, show (7 : Int32).toInt = 7 from rfl]; omega
def moLim (x : Int32) : Int32 := if x = 1 then 20 else if x = 2 then 20 else if x = 3 then 60 else if x = 4 then 60 else if x = 7 then 8 else 10
def moBase (x : Int32) : Int32 := if x = 2 then 0 else if x = 3 then 20 else if x = 4 then 80 else 140
def moKind (x : Int32) : Int32 := if 20 ≤ x then (if 80 ≤ x then (if 140 ≤ x then 5 else 4) else 3) else 2
def moHan (x : Int32) : Int32 := 1000 * moKind x + x - moBase (moKind x)
def moFault (G : Nat → Int32) (h kd : Int32) : Int32 := if gvOk G h then (if h / 1000 = kd then 0 else 2) else 1
def moIdx (h : Int32) : Int32 := moBase (h / 1000) + (h - h / 1000 * 1000)
def moWorst (x y : Int32) : Int32 := if x = 1 then 1 else if y = 1 then 1 else if x ≤ y then y else x
def moLay (n x : Int32) : Bool := decide (0 ≤ x) && !decide (n ≤ x)
def moCell (x y : Int32) : Bool := decide (0 ≤ x) && !decide (32 ≤ x) && decide (0 ≤ y) && !decide (24 ≤ y)
def moBox (x y w h : Int32) : Bool := moCell x y && decide (x + w ≤ 32) && decide (y + h ≤ 24)
def moMeet (I : Nat → Nat → Int32) (j : Nat) (x y w h : Int32) : Bool := decide (x ≤ I 12 j) && decide (I 10 j ≤ x + w - 1) && decide (y ≤ I 13 j) && decide (I 11 j ≤ y + h - 1)
def moBrP (ρ : MS) (x y w h : Int32) : Nat → Bool := fun j => !decide (ρ.I 9 j = 0) && !decide (nI j = ρ.s 4) && moMeet ρ.I j x y w h
def moIn (I : Nat → Nat → Int32) (j : Nat) (x y w h : Int32) : Bool := decide (I 10 j ≤ x) && decide (I 11 j ≤ y) && decide (x + w - 1 ≤ I 12 j) && decide (y + h - 1 ≤ I 13 j)
def moBarr (ρ : MS) (n : Nat) (x y w h : Int32) : Bool := anyF (moBrP ρ x y w h) 0 n || (!decide (ρ.s 4 = -1) && !moIn ρ.I (ρ.s 4).toNatClampNeg x y w h)
def moApart (x n y q : Int32) : Int32 := if x + n ≤ y then y - x - n + 1 else if y + q ≤ x then x - y - q + 1 else 0
def moCop (I : Nat → Nat → Int32) (t : Nat) : Bool := !decide (I 1 t = 0) && (decide (moKind (nI t) = 3) || decide (moKind (nI t) = 4))
def moShare (I : Nat → Nat → Int32) (t u : Nat) : Bool := decide (moKind (nI t) = 3) || decide (moKind (nI u) = 3) || decide (I 6 t = I 6 u)
def moClash (ρ : MS) (t : Nat) (dx dy : Int32) (u : Nat) : Bool := !decide (ρ.I 7 t = ρ.I 7 u) && moShare ρ.I t u && decide (moApart (ρ.I 2 t + dx) (ρ.I 4 t) (ρ.I 2 u) (ρ.I 4 u) ≤ ρ.s 2) && decide (moApart (ρ.I 3 t + dy) (ρ.I 5 t) (ρ.I 3 u) (ρ.I 5 u) ≤ ρ.s 2)
/-- the act that works is none, or one of ten -/
def moWo (ρ : MS) : Prop := ρ.s 4 = -1 ∨ ∃ j, j < 10 ∧ ρ.s 4 = nI j
set_option maxHeartbeats 4000000 in
set_option maxRecDepth 100000 in
/-- limitOf -/
theorem c_Mo_limitOf (l : Launch) (D : va_G) (N0 : Nat) (k : Nat → Nat) (V : HV) (x : Int32) : Met l y_Mo_limitOf (.code y_Mo_limitOf b_Mo_limitOf 1 (some .int) :: WS) ({ frames := 0, cells := 0, slots := 0, locals := 0 }) (mP D N0 k [.int x] V) (va_Qi (fun r V' => r = moLim x ∧ V' = V) (mB D N0) (hA N0)) 0 0 (hA N0) := by
  refine Met.ofW (cc := b_Mo_limitOf) (maxL := 1) (ret := (some .int)) (by decide) rfl ?_
  intro p e s m args below meth c s₁ B hml hv0
  obtain ⟨rfl, hG, hV⟩ := hv0
  have hx := B.exec
  have hb := B.bytes
  have hr := B.returns
  have hts := atoms_spec (ws := .code y_Mo_limitOf b_Mo_limitOf 1 (some .int) :: WS) B.pre
  have hW : ∀ w ∈ WS, w.before _ s = true := fun w h => hts w (List.mem_cons_of_mem _ h)
  have hown : s.vm.findClass "BoardHouseModel" = some m.cls := findClass_of_methodNamed B.named
  have hlocks := B.notSynchronized
  have hS : va_S (hA N0) s.heap s.heap [] := va_S.rf
  have hl := lv_entry ([.int x]) (n := 1) (Nat.le_of_ble_eq_true rfl)
  rw [lg_entry_eq]
  generalize (lg_sl ([.int x]) ++ List.replicate (1 - (lg_sl ([.int x])).length) Slot.unset).toArray = ls at hl ⊢
  have hl : lv_has ls 1 [(0, .int x)] := hl
  refine lv_iload_n hx hb d_Mo_limitOf_0 rfl (lv_at hl 0 rfl) ?_
  by_cases k_1 : x = (1 : Int32)
  · refine lv_tableIn (x := x) (off := 43) (tgt := 44) hx hb d_Mo_limitOf_1 (by rw [k_1]; decide +kernel) (by rw [k_1]; decide +kernel) (by rw [k_1]; decide +kernel) (by decide) ?_
    refine lv_bipush (v := 20) hx hb d_Mo_limitOf_44 (by decide) ?_
    try simp only [bI_ne0, bI_eq0] at k_1
    exact W.iret (v := 20) hx hb hr (fun t9 ht hW => ⟨⟨20, V, rfl, ⟨by first | (simp [bI, moLim, k_1]; done) | (simp_all [bI, moLim]; done), rfl⟩, mB_of ht hV⟩, hS.F ht⟩) hS.2.2 d_Mo_limitOf_46
  by_cases k_2 : x = (2 : Int32)
  · refine lv_tableIn (x := x) (off := 43) (tgt := 44) hx hb d_Mo_limitOf_1 (by rw [k_2]; decide +kernel) (by rw [k_2]; decide +kernel) (by rw [k_2]; decide +kernel) (by decide) ?_
    refine lv_bipush (v := 20) hx hb d_Mo_limitOf_44 (by decide) ?_
    try simp only [bI_ne0, bI_eq0] at k_1
    try simp only [bI_ne0, bI_eq0] at k_2
    exact W.iret (v := 20) hx hb hr (fun t9 ht hW => ⟨⟨20, V, rfl, ⟨by first | (simp [bI, moLim, k_1, k_2]; done) | (simp_all [bI, moLim]; done), rfl⟩, mB_of ht hV⟩, hS.F ht⟩) hS.2.2 d_Mo_limitOf_46
  by_cases k_3 : x = (3 : Int32)
  · refine lv_tableIn (x := x) (off := 46) (tgt := 47) hx hb d_Mo_limitOf_1 (by rw [k_3]; decide +kernel) (by rw [k_3]; decide +kernel) (by rw [k_3]; decide +kernel) (by decide) ?_
    refine lv_bipush (v := 60) hx hb d_Mo_limitOf_47 (by decide) ?_
    try simp only [bI_ne0, bI_eq0] at k_1
    try simp only [bI_ne0, bI_eq0] at k_2
    try simp only [bI_ne0, bI_eq0] at k_3
    exact W.iret (v := 60) hx hb hr (fun t9 ht hW => ⟨⟨60, V, rfl, ⟨by first | (simp [bI, moLim, k_1, k_2, k_3]; done) | (simp_all [bI, moLim]; done), rfl⟩, mB_of ht hV⟩, hS.F ht⟩) hS.2.2 d_Mo_limitOf_49
  by_cases k_4 : x = (4 : Int32)
  · refine lv_tableIn (x := x) (off := 46) (tgt := 47) hx hb d_Mo_limitOf_1 (by rw [k_4]; decide +kernel) (by rw [k_4]; decide +kernel) (by rw [k_4]; decide +kernel) (by decide) ?_
    refine lv_bipush (v := 60) hx hb d_Mo_limitOf_47 (by decide) ?_
    try simp only [bI_ne0, bI_eq0] at k_1
    try simp only [bI_ne0, bI_eq0] at k_2
    try simp only [bI_ne0, bI_eq0] at k_3
    try simp only [bI_ne0, bI_eq0] at k_4
    exact W.iret (v := 60) hx hb hr (fun t9 ht hW => ⟨⟨60, V, rfl, ⟨by first | (simp [bI, moLim, k_1, k_2, k_3, k_4]; done) | (simp_all [bI, moLim]; done), rfl⟩, mB_of ht hV⟩, hS.F ht⟩) hS.2.2 d_Mo_limitOf_49
  by_cases k_5 : x = (5 : Int32)
  · refine lv_tableIn (x := x) (off := 52) (tgt := 53) hx hb d_Mo_limitOf_1 (by rw [k_5]; decide +kernel) (by rw [k_5]; decide +kernel) (by rw [k_5]; decide +kernel) (by decide) ?_
    refine lv_bipush (v := 10) hx hb d_Mo_limitOf_53 (by decide) ?_
    try simp only [bI_ne0, bI_eq0] at k_1
    try simp only [bI_ne0, bI_eq0] at k_2
    try simp only [bI_ne0, bI_eq0] at k_3
    try simp only [bI_ne0, bI_eq0] at k_4
    try simp only [bI_ne0, bI_eq0] at k_5
    exact W.iret (v := 10) hx hb hr (fun t9 ht hW => ⟨⟨10, V, rfl, ⟨by first | (simp [bI, moLim, k_1, k_2, k_3, k_4, k_5]; done) | (simp_all [bI, moLim]; done), rfl⟩, mB_of ht hV⟩, hS.F ht⟩) hS.2.2 d_Mo_limitOf_55
  by_cases k_6 : x = (6 : Int32)
  · refine lv_tableIn (x := x) (off := 52) (tgt := 53) hx hb d_Mo_limitOf_1 (by rw [k_6]; decide +kernel) (by rw [k_6]; decide +kernel) (by rw [k_6]; decide +kernel) (by decide) ?_
    refine lv_bipush (v := 10) hx hb d_Mo_limitOf_53 (by decide) ?_
    try simp only [bI_ne0, bI_eq0] at k_1
    try simp only [bI_ne0, bI_eq0] at k_2
    try simp only [bI_ne0, bI_eq0] at k_3
    try simp only [bI_ne0, bI_eq0] at k_4
    try simp only [bI_ne0, bI_eq0] at k_5
    try simp only [bI_ne0, bI_eq0] at k_6
    exact W.iret (v := 10) hx hb hr (fun t9 ht hW => ⟨⟨10, V, rfl, ⟨by first | (simp [bI, moLim, k_1, k_2, k_3, k_4, k_5, k_6]; done) | (simp_all [bI, moLim]; done), rfl⟩, mB_of ht hV⟩, hS.F ht⟩) hS.2.2 d_Mo_limitOf_55
  by_cases k_7 : x = (7 : Int32)
  · refine lv_tableIn (x := x) (off := 49) (tgt := 50) hx hb d_Mo_limitOf_1 (by rw [k_7]; decide +kernel) (by rw [k_7]; decide +kernel) (by rw [k_7]; decide +kernel) (by decide) ?_
    refine lv_bipush (v := 8) hx hb d_Mo_limitOf_50 (by decide) ?_
    try simp only [bI_ne0, bI_eq0] at k_1
    try simp only [bI_ne0, bI_eq0] at k_2
    try simp only [bI_ne0, bI_eq0] at k_3
    try simp only [bI_ne0, bI_eq0] at k_4
    try simp only [bI_ne0, bI_eq0] at k_5
    try simp only [bI_ne0, bI_eq0] at k_6
    try simp only [bI_ne0, bI_eq0] at k_7
    exact W.iret (v := 8) hx hb hr (fun t9 ht hW => ⟨⟨8, V, rfl, ⟨by first | (simp [bI, moLim, k_1, k_2, k_3, k_4, k_5, k_6, k_7]; done) | (simp_all [bI, moLim]; done), rfl⟩, mB_of ht hV⟩, hS.F ht⟩) hS.2.2 d_Mo_limitOf_52
  refine lv_tableOut (x := x) (tgt := 53) hx hb d_Mo_limitOf_1 (by have qk_1 := lv_neT (a := 1) k_1 (by decide); have qk_2 := lv_neT (a := 2) k_2 (by decide); have qk_3 := lv_neT (a := 3) k_3 (by decide); have qk_4 := lv_neT (a := 4) k_4 (by decide); have qk_5 := lv_neT (a := 5) k_5 (by decide); have qk_6 := lv_neT (a := 6) k_6 (by decide); have qk_7 := lv_neT (a := 7) k_7 (by decide); omega) (by decide) ?_
  refine lv_bipush (v := 10) hx hb d_Mo_limitOf_53 (by decide) ?_
  try simp only [bI_ne0, bI_eq0] at k_1
  try simp only [bI_ne0, bI_eq0] at k_2
  try simp only [bI_ne0, bI_eq0] at k_3
  try simp only [bI_ne0, bI_eq0] at k_4
  try simp only [bI_ne0, bI_eq0] at k_5
  try simp only [bI_ne0, bI_eq0] at k_6
  try simp only [bI_ne0, bI_eq0] at k_7
  exact W.iret (v := 10) hx hb hr (fun t9 ht hW => ⟨⟨10, V, rfl, ⟨by first | (simp [bI, moLim, k_1, k_2, k_3, k_4, k_5, k_6, k_7]; done) | (simp_all [bI, moLim]; done), rfl⟩, mB_of ht hV⟩, hS.F ht⟩) hS.2.2 d_Mo_limitOf_55
set_option maxHeartbeats 4000000 in
set_option maxRecDepth 100000 in
/-- baseOf -/
theorem c_Mo_baseOf (l : Launch) (D : va_G) (N0 : Nat) (k : Nat → Nat) (V : HV) (x : Int32) : Met l y_Mo_baseOf (.code y_Mo_baseOf b_Mo_baseOf 1 (some .int) :: WS) ({ frames := 0, cells := 0, slots := 0, locals := 0 }) (mP D N0 k [.int x] V) (va_Qi (fun r V' => r = moBase x ∧ V' = V) (mB D N0) (hA N0)) 0 0 (hA N0) := by
  refine Met.ofW (cc := b_Mo_baseOf) (maxL := 1) (ret := (some .int)) (by decide) rfl ?_
  intro p e s m args below meth c s₁ B hml hv0
  obtain ⟨rfl, hG, hV⟩ := hv0
  have hx := B.exec
  have hb := B.bytes
  have hr := B.returns
  have hts := atoms_spec (ws := .code y_Mo_baseOf b_Mo_baseOf 1 (some .int) :: WS) B.pre
  have hW : ∀ w ∈ WS, w.before _ s = true := fun w h => hts w (List.mem_cons_of_mem _ h)
  have hown : s.vm.findClass "BoardHouseModel" = some m.cls := findClass_of_methodNamed B.named
  have hlocks := B.notSynchronized
  have hS : va_S (hA N0) s.heap s.heap [] := va_S.rf
  have hl := lv_entry ([.int x]) (n := 1) (Nat.le_of_ble_eq_true rfl)
  rw [lg_entry_eq]
  generalize (lg_sl ([.int x]) ++ List.replicate (1 - (lg_sl ([.int x])).length) Slot.unset).toArray = ls at hl ⊢
  have hl : lv_has ls 1 [(0, .int x)] := hl
  refine lv_iload_n hx hb d_Mo_baseOf_0 rfl (lv_at hl 0 rfl) ?_
  refine lv_iconst (v := 2) hx hb d_Mo_baseOf_1 (by decide) ?_
  refine lv_icmp_ne (tgt := 9) hx hb d_Mo_baseOf_2 (by decide) (fun c_1 => ?_) (fun c_1 => ?_)
  · refine lv_iload_n hx hb d_Mo_baseOf_9 rfl (lv_at hl 0 rfl) ?_
    refine lv_iconst (v := 3) hx hb d_Mo_baseOf_10 (by decide) ?_
    refine lv_icmp_ne (tgt := 19) hx hb d_Mo_baseOf_11 (by decide) (fun c_2 => ?_) (fun c_2 => ?_)
    · refine lv_iload_n hx hb d_Mo_baseOf_19 rfl (lv_at hl 0 rfl) ?_
      refine lv_iconst (v := 4) hx hb d_Mo_baseOf_20 (by decide) ?_
      refine lv_icmp_ne (tgt := 29) hx hb d_Mo_baseOf_21 (by decide) (fun c_3 => ?_) (fun c_3 => ?_)
      · refine lv_sipush (v := 140) hx hb d_Mo_baseOf_29 (by decide) ?_
        try simp only [bI_ne0, bI_eq0] at c_1
        try simp only [bI_ne0, bI_eq0] at c_2
        try simp only [bI_ne0, bI_eq0] at c_3
        exact W.iret (v := 140) hx hb hr (fun t9 ht hW => ⟨⟨140, V, rfl, ⟨by first | (simp [bI, moBase, c_1, c_2, c_3]; done) | (simp_all [bI, moBase]; done), rfl⟩, mB_of ht hV⟩, hS.F ht⟩) hS.2.2 d_Mo_baseOf_32
      · refine lv_bipush (v := 80) hx hb d_Mo_baseOf_24 (by decide) ?_
        refine lv_goto (tgt := 32) hx hb d_Mo_baseOf_26 (by decide) ?_
        try simp only [bI_ne0, bI_eq0] at c_1
        try simp only [bI_ne0, bI_eq0] at c_2
        try simp only [bI_ne0, bI_eq0] at c_3
        exact W.iret (v := 80) hx hb hr (fun t9 ht hW => ⟨⟨80, V, rfl, ⟨by first | (simp [bI, moBase, c_1, c_2, c_3]; done) | (simp_all [bI, moBase]; done), rfl⟩, mB_of ht hV⟩, hS.F ht⟩) hS.2.2 d_Mo_baseOf_32
    · refine lv_bipush (v := 20) hx hb d_Mo_baseOf_14 (by decide) ?_
      refine lv_goto (tgt := 32) hx hb d_Mo_baseOf_16 (by decide) ?_
      try simp only [bI_ne0, bI_eq0] at c_1
      try simp only [bI_ne0, bI_eq0] at c_2
      exact W.iret (v := 20) hx hb hr (fun t9 ht hW => ⟨⟨20, V, rfl, ⟨by first | (simp [bI, moBase, c_1, c_2]; done) | (simp_all [bI, moBase]; done), rfl⟩, mB_of ht hV⟩, hS.F ht⟩) hS.2.2 d_Mo_baseOf_32
  · refine lv_iconst (v := 0) hx hb d_Mo_baseOf_5 (by decide) ?_
    refine lv_goto (tgt := 32) hx hb d_Mo_baseOf_6 (by decide) ?_
    try simp only [bI_ne0, bI_eq0] at c_1
    exact W.iret (v := 0) hx hb hr (fun t9 ht hW => ⟨⟨0, V, rfl, ⟨by first | (simp [bI, moBase, c_1]; done) | (simp_all [bI, moBase]; done), rfl⟩, mB_of ht hV⟩, hS.F ht⟩) hS.2.2 d_Mo_baseOf_32
set_option maxHeartbeats 4000000 in
set_option maxRecDepth 100000 in
/-- kindOf -/
theorem c_Mo_kindOf (l : Launch) (D : va_G) (N0 : Nat) (k : Nat → Nat) (V : HV) (x : Int32) : Met l y_Mo_kindOf (.code y_Mo_kindOf b_Mo_kindOf 1 (some .int) :: WS) ({ frames := 0, cells := 0, slots := 0, locals := 0 }) (mP D N0 k [.int x] V) (va_Qi (fun r V' => r = moKind x ∧ V' = V) (mB D N0) (hA N0)) 0 0 (hA N0) := by
  refine Met.ofW (cc := b_Mo_kindOf) (maxL := 1) (ret := (some .int)) (by decide) rfl ?_
  intro p e s m args below meth c s₁ B hml hv0
  obtain ⟨rfl, hG, hV⟩ := hv0
  have hx := B.exec
  have hb := B.bytes
  have hr := B.returns
  have hts := atoms_spec (ws := .code y_Mo_kindOf b_Mo_kindOf 1 (some .int) :: WS) B.pre
  have hW : ∀ w ∈ WS, w.before _ s = true := fun w h => hts w (List.mem_cons_of_mem _ h)
  have hown : s.vm.findClass "BoardHouseModel" = some m.cls := findClass_of_methodNamed B.named
  have hlocks := B.notSynchronized
  have hS : va_S (hA N0) s.heap s.heap [] := va_S.rf
  have hl := lv_entry ([.int x]) (n := 1) (Nat.le_of_ble_eq_true rfl)
  rw [lg_entry_eq]
  generalize (lg_sl ([.int x]) ++ List.replicate (1 - (lg_sl ([.int x])).length) Slot.unset).toArray = ls at hl ⊢
  have hl : lv_has ls 1 [(0, .int x)] := hl
  refine lv_iload_n hx hb d_Mo_kindOf_0 rfl (lv_at hl 0 rfl) ?_
  refine lv_bipush (v := 20) hx hb d_Mo_kindOf_1 (by decide) ?_
  refine lv_icmp_ge (tgt := 10) hx hb d_Mo_kindOf_3 (by decide) (fun c_1 => ?_) (fun c_1 => ?_)
  · refine lv_iload_n hx hb d_Mo_kindOf_10 rfl (lv_at hl 0 rfl) ?_
    refine lv_bipush (v := 80) hx hb d_Mo_kindOf_11 (by decide) ?_
    refine lv_icmp_ge (tgt := 20) hx hb d_Mo_kindOf_13 (by decide) (fun c_2 => ?_) (fun c_2 => ?_)
    · refine lv_iload_n hx hb d_Mo_kindOf_20 rfl (lv_at hl 0 rfl) ?_
      refine lv_sipush (v := 140) hx hb d_Mo_kindOf_21 (by decide) ?_
      refine lv_icmp_ge (tgt := 31) hx hb d_Mo_kindOf_24 (by decide) (fun c_3 => ?_) (fun c_3 => ?_)
      · refine lv_iconst (v := 5) hx hb d_Mo_kindOf_31 (by decide) ?_
        try simp only [bI_ne0, bI_eq0] at c_1
        try simp only [bI_ne0, bI_eq0] at c_2
        try simp only [bI_ne0, bI_eq0] at c_3
        exact W.iret (v := 5) hx hb hr (fun t9 ht hW => ⟨⟨5, V, rfl, ⟨by first | (simp [bI, moKind, c_1, c_2, c_3]; done) | (simp_all [bI, moKind]; done), rfl⟩, mB_of ht hV⟩, hS.F ht⟩) hS.2.2 d_Mo_kindOf_32
      · refine lv_iconst (v := 4) hx hb d_Mo_kindOf_27 (by decide) ?_
        refine lv_goto (tgt := 32) hx hb d_Mo_kindOf_28 (by decide) ?_
        try simp only [bI_ne0, bI_eq0] at c_1
        try simp only [bI_ne0, bI_eq0] at c_2
        try simp only [bI_ne0, bI_eq0] at c_3
        exact W.iret (v := 4) hx hb hr (fun t9 ht hW => ⟨⟨4, V, rfl, ⟨by first | (simp [bI, moKind, c_1, c_2, c_3]; done) | (simp_all [bI, moKind]; done), rfl⟩, mB_of ht hV⟩, hS.F ht⟩) hS.2.2 d_Mo_kindOf_32
    · refine lv_iconst (v := 3) hx hb d_Mo_kindOf_16 (by decide) ?_
      refine lv_goto (tgt := 32) hx hb d_Mo_kindOf_17 (by decide) ?_
      try simp only [bI_ne0, bI_eq0] at c_1
      try simp only [bI_ne0, bI_eq0] at c_2
      exact W.iret (v := 3) hx hb hr (fun t9 ht hW => ⟨⟨3, V, rfl, ⟨by first | (simp [bI, moKind, c_1, c_2]; done) | (simp_all [bI, moKind]; done), rfl⟩, mB_of ht hV⟩, hS.F ht⟩) hS.2.2 d_Mo_kindOf_32
  · refine lv_iconst (v := 2) hx hb d_Mo_kindOf_6 (by decide) ?_
    refine lv_goto (tgt := 32) hx hb d_Mo_kindOf_7 (by decide) ?_
    try simp only [bI_ne0, bI_eq0] at c_1
    exact W.iret (v := 2) hx hb hr (fun t9 ht hW => ⟨⟨2, V, rfl, ⟨by first | (simp [bI, moKind, c_1]; done) | (simp_all [bI, moKind]; done), rfl⟩, mB_of ht hV⟩, hS.F ht⟩) hS.2.2 d_Mo_kindOf_32
set_option maxHeartbeats 4000000 in
set_option maxRecDepth 100000 in
/-- handleOf -/
theorem c_Mo_handleOf (l : Launch) (D : va_G) (N0 : Nat) (k : Nat → Nat) (V : HV) (x : Int32) : Met l y_Mo_handleOf (.code y_Mo_handleOf b_Mo_handleOf 1 (some .int) :: WS) ({ frames := 1, cells := 0, slots := 0, locals := 20 }) (mP D N0 k [.int x] V) (va_Qi (fun r V' => r = moHan x ∧ V' = V) (mB D N0) (hA N0)) 0 0 (hA N0) := by
  refine Met.ofW (cc := b_Mo_handleOf) (maxL := 1) (ret := (some .int)) (by decide) rfl ?_
  intro p e s m args below meth c s₁ B hml hv0
  obtain ⟨rfl, hG, hV⟩ := hv0
  have hx := B.exec
  have hb := B.bytes
  have hr := B.returns
  have hts := atoms_spec (ws := .code y_Mo_handleOf b_Mo_handleOf 1 (some .int) :: WS) B.pre
  have hW : ∀ w ∈ WS, w.before _ s = true := fun w h => hts w (List.mem_cons_of_mem _ h)
  have hown : s.vm.findClass "BoardHouseModel" = some m.cls := findClass_of_methodNamed B.named
  have hlocks := B.notSynchronized
  have hS : va_S (hA N0) s.heap s.heap [] := va_S.rf
  have hl := lv_entry ([.int x]) (n := 1) (Nat.le_of_ble_eq_true rfl)
  rw [lg_entry_eq]
  generalize (lg_sl ([.int x]) ++ List.replicate (1 - (lg_sl ([.int x])).length) Slot.unset).toArray = ls at hl ⊢
  have hl : lv_has ls 1 [(0, .int x)] := hl
  refine lv_sipush (v := 1000) hx hb d_Mo_handleOf_0 (by decide) ?_
  refine lv_iload_n hx hb d_Mo_handleOf_3 rfl (lv_at hl 0 rfl) ?_
  refine rc_i (va_runS (As := [.int x]) (rest := [.int 1000]) ⟨hx, hb, hml, hown, hts⟩ (c_Mo_kindOf l D N0 k V x) (va_cwS 1 hts (gi_S wm_Mo_103 wt_Mo_kindOf wi_Mo wc_Mo_kindOf) rfl rfl rfl (by decide +kernel) ⟨Nat.le_of_ble_eq_true rfl, Nat.le_of_ble_eq_true rfl⟩) (mP.preS hG hS hV) rfl rfl hl.1 rfl (lv_room (Nat.le_of_ble_eq_true rfl)) d_Mo_handleOf_4 ⟨Nat.le_of_ble_eq_true rfl, Nat.le_of_ble_eq_true rfl⟩) hS (fun H locs hV hS => ?_)
  refine lv_imul hx hb d_Mo_handleOf_7 ?_
  refine lv_iload_n hx hb d_Mo_handleOf_8 rfl (lv_at hl 0 rfl) ?_
  refine lv_iadd hx hb d_Mo_handleOf_9 ?_
  refine lv_iload_n hx hb d_Mo_handleOf_10 rfl (lv_at hl 0 rfl) ?_
  refine rc_i (va_runS (As := [.int x]) (rest := [.int ((1000 * (moKind x)) + x)]) ⟨hx, hb, hml, hown, hts⟩ (c_Mo_kindOf l D N0 k V x) (va_cwS 1 hts (gi_S wm_Mo_103 wt_Mo_kindOf wi_Mo wc_Mo_kindOf) rfl rfl rfl (by decide +kernel) ⟨Nat.le_of_ble_eq_true rfl, Nat.le_of_ble_eq_true rfl⟩) (mP.preS hG hS hV) rfl rfl hl.1 rfl (lv_room (Nat.le_of_ble_eq_true rfl)) d_Mo_handleOf_11 ⟨Nat.le_of_ble_eq_true rfl, Nat.le_of_ble_eq_true rfl⟩) hS (fun H locs hV hS => ?_)
  refine rc_i (va_runS (As := [.int (moKind x)]) (rest := [.int ((1000 * (moKind x)) + x)]) ⟨hx, hb, hml, hown, hts⟩ (c_Mo_baseOf l D N0 k V (moKind x)) (va_cwS 1 hts (gi_S wm_Mo_107 wt_Mo_baseOf wi_Mo wc_Mo_baseOf) rfl rfl rfl (by decide +kernel) ⟨Nat.le_of_ble_eq_true rfl, Nat.le_of_ble_eq_true rfl⟩) (mP.preS hG hS hV) rfl rfl hl.1 rfl (lv_room (Nat.le_of_ble_eq_true rfl)) d_Mo_handleOf_14 ⟨Nat.le_of_ble_eq_true rfl, Nat.le_of_ble_eq_true rfl⟩) hS (fun H locs hV hS => ?_)
  refine lv_isub hx hb d_Mo_handleOf_17 ?_
  exact W.iret (v := (((1000 * (moKind x)) + x) - (moBase (moKind x)))) hx hb hr (fun t9 ht hW => ⟨⟨(((1000 * (moKind x)) + x) - (moBase (moKind x))), V, rfl, ⟨rfl, rfl⟩, mB_of ht hV⟩, hS.F ht⟩) hS.2.2 d_Mo_handleOf_18
set_option maxHeartbeats 4000000 in
set_option maxRecDepth 100000 in
/-- worst -/
theorem c_Mo_worst (l : Launch) (D : va_G) (N0 : Nat) (k : Nat → Nat) (V : HV) (x y : Int32) : Met l y_Mo_worst (.code y_Mo_worst b_Mo_worst 2 (some .int) :: WS) ({ frames := 0, cells := 0, slots := 0, locals := 0 }) (mP D N0 k [.int x, .int y] V) (va_Qi (fun r V' => r = moWorst x y ∧ V' = V) (mB D N0) (hA N0)) 0 0 (hA N0) := by
  refine Met.ofW (cc := b_Mo_worst) (maxL := 2) (ret := (some .int)) (by decide) rfl ?_
  intro p e s m args below meth c s₁ B hml hv0
  obtain ⟨rfl, hG, hV⟩ := hv0
  have hx := B.exec
  have hb := B.bytes
  have hr := B.returns
  have hts := atoms_spec (ws := .code y_Mo_worst b_Mo_worst 2 (some .int) :: WS) B.pre
  have hW : ∀ w ∈ WS, w.before _ s = true := fun w h => hts w (List.mem_cons_of_mem _ h)
  have hown : s.vm.findClass "BoardHouseModel" = some m.cls := findClass_of_methodNamed B.named
  have hlocks := B.notSynchronized
  have hS : va_S (hA N0) s.heap s.heap [] := va_S.rf
  have hl := lv_entry ([.int x, .int y]) (n := 2) (Nat.le_of_ble_eq_true rfl)
  rw [lg_entry_eq]
  generalize (lg_sl ([.int x, .int y]) ++ List.replicate (2 - (lg_sl ([.int x, .int y])).length) Slot.unset).toArray = ls at hl ⊢
  have hl : lv_has ls 2 [(0, .int x), (1, .int y)] := hl
  refine lv_iload_n hx hb d_Mo_worst_0 rfl (lv_at hl 0 rfl) ?_
  refine lv_iconst (v := 1) hx hb d_Mo_worst_1 (by decide) ?_
  refine lv_icmp_eq (tgt := 10) hx hb d_Mo_worst_2 (by decide) (fun c_1 => ?_) (fun c_1 => ?_)
  · refine lv_iconst (v := 1) hx hb d_Mo_worst_10 (by decide) ?_
    refine lv_goto (tgt := 24) hx hb d_Mo_worst_11 (by decide) ?_
    try simp only [bI_ne0, bI_eq0] at c_1
    exact W.iret (v := 1) hx hb hr (fun t9 ht hW => ⟨⟨1, V, rfl, ⟨by first | (simp [bI, moWorst, c_1]; done) | (simp_all [bI, moWorst]; done), rfl⟩, mB_of ht hV⟩, hS.F ht⟩) hS.2.2 d_Mo_worst_24
  · refine lv_iload_n hx hb d_Mo_worst_5 rfl (lv_at hl 1 rfl) ?_
    refine lv_iconst (v := 1) hx hb d_Mo_worst_6 (by decide) ?_
    refine lv_icmp_ne (tgt := 14) hx hb d_Mo_worst_7 (by decide) (fun c_2 => ?_) (fun c_2 => ?_)
    · refine lv_iload_n hx hb d_Mo_worst_14 rfl (lv_at hl 0 rfl) ?_
      refine lv_iload_n hx hb d_Mo_worst_15 rfl (lv_at hl 1 rfl) ?_
      refine lv_icmp_le (tgt := 23) hx hb d_Mo_worst_16 (by decide) (fun c_3 => ?_) (fun c_3 => ?_)
      · refine lv_iload_n hx hb d_Mo_worst_23 rfl (lv_at hl 1 rfl) ?_
        try simp only [bI_ne0, bI_eq0] at c_1
        try simp only [bI_ne0, bI_eq0] at c_2
        try simp only [bI_ne0, bI_eq0] at c_3
        exact W.iret (v := y) hx hb hr (fun t9 ht hW => ⟨⟨y, V, rfl, ⟨by first | (simp [bI, moWorst, c_1, c_2, c_3]; done) | (simp_all [bI, moWorst]; done), rfl⟩, mB_of ht hV⟩, hS.F ht⟩) hS.2.2 d_Mo_worst_24
      · refine lv_iload_n hx hb d_Mo_worst_19 rfl (lv_at hl 0 rfl) ?_
        refine lv_goto (tgt := 24) hx hb d_Mo_worst_20 (by decide) ?_
        try simp only [bI_ne0, bI_eq0] at c_1
        try simp only [bI_ne0, bI_eq0] at c_2
        try simp only [bI_ne0, bI_eq0] at c_3
        exact W.iret (v := x) hx hb hr (fun t9 ht hW => ⟨⟨x, V, rfl, ⟨by first | (simp [bI, moWorst, c_1, c_2, c_3]; done) | (simp_all [bI, moWorst]; done), rfl⟩, mB_of ht hV⟩, hS.F ht⟩) hS.2.2 d_Mo_worst_24
    · refine lv_iconst (v := 1) hx hb d_Mo_worst_10 (by decide) ?_
      refine lv_goto (tgt := 24) hx hb d_Mo_worst_11 (by decide) ?_
      try simp only [bI_ne0, bI_eq0] at c_1
      try simp only [bI_ne0, bI_eq0] at c_2
      exact W.iret (v := 1) hx hb hr (fun t9 ht hW => ⟨⟨1, V, rfl, ⟨by first | (simp [bI, moWorst, c_1, c_2]; done) | (simp_all [bI, moWorst]; done), rfl⟩, mB_of ht hV⟩, hS.F ht⟩) hS.2.2 d_Mo_worst_24
set_option maxHeartbeats 4000000 in
set_option maxRecDepth 100000 in
/-- isCell -/
theorem c_Mo_isCell (l : Launch) (D : va_G) (N0 : Nat) (k : Nat → Nat) (V : HV) (x y : Int32) : Met l y_Mo_isCell (.code y_Mo_isCell b_Mo_isCell 2 (some .boolean) :: WS) ({ frames := 0, cells := 0, slots := 0, locals := 0 }) (mP D N0 k [.int x, .int y] V) (va_Qi (fun r V' => r = bI (moCell x y) ∧ V' = V) (mB D N0) (hA N0)) 0 0 (hA N0) := by
  refine Met.ofW (cc := b_Mo_isCell) (maxL := 2) (ret := (some .boolean)) (by decide) rfl ?_
  intro p e s m args below meth c s₁ B hml hv0
  obtain ⟨rfl, hG, hV⟩ := hv0
  have hx := B.exec
  have hb := B.bytes
  have hr := B.returns
  have hts := atoms_spec (ws := .code y_Mo_isCell b_Mo_isCell 2 (some .boolean) :: WS) B.pre
  have hW : ∀ w ∈ WS, w.before _ s = true := fun w h => hts w (List.mem_cons_of_mem _ h)
  have hown : s.vm.findClass "BoardHouseModel" = some m.cls := findClass_of_methodNamed B.named
  have hlocks := B.notSynchronized
  have hS : va_S (hA N0) s.heap s.heap [] := va_S.rf
  have hl := lv_entry ([.int x, .int y]) (n := 2) (Nat.le_of_ble_eq_true rfl)
  rw [lg_entry_eq]
  generalize (lg_sl ([.int x, .int y]) ++ List.replicate (2 - (lg_sl ([.int x, .int y])).length) Slot.unset).toArray = ls at hl ⊢
  have hl : lv_has ls 2 [(0, .int x), (1, .int y)] := hl
  refine lv_iload_n hx hb d_Mo_isCell_0 rfl (lv_at hl 0 rfl) ?_
  refine lv_if_lt (tgt := 24) hx hb d_Mo_isCell_1 (by decide) (fun c_1 => ?_) (fun c_1 => ?_)
  · have c_1 := i_nle c_1
    refine lv_iconst (v := 0) hx hb d_Mo_isCell_24 (by decide) ?_
    try simp only [bI_ne0, bI_eq0] at c_1
    exact W.zret (v := 0) hx hb hr rfl (fun t9 ht hW => ⟨⟨0, V, rfl, ⟨by first | (simp [bI, moCell, c_1]; done) | (simp_all [bI, moCell]; done), rfl⟩, mB_of ht hV⟩, hS.F ht⟩) hS.2.2 d_Mo_isCell_25
  · have c_1 := i_le c_1
    refine lv_iload_n hx hb d_Mo_isCell_4 rfl (lv_at hl 0 rfl) ?_
    refine lv_bipush (v := 32) hx hb d_Mo_isCell_5 (by decide) ?_
    refine lv_icmp_ge (tgt := 24) hx hb d_Mo_isCell_7 (by decide) (fun c_2 => ?_) (fun c_2 => ?_)
    · refine lv_iconst (v := 0) hx hb d_Mo_isCell_24 (by decide) ?_
      try simp only [bI_ne0, bI_eq0] at c_1
      try simp only [bI_ne0, bI_eq0] at c_2
      exact W.zret (v := 0) hx hb hr rfl (fun t9 ht hW => ⟨⟨0, V, rfl, ⟨by first | (simp [bI, moCell, c_1, c_2]; done) | (simp_all [bI, moCell]; done), rfl⟩, mB_of ht hV⟩, hS.F ht⟩) hS.2.2 d_Mo_isCell_25
    · refine lv_iload_n hx hb d_Mo_isCell_10 rfl (lv_at hl 1 rfl) ?_
      refine lv_if_lt (tgt := 24) hx hb d_Mo_isCell_11 (by decide) (fun c_3 => ?_) (fun c_3 => ?_)
      · have c_3 := i_nle c_3
        refine lv_iconst (v := 0) hx hb d_Mo_isCell_24 (by decide) ?_
        try simp only [bI_ne0, bI_eq0] at c_1
        try simp only [bI_ne0, bI_eq0] at c_2
        try simp only [bI_ne0, bI_eq0] at c_3
        exact W.zret (v := 0) hx hb hr rfl (fun t9 ht hW => ⟨⟨0, V, rfl, ⟨by first | (simp [bI, moCell, c_1, c_2, c_3]; done) | (simp_all [bI, moCell]; done), rfl⟩, mB_of ht hV⟩, hS.F ht⟩) hS.2.2 d_Mo_isCell_25
      · have c_3 := i_le c_3
        refine lv_iload_n hx hb d_Mo_isCell_14 rfl (lv_at hl 1 rfl) ?_
        refine lv_bipush (v := 24) hx hb d_Mo_isCell_15 (by decide) ?_
        refine lv_icmp_ge (tgt := 24) hx hb d_Mo_isCell_17 (by decide) (fun c_4 => ?_) (fun c_4 => ?_)
        · refine lv_iconst (v := 0) hx hb d_Mo_isCell_24 (by decide) ?_
          try simp only [bI_ne0, bI_eq0] at c_1
          try simp only [bI_ne0, bI_eq0] at c_2
          try simp only [bI_ne0, bI_eq0] at c_3
          try simp only [bI_ne0, bI_eq0] at c_4
          exact W.zret (v := 0) hx hb hr rfl (fun t9 ht hW => ⟨⟨0, V, rfl, ⟨by first | (simp [bI, moCell, c_1, c_2, c_3, c_4]; done) | (simp_all [bI, moCell]; done), rfl⟩, mB_of ht hV⟩, hS.F ht⟩) hS.2.2 d_Mo_isCell_25
        · refine lv_iconst (v := 1) hx hb d_Mo_isCell_20 (by decide) ?_
          refine lv_goto (tgt := 25) hx hb d_Mo_isCell_21 (by decide) ?_
          try simp only [bI_ne0, bI_eq0] at c_1
          try simp only [bI_ne0, bI_eq0] at c_2
          try simp only [bI_ne0, bI_eq0] at c_3
          try simp only [bI_ne0, bI_eq0] at c_4
          exact W.zret (v := 1) hx hb hr rfl (fun t9 ht hW => ⟨⟨1, V, rfl, ⟨by first | (simp [bI, moCell, c_1, c_2, c_3, c_4]; done) | (simp_all [bI, moCell]; done), rfl⟩, mB_of ht hV⟩, hS.F ht⟩) hS.2.2 d_Mo_isCell_25
set_option maxHeartbeats 4000000 in
set_option maxRecDepth 100000 in
/-- isBox -/
theorem c_Mo_isBox (l : Launch) (D : va_G) (N0 : Nat) (k : Nat → Nat) (V : HV) (x y w0 h0 : Int32) : Met l y_Mo_isBox (.code y_Mo_isBox b_Mo_isBox 4 (some .boolean) :: WS) ({ frames := 1, cells := 0, slots := 0, locals := 21 }) (mP D N0 k [.int x, .int y, .int w0, .int h0] V) (va_Qi (fun r V' => r = bI (moBox x y w0 h0) ∧ V' = V) (mB D N0) (hA N0)) 0 0 (hA N0) := by
  refine Met.ofW (cc := b_Mo_isBox) (maxL := 4) (ret := (some .boolean)) (by decide) rfl ?_
  intro p e s m args below meth c s₁ B hml hv0
  obtain ⟨rfl, hG, hV⟩ := hv0
  have hx := B.exec
  have hb := B.bytes
  have hr := B.returns
  have hts := atoms_spec (ws := .code y_Mo_isBox b_Mo_isBox 4 (some .boolean) :: WS) B.pre
  have hW : ∀ w ∈ WS, w.before _ s = true := fun w h => hts w (List.mem_cons_of_mem _ h)
  have hown : s.vm.findClass "BoardHouseModel" = some m.cls := findClass_of_methodNamed B.named
  have hlocks := B.notSynchronized
  have hS : va_S (hA N0) s.heap s.heap [] := va_S.rf
  have hl := lv_entry ([.int x, .int y, .int w0, .int h0]) (n := 4) (Nat.le_of_ble_eq_true rfl)
  rw [lg_entry_eq]
  generalize (lg_sl ([.int x, .int y, .int w0, .int h0]) ++ List.replicate (4 - (lg_sl ([.int x, .int y, .int w0, .int h0])).length) Slot.unset).toArray = ls at hl ⊢
  have hl : lv_has ls 4 [(0, .int x), (1, .int y), (2, .int w0), (3, .int h0)] := hl
  refine lv_iload_n hx hb d_Mo_isBox_0 rfl (lv_at hl 0 rfl) ?_
  refine lv_iload_n hx hb d_Mo_isBox_1 rfl (lv_at hl 1 rfl) ?_
  refine rc_i (va_runS (As := [.int x, .int y]) (rest := []) ⟨hx, hb, hml, hown, hts⟩ (c_Mo_isCell l D N0 k V x y) (va_cwS 2 hts (gi_S wm_Mo_114 wt_Mo_isCell wi_Mo wc_Mo_isCell) rfl rfl rfl (by decide +kernel) ⟨Nat.le_of_ble_eq_true rfl, Nat.le_of_ble_eq_true rfl⟩) (mP.preS hG hS hV) rfl rfl hl.1 rfl (lv_room (Nat.le_of_ble_eq_true rfl)) d_Mo_isBox_2 ⟨Nat.le_of_ble_eq_true rfl, Nat.le_of_ble_eq_true rfl⟩) hS (fun H locs hV hS => ?_)
  refine lv_if_eq (tgt := 28) hx hb d_Mo_isBox_5 (by decide) (fun c_1 => ?_) (fun c_1 => ?_)
  · refine lv_iconst (v := 0) hx hb d_Mo_isBox_28 (by decide) ?_
    try simp only [bI_ne0, bI_eq0] at c_1
    exact W.zret (v := 0) hx hb hr rfl (fun t9 ht hW => ⟨⟨0, V, rfl, ⟨by first | (simp [bI, moBox, c_1]; done) | (simp_all [bI, moBox]; done), rfl⟩, mB_of ht hV⟩, hS.F ht⟩) hS.2.2 d_Mo_isBox_29
  · refine lv_iload_n hx hb d_Mo_isBox_8 rfl (lv_at hl 0 rfl) ?_
    refine lv_iload_n hx hb d_Mo_isBox_9 rfl (lv_at hl 2 rfl) ?_
    refine lv_iadd hx hb d_Mo_isBox_10 ?_
    refine lv_bipush (v := 32) hx hb d_Mo_isBox_11 (by decide) ?_
    refine lv_icmp_gt (tgt := 28) hx hb d_Mo_isBox_13 (by decide) (fun c_2 => ?_) (fun c_2 => ?_)
    · have c_2 := i_nle c_2
      refine lv_iconst (v := 0) hx hb d_Mo_isBox_28 (by decide) ?_
      try simp only [bI_ne0, bI_eq0] at c_1
      try simp only [bI_ne0, bI_eq0] at c_2
      exact W.zret (v := 0) hx hb hr rfl (fun t9 ht hW => ⟨⟨0, V, rfl, ⟨by first | (simp [bI, moBox, c_1, c_2]; done) | (simp_all [bI, moBox]; done), rfl⟩, mB_of ht hV⟩, hS.F ht⟩) hS.2.2 d_Mo_isBox_29
    · have c_2 := i_le c_2
      refine lv_iload_n hx hb d_Mo_isBox_16 rfl (lv_at hl 1 rfl) ?_
      refine lv_iload_n hx hb d_Mo_isBox_17 rfl (lv_at hl 3 rfl) ?_
      refine lv_iadd hx hb d_Mo_isBox_18 ?_
      refine lv_bipush (v := 24) hx hb d_Mo_isBox_19 (by decide) ?_
      refine lv_icmp_gt (tgt := 28) hx hb d_Mo_isBox_21 (by decide) (fun c_3 => ?_) (fun c_3 => ?_)
      · have c_3 := i_nle c_3
        refine lv_iconst (v := 0) hx hb d_Mo_isBox_28 (by decide) ?_
        try simp only [bI_ne0, bI_eq0] at c_1
        try simp only [bI_ne0, bI_eq0] at c_2
        try simp only [bI_ne0, bI_eq0] at c_3
        exact W.zret (v := 0) hx hb hr rfl (fun t9 ht hW => ⟨⟨0, V, rfl, ⟨by first | (simp [bI, moBox, c_1, c_2, c_3]; done) | (simp_all [bI, moBox]; done), rfl⟩, mB_of ht hV⟩, hS.F ht⟩) hS.2.2 d_Mo_isBox_29
      · have c_3 := i_le c_3
        refine lv_iconst (v := 1) hx hb d_Mo_isBox_24 (by decide) ?_
        refine lv_goto (tgt := 29) hx hb d_Mo_isBox_25 (by decide) ?_
        try simp only [bI_ne0, bI_eq0] at c_1
        try simp only [bI_ne0, bI_eq0] at c_2
        try simp only [bI_ne0, bI_eq0] at c_3
        exact W.zret (v := 1) hx hb hr rfl (fun t9 ht hW => ⟨⟨1, V, rfl, ⟨by first | (simp [bI, moBox, c_1, c_2, c_3]; done) | (simp_all [bI, moBox]; done), rfl⟩, mB_of ht hV⟩, hS.F ht⟩) hS.2.2 d_Mo_isBox_29
set_option maxHeartbeats 4000000 in
set_option maxRecDepth 100000 in
/-- apart -/
theorem c_Mo_apart (l : Launch) (D : va_G) (N0 : Nat) (k : Nat → Nat) (V : HV) (x n0 y q0 : Int32) : Met l y_Mo_apart (.code y_Mo_apart b_Mo_apart 4 (some .int) :: WS) ({ frames := 0, cells := 0, slots := 0, locals := 0 }) (mP D N0 k [.int x, .int n0, .int y, .int q0] V) (va_Qi (fun r V' => r = moApart x n0 y q0 ∧ V' = V) (mB D N0) (hA N0)) 0 0 (hA N0) := by
  refine Met.ofW (cc := b_Mo_apart) (maxL := 4) (ret := (some .int)) (by decide) rfl ?_
  intro p e s m args below meth c s₁ B hml hv0
  obtain ⟨rfl, hG, hV⟩ := hv0
  have hx := B.exec
  have hb := B.bytes
  have hr := B.returns
  have hts := atoms_spec (ws := .code y_Mo_apart b_Mo_apart 4 (some .int) :: WS) B.pre
  have hW : ∀ w ∈ WS, w.before _ s = true := fun w h => hts w (List.mem_cons_of_mem _ h)
  have hown : s.vm.findClass "BoardHouseModel" = some m.cls := findClass_of_methodNamed B.named
  have hlocks := B.notSynchronized
  have hS : va_S (hA N0) s.heap s.heap [] := va_S.rf
  have hl := lv_entry ([.int x, .int n0, .int y, .int q0]) (n := 4) (Nat.le_of_ble_eq_true rfl)
  rw [lg_entry_eq]
  generalize (lg_sl ([.int x, .int n0, .int y, .int q0]) ++ List.replicate (4 - (lg_sl ([.int x, .int n0, .int y, .int q0])).length) Slot.unset).toArray = ls at hl ⊢
  have hl : lv_has ls 4 [(0, .int x), (1, .int n0), (2, .int y), (3, .int q0)] := hl
  refine lv_iload_n hx hb d_Mo_apart_0 rfl (lv_at hl 0 rfl) ?_
  refine lv_iload_n hx hb d_Mo_apart_1 rfl (lv_at hl 1 rfl) ?_
  refine lv_iadd hx hb d_Mo_apart_2 ?_
  refine lv_iload_n hx hb d_Mo_apart_3 rfl (lv_at hl 2 rfl) ?_
  refine lv_icmp_gt (tgt := 17) hx hb d_Mo_apart_4 (by decide) (fun c_1 => ?_) (fun c_1 => ?_)
  · have c_1 := i_nle c_1
    refine lv_iload_n hx hb d_Mo_apart_17 rfl (lv_at hl 2 rfl) ?_
    refine lv_iload_n hx hb d_Mo_apart_18 rfl (lv_at hl 3 rfl) ?_
    refine lv_iadd hx hb d_Mo_apart_19 ?_
    refine lv_iload_n hx hb d_Mo_apart_20 rfl (lv_at hl 0 rfl) ?_
    refine lv_icmp_gt (tgt := 34) hx hb d_Mo_apart_21 (by decide) (fun c_2 => ?_) (fun c_2 => ?_)
    · have c_2 := i_nle c_2
      refine lv_iconst (v := 0) hx hb d_Mo_apart_34 (by decide) ?_
      try simp only [bI_ne0, bI_eq0] at c_1
      try simp only [bI_ne0, bI_eq0] at c_2
      exact W.iret (v := 0) hx hb hr (fun t9 ht hW => ⟨⟨0, V, rfl, ⟨by first | (simp [bI, moApart, c_1, c_2]; done) | (simp_all [bI, moApart]; done), rfl⟩, mB_of ht hV⟩, hS.F ht⟩) hS.2.2 d_Mo_apart_35
    · have c_2 := i_le c_2
      refine lv_iload_n hx hb d_Mo_apart_24 rfl (lv_at hl 0 rfl) ?_
      refine lv_iload_n hx hb d_Mo_apart_25 rfl (lv_at hl 2 rfl) ?_
      refine lv_isub hx hb d_Mo_apart_26 ?_
      refine lv_iload_n hx hb d_Mo_apart_27 rfl (lv_at hl 3 rfl) ?_
      refine lv_isub hx hb d_Mo_apart_28 ?_
      refine lv_iconst (v := 1) hx hb d_Mo_apart_29 (by decide) ?_
      refine lv_iadd hx hb d_Mo_apart_30 ?_
      refine lv_goto (tgt := 35) hx hb d_Mo_apart_31 (by decide) ?_
      try simp only [bI_ne0, bI_eq0] at c_1
      try simp only [bI_ne0, bI_eq0] at c_2
      exact W.iret (v := (((x - y) - q0) + 1)) hx hb hr (fun t9 ht hW => ⟨⟨(((x - y) - q0) + 1), V, rfl, ⟨by first | (simp [bI, moApart, c_1, c_2]; done) | (simp_all [bI, moApart]; done), rfl⟩, mB_of ht hV⟩, hS.F ht⟩) hS.2.2 d_Mo_apart_35
  · have c_1 := i_le c_1
    refine lv_iload_n hx hb d_Mo_apart_7 rfl (lv_at hl 2 rfl) ?_
    refine lv_iload_n hx hb d_Mo_apart_8 rfl (lv_at hl 0 rfl) ?_
    refine lv_isub hx hb d_Mo_apart_9 ?_
    refine lv_iload_n hx hb d_Mo_apart_10 rfl (lv_at hl 1 rfl) ?_
    refine lv_isub hx hb d_Mo_apart_11 ?_
    refine lv_iconst (v := 1) hx hb d_Mo_apart_12 (by decide) ?_
    refine lv_iadd hx hb d_Mo_apart_13 ?_
    refine lv_goto (tgt := 35) hx hb d_Mo_apart_14 (by decide) ?_
    try simp only [bI_ne0, bI_eq0] at c_1
    exact W.iret (v := (((y - x) - n0) + 1)) hx hb hr (fun t9 ht hW => ⟨⟨(((y - x) - n0) + 1), V, rfl, ⟨by first | (simp [bI, moApart, c_1]; done) | (simp_all [bI, moApart]; done), rfl⟩, mB_of ht hV⟩, hS.F ht⟩) hS.2.2 d_Mo_apart_35
set_option maxHeartbeats 4000000 in
set_option maxRecDepth 100000 in
/-- isGiven -/
theorem c_Mo_isGiven (l : Launch) (D : va_G) (N0 : Nat) (k : Nat → Nat) (V : HV) (mo : Nat) (ad : Nat → Nat) (ρ : MS) (hM : mdOk k V mo ad ρ) (h : Int32) : Met l y_Mo_isGiven (.code y_Mo_isGiven b_Mo_isGiven 3 (some .boolean) :: WS) ({ frames := 0, cells := 0, slots := 0, locals := 0 }) (mP D N0 k [.ref mo, .int h] V) (va_Qi (fun r V' => r = bI (gvOk (ρ.I 0) h) ∧ V' = V) (mB D N0) (hA N0)) 0 0 (hA N0) := by
  refine Met.ofW (cc := b_Mo_isGiven) (maxL := 3) (ret := (some .boolean)) (by decide) rfl ?_
  intro p e s m args below meth c s₁ B hml hv0
  obtain ⟨rfl, hG, hV⟩ := hv0
  have hx := B.exec
  have hb := B.bytes
  have hr := B.returns
  have hts := atoms_spec (ws := .code y_Mo_isGiven b_Mo_isGiven 3 (some .boolean) :: WS) B.pre
  have hW : ∀ w ∈ WS, w.before _ s = true := fun w h => hts w (List.mem_cons_of_mem _ h)
  have hown : s.vm.findClass "BoardHouseModel" = some m.cls := findClass_of_methodNamed B.named
  have hlocks := B.notSynchronized
  have hS : va_S (hA N0) s.heap s.heap [] := va_S.rf
  have hl := lv_entry ([.ref mo, .int h]) (n := 3) (Nat.le_of_ble_eq_true rfl)
  rw [lg_entry_eq]
  generalize (lg_sl ([.ref mo, .int h]) ++ List.replicate (3 - (lg_sl ([.ref mo, .int h])).length) Slot.unset).toArray = ls at hl ⊢
  have hl : lv_has ls 3 [(0, .ref mo), (1, .int h)] := hl
  have hm_1 : V mo = some (.inr (7, [.int (ρ.s 0), .int (ρ.s 1), .int (ρ.s 2), .int (ρ.s 3), .ref (ad 0), .ref (ad 1), .ref (ad 2), .ref (ad 3), .ref (ad 4), .ref (ad 5), .ref (ad 6), .ref (ad 7), .ref (ad 8), .int (ρ.s 4), .ref (ad 9), .ref (ad 10), .ref (ad 11), .ref (ad 12), .ref (ad 13), .ref (ad 14), .ref (ad 15), .ref (ad 16), .ref (ad 17), .ref (ad 18), .ref (ad 19), .ref (ad 20), .ref (ad 21), .ref (ad 22), .ref (ad 23), .ref (ad 24), .ref (ad 25)])) := hM.1
  have hm_1_0 : V (ad 0) = some (eI k 8 (ρ.I 0)) := hM.a0
  refine lv_iload_n hx hb d_Mo_isGiven_0 rfl (lv_at hl 1 rfl) ?_
  refine lv_sipush (v := 1000) hx hb d_Mo_isGiven_1 (by decide) ?_
  refine lv_idiv hx hb d_Mo_isGiven_4 (by decide) ?_
  refine lv_istore_n (lv' := [(2, .int (h / 1000)), (0, .ref mo), (1, .int h)]) hx hb d_Mo_isGiven_5 rfl hl (by decide) rfl (fun ls hl => ?_)
  refine lv_iload_n hx hb d_Mo_isGiven_6 rfl (lv_at hl 2 rfl) ?_
  refine lv_sipush (v := 1000) hx hb d_Mo_isGiven_7 (by decide) ?_
  refine lv_icmp_lt (tgt := 37) hx hb d_Mo_isGiven_10 (by decide) (fun c_2 => ?_) (fun c_2 => ?_)
  · have c_2 := i_nle c_2
    refine lv_iconst (v := 0) hx hb d_Mo_isGiven_37 (by decide) ?_
    try rw [i8] at c_2
    exact W.zret (v := 0) hx hb hr rfl (fun t9 ht hW => ⟨⟨0, V, rfl, ⟨by first | (simp [bI, gvOk, c_2]; done) | (simp_all [bI, gvOk]; done), rfl⟩, mB_of ht hV⟩, hS.F ht⟩) hS.2.2 d_Mo_isGiven_38
  · have c_2 := i_le c_2
    refine lv_iload_n hx hb d_Mo_isGiven_13 rfl (lv_at hl 0 rfl) ?_
    refine lv_bipush (v := 8) hx hb d_Mo_isGiven_14 (by decide) ?_
    refine lv_icmp_ge (tgt := 37) hx hb d_Mo_isGiven_16 (by decide) (fun c_3 => ?_) (fun c_3 => ?_)
    · refine lv_iconst (v := 0) hx hb d_Mo_isGiven_37 (by decide) ?_
      try rw [i8] at c_2
      try rw [i8] at c_3
      exact W.zret (v := 0) hx hb hr rfl (fun t9 ht hW => ⟨⟨0, V, rfl, ⟨by first | (simp [bI, gvOk, c_2, c_3]; done) | (simp_all [bI, gvOk]; done), rfl⟩, mB_of ht hV⟩, hS.F ht⟩) hS.2.2 d_Mo_isGiven_38
    · refine lv_iload_n hx hb d_Mo_isGiven_19 rfl (lv_at hl 2 rfl) ?_
      refine lv_sipush (v := 1000) hx hb d_Mo_isGiven_20 (by decide) ?_
      refine lv_irem hx hb d_Mo_isGiven_23 (by decide) ?_
      refine lv_aload_n hx hb d_Mo_isGiven_24 rfl (lv_at hl 1 rfl) ?_
      refine gf_Mo_7 hx hb hW hown hG hV hm_1 d_Mo_isGiven_25 ?_
      refine lv_iload_n hx hb d_Mo_isGiven_28 rfl (lv_at hl 0 rfl) ?_
      obtain ⟨j9, hj9, -, hj91, e91, e92⟩ := h_nat c_2
      have h79 := nI_le' (a := j9 / 1000) (b := 7) (by rw [← e91]; exact Decidable.not_not.mp (fun q => c_3 (i8.mpr q))) (by omega) (by decide)
      refine hv_iald hx hb hG.K hV 0 hm_1_0 rfl (by rw [e91]; exact vp_in_nI (by omega) (by omega)) d_Mo_isGiven_29 ?_
      refine lv_icmp_ge (tgt := 37) hx hb d_Mo_isGiven_30 (by decide) (fun c_4 => ?_) (fun c_4 => ?_)
      · refine lv_iconst (v := 0) hx hb d_Mo_isGiven_37 (by decide) ?_
        try rw [i8] at c_2
        try rw [i8] at c_3
        try rw [i8] at c_4
        exact W.zret (v := 0) hx hb hr rfl (fun t9 ht hW => ⟨⟨0, V, rfl, ⟨by first | (simp [bI, gvOk, c_2, c_3, c_4]; done) | (simp_all [bI, gvOk]; done), rfl⟩, mB_of ht hV⟩, hS.F ht⟩) hS.2.2 d_Mo_isGiven_38
      · refine lv_iconst (v := 1) hx hb d_Mo_isGiven_33 (by decide) ?_
        refine lv_goto (tgt := 38) hx hb d_Mo_isGiven_34 (by decide) ?_
        try rw [i8] at c_2
        try rw [i8] at c_3
        try rw [i8] at c_4
        exact W.zret (v := 1) hx hb hr rfl (fun t9 ht hW => ⟨⟨1, V, rfl, ⟨by first | (simp [bI, gvOk, c_2, c_3, c_4]; done) | (simp_all [bI, gvOk]; done), rfl⟩, mB_of ht hV⟩, hS.F ht⟩) hS.2.2 d_Mo_isGiven_38
set_option maxHeartbeats 4000000 in
set_option maxRecDepth 100000 in
/-- fault -/
theorem c_Mo_fault (l : Launch) (D : va_G) (N0 : Nat) (k : Nat → Nat) (V : HV) (mo : Nat) (ad : Nat → Nat) (ρ : MS) (hM : mdOk k V mo ad ρ) (h kd : Int32) : Met l y_Mo_fault (.code y_Mo_fault b_Mo_fault 3 (some .int) :: WS) ({ frames := 1, cells := 0, slots := 0, locals := 22 }) (mP D N0 k [.ref mo, .int h, .int kd] V) (va_Qi (fun r V' => r = moFault (ρ.I 0) h kd ∧ V' = V) (mB D N0) (hA N0)) 0 0 (hA N0) := by
  refine Met.ofW (cc := b_Mo_fault) (maxL := 3) (ret := (some .int)) (by decide) rfl ?_
  intro p e s m args below meth c s₁ B hml hv0
  obtain ⟨rfl, hG, hV⟩ := hv0
  have hx := B.exec
  have hb := B.bytes
  have hr := B.returns
  have hts := atoms_spec (ws := .code y_Mo_fault b_Mo_fault 3 (some .int) :: WS) B.pre
  have hW : ∀ w ∈ WS, w.before _ s = true := fun w h => hts w (List.mem_cons_of_mem _ h)
  have hown : s.vm.findClass "BoardHouseModel" = some m.cls := findClass_of_methodNamed B.named
  have hlocks := B.notSynchronized
  have hS : va_S (hA N0) s.heap s.heap [] := va_S.rf
  have hl := lv_entry ([.ref mo, .int h, .int kd]) (n := 3) (Nat.le_of_ble_eq_true rfl)
  rw [lg_entry_eq]
  generalize (lg_sl ([.ref mo, .int h, .int kd]) ++ List.replicate (3 - (lg_sl ([.ref mo, .int h, .int kd])).length) Slot.unset).toArray = ls at hl ⊢
  have hl : lv_has ls 3 [(0, .ref mo), (1, .int h), (2, .int kd)] := hl
  have hm_1 : V mo = some (.inr (7, [.int (ρ.s 0), .int (ρ.s 1), .int (ρ.s 2), .int (ρ.s 3), .ref (ad 0), .ref (ad 1), .ref (ad 2), .ref (ad 3), .ref (ad 4), .ref (ad 5), .ref (ad 6), .ref (ad 7), .ref (ad 8), .int (ρ.s 4), .ref (ad 9), .ref (ad 10), .ref (ad 11), .ref (ad 12), .ref (ad 13), .ref (ad 14), .ref (ad 15), .ref (ad 16), .ref (ad 17), .ref (ad 18), .ref (ad 19), .ref (ad 20), .ref (ad 21), .ref (ad 22), .ref (ad 23), .ref (ad 24), .ref (ad 25)])) := hM.1
  refine lv_aload_n hx hb d_Mo_fault_0 rfl (lv_at hl 0 rfl) ?_
  refine lv_iload_n hx hb d_Mo_fault_1 rfl (lv_at hl 1 rfl) ?_
  refine rc_i (va_runV (As := [.int h]) (rest := []) ⟨hx, hb, hml, hown, hts⟩ (c_Mo_isGiven l D N0 k V mo ad ρ hM h) (cwV 1 hts (gi_V wm_Mo_110 wv_Mo_isGiven ws_Mo_isGiven wi_Mo wc_Mo_isGiven) rfl rfl rfl (by decide +kernel) ⟨Nat.le_of_ble_eq_true rfl, Nat.le_of_ble_eq_true rfl⟩) (mP.preV hG hS hV hm_1 rfl) rfl rfl hl.1 rfl (lv_room (Nat.le_of_ble_eq_true rfl)) d_Mo_fault_2 ⟨Nat.le_of_ble_eq_true rfl, Nat.le_of_ble_eq_true rfl⟩) hS (fun H locs hV hS => ?_)
  refine W.eq (g2 := F0 m 5 ls [.int (bI (gvOk (ρ.I 0) h))]) rfl ?_
  refine lv_if_ne (tgt := 12) hx hb d_Mo_fault_5 (by decide) (fun c_2 => ?_) (fun c_2 => ?_)
  · refine lv_iload_n hx hb d_Mo_fault_12 rfl (lv_at hl 1 rfl) ?_
    refine lv_sipush (v := 1000) hx hb d_Mo_fault_13 (by decide) ?_
    refine lv_idiv hx hb d_Mo_fault_16 (by decide) ?_
    refine lv_iload_n hx hb d_Mo_fault_17 rfl (lv_at hl 2 rfl) ?_
    refine lv_icmp_ne (tgt := 25) hx hb d_Mo_fault_18 (by decide) (fun c_3 => ?_) (fun c_3 => ?_)
    · refine lv_iconst (v := 2) hx hb d_Mo_fault_25 (by decide) ?_
      try simp only [bI_ne0, bI_eq0] at c_2
      try simp only [bI_ne0, bI_eq0] at c_3
      exact W.iret (v := 2) hx hb hr (fun t9 ht hW => ⟨⟨2, V, rfl, ⟨by first | (simp [bI, moFault, c_2, c_3]; done) | (simp_all [bI, moFault]; done), rfl⟩, mB_of ht hV⟩, hS.F ht⟩) hS.2.2 d_Mo_fault_26
    · refine lv_iconst (v := 0) hx hb d_Mo_fault_21 (by decide) ?_
      refine lv_goto (tgt := 26) hx hb d_Mo_fault_22 (by decide) ?_
      try simp only [bI_ne0, bI_eq0] at c_2
      try simp only [bI_ne0, bI_eq0] at c_3
      exact W.iret (v := 0) hx hb hr (fun t9 ht hW => ⟨⟨0, V, rfl, ⟨by first | (simp [bI, moFault, c_2, c_3]; done) | (simp_all [bI, moFault]; done), rfl⟩, mB_of ht hV⟩, hS.F ht⟩) hS.2.2 d_Mo_fault_26
  · refine lv_iconst (v := 1) hx hb d_Mo_fault_8 (by decide) ?_
    refine lv_goto (tgt := 26) hx hb d_Mo_fault_9 (by decide) ?_
    try simp only [bI_ne0, bI_eq0] at c_2
    exact W.iret (v := 1) hx hb hr (fun t9 ht hW => ⟨⟨1, V, rfl, ⟨by first | (simp [bI, moFault, c_2]; done) | (simp_all [bI, moFault]; done), rfl⟩, mB_of ht hV⟩, hS.F ht⟩) hS.2.2 d_Mo_fault_26
set_option maxHeartbeats 4000000 in
set_option maxRecDepth 100000 in
/-- indexOf -/
theorem c_Mo_indexOf (l : Launch) (D : va_G) (N0 : Nat) (k : Nat → Nat) (V : HV) (h : Int32) : Met l y_Mo_indexOf (.code y_Mo_indexOf b_Mo_indexOf 1 (some .int) :: WS) ({ frames := 1, cells := 0, slots := 0, locals := 20 }) (mP D N0 k [.int h] V) (va_Qi (fun r V' => r = moIdx h ∧ V' = V) (mB D N0) (hA N0)) 0 0 (hA N0) := by
  refine Met.ofW (cc := b_Mo_indexOf) (maxL := 1) (ret := (some .int)) (by decide) rfl ?_
  intro p e s m args below meth c s₁ B hml hv0
  obtain ⟨rfl, hG, hV⟩ := hv0
  have hx := B.exec
  have hb := B.bytes
  have hr := B.returns
  have hts := atoms_spec (ws := .code y_Mo_indexOf b_Mo_indexOf 1 (some .int) :: WS) B.pre
  have hW : ∀ w ∈ WS, w.before _ s = true := fun w h => hts w (List.mem_cons_of_mem _ h)
  have hown : s.vm.findClass "BoardHouseModel" = some m.cls := findClass_of_methodNamed B.named
  have hlocks := B.notSynchronized
  have hS : va_S (hA N0) s.heap s.heap [] := va_S.rf
  have hl := lv_entry ([.int h]) (n := 1) (Nat.le_of_ble_eq_true rfl)
  rw [lg_entry_eq]
  generalize (lg_sl ([.int h]) ++ List.replicate (1 - (lg_sl ([.int h])).length) Slot.unset).toArray = ls at hl ⊢
  have hl : lv_has ls 1 [(0, .int h)] := hl
  refine lv_iload_n hx hb d_Mo_indexOf_0 rfl (lv_at hl 0 rfl) ?_
  refine lv_sipush (v := 1000) hx hb d_Mo_indexOf_1 (by decide) ?_
  refine lv_idiv hx hb d_Mo_indexOf_4 (by decide) ?_
  refine rc_i (va_runS (As := [.int (h / 1000)]) (rest := []) ⟨hx, hb, hml, hown, hts⟩ (c_Mo_baseOf l D N0 k V (h / 1000)) (va_cwS 1 hts (gi_S wm_Mo_107 wt_Mo_baseOf wi_Mo wc_Mo_baseOf) rfl rfl rfl (by decide +kernel) ⟨Nat.le_of_ble_eq_true rfl, Nat.le_of_ble_eq_true rfl⟩) (mP.preS hG hS hV) rfl rfl hl.1 rfl (lv_room (Nat.le_of_ble_eq_true rfl)) d_Mo_indexOf_5 ⟨Nat.le_of_ble_eq_true rfl, Nat.le_of_ble_eq_true rfl⟩) hS (fun H locs hV hS => ?_)
  refine lv_iload_n hx hb d_Mo_indexOf_8 rfl (lv_at hl 0 rfl) ?_
  refine lv_sipush (v := 1000) hx hb d_Mo_indexOf_9 (by decide) ?_
  refine lv_irem hx hb d_Mo_indexOf_12 (by decide) ?_
  refine lv_iadd hx hb d_Mo_indexOf_13 ?_
  exact W.iret (v := ((moBase (h / 1000)) + (h - h / 1000 * 1000))) hx hb hr (fun t9 ht hW => ⟨⟨((moBase (h / 1000)) + (h - h / 1000 * 1000)), V, rfl, ⟨rfl, rfl⟩, mB_of ht hV⟩, hS.F ht⟩) hS.2.2 d_Mo_indexOf_14
set_option maxHeartbeats 4000000 in
set_option maxRecDepth 100000 in
/-- isLayer -/
theorem c_Mo_isLayer (l : Launch) (D : va_G) (N0 : Nat) (k : Nat → Nat) (V : HV) (mo : Nat) (ad : Nat → Nat) (ρ : MS) (hM : mdOk k V mo ad ρ) (x : Int32) : Met l y_Mo_isLayer (.code y_Mo_isLayer b_Mo_isLayer 2 (some .boolean) :: WS) ({ frames := 0, cells := 0, slots := 0, locals := 0 }) (mP D N0 k [.ref mo, .int x] V) (va_Qi (fun r V' => r = bI (moLay (ρ.s 1) x) ∧ V' = V) (mB D N0) (hA N0)) 0 0 (hA N0) := by
  refine Met.ofW (cc := b_Mo_isLayer) (maxL := 2) (ret := (some .boolean)) (by decide) rfl ?_
  intro p e s m args below meth c s₁ B hml hv0
  obtain ⟨rfl, hG, hV⟩ := hv0
  have hx := B.exec
  have hb := B.bytes
  have hr := B.returns
  have hts := atoms_spec (ws := .code y_Mo_isLayer b_Mo_isLayer 2 (some .boolean) :: WS) B.pre
  have hW : ∀ w ∈ WS, w.before _ s = true := fun w h => hts w (List.mem_cons_of_mem _ h)
  have hown : s.vm.findClass "BoardHouseModel" = some m.cls := findClass_of_methodNamed B.named
  have hlocks := B.notSynchronized
  have hS : va_S (hA N0) s.heap s.heap [] := va_S.rf
  have hl := lv_entry ([.ref mo, .int x]) (n := 2) (Nat.le_of_ble_eq_true rfl)
  rw [lg_entry_eq]
  generalize (lg_sl ([.ref mo, .int x]) ++ List.replicate (2 - (lg_sl ([.ref mo, .int x])).length) Slot.unset).toArray = ls at hl ⊢
  have hl : lv_has ls 2 [(0, .ref mo), (1, .int x)] := hl
  have hm_1 : V mo = some (.inr (7, [.int (ρ.s 0), .int (ρ.s 1), .int (ρ.s 2), .int (ρ.s 3), .ref (ad 0), .ref (ad 1), .ref (ad 2), .ref (ad 3), .ref (ad 4), .ref (ad 5), .ref (ad 6), .ref (ad 7), .ref (ad 8), .int (ρ.s 4), .ref (ad 9), .ref (ad 10), .ref (ad 11), .ref (ad 12), .ref (ad 13), .ref (ad 14), .ref (ad 15), .ref (ad 16), .ref (ad 17), .ref (ad 18), .ref (ad 19), .ref (ad 20), .ref (ad 21), .ref (ad 22), .ref (ad 23), .ref (ad 24), .ref (ad 25)])) := hM.1
  refine lv_iload_n hx hb d_Mo_isLayer_0 rfl (lv_at hl 1 rfl) ?_
  refine lv_if_lt (tgt := 16) hx hb d_Mo_isLayer_1 (by decide) (fun c_2 => ?_) (fun c_2 => ?_)
  · have c_2 := i_nle c_2
    refine lv_iconst (v := 0) hx hb d_Mo_isLayer_16 (by decide) ?_
    try simp only [bI_ne0, bI_eq0] at c_2
    exact W.zret (v := 0) hx hb hr rfl (fun t9 ht hW => ⟨⟨0, V, rfl, ⟨by first | (simp [bI, moLay, c_2]; done) | (simp_all [bI, moLay]; done), rfl⟩, mB_of ht hV⟩, hS.F ht⟩) hS.2.2 d_Mo_isLayer_17
  · have c_2 := i_le c_2
    refine lv_iload_n hx hb d_Mo_isLayer_4 rfl (lv_at hl 1 rfl) ?_
    refine lv_aload_n hx hb d_Mo_isLayer_5 rfl (lv_at hl 0 rfl) ?_
    refine gf_Mo_94 hx hb hW hown hG hV hm_1 d_Mo_isLayer_6 ?_
    refine lv_icmp_ge (tgt := 16) hx hb d_Mo_isLayer_9 (by decide) (fun c_3 => ?_) (fun c_3 => ?_)
    · refine lv_iconst (v := 0) hx hb d_Mo_isLayer_16 (by decide) ?_
      try simp only [bI_ne0, bI_eq0] at c_2
      try simp only [bI_ne0, bI_eq0] at c_3
      exact W.zret (v := 0) hx hb hr rfl (fun t9 ht hW => ⟨⟨0, V, rfl, ⟨by first | (simp [bI, moLay, c_2, c_3]; done) | (simp_all [bI, moLay]; done), rfl⟩, mB_of ht hV⟩, hS.F ht⟩) hS.2.2 d_Mo_isLayer_17
    · refine lv_iconst (v := 1) hx hb d_Mo_isLayer_12 (by decide) ?_
      refine lv_goto (tgt := 17) hx hb d_Mo_isLayer_13 (by decide) ?_
      try simp only [bI_ne0, bI_eq0] at c_2
      try simp only [bI_ne0, bI_eq0] at c_3
      exact W.zret (v := 1) hx hb hr rfl (fun t9 ht hW => ⟨⟨1, V, rfl, ⟨by first | (simp [bI, moLay, c_2, c_3]; done) | (simp_all [bI, moLay]; done), rfl⟩, mB_of ht hV⟩, hS.F ht⟩) hS.2.2 d_Mo_isLayer_17
set_option maxHeartbeats 4000000 in
set_option maxRecDepth 100000 in
/-- meetsAct -/
theorem c_Mo_meetsAct (l : Launch) (D : va_G) (N0 : Nat) (k : Nat → Nat) (V : HV) (mo : Nat) (ad : Nat → Nat) (ρ : MS) (hM : mdOk k V mo ad ρ) (j : Nat) (hj : j < 10) (x y w0 h0 : Int32) : Met l y_Mo_meetsAct (.code y_Mo_meetsAct b_Mo_meetsAct 6 (some .boolean) :: WS) ({ frames := 0, cells := 0, slots := 0, locals := 0 }) (mP D N0 k [.ref mo, .int (nI j), .int x, .int y, .int w0, .int h0] V) (va_Qi (fun r V' => r = bI (moMeet ρ.I j x y w0 h0) ∧ V' = V) (mB D N0) (hA N0)) 0 0 (hA N0) := by
  refine Met.ofW (cc := b_Mo_meetsAct) (maxL := 6) (ret := (some .boolean)) (by decide) rfl ?_
  intro p e s m args below meth c s₁ B hml hv0
  obtain ⟨rfl, hG, hV⟩ := hv0
  have hx := B.exec
  have hb := B.bytes
  have hr := B.returns
  have hts := atoms_spec (ws := .code y_Mo_meetsAct b_Mo_meetsAct 6 (some .boolean) :: WS) B.pre
  have hW : ∀ w ∈ WS, w.before _ s = true := fun w h => hts w (List.mem_cons_of_mem _ h)
  have hown : s.vm.findClass "BoardHouseModel" = some m.cls := findClass_of_methodNamed B.named
  have hlocks := B.notSynchronized
  have hS : va_S (hA N0) s.heap s.heap [] := va_S.rf
  have hl := lv_entry ([.ref mo, .int (nI j), .int x, .int y, .int w0, .int h0]) (n := 6) (Nat.le_of_ble_eq_true rfl)
  rw [lg_entry_eq]
  generalize (lg_sl ([.ref mo, .int (nI j), .int x, .int y, .int w0, .int h0]) ++ List.replicate (6 - (lg_sl ([.ref mo, .int (nI j), .int x, .int y, .int w0, .int h0])).length) Slot.unset).toArray = ls at hl ⊢
  have hl : lv_has ls 6 [(0, .ref mo), (1, .int (nI j)), (2, .int x), (3, .int y), (4, .int w0), (5, .int h0)] := hl
  have hm_1 : V mo = some (.inr (7, [.int (ρ.s 0), .int (ρ.s 1), .int (ρ.s 2), .int (ρ.s 3), .ref (ad 0), .ref (ad 1), .ref (ad 2), .ref (ad 3), .ref (ad 4), .ref (ad 5), .ref (ad 6), .ref (ad 7), .ref (ad 8), .int (ρ.s 4), .ref (ad 9), .ref (ad 10), .ref (ad 11), .ref (ad 12), .ref (ad 13), .ref (ad 14), .ref (ad 15), .ref (ad 16), .ref (ad 17), .ref (ad 18), .ref (ad 19), .ref (ad 20), .ref (ad 21), .ref (ad 22), .ref (ad 23), .ref (ad 24), .ref (ad 25)])) := hM.1
  have hm_1_10 : V (ad 10) = some (eI k 10 (ρ.I 10)) := hM.a10
  have hm_1_11 : V (ad 11) = some (eI k 10 (ρ.I 11)) := hM.a11
  have hm_1_12 : V (ad 12) = some (eI k 10 (ρ.I 12)) := hM.a12
  have hm_1_13 : V (ad 13) = some (eI k 10 (ρ.I 13)) := hM.a13
  refine lv_iload_n hx hb d_Mo_meetsAct_0 rfl (lv_at hl 2 rfl) ?_
  refine lv_aload_n hx hb d_Mo_meetsAct_1 rfl (lv_at hl 0 rfl) ?_
  refine gf_Mo_51 hx hb hW hown hG hV hm_1 d_Mo_meetsAct_2 ?_
  refine lv_iload_n hx hb d_Mo_meetsAct_5 rfl (lv_at hl 1 rfl) ?_
  refine hv_iald hx hb hG.K hV 0 hm_1_12 rfl (vp_in_nI (by omega) (by omega)) d_Mo_meetsAct_6 ?_
  rw [nI_clamp (by omega)]
  refine lv_icmp_gt (tgt := 54) hx hb d_Mo_meetsAct_7 (by decide) (fun c_2 => ?_) (fun c_2 => ?_)
  · have c_2 := i_nle c_2
    refine lv_iconst (v := 0) hx hb d_Mo_meetsAct_54 (by decide) ?_
    try simp only [bI_ne0, bI_eq0] at c_2
    exact W.zret (v := 0) hx hb hr rfl (fun t9 ht hW => ⟨⟨0, V, rfl, ⟨by first | (simp [bI, moMeet, c_2]; done) | (simp_all [bI, moMeet]; done), rfl⟩, mB_of ht hV⟩, hS.F ht⟩) hS.2.2 d_Mo_meetsAct_55
  · have c_2 := i_le c_2
    refine lv_iload_n hx hb d_Mo_meetsAct_10 rfl (lv_at hl 2 rfl) ?_
    refine lv_iload hx hb d_Mo_meetsAct_11 (lv_at hl 4 rfl) ?_
    refine lv_iadd hx hb d_Mo_meetsAct_13 ?_
    refine lv_iconst (v := 1) hx hb d_Mo_meetsAct_14 (by decide) ?_
    refine lv_isub hx hb d_Mo_meetsAct_15 ?_
    refine lv_aload_n hx hb d_Mo_meetsAct_16 rfl (lv_at hl 0 rfl) ?_
    refine gf_Mo_45 hx hb hW hown hG hV hm_1 d_Mo_meetsAct_17 ?_
    refine lv_iload_n hx hb d_Mo_meetsAct_20 rfl (lv_at hl 1 rfl) ?_
    refine hv_iald hx hb hG.K hV 0 hm_1_10 rfl (vp_in_nI (by omega) (by omega)) d_Mo_meetsAct_21 ?_
    rw [nI_clamp (by omega)]
    refine lv_icmp_lt (tgt := 54) hx hb d_Mo_meetsAct_22 (by decide) (fun c_3 => ?_) (fun c_3 => ?_)
    · have c_3 := i_nle c_3
      refine lv_iconst (v := 0) hx hb d_Mo_meetsAct_54 (by decide) ?_
      try simp only [bI_ne0, bI_eq0] at c_2
      try simp only [bI_ne0, bI_eq0] at c_3
      exact W.zret (v := 0) hx hb hr rfl (fun t9 ht hW => ⟨⟨0, V, rfl, ⟨by first | (simp [bI, moMeet, c_2, c_3]; done) | (simp_all [bI, moMeet]; done), rfl⟩, mB_of ht hV⟩, hS.F ht⟩) hS.2.2 d_Mo_meetsAct_55
    · have c_3 := i_le c_3
      refine lv_iload_n hx hb d_Mo_meetsAct_25 rfl (lv_at hl 3 rfl) ?_
      refine lv_aload_n hx hb d_Mo_meetsAct_26 rfl (lv_at hl 0 rfl) ?_
      refine gf_Mo_54 hx hb hW hown hG hV hm_1 d_Mo_meetsAct_27 ?_
      refine lv_iload_n hx hb d_Mo_meetsAct_30 rfl (lv_at hl 1 rfl) ?_
      refine hv_iald hx hb hG.K hV 0 hm_1_13 rfl (vp_in_nI (by omega) (by omega)) d_Mo_meetsAct_31 ?_
      rw [nI_clamp (by omega)]
      refine lv_icmp_gt (tgt := 54) hx hb d_Mo_meetsAct_32 (by decide) (fun c_4 => ?_) (fun c_4 => ?_)
      · have c_4 := i_nle c_4
        refine lv_iconst (v := 0) hx hb d_Mo_meetsAct_54 (by decide) ?_
        try simp only [bI_ne0, bI_eq0] at c_2
        try simp only [bI_ne0, bI_eq0] at c_3
        try simp only [bI_ne0, bI_eq0] at c_4
        exact W.zret (v := 0) hx hb hr rfl (fun t9 ht hW => ⟨⟨0, V, rfl, ⟨by first | (simp [bI, moMeet, c_2, c_3, c_4]; done) | (simp_all [bI, moMeet]; done), rfl⟩, mB_of ht hV⟩, hS.F ht⟩) hS.2.2 d_Mo_meetsAct_55
      · have c_4 := i_le c_4
        refine lv_iload_n hx hb d_Mo_meetsAct_35 rfl (lv_at hl 3 rfl) ?_
        refine lv_iload hx hb d_Mo_meetsAct_36 (lv_at hl 5 rfl) ?_
        refine lv_iadd hx hb d_Mo_meetsAct_38 ?_
        refine lv_iconst (v := 1) hx hb d_Mo_meetsAct_39 (by decide) ?_
        refine lv_isub hx hb d_Mo_meetsAct_40 ?_
        refine lv_aload_n hx hb d_Mo_meetsAct_41 rfl (lv_at hl 0 rfl) ?_
        refine gf_Mo_48 hx hb hW hown hG hV hm_1 d_Mo_meetsAct_42 ?_
        refine lv_iload_n hx hb d_Mo_meetsAct_45 rfl (lv_at hl 1 rfl) ?_
        refine hv_iald hx hb hG.K hV 0 hm_1_11 rfl (vp_in_nI (by omega) (by omega)) d_Mo_meetsAct_46 ?_
        rw [nI_clamp (by omega)]
        refine lv_icmp_lt (tgt := 54) hx hb d_Mo_meetsAct_47 (by decide) (fun c_5 => ?_) (fun c_5 => ?_)
        · have c_5 := i_nle c_5
          refine lv_iconst (v := 0) hx hb d_Mo_meetsAct_54 (by decide) ?_
          try simp only [bI_ne0, bI_eq0] at c_2
          try simp only [bI_ne0, bI_eq0] at c_3
          try simp only [bI_ne0, bI_eq0] at c_4
          try simp only [bI_ne0, bI_eq0] at c_5
          exact W.zret (v := 0) hx hb hr rfl (fun t9 ht hW => ⟨⟨0, V, rfl, ⟨by first | (simp [bI, moMeet, c_2, c_3, c_4, c_5]; done) | (simp_all [bI, moMeet]; done), rfl⟩, mB_of ht hV⟩, hS.F ht⟩) hS.2.2 d_Mo_meetsAct_55
        · have c_5 := i_le c_5
          refine lv_iconst (v := 1) hx hb d_Mo_meetsAct_50 (by decide) ?_
          refine lv_goto (tgt := 55) hx hb d_Mo_meetsAct_51 (by decide) ?_
          try simp only [bI_ne0, bI_eq0] at c_2
          try simp only [bI_ne0, bI_eq0] at c_3
          try simp only [bI_ne0, bI_eq0] at c_4
          try simp only [bI_ne0, bI_eq0] at c_5
          exact W.zret (v := 1) hx hb hr rfl (fun t9 ht hW => ⟨⟨1, V, rfl, ⟨by first | (simp [bI, moMeet, c_2, c_3, c_4, c_5]; done) | (simp_all [bI, moMeet]; done), rfl⟩, mB_of ht hV⟩, hS.F ht⟩) hS.2.2 d_Mo_meetsAct_55
set_option maxHeartbeats 4000000 in
set_option maxRecDepth 100000 in
/-- isBarred -/
theorem c_Mo_isBarred (l : Launch) (D : va_G) (N0 : Nat) (k : Nat → Nat) (V : HV) (mo : Nat) (ad : Nat → Nat) (ρ : MS) (hM : mdOk k V mo ad ρ) (x y w0 h0 : Int32) (n0 : Nat) (hn10 : n0 ≤ 10) (hn0 : ρ.I 0 6 = nI n0) (hwo : moWo ρ) : Met l y_Mo_isBarred (.code y_Mo_isBarred b_Mo_isBarred 6 (some .boolean) :: WS) ({ frames := 1, cells := 0, slots := 0, locals := 25 }) (mP D N0 k [.ref mo, .int x, .int y, .int w0, .int h0] V) (va_Qi (fun r V' => r = bI (moBarr ρ n0 x y w0 h0) ∧ V' = V) (mB D N0) (hA N0)) 0 0 (hA N0) := by
  refine Met.ofW (cc := b_Mo_isBarred) (maxL := 6) (ret := (some .boolean)) (by decide) rfl ?_
  intro p e s m args below meth c s₁ B hml hv0
  obtain ⟨rfl, hG, hV⟩ := hv0
  have hx := B.exec
  have hb := B.bytes
  have hr := B.returns
  have hts := atoms_spec (ws := .code y_Mo_isBarred b_Mo_isBarred 6 (some .boolean) :: WS) B.pre
  have hW : ∀ w ∈ WS, w.before _ s = true := fun w h => hts w (List.mem_cons_of_mem _ h)
  have hown : s.vm.findClass "BoardHouseModel" = some m.cls := findClass_of_methodNamed B.named
  have hlocks := B.notSynchronized
  have hS : va_S (hA N0) s.heap s.heap [] := va_S.rf
  have hl := lv_entry ([.ref mo, .int x, .int y, .int w0, .int h0]) (n := 6) (Nat.le_of_ble_eq_true rfl)
  rw [lg_entry_eq]
  generalize (lg_sl ([.ref mo, .int x, .int y, .int w0, .int h0]) ++ List.replicate (6 - (lg_sl ([.ref mo, .int x, .int y, .int w0, .int h0])).length) Slot.unset).toArray = ls at hl ⊢
  have hl : lv_has ls 6 [(0, .ref mo), (1, .int x), (2, .int y), (3, .int w0), (4, .int h0)] := hl
  have hm_1 : V mo = some (.inr (7, [.int (ρ.s 0), .int (ρ.s 1), .int (ρ.s 2), .int (ρ.s 3), .ref (ad 0), .ref (ad 1), .ref (ad 2), .ref (ad 3), .ref (ad 4), .ref (ad 5), .ref (ad 6), .ref (ad 7), .ref (ad 8), .int (ρ.s 4), .ref (ad 9), .ref (ad 10), .ref (ad 11), .ref (ad 12), .ref (ad 13), .ref (ad 14), .ref (ad 15), .ref (ad 16), .ref (ad 17), .ref (ad 18), .ref (ad 19), .ref (ad 20), .ref (ad 21), .ref (ad 22), .ref (ad 23), .ref (ad 24), .ref (ad 25)])) := hM.1
  have hm_1_0 : V (ad 0) = some (eI k 8 (ρ.I 0)) := hM.a0
  have hm_1_9 : V (ad 9) = some (eZ k 10 (ρ.I 9)) := hM.a9
  have hm_1_10 : V (ad 10) = some (eI k 10 (ρ.I 10)) := hM.a10
  have hm_1_11 : V (ad 11) = some (eI k 10 (ρ.I 11)) := hM.a11
  have hm_1_12 : V (ad 12) = some (eI k 10 (ρ.I 12)) := hM.a12
  have hm_1_13 : V (ad 13) = some (eI k 10 (ρ.I 13)) := hM.a13
  refine lv_iconst (v := 0) hx hb d_Mo_isBarred_0 (by decide) ?_
  refine lv_istore (lv' := [(5, .int 0), (0, .ref mo), (1, .int x), (2, .int y), (3, .int w0), (4, .int h0)]) hx hb d_Mo_isBarred_1 hl (by decide) rfl (fun ls hl => ?_)
  obtain ⟨Pb, hPb⟩ : ∃ z, z = moBrP ρ x y w0 h0 := ⟨_, rfl⟩
  have loop_2 : ∀ (n i : Nat) (H : Heap) (locs : List Loc) (ls : Array Slot), i ≤ n0 → n0 + 1 ≤ i + n → (anyF Pb 0 n0 = anyF Pb i (n0 - i)) → hv D vwCl N0 V H → va_S (hA N0) s.heap H locs → lv_has ls 6 [(0, .ref mo), (1, .int x), (2, .int y), (3, .int w0), (4, .int h0), (5, .int (nI i))] → W p l e (headSpec (.code y_Mo_isBarred b_Mo_isBarred 6 (some .boolean) :: WS) ({ frames := 1, cells := 0, slots := 0, locals := 25 })).room s m #[.ref mo, .int x, .int y, .int w0, .int h0] below meth c H locs 0 0 (MQ below (va_Qi (fun r V' => r = bI (moBarr ρ n0 x y w0 h0) ∧ V' = V) (mB D N0) (hA N0)) #[.ref mo, .int x, .int y, .int w0, .int h0] s 0 0 (hA N0)) (F0 m 3 ls []) := by
    intro n
    induction n with
    | zero => intro i  H locs ls h1 h2; exact absurd h2 (by omega)
    | succ n ih =>
      intro i  H locs ls hi hin hI hV hS hl
      refine lv_iload hx hb d_Mo_isBarred_3 (lv_at hl 5 rfl) ?_
      refine lv_aload_n hx hb d_Mo_isBarred_5 rfl (lv_at hl 0 rfl) ?_
      refine gf_Mo_7 hx hb hW hown hG hV hm_1 d_Mo_isBarred_6 ?_
      refine lv_bipush (v := 6) hx hb d_Mo_isBarred_9 (by decide) ?_
      refine hv_iald hx hb hG.K hV 0 hm_1_0 rfl ((vp_in_nI (by omega) (by omega) : vp_in (nI 6) 8)) d_Mo_isBarred_11 ?_
      rw [show (6 : Int32).toNatClampNeg = 6 from rfl]
      rw [hn0]
      refine W.eq (g2 := F0 m 12 ls [.int (nI n0), .int (nI i)]) rfl ?_
      refine lv_icmp_ge (tgt := 56) hx hb d_Mo_isBarred_12 (by decide) (fun c_3 => ?_) (fun c_3 => ?_)
      · have hge : n0 ≤ i := nI_le' c_3 (by omega) (by omega)
        have hany : anyF (moBrP ρ x y w0 h0) 0 n0 = false := by rw [← hPb, hI, anyF_end hge]
        refine lv_aload_n hx hb d_Mo_isBarred_56 rfl (lv_at hl 0 rfl) ?_
        refine gf_Mo_38 hx hb hW hown hG hV hm_1 d_Mo_isBarred_57 ?_
        refine lv_istore (lv' := [(5, .int (ρ.s 4)), (0, .ref mo), (1, .int x), (2, .int y), (3, .int w0), (4, .int h0)]) hx hb d_Mo_isBarred_60 hl (by decide) rfl (fun ls hl => ?_)
        refine lv_iload hx hb d_Mo_isBarred_62 (lv_at hl 0 rfl) ?_
        refine lv_iconst (v := (-1)) hx hb d_Mo_isBarred_64 (by decide) ?_
        refine lv_icmp_eq (tgt := 125) hx hb d_Mo_isBarred_65 (by decide) (fun c_4 => ?_) (fun c_4 => ?_)
        · refine lv_iconst (v := 0) hx hb d_Mo_isBarred_125 (by decide) ?_
          try simp only [bI_ne0, bI_eq0] at c_3
          try simp only [bI_ne0, bI_eq0] at c_4
          exact W.zret (v := 0) hx hb hr rfl (fun t9 ht hW => ⟨⟨0, V, rfl, ⟨by rw [moBarr, hany]; simp [bI, c_4], rfl⟩, mB_of ht hV⟩, hS.F ht⟩) hS.2.2 d_Mo_isBarred_126
        · obtain ⟨jw, hjw, ejw⟩ := (show ρ.s 4 = -1 ∨ ∃ j, j < 10 ∧ ρ.s 4 = nI j from hwo).resolve_left c_4
          have ecl : (ρ.s 4).toNatClampNeg = jw := by rw [ejw, nI_clamp (by omega)]
          refine lv_iload_n hx hb d_Mo_isBarred_68 rfl (lv_at hl 2 rfl) ?_
          refine lv_aload_n hx hb d_Mo_isBarred_69 rfl (lv_at hl 1 rfl) ?_
          refine gf_Mo_45 hx hb hW hown hG hV hm_1 d_Mo_isBarred_70 ?_
          refine lv_iload hx hb d_Mo_isBarred_73 (lv_at hl 0 rfl) ?_
          refine hv_iald hx hb hG.K hV 0 hm_1_10 rfl (by rw [ejw]; exact vp_in_nI (by omega) (by omega)) d_Mo_isBarred_75 ?_
          rw [ecl]
          refine lv_icmp_lt (tgt := 121) hx hb d_Mo_isBarred_76 (by decide) (fun c_5 => ?_) (fun c_5 => ?_)
          · have c_5 := i_nle c_5
            refine lv_iconst (v := 1) hx hb d_Mo_isBarred_121 (by decide) ?_
            refine lv_goto (tgt := 126) hx hb d_Mo_isBarred_122 (by decide) ?_
            try simp only [bI_ne0, bI_eq0] at c_3
            try simp only [bI_ne0, bI_eq0] at c_4
            try simp only [bI_ne0, bI_eq0] at c_5
            exact W.zret (v := 1) hx hb hr rfl (fun t9 ht hW => ⟨⟨1, V, rfl, ⟨by rw [moBarr, hany, ecl]; first | (simp [bI, moIn, c_4, c_5]; done) | (simp_all [bI, moIn]; done), rfl⟩, mB_of ht hV⟩, hS.F ht⟩) hS.2.2 d_Mo_isBarred_126
          · have c_5 := i_le c_5
            refine lv_iload_n hx hb d_Mo_isBarred_79 rfl (lv_at hl 3 rfl) ?_
            refine lv_aload_n hx hb d_Mo_isBarred_80 rfl (lv_at hl 1 rfl) ?_
            refine gf_Mo_48 hx hb hW hown hG hV hm_1 d_Mo_isBarred_81 ?_
            refine lv_iload hx hb d_Mo_isBarred_84 (lv_at hl 0 rfl) ?_
            refine hv_iald hx hb hG.K hV 0 hm_1_11 rfl (by rw [ejw]; exact vp_in_nI (by omega) (by omega)) d_Mo_isBarred_86 ?_
            rw [ecl]
            refine lv_icmp_lt (tgt := 121) hx hb d_Mo_isBarred_87 (by decide) (fun c_6 => ?_) (fun c_6 => ?_)
            · have c_6 := i_nle c_6
              refine lv_iconst (v := 1) hx hb d_Mo_isBarred_121 (by decide) ?_
              refine lv_goto (tgt := 126) hx hb d_Mo_isBarred_122 (by decide) ?_
              try simp only [bI_ne0, bI_eq0] at c_3
              try simp only [bI_ne0, bI_eq0] at c_4
              try simp only [bI_ne0, bI_eq0] at c_5
              try simp only [bI_ne0, bI_eq0] at c_6
              exact W.zret (v := 1) hx hb hr rfl (fun t9 ht hW => ⟨⟨1, V, rfl, ⟨by rw [moBarr, hany, ecl]; first | (simp [bI, moIn, c_4, c_5, c_6]; done) | (simp_all [bI, moIn]; done), rfl⟩, mB_of ht hV⟩, hS.F ht⟩) hS.2.2 d_Mo_isBarred_126
            · have c_6 := i_le c_6
              refine lv_iload_n hx hb d_Mo_isBarred_90 rfl (lv_at hl 2 rfl) ?_
              refine lv_iload_n hx hb d_Mo_isBarred_91 rfl (lv_at hl 4 rfl) ?_
              refine lv_iadd hx hb d_Mo_isBarred_92 ?_
              refine lv_iconst (v := 1) hx hb d_Mo_isBarred_93 (by decide) ?_
              refine lv_isub hx hb d_Mo_isBarred_94 ?_
              refine lv_aload_n hx hb d_Mo_isBarred_95 rfl (lv_at hl 1 rfl) ?_
              refine gf_Mo_51 hx hb hW hown hG hV hm_1 d_Mo_isBarred_96 ?_
              refine lv_iload hx hb d_Mo_isBarred_99 (lv_at hl 0 rfl) ?_
              refine hv_iald hx hb hG.K hV 0 hm_1_12 rfl (by rw [ejw]; exact vp_in_nI (by omega) (by omega)) d_Mo_isBarred_101 ?_
              rw [ecl]
              refine lv_icmp_gt (tgt := 121) hx hb d_Mo_isBarred_102 (by decide) (fun c_7 => ?_) (fun c_7 => ?_)
              · have c_7 := i_nle c_7
                refine lv_iconst (v := 1) hx hb d_Mo_isBarred_121 (by decide) ?_
                refine lv_goto (tgt := 126) hx hb d_Mo_isBarred_122 (by decide) ?_
                try simp only [bI_ne0, bI_eq0] at c_3
                try simp only [bI_ne0, bI_eq0] at c_4
                try simp only [bI_ne0, bI_eq0] at c_5
                try simp only [bI_ne0, bI_eq0] at c_6
                try simp only [bI_ne0, bI_eq0] at c_7
                exact W.zret (v := 1) hx hb hr rfl (fun t9 ht hW => ⟨⟨1, V, rfl, ⟨by rw [moBarr, hany, ecl]; first | (simp [bI, moIn, c_4, c_5, c_6, c_7]; done) | (simp_all [bI, moIn]; done), rfl⟩, mB_of ht hV⟩, hS.F ht⟩) hS.2.2 d_Mo_isBarred_126
              · have c_7 := i_le c_7
                refine lv_iload_n hx hb d_Mo_isBarred_105 rfl (lv_at hl 3 rfl) ?_
                refine lv_iload hx hb d_Mo_isBarred_106 (lv_at hl 5 rfl) ?_
                refine lv_iadd hx hb d_Mo_isBarred_108 ?_
                refine lv_iconst (v := 1) hx hb d_Mo_isBarred_109 (by decide) ?_
                refine lv_isub hx hb d_Mo_isBarred_110 ?_
                refine lv_aload_n hx hb d_Mo_isBarred_111 rfl (lv_at hl 1 rfl) ?_
                refine gf_Mo_54 hx hb hW hown hG hV hm_1 d_Mo_isBarred_112 ?_
                refine lv_iload hx hb d_Mo_isBarred_115 (lv_at hl 0 rfl) ?_
                refine hv_iald hx hb hG.K hV 0 hm_1_13 rfl (by rw [ejw]; exact vp_in_nI (by omega) (by omega)) d_Mo_isBarred_117 ?_
                rw [ecl]
                refine lv_icmp_le (tgt := 125) hx hb d_Mo_isBarred_118 (by decide) (fun c_8 => ?_) (fun c_8 => ?_)
                · refine lv_iconst (v := 0) hx hb d_Mo_isBarred_125 (by decide) ?_
                  try simp only [bI_ne0, bI_eq0] at c_3
                  try simp only [bI_ne0, bI_eq0] at c_4
                  try simp only [bI_ne0, bI_eq0] at c_5
                  try simp only [bI_ne0, bI_eq0] at c_6
                  try simp only [bI_ne0, bI_eq0] at c_7
                  try simp only [bI_ne0, bI_eq0] at c_8
                  exact W.zret (v := 0) hx hb hr rfl (fun t9 ht hW => ⟨⟨0, V, rfl, ⟨by rw [moBarr, hany, ecl]; first | (simp [bI, moIn, c_4, c_5, c_6, c_7, c_8]; done) | (simp_all [bI, moIn]; done), rfl⟩, mB_of ht hV⟩, hS.F ht⟩) hS.2.2 d_Mo_isBarred_126
                · refine lv_iconst (v := 1) hx hb d_Mo_isBarred_121 (by decide) ?_
                  refine lv_goto (tgt := 126) hx hb d_Mo_isBarred_122 (by decide) ?_
                  try simp only [bI_ne0, bI_eq0] at c_3
                  try simp only [bI_ne0, bI_eq0] at c_4
                  try simp only [bI_ne0, bI_eq0] at c_5
                  try simp only [bI_ne0, bI_eq0] at c_6
                  try simp only [bI_ne0, bI_eq0] at c_7
                  try simp only [bI_ne0, bI_eq0] at c_8
                  exact W.zret (v := 1) hx hb hr rfl (fun t9 ht hW => ⟨⟨1, V, rfl, ⟨by rw [moBarr, hany, ecl]; first | (simp [bI, moIn, c_4, c_5, c_6, c_7, c_8]; done) | (simp_all [bI, moIn]; done), rfl⟩, mB_of ht hV⟩, hS.F ht⟩) hS.2.2 d_Mo_isBarred_126
      · have hlt : i < n0 := nI_nle' c_3 (by omega) (by omega)
        refine lv_aload_n hx hb d_Mo_isBarred_15 rfl (lv_at hl 0 rfl) ?_
        refine gf_Mo_42 hx hb hW hown hG hV hm_1 d_Mo_isBarred_16 ?_
        refine lv_iload hx hb d_Mo_isBarred_19 (lv_at hl 5 rfl) ?_
        refine hv_zald hx hb hG.K hV 2 hm_1_9 rfl (vp_in_nI (by omega) (by omega)) d_Mo_isBarred_21 ?_
        rw [nI_clamp (by omega)]
        refine lv_if_eq (tgt := 50) hx hb d_Mo_isBarred_22 (by decide) (fun c_9 => ?_) (fun c_9 => ?_)
        · obtain ⟨i_10, ei_10⟩ : ∃ y : Int32, y = (nI i) + 1 := ⟨_, rfl⟩
          refine lv_iinc (v := i_10) (lv' := [(5, .int i_10), (0, .ref mo), (1, .int x), (2, .int y), (3, .int w0), (4, .int h0)]) hx hb d_Mo_isBarred_50 hl (k := 5) rfl (by rw [ei_10]; rfl) (by decide) rfl (fun ls hl => ?_)
          refine lv_goto (tgt := 3) hx hb d_Mo_isBarred_53 (by decide) ?_
          rw [nI_1] at ei_10
          subst ei_10
          try simp only [bI_ne0, bI_eq0] at c_3
          try simp only [bI_ne0, bI_eq0] at c_9
          have hPi : Pb i = false := by subst hPb; first | (simp [moBrP, c_9]; done) | (simp_all [moBrP]; done)
          exact ih (i + 1)  _ _ _ (by omega) (by omega) (by rw [hI, anyF_step hlt, hPi, Bool.false_or]) hV hS (lv_sub hl [1, 2, 3, 4, 5, 0] rfl)
        · refine lv_iload hx hb d_Mo_isBarred_25 (lv_at hl 5 rfl) ?_
          refine lv_aload_n hx hb d_Mo_isBarred_27 rfl (lv_at hl 0 rfl) ?_
          refine gf_Mo_38 hx hb hW hown hG hV hm_1 d_Mo_isBarred_28 ?_
          refine lv_icmp_eq (tgt := 50) hx hb d_Mo_isBarred_31 (by decide) (fun c_11 => ?_) (fun c_11 => ?_)
          · obtain ⟨i_12, ei_12⟩ : ∃ y : Int32, y = (nI i) + 1 := ⟨_, rfl⟩
            refine lv_iinc (v := i_12) (lv' := [(5, .int i_12), (0, .ref mo), (1, .int x), (2, .int y), (3, .int w0), (4, .int h0)]) hx hb d_Mo_isBarred_50 hl (k := 5) rfl (by rw [ei_12]; rfl) (by decide) rfl (fun ls hl => ?_)
            refine lv_goto (tgt := 3) hx hb d_Mo_isBarred_53 (by decide) ?_
            rw [nI_1] at ei_12
            subst ei_12
            try simp only [bI_ne0, bI_eq0] at c_3
            try simp only [bI_ne0, bI_eq0] at c_9
            try simp only [bI_ne0, bI_eq0] at c_11
            have hPi : Pb i = false := by subst hPb; first | (simp [moBrP, c_9, c_11]; done) | (simp_all [moBrP]; done)
            exact ih (i + 1)  _ _ _ (by omega) (by omega) (by rw [hI, anyF_step hlt, hPi, Bool.false_or]) hV hS (lv_sub hl [1, 2, 3, 4, 5, 0] rfl)
          · refine lv_aload_n hx hb d_Mo_isBarred_34 rfl (lv_at hl 0 rfl) ?_
            refine lv_iload hx hb d_Mo_isBarred_35 (lv_at hl 5 rfl) ?_
            refine lv_iload_n hx hb d_Mo_isBarred_37 rfl (lv_at hl 1 rfl) ?_
            refine lv_iload_n hx hb d_Mo_isBarred_38 rfl (lv_at hl 2 rfl) ?_
            refine lv_iload_n hx hb d_Mo_isBarred_39 rfl (lv_at hl 3 rfl) ?_
            refine lv_iload hx hb d_Mo_isBarred_40 (lv_at hl 4 rfl) ?_
            refine rc_i (va_runV (As := [.int (nI i), .int x, .int y, .int w0, .int h0]) (rest := []) ⟨hx, hb, hml, hown, hts⟩ (c_Mo_meetsAct l D N0 k V mo ad ρ hM i (by omega) x y w0 h0) (cwV 5 hts (gi_V wm_Mo_118 wv_Mo_meetsAct ws_Mo_meetsAct wi_Mo wc_Mo_meetsAct) rfl rfl rfl (by decide +kernel) ⟨Nat.le_of_ble_eq_true rfl, Nat.le_of_ble_eq_true rfl⟩) (mP.preV hG hS hV hm_1 rfl) rfl rfl hl.1 rfl (lv_room (Nat.le_of_ble_eq_true rfl)) d_Mo_isBarred_42 ⟨Nat.le_of_ble_eq_true rfl, Nat.le_of_ble_eq_true rfl⟩) hS (fun H locs hV hS => ?_)
            refine W.eq (g2 := F0 m 45 ls [.int (bI (moMeet ρ.I i x y w0 h0))]) rfl ?_
            refine lv_if_eq (tgt := 50) hx hb d_Mo_isBarred_45 (by decide) (fun c_13 => ?_) (fun c_13 => ?_)
            · obtain ⟨i_14, ei_14⟩ : ∃ y : Int32, y = (nI i) + 1 := ⟨_, rfl⟩
              refine lv_iinc (v := i_14) (lv' := [(5, .int i_14), (0, .ref mo), (1, .int x), (2, .int y), (3, .int w0), (4, .int h0)]) hx hb d_Mo_isBarred_50 hl (k := 5) rfl (by rw [ei_14]; rfl) (by decide) rfl (fun ls hl => ?_)
              refine lv_goto (tgt := 3) hx hb d_Mo_isBarred_53 (by decide) ?_
              rw [nI_1] at ei_14
              subst ei_14
              try simp only [bI_ne0, bI_eq0] at c_3
              try simp only [bI_ne0, bI_eq0] at c_9
              try simp only [bI_ne0, bI_eq0] at c_11
              try simp only [bI_ne0, bI_eq0] at c_13
              have hPi : Pb i = false := by subst hPb; first | (simp [moBrP, c_9, c_11, c_13]; done) | (simp_all [moBrP]; done)
              exact ih (i + 1)  _ _ _ (by omega) (by omega) (by rw [hI, anyF_step hlt, hPi, Bool.false_or]) hV hS (lv_sub hl [1, 2, 3, 4, 5, 0] rfl)
            · refine lv_iconst (v := 1) hx hb d_Mo_isBarred_48 (by decide) ?_
              try simp only [bI_ne0, bI_eq0] at c_3
              try simp only [bI_ne0, bI_eq0] at c_9
              try simp only [bI_ne0, bI_eq0] at c_11
              try simp only [bI_ne0, bI_eq0] at c_13
              have hPi : Pb i = true := by subst hPb; first | (simp [moBrP, c_9, c_11, c_13]; done) | (simp_all [moBrP]; done)
              exact W.zret (v := 1) hx hb hr rfl (fun t9 ht hW => ⟨⟨1, V, rfl, ⟨by rw [moBarr, ← hPb, hI, anyF_step hlt, hPi]; rfl, rfl⟩, mB_of ht hV⟩, hS.F ht⟩) hS.2.2 d_Mo_isBarred_49
  exact loop_2 (n0 + 1 - 0) 0  _ _ _ (by omega) (by omega) rfl hV hS (lv_sub hl [1, 2, 3, 4, 5, 0] rfl)
set_option maxHeartbeats 4000000 in
set_option maxRecDepth 100000 in
/-- isThingBarred -/
theorem c_Mo_isThingBarred (l : Launch) (D : va_G) (N0 : Nat) (k : Nat → Nat) (V : HV) (mo : Nat) (ad : Nat → Nat) (ρ : MS) (hM : mdOk k V mo ad ρ) (t : Nat) (ht : t < 150) (n6 : Nat) (hn6 : n6 ≤ 10) (en6 : ρ.I 0 6 = nI n6) (hwo : moWo ρ) : Met l y_Mo_isThingBarred (.code y_Mo_isThingBarred b_Mo_isThingBarred 2 (some .boolean) :: WS) ({ frames := 2, cells := 0, slots := 0, locals := 50 }) (mP D N0 k [.ref mo, .int (nI t)] V) (va_Qi (fun r V' => r = bI (moBarr ρ n6 (ρ.I 2 t) (ρ.I 3 t) (ρ.I 4 t) (ρ.I 5 t)) ∧ V' = V) (mB D N0) (hA N0)) 0 0 (hA N0) := by
  refine Met.ofW (cc := b_Mo_isThingBarred) (maxL := 2) (ret := (some .boolean)) (by decide) rfl ?_
  intro p e s m args below meth c s₁ B hml hv0
  obtain ⟨rfl, hG, hV⟩ := hv0
  have hx := B.exec
  have hb := B.bytes
  have hr := B.returns
  have hts := atoms_spec (ws := .code y_Mo_isThingBarred b_Mo_isThingBarred 2 (some .boolean) :: WS) B.pre
  have hW : ∀ w ∈ WS, w.before _ s = true := fun w h => hts w (List.mem_cons_of_mem _ h)
  have hown : s.vm.findClass "BoardHouseModel" = some m.cls := findClass_of_methodNamed B.named
  have hlocks := B.notSynchronized
  have hS : va_S (hA N0) s.heap s.heap [] := va_S.rf
  have hl := lv_entry ([.ref mo, .int (nI t)]) (n := 2) (Nat.le_of_ble_eq_true rfl)
  rw [lg_entry_eq]
  generalize (lg_sl ([.ref mo, .int (nI t)]) ++ List.replicate (2 - (lg_sl ([.ref mo, .int (nI t)])).length) Slot.unset).toArray = ls at hl ⊢
  have hl : lv_has ls 2 [(0, .ref mo), (1, .int (nI t))] := hl
  have hm_1 : V mo = some (.inr (7, [.int (ρ.s 0), .int (ρ.s 1), .int (ρ.s 2), .int (ρ.s 3), .ref (ad 0), .ref (ad 1), .ref (ad 2), .ref (ad 3), .ref (ad 4), .ref (ad 5), .ref (ad 6), .ref (ad 7), .ref (ad 8), .int (ρ.s 4), .ref (ad 9), .ref (ad 10), .ref (ad 11), .ref (ad 12), .ref (ad 13), .ref (ad 14), .ref (ad 15), .ref (ad 16), .ref (ad 17), .ref (ad 18), .ref (ad 19), .ref (ad 20), .ref (ad 21), .ref (ad 22), .ref (ad 23), .ref (ad 24), .ref (ad 25)])) := hM.1
  have hm_1_2 : V (ad 2) = some (eI k 150 (ρ.I 2)) := hM.a2
  have hm_1_3 : V (ad 3) = some (eI k 150 (ρ.I 3)) := hM.a3
  have hm_1_4 : V (ad 4) = some (eI k 150 (ρ.I 4)) := hM.a4
  have hm_1_5 : V (ad 5) = some (eI k 150 (ρ.I 5)) := hM.a5
  refine lv_aload_n hx hb d_Mo_isThingBarred_0 rfl (lv_at hl 0 rfl) ?_
  refine lv_aload_n hx hb d_Mo_isThingBarred_1 rfl (lv_at hl 0 rfl) ?_
  refine gf_Mo_17 hx hb hW hown hG hV hm_1 d_Mo_isThingBarred_2 ?_
  refine lv_iload_n hx hb d_Mo_isThingBarred_5 rfl (lv_at hl 1 rfl) ?_
  refine hv_iald hx hb hG.K hV 0 hm_1_2 rfl (vp_in_nI (by omega) (by omega)) d_Mo_isThingBarred_6 ?_
  rw [nI_clamp (by omega)]
  refine lv_aload_n hx hb d_Mo_isThingBarred_7 rfl (lv_at hl 0 rfl) ?_
  refine gf_Mo_20 hx hb hW hown hG hV hm_1 d_Mo_isThingBarred_8 ?_
  refine lv_iload_n hx hb d_Mo_isThingBarred_11 rfl (lv_at hl 1 rfl) ?_
  refine hv_iald hx hb hG.K hV 0 hm_1_3 rfl (vp_in_nI (by omega) (by omega)) d_Mo_isThingBarred_12 ?_
  rw [nI_clamp (by omega)]
  refine lv_aload_n hx hb d_Mo_isThingBarred_13 rfl (lv_at hl 0 rfl) ?_
  refine gf_Mo_23 hx hb hW hown hG hV hm_1 d_Mo_isThingBarred_14 ?_
  refine lv_iload_n hx hb d_Mo_isThingBarred_17 rfl (lv_at hl 1 rfl) ?_
  refine hv_iald hx hb hG.K hV 0 hm_1_4 rfl (vp_in_nI (by omega) (by omega)) d_Mo_isThingBarred_18 ?_
  rw [nI_clamp (by omega)]
  refine lv_aload_n hx hb d_Mo_isThingBarred_19 rfl (lv_at hl 0 rfl) ?_
  refine gf_Mo_26 hx hb hW hown hG hV hm_1 d_Mo_isThingBarred_20 ?_
  refine lv_iload_n hx hb d_Mo_isThingBarred_23 rfl (lv_at hl 1 rfl) ?_
  refine hv_iald hx hb hG.K hV 0 hm_1_5 rfl (vp_in_nI (by omega) (by omega)) d_Mo_isThingBarred_24 ?_
  rw [nI_clamp (by omega)]
  refine rc_i (va_runV (As := [.int ((ρ.I 2) t), .int ((ρ.I 3) t), .int ((ρ.I 4) t), .int ((ρ.I 5) t)]) (rest := []) ⟨hx, hb, hml, hown, hts⟩ (c_Mo_isBarred l D N0 k V mo ad ρ hM ((ρ.I 2) t) ((ρ.I 3) t) ((ρ.I 4) t) ((ρ.I 5) t) n6 hn6 en6 hwo) (cwV 4 hts (gi_V wm_Mo_122 wv_Mo_isBarred ws_Mo_isBarred wi_Mo wc_Mo_isBarred) rfl rfl rfl (by decide +kernel) ⟨Nat.le_of_ble_eq_true rfl, Nat.le_of_ble_eq_true rfl⟩) (mP.preV hG hS hV hm_1 rfl) rfl rfl hl.1 rfl (lv_room (Nat.le_of_ble_eq_true rfl)) d_Mo_isThingBarred_25 ⟨Nat.le_of_ble_eq_true rfl, Nat.le_of_ble_eq_true rfl⟩) hS (fun H locs hV hS => ?_)
  refine W.eq (g2 := F0 m 28 ls [.int (bI (moBarr ρ n6 ((ρ.I 2) t) ((ρ.I 3) t) ((ρ.I 4) t) ((ρ.I 5) t)))]) rfl ?_
  exact W.zret (v := (bI (moBarr ρ n6 ((ρ.I 2) t) ((ρ.I 3) t) ((ρ.I 4) t) ((ρ.I 5) t)))) hx hb hr (bI_nar _) (fun t9 ht hW => ⟨⟨(bI (moBarr ρ n6 ((ρ.I 2) t) ((ρ.I 3) t) ((ρ.I 4) t) ((ρ.I 5) t))), V, rfl, ⟨rfl, rfl⟩, mB_of ht hV⟩, hS.F ht⟩) hS.2.2 d_Mo_isThingBarred_28
set_option maxHeartbeats 4000000 in
set_option maxRecDepth 100000 in
/-- isCopper -/
theorem c_Mo_isCopper (l : Launch) (D : va_G) (N0 : Nat) (k : Nat → Nat) (V : HV) (mo : Nat) (ad : Nat → Nat) (ρ : MS) (hM : mdOk k V mo ad ρ) (t : Nat) (ht : t < 150) : Met l y_Mo_isCopper (.code y_Mo_isCopper b_Mo_isCopper 2 (some .boolean) :: WS) ({ frames := 1, cells := 0, slots := 0, locals := 20 }) (mP D N0 k [.ref mo, .int (nI t)] V) (va_Qi (fun r V' => r = bI (moCop ρ.I t) ∧ V' = V) (mB D N0) (hA N0)) 0 0 (hA N0) := by
  refine Met.ofW (cc := b_Mo_isCopper) (maxL := 2) (ret := (some .boolean)) (by decide) rfl ?_
  intro p e s m args below meth c s₁ B hml hv0
  obtain ⟨rfl, hG, hV⟩ := hv0
  have hx := B.exec
  have hb := B.bytes
  have hr := B.returns
  have hts := atoms_spec (ws := .code y_Mo_isCopper b_Mo_isCopper 2 (some .boolean) :: WS) B.pre
  have hW : ∀ w ∈ WS, w.before _ s = true := fun w h => hts w (List.mem_cons_of_mem _ h)
  have hown : s.vm.findClass "BoardHouseModel" = some m.cls := findClass_of_methodNamed B.named
  have hlocks := B.notSynchronized
  have hS : va_S (hA N0) s.heap s.heap [] := va_S.rf
  have hl := lv_entry ([.ref mo, .int (nI t)]) (n := 2) (Nat.le_of_ble_eq_true rfl)
  rw [lg_entry_eq]
  generalize (lg_sl ([.ref mo, .int (nI t)]) ++ List.replicate (2 - (lg_sl ([.ref mo, .int (nI t)])).length) Slot.unset).toArray = ls at hl ⊢
  have hl : lv_has ls 2 [(0, .ref mo), (1, .int (nI t))] := hl
  have hm_1 : V mo = some (.inr (7, [.int (ρ.s 0), .int (ρ.s 1), .int (ρ.s 2), .int (ρ.s 3), .ref (ad 0), .ref (ad 1), .ref (ad 2), .ref (ad 3), .ref (ad 4), .ref (ad 5), .ref (ad 6), .ref (ad 7), .ref (ad 8), .int (ρ.s 4), .ref (ad 9), .ref (ad 10), .ref (ad 11), .ref (ad 12), .ref (ad 13), .ref (ad 14), .ref (ad 15), .ref (ad 16), .ref (ad 17), .ref (ad 18), .ref (ad 19), .ref (ad 20), .ref (ad 21), .ref (ad 22), .ref (ad 23), .ref (ad 24), .ref (ad 25)])) := hM.1
  have hm_1_1 : V (ad 1) = some (eZ k 150 (ρ.I 1)) := hM.a1
  refine lv_aload_n hx hb d_Mo_isCopper_0 rfl (lv_at hl 0 rfl) ?_
  refine gf_Mo_13 hx hb hW hown hG hV hm_1 d_Mo_isCopper_1 ?_
  refine lv_iload_n hx hb d_Mo_isCopper_4 rfl (lv_at hl 1 rfl) ?_
  refine hv_zald hx hb hG.K hV 2 hm_1_1 rfl (vp_in_nI (by omega) (by omega)) d_Mo_isCopper_5 ?_
  rw [nI_clamp (by omega)]
  refine lv_if_eq (tgt := 29) hx hb d_Mo_isCopper_6 (by decide) (fun c_2 => ?_) (fun c_2 => ?_)
  · refine lv_iconst (v := 0) hx hb d_Mo_isCopper_29 (by decide) ?_
    try simp only [bI_ne0, bI_eq0] at c_2
    exact W.zret (v := 0) hx hb hr rfl (fun t9 ht hW => ⟨⟨0, V, rfl, ⟨by first | (simp [bI, moCop, c_2]; done) | (simp_all [bI, moCop]; done), rfl⟩, mB_of ht hV⟩, hS.F ht⟩) hS.2.2 d_Mo_isCopper_30
  · refine lv_iload_n hx hb d_Mo_isCopper_9 rfl (lv_at hl 1 rfl) ?_
    refine rc_i (va_runS (As := [.int (nI t)]) (rest := []) ⟨hx, hb, hml, hown, hts⟩ (c_Mo_kindOf l D N0 k V (nI t)) (va_cwS 1 hts (gi_S wm_Mo_103 wt_Mo_kindOf wi_Mo wc_Mo_kindOf) rfl rfl rfl (by decide +kernel) ⟨Nat.le_of_ble_eq_true rfl, Nat.le_of_ble_eq_true rfl⟩) (mP.preS hG hS hV) rfl rfl hl.1 rfl (lv_room (Nat.le_of_ble_eq_true rfl)) d_Mo_isCopper_10 ⟨Nat.le_of_ble_eq_true rfl, Nat.le_of_ble_eq_true rfl⟩) hS (fun H locs hV hS => ?_)
    refine lv_iconst (v := 3) hx hb d_Mo_isCopper_13 (by decide) ?_
    refine lv_icmp_eq (tgt := 25) hx hb d_Mo_isCopper_14 (by decide) (fun c_3 => ?_) (fun c_3 => ?_)
    · refine lv_iconst (v := 1) hx hb d_Mo_isCopper_25 (by decide) ?_
      refine lv_goto (tgt := 30) hx hb d_Mo_isCopper_26 (by decide) ?_
      try simp only [bI_ne0, bI_eq0] at c_2
      try simp only [bI_ne0, bI_eq0] at c_3
      exact W.zret (v := 1) hx hb hr rfl (fun t9 ht hW => ⟨⟨1, V, rfl, ⟨by first | (simp [bI, moCop, c_2, c_3]; done) | (simp_all [bI, moCop]; done), rfl⟩, mB_of ht hV⟩, hS.F ht⟩) hS.2.2 d_Mo_isCopper_30
    · refine lv_iload_n hx hb d_Mo_isCopper_17 rfl (lv_at hl 1 rfl) ?_
      refine rc_i (va_runS (As := [.int (nI t)]) (rest := []) ⟨hx, hb, hml, hown, hts⟩ (c_Mo_kindOf l D N0 k V (nI t)) (va_cwS 1 hts (gi_S wm_Mo_103 wt_Mo_kindOf wi_Mo wc_Mo_kindOf) rfl rfl rfl (by decide +kernel) ⟨Nat.le_of_ble_eq_true rfl, Nat.le_of_ble_eq_true rfl⟩) (mP.preS hG hS hV) rfl rfl hl.1 rfl (lv_room (Nat.le_of_ble_eq_true rfl)) d_Mo_isCopper_18 ⟨Nat.le_of_ble_eq_true rfl, Nat.le_of_ble_eq_true rfl⟩) hS (fun H locs hV hS => ?_)
      refine lv_iconst (v := 4) hx hb d_Mo_isCopper_21 (by decide) ?_
      refine lv_icmp_ne (tgt := 29) hx hb d_Mo_isCopper_22 (by decide) (fun c_4 => ?_) (fun c_4 => ?_)
      · refine lv_iconst (v := 0) hx hb d_Mo_isCopper_29 (by decide) ?_
        try simp only [bI_ne0, bI_eq0] at c_2
        try simp only [bI_ne0, bI_eq0] at c_3
        try simp only [bI_ne0, bI_eq0] at c_4
        exact W.zret (v := 0) hx hb hr rfl (fun t9 ht hW => ⟨⟨0, V, rfl, ⟨by first | (simp [bI, moCop, c_2, c_3, c_4]; done) | (simp_all [bI, moCop]; done), rfl⟩, mB_of ht hV⟩, hS.F ht⟩) hS.2.2 d_Mo_isCopper_30
      · refine lv_iconst (v := 1) hx hb d_Mo_isCopper_25 (by decide) ?_
        refine lv_goto (tgt := 30) hx hb d_Mo_isCopper_26 (by decide) ?_
        try simp only [bI_ne0, bI_eq0] at c_2
        try simp only [bI_ne0, bI_eq0] at c_3
        try simp only [bI_ne0, bI_eq0] at c_4
        exact W.zret (v := 1) hx hb hr rfl (fun t9 ht hW => ⟨⟨1, V, rfl, ⟨by first | (simp [bI, moCop, c_2, c_3, c_4]; done) | (simp_all [bI, moCop]; done), rfl⟩, mB_of ht hV⟩, hS.F ht⟩) hS.2.2 d_Mo_isCopper_30
set_option maxHeartbeats 4000000 in
set_option maxRecDepth 100000 in
/-- shareLayer -/
theorem c_Mo_shareLayer (l : Launch) (D : va_G) (N0 : Nat) (k : Nat → Nat) (V : HV) (mo : Nat) (ad : Nat → Nat) (ρ : MS) (hM : mdOk k V mo ad ρ) (t u : Nat) (ht : t < 150) (hu0 : u < 150) : Met l y_Mo_shareLayer (.code y_Mo_shareLayer b_Mo_shareLayer 3 (some .boolean) :: WS) ({ frames := 1, cells := 0, slots := 0, locals := 20 }) (mP D N0 k [.ref mo, .int (nI t), .int (nI u)] V) (va_Qi (fun r V' => r = bI (moShare ρ.I t u) ∧ V' = V) (mB D N0) (hA N0)) 0 0 (hA N0) := by
  refine Met.ofW (cc := b_Mo_shareLayer) (maxL := 3) (ret := (some .boolean)) (by decide) rfl ?_
  intro p e s m args below meth c s₁ B hml hv0
  obtain ⟨rfl, hG, hV⟩ := hv0
  have hx := B.exec
  have hb := B.bytes
  have hr := B.returns
  have hts := atoms_spec (ws := .code y_Mo_shareLayer b_Mo_shareLayer 3 (some .boolean) :: WS) B.pre
  have hW : ∀ w ∈ WS, w.before _ s = true := fun w h => hts w (List.mem_cons_of_mem _ h)
  have hown : s.vm.findClass "BoardHouseModel" = some m.cls := findClass_of_methodNamed B.named
  have hlocks := B.notSynchronized
  have hS : va_S (hA N0) s.heap s.heap [] := va_S.rf
  have hl := lv_entry ([.ref mo, .int (nI t), .int (nI u)]) (n := 3) (Nat.le_of_ble_eq_true rfl)
  rw [lg_entry_eq]
  generalize (lg_sl ([.ref mo, .int (nI t), .int (nI u)]) ++ List.replicate (3 - (lg_sl ([.ref mo, .int (nI t), .int (nI u)])).length) Slot.unset).toArray = ls at hl ⊢
  have hl : lv_has ls 3 [(0, .ref mo), (1, .int (nI t)), (2, .int (nI u))] := hl
  have hm_1 : V mo = some (.inr (7, [.int (ρ.s 0), .int (ρ.s 1), .int (ρ.s 2), .int (ρ.s 3), .ref (ad 0), .ref (ad 1), .ref (ad 2), .ref (ad 3), .ref (ad 4), .ref (ad 5), .ref (ad 6), .ref (ad 7), .ref (ad 8), .int (ρ.s 4), .ref (ad 9), .ref (ad 10), .ref (ad 11), .ref (ad 12), .ref (ad 13), .ref (ad 14), .ref (ad 15), .ref (ad 16), .ref (ad 17), .ref (ad 18), .ref (ad 19), .ref (ad 20), .ref (ad 21), .ref (ad 22), .ref (ad 23), .ref (ad 24), .ref (ad 25)])) := hM.1
  have hm_1_6 : V (ad 6) = some (eI k 150 (ρ.I 6)) := hM.a6
  refine lv_iload_n hx hb d_Mo_shareLayer_0 rfl (lv_at hl 1 rfl) ?_
  refine rc_i (va_runS (As := [.int (nI t)]) (rest := []) ⟨hx, hb, hml, hown, hts⟩ (c_Mo_kindOf l D N0 k V (nI t)) (va_cwS 1 hts (gi_S wm_Mo_103 wt_Mo_kindOf wi_Mo wc_Mo_kindOf) rfl rfl rfl (by decide +kernel) ⟨Nat.le_of_ble_eq_true rfl, Nat.le_of_ble_eq_true rfl⟩) (mP.preS hG hS hV) rfl rfl hl.1 rfl (lv_room (Nat.le_of_ble_eq_true rfl)) d_Mo_shareLayer_1 ⟨Nat.le_of_ble_eq_true rfl, Nat.le_of_ble_eq_true rfl⟩) hS (fun H locs hV hS => ?_)
  refine lv_iconst (v := 3) hx hb d_Mo_shareLayer_4 (by decide) ?_
  refine lv_icmp_eq (tgt := 31) hx hb d_Mo_shareLayer_5 (by decide) (fun c_2 => ?_) (fun c_2 => ?_)
  · refine lv_iconst (v := 1) hx hb d_Mo_shareLayer_31 (by decide) ?_
    refine lv_goto (tgt := 36) hx hb d_Mo_shareLayer_32 (by decide) ?_
    try simp only [bI_ne0, bI_eq0] at c_2
    exact W.zret (v := 1) hx hb hr rfl (fun t9 ht hW => ⟨⟨1, V, rfl, ⟨by first | (simp [bI, moShare, c_2]; done) | (simp_all [bI, moShare]; done), rfl⟩, mB_of ht hV⟩, hS.F ht⟩) hS.2.2 d_Mo_shareLayer_36
  · refine lv_iload_n hx hb d_Mo_shareLayer_8 rfl (lv_at hl 2 rfl) ?_
    refine rc_i (va_runS (As := [.int (nI u)]) (rest := []) ⟨hx, hb, hml, hown, hts⟩ (c_Mo_kindOf l D N0 k V (nI u)) (va_cwS 1 hts (gi_S wm_Mo_103 wt_Mo_kindOf wi_Mo wc_Mo_kindOf) rfl rfl rfl (by decide +kernel) ⟨Nat.le_of_ble_eq_true rfl, Nat.le_of_ble_eq_true rfl⟩) (mP.preS hG hS hV) rfl rfl hl.1 rfl (lv_room (Nat.le_of_ble_eq_true rfl)) d_Mo_shareLayer_9 ⟨Nat.le_of_ble_eq_true rfl, Nat.le_of_ble_eq_true rfl⟩) hS (fun H locs hV hS => ?_)
    refine lv_iconst (v := 3) hx hb d_Mo_shareLayer_12 (by decide) ?_
    refine lv_icmp_eq (tgt := 31) hx hb d_Mo_shareLayer_13 (by decide) (fun c_3 => ?_) (fun c_3 => ?_)
    · refine lv_iconst (v := 1) hx hb d_Mo_shareLayer_31 (by decide) ?_
      refine lv_goto (tgt := 36) hx hb d_Mo_shareLayer_32 (by decide) ?_
      try simp only [bI_ne0, bI_eq0] at c_2
      try simp only [bI_ne0, bI_eq0] at c_3
      exact W.zret (v := 1) hx hb hr rfl (fun t9 ht hW => ⟨⟨1, V, rfl, ⟨by first | (simp [bI, moShare, c_2, c_3]; done) | (simp_all [bI, moShare]; done), rfl⟩, mB_of ht hV⟩, hS.F ht⟩) hS.2.2 d_Mo_shareLayer_36
    · refine lv_aload_n hx hb d_Mo_shareLayer_16 rfl (lv_at hl 0 rfl) ?_
      refine gf_Mo_29 hx hb hW hown hG hV hm_1 d_Mo_shareLayer_17 ?_
      refine lv_iload_n hx hb d_Mo_shareLayer_20 rfl (lv_at hl 1 rfl) ?_
      refine hv_iald hx hb hG.K hV 0 hm_1_6 rfl (vp_in_nI (by omega) (by omega)) d_Mo_shareLayer_21 ?_
      rw [nI_clamp (by omega)]
      refine lv_aload_n hx hb d_Mo_shareLayer_22 rfl (lv_at hl 0 rfl) ?_
      refine gf_Mo_29 hx hb hW hown hG hV hm_1 d_Mo_shareLayer_23 ?_
      refine lv_iload_n hx hb d_Mo_shareLayer_26 rfl (lv_at hl 2 rfl) ?_
      refine hv_iald hx hb hG.K hV 0 hm_1_6 rfl (vp_in_nI (by omega) (by omega)) d_Mo_shareLayer_27 ?_
      rw [nI_clamp (by omega)]
      refine lv_icmp_ne (tgt := 35) hx hb d_Mo_shareLayer_28 (by decide) (fun c_4 => ?_) (fun c_4 => ?_)
      · refine lv_iconst (v := 0) hx hb d_Mo_shareLayer_35 (by decide) ?_
        try simp only [bI_ne0, bI_eq0] at c_2
        try simp only [bI_ne0, bI_eq0] at c_3
        try simp only [bI_ne0, bI_eq0] at c_4
        exact W.zret (v := 0) hx hb hr rfl (fun t9 ht hW => ⟨⟨0, V, rfl, ⟨by first | (simp [bI, moShare, c_2, c_3, c_4]; done) | (simp_all [bI, moShare]; done), rfl⟩, mB_of ht hV⟩, hS.F ht⟩) hS.2.2 d_Mo_shareLayer_36
      · refine lv_iconst (v := 1) hx hb d_Mo_shareLayer_31 (by decide) ?_
        refine lv_goto (tgt := 36) hx hb d_Mo_shareLayer_32 (by decide) ?_
        try simp only [bI_ne0, bI_eq0] at c_2
        try simp only [bI_ne0, bI_eq0] at c_3
        try simp only [bI_ne0, bI_eq0] at c_4
        exact W.zret (v := 1) hx hb hr rfl (fun t9 ht hW => ⟨⟨1, V, rfl, ⟨by first | (simp [bI, moShare, c_2, c_3, c_4]; done) | (simp_all [bI, moShare]; done), rfl⟩, mB_of ht hV⟩, hS.F ht⟩) hS.2.2 d_Mo_shareLayer_36
set_option maxHeartbeats 4000000 in
set_option maxRecDepth 100000 in
/-- clash -/
theorem c_Mo_clash (l : Launch) (D : va_G) (N0 : Nat) (k : Nat → Nat) (V : HV) (mo : Nat) (ad : Nat → Nat) (ρ : MS) (hM : mdOk k V mo ad ρ) (t u : Nat) (ht : t < 150) (hu0 : u < 150) (dx dy : Int32) : Met l y_Mo_clash (.code y_Mo_clash b_Mo_clash 5 (some .boolean) :: WS) ({ frames := 2, cells := 0, slots := 0, locals := 42 }) (mP D N0 k [.ref mo, .int (nI t), .int dx, .int dy, .int (nI u)] V) (va_Qi (fun r V' => r = bI (moClash ρ t dx dy u) ∧ V' = V) (mB D N0) (hA N0)) 0 0 (hA N0) := by
  refine Met.ofW (cc := b_Mo_clash) (maxL := 5) (ret := (some .boolean)) (by decide) rfl ?_
  intro p e s m args below meth c s₁ B hml hv0
  obtain ⟨rfl, hG, hV⟩ := hv0
  have hx := B.exec
  have hb := B.bytes
  have hr := B.returns
  have hts := atoms_spec (ws := .code y_Mo_clash b_Mo_clash 5 (some .boolean) :: WS) B.pre
  have hW : ∀ w ∈ WS, w.before _ s = true := fun w h => hts w (List.mem_cons_of_mem _ h)
  have hown : s.vm.findClass "BoardHouseModel" = some m.cls := findClass_of_methodNamed B.named
  have hlocks := B.notSynchronized
  have hS : va_S (hA N0) s.heap s.heap [] := va_S.rf
  have hl := lv_entry ([.ref mo, .int (nI t), .int dx, .int dy, .int (nI u)]) (n := 5) (Nat.le_of_ble_eq_true rfl)
  rw [lg_entry_eq]
  generalize (lg_sl ([.ref mo, .int (nI t), .int dx, .int dy, .int (nI u)]) ++ List.replicate (5 - (lg_sl ([.ref mo, .int (nI t), .int dx, .int dy, .int (nI u)])).length) Slot.unset).toArray = ls at hl ⊢
  have hl : lv_has ls 5 [(0, .ref mo), (1, .int (nI t)), (2, .int dx), (3, .int dy), (4, .int (nI u))] := hl
  have hm_1 : V mo = some (.inr (7, [.int (ρ.s 0), .int (ρ.s 1), .int (ρ.s 2), .int (ρ.s 3), .ref (ad 0), .ref (ad 1), .ref (ad 2), .ref (ad 3), .ref (ad 4), .ref (ad 5), .ref (ad 6), .ref (ad 7), .ref (ad 8), .int (ρ.s 4), .ref (ad 9), .ref (ad 10), .ref (ad 11), .ref (ad 12), .ref (ad 13), .ref (ad 14), .ref (ad 15), .ref (ad 16), .ref (ad 17), .ref (ad 18), .ref (ad 19), .ref (ad 20), .ref (ad 21), .ref (ad 22), .ref (ad 23), .ref (ad 24), .ref (ad 25)])) := hM.1
  have hm_1_2 : V (ad 2) = some (eI k 150 (ρ.I 2)) := hM.a2
  have hm_1_3 : V (ad 3) = some (eI k 150 (ρ.I 3)) := hM.a3
  have hm_1_4 : V (ad 4) = some (eI k 150 (ρ.I 4)) := hM.a4
  have hm_1_5 : V (ad 5) = some (eI k 150 (ρ.I 5)) := hM.a5
  have hm_1_7 : V (ad 7) = some (eI k 150 (ρ.I 7)) := hM.a7
  refine lv_aload_n hx hb d_Mo_clash_0 rfl (lv_at hl 0 rfl) ?_
  refine gf_Mo_32 hx hb hW hown hG hV hm_1 d_Mo_clash_1 ?_
  refine lv_iload_n hx hb d_Mo_clash_4 rfl (lv_at hl 1 rfl) ?_
  refine hv_iald hx hb hG.K hV 0 hm_1_7 rfl (vp_in_nI (by omega) (by omega)) d_Mo_clash_5 ?_
  rw [nI_clamp (by omega)]
  refine lv_aload_n hx hb d_Mo_clash_6 rfl (lv_at hl 0 rfl) ?_
  refine gf_Mo_32 hx hb hW hown hG hV hm_1 d_Mo_clash_7 ?_
  refine lv_iload hx hb d_Mo_clash_10 (lv_at hl 4 rfl) ?_
  refine hv_iald hx hb hG.K hV 0 hm_1_7 rfl (vp_in_nI (by omega) (by omega)) d_Mo_clash_12 ?_
  rw [nI_clamp (by omega)]
  refine lv_icmp_eq (tgt := 26) hx hb d_Mo_clash_13 (by decide) (fun c_2 => ?_) (fun c_2 => ?_)
  · refine lv_iconst (v := 0) hx hb d_Mo_clash_26 (by decide) ?_
    try simp only [bI_ne0, bI_eq0] at c_2
    exact W.zret (v := 0) hx hb hr rfl (fun t9 ht hW => ⟨⟨0, V, rfl, ⟨by first | (simp [bI, moClash, c_2]; done) | (simp_all [bI, moClash]; done), rfl⟩, mB_of ht hV⟩, hS.F ht⟩) hS.2.2 d_Mo_clash_27
  · refine lv_aload_n hx hb d_Mo_clash_16 rfl (lv_at hl 0 rfl) ?_
    refine lv_iload_n hx hb d_Mo_clash_17 rfl (lv_at hl 1 rfl) ?_
    refine lv_iload hx hb d_Mo_clash_18 (lv_at hl 4 rfl) ?_
    refine rc_i (va_runV (As := [.int (nI t), .int (nI u)]) (rest := []) ⟨hx, hb, hml, hown, hts⟩ (c_Mo_shareLayer l D N0 k V mo ad ρ hM t u (by omega) (by omega)) (cwV 2 hts (gi_V wm_Mo_126 wv_Mo_shareLayer ws_Mo_shareLayer wi_Mo wc_Mo_shareLayer) rfl rfl rfl (by decide +kernel) ⟨Nat.le_of_ble_eq_true rfl, Nat.le_of_ble_eq_true rfl⟩) (mP.preV hG hS hV hm_1 rfl) rfl rfl hl.1 rfl (lv_room (Nat.le_of_ble_eq_true rfl)) d_Mo_clash_20 ⟨Nat.le_of_ble_eq_true rfl, Nat.le_of_ble_eq_true rfl⟩) hS (fun H locs hV hS => ?_)
    refine W.eq (g2 := F0 m 23 ls [.int (bI (moShare ρ.I t u))]) rfl ?_
    refine lv_if_ne (tgt := 28) hx hb d_Mo_clash_23 (by decide) (fun c_3 => ?_) (fun c_3 => ?_)
    · refine lv_aload_n hx hb d_Mo_clash_28 rfl (lv_at hl 0 rfl) ?_
      refine gf_Mo_17 hx hb hW hown hG hV hm_1 d_Mo_clash_29 ?_
      refine lv_iload_n hx hb d_Mo_clash_32 rfl (lv_at hl 1 rfl) ?_
      refine hv_iald hx hb hG.K hV 0 hm_1_2 rfl (vp_in_nI (by omega) (by omega)) d_Mo_clash_33 ?_
      rw [nI_clamp (by omega)]
      refine lv_iload_n hx hb d_Mo_clash_34 rfl (lv_at hl 2 rfl) ?_
      refine lv_iadd hx hb d_Mo_clash_35 ?_
      refine lv_aload_n hx hb d_Mo_clash_36 rfl (lv_at hl 0 rfl) ?_
      refine gf_Mo_23 hx hb hW hown hG hV hm_1 d_Mo_clash_37 ?_
      refine lv_iload_n hx hb d_Mo_clash_40 rfl (lv_at hl 1 rfl) ?_
      refine hv_iald hx hb hG.K hV 0 hm_1_4 rfl (vp_in_nI (by omega) (by omega)) d_Mo_clash_41 ?_
      rw [nI_clamp (by omega)]
      refine lv_aload_n hx hb d_Mo_clash_42 rfl (lv_at hl 0 rfl) ?_
      refine gf_Mo_17 hx hb hW hown hG hV hm_1 d_Mo_clash_43 ?_
      refine lv_iload hx hb d_Mo_clash_46 (lv_at hl 4 rfl) ?_
      refine hv_iald hx hb hG.K hV 0 hm_1_2 rfl (vp_in_nI (by omega) (by omega)) d_Mo_clash_48 ?_
      rw [nI_clamp (by omega)]
      refine lv_aload_n hx hb d_Mo_clash_49 rfl (lv_at hl 0 rfl) ?_
      refine gf_Mo_23 hx hb hW hown hG hV hm_1 d_Mo_clash_50 ?_
      refine lv_iload hx hb d_Mo_clash_53 (lv_at hl 4 rfl) ?_
      refine hv_iald hx hb hG.K hV 0 hm_1_4 rfl (vp_in_nI (by omega) (by omega)) d_Mo_clash_55 ?_
      rw [nI_clamp (by omega)]
      refine rc_i (va_runS (As := [.int (((ρ.I 2) t) + dx), .int ((ρ.I 4) t), .int ((ρ.I 2) u), .int ((ρ.I 4) u)]) (rest := []) ⟨hx, hb, hml, hown, hts⟩ (c_Mo_apart l D N0 k V (((ρ.I 2) t) + dx) ((ρ.I 4) t) ((ρ.I 2) u) ((ρ.I 4) u)) (va_cwS 4 hts (gi_S wm_Mo_129 wt_Mo_apart wi_Mo wc_Mo_apart) rfl rfl rfl (by decide +kernel) ⟨Nat.le_of_ble_eq_true rfl, Nat.le_of_ble_eq_true rfl⟩) (mP.preS hG hS hV) rfl rfl hl.1 rfl (lv_room (Nat.le_of_ble_eq_true rfl)) d_Mo_clash_56 ⟨Nat.le_of_ble_eq_true rfl, Nat.le_of_ble_eq_true rfl⟩) hS (fun H locs hV hS => ?_)
      refine lv_aload_n hx hb d_Mo_clash_59 rfl (lv_at hl 0 rfl) ?_
      refine gf_Mo_97 hx hb hW hown hG hV hm_1 d_Mo_clash_60 ?_
      refine lv_icmp_gt (tgt := 108) hx hb d_Mo_clash_63 (by decide) (fun c_4 => ?_) (fun c_4 => ?_)
      · have c_4 := i_nle c_4
        refine lv_iconst (v := 0) hx hb d_Mo_clash_108 (by decide) ?_
        try simp only [bI_ne0, bI_eq0] at c_2
        try simp only [bI_ne0, bI_eq0] at c_3
        try simp only [bI_ne0, bI_eq0] at c_4
        exact W.zret (v := 0) hx hb hr rfl (fun t9 ht hW => ⟨⟨0, V, rfl, ⟨by first | (simp [bI, moClash, c_2, c_3, c_4]; done) | (simp_all [bI, moClash]; done), rfl⟩, mB_of ht hV⟩, hS.F ht⟩) hS.2.2 d_Mo_clash_109
      · have c_4 := i_le c_4
        refine lv_aload_n hx hb d_Mo_clash_66 rfl (lv_at hl 0 rfl) ?_
        refine gf_Mo_20 hx hb hW hown hG hV hm_1 d_Mo_clash_67 ?_
        refine lv_iload_n hx hb d_Mo_clash_70 rfl (lv_at hl 1 rfl) ?_
        refine hv_iald hx hb hG.K hV 0 hm_1_3 rfl (vp_in_nI (by omega) (by omega)) d_Mo_clash_71 ?_
        rw [nI_clamp (by omega)]
        refine lv_iload_n hx hb d_Mo_clash_72 rfl (lv_at hl 3 rfl) ?_
        refine lv_iadd hx hb d_Mo_clash_73 ?_
        refine lv_aload_n hx hb d_Mo_clash_74 rfl (lv_at hl 0 rfl) ?_
        refine gf_Mo_26 hx hb hW hown hG hV hm_1 d_Mo_clash_75 ?_
        refine lv_iload_n hx hb d_Mo_clash_78 rfl (lv_at hl 1 rfl) ?_
        refine hv_iald hx hb hG.K hV 0 hm_1_5 rfl (vp_in_nI (by omega) (by omega)) d_Mo_clash_79 ?_
        rw [nI_clamp (by omega)]
        refine lv_aload_n hx hb d_Mo_clash_80 rfl (lv_at hl 0 rfl) ?_
        refine gf_Mo_20 hx hb hW hown hG hV hm_1 d_Mo_clash_81 ?_
        refine lv_iload hx hb d_Mo_clash_84 (lv_at hl 4 rfl) ?_
        refine hv_iald hx hb hG.K hV 0 hm_1_3 rfl (vp_in_nI (by omega) (by omega)) d_Mo_clash_86 ?_
        rw [nI_clamp (by omega)]
        refine lv_aload_n hx hb d_Mo_clash_87 rfl (lv_at hl 0 rfl) ?_
        refine gf_Mo_26 hx hb hW hown hG hV hm_1 d_Mo_clash_88 ?_
        refine lv_iload hx hb d_Mo_clash_91 (lv_at hl 4 rfl) ?_
        refine hv_iald hx hb hG.K hV 0 hm_1_5 rfl (vp_in_nI (by omega) (by omega)) d_Mo_clash_93 ?_
        rw [nI_clamp (by omega)]
        refine rc_i (va_runS (As := [.int (((ρ.I 3) t) + dy), .int ((ρ.I 5) t), .int ((ρ.I 3) u), .int ((ρ.I 5) u)]) (rest := []) ⟨hx, hb, hml, hown, hts⟩ (c_Mo_apart l D N0 k V (((ρ.I 3) t) + dy) ((ρ.I 5) t) ((ρ.I 3) u) ((ρ.I 5) u)) (va_cwS 4 hts (gi_S wm_Mo_129 wt_Mo_apart wi_Mo wc_Mo_apart) rfl rfl rfl (by decide +kernel) ⟨Nat.le_of_ble_eq_true rfl, Nat.le_of_ble_eq_true rfl⟩) (mP.preS hG hS hV) rfl rfl hl.1 rfl (lv_room (Nat.le_of_ble_eq_true rfl)) d_Mo_clash_94 ⟨Nat.le_of_ble_eq_true rfl, Nat.le_of_ble_eq_true rfl⟩) hS (fun H locs hV hS => ?_)
        refine lv_aload_n hx hb d_Mo_clash_97 rfl (lv_at hl 0 rfl) ?_
        refine gf_Mo_97 hx hb hW hown hG hV hm_1 d_Mo_clash_98 ?_
        refine lv_icmp_gt (tgt := 108) hx hb d_Mo_clash_101 (by decide) (fun c_5 => ?_) (fun c_5 => ?_)
        · have c_5 := i_nle c_5
          refine lv_iconst (v := 0) hx hb d_Mo_clash_108 (by decide) ?_
          try simp only [bI_ne0, bI_eq0] at c_2
          try simp only [bI_ne0, bI_eq0] at c_3
          try simp only [bI_ne0, bI_eq0] at c_4
          try simp only [bI_ne0, bI_eq0] at c_5
          exact W.zret (v := 0) hx hb hr rfl (fun t9 ht hW => ⟨⟨0, V, rfl, ⟨by first | (simp [bI, moClash, c_2, c_3, c_4, c_5]; done) | (simp_all [bI, moClash]; done), rfl⟩, mB_of ht hV⟩, hS.F ht⟩) hS.2.2 d_Mo_clash_109
        · have c_5 := i_le c_5
          refine lv_iconst (v := 1) hx hb d_Mo_clash_104 (by decide) ?_
          refine lv_goto (tgt := 109) hx hb d_Mo_clash_105 (by decide) ?_
          try simp only [bI_ne0, bI_eq0] at c_2
          try simp only [bI_ne0, bI_eq0] at c_3
          try simp only [bI_ne0, bI_eq0] at c_4
          try simp only [bI_ne0, bI_eq0] at c_5
          exact W.zret (v := 1) hx hb hr rfl (fun t9 ht hW => ⟨⟨1, V, rfl, ⟨by first | (simp [bI, moClash, c_2, c_3, c_4, c_5]; done) | (simp_all [bI, moClash]; done), rfl⟩, mB_of ht hV⟩, hS.F ht⟩) hS.2.2 d_Mo_clash_109
    · refine lv_iconst (v := 0) hx hb d_Mo_clash_26 (by decide) ?_
      try simp only [bI_ne0, bI_eq0] at c_2
      try simp only [bI_ne0, bI_eq0] at c_3
      exact W.zret (v := 0) hx hb hr rfl (fun t9 ht hW => ⟨⟨0, V, rfl, ⟨by first | (simp [bI, moClash, c_2, c_3]; done) | (simp_all [bI, moClash]; done), rfl⟩, mB_of ht hV⟩, hS.F ht⟩) hS.2.2 d_Mo_clash_27
