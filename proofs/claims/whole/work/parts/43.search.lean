/-! The copper's search: the sheets of the layers -/
def rowOf (V : HV) (a : Nat) : Nat → Int32 := match V a with
  | some (.inl (_, _, .inl F)) => F
  | _ => fun _ => 0
theorem rowOf_eq {k : Nat → Nat} {V : HV} {a n : Nat} {F : Nat → Int32} (h : V a = some (eI k n F)) : rowOf V a = F := by rw [rowOf, h]
/-- the house, and what is on the sheets of the layers: O of the net, R reached -/
def shS (k : Nat → Nat) (V : HV) (b : HA) (σ : HS) (O R : Nat → Nat → Int32) : Prop := hsOk k V b σ ∧ ∀ i, i < σ.nl → V (b.oR i) = some (eI k 24 (O i)) ∧ V (b.sR i) = some (eI k 24 (R i))
theorem sh_of {k : Nat → Nat} {V : HV} {b : HA} {σ : HS} (h : hsOk k V b σ) : ∃ O R, shS k V b σ O R :=
  ⟨fun i => rowOf V (b.oR i), fun i => rowOf V (b.sR i), h, fun i hi => by
    obtain ⟨-, -, ⟨F, e3⟩, -, -, ⟨F', e6⟩⟩ := h.os i hi
    show V (b.oR i) = some (eI k 24 (rowOf V (b.oR i))) ∧ V (b.sR i) = some (eI k 24 (rowOf V (b.sR i)))
    rw [rowOf_eq e3, rowOf_eq e6]
    exact ⟨e3, e6⟩⟩
theorem hs_rowO {k : Nat → Nat} {V : HV} {a : HA} {σ : HS} (h : hsOk k V a σ) {i : Nat} (hi : i < σ.nl) (g : Nat → Int32) : hsOk k (hu V (a.oR i) (eI k 24 g)) a σ := by
  have hV := hs_hv (V := V) (e := (eI k 24 g)) (h.lab.ls i hi).2.1
  have hn4 := h.n4
  have hos : ∀ j, j < σ.nl → a.fo j = some (a.os j) ∧ hu V (a.oR i) (eI k 24 g) (a.os j) = some (eSh (a.oR j)) ∧ (∃ F, hu V (a.oR i) (eI k 24 g) (a.oR j) = some (eI k 24 F)) ∧ a.fs j = some (a.ss j) ∧ hu V (a.oR i) (eI k 24 g) (a.ss j) = some (eSh (a.sR j)) ∧ ∃ F, hu V (a.oR i) (eI k 24 g) (a.sR j) = some (eI k 24 F) := fun j hj => by
    obtain ⟨e1, e2, ⟨F, e3⟩, e4, e5, ⟨F', e6⟩⟩ := h.os j hj
    obtain ⟨l1, l2, l3, l4⟩ := h.lab.ls j hj
    refine ⟨e1, (hV _ (by omega)).trans e2, ?_, e4, (hV _ (by omega)).trans e5, ?_⟩
    · by_cases hq : a.oR j = (a.oR i)
      · rw [hq]; exact ⟨g, hu_s⟩
      · rw [hu_n hq]; exact ⟨F, e3⟩
    · by_cases hq : a.sR j = (a.oR i)
      · rw [hq]; exact ⟨g, hu_s⟩
      · rw [hu_n hq]; exact ⟨F', e6⟩
  exact ⟨h.lab, (hV a.ho (by rw [h.lab.l1]; omega)).trans h.ho, (hV a.bo (by rw [h.lab.l2]; omega)).trans h.bo, (hV a.gi (by rw [h.lab.l3]; omega)).trans h.gi, (hV a.co (by rw [h.lab.l4]; omega)).trans h.co, hs_ts (a := a) (σ := σ) h hV (by omega) (by omega), hs_ac (a := a) (σ := σ) h hV (by omega) (by omega), (hV a.ve (by rw [h.lab.l7]; omega)).trans h.ve, hs_vs (a := a) (σ := σ) h hV (by omega), (hV a.ro (by rw [h.lab.l8]; omega)).trans h.ro, h.rq.elim (fun F e => ⟨F, (hV a.rq (by rw [h.lab.l9]; omega)).trans e⟩), (hV a.on (by rw [h.lab.l10]; omega)).trans h.on, (hV a.re (by rw [h.lab.l11]; omega)).trans h.re, hos, h.wo, h.n1, h.n4⟩
theorem hs_rowR {k : Nat → Nat} {V : HV} {a : HA} {σ : HS} (h : hsOk k V a σ) {i : Nat} (hi : i < σ.nl) (g : Nat → Int32) : hsOk k (hu V (a.sR i) (eI k 24 g)) a σ := by
  have hV := hs_hv (V := V) (e := (eI k 24 g)) (h.lab.ls i hi).2.2.2
  have hn4 := h.n4
  have hos : ∀ j, j < σ.nl → a.fo j = some (a.os j) ∧ hu V (a.sR i) (eI k 24 g) (a.os j) = some (eSh (a.oR j)) ∧ (∃ F, hu V (a.sR i) (eI k 24 g) (a.oR j) = some (eI k 24 F)) ∧ a.fs j = some (a.ss j) ∧ hu V (a.sR i) (eI k 24 g) (a.ss j) = some (eSh (a.sR j)) ∧ ∃ F, hu V (a.sR i) (eI k 24 g) (a.sR j) = some (eI k 24 F) := fun j hj => by
    obtain ⟨e1, e2, ⟨F, e3⟩, e4, e5, ⟨F', e6⟩⟩ := h.os j hj
    obtain ⟨l1, l2, l3, l4⟩ := h.lab.ls j hj
    refine ⟨e1, (hV _ (by omega)).trans e2, ?_, e4, (hV _ (by omega)).trans e5, ?_⟩
    · by_cases hq : a.oR j = (a.sR i)
      · rw [hq]; exact ⟨g, hu_s⟩
      · rw [hu_n hq]; exact ⟨F, e3⟩
    · by_cases hq : a.sR j = (a.sR i)
      · rw [hq]; exact ⟨g, hu_s⟩
      · rw [hu_n hq]; exact ⟨F', e6⟩
  exact ⟨h.lab, (hV a.ho (by rw [h.lab.l1]; omega)).trans h.ho, (hV a.bo (by rw [h.lab.l2]; omega)).trans h.bo, (hV a.gi (by rw [h.lab.l3]; omega)).trans h.gi, (hV a.co (by rw [h.lab.l4]; omega)).trans h.co, hs_ts (a := a) (σ := σ) h hV (by omega) (by omega), hs_ac (a := a) (σ := σ) h hV (by omega) (by omega), (hV a.ve (by rw [h.lab.l7]; omega)).trans h.ve, hs_vs (a := a) (σ := σ) h hV (by omega), (hV a.ro (by rw [h.lab.l8]; omega)).trans h.ro, h.rq.elim (fun F e => ⟨F, (hV a.rq (by rw [h.lab.l9]; omega)).trans e⟩), (hV a.on (by rw [h.lab.l10]; omega)).trans h.on, (hV a.re (by rw [h.lab.l11]; omega)).trans h.re, hos, h.wo, h.n1, h.n4⟩
theorem hs_rowQ {k : Nat → Nat} {V : HV} {a : HA} {σ : HS} (h : hsOk k V a σ) (g : Nat → Int32) : hsOk k (hu V a.rq (eI k 24 g)) a σ := by
  have hV := hs_hv (V := V) (e := (eI k 24 g)) h.lab.l9
  exact ⟨h.lab, (hV a.ho (by rw [h.lab.l1]; omega)).trans h.ho, (hV a.bo (by rw [h.lab.l2]; omega)).trans h.bo, (hV a.gi (by rw [h.lab.l3]; omega)).trans h.gi, (hV a.co (by rw [h.lab.l4]; omega)).trans h.co, hs_ts (a := a) (σ := σ) h hV (by omega) (by omega), hs_ac (a := a) (σ := σ) h hV (by omega) (by omega), (hV a.ve (by rw [h.lab.l7]; omega)).trans h.ve, hs_vs (a := a) (σ := σ) h hV (by omega), (hV a.ro (by rw [h.lab.l8]; omega)).trans h.ro, ⟨g, hu_s⟩, (hV a.on (by rw [h.lab.l10]; omega)).trans h.on, (hV a.re (by rw [h.lab.l11]; omega)).trans h.re, hs_os (a := a) (σ := σ) h hV (by omega), h.wo, h.n1, h.n4⟩
theorem sh_setO {k : Nat → Nat} {V : HV} {b : HA} {σ : HS} {O R : Nat → Nat → Int32} (h : shS k V b σ O R) {i : Nat} (hi : i < σ.nl) (g : Nat → Int32) : shS k (hu V (b.oR i) (eI k 24 g)) b σ (updT O i g) R ∧ hsFr b b V (hu V (b.oR i) (eI k 24 g)) := by
  have hn4 := h.1.n4
  refine ⟨⟨hs_rowO h.1 hi g, fun j hj => ?_⟩, hsFr_hu (by rw [(h.1.lab.ls i hi).2.1]; omega)⟩
  obtain ⟨a1, a2, a3, a4⟩ := h.1.lab.ls i hi
  obtain ⟨c1, c2, c3, c4⟩ := h.1.lab.ls j hj
  refine ⟨?_, by rw [hu_n (fun z => by rw [z] at c4; omega)]; exact (h.2 j hj).2⟩
  by_cases hji : j = i
  · subst hji; rw [uT_s]; exact hu_s
  · rw [uT_n hji, hu_n (fun z => by rw [z] at c2; omega)]; exact (h.2 j hj).1
theorem sh_setR {k : Nat → Nat} {V : HV} {b : HA} {σ : HS} {O R : Nat → Nat → Int32} (h : shS k V b σ O R) {i : Nat} (hi : i < σ.nl) (g : Nat → Int32) : shS k (hu V (b.sR i) (eI k 24 g)) b σ O (updT R i g) ∧ hsFr b b V (hu V (b.sR i) (eI k 24 g)) := by
  have hn4 := h.1.n4
  refine ⟨⟨hs_rowR h.1 hi g, fun j hj => ?_⟩, hsFr_hu (by rw [(h.1.lab.ls i hi).2.2.2]; omega)⟩
  obtain ⟨a1, a2, a3, a4⟩ := h.1.lab.ls i hi
  obtain ⟨c1, c2, c3, c4⟩ := h.1.lab.ls j hj
  refine ⟨by rw [hu_n (fun z => by rw [z] at c2; omega)]; exact (h.2 j hj).1, ?_⟩
  by_cases hji : j = i
  · subst hji; rw [uT_s]; exact hu_s
  · rw [uT_n hji, hu_n (fun z => by rw [z] at c4; omega)]; exact (h.2 j hj).2
theorem sh_setQ {k : Nat → Nat} {V : HV} {b : HA} {σ : HS} {O R : Nat → Nat → Int32} (h : shS k V b σ O R) (g : Nat → Int32) : shS k (hu V b.rq (eI k 24 g)) b σ O R ∧ hsFr b b V (hu V b.rq (eI k 24 g)) := by
  have hn4 := h.1.n4
  refine ⟨⟨hs_rowQ h.1 g, fun j hj => ?_⟩, hsFr_hu (by rw [h.1.lab.l9]; omega)⟩
  obtain ⟨c1, c2, c3, c4⟩ := h.1.lab.ls j hj
  have l9 := h.1.lab.l9
  exact ⟨by rw [hu_n (fun z => by rw [z] at c2; omega)]; exact (h.2 j hj).1, by rw [hu_n (fun z => by rw [z] at c4; omega)]; exact (h.2 j hj).2⟩
/-- slot i has a point of the net -/
def ptP (T : Nat → Nat → Int32) (ne : Int32) (i : Nat) : Bool := !decide (T i 5 = 0) && decide (T i 0 = 3) && decide (T i 3 = ne)
def px (T : Nat → Nat → Int32) (p : Nat) : Nat := (T p 6).toNatClampNeg
def py (T : Nat → Nat → Int32) (p : Nat) : Nat := (T p 7).toNatClampNeg
/-- points lie on one cell of the board -/
def ptG (T : Nat → Nat → Int32) (ne : Int32) : Prop := ∀ p, 20 ≤ p → p < 140 → ptP T ne p = true → px T p < 32 ∧ py T p < 24 ∧ T p 6 = nI (px T p) ∧ T p 7 = nI (py T p) ∧ T p 8 = nI (px T p) ∧ T p 9 = nI (py T p)
/-- some layer has the cell of slot p's point -/
def rcP (nl : Nat) (T R : Nat → Nat → Int32) (p : Nat) : Bool := anyF (fun l => bt (R l (py T p)) (px T p)) 0 nl
theorem bits1 : ∀ x, x < 32 → ∀ q, q < 32 → bt (sh_bits (nI x) (nI x)) q = decide (q = x) := by decide +kernel
theorem and_bit {a : Int32} {x : Nat} (hx : x < 32) : (!decide (a &&& sh_bits (nI x) (nI x) = 0)) = bt a x := by
  cases hb : bt a x with
  | true =>
    rw [decide_eq_false (fun q => ?_)]; · rfl
    have := congrArg (fun z => bt z x) q
    simp only [b_and, hb, bits1 x hx x hx, b_0] at this
    simp at this
  | false =>
    rw [decide_eq_true]; · rfl
    refine b_ext (fun i hi => ?_)
    rw [b_and, bits1 x hx i hi, b_0]
    by_cases hix : i = x
    · rw [hix, hb]; rfl
    · rw [decide_eq_false hix, Bool.and_false]
def layF (T : Nat → Nat → Int32) (p : Nat) (O : Nat → Nat → Int32) (i : Nat) : Nat → Int32 := if th_liesOn (T p 0) (T p 2) (nI i) then addR (O i) (T p 6) (T p 7) (T p 8) (T p 9) else O i
def eqR (nl : Nat) (O O' : Nat → Nat → Int32) : Prop := ∀ i, i < nl → ∀ j, j < 24 → O i j = O' i j
def lyI (nl : Nat) (T : Nat → Nat → Int32) (p : Nat) (O O1 : Nat → Nat → Int32) (i : Nat) : Prop := ∀ l, l < nl → ∀ j, j < 24 → O1 l j = if l < i then layF T p O l j else O l j
theorem ly_0 {nl : Nat} {T : Nat → Nat → Int32} {p : Nat} {O : Nat → Nat → Int32} : lyI nl T p O O 0 := fun l _ j _ => by rw [if_neg (by omega)]
theorem ly_f {nl : Nat} {T : Nat → Nat → Int32} {p : Nat} {O O1 : Nat → Nat → Int32} {i : Nat} (h : lyI nl T p O O1 i) (hl : th_liesOn (T p 0) (T p 2) (nI i) = false) : lyI nl T p O O1 (i + 1) := fun l hl' j hj => by
  rw [h l hl' j hj]
  by_cases hli : l = i
  · subst hli; rw [if_neg (by omega), if_pos (by omega), layF, hl]; rfl
  · by_cases hlt : l < i
    · rw [if_pos hlt, if_pos (by omega)]
    · rw [if_neg hlt, if_neg (by omega)]
theorem ly_t {nl : Nat} {T : Nat → Nat → Int32} {p : Nat} {O O1 : Nat → Nat → Int32} {i : Nat} {g : Nat → Int32} (h : lyI nl T p O O1 i) (hi : i < nl) (hl : th_liesOn (T p 0) (T p 2) (nI i) = true) (hg : ∀ j, j < 24 → g j = if T p 7 ≤ nI j ∧ nI j ≤ T p 9 then O1 i j ||| sh_bits (T p 6) (T p 8) else O1 i j) : lyI nl T p O (updT O1 i g) (i + 1) := fun l hl' j hj => by
  by_cases hli : l = i
  · subst hli; rw [uT_s, hg j hj, if_pos (show l < l + 1 by omega), layF, if_pos hl, addR, h l hl' j hj, if_neg (show ¬ l < l by omega)]
  · rw [uT_n hli, h l hl' j hj]
    by_cases hlt : l < i
    · rw [if_pos hlt, if_pos (by omega)]
    · rw [if_neg hlt, if_neg (by omega)]
theorem ly_e {nl : Nat} {T : Nat → Nat → Int32} {p : Nat} {O O1 : Nat → Nat → Int32} {i : Nat} (h : lyI nl T p O O1 i) (hi : nl ≤ i) : eqR nl O1 (layF T p O) := fun l hl j hj => by rw [h l hl j hj, if_pos (by omega)]
def ptO (f : Nat → Option Nat) (T : Nat → Nat → Int32) (ne : Int32) (i : Nat) : Option Nat := if ptP T ne i then f i else none
set_option maxHeartbeats 4000000 in
set_option maxRecDepth 100000 in
/-- layOn -/
theorem c_Co_layOn_on (l : Launch) (D : va_G) (N0 : Nat) (k : Nat → Nat) (V : HV) (b : HA) (σ : HS) (O R : Nat → Nat → Int32) (hsh : shS k V b σ O R) (p0 t : Nat) (hp : p0 < 150) (hf : b.f p0 = some t) : Met l y_Co_layOn (.code y_Co_layOn b_Co_layOn 4 none :: WS) ({ frames := 3, cells := 0, slots := 0, locals := 70 }) (mP D N0 k [.ref b.co, .ref b.on, .ref t] V) (va_Qv (fun V' => ∃ O', shS k V' b σ O' R ∧ hsFr b b V V' ∧ eqR σ.nl O' (layF σ.T p0 O)) (mB D N0) (hA N0)) 0 0 (hA N0) := by
  refine Met.ofW (cc := b_Co_layOn) (maxL := 4) (ret := none) (by decide) rfl ?_
  intro p e s m args below meth c s₁ B hml hv0
  obtain ⟨rfl, hG, hV⟩ := hv0
  have hx := B.exec
  have hb := B.bytes
  have hr := B.returns
  have hts := atoms_spec (ws := .code y_Co_layOn b_Co_layOn 4 none :: WS) B.pre
  have hW : ∀ w ∈ WS, w.before _ s = true := fun w h => hts w (List.mem_cons_of_mem _ h)
  have hown : s.vm.findClass "BoardHouse$Copper" = some m.cls := findClass_of_methodNamed B.named
  have hlocks := B.notSynchronized
  have hS : va_S (hA N0) s.heap s.heap [] := va_S.rf
  have hl := lv_entry ([.ref b.co, .ref b.on, .ref t]) (n := 4) (Nat.le_of_ble_eq_true rfl)
  rw [lg_entry_eq]
  generalize (lg_sl ([.ref b.co, .ref b.on, .ref t]) ++ List.replicate (4 - (lg_sl ([.ref b.co, .ref b.on, .ref t])).length) Slot.unset).toArray = ls at hl ⊢
  have hl : lv_has ls 4 [(0, .ref b.co), (1, .ref b.on), (2, .ref t)] := hl
  have hn4 := hsh.1.n4
  have hn1 := hsh.1.n1
  obtain ⟨hz_1, hz_1a⟩ := hsh.1.ts.2.1 p0 t hp hf
  refine lv_iconst (v := 0) hx hb d_Co_layOn_0 (by decide) ?_
  refine lv_istore_n (lv' := [(3, .int 0), (0, .ref b.co), (1, .ref b.on), (2, .ref t)]) hx hb d_Co_layOn_1 rfl hl (by decide) rfl (fun ls hl => ?_)
  have loop_2 : ∀ (n i : Nat) (V1 : HV) (O1 : Nat → Nat → Int32) (H : Heap) (locs : List Loc) (ls : Array Slot), i ≤ σ.nl → σ.nl + 1 ≤ i + n → (shS k V1 b σ O1 R ∧ hsFr b b V V1 ∧ lyI σ.nl σ.T p0 O O1 i) → hv D vwCl N0 V1 H → va_S (hA N0) s.heap H locs → lv_has ls 4 [(0, .ref b.co), (1, .ref b.on), (2, .ref t), (3, .int (nI i))] → W p l e (headSpec (.code y_Co_layOn b_Co_layOn 4 none :: WS) ({ frames := 3, cells := 0, slots := 0, locals := 70 })).room s m #[.ref b.co, .ref b.on, .ref t] below meth c H locs 0 0 (MQ below (va_Qv (fun V' => ∃ O', shS k V' b σ O' R ∧ hsFr b b V V' ∧ eqR σ.nl O' (layF σ.T p0 O)) (mB D N0) (hA N0)) #[.ref b.co, .ref b.on, .ref t] s 0 0 (hA N0)) (F0 m 2 ls []) := by
    intro n
    induction n with
    | zero => intro i V1 O1 H locs ls h1 h2; exact absurd h2 (by omega)
    | succ n ih =>
      intro i V1 O1 H locs ls hi hin hI hV hS hl
      obtain ⟨hs1, hF1, hY⟩ := hI
      obtain ⟨hz_3, hz_3a⟩ := hs1.1.ts.2.1 p0 t hp hf
      refine lv_iload_n hx hb d_Co_layOn_2 rfl (lv_at hl 3 rfl) ?_
      refine lv_aload_n hx hb d_Co_layOn_3 rfl (lv_at hl 0 rfl) ?_
      refine gf_Co_24 hx hb hW hown hG hV hs1.1.co d_Co_layOn_4 ?_
      refine lv_icmp_ge (tgt := 34) hx hb d_Co_layOn_7 (by decide) (fun c_4 => ?_) (fun c_4 => ?_)
      · have hge : σ.nl ≤ i := nI_le' c_4 (by omega) (by omega)
        exact W.vret hx hb hr (fun t9 ht hW => ⟨⟨V1, rfl, ⟨O1, hs1, hF1, ly_e hY hge⟩, mB_of ht hV⟩, hS.F ht⟩) hS.2.2 d_Co_layOn_34
      · have hlt : i < σ.nl := nI_nle' c_4 (by omega) (by omega)
        refine lv_aload_n hx hb d_Co_layOn_10 rfl (lv_at hl 2 rfl) ?_
        refine lv_iload_n hx hb d_Co_layOn_11 rfl (lv_at hl 3 rfl) ?_
        refine rc_i (va_runV (As := [.int (nI i)]) (rest := []) ⟨hx, hb, hml, hown, hts⟩ (c_Th_liesOn l D N0 k V1 t (b.ar p0) (σ.T p0 0) (σ.T p0 1) (σ.T p0 2) (σ.T p0 3) (σ.T p0 4) (σ.T p0 5) hz_3 (nI i)) (cwV 1 hts (gi_V wm_Co_89 wv_Th_liesOn ws_Th_liesOn wi_Th wc_Th_liesOn) rfl rfl rfl (by decide +kernel) ⟨Nat.le_of_ble_eq_true rfl, Nat.le_of_ble_eq_true rfl⟩) (mP.preV hG hS hV hz_3 rfl) rfl rfl hl.1 rfl (lv_room (Nat.le_of_ble_eq_true rfl)) d_Co_layOn_12 ⟨Nat.le_of_ble_eq_true rfl, Nat.le_of_ble_eq_true rfl⟩) hS (fun H locs hV hS => ?_)
        refine lv_if_eq (tgt := 28) hx hb d_Co_layOn_15 (by decide) (fun c_5 => ?_) (fun c_5 => ?_)
        · obtain ⟨i_6, ei_6⟩ : ∃ y : Int32, y = (nI i) + 1 := ⟨_, rfl⟩
          refine lv_iinc (v := i_6) (lv' := [(3, .int i_6), (0, .ref b.co), (1, .ref b.on), (2, .ref t)]) hx hb d_Co_layOn_28 hl (k := 3) rfl (by rw [ei_6]; rfl) (by decide) rfl (fun ls hl => ?_)
          refine lv_goto (tgt := 2) hx hb d_Co_layOn_31 (by decide) ?_
          rw [nI_1] at ei_6
          subst ei_6
          exact ih (i + 1) V1 O1 _ _ _ (by omega) (by omega) (⟨hs1, hF1, ly_f hY (bI_eq0.mp c_5)⟩) hV hS (lv_sub hl [1, 2, 3, 0] rfl)
        · refine lv_aload_n hx hb d_Co_layOn_18 rfl (lv_at hl 1 rfl) ?_
          refine lv_iload_n hx hb d_Co_layOn_19 rfl (lv_at hl 3 rfl) ?_
          refine hv_aald (v := b.fo i) hx hb hG.K hV 6 hs1.1.on rfl (vp_in_nI (by omega) (by omega)) (by rw [nI_clamp (by omega)]) d_Co_layOn_20 ?_
          obtain ⟨hz_7a, hz_7b, -, hz_7c, hz_7d, -⟩ := hs1.1.os i hlt
          rw [hz_7a]
          refine W.eq (g2 := F0 m 21 ls [.ref (b.os i)]) rfl ?_
          refine lv_aload_n hx hb d_Co_layOn_21 rfl (lv_at hl 2 rfl) ?_
          refine gf_Co_96 hx hb hW hown hG hV hz_3 d_Co_layOn_22 ?_
          refine rc_V (va_runV (As := [.ref (b.ar p0)]) (rest := []) ⟨hx, hb, hml, hown, hts⟩ (c_Sh_add l D N0 k V1 (b.os i) (b.oR i) (O1 i) hz_7b (hs1.2 i hlt).1 (b.ar p0) (σ.T p0 6) (σ.T p0 7) (σ.T p0 8) (σ.T p0 9) hz_3a) (cwV 1 hts (gi_V wm_Co_100 wv_Sh_add ws_Sh_add wi_Sh wc_Sh_add) rfl rfl rfl (by decide +kernel) ⟨Nat.le_of_ble_eq_true rfl, Nat.le_of_ble_eq_true rfl⟩) (mP.preV hG hS hV hz_7b rfl) rfl rfl hl.1 rfl (lv_room (Nat.le_of_ble_eq_true rfl)) d_Co_layOn_25 ⟨Nat.le_of_ble_eq_true rfl, Nat.le_of_ble_eq_true rfl⟩) hS (fun V_8 H locs hp_9 hV hS => ?_)
          obtain ⟨g_10, ev_g_10, hg_g_10⟩ := hp_9
          obtain ⟨hq_11, hq_11f⟩ := sh_setO hs1 (i := i) hlt g_10
          rw [← ev_g_10] at hq_11 hq_11f
          obtain ⟨hz_12, hz_12a⟩ := hq_11.1.ts.2.1 p0 t hp hf
          obtain ⟨i_13, ei_13⟩ : ∃ y : Int32, y = (nI i) + 1 := ⟨_, rfl⟩
          refine lv_iinc (v := i_13) (lv' := [(3, .int i_13), (0, .ref b.co), (1, .ref b.on), (2, .ref t)]) hx hb d_Co_layOn_28 hl (k := 3) rfl (by rw [ei_13]; rfl) (by decide) rfl (fun ls hl => ?_)
          refine lv_goto (tgt := 2) hx hb d_Co_layOn_31 (by decide) ?_
          rw [nI_1] at ei_13
          subst ei_13
          exact ih (i + 1) V_8 (updT O1 i g_10) _ _ _ (by omega) (by omega) (⟨hq_11, hF1.tr hq_11f, ly_t hY hlt (bI_ne0.mp c_5) hg_g_10⟩) hV hS (lv_sub hl [1, 2, 3, 0] rfl)
  exact loop_2 (σ.nl + 1 - 0) 0 V O _ _ _ (by omega) (by omega) (⟨hsh, hsFr.rf, ly_0⟩) hV hS (lv_sub hl [1, 2, 3, 0] rfl)
set_option maxHeartbeats 4000000 in
set_option maxRecDepth 100000 in
/-- layOn -/
theorem c_Co_layOn_re (l : Launch) (D : va_G) (N0 : Nat) (k : Nat → Nat) (V : HV) (b : HA) (σ : HS) (O R : Nat → Nat → Int32) (hsh : shS k V b σ O R) (p0 t : Nat) (hp : p0 < 150) (hf : b.f p0 = some t) : Met l y_Co_layOn (.code y_Co_layOn b_Co_layOn 4 none :: WS) ({ frames := 3, cells := 0, slots := 0, locals := 70 }) (mP D N0 k [.ref b.co, .ref b.re, .ref t] V) (va_Qv (fun V' => ∃ O', shS k V' b σ O O' ∧ hsFr b b V V' ∧ eqR σ.nl O' (layF σ.T p0 R)) (mB D N0) (hA N0)) 0 0 (hA N0) := by
  refine Met.ofW (cc := b_Co_layOn) (maxL := 4) (ret := none) (by decide) rfl ?_
  intro p e s m args below meth c s₁ B hml hv0
  obtain ⟨rfl, hG, hV⟩ := hv0
  have hx := B.exec
  have hb := B.bytes
  have hr := B.returns
  have hts := atoms_spec (ws := .code y_Co_layOn b_Co_layOn 4 none :: WS) B.pre
  have hW : ∀ w ∈ WS, w.before _ s = true := fun w h => hts w (List.mem_cons_of_mem _ h)
  have hown : s.vm.findClass "BoardHouse$Copper" = some m.cls := findClass_of_methodNamed B.named
  have hlocks := B.notSynchronized
  have hS : va_S (hA N0) s.heap s.heap [] := va_S.rf
  have hl := lv_entry ([.ref b.co, .ref b.re, .ref t]) (n := 4) (Nat.le_of_ble_eq_true rfl)
  rw [lg_entry_eq]
  generalize (lg_sl ([.ref b.co, .ref b.re, .ref t]) ++ List.replicate (4 - (lg_sl ([.ref b.co, .ref b.re, .ref t])).length) Slot.unset).toArray = ls at hl ⊢
  have hl : lv_has ls 4 [(0, .ref b.co), (1, .ref b.re), (2, .ref t)] := hl
  have hn4 := hsh.1.n4
  have hn1 := hsh.1.n1
  obtain ⟨hz_1, hz_1a⟩ := hsh.1.ts.2.1 p0 t hp hf
  refine lv_iconst (v := 0) hx hb d_Co_layOn_0 (by decide) ?_
  refine lv_istore_n (lv' := [(3, .int 0), (0, .ref b.co), (1, .ref b.re), (2, .ref t)]) hx hb d_Co_layOn_1 rfl hl (by decide) rfl (fun ls hl => ?_)
  have loop_2 : ∀ (n i : Nat) (V1 : HV) (O1 : Nat → Nat → Int32) (H : Heap) (locs : List Loc) (ls : Array Slot), i ≤ σ.nl → σ.nl + 1 ≤ i + n → (shS k V1 b σ O O1 ∧ hsFr b b V V1 ∧ lyI σ.nl σ.T p0 R O1 i) → hv D vwCl N0 V1 H → va_S (hA N0) s.heap H locs → lv_has ls 4 [(0, .ref b.co), (1, .ref b.re), (2, .ref t), (3, .int (nI i))] → W p l e (headSpec (.code y_Co_layOn b_Co_layOn 4 none :: WS) ({ frames := 3, cells := 0, slots := 0, locals := 70 })).room s m #[.ref b.co, .ref b.re, .ref t] below meth c H locs 0 0 (MQ below (va_Qv (fun V' => ∃ O', shS k V' b σ O O' ∧ hsFr b b V V' ∧ eqR σ.nl O' (layF σ.T p0 R)) (mB D N0) (hA N0)) #[.ref b.co, .ref b.re, .ref t] s 0 0 (hA N0)) (F0 m 2 ls []) := by
    intro n
    induction n with
    | zero => intro i V1 O1 H locs ls h1 h2; exact absurd h2 (by omega)
    | succ n ih =>
      intro i V1 O1 H locs ls hi hin hI hV hS hl
      obtain ⟨hs1, hF1, hY⟩ := hI
      obtain ⟨hz_3, hz_3a⟩ := hs1.1.ts.2.1 p0 t hp hf
      refine lv_iload_n hx hb d_Co_layOn_2 rfl (lv_at hl 3 rfl) ?_
      refine lv_aload_n hx hb d_Co_layOn_3 rfl (lv_at hl 0 rfl) ?_
      refine gf_Co_24 hx hb hW hown hG hV hs1.1.co d_Co_layOn_4 ?_
      refine lv_icmp_ge (tgt := 34) hx hb d_Co_layOn_7 (by decide) (fun c_4 => ?_) (fun c_4 => ?_)
      · have hge : σ.nl ≤ i := nI_le' c_4 (by omega) (by omega)
        exact W.vret hx hb hr (fun t9 ht hW => ⟨⟨V1, rfl, ⟨O1, hs1, hF1, ly_e hY hge⟩, mB_of ht hV⟩, hS.F ht⟩) hS.2.2 d_Co_layOn_34
      · have hlt : i < σ.nl := nI_nle' c_4 (by omega) (by omega)
        refine lv_aload_n hx hb d_Co_layOn_10 rfl (lv_at hl 2 rfl) ?_
        refine lv_iload_n hx hb d_Co_layOn_11 rfl (lv_at hl 3 rfl) ?_
        refine rc_i (va_runV (As := [.int (nI i)]) (rest := []) ⟨hx, hb, hml, hown, hts⟩ (c_Th_liesOn l D N0 k V1 t (b.ar p0) (σ.T p0 0) (σ.T p0 1) (σ.T p0 2) (σ.T p0 3) (σ.T p0 4) (σ.T p0 5) hz_3 (nI i)) (cwV 1 hts (gi_V wm_Co_89 wv_Th_liesOn ws_Th_liesOn wi_Th wc_Th_liesOn) rfl rfl rfl (by decide +kernel) ⟨Nat.le_of_ble_eq_true rfl, Nat.le_of_ble_eq_true rfl⟩) (mP.preV hG hS hV hz_3 rfl) rfl rfl hl.1 rfl (lv_room (Nat.le_of_ble_eq_true rfl)) d_Co_layOn_12 ⟨Nat.le_of_ble_eq_true rfl, Nat.le_of_ble_eq_true rfl⟩) hS (fun H locs hV hS => ?_)
        refine lv_if_eq (tgt := 28) hx hb d_Co_layOn_15 (by decide) (fun c_5 => ?_) (fun c_5 => ?_)
        · obtain ⟨i_6, ei_6⟩ : ∃ y : Int32, y = (nI i) + 1 := ⟨_, rfl⟩
          refine lv_iinc (v := i_6) (lv' := [(3, .int i_6), (0, .ref b.co), (1, .ref b.re), (2, .ref t)]) hx hb d_Co_layOn_28 hl (k := 3) rfl (by rw [ei_6]; rfl) (by decide) rfl (fun ls hl => ?_)
          refine lv_goto (tgt := 2) hx hb d_Co_layOn_31 (by decide) ?_
          rw [nI_1] at ei_6
          subst ei_6
          exact ih (i + 1) V1 O1 _ _ _ (by omega) (by omega) (⟨hs1, hF1, ly_f hY (bI_eq0.mp c_5)⟩) hV hS (lv_sub hl [1, 2, 3, 0] rfl)
        · refine lv_aload_n hx hb d_Co_layOn_18 rfl (lv_at hl 1 rfl) ?_
          refine lv_iload_n hx hb d_Co_layOn_19 rfl (lv_at hl 3 rfl) ?_
          refine hv_aald (v := b.fs i) hx hb hG.K hV 6 hs1.1.re rfl (vp_in_nI (by omega) (by omega)) (by rw [nI_clamp (by omega)]) d_Co_layOn_20 ?_
          obtain ⟨hz_7a, hz_7b, -, hz_7c, hz_7d, -⟩ := hs1.1.os i hlt
          rw [hz_7c]
          refine W.eq (g2 := F0 m 21 ls [.ref (b.ss i)]) rfl ?_
          refine lv_aload_n hx hb d_Co_layOn_21 rfl (lv_at hl 2 rfl) ?_
          refine gf_Co_96 hx hb hW hown hG hV hz_3 d_Co_layOn_22 ?_
          refine rc_V (va_runV (As := [.ref (b.ar p0)]) (rest := []) ⟨hx, hb, hml, hown, hts⟩ (c_Sh_add l D N0 k V1 (b.ss i) (b.sR i) (O1 i) hz_7d (hs1.2 i hlt).2 (b.ar p0) (σ.T p0 6) (σ.T p0 7) (σ.T p0 8) (σ.T p0 9) hz_3a) (cwV 1 hts (gi_V wm_Co_100 wv_Sh_add ws_Sh_add wi_Sh wc_Sh_add) rfl rfl rfl (by decide +kernel) ⟨Nat.le_of_ble_eq_true rfl, Nat.le_of_ble_eq_true rfl⟩) (mP.preV hG hS hV hz_7d rfl) rfl rfl hl.1 rfl (lv_room (Nat.le_of_ble_eq_true rfl)) d_Co_layOn_25 ⟨Nat.le_of_ble_eq_true rfl, Nat.le_of_ble_eq_true rfl⟩) hS (fun V_8 H locs hp_9 hV hS => ?_)
          obtain ⟨g_10, ev_g_10, hg_g_10⟩ := hp_9
          obtain ⟨hq_11, hq_11f⟩ := sh_setR hs1 (i := i) hlt g_10
          rw [← ev_g_10] at hq_11 hq_11f
          obtain ⟨hz_12, hz_12a⟩ := hq_11.1.ts.2.1 p0 t hp hf
          obtain ⟨i_13, ei_13⟩ : ∃ y : Int32, y = (nI i) + 1 := ⟨_, rfl⟩
          refine lv_iinc (v := i_13) (lv' := [(3, .int i_13), (0, .ref b.co), (1, .ref b.re), (2, .ref t)]) hx hb d_Co_layOn_28 hl (k := 3) rfl (by rw [ei_13]; rfl) (by decide) rfl (fun ls hl => ?_)
          refine lv_goto (tgt := 2) hx hb d_Co_layOn_31 (by decide) ?_
          rw [nI_1] at ei_13
          subst ei_13
          exact ih (i + 1) V_8 (updT O1 i g_10) _ _ _ (by omega) (by omega) (⟨hq_11, hF1.tr hq_11f, ly_t hY hlt (bI_ne0.mp c_5) hg_g_10⟩) hV hS (lv_sub hl [1, 2, 3, 0] rfl)
  exact loop_2 (σ.nl + 1 - 0) 0 V R _ _ _ (by omega) (by omega) (⟨hsh, hsFr.rf, ly_0⟩) hV hS (lv_sub hl [1, 2, 3, 0] rfl)
set_option maxHeartbeats 4000000 in
set_option maxRecDepth 100000 in
/-- pointAt -/
theorem c_Co_pointAt (l : Launch) (D : va_G) (N0 : Nat) (k : Nat → Nat) (V : HV) (b : HA) (σ : HS) (O R : Nat → Nat → Int32) (hsh : shS k V b σ O R) (i : Nat) (hi : i < 150) (ne : Int32) : Met l y_Co_pointAt (.code y_Co_pointAt b_Co_pointAt 5 (some (.object "BoardHouse$Thing")) :: WS) ({ frames := 1, cells := 0, slots := 0, locals := 22 }) (mP D N0 k [.ref b.co, .int (nI i), .int ne] V) (va_Qq (fun r V' => r = ptO b.f σ.T ne i ∧ V' = V) (mB D N0) (hA N0)) 0 0 (hA N0) := by
  refine Met.ofW (cc := b_Co_pointAt) (maxL := 5) (ret := (some (.object "BoardHouse$Thing"))) (by decide) rfl ?_
  intro p e s m args below meth c s₁ B hml hv0
  obtain ⟨rfl, hG, hV⟩ := hv0
  have hx := B.exec
  have hb := B.bytes
  have hr := B.returns
  have hts := atoms_spec (ws := .code y_Co_pointAt b_Co_pointAt 5 (some (.object "BoardHouse$Thing")) :: WS) B.pre
  have hW : ∀ w ∈ WS, w.before _ s = true := fun w h => hts w (List.mem_cons_of_mem _ h)
  have hown : s.vm.findClass "BoardHouse$Copper" = some m.cls := findClass_of_methodNamed B.named
  have hlocks := B.notSynchronized
  have hS : va_S (hA N0) s.heap s.heap [] := va_S.rf
  have hl := lv_entry ([.ref b.co, .int (nI i), .int ne]) (n := 5) (Nat.le_of_ble_eq_true rfl)
  rw [lg_entry_eq]
  generalize (lg_sl ([.ref b.co, .int (nI i), .int ne]) ++ List.replicate (5 - (lg_sl ([.ref b.co, .int (nI i), .int ne])).length) Slot.unset).toArray = ls at hl ⊢
  have hl : lv_has ls 5 [(0, .ref b.co), (1, .int (nI i)), (2, .int ne)] := hl
  have hn4 := hsh.1.n4
  have hn1 := hsh.1.n1
  refine lv_aload_n hx hb d_Co_pointAt_0 rfl (lv_at hl 0 rfl) ?_
  refine lv_iload_n hx hb d_Co_pointAt_1 rfl (lv_at hl 1 rfl) ?_
  refine rc_Q (va_runV (As := [.int (nI i)]) (rest := []) ⟨hx, hb, hml, hown, hts⟩ (c_Co_thereAt l D N0 k V b.co b.ta b.ro b.on b.re (nI σ.nl) σ.g hsh.1.co b.f b.ar σ.T hsh.1.ts i (by omega)) (cwV 1 hts (gi_V wm_Co_46 wv_Co_thereAt ws_Co_thereAt wi_Co wc_Co_thereAt) rfl rfl rfl (by decide +kernel) ⟨Nat.le_of_ble_eq_true rfl, Nat.le_of_ble_eq_true rfl⟩) (mP.preV hG hS hV hsh.1.co rfl) rfl rfl hl.1 rfl (lv_room (Nat.le_of_ble_eq_true rfl)) d_Co_pointAt_2 ⟨Nat.le_of_ble_eq_true rfl, Nat.le_of_ble_eq_true rfl⟩) hS (fun r_1 V_2 H locs hp_3 hV hS => ?_)
  obtain ⟨er_r_1, ev_r_1⟩ := hp_3
  rw [ev_r_1] at hV
  rw [er_r_1]
  by_cases h5_4 : σ.T i 5 = 0
  · rw [thO_none h5_4]
    refine W.eq (g2 := F0 m 5 ls [.null]) rfl ?_
    refine lv_astore_nN (lv' := [(3, .null), (0, .ref b.co), (1, .int (nI i)), (2, .int ne)]) hx hb d_Co_pointAt_5 rfl hl (by decide) rfl (fun ls hl => ?_)
    refine lv_aload_nN hx hb d_Co_pointAt_6 rfl (lv_at hl 0 rfl) ?_
    refine lv_ifnullN (tgt := 30) hx hb d_Co_pointAt_7 (by decide) ?_
    refine lv_iconst (v := 0) hx hb d_Co_pointAt_30 (by decide) ?_
    refine lv_istore (lv' := [(4, .int 0), (3, .null), (0, .ref b.co), (1, .int (nI i)), (2, .int ne)]) hx hb d_Co_pointAt_31 hl (by decide) rfl (fun ls hl => ?_)
    refine lv_iload hx hb d_Co_pointAt_33 (lv_at hl 0 rfl) ?_
    refine lv_if_eq (tgt := 42) hx hb d_Co_pointAt_35 (by decide) (fun _ => ?_) (fun q => absurd q (by decide))
    refine lv_null hx hb d_Co_pointAt_42 ?_
    exact W.aret (v := va_rf (none)) hx hb hr (by first | exact Or.inl ⟨_, rfl⟩ | exact Or.inr ⟨_, rfl⟩) (va_rf_or _) (fun t9 ht hW => ⟨⟨none, V, rfl, ⟨by rw [ptO, show ptP σ.T ne i = false by simp [ptP, h5_4]]; rfl, rfl⟩, mB_of ht hV⟩, hS.F ht⟩) hS.2.2 d_Co_pointAt_43
  · obtain ⟨t_5, e1_t_5, e2_t_5, h_t_5, ha_t_5⟩ := thO_some hsh.1.ts (show i < 150 by omega) h5_4
    rw [e1_t_5]
    refine W.eq (g2 := F0 m 5 ls [.ref t_5]) rfl ?_
    refine lv_astore_n (lv' := [(3, .ref t_5), (0, .ref b.co), (1, .int (nI i)), (2, .int ne)]) hx hb d_Co_pointAt_5 rfl hl (by decide) rfl (fun ls hl => ?_)
    refine lv_aload_n hx hb d_Co_pointAt_6 rfl (lv_at hl 0 rfl) ?_
    refine lv_ifnull hx hb d_Co_pointAt_7 ?_
    refine lv_aload_n hx hb d_Co_pointAt_10 rfl (lv_at hl 0 rfl) ?_
    refine gf_Co_135 hx hb hW hown hG hV h_t_5 d_Co_pointAt_11 ?_
    refine lv_iconst (v := 3) hx hb d_Co_pointAt_14 (by decide) ?_
    refine lv_icmp_ne (tgt := 30) hx hb d_Co_pointAt_15 (by decide) (fun c_6 => ?_) (fun c_6 => ?_)
    · refine lv_iconst (v := 0) hx hb d_Co_pointAt_30 (by decide) ?_
      refine lv_istore (lv' := [(4, .int 0), (3, .ref t_5), (0, .ref b.co), (1, .int (nI i)), (2, .int ne)]) hx hb d_Co_pointAt_31 hl (by decide) rfl (fun ls hl => ?_)
      refine lv_iload hx hb d_Co_pointAt_33 (lv_at hl 0 rfl) ?_
      refine lv_if_eq (tgt := 42) hx hb d_Co_pointAt_35 (by decide) (fun _ => ?_) (fun q => absurd q (by decide))
      refine lv_null hx hb d_Co_pointAt_42 ?_
      exact W.aret (v := va_rf (none)) hx hb hr (by first | exact Or.inl ⟨_, rfl⟩ | exact Or.inr ⟨_, rfl⟩) (va_rf_or _) (fun t9 ht hW => ⟨⟨none, V, rfl, ⟨by rw [ptO, show ptP σ.T ne i = false by simp [ptP, c_6, h5_4]]; rfl, rfl⟩, mB_of ht hV⟩, hS.F ht⟩) hS.2.2 d_Co_pointAt_43
    · refine lv_aload_n hx hb d_Co_pointAt_18 rfl (lv_at hl 0 rfl) ?_
      refine gf_Co_93 hx hb hW hown hG hV h_t_5 d_Co_pointAt_19 ?_
      refine lv_iload_n hx hb d_Co_pointAt_22 rfl (lv_at hl 3 rfl) ?_
      refine lv_icmp_ne (tgt := 30) hx hb d_Co_pointAt_23 (by decide) (fun c_7 => ?_) (fun c_7 => ?_)
      · refine lv_iconst (v := 0) hx hb d_Co_pointAt_30 (by decide) ?_
        refine lv_istore (lv' := [(4, .int 0), (3, .ref t_5), (0, .ref b.co), (1, .int (nI i)), (2, .int ne)]) hx hb d_Co_pointAt_31 hl (by decide) rfl (fun ls hl => ?_)
        refine lv_iload hx hb d_Co_pointAt_33 (lv_at hl 0 rfl) ?_
        refine lv_if_eq (tgt := 42) hx hb d_Co_pointAt_35 (by decide) (fun _ => ?_) (fun q => absurd q (by decide))
        refine lv_null hx hb d_Co_pointAt_42 ?_
        exact W.aret (v := va_rf (none)) hx hb hr (by first | exact Or.inl ⟨_, rfl⟩ | exact Or.inr ⟨_, rfl⟩) (va_rf_or _) (fun t9 ht hW => ⟨⟨none, V, rfl, ⟨by rw [ptO, show ptP σ.T ne i = false by simp [ptP, c_6, c_7, h5_4]]; rfl, rfl⟩, mB_of ht hV⟩, hS.F ht⟩) hS.2.2 d_Co_pointAt_43
      · refine lv_iconst (v := 1) hx hb d_Co_pointAt_26 (by decide) ?_
        refine lv_goto (tgt := 31) hx hb d_Co_pointAt_27 (by decide) ?_
        refine lv_istore (lv' := [(4, .int 1), (3, .ref t_5), (0, .ref b.co), (1, .int (nI i)), (2, .int ne)]) hx hb d_Co_pointAt_31 hl (by decide) rfl (fun ls hl => ?_)
        refine lv_iload hx hb d_Co_pointAt_33 (lv_at hl 0 rfl) ?_
        refine lv_if_eq (tgt := 42) hx hb d_Co_pointAt_35 (by decide) (fun q => absurd q (by decide)) (fun _ => ?_)
        refine lv_aload_n hx hb d_Co_pointAt_38 rfl (lv_at hl 1 rfl) ?_
        refine lv_goto (tgt := 43) hx hb d_Co_pointAt_39 (by decide) ?_
        exact W.aret (v := va_rf (some t_5)) hx hb hr (by first | exact Or.inl ⟨_, rfl⟩ | exact Or.inr ⟨_, rfl⟩) (va_rf_or _) (fun t9 ht hW => ⟨⟨(some t_5), V, rfl, ⟨by rw [ptO, show ptP σ.T ne i = true by simp [ptP, c_6, c_7, h5_4], if_pos rfl, e2_t_5], rfl⟩, mB_of ht hV⟩, hS.F ht⟩) hS.2.2 d_Co_pointAt_43
set_option maxHeartbeats 4000000 in
set_option maxRecDepth 100000 in
/-- isReached -/
theorem c_Co_isReached (l : Launch) (D : va_G) (N0 : Nat) (k : Nat → Nat) (V : HV) (b : HA) (σ : HS) (O R : Nat → Nat → Int32) (hsh : shS k V b σ O R) (p0 t : Nat) (hp : p0 < 150) (hf : b.f p0 = some t) (ne : Int32) (hG0 : ptG σ.T ne) (h20 : 20 ≤ p0) (h140 : p0 < 140) (hpt : ptP σ.T ne p0 = true) : Met l y_Co_isReached (.code y_Co_isReached b_Co_isReached 3 (some .boolean) :: WS) ({ frames := 3, cells := 0, slots := 0, locals := 69 }) (mP D N0 k [.ref b.co, .ref t] V) (va_Qi (fun r V' => r = bI (rcP σ.nl σ.T R p0) ∧ V' = V) (mB D N0) (hA N0)) 0 0 (hA N0) := by
  refine Met.ofW (cc := b_Co_isReached) (maxL := 3) (ret := (some .boolean)) (by decide) rfl ?_
  intro p e s m args below meth c s₁ B hml hv0
  obtain ⟨rfl, hG, hV⟩ := hv0
  have hx := B.exec
  have hb := B.bytes
  have hr := B.returns
  have hts := atoms_spec (ws := .code y_Co_isReached b_Co_isReached 3 (some .boolean) :: WS) B.pre
  have hW : ∀ w ∈ WS, w.before _ s = true := fun w h => hts w (List.mem_cons_of_mem _ h)
  have hown : s.vm.findClass "BoardHouse$Copper" = some m.cls := findClass_of_methodNamed B.named
  have hlocks := B.notSynchronized
  have hS : va_S (hA N0) s.heap s.heap [] := va_S.rf
  have hl := lv_entry ([.ref b.co, .ref t]) (n := 3) (Nat.le_of_ble_eq_true rfl)
  rw [lg_entry_eq]
  generalize (lg_sl ([.ref b.co, .ref t]) ++ List.replicate (3 - (lg_sl ([.ref b.co, .ref t])).length) Slot.unset).toArray = ls at hl ⊢
  have hl : lv_has ls 3 [(0, .ref b.co), (1, .ref t)] := hl
  have hn4 := hsh.1.n4
  have hn1 := hsh.1.n1
  obtain ⟨hz_1, hz_1a⟩ := hsh.1.ts.2.1 p0 t hp hf
  obtain ⟨hx32, hy24, ex6, ey7, -⟩ := hG0 p0 h20 h140 hpt
  have h_a9 := hz_1a
  rw [eArT, ex6, ey7] at h_a9
  refine lv_iconst (v := 0) hx hb d_Co_isReached_0 (by decide) ?_
  refine lv_istore_n (lv' := [(2, .int 0), (0, .ref b.co), (1, .ref t)]) hx hb d_Co_isReached_1 rfl hl (by decide) rfl (fun ls hl => ?_)
  obtain ⟨P, hP⟩ : ∃ P : Nat → Bool, P = fun l => bt (R l (py σ.T p0)) (px σ.T p0) := ⟨_, rfl⟩
  have loop_2 : ∀ (n i : Nat) (H : Heap) (locs : List Loc) (ls : Array Slot), i ≤ σ.nl → σ.nl + 1 ≤ i + n → (bI (anyF P 0 σ.nl) = bI (anyF P i (σ.nl - i))) → hv D vwCl N0 V H → va_S (hA N0) s.heap H locs → lv_has ls 3 [(0, .ref b.co), (1, .ref t), (2, .int (nI i))] → W p l e (headSpec (.code y_Co_isReached b_Co_isReached 3 (some .boolean) :: WS) ({ frames := 3, cells := 0, slots := 0, locals := 69 })).room s m #[.ref b.co, .ref t] below meth c H locs 0 0 (MQ below (va_Qi (fun r V' => r = bI (rcP σ.nl σ.T R p0) ∧ V' = V) (mB D N0) (hA N0)) #[.ref b.co, .ref t] s 0 0 (hA N0)) (F0 m 2 ls []) := by
    intro n
    induction n with
    | zero => intro i  H locs ls h1 h2; exact absurd h2 (by omega)
    | succ n ih =>
      intro i  H locs ls hi hin hI hV hS hl
      refine lv_iload_n hx hb d_Co_isReached_2 rfl (lv_at hl 2 rfl) ?_
      refine lv_aload_n hx hb d_Co_isReached_3 rfl (lv_at hl 0 rfl) ?_
      refine gf_Co_24 hx hb hW hown hG hV hsh.1.co d_Co_isReached_4 ?_
      refine lv_icmp_ge (tgt := 34) hx hb d_Co_isReached_7 (by decide) (fun c_3 => ?_) (fun c_3 => ?_)
      · have hge : σ.nl ≤ i := nI_le' c_3 (by omega) (by omega)
        refine lv_iconst (v := 0) hx hb d_Co_isReached_34 (by decide) ?_
        exact W.zret (v := 0) hx hb hr rfl (fun t9 ht hW => ⟨⟨0, V, rfl, ⟨by rw [rcP, ← hP, hI, anyF_end hge]; rfl, rfl⟩, mB_of ht hV⟩, hS.F ht⟩) hS.2.2 d_Co_isReached_35
      · have hlt : i < σ.nl := nI_nle' c_3 (by omega) (by omega)
        refine lv_aload_n hx hb d_Co_isReached_10 rfl (lv_at hl 0 rfl) ?_
        refine gf_Co_39 hx hb hW hown hG hV hsh.1.co d_Co_isReached_11 ?_
        refine lv_iload_n hx hb d_Co_isReached_14 rfl (lv_at hl 2 rfl) ?_
        refine hv_aald (v := b.fs i) hx hb hG.K hV 6 hsh.1.re rfl (vp_in_nI (by omega) (by omega)) (by rw [nI_clamp (by omega)]) d_Co_isReached_15 ?_
        obtain ⟨hz_4a, hz_4b, -, hz_4c, hz_4d, -⟩ := hsh.1.os i hlt
        rw [hz_4c]
        refine W.eq (g2 := F0 m 16 ls [.ref (b.ss i)]) rfl ?_
        refine lv_aload_n hx hb d_Co_isReached_16 rfl (lv_at hl 1 rfl) ?_
        refine gf_Co_96 hx hb hW hown hG hV hz_1 d_Co_isReached_17 ?_
        refine rc_i (va_runV (As := [.ref (b.ar p0)]) (rest := []) ⟨hx, hb, hml, hown, hts⟩ (c_Sh_hasFirstOf l D N0 k V (b.ss i) (b.sR i) (R i) hz_4d (hsh.2 i hlt).2 (b.ar p0) (py σ.T p0) (nI (px σ.T p0)) (σ.T p0 8) (σ.T p0 9) hy24 h_a9) (cwV 1 hts (gi_V wm_Co_138 wv_Sh_hasFirstOf ws_Sh_hasFirstOf wi_Sh wc_Sh_hasFirstOf) rfl rfl rfl (by decide +kernel) ⟨Nat.le_of_ble_eq_true rfl, Nat.le_of_ble_eq_true rfl⟩) (mP.preV hG hS hV hz_4d rfl) rfl rfl hl.1 rfl (lv_room (Nat.le_of_ble_eq_true rfl)) d_Co_isReached_20 ⟨Nat.le_of_ble_eq_true rfl, Nat.le_of_ble_eq_true rfl⟩) hS (fun H locs hV hS => ?_)
        refine lv_if_eq (tgt := 28) hx hb d_Co_isReached_23 (by decide) (fun c_5 => ?_) (fun c_5 => ?_)
        · obtain ⟨i_6, ei_6⟩ : ∃ y : Int32, y = (nI i) + 1 := ⟨_, rfl⟩
          refine lv_iinc (v := i_6) (lv' := [(2, .int i_6), (0, .ref b.co), (1, .ref t)]) hx hb d_Co_isReached_28 hl (k := 2) rfl (by rw [ei_6]; rfl) (by decide) rfl (fun ls hl => ?_)
          refine lv_goto (tgt := 2) hx hb d_Co_isReached_31 (by decide) ?_
          rw [nI_1] at ei_6
          subst ei_6
          have hPi : P i = false := by subst hP; rw [and_bit hx32] at c_5; exact bI_eq0.mp c_5
          exact ih (i + 1)  _ _ _ (by omega) (by omega) (by rw [hI, anyF_step hlt, hPi, Bool.false_or]) hV hS (lv_sub hl [1, 2, 0] rfl)
        · refine lv_iconst (v := 1) hx hb d_Co_isReached_26 (by decide) ?_
          have hPi : P i = true := by subst hP; rw [and_bit hx32] at c_5; exact bI_ne0.mp c_5
          exact W.zret (v := 1) hx hb hr rfl (fun t9 ht hW => ⟨⟨1, V, rfl, ⟨by rw [rcP, ← hP, hI, anyF_step hlt, hPi]; rfl, rfl⟩, mB_of ht hV⟩, hS.F ht⟩) hS.2.2 d_Co_isReached_27
  exact loop_2 (σ.nl + 1 - 0) 0  _ _ _ (by omega) (by omega) rfl hV hS (lv_sub hl [1, 2, 0] rfl)
