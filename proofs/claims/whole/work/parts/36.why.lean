/-! The house's questions, over its numbers -/
def brA (A : Nat → Nat → Int32) (wo : Option Nat) (x y u v : Int32) : Nat → Bool := fun j => !decide (A j 0 = 0) && !decide (wo = some j) && ar_meets (A j 2) (A j 3) (A j 4) (A j 5) x y u v
def inA (A : Nat → Nat → Int32) (wo : Option Nat) (x y u v : Int32) : Bool := match wo with
  | none => true
  | some j => ar_holds (A j 2) (A j 3) (A j 4) (A j 5) x y u v
def barr (σ : HS) (x y u v : Int32) : Bool := !inA σ.A σ.wo x y u v || anyF (brA σ.A σ.wo x y u v) 0 10
theorem anyF_congr {P Q : Nat → Bool} : ∀ (n i : Nat), (∀ j, i ≤ j → j < i + n → P j = Q j) → anyF P i n = anyF Q i n := by
  intro n
  induction n with
  | zero => intro i _; rfl
  | succ n ih => intro i h; rw [anyF, anyF, h i (Nat.le_refl _) (by omega), ih (i + 1) (fun j h1 h2 => h j (by omega) (by omega))]
theorem cntF_congr {P Q : Nat → Bool} : ∀ (n i : Nat), (∀ j, i ≤ j → j < i + n → P j = Q j) → cntF P i n = cntF Q i n := by
  intro n
  induction n with
  | zero => intro i _; rfl
  | succ n ih => intro i h; rw [cntF, cntF, h i (Nat.le_refl _) (by omega), ih (i + 1) (fun j h1 h2 => h j (by omega) (by omega))]
theorem mt_br {k : Nat → Nat} {V : HV} {b : HA} {σ : HS} (h : hsOk k V b σ) {x y u v : Int32} : anyF (mtP b.fa σ.A (woA b σ.wo) x y u v) 0 10 = anyF (brA σ.A σ.wo x y u v) 0 10 := by
  refine anyF_congr 10 0 (fun j _ hj => ?_)
  have hj : j < 10 := by omega
  rw [mtP, brA]
  cases hf : b.fa j with
  | none => rw [h.ac.2.2 j hj hf]; rfl
  | some t =>
    have e : decide (some t = woA b σ.wo) = decide (σ.wo = some j) := by
      cases hw : σ.wo with
      | none => rfl
      | some j' =>
        obtain ⟨hj', t', ht'⟩ := h.wo j' hw
        rw [woA, Option.bind_some, ht']
        have h1 := (h.lab.la j t hj hf).1
        have h2 := (h.lab.la j' t' hj' ht').1
        by_cases hjj : j' = j
        · subst hjj; rw [hf] at ht'; cases ht'; simp
        · have : t ≠ t' := fun z => by rw [z] at h1; omega
          simp [this, hjj]
    rw [e]
def ovP (T : Nat → Nat → Int32) (ex : Option Nat) (kd la x y u v : Int32) : Nat → Bool := fun j => !decide (T j 5 = 0) && !decide (ex = some j) && th_excludes (T j 0) (T j 2) kd la && ar_meets (T j 6) (T j 7) (T j 8) (T j 9) x y u v
/-- the thing at t is that of slot ex, or of none -/
def exT (f : Nat → Option Nat) (t : Nat) (ex : Option Nat) : Prop := ∀ j, j < 150 → (f j = some t ↔ ex = some j)
theorem exT_d {f : Nat → Option Nat} {t : Nat} {ex : Option Nat} (h : exT f t ex) {j : Nat} (hj : j < 150) : decide (f j = some t) = decide (ex = some j) := by
  by_cases q : f j = some t
  · rw [decide_eq_true q, decide_eq_true ((h j hj).mp q)]
  · rw [decide_eq_false q, decide_eq_false (fun z => q ((h j hj).mpr z))]
def clP (T : Nat → Nat → Int32) (ex : Option Nat) (hn : Int32) (R : Nat → Int32) (g dx dy : Int32) : Nat → Bool := fun j => !decide (T j 5 = 0) && !(decide (ex = some j) || decide (T j 4 = hn)) && th_clash (R 0) (R 2) (R 3) (R 6) (R 7) (R 8) (R 9) (T j 0) (T j 2) (T j 3) (T j 6) (T j 7) (T j 8) (T j 9) g dx dy
theorem cl_co {f : Nat → Option Nat} {T : Nat → Nat → Int32} {t : Nat} {ex : Option Nat} (h : exT f t ex) {kd nu g dx dy : Int32} {R : Nat → Int32} : anyF (co_P f T t kd nu (R 0) (R 2) (R 3) (R 6) (R 7) (R 8) (R 9) g dx dy) 20 120 = anyF (clP T ex (1000 * kd + nu) R g dx dy) 20 120 :=
  anyF_congr 120 20 (fun j _ hj => by rw [co_P, clP, goesT, exT_d h (by omega)])
def clA (T : Nat → Nat → Int32) (ex : Option Nat) (hn g dx dy : Int32) : Nat → Bool := fun j => !decide (T j 5 = 0) && (decide (ex = some j) || decide (T j 4 = hn)) && anyF (clP T ex hn (T j) g dx dy) 20 120
theorem clA_co {f : Nat → Option Nat} {T : Nat → Nat → Int32} {t : Nat} {ex : Option Nat} (h : exT f t ex) {kd nu g dx dy : Int32} : anyF (co_A f T t kd nu g dx dy) 20 120 = anyF (clA T ex (1000 * kd + nu) g dx dy) 20 120 :=
  anyF_congr 120 20 (fun j _ hj => by rw [co_A, clA, goesT, exT_d h (by omega), cl_co h (R := T j)])
def whyMd (σ : HS) (K : Nat) (R : Nat → Int32) (ex : Option Nat) (x y u v : Int32) : Int32 :=
  if limV K ≤ σ.G K then 1 else if ar_holds x y u v (R 6) (R 7) (R 8) (R 9) = false then 2 else if barr σ (R 6) (R 7) (R 8) (R 9) then 3 else if anyF (ovP σ.T ex (R 0) (R 2) (R 6) (R 7) (R 8) (R 9)) 0 150 then 4 else if anyF (clP σ.T ex (1000 * R 0 + R 1) R σ.g 0 0) 20 120 then 5 else 0
def whyMv (σ : HS) (i : Nat) (x y u v : Int32) : Int32 :=
  if ar_holds 0 0 31 23 x y u v = false then 2 else if barr σ (σ.T i 6) (σ.T i 7) (σ.T i 8) (σ.T i 9) || barr σ x y u v then 3 else if anyF (ovP σ.T (some i) (σ.T i 0) (σ.T i 2) x y u v) 0 150 then 4 else if anyF (clA σ.T (some i) (1000 * σ.T i 0 + σ.T i 1) σ.g (x - σ.T i 6) (y - σ.T i 7)) 20 120 then 5 else 0
def whyBg (σ : HS) (x y u v : Int32) : Int32 :=
  if limV 6 ≤ σ.G 6 then 1 else if ar_holds 0 0 31 23 x y u v = false then 2 else if anyF (brA σ.A none x y u v) 0 10 then 3 else 0
theorem mt_brN {k : Nat → Nat} {V : HV} {b : HA} {σ : HS} (h : hsOk k V b σ) {x y u v : Int32} : anyF (mtP b.fa σ.A none x y u v) 0 10 = anyF (brA σ.A none x y u v) 0 10 := by
  refine anyF_congr 10 0 (fun j _ hj => ?_)
  rw [mtP, brA]
  cases hf : b.fa j with
  | none => rw [h.ac.2.2 j (by omega) hf]; rfl
  | some t => rfl
theorem exT_of {k : Nat → Nat} {V : HV} {b : HA} {σ : HS} (h : hsOk k V b σ) {i t : Nat} (hi : i < 150) (hf : b.f i = some t) : exT b.f t (some i) := fun j hj => ⟨fun hj' => by rw [(tsIn_of h.lab).1 i j t hi hj hf hj'], fun e => by cases e; exact hf⟩
/-- what noteChange does -/
def ntS (σ : HS) (i : Nat) : HS := match σ.wo with
  | none => σ
  | some j => (σ.wA (updT σ.A j (upd (σ.A j) 1 (σ.A j 1 + 1)))).wZ (updT σ.Z j (if σ.Z j i = -1 then upd (σ.Z j) i (stT (σ.T i)) else σ.Z j))
set_option maxHeartbeats 4000000 in
set_option maxRecDepth 100000 in
/-- isBarred -/
theorem c_Ho_isBarred (l : Launch) (D : va_G) (N0 : Nat) (k : Nat → Nat) (V : HV) (b : HA) (σ : HS) (hH : hsOk k V b σ) (a : Nat) (x y u v : Int32) (h_a : V a = some (eAr x y u v)) : Met l y_Ho_isBarred (.code y_Ho_isBarred b_Ho_isBarred 2 (some .boolean) :: WS) ({ frames := 2, cells := 0, slots := 0, locals := 47 }) (mP D N0 k [.ref b.ho, .ref a] V) (va_Qi (fun r V' => r = bI (barr σ x y u v) ∧ V' = V) (mB D N0) (hA N0)) 0 0 (hA N0) := by
  refine Met.ofW (cc := b_Ho_isBarred) (maxL := 2) (ret := (some .boolean)) (by decide) rfl ?_
  intro p e s m args below meth c s₁ B hml hv0
  obtain ⟨rfl, hG, hV⟩ := hv0
  have hx := B.exec
  have hb := B.bytes
  have hr := B.returns
  have hts := atoms_spec (ws := .code y_Ho_isBarred b_Ho_isBarred 2 (some .boolean) :: WS) B.pre
  have hW : ∀ w ∈ WS, w.before _ s = true := fun w h => hts w (List.mem_cons_of_mem _ h)
  have hown : s.vm.findClass "BoardHouse" = some m.cls := findClass_of_methodNamed B.named
  have hlocks := B.notSynchronized
  have hS : va_S (hA N0) s.heap s.heap [] := va_S.rf
  have hl := lv_entry ([.ref b.ho, .ref a]) (n := 2) (Nat.le_of_ble_eq_true rfl)
  rw [lg_entry_eq]
  generalize (lg_sl ([.ref b.ho, .ref a]) ++ List.replicate (2 - (lg_sl ([.ref b.ho, .ref a])).length) Slot.unset).toArray = ls at hl ⊢
  have hl : lv_has ls 2 [(0, .ref b.ho), (1, .ref a)] := hl
  cases hwo : σ.wo with
  | none =>
    have hho : V b.ho = some (.inr (6, [.int (nI σ.nl), .ref b.bo, .ref b.gi, .ref b.co, .ref b.ta, .ref b.ac, .ref b.ve, .null, .int σ.rs])) := by rw [hH.ho, hwo]; rfl
    refine lv_aload_n hx hb d_Ho_isBarred_0 rfl (lv_at hl 0 rfl) ?_
    refine gf_Ho_37 hx hb hW hown hG hV hho d_Ho_isBarred_1 ?_
    refine lv_ifnullN (tgt := 21) hx hb d_Ho_isBarred_4 (by decide) ?_
    refine lv_aload_n hx hb d_Ho_isBarred_21 rfl (lv_at hl 0 rfl) ?_
    refine lv_aload_n hx hb d_Ho_isBarred_22 rfl (lv_at hl 1 rfl) ?_
    refine lv_aload_n hx hb d_Ho_isBarred_23 rfl (lv_at hl 0 rfl) ?_
    refine gf_Ho_37 hx hb hW hown hG hV hho d_Ho_isBarred_24 ?_
    refine rc_i (va_runV (As := [.ref a, .null]) (rest := []) ⟨hx, hb, hml, hown, hts⟩ (c_Ho_meetsOpenAct_N l D N0 k V b.ho b.bo b.gi b.co b.ta b.ac b.ve (woA b σ.wo) (nI σ.nl) σ.rs hH.ho σ.G hH.gi b.fa b.rg b.sn b.sa σ.A σ.Z hH.ac a x y u v h_a) (cwV 2 hts (gi_V wm_Ho_271 wv_Ho_meetsOpenAct ws_Ho_meetsOpenAct wi_Ho wc_Ho_meetsOpenAct) rfl rfl rfl (by decide +kernel) ⟨Nat.le_of_ble_eq_true rfl, Nat.le_of_ble_eq_true rfl⟩) (mP.preV hG hS hV hho rfl) rfl rfl hl.1 rfl (lv_room (Nat.le_of_ble_eq_true rfl)) d_Ho_isBarred_27 ⟨Nat.le_of_ble_eq_true rfl, Nat.le_of_ble_eq_true rfl⟩) hS (fun H locs hV hS => ?_)
    refine lv_if_eq (tgt := 37) hx hb d_Ho_isBarred_30 (by decide) (fun c_1 => ?_) (fun c_1 => ?_)
    · refine lv_iconst (v := 0) hx hb d_Ho_isBarred_37 (by decide) ?_
      simp only [bI_ne0, bI_eq0] at c_1
      have hm := mt_br hH (x := x) (y := y) (u := u) (v := v)
      rw [hwo, show woA b none = none from rfl] at hm
      exact W.zret (v := 0) hx hb hr rfl (fun t ht hW => ⟨⟨0, V, rfl, ⟨by rw [barr, hwo, inA, ← hm]; simp [c_1]; try rfl, rfl⟩, mB_of ht hV⟩, hS.F ht⟩) hS.2.2 d_Ho_isBarred_38
    · refine lv_iconst (v := 1) hx hb d_Ho_isBarred_33 (by decide) ?_
      refine lv_goto (tgt := 38) hx hb d_Ho_isBarred_34 (by decide) ?_
      simp only [bI_ne0, bI_eq0] at c_1
      have hm := mt_br hH (x := x) (y := y) (u := u) (v := v)
      rw [hwo, show woA b none = none from rfl] at hm
      exact W.zret (v := 1) hx hb hr rfl (fun t ht hW => ⟨⟨1, V, rfl, ⟨by rw [barr, hwo, inA, ← hm]; simp [c_1]; try rfl, rfl⟩, mB_of ht hV⟩, hS.F ht⟩) hS.2.2 d_Ho_isBarred_38
  | some jw =>
    obtain ⟨hjw, tw, hfw⟩ := hH.wo jw hwo
    obtain ⟨h_tw, hr_tw, hs_tw, hz_tw⟩ := hH.ac.2.1 jw tw hjw hfw
    have hwA : woA b σ.wo = some tw := by rw [woA, hwo, Option.bind_some, hfw]
    have hho : V b.ho = some (.inr (6, [.int (nI σ.nl), .ref b.bo, .ref b.gi, .ref b.co, .ref b.ta, .ref b.ac, .ref b.ve, .ref tw, .int σ.rs])) := by rw [hH.ho, hwA]; rfl
    refine lv_aload_n hx hb d_Ho_isBarred_0 rfl (lv_at hl 0 rfl) ?_
    refine gf_Ho_37 hx hb hW hown hG hV hho d_Ho_isBarred_1 ?_
    refine lv_ifnull hx hb d_Ho_isBarred_4 ?_
    refine lv_aload_n hx hb d_Ho_isBarred_7 rfl (lv_at hl 0 rfl) ?_
    refine gf_Ho_37 hx hb hW hown hG hV hho d_Ho_isBarred_8 ?_
    refine gf_Ho_275 hx hb hW hown hG hV h_tw d_Ho_isBarred_11 ?_
    refine lv_aload_n hx hb d_Ho_isBarred_14 rfl (lv_at hl 1 rfl) ?_
    refine rc_i (va_runV (As := [.ref a]) (rest := []) ⟨hx, hb, hml, hown, hts⟩ (c_Ar_holds l D N0 k V (b.rg jw) a (σ.A jw 2) (σ.A jw 3) (σ.A jw 4) (σ.A jw 5) x y u v hr_tw h_a) (cwV 1 hts (gi_V wm_Ho_256 wv_Ar_holds ws_Ar_holds wi_Ar wc_Ar_holds) rfl rfl rfl (by decide +kernel) ⟨Nat.le_of_ble_eq_true rfl, Nat.le_of_ble_eq_true rfl⟩) (mP.preV hG hS hV hr_tw rfl) rfl rfl hl.1 rfl (lv_room (Nat.le_of_ble_eq_true rfl)) d_Ho_isBarred_15 ⟨Nat.le_of_ble_eq_true rfl, Nat.le_of_ble_eq_true rfl⟩) hS (fun H locs hV hS => ?_)
    refine lv_if_eq (tgt := 33) hx hb d_Ho_isBarred_18 (by decide) (fun c_2 => ?_) (fun c_2 => ?_)
    · refine lv_iconst (v := 1) hx hb d_Ho_isBarred_33 (by decide) ?_
      refine lv_goto (tgt := 38) hx hb d_Ho_isBarred_34 (by decide) ?_
      simp only [bI_ne0, bI_eq0] at c_2
      have hm := mt_br hH (x := x) (y := y) (u := u) (v := v)
      rw [hwA, hwo] at hm
      exact W.zret (v := 1) hx hb hr rfl (fun t ht hW => ⟨⟨1, V, rfl, ⟨by rw [barr, hwo, inA, ← hm]; simp [c_2]; try rfl, rfl⟩, mB_of ht hV⟩, hS.F ht⟩) hS.2.2 d_Ho_isBarred_38
    · refine lv_aload_n hx hb d_Ho_isBarred_21 rfl (lv_at hl 0 rfl) ?_
      refine lv_aload_n hx hb d_Ho_isBarred_22 rfl (lv_at hl 1 rfl) ?_
      refine lv_aload_n hx hb d_Ho_isBarred_23 rfl (lv_at hl 0 rfl) ?_
      refine gf_Ho_37 hx hb hW hown hG hV hho d_Ho_isBarred_24 ?_
      refine rc_i (va_runV (As := [.ref a, .ref tw]) (rest := []) ⟨hx, hb, hml, hown, hts⟩ (c_Ho_meetsOpenAct_S l D N0 k V b.ho b.bo b.gi b.co b.ta b.ac b.ve (woA b σ.wo) (nI σ.nl) σ.rs hH.ho σ.G hH.gi b.fa b.rg b.sn b.sa σ.A σ.Z hH.ac a x y u v h_a tw) (cwV 2 hts (gi_V wm_Ho_271 wv_Ho_meetsOpenAct ws_Ho_meetsOpenAct wi_Ho wc_Ho_meetsOpenAct) rfl rfl rfl (by decide +kernel) ⟨Nat.le_of_ble_eq_true rfl, Nat.le_of_ble_eq_true rfl⟩) (mP.preV hG hS hV hho rfl) rfl rfl hl.1 rfl (lv_room (Nat.le_of_ble_eq_true rfl)) d_Ho_isBarred_27 ⟨Nat.le_of_ble_eq_true rfl, Nat.le_of_ble_eq_true rfl⟩) hS (fun H locs hV hS => ?_)
      refine lv_if_eq (tgt := 37) hx hb d_Ho_isBarred_30 (by decide) (fun c_3 => ?_) (fun c_3 => ?_)
      · refine lv_iconst (v := 0) hx hb d_Ho_isBarred_37 (by decide) ?_
        simp only [bI_ne0, bI_eq0] at c_2
        simp only [bI_ne0, bI_eq0] at c_3
        have hm := mt_br hH (x := x) (y := y) (u := u) (v := v)
        rw [hwA, hwo] at hm
        exact W.zret (v := 0) hx hb hr rfl (fun t ht hW => ⟨⟨0, V, rfl, ⟨by rw [barr, hwo, inA, ← hm]; simp [c_2, c_3]; try rfl, rfl⟩, mB_of ht hV⟩, hS.F ht⟩) hS.2.2 d_Ho_isBarred_38
      · refine lv_iconst (v := 1) hx hb d_Ho_isBarred_33 (by decide) ?_
        refine lv_goto (tgt := 38) hx hb d_Ho_isBarred_34 (by decide) ?_
        simp only [bI_ne0, bI_eq0] at c_2
        simp only [bI_ne0, bI_eq0] at c_3
        have hm := mt_br hH (x := x) (y := y) (u := u) (v := v)
        rw [hwA, hwo] at hm
        exact W.zret (v := 1) hx hb hr rfl (fun t ht hW => ⟨⟨1, V, rfl, ⟨by rw [barr, hwo, inA, ← hm]; simp [c_2, c_3]; try rfl, rfl⟩, mB_of ht hV⟩, hS.F ht⟩) hS.2.2 d_Ho_isBarred_38
set_option maxHeartbeats 4000000 in
set_option maxRecDepth 100000 in
/-- overlapsAnother -/
theorem c_Ho_overlapsAnother (l : Launch) (D : va_G) (N0 : Nat) (k : Nat → Nat) (V : HV) (b : HA) (σ : HS) (hH : hsOk k V b σ) (t a0 : Nat) (R : Nat → Int32) (h_t : V t = some (eThR R a0)) (h_a0 : V a0 = some (eArR R)) (a : Nat) (x y u v : Int32) (h_a : V a = some (eAr x y u v)) (ex : Option Nat) (hex : exT b.f t ex) : Met l y_Ho_overlapsAnother (.code y_Ho_overlapsAnother b_Ho_overlapsAnother 7 (some .boolean) :: WS) ({ frames := 1, cells := 0, slots := 0, locals := 21 }) (mP D N0 k [.ref b.ho, .ref t, .ref a] V) (va_Qi (fun r V' => r = bI (anyF (ovP σ.T ex (R 0) (R 2) x y u v) 0 150) ∧ V' = V) (mB D N0) (hA N0)) 0 0 (hA N0) := by
  refine Met.ofW (cc := b_Ho_overlapsAnother) (maxL := 7) (ret := (some .boolean)) (by decide) rfl ?_
  intro p e s m args below meth c s₁ B hml hv0
  obtain ⟨rfl, hG, hV⟩ := hv0
  have hx := B.exec
  have hb := B.bytes
  have hr := B.returns
  have hts := atoms_spec (ws := .code y_Ho_overlapsAnother b_Ho_overlapsAnother 7 (some .boolean) :: WS) B.pre
  have hW : ∀ w ∈ WS, w.before _ s = true := fun w h => hts w (List.mem_cons_of_mem _ h)
  have hown : s.vm.findClass "BoardHouse" = some m.cls := findClass_of_methodNamed B.named
  have hlocks := B.notSynchronized
  have hS : va_S (hA N0) s.heap s.heap [] := va_S.rf
  have hl := lv_entry ([.ref b.ho, .ref t, .ref a]) (n := 7) (Nat.le_of_ble_eq_true rfl)
  rw [lg_entry_eq]
  generalize (lg_sl ([.ref b.ho, .ref t, .ref a]) ++ List.replicate (7 - (lg_sl ([.ref b.ho, .ref t, .ref a])).length) Slot.unset).toArray = ls at hl ⊢
  have hl : lv_has ls 7 [(0, .ref b.ho), (1, .ref t), (2, .ref a)] := hl
  refine lv_aload_n hx hb d_Ho_overlapsAnother_0 rfl (lv_at hl 0 rfl) ?_
  refine gf_Ho_70 hx hb hW hown hG hV hH.ho d_Ho_overlapsAnother_1 ?_
  refine lv_astore_n (lv' := [(3, .ref b.ta), (0, .ref b.ho), (1, .ref t), (2, .ref a)]) hx hb d_Ho_overlapsAnother_4 rfl hl (by decide) rfl (fun ls hl => ?_)
  refine lv_aload_n hx hb d_Ho_overlapsAnother_5 rfl (lv_at hl 0 rfl) ?_
  refine hv_alen hx hb hG.K hV 3 hH.ts.1 rfl (v := nI 150) rfl d_Ho_overlapsAnother_6 ?_
  refine lv_istore (lv' := [(4, .int (nI 150)), (3, .ref b.ta), (0, .ref b.ho), (1, .ref t), (2, .ref a)]) hx hb d_Ho_overlapsAnother_7 hl (by decide) rfl (fun ls hl => ?_)
  refine lv_iconst (v := 0) hx hb d_Ho_overlapsAnother_9 (by decide) ?_
  refine lv_istore (lv' := [(5, .int 0), (4, .int (nI 150)), (3, .ref b.ta), (0, .ref b.ho), (1, .ref t), (2, .ref a)]) hx hb d_Ho_overlapsAnother_10 hl (by decide) rfl (fun ls hl => ?_)
  obtain ⟨P, hP⟩ : ∃ P : Nat → Bool, P = (ovP σ.T ex (R 0) (R 2) x y u v) := ⟨_, rfl⟩
  have loop_1 : ∀ (n i : Nat) (H : Heap) (locs : List Loc) (ls : Array Slot), i ≤ 150 → 150 + 1 ≤ i + n → (bI (anyF P 0 150) = bI (anyF P i (150 - i))) → hv D vwCl N0 V H → va_S (hA N0) s.heap H locs → lv_has ls 7 [(0, .ref b.ho), (1, .ref t), (2, .ref a), (3, .ref b.ta), (4, .int (nI 150)), (5, .int (nI i))] → W p l e (headSpec (.code y_Ho_overlapsAnother b_Ho_overlapsAnother 7 (some .boolean) :: WS) ({ frames := 1, cells := 0, slots := 0, locals := 21 })).room s m #[.ref b.ho, .ref t, .ref a] below meth c H locs 0 0 (MQ below (va_Qi (fun r V' => r = bI (anyF (ovP σ.T ex (R 0) (R 2) x y u v) 0 150) ∧ V' = V) (mB D N0) (hA N0)) #[.ref b.ho, .ref t, .ref a] s 0 0 (hA N0)) (F0 m 12 ls []) := by
    intro n
    induction n with
    | zero => intro i  H locs ls h1 h2; exact absurd h2 (by omega)
    | succ n ih =>
      intro i  H locs ls hi hin hI hV hS hl
      refine lv_iload hx hb d_Ho_overlapsAnother_12 (lv_at hl 5 rfl) ?_
      refine lv_iload hx hb d_Ho_overlapsAnother_14 (lv_at hl 4 rfl) ?_
      refine lv_icmp_ge (tgt := 73) hx hb d_Ho_overlapsAnother_16 (by decide) (fun c_2 => ?_) (fun c_2 => ?_)
      · have hge : 150 ≤ i := nI_le' c_2 (by omega) (by omega)
        refine lv_iconst (v := 0) hx hb d_Ho_overlapsAnother_73 (by decide) ?_
        exact W.zret (v := 0) hx hb hr rfl (fun t ht hW => ⟨⟨0, V, rfl, ⟨by rw [← hP, hI, anyF_end hge]; rfl, rfl⟩, mB_of ht hV⟩, hS.F ht⟩) hS.2.2 d_Ho_overlapsAnother_74
      · have hlt : i < 150 := nI_nle' c_2 (by omega) (by omega)
        refine lv_aload_n hx hb d_Ho_overlapsAnother_19 rfl (lv_at hl 3 rfl) ?_
        refine lv_iload hx hb d_Ho_overlapsAnother_20 (lv_at hl 5 rfl) ?_
        refine hv_aald (v := b.f i) hx hb hG.K hV 3 hH.ts.1 rfl (vp_in_nI (by omega) (by omega)) (by rw [nI_clamp (by omega)]) d_Ho_overlapsAnother_22 ?_
        cases hf_3 : b.f i with
        | none =>
          refine W.eq (g2 := F0 m 23 ls [.null]) rfl ?_
          refine lv_astoreN (lv' := [(6, .null), (0, .ref b.ho), (1, .ref t), (2, .ref a), (3, .ref b.ta), (4, .int (nI 150)), (5, .int (nI i))]) hx hb d_Ho_overlapsAnother_23 hl (by decide) rfl (fun ls hl => ?_)
          refine lv_aloadN hx hb d_Ho_overlapsAnother_25 (lv_at hl 0 rfl) ?_
          refine lv_ifnullN (tgt := 67) hx hb d_Ho_overlapsAnother_27 (by decide) ?_
          obtain ⟨i_5, ei_5⟩ : ∃ y : Int32, y = (nI i) + 1 := ⟨_, rfl⟩
          refine lv_iinc (v := i_5) (lv' := [(5, .int i_5), (6, .null), (0, .ref b.ho), (1, .ref t), (2, .ref a), (3, .ref b.ta), (4, .int (nI 150))]) hx hb d_Ho_overlapsAnother_67 hl (k := 6) rfl (by rw [ei_5]; rfl) (by decide) rfl (fun ls hl => ?_)
          refine lv_goto (tgt := 12) hx hb d_Ho_overlapsAnother_70 (by decide) ?_
          rw [nI_1] at ei_5
          subst ei_5
          have hA9 := hH.ts.2.2 i (by omega) hf_3
          have hPi : P i = false := by subst hP; first | (simp [ovP, hA9]; done) | (simp [ovP, ← hd9, hA9]; done) | (simp only [ovP, ← hd9]; simp_all; done)
          exact ih (i + 1)  _ _ _ (by omega) (by omega) (by rw [hI, anyF_step hlt, hPi, Bool.false_or]) hV hS (lv_sub hl [2, 3, 4, 5, 6, 0] rfl)
        | some t_4 =>
          refine W.eq (g2 := F0 m 23 ls [.ref t_4]) rfl ?_
          obtain ⟨h_t_4, ha_t_4⟩ := hH.ts.2.1 i t_4 (by omega) hf_3
          refine lv_astore (lv' := [(6, .ref t_4), (0, .ref b.ho), (1, .ref t), (2, .ref a), (3, .ref b.ta), (4, .int (nI 150)), (5, .int (nI i))]) hx hb d_Ho_overlapsAnother_23 hl (by decide) rfl (fun ls hl => ?_)
          refine lv_aload hx hb d_Ho_overlapsAnother_25 (lv_at hl 0 rfl) ?_
          refine lv_ifnull hx hb d_Ho_overlapsAnother_27 ?_
          refine lv_aload hx hb d_Ho_overlapsAnother_30 (lv_at hl 0 rfl) ?_
          refine gf_Ho_172 hx hb hW hown hG hV h_t_4 d_Ho_overlapsAnother_32 ?_
          refine lv_if_eq (tgt := 67) hx hb d_Ho_overlapsAnother_35 (by decide) (fun c_6 => ?_) (fun c_6 => ?_)
          · obtain ⟨i_7, ei_7⟩ : ∃ y : Int32, y = (nI i) + 1 := ⟨_, rfl⟩
            refine lv_iinc (v := i_7) (lv' := [(5, .int i_7), (6, .ref t_4), (0, .ref b.ho), (1, .ref t), (2, .ref a), (3, .ref b.ta), (4, .int (nI 150))]) hx hb d_Ho_overlapsAnother_67 hl (k := 6) rfl (by rw [ei_7]; rfl) (by decide) rfl (fun ls hl => ?_)
            refine lv_goto (tgt := 12) hx hb d_Ho_overlapsAnother_70 (by decide) ?_
            rw [nI_1] at ei_7
            subst ei_7
            try simp only [bI_ne0, bI_eq0] at c_6
            have hPi : P i = false := by subst hP; first | (simp [ovP, c_6]; done) | (simp [ovP, ← hd9, c_6]; done) | (simp only [ovP, ← hd9]; simp_all; done)
            exact ih (i + 1)  _ _ _ (by omega) (by omega) (by rw [hI, anyF_step hlt, hPi, Bool.false_or]) hV hS (lv_sub hl [2, 3, 4, 5, 6, 0] rfl)
          · refine lv_aload hx hb d_Ho_overlapsAnother_38 (lv_at hl 0 rfl) ?_
            refine lv_aload_n hx hb d_Ho_overlapsAnother_40 rfl (lv_at hl 2 rfl) ?_
            refine lv_acmp_eq (rx := some t_4) (ry := some t) (tgt := 67) hx hb d_Ho_overlapsAnother_41 (by decide) (fun c_8 => ?_) (fun c_8 => ?_)
            · obtain ⟨i_9, ei_9⟩ : ∃ y : Int32, y = (nI i) + 1 := ⟨_, rfl⟩
              refine lv_iinc (v := i_9) (lv' := [(5, .int i_9), (6, .ref t_4), (0, .ref b.ho), (1, .ref t), (2, .ref a), (3, .ref b.ta), (4, .int (nI 150))]) hx hb d_Ho_overlapsAnother_67 hl (k := 6) rfl (by rw [ei_9]; rfl) (by decide) rfl (fun ls hl => ?_)
              refine lv_goto (tgt := 12) hx hb d_Ho_overlapsAnother_70 (by decide) ?_
              rw [nI_1] at ei_9
              subst ei_9
              try simp only [bI_ne0, bI_eq0] at c_6
              try simp only [bI_ne0, bI_eq0] at c_8
              have hd9 := exT_d hex (j := i) (by omega)
              rw [hf_3] at hd9
              have hPi : P i = false := by subst hP; first | (simp [ovP, c_6, c_8]; done) | (simp [ovP, ← hd9, c_6, c_8]; done) | (simp only [ovP, ← hd9]; simp_all; done)
              exact ih (i + 1)  _ _ _ (by omega) (by omega) (by rw [hI, anyF_step hlt, hPi, Bool.false_or]) hV hS (lv_sub hl [2, 3, 4, 5, 6, 0] rfl)
            · refine lv_aload hx hb d_Ho_overlapsAnother_44 (lv_at hl 0 rfl) ?_
              refine lv_aload_n hx hb d_Ho_overlapsAnother_46 rfl (lv_at hl 2 rfl) ?_
              refine rc_i (va_runV (As := [.ref t]) (rest := []) ⟨hx, hb, hml, hown, hts⟩ (c_Th_excludes l D N0 k V t_4 (b.ar i) (σ.T i 0) (σ.T i 1) (σ.T i 2) (σ.T i 3) (σ.T i 4) (σ.T i 5) h_t_4 t a0 (R 0) (R 1) (R 2) (R 3) (R 4) (R 5) h_t) (cwV 1 hts (gi_V wm_Ho_281 wv_Th_excludes ws_Th_excludes wi_Th wc_Th_excludes) rfl rfl rfl (by decide +kernel) ⟨Nat.le_of_ble_eq_true rfl, Nat.le_of_ble_eq_true rfl⟩) (mP.preV hG hS hV h_t_4 rfl) rfl rfl hl.1 rfl (lv_room (Nat.le_of_ble_eq_true rfl)) d_Ho_overlapsAnother_47 ⟨Nat.le_of_ble_eq_true rfl, Nat.le_of_ble_eq_true rfl⟩) hS (fun H locs hV hS => ?_)
              refine lv_if_eq (tgt := 67) hx hb d_Ho_overlapsAnother_50 (by decide) (fun c_10 => ?_) (fun c_10 => ?_)
              · obtain ⟨i_11, ei_11⟩ : ∃ y : Int32, y = (nI i) + 1 := ⟨_, rfl⟩
                refine lv_iinc (v := i_11) (lv' := [(5, .int i_11), (6, .ref t_4), (0, .ref b.ho), (1, .ref t), (2, .ref a), (3, .ref b.ta), (4, .int (nI 150))]) hx hb d_Ho_overlapsAnother_67 hl (k := 6) rfl (by rw [ei_11]; rfl) (by decide) rfl (fun ls hl => ?_)
                refine lv_goto (tgt := 12) hx hb d_Ho_overlapsAnother_70 (by decide) ?_
                rw [nI_1] at ei_11
                subst ei_11
                try simp only [bI_ne0, bI_eq0] at c_6
                try simp only [bI_ne0, bI_eq0] at c_8
                try simp only [bI_ne0, bI_eq0] at c_10
                have hd9 := exT_d hex (j := i) (by omega)
                rw [hf_3] at hd9
                have hPi : P i = false := by subst hP; first | (simp [ovP, c_6, c_8, c_10]; done) | (simp [ovP, ← hd9, c_6, c_8, c_10]; done) | (simp only [ovP, ← hd9]; simp_all; done)
                exact ih (i + 1)  _ _ _ (by omega) (by omega) (by rw [hI, anyF_step hlt, hPi, Bool.false_or]) hV hS (lv_sub hl [2, 3, 4, 5, 6, 0] rfl)
              · refine lv_aload hx hb d_Ho_overlapsAnother_53 (lv_at hl 0 rfl) ?_
                refine gf_Ho_112 hx hb hW hown hG hV h_t_4 d_Ho_overlapsAnother_55 ?_
                refine lv_aload_n hx hb d_Ho_overlapsAnother_58 rfl (lv_at hl 3 rfl) ?_
                refine rc_i (va_runV (As := [.ref a]) (rest := []) ⟨hx, hb, hml, hown, hts⟩ (c_Ar_meets l D N0 k V (b.ar i) a (σ.T i 6) (σ.T i 7) (σ.T i 8) (σ.T i 9) x y u v ha_t_4 h_a) (cwV 1 hts (gi_V wm_Ho_278 wv_Ar_meets ws_Ar_meets wi_Ar wc_Ar_meets) rfl rfl rfl (by decide +kernel) ⟨Nat.le_of_ble_eq_true rfl, Nat.le_of_ble_eq_true rfl⟩) (mP.preV hG hS hV ha_t_4 rfl) rfl rfl hl.1 rfl (lv_room (Nat.le_of_ble_eq_true rfl)) d_Ho_overlapsAnother_59 ⟨Nat.le_of_ble_eq_true rfl, Nat.le_of_ble_eq_true rfl⟩) hS (fun H locs hV hS => ?_)
                refine lv_if_eq (tgt := 67) hx hb d_Ho_overlapsAnother_62 (by decide) (fun c_12 => ?_) (fun c_12 => ?_)
                · obtain ⟨i_13, ei_13⟩ : ∃ y : Int32, y = (nI i) + 1 := ⟨_, rfl⟩
                  refine lv_iinc (v := i_13) (lv' := [(5, .int i_13), (6, .ref t_4), (0, .ref b.ho), (1, .ref t), (2, .ref a), (3, .ref b.ta), (4, .int (nI 150))]) hx hb d_Ho_overlapsAnother_67 hl (k := 6) rfl (by rw [ei_13]; rfl) (by decide) rfl (fun ls hl => ?_)
                  refine lv_goto (tgt := 12) hx hb d_Ho_overlapsAnother_70 (by decide) ?_
                  rw [nI_1] at ei_13
                  subst ei_13
                  try simp only [bI_ne0, bI_eq0] at c_6
                  try simp only [bI_ne0, bI_eq0] at c_8
                  try simp only [bI_ne0, bI_eq0] at c_10
                  try simp only [bI_ne0, bI_eq0] at c_12
                  have hd9 := exT_d hex (j := i) (by omega)
                  rw [hf_3] at hd9
                  have hPi : P i = false := by subst hP; first | (simp [ovP, c_6, c_8, c_10, c_12]; done) | (simp [ovP, ← hd9, c_6, c_8, c_10, c_12]; done) | (simp only [ovP, ← hd9]; simp_all; done)
                  exact ih (i + 1)  _ _ _ (by omega) (by omega) (by rw [hI, anyF_step hlt, hPi, Bool.false_or]) hV hS (lv_sub hl [2, 3, 4, 5, 6, 0] rfl)
                · refine lv_iconst (v := 1) hx hb d_Ho_overlapsAnother_65 (by decide) ?_
                  try simp only [bI_ne0, bI_eq0] at c_6
                  try simp only [bI_ne0, bI_eq0] at c_8
                  try simp only [bI_ne0, bI_eq0] at c_10
                  try simp only [bI_ne0, bI_eq0] at c_12
                  have hd9 := exT_d hex (j := i) (by omega)
                  rw [hf_3] at hd9
                  have hPi : P i = true := by subst hP; first | (simp [ovP, ← hd9, c_6, c_8, c_10, c_12]; done) | (simp only [ovP, ← hd9]; simp_all; done)
                  exact W.zret (v := 1) hx hb hr rfl (fun t ht hW => ⟨⟨1, V, rfl, ⟨by rw [← hP, hI, anyF_step hlt, hPi]; rfl, rfl⟩, mB_of ht hV⟩, hS.F ht⟩) hS.2.2 d_Ho_overlapsAnother_66
  exact loop_1 (150 + 1 - 0) 0  _ _ _ (by omega) (by omega) rfl hV hS (lv_sub hl [3, 4, 5, 2, 1, 0] rfl)
set_option maxHeartbeats 4000000 in
set_option maxRecDepth 100000 in
/-- whyNotMade -/
theorem c_Ho_whyNotMade (l : Launch) (D : va_G) (N0 : Nat) (k : Nat → Nat) (V : HV) (b : HA) (σ : HS) (hH : hsOk k V b σ) (t a0 : Nat) (R : Nat → Int32) (h_t : V t = some (eThR R a0)) (h_a0 : V a0 = some (eArR R)) (a : Nat) (x y u v : Int32) (h_a : V a = some (eAr x y u v)) (ex : Option Nat) (hex : exT b.f t ex) (K : Nat) (hK : R 0 = nI K) (hK1 : 1 ≤ K) (hK7 : K ≤ 7) : Met l y_Ho_whyNotMade (.code y_Ho_whyNotMade b_Ho_whyNotMade 3 (some .int) :: WS) ({ frames := 3, cells := 0, slots := 0, locals := 74 }) (mP D N0 k [.ref b.ho, .ref t, .ref a] V) (va_Qi (fun r V' => r = whyMd σ K R ex x y u v ∧ V' = V) (mB D N0) (hA N0)) 0 0 (hA N0) := by
  refine Met.ofW (cc := b_Ho_whyNotMade) (maxL := 3) (ret := (some .int)) (by decide) rfl ?_
  intro p e s m args below meth c s₁ B hml hv0
  obtain ⟨rfl, hG, hV⟩ := hv0
  have hx := B.exec
  have hb := B.bytes
  have hr := B.returns
  have hts := atoms_spec (ws := .code y_Ho_whyNotMade b_Ho_whyNotMade 3 (some .int) :: WS) B.pre
  have hW : ∀ w ∈ WS, w.before _ s = true := fun w h => hts w (List.mem_cons_of_mem _ h)
  have hown : s.vm.findClass "BoardHouse" = some m.cls := findClass_of_methodNamed B.named
  have hlocks := B.notSynchronized
  have hS : va_S (hA N0) s.heap s.heap [] := va_S.rf
  have hl := lv_entry ([.ref b.ho, .ref t, .ref a]) (n := 3) (Nat.le_of_ble_eq_true rfl)
  rw [lg_entry_eq]
  generalize (lg_sl ([.ref b.ho, .ref t, .ref a]) ++ List.replicate (3 - (lg_sl ([.ref b.ho, .ref t, .ref a])).length) Slot.unset).toArray = ls at hl ⊢
  have hl : lv_has ls 3 [(0, .ref b.ho), (1, .ref t), (2, .ref a)] := hl
  refine lv_aload_n hx hb d_Ho_whyNotMade_0 rfl (lv_at hl 0 rfl) ?_
  refine lv_aload_n hx hb d_Ho_whyNotMade_1 rfl (lv_at hl 1 rfl) ?_
  refine gf_Ho_187 hx hb hW hown hG hV h_t d_Ho_whyNotMade_2 ?_
  rw [hK]
  refine W.eq (g2 := F0 m 5 ls [.int (nI K), .ref b.ho]) rfl ?_
  refine rc_i (va_runV (As := [.int (nI K)]) (rest := []) ⟨hx, hb, hml, hown, hts⟩ (c_Ho_isFull l D N0 k V b.ho b.bo b.gi b.co b.ta b.ac b.ve (woA b σ.wo) (nI σ.nl) σ.rs hH.ho σ.G hH.gi K (by omega) (by omega)) (cwV 1 hts (gi_V wm_Ho_71 wv_Ho_isFull ws_Ho_isFull wi_Ho wc_Ho_isFull) rfl rfl rfl (by decide +kernel) ⟨Nat.le_of_ble_eq_true rfl, Nat.le_of_ble_eq_true rfl⟩) (mP.preV hG hS hV hH.ho rfl) rfl rfl hl.1 rfl (lv_room (Nat.le_of_ble_eq_true rfl)) d_Ho_whyNotMade_5 ⟨Nat.le_of_ble_eq_true rfl, Nat.le_of_ble_eq_true rfl⟩) hS (fun H locs hV hS => ?_)
  refine lv_if_eq (tgt := 13) hx hb d_Ho_whyNotMade_8 (by decide) (fun c_1 => ?_) (fun c_1 => ?_)
  · refine lv_aload_n hx hb d_Ho_whyNotMade_13 rfl (lv_at hl 2 rfl) ?_
    refine lv_aload_n hx hb d_Ho_whyNotMade_14 rfl (lv_at hl 1 rfl) ?_
    refine gf_Ho_112 hx hb hW hown hG hV h_t d_Ho_whyNotMade_15 ?_
    refine rc_i (va_runV (As := [.ref a0]) (rest := []) ⟨hx, hb, hml, hown, hts⟩ (c_Ar_holds l D N0 k V a a0 x y u v (R 6) (R 7) (R 8) (R 9) h_a h_a0) (cwV 1 hts (gi_V wm_Ho_256 wv_Ar_holds ws_Ar_holds wi_Ar wc_Ar_holds) rfl rfl rfl (by decide +kernel) ⟨Nat.le_of_ble_eq_true rfl, Nat.le_of_ble_eq_true rfl⟩) (mP.preV hG hS hV h_a rfl) rfl rfl hl.1 rfl (lv_room (Nat.le_of_ble_eq_true rfl)) d_Ho_whyNotMade_18 ⟨Nat.le_of_ble_eq_true rfl, Nat.le_of_ble_eq_true rfl⟩) hS (fun H locs hV hS => ?_)
    refine lv_if_ne (tgt := 26) hx hb d_Ho_whyNotMade_21 (by decide) (fun c_2 => ?_) (fun c_2 => ?_)
    · refine lv_aload_n hx hb d_Ho_whyNotMade_26 rfl (lv_at hl 0 rfl) ?_
      refine lv_aload_n hx hb d_Ho_whyNotMade_27 rfl (lv_at hl 1 rfl) ?_
      refine gf_Ho_112 hx hb hW hown hG hV h_t d_Ho_whyNotMade_28 ?_
      refine rc_i (va_runV (As := [.ref a0]) (rest := []) ⟨hx, hb, hml, hown, hts⟩ (c_Ho_isBarred l D N0 k V b σ hH a0 (R 6) (R 7) (R 8) (R 9) h_a0) (cwV 1 hts (gi_V wm_Ho_137 wv_Ho_isBarred ws_Ho_isBarred wi_Ho wc_Ho_isBarred) rfl rfl rfl (by decide +kernel) ⟨Nat.le_of_ble_eq_true rfl, Nat.le_of_ble_eq_true rfl⟩) (mP.preV hG hS hV hH.ho rfl) rfl rfl hl.1 rfl (lv_room (Nat.le_of_ble_eq_true rfl)) d_Ho_whyNotMade_31 ⟨Nat.le_of_ble_eq_true rfl, Nat.le_of_ble_eq_true rfl⟩) hS (fun H locs hV hS => ?_)
      refine lv_if_eq (tgt := 39) hx hb d_Ho_whyNotMade_34 (by decide) (fun c_3 => ?_) (fun c_3 => ?_)
      · refine lv_aload_n hx hb d_Ho_whyNotMade_39 rfl (lv_at hl 0 rfl) ?_
        refine lv_aload_n hx hb d_Ho_whyNotMade_40 rfl (lv_at hl 1 rfl) ?_
        refine lv_aload_n hx hb d_Ho_whyNotMade_41 rfl (lv_at hl 1 rfl) ?_
        refine gf_Ho_112 hx hb hW hown hG hV h_t d_Ho_whyNotMade_42 ?_
        refine rc_i (va_runV (As := [.ref t, .ref a0]) (rest := []) ⟨hx, hb, hml, hown, hts⟩ (c_Ho_overlapsAnother l D N0 k V b σ hH t a0 R h_t h_a0 a0 (R 6) (R 7) (R 8) (R 9) h_a0 ex hex) (cwV 2 hts (gi_V wm_Ho_259 wv_Ho_overlapsAnother ws_Ho_overlapsAnother wi_Ho wc_Ho_overlapsAnother) rfl rfl rfl (by decide +kernel) ⟨Nat.le_of_ble_eq_true rfl, Nat.le_of_ble_eq_true rfl⟩) (mP.preV hG hS hV hH.ho rfl) rfl rfl hl.1 rfl (lv_room (Nat.le_of_ble_eq_true rfl)) d_Ho_whyNotMade_45 ⟨Nat.le_of_ble_eq_true rfl, Nat.le_of_ble_eq_true rfl⟩) hS (fun H locs hV hS => ?_)
        refine lv_if_eq (tgt := 53) hx hb d_Ho_whyNotMade_48 (by decide) (fun c_4 => ?_) (fun c_4 => ?_)
        · refine lv_aload_n hx hb d_Ho_whyNotMade_53 rfl (lv_at hl 0 rfl) ?_
          refine gf_Ho_62 hx hb hW hown hG hV hH.ho d_Ho_whyNotMade_54 ?_
          refine lv_aload_n hx hb d_Ho_whyNotMade_57 rfl (lv_at hl 1 rfl) ?_
          refine lv_aload_n hx hb d_Ho_whyNotMade_58 rfl (lv_at hl 1 rfl) ?_
          refine lv_iconst (v := 0) hx hb d_Ho_whyNotMade_59 (by decide) ?_
          refine lv_iconst (v := 0) hx hb d_Ho_whyNotMade_60 (by decide) ?_
          refine rc_i (va_runV (As := [.ref t, .ref t, .int 0, .int 0]) (rest := []) ⟨hx, hb, hml, hown, hts⟩ (c_Co_clashesMoved l D N0 k V b.co b.ta b.ro b.on b.re (nI σ.nl) σ.g hH.co b.f b.ar σ.T hH.ts t a0 (R 0) (R 1) (R 2) (R 3) (R 4) (R 5) h_t (R 6) (R 7) (R 8) (R 9) h_a0 t a0 (R 0) (R 1) (R 2) (R 3) (R 4) (R 5) h_t 0 0) (cwV 4 hts (gi_V wm_Ho_263 wv_Co_clashesMoved ws_Co_clashesMoved wi_Co wc_Co_clashesMoved) rfl rfl rfl (by decide +kernel) ⟨Nat.le_of_ble_eq_true rfl, Nat.le_of_ble_eq_true rfl⟩) (mP.preV hG hS hV hH.co rfl) rfl rfl hl.1 rfl (lv_room (Nat.le_of_ble_eq_true rfl)) d_Ho_whyNotMade_61 ⟨Nat.le_of_ble_eq_true rfl, Nat.le_of_ble_eq_true rfl⟩) hS (fun H locs hV hS => ?_)
          rw [cl_co hex (R := R)]
          refine lv_if_eq (tgt := 71) hx hb d_Ho_whyNotMade_64 (by decide) (fun c_5 => ?_) (fun c_5 => ?_)
          · refine lv_iconst (v := 0) hx hb d_Ho_whyNotMade_71 (by decide) ?_
            simp only [bI_ne0, bI_eq0, decide_eq_true_eq, decide_eq_false_iff_not] at c_1
            simp only [bI_ne0, bI_eq0, decide_eq_true_eq, decide_eq_false_iff_not] at c_2
            simp only [bI_ne0, bI_eq0, decide_eq_true_eq, decide_eq_false_iff_not] at c_3
            simp only [bI_ne0, bI_eq0, decide_eq_true_eq, decide_eq_false_iff_not] at c_4
            simp only [bI_ne0, bI_eq0, decide_eq_true_eq, decide_eq_false_iff_not] at c_5
            exact W.iret (v := 0) hx hb hr (fun t ht hW => ⟨⟨0, V, rfl, ⟨by rw [whyMd]; simp [c_1, c_2, c_3, c_4, c_5], rfl⟩, mB_of ht hV⟩, hS.F ht⟩) hS.2.2 d_Ho_whyNotMade_72
          · refine lv_iconst (v := 5) hx hb d_Ho_whyNotMade_67 (by decide) ?_
            refine lv_goto (tgt := 72) hx hb d_Ho_whyNotMade_68 (by decide) ?_
            simp only [bI_ne0, bI_eq0, decide_eq_true_eq, decide_eq_false_iff_not] at c_1
            simp only [bI_ne0, bI_eq0, decide_eq_true_eq, decide_eq_false_iff_not] at c_2
            simp only [bI_ne0, bI_eq0, decide_eq_true_eq, decide_eq_false_iff_not] at c_3
            simp only [bI_ne0, bI_eq0, decide_eq_true_eq, decide_eq_false_iff_not] at c_4
            simp only [bI_ne0, bI_eq0, decide_eq_true_eq, decide_eq_false_iff_not] at c_5
            exact W.iret (v := 5) hx hb hr (fun t ht hW => ⟨⟨5, V, rfl, ⟨by rw [whyMd]; simp [c_1, c_2, c_3, c_4, c_5], rfl⟩, mB_of ht hV⟩, hS.F ht⟩) hS.2.2 d_Ho_whyNotMade_72
        · refine lv_iconst (v := 4) hx hb d_Ho_whyNotMade_51 (by decide) ?_
          simp only [bI_ne0, bI_eq0, decide_eq_true_eq, decide_eq_false_iff_not] at c_1
          simp only [bI_ne0, bI_eq0, decide_eq_true_eq, decide_eq_false_iff_not] at c_2
          simp only [bI_ne0, bI_eq0, decide_eq_true_eq, decide_eq_false_iff_not] at c_3
          simp only [bI_ne0, bI_eq0, decide_eq_true_eq, decide_eq_false_iff_not] at c_4
          exact W.iret (v := 4) hx hb hr (fun t ht hW => ⟨⟨4, V, rfl, ⟨by rw [whyMd]; simp [c_1, c_2, c_3, c_4], rfl⟩, mB_of ht hV⟩, hS.F ht⟩) hS.2.2 d_Ho_whyNotMade_52
      · refine lv_iconst (v := 3) hx hb d_Ho_whyNotMade_37 (by decide) ?_
        simp only [bI_ne0, bI_eq0, decide_eq_true_eq, decide_eq_false_iff_not] at c_1
        simp only [bI_ne0, bI_eq0, decide_eq_true_eq, decide_eq_false_iff_not] at c_2
        simp only [bI_ne0, bI_eq0, decide_eq_true_eq, decide_eq_false_iff_not] at c_3
        exact W.iret (v := 3) hx hb hr (fun t ht hW => ⟨⟨3, V, rfl, ⟨by rw [whyMd]; simp [c_1, c_2, c_3], rfl⟩, mB_of ht hV⟩, hS.F ht⟩) hS.2.2 d_Ho_whyNotMade_38
    · refine lv_iconst (v := 2) hx hb d_Ho_whyNotMade_24 (by decide) ?_
      simp only [bI_ne0, bI_eq0, decide_eq_true_eq, decide_eq_false_iff_not] at c_1
      simp only [bI_ne0, bI_eq0, decide_eq_true_eq, decide_eq_false_iff_not] at c_2
      exact W.iret (v := 2) hx hb hr (fun t ht hW => ⟨⟨2, V, rfl, ⟨by rw [whyMd]; simp [c_1, c_2], rfl⟩, mB_of ht hV⟩, hS.F ht⟩) hS.2.2 d_Ho_whyNotMade_25
  · refine lv_iconst (v := 1) hx hb d_Ho_whyNotMade_11 (by decide) ?_
    simp only [bI_ne0, bI_eq0, decide_eq_true_eq, decide_eq_false_iff_not] at c_1
    exact W.iret (v := 1) hx hb hr (fun t ht hW => ⟨⟨1, V, rfl, ⟨by rw [whyMd]; simp [c_1], rfl⟩, mB_of ht hV⟩, hS.F ht⟩) hS.2.2 d_Ho_whyNotMade_12
set_option maxHeartbeats 4000000 in
set_option maxRecDepth 100000 in
/-- whyNotMoved -/
theorem c_Ho_whyNotMoved (l : Launch) (D : va_G) (N0 : Nat) (k : Nat → Nat) (V : HV) (b : HA) (σ : HS) (hH : hsOk k V b σ) (i t : Nat) (hi : i < 150) (hf : b.f i = some t) (a : Nat) (x y u v : Int32) (h_a : V a = some (eAr x y u v)) : Met l y_Ho_whyNotMoved (.code y_Ho_whyNotMoved b_Ho_whyNotMoved 5 (some .int) :: WS) ({ frames := 4, cells := 0, slots := 0, locals := 99 }) (mP D N0 k [.ref b.ho, .ref t, .ref a] V) (va_Qi (fun r V' => r = whyMv σ i x y u v ∧ V' = V) (mB D N0) (hA N0)) 0 0 (hA N0) := by
  refine Met.ofW (cc := b_Ho_whyNotMoved) (maxL := 5) (ret := (some .int)) (by decide) rfl ?_
  intro p e s m args below meth c s₁ B hml hv0
  obtain ⟨rfl, hG, hV⟩ := hv0
  have hx := B.exec
  have hb := B.bytes
  have hr := B.returns
  have hts := atoms_spec (ws := .code y_Ho_whyNotMoved b_Ho_whyNotMoved 5 (some .int) :: WS) B.pre
  have hW : ∀ w ∈ WS, w.before _ s = true := fun w h => hts w (List.mem_cons_of_mem _ h)
  have hown : s.vm.findClass "BoardHouse" = some m.cls := findClass_of_methodNamed B.named
  have hlocks := B.notSynchronized
  have hS : va_S (hA N0) s.heap s.heap [] := va_S.rf
  have hl := lv_entry ([.ref b.ho, .ref t, .ref a]) (n := 5) (Nat.le_of_ble_eq_true rfl)
  rw [lg_entry_eq]
  generalize (lg_sl ([.ref b.ho, .ref t, .ref a]) ++ List.replicate (5 - (lg_sl ([.ref b.ho, .ref t, .ref a])).length) Slot.unset).toArray = ls at hl ⊢
  have hl : lv_has ls 5 [(0, .ref b.ho), (1, .ref t), (2, .ref a)] := hl
  obtain ⟨h_t, h_a0⟩ := hH.ts.2.1 i t hi hf
  have hex := exT_of hH hi hf
  refine lv_aload_n hx hb d_Ho_whyNotMoved_0 rfl (lv_at hl 0 rfl) ?_
  refine gf_Ho_14 hx hb hW hown hG hV hH.ho d_Ho_whyNotMoved_1 ?_
  refine lv_aload_n hx hb d_Ho_whyNotMoved_4 rfl (lv_at hl 2 rfl) ?_
  refine rc_i (va_runV (As := [.ref a]) (rest := []) ⟨hx, hb, hml, hown, hts⟩ (c_Ar_holds l D N0 k V b.bo a 0 0 31 23 x y u v hH.bo h_a) (cwV 1 hts (gi_V wm_Ho_256 wv_Ar_holds ws_Ar_holds wi_Ar wc_Ar_holds) rfl rfl rfl (by decide +kernel) ⟨Nat.le_of_ble_eq_true rfl, Nat.le_of_ble_eq_true rfl⟩) (mP.preV hG hS hV hH.bo rfl) rfl rfl hl.1 rfl (lv_room (Nat.le_of_ble_eq_true rfl)) d_Ho_whyNotMoved_5 ⟨Nat.le_of_ble_eq_true rfl, Nat.le_of_ble_eq_true rfl⟩) hS (fun H locs hV hS => ?_)
  refine lv_if_ne (tgt := 13) hx hb d_Ho_whyNotMoved_8 (by decide) (fun c_1 => ?_) (fun c_1 => ?_)
  · refine lv_aload_n hx hb d_Ho_whyNotMoved_13 rfl (lv_at hl 0 rfl) ?_
    refine lv_aload_n hx hb d_Ho_whyNotMoved_14 rfl (lv_at hl 1 rfl) ?_
    refine gf_Ho_112 hx hb hW hown hG hV h_t d_Ho_whyNotMoved_15 ?_
    refine rc_i (va_runV (As := [.ref (b.ar i)]) (rest := []) ⟨hx, hb, hml, hown, hts⟩ (c_Ho_isBarred l D N0 k V b σ hH (b.ar i) (σ.T i 6) (σ.T i 7) (σ.T i 8) (σ.T i 9) h_a0) (cwV 1 hts (gi_V wm_Ho_137 wv_Ho_isBarred ws_Ho_isBarred wi_Ho wc_Ho_isBarred) rfl rfl rfl (by decide +kernel) ⟨Nat.le_of_ble_eq_true rfl, Nat.le_of_ble_eq_true rfl⟩) (mP.preV hG hS hV hH.ho rfl) rfl rfl hl.1 rfl (lv_room (Nat.le_of_ble_eq_true rfl)) d_Ho_whyNotMoved_18 ⟨Nat.le_of_ble_eq_true rfl, Nat.le_of_ble_eq_true rfl⟩) hS (fun H locs hV hS => ?_)
    refine lv_if_ne (tgt := 32) hx hb d_Ho_whyNotMoved_21 (by decide) (fun c_2 => ?_) (fun c_2 => ?_)
    · refine lv_iconst (v := 3) hx hb d_Ho_whyNotMoved_32 (by decide) ?_
      simp only [bI_ne0, bI_eq0, decide_eq_true_eq, decide_eq_false_iff_not] at c_1
      simp only [bI_ne0, bI_eq0, decide_eq_true_eq, decide_eq_false_iff_not] at c_2
      exact W.iret (v := 3) hx hb hr (fun t ht hW => ⟨⟨3, V, rfl, ⟨by rw [whyMv]; simp [c_1, c_2], rfl⟩, mB_of ht hV⟩, hS.F ht⟩) hS.2.2 d_Ho_whyNotMoved_33
    · refine lv_aload_n hx hb d_Ho_whyNotMoved_24 rfl (lv_at hl 0 rfl) ?_
      refine lv_aload_n hx hb d_Ho_whyNotMoved_25 rfl (lv_at hl 2 rfl) ?_
      refine rc_i (va_runV (As := [.ref a]) (rest := []) ⟨hx, hb, hml, hown, hts⟩ (c_Ho_isBarred l D N0 k V b σ hH a x y u v h_a) (cwV 1 hts (gi_V wm_Ho_137 wv_Ho_isBarred ws_Ho_isBarred wi_Ho wc_Ho_isBarred) rfl rfl rfl (by decide +kernel) ⟨Nat.le_of_ble_eq_true rfl, Nat.le_of_ble_eq_true rfl⟩) (mP.preV hG hS hV hH.ho rfl) rfl rfl hl.1 rfl (lv_room (Nat.le_of_ble_eq_true rfl)) d_Ho_whyNotMoved_26 ⟨Nat.le_of_ble_eq_true rfl, Nat.le_of_ble_eq_true rfl⟩) hS (fun H locs hV hS => ?_)
      refine lv_if_eq (tgt := 34) hx hb d_Ho_whyNotMoved_29 (by decide) (fun c_3 => ?_) (fun c_3 => ?_)
      · refine lv_aload_n hx hb d_Ho_whyNotMoved_34 rfl (lv_at hl 0 rfl) ?_
        refine lv_aload_n hx hb d_Ho_whyNotMoved_35 rfl (lv_at hl 1 rfl) ?_
        refine lv_aload_n hx hb d_Ho_whyNotMoved_36 rfl (lv_at hl 2 rfl) ?_
        refine rc_i (va_runV (As := [.ref t, .ref a]) (rest := []) ⟨hx, hb, hml, hown, hts⟩ (c_Ho_overlapsAnother l D N0 k V b σ hH t (b.ar i) (σ.T i) h_t h_a0 a x y u v h_a (some i) hex) (cwV 2 hts (gi_V wm_Ho_259 wv_Ho_overlapsAnother ws_Ho_overlapsAnother wi_Ho wc_Ho_overlapsAnother) rfl rfl rfl (by decide +kernel) ⟨Nat.le_of_ble_eq_true rfl, Nat.le_of_ble_eq_true rfl⟩) (mP.preV hG hS hV hH.ho rfl) rfl rfl hl.1 rfl (lv_room (Nat.le_of_ble_eq_true rfl)) d_Ho_whyNotMoved_37 ⟨Nat.le_of_ble_eq_true rfl, Nat.le_of_ble_eq_true rfl⟩) hS (fun H locs hV hS => ?_)
        refine lv_if_eq (tgt := 45) hx hb d_Ho_whyNotMoved_40 (by decide) (fun c_4 => ?_) (fun c_4 => ?_)
        · refine lv_aload_n hx hb d_Ho_whyNotMoved_45 rfl (lv_at hl 2 rfl) ?_
          refine gf_Ho_115 hx hb hW hown hG hV h_a d_Ho_whyNotMoved_46 ?_
          refine lv_aload_n hx hb d_Ho_whyNotMoved_49 rfl (lv_at hl 1 rfl) ?_
          refine gf_Ho_112 hx hb hW hown hG hV h_t d_Ho_whyNotMoved_50 ?_
          refine gf_Ho_115 hx hb hW hown hG hV h_a0 d_Ho_whyNotMoved_53 ?_
          refine lv_isub hx hb d_Ho_whyNotMoved_56 ?_
          refine lv_istore_n (lv' := [(3, .int (x - (σ.T i 6))), (0, .ref b.ho), (1, .ref t), (2, .ref a)]) hx hb d_Ho_whyNotMoved_57 rfl hl (by decide) rfl (fun ls hl => ?_)
          refine lv_aload_n hx hb d_Ho_whyNotMoved_58 rfl (lv_at hl 3 rfl) ?_
          refine gf_Ho_118 hx hb hW hown hG hV h_a d_Ho_whyNotMoved_59 ?_
          refine lv_aload_n hx hb d_Ho_whyNotMoved_62 rfl (lv_at hl 2 rfl) ?_
          refine gf_Ho_112 hx hb hW hown hG hV h_t d_Ho_whyNotMoved_63 ?_
          refine gf_Ho_118 hx hb hW hown hG hV h_a0 d_Ho_whyNotMoved_66 ?_
          refine lv_isub hx hb d_Ho_whyNotMoved_69 ?_
          refine lv_istore (lv' := [(4, .int (y - (σ.T i 7))), (3, .int (x - (σ.T i 6))), (0, .ref b.ho), (1, .ref t), (2, .ref a)]) hx hb d_Ho_whyNotMoved_70 hl (by decide) rfl (fun ls hl => ?_)
          refine lv_aload_n hx hb d_Ho_whyNotMoved_72 rfl (lv_at hl 2 rfl) ?_
          refine gf_Ho_62 hx hb hW hown hG hV hH.ho d_Ho_whyNotMoved_73 ?_
          refine lv_aload_n hx hb d_Ho_whyNotMoved_76 rfl (lv_at hl 3 rfl) ?_
          refine lv_iload_n hx hb d_Ho_whyNotMoved_77 rfl (lv_at hl 1 rfl) ?_
          refine lv_iload hx hb d_Ho_whyNotMoved_78 (lv_at hl 0 rfl) ?_
          refine rc_i (va_runV (As := [.ref t, .int (x - (σ.T i 6)), .int (y - (σ.T i 7))]) (rest := []) ⟨hx, hb, hml, hown, hts⟩ (c_Co_anyPadClashesMoved l D N0 k V b.co b.ta b.ro b.on b.re (nI σ.nl) σ.g hH.co b.f b.ar σ.T hH.ts t (b.ar i) (σ.T i 0) (σ.T i 1) (σ.T i 2) (σ.T i 3) (σ.T i 4) (σ.T i 5) h_t (x - (σ.T i 6)) (y - (σ.T i 7))) (cwV 3 hts (gi_V wm_Ho_267 wv_Co_anyPadClashesMoved ws_Co_anyPadClashesMoved wi_Co wc_Co_anyPadClashesMoved) rfl rfl rfl (by decide +kernel) ⟨Nat.le_of_ble_eq_true rfl, Nat.le_of_ble_eq_true rfl⟩) (mP.preV hG hS hV hH.co rfl) rfl rfl hl.1 rfl (lv_room (Nat.le_of_ble_eq_true rfl)) d_Ho_whyNotMoved_80 ⟨Nat.le_of_ble_eq_true rfl, Nat.le_of_ble_eq_true rfl⟩) hS (fun H locs hV hS => ?_)
          rw [clA_co hex]
          refine lv_if_eq (tgt := 90) hx hb d_Ho_whyNotMoved_83 (by decide) (fun c_5 => ?_) (fun c_5 => ?_)
          · refine lv_iconst (v := 0) hx hb d_Ho_whyNotMoved_90 (by decide) ?_
            simp only [bI_ne0, bI_eq0, decide_eq_true_eq, decide_eq_false_iff_not] at c_1
            simp only [bI_ne0, bI_eq0, decide_eq_true_eq, decide_eq_false_iff_not] at c_2
            simp only [bI_ne0, bI_eq0, decide_eq_true_eq, decide_eq_false_iff_not] at c_3
            simp only [bI_ne0, bI_eq0, decide_eq_true_eq, decide_eq_false_iff_not] at c_4
            simp only [bI_ne0, bI_eq0, decide_eq_true_eq, decide_eq_false_iff_not] at c_5
            exact W.iret (v := 0) hx hb hr (fun t ht hW => ⟨⟨0, V, rfl, ⟨by rw [whyMv]; simp [c_1, c_2, c_3, c_4, c_5], rfl⟩, mB_of ht hV⟩, hS.F ht⟩) hS.2.2 d_Ho_whyNotMoved_91
          · refine lv_iconst (v := 5) hx hb d_Ho_whyNotMoved_86 (by decide) ?_
            refine lv_goto (tgt := 91) hx hb d_Ho_whyNotMoved_87 (by decide) ?_
            simp only [bI_ne0, bI_eq0, decide_eq_true_eq, decide_eq_false_iff_not] at c_1
            simp only [bI_ne0, bI_eq0, decide_eq_true_eq, decide_eq_false_iff_not] at c_2
            simp only [bI_ne0, bI_eq0, decide_eq_true_eq, decide_eq_false_iff_not] at c_3
            simp only [bI_ne0, bI_eq0, decide_eq_true_eq, decide_eq_false_iff_not] at c_4
            simp only [bI_ne0, bI_eq0, decide_eq_true_eq, decide_eq_false_iff_not] at c_5
            exact W.iret (v := 5) hx hb hr (fun t ht hW => ⟨⟨5, V, rfl, ⟨by rw [whyMv]; simp [c_1, c_2, c_3, c_4, c_5], rfl⟩, mB_of ht hV⟩, hS.F ht⟩) hS.2.2 d_Ho_whyNotMoved_91
        · refine lv_iconst (v := 4) hx hb d_Ho_whyNotMoved_43 (by decide) ?_
          simp only [bI_ne0, bI_eq0, decide_eq_true_eq, decide_eq_false_iff_not] at c_1
          simp only [bI_ne0, bI_eq0, decide_eq_true_eq, decide_eq_false_iff_not] at c_2
          simp only [bI_ne0, bI_eq0, decide_eq_true_eq, decide_eq_false_iff_not] at c_3
          simp only [bI_ne0, bI_eq0, decide_eq_true_eq, decide_eq_false_iff_not] at c_4
          exact W.iret (v := 4) hx hb hr (fun t ht hW => ⟨⟨4, V, rfl, ⟨by rw [whyMv]; simp [c_1, c_2, c_3, c_4], rfl⟩, mB_of ht hV⟩, hS.F ht⟩) hS.2.2 d_Ho_whyNotMoved_44
      · refine lv_iconst (v := 3) hx hb d_Ho_whyNotMoved_32 (by decide) ?_
        simp only [bI_ne0, bI_eq0, decide_eq_true_eq, decide_eq_false_iff_not] at c_1
        simp only [bI_ne0, bI_eq0, decide_eq_true_eq, decide_eq_false_iff_not] at c_2
        simp only [bI_ne0, bI_eq0, decide_eq_true_eq, decide_eq_false_iff_not] at c_3
        exact W.iret (v := 3) hx hb hr (fun t ht hW => ⟨⟨3, V, rfl, ⟨by rw [whyMv]; simp [c_1, c_2, c_3], rfl⟩, mB_of ht hV⟩, hS.F ht⟩) hS.2.2 d_Ho_whyNotMoved_33
  · refine lv_iconst (v := 2) hx hb d_Ho_whyNotMoved_11 (by decide) ?_
    simp only [bI_ne0, bI_eq0, decide_eq_true_eq, decide_eq_false_iff_not] at c_1
    exact W.iret (v := 2) hx hb hr (fun t ht hW => ⟨⟨2, V, rfl, ⟨by rw [whyMv]; simp [c_1], rfl⟩, mB_of ht hV⟩, hS.F ht⟩) hS.2.2 d_Ho_whyNotMoved_12
set_option maxHeartbeats 4000000 in
set_option maxRecDepth 100000 in
/-- whyNotBegun -/
theorem c_Ho_whyNotBegun (l : Launch) (D : va_G) (N0 : Nat) (k : Nat → Nat) (V : HV) (b : HA) (σ : HS) (hH : hsOk k V b σ) (a : Nat) (x y u v : Int32) (h_a : V a = some (eAr x y u v)) : Met l y_Ho_whyNotBegun (.code y_Ho_whyNotBegun b_Ho_whyNotBegun 2 (some .int) :: WS) ({ frames := 2, cells := 0, slots := 0, locals := 47 }) (mP D N0 k [.ref b.ho, .ref a] V) (va_Qi (fun r V' => r = whyBg σ x y u v ∧ V' = V) (mB D N0) (hA N0)) 0 0 (hA N0) := by
  refine Met.ofW (cc := b_Ho_whyNotBegun) (maxL := 2) (ret := (some .int)) (by decide) rfl ?_
  intro p e s m args below meth c s₁ B hml hv0
  obtain ⟨rfl, hG, hV⟩ := hv0
  have hx := B.exec
  have hb := B.bytes
  have hr := B.returns
  have hts := atoms_spec (ws := .code y_Ho_whyNotBegun b_Ho_whyNotBegun 2 (some .int) :: WS) B.pre
  have hW : ∀ w ∈ WS, w.before _ s = true := fun w h => hts w (List.mem_cons_of_mem _ h)
  have hown : s.vm.findClass "BoardHouse" = some m.cls := findClass_of_methodNamed B.named
  have hlocks := B.notSynchronized
  have hS : va_S (hA N0) s.heap s.heap [] := va_S.rf
  have hl := lv_entry ([.ref b.ho, .ref a]) (n := 2) (Nat.le_of_ble_eq_true rfl)
  rw [lg_entry_eq]
  generalize (lg_sl ([.ref b.ho, .ref a]) ++ List.replicate (2 - (lg_sl ([.ref b.ho, .ref a])).length) Slot.unset).toArray = ls at hl ⊢
  have hl : lv_has ls 2 [(0, .ref b.ho), (1, .ref a)] := hl
  refine lv_aload_n hx hb d_Ho_whyNotBegun_0 rfl (lv_at hl 0 rfl) ?_
  refine lv_bipush (v := 6) hx hb d_Ho_whyNotBegun_1 (by decide) ?_
  refine W.eq (g2 := F0 m 3 ls [.int (nI 6), .ref b.ho]) rfl ?_
  refine rc_i (va_runV (As := [.int (nI 6)]) (rest := []) ⟨hx, hb, hml, hown, hts⟩ (c_Ho_isFull l D N0 k V b.ho b.bo b.gi b.co b.ta b.ac b.ve (woA b σ.wo) (nI σ.nl) σ.rs hH.ho σ.G hH.gi 6 (by omega) (by omega)) (cwV 1 hts (gi_V wm_Ho_71 wv_Ho_isFull ws_Ho_isFull wi_Ho wc_Ho_isFull) rfl rfl rfl (by decide +kernel) ⟨Nat.le_of_ble_eq_true rfl, Nat.le_of_ble_eq_true rfl⟩) (mP.preV hG hS hV hH.ho rfl) rfl rfl hl.1 rfl (lv_room (Nat.le_of_ble_eq_true rfl)) d_Ho_whyNotBegun_3 ⟨Nat.le_of_ble_eq_true rfl, Nat.le_of_ble_eq_true rfl⟩) hS (fun H locs hV hS => ?_)
  refine lv_if_eq (tgt := 11) hx hb d_Ho_whyNotBegun_6 (by decide) (fun c_1 => ?_) (fun c_1 => ?_)
  · refine lv_aload_n hx hb d_Ho_whyNotBegun_11 rfl (lv_at hl 0 rfl) ?_
    refine gf_Ho_14 hx hb hW hown hG hV hH.ho d_Ho_whyNotBegun_12 ?_
    refine lv_aload_n hx hb d_Ho_whyNotBegun_15 rfl (lv_at hl 1 rfl) ?_
    refine rc_i (va_runV (As := [.ref a]) (rest := []) ⟨hx, hb, hml, hown, hts⟩ (c_Ar_holds l D N0 k V b.bo a 0 0 31 23 x y u v hH.bo h_a) (cwV 1 hts (gi_V wm_Ho_256 wv_Ar_holds ws_Ar_holds wi_Ar wc_Ar_holds) rfl rfl rfl (by decide +kernel) ⟨Nat.le_of_ble_eq_true rfl, Nat.le_of_ble_eq_true rfl⟩) (mP.preV hG hS hV hH.bo rfl) rfl rfl hl.1 rfl (lv_room (Nat.le_of_ble_eq_true rfl)) d_Ho_whyNotBegun_16 ⟨Nat.le_of_ble_eq_true rfl, Nat.le_of_ble_eq_true rfl⟩) hS (fun H locs hV hS => ?_)
    refine lv_if_ne (tgt := 24) hx hb d_Ho_whyNotBegun_19 (by decide) (fun c_2 => ?_) (fun c_2 => ?_)
    · refine lv_aload_n hx hb d_Ho_whyNotBegun_24 rfl (lv_at hl 0 rfl) ?_
      refine lv_aload_n hx hb d_Ho_whyNotBegun_25 rfl (lv_at hl 1 rfl) ?_
      refine lv_null hx hb d_Ho_whyNotBegun_26 ?_
      refine rc_i (va_runV (As := [.ref a, .null]) (rest := []) ⟨hx, hb, hml, hown, hts⟩ (c_Ho_meetsOpenAct_N l D N0 k V b.ho b.bo b.gi b.co b.ta b.ac b.ve (woA b σ.wo) (nI σ.nl) σ.rs hH.ho σ.G hH.gi b.fa b.rg b.sn b.sa σ.A σ.Z hH.ac a x y u v h_a) (cwV 2 hts (gi_V wm_Ho_271 wv_Ho_meetsOpenAct ws_Ho_meetsOpenAct wi_Ho wc_Ho_meetsOpenAct) rfl rfl rfl (by decide +kernel) ⟨Nat.le_of_ble_eq_true rfl, Nat.le_of_ble_eq_true rfl⟩) (mP.preV hG hS hV hH.ho rfl) rfl rfl hl.1 rfl (lv_room (Nat.le_of_ble_eq_true rfl)) d_Ho_whyNotBegun_27 ⟨Nat.le_of_ble_eq_true rfl, Nat.le_of_ble_eq_true rfl⟩) hS (fun H locs hV hS => ?_)
      refine lv_if_eq (tgt := 37) hx hb d_Ho_whyNotBegun_30 (by decide) (fun c_3 => ?_) (fun c_3 => ?_)
      · refine lv_iconst (v := 0) hx hb d_Ho_whyNotBegun_37 (by decide) ?_
        rw [mt_brN hH] at c_3
        simp only [bI_ne0, bI_eq0, decide_eq_true_eq, decide_eq_false_iff_not] at c_1
        simp only [bI_ne0, bI_eq0, decide_eq_true_eq, decide_eq_false_iff_not] at c_2
        simp only [bI_ne0, bI_eq0, decide_eq_true_eq, decide_eq_false_iff_not] at c_3
        exact W.iret (v := 0) hx hb hr (fun t ht hW => ⟨⟨0, V, rfl, ⟨by rw [whyBg]; simp [c_1, c_2, c_3], rfl⟩, mB_of ht hV⟩, hS.F ht⟩) hS.2.2 d_Ho_whyNotBegun_38
      · refine lv_iconst (v := 3) hx hb d_Ho_whyNotBegun_33 (by decide) ?_
        refine lv_goto (tgt := 38) hx hb d_Ho_whyNotBegun_34 (by decide) ?_
        rw [mt_brN hH] at c_3
        simp only [bI_ne0, bI_eq0, decide_eq_true_eq, decide_eq_false_iff_not] at c_1
        simp only [bI_ne0, bI_eq0, decide_eq_true_eq, decide_eq_false_iff_not] at c_2
        simp only [bI_ne0, bI_eq0, decide_eq_true_eq, decide_eq_false_iff_not] at c_3
        exact W.iret (v := 3) hx hb hr (fun t ht hW => ⟨⟨3, V, rfl, ⟨by rw [whyBg]; simp [c_1, c_2, c_3], rfl⟩, mB_of ht hV⟩, hS.F ht⟩) hS.2.2 d_Ho_whyNotBegun_38
    · refine lv_iconst (v := 2) hx hb d_Ho_whyNotBegun_22 (by decide) ?_
      simp only [bI_ne0, bI_eq0, decide_eq_true_eq, decide_eq_false_iff_not] at c_1
      simp only [bI_ne0, bI_eq0, decide_eq_true_eq, decide_eq_false_iff_not] at c_2
      exact W.iret (v := 2) hx hb hr (fun t ht hW => ⟨⟨2, V, rfl, ⟨by rw [whyBg]; simp [c_1, c_2], rfl⟩, mB_of ht hV⟩, hS.F ht⟩) hS.2.2 d_Ho_whyNotBegun_23
  · refine lv_iconst (v := 1) hx hb d_Ho_whyNotBegun_9 (by decide) ?_
    simp only [bI_ne0, bI_eq0, decide_eq_true_eq, decide_eq_false_iff_not] at c_1
    exact W.iret (v := 1) hx hb hr (fun t ht hW => ⟨⟨1, V, rfl, ⟨by rw [whyBg]; simp [c_1], rfl⟩, mB_of ht hV⟩, hS.F ht⟩) hS.2.2 d_Ho_whyNotBegun_10
