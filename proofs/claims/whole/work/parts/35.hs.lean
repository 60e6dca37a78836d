/-! THE HOUSE in a view: a: where its cells lie, and a label for each address; σ: its numbers. Cells of others have labels from 10000 on. -/
def HA : Type := (Nat → Nat) × (Nat → Option Nat) × (Nat → Nat)
def HA.ho (a : HA) : Nat := a.1 1
def HA.bo (a : HA) : Nat := a.1 2
def HA.gi (a : HA) : Nat := a.1 3
def HA.co (a : HA) : Nat := a.1 4
def HA.ta (a : HA) : Nat := a.1 5
def HA.ac (a : HA) : Nat := a.1 6
def HA.ve (a : HA) : Nat := a.1 7
def HA.ro (a : HA) : Nat := a.1 8
def HA.rq (a : HA) : Nat := a.1 9
def HA.on (a : HA) : Nat := a.1 10
def HA.re (a : HA) : Nat := a.1 11
def HA.ar (a : HA) (i : Nat) : Nat := a.1 (2000 + i)
def HA.rg (a : HA) (i : Nat) : Nat := a.1 (120 + i)
def HA.sn (a : HA) (i : Nat) : Nat := a.1 (140 + i)
def HA.sa (a : HA) (i : Nat) : Nat := a.1 (160 + i)
def HA.vr (a : HA) (i : Nat) : Nat := a.1 (190 + i)
def HA.os (a : HA) (i : Nat) : Nat := a.1 (20 + i)
def HA.oR (a : HA) (i : Nat) : Nat := a.1 (30 + i)
def HA.ss (a : HA) (i : Nat) : Nat := a.1 (40 + i)
def HA.sR (a : HA) (i : Nat) : Nat := a.1 (50 + i)
def HA.f (a : HA) (i : Nat) : Option Nat := a.2.1 (1000 + i)
def HA.fa (a : HA) (i : Nat) : Option Nat := a.2.1 (100 + i)
def HA.fv (a : HA) (i : Nat) : Option Nat := a.2.1 (180 + i)
def HA.fo (a : HA) (i : Nat) : Option Nat := a.2.1 (20 + i)
def HA.fs (a : HA) (i : Nat) : Option Nat := a.2.1 (40 + i)
def HA.lb (a : HA) : Nat → Nat := a.2.2
/-- nl layers; rs: the reason told; g: the gap; wo: the act that works; G: how many were given; T: the things' numbers; A: the acts' numbers; Z: what their snapshots know; W: what the versions know -/
def HS : Type := Nat × Int32 × Int32 × (Option Nat) × (Nat → Int32) × (Nat → Nat → Int32) × (Nat → Nat → Int32) × (Nat → Nat → Int32) × (Nat → Nat → Int32)
def HS.nl (σ : HS) : Nat := σ.1
def HS.rs (σ : HS) : Int32 := σ.2.1
def HS.g (σ : HS) : Int32 := σ.2.2.1
def HS.wo (σ : HS) : Option Nat := σ.2.2.2.1
def HS.G (σ : HS) : Nat → Int32 := σ.2.2.2.2.1
def HS.T (σ : HS) : Nat → Nat → Int32 := σ.2.2.2.2.2.1
def HS.A (σ : HS) : Nat → Nat → Int32 := σ.2.2.2.2.2.2.1
def HS.Z (σ : HS) : Nat → Nat → Int32 := σ.2.2.2.2.2.2.2.1
def HS.W (σ : HS) : Nat → Nat → Int32 := σ.2.2.2.2.2.2.2.2
def HS.wrs (σ : HS) (z : Int32) : HS := (σ.nl, z, σ.g, σ.wo, σ.G, σ.T, σ.A, σ.Z, σ.W)
def HS.wg (σ : HS) (z : Int32) : HS := (σ.nl, σ.rs, z, σ.wo, σ.G, σ.T, σ.A, σ.Z, σ.W)
def HS.wwo (σ : HS) (z : Option Nat) : HS := (σ.nl, σ.rs, σ.g, z, σ.G, σ.T, σ.A, σ.Z, σ.W)
def HS.wG (σ : HS) (z : Nat → Int32) : HS := (σ.nl, σ.rs, σ.g, σ.wo, z, σ.T, σ.A, σ.Z, σ.W)
def HS.wT (σ : HS) (z : Nat → Nat → Int32) : HS := (σ.nl, σ.rs, σ.g, σ.wo, σ.G, z, σ.A, σ.Z, σ.W)
def HS.wA (σ : HS) (z : Nat → Nat → Int32) : HS := (σ.nl, σ.rs, σ.g, σ.wo, σ.G, σ.T, z, σ.Z, σ.W)
def HS.wZ (σ : HS) (z : Nat → Nat → Int32) : HS := (σ.nl, σ.rs, σ.g, σ.wo, σ.G, σ.T, σ.A, z, σ.W)
def HS.wW (σ : HS) (z : Nat → Nat → Int32) : HS := (σ.nl, σ.rs, σ.g, σ.wo, σ.G, σ.T, σ.A, σ.Z, z)
abbrev eSs (k : Nat → Nat) (n : Nat) (f : Nat → Option Nat) : va_E := .inl (k 6, n, .inr (.inr (.inr (.inr f))))
abbrev eVs (k : Nat → Nat) (f : Nat → Option Nat) : va_E := .inl (k 5, 8, .inr (.inr (.inr (.inr f))))
abbrev woA (a : HA) (wo : Option Nat) : Option Nat := wo.bind a.fa
def hsLb (a : HA) (nl : Nat) : Prop :=
  (a.lb a.ho = 1) ∧
  (a.lb a.bo = 2) ∧
  (a.lb a.gi = 3) ∧
  (a.lb a.co = 4) ∧
  (a.lb a.ta = 5) ∧
  (a.lb a.ac = 6) ∧
  (a.lb a.ve = 7) ∧
  (a.lb a.ro = 8) ∧
  (a.lb a.rq = 9) ∧
  (a.lb a.on = 10) ∧
  (a.lb a.re = 11) ∧
  (∀ i t, i < 150 → a.f i = some t → a.lb t = 1000 + i ∧ a.lb (a.ar i) = 2000 + i) ∧
  (∀ j t, j < 10 → a.fa j = some t → a.lb t = 100 + j ∧ a.lb (a.rg j) = 120 + j ∧ a.lb (a.sn j) = 140 + j ∧ a.lb (a.sa j) = 160 + j) ∧
  (∀ j v, j < 8 → a.fv j = some v → a.lb v = 180 + j ∧ a.lb (a.vr j) = 190 + j) ∧
  (∀ i, i < nl → a.lb (a.os i) = 20 + i ∧ a.lb (a.oR i) = 30 + i ∧ a.lb (a.ss i) = 40 + i ∧ a.lb (a.sR i) = 50 + i)
theorem hsLb.l1 {a : HA} {nl : Nat} (h : hsLb a nl) : a.lb a.ho = 1 := h.1
theorem hsLb.l2 {a : HA} {nl : Nat} (h : hsLb a nl) : a.lb a.bo = 2 := h.2.1
theorem hsLb.l3 {a : HA} {nl : Nat} (h : hsLb a nl) : a.lb a.gi = 3 := h.2.2.1
theorem hsLb.l4 {a : HA} {nl : Nat} (h : hsLb a nl) : a.lb a.co = 4 := h.2.2.2.1
theorem hsLb.l5 {a : HA} {nl : Nat} (h : hsLb a nl) : a.lb a.ta = 5 := h.2.2.2.2.1
theorem hsLb.l6 {a : HA} {nl : Nat} (h : hsLb a nl) : a.lb a.ac = 6 := h.2.2.2.2.2.1
theorem hsLb.l7 {a : HA} {nl : Nat} (h : hsLb a nl) : a.lb a.ve = 7 := h.2.2.2.2.2.2.1
theorem hsLb.l8 {a : HA} {nl : Nat} (h : hsLb a nl) : a.lb a.ro = 8 := h.2.2.2.2.2.2.2.1
theorem hsLb.l9 {a : HA} {nl : Nat} (h : hsLb a nl) : a.lb a.rq = 9 := h.2.2.2.2.2.2.2.2.1
theorem hsLb.l10 {a : HA} {nl : Nat} (h : hsLb a nl) : a.lb a.on = 10 := h.2.2.2.2.2.2.2.2.2.1
theorem hsLb.l11 {a : HA} {nl : Nat} (h : hsLb a nl) : a.lb a.re = 11 := h.2.2.2.2.2.2.2.2.2.2.1
theorem hsLb.lt {a : HA} {nl : Nat} (h : hsLb a nl) : ∀ i t, i < 150 → a.f i = some t → a.lb t = 1000 + i ∧ a.lb (a.ar i) = 2000 + i := h.2.2.2.2.2.2.2.2.2.2.2.1
theorem hsLb.la {a : HA} {nl : Nat} (h : hsLb a nl) : ∀ j t, j < 10 → a.fa j = some t → a.lb t = 100 + j ∧ a.lb (a.rg j) = 120 + j ∧ a.lb (a.sn j) = 140 + j ∧ a.lb (a.sa j) = 160 + j := h.2.2.2.2.2.2.2.2.2.2.2.2.1
theorem hsLb.lv {a : HA} {nl : Nat} (h : hsLb a nl) : ∀ j v, j < 8 → a.fv j = some v → a.lb v = 180 + j ∧ a.lb (a.vr j) = 190 + j := h.2.2.2.2.2.2.2.2.2.2.2.2.2.1
theorem hsLb.ls {a : HA} {nl : Nat} (h : hsLb a nl) : ∀ i, i < nl → a.lb (a.os i) = 20 + i ∧ a.lb (a.oR i) = 30 + i ∧ a.lb (a.ss i) = 40 + i ∧ a.lb (a.sR i) = 50 + i := h.2.2.2.2.2.2.2.2.2.2.2.2.2.2
def hsOk (k : Nat → Nat) (V : HV) (a : HA) (σ : HS) : Prop :=
  (hsLb a σ.nl) ∧
  (V a.ho = some (eHo (nI σ.nl) a.bo a.gi a.co a.ta a.ac a.ve (woA a σ.wo) σ.rs)) ∧
  (V a.bo = some (eAr 0 0 31 23)) ∧
  (V a.gi = some (eI k 8 σ.G)) ∧
  (V a.co = some (eCo a.ta (nI σ.nl) a.ro a.on a.re σ.g)) ∧
  (tsOk k V a.ta a.f a.ar σ.T) ∧
  (acOk k V a.ac a.fa a.rg a.sn a.sa σ.A σ.Z) ∧
  (V a.ve = some (eVs k a.fv)) ∧
  (∀ j v, j < 8 → a.fv j = some v → V v = some (eSn (a.vr j)) ∧ V (a.vr j) = some (eI k 150 (σ.W j))) ∧
  (V a.ro = some (eSh a.rq)) ∧
  (∃ F, V a.rq = some (eI k 24 F)) ∧
  (V a.on = some (eSs k σ.nl a.fo)) ∧
  (V a.re = some (eSs k σ.nl a.fs)) ∧
  (∀ i, i < σ.nl → a.fo i = some (a.os i) ∧ V (a.os i) = some (eSh (a.oR i)) ∧ (∃ F, V (a.oR i) = some (eI k 24 F)) ∧ a.fs i = some (a.ss i) ∧ V (a.ss i) = some (eSh (a.sR i)) ∧ ∃ F, V (a.sR i) = some (eI k 24 F)) ∧
  (∀ j, σ.wo = some j → j < 10 ∧ ∃ t, a.fa j = some t) ∧
  (1 ≤ σ.nl) ∧
  (σ.nl ≤ 4)
theorem hsOk.lab {k : Nat → Nat} {V : HV} {a : HA} {σ : HS} (h : hsOk k V a σ) : hsLb a σ.nl := h.1
theorem hsOk.ho {k : Nat → Nat} {V : HV} {a : HA} {σ : HS} (h : hsOk k V a σ) : V a.ho = some (eHo (nI σ.nl) a.bo a.gi a.co a.ta a.ac a.ve (woA a σ.wo) σ.rs) := h.2.1
theorem hsOk.bo {k : Nat → Nat} {V : HV} {a : HA} {σ : HS} (h : hsOk k V a σ) : V a.bo = some (eAr 0 0 31 23) := h.2.2.1
theorem hsOk.gi {k : Nat → Nat} {V : HV} {a : HA} {σ : HS} (h : hsOk k V a σ) : V a.gi = some (eI k 8 σ.G) := h.2.2.2.1
theorem hsOk.co {k : Nat → Nat} {V : HV} {a : HA} {σ : HS} (h : hsOk k V a σ) : V a.co = some (eCo a.ta (nI σ.nl) a.ro a.on a.re σ.g) := h.2.2.2.2.1
theorem hsOk.ts {k : Nat → Nat} {V : HV} {a : HA} {σ : HS} (h : hsOk k V a σ) : tsOk k V a.ta a.f a.ar σ.T := h.2.2.2.2.2.1
theorem hsOk.ac {k : Nat → Nat} {V : HV} {a : HA} {σ : HS} (h : hsOk k V a σ) : acOk k V a.ac a.fa a.rg a.sn a.sa σ.A σ.Z := h.2.2.2.2.2.2.1
theorem hsOk.ve {k : Nat → Nat} {V : HV} {a : HA} {σ : HS} (h : hsOk k V a σ) : V a.ve = some (eVs k a.fv) := h.2.2.2.2.2.2.2.1
theorem hsOk.vs {k : Nat → Nat} {V : HV} {a : HA} {σ : HS} (h : hsOk k V a σ) : ∀ j v, j < 8 → a.fv j = some v → V v = some (eSn (a.vr j)) ∧ V (a.vr j) = some (eI k 150 (σ.W j)) := h.2.2.2.2.2.2.2.2.1
theorem hsOk.ro {k : Nat → Nat} {V : HV} {a : HA} {σ : HS} (h : hsOk k V a σ) : V a.ro = some (eSh a.rq) := h.2.2.2.2.2.2.2.2.2.1
theorem hsOk.rq {k : Nat → Nat} {V : HV} {a : HA} {σ : HS} (h : hsOk k V a σ) : ∃ F, V a.rq = some (eI k 24 F) := h.2.2.2.2.2.2.2.2.2.2.1
theorem hsOk.on {k : Nat → Nat} {V : HV} {a : HA} {σ : HS} (h : hsOk k V a σ) : V a.on = some (eSs k σ.nl a.fo) := h.2.2.2.2.2.2.2.2.2.2.2.1
theorem hsOk.re {k : Nat → Nat} {V : HV} {a : HA} {σ : HS} (h : hsOk k V a σ) : V a.re = some (eSs k σ.nl a.fs) := h.2.2.2.2.2.2.2.2.2.2.2.2.1
theorem hsOk.os {k : Nat → Nat} {V : HV} {a : HA} {σ : HS} (h : hsOk k V a σ) : ∀ i, i < σ.nl → a.fo i = some (a.os i) ∧ V (a.os i) = some (eSh (a.oR i)) ∧ (∃ F, V (a.oR i) = some (eI k 24 F)) ∧ a.fs i = some (a.ss i) ∧ V (a.ss i) = some (eSh (a.sR i)) ∧ ∃ F, V (a.sR i) = some (eI k 24 F) := h.2.2.2.2.2.2.2.2.2.2.2.2.2.1
theorem hsOk.wo {k : Nat → Nat} {V : HV} {a : HA} {σ : HS} (h : hsOk k V a σ) : ∀ j, σ.wo = some j → j < 10 ∧ ∃ t, a.fa j = some t := h.2.2.2.2.2.2.2.2.2.2.2.2.2.2.1
theorem hsOk.n1 {k : Nat → Nat} {V : HV} {a : HA} {σ : HS} (h : hsOk k V a σ) : 1 ≤ σ.nl := h.2.2.2.2.2.2.2.2.2.2.2.2.2.2.2.1
theorem hsOk.n4 {k : Nat → Nat} {V : HV} {a : HA} {σ : HS} (h : hsOk k V a σ) : σ.nl ≤ 4 := h.2.2.2.2.2.2.2.2.2.2.2.2.2.2.2.2
/-- what belongs to others is as it was -/
def hsFr (a a' : HA) (V V' : HV) : Prop := a'.ho = a.ho ∧ ∀ q e, V q = some e → 9999 < a.lb q → V' q = some e ∧ a'.lb q = a.lb q
theorem hsFr.rf {a : HA} {V : HV} : hsFr a a V V := ⟨rfl, fun _ _ h _ => ⟨h, rfl⟩⟩
theorem hsFr.tr {a b c : HA} {V V1 V2 : HV} (h1 : hsFr a b V V1) (h2 : hsFr b c V1 V2) : hsFr a c V V2 :=
  ⟨h2.1.trans h1.1, fun q e h l => by
    obtain ⟨x1, y1⟩ := h1.2 q e h l
    obtain ⟨x2, y2⟩ := h2.2 q e x1 (by rw [y1]; exact l)
    exact ⟨x2, y2.trans y1⟩⟩
theorem hsFr_hu {a : HA} {V : HV} {q : Nat} {e : va_E} (h : a.lb q < 10000) : hsFr a a V (hu V q e) := ⟨rfl, fun x e hx l => ⟨by rw [hu_n (fun z => by rw [z] at l; omega)]; exact hx, rfl⟩⟩
/-- a label is given to an address -/
def HA.lab (a : HA) (q n : Nat) : HA := (a.1, a.2.1, fun x => if x = q then n else a.lb x)
theorem HA.lab_s {a : HA} {q n : Nat} : (a.lab q n).lb q = n := if_pos rfl
theorem HA.lab_n {a : HA} {q n x : Nat} (h : x ≠ q) : (a.lab q n).lb x = a.lb x := if_neg h
theorem hsFr_new {a : HA} {V : HV} {q n : Nat} {e : va_E} (h : V q = none) : hsFr a (a.lab q n) V (hu V q e) := ⟨rfl, fun x y hx l => by
  have hq : x ≠ q := fun z => by rw [z, h] at hx; cases hx
  exact ⟨by rw [hu_n hq]; exact hx, HA.lab_n hq⟩⟩
theorem tsIn_of {a : HA} {nl : Nat} (h : hsLb a nl) : tsIn a.f a.ar := by
  refine ⟨fun i j t hi hj h1 h2 => ?_, fun i j t t' hi hj h1 h2 e => ?_⟩
  · have := (h.lt i t hi h1).1; have := (h.lt j t hj h2).1; omega
  · have := (h.lt i t hi h1).2; have := (h.lt j t' hj h2).2; rw [e] at *; omega
theorem hs_ts {k : Nat → Nat} {V V' : HV} {a : HA} {σ : HS} (h : hsOk k V a σ) {n : Nat} (hV : ∀ q, a.lb q ≠ n → V' q = V q) (h1 : n ≠ 5) (h2 : n < 1000 ∨ 2150 ≤ n) : tsOk k V' a.ta a.f a.ar σ.T :=
  ⟨(hV _ (by rw [h.lab.l5]; omega)).trans h.ts.1, fun i t hi hf => ⟨(hV _ (by rw [(h.lab.lt i t hi hf).1]; omega)).trans (h.ts.2.1 i t hi hf).1, (hV _ (by rw [(h.lab.lt i t hi hf).2]; omega)).trans (h.ts.2.1 i t hi hf).2⟩, h.ts.2.2⟩
theorem hs_ac {k : Nat → Nat} {V V' : HV} {a : HA} {σ : HS} (h : hsOk k V a σ) {n : Nat} (hV : ∀ q, a.lb q ≠ n → V' q = V q) (h1 : n ≠ 6) (h2 : n < 100 ∨ 170 ≤ n) : acOk k V' a.ac a.fa a.rg a.sn a.sa σ.A σ.Z :=
  ⟨(hV _ (by rw [h.lab.l6]; omega)).trans h.ac.1, fun j t hj hf => by
    obtain ⟨l1, l2, l3, l4⟩ := h.lab.la j t hj hf
    obtain ⟨e1, e2, e3, e4⟩ := h.ac.2.1 j t hj hf
    exact ⟨(hV _ (by omega)).trans e1, (hV _ (by omega)).trans e2, (hV _ (by omega)).trans e3, (hV _ (by omega)).trans e4⟩, h.ac.2.2⟩
theorem hs_vs {k : Nat → Nat} {V V' : HV} {a : HA} {σ : HS} (h : hsOk k V a σ) {n : Nat} (hV : ∀ q, a.lb q ≠ n → V' q = V q) (h2 : n < 180 ∨ 200 ≤ n) : ∀ j v, j < 8 → a.fv j = some v → V' v = some (eSn (a.vr j)) ∧ V' (a.vr j) = some (eI k 150 (σ.W j)) := fun j v hj hf => by
  obtain ⟨l1, l2⟩ := h.lab.lv j v hj hf
  obtain ⟨e1, e2⟩ := h.vs j v hj hf
  exact ⟨(hV _ (by omega)).trans e1, (hV _ (by omega)).trans e2⟩
theorem hs_os {k : Nat → Nat} {V V' : HV} {a : HA} {σ : HS} (h : hsOk k V a σ) {n : Nat} (hV : ∀ q, a.lb q ≠ n → V' q = V q) (h2 : n < 20 ∨ 60 ≤ n) : ∀ i, i < σ.nl → a.fo i = some (a.os i) ∧ V' (a.os i) = some (eSh (a.oR i)) ∧ (∃ F, V' (a.oR i) = some (eI k 24 F)) ∧ a.fs i = some (a.ss i) ∧ V' (a.ss i) = some (eSh (a.sR i)) ∧ ∃ F, V' (a.sR i) = some (eI k 24 F) := fun i hi => by
  have := h.n4
  obtain ⟨l1, l2, l3, l4⟩ := h.lab.ls i hi
  obtain ⟨e1, e2, ⟨F, e3⟩, e4, e5, ⟨F', e6⟩⟩ := h.os i hi
  exact ⟨e1, (hV _ (by omega)).trans e2, ⟨F, (hV _ (by omega)).trans e3⟩, e4, (hV _ (by omega)).trans e5, ⟨F', (hV _ (by omega)).trans e6⟩⟩
theorem hs_hv {a : HA} {V : HV} {q n : Nat} {e : va_E} (h : a.lb q = n) : ∀ x, a.lb x ≠ n → hu V q e x = V x := fun x hx => hu_n (fun z => hx (by rw [z]; exact h))
theorem hs_rs {k : Nat → Nat} {V : HV} {a : HA} {σ : HS} (h : hsOk k V a σ) (r : Int32) : hsOk k (hu V a.ho (eHo (nI σ.nl) a.bo a.gi a.co a.ta a.ac a.ve (woA a σ.wo) r)) a (σ.wrs (r)) := by
  have hV := hs_hv (V := V) (e := (eHo (nI σ.nl) a.bo a.gi a.co a.ta a.ac a.ve (woA a σ.wo) r)) h.lab.l1
  exact ⟨h.lab, hu_s, (hV _ (by rw [h.lab.l2]; omega)).trans h.bo, (hV _ (by rw [h.lab.l3]; omega)).trans h.gi, (hV _ (by rw [h.lab.l4]; omega)).trans h.co, hs_ts (σ := σ) h hV (by omega) (by omega), hs_ac (σ := σ) h hV (by omega) (by omega), (hV _ (by rw [h.lab.l7]; omega)).trans h.ve, hs_vs (σ := σ) h hV (by omega), (hV _ (by rw [h.lab.l8]; omega)).trans h.ro, h.rq.elim (fun F e => ⟨F, (hV _ (by rw [h.lab.l9]; omega)).trans e⟩), (hV _ (by rw [h.lab.l10]; omega)).trans h.on, (hV _ (by rw [h.lab.l11]; omega)).trans h.re, hs_os (σ := σ) h hV (by omega), h.wo, h.n1, h.n4⟩
theorem hs_wo {k : Nat → Nat} {V : HV} {a : HA} {σ : HS} (h : hsOk k V a σ) (w : Option Nat) (hw : ∀ j, w = some j → j < 10 ∧ ∃ t, a.fa j = some t) : hsOk k (hu V a.ho (eHo (nI σ.nl) a.bo a.gi a.co a.ta a.ac a.ve (woA a w) σ.rs)) a (σ.wwo (w)) := by
  have hV := hs_hv (V := V) (e := (eHo (nI σ.nl) a.bo a.gi a.co a.ta a.ac a.ve (woA a w) σ.rs)) h.lab.l1
  exact ⟨h.lab, hu_s, (hV _ (by rw [h.lab.l2]; omega)).trans h.bo, (hV _ (by rw [h.lab.l3]; omega)).trans h.gi, (hV _ (by rw [h.lab.l4]; omega)).trans h.co, hs_ts (σ := σ) h hV (by omega) (by omega), hs_ac (σ := σ) h hV (by omega) (by omega), (hV _ (by rw [h.lab.l7]; omega)).trans h.ve, hs_vs (σ := σ) h hV (by omega), (hV _ (by rw [h.lab.l8]; omega)).trans h.ro, h.rq.elim (fun F e => ⟨F, (hV _ (by rw [h.lab.l9]; omega)).trans e⟩), (hV _ (by rw [h.lab.l10]; omega)).trans h.on, (hV _ (by rw [h.lab.l11]; omega)).trans h.re, hs_os (σ := σ) h hV (by omega), hw, h.n1, h.n4⟩
theorem hs_gi {k : Nat → Nat} {V : HV} {a : HA} {σ : HS} (h : hsOk k V a σ) (G : Nat → Int32) : hsOk k (hu V a.gi (eI k 8 G)) a (σ.wG (G)) := by
  have hV := hs_hv (V := V) (e := (eI k 8 G)) h.lab.l3
  exact ⟨h.lab, (hV _ (by rw [h.lab.l1]; omega)).trans h.ho, (hV _ (by rw [h.lab.l2]; omega)).trans h.bo, hu_s, (hV _ (by rw [h.lab.l4]; omega)).trans h.co, hs_ts (σ := σ) h hV (by omega) (by omega), hs_ac (σ := σ) h hV (by omega) (by omega), (hV _ (by rw [h.lab.l7]; omega)).trans h.ve, hs_vs (σ := σ) h hV (by omega), (hV _ (by rw [h.lab.l8]; omega)).trans h.ro, h.rq.elim (fun F e => ⟨F, (hV _ (by rw [h.lab.l9]; omega)).trans e⟩), (hV _ (by rw [h.lab.l10]; omega)).trans h.on, (hV _ (by rw [h.lab.l11]; omega)).trans h.re, hs_os (σ := σ) h hV (by omega), h.wo, h.n1, h.n4⟩
theorem hs_g {k : Nat → Nat} {V : HV} {a : HA} {σ : HS} (h : hsOk k V a σ) (g : Int32) : hsOk k (hu V a.co (eCo a.ta (nI σ.nl) a.ro a.on a.re g)) a (σ.wg (g)) := by
  have hV := hs_hv (V := V) (e := (eCo a.ta (nI σ.nl) a.ro a.on a.re g)) h.lab.l4
  exact ⟨h.lab, (hV _ (by rw [h.lab.l1]; omega)).trans h.ho, (hV _ (by rw [h.lab.l2]; omega)).trans h.bo, (hV _ (by rw [h.lab.l3]; omega)).trans h.gi, hu_s, hs_ts (σ := σ) h hV (by omega) (by omega), hs_ac (σ := σ) h hV (by omega) (by omega), (hV _ (by rw [h.lab.l7]; omega)).trans h.ve, hs_vs (σ := σ) h hV (by omega), (hV _ (by rw [h.lab.l8]; omega)).trans h.ro, h.rq.elim (fun F e => ⟨F, (hV _ (by rw [h.lab.l9]; omega)).trans e⟩), (hV _ (by rw [h.lab.l10]; omega)).trans h.on, (hV _ (by rw [h.lab.l11]; omega)).trans h.re, hs_os (σ := σ) h hV (by omega), h.wo, h.n1, h.n4⟩
theorem hs_th {k : Nat → Nat} {V : HV} {a : HA} {σ : HS} (h : hsOk k V a σ) {i t : Nat} (hi : i < 150) (hf : a.f i = some t) (R : Nat → Int32) (hR : ∀ q, 6 ≤ q → R q = σ.T i q) : hsOk k (hu V t (eThR R (a.ar i))) a (σ.wT (updT σ.T i R)) := by
  have hV := hs_hv (V := V) (e := (eThR R (a.ar i))) (h.lab.lt i t hi hf).1
  have hts : tsOk k (hu V t (eThR R (a.ar i))) a.ta a.f a.ar (updT σ.T i R) := ⟨(hV _ (by rw [h.lab.l5]; omega)).trans h.ts.1, fun j t' hj hf' => by
      obtain ⟨e1, e2⟩ := h.ts.2.1 j t' hj hf'
      by_cases hji : j = i
      · subst hji
        have ht : t' = t := Option.some.inj (hf'.symm.trans hf)
        subst ht
        obtain ⟨m1, m2⟩ := h.lab.lt j t' hj hf'
        refine ⟨by rw [eThT, uT_s]; exact hu_s, (hV _ (by omega)).trans ?_⟩
        rw [eArT, uT_s, hR 6 (by omega), hR 7 (by omega), hR 8 (by omega), hR 9 (by omega)]; exact e2
      · obtain ⟨m1, m2⟩ := h.lab.lt j t' hj hf'
        rw [eThT, eArT, uT_n hji]
        exact ⟨(hV _ (by omega)).trans e1, (hV _ (by omega)).trans e2⟩, fun j hj hf' => by
      have hji : j ≠ i := fun z => by rw [z, hf] at hf'; cases hf'
      rw [uT_n hji]
      exact h.ts.2.2 j hj hf'⟩
  exact ⟨h.lab, (hV _ (by rw [h.lab.l1]; omega)).trans h.ho, (hV _ (by rw [h.lab.l2]; omega)).trans h.bo, (hV _ (by rw [h.lab.l3]; omega)).trans h.gi, (hV _ (by rw [h.lab.l4]; omega)).trans h.co, hts, hs_ac (σ := σ) h hV (by omega) (by omega), (hV _ (by rw [h.lab.l7]; omega)).trans h.ve, hs_vs (σ := σ) h hV (by omega), (hV _ (by rw [h.lab.l8]; omega)).trans h.ro, h.rq.elim (fun F e => ⟨F, (hV _ (by rw [h.lab.l9]; omega)).trans e⟩), (hV _ (by rw [h.lab.l10]; omega)).trans h.on, (hV _ (by rw [h.lab.l11]; omega)).trans h.re, hs_os (σ := σ) h hV (by omega), h.wo, h.n1, h.n4⟩
theorem hs_ar {k : Nat → Nat} {V : HV} {a : HA} {σ : HS} (h : hsOk k V a σ) {i t : Nat} (hi : i < 150) (hf : a.f i = some t) (R : Nat → Int32) (hR : ∀ q, q < 6 → R q = σ.T i q) : hsOk k (hu V (a.ar i) (eArR R)) a (σ.wT (updT σ.T i R)) := by
  have hV := hs_hv (V := V) (e := (eArR R)) (h.lab.lt i t hi hf).2
  have hts : tsOk k (hu V (a.ar i) (eArR R)) a.ta a.f a.ar (updT σ.T i R) := ⟨(hV _ (by rw [h.lab.l5]; omega)).trans h.ts.1, fun j t' hj hf' => by
      obtain ⟨e1, e2⟩ := h.ts.2.1 j t' hj hf'
      by_cases hji : j = i
      · subst hji
        have ht : t' = t := Option.some.inj (hf'.symm.trans hf)
        subst ht
        obtain ⟨m1, m2⟩ := h.lab.lt j t' hj hf'
        refine ⟨(hV _ (by omega)).trans ?_, by rw [eArT, uT_s]; exact hu_s⟩
        rw [eThT, uT_s, hR 0 (by omega), hR 1 (by omega), hR 2 (by omega), hR 3 (by omega), hR 4 (by omega), hR 5 (by omega)]; exact e1
      · obtain ⟨m1, m2⟩ := h.lab.lt j t' hj hf'
        rw [eThT, eArT, uT_n hji]
        exact ⟨(hV _ (by omega)).trans e1, (hV _ (by omega)).trans e2⟩, fun j hj hf' => by
      have hji : j ≠ i := fun z => by rw [z, hf] at hf'; cases hf'
      rw [uT_n hji]
      exact h.ts.2.2 j hj hf'⟩
  exact ⟨h.lab, (hV _ (by rw [h.lab.l1]; omega)).trans h.ho, (hV _ (by rw [h.lab.l2]; omega)).trans h.bo, (hV _ (by rw [h.lab.l3]; omega)).trans h.gi, (hV _ (by rw [h.lab.l4]; omega)).trans h.co, hts, hs_ac (σ := σ) h hV (by omega) (by omega), (hV _ (by rw [h.lab.l7]; omega)).trans h.ve, hs_vs (σ := σ) h hV (by omega), (hV _ (by rw [h.lab.l8]; omega)).trans h.ro, h.rq.elim (fun F e => ⟨F, (hV _ (by rw [h.lab.l9]; omega)).trans e⟩), (hV _ (by rw [h.lab.l10]; omega)).trans h.on, (hV _ (by rw [h.lab.l11]; omega)).trans h.re, hs_os (σ := σ) h hV (by omega), h.wo, h.n1, h.n4⟩
theorem hs_act {k : Nat → Nat} {V : HV} {a : HA} {σ : HS} (h : hsOk k V a σ) {j t : Nat} (hj : j < 10) (hf : a.fa j = some t) (R : Nat → Int32) (hR : ∀ q, 2 ≤ q → R q = σ.A j q) : hsOk k (hu V t (eAc (a.rg j) (a.sn j) (R 0) (R 1))) a (σ.wA (updT σ.A j R)) := by
  have hV := hs_hv (V := V) (e := (eAc (a.rg j) (a.sn j) (R 0) (R 1))) (h.lab.la j t hj hf).1
  have hac : acOk k (hu V t (eAc (a.rg j) (a.sn j) (R 0) (R 1))) a.ac a.fa a.rg a.sn a.sa (updT σ.A j R) σ.Z := ⟨(hV _ (by rw [h.lab.l6]; omega)).trans h.ac.1, fun j' t' hj' hf' => by
      obtain ⟨e1, e2, e3, e4⟩ := h.ac.2.1 j' t' hj' hf'
      obtain ⟨m1, m2, m3, m4⟩ := h.lab.la j' t' hj' hf'
      by_cases hji : j' = j
      · subst hji
        have ht : t' = t := Option.some.inj (hf'.symm.trans hf)
        subst ht
        rw [uT_s]
        refine ⟨hu_s, (hV _ (by omega)).trans ?_, (hV _ (by omega)).trans e3, (hV _ (by omega)).trans e4⟩
        rw [hR 2 (by omega), hR 3 (by omega), hR 4 (by omega), hR 5 (by omega)]; exact e2
      · rw [uT_n hji]
        exact ⟨(hV _ (by omega)).trans e1, (hV _ (by omega)).trans e2, (hV _ (by omega)).trans e3, (hV _ (by omega)).trans e4⟩, fun j' hj' hf' => by
      have hji : j' ≠ j := fun z => by rw [z, hf] at hf'; cases hf'
      rw [uT_n hji]
      exact h.ac.2.2 j' hj' hf'⟩
  exact ⟨h.lab, (hV _ (by rw [h.lab.l1]; omega)).trans h.ho, (hV _ (by rw [h.lab.l2]; omega)).trans h.bo, (hV _ (by rw [h.lab.l3]; omega)).trans h.gi, (hV _ (by rw [h.lab.l4]; omega)).trans h.co, hs_ts (σ := σ) h hV (by omega) (by omega), hac, (hV _ (by rw [h.lab.l7]; omega)).trans h.ve, hs_vs (σ := σ) h hV (by omega), (hV _ (by rw [h.lab.l8]; omega)).trans h.ro, h.rq.elim (fun F e => ⟨F, (hV _ (by rw [h.lab.l9]; omega)).trans e⟩), (hV _ (by rw [h.lab.l10]; omega)).trans h.on, (hV _ (by rw [h.lab.l11]; omega)).trans h.re, hs_os (σ := σ) h hV (by omega), h.wo, h.n1, h.n4⟩
theorem hs_sa {k : Nat → Nat} {V : HV} {a : HA} {σ : HS} (h : hsOk k V a σ) {j t : Nat} (hj : j < 10) (hf : a.fa j = some t) (R : Nat → Int32) : hsOk k (hu V (a.sa j) (eI k 150 R)) a (σ.wZ (updT σ.Z j R)) := by
  have hV := hs_hv (V := V) (e := (eI k 150 R)) (h.lab.la j t hj hf).2.2.2
  have hac : acOk k (hu V (a.sa j) (eI k 150 R)) a.ac a.fa a.rg a.sn a.sa σ.A (updT σ.Z j R) := ⟨(hV _ (by rw [h.lab.l6]; omega)).trans h.ac.1, fun j' t' hj' hf' => by
      obtain ⟨e1, e2, e3, e4⟩ := h.ac.2.1 j' t' hj' hf'
      obtain ⟨m1, m2, m3, m4⟩ := h.lab.la j' t' hj' hf'
      by_cases hji : j' = j
      · subst hji
        have ht : t' = t := Option.some.inj (hf'.symm.trans hf)
        subst ht
        rw [uT_s]
        exact ⟨(hV _ (by omega)).trans e1, (hV _ (by omega)).trans e2, (hV _ (by omega)).trans e3, hu_s⟩
      · rw [uT_n hji]
        exact ⟨(hV _ (by omega)).trans e1, (hV _ (by omega)).trans e2, (hV _ (by omega)).trans e3, (hV _ (by omega)).trans e4⟩, fun j' hj' hf' => by
      have hji : j' ≠ j := fun z => by rw [z, hf] at hf'; cases hf'
      skip
      exact h.ac.2.2 j' hj' hf'⟩
  exact ⟨h.lab, (hV _ (by rw [h.lab.l1]; omega)).trans h.ho, (hV _ (by rw [h.lab.l2]; omega)).trans h.bo, (hV _ (by rw [h.lab.l3]; omega)).trans h.gi, (hV _ (by rw [h.lab.l4]; omega)).trans h.co, hs_ts (σ := σ) h hV (by omega) (by omega), hac, (hV _ (by rw [h.lab.l7]; omega)).trans h.ve, hs_vs (σ := σ) h hV (by omega), (hV _ (by rw [h.lab.l8]; omega)).trans h.ro, h.rq.elim (fun F e => ⟨F, (hV _ (by rw [h.lab.l9]; omega)).trans e⟩), (hV _ (by rw [h.lab.l10]; omega)).trans h.on, (hV _ (by rw [h.lab.l11]; omega)).trans h.re, hs_os (σ := σ) h hV (by omega), h.wo, h.n1, h.n4⟩
theorem hs_all {k : Nat → Nat} {V : HV} {a : HA} {σ : HS} (h : hsOk k V a σ) {V' : HV} {T1 : Nat → Nat → Int32} (hT : tsOk k V' a.ta a.f a.ar T1) (hF : tsFr a.f a.ar V V') : hsOk k V' a (σ.wT (T1)) ∧ hsFr a a V V' := by
  have hV : ∀ q, (a.lb q < 1000 ∨ 2150 ≤ a.lb q) → V' q = V q := fun q hq => hF q (fun i t hi hf => by
    obtain ⟨m1, m2⟩ := h.lab.lt i t hi hf
    refine ⟨fun z => ?_, fun z => ?_⟩ <;> subst z <;> omega)
  refine ⟨⟨h.lab, (hV _ (by rw [h.lab.l1]; omega)).trans h.ho, (hV _ (by rw [h.lab.l2]; omega)).trans h.bo, (hV _ (by rw [h.lab.l3]; omega)).trans h.gi, (hV _ (by rw [h.lab.l4]; omega)).trans h.co, hT, ⟨(hV _ (by rw [h.lab.l6]; omega)).trans h.ac.1, fun j t hj hf => ?_, h.ac.2.2⟩, (hV _ (by rw [h.lab.l7]; omega)).trans h.ve, fun j v hj hf => ?_, (hV _ (by rw [h.lab.l8]; omega)).trans h.ro, h.rq.elim (fun F e => ⟨F, (hV _ (by rw [h.lab.l9]; omega)).trans e⟩), (hV _ (by rw [h.lab.l10]; omega)).trans h.on, (hV _ (by rw [h.lab.l11]; omega)).trans h.re, fun i hi => ?_, h.wo, h.n1, h.n4⟩, rfl, fun q e hq hl => ⟨(hV q (by omega)).trans hq, rfl⟩⟩
  · obtain ⟨l1, l2, l3, l4⟩ := h.lab.la j t hj hf
    obtain ⟨e1, e2, e3, e4⟩ := h.ac.2.1 j t hj hf
    exact ⟨(hV _ (by omega)).trans e1, (hV _ (by omega)).trans e2, (hV _ (by omega)).trans e3, (hV _ (by omega)).trans e4⟩
  · obtain ⟨l1, l2⟩ := h.lab.lv j v hj hf
    obtain ⟨e1, e2⟩ := h.vs j v hj hf
    exact ⟨(hV _ (by omega)).trans e1, (hV _ (by omega)).trans e2⟩
  · have hi : i < σ.nl := hi
    have := h.n4
    obtain ⟨l1, l2, l3, l4⟩ := h.lab.ls i hi
    obtain ⟨e1, e2, ⟨F, e3⟩, e4, e5, ⟨F', e6⟩⟩ := h.os i hi
    exact ⟨e1, (hV _ (by omega)).trans e2, ⟨F, (hV _ (by omega)).trans e3⟩, e4, (hV _ (by omega)).trans e5, ⟨F', (hV _ (by omega)).trans e6⟩⟩
theorem hs_other {k : Nat → Nat} {V : HV} {a : HA} {σ : HS} (h : hsOk k V a σ) {V' : HV} (hV : ∀ q e, a.lb q < 10000 → V q = some e → V' q = some e) : hsOk k V' a σ := by
  refine ⟨h.lab, hV _ _ (by rw [h.lab.l1]; omega) h.ho, hV _ _ (by rw [h.lab.l2]; omega) h.bo, hV _ _ (by rw [h.lab.l3]; omega) h.gi, hV _ _ (by rw [h.lab.l4]; omega) h.co, ⟨hV _ _ (by rw [h.lab.l5]; omega) h.ts.1, fun i t hi hf => ?_, h.ts.2.2⟩, ⟨hV _ _ (by rw [h.lab.l6]; omega) h.ac.1, fun j t hj hf => ?_, h.ac.2.2⟩, hV _ _ (by rw [h.lab.l7]; omega) h.ve, fun j v hj hf => ?_, hV _ _ (by rw [h.lab.l8]; omega) h.ro, h.rq.elim (fun F e => ⟨F, hV _ _ (by rw [h.lab.l9]; omega) e⟩), hV _ _ (by rw [h.lab.l10]; omega) h.on, hV _ _ (by rw [h.lab.l11]; omega) h.re, fun i hi => ?_, h.wo, h.n1, h.n4⟩
  · obtain ⟨m1, m2⟩ := h.lab.lt i t hi hf
    obtain ⟨e1, e2⟩ := h.ts.2.1 i t hi hf
    exact ⟨hV _ _ (by omega) e1, hV _ _ (by omega) e2⟩
  · obtain ⟨l1, l2, l3, l4⟩ := h.lab.la j t hj hf
    obtain ⟨e1, e2, e3, e4⟩ := h.ac.2.1 j t hj hf
    exact ⟨hV _ _ (by omega) e1, hV _ _ (by omega) e2, hV _ _ (by omega) e3, hV _ _ (by omega) e4⟩
  · obtain ⟨l1, l2⟩ := h.lab.lv j v hj hf
    obtain ⟨e1, e2⟩ := h.vs j v hj hf
    exact ⟨hV _ _ (by omega) e1, hV _ _ (by omega) e2⟩
  · have := h.n4
    obtain ⟨l1, l2, l3, l4⟩ := h.lab.ls i hi
    obtain ⟨e1, e2, ⟨F, e3⟩, e4, e5, ⟨F', e6⟩⟩ := h.os i hi
    exact ⟨e1, hV _ _ (by omega) e2, ⟨F, hV _ _ (by omega) e3⟩, e4, hV _ _ (by omega) e5, ⟨F', hV _ _ (by omega) e6⟩⟩
theorem hs_new {k : Nat → Nat} {V : HV} {a : HA} {σ : HS} (h : hsOk k V a σ) {q n : Nat} {e : va_E} (hq : V q = none) : hsOk k (hu V q e) (a.lab q n) σ := by
  have hn : ∀ {x : Nat} {y : va_E}, V x = some y → x ≠ q := fun {x y} hx z => by rw [z, hq] at hx; cases hx
  have hV : ∀ {x : Nat} {y : va_E}, V x = some y → hu V q e x = some y := fun {x y} hx => hu_f hq hx
  have hl : ∀ {x : Nat} {y : va_E}, V x = some y → (a.lab q n).lb x = a.lb x := fun {x y} hx => HA.lab_n (hn hx)
  refine ⟨⟨(hl h.ho).trans h.lab.l1, (hl h.bo).trans h.lab.l2, (hl h.gi).trans h.lab.l3, (hl h.co).trans h.lab.l4, (hl h.ts.1).trans h.lab.l5, (hl h.ac.1).trans h.lab.l6, (hl h.ve).trans h.lab.l7, (hl h.ro).trans h.lab.l8, h.rq.elim (fun F e => (hl e).trans h.lab.l9), (hl h.on).trans h.lab.l10, (hl h.re).trans h.lab.l11, fun i t hi hf => ⟨(hl (h.ts.2.1 i t hi hf).1).trans (h.lab.lt i t hi hf).1, (hl (h.ts.2.1 i t hi hf).2).trans (h.lab.lt i t hi hf).2⟩, fun j t hj hf => ?_, fun j v hj hf => ⟨(hl (h.vs j v hj hf).1).trans (h.lab.lv j v hj hf).1, (hl (h.vs j v hj hf).2).trans (h.lab.lv j v hj hf).2⟩, fun i hi => ?_⟩, hV h.ho, hV h.bo, hV h.gi, hV h.co, ⟨hV h.ts.1, fun i t hi hf => ⟨hV (h.ts.2.1 i t hi hf).1, hV (h.ts.2.1 i t hi hf).2⟩, h.ts.2.2⟩, ⟨hV h.ac.1, fun j t hj hf => ?_, h.ac.2.2⟩, hV h.ve, fun j v hj hf => ⟨hV (h.vs j v hj hf).1, hV (h.vs j v hj hf).2⟩, hV h.ro, h.rq.elim (fun F e => ⟨F, hV e⟩), hV h.on, hV h.re, fun i hi => ?_, h.wo, h.n1, h.n4⟩
  · obtain ⟨l1, l2, l3, l4⟩ := h.lab.la j t hj hf
    obtain ⟨e1, e2, e3, e4⟩ := h.ac.2.1 j t hj hf
    exact ⟨(hl e1).trans l1, (hl e2).trans l2, (hl e3).trans l3, (hl e4).trans l4⟩
  · obtain ⟨l1, l2, l3, l4⟩ := h.lab.ls i hi
    obtain ⟨e1, e2, ⟨F, e3⟩, e4, e5, ⟨F', e6⟩⟩ := h.os i hi
    exact ⟨(hl e2).trans l1, (hl e3).trans l2, (hl e5).trans l3, (hl e6).trans l4⟩
  · obtain ⟨e1, e2, e3, e4⟩ := h.ac.2.1 j t hj hf
    exact ⟨hV e1, hV e2, hV e3, hV e4⟩
  · obtain ⟨e1, e2, ⟨F, e3⟩, e4, e5, ⟨F', e6⟩⟩ := h.os i hi
    exact ⟨e1, hV e2, ⟨F, hV e3⟩, e4, hV e5, ⟨F', hV e6⟩⟩
