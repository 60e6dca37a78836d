/-! THE HOUSE in a view: a: where its cells lie, and a label for each address; σ: its numbers. Cells of others have labels from 10000 on. -/
def HA : Type := (Nat → Nat) × (Nat → Option Nat) × (Nat → Option Nat) × (Nat → Nat) × (Nat → Option Nat) × (Nat → Nat) × (Nat → Nat) × (Nat → Nat) × (Nat → Option Nat) × (Nat → Nat) × (Nat → Nat)
def HA.F (a : HA) : Nat → Nat := a.1
def HA.E (a : HA) : Nat → Option Nat := a.2.1
def HA.f (a : HA) : Nat → Option Nat := a.2.2.1
def HA.ar (a : HA) : Nat → Nat := a.2.2.2.1
def HA.fa (a : HA) : Nat → Option Nat := a.2.2.2.2.1
def HA.rg (a : HA) : Nat → Nat := a.2.2.2.2.2.1
def HA.sn (a : HA) : Nat → Nat := a.2.2.2.2.2.2.1
def HA.sa (a : HA) : Nat → Nat := a.2.2.2.2.2.2.2.1
def HA.fv (a : HA) : Nat → Option Nat := a.2.2.2.2.2.2.2.2.1
def HA.vr (a : HA) : Nat → Nat := a.2.2.2.2.2.2.2.2.2.1
def HA.lb (a : HA) : Nat → Nat := a.2.2.2.2.2.2.2.2.2.2
def HA.ho (a : HA) : Nat := a.F 1
def HA.bo (a : HA) : Nat := a.F 2
def HA.gi (a : HA) : Nat := a.F 3
def HA.co (a : HA) : Nat := a.F 4
def HA.ta (a : HA) : Nat := a.F 5
def HA.ac (a : HA) : Nat := a.F 6
def HA.ve (a : HA) : Nat := a.F 7
def HA.ro (a : HA) : Nat := a.F 8
def HA.rq (a : HA) : Nat := a.F 9
def HA.on (a : HA) : Nat := a.F 10
def HA.re (a : HA) : Nat := a.F 11
def HA.os (a : HA) (i : Nat) : Nat := a.F (20 + i)
def HA.oR (a : HA) (i : Nat) : Nat := a.F (30 + i)
def HA.ss (a : HA) (i : Nat) : Nat := a.F (40 + i)
def HA.sR (a : HA) (i : Nat) : Nat := a.F (50 + i)
def HA.fo (a : HA) (i : Nat) : Option Nat := a.E (2 * i)
def HA.fs (a : HA) (i : Nat) : Option Nat := a.E (2 * i + 1)
def HA.addT (a : HA) (i t a0 : Nat) : HA := (a.F, a.E, va_up a.f i (some t), fun j => if j = i then a0 else a.ar j, a.fa, a.rg, a.sn, a.sa, a.fv, a.vr, fun x => if x = t then 1000 + i else if x = a0 then 2000 + i else a.lb x)
def HA.addA (a : HA) (j t r n z : Nat) : HA := (a.F, a.E, a.f, a.ar, va_up a.fa j (some t), fun q => if q = j then r else a.rg q, fun q => if q = j then n else a.sn q, fun q => if q = j then z else a.sa q, a.fv, a.vr, fun x => if x = t then 100 + j else if x = r then 120 + j else if x = n then 140 + j else if x = z then 160 + j else a.lb x)
def HA.addV (a : HA) (j n z : Nat) : HA := (a.F, a.E, a.f, a.ar, a.fa, a.rg, a.sn, a.sa, va_up a.fv j (some n), fun q => if q = j then z else a.vr q, fun x => if x = n then 180 + j else if x = z then 190 + j else a.lb x)
/-- nl layers; rs: the reason told; g: the gap; wo: the act that works; G: how many were given; T: the things' numbers; A: the acts' numbers; Z: what their snapshots know; W: what the versions know -/
def HS : Type := Nat × Int32 × Int32 × (Option Nat) × (Nat → Int32) × (Nat → Nat → Int32) × (Nat → Nat → Int32) × (Nat → Nat → Int32) × (Nat → Nat → Int32)
def HS.nl (σ : HS) : Nat := σ.1
def HS.rs (σ : HS) : Int32 := σ.2.1
def HS.g (σ : HS) : Int32 := σ.2.2.1
def HS.wo (σ : HS) : Option Nat := σ.2.2.2.1
def HS.G (σ : HS) : Nat → Int32 := σ.2.2.2.2.1
def HS.T (σ : HS) : Nat → Nat → Int32 := σ.2.2.2.2.2.1
def HS.A (σ : HS) : Nat → Nat → Int32 := σ.2.2.2.2.2.2.1
def HS.Z (σ : HS) : Nat → Nat → Int32 := σ.2.2.2.2.2.2.2.1
def HS.W (σ : HS) : Nat → Nat → Int32 := σ.2.2.2.2.2.2.2.2
def HS.wrs (σ : HS) (z : Int32) : HS := (σ.nl, z, σ.g, σ.wo, σ.G, σ.T, σ.A, σ.Z, σ.W)
def HS.wg (σ : HS) (z : Int32) : HS := (σ.nl, σ.rs, z, σ.wo, σ.G, σ.T, σ.A, σ.Z, σ.W)
def HS.wwo (σ : HS) (z : Option Nat) : HS := (σ.nl, σ.rs, σ.g, z, σ.G, σ.T, σ.A, σ.Z, σ.W)
def HS.wG (σ : HS) (z : Nat → Int32) : HS := (σ.nl, σ.rs, σ.g, σ.wo, z, σ.T, σ.A, σ.Z, σ.W)
def HS.wT (σ : HS) (z : Nat → Nat → Int32) : HS := (σ.nl, σ.rs, σ.g, σ.wo, σ.G, z, σ.A, σ.Z, σ.W)
def HS.wA (σ : HS) (z : Nat → Nat → Int32) : HS := (σ.nl, σ.rs, σ.g, σ.wo, σ.G, σ.T, z, σ.Z, σ.W)
def HS.wZ (σ : HS) (z : Nat → Nat → Int32) : HS := (σ.nl, σ.rs, σ.g, σ.wo, σ.G, σ.T, σ.A, z, σ.W)
def HS.wW (σ : HS) (z : Nat → Nat → Int32) : HS := (σ.nl, σ.rs, σ.g, σ.wo, σ.G, σ.T, σ.A, σ.Z, z)
abbrev eSs (k : Nat → Nat) (n : Nat) (f : Nat → Option Nat) : va_E := .inl (k 6, n, .inr (.inr (.inr (.inr f))))
abbrev eVs (k : Nat → Nat) (f : Nat → Option Nat) : va_E := .inl (k 5, 8, .inr (.inr (.inr (.inr f))))
abbrev woA (a : HA) (wo : Option Nat) : Option Nat := wo.bind a.fa
def hsLb (a : HA) (nl : Nat) : Prop :=
  (a.lb a.ho = 1) ∧
  (a.lb a.bo = 2) ∧
  (a.lb a.gi = 3) ∧
  (a.lb a.co = 4) ∧
  (a.lb a.ta = 5) ∧
  (a.lb a.ac = 6) ∧
  (a.lb a.ve = 7) ∧
  (a.lb a.ro = 8) ∧
  (a.lb a.rq = 9) ∧
  (a.lb a.on = 10) ∧
  (a.lb a.re = 11) ∧
  (∀ i t, i < 150 → a.f i = some t → a.lb t = 1000 + i ∧ a.lb (a.ar i) = 2000 + i) ∧
  (∀ j t, j < 10 → a.fa j = some t → a.lb t = 100 + j ∧ a.lb (a.rg j) = 120 + j ∧ a.lb (a.sn j) = 140 + j ∧ a.lb (a.sa j) = 160 + j) ∧
  (∀ j v, j < 8 → a.fv j = some v → a.lb v = 180 + j ∧ a.lb (a.vr j) = 190 + j) ∧
  (∀ i, i < nl → a.lb (a.os i) = 20 + i ∧ a.lb (a.oR i) = 30 + i ∧ a.lb (a.ss i) = 40 + i ∧ a.lb (a.sR i) = 50 + i)
theorem hsLb.l1 {a : HA} {nl : Nat} (h : hsLb a nl) : a.lb a.ho = 1 := h.1
theorem hsLb.l2 {a : HA} {nl : Nat} (h : hsLb a nl) : a.lb a.bo = 2 := h.2.1
theorem hsLb.l3 {a : HA} {nl : Nat} (h : hsLb a nl) : a.lb a.gi = 3 := h.2.2.1
theorem hsLb.l4 {a : HA} {nl : Nat} (h : hsLb a nl) : a.lb a.co = 4 := h.2.2.2.1
theorem hsLb.l5 {a : HA} {nl : Nat} (h : hsLb a nl) : a.lb a.ta = 5 := h.2.2.2.2.1
theorem hsLb.l6 {a : HA} {nl : Nat} (h : hsLb a nl) : a.lb a.ac = 6 := h.2.2.2.2.2.1
theorem hsLb.l7 {a : HA} {nl : Nat} (h : hsLb a nl) : a.lb a.ve = 7 := h.2.2.2.2.2.2.1
theorem hsLb.l8 {a : HA} {nl : Nat} (h : hsLb a nl) : a.lb a.ro = 8 := h.2.2.2.2.2.2.2.1
theorem hsLb.l9 {a : HA} {nl : Nat} (h : hsLb a nl) : a.lb a.rq = 9 := h.2.2.2.2.2.2.2.2.1
theorem hsLb.l10 {a : HA} {nl : Nat} (h : hsLb a nl) : a.lb a.on = 10 := h.2.2.2.2.2.2.2.2.2.1
theorem hsLb.l11 {a : HA} {nl : Nat} (h : hsLb a nl) : a.lb a.re = 11 := h.2.2.2.2.2.2.2.2.2.2.1
theorem hsLb.lt {a : HA} {nl : Nat} (h : hsLb a nl) : ∀ i t, i < 150 → a.f i = some t → a.lb t = 1000 + i ∧ a.lb (a.ar i) = 2000 + i := h.2.2.2.2.2.2.2.2.2.2.2.1
theorem hsLb.la {a : HA} {nl : Nat} (h : hsLb a nl) : ∀ j t, j < 10 → a.fa j = some t → a.lb t = 100 + j ∧ a.lb (a.rg j) = 120 + j ∧ a.lb (a.sn j) = 140 + j ∧ a.lb (a.sa j) = 160 + j := h.2.2.2.2.2.2.2.2.2.2.2.2.1
theorem hsLb.lv {a : HA} {nl : Nat} (h : hsLb a nl) : ∀ j v, j < 8 → a.fv j = some v → a.lb v = 180 + j ∧ a.lb (a.vr j) = 190 + j := h.2.2.2.2.2.2.2.2.2.2.2.2.2.1
theorem hsLb.ls {a : HA} {nl : Nat} (h : hsLb a nl) : ∀ i, i < nl → a.lb (a.os i) = 20 + i ∧ a.lb (a.oR i) = 30 + i ∧ a.lb (a.ss i) = 40 + i ∧ a.lb (a.sR i) = 50 + i := h.2.2.2.2.2.2.2.2.2.2.2.2.2.2
def hsOk (k : Nat → Nat) (V : HV) (a : HA) (σ : HS) : Prop :=
  (hsLb a σ.nl) ∧
  (V a.ho = some (eHo (nI σ.nl) a.bo a.gi a.co a.ta a.ac a.ve (woA a σ.wo) σ.rs)) ∧
  (V a.bo = some (eAr 0 0 31 23)) ∧
  (V a.gi = some (eI k 8 σ.G)) ∧
  (V a.co = some (eCo a.ta (nI σ.nl) a.ro a.on a.re σ.g)) ∧
  (tsOk k V a.ta a.f a.ar σ.T) ∧
  (acOk k V a.ac a.fa a.rg a.sn a.sa σ.A σ.Z) ∧
  (V a.ve = some (eVs k a.fv)) ∧
  (∀ j v, j < 8 → a.fv j = some v → V v = some (eSn (a.vr j)) ∧ V (a.vr j) = some (eI k 150 (σ.W j))) ∧
  (V a.ro = some (eSh a.rq)) ∧
  (∃ F, V a.rq = some (eI k 24 F)) ∧
  (V a.on = some (eSs k σ.nl a.fo)) ∧
  (V a.re = some (eSs k σ.nl a.fs)) ∧
  (∀ i, i < σ.nl → a.fo i = some (a.os i) ∧ V (a.os i) = some (eSh (a.oR i)) ∧ (∃ F, V (a.oR i) = some (eI k 24 F)) ∧ a.fs i = some (a.ss i) ∧ V (a.ss i) = some (eSh (a.sR i)) ∧ ∃ F, V (a.sR i) = some (eI k 24 F)) ∧
  (∀ j, σ.wo = some j → j < 10 ∧ ∃ t, a.fa j = some t) ∧
  (1 ≤ σ.nl) ∧
  (σ.nl ≤ 4)
theorem hsOk.lab {k : Nat → Nat} {V : HV} {a : HA} {σ : HS} (h : hsOk k V a σ) : hsLb a σ.nl := h.1
theorem hsOk.ho {k : Nat → Nat} {V : HV} {a : HA} {σ : HS} (h : hsOk k V a σ) : V a.ho = some (eHo (nI σ.nl) a.bo a.gi a.co a.ta a.ac a.ve (woA a σ.wo) σ.rs) := h.2.1
theorem hsOk.bo {k : Nat → Nat} {V : HV} {a : HA} {σ : HS} (h : hsOk k V a σ) : V a.bo = some (eAr 0 0 31 23) := h.2.2.1
theorem hsOk.gi {k : Nat → Nat} {V : HV} {a : HA} {σ : HS} (h : hsOk k V a σ) : V a.gi = some (eI k 8 σ.G) := h.2.2.2.1
theorem hsOk.co {k : Nat → Nat} {V : HV} {a : HA} {σ : HS} (h : hsOk k V a σ) : V a.co = some (eCo a.ta (nI σ.nl) a.ro a.on a.re σ.g) := h.2.2.2.2.1
theorem hsOk.ts {k : Nat → Nat} {V : HV} {a : HA} {σ : HS} (h : hsOk k V a σ) : tsOk k V a.ta a.f a.ar σ.T := h.2.2.2.2.2.1
theorem hsOk.ac {k : Nat → Nat} {V : HV} {a : HA} {σ : HS} (h : hsOk k V a σ) : acOk k V a.ac a.fa a.rg a.sn a.sa σ.A σ.Z := h.2.2.2.2.2.2.1
theorem hsOk.ve {k : Nat → Nat} {V : HV} {a : HA} {σ : HS} (h : hsOk k V a σ) : V a.ve = some (eVs k a.fv) := h.2.2.2.2.2.2.2.1
theorem hsOk.vs {k : Nat → Nat} {V : HV} {a : HA} {σ : HS} (h : hsOk k V a σ) : ∀ j v, j < 8 → a.fv j = some v → V v = some (eSn (a.vr j)) ∧ V (a.vr j) = some (eI k 150 (σ.W j)) := h.2.2.2.2.2.2.2.2.1
theorem hsOk.ro {k : Nat → Nat} {V : HV} {a : HA} {σ : HS} (h : hsOk k V a σ) : V a.ro = some (eSh a.rq) := h.2.2.2.2.2.2.2.2.2.1
theorem hsOk.rq {k : Nat → Nat} {V : HV} {a : HA} {σ : HS} (h : hsOk k V a σ) : ∃ F, V a.rq = some (eI k 24 F) := h.2.2.2.2.2.2.2.2.2.2.1
theorem hsOk.on {k : Nat → Nat} {V : HV} {a : HA} {σ : HS} (h : hsOk k V a σ) : V a.on = some (eSs k σ.nl a.fo) := h.2.2.2.2.2.2.2.2.2.2.2.1
theorem hsOk.re {k : Nat → Nat} {V : HV} {a : HA} {σ : HS} (h : hsOk k V a σ) : V a.re = some (eSs k σ.nl a.fs) := h.2.2.2.2.2.2.2.2.2.2.2.2.1
theorem hsOk.os {k : Nat → Nat} {V : HV} {a : HA} {σ : HS} (h : hsOk k V a σ) : ∀ i, i < σ.nl → a.fo i = some (a.os i) ∧ V (a.os i) = some (eSh (a.oR i)) ∧ (∃ F, V (a.oR i) = some (eI k 24 F)) ∧ a.fs i = some (a.ss i) ∧ V (a.ss i) = some (eSh (a.sR i)) ∧ ∃ F, V (a.sR i) = some (eI k 24 F) := h.2.2.2.2.2.2.2.2.2.2.2.2.2.1
theorem hsOk.wo {k : Nat → Nat} {V : HV} {a : HA} {σ : HS} (h : hsOk k V a σ) : ∀ j, σ.wo = some j → j < 10 ∧ ∃ t, a.fa j = some t := h.2.2.2.2.2.2.2.2.2.2.2.2.2.2.1
theorem hsOk.n1 {k : Nat → Nat} {V : HV} {a : HA} {σ : HS} (h : hsOk k V a σ) : 1 ≤ σ.nl := h.2.2.2.2.2.2.2.2.2.2.2.2.2.2.2.1
theorem hsOk.n4 {k : Nat → Nat} {V : HV} {a : HA} {σ : HS} (h : hsOk k V a σ) : σ.nl ≤ 4 := h.2.2.2.2.2.2.2.2.2.2.2.2.2.2.2.2
/-- what belongs to others is as it was -/
def hsFr (a a' : HA) (V V' : HV) : Prop := a'.ho = a.ho ∧ ∀ q e, V q = some e → 9999 < a.lb q → V' q = some e ∧ a'.lb q = a.lb q
theorem hsFr.rf {a : HA} {V : HV} : hsFr a a V V := ⟨rfl, fun _ _ h _ => ⟨h, rfl⟩⟩
theorem hsFr.tr {a b c : HA} {V V1 V2 : HV} (h1 : hsFr a b V V1) (h2 : hsFr b c V1 V2) : hsFr a c V V2 :=
  ⟨h2.1.trans h1.1, fun q e h l => by
    obtain ⟨x1, y1⟩ := h1.2 q e h l
    obtain ⟨x2, y2⟩ := h2.2 q e x1 (by rw [y1]; exact l)
    exact ⟨x2, y2.trans y1⟩⟩
theorem hsFr_hu {a : HA} {V : HV} {q : Nat} {e : va_E} (h : a.lb q < 10000) : hsFr a a V (hu V q e) := ⟨rfl, fun x e hx l => ⟨by rw [hu_n (fun z => by rw [z] at l; omega)]; exact hx, rfl⟩⟩
/-- a label is given to an address -/
def HA.lab (a : HA) (q n : Nat) : HA := (a.F, a.E, a.f, a.ar, a.fa, a.rg, a.sn, a.sa, a.fv, a.vr, fun x => if x = q then n else a.lb x)
theorem HA.lab_s {a : HA} {q n : Nat} : (a.lab q n).lb q = n := if_pos rfl
theorem HA.lab_n {a : HA} {q n x : Nat} (h : x ≠ q) : (a.lab q n).lb x = a.lb x := if_neg h
theorem hsFr_new {a : HA} {V : HV} {q n : Nat} {e : va_E} (h : V q = none) : hsFr a (a.lab q n) V (hu V q e) := ⟨rfl, fun x y hx l => by
  have hq : x ≠ q := fun z => by rw [z, h] at hx; cases hx
  exact ⟨by rw [hu_n hq]; exact hx, HA.lab_n hq⟩⟩
theorem tsIn_of {a : HA} {nl : Nat} (h : hsLb a nl) : tsIn a.f a.ar := by
  refine ⟨fun i j t hi hj h1 h2 => ?_, fun i j t t' hi hj h1 h2 e => ?_⟩
  · have := (h.lt i t hi h1).1; have := (h.lt j t hj h2).1; omega
  · have := (h.lt i t hi h1).2; have := (h.lt j t' hj h2).2; rw [e] at *; omega
theorem hs_ts {k : Nat → Nat} {V V' : HV} {a : HA} {σ : HS} (h : hsOk k V a σ) {n : Nat} (hV : ∀ q, a.lb q ≠ n → V' q = V q) (h1 : n ≠ 5) (h2 : n < 1000 ∨ 2150 ≤ n) : tsOk k V' a.ta a.f a.ar σ.T :=
  ⟨(hV _ (by rw [h.lab.l5]; omega)).trans h.ts.1, fun i t hi hf => ⟨(hV _ (by rw [(h.lab.lt i t hi hf).1]; omega)).trans (h.ts.2.1 i t hi hf).1, (hV _ (by rw [(h.lab.lt i t hi hf).2]; omega)).trans (h.ts.2.1 i t hi hf).2⟩, h.ts.2.2⟩
theorem hs_ac {k : Nat → Nat} {V V' : HV} {a : HA} {σ : HS} (h : hsOk k V a σ) {n : Nat} (hV : ∀ q, a.lb q ≠ n → V' q = V q) (h1 : n ≠ 6) (h2 : n < 100 ∨ 170 ≤ n) : acOk k V' a.ac a.fa a.rg a.sn a.sa σ.A σ.Z :=
  ⟨(hV _ (by rw [h.lab.l6]; omega)).trans h.ac.1, fun j t hj hf => by
    obtain ⟨l1, l2, l3, l4⟩ := h.lab.la j t hj hf
    obtain ⟨e1, e2, e3, e4⟩ := h.ac.2.1 j t hj hf
    exact ⟨(hV _ (by omega)).trans e1, (hV _ (by omega)).trans e2, (hV _ (by omega)).trans e3, (hV _ (by omega)).trans e4⟩, h.ac.2.2⟩
theorem hs_vs {k : Nat → Nat} {V V' : HV} {a : HA} {σ : HS} (h : hsOk k V a σ) {n : Nat} (hV : ∀ q, a.lb q ≠ n → V' q = V q) (h2 : n < 180 ∨ 200 ≤ n) : ∀ j v, j < 8 → a.fv j = some v → V' v = some (eSn (a.vr j)) ∧ V' (a.vr j) = some (eI k 150 (σ.W j)) := fun j v hj hf => by
  obtain ⟨l1, l2⟩ := h.lab.lv j v hj hf
  obtain ⟨e1, e2⟩ := h.vs j v hj hf
  exact ⟨(hV _ (by omega)).trans e1, (hV _ (by omega)).trans e2⟩
theorem hs_os {k : Nat → Nat} {V V' : HV} {a : HA} {σ : HS} (h : hsOk k V a σ) {n : Nat} (hV : ∀ q, a.lb q ≠ n → V' q = V q) (h2 : n < 20 ∨ 60 ≤ n) : ∀ i, i < σ.nl → a.fo i = some (a.os i) ∧ V' (a.os i) = some (eSh (a.oR i)) ∧ (∃ F, V' (a.oR i) = some (eI k 24 F)) ∧ a.fs i = some (a.ss i) ∧ V' (a.ss i) = some (eSh (a.sR i)) ∧ ∃ F, V' (a.sR i) = some (eI k 24 F) := fun i hi => by
  have := h.n4
  obtain ⟨l1, l2, l3, l4⟩ := h.lab.ls i hi
  obtain ⟨e1, e2, ⟨F, e3⟩, e4, e5, ⟨F', e6⟩⟩ := h.os i hi
  exact ⟨e1, (hV _ (by omega)).trans e2, ⟨F, (hV _ (by omega)).trans e3⟩, e4, (hV _ (by omega)).trans e5, ⟨F', (hV _ (by omega)).trans e6⟩⟩
theorem hs_hv {a : HA} {V : HV} {q n : Nat} {e : va_E} (h : a.lb q = n) : ∀ x, a.lb x ≠ n → hu V q e x = V x := fun x hx => hu_n (fun z => hx (by rw [z]; exact h))
theorem hs_rs {k : Nat → Nat} {V : HV} {a : HA} {σ : HS} (h : hsOk k V a σ) (r : Int32) : hsOk k (hu V a.ho (eHo (nI σ.nl) a.bo a.gi a.co a.ta a.ac a.ve (woA a σ.wo) r)) a (σ.wrs (r)) := by
  have hV := hs_hv (V := V) (e := (eHo (nI σ.nl) a.bo a.gi a.co a.ta a.ac a.ve (woA a σ.wo) r)) h.lab.l1
  exact ⟨h.lab, hu_s, (hV a.bo (by rw [h.lab.l2]; omega)).trans h.bo, (hV a.gi (by rw [h.lab.l3]; omega)).trans h.gi, (hV a.co (by rw [h.lab.l4]; omega)).trans h.co, hs_ts (a := a) (σ := σ) h hV (by omega) (by omega), hs_ac (a := a) (σ := σ) h hV (by omega) (by omega), (hV a.ve (by rw [h.lab.l7]; omega)).trans h.ve, hs_vs (a := a) (σ := σ) h hV (by omega), (hV a.ro (by rw [h.lab.l8]; omega)).trans h.ro, h.rq.elim (fun F e => ⟨F, (hV a.rq (by rw [h.lab.l9]; omega)).trans e⟩), (hV a.on (by rw [h.lab.l10]; omega)).trans h.on, (hV a.re (by rw [h.lab.l11]; omega)).trans h.re, hs_os (a := a) (σ := σ) h hV (by omega), h.wo, h.n1, h.n4⟩
theorem hs_wo {k : Nat → Nat} {V : HV} {a : HA} {σ : HS} (h : hsOk k V a σ) (w : Option Nat) (hw : ∀ j, w = some j → j < 10 ∧ ∃ t, a.fa j = some t) : hsOk k (hu V a.ho (eHo (nI σ.nl) a.bo a.gi a.co a.ta a.ac a.ve (woA a w) σ.rs)) a (σ.wwo (w)) := by
  have hV := hs_hv (V := V) (e := (eHo (nI σ.nl) a.bo a.gi a.co a.ta a.ac a.ve (woA a w) σ.rs)) h.lab.l1
  exact ⟨h.lab, hu_s, (hV a.bo (by rw [h.lab.l2]; omega)).trans h.bo, (hV a.gi (by rw [h.lab.l3]; omega)).trans h.gi, (hV a.co (by rw [h.lab.l4]; omega)).trans h.co, hs_ts (a := a) (σ := σ) h hV (by omega) (by omega), hs_ac (a := a) (σ := σ) h hV (by omega) (by omega), (hV a.ve (by rw [h.lab.l7]; omega)).trans h.ve, hs_vs (a := a) (σ := σ) h hV (by omega), (hV a.ro (by rw [h.lab.l8]; omega)).trans h.ro, h.rq.elim (fun F e => ⟨F, (hV a.rq (by rw [h.lab.l9]; omega)).trans e⟩), (hV a.on (by rw [h.lab.l10]; omega)).trans h.on, (hV a.re (by rw [h.lab.l11]; omega)).trans h.re, hs_os (a := a) (σ := σ) h hV (by omega), hw, h.n1, h.n4⟩
theorem hs_gi {k : Nat → Nat} {V : HV} {a : HA} {σ : HS} (h : hsOk k V a σ) (G : Nat → Int32) : hsOk k (hu V a.gi (eI k 8 G)) a (σ.wG (G)) := by
  have hV := hs_hv (V := V) (e := (eI k 8 G)) h.lab.l3
  exact ⟨h.lab, (hV a.ho (by rw [h.lab.l1]; omega)).trans h.ho, (hV a.bo (by rw [h.lab.l2]; omega)).trans h.bo, hu_s, (hV a.co (by rw [h.lab.l4]; omega)).trans h.co, hs_ts (a := a) (σ := σ) h hV (by omega) (by omega), hs_ac (a := a) (σ := σ) h hV (by omega) (by omega), (hV a.ve (by rw [h.lab.l7]; omega)).trans h.ve, hs_vs (a := a) (σ := σ) h hV (by omega), (hV a.ro (by rw [h.lab.l8]; omega)).trans h.ro, h.rq.elim (fun F e => ⟨F, (hV a.rq (by rw [h.lab.l9]; omega)).trans e⟩), (hV a.on (by rw [h.lab.l10]; omega)).trans h.on, (hV a.re (by rw [h.lab.l11]; omega)).trans h.re, hs_os (a := a) (σ := σ) h hV (by omega), h.wo, h.n1, h.n4⟩
theorem hs_g {k : Nat → Nat} {V : HV} {a : HA} {σ : HS} (h : hsOk k V a σ) (g : Int32) : hsOk k (hu V a.co (eCo a.ta (nI σ.nl) a.ro a.on a.re g)) a (σ.wg (g)) := by
  have hV := hs_hv (V := V) (e := (eCo a.ta (nI σ.nl) a.ro a.on a.re g)) h.lab.l4
  exact ⟨h.lab, (hV a.ho (by rw [h.lab.l1]; omega)).trans h.ho, (hV a.bo (by rw [h.lab.l2]; omega)).trans h.bo, (hV a.gi (by rw [h.lab.l3]; omega)).trans h.gi, hu_s, hs_ts (a := a) (σ := σ) h hV (by omega) (by omega), hs_ac (a := a) (σ := σ) h hV (by omega) (by omega), (hV a.ve (by rw [h.lab.l7]; omega)).trans h.ve, hs_vs (a := a) (σ := σ) h hV (by omega), (hV a.ro (by rw [h.lab.l8]; omega)).trans h.ro, h.rq.elim (fun F e => ⟨F, (hV a.rq (by rw [h.lab.l9]; omega)).trans e⟩), (hV a.on (by rw [h.lab.l10]; omega)).trans h.on, (hV a.re (by rw [h.lab.l11]; omega)).trans h.re, hs_os (a := a) (σ := σ) h hV (by omega), h.wo, h.n1, h.n4⟩
theorem hs_th {k : Nat → Nat} {V : HV} {a : HA} {σ : HS} (h : hsOk k V a σ) {i t : Nat} (hi : i < 150) (hf : a.f i = some t) (R : Nat → Int32) (hR : ∀ q, 6 ≤ q → R q = σ.T i q) : hsOk k (hu V t (eThR R (a.ar i))) a (σ.wT (updT σ.T i R)) := by
  have hV := hs_hv (V := V) (e := (eThR R (a.ar i))) (h.lab.lt i t hi hf).1
  have hts : tsOk k (hu V t (eThR R (a.ar i))) a.ta a.f a.ar (updT σ.T i R) := ⟨(hV _ (by rw [h.lab.l5]; omega)).trans h.ts.1, fun j t' hj hf' => by
      obtain ⟨e1, e2⟩ := h.ts.2.1 j t' hj hf'
      by_cases hji : j = i
      · subst hji
        have ht : t' = t := Option.some.inj (hf'.symm.trans hf)
        subst ht
        obtain ⟨m1, m2⟩ := h.lab.lt j t' hj hf'
        refine ⟨by rw [eThT, uT_s]; exact hu_s, (hV _ (by omega)).trans ?_⟩
        rw [eArT, uT_s, hR 6 (by omega), hR 7 (by omega), hR 8 (by omega), hR 9 (by omega)]; exact e2
      · obtain ⟨m1, m2⟩ := h.lab.lt j t' hj hf'
        rw [eThT, eArT, uT_n hji]
        exact ⟨(hV _ (by omega)).trans e1, (hV _ (by omega)).trans e2⟩, fun j hj hf' => by
      have hji : j ≠ i := fun z => by rw [z, hf] at hf'; cases hf'
      rw [uT_n hji]
      exact h.ts.2.2 j hj hf'⟩
  exact ⟨h.lab, (hV a.ho (by rw [h.lab.l1]; omega)).trans h.ho, (hV a.bo (by rw [h.lab.l2]; omega)).trans h.bo, (hV a.gi (by rw [h.lab.l3]; omega)).trans h.gi, (hV a.co (by rw [h.lab.l4]; omega)).trans h.co, hts, hs_ac (a := a) (σ := σ) h hV (by omega) (by omega), (hV a.ve (by rw [h.lab.l7]; omega)).trans h.ve, hs_vs (a := a) (σ := σ) h hV (by omega), (hV a.ro (by rw [h.lab.l8]; omega)).trans h.ro, h.rq.elim (fun F e => ⟨F, (hV a.rq (by rw [h.lab.l9]; omega)).trans e⟩), (hV a.on (by rw [h.lab.l10]; omega)).trans h.on, (hV a.re (by rw [h.lab.l11]; omega)).trans h.re, hs_os (a := a) (σ := σ) h hV (by omega), h.wo, h.n1, h.n4⟩
theorem hs_ar {k : Nat → Nat} {V : HV} {a : HA} {σ : HS} (h : hsOk k V a σ) {i t : Nat} (hi : i < 150) (hf : a.f i = some t) (R : Nat → Int32) (hR : ∀ q, q < 6 → R q = σ.T i q) : hsOk k (hu V (a.ar i) (eArR R)) a (σ.wT (updT σ.T i R)) := by
  have hV := hs_hv (V := V) (e := (eArR R)) (h.lab.lt i t hi hf).2
  have hts : tsOk k (hu V (a.ar i) (eArR R)) a.ta a.f a.ar (updT σ.T i R) := ⟨(hV _ (by rw [h.lab.l5]; omega)).trans h.ts.1, fun j t' hj hf' => by
      obtain ⟨e1, e2⟩ := h.ts.2.1 j t' hj hf'
      by_cases hji : j = i
      · subst hji
        have ht : t' = t := Option.some.inj (hf'.symm.trans hf)
        subst ht
        obtain ⟨m1, m2⟩ := h.lab.lt j t' hj hf'
        refine ⟨(hV _ (by omega)).trans ?_, by rw [eArT, uT_s]; exact hu_s⟩
        rw [eThT, uT_s, hR 0 (by omega), hR 1 (by omega), hR 2 (by omega), hR 3 (by omega), hR 4 (by omega), hR 5 (by omega)]; exact e1
      · obtain ⟨m1, m2⟩ := h.lab.lt j t' hj hf'
        rw [eThT, eArT, uT_n hji]
        exact ⟨(hV _ (by omega)).trans e1, (hV _ (by omega)).trans e2⟩, fun j hj hf' => by
      have hji : j ≠ i := fun z => by rw [z, hf] at hf'; cases hf'
      rw [uT_n hji]
      exact h.ts.2.2 j hj hf'⟩
  exact ⟨h.lab, (hV a.ho (by rw [h.lab.l1]; omega)).trans h.ho, (hV a.bo (by rw [h.lab.l2]; omega)).trans h.bo, (hV a.gi (by rw [h.lab.l3]; omega)).trans h.gi, (hV a.co (by rw [h.lab.l4]; omega)).trans h.co, hts, hs_ac (a := a) (σ := σ) h hV (by omega) (by omega), (hV a.ve (by rw [h.lab.l7]; omega)).trans h.ve, hs_vs (a := a) (σ := σ) h hV (by omega), (hV a.ro (by rw [h.lab.l8]; omega)).trans h.ro, h.rq.elim (fun F e => ⟨F, (hV a.rq (by rw [h.lab.l9]; omega)).trans e⟩), (hV a.on (by rw [h.lab.l10]; omega)).trans h.on, (hV a.re (by rw [h.lab.l11]; omega)).trans h.re, hs_os (a := a) (σ := σ) h hV (by omega), h.wo, h.n1, h.n4⟩
theorem hs_act {k : Nat → Nat} {V : HV} {a : HA} {σ : HS} (h : hsOk k V a σ) {j t : Nat} (hj : j < 10) (hf : a.fa j = some t) (R : Nat → Int32) (hR : ∀ q, 2 ≤ q → R q = σ.A j q) : hsOk k (hu V t (eAc (a.rg j) (a.sn j) (R 0) (R 1))) a (σ.wA (updT σ.A j R)) := by
  have hV := hs_hv (V := V) (e := (eAc (a.rg j) (a.sn j) (R 0) (R 1))) (h.lab.la j t hj hf).1
  have hac : acOk k (hu V t (eAc (a.rg j) (a.sn j) (R 0) (R 1))) a.ac a.fa a.rg a.sn a.sa (updT σ.A j R) σ.Z := ⟨(hV _ (by rw [h.lab.l6]; omega)).trans h.ac.1, fun j' t' hj' hf' => by
      obtain ⟨e1, e2, e3, e4⟩ := h.ac.2.1 j' t' hj' hf'
      obtain ⟨m1, m2, m3, m4⟩ := h.lab.la j' t' hj' hf'
      by_cases hji : j' = j
      · subst hji
        have ht : t' = t := Option.some.inj (hf'.symm.trans hf)
        subst ht
        rw [uT_s]
        refine ⟨hu_s, (hV _ (by omega)).trans ?_, (hV _ (by omega)).trans e3, (hV _ (by omega)).trans e4⟩
        rw [hR 2 (by omega), hR 3 (by omega), hR 4 (by omega), hR 5 (by omega)]; exact e2
      · rw [uT_n hji]
        exact ⟨(hV _ (by omega)).trans e1, (hV _ (by omega)).trans e2, (hV _ (by omega)).trans e3, (hV _ (by omega)).trans e4⟩, fun j' hj' hf' => by
      have hji : j' ≠ j := fun z => by rw [z, hf] at hf'; cases hf'
      rw [uT_n hji]
      exact h.ac.2.2 j' hj' hf'⟩
  exact ⟨h.lab, (hV a.ho (by rw [h.lab.l1]; omega)).trans h.ho, (hV a.bo (by rw [h.lab.l2]; omega)).trans h.bo, (hV a.gi (by rw [h.lab.l3]; omega)).trans h.gi, (hV a.co (by rw [h.lab.l4]; omega)).trans h.co, hs_ts (a := a) (σ := σ) h hV (by omega) (by omega), hac, (hV a.ve (by rw [h.lab.l7]; omega)).trans h.ve, hs_vs (a := a) (σ := σ) h hV (by omega), (hV a.ro (by rw [h.lab.l8]; omega)).trans h.ro, h.rq.elim (fun F e => ⟨F, (hV a.rq (by rw [h.lab.l9]; omega)).trans e⟩), (hV a.on (by rw [h.lab.l10]; omega)).trans h.on, (hV a.re (by rw [h.lab.l11]; omega)).trans h.re, hs_os (a := a) (σ := σ) h hV (by omega), h.wo, h.n1, h.n4⟩
theorem hs_sa {k : Nat → Nat} {V : HV} {a : HA} {σ : HS} (h : hsOk k V a σ) {j t : Nat} (hj : j < 10) (hf : a.fa j = some t) (R : Nat → Int32) : hsOk k (hu V (a.sa j) (eI k 150 R)) a (σ.wZ (updT σ.Z j R)) := by
  have hV := hs_hv (V := V) (e := (eI k 150 R)) (h.lab.la j t hj hf).2.2.2
  have hac : acOk k (hu V (a.sa j) (eI k 150 R)) a.ac a.fa a.rg a.sn a.sa σ.A (updT σ.Z j R) := ⟨(hV _ (by rw [h.lab.l6]; omega)).trans h.ac.1, fun j' t' hj' hf' => by
      obtain ⟨e1, e2, e3, e4⟩ := h.ac.2.1 j' t' hj' hf'
      obtain ⟨m1, m2, m3, m4⟩ := h.lab.la j' t' hj' hf'
      by_cases hji : j' = j
      · subst hji
        have ht : t' = t := Option.some.inj (hf'.symm.trans hf)
        subst ht
        rw [uT_s]
        exact ⟨(hV _ (by omega)).trans e1, (hV _ (by omega)).trans e2, (hV _ (by omega)).trans e3, hu_s⟩
      · rw [uT_n hji]
        exact ⟨(hV _ (by omega)).trans e1, (hV _ (by omega)).trans e2, (hV _ (by omega)).trans e3, (hV _ (by omega)).trans e4⟩, fun j' hj' hf' => by
      have hji : j' ≠ j := fun z => by rw [z, hf] at hf'; cases hf'
      skip
      exact h.ac.2.2 j' hj' hf'⟩
  exact ⟨h.lab, (hV a.ho (by rw [h.lab.l1]; omega)).trans h.ho, (hV a.bo (by rw [h.lab.l2]; omega)).trans h.bo, (hV a.gi (by rw [h.lab.l3]; omega)).trans h.gi, (hV a.co (by rw [h.lab.l4]; omega)).trans h.co, hs_ts (a := a) (σ := σ) h hV (by omega) (by omega), hac, (hV a.ve (by rw [h.lab.l7]; omega)).trans h.ve, hs_vs (a := a) (σ := σ) h hV (by omega), (hV a.ro (by rw [h.lab.l8]; omega)).trans h.ro, h.rq.elim (fun F e => ⟨F, (hV a.rq (by rw [h.lab.l9]; omega)).trans e⟩), (hV a.on (by rw [h.lab.l10]; omega)).trans h.on, (hV a.re (by rw [h.lab.l11]; omega)).trans h.re, hs_os (a := a) (σ := σ) h hV (by omega), h.wo, h.n1, h.n4⟩
theorem hs_all {k : Nat → Nat} {V : HV} {a : HA} {σ : HS} (h : hsOk k V a σ) {V' : HV} {T1 : Nat → Nat → Int32} (hT : tsOk k V' a.ta a.f a.ar T1) (hF : tsFr a.f a.ar V V') : hsOk k V' a (σ.wT (T1)) ∧ hsFr a a V V' := by
  have hV : ∀ q, (a.lb q < 1000 ∨ 2150 ≤ a.lb q) → V' q = V q := fun q hq => hF q (fun i t hi hf => by
    obtain ⟨m1, m2⟩ := h.lab.lt i t hi hf
    refine ⟨fun z => ?_, fun z => ?_⟩ <;> subst z <;> omega)
  refine ⟨⟨h.lab, (hV a.ho (by rw [h.lab.l1]; omega)).trans h.ho, (hV a.bo (by rw [h.lab.l2]; omega)).trans h.bo, (hV a.gi (by rw [h.lab.l3]; omega)).trans h.gi, (hV a.co (by rw [h.lab.l4]; omega)).trans h.co, hT, ⟨(hV _ (by rw [h.lab.l6]; omega)).trans h.ac.1, fun j t hj hf => ?_, h.ac.2.2⟩, (hV a.ve (by rw [h.lab.l7]; omega)).trans h.ve, fun j v hj hf => ?_, (hV a.ro (by rw [h.lab.l8]; omega)).trans h.ro, h.rq.elim (fun F e => ⟨F, (hV _ (by rw [h.lab.l9]; omega)).trans e⟩), (hV a.on (by rw [h.lab.l10]; omega)).trans h.on, (hV a.re (by rw [h.lab.l11]; omega)).trans h.re, fun i hi => ?_, h.wo, h.n1, h.n4⟩, rfl, fun q e hq hl => ⟨(hV q (by omega)).trans hq, rfl⟩⟩
  · obtain ⟨l1, l2, l3, l4⟩ := h.lab.la j t hj hf
    obtain ⟨e1, e2, e3, e4⟩ := h.ac.2.1 j t hj hf
    exact ⟨(hV _ (by omega)).trans e1, (hV _ (by omega)).trans e2, (hV _ (by omega)).trans e3, (hV _ (by omega)).trans e4⟩
  · obtain ⟨l1, l2⟩ := h.lab.lv j v hj hf
    obtain ⟨e1, e2⟩ := h.vs j v hj hf
    exact ⟨(hV _ (by omega)).trans e1, (hV _ (by omega)).trans e2⟩
  · have hi : i < σ.nl := hi
    have := h.n4
    obtain ⟨l1, l2, l3, l4⟩ := h.lab.ls i hi
    obtain ⟨e1, e2, ⟨F, e3⟩, e4, e5, ⟨F', e6⟩⟩ := h.os i hi
    exact ⟨e1, (hV _ (by omega)).trans e2, ⟨F, (hV _ (by omega)).trans e3⟩, e4, (hV _ (by omega)).trans e5, ⟨F', (hV _ (by omega)).trans e6⟩⟩
theorem hs_other {k : Nat → Nat} {V : HV} {a : HA} {σ : HS} (h : hsOk k V a σ) {V' : HV} (hV : ∀ q e, a.lb q < 5000 → V q = some e → V' q = some e) : hsOk k V' a σ := by
  refine ⟨h.lab, hV _ _ (by rw [h.lab.l1]; omega) h.ho, hV _ _ (by rw [h.lab.l2]; omega) h.bo, hV _ _ (by rw [h.lab.l3]; omega) h.gi, hV _ _ (by rw [h.lab.l4]; omega) h.co, ⟨hV _ _ (by rw [h.lab.l5]; omega) h.ts.1, fun i t hi hf => ?_, h.ts.2.2⟩, ⟨hV _ _ (by rw [h.lab.l6]; omega) h.ac.1, fun j t hj hf => ?_, h.ac.2.2⟩, hV _ _ (by rw [h.lab.l7]; omega) h.ve, fun j v hj hf => ?_, hV _ _ (by rw [h.lab.l8]; omega) h.ro, h.rq.elim (fun F e => ⟨F, hV _ _ (by rw [h.lab.l9]; omega) e⟩), hV _ _ (by rw [h.lab.l10]; omega) h.on, hV _ _ (by rw [h.lab.l11]; omega) h.re, fun i hi => ?_, h.wo, h.n1, h.n4⟩
  · obtain ⟨m1, m2⟩ := h.lab.lt i t hi hf
    obtain ⟨e1, e2⟩ := h.ts.2.1 i t hi hf
    exact ⟨hV _ _ (by omega) e1, hV _ _ (by omega) e2⟩
  · obtain ⟨l1, l2, l3, l4⟩ := h.lab.la j t hj hf
    obtain ⟨e1, e2, e3, e4⟩ := h.ac.2.1 j t hj hf
    exact ⟨hV _ _ (by omega) e1, hV _ _ (by omega) e2, hV _ _ (by omega) e3, hV _ _ (by omega) e4⟩
  · obtain ⟨l1, l2⟩ := h.lab.lv j v hj hf
    obtain ⟨e1, e2⟩ := h.vs j v hj hf
    exact ⟨hV _ _ (by omega) e1, hV _ _ (by omega) e2⟩
  · have := h.n4
    obtain ⟨l1, l2, l3, l4⟩ := h.lab.ls i hi
    obtain ⟨e1, e2, ⟨F, e3⟩, e4, e5, ⟨F', e6⟩⟩ := h.os i hi
    exact ⟨e1, hV _ _ (by omega) e2, ⟨F, hV _ _ (by omega) e3⟩, e4, hV _ _ (by omega) e5, ⟨F', hV _ _ (by omega) e6⟩⟩
theorem hs_new {k : Nat → Nat} {V : HV} {a : HA} {σ : HS} (h : hsOk k V a σ) {q n : Nat} {e : va_E} (hq : V q = none) : hsOk k (hu V q e) (a.lab q n) σ := by
  have hn : ∀ {x : Nat} {y : va_E}, V x = some y → x ≠ q := fun {x y} hx z => by rw [z, hq] at hx; cases hx
  have hV : ∀ {x : Nat} {y : va_E}, V x = some y → hu V q e x = some y := fun {x y} hx => hu_f hq hx
  have hl : ∀ {x : Nat} {y : va_E}, V x = some y → (a.lab q n).lb x = a.lb x := fun {x y} hx => HA.lab_n (hn hx)
  refine ⟨⟨(hl h.ho).trans h.lab.l1, (hl h.bo).trans h.lab.l2, (hl h.gi).trans h.lab.l3, (hl h.co).trans h.lab.l4, (hl h.ts.1).trans h.lab.l5, (hl h.ac.1).trans h.lab.l6, (hl h.ve).trans h.lab.l7, (hl h.ro).trans h.lab.l8, h.rq.elim (fun F e => (hl e).trans h.lab.l9), (hl h.on).trans h.lab.l10, (hl h.re).trans h.lab.l11, fun i t hi hf => ⟨(hl (h.ts.2.1 i t hi hf).1).trans (h.lab.lt i t hi hf).1, (hl (h.ts.2.1 i t hi hf).2).trans (h.lab.lt i t hi hf).2⟩, fun j t hj hf => ?_, fun j v hj hf => ⟨(hl (h.vs j v hj hf).1).trans (h.lab.lv j v hj hf).1, (hl (h.vs j v hj hf).2).trans (h.lab.lv j v hj hf).2⟩, fun i hi => ?_⟩, hV h.ho, hV h.bo, hV h.gi, hV h.co, ⟨hV h.ts.1, fun i t hi hf => ⟨hV (h.ts.2.1 i t hi hf).1, hV (h.ts.2.1 i t hi hf).2⟩, h.ts.2.2⟩, ⟨hV h.ac.1, fun j t hj hf => ?_, h.ac.2.2⟩, hV h.ve, fun j v hj hf => ⟨hV (h.vs j v hj hf).1, hV (h.vs j v hj hf).2⟩, hV h.ro, h.rq.elim (fun F e => ⟨F, hV e⟩), hV h.on, hV h.re, fun i hi => ?_, h.wo, h.n1, h.n4⟩
  · obtain ⟨l1, l2, l3, l4⟩ := h.lab.la j t hj hf
    obtain ⟨e1, e2, e3, e4⟩ := h.ac.2.1 j t hj hf
    exact ⟨(hl e1).trans l1, (hl e2).trans l2, (hl e3).trans l3, (hl e4).trans l4⟩
  · obtain ⟨l1, l2, l3, l4⟩ := h.lab.ls i hi
    obtain ⟨e1, e2, ⟨F, e3⟩, e4, e5, ⟨F', e6⟩⟩ := h.os i hi
    exact ⟨(hl e2).trans l1, (hl e3).trans l2, (hl e5).trans l3, (hl e6).trans l4⟩
  · obtain ⟨e1, e2, e3, e4⟩ := h.ac.2.1 j t hj hf
    exact ⟨hV e1, hV e2, hV e3, hV e4⟩
  · obtain ⟨e1, e2, ⟨F, e3⟩, e4, e5, ⟨F', e6⟩⟩ := h.os i hi
    exact ⟨e1, hV e2, ⟨F, hV e3⟩, e4, hV e5, ⟨F', hV e6⟩⟩
theorem va_up_s {f : Nat → Option Nat} {i : Nat} {x : Option Nat} : va_up f i x i = x := by simp [va_up]
theorem va_up_n {f : Nat → Option Nat} {i j : Nat} {x : Option Nat} (h : j ≠ i) : va_up f i x j = f j := by simp [va_up, h]
theorem hs_addT {k : Nat → Nat} {V : HV} {a : HA} {σ : HS} (h : hsOk k V a σ) {i t a0 : Nat} {R : Nat → Int32} (hi : i < 150) (hf : a.f i = none) (ht : V t = some (eThR R a0)) (ha : V a0 = some (eArR R)) (lt : a.lb t = 5000) (la : a.lb a0 = 5001) : hsOk k (hu V a.ta (eTs k (va_up a.f i (some t)))) (a.addT i t a0) (σ.wT (updT σ.T i R)) := by
  have hV := hs_hv (V := V) (e := eTs k (va_up a.f i (some t))) h.lab.l5
  have hta : t ≠ a0 := fun z => by rw [z] at lt; omega
  have hl : ∀ x, a.lb x < 5000 → (a.addT i t a0).lb x = a.lb x := fun x hx => by
    show (if x = t then 1000 + i else if x = a0 then 2000 + i else a.lb x) = a.lb x
    rw [if_neg (fun z => by rw [z] at hx; omega), if_neg (fun z => by rw [z] at hx; omega)]
  have hlt : (a.addT i t a0).lb t = 1000 + i := if_pos rfl
  have hla : (a.addT i t a0).lb a0 = 2000 + i := by
    show (if a0 = t then 1000 + i else if a0 = a0 then 2000 + i else a.lb a0) = 2000 + i
    rw [if_neg (Ne.symm hta), if_pos rfl]
  have hts : tsOk k (hu V a.ta (eTs k (va_up a.f i (some t)))) a.ta (va_up a.f i (some t)) (fun j => if j = i then a0 else a.ar j) (updT σ.T i R) := by
    refine ⟨hu_s, fun j t' hj hf' => ?_, fun j hj hf' => ?_⟩
    · by_cases hji : j = i
      · subst hji
        rw [va_up_s] at hf'
        cases hf'
        rw [eThT, eArT, uT_s]
        show _ ∧ hu V a.ta (eTs k (va_up a.f j (some t))) (if j = j then a0 else a.ar j) = _
        rw [if_pos rfl]
        exact ⟨(hV _ (by omega)).trans ht, (hV _ (by omega)).trans ha⟩
      · rw [va_up_n hji] at hf'
        obtain ⟨m1, m2⟩ := h.lab.lt j t' hj hf'
        obtain ⟨e1, e2⟩ := h.ts.2.1 j t' hj hf'
        rw [eThT, eArT, uT_n hji]
        show _ ∧ hu V a.ta (eTs k (va_up a.f i (some t))) (if j = i then a0 else a.ar j) = _
        rw [if_neg hji]
        exact ⟨(hV _ (by omega)).trans e1, (hV _ (by omega)).trans e2⟩
    · have hji : j ≠ i := fun z => by rw [z, va_up_s] at hf'; cases hf'
      rw [va_up_n hji] at hf'
      rw [uT_n hji]
      exact h.ts.2.2 j hj hf'
  have hlab : hsLb (a.addT i t a0) σ.nl := by
    refine ⟨(hl a.ho (by rw [h.lab.l1]; omega)).trans h.lab.l1, (hl a.bo (by rw [h.lab.l2]; omega)).trans h.lab.l2, (hl a.gi (by rw [h.lab.l3]; omega)).trans h.lab.l3, (hl a.co (by rw [h.lab.l4]; omega)).trans h.lab.l4, (hl a.ta (by rw [h.lab.l5]; omega)).trans h.lab.l5, (hl a.ac (by rw [h.lab.l6]; omega)).trans h.lab.l6, (hl a.ve (by rw [h.lab.l7]; omega)).trans h.lab.l7, (hl a.ro (by rw [h.lab.l8]; omega)).trans h.lab.l8, (hl a.rq (by rw [h.lab.l9]; omega)).trans h.lab.l9, (hl a.on (by rw [h.lab.l10]; omega)).trans h.lab.l10, (hl a.re (by rw [h.lab.l11]; omega)).trans h.lab.l11, fun j t' hj hf' => ?_, fun j t' hj hf' => ?_, fun j v hj hf' => ?_, fun j hj => ?_⟩
    · by_cases hji : j = i
      · subst hji
        have hf2 : va_up a.f j (some t) j = some t' := hf'
        rw [va_up_s] at hf2
        cases hf2
        refine ⟨hlt, ?_⟩
        show (a.addT j t a0).lb (if j = j then a0 else a.ar j) = _
        rw [if_pos rfl]; exact hla
      · have hf2 : va_up a.f i (some t) j = some t' := hf'
        rw [va_up_n hji] at hf2
        obtain ⟨m1, m2⟩ := h.lab.lt j t' hj hf2
        refine ⟨(hl _ (by omega)).trans m1, ?_⟩
        show (a.addT i t a0).lb (if j = i then a0 else a.ar j) = _
        rw [if_neg hji]; exact (hl _ (by omega)).trans m2
    · obtain ⟨l1, l2, l3, l4⟩ := h.lab.la j t' hj hf'
      exact ⟨(hl t' (by omega)).trans l1, (hl (a.rg j) (by omega)).trans l2, (hl (a.sn j) (by omega)).trans l3, (hl (a.sa j) (by omega)).trans l4⟩
    · obtain ⟨l1, l2⟩ := h.lab.lv j v hj hf'
      exact ⟨(hl v (by omega)).trans l1, (hl (a.vr j) (by omega)).trans l2⟩
    · have := h.n4
      obtain ⟨l1, l2, l3, l4⟩ := h.lab.ls j hj
      exact ⟨(hl (a.os j) (by omega)).trans l1, (hl (a.oR j) (by omega)).trans l2, (hl (a.ss j) (by omega)).trans l3, (hl (a.sR j) (by omega)).trans l4⟩
  exact ⟨hlab, (hV a.ho (by rw [h.lab.l1]; omega)).trans h.ho, (hV a.bo (by rw [h.lab.l2]; omega)).trans h.bo, (hV a.gi (by rw [h.lab.l3]; omega)).trans h.gi, (hV a.co (by rw [h.lab.l4]; omega)).trans h.co, hts, hs_ac (a := a) (σ := σ) h hV (by omega) (by omega), (hV a.ve (by rw [h.lab.l7]; omega)).trans h.ve, hs_vs (a := a) (σ := σ) h hV (by omega), (hV a.ro (by rw [h.lab.l8]; omega)).trans h.ro, h.rq.elim (fun F e => ⟨F, (hV a.rq (by rw [h.lab.l9]; omega)).trans e⟩), (hV a.on (by rw [h.lab.l10]; omega)).trans h.on, (hV a.re (by rw [h.lab.l11]; omega)).trans h.re, hs_os (a := a) (σ := σ) h hV (by omega), h.wo, h.n1, h.n4⟩
theorem hs_addA {k : Nat → Nat} {V : HV} {a : HA} {σ : HS} (h : hsOk k V a σ) {j t r n z : Nat} {A' Z' : Nat → Int32} (hj : j < 10) (hf : a.fa j = none) (ht : V t = some (eAc r n (A' 0) (A' 1))) (hr : V r = some (eAr (A' 2) (A' 3) (A' 4) (A' 5))) (hn : V n = some (eSn z)) (hz : V z = some (eI k 150 Z')) (lt : a.lb t = 5000) (lr : a.lb r = 5001) (ln : a.lb n = 5002) (lz : a.lb z = 5003) : hsOk k (hu V a.ac (eAs k (va_up a.fa j (some t)))) (a.addA j t r n z) ((σ.wA (updT σ.A j A')).wZ (updT σ.Z j Z')) := by
  have hV := hs_hv (V := V) (e := eAs k (va_up a.fa j (some t))) h.lab.l6
  have n1 : r ≠ t := fun q => by rw [q] at lr; omega
  have n2 : n ≠ t := fun q => by rw [q] at ln; omega
  have n3 : z ≠ t := fun q => by rw [q] at lz; omega
  have n4 : n ≠ r := fun q => by rw [q] at ln; omega
  have n5 : z ≠ r := fun q => by rw [q] at lz; omega
  have n6 : z ≠ n := fun q => by rw [q] at lz; omega
  have hl : ∀ x, a.lb x < 5000 → (a.addA j t r n z).lb x = a.lb x := fun x hx => by
    show (if x = t then 100 + j else if x = r then 120 + j else if x = n then 140 + j else if x = z then 160 + j else a.lb x) = a.lb x
    rw [if_neg (fun q => by rw [q] at hx; omega), if_neg (fun q => by rw [q] at hx; omega), if_neg (fun q => by rw [q] at hx; omega), if_neg (fun q => by rw [q] at hx; omega)]
  have hlt : (a.addA j t r n z).lb t = 100 + j := if_pos rfl
  have hlr : (a.addA j t r n z).lb r = 120 + j := by
    show (if r = t then 100 + j else if r = r then 120 + j else _) = _
    rw [if_neg n1, if_pos rfl]
  have hln : (a.addA j t r n z).lb n = 140 + j := by
    show (if n = t then 100 + j else if n = r then 120 + j else if n = n then 140 + j else _) = _
    rw [if_neg n2, if_neg n4, if_pos rfl]
  have hlz : (a.addA j t r n z).lb z = 160 + j := by
    show (if z = t then 100 + j else if z = r then 120 + j else if z = n then 140 + j else if z = z then 160 + j else _) = _
    rw [if_neg n3, if_neg n5, if_neg n6, if_pos rfl]
  have hwj : ∀ j', σ.wo = some j' → j' ≠ j := fun j' hw q => by
    obtain ⟨_, t', ht'⟩ := h.wo j' hw
    rw [q, hf] at ht'; cases ht'
  have hwA : woA (a.addA j t r n z) σ.wo = woA a σ.wo := by
    cases hw : σ.wo with
    | none => rfl
    | some j' => exact va_up_n (hwj j' hw)
  have hac : acOk k (hu V a.ac (eAs k (va_up a.fa j (some t)))) a.ac (va_up a.fa j (some t)) (fun q => if q = j then r else a.rg q) (fun q => if q = j then n else a.sn q) (fun q => if q = j then z else a.sa q) (updT σ.A j A') (updT σ.Z j Z') := by
    refine ⟨hu_s, fun j' t' hj' hf' => ?_, fun j' hj' hf' => ?_⟩
    · by_cases hji : j' = j
      · subst hji
        rw [va_up_s] at hf'
        cases hf'
        rw [uT_s, uT_s]
        show _ ∧ hu V a.ac _ (if j' = j' then r else _) = _ ∧ hu V a.ac _ (if j' = j' then n else _) = _ ∧ hu V a.ac _ (if j' = j' then z else _) = _
        simp only [if_pos]
        exact ⟨(hV _ (by omega)).trans ht, (hV _ (by omega)).trans hr, (hV _ (by omega)).trans hn, (hV _ (by omega)).trans hz⟩
      · rw [va_up_n hji] at hf'
        obtain ⟨l1, l2, l3, l4⟩ := h.lab.la j' t' hj' hf'
        obtain ⟨e1, e2, e3, e4⟩ := h.ac.2.1 j' t' hj' hf'
        rw [uT_n hji, uT_n hji]
        show _ ∧ hu V a.ac _ (if j' = j then r else _) = _ ∧ hu V a.ac _ (if j' = j then n else _) = _ ∧ hu V a.ac _ (if j' = j then z else _) = _
        simp only [if_neg hji]
        exact ⟨(hV _ (by omega)).trans e1, (hV _ (by omega)).trans e2, (hV _ (by omega)).trans e3, (hV _ (by omega)).trans e4⟩
    · have hji : j' ≠ j := fun q => by rw [q, va_up_s] at hf'; cases hf'
      rw [va_up_n hji] at hf'
      rw [uT_n hji]
      exact h.ac.2.2 j' hj' hf'
  have hlab : hsLb (a.addA j t r n z) σ.nl := by
    refine ⟨(hl a.ho (by rw [h.lab.l1]; omega)).trans h.lab.l1, (hl a.bo (by rw [h.lab.l2]; omega)).trans h.lab.l2, (hl a.gi (by rw [h.lab.l3]; omega)).trans h.lab.l3, (hl a.co (by rw [h.lab.l4]; omega)).trans h.lab.l4, (hl a.ta (by rw [h.lab.l5]; omega)).trans h.lab.l5, (hl a.ac (by rw [h.lab.l6]; omega)).trans h.lab.l6, (hl a.ve (by rw [h.lab.l7]; omega)).trans h.lab.l7, (hl a.ro (by rw [h.lab.l8]; omega)).trans h.lab.l8, (hl a.rq (by rw [h.lab.l9]; omega)).trans h.lab.l9, (hl a.on (by rw [h.lab.l10]; omega)).trans h.lab.l10, (hl a.re (by rw [h.lab.l11]; omega)).trans h.lab.l11, fun i t' hi hf' => ?_, fun j' t' hj' hf' => ?_, fun j v hj hf' => ?_, fun i hi => ?_⟩
    · obtain ⟨m1, m2⟩ := h.lab.lt i t' hi hf'
      exact ⟨(hl t' (by omega)).trans m1, (hl (a.ar i) (by omega)).trans m2⟩
    · by_cases hji : j' = j
      · subst hji
        have hf2 : va_up a.fa j' (some t) j' = some t' := hf'
        rw [va_up_s] at hf2
        cases hf2
        show _ ∧ (a.addA j' t r n z).lb (if j' = j' then r else _) = _ ∧ (a.addA j' t r n z).lb (if j' = j' then n else _) = _ ∧ (a.addA j' t r n z).lb (if j' = j' then z else _) = _
        simp only [if_pos]
        exact ⟨hlt, hlr, hln, hlz⟩
      · have hf2 : va_up a.fa j (some t) j' = some t' := hf'
        rw [va_up_n hji] at hf2
        obtain ⟨l1, l2, l3, l4⟩ := h.lab.la j' t' hj' hf2
        show _ ∧ (a.addA j t r n z).lb (if j' = j then r else _) = _ ∧ (a.addA j t r n z).lb (if j' = j then n else _) = _ ∧ (a.addA j t r n z).lb (if j' = j then z else _) = _
        simp only [if_neg hji]
        exact ⟨(hl t' (by omega)).trans l1, (hl (a.rg j') (by omega)).trans l2, (hl (a.sn j') (by omega)).trans l3, (hl (a.sa j') (by omega)).trans l4⟩
    · obtain ⟨l1, l2⟩ := h.lab.lv j v hj hf'
      exact ⟨(hl v (by omega)).trans l1, (hl (a.vr j) (by omega)).trans l2⟩
    · have := h.n4
      obtain ⟨l1, l2, l3, l4⟩ := h.lab.ls i hi
      exact ⟨(hl (a.os i) (by omega)).trans l1, (hl (a.oR i) (by omega)).trans l2, (hl (a.ss i) (by omega)).trans l3, (hl (a.sR i) (by omega)).trans l4⟩
  have hho : hu V a.ac (eAs k (va_up a.fa j (some t))) a.ho = some (eHo (nI σ.nl) a.bo a.gi a.co a.ta a.ac a.ve (woA (a.addA j t r n z) σ.wo) σ.rs) := by
    rw [hwA]
    exact (hV a.ho (by rw [h.lab.l1]; omega)).trans h.ho
  exact ⟨hlab, hho, (hV a.bo (by rw [h.lab.l2]; omega)).trans h.bo, (hV a.gi (by rw [h.lab.l3]; omega)).trans h.gi, (hV a.co (by rw [h.lab.l4]; omega)).trans h.co, hs_ts (a := a) (σ := σ) h hV (by omega) (by omega), hac, (hV a.ve (by rw [h.lab.l7]; omega)).trans h.ve, hs_vs (a := a) (σ := σ) h hV (by omega), (hV a.ro (by rw [h.lab.l8]; omega)).trans h.ro, h.rq.elim (fun F e => ⟨F, (hV a.rq (by rw [h.lab.l9]; omega)).trans e⟩), (hV a.on (by rw [h.lab.l10]; omega)).trans h.on, (hV a.re (by rw [h.lab.l11]; omega)).trans h.re, hs_os (a := a) (σ := σ) h hV (by omega), fun j' hw => ⟨(h.wo j' hw).1, (h.wo j' hw).2.elim (fun t' ht' => ⟨t', (va_up_n (hwj j' hw)).trans ht'⟩)⟩, h.n1, h.n4⟩
theorem hs_addV {k : Nat → Nat} {V : HV} {a : HA} {σ : HS} (h : hsOk k V a σ) {j n z : Nat} {W' : Nat → Int32} (hj : j < 8) (hn : V n = some (eSn z)) (hz : V z = some (eI k 150 W')) (ln : a.lb n = 5000) (lz : a.lb z = 5001) : hsOk k (hu V a.ve (eVs k (va_up a.fv j (some n)))) (a.addV j n z) (σ.wW (updT σ.W j W')) := by
  have hV := hs_hv (V := V) (e := eVs k (va_up a.fv j (some n))) h.lab.l7
  have n6 : z ≠ n := fun q => by rw [q] at lz; omega
  have hl : ∀ x, a.lb x < 5000 → (a.addV j n z).lb x = a.lb x := fun x hx => by
    show (if x = n then 180 + j else if x = z then 190 + j else a.lb x) = a.lb x
    rw [if_neg (fun q => by rw [q] at hx; omega), if_neg (fun q => by rw [q] at hx; omega)]
  have hln : (a.addV j n z).lb n = 180 + j := if_pos rfl
  have hlz : (a.addV j n z).lb z = 190 + j := by
    show (if z = n then 180 + j else if z = z then 190 + j else _) = _
    rw [if_neg n6, if_pos rfl]
  have hlab : hsLb (a.addV j n z) σ.nl := by
    refine ⟨(hl a.ho (by rw [h.lab.l1]; omega)).trans h.lab.l1, (hl a.bo (by rw [h.lab.l2]; omega)).trans h.lab.l2, (hl a.gi (by rw [h.lab.l3]; omega)).trans h.lab.l3, (hl a.co (by rw [h.lab.l4]; omega)).trans h.lab.l4, (hl a.ta (by rw [h.lab.l5]; omega)).trans h.lab.l5, (hl a.ac (by rw [h.lab.l6]; omega)).trans h.lab.l6, (hl a.ve (by rw [h.lab.l7]; omega)).trans h.lab.l7, (hl a.ro (by rw [h.lab.l8]; omega)).trans h.lab.l8, (hl a.rq (by rw [h.lab.l9]; omega)).trans h.lab.l9, (hl a.on (by rw [h.lab.l10]; omega)).trans h.lab.l10, (hl a.re (by rw [h.lab.l11]; omega)).trans h.lab.l11, fun i t' hi hf' => ?_, fun j' t' hj' hf' => ?_, fun j' v hj' hf' => ?_, fun i hi => ?_⟩
    · obtain ⟨m1, m2⟩ := h.lab.lt i t' hi hf'
      exact ⟨(hl t' (by omega)).trans m1, (hl (a.ar i) (by omega)).trans m2⟩
    · obtain ⟨l1, l2, l3, l4⟩ := h.lab.la j' t' hj' hf'
      exact ⟨(hl t' (by omega)).trans l1, (hl (a.rg j') (by omega)).trans l2, (hl (a.sn j') (by omega)).trans l3, (hl (a.sa j') (by omega)).trans l4⟩
    · by_cases hji : j' = j
      · subst hji
        have hf2 : va_up a.fv j' (some n) j' = some v := hf'
        rw [va_up_s] at hf2
        cases hf2
        show _ ∧ (a.addV j' n z).lb (if j' = j' then z else _) = _
        rw [if_pos rfl]
        exact ⟨hln, hlz⟩
      · have hf2 : va_up a.fv j (some n) j' = some v := hf'
        rw [va_up_n hji] at hf2
        obtain ⟨l1, l2⟩ := h.lab.lv j' v hj' hf2
        show _ ∧ (a.addV j n z).lb (if j' = j then z else _) = _
        rw [if_neg hji]
        exact ⟨(hl v (by omega)).trans l1, (hl (a.vr j') (by omega)).trans l2⟩
    · have := h.n4
      obtain ⟨l1, l2, l3, l4⟩ := h.lab.ls i hi
      exact ⟨(hl (a.os i) (by omega)).trans l1, (hl (a.oR i) (by omega)).trans l2, (hl (a.ss i) (by omega)).trans l3, (hl (a.sR i) (by omega)).trans l4⟩
  have hvs : ∀ j' v, j' < 8 → va_up a.fv j (some n) j' = some v → hu V a.ve (eVs k (va_up a.fv j (some n))) v = some (eSn (if j' = j then z else a.vr j')) ∧ hu V a.ve (eVs k (va_up a.fv j (some n))) (if j' = j then z else a.vr j') = some (eI k 150 (updT σ.W j W' j')) := by
    intro j' v hj' hf'
    by_cases hji : j' = j
    · subst hji
      rw [va_up_s] at hf'
      cases hf'
      rw [if_pos rfl, uT_s]
      exact ⟨(hV _ (by omega)).trans hn, (hV _ (by omega)).trans hz⟩
    · rw [va_up_n hji] at hf'
      obtain ⟨l1, l2⟩ := h.lab.lv j' v hj' hf'
      obtain ⟨e1, e2⟩ := h.vs j' v hj' hf'
      rw [if_neg hji, uT_n hji]
      exact ⟨(hV _ (by omega)).trans e1, (hV _ (by omega)).trans e2⟩
  exact ⟨hlab, (hV a.ho (by rw [h.lab.l1]; omega)).trans h.ho, (hV a.bo (by rw [h.lab.l2]; omega)).trans h.bo, (hV a.gi (by rw [h.lab.l3]; omega)).trans h.gi, (hV a.co (by rw [h.lab.l4]; omega)).trans h.co, hs_ts (a := a) (σ := σ) h hV (by omega) (by omega), hs_ac (a := a) (σ := σ) h hV (by omega) (by omega), hu_s, hvs, (hV a.ro (by rw [h.lab.l8]; omega)).trans h.ro, h.rq.elim (fun F e => ⟨F, (hV a.rq (by rw [h.lab.l9]; omega)).trans e⟩), (hV a.on (by rw [h.lab.l10]; omega)).trans h.on, (hV a.re (by rw [h.lab.l11]; omega)).trans h.re, hs_os (a := a) (σ := σ) h hV (by omega), h.wo, h.n1, h.n4⟩
theorem hsFr_addT {a : HA} {V : HV} {i t a0 : Nat} {e : va_E} (l5 : a.lb a.ta = 5) (lt : a.lb t = 5000) (la : a.lb a0 = 5001) : hsFr a (a.addT i t a0) V (hu V a.ta e) := ⟨rfl, fun q y hq l => ⟨by rw [hu_n (fun z => by rw [z] at l; omega)]; exact hq, by
  show (if q = t then 1000 + i else if q = a0 then 2000 + i else a.lb q) = a.lb q
  rw [if_neg (fun z => by rw [z] at l; omega), if_neg (fun z => by rw [z] at l; omega)]⟩⟩
theorem hsFr_addA {a : HA} {V : HV} {j t r n z : Nat} {e : va_E} (l6 : a.lb a.ac = 6) (lt : a.lb t = 5000) (lr : a.lb r = 5001) (ln : a.lb n = 5002) (lz : a.lb z = 5003) : hsFr a (a.addA j t r n z) V (hu V a.ac e) := ⟨rfl, fun q y hq l => ⟨by rw [hu_n (fun z => by rw [z] at l; omega)]; exact hq, by
  show (if q = t then 100 + j else if q = r then 120 + j else if q = n then 140 + j else if q = z then 160 + j else a.lb q) = a.lb q
  rw [if_neg (fun z => by rw [z] at l; omega), if_neg (fun z => by rw [z] at l; omega), if_neg (fun z => by rw [z] at l; omega), if_neg (fun z => by rw [z] at l; omega)]⟩⟩
theorem hsFr_addV {a : HA} {V : HV} {j n z : Nat} {e : va_E} (l7 : a.lb a.ve = 7) (ln : a.lb n = 5000) (lz : a.lb z = 5001) : hsFr a (a.addV j n z) V (hu V a.ve e) := ⟨rfl, fun q y hq l => ⟨by rw [hu_n (fun z => by rw [z] at l; omega)]; exact hq, by
  show (if q = n then 180 + j else if q = z then 190 + j else a.lb q) = a.lb q
  rw [if_neg (fun z => by rw [z] at l; omega), if_neg (fun z => by rw [z] at l; omega)]⟩⟩
