/-! CLOSURES: filled along runs, or cell by cell -/
def nbC (F S : Nat → Nat → Bool) : Prop := ∀ y, y < 24 → ∀ x, x < 32 → F y x = true → (S y x = true ∨ (0 < x ∧ S y (x - 1) = true) ∨ (x < 31 ∧ S y (x + 1) = true) ∨ (0 < y ∧ S (y - 1) x = true) ∨ (y < 23 ∧ S (y + 1) x = true)) → S y x = true
theorem nb_congr {F F' S S' : Nat → Nat → Bool} (hF : ∀ y, y < 24 → ∀ x, x < 32 → F' y x = F y x) (hS : ∀ y, y < 24 → ∀ x, x < 32 → S' y x = S y x) (h : nbC F S) : nbC F' S' := by
  intro y hy x hx hf hs
  rw [hS y hy x hx]
  refine h y hy x hx (by rw [← hF y hy x hx]; exact hf) ?_
  rcases hs with q | ⟨q1, q⟩ | ⟨q1, q⟩ | ⟨q1, q⟩ | ⟨q1, q⟩
  · rw [hS y hy x hx] at q; exact Or.inl q
  · rw [hS y hy (x - 1) (by omega)] at q; exact Or.inr (Or.inl ⟨q1, q⟩)
  · rw [hS y hy (x + 1) (by omega)] at q; exact Or.inr (Or.inr (Or.inl ⟨q1, q⟩))
  · rw [hS (y - 1) (by omega) x hx] at q; exact Or.inr (Or.inr (Or.inr (Or.inl ⟨q1, q⟩)))
  · rw [hS (y + 1) (by omega) x hx] at q; exact Or.inr (Or.inr (Or.inr (Or.inr ⟨q1, q⟩)))
theorem rClo_nb {r c : Nat → Int32} (hs : rSub c r) : rClo r c ↔ nbC (fun y x => bt (r y) x) (fun y x => bt (c y) x) := by
  constructor
  · intro h y hy x hx hf hn
    have hf : bt (r y) x = true := hf
    have key : bt (gr_row c r y) x = true := by
      rw [bt_row]
      rcases hn with q | ⟨q1, q⟩ | ⟨q1, q⟩ | ⟨q1, q⟩ | ⟨q1, q⟩
      · exact Or.inl q
      · right; rw [bt_runs _ _ hx]; left
        refine ⟨x - 1, by omega, ?_, fun t h1 h2 => by rw [show t = x by omega]; exact hf⟩
        rw [b_and, hs y hy (x - 1) (by omega) q, Bool.and_true, bt_seeds]; exact Or.inl q
      · right; rw [bt_runs _ _ hx]; right
        refine ⟨x + 1, by omega, by omega, ?_, fun t h1 h2 => by rw [show t = x by omega]; exact hf⟩
        rw [b_and, hs y hy (x + 1) (by omega) q, Bool.and_true, bt_seeds]; exact Or.inl q
      · right; rw [bt_runs _ _ hx]; left
        refine ⟨x, by omega, ?_, fun t h1 h2 => by omega⟩
        rw [b_and, hf, Bool.and_true, bt_seeds]; exact Or.inr (Or.inl ⟨q1, q⟩)
      · right; rw [bt_runs _ _ hx]; left
        refine ⟨x, by omega, ?_, fun t h1 h2 => by omega⟩
        rw [b_and, hf, Bool.and_true, bt_seeds]; exact Or.inr (Or.inr ⟨q1, q⟩)
    rw [h y hy] at key; exact key
  · intro h y hy
    have seed : ∀ j, j < 32 → bt (gr_seeds c y &&& r y) j = true → bt (c y) j = true := fun j hj q => by
      rw [b_and, Bool.and_eq_true, bt_seeds] at q
      refine h y hy j hj q.2 ?_
      rcases q.1 with z | z | z
      · exact Or.inl z
      · exact Or.inr (Or.inr (Or.inr (Or.inl z)))
      · exact Or.inr (Or.inr (Or.inr (Or.inr z)))
    refine b_ext (fun x hx => ?_)
    rw [Bool.eq_iff_iff, bt_row]
    refine ⟨fun q => ?_, fun q => Or.inl q⟩
    rcases q with q | q
    · exact q
    · rw [bt_runs _ _ hx] at q
      rcases q with ⟨j, h1, h2, h3⟩ | ⟨j, h1, h1', h2, h3⟩
      · have : ∀ d, j + d ≤ x → bt (c y) (j + d) = true := by
          intro d
          induction d with
          | zero => intro _; exact seed j (by omega) h2
          | succ d ih => intro hd; exact h y hy (j + (d + 1)) (by omega) (h3 _ (by omega) hd) (Or.inr (Or.inl ⟨by omega, by rw [show j + (d + 1) - 1 = j + d by omega]; exact ih (by omega)⟩))
        have z := this (x - j) (by omega)
        rw [show j + (x - j) = x by omega] at z; exact z
      · have : ∀ d, x + d ≤ j → bt (c y) (j - d) = true := by
          intro d
          induction d with
          | zero => intro _; exact seed j h1' h2
          | succ d ih => intro hd; exact h y hy (j - (d + 1)) (by omega) (h3 _ (by omega) (by omega)) (Or.inr (Or.inr (Or.inl ⟨by omega, by rw [show j - (d + 1) + 1 = j - d by omega]; exact ih (by omega)⟩)))
        have z := this (j - x) (by omega)
        rw [show j - (j - x) = x by omega] at z; exact z
theorem lCl_nb {F C : Nat → Int64} {la : Nat} (hF : l32 F la) (hC : l32 C la) : lCl F C la ↔ nbC (fun y x => lq (F (24 * la + y)) x) (fun y x => lq (C (24 * la + y)) x) := by
  constructor
  · intro h y hy x hx hf hn
    have hf : lq (F (24 * la + y)) x = true := hf
    refine h y hy x (by omega) ?_
    rw [q_row (by omega), hf, Bool.and_true, decide_eq_true hx]
    rcases hn with q | ⟨q1, q⟩ | ⟨q1, q⟩ | ⟨q1, q⟩ | ⟨q1, q⟩
    · have q' : lq (C (24 * la + y)) x = true := q
      rw [q']; simp
    · have q' : lq (C (24 * la + y)) (x - 1) = true := q
      rw [q', decide_eq_true (show 1 ≤ x by omega)]; simp
    · have q' : lq (C (24 * la + y)) (1 + x) = true := by rw [Nat.add_comm 1 x]; exact q
      rw [q']; simp
    · have q' : lq (C (24 * la + y - 1)) x = true := by rw [show 24 * la + y - 1 = 24 * la + (y - 1) by omega]; exact q
      rw [if_pos q1, q']; simp
    · have q' : lq (C (24 * la + y + 1)) x = true := q
      rw [if_pos q1, q']; simp
  · intro h y hy x hx q
    rw [q_row hx, Bool.and_eq_true] at q
    have h32 := hF y hy x hx q.2
    refine h y hy x h32 q.2 ?_
    have q1 := q.1
    simp only [Bool.or_eq_true, Bool.and_eq_true, decide_eq_true_eq] at q1
    rcases q1 with (⟨-, (z | z) | z⟩ | z) | z
    · exact Or.inl z
    · exact Or.inr (Or.inl ⟨by have := z.1; omega, z.2⟩)
    · have z32 := hC y hy (1 + x) (by omega) z
      exact Or.inr (Or.inr (Or.inl ⟨by omega, by show lq (C (24 * la + y)) (x + 1) = true; rw [Nat.add_comm x 1]; exact z⟩))
    · by_cases hy0 : 0 < y
      · rw [if_pos hy0] at z; exact Or.inr (Or.inr (Or.inr (Or.inl ⟨hy0, by rw [show 24 * la + y - 1 = 24 * la + (y - 1) by omega] at z; exact z⟩)))
      · rw [if_neg hy0] at z; cases z
    · by_cases hy0 : y < 23
      · rw [if_pos hy0] at z; exact Or.inr (Or.inr (Or.inr (Or.inr ⟨hy0, z⟩)))
      · rw [if_neg hy0] at z; cases z
def to32 (C : Nat → Int64) (la y : Nat) : Int32 := Int32.ofBitVec ((C (24 * la + y)).toBitVec.setWidth 32)
def to64 (c : Nat → Nat → Int32) (j : Nat) : Int64 := Int64.ofBitVec ((c (j / 24) (j % 24)).toBitVec.setWidth 64)
theorem to32_b {C : Nat → Int64} {la y x : Nat} (hx : x < 32) : bt (to32 C la y) x = lq (C (24 * la + y)) x := by
  show ((C (24 * la + y)).toBitVec.setWidth 32).getLsbD x = _
  rw [BitVec.getLsbD_setWidth, decide_eq_true hx, Bool.true_and]; rfl
theorem to64_b {c : Nat → Nat → Int32} {la y x : Nat} (hy : y < 24) (hx : x < 64) : lq (to64 c (24 * la + y)) x = bt (c la y) x := by
  show ((c ((24 * la + y) / 24) ((24 * la + y) % 24)).toBitVec.setWidth 64).getLsbD x = _
  rw [BitVec.getLsbD_setWidth, decide_eq_true hx, Bool.true_and, show (24 * la + y) / 24 = la by omega, show (24 * la + y) % 24 = y by omega]; rfl
theorem to64_32 {c : Nat → Nat → Int32} {la : Nat} : l32 (to64 c) la := fun y hy x hx q => by
  rw [to64_b hy hx] at q
  rcases Nat.lt_or_ge x 32 with z | z
  · exact z
  · rw [b_big z] at q; cases q
theorem rClo_rf (r : Nat → Int32) : rClo r r := (rClo_nb (rSub_rf r)).mpr (fun y _ x _ hf _ => hf)
/-- both fill the same -/
theorem fin_eq {la : Nat} {r f G : Nat → Int32} {F g G' : Nat → Int64} (hr : eqB la r F) (hf : eqB la f g) (hfr : rSub f r) (hF : l32 F la) (hC : Clo r f G) (hL : lFin F g G' la) : eqB la G G' := by
  obtain ⟨c1, c2, c3⟩ := hC
  obtain ⟨m1, m2, -, m4, m5⟩ := hL
  have hG : rSub G r := c2 r (rClo_rf r) hfr
  have G32 : l32 G' la := fun y hy x hx q => hF y hy x hx (m1 y hy x hx q)
  have s1 : rSub G (to32 G' la) := by
    refine c2 _ ?_ (fun y hy x hx q => by rw [to32_b hx]; exact m2 y hy x (by omega) (by rw [← hf y hy x hx]; exact q))
    refine (rClo_nb (fun y hy x hx q => ?_)).mpr ?_
    · rw [to32_b hx] at q; rw [hr y hy x hx]; exact m1 y hy x (by omega) q
    · exact nb_congr (fun y hy x hx => hr y hy x hx) (fun y hy x hx => to32_b hx) ((lCl_nb hF G32).mp m5)
  have s2 : lSub la G' (to64 (fun _ => G)) := by
    refine m4 _ ?_ (fun y hy x hx q => ?_)
    · refine (lCl_nb hF to64_32).mpr ?_
      exact nb_congr (fun y hy x hx => (hr y hy x hx).symm) (fun y hy x hx => to64_b hy (by omega)) ((rClo_nb hG).mp c3)
    · have h32 := G32 y hy x hx (m2 y hy x hx q)
      rw [to64_b hy hx]
      exact c1 y hy x h32 (by rw [hf y hy x h32]; exact q)
  intro y hy x hx
  rw [Bool.eq_iff_iff]
  constructor
  · intro q; have := s1 y hy x hx q; rw [to32_b hx] at this; exact this
  · intro q; have := s2 y hy x (by omega) q; rw [to64_b hy (by omega)] at this; exact this
