/-! FILLED -/
theorem cnt_row {c : Int32} {v : Int64} (h : ∀ x, x < 32 → bt c x = lq v x) (hv : ∀ x, x < 64 → lq v x = true → x < 32) : jb_cnt c = nI (pcn v) := by
  rw [jb_nat, pcn, show (64 : Nat) = 32 + 32 from rfl, cntF_add 32 0 32, cntF_no 32 (0 + 32) (fun j h1 h2 => ?_), Nat.add_zero]
  · exact congrArg nI (cntF_congr 32 0 (fun j _ hj => h j (by omega)))
  · cases q : lq v j with
    | false => rfl
    | true => have := hv j (by omega) q; omega
theorem J_filled : ok_filled JR := by
  intro σ ρ hI h hh r a σ' ans ρ' hR hM
  have fp := flt h hh 5
  rcases hR with ⟨c1, er, es⟩ | ⟨c1, c2, er, es⟩ | ⟨c1, c2, c3, er, es⟩ | ⟨c1, c2, c3, er, es, G, hC, ev⟩
  · have ff : moFF ρ hh = 1 := by rw [moFF, fp, c1]; rfl
    rcases hM with ⟨-, ea, eρ⟩ | ⟨z, -⟩
    · rw [ff] at eρ; rw [es]; exact bad h eρ er (by decide)
    · rw [ff] at z; exact absurd z (by decide)
  · have ff : moFF ρ hh = 2 := by rw [moFF, fp, c1, if_pos rfl, if_neg c2]; rfl
    rcases hM with ⟨-, ea, eρ⟩ | ⟨z, -⟩
    · rw [ff] at eρ; rw [es]; exact bad h eρ er (by decide)
    · rw [ff] at z; exact absurd z (by decide)
  all_goals
    rw [c1, if_pos rfl, if_pos c2] at fp
    obtain ⟨p1, p2, p3, p4⟩ := hd_of hI c1 (K := 5) (by omega) (by omega) c2
    have h10 : gN σ 5 ≤ 10 := (gN_of hI.1 (K := 5) (by omega) (by omega)).2
    have eI : hdI hh = 140 + hdN hh := by rw [hdI, p4]; rfl
    have hm : slM σ (140 + hdN hh) = true := by rw [slM_l (by omega) (by omega)]; exact decide_eq_true (by omega)
    have ht := h.th (140 + hdN hh) (by omega) hm
    rw [eI] at c3
  · have ff : moFF ρ hh = 3 := by rw [moFF, fp, if_pos rfl, if_pos (by rw [← ht.1]; exact c3)]
    rcases hM with ⟨-, ea, eρ⟩ | ⟨z, -⟩
    · rw [ff] at eρ; rw [es]; exact bad h eρ er (by decide)
    · rw [ff] at z; exact absurd z (by decide)
  · have ff : moFF ρ hh = 0 := by rw [moFF, fp, if_pos rfl, if_neg (by rw [← ht.1]; exact c3)]
    rcases hM with ⟨z, -⟩ | ⟨-, la0, g0, G', hla, hg5, eg, ela, eρ, hF, ea⟩
    · exact absurd ff z
    · rw [eI] at hC
      obtain ⟨-, -, r2, -, an, -⟩ := ht
      obtain ⟨n0, hn0, e3, e7⟩ : ∃ n', n' < 20 ∧ σ.T (140 + hdN hh) 3 = nI (1000 + n') ∧ ρ.I 7 (140 + hdN hh) = nI n' := by
        rcases an with q | q
        · omega
        · exact q.2
      rw [r2, ela, e3] at hC
      rw [e7] at hF eρ
      have eg' : σ.g = nI g0 := by rw [← h.gp.1]; exact eg
      obtain ⟨f1, f2⟩ := fl_bits (ρx := ρ.ws 0 0) hI h rfl hla hn0 hg5 eg' 120 (Nat.le_refl _)
      have F32 := ll_32 (ρ := ρ.ws 0 0) (ne := nI n0) (la := la0) (g := g0) 120
      generalize moLL (ρ.ws 0 0) (nI n0) la0 g0 120 = M at *
      have ef : eqB la0 (fun j => flO σ.T (nI la0) (nI (1000 + n0)) 120 j &&& flR σ.T (nI la0) (nI (1000 + n0)) σ.g 120 j) (flS M.1 M.2 (ρ.L 2) (24 * la0) 24) := fun y hy x hx => by
        show bt (flO σ.T (nI la0) (nI (1000 + n0)) 120 y &&& flR σ.T (nI la0) (nI (1000 + n0)) σ.g 120 y) x = lq (flS M.1 M.2 (ρ.L 2) (24 * la0) 24 (24 * la0 + y)) x
        rw [flS, if_pos (by omega), b_and, q_and, f1 y hy x hx, f2 y hy x hx]
      have eG := fin_eq f2 ef (fun y hy x hx q => by rw [b_and, Bool.and_eq_true] at q; exact q.2) F32 hC hF
      have G32 : ∀ y, y < 24 → ∀ x, x < 64 → lq (G' (24 * la0 + y)) x = true → x < 32 := fun y hy x hx q => F32 y hy x hx (hF.1 y hy x hx q)
      rw [es, eρ, ev, ea, er]
      refine ⟨h.say rfl rfl rfl rfl rfl rfl rfl rfl rfl rfl rfl rfl h.rs, rfl, fun _ => congrArg Int32.toInt64 ?_⟩
      rw [cel]
      exact sz_sum 24 0 (fun j _ hj => cnt_row (fun x hx => eG j (by omega) x hx) (G32 j (by omega)))
