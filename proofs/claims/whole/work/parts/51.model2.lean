/-! the model: note, make, and what makes things -/
theorem nI_mulN (x y : Nat) : nI x * nI y = nI (x * y) := by unfold nI; rw [Int32.ofNat_mul]
def moG (ρ : MS) : Prop := ∀ K, 1 ≤ K → K ≤ 7 → ∃ n, ρ.I 0 K = nI n ∧ n ≤ liN K
def mN (ρ : MS) (K : Nat) : Nat := (ρ.I 0 K).toNatClampNeg
theorem mN_of {ρ : MS} (h : moG ρ) {K : Nat} (h1 : 1 ≤ K) (h7 : K ≤ 7) : ρ.I 0 K = nI (mN ρ K) ∧ mN ρ K ≤ liN K := by
  obtain ⟨n, e, hn⟩ := h K h1 h7
  have := liN_le (K := K)
  have hg : mN ρ K = n := by rw [mN, e, nI_clamp (by omega)]
  exact ⟨by rw [hg, e], by rw [hg]; exact hn⟩
theorem mg_of {ρ : MS} (hG : moG ρ) {h : Int32} (hg : gvOk (ρ.I 0) h = true) : h / 1000 = nI (hdK h) ∧ h - h / 1000 * 1000 = nI (hdN h) ∧ 1 ≤ hdK h ∧ hdK h ≤ 7 ∧ hdN h < mN ρ (hdK h) :=
  gv_of (σ := (0, 0, 0, none, ρ.I 0, fun _ _ => 0, fun _ _ => 0, fun _ _ => 0, fun _ _ => 0)) hG hg
theorem moFault0 {G : Nat → Int32} {h kd : Int32} (e : moFault G h kd = 0) : gvOk G h = true ∧ h / 1000 = kd := by
  unfold moFault at e
  split at e
  · split at e
    · exact ⟨by assumption, by assumption⟩
    · exact absurd e (by decide)
  · exact absurd e (by decide)
theorem moWorst0 {x y : Int32} (e : moWorst x y = 0) (hx : x = 0 ∨ x = 1 ∨ x = 2) (hy : y = 0 ∨ y = 1 ∨ y = 2) : x = 0 ∧ y = 0 := by
  rcases hx with rfl | rfl | rfl <;> rcases hy with rfl | rfl | rfl <;> first | exact ⟨rfl, rfl⟩ | exact absurd e (by decide)
theorem moFault3 (G : Nat → Int32) (h kd : Int32) : moFault G h kd = 0 ∨ moFault G h kd = 1 ∨ moFault G h kd = 2 := by
  unfold moFault; split
  · split
    · exact Or.inl rfl
    · exact Or.inr (Or.inr rfl)
  · exact Or.inr (Or.inl rfl)
theorem moBase_n {K : Nat} (h2 : 2 ≤ K) (h5 : K ≤ 5) : moBase (nI K) = nI (fiN K) := by
  rcases (show K = 2 ∨ K = 3 ∨ K = 4 ∨ K = 5 by omega) with rfl | rfl | rfl | rfl <;> rfl
theorem moLim_n {K : Nat} (h1 : 1 ≤ K) (h7 : K ≤ 7) : moLim (nI K) = nI (liN K) := by
  rcases (show K = 1 ∨ K = 2 ∨ K = 3 ∨ K = 4 ∨ K = 5 ∨ K = 6 ∨ K = 7 by omega) with rfl | rfl | rfl | rfl | rfl | rfl | rfl <;> rfl
def moCwP (ρ : MS) (t : Nat) (dx dy pa : Int32) : Nat → Bool := fun u => !decide (nI u = nI t) && moCop ρ.I u && (decide (pa = -1) || !decide (ρ.I 8 u = pa)) && moClash ρ t dx dy u
def moOvP (I : Nat → Nat → Int32) (pa x y w h sd : Int32) : Nat → Bool := fun q => !decide (nI q = pa) && !decide (I 1 q = 0) && decide (I 6 q = sd) && decide (moApart x w (I 2 q) (I 4 q) = 0) && decide (moApart y h (I 3 q) (I 5 q) = 0)
def moNote (ρ : MS) (t : Nat) (was : Int32) : MS := if ρ.s 4 = -1 then ρ else
  if ρ.I 15 (150 * (ρ.s 4).toNatClampNeg + t) = 0 then ((((ρ.wI 14 (upd (ρ.I 14) (ρ.s 4).toNatClampNeg (ρ.I 14 (ρ.s 4).toNatClampNeg + 1))).wI 15 (upd (ρ.I 15) (150 * (ρ.s 4).toNatClampNeg + t) 1)).wI 16 (upd (ρ.I 16) (150 * (ρ.s 4).toNatClampNeg + t) was)).wI 17 (upd (ρ.I 17) (150 * (ρ.s 4).toNatClampNeg + t) (ρ.I 2 t))).wI 18 (upd (ρ.I 18) (150 * (ρ.s 4).toNatClampNeg + t) (ρ.I 3 t))
  else ρ.wI 14 (upd (ρ.I 14) (ρ.s 4).toNatClampNeg (ρ.I 14 (ρ.s 4).toNatClampNeg + 1))
def moLayS (ρ : MS) (t : Nat) (ne la x y w h : Int32) : MS := (((((ρ.wI 2 (upd (ρ.I 2) t x)).wI 3 (upd (ρ.I 3) t y)).wI 4 (upd (ρ.I 4) t w)).wI 5 (upd (ρ.I 5) t h)).wI 6 (upd (ρ.I 6) t la)).wI 7 (upd (ρ.I 7) t ne)
def moMkA (ρ : MS) (K t : Nat) (ne la x y w h pa : Int32) : MS := (moLayS (ρ.wI 0 (upd (ρ.I 0) K (ρ.I 0 K + 1))) t ne la x y w h).wI 8 (upd (ρ.I 8) t pa)
def moMkS (ρ : MS) (K t : Nat) (ne la x y w h pa : Int32) : MS := (moNote (moMkA ρ K t ne la x y w h pa) t 0).wI 1 (upd ((moNote (moMkA ρ K t ne la x y w h pa) t 0).I 1) t 1)
theorem note_I {ρ : MS} {t : Nat} {was : Int32} {j : Nat} (h : j < 14 ∨ 18 < j) : (moNote ρ t was).I j = ρ.I j := by
  unfold moNote; split
  · rfl
  · split
    · rw [ms_In (by omega), ms_In (by omega), ms_In (by omega), ms_In (by omega), ms_In (by omega)]
    · rw [ms_In (by omega)]
theorem note_s {ρ : MS} {t : Nat} {was : Int32} : (moNote ρ t was).s = ρ.s := by
  unfold moNote; split
  · rfl
  · split <;> rfl
theorem note_L {ρ : MS} {t : Nat} {was : Int32} : (moNote ρ t was).L = ρ.L := by
  unfold moNote; split
  · rfl
  · split <;> rfl
def moNet (ρ : MS) : Int32 × MS := if ρ.I 0 1 = nI (liN 1) then (-1, (ρ.ws 0 0).ws 3 1) else (999 + (ρ.I 0 1 + 1), ((ρ.ws 0 0).ws 3 0).wI 0 (upd (ρ.I 0) 1 (ρ.I 0 1 + 1)))
def moPart (ρ : MS) (n2 n6 : Nat) (w h x y sd : Int32) : Int32 × MS := if ptOk w h sd = false then (0, ρ.ws 0 1) else
  if ρ.I 0 2 = nI (liN 2) then (-1, (ρ.ws 0 0).ws 3 1) else if moBox x y w h = false then (-1, (ρ.ws 0 0).ws 3 2) else if moBarr ρ n6 x y w h = true then (-1, (ρ.ws 0 0).ws 3 3) else if anyF (moOvP ρ.I (-1) x y w h sd) 0 n2 = true then (-1, (ρ.ws 0 0).ws 3 4) else (moHan (nI (fiN 2 + n2)), moMkS ((ρ.ws 0 0).ws 3 0) 2 (fiN 2 + n2) (-1) sd x y w h (-1))
/-- via, pad, track: what makes copper; ρ: with thrown set already -/
def moMkC (ρ : MS) (K n0 n6 : Nat) (ne la x y w h pa : Int32) : Int32 × MS :=
  if ρ.I 0 K = nI (liN K) then (-1, ρ.ws 3 1) else if moBox x y w h = false then (-1, ρ.ws 3 2) else if moBarr ρ n6 x y w h = true then (-1, ρ.ws 3 3) else
  if anyF (moCwP (moLayS (ρ.ws 3 0) (fiN K + n0) ne la x y w h) (fiN K + n0) 0 0 (-1)) 20 120 = true then (-1, (moLayS (ρ.ws 3 0) (fiN K + n0) ne la x y w h).ws 3 5) else (moHan (nI (fiN K + n0)), moMkS (moLayS (ρ.ws 3 0) (fiN K + n0) ne la x y w h) K (fiN K + n0) ne la x y w h pa)
def moVia (ρ : MS) (n3 n6 : Nat) (net x y : Int32) : Int32 × MS := if moFault (ρ.I 0) net 1 = 0 then moMkC (ρ.ws 0 (moFault (ρ.I 0) net 1)) 3 n3 n6 (net - net / 1000 * 1000) 0 x y 1 1 (-1) else (0, ρ.ws 0 (moFault (ρ.I 0) net 1))
set_option maxHeartbeats 4000000 in
set_option maxRecDepth 100000 in
/-- clashesWithAny -/
theorem c_Mo_clashesWithAny (l : Launch) (D : va_G) (N0 : Nat) (k : Nat → Nat) (V : HV) (mo : Nat) (ad : Nat → Nat) (ρ : MS) (hM : mdOk k V mo ad ρ) (t : Nat) (ht : t < 150) (dx dy pa : Int32) : Met l y_Mo_clashesWithAny (.code y_Mo_clashesWithAny b_Mo_clashesWithAny 6 (some .boolean) :: WS) ({ frames := 3, cells := 0, slots := 0, locals := 66 }) (mP D N0 k [.ref mo, .int (nI t), .int dx, .int dy, .int pa] V) (va_Qi (fun r V' => r = bI (anyF (moCwP ρ t dx dy pa) 20 120) ∧ V' = V) (mB D N0) (hA N0)) 0 0 (hA N0) := by
  refine Met.ofW (cc := b_Mo_clashesWithAny) (maxL := 6) (ret := (some .boolean)) (by decide) rfl ?_
  intro p e s m args below meth c s₁ B hml hv0
  obtain ⟨rfl, hG, hV⟩ := hv0
  have hx := B.exec
  have hb := B.bytes
  have hr := B.returns
  have hts := atoms_spec (ws := .code y_Mo_clashesWithAny b_Mo_clashesWithAny 6 (some .boolean) :: WS) B.pre
  have hW : ∀ w ∈ WS, w.before _ s = true := fun w h => hts w (List.mem_cons_of_mem _ h)
  have hown : s.vm.findClass "BoardHouseModel" = some m.cls := findClass_of_methodNamed B.named
  have hlocks := B.notSynchronized
  have hS : va_S (hA N0) s.heap s.heap [] := va_S.rf
  have hl := lv_entry ([.ref mo, .int (nI t), .int dx, .int dy, .int pa]) (n := 6) (Nat.le_of_ble_eq_true rfl)
  rw [lg_entry_eq]
  generalize (lg_sl ([.ref mo, .int (nI t), .int dx, .int dy, .int pa]) ++ List.replicate (6 - (lg_sl ([.ref mo, .int (nI t), .int dx, .int dy, .int pa])).length) Slot.unset).toArray = ls at hl ⊢
  have hl : lv_has ls 6 [(0, .ref mo), (1, .int (nI t)), (2, .int dx), (3, .int dy), (4, .int pa)] := hl
  have hm_1 : V mo = some (.inr (7, [.int (ρ.s 0), .int (ρ.s 1), .int (ρ.s 2), .int (ρ.s 3), .ref (ad 0), .ref (ad 1), .ref (ad 2), .ref (ad 3), .ref (ad 4), .ref (ad 5), .ref (ad 6), .ref (ad 7), .ref (ad 8), .int (ρ.s 4), .ref (ad 9), .ref (ad 10), .ref (ad 11), .ref (ad 12), .ref (ad 13), .ref (ad 14), .ref (ad 15), .ref (ad 16), .ref (ad 17), .ref (ad 18), .ref (ad 19), .ref (ad 20), .ref (ad 21), .ref (ad 22), .ref (ad 23), .ref (ad 24), .ref (ad 25)])) := hM.1
  have hm_1_8 : V (ad 8) = some (eI k 150 (ρ.I 8)) := hM.a8
  refine lv_bipush (v := 20) hx hb d_Mo_clashesWithAny_0 (by decide) ?_
  refine lv_istore (lv' := [(5, .int 20), (0, .ref mo), (1, .int (nI t)), (2, .int dx), (3, .int dy), (4, .int pa)]) hx hb d_Mo_clashesWithAny_2 hl (by decide) rfl (fun ls hl => ?_)
  obtain ⟨Pb, hPb⟩ : ∃ z, z = moCwP ρ t dx dy pa := ⟨_, rfl⟩
  have loop_2 : ∀ (n i : Nat) (H : Heap) (locs : List Loc) (ls : Array Slot), i ≤ 140 → 140 + 1 ≤ i + n → (anyF Pb 20 120 = anyF Pb i (140 - i)) → hv D vwCl N0 V H → va_S (hA N0) s.heap H locs → lv_has ls 6 [(0, .ref mo), (1, .int (nI t)), (2, .int dx), (3, .int dy), (4, .int pa), (5, .int (nI i))] → W p l e (headSpec (.code y_Mo_clashesWithAny b_Mo_clashesWithAny 6 (some .boolean) :: WS) ({ frames := 3, cells := 0, slots := 0, locals := 66 })).room s m #[.ref mo, .int (nI t), .int dx, .int dy, .int pa] below meth c H locs 0 0 (MQ below (va_Qi (fun r V' => r = bI (anyF (moCwP ρ t dx dy pa) 20 120) ∧ V' = V) (mB D N0) (hA N0)) #[.ref mo, .int (nI t), .int dx, .int dy, .int pa] s 0 0 (hA N0)) (F0 m 4 ls []) := by
    intro n
    induction n with
    | zero => intro i  H locs ls h1 h2; exact absurd h2 (by omega)
    | succ n ih =>
      intro i  H locs ls hi hin hI hV hS hl
      refine lv_iload hx hb d_Mo_clashesWithAny_4 (lv_at hl 5 rfl) ?_
      refine lv_sipush (v := 140) hx hb d_Mo_clashesWithAny_6 (by decide) ?_
      refine lv_icmp_ge (tgt := 65) hx hb d_Mo_clashesWithAny_9 (by decide) (fun c_3 => ?_) (fun c_3 => ?_)
      · have hge : 140 ≤ i := nI_le' (a := 140) (b := i) c_3 (by decide) (by omega)
        refine lv_iconst (v := 0) hx hb d_Mo_clashesWithAny_65 (by decide) ?_
        try simp only [bI_ne0, bI_eq0, decide_eq_true_eq, decide_eq_false_iff_not, Bool.not_eq_false, Bool.not_eq_true, Decidable.not_not] at c_3
        exact W.zret (v := 0) hx hb hr rfl (fun t9 ht hW => ⟨⟨0, V, rfl, ⟨by rw [← hPb, hI, anyF_end hge]; rfl, rfl⟩, mB_of ht hV⟩, hS.F ht⟩) hS.2.2 d_Mo_clashesWithAny_66
      · have hlt : i < 140 := nI_nle' (a := 140) (b := i) c_3 (by decide) (by omega)
        refine lv_iload hx hb d_Mo_clashesWithAny_12 (lv_at hl 5 rfl) ?_
        refine lv_iload_n hx hb d_Mo_clashesWithAny_14 rfl (lv_at hl 1 rfl) ?_
        refine lv_icmp_eq (tgt := 59) hx hb d_Mo_clashesWithAny_15 (by decide) (fun c_4 => ?_) (fun c_4 => ?_)
        · obtain ⟨i_5, ei_5⟩ : ∃ y : Int32, y = (nI i) + 1 := ⟨_, rfl⟩
          refine lv_iinc (v := i_5) (lv' := [(5, .int i_5), (0, .ref mo), (1, .int (nI t)), (2, .int dx), (3, .int dy), (4, .int pa)]) hx hb d_Mo_clashesWithAny_59 hl (k := 5) rfl (by rw [ei_5]; rfl) (by decide) rfl (fun ls hl => ?_)
          refine lv_goto (tgt := 4) hx hb d_Mo_clashesWithAny_62 (by decide) ?_
          rw [nI_1] at ei_5
          subst ei_5
          try simp only [bI_ne0, bI_eq0, decide_eq_true_eq, decide_eq_false_iff_not, Bool.not_eq_false, Bool.not_eq_true, Decidable.not_not] at c_3
          try simp only [bI_ne0, bI_eq0, decide_eq_true_eq, decide_eq_false_iff_not, Bool.not_eq_false, Bool.not_eq_true, Decidable.not_not] at c_4
          have hPi : Pb i = false := by subst hPb; first | (simp [moCwP, c_4]; done) | (simp_all [moCwP]; done)
          exact ih (i + 1)  _ _ _ (by omega) (by omega) (by rw [hI, anyF_step hlt, hPi, Bool.false_or]) hV hS (lv_sub hl [1, 2, 3, 4, 5, 0] rfl)
        · refine lv_aload_n hx hb d_Mo_clashesWithAny_18 rfl (lv_at hl 0 rfl) ?_
          refine lv_iload hx hb d_Mo_clashesWithAny_19 (lv_at hl 5 rfl) ?_
          refine rc_i (va_runV (As := [.int (nI i)]) (rest := []) ⟨hx, hb, hml, hown, hts⟩ (c_Mo_isCopper l D N0 k V mo ad ρ hM i (by omega)) (cwV 1 hts (gi_V wm_Mo_133 wv_Mo_isCopper ws_Mo_isCopper wi_Mo wc_Mo_isCopper) rfl rfl rfl (by decide +kernel) ⟨Nat.le_of_ble_eq_true rfl, Nat.le_of_ble_eq_true rfl⟩) (mP.preV hG hS hV hm_1 rfl) rfl rfl hl.1 rfl (lv_room (Nat.le_of_ble_eq_true rfl)) d_Mo_clashesWithAny_21 ⟨Nat.le_of_ble_eq_true rfl, Nat.le_of_ble_eq_true rfl⟩) hS (fun H locs hV hS => ?_)
          refine W.eq (g2 := F0 m 24 ls [.int (bI (moCop ρ.I i))]) rfl ?_
          refine lv_if_eq (tgt := 59) hx hb d_Mo_clashesWithAny_24 (by decide) (fun c_6 => ?_) (fun c_6 => ?_)
          · obtain ⟨i_7, ei_7⟩ : ∃ y : Int32, y = (nI i) + 1 := ⟨_, rfl⟩
            refine lv_iinc (v := i_7) (lv' := [(5, .int i_7), (0, .ref mo), (1, .int (nI t)), (2, .int dx), (3, .int dy), (4, .int pa)]) hx hb d_Mo_clashesWithAny_59 hl (k := 5) rfl (by rw [ei_7]; rfl) (by decide) rfl (fun ls hl => ?_)
            refine lv_goto (tgt := 4) hx hb d_Mo_clashesWithAny_62 (by decide) ?_
            rw [nI_1] at ei_7
            subst ei_7
            try simp only [bI_ne0, bI_eq0, decide_eq_true_eq, decide_eq_false_iff_not, Bool.not_eq_false, Bool.not_eq_true, Decidable.not_not] at c_3
            try simp only [bI_ne0, bI_eq0, decide_eq_true_eq, decide_eq_false_iff_not, Bool.not_eq_false, Bool.not_eq_true, Decidable.not_not] at c_4
            try simp only [bI_ne0, bI_eq0, decide_eq_true_eq, decide_eq_false_iff_not, Bool.not_eq_false, Bool.not_eq_true, Decidable.not_not] at c_6
            have hPi : Pb i = false := by subst hPb; first | (simp [moCwP, c_4, c_6]; done) | (simp_all [moCwP]; done)
            exact ih (i + 1)  _ _ _ (by omega) (by omega) (by rw [hI, anyF_step hlt, hPi, Bool.false_or]) hV hS (lv_sub hl [1, 2, 3, 4, 5, 0] rfl)
          · refine lv_iload hx hb d_Mo_clashesWithAny_27 (lv_at hl 4 rfl) ?_
            refine lv_iconst (v := (-1)) hx hb d_Mo_clashesWithAny_29 (by decide) ?_
            refine lv_icmp_eq (tgt := 45) hx hb d_Mo_clashesWithAny_30 (by decide) (fun c_8 => ?_) (fun c_8 => ?_)
            · refine lv_aload_n hx hb d_Mo_clashesWithAny_45 rfl (lv_at hl 0 rfl) ?_
              refine lv_iload_n hx hb d_Mo_clashesWithAny_46 rfl (lv_at hl 1 rfl) ?_
              refine lv_iload_n hx hb d_Mo_clashesWithAny_47 rfl (lv_at hl 2 rfl) ?_
              refine lv_iload_n hx hb d_Mo_clashesWithAny_48 rfl (lv_at hl 3 rfl) ?_
              refine lv_iload hx hb d_Mo_clashesWithAny_49 (lv_at hl 5 rfl) ?_
              refine rc_i (va_runV (As := [.int (nI t), .int dx, .int dy, .int (nI i)]) (rest := []) ⟨hx, hb, hml, hown, hts⟩ (c_Mo_clash l D N0 k V mo ad ρ hM t i (by omega) (by omega) dx dy) (cwV 4 hts (gi_V wm_Mo_136 wv_Mo_clash ws_Mo_clash wi_Mo wc_Mo_clash) rfl rfl rfl (by decide +kernel) ⟨Nat.le_of_ble_eq_true rfl, Nat.le_of_ble_eq_true rfl⟩) (mP.preV hG hS hV hm_1 rfl) rfl rfl hl.1 rfl (lv_room (Nat.le_of_ble_eq_true rfl)) d_Mo_clashesWithAny_51 ⟨Nat.le_of_ble_eq_true rfl, Nat.le_of_ble_eq_true rfl⟩) hS (fun H locs hV hS => ?_)
              refine W.eq (g2 := F0 m 54 ls [.int (bI (moClash ρ t dx dy i))]) rfl ?_
              refine lv_if_eq (tgt := 59) hx hb d_Mo_clashesWithAny_54 (by decide) (fun c_9 => ?_) (fun c_9 => ?_)
              · obtain ⟨i_10, ei_10⟩ : ∃ y : Int32, y = (nI i) + 1 := ⟨_, rfl⟩
                refine lv_iinc (v := i_10) (lv' := [(5, .int i_10), (0, .ref mo), (1, .int (nI t)), (2, .int dx), (3, .int dy), (4, .int pa)]) hx hb d_Mo_clashesWithAny_59 hl (k := 5) rfl (by rw [ei_10]; rfl) (by decide) rfl (fun ls hl => ?_)
                refine lv_goto (tgt := 4) hx hb d_Mo_clashesWithAny_62 (by decide) ?_
                rw [nI_1] at ei_10
                subst ei_10
                try simp only [bI_ne0, bI_eq0, decide_eq_true_eq, decide_eq_false_iff_not, Bool.not_eq_false, Bool.not_eq_true, Decidable.not_not] at c_3
                try simp only [bI_ne0, bI_eq0, decide_eq_true_eq, decide_eq_false_iff_not, Bool.not_eq_false, Bool.not_eq_true, Decidable.not_not] at c_4
                try simp only [bI_ne0, bI_eq0, decide_eq_true_eq, decide_eq_false_iff_not, Bool.not_eq_false, Bool.not_eq_true, Decidable.not_not] at c_6
                try simp only [bI_ne0, bI_eq0, decide_eq_true_eq, decide_eq_false_iff_not, Bool.not_eq_false, Bool.not_eq_true, Decidable.not_not] at c_8
                try simp only [bI_ne0, bI_eq0, decide_eq_true_eq, decide_eq_false_iff_not, Bool.not_eq_false, Bool.not_eq_true, Decidable.not_not] at c_9
                have hPi : Pb i = false := by subst hPb; first | (simp [moCwP, c_4, c_6, c_8, c_9]; done) | (simp_all [moCwP]; done)
                exact ih (i + 1)  _ _ _ (by omega) (by omega) (by rw [hI, anyF_step hlt, hPi, Bool.false_or]) hV hS (lv_sub hl [1, 2, 3, 4, 5, 0] rfl)
              · refine lv_iconst (v := 1) hx hb d_Mo_clashesWithAny_57 (by decide) ?_
                try simp only [bI_ne0, bI_eq0, decide_eq_true_eq, decide_eq_false_iff_not, Bool.not_eq_false, Bool.not_eq_true, Decidable.not_not] at c_3
                try simp only [bI_ne0, bI_eq0, decide_eq_true_eq, decide_eq_false_iff_not, Bool.not_eq_false, Bool.not_eq_true, Decidable.not_not] at c_4
                try simp only [bI_ne0, bI_eq0, decide_eq_true_eq, decide_eq_false_iff_not, Bool.not_eq_false, Bool.not_eq_true, Decidable.not_not] at c_6
                try simp only [bI_ne0, bI_eq0, decide_eq_true_eq, decide_eq_false_iff_not, Bool.not_eq_false, Bool.not_eq_true, Decidable.not_not] at c_8
                try simp only [bI_ne0, bI_eq0, decide_eq_true_eq, decide_eq_false_iff_not, Bool.not_eq_false, Bool.not_eq_true, Decidable.not_not] at c_9
                have hPi : Pb i = true := by subst hPb; first | (simp [moCwP, c_4, c_6, c_8, c_9]; done) | (simp_all [moCwP]; done)
                exact W.zret (v := 1) hx hb hr rfl (fun t9 ht hW => ⟨⟨1, V, rfl, ⟨by rw [← hPb, hI, anyF_step hlt, hPi]; rfl, rfl⟩, mB_of ht hV⟩, hS.F ht⟩) hS.2.2 d_Mo_clashesWithAny_58
            · refine lv_aload_n hx hb d_Mo_clashesWithAny_33 rfl (lv_at hl 0 rfl) ?_
              refine gf_Mo_35 hx hb hW hown hG hV hm_1 d_Mo_clashesWithAny_34 ?_
              refine lv_iload hx hb d_Mo_clashesWithAny_37 (lv_at hl 5 rfl) ?_
              refine hv_iald hx hb hG.K hV 0 hm_1_8 rfl (vp_in_nI (by omega) (by omega)) d_Mo_clashesWithAny_39 ?_
              rw [nI_clamp (by omega)]
              refine lv_iload hx hb d_Mo_clashesWithAny_40 (lv_at hl 4 rfl) ?_
              refine lv_icmp_eq (tgt := 59) hx hb d_Mo_clashesWithAny_42 (by decide) (fun c_11 => ?_) (fun c_11 => ?_)
              · obtain ⟨i_12, ei_12⟩ : ∃ y : Int32, y = (nI i) + 1 := ⟨_, rfl⟩
                refine lv_iinc (v := i_12) (lv' := [(5, .int i_12), (0, .ref mo), (1, .int (nI t)), (2, .int dx), (3, .int dy), (4, .int pa)]) hx hb d_Mo_clashesWithAny_59 hl (k := 5) rfl (by rw [ei_12]; rfl) (by decide) rfl (fun ls hl => ?_)
                refine lv_goto (tgt := 4) hx hb d_Mo_clashesWithAny_62 (by decide) ?_
                rw [nI_1] at ei_12
                subst ei_12
                try simp only [bI_ne0, bI_eq0, decide_eq_true_eq, decide_eq_false_iff_not, Bool.not_eq_false, Bool.not_eq_true, Decidable.not_not] at c_3
                try simp only [bI_ne0, bI_eq0, decide_eq_true_eq, decide_eq_false_iff_not, Bool.not_eq_false, Bool.not_eq_true, Decidable.not_not] at c_4
                try simp only [bI_ne0, bI_eq0, decide_eq_true_eq, decide_eq_false_iff_not, Bool.not_eq_false, Bool.not_eq_true, Decidable.not_not] at c_6
                try simp only [bI_ne0, bI_eq0, decide_eq_true_eq, decide_eq_false_iff_not, Bool.not_eq_false, Bool.not_eq_true, Decidable.not_not] at c_8
                try simp only [bI_ne0, bI_eq0, decide_eq_true_eq, decide_eq_false_iff_not, Bool.not_eq_false, Bool.not_eq_true, Decidable.not_not] at c_11
                have hPi : Pb i = false := by subst hPb; first | (simp [moCwP, c_4, c_6, c_8, c_11]; done) | (simp_all [moCwP]; done)
                exact ih (i + 1)  _ _ _ (by omega) (by omega) (by rw [hI, anyF_step hlt, hPi, Bool.false_or]) hV hS (lv_sub hl [1, 2, 3, 4, 5, 0] rfl)
              · refine lv_aload_n hx hb d_Mo_clashesWithAny_45 rfl (lv_at hl 0 rfl) ?_
                refine lv_iload_n hx hb d_Mo_clashesWithAny_46 rfl (lv_at hl 1 rfl) ?_
                refine lv_iload_n hx hb d_Mo_clashesWithAny_47 rfl (lv_at hl 2 rfl) ?_
                refine lv_iload_n hx hb d_Mo_clashesWithAny_48 rfl (lv_at hl 3 rfl) ?_
                refine lv_iload hx hb d_Mo_clashesWithAny_49 (lv_at hl 5 rfl) ?_
                refine rc_i (va_runV (As := [.int (nI t), .int dx, .int dy, .int (nI i)]) (rest := []) ⟨hx, hb, hml, hown, hts⟩ (c_Mo_clash l D N0 k V mo ad ρ hM t i (by omega) (by omega) dx dy) (cwV 4 hts (gi_V wm_Mo_136 wv_Mo_clash ws_Mo_clash wi_Mo wc_Mo_clash) rfl rfl rfl (by decide +kernel) ⟨Nat.le_of_ble_eq_true rfl, Nat.le_of_ble_eq_true rfl⟩) (mP.preV hG hS hV hm_1 rfl) rfl rfl hl.1 rfl (lv_room (Nat.le_of_ble_eq_true rfl)) d_Mo_clashesWithAny_51 ⟨Nat.le_of_ble_eq_true rfl, Nat.le_of_ble_eq_true rfl⟩) hS (fun H locs hV hS => ?_)
                refine W.eq (g2 := F0 m 54 ls [.int (bI (moClash ρ t dx dy i))]) rfl ?_
                refine lv_if_eq (tgt := 59) hx hb d_Mo_clashesWithAny_54 (by decide) (fun c_13 => ?_) (fun c_13 => ?_)
                · obtain ⟨i_14, ei_14⟩ : ∃ y : Int32, y = (nI i) + 1 := ⟨_, rfl⟩
                  refine lv_iinc (v := i_14) (lv' := [(5, .int i_14), (0, .ref mo), (1, .int (nI t)), (2, .int dx), (3, .int dy), (4, .int pa)]) hx hb d_Mo_clashesWithAny_59 hl (k := 5) rfl (by rw [ei_14]; rfl) (by decide) rfl (fun ls hl => ?_)
                  refine lv_goto (tgt := 4) hx hb d_Mo_clashesWithAny_62 (by decide) ?_
                  rw [nI_1] at ei_14
                  subst ei_14
                  try simp only [bI_ne0, bI_eq0, decide_eq_true_eq, decide_eq_false_iff_not, Bool.not_eq_false, Bool.not_eq_true, Decidable.not_not] at c_3
                  try simp only [bI_ne0, bI_eq0, decide_eq_true_eq, decide_eq_false_iff_not, Bool.not_eq_false, Bool.not_eq_true, Decidable.not_not] at c_4
                  try simp only [bI_ne0, bI_eq0, decide_eq_true_eq, decide_eq_false_iff_not, Bool.not_eq_false, Bool.not_eq_true, Decidable.not_not] at c_6
                  try simp only [bI_ne0, bI_eq0, decide_eq_true_eq, decide_eq_false_iff_not, Bool.not_eq_false, Bool.not_eq_true, Decidable.not_not] at c_8
                  try simp only [bI_ne0, bI_eq0, decide_eq_true_eq, decide_eq_false_iff_not, Bool.not_eq_false, Bool.not_eq_true, Decidable.not_not] at c_11
                  try simp only [bI_ne0, bI_eq0, decide_eq_true_eq, decide_eq_false_iff_not, Bool.not_eq_false, Bool.not_eq_true, Decidable.not_not] at c_13
                  have hPi : Pb i = false := by subst hPb; first | (simp [moCwP, c_4, c_6, c_8, c_11, c_13]; done) | (simp_all [moCwP]; done)
                  exact ih (i + 1)  _ _ _ (by omega) (by omega) (by rw [hI, anyF_step hlt, hPi, Bool.false_or]) hV hS (lv_sub hl [1, 2, 3, 4, 5, 0] rfl)
                · refine lv_iconst (v := 1) hx hb d_Mo_clashesWithAny_57 (by decide) ?_
                  try simp only [bI_ne0, bI_eq0, decide_eq_true_eq, decide_eq_false_iff_not, Bool.not_eq_false, Bool.not_eq_true, Decidable.not_not] at c_3
                  try simp only [bI_ne0, bI_eq0, decide_eq_true_eq, decide_eq_false_iff_not, Bool.not_eq_false, Bool.not_eq_true, Decidable.not_not] at c_4
                  try simp only [bI_ne0, bI_eq0, decide_eq_true_eq, decide_eq_false_iff_not, Bool.not_eq_false, Bool.not_eq_true, Decidable.not_not] at c_6
                  try simp only [bI_ne0, bI_eq0, decide_eq_true_eq, decide_eq_false_iff_not, Bool.not_eq_false, Bool.not_eq_true, Decidable.not_not] at c_8
                  try simp only [bI_ne0, bI_eq0, decide_eq_true_eq, decide_eq_false_iff_not, Bool.not_eq_false, Bool.not_eq_true, Decidable.not_not] at c_11
                  try simp only [bI_ne0, bI_eq0, decide_eq_true_eq, decide_eq_false_iff_not, Bool.not_eq_false, Bool.not_eq_true, Decidable.not_not] at c_13
                  have hPi : Pb i = true := by subst hPb; first | (simp [moCwP, c_4, c_6, c_8, c_11, c_13]; done) | (simp_all [moCwP]; done)
                  exact W.zret (v := 1) hx hb hr rfl (fun t9 ht hW => ⟨⟨1, V, rfl, ⟨by rw [← hPb, hI, anyF_step hlt, hPi]; rfl, rfl⟩, mB_of ht hV⟩, hS.F ht⟩) hS.2.2 d_Mo_clashesWithAny_58
  exact loop_2 (140 + 1 - 20) 20  _ _ _ (by omega) (by omega) rfl hV hS (lv_sub hl [1, 2, 3, 4, 5, 0] rfl)
set_option maxHeartbeats 4000000 in
set_option maxRecDepth 100000 in
/-- overlaps -/
theorem c_Mo_overlaps (l : Launch) (D : va_G) (N0 : Nat) (k : Nat → Nat) (V : HV) (mo : Nat) (ad : Nat → Nat) (ρ : MS) (hM : mdOk k V mo ad ρ) (pa x y w0 h0 sd : Int32) (n2 : Nat) (hn2 : n2 ≤ 20) (en2 : ρ.I 0 2 = nI n2) : Met l y_Mo_overlaps (.code y_Mo_overlaps b_Mo_overlaps 8 (some .boolean) :: WS) ({ frames := 1, cells := 0, slots := 0, locals := 23 }) (mP D N0 k [.ref mo, .int pa, .int x, .int y, .int w0, .int h0, .int sd] V) (va_Qi (fun r V' => r = bI (anyF (moOvP ρ.I pa x y w0 h0 sd) 0 n2) ∧ V' = V) (mB D N0) (hA N0)) 0 0 (hA N0) := by
  refine Met.ofW (cc := b_Mo_overlaps) (maxL := 8) (ret := (some .boolean)) (by decide) rfl ?_
  intro p e s m args below meth c s₁ B hml hv0
  obtain ⟨rfl, hG, hV⟩ := hv0
  have hx := B.exec
  have hb := B.bytes
  have hr := B.returns
  have hts := atoms_spec (ws := .code y_Mo_overlaps b_Mo_overlaps 8 (some .boolean) :: WS) B.pre
  have hW : ∀ w ∈ WS, w.before _ s = true := fun w h => hts w (List.mem_cons_of_mem _ h)
  have hown : s.vm.findClass "BoardHouseModel" = some m.cls := findClass_of_methodNamed B.named
  have hlocks := B.notSynchronized
  have hS : va_S (hA N0) s.heap s.heap [] := va_S.rf
  have hl := lv_entry ([.ref mo, .int pa, .int x, .int y, .int w0, .int h0, .int sd]) (n := 8) (Nat.le_of_ble_eq_true rfl)
  rw [lg_entry_eq]
  generalize (lg_sl ([.ref mo, .int pa, .int x, .int y, .int w0, .int h0, .int sd]) ++ List.replicate (8 - (lg_sl ([.ref mo, .int pa, .int x, .int y, .int w0, .int h0, .int sd])).length) Slot.unset).toArray = ls at hl ⊢
  have hl : lv_has ls 8 [(0, .ref mo), (1, .int pa), (2, .int x), (3, .int y), (4, .int w0), (5, .int h0), (6, .int sd)] := hl
  have hm_1 : V mo = some (.inr (7, [.int (ρ.s 0), .int (ρ.s 1), .int (ρ.s 2), .int (ρ.s 3), .ref (ad 0), .ref (ad 1), .ref (ad 2), .ref (ad 3), .ref (ad 4), .ref (ad 5), .ref (ad 6), .ref (ad 7), .ref (ad 8), .int (ρ.s 4), .ref (ad 9), .ref (ad 10), .ref (ad 11), .ref (ad 12), .ref (ad 13), .ref (ad 14), .ref (ad 15), .ref (ad 16), .ref (ad 17), .ref (ad 18), .ref (ad 19), .ref (ad 20), .ref (ad 21), .ref (ad 22), .ref (ad 23), .ref (ad 24), .ref (ad 25)])) := hM.1
  have hm_1_0 : V (ad 0) = some (eI k 8 (ρ.I 0)) := hM.a0
  have hm_1_1 : V (ad 1) = some (eZ k 150 (ρ.I 1)) := hM.a1
  have hm_1_2 : V (ad 2) = some (eI k 150 (ρ.I 2)) := hM.a2
  have hm_1_3 : V (ad 3) = some (eI k 150 (ρ.I 3)) := hM.a3
  have hm_1_4 : V (ad 4) = some (eI k 150 (ρ.I 4)) := hM.a4
  have hm_1_5 : V (ad 5) = some (eI k 150 (ρ.I 5)) := hM.a5
  have hm_1_6 : V (ad 6) = some (eI k 150 (ρ.I 6)) := hM.a6
  refine lv_iconst (v := 0) hx hb d_Mo_overlaps_0 (by decide) ?_
  refine lv_istore (lv' := [(7, .int 0), (0, .ref mo), (1, .int pa), (2, .int x), (3, .int y), (4, .int w0), (5, .int h0), (6, .int sd)]) hx hb d_Mo_overlaps_1 hl (by decide) rfl (fun ls hl => ?_)
  obtain ⟨Pb, hPb⟩ : ∃ z, z = moOvP ρ.I pa x y w0 h0 sd := ⟨_, rfl⟩
  have loop_2 : ∀ (n i : Nat) (H : Heap) (locs : List Loc) (ls : Array Slot), i ≤ n2 → n2 + 1 ≤ i + n → (anyF Pb 0 n2 = anyF Pb i (n2 - i)) → hv D vwCl N0 V H → va_S (hA N0) s.heap H locs → lv_has ls 8 [(0, .ref mo), (1, .int pa), (2, .int x), (3, .int y), (4, .int w0), (5, .int h0), (6, .int sd), (7, .int (nI i))] → W p l e (headSpec (.code y_Mo_overlaps b_Mo_overlaps 8 (some .boolean) :: WS) ({ frames := 1, cells := 0, slots := 0, locals := 23 })).room s m #[.ref mo, .int pa, .int x, .int y, .int w0, .int h0, .int sd] below meth c H locs 0 0 (MQ below (va_Qi (fun r V' => r = bI (anyF (moOvP ρ.I pa x y w0 h0 sd) 0 n2) ∧ V' = V) (mB D N0) (hA N0)) #[.ref mo, .int pa, .int x, .int y, .int w0, .int h0, .int sd] s 0 0 (hA N0)) (F0 m 3 ls []) := by
    intro n
    induction n with
    | zero => intro i  H locs ls h1 h2; exact absurd h2 (by omega)
    | succ n ih =>
      intro i  H locs ls hi hin hI hV hS hl
      refine lv_iload hx hb d_Mo_overlaps_3 (lv_at hl 7 rfl) ?_
      refine lv_aload_n hx hb d_Mo_overlaps_5 rfl (lv_at hl 0 rfl) ?_
      refine gf_Mo_7 hx hb hW hown hG hV hm_1 d_Mo_overlaps_6 ?_
      refine lv_iconst (v := 2) hx hb d_Mo_overlaps_9 (by decide) ?_
      refine hv_iald hx hb hG.K hV 0 hm_1_0 rfl ((vp_in_nI (by omega) (by omega) : vp_in (nI 2) 8)) d_Mo_overlaps_10 ?_
      rw [show (2 : Int32).toNatClampNeg = 2 from rfl]
      refine W.eq (g2 := F0 m 11 ls [.int (nI n2), .int (nI i)]) (by rw [en2]) ?_
      refine lv_icmp_ge (tgt := 96) hx hb d_Mo_overlaps_11 (by decide) (fun c_3 => ?_) (fun c_3 => ?_)
      · have hge : n2 ≤ i := nI_le' c_3 (by omega) (by omega)
        refine lv_iconst (v := 0) hx hb d_Mo_overlaps_96 (by decide) ?_
        try simp only [bI_ne0, bI_eq0, decide_eq_true_eq, decide_eq_false_iff_not, Bool.not_eq_false, Bool.not_eq_true, Decidable.not_not] at c_3
        exact W.zret (v := 0) hx hb hr rfl (fun t9 ht hW => ⟨⟨0, V, rfl, ⟨by rw [← hPb, hI, anyF_end hge]; rfl, rfl⟩, mB_of ht hV⟩, hS.F ht⟩) hS.2.2 d_Mo_overlaps_97
      · have hlt : i < n2 := nI_nle' c_3 (by omega) (by omega)
        refine lv_iload hx hb d_Mo_overlaps_14 (lv_at hl 7 rfl) ?_
        refine lv_iload_n hx hb d_Mo_overlaps_16 rfl (lv_at hl 1 rfl) ?_
        refine lv_icmp_eq (tgt := 90) hx hb d_Mo_overlaps_17 (by decide) (fun c_4 => ?_) (fun c_4 => ?_)
        · obtain ⟨i_5, ei_5⟩ : ∃ y : Int32, y = (nI i) + 1 := ⟨_, rfl⟩
          refine lv_iinc (v := i_5) (lv' := [(7, .int i_5), (0, .ref mo), (1, .int pa), (2, .int x), (3, .int y), (4, .int w0), (5, .int h0), (6, .int sd)]) hx hb d_Mo_overlaps_90 hl (k := 7) rfl (by rw [ei_5]; rfl) (by decide) rfl (fun ls hl => ?_)
          refine lv_goto (tgt := 3) hx hb d_Mo_overlaps_93 (by decide) ?_
          rw [nI_1] at ei_5
          subst ei_5
          try simp only [bI_ne0, bI_eq0, decide_eq_true_eq, decide_eq_false_iff_not, Bool.not_eq_false, Bool.not_eq_true, Decidable.not_not] at c_3
          try simp only [bI_ne0, bI_eq0, decide_eq_true_eq, decide_eq_false_iff_not, Bool.not_eq_false, Bool.not_eq_true, Decidable.not_not] at c_4
          have hPi : Pb i = false := by subst hPb; first | (simp [moOvP, c_4]; done) | (simp_all [moOvP]; done)
          exact ih (i + 1)  _ _ _ (by omega) (by omega) (by rw [hI, anyF_step hlt, hPi, Bool.false_or]) hV hS (lv_sub hl [1, 2, 3, 4, 5, 6, 7, 0] rfl)
        · refine lv_aload_n hx hb d_Mo_overlaps_20 rfl (lv_at hl 0 rfl) ?_
          refine gf_Mo_13 hx hb hW hown hG hV hm_1 d_Mo_overlaps_21 ?_
          refine lv_iload hx hb d_Mo_overlaps_24 (lv_at hl 7 rfl) ?_
          refine hv_zald hx hb hG.K hV 2 hm_1_1 rfl (vp_in_nI (by omega) (by omega)) d_Mo_overlaps_26 ?_
          rw [nI_clamp (by omega)]
          refine lv_if_eq (tgt := 90) hx hb d_Mo_overlaps_27 (by decide) (fun c_6 => ?_) (fun c_6 => ?_)
          · obtain ⟨i_7, ei_7⟩ : ∃ y : Int32, y = (nI i) + 1 := ⟨_, rfl⟩
            refine lv_iinc (v := i_7) (lv' := [(7, .int i_7), (0, .ref mo), (1, .int pa), (2, .int x), (3, .int y), (4, .int w0), (5, .int h0), (6, .int sd)]) hx hb d_Mo_overlaps_90 hl (k := 7) rfl (by rw [ei_7]; rfl) (by decide) rfl (fun ls hl => ?_)
            refine lv_goto (tgt := 3) hx hb d_Mo_overlaps_93 (by decide) ?_
            rw [nI_1] at ei_7
            subst ei_7
            try simp only [bI_ne0, bI_eq0, decide_eq_true_eq, decide_eq_false_iff_not, Bool.not_eq_false, Bool.not_eq_true, Decidable.not_not] at c_3
            try simp only [bI_ne0, bI_eq0, decide_eq_true_eq, decide_eq_false_iff_not, Bool.not_eq_false, Bool.not_eq_true, Decidable.not_not] at c_4
            try simp only [bI_ne0, bI_eq0, decide_eq_true_eq, decide_eq_false_iff_not, Bool.not_eq_false, Bool.not_eq_true, Decidable.not_not] at c_6
            have hPi : Pb i = false := by subst hPb; first | (simp [moOvP, c_4, c_6]; done) | (simp_all [moOvP]; done)
            exact ih (i + 1)  _ _ _ (by omega) (by omega) (by rw [hI, anyF_step hlt, hPi, Bool.false_or]) hV hS (lv_sub hl [1, 2, 3, 4, 5, 6, 7, 0] rfl)
          · refine lv_aload_n hx hb d_Mo_overlaps_30 rfl (lv_at hl 0 rfl) ?_
            refine gf_Mo_29 hx hb hW hown hG hV hm_1 d_Mo_overlaps_31 ?_
            refine lv_iload hx hb d_Mo_overlaps_34 (lv_at hl 7 rfl) ?_
            refine hv_iald hx hb hG.K hV 0 hm_1_6 rfl (vp_in_nI (by omega) (by omega)) d_Mo_overlaps_36 ?_
            rw [nI_clamp (by omega)]
            refine lv_iload hx hb d_Mo_overlaps_37 (lv_at hl 6 rfl) ?_
            refine lv_icmp_ne (tgt := 90) hx hb d_Mo_overlaps_39 (by decide) (fun c_8 => ?_) (fun c_8 => ?_)
            · obtain ⟨i_9, ei_9⟩ : ∃ y : Int32, y = (nI i) + 1 := ⟨_, rfl⟩
              refine lv_iinc (v := i_9) (lv' := [(7, .int i_9), (0, .ref mo), (1, .int pa), (2, .int x), (3, .int y), (4, .int w0), (5, .int h0), (6, .int sd)]) hx hb d_Mo_overlaps_90 hl (k := 7) rfl (by rw [ei_9]; rfl) (by decide) rfl (fun ls hl => ?_)
              refine lv_goto (tgt := 3) hx hb d_Mo_overlaps_93 (by decide) ?_
              rw [nI_1] at ei_9
              subst ei_9
              try simp only [bI_ne0, bI_eq0, decide_eq_true_eq, decide_eq_false_iff_not, Bool.not_eq_false, Bool.not_eq_true, Decidable.not_not] at c_3
              try simp only [bI_ne0, bI_eq0, decide_eq_true_eq, decide_eq_false_iff_not, Bool.not_eq_false, Bool.not_eq_true, Decidable.not_not] at c_4
              try simp only [bI_ne0, bI_eq0, decide_eq_true_eq, decide_eq_false_iff_not, Bool.not_eq_false, Bool.not_eq_true, Decidable.not_not] at c_6
              try simp only [bI_ne0, bI_eq0, decide_eq_true_eq, decide_eq_false_iff_not, Bool.not_eq_false, Bool.not_eq_true, Decidable.not_not] at c_8
              have hPi : Pb i = false := by subst hPb; first | (simp [moOvP, c_4, c_6, c_8]; done) | (simp_all [moOvP]; done)
              exact ih (i + 1)  _ _ _ (by omega) (by omega) (by rw [hI, anyF_step hlt, hPi, Bool.false_or]) hV hS (lv_sub hl [1, 2, 3, 4, 5, 6, 7, 0] rfl)
            · refine lv_iload_n hx hb d_Mo_overlaps_42 rfl (lv_at hl 2 rfl) ?_
              refine lv_iload hx hb d_Mo_overlaps_43 (lv_at hl 4 rfl) ?_
              refine lv_aload_n hx hb d_Mo_overlaps_45 rfl (lv_at hl 0 rfl) ?_
              refine gf_Mo_17 hx hb hW hown hG hV hm_1 d_Mo_overlaps_46 ?_
              refine lv_iload hx hb d_Mo_overlaps_49 (lv_at hl 7 rfl) ?_
              refine hv_iald hx hb hG.K hV 0 hm_1_2 rfl (vp_in_nI (by omega) (by omega)) d_Mo_overlaps_51 ?_
              rw [nI_clamp (by omega)]
              refine lv_aload_n hx hb d_Mo_overlaps_52 rfl (lv_at hl 0 rfl) ?_
              refine gf_Mo_23 hx hb hW hown hG hV hm_1 d_Mo_overlaps_53 ?_
              refine lv_iload hx hb d_Mo_overlaps_56 (lv_at hl 7 rfl) ?_
              refine hv_iald hx hb hG.K hV 0 hm_1_4 rfl (vp_in_nI (by omega) (by omega)) d_Mo_overlaps_58 ?_
              rw [nI_clamp (by omega)]
              refine rc_i (va_runS (As := [.int x, .int w0, .int ((ρ.I 2) i), .int ((ρ.I 4) i)]) (rest := []) ⟨hx, hb, hml, hown, hts⟩ (c_Mo_apart l D N0 k V x w0 ((ρ.I 2) i) ((ρ.I 4) i)) (va_cwS 4 hts (gi_S wm_Mo_129 wt_Mo_apart wi_Mo wc_Mo_apart) rfl rfl rfl (by decide +kernel) ⟨Nat.le_of_ble_eq_true rfl, Nat.le_of_ble_eq_true rfl⟩) (mP.preS hG hS hV) rfl rfl hl.1 rfl (lv_room (Nat.le_of_ble_eq_true rfl)) d_Mo_overlaps_59 ⟨Nat.le_of_ble_eq_true rfl, Nat.le_of_ble_eq_true rfl⟩) hS (fun H locs hV hS => ?_)
              refine lv_if_ne (tgt := 90) hx hb d_Mo_overlaps_62 (by decide) (fun c_10 => ?_) (fun c_10 => ?_)
              · obtain ⟨i_11, ei_11⟩ : ∃ y : Int32, y = (nI i) + 1 := ⟨_, rfl⟩
                refine lv_iinc (v := i_11) (lv' := [(7, .int i_11), (0, .ref mo), (1, .int pa), (2, .int x), (3, .int y), (4, .int w0), (5, .int h0), (6, .int sd)]) hx hb d_Mo_overlaps_90 hl (k := 7) rfl (by rw [ei_11]; rfl) (by decide) rfl (fun ls hl => ?_)
                refine lv_goto (tgt := 3) hx hb d_Mo_overlaps_93 (by decide) ?_
                rw [nI_1] at ei_11
                subst ei_11
                try simp only [bI_ne0, bI_eq0, decide_eq_true_eq, decide_eq_false_iff_not, Bool.not_eq_false, Bool.not_eq_true, Decidable.not_not] at c_3
                try simp only [bI_ne0, bI_eq0, decide_eq_true_eq, decide_eq_false_iff_not, Bool.not_eq_false, Bool.not_eq_true, Decidable.not_not] at c_4
                try simp only [bI_ne0, bI_eq0, decide_eq_true_eq, decide_eq_false_iff_not, Bool.not_eq_false, Bool.not_eq_true, Decidable.not_not] at c_6
                try simp only [bI_ne0, bI_eq0, decide_eq_true_eq, decide_eq_false_iff_not, Bool.not_eq_false, Bool.not_eq_true, Decidable.not_not] at c_8
                try simp only [bI_ne0, bI_eq0, decide_eq_true_eq, decide_eq_false_iff_not, Bool.not_eq_false, Bool.not_eq_true, Decidable.not_not] at c_10
                have hPi : Pb i = false := by subst hPb; first | (simp [moOvP, c_4, c_6, c_8, c_10]; done) | (simp_all [moOvP]; done)
                exact ih (i + 1)  _ _ _ (by omega) (by omega) (by rw [hI, anyF_step hlt, hPi, Bool.false_or]) hV hS (lv_sub hl [1, 2, 3, 4, 5, 6, 7, 0] rfl)
              · refine lv_iload_n hx hb d_Mo_overlaps_65 rfl (lv_at hl 3 rfl) ?_
                refine lv_iload hx hb d_Mo_overlaps_66 (lv_at hl 5 rfl) ?_
                refine lv_aload_n hx hb d_Mo_overlaps_68 rfl (lv_at hl 0 rfl) ?_
                refine gf_Mo_20 hx hb hW hown hG hV hm_1 d_Mo_overlaps_69 ?_
                refine lv_iload hx hb d_Mo_overlaps_72 (lv_at hl 7 rfl) ?_
                refine hv_iald hx hb hG.K hV 0 hm_1_3 rfl (vp_in_nI (by omega) (by omega)) d_Mo_overlaps_74 ?_
                rw [nI_clamp (by omega)]
                refine lv_aload_n hx hb d_Mo_overlaps_75 rfl (lv_at hl 0 rfl) ?_
                refine gf_Mo_26 hx hb hW hown hG hV hm_1 d_Mo_overlaps_76 ?_
                refine lv_iload hx hb d_Mo_overlaps_79 (lv_at hl 7 rfl) ?_
                refine hv_iald hx hb hG.K hV 0 hm_1_5 rfl (vp_in_nI (by omega) (by omega)) d_Mo_overlaps_81 ?_
                rw [nI_clamp (by omega)]
                refine rc_i (va_runS (As := [.int y, .int h0, .int ((ρ.I 3) i), .int ((ρ.I 5) i)]) (rest := []) ⟨hx, hb, hml, hown, hts⟩ (c_Mo_apart l D N0 k V y h0 ((ρ.I 3) i) ((ρ.I 5) i)) (va_cwS 4 hts (gi_S wm_Mo_129 wt_Mo_apart wi_Mo wc_Mo_apart) rfl rfl rfl (by decide +kernel) ⟨Nat.le_of_ble_eq_true rfl, Nat.le_of_ble_eq_true rfl⟩) (mP.preS hG hS hV) rfl rfl hl.1 rfl (lv_room (Nat.le_of_ble_eq_true rfl)) d_Mo_overlaps_82 ⟨Nat.le_of_ble_eq_true rfl, Nat.le_of_ble_eq_true rfl⟩) hS (fun H locs hV hS => ?_)
                refine lv_if_ne (tgt := 90) hx hb d_Mo_overlaps_85 (by decide) (fun c_12 => ?_) (fun c_12 => ?_)
                · obtain ⟨i_13, ei_13⟩ : ∃ y : Int32, y = (nI i) + 1 := ⟨_, rfl⟩
                  refine lv_iinc (v := i_13) (lv' := [(7, .int i_13), (0, .ref mo), (1, .int pa), (2, .int x), (3, .int y), (4, .int w0), (5, .int h0), (6, .int sd)]) hx hb d_Mo_overlaps_90 hl (k := 7) rfl (by rw [ei_13]; rfl) (by decide) rfl (fun ls hl => ?_)
                  refine lv_goto (tgt := 3) hx hb d_Mo_overlaps_93 (by decide) ?_
                  rw [nI_1] at ei_13
                  subst ei_13
                  try simp only [bI_ne0, bI_eq0, decide_eq_true_eq, decide_eq_false_iff_not, Bool.not_eq_false, Bool.not_eq_true, Decidable.not_not] at c_3
                  try simp only [bI_ne0, bI_eq0, decide_eq_true_eq, decide_eq_false_iff_not, Bool.not_eq_false, Bool.not_eq_true, Decidable.not_not] at c_4
                  try simp only [bI_ne0, bI_eq0, decide_eq_true_eq, decide_eq_false_iff_not, Bool.not_eq_false, Bool.not_eq_true, Decidable.not_not] at c_6
                  try simp only [bI_ne0, bI_eq0, decide_eq_true_eq, decide_eq_false_iff_not, Bool.not_eq_false, Bool.not_eq_true, Decidable.not_not] at c_8
                  try simp only [bI_ne0, bI_eq0, decide_eq_true_eq, decide_eq_false_iff_not, Bool.not_eq_false, Bool.not_eq_true, Decidable.not_not] at c_10
                  try simp only [bI_ne0, bI_eq0, decide_eq_true_eq, decide_eq_false_iff_not, Bool.not_eq_false, Bool.not_eq_true, Decidable.not_not] at c_12
                  have hPi : Pb i = false := by subst hPb; first | (simp [moOvP, c_4, c_6, c_8, c_10, c_12]; done) | (simp_all [moOvP]; done)
                  exact ih (i + 1)  _ _ _ (by omega) (by omega) (by rw [hI, anyF_step hlt, hPi, Bool.false_or]) hV hS (lv_sub hl [1, 2, 3, 4, 5, 6, 7, 0] rfl)
                · refine lv_iconst (v := 1) hx hb d_Mo_overlaps_88 (by decide) ?_
                  try simp only [bI_ne0, bI_eq0, decide_eq_true_eq, decide_eq_false_iff_not, Bool.not_eq_false, Bool.not_eq_true, Decidable.not_not] at c_3
                  try simp only [bI_ne0, bI_eq0, decide_eq_true_eq, decide_eq_false_iff_not, Bool.not_eq_false, Bool.not_eq_true, Decidable.not_not] at c_4
                  try simp only [bI_ne0, bI_eq0, decide_eq_true_eq, decide_eq_false_iff_not, Bool.not_eq_false, Bool.not_eq_true, Decidable.not_not] at c_6
                  try simp only [bI_ne0, bI_eq0, decide_eq_true_eq, decide_eq_false_iff_not, Bool.not_eq_false, Bool.not_eq_true, Decidable.not_not] at c_8
                  try simp only [bI_ne0, bI_eq0, decide_eq_true_eq, decide_eq_false_iff_not, Bool.not_eq_false, Bool.not_eq_true, Decidable.not_not] at c_10
                  try simp only [bI_ne0, bI_eq0, decide_eq_true_eq, decide_eq_false_iff_not, Bool.not_eq_false, Bool.not_eq_true, Decidable.not_not] at c_12
                  have hPi : Pb i = true := by subst hPb; first | (simp [moOvP, c_4, c_6, c_8, c_10, c_12]; done) | (simp_all [moOvP]; done)
                  exact W.zret (v := 1) hx hb hr rfl (fun t9 ht hW => ⟨⟨1, V, rfl, ⟨by rw [← hPb, hI, anyF_step hlt, hPi]; rfl, rfl⟩, mB_of ht hV⟩, hS.F ht⟩) hS.2.2 d_Mo_overlaps_89
  exact loop_2 (n2 + 1 - 0) 0  _ _ _ (by omega) (by omega) rfl hV hS (lv_sub hl [1, 2, 3, 4, 5, 6, 7, 0] rfl)
set_option maxHeartbeats 4000000 in
set_option maxRecDepth 100000 in
/-- note -/
theorem c_Mo_note (l : Launch) (D : va_G) (N0 : Nat) (k : Nat → Nat) (V : HV) (mo : Nat) (ad : Nat → Nat) (ρ : MS) (hM : mdOk k V mo ad ρ) (t : Nat) (ht : t < 150) (was : Int32) (hz : was = 0 ∨ was = 1) (hwo : moWo ρ) : Met l y_Mo_note (.code y_Mo_note b_Mo_note 4 none :: WS) ({ frames := 0, cells := 0, slots := 0, locals := 0 }) (mP D N0 k [.ref mo, .int (nI t), .int was] V) (va_Qv (fun V' => mdOk k V' mo ad (moNote ρ t was) ∧ mdFr mo ad V V') (mB D N0) (hA N0)) 0 0 (hA N0) := by
  refine Met.ofW (cc := b_Mo_note) (maxL := 4) (ret := none) (by decide) rfl ?_
  intro p e s m args below meth c s₁ B hml hv0
  obtain ⟨rfl, hG, hV⟩ := hv0
  have hx := B.exec
  have hb := B.bytes
  have hr := B.returns
  have hts := atoms_spec (ws := .code y_Mo_note b_Mo_note 4 none :: WS) B.pre
  have hW : ∀ w ∈ WS, w.before _ s = true := fun w h => hts w (List.mem_cons_of_mem _ h)
  have hown : s.vm.findClass "BoardHouseModel" = some m.cls := findClass_of_methodNamed B.named
  have hlocks := B.notSynchronized
  have hS : va_S (hA N0) s.heap s.heap [] := va_S.rf
  have hl := lv_entry ([.ref mo, .int (nI t), .int was]) (n := 4) (Nat.le_of_ble_eq_true rfl)
  rw [lg_entry_eq]
  generalize (lg_sl ([.ref mo, .int (nI t), .int was]) ++ List.replicate (4 - (lg_sl ([.ref mo, .int (nI t), .int was])).length) Slot.unset).toArray = ls at hl ⊢
  have hl : lv_has ls 4 [(0, .ref mo), (1, .int (nI t)), (2, .int was)] := hl
  have hm_1 : V mo = some (.inr (7, [.int (ρ.s 0), .int (ρ.s 1), .int (ρ.s 2), .int (ρ.s 3), .ref (ad 0), .ref (ad 1), .ref (ad 2), .ref (ad 3), .ref (ad 4), .ref (ad 5), .ref (ad 6), .ref (ad 7), .ref (ad 8), .int (ρ.s 4), .ref (ad 9), .ref (ad 10), .ref (ad 11), .ref (ad 12), .ref (ad 13), .ref (ad 14), .ref (ad 15), .ref (ad 16), .ref (ad 17), .ref (ad 18), .ref (ad 19), .ref (ad 20), .ref (ad 21), .ref (ad 22), .ref (ad 23), .ref (ad 24), .ref (ad 25)])) := hM.1
  have hm_1_2 : V (ad 2) = some (eI k 150 (ρ.I 2)) := hM.a2
  have hm_1_3 : V (ad 3) = some (eI k 150 (ρ.I 3)) := hM.a3
  have hm_1_14 : V (ad 14) = some (eI k 10 (ρ.I 14)) := hM.a14
  have hm_1_15 : V (ad 15) = some (eZ k 1500 (ρ.I 15)) := hM.a15
  have hm_1_16 : V (ad 16) = some (eZ k 1500 (ρ.I 16)) := hM.a16
  have hm_1_17 : V (ad 17) = some (eI k 1500 (ρ.I 17)) := hM.a17
  have hm_1_18 : V (ad 18) = some (eI k 1500 (ρ.I 18)) := hM.a18
  refine lv_aload_n hx hb d_Mo_note_0 rfl (lv_at hl 0 rfl) ?_
  refine gf_Mo_38 hx hb hW hown hG hV hm_1 d_Mo_note_1 ?_
  refine lv_iconst (v := (-1)) hx hb d_Mo_note_4 (by decide) ?_
  refine lv_icmp_ne (tgt := 9) hx hb d_Mo_note_5 (by decide) (fun c_2 => ?_) (fun c_2 => ?_)
  · obtain ⟨jw, hjw, ejw⟩ := (show ρ.s 4 = -1 ∨ ∃ j, j < 10 ∧ ρ.s 4 = nI j from hwo).resolve_left c_2
    have ecl : (ρ.s 4).toNatClampNeg = jw := by rw [ejw, nI_clamp (by omega)]
    refine lv_sipush (v := 150) hx hb d_Mo_note_9 (by decide) ?_
    refine lv_aload_n hx hb d_Mo_note_12 rfl (lv_at hl 0 rfl) ?_
    refine gf_Mo_38 hx hb hW hown hG hV hm_1 d_Mo_note_13 ?_
    refine lv_imul hx hb d_Mo_note_16 ?_
    refine lv_iload_n hx hb d_Mo_note_17 rfl (lv_at hl 1 rfl) ?_
    refine lv_iadd hx hb d_Mo_note_18 ?_
    have hk9 : (150 : Int32) * ρ.s 4 + nI t = nI (150 * jw + t) := by rw [ejw, show (150 : Int32) = nI 150 from rfl, nI_mulN, nI_add]
    rw [hk9]
    refine W.eq (g2 := F0 m 19 ls [.int (nI (150 * jw + t))]) rfl ?_
    refine lv_istore_n (lv' := [(3, .int (nI (150 * jw + t))), (0, .ref mo), (1, .int (nI t)), (2, .int was)]) hx hb d_Mo_note_19 rfl hl (by decide) rfl (fun ls hl => ?_)
    refine lv_aload_n hx hb d_Mo_note_20 rfl (lv_at hl 1 rfl) ?_
    refine gf_Mo_57 hx hb hW hown hG hV hm_1 d_Mo_note_21 ?_
    refine lv_aload_n hx hb d_Mo_note_24 rfl (lv_at hl 1 rfl) ?_
    refine gf_Mo_38 hx hb hW hown hG hV hm_1 d_Mo_note_25 ?_
    refine lv_dup2_11 hx hb d_Mo_note_28 rfl rfl ?_
    refine hv_iald hx hb hG.K hV 0 hm_1_14 rfl (by rw [ejw]; exact vp_in_nI (by omega) (by omega)) d_Mo_note_29 ?_
    rw [ecl]
    refine lv_iconst (v := 1) hx hb d_Mo_note_30 (by decide) ?_
    refine lv_iadd hx hb d_Mo_note_31 ?_
    refine hv_iast hx hb hG.K hV hS 0 hm_1_14 rfl (by rw [ejw]; exact vp_in_nI (by omega) (by omega)) d_Mo_note_32 (fun H locs hV hS => ?_)
    rw [ecl] at hV
    replace hV : hv D vwCl N0 (hu V (ad 14) (eI k 10 (upd (ρ.I 14) jw (((ρ.I 14) jw) + 1)))) H := hV
    generalize hV_V_3 : hu V (ad 14) (eI k 10 (upd (ρ.I 14) jw (((ρ.I 14) jw) + 1))) = V_3 at hV
    have hM_3 : mdOk k V_3 mo ad (ρ.wI 14 (upd (ρ.I 14) jw (((ρ.I 14) jw) + 1))) := by rw [← hV_V_3]; exact md_set hM 14 (by omega) (upd (ρ.I 14) jw (((ρ.I 14) jw) + 1))
    have hR_3 : mdFr mo ad V V_3 := by rw [← hV_V_3]; exact (mdFr.rf (mo := mo) (ad := ad) (V := V)).ar (j := 14) (by omega)
    have hm_4 : V_3 mo = some (.inr (7, [.int (ρ.s 0), .int (ρ.s 1), .int (ρ.s 2), .int (ρ.s 3), .ref (ad 0), .ref (ad 1), .ref (ad 2), .ref (ad 3), .ref (ad 4), .ref (ad 5), .ref (ad 6), .ref (ad 7), .ref (ad 8), .int (ρ.s 4), .ref (ad 9), .ref (ad 10), .ref (ad 11), .ref (ad 12), .ref (ad 13), .ref (ad 14), .ref (ad 15), .ref (ad 16), .ref (ad 17), .ref (ad 18), .ref (ad 19), .ref (ad 20), .ref (ad 21), .ref (ad 22), .ref (ad 23), .ref (ad 24), .ref (ad 25)])) := hM_3.1
    have hm_4_2 : V_3 (ad 2) = some (eI k 150 (ρ.I 2)) := hM_3.a2
    have hm_4_3 : V_3 (ad 3) = some (eI k 150 (ρ.I 3)) := hM_3.a3
    have hm_4_14 : V_3 (ad 14) = some (eI k 10 (upd (ρ.I 14) jw (((ρ.I 14) jw) + 1))) := hM_3.a14
    have hm_4_15 : V_3 (ad 15) = some (eZ k 1500 (ρ.I 15)) := hM_3.a15
    have hm_4_16 : V_3 (ad 16) = some (eZ k 1500 (ρ.I 16)) := hM_3.a16
    have hm_4_17 : V_3 (ad 17) = some (eI k 1500 (ρ.I 17)) := hM_3.a17
    have hm_4_18 : V_3 (ad 18) = some (eI k 1500 (ρ.I 18)) := hM_3.a18
    refine lv_aload_n hx hb d_Mo_note_33 rfl (lv_at hl 1 rfl) ?_
    refine gf_Mo_60 hx hb hW hown hG hV hm_4 d_Mo_note_34 ?_
    refine lv_iload_n hx hb d_Mo_note_37 rfl (lv_at hl 0 rfl) ?_
    refine hv_zald hx hb hG.K hV 2 hm_4_15 rfl (vp_in_nI (by omega) (by omega)) d_Mo_note_38 ?_
    rw [nI_clamp (by omega)]
    refine lv_if_eq (tgt := 43) hx hb d_Mo_note_39 (by decide) (fun c_5 => ?_) (fun c_5 => ?_)
    · refine lv_aload_n hx hb d_Mo_note_43 rfl (lv_at hl 1 rfl) ?_
      refine gf_Mo_60 hx hb hW hown hG hV hm_4 d_Mo_note_44 ?_
      refine lv_iload_n hx hb d_Mo_note_47 rfl (lv_at hl 0 rfl) ?_
      refine lv_iconst (v := 1) hx hb d_Mo_note_48 (by decide) ?_
      refine hv_zast hx hb hG.K hV hS 2 hm_4_15 rfl (by decide) (vp_in_nI (by omega) (by omega)) d_Mo_note_49 (fun H locs hV hS => ?_)
      rw [nI_clamp (by omega)] at hV
      replace hV : hv D vwCl N0 (hu V_3 (ad 15) (eZ k 1500 (upd (ρ.I 15) (150 * jw + t) 1))) H := hV
      generalize hV_V_6 : hu V_3 (ad 15) (eZ k 1500 (upd (ρ.I 15) (150 * jw + t) 1)) = V_6 at hV
      have hM_6 : mdOk k V_6 mo ad ((ρ.wI 14 (upd (ρ.I 14) jw (((ρ.I 14) jw) + 1))).wI 15 (upd (ρ.I 15) (150 * jw + t) 1)) := by rw [← hV_V_6]; exact md_set hM_3 15 (by omega) (upd (ρ.I 15) (150 * jw + t) 1)
      have hR_6 : mdFr mo ad V V_6 := by rw [← hV_V_6]; exact hR_3.ar (j := 15) (by omega)
      have hm_7 : V_6 mo = some (.inr (7, [.int (ρ.s 0), .int (ρ.s 1), .int (ρ.s 2), .int (ρ.s 3), .ref (ad 0), .ref (ad 1), .ref (ad 2), .ref (ad 3), .ref (ad 4), .ref (ad 5), .ref (ad 6), .ref (ad 7), .ref (ad 8), .int (ρ.s 4), .ref (ad 9), .ref (ad 10), .ref (ad 11), .ref (ad 12), .ref (ad 13), .ref (ad 14), .ref (ad 15), .ref (ad 16), .ref (ad 17), .ref (ad 18), .ref (ad 19), .ref (ad 20), .ref (ad 21), .ref (ad 22), .ref (ad 23), .ref (ad 24), .ref (ad 25)])) := hM_6.1
      have hm_7_2 : V_6 (ad 2) = some (eI k 150 (ρ.I 2)) := hM_6.a2
      have hm_7_3 : V_6 (ad 3) = some (eI k 150 (ρ.I 3)) := hM_6.a3
      have hm_7_14 : V_6 (ad 14) = some (eI k 10 (upd (ρ.I 14) jw (((ρ.I 14) jw) + 1))) := hM_6.a14
      have hm_7_15 : V_6 (ad 15) = some (eZ k 1500 (upd (ρ.I 15) (150 * jw + t) 1)) := hM_6.a15
      have hm_7_16 : V_6 (ad 16) = some (eZ k 1500 (ρ.I 16)) := hM_6.a16
      have hm_7_17 : V_6 (ad 17) = some (eI k 1500 (ρ.I 17)) := hM_6.a17
      have hm_7_18 : V_6 (ad 18) = some (eI k 1500 (ρ.I 18)) := hM_6.a18
      refine lv_aload_n hx hb d_Mo_note_50 rfl (lv_at hl 1 rfl) ?_
      refine gf_Mo_63 hx hb hW hown hG hV hm_7 d_Mo_note_51 ?_
      refine lv_iload_n hx hb d_Mo_note_54 rfl (lv_at hl 0 rfl) ?_
      refine lv_iload_n hx hb d_Mo_note_55 rfl (lv_at hl 3 rfl) ?_
      refine hv_zast hx hb hG.K hV hS 2 hm_7_16 rfl (hz) (vp_in_nI (by omega) (by omega)) d_Mo_note_56 (fun H locs hV hS => ?_)
      rw [nI_clamp (by omega)] at hV
      replace hV : hv D vwCl N0 (hu V_6 (ad 16) (eZ k 1500 (upd (ρ.I 16) (150 * jw + t) was))) H := hV
      generalize hV_V_8 : hu V_6 (ad 16) (eZ k 1500 (upd (ρ.I 16) (150 * jw + t) was)) = V_8 at hV
      have hM_8 : mdOk k V_8 mo ad (((ρ.wI 14 (upd (ρ.I 14) jw (((ρ.I 14) jw) + 1))).wI 15 (upd (ρ.I 15) (150 * jw + t) 1)).wI 16 (upd (ρ.I 16) (150 * jw + t) was)) := by rw [← hV_V_8]; exact md_set hM_6 16 (by omega) (upd (ρ.I 16) (150 * jw + t) was)
      have hR_8 : mdFr mo ad V V_8 := by rw [← hV_V_8]; exact hR_6.ar (j := 16) (by omega)
      have hm_9 : V_8 mo = some (.inr (7, [.int (ρ.s 0), .int (ρ.s 1), .int (ρ.s 2), .int (ρ.s 3), .ref (ad 0), .ref (ad 1), .ref (ad 2), .ref (ad 3), .ref (ad 4), .ref (ad 5), .ref (ad 6), .ref (ad 7), .ref (ad 8), .int (ρ.s 4), .ref (ad 9), .ref (ad 10), .ref (ad 11), .ref (ad 12), .ref (ad 13), .ref (ad 14), .ref (ad 15), .ref (ad 16), .ref (ad 17), .ref (ad 18), .ref (ad 19), .ref (ad 20), .ref (ad 21), .ref (ad 22), .ref (ad 23), .ref (ad 24), .ref (ad 25)])) := hM_8.1
      have hm_9_2 : V_8 (ad 2) = some (eI k 150 (ρ.I 2)) := hM_8.a2
      have hm_9_3 : V_8 (ad 3) = some (eI k 150 (ρ.I 3)) := hM_8.a3
      have hm_9_14 : V_8 (ad 14) = some (eI k 10 (upd (ρ.I 14) jw (((ρ.I 14) jw) + 1))) := hM_8.a14
      have hm_9_15 : V_8 (ad 15) = some (eZ k 1500 (upd (ρ.I 15) (150 * jw + t) 1)) := hM_8.a15
      have hm_9_16 : V_8 (ad 16) = some (eZ k 1500 (upd (ρ.I 16) (150 * jw + t) was)) := hM_8.a16
      have hm_9_17 : V_8 (ad 17) = some (eI k 1500 (ρ.I 17)) := hM_8.a17
      have hm_9_18 : V_8 (ad 18) = some (eI k 1500 (ρ.I 18)) := hM_8.a18
      refine lv_aload_n hx hb d_Mo_note_57 rfl (lv_at hl 1 rfl) ?_
      refine gf_Mo_66 hx hb hW hown hG hV hm_9 d_Mo_note_58 ?_
      refine lv_iload_n hx hb d_Mo_note_61 rfl (lv_at hl 0 rfl) ?_
      refine lv_aload_n hx hb d_Mo_note_62 rfl (lv_at hl 1 rfl) ?_
      refine gf_Mo_17 hx hb hW hown hG hV hm_9 d_Mo_note_63 ?_
      refine lv_iload_n hx hb d_Mo_note_66 rfl (lv_at hl 2 rfl) ?_
      refine hv_iald hx hb hG.K hV 0 hm_9_2 rfl (vp_in_nI (by omega) (by omega)) d_Mo_note_67 ?_
      rw [nI_clamp (by omega)]
      refine hv_iast hx hb hG.K hV hS 0 hm_9_17 rfl (vp_in_nI (by omega) (by omega)) d_Mo_note_68 (fun H locs hV hS => ?_)
      rw [nI_clamp (by omega)] at hV
      replace hV : hv D vwCl N0 (hu V_8 (ad 17) (eI k 1500 (upd (ρ.I 17) (150 * jw + t) ((ρ.I 2) t)))) H := hV
      generalize hV_V_10 : hu V_8 (ad 17) (eI k 1500 (upd (ρ.I 17) (150 * jw + t) ((ρ.I 2) t))) = V_10 at hV
      have hM_10 : mdOk k V_10 mo ad ((((ρ.wI 14 (upd (ρ.I 14) jw (((ρ.I 14) jw) + 1))).wI 15 (upd (ρ.I 15) (150 * jw + t) 1)).wI 16 (upd (ρ.I 16) (150 * jw + t) was)).wI 17 (upd (ρ.I 17) (150 * jw + t) ((ρ.I 2) t))) := by rw [← hV_V_10]; exact md_set hM_8 17 (by omega) (upd (ρ.I 17) (150 * jw + t) ((ρ.I 2) t))
      have hR_10 : mdFr mo ad V V_10 := by rw [← hV_V_10]; exact hR_8.ar (j := 17) (by omega)
      have hm_11 : V_10 mo = some (.inr (7, [.int (ρ.s 0), .int (ρ.s 1), .int (ρ.s 2), .int (ρ.s 3), .ref (ad 0), .ref (ad 1), .ref (ad 2), .ref (ad 3), .ref (ad 4), .ref (ad 5), .ref (ad 6), .ref (ad 7), .ref (ad 8), .int (ρ.s 4), .ref (ad 9), .ref (ad 10), .ref (ad 11), .ref (ad 12), .ref (ad 13), .ref (ad 14), .ref (ad 15), .ref (ad 16), .ref (ad 17), .ref (ad 18), .ref (ad 19), .ref (ad 20), .ref (ad 21), .ref (ad 22), .ref (ad 23), .ref (ad 24), .ref (ad 25)])) := hM_10.1
      have hm_11_2 : V_10 (ad 2) = some (eI k 150 (ρ.I 2)) := hM_10.a2
      have hm_11_3 : V_10 (ad 3) = some (eI k 150 (ρ.I 3)) := hM_10.a3
      have hm_11_14 : V_10 (ad 14) = some (eI k 10 (upd (ρ.I 14) jw (((ρ.I 14) jw) + 1))) := hM_10.a14
      have hm_11_15 : V_10 (ad 15) = some (eZ k 1500 (upd (ρ.I 15) (150 * jw + t) 1)) := hM_10.a15
      have hm_11_16 : V_10 (ad 16) = some (eZ k 1500 (upd (ρ.I 16) (150 * jw + t) was)) := hM_10.a16
      have hm_11_17 : V_10 (ad 17) = some (eI k 1500 (upd (ρ.I 17) (150 * jw + t) ((ρ.I 2) t))) := hM_10.a17
      have hm_11_18 : V_10 (ad 18) = some (eI k 1500 (ρ.I 18)) := hM_10.a18
      refine lv_aload_n hx hb d_Mo_note_69 rfl (lv_at hl 1 rfl) ?_
      refine gf_Mo_69 hx hb hW hown hG hV hm_11 d_Mo_note_70 ?_
      refine lv_iload_n hx hb d_Mo_note_73 rfl (lv_at hl 0 rfl) ?_
      refine lv_aload_n hx hb d_Mo_note_74 rfl (lv_at hl 1 rfl) ?_
      refine gf_Mo_20 hx hb hW hown hG hV hm_11 d_Mo_note_75 ?_
      refine lv_iload_n hx hb d_Mo_note_78 rfl (lv_at hl 2 rfl) ?_
      refine hv_iald hx hb hG.K hV 0 hm_11_3 rfl (vp_in_nI (by omega) (by omega)) d_Mo_note_79 ?_
      rw [nI_clamp (by omega)]
      refine hv_iast hx hb hG.K hV hS 0 hm_11_18 rfl (vp_in_nI (by omega) (by omega)) d_Mo_note_80 (fun H locs hV hS => ?_)
      rw [nI_clamp (by omega)] at hV
      replace hV : hv D vwCl N0 (hu V_10 (ad 18) (eI k 1500 (upd (ρ.I 18) (150 * jw + t) ((ρ.I 3) t)))) H := hV
      generalize hV_V_12 : hu V_10 (ad 18) (eI k 1500 (upd (ρ.I 18) (150 * jw + t) ((ρ.I 3) t))) = V_12 at hV
      have hM_12 : mdOk k V_12 mo ad (((((ρ.wI 14 (upd (ρ.I 14) jw (((ρ.I 14) jw) + 1))).wI 15 (upd (ρ.I 15) (150 * jw + t) 1)).wI 16 (upd (ρ.I 16) (150 * jw + t) was)).wI 17 (upd (ρ.I 17) (150 * jw + t) ((ρ.I 2) t))).wI 18 (upd (ρ.I 18) (150 * jw + t) ((ρ.I 3) t))) := by rw [← hV_V_12]; exact md_set hM_10 18 (by omega) (upd (ρ.I 18) (150 * jw + t) ((ρ.I 3) t))
      have hR_12 : mdFr mo ad V V_12 := by rw [← hV_V_12]; exact hR_10.ar (j := 18) (by omega)
      have hm_13 : V_12 mo = some (.inr (7, [.int (ρ.s 0), .int (ρ.s 1), .int (ρ.s 2), .int (ρ.s 3), .ref (ad 0), .ref (ad 1), .ref (ad 2), .ref (ad 3), .ref (ad 4), .ref (ad 5), .ref (ad 6), .ref (ad 7), .ref (ad 8), .int (ρ.s 4), .ref (ad 9), .ref (ad 10), .ref (ad 11), .ref (ad 12), .ref (ad 13), .ref (ad 14), .ref (ad 15), .ref (ad 16), .ref (ad 17), .ref (ad 18), .ref (ad 19), .ref (ad 20), .ref (ad 21), .ref (ad 22), .ref (ad 23), .ref (ad 24), .ref (ad 25)])) := hM_12.1
      have hm_13_2 : V_12 (ad 2) = some (eI k 150 (ρ.I 2)) := hM_12.a2
      have hm_13_3 : V_12 (ad 3) = some (eI k 150 (ρ.I 3)) := hM_12.a3
      have hm_13_14 : V_12 (ad 14) = some (eI k 10 (upd (ρ.I 14) jw (((ρ.I 14) jw) + 1))) := hM_12.a14
      have hm_13_15 : V_12 (ad 15) = some (eZ k 1500 (upd (ρ.I 15) (150 * jw + t) 1)) := hM_12.a15
      have hm_13_16 : V_12 (ad 16) = some (eZ k 1500 (upd (ρ.I 16) (150 * jw + t) was)) := hM_12.a16
      have hm_13_17 : V_12 (ad 17) = some (eI k 1500 (upd (ρ.I 17) (150 * jw + t) ((ρ.I 2) t))) := hM_12.a17
      have hm_13_18 : V_12 (ad 18) = some (eI k 1500 (upd (ρ.I 18) (150 * jw + t) ((ρ.I 3) t))) := hM_12.a18
      try simp only [bI_ne0, bI_eq0, decide_eq_true_eq, decide_eq_false_iff_not, Bool.not_eq_false, Bool.not_eq_true, Decidable.not_not] at c_2
      try simp only [bI_ne0, bI_eq0, decide_eq_true_eq, decide_eq_false_iff_not, Bool.not_eq_false, Bool.not_eq_true, Decidable.not_not] at c_5
      have hfin : moNote ρ t was = (((((ρ.wI 14 (upd (ρ.I 14) jw (((ρ.I 14) jw) + 1))).wI 15 (upd (ρ.I 15) (150 * jw + t) 1)).wI 16 (upd (ρ.I 16) (150 * jw + t) was)).wI 17 (upd (ρ.I 17) (150 * jw + t) ((ρ.I 2) t))).wI 18 (upd (ρ.I 18) (150 * jw + t) ((ρ.I 3) t))) := by first | (simp only [moNote, c_2, c_5, decide_true, decide_false, Bool.true_and, Bool.and_true, Bool.false_and, Bool.and_false, Bool.true_or, Bool.or_true, Bool.false_or, Bool.or_false, Bool.not_true, Bool.not_false, if_true, if_false, Bool.false_eq_true, Bool.true_eq_false, reduceIte, eq_self, ecl]; done) | (simp [moNote, c_2, c_5, ecl]; done) | (simp_all [moNote, ecl]; done)
      exact W.vret hx hb hr (fun t9 ht hW => ⟨⟨V_12, rfl, ⟨by rw [hfin]; exact hM_12, hR_12⟩, mB_of ht hV⟩, hS.F ht⟩) hS.2.2 d_Mo_note_81
    · try simp only [bI_ne0, bI_eq0, decide_eq_true_eq, decide_eq_false_iff_not, Bool.not_eq_false, Bool.not_eq_true, Decidable.not_not] at c_2
      try simp only [bI_ne0, bI_eq0, decide_eq_true_eq, decide_eq_false_iff_not, Bool.not_eq_false, Bool.not_eq_true, Decidable.not_not] at c_5
      have hfin : moNote ρ t was = (ρ.wI 14 (upd (ρ.I 14) jw (((ρ.I 14) jw) + 1))) := by first | (simp only [moNote, c_2, c_5, decide_true, decide_false, Bool.true_and, Bool.and_true, Bool.false_and, Bool.and_false, Bool.true_or, Bool.or_true, Bool.false_or, Bool.or_false, Bool.not_true, Bool.not_false, if_true, if_false, Bool.false_eq_true, Bool.true_eq_false, reduceIte, eq_self, ecl]; done) | (simp [moNote, c_2, c_5, ecl]; done) | (simp_all [moNote, ecl]; done)
      exact W.vret hx hb hr (fun t9 ht hW => ⟨⟨V_3, rfl, ⟨by rw [hfin]; exact hM_3, hR_3⟩, mB_of ht hV⟩, hS.F ht⟩) hS.2.2 d_Mo_note_42
  · try simp only [bI_ne0, bI_eq0, decide_eq_true_eq, decide_eq_false_iff_not, Bool.not_eq_false, Bool.not_eq_true, Decidable.not_not] at c_2
    have hfin : moNote ρ t was = ρ := by first | (simp only [moNote, c_2, decide_true, decide_false, Bool.true_and, Bool.and_true, Bool.false_and, Bool.and_false, Bool.true_or, Bool.or_true, Bool.false_or, Bool.or_false, Bool.not_true, Bool.not_false, if_true, if_false, Bool.false_eq_true, Bool.true_eq_false, reduceIte, eq_self]; done) | (simp [moNote, c_2]; done) | (simp_all [moNote]; done)
    exact W.vret hx hb hr (fun t9 ht hW => ⟨⟨V, rfl, ⟨by rw [hfin]; exact hM, mdFr.rf (mo := mo) (ad := ad) (V := V)⟩, mB_of ht hV⟩, hS.F ht⟩) hS.2.2 d_Mo_note_8
set_option maxHeartbeats 4000000 in
set_option maxRecDepth 100000 in
/-- layNext -/
theorem c_Mo_layNext (l : Launch) (D : va_G) (N0 : Nat) (k : Nat → Nat) (V : HV) (mo : Nat) (ad : Nat → Nat) (ρ : MS) (hM : mdOk k V mo ad ρ) (ne la x y w0 h0 : Int32) (K n0 : Nat) (hK2 : 2 ≤ K) (hK5 : K ≤ 5) (en0 : ρ.I 0 K = nI n0) (hn0 : n0 < liN K) : Met l y_Mo_layNext (.code y_Mo_layNext b_Mo_layNext 9 (some .int) :: WS) ({ frames := 1, cells := 0, slots := 0, locals := 20 }) (mP D N0 k [.ref mo, .int (nI K), .int ne, .int la, .int x, .int y, .int w0, .int h0] V) (va_Qi (fun r V' => mdOk k V' mo ad (moLayS ρ (fiN K + n0) ne la x y w0 h0) ∧ mdFr mo ad V V' ∧ r = nI (fiN K + n0)) (mB D N0) (hA N0)) 0 0 (hA N0) := by
  refine Met.ofW (cc := b_Mo_layNext) (maxL := 9) (ret := (some .int)) (by decide) rfl ?_
  intro p e s m args below meth c s₁ B hml hv0
  obtain ⟨rfl, hG, hV⟩ := hv0
  have hx := B.exec
  have hb := B.bytes
  have hr := B.returns
  have hts := atoms_spec (ws := .code y_Mo_layNext b_Mo_layNext 9 (some .int) :: WS) B.pre
  have hW : ∀ w ∈ WS, w.before _ s = true := fun w h => hts w (List.mem_cons_of_mem _ h)
  have hown : s.vm.findClass "BoardHouseModel" = some m.cls := findClass_of_methodNamed B.named
  have hlocks := B.notSynchronized
  have hS : va_S (hA N0) s.heap s.heap [] := va_S.rf
  have hl := lv_entry ([.ref mo, .int (nI K), .int ne, .int la, .int x, .int y, .int w0, .int h0]) (n := 9) (Nat.le_of_ble_eq_true rfl)
  rw [lg_entry_eq]
  generalize (lg_sl ([.ref mo, .int (nI K), .int ne, .int la, .int x, .int y, .int w0, .int h0]) ++ List.replicate (9 - (lg_sl ([.ref mo, .int (nI K), .int ne, .int la, .int x, .int y, .int w0, .int h0])).length) Slot.unset).toArray = ls at hl ⊢
  have hl : lv_has ls 9 [(0, .ref mo), (1, .int (nI K)), (2, .int ne), (3, .int la), (4, .int x), (5, .int y), (6, .int w0), (7, .int h0)] := hl
  have hm_1 : V mo = some (.inr (7, [.int (ρ.s 0), .int (ρ.s 1), .int (ρ.s 2), .int (ρ.s 3), .ref (ad 0), .ref (ad 1), .ref (ad 2), .ref (ad 3), .ref (ad 4), .ref (ad 5), .ref (ad 6), .ref (ad 7), .ref (ad 8), .int (ρ.s 4), .ref (ad 9), .ref (ad 10), .ref (ad 11), .ref (ad 12), .ref (ad 13), .ref (ad 14), .ref (ad 15), .ref (ad 16), .ref (ad 17), .ref (ad 18), .ref (ad 19), .ref (ad 20), .ref (ad 21), .ref (ad 22), .ref (ad 23), .ref (ad 24), .ref (ad 25)])) := hM.1
  have hm_1_0 : V (ad 0) = some (eI k 8 (ρ.I 0)) := hM.a0
  have hm_1_2 : V (ad 2) = some (eI k 150 (ρ.I 2)) := hM.a2
  have hm_1_3 : V (ad 3) = some (eI k 150 (ρ.I 3)) := hM.a3
  have hm_1_4 : V (ad 4) = some (eI k 150 (ρ.I 4)) := hM.a4
  have hm_1_5 : V (ad 5) = some (eI k 150 (ρ.I 5)) := hM.a5
  have hm_1_6 : V (ad 6) = some (eI k 150 (ρ.I 6)) := hM.a6
  have hm_1_7 : V (ad 7) = some (eI k 150 (ρ.I 7)) := hM.a7
  refine lv_iload_n hx hb d_Mo_layNext_0 rfl (lv_at hl 1 rfl) ?_
  refine rc_i (va_runS (As := [.int (nI K)]) (rest := []) ⟨hx, hb, hml, hown, hts⟩ (c_Mo_baseOf l D N0 k V (nI K)) (va_cwS 1 hts (gi_S wm_Mo_107 wt_Mo_baseOf wi_Mo wc_Mo_baseOf) rfl rfl rfl (by decide +kernel) ⟨Nat.le_of_ble_eq_true rfl, Nat.le_of_ble_eq_true rfl⟩) (mP.preS hG hS hV) rfl rfl hl.1 rfl (lv_room (Nat.le_of_ble_eq_true rfl)) d_Mo_layNext_1 ⟨Nat.le_of_ble_eq_true rfl, Nat.le_of_ble_eq_true rfl⟩) hS (fun H locs hV hS => ?_)
  refine lv_aload_n hx hb d_Mo_layNext_4 rfl (lv_at hl 0 rfl) ?_
  refine gf_Mo_7 hx hb hW hown hG hV hm_1 d_Mo_layNext_5 ?_
  refine lv_iload_n hx hb d_Mo_layNext_8 rfl (lv_at hl 1 rfl) ?_
  refine hv_iald hx hb hG.K hV 0 hm_1_0 rfl (vp_in_nI (by omega) (by omega)) d_Mo_layNext_9 ?_
  rw [nI_clamp (by omega)]
  refine lv_iadd hx hb d_Mo_layNext_10 ?_
  obtain ⟨-, -, ht150⟩ := sl_of hK2 hK5 hn0
  have et : moBase (nI K) + ρ.I 0 K = nI (fiN K + n0) := by rw [moBase_n hK2 hK5, en0, nI_add]
  rw [et]
  refine W.eq (g2 := F0 m 11 ls [.int (nI (fiN K + n0))]) rfl ?_
  refine lv_istore (lv' := [(8, .int (nI (fiN K + n0))), (0, .ref mo), (1, .int (nI K)), (2, .int ne), (3, .int la), (4, .int x), (5, .int y), (6, .int w0), (7, .int h0)]) hx hb d_Mo_layNext_11 hl (by decide) rfl (fun ls hl => ?_)
  refine lv_aload_n hx hb d_Mo_layNext_13 rfl (lv_at hl 1 rfl) ?_
  refine gf_Mo_17 hx hb hW hown hG hV hm_1 d_Mo_layNext_14 ?_
  refine lv_iload hx hb d_Mo_layNext_17 (lv_at hl 0 rfl) ?_
  refine lv_iload hx hb d_Mo_layNext_19 (lv_at hl 5 rfl) ?_
  refine hv_iast hx hb hG.K hV hS 0 hm_1_2 rfl (vp_in_nI (by omega) (by omega)) d_Mo_layNext_21 (fun H locs hV hS => ?_)
  rw [nI_clamp (by omega)] at hV
  replace hV : hv D vwCl N0 (hu V (ad 2) (eI k 150 (upd (ρ.I 2) (fiN K + n0) x))) H := hV
  generalize hV_V_2 : hu V (ad 2) (eI k 150 (upd (ρ.I 2) (fiN K + n0) x)) = V_2 at hV
  have hM_2 : mdOk k V_2 mo ad (ρ.wI 2 (upd (ρ.I 2) (fiN K + n0) x)) := by rw [← hV_V_2]; exact md_set hM 2 (by omega) (upd (ρ.I 2) (fiN K + n0) x)
  have hR_2 : mdFr mo ad V V_2 := by rw [← hV_V_2]; exact (mdFr.rf (mo := mo) (ad := ad) (V := V)).ar (j := 2) (by omega)
  have hm_3 : V_2 mo = some (.inr (7, [.int (ρ.s 0), .int (ρ.s 1), .int (ρ.s 2), .int (ρ.s 3), .ref (ad 0), .ref (ad 1), .ref (ad 2), .ref (ad 3), .ref (ad 4), .ref (ad 5), .ref (ad 6), .ref (ad 7), .ref (ad 8), .int (ρ.s 4), .ref (ad 9), .ref (ad 10), .ref (ad 11), .ref (ad 12), .ref (ad 13), .ref (ad 14), .ref (ad 15), .ref (ad 16), .ref (ad 17), .ref (ad 18), .ref (ad 19), .ref (ad 20), .ref (ad 21), .ref (ad 22), .ref (ad 23), .ref (ad 24), .ref (ad 25)])) := hM_2.1
  have hm_3_0 : V_2 (ad 0) = some (eI k 8 (ρ.I 0)) := hM_2.a0
  have hm_3_2 : V_2 (ad 2) = some (eI k 150 (upd (ρ.I 2) (fiN K + n0) x)) := hM_2.a2
  have hm_3_3 : V_2 (ad 3) = some (eI k 150 (ρ.I 3)) := hM_2.a3
  have hm_3_4 : V_2 (ad 4) = some (eI k 150 (ρ.I 4)) := hM_2.a4
  have hm_3_5 : V_2 (ad 5) = some (eI k 150 (ρ.I 5)) := hM_2.a5
  have hm_3_6 : V_2 (ad 6) = some (eI k 150 (ρ.I 6)) := hM_2.a6
  have hm_3_7 : V_2 (ad 7) = some (eI k 150 (ρ.I 7)) := hM_2.a7
  refine lv_aload_n hx hb d_Mo_layNext_22 rfl (lv_at hl 1 rfl) ?_
  refine gf_Mo_20 hx hb hW hown hG hV hm_3 d_Mo_layNext_23 ?_
  refine lv_iload hx hb d_Mo_layNext_26 (lv_at hl 0 rfl) ?_
  refine lv_iload hx hb d_Mo_layNext_28 (lv_at hl 6 rfl) ?_
  refine hv_iast hx hb hG.K hV hS 0 hm_3_3 rfl (vp_in_nI (by omega) (by omega)) d_Mo_layNext_30 (fun H locs hV hS => ?_)
  rw [nI_clamp (by omega)] at hV
  replace hV : hv D vwCl N0 (hu V_2 (ad 3) (eI k 150 (upd (ρ.I 3) (fiN K + n0) y))) H := hV
  generalize hV_V_4 : hu V_2 (ad 3) (eI k 150 (upd (ρ.I 3) (fiN K + n0) y)) = V_4 at hV
  have hM_4 : mdOk k V_4 mo ad ((ρ.wI 2 (upd (ρ.I 2) (fiN K + n0) x)).wI 3 (upd (ρ.I 3) (fiN K + n0) y)) := by rw [← hV_V_4]; exact md_set hM_2 3 (by omega) (upd (ρ.I 3) (fiN K + n0) y)
  have hR_4 : mdFr mo ad V V_4 := by rw [← hV_V_4]; exact hR_2.ar (j := 3) (by omega)
  have hm_5 : V_4 mo = some (.inr (7, [.int (ρ.s 0), .int (ρ.s 1), .int (ρ.s 2), .int (ρ.s 3), .ref (ad 0), .ref (ad 1), .ref (ad 2), .ref (ad 3), .ref (ad 4), .ref (ad 5), .ref (ad 6), .ref (ad 7), .ref (ad 8), .int (ρ.s 4), .ref (ad 9), .ref (ad 10), .ref (ad 11), .ref (ad 12), .ref (ad 13), .ref (ad 14), .ref (ad 15), .ref (ad 16), .ref (ad 17), .ref (ad 18), .ref (ad 19), .ref (ad 20), .ref (ad 21), .ref (ad 22), .ref (ad 23), .ref (ad 24), .ref (ad 25)])) := hM_4.1
  have hm_5_0 : V_4 (ad 0) = some (eI k 8 (ρ.I 0)) := hM_4.a0
  have hm_5_2 : V_4 (ad 2) = some (eI k 150 (upd (ρ.I 2) (fiN K + n0) x)) := hM_4.a2
  have hm_5_3 : V_4 (ad 3) = some (eI k 150 (upd (ρ.I 3) (fiN K + n0) y)) := hM_4.a3
  have hm_5_4 : V_4 (ad 4) = some (eI k 150 (ρ.I 4)) := hM_4.a4
  have hm_5_5 : V_4 (ad 5) = some (eI k 150 (ρ.I 5)) := hM_4.a5
  have hm_5_6 : V_4 (ad 6) = some (eI k 150 (ρ.I 6)) := hM_4.a6
  have hm_5_7 : V_4 (ad 7) = some (eI k 150 (ρ.I 7)) := hM_4.a7
  refine lv_aload_n hx hb d_Mo_layNext_31 rfl (lv_at hl 1 rfl) ?_
  refine gf_Mo_23 hx hb hW hown hG hV hm_5 d_Mo_layNext_32 ?_
  refine lv_iload hx hb d_Mo_layNext_35 (lv_at hl 0 rfl) ?_
  refine lv_iload hx hb d_Mo_layNext_37 (lv_at hl 7 rfl) ?_
  refine hv_iast hx hb hG.K hV hS 0 hm_5_4 rfl (vp_in_nI (by omega) (by omega)) d_Mo_layNext_39 (fun H locs hV hS => ?_)
  rw [nI_clamp (by omega)] at hV
  replace hV : hv D vwCl N0 (hu V_4 (ad 4) (eI k 150 (upd (ρ.I 4) (fiN K + n0) w0))) H := hV
  generalize hV_V_6 : hu V_4 (ad 4) (eI k 150 (upd (ρ.I 4) (fiN K + n0) w0)) = V_6 at hV
  have hM_6 : mdOk k V_6 mo ad (((ρ.wI 2 (upd (ρ.I 2) (fiN K + n0) x)).wI 3 (upd (ρ.I 3) (fiN K + n0) y)).wI 4 (upd (ρ.I 4) (fiN K + n0) w0)) := by rw [← hV_V_6]; exact md_set hM_4 4 (by omega) (upd (ρ.I 4) (fiN K + n0) w0)
  have hR_6 : mdFr mo ad V V_6 := by rw [← hV_V_6]; exact hR_4.ar (j := 4) (by omega)
  have hm_7 : V_6 mo = some (.inr (7, [.int (ρ.s 0), .int (ρ.s 1), .int (ρ.s 2), .int (ρ.s 3), .ref (ad 0), .ref (ad 1), .ref (ad 2), .ref (ad 3), .ref (ad 4), .ref (ad 5), .ref (ad 6), .ref (ad 7), .ref (ad 8), .int (ρ.s 4), .ref (ad 9), .ref (ad 10), .ref (ad 11), .ref (ad 12), .ref (ad 13), .ref (ad 14), .ref (ad 15), .ref (ad 16), .ref (ad 17), .ref (ad 18), .ref (ad 19), .ref (ad 20), .ref (ad 21), .ref (ad 22), .ref (ad 23), .ref (ad 24), .ref (ad 25)])) := hM_6.1
  have hm_7_0 : V_6 (ad 0) = some (eI k 8 (ρ.I 0)) := hM_6.a0
  have hm_7_2 : V_6 (ad 2) = some (eI k 150 (upd (ρ.I 2) (fiN K + n0) x)) := hM_6.a2
  have hm_7_3 : V_6 (ad 3) = some (eI k 150 (upd (ρ.I 3) (fiN K + n0) y)) := hM_6.a3
  have hm_7_4 : V_6 (ad 4) = some (eI k 150 (upd (ρ.I 4) (fiN K + n0) w0)) := hM_6.a4
  have hm_7_5 : V_6 (ad 5) = some (eI k 150 (ρ.I 5)) := hM_6.a5
  have hm_7_6 : V_6 (ad 6) = some (eI k 150 (ρ.I 6)) := hM_6.a6
  have hm_7_7 : V_6 (ad 7) = some (eI k 150 (ρ.I 7)) := hM_6.a7
  refine lv_aload_n hx hb d_Mo_layNext_40 rfl (lv_at hl 1 rfl) ?_
  refine gf_Mo_26 hx hb hW hown hG hV hm_7 d_Mo_layNext_41 ?_
  refine lv_iload hx hb d_Mo_layNext_44 (lv_at hl 0 rfl) ?_
  refine lv_iload hx hb d_Mo_layNext_46 (lv_at hl 8 rfl) ?_
  refine hv_iast hx hb hG.K hV hS 0 hm_7_5 rfl (vp_in_nI (by omega) (by omega)) d_Mo_layNext_48 (fun H locs hV hS => ?_)
  rw [nI_clamp (by omega)] at hV
  replace hV : hv D vwCl N0 (hu V_6 (ad 5) (eI k 150 (upd (ρ.I 5) (fiN K + n0) h0))) H := hV
  generalize hV_V_8 : hu V_6 (ad 5) (eI k 150 (upd (ρ.I 5) (fiN K + n0) h0)) = V_8 at hV
  have hM_8 : mdOk k V_8 mo ad ((((ρ.wI 2 (upd (ρ.I 2) (fiN K + n0) x)).wI 3 (upd (ρ.I 3) (fiN K + n0) y)).wI 4 (upd (ρ.I 4) (fiN K + n0) w0)).wI 5 (upd (ρ.I 5) (fiN K + n0) h0)) := by rw [← hV_V_8]; exact md_set hM_6 5 (by omega) (upd (ρ.I 5) (fiN K + n0) h0)
  have hR_8 : mdFr mo ad V V_8 := by rw [← hV_V_8]; exact hR_6.ar (j := 5) (by omega)
  have hm_9 : V_8 mo = some (.inr (7, [.int (ρ.s 0), .int (ρ.s 1), .int (ρ.s 2), .int (ρ.s 3), .ref (ad 0), .ref (ad 1), .ref (ad 2), .ref (ad 3), .ref (ad 4), .ref (ad 5), .ref (ad 6), .ref (ad 7), .ref (ad 8), .int (ρ.s 4), .ref (ad 9), .ref (ad 10), .ref (ad 11), .ref (ad 12), .ref (ad 13), .ref (ad 14), .ref (ad 15), .ref (ad 16), .ref (ad 17), .ref (ad 18), .ref (ad 19), .ref (ad 20), .ref (ad 21), .ref (ad 22), .ref (ad 23), .ref (ad 24), .ref (ad 25)])) := hM_8.1
  have hm_9_0 : V_8 (ad 0) = some (eI k 8 (ρ.I 0)) := hM_8.a0
  have hm_9_2 : V_8 (ad 2) = some (eI k 150 (upd (ρ.I 2) (fiN K + n0) x)) := hM_8.a2
  have hm_9_3 : V_8 (ad 3) = some (eI k 150 (upd (ρ.I 3) (fiN K + n0) y)) := hM_8.a3
  have hm_9_4 : V_8 (ad 4) = some (eI k 150 (upd (ρ.I 4) (fiN K + n0) w0)) := hM_8.a4
  have hm_9_5 : V_8 (ad 5) = some (eI k 150 (upd (ρ.I 5) (fiN K + n0) h0)) := hM_8.a5
  have hm_9_6 : V_8 (ad 6) = some (eI k 150 (ρ.I 6)) := hM_8.a6
  have hm_9_7 : V_8 (ad 7) = some (eI k 150 (ρ.I 7)) := hM_8.a7
  refine lv_aload_n hx hb d_Mo_layNext_49 rfl (lv_at hl 1 rfl) ?_
  refine gf_Mo_29 hx hb hW hown hG hV hm_9 d_Mo_layNext_50 ?_
  refine lv_iload hx hb d_Mo_layNext_53 (lv_at hl 0 rfl) ?_
  refine lv_iload_n hx hb d_Mo_layNext_55 rfl (lv_at hl 4 rfl) ?_
  refine hv_iast hx hb hG.K hV hS 0 hm_9_6 rfl (vp_in_nI (by omega) (by omega)) d_Mo_layNext_56 (fun H locs hV hS => ?_)
  rw [nI_clamp (by omega)] at hV
  replace hV : hv D vwCl N0 (hu V_8 (ad 6) (eI k 150 (upd (ρ.I 6) (fiN K + n0) la))) H := hV
  generalize hV_V_10 : hu V_8 (ad 6) (eI k 150 (upd (ρ.I 6) (fiN K + n0) la)) = V_10 at hV
  have hM_10 : mdOk k V_10 mo ad (((((ρ.wI 2 (upd (ρ.I 2) (fiN K + n0) x)).wI 3 (upd (ρ.I 3) (fiN K + n0) y)).wI 4 (upd (ρ.I 4) (fiN K + n0) w0)).wI 5 (upd (ρ.I 5) (fiN K + n0) h0)).wI 6 (upd (ρ.I 6) (fiN K + n0) la)) := by rw [← hV_V_10]; exact md_set hM_8 6 (by omega) (upd (ρ.I 6) (fiN K + n0) la)
  have hR_10 : mdFr mo ad V V_10 := by rw [← hV_V_10]; exact hR_8.ar (j := 6) (by omega)
  have hm_11 : V_10 mo = some (.inr (7, [.int (ρ.s 0), .int (ρ.s 1), .int (ρ.s 2), .int (ρ.s 3), .ref (ad 0), .ref (ad 1), .ref (ad 2), .ref (ad 3), .ref (ad 4), .ref (ad 5), .ref (ad 6), .ref (ad 7), .ref (ad 8), .int (ρ.s 4), .ref (ad 9), .ref (ad 10), .ref (ad 11), .ref (ad 12), .ref (ad 13), .ref (ad 14), .ref (ad 15), .ref (ad 16), .ref (ad 17), .ref (ad 18), .ref (ad 19), .ref (ad 20), .ref (ad 21), .ref (ad 22), .ref (ad 23), .ref (ad 24), .ref (ad 25)])) := hM_10.1
  have hm_11_0 : V_10 (ad 0) = some (eI k 8 (ρ.I 0)) := hM_10.a0
  have hm_11_2 : V_10 (ad 2) = some (eI k 150 (upd (ρ.I 2) (fiN K + n0) x)) := hM_10.a2
  have hm_11_3 : V_10 (ad 3) = some (eI k 150 (upd (ρ.I 3) (fiN K + n0) y)) := hM_10.a3
  have hm_11_4 : V_10 (ad 4) = some (eI k 150 (upd (ρ.I 4) (fiN K + n0) w0)) := hM_10.a4
  have hm_11_5 : V_10 (ad 5) = some (eI k 150 (upd (ρ.I 5) (fiN K + n0) h0)) := hM_10.a5
  have hm_11_6 : V_10 (ad 6) = some (eI k 150 (upd (ρ.I 6) (fiN K + n0) la)) := hM_10.a6
  have hm_11_7 : V_10 (ad 7) = some (eI k 150 (ρ.I 7)) := hM_10.a7
  refine lv_aload_n hx hb d_Mo_layNext_57 rfl (lv_at hl 1 rfl) ?_
  refine gf_Mo_32 hx hb hW hown hG hV hm_11 d_Mo_layNext_58 ?_
  refine lv_iload hx hb d_Mo_layNext_61 (lv_at hl 0 rfl) ?_
  refine lv_iload_n hx hb d_Mo_layNext_63 rfl (lv_at hl 3 rfl) ?_
  refine hv_iast hx hb hG.K hV hS 0 hm_11_7 rfl (vp_in_nI (by omega) (by omega)) d_Mo_layNext_64 (fun H locs hV hS => ?_)
  rw [nI_clamp (by omega)] at hV
  replace hV : hv D vwCl N0 (hu V_10 (ad 7) (eI k 150 (upd (ρ.I 7) (fiN K + n0) ne))) H := hV
  generalize hV_V_12 : hu V_10 (ad 7) (eI k 150 (upd (ρ.I 7) (fiN K + n0) ne)) = V_12 at hV
  have hM_12 : mdOk k V_12 mo ad ((((((ρ.wI 2 (upd (ρ.I 2) (fiN K + n0) x)).wI 3 (upd (ρ.I 3) (fiN K + n0) y)).wI 4 (upd (ρ.I 4) (fiN K + n0) w0)).wI 5 (upd (ρ.I 5) (fiN K + n0) h0)).wI 6 (upd (ρ.I 6) (fiN K + n0) la)).wI 7 (upd (ρ.I 7) (fiN K + n0) ne)) := by rw [← hV_V_12]; exact md_set hM_10 7 (by omega) (upd (ρ.I 7) (fiN K + n0) ne)
  have hR_12 : mdFr mo ad V V_12 := by rw [← hV_V_12]; exact hR_10.ar (j := 7) (by omega)
  have hm_13 : V_12 mo = some (.inr (7, [.int (ρ.s 0), .int (ρ.s 1), .int (ρ.s 2), .int (ρ.s 3), .ref (ad 0), .ref (ad 1), .ref (ad 2), .ref (ad 3), .ref (ad 4), .ref (ad 5), .ref (ad 6), .ref (ad 7), .ref (ad 8), .int (ρ.s 4), .ref (ad 9), .ref (ad 10), .ref (ad 11), .ref (ad 12), .ref (ad 13), .ref (ad 14), .ref (ad 15), .ref (ad 16), .ref (ad 17), .ref (ad 18), .ref (ad 19), .ref (ad 20), .ref (ad 21), .ref (ad 22), .ref (ad 23), .ref (ad 24), .ref (ad 25)])) := hM_12.1
  have hm_13_0 : V_12 (ad 0) = some (eI k 8 (ρ.I 0)) := hM_12.a0
  have hm_13_2 : V_12 (ad 2) = some (eI k 150 (upd (ρ.I 2) (fiN K + n0) x)) := hM_12.a2
  have hm_13_3 : V_12 (ad 3) = some (eI k 150 (upd (ρ.I 3) (fiN K + n0) y)) := hM_12.a3
  have hm_13_4 : V_12 (ad 4) = some (eI k 150 (upd (ρ.I 4) (fiN K + n0) w0)) := hM_12.a4
  have hm_13_5 : V_12 (ad 5) = some (eI k 150 (upd (ρ.I 5) (fiN K + n0) h0)) := hM_12.a5
  have hm_13_6 : V_12 (ad 6) = some (eI k 150 (upd (ρ.I 6) (fiN K + n0) la)) := hM_12.a6
  have hm_13_7 : V_12 (ad 7) = some (eI k 150 (upd (ρ.I 7) (fiN K + n0) ne)) := hM_12.a7
  refine lv_iload hx hb d_Mo_layNext_65 (lv_at hl 0 rfl) ?_
  exact W.iret (v := (nI (fiN K + n0))) hx hb hr (fun t9 ht hW => ⟨⟨(nI (fiN K + n0)), V_12, rfl, ⟨hM_12, hR_12, rfl⟩, mB_of ht hV⟩, hS.F ht⟩) hS.2.2 d_Mo_layNext_67
set_option maxHeartbeats 4000000 in
set_option maxRecDepth 100000 in
/-- make -/
theorem c_Mo_make (l : Launch) (D : va_G) (N0 : Nat) (k : Nat → Nat) (V : HV) (mo : Nat) (ad : Nat → Nat) (ρ : MS) (hM : mdOk k V mo ad ρ) (ne la x y w0 h0 pa : Int32) (K n0 : Nat) (hK2 : 2 ≤ K) (hK5 : K ≤ 5) (en0 : ρ.I 0 K = nI n0) (hn0 : n0 < liN K) (hwo : moWo ρ) : Met l y_Mo_make (.code y_Mo_make b_Mo_make 10 (some .int) :: WS) ({ frames := 2, cells := 0, slots := 0, locals := 40 }) (mP D N0 k [.ref mo, .int (nI K), .int ne, .int la, .int x, .int y, .int w0, .int h0, .int pa] V) (va_Qi (fun r V' => mdOk k V' mo ad (moMkS ρ K (fiN K + n0) ne la x y w0 h0 pa) ∧ mdFr mo ad V V' ∧ r = moHan (nI (fiN K + n0))) (mB D N0) (hA N0)) 0 0 (hA N0) := by
  refine Met.ofW (cc := b_Mo_make) (maxL := 10) (ret := (some .int)) (by decide) rfl ?_
  intro p e s m args below meth c s₁ B hml hv0
  obtain ⟨rfl, hG, hV⟩ := hv0
  have hx := B.exec
  have hb := B.bytes
  have hr := B.returns
  have hts := atoms_spec (ws := .code y_Mo_make b_Mo_make 10 (some .int) :: WS) B.pre
  have hW : ∀ w ∈ WS, w.before _ s = true := fun w h => hts w (List.mem_cons_of_mem _ h)
  have hown : s.vm.findClass "BoardHouseModel" = some m.cls := findClass_of_methodNamed B.named
  have hlocks := B.notSynchronized
  have hS : va_S (hA N0) s.heap s.heap [] := va_S.rf
  have hl := lv_entry ([.ref mo, .int (nI K), .int ne, .int la, .int x, .int y, .int w0, .int h0, .int pa]) (n := 10) (Nat.le_of_ble_eq_true rfl)
  rw [lg_entry_eq]
  generalize (lg_sl ([.ref mo, .int (nI K), .int ne, .int la, .int x, .int y, .int w0, .int h0, .int pa]) ++ List.replicate (10 - (lg_sl ([.ref mo, .int (nI K), .int ne, .int la, .int x, .int y, .int w0, .int h0, .int pa])).length) Slot.unset).toArray = ls at hl ⊢
  have hl : lv_has ls 10 [(0, .ref mo), (1, .int (nI K)), (2, .int ne), (3, .int la), (4, .int x), (5, .int y), (6, .int w0), (7, .int h0), (8, .int pa)] := hl
  have hm_1 : V mo = some (.inr (7, [.int (ρ.s 0), .int (ρ.s 1), .int (ρ.s 2), .int (ρ.s 3), .ref (ad 0), .ref (ad 1), .ref (ad 2), .ref (ad 3), .ref (ad 4), .ref (ad 5), .ref (ad 6), .ref (ad 7), .ref (ad 8), .int (ρ.s 4), .ref (ad 9), .ref (ad 10), .ref (ad 11), .ref (ad 12), .ref (ad 13), .ref (ad 14), .ref (ad 15), .ref (ad 16), .ref (ad 17), .ref (ad 18), .ref (ad 19), .ref (ad 20), .ref (ad 21), .ref (ad 22), .ref (ad 23), .ref (ad 24), .ref (ad 25)])) := hM.1
  have hm_1_0 : V (ad 0) = some (eI k 8 (ρ.I 0)) := hM.a0
  have hm_1_1 : V (ad 1) = some (eZ k 150 (ρ.I 1)) := hM.a1
  have hm_1_2 : V (ad 2) = some (eI k 150 (ρ.I 2)) := hM.a2
  have hm_1_3 : V (ad 3) = some (eI k 150 (ρ.I 3)) := hM.a3
  have hm_1_4 : V (ad 4) = some (eI k 150 (ρ.I 4)) := hM.a4
  have hm_1_5 : V (ad 5) = some (eI k 150 (ρ.I 5)) := hM.a5
  have hm_1_6 : V (ad 6) = some (eI k 150 (ρ.I 6)) := hM.a6
  have hm_1_7 : V (ad 7) = some (eI k 150 (ρ.I 7)) := hM.a7
  have hm_1_8 : V (ad 8) = some (eI k 150 (ρ.I 8)) := hM.a8
  refine lv_iload_n hx hb d_Mo_make_0 rfl (lv_at hl 1 rfl) ?_
  refine rc_i (va_runS (As := [.int (nI K)]) (rest := []) ⟨hx, hb, hml, hown, hts⟩ (c_Mo_baseOf l D N0 k V (nI K)) (va_cwS 1 hts (gi_S wm_Mo_107 wt_Mo_baseOf wi_Mo wc_Mo_baseOf) rfl rfl rfl (by decide +kernel) ⟨Nat.le_of_ble_eq_true rfl, Nat.le_of_ble_eq_true rfl⟩) (mP.preS hG hS hV) rfl rfl hl.1 rfl (lv_room (Nat.le_of_ble_eq_true rfl)) d_Mo_make_1 ⟨Nat.le_of_ble_eq_true rfl, Nat.le_of_ble_eq_true rfl⟩) hS (fun H locs hV hS => ?_)
  refine lv_aload_n hx hb d_Mo_make_4 rfl (lv_at hl 0 rfl) ?_
  refine gf_Mo_7 hx hb hW hown hG hV hm_1 d_Mo_make_5 ?_
  refine lv_iload_n hx hb d_Mo_make_8 rfl (lv_at hl 1 rfl) ?_
  refine hv_iald hx hb hG.K hV 0 hm_1_0 rfl (vp_in_nI (by omega) (by omega)) d_Mo_make_9 ?_
  rw [nI_clamp (by omega)]
  refine lv_iadd hx hb d_Mo_make_10 ?_
  obtain ⟨-, -, ht150⟩ := sl_of hK2 hK5 hn0
  have et : moBase (nI K) + ρ.I 0 K = nI (fiN K + n0) := by rw [moBase_n hK2 hK5, en0, nI_add]
  rw [et]
  refine W.eq (g2 := F0 m 11 ls [.int (nI (fiN K + n0))]) rfl ?_
  refine lv_istore (lv' := [(9, .int (nI (fiN K + n0))), (0, .ref mo), (1, .int (nI K)), (2, .int ne), (3, .int la), (4, .int x), (5, .int y), (6, .int w0), (7, .int h0), (8, .int pa)]) hx hb d_Mo_make_11 hl (by decide) rfl (fun ls hl => ?_)
  refine lv_aload_n hx hb d_Mo_make_13 rfl (lv_at hl 1 rfl) ?_
  refine gf_Mo_7 hx hb hW hown hG hV hm_1 d_Mo_make_14 ?_
  refine lv_iload_n hx hb d_Mo_make_17 rfl (lv_at hl 2 rfl) ?_
  refine lv_dup2_11 hx hb d_Mo_make_18 rfl rfl ?_
  refine hv_iald hx hb hG.K hV 0 hm_1_0 rfl (vp_in_nI (by omega) (by omega)) d_Mo_make_19 ?_
  rw [nI_clamp (by omega)]
  refine lv_iconst (v := 1) hx hb d_Mo_make_20 (by decide) ?_
  refine lv_iadd hx hb d_Mo_make_21 ?_
  refine hv_iast hx hb hG.K hV hS 0 hm_1_0 rfl (vp_in_nI (by omega) (by omega)) d_Mo_make_22 (fun H locs hV hS => ?_)
  rw [nI_clamp (by omega)] at hV
  replace hV : hv D vwCl N0 (hu V (ad 0) (eI k 8 (upd (ρ.I 0) K (((ρ.I 0) K) + 1)))) H := hV
  generalize hV_V_2 : hu V (ad 0) (eI k 8 (upd (ρ.I 0) K (((ρ.I 0) K) + 1))) = V_2 at hV
  have hM_2 : mdOk k V_2 mo ad (ρ.wI 0 (upd (ρ.I 0) K (((ρ.I 0) K) + 1))) := by rw [← hV_V_2]; exact md_set hM 0 (by omega) (upd (ρ.I 0) K (((ρ.I 0) K) + 1))
  have hR_2 : mdFr mo ad V V_2 := by rw [← hV_V_2]; exact (mdFr.rf (mo := mo) (ad := ad) (V := V)).ar (j := 0) (by omega)
  have hm_3 : V_2 mo = some (.inr (7, [.int (ρ.s 0), .int (ρ.s 1), .int (ρ.s 2), .int (ρ.s 3), .ref (ad 0), .ref (ad 1), .ref (ad 2), .ref (ad 3), .ref (ad 4), .ref (ad 5), .ref (ad 6), .ref (ad 7), .ref (ad 8), .int (ρ.s 4), .ref (ad 9), .ref (ad 10), .ref (ad 11), .ref (ad 12), .ref (ad 13), .ref (ad 14), .ref (ad 15), .ref (ad 16), .ref (ad 17), .ref (ad 18), .ref (ad 19), .ref (ad 20), .ref (ad 21), .ref (ad 22), .ref (ad 23), .ref (ad 24), .ref (ad 25)])) := hM_2.1
  have hm_3_0 : V_2 (ad 0) = some (eI k 8 (upd (ρ.I 0) K (((ρ.I 0) K) + 1))) := hM_2.a0
  have hm_3_1 : V_2 (ad 1) = some (eZ k 150 (ρ.I 1)) := hM_2.a1
  have hm_3_2 : V_2 (ad 2) = some (eI k 150 (ρ.I 2)) := hM_2.a2
  have hm_3_3 : V_2 (ad 3) = some (eI k 150 (ρ.I 3)) := hM_2.a3
  have hm_3_4 : V_2 (ad 4) = some (eI k 150 (ρ.I 4)) := hM_2.a4
  have hm_3_5 : V_2 (ad 5) = some (eI k 150 (ρ.I 5)) := hM_2.a5
  have hm_3_6 : V_2 (ad 6) = some (eI k 150 (ρ.I 6)) := hM_2.a6
  have hm_3_7 : V_2 (ad 7) = some (eI k 150 (ρ.I 7)) := hM_2.a7
  have hm_3_8 : V_2 (ad 8) = some (eI k 150 (ρ.I 8)) := hM_2.a8
  refine lv_aload_n hx hb d_Mo_make_23 rfl (lv_at hl 1 rfl) ?_
  refine gf_Mo_17 hx hb hW hown hG hV hm_3 d_Mo_make_24 ?_
  refine lv_iload hx hb d_Mo_make_27 (lv_at hl 0 rfl) ?_
  refine lv_iload hx hb d_Mo_make_29 (lv_at hl 5 rfl) ?_
  refine hv_iast hx hb hG.K hV hS 0 hm_3_2 rfl (vp_in_nI (by omega) (by omega)) d_Mo_make_31 (fun H locs hV hS => ?_)
  rw [nI_clamp (by omega)] at hV
  replace hV : hv D vwCl N0 (hu V_2 (ad 2) (eI k 150 (upd (ρ.I 2) (fiN K + n0) x))) H := hV
  generalize hV_V_4 : hu V_2 (ad 2) (eI k 150 (upd (ρ.I 2) (fiN K + n0) x)) = V_4 at hV
  have hM_4 : mdOk k V_4 mo ad ((ρ.wI 0 (upd (ρ.I 0) K (((ρ.I 0) K) + 1))).wI 2 (upd (ρ.I 2) (fiN K + n0) x)) := by rw [← hV_V_4]; exact md_set hM_2 2 (by omega) (upd (ρ.I 2) (fiN K + n0) x)
  have hR_4 : mdFr mo ad V V_4 := by rw [← hV_V_4]; exact hR_2.ar (j := 2) (by omega)
  have hm_5 : V_4 mo = some (.inr (7, [.int (ρ.s 0), .int (ρ.s 1), .int (ρ.s 2), .int (ρ.s 3), .ref (ad 0), .ref (ad 1), .ref (ad 2), .ref (ad 3), .ref (ad 4), .ref (ad 5), .ref (ad 6), .ref (ad 7), .ref (ad 8), .int (ρ.s 4), .ref (ad 9), .ref (ad 10), .ref (ad 11), .ref (ad 12), .ref (ad 13), .ref (ad 14), .ref (ad 15), .ref (ad 16), .ref (ad 17), .ref (ad 18), .ref (ad 19), .ref (ad 20), .ref (ad 21), .ref (ad 22), .ref (ad 23), .ref (ad 24), .ref (ad 25)])) := hM_4.1
  have hm_5_0 : V_4 (ad 0) = some (eI k 8 (upd (ρ.I 0) K (((ρ.I 0) K) + 1))) := hM_4.a0
  have hm_5_1 : V_4 (ad 1) = some (eZ k 150 (ρ.I 1)) := hM_4.a1
  have hm_5_2 : V_4 (ad 2) = some (eI k 150 (upd (ρ.I 2) (fiN K + n0) x)) := hM_4.a2
  have hm_5_3 : V_4 (ad 3) = some (eI k 150 (ρ.I 3)) := hM_4.a3
  have hm_5_4 : V_4 (ad 4) = some (eI k 150 (ρ.I 4)) := hM_4.a4
  have hm_5_5 : V_4 (ad 5) = some (eI k 150 (ρ.I 5)) := hM_4.a5
  have hm_5_6 : V_4 (ad 6) = some (eI k 150 (ρ.I 6)) := hM_4.a6
  have hm_5_7 : V_4 (ad 7) = some (eI k 150 (ρ.I 7)) := hM_4.a7
  have hm_5_8 : V_4 (ad 8) = some (eI k 150 (ρ.I 8)) := hM_4.a8
  refine lv_aload_n hx hb d_Mo_make_32 rfl (lv_at hl 1 rfl) ?_
  refine gf_Mo_20 hx hb hW hown hG hV hm_5 d_Mo_make_33 ?_
  refine lv_iload hx hb d_Mo_make_36 (lv_at hl 0 rfl) ?_
  refine lv_iload hx hb d_Mo_make_38 (lv_at hl 6 rfl) ?_
  refine hv_iast hx hb hG.K hV hS 0 hm_5_3 rfl (vp_in_nI (by omega) (by omega)) d_Mo_make_40 (fun H locs hV hS => ?_)
  rw [nI_clamp (by omega)] at hV
  replace hV : hv D vwCl N0 (hu V_4 (ad 3) (eI k 150 (upd (ρ.I 3) (fiN K + n0) y))) H := hV
  generalize hV_V_6 : hu V_4 (ad 3) (eI k 150 (upd (ρ.I 3) (fiN K + n0) y)) = V_6 at hV
  have hM_6 : mdOk k V_6 mo ad (((ρ.wI 0 (upd (ρ.I 0) K (((ρ.I 0) K) + 1))).wI 2 (upd (ρ.I 2) (fiN K + n0) x)).wI 3 (upd (ρ.I 3) (fiN K + n0) y)) := by rw [← hV_V_6]; exact md_set hM_4 3 (by omega) (upd (ρ.I 3) (fiN K + n0) y)
  have hR_6 : mdFr mo ad V V_6 := by rw [← hV_V_6]; exact hR_4.ar (j := 3) (by omega)
  have hm_7 : V_6 mo = some (.inr (7, [.int (ρ.s 0), .int (ρ.s 1), .int (ρ.s 2), .int (ρ.s 3), .ref (ad 0), .ref (ad 1), .ref (ad 2), .ref (ad 3), .ref (ad 4), .ref (ad 5), .ref (ad 6), .ref (ad 7), .ref (ad 8), .int (ρ.s 4), .ref (ad 9), .ref (ad 10), .ref (ad 11), .ref (ad 12), .ref (ad 13), .ref (ad 14), .ref (ad 15), .ref (ad 16), .ref (ad 17), .ref (ad 18), .ref (ad 19), .ref (ad 20), .ref (ad 21), .ref (ad 22), .ref (ad 23), .ref (ad 24), .ref (ad 25)])) := hM_6.1
  have hm_7_0 : V_6 (ad 0) = some (eI k 8 (upd (ρ.I 0) K (((ρ.I 0) K) + 1))) := hM_6.a0
  have hm_7_1 : V_6 (ad 1) = some (eZ k 150 (ρ.I 1)) := hM_6.a1
  have hm_7_2 : V_6 (ad 2) = some (eI k 150 (upd (ρ.I 2) (fiN K + n0) x)) := hM_6.a2
  have hm_7_3 : V_6 (ad 3) = some (eI k 150 (upd (ρ.I 3) (fiN K + n0) y)) := hM_6.a3
  have hm_7_4 : V_6 (ad 4) = some (eI k 150 (ρ.I 4)) := hM_6.a4
  have hm_7_5 : V_6 (ad 5) = some (eI k 150 (ρ.I 5)) := hM_6.a5
  have hm_7_6 : V_6 (ad 6) = some (eI k 150 (ρ.I 6)) := hM_6.a6
  have hm_7_7 : V_6 (ad 7) = some (eI k 150 (ρ.I 7)) := hM_6.a7
  have hm_7_8 : V_6 (ad 8) = some (eI k 150 (ρ.I 8)) := hM_6.a8
  refine lv_aload_n hx hb d_Mo_make_41 rfl (lv_at hl 1 rfl) ?_
  refine gf_Mo_23 hx hb hW hown hG hV hm_7 d_Mo_make_42 ?_
  refine lv_iload hx hb d_Mo_make_45 (lv_at hl 0 rfl) ?_
  refine lv_iload hx hb d_Mo_make_47 (lv_at hl 7 rfl) ?_
  refine hv_iast hx hb hG.K hV hS 0 hm_7_4 rfl (vp_in_nI (by omega) (by omega)) d_Mo_make_49 (fun H locs hV hS => ?_)
  rw [nI_clamp (by omega)] at hV
  replace hV : hv D vwCl N0 (hu V_6 (ad 4) (eI k 150 (upd (ρ.I 4) (fiN K + n0) w0))) H := hV
  generalize hV_V_8 : hu V_6 (ad 4) (eI k 150 (upd (ρ.I 4) (fiN K + n0) w0)) = V_8 at hV
  have hM_8 : mdOk k V_8 mo ad ((((ρ.wI 0 (upd (ρ.I 0) K (((ρ.I 0) K) + 1))).wI 2 (upd (ρ.I 2) (fiN K + n0) x)).wI 3 (upd (ρ.I 3) (fiN K + n0) y)).wI 4 (upd (ρ.I 4) (fiN K + n0) w0)) := by rw [← hV_V_8]; exact md_set hM_6 4 (by omega) (upd (ρ.I 4) (fiN K + n0) w0)
  have hR_8 : mdFr mo ad V V_8 := by rw [← hV_V_8]; exact hR_6.ar (j := 4) (by omega)
  have hm_9 : V_8 mo = some (.inr (7, [.int (ρ.s 0), .int (ρ.s 1), .int (ρ.s 2), .int (ρ.s 3), .ref (ad 0), .ref (ad 1), .ref (ad 2), .ref (ad 3), .ref (ad 4), .ref (ad 5), .ref (ad 6), .ref (ad 7), .ref (ad 8), .int (ρ.s 4), .ref (ad 9), .ref (ad 10), .ref (ad 11), .ref (ad 12), .ref (ad 13), .ref (ad 14), .ref (ad 15), .ref (ad 16), .ref (ad 17), .ref (ad 18), .ref (ad 19), .ref (ad 20), .ref (ad 21), .ref (ad 22), .ref (ad 23), .ref (ad 24), .ref (ad 25)])) := hM_8.1
  have hm_9_0 : V_8 (ad 0) = some (eI k 8 (upd (ρ.I 0) K (((ρ.I 0) K) + 1))) := hM_8.a0
  have hm_9_1 : V_8 (ad 1) = some (eZ k 150 (ρ.I 1)) := hM_8.a1
  have hm_9_2 : V_8 (ad 2) = some (eI k 150 (upd (ρ.I 2) (fiN K + n0) x)) := hM_8.a2
  have hm_9_3 : V_8 (ad 3) = some (eI k 150 (upd (ρ.I 3) (fiN K + n0) y)) := hM_8.a3
  have hm_9_4 : V_8 (ad 4) = some (eI k 150 (upd (ρ.I 4) (fiN K + n0) w0)) := hM_8.a4
  have hm_9_5 : V_8 (ad 5) = some (eI k 150 (ρ.I 5)) := hM_8.a5
  have hm_9_6 : V_8 (ad 6) = some (eI k 150 (ρ.I 6)) := hM_8.a6
  have hm_9_7 : V_8 (ad 7) = some (eI k 150 (ρ.I 7)) := hM_8.a7
  have hm_9_8 : V_8 (ad 8) = some (eI k 150 (ρ.I 8)) := hM_8.a8
  refine lv_aload_n hx hb d_Mo_make_50 rfl (lv_at hl 1 rfl) ?_
  refine gf_Mo_26 hx hb hW hown hG hV hm_9 d_Mo_make_51 ?_
  refine lv_iload hx hb d_Mo_make_54 (lv_at hl 0 rfl) ?_
  refine lv_iload hx hb d_Mo_make_56 (lv_at hl 8 rfl) ?_
  refine hv_iast hx hb hG.K hV hS 0 hm_9_5 rfl (vp_in_nI (by omega) (by omega)) d_Mo_make_58 (fun H locs hV hS => ?_)
  rw [nI_clamp (by omega)] at hV
  replace hV : hv D vwCl N0 (hu V_8 (ad 5) (eI k 150 (upd (ρ.I 5) (fiN K + n0) h0))) H := hV
  generalize hV_V_10 : hu V_8 (ad 5) (eI k 150 (upd (ρ.I 5) (fiN K + n0) h0)) = V_10 at hV
  have hM_10 : mdOk k V_10 mo ad (((((ρ.wI 0 (upd (ρ.I 0) K (((ρ.I 0) K) + 1))).wI 2 (upd (ρ.I 2) (fiN K + n0) x)).wI 3 (upd (ρ.I 3) (fiN K + n0) y)).wI 4 (upd (ρ.I 4) (fiN K + n0) w0)).wI 5 (upd (ρ.I 5) (fiN K + n0) h0)) := by rw [← hV_V_10]; exact md_set hM_8 5 (by omega) (upd (ρ.I 5) (fiN K + n0) h0)
  have hR_10 : mdFr mo ad V V_10 := by rw [← hV_V_10]; exact hR_8.ar (j := 5) (by omega)
  have hm_11 : V_10 mo = some (.inr (7, [.int (ρ.s 0), .int (ρ.s 1), .int (ρ.s 2), .int (ρ.s 3), .ref (ad 0), .ref (ad 1), .ref (ad 2), .ref (ad 3), .ref (ad 4), .ref (ad 5), .ref (ad 6), .ref (ad 7), .ref (ad 8), .int (ρ.s 4), .ref (ad 9), .ref (ad 10), .ref (ad 11), .ref (ad 12), .ref (ad 13), .ref (ad 14), .ref (ad 15), .ref (ad 16), .ref (ad 17), .ref (ad 18), .ref (ad 19), .ref (ad 20), .ref (ad 21), .ref (ad 22), .ref (ad 23), .ref (ad 24), .ref (ad 25)])) := hM_10.1
  have hm_11_0 : V_10 (ad 0) = some (eI k 8 (upd (ρ.I 0) K (((ρ.I 0) K) + 1))) := hM_10.a0
  have hm_11_1 : V_10 (ad 1) = some (eZ k 150 (ρ.I 1)) := hM_10.a1
  have hm_11_2 : V_10 (ad 2) = some (eI k 150 (upd (ρ.I 2) (fiN K + n0) x)) := hM_10.a2
  have hm_11_3 : V_10 (ad 3) = some (eI k 150 (upd (ρ.I 3) (fiN K + n0) y)) := hM_10.a3
  have hm_11_4 : V_10 (ad 4) = some (eI k 150 (upd (ρ.I 4) (fiN K + n0) w0)) := hM_10.a4
  have hm_11_5 : V_10 (ad 5) = some (eI k 150 (upd (ρ.I 5) (fiN K + n0) h0)) := hM_10.a5
  have hm_11_6 : V_10 (ad 6) = some (eI k 150 (ρ.I 6)) := hM_10.a6
  have hm_11_7 : V_10 (ad 7) = some (eI k 150 (ρ.I 7)) := hM_10.a7
  have hm_11_8 : V_10 (ad 8) = some (eI k 150 (ρ.I 8)) := hM_10.a8
  refine lv_aload_n hx hb d_Mo_make_59 rfl (lv_at hl 1 rfl) ?_
  refine gf_Mo_29 hx hb hW hown hG hV hm_11 d_Mo_make_60 ?_
  refine lv_iload hx hb d_Mo_make_63 (lv_at hl 0 rfl) ?_
  refine lv_iload_n hx hb d_Mo_make_65 rfl (lv_at hl 4 rfl) ?_
  refine hv_iast hx hb hG.K hV hS 0 hm_11_6 rfl (vp_in_nI (by omega) (by omega)) d_Mo_make_66 (fun H locs hV hS => ?_)
  rw [nI_clamp (by omega)] at hV
  replace hV : hv D vwCl N0 (hu V_10 (ad 6) (eI k 150 (upd (ρ.I 6) (fiN K + n0) la))) H := hV
  generalize hV_V_12 : hu V_10 (ad 6) (eI k 150 (upd (ρ.I 6) (fiN K + n0) la)) = V_12 at hV
  have hM_12 : mdOk k V_12 mo ad ((((((ρ.wI 0 (upd (ρ.I 0) K (((ρ.I 0) K) + 1))).wI 2 (upd (ρ.I 2) (fiN K + n0) x)).wI 3 (upd (ρ.I 3) (fiN K + n0) y)).wI 4 (upd (ρ.I 4) (fiN K + n0) w0)).wI 5 (upd (ρ.I 5) (fiN K + n0) h0)).wI 6 (upd (ρ.I 6) (fiN K + n0) la)) := by rw [← hV_V_12]; exact md_set hM_10 6 (by omega) (upd (ρ.I 6) (fiN K + n0) la)
  have hR_12 : mdFr mo ad V V_12 := by rw [← hV_V_12]; exact hR_10.ar (j := 6) (by omega)
  have hm_13 : V_12 mo = some (.inr (7, [.int (ρ.s 0), .int (ρ.s 1), .int (ρ.s 2), .int (ρ.s 3), .ref (ad 0), .ref (ad 1), .ref (ad 2), .ref (ad 3), .ref (ad 4), .ref (ad 5), .ref (ad 6), .ref (ad 7), .ref (ad 8), .int (ρ.s 4), .ref (ad 9), .ref (ad 10), .ref (ad 11), .ref (ad 12), .ref (ad 13), .ref (ad 14), .ref (ad 15), .ref (ad 16), .ref (ad 17), .ref (ad 18), .ref (ad 19), .ref (ad 20), .ref (ad 21), .ref (ad 22), .ref (ad 23), .ref (ad 24), .ref (ad 25)])) := hM_12.1
  have hm_13_0 : V_12 (ad 0) = some (eI k 8 (upd (ρ.I 0) K (((ρ.I 0) K) + 1))) := hM_12.a0
  have hm_13_1 : V_12 (ad 1) = some (eZ k 150 (ρ.I 1)) := hM_12.a1
  have hm_13_2 : V_12 (ad 2) = some (eI k 150 (upd (ρ.I 2) (fiN K + n0) x)) := hM_12.a2
  have hm_13_3 : V_12 (ad 3) = some (eI k 150 (upd (ρ.I 3) (fiN K + n0) y)) := hM_12.a3
  have hm_13_4 : V_12 (ad 4) = some (eI k 150 (upd (ρ.I 4) (fiN K + n0) w0)) := hM_12.a4
  have hm_13_5 : V_12 (ad 5) = some (eI k 150 (upd (ρ.I 5) (fiN K + n0) h0)) := hM_12.a5
  have hm_13_6 : V_12 (ad 6) = some (eI k 150 (upd (ρ.I 6) (fiN K + n0) la)) := hM_12.a6
  have hm_13_7 : V_12 (ad 7) = some (eI k 150 (ρ.I 7)) := hM_12.a7
  have hm_13_8 : V_12 (ad 8) = some (eI k 150 (ρ.I 8)) := hM_12.a8
  refine lv_aload_n hx hb d_Mo_make_67 rfl (lv_at hl 1 rfl) ?_
  refine gf_Mo_32 hx hb hW hown hG hV hm_13 d_Mo_make_68 ?_
  refine lv_iload hx hb d_Mo_make_71 (lv_at hl 0 rfl) ?_
  refine lv_iload_n hx hb d_Mo_make_73 rfl (lv_at hl 3 rfl) ?_
  refine hv_iast hx hb hG.K hV hS 0 hm_13_7 rfl (vp_in_nI (by omega) (by omega)) d_Mo_make_74 (fun H locs hV hS => ?_)
  rw [nI_clamp (by omega)] at hV
  replace hV : hv D vwCl N0 (hu V_12 (ad 7) (eI k 150 (upd (ρ.I 7) (fiN K + n0) ne))) H := hV
  generalize hV_V_14 : hu V_12 (ad 7) (eI k 150 (upd (ρ.I 7) (fiN K + n0) ne)) = V_14 at hV
  have hM_14 : mdOk k V_14 mo ad (((((((ρ.wI 0 (upd (ρ.I 0) K (((ρ.I 0) K) + 1))).wI 2 (upd (ρ.I 2) (fiN K + n0) x)).wI 3 (upd (ρ.I 3) (fiN K + n0) y)).wI 4 (upd (ρ.I 4) (fiN K + n0) w0)).wI 5 (upd (ρ.I 5) (fiN K + n0) h0)).wI 6 (upd (ρ.I 6) (fiN K + n0) la)).wI 7 (upd (ρ.I 7) (fiN K + n0) ne)) := by rw [← hV_V_14]; exact md_set hM_12 7 (by omega) (upd (ρ.I 7) (fiN K + n0) ne)
  have hR_14 : mdFr mo ad V V_14 := by rw [← hV_V_14]; exact hR_12.ar (j := 7) (by omega)
  have hm_15 : V_14 mo = some (.inr (7, [.int (ρ.s 0), .int (ρ.s 1), .int (ρ.s 2), .int (ρ.s 3), .ref (ad 0), .ref (ad 1), .ref (ad 2), .ref (ad 3), .ref (ad 4), .ref (ad 5), .ref (ad 6), .ref (ad 7), .ref (ad 8), .int (ρ.s 4), .ref (ad 9), .ref (ad 10), .ref (ad 11), .ref (ad 12), .ref (ad 13), .ref (ad 14), .ref (ad 15), .ref (ad 16), .ref (ad 17), .ref (ad 18), .ref (ad 19), .ref (ad 20), .ref (ad 21), .ref (ad 22), .ref (ad 23), .ref (ad 24), .ref (ad 25)])) := hM_14.1
  have hm_15_0 : V_14 (ad 0) = some (eI k 8 (upd (ρ.I 0) K (((ρ.I 0) K) + 1))) := hM_14.a0
  have hm_15_1 : V_14 (ad 1) = some (eZ k 150 (ρ.I 1)) := hM_14.a1
  have hm_15_2 : V_14 (ad 2) = some (eI k 150 (upd (ρ.I 2) (fiN K + n0) x)) := hM_14.a2
  have hm_15_3 : V_14 (ad 3) = some (eI k 150 (upd (ρ.I 3) (fiN K + n0) y)) := hM_14.a3
  have hm_15_4 : V_14 (ad 4) = some (eI k 150 (upd (ρ.I 4) (fiN K + n0) w0)) := hM_14.a4
  have hm_15_5 : V_14 (ad 5) = some (eI k 150 (upd (ρ.I 5) (fiN K + n0) h0)) := hM_14.a5
  have hm_15_6 : V_14 (ad 6) = some (eI k 150 (upd (ρ.I 6) (fiN K + n0) la)) := hM_14.a6
  have hm_15_7 : V_14 (ad 7) = some (eI k 150 (upd (ρ.I 7) (fiN K + n0) ne)) := hM_14.a7
  have hm_15_8 : V_14 (ad 8) = some (eI k 150 (ρ.I 8)) := hM_14.a8
  refine lv_aload_n hx hb d_Mo_make_75 rfl (lv_at hl 1 rfl) ?_
  refine gf_Mo_35 hx hb hW hown hG hV hm_15 d_Mo_make_76 ?_
  refine lv_iload hx hb d_Mo_make_79 (lv_at hl 0 rfl) ?_
  refine lv_iload hx hb d_Mo_make_81 (lv_at hl 9 rfl) ?_
  refine hv_iast hx hb hG.K hV hS 0 hm_15_8 rfl (vp_in_nI (by omega) (by omega)) d_Mo_make_83 (fun H locs hV hS => ?_)
  rw [nI_clamp (by omega)] at hV
  replace hV : hv D vwCl N0 (hu V_14 (ad 8) (eI k 150 (upd (ρ.I 8) (fiN K + n0) pa))) H := hV
  generalize hV_V_16 : hu V_14 (ad 8) (eI k 150 (upd (ρ.I 8) (fiN K + n0) pa)) = V_16 at hV
  have hM_16 : mdOk k V_16 mo ad ((((((((ρ.wI 0 (upd (ρ.I 0) K (((ρ.I 0) K) + 1))).wI 2 (upd (ρ.I 2) (fiN K + n0) x)).wI 3 (upd (ρ.I 3) (fiN K + n0) y)).wI 4 (upd (ρ.I 4) (fiN K + n0) w0)).wI 5 (upd (ρ.I 5) (fiN K + n0) h0)).wI 6 (upd (ρ.I 6) (fiN K + n0) la)).wI 7 (upd (ρ.I 7) (fiN K + n0) ne)).wI 8 (upd (ρ.I 8) (fiN K + n0) pa)) := by rw [← hV_V_16]; exact md_set hM_14 8 (by omega) (upd (ρ.I 8) (fiN K + n0) pa)
  have hR_16 : mdFr mo ad V V_16 := by rw [← hV_V_16]; exact hR_14.ar (j := 8) (by omega)
  have hm_17 : V_16 mo = some (.inr (7, [.int (ρ.s 0), .int (ρ.s 1), .int (ρ.s 2), .int (ρ.s 3), .ref (ad 0), .ref (ad 1), .ref (ad 2), .ref (ad 3), .ref (ad 4), .ref (ad 5), .ref (ad 6), .ref (ad 7), .ref (ad 8), .int (ρ.s 4), .ref (ad 9), .ref (ad 10), .ref (ad 11), .ref (ad 12), .ref (ad 13), .ref (ad 14), .ref (ad 15), .ref (ad 16), .ref (ad 17), .ref (ad 18), .ref (ad 19), .ref (ad 20), .ref (ad 21), .ref (ad 22), .ref (ad 23), .ref (ad 24), .ref (ad 25)])) := hM_16.1
  have hm_17_0 : V_16 (ad 0) = some (eI k 8 (upd (ρ.I 0) K (((ρ.I 0) K) + 1))) := hM_16.a0
  have hm_17_1 : V_16 (ad 1) = some (eZ k 150 (ρ.I 1)) := hM_16.a1
  have hm_17_2 : V_16 (ad 2) = some (eI k 150 (upd (ρ.I 2) (fiN K + n0) x)) := hM_16.a2
  have hm_17_3 : V_16 (ad 3) = some (eI k 150 (upd (ρ.I 3) (fiN K + n0) y)) := hM_16.a3
  have hm_17_4 : V_16 (ad 4) = some (eI k 150 (upd (ρ.I 4) (fiN K + n0) w0)) := hM_16.a4
  have hm_17_5 : V_16 (ad 5) = some (eI k 150 (upd (ρ.I 5) (fiN K + n0) h0)) := hM_16.a5
  have hm_17_6 : V_16 (ad 6) = some (eI k 150 (upd (ρ.I 6) (fiN K + n0) la)) := hM_16.a6
  have hm_17_7 : V_16 (ad 7) = some (eI k 150 (upd (ρ.I 7) (fiN K + n0) ne)) := hM_16.a7
  have hm_17_8 : V_16 (ad 8) = some (eI k 150 (upd (ρ.I 8) (fiN K + n0) pa)) := hM_16.a8
  refine lv_aload_n hx hb d_Mo_make_84 rfl (lv_at hl 1 rfl) ?_
  refine lv_iload hx hb d_Mo_make_85 (lv_at hl 0 rfl) ?_
  refine lv_iconst (v := 0) hx hb d_Mo_make_87 (by decide) ?_
  refine rc_V (va_runV (As := [.int (nI (fiN K + n0)), .int 0]) (rest := []) ⟨hx, hb, hml, hown, hts⟩ (c_Mo_note l D N0 k V_16 mo ad ((((((((ρ.wI 0 (upd (ρ.I 0) K (((ρ.I 0) K) + 1))).wI 2 (upd (ρ.I 2) (fiN K + n0) x)).wI 3 (upd (ρ.I 3) (fiN K + n0) y)).wI 4 (upd (ρ.I 4) (fiN K + n0) w0)).wI 5 (upd (ρ.I 5) (fiN K + n0) h0)).wI 6 (upd (ρ.I 6) (fiN K + n0) la)).wI 7 (upd (ρ.I 7) (fiN K + n0) ne)).wI 8 (upd (ρ.I 8) (fiN K + n0) pa)) hM_16 (fiN K + n0) (by omega) 0 (by decide) hwo) (cwV 2 hts (gi_V wm_Mo_139 wv_Mo_note ws_Mo_note wi_Mo wc_Mo_note) rfl rfl rfl (by decide +kernel) ⟨Nat.le_of_ble_eq_true rfl, Nat.le_of_ble_eq_true rfl⟩) (mP.preV hG hS hV hm_17 rfl) rfl rfl hl.1 rfl (lv_room (Nat.le_of_ble_eq_true rfl)) d_Mo_make_88 ⟨Nat.le_of_ble_eq_true rfl, Nat.le_of_ble_eq_true rfl⟩) hS (fun V_18 H locs hp_19 hV hS => ?_)
  obtain ⟨hM_20, hM_20R⟩ := hp_19
  obtain ⟨ρn_21, eρn_21⟩ : ∃ z, z = moNote ((((((((ρ.wI 0 (upd (ρ.I 0) K (((ρ.I 0) K) + 1))).wI 2 (upd (ρ.I 2) (fiN K + n0) x)).wI 3 (upd (ρ.I 3) (fiN K + n0) y)).wI 4 (upd (ρ.I 4) (fiN K + n0) w0)).wI 5 (upd (ρ.I 5) (fiN K + n0) h0)).wI 6 (upd (ρ.I 6) (fiN K + n0) la)).wI 7 (upd (ρ.I 7) (fiN K + n0) ne)).wI 8 (upd (ρ.I 8) (fiN K + n0) pa)) (fiN K + n0) 0 := ⟨_, rfl⟩
  rw [← eρn_21] at hM_20
  have hwo_ρn_21 : moWo ρn_21 := by unfold moWo; rw [eρn_21, note_s]; exact hwo
  have hm_22 : V_18 mo = some (.inr (7, [.int (ρn_21.s 0), .int (ρn_21.s 1), .int (ρn_21.s 2), .int (ρn_21.s 3), .ref (ad 0), .ref (ad 1), .ref (ad 2), .ref (ad 3), .ref (ad 4), .ref (ad 5), .ref (ad 6), .ref (ad 7), .ref (ad 8), .int (ρn_21.s 4), .ref (ad 9), .ref (ad 10), .ref (ad 11), .ref (ad 12), .ref (ad 13), .ref (ad 14), .ref (ad 15), .ref (ad 16), .ref (ad 17), .ref (ad 18), .ref (ad 19), .ref (ad 20), .ref (ad 21), .ref (ad 22), .ref (ad 23), .ref (ad 24), .ref (ad 25)])) := hM_20.1
  have hm_22_0 : V_18 (ad 0) = some (eI k 8 (ρn_21.I 0)) := hM_20.a0
  have hm_22_1 : V_18 (ad 1) = some (eZ k 150 (ρn_21.I 1)) := hM_20.a1
  have hm_22_2 : V_18 (ad 2) = some (eI k 150 (ρn_21.I 2)) := hM_20.a2
  have hm_22_3 : V_18 (ad 3) = some (eI k 150 (ρn_21.I 3)) := hM_20.a3
  have hm_22_4 : V_18 (ad 4) = some (eI k 150 (ρn_21.I 4)) := hM_20.a4
  have hm_22_5 : V_18 (ad 5) = some (eI k 150 (ρn_21.I 5)) := hM_20.a5
  have hm_22_6 : V_18 (ad 6) = some (eI k 150 (ρn_21.I 6)) := hM_20.a6
  have hm_22_7 : V_18 (ad 7) = some (eI k 150 (ρn_21.I 7)) := hM_20.a7
  have hm_22_8 : V_18 (ad 8) = some (eI k 150 (ρn_21.I 8)) := hM_20.a8
  refine lv_aload_n hx hb d_Mo_make_91 rfl (lv_at hl 1 rfl) ?_
  refine gf_Mo_13 hx hb hW hown hG hV hm_22 d_Mo_make_92 ?_
  refine lv_iload hx hb d_Mo_make_95 (lv_at hl 0 rfl) ?_
  refine lv_iconst (v := 1) hx hb d_Mo_make_97 (by decide) ?_
  refine hv_zast hx hb hG.K hV hS 2 hm_22_1 rfl (by decide) (vp_in_nI (by omega) (by omega)) d_Mo_make_98 (fun H locs hV hS => ?_)
  rw [nI_clamp (by omega)] at hV
  replace hV : hv D vwCl N0 (hu V_18 (ad 1) (eZ k 150 (upd (ρn_21.I 1) (fiN K + n0) 1))) H := hV
  generalize hV_V_23 : hu V_18 (ad 1) (eZ k 150 (upd (ρn_21.I 1) (fiN K + n0) 1)) = V_23 at hV
  have hM_23 : mdOk k V_23 mo ad (ρn_21.wI 1 (upd (ρn_21.I 1) (fiN K + n0) 1)) := by rw [← hV_V_23]; exact md_set hM_20 1 (by omega) (upd (ρn_21.I 1) (fiN K + n0) 1)
  have hR_23 : mdFr mo ad V V_23 := by rw [← hV_V_23]; exact (hR_16.tr hM_20R).ar (j := 1) (by omega)
  have hm_24 : V_23 mo = some (.inr (7, [.int (ρn_21.s 0), .int (ρn_21.s 1), .int (ρn_21.s 2), .int (ρn_21.s 3), .ref (ad 0), .ref (ad 1), .ref (ad 2), .ref (ad 3), .ref (ad 4), .ref (ad 5), .ref (ad 6), .ref (ad 7), .ref (ad 8), .int (ρn_21.s 4), .ref (ad 9), .ref (ad 10), .ref (ad 11), .ref (ad 12), .ref (ad 13), .ref (ad 14), .ref (ad 15), .ref (ad 16), .ref (ad 17), .ref (ad 18), .ref (ad 19), .ref (ad 20), .ref (ad 21), .ref (ad 22), .ref (ad 23), .ref (ad 24), .ref (ad 25)])) := hM_23.1
  have hm_24_0 : V_23 (ad 0) = some (eI k 8 (ρn_21.I 0)) := hM_23.a0
  have hm_24_1 : V_23 (ad 1) = some (eZ k 150 (upd (ρn_21.I 1) (fiN K + n0) 1)) := hM_23.a1
  have hm_24_2 : V_23 (ad 2) = some (eI k 150 (ρn_21.I 2)) := hM_23.a2
  have hm_24_3 : V_23 (ad 3) = some (eI k 150 (ρn_21.I 3)) := hM_23.a3
  have hm_24_4 : V_23 (ad 4) = some (eI k 150 (ρn_21.I 4)) := hM_23.a4
  have hm_24_5 : V_23 (ad 5) = some (eI k 150 (ρn_21.I 5)) := hM_23.a5
  have hm_24_6 : V_23 (ad 6) = some (eI k 150 (ρn_21.I 6)) := hM_23.a6
  have hm_24_7 : V_23 (ad 7) = some (eI k 150 (ρn_21.I 7)) := hM_23.a7
  have hm_24_8 : V_23 (ad 8) = some (eI k 150 (ρn_21.I 8)) := hM_23.a8
  refine lv_iload hx hb d_Mo_make_99 (lv_at hl 0 rfl) ?_
  refine rc_i (va_runS (As := [.int (nI (fiN K + n0))]) (rest := []) ⟨hx, hb, hml, hown, hts⟩ (c_Mo_handleOf l D N0 k V_23 (nI (fiN K + n0))) (va_cwS 1 hts (gi_S wm_Mo_143 wt_Mo_handleOf wi_Mo wc_Mo_handleOf) rfl rfl rfl (by decide +kernel) ⟨Nat.le_of_ble_eq_true rfl, Nat.le_of_ble_eq_true rfl⟩) (mP.preS hG hS hV) rfl rfl hl.1 rfl (lv_room (Nat.le_of_ble_eq_true rfl)) d_Mo_make_101 ⟨Nat.le_of_ble_eq_true rfl, Nat.le_of_ble_eq_true rfl⟩) hS (fun H locs hV hS => ?_)
  have hfin : moMkS ρ K (fiN K + n0) ne la x y w0 h0 pa = (ρn_21.wI 1 (upd (ρn_21.I 1) (fiN K + n0) 1)) := by subst eρn_21; rfl
  exact W.iret (v := (moHan (nI (fiN K + n0)))) hx hb hr (fun t9 ht hW => ⟨⟨(moHan (nI (fiN K + n0))), V_23, rfl, ⟨by rw [hfin]; exact hM_23, hR_23, rfl⟩, mB_of ht hV⟩, hS.F ht⟩) hS.2.2 d_Mo_make_104
set_option maxHeartbeats 4000000 in
set_option maxRecDepth 100000 in
/-- isFull -/
theorem c_Mo_isFull (l : Launch) (D : va_G) (N0 : Nat) (k : Nat → Nat) (V : HV) (mo : Nat) (ad : Nat → Nat) (ρ : MS) (hM : mdOk k V mo ad ρ) (K : Nat) (hK1 : 1 ≤ K) (hK7 : K ≤ 7) : Met l y_Mo_isFull (.code y_Mo_isFull b_Mo_isFull 2 (some .boolean) :: WS) ({ frames := 1, cells := 0, slots := 0, locals := 20 }) (mP D N0 k [.ref mo, .int (nI K)] V) (va_Qi (fun r V' => r = bI (decide (ρ.I 0 K = nI (liN K))) ∧ V' = V) (mB D N0) (hA N0)) 0 0 (hA N0) := by
  refine Met.ofW (cc := b_Mo_isFull) (maxL := 2) (ret := (some .boolean)) (by decide) rfl ?_
  intro p e s m args below meth c s₁ B hml hv0
  obtain ⟨rfl, hG, hV⟩ := hv0
  have hx := B.exec
  have hb := B.bytes
  have hr := B.returns
  have hts := atoms_spec (ws := .code y_Mo_isFull b_Mo_isFull 2 (some .boolean) :: WS) B.pre
  have hW : ∀ w ∈ WS, w.before _ s = true := fun w h => hts w (List.mem_cons_of_mem _ h)
  have hown : s.vm.findClass "BoardHouseModel" = some m.cls := findClass_of_methodNamed B.named
  have hlocks := B.notSynchronized
  have hS : va_S (hA N0) s.heap s.heap [] := va_S.rf
  have hl := lv_entry ([.ref mo, .int (nI K)]) (n := 2) (Nat.le_of_ble_eq_true rfl)
  rw [lg_entry_eq]
  generalize (lg_sl ([.ref mo, .int (nI K)]) ++ List.replicate (2 - (lg_sl ([.ref mo, .int (nI K)])).length) Slot.unset).toArray = ls at hl ⊢
  have hl : lv_has ls 2 [(0, .ref mo), (1, .int (nI K))] := hl
  have hm_1 : V mo = some (.inr (7, [.int (ρ.s 0), .int (ρ.s 1), .int (ρ.s 2), .int (ρ.s 3), .ref (ad 0), .ref (ad 1), .ref (ad 2), .ref (ad 3), .ref (ad 4), .ref (ad 5), .ref (ad 6), .ref (ad 7), .ref (ad 8), .int (ρ.s 4), .ref (ad 9), .ref (ad 10), .ref (ad 11), .ref (ad 12), .ref (ad 13), .ref (ad 14), .ref (ad 15), .ref (ad 16), .ref (ad 17), .ref (ad 18), .ref (ad 19), .ref (ad 20), .ref (ad 21), .ref (ad 22), .ref (ad 23), .ref (ad 24), .ref (ad 25)])) := hM.1
  have hm_1_0 : V (ad 0) = some (eI k 8 (ρ.I 0)) := hM.a0
  refine lv_aload_n hx hb d_Mo_isFull_0 rfl (lv_at hl 0 rfl) ?_
  refine gf_Mo_7 hx hb hW hown hG hV hm_1 d_Mo_isFull_1 ?_
  refine lv_iload_n hx hb d_Mo_isFull_4 rfl (lv_at hl 1 rfl) ?_
  refine hv_iald hx hb hG.K hV 0 hm_1_0 rfl (vp_in_nI (by omega) (by omega)) d_Mo_isFull_5 ?_
  rw [nI_clamp (by omega)]
  refine lv_iload_n hx hb d_Mo_isFull_6 rfl (lv_at hl 1 rfl) ?_
  refine rc_i (va_runS (As := [.int (nI K)]) (rest := [.int ((ρ.I 0) K)]) ⟨hx, hb, hml, hown, hts⟩ (c_Mo_limitOf l D N0 k V (nI K)) (va_cwS 1 hts (gi_S wm_Mo_146 wt_Mo_limitOf wi_Mo wc_Mo_limitOf) rfl rfl rfl (by decide +kernel) ⟨Nat.le_of_ble_eq_true rfl, Nat.le_of_ble_eq_true rfl⟩) (mP.preS hG hS hV) rfl rfl hl.1 rfl (lv_room (Nat.le_of_ble_eq_true rfl)) d_Mo_isFull_7 ⟨Nat.le_of_ble_eq_true rfl, Nat.le_of_ble_eq_true rfl⟩) hS (fun H locs hV hS => ?_)
  refine lv_icmp_ne (tgt := 17) hx hb d_Mo_isFull_10 (by decide) (fun c_2 => ?_) (fun c_2 => ?_)
  · refine lv_iconst (v := 0) hx hb d_Mo_isFull_17 (by decide) ?_
    exact W.zret (v := 0) hx hb hr rfl (fun t9 ht hW => ⟨⟨0, V, rfl, ⟨by rw [moLim_n hK1 hK7] at c_2; simp [bI, c_2], rfl⟩, mB_of ht hV⟩, hS.F ht⟩) hS.2.2 d_Mo_isFull_18
  · refine lv_iconst (v := 1) hx hb d_Mo_isFull_13 (by decide) ?_
    refine lv_goto (tgt := 18) hx hb d_Mo_isFull_14 (by decide) ?_
    exact W.zret (v := 1) hx hb hr rfl (fun t9 ht hW => ⟨⟨1, V, rfl, ⟨by rw [moLim_n hK1 hK7] at c_2; simp [bI, c_2], rfl⟩, mB_of ht hV⟩, hS.F ht⟩) hS.2.2 d_Mo_isFull_18
set_option maxHeartbeats 4000000 in
set_option maxRecDepth 100000 in
/-- refuse -/
theorem c_Mo_refuse (l : Launch) (D : va_G) (N0 : Nat) (k : Nat → Nat) (V : HV) (mo : Nat) (ad : Nat → Nat) (ρ : MS) (hM : mdOk k V mo ad ρ) (x : Int32) : Met l y_Mo_refuse (.code y_Mo_refuse b_Mo_refuse 2 (some .int) :: WS) ({ frames := 0, cells := 0, slots := 0, locals := 0 }) (mP D N0 k [.ref mo, .int x] V) (va_Qi (fun r V' => mdOk k V' mo ad (ρ.ws 3 x) ∧ mdFr mo ad V V' ∧ r = -1) (mB D N0) (hA N0)) 0 0 (hA N0) := by
  refine Met.ofW (cc := b_Mo_refuse) (maxL := 2) (ret := (some .int)) (by decide) rfl ?_
  intro p e s m args below meth c s₁ B hml hv0
  obtain ⟨rfl, hG, hV⟩ := hv0
  have hx := B.exec
  have hb := B.bytes
  have hr := B.returns
  have hts := atoms_spec (ws := .code y_Mo_refuse b_Mo_refuse 2 (some .int) :: WS) B.pre
  have hW : ∀ w ∈ WS, w.before _ s = true := fun w h => hts w (List.mem_cons_of_mem _ h)
  have hown : s.vm.findClass "BoardHouseModel" = some m.cls := findClass_of_methodNamed B.named
  have hlocks := B.notSynchronized
  have hS : va_S (hA N0) s.heap s.heap [] := va_S.rf
  have hl := lv_entry ([.ref mo, .int x]) (n := 2) (Nat.le_of_ble_eq_true rfl)
  rw [lg_entry_eq]
  generalize (lg_sl ([.ref mo, .int x]) ++ List.replicate (2 - (lg_sl ([.ref mo, .int x])).length) Slot.unset).toArray = ls at hl ⊢
  have hl : lv_has ls 2 [(0, .ref mo), (1, .int x)] := hl
  have hm_1 : V mo = some (.inr (7, [.int (ρ.s 0), .int (ρ.s 1), .int (ρ.s 2), .int (ρ.s 3), .ref (ad 0), .ref (ad 1), .ref (ad 2), .ref (ad 3), .ref (ad 4), .ref (ad 5), .ref (ad 6), .ref (ad 7), .ref (ad 8), .int (ρ.s 4), .ref (ad 9), .ref (ad 10), .ref (ad 11), .ref (ad 12), .ref (ad 13), .ref (ad 14), .ref (ad 15), .ref (ad 16), .ref (ad 17), .ref (ad 18), .ref (ad 19), .ref (ad 20), .ref (ad 21), .ref (ad 22), .ref (ad 23), .ref (ad 24), .ref (ad 25)])) := hM.1
  refine lv_aload_n hx hb d_Mo_refuse_0 rfl (lv_at hl 0 rfl) ?_
  refine lv_iload_n hx hb d_Mo_refuse_1 rfl (lv_at hl 1 rfl) ?_
  refine pf_Mo_149 hx hb hW hown hG hV hS hm_1 d_Mo_refuse_2 (fun H locs hV hS => ?_)
  replace hV : hv D vwCl N0 (hu V mo (.inr (7, [.int (ρ.s 0), .int (ρ.s 1), .int (ρ.s 2), .int x, .ref (ad 0), .ref (ad 1), .ref (ad 2), .ref (ad 3), .ref (ad 4), .ref (ad 5), .ref (ad 6), .ref (ad 7), .ref (ad 8), .int (ρ.s 4), .ref (ad 9), .ref (ad 10), .ref (ad 11), .ref (ad 12), .ref (ad 13), .ref (ad 14), .ref (ad 15), .ref (ad 16), .ref (ad 17), .ref (ad 18), .ref (ad 19), .ref (ad 20), .ref (ad 21), .ref (ad 22), .ref (ad 23), .ref (ad 24), .ref (ad 25)]))) H := hV
  generalize hV_V_2 : hu V mo (.inr (7, [.int (ρ.s 0), .int (ρ.s 1), .int (ρ.s 2), .int x, .ref (ad 0), .ref (ad 1), .ref (ad 2), .ref (ad 3), .ref (ad 4), .ref (ad 5), .ref (ad 6), .ref (ad 7), .ref (ad 8), .int (ρ.s 4), .ref (ad 9), .ref (ad 10), .ref (ad 11), .ref (ad 12), .ref (ad 13), .ref (ad 14), .ref (ad 15), .ref (ad 16), .ref (ad 17), .ref (ad 18), .ref (ad 19), .ref (ad 20), .ref (ad 21), .ref (ad 22), .ref (ad 23), .ref (ad 24), .ref (ad 25)])) = V_2 at hV
  have hM_2 : mdOk k V_2 mo ad (ρ.ws 3 x) := by rw [← hV_V_2]; exact md_put hM 3 x
  have hR_2 : mdFr mo ad V V_2 := by rw [← hV_V_2]; exact (mdFr.rf (mo := mo) (ad := ad) (V := V)).m
  have hm_3 : V_2 mo = some (.inr (7, [.int (ρ.s 0), .int (ρ.s 1), .int (ρ.s 2), .int x, .ref (ad 0), .ref (ad 1), .ref (ad 2), .ref (ad 3), .ref (ad 4), .ref (ad 5), .ref (ad 6), .ref (ad 7), .ref (ad 8), .int (ρ.s 4), .ref (ad 9), .ref (ad 10), .ref (ad 11), .ref (ad 12), .ref (ad 13), .ref (ad 14), .ref (ad 15), .ref (ad 16), .ref (ad 17), .ref (ad 18), .ref (ad 19), .ref (ad 20), .ref (ad 21), .ref (ad 22), .ref (ad 23), .ref (ad 24), .ref (ad 25)])) := hM_2.1
  refine lv_iconst (v := (-1)) hx hb d_Mo_refuse_5 (by decide) ?_
  exact W.iret (v := (-1)) hx hb hr (fun t9 ht hW => ⟨⟨(-1), V_2, rfl, ⟨hM_2, hR_2, rfl⟩, mB_of ht hV⟩, hS.F ht⟩) hS.2.2 d_Mo_refuse_6
set_option maxHeartbeats 4000000 in
set_option maxRecDepth 100000 in
/-- told -/
theorem c_Mo_told (l : Launch) (D : va_G) (N0 : Nat) (k : Nat → Nat) (V : HV) (mo : Nat) (ad : Nat → Nat) (ρ : MS) (hM : mdOk k V mo ad ρ) : Met l y_Mo_told (.code y_Mo_told b_Mo_told 1 (some .int) :: WS) ({ frames := 0, cells := 0, slots := 0, locals := 0 }) (mP D N0 k [.ref mo] V) (va_Qi (fun r V' => mdOk k V' mo ad (ρ.ws 0 0) ∧ mdFr mo ad V V' ∧ r = ρ.s 3) (mB D N0) (hA N0)) 0 0 (hA N0) := by
  refine Met.ofW (cc := b_Mo_told) (maxL := 1) (ret := (some .int)) (by decide) rfl ?_
  intro p e s m args below meth c s₁ B hml hv0
  obtain ⟨rfl, hG, hV⟩ := hv0
  have hx := B.exec
  have hb := B.bytes
  have hr := B.returns
  have hts := atoms_spec (ws := .code y_Mo_told b_Mo_told 1 (some .int) :: WS) B.pre
  have hW : ∀ w ∈ WS, w.before _ s = true := fun w h => hts w (List.mem_cons_of_mem _ h)
  have hown : s.vm.findClass "BoardHouseModel" = some m.cls := findClass_of_methodNamed B.named
  have hlocks := B.notSynchronized
  have hS : va_S (hA N0) s.heap s.heap [] := va_S.rf
  have hl := lv_entry ([.ref mo]) (n := 1) (Nat.le_of_ble_eq_true rfl)
  rw [lg_entry_eq]
  generalize (lg_sl ([.ref mo]) ++ List.replicate (1 - (lg_sl ([.ref mo])).length) Slot.unset).toArray = ls at hl ⊢
  have hl : lv_has ls 1 [(0, .ref mo)] := hl
  have hm_1 : V mo = some (.inr (7, [.int (ρ.s 0), .int (ρ.s 1), .int (ρ.s 2), .int (ρ.s 3), .ref (ad 0), .ref (ad 1), .ref (ad 2), .ref (ad 3), .ref (ad 4), .ref (ad 5), .ref (ad 6), .ref (ad 7), .ref (ad 8), .int (ρ.s 4), .ref (ad 9), .ref (ad 10), .ref (ad 11), .ref (ad 12), .ref (ad 13), .ref (ad 14), .ref (ad 15), .ref (ad 16), .ref (ad 17), .ref (ad 18), .ref (ad 19), .ref (ad 20), .ref (ad 21), .ref (ad 22), .ref (ad 23), .ref (ad 24), .ref (ad 25)])) := hM.1
  refine lv_aload_n hx hb d_Mo_told_0 rfl (lv_at hl 0 rfl) ?_
  refine lv_iconst (v := 0) hx hb d_Mo_told_1 (by decide) ?_
  refine pf_Mo_100 hx hb hW hown hG hV hS hm_1 d_Mo_told_2 (fun H locs hV hS => ?_)
  replace hV : hv D vwCl N0 (hu V mo (.inr (7, [.int 0, .int (ρ.s 1), .int (ρ.s 2), .int (ρ.s 3), .ref (ad 0), .ref (ad 1), .ref (ad 2), .ref (ad 3), .ref (ad 4), .ref (ad 5), .ref (ad 6), .ref (ad 7), .ref (ad 8), .int (ρ.s 4), .ref (ad 9), .ref (ad 10), .ref (ad 11), .ref (ad 12), .ref (ad 13), .ref (ad 14), .ref (ad 15), .ref (ad 16), .ref (ad 17), .ref (ad 18), .ref (ad 19), .ref (ad 20), .ref (ad 21), .ref (ad 22), .ref (ad 23), .ref (ad 24), .ref (ad 25)]))) H := hV
  generalize hV_V_2 : hu V mo (.inr (7, [.int 0, .int (ρ.s 1), .int (ρ.s 2), .int (ρ.s 3), .ref (ad 0), .ref (ad 1), .ref (ad 2), .ref (ad 3), .ref (ad 4), .ref (ad 5), .ref (ad 6), .ref (ad 7), .ref (ad 8), .int (ρ.s 4), .ref (ad 9), .ref (ad 10), .ref (ad 11), .ref (ad 12), .ref (ad 13), .ref (ad 14), .ref (ad 15), .ref (ad 16), .ref (ad 17), .ref (ad 18), .ref (ad 19), .ref (ad 20), .ref (ad 21), .ref (ad 22), .ref (ad 23), .ref (ad 24), .ref (ad 25)])) = V_2 at hV
  have hM_2 : mdOk k V_2 mo ad (ρ.ws 0 0) := by rw [← hV_V_2]; exact md_put hM 0 0
  have hR_2 : mdFr mo ad V V_2 := by rw [← hV_V_2]; exact (mdFr.rf (mo := mo) (ad := ad) (V := V)).m
  have hm_3 : V_2 mo = some (.inr (7, [.int 0, .int (ρ.s 1), .int (ρ.s 2), .int (ρ.s 3), .ref (ad 0), .ref (ad 1), .ref (ad 2), .ref (ad 3), .ref (ad 4), .ref (ad 5), .ref (ad 6), .ref (ad 7), .ref (ad 8), .int (ρ.s 4), .ref (ad 9), .ref (ad 10), .ref (ad 11), .ref (ad 12), .ref (ad 13), .ref (ad 14), .ref (ad 15), .ref (ad 16), .ref (ad 17), .ref (ad 18), .ref (ad 19), .ref (ad 20), .ref (ad 21), .ref (ad 22), .ref (ad 23), .ref (ad 24), .ref (ad 25)])) := hM_2.1
  refine lv_aload_n hx hb d_Mo_told_5 rfl (lv_at hl 0 rfl) ?_
  refine gf_Mo_149 hx hb hW hown hG hV hm_3 d_Mo_told_6 ?_
  exact W.iret (v := (ρ.s 3)) hx hb hr (fun t9 ht hW => ⟨⟨(ρ.s 3), V_2, rfl, ⟨hM_2, hR_2, rfl⟩, mB_of ht hV⟩, hS.F ht⟩) hS.2.2 d_Mo_told_9
set_option maxHeartbeats 4000000 in
set_option maxRecDepth 100000 in
/-- thrown -/
theorem c_Mo_thrown (l : Launch) (D : va_G) (N0 : Nat) (k : Nat → Nat) (V : HV) (mo : Nat) (ad : Nat → Nat) (ρ : MS) (hM : mdOk k V mo ad ρ) : Met l y_Mo_thrown (.code y_Mo_thrown b_Mo_thrown 1 (some .int) :: WS) ({ frames := 0, cells := 0, slots := 0, locals := 0 }) (mP D N0 k [.ref mo] V) (va_Qi (fun r V' => r = ρ.s 0 ∧ V' = V) (mB D N0) (hA N0)) 0 0 (hA N0) := by
  refine Met.ofW (cc := b_Mo_thrown) (maxL := 1) (ret := (some .int)) (by decide) rfl ?_
  intro p e s m args below meth c s₁ B hml hv0
  obtain ⟨rfl, hG, hV⟩ := hv0
  have hx := B.exec
  have hb := B.bytes
  have hr := B.returns
  have hts := atoms_spec (ws := .code y_Mo_thrown b_Mo_thrown 1 (some .int) :: WS) B.pre
  have hW : ∀ w ∈ WS, w.before _ s = true := fun w h => hts w (List.mem_cons_of_mem _ h)
  have hown : s.vm.findClass "BoardHouseModel" = some m.cls := findClass_of_methodNamed B.named
  have hlocks := B.notSynchronized
  have hS : va_S (hA N0) s.heap s.heap [] := va_S.rf
  have hl := lv_entry ([.ref mo]) (n := 1) (Nat.le_of_ble_eq_true rfl)
  rw [lg_entry_eq]
  generalize (lg_sl ([.ref mo]) ++ List.replicate (1 - (lg_sl ([.ref mo])).length) Slot.unset).toArray = ls at hl ⊢
  have hl : lv_has ls 1 [(0, .ref mo)] := hl
  have hm_1 : V mo = some (.inr (7, [.int (ρ.s 0), .int (ρ.s 1), .int (ρ.s 2), .int (ρ.s 3), .ref (ad 0), .ref (ad 1), .ref (ad 2), .ref (ad 3), .ref (ad 4), .ref (ad 5), .ref (ad 6), .ref (ad 7), .ref (ad 8), .int (ρ.s 4), .ref (ad 9), .ref (ad 10), .ref (ad 11), .ref (ad 12), .ref (ad 13), .ref (ad 14), .ref (ad 15), .ref (ad 16), .ref (ad 17), .ref (ad 18), .ref (ad 19), .ref (ad 20), .ref (ad 21), .ref (ad 22), .ref (ad 23), .ref (ad 24), .ref (ad 25)])) := hM.1
  refine lv_aload_n hx hb d_Mo_thrown_0 rfl (lv_at hl 0 rfl) ?_
  refine gf_Mo_100 hx hb hW hown hG hV hm_1 d_Mo_thrown_1 ?_
  exact W.iret (v := (ρ.s 0)) hx hb hr (fun t9 ht hW => ⟨⟨(ρ.s 0), V, rfl, ⟨rfl, rfl⟩, mB_of ht hV⟩, hS.F ht⟩) hS.2.2 d_Mo_thrown_4
set_option maxHeartbeats 4000000 in
set_option maxRecDepth 100000 in
/-- net -/
theorem c_Mo_net (l : Launch) (D : va_G) (N0 : Nat) (k : Nat → Nat) (V : HV) (mo : Nat) (ad : Nat → Nat) (ρ : MS) (hM : mdOk k V mo ad ρ) : Met l y_Mo_net (.code y_Mo_net b_Mo_net 1 (some .int) :: WS) ({ frames := 2, cells := 0, slots := 0, locals := 41 }) (mP D N0 k [.ref mo] V) (va_Qi (fun r V' => mdOk k V' mo ad (moNet ρ).2 ∧ mdFr mo ad V V' ∧ r = (moNet ρ).1) (mB D N0) (hA N0)) 0 0 (hA N0) := by
  refine Met.ofW (cc := b_Mo_net) (maxL := 1) (ret := (some .int)) (by decide) rfl ?_
  intro p e s m args below meth c s₁ B hml hv0
  obtain ⟨rfl, hG, hV⟩ := hv0
  have hx := B.exec
  have hb := B.bytes
  have hr := B.returns
  have hts := atoms_spec (ws := .code y_Mo_net b_Mo_net 1 (some .int) :: WS) B.pre
  have hW : ∀ w ∈ WS, w.before _ s = true := fun w h => hts w (List.mem_cons_of_mem _ h)
  have hown : s.vm.findClass "BoardHouseModel" = some m.cls := findClass_of_methodNamed B.named
  have hlocks := B.notSynchronized
  have hS : va_S (hA N0) s.heap s.heap [] := va_S.rf
  have hl := lv_entry ([.ref mo]) (n := 1) (Nat.le_of_ble_eq_true rfl)
  rw [lg_entry_eq]
  generalize (lg_sl ([.ref mo]) ++ List.replicate (1 - (lg_sl ([.ref mo])).length) Slot.unset).toArray = ls at hl ⊢
  have hl : lv_has ls 1 [(0, .ref mo)] := hl
  have hm_1 : V mo = some (.inr (7, [.int (ρ.s 0), .int (ρ.s 1), .int (ρ.s 2), .int (ρ.s 3), .ref (ad 0), .ref (ad 1), .ref (ad 2), .ref (ad 3), .ref (ad 4), .ref (ad 5), .ref (ad 6), .ref (ad 7), .ref (ad 8), .int (ρ.s 4), .ref (ad 9), .ref (ad 10), .ref (ad 11), .ref (ad 12), .ref (ad 13), .ref (ad 14), .ref (ad 15), .ref (ad 16), .ref (ad 17), .ref (ad 18), .ref (ad 19), .ref (ad 20), .ref (ad 21), .ref (ad 22), .ref (ad 23), .ref (ad 24), .ref (ad 25)])) := hM.1
  have hm_1_0 : V (ad 0) = some (eI k 8 (ρ.I 0)) := hM.a0
  refine lv_aload_n hx hb d_Mo_net_0 rfl (lv_at hl 0 rfl) ?_
  refine lv_iconst (v := 0) hx hb d_Mo_net_1 (by decide) ?_
  refine pf_Mo_100 hx hb hW hown hG hV hS hm_1 d_Mo_net_2 (fun H locs hV hS => ?_)
  replace hV : hv D vwCl N0 (hu V mo (.inr (7, [.int 0, .int (ρ.s 1), .int (ρ.s 2), .int (ρ.s 3), .ref (ad 0), .ref (ad 1), .ref (ad 2), .ref (ad 3), .ref (ad 4), .ref (ad 5), .ref (ad 6), .ref (ad 7), .ref (ad 8), .int (ρ.s 4), .ref (ad 9), .ref (ad 10), .ref (ad 11), .ref (ad 12), .ref (ad 13), .ref (ad 14), .ref (ad 15), .ref (ad 16), .ref (ad 17), .ref (ad 18), .ref (ad 19), .ref (ad 20), .ref (ad 21), .ref (ad 22), .ref (ad 23), .ref (ad 24), .ref (ad 25)]))) H := hV
  generalize hV_V_2 : hu V mo (.inr (7, [.int 0, .int (ρ.s 1), .int (ρ.s 2), .int (ρ.s 3), .ref (ad 0), .ref (ad 1), .ref (ad 2), .ref (ad 3), .ref (ad 4), .ref (ad 5), .ref (ad 6), .ref (ad 7), .ref (ad 8), .int (ρ.s 4), .ref (ad 9), .ref (ad 10), .ref (ad 11), .ref (ad 12), .ref (ad 13), .ref (ad 14), .ref (ad 15), .ref (ad 16), .ref (ad 17), .ref (ad 18), .ref (ad 19), .ref (ad 20), .ref (ad 21), .ref (ad 22), .ref (ad 23), .ref (ad 24), .ref (ad 25)])) = V_2 at hV
  have hM_2 : mdOk k V_2 mo ad (ρ.ws 0 0) := by rw [← hV_V_2]; exact md_put hM 0 0
  have hR_2 : mdFr mo ad V V_2 := by rw [← hV_V_2]; exact (mdFr.rf (mo := mo) (ad := ad) (V := V)).m
  have hm_3 : V_2 mo = some (.inr (7, [.int 0, .int (ρ.s 1), .int (ρ.s 2), .int (ρ.s 3), .ref (ad 0), .ref (ad 1), .ref (ad 2), .ref (ad 3), .ref (ad 4), .ref (ad 5), .ref (ad 6), .ref (ad 7), .ref (ad 8), .int (ρ.s 4), .ref (ad 9), .ref (ad 10), .ref (ad 11), .ref (ad 12), .ref (ad 13), .ref (ad 14), .ref (ad 15), .ref (ad 16), .ref (ad 17), .ref (ad 18), .ref (ad 19), .ref (ad 20), .ref (ad 21), .ref (ad 22), .ref (ad 23), .ref (ad 24), .ref (ad 25)])) := hM_2.1
  have hm_3_0 : V_2 (ad 0) = some (eI k 8 (ρ.I 0)) := hM_2.a0
  refine lv_aload_n hx hb d_Mo_net_5 rfl (lv_at hl 0 rfl) ?_
  refine lv_iconst (v := 1) hx hb d_Mo_net_6 (by decide) ?_
  refine rc_i (va_runV (As := [.int 1]) (rest := []) ⟨hx, hb, hml, hown, hts⟩ (c_Mo_isFull l D N0 k V_2 mo ad (ρ.ws 0 0) hM_2 1 (by omega) (by omega)) (cwV 1 hts (gi_V wm_Mo_152 wv_Mo_isFull ws_Mo_isFull wi_Mo wc_Mo_isFull) rfl rfl rfl (by decide +kernel) ⟨Nat.le_of_ble_eq_true rfl, Nat.le_of_ble_eq_true rfl⟩) (mP.preV hG hS hV hm_3 rfl) rfl rfl hl.1 rfl (lv_room (Nat.le_of_ble_eq_true rfl)) d_Mo_net_7 ⟨Nat.le_of_ble_eq_true rfl, Nat.le_of_ble_eq_true rfl⟩) hS (fun H locs hV hS => ?_)
  refine W.eq (g2 := F0 m 10 ls [.int (bI (decide ((ρ.I 0) 1 = nI (liN 1))))]) rfl ?_
  refine lv_if_eq (tgt := 19) hx hb d_Mo_net_10 (by decide) (fun c_4 => ?_) (fun c_4 => ?_)
  · refine lv_aload_n hx hb d_Mo_net_19 rfl (lv_at hl 0 rfl) ?_
    refine lv_iconst (v := 0) hx hb d_Mo_net_20 (by decide) ?_
    refine pf_Mo_149 hx hb hW hown hG hV hS hm_3 d_Mo_net_21 (fun H locs hV hS => ?_)
    replace hV : hv D vwCl N0 (hu V_2 mo (.inr (7, [.int 0, .int (ρ.s 1), .int (ρ.s 2), .int 0, .ref (ad 0), .ref (ad 1), .ref (ad 2), .ref (ad 3), .ref (ad 4), .ref (ad 5), .ref (ad 6), .ref (ad 7), .ref (ad 8), .int (ρ.s 4), .ref (ad 9), .ref (ad 10), .ref (ad 11), .ref (ad 12), .ref (ad 13), .ref (ad 14), .ref (ad 15), .ref (ad 16), .ref (ad 17), .ref (ad 18), .ref (ad 19), .ref (ad 20), .ref (ad 21), .ref (ad 22), .ref (ad 23), .ref (ad 24), .ref (ad 25)]))) H := hV
    generalize hV_V_5 : hu V_2 mo (.inr (7, [.int 0, .int (ρ.s 1), .int (ρ.s 2), .int 0, .ref (ad 0), .ref (ad 1), .ref (ad 2), .ref (ad 3), .ref (ad 4), .ref (ad 5), .ref (ad 6), .ref (ad 7), .ref (ad 8), .int (ρ.s 4), .ref (ad 9), .ref (ad 10), .ref (ad 11), .ref (ad 12), .ref (ad 13), .ref (ad 14), .ref (ad 15), .ref (ad 16), .ref (ad 17), .ref (ad 18), .ref (ad 19), .ref (ad 20), .ref (ad 21), .ref (ad 22), .ref (ad 23), .ref (ad 24), .ref (ad 25)])) = V_5 at hV
    have hM_5 : mdOk k V_5 mo ad ((ρ.ws 0 0).ws 3 0) := by rw [← hV_V_5]; exact md_put hM_2 3 0
    have hR_5 : mdFr mo ad V V_5 := by rw [← hV_V_5]; exact hR_2.m
    have hm_6 : V_5 mo = some (.inr (7, [.int 0, .int (ρ.s 1), .int (ρ.s 2), .int 0, .ref (ad 0), .ref (ad 1), .ref (ad 2), .ref (ad 3), .ref (ad 4), .ref (ad 5), .ref (ad 6), .ref (ad 7), .ref (ad 8), .int (ρ.s 4), .ref (ad 9), .ref (ad 10), .ref (ad 11), .ref (ad 12), .ref (ad 13), .ref (ad 14), .ref (ad 15), .ref (ad 16), .ref (ad 17), .ref (ad 18), .ref (ad 19), .ref (ad 20), .ref (ad 21), .ref (ad 22), .ref (ad 23), .ref (ad 24), .ref (ad 25)])) := hM_5.1
    have hm_6_0 : V_5 (ad 0) = some (eI k 8 (ρ.I 0)) := hM_5.a0
    refine lv_aload_n hx hb d_Mo_net_24 rfl (lv_at hl 0 rfl) ?_
    refine gf_Mo_7 hx hb hW hown hG hV hm_6 d_Mo_net_25 ?_
    refine lv_iconst (v := 1) hx hb d_Mo_net_28 (by decide) ?_
    refine lv_dup2_11 hx hb d_Mo_net_29 rfl rfl ?_
    refine hv_iald hx hb hG.K hV 0 hm_6_0 rfl ((vp_in_nI (by omega) (by omega) : vp_in (nI 1) 8)) d_Mo_net_30 ?_
    rw [show (1 : Int32).toNatClampNeg = 1 from rfl]
    refine lv_iconst (v := 1) hx hb d_Mo_net_31 (by decide) ?_
    refine lv_iadd hx hb d_Mo_net_32 ?_
    refine hv_iast hx hb hG.K hV hS 0 hm_6_0 rfl ((vp_in_nI (by omega) (by omega) : vp_in (nI 1) 8)) d_Mo_net_33 (fun H locs hV hS => ?_)
    rw [show (1 : Int32).toNatClampNeg = 1 from rfl] at hV
    replace hV : hv D vwCl N0 (hu V_5 (ad 0) (eI k 8 (upd (ρ.I 0) 1 (((ρ.I 0) 1) + 1)))) H := hV
    generalize hV_V_7 : hu V_5 (ad 0) (eI k 8 (upd (ρ.I 0) 1 (((ρ.I 0) 1) + 1))) = V_7 at hV
    have hM_7 : mdOk k V_7 mo ad (((ρ.ws 0 0).ws 3 0).wI 0 (upd (ρ.I 0) 1 (((ρ.I 0) 1) + 1))) := by rw [← hV_V_7]; exact md_set hM_5 0 (by omega) (upd (ρ.I 0) 1 (((ρ.I 0) 1) + 1))
    have hR_7 : mdFr mo ad V V_7 := by rw [← hV_V_7]; exact hR_5.ar (j := 0) (by omega)
    have hm_8 : V_7 mo = some (.inr (7, [.int 0, .int (ρ.s 1), .int (ρ.s 2), .int 0, .ref (ad 0), .ref (ad 1), .ref (ad 2), .ref (ad 3), .ref (ad 4), .ref (ad 5), .ref (ad 6), .ref (ad 7), .ref (ad 8), .int (ρ.s 4), .ref (ad 9), .ref (ad 10), .ref (ad 11), .ref (ad 12), .ref (ad 13), .ref (ad 14), .ref (ad 15), .ref (ad 16), .ref (ad 17), .ref (ad 18), .ref (ad 19), .ref (ad 20), .ref (ad 21), .ref (ad 22), .ref (ad 23), .ref (ad 24), .ref (ad 25)])) := hM_7.1
    have hm_8_0 : V_7 (ad 0) = some (eI k 8 (upd (ρ.I 0) 1 (((ρ.I 0) 1) + 1))) := hM_7.a0
    refine lv_sipush (v := 999) hx hb d_Mo_net_34 (by decide) ?_
    refine lv_aload_n hx hb d_Mo_net_37 rfl (lv_at hl 0 rfl) ?_
    refine gf_Mo_7 hx hb hW hown hG hV hm_8 d_Mo_net_38 ?_
    refine lv_iconst (v := 1) hx hb d_Mo_net_41 (by decide) ?_
    refine hv_iald hx hb hG.K hV 0 hm_8_0 rfl ((vp_in_nI (by omega) (by omega) : vp_in (nI 1) 8)) d_Mo_net_42 ?_
    rw [show (1 : Int32).toNatClampNeg = 1 from rfl]
    refine lv_iadd hx hb d_Mo_net_43 ?_
    try simp only [bI_ne0, bI_eq0, decide_eq_true_eq, decide_eq_false_iff_not, Bool.not_eq_false, Bool.not_eq_true, Decidable.not_not] at c_4
    have hfin : moNet ρ = ((999 + ((upd (ρ.I 0) 1 (((ρ.I 0) 1) + 1)) 1)), (((ρ.ws 0 0).ws 3 0).wI 0 (upd (ρ.I 0) 1 (((ρ.I 0) 1) + 1)))) := by first | (simp only [moNet, c_4, decide_true, decide_false, Bool.true_and, Bool.and_true, Bool.false_and, Bool.and_false, Bool.true_or, Bool.or_true, Bool.false_or, Bool.or_false, Bool.not_true, Bool.not_false, if_true, if_false, Bool.false_eq_true, Bool.true_eq_false, reduceIte, eq_self, up_s]; done) | (simp [moNet, c_4, up_s]; done) | (simp_all [moNet, up_s]; done)
    exact W.iret (v := (999 + ((upd (ρ.I 0) 1 (((ρ.I 0) 1) + 1)) 1))) hx hb hr (fun t9 ht hW => ⟨⟨(999 + ((upd (ρ.I 0) 1 (((ρ.I 0) 1) + 1)) 1)), V_7, rfl, ⟨by rw [hfin]; exact hM_7, hR_7, by rw [hfin]⟩, mB_of ht hV⟩, hS.F ht⟩) hS.2.2 d_Mo_net_44
  · refine lv_aload_n hx hb d_Mo_net_13 rfl (lv_at hl 0 rfl) ?_
    refine lv_iconst (v := 1) hx hb d_Mo_net_14 (by decide) ?_
    refine rc_I (va_runV (As := [.int 1]) (rest := []) ⟨hx, hb, hml, hown, hts⟩ (c_Mo_refuse l D N0 k V_2 mo ad (ρ.ws 0 0) hM_2 1) (cwV 1 hts (gi_V wm_Mo_155 wv_Mo_refuse ws_Mo_refuse wi_Mo wc_Mo_refuse) rfl rfl rfl (by decide +kernel) ⟨Nat.le_of_ble_eq_true rfl, Nat.le_of_ble_eq_true rfl⟩) (mP.preV hG hS hV hm_3 rfl) rfl rfl hl.1 rfl (lv_room (Nat.le_of_ble_eq_true rfl)) d_Mo_net_15 ⟨Nat.le_of_ble_eq_true rfl, Nat.le_of_ble_eq_true rfl⟩) hS (fun r_9 V_10 H locs hp_11 hV hS => ?_)
    obtain ⟨hM_12, hM_12R, hM_12e⟩ := hp_11
    subst hM_12e
    try simp only [bI_ne0, bI_eq0, decide_eq_true_eq, decide_eq_false_iff_not, Bool.not_eq_false, Bool.not_eq_true, Decidable.not_not] at c_4
    have hfin : moNet ρ = ((-1), ((ρ.ws 0 0).ws 3 1)) := by first | (simp only [moNet, c_4, decide_true, decide_false, Bool.true_and, Bool.and_true, Bool.false_and, Bool.and_false, Bool.true_or, Bool.or_true, Bool.false_or, Bool.or_false, Bool.not_true, Bool.not_false, if_true, if_false, Bool.false_eq_true, Bool.true_eq_false, reduceIte, eq_self, up_s]; done) | (simp [moNet, c_4, up_s]; done) | (simp_all [moNet, up_s]; done)
    exact W.iret (v := (-1)) hx hb hr (fun t9 ht hW => ⟨⟨(-1), V_10, rfl, ⟨by rw [hfin]; exact hM_12, hR_2.tr hM_12R, by rw [hfin]⟩, mB_of ht hV⟩, hS.F ht⟩) hS.2.2 d_Mo_net_18
set_option maxHeartbeats 4000000 in
set_option maxRecDepth 100000 in
/-- part -/
theorem c_Mo_part (l : Launch) (D : va_G) (N0 : Nat) (k : Nat → Nat) (V : HV) (mo : Nat) (ad : Nat → Nat) (ρ : MS) (hM : mdOk k V mo ad ρ) (w0 h0 x y sd : Int32) (n2 : Nat) (hn2 : n2 ≤ 20) (en2 : ρ.I 0 2 = nI n2) (n6 : Nat) (hn6 : n6 ≤ 10) (en6 : ρ.I 0 6 = nI n6) (hwo : moWo ρ) : Met l y_Mo_part (.code y_Mo_part b_Mo_part 7 (some .int) :: WS) ({ frames := 3, cells := 0, slots := 0, locals := 69 }) (mP D N0 k [.ref mo, .int w0, .int h0, .int x, .int y, .int sd] V) (va_Qi (fun r V' => mdOk k V' mo ad (moPart ρ n2 n6 w0 h0 x y sd).2 ∧ mdFr mo ad V V' ∧ r = (moPart ρ n2 n6 w0 h0 x y sd).1) (mB D N0) (hA N0)) 0 0 (hA N0) := by
  refine Met.ofW (cc := b_Mo_part) (maxL := 7) (ret := (some .int)) (by decide) rfl ?_
  intro p e s m args below meth c s₁ B hml hv0
  obtain ⟨rfl, hG, hV⟩ := hv0
  have hx := B.exec
  have hb := B.bytes
  have hr := B.returns
  have hts := atoms_spec (ws := .code y_Mo_part b_Mo_part 7 (some .int) :: WS) B.pre
  have hW : ∀ w ∈ WS, w.before _ s = true := fun w h => hts w (List.mem_cons_of_mem _ h)
  have hown : s.vm.findClass "BoardHouseModel" = some m.cls := findClass_of_methodNamed B.named
  have hlocks := B.notSynchronized
  have hS : va_S (hA N0) s.heap s.heap [] := va_S.rf
  have hl := lv_entry ([.ref mo, .int w0, .int h0, .int x, .int y, .int sd]) (n := 7) (Nat.le_of_ble_eq_true rfl)
  rw [lg_entry_eq]
  generalize (lg_sl ([.ref mo, .int w0, .int h0, .int x, .int y, .int sd]) ++ List.replicate (7 - (lg_sl ([.ref mo, .int w0, .int h0, .int x, .int y, .int sd])).length) Slot.unset).toArray = ls at hl ⊢
  have hl : lv_has ls 7 [(0, .ref mo), (1, .int w0), (2, .int h0), (3, .int x), (4, .int y), (5, .int sd)] := hl
  have hm_1 : V mo = some (.inr (7, [.int (ρ.s 0), .int (ρ.s 1), .int (ρ.s 2), .int (ρ.s 3), .ref (ad 0), .ref (ad 1), .ref (ad 2), .ref (ad 3), .ref (ad 4), .ref (ad 5), .ref (ad 6), .ref (ad 7), .ref (ad 8), .int (ρ.s 4), .ref (ad 9), .ref (ad 10), .ref (ad 11), .ref (ad 12), .ref (ad 13), .ref (ad 14), .ref (ad 15), .ref (ad 16), .ref (ad 17), .ref (ad 18), .ref (ad 19), .ref (ad 20), .ref (ad 21), .ref (ad 22), .ref (ad 23), .ref (ad 24), .ref (ad 25)])) := hM.1
  refine lv_iload_n hx hb d_Mo_part_0 rfl (lv_at hl 1 rfl) ?_
  refine lv_iconst (v := 1) hx hb d_Mo_part_1 (by decide) ?_
  refine lv_icmp_lt (tgt := 37) hx hb d_Mo_part_2 (by decide) (fun c_2 => ?_) (fun c_2 => ?_)
  · have c_2 := i_nle c_2
    refine lv_iconst (v := 0) hx hb d_Mo_part_37 (by decide) ?_
    refine lv_istore (lv' := [(6, .int 0), (0, .ref mo), (1, .int w0), (2, .int h0), (3, .int x), (4, .int y), (5, .int sd)]) hx hb d_Mo_part_38 hl (by decide) rfl (fun ls hl => ?_)
    refine lv_aload_n hx hb d_Mo_part_40 rfl (lv_at hl 1 rfl) ?_
    refine lv_iload hx hb d_Mo_part_41 (lv_at hl 0 rfl) ?_
    refine lv_if_eq (tgt := 50) hx hb d_Mo_part_43 (by decide) (fun _ => ?_) (fun q => absurd q (by decide))
    refine lv_iconst (v := 1) hx hb d_Mo_part_50 (by decide) ?_
    refine pf_Mo_100 hx hb hW hown hG hV hS hm_1 d_Mo_part_51 (fun H locs hV hS => ?_)
    replace hV : hv D vwCl N0 (hu V mo (.inr (7, [.int 1, .int (ρ.s 1), .int (ρ.s 2), .int (ρ.s 3), .ref (ad 0), .ref (ad 1), .ref (ad 2), .ref (ad 3), .ref (ad 4), .ref (ad 5), .ref (ad 6), .ref (ad 7), .ref (ad 8), .int (ρ.s 4), .ref (ad 9), .ref (ad 10), .ref (ad 11), .ref (ad 12), .ref (ad 13), .ref (ad 14), .ref (ad 15), .ref (ad 16), .ref (ad 17), .ref (ad 18), .ref (ad 19), .ref (ad 20), .ref (ad 21), .ref (ad 22), .ref (ad 23), .ref (ad 24), .ref (ad 25)]))) H := hV
    generalize hV_V_3 : hu V mo (.inr (7, [.int 1, .int (ρ.s 1), .int (ρ.s 2), .int (ρ.s 3), .ref (ad 0), .ref (ad 1), .ref (ad 2), .ref (ad 3), .ref (ad 4), .ref (ad 5), .ref (ad 6), .ref (ad 7), .ref (ad 8), .int (ρ.s 4), .ref (ad 9), .ref (ad 10), .ref (ad 11), .ref (ad 12), .ref (ad 13), .ref (ad 14), .ref (ad 15), .ref (ad 16), .ref (ad 17), .ref (ad 18), .ref (ad 19), .ref (ad 20), .ref (ad 21), .ref (ad 22), .ref (ad 23), .ref (ad 24), .ref (ad 25)])) = V_3 at hV
    have hM_3 : mdOk k V_3 mo ad (ρ.ws 0 1) := by rw [← hV_V_3]; exact md_put hM 0 1
    have hR_3 : mdFr mo ad V V_3 := by rw [← hV_V_3]; exact (mdFr.rf (mo := mo) (ad := ad) (V := V)).m
    have hm_4 : V_3 mo = some (.inr (7, [.int 1, .int (ρ.s 1), .int (ρ.s 2), .int (ρ.s 3), .ref (ad 0), .ref (ad 1), .ref (ad 2), .ref (ad 3), .ref (ad 4), .ref (ad 5), .ref (ad 6), .ref (ad 7), .ref (ad 8), .int (ρ.s 4), .ref (ad 9), .ref (ad 10), .ref (ad 11), .ref (ad 12), .ref (ad 13), .ref (ad 14), .ref (ad 15), .ref (ad 16), .ref (ad 17), .ref (ad 18), .ref (ad 19), .ref (ad 20), .ref (ad 21), .ref (ad 22), .ref (ad 23), .ref (ad 24), .ref (ad 25)])) := hM_3.1
    refine lv_aload_n hx hb d_Mo_part_54 rfl (lv_at hl 1 rfl) ?_
    refine gf_Mo_100 hx hb hW hown hG hV hm_4 d_Mo_part_55 ?_
    refine lv_if_eq (tgt := 63) hx hb d_Mo_part_58 (by decide) (fun q => absurd q (by decide)) (fun _ => ?_)
    refine lv_iconst (v := 0) hx hb d_Mo_part_61 (by decide) ?_
    try simp only [bI_ne0, bI_eq0, decide_eq_true_eq, decide_eq_false_iff_not, Bool.not_eq_false, Bool.not_eq_true, Decidable.not_not] at c_2
    have hfin : moPart ρ n2 n6 w0 h0 x y sd = (0, (ρ.ws 0 1)) := by first | (simp only [moPart, ptOk, c_2, decide_true, decide_false, Bool.true_and, Bool.and_true, Bool.false_and, Bool.and_false, Bool.true_or, Bool.or_true, Bool.false_or, Bool.or_false, Bool.not_true, Bool.not_false, if_true, if_false, Bool.false_eq_true, Bool.true_eq_false, reduceIte, eq_self]; done) | (simp [moPart, ptOk, c_2]; done) | (simp_all [moPart, ptOk]; done)
    exact W.iret (v := 0) hx hb hr (fun t9 ht hW => ⟨⟨0, V_3, rfl, ⟨by rw [hfin]; exact hM_3, hR_3, by rw [hfin]⟩, mB_of ht hV⟩, hS.F ht⟩) hS.2.2 d_Mo_part_62
  · have c_2 := i_le c_2
    refine lv_iload_n hx hb d_Mo_part_5 rfl (lv_at hl 1 rfl) ?_
    refine lv_bipush (v := 8) hx hb d_Mo_part_6 (by decide) ?_
    refine lv_icmp_gt (tgt := 37) hx hb d_Mo_part_8 (by decide) (fun c_5 => ?_) (fun c_5 => ?_)
    · have c_5 := i_nle c_5
      refine lv_iconst (v := 0) hx hb d_Mo_part_37 (by decide) ?_
      refine lv_istore (lv' := [(6, .int 0), (0, .ref mo), (1, .int w0), (2, .int h0), (3, .int x), (4, .int y), (5, .int sd)]) hx hb d_Mo_part_38 hl (by decide) rfl (fun ls hl => ?_)
      refine lv_aload_n hx hb d_Mo_part_40 rfl (lv_at hl 1 rfl) ?_
      refine lv_iload hx hb d_Mo_part_41 (lv_at hl 0 rfl) ?_
      refine lv_if_eq (tgt := 50) hx hb d_Mo_part_43 (by decide) (fun _ => ?_) (fun q => absurd q (by decide))
      refine lv_iconst (v := 1) hx hb d_Mo_part_50 (by decide) ?_
      refine pf_Mo_100 hx hb hW hown hG hV hS hm_1 d_Mo_part_51 (fun H locs hV hS => ?_)
      replace hV : hv D vwCl N0 (hu V mo (.inr (7, [.int 1, .int (ρ.s 1), .int (ρ.s 2), .int (ρ.s 3), .ref (ad 0), .ref (ad 1), .ref (ad 2), .ref (ad 3), .ref (ad 4), .ref (ad 5), .ref (ad 6), .ref (ad 7), .ref (ad 8), .int (ρ.s 4), .ref (ad 9), .ref (ad 10), .ref (ad 11), .ref (ad 12), .ref (ad 13), .ref (ad 14), .ref (ad 15), .ref (ad 16), .ref (ad 17), .ref (ad 18), .ref (ad 19), .ref (ad 20), .ref (ad 21), .ref (ad 22), .ref (ad 23), .ref (ad 24), .ref (ad 25)]))) H := hV
      generalize hV_V_6 : hu V mo (.inr (7, [.int 1, .int (ρ.s 1), .int (ρ.s 2), .int (ρ.s 3), .ref (ad 0), .ref (ad 1), .ref (ad 2), .ref (ad 3), .ref (ad 4), .ref (ad 5), .ref (ad 6), .ref (ad 7), .ref (ad 8), .int (ρ.s 4), .ref (ad 9), .ref (ad 10), .ref (ad 11), .ref (ad 12), .ref (ad 13), .ref (ad 14), .ref (ad 15), .ref (ad 16), .ref (ad 17), .ref (ad 18), .ref (ad 19), .ref (ad 20), .ref (ad 21), .ref (ad 22), .ref (ad 23), .ref (ad 24), .ref (ad 25)])) = V_6 at hV
      have hM_6 : mdOk k V_6 mo ad (ρ.ws 0 1) := by rw [← hV_V_6]; exact md_put hM 0 1
      have hR_6 : mdFr mo ad V V_6 := by rw [← hV_V_6]; exact (mdFr.rf (mo := mo) (ad := ad) (V := V)).m
      have hm_7 : V_6 mo = some (.inr (7, [.int 1, .int (ρ.s 1), .int (ρ.s 2), .int (ρ.s 3), .ref (ad 0), .ref (ad 1), .ref (ad 2), .ref (ad 3), .ref (ad 4), .ref (ad 5), .ref (ad 6), .ref (ad 7), .ref (ad 8), .int (ρ.s 4), .ref (ad 9), .ref (ad 10), .ref (ad 11), .ref (ad 12), .ref (ad 13), .ref (ad 14), .ref (ad 15), .ref (ad 16), .ref (ad 17), .ref (ad 18), .ref (ad 19), .ref (ad 20), .ref (ad 21), .ref (ad 22), .ref (ad 23), .ref (ad 24), .ref (ad 25)])) := hM_6.1
      refine lv_aload_n hx hb d_Mo_part_54 rfl (lv_at hl 1 rfl) ?_
      refine gf_Mo_100 hx hb hW hown hG hV hm_7 d_Mo_part_55 ?_
      refine lv_if_eq (tgt := 63) hx hb d_Mo_part_58 (by decide) (fun q => absurd q (by decide)) (fun _ => ?_)
      refine lv_iconst (v := 0) hx hb d_Mo_part_61 (by decide) ?_
      try simp only [bI_ne0, bI_eq0, decide_eq_true_eq, decide_eq_false_iff_not, Bool.not_eq_false, Bool.not_eq_true, Decidable.not_not] at c_2
      try simp only [bI_ne0, bI_eq0, decide_eq_true_eq, decide_eq_false_iff_not, Bool.not_eq_false, Bool.not_eq_true, Decidable.not_not] at c_5
      have hfin : moPart ρ n2 n6 w0 h0 x y sd = (0, (ρ.ws 0 1)) := by first | (simp only [moPart, ptOk, c_2, c_5, decide_true, decide_false, Bool.true_and, Bool.and_true, Bool.false_and, Bool.and_false, Bool.true_or, Bool.or_true, Bool.false_or, Bool.or_false, Bool.not_true, Bool.not_false, if_true, if_false, Bool.false_eq_true, Bool.true_eq_false, reduceIte, eq_self]; done) | (simp [moPart, ptOk, c_2, c_5]; done) | (simp_all [moPart, ptOk]; done)
      exact W.iret (v := 0) hx hb hr (fun t9 ht hW => ⟨⟨0, V_6, rfl, ⟨by rw [hfin]; exact hM_6, hR_6, by rw [hfin]⟩, mB_of ht hV⟩, hS.F ht⟩) hS.2.2 d_Mo_part_62
    · have c_5 := i_le c_5
      refine lv_iload_n hx hb d_Mo_part_11 rfl (lv_at hl 2 rfl) ?_
      refine lv_iconst (v := 1) hx hb d_Mo_part_12 (by decide) ?_
      refine lv_icmp_lt (tgt := 37) hx hb d_Mo_part_13 (by decide) (fun c_8 => ?_) (fun c_8 => ?_)
      · have c_8 := i_nle c_8
        refine lv_iconst (v := 0) hx hb d_Mo_part_37 (by decide) ?_
        refine lv_istore (lv' := [(6, .int 0), (0, .ref mo), (1, .int w0), (2, .int h0), (3, .int x), (4, .int y), (5, .int sd)]) hx hb d_Mo_part_38 hl (by decide) rfl (fun ls hl => ?_)
        refine lv_aload_n hx hb d_Mo_part_40 rfl (lv_at hl 1 rfl) ?_
        refine lv_iload hx hb d_Mo_part_41 (lv_at hl 0 rfl) ?_
        refine lv_if_eq (tgt := 50) hx hb d_Mo_part_43 (by decide) (fun _ => ?_) (fun q => absurd q (by decide))
        refine lv_iconst (v := 1) hx hb d_Mo_part_50 (by decide) ?_
        refine pf_Mo_100 hx hb hW hown hG hV hS hm_1 d_Mo_part_51 (fun H locs hV hS => ?_)
        replace hV : hv D vwCl N0 (hu V mo (.inr (7, [.int 1, .int (ρ.s 1), .int (ρ.s 2), .int (ρ.s 3), .ref (ad 0), .ref (ad 1), .ref (ad 2), .ref (ad 3), .ref (ad 4), .ref (ad 5), .ref (ad 6), .ref (ad 7), .ref (ad 8), .int (ρ.s 4), .ref (ad 9), .ref (ad 10), .ref (ad 11), .ref (ad 12), .ref (ad 13), .ref (ad 14), .ref (ad 15), .ref (ad 16), .ref (ad 17), .ref (ad 18), .ref (ad 19), .ref (ad 20), .ref (ad 21), .ref (ad 22), .ref (ad 23), .ref (ad 24), .ref (ad 25)]))) H := hV
        generalize hV_V_9 : hu V mo (.inr (7, [.int 1, .int (ρ.s 1), .int (ρ.s 2), .int (ρ.s 3), .ref (ad 0), .ref (ad 1), .ref (ad 2), .ref (ad 3), .ref (ad 4), .ref (ad 5), .ref (ad 6), .ref (ad 7), .ref (ad 8), .int (ρ.s 4), .ref (ad 9), .ref (ad 10), .ref (ad 11), .ref (ad 12), .ref (ad 13), .ref (ad 14), .ref (ad 15), .ref (ad 16), .ref (ad 17), .ref (ad 18), .ref (ad 19), .ref (ad 20), .ref (ad 21), .ref (ad 22), .ref (ad 23), .ref (ad 24), .ref (ad 25)])) = V_9 at hV
        have hM_9 : mdOk k V_9 mo ad (ρ.ws 0 1) := by rw [← hV_V_9]; exact md_put hM 0 1
        have hR_9 : mdFr mo ad V V_9 := by rw [← hV_V_9]; exact (mdFr.rf (mo := mo) (ad := ad) (V := V)).m
        have hm_10 : V_9 mo = some (.inr (7, [.int 1, .int (ρ.s 1), .int (ρ.s 2), .int (ρ.s 3), .ref (ad 0), .ref (ad 1), .ref (ad 2), .ref (ad 3), .ref (ad 4), .ref (ad 5), .ref (ad 6), .ref (ad 7), .ref (ad 8), .int (ρ.s 4), .ref (ad 9), .ref (ad 10), .ref (ad 11), .ref (ad 12), .ref (ad 13), .ref (ad 14), .ref (ad 15), .ref (ad 16), .ref (ad 17), .ref (ad 18), .ref (ad 19), .ref (ad 20), .ref (ad 21), .ref (ad 22), .ref (ad 23), .ref (ad 24), .ref (ad 25)])) := hM_9.1
        refine lv_aload_n hx hb d_Mo_part_54 rfl (lv_at hl 1 rfl) ?_
        refine gf_Mo_100 hx hb hW hown hG hV hm_10 d_Mo_part_55 ?_
        refine lv_if_eq (tgt := 63) hx hb d_Mo_part_58 (by decide) (fun q => absurd q (by decide)) (fun _ => ?_)
        refine lv_iconst (v := 0) hx hb d_Mo_part_61 (by decide) ?_
        try simp only [bI_ne0, bI_eq0, decide_eq_true_eq, decide_eq_false_iff_not, Bool.not_eq_false, Bool.not_eq_true, Decidable.not_not] at c_2
        try simp only [bI_ne0, bI_eq0, decide_eq_true_eq, decide_eq_false_iff_not, Bool.not_eq_false, Bool.not_eq_true, Decidable.not_not] at c_5
        try simp only [bI_ne0, bI_eq0, decide_eq_true_eq, decide_eq_false_iff_not, Bool.not_eq_false, Bool.not_eq_true, Decidable.not_not] at c_8
        have hfin : moPart ρ n2 n6 w0 h0 x y sd = (0, (ρ.ws 0 1)) := by first | (simp only [moPart, ptOk, c_2, c_5, c_8, decide_true, decide_false, Bool.true_and, Bool.and_true, Bool.false_and, Bool.and_false, Bool.true_or, Bool.or_true, Bool.false_or, Bool.or_false, Bool.not_true, Bool.not_false, if_true, if_false, Bool.false_eq_true, Bool.true_eq_false, reduceIte, eq_self]; done) | (simp [moPart, ptOk, c_2, c_5, c_8]; done) | (simp_all [moPart, ptOk]; done)
        exact W.iret (v := 0) hx hb hr (fun t9 ht hW => ⟨⟨0, V_9, rfl, ⟨by rw [hfin]; exact hM_9, hR_9, by rw [hfin]⟩, mB_of ht hV⟩, hS.F ht⟩) hS.2.2 d_Mo_part_62
      · have c_8 := i_le c_8
        refine lv_iload_n hx hb d_Mo_part_16 rfl (lv_at hl 2 rfl) ?_
        refine lv_bipush (v := 8) hx hb d_Mo_part_17 (by decide) ?_
        refine lv_icmp_gt (tgt := 37) hx hb d_Mo_part_19 (by decide) (fun c_11 => ?_) (fun c_11 => ?_)
        · have c_11 := i_nle c_11
          refine lv_iconst (v := 0) hx hb d_Mo_part_37 (by decide) ?_
          refine lv_istore (lv' := [(6, .int 0), (0, .ref mo), (1, .int w0), (2, .int h0), (3, .int x), (4, .int y), (5, .int sd)]) hx hb d_Mo_part_38 hl (by decide) rfl (fun ls hl => ?_)
          refine lv_aload_n hx hb d_Mo_part_40 rfl (lv_at hl 1 rfl) ?_
          refine lv_iload hx hb d_Mo_part_41 (lv_at hl 0 rfl) ?_
          refine lv_if_eq (tgt := 50) hx hb d_Mo_part_43 (by decide) (fun _ => ?_) (fun q => absurd q (by decide))
          refine lv_iconst (v := 1) hx hb d_Mo_part_50 (by decide) ?_
          refine pf_Mo_100 hx hb hW hown hG hV hS hm_1 d_Mo_part_51 (fun H locs hV hS => ?_)
          replace hV : hv D vwCl N0 (hu V mo (.inr (7, [.int 1, .int (ρ.s 1), .int (ρ.s 2), .int (ρ.s 3), .ref (ad 0), .ref (ad 1), .ref (ad 2), .ref (ad 3), .ref (ad 4), .ref (ad 5), .ref (ad 6), .ref (ad 7), .ref (ad 8), .int (ρ.s 4), .ref (ad 9), .ref (ad 10), .ref (ad 11), .ref (ad 12), .ref (ad 13), .ref (ad 14), .ref (ad 15), .ref (ad 16), .ref (ad 17), .ref (ad 18), .ref (ad 19), .ref (ad 20), .ref (ad 21), .ref (ad 22), .ref (ad 23), .ref (ad 24), .ref (ad 25)]))) H := hV
          generalize hV_V_12 : hu V mo (.inr (7, [.int 1, .int (ρ.s 1), .int (ρ.s 2), .int (ρ.s 3), .ref (ad 0), .ref (ad 1), .ref (ad 2), .ref (ad 3), .ref (ad 4), .ref (ad 5), .ref (ad 6), .ref (ad 7), .ref (ad 8), .int (ρ.s 4), .ref (ad 9), .ref (ad 10), .ref (ad 11), .ref (ad 12), .ref (ad 13), .ref (ad 14), .ref (ad 15), .ref (ad 16), .ref (ad 17), .ref (ad 18), .ref (ad 19), .ref (ad 20), .ref (ad 21), .ref (ad 22), .ref (ad 23), .ref (ad 24), .ref (ad 25)])) = V_12 at hV
          have hM_12 : mdOk k V_12 mo ad (ρ.ws 0 1) := by rw [← hV_V_12]; exact md_put hM 0 1
          have hR_12 : mdFr mo ad V V_12 := by rw [← hV_V_12]; exact (mdFr.rf (mo := mo) (ad := ad) (V := V)).m
          have hm_13 : V_12 mo = some (.inr (7, [.int 1, .int (ρ.s 1), .int (ρ.s 2), .int (ρ.s 3), .ref (ad 0), .ref (ad 1), .ref (ad 2), .ref (ad 3), .ref (ad 4), .ref (ad 5), .ref (ad 6), .ref (ad 7), .ref (ad 8), .int (ρ.s 4), .ref (ad 9), .ref (ad 10), .ref (ad 11), .ref (ad 12), .ref (ad 13), .ref (ad 14), .ref (ad 15), .ref (ad 16), .ref (ad 17), .ref (ad 18), .ref (ad 19), .ref (ad 20), .ref (ad 21), .ref (ad 22), .ref (ad 23), .ref (ad 24), .ref (ad 25)])) := hM_12.1
          refine lv_aload_n hx hb d_Mo_part_54 rfl (lv_at hl 1 rfl) ?_
          refine gf_Mo_100 hx hb hW hown hG hV hm_13 d_Mo_part_55 ?_
          refine lv_if_eq (tgt := 63) hx hb d_Mo_part_58 (by decide) (fun q => absurd q (by decide)) (fun _ => ?_)
          refine lv_iconst (v := 0) hx hb d_Mo_part_61 (by decide) ?_
          try simp only [bI_ne0, bI_eq0, decide_eq_true_eq, decide_eq_false_iff_not, Bool.not_eq_false, Bool.not_eq_true, Decidable.not_not] at c_2
          try simp only [bI_ne0, bI_eq0, decide_eq_true_eq, decide_eq_false_iff_not, Bool.not_eq_false, Bool.not_eq_true, Decidable.not_not] at c_5
          try simp only [bI_ne0, bI_eq0, decide_eq_true_eq, decide_eq_false_iff_not, Bool.not_eq_false, Bool.not_eq_true, Decidable.not_not] at c_8
          try simp only [bI_ne0, bI_eq0, decide_eq_true_eq, decide_eq_false_iff_not, Bool.not_eq_false, Bool.not_eq_true, Decidable.not_not] at c_11
          have hfin : moPart ρ n2 n6 w0 h0 x y sd = (0, (ρ.ws 0 1)) := by first | (simp only [moPart, ptOk, c_2, c_5, c_8, c_11, decide_true, decide_false, Bool.true_and, Bool.and_true, Bool.false_and, Bool.and_false, Bool.true_or, Bool.or_true, Bool.false_or, Bool.or_false, Bool.not_true, Bool.not_false, if_true, if_false, Bool.false_eq_true, Bool.true_eq_false, reduceIte, eq_self]; done) | (simp [moPart, ptOk, c_2, c_5, c_8, c_11]; done) | (simp_all [moPart, ptOk]; done)
          exact W.iret (v := 0) hx hb hr (fun t9 ht hW => ⟨⟨0, V_12, rfl, ⟨by rw [hfin]; exact hM_12, hR_12, by rw [hfin]⟩, mB_of ht hV⟩, hS.F ht⟩) hS.2.2 d_Mo_part_62
        · have c_11 := i_le c_11
          refine lv_iload hx hb d_Mo_part_22 (lv_at hl 5 rfl) ?_
          refine lv_if_eq (tgt := 33) hx hb d_Mo_part_24 (by decide) (fun c_14 => ?_) (fun c_14 => ?_)
          · refine lv_iconst (v := 1) hx hb d_Mo_part_33 (by decide) ?_
            refine lv_goto (tgt := 38) hx hb d_Mo_part_34 (by decide) ?_
            refine lv_istore (lv' := [(6, .int 1), (0, .ref mo), (1, .int w0), (2, .int h0), (3, .int x), (4, .int y), (5, .int sd)]) hx hb d_Mo_part_38 hl (by decide) rfl (fun ls hl => ?_)
            refine lv_aload_n hx hb d_Mo_part_40 rfl (lv_at hl 1 rfl) ?_
            refine lv_iload hx hb d_Mo_part_41 (lv_at hl 0 rfl) ?_
            refine lv_if_eq (tgt := 50) hx hb d_Mo_part_43 (by decide) (fun q => absurd q (by decide)) (fun _ => ?_)
            refine lv_iconst (v := 0) hx hb d_Mo_part_46 (by decide) ?_
            refine lv_goto (tgt := 51) hx hb d_Mo_part_47 (by decide) ?_
            refine pf_Mo_100 hx hb hW hown hG hV hS hm_1 d_Mo_part_51 (fun H locs hV hS => ?_)
            replace hV : hv D vwCl N0 (hu V mo (.inr (7, [.int 0, .int (ρ.s 1), .int (ρ.s 2), .int (ρ.s 3), .ref (ad 0), .ref (ad 1), .ref (ad 2), .ref (ad 3), .ref (ad 4), .ref (ad 5), .ref (ad 6), .ref (ad 7), .ref (ad 8), .int (ρ.s 4), .ref (ad 9), .ref (ad 10), .ref (ad 11), .ref (ad 12), .ref (ad 13), .ref (ad 14), .ref (ad 15), .ref (ad 16), .ref (ad 17), .ref (ad 18), .ref (ad 19), .ref (ad 20), .ref (ad 21), .ref (ad 22), .ref (ad 23), .ref (ad 24), .ref (ad 25)]))) H := hV
            generalize hV_V_15 : hu V mo (.inr (7, [.int 0, .int (ρ.s 1), .int (ρ.s 2), .int (ρ.s 3), .ref (ad 0), .ref (ad 1), .ref (ad 2), .ref (ad 3), .ref (ad 4), .ref (ad 5), .ref (ad 6), .ref (ad 7), .ref (ad 8), .int (ρ.s 4), .ref (ad 9), .ref (ad 10), .ref (ad 11), .ref (ad 12), .ref (ad 13), .ref (ad 14), .ref (ad 15), .ref (ad 16), .ref (ad 17), .ref (ad 18), .ref (ad 19), .ref (ad 20), .ref (ad 21), .ref (ad 22), .ref (ad 23), .ref (ad 24), .ref (ad 25)])) = V_15 at hV
            have hM_15 : mdOk k V_15 mo ad (ρ.ws 0 0) := by rw [← hV_V_15]; exact md_put hM 0 0
            have hR_15 : mdFr mo ad V V_15 := by rw [← hV_V_15]; exact (mdFr.rf (mo := mo) (ad := ad) (V := V)).m
            have hm_16 : V_15 mo = some (.inr (7, [.int 0, .int (ρ.s 1), .int (ρ.s 2), .int (ρ.s 3), .ref (ad 0), .ref (ad 1), .ref (ad 2), .ref (ad 3), .ref (ad 4), .ref (ad 5), .ref (ad 6), .ref (ad 7), .ref (ad 8), .int (ρ.s 4), .ref (ad 9), .ref (ad 10), .ref (ad 11), .ref (ad 12), .ref (ad 13), .ref (ad 14), .ref (ad 15), .ref (ad 16), .ref (ad 17), .ref (ad 18), .ref (ad 19), .ref (ad 20), .ref (ad 21), .ref (ad 22), .ref (ad 23), .ref (ad 24), .ref (ad 25)])) := hM_15.1
            refine lv_aload_n hx hb d_Mo_part_54 rfl (lv_at hl 1 rfl) ?_
            refine gf_Mo_100 hx hb hW hown hG hV hm_16 d_Mo_part_55 ?_
            refine lv_if_eq (tgt := 63) hx hb d_Mo_part_58 (by decide) (fun _ => ?_) (fun q => absurd q (by decide))
            refine lv_aload_n hx hb d_Mo_part_63 rfl (lv_at hl 1 rfl) ?_
            refine lv_aload_n hx hb d_Mo_part_64 rfl (lv_at hl 1 rfl) ?_
            refine lv_iconst (v := 2) hx hb d_Mo_part_65 (by decide) ?_
            refine rc_i (va_runV (As := [.int 2]) (rest := [.ref mo]) ⟨hx, hb, hml, hown, hts⟩ (c_Mo_isFull l D N0 k V_15 mo ad (ρ.ws 0 0) hM_15 2 (by omega) (by omega)) (cwV 1 hts (gi_V wm_Mo_152 wv_Mo_isFull ws_Mo_isFull wi_Mo wc_Mo_isFull) rfl rfl rfl (by decide +kernel) ⟨Nat.le_of_ble_eq_true rfl, Nat.le_of_ble_eq_true rfl⟩) (mP.preV hG hS hV hm_16 rfl) rfl rfl hl.1 rfl (lv_room (Nat.le_of_ble_eq_true rfl)) d_Mo_part_66 ⟨Nat.le_of_ble_eq_true rfl, Nat.le_of_ble_eq_true rfl⟩) hS (fun H locs hV hS => ?_)
            refine W.eq (g2 := F0 m 69 ls [.int (bI (decide ((ρ.I 0) 2 = nI (liN 2)))), .ref mo]) rfl ?_
            refine lv_if_eq (tgt := 76) hx hb d_Mo_part_69 (by decide) (fun c_17 => ?_) (fun c_17 => ?_)
            · refine lv_iload_n hx hb d_Mo_part_76 rfl (lv_at hl 4 rfl) ?_
              refine lv_iload hx hb d_Mo_part_77 (lv_at hl 5 rfl) ?_
              refine lv_iload_n hx hb d_Mo_part_79 rfl (lv_at hl 2 rfl) ?_
              refine lv_iload_n hx hb d_Mo_part_80 rfl (lv_at hl 3 rfl) ?_
              refine rc_i (va_runS (As := [.int x, .int y, .int w0, .int h0]) (rest := [.ref mo]) ⟨hx, hb, hml, hown, hts⟩ (c_Mo_isBox l D N0 k V_15 x y w0 h0) (va_cwS 4 hts (gi_S wm_Mo_158 wt_Mo_isBox wi_Mo wc_Mo_isBox) rfl rfl rfl (by decide +kernel) ⟨Nat.le_of_ble_eq_true rfl, Nat.le_of_ble_eq_true rfl⟩) (mP.preS hG hS hV) rfl rfl hl.1 rfl (lv_room (Nat.le_of_ble_eq_true rfl)) d_Mo_part_81 ⟨Nat.le_of_ble_eq_true rfl, Nat.le_of_ble_eq_true rfl⟩) hS (fun H locs hV hS => ?_)
              refine lv_if_ne (tgt := 91) hx hb d_Mo_part_84 (by decide) (fun c_18 => ?_) (fun c_18 => ?_)
              · refine lv_aload_n hx hb d_Mo_part_91 rfl (lv_at hl 1 rfl) ?_
                refine lv_iload_n hx hb d_Mo_part_92 rfl (lv_at hl 4 rfl) ?_
                refine lv_iload hx hb d_Mo_part_93 (lv_at hl 5 rfl) ?_
                refine lv_iload_n hx hb d_Mo_part_95 rfl (lv_at hl 2 rfl) ?_
                refine lv_iload_n hx hb d_Mo_part_96 rfl (lv_at hl 3 rfl) ?_
                refine rc_i (va_runV (As := [.int x, .int y, .int w0, .int h0]) (rest := [.ref mo]) ⟨hx, hb, hml, hown, hts⟩ (c_Mo_isBarred l D N0 k V_15 mo ad (ρ.ws 0 0) hM_15 x y w0 h0 n6 hn6 en6 hwo) (cwV 4 hts (gi_V wm_Mo_122 wv_Mo_isBarred ws_Mo_isBarred wi_Mo wc_Mo_isBarred) rfl rfl rfl (by decide +kernel) ⟨Nat.le_of_ble_eq_true rfl, Nat.le_of_ble_eq_true rfl⟩) (mP.preV hG hS hV hm_16 rfl) rfl rfl hl.1 rfl (lv_room (Nat.le_of_ble_eq_true rfl)) d_Mo_part_97 ⟨Nat.le_of_ble_eq_true rfl, Nat.le_of_ble_eq_true rfl⟩) hS (fun H locs hV hS => ?_)
                refine W.eq (g2 := F0 m 100 ls [.int (bI (moBarr ρ n6 x y w0 h0)), .ref mo]) rfl ?_
                refine lv_if_eq (tgt := 107) hx hb d_Mo_part_100 (by decide) (fun c_19 => ?_) (fun c_19 => ?_)
                · refine lv_aload_n hx hb d_Mo_part_107 rfl (lv_at hl 1 rfl) ?_
                  refine lv_iconst (v := (-1)) hx hb d_Mo_part_108 (by decide) ?_
                  refine lv_iload_n hx hb d_Mo_part_109 rfl (lv_at hl 4 rfl) ?_
                  refine lv_iload hx hb d_Mo_part_110 (lv_at hl 5 rfl) ?_
                  refine lv_iload_n hx hb d_Mo_part_112 rfl (lv_at hl 2 rfl) ?_
                  refine lv_iload_n hx hb d_Mo_part_113 rfl (lv_at hl 3 rfl) ?_
                  refine lv_iload hx hb d_Mo_part_114 (lv_at hl 6 rfl) ?_
                  refine rc_i (va_runV (As := [.int (-1), .int x, .int y, .int w0, .int h0, .int sd]) (rest := [.ref mo]) ⟨hx, hb, hml, hown, hts⟩ (c_Mo_overlaps l D N0 k V_15 mo ad (ρ.ws 0 0) hM_15 (-1) x y w0 h0 sd n2 hn2 en2) (cwV 6 hts (gi_V wm_Mo_161 wv_Mo_overlaps ws_Mo_overlaps wi_Mo wc_Mo_overlaps) rfl rfl rfl (by decide +kernel) ⟨Nat.le_of_ble_eq_true rfl, Nat.le_of_ble_eq_true rfl⟩) (mP.preV hG hS hV hm_16 rfl) rfl rfl hl.1 rfl (lv_room (Nat.le_of_ble_eq_true rfl)) d_Mo_part_116 ⟨Nat.le_of_ble_eq_true rfl, Nat.le_of_ble_eq_true rfl⟩) hS (fun H locs hV hS => ?_)
                  refine W.eq (g2 := F0 m 119 ls [.int (bI (anyF (moOvP ρ.I (-1) x y w0 h0 sd) 0 n2)), .ref mo]) rfl ?_
                  refine lv_if_eq (tgt := 126) hx hb d_Mo_part_119 (by decide) (fun c_20 => ?_) (fun c_20 => ?_)
                  · refine lv_iconst (v := 0) hx hb d_Mo_part_126 (by decide) ?_
                    refine pf_Mo_149 hx hb hW hown hG hV hS hm_16 d_Mo_part_127 (fun H locs hV hS => ?_)
                    replace hV : hv D vwCl N0 (hu V_15 mo (.inr (7, [.int 0, .int (ρ.s 1), .int (ρ.s 2), .int 0, .ref (ad 0), .ref (ad 1), .ref (ad 2), .ref (ad 3), .ref (ad 4), .ref (ad 5), .ref (ad 6), .ref (ad 7), .ref (ad 8), .int (ρ.s 4), .ref (ad 9), .ref (ad 10), .ref (ad 11), .ref (ad 12), .ref (ad 13), .ref (ad 14), .ref (ad 15), .ref (ad 16), .ref (ad 17), .ref (ad 18), .ref (ad 19), .ref (ad 20), .ref (ad 21), .ref (ad 22), .ref (ad 23), .ref (ad 24), .ref (ad 25)]))) H := hV
                    generalize hV_V_21 : hu V_15 mo (.inr (7, [.int 0, .int (ρ.s 1), .int (ρ.s 2), .int 0, .ref (ad 0), .ref (ad 1), .ref (ad 2), .ref (ad 3), .ref (ad 4), .ref (ad 5), .ref (ad 6), .ref (ad 7), .ref (ad 8), .int (ρ.s 4), .ref (ad 9), .ref (ad 10), .ref (ad 11), .ref (ad 12), .ref (ad 13), .ref (ad 14), .ref (ad 15), .ref (ad 16), .ref (ad 17), .ref (ad 18), .ref (ad 19), .ref (ad 20), .ref (ad 21), .ref (ad 22), .ref (ad 23), .ref (ad 24), .ref (ad 25)])) = V_21 at hV
                    have hM_21 : mdOk k V_21 mo ad ((ρ.ws 0 0).ws 3 0) := by rw [← hV_V_21]; exact md_put hM_15 3 0
                    have hR_21 : mdFr mo ad V V_21 := by rw [← hV_V_21]; exact hR_15.m
                    have hm_22 : V_21 mo = some (.inr (7, [.int 0, .int (ρ.s 1), .int (ρ.s 2), .int 0, .ref (ad 0), .ref (ad 1), .ref (ad 2), .ref (ad 3), .ref (ad 4), .ref (ad 5), .ref (ad 6), .ref (ad 7), .ref (ad 8), .int (ρ.s 4), .ref (ad 9), .ref (ad 10), .ref (ad 11), .ref (ad 12), .ref (ad 13), .ref (ad 14), .ref (ad 15), .ref (ad 16), .ref (ad 17), .ref (ad 18), .ref (ad 19), .ref (ad 20), .ref (ad 21), .ref (ad 22), .ref (ad 23), .ref (ad 24), .ref (ad 25)])) := hM_21.1
                    refine lv_aload_n hx hb d_Mo_part_130 rfl (lv_at hl 1 rfl) ?_
                    refine gf_Mo_149 hx hb hW hown hG hV hm_22 d_Mo_part_131 ?_
                    refine lv_if_ne (tgt := 154) hx hb d_Mo_part_134 (by decide) (fun q => absurd q (by decide)) (fun _ => ?_)
                    have hlt2 : n2 < liN 2 := by have q := bI_eq0.mp c_17; rw [en2] at q; have q2 := of_decide_eq_false q; exact Nat.lt_of_le_of_ne hn2 (fun z => q2 (by rw [z]))
                    refine lv_aload_n hx hb d_Mo_part_137 rfl (lv_at hl 1 rfl) ?_
                    refine lv_iconst (v := 2) hx hb d_Mo_part_138 (by decide) ?_
                    refine lv_iconst (v := (-1)) hx hb d_Mo_part_139 (by decide) ?_
                    refine lv_iload hx hb d_Mo_part_140 (lv_at hl 6 rfl) ?_
                    refine lv_iload_n hx hb d_Mo_part_142 rfl (lv_at hl 4 rfl) ?_
                    refine lv_iload hx hb d_Mo_part_143 (lv_at hl 5 rfl) ?_
                    refine lv_iload_n hx hb d_Mo_part_145 rfl (lv_at hl 2 rfl) ?_
                    refine lv_iload_n hx hb d_Mo_part_146 rfl (lv_at hl 3 rfl) ?_
                    refine lv_iconst (v := (-1)) hx hb d_Mo_part_147 (by decide) ?_
                    refine rc_I (va_runV (As := [.int 2, .int (-1), .int sd, .int x, .int y, .int w0, .int h0, .int (-1)]) (rest := []) ⟨hx, hb, hml, hown, hts⟩ (c_Mo_make l D N0 k V_21 mo ad ((ρ.ws 0 0).ws 3 0) hM_21 (-1) sd x y w0 h0 (-1) 2 n2 (by omega) (by omega) en2 hlt2 hwo) (cwV 8 hts (gi_V wm_Mo_165 wv_Mo_make ws_Mo_make wi_Mo wc_Mo_make) rfl rfl rfl (by decide +kernel) ⟨Nat.le_of_ble_eq_true rfl, Nat.le_of_ble_eq_true rfl⟩) (mP.preV hG hS hV hm_22 rfl) rfl rfl hl.1 rfl (lv_room (Nat.le_of_ble_eq_true rfl)) d_Mo_part_148 ⟨Nat.le_of_ble_eq_true rfl, Nat.le_of_ble_eq_true rfl⟩) hS (fun r_23 V_24 H locs hp_25 hV hS => ?_)
                    obtain ⟨hM_26, hM_26R, hM_26e⟩ := hp_25
                    subst hM_26e
                    refine lv_goto (tgt := 155) hx hb d_Mo_part_151 (by decide) ?_
                    try simp only [bI_ne0, bI_eq0, decide_eq_true_eq, decide_eq_false_iff_not, Bool.not_eq_false, Bool.not_eq_true, Decidable.not_not] at c_2
                    try simp only [bI_ne0, bI_eq0, decide_eq_true_eq, decide_eq_false_iff_not, Bool.not_eq_false, Bool.not_eq_true, Decidable.not_not] at c_5
                    try simp only [bI_ne0, bI_eq0, decide_eq_true_eq, decide_eq_false_iff_not, Bool.not_eq_false, Bool.not_eq_true, Decidable.not_not] at c_8
                    try simp only [bI_ne0, bI_eq0, decide_eq_true_eq, decide_eq_false_iff_not, Bool.not_eq_false, Bool.not_eq_true, Decidable.not_not] at c_11
                    try simp only [bI_ne0, bI_eq0, decide_eq_true_eq, decide_eq_false_iff_not, Bool.not_eq_false, Bool.not_eq_true, Decidable.not_not] at c_14
                    try simp only [bI_ne0, bI_eq0, decide_eq_true_eq, decide_eq_false_iff_not, Bool.not_eq_false, Bool.not_eq_true, Decidable.not_not] at c_17
                    try simp only [bI_ne0, bI_eq0, decide_eq_true_eq, decide_eq_false_iff_not, Bool.not_eq_false, Bool.not_eq_true, Decidable.not_not] at c_18
                    try simp only [bI_ne0, bI_eq0, decide_eq_true_eq, decide_eq_false_iff_not, Bool.not_eq_false, Bool.not_eq_true, Decidable.not_not] at c_19
                    try simp only [bI_ne0, bI_eq0, decide_eq_true_eq, decide_eq_false_iff_not, Bool.not_eq_false, Bool.not_eq_true, Decidable.not_not] at c_20
                    have hfin : moPart ρ n2 n6 w0 h0 x y sd = ((moHan (nI (fiN 2 + n2))), (moMkS ((ρ.ws 0 0).ws 3 0) 2 (fiN 2 + n2) (-1) sd x y w0 h0 (-1))) := by first | (simp only [moPart, ptOk, c_2, c_5, c_8, c_11, c_14, c_17, c_18, c_19, c_20, decide_true, decide_false, Bool.true_and, Bool.and_true, Bool.false_and, Bool.and_false, Bool.true_or, Bool.or_true, Bool.false_or, Bool.or_false, Bool.not_true, Bool.not_false, if_true, if_false, Bool.false_eq_true, Bool.true_eq_false, reduceIte, eq_self]; done) | (simp [moPart, ptOk, c_2, c_5, c_8, c_11, c_14, c_17, c_18, c_19, c_20]; done) | (simp_all [moPart, ptOk]; done)
                    exact W.iret (v := (moHan (nI (fiN 2 + n2)))) hx hb hr (fun t9 ht hW => ⟨⟨(moHan (nI (fiN 2 + n2))), V_24, rfl, ⟨by rw [hfin]; exact hM_26, hR_21.tr hM_26R, by rw [hfin]⟩, mB_of ht hV⟩, hS.F ht⟩) hS.2.2 d_Mo_part_155
                  · refine lv_iconst (v := 4) hx hb d_Mo_part_122 (by decide) ?_
                    refine lv_goto (tgt := 127) hx hb d_Mo_part_123 (by decide) ?_
                    refine pf_Mo_149 hx hb hW hown hG hV hS hm_16 d_Mo_part_127 (fun H locs hV hS => ?_)
                    replace hV : hv D vwCl N0 (hu V_15 mo (.inr (7, [.int 0, .int (ρ.s 1), .int (ρ.s 2), .int 4, .ref (ad 0), .ref (ad 1), .ref (ad 2), .ref (ad 3), .ref (ad 4), .ref (ad 5), .ref (ad 6), .ref (ad 7), .ref (ad 8), .int (ρ.s 4), .ref (ad 9), .ref (ad 10), .ref (ad 11), .ref (ad 12), .ref (ad 13), .ref (ad 14), .ref (ad 15), .ref (ad 16), .ref (ad 17), .ref (ad 18), .ref (ad 19), .ref (ad 20), .ref (ad 21), .ref (ad 22), .ref (ad 23), .ref (ad 24), .ref (ad 25)]))) H := hV
                    generalize hV_V_27 : hu V_15 mo (.inr (7, [.int 0, .int (ρ.s 1), .int (ρ.s 2), .int 4, .ref (ad 0), .ref (ad 1), .ref (ad 2), .ref (ad 3), .ref (ad 4), .ref (ad 5), .ref (ad 6), .ref (ad 7), .ref (ad 8), .int (ρ.s 4), .ref (ad 9), .ref (ad 10), .ref (ad 11), .ref (ad 12), .ref (ad 13), .ref (ad 14), .ref (ad 15), .ref (ad 16), .ref (ad 17), .ref (ad 18), .ref (ad 19), .ref (ad 20), .ref (ad 21), .ref (ad 22), .ref (ad 23), .ref (ad 24), .ref (ad 25)])) = V_27 at hV
                    have hM_27 : mdOk k V_27 mo ad ((ρ.ws 0 0).ws 3 4) := by rw [← hV_V_27]; exact md_put hM_15 3 4
                    have hR_27 : mdFr mo ad V V_27 := by rw [← hV_V_27]; exact hR_15.m
                    have hm_28 : V_27 mo = some (.inr (7, [.int 0, .int (ρ.s 1), .int (ρ.s 2), .int 4, .ref (ad 0), .ref (ad 1), .ref (ad 2), .ref (ad 3), .ref (ad 4), .ref (ad 5), .ref (ad 6), .ref (ad 7), .ref (ad 8), .int (ρ.s 4), .ref (ad 9), .ref (ad 10), .ref (ad 11), .ref (ad 12), .ref (ad 13), .ref (ad 14), .ref (ad 15), .ref (ad 16), .ref (ad 17), .ref (ad 18), .ref (ad 19), .ref (ad 20), .ref (ad 21), .ref (ad 22), .ref (ad 23), .ref (ad 24), .ref (ad 25)])) := hM_27.1
                    refine lv_aload_n hx hb d_Mo_part_130 rfl (lv_at hl 1 rfl) ?_
                    refine gf_Mo_149 hx hb hW hown hG hV hm_28 d_Mo_part_131 ?_
                    refine lv_if_ne (tgt := 154) hx hb d_Mo_part_134 (by decide) (fun _ => ?_) (fun q => absurd q (by decide))
                    refine lv_iconst (v := (-1)) hx hb d_Mo_part_154 (by decide) ?_
                    try simp only [bI_ne0, bI_eq0, decide_eq_true_eq, decide_eq_false_iff_not, Bool.not_eq_false, Bool.not_eq_true, Decidable.not_not] at c_2
                    try simp only [bI_ne0, bI_eq0, decide_eq_true_eq, decide_eq_false_iff_not, Bool.not_eq_false, Bool.not_eq_true, Decidable.not_not] at c_5
                    try simp only [bI_ne0, bI_eq0, decide_eq_true_eq, decide_eq_false_iff_not, Bool.not_eq_false, Bool.not_eq_true, Decidable.not_not] at c_8
                    try simp only [bI_ne0, bI_eq0, decide_eq_true_eq, decide_eq_false_iff_not, Bool.not_eq_false, Bool.not_eq_true, Decidable.not_not] at c_11
                    try simp only [bI_ne0, bI_eq0, decide_eq_true_eq, decide_eq_false_iff_not, Bool.not_eq_false, Bool.not_eq_true, Decidable.not_not] at c_14
                    try simp only [bI_ne0, bI_eq0, decide_eq_true_eq, decide_eq_false_iff_not, Bool.not_eq_false, Bool.not_eq_true, Decidable.not_not] at c_17
                    try simp only [bI_ne0, bI_eq0, decide_eq_true_eq, decide_eq_false_iff_not, Bool.not_eq_false, Bool.not_eq_true, Decidable.not_not] at c_18
                    try simp only [bI_ne0, bI_eq0, decide_eq_true_eq, decide_eq_false_iff_not, Bool.not_eq_false, Bool.not_eq_true, Decidable.not_not] at c_19
                    try simp only [bI_ne0, bI_eq0, decide_eq_true_eq, decide_eq_false_iff_not, Bool.not_eq_false, Bool.not_eq_true, Decidable.not_not] at c_20
                    have hfin : moPart ρ n2 n6 w0 h0 x y sd = ((-1), ((ρ.ws 0 0).ws 3 4)) := by first | (simp only [moPart, ptOk, c_2, c_5, c_8, c_11, c_14, c_17, c_18, c_19, c_20, decide_true, decide_false, Bool.true_and, Bool.and_true, Bool.false_and, Bool.and_false, Bool.true_or, Bool.or_true, Bool.false_or, Bool.or_false, Bool.not_true, Bool.not_false, if_true, if_false, Bool.false_eq_true, Bool.true_eq_false, reduceIte, eq_self]; done) | (simp [moPart, ptOk, c_2, c_5, c_8, c_11, c_14, c_17, c_18, c_19, c_20]; done) | (simp_all [moPart, ptOk]; done)
                    exact W.iret (v := (-1)) hx hb hr (fun t9 ht hW => ⟨⟨(-1), V_27, rfl, ⟨by rw [hfin]; exact hM_27, hR_27, by rw [hfin]⟩, mB_of ht hV⟩, hS.F ht⟩) hS.2.2 d_Mo_part_155
                · refine lv_iconst (v := 3) hx hb d_Mo_part_103 (by decide) ?_
                  refine lv_goto (tgt := 127) hx hb d_Mo_part_104 (by decide) ?_
                  refine pf_Mo_149 hx hb hW hown hG hV hS hm_16 d_Mo_part_127 (fun H locs hV hS => ?_)
                  replace hV : hv D vwCl N0 (hu V_15 mo (.inr (7, [.int 0, .int (ρ.s 1), .int (ρ.s 2), .int 3, .ref (ad 0), .ref (ad 1), .ref (ad 2), .ref (ad 3), .ref (ad 4), .ref (ad 5), .ref (ad 6), .ref (ad 7), .ref (ad 8), .int (ρ.s 4), .ref (ad 9), .ref (ad 10), .ref (ad 11), .ref (ad 12), .ref (ad 13), .ref (ad 14), .ref (ad 15), .ref (ad 16), .ref (ad 17), .ref (ad 18), .ref (ad 19), .ref (ad 20), .ref (ad 21), .ref (ad 22), .ref (ad 23), .ref (ad 24), .ref (ad 25)]))) H := hV
                  generalize hV_V_29 : hu V_15 mo (.inr (7, [.int 0, .int (ρ.s 1), .int (ρ.s 2), .int 3, .ref (ad 0), .ref (ad 1), .ref (ad 2), .ref (ad 3), .ref (ad 4), .ref (ad 5), .ref (ad 6), .ref (ad 7), .ref (ad 8), .int (ρ.s 4), .ref (ad 9), .ref (ad 10), .ref (ad 11), .ref (ad 12), .ref (ad 13), .ref (ad 14), .ref (ad 15), .ref (ad 16), .ref (ad 17), .ref (ad 18), .ref (ad 19), .ref (ad 20), .ref (ad 21), .ref (ad 22), .ref (ad 23), .ref (ad 24), .ref (ad 25)])) = V_29 at hV
                  have hM_29 : mdOk k V_29 mo ad ((ρ.ws 0 0).ws 3 3) := by rw [← hV_V_29]; exact md_put hM_15 3 3
                  have hR_29 : mdFr mo ad V V_29 := by rw [← hV_V_29]; exact hR_15.m
                  have hm_30 : V_29 mo = some (.inr (7, [.int 0, .int (ρ.s 1), .int (ρ.s 2), .int 3, .ref (ad 0), .ref (ad 1), .ref (ad 2), .ref (ad 3), .ref (ad 4), .ref (ad 5), .ref (ad 6), .ref (ad 7), .ref (ad 8), .int (ρ.s 4), .ref (ad 9), .ref (ad 10), .ref (ad 11), .ref (ad 12), .ref (ad 13), .ref (ad 14), .ref (ad 15), .ref (ad 16), .ref (ad 17), .ref (ad 18), .ref (ad 19), .ref (ad 20), .ref (ad 21), .ref (ad 22), .ref (ad 23), .ref (ad 24), .ref (ad 25)])) := hM_29.1
                  refine lv_aload_n hx hb d_Mo_part_130 rfl (lv_at hl 1 rfl) ?_
                  refine gf_Mo_149 hx hb hW hown hG hV hm_30 d_Mo_part_131 ?_
                  refine lv_if_ne (tgt := 154) hx hb d_Mo_part_134 (by decide) (fun _ => ?_) (fun q => absurd q (by decide))
                  refine lv_iconst (v := (-1)) hx hb d_Mo_part_154 (by decide) ?_
                  try simp only [bI_ne0, bI_eq0, decide_eq_true_eq, decide_eq_false_iff_not, Bool.not_eq_false, Bool.not_eq_true, Decidable.not_not] at c_2
                  try simp only [bI_ne0, bI_eq0, decide_eq_true_eq, decide_eq_false_iff_not, Bool.not_eq_false, Bool.not_eq_true, Decidable.not_not] at c_5
                  try simp only [bI_ne0, bI_eq0, decide_eq_true_eq, decide_eq_false_iff_not, Bool.not_eq_false, Bool.not_eq_true, Decidable.not_not] at c_8
                  try simp only [bI_ne0, bI_eq0, decide_eq_true_eq, decide_eq_false_iff_not, Bool.not_eq_false, Bool.not_eq_true, Decidable.not_not] at c_11
                  try simp only [bI_ne0, bI_eq0, decide_eq_true_eq, decide_eq_false_iff_not, Bool.not_eq_false, Bool.not_eq_true, Decidable.not_not] at c_14
                  try simp only [bI_ne0, bI_eq0, decide_eq_true_eq, decide_eq_false_iff_not, Bool.not_eq_false, Bool.not_eq_true, Decidable.not_not] at c_17
                  try simp only [bI_ne0, bI_eq0, decide_eq_true_eq, decide_eq_false_iff_not, Bool.not_eq_false, Bool.not_eq_true, Decidable.not_not] at c_18
                  try simp only [bI_ne0, bI_eq0, decide_eq_true_eq, decide_eq_false_iff_not, Bool.not_eq_false, Bool.not_eq_true, Decidable.not_not] at c_19
                  have hfin : moPart ρ n2 n6 w0 h0 x y sd = ((-1), ((ρ.ws 0 0).ws 3 3)) := by first | (simp only [moPart, ptOk, c_2, c_5, c_8, c_11, c_14, c_17, c_18, c_19, decide_true, decide_false, Bool.true_and, Bool.and_true, Bool.false_and, Bool.and_false, Bool.true_or, Bool.or_true, Bool.false_or, Bool.or_false, Bool.not_true, Bool.not_false, if_true, if_false, Bool.false_eq_true, Bool.true_eq_false, reduceIte, eq_self]; done) | (simp [moPart, ptOk, c_2, c_5, c_8, c_11, c_14, c_17, c_18, c_19]; done) | (simp_all [moPart, ptOk]; done)
                  exact W.iret (v := (-1)) hx hb hr (fun t9 ht hW => ⟨⟨(-1), V_29, rfl, ⟨by rw [hfin]; exact hM_29, hR_29, by rw [hfin]⟩, mB_of ht hV⟩, hS.F ht⟩) hS.2.2 d_Mo_part_155
              · refine lv_iconst (v := 2) hx hb d_Mo_part_87 (by decide) ?_
                refine lv_goto (tgt := 127) hx hb d_Mo_part_88 (by decide) ?_
                refine pf_Mo_149 hx hb hW hown hG hV hS hm_16 d_Mo_part_127 (fun H locs hV hS => ?_)
                replace hV : hv D vwCl N0 (hu V_15 mo (.inr (7, [.int 0, .int (ρ.s 1), .int (ρ.s 2), .int 2, .ref (ad 0), .ref (ad 1), .ref (ad 2), .ref (ad 3), .ref (ad 4), .ref (ad 5), .ref (ad 6), .ref (ad 7), .ref (ad 8), .int (ρ.s 4), .ref (ad 9), .ref (ad 10), .ref (ad 11), .ref (ad 12), .ref (ad 13), .ref (ad 14), .ref (ad 15), .ref (ad 16), .ref (ad 17), .ref (ad 18), .ref (ad 19), .ref (ad 20), .ref (ad 21), .ref (ad 22), .ref (ad 23), .ref (ad 24), .ref (ad 25)]))) H := hV
                generalize hV_V_31 : hu V_15 mo (.inr (7, [.int 0, .int (ρ.s 1), .int (ρ.s 2), .int 2, .ref (ad 0), .ref (ad 1), .ref (ad 2), .ref (ad 3), .ref (ad 4), .ref (ad 5), .ref (ad 6), .ref (ad 7), .ref (ad 8), .int (ρ.s 4), .ref (ad 9), .ref (ad 10), .ref (ad 11), .ref (ad 12), .ref (ad 13), .ref (ad 14), .ref (ad 15), .ref (ad 16), .ref (ad 17), .ref (ad 18), .ref (ad 19), .ref (ad 20), .ref (ad 21), .ref (ad 22), .ref (ad 23), .ref (ad 24), .ref (ad 25)])) = V_31 at hV
                have hM_31 : mdOk k V_31 mo ad ((ρ.ws 0 0).ws 3 2) := by rw [← hV_V_31]; exact md_put hM_15 3 2
                have hR_31 : mdFr mo ad V V_31 := by rw [← hV_V_31]; exact hR_15.m
                have hm_32 : V_31 mo = some (.inr (7, [.int 0, .int (ρ.s 1), .int (ρ.s 2), .int 2, .ref (ad 0), .ref (ad 1), .ref (ad 2), .ref (ad 3), .ref (ad 4), .ref (ad 5), .ref (ad 6), .ref (ad 7), .ref (ad 8), .int (ρ.s 4), .ref (ad 9), .ref (ad 10), .ref (ad 11), .ref (ad 12), .ref (ad 13), .ref (ad 14), .ref (ad 15), .ref (ad 16), .ref (ad 17), .ref (ad 18), .ref (ad 19), .ref (ad 20), .ref (ad 21), .ref (ad 22), .ref (ad 23), .ref (ad 24), .ref (ad 25)])) := hM_31.1
                refine lv_aload_n hx hb d_Mo_part_130 rfl (lv_at hl 1 rfl) ?_
                refine gf_Mo_149 hx hb hW hown hG hV hm_32 d_Mo_part_131 ?_
                refine lv_if_ne (tgt := 154) hx hb d_Mo_part_134 (by decide) (fun _ => ?_) (fun q => absurd q (by decide))
                refine lv_iconst (v := (-1)) hx hb d_Mo_part_154 (by decide) ?_
                try simp only [bI_ne0, bI_eq0, decide_eq_true_eq, decide_eq_false_iff_not, Bool.not_eq_false, Bool.not_eq_true, Decidable.not_not] at c_2
                try simp only [bI_ne0, bI_eq0, decide_eq_true_eq, decide_eq_false_iff_not, Bool.not_eq_false, Bool.not_eq_true, Decidable.not_not] at c_5
                try simp only [bI_ne0, bI_eq0, decide_eq_true_eq, decide_eq_false_iff_not, Bool.not_eq_false, Bool.not_eq_true, Decidable.not_not] at c_8
                try simp only [bI_ne0, bI_eq0, decide_eq_true_eq, decide_eq_false_iff_not, Bool.not_eq_false, Bool.not_eq_true, Decidable.not_not] at c_11
                try simp only [bI_ne0, bI_eq0, decide_eq_true_eq, decide_eq_false_iff_not, Bool.not_eq_false, Bool.not_eq_true, Decidable.not_not] at c_14
                try simp only [bI_ne0, bI_eq0, decide_eq_true_eq, decide_eq_false_iff_not, Bool.not_eq_false, Bool.not_eq_true, Decidable.not_not] at c_17
                try simp only [bI_ne0, bI_eq0, decide_eq_true_eq, decide_eq_false_iff_not, Bool.not_eq_false, Bool.not_eq_true, Decidable.not_not] at c_18
                have hfin : moPart ρ n2 n6 w0 h0 x y sd = ((-1), ((ρ.ws 0 0).ws 3 2)) := by first | (simp only [moPart, ptOk, c_2, c_5, c_8, c_11, c_14, c_17, c_18, decide_true, decide_false, Bool.true_and, Bool.and_true, Bool.false_and, Bool.and_false, Bool.true_or, Bool.or_true, Bool.false_or, Bool.or_false, Bool.not_true, Bool.not_false, if_true, if_false, Bool.false_eq_true, Bool.true_eq_false, reduceIte, eq_self]; done) | (simp [moPart, ptOk, c_2, c_5, c_8, c_11, c_14, c_17, c_18]; done) | (simp_all [moPart, ptOk]; done)
                exact W.iret (v := (-1)) hx hb hr (fun t9 ht hW => ⟨⟨(-1), V_31, rfl, ⟨by rw [hfin]; exact hM_31, hR_31, by rw [hfin]⟩, mB_of ht hV⟩, hS.F ht⟩) hS.2.2 d_Mo_part_155
            · refine lv_iconst (v := 1) hx hb d_Mo_part_72 (by decide) ?_
              refine lv_goto (tgt := 127) hx hb d_Mo_part_73 (by decide) ?_
              refine pf_Mo_149 hx hb hW hown hG hV hS hm_16 d_Mo_part_127 (fun H locs hV hS => ?_)
              replace hV : hv D vwCl N0 (hu V_15 mo (.inr (7, [.int 0, .int (ρ.s 1), .int (ρ.s 2), .int 1, .ref (ad 0), .ref (ad 1), .ref (ad 2), .ref (ad 3), .ref (ad 4), .ref (ad 5), .ref (ad 6), .ref (ad 7), .ref (ad 8), .int (ρ.s 4), .ref (ad 9), .ref (ad 10), .ref (ad 11), .ref (ad 12), .ref (ad 13), .ref (ad 14), .ref (ad 15), .ref (ad 16), .ref (ad 17), .ref (ad 18), .ref (ad 19), .ref (ad 20), .ref (ad 21), .ref (ad 22), .ref (ad 23), .ref (ad 24), .ref (ad 25)]))) H := hV
              generalize hV_V_33 : hu V_15 mo (.inr (7, [.int 0, .int (ρ.s 1), .int (ρ.s 2), .int 1, .ref (ad 0), .ref (ad 1), .ref (ad 2), .ref (ad 3), .ref (ad 4), .ref (ad 5), .ref (ad 6), .ref (ad 7), .ref (ad 8), .int (ρ.s 4), .ref (ad 9), .ref (ad 10), .ref (ad 11), .ref (ad 12), .ref (ad 13), .ref (ad 14), .ref (ad 15), .ref (ad 16), .ref (ad 17), .ref (ad 18), .ref (ad 19), .ref (ad 20), .ref (ad 21), .ref (ad 22), .ref (ad 23), .ref (ad 24), .ref (ad 25)])) = V_33 at hV
              have hM_33 : mdOk k V_33 mo ad ((ρ.ws 0 0).ws 3 1) := by rw [← hV_V_33]; exact md_put hM_15 3 1
              have hR_33 : mdFr mo ad V V_33 := by rw [← hV_V_33]; exact hR_15.m
              have hm_34 : V_33 mo = some (.inr (7, [.int 0, .int (ρ.s 1), .int (ρ.s 2), .int 1, .ref (ad 0), .ref (ad 1), .ref (ad 2), .ref (ad 3), .ref (ad 4), .ref (ad 5), .ref (ad 6), .ref (ad 7), .ref (ad 8), .int (ρ.s 4), .ref (ad 9), .ref (ad 10), .ref (ad 11), .ref (ad 12), .ref (ad 13), .ref (ad 14), .ref (ad 15), .ref (ad 16), .ref (ad 17), .ref (ad 18), .ref (ad 19), .ref (ad 20), .ref (ad 21), .ref (ad 22), .ref (ad 23), .ref (ad 24), .ref (ad 25)])) := hM_33.1
              refine lv_aload_n hx hb d_Mo_part_130 rfl (lv_at hl 1 rfl) ?_
              refine gf_Mo_149 hx hb hW hown hG hV hm_34 d_Mo_part_131 ?_
              refine lv_if_ne (tgt := 154) hx hb d_Mo_part_134 (by decide) (fun _ => ?_) (fun q => absurd q (by decide))
              refine lv_iconst (v := (-1)) hx hb d_Mo_part_154 (by decide) ?_
              try simp only [bI_ne0, bI_eq0, decide_eq_true_eq, decide_eq_false_iff_not, Bool.not_eq_false, Bool.not_eq_true, Decidable.not_not] at c_2
              try simp only [bI_ne0, bI_eq0, decide_eq_true_eq, decide_eq_false_iff_not, Bool.not_eq_false, Bool.not_eq_true, Decidable.not_not] at c_5
              try simp only [bI_ne0, bI_eq0, decide_eq_true_eq, decide_eq_false_iff_not, Bool.not_eq_false, Bool.not_eq_true, Decidable.not_not] at c_8
              try simp only [bI_ne0, bI_eq0, decide_eq_true_eq, decide_eq_false_iff_not, Bool.not_eq_false, Bool.not_eq_true, Decidable.not_not] at c_11
              try simp only [bI_ne0, bI_eq0, decide_eq_true_eq, decide_eq_false_iff_not, Bool.not_eq_false, Bool.not_eq_true, Decidable.not_not] at c_14
              try simp only [bI_ne0, bI_eq0, decide_eq_true_eq, decide_eq_false_iff_not, Bool.not_eq_false, Bool.not_eq_true, Decidable.not_not] at c_17
              have hfin : moPart ρ n2 n6 w0 h0 x y sd = ((-1), ((ρ.ws 0 0).ws 3 1)) := by first | (simp only [moPart, ptOk, c_2, c_5, c_8, c_11, c_14, c_17, decide_true, decide_false, Bool.true_and, Bool.and_true, Bool.false_and, Bool.and_false, Bool.true_or, Bool.or_true, Bool.false_or, Bool.or_false, Bool.not_true, Bool.not_false, if_true, if_false, Bool.false_eq_true, Bool.true_eq_false, reduceIte, eq_self]; done) | (simp [moPart, ptOk, c_2, c_5, c_8, c_11, c_14, c_17]; done) | (simp_all [moPart, ptOk]; done)
              exact W.iret (v := (-1)) hx hb hr (fun t9 ht hW => ⟨⟨(-1), V_33, rfl, ⟨by rw [hfin]; exact hM_33, hR_33, by rw [hfin]⟩, mB_of ht hV⟩, hS.F ht⟩) hS.2.2 d_Mo_part_155
          · refine lv_iload hx hb d_Mo_part_27 (lv_at hl 5 rfl) ?_
            refine lv_iconst (v := 1) hx hb d_Mo_part_29 (by decide) ?_
            refine lv_icmp_ne (tgt := 37) hx hb d_Mo_part_30 (by decide) (fun c_35 => ?_) (fun c_35 => ?_)
            · refine lv_iconst (v := 0) hx hb d_Mo_part_37 (by decide) ?_
              refine lv_istore (lv' := [(6, .int 0), (0, .ref mo), (1, .int w0), (2, .int h0), (3, .int x), (4, .int y), (5, .int sd)]) hx hb d_Mo_part_38 hl (by decide) rfl (fun ls hl => ?_)
              refine lv_aload_n hx hb d_Mo_part_40 rfl (lv_at hl 1 rfl) ?_
              refine lv_iload hx hb d_Mo_part_41 (lv_at hl 0 rfl) ?_
              refine lv_if_eq (tgt := 50) hx hb d_Mo_part_43 (by decide) (fun _ => ?_) (fun q => absurd q (by decide))
              refine lv_iconst (v := 1) hx hb d_Mo_part_50 (by decide) ?_
              refine pf_Mo_100 hx hb hW hown hG hV hS hm_1 d_Mo_part_51 (fun H locs hV hS => ?_)
              replace hV : hv D vwCl N0 (hu V mo (.inr (7, [.int 1, .int (ρ.s 1), .int (ρ.s 2), .int (ρ.s 3), .ref (ad 0), .ref (ad 1), .ref (ad 2), .ref (ad 3), .ref (ad 4), .ref (ad 5), .ref (ad 6), .ref (ad 7), .ref (ad 8), .int (ρ.s 4), .ref (ad 9), .ref (ad 10), .ref (ad 11), .ref (ad 12), .ref (ad 13), .ref (ad 14), .ref (ad 15), .ref (ad 16), .ref (ad 17), .ref (ad 18), .ref (ad 19), .ref (ad 20), .ref (ad 21), .ref (ad 22), .ref (ad 23), .ref (ad 24), .ref (ad 25)]))) H := hV
              generalize hV_V_36 : hu V mo (.inr (7, [.int 1, .int (ρ.s 1), .int (ρ.s 2), .int (ρ.s 3), .ref (ad 0), .ref (ad 1), .ref (ad 2), .ref (ad 3), .ref (ad 4), .ref (ad 5), .ref (ad 6), .ref (ad 7), .ref (ad 8), .int (ρ.s 4), .ref (ad 9), .ref (ad 10), .ref (ad 11), .ref (ad 12), .ref (ad 13), .ref (ad 14), .ref (ad 15), .ref (ad 16), .ref (ad 17), .ref (ad 18), .ref (ad 19), .ref (ad 20), .ref (ad 21), .ref (ad 22), .ref (ad 23), .ref (ad 24), .ref (ad 25)])) = V_36 at hV
              have hM_36 : mdOk k V_36 mo ad (ρ.ws 0 1) := by rw [← hV_V_36]; exact md_put hM 0 1
              have hR_36 : mdFr mo ad V V_36 := by rw [← hV_V_36]; exact (mdFr.rf (mo := mo) (ad := ad) (V := V)).m
              have hm_37 : V_36 mo = some (.inr (7, [.int 1, .int (ρ.s 1), .int (ρ.s 2), .int (ρ.s 3), .ref (ad 0), .ref (ad 1), .ref (ad 2), .ref (ad 3), .ref (ad 4), .ref (ad 5), .ref (ad 6), .ref (ad 7), .ref (ad 8), .int (ρ.s 4), .ref (ad 9), .ref (ad 10), .ref (ad 11), .ref (ad 12), .ref (ad 13), .ref (ad 14), .ref (ad 15), .ref (ad 16), .ref (ad 17), .ref (ad 18), .ref (ad 19), .ref (ad 20), .ref (ad 21), .ref (ad 22), .ref (ad 23), .ref (ad 24), .ref (ad 25)])) := hM_36.1
              refine lv_aload_n hx hb d_Mo_part_54 rfl (lv_at hl 1 rfl) ?_
              refine gf_Mo_100 hx hb hW hown hG hV hm_37 d_Mo_part_55 ?_
              refine lv_if_eq (tgt := 63) hx hb d_Mo_part_58 (by decide) (fun q => absurd q (by decide)) (fun _ => ?_)
              refine lv_iconst (v := 0) hx hb d_Mo_part_61 (by decide) ?_
              try simp only [bI_ne0, bI_eq0, decide_eq_true_eq, decide_eq_false_iff_not, Bool.not_eq_false, Bool.not_eq_true, Decidable.not_not] at c_2
              try simp only [bI_ne0, bI_eq0, decide_eq_true_eq, decide_eq_false_iff_not, Bool.not_eq_false, Bool.not_eq_true, Decidable.not_not] at c_5
              try simp only [bI_ne0, bI_eq0, decide_eq_true_eq, decide_eq_false_iff_not, Bool.not_eq_false, Bool.not_eq_true, Decidable.not_not] at c_8
              try simp only [bI_ne0, bI_eq0, decide_eq_true_eq, decide_eq_false_iff_not, Bool.not_eq_false, Bool.not_eq_true, Decidable.not_not] at c_11
              try simp only [bI_ne0, bI_eq0, decide_eq_true_eq, decide_eq_false_iff_not, Bool.not_eq_false, Bool.not_eq_true, Decidable.not_not] at c_14
              try simp only [bI_ne0, bI_eq0, decide_eq_true_eq, decide_eq_false_iff_not, Bool.not_eq_false, Bool.not_eq_true, Decidable.not_not] at c_35
              have hfin : moPart ρ n2 n6 w0 h0 x y sd = (0, (ρ.ws 0 1)) := by first | (simp only [moPart, ptOk, c_2, c_5, c_8, c_11, c_14, c_35, decide_true, decide_false, Bool.true_and, Bool.and_true, Bool.false_and, Bool.and_false, Bool.true_or, Bool.or_true, Bool.false_or, Bool.or_false, Bool.not_true, Bool.not_false, if_true, if_false, Bool.false_eq_true, Bool.true_eq_false, reduceIte, eq_self]; done) | (simp [moPart, ptOk, c_2, c_5, c_8, c_11, c_14, c_35]; done) | (simp_all [moPart, ptOk]; done)
              exact W.iret (v := 0) hx hb hr (fun t9 ht hW => ⟨⟨0, V_36, rfl, ⟨by rw [hfin]; exact hM_36, hR_36, by rw [hfin]⟩, mB_of ht hV⟩, hS.F ht⟩) hS.2.2 d_Mo_part_62
            · refine lv_iconst (v := 1) hx hb d_Mo_part_33 (by decide) ?_
              refine lv_goto (tgt := 38) hx hb d_Mo_part_34 (by decide) ?_
              refine lv_istore (lv' := [(6, .int 1), (0, .ref mo), (1, .int w0), (2, .int h0), (3, .int x), (4, .int y), (5, .int sd)]) hx hb d_Mo_part_38 hl (by decide) rfl (fun ls hl => ?_)
              refine lv_aload_n hx hb d_Mo_part_40 rfl (lv_at hl 1 rfl) ?_
              refine lv_iload hx hb d_Mo_part_41 (lv_at hl 0 rfl) ?_
              refine lv_if_eq (tgt := 50) hx hb d_Mo_part_43 (by decide) (fun q => absurd q (by decide)) (fun _ => ?_)
              refine lv_iconst (v := 0) hx hb d_Mo_part_46 (by decide) ?_
              refine lv_goto (tgt := 51) hx hb d_Mo_part_47 (by decide) ?_
              refine pf_Mo_100 hx hb hW hown hG hV hS hm_1 d_Mo_part_51 (fun H locs hV hS => ?_)
              replace hV : hv D vwCl N0 (hu V mo (.inr (7, [.int 0, .int (ρ.s 1), .int (ρ.s 2), .int (ρ.s 3), .ref (ad 0), .ref (ad 1), .ref (ad 2), .ref (ad 3), .ref (ad 4), .ref (ad 5), .ref (ad 6), .ref (ad 7), .ref (ad 8), .int (ρ.s 4), .ref (ad 9), .ref (ad 10), .ref (ad 11), .ref (ad 12), .ref (ad 13), .ref (ad 14), .ref (ad 15), .ref (ad 16), .ref (ad 17), .ref (ad 18), .ref (ad 19), .ref (ad 20), .ref (ad 21), .ref (ad 22), .ref (ad 23), .ref (ad 24), .ref (ad 25)]))) H := hV
              generalize hV_V_38 : hu V mo (.inr (7, [.int 0, .int (ρ.s 1), .int (ρ.s 2), .int (ρ.s 3), .ref (ad 0), .ref (ad 1), .ref (ad 2), .ref (ad 3), .ref (ad 4), .ref (ad 5), .ref (ad 6), .ref (ad 7), .ref (ad 8), .int (ρ.s 4), .ref (ad 9), .ref (ad 10), .ref (ad 11), .ref (ad 12), .ref (ad 13), .ref (ad 14), .ref (ad 15), .ref (ad 16), .ref (ad 17), .ref (ad 18), .ref (ad 19), .ref (ad 20), .ref (ad 21), .ref (ad 22), .ref (ad 23), .ref (ad 24), .ref (ad 25)])) = V_38 at hV
              have hM_38 : mdOk k V_38 mo ad (ρ.ws 0 0) := by rw [← hV_V_38]; exact md_put hM 0 0
              have hR_38 : mdFr mo ad V V_38 := by rw [← hV_V_38]; exact (mdFr.rf (mo := mo) (ad := ad) (V := V)).m
              have hm_39 : V_38 mo = some (.inr (7, [.int 0, .int (ρ.s 1), .int (ρ.s 2), .int (ρ.s 3), .ref (ad 0), .ref (ad 1), .ref (ad 2), .ref (ad 3), .ref (ad 4), .ref (ad 5), .ref (ad 6), .ref (ad 7), .ref (ad 8), .int (ρ.s 4), .ref (ad 9), .ref (ad 10), .ref (ad 11), .ref (ad 12), .ref (ad 13), .ref (ad 14), .ref (ad 15), .ref (ad 16), .ref (ad 17), .ref (ad 18), .ref (ad 19), .ref (ad 20), .ref (ad 21), .ref (ad 22), .ref (ad 23), .ref (ad 24), .ref (ad 25)])) := hM_38.1
              refine lv_aload_n hx hb d_Mo_part_54 rfl (lv_at hl 1 rfl) ?_
              refine gf_Mo_100 hx hb hW hown hG hV hm_39 d_Mo_part_55 ?_
              refine lv_if_eq (tgt := 63) hx hb d_Mo_part_58 (by decide) (fun _ => ?_) (fun q => absurd q (by decide))
              refine lv_aload_n hx hb d_Mo_part_63 rfl (lv_at hl 1 rfl) ?_
              refine lv_aload_n hx hb d_Mo_part_64 rfl (lv_at hl 1 rfl) ?_
              refine lv_iconst (v := 2) hx hb d_Mo_part_65 (by decide) ?_
              refine rc_i (va_runV (As := [.int 2]) (rest := [.ref mo]) ⟨hx, hb, hml, hown, hts⟩ (c_Mo_isFull l D N0 k V_38 mo ad (ρ.ws 0 0) hM_38 2 (by omega) (by omega)) (cwV 1 hts (gi_V wm_Mo_152 wv_Mo_isFull ws_Mo_isFull wi_Mo wc_Mo_isFull) rfl rfl rfl (by decide +kernel) ⟨Nat.le_of_ble_eq_true rfl, Nat.le_of_ble_eq_true rfl⟩) (mP.preV hG hS hV hm_39 rfl) rfl rfl hl.1 rfl (lv_room (Nat.le_of_ble_eq_true rfl)) d_Mo_part_66 ⟨Nat.le_of_ble_eq_true rfl, Nat.le_of_ble_eq_true rfl⟩) hS (fun H locs hV hS => ?_)
              refine W.eq (g2 := F0 m 69 ls [.int (bI (decide ((ρ.I 0) 2 = nI (liN 2)))), .ref mo]) rfl ?_
              refine lv_if_eq (tgt := 76) hx hb d_Mo_part_69 (by decide) (fun c_40 => ?_) (fun c_40 => ?_)
              · refine lv_iload_n hx hb d_Mo_part_76 rfl (lv_at hl 4 rfl) ?_
                refine lv_iload hx hb d_Mo_part_77 (lv_at hl 5 rfl) ?_
                refine lv_iload_n hx hb d_Mo_part_79 rfl (lv_at hl 2 rfl) ?_
                refine lv_iload_n hx hb d_Mo_part_80 rfl (lv_at hl 3 rfl) ?_
                refine rc_i (va_runS (As := [.int x, .int y, .int w0, .int h0]) (rest := [.ref mo]) ⟨hx, hb, hml, hown, hts⟩ (c_Mo_isBox l D N0 k V_38 x y w0 h0) (va_cwS 4 hts (gi_S wm_Mo_158 wt_Mo_isBox wi_Mo wc_Mo_isBox) rfl rfl rfl (by decide +kernel) ⟨Nat.le_of_ble_eq_true rfl, Nat.le_of_ble_eq_true rfl⟩) (mP.preS hG hS hV) rfl rfl hl.1 rfl (lv_room (Nat.le_of_ble_eq_true rfl)) d_Mo_part_81 ⟨Nat.le_of_ble_eq_true rfl, Nat.le_of_ble_eq_true rfl⟩) hS (fun H locs hV hS => ?_)
                refine lv_if_ne (tgt := 91) hx hb d_Mo_part_84 (by decide) (fun c_41 => ?_) (fun c_41 => ?_)
                · refine lv_aload_n hx hb d_Mo_part_91 rfl (lv_at hl 1 rfl) ?_
                  refine lv_iload_n hx hb d_Mo_part_92 rfl (lv_at hl 4 rfl) ?_
                  refine lv_iload hx hb d_Mo_part_93 (lv_at hl 5 rfl) ?_
                  refine lv_iload_n hx hb d_Mo_part_95 rfl (lv_at hl 2 rfl) ?_
                  refine lv_iload_n hx hb d_Mo_part_96 rfl (lv_at hl 3 rfl) ?_
                  refine rc_i (va_runV (As := [.int x, .int y, .int w0, .int h0]) (rest := [.ref mo]) ⟨hx, hb, hml, hown, hts⟩ (c_Mo_isBarred l D N0 k V_38 mo ad (ρ.ws 0 0) hM_38 x y w0 h0 n6 hn6 en6 hwo) (cwV 4 hts (gi_V wm_Mo_122 wv_Mo_isBarred ws_Mo_isBarred wi_Mo wc_Mo_isBarred) rfl rfl rfl (by decide +kernel) ⟨Nat.le_of_ble_eq_true rfl, Nat.le_of_ble_eq_true rfl⟩) (mP.preV hG hS hV hm_39 rfl) rfl rfl hl.1 rfl (lv_room (Nat.le_of_ble_eq_true rfl)) d_Mo_part_97 ⟨Nat.le_of_ble_eq_true rfl, Nat.le_of_ble_eq_true rfl⟩) hS (fun H locs hV hS => ?_)
                  refine W.eq (g2 := F0 m 100 ls [.int (bI (moBarr ρ n6 x y w0 h0)), .ref mo]) rfl ?_
                  refine lv_if_eq (tgt := 107) hx hb d_Mo_part_100 (by decide) (fun c_42 => ?_) (fun c_42 => ?_)
                  · refine lv_aload_n hx hb d_Mo_part_107 rfl (lv_at hl 1 rfl) ?_
                    refine lv_iconst (v := (-1)) hx hb d_Mo_part_108 (by decide) ?_
                    refine lv_iload_n hx hb d_Mo_part_109 rfl (lv_at hl 4 rfl) ?_
                    refine lv_iload hx hb d_Mo_part_110 (lv_at hl 5 rfl) ?_
                    refine lv_iload_n hx hb d_Mo_part_112 rfl (lv_at hl 2 rfl) ?_
                    refine lv_iload_n hx hb d_Mo_part_113 rfl (lv_at hl 3 rfl) ?_
                    refine lv_iload hx hb d_Mo_part_114 (lv_at hl 6 rfl) ?_
                    refine rc_i (va_runV (As := [.int (-1), .int x, .int y, .int w0, .int h0, .int sd]) (rest := [.ref mo]) ⟨hx, hb, hml, hown, hts⟩ (c_Mo_overlaps l D N0 k V_38 mo ad (ρ.ws 0 0) hM_38 (-1) x y w0 h0 sd n2 hn2 en2) (cwV 6 hts (gi_V wm_Mo_161 wv_Mo_overlaps ws_Mo_overlaps wi_Mo wc_Mo_overlaps) rfl rfl rfl (by decide +kernel) ⟨Nat.le_of_ble_eq_true rfl, Nat.le_of_ble_eq_true rfl⟩) (mP.preV hG hS hV hm_39 rfl) rfl rfl hl.1 rfl (lv_room (Nat.le_of_ble_eq_true rfl)) d_Mo_part_116 ⟨Nat.le_of_ble_eq_true rfl, Nat.le_of_ble_eq_true rfl⟩) hS (fun H locs hV hS => ?_)
                    refine W.eq (g2 := F0 m 119 ls [.int (bI (anyF (moOvP ρ.I (-1) x y w0 h0 sd) 0 n2)), .ref mo]) rfl ?_
                    refine lv_if_eq (tgt := 126) hx hb d_Mo_part_119 (by decide) (fun c_43 => ?_) (fun c_43 => ?_)
                    · refine lv_iconst (v := 0) hx hb d_Mo_part_126 (by decide) ?_
                      refine pf_Mo_149 hx hb hW hown hG hV hS hm_39 d_Mo_part_127 (fun H locs hV hS => ?_)
                      replace hV : hv D vwCl N0 (hu V_38 mo (.inr (7, [.int 0, .int (ρ.s 1), .int (ρ.s 2), .int 0, .ref (ad 0), .ref (ad 1), .ref (ad 2), .ref (ad 3), .ref (ad 4), .ref (ad 5), .ref (ad 6), .ref (ad 7), .ref (ad 8), .int (ρ.s 4), .ref (ad 9), .ref (ad 10), .ref (ad 11), .ref (ad 12), .ref (ad 13), .ref (ad 14), .ref (ad 15), .ref (ad 16), .ref (ad 17), .ref (ad 18), .ref (ad 19), .ref (ad 20), .ref (ad 21), .ref (ad 22), .ref (ad 23), .ref (ad 24), .ref (ad 25)]))) H := hV
                      generalize hV_V_44 : hu V_38 mo (.inr (7, [.int 0, .int (ρ.s 1), .int (ρ.s 2), .int 0, .ref (ad 0), .ref (ad 1), .ref (ad 2), .ref (ad 3), .ref (ad 4), .ref (ad 5), .ref (ad 6), .ref (ad 7), .ref (ad 8), .int (ρ.s 4), .ref (ad 9), .ref (ad 10), .ref (ad 11), .ref (ad 12), .ref (ad 13), .ref (ad 14), .ref (ad 15), .ref (ad 16), .ref (ad 17), .ref (ad 18), .ref (ad 19), .ref (ad 20), .ref (ad 21), .ref (ad 22), .ref (ad 23), .ref (ad 24), .ref (ad 25)])) = V_44 at hV
                      have hM_44 : mdOk k V_44 mo ad ((ρ.ws 0 0).ws 3 0) := by rw [← hV_V_44]; exact md_put hM_38 3 0
                      have hR_44 : mdFr mo ad V V_44 := by rw [← hV_V_44]; exact hR_38.m
                      have hm_45 : V_44 mo = some (.inr (7, [.int 0, .int (ρ.s 1), .int (ρ.s 2), .int 0, .ref (ad 0), .ref (ad 1), .ref (ad 2), .ref (ad 3), .ref (ad 4), .ref (ad 5), .ref (ad 6), .ref (ad 7), .ref (ad 8), .int (ρ.s 4), .ref (ad 9), .ref (ad 10), .ref (ad 11), .ref (ad 12), .ref (ad 13), .ref (ad 14), .ref (ad 15), .ref (ad 16), .ref (ad 17), .ref (ad 18), .ref (ad 19), .ref (ad 20), .ref (ad 21), .ref (ad 22), .ref (ad 23), .ref (ad 24), .ref (ad 25)])) := hM_44.1
                      refine lv_aload_n hx hb d_Mo_part_130 rfl (lv_at hl 1 rfl) ?_
                      refine gf_Mo_149 hx hb hW hown hG hV hm_45 d_Mo_part_131 ?_
                      refine lv_if_ne (tgt := 154) hx hb d_Mo_part_134 (by decide) (fun q => absurd q (by decide)) (fun _ => ?_)
                      have hlt2 : n2 < liN 2 := by have q := bI_eq0.mp c_40; rw [en2] at q; have q2 := of_decide_eq_false q; exact Nat.lt_of_le_of_ne hn2 (fun z => q2 (by rw [z]))
                      refine lv_aload_n hx hb d_Mo_part_137 rfl (lv_at hl 1 rfl) ?_
                      refine lv_iconst (v := 2) hx hb d_Mo_part_138 (by decide) ?_
                      refine lv_iconst (v := (-1)) hx hb d_Mo_part_139 (by decide) ?_
                      refine lv_iload hx hb d_Mo_part_140 (lv_at hl 6 rfl) ?_
                      refine lv_iload_n hx hb d_Mo_part_142 rfl (lv_at hl 4 rfl) ?_
                      refine lv_iload hx hb d_Mo_part_143 (lv_at hl 5 rfl) ?_
                      refine lv_iload_n hx hb d_Mo_part_145 rfl (lv_at hl 2 rfl) ?_
                      refine lv_iload_n hx hb d_Mo_part_146 rfl (lv_at hl 3 rfl) ?_
                      refine lv_iconst (v := (-1)) hx hb d_Mo_part_147 (by decide) ?_
                      refine rc_I (va_runV (As := [.int 2, .int (-1), .int sd, .int x, .int y, .int w0, .int h0, .int (-1)]) (rest := []) ⟨hx, hb, hml, hown, hts⟩ (c_Mo_make l D N0 k V_44 mo ad ((ρ.ws 0 0).ws 3 0) hM_44 (-1) sd x y w0 h0 (-1) 2 n2 (by omega) (by omega) en2 hlt2 hwo) (cwV 8 hts (gi_V wm_Mo_165 wv_Mo_make ws_Mo_make wi_Mo wc_Mo_make) rfl rfl rfl (by decide +kernel) ⟨Nat.le_of_ble_eq_true rfl, Nat.le_of_ble_eq_true rfl⟩) (mP.preV hG hS hV hm_45 rfl) rfl rfl hl.1 rfl (lv_room (Nat.le_of_ble_eq_true rfl)) d_Mo_part_148 ⟨Nat.le_of_ble_eq_true rfl, Nat.le_of_ble_eq_true rfl⟩) hS (fun r_46 V_47 H locs hp_48 hV hS => ?_)
                      obtain ⟨hM_49, hM_49R, hM_49e⟩ := hp_48
                      subst hM_49e
                      refine lv_goto (tgt := 155) hx hb d_Mo_part_151 (by decide) ?_
                      try simp only [bI_ne0, bI_eq0, decide_eq_true_eq, decide_eq_false_iff_not, Bool.not_eq_false, Bool.not_eq_true, Decidable.not_not] at c_2
                      try simp only [bI_ne0, bI_eq0, decide_eq_true_eq, decide_eq_false_iff_not, Bool.not_eq_false, Bool.not_eq_true, Decidable.not_not] at c_5
                      try simp only [bI_ne0, bI_eq0, decide_eq_true_eq, decide_eq_false_iff_not, Bool.not_eq_false, Bool.not_eq_true, Decidable.not_not] at c_8
                      try simp only [bI_ne0, bI_eq0, decide_eq_true_eq, decide_eq_false_iff_not, Bool.not_eq_false, Bool.not_eq_true, Decidable.not_not] at c_11
                      try simp only [bI_ne0, bI_eq0, decide_eq_true_eq, decide_eq_false_iff_not, Bool.not_eq_false, Bool.not_eq_true, Decidable.not_not] at c_14
                      try simp only [bI_ne0, bI_eq0, decide_eq_true_eq, decide_eq_false_iff_not, Bool.not_eq_false, Bool.not_eq_true, Decidable.not_not] at c_35
                      try simp only [bI_ne0, bI_eq0, decide_eq_true_eq, decide_eq_false_iff_not, Bool.not_eq_false, Bool.not_eq_true, Decidable.not_not] at c_40
                      try simp only [bI_ne0, bI_eq0, decide_eq_true_eq, decide_eq_false_iff_not, Bool.not_eq_false, Bool.not_eq_true, Decidable.not_not] at c_41
                      try simp only [bI_ne0, bI_eq0, decide_eq_true_eq, decide_eq_false_iff_not, Bool.not_eq_false, Bool.not_eq_true, Decidable.not_not] at c_42
                      try simp only [bI_ne0, bI_eq0, decide_eq_true_eq, decide_eq_false_iff_not, Bool.not_eq_false, Bool.not_eq_true, Decidable.not_not] at c_43
                      have hfin : moPart ρ n2 n6 w0 h0 x y sd = ((moHan (nI (fiN 2 + n2))), (moMkS ((ρ.ws 0 0).ws 3 0) 2 (fiN 2 + n2) (-1) sd x y w0 h0 (-1))) := by first | (simp only [moPart, ptOk, c_2, c_5, c_8, c_11, c_14, c_35, c_40, c_41, c_42, c_43, decide_true, decide_false, Bool.true_and, Bool.and_true, Bool.false_and, Bool.and_false, Bool.true_or, Bool.or_true, Bool.false_or, Bool.or_false, Bool.not_true, Bool.not_false, if_true, if_false, Bool.false_eq_true, Bool.true_eq_false, reduceIte, eq_self]; done) | (simp [moPart, ptOk, c_2, c_5, c_8, c_11, c_14, c_35, c_40, c_41, c_42, c_43]; done) | (simp_all [moPart, ptOk]; done)
                      exact W.iret (v := (moHan (nI (fiN 2 + n2)))) hx hb hr (fun t9 ht hW => ⟨⟨(moHan (nI (fiN 2 + n2))), V_47, rfl, ⟨by rw [hfin]; exact hM_49, hR_44.tr hM_49R, by rw [hfin]⟩, mB_of ht hV⟩, hS.F ht⟩) hS.2.2 d_Mo_part_155
                    · refine lv_iconst (v := 4) hx hb d_Mo_part_122 (by decide) ?_
                      refine lv_goto (tgt := 127) hx hb d_Mo_part_123 (by decide) ?_
                      refine pf_Mo_149 hx hb hW hown hG hV hS hm_39 d_Mo_part_127 (fun H locs hV hS => ?_)
                      replace hV : hv D vwCl N0 (hu V_38 mo (.inr (7, [.int 0, .int (ρ.s 1), .int (ρ.s 2), .int 4, .ref (ad 0), .ref (ad 1), .ref (ad 2), .ref (ad 3), .ref (ad 4), .ref (ad 5), .ref (ad 6), .ref (ad 7), .ref (ad 8), .int (ρ.s 4), .ref (ad 9), .ref (ad 10), .ref (ad 11), .ref (ad 12), .ref (ad 13), .ref (ad 14), .ref (ad 15), .ref (ad 16), .ref (ad 17), .ref (ad 18), .ref (ad 19), .ref (ad 20), .ref (ad 21), .ref (ad 22), .ref (ad 23), .ref (ad 24), .ref (ad 25)]))) H := hV
                      generalize hV_V_50 : hu V_38 mo (.inr (7, [.int 0, .int (ρ.s 1), .int (ρ.s 2), .int 4, .ref (ad 0), .ref (ad 1), .ref (ad 2), .ref (ad 3), .ref (ad 4), .ref (ad 5), .ref (ad 6), .ref (ad 7), .ref (ad 8), .int (ρ.s 4), .ref (ad 9), .ref (ad 10), .ref (ad 11), .ref (ad 12), .ref (ad 13), .ref (ad 14), .ref (ad 15), .ref (ad 16), .ref (ad 17), .ref (ad 18), .ref (ad 19), .ref (ad 20), .ref (ad 21), .ref (ad 22), .ref (ad 23), .ref (ad 24), .ref (ad 25)])) = V_50 at hV
                      have hM_50 : mdOk k V_50 mo ad ((ρ.ws 0 0).ws 3 4) := by rw [← hV_V_50]; exact md_put hM_38 3 4
                      have hR_50 : mdFr mo ad V V_50 := by rw [← hV_V_50]; exact hR_38.m
                      have hm_51 : V_50 mo = some (.inr (7, [.int 0, .int (ρ.s 1), .int (ρ.s 2), .int 4, .ref (ad 0), .ref (ad 1), .ref (ad 2), .ref (ad 3), .ref (ad 4), .ref (ad 5), .ref (ad 6), .ref (ad 7), .ref (ad 8), .int (ρ.s 4), .ref (ad 9), .ref (ad 10), .ref (ad 11), .ref (ad 12), .ref (ad 13), .ref (ad 14), .ref (ad 15), .ref (ad 16), .ref (ad 17), .ref (ad 18), .ref (ad 19), .ref (ad 20), .ref (ad 21), .ref (ad 22), .ref (ad 23), .ref (ad 24), .ref (ad 25)])) := hM_50.1
                      refine lv_aload_n hx hb d_Mo_part_130 rfl (lv_at hl 1 rfl) ?_
                      refine gf_Mo_149 hx hb hW hown hG hV hm_51 d_Mo_part_131 ?_
                      refine lv_if_ne (tgt := 154) hx hb d_Mo_part_134 (by decide) (fun _ => ?_) (fun q => absurd q (by decide))
                      refine lv_iconst (v := (-1)) hx hb d_Mo_part_154 (by decide) ?_
                      try simp only [bI_ne0, bI_eq0, decide_eq_true_eq, decide_eq_false_iff_not, Bool.not_eq_false, Bool.not_eq_true, Decidable.not_not] at c_2
                      try simp only [bI_ne0, bI_eq0, decide_eq_true_eq, decide_eq_false_iff_not, Bool.not_eq_false, Bool.not_eq_true, Decidable.not_not] at c_5
                      try simp only [bI_ne0, bI_eq0, decide_eq_true_eq, decide_eq_false_iff_not, Bool.not_eq_false, Bool.not_eq_true, Decidable.not_not] at c_8
                      try simp only [bI_ne0, bI_eq0, decide_eq_true_eq, decide_eq_false_iff_not, Bool.not_eq_false, Bool.not_eq_true, Decidable.not_not] at c_11
                      try simp only [bI_ne0, bI_eq0, decide_eq_true_eq, decide_eq_false_iff_not, Bool.not_eq_false, Bool.not_eq_true, Decidable.not_not] at c_14
                      try simp only [bI_ne0, bI_eq0, decide_eq_true_eq, decide_eq_false_iff_not, Bool.not_eq_false, Bool.not_eq_true, Decidable.not_not] at c_35
                      try simp only [bI_ne0, bI_eq0, decide_eq_true_eq, decide_eq_false_iff_not, Bool.not_eq_false, Bool.not_eq_true, Decidable.not_not] at c_40
                      try simp only [bI_ne0, bI_eq0, decide_eq_true_eq, decide_eq_false_iff_not, Bool.not_eq_false, Bool.not_eq_true, Decidable.not_not] at c_41
                      try simp only [bI_ne0, bI_eq0, decide_eq_true_eq, decide_eq_false_iff_not, Bool.not_eq_false, Bool.not_eq_true, Decidable.not_not] at c_42
                      try simp only [bI_ne0, bI_eq0, decide_eq_true_eq, decide_eq_false_iff_not, Bool.not_eq_false, Bool.not_eq_true, Decidable.not_not] at c_43
                      have hfin : moPart ρ n2 n6 w0 h0 x y sd = ((-1), ((ρ.ws 0 0).ws 3 4)) := by first | (simp only [moPart, ptOk, c_2, c_5, c_8, c_11, c_14, c_35, c_40, c_41, c_42, c_43, decide_true, decide_false, Bool.true_and, Bool.and_true, Bool.false_and, Bool.and_false, Bool.true_or, Bool.or_true, Bool.false_or, Bool.or_false, Bool.not_true, Bool.not_false, if_true, if_false, Bool.false_eq_true, Bool.true_eq_false, reduceIte, eq_self]; done) | (simp [moPart, ptOk, c_2, c_5, c_8, c_11, c_14, c_35, c_40, c_41, c_42, c_43]; done) | (simp_all [moPart, ptOk]; done)
                      exact W.iret (v := (-1)) hx hb hr (fun t9 ht hW => ⟨⟨(-1), V_50, rfl, ⟨by rw [hfin]; exact hM_50, hR_50, by rw [hfin]⟩, mB_of ht hV⟩, hS.F ht⟩) hS.2.2 d_Mo_part_155
                  · refine lv_iconst (v := 3) hx hb d_Mo_part_103 (by decide) ?_
                    refine lv_goto (tgt := 127) hx hb d_Mo_part_104 (by decide) ?_
                    refine pf_Mo_149 hx hb hW hown hG hV hS hm_39 d_Mo_part_127 (fun H locs hV hS => ?_)
                    replace hV : hv D vwCl N0 (hu V_38 mo (.inr (7, [.int 0, .int (ρ.s 1), .int (ρ.s 2), .int 3, .ref (ad 0), .ref (ad 1), .ref (ad 2), .ref (ad 3), .ref (ad 4), .ref (ad 5), .ref (ad 6), .ref (ad 7), .ref (ad 8), .int (ρ.s 4), .ref (ad 9), .ref (ad 10), .ref (ad 11), .ref (ad 12), .ref (ad 13), .ref (ad 14), .ref (ad 15), .ref (ad 16), .ref (ad 17), .ref (ad 18), .ref (ad 19), .ref (ad 20), .ref (ad 21), .ref (ad 22), .ref (ad 23), .ref (ad 24), .ref (ad 25)]))) H := hV
                    generalize hV_V_52 : hu V_38 mo (.inr (7, [.int 0, .int (ρ.s 1), .int (ρ.s 2), .int 3, .ref (ad 0), .ref (ad 1), .ref (ad 2), .ref (ad 3), .ref (ad 4), .ref (ad 5), .ref (ad 6), .ref (ad 7), .ref (ad 8), .int (ρ.s 4), .ref (ad 9), .ref (ad 10), .ref (ad 11), .ref (ad 12), .ref (ad 13), .ref (ad 14), .ref (ad 15), .ref (ad 16), .ref (ad 17), .ref (ad 18), .ref (ad 19), .ref (ad 20), .ref (ad 21), .ref (ad 22), .ref (ad 23), .ref (ad 24), .ref (ad 25)])) = V_52 at hV
                    have hM_52 : mdOk k V_52 mo ad ((ρ.ws 0 0).ws 3 3) := by rw [← hV_V_52]; exact md_put hM_38 3 3
                    have hR_52 : mdFr mo ad V V_52 := by rw [← hV_V_52]; exact hR_38.m
                    have hm_53 : V_52 mo = some (.inr (7, [.int 0, .int (ρ.s 1), .int (ρ.s 2), .int 3, .ref (ad 0), .ref (ad 1), .ref (ad 2), .ref (ad 3), .ref (ad 4), .ref (ad 5), .ref (ad 6), .ref (ad 7), .ref (ad 8), .int (ρ.s 4), .ref (ad 9), .ref (ad 10), .ref (ad 11), .ref (ad 12), .ref (ad 13), .ref (ad 14), .ref (ad 15), .ref (ad 16), .ref (ad 17), .ref (ad 18), .ref (ad 19), .ref (ad 20), .ref (ad 21), .ref (ad 22), .ref (ad 23), .ref (ad 24), .ref (ad 25)])) := hM_52.1
                    refine lv_aload_n hx hb d_Mo_part_130 rfl (lv_at hl 1 rfl) ?_
                    refine gf_Mo_149 hx hb hW hown hG hV hm_53 d_Mo_part_131 ?_
                    refine lv_if_ne (tgt := 154) hx hb d_Mo_part_134 (by decide) (fun _ => ?_) (fun q => absurd q (by decide))
                    refine lv_iconst (v := (-1)) hx hb d_Mo_part_154 (by decide) ?_
                    try simp only [bI_ne0, bI_eq0, decide_eq_true_eq, decide_eq_false_iff_not, Bool.not_eq_false, Bool.not_eq_true, Decidable.not_not] at c_2
                    try simp only [bI_ne0, bI_eq0, decide_eq_true_eq, decide_eq_false_iff_not, Bool.not_eq_false, Bool.not_eq_true, Decidable.not_not] at c_5
                    try simp only [bI_ne0, bI_eq0, decide_eq_true_eq, decide_eq_false_iff_not, Bool.not_eq_false, Bool.not_eq_true, Decidable.not_not] at c_8
                    try simp only [bI_ne0, bI_eq0, decide_eq_true_eq, decide_eq_false_iff_not, Bool.not_eq_false, Bool.not_eq_true, Decidable.not_not] at c_11
                    try simp only [bI_ne0, bI_eq0, decide_eq_true_eq, decide_eq_false_iff_not, Bool.not_eq_false, Bool.not_eq_true, Decidable.not_not] at c_14
                    try simp only [bI_ne0, bI_eq0, decide_eq_true_eq, decide_eq_false_iff_not, Bool.not_eq_false, Bool.not_eq_true, Decidable.not_not] at c_35
                    try simp only [bI_ne0, bI_eq0, decide_eq_true_eq, decide_eq_false_iff_not, Bool.not_eq_false, Bool.not_eq_true, Decidable.not_not] at c_40
                    try simp only [bI_ne0, bI_eq0, decide_eq_true_eq, decide_eq_false_iff_not, Bool.not_eq_false, Bool.not_eq_true, Decidable.not_not] at c_41
                    try simp only [bI_ne0, bI_eq0, decide_eq_true_eq, decide_eq_false_iff_not, Bool.not_eq_false, Bool.not_eq_true, Decidable.not_not] at c_42
                    have hfin : moPart ρ n2 n6 w0 h0 x y sd = ((-1), ((ρ.ws 0 0).ws 3 3)) := by first | (simp only [moPart, ptOk, c_2, c_5, c_8, c_11, c_14, c_35, c_40, c_41, c_42, decide_true, decide_false, Bool.true_and, Bool.and_true, Bool.false_and, Bool.and_false, Bool.true_or, Bool.or_true, Bool.false_or, Bool.or_false, Bool.not_true, Bool.not_false, if_true, if_false, Bool.false_eq_true, Bool.true_eq_false, reduceIte, eq_self]; done) | (simp [moPart, ptOk, c_2, c_5, c_8, c_11, c_14, c_35, c_40, c_41, c_42]; done) | (simp_all [moPart, ptOk]; done)
                    exact W.iret (v := (-1)) hx hb hr (fun t9 ht hW => ⟨⟨(-1), V_52, rfl, ⟨by rw [hfin]; exact hM_52, hR_52, by rw [hfin]⟩, mB_of ht hV⟩, hS.F ht⟩) hS.2.2 d_Mo_part_155
                · refine lv_iconst (v := 2) hx hb d_Mo_part_87 (by decide) ?_
                  refine lv_goto (tgt := 127) hx hb d_Mo_part_88 (by decide) ?_
                  refine pf_Mo_149 hx hb hW hown hG hV hS hm_39 d_Mo_part_127 (fun H locs hV hS => ?_)
                  replace hV : hv D vwCl N0 (hu V_38 mo (.inr (7, [.int 0, .int (ρ.s 1), .int (ρ.s 2), .int 2, .ref (ad 0), .ref (ad 1), .ref (ad 2), .ref (ad 3), .ref (ad 4), .ref (ad 5), .ref (ad 6), .ref (ad 7), .ref (ad 8), .int (ρ.s 4), .ref (ad 9), .ref (ad 10), .ref (ad 11), .ref (ad 12), .ref (ad 13), .ref (ad 14), .ref (ad 15), .ref (ad 16), .ref (ad 17), .ref (ad 18), .ref (ad 19), .ref (ad 20), .ref (ad 21), .ref (ad 22), .ref (ad 23), .ref (ad 24), .ref (ad 25)]))) H := hV
                  generalize hV_V_54 : hu V_38 mo (.inr (7, [.int 0, .int (ρ.s 1), .int (ρ.s 2), .int 2, .ref (ad 0), .ref (ad 1), .ref (ad 2), .ref (ad 3), .ref (ad 4), .ref (ad 5), .ref (ad 6), .ref (ad 7), .ref (ad 8), .int (ρ.s 4), .ref (ad 9), .ref (ad 10), .ref (ad 11), .ref (ad 12), .ref (ad 13), .ref (ad 14), .ref (ad 15), .ref (ad 16), .ref (ad 17), .ref (ad 18), .ref (ad 19), .ref (ad 20), .ref (ad 21), .ref (ad 22), .ref (ad 23), .ref (ad 24), .ref (ad 25)])) = V_54 at hV
                  have hM_54 : mdOk k V_54 mo ad ((ρ.ws 0 0).ws 3 2) := by rw [← hV_V_54]; exact md_put hM_38 3 2
                  have hR_54 : mdFr mo ad V V_54 := by rw [← hV_V_54]; exact hR_38.m
                  have hm_55 : V_54 mo = some (.inr (7, [.int 0, .int (ρ.s 1), .int (ρ.s 2), .int 2, .ref (ad 0), .ref (ad 1), .ref (ad 2), .ref (ad 3), .ref (ad 4), .ref (ad 5), .ref (ad 6), .ref (ad 7), .ref (ad 8), .int (ρ.s 4), .ref (ad 9), .ref (ad 10), .ref (ad 11), .ref (ad 12), .ref (ad 13), .ref (ad 14), .ref (ad 15), .ref (ad 16), .ref (ad 17), .ref (ad 18), .ref (ad 19), .ref (ad 20), .ref (ad 21), .ref (ad 22), .ref (ad 23), .ref (ad 24), .ref (ad 25)])) := hM_54.1
                  refine lv_aload_n hx hb d_Mo_part_130 rfl (lv_at hl 1 rfl) ?_
                  refine gf_Mo_149 hx hb hW hown hG hV hm_55 d_Mo_part_131 ?_
                  refine lv_if_ne (tgt := 154) hx hb d_Mo_part_134 (by decide) (fun _ => ?_) (fun q => absurd q (by decide))
                  refine lv_iconst (v := (-1)) hx hb d_Mo_part_154 (by decide) ?_
                  try simp only [bI_ne0, bI_eq0, decide_eq_true_eq, decide_eq_false_iff_not, Bool.not_eq_false, Bool.not_eq_true, Decidable.not_not] at c_2
                  try simp only [bI_ne0, bI_eq0, decide_eq_true_eq, decide_eq_false_iff_not, Bool.not_eq_false, Bool.not_eq_true, Decidable.not_not] at c_5
                  try simp only [bI_ne0, bI_eq0, decide_eq_true_eq, decide_eq_false_iff_not, Bool.not_eq_false, Bool.not_eq_true, Decidable.not_not] at c_8
                  try simp only [bI_ne0, bI_eq0, decide_eq_true_eq, decide_eq_false_iff_not, Bool.not_eq_false, Bool.not_eq_true, Decidable.not_not] at c_11
                  try simp only [bI_ne0, bI_eq0, decide_eq_true_eq, decide_eq_false_iff_not, Bool.not_eq_false, Bool.not_eq_true, Decidable.not_not] at c_14
                  try simp only [bI_ne0, bI_eq0, decide_eq_true_eq, decide_eq_false_iff_not, Bool.not_eq_false, Bool.not_eq_true, Decidable.not_not] at c_35
                  try simp only [bI_ne0, bI_eq0, decide_eq_true_eq, decide_eq_false_iff_not, Bool.not_eq_false, Bool.not_eq_true, Decidable.not_not] at c_40
                  try simp only [bI_ne0, bI_eq0, decide_eq_true_eq, decide_eq_false_iff_not, Bool.not_eq_false, Bool.not_eq_true, Decidable.not_not] at c_41
                  have hfin : moPart ρ n2 n6 w0 h0 x y sd = ((-1), ((ρ.ws 0 0).ws 3 2)) := by first | (simp only [moPart, ptOk, c_2, c_5, c_8, c_11, c_14, c_35, c_40, c_41, decide_true, decide_false, Bool.true_and, Bool.and_true, Bool.false_and, Bool.and_false, Bool.true_or, Bool.or_true, Bool.false_or, Bool.or_false, Bool.not_true, Bool.not_false, if_true, if_false, Bool.false_eq_true, Bool.true_eq_false, reduceIte, eq_self]; done) | (simp [moPart, ptOk, c_2, c_5, c_8, c_11, c_14, c_35, c_40, c_41]; done) | (simp_all [moPart, ptOk]; done)
                  exact W.iret (v := (-1)) hx hb hr (fun t9 ht hW => ⟨⟨(-1), V_54, rfl, ⟨by rw [hfin]; exact hM_54, hR_54, by rw [hfin]⟩, mB_of ht hV⟩, hS.F ht⟩) hS.2.2 d_Mo_part_155
              · refine lv_iconst (v := 1) hx hb d_Mo_part_72 (by decide) ?_
                refine lv_goto (tgt := 127) hx hb d_Mo_part_73 (by decide) ?_
                refine pf_Mo_149 hx hb hW hown hG hV hS hm_39 d_Mo_part_127 (fun H locs hV hS => ?_)
                replace hV : hv D vwCl N0 (hu V_38 mo (.inr (7, [.int 0, .int (ρ.s 1), .int (ρ.s 2), .int 1, .ref (ad 0), .ref (ad 1), .ref (ad 2), .ref (ad 3), .ref (ad 4), .ref (ad 5), .ref (ad 6), .ref (ad 7), .ref (ad 8), .int (ρ.s 4), .ref (ad 9), .ref (ad 10), .ref (ad 11), .ref (ad 12), .ref (ad 13), .ref (ad 14), .ref (ad 15), .ref (ad 16), .ref (ad 17), .ref (ad 18), .ref (ad 19), .ref (ad 20), .ref (ad 21), .ref (ad 22), .ref (ad 23), .ref (ad 24), .ref (ad 25)]))) H := hV
                generalize hV_V_56 : hu V_38 mo (.inr (7, [.int 0, .int (ρ.s 1), .int (ρ.s 2), .int 1, .ref (ad 0), .ref (ad 1), .ref (ad 2), .ref (ad 3), .ref (ad 4), .ref (ad 5), .ref (ad 6), .ref (ad 7), .ref (ad 8), .int (ρ.s 4), .ref (ad 9), .ref (ad 10), .ref (ad 11), .ref (ad 12), .ref (ad 13), .ref (ad 14), .ref (ad 15), .ref (ad 16), .ref (ad 17), .ref (ad 18), .ref (ad 19), .ref (ad 20), .ref (ad 21), .ref (ad 22), .ref (ad 23), .ref (ad 24), .ref (ad 25)])) = V_56 at hV
                have hM_56 : mdOk k V_56 mo ad ((ρ.ws 0 0).ws 3 1) := by rw [← hV_V_56]; exact md_put hM_38 3 1
                have hR_56 : mdFr mo ad V V_56 := by rw [← hV_V_56]; exact hR_38.m
                have hm_57 : V_56 mo = some (.inr (7, [.int 0, .int (ρ.s 1), .int (ρ.s 2), .int 1, .ref (ad 0), .ref (ad 1), .ref (ad 2), .ref (ad 3), .ref (ad 4), .ref (ad 5), .ref (ad 6), .ref (ad 7), .ref (ad 8), .int (ρ.s 4), .ref (ad 9), .ref (ad 10), .ref (ad 11), .ref (ad 12), .ref (ad 13), .ref (ad 14), .ref (ad 15), .ref (ad 16), .ref (ad 17), .ref (ad 18), .ref (ad 19), .ref (ad 20), .ref (ad 21), .ref (ad 22), .ref (ad 23), .ref (ad 24), .ref (ad 25)])) := hM_56.1
                refine lv_aload_n hx hb d_Mo_part_130 rfl (lv_at hl 1 rfl) ?_
                refine gf_Mo_149 hx hb hW hown hG hV hm_57 d_Mo_part_131 ?_
                refine lv_if_ne (tgt := 154) hx hb d_Mo_part_134 (by decide) (fun _ => ?_) (fun q => absurd q (by decide))
                refine lv_iconst (v := (-1)) hx hb d_Mo_part_154 (by decide) ?_
                try simp only [bI_ne0, bI_eq0, decide_eq_true_eq, decide_eq_false_iff_not, Bool.not_eq_false, Bool.not_eq_true, Decidable.not_not] at c_2
                try simp only [bI_ne0, bI_eq0, decide_eq_true_eq, decide_eq_false_iff_not, Bool.not_eq_false, Bool.not_eq_true, Decidable.not_not] at c_5
                try simp only [bI_ne0, bI_eq0, decide_eq_true_eq, decide_eq_false_iff_not, Bool.not_eq_false, Bool.not_eq_true, Decidable.not_not] at c_8
                try simp only [bI_ne0, bI_eq0, decide_eq_true_eq, decide_eq_false_iff_not, Bool.not_eq_false, Bool.not_eq_true, Decidable.not_not] at c_11
                try simp only [bI_ne0, bI_eq0, decide_eq_true_eq, decide_eq_false_iff_not, Bool.not_eq_false, Bool.not_eq_true, Decidable.not_not] at c_14
                try simp only [bI_ne0, bI_eq0, decide_eq_true_eq, decide_eq_false_iff_not, Bool.not_eq_false, Bool.not_eq_true, Decidable.not_not] at c_35
                try simp only [bI_ne0, bI_eq0, decide_eq_true_eq, decide_eq_false_iff_not, Bool.not_eq_false, Bool.not_eq_true, Decidable.not_not] at c_40
                have hfin : moPart ρ n2 n6 w0 h0 x y sd = ((-1), ((ρ.ws 0 0).ws 3 1)) := by first | (simp only [moPart, ptOk, c_2, c_5, c_8, c_11, c_14, c_35, c_40, decide_true, decide_false, Bool.true_and, Bool.and_true, Bool.false_and, Bool.and_false, Bool.true_or, Bool.or_true, Bool.false_or, Bool.or_false, Bool.not_true, Bool.not_false, if_true, if_false, Bool.false_eq_true, Bool.true_eq_false, reduceIte, eq_self]; done) | (simp [moPart, ptOk, c_2, c_5, c_8, c_11, c_14, c_35, c_40]; done) | (simp_all [moPart, ptOk]; done)
                exact W.iret (v := (-1)) hx hb hr (fun t9 ht hW => ⟨⟨(-1), V_56, rfl, ⟨by rw [hfin]; exact hM_56, hR_56, by rw [hfin]⟩, mB_of ht hV⟩, hS.F ht⟩) hS.2.2 d_Mo_part_155
set_option maxHeartbeats 4000000 in
set_option maxRecDepth 100000 in
/-- makeCopper -/
theorem c_Mo_makeCopper (l : Launch) (D : va_G) (N0 : Nat) (k : Nat → Nat) (V : HV) (mo : Nat) (ad : Nat → Nat) (ρ : MS) (hM : mdOk k V mo ad ρ) (ne la x y w0 h0 pa : Int32) (K n0 : Nat) (hK2 : 2 ≤ K) (hK5 : K ≤ 5) (en0 : ρ.I 0 K = nI n0) (hn0le : n0 ≤ liN K) (n6 : Nat) (hn6 : n6 ≤ 10) (en6 : ρ.I 0 6 = nI n6) (hwo : moWo ρ) : Met l y_Mo_makeCopper (.code y_Mo_makeCopper b_Mo_makeCopper 10 (some .int) :: WS) ({ frames := 4, cells := 0, slots := 0, locals := 91 }) (mP D N0 k [.ref mo, .int (nI K), .int ne, .int la, .int x, .int y, .int w0, .int h0, .int pa] V) (va_Qi (fun r V' => mdOk k V' mo ad (moMkC ρ K n0 n6 ne la x y w0 h0 pa).2 ∧ mdFr mo ad V V' ∧ r = (moMkC ρ K n0 n6 ne la x y w0 h0 pa).1) (mB D N0) (hA N0)) 0 0 (hA N0) := by
  refine Met.ofW (cc := b_Mo_makeCopper) (maxL := 10) (ret := (some .int)) (by decide) rfl ?_
  intro p e s m args below meth c s₁ B hml hv0
  obtain ⟨rfl, hG, hV⟩ := hv0
  have hx := B.exec
  have hb := B.bytes
  have hr := B.returns
  have hts := atoms_spec (ws := .code y_Mo_makeCopper b_Mo_makeCopper 10 (some .int) :: WS) B.pre
  have hW : ∀ w ∈ WS, w.before _ s = true := fun w h => hts w (List.mem_cons_of_mem _ h)
  have hown : s.vm.findClass "BoardHouseModel" = some m.cls := findClass_of_methodNamed B.named
  have hlocks := B.notSynchronized
  have hS : va_S (hA N0) s.heap s.heap [] := va_S.rf
  have hl := lv_entry ([.ref mo, .int (nI K), .int ne, .int la, .int x, .int y, .int w0, .int h0, .int pa]) (n := 10) (Nat.le_of_ble_eq_true rfl)
  rw [lg_entry_eq]
  generalize (lg_sl ([.ref mo, .int (nI K), .int ne, .int la, .int x, .int y, .int w0, .int h0, .int pa]) ++ List.replicate (10 - (lg_sl ([.ref mo, .int (nI K), .int ne, .int la, .int x, .int y, .int w0, .int h0, .int pa])).length) Slot.unset).toArray = ls at hl ⊢
  have hl : lv_has ls 10 [(0, .ref mo), (1, .int (nI K)), (2, .int ne), (3, .int la), (4, .int x), (5, .int y), (6, .int w0), (7, .int h0), (8, .int pa)] := hl
  have hm_1 : V mo = some (.inr (7, [.int (ρ.s 0), .int (ρ.s 1), .int (ρ.s 2), .int (ρ.s 3), .ref (ad 0), .ref (ad 1), .ref (ad 2), .ref (ad 3), .ref (ad 4), .ref (ad 5), .ref (ad 6), .ref (ad 7), .ref (ad 8), .int (ρ.s 4), .ref (ad 9), .ref (ad 10), .ref (ad 11), .ref (ad 12), .ref (ad 13), .ref (ad 14), .ref (ad 15), .ref (ad 16), .ref (ad 17), .ref (ad 18), .ref (ad 19), .ref (ad 20), .ref (ad 21), .ref (ad 22), .ref (ad 23), .ref (ad 24), .ref (ad 25)])) := hM.1
  refine lv_aload_n hx hb d_Mo_makeCopper_0 rfl (lv_at hl 0 rfl) ?_
  refine lv_aload_n hx hb d_Mo_makeCopper_1 rfl (lv_at hl 0 rfl) ?_
  refine lv_iload_n hx hb d_Mo_makeCopper_2 rfl (lv_at hl 1 rfl) ?_
  refine rc_i (va_runV (As := [.int (nI K)]) (rest := [.ref mo]) ⟨hx, hb, hml, hown, hts⟩ (c_Mo_isFull l D N0 k V mo ad ρ hM K (by omega) (by omega)) (cwV 1 hts (gi_V wm_Mo_152 wv_Mo_isFull ws_Mo_isFull wi_Mo wc_Mo_isFull) rfl rfl rfl (by decide +kernel) ⟨Nat.le_of_ble_eq_true rfl, Nat.le_of_ble_eq_true rfl⟩) (mP.preV hG hS hV hm_1 rfl) rfl rfl hl.1 rfl (lv_room (Nat.le_of_ble_eq_true rfl)) d_Mo_makeCopper_3 ⟨Nat.le_of_ble_eq_true rfl, Nat.le_of_ble_eq_true rfl⟩) hS (fun H locs hV hS => ?_)
  refine W.eq (g2 := F0 m 6 ls [.int (bI (decide ((ρ.I 0) K = nI (liN K)))), .ref mo]) rfl ?_
  refine lv_if_eq (tgt := 13) hx hb d_Mo_makeCopper_6 (by decide) (fun c_2 => ?_) (fun c_2 => ?_)
  · refine lv_iload hx hb d_Mo_makeCopper_13 (lv_at hl 4 rfl) ?_
    refine lv_iload hx hb d_Mo_makeCopper_15 (lv_at hl 5 rfl) ?_
    refine lv_iload hx hb d_Mo_makeCopper_17 (lv_at hl 6 rfl) ?_
    refine lv_iload hx hb d_Mo_makeCopper_19 (lv_at hl 7 rfl) ?_
    refine rc_i (va_runS (As := [.int x, .int y, .int w0, .int h0]) (rest := [.ref mo]) ⟨hx, hb, hml, hown, hts⟩ (c_Mo_isBox l D N0 k V x y w0 h0) (va_cwS 4 hts (gi_S wm_Mo_158 wt_Mo_isBox wi_Mo wc_Mo_isBox) rfl rfl rfl (by decide +kernel) ⟨Nat.le_of_ble_eq_true rfl, Nat.le_of_ble_eq_true rfl⟩) (mP.preS hG hS hV) rfl rfl hl.1 rfl (lv_room (Nat.le_of_ble_eq_true rfl)) d_Mo_makeCopper_21 ⟨Nat.le_of_ble_eq_true rfl, Nat.le_of_ble_eq_true rfl⟩) hS (fun H locs hV hS => ?_)
    refine lv_if_ne (tgt := 31) hx hb d_Mo_makeCopper_24 (by decide) (fun c_3 => ?_) (fun c_3 => ?_)
    · refine lv_aload_n hx hb d_Mo_makeCopper_31 rfl (lv_at hl 0 rfl) ?_
      refine lv_iload hx hb d_Mo_makeCopper_32 (lv_at hl 4 rfl) ?_
      refine lv_iload hx hb d_Mo_makeCopper_34 (lv_at hl 5 rfl) ?_
      refine lv_iload hx hb d_Mo_makeCopper_36 (lv_at hl 6 rfl) ?_
      refine lv_iload hx hb d_Mo_makeCopper_38 (lv_at hl 7 rfl) ?_
      refine rc_i (va_runV (As := [.int x, .int y, .int w0, .int h0]) (rest := [.ref mo]) ⟨hx, hb, hml, hown, hts⟩ (c_Mo_isBarred l D N0 k V mo ad ρ hM x y w0 h0 n6 hn6 en6 hwo) (cwV 4 hts (gi_V wm_Mo_122 wv_Mo_isBarred ws_Mo_isBarred wi_Mo wc_Mo_isBarred) rfl rfl rfl (by decide +kernel) ⟨Nat.le_of_ble_eq_true rfl, Nat.le_of_ble_eq_true rfl⟩) (mP.preV hG hS hV hm_1 rfl) rfl rfl hl.1 rfl (lv_room (Nat.le_of_ble_eq_true rfl)) d_Mo_makeCopper_40 ⟨Nat.le_of_ble_eq_true rfl, Nat.le_of_ble_eq_true rfl⟩) hS (fun H locs hV hS => ?_)
      refine W.eq (g2 := F0 m 43 ls [.int (bI (moBarr ρ n6 x y w0 h0)), .ref mo]) rfl ?_
      refine lv_if_eq (tgt := 50) hx hb d_Mo_makeCopper_43 (by decide) (fun c_4 => ?_) (fun c_4 => ?_)
      · refine lv_iconst (v := 0) hx hb d_Mo_makeCopper_50 (by decide) ?_
        refine pf_Mo_149 hx hb hW hown hG hV hS hm_1 d_Mo_makeCopper_51 (fun H locs hV hS => ?_)
        replace hV : hv D vwCl N0 (hu V mo (.inr (7, [.int (ρ.s 0), .int (ρ.s 1), .int (ρ.s 2), .int 0, .ref (ad 0), .ref (ad 1), .ref (ad 2), .ref (ad 3), .ref (ad 4), .ref (ad 5), .ref (ad 6), .ref (ad 7), .ref (ad 8), .int (ρ.s 4), .ref (ad 9), .ref (ad 10), .ref (ad 11), .ref (ad 12), .ref (ad 13), .ref (ad 14), .ref (ad 15), .ref (ad 16), .ref (ad 17), .ref (ad 18), .ref (ad 19), .ref (ad 20), .ref (ad 21), .ref (ad 22), .ref (ad 23), .ref (ad 24), .ref (ad 25)]))) H := hV
        generalize hV_V_5 : hu V mo (.inr (7, [.int (ρ.s 0), .int (ρ.s 1), .int (ρ.s 2), .int 0, .ref (ad 0), .ref (ad 1), .ref (ad 2), .ref (ad 3), .ref (ad 4), .ref (ad 5), .ref (ad 6), .ref (ad 7), .ref (ad 8), .int (ρ.s 4), .ref (ad 9), .ref (ad 10), .ref (ad 11), .ref (ad 12), .ref (ad 13), .ref (ad 14), .ref (ad 15), .ref (ad 16), .ref (ad 17), .ref (ad 18), .ref (ad 19), .ref (ad 20), .ref (ad 21), .ref (ad 22), .ref (ad 23), .ref (ad 24), .ref (ad 25)])) = V_5 at hV
        have hM_5 : mdOk k V_5 mo ad (ρ.ws 3 0) := by rw [← hV_V_5]; exact md_put hM 3 0
        have hR_5 : mdFr mo ad V V_5 := by rw [← hV_V_5]; exact (mdFr.rf (mo := mo) (ad := ad) (V := V)).m
        have hm_6 : V_5 mo = some (.inr (7, [.int (ρ.s 0), .int (ρ.s 1), .int (ρ.s 2), .int 0, .ref (ad 0), .ref (ad 1), .ref (ad 2), .ref (ad 3), .ref (ad 4), .ref (ad 5), .ref (ad 6), .ref (ad 7), .ref (ad 8), .int (ρ.s 4), .ref (ad 9), .ref (ad 10), .ref (ad 11), .ref (ad 12), .ref (ad 13), .ref (ad 14), .ref (ad 15), .ref (ad 16), .ref (ad 17), .ref (ad 18), .ref (ad 19), .ref (ad 20), .ref (ad 21), .ref (ad 22), .ref (ad 23), .ref (ad 24), .ref (ad 25)])) := hM_5.1
        refine lv_aload_n hx hb d_Mo_makeCopper_54 rfl (lv_at hl 0 rfl) ?_
        refine gf_Mo_149 hx hb hW hown hG hV hm_6 d_Mo_makeCopper_55 ?_
        refine lv_if_eq (tgt := 63) hx hb d_Mo_makeCopper_58 (by decide) (fun _ => ?_) (fun q => absurd q (by decide))
        have hn0 : n0 < liN K := by have q := bI_eq0.mp c_2; rw [en0] at q; have q2 := of_decide_eq_false q; exact Nat.lt_of_le_of_ne hn0le (fun z => q2 (by rw [z]))
        obtain ⟨-, -, ht150⟩ := sl_of hK2 hK5 hn0
        refine lv_aload_n hx hb d_Mo_makeCopper_63 rfl (lv_at hl 0 rfl) ?_
        refine lv_iload_n hx hb d_Mo_makeCopper_64 rfl (lv_at hl 1 rfl) ?_
        refine lv_iload_n hx hb d_Mo_makeCopper_65 rfl (lv_at hl 2 rfl) ?_
        refine lv_iload_n hx hb d_Mo_makeCopper_66 rfl (lv_at hl 3 rfl) ?_
        refine lv_iload hx hb d_Mo_makeCopper_67 (lv_at hl 4 rfl) ?_
        refine lv_iload hx hb d_Mo_makeCopper_69 (lv_at hl 5 rfl) ?_
        refine lv_iload hx hb d_Mo_makeCopper_71 (lv_at hl 6 rfl) ?_
        refine lv_iload hx hb d_Mo_makeCopper_73 (lv_at hl 7 rfl) ?_
        refine rc_I (va_runV (As := [.int (nI K), .int ne, .int la, .int x, .int y, .int w0, .int h0]) (rest := []) ⟨hx, hb, hml, hown, hts⟩ (c_Mo_layNext l D N0 k V_5 mo ad (ρ.ws 3 0) hM_5 ne la x y w0 h0 K n0 hK2 hK5 en0 hn0) (cwV 7 hts (gi_V wm_Mo_169 wv_Mo_layNext ws_Mo_layNext wi_Mo wc_Mo_layNext) rfl rfl rfl (by decide +kernel) ⟨Nat.le_of_ble_eq_true rfl, Nat.le_of_ble_eq_true rfl⟩) (mP.preV hG hS hV hm_6 rfl) rfl rfl hl.1 rfl (lv_room (Nat.le_of_ble_eq_true rfl)) d_Mo_makeCopper_75 ⟨Nat.le_of_ble_eq_true rfl, Nat.le_of_ble_eq_true rfl⟩) hS (fun r_7 V_8 H locs hp_9 hV hS => ?_)
        obtain ⟨hM_10, hM_10R, hM_10e⟩ := hp_9
        subst hM_10e
        have hm_11 : V_8 mo = some (.inr (7, [.int (ρ.s 0), .int (ρ.s 1), .int (ρ.s 2), .int 0, .ref (ad 0), .ref (ad 1), .ref (ad 2), .ref (ad 3), .ref (ad 4), .ref (ad 5), .ref (ad 6), .ref (ad 7), .ref (ad 8), .int (ρ.s 4), .ref (ad 9), .ref (ad 10), .ref (ad 11), .ref (ad 12), .ref (ad 13), .ref (ad 14), .ref (ad 15), .ref (ad 16), .ref (ad 17), .ref (ad 18), .ref (ad 19), .ref (ad 20), .ref (ad 21), .ref (ad 22), .ref (ad 23), .ref (ad 24), .ref (ad 25)])) := hM_10.1
        refine lv_istore (lv' := [(9, .int (nI (fiN K + n0))), (0, .ref mo), (1, .int (nI K)), (2, .int ne), (3, .int la), (4, .int x), (5, .int y), (6, .int w0), (7, .int h0), (8, .int pa)]) hx hb d_Mo_makeCopper_78 hl (by decide) rfl (fun ls hl => ?_)
        refine lv_aload_n hx hb d_Mo_makeCopper_80 rfl (lv_at hl 1 rfl) ?_
        refine lv_iload hx hb d_Mo_makeCopper_81 (lv_at hl 0 rfl) ?_
        refine lv_iconst (v := 0) hx hb d_Mo_makeCopper_83 (by decide) ?_
        refine lv_iconst (v := 0) hx hb d_Mo_makeCopper_84 (by decide) ?_
        refine lv_iconst (v := (-1)) hx hb d_Mo_makeCopper_85 (by decide) ?_
        refine rc_i (va_runV (As := [.int (nI (fiN K + n0)), .int 0, .int 0, .int (-1)]) (rest := []) ⟨hx, hb, hml, hown, hts⟩ (c_Mo_clashesWithAny l D N0 k V_8 mo ad (moLayS (ρ.ws 3 0) (fiN K + n0) ne la x y w0 h0) hM_10 (fiN K + n0) (by omega) 0 0 (-1)) (cwV 4 hts (gi_V wm_Mo_173 wv_Mo_clashesWithAny ws_Mo_clashesWithAny wi_Mo wc_Mo_clashesWithAny) rfl rfl rfl (by decide +kernel) ⟨Nat.le_of_ble_eq_true rfl, Nat.le_of_ble_eq_true rfl⟩) (mP.preV hG hS hV hm_11 rfl) rfl rfl hl.1 rfl (lv_room (Nat.le_of_ble_eq_true rfl)) d_Mo_makeCopper_86 ⟨Nat.le_of_ble_eq_true rfl, Nat.le_of_ble_eq_true rfl⟩) hS (fun H locs hV hS => ?_)
        refine W.eq (g2 := F0 m 89 ls [.int (bI (anyF (moCwP (moLayS (ρ.ws 3 0) (fiN K + n0) ne la x y w0 h0) (fiN K + n0) 0 0 (-1)) 20 120))]) rfl ?_
        refine lv_if_eq (tgt := 98) hx hb d_Mo_makeCopper_89 (by decide) (fun c_12 => ?_) (fun c_12 => ?_)
        · refine lv_aload_n hx hb d_Mo_makeCopper_98 rfl (lv_at hl 1 rfl) ?_
          refine lv_iload_n hx hb d_Mo_makeCopper_99 rfl (lv_at hl 2 rfl) ?_
          refine lv_iload_n hx hb d_Mo_makeCopper_100 rfl (lv_at hl 3 rfl) ?_
          refine lv_iload_n hx hb d_Mo_makeCopper_101 rfl (lv_at hl 4 rfl) ?_
          refine lv_iload hx hb d_Mo_makeCopper_102 (lv_at hl 5 rfl) ?_
          refine lv_iload hx hb d_Mo_makeCopper_104 (lv_at hl 6 rfl) ?_
          refine lv_iload hx hb d_Mo_makeCopper_106 (lv_at hl 7 rfl) ?_
          refine lv_iload hx hb d_Mo_makeCopper_108 (lv_at hl 8 rfl) ?_
          refine lv_iload hx hb d_Mo_makeCopper_110 (lv_at hl 9 rfl) ?_
          refine rc_I (va_runV (As := [.int (nI K), .int ne, .int la, .int x, .int y, .int w0, .int h0, .int pa]) (rest := []) ⟨hx, hb, hml, hown, hts⟩ (c_Mo_make l D N0 k V_8 mo ad (moLayS (ρ.ws 3 0) (fiN K + n0) ne la x y w0 h0) hM_10 ne la x y w0 h0 pa K n0 hK2 hK5 en0 hn0 hwo) (cwV 8 hts (gi_V wm_Mo_165 wv_Mo_make ws_Mo_make wi_Mo wc_Mo_make) rfl rfl rfl (by decide +kernel) ⟨Nat.le_of_ble_eq_true rfl, Nat.le_of_ble_eq_true rfl⟩) (mP.preV hG hS hV hm_11 rfl) rfl rfl hl.1 rfl (lv_room (Nat.le_of_ble_eq_true rfl)) d_Mo_makeCopper_112 ⟨Nat.le_of_ble_eq_true rfl, Nat.le_of_ble_eq_true rfl⟩) hS (fun r_13 V_14 H locs hp_15 hV hS => ?_)
          obtain ⟨hM_16, hM_16R, hM_16e⟩ := hp_15
          subst hM_16e
          try simp only [bI_ne0, bI_eq0, decide_eq_true_eq, decide_eq_false_iff_not, Bool.not_eq_false, Bool.not_eq_true, Decidable.not_not] at c_2
          try simp only [bI_ne0, bI_eq0, decide_eq_true_eq, decide_eq_false_iff_not, Bool.not_eq_false, Bool.not_eq_true, Decidable.not_not] at c_3
          try simp only [bI_ne0, bI_eq0, decide_eq_true_eq, decide_eq_false_iff_not, Bool.not_eq_false, Bool.not_eq_true, Decidable.not_not] at c_4
          try simp only [bI_ne0, bI_eq0, decide_eq_true_eq, decide_eq_false_iff_not, Bool.not_eq_false, Bool.not_eq_true, Decidable.not_not] at c_12
          have hfin : moMkC ρ K n0 n6 ne la x y w0 h0 pa = ((moHan (nI (fiN K + n0))), (moMkS (moLayS (ρ.ws 3 0) (fiN K + n0) ne la x y w0 h0) K (fiN K + n0) ne la x y w0 h0 pa)) := by first | (simp only [moMkC, c_2, c_3, c_4, c_12, decide_true, decide_false, Bool.true_and, Bool.and_true, Bool.false_and, Bool.and_false, Bool.true_or, Bool.or_true, Bool.false_or, Bool.or_false, Bool.not_true, Bool.not_false, if_true, if_false, Bool.false_eq_true, Bool.true_eq_false, reduceIte, eq_self]; done) | (simp [moMkC, c_2, c_3, c_4, c_12]; done) | (simp_all [moMkC]; done)
          exact W.iret (v := (moHan (nI (fiN K + n0)))) hx hb hr (fun t9 ht hW => ⟨⟨(moHan (nI (fiN K + n0))), V_14, rfl, ⟨by rw [hfin]; exact hM_16, (hR_5.tr hM_10R).tr hM_16R, by rw [hfin]⟩, mB_of ht hV⟩, hS.F ht⟩) hS.2.2 d_Mo_makeCopper_115
        · refine lv_aload_n hx hb d_Mo_makeCopper_92 rfl (lv_at hl 1 rfl) ?_
          refine lv_iconst (v := 5) hx hb d_Mo_makeCopper_93 (by decide) ?_
          refine rc_I (va_runV (As := [.int 5]) (rest := []) ⟨hx, hb, hml, hown, hts⟩ (c_Mo_refuse l D N0 k V_8 mo ad (moLayS (ρ.ws 3 0) (fiN K + n0) ne la x y w0 h0) hM_10 5) (cwV 1 hts (gi_V wm_Mo_155 wv_Mo_refuse ws_Mo_refuse wi_Mo wc_Mo_refuse) rfl rfl rfl (by decide +kernel) ⟨Nat.le_of_ble_eq_true rfl, Nat.le_of_ble_eq_true rfl⟩) (mP.preV hG hS hV hm_11 rfl) rfl rfl hl.1 rfl (lv_room (Nat.le_of_ble_eq_true rfl)) d_Mo_makeCopper_94 ⟨Nat.le_of_ble_eq_true rfl, Nat.le_of_ble_eq_true rfl⟩) hS (fun r_17 V_18 H locs hp_19 hV hS => ?_)
          obtain ⟨hM_20, hM_20R, hM_20e⟩ := hp_19
          subst hM_20e
          try simp only [bI_ne0, bI_eq0, decide_eq_true_eq, decide_eq_false_iff_not, Bool.not_eq_false, Bool.not_eq_true, Decidable.not_not] at c_2
          try simp only [bI_ne0, bI_eq0, decide_eq_true_eq, decide_eq_false_iff_not, Bool.not_eq_false, Bool.not_eq_true, Decidable.not_not] at c_3
          try simp only [bI_ne0, bI_eq0, decide_eq_true_eq, decide_eq_false_iff_not, Bool.not_eq_false, Bool.not_eq_true, Decidable.not_not] at c_4
          try simp only [bI_ne0, bI_eq0, decide_eq_true_eq, decide_eq_false_iff_not, Bool.not_eq_false, Bool.not_eq_true, Decidable.not_not] at c_12
          have hfin : moMkC ρ K n0 n6 ne la x y w0 h0 pa = ((-1), ((moLayS (ρ.ws 3 0) (fiN K + n0) ne la x y w0 h0).ws 3 5)) := by first | (simp only [moMkC, c_2, c_3, c_4, c_12, decide_true, decide_false, Bool.true_and, Bool.and_true, Bool.false_and, Bool.and_false, Bool.true_or, Bool.or_true, Bool.false_or, Bool.or_false, Bool.not_true, Bool.not_false, if_true, if_false, Bool.false_eq_true, Bool.true_eq_false, reduceIte, eq_self]; done) | (simp [moMkC, c_2, c_3, c_4, c_12]; done) | (simp_all [moMkC]; done)
          exact W.iret (v := (-1)) hx hb hr (fun t9 ht hW => ⟨⟨(-1), V_18, rfl, ⟨by rw [hfin]; exact hM_20, (hR_5.tr hM_10R).tr hM_20R, by rw [hfin]⟩, mB_of ht hV⟩, hS.F ht⟩) hS.2.2 d_Mo_makeCopper_97
      · refine lv_iconst (v := 3) hx hb d_Mo_makeCopper_46 (by decide) ?_
        refine lv_goto (tgt := 51) hx hb d_Mo_makeCopper_47 (by decide) ?_
        refine pf_Mo_149 hx hb hW hown hG hV hS hm_1 d_Mo_makeCopper_51 (fun H locs hV hS => ?_)
        replace hV : hv D vwCl N0 (hu V mo (.inr (7, [.int (ρ.s 0), .int (ρ.s 1), .int (ρ.s 2), .int 3, .ref (ad 0), .ref (ad 1), .ref (ad 2), .ref (ad 3), .ref (ad 4), .ref (ad 5), .ref (ad 6), .ref (ad 7), .ref (ad 8), .int (ρ.s 4), .ref (ad 9), .ref (ad 10), .ref (ad 11), .ref (ad 12), .ref (ad 13), .ref (ad 14), .ref (ad 15), .ref (ad 16), .ref (ad 17), .ref (ad 18), .ref (ad 19), .ref (ad 20), .ref (ad 21), .ref (ad 22), .ref (ad 23), .ref (ad 24), .ref (ad 25)]))) H := hV
        generalize hV_V_21 : hu V mo (.inr (7, [.int (ρ.s 0), .int (ρ.s 1), .int (ρ.s 2), .int 3, .ref (ad 0), .ref (ad 1), .ref (ad 2), .ref (ad 3), .ref (ad 4), .ref (ad 5), .ref (ad 6), .ref (ad 7), .ref (ad 8), .int (ρ.s 4), .ref (ad 9), .ref (ad 10), .ref (ad 11), .ref (ad 12), .ref (ad 13), .ref (ad 14), .ref (ad 15), .ref (ad 16), .ref (ad 17), .ref (ad 18), .ref (ad 19), .ref (ad 20), .ref (ad 21), .ref (ad 22), .ref (ad 23), .ref (ad 24), .ref (ad 25)])) = V_21 at hV
        have hM_21 : mdOk k V_21 mo ad (ρ.ws 3 3) := by rw [← hV_V_21]; exact md_put hM 3 3
        have hR_21 : mdFr mo ad V V_21 := by rw [← hV_V_21]; exact (mdFr.rf (mo := mo) (ad := ad) (V := V)).m
        have hm_22 : V_21 mo = some (.inr (7, [.int (ρ.s 0), .int (ρ.s 1), .int (ρ.s 2), .int 3, .ref (ad 0), .ref (ad 1), .ref (ad 2), .ref (ad 3), .ref (ad 4), .ref (ad 5), .ref (ad 6), .ref (ad 7), .ref (ad 8), .int (ρ.s 4), .ref (ad 9), .ref (ad 10), .ref (ad 11), .ref (ad 12), .ref (ad 13), .ref (ad 14), .ref (ad 15), .ref (ad 16), .ref (ad 17), .ref (ad 18), .ref (ad 19), .ref (ad 20), .ref (ad 21), .ref (ad 22), .ref (ad 23), .ref (ad 24), .ref (ad 25)])) := hM_21.1
        refine lv_aload_n hx hb d_Mo_makeCopper_54 rfl (lv_at hl 0 rfl) ?_
        refine gf_Mo_149 hx hb hW hown hG hV hm_22 d_Mo_makeCopper_55 ?_
        refine lv_if_eq (tgt := 63) hx hb d_Mo_makeCopper_58 (by decide) (fun q => absurd q (by decide)) (fun _ => ?_)
        refine lv_iconst (v := (-1)) hx hb d_Mo_makeCopper_61 (by decide) ?_
        try simp only [bI_ne0, bI_eq0, decide_eq_true_eq, decide_eq_false_iff_not, Bool.not_eq_false, Bool.not_eq_true, Decidable.not_not] at c_2
        try simp only [bI_ne0, bI_eq0, decide_eq_true_eq, decide_eq_false_iff_not, Bool.not_eq_false, Bool.not_eq_true, Decidable.not_not] at c_3
        try simp only [bI_ne0, bI_eq0, decide_eq_true_eq, decide_eq_false_iff_not, Bool.not_eq_false, Bool.not_eq_true, Decidable.not_not] at c_4
        have hfin : moMkC ρ K n0 n6 ne la x y w0 h0 pa = ((-1), (ρ.ws 3 3)) := by first | (simp only [moMkC, c_2, c_3, c_4, decide_true, decide_false, Bool.true_and, Bool.and_true, Bool.false_and, Bool.and_false, Bool.true_or, Bool.or_true, Bool.false_or, Bool.or_false, Bool.not_true, Bool.not_false, if_true, if_false, Bool.false_eq_true, Bool.true_eq_false, reduceIte, eq_self]; done) | (simp [moMkC, c_2, c_3, c_4]; done) | (simp_all [moMkC]; done)
        exact W.iret (v := (-1)) hx hb hr (fun t9 ht hW => ⟨⟨(-1), V_21, rfl, ⟨by rw [hfin]; exact hM_21, hR_21, by rw [hfin]⟩, mB_of ht hV⟩, hS.F ht⟩) hS.2.2 d_Mo_makeCopper_62
    · refine lv_iconst (v := 2) hx hb d_Mo_makeCopper_27 (by decide) ?_
      refine lv_goto (tgt := 51) hx hb d_Mo_makeCopper_28 (by decide) ?_
      refine pf_Mo_149 hx hb hW hown hG hV hS hm_1 d_Mo_makeCopper_51 (fun H locs hV hS => ?_)
      replace hV : hv D vwCl N0 (hu V mo (.inr (7, [.int (ρ.s 0), .int (ρ.s 1), .int (ρ.s 2), .int 2, .ref (ad 0), .ref (ad 1), .ref (ad 2), .ref (ad 3), .ref (ad 4), .ref (ad 5), .ref (ad 6), .ref (ad 7), .ref (ad 8), .int (ρ.s 4), .ref (ad 9), .ref (ad 10), .ref (ad 11), .ref (ad 12), .ref (ad 13), .ref (ad 14), .ref (ad 15), .ref (ad 16), .ref (ad 17), .ref (ad 18), .ref (ad 19), .ref (ad 20), .ref (ad 21), .ref (ad 22), .ref (ad 23), .ref (ad 24), .ref (ad 25)]))) H := hV
      generalize hV_V_23 : hu V mo (.inr (7, [.int (ρ.s 0), .int (ρ.s 1), .int (ρ.s 2), .int 2, .ref (ad 0), .ref (ad 1), .ref (ad 2), .ref (ad 3), .ref (ad 4), .ref (ad 5), .ref (ad 6), .ref (ad 7), .ref (ad 8), .int (ρ.s 4), .ref (ad 9), .ref (ad 10), .ref (ad 11), .ref (ad 12), .ref (ad 13), .ref (ad 14), .ref (ad 15), .ref (ad 16), .ref (ad 17), .ref (ad 18), .ref (ad 19), .ref (ad 20), .ref (ad 21), .ref (ad 22), .ref (ad 23), .ref (ad 24), .ref (ad 25)])) = V_23 at hV
      have hM_23 : mdOk k V_23 mo ad (ρ.ws 3 2) := by rw [← hV_V_23]; exact md_put hM 3 2
      have hR_23 : mdFr mo ad V V_23 := by rw [← hV_V_23]; exact (mdFr.rf (mo := mo) (ad := ad) (V := V)).m
      have hm_24 : V_23 mo = some (.inr (7, [.int (ρ.s 0), .int (ρ.s 1), .int (ρ.s 2), .int 2, .ref (ad 0), .ref (ad 1), .ref (ad 2), .ref (ad 3), .ref (ad 4), .ref (ad 5), .ref (ad 6), .ref (ad 7), .ref (ad 8), .int (ρ.s 4), .ref (ad 9), .ref (ad 10), .ref (ad 11), .ref (ad 12), .ref (ad 13), .ref (ad 14), .ref (ad 15), .ref (ad 16), .ref (ad 17), .ref (ad 18), .ref (ad 19), .ref (ad 20), .ref (ad 21), .ref (ad 22), .ref (ad 23), .ref (ad 24), .ref (ad 25)])) := hM_23.1
      refine lv_aload_n hx hb d_Mo_makeCopper_54 rfl (lv_at hl 0 rfl) ?_
      refine gf_Mo_149 hx hb hW hown hG hV hm_24 d_Mo_makeCopper_55 ?_
      refine lv_if_eq (tgt := 63) hx hb d_Mo_makeCopper_58 (by decide) (fun q => absurd q (by decide)) (fun _ => ?_)
      refine lv_iconst (v := (-1)) hx hb d_Mo_makeCopper_61 (by decide) ?_
      try simp only [bI_ne0, bI_eq0, decide_eq_true_eq, decide_eq_false_iff_not, Bool.not_eq_false, Bool.not_eq_true, Decidable.not_not] at c_2
      try simp only [bI_ne0, bI_eq0, decide_eq_true_eq, decide_eq_false_iff_not, Bool.not_eq_false, Bool.not_eq_true, Decidable.not_not] at c_3
      have hfin : moMkC ρ K n0 n6 ne la x y w0 h0 pa = ((-1), (ρ.ws 3 2)) := by first | (simp only [moMkC, c_2, c_3, decide_true, decide_false, Bool.true_and, Bool.and_true, Bool.false_and, Bool.and_false, Bool.true_or, Bool.or_true, Bool.false_or, Bool.or_false, Bool.not_true, Bool.not_false, if_true, if_false, Bool.false_eq_true, Bool.true_eq_false, reduceIte, eq_self]; done) | (simp [moMkC, c_2, c_3]; done) | (simp_all [moMkC]; done)
      exact W.iret (v := (-1)) hx hb hr (fun t9 ht hW => ⟨⟨(-1), V_23, rfl, ⟨by rw [hfin]; exact hM_23, hR_23, by rw [hfin]⟩, mB_of ht hV⟩, hS.F ht⟩) hS.2.2 d_Mo_makeCopper_62
  · refine lv_iconst (v := 1) hx hb d_Mo_makeCopper_9 (by decide) ?_
    refine lv_goto (tgt := 51) hx hb d_Mo_makeCopper_10 (by decide) ?_
    refine pf_Mo_149 hx hb hW hown hG hV hS hm_1 d_Mo_makeCopper_51 (fun H locs hV hS => ?_)
    replace hV : hv D vwCl N0 (hu V mo (.inr (7, [.int (ρ.s 0), .int (ρ.s 1), .int (ρ.s 2), .int 1, .ref (ad 0), .ref (ad 1), .ref (ad 2), .ref (ad 3), .ref (ad 4), .ref (ad 5), .ref (ad 6), .ref (ad 7), .ref (ad 8), .int (ρ.s 4), .ref (ad 9), .ref (ad 10), .ref (ad 11), .ref (ad 12), .ref (ad 13), .ref (ad 14), .ref (ad 15), .ref (ad 16), .ref (ad 17), .ref (ad 18), .ref (ad 19), .ref (ad 20), .ref (ad 21), .ref (ad 22), .ref (ad 23), .ref (ad 24), .ref (ad 25)]))) H := hV
    generalize hV_V_25 : hu V mo (.inr (7, [.int (ρ.s 0), .int (ρ.s 1), .int (ρ.s 2), .int 1, .ref (ad 0), .ref (ad 1), .ref (ad 2), .ref (ad 3), .ref (ad 4), .ref (ad 5), .ref (ad 6), .ref (ad 7), .ref (ad 8), .int (ρ.s 4), .ref (ad 9), .ref (ad 10), .ref (ad 11), .ref (ad 12), .ref (ad 13), .ref (ad 14), .ref (ad 15), .ref (ad 16), .ref (ad 17), .ref (ad 18), .ref (ad 19), .ref (ad 20), .ref (ad 21), .ref (ad 22), .ref (ad 23), .ref (ad 24), .ref (ad 25)])) = V_25 at hV
    have hM_25 : mdOk k V_25 mo ad (ρ.ws 3 1) := by rw [← hV_V_25]; exact md_put hM 3 1
    have hR_25 : mdFr mo ad V V_25 := by rw [← hV_V_25]; exact (mdFr.rf (mo := mo) (ad := ad) (V := V)).m
    have hm_26 : V_25 mo = some (.inr (7, [.int (ρ.s 0), .int (ρ.s 1), .int (ρ.s 2), .int 1, .ref (ad 0), .ref (ad 1), .ref (ad 2), .ref (ad 3), .ref (ad 4), .ref (ad 5), .ref (ad 6), .ref (ad 7), .ref (ad 8), .int (ρ.s 4), .ref (ad 9), .ref (ad 10), .ref (ad 11), .ref (ad 12), .ref (ad 13), .ref (ad 14), .ref (ad 15), .ref (ad 16), .ref (ad 17), .ref (ad 18), .ref (ad 19), .ref (ad 20), .ref (ad 21), .ref (ad 22), .ref (ad 23), .ref (ad 24), .ref (ad 25)])) := hM_25.1
    refine lv_aload_n hx hb d_Mo_makeCopper_54 rfl (lv_at hl 0 rfl) ?_
    refine gf_Mo_149 hx hb hW hown hG hV hm_26 d_Mo_makeCopper_55 ?_
    refine lv_if_eq (tgt := 63) hx hb d_Mo_makeCopper_58 (by decide) (fun q => absurd q (by decide)) (fun _ => ?_)
    refine lv_iconst (v := (-1)) hx hb d_Mo_makeCopper_61 (by decide) ?_
    try simp only [bI_ne0, bI_eq0, decide_eq_true_eq, decide_eq_false_iff_not, Bool.not_eq_false, Bool.not_eq_true, Decidable.not_not] at c_2
    have hfin : moMkC ρ K n0 n6 ne la x y w0 h0 pa = ((-1), (ρ.ws 3 1)) := by first | (simp only [moMkC, c_2, decide_true, decide_false, Bool.true_and, Bool.and_true, Bool.false_and, Bool.and_false, Bool.true_or, Bool.or_true, Bool.false_or, Bool.or_false, Bool.not_true, Bool.not_false, if_true, if_false, Bool.false_eq_true, Bool.true_eq_false, reduceIte, eq_self]; done) | (simp [moMkC, c_2]; done) | (simp_all [moMkC]; done)
    exact W.iret (v := (-1)) hx hb hr (fun t9 ht hW => ⟨⟨(-1), V_25, rfl, ⟨by rw [hfin]; exact hM_25, hR_25, by rw [hfin]⟩, mB_of ht hV⟩, hS.F ht⟩) hS.2.2 d_Mo_makeCopper_62
set_option maxHeartbeats 4000000 in
set_option maxRecDepth 100000 in
/-- via -/
theorem c_Mo_via (l : Launch) (D : va_G) (N0 : Nat) (k : Nat → Nat) (V : HV) (mo : Nat) (ad : Nat → Nat) (ρ : MS) (hM : mdOk k V mo ad ρ) (net x y : Int32) (n3 : Nat) (hn3 : n3 ≤ 60) (en3 : ρ.I 0 3 = nI n3) (n6 : Nat) (hn6 : n6 ≤ 10) (en6 : ρ.I 0 6 = nI n6) (hwo : moWo ρ) : Met l y_Mo_via (.code y_Mo_via b_Mo_via 4 (some .int) :: WS) ({ frames := 5, cells := 0, slots := 0, locals := 120 }) (mP D N0 k [.ref mo, .int net, .int x, .int y] V) (va_Qi (fun r V' => mdOk k V' mo ad (moVia ρ n3 n6 net x y).2 ∧ mdFr mo ad V V' ∧ r = (moVia ρ n3 n6 net x y).1) (mB D N0) (hA N0)) 0 0 (hA N0) := by
  refine Met.ofW (cc := b_Mo_via) (maxL := 4) (ret := (some .int)) (by decide) rfl ?_
  intro p e s m args below meth c s₁ B hml hv0
  obtain ⟨rfl, hG, hV⟩ := hv0
  have hx := B.exec
  have hb := B.bytes
  have hr := B.returns
  have hts := atoms_spec (ws := .code y_Mo_via b_Mo_via 4 (some .int) :: WS) B.pre
  have hW : ∀ w ∈ WS, w.before _ s = true := fun w h => hts w (List.mem_cons_of_mem _ h)
  have hown : s.vm.findClass "BoardHouseModel" = some m.cls := findClass_of_methodNamed B.named
  have hlocks := B.notSynchronized
  have hS : va_S (hA N0) s.heap s.heap [] := va_S.rf
  have hl := lv_entry ([.ref mo, .int net, .int x, .int y]) (n := 4) (Nat.le_of_ble_eq_true rfl)
  rw [lg_entry_eq]
  generalize (lg_sl ([.ref mo, .int net, .int x, .int y]) ++ List.replicate (4 - (lg_sl ([.ref mo, .int net, .int x, .int y])).length) Slot.unset).toArray = ls at hl ⊢
  have hl : lv_has ls 4 [(0, .ref mo), (1, .int net), (2, .int x), (3, .int y)] := hl
  have hm_1 : V mo = some (.inr (7, [.int (ρ.s 0), .int (ρ.s 1), .int (ρ.s 2), .int (ρ.s 3), .ref (ad 0), .ref (ad 1), .ref (ad 2), .ref (ad 3), .ref (ad 4), .ref (ad 5), .ref (ad 6), .ref (ad 7), .ref (ad 8), .int (ρ.s 4), .ref (ad 9), .ref (ad 10), .ref (ad 11), .ref (ad 12), .ref (ad 13), .ref (ad 14), .ref (ad 15), .ref (ad 16), .ref (ad 17), .ref (ad 18), .ref (ad 19), .ref (ad 20), .ref (ad 21), .ref (ad 22), .ref (ad 23), .ref (ad 24), .ref (ad 25)])) := hM.1
  refine lv_aload_n hx hb d_Mo_via_0 rfl (lv_at hl 0 rfl) ?_
  refine lv_aload_n hx hb d_Mo_via_1 rfl (lv_at hl 0 rfl) ?_
  refine lv_iload_n hx hb d_Mo_via_2 rfl (lv_at hl 1 rfl) ?_
  refine lv_iconst (v := 1) hx hb d_Mo_via_3 (by decide) ?_
  refine rc_i (va_runV (As := [.int net, .int 1]) (rest := [.ref mo]) ⟨hx, hb, hml, hown, hts⟩ (c_Mo_fault l D N0 k V mo ad ρ hM net 1) (cwV 2 hts (gi_V wm_Mo_176 wv_Mo_fault ws_Mo_fault wi_Mo wc_Mo_fault) rfl rfl rfl (by decide +kernel) ⟨Nat.le_of_ble_eq_true rfl, Nat.le_of_ble_eq_true rfl⟩) (mP.preV hG hS hV hm_1 rfl) rfl rfl hl.1 rfl (lv_room (Nat.le_of_ble_eq_true rfl)) d_Mo_via_4 ⟨Nat.le_of_ble_eq_true rfl, Nat.le_of_ble_eq_true rfl⟩) hS (fun H locs hV hS => ?_)
  refine W.eq (g2 := F0 m 7 ls [.int (moFault (ρ.I 0) net 1), .ref mo]) rfl ?_
  refine lv_topi (fun f_2 ef_2 => ?_)
  refine pf_Mo_100 hx hb hW hown hG hV hS hm_1 d_Mo_via_7 (fun H locs hV hS => ?_)
  replace hV : hv D vwCl N0 (hu V mo (.inr (7, [.int f_2, .int (ρ.s 1), .int (ρ.s 2), .int (ρ.s 3), .ref (ad 0), .ref (ad 1), .ref (ad 2), .ref (ad 3), .ref (ad 4), .ref (ad 5), .ref (ad 6), .ref (ad 7), .ref (ad 8), .int (ρ.s 4), .ref (ad 9), .ref (ad 10), .ref (ad 11), .ref (ad 12), .ref (ad 13), .ref (ad 14), .ref (ad 15), .ref (ad 16), .ref (ad 17), .ref (ad 18), .ref (ad 19), .ref (ad 20), .ref (ad 21), .ref (ad 22), .ref (ad 23), .ref (ad 24), .ref (ad 25)]))) H := hV
  generalize hV_V_3 : hu V mo (.inr (7, [.int f_2, .int (ρ.s 1), .int (ρ.s 2), .int (ρ.s 3), .ref (ad 0), .ref (ad 1), .ref (ad 2), .ref (ad 3), .ref (ad 4), .ref (ad 5), .ref (ad 6), .ref (ad 7), .ref (ad 8), .int (ρ.s 4), .ref (ad 9), .ref (ad 10), .ref (ad 11), .ref (ad 12), .ref (ad 13), .ref (ad 14), .ref (ad 15), .ref (ad 16), .ref (ad 17), .ref (ad 18), .ref (ad 19), .ref (ad 20), .ref (ad 21), .ref (ad 22), .ref (ad 23), .ref (ad 24), .ref (ad 25)])) = V_3 at hV
  have hM_3 : mdOk k V_3 mo ad (ρ.ws 0 f_2) := by rw [← hV_V_3]; exact md_put hM 0 f_2
  have hR_3 : mdFr mo ad V V_3 := by rw [← hV_V_3]; exact (mdFr.rf (mo := mo) (ad := ad) (V := V)).m
  have hm_4 : V_3 mo = some (.inr (7, [.int f_2, .int (ρ.s 1), .int (ρ.s 2), .int (ρ.s 3), .ref (ad 0), .ref (ad 1), .ref (ad 2), .ref (ad 3), .ref (ad 4), .ref (ad 5), .ref (ad 6), .ref (ad 7), .ref (ad 8), .int (ρ.s 4), .ref (ad 9), .ref (ad 10), .ref (ad 11), .ref (ad 12), .ref (ad 13), .ref (ad 14), .ref (ad 15), .ref (ad 16), .ref (ad 17), .ref (ad 18), .ref (ad 19), .ref (ad 20), .ref (ad 21), .ref (ad 22), .ref (ad 23), .ref (ad 24), .ref (ad 25)])) := hM_3.1
  refine lv_aload_n hx hb d_Mo_via_10 rfl (lv_at hl 0 rfl) ?_
  refine gf_Mo_100 hx hb hW hown hG hV hm_4 d_Mo_via_11 ?_
  refine lv_if_ne (tgt := 36) hx hb d_Mo_via_14 (by decide) (fun c_5 => ?_) (fun c_5 => ?_)
  · refine lv_iconst (v := 0) hx hb d_Mo_via_36 (by decide) ?_
    try simp only [bI_ne0, bI_eq0, decide_eq_true_eq, decide_eq_false_iff_not, Bool.not_eq_false, Bool.not_eq_true, Decidable.not_not] at c_5
    subst ef_2
    have hfin : moVia ρ n3 n6 net x y = (0, (ρ.ws 0 (moFault (ρ.I 0) net 1))) := by first | (simp only [moVia, c_5, decide_true, decide_false, Bool.true_and, Bool.and_true, Bool.false_and, Bool.and_false, Bool.true_or, Bool.or_true, Bool.false_or, Bool.or_false, Bool.not_true, Bool.not_false, if_true, if_false, Bool.false_eq_true, Bool.true_eq_false, reduceIte, eq_self]; done) | (simp [moVia, c_5]; done) | (simp_all [moVia]; done)
    exact W.iret (v := 0) hx hb hr (fun t9 ht hW => ⟨⟨0, V_3, rfl, ⟨by rw [hfin]; exact hM_3, hR_3, by rw [hfin]⟩, mB_of ht hV⟩, hS.F ht⟩) hS.2.2 d_Mo_via_37
  · refine lv_aload_n hx hb d_Mo_via_17 rfl (lv_at hl 0 rfl) ?_
    refine lv_iconst (v := 3) hx hb d_Mo_via_18 (by decide) ?_
    refine lv_iload_n hx hb d_Mo_via_19 rfl (lv_at hl 1 rfl) ?_
    refine lv_sipush (v := 1000) hx hb d_Mo_via_20 (by decide) ?_
    refine lv_irem hx hb d_Mo_via_23 (by decide) ?_
    refine lv_iconst (v := 0) hx hb d_Mo_via_24 (by decide) ?_
    refine lv_iload_n hx hb d_Mo_via_25 rfl (lv_at hl 2 rfl) ?_
    refine lv_iload_n hx hb d_Mo_via_26 rfl (lv_at hl 3 rfl) ?_
    refine lv_iconst (v := 1) hx hb d_Mo_via_27 (by decide) ?_
    refine lv_iconst (v := 1) hx hb d_Mo_via_28 (by decide) ?_
    refine lv_iconst (v := (-1)) hx hb d_Mo_via_29 (by decide) ?_
    refine rc_I (va_runV (As := [.int 3, .int (net - net / 1000 * 1000), .int 0, .int x, .int y, .int 1, .int 1, .int (-1)]) (rest := []) ⟨hx, hb, hml, hown, hts⟩ (c_Mo_makeCopper l D N0 k V_3 mo ad (ρ.ws 0 f_2) hM_3 (net - net / 1000 * 1000) 0 x y 1 1 (-1) 3 n3 (by omega) (by omega) en3 hn3 n6 hn6 en6 hwo) (cwV 8 hts (gi_V wm_Mo_183 wv_Mo_makeCopper ws_Mo_makeCopper wi_Mo wc_Mo_makeCopper) rfl rfl rfl (by decide +kernel) ⟨Nat.le_of_ble_eq_true rfl, Nat.le_of_ble_eq_true rfl⟩) (mP.preV hG hS hV hm_4 rfl) rfl rfl hl.1 rfl (lv_room (Nat.le_of_ble_eq_true rfl)) d_Mo_via_30 ⟨Nat.le_of_ble_eq_true rfl, Nat.le_of_ble_eq_true rfl⟩) hS (fun r_6 V_7 H locs hp_8 hV hS => ?_)
    obtain ⟨hM_9, hM_9R, hM_9e⟩ := hp_8
    subst hM_9e
    refine lv_goto (tgt := 37) hx hb d_Mo_via_33 (by decide) ?_
    try simp only [bI_ne0, bI_eq0, decide_eq_true_eq, decide_eq_false_iff_not, Bool.not_eq_false, Bool.not_eq_true, Decidable.not_not] at c_5
    subst ef_2
    have hfin : moVia ρ n3 n6 net x y = ((moMkC (ρ.ws 0 (moFault (ρ.I 0) net 1)) 3 n3 n6 (net - net / 1000 * 1000) 0 x y 1 1 (-1)).1, (moMkC (ρ.ws 0 (moFault (ρ.I 0) net 1)) 3 n3 n6 (net - net / 1000 * 1000) 0 x y 1 1 (-1)).2) := by first | (simp only [moVia, c_5, decide_true, decide_false, Bool.true_and, Bool.and_true, Bool.false_and, Bool.and_false, Bool.true_or, Bool.or_true, Bool.false_or, Bool.or_false, Bool.not_true, Bool.not_false, if_true, if_false, Bool.false_eq_true, Bool.true_eq_false, reduceIte, eq_self]; done) | (simp [moVia, c_5]; done) | (simp_all [moVia]; done)
    exact W.iret (v := (moMkC (ρ.ws 0 (moFault (ρ.I 0) net 1)) 3 n3 n6 (net - net / 1000 * 1000) 0 x y 1 1 (-1)).1) hx hb hr (fun t9 ht hW => ⟨⟨(moMkC (ρ.ws 0 (moFault (ρ.I 0) net 1)) 3 n3 n6 (net - net / 1000 * 1000) 0 x y 1 1 (-1)).1, V_7, rfl, ⟨by rw [hfin]; exact hM_9, hR_3.tr hM_9R, by rw [hfin]⟩, mB_of ht hV⟩, hS.F ht⟩) hS.2.2 d_Mo_via_37
