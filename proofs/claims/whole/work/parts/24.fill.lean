/-! Copper.fill: own copper, room, and what is grown -/
def addR (o : Nat → Int32) (x y u v : Int32) : Nat → Int32 := fun j => if y ≤ nI j ∧ nI j ≤ v then o j ||| sh_bits x u else o j
def remR (o : Nat → Int32) (x y u v g : Int32) : Nat → Int32 := fun j => if y - g ≤ nI j ∧ nI j ≤ v + g then o j &&& (sh_bits (x - g) (u + g) ^^^ (-1)) else o j
/-- own copper of net ne on layer la, of the first n slots from 20 on -/
def flO (T : Nat → Nat → Int32) (la ne : Int32) : Nat → Nat → Int32
  | 0 => fun _ => 0
  | n + 1 => if (!decide (T (20 + n) 5 = 0) && th_liesOn (T (20 + n) 0) (T (20 + n) 2) la && decide (T (20 + n) 3 = ne)) = true then addR (flO T la ne n) (T (20 + n) 6) (T (20 + n) 7) (T (20 + n) 8) (T (20 + n) 9) else flO T la ne n
/-- the cells that no other net's copper comes near to -/
def flR (T : Nat → Nat → Int32) (la ne g : Int32) : Nat → Nat → Int32
  | 0 => fun _ => -1
  | n + 1 => if (!decide (T (20 + n) 5 = 0) && th_liesOn (T (20 + n) 0) (T (20 + n) 2) la && !decide (T (20 + n) 3 = ne)) = true then remR (flR T la ne g n) (T (20 + n) 6) (T (20 + n) 7) (T (20 + n) 8) (T (20 + n) 9) g else flR T la ne g n
def Clo (r f g : Nat → Int32) : Prop := rSub f g ∧ rMin r f g ∧ rClo r g
theorem gr_congr2 {f g r r' : Nat → Int32} (h : ∀ y, y < 24 → g y = f y) (hr : ∀ y, y < 24 → r' y = r y) {i : Nat} (hi : i < 24) : gr_row g r' i = gr_row f r i := by
  rw [gr_congr h hi, gr_row, gr_row, hr i hi]
theorem Clo_congr {r r' f f' g : Nat → Int32} (h : Clo r' f' g) (hr : ∀ y, y < 24 → r' y = r y) (hf : ∀ y, y < 24 → f' y = f y) : Clo r f g := by
  obtain ⟨a, b, c⟩ := h
  refine ⟨fun y hy x hx q => a y hy x hx (by rw [hf y hy]; exact q), fun d hd hs => b d (fun i hi => ?_) (fun y hy x hx q => hs y hy x hx (by rw [← hf y hy]; exact q)), fun i hi => ?_⟩
  · rw [gr_congr2 (fun _ _ => rfl) hr hi]; exact hd i hi
  · rw [← gr_congr2 (fun _ _ => rfl) hr hi]; exact c i hi
theorem fl_step {A B C : Nat → Int32} {i : Nat} (h : 20 ≤ i) : (i + 1) - 20 = (i - 20) + 1 ∧ 20 + (i - 20) = i := by omega
set_option maxHeartbeats 4000000 in
set_option maxRecDepth 100000 in
/-- fill: the cells that a plane fills -/
theorem c_Co_fill (l : Launch) (D : va_G) (N0 : Nat) (k : Nat → Nat) (V : HV) (co ta ro on re : Nat) (lay g0 : Int32) (h_co : V co = some (eCo ta lay ro on re g0)) (f : Nat → Option Nat) (ar : Nat → Nat) (T : Nat → Nat → Int32) (hT : tsOk k V ta f ar T) (sh ra : Nat) (fs : Nat → Int32) (h_sh : V sh = some (eSh ra)) (h_ra : V ra = some (eI k 24 fs)) (rq : Nat) (rm : Nat → Int32) (h_ro : V ro = some (eSh rq)) (h_rq : V rq = some (eI k 24 rm)) (hqr : rq ≠ ra) (t a : Nat) (kd nu la ne pa th : Int32) (h_t : V t = some (eTh kd nu a la ne pa th)) : Met l y_Co_fill (.code y_Co_fill b_Co_fill 5 none :: WS) ({ frames := 3, cells := 0, slots := 0, locals := 75 }) (mP D N0 k [.ref co, .ref sh, .ref t] V) (va_Qv (fun V' => ∃ R G, V' = hu (hu V rq (eI k 24 R)) ra (eI k 24 G) ∧ (∀ j, j < 24 → R j = flR T la ne g0 120 j) ∧ Clo (flR T la ne g0 120) (fun j => flO T la ne 120 j &&& flR T la ne g0 120 j) G) (mB D N0) (hA N0)) 0 0 (hA N0) := by
  refine Met.ofW (cc := b_Co_fill) (maxL := 5) (ret := none) (by decide) rfl ?_
  intro p e s m args below meth c s₁ B hml hv0
  obtain ⟨rfl, hG, hV⟩ := hv0
  have hx := B.exec
  have hb := B.bytes
  have hr := B.returns
  have hts := atoms_spec (ws := .code y_Co_fill b_Co_fill 5 none :: WS) B.pre
  have hW : ∀ w ∈ WS, w.before _ s = true := fun w h => hts w (List.mem_cons_of_mem _ h)
  have hown : s.vm.findClass "BoardHouse$Copper" = some m.cls := findClass_of_methodNamed B.named
  have hlocks := B.notSynchronized
  have hS : va_S (hA N0) s.heap s.heap [] := va_S.rf
  have hl := lv_entry ([.ref co, .ref sh, .ref t]) (n := 5) (Nat.le_of_ble_eq_true rfl)
  rw [lg_entry_eq]
  generalize (lg_sl ([.ref co, .ref sh, .ref t]) ++ List.replicate (5 - (lg_sl ([.ref co, .ref sh, .ref t])).length) Slot.unset).toArray = ls at hl ⊢
  have hl : lv_has ls 5 [(0, .ref co), (1, .ref sh), (2, .ref t)] := hl
  rw [show V = hu (hu V rq (eI k 24 rm)) ra (eI k 24 fs) by rw [hu_self h_rq, hu_self h_ra]] at hV
  have hq1_rq : (hu (hu V rq (eI k 24 rm)) ra (eI k 24 fs)) rq = some (eI k 24 rm) := (hu_n hqr).trans hu_s
  have hq1_co : (hu (hu V rq (eI k 24 rm)) ra (eI k 24 fs)) co = some (.inr (2, [.ref ta, .int lay, .ref ro, .ref on, .ref re, .int g0])) := hu_oo h_rq h_ra h_co (by simp) (by simp)
  have hq1_ta : (hu (hu V rq (eI k 24 rm)) ra (eI k 24 fs)) ta = some (eTs k f) := hu_oo h_rq h_ra hT.1 (by simp) (by simp)
  have hq1_sh : (hu (hu V rq (eI k 24 rm)) ra (eI k 24 fs)) sh = some (.inr (3, [.ref ra])) := hu_oo h_rq h_ra h_sh (by simp) (by simp)
  have hq1_ro : (hu (hu V rq (eI k 24 rm)) ra (eI k 24 fs)) ro = some (.inr (3, [.ref rq])) := hu_oo h_rq h_ra h_ro (by simp) (by simp)
  have hq1_t : (hu (hu V rq (eI k 24 rm)) ra (eI k 24 fs)) t = some (.inr (5, [.int kd, .int nu, .ref a, .int la, .int ne, .int pa, .int th])) := hu_oo h_rq h_ra h_t (by simp) (by simp)
  refine lv_aload_n hx hb d_Co_fill_0 rfl (lv_at hl 0 rfl) ?_
  refine gf_Co_20 hx hb hW hown hG hV hq1_co d_Co_fill_1 ?_
  refine rc_V (va_runV (As := []) (rest := []) ⟨hx, hb, hml, hown, hts⟩ (c_Sh_addAll l D N0 k (hu (hu V rq (eI k 24 rm)) ra (eI k 24 fs)) ro rq rm hq1_ro hq1_rq) (cwV 0 hts (gi_V wm_Co_80 wv_Sh_addAll ws_Sh_addAll wi_Sh wc_Sh_addAll) rfl rfl rfl (by decide +kernel) ⟨Nat.le_of_ble_eq_true rfl, Nat.le_of_ble_eq_true rfl⟩) (mP.preV hG hS hV hq1_ro rfl) rfl rfl hl.1 rfl (lv_room (Nat.le_of_ble_eq_true rfl)) d_Co_fill_4 ⟨Nat.le_of_ble_eq_true rfl, Nat.le_of_ble_eq_true rfl⟩) hS (fun V_1 H locs hp_2 hV hS => ?_)
  obtain ⟨g_3, hv_g_3, hg_g_3⟩ := hp_2
  rw [hv_g_3, hu_c (Ne.symm hqr), hu_u] at hV
  have hq2_rq : (hu (hu V rq (eI k 24 g_3)) ra (eI k 24 fs)) rq = some (eI k 24 g_3) := (hu_n hqr).trans hu_s
  have hq2_co : (hu (hu V rq (eI k 24 g_3)) ra (eI k 24 fs)) co = some (.inr (2, [.ref ta, .int lay, .ref ro, .ref on, .ref re, .int g0])) := hu_oo h_rq h_ra h_co (by simp) (by simp)
  have hq2_ta : (hu (hu V rq (eI k 24 g_3)) ra (eI k 24 fs)) ta = some (eTs k f) := hu_oo h_rq h_ra hT.1 (by simp) (by simp)
  have hq2_sh : (hu (hu V rq (eI k 24 g_3)) ra (eI k 24 fs)) sh = some (.inr (3, [.ref ra])) := hu_oo h_rq h_ra h_sh (by simp) (by simp)
  have hq2_ro : (hu (hu V rq (eI k 24 g_3)) ra (eI k 24 fs)) ro = some (.inr (3, [.ref rq])) := hu_oo h_rq h_ra h_ro (by simp) (by simp)
  have hq2_t : (hu (hu V rq (eI k 24 g_3)) ra (eI k 24 fs)) t = some (.inr (5, [.int kd, .int nu, .ref a, .int la, .int ne, .int pa, .int th])) := hu_oo h_rq h_ra h_t (by simp) (by simp)
  refine lv_aload_n hx hb d_Co_fill_7 rfl (lv_at hl 1 rfl) ?_
  refine rc_V (va_runV (As := []) (rest := []) ⟨hx, hb, hml, hown, hts⟩ (c_Sh_clear l D N0 k (hu (hu V rq (eI k 24 g_3)) ra (eI k 24 fs)) sh ra fs hq2_sh hu_s) (cwV 0 hts (gi_V wm_Co_83 wv_Sh_clear ws_Sh_clear wi_Sh wc_Sh_clear) rfl rfl rfl (by decide +kernel) ⟨Nat.le_of_ble_eq_true rfl, Nat.le_of_ble_eq_true rfl⟩) (mP.preV hG hS hV hq2_sh rfl) rfl rfl hl.1 rfl (lv_room (Nat.le_of_ble_eq_true rfl)) d_Co_fill_8 ⟨Nat.le_of_ble_eq_true rfl, Nat.le_of_ble_eq_true rfl⟩) hS (fun V_4 H locs hp_5 hV hS => ?_)
  obtain ⟨g_6, hv_g_6, hg_g_6⟩ := hp_5
  rw [hv_g_6, hu_u] at hV
  have hq3_rq : (hu (hu V rq (eI k 24 g_3)) ra (eI k 24 g_6)) rq = some (eI k 24 g_3) := (hu_n hqr).trans hu_s
  have hq3_co : (hu (hu V rq (eI k 24 g_3)) ra (eI k 24 g_6)) co = some (.inr (2, [.ref ta, .int lay, .ref ro, .ref on, .ref re, .int g0])) := hu_oo h_rq h_ra h_co (by simp) (by simp)
  have hq3_ta : (hu (hu V rq (eI k 24 g_3)) ra (eI k 24 g_6)) ta = some (eTs k f) := hu_oo h_rq h_ra hT.1 (by simp) (by simp)
  have hq3_sh : (hu (hu V rq (eI k 24 g_3)) ra (eI k 24 g_6)) sh = some (.inr (3, [.ref ra])) := hu_oo h_rq h_ra h_sh (by simp) (by simp)
  have hq3_ro : (hu (hu V rq (eI k 24 g_3)) ra (eI k 24 g_6)) ro = some (.inr (3, [.ref rq])) := hu_oo h_rq h_ra h_ro (by simp) (by simp)
  have hq3_t : (hu (hu V rq (eI k 24 g_3)) ra (eI k 24 g_6)) t = some (.inr (5, [.int kd, .int nu, .ref a, .int la, .int ne, .int pa, .int th])) := hu_oo h_rq h_ra h_t (by simp) (by simp)
  refine lv_bipush (v := 20) hx hb d_Co_fill_11 (by decide) ?_
  refine lv_istore_n (lv' := [(3, .int 20), (0, .ref co), (1, .ref sh), (2, .ref t)]) hx hb d_Co_fill_13 rfl hl (by decide) rfl (fun ls hl => ?_)
  have loop : ∀ (n i : Nat) (R G : Nat → Int32) (H : Heap) (locs : List Loc) (ls : Array Slot), i ≤ 140 → 141 ≤ i + n → 20 ≤ i → ((∀ j, j < 24 → G j = flO T la ne (i - 20) j) ∧ ∀ j, j < 24 → R j = flR T la ne g0 (i - 20) j) → hv D vwCl N0 (hu (hu V rq (eI k 24 R)) ra (eI k 24 G)) H → va_S (hA N0) s.heap H locs → lv_has ls 5 [(0, .ref co), (1, .ref sh), (2, .ref t), (3, .int (nI i))] → W p l e (headSpec (.code y_Co_fill b_Co_fill 5 none :: WS) ({ frames := 3, cells := 0, slots := 0, locals := 75 })).room s m #[.ref co, .ref sh, .ref t] below meth c H locs 0 0 (MQ below (va_Qv (fun V' => ∃ R G, V' = hu (hu V rq (eI k 24 R)) ra (eI k 24 G) ∧ (∀ j, j < 24 → R j = flR T la ne g0 120 j) ∧ Clo (flR T la ne g0 120) (fun j => flO T la ne 120 j &&& flR T la ne g0 120 j) G) (mB D N0) (hA N0)) #[.ref co, .ref sh, .ref t] s 0 0 (hA N0)) (F0 m 14 ls []) := by
    intro n
    induction n with
    | zero => intro i R G H locs ls h1 h2; exact absurd h2 (by omega)
    | succ n ih =>
      intro i R G H locs ls hi hin h20 hI hV hS hl
      have hq4_rq : (hu (hu V rq (eI k 24 R)) ra (eI k 24 G)) rq = some (eI k 24 R) := (hu_n hqr).trans hu_s
      have hq4_co : (hu (hu V rq (eI k 24 R)) ra (eI k 24 G)) co = some (.inr (2, [.ref ta, .int lay, .ref ro, .ref on, .ref re, .int g0])) := hu_oo h_rq h_ra h_co (by simp) (by simp)
      have hq4_ta : (hu (hu V rq (eI k 24 R)) ra (eI k 24 G)) ta = some (eTs k f) := hu_oo h_rq h_ra hT.1 (by simp) (by simp)
      have hq4_sh : (hu (hu V rq (eI k 24 R)) ra (eI k 24 G)) sh = some (.inr (3, [.ref ra])) := hu_oo h_rq h_ra h_sh (by simp) (by simp)
      have hq4_ro : (hu (hu V rq (eI k 24 R)) ra (eI k 24 G)) ro = some (.inr (3, [.ref rq])) := hu_oo h_rq h_ra h_ro (by simp) (by simp)
      have hq4_t : (hu (hu V rq (eI k 24 R)) ra (eI k 24 G)) t = some (.inr (5, [.int kd, .int nu, .ref a, .int la, .int ne, .int pa, .int th])) := hu_oo h_rq h_ra h_t (by simp) (by simp)
      refine lv_iload_n hx hb d_Co_fill_14 rfl (lv_at hl 3 rfl) ?_
      refine lv_sipush (v := 140) hx hb d_Co_fill_15 (by decide) ?_
      refine lv_icmp_ge (tgt := 91) hx hb d_Co_fill_18 (by decide) (fun c_7 => ?_) (fun c_7 => ?_)
      · have hge : 140 ≤ i := nI_le' (a := 140) (b := i) c_7 (by decide) (by omega)
        refine lv_aload_n hx hb d_Co_fill_91 rfl (lv_at hl 1 rfl) ?_
        refine lv_aload_n hx hb d_Co_fill_92 rfl (lv_at hl 0 rfl) ?_
        refine gf_Co_20 hx hb hW hown hG hV hq4_co d_Co_fill_93 ?_
        refine rc_V (va_runV (As := [.ref ro]) (rest := []) ⟨hx, hb, hml, hown, hts⟩ (c_Sh_keepOnly l D N0 k (hu (hu V rq (eI k 24 R)) ra (eI k 24 G)) sh ra G hq4_sh hu_s ro rq R hq4_ro hq4_rq hqr) (cwV 1 hts (gi_V wm_Co_108 wv_Sh_keepOnly ws_Sh_keepOnly wi_Sh wc_Sh_keepOnly) rfl rfl rfl (by decide +kernel) ⟨Nat.le_of_ble_eq_true rfl, Nat.le_of_ble_eq_true rfl⟩) (mP.preV hG hS hV hq4_sh rfl) rfl rfl hl.1 rfl (lv_room (Nat.le_of_ble_eq_true rfl)) d_Co_fill_96 ⟨Nat.le_of_ble_eq_true rfl, Nat.le_of_ble_eq_true rfl⟩) hS (fun V_8 H locs hp_9 hV hS => ?_)
        obtain ⟨g_10, hv_g_10, hg_g_10⟩ := hp_9
        rw [hv_g_10, hu_u] at hV
        have hq5_rq : (hu (hu V rq (eI k 24 R)) ra (eI k 24 g_10)) rq = some (eI k 24 R) := (hu_n hqr).trans hu_s
        have hq5_co : (hu (hu V rq (eI k 24 R)) ra (eI k 24 g_10)) co = some (.inr (2, [.ref ta, .int lay, .ref ro, .ref on, .ref re, .int g0])) := hu_oo h_rq h_ra h_co (by simp) (by simp)
        have hq5_ta : (hu (hu V rq (eI k 24 R)) ra (eI k 24 g_10)) ta = some (eTs k f) := hu_oo h_rq h_ra hT.1 (by simp) (by simp)
        have hq5_sh : (hu (hu V rq (eI k 24 R)) ra (eI k 24 g_10)) sh = some (.inr (3, [.ref ra])) := hu_oo h_rq h_ra h_sh (by simp) (by simp)
        have hq5_ro : (hu (hu V rq (eI k 24 R)) ra (eI k 24 g_10)) ro = some (.inr (3, [.ref rq])) := hu_oo h_rq h_ra h_ro (by simp) (by simp)
        have hq5_t : (hu (hu V rq (eI k 24 R)) ra (eI k 24 g_10)) t = some (.inr (5, [.int kd, .int nu, .ref a, .int la, .int ne, .int pa, .int th])) := hu_oo h_rq h_ra h_t (by simp) (by simp)
        refine lv_aload_n hx hb d_Co_fill_99 rfl (lv_at hl 1 rfl) ?_
        refine lv_aload_n hx hb d_Co_fill_100 rfl (lv_at hl 0 rfl) ?_
        refine gf_Co_20 hx hb hW hown hG hV hq5_co d_Co_fill_101 ?_
        refine rc_I (va_runV (As := [.ref ro]) (rest := []) ⟨hx, hb, hml, hown, hts⟩ (c_Sh_growThrough l D N0 k (hu (hu V rq (eI k 24 R)) ra (eI k 24 g_10)) sh ra g_10 hq5_sh hu_s ro rq R hq5_ro hq5_rq hqr) (cwV 1 hts (gi_V wm_Co_112 wv_Sh_growThrough ws_Sh_growThrough wi_Sh wc_Sh_growThrough) rfl rfl rfl (by decide +kernel) ⟨Nat.le_of_ble_eq_true rfl, Nat.le_of_ble_eq_true rfl⟩) (mP.preV hG hS hV hq5_sh rfl) rfl rfl hl.1 rfl (lv_room (Nat.le_of_ble_eq_true rfl)) d_Co_fill_104 ⟨Nat.le_of_ble_eq_true rfl, Nat.le_of_ble_eq_true rfl⟩) hS (fun r_11 V_12 H locs hp_13 hV hS => ?_)
        obtain ⟨g_14, hv_g_14, hc1_g_14, hc2_g_14, hc3_g_14, hc4_g_14⟩ := hp_13
        rw [hv_g_14, hu_u] at hV
        have hq6_rq : (hu (hu V rq (eI k 24 R)) ra (eI k 24 g_14)) rq = some (eI k 24 R) := (hu_n hqr).trans hu_s
        have hq6_co : (hu (hu V rq (eI k 24 R)) ra (eI k 24 g_14)) co = some (.inr (2, [.ref ta, .int lay, .ref ro, .ref on, .ref re, .int g0])) := hu_oo h_rq h_ra h_co (by simp) (by simp)
        have hq6_ta : (hu (hu V rq (eI k 24 R)) ra (eI k 24 g_14)) ta = some (eTs k f) := hu_oo h_rq h_ra hT.1 (by simp) (by simp)
        have hq6_sh : (hu (hu V rq (eI k 24 R)) ra (eI k 24 g_14)) sh = some (.inr (3, [.ref ra])) := hu_oo h_rq h_ra h_sh (by simp) (by simp)
        have hq6_ro : (hu (hu V rq (eI k 24 R)) ra (eI k 24 g_14)) ro = some (.inr (3, [.ref rq])) := hu_oo h_rq h_ra h_ro (by simp) (by simp)
        have hq6_t : (hu (hu V rq (eI k 24 R)) ra (eI k 24 g_14)) t = some (.inr (5, [.int kd, .int nu, .ref a, .int la, .int ne, .int pa, .int th])) := hu_oo h_rq h_ra h_t (by simp) (by simp)
        refine lv_pop hx hb d_Co_fill_107 rfl ?_
        exact W.vret hx hb hr (fun t ht hW => ⟨⟨(hu (hu V rq (eI k 24 R)) ra (eI k 24 g_14)), rfl, ⟨R, g_14, rfl, fun j hj => by rw [hI.2 j hj, show i - 20 = 120 by omega], Clo_congr ⟨hc1_g_14, hc2_g_14, hc3_g_14⟩ (fun j hj => by rw [hI.2 j hj, show i - 20 = 120 by omega]) (fun j hj => by rw [hg_g_10 j hj, hI.1 j hj, hI.2 j hj, show i - 20 = 120 by omega])⟩, mB_of ht hV⟩, hS.F ht⟩) hS.2.2 d_Co_fill_108
      · have hlt : i < 140 := nI_nle' (a := 140) (b := i) c_7 (by decide) (by omega)
        refine lv_aload_n hx hb d_Co_fill_21 rfl (lv_at hl 0 rfl) ?_
        refine lv_iload_n hx hb d_Co_fill_22 rfl (lv_at hl 3 rfl) ?_
        have hTv : tsOk k (hu (hu V rq (eI k 24 R)) ra (eI k 24 G)) ta f ar T := ⟨hq4_ta, fun i9 t9 a9 b9 => ⟨hu_oo h_rq h_ra (hT.2.1 i9 t9 a9 b9).1 (by simp) (by simp), hu_oo h_rq h_ra (hT.2.1 i9 t9 a9 b9).2 (by simp) (by simp)⟩, hT.2.2⟩
        refine rc_Q (va_runV (As := [.int (nI i)]) (rest := []) ⟨hx, hb, hml, hown, hts⟩ (c_Co_thereAt l D N0 k (hu (hu V rq (eI k 24 R)) ra (eI k 24 G)) co ta ro on re lay g0 hq4_co f ar T hTv i (by omega)) (cwV 1 hts (gi_V wm_Co_46 wv_Co_thereAt ws_Co_thereAt wi_Co wc_Co_thereAt) rfl rfl rfl (by decide +kernel) ⟨Nat.le_of_ble_eq_true rfl, Nat.le_of_ble_eq_true rfl⟩) (mP.preV hG hS hV hq4_co rfl) rfl rfl hl.1 rfl (lv_room (Nat.le_of_ble_eq_true rfl)) d_Co_fill_23 ⟨Nat.le_of_ble_eq_true rfl, Nat.le_of_ble_eq_true rfl⟩) hS (fun r_15 V_16 H locs hp_17 hV hS => ?_)
        obtain ⟨er_r_15, ev_r_15⟩ := hp_17
        rw [ev_r_15] at hV
        rw [er_r_15]
        by_cases h5_18 : T i 5 = 0
        · rw [thO_none h5_18]
          refine W.eq (g2 := F0 m 26 ls [.null]) rfl ?_
          refine lv_astoreN (lv' := [(4, .null), (0, .ref co), (1, .ref sh), (2, .ref t), (3, .int (nI i))]) hx hb d_Co_fill_26 hl (by decide) rfl (fun ls hl => ?_)
          refine lv_aloadN hx hb d_Co_fill_28 (lv_at hl 0 rfl) ?_
          refine lv_ifnullN (tgt := 85) hx hb d_Co_fill_30 (by decide) ?_
          obtain ⟨i_20, ei_20⟩ : ∃ y : Int32, y = (nI i) + 1 := ⟨_, rfl⟩
          refine lv_iinc (v := i_20) (lv' := [(3, .int i_20), (4, .null), (0, .ref co), (1, .ref sh), (2, .ref t)]) hx hb d_Co_fill_85 hl (k := 4) rfl (by rw [ei_20]; rfl) (by decide) rfl (fun ls hl => ?_)
          refine lv_goto (tgt := 14) hx hb d_Co_fill_88 (by decide) ?_
          rw [nI_1] at ei_20
          subst ei_20
          have e20 : (i + 1) - 20 = (i - 20) + 1 := by omega
          have f20 : 20 + (i - 20) = i := by omega
          exact ih (i + 1) R G _ _ _ (by omega) (by omega) (by omega) (⟨fun j hj => by rw [hI.1 j hj, e20, flO, f20]; simp [h5_18], fun j hj => by rw [hI.2 j hj, e20, flR, f20]; simp [h5_18]⟩) hV hS (lv_sub hl [2, 3, 4, 0] rfl)
        · obtain ⟨t_19, e1_t_19, e2_t_19, h_t_19, ha_t_19⟩ := thO_some hT (show i < 150 by omega) h5_18
          rw [e1_t_19]
          refine W.eq (g2 := F0 m 26 ls [.ref t_19]) rfl ?_
          have hb_t_19_t_19 : (hu (hu V rq (eI k 24 R)) ra (eI k 24 G)) t_19 = some (.inr (5, [.int (T i 0), .int (T i 1), .ref (ar i), .int (T i 2), .int (T i 3), .int (T i 4), .int (T i 5)])) := hu_oo h_rq h_ra h_t_19 (by simp) (by simp)
          have hb_t_19_ari : (hu (hu V rq (eI k 24 R)) ra (eI k 24 G)) (ar i) = some (.inr (1, [.int (T i 6), .int (T i 7), .int (T i 8), .int (T i 9)])) := hu_oo h_rq h_ra ha_t_19 (by simp) (by simp)
          refine lv_astore (lv' := [(4, .ref t_19), (0, .ref co), (1, .ref sh), (2, .ref t), (3, .int (nI i))]) hx hb d_Co_fill_26 hl (by decide) rfl (fun ls hl => ?_)
          refine lv_aload hx hb d_Co_fill_28 (lv_at hl 0 rfl) ?_
          refine lv_ifnull hx hb d_Co_fill_30 ?_
          refine lv_aload hx hb d_Co_fill_33 (lv_at hl 0 rfl) ?_
          refine lv_aload_n hx hb d_Co_fill_35 rfl (lv_at hl 3 rfl) ?_
          refine gf_Co_86 hx hb hW hown hG hV hq4_t d_Co_fill_36 ?_
          refine rc_i (va_runV (As := [.int la]) (rest := []) ⟨hx, hb, hml, hown, hts⟩ (c_Th_liesOn l D N0 k (hu (hu V rq (eI k 24 R)) ra (eI k 24 G)) t_19 (ar i) (T i 0) (T i 1) (T i 2) (T i 3) (T i 4) (T i 5) hb_t_19_t_19 la) (cwV 1 hts (gi_V wm_Co_89 wv_Th_liesOn ws_Th_liesOn wi_Th wc_Th_liesOn) rfl rfl rfl (by decide +kernel) ⟨Nat.le_of_ble_eq_true rfl, Nat.le_of_ble_eq_true rfl⟩) (mP.preV hG hS hV hb_t_19_t_19 rfl) rfl rfl hl.1 rfl (lv_room (Nat.le_of_ble_eq_true rfl)) d_Co_fill_39 ⟨Nat.le_of_ble_eq_true rfl, Nat.le_of_ble_eq_true rfl⟩) hS (fun H locs hV hS => ?_)
          refine lv_if_eq (tgt := 85) hx hb d_Co_fill_42 (by decide) (fun c_21 => ?_) (fun c_21 => ?_)
          · obtain ⟨i_22, ei_22⟩ : ∃ y : Int32, y = (nI i) + 1 := ⟨_, rfl⟩
            refine lv_iinc (v := i_22) (lv' := [(3, .int i_22), (4, .ref t_19), (0, .ref co), (1, .ref sh), (2, .ref t)]) hx hb d_Co_fill_85 hl (k := 4) rfl (by rw [ei_22]; rfl) (by decide) rfl (fun ls hl => ?_)
            refine lv_goto (tgt := 14) hx hb d_Co_fill_88 (by decide) ?_
            rw [nI_1] at ei_22
            subst ei_22
            simp only [bI_ne0, bI_eq0] at c_21
            have e20 : (i + 1) - 20 = (i - 20) + 1 := by omega
            have f20 : 20 + (i - 20) = i := by omega
            exact ih (i + 1) R G _ _ _ (by omega) (by omega) (by omega) (⟨fun j hj => by rw [hI.1 j hj, e20, flO, f20]; simp [h5_18, c_21], fun j hj => by rw [hI.2 j hj, e20, flR, f20]; simp [h5_18, c_21]⟩) hV hS (lv_sub hl [2, 3, 4, 0] rfl)
          · refine lv_aload hx hb d_Co_fill_45 (lv_at hl 0 rfl) ?_
            refine gf_Co_93 hx hb hW hown hG hV hb_t_19_t_19 d_Co_fill_47 ?_
            refine lv_aload_n hx hb d_Co_fill_50 rfl (lv_at hl 3 rfl) ?_
            refine gf_Co_93 hx hb hW hown hG hV hq4_t d_Co_fill_51 ?_
            refine lv_icmp_ne (tgt := 69) hx hb d_Co_fill_54 (by decide) (fun c_23 => ?_) (fun c_23 => ?_)
            · refine lv_aload_n hx hb d_Co_fill_69 rfl (lv_at hl 1 rfl) ?_
              refine gf_Co_20 hx hb hW hown hG hV hq4_co d_Co_fill_70 ?_
              refine lv_aload hx hb d_Co_fill_73 (lv_at hl 0 rfl) ?_
              refine gf_Co_96 hx hb hW hown hG hV hb_t_19_t_19 d_Co_fill_75 ?_
              refine lv_aload_n hx hb d_Co_fill_78 rfl (lv_at hl 1 rfl) ?_
              refine gf_Co_28 hx hb hW hown hG hV hq4_co d_Co_fill_79 ?_
              refine rc_V (va_runV (As := [.ref (ar i), .int g0]) (rest := []) ⟨hx, hb, hml, hown, hts⟩ (c_Sh_removeWithin l D N0 k (hu (hu V rq (eI k 24 R)) ra (eI k 24 G)) ro rq R hq4_ro hq4_rq (ar i) (T i 6) (T i 7) (T i 8) (T i 9) hb_t_19_ari g0) (cwV 2 hts (gi_V wm_Co_104 wv_Sh_removeWithin ws_Sh_removeWithin wi_Sh wc_Sh_removeWithin) rfl rfl rfl (by decide +kernel) ⟨Nat.le_of_ble_eq_true rfl, Nat.le_of_ble_eq_true rfl⟩) (mP.preV hG hS hV hq4_ro rfl) rfl rfl hl.1 rfl (lv_room (Nat.le_of_ble_eq_true rfl)) d_Co_fill_82 ⟨Nat.le_of_ble_eq_true rfl, Nat.le_of_ble_eq_true rfl⟩) hS (fun V_24 H locs hp_25 hV hS => ?_)
              obtain ⟨g_26, hv_g_26, hg_g_26⟩ := hp_25
              rw [hv_g_26, hu_c (Ne.symm hqr), hu_u] at hV
              have hq7_rq : (hu (hu V rq (eI k 24 g_26)) ra (eI k 24 G)) rq = some (eI k 24 g_26) := (hu_n hqr).trans hu_s
              have hq7_co : (hu (hu V rq (eI k 24 g_26)) ra (eI k 24 G)) co = some (.inr (2, [.ref ta, .int lay, .ref ro, .ref on, .ref re, .int g0])) := hu_oo h_rq h_ra h_co (by simp) (by simp)
              have hq7_ta : (hu (hu V rq (eI k 24 g_26)) ra (eI k 24 G)) ta = some (eTs k f) := hu_oo h_rq h_ra hT.1 (by simp) (by simp)
              have hq7_sh : (hu (hu V rq (eI k 24 g_26)) ra (eI k 24 G)) sh = some (.inr (3, [.ref ra])) := hu_oo h_rq h_ra h_sh (by simp) (by simp)
              have hq7_ro : (hu (hu V rq (eI k 24 g_26)) ra (eI k 24 G)) ro = some (.inr (3, [.ref rq])) := hu_oo h_rq h_ra h_ro (by simp) (by simp)
              have hq7_t : (hu (hu V rq (eI k 24 g_26)) ra (eI k 24 G)) t = some (.inr (5, [.int kd, .int nu, .ref a, .int la, .int ne, .int pa, .int th])) := hu_oo h_rq h_ra h_t (by simp) (by simp)
              have hq7_t_19 : (hu (hu V rq (eI k 24 g_26)) ra (eI k 24 G)) t_19 = some (.inr (5, [.int (T i 0), .int (T i 1), .ref (ar i), .int (T i 2), .int (T i 3), .int (T i 4), .int (T i 5)])) := hu_oo h_rq h_ra h_t_19 (by simp) (by simp)
              have hq7_ari : (hu (hu V rq (eI k 24 g_26)) ra (eI k 24 G)) (ar i) = some (.inr (1, [.int (T i 6), .int (T i 7), .int (T i 8), .int (T i 9)])) := hu_oo h_rq h_ra ha_t_19 (by simp) (by simp)
              obtain ⟨i_27, ei_27⟩ : ∃ y : Int32, y = (nI i) + 1 := ⟨_, rfl⟩
              refine lv_iinc (v := i_27) (lv' := [(3, .int i_27), (4, .ref t_19), (0, .ref co), (1, .ref sh), (2, .ref t)]) hx hb d_Co_fill_85 hl (k := 4) rfl (by rw [ei_27]; rfl) (by decide) rfl (fun ls hl => ?_)
              refine lv_goto (tgt := 14) hx hb d_Co_fill_88 (by decide) ?_
              rw [nI_1] at ei_27
              subst ei_27
              simp only [bI_ne0, bI_eq0] at c_21
              have e20 : (i + 1) - 20 = (i - 20) + 1 := by omega
              have f20 : 20 + (i - 20) = i := by omega
              exact ih (i + 1) g_26 G _ _ _ (by omega) (by omega) (by omega) (⟨fun j hj => by rw [hI.1 j hj, e20, flO, f20]; simp [h5_18, c_21, c_23], fun j hj => by rw [e20, flR, f20, hg_g_26 j hj]; simp [h5_18, c_21, c_23, remR, hI.2 j hj]⟩) hV hS (lv_sub hl [2, 3, 4, 0] rfl)
            · refine lv_aload_n hx hb d_Co_fill_57 rfl (lv_at hl 2 rfl) ?_
              refine lv_aload hx hb d_Co_fill_58 (lv_at hl 0 rfl) ?_
              refine gf_Co_96 hx hb hW hown hG hV hb_t_19_t_19 d_Co_fill_60 ?_
              refine rc_V (va_runV (As := [.ref (ar i)]) (rest := []) ⟨hx, hb, hml, hown, hts⟩ (c_Sh_add l D N0 k (hu (hu V rq (eI k 24 R)) ra (eI k 24 G)) sh ra G hq4_sh hu_s (ar i) (T i 6) (T i 7) (T i 8) (T i 9) hb_t_19_ari) (cwV 1 hts (gi_V wm_Co_100 wv_Sh_add ws_Sh_add wi_Sh wc_Sh_add) rfl rfl rfl (by decide +kernel) ⟨Nat.le_of_ble_eq_true rfl, Nat.le_of_ble_eq_true rfl⟩) (mP.preV hG hS hV hq4_sh rfl) rfl rfl hl.1 rfl (lv_room (Nat.le_of_ble_eq_true rfl)) d_Co_fill_63 ⟨Nat.le_of_ble_eq_true rfl, Nat.le_of_ble_eq_true rfl⟩) hS (fun V_28 H locs hp_29 hV hS => ?_)
              obtain ⟨g_30, hv_g_30, hg_g_30⟩ := hp_29
              rw [hv_g_30, hu_u] at hV
              have hq8_rq : (hu (hu V rq (eI k 24 R)) ra (eI k 24 g_30)) rq = some (eI k 24 R) := (hu_n hqr).trans hu_s
              have hq8_co : (hu (hu V rq (eI k 24 R)) ra (eI k 24 g_30)) co = some (.inr (2, [.ref ta, .int lay, .ref ro, .ref on, .ref re, .int g0])) := hu_oo h_rq h_ra h_co (by simp) (by simp)
              have hq8_ta : (hu (hu V rq (eI k 24 R)) ra (eI k 24 g_30)) ta = some (eTs k f) := hu_oo h_rq h_ra hT.1 (by simp) (by simp)
              have hq8_sh : (hu (hu V rq (eI k 24 R)) ra (eI k 24 g_30)) sh = some (.inr (3, [.ref ra])) := hu_oo h_rq h_ra h_sh (by simp) (by simp)
              have hq8_ro : (hu (hu V rq (eI k 24 R)) ra (eI k 24 g_30)) ro = some (.inr (3, [.ref rq])) := hu_oo h_rq h_ra h_ro (by simp) (by simp)
              have hq8_t : (hu (hu V rq (eI k 24 R)) ra (eI k 24 g_30)) t = some (.inr (5, [.int kd, .int nu, .ref a, .int la, .int ne, .int pa, .int th])) := hu_oo h_rq h_ra h_t (by simp) (by simp)
              have hq8_t_19 : (hu (hu V rq (eI k 24 R)) ra (eI k 24 g_30)) t_19 = some (.inr (5, [.int (T i 0), .int (T i 1), .ref (ar i), .int (T i 2), .int (T i 3), .int (T i 4), .int (T i 5)])) := hu_oo h_rq h_ra h_t_19 (by simp) (by simp)
              have hq8_ari : (hu (hu V rq (eI k 24 R)) ra (eI k 24 g_30)) (ar i) = some (.inr (1, [.int (T i 6), .int (T i 7), .int (T i 8), .int (T i 9)])) := hu_oo h_rq h_ra ha_t_19 (by simp) (by simp)
              refine lv_goto (tgt := 85) hx hb d_Co_fill_66 (by decide) ?_
              obtain ⟨i_31, ei_31⟩ : ∃ y : Int32, y = (nI i) + 1 := ⟨_, rfl⟩
              refine lv_iinc (v := i_31) (lv' := [(3, .int i_31), (4, .ref t_19), (0, .ref co), (1, .ref sh), (2, .ref t)]) hx hb d_Co_fill_85 hl (k := 4) rfl (by rw [ei_31]; rfl) (by decide) rfl (fun ls hl => ?_)
              refine lv_goto (tgt := 14) hx hb d_Co_fill_88 (by decide) ?_
              rw [nI_1] at ei_31
              subst ei_31
              simp only [bI_ne0, bI_eq0] at c_21
              have e20 : (i + 1) - 20 = (i - 20) + 1 := by omega
              have f20 : 20 + (i - 20) = i := by omega
              exact ih (i + 1) R g_30 _ _ _ (by omega) (by omega) (by omega) (⟨fun j hj => by rw [e20, flO, f20, hg_g_30 j hj]; simp [h5_18, c_21, c_23, addR, hI.1 j hj], fun j hj => by rw [hI.2 j hj, e20, flR, f20]; simp [h5_18, c_21, c_23]⟩) hV hS (lv_sub hl [2, 3, 4, 0] rfl)
  exact loop 121 20 g_3 g_6 _ _ _ (by omega) (by omega) (by omega) ⟨fun j hj => hg_g_6 j hj, fun j hj => hg_g_3 j hj⟩ hV hS (lv_sub hl [1, 2, 3, 0] rfl)
