/-! the law's helpers: what they answer -/
def loFr (b b' : HA) (ou : Nat) (V V' : HV) : Prop := b'.ho = b.ho ∧ b'.lb ou = b.lb ou ∧ ∀ q e, q ≠ ou → V q = some e → 9999 < b.lb q → V' q = some e ∧ b'.lb q = b.lb q
theorem lo_rf {b : HA} {ou : Nat} {V : HV} : loFr b b ou V V := ⟨rfl, rfl, fun _ _ _ h _ => ⟨h, rfl⟩⟩
theorem lo_of {b b' : HA} {ou : Nat} {V V1 : HV} {e0 e1 : va_E} (h : hsFr b b' V V1) (ho : V ou = some e0) (hl : 9999 < b.lb ou) : loFr b b' ou V (hu V1 ou e1) :=
  ⟨h.1, (h.2 ou e0 ho hl).2, fun q e hq hV hb => ⟨by rw [hu_n hq]; exact (h.2 q e hV hb).1, (h.2 q e hV hb).2⟩⟩
theorem W_out {k : Nat → Nat} {V : HV} {b : HA} {σ : HS} {ou : Nat} {e : va_E} (h : hsW k V b σ) (hl : 9999 < b.lb ou) : hsW k (hu V ou e) b σ := ⟨hs_tmp h.1 (by omega), h.2⟩
theorem uL0 {g : Nat → Int64} {x : Int64} : vp_updL g 0 x 0 = x := uL_s
def partR (σ : HS) (pw ph x y side : Int32) (r : Int32) (a : Int64) (σ' : HS) : Prop :=
  (ptOk pw ph side = false ∧ r = 1 ∧ σ' = σ) ∨
  (ptOk pw ph side = true ∧ r = 0 ∧ σ' = (mkP σ 2 (mkR 2 (σ.G 2) side (-1) (-1) x y (x + (pw - 1)) (y + (ph - 1))) 0 0 31 23).2 ∧ a = ((mkP σ 2 (mkR 2 (σ.G 2) side (-1) (-1) x y (x + (pw - 1)) (y + (ph - 1))) 0 0 31 23).1).toInt64)
def padR (σ : HS) (part net dx dy : Int32) (r : Int32) (a : Int64) (σ' : HS) : Prop :=
  (gvOk σ.G part = false ∧ r = 1 ∧ σ' = σ) ∨
  (gvOk σ.G part = true ∧ gvOk σ.G net = false ∧ r = 1 ∧ σ' = σ) ∨
  (gvOk σ.G part = true ∧ gvOk σ.G net = true ∧ ¬ (part / 1000 = 2) ∧ r = 2 ∧ σ' = σ) ∨
  (gvOk σ.G part = true ∧ gvOk σ.G net = true ∧ (part / 1000 = 2) ∧ ¬ (net / 1000 = 1) ∧ r = 2 ∧ σ' = σ) ∨
  (gvOk σ.G part = true ∧ gvOk σ.G net = true ∧ (part / 1000 = 2) ∧ (net / 1000 = 1) ∧ σ.T (hdI part) 5 = 0 ∧ r = 3 ∧ σ' = σ) ∨
  (gvOk σ.G part = true ∧ gvOk σ.G net = true ∧ (part / 1000 = 2) ∧ (net / 1000 = 1) ∧ ¬ (σ.T (hdI part) 5 = 0) ∧ r = 0 ∧ σ' = (mkP σ 3 (mkR 3 (σ.G 3) 0 net part (σ.T (hdI part) 6 + dx) (σ.T (hdI part) 7 + dy) (σ.T (hdI part) 6 + dx) (σ.T (hdI part) 7 + dy)) (σ.T (hdI part) 6) (σ.T (hdI part) 7) (σ.T (hdI part) 8) (σ.T (hdI part) 9)).2 ∧ a = ((mkP σ 3 (mkR 3 (σ.G 3) 0 net part (σ.T (hdI part) 6 + dx) (σ.T (hdI part) 7 + dy) (σ.T (hdI part) 6 + dx) (σ.T (hdI part) 7 + dy)) (σ.T (hdI part) 6) (σ.T (hdI part) 7) (σ.T (hdI part) 8) (σ.T (hdI part) 9)).1).toInt64)
def viaR (σ : HS) (net x y : Int32) (r : Int32) (a : Int64) (σ' : HS) : Prop :=
  (gvOk σ.G net = false ∧ r = 1 ∧ σ' = σ) ∨
  (gvOk σ.G net = true ∧ ¬ (net / 1000 = 1) ∧ r = 2 ∧ σ' = σ) ∨
  (gvOk σ.G net = true ∧ (net / 1000 = 1) ∧ r = 0 ∧ σ' = (mkP σ 3 (mkR 3 (σ.G 3) 0 net (-1) x y x y) 0 0 31 23).2 ∧ a = ((mkP σ 3 (mkR 3 (σ.G 3) 0 net (-1) x y x y) 0 0 31 23).1).toInt64)
def trackR (σ : HS) (net la x0 y0 x1 y1 : Int32) (r : Int32) (a : Int64) (σ' : HS) : Prop :=
  (gvOk σ.G net = false ∧ r = 1 ∧ σ' = σ) ∨
  (gvOk σ.G net = true ∧ (decide (0 ≤ la) && !decide (nI σ.nl ≤ la)) = false ∧ r = 1 ∧ σ' = σ) ∨
  (gvOk σ.G net = true ∧ (decide (0 ≤ la) && !decide (nI σ.nl ≤ la)) = true ∧ ¬ (net / 1000 = 1) ∧ r = 2 ∧ σ' = σ) ∨
  (gvOk σ.G net = true ∧ (decide (0 ≤ la) && !decide (nI σ.nl ≤ la)) = true ∧ (net / 1000 = 1) ∧ (decide (x0 = x1) || decide (y0 = y1)) = false ∧ r = 2 ∧ σ' = σ) ∨
  (gvOk σ.G net = true ∧ (decide (0 ≤ la) && !decide (nI σ.nl ≤ la)) = true ∧ (net / 1000 = 1) ∧ (decide (x0 = x1) || decide (y0 = y1)) = true ∧ r = 0 ∧ σ' = (mkP σ 4 (mkR 4 (σ.G 4) la net (-1) (if x1 < x0 then x1 else x0) (if y1 < y0 then y1 else y0) (if x0 < x1 then x1 else x0) (if y0 < y1 then y1 else y0)) 0 0 31 23).2 ∧ a = ((mkP σ 4 (mkR 4 (σ.G 4) la net (-1) (if x1 < x0 then x1 else x0) (if y1 < y0 then y1 else y0) (if x0 < x1 then x1 else x0) (if y0 < y1 then y1 else y0)) 0 0 31 23).1).toInt64)
def planeR (σ : HS) (net la : Int32) (r : Int32) (a : Int64) (σ' : HS) : Prop :=
  (gvOk σ.G net = false ∧ r = 1 ∧ σ' = σ) ∨
  (gvOk σ.G net = true ∧ (decide (0 ≤ la) && !decide (nI σ.nl ≤ la)) = false ∧ r = 1 ∧ σ' = σ) ∨
  (gvOk σ.G net = true ∧ (decide (0 ≤ la) && !decide (nI σ.nl ≤ la)) = true ∧ ¬ (net / 1000 = 1) ∧ r = 2 ∧ σ' = σ) ∨
  (gvOk σ.G net = true ∧ (decide (0 ≤ la) && !decide (nI σ.nl ≤ la)) = true ∧ (net / 1000 = 1) ∧ r = 0 ∧ σ' = (mkP σ 5 (mkR 5 (σ.G 5) la net (-1) 0 0 (0 + (31 - 0)) (0 + (23 - 0))) 0 0 31 23).2 ∧ a = ((mkP σ 5 (mkR 5 (σ.G 5) la net (-1) 0 0 (0 + (31 - 0)) (0 + (23 - 0))) 0 0 31 23).1).toInt64)
def moveR (σ : HS) (part x y : Int32) (r : Int32) (a : Int64) (σ' : HS) : Prop :=
  (gvOk σ.G part = false ∧ r = 1 ∧ σ' = σ) ∨
  (gvOk σ.G part = true ∧ ¬ (part / 1000 = 2) ∧ r = 2 ∧ σ' = σ) ∨
  (gvOk σ.G part = true ∧ (part / 1000 = 2) ∧ σ.T (hdI part) 5 = 0 ∧ r = 3 ∧ σ' = σ) ∨
  (gvOk σ.G part = true ∧ (part / 1000 = 2) ∧ ¬ (σ.T (hdI part) 5 = 0) ∧ r = 0 ∧ σ' = (mvS σ (hdI part) x y).2 ∧ a = (if (mvS σ (hdI part) x y).1 = 0 then 0 else 1))
def dropR (σ : HS) (h : Int32) (r : Int32) (a : Int64) (σ' : HS) : Prop :=
  (gvOk σ.G h = false ∧ r = 1 ∧ σ' = σ) ∨
  (gvOk σ.G h = true ∧ ¬ (2 ≤ hdK h ∧ hdK h ≤ 5) ∧ r = 2 ∧ σ' = σ) ∨
  (gvOk σ.G h = true ∧ (2 ≤ hdK h ∧ hdK h ≤ 5) ∧ σ.T (hdI h) 5 = 0 ∧ r = 3 ∧ σ' = σ) ∨
  (gvOk σ.G h = true ∧ (2 ≤ hdK h ∧ hdK h ≤ 5) ∧ ¬ (σ.T (hdI h) 5 = 0) ∧ r = 0 ∧ σ' = (drS σ (hdI h)).2 ∧ a = (if (drS σ (hdI h)).1 = 0 then 0 else 1))
def gapR (σ : HS) (v : Int32) (r : Int32) (a : Int64) (σ' : HS) : Prop :=
  ((decide (0 ≤ v) && decide (v ≤ 4)) = false ∧ r = 1 ∧ σ' = σ) ∨
  ((decide (0 ≤ v) && decide (v ≤ 4)) = true ∧ r = 0 ∧ σ' = (σ.wg v) ∧ a = σ.g.toInt64)
def islandsR (σ : HS) (net : Int32) (r : Int32) (a : Int64) (σ' : HS) : Prop :=
  (gvOk σ.G net = false ∧ r = 1 ∧ σ' = σ) ∨
  (gvOk σ.G net = true ∧ ¬ (net / 1000 = 1) ∧ r = 2 ∧ σ' = σ) ∨
  (gvOk σ.G net = true ∧ (net / 1000 = 1) ∧ r = 0 ∧ σ' = σ ∧ ∃ O R c, ldO σ net O ∧ islR σ.nl σ.T net O 120 R c ∧ a = (nI c).toInt64)
def nearR (σ : HS) (q0 wh : Int32) (r : Int32) (a : Int64) (σ' : HS) : Prop :=
  ((decide (wh = 0) || decide (wh = 1)) = false ∧ r = 1 ∧ σ' = σ) ∨
  ((decide (wh = 0) || decide (wh = 1)) = true ∧ r = 0 ∧ σ' = σ ∧ a = (nrF σ.T σ.g wh 20 120 q0).toInt64)
def filledR (σ : HS) (h : Int32) (r : Int32) (a : Int64) (σ' : HS) : Prop :=
  (gvOk σ.G h = false ∧ r = 1 ∧ σ' = σ) ∨
  (gvOk σ.G h = true ∧ ¬ (h / 1000 = 5) ∧ r = 2 ∧ σ' = σ) ∨
  (gvOk σ.G h = true ∧ (h / 1000 = 5) ∧ σ.T (hdI h) 5 = 0 ∧ r = 3 ∧ σ' = σ) ∨
  (gvOk σ.G h = true ∧ (h / 1000 = 5) ∧ ¬ (σ.T (hdI h) 5 = 0) ∧ r = 0 ∧ σ' = σ ∧ ∃ G, Clo (flR σ.T (σ.T (hdI h) 2) (σ.T (hdI h) 3) σ.g 120) (fun j => flO σ.T (σ.T (hdI h) 2) (σ.T (hdI h) 3) 120 j &&& flR σ.T (σ.T (hdI h) 2) (σ.T (hdI h) 3) σ.g 120 j) G ∧ a = (szF (fun j => jb_cnt (G j)) 0 24).toInt64)
def atR (σ : HS) (h wh : Int32) (r : Int32) (a : Int64) (σ' : HS) : Prop :=
  (gvOk σ.G h = false ∧ r = 1 ∧ σ' = σ) ∨
  (gvOk σ.G h = true ∧ (decide (0 ≤ wh) && decide (wh ≤ 5)) = false ∧ r = 1 ∧ σ' = σ) ∨
  (gvOk σ.G h = true ∧ (decide (0 ≤ wh) && decide (wh ≤ 5)) = true ∧ ¬ (2 ≤ hdK h ∧ hdK h ≤ 5) ∧ r = 2 ∧ σ' = σ) ∨
  (gvOk σ.G h = true ∧ (decide (0 ≤ wh) && decide (wh ≤ 5)) = true ∧ (2 ≤ hdK h ∧ hdK h ≤ 5) ∧ r = 0 ∧ σ' = σ ∧ a = (atV σ.T (hdI h) wh).toInt64)
def countR (σ : HS) (kd : Int32) (r : Int32) (a : Int64) (σ' : HS) : Prop :=
  ((decide (2 ≤ kd) && decide (kd ≤ 5)) = false ∧ r = 1 ∧ σ' = σ) ∨
  ((decide (2 ≤ kd) && decide (kd ≤ 5)) = true ∧ r = 0 ∧ σ' = σ ∧ a = (nI (cntF (kdC σ.T kd) 0 150)).toInt64)
def workR (σ : HS) (h : Int32) (r : Int32) (a : Int64) (σ' : HS) : Prop :=
  (h = 0 ∧ r = 0 ∧ σ' = σ.wwo none ∧ a = (if bI (!decide (none = σ.wo)) = 0 then 0 else 1)) ∨
  (¬ h = 0 ∧ gvOk σ.G h = false ∧ r = 1 ∧ σ' = σ) ∨
  (¬ h = 0 ∧ gvOk σ.G h = true ∧ ¬ (h / 1000 = 6) ∧ r = 2 ∧ σ' = σ) ∨
  (¬ h = 0 ∧ gvOk σ.G h = true ∧ (h / 1000 = 6) ∧ σ.A (hdN h) 0 = 0 ∧ r = 3 ∧ σ' = σ) ∨
  (¬ h = 0 ∧ gvOk σ.G h = true ∧ (h / 1000 = 6) ∧ ¬ (σ.A (hdN h) 0 = 0) ∧ r = 0 ∧ σ' = (σ.wwo (some (hdN h))) ∧ a = (if (bI (!decide ((some (hdN h)) = σ.wo))) = 0 then 0 else 1))
def endR (σ : HS) (h kp : Int32) (r : Int32) (a : Int64) (σ' : HS) : Prop :=
  (gvOk σ.G h = false ∧ r = 1 ∧ σ' = σ) ∨
  (gvOk σ.G h = true ∧ ¬ (h / 1000 = 6) ∧ r = 2 ∧ σ' = σ) ∨
  (gvOk σ.G h = true ∧ (h / 1000 = 6) ∧ σ.A (hdN h) 0 = 0 ∧ r = 3 ∧ σ' = σ) ∨
  (gvOk σ.G h = true ∧ (h / 1000 = 6) ∧ ¬ (σ.A (hdN h) 0 = 0) ∧ r = 0 ∧ σ' = (edS σ (hdN h) kp) ∧ a = (σ.A (hdN h) 1).toInt64)
def versionR (σ : HS) (r : Int32) (a : Int64) (σ' : HS) : Prop :=
  (anyF (opn σ.A) 0 10 = true ∧ r = 1 ∧ σ' = σ) ∨
  (anyF (opn σ.A) 0 10 = false ∧ r = 0 ∧ ∃ W', (∀ i, i < 150 → W' i = vsW σ i) ∧ σ' = (vsP σ W').2 ∧ a = (vsP σ W').1.toInt64)
def backR (σ : HS) (h : Int32) (r : Int32) (a : Int64) (σ' : HS) : Prop :=
  (gvOk σ.G h = false ∧ r = 1 ∧ σ' = σ) ∨
  (gvOk σ.G h = true ∧ ¬ (h / 1000 = 7) ∧ r = 2 ∧ σ' = σ) ∨
  (gvOk σ.G h = true ∧ (h / 1000 = 7) ∧ anyF (opn σ.A) 0 10 = true ∧ r = 3 ∧ σ' = σ) ∨
  (gvOk σ.G h = true ∧ (h / 1000 = 7) ∧ anyF (opn σ.A) 0 10 = false ∧ r = 0 ∧ σ' = (σ.wT (bkT σ (hdN h))) ∧ a = (bkC σ (hdN h)).toInt64)
set_option maxHeartbeats 4000000 in
set_option maxRecDepth 100000 in
/-- part -/
theorem c_La_part (l : Launch) (hls : l.stackTraces = false) (D : va_G) (N0 : Nat) (k : Nat → Nat) (V : HV) (b : HA) (σ : HS) (hW0 : hsW k V b σ) (ou : Nat) (g : Nat → Int64) (hou : V ou = some (eL k 1 g)) (hlo : 9999 < b.lb ou) (pw ph x y side : Int32) : Met l y_La_part (.codeWith y_La_part b_La_part 8 (some .int) [(0, 16, 19, 13)] :: WS) ({ frames := 7, cells := 2, slots := 11, locals := 144 }) (mPx D N0 k [.ref b.ho, .int pw, .int ph, .int x, .int y, .int side, .ref ou] V) (va_Qi (fun r V' => ∃ b' σ' g', hsW k V' b' σ' ∧ V' ou = some (eL k 1 g') ∧ loFr b b' ou V V' ∧ partR σ pw ph x y side r (g' 0) σ') (mB D N0) (hA N0)) 2 11 (hA N0) := by
  refine hx_MetW (cc := b_La_part) (maxL := 8) (ret := (some .int)) (hh := [(0, 16, 19, 13)]) (by decide) rfl ?_
  intro p e s m args below meth c s₁ B hml htab hv0
  obtain ⟨rfl, ⟨hG, hN⟩, hV⟩ := hv0
  have hx := B.exec
  have hb := B.bytes
  have hr := B.returns
  have hts := atoms_spec (ws := .codeWith y_La_part b_La_part 8 (some .int) [(0, 16, 19, 13)] :: WS) B.pre
  have hW : ∀ w ∈ WS, w.before _ s = true := fun w h => hts w (List.mem_cons_of_mem _ h)
  have hown : s.vm.findClass "BoardHouseLaw" = some m.cls := findClass_of_methodNamed B.named
  have hlocks := B.notSynchronized
  have hS : va_S (hA N0) s.heap s.heap [] := va_S.rf
  have hl := lv_entry ([.ref b.ho, .int pw, .int ph, .int x, .int y, .int side, .ref ou]) (n := 8) (Nat.le_of_ble_eq_true rfl)
  rw [lg_entry_eq]
  generalize (lg_sl ([.ref b.ho, .int pw, .int ph, .int x, .int y, .int side, .ref ou]) ++ List.replicate (8 - (lg_sl ([.ref b.ho, .int pw, .int ph, .int x, .int y, .int side, .ref ou])).length) Slot.unset).toArray = ls at hl ⊢
  have hl : lv_has ls 8 [(0, .ref b.ho), (1, .int pw), (2, .int ph), (3, .int x), (4, .int y), (5, .int side), (6, .ref ou)] := hl
  refine lv_aload hx hb d_La_part_0 (lv_at hl 6 rfl) ?_
  refine lv_iconst (v := 0) hx hb d_La_part_2 (by decide) ?_
  refine lv_aload_n hx hb d_La_part_3 rfl (lv_at hl 0 rfl) ?_
  refine lv_iload_n hx hb d_La_part_4 rfl (lv_at hl 1 rfl) ?_
  refine lv_iload_n hx hb d_La_part_5 rfl (lv_at hl 2 rfl) ?_
  refine lv_iload_n hx hb d_La_part_6 rfl (lv_at hl 3 rfl) ?_
  refine lv_iload hx hb d_La_part_7 (lv_at hl 4 rfl) ?_
  refine lv_iload hx hb d_La_part_9 (lv_at hl 5 rfl) ?_
  cases hok : ptOk pw ph side with
  | false =>
    refine hx_callCatchL (E := xG) (hx_runV (As := [.int pw, .int ph, .int x, .int y, .int side]) (rest := [.int 0, .ref ou]) ⟨hx, hb, hml, hown, hts⟩ (t_Ho_part l hls D N0 k V b σ hW0.1 pw ph x y side hok) (cwV 5 hts (gi_Vw wm_La_7 wv_Ho_part ws_Ho_part wi_Ho wc_Ho_part) rfl rfl rfl (by decide +kernel) ⟨Nat.le_of_ble_eq_true rfl, Nat.le_of_ble_eq_true rfl⟩) (mP.preV hG hS hV hW0.1.ho rfl) rfl rfl hl.1 rfl (lv_room (Nat.le_of_ble_eq_true rfl)) d_La_part_11 ⟨Nat.le_of_ble_eq_true rfl, Nat.le_of_ble_eq_true rfl⟩) hS hown hN (by decide +kernel) [] ⟨0, 16, 19, 13⟩ [] (by rw [htab]; rfl) (fun q hq => nomatch hq) rfl (by decide) (hW _ wk_La_13) (fun q_1 H locs hV hS => ?_)
    refine lv_astore (lv' := [(7, .ref q_1), (0, .ref b.ho), (1, .int pw), (2, .int ph), (3, .int x), (4, .int y), (5, .int side), (6, .ref ou)]) hx hb d_La_part_19 hl (by decide) rfl (fun ls hl => ?_)
    refine lv_iconst (v := 1) hx hb d_La_part_21 (by decide) ?_
    refine W.widen (k := 2) (n := 11) (by omega) (by omega) ?_
    exact W.iret (v := 1) hx hb hr (fun t9 ht hW => ⟨⟨1, V, rfl, ⟨b, σ, g, hW0, hou, lo_rf, (Or.inl ⟨hok, rfl, rfl⟩)⟩, mB_of ht hV⟩, hS.F ht⟩) hS.2.2 d_La_part_22
  | true =>
    refine rc_I (va_runV (As := [.int pw, .int ph, .int x, .int y, .int side]) (rest := [.int 0, .ref ou]) ⟨hx, hb, hml, hown, hts⟩ (c_Ho_part l D N0 k V b σ hW0 pw ph x y side hok) (cwV 5 hts (gi_Vw wm_La_7 wv_Ho_part ws_Ho_part wi_Ho wc_Ho_part) rfl rfl rfl (by decide +kernel) ⟨Nat.le_of_ble_eq_true rfl, Nat.le_of_ble_eq_true rfl⟩) (mP.preV hG hS hV hW0.1.ho rfl) rfl rfl hl.1 rfl (lv_room (Nat.le_of_ble_eq_true rfl)) d_La_part_11 ⟨Nat.le_of_ble_eq_true rfl, Nat.le_of_ble_eq_true rfl⟩) hS (fun r_2 V_3 H locs hp_4 hV hS => ?_)
    obtain ⟨b1, hW1, hF1, e_r_2⟩ := hp_4
    have hou1 := (hF1.2 ou _ hou hlo).1
    refine lv_i2l hx hb d_La_part_14 rfl ?_
    refine hv_last hx hb hG.K hV hS 1 hou1 rfl ((vp_in_nI (by omega) (by omega) : vp_in (nI 0) 1)) d_La_part_15 (fun H locs hV hS => ?_)
    rw [show (0 : Int32).toNatClampNeg = 0 from rfl] at hV
    replace hV : hv D vwCl N0 (hu V_3 ou (eL k 1 (vp_updL g 0 r_2.toInt64))) H := hV
    generalize hV_V_5 : hu V_3 ou (eL k 1 (vp_updL g 0 r_2.toInt64)) = V_5 at hV
    have hou'V_5 : V_5 ou = some (eL k 1 (vp_updL g 0 r_2.toInt64)) := by rw [← hV_V_5]; exact hu_s
    refine lv_goto (tgt := 23) hx hb d_La_part_16 (by decide) ?_
    refine lv_iconst (v := 0) hx hb d_La_part_23 (by decide) ?_
    exact W.iret (v := 0) hx hb hr (fun t9 ht hW => ⟨⟨0, V_5, rfl, ⟨b1, _, (vp_updL g 0 r_2.toInt64), by rw [← hV_V_5]; exact W_out hW1 (by rw [(hF1.2 ou _ hou hlo).2]; exact hlo), hou'V_5, by rw [← hV_V_5]; exact lo_of hF1 hou hlo, (Or.inr ⟨hok, rfl, rfl, by rw [uL0, e_r_2]⟩)⟩, mB_of ht hV⟩, hS.F ht⟩) hS.2.2 d_La_part_24
set_option maxHeartbeats 4000000 in
set_option maxRecDepth 100000 in
/-- pad -/
theorem c_La_pad (l : Launch) (hls : l.stackTraces = false) (D : va_G) (N0 : Nat) (k : Nat → Nat) (V : HV) (b : HA) (σ : HS) (hW0 : hsW k V b σ) (ou : Nat) (g : Nat → Int64) (hou : V ou = some (eL k 1 g)) (hlo : 9999 < b.lb ou) (part net dx dy : Int32) : Met l y_La_pad (.codeWith y_La_pad b_La_pad 7 (some .int) [(0, 14, 17, 19), (0, 14, 21, 13), (0, 14, 25, 21)] :: WS) ({ frames := 8, cells := 2, slots := 11, locals := 145 }) (mPx D N0 k [.ref b.ho, .int part, .int net, .int dx, .int dy, .ref ou] V) (va_Qi (fun r V' => ∃ b' σ' g', hsW k V' b' σ' ∧ V' ou = some (eL k 1 g') ∧ loFr b b' ou V V' ∧ padR σ part net dx dy r (g' 0) σ') (mB D N0) (hA N0)) 2 11 (hA N0) := by
  refine hx_MetW (cc := b_La_pad) (maxL := 7) (ret := (some .int)) (hh := [(0, 14, 17, 19), (0, 14, 21, 13), (0, 14, 25, 21)]) (by decide) rfl ?_
  intro p e s m args below meth c s₁ B hml htab hv0
  obtain ⟨rfl, ⟨hG, hN⟩, hV⟩ := hv0
  have hx := B.exec
  have hb := B.bytes
  have hr := B.returns
  have hts := atoms_spec (ws := .codeWith y_La_pad b_La_pad 7 (some .int) [(0, 14, 17, 19), (0, 14, 21, 13), (0, 14, 25, 21)] :: WS) B.pre
  have hW : ∀ w ∈ WS, w.before _ s = true := fun w h => hts w (List.mem_cons_of_mem _ h)
  have hown : s.vm.findClass "BoardHouseLaw" = some m.cls := findClass_of_methodNamed B.named
  have hlocks := B.notSynchronized
  have hS : va_S (hA N0) s.heap s.heap [] := va_S.rf
  have hl := lv_entry ([.ref b.ho, .int part, .int net, .int dx, .int dy, .ref ou]) (n := 7) (Nat.le_of_ble_eq_true rfl)
  rw [lg_entry_eq]
  generalize (lg_sl ([.ref b.ho, .int part, .int net, .int dx, .int dy, .ref ou]) ++ List.replicate (7 - (lg_sl ([.ref b.ho, .int part, .int net, .int dx, .int dy, .ref ou])).length) Slot.unset).toArray = ls at hl ⊢
  have hl : lv_has ls 7 [(0, .ref b.ho), (1, .int part), (2, .int net), (3, .int dx), (4, .int dy), (5, .ref ou)] := hl
  refine lv_aload hx hb d_La_pad_0 (lv_at hl 5 rfl) ?_
  refine lv_iconst (v := 0) hx hb d_La_pad_2 (by decide) ?_
  refine lv_aload_n hx hb d_La_pad_3 rfl (lv_at hl 0 rfl) ?_
  refine lv_iload_n hx hb d_La_pad_4 rfl (lv_at hl 1 rfl) ?_
  refine lv_iload_n hx hb d_La_pad_5 rfl (lv_at hl 2 rfl) ?_
  refine lv_iload_n hx hb d_La_pad_6 rfl (lv_at hl 3 rfl) ?_
  refine lv_iload hx hb d_La_pad_7 (lv_at hl 4 rfl) ?_
  cases hg : gvOk σ.G part with
  | false =>
    refine hx_callCatchL (E := xX) (hx_runV (As := [.int part, .int net, .int dx, .int dy]) (rest := [.int 0, .ref ou]) ⟨hx, hb, hml, hown, hts⟩ (t_Ho_pad1 l hls D N0 k V b σ hW0.1 part net dx dy hg) (cwV 4 hts (gi_Vw wm_La_15 wv_Ho_pad ws_Ho_pad wi_Ho wc_Ho_pad) rfl rfl rfl (by decide +kernel) ⟨Nat.le_of_ble_eq_true rfl, Nat.le_of_ble_eq_true rfl⟩) (mP.preV hG hS hV hW0.1.ho rfl) rfl rfl hl.1 rfl (lv_room (Nat.le_of_ble_eq_true rfl)) d_La_pad_9 ⟨Nat.le_of_ble_eq_true rfl, Nat.le_of_ble_eq_true rfl⟩) hS hown hN (by decide +kernel) [] ⟨0, 14, 17, 19⟩ [⟨0, 14, 21, 13⟩, ⟨0, 14, 25, 21⟩] (by rw [htab]; rfl) (fun q hq => nomatch hq) rfl (by decide) (hW _ wk_La_19) (fun q_1 H locs hV hS => ?_)
    refine lv_astore (lv' := [(6, .ref q_1), (0, .ref b.ho), (1, .int part), (2, .int net), (3, .int dx), (4, .int dy), (5, .ref ou)]) hx hb d_La_pad_17 hl (by decide) rfl (fun ls hl => ?_)
    refine lv_iconst (v := 1) hx hb d_La_pad_19 (by decide) ?_
    refine W.widen (k := 2) (n := 11) (by omega) (by omega) ?_
    exact W.iret (v := 1) hx hb hr (fun t9 ht hW => ⟨⟨1, V, rfl, ⟨b, σ, g, hW0, hou, lo_rf, (Or.inl ⟨hg, rfl, rfl⟩)⟩, mB_of ht hV⟩, hS.F ht⟩) hS.2.2 d_La_pad_20
  | true =>
    cases hg2 : gvOk σ.G net with
    | false =>
      refine hx_callCatchL (E := xX) (hx_runV (As := [.int part, .int net, .int dx, .int dy]) (rest := [.int 0, .ref ou]) ⟨hx, hb, hml, hown, hts⟩ (t_Ho_pad2 l hls D N0 k V b σ hW0.1 part net dx dy hg hg2) (cwV 4 hts (gi_Vw wm_La_15 wv_Ho_pad ws_Ho_pad wi_Ho wc_Ho_pad) rfl rfl rfl (by decide +kernel) ⟨Nat.le_of_ble_eq_true rfl, Nat.le_of_ble_eq_true rfl⟩) (mP.preV hG hS hV hW0.1.ho rfl) rfl rfl hl.1 rfl (lv_room (Nat.le_of_ble_eq_true rfl)) d_La_pad_9 ⟨Nat.le_of_ble_eq_true rfl, Nat.le_of_ble_eq_true rfl⟩) hS hown hN (by decide +kernel) [] ⟨0, 14, 17, 19⟩ [⟨0, 14, 21, 13⟩, ⟨0, 14, 25, 21⟩] (by rw [htab]; rfl) (fun q hq => nomatch hq) rfl (by decide) (hW _ wk_La_19) (fun q_2 H locs hV hS => ?_)
      refine lv_astore (lv' := [(6, .ref q_2), (0, .ref b.ho), (1, .int part), (2, .int net), (3, .int dx), (4, .int dy), (5, .ref ou)]) hx hb d_La_pad_17 hl (by decide) rfl (fun ls hl => ?_)
      refine lv_iconst (v := 1) hx hb d_La_pad_19 (by decide) ?_
      refine W.widen (k := 2) (n := 11) (by omega) (by omega) ?_
      exact W.iret (v := 1) hx hb hr (fun t9 ht hW => ⟨⟨1, V, rfl, ⟨b, σ, g, hW0, hou, lo_rf, (Or.inr (Or.inl ⟨hg, hg2, rfl, rfl⟩))⟩, mB_of ht hV⟩, hS.F ht⟩) hS.2.2 d_La_pad_20
    | true =>
      by_cases hk2 : part / 1000 = 2
      · by_cases hk1 : net / 1000 = 1
        · by_cases hth : σ.T (hdI part) 5 = 0
          · refine hx_callCatchL (E := xS) (hx_runV (As := [.int part, .int net, .int dx, .int dy]) (rest := [.int 0, .ref ou]) ⟨hx, hb, hml, hown, hts⟩ (t_Ho_pad5 l hls D N0 k V b σ hW0 part net dx dy hg hg2 hk2 hk1 hth) (cwV 4 hts (gi_Vw wm_La_15 wv_Ho_pad ws_Ho_pad wi_Ho wc_Ho_pad) rfl rfl rfl (by decide +kernel) ⟨Nat.le_of_ble_eq_true rfl, Nat.le_of_ble_eq_true rfl⟩) (mP.preV hG hS hV hW0.1.ho rfl) rfl rfl hl.1 rfl (lv_room (Nat.le_of_ble_eq_true rfl)) d_La_pad_9 ⟨Nat.le_of_ble_eq_true rfl, Nat.le_of_ble_eq_true rfl⟩) hS hown hN (by decide +kernel) [(⟨0, 14, 17, 19⟩, xX), (⟨0, 14, 21, 13⟩, xG)] ⟨0, 14, 25, 21⟩ [] (by rw [htab]; rfl) (by intro q hq; simp only [List.mem_cons, List.not_mem_nil, or_false] at hq; rcases hq with rfl | rfl <;> exact ⟨by decide, hW _ (by first | exact wk_La_19 | exact wk_La_13), by decide +kernel⟩) rfl (by decide) (hW _ wk_La_21) (fun q_3 H locs hV hS => ?_)
            refine lv_astore (lv' := [(6, .ref q_3), (0, .ref b.ho), (1, .int part), (2, .int net), (3, .int dx), (4, .int dy), (5, .ref ou)]) hx hb d_La_pad_25 hl (by decide) rfl (fun ls hl => ?_)
            refine lv_iconst (v := 3) hx hb d_La_pad_27 (by decide) ?_
            refine W.widen (k := 2) (n := 11) (by omega) (by omega) ?_
            exact W.iret (v := 3) hx hb hr (fun t9 ht hW => ⟨⟨3, V, rfl, ⟨b, σ, g, hW0, hou, lo_rf, (Or.inr (Or.inr (Or.inr (Or.inr (Or.inl ⟨hg, hg2, hk2, hk1, hth, rfl, rfl⟩)))))⟩, mB_of ht hV⟩, hS.F ht⟩) hS.2.2 d_La_pad_28
          · refine rc_I (va_runV (As := [.int part, .int net, .int dx, .int dy]) (rest := [.int 0, .ref ou]) ⟨hx, hb, hml, hown, hts⟩ (c_Ho_pad l D N0 k V b σ hW0 part net dx dy hg hg2 hk2 hk1 hth) (cwV 4 hts (gi_Vw wm_La_15 wv_Ho_pad ws_Ho_pad wi_Ho wc_Ho_pad) rfl rfl rfl (by decide +kernel) ⟨Nat.le_of_ble_eq_true rfl, Nat.le_of_ble_eq_true rfl⟩) (mP.preV hG hS hV hW0.1.ho rfl) rfl rfl hl.1 rfl (lv_room (Nat.le_of_ble_eq_true rfl)) d_La_pad_9 ⟨Nat.le_of_ble_eq_true rfl, Nat.le_of_ble_eq_true rfl⟩) hS (fun r_4 V_5 H locs hp_6 hV hS => ?_)
            obtain ⟨b1, hW1, hF1, e_r_4⟩ := hp_6
            have hou1 := (hF1.2 ou _ hou hlo).1
            refine lv_i2l hx hb d_La_pad_12 rfl ?_
            refine hv_last hx hb hG.K hV hS 1 hou1 rfl ((vp_in_nI (by omega) (by omega) : vp_in (nI 0) 1)) d_La_pad_13 (fun H locs hV hS => ?_)
            rw [show (0 : Int32).toNatClampNeg = 0 from rfl] at hV
            replace hV : hv D vwCl N0 (hu V_5 ou (eL k 1 (vp_updL g 0 r_4.toInt64))) H := hV
            generalize hV_V_7 : hu V_5 ou (eL k 1 (vp_updL g 0 r_4.toInt64)) = V_7 at hV
            have hou'V_7 : V_7 ou = some (eL k 1 (vp_updL g 0 r_4.toInt64)) := by rw [← hV_V_7]; exact hu_s
            refine lv_goto (tgt := 29) hx hb d_La_pad_14 (by decide) ?_
            refine lv_iconst (v := 0) hx hb d_La_pad_29 (by decide) ?_
            exact W.iret (v := 0) hx hb hr (fun t9 ht hW => ⟨⟨0, V_7, rfl, ⟨b1, _, (vp_updL g 0 r_4.toInt64), by rw [← hV_V_7]; exact W_out hW1 (by rw [(hF1.2 ou _ hou hlo).2]; exact hlo), hou'V_7, by rw [← hV_V_7]; exact lo_of hF1 hou hlo, (Or.inr (Or.inr (Or.inr (Or.inr (Or.inr ⟨hg, hg2, hk2, hk1, hth, rfl, rfl, by rw [uL0, e_r_4]⟩)))))⟩, mB_of ht hV⟩, hS.F ht⟩) hS.2.2 d_La_pad_30
        · refine hx_callCatchL (E := xG) (hx_runV (As := [.int part, .int net, .int dx, .int dy]) (rest := [.int 0, .ref ou]) ⟨hx, hb, hml, hown, hts⟩ (t_Ho_pad4 l hls D N0 k V b σ hW0.1 part net dx dy hg hg2 hk2 hk1) (cwV 4 hts (gi_Vw wm_La_15 wv_Ho_pad ws_Ho_pad wi_Ho wc_Ho_pad) rfl rfl rfl (by decide +kernel) ⟨Nat.le_of_ble_eq_true rfl, Nat.le_of_ble_eq_true rfl⟩) (mP.preV hG hS hV hW0.1.ho rfl) rfl rfl hl.1 rfl (lv_room (Nat.le_of_ble_eq_true rfl)) d_La_pad_9 ⟨Nat.le_of_ble_eq_true rfl, Nat.le_of_ble_eq_true rfl⟩) hS hown hN (by decide +kernel) [(⟨0, 14, 17, 19⟩, xX)] ⟨0, 14, 21, 13⟩ [⟨0, 14, 25, 21⟩] (by rw [htab]; rfl) (by intro q hq; simp only [List.mem_cons, List.not_mem_nil, or_false] at hq; rcases hq with rfl <;> exact ⟨by decide, hW _ (by first | exact wk_La_19), by decide +kernel⟩) rfl (by decide) (hW _ wk_La_13) (fun q_8 H locs hV hS => ?_)
          refine lv_astore (lv' := [(6, .ref q_8), (0, .ref b.ho), (1, .int part), (2, .int net), (3, .int dx), (4, .int dy), (5, .ref ou)]) hx hb d_La_pad_21 hl (by decide) rfl (fun ls hl => ?_)
          refine lv_iconst (v := 2) hx hb d_La_pad_23 (by decide) ?_
          refine W.widen (k := 2) (n := 11) (by omega) (by omega) ?_
          exact W.iret (v := 2) hx hb hr (fun t9 ht hW => ⟨⟨2, V, rfl, ⟨b, σ, g, hW0, hou, lo_rf, (Or.inr (Or.inr (Or.inr (Or.inl ⟨hg, hg2, hk2, hk1, rfl, rfl⟩))))⟩, mB_of ht hV⟩, hS.F ht⟩) hS.2.2 d_La_pad_24
      · refine hx_callCatchL (E := xG) (hx_runV (As := [.int part, .int net, .int dx, .int dy]) (rest := [.int 0, .ref ou]) ⟨hx, hb, hml, hown, hts⟩ (t_Ho_pad3 l hls D N0 k V b σ hW0.1 part net dx dy hg hg2 hk2) (cwV 4 hts (gi_Vw wm_La_15 wv_Ho_pad ws_Ho_pad wi_Ho wc_Ho_pad) rfl rfl rfl (by decide +kernel) ⟨Nat.le_of_ble_eq_true rfl, Nat.le_of_ble_eq_true rfl⟩) (mP.preV hG hS hV hW0.1.ho rfl) rfl rfl hl.1 rfl (lv_room (Nat.le_of_ble_eq_true rfl)) d_La_pad_9 ⟨Nat.le_of_ble_eq_true rfl, Nat.le_of_ble_eq_true rfl⟩) hS hown hN (by decide +kernel) [(⟨0, 14, 17, 19⟩, xX)] ⟨0, 14, 21, 13⟩ [⟨0, 14, 25, 21⟩] (by rw [htab]; rfl) (by intro q hq; simp only [List.mem_cons, List.not_mem_nil, or_false] at hq; rcases hq with rfl <;> exact ⟨by decide, hW _ (by first | exact wk_La_19), by decide +kernel⟩) rfl (by decide) (hW _ wk_La_13) (fun q_9 H locs hV hS => ?_)
        refine lv_astore (lv' := [(6, .ref q_9), (0, .ref b.ho), (1, .int part), (2, .int net), (3, .int dx), (4, .int dy), (5, .ref ou)]) hx hb d_La_pad_21 hl (by decide) rfl (fun ls hl => ?_)
        refine lv_iconst (v := 2) hx hb d_La_pad_23 (by decide) ?_
        refine W.widen (k := 2) (n := 11) (by omega) (by omega) ?_
        exact W.iret (v := 2) hx hb hr (fun t9 ht hW => ⟨⟨2, V, rfl, ⟨b, σ, g, hW0, hou, lo_rf, (Or.inr (Or.inr (Or.inl ⟨hg, hg2, hk2, rfl, rfl⟩)))⟩, mB_of ht hV⟩, hS.F ht⟩) hS.2.2 d_La_pad_24
set_option maxHeartbeats 4000000 in
set_option maxRecDepth 100000 in
/-- via -/
theorem c_La_via (l : Launch) (hls : l.stackTraces = false) (D : va_G) (N0 : Nat) (k : Nat → Nat) (V : HV) (b : HA) (σ : HS) (hW0 : hsW k V b σ) (ou : Nat) (g : Nat → Int64) (hou : V ou = some (eL k 1 g)) (hlo : 9999 < b.lb ou) (net x y : Int32) : Met l y_La_via (.codeWith y_La_via b_La_via 6 (some .int) [(0, 12, 15, 19), (0, 12, 19, 13)] :: WS) ({ frames := 8, cells := 2, slots := 11, locals := 141 }) (mPx D N0 k [.ref b.ho, .int net, .int x, .int y, .ref ou] V) (va_Qi (fun r V' => ∃ b' σ' g', hsW k V' b' σ' ∧ V' ou = some (eL k 1 g') ∧ loFr b b' ou V V' ∧ viaR σ net x y r (g' 0) σ') (mB D N0) (hA N0)) 2 11 (hA N0) := by
  refine hx_MetW (cc := b_La_via) (maxL := 6) (ret := (some .int)) (hh := [(0, 12, 15, 19), (0, 12, 19, 13)]) (by decide) rfl ?_
  intro p e s m args below meth c s₁ B hml htab hv0
  obtain ⟨rfl, ⟨hG, hN⟩, hV⟩ := hv0
  have hx := B.exec
  have hb := B.bytes
  have hr := B.returns
  have hts := atoms_spec (ws := .codeWith y_La_via b_La_via 6 (some .int) [(0, 12, 15, 19), (0, 12, 19, 13)] :: WS) B.pre
  have hW : ∀ w ∈ WS, w.before _ s = true := fun w h => hts w (List.mem_cons_of_mem _ h)
  have hown : s.vm.findClass "BoardHouseLaw" = some m.cls := findClass_of_methodNamed B.named
  have hlocks := B.notSynchronized
  have hS : va_S (hA N0) s.heap s.heap [] := va_S.rf
  have hl := lv_entry ([.ref b.ho, .int net, .int x, .int y, .ref ou]) (n := 6) (Nat.le_of_ble_eq_true rfl)
  rw [lg_entry_eq]
  generalize (lg_sl ([.ref b.ho, .int net, .int x, .int y, .ref ou]) ++ List.replicate (6 - (lg_sl ([.ref b.ho, .int net, .int x, .int y, .ref ou])).length) Slot.unset).toArray = ls at hl ⊢
  have hl : lv_has ls 6 [(0, .ref b.ho), (1, .int net), (2, .int x), (3, .int y), (4, .ref ou)] := hl
  refine lv_aload hx hb d_La_via_0 (lv_at hl 4 rfl) ?_
  refine lv_iconst (v := 0) hx hb d_La_via_2 (by decide) ?_
  refine lv_aload_n hx hb d_La_via_3 rfl (lv_at hl 0 rfl) ?_
  refine lv_iload_n hx hb d_La_via_4 rfl (lv_at hl 1 rfl) ?_
  refine lv_iload_n hx hb d_La_via_5 rfl (lv_at hl 2 rfl) ?_
  refine lv_iload_n hx hb d_La_via_6 rfl (lv_at hl 3 rfl) ?_
  cases hg : gvOk σ.G net with
  | false =>
    refine hx_callCatchL (E := xX) (hx_runV (As := [.int net, .int x, .int y]) (rest := [.int 0, .ref ou]) ⟨hx, hb, hml, hown, hts⟩ (t_Ho_via1 l hls D N0 k V b σ hW0.1 net x y hg) (cwV 3 hts (gi_Vw wm_La_23 wv_Ho_via ws_Ho_via wi_Ho wc_Ho_via) rfl rfl rfl (by decide +kernel) ⟨Nat.le_of_ble_eq_true rfl, Nat.le_of_ble_eq_true rfl⟩) (mP.preV hG hS hV hW0.1.ho rfl) rfl rfl hl.1 rfl (lv_room (Nat.le_of_ble_eq_true rfl)) d_La_via_7 ⟨Nat.le_of_ble_eq_true rfl, Nat.le_of_ble_eq_true rfl⟩) hS hown hN (by decide +kernel) [] ⟨0, 12, 15, 19⟩ [⟨0, 12, 19, 13⟩] (by rw [htab]; rfl) (fun q hq => nomatch hq) rfl (by decide) (hW _ wk_La_19) (fun q_1 H locs hV hS => ?_)
    refine lv_astore (lv' := [(5, .ref q_1), (0, .ref b.ho), (1, .int net), (2, .int x), (3, .int y), (4, .ref ou)]) hx hb d_La_via_15 hl (by decide) rfl (fun ls hl => ?_)
    refine lv_iconst (v := 1) hx hb d_La_via_17 (by decide) ?_
    refine W.widen (k := 2) (n := 11) (by omega) (by omega) ?_
    exact W.iret (v := 1) hx hb hr (fun t9 ht hW => ⟨⟨1, V, rfl, ⟨b, σ, g, hW0, hou, lo_rf, (Or.inl ⟨hg, rfl, rfl⟩)⟩, mB_of ht hV⟩, hS.F ht⟩) hS.2.2 d_La_via_18
  | true =>
    by_cases hk1 : net / 1000 = 1
    · refine rc_I (va_runV (As := [.int net, .int x, .int y]) (rest := [.int 0, .ref ou]) ⟨hx, hb, hml, hown, hts⟩ (c_Ho_via l D N0 k V b σ hW0 net x y hg hk1) (cwV 3 hts (gi_Vw wm_La_23 wv_Ho_via ws_Ho_via wi_Ho wc_Ho_via) rfl rfl rfl (by decide +kernel) ⟨Nat.le_of_ble_eq_true rfl, Nat.le_of_ble_eq_true rfl⟩) (mP.preV hG hS hV hW0.1.ho rfl) rfl rfl hl.1 rfl (lv_room (Nat.le_of_ble_eq_true rfl)) d_La_via_7 ⟨Nat.le_of_ble_eq_true rfl, Nat.le_of_ble_eq_true rfl⟩) hS (fun r_2 V_3 H locs hp_4 hV hS => ?_)
      obtain ⟨b1, hW1, hF1, e_r_2⟩ := hp_4
      have hou1 := (hF1.2 ou _ hou hlo).1
      refine lv_i2l hx hb d_La_via_10 rfl ?_
      refine hv_last hx hb hG.K hV hS 1 hou1 rfl ((vp_in_nI (by omega) (by omega) : vp_in (nI 0) 1)) d_La_via_11 (fun H locs hV hS => ?_)
      rw [show (0 : Int32).toNatClampNeg = 0 from rfl] at hV
      replace hV : hv D vwCl N0 (hu V_3 ou (eL k 1 (vp_updL g 0 r_2.toInt64))) H := hV
      generalize hV_V_5 : hu V_3 ou (eL k 1 (vp_updL g 0 r_2.toInt64)) = V_5 at hV
      have hou'V_5 : V_5 ou = some (eL k 1 (vp_updL g 0 r_2.toInt64)) := by rw [← hV_V_5]; exact hu_s
      refine lv_goto (tgt := 23) hx hb d_La_via_12 (by decide) ?_
      refine lv_iconst (v := 0) hx hb d_La_via_23 (by decide) ?_
      exact W.iret (v := 0) hx hb hr (fun t9 ht hW => ⟨⟨0, V_5, rfl, ⟨b1, _, (vp_updL g 0 r_2.toInt64), by rw [← hV_V_5]; exact W_out hW1 (by rw [(hF1.2 ou _ hou hlo).2]; exact hlo), hou'V_5, by rw [← hV_V_5]; exact lo_of hF1 hou hlo, (Or.inr (Or.inr ⟨hg, hk1, rfl, rfl, by rw [uL0, e_r_2]⟩))⟩, mB_of ht hV⟩, hS.F ht⟩) hS.2.2 d_La_via_24
    · refine hx_callCatchL (E := xG) (hx_runV (As := [.int net, .int x, .int y]) (rest := [.int 0, .ref ou]) ⟨hx, hb, hml, hown, hts⟩ (t_Ho_via2 l hls D N0 k V b σ hW0.1 net x y hg hk1) (cwV 3 hts (gi_Vw wm_La_23 wv_Ho_via ws_Ho_via wi_Ho wc_Ho_via) rfl rfl rfl (by decide +kernel) ⟨Nat.le_of_ble_eq_true rfl, Nat.le_of_ble_eq_true rfl⟩) (mP.preV hG hS hV hW0.1.ho rfl) rfl rfl hl.1 rfl (lv_room (Nat.le_of_ble_eq_true rfl)) d_La_via_7 ⟨Nat.le_of_ble_eq_true rfl, Nat.le_of_ble_eq_true rfl⟩) hS hown hN (by decide +kernel) [(⟨0, 12, 15, 19⟩, xX)] ⟨0, 12, 19, 13⟩ [] (by rw [htab]; rfl) (by intro q hq; simp only [List.mem_cons, List.not_mem_nil, or_false] at hq; rcases hq with rfl <;> exact ⟨by decide, hW _ (by first | exact wk_La_19), by decide +kernel⟩) rfl (by decide) (hW _ wk_La_13) (fun q_6 H locs hV hS => ?_)
      refine lv_astore (lv' := [(5, .ref q_6), (0, .ref b.ho), (1, .int net), (2, .int x), (3, .int y), (4, .ref ou)]) hx hb d_La_via_19 hl (by decide) rfl (fun ls hl => ?_)
      refine lv_iconst (v := 2) hx hb d_La_via_21 (by decide) ?_
      refine W.widen (k := 2) (n := 11) (by omega) (by omega) ?_
      exact W.iret (v := 2) hx hb hr (fun t9 ht hW => ⟨⟨2, V, rfl, ⟨b, σ, g, hW0, hou, lo_rf, (Or.inr (Or.inl ⟨hg, hk1, rfl, rfl⟩))⟩, mB_of ht hV⟩, hS.F ht⟩) hS.2.2 d_La_via_22
set_option maxHeartbeats 4000000 in
set_option maxRecDepth 100000 in
/-- track -/
theorem c_La_track (l : Launch) (hls : l.stackTraces = false) (D : va_G) (N0 : Nat) (k : Nat → Nat) (V : HV) (b : HA) (σ : HS) (hW0 : hsW k V b σ) (ou : Nat) (g : Nat → Int64) (hou : V ou = some (eL k 1 g)) (hlo : 9999 < b.lb ou) (net la x0 y0 x1 y1 : Int32) : Met l y_La_track (.codeWith y_La_track b_La_track 9 (some .int) [(0, 18, 21, 19), (0, 18, 25, 13)] :: WS) ({ frames := 8, cells := 2, slots := 11, locals := 145 }) (mPx D N0 k [.ref b.ho, .int net, .int la, .int x0, .int y0, .int x1, .int y1, .ref ou] V) (va_Qi (fun r V' => ∃ b' σ' g', hsW k V' b' σ' ∧ V' ou = some (eL k 1 g') ∧ loFr b b' ou V V' ∧ trackR σ net la x0 y0 x1 y1 r (g' 0) σ') (mB D N0) (hA N0)) 2 11 (hA N0) := by
  refine hx_MetW (cc := b_La_track) (maxL := 9) (ret := (some .int)) (hh := [(0, 18, 21, 19), (0, 18, 25, 13)]) (by decide) rfl ?_
  intro p e s m args below meth c s₁ B hml htab hv0
  obtain ⟨rfl, ⟨hG, hN⟩, hV⟩ := hv0
  have hx := B.exec
  have hb := B.bytes
  have hr := B.returns
  have hts := atoms_spec (ws := .codeWith y_La_track b_La_track 9 (some .int) [(0, 18, 21, 19), (0, 18, 25, 13)] :: WS) B.pre
  have hW : ∀ w ∈ WS, w.before _ s = true := fun w h => hts w (List.mem_cons_of_mem _ h)
  have hown : s.vm.findClass "BoardHouseLaw" = some m.cls := findClass_of_methodNamed B.named
  have hlocks := B.notSynchronized
  have hS : va_S (hA N0) s.heap s.heap [] := va_S.rf
  have hl := lv_entry ([.ref b.ho, .int net, .int la, .int x0, .int y0, .int x1, .int y1, .ref ou]) (n := 9) (Nat.le_of_ble_eq_true rfl)
  rw [lg_entry_eq]
  generalize (lg_sl ([.ref b.ho, .int net, .int la, .int x0, .int y0, .int x1, .int y1, .ref ou]) ++ List.replicate (9 - (lg_sl ([.ref b.ho, .int net, .int la, .int x0, .int y0, .int x1, .int y1, .ref ou])).length) Slot.unset).toArray = ls at hl ⊢
  have hl : lv_has ls 9 [(0, .ref b.ho), (1, .int net), (2, .int la), (3, .int x0), (4, .int y0), (5, .int x1), (6, .int y1), (7, .ref ou)] := hl
  refine lv_aload hx hb d_La_track_0 (lv_at hl 7 rfl) ?_
  refine lv_iconst (v := 0) hx hb d_La_track_2 (by decide) ?_
  refine lv_aload_n hx hb d_La_track_3 rfl (lv_at hl 0 rfl) ?_
  refine lv_iload_n hx hb d_La_track_4 rfl (lv_at hl 1 rfl) ?_
  refine lv_iload_n hx hb d_La_track_5 rfl (lv_at hl 2 rfl) ?_
  refine lv_iload_n hx hb d_La_track_6 rfl (lv_at hl 3 rfl) ?_
  refine lv_iload hx hb d_La_track_7 (lv_at hl 4 rfl) ?_
  refine lv_iload hx hb d_La_track_9 (lv_at hl 5 rfl) ?_
  refine lv_iload hx hb d_La_track_11 (lv_at hl 6 rfl) ?_
  cases hg : gvOk σ.G net with
  | false =>
    refine hx_callCatchL (E := xX) (hx_runV (As := [.int net, .int la, .int x0, .int y0, .int x1, .int y1]) (rest := [.int 0, .ref ou]) ⟨hx, hb, hml, hown, hts⟩ (t_Ho_track1 l hls D N0 k V b σ hW0.1 net la x0 y0 x1 y1 hg) (cwV 6 hts (gi_Vw wm_La_27 wv_Ho_track ws_Ho_track wi_Ho wc_Ho_track) rfl rfl rfl (by decide +kernel) ⟨Nat.le_of_ble_eq_true rfl, Nat.le_of_ble_eq_true rfl⟩) (mP.preV hG hS hV hW0.1.ho rfl) rfl rfl hl.1 rfl (lv_room (Nat.le_of_ble_eq_true rfl)) d_La_track_13 ⟨Nat.le_of_ble_eq_true rfl, Nat.le_of_ble_eq_true rfl⟩) hS hown hN (by decide +kernel) [] ⟨0, 18, 21, 19⟩ [⟨0, 18, 25, 13⟩] (by rw [htab]; rfl) (fun q hq => nomatch hq) rfl (by decide) (hW _ wk_La_19) (fun q_1 H locs hV hS => ?_)
    refine lv_astore (lv' := [(8, .ref q_1), (0, .ref b.ho), (1, .int net), (2, .int la), (3, .int x0), (4, .int y0), (5, .int x1), (6, .int y1), (7, .ref ou)]) hx hb d_La_track_21 hl (by decide) rfl (fun ls hl => ?_)
    refine lv_iconst (v := 1) hx hb d_La_track_23 (by decide) ?_
    refine W.widen (k := 2) (n := 11) (by omega) (by omega) ?_
    exact W.iret (v := 1) hx hb hr (fun t9 ht hW => ⟨⟨1, V, rfl, ⟨b, σ, g, hW0, hou, lo_rf, (Or.inl ⟨hg, rfl, rfl⟩)⟩, mB_of ht hV⟩, hS.F ht⟩) hS.2.2 d_La_track_24
  | true =>
    cases hla : (decide (0 ≤ la) && !decide (nI σ.nl ≤ la)) with
    | false =>
      refine hx_callCatchL (E := xX) (hx_runV (As := [.int net, .int la, .int x0, .int y0, .int x1, .int y1]) (rest := [.int 0, .ref ou]) ⟨hx, hb, hml, hown, hts⟩ (t_Ho_track2 l hls D N0 k V b σ hW0.1 net la x0 y0 x1 y1 hg hla) (cwV 6 hts (gi_Vw wm_La_27 wv_Ho_track ws_Ho_track wi_Ho wc_Ho_track) rfl rfl rfl (by decide +kernel) ⟨Nat.le_of_ble_eq_true rfl, Nat.le_of_ble_eq_true rfl⟩) (mP.preV hG hS hV hW0.1.ho rfl) rfl rfl hl.1 rfl (lv_room (Nat.le_of_ble_eq_true rfl)) d_La_track_13 ⟨Nat.le_of_ble_eq_true rfl, Nat.le_of_ble_eq_true rfl⟩) hS hown hN (by decide +kernel) [] ⟨0, 18, 21, 19⟩ [⟨0, 18, 25, 13⟩] (by rw [htab]; rfl) (fun q hq => nomatch hq) rfl (by decide) (hW _ wk_La_19) (fun q_2 H locs hV hS => ?_)
      refine lv_astore (lv' := [(8, .ref q_2), (0, .ref b.ho), (1, .int net), (2, .int la), (3, .int x0), (4, .int y0), (5, .int x1), (6, .int y1), (7, .ref ou)]) hx hb d_La_track_21 hl (by decide) rfl (fun ls hl => ?_)
      refine lv_iconst (v := 1) hx hb d_La_track_23 (by decide) ?_
      refine W.widen (k := 2) (n := 11) (by omega) (by omega) ?_
      exact W.iret (v := 1) hx hb hr (fun t9 ht hW => ⟨⟨1, V, rfl, ⟨b, σ, g, hW0, hou, lo_rf, (Or.inr (Or.inl ⟨hg, hla, rfl, rfl⟩))⟩, mB_of ht hV⟩, hS.F ht⟩) hS.2.2 d_La_track_24
    | true =>
      by_cases hk1 : net / 1000 = 1
      · cases hok : (decide (x0 = x1) || decide (y0 = y1)) with
        | false =>
          refine hx_callCatchL (E := xG) (hx_runV (As := [.int net, .int la, .int x0, .int y0, .int x1, .int y1]) (rest := [.int 0, .ref ou]) ⟨hx, hb, hml, hown, hts⟩ (t_Ho_track4 l hls D N0 k V b σ hW0.1 net la x0 y0 x1 y1 hg hla hk1 hok) (cwV 6 hts (gi_Vw wm_La_27 wv_Ho_track ws_Ho_track wi_Ho wc_Ho_track) rfl rfl rfl (by decide +kernel) ⟨Nat.le_of_ble_eq_true rfl, Nat.le_of_ble_eq_true rfl⟩) (mP.preV hG hS hV hW0.1.ho rfl) rfl rfl hl.1 rfl (lv_room (Nat.le_of_ble_eq_true rfl)) d_La_track_13 ⟨Nat.le_of_ble_eq_true rfl, Nat.le_of_ble_eq_true rfl⟩) hS hown hN (by decide +kernel) [(⟨0, 18, 21, 19⟩, xX)] ⟨0, 18, 25, 13⟩ [] (by rw [htab]; rfl) (by intro q hq; simp only [List.mem_cons, List.not_mem_nil, or_false] at hq; rcases hq with rfl <;> exact ⟨by decide, hW _ (by first | exact wk_La_19), by decide +kernel⟩) rfl (by decide) (hW _ wk_La_13) (fun q_3 H locs hV hS => ?_)
          refine lv_astore (lv' := [(8, .ref q_3), (0, .ref b.ho), (1, .int net), (2, .int la), (3, .int x0), (4, .int y0), (5, .int x1), (6, .int y1), (7, .ref ou)]) hx hb d_La_track_25 hl (by decide) rfl (fun ls hl => ?_)
          refine lv_iconst (v := 2) hx hb d_La_track_27 (by decide) ?_
          refine W.widen (k := 2) (n := 11) (by omega) (by omega) ?_
          exact W.iret (v := 2) hx hb hr (fun t9 ht hW => ⟨⟨2, V, rfl, ⟨b, σ, g, hW0, hou, lo_rf, (Or.inr (Or.inr (Or.inr (Or.inl ⟨hg, hla, hk1, hok, rfl, rfl⟩))))⟩, mB_of ht hV⟩, hS.F ht⟩) hS.2.2 d_La_track_28
        | true =>
          refine rc_I (va_runV (As := [.int net, .int la, .int x0, .int y0, .int x1, .int y1]) (rest := [.int 0, .ref ou]) ⟨hx, hb, hml, hown, hts⟩ (c_Ho_track l D N0 k V b σ hW0 net la x0 y0 x1 y1 hg hla hk1 hok) (cwV 6 hts (gi_Vw wm_La_27 wv_Ho_track ws_Ho_track wi_Ho wc_Ho_track) rfl rfl rfl (by decide +kernel) ⟨Nat.le_of_ble_eq_true rfl, Nat.le_of_ble_eq_true rfl⟩) (mP.preV hG hS hV hW0.1.ho rfl) rfl rfl hl.1 rfl (lv_room (Nat.le_of_ble_eq_true rfl)) d_La_track_13 ⟨Nat.le_of_ble_eq_true rfl, Nat.le_of_ble_eq_true rfl⟩) hS (fun r_4 V_5 H locs hp_6 hV hS => ?_)
          obtain ⟨b1, hW1, hF1, e_r_4⟩ := hp_6
          have hou1 := (hF1.2 ou _ hou hlo).1
          refine lv_i2l hx hb d_La_track_16 rfl ?_
          refine hv_last hx hb hG.K hV hS 1 hou1 rfl ((vp_in_nI (by omega) (by omega) : vp_in (nI 0) 1)) d_La_track_17 (fun H locs hV hS => ?_)
          rw [show (0 : Int32).toNatClampNeg = 0 from rfl] at hV
          replace hV : hv D vwCl N0 (hu V_5 ou (eL k 1 (vp_updL g 0 r_4.toInt64))) H := hV
          generalize hV_V_7 : hu V_5 ou (eL k 1 (vp_updL g 0 r_4.toInt64)) = V_7 at hV
          have hou'V_7 : V_7 ou = some (eL k 1 (vp_updL g 0 r_4.toInt64)) := by rw [← hV_V_7]; exact hu_s
          refine lv_goto (tgt := 29) hx hb d_La_track_18 (by decide) ?_
          refine lv_iconst (v := 0) hx hb d_La_track_29 (by decide) ?_
          exact W.iret (v := 0) hx hb hr (fun t9 ht hW => ⟨⟨0, V_7, rfl, ⟨b1, _, (vp_updL g 0 r_4.toInt64), by rw [← hV_V_7]; exact W_out hW1 (by rw [(hF1.2 ou _ hou hlo).2]; exact hlo), hou'V_7, by rw [← hV_V_7]; exact lo_of hF1 hou hlo, (Or.inr (Or.inr (Or.inr (Or.inr ⟨hg, hla, hk1, hok, rfl, rfl, by rw [uL0, e_r_4]⟩))))⟩, mB_of ht hV⟩, hS.F ht⟩) hS.2.2 d_La_track_30
      · refine hx_callCatchL (E := xG) (hx_runV (As := [.int net, .int la, .int x0, .int y0, .int x1, .int y1]) (rest := [.int 0, .ref ou]) ⟨hx, hb, hml, hown, hts⟩ (t_Ho_track3 l hls D N0 k V b σ hW0.1 net la x0 y0 x1 y1 hg hla hk1) (cwV 6 hts (gi_Vw wm_La_27 wv_Ho_track ws_Ho_track wi_Ho wc_Ho_track) rfl rfl rfl (by decide +kernel) ⟨Nat.le_of_ble_eq_true rfl, Nat.le_of_ble_eq_true rfl⟩) (mP.preV hG hS hV hW0.1.ho rfl) rfl rfl hl.1 rfl (lv_room (Nat.le_of_ble_eq_true rfl)) d_La_track_13 ⟨Nat.le_of_ble_eq_true rfl, Nat.le_of_ble_eq_true rfl⟩) hS hown hN (by decide +kernel) [(⟨0, 18, 21, 19⟩, xX)] ⟨0, 18, 25, 13⟩ [] (by rw [htab]; rfl) (by intro q hq; simp only [List.mem_cons, List.not_mem_nil, or_false] at hq; rcases hq with rfl <;> exact ⟨by decide, hW _ (by first | exact wk_La_19), by decide +kernel⟩) rfl (by decide) (hW _ wk_La_13) (fun q_8 H locs hV hS => ?_)
        refine lv_astore (lv' := [(8, .ref q_8), (0, .ref b.ho), (1, .int net), (2, .int la), (3, .int x0), (4, .int y0), (5, .int x1), (6, .int y1), (7, .ref ou)]) hx hb d_La_track_25 hl (by decide) rfl (fun ls hl => ?_)
        refine lv_iconst (v := 2) hx hb d_La_track_27 (by decide) ?_
        refine W.widen (k := 2) (n := 11) (by omega) (by omega) ?_
        exact W.iret (v := 2) hx hb hr (fun t9 ht hW => ⟨⟨2, V, rfl, ⟨b, σ, g, hW0, hou, lo_rf, (Or.inr (Or.inr (Or.inl ⟨hg, hla, hk1, rfl, rfl⟩)))⟩, mB_of ht hV⟩, hS.F ht⟩) hS.2.2 d_La_track_28
set_option maxHeartbeats 4000000 in
set_option maxRecDepth 100000 in
/-- plane -/
theorem c_La_plane (l : Launch) (hls : l.stackTraces = false) (D : va_G) (N0 : Nat) (k : Nat → Nat) (V : HV) (b : HA) (σ : HS) (hW0 : hsW k V b σ) (ou : Nat) (g : Nat → Int64) (hou : V ou = some (eL k 1 g)) (hlo : 9999 < b.lb ou) (net la : Int32) : Met l y_La_plane (.codeWith y_La_plane b_La_plane 5 (some .int) [(0, 10, 13, 19), (0, 10, 17, 13)] :: WS) ({ frames := 8, cells := 2, slots := 11, locals := 140 }) (mPx D N0 k [.ref b.ho, .int net, .int la, .ref ou] V) (va_Qi (fun r V' => ∃ b' σ' g', hsW k V' b' σ' ∧ V' ou = some (eL k 1 g') ∧ loFr b b' ou V V' ∧ planeR σ net la r (g' 0) σ') (mB D N0) (hA N0)) 2 11 (hA N0) := by
  refine hx_MetW (cc := b_La_plane) (maxL := 5) (ret := (some .int)) (hh := [(0, 10, 13, 19), (0, 10, 17, 13)]) (by decide) rfl ?_
  intro p e s m args below meth c s₁ B hml htab hv0
  obtain ⟨rfl, ⟨hG, hN⟩, hV⟩ := hv0
  have hx := B.exec
  have hb := B.bytes
  have hr := B.returns
  have hts := atoms_spec (ws := .codeWith y_La_plane b_La_plane 5 (some .int) [(0, 10, 13, 19), (0, 10, 17, 13)] :: WS) B.pre
  have hW : ∀ w ∈ WS, w.before _ s = true := fun w h => hts w (List.mem_cons_of_mem _ h)
  have hown : s.vm.findClass "BoardHouseLaw" = some m.cls := findClass_of_methodNamed B.named
  have hlocks := B.notSynchronized
  have hS : va_S (hA N0) s.heap s.heap [] := va_S.rf
  have hl := lv_entry ([.ref b.ho, .int net, .int la, .ref ou]) (n := 5) (Nat.le_of_ble_eq_true rfl)
  rw [lg_entry_eq]
  generalize (lg_sl ([.ref b.ho, .int net, .int la, .ref ou]) ++ List.replicate (5 - (lg_sl ([.ref b.ho, .int net, .int la, .ref ou])).length) Slot.unset).toArray = ls at hl ⊢
  have hl : lv_has ls 5 [(0, .ref b.ho), (1, .int net), (2, .int la), (3, .ref ou)] := hl
  refine lv_aload_n hx hb d_La_plane_0 rfl (lv_at hl 3 rfl) ?_
  refine lv_iconst (v := 0) hx hb d_La_plane_1 (by decide) ?_
  refine lv_aload_n hx hb d_La_plane_2 rfl (lv_at hl 0 rfl) ?_
  refine lv_iload_n hx hb d_La_plane_3 rfl (lv_at hl 1 rfl) ?_
  refine lv_iload_n hx hb d_La_plane_4 rfl (lv_at hl 2 rfl) ?_
  cases hg : gvOk σ.G net with
  | false =>
    refine hx_callCatchL (E := xX) (hx_runV (As := [.int net, .int la]) (rest := [.int 0, .ref ou]) ⟨hx, hb, hml, hown, hts⟩ (t_Ho_plane1 l hls D N0 k V b σ hW0.1 net la hg) (cwV 2 hts (gi_Vw wm_La_31 wv_Ho_plane ws_Ho_plane wi_Ho wc_Ho_plane) rfl rfl rfl (by decide +kernel) ⟨Nat.le_of_ble_eq_true rfl, Nat.le_of_ble_eq_true rfl⟩) (mP.preV hG hS hV hW0.1.ho rfl) rfl rfl hl.1 rfl (lv_room (Nat.le_of_ble_eq_true rfl)) d_La_plane_5 ⟨Nat.le_of_ble_eq_true rfl, Nat.le_of_ble_eq_true rfl⟩) hS hown hN (by decide +kernel) [] ⟨0, 10, 13, 19⟩ [⟨0, 10, 17, 13⟩] (by rw [htab]; rfl) (fun q hq => nomatch hq) rfl (by decide) (hW _ wk_La_19) (fun q_1 H locs hV hS => ?_)
    refine lv_astore (lv' := [(4, .ref q_1), (0, .ref b.ho), (1, .int net), (2, .int la), (3, .ref ou)]) hx hb d_La_plane_13 hl (by decide) rfl (fun ls hl => ?_)
    refine lv_iconst (v := 1) hx hb d_La_plane_15 (by decide) ?_
    refine W.widen (k := 2) (n := 11) (by omega) (by omega) ?_
    exact W.iret (v := 1) hx hb hr (fun t9 ht hW => ⟨⟨1, V, rfl, ⟨b, σ, g, hW0, hou, lo_rf, (Or.inl ⟨hg, rfl, rfl⟩)⟩, mB_of ht hV⟩, hS.F ht⟩) hS.2.2 d_La_plane_16
  | true =>
    cases hla : (decide (0 ≤ la) && !decide (nI σ.nl ≤ la)) with
    | false =>
      refine hx_callCatchL (E := xX) (hx_runV (As := [.int net, .int la]) (rest := [.int 0, .ref ou]) ⟨hx, hb, hml, hown, hts⟩ (t_Ho_plane2 l hls D N0 k V b σ hW0.1 net la hg hla) (cwV 2 hts (gi_Vw wm_La_31 wv_Ho_plane ws_Ho_plane wi_Ho wc_Ho_plane) rfl rfl rfl (by decide +kernel) ⟨Nat.le_of_ble_eq_true rfl, Nat.le_of_ble_eq_true rfl⟩) (mP.preV hG hS hV hW0.1.ho rfl) rfl rfl hl.1 rfl (lv_room (Nat.le_of_ble_eq_true rfl)) d_La_plane_5 ⟨Nat.le_of_ble_eq_true rfl, Nat.le_of_ble_eq_true rfl⟩) hS hown hN (by decide +kernel) [] ⟨0, 10, 13, 19⟩ [⟨0, 10, 17, 13⟩] (by rw [htab]; rfl) (fun q hq => nomatch hq) rfl (by decide) (hW _ wk_La_19) (fun q_2 H locs hV hS => ?_)
      refine lv_astore (lv' := [(4, .ref q_2), (0, .ref b.ho), (1, .int net), (2, .int la), (3, .ref ou)]) hx hb d_La_plane_13 hl (by decide) rfl (fun ls hl => ?_)
      refine lv_iconst (v := 1) hx hb d_La_plane_15 (by decide) ?_
      refine W.widen (k := 2) (n := 11) (by omega) (by omega) ?_
      exact W.iret (v := 1) hx hb hr (fun t9 ht hW => ⟨⟨1, V, rfl, ⟨b, σ, g, hW0, hou, lo_rf, (Or.inr (Or.inl ⟨hg, hla, rfl, rfl⟩))⟩, mB_of ht hV⟩, hS.F ht⟩) hS.2.2 d_La_plane_16
    | true =>
      by_cases hk1 : net / 1000 = 1
      · refine rc_I (va_runV (As := [.int net, .int la]) (rest := [.int 0, .ref ou]) ⟨hx, hb, hml, hown, hts⟩ (c_Ho_plane l D N0 k V b σ hW0 net la hg hla hk1) (cwV 2 hts (gi_Vw wm_La_31 wv_Ho_plane ws_Ho_plane wi_Ho wc_Ho_plane) rfl rfl rfl (by decide +kernel) ⟨Nat.le_of_ble_eq_true rfl, Nat.le_of_ble_eq_true rfl⟩) (mP.preV hG hS hV hW0.1.ho rfl) rfl rfl hl.1 rfl (lv_room (Nat.le_of_ble_eq_true rfl)) d_La_plane_5 ⟨Nat.le_of_ble_eq_true rfl, Nat.le_of_ble_eq_true rfl⟩) hS (fun r_3 V_4 H locs hp_5 hV hS => ?_)
        obtain ⟨b1, hW1, hF1, e_r_3⟩ := hp_5
        have hou1 := (hF1.2 ou _ hou hlo).1
        refine lv_i2l hx hb d_La_plane_8 rfl ?_
        refine hv_last hx hb hG.K hV hS 1 hou1 rfl ((vp_in_nI (by omega) (by omega) : vp_in (nI 0) 1)) d_La_plane_9 (fun H locs hV hS => ?_)
        rw [show (0 : Int32).toNatClampNeg = 0 from rfl] at hV
        replace hV : hv D vwCl N0 (hu V_4 ou (eL k 1 (vp_updL g 0 r_3.toInt64))) H := hV
        generalize hV_V_6 : hu V_4 ou (eL k 1 (vp_updL g 0 r_3.toInt64)) = V_6 at hV
        have hou'V_6 : V_6 ou = some (eL k 1 (vp_updL g 0 r_3.toInt64)) := by rw [← hV_V_6]; exact hu_s
        refine lv_goto (tgt := 21) hx hb d_La_plane_10 (by decide) ?_
        refine lv_iconst (v := 0) hx hb d_La_plane_21 (by decide) ?_
        exact W.iret (v := 0) hx hb hr (fun t9 ht hW => ⟨⟨0, V_6, rfl, ⟨b1, _, (vp_updL g 0 r_3.toInt64), by rw [← hV_V_6]; exact W_out hW1 (by rw [(hF1.2 ou _ hou hlo).2]; exact hlo), hou'V_6, by rw [← hV_V_6]; exact lo_of hF1 hou hlo, (Or.inr (Or.inr (Or.inr ⟨hg, hla, hk1, rfl, rfl, by rw [uL0, e_r_3]⟩)))⟩, mB_of ht hV⟩, hS.F ht⟩) hS.2.2 d_La_plane_22
      · refine hx_callCatchL (E := xG) (hx_runV (As := [.int net, .int la]) (rest := [.int 0, .ref ou]) ⟨hx, hb, hml, hown, hts⟩ (t_Ho_plane3 l hls D N0 k V b σ hW0.1 net la hg hla hk1) (cwV 2 hts (gi_Vw wm_La_31 wv_Ho_plane ws_Ho_plane wi_Ho wc_Ho_plane) rfl rfl rfl (by decide +kernel) ⟨Nat.le_of_ble_eq_true rfl, Nat.le_of_ble_eq_true rfl⟩) (mP.preV hG hS hV hW0.1.ho rfl) rfl rfl hl.1 rfl (lv_room (Nat.le_of_ble_eq_true rfl)) d_La_plane_5 ⟨Nat.le_of_ble_eq_true rfl, Nat.le_of_ble_eq_true rfl⟩) hS hown hN (by decide +kernel) [(⟨0, 10, 13, 19⟩, xX)] ⟨0, 10, 17, 13⟩ [] (by rw [htab]; rfl) (by intro q hq; simp only [List.mem_cons, List.not_mem_nil, or_false] at hq; rcases hq with rfl <;> exact ⟨by decide, hW _ (by first | exact wk_La_19), by decide +kernel⟩) rfl (by decide) (hW _ wk_La_13) (fun q_7 H locs hV hS => ?_)
        refine lv_astore (lv' := [(4, .ref q_7), (0, .ref b.ho), (1, .int net), (2, .int la), (3, .ref ou)]) hx hb d_La_plane_17 hl (by decide) rfl (fun ls hl => ?_)
        refine lv_iconst (v := 2) hx hb d_La_plane_19 (by decide) ?_
        refine W.widen (k := 2) (n := 11) (by omega) (by omega) ?_
        exact W.iret (v := 2) hx hb hr (fun t9 ht hW => ⟨⟨2, V, rfl, ⟨b, σ, g, hW0, hou, lo_rf, (Or.inr (Or.inr (Or.inl ⟨hg, hla, hk1, rfl, rfl⟩)))⟩, mB_of ht hV⟩, hS.F ht⟩) hS.2.2 d_La_plane_20
set_option maxHeartbeats 4000000 in
set_option maxRecDepth 100000 in
/-- move -/
theorem c_La_move (l : Launch) (hls : l.stackTraces = false) (D : va_G) (N0 : Nat) (k : Nat → Nat) (V : HV) (b : HA) (σ : HS) (hW0 : hsW k V b σ) (ou : Nat) (g : Nat → Int64) (hou : V ou = some (eL k 1 g)) (hlo : 9999 < b.lb ou) (part x y : Int32) : Met l y_La_move (.codeWith y_La_move b_La_move 6 (some .int) [(0, 19, 22, 19), (0, 19, 26, 13), (0, 19, 30, 21)] :: WS) ({ frames := 8, cells := 1, slots := 6, locals := 147 }) (mPx D N0 k [.ref b.ho, .int part, .int x, .int y, .ref ou] V) (va_Qi (fun r V' => ∃ b' σ' g', hsW k V' b' σ' ∧ V' ou = some (eL k 1 g') ∧ loFr b b' ou V V' ∧ moveR σ part x y r (g' 0) σ') (mB D N0) (hA N0)) 1 6 (hA N0) := by
  refine hx_MetW (cc := b_La_move) (maxL := 6) (ret := (some .int)) (hh := [(0, 19, 22, 19), (0, 19, 26, 13), (0, 19, 30, 21)]) (by decide) rfl ?_
  intro p e s m args below meth c s₁ B hml htab hv0
  obtain ⟨rfl, ⟨hG, hN⟩, hV⟩ := hv0
  have hx := B.exec
  have hb := B.bytes
  have hr := B.returns
  have hts := atoms_spec (ws := .codeWith y_La_move b_La_move 6 (some .int) [(0, 19, 22, 19), (0, 19, 26, 13), (0, 19, 30, 21)] :: WS) B.pre
  have hW : ∀ w ∈ WS, w.before _ s = true := fun w h => hts w (List.mem_cons_of_mem _ h)
  have hown : s.vm.findClass "BoardHouseLaw" = some m.cls := findClass_of_methodNamed B.named
  have hlocks := B.notSynchronized
  have hS : va_S (hA N0) s.heap s.heap [] := va_S.rf
  have hl := lv_entry ([.ref b.ho, .int part, .int x, .int y, .ref ou]) (n := 6) (Nat.le_of_ble_eq_true rfl)
  rw [lg_entry_eq]
  generalize (lg_sl ([.ref b.ho, .int part, .int x, .int y, .ref ou]) ++ List.replicate (6 - (lg_sl ([.ref b.ho, .int part, .int x, .int y, .ref ou])).length) Slot.unset).toArray = ls at hl ⊢
  have hl : lv_has ls 6 [(0, .ref b.ho), (1, .int part), (2, .int x), (3, .int y), (4, .ref ou)] := hl
  refine lv_aload hx hb d_La_move_0 (lv_at hl 4 rfl) ?_
  refine lv_iconst (v := 0) hx hb d_La_move_2 (by decide) ?_
  refine lv_aload_n hx hb d_La_move_3 rfl (lv_at hl 0 rfl) ?_
  refine lv_iload_n hx hb d_La_move_4 rfl (lv_at hl 1 rfl) ?_
  refine lv_iload_n hx hb d_La_move_5 rfl (lv_at hl 2 rfl) ?_
  refine lv_iload_n hx hb d_La_move_6 rfl (lv_at hl 3 rfl) ?_
  cases hg : gvOk σ.G part with
  | false =>
    refine hx_callCatchL (E := xX) (hx_runV (As := [.int part, .int x, .int y]) (rest := [.int 0, .ref ou]) ⟨hx, hb, hml, hown, hts⟩ (t_Ho_move1 l hls D N0 k V b σ hW0.1 part x y hg) (cwV 3 hts (gi_Vw wm_La_35 wv_Ho_move ws_Ho_move wi_Ho wc_Ho_move) rfl rfl rfl (by decide +kernel) ⟨Nat.le_of_ble_eq_true rfl, Nat.le_of_ble_eq_true rfl⟩) (mP.preV hG hS hV hW0.1.ho rfl) rfl rfl hl.1 rfl (lv_room (Nat.le_of_ble_eq_true rfl)) d_La_move_7 ⟨Nat.le_of_ble_eq_true rfl, Nat.le_of_ble_eq_true rfl⟩) hS hown hN (by decide +kernel) [] ⟨0, 19, 22, 19⟩ [⟨0, 19, 26, 13⟩, ⟨0, 19, 30, 21⟩] (by rw [htab]; rfl) (fun q hq => nomatch hq) rfl (by decide) (hW _ wk_La_19) (fun q_1 H locs hV hS => ?_)
    refine lv_astore (lv' := [(5, .ref q_1), (0, .ref b.ho), (1, .int part), (2, .int x), (3, .int y), (4, .ref ou)]) hx hb d_La_move_22 hl (by decide) rfl (fun ls hl => ?_)
    refine lv_iconst (v := 1) hx hb d_La_move_24 (by decide) ?_
    exact W.iret (v := 1) hx hb hr (fun t9 ht hW => ⟨⟨1, V, rfl, ⟨b, σ, g, hW0, hou, lo_rf, (Or.inl ⟨hg, rfl, rfl⟩)⟩, mB_of ht hV⟩, hS.F ht⟩) hS.2.2 d_La_move_25
  | true =>
    by_cases hk2 : part / 1000 = 2
    · by_cases hth : σ.T (hdI part) 5 = 0
      · refine hx_callCatchL (E := xS) (hx_runV (As := [.int part, .int x, .int y]) (rest := [.int 0, .ref ou]) ⟨hx, hb, hml, hown, hts⟩ (t_Ho_move3 l hls D N0 k V b σ hW0 part x y hg hk2 hth) (cwV 3 hts (gi_Vw wm_La_35 wv_Ho_move ws_Ho_move wi_Ho wc_Ho_move) rfl rfl rfl (by decide +kernel) ⟨Nat.le_of_ble_eq_true rfl, Nat.le_of_ble_eq_true rfl⟩) (mP.preV hG hS hV hW0.1.ho rfl) rfl rfl hl.1 rfl (lv_room (Nat.le_of_ble_eq_true rfl)) d_La_move_7 ⟨Nat.le_of_ble_eq_true rfl, Nat.le_of_ble_eq_true rfl⟩) hS hown hN (by decide +kernel) [(⟨0, 19, 22, 19⟩, xX), (⟨0, 19, 26, 13⟩, xG)] ⟨0, 19, 30, 21⟩ [] (by rw [htab]; rfl) (by intro q hq; simp only [List.mem_cons, List.not_mem_nil, or_false] at hq; rcases hq with rfl | rfl <;> exact ⟨by decide, hW _ (by first | exact wk_La_19 | exact wk_La_13), by decide +kernel⟩) rfl (by decide) (hW _ wk_La_21) (fun q_2 H locs hV hS => ?_)
        refine lv_astore (lv' := [(5, .ref q_2), (0, .ref b.ho), (1, .int part), (2, .int x), (3, .int y), (4, .ref ou)]) hx hb d_La_move_30 hl (by decide) rfl (fun ls hl => ?_)
        refine lv_iconst (v := 3) hx hb d_La_move_32 (by decide) ?_
        exact W.iret (v := 3) hx hb hr (fun t9 ht hW => ⟨⟨3, V, rfl, ⟨b, σ, g, hW0, hou, lo_rf, (Or.inr (Or.inr (Or.inl ⟨hg, hk2, hth, rfl, rfl⟩)))⟩, mB_of ht hV⟩, hS.F ht⟩) hS.2.2 d_La_move_33
      · refine rc_I (va_runV (As := [.int part, .int x, .int y]) (rest := [.int 0, .ref ou]) ⟨hx, hb, hml, hown, hts⟩ (c_Ho_move l D N0 k V b σ hW0 part x y hg hk2 hth) (cwV 3 hts (gi_Vw wm_La_35 wv_Ho_move ws_Ho_move wi_Ho wc_Ho_move) rfl rfl rfl (by decide +kernel) ⟨Nat.le_of_ble_eq_true rfl, Nat.le_of_ble_eq_true rfl⟩) (mP.preV hG hS hV hW0.1.ho rfl) rfl rfl hl.1 rfl (lv_room (Nat.le_of_ble_eq_true rfl)) d_La_move_7 ⟨Nat.le_of_ble_eq_true rfl, Nat.le_of_ble_eq_true rfl⟩) hS (fun r_3 V_4 H locs hp_5 hV hS => ?_)
        obtain ⟨b1, hW1, hF1, e_r_3⟩ := hp_5
        have hou1 := (hF1.2 ou _ hou hlo).1
        refine lv_if_eq (tgt := 17) hx hb d_La_move_10 (by decide) (fun c_6 => ?_) (fun c_6 => ?_)
        · refine lv_lconst (v := 0) hx hb d_La_move_17 (by decide) ?_
          refine hv_last hx hb hG.K hV hS 1 hou1 rfl ((vp_in_nI (by omega) (by omega) : vp_in (nI 0) 1)) d_La_move_18 (fun H locs hV hS => ?_)
          rw [show (0 : Int32).toNatClampNeg = 0 from rfl] at hV
          replace hV : hv D vwCl N0 (hu V_4 ou (eL k 1 (vp_updL g 0 0))) H := hV
          generalize hV_V_7 : hu V_4 ou (eL k 1 (vp_updL g 0 0)) = V_7 at hV
          have hou'V_7 : V_7 ou = some (eL k 1 (vp_updL g 0 0)) := by rw [← hV_V_7]; exact hu_s
          refine lv_goto (tgt := 34) hx hb d_La_move_19 (by decide) ?_
          refine lv_iconst (v := 0) hx hb d_La_move_34 (by decide) ?_
          refine W.widen (k := 1) (n := 6) (by omega) (by omega) ?_
          exact W.iret (v := 0) hx hb hr (fun t9 ht hW => ⟨⟨0, V_7, rfl, ⟨b1, _, (vp_updL g 0 0), by rw [← hV_V_7]; exact W_out hW1 (by rw [(hF1.2 ou _ hou hlo).2]; exact hlo), hou'V_7, by rw [← hV_V_7]; exact lo_of hF1 hou hlo, (Or.inr (Or.inr (Or.inr ⟨hg, hk2, hth, rfl, rfl, by rw [uL0, ← e_r_3, if_pos c_6]⟩)))⟩, mB_of ht hV⟩, hS.F ht⟩) hS.2.2 d_La_move_35
        · refine lv_lconst (v := 1) hx hb d_La_move_13 (by decide) ?_
          refine lv_goto (tgt := 18) hx hb d_La_move_14 (by decide) ?_
          refine hv_last hx hb hG.K hV hS 1 hou1 rfl ((vp_in_nI (by omega) (by omega) : vp_in (nI 0) 1)) d_La_move_18 (fun H locs hV hS => ?_)
          rw [show (0 : Int32).toNatClampNeg = 0 from rfl] at hV
          replace hV : hv D vwCl N0 (hu V_4 ou (eL k 1 (vp_updL g 0 1))) H := hV
          generalize hV_V_8 : hu V_4 ou (eL k 1 (vp_updL g 0 1)) = V_8 at hV
          have hou'V_8 : V_8 ou = some (eL k 1 (vp_updL g 0 1)) := by rw [← hV_V_8]; exact hu_s
          refine lv_goto (tgt := 34) hx hb d_La_move_19 (by decide) ?_
          refine lv_iconst (v := 0) hx hb d_La_move_34 (by decide) ?_
          refine W.widen (k := 1) (n := 6) (by omega) (by omega) ?_
          exact W.iret (v := 0) hx hb hr (fun t9 ht hW => ⟨⟨0, V_8, rfl, ⟨b1, _, (vp_updL g 0 1), by rw [← hV_V_8]; exact W_out hW1 (by rw [(hF1.2 ou _ hou hlo).2]; exact hlo), hou'V_8, by rw [← hV_V_8]; exact lo_of hF1 hou hlo, (Or.inr (Or.inr (Or.inr ⟨hg, hk2, hth, rfl, rfl, by rw [uL0, ← e_r_3, if_neg c_6]⟩)))⟩, mB_of ht hV⟩, hS.F ht⟩) hS.2.2 d_La_move_35
    · refine hx_callCatchL (E := xG) (hx_runV (As := [.int part, .int x, .int y]) (rest := [.int 0, .ref ou]) ⟨hx, hb, hml, hown, hts⟩ (t_Ho_move2 l hls D N0 k V b σ hW0.1 part x y hg hk2) (cwV 3 hts (gi_Vw wm_La_35 wv_Ho_move ws_Ho_move wi_Ho wc_Ho_move) rfl rfl rfl (by decide +kernel) ⟨Nat.le_of_ble_eq_true rfl, Nat.le_of_ble_eq_true rfl⟩) (mP.preV hG hS hV hW0.1.ho rfl) rfl rfl hl.1 rfl (lv_room (Nat.le_of_ble_eq_true rfl)) d_La_move_7 ⟨Nat.le_of_ble_eq_true rfl, Nat.le_of_ble_eq_true rfl⟩) hS hown hN (by decide +kernel) [(⟨0, 19, 22, 19⟩, xX)] ⟨0, 19, 26, 13⟩ [⟨0, 19, 30, 21⟩] (by rw [htab]; rfl) (by intro q hq; simp only [List.mem_cons, List.not_mem_nil, or_false] at hq; rcases hq with rfl <;> exact ⟨by decide, hW _ (by first | exact wk_La_19), by decide +kernel⟩) rfl (by decide) (hW _ wk_La_13) (fun q_9 H locs hV hS => ?_)
      refine lv_astore (lv' := [(5, .ref q_9), (0, .ref b.ho), (1, .int part), (2, .int x), (3, .int y), (4, .ref ou)]) hx hb d_La_move_26 hl (by decide) rfl (fun ls hl => ?_)
      refine lv_iconst (v := 2) hx hb d_La_move_28 (by decide) ?_
      exact W.iret (v := 2) hx hb hr (fun t9 ht hW => ⟨⟨2, V, rfl, ⟨b, σ, g, hW0, hou, lo_rf, (Or.inr (Or.inl ⟨hg, hk2, rfl, rfl⟩))⟩, mB_of ht hV⟩, hS.F ht⟩) hS.2.2 d_La_move_29
set_option maxHeartbeats 4000000 in
set_option maxRecDepth 100000 in
/-- drop -/
theorem c_La_drop (l : Launch) (hls : l.stackTraces = false) (D : va_G) (N0 : Nat) (k : Nat → Nat) (V : HV) (b : HA) (σ : HS) (hW0 : hsW k V b σ) (ou : Nat) (g : Nat → Int64) (hou : V ou = some (eL k 1 g)) (hlo : 9999 < b.lb ou) (h : Int32) : Met l y_La_drop (.codeWith y_La_drop b_La_drop 4 (some .int) [(0, 16, 19, 19), (0, 16, 22, 13), (0, 16, 25, 21)] :: WS) ({ frames := 8, cells := 1, slots := 6, locals := 136 }) (mPx D N0 k [.ref b.ho, .int h, .ref ou] V) (va_Qi (fun r V' => ∃ b' σ' g', hsW k V' b' σ' ∧ V' ou = some (eL k 1 g') ∧ loFr b b' ou V V' ∧ dropR σ h r (g' 0) σ') (mB D N0) (hA N0)) 1 6 (hA N0) := by
  refine hx_MetW (cc := b_La_drop) (maxL := 4) (ret := (some .int)) (hh := [(0, 16, 19, 19), (0, 16, 22, 13), (0, 16, 25, 21)]) (by decide) rfl ?_
  intro p e s m args below meth c s₁ B hml htab hv0
  obtain ⟨rfl, ⟨hG, hN⟩, hV⟩ := hv0
  have hx := B.exec
  have hb := B.bytes
  have hr := B.returns
  have hts := atoms_spec (ws := .codeWith y_La_drop b_La_drop 4 (some .int) [(0, 16, 19, 19), (0, 16, 22, 13), (0, 16, 25, 21)] :: WS) B.pre
  have hW : ∀ w ∈ WS, w.before _ s = true := fun w h => hts w (List.mem_cons_of_mem _ h)
  have hown : s.vm.findClass "BoardHouseLaw" = some m.cls := findClass_of_methodNamed B.named
  have hlocks := B.notSynchronized
  have hS : va_S (hA N0) s.heap s.heap [] := va_S.rf
  have hl := lv_entry ([.ref b.ho, .int h, .ref ou]) (n := 4) (Nat.le_of_ble_eq_true rfl)
  rw [lg_entry_eq]
  generalize (lg_sl ([.ref b.ho, .int h, .ref ou]) ++ List.replicate (4 - (lg_sl ([.ref b.ho, .int h, .ref ou])).length) Slot.unset).toArray = ls at hl ⊢
  have hl : lv_has ls 4 [(0, .ref b.ho), (1, .int h), (2, .ref ou)] := hl
  refine lv_aload_n hx hb d_La_drop_0 rfl (lv_at hl 2 rfl) ?_
  refine lv_iconst (v := 0) hx hb d_La_drop_1 (by decide) ?_
  refine lv_aload_n hx hb d_La_drop_2 rfl (lv_at hl 0 rfl) ?_
  refine lv_iload_n hx hb d_La_drop_3 rfl (lv_at hl 1 rfl) ?_
  cases hg : gvOk σ.G h with
  | false =>
    refine hx_callCatchL (E := xX) (hx_runV (As := [.int h]) (rest := [.int 0, .ref ou]) ⟨hx, hb, hml, hown, hts⟩ (t_Ho_drop1 l hls D N0 k V b σ hW0.1 h hg) (cwV 1 hts (gi_Vw wm_La_39 wv_Ho_drop ws_Ho_drop wi_Ho wc_Ho_drop) rfl rfl rfl (by decide +kernel) ⟨Nat.le_of_ble_eq_true rfl, Nat.le_of_ble_eq_true rfl⟩) (mP.preV hG hS hV hW0.1.ho rfl) rfl rfl hl.1 rfl (lv_room (Nat.le_of_ble_eq_true rfl)) d_La_drop_4 ⟨Nat.le_of_ble_eq_true rfl, Nat.le_of_ble_eq_true rfl⟩) hS hown hN (by decide +kernel) [] ⟨0, 16, 19, 19⟩ [⟨0, 16, 22, 13⟩, ⟨0, 16, 25, 21⟩] (by rw [htab]; rfl) (fun q hq => nomatch hq) rfl (by decide) (hW _ wk_La_19) (fun q_1 H locs hV hS => ?_)
    refine lv_astore_n (lv' := [(3, .ref q_1), (0, .ref b.ho), (1, .int h), (2, .ref ou)]) hx hb d_La_drop_19 rfl hl (by decide) rfl (fun ls hl => ?_)
    refine lv_iconst (v := 1) hx hb d_La_drop_20 (by decide) ?_
    exact W.iret (v := 1) hx hb hr (fun t9 ht hW => ⟨⟨1, V, rfl, ⟨b, σ, g, hW0, hou, lo_rf, (Or.inl ⟨hg, rfl, rfl⟩)⟩, mB_of ht hV⟩, hS.F ht⟩) hS.2.2 d_La_drop_21
  | true =>
    obtain ⟨hK, -, hK1, hK7, -⟩ := gv_of (σ := σ) hW0.2.2.1 hg
    by_cases hk : 2 ≤ hdK h ∧ hdK h ≤ 5
    · by_cases hth : σ.T (hdI h) 5 = 0
      · refine hx_callCatchL (E := xS) (hx_runV (As := [.int h]) (rest := [.int 0, .ref ou]) ⟨hx, hb, hml, hown, hts⟩ (t_Ho_drop3 l hls D N0 k V b σ hW0 h hg hk.1 hk.2 hth) (cwV 1 hts (gi_Vw wm_La_39 wv_Ho_drop ws_Ho_drop wi_Ho wc_Ho_drop) rfl rfl rfl (by decide +kernel) ⟨Nat.le_of_ble_eq_true rfl, Nat.le_of_ble_eq_true rfl⟩) (mP.preV hG hS hV hW0.1.ho rfl) rfl rfl hl.1 rfl (lv_room (Nat.le_of_ble_eq_true rfl)) d_La_drop_4 ⟨Nat.le_of_ble_eq_true rfl, Nat.le_of_ble_eq_true rfl⟩) hS hown hN (by decide +kernel) [(⟨0, 16, 19, 19⟩, xX), (⟨0, 16, 22, 13⟩, xG)] ⟨0, 16, 25, 21⟩ [] (by rw [htab]; rfl) (by intro q hq; simp only [List.mem_cons, List.not_mem_nil, or_false] at hq; rcases hq with rfl | rfl <;> exact ⟨by decide, hW _ (by first | exact wk_La_19 | exact wk_La_13), by decide +kernel⟩) rfl (by decide) (hW _ wk_La_21) (fun q_2 H locs hV hS => ?_)
        refine lv_astore_n (lv' := [(3, .ref q_2), (0, .ref b.ho), (1, .int h), (2, .ref ou)]) hx hb d_La_drop_25 rfl hl (by decide) rfl (fun ls hl => ?_)
        refine lv_iconst (v := 3) hx hb d_La_drop_26 (by decide) ?_
        exact W.iret (v := 3) hx hb hr (fun t9 ht hW => ⟨⟨3, V, rfl, ⟨b, σ, g, hW0, hou, lo_rf, (Or.inr (Or.inr (Or.inl ⟨hg, hk, hth, rfl, rfl⟩)))⟩, mB_of ht hV⟩, hS.F ht⟩) hS.2.2 d_La_drop_27
      · refine rc_I (va_runV (As := [.int h]) (rest := [.int 0, .ref ou]) ⟨hx, hb, hml, hown, hts⟩ (c_Ho_drop l D N0 k V b σ hW0 h hg hk.1 hk.2 hth) (cwV 1 hts (gi_Vw wm_La_39 wv_Ho_drop ws_Ho_drop wi_Ho wc_Ho_drop) rfl rfl rfl (by decide +kernel) ⟨Nat.le_of_ble_eq_true rfl, Nat.le_of_ble_eq_true rfl⟩) (mP.preV hG hS hV hW0.1.ho rfl) rfl rfl hl.1 rfl (lv_room (Nat.le_of_ble_eq_true rfl)) d_La_drop_4 ⟨Nat.le_of_ble_eq_true rfl, Nat.le_of_ble_eq_true rfl⟩) hS (fun r_3 V_4 H locs hp_5 hV hS => ?_)
        obtain ⟨b1, hW1, hF1, e_r_3⟩ := hp_5
        have hou1 := (hF1.2 ou _ hou hlo).1
        refine lv_if_eq (tgt := 14) hx hb d_La_drop_7 (by decide) (fun c_6 => ?_) (fun c_6 => ?_)
        · refine lv_lconst (v := 0) hx hb d_La_drop_14 (by decide) ?_
          refine hv_last hx hb hG.K hV hS 1 hou1 rfl ((vp_in_nI (by omega) (by omega) : vp_in (nI 0) 1)) d_La_drop_15 (fun H locs hV hS => ?_)
          rw [show (0 : Int32).toNatClampNeg = 0 from rfl] at hV
          replace hV : hv D vwCl N0 (hu V_4 ou (eL k 1 (vp_updL g 0 0))) H := hV
          generalize hV_V_7 : hu V_4 ou (eL k 1 (vp_updL g 0 0)) = V_7 at hV
          have hou'V_7 : V_7 ou = some (eL k 1 (vp_updL g 0 0)) := by rw [← hV_V_7]; exact hu_s
          refine lv_goto (tgt := 28) hx hb d_La_drop_16 (by decide) ?_
          refine lv_iconst (v := 0) hx hb d_La_drop_28 (by decide) ?_
          refine W.widen (k := 1) (n := 6) (by omega) (by omega) ?_
          exact W.iret (v := 0) hx hb hr (fun t9 ht hW => ⟨⟨0, V_7, rfl, ⟨b1, _, (vp_updL g 0 0), by rw [← hV_V_7]; exact W_out hW1 (by rw [(hF1.2 ou _ hou hlo).2]; exact hlo), hou'V_7, by rw [← hV_V_7]; exact lo_of hF1 hou hlo, (Or.inr (Or.inr (Or.inr ⟨hg, hk, hth, rfl, rfl, by rw [uL0, ← e_r_3, if_pos c_6]⟩)))⟩, mB_of ht hV⟩, hS.F ht⟩) hS.2.2 d_La_drop_29
        · refine lv_lconst (v := 1) hx hb d_La_drop_10 (by decide) ?_
          refine lv_goto (tgt := 15) hx hb d_La_drop_11 (by decide) ?_
          refine hv_last hx hb hG.K hV hS 1 hou1 rfl ((vp_in_nI (by omega) (by omega) : vp_in (nI 0) 1)) d_La_drop_15 (fun H locs hV hS => ?_)
          rw [show (0 : Int32).toNatClampNeg = 0 from rfl] at hV
          replace hV : hv D vwCl N0 (hu V_4 ou (eL k 1 (vp_updL g 0 1))) H := hV
          generalize hV_V_8 : hu V_4 ou (eL k 1 (vp_updL g 0 1)) = V_8 at hV
          have hou'V_8 : V_8 ou = some (eL k 1 (vp_updL g 0 1)) := by rw [← hV_V_8]; exact hu_s
          refine lv_goto (tgt := 28) hx hb d_La_drop_16 (by decide) ?_
          refine lv_iconst (v := 0) hx hb d_La_drop_28 (by decide) ?_
          refine W.widen (k := 1) (n := 6) (by omega) (by omega) ?_
          exact W.iret (v := 0) hx hb hr (fun t9 ht hW => ⟨⟨0, V_8, rfl, ⟨b1, _, (vp_updL g 0 1), by rw [← hV_V_8]; exact W_out hW1 (by rw [(hF1.2 ou _ hou hlo).2]; exact hlo), hou'V_8, by rw [← hV_V_8]; exact lo_of hF1 hou hlo, (Or.inr (Or.inr (Or.inr ⟨hg, hk, hth, rfl, rfl, by rw [uL0, ← e_r_3, if_neg c_6]⟩)))⟩, mB_of ht hV⟩, hS.F ht⟩) hS.2.2 d_La_drop_29
    · refine hx_callCatchL (E := xG) (hx_runV (As := [.int h]) (rest := [.int 0, .ref ou]) ⟨hx, hb, hml, hown, hts⟩ (t_Ho_drop2 l hls D N0 k V b σ hW0.1 h hg hK hK7 (by omega)) (cwV 1 hts (gi_Vw wm_La_39 wv_Ho_drop ws_Ho_drop wi_Ho wc_Ho_drop) rfl rfl rfl (by decide +kernel) ⟨Nat.le_of_ble_eq_true rfl, Nat.le_of_ble_eq_true rfl⟩) (mP.preV hG hS hV hW0.1.ho rfl) rfl rfl hl.1 rfl (lv_room (Nat.le_of_ble_eq_true rfl)) d_La_drop_4 ⟨Nat.le_of_ble_eq_true rfl, Nat.le_of_ble_eq_true rfl⟩) hS hown hN (by decide +kernel) [(⟨0, 16, 19, 19⟩, xX)] ⟨0, 16, 22, 13⟩ [⟨0, 16, 25, 21⟩] (by rw [htab]; rfl) (by intro q hq; simp only [List.mem_cons, List.not_mem_nil, or_false] at hq; rcases hq with rfl <;> exact ⟨by decide, hW _ (by first | exact wk_La_19), by decide +kernel⟩) rfl (by decide) (hW _ wk_La_13) (fun q_9 H locs hV hS => ?_)
      refine lv_astore_n (lv' := [(3, .ref q_9), (0, .ref b.ho), (1, .int h), (2, .ref ou)]) hx hb d_La_drop_22 rfl hl (by decide) rfl (fun ls hl => ?_)
      refine lv_iconst (v := 2) hx hb d_La_drop_23 (by decide) ?_
      exact W.iret (v := 2) hx hb hr (fun t9 ht hW => ⟨⟨2, V, rfl, ⟨b, σ, g, hW0, hou, lo_rf, (Or.inr (Or.inl ⟨hg, hk, rfl, rfl⟩))⟩, mB_of ht hV⟩, hS.F ht⟩) hS.2.2 d_La_drop_24
set_option maxHeartbeats 4000000 in
set_option maxRecDepth 100000 in
/-- gap -/
theorem c_La_gap (l : Launch) (hls : l.stackTraces = false) (D : va_G) (N0 : Nat) (k : Nat → Nat) (V : HV) (b : HA) (σ : HS) (hW0 : hsW k V b σ) (ou : Nat) (g : Nat → Int64) (hou : V ou = some (eL k 1 g)) (hlo : 9999 < b.lb ou) (v : Int32) : Met l y_La_gap (.codeWith y_La_gap b_La_gap 4 (some .int) [(0, 9, 12, 13)] :: WS) ({ frames := 7, cells := 1, slots := 6, locals := 112 }) (mPx D N0 k [.ref b.ho, .int v, .ref ou] V) (va_Qi (fun r V' => ∃ b' σ' g', hsW k V' b' σ' ∧ V' ou = some (eL k 1 g') ∧ loFr b b' ou V V' ∧ gapR σ v r (g' 0) σ') (mB D N0) (hA N0)) 1 6 (hA N0) := by
  refine hx_MetW (cc := b_La_gap) (maxL := 4) (ret := (some .int)) (hh := [(0, 9, 12, 13)]) (by decide) rfl ?_
  intro p e s m args below meth c s₁ B hml htab hv0
  obtain ⟨rfl, ⟨hG, hN⟩, hV⟩ := hv0
  have hx := B.exec
  have hb := B.bytes
  have hr := B.returns
  have hts := atoms_spec (ws := .codeWith y_La_gap b_La_gap 4 (some .int) [(0, 9, 12, 13)] :: WS) B.pre
  have hW : ∀ w ∈ WS, w.before _ s = true := fun w h => hts w (List.mem_cons_of_mem _ h)
  have hown : s.vm.findClass "BoardHouseLaw" = some m.cls := findClass_of_methodNamed B.named
  have hlocks := B.notSynchronized
  have hS : va_S (hA N0) s.heap s.heap [] := va_S.rf
  have hl := lv_entry ([.ref b.ho, .int v, .ref ou]) (n := 4) (Nat.le_of_ble_eq_true rfl)
  rw [lg_entry_eq]
  generalize (lg_sl ([.ref b.ho, .int v, .ref ou]) ++ List.replicate (4 - (lg_sl ([.ref b.ho, .int v, .ref ou])).length) Slot.unset).toArray = ls at hl ⊢
  have hl : lv_has ls 4 [(0, .ref b.ho), (1, .int v), (2, .ref ou)] := hl
  refine lv_aload_n hx hb d_La_gap_0 rfl (lv_at hl 2 rfl) ?_
  refine lv_iconst (v := 0) hx hb d_La_gap_1 (by decide) ?_
  refine lv_aload_n hx hb d_La_gap_2 rfl (lv_at hl 0 rfl) ?_
  refine lv_iload_n hx hb d_La_gap_3 rfl (lv_at hl 1 rfl) ?_
  cases hok : (decide (0 ≤ v) && decide (v ≤ 4)) with
  | false =>
    refine hx_callCatchL (E := xG) (hx_runV (As := [.int v]) (rest := [.int 0, .ref ou]) ⟨hx, hb, hml, hown, hts⟩ (t_Ho_gap l hls D N0 k V b σ hW0.1 v hok) (cwV 1 hts (gi_Vw wm_La_43 wv_Ho_gap ws_Ho_gap wi_Ho wc_Ho_gap) rfl rfl rfl (by decide +kernel) ⟨Nat.le_of_ble_eq_true rfl, Nat.le_of_ble_eq_true rfl⟩) (mP.preV hG hS hV hW0.1.ho rfl) rfl rfl hl.1 rfl (lv_room (Nat.le_of_ble_eq_true rfl)) d_La_gap_4 ⟨Nat.le_of_ble_eq_true rfl, Nat.le_of_ble_eq_true rfl⟩) hS hown hN (by decide +kernel) [] ⟨0, 9, 12, 13⟩ [] (by rw [htab]; rfl) (fun q hq => nomatch hq) rfl (by decide) (hW _ wk_La_13) (fun q_1 H locs hV hS => ?_)
    refine lv_astore_n (lv' := [(3, .ref q_1), (0, .ref b.ho), (1, .int v), (2, .ref ou)]) hx hb d_La_gap_12 rfl hl (by decide) rfl (fun ls hl => ?_)
    refine lv_iconst (v := 1) hx hb d_La_gap_13 (by decide) ?_
    exact W.iret (v := 1) hx hb hr (fun t9 ht hW => ⟨⟨1, V, rfl, ⟨b, σ, g, hW0, hou, lo_rf, (Or.inl ⟨hok, rfl, rfl⟩)⟩, mB_of ht hV⟩, hS.F ht⟩) hS.2.2 d_La_gap_14
  | true =>
    refine rc_I (va_runV (As := [.int v]) (rest := [.int 0, .ref ou]) ⟨hx, hb, hml, hown, hts⟩ (c_Ho_gap l D N0 k V b σ hW0 v hok) (cwV 1 hts (gi_Vw wm_La_43 wv_Ho_gap ws_Ho_gap wi_Ho wc_Ho_gap) rfl rfl rfl (by decide +kernel) ⟨Nat.le_of_ble_eq_true rfl, Nat.le_of_ble_eq_true rfl⟩) (mP.preV hG hS hV hW0.1.ho rfl) rfl rfl hl.1 rfl (lv_room (Nat.le_of_ble_eq_true rfl)) d_La_gap_4 ⟨Nat.le_of_ble_eq_true rfl, Nat.le_of_ble_eq_true rfl⟩) hS (fun r_2 V_3 H locs hp_4 hV hS => ?_)
    obtain ⟨hW1, hF1, e_r_2⟩ := hp_4
    have hou1 := (hF1.2 ou _ hou hlo).1
    refine lv_i2l hx hb d_La_gap_7 rfl ?_
    refine hv_last hx hb hG.K hV hS 1 hou1 rfl ((vp_in_nI (by omega) (by omega) : vp_in (nI 0) 1)) d_La_gap_8 (fun H locs hV hS => ?_)
    rw [show (0 : Int32).toNatClampNeg = 0 from rfl] at hV
    replace hV : hv D vwCl N0 (hu V_3 ou (eL k 1 (vp_updL g 0 r_2.toInt64))) H := hV
    generalize hV_V_5 : hu V_3 ou (eL k 1 (vp_updL g 0 r_2.toInt64)) = V_5 at hV
    have hou'V_5 : V_5 ou = some (eL k 1 (vp_updL g 0 r_2.toInt64)) := by rw [← hV_V_5]; exact hu_s
    refine lv_goto (tgt := 15) hx hb d_La_gap_9 (by decide) ?_
    refine lv_iconst (v := 0) hx hb d_La_gap_15 (by decide) ?_
    refine W.widen (k := 1) (n := 6) (by omega) (by omega) ?_
    exact W.iret (v := 0) hx hb hr (fun t9 ht hW => ⟨⟨0, V_5, rfl, ⟨b, _, (vp_updL g 0 r_2.toInt64), by rw [← hV_V_5]; exact W_out hW1 (by rw [(hF1.2 ou _ hou hlo).2]; exact hlo), hou'V_5, by rw [← hV_V_5]; exact lo_of hF1 hou hlo, (Or.inr ⟨hok, rfl, rfl, by rw [uL0, e_r_2]⟩)⟩, mB_of ht hV⟩, hS.F ht⟩) hS.2.2 d_La_gap_16
set_option maxHeartbeats 4000000 in
set_option maxRecDepth 100000 in
/-- islands -/
theorem c_La_islands (l : Launch) (hls : l.stackTraces = false) (D : va_G) (N0 : Nat) (k : Nat → Nat) (V : HV) (b : HA) (σ : HS) (hW0 : hsW k V b σ) (ou : Nat) (g : Nat → Int64) (hou : V ou = some (eL k 1 g)) (hlo : 9999 < b.lb ou) (net : Int32) (hG0 : ptG σ.T net) (hPl : plG σ) : Met l y_La_islands (.codeWith y_La_islands b_La_islands 4 (some .int) [(0, 9, 12, 19), (0, 9, 15, 13)] :: WS) ({ frames := 8, cells := 1, slots := 6, locals := 185 }) (mPx D N0 k [.ref b.ho, .int net, .ref ou] V) (va_Qi (fun r V' => ∃ b' σ' g', hsW k V' b' σ' ∧ V' ou = some (eL k 1 g') ∧ loFr b b' ou V V' ∧ islandsR σ net r (g' 0) σ') (mB D N0) (hA N0)) 1 6 (hA N0) := by
  refine hx_MetW (cc := b_La_islands) (maxL := 4) (ret := (some .int)) (hh := [(0, 9, 12, 19), (0, 9, 15, 13)]) (by decide) rfl ?_
  intro p e s m args below meth c s₁ B hml htab hv0
  obtain ⟨rfl, ⟨hG, hN⟩, hV⟩ := hv0
  have hx := B.exec
  have hb := B.bytes
  have hr := B.returns
  have hts := atoms_spec (ws := .codeWith y_La_islands b_La_islands 4 (some .int) [(0, 9, 12, 19), (0, 9, 15, 13)] :: WS) B.pre
  have hW : ∀ w ∈ WS, w.before _ s = true := fun w h => hts w (List.mem_cons_of_mem _ h)
  have hown : s.vm.findClass "BoardHouseLaw" = some m.cls := findClass_of_methodNamed B.named
  have hlocks := B.notSynchronized
  have hS : va_S (hA N0) s.heap s.heap [] := va_S.rf
  have hl := lv_entry ([.ref b.ho, .int net, .ref ou]) (n := 4) (Nat.le_of_ble_eq_true rfl)
  rw [lg_entry_eq]
  generalize (lg_sl ([.ref b.ho, .int net, .ref ou]) ++ List.replicate (4 - (lg_sl ([.ref b.ho, .int net, .ref ou])).length) Slot.unset).toArray = ls at hl ⊢
  have hl : lv_has ls 4 [(0, .ref b.ho), (1, .int net), (2, .ref ou)] := hl
  refine lv_aload_n hx hb d_La_islands_0 rfl (lv_at hl 2 rfl) ?_
  refine lv_iconst (v := 0) hx hb d_La_islands_1 (by decide) ?_
  refine lv_aload_n hx hb d_La_islands_2 rfl (lv_at hl 0 rfl) ?_
  refine lv_iload_n hx hb d_La_islands_3 rfl (lv_at hl 1 rfl) ?_
  cases hg : gvOk σ.G net with
  | false =>
    refine hx_callCatchL (E := xX) (hx_runV (As := [.int net]) (rest := [.int 0, .ref ou]) ⟨hx, hb, hml, hown, hts⟩ (t_Ho_islands1 l hls D N0 k V b σ hW0.1 net hg) (cwV 1 hts (gi_Vw wm_La_47 wv_Ho_islands ws_Ho_islands wi_Ho wc_Ho_islands) rfl rfl rfl (by decide +kernel) ⟨Nat.le_of_ble_eq_true rfl, Nat.le_of_ble_eq_true rfl⟩) (mP.preV hG hS hV hW0.1.ho rfl) rfl rfl hl.1 rfl (lv_room (Nat.le_of_ble_eq_true rfl)) d_La_islands_4 ⟨Nat.le_of_ble_eq_true rfl, Nat.le_of_ble_eq_true rfl⟩) hS hown hN (by decide +kernel) [] ⟨0, 9, 12, 19⟩ [⟨0, 9, 15, 13⟩] (by rw [htab]; rfl) (fun q hq => nomatch hq) rfl (by decide) (hW _ wk_La_19) (fun q_1 H locs hV hS => ?_)
    refine lv_astore_n (lv' := [(3, .ref q_1), (0, .ref b.ho), (1, .int net), (2, .ref ou)]) hx hb d_La_islands_12 rfl hl (by decide) rfl (fun ls hl => ?_)
    refine lv_iconst (v := 1) hx hb d_La_islands_13 (by decide) ?_
    exact W.iret (v := 1) hx hb hr (fun t9 ht hW => ⟨⟨1, V, rfl, ⟨b, σ, g, hW0, hou, lo_rf, (Or.inl ⟨hg, rfl, rfl⟩)⟩, mB_of ht hV⟩, hS.F ht⟩) hS.2.2 d_La_islands_14
  | true =>
    by_cases hk1 : net / 1000 = 1
    · refine rc_I (va_runV (As := [.int net]) (rest := [.int 0, .ref ou]) ⟨hx, hb, hml, hown, hts⟩ (c_Ho_islands l D N0 k V b σ hW0 net hg hk1 hG0 hPl) (cwV 1 hts (gi_Vw wm_La_47 wv_Ho_islands ws_Ho_islands wi_Ho wc_Ho_islands) rfl rfl rfl (by decide +kernel) ⟨Nat.le_of_ble_eq_true rfl, Nat.le_of_ble_eq_true rfl⟩) (mP.preV hG hS hV hW0.1.ho rfl) rfl rfl hl.1 rfl (lv_room (Nat.le_of_ble_eq_true rfl)) d_La_islands_4 ⟨Nat.le_of_ble_eq_true rfl, Nat.le_of_ble_eq_true rfl⟩) hS (fun r_2 V_3 H locs hp_4 hV hS => ?_)
      obtain ⟨O9, R9, c9, hW1, hF1, hld9, his9, e_r_2⟩ := hp_4
      have hou1 := (hF1.2 ou _ hou hlo).1
      refine lv_i2l hx hb d_La_islands_7 rfl ?_
      refine hv_last hx hb hG.K hV hS 1 hou1 rfl ((vp_in_nI (by omega) (by omega) : vp_in (nI 0) 1)) d_La_islands_8 (fun H locs hV hS => ?_)
      rw [show (0 : Int32).toNatClampNeg = 0 from rfl] at hV
      replace hV : hv D vwCl N0 (hu V_3 ou (eL k 1 (vp_updL g 0 r_2.toInt64))) H := hV
      generalize hV_V_5 : hu V_3 ou (eL k 1 (vp_updL g 0 r_2.toInt64)) = V_5 at hV
      have hou'V_5 : V_5 ou = some (eL k 1 (vp_updL g 0 r_2.toInt64)) := by rw [← hV_V_5]; exact hu_s
      refine lv_goto (tgt := 18) hx hb d_La_islands_9 (by decide) ?_
      refine lv_iconst (v := 0) hx hb d_La_islands_18 (by decide) ?_
      refine W.widen (k := 1) (n := 6) (by omega) (by omega) ?_
      exact W.iret (v := 0) hx hb hr (fun t9 ht hW => ⟨⟨0, V_5, rfl, ⟨b, _, (vp_updL g 0 r_2.toInt64), by rw [← hV_V_5]; exact W_out hW1 (by rw [(hF1.2 ou _ hou hlo).2]; exact hlo), hou'V_5, by rw [← hV_V_5]; exact lo_of hF1 hou hlo, (Or.inr (Or.inr ⟨hg, hk1, rfl, rfl, O9, R9, c9, hld9, his9, by rw [uL0, e_r_2]⟩))⟩, mB_of ht hV⟩, hS.F ht⟩) hS.2.2 d_La_islands_19
    · refine hx_callCatchL (E := xG) (hx_runV (As := [.int net]) (rest := [.int 0, .ref ou]) ⟨hx, hb, hml, hown, hts⟩ (t_Ho_islands2 l hls D N0 k V b σ hW0.1 net hg hk1) (cwV 1 hts (gi_Vw wm_La_47 wv_Ho_islands ws_Ho_islands wi_Ho wc_Ho_islands) rfl rfl rfl (by decide +kernel) ⟨Nat.le_of_ble_eq_true rfl, Nat.le_of_ble_eq_true rfl⟩) (mP.preV hG hS hV hW0.1.ho rfl) rfl rfl hl.1 rfl (lv_room (Nat.le_of_ble_eq_true rfl)) d_La_islands_4 ⟨Nat.le_of_ble_eq_true rfl, Nat.le_of_ble_eq_true rfl⟩) hS hown hN (by decide +kernel) [(⟨0, 9, 12, 19⟩, xX)] ⟨0, 9, 15, 13⟩ [] (by rw [htab]; rfl) (by intro q hq; simp only [List.mem_cons, List.not_mem_nil, or_false] at hq; rcases hq with rfl <;> exact ⟨by decide, hW _ (by first | exact wk_La_19), by decide +kernel⟩) rfl (by decide) (hW _ wk_La_13) (fun q_6 H locs hV hS => ?_)
      refine lv_astore_n (lv' := [(3, .ref q_6), (0, .ref b.ho), (1, .int net), (2, .ref ou)]) hx hb d_La_islands_15 rfl hl (by decide) rfl (fun ls hl => ?_)
      refine lv_iconst (v := 2) hx hb d_La_islands_16 (by decide) ?_
      exact W.iret (v := 2) hx hb hr (fun t9 ht hW => ⟨⟨2, V, rfl, ⟨b, σ, g, hW0, hou, lo_rf, (Or.inr (Or.inl ⟨hg, hk1, rfl, rfl⟩))⟩, mB_of ht hV⟩, hS.F ht⟩) hS.2.2 d_La_islands_17
set_option maxHeartbeats 4000000 in
set_option maxRecDepth 100000 in
/-- near -/
theorem c_La_near (l : Launch) (hls : l.stackTraces = false) (D : va_G) (N0 : Nat) (k : Nat → Nat) (V : HV) (b : HA) (σ : HS) (hW0 : hsW k V b σ) (ou : Nat) (g : Nat → Int64) (hou : V ou = some (eL k 1 g)) (hlo : 9999 < b.lb ou) (q0 wh : Int32) : Met l y_La_near (.codeWith y_La_near b_La_near 5 (some .int) [(0, 10, 13, 19)] :: WS) ({ frames := 7, cells := 1, slots := 6, locals := 121 }) (mPx D N0 k [.ref b.ho, .int q0, .int wh, .ref ou] V) (va_Qi (fun r V' => ∃ b' σ' g', hsW k V' b' σ' ∧ V' ou = some (eL k 1 g') ∧ loFr b b' ou V V' ∧ nearR σ q0 wh r (g' 0) σ') (mB D N0) (hA N0)) 1 6 (hA N0) := by
  refine hx_MetW (cc := b_La_near) (maxL := 5) (ret := (some .int)) (hh := [(0, 10, 13, 19)]) (by decide) rfl ?_
  intro p e s m args below meth c s₁ B hml htab hv0
  obtain ⟨rfl, ⟨hG, hN⟩, hV⟩ := hv0
  have hx := B.exec
  have hb := B.bytes
  have hr := B.returns
  have hts := atoms_spec (ws := .codeWith y_La_near b_La_near 5 (some .int) [(0, 10, 13, 19)] :: WS) B.pre
  have hW : ∀ w ∈ WS, w.before _ s = true := fun w h => hts w (List.mem_cons_of_mem _ h)
  have hown : s.vm.findClass "BoardHouseLaw" = some m.cls := findClass_of_methodNamed B.named
  have hlocks := B.notSynchronized
  have hS : va_S (hA N0) s.heap s.heap [] := va_S.rf
  have hl := lv_entry ([.ref b.ho, .int q0, .int wh, .ref ou]) (n := 5) (Nat.le_of_ble_eq_true rfl)
  rw [lg_entry_eq]
  generalize (lg_sl ([.ref b.ho, .int q0, .int wh, .ref ou]) ++ List.replicate (5 - (lg_sl ([.ref b.ho, .int q0, .int wh, .ref ou])).length) Slot.unset).toArray = ls at hl ⊢
  have hl : lv_has ls 5 [(0, .ref b.ho), (1, .int q0), (2, .int wh), (3, .ref ou)] := hl
  refine lv_aload_n hx hb d_La_near_0 rfl (lv_at hl 3 rfl) ?_
  refine lv_iconst (v := 0) hx hb d_La_near_1 (by decide) ?_
  refine lv_aload_n hx hb d_La_near_2 rfl (lv_at hl 0 rfl) ?_
  refine lv_iload_n hx hb d_La_near_3 rfl (lv_at hl 1 rfl) ?_
  refine lv_iload_n hx hb d_La_near_4 rfl (lv_at hl 2 rfl) ?_
  cases hok : (decide (wh = 0) || decide (wh = 1)) with
  | false =>
    refine hx_callCatchL (E := xX) (hx_runV (As := [.int q0, .int wh]) (rest := [.int 0, .ref ou]) ⟨hx, hb, hml, hown, hts⟩ (t_Ho_near l hls D N0 k V b σ hW0.1 q0 wh hok) (cwV 2 hts (gi_Vw wm_La_50 wv_Ho_near ws_Ho_near wi_Ho wc_Ho_near) rfl rfl rfl (by decide +kernel) ⟨Nat.le_of_ble_eq_true rfl, Nat.le_of_ble_eq_true rfl⟩) (mP.preV hG hS hV hW0.1.ho rfl) rfl rfl hl.1 rfl (lv_room (Nat.le_of_ble_eq_true rfl)) d_La_near_5 ⟨Nat.le_of_ble_eq_true rfl, Nat.le_of_ble_eq_true rfl⟩) hS hown hN (by decide +kernel) [] ⟨0, 10, 13, 19⟩ [] (by rw [htab]; rfl) (fun q hq => nomatch hq) rfl (by decide) (hW _ wk_La_19) (fun q_1 H locs hV hS => ?_)
    refine lv_astore (lv' := [(4, .ref q_1), (0, .ref b.ho), (1, .int q0), (2, .int wh), (3, .ref ou)]) hx hb d_La_near_13 hl (by decide) rfl (fun ls hl => ?_)
    refine lv_iconst (v := 1) hx hb d_La_near_15 (by decide) ?_
    exact W.iret (v := 1) hx hb hr (fun t9 ht hW => ⟨⟨1, V, rfl, ⟨b, σ, g, hW0, hou, lo_rf, (Or.inl ⟨hok, rfl, rfl⟩)⟩, mB_of ht hV⟩, hS.F ht⟩) hS.2.2 d_La_near_16
  | true =>
    refine rc_I (va_runV (As := [.int q0, .int wh]) (rest := [.int 0, .ref ou]) ⟨hx, hb, hml, hown, hts⟩ (c_Ho_near l D N0 k V b σ hW0 q0 wh hok) (cwV 2 hts (gi_Vw wm_La_50 wv_Ho_near ws_Ho_near wi_Ho wc_Ho_near) rfl rfl rfl (by decide +kernel) ⟨Nat.le_of_ble_eq_true rfl, Nat.le_of_ble_eq_true rfl⟩) (mP.preV hG hS hV hW0.1.ho rfl) rfl rfl hl.1 rfl (lv_room (Nat.le_of_ble_eq_true rfl)) d_La_near_5 ⟨Nat.le_of_ble_eq_true rfl, Nat.le_of_ble_eq_true rfl⟩) hS (fun r_2 V_3 H locs hp_4 hV hS => ?_)
    obtain ⟨e_r_2, hV1⟩ := hp_4
    rw [hV1] at hV
    have hW1 := hW0
    have hF1 := hsFr.rf (a := b) (V := V)
    have hou1 := (hF1.2 ou _ hou hlo).1
    refine lv_i2l hx hb d_La_near_8 rfl ?_
    refine hv_last hx hb hG.K hV hS 1 hou1 rfl ((vp_in_nI (by omega) (by omega) : vp_in (nI 0) 1)) d_La_near_9 (fun H locs hV hS => ?_)
    rw [show (0 : Int32).toNatClampNeg = 0 from rfl] at hV
    replace hV : hv D vwCl N0 (hu V ou (eL k 1 (vp_updL g 0 r_2.toInt64))) H := hV
    generalize hV_V_5 : hu V ou (eL k 1 (vp_updL g 0 r_2.toInt64)) = V_5 at hV
    have hou'V_5 : V_5 ou = some (eL k 1 (vp_updL g 0 r_2.toInt64)) := by rw [← hV_V_5]; exact hu_s
    refine lv_goto (tgt := 17) hx hb d_La_near_10 (by decide) ?_
    refine lv_iconst (v := 0) hx hb d_La_near_17 (by decide) ?_
    refine W.widen (k := 1) (n := 6) (by omega) (by omega) ?_
    exact W.iret (v := 0) hx hb hr (fun t9 ht hW => ⟨⟨0, V_5, rfl, ⟨b, _, (vp_updL g 0 r_2.toInt64), by rw [← hV_V_5]; exact W_out hW1 (by rw [(hF1.2 ou _ hou hlo).2]; exact hlo), hou'V_5, by rw [← hV_V_5]; exact lo_of hF1 hou hlo, (Or.inr ⟨hok, rfl, rfl, by rw [uL0, e_r_2]⟩)⟩, mB_of ht hV⟩, hS.F ht⟩) hS.2.2 d_La_near_18
set_option maxHeartbeats 4000000 in
set_option maxRecDepth 100000 in
/-- filled -/
theorem c_La_filled (l : Launch) (hls : l.stackTraces = false) (D : va_G) (N0 : Nat) (k : Nat → Nat) (V : HV) (b : HA) (σ : HS) (hW0 : hsW k V b σ) (ou : Nat) (g : Nat → Int64) (hou : V ou = some (eL k 1 g)) (hlo : 9999 < b.lb ou) (h : Int32) : Met l y_La_filled (.codeWith y_La_filled b_La_filled 4 (some .int) [(0, 9, 12, 19), (0, 9, 15, 13), (0, 9, 18, 21)] :: WS) ({ frames := 8, cells := 1, slots := 6, locals := 143 }) (mPx D N0 k [.ref b.ho, .int h, .ref ou] V) (va_Qi (fun r V' => ∃ b' σ' g', hsW k V' b' σ' ∧ V' ou = some (eL k 1 g') ∧ loFr b b' ou V V' ∧ filledR σ h r (g' 0) σ') (mB D N0) (hA N0)) 1 6 (hA N0) := by
  refine hx_MetW (cc := b_La_filled) (maxL := 4) (ret := (some .int)) (hh := [(0, 9, 12, 19), (0, 9, 15, 13), (0, 9, 18, 21)]) (by decide) rfl ?_
  intro p e s m args below meth c s₁ B hml htab hv0
  obtain ⟨rfl, ⟨hG, hN⟩, hV⟩ := hv0
  have hx := B.exec
  have hb := B.bytes
  have hr := B.returns
  have hts := atoms_spec (ws := .codeWith y_La_filled b_La_filled 4 (some .int) [(0, 9, 12, 19), (0, 9, 15, 13), (0, 9, 18, 21)] :: WS) B.pre
  have hW : ∀ w ∈ WS, w.before _ s = true := fun w h => hts w (List.mem_cons_of_mem _ h)
  have hown : s.vm.findClass "BoardHouseLaw" = some m.cls := findClass_of_methodNamed B.named
  have hlocks := B.notSynchronized
  have hS : va_S (hA N0) s.heap s.heap [] := va_S.rf
  have hl := lv_entry ([.ref b.ho, .int h, .ref ou]) (n := 4) (Nat.le_of_ble_eq_true rfl)
  rw [lg_entry_eq]
  generalize (lg_sl ([.ref b.ho, .int h, .ref ou]) ++ List.replicate (4 - (lg_sl ([.ref b.ho, .int h, .ref ou])).length) Slot.unset).toArray = ls at hl ⊢
  have hl : lv_has ls 4 [(0, .ref b.ho), (1, .int h), (2, .ref ou)] := hl
  refine lv_aload_n hx hb d_La_filled_0 rfl (lv_at hl 2 rfl) ?_
  refine lv_iconst (v := 0) hx hb d_La_filled_1 (by decide) ?_
  refine lv_aload_n hx hb d_La_filled_2 rfl (lv_at hl 0 rfl) ?_
  refine lv_iload_n hx hb d_La_filled_3 rfl (lv_at hl 1 rfl) ?_
  cases hg : gvOk σ.G h with
  | false =>
    refine hx_callCatchL (E := xX) (hx_runV (As := [.int h]) (rest := [.int 0, .ref ou]) ⟨hx, hb, hml, hown, hts⟩ (t_Ho_filled1 l hls D N0 k V b σ hW0.1 h hg) (cwV 1 hts (gi_Vw wm_La_53 wv_Ho_filled ws_Ho_filled wi_Ho wc_Ho_filled) rfl rfl rfl (by decide +kernel) ⟨Nat.le_of_ble_eq_true rfl, Nat.le_of_ble_eq_true rfl⟩) (mP.preV hG hS hV hW0.1.ho rfl) rfl rfl hl.1 rfl (lv_room (Nat.le_of_ble_eq_true rfl)) d_La_filled_4 ⟨Nat.le_of_ble_eq_true rfl, Nat.le_of_ble_eq_true rfl⟩) hS hown hN (by decide +kernel) [] ⟨0, 9, 12, 19⟩ [⟨0, 9, 15, 13⟩, ⟨0, 9, 18, 21⟩] (by rw [htab]; rfl) (fun q hq => nomatch hq) rfl (by decide) (hW _ wk_La_19) (fun q_1 H locs hV hS => ?_)
    refine lv_astore_n (lv' := [(3, .ref q_1), (0, .ref b.ho), (1, .int h), (2, .ref ou)]) hx hb d_La_filled_12 rfl hl (by decide) rfl (fun ls hl => ?_)
    refine lv_iconst (v := 1) hx hb d_La_filled_13 (by decide) ?_
    exact W.iret (v := 1) hx hb hr (fun t9 ht hW => ⟨⟨1, V, rfl, ⟨b, σ, g, hW0, hou, lo_rf, (Or.inl ⟨hg, rfl, rfl⟩)⟩, mB_of ht hV⟩, hS.F ht⟩) hS.2.2 d_La_filled_14
  | true =>
    by_cases hk5 : h / 1000 = 5
    · by_cases hth : σ.T (hdI h) 5 = 0
      · refine hx_callCatchL (E := xS) (hx_runV (As := [.int h]) (rest := [.int 0, .ref ou]) ⟨hx, hb, hml, hown, hts⟩ (t_Ho_filled3 l hls D N0 k V b σ hW0 h hg hk5 hth) (cwV 1 hts (gi_Vw wm_La_53 wv_Ho_filled ws_Ho_filled wi_Ho wc_Ho_filled) rfl rfl rfl (by decide +kernel) ⟨Nat.le_of_ble_eq_true rfl, Nat.le_of_ble_eq_true rfl⟩) (mP.preV hG hS hV hW0.1.ho rfl) rfl rfl hl.1 rfl (lv_room (Nat.le_of_ble_eq_true rfl)) d_La_filled_4 ⟨Nat.le_of_ble_eq_true rfl, Nat.le_of_ble_eq_true rfl⟩) hS hown hN (by decide +kernel) [(⟨0, 9, 12, 19⟩, xX), (⟨0, 9, 15, 13⟩, xG)] ⟨0, 9, 18, 21⟩ [] (by rw [htab]; rfl) (by intro q hq; simp only [List.mem_cons, List.not_mem_nil, or_false] at hq; rcases hq with rfl | rfl <;> exact ⟨by decide, hW _ (by first | exact wk_La_19 | exact wk_La_13), by decide +kernel⟩) rfl (by decide) (hW _ wk_La_21) (fun q_2 H locs hV hS => ?_)
        refine lv_astore_n (lv' := [(3, .ref q_2), (0, .ref b.ho), (1, .int h), (2, .ref ou)]) hx hb d_La_filled_18 rfl hl (by decide) rfl (fun ls hl => ?_)
        refine lv_iconst (v := 3) hx hb d_La_filled_19 (by decide) ?_
        exact W.iret (v := 3) hx hb hr (fun t9 ht hW => ⟨⟨3, V, rfl, ⟨b, σ, g, hW0, hou, lo_rf, (Or.inr (Or.inr (Or.inl ⟨hg, hk5, hth, rfl, rfl⟩)))⟩, mB_of ht hV⟩, hS.F ht⟩) hS.2.2 d_La_filled_20
      · refine rc_I (va_runV (As := [.int h]) (rest := [.int 0, .ref ou]) ⟨hx, hb, hml, hown, hts⟩ (c_Ho_filled l D N0 k V b σ hW0 h hg hk5 hth) (cwV 1 hts (gi_Vw wm_La_53 wv_Ho_filled ws_Ho_filled wi_Ho wc_Ho_filled) rfl rfl rfl (by decide +kernel) ⟨Nat.le_of_ble_eq_true rfl, Nat.le_of_ble_eq_true rfl⟩) (mP.preV hG hS hV hW0.1.ho rfl) rfl rfl hl.1 rfl (lv_room (Nat.le_of_ble_eq_true rfl)) d_La_filled_4 ⟨Nat.le_of_ble_eq_true rfl, Nat.le_of_ble_eq_true rfl⟩) hS (fun r_3 V_4 H locs hp_5 hV hS => ?_)
        obtain ⟨G9, hW1, hF1, hcl9, e_r_3⟩ := hp_5
        have hou1 := (hF1.2 ou _ hou hlo).1
        refine lv_i2l hx hb d_La_filled_7 rfl ?_
        refine hv_last hx hb hG.K hV hS 1 hou1 rfl ((vp_in_nI (by omega) (by omega) : vp_in (nI 0) 1)) d_La_filled_8 (fun H locs hV hS => ?_)
        rw [show (0 : Int32).toNatClampNeg = 0 from rfl] at hV
        replace hV : hv D vwCl N0 (hu V_4 ou (eL k 1 (vp_updL g 0 r_3.toInt64))) H := hV
        generalize hV_V_6 : hu V_4 ou (eL k 1 (vp_updL g 0 r_3.toInt64)) = V_6 at hV
        have hou'V_6 : V_6 ou = some (eL k 1 (vp_updL g 0 r_3.toInt64)) := by rw [← hV_V_6]; exact hu_s
        refine lv_goto (tgt := 21) hx hb d_La_filled_9 (by decide) ?_
        refine lv_iconst (v := 0) hx hb d_La_filled_21 (by decide) ?_
        refine W.widen (k := 1) (n := 6) (by omega) (by omega) ?_
        exact W.iret (v := 0) hx hb hr (fun t9 ht hW => ⟨⟨0, V_6, rfl, ⟨b, _, (vp_updL g 0 r_3.toInt64), by rw [← hV_V_6]; exact W_out hW1 (by rw [(hF1.2 ou _ hou hlo).2]; exact hlo), hou'V_6, by rw [← hV_V_6]; exact lo_of hF1 hou hlo, (Or.inr (Or.inr (Or.inr ⟨hg, hk5, hth, rfl, rfl, G9, hcl9, by rw [uL0, e_r_3]⟩)))⟩, mB_of ht hV⟩, hS.F ht⟩) hS.2.2 d_La_filled_22
    · refine hx_callCatchL (E := xG) (hx_runV (As := [.int h]) (rest := [.int 0, .ref ou]) ⟨hx, hb, hml, hown, hts⟩ (t_Ho_filled2 l hls D N0 k V b σ hW0.1 h hg hk5) (cwV 1 hts (gi_Vw wm_La_53 wv_Ho_filled ws_Ho_filled wi_Ho wc_Ho_filled) rfl rfl rfl (by decide +kernel) ⟨Nat.le_of_ble_eq_true rfl, Nat.le_of_ble_eq_true rfl⟩) (mP.preV hG hS hV hW0.1.ho rfl) rfl rfl hl.1 rfl (lv_room (Nat.le_of_ble_eq_true rfl)) d_La_filled_4 ⟨Nat.le_of_ble_eq_true rfl, Nat.le_of_ble_eq_true rfl⟩) hS hown hN (by decide +kernel) [(⟨0, 9, 12, 19⟩, xX)] ⟨0, 9, 15, 13⟩ [⟨0, 9, 18, 21⟩] (by rw [htab]; rfl) (by intro q hq; simp only [List.mem_cons, List.not_mem_nil, or_false] at hq; rcases hq with rfl <;> exact ⟨by decide, hW _ (by first | exact wk_La_19), by decide +kernel⟩) rfl (by decide) (hW _ wk_La_13) (fun q_7 H locs hV hS => ?_)
      refine lv_astore_n (lv' := [(3, .ref q_7), (0, .ref b.ho), (1, .int h), (2, .ref ou)]) hx hb d_La_filled_15 rfl hl (by decide) rfl (fun ls hl => ?_)
      refine lv_iconst (v := 2) hx hb d_La_filled_16 (by decide) ?_
      exact W.iret (v := 2) hx hb hr (fun t9 ht hW => ⟨⟨2, V, rfl, ⟨b, σ, g, hW0, hou, lo_rf, (Or.inr (Or.inl ⟨hg, hk5, rfl, rfl⟩))⟩, mB_of ht hV⟩, hS.F ht⟩) hS.2.2 d_La_filled_17
set_option maxHeartbeats 4000000 in
set_option maxRecDepth 100000 in
/-- at -/
theorem c_La_at (l : Launch) (hls : l.stackTraces = false) (D : va_G) (N0 : Nat) (k : Nat → Nat) (V : HV) (b : HA) (σ : HS) (hW0 : hsW k V b σ) (ou : Nat) (g : Nat → Int64) (hou : V ou = some (eL k 1 g)) (hlo : 9999 < b.lb ou) (h wh : Int32) : Met l y_La_at (.codeWith y_La_at b_La_at 5 (some .int) [(0, 10, 13, 19), (0, 10, 17, 13)] :: WS) ({ frames := 8, cells := 1, slots := 6, locals := 137 }) (mPx D N0 k [.ref b.ho, .int h, .int wh, .ref ou] V) (va_Qi (fun r V' => ∃ b' σ' g', hsW k V' b' σ' ∧ V' ou = some (eL k 1 g') ∧ loFr b b' ou V V' ∧ atR σ h wh r (g' 0) σ') (mB D N0) (hA N0)) 1 6 (hA N0) := by
  refine hx_MetW (cc := b_La_at) (maxL := 5) (ret := (some .int)) (hh := [(0, 10, 13, 19), (0, 10, 17, 13)]) (by decide) rfl ?_
  intro p e s m args below meth c s₁ B hml htab hv0
  obtain ⟨rfl, ⟨hG, hN⟩, hV⟩ := hv0
  have hx := B.exec
  have hb := B.bytes
  have hr := B.returns
  have hts := atoms_spec (ws := .codeWith y_La_at b_La_at 5 (some .int) [(0, 10, 13, 19), (0, 10, 17, 13)] :: WS) B.pre
  have hW : ∀ w ∈ WS, w.before _ s = true := fun w h => hts w (List.mem_cons_of_mem _ h)
  have hown : s.vm.findClass "BoardHouseLaw" = some m.cls := findClass_of_methodNamed B.named
  have hlocks := B.notSynchronized
  have hS : va_S (hA N0) s.heap s.heap [] := va_S.rf
  have hl := lv_entry ([.ref b.ho, .int h, .int wh, .ref ou]) (n := 5) (Nat.le_of_ble_eq_true rfl)
  rw [lg_entry_eq]
  generalize (lg_sl ([.ref b.ho, .int h, .int wh, .ref ou]) ++ List.replicate (5 - (lg_sl ([.ref b.ho, .int h, .int wh, .ref ou])).length) Slot.unset).toArray = ls at hl ⊢
  have hl : lv_has ls 5 [(0, .ref b.ho), (1, .int h), (2, .int wh), (3, .ref ou)] := hl
  refine lv_aload_n hx hb d_La_at_0 rfl (lv_at hl 3 rfl) ?_
  refine lv_iconst (v := 0) hx hb d_La_at_1 (by decide) ?_
  refine lv_aload_n hx hb d_La_at_2 rfl (lv_at hl 0 rfl) ?_
  refine lv_iload_n hx hb d_La_at_3 rfl (lv_at hl 1 rfl) ?_
  refine lv_iload_n hx hb d_La_at_4 rfl (lv_at hl 2 rfl) ?_
  cases hg : gvOk σ.G h with
  | false =>
    refine hx_callCatchL (E := xX) (hx_runV (As := [.int h, .int wh]) (rest := [.int 0, .ref ou]) ⟨hx, hb, hml, hown, hts⟩ (t_Ho_at1 l hls D N0 k V b σ hW0.1 h wh hg) (cwV 2 hts (gi_Vw wm_La_56 wv_Ho_at ws_Ho_at wi_Ho wc_Ho_at) rfl rfl rfl (by decide +kernel) ⟨Nat.le_of_ble_eq_true rfl, Nat.le_of_ble_eq_true rfl⟩) (mP.preV hG hS hV hW0.1.ho rfl) rfl rfl hl.1 rfl (lv_room (Nat.le_of_ble_eq_true rfl)) d_La_at_5 ⟨Nat.le_of_ble_eq_true rfl, Nat.le_of_ble_eq_true rfl⟩) hS hown hN (by decide +kernel) [] ⟨0, 10, 13, 19⟩ [⟨0, 10, 17, 13⟩] (by rw [htab]; rfl) (fun q hq => nomatch hq) rfl (by decide) (hW _ wk_La_19) (fun q_1 H locs hV hS => ?_)
    refine lv_astore (lv' := [(4, .ref q_1), (0, .ref b.ho), (1, .int h), (2, .int wh), (3, .ref ou)]) hx hb d_La_at_13 hl (by decide) rfl (fun ls hl => ?_)
    refine lv_iconst (v := 1) hx hb d_La_at_15 (by decide) ?_
    exact W.iret (v := 1) hx hb hr (fun t9 ht hW => ⟨⟨1, V, rfl, ⟨b, σ, g, hW0, hou, lo_rf, (Or.inl ⟨hg, rfl, rfl⟩)⟩, mB_of ht hV⟩, hS.F ht⟩) hS.2.2 d_La_at_16
  | true =>
    cases hok : (decide (0 ≤ wh) && decide (wh ≤ 5)) with
    | false =>
      refine hx_callCatchL (E := xX) (hx_runV (As := [.int h, .int wh]) (rest := [.int 0, .ref ou]) ⟨hx, hb, hml, hown, hts⟩ (t_Ho_at2 l hls D N0 k V b σ hW0.1 h wh hg hok) (cwV 2 hts (gi_Vw wm_La_56 wv_Ho_at ws_Ho_at wi_Ho wc_Ho_at) rfl rfl rfl (by decide +kernel) ⟨Nat.le_of_ble_eq_true rfl, Nat.le_of_ble_eq_true rfl⟩) (mP.preV hG hS hV hW0.1.ho rfl) rfl rfl hl.1 rfl (lv_room (Nat.le_of_ble_eq_true rfl)) d_La_at_5 ⟨Nat.le_of_ble_eq_true rfl, Nat.le_of_ble_eq_true rfl⟩) hS hown hN (by decide +kernel) [] ⟨0, 10, 13, 19⟩ [⟨0, 10, 17, 13⟩] (by rw [htab]; rfl) (fun q hq => nomatch hq) rfl (by decide) (hW _ wk_La_19) (fun q_2 H locs hV hS => ?_)
      refine lv_astore (lv' := [(4, .ref q_2), (0, .ref b.ho), (1, .int h), (2, .int wh), (3, .ref ou)]) hx hb d_La_at_13 hl (by decide) rfl (fun ls hl => ?_)
      refine lv_iconst (v := 1) hx hb d_La_at_15 (by decide) ?_
      exact W.iret (v := 1) hx hb hr (fun t9 ht hW => ⟨⟨1, V, rfl, ⟨b, σ, g, hW0, hou, lo_rf, (Or.inr (Or.inl ⟨hg, hok, rfl, rfl⟩))⟩, mB_of ht hV⟩, hS.F ht⟩) hS.2.2 d_La_at_16
    | true =>
      obtain ⟨hK, -, hK1, hK7, -⟩ := gv_of (σ := σ) hW0.2.2.1 hg
      by_cases hk : 2 ≤ hdK h ∧ hdK h ≤ 5
      · refine rc_I (va_runV (As := [.int h, .int wh]) (rest := [.int 0, .ref ou]) ⟨hx, hb, hml, hown, hts⟩ (c_Ho_at l D N0 k V b σ hW0 h wh hg hok hk.1 hk.2) (cwV 2 hts (gi_Vw wm_La_56 wv_Ho_at ws_Ho_at wi_Ho wc_Ho_at) rfl rfl rfl (by decide +kernel) ⟨Nat.le_of_ble_eq_true rfl, Nat.le_of_ble_eq_true rfl⟩) (mP.preV hG hS hV hW0.1.ho rfl) rfl rfl hl.1 rfl (lv_room (Nat.le_of_ble_eq_true rfl)) d_La_at_5 ⟨Nat.le_of_ble_eq_true rfl, Nat.le_of_ble_eq_true rfl⟩) hS (fun r_3 V_4 H locs hp_5 hV hS => ?_)
        obtain ⟨e_r_3, hV1⟩ := hp_5
        rw [hV1] at hV
        have hW1 := hW0
        have hF1 := hsFr.rf (a := b) (V := V)
        have hou1 := (hF1.2 ou _ hou hlo).1
        refine lv_i2l hx hb d_La_at_8 rfl ?_
        refine hv_last hx hb hG.K hV hS 1 hou1 rfl ((vp_in_nI (by omega) (by omega) : vp_in (nI 0) 1)) d_La_at_9 (fun H locs hV hS => ?_)
        rw [show (0 : Int32).toNatClampNeg = 0 from rfl] at hV
        replace hV : hv D vwCl N0 (hu V ou (eL k 1 (vp_updL g 0 r_3.toInt64))) H := hV
        generalize hV_V_6 : hu V ou (eL k 1 (vp_updL g 0 r_3.toInt64)) = V_6 at hV
        have hou'V_6 : V_6 ou = some (eL k 1 (vp_updL g 0 r_3.toInt64)) := by rw [← hV_V_6]; exact hu_s
        refine lv_goto (tgt := 21) hx hb d_La_at_10 (by decide) ?_
        refine lv_iconst (v := 0) hx hb d_La_at_21 (by decide) ?_
        refine W.widen (k := 1) (n := 6) (by omega) (by omega) ?_
        exact W.iret (v := 0) hx hb hr (fun t9 ht hW => ⟨⟨0, V_6, rfl, ⟨b, _, (vp_updL g 0 r_3.toInt64), by rw [← hV_V_6]; exact W_out hW1 (by rw [(hF1.2 ou _ hou hlo).2]; exact hlo), hou'V_6, by rw [← hV_V_6]; exact lo_of hF1 hou hlo, (Or.inr (Or.inr (Or.inr ⟨hg, hok, hk, rfl, rfl, by rw [uL0, e_r_3]⟩)))⟩, mB_of ht hV⟩, hS.F ht⟩) hS.2.2 d_La_at_22
      · refine hx_callCatchL (E := xG) (hx_runV (As := [.int h, .int wh]) (rest := [.int 0, .ref ou]) ⟨hx, hb, hml, hown, hts⟩ (t_Ho_at3 l hls D N0 k V b σ hW0.1 h wh hg hok hK hK7 (by omega)) (cwV 2 hts (gi_Vw wm_La_56 wv_Ho_at ws_Ho_at wi_Ho wc_Ho_at) rfl rfl rfl (by decide +kernel) ⟨Nat.le_of_ble_eq_true rfl, Nat.le_of_ble_eq_true rfl⟩) (mP.preV hG hS hV hW0.1.ho rfl) rfl rfl hl.1 rfl (lv_room (Nat.le_of_ble_eq_true rfl)) d_La_at_5 ⟨Nat.le_of_ble_eq_true rfl, Nat.le_of_ble_eq_true rfl⟩) hS hown hN (by decide +kernel) [(⟨0, 10, 13, 19⟩, xX)] ⟨0, 10, 17, 13⟩ [] (by rw [htab]; rfl) (by intro q hq; simp only [List.mem_cons, List.not_mem_nil, or_false] at hq; rcases hq with rfl <;> exact ⟨by decide, hW _ (by first | exact wk_La_19), by decide +kernel⟩) rfl (by decide) (hW _ wk_La_13) (fun q_7 H locs hV hS => ?_)
        refine lv_astore (lv' := [(4, .ref q_7), (0, .ref b.ho), (1, .int h), (2, .int wh), (3, .ref ou)]) hx hb d_La_at_17 hl (by decide) rfl (fun ls hl => ?_)
        refine lv_iconst (v := 2) hx hb d_La_at_19 (by decide) ?_
        exact W.iret (v := 2) hx hb hr (fun t9 ht hW => ⟨⟨2, V, rfl, ⟨b, σ, g, hW0, hou, lo_rf, (Or.inr (Or.inr (Or.inl ⟨hg, hok, hk, rfl, rfl⟩)))⟩, mB_of ht hV⟩, hS.F ht⟩) hS.2.2 d_La_at_20
set_option maxHeartbeats 4000000 in
set_option maxRecDepth 100000 in
/-- count -/
theorem c_La_count (l : Launch) (hls : l.stackTraces = false) (D : va_G) (N0 : Nat) (k : Nat → Nat) (V : HV) (b : HA) (σ : HS) (hW0 : hsW k V b σ) (ou : Nat) (g : Nat → Int64) (hou : V ou = some (eL k 1 g)) (hlo : 9999 < b.lb ou) (kd : Int32) : Met l y_La_count (.codeWith y_La_count b_La_count 4 (some .int) [(0, 9, 12, 19)] :: WS) ({ frames := 7, cells := 1, slots := 6, locals := 116 }) (mPx D N0 k [.ref b.ho, .int kd, .ref ou] V) (va_Qi (fun r V' => ∃ b' σ' g', hsW k V' b' σ' ∧ V' ou = some (eL k 1 g') ∧ loFr b b' ou V V' ∧ countR σ kd r (g' 0) σ') (mB D N0) (hA N0)) 1 6 (hA N0) := by
  refine hx_MetW (cc := b_La_count) (maxL := 4) (ret := (some .int)) (hh := [(0, 9, 12, 19)]) (by decide) rfl ?_
  intro p e s m args below meth c s₁ B hml htab hv0
  obtain ⟨rfl, ⟨hG, hN⟩, hV⟩ := hv0
  have hx := B.exec
  have hb := B.bytes
  have hr := B.returns
  have hts := atoms_spec (ws := .codeWith y_La_count b_La_count 4 (some .int) [(0, 9, 12, 19)] :: WS) B.pre
  have hW : ∀ w ∈ WS, w.before _ s = true := fun w h => hts w (List.mem_cons_of_mem _ h)
  have hown : s.vm.findClass "BoardHouseLaw" = some m.cls := findClass_of_methodNamed B.named
  have hlocks := B.notSynchronized
  have hS : va_S (hA N0) s.heap s.heap [] := va_S.rf
  have hl := lv_entry ([.ref b.ho, .int kd, .ref ou]) (n := 4) (Nat.le_of_ble_eq_true rfl)
  rw [lg_entry_eq]
  generalize (lg_sl ([.ref b.ho, .int kd, .ref ou]) ++ List.replicate (4 - (lg_sl ([.ref b.ho, .int kd, .ref ou])).length) Slot.unset).toArray = ls at hl ⊢
  have hl : lv_has ls 4 [(0, .ref b.ho), (1, .int kd), (2, .ref ou)] := hl
  refine lv_aload_n hx hb d_La_count_0 rfl (lv_at hl 2 rfl) ?_
  refine lv_iconst (v := 0) hx hb d_La_count_1 (by decide) ?_
  refine lv_aload_n hx hb d_La_count_2 rfl (lv_at hl 0 rfl) ?_
  refine lv_iload_n hx hb d_La_count_3 rfl (lv_at hl 1 rfl) ?_
  cases hok : (decide (2 ≤ kd) && decide (kd ≤ 5)) with
  | false =>
    refine hx_callCatchL (E := xX) (hx_runV (As := [.int kd]) (rest := [.int 0, .ref ou]) ⟨hx, hb, hml, hown, hts⟩ (t_Ho_count l hls D N0 k V b σ hW0.1 kd hok) (cwV 1 hts (gi_Vw wm_La_59 wv_Ho_count ws_Ho_count wi_Ho wc_Ho_count) rfl rfl rfl (by decide +kernel) ⟨Nat.le_of_ble_eq_true rfl, Nat.le_of_ble_eq_true rfl⟩) (mP.preV hG hS hV hW0.1.ho rfl) rfl rfl hl.1 rfl (lv_room (Nat.le_of_ble_eq_true rfl)) d_La_count_4 ⟨Nat.le_of_ble_eq_true rfl, Nat.le_of_ble_eq_true rfl⟩) hS hown hN (by decide +kernel) [] ⟨0, 9, 12, 19⟩ [] (by rw [htab]; rfl) (fun q hq => nomatch hq) rfl (by decide) (hW _ wk_La_19) (fun q_1 H locs hV hS => ?_)
    refine lv_astore_n (lv' := [(3, .ref q_1), (0, .ref b.ho), (1, .int kd), (2, .ref ou)]) hx hb d_La_count_12 rfl hl (by decide) rfl (fun ls hl => ?_)
    refine lv_iconst (v := 1) hx hb d_La_count_13 (by decide) ?_
    exact W.iret (v := 1) hx hb hr (fun t9 ht hW => ⟨⟨1, V, rfl, ⟨b, σ, g, hW0, hou, lo_rf, (Or.inl ⟨hok, rfl, rfl⟩)⟩, mB_of ht hV⟩, hS.F ht⟩) hS.2.2 d_La_count_14
  | true =>
    refine rc_I (va_runV (As := [.int kd]) (rest := [.int 0, .ref ou]) ⟨hx, hb, hml, hown, hts⟩ (c_Ho_count l D N0 k V b σ hW0 kd hok) (cwV 1 hts (gi_Vw wm_La_59 wv_Ho_count ws_Ho_count wi_Ho wc_Ho_count) rfl rfl rfl (by decide +kernel) ⟨Nat.le_of_ble_eq_true rfl, Nat.le_of_ble_eq_true rfl⟩) (mP.preV hG hS hV hW0.1.ho rfl) rfl rfl hl.1 rfl (lv_room (Nat.le_of_ble_eq_true rfl)) d_La_count_4 ⟨Nat.le_of_ble_eq_true rfl, Nat.le_of_ble_eq_true rfl⟩) hS (fun r_2 V_3 H locs hp_4 hV hS => ?_)
    obtain ⟨e_r_2, hV1⟩ := hp_4
    rw [hV1] at hV
    have hW1 := hW0
    have hF1 := hsFr.rf (a := b) (V := V)
    have hou1 := (hF1.2 ou _ hou hlo).1
    refine lv_i2l hx hb d_La_count_7 rfl ?_
    refine hv_last hx hb hG.K hV hS 1 hou1 rfl ((vp_in_nI (by omega) (by omega) : vp_in (nI 0) 1)) d_La_count_8 (fun H locs hV hS => ?_)
    rw [show (0 : Int32).toNatClampNeg = 0 from rfl] at hV
    replace hV : hv D vwCl N0 (hu V ou (eL k 1 (vp_updL g 0 r_2.toInt64))) H := hV
    generalize hV_V_5 : hu V ou (eL k 1 (vp_updL g 0 r_2.toInt64)) = V_5 at hV
    have hou'V_5 : V_5 ou = some (eL k 1 (vp_updL g 0 r_2.toInt64)) := by rw [← hV_V_5]; exact hu_s
    refine lv_goto (tgt := 15) hx hb d_La_count_9 (by decide) ?_
    refine lv_iconst (v := 0) hx hb d_La_count_15 (by decide) ?_
    refine W.widen (k := 1) (n := 6) (by omega) (by omega) ?_
    exact W.iret (v := 0) hx hb hr (fun t9 ht hW => ⟨⟨0, V_5, rfl, ⟨b, _, (vp_updL g 0 r_2.toInt64), by rw [← hV_V_5]; exact W_out hW1 (by rw [(hF1.2 ou _ hou hlo).2]; exact hlo), hou'V_5, by rw [← hV_V_5]; exact lo_of hF1 hou hlo, (Or.inr ⟨hok, rfl, rfl, by rw [uL0, e_r_2]⟩)⟩, mB_of ht hV⟩, hS.F ht⟩) hS.2.2 d_La_count_16
set_option maxHeartbeats 4000000 in
set_option maxRecDepth 100000 in
/-- work -/
theorem c_La_work (l : Launch) (hls : l.stackTraces = false) (D : va_G) (N0 : Nat) (k : Nat → Nat) (V : HV) (b : HA) (σ : HS) (hW0 : hsW k V b σ) (ou : Nat) (g : Nat → Int64) (hou : V ou = some (eL k 1 g)) (hlo : 9999 < b.lb ou) (h : Int32) : Met l y_La_work (.codeWith y_La_work b_La_work 4 (some .int) [(0, 16, 19, 19), (0, 16, 22, 13), (0, 16, 25, 21)] :: WS) ({ frames := 9, cells := 1, slots := 6, locals := 157 }) (mPx D N0 k [.ref b.ho, .int h, .ref ou] V) (va_Qi (fun r V' => ∃ b' σ' g', hsW k V' b' σ' ∧ V' ou = some (eL k 1 g') ∧ loFr b b' ou V V' ∧ workR σ h r (g' 0) σ') (mB D N0) (hA N0)) 1 6 (hA N0) := by
  refine hx_MetW (cc := b_La_work) (maxL := 4) (ret := (some .int)) (hh := [(0, 16, 19, 19), (0, 16, 22, 13), (0, 16, 25, 21)]) (by decide) rfl ?_
  intro p e s m args below meth c s₁ B hml htab hv0
  obtain ⟨rfl, ⟨hG, hN⟩, hV⟩ := hv0
  have hx := B.exec
  have hb := B.bytes
  have hr := B.returns
  have hts := atoms_spec (ws := .codeWith y_La_work b_La_work 4 (some .int) [(0, 16, 19, 19), (0, 16, 22, 13), (0, 16, 25, 21)] :: WS) B.pre
  have hW : ∀ w ∈ WS, w.before _ s = true := fun w h => hts w (List.mem_cons_of_mem _ h)
  have hown : s.vm.findClass "BoardHouseLaw" = some m.cls := findClass_of_methodNamed B.named
  have hlocks := B.notSynchronized
  have hS : va_S (hA N0) s.heap s.heap [] := va_S.rf
  have hl := lv_entry ([.ref b.ho, .int h, .ref ou]) (n := 4) (Nat.le_of_ble_eq_true rfl)
  rw [lg_entry_eq]
  generalize (lg_sl ([.ref b.ho, .int h, .ref ou]) ++ List.replicate (4 - (lg_sl ([.ref b.ho, .int h, .ref ou])).length) Slot.unset).toArray = ls at hl ⊢
  have hl : lv_has ls 4 [(0, .ref b.ho), (1, .int h), (2, .ref ou)] := hl
  refine lv_aload_n hx hb d_La_work_0 rfl (lv_at hl 2 rfl) ?_
  refine lv_iconst (v := 0) hx hb d_La_work_1 (by decide) ?_
  refine lv_aload_n hx hb d_La_work_2 rfl (lv_at hl 0 rfl) ?_
  refine lv_iload_n hx hb d_La_work_3 rfl (lv_at hl 1 rfl) ?_
  by_cases hh0 : h = 0
  · subst hh0
    have hh0 : (0 : Int32) = 0 := rfl
    refine rc_I (va_runV (As := [.int 0]) (rest := [.int 0, .ref ou]) ⟨hx, hb, hml, hown, hts⟩ (c_Ho_work0 l D N0 k V b σ hW0) (cwV 1 hts (gi_Vw wm_La_62 wv_Ho_work ws_Ho_work wi_Ho wc_Ho_work) rfl rfl rfl (by decide +kernel) ⟨Nat.le_of_ble_eq_true rfl, Nat.le_of_ble_eq_true rfl⟩) (mP.preV hG hS hV hW0.1.ho rfl) rfl rfl hl.1 rfl (lv_room (Nat.le_of_ble_eq_true rfl)) d_La_work_4 ⟨Nat.le_of_ble_eq_true rfl, Nat.le_of_ble_eq_true rfl⟩) hS (fun r_1 V_2 H locs hp_3 hV hS => ?_)
    obtain ⟨hW1, hF1, e_r_1⟩ := hp_3
    have hou1 := (hF1.2 ou _ hou hlo).1
    refine lv_if_eq (tgt := 14) hx hb d_La_work_7 (by decide) (fun c_4 => ?_) (fun c_4 => ?_)
    · refine lv_lconst (v := 0) hx hb d_La_work_14 (by decide) ?_
      refine hv_last hx hb hG.K hV hS 1 hou1 rfl ((vp_in_nI (by omega) (by omega) : vp_in (nI 0) 1)) d_La_work_15 (fun H locs hV hS => ?_)
      rw [show (0 : Int32).toNatClampNeg = 0 from rfl] at hV
      replace hV : hv D vwCl N0 (hu V_2 ou (eL k 1 (vp_updL g 0 0))) H := hV
      generalize hV_V_5 : hu V_2 ou (eL k 1 (vp_updL g 0 0)) = V_5 at hV
      have hou'V_5 : V_5 ou = some (eL k 1 (vp_updL g 0 0)) := by rw [← hV_V_5]; exact hu_s
      refine lv_goto (tgt := 28) hx hb d_La_work_16 (by decide) ?_
      refine lv_iconst (v := 0) hx hb d_La_work_28 (by decide) ?_
      refine W.widen (k := 1) (n := 6) (by omega) (by omega) ?_
      exact W.iret (v := 0) hx hb hr (fun t9 ht hW => ⟨⟨0, V_5, rfl, ⟨b, _, (vp_updL g 0 0), by rw [← hV_V_5]; exact W_out hW1 (by rw [(hF1.2 ou _ hou hlo).2]; exact hlo), hou'V_5, by rw [← hV_V_5]; exact lo_of hF1 hou hlo, (Or.inl ⟨hh0, rfl, rfl, by rw [uL0, ← e_r_1, if_pos c_4]⟩)⟩, mB_of ht hV⟩, hS.F ht⟩) hS.2.2 d_La_work_29
    · refine lv_lconst (v := 1) hx hb d_La_work_10 (by decide) ?_
      refine lv_goto (tgt := 15) hx hb d_La_work_11 (by decide) ?_
      refine hv_last hx hb hG.K hV hS 1 hou1 rfl ((vp_in_nI (by omega) (by omega) : vp_in (nI 0) 1)) d_La_work_15 (fun H locs hV hS => ?_)
      rw [show (0 : Int32).toNatClampNeg = 0 from rfl] at hV
      replace hV : hv D vwCl N0 (hu V_2 ou (eL k 1 (vp_updL g 0 1))) H := hV
      generalize hV_V_6 : hu V_2 ou (eL k 1 (vp_updL g 0 1)) = V_6 at hV
      have hou'V_6 : V_6 ou = some (eL k 1 (vp_updL g 0 1)) := by rw [← hV_V_6]; exact hu_s
      refine lv_goto (tgt := 28) hx hb d_La_work_16 (by decide) ?_
      refine lv_iconst (v := 0) hx hb d_La_work_28 (by decide) ?_
      refine W.widen (k := 1) (n := 6) (by omega) (by omega) ?_
      exact W.iret (v := 0) hx hb hr (fun t9 ht hW => ⟨⟨0, V_6, rfl, ⟨b, _, (vp_updL g 0 1), by rw [← hV_V_6]; exact W_out hW1 (by rw [(hF1.2 ou _ hou hlo).2]; exact hlo), hou'V_6, by rw [← hV_V_6]; exact lo_of hF1 hou hlo, (Or.inl ⟨hh0, rfl, rfl, by rw [uL0, ← e_r_1, if_neg c_4]⟩)⟩, mB_of ht hV⟩, hS.F ht⟩) hS.2.2 d_La_work_29
  · cases hg : gvOk σ.G h with
    | false =>
      refine hx_callCatchL (E := xX) (hx_runV (As := [.int h]) (rest := [.int 0, .ref ou]) ⟨hx, hb, hml, hown, hts⟩ (t_Ho_work1 l hls D N0 k V b σ hW0.1 h hh0 hg) (cwV 1 hts (gi_Vw wm_La_62 wv_Ho_work ws_Ho_work wi_Ho wc_Ho_work) rfl rfl rfl (by decide +kernel) ⟨Nat.le_of_ble_eq_true rfl, Nat.le_of_ble_eq_true rfl⟩) (mP.preV hG hS hV hW0.1.ho rfl) rfl rfl hl.1 rfl (lv_room (Nat.le_of_ble_eq_true rfl)) d_La_work_4 ⟨Nat.le_of_ble_eq_true rfl, Nat.le_of_ble_eq_true rfl⟩) hS hown hN (by decide +kernel) [] ⟨0, 16, 19, 19⟩ [⟨0, 16, 22, 13⟩, ⟨0, 16, 25, 21⟩] (by rw [htab]; rfl) (fun q hq => nomatch hq) rfl (by decide) (hW _ wk_La_19) (fun q_7 H locs hV hS => ?_)
      refine lv_astore_n (lv' := [(3, .ref q_7), (0, .ref b.ho), (1, .int h), (2, .ref ou)]) hx hb d_La_work_19 rfl hl (by decide) rfl (fun ls hl => ?_)
      refine lv_iconst (v := 1) hx hb d_La_work_20 (by decide) ?_
      exact W.iret (v := 1) hx hb hr (fun t9 ht hW => ⟨⟨1, V, rfl, ⟨b, σ, g, hW0, hou, lo_rf, (Or.inr (Or.inl ⟨hh0, hg, rfl, rfl⟩))⟩, mB_of ht hV⟩, hS.F ht⟩) hS.2.2 d_La_work_21
    | true =>
      by_cases hk6 : h / 1000 = 6
      · by_cases hop : σ.A (hdN h) 0 = 0
        · refine hx_callCatchL (E := xS) (hx_runV (As := [.int h]) (rest := [.int 0, .ref ou]) ⟨hx, hb, hml, hown, hts⟩ (t_Ho_work3 l hls D N0 k V b σ hW0 h hh0 hg hk6 hop) (cwV 1 hts (gi_Vw wm_La_62 wv_Ho_work ws_Ho_work wi_Ho wc_Ho_work) rfl rfl rfl (by decide +kernel) ⟨Nat.le_of_ble_eq_true rfl, Nat.le_of_ble_eq_true rfl⟩) (mP.preV hG hS hV hW0.1.ho rfl) rfl rfl hl.1 rfl (lv_room (Nat.le_of_ble_eq_true rfl)) d_La_work_4 ⟨Nat.le_of_ble_eq_true rfl, Nat.le_of_ble_eq_true rfl⟩) hS hown hN (by decide +kernel) [(⟨0, 16, 19, 19⟩, xX), (⟨0, 16, 22, 13⟩, xG)] ⟨0, 16, 25, 21⟩ [] (by rw [htab]; rfl) (by intro q hq; simp only [List.mem_cons, List.not_mem_nil, or_false] at hq; rcases hq with rfl | rfl <;> exact ⟨by decide, hW _ (by first | exact wk_La_19 | exact wk_La_13), by decide +kernel⟩) rfl (by decide) (hW _ wk_La_21) (fun q_8 H locs hV hS => ?_)
          refine lv_astore_n (lv' := [(3, .ref q_8), (0, .ref b.ho), (1, .int h), (2, .ref ou)]) hx hb d_La_work_25 rfl hl (by decide) rfl (fun ls hl => ?_)
          refine lv_iconst (v := 3) hx hb d_La_work_26 (by decide) ?_
          exact W.iret (v := 3) hx hb hr (fun t9 ht hW => ⟨⟨3, V, rfl, ⟨b, σ, g, hW0, hou, lo_rf, (Or.inr (Or.inr (Or.inr (Or.inl ⟨hh0, hg, hk6, hop, rfl, rfl⟩))))⟩, mB_of ht hV⟩, hS.F ht⟩) hS.2.2 d_La_work_27
        · refine rc_I (va_runV (As := [.int h]) (rest := [.int 0, .ref ou]) ⟨hx, hb, hml, hown, hts⟩ (c_Ho_work l D N0 k V b σ hW0 h hh0 hg hk6 hop) (cwV 1 hts (gi_Vw wm_La_62 wv_Ho_work ws_Ho_work wi_Ho wc_Ho_work) rfl rfl rfl (by decide +kernel) ⟨Nat.le_of_ble_eq_true rfl, Nat.le_of_ble_eq_true rfl⟩) (mP.preV hG hS hV hW0.1.ho rfl) rfl rfl hl.1 rfl (lv_room (Nat.le_of_ble_eq_true rfl)) d_La_work_4 ⟨Nat.le_of_ble_eq_true rfl, Nat.le_of_ble_eq_true rfl⟩) hS (fun r_9 V_10 H locs hp_11 hV hS => ?_)
          obtain ⟨hW1, hF1, e_r_9⟩ := hp_11
          have hou1 := (hF1.2 ou _ hou hlo).1
          refine lv_if_eq (tgt := 14) hx hb d_La_work_7 (by decide) (fun c_12 => ?_) (fun c_12 => ?_)
          · refine lv_lconst (v := 0) hx hb d_La_work_14 (by decide) ?_
            refine hv_last hx hb hG.K hV hS 1 hou1 rfl ((vp_in_nI (by omega) (by omega) : vp_in (nI 0) 1)) d_La_work_15 (fun H locs hV hS => ?_)
            rw [show (0 : Int32).toNatClampNeg = 0 from rfl] at hV
            replace hV : hv D vwCl N0 (hu V_10 ou (eL k 1 (vp_updL g 0 0))) H := hV
            generalize hV_V_13 : hu V_10 ou (eL k 1 (vp_updL g 0 0)) = V_13 at hV
            have hou'V_13 : V_13 ou = some (eL k 1 (vp_updL g 0 0)) := by rw [← hV_V_13]; exact hu_s
            refine lv_goto (tgt := 28) hx hb d_La_work_16 (by decide) ?_
            refine lv_iconst (v := 0) hx hb d_La_work_28 (by decide) ?_
            refine W.widen (k := 1) (n := 6) (by omega) (by omega) ?_
            exact W.iret (v := 0) hx hb hr (fun t9 ht hW => ⟨⟨0, V_13, rfl, ⟨b, _, (vp_updL g 0 0), by rw [← hV_V_13]; exact W_out hW1 (by rw [(hF1.2 ou _ hou hlo).2]; exact hlo), hou'V_13, by rw [← hV_V_13]; exact lo_of hF1 hou hlo, (Or.inr (Or.inr (Or.inr (Or.inr ⟨hh0, hg, hk6, hop, rfl, rfl, by rw [uL0, ← e_r_9, if_pos c_12]⟩))))⟩, mB_of ht hV⟩, hS.F ht⟩) hS.2.2 d_La_work_29
          · refine lv_lconst (v := 1) hx hb d_La_work_10 (by decide) ?_
            refine lv_goto (tgt := 15) hx hb d_La_work_11 (by decide) ?_
            refine hv_last hx hb hG.K hV hS 1 hou1 rfl ((vp_in_nI (by omega) (by omega) : vp_in (nI 0) 1)) d_La_work_15 (fun H locs hV hS => ?_)
            rw [show (0 : Int32).toNatClampNeg = 0 from rfl] at hV
            replace hV : hv D vwCl N0 (hu V_10 ou (eL k 1 (vp_updL g 0 1))) H := hV
            generalize hV_V_14 : hu V_10 ou (eL k 1 (vp_updL g 0 1)) = V_14 at hV
            have hou'V_14 : V_14 ou = some (eL k 1 (vp_updL g 0 1)) := by rw [← hV_V_14]; exact hu_s
            refine lv_goto (tgt := 28) hx hb d_La_work_16 (by decide) ?_
            refine lv_iconst (v := 0) hx hb d_La_work_28 (by decide) ?_
            refine W.widen (k := 1) (n := 6) (by omega) (by omega) ?_
            exact W.iret (v := 0) hx hb hr (fun t9 ht hW => ⟨⟨0, V_14, rfl, ⟨b, _, (vp_updL g 0 1), by rw [← hV_V_14]; exact W_out hW1 (by rw [(hF1.2 ou _ hou hlo).2]; exact hlo), hou'V_14, by rw [← hV_V_14]; exact lo_of hF1 hou hlo, (Or.inr (Or.inr (Or.inr (Or.inr ⟨hh0, hg, hk6, hop, rfl, rfl, by rw [uL0, ← e_r_9, if_neg c_12]⟩))))⟩, mB_of ht hV⟩, hS.F ht⟩) hS.2.2 d_La_work_29
      · refine hx_callCatchL (E := xG) (hx_runV (As := [.int h]) (rest := [.int 0, .ref ou]) ⟨hx, hb, hml, hown, hts⟩ (t_Ho_work2 l hls D N0 k V b σ hW0.1 h hh0 hg hk6) (cwV 1 hts (gi_Vw wm_La_62 wv_Ho_work ws_Ho_work wi_Ho wc_Ho_work) rfl rfl rfl (by decide +kernel) ⟨Nat.le_of_ble_eq_true rfl, Nat.le_of_ble_eq_true rfl⟩) (mP.preV hG hS hV hW0.1.ho rfl) rfl rfl hl.1 rfl (lv_room (Nat.le_of_ble_eq_true rfl)) d_La_work_4 ⟨Nat.le_of_ble_eq_true rfl, Nat.le_of_ble_eq_true rfl⟩) hS hown hN (by decide +kernel) [(⟨0, 16, 19, 19⟩, xX)] ⟨0, 16, 22, 13⟩ [⟨0, 16, 25, 21⟩] (by rw [htab]; rfl) (by intro q hq; simp only [List.mem_cons, List.not_mem_nil, or_false] at hq; rcases hq with rfl <;> exact ⟨by decide, hW _ (by first | exact wk_La_19), by decide +kernel⟩) rfl (by decide) (hW _ wk_La_13) (fun q_15 H locs hV hS => ?_)
        refine lv_astore_n (lv' := [(3, .ref q_15), (0, .ref b.ho), (1, .int h), (2, .ref ou)]) hx hb d_La_work_22 rfl hl (by decide) rfl (fun ls hl => ?_)
        refine lv_iconst (v := 2) hx hb d_La_work_23 (by decide) ?_
        exact W.iret (v := 2) hx hb hr (fun t9 ht hW => ⟨⟨2, V, rfl, ⟨b, σ, g, hW0, hou, lo_rf, (Or.inr (Or.inr (Or.inl ⟨hh0, hg, hk6, rfl, rfl⟩)))⟩, mB_of ht hV⟩, hS.F ht⟩) hS.2.2 d_La_work_24
set_option maxHeartbeats 4000000 in
set_option maxRecDepth 100000 in
/-- end -/
theorem c_La_end (l : Launch) (hls : l.stackTraces = false) (D : va_G) (N0 : Nat) (k : Nat → Nat) (V : HV) (b : HA) (σ : HS) (hW0 : hsW k V b σ) (ou : Nat) (g : Nat → Int64) (hou : V ou = some (eL k 1 g)) (hlo : 9999 < b.lb ou) (h kp : Int32) : Met l y_La_end (.codeWith y_La_end b_La_end 5 (some .int) [(0, 10, 13, 19), (0, 10, 17, 13), (0, 10, 21, 21)] :: WS) ({ frames := 9, cells := 1, slots := 6, locals := 157 }) (mPx D N0 k [.ref b.ho, .int h, .int kp, .ref ou] V) (va_Qi (fun r V' => ∃ b' σ' g', hsW k V' b' σ' ∧ V' ou = some (eL k 1 g') ∧ loFr b b' ou V V' ∧ endR σ h kp r (g' 0) σ') (mB D N0) (hA N0)) 1 6 (hA N0) := by
  refine hx_MetW (cc := b_La_end) (maxL := 5) (ret := (some .int)) (hh := [(0, 10, 13, 19), (0, 10, 17, 13), (0, 10, 21, 21)]) (by decide) rfl ?_
  intro p e s m args below meth c s₁ B hml htab hv0
  obtain ⟨rfl, ⟨hG, hN⟩, hV⟩ := hv0
  have hx := B.exec
  have hb := B.bytes
  have hr := B.returns
  have hts := atoms_spec (ws := .codeWith y_La_end b_La_end 5 (some .int) [(0, 10, 13, 19), (0, 10, 17, 13), (0, 10, 21, 21)] :: WS) B.pre
  have hW : ∀ w ∈ WS, w.before _ s = true := fun w h => hts w (List.mem_cons_of_mem _ h)
  have hown : s.vm.findClass "BoardHouseLaw" = some m.cls := findClass_of_methodNamed B.named
  have hlocks := B.notSynchronized
  have hS : va_S (hA N0) s.heap s.heap [] := va_S.rf
  have hl := lv_entry ([.ref b.ho, .int h, .int kp, .ref ou]) (n := 5) (Nat.le_of_ble_eq_true rfl)
  rw [lg_entry_eq]
  generalize (lg_sl ([.ref b.ho, .int h, .int kp, .ref ou]) ++ List.replicate (5 - (lg_sl ([.ref b.ho, .int h, .int kp, .ref ou])).length) Slot.unset).toArray = ls at hl ⊢
  have hl : lv_has ls 5 [(0, .ref b.ho), (1, .int h), (2, .int kp), (3, .ref ou)] := hl
  refine lv_aload_n hx hb d_La_end_0 rfl (lv_at hl 3 rfl) ?_
  refine lv_iconst (v := 0) hx hb d_La_end_1 (by decide) ?_
  refine lv_aload_n hx hb d_La_end_2 rfl (lv_at hl 0 rfl) ?_
  refine lv_iload_n hx hb d_La_end_3 rfl (lv_at hl 1 rfl) ?_
  refine lv_iload_n hx hb d_La_end_4 rfl (lv_at hl 2 rfl) ?_
  cases hg : gvOk σ.G h with
  | false =>
    refine hx_callCatchL (E := xX) (hx_runV (As := [.int h, .int kp]) (rest := [.int 0, .ref ou]) ⟨hx, hb, hml, hown, hts⟩ (t_Ho_end1 l hls D N0 k V b σ hW0.1 h kp hg) (cwV 2 hts (gi_Vw wm_La_65 wv_Ho_end ws_Ho_end wi_Ho wc_Ho_end) rfl rfl rfl (by decide +kernel) ⟨Nat.le_of_ble_eq_true rfl, Nat.le_of_ble_eq_true rfl⟩) (mP.preV hG hS hV hW0.1.ho rfl) rfl rfl hl.1 rfl (lv_room (Nat.le_of_ble_eq_true rfl)) d_La_end_5 ⟨Nat.le_of_ble_eq_true rfl, Nat.le_of_ble_eq_true rfl⟩) hS hown hN (by decide +kernel) [] ⟨0, 10, 13, 19⟩ [⟨0, 10, 17, 13⟩, ⟨0, 10, 21, 21⟩] (by rw [htab]; rfl) (fun q hq => nomatch hq) rfl (by decide) (hW _ wk_La_19) (fun q_1 H locs hV hS => ?_)
    refine lv_astore (lv' := [(4, .ref q_1), (0, .ref b.ho), (1, .int h), (2, .int kp), (3, .ref ou)]) hx hb d_La_end_13 hl (by decide) rfl (fun ls hl => ?_)
    refine lv_iconst (v := 1) hx hb d_La_end_15 (by decide) ?_
    exact W.iret (v := 1) hx hb hr (fun t9 ht hW => ⟨⟨1, V, rfl, ⟨b, σ, g, hW0, hou, lo_rf, (Or.inl ⟨hg, rfl, rfl⟩)⟩, mB_of ht hV⟩, hS.F ht⟩) hS.2.2 d_La_end_16
  | true =>
    by_cases hk6 : h / 1000 = 6
    · by_cases hop : σ.A (hdN h) 0 = 0
      · refine hx_callCatchL (E := xS) (hx_runV (As := [.int h, .int kp]) (rest := [.int 0, .ref ou]) ⟨hx, hb, hml, hown, hts⟩ (t_Ho_end3 l hls D N0 k V b σ hW0 h kp hg hk6 hop) (cwV 2 hts (gi_Vw wm_La_65 wv_Ho_end ws_Ho_end wi_Ho wc_Ho_end) rfl rfl rfl (by decide +kernel) ⟨Nat.le_of_ble_eq_true rfl, Nat.le_of_ble_eq_true rfl⟩) (mP.preV hG hS hV hW0.1.ho rfl) rfl rfl hl.1 rfl (lv_room (Nat.le_of_ble_eq_true rfl)) d_La_end_5 ⟨Nat.le_of_ble_eq_true rfl, Nat.le_of_ble_eq_true rfl⟩) hS hown hN (by decide +kernel) [(⟨0, 10, 13, 19⟩, xX), (⟨0, 10, 17, 13⟩, xG)] ⟨0, 10, 21, 21⟩ [] (by rw [htab]; rfl) (by intro q hq; simp only [List.mem_cons, List.not_mem_nil, or_false] at hq; rcases hq with rfl | rfl <;> exact ⟨by decide, hW _ (by first | exact wk_La_19 | exact wk_La_13), by decide +kernel⟩) rfl (by decide) (hW _ wk_La_21) (fun q_2 H locs hV hS => ?_)
        refine lv_astore (lv' := [(4, .ref q_2), (0, .ref b.ho), (1, .int h), (2, .int kp), (3, .ref ou)]) hx hb d_La_end_21 hl (by decide) rfl (fun ls hl => ?_)
        refine lv_iconst (v := 3) hx hb d_La_end_23 (by decide) ?_
        exact W.iret (v := 3) hx hb hr (fun t9 ht hW => ⟨⟨3, V, rfl, ⟨b, σ, g, hW0, hou, lo_rf, (Or.inr (Or.inr (Or.inl ⟨hg, hk6, hop, rfl, rfl⟩)))⟩, mB_of ht hV⟩, hS.F ht⟩) hS.2.2 d_La_end_24
      · refine rc_I (va_runV (As := [.int h, .int kp]) (rest := [.int 0, .ref ou]) ⟨hx, hb, hml, hown, hts⟩ (c_Ho_end l D N0 k V b σ hW0 h kp hg hk6 hop) (cwV 2 hts (gi_Vw wm_La_65 wv_Ho_end ws_Ho_end wi_Ho wc_Ho_end) rfl rfl rfl (by decide +kernel) ⟨Nat.le_of_ble_eq_true rfl, Nat.le_of_ble_eq_true rfl⟩) (mP.preV hG hS hV hW0.1.ho rfl) rfl rfl hl.1 rfl (lv_room (Nat.le_of_ble_eq_true rfl)) d_La_end_5 ⟨Nat.le_of_ble_eq_true rfl, Nat.le_of_ble_eq_true rfl⟩) hS (fun r_3 V_4 H locs hp_5 hV hS => ?_)
        obtain ⟨hW1, hF1, e_r_3⟩ := hp_5
        have hou1 := (hF1.2 ou _ hou hlo).1
        refine lv_i2l hx hb d_La_end_8 rfl ?_
        refine hv_last hx hb hG.K hV hS 1 hou1 rfl ((vp_in_nI (by omega) (by omega) : vp_in (nI 0) 1)) d_La_end_9 (fun H locs hV hS => ?_)
        rw [show (0 : Int32).toNatClampNeg = 0 from rfl] at hV
        replace hV : hv D vwCl N0 (hu V_4 ou (eL k 1 (vp_updL g 0 r_3.toInt64))) H := hV
        generalize hV_V_6 : hu V_4 ou (eL k 1 (vp_updL g 0 r_3.toInt64)) = V_6 at hV
        have hou'V_6 : V_6 ou = some (eL k 1 (vp_updL g 0 r_3.toInt64)) := by rw [← hV_V_6]; exact hu_s
        refine lv_goto (tgt := 25) hx hb d_La_end_10 (by decide) ?_
        refine lv_iconst (v := 0) hx hb d_La_end_25 (by decide) ?_
        refine W.widen (k := 1) (n := 6) (by omega) (by omega) ?_
        exact W.iret (v := 0) hx hb hr (fun t9 ht hW => ⟨⟨0, V_6, rfl, ⟨b, _, (vp_updL g 0 r_3.toInt64), by rw [← hV_V_6]; exact W_out hW1 (by rw [(hF1.2 ou _ hou hlo).2]; exact hlo), hou'V_6, by rw [← hV_V_6]; exact lo_of hF1 hou hlo, (Or.inr (Or.inr (Or.inr ⟨hg, hk6, hop, rfl, rfl, by rw [uL0, e_r_3]⟩)))⟩, mB_of ht hV⟩, hS.F ht⟩) hS.2.2 d_La_end_26
    · refine hx_callCatchL (E := xG) (hx_runV (As := [.int h, .int kp]) (rest := [.int 0, .ref ou]) ⟨hx, hb, hml, hown, hts⟩ (t_Ho_end2 l hls D N0 k V b σ hW0.1 h kp hg hk6) (cwV 2 hts (gi_Vw wm_La_65 wv_Ho_end ws_Ho_end wi_Ho wc_Ho_end) rfl rfl rfl (by decide +kernel) ⟨Nat.le_of_ble_eq_true rfl, Nat.le_of_ble_eq_true rfl⟩) (mP.preV hG hS hV hW0.1.ho rfl) rfl rfl hl.1 rfl (lv_room (Nat.le_of_ble_eq_true rfl)) d_La_end_5 ⟨Nat.le_of_ble_eq_true rfl, Nat.le_of_ble_eq_true rfl⟩) hS hown hN (by decide +kernel) [(⟨0, 10, 13, 19⟩, xX)] ⟨0, 10, 17, 13⟩ [⟨0, 10, 21, 21⟩] (by rw [htab]; rfl) (by intro q hq; simp only [List.mem_cons, List.not_mem_nil, or_false] at hq; rcases hq with rfl <;> exact ⟨by decide, hW _ (by first | exact wk_La_19), by decide +kernel⟩) rfl (by decide) (hW _ wk_La_13) (fun q_7 H locs hV hS => ?_)
      refine lv_astore (lv' := [(4, .ref q_7), (0, .ref b.ho), (1, .int h), (2, .int kp), (3, .ref ou)]) hx hb d_La_end_17 hl (by decide) rfl (fun ls hl => ?_)
      refine lv_iconst (v := 2) hx hb d_La_end_19 (by decide) ?_
      exact W.iret (v := 2) hx hb hr (fun t9 ht hW => ⟨⟨2, V, rfl, ⟨b, σ, g, hW0, hou, lo_rf, (Or.inr (Or.inl ⟨hg, hk6, rfl, rfl⟩))⟩, mB_of ht hV⟩, hS.F ht⟩) hS.2.2 d_La_end_20
set_option maxHeartbeats 4000000 in
set_option maxRecDepth 100000 in
/-- version -/
theorem c_La_version (l : Launch) (hls : l.stackTraces = false) (D : va_G) (N0 : Nat) (k : Nat → Nat) (V : HV) (b : HA) (σ : HS) (hW0 : hsW k V b σ) (ou : Nat) (g : Nat → Int64) (hou : V ou = some (eL k 1 g)) (hlo : 9999 < b.lb ou) : Met l y_La_version (.codeWith y_La_version b_La_version 3 (some .int) [(0, 8, 11, 21)] :: WS) ({ frames := 8, cells := 2, slots := 151, locals := 135 }) (mPx D N0 k [.ref b.ho, .ref ou] V) (va_Qi (fun r V' => ∃ b' σ' g', hsW k V' b' σ' ∧ V' ou = some (eL k 1 g') ∧ loFr b b' ou V V' ∧ versionR σ  r (g' 0) σ') (mB D N0) (hA N0)) 2 151 (hA N0) := by
  refine hx_MetW (cc := b_La_version) (maxL := 3) (ret := (some .int)) (hh := [(0, 8, 11, 21)]) (by decide) rfl ?_
  intro p e s m args below meth c s₁ B hml htab hv0
  obtain ⟨rfl, ⟨hG, hN⟩, hV⟩ := hv0
  have hx := B.exec
  have hb := B.bytes
  have hr := B.returns
  have hts := atoms_spec (ws := .codeWith y_La_version b_La_version 3 (some .int) [(0, 8, 11, 21)] :: WS) B.pre
  have hW : ∀ w ∈ WS, w.before _ s = true := fun w h => hts w (List.mem_cons_of_mem _ h)
  have hown : s.vm.findClass "BoardHouseLaw" = some m.cls := findClass_of_methodNamed B.named
  have hlocks := B.notSynchronized
  have hS : va_S (hA N0) s.heap s.heap [] := va_S.rf
  have hl := lv_entry ([.ref b.ho, .ref ou]) (n := 3) (Nat.le_of_ble_eq_true rfl)
  rw [lg_entry_eq]
  generalize (lg_sl ([.ref b.ho, .ref ou]) ++ List.replicate (3 - (lg_sl ([.ref b.ho, .ref ou])).length) Slot.unset).toArray = ls at hl ⊢
  have hl : lv_has ls 3 [(0, .ref b.ho), (1, .ref ou)] := hl
  refine lv_aload_n hx hb d_La_version_0 rfl (lv_at hl 1 rfl) ?_
  refine lv_iconst (v := 0) hx hb d_La_version_1 (by decide) ?_
  refine lv_aload_n hx hb d_La_version_2 rfl (lv_at hl 0 rfl) ?_
  cases hno1 : anyF (opn σ.A) 0 10 with
  | false =>
    refine rc_I (va_runV (As := []) (rest := [.int 0, .ref ou]) ⟨hx, hb, hml, hown, hts⟩ (c_Ho_version l D N0 k V b σ hW0  hno1) (cwV 0 hts (gi_Vw wm_La_69 wv_Ho_version ws_Ho_version wi_Ho wc_Ho_version) rfl rfl rfl (by decide +kernel) ⟨Nat.le_of_ble_eq_true rfl, Nat.le_of_ble_eq_true rfl⟩) (mP.preV hG hS hV hW0.1.ho rfl) rfl rfl hl.1 rfl (lv_room (Nat.le_of_ble_eq_true rfl)) d_La_version_3 ⟨Nat.le_of_ble_eq_true rfl, Nat.le_of_ble_eq_true rfl⟩) hS (fun r_1 V_2 H locs hp_3 hV hS => ?_)
    obtain ⟨b1, W9, hW9, hW1, hF1, e_r_1⟩ := hp_3
    have hou1 := (hF1.2 ou _ hou hlo).1
    refine lv_i2l hx hb d_La_version_6 rfl ?_
    refine hv_last hx hb hG.K hV hS 1 hou1 rfl ((vp_in_nI (by omega) (by omega) : vp_in (nI 0) 1)) d_La_version_7 (fun H locs hV hS => ?_)
    rw [show (0 : Int32).toNatClampNeg = 0 from rfl] at hV
    replace hV : hv D vwCl N0 (hu V_2 ou (eL k 1 (vp_updL g 0 r_1.toInt64))) H := hV
    generalize hV_V_4 : hu V_2 ou (eL k 1 (vp_updL g 0 r_1.toInt64)) = V_4 at hV
    have hou'V_4 : V_4 ou = some (eL k 1 (vp_updL g 0 r_1.toInt64)) := by rw [← hV_V_4]; exact hu_s
    refine lv_goto (tgt := 14) hx hb d_La_version_8 (by decide) ?_
    refine lv_iconst (v := 0) hx hb d_La_version_14 (by decide) ?_
    exact W.iret (v := 0) hx hb hr (fun t9 ht hW => ⟨⟨0, V_4, rfl, ⟨b1, _, (vp_updL g 0 r_1.toInt64), by rw [← hV_V_4]; exact W_out hW1 (by rw [(hF1.2 ou _ hou hlo).2]; exact hlo), hou'V_4, by rw [← hV_V_4]; exact lo_of hF1 hou hlo, (Or.inr ⟨hno1, rfl, W9, hW9, rfl, by rw [uL0, e_r_1]⟩)⟩, mB_of ht hV⟩, hS.F ht⟩) hS.2.2 d_La_version_15
  | true =>
    refine hx_callCatchL (E := xS) (hx_runV (As := []) (rest := [.int 0, .ref ou]) ⟨hx, hb, hml, hown, hts⟩ (t_Ho_version1 l hls D N0 k V b σ hW0.1  hno1) (cwV 0 hts (gi_Vw wm_La_69 wv_Ho_version ws_Ho_version wi_Ho wc_Ho_version) rfl rfl rfl (by decide +kernel) ⟨Nat.le_of_ble_eq_true rfl, Nat.le_of_ble_eq_true rfl⟩) (mP.preV hG hS hV hW0.1.ho rfl) rfl rfl hl.1 rfl (lv_room (Nat.le_of_ble_eq_true rfl)) d_La_version_3 ⟨Nat.le_of_ble_eq_true rfl, Nat.le_of_ble_eq_true rfl⟩) hS hown hN (by decide +kernel) [] ⟨0, 8, 11, 21⟩ [] (by rw [htab]; rfl) (fun q hq => nomatch hq) rfl (by decide) (hW _ wk_La_21) (fun q_5 H locs hV hS => ?_)
    refine lv_astore_n (lv' := [(2, .ref q_5), (0, .ref b.ho), (1, .ref ou)]) hx hb d_La_version_11 rfl hl (by decide) rfl (fun ls hl => ?_)
    refine lv_iconst (v := 1) hx hb d_La_version_12 (by decide) ?_
    refine W.widen (k := 2) (n := 151) (by omega) (by omega) ?_
    exact W.iret (v := 1) hx hb hr (fun t9 ht hW => ⟨⟨1, V, rfl, ⟨b, σ, g, hW0, hou, lo_rf, (Or.inl ⟨hno1, rfl, rfl⟩)⟩, mB_of ht hV⟩, hS.F ht⟩) hS.2.2 d_La_version_13
set_option maxHeartbeats 4000000 in
set_option maxRecDepth 100000 in
/-- back -/
theorem c_La_back (l : Launch) (hls : l.stackTraces = false) (D : va_G) (N0 : Nat) (k : Nat → Nat) (V : HV) (b : HA) (σ : HS) (hW0 : hsW k V b σ) (ou : Nat) (g : Nat → Int64) (hou : V ou = some (eL k 1 g)) (hlo : 9999 < b.lb ou) (h : Int32) : Met l y_La_back (.codeWith y_La_back b_La_back 4 (some .int) [(0, 9, 12, 19), (0, 9, 15, 13), (0, 9, 18, 21)] :: WS) ({ frames := 8, cells := 1, slots := 6, locals := 136 }) (mPx D N0 k [.ref b.ho, .int h, .ref ou] V) (va_Qi (fun r V' => ∃ b' σ' g', hsW k V' b' σ' ∧ V' ou = some (eL k 1 g') ∧ loFr b b' ou V V' ∧ backR σ h r (g' 0) σ') (mB D N0) (hA N0)) 1 6 (hA N0) := by
  refine hx_MetW (cc := b_La_back) (maxL := 4) (ret := (some .int)) (hh := [(0, 9, 12, 19), (0, 9, 15, 13), (0, 9, 18, 21)]) (by decide) rfl ?_
  intro p e s m args below meth c s₁ B hml htab hv0
  obtain ⟨rfl, ⟨hG, hN⟩, hV⟩ := hv0
  have hx := B.exec
  have hb := B.bytes
  have hr := B.returns
  have hts := atoms_spec (ws := .codeWith y_La_back b_La_back 4 (some .int) [(0, 9, 12, 19), (0, 9, 15, 13), (0, 9, 18, 21)] :: WS) B.pre
  have hW : ∀ w ∈ WS, w.before _ s = true := fun w h => hts w (List.mem_cons_of_mem _ h)
  have hown : s.vm.findClass "BoardHouseLaw" = some m.cls := findClass_of_methodNamed B.named
  have hlocks := B.notSynchronized
  have hS : va_S (hA N0) s.heap s.heap [] := va_S.rf
  have hl := lv_entry ([.ref b.ho, .int h, .ref ou]) (n := 4) (Nat.le_of_ble_eq_true rfl)
  rw [lg_entry_eq]
  generalize (lg_sl ([.ref b.ho, .int h, .ref ou]) ++ List.replicate (4 - (lg_sl ([.ref b.ho, .int h, .ref ou])).length) Slot.unset).toArray = ls at hl ⊢
  have hl : lv_has ls 4 [(0, .ref b.ho), (1, .int h), (2, .ref ou)] := hl
  refine lv_aload_n hx hb d_La_back_0 rfl (lv_at hl 2 rfl) ?_
  refine lv_iconst (v := 0) hx hb d_La_back_1 (by decide) ?_
  refine lv_aload_n hx hb d_La_back_2 rfl (lv_at hl 0 rfl) ?_
  refine lv_iload_n hx hb d_La_back_3 rfl (lv_at hl 1 rfl) ?_
  cases hg : gvOk σ.G h with
  | false =>
    refine hx_callCatchL (E := xX) (hx_runV (As := [.int h]) (rest := [.int 0, .ref ou]) ⟨hx, hb, hml, hown, hts⟩ (t_Ho_back1 l hls D N0 k V b σ hW0.1 h hg) (cwV 1 hts (gi_Vw wm_La_73 wv_Ho_back ws_Ho_back wi_Ho wc_Ho_back) rfl rfl rfl (by decide +kernel) ⟨Nat.le_of_ble_eq_true rfl, Nat.le_of_ble_eq_true rfl⟩) (mP.preV hG hS hV hW0.1.ho rfl) rfl rfl hl.1 rfl (lv_room (Nat.le_of_ble_eq_true rfl)) d_La_back_4 ⟨Nat.le_of_ble_eq_true rfl, Nat.le_of_ble_eq_true rfl⟩) hS hown hN (by decide +kernel) [] ⟨0, 9, 12, 19⟩ [⟨0, 9, 15, 13⟩, ⟨0, 9, 18, 21⟩] (by rw [htab]; rfl) (fun q hq => nomatch hq) rfl (by decide) (hW _ wk_La_19) (fun q_1 H locs hV hS => ?_)
    refine lv_astore_n (lv' := [(3, .ref q_1), (0, .ref b.ho), (1, .int h), (2, .ref ou)]) hx hb d_La_back_12 rfl hl (by decide) rfl (fun ls hl => ?_)
    refine lv_iconst (v := 1) hx hb d_La_back_13 (by decide) ?_
    exact W.iret (v := 1) hx hb hr (fun t9 ht hW => ⟨⟨1, V, rfl, ⟨b, σ, g, hW0, hou, lo_rf, (Or.inl ⟨hg, rfl, rfl⟩)⟩, mB_of ht hV⟩, hS.F ht⟩) hS.2.2 d_La_back_14
  | true =>
    by_cases hk7 : h / 1000 = 7
    · cases hno1 : anyF (opn σ.A) 0 10 with
      | false =>
        refine rc_I (va_runV (As := [.int h]) (rest := [.int 0, .ref ou]) ⟨hx, hb, hml, hown, hts⟩ (c_Ho_back l D N0 k V b σ hW0 h hg hk7 hno1) (cwV 1 hts (gi_Vw wm_La_73 wv_Ho_back ws_Ho_back wi_Ho wc_Ho_back) rfl rfl rfl (by decide +kernel) ⟨Nat.le_of_ble_eq_true rfl, Nat.le_of_ble_eq_true rfl⟩) (mP.preV hG hS hV hW0.1.ho rfl) rfl rfl hl.1 rfl (lv_room (Nat.le_of_ble_eq_true rfl)) d_La_back_4 ⟨Nat.le_of_ble_eq_true rfl, Nat.le_of_ble_eq_true rfl⟩) hS (fun r_2 V_3 H locs hp_4 hV hS => ?_)
        obtain ⟨hW1, hF1, e_r_2⟩ := hp_4
        have hou1 := (hF1.2 ou _ hou hlo).1
        refine lv_i2l hx hb d_La_back_7 rfl ?_
        refine hv_last hx hb hG.K hV hS 1 hou1 rfl ((vp_in_nI (by omega) (by omega) : vp_in (nI 0) 1)) d_La_back_8 (fun H locs hV hS => ?_)
        rw [show (0 : Int32).toNatClampNeg = 0 from rfl] at hV
        replace hV : hv D vwCl N0 (hu V_3 ou (eL k 1 (vp_updL g 0 r_2.toInt64))) H := hV
        generalize hV_V_5 : hu V_3 ou (eL k 1 (vp_updL g 0 r_2.toInt64)) = V_5 at hV
        have hou'V_5 : V_5 ou = some (eL k 1 (vp_updL g 0 r_2.toInt64)) := by rw [← hV_V_5]; exact hu_s
        refine lv_goto (tgt := 21) hx hb d_La_back_9 (by decide) ?_
        refine lv_iconst (v := 0) hx hb d_La_back_21 (by decide) ?_
        refine W.widen (k := 1) (n := 6) (by omega) (by omega) ?_
        exact W.iret (v := 0) hx hb hr (fun t9 ht hW => ⟨⟨0, V_5, rfl, ⟨b, _, (vp_updL g 0 r_2.toInt64), by rw [← hV_V_5]; exact W_out hW1 (by rw [(hF1.2 ou _ hou hlo).2]; exact hlo), hou'V_5, by rw [← hV_V_5]; exact lo_of hF1 hou hlo, (Or.inr (Or.inr (Or.inr ⟨hg, hk7, hno1, rfl, rfl, by rw [uL0, e_r_2]⟩)))⟩, mB_of ht hV⟩, hS.F ht⟩) hS.2.2 d_La_back_22
      | true =>
        refine hx_callCatchL (E := xS) (hx_runV (As := [.int h]) (rest := [.int 0, .ref ou]) ⟨hx, hb, hml, hown, hts⟩ (t_Ho_back3 l hls D N0 k V b σ hW0.1 h hg hk7 hno1) (cwV 1 hts (gi_Vw wm_La_73 wv_Ho_back ws_Ho_back wi_Ho wc_Ho_back) rfl rfl rfl (by decide +kernel) ⟨Nat.le_of_ble_eq_true rfl, Nat.le_of_ble_eq_true rfl⟩) (mP.preV hG hS hV hW0.1.ho rfl) rfl rfl hl.1 rfl (lv_room (Nat.le_of_ble_eq_true rfl)) d_La_back_4 ⟨Nat.le_of_ble_eq_true rfl, Nat.le_of_ble_eq_true rfl⟩) hS hown hN (by decide +kernel) [(⟨0, 9, 12, 19⟩, xX), (⟨0, 9, 15, 13⟩, xG)] ⟨0, 9, 18, 21⟩ [] (by rw [htab]; rfl) (by intro q hq; simp only [List.mem_cons, List.not_mem_nil, or_false] at hq; rcases hq with rfl | rfl <;> exact ⟨by decide, hW _ (by first | exact wk_La_19 | exact wk_La_13), by decide +kernel⟩) rfl (by decide) (hW _ wk_La_21) (fun q_6 H locs hV hS => ?_)
        refine lv_astore_n (lv' := [(3, .ref q_6), (0, .ref b.ho), (1, .int h), (2, .ref ou)]) hx hb d_La_back_18 rfl hl (by decide) rfl (fun ls hl => ?_)
        refine lv_iconst (v := 3) hx hb d_La_back_19 (by decide) ?_
        exact W.iret (v := 3) hx hb hr (fun t9 ht hW => ⟨⟨3, V, rfl, ⟨b, σ, g, hW0, hou, lo_rf, (Or.inr (Or.inr (Or.inl ⟨hg, hk7, hno1, rfl, rfl⟩)))⟩, mB_of ht hV⟩, hS.F ht⟩) hS.2.2 d_La_back_20
    · refine hx_callCatchL (E := xG) (hx_runV (As := [.int h]) (rest := [.int 0, .ref ou]) ⟨hx, hb, hml, hown, hts⟩ (t_Ho_back2 l hls D N0 k V b σ hW0.1 h hg hk7) (cwV 1 hts (gi_Vw wm_La_73 wv_Ho_back ws_Ho_back wi_Ho wc_Ho_back) rfl rfl rfl (by decide +kernel) ⟨Nat.le_of_ble_eq_true rfl, Nat.le_of_ble_eq_true rfl⟩) (mP.preV hG hS hV hW0.1.ho rfl) rfl rfl hl.1 rfl (lv_room (Nat.le_of_ble_eq_true rfl)) d_La_back_4 ⟨Nat.le_of_ble_eq_true rfl, Nat.le_of_ble_eq_true rfl⟩) hS hown hN (by decide +kernel) [(⟨0, 9, 12, 19⟩, xX)] ⟨0, 9, 15, 13⟩ [⟨0, 9, 18, 21⟩] (by rw [htab]; rfl) (by intro q hq; simp only [List.mem_cons, List.not_mem_nil, or_false] at hq; rcases hq with rfl <;> exact ⟨by decide, hW _ (by first | exact wk_La_19), by decide +kernel⟩) rfl (by decide) (hW _ wk_La_13) (fun q_7 H locs hV hS => ?_)
      refine lv_astore_n (lv' := [(3, .ref q_7), (0, .ref b.ho), (1, .int h), (2, .ref ou)]) hx hb d_La_back_15 rfl hl (by decide) rfl (fun ls hl => ?_)
      refine lv_iconst (v := 2) hx hb d_La_back_16 (by decide) ?_
      exact W.iret (v := 2) hx hb hr (fun t9 ht hW => ⟨⟨2, V, rfl, ⟨b, σ, g, hW0, hou, lo_rf, (Or.inr (Or.inl ⟨hg, hk7, rfl, rfl⟩))⟩, mB_of ht hV⟩, hS.F ht⟩) hS.2.2 d_La_back_17
