/-! Snapshot over all things -/
def naG (f : Nat → Option Nat) (T : Nat → Nat → Int32) (h0 : Nat → Int32) (i j : Nat) : Int32 := if j < i ∧ f j ≠ none ∧ h0 j = -1 then stT (T j) else h0 j
theorem na_none {f : Nat → Option Nat} {T : Nat → Nat → Int32} {h0 g : Nat → Int32} {i : Nat} (h : ∀ j, j < 150 → g j = naG f T h0 i j) (hf : f i = none) : ∀ j, j < 150 → g j = naG f T h0 (i + 1) j := by
  intro j hj
  rw [h j hj, naG, naG]
  by_cases hji : j = i
  · subst hji; rw [if_neg (by omega), if_neg (fun q => q.2.1 hf)]
  · by_cases hlt : j < i
    · simp [hlt, Nat.lt_succ_of_lt hlt]
    · rw [if_neg (by omega), if_neg (by omega)]
theorem na_some {f : Nat → Option Nat} {T : Nat → Nat → Int32} {h0 g : Nat → Int32} {i t : Nat} (h : ∀ j, j < 150 → g j = naG f T h0 i j) (hi : i < 150) (hf : f i = some t) : ∀ j, j < 150 → (if g i = -1 then upd g i (th_st (T i 6) (T i 7) (T i 5)) else g) j = naG f T h0 (i + 1) j := by
  intro j hj
  have hgi : g i = h0 i := by rw [h i hi, naG, if_neg (by omega)]
  have hfi : f i ≠ none := by rw [hf]; exact fun q => by cases q
  by_cases hji : j = i
  · subst hji
    by_cases hm : g j = -1
    · rw [if_pos hm, up_s, naG, if_pos ⟨by omega, hfi, by rw [← hgi]; exact hm⟩]; rfl
    · rw [if_neg hm, hgi, naG, if_neg (fun q => hm (by rw [hgi]; exact q.2.2))]
  · have hb : naG f T h0 (i + 1) j = naG f T h0 i j := by
      rw [naG, naG]
      by_cases hlt : j < i
      · simp [hlt, Nat.lt_succ_of_lt hlt]
      · rw [if_neg (by omega), if_neg (by omega)]
    rw [hb, ← h j hj]
    by_cases hm : g i = -1
    · rw [if_pos hm, up_n hji]
    · rw [if_neg hm]
/-- the numbers of slots below i are new (where a thing is), the others old -/
def nwT (f : Nat → Option Nat) (T N T1 : Nat → Nat → Int32) (i : Nat) : Prop := ∀ j, j < 150 → T1 j = if j < i ∧ f j ≠ none then N j else T j
theorem nw_0 {f : Nat → Option Nat} {T N : Nat → Nat → Int32} : nwT f T N T 0 := fun j hj => by rw [if_neg (by omega)]
theorem nw_i {f : Nat → Option Nat} {T N T1 : Nat → Nat → Int32} {i : Nat} (h : nwT f T N T1 i) (hi : i < 150) : T1 i = T i := by rw [h i hi, if_neg (by omega)]
theorem nw_same {f : Nat → Option Nat} {T N T1 : Nat → Nat → Int32} {i : Nat} (h : nwT f T N T1 i) (he : f i = none ∨ N i = T i) : nwT f T N T1 (i + 1) := by
  intro j hj
  rw [h j hj]
  by_cases hji : j = i
  · subst hji
    rw [if_neg (by omega)]
    rcases he with he | he
    · rw [if_neg (fun q => q.2 he)]
    · split
      · rw [he]
      · rfl
  · by_cases hlt : j < i
    · simp [hlt, Nat.lt_succ_of_lt hlt]
    · rw [if_neg (by omega), if_neg (by omega)]
theorem nw_put {f : Nat → Option Nat} {T N T1 : Nat → Nat → Int32} {i t : Nat} {R : Nat → Int32} (h : nwT f T N T1 i) (hf : f i = some t) (hR : R = N i) : nwT f T N (updT T1 i R) (i + 1) := by
  intro j hj
  by_cases hji : j = i
  · subst hji; rw [uT_s, if_pos ⟨by omega, by rw [hf]; exact fun q => by cases q⟩, hR]
  · rw [uT_n hji, h j hj]
    by_cases hlt : j < i
    · simp [hlt, Nat.lt_succ_of_lt hlt]
    · rw [if_neg (by omega), if_neg (by omega)]
theorem nw_end {f : Nat → Option Nat} {T N T1 : Nat → Nat → Int32} {i : Nat} (h : nwT f T N T1 i) (hi : 150 ≤ i) : ∀ j, j < 150 → T1 j = if f j ≠ none then N j else T j := by
  intro j hj
  rw [h j hj]
  by_cases hf : f j ≠ none
  · rw [if_pos ⟨by omega, hf⟩, if_pos hf]
  · rw [if_neg (fun q => hf q.2), if_neg hf]
def rkT (T : Nat → Nat → Int32) (h0 : Nat → Int32) : Nat → Nat → Int32 := fun j => if h0 j = -1 then T j else rsT (T j) (h0 j)
def raT (T : Nat → Nat → Int32) (h0 : Nat → Int32) : Nat → Nat → Int32 := fun j => roT (T j) (h0 j)
set_option maxHeartbeats 4000000 in
set_option maxRecDepth 100000 in
/-- noteAll -/
theorem c_Sn_noteAll (l : Launch) (D : va_G) (N0 : Nat) (k : Nat → Nat) (V : HV) (sn sa : Nat) (h0 : Nat → Int32) (h_sn : V sn = some (eSn sa)) (h_sa : V sa = some (eI k 150 h0)) (ta : Nat) (f : Nat → Option Nat) (ar : Nat → Nat) (T : Nat → Nat → Int32) (hT : tsOk k V ta f ar T) (hSl : slOk f T) : Met l y_Sn_noteAll (.code y_Sn_noteAll b_Sn_noteAll 6 none :: WS) ({ frames := 2, cells := 0, slots := 0, locals := 42 }) (mP D N0 k [.ref sn, .ref ta] V) (va_Qv (fun V' => ∃ g, V' = hu V sa (eI k 150 g) ∧ ∀ j, j < 150 → g j = naG f T h0 150 j) (mB D N0) (hA N0)) 0 0 (hA N0) := by
  refine Met.ofW (cc := b_Sn_noteAll) (maxL := 6) (ret := none) (by decide) rfl ?_
  intro p e s m args below meth c s₁ B hml hv0
  obtain ⟨rfl, hG, hV⟩ := hv0
  have hx := B.exec
  have hb := B.bytes
  have hr := B.returns
  have hts := atoms_spec (ws := .code y_Sn_noteAll b_Sn_noteAll 6 none :: WS) B.pre
  have hW : ∀ w ∈ WS, w.before _ s = true := fun w h => hts w (List.mem_cons_of_mem _ h)
  have hown : s.vm.findClass "BoardHouse$Snapshot" = some m.cls := findClass_of_methodNamed B.named
  have hlocks := B.notSynchronized
  have hS : va_S (hA N0) s.heap s.heap [] := va_S.rf
  have hl := lv_entry ([.ref sn, .ref ta]) (n := 6) (Nat.le_of_ble_eq_true rfl)
  rw [lg_entry_eq]
  generalize (lg_sl ([.ref sn, .ref ta]) ++ List.replicate (6 - (lg_sl ([.ref sn, .ref ta])).length) Slot.unset).toArray = ls at hl ⊢
  have hl : lv_has ls 6 [(0, .ref sn), (1, .ref ta)] := hl
  refine lv_aload_n hx hb d_Sn_noteAll_0 rfl (lv_at hl 1 rfl) ?_
  refine lv_astore_n (lv' := [(2, .ref ta), (0, .ref sn), (1, .ref ta)]) hx hb d_Sn_noteAll_1 rfl hl (by decide) rfl (fun ls hl => ?_)
  refine lv_aload_n hx hb d_Sn_noteAll_2 rfl (lv_at hl 0 rfl) ?_
  refine hv_alen hx hb hG.K hV 3 hT.1 rfl (v := nI 150) rfl d_Sn_noteAll_3 ?_
  refine lv_istore_n (lv' := [(3, .int (nI 150)), (2, .ref ta), (0, .ref sn), (1, .ref ta)]) hx hb d_Sn_noteAll_4 rfl hl (by decide) rfl (fun ls hl => ?_)
  refine lv_iconst (v := 0) hx hb d_Sn_noteAll_5 (by decide) ?_
  refine lv_istore (lv' := [(4, .int 0), (3, .int (nI 150)), (2, .ref ta), (0, .ref sn), (1, .ref ta)]) hx hb d_Sn_noteAll_6 hl (by decide) rfl (fun ls hl => ?_)
  rw [← hu_self h_sa] at hV
  have loop_1 : ∀ (n i : Nat) (g : Nat → Int32)  (H : Heap) (locs : List Loc) (ls : Array Slot), i ≤ 150 → 150 + 1 ≤ i + n → (∀ j, j < 150 → g j = naG f T h0 i j) → hv D vwCl N0 (hu V sa (eI k 150 g)) H → va_S (hA N0) s.heap H locs → lv_has ls 6 [(0, .ref sn), (1, .ref ta), (2, .ref ta), (3, .int (nI 150)), (4, .int (nI i))] → W p l e (headSpec (.code y_Sn_noteAll b_Sn_noteAll 6 none :: WS) ({ frames := 2, cells := 0, slots := 0, locals := 42 })).room s m #[.ref sn, .ref ta] below meth c H locs 0 0 (MQ below (va_Qv (fun V' => ∃ g, V' = hu V sa (eI k 150 g) ∧ ∀ j, j < 150 → g j = naG f T h0 150 j) (mB D N0) (hA N0)) #[.ref sn, .ref ta] s 0 0 (hA N0)) (F0 m 8 ls []) := by
    intro n
    induction n with
    | zero => intro i g H locs ls h1 h2; exact absurd h2 (by omega)
    | succ n ih =>
      intro i g H locs ls hi hin hI hV hS hl
      have hw1_sn : (hu V sa (eI k 150 g)) sn = some (.inr (4, [.ref sa])) := hu_o h_sa h_sn (by simp)
      have hw2_ta : (hu V sa (eI k 150 g)) ta = some (eTs k f) := hu_o h_sa hT.1 (by simp)
      refine lv_iload hx hb d_Sn_noteAll_8 (lv_at hl 4 rfl) ?_
      refine lv_iload_n hx hb d_Sn_noteAll_10 rfl (lv_at hl 3 rfl) ?_
      refine lv_icmp_ge (tgt := 37) hx hb d_Sn_noteAll_11 (by decide) (fun c_2 => ?_) (fun c_2 => ?_)
      · have hge : 150 ≤ i := nI_le' c_2 (by omega) (by omega)
        exact W.vret hx hb hr (fun t ht hW => ⟨⟨(hu V sa (eI k 150 g)), rfl, ⟨g, rfl, fun j hj => by rw [hI j hj, show i = 150 by omega]⟩, mB_of ht hV⟩, hS.F ht⟩) hS.2.2 d_Sn_noteAll_37
      · have hlt : i < 150 := nI_nle' c_2 (by omega) (by omega)
        refine lv_aload_n hx hb d_Sn_noteAll_14 rfl (lv_at hl 2 rfl) ?_
        refine lv_iload hx hb d_Sn_noteAll_15 (lv_at hl 4 rfl) ?_
        refine hv_aald (v := f i) hx hb hG.K hV 3 hw2_ta rfl (vp_in_nI (by omega) (by omega)) (by rw [nI_clamp (by omega)]) d_Sn_noteAll_17 ?_
        cases hf_3 : f i with
        | none =>
          refine W.eq (g2 := F0 m 18 ls [.null]) rfl ?_
          refine lv_astoreN (lv' := [(5, .null), (0, .ref sn), (1, .ref ta), (2, .ref ta), (3, .int (nI 150)), (4, .int (nI i))]) hx hb d_Sn_noteAll_18 hl (by decide) rfl (fun ls hl => ?_)
          refine lv_aloadN hx hb d_Sn_noteAll_20 (lv_at hl 0 rfl) ?_
          refine lv_ifnullN (tgt := 31) hx hb d_Sn_noteAll_22 (by decide) ?_
          obtain ⟨i_5, ei_5⟩ : ∃ y : Int32, y = (nI i) + 1 := ⟨_, rfl⟩
          refine lv_iinc (v := i_5) (lv' := [(4, .int i_5), (5, .null), (0, .ref sn), (1, .ref ta), (2, .ref ta), (3, .int (nI 150))]) hx hb d_Sn_noteAll_31 hl (k := 5) rfl (by rw [ei_5]; rfl) (by decide) rfl (fun ls hl => ?_)
          refine lv_goto (tgt := 8) hx hb d_Sn_noteAll_34 (by decide) ?_
          rw [nI_1] at ei_5
          subst ei_5
          exact ih (i + 1) g  _ _ _ (by omega) (by omega) (na_none hI hf_3) hV hS (lv_sub hl [2, 3, 4, 5, 0] rfl)
        | some t_4 =>
          refine W.eq (g2 := F0 m 18 ls [.ref t_4]) rfl ?_
          obtain ⟨h_t_4, ha_t_4⟩ := hT.2.1 i t_4 (by omega) hf_3
          obtain ⟨j1, hj61, hj1, hsl1⟩ := hSl i t_4 (by omega) hf_3
          have h2_t_4 : (hu V sa (eI k 150 g)) t_4 = some (eThT T ar i) := hu_o h_sa h_t_4 (by simp)
          have h2a_t_4 : (hu V sa (eI k 150 g)) (ar i) = some (eArT T i) := hu_o h_sa ha_t_4 (by simp)
          refine lv_astore (lv' := [(5, .ref t_4), (0, .ref sn), (1, .ref ta), (2, .ref ta), (3, .int (nI 150)), (4, .int (nI i))]) hx hb d_Sn_noteAll_18 hl (by decide) rfl (fun ls hl => ?_)
          refine lv_aload hx hb d_Sn_noteAll_20 (lv_at hl 0 rfl) ?_
          refine lv_ifnull hx hb d_Sn_noteAll_22 ?_
          refine lv_aload_n hx hb d_Sn_noteAll_25 rfl (lv_at hl 1 rfl) ?_
          refine lv_aload hx hb d_Sn_noteAll_26 (lv_at hl 0 rfl) ?_
          refine rc_V (va_runV (As := [.ref t_4]) (rest := []) ⟨hx, hb, hml, hown, hts⟩ (c_Sn_noteFirst l D N0 k (hu V sa (eI k 150 g)) sn sa g hw1_sn hu_s t_4 (ar i) (T i 0) (T i 1) (T i 2) (T i 3) (T i 4) (T i 5) h2_t_4 (T i 6) (T i 7) (T i 8) (T i 9) h2a_t_4 i j1 (by omega) hj61 hj1 hsl1) (cwV 1 hts (gi_V wm_Sn_30 wv_Sn_noteFirst ws_Sn_noteFirst wi_Sn wc_Sn_noteFirst) rfl rfl rfl (by decide +kernel) ⟨Nat.le_of_ble_eq_true rfl, Nat.le_of_ble_eq_true rfl⟩) (mP.preV hG hS hV hw1_sn rfl) rfl rfl hl.1 rfl (lv_room (Nat.le_of_ble_eq_true rfl)) d_Sn_noteAll_28 ⟨Nat.le_of_ble_eq_true rfl, Nat.le_of_ble_eq_true rfl⟩) hS (fun V_6 H locs hp_7 hV hS => ?_)
          rw [hp_7, hu_u] at hV
          obtain ⟨i_8, ei_8⟩ : ∃ y : Int32, y = (nI i) + 1 := ⟨_, rfl⟩
          refine lv_iinc (v := i_8) (lv' := [(4, .int i_8), (5, .ref t_4), (0, .ref sn), (1, .ref ta), (2, .ref ta), (3, .int (nI 150))]) hx hb d_Sn_noteAll_31 hl (k := 5) rfl (by rw [ei_8]; rfl) (by decide) rfl (fun ls hl => ?_)
          refine lv_goto (tgt := 8) hx hb d_Sn_noteAll_34 (by decide) ?_
          rw [nI_1] at ei_8
          subst ei_8
          exact ih (i + 1) (if g i = -1 then upd g i (th_st (T i 6) (T i 7) (T i 5)) else g)  _ _ _ (by omega) (by omega) (na_some hI (by omega) hf_3) hV hS (lv_sub hl [2, 3, 4, 5, 0] rfl)
  exact loop_1 (150 + 1 - 0) 0 h0  _ _ _ (by omega) (by omega) (fun j hj => by rw [naG, if_neg (by omega)]) hV hS (lv_sub hl [3, 4, 2, 1, 0] rfl)
set_option maxHeartbeats 4000000 in
set_option maxRecDepth 100000 in
/-- restoreKnown -/
theorem c_Sn_restoreKnown (l : Launch) (D : va_G) (N0 : Nat) (k : Nat → Nat) (V : HV) (sn sa : Nat) (h0 : Nat → Int32) (h_sn : V sn = some (eSn sa)) (h_sa : V sa = some (eI k 150 h0)) (ta : Nat) (f : Nat → Option Nat) (ar : Nat → Nat) (T : Nat → Nat → Int32) (hT : tsOk k V ta f ar T) (hSl : slOk f T) (hIn : tsIn f ar) : Met l y_Sn_restoreKnown (.code y_Sn_restoreKnown b_Sn_restoreKnown 6 none :: WS) ({ frames := 2, cells := 0, slots := 0, locals := 43 }) (mP D N0 k [.ref sn, .ref ta] V) (va_Qv (fun V' => ∃ T1, tsOk k V' ta f ar T1 ∧ tsFr f ar V V' ∧ ∀ j, j < 150 → T1 j = if f j ≠ none then (rkT T h0) j else T j) (mB D N0) (hA N0)) 0 0 (hA N0) := by
  refine Met.ofW (cc := b_Sn_restoreKnown) (maxL := 6) (ret := none) (by decide) rfl ?_
  intro p e s m args below meth c s₁ B hml hv0
  obtain ⟨rfl, hG, hV⟩ := hv0
  have hx := B.exec
  have hb := B.bytes
  have hr := B.returns
  have hts := atoms_spec (ws := .code y_Sn_restoreKnown b_Sn_restoreKnown 6 none :: WS) B.pre
  have hW : ∀ w ∈ WS, w.before _ s = true := fun w h => hts w (List.mem_cons_of_mem _ h)
  have hown : s.vm.findClass "BoardHouse$Snapshot" = some m.cls := findClass_of_methodNamed B.named
  have hlocks := B.notSynchronized
  have hS : va_S (hA N0) s.heap s.heap [] := va_S.rf
  have hl := lv_entry ([.ref sn, .ref ta]) (n := 6) (Nat.le_of_ble_eq_true rfl)
  rw [lg_entry_eq]
  generalize (lg_sl ([.ref sn, .ref ta]) ++ List.replicate (6 - (lg_sl ([.ref sn, .ref ta])).length) Slot.unset).toArray = ls at hl ⊢
  have hl : lv_has ls 6 [(0, .ref sn), (1, .ref ta)] := hl
  refine lv_aload_n hx hb d_Sn_restoreKnown_0 rfl (lv_at hl 1 rfl) ?_
  refine lv_astore_n (lv' := [(2, .ref ta), (0, .ref sn), (1, .ref ta)]) hx hb d_Sn_restoreKnown_1 rfl hl (by decide) rfl (fun ls hl => ?_)
  refine lv_aload_n hx hb d_Sn_restoreKnown_2 rfl (lv_at hl 0 rfl) ?_
  refine hv_alen hx hb hG.K hV 3 hT.1 rfl (v := nI 150) rfl d_Sn_restoreKnown_3 ?_
  refine lv_istore_n (lv' := [(3, .int (nI 150)), (2, .ref ta), (0, .ref sn), (1, .ref ta)]) hx hb d_Sn_restoreKnown_4 rfl hl (by decide) rfl (fun ls hl => ?_)
  refine lv_iconst (v := 0) hx hb d_Sn_restoreKnown_5 (by decide) ?_
  refine lv_istore (lv' := [(4, .int 0), (3, .int (nI 150)), (2, .ref ta), (0, .ref sn), (1, .ref ta)]) hx hb d_Sn_restoreKnown_6 hl (by decide) rfl (fun ls hl => ?_)
  have loop_1 : ∀ (n i : Nat) (V1 : HV) (T1 : Nat → Nat → Int32) (H : Heap) (locs : List Loc) (ls : Array Slot), i ≤ 150 → 151 ≤ i + n → tsOk k V1 ta f ar T1 → tsFr f ar V V1 → nwT f T (rkT T h0) T1 i → (True) → hv D vwCl N0 V1 H → va_S (hA N0) s.heap H locs → lv_has ls 6 [(0, .ref sn), (1, .ref ta), (2, .ref ta), (3, .int (nI 150)), (4, .int (nI i))] → W p l e (headSpec (.code y_Sn_restoreKnown b_Sn_restoreKnown 6 none :: WS) ({ frames := 2, cells := 0, slots := 0, locals := 43 })).room s m #[.ref sn, .ref ta] below meth c H locs 0 0 (MQ below (va_Qv (fun V' => ∃ T1, tsOk k V' ta f ar T1 ∧ tsFr f ar V V' ∧ ∀ j, j < 150 → T1 j = if f j ≠ none then (rkT T h0) j else T j) (mB D N0) (hA N0)) #[.ref sn, .ref ta] s 0 0 (hA N0)) (F0 m 8 ls []) := by
    intro n
    induction n with
    | zero => intro i V1 T1  H locs ls h1 h2; exact absurd h2 (by omega)
    | succ n ih =>
      intro i V1 T1  H locs ls hi hin hT1 hF1 hN1 hI hV hS hl
      have hw_sn : V1 sn = some (.inr (4, [.ref sa])) := (hF1 sn (ts_out hT h_sn (by intros; simp) (by intros; simp))).trans h_sn
      have hw_sa : V1 sa = some (eI k 150 h0) := (hF1 sa (ts_out hT h_sa (by intros; simp) (by intros; simp))).trans h_sa
      refine lv_iload hx hb d_Sn_restoreKnown_8 (lv_at hl 4 rfl) ?_
      refine lv_iload_n hx hb d_Sn_restoreKnown_10 rfl (lv_at hl 3 rfl) ?_
      refine lv_icmp_ge (tgt := 60) hx hb d_Sn_restoreKnown_11 (by decide) (fun c_2 => ?_) (fun c_2 => ?_)
      · have hge : 150 ≤ i := nI_le' c_2 (by omega) (by omega)
        exact W.vret hx hb hr (fun t ht hW => ⟨⟨V1, rfl, ⟨T1, hT1, hF1, nw_end hN1 hge⟩, mB_of ht hV⟩, hS.F ht⟩) hS.2.2 d_Sn_restoreKnown_60
      · have hlt : i < 150 := nI_nle' c_2 (by omega) (by omega)
        refine lv_aload_n hx hb d_Sn_restoreKnown_14 rfl (lv_at hl 2 rfl) ?_
        refine lv_iload hx hb d_Sn_restoreKnown_15 (lv_at hl 4 rfl) ?_
        refine hv_aald (v := f i) hx hb hG.K hV 3 hT1.1 rfl (vp_in_nI (by omega) (by omega)) (by rw [nI_clamp (by omega)]) d_Sn_restoreKnown_17 ?_
        cases hf_3 : f i with
        | none =>
          refine W.eq (g2 := F0 m 18 ls [.null]) rfl ?_
          refine lv_astoreN (lv' := [(5, .null), (0, .ref sn), (1, .ref ta), (2, .ref ta), (3, .int (nI 150)), (4, .int (nI i))]) hx hb d_Sn_restoreKnown_18 hl (by decide) rfl (fun ls hl => ?_)
          refine lv_aloadN hx hb d_Sn_restoreKnown_20 (lv_at hl 0 rfl) ?_
          refine lv_ifnullN (tgt := 54) hx hb d_Sn_restoreKnown_22 (by decide) ?_
          obtain ⟨i_5, ei_5⟩ : ∃ y : Int32, y = (nI i) + 1 := ⟨_, rfl⟩
          refine lv_iinc (v := i_5) (lv' := [(4, .int i_5), (5, .null), (0, .ref sn), (1, .ref ta), (2, .ref ta), (3, .int (nI 150))]) hx hb d_Sn_restoreKnown_54 hl (k := 5) rfl (by rw [ei_5]; rfl) (by decide) rfl (fun ls hl => ?_)
          refine lv_goto (tgt := 8) hx hb d_Sn_restoreKnown_57 (by decide) ?_
          rw [nI_1] at ei_5
          subst ei_5
          exact ih (i + 1) V1 T1  _ _ _ (by omega) (by omega) hT1 hF1 (nw_same hN1 (Or.inl hf_3)) trivial hV hS (lv_sub hl [2, 3, 4, 5, 0] rfl)
        | some t_4 =>
          refine W.eq (g2 := F0 m 18 ls [.ref t_4]) rfl ?_
          obtain ⟨h_t_4, ha_t_4⟩ := hT1.2.1 i t_4 (by omega) hf_3
          have hTi : T1 i = T i := nw_i hN1 (by omega)
          obtain ⟨j1, hj61, hj1, hsl1⟩ := hSl i t_4 (by omega) hf_3
          rw [← hTi] at hj1 hsl1
          refine lv_astore (lv' := [(5, .ref t_4), (0, .ref sn), (1, .ref ta), (2, .ref ta), (3, .int (nI 150)), (4, .int (nI i))]) hx hb d_Sn_restoreKnown_18 hl (by decide) rfl (fun ls hl => ?_)
          refine lv_aload hx hb d_Sn_restoreKnown_20 (lv_at hl 0 rfl) ?_
          refine lv_ifnull hx hb d_Sn_restoreKnown_22 ?_
          refine lv_aload_n hx hb d_Sn_restoreKnown_25 rfl (lv_at hl 1 rfl) ?_
          refine gf_Sn_9 hx hb hW hown hG hV hw_sn d_Sn_restoreKnown_26 ?_
          refine lv_aload hx hb d_Sn_restoreKnown_29 (lv_at hl 0 rfl) ?_
          refine rc_i (va_runV (As := []) (rest := [.ref sa]) ⟨hx, hb, hml, hown, hts⟩ (c_Th_slot l D N0 k V1 t_4 (ar i) (T1 i 0) (T1 i 1) (T1 i 2) (T1 i 3) (T1 i 4) (T1 i 5) h_t_4 j1 hj1 hj61) (cwV 0 hts (gi_V wm_Sn_21 wv_Th_slot ws_Th_slot wi_Th wc_Th_slot) rfl rfl rfl (by decide +kernel) ⟨Nat.le_of_ble_eq_true rfl, Nat.le_of_ble_eq_true rfl⟩) (mP.preV hG hS hV h_t_4 rfl) rfl rfl hl.1 rfl (lv_room (Nat.le_of_ble_eq_true rfl)) d_Sn_restoreKnown_31 ⟨Nat.le_of_ble_eq_true rfl, Nat.le_of_ble_eq_true rfl⟩) hS (fun H locs hV hS => ?_)
          rw [hsl1]
          refine hv_iald hx hb hG.K hV 0 hw_sa rfl (vp_in_nI (by omega) (by omega)) d_Sn_restoreKnown_34 ?_
          rw [nI_clamp (by omega)]
          refine lv_iconst (v := (-1)) hx hb d_Sn_restoreKnown_35 (by decide) ?_
          refine lv_icmp_eq (tgt := 54) hx hb d_Sn_restoreKnown_36 (by decide) (fun c_6 => ?_) (fun c_6 => ?_)
          · obtain ⟨i_7, ei_7⟩ : ∃ y : Int32, y = (nI i) + 1 := ⟨_, rfl⟩
            refine lv_iinc (v := i_7) (lv' := [(4, .int i_7), (5, .ref t_4), (0, .ref sn), (1, .ref ta), (2, .ref ta), (3, .int (nI 150))]) hx hb d_Sn_restoreKnown_54 hl (k := 5) rfl (by rw [ei_7]; rfl) (by decide) rfl (fun ls hl => ?_)
            refine lv_goto (tgt := 8) hx hb d_Sn_restoreKnown_57 (by decide) ?_
            rw [nI_1] at ei_7
            subst ei_7
            exact ih (i + 1) V1 T1  _ _ _ (by omega) (by omega) hT1 hF1 (nw_same hN1 (Or.inr (by rw [rkT, if_pos c_6]))) trivial hV hS (lv_sub hl [2, 3, 4, 5, 0] rfl)
          · refine lv_aload hx hb d_Sn_restoreKnown_39 (lv_at hl 0 rfl) ?_
            refine lv_aload_n hx hb d_Sn_restoreKnown_41 rfl (lv_at hl 1 rfl) ?_
            refine gf_Sn_9 hx hb hW hown hG hV hw_sn d_Sn_restoreKnown_42 ?_
            refine lv_aload hx hb d_Sn_restoreKnown_45 (lv_at hl 0 rfl) ?_
            refine rc_i (va_runV (As := []) (rest := [.ref sa, .ref t_4]) ⟨hx, hb, hml, hown, hts⟩ (c_Th_slot l D N0 k V1 t_4 (ar i) (T1 i 0) (T1 i 1) (T1 i 2) (T1 i 3) (T1 i 4) (T1 i 5) h_t_4 j1 hj1 hj61) (cwV 0 hts (gi_V wm_Sn_21 wv_Th_slot ws_Th_slot wi_Th wc_Th_slot) rfl rfl rfl (by decide +kernel) ⟨Nat.le_of_ble_eq_true rfl, Nat.le_of_ble_eq_true rfl⟩) (mP.preV hG hS hV h_t_4 rfl) rfl rfl hl.1 rfl (lv_room (Nat.le_of_ble_eq_true rfl)) d_Sn_restoreKnown_47 ⟨Nat.le_of_ble_eq_true rfl, Nat.le_of_ble_eq_true rfl⟩) hS (fun H locs hV hS => ?_)
            rw [hsl1]
            refine hv_iald hx hb hG.K hV 0 hw_sa rfl (vp_in_nI (by omega) (by omega)) d_Sn_restoreKnown_50 ?_
            rw [nI_clamp (by omega)]
            refine rc_V (va_runV (As := [.int (h0 i)]) (rest := []) ⟨hx, hb, hml, hown, hts⟩ (c_Th_restore l D N0 k V1 t_4 (ar i) (T1 i 0) (T1 i 1) (T1 i 2) (T1 i 3) (T1 i 4) (T1 i 5) h_t_4 (T1 i 6) (T1 i 7) (T1 i 8) (T1 i 9) ha_t_4 (h0 i)) (cwV 1 hts (gi_V wm_Sn_34 wv_Th_restore ws_Th_restore wi_Th wc_Th_restore) rfl rfl rfl (by decide +kernel) ⟨Nat.le_of_ble_eq_true rfl, Nat.le_of_ble_eq_true rfl⟩) (mP.preV hG hS hV h_t_4 rfl) rfl rfl hl.1 rfl (lv_room (Nat.le_of_ble_eq_true rfl)) d_Sn_restoreKnown_51 ⟨Nat.le_of_ble_eq_true rfl, Nat.le_of_ble_eq_true rfl⟩) hS (fun V_8 H locs hp_9 hV hS => ?_)
            have hV_V_8 := hp_9.symm
            have hta_V_8 : t_4 ≠ (ar i) := fun z9 => absurd (Option.some.inj ((z9 ▸ h_t_4 : V1 (ar i) = _).symm.trans ha_t_4)) (by simp)
            have h_t_4'V_8 : V_8 t_4 = some (eTh (T1 i 0) (T1 i 1) (ar i) (T1 i 2) (T1 i 3) (T1 i 4) (st_th (h0 i))) := by rw [← hV_V_8, hu_n hta_V_8]; exact hu_s
            have ha_t_4'V_8 : V_8 (ar i) = some (eAr ((T1 i 6) + (st_x (h0 i) - (T1 i 6))) ((T1 i 7) + (st_y (h0 i) - (T1 i 7))) ((T1 i 8) + (st_x (h0 i) - (T1 i 6))) ((T1 i 9) + (st_y (h0 i) - (T1 i 7)))) := by rw [← hV_V_8]; exact hu_s
            have hq_ta_V_8 : V_8 ta = some (eTs k f) := by rw [← hV_V_8]; exact hu_oo h_t_4 ha_t_4 hT1.1 (by simp) (by simp)
            have hq_sn_V_8 : V_8 sn = some (.inr (4, [.ref sa])) := by rw [← hV_V_8]; exact hu_oo h_t_4 ha_t_4 hw_sn (by simp) (by simp)
            have hq_sa_V_8 : V_8 sa = some (eI k 150 h0) := by rw [← hV_V_8]; exact hu_oo h_t_4 ha_t_4 hw_sa (by simp) (by simp)
            obtain ⟨i_10, ei_10⟩ : ∃ y : Int32, y = (nI i) + 1 := ⟨_, rfl⟩
            refine lv_iinc (v := i_10) (lv' := [(4, .int i_10), (5, .ref t_4), (0, .ref sn), (1, .ref ta), (2, .ref ta), (3, .int (nI 150))]) hx hb d_Sn_restoreKnown_54 hl (k := 5) rfl (by rw [ei_10]; rfl) (by decide) rfl (fun ls hl => ?_)
            refine lv_goto (tgt := 8) hx hb d_Sn_restoreKnown_57 (by decide) ?_
            rw [nI_1] at ei_10
            subst ei_10
            have hT2 : tsOk k V_8 ta f ar (updT T1 i (rsT (T1 i) (h0 i))) := by rw [← hV_V_8]; exact ts_put hT1 hIn (by omega) hf_3 (rsT (T1 i) (h0 i))
            have hF2 : tsFr f ar V V_8 := by rw [← hV_V_8]; exact ts_fr hF1 (by omega) hf_3
            exact ih (i + 1) V_8 (updT T1 i (rsT (T1 i) (h0 i)))  _ _ _ (by omega) (by omega) hT2 hF2 (nw_put hN1 hf_3 (by rw [hTi, rkT, if_neg c_6])) trivial hV hS (lv_sub hl [2, 3, 4, 5, 0] rfl)
  exact loop_1 151 0 V T  _ _ _ (by omega) (by omega) hT tsFr.rf nw_0 trivial hV hS (lv_sub hl [3, 4, 2, 1, 0] rfl)
set_option maxHeartbeats 4000000 in
set_option maxRecDepth 100000 in
/-- restoreAll -/
theorem c_Sn_restoreAll (l : Launch) (D : va_G) (N0 : Nat) (k : Nat → Nat) (V : HV) (sn sa : Nat) (h0 : Nat → Int32) (h_sn : V sn = some (eSn sa)) (h_sa : V sa = some (eI k 150 h0)) (ta : Nat) (f : Nat → Option Nat) (ar : Nat → Nat) (T : Nat → Nat → Int32) (hT : tsOk k V ta f ar T) (hSl : slOk f T) (hIn : tsIn f ar) : Met l y_Sn_restoreAll (.code y_Sn_restoreAll b_Sn_restoreAll 7 (some .int) :: WS) ({ frames := 3, cells := 0, slots := 0, locals := 66 }) (mP D N0 k [.ref sn, .ref ta] V) (va_Qi (fun r V' => r = nI (cntF (fun j => (f j).isSome && !decide (stT (roT (T j) (h0 j)) = stT (T j))) 0 150) ∧ ∃ T1, tsOk k V' ta f ar T1 ∧ tsFr f ar V V' ∧ ∀ j, j < 150 → T1 j = if f j ≠ none then (raT T h0) j else T j) (mB D N0) (hA N0)) 0 0 (hA N0) := by
  refine Met.ofW (cc := b_Sn_restoreAll) (maxL := 7) (ret := (some .int)) (by decide) rfl ?_
  intro p e s m args below meth c s₁ B hml hv0
  obtain ⟨rfl, hG, hV⟩ := hv0
  have hx := B.exec
  have hb := B.bytes
  have hr := B.returns
  have hts := atoms_spec (ws := .code y_Sn_restoreAll b_Sn_restoreAll 7 (some .int) :: WS) B.pre
  have hW : ∀ w ∈ WS, w.before _ s = true := fun w h => hts w (List.mem_cons_of_mem _ h)
  have hown : s.vm.findClass "BoardHouse$Snapshot" = some m.cls := findClass_of_methodNamed B.named
  have hlocks := B.notSynchronized
  have hS : va_S (hA N0) s.heap s.heap [] := va_S.rf
  have hl := lv_entry ([.ref sn, .ref ta]) (n := 7) (Nat.le_of_ble_eq_true rfl)
  rw [lg_entry_eq]
  generalize (lg_sl ([.ref sn, .ref ta]) ++ List.replicate (7 - (lg_sl ([.ref sn, .ref ta])).length) Slot.unset).toArray = ls at hl ⊢
  have hl : lv_has ls 7 [(0, .ref sn), (1, .ref ta)] := hl
  refine lv_iconst (v := 0) hx hb d_Sn_restoreAll_0 (by decide) ?_
  refine lv_istore_n (lv' := [(2, .int 0), (0, .ref sn), (1, .ref ta)]) hx hb d_Sn_restoreAll_1 rfl hl (by decide) rfl (fun ls hl => ?_)
  refine lv_aload_n hx hb d_Sn_restoreAll_2 rfl (lv_at hl 2 rfl) ?_
  refine lv_astore_n (lv' := [(3, .ref ta), (2, .int 0), (0, .ref sn), (1, .ref ta)]) hx hb d_Sn_restoreAll_3 rfl hl (by decide) rfl (fun ls hl => ?_)
  refine lv_aload_n hx hb d_Sn_restoreAll_4 rfl (lv_at hl 0 rfl) ?_
  refine hv_alen hx hb hG.K hV 3 hT.1 rfl (v := nI 150) rfl d_Sn_restoreAll_5 ?_
  refine lv_istore (lv' := [(4, .int (nI 150)), (3, .ref ta), (2, .int 0), (0, .ref sn), (1, .ref ta)]) hx hb d_Sn_restoreAll_6 hl (by decide) rfl (fun ls hl => ?_)
  refine lv_iconst (v := 0) hx hb d_Sn_restoreAll_8 (by decide) ?_
  refine lv_istore (lv' := [(5, .int 0), (4, .int (nI 150)), (3, .ref ta), (2, .int 0), (0, .ref sn), (1, .ref ta)]) hx hb d_Sn_restoreAll_9 hl (by decide) rfl (fun ls hl => ?_)
  have loop_1 : ∀ (n i : Nat) (V1 : HV) (T1 : Nat → Nat → Int32) (c0 : Nat) (H : Heap) (locs : List Loc) (ls : Array Slot), i ≤ 150 → 151 ≤ i + n → tsOk k V1 ta f ar T1 → tsFr f ar V V1 → nwT f T (raT T h0) T1 i → (c0 + cntF (fun j => (f j).isSome && !decide (stT (roT (T j) (h0 j)) = stT (T j))) i (150 - i) = cntF (fun j => (f j).isSome && !decide (stT (roT (T j) (h0 j)) = stT (T j))) 0 150) → hv D vwCl N0 V1 H → va_S (hA N0) s.heap H locs → lv_has ls 7 [(0, .ref sn), (1, .ref ta), (2, .int (nI c0)), (3, .ref ta), (4, .int (nI 150)), (5, .int (nI i))] → W p l e (headSpec (.code y_Sn_restoreAll b_Sn_restoreAll 7 (some .int) :: WS) ({ frames := 3, cells := 0, slots := 0, locals := 66 })).room s m #[.ref sn, .ref ta] below meth c H locs 0 0 (MQ below (va_Qi (fun r V' => r = nI (cntF (fun j => (f j).isSome && !decide (stT (roT (T j) (h0 j)) = stT (T j))) 0 150) ∧ ∃ T1, tsOk k V' ta f ar T1 ∧ tsFr f ar V V' ∧ ∀ j, j < 150 → T1 j = if f j ≠ none then (raT T h0) j else T j) (mB D N0) (hA N0)) #[.ref sn, .ref ta] s 0 0 (hA N0)) (F0 m 11 ls []) := by
    intro n
    induction n with
    | zero => intro i V1 T1 c0 H locs ls h1 h2; exact absurd h2 (by omega)
    | succ n ih =>
      intro i V1 T1 c0 H locs ls hi hin hT1 hF1 hN1 hI hV hS hl
      have hw_sn : V1 sn = some (.inr (4, [.ref sa])) := (hF1 sn (ts_out hT h_sn (by intros; simp) (by intros; simp))).trans h_sn
      have hw_sa : V1 sa = some (eI k 150 h0) := (hF1 sa (ts_out hT h_sa (by intros; simp) (by intros; simp))).trans h_sa
      refine lv_iload hx hb d_Sn_restoreAll_11 (lv_at hl 5 rfl) ?_
      refine lv_iload hx hb d_Sn_restoreAll_13 (lv_at hl 4 rfl) ?_
      refine lv_icmp_ge (tgt := 47) hx hb d_Sn_restoreAll_15 (by decide) (fun c_2 => ?_) (fun c_2 => ?_)
      · have hge : 150 ≤ i := nI_le' c_2 (by omega) (by omega)
        refine lv_iload_n hx hb d_Sn_restoreAll_47 rfl (lv_at hl 2 rfl) ?_
        exact W.iret (v := (nI c0)) hx hb hr (fun t ht hW => ⟨⟨(nI c0), V1, rfl, ⟨by rw [cntF_end hge] at hI; rw [← hI]; rfl, T1, hT1, hF1, nw_end hN1 hge⟩, mB_of ht hV⟩, hS.F ht⟩) hS.2.2 d_Sn_restoreAll_48
      · have hlt : i < 150 := nI_nle' c_2 (by omega) (by omega)
        refine lv_aload_n hx hb d_Sn_restoreAll_18 rfl (lv_at hl 3 rfl) ?_
        refine lv_iload hx hb d_Sn_restoreAll_19 (lv_at hl 5 rfl) ?_
        refine hv_aald (v := f i) hx hb hG.K hV 3 hT1.1 rfl (vp_in_nI (by omega) (by omega)) (by rw [nI_clamp (by omega)]) d_Sn_restoreAll_21 ?_
        cases hf_3 : f i with
        | none =>
          refine W.eq (g2 := F0 m 22 ls [.null]) rfl ?_
          refine lv_astoreN (lv' := [(6, .null), (0, .ref sn), (1, .ref ta), (2, .int (nI c0)), (3, .ref ta), (4, .int (nI 150)), (5, .int (nI i))]) hx hb d_Sn_restoreAll_22 hl (by decide) rfl (fun ls hl => ?_)
          refine lv_aloadN hx hb d_Sn_restoreAll_24 (lv_at hl 0 rfl) ?_
          refine lv_ifnullN (tgt := 41) hx hb d_Sn_restoreAll_26 (by decide) ?_
          obtain ⟨i_5, ei_5⟩ : ∃ y : Int32, y = (nI i) + 1 := ⟨_, rfl⟩
          refine lv_iinc (v := i_5) (lv' := [(5, .int i_5), (6, .null), (0, .ref sn), (1, .ref ta), (2, .int (nI c0)), (3, .ref ta), (4, .int (nI 150))]) hx hb d_Sn_restoreAll_41 hl (k := 6) rfl (by rw [ei_5]; rfl) (by decide) rfl (fun ls hl => ?_)
          refine lv_goto (tgt := 11) hx hb d_Sn_restoreAll_44 (by decide) ?_
          rw [nI_1] at ei_5
          subst ei_5
          exact ih (i + 1) V1 T1 c0 _ _ _ (by omega) (by omega) hT1 hF1 (nw_same hN1 (Or.inl hf_3)) (by rw [← hI, cntF_step hlt]; simp [hf_3]) hV hS (lv_sub hl [2, 3, 4, 5, 6, 0] rfl)
        | some t_4 =>
          refine W.eq (g2 := F0 m 22 ls [.ref t_4]) rfl ?_
          obtain ⟨h_t_4, ha_t_4⟩ := hT1.2.1 i t_4 (by omega) hf_3
          have hTi : T1 i = T i := nw_i hN1 (by omega)
          obtain ⟨j1, hj61, hj1, hsl1⟩ := hSl i t_4 (by omega) hf_3
          rw [← hTi] at hj1 hsl1
          refine lv_astore (lv' := [(6, .ref t_4), (0, .ref sn), (1, .ref ta), (2, .int (nI c0)), (3, .ref ta), (4, .int (nI 150)), (5, .int (nI i))]) hx hb d_Sn_restoreAll_22 hl (by decide) rfl (fun ls hl => ?_)
          refine lv_aload hx hb d_Sn_restoreAll_24 (lv_at hl 0 rfl) ?_
          refine lv_ifnull hx hb d_Sn_restoreAll_26 ?_
          refine lv_aload_n hx hb d_Sn_restoreAll_29 rfl (lv_at hl 1 rfl) ?_
          refine lv_aload hx hb d_Sn_restoreAll_30 (lv_at hl 0 rfl) ?_
          refine rc_I (va_runV (As := [.ref t_4]) (rest := []) ⟨hx, hb, hml, hown, hts⟩ (c_Sn_restoreOne l D N0 k V1 sn sa h0 hw_sn hw_sa t_4 (ar i) (T1 i) h_t_4 ha_t_4 i j1 (by omega) hj61 hj1 hsl1) (cwV 1 hts (gi_V wm_Sn_38 wv_Sn_restoreOne ws_Sn_restoreOne wi_Sn wc_Sn_restoreOne) rfl rfl rfl (by decide +kernel) ⟨Nat.le_of_ble_eq_true rfl, Nat.le_of_ble_eq_true rfl⟩) (mP.preV hG hS hV hw_sn rfl) rfl rfl hl.1 rfl (lv_room (Nat.le_of_ble_eq_true rfl)) d_Sn_restoreAll_32 ⟨Nat.le_of_ble_eq_true rfl, Nat.le_of_ble_eq_true rfl⟩) hS (fun r_6 V_7 H locs hp_8 hV hS => ?_)
          obtain ⟨er_r_6, ev_r_6⟩ := hp_8
          rw [er_r_6]
          have hV_V_7 := ev_r_6.symm
          refine lv_if_eq (tgt := 41) hx hb d_Sn_restoreAll_35 (by decide) (fun c_9 => ?_) (fun c_9 => ?_)
          · obtain ⟨i_10, ei_10⟩ : ∃ y : Int32, y = (nI i) + 1 := ⟨_, rfl⟩
            refine lv_iinc (v := i_10) (lv' := [(5, .int i_10), (6, .ref t_4), (0, .ref sn), (1, .ref ta), (2, .int (nI c0)), (3, .ref ta), (4, .int (nI 150))]) hx hb d_Sn_restoreAll_41 hl (k := 6) rfl (by rw [ei_10]; rfl) (by decide) rfl (fun ls hl => ?_)
            refine lv_goto (tgt := 11) hx hb d_Sn_restoreAll_44 (by decide) ?_
            rw [nI_1] at ei_10
            subst ei_10
            have hT2 : tsOk k V_7 ta f ar (updT T1 i (roT (T1 i) (h0 i))) := by rw [← hV_V_7]; exact ts_put hT1 hIn (by omega) hf_3 (roT (T1 i) (h0 i))
            have hF2 : tsFr f ar V V_7 := by rw [← hV_V_7]; exact ts_fr hF1 (by omega) hf_3
            simp only [bI_ne0, bI_eq0] at c_9
            rw [hTi] at c_9
            exact ih (i + 1) V_7 (updT T1 i (roT (T1 i) (h0 i))) c0 _ _ _ (by omega) (by omega) hT2 hF2 (nw_put hN1 hf_3 (by rw [hTi]; rfl)) (by rw [← hI, cntF_step hlt]; simp at c_9; simp [hf_3, c_9]) hV hS (lv_sub hl [2, 3, 4, 5, 6, 0] rfl)
          · obtain ⟨i_11, ei_11⟩ : ∃ y : Int32, y = (nI c0) + 1 := ⟨_, rfl⟩
            refine lv_iinc (v := i_11) (lv' := [(2, .int i_11), (6, .ref t_4), (0, .ref sn), (1, .ref ta), (3, .ref ta), (4, .int (nI 150)), (5, .int (nI i))]) hx hb d_Sn_restoreAll_38 hl (k := 3) rfl (by rw [ei_11]; rfl) (by decide) rfl (fun ls hl => ?_)
            obtain ⟨i_12, ei_12⟩ : ∃ y : Int32, y = (nI i) + 1 := ⟨_, rfl⟩
            refine lv_iinc (v := i_12) (lv' := [(5, .int i_12), (2, .int i_11), (6, .ref t_4), (0, .ref sn), (1, .ref ta), (3, .ref ta), (4, .int (nI 150))]) hx hb d_Sn_restoreAll_41 hl (k := 6) rfl (by rw [ei_12]; rfl) (by decide) rfl (fun ls hl => ?_)
            refine lv_goto (tgt := 11) hx hb d_Sn_restoreAll_44 (by decide) ?_
            rw [nI_1] at ei_12
            subst ei_12
            have hT2 : tsOk k V_7 ta f ar (updT T1 i (roT (T1 i) (h0 i))) := by rw [← hV_V_7]; exact ts_put hT1 hIn (by omega) hf_3 (roT (T1 i) (h0 i))
            have hF2 : tsFr f ar V V_7 := by rw [← hV_V_7]; exact ts_fr hF1 (by omega) hf_3
            simp only [bI_ne0, bI_eq0] at c_9
            rw [hTi] at c_9
            rw [nI_1] at ei_11
            subst ei_11
            exact ih (i + 1) V_7 (updT T1 i (roT (T1 i) (h0 i))) (c0 + 1) _ _ _ (by omega) (by omega) hT2 hF2 (nw_put hN1 hf_3 (by rw [hTi]; rfl)) (by rw [← hI, cntF_step hlt]; simp at c_9; simp [hf_3, c_9]; omega) hV hS (lv_sub hl [3, 4, 1, 5, 6, 0] rfl)
  exact loop_1 151 0 V T 0 _ _ _ (by omega) (by omega) hT tsFr.rf nw_0 (by rw [Nat.zero_add]) hV hS (lv_sub hl [4, 5, 3, 2, 1, 0] rfl)
