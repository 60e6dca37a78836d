/-! constructors -/
/-- n new sheets, in a row at q: s, r: where they and their rows lie; L: a number for each -/
def shN (k : Nat → Nat) (n : Nat) (V V' : HV) (q : Nat) (F : Nat → Option Nat) (s r L : Nat → Nat) : Prop :=
  V q = none ∧ V' q = some (eSs k n F) ∧ (∀ x e, V x = some e → V' x = some e) ∧ (∀ j, j < n → V (s j) = none ∧ V (r j) = none ∧ F j = some (s j) ∧ V' (s j) = some (eSh (r j)) ∧ V' (r j) = some (eI k 24 (fun _ => 0)) ∧ L (s j) = 20 + j ∧ L (r j) = 30 + j) ∧ L q = 10
def if4 (a b c d : Nat) : Nat → Nat := fun j => match j with
  | 0 => a
  | 1 => b
  | 2 => c
  | _ => d
theorem none_of {V A : HV} {a co : Nat} {e0 : va_E} (hn : A a = none) (fr : ∀ x e, x ≠ co → V x = some e → A x = some e) (hc : A co = some e0) : V a = none := by
  cases h : V a with
  | none => rfl
  | some e =>
    by_cases hx : a = co
    · rw [hx, hc] at hn; cases hn
    · rw [fr a e hx h] at hn; cases hn
theorem ne_of {V : HV} {a b : Nat} {e : va_E} (ha : V a = some e) (hb : V b = none) : a ≠ b := fun z => by rw [z, hb] at ha; cases ha
/-- a new copper at co -/
def coN (k : Nat → Nat) (n : Nat) (g : Int32) (V V' : HV) (co : Nat) (b : HA) : Prop :=
  V' co = some (eCo b.ta (nI n) b.ro b.on b.re g) ∧ V' b.ta = some (eTs k (fun _ => none)) ∧ V' b.ro = some (eSh b.rq) ∧ (∃ F, V' b.rq = some (eI k 24 F)) ∧ V' b.on = some (eSs k n b.fo) ∧ V' b.re = some (eSs k n b.fs) ∧
  (∀ i, i < n → b.fo i = some (b.os i) ∧ V' (b.os i) = some (eSh (b.oR i)) ∧ (∃ F, V' (b.oR i) = some (eI k 24 F)) ∧ b.fs i = some (b.ss i) ∧ V' (b.ss i) = some (eSh (b.sR i)) ∧ ∃ F, V' (b.sR i) = some (eI k 24 F)) ∧
  (b.lb b.ta = 5 ∧ b.lb b.ro = 8 ∧ b.lb b.rq = 9 ∧ b.lb b.on = 10 ∧ b.lb b.re = 11 ∧ ∀ i, i < n → b.lb (b.os i) = 20 + i ∧ b.lb (b.oR i) = 30 + i ∧ b.lb (b.ss i) = 40 + i ∧ b.lb (b.sR i) = 50 + i) ∧
  (V b.ta = none ∧ V b.ro = none ∧ V b.rq = none ∧ V b.on = none ∧ V b.re = none ∧ ∀ i, i < n → V (b.os i) = none ∧ V (b.oR i) = none ∧ V (b.ss i) = none ∧ V (b.sR i) = none) ∧
  (∀ x e, x ≠ co → V x = some e → V' x = some e)
/-- where a copper's cells lie, by what made them -/
def coB (ta ro rq on re : Nat) (fo fs : Nat → Option Nat) (os oR ss sR L : Nat → Nat) : HA := (fun i => if i = 5 then ta else if i = 8 then ro else if i = 9 then rq else if i = 10 then on else if i = 11 then re else if i < 30 then os (i - 20) else if i < 40 then oR (i - 30) else if i < 50 then ss (i - 40) else sR (i - 50), fun i => if i % 2 = 0 then fo (i / 2) else fs (i / 2), fun _ => none, fun _ => 0, fun _ => none, fun _ => 0, fun _ => 0, fun _ => 0, fun _ => none, fun _ => 0, L)
theorem coB_fo {ta ro rq on re : Nat} {fo fs : Nat → Option Nat} {os oR ss sR L : Nat → Nat} : (coB ta ro rq on re fo fs os oR ss sR L).fo = fo ∧ (coB ta ro rq on re fo fs os oR ss sR L).fs = fs := by
  constructor <;> funext i
  · show (if 2 * i % 2 = 0 then fo (2 * i / 2) else fs (2 * i / 2)) = fo i
    rw [if_pos (by omega), show 2 * i / 2 = i by omega]
  · show (if (2 * i + 1) % 2 = 0 then fo ((2 * i + 1) / 2) else fs ((2 * i + 1) / 2)) = fs i
    rw [if_neg (by omega), show (2 * i + 1) / 2 = i by omega]
theorem coB_os {ta ro rq on re : Nat} {fo fs : Nat → Option Nat} {os oR ss sR L : Nat → Nat} {i : Nat} (h : i < 4) : (coB ta ro rq on re fo fs os oR ss sR L).os i = os i ∧ (coB ta ro rq on re fo fs os oR ss sR L).oR i = oR i ∧ (coB ta ro rq on re fo fs os oR ss sR L).ss i = ss i ∧ (coB ta ro rq on re fo fs os oR ss sR L).sR i = sR i ∧ (coB ta ro rq on re fo fs os oR ss sR L).fo i = fo i ∧ (coB ta ro rq on re fo fs os oR ss sR L).fs i = fs i := by
  rcases (show i = 0 ∨ i = 1 ∨ i = 2 ∨ i = 3 by omega) with rfl | rfl | rfl | rfl <;> exact ⟨rfl, rfl, rfl, rfl, rfl, rfl⟩
def lyC (x : Int32) : Int32 := if 1 < (if x < 4 then x else 4) then (if x < 4 then x else 4) else 1
def gpC (x : Int32) : Int32 := if 0 < (if x < 4 then x else 4) then (if x < 4 then x else 4) else 0
theorem cl_n {x lo : Int32} {q : Nat} (hq : lo = nI q) (hq4 : q ≤ 4) (h0 : 0 ≤ lo) : ∃ n, q ≤ n ∧ n ≤ 4 ∧ (if lo < (if x < 4 then x else 4) then (if x < 4 then x else 4) else lo) = nI n := by
  by_cases h : lo < (if x < 4 then x else 4)
  · rw [if_pos h]
    have hp : 0 ≤ (if x < 4 then x else 4) := Int32.le_trans h0 (Int32.le_of_lt h)
    have hu4 : (if x < 4 then x else 4) ≤ 4 := by
      split
      · exact Int32.le_of_lt (by assumption)
      · exact Int32.le_refl _
    obtain ⟨e, hb⟩ := nI_back hp
    generalize (if x < 4 then x else 4) = y at *
    refine ⟨y.toNatClampNeg, ?_, nI_le' (a := y.toNatClampNeg) (b := 4) (by rw [e]; exact hu4) hb (by decide), e.symm⟩
    exact nI_le' (by rw [e, ← hq]; exact Int32.le_of_lt h) (by omega) hb
  · rw [if_neg h]; exact ⟨q, Nat.le_refl _, hq4, hq⟩
theorem ly_n (x : Int32) : ∃ n, 1 ≤ n ∧ n ≤ 4 ∧ lyC x = nI n := cl_n (lo := 1) (q := 1) rfl (by omega) (by decide)
theorem gp_n (x : Int32) : ∃ n, 0 ≤ n ∧ n ≤ 4 ∧ gpC x = nI n := cl_n (lo := 0) (q := 0) rfl (by omega) (by decide)
def hs0 (n : Nat) (g : Int32) : HS := (n, 0, g, none, fun _ => 0, fun _ _ => 0, fun _ _ => 0, fun _ _ => 0, fun _ _ => 0)
def hoB (b : HA) (ho bo gi co ac ve : Nat) (L : Nat → Nat) : HA := (fun i => if i = 1 then ho else if i = 2 then bo else if i = 3 then gi else if i = 4 then co else if i = 6 then ac else if i = 7 then ve else b.F i, b.E, fun _ => none, fun _ => 0, fun _ => none, fun _ => 0, fun _ => 0, fun _ => 0, fun _ => none, fun _ => 0, L)
theorem hoB_F {b : HA} {ho bo gi co ac ve : Nat} {L : Nat → Nat} {i : Nat} (h : 8 ≤ i) : (hoB b ho bo gi co ac ve L).F i = b.F i := by
  show (if i = 1 then ho else if i = 2 then bo else if i = 3 then gi else if i = 4 then co else if i = 6 then ac else if i = 7 then ve else b.F i) = b.F i
  rw [if_neg (by omega), if_neg (by omega), if_neg (by omega), if_neg (by omega), if_neg (by omega), if_neg (by omega)]
theorem hoB_ok {k : Nat → Nat} {n : Nat} {g : Int32} {Vc V1 V : HV} {b : HA} {ho bo gi co ac ve : Nat} {L : Nat → Nat} (h1 : 1 ≤ n) (h4 : n ≤ 4) (hN : coN k n g Vc V1 co b) (hv : ∀ x e, x ≠ ho → V1 x = some e → V x = some e)
    (e1 : Vc ho ≠ none) (hho : V ho = some (eHo (nI n) bo gi co b.ta ac ve none 0)) (hbo : V bo = some (eAr 0 0 31 23)) (hgi : V gi = some (eI k 8 (fun _ => 0))) (hac : V ac = some (eAs k (fun _ => none))) (hve : V ve = some (eVs k (fun _ => none))) (hco : co ≠ ho)
    (l1 : L ho = 1) (l2 : L bo = 2) (l3 : L gi = 3) (l4 : L co = 4) (l6 : L ac = 6) (l7 : L ve = 7) (hL : ∀ x, Vc x = none → L x = b.lb x) : hsW k V (hoB b ho bo gi co ac ve L) (hs0 n g) := by
  obtain ⟨a1, a2, a3, ⟨F9, a4⟩, a5, a6, a7, ⟨b1, b2, b3, b4, b5, b6⟩, ⟨c1, c2, c3, c4, c5, c6⟩, -⟩ := hN
  have nh : ∀ {x}, Vc x = none → x ≠ ho := fun {x} hx z => e1 (by rw [← z]; exact hx)
  have hos : ∀ i, i < n → (hoB b ho bo gi co ac ve L).os i = b.os i ∧ (hoB b ho bo gi co ac ve L).oR i = b.oR i ∧ (hoB b ho bo gi co ac ve L).ss i = b.ss i ∧ (hoB b ho bo gi co ac ve L).sR i = b.sR i := fun i _ => ⟨hoB_F (by omega), hoB_F (by omega), hoB_F (by omega), hoB_F (by omega)⟩
  refine ⟨⟨⟨l1, l2, l3, l4, (hL _ c1).trans b1, l6, l7, (hL _ c2).trans b2, (hL _ c3).trans b3, (hL _ c4).trans b4, (hL _ c5).trans b5, fun i t _ hf => (by cases hf), fun j t _ hf => (by cases hf), fun j v _ hf => (by cases hf), fun i hi => ?_⟩, hho, hbo, hgi, hv _ _ hco a1, ⟨hv _ _ (nh c1) a2, fun i t _ hf => (by cases hf), fun i _ _ => rfl⟩, ⟨hac, fun j t _ hf => (by cases hf), fun j _ _ => rfl⟩, hve, fun j v _ hf => (by cases hf), hv _ _ (nh c2) a3, ⟨F9, hv _ _ (nh c3) a4⟩, hv _ _ (nh c4) a5, hv _ _ (nh c5) a6, fun i hi => ?_, fun j hw => (by cases hw), h1, h4⟩, ⟨fun i hi => ?_, fun j hj => ?_, fun j hj => ?_⟩, fun K _ _ => ⟨0, rfl, Nat.zero_le _⟩, fun i hi hm => ?_⟩
  · have hi : i < n := hi
    obtain ⟨o1, o2, o3, o4⟩ := hos i hi
    obtain ⟨d1, d2, d3, d4⟩ := b6 i hi
    obtain ⟨f1, f2, f3, f4⟩ := c6 i hi
    rw [o1, o2, o3, o4]
    exact ⟨(hL _ f1).trans d1, (hL _ f2).trans d2, (hL _ f3).trans d3, (hL _ f4).trans d4⟩
  · have hi : i < n := hi
    obtain ⟨o1, o2, o3, o4⟩ := hos i hi
    obtain ⟨f1, f2, f3, f4⟩ := c6 i hi
    obtain ⟨d1, d2, ⟨F, d3⟩, d4, d5, ⟨F', d6⟩⟩ := a7 i hi
    rw [o1, o2, o3, o4]
    exact ⟨d1, hv _ _ (nh f1) d2, ⟨F, hv _ _ (nh f2) d3⟩, d4, hv _ _ (nh f3) d5, ⟨F', hv _ _ (nh f4) d6⟩⟩
  · rw [slM, decide_eq_false]; · rfl
    exact Nat.not_lt_zero _
  · rw [decide_eq_false]; · rfl
    exact Nat.not_lt_zero _
  · rw [decide_eq_false]; · rfl
    exact Nat.not_lt_zero _
  · rw [slM, decide_eq_false] at hm; · cases hm
    exact Nat.not_lt_zero _
set_option maxHeartbeats 4000000 in
set_option maxRecDepth 100000 in
/-- newSheets(1) -/
theorem c_Co_newSheets1 (l : Launch) (D : va_G) (N0 : Nat) (k : Nat → Nat) (V : HV)  : Met l y_Co_newSheets (.code y_Co_newSheets b_Co_newSheets 3 (some (.array (.object "BoardHouse$Sheet"))) :: WS) ({ frames := 2, cells := 9, slots := 104, locals := 40 }) (mP D N0 k [.int 1] V) (va_Qq (fun r0 V' => ∃ q F s0 r L, r0 = some q ∧ shN k 1 V V' q F s0 r L) (mB D N0) (hA N0)) 9 104 (hA N0) := by
  refine Met.ofW (cc := b_Co_newSheets) (maxL := 3) (ret := (some (.array (.object "BoardHouse$Sheet")))) (by decide) rfl ?_
  intro p e s m args below meth c s₁ B hml hv0
  obtain ⟨rfl, hG, hV⟩ := hv0
  have hx := B.exec
  have hb := B.bytes
  have hr := B.returns
  have hts := atoms_spec (ws := .code y_Co_newSheets b_Co_newSheets 3 (some (.array (.object "BoardHouse$Sheet"))) :: WS) B.pre
  have hW : ∀ w ∈ WS, w.before _ s = true := fun w h => hts w (List.mem_cons_of_mem _ h)
  have hown : s.vm.findClass "BoardHouse$Copper" = some m.cls := findClass_of_methodNamed B.named
  have hlocks := B.notSynchronized
  have hS : va_S (hA N0) s.heap s.heap [] := va_S.rf
  have hl := lv_entry ([.int 1]) (n := 3) (Nat.le_of_ble_eq_true rfl)
  rw [lg_entry_eq]
  generalize (lg_sl ([.int 1]) ++ List.replicate (3 - (lg_sl ([.int 1])).length) Slot.unset).toArray = ls at hl ⊢
  have hl : lv_has ls 3 [(0, .int 1)] := hl
  refine lv_iload_n hx hb d_Co_newSheets_0 rfl (lv_at hl 0 rfl) ?_
  refine hv_newq (N' := 1) hx hb hown (hW _ wk_Co_17) hG.2.2.2.1.2.2.2 hG.K hV hS 6 rfl (by decide) rfl (by omega) (Nat.le_of_ble_eq_true rfl) (Nat.le_of_ble_eq_true rfl) hG.N d_Co_newSheets_1 (fun q_1 H hn_q_1 hN_q_1 hV hS => ?_)
  replace hV : hv D vwCl N0 (hu V q_1 (.inl (k 6, 1, .inr (.inr (.inr (.inr (fun _ => none))))))) H := hV
  generalize hV_V_2 : hu V q_1 (.inl (k 6, 1, .inr (.inr (.inr (.inr (fun _ => none)))))) = V_2 at hV
  have hq_1'V_2 : V_2 q_1 = some (.inl (k 6, 1, .inr (.inr (.inr (.inr (fun _ => none)))))) := by rw [← hV_V_2]; exact hu_s
  refine lv_astore_n (lv' := [(1, .ref q_1), (0, .int 1)]) hx hb d_Co_newSheets_4 rfl hl (by decide) rfl (fun ls hl => ?_)
  refine lv_iconst (v := 0) hx hb d_Co_newSheets_5 (by decide) ?_
  refine lv_istore_n (lv' := [(2, .int 0), (1, .ref q_1), (0, .int 1)]) hx hb d_Co_newSheets_6 rfl hl (by decide) rfl (fun ls hl => ?_)
  refine lv_iload_n hx hb d_Co_newSheets_7 rfl (lv_at hl 0 rfl) ?_
  refine lv_iload_n hx hb d_Co_newSheets_8 rfl (lv_at hl 2 rfl) ?_
  refine lv_icmp_ge (tgt := 28) hx hb d_Co_newSheets_9 (by decide) (fun q => absurd q (by decide)) (fun _ => ?_)
  refine lv_aload_n hx hb d_Co_newSheets_12 rfl (lv_at hl 1 rfl) ?_
  refine lv_iload_n hx hb d_Co_newSheets_13 rfl (lv_at hl 0 rfl) ?_
  refine hv_new (ci := 3) (fs := [.null]) (C := R_Sh) (T := T_Sh) (N := 1) hx hb hW in_Sh t_Sh ty_Sh hown (hW _ wk_Co_17) (hW _ wo_Sh) (hW _ wi_Sh) hG.K hV hS rfl (fun j hj => by rcases (show j = 0 by omega) with rfl <;> rfl) (Nat.le_of_ble_eq_true rfl) (Nat.le_of_ble_eq_true rfl) hG.N d_Co_newSheets_14 (fun q_3 H hn_q_3 hN_q_3 hV hS => ?_)
  have ne_q_1_q_3 : q_1 ≠ q_3 := fun z => by rw [← z, hq_1'V_2] at hn_q_3; cases hn_q_3
  replace hV : hv D vwCl N0 (hu V_2 q_3 (.inr (3, [.null]))) H := hV
  generalize hV_V_4 : hu V_2 q_3 (.inr (3, [.null])) = V_4 at hV
  have hq_1'V_4 : V_4 q_1 = some (.inl (k 6, 1, .inr (.inr (.inr (.inr (fun _ => none)))))) := by rw [← hV_V_4, hu_n ne_q_1_q_3]; exact hq_1'V_2
  have hq_3'V_4 : V_4 q_3 = some (.inr (3, [.null])) := by rw [← hV_V_4]; exact hu_s
  refine lv_dup hx hb d_Co_newSheets_17 rfl ?_
  refine rc_V (va_runIN (As := []) (rest := [.ref q_3, .int 0, .ref q_1]) ⟨hx, hb, hml, hown, hts⟩ (c_Sh_init l D N0 k V_4 q_3 hq_3'V_4) ⟨va_cnB 0 hts (gi_c wc_Sh_init) rfl rfl rfl (va_Nw.of rfl (hG.nest wmn_Co_19 rfl #[])) (hW _ wi_Sh) (by decide +kernel) ⟨Nat.le_of_ble_eq_true rfl, Nat.le_of_ble_eq_true rfl⟩, rfl, hW _ wv_Sh_init⟩ (mP.preS hG hS hV) rfl rfl hl.1 rfl (lv_room (Nat.le_of_ble_eq_true rfl)) d_Co_newSheets_18 ⟨Nat.le_of_ble_eq_true rfl, Nat.le_of_ble_eq_true rfl⟩) hS (fun V_5 H locs hp_6 hV hS => ?_)
  obtain ⟨q_7, hn_q_7, ev_q_7⟩ := hp_6
  obtain ⟨V_8, eV_V_8⟩ : ∃ z, z = hu V_4 q_7 (eI k 24 (fun _ => 0)) := ⟨_, rfl⟩
  rw [← eV_V_8] at ev_q_7
  have ne_q_1_q_7 : q_1 ≠ q_7 := fun z => by rw [← z, hq_1'V_4] at hn_q_7; cases hn_q_7
  have ne_q_3_q_7 : q_3 ≠ q_7 := fun z => by rw [← z, hq_3'V_4] at hn_q_7; cases hn_q_7
  have hV_V_8 := eV_V_8.symm
  have hq_1'V_8 : V_8 q_1 = some (.inl (k 6, 1, .inr (.inr (.inr (.inr (fun _ => none)))))) := by rw [← hV_V_8, hu_n ne_q_1_q_7]; exact hq_1'V_4
  have hq_3'V_8 : V_8 q_3 = some (.inr (3, [.null])) := by rw [← hV_V_8, hu_n ne_q_3_q_7]; exact hq_3'V_4
  have hq_7'V_8 : V_8 q_7 = some (eI k 24 (fun _ => 0)) := by rw [← hV_V_8]; exact hu_s
  have hV_V_5 := ev_q_7.symm
  have hq_1'V_5 : V_5 q_1 = some (.inl (k 6, 1, .inr (.inr (.inr (.inr (fun _ => none)))))) := by rw [← hV_V_5, hu_n ne_q_1_q_3]; exact hq_1'V_8
  have hq_7'V_5 : V_5 q_7 = some (eI k 24 (fun _ => 0)) := by rw [← hV_V_5, hu_n (Ne.symm ne_q_3_q_7)]; exact hq_7'V_8
  have hq_3'V_5 : V_5 q_3 = some (eSh q_7) := by rw [← hV_V_5]; exact hu_s
  refine hv_aast hx hb hG.K hV hS 6 3 hq_1'V_5 rfl hq_3'V_5 rfl ((vp_in_nI (by omega) (by omega) : vp_in (nI 0) 1)) d_Co_newSheets_21 (fun H locs hV hS => ?_)
  rw [show (0 : Int32).toNatClampNeg = 0 from rfl] at hV
  replace hV : hv D vwCl N0 (hu V_5 q_1 (.inl (k 6, 1, .inr (.inr (.inr (.inr (va_up (fun _ => none) 0 (some q_3)))))))) H := hV
  generalize hV_V_9 : hu V_5 q_1 (.inl (k 6, 1, .inr (.inr (.inr (.inr (va_up (fun _ => none) 0 (some q_3))))))) = V_9 at hV
  have hq_7'V_9 : V_9 q_7 = some (eI k 24 (fun _ => 0)) := by rw [← hV_V_9, hu_n (Ne.symm ne_q_1_q_7)]; exact hq_7'V_5
  have hq_3'V_9 : V_9 q_3 = some (.inr (3, [.ref q_7])) := by rw [← hV_V_9, hu_n (Ne.symm ne_q_1_q_3)]; exact hq_3'V_5
  have hq_1'V_9 : V_9 q_1 = some (.inl (k 6, 1, .inr (.inr (.inr (.inr (va_up (fun _ => none) 0 (some q_3))))))) := by rw [← hV_V_9]; exact hu_s
  refine lv_iinc (v := 1) (lv' := [(2, .int 1), (1, .ref q_1), (0, .int 1)]) hx hb d_Co_newSheets_22 hl (k := 0) rfl (by decide) (by decide) rfl (fun ls hl => ?_)
  refine lv_goto (tgt := 7) hx hb d_Co_newSheets_25 (by decide) ?_
  refine lv_iload_n hx hb d_Co_newSheets_7 rfl (lv_at hl 0 rfl) ?_
  refine lv_iload_n hx hb d_Co_newSheets_8 rfl (lv_at hl 2 rfl) ?_
  refine lv_icmp_ge (tgt := 28) hx hb d_Co_newSheets_9 (by decide) (fun _ => ?_) (fun q => absurd q (by decide))
  refine lv_aload_n hx hb d_Co_newSheets_28 rfl (lv_at hl 1 rfl) ?_
  refine W.widen (k := 9) (n := 104) (by omega) (by omega) ?_
  have no_q_1 : V q_1 = none := by
    have h0 := hn_q_1
    exact h0
  have no_q_3 : V q_3 = none := by
    have h0 := hn_q_3
    rw [← hV_V_2, hu_n (Ne.symm ne_q_1_q_3)] at h0
    exact h0
  have no_q_7 : V q_7 = none := by
    have h0 := hn_q_7
    rw [← hV_V_4, hu_n (Ne.symm ne_q_3_q_7)] at h0
    rw [← hV_V_2, hu_n (Ne.symm ne_q_1_q_7)] at h0
    exact h0
  have fr : ∀ x e, V x = some e → V_9 x = some e := fun x e hx => by
    rw [← hV_V_9, hu_n (fun z => by rw [z, no_q_1] at hx; cases hx)]
    rw [← hV_V_5, hu_n (fun z => by rw [z, no_q_3] at hx; cases hx)]
    rw [← hV_V_8, hu_n (fun z => by rw [z, no_q_7] at hx; cases hx)]
    rw [← hV_V_4, hu_n (fun z => by rw [z, no_q_3] at hx; cases hx)]
    rw [← hV_V_2, hu_n (fun z => by rw [z, no_q_1] at hx; cases hx)]
    exact hx
  have L_q : (fun x => if x = q_1 then 10 else if x = q_3 then 20 else if x = q_7 then 30 else 0) q_1 = 10 := if_pos rfl
  have L_s0 : (fun x => if x = q_1 then 10 else if x = q_3 then 20 else if x = q_7 then 30 else 0) q_3 = 20 := by simp [ne_q_1_q_3, ne_q_1_q_7, (Ne.symm ne_q_1_q_3), ne_q_3_q_7, (Ne.symm ne_q_1_q_7), (Ne.symm ne_q_3_q_7)]
  have L_r0 : (fun x => if x = q_1 then 10 else if x = q_3 then 20 else if x = q_7 then 30 else 0) q_7 = 30 := by simp [ne_q_1_q_3, ne_q_1_q_7, (Ne.symm ne_q_1_q_3), ne_q_3_q_7, (Ne.symm ne_q_1_q_7), (Ne.symm ne_q_3_q_7)]
  have hj9 : ∀ j, j < 1 → V ((if4 q_3 q_3 q_3 q_3) j) = none ∧ V ((if4 q_7 q_7 q_7 q_7) j) = none ∧ (va_up (fun _ => none) 0 (some q_3)) j = some ((if4 q_3 q_3 q_3 q_3) j) ∧ V_9 ((if4 q_3 q_3 q_3 q_3) j) = some (eSh ((if4 q_7 q_7 q_7 q_7) j)) ∧ V_9 ((if4 q_7 q_7 q_7 q_7) j) = some (eI k 24 (fun _ => 0)) ∧ (fun x => if x = q_1 then 10 else if x = q_3 then 20 else if x = q_7 then 30 else 0) ((if4 q_3 q_3 q_3 q_3) j) = 20 + j ∧ (fun x => if x = q_1 then 10 else if x = q_3 then 20 else if x = q_7 then 30 else 0) ((if4 q_7 q_7 q_7 q_7) j) = 30 + j := by
    intro j hj
    rcases (show j = 0 by omega) with rfl
    · exact ⟨no_q_3, no_q_7, rfl, hq_3'V_9, hq_7'V_9, L_s0, L_r0⟩
  exact W.aret (v := va_rf (some q_1)) hx hb hr (by first | exact Or.inl ⟨_, rfl⟩ | exact Or.inr ⟨_, rfl⟩) (va_rf_or _) (fun t9 ht hW => ⟨⟨(some q_1), V_9, rfl, ⟨q_1, (va_up (fun _ => none) 0 (some q_3)), (if4 q_3 q_3 q_3 q_3), (if4 q_7 q_7 q_7 q_7), (fun x => if x = q_1 then 10 else if x = q_3 then 20 else if x = q_7 then 30 else 0), rfl, no_q_1, hq_1'V_9, fr, hj9, L_q⟩, mB_of ht hV⟩, hS.F ht⟩) hS.2.2 d_Co_newSheets_29
set_option maxHeartbeats 4000000 in
set_option maxRecDepth 100000 in
/-- newSheets(2) -/
theorem c_Co_newSheets2 (l : Launch) (D : va_G) (N0 : Nat) (k : Nat → Nat) (V : HV)  : Met l y_Co_newSheets (.code y_Co_newSheets b_Co_newSheets 3 (some (.array (.object "BoardHouse$Sheet"))) :: WS) ({ frames := 2, cells := 9, slots := 104, locals := 40 }) (mP D N0 k [.int 2] V) (va_Qq (fun r0 V' => ∃ q F s0 r L, r0 = some q ∧ shN k 2 V V' q F s0 r L) (mB D N0) (hA N0)) 9 104 (hA N0) := by
  refine Met.ofW (cc := b_Co_newSheets) (maxL := 3) (ret := (some (.array (.object "BoardHouse$Sheet")))) (by decide) rfl ?_
  intro p e s m args below meth c s₁ B hml hv0
  obtain ⟨rfl, hG, hV⟩ := hv0
  have hx := B.exec
  have hb := B.bytes
  have hr := B.returns
  have hts := atoms_spec (ws := .code y_Co_newSheets b_Co_newSheets 3 (some (.array (.object "BoardHouse$Sheet"))) :: WS) B.pre
  have hW : ∀ w ∈ WS, w.before _ s = true := fun w h => hts w (List.mem_cons_of_mem _ h)
  have hown : s.vm.findClass "BoardHouse$Copper" = some m.cls := findClass_of_methodNamed B.named
  have hlocks := B.notSynchronized
  have hS : va_S (hA N0) s.heap s.heap [] := va_S.rf
  have hl := lv_entry ([.int 2]) (n := 3) (Nat.le_of_ble_eq_true rfl)
  rw [lg_entry_eq]
  generalize (lg_sl ([.int 2]) ++ List.replicate (3 - (lg_sl ([.int 2])).length) Slot.unset).toArray = ls at hl ⊢
  have hl : lv_has ls 3 [(0, .int 2)] := hl
  refine lv_iload_n hx hb d_Co_newSheets_0 rfl (lv_at hl 0 rfl) ?_
  refine hv_newq (N' := 2) hx hb hown (hW _ wk_Co_17) hG.2.2.2.1.2.2.2 hG.K hV hS 6 rfl (by decide) rfl (by omega) (Nat.le_of_ble_eq_true rfl) (Nat.le_of_ble_eq_true rfl) hG.N d_Co_newSheets_1 (fun q_1 H hn_q_1 hN_q_1 hV hS => ?_)
  replace hV : hv D vwCl N0 (hu V q_1 (.inl (k 6, 2, .inr (.inr (.inr (.inr (fun _ => none))))))) H := hV
  generalize hV_V_2 : hu V q_1 (.inl (k 6, 2, .inr (.inr (.inr (.inr (fun _ => none)))))) = V_2 at hV
  have hq_1'V_2 : V_2 q_1 = some (.inl (k 6, 2, .inr (.inr (.inr (.inr (fun _ => none)))))) := by rw [← hV_V_2]; exact hu_s
  refine lv_astore_n (lv' := [(1, .ref q_1), (0, .int 2)]) hx hb d_Co_newSheets_4 rfl hl (by decide) rfl (fun ls hl => ?_)
  refine lv_iconst (v := 0) hx hb d_Co_newSheets_5 (by decide) ?_
  refine lv_istore_n (lv' := [(2, .int 0), (1, .ref q_1), (0, .int 2)]) hx hb d_Co_newSheets_6 rfl hl (by decide) rfl (fun ls hl => ?_)
  refine lv_iload_n hx hb d_Co_newSheets_7 rfl (lv_at hl 0 rfl) ?_
  refine lv_iload_n hx hb d_Co_newSheets_8 rfl (lv_at hl 2 rfl) ?_
  refine lv_icmp_ge (tgt := 28) hx hb d_Co_newSheets_9 (by decide) (fun q => absurd q (by decide)) (fun _ => ?_)
  refine lv_aload_n hx hb d_Co_newSheets_12 rfl (lv_at hl 1 rfl) ?_
  refine lv_iload_n hx hb d_Co_newSheets_13 rfl (lv_at hl 0 rfl) ?_
  refine hv_new (ci := 3) (fs := [.null]) (C := R_Sh) (T := T_Sh) (N := 1) hx hb hW in_Sh t_Sh ty_Sh hown (hW _ wk_Co_17) (hW _ wo_Sh) (hW _ wi_Sh) hG.K hV hS rfl (fun j hj => by rcases (show j = 0 by omega) with rfl <;> rfl) (Nat.le_of_ble_eq_true rfl) (Nat.le_of_ble_eq_true rfl) hG.N d_Co_newSheets_14 (fun q_3 H hn_q_3 hN_q_3 hV hS => ?_)
  have ne_q_1_q_3 : q_1 ≠ q_3 := fun z => by rw [← z, hq_1'V_2] at hn_q_3; cases hn_q_3
  replace hV : hv D vwCl N0 (hu V_2 q_3 (.inr (3, [.null]))) H := hV
  generalize hV_V_4 : hu V_2 q_3 (.inr (3, [.null])) = V_4 at hV
  have hq_1'V_4 : V_4 q_1 = some (.inl (k 6, 2, .inr (.inr (.inr (.inr (fun _ => none)))))) := by rw [← hV_V_4, hu_n ne_q_1_q_3]; exact hq_1'V_2
  have hq_3'V_4 : V_4 q_3 = some (.inr (3, [.null])) := by rw [← hV_V_4]; exact hu_s
  refine lv_dup hx hb d_Co_newSheets_17 rfl ?_
  refine rc_V (va_runIN (As := []) (rest := [.ref q_3, .int 0, .ref q_1]) ⟨hx, hb, hml, hown, hts⟩ (c_Sh_init l D N0 k V_4 q_3 hq_3'V_4) ⟨va_cnB 0 hts (gi_c wc_Sh_init) rfl rfl rfl (va_Nw.of rfl (hG.nest wmn_Co_19 rfl #[])) (hW _ wi_Sh) (by decide +kernel) ⟨Nat.le_of_ble_eq_true rfl, Nat.le_of_ble_eq_true rfl⟩, rfl, hW _ wv_Sh_init⟩ (mP.preS hG hS hV) rfl rfl hl.1 rfl (lv_room (Nat.le_of_ble_eq_true rfl)) d_Co_newSheets_18 ⟨Nat.le_of_ble_eq_true rfl, Nat.le_of_ble_eq_true rfl⟩) hS (fun V_5 H locs hp_6 hV hS => ?_)
  obtain ⟨q_7, hn_q_7, ev_q_7⟩ := hp_6
  obtain ⟨V_8, eV_V_8⟩ : ∃ z, z = hu V_4 q_7 (eI k 24 (fun _ => 0)) := ⟨_, rfl⟩
  rw [← eV_V_8] at ev_q_7
  have ne_q_1_q_7 : q_1 ≠ q_7 := fun z => by rw [← z, hq_1'V_4] at hn_q_7; cases hn_q_7
  have ne_q_3_q_7 : q_3 ≠ q_7 := fun z => by rw [← z, hq_3'V_4] at hn_q_7; cases hn_q_7
  have hV_V_8 := eV_V_8.symm
  have hq_1'V_8 : V_8 q_1 = some (.inl (k 6, 2, .inr (.inr (.inr (.inr (fun _ => none)))))) := by rw [← hV_V_8, hu_n ne_q_1_q_7]; exact hq_1'V_4
  have hq_3'V_8 : V_8 q_3 = some (.inr (3, [.null])) := by rw [← hV_V_8, hu_n ne_q_3_q_7]; exact hq_3'V_4
  have hq_7'V_8 : V_8 q_7 = some (eI k 24 (fun _ => 0)) := by rw [← hV_V_8]; exact hu_s
  have hV_V_5 := ev_q_7.symm
  have hq_1'V_5 : V_5 q_1 = some (.inl (k 6, 2, .inr (.inr (.inr (.inr (fun _ => none)))))) := by rw [← hV_V_5, hu_n ne_q_1_q_3]; exact hq_1'V_8
  have hq_7'V_5 : V_5 q_7 = some (eI k 24 (fun _ => 0)) := by rw [← hV_V_5, hu_n (Ne.symm ne_q_3_q_7)]; exact hq_7'V_8
  have hq_3'V_5 : V_5 q_3 = some (eSh q_7) := by rw [← hV_V_5]; exact hu_s
  refine hv_aast hx hb hG.K hV hS 6 3 hq_1'V_5 rfl hq_3'V_5 rfl ((vp_in_nI (by omega) (by omega) : vp_in (nI 0) 2)) d_Co_newSheets_21 (fun H locs hV hS => ?_)
  rw [show (0 : Int32).toNatClampNeg = 0 from rfl] at hV
  replace hV : hv D vwCl N0 (hu V_5 q_1 (.inl (k 6, 2, .inr (.inr (.inr (.inr (va_up (fun _ => none) 0 (some q_3)))))))) H := hV
  generalize hV_V_9 : hu V_5 q_1 (.inl (k 6, 2, .inr (.inr (.inr (.inr (va_up (fun _ => none) 0 (some q_3))))))) = V_9 at hV
  have hq_7'V_9 : V_9 q_7 = some (eI k 24 (fun _ => 0)) := by rw [← hV_V_9, hu_n (Ne.symm ne_q_1_q_7)]; exact hq_7'V_5
  have hq_3'V_9 : V_9 q_3 = some (.inr (3, [.ref q_7])) := by rw [← hV_V_9, hu_n (Ne.symm ne_q_1_q_3)]; exact hq_3'V_5
  have hq_1'V_9 : V_9 q_1 = some (.inl (k 6, 2, .inr (.inr (.inr (.inr (va_up (fun _ => none) 0 (some q_3))))))) := by rw [← hV_V_9]; exact hu_s
  refine lv_iinc (v := 1) (lv' := [(2, .int 1), (1, .ref q_1), (0, .int 2)]) hx hb d_Co_newSheets_22 hl (k := 0) rfl (by decide) (by decide) rfl (fun ls hl => ?_)
  refine lv_goto (tgt := 7) hx hb d_Co_newSheets_25 (by decide) ?_
  refine lv_iload_n hx hb d_Co_newSheets_7 rfl (lv_at hl 0 rfl) ?_
  refine lv_iload_n hx hb d_Co_newSheets_8 rfl (lv_at hl 2 rfl) ?_
  refine lv_icmp_ge (tgt := 28) hx hb d_Co_newSheets_9 (by decide) (fun q => absurd q (by decide)) (fun _ => ?_)
  refine lv_aload_n hx hb d_Co_newSheets_12 rfl (lv_at hl 1 rfl) ?_
  refine lv_iload_n hx hb d_Co_newSheets_13 rfl (lv_at hl 0 rfl) ?_
  refine hv_new (ci := 3) (fs := [.null]) (C := R_Sh) (T := T_Sh) (N := 1) hx hb hW in_Sh t_Sh ty_Sh hown (hW _ wk_Co_17) (hW _ wo_Sh) (hW _ wi_Sh) hG.K hV hS rfl (fun j hj => by rcases (show j = 0 by omega) with rfl <;> rfl) (Nat.le_of_ble_eq_true rfl) (Nat.le_of_ble_eq_true rfl) hG.N d_Co_newSheets_14 (fun q_10 H hn_q_10 hN_q_10 hV hS => ?_)
  have ne_q_7_q_10 : q_7 ≠ q_10 := fun z => by rw [← z, hq_7'V_9] at hn_q_10; cases hn_q_10
  have ne_q_3_q_10 : q_3 ≠ q_10 := fun z => by rw [← z, hq_3'V_9] at hn_q_10; cases hn_q_10
  have ne_q_1_q_10 : q_1 ≠ q_10 := fun z => by rw [← z, hq_1'V_9] at hn_q_10; cases hn_q_10
  replace hV : hv D vwCl N0 (hu V_9 q_10 (.inr (3, [.null]))) H := hV
  generalize hV_V_11 : hu V_9 q_10 (.inr (3, [.null])) = V_11 at hV
  have hq_7'V_11 : V_11 q_7 = some (eI k 24 (fun _ => 0)) := by rw [← hV_V_11, hu_n ne_q_7_q_10]; exact hq_7'V_9
  have hq_3'V_11 : V_11 q_3 = some (.inr (3, [.ref q_7])) := by rw [← hV_V_11, hu_n ne_q_3_q_10]; exact hq_3'V_9
  have hq_1'V_11 : V_11 q_1 = some (.inl (k 6, 2, .inr (.inr (.inr (.inr (va_up (fun _ => none) 0 (some q_3))))))) := by rw [← hV_V_11, hu_n ne_q_1_q_10]; exact hq_1'V_9
  have hq_10'V_11 : V_11 q_10 = some (.inr (3, [.null])) := by rw [← hV_V_11]; exact hu_s
  refine lv_dup hx hb d_Co_newSheets_17 rfl ?_
  refine rc_V (va_runIN (As := []) (rest := [.ref q_10, .int 1, .ref q_1]) ⟨hx, hb, hml, hown, hts⟩ (c_Sh_init l D N0 k V_11 q_10 hq_10'V_11) ⟨va_cnB 0 hts (gi_c wc_Sh_init) rfl rfl rfl (va_Nw.of rfl (hG.nest wmn_Co_19 rfl #[])) (hW _ wi_Sh) (by decide +kernel) ⟨Nat.le_of_ble_eq_true rfl, Nat.le_of_ble_eq_true rfl⟩, rfl, hW _ wv_Sh_init⟩ (mP.preS hG hS hV) rfl rfl hl.1 rfl (lv_room (Nat.le_of_ble_eq_true rfl)) d_Co_newSheets_18 ⟨Nat.le_of_ble_eq_true rfl, Nat.le_of_ble_eq_true rfl⟩) hS (fun V_12 H locs hp_13 hV hS => ?_)
  obtain ⟨q_14, hn_q_14, ev_q_14⟩ := hp_13
  obtain ⟨V_15, eV_V_15⟩ : ∃ z, z = hu V_11 q_14 (eI k 24 (fun _ => 0)) := ⟨_, rfl⟩
  rw [← eV_V_15] at ev_q_14
  have ne_q_7_q_14 : q_7 ≠ q_14 := fun z => by rw [← z, hq_7'V_11] at hn_q_14; cases hn_q_14
  have ne_q_3_q_14 : q_3 ≠ q_14 := fun z => by rw [← z, hq_3'V_11] at hn_q_14; cases hn_q_14
  have ne_q_1_q_14 : q_1 ≠ q_14 := fun z => by rw [← z, hq_1'V_11] at hn_q_14; cases hn_q_14
  have ne_q_10_q_14 : q_10 ≠ q_14 := fun z => by rw [← z, hq_10'V_11] at hn_q_14; cases hn_q_14
  have hV_V_15 := eV_V_15.symm
  have hq_7'V_15 : V_15 q_7 = some (eI k 24 (fun _ => 0)) := by rw [← hV_V_15, hu_n ne_q_7_q_14]; exact hq_7'V_11
  have hq_3'V_15 : V_15 q_3 = some (.inr (3, [.ref q_7])) := by rw [← hV_V_15, hu_n ne_q_3_q_14]; exact hq_3'V_11
  have hq_1'V_15 : V_15 q_1 = some (.inl (k 6, 2, .inr (.inr (.inr (.inr (va_up (fun _ => none) 0 (some q_3))))))) := by rw [← hV_V_15, hu_n ne_q_1_q_14]; exact hq_1'V_11
  have hq_10'V_15 : V_15 q_10 = some (.inr (3, [.null])) := by rw [← hV_V_15, hu_n ne_q_10_q_14]; exact hq_10'V_11
  have hq_14'V_15 : V_15 q_14 = some (eI k 24 (fun _ => 0)) := by rw [← hV_V_15]; exact hu_s
  have hV_V_12 := ev_q_14.symm
  have hq_7'V_12 : V_12 q_7 = some (eI k 24 (fun _ => 0)) := by rw [← hV_V_12, hu_n ne_q_7_q_10]; exact hq_7'V_15
  have hq_3'V_12 : V_12 q_3 = some (.inr (3, [.ref q_7])) := by rw [← hV_V_12, hu_n ne_q_3_q_10]; exact hq_3'V_15
  have hq_1'V_12 : V_12 q_1 = some (.inl (k 6, 2, .inr (.inr (.inr (.inr (va_up (fun _ => none) 0 (some q_3))))))) := by rw [← hV_V_12, hu_n ne_q_1_q_10]; exact hq_1'V_15
  have hq_14'V_12 : V_12 q_14 = some (eI k 24 (fun _ => 0)) := by rw [← hV_V_12, hu_n (Ne.symm ne_q_10_q_14)]; exact hq_14'V_15
  have hq_10'V_12 : V_12 q_10 = some (eSh q_14) := by rw [← hV_V_12]; exact hu_s
  refine hv_aast hx hb hG.K hV hS 6 3 hq_1'V_12 rfl hq_10'V_12 rfl ((vp_in_nI (by omega) (by omega) : vp_in (nI 1) 2)) d_Co_newSheets_21 (fun H locs hV hS => ?_)
  rw [show (1 : Int32).toNatClampNeg = 1 from rfl] at hV
  replace hV : hv D vwCl N0 (hu V_12 q_1 (.inl (k 6, 2, .inr (.inr (.inr (.inr (va_up (va_up (fun _ => none) 0 (some q_3)) 1 (some q_10)))))))) H := hV
  generalize hV_V_16 : hu V_12 q_1 (.inl (k 6, 2, .inr (.inr (.inr (.inr (va_up (va_up (fun _ => none) 0 (some q_3)) 1 (some q_10))))))) = V_16 at hV
  have hq_7'V_16 : V_16 q_7 = some (eI k 24 (fun _ => 0)) := by rw [← hV_V_16, hu_n (Ne.symm ne_q_1_q_7)]; exact hq_7'V_12
  have hq_3'V_16 : V_16 q_3 = some (.inr (3, [.ref q_7])) := by rw [← hV_V_16, hu_n (Ne.symm ne_q_1_q_3)]; exact hq_3'V_12
  have hq_14'V_16 : V_16 q_14 = some (eI k 24 (fun _ => 0)) := by rw [← hV_V_16, hu_n (Ne.symm ne_q_1_q_14)]; exact hq_14'V_12
  have hq_10'V_16 : V_16 q_10 = some (.inr (3, [.ref q_14])) := by rw [← hV_V_16, hu_n (Ne.symm ne_q_1_q_10)]; exact hq_10'V_12
  have hq_1'V_16 : V_16 q_1 = some (.inl (k 6, 2, .inr (.inr (.inr (.inr (va_up (va_up (fun _ => none) 0 (some q_3)) 1 (some q_10))))))) := by rw [← hV_V_16]; exact hu_s
  refine lv_iinc (v := 2) (lv' := [(2, .int 2), (1, .ref q_1), (0, .int 2)]) hx hb d_Co_newSheets_22 hl (k := 0) rfl (by decide) (by decide) rfl (fun ls hl => ?_)
  refine lv_goto (tgt := 7) hx hb d_Co_newSheets_25 (by decide) ?_
  refine lv_iload_n hx hb d_Co_newSheets_7 rfl (lv_at hl 0 rfl) ?_
  refine lv_iload_n hx hb d_Co_newSheets_8 rfl (lv_at hl 2 rfl) ?_
  refine lv_icmp_ge (tgt := 28) hx hb d_Co_newSheets_9 (by decide) (fun _ => ?_) (fun q => absurd q (by decide))
  refine lv_aload_n hx hb d_Co_newSheets_28 rfl (lv_at hl 1 rfl) ?_
  refine W.widen (k := 9) (n := 104) (by omega) (by omega) ?_
  have no_q_1 : V q_1 = none := by
    have h0 := hn_q_1
    exact h0
  have no_q_3 : V q_3 = none := by
    have h0 := hn_q_3
    rw [← hV_V_2, hu_n (Ne.symm ne_q_1_q_3)] at h0
    exact h0
  have no_q_7 : V q_7 = none := by
    have h0 := hn_q_7
    rw [← hV_V_4, hu_n (Ne.symm ne_q_3_q_7)] at h0
    rw [← hV_V_2, hu_n (Ne.symm ne_q_1_q_7)] at h0
    exact h0
  have no_q_10 : V q_10 = none := by
    have h0 := hn_q_10
    rw [← hV_V_9, hu_n (Ne.symm ne_q_1_q_10)] at h0
    rw [← hV_V_5, hu_n (Ne.symm ne_q_3_q_10)] at h0
    rw [← hV_V_8, hu_n (Ne.symm ne_q_7_q_10)] at h0
    rw [← hV_V_4, hu_n (Ne.symm ne_q_3_q_10)] at h0
    rw [← hV_V_2, hu_n (Ne.symm ne_q_1_q_10)] at h0
    exact h0
  have no_q_14 : V q_14 = none := by
    have h0 := hn_q_14
    rw [← hV_V_11, hu_n (Ne.symm ne_q_10_q_14)] at h0
    rw [← hV_V_9, hu_n (Ne.symm ne_q_1_q_14)] at h0
    rw [← hV_V_5, hu_n (Ne.symm ne_q_3_q_14)] at h0
    rw [← hV_V_8, hu_n (Ne.symm ne_q_7_q_14)] at h0
    rw [← hV_V_4, hu_n (Ne.symm ne_q_3_q_14)] at h0
    rw [← hV_V_2, hu_n (Ne.symm ne_q_1_q_14)] at h0
    exact h0
  have fr : ∀ x e, V x = some e → V_16 x = some e := fun x e hx => by
    rw [← hV_V_16, hu_n (fun z => by rw [z, no_q_1] at hx; cases hx)]
    rw [← hV_V_12, hu_n (fun z => by rw [z, no_q_10] at hx; cases hx)]
    rw [← hV_V_15, hu_n (fun z => by rw [z, no_q_14] at hx; cases hx)]
    rw [← hV_V_11, hu_n (fun z => by rw [z, no_q_10] at hx; cases hx)]
    rw [← hV_V_9, hu_n (fun z => by rw [z, no_q_1] at hx; cases hx)]
    rw [← hV_V_5, hu_n (fun z => by rw [z, no_q_3] at hx; cases hx)]
    rw [← hV_V_8, hu_n (fun z => by rw [z, no_q_7] at hx; cases hx)]
    rw [← hV_V_4, hu_n (fun z => by rw [z, no_q_3] at hx; cases hx)]
    rw [← hV_V_2, hu_n (fun z => by rw [z, no_q_1] at hx; cases hx)]
    exact hx
  have L_q : (fun x => if x = q_1 then 10 else if x = q_3 then 20 else if x = q_10 then 21 else if x = q_7 then 30 else if x = q_14 then 31 else 0) q_1 = 10 := if_pos rfl
  have L_s0 : (fun x => if x = q_1 then 10 else if x = q_3 then 20 else if x = q_10 then 21 else if x = q_7 then 30 else if x = q_14 then 31 else 0) q_3 = 20 := by simp [ne_q_1_q_3, ne_q_1_q_7, ne_q_1_q_10, ne_q_1_q_14, (Ne.symm ne_q_1_q_3), ne_q_3_q_7, ne_q_3_q_10, ne_q_3_q_14, (Ne.symm ne_q_1_q_7), (Ne.symm ne_q_3_q_7), ne_q_7_q_10, ne_q_7_q_14, (Ne.symm ne_q_1_q_10), (Ne.symm ne_q_3_q_10), (Ne.symm ne_q_7_q_10), ne_q_10_q_14, (Ne.symm ne_q_1_q_14), (Ne.symm ne_q_3_q_14), (Ne.symm ne_q_7_q_14), (Ne.symm ne_q_10_q_14)]
  have L_r0 : (fun x => if x = q_1 then 10 else if x = q_3 then 20 else if x = q_10 then 21 else if x = q_7 then 30 else if x = q_14 then 31 else 0) q_7 = 30 := by simp [ne_q_1_q_3, ne_q_1_q_7, ne_q_1_q_10, ne_q_1_q_14, (Ne.symm ne_q_1_q_3), ne_q_3_q_7, ne_q_3_q_10, ne_q_3_q_14, (Ne.symm ne_q_1_q_7), (Ne.symm ne_q_3_q_7), ne_q_7_q_10, ne_q_7_q_14, (Ne.symm ne_q_1_q_10), (Ne.symm ne_q_3_q_10), (Ne.symm ne_q_7_q_10), ne_q_10_q_14, (Ne.symm ne_q_1_q_14), (Ne.symm ne_q_3_q_14), (Ne.symm ne_q_7_q_14), (Ne.symm ne_q_10_q_14)]
  have L_s1 : (fun x => if x = q_1 then 10 else if x = q_3 then 20 else if x = q_10 then 21 else if x = q_7 then 30 else if x = q_14 then 31 else 0) q_10 = 21 := by simp [ne_q_1_q_3, ne_q_1_q_7, ne_q_1_q_10, ne_q_1_q_14, (Ne.symm ne_q_1_q_3), ne_q_3_q_7, ne_q_3_q_10, ne_q_3_q_14, (Ne.symm ne_q_1_q_7), (Ne.symm ne_q_3_q_7), ne_q_7_q_10, ne_q_7_q_14, (Ne.symm ne_q_1_q_10), (Ne.symm ne_q_3_q_10), (Ne.symm ne_q_7_q_10), ne_q_10_q_14, (Ne.symm ne_q_1_q_14), (Ne.symm ne_q_3_q_14), (Ne.symm ne_q_7_q_14), (Ne.symm ne_q_10_q_14)]
  have L_r1 : (fun x => if x = q_1 then 10 else if x = q_3 then 20 else if x = q_10 then 21 else if x = q_7 then 30 else if x = q_14 then 31 else 0) q_14 = 31 := by simp [ne_q_1_q_3, ne_q_1_q_7, ne_q_1_q_10, ne_q_1_q_14, (Ne.symm ne_q_1_q_3), ne_q_3_q_7, ne_q_3_q_10, ne_q_3_q_14, (Ne.symm ne_q_1_q_7), (Ne.symm ne_q_3_q_7), ne_q_7_q_10, ne_q_7_q_14, (Ne.symm ne_q_1_q_10), (Ne.symm ne_q_3_q_10), (Ne.symm ne_q_7_q_10), ne_q_10_q_14, (Ne.symm ne_q_1_q_14), (Ne.symm ne_q_3_q_14), (Ne.symm ne_q_7_q_14), (Ne.symm ne_q_10_q_14)]
  have hj9 : ∀ j, j < 2 → V ((if4 q_3 q_10 q_10 q_10) j) = none ∧ V ((if4 q_7 q_14 q_14 q_14) j) = none ∧ (va_up (va_up (fun _ => none) 0 (some q_3)) 1 (some q_10)) j = some ((if4 q_3 q_10 q_10 q_10) j) ∧ V_16 ((if4 q_3 q_10 q_10 q_10) j) = some (eSh ((if4 q_7 q_14 q_14 q_14) j)) ∧ V_16 ((if4 q_7 q_14 q_14 q_14) j) = some (eI k 24 (fun _ => 0)) ∧ (fun x => if x = q_1 then 10 else if x = q_3 then 20 else if x = q_10 then 21 else if x = q_7 then 30 else if x = q_14 then 31 else 0) ((if4 q_3 q_10 q_10 q_10) j) = 20 + j ∧ (fun x => if x = q_1 then 10 else if x = q_3 then 20 else if x = q_10 then 21 else if x = q_7 then 30 else if x = q_14 then 31 else 0) ((if4 q_7 q_14 q_14 q_14) j) = 30 + j := by
    intro j hj
    rcases (show j = 0 ∨ j = 1 by omega) with rfl | rfl
    · exact ⟨no_q_3, no_q_7, rfl, hq_3'V_16, hq_7'V_16, L_s0, L_r0⟩
    · exact ⟨no_q_10, no_q_14, rfl, hq_10'V_16, hq_14'V_16, L_s1, L_r1⟩
  exact W.aret (v := va_rf (some q_1)) hx hb hr (by first | exact Or.inl ⟨_, rfl⟩ | exact Or.inr ⟨_, rfl⟩) (va_rf_or _) (fun t9 ht hW => ⟨⟨(some q_1), V_16, rfl, ⟨q_1, (va_up (va_up (fun _ => none) 0 (some q_3)) 1 (some q_10)), (if4 q_3 q_10 q_10 q_10), (if4 q_7 q_14 q_14 q_14), (fun x => if x = q_1 then 10 else if x = q_3 then 20 else if x = q_10 then 21 else if x = q_7 then 30 else if x = q_14 then 31 else 0), rfl, no_q_1, hq_1'V_16, fr, hj9, L_q⟩, mB_of ht hV⟩, hS.F ht⟩) hS.2.2 d_Co_newSheets_29
set_option maxHeartbeats 4000000 in
set_option maxRecDepth 100000 in
/-- newSheets(3) -/
theorem c_Co_newSheets3 (l : Launch) (D : va_G) (N0 : Nat) (k : Nat → Nat) (V : HV)  : Met l y_Co_newSheets (.code y_Co_newSheets b_Co_newSheets 3 (some (.array (.object "BoardHouse$Sheet"))) :: WS) ({ frames := 2, cells := 9, slots := 104, locals := 40 }) (mP D N0 k [.int 3] V) (va_Qq (fun r0 V' => ∃ q F s0 r L, r0 = some q ∧ shN k 3 V V' q F s0 r L) (mB D N0) (hA N0)) 9 104 (hA N0) := by
  refine Met.ofW (cc := b_Co_newSheets) (maxL := 3) (ret := (some (.array (.object "BoardHouse$Sheet")))) (by decide) rfl ?_
  intro p e s m args below meth c s₁ B hml hv0
  obtain ⟨rfl, hG, hV⟩ := hv0
  have hx := B.exec
  have hb := B.bytes
  have hr := B.returns
  have hts := atoms_spec (ws := .code y_Co_newSheets b_Co_newSheets 3 (some (.array (.object "BoardHouse$Sheet"))) :: WS) B.pre
  have hW : ∀ w ∈ WS, w.before _ s = true := fun w h => hts w (List.mem_cons_of_mem _ h)
  have hown : s.vm.findClass "BoardHouse$Copper" = some m.cls := findClass_of_methodNamed B.named
  have hlocks := B.notSynchronized
  have hS : va_S (hA N0) s.heap s.heap [] := va_S.rf
  have hl := lv_entry ([.int 3]) (n := 3) (Nat.le_of_ble_eq_true rfl)
  rw [lg_entry_eq]
  generalize (lg_sl ([.int 3]) ++ List.replicate (3 - (lg_sl ([.int 3])).length) Slot.unset).toArray = ls at hl ⊢
  have hl : lv_has ls 3 [(0, .int 3)] := hl
  refine lv_iload_n hx hb d_Co_newSheets_0 rfl (lv_at hl 0 rfl) ?_
  refine hv_newq (N' := 3) hx hb hown (hW _ wk_Co_17) hG.2.2.2.1.2.2.2 hG.K hV hS 6 rfl (by decide) rfl (by omega) (Nat.le_of_ble_eq_true rfl) (Nat.le_of_ble_eq_true rfl) hG.N d_Co_newSheets_1 (fun q_1 H hn_q_1 hN_q_1 hV hS => ?_)
  replace hV : hv D vwCl N0 (hu V q_1 (.inl (k 6, 3, .inr (.inr (.inr (.inr (fun _ => none))))))) H := hV
  generalize hV_V_2 : hu V q_1 (.inl (k 6, 3, .inr (.inr (.inr (.inr (fun _ => none)))))) = V_2 at hV
  have hq_1'V_2 : V_2 q_1 = some (.inl (k 6, 3, .inr (.inr (.inr (.inr (fun _ => none)))))) := by rw [← hV_V_2]; exact hu_s
  refine lv_astore_n (lv' := [(1, .ref q_1), (0, .int 3)]) hx hb d_Co_newSheets_4 rfl hl (by decide) rfl (fun ls hl => ?_)
  refine lv_iconst (v := 0) hx hb d_Co_newSheets_5 (by decide) ?_
  refine lv_istore_n (lv' := [(2, .int 0), (1, .ref q_1), (0, .int 3)]) hx hb d_Co_newSheets_6 rfl hl (by decide) rfl (fun ls hl => ?_)
  refine lv_iload_n hx hb d_Co_newSheets_7 rfl (lv_at hl 0 rfl) ?_
  refine lv_iload_n hx hb d_Co_newSheets_8 rfl (lv_at hl 2 rfl) ?_
  refine lv_icmp_ge (tgt := 28) hx hb d_Co_newSheets_9 (by decide) (fun q => absurd q (by decide)) (fun _ => ?_)
  refine lv_aload_n hx hb d_Co_newSheets_12 rfl (lv_at hl 1 rfl) ?_
  refine lv_iload_n hx hb d_Co_newSheets_13 rfl (lv_at hl 0 rfl) ?_
  refine hv_new (ci := 3) (fs := [.null]) (C := R_Sh) (T := T_Sh) (N := 1) hx hb hW in_Sh t_Sh ty_Sh hown (hW _ wk_Co_17) (hW _ wo_Sh) (hW _ wi_Sh) hG.K hV hS rfl (fun j hj => by rcases (show j = 0 by omega) with rfl <;> rfl) (Nat.le_of_ble_eq_true rfl) (Nat.le_of_ble_eq_true rfl) hG.N d_Co_newSheets_14 (fun q_3 H hn_q_3 hN_q_3 hV hS => ?_)
  have ne_q_1_q_3 : q_1 ≠ q_3 := fun z => by rw [← z, hq_1'V_2] at hn_q_3; cases hn_q_3
  replace hV : hv D vwCl N0 (hu V_2 q_3 (.inr (3, [.null]))) H := hV
  generalize hV_V_4 : hu V_2 q_3 (.inr (3, [.null])) = V_4 at hV
  have hq_1'V_4 : V_4 q_1 = some (.inl (k 6, 3, .inr (.inr (.inr (.inr (fun _ => none)))))) := by rw [← hV_V_4, hu_n ne_q_1_q_3]; exact hq_1'V_2
  have hq_3'V_4 : V_4 q_3 = some (.inr (3, [.null])) := by rw [← hV_V_4]; exact hu_s
  refine lv_dup hx hb d_Co_newSheets_17 rfl ?_
  refine rc_V (va_runIN (As := []) (rest := [.ref q_3, .int 0, .ref q_1]) ⟨hx, hb, hml, hown, hts⟩ (c_Sh_init l D N0 k V_4 q_3 hq_3'V_4) ⟨va_cnB 0 hts (gi_c wc_Sh_init) rfl rfl rfl (va_Nw.of rfl (hG.nest wmn_Co_19 rfl #[])) (hW _ wi_Sh) (by decide +kernel) ⟨Nat.le_of_ble_eq_true rfl, Nat.le_of_ble_eq_true rfl⟩, rfl, hW _ wv_Sh_init⟩ (mP.preS hG hS hV) rfl rfl hl.1 rfl (lv_room (Nat.le_of_ble_eq_true rfl)) d_Co_newSheets_18 ⟨Nat.le_of_ble_eq_true rfl, Nat.le_of_ble_eq_true rfl⟩) hS (fun V_5 H locs hp_6 hV hS => ?_)
  obtain ⟨q_7, hn_q_7, ev_q_7⟩ := hp_6
  obtain ⟨V_8, eV_V_8⟩ : ∃ z, z = hu V_4 q_7 (eI k 24 (fun _ => 0)) := ⟨_, rfl⟩
  rw [← eV_V_8] at ev_q_7
  have ne_q_1_q_7 : q_1 ≠ q_7 := fun z => by rw [← z, hq_1'V_4] at hn_q_7; cases hn_q_7
  have ne_q_3_q_7 : q_3 ≠ q_7 := fun z => by rw [← z, hq_3'V_4] at hn_q_7; cases hn_q_7
  have hV_V_8 := eV_V_8.symm
  have hq_1'V_8 : V_8 q_1 = some (.inl (k 6, 3, .inr (.inr (.inr (.inr (fun _ => none)))))) := by rw [← hV_V_8, hu_n ne_q_1_q_7]; exact hq_1'V_4
  have hq_3'V_8 : V_8 q_3 = some (.inr (3, [.null])) := by rw [← hV_V_8, hu_n ne_q_3_q_7]; exact hq_3'V_4
  have hq_7'V_8 : V_8 q_7 = some (eI k 24 (fun _ => 0)) := by rw [← hV_V_8]; exact hu_s
  have hV_V_5 := ev_q_7.symm
  have hq_1'V_5 : V_5 q_1 = some (.inl (k 6, 3, .inr (.inr (.inr (.inr (fun _ => none)))))) := by rw [← hV_V_5, hu_n ne_q_1_q_3]; exact hq_1'V_8
  have hq_7'V_5 : V_5 q_7 = some (eI k 24 (fun _ => 0)) := by rw [← hV_V_5, hu_n (Ne.symm ne_q_3_q_7)]; exact hq_7'V_8
  have hq_3'V_5 : V_5 q_3 = some (eSh q_7) := by rw [← hV_V_5]; exact hu_s
  refine hv_aast hx hb hG.K hV hS 6 3 hq_1'V_5 rfl hq_3'V_5 rfl ((vp_in_nI (by omega) (by omega) : vp_in (nI 0) 3)) d_Co_newSheets_21 (fun H locs hV hS => ?_)
  rw [show (0 : Int32).toNatClampNeg = 0 from rfl] at hV
  replace hV : hv D vwCl N0 (hu V_5 q_1 (.inl (k 6, 3, .inr (.inr (.inr (.inr (va_up (fun _ => none) 0 (some q_3)))))))) H := hV
  generalize hV_V_9 : hu V_5 q_1 (.inl (k 6, 3, .inr (.inr (.inr (.inr (va_up (fun _ => none) 0 (some q_3))))))) = V_9 at hV
  have hq_7'V_9 : V_9 q_7 = some (eI k 24 (fun _ => 0)) := by rw [← hV_V_9, hu_n (Ne.symm ne_q_1_q_7)]; exact hq_7'V_5
  have hq_3'V_9 : V_9 q_3 = some (.inr (3, [.ref q_7])) := by rw [← hV_V_9, hu_n (Ne.symm ne_q_1_q_3)]; exact hq_3'V_5
  have hq_1'V_9 : V_9 q_1 = some (.inl (k 6, 3, .inr (.inr (.inr (.inr (va_up (fun _ => none) 0 (some q_3))))))) := by rw [← hV_V_9]; exact hu_s
  refine lv_iinc (v := 1) (lv' := [(2, .int 1), (1, .ref q_1), (0, .int 3)]) hx hb d_Co_newSheets_22 hl (k := 0) rfl (by decide) (by decide) rfl (fun ls hl => ?_)
  refine lv_goto (tgt := 7) hx hb d_Co_newSheets_25 (by decide) ?_
  refine lv_iload_n hx hb d_Co_newSheets_7 rfl (lv_at hl 0 rfl) ?_
  refine lv_iload_n hx hb d_Co_newSheets_8 rfl (lv_at hl 2 rfl) ?_
  refine lv_icmp_ge (tgt := 28) hx hb d_Co_newSheets_9 (by decide) (fun q => absurd q (by decide)) (fun _ => ?_)
  refine lv_aload_n hx hb d_Co_newSheets_12 rfl (lv_at hl 1 rfl) ?_
  refine lv_iload_n hx hb d_Co_newSheets_13 rfl (lv_at hl 0 rfl) ?_
  refine hv_new (ci := 3) (fs := [.null]) (C := R_Sh) (T := T_Sh) (N := 1) hx hb hW in_Sh t_Sh ty_Sh hown (hW _ wk_Co_17) (hW _ wo_Sh) (hW _ wi_Sh) hG.K hV hS rfl (fun j hj => by rcases (show j = 0 by omega) with rfl <;> rfl) (Nat.le_of_ble_eq_true rfl) (Nat.le_of_ble_eq_true rfl) hG.N d_Co_newSheets_14 (fun q_10 H hn_q_10 hN_q_10 hV hS => ?_)
  have ne_q_7_q_10 : q_7 ≠ q_10 := fun z => by rw [← z, hq_7'V_9] at hn_q_10; cases hn_q_10
  have ne_q_3_q_10 : q_3 ≠ q_10 := fun z => by rw [← z, hq_3'V_9] at hn_q_10; cases hn_q_10
  have ne_q_1_q_10 : q_1 ≠ q_10 := fun z => by rw [← z, hq_1'V_9] at hn_q_10; cases hn_q_10
  replace hV : hv D vwCl N0 (hu V_9 q_10 (.inr (3, [.null]))) H := hV
  generalize hV_V_11 : hu V_9 q_10 (.inr (3, [.null])) = V_11 at hV
  have hq_7'V_11 : V_11 q_7 = some (eI k 24 (fun _ => 0)) := by rw [← hV_V_11, hu_n ne_q_7_q_10]; exact hq_7'V_9
  have hq_3'V_11 : V_11 q_3 = some (.inr (3, [.ref q_7])) := by rw [← hV_V_11, hu_n ne_q_3_q_10]; exact hq_3'V_9
  have hq_1'V_11 : V_11 q_1 = some (.inl (k 6, 3, .inr (.inr (.inr (.inr (va_up (fun _ => none) 0 (some q_3))))))) := by rw [← hV_V_11, hu_n ne_q_1_q_10]; exact hq_1'V_9
  have hq_10'V_11 : V_11 q_10 = some (.inr (3, [.null])) := by rw [← hV_V_11]; exact hu_s
  refine lv_dup hx hb d_Co_newSheets_17 rfl ?_
  refine rc_V (va_runIN (As := []) (rest := [.ref q_10, .int 1, .ref q_1]) ⟨hx, hb, hml, hown, hts⟩ (c_Sh_init l D N0 k V_11 q_10 hq_10'V_11) ⟨va_cnB 0 hts (gi_c wc_Sh_init) rfl rfl rfl (va_Nw.of rfl (hG.nest wmn_Co_19 rfl #[])) (hW _ wi_Sh) (by decide +kernel) ⟨Nat.le_of_ble_eq_true rfl, Nat.le_of_ble_eq_true rfl⟩, rfl, hW _ wv_Sh_init⟩ (mP.preS hG hS hV) rfl rfl hl.1 rfl (lv_room (Nat.le_of_ble_eq_true rfl)) d_Co_newSheets_18 ⟨Nat.le_of_ble_eq_true rfl, Nat.le_of_ble_eq_true rfl⟩) hS (fun V_12 H locs hp_13 hV hS => ?_)
  obtain ⟨q_14, hn_q_14, ev_q_14⟩ := hp_13
  obtain ⟨V_15, eV_V_15⟩ : ∃ z, z = hu V_11 q_14 (eI k 24 (fun _ => 0)) := ⟨_, rfl⟩
  rw [← eV_V_15] at ev_q_14
  have ne_q_7_q_14 : q_7 ≠ q_14 := fun z => by rw [← z, hq_7'V_11] at hn_q_14; cases hn_q_14
  have ne_q_3_q_14 : q_3 ≠ q_14 := fun z => by rw [← z, hq_3'V_11] at hn_q_14; cases hn_q_14
  have ne_q_1_q_14 : q_1 ≠ q_14 := fun z => by rw [← z, hq_1'V_11] at hn_q_14; cases hn_q_14
  have ne_q_10_q_14 : q_10 ≠ q_14 := fun z => by rw [← z, hq_10'V_11] at hn_q_14; cases hn_q_14
  have hV_V_15 := eV_V_15.symm
  have hq_7'V_15 : V_15 q_7 = some (eI k 24 (fun _ => 0)) := by rw [← hV_V_15, hu_n ne_q_7_q_14]; exact hq_7'V_11
  have hq_3'V_15 : V_15 q_3 = some (.inr (3, [.ref q_7])) := by rw [← hV_V_15, hu_n ne_q_3_q_14]; exact hq_3'V_11
  have hq_1'V_15 : V_15 q_1 = some (.inl (k 6, 3, .inr (.inr (.inr (.inr (va_up (fun _ => none) 0 (some q_3))))))) := by rw [← hV_V_15, hu_n ne_q_1_q_14]; exact hq_1'V_11
  have hq_10'V_15 : V_15 q_10 = some (.inr (3, [.null])) := by rw [← hV_V_15, hu_n ne_q_10_q_14]; exact hq_10'V_11
  have hq_14'V_15 : V_15 q_14 = some (eI k 24 (fun _ => 0)) := by rw [← hV_V_15]; exact hu_s
  have hV_V_12 := ev_q_14.symm
  have hq_7'V_12 : V_12 q_7 = some (eI k 24 (fun _ => 0)) := by rw [← hV_V_12, hu_n ne_q_7_q_10]; exact hq_7'V_15
  have hq_3'V_12 : V_12 q_3 = some (.inr (3, [.ref q_7])) := by rw [← hV_V_12, hu_n ne_q_3_q_10]; exact hq_3'V_15
  have hq_1'V_12 : V_12 q_1 = some (.inl (k 6, 3, .inr (.inr (.inr (.inr (va_up (fun _ => none) 0 (some q_3))))))) := by rw [← hV_V_12, hu_n ne_q_1_q_10]; exact hq_1'V_15
  have hq_14'V_12 : V_12 q_14 = some (eI k 24 (fun _ => 0)) := by rw [← hV_V_12, hu_n (Ne.symm ne_q_10_q_14)]; exact hq_14'V_15
  have hq_10'V_12 : V_12 q_10 = some (eSh q_14) := by rw [← hV_V_12]; exact hu_s
  refine hv_aast hx hb hG.K hV hS 6 3 hq_1'V_12 rfl hq_10'V_12 rfl ((vp_in_nI (by omega) (by omega) : vp_in (nI 1) 3)) d_Co_newSheets_21 (fun H locs hV hS => ?_)
  rw [show (1 : Int32).toNatClampNeg = 1 from rfl] at hV
  replace hV : hv D vwCl N0 (hu V_12 q_1 (.inl (k 6, 3, .inr (.inr (.inr (.inr (va_up (va_up (fun _ => none) 0 (some q_3)) 1 (some q_10)))))))) H := hV
  generalize hV_V_16 : hu V_12 q_1 (.inl (k 6, 3, .inr (.inr (.inr (.inr (va_up (va_up (fun _ => none) 0 (some q_3)) 1 (some q_10))))))) = V_16 at hV
  have hq_7'V_16 : V_16 q_7 = some (eI k 24 (fun _ => 0)) := by rw [← hV_V_16, hu_n (Ne.symm ne_q_1_q_7)]; exact hq_7'V_12
  have hq_3'V_16 : V_16 q_3 = some (.inr (3, [.ref q_7])) := by rw [← hV_V_16, hu_n (Ne.symm ne_q_1_q_3)]; exact hq_3'V_12
  have hq_14'V_16 : V_16 q_14 = some (eI k 24 (fun _ => 0)) := by rw [← hV_V_16, hu_n (Ne.symm ne_q_1_q_14)]; exact hq_14'V_12
  have hq_10'V_16 : V_16 q_10 = some (.inr (3, [.ref q_14])) := by rw [← hV_V_16, hu_n (Ne.symm ne_q_1_q_10)]; exact hq_10'V_12
  have hq_1'V_16 : V_16 q_1 = some (.inl (k 6, 3, .inr (.inr (.inr (.inr (va_up (va_up (fun _ => none) 0 (some q_3)) 1 (some q_10))))))) := by rw [← hV_V_16]; exact hu_s
  refine lv_iinc (v := 2) (lv' := [(2, .int 2), (1, .ref q_1), (0, .int 3)]) hx hb d_Co_newSheets_22 hl (k := 0) rfl (by decide) (by decide) rfl (fun ls hl => ?_)
  refine lv_goto (tgt := 7) hx hb d_Co_newSheets_25 (by decide) ?_
  refine lv_iload_n hx hb d_Co_newSheets_7 rfl (lv_at hl 0 rfl) ?_
  refine lv_iload_n hx hb d_Co_newSheets_8 rfl (lv_at hl 2 rfl) ?_
  refine lv_icmp_ge (tgt := 28) hx hb d_Co_newSheets_9 (by decide) (fun q => absurd q (by decide)) (fun _ => ?_)
  refine lv_aload_n hx hb d_Co_newSheets_12 rfl (lv_at hl 1 rfl) ?_
  refine lv_iload_n hx hb d_Co_newSheets_13 rfl (lv_at hl 0 rfl) ?_
  refine hv_new (ci := 3) (fs := [.null]) (C := R_Sh) (T := T_Sh) (N := 1) hx hb hW in_Sh t_Sh ty_Sh hown (hW _ wk_Co_17) (hW _ wo_Sh) (hW _ wi_Sh) hG.K hV hS rfl (fun j hj => by rcases (show j = 0 by omega) with rfl <;> rfl) (Nat.le_of_ble_eq_true rfl) (Nat.le_of_ble_eq_true rfl) hG.N d_Co_newSheets_14 (fun q_17 H hn_q_17 hN_q_17 hV hS => ?_)
  have ne_q_7_q_17 : q_7 ≠ q_17 := fun z => by rw [← z, hq_7'V_16] at hn_q_17; cases hn_q_17
  have ne_q_3_q_17 : q_3 ≠ q_17 := fun z => by rw [← z, hq_3'V_16] at hn_q_17; cases hn_q_17
  have ne_q_14_q_17 : q_14 ≠ q_17 := fun z => by rw [← z, hq_14'V_16] at hn_q_17; cases hn_q_17
  have ne_q_10_q_17 : q_10 ≠ q_17 := fun z => by rw [← z, hq_10'V_16] at hn_q_17; cases hn_q_17
  have ne_q_1_q_17 : q_1 ≠ q_17 := fun z => by rw [← z, hq_1'V_16] at hn_q_17; cases hn_q_17
  replace hV : hv D vwCl N0 (hu V_16 q_17 (.inr (3, [.null]))) H := hV
  generalize hV_V_18 : hu V_16 q_17 (.inr (3, [.null])) = V_18 at hV
  have hq_7'V_18 : V_18 q_7 = some (eI k 24 (fun _ => 0)) := by rw [← hV_V_18, hu_n ne_q_7_q_17]; exact hq_7'V_16
  have hq_3'V_18 : V_18 q_3 = some (.inr (3, [.ref q_7])) := by rw [← hV_V_18, hu_n ne_q_3_q_17]; exact hq_3'V_16
  have hq_14'V_18 : V_18 q_14 = some (eI k 24 (fun _ => 0)) := by rw [← hV_V_18, hu_n ne_q_14_q_17]; exact hq_14'V_16
  have hq_10'V_18 : V_18 q_10 = some (.inr (3, [.ref q_14])) := by rw [← hV_V_18, hu_n ne_q_10_q_17]; exact hq_10'V_16
  have hq_1'V_18 : V_18 q_1 = some (.inl (k 6, 3, .inr (.inr (.inr (.inr (va_up (va_up (fun _ => none) 0 (some q_3)) 1 (some q_10))))))) := by rw [← hV_V_18, hu_n ne_q_1_q_17]; exact hq_1'V_16
  have hq_17'V_18 : V_18 q_17 = some (.inr (3, [.null])) := by rw [← hV_V_18]; exact hu_s
  refine lv_dup hx hb d_Co_newSheets_17 rfl ?_
  refine rc_V (va_runIN (As := []) (rest := [.ref q_17, .int 2, .ref q_1]) ⟨hx, hb, hml, hown, hts⟩ (c_Sh_init l D N0 k V_18 q_17 hq_17'V_18) ⟨va_cnB 0 hts (gi_c wc_Sh_init) rfl rfl rfl (va_Nw.of rfl (hG.nest wmn_Co_19 rfl #[])) (hW _ wi_Sh) (by decide +kernel) ⟨Nat.le_of_ble_eq_true rfl, Nat.le_of_ble_eq_true rfl⟩, rfl, hW _ wv_Sh_init⟩ (mP.preS hG hS hV) rfl rfl hl.1 rfl (lv_room (Nat.le_of_ble_eq_true rfl)) d_Co_newSheets_18 ⟨Nat.le_of_ble_eq_true rfl, Nat.le_of_ble_eq_true rfl⟩) hS (fun V_19 H locs hp_20 hV hS => ?_)
  obtain ⟨q_21, hn_q_21, ev_q_21⟩ := hp_20
  obtain ⟨V_22, eV_V_22⟩ : ∃ z, z = hu V_18 q_21 (eI k 24 (fun _ => 0)) := ⟨_, rfl⟩
  rw [← eV_V_22] at ev_q_21
  have ne_q_7_q_21 : q_7 ≠ q_21 := fun z => by rw [← z, hq_7'V_18] at hn_q_21; cases hn_q_21
  have ne_q_3_q_21 : q_3 ≠ q_21 := fun z => by rw [← z, hq_3'V_18] at hn_q_21; cases hn_q_21
  have ne_q_14_q_21 : q_14 ≠ q_21 := fun z => by rw [← z, hq_14'V_18] at hn_q_21; cases hn_q_21
  have ne_q_10_q_21 : q_10 ≠ q_21 := fun z => by rw [← z, hq_10'V_18] at hn_q_21; cases hn_q_21
  have ne_q_1_q_21 : q_1 ≠ q_21 := fun z => by rw [← z, hq_1'V_18] at hn_q_21; cases hn_q_21
  have ne_q_17_q_21 : q_17 ≠ q_21 := fun z => by rw [← z, hq_17'V_18] at hn_q_21; cases hn_q_21
  have hV_V_22 := eV_V_22.symm
  have hq_7'V_22 : V_22 q_7 = some (eI k 24 (fun _ => 0)) := by rw [← hV_V_22, hu_n ne_q_7_q_21]; exact hq_7'V_18
  have hq_3'V_22 : V_22 q_3 = some (.inr (3, [.ref q_7])) := by rw [← hV_V_22, hu_n ne_q_3_q_21]; exact hq_3'V_18
  have hq_14'V_22 : V_22 q_14 = some (eI k 24 (fun _ => 0)) := by rw [← hV_V_22, hu_n ne_q_14_q_21]; exact hq_14'V_18
  have hq_10'V_22 : V_22 q_10 = some (.inr (3, [.ref q_14])) := by rw [← hV_V_22, hu_n ne_q_10_q_21]; exact hq_10'V_18
  have hq_1'V_22 : V_22 q_1 = some (.inl (k 6, 3, .inr (.inr (.inr (.inr (va_up (va_up (fun _ => none) 0 (some q_3)) 1 (some q_10))))))) := by rw [← hV_V_22, hu_n ne_q_1_q_21]; exact hq_1'V_18
  have hq_17'V_22 : V_22 q_17 = some (.inr (3, [.null])) := by rw [← hV_V_22, hu_n ne_q_17_q_21]; exact hq_17'V_18
  have hq_21'V_22 : V_22 q_21 = some (eI k 24 (fun _ => 0)) := by rw [← hV_V_22]; exact hu_s
  have hV_V_19 := ev_q_21.symm
  have hq_7'V_19 : V_19 q_7 = some (eI k 24 (fun _ => 0)) := by rw [← hV_V_19, hu_n ne_q_7_q_17]; exact hq_7'V_22
  have hq_3'V_19 : V_19 q_3 = some (.inr (3, [.ref q_7])) := by rw [← hV_V_19, hu_n ne_q_3_q_17]; exact hq_3'V_22
  have hq_14'V_19 : V_19 q_14 = some (eI k 24 (fun _ => 0)) := by rw [← hV_V_19, hu_n ne_q_14_q_17]; exact hq_14'V_22
  have hq_10'V_19 : V_19 q_10 = some (.inr (3, [.ref q_14])) := by rw [← hV_V_19, hu_n ne_q_10_q_17]; exact hq_10'V_22
  have hq_1'V_19 : V_19 q_1 = some (.inl (k 6, 3, .inr (.inr (.inr (.inr (va_up (va_up (fun _ => none) 0 (some q_3)) 1 (some q_10))))))) := by rw [← hV_V_19, hu_n ne_q_1_q_17]; exact hq_1'V_22
  have hq_21'V_19 : V_19 q_21 = some (eI k 24 (fun _ => 0)) := by rw [← hV_V_19, hu_n (Ne.symm ne_q_17_q_21)]; exact hq_21'V_22
  have hq_17'V_19 : V_19 q_17 = some (eSh q_21) := by rw [← hV_V_19]; exact hu_s
  refine hv_aast hx hb hG.K hV hS 6 3 hq_1'V_19 rfl hq_17'V_19 rfl ((vp_in_nI (by omega) (by omega) : vp_in (nI 2) 3)) d_Co_newSheets_21 (fun H locs hV hS => ?_)
  rw [show (2 : Int32).toNatClampNeg = 2 from rfl] at hV
  replace hV : hv D vwCl N0 (hu V_19 q_1 (.inl (k 6, 3, .inr (.inr (.inr (.inr (va_up (va_up (va_up (fun _ => none) 0 (some q_3)) 1 (some q_10)) 2 (some q_17)))))))) H := hV
  generalize hV_V_23 : hu V_19 q_1 (.inl (k 6, 3, .inr (.inr (.inr (.inr (va_up (va_up (va_up (fun _ => none) 0 (some q_3)) 1 (some q_10)) 2 (some q_17))))))) = V_23 at hV
  have hq_7'V_23 : V_23 q_7 = some (eI k 24 (fun _ => 0)) := by rw [← hV_V_23, hu_n (Ne.symm ne_q_1_q_7)]; exact hq_7'V_19
  have hq_3'V_23 : V_23 q_3 = some (.inr (3, [.ref q_7])) := by rw [← hV_V_23, hu_n (Ne.symm ne_q_1_q_3)]; exact hq_3'V_19
  have hq_14'V_23 : V_23 q_14 = some (eI k 24 (fun _ => 0)) := by rw [← hV_V_23, hu_n (Ne.symm ne_q_1_q_14)]; exact hq_14'V_19
  have hq_10'V_23 : V_23 q_10 = some (.inr (3, [.ref q_14])) := by rw [← hV_V_23, hu_n (Ne.symm ne_q_1_q_10)]; exact hq_10'V_19
  have hq_21'V_23 : V_23 q_21 = some (eI k 24 (fun _ => 0)) := by rw [← hV_V_23, hu_n (Ne.symm ne_q_1_q_21)]; exact hq_21'V_19
  have hq_17'V_23 : V_23 q_17 = some (.inr (3, [.ref q_21])) := by rw [← hV_V_23, hu_n (Ne.symm ne_q_1_q_17)]; exact hq_17'V_19
  have hq_1'V_23 : V_23 q_1 = some (.inl (k 6, 3, .inr (.inr (.inr (.inr (va_up (va_up (va_up (fun _ => none) 0 (some q_3)) 1 (some q_10)) 2 (some q_17))))))) := by rw [← hV_V_23]; exact hu_s
  refine lv_iinc (v := 3) (lv' := [(2, .int 3), (1, .ref q_1), (0, .int 3)]) hx hb d_Co_newSheets_22 hl (k := 0) rfl (by decide) (by decide) rfl (fun ls hl => ?_)
  refine lv_goto (tgt := 7) hx hb d_Co_newSheets_25 (by decide) ?_
  refine lv_iload_n hx hb d_Co_newSheets_7 rfl (lv_at hl 0 rfl) ?_
  refine lv_iload_n hx hb d_Co_newSheets_8 rfl (lv_at hl 2 rfl) ?_
  refine lv_icmp_ge (tgt := 28) hx hb d_Co_newSheets_9 (by decide) (fun _ => ?_) (fun q => absurd q (by decide))
  refine lv_aload_n hx hb d_Co_newSheets_28 rfl (lv_at hl 1 rfl) ?_
  refine W.widen (k := 9) (n := 104) (by omega) (by omega) ?_
  have no_q_1 : V q_1 = none := by
    have h0 := hn_q_1
    exact h0
  have no_q_3 : V q_3 = none := by
    have h0 := hn_q_3
    rw [← hV_V_2, hu_n (Ne.symm ne_q_1_q_3)] at h0
    exact h0
  have no_q_7 : V q_7 = none := by
    have h0 := hn_q_7
    rw [← hV_V_4, hu_n (Ne.symm ne_q_3_q_7)] at h0
    rw [← hV_V_2, hu_n (Ne.symm ne_q_1_q_7)] at h0
    exact h0
  have no_q_10 : V q_10 = none := by
    have h0 := hn_q_10
    rw [← hV_V_9, hu_n (Ne.symm ne_q_1_q_10)] at h0
    rw [← hV_V_5, hu_n (Ne.symm ne_q_3_q_10)] at h0
    rw [← hV_V_8, hu_n (Ne.symm ne_q_7_q_10)] at h0
    rw [← hV_V_4, hu_n (Ne.symm ne_q_3_q_10)] at h0
    rw [← hV_V_2, hu_n (Ne.symm ne_q_1_q_10)] at h0
    exact h0
  have no_q_14 : V q_14 = none := by
    have h0 := hn_q_14
    rw [← hV_V_11, hu_n (Ne.symm ne_q_10_q_14)] at h0
    rw [← hV_V_9, hu_n (Ne.symm ne_q_1_q_14)] at h0
    rw [← hV_V_5, hu_n (Ne.symm ne_q_3_q_14)] at h0
    rw [← hV_V_8, hu_n (Ne.symm ne_q_7_q_14)] at h0
    rw [← hV_V_4, hu_n (Ne.symm ne_q_3_q_14)] at h0
    rw [← hV_V_2, hu_n (Ne.symm ne_q_1_q_14)] at h0
    exact h0
  have no_q_17 : V q_17 = none := by
    have h0 := hn_q_17
    rw [← hV_V_16, hu_n (Ne.symm ne_q_1_q_17)] at h0
    rw [← hV_V_12, hu_n (Ne.symm ne_q_10_q_17)] at h0
    rw [← hV_V_15, hu_n (Ne.symm ne_q_14_q_17)] at h0
    rw [← hV_V_11, hu_n (Ne.symm ne_q_10_q_17)] at h0
    rw [← hV_V_9, hu_n (Ne.symm ne_q_1_q_17)] at h0
    rw [← hV_V_5, hu_n (Ne.symm ne_q_3_q_17)] at h0
    rw [← hV_V_8, hu_n (Ne.symm ne_q_7_q_17)] at h0
    rw [← hV_V_4, hu_n (Ne.symm ne_q_3_q_17)] at h0
    rw [← hV_V_2, hu_n (Ne.symm ne_q_1_q_17)] at h0
    exact h0
  have no_q_21 : V q_21 = none := by
    have h0 := hn_q_21
    rw [← hV_V_18, hu_n (Ne.symm ne_q_17_q_21)] at h0
    rw [← hV_V_16, hu_n (Ne.symm ne_q_1_q_21)] at h0
    rw [← hV_V_12, hu_n (Ne.symm ne_q_10_q_21)] at h0
    rw [← hV_V_15, hu_n (Ne.symm ne_q_14_q_21)] at h0
    rw [← hV_V_11, hu_n (Ne.symm ne_q_10_q_21)] at h0
    rw [← hV_V_9, hu_n (Ne.symm ne_q_1_q_21)] at h0
    rw [← hV_V_5, hu_n (Ne.symm ne_q_3_q_21)] at h0
    rw [← hV_V_8, hu_n (Ne.symm ne_q_7_q_21)] at h0
    rw [← hV_V_4, hu_n (Ne.symm ne_q_3_q_21)] at h0
    rw [← hV_V_2, hu_n (Ne.symm ne_q_1_q_21)] at h0
    exact h0
  have fr : ∀ x e, V x = some e → V_23 x = some e := fun x e hx => by
    rw [← hV_V_23, hu_n (fun z => by rw [z, no_q_1] at hx; cases hx)]
    rw [← hV_V_19, hu_n (fun z => by rw [z, no_q_17] at hx; cases hx)]
    rw [← hV_V_22, hu_n (fun z => by rw [z, no_q_21] at hx; cases hx)]
    rw [← hV_V_18, hu_n (fun z => by rw [z, no_q_17] at hx; cases hx)]
    rw [← hV_V_16, hu_n (fun z => by rw [z, no_q_1] at hx; cases hx)]
    rw [← hV_V_12, hu_n (fun z => by rw [z, no_q_10] at hx; cases hx)]
    rw [← hV_V_15, hu_n (fun z => by rw [z, no_q_14] at hx; cases hx)]
    rw [← hV_V_11, hu_n (fun z => by rw [z, no_q_10] at hx; cases hx)]
    rw [← hV_V_9, hu_n (fun z => by rw [z, no_q_1] at hx; cases hx)]
    rw [← hV_V_5, hu_n (fun z => by rw [z, no_q_3] at hx; cases hx)]
    rw [← hV_V_8, hu_n (fun z => by rw [z, no_q_7] at hx; cases hx)]
    rw [← hV_V_4, hu_n (fun z => by rw [z, no_q_3] at hx; cases hx)]
    rw [← hV_V_2, hu_n (fun z => by rw [z, no_q_1] at hx; cases hx)]
    exact hx
  have L_q : (fun x => if x = q_1 then 10 else if x = q_3 then 20 else if x = q_10 then 21 else if x = q_17 then 22 else if x = q_7 then 30 else if x = q_14 then 31 else if x = q_21 then 32 else 0) q_1 = 10 := if_pos rfl
  have L_s0 : (fun x => if x = q_1 then 10 else if x = q_3 then 20 else if x = q_10 then 21 else if x = q_17 then 22 else if x = q_7 then 30 else if x = q_14 then 31 else if x = q_21 then 32 else 0) q_3 = 20 := by simp [ne_q_1_q_3, ne_q_1_q_7, ne_q_1_q_10, ne_q_1_q_14, ne_q_1_q_17, ne_q_1_q_21, (Ne.symm ne_q_1_q_3), ne_q_3_q_7, ne_q_3_q_10, ne_q_3_q_14, ne_q_3_q_17, ne_q_3_q_21, (Ne.symm ne_q_1_q_7), (Ne.symm ne_q_3_q_7), ne_q_7_q_10, ne_q_7_q_14, ne_q_7_q_17, ne_q_7_q_21, (Ne.symm ne_q_1_q_10), (Ne.symm ne_q_3_q_10), (Ne.symm ne_q_7_q_10), ne_q_10_q_14, ne_q_10_q_17, ne_q_10_q_21, (Ne.symm ne_q_1_q_14), (Ne.symm ne_q_3_q_14), (Ne.symm ne_q_7_q_14), (Ne.symm ne_q_10_q_14), ne_q_14_q_17, ne_q_14_q_21, (Ne.symm ne_q_1_q_17), (Ne.symm ne_q_3_q_17), (Ne.symm ne_q_7_q_17), (Ne.symm ne_q_10_q_17), (Ne.symm ne_q_14_q_17), ne_q_17_q_21, (Ne.symm ne_q_1_q_21), (Ne.symm ne_q_3_q_21), (Ne.symm ne_q_7_q_21), (Ne.symm ne_q_10_q_21), (Ne.symm ne_q_14_q_21), (Ne.symm ne_q_17_q_21)]
  have L_r0 : (fun x => if x = q_1 then 10 else if x = q_3 then 20 else if x = q_10 then 21 else if x = q_17 then 22 else if x = q_7 then 30 else if x = q_14 then 31 else if x = q_21 then 32 else 0) q_7 = 30 := by simp [ne_q_1_q_3, ne_q_1_q_7, ne_q_1_q_10, ne_q_1_q_14, ne_q_1_q_17, ne_q_1_q_21, (Ne.symm ne_q_1_q_3), ne_q_3_q_7, ne_q_3_q_10, ne_q_3_q_14, ne_q_3_q_17, ne_q_3_q_21, (Ne.symm ne_q_1_q_7), (Ne.symm ne_q_3_q_7), ne_q_7_q_10, ne_q_7_q_14, ne_q_7_q_17, ne_q_7_q_21, (Ne.symm ne_q_1_q_10), (Ne.symm ne_q_3_q_10), (Ne.symm ne_q_7_q_10), ne_q_10_q_14, ne_q_10_q_17, ne_q_10_q_21, (Ne.symm ne_q_1_q_14), (Ne.symm ne_q_3_q_14), (Ne.symm ne_q_7_q_14), (Ne.symm ne_q_10_q_14), ne_q_14_q_17, ne_q_14_q_21, (Ne.symm ne_q_1_q_17), (Ne.symm ne_q_3_q_17), (Ne.symm ne_q_7_q_17), (Ne.symm ne_q_10_q_17), (Ne.symm ne_q_14_q_17), ne_q_17_q_21, (Ne.symm ne_q_1_q_21), (Ne.symm ne_q_3_q_21), (Ne.symm ne_q_7_q_21), (Ne.symm ne_q_10_q_21), (Ne.symm ne_q_14_q_21), (Ne.symm ne_q_17_q_21)]
  have L_s1 : (fun x => if x = q_1 then 10 else if x = q_3 then 20 else if x = q_10 then 21 else if x = q_17 then 22 else if x = q_7 then 30 else if x = q_14 then 31 else if x = q_21 then 32 else 0) q_10 = 21 := by simp [ne_q_1_q_3, ne_q_1_q_7, ne_q_1_q_10, ne_q_1_q_14, ne_q_1_q_17, ne_q_1_q_21, (Ne.symm ne_q_1_q_3), ne_q_3_q_7, ne_q_3_q_10, ne_q_3_q_14, ne_q_3_q_17, ne_q_3_q_21, (Ne.symm ne_q_1_q_7), (Ne.symm ne_q_3_q_7), ne_q_7_q_10, ne_q_7_q_14, ne_q_7_q_17, ne_q_7_q_21, (Ne.symm ne_q_1_q_10), (Ne.symm ne_q_3_q_10), (Ne.symm ne_q_7_q_10), ne_q_10_q_14, ne_q_10_q_17, ne_q_10_q_21, (Ne.symm ne_q_1_q_14), (Ne.symm ne_q_3_q_14), (Ne.symm ne_q_7_q_14), (Ne.symm ne_q_10_q_14), ne_q_14_q_17, ne_q_14_q_21, (Ne.symm ne_q_1_q_17), (Ne.symm ne_q_3_q_17), (Ne.symm ne_q_7_q_17), (Ne.symm ne_q_10_q_17), (Ne.symm ne_q_14_q_17), ne_q_17_q_21, (Ne.symm ne_q_1_q_21), (Ne.symm ne_q_3_q_21), (Ne.symm ne_q_7_q_21), (Ne.symm ne_q_10_q_21), (Ne.symm ne_q_14_q_21), (Ne.symm ne_q_17_q_21)]
  have L_r1 : (fun x => if x = q_1 then 10 else if x = q_3 then 20 else if x = q_10 then 21 else if x = q_17 then 22 else if x = q_7 then 30 else if x = q_14 then 31 else if x = q_21 then 32 else 0) q_14 = 31 := by simp [ne_q_1_q_3, ne_q_1_q_7, ne_q_1_q_10, ne_q_1_q_14, ne_q_1_q_17, ne_q_1_q_21, (Ne.symm ne_q_1_q_3), ne_q_3_q_7, ne_q_3_q_10, ne_q_3_q_14, ne_q_3_q_17, ne_q_3_q_21, (Ne.symm ne_q_1_q_7), (Ne.symm ne_q_3_q_7), ne_q_7_q_10, ne_q_7_q_14, ne_q_7_q_17, ne_q_7_q_21, (Ne.symm ne_q_1_q_10), (Ne.symm ne_q_3_q_10), (Ne.symm ne_q_7_q_10), ne_q_10_q_14, ne_q_10_q_17, ne_q_10_q_21, (Ne.symm ne_q_1_q_14), (Ne.symm ne_q_3_q_14), (Ne.symm ne_q_7_q_14), (Ne.symm ne_q_10_q_14), ne_q_14_q_17, ne_q_14_q_21, (Ne.symm ne_q_1_q_17), (Ne.symm ne_q_3_q_17), (Ne.symm ne_q_7_q_17), (Ne.symm ne_q_10_q_17), (Ne.symm ne_q_14_q_17), ne_q_17_q_21, (Ne.symm ne_q_1_q_21), (Ne.symm ne_q_3_q_21), (Ne.symm ne_q_7_q_21), (Ne.symm ne_q_10_q_21), (Ne.symm ne_q_14_q_21), (Ne.symm ne_q_17_q_21)]
  have L_s2 : (fun x => if x = q_1 then 10 else if x = q_3 then 20 else if x = q_10 then 21 else if x = q_17 then 22 else if x = q_7 then 30 else if x = q_14 then 31 else if x = q_21 then 32 else 0) q_17 = 22 := by simp [ne_q_1_q_3, ne_q_1_q_7, ne_q_1_q_10, ne_q_1_q_14, ne_q_1_q_17, ne_q_1_q_21, (Ne.symm ne_q_1_q_3), ne_q_3_q_7, ne_q_3_q_10, ne_q_3_q_14, ne_q_3_q_17, ne_q_3_q_21, (Ne.symm ne_q_1_q_7), (Ne.symm ne_q_3_q_7), ne_q_7_q_10, ne_q_7_q_14, ne_q_7_q_17, ne_q_7_q_21, (Ne.symm ne_q_1_q_10), (Ne.symm ne_q_3_q_10), (Ne.symm ne_q_7_q_10), ne_q_10_q_14, ne_q_10_q_17, ne_q_10_q_21, (Ne.symm ne_q_1_q_14), (Ne.symm ne_q_3_q_14), (Ne.symm ne_q_7_q_14), (Ne.symm ne_q_10_q_14), ne_q_14_q_17, ne_q_14_q_21, (Ne.symm ne_q_1_q_17), (Ne.symm ne_q_3_q_17), (Ne.symm ne_q_7_q_17), (Ne.symm ne_q_10_q_17), (Ne.symm ne_q_14_q_17), ne_q_17_q_21, (Ne.symm ne_q_1_q_21), (Ne.symm ne_q_3_q_21), (Ne.symm ne_q_7_q_21), (Ne.symm ne_q_10_q_21), (Ne.symm ne_q_14_q_21), (Ne.symm ne_q_17_q_21)]
  have L_r2 : (fun x => if x = q_1 then 10 else if x = q_3 then 20 else if x = q_10 then 21 else if x = q_17 then 22 else if x = q_7 then 30 else if x = q_14 then 31 else if x = q_21 then 32 else 0) q_21 = 32 := by simp [ne_q_1_q_3, ne_q_1_q_7, ne_q_1_q_10, ne_q_1_q_14, ne_q_1_q_17, ne_q_1_q_21, (Ne.symm ne_q_1_q_3), ne_q_3_q_7, ne_q_3_q_10, ne_q_3_q_14, ne_q_3_q_17, ne_q_3_q_21, (Ne.symm ne_q_1_q_7), (Ne.symm ne_q_3_q_7), ne_q_7_q_10, ne_q_7_q_14, ne_q_7_q_17, ne_q_7_q_21, (Ne.symm ne_q_1_q_10), (Ne.symm ne_q_3_q_10), (Ne.symm ne_q_7_q_10), ne_q_10_q_14, ne_q_10_q_17, ne_q_10_q_21, (Ne.symm ne_q_1_q_14), (Ne.symm ne_q_3_q_14), (Ne.symm ne_q_7_q_14), (Ne.symm ne_q_10_q_14), ne_q_14_q_17, ne_q_14_q_21, (Ne.symm ne_q_1_q_17), (Ne.symm ne_q_3_q_17), (Ne.symm ne_q_7_q_17), (Ne.symm ne_q_10_q_17), (Ne.symm ne_q_14_q_17), ne_q_17_q_21, (Ne.symm ne_q_1_q_21), (Ne.symm ne_q_3_q_21), (Ne.symm ne_q_7_q_21), (Ne.symm ne_q_10_q_21), (Ne.symm ne_q_14_q_21), (Ne.symm ne_q_17_q_21)]
  have hj9 : ∀ j, j < 3 → V ((if4 q_3 q_10 q_17 q_17) j) = none ∧ V ((if4 q_7 q_14 q_21 q_21) j) = none ∧ (va_up (va_up (va_up (fun _ => none) 0 (some q_3)) 1 (some q_10)) 2 (some q_17)) j = some ((if4 q_3 q_10 q_17 q_17) j) ∧ V_23 ((if4 q_3 q_10 q_17 q_17) j) = some (eSh ((if4 q_7 q_14 q_21 q_21) j)) ∧ V_23 ((if4 q_7 q_14 q_21 q_21) j) = some (eI k 24 (fun _ => 0)) ∧ (fun x => if x = q_1 then 10 else if x = q_3 then 20 else if x = q_10 then 21 else if x = q_17 then 22 else if x = q_7 then 30 else if x = q_14 then 31 else if x = q_21 then 32 else 0) ((if4 q_3 q_10 q_17 q_17) j) = 20 + j ∧ (fun x => if x = q_1 then 10 else if x = q_3 then 20 else if x = q_10 then 21 else if x = q_17 then 22 else if x = q_7 then 30 else if x = q_14 then 31 else if x = q_21 then 32 else 0) ((if4 q_7 q_14 q_21 q_21) j) = 30 + j := by
    intro j hj
    rcases (show j = 0 ∨ j = 1 ∨ j = 2 by omega) with rfl | rfl | rfl
    · exact ⟨no_q_3, no_q_7, rfl, hq_3'V_23, hq_7'V_23, L_s0, L_r0⟩
    · exact ⟨no_q_10, no_q_14, rfl, hq_10'V_23, hq_14'V_23, L_s1, L_r1⟩
    · exact ⟨no_q_17, no_q_21, rfl, hq_17'V_23, hq_21'V_23, L_s2, L_r2⟩
  exact W.aret (v := va_rf (some q_1)) hx hb hr (by first | exact Or.inl ⟨_, rfl⟩ | exact Or.inr ⟨_, rfl⟩) (va_rf_or _) (fun t9 ht hW => ⟨⟨(some q_1), V_23, rfl, ⟨q_1, (va_up (va_up (va_up (fun _ => none) 0 (some q_3)) 1 (some q_10)) 2 (some q_17)), (if4 q_3 q_10 q_17 q_17), (if4 q_7 q_14 q_21 q_21), (fun x => if x = q_1 then 10 else if x = q_3 then 20 else if x = q_10 then 21 else if x = q_17 then 22 else if x = q_7 then 30 else if x = q_14 then 31 else if x = q_21 then 32 else 0), rfl, no_q_1, hq_1'V_23, fr, hj9, L_q⟩, mB_of ht hV⟩, hS.F ht⟩) hS.2.2 d_Co_newSheets_29
set_option maxHeartbeats 4000000 in
set_option maxRecDepth 100000 in
/-- newSheets(4) -/
theorem c_Co_newSheets4 (l : Launch) (D : va_G) (N0 : Nat) (k : Nat → Nat) (V : HV)  : Met l y_Co_newSheets (.code y_Co_newSheets b_Co_newSheets 3 (some (.array (.object "BoardHouse$Sheet"))) :: WS) ({ frames := 2, cells := 9, slots := 104, locals := 40 }) (mP D N0 k [.int 4] V) (va_Qq (fun r0 V' => ∃ q F s0 r L, r0 = some q ∧ shN k 4 V V' q F s0 r L) (mB D N0) (hA N0)) 9 104 (hA N0) := by
  refine Met.ofW (cc := b_Co_newSheets) (maxL := 3) (ret := (some (.array (.object "BoardHouse$Sheet")))) (by decide) rfl ?_
  intro p e s m args below meth c s₁ B hml hv0
  obtain ⟨rfl, hG, hV⟩ := hv0
  have hx := B.exec
  have hb := B.bytes
  have hr := B.returns
  have hts := atoms_spec (ws := .code y_Co_newSheets b_Co_newSheets 3 (some (.array (.object "BoardHouse$Sheet"))) :: WS) B.pre
  have hW : ∀ w ∈ WS, w.before _ s = true := fun w h => hts w (List.mem_cons_of_mem _ h)
  have hown : s.vm.findClass "BoardHouse$Copper" = some m.cls := findClass_of_methodNamed B.named
  have hlocks := B.notSynchronized
  have hS : va_S (hA N0) s.heap s.heap [] := va_S.rf
  have hl := lv_entry ([.int 4]) (n := 3) (Nat.le_of_ble_eq_true rfl)
  rw [lg_entry_eq]
  generalize (lg_sl ([.int 4]) ++ List.replicate (3 - (lg_sl ([.int 4])).length) Slot.unset).toArray = ls at hl ⊢
  have hl : lv_has ls 3 [(0, .int 4)] := hl
  refine lv_iload_n hx hb d_Co_newSheets_0 rfl (lv_at hl 0 rfl) ?_
  refine hv_newq (N' := 4) hx hb hown (hW _ wk_Co_17) hG.2.2.2.1.2.2.2 hG.K hV hS 6 rfl (by decide) rfl (by omega) (Nat.le_of_ble_eq_true rfl) (Nat.le_of_ble_eq_true rfl) hG.N d_Co_newSheets_1 (fun q_1 H hn_q_1 hN_q_1 hV hS => ?_)
  replace hV : hv D vwCl N0 (hu V q_1 (.inl (k 6, 4, .inr (.inr (.inr (.inr (fun _ => none))))))) H := hV
  generalize hV_V_2 : hu V q_1 (.inl (k 6, 4, .inr (.inr (.inr (.inr (fun _ => none)))))) = V_2 at hV
  have hq_1'V_2 : V_2 q_1 = some (.inl (k 6, 4, .inr (.inr (.inr (.inr (fun _ => none)))))) := by rw [← hV_V_2]; exact hu_s
  refine lv_astore_n (lv' := [(1, .ref q_1), (0, .int 4)]) hx hb d_Co_newSheets_4 rfl hl (by decide) rfl (fun ls hl => ?_)
  refine lv_iconst (v := 0) hx hb d_Co_newSheets_5 (by decide) ?_
  refine lv_istore_n (lv' := [(2, .int 0), (1, .ref q_1), (0, .int 4)]) hx hb d_Co_newSheets_6 rfl hl (by decide) rfl (fun ls hl => ?_)
  refine lv_iload_n hx hb d_Co_newSheets_7 rfl (lv_at hl 0 rfl) ?_
  refine lv_iload_n hx hb d_Co_newSheets_8 rfl (lv_at hl 2 rfl) ?_
  refine lv_icmp_ge (tgt := 28) hx hb d_Co_newSheets_9 (by decide) (fun q => absurd q (by decide)) (fun _ => ?_)
  refine lv_aload_n hx hb d_Co_newSheets_12 rfl (lv_at hl 1 rfl) ?_
  refine lv_iload_n hx hb d_Co_newSheets_13 rfl (lv_at hl 0 rfl) ?_
  refine hv_new (ci := 3) (fs := [.null]) (C := R_Sh) (T := T_Sh) (N := 1) hx hb hW in_Sh t_Sh ty_Sh hown (hW _ wk_Co_17) (hW _ wo_Sh) (hW _ wi_Sh) hG.K hV hS rfl (fun j hj => by rcases (show j = 0 by omega) with rfl <;> rfl) (Nat.le_of_ble_eq_true rfl) (Nat.le_of_ble_eq_true rfl) hG.N d_Co_newSheets_14 (fun q_3 H hn_q_3 hN_q_3 hV hS => ?_)
  have ne_q_1_q_3 : q_1 ≠ q_3 := fun z => by rw [← z, hq_1'V_2] at hn_q_3; cases hn_q_3
  replace hV : hv D vwCl N0 (hu V_2 q_3 (.inr (3, [.null]))) H := hV
  generalize hV_V_4 : hu V_2 q_3 (.inr (3, [.null])) = V_4 at hV
  have hq_1'V_4 : V_4 q_1 = some (.inl (k 6, 4, .inr (.inr (.inr (.inr (fun _ => none)))))) := by rw [← hV_V_4, hu_n ne_q_1_q_3]; exact hq_1'V_2
  have hq_3'V_4 : V_4 q_3 = some (.inr (3, [.null])) := by rw [← hV_V_4]; exact hu_s
  refine lv_dup hx hb d_Co_newSheets_17 rfl ?_
  refine rc_V (va_runIN (As := []) (rest := [.ref q_3, .int 0, .ref q_1]) ⟨hx, hb, hml, hown, hts⟩ (c_Sh_init l D N0 k V_4 q_3 hq_3'V_4) ⟨va_cnB 0 hts (gi_c wc_Sh_init) rfl rfl rfl (va_Nw.of rfl (hG.nest wmn_Co_19 rfl #[])) (hW _ wi_Sh) (by decide +kernel) ⟨Nat.le_of_ble_eq_true rfl, Nat.le_of_ble_eq_true rfl⟩, rfl, hW _ wv_Sh_init⟩ (mP.preS hG hS hV) rfl rfl hl.1 rfl (lv_room (Nat.le_of_ble_eq_true rfl)) d_Co_newSheets_18 ⟨Nat.le_of_ble_eq_true rfl, Nat.le_of_ble_eq_true rfl⟩) hS (fun V_5 H locs hp_6 hV hS => ?_)
  obtain ⟨q_7, hn_q_7, ev_q_7⟩ := hp_6
  obtain ⟨V_8, eV_V_8⟩ : ∃ z, z = hu V_4 q_7 (eI k 24 (fun _ => 0)) := ⟨_, rfl⟩
  rw [← eV_V_8] at ev_q_7
  have ne_q_1_q_7 : q_1 ≠ q_7 := fun z => by rw [← z, hq_1'V_4] at hn_q_7; cases hn_q_7
  have ne_q_3_q_7 : q_3 ≠ q_7 := fun z => by rw [← z, hq_3'V_4] at hn_q_7; cases hn_q_7
  have hV_V_8 := eV_V_8.symm
  have hq_1'V_8 : V_8 q_1 = some (.inl (k 6, 4, .inr (.inr (.inr (.inr (fun _ => none)))))) := by rw [← hV_V_8, hu_n ne_q_1_q_7]; exact hq_1'V_4
  have hq_3'V_8 : V_8 q_3 = some (.inr (3, [.null])) := by rw [← hV_V_8, hu_n ne_q_3_q_7]; exact hq_3'V_4
  have hq_7'V_8 : V_8 q_7 = some (eI k 24 (fun _ => 0)) := by rw [← hV_V_8]; exact hu_s
  have hV_V_5 := ev_q_7.symm
  have hq_1'V_5 : V_5 q_1 = some (.inl (k 6, 4, .inr (.inr (.inr (.inr (fun _ => none)))))) := by rw [← hV_V_5, hu_n ne_q_1_q_3]; exact hq_1'V_8
  have hq_7'V_5 : V_5 q_7 = some (eI k 24 (fun _ => 0)) := by rw [← hV_V_5, hu_n (Ne.symm ne_q_3_q_7)]; exact hq_7'V_8
  have hq_3'V_5 : V_5 q_3 = some (eSh q_7) := by rw [← hV_V_5]; exact hu_s
  refine hv_aast hx hb hG.K hV hS 6 3 hq_1'V_5 rfl hq_3'V_5 rfl ((vp_in_nI (by omega) (by omega) : vp_in (nI 0) 4)) d_Co_newSheets_21 (fun H locs hV hS => ?_)
  rw [show (0 : Int32).toNatClampNeg = 0 from rfl] at hV
  replace hV : hv D vwCl N0 (hu V_5 q_1 (.inl (k 6, 4, .inr (.inr (.inr (.inr (va_up (fun _ => none) 0 (some q_3)))))))) H := hV
  generalize hV_V_9 : hu V_5 q_1 (.inl (k 6, 4, .inr (.inr (.inr (.inr (va_up (fun _ => none) 0 (some q_3))))))) = V_9 at hV
  have hq_7'V_9 : V_9 q_7 = some (eI k 24 (fun _ => 0)) := by rw [← hV_V_9, hu_n (Ne.symm ne_q_1_q_7)]; exact hq_7'V_5
  have hq_3'V_9 : V_9 q_3 = some (.inr (3, [.ref q_7])) := by rw [← hV_V_9, hu_n (Ne.symm ne_q_1_q_3)]; exact hq_3'V_5
  have hq_1'V_9 : V_9 q_1 = some (.inl (k 6, 4, .inr (.inr (.inr (.inr (va_up (fun _ => none) 0 (some q_3))))))) := by rw [← hV_V_9]; exact hu_s
  refine lv_iinc (v := 1) (lv' := [(2, .int 1), (1, .ref q_1), (0, .int 4)]) hx hb d_Co_newSheets_22 hl (k := 0) rfl (by decide) (by decide) rfl (fun ls hl => ?_)
  refine lv_goto (tgt := 7) hx hb d_Co_newSheets_25 (by decide) ?_
  refine lv_iload_n hx hb d_Co_newSheets_7 rfl (lv_at hl 0 rfl) ?_
  refine lv_iload_n hx hb d_Co_newSheets_8 rfl (lv_at hl 2 rfl) ?_
  refine lv_icmp_ge (tgt := 28) hx hb d_Co_newSheets_9 (by decide) (fun q => absurd q (by decide)) (fun _ => ?_)
  refine lv_aload_n hx hb d_Co_newSheets_12 rfl (lv_at hl 1 rfl) ?_
  refine lv_iload_n hx hb d_Co_newSheets_13 rfl (lv_at hl 0 rfl) ?_
  refine hv_new (ci := 3) (fs := [.null]) (C := R_Sh) (T := T_Sh) (N := 1) hx hb hW in_Sh t_Sh ty_Sh hown (hW _ wk_Co_17) (hW _ wo_Sh) (hW _ wi_Sh) hG.K hV hS rfl (fun j hj => by rcases (show j = 0 by omega) with rfl <;> rfl) (Nat.le_of_ble_eq_true rfl) (Nat.le_of_ble_eq_true rfl) hG.N d_Co_newSheets_14 (fun q_10 H hn_q_10 hN_q_10 hV hS => ?_)
  have ne_q_7_q_10 : q_7 ≠ q_10 := fun z => by rw [← z, hq_7'V_9] at hn_q_10; cases hn_q_10
  have ne_q_3_q_10 : q_3 ≠ q_10 := fun z => by rw [← z, hq_3'V_9] at hn_q_10; cases hn_q_10
  have ne_q_1_q_10 : q_1 ≠ q_10 := fun z => by rw [← z, hq_1'V_9] at hn_q_10; cases hn_q_10
  replace hV : hv D vwCl N0 (hu V_9 q_10 (.inr (3, [.null]))) H := hV
  generalize hV_V_11 : hu V_9 q_10 (.inr (3, [.null])) = V_11 at hV
  have hq_7'V_11 : V_11 q_7 = some (eI k 24 (fun _ => 0)) := by rw [← hV_V_11, hu_n ne_q_7_q_10]; exact hq_7'V_9
  have hq_3'V_11 : V_11 q_3 = some (.inr (3, [.ref q_7])) := by rw [← hV_V_11, hu_n ne_q_3_q_10]; exact hq_3'V_9
  have hq_1'V_11 : V_11 q_1 = some (.inl (k 6, 4, .inr (.inr (.inr (.inr (va_up (fun _ => none) 0 (some q_3))))))) := by rw [← hV_V_11, hu_n ne_q_1_q_10]; exact hq_1'V_9
  have hq_10'V_11 : V_11 q_10 = some (.inr (3, [.null])) := by rw [← hV_V_11]; exact hu_s
  refine lv_dup hx hb d_Co_newSheets_17 rfl ?_
  refine rc_V (va_runIN (As := []) (rest := [.ref q_10, .int 1, .ref q_1]) ⟨hx, hb, hml, hown, hts⟩ (c_Sh_init l D N0 k V_11 q_10 hq_10'V_11) ⟨va_cnB 0 hts (gi_c wc_Sh_init) rfl rfl rfl (va_Nw.of rfl (hG.nest wmn_Co_19 rfl #[])) (hW _ wi_Sh) (by decide +kernel) ⟨Nat.le_of_ble_eq_true rfl, Nat.le_of_ble_eq_true rfl⟩, rfl, hW _ wv_Sh_init⟩ (mP.preS hG hS hV) rfl rfl hl.1 rfl (lv_room (Nat.le_of_ble_eq_true rfl)) d_Co_newSheets_18 ⟨Nat.le_of_ble_eq_true rfl, Nat.le_of_ble_eq_true rfl⟩) hS (fun V_12 H locs hp_13 hV hS => ?_)
  obtain ⟨q_14, hn_q_14, ev_q_14⟩ := hp_13
  obtain ⟨V_15, eV_V_15⟩ : ∃ z, z = hu V_11 q_14 (eI k 24 (fun _ => 0)) := ⟨_, rfl⟩
  rw [← eV_V_15] at ev_q_14
  have ne_q_7_q_14 : q_7 ≠ q_14 := fun z => by rw [← z, hq_7'V_11] at hn_q_14; cases hn_q_14
  have ne_q_3_q_14 : q_3 ≠ q_14 := fun z => by rw [← z, hq_3'V_11] at hn_q_14; cases hn_q_14
  have ne_q_1_q_14 : q_1 ≠ q_14 := fun z => by rw [← z, hq_1'V_11] at hn_q_14; cases hn_q_14
  have ne_q_10_q_14 : q_10 ≠ q_14 := fun z => by rw [← z, hq_10'V_11] at hn_q_14; cases hn_q_14
  have hV_V_15 := eV_V_15.symm
  have hq_7'V_15 : V_15 q_7 = some (eI k 24 (fun _ => 0)) := by rw [← hV_V_15, hu_n ne_q_7_q_14]; exact hq_7'V_11
  have hq_3'V_15 : V_15 q_3 = some (.inr (3, [.ref q_7])) := by rw [← hV_V_15, hu_n ne_q_3_q_14]; exact hq_3'V_11
  have hq_1'V_15 : V_15 q_1 = some (.inl (k 6, 4, .inr (.inr (.inr (.inr (va_up (fun _ => none) 0 (some q_3))))))) := by rw [← hV_V_15, hu_n ne_q_1_q_14]; exact hq_1'V_11
  have hq_10'V_15 : V_15 q_10 = some (.inr (3, [.null])) := by rw [← hV_V_15, hu_n ne_q_10_q_14]; exact hq_10'V_11
  have hq_14'V_15 : V_15 q_14 = some (eI k 24 (fun _ => 0)) := by rw [← hV_V_15]; exact hu_s
  have hV_V_12 := ev_q_14.symm
  have hq_7'V_12 : V_12 q_7 = some (eI k 24 (fun _ => 0)) := by rw [← hV_V_12, hu_n ne_q_7_q_10]; exact hq_7'V_15
  have hq_3'V_12 : V_12 q_3 = some (.inr (3, [.ref q_7])) := by rw [← hV_V_12, hu_n ne_q_3_q_10]; exact hq_3'V_15
  have hq_1'V_12 : V_12 q_1 = some (.inl (k 6, 4, .inr (.inr (.inr (.inr (va_up (fun _ => none) 0 (some q_3))))))) := by rw [← hV_V_12, hu_n ne_q_1_q_10]; exact hq_1'V_15
  have hq_14'V_12 : V_12 q_14 = some (eI k 24 (fun _ => 0)) := by rw [← hV_V_12, hu_n (Ne.symm ne_q_10_q_14)]; exact hq_14'V_15
  have hq_10'V_12 : V_12 q_10 = some (eSh q_14) := by rw [← hV_V_12]; exact hu_s
  refine hv_aast hx hb hG.K hV hS 6 3 hq_1'V_12 rfl hq_10'V_12 rfl ((vp_in_nI (by omega) (by omega) : vp_in (nI 1) 4)) d_Co_newSheets_21 (fun H locs hV hS => ?_)
  rw [show (1 : Int32).toNatClampNeg = 1 from rfl] at hV
  replace hV : hv D vwCl N0 (hu V_12 q_1 (.inl (k 6, 4, .inr (.inr (.inr (.inr (va_up (va_up (fun _ => none) 0 (some q_3)) 1 (some q_10)))))))) H := hV
  generalize hV_V_16 : hu V_12 q_1 (.inl (k 6, 4, .inr (.inr (.inr (.inr (va_up (va_up (fun _ => none) 0 (some q_3)) 1 (some q_10))))))) = V_16 at hV
  have hq_7'V_16 : V_16 q_7 = some (eI k 24 (fun _ => 0)) := by rw [← hV_V_16, hu_n (Ne.symm ne_q_1_q_7)]; exact hq_7'V_12
  have hq_3'V_16 : V_16 q_3 = some (.inr (3, [.ref q_7])) := by rw [← hV_V_16, hu_n (Ne.symm ne_q_1_q_3)]; exact hq_3'V_12
  have hq_14'V_16 : V_16 q_14 = some (eI k 24 (fun _ => 0)) := by rw [← hV_V_16, hu_n (Ne.symm ne_q_1_q_14)]; exact hq_14'V_12
  have hq_10'V_16 : V_16 q_10 = some (.inr (3, [.ref q_14])) := by rw [← hV_V_16, hu_n (Ne.symm ne_q_1_q_10)]; exact hq_10'V_12
  have hq_1'V_16 : V_16 q_1 = some (.inl (k 6, 4, .inr (.inr (.inr (.inr (va_up (va_up (fun _ => none) 0 (some q_3)) 1 (some q_10))))))) := by rw [← hV_V_16]; exact hu_s
  refine lv_iinc (v := 2) (lv' := [(2, .int 2), (1, .ref q_1), (0, .int 4)]) hx hb d_Co_newSheets_22 hl (k := 0) rfl (by decide) (by decide) rfl (fun ls hl => ?_)
  refine lv_goto (tgt := 7) hx hb d_Co_newSheets_25 (by decide) ?_
  refine lv_iload_n hx hb d_Co_newSheets_7 rfl (lv_at hl 0 rfl) ?_
  refine lv_iload_n hx hb d_Co_newSheets_8 rfl (lv_at hl 2 rfl) ?_
  refine lv_icmp_ge (tgt := 28) hx hb d_Co_newSheets_9 (by decide) (fun q => absurd q (by decide)) (fun _ => ?_)
  refine lv_aload_n hx hb d_Co_newSheets_12 rfl (lv_at hl 1 rfl) ?_
  refine lv_iload_n hx hb d_Co_newSheets_13 rfl (lv_at hl 0 rfl) ?_
  refine hv_new (ci := 3) (fs := [.null]) (C := R_Sh) (T := T_Sh) (N := 1) hx hb hW in_Sh t_Sh ty_Sh hown (hW _ wk_Co_17) (hW _ wo_Sh) (hW _ wi_Sh) hG.K hV hS rfl (fun j hj => by rcases (show j = 0 by omega) with rfl <;> rfl) (Nat.le_of_ble_eq_true rfl) (Nat.le_of_ble_eq_true rfl) hG.N d_Co_newSheets_14 (fun q_17 H hn_q_17 hN_q_17 hV hS => ?_)
  have ne_q_7_q_17 : q_7 ≠ q_17 := fun z => by rw [← z, hq_7'V_16] at hn_q_17; cases hn_q_17
  have ne_q_3_q_17 : q_3 ≠ q_17 := fun z => by rw [← z, hq_3'V_16] at hn_q_17; cases hn_q_17
  have ne_q_14_q_17 : q_14 ≠ q_17 := fun z => by rw [← z, hq_14'V_16] at hn_q_17; cases hn_q_17
  have ne_q_10_q_17 : q_10 ≠ q_17 := fun z => by rw [← z, hq_10'V_16] at hn_q_17; cases hn_q_17
  have ne_q_1_q_17 : q_1 ≠ q_17 := fun z => by rw [← z, hq_1'V_16] at hn_q_17; cases hn_q_17
  replace hV : hv D vwCl N0 (hu V_16 q_17 (.inr (3, [.null]))) H := hV
  generalize hV_V_18 : hu V_16 q_17 (.inr (3, [.null])) = V_18 at hV
  have hq_7'V_18 : V_18 q_7 = some (eI k 24 (fun _ => 0)) := by rw [← hV_V_18, hu_n ne_q_7_q_17]; exact hq_7'V_16
  have hq_3'V_18 : V_18 q_3 = some (.inr (3, [.ref q_7])) := by rw [← hV_V_18, hu_n ne_q_3_q_17]; exact hq_3'V_16
  have hq_14'V_18 : V_18 q_14 = some (eI k 24 (fun _ => 0)) := by rw [← hV_V_18, hu_n ne_q_14_q_17]; exact hq_14'V_16
  have hq_10'V_18 : V_18 q_10 = some (.inr (3, [.ref q_14])) := by rw [← hV_V_18, hu_n ne_q_10_q_17]; exact hq_10'V_16
  have hq_1'V_18 : V_18 q_1 = some (.inl (k 6, 4, .inr (.inr (.inr (.inr (va_up (va_up (fun _ => none) 0 (some q_3)) 1 (some q_10))))))) := by rw [← hV_V_18, hu_n ne_q_1_q_17]; exact hq_1'V_16
  have hq_17'V_18 : V_18 q_17 = some (.inr (3, [.null])) := by rw [← hV_V_18]; exact hu_s
  refine lv_dup hx hb d_Co_newSheets_17 rfl ?_
  refine rc_V (va_runIN (As := []) (rest := [.ref q_17, .int 2, .ref q_1]) ⟨hx, hb, hml, hown, hts⟩ (c_Sh_init l D N0 k V_18 q_17 hq_17'V_18) ⟨va_cnB 0 hts (gi_c wc_Sh_init) rfl rfl rfl (va_Nw.of rfl (hG.nest wmn_Co_19 rfl #[])) (hW _ wi_Sh) (by decide +kernel) ⟨Nat.le_of_ble_eq_true rfl, Nat.le_of_ble_eq_true rfl⟩, rfl, hW _ wv_Sh_init⟩ (mP.preS hG hS hV) rfl rfl hl.1 rfl (lv_room (Nat.le_of_ble_eq_true rfl)) d_Co_newSheets_18 ⟨Nat.le_of_ble_eq_true rfl, Nat.le_of_ble_eq_true rfl⟩) hS (fun V_19 H locs hp_20 hV hS => ?_)
  obtain ⟨q_21, hn_q_21, ev_q_21⟩ := hp_20
  obtain ⟨V_22, eV_V_22⟩ : ∃ z, z = hu V_18 q_21 (eI k 24 (fun _ => 0)) := ⟨_, rfl⟩
  rw [← eV_V_22] at ev_q_21
  have ne_q_7_q_21 : q_7 ≠ q_21 := fun z => by rw [← z, hq_7'V_18] at hn_q_21; cases hn_q_21
  have ne_q_3_q_21 : q_3 ≠ q_21 := fun z => by rw [← z, hq_3'V_18] at hn_q_21; cases hn_q_21
  have ne_q_14_q_21 : q_14 ≠ q_21 := fun z => by rw [← z, hq_14'V_18] at hn_q_21; cases hn_q_21
  have ne_q_10_q_21 : q_10 ≠ q_21 := fun z => by rw [← z, hq_10'V_18] at hn_q_21; cases hn_q_21
  have ne_q_1_q_21 : q_1 ≠ q_21 := fun z => by rw [← z, hq_1'V_18] at hn_q_21; cases hn_q_21
  have ne_q_17_q_21 : q_17 ≠ q_21 := fun z => by rw [← z, hq_17'V_18] at hn_q_21; cases hn_q_21
  have hV_V_22 := eV_V_22.symm
  have hq_7'V_22 : V_22 q_7 = some (eI k 24 (fun _ => 0)) := by rw [← hV_V_22, hu_n ne_q_7_q_21]; exact hq_7'V_18
  have hq_3'V_22 : V_22 q_3 = some (.inr (3, [.ref q_7])) := by rw [← hV_V_22, hu_n ne_q_3_q_21]; exact hq_3'V_18
  have hq_14'V_22 : V_22 q_14 = some (eI k 24 (fun _ => 0)) := by rw [← hV_V_22, hu_n ne_q_14_q_21]; exact hq_14'V_18
  have hq_10'V_22 : V_22 q_10 = some (.inr (3, [.ref q_14])) := by rw [← hV_V_22, hu_n ne_q_10_q_21]; exact hq_10'V_18
  have hq_1'V_22 : V_22 q_1 = some (.inl (k 6, 4, .inr (.inr (.inr (.inr (va_up (va_up (fun _ => none) 0 (some q_3)) 1 (some q_10))))))) := by rw [← hV_V_22, hu_n ne_q_1_q_21]; exact hq_1'V_18
  have hq_17'V_22 : V_22 q_17 = some (.inr (3, [.null])) := by rw [← hV_V_22, hu_n ne_q_17_q_21]; exact hq_17'V_18
  have hq_21'V_22 : V_22 q_21 = some (eI k 24 (fun _ => 0)) := by rw [← hV_V_22]; exact hu_s
  have hV_V_19 := ev_q_21.symm
  have hq_7'V_19 : V_19 q_7 = some (eI k 24 (fun _ => 0)) := by rw [← hV_V_19, hu_n ne_q_7_q_17]; exact hq_7'V_22
  have hq_3'V_19 : V_19 q_3 = some (.inr (3, [.ref q_7])) := by rw [← hV_V_19, hu_n ne_q_3_q_17]; exact hq_3'V_22
  have hq_14'V_19 : V_19 q_14 = some (eI k 24 (fun _ => 0)) := by rw [← hV_V_19, hu_n ne_q_14_q_17]; exact hq_14'V_22
  have hq_10'V_19 : V_19 q_10 = some (.inr (3, [.ref q_14])) := by rw [← hV_V_19, hu_n ne_q_10_q_17]; exact hq_10'V_22
  have hq_1'V_19 : V_19 q_1 = some (.inl (k 6, 4, .inr (.inr (.inr (.inr (va_up (va_up (fun _ => none) 0 (some q_3)) 1 (some q_10))))))) := by rw [← hV_V_19, hu_n ne_q_1_q_17]; exact hq_1'V_22
  have hq_21'V_19 : V_19 q_21 = some (eI k 24 (fun _ => 0)) := by rw [← hV_V_19, hu_n (Ne.symm ne_q_17_q_21)]; exact hq_21'V_22
  have hq_17'V_19 : V_19 q_17 = some (eSh q_21) := by rw [← hV_V_19]; exact hu_s
  refine hv_aast hx hb hG.K hV hS 6 3 hq_1'V_19 rfl hq_17'V_19 rfl ((vp_in_nI (by omega) (by omega) : vp_in (nI 2) 4)) d_Co_newSheets_21 (fun H locs hV hS => ?_)
  rw [show (2 : Int32).toNatClampNeg = 2 from rfl] at hV
  replace hV : hv D vwCl N0 (hu V_19 q_1 (.inl (k 6, 4, .inr (.inr (.inr (.inr (va_up (va_up (va_up (fun _ => none) 0 (some q_3)) 1 (some q_10)) 2 (some q_17)))))))) H := hV
  generalize hV_V_23 : hu V_19 q_1 (.inl (k 6, 4, .inr (.inr (.inr (.inr (va_up (va_up (va_up (fun _ => none) 0 (some q_3)) 1 (some q_10)) 2 (some q_17))))))) = V_23 at hV
  have hq_7'V_23 : V_23 q_7 = some (eI k 24 (fun _ => 0)) := by rw [← hV_V_23, hu_n (Ne.symm ne_q_1_q_7)]; exact hq_7'V_19
  have hq_3'V_23 : V_23 q_3 = some (.inr (3, [.ref q_7])) := by rw [← hV_V_23, hu_n (Ne.symm ne_q_1_q_3)]; exact hq_3'V_19
  have hq_14'V_23 : V_23 q_14 = some (eI k 24 (fun _ => 0)) := by rw [← hV_V_23, hu_n (Ne.symm ne_q_1_q_14)]; exact hq_14'V_19
  have hq_10'V_23 : V_23 q_10 = some (.inr (3, [.ref q_14])) := by rw [← hV_V_23, hu_n (Ne.symm ne_q_1_q_10)]; exact hq_10'V_19
  have hq_21'V_23 : V_23 q_21 = some (eI k 24 (fun _ => 0)) := by rw [← hV_V_23, hu_n (Ne.symm ne_q_1_q_21)]; exact hq_21'V_19
  have hq_17'V_23 : V_23 q_17 = some (.inr (3, [.ref q_21])) := by rw [← hV_V_23, hu_n (Ne.symm ne_q_1_q_17)]; exact hq_17'V_19
  have hq_1'V_23 : V_23 q_1 = some (.inl (k 6, 4, .inr (.inr (.inr (.inr (va_up (va_up (va_up (fun _ => none) 0 (some q_3)) 1 (some q_10)) 2 (some q_17))))))) := by rw [← hV_V_23]; exact hu_s
  refine lv_iinc (v := 3) (lv' := [(2, .int 3), (1, .ref q_1), (0, .int 4)]) hx hb d_Co_newSheets_22 hl (k := 0) rfl (by decide) (by decide) rfl (fun ls hl => ?_)
  refine lv_goto (tgt := 7) hx hb d_Co_newSheets_25 (by decide) ?_
  refine lv_iload_n hx hb d_Co_newSheets_7 rfl (lv_at hl 0 rfl) ?_
  refine lv_iload_n hx hb d_Co_newSheets_8 rfl (lv_at hl 2 rfl) ?_
  refine lv_icmp_ge (tgt := 28) hx hb d_Co_newSheets_9 (by decide) (fun q => absurd q (by decide)) (fun _ => ?_)
  refine lv_aload_n hx hb d_Co_newSheets_12 rfl (lv_at hl 1 rfl) ?_
  refine lv_iload_n hx hb d_Co_newSheets_13 rfl (lv_at hl 0 rfl) ?_
  refine hv_new (ci := 3) (fs := [.null]) (C := R_Sh) (T := T_Sh) (N := 1) hx hb hW in_Sh t_Sh ty_Sh hown (hW _ wk_Co_17) (hW _ wo_Sh) (hW _ wi_Sh) hG.K hV hS rfl (fun j hj => by rcases (show j = 0 by omega) with rfl <;> rfl) (Nat.le_of_ble_eq_true rfl) (Nat.le_of_ble_eq_true rfl) hG.N d_Co_newSheets_14 (fun q_24 H hn_q_24 hN_q_24 hV hS => ?_)
  have ne_q_7_q_24 : q_7 ≠ q_24 := fun z => by rw [← z, hq_7'V_23] at hn_q_24; cases hn_q_24
  have ne_q_3_q_24 : q_3 ≠ q_24 := fun z => by rw [← z, hq_3'V_23] at hn_q_24; cases hn_q_24
  have ne_q_14_q_24 : q_14 ≠ q_24 := fun z => by rw [← z, hq_14'V_23] at hn_q_24; cases hn_q_24
  have ne_q_10_q_24 : q_10 ≠ q_24 := fun z => by rw [← z, hq_10'V_23] at hn_q_24; cases hn_q_24
  have ne_q_21_q_24 : q_21 ≠ q_24 := fun z => by rw [← z, hq_21'V_23] at hn_q_24; cases hn_q_24
  have ne_q_17_q_24 : q_17 ≠ q_24 := fun z => by rw [← z, hq_17'V_23] at hn_q_24; cases hn_q_24
  have ne_q_1_q_24 : q_1 ≠ q_24 := fun z => by rw [← z, hq_1'V_23] at hn_q_24; cases hn_q_24
  replace hV : hv D vwCl N0 (hu V_23 q_24 (.inr (3, [.null]))) H := hV
  generalize hV_V_25 : hu V_23 q_24 (.inr (3, [.null])) = V_25 at hV
  have hq_7'V_25 : V_25 q_7 = some (eI k 24 (fun _ => 0)) := by rw [← hV_V_25, hu_n ne_q_7_q_24]; exact hq_7'V_23
  have hq_3'V_25 : V_25 q_3 = some (.inr (3, [.ref q_7])) := by rw [← hV_V_25, hu_n ne_q_3_q_24]; exact hq_3'V_23
  have hq_14'V_25 : V_25 q_14 = some (eI k 24 (fun _ => 0)) := by rw [← hV_V_25, hu_n ne_q_14_q_24]; exact hq_14'V_23
  have hq_10'V_25 : V_25 q_10 = some (.inr (3, [.ref q_14])) := by rw [← hV_V_25, hu_n ne_q_10_q_24]; exact hq_10'V_23
  have hq_21'V_25 : V_25 q_21 = some (eI k 24 (fun _ => 0)) := by rw [← hV_V_25, hu_n ne_q_21_q_24]; exact hq_21'V_23
  have hq_17'V_25 : V_25 q_17 = some (.inr (3, [.ref q_21])) := by rw [← hV_V_25, hu_n ne_q_17_q_24]; exact hq_17'V_23
  have hq_1'V_25 : V_25 q_1 = some (.inl (k 6, 4, .inr (.inr (.inr (.inr (va_up (va_up (va_up (fun _ => none) 0 (some q_3)) 1 (some q_10)) 2 (some q_17))))))) := by rw [← hV_V_25, hu_n ne_q_1_q_24]; exact hq_1'V_23
  have hq_24'V_25 : V_25 q_24 = some (.inr (3, [.null])) := by rw [← hV_V_25]; exact hu_s
  refine lv_dup hx hb d_Co_newSheets_17 rfl ?_
  refine rc_V (va_runIN (As := []) (rest := [.ref q_24, .int 3, .ref q_1]) ⟨hx, hb, hml, hown, hts⟩ (c_Sh_init l D N0 k V_25 q_24 hq_24'V_25) ⟨va_cnB 0 hts (gi_c wc_Sh_init) rfl rfl rfl (va_Nw.of rfl (hG.nest wmn_Co_19 rfl #[])) (hW _ wi_Sh) (by decide +kernel) ⟨Nat.le_of_ble_eq_true rfl, Nat.le_of_ble_eq_true rfl⟩, rfl, hW _ wv_Sh_init⟩ (mP.preS hG hS hV) rfl rfl hl.1 rfl (lv_room (Nat.le_of_ble_eq_true rfl)) d_Co_newSheets_18 ⟨Nat.le_of_ble_eq_true rfl, Nat.le_of_ble_eq_true rfl⟩) hS (fun V_26 H locs hp_27 hV hS => ?_)
  obtain ⟨q_28, hn_q_28, ev_q_28⟩ := hp_27
  obtain ⟨V_29, eV_V_29⟩ : ∃ z, z = hu V_25 q_28 (eI k 24 (fun _ => 0)) := ⟨_, rfl⟩
  rw [← eV_V_29] at ev_q_28
  have ne_q_7_q_28 : q_7 ≠ q_28 := fun z => by rw [← z, hq_7'V_25] at hn_q_28; cases hn_q_28
  have ne_q_3_q_28 : q_3 ≠ q_28 := fun z => by rw [← z, hq_3'V_25] at hn_q_28; cases hn_q_28
  have ne_q_14_q_28 : q_14 ≠ q_28 := fun z => by rw [← z, hq_14'V_25] at hn_q_28; cases hn_q_28
  have ne_q_10_q_28 : q_10 ≠ q_28 := fun z => by rw [← z, hq_10'V_25] at hn_q_28; cases hn_q_28
  have ne_q_21_q_28 : q_21 ≠ q_28 := fun z => by rw [← z, hq_21'V_25] at hn_q_28; cases hn_q_28
  have ne_q_17_q_28 : q_17 ≠ q_28 := fun z => by rw [← z, hq_17'V_25] at hn_q_28; cases hn_q_28
  have ne_q_1_q_28 : q_1 ≠ q_28 := fun z => by rw [← z, hq_1'V_25] at hn_q_28; cases hn_q_28
  have ne_q_24_q_28 : q_24 ≠ q_28 := fun z => by rw [← z, hq_24'V_25] at hn_q_28; cases hn_q_28
  have hV_V_29 := eV_V_29.symm
  have hq_7'V_29 : V_29 q_7 = some (eI k 24 (fun _ => 0)) := by rw [← hV_V_29, hu_n ne_q_7_q_28]; exact hq_7'V_25
  have hq_3'V_29 : V_29 q_3 = some (.inr (3, [.ref q_7])) := by rw [← hV_V_29, hu_n ne_q_3_q_28]; exact hq_3'V_25
  have hq_14'V_29 : V_29 q_14 = some (eI k 24 (fun _ => 0)) := by rw [← hV_V_29, hu_n ne_q_14_q_28]; exact hq_14'V_25
  have hq_10'V_29 : V_29 q_10 = some (.inr (3, [.ref q_14])) := by rw [← hV_V_29, hu_n ne_q_10_q_28]; exact hq_10'V_25
  have hq_21'V_29 : V_29 q_21 = some (eI k 24 (fun _ => 0)) := by rw [← hV_V_29, hu_n ne_q_21_q_28]; exact hq_21'V_25
  have hq_17'V_29 : V_29 q_17 = some (.inr (3, [.ref q_21])) := by rw [← hV_V_29, hu_n ne_q_17_q_28]; exact hq_17'V_25
  have hq_1'V_29 : V_29 q_1 = some (.inl (k 6, 4, .inr (.inr (.inr (.inr (va_up (va_up (va_up (fun _ => none) 0 (some q_3)) 1 (some q_10)) 2 (some q_17))))))) := by rw [← hV_V_29, hu_n ne_q_1_q_28]; exact hq_1'V_25
  have hq_24'V_29 : V_29 q_24 = some (.inr (3, [.null])) := by rw [← hV_V_29, hu_n ne_q_24_q_28]; exact hq_24'V_25
  have hq_28'V_29 : V_29 q_28 = some (eI k 24 (fun _ => 0)) := by rw [← hV_V_29]; exact hu_s
  have hV_V_26 := ev_q_28.symm
  have hq_7'V_26 : V_26 q_7 = some (eI k 24 (fun _ => 0)) := by rw [← hV_V_26, hu_n ne_q_7_q_24]; exact hq_7'V_29
  have hq_3'V_26 : V_26 q_3 = some (.inr (3, [.ref q_7])) := by rw [← hV_V_26, hu_n ne_q_3_q_24]; exact hq_3'V_29
  have hq_14'V_26 : V_26 q_14 = some (eI k 24 (fun _ => 0)) := by rw [← hV_V_26, hu_n ne_q_14_q_24]; exact hq_14'V_29
  have hq_10'V_26 : V_26 q_10 = some (.inr (3, [.ref q_14])) := by rw [← hV_V_26, hu_n ne_q_10_q_24]; exact hq_10'V_29
  have hq_21'V_26 : V_26 q_21 = some (eI k 24 (fun _ => 0)) := by rw [← hV_V_26, hu_n ne_q_21_q_24]; exact hq_21'V_29
  have hq_17'V_26 : V_26 q_17 = some (.inr (3, [.ref q_21])) := by rw [← hV_V_26, hu_n ne_q_17_q_24]; exact hq_17'V_29
  have hq_1'V_26 : V_26 q_1 = some (.inl (k 6, 4, .inr (.inr (.inr (.inr (va_up (va_up (va_up (fun _ => none) 0 (some q_3)) 1 (some q_10)) 2 (some q_17))))))) := by rw [← hV_V_26, hu_n ne_q_1_q_24]; exact hq_1'V_29
  have hq_28'V_26 : V_26 q_28 = some (eI k 24 (fun _ => 0)) := by rw [← hV_V_26, hu_n (Ne.symm ne_q_24_q_28)]; exact hq_28'V_29
  have hq_24'V_26 : V_26 q_24 = some (eSh q_28) := by rw [← hV_V_26]; exact hu_s
  refine hv_aast hx hb hG.K hV hS 6 3 hq_1'V_26 rfl hq_24'V_26 rfl ((vp_in_nI (by omega) (by omega) : vp_in (nI 3) 4)) d_Co_newSheets_21 (fun H locs hV hS => ?_)
  rw [show (3 : Int32).toNatClampNeg = 3 from rfl] at hV
  replace hV : hv D vwCl N0 (hu V_26 q_1 (.inl (k 6, 4, .inr (.inr (.inr (.inr (va_up (va_up (va_up (va_up (fun _ => none) 0 (some q_3)) 1 (some q_10)) 2 (some q_17)) 3 (some q_24)))))))) H := hV
  generalize hV_V_30 : hu V_26 q_1 (.inl (k 6, 4, .inr (.inr (.inr (.inr (va_up (va_up (va_up (va_up (fun _ => none) 0 (some q_3)) 1 (some q_10)) 2 (some q_17)) 3 (some q_24))))))) = V_30 at hV
  have hq_7'V_30 : V_30 q_7 = some (eI k 24 (fun _ => 0)) := by rw [← hV_V_30, hu_n (Ne.symm ne_q_1_q_7)]; exact hq_7'V_26
  have hq_3'V_30 : V_30 q_3 = some (.inr (3, [.ref q_7])) := by rw [← hV_V_30, hu_n (Ne.symm ne_q_1_q_3)]; exact hq_3'V_26
  have hq_14'V_30 : V_30 q_14 = some (eI k 24 (fun _ => 0)) := by rw [← hV_V_30, hu_n (Ne.symm ne_q_1_q_14)]; exact hq_14'V_26
  have hq_10'V_30 : V_30 q_10 = some (.inr (3, [.ref q_14])) := by rw [← hV_V_30, hu_n (Ne.symm ne_q_1_q_10)]; exact hq_10'V_26
  have hq_21'V_30 : V_30 q_21 = some (eI k 24 (fun _ => 0)) := by rw [← hV_V_30, hu_n (Ne.symm ne_q_1_q_21)]; exact hq_21'V_26
  have hq_17'V_30 : V_30 q_17 = some (.inr (3, [.ref q_21])) := by rw [← hV_V_30, hu_n (Ne.symm ne_q_1_q_17)]; exact hq_17'V_26
  have hq_28'V_30 : V_30 q_28 = some (eI k 24 (fun _ => 0)) := by rw [← hV_V_30, hu_n (Ne.symm ne_q_1_q_28)]; exact hq_28'V_26
  have hq_24'V_30 : V_30 q_24 = some (.inr (3, [.ref q_28])) := by rw [← hV_V_30, hu_n (Ne.symm ne_q_1_q_24)]; exact hq_24'V_26
  have hq_1'V_30 : V_30 q_1 = some (.inl (k 6, 4, .inr (.inr (.inr (.inr (va_up (va_up (va_up (va_up (fun _ => none) 0 (some q_3)) 1 (some q_10)) 2 (some q_17)) 3 (some q_24))))))) := by rw [← hV_V_30]; exact hu_s
  refine lv_iinc (v := 4) (lv' := [(2, .int 4), (1, .ref q_1), (0, .int 4)]) hx hb d_Co_newSheets_22 hl (k := 0) rfl (by decide) (by decide) rfl (fun ls hl => ?_)
  refine lv_goto (tgt := 7) hx hb d_Co_newSheets_25 (by decide) ?_
  refine lv_iload_n hx hb d_Co_newSheets_7 rfl (lv_at hl 0 rfl) ?_
  refine lv_iload_n hx hb d_Co_newSheets_8 rfl (lv_at hl 2 rfl) ?_
  refine lv_icmp_ge (tgt := 28) hx hb d_Co_newSheets_9 (by decide) (fun _ => ?_) (fun q => absurd q (by decide))
  refine lv_aload_n hx hb d_Co_newSheets_28 rfl (lv_at hl 1 rfl) ?_
  have no_q_1 : V q_1 = none := by
    have h0 := hn_q_1
    exact h0
  have no_q_3 : V q_3 = none := by
    have h0 := hn_q_3
    rw [← hV_V_2, hu_n (Ne.symm ne_q_1_q_3)] at h0
    exact h0
  have no_q_7 : V q_7 = none := by
    have h0 := hn_q_7
    rw [← hV_V_4, hu_n (Ne.symm ne_q_3_q_7)] at h0
    rw [← hV_V_2, hu_n (Ne.symm ne_q_1_q_7)] at h0
    exact h0
  have no_q_10 : V q_10 = none := by
    have h0 := hn_q_10
    rw [← hV_V_9, hu_n (Ne.symm ne_q_1_q_10)] at h0
    rw [← hV_V_5, hu_n (Ne.symm ne_q_3_q_10)] at h0
    rw [← hV_V_8, hu_n (Ne.symm ne_q_7_q_10)] at h0
    rw [← hV_V_4, hu_n (Ne.symm ne_q_3_q_10)] at h0
    rw [← hV_V_2, hu_n (Ne.symm ne_q_1_q_10)] at h0
    exact h0
  have no_q_14 : V q_14 = none := by
    have h0 := hn_q_14
    rw [← hV_V_11, hu_n (Ne.symm ne_q_10_q_14)] at h0
    rw [← hV_V_9, hu_n (Ne.symm ne_q_1_q_14)] at h0
    rw [← hV_V_5, hu_n (Ne.symm ne_q_3_q_14)] at h0
    rw [← hV_V_8, hu_n (Ne.symm ne_q_7_q_14)] at h0
    rw [← hV_V_4, hu_n (Ne.symm ne_q_3_q_14)] at h0
    rw [← hV_V_2, hu_n (Ne.symm ne_q_1_q_14)] at h0
    exact h0
  have no_q_17 : V q_17 = none := by
    have h0 := hn_q_17
    rw [← hV_V_16, hu_n (Ne.symm ne_q_1_q_17)] at h0
    rw [← hV_V_12, hu_n (Ne.symm ne_q_10_q_17)] at h0
    rw [← hV_V_15, hu_n (Ne.symm ne_q_14_q_17)] at h0
    rw [← hV_V_11, hu_n (Ne.symm ne_q_10_q_17)] at h0
    rw [← hV_V_9, hu_n (Ne.symm ne_q_1_q_17)] at h0
    rw [← hV_V_5, hu_n (Ne.symm ne_q_3_q_17)] at h0
    rw [← hV_V_8, hu_n (Ne.symm ne_q_7_q_17)] at h0
    rw [← hV_V_4, hu_n (Ne.symm ne_q_3_q_17)] at h0
    rw [← hV_V_2, hu_n (Ne.symm ne_q_1_q_17)] at h0
    exact h0
  have no_q_21 : V q_21 = none := by
    have h0 := hn_q_21
    rw [← hV_V_18, hu_n (Ne.symm ne_q_17_q_21)] at h0
    rw [← hV_V_16, hu_n (Ne.symm ne_q_1_q_21)] at h0
    rw [← hV_V_12, hu_n (Ne.symm ne_q_10_q_21)] at h0
    rw [← hV_V_15, hu_n (Ne.symm ne_q_14_q_21)] at h0
    rw [← hV_V_11, hu_n (Ne.symm ne_q_10_q_21)] at h0
    rw [← hV_V_9, hu_n (Ne.symm ne_q_1_q_21)] at h0
    rw [← hV_V_5, hu_n (Ne.symm ne_q_3_q_21)] at h0
    rw [← hV_V_8, hu_n (Ne.symm ne_q_7_q_21)] at h0
    rw [← hV_V_4, hu_n (Ne.symm ne_q_3_q_21)] at h0
    rw [← hV_V_2, hu_n (Ne.symm ne_q_1_q_21)] at h0
    exact h0
  have no_q_24 : V q_24 = none := by
    have h0 := hn_q_24
    rw [← hV_V_23, hu_n (Ne.symm ne_q_1_q_24)] at h0
    rw [← hV_V_19, hu_n (Ne.symm ne_q_17_q_24)] at h0
    rw [← hV_V_22, hu_n (Ne.symm ne_q_21_q_24)] at h0
    rw [← hV_V_18, hu_n (Ne.symm ne_q_17_q_24)] at h0
    rw [← hV_V_16, hu_n (Ne.symm ne_q_1_q_24)] at h0
    rw [← hV_V_12, hu_n (Ne.symm ne_q_10_q_24)] at h0
    rw [← hV_V_15, hu_n (Ne.symm ne_q_14_q_24)] at h0
    rw [← hV_V_11, hu_n (Ne.symm ne_q_10_q_24)] at h0
    rw [← hV_V_9, hu_n (Ne.symm ne_q_1_q_24)] at h0
    rw [← hV_V_5, hu_n (Ne.symm ne_q_3_q_24)] at h0
    rw [← hV_V_8, hu_n (Ne.symm ne_q_7_q_24)] at h0
    rw [← hV_V_4, hu_n (Ne.symm ne_q_3_q_24)] at h0
    rw [← hV_V_2, hu_n (Ne.symm ne_q_1_q_24)] at h0
    exact h0
  have no_q_28 : V q_28 = none := by
    have h0 := hn_q_28
    rw [← hV_V_25, hu_n (Ne.symm ne_q_24_q_28)] at h0
    rw [← hV_V_23, hu_n (Ne.symm ne_q_1_q_28)] at h0
    rw [← hV_V_19, hu_n (Ne.symm ne_q_17_q_28)] at h0
    rw [← hV_V_22, hu_n (Ne.symm ne_q_21_q_28)] at h0
    rw [← hV_V_18, hu_n (Ne.symm ne_q_17_q_28)] at h0
    rw [← hV_V_16, hu_n (Ne.symm ne_q_1_q_28)] at h0
    rw [← hV_V_12, hu_n (Ne.symm ne_q_10_q_28)] at h0
    rw [← hV_V_15, hu_n (Ne.symm ne_q_14_q_28)] at h0
    rw [← hV_V_11, hu_n (Ne.symm ne_q_10_q_28)] at h0
    rw [← hV_V_9, hu_n (Ne.symm ne_q_1_q_28)] at h0
    rw [← hV_V_5, hu_n (Ne.symm ne_q_3_q_28)] at h0
    rw [← hV_V_8, hu_n (Ne.symm ne_q_7_q_28)] at h0
    rw [← hV_V_4, hu_n (Ne.symm ne_q_3_q_28)] at h0
    rw [← hV_V_2, hu_n (Ne.symm ne_q_1_q_28)] at h0
    exact h0
  have fr : ∀ x e, V x = some e → V_30 x = some e := fun x e hx => by
    rw [← hV_V_30, hu_n (fun z => by rw [z, no_q_1] at hx; cases hx)]
    rw [← hV_V_26, hu_n (fun z => by rw [z, no_q_24] at hx; cases hx)]
    rw [← hV_V_29, hu_n (fun z => by rw [z, no_q_28] at hx; cases hx)]
    rw [← hV_V_25, hu_n (fun z => by rw [z, no_q_24] at hx; cases hx)]
    rw [← hV_V_23, hu_n (fun z => by rw [z, no_q_1] at hx; cases hx)]
    rw [← hV_V_19, hu_n (fun z => by rw [z, no_q_17] at hx; cases hx)]
    rw [← hV_V_22, hu_n (fun z => by rw [z, no_q_21] at hx; cases hx)]
    rw [← hV_V_18, hu_n (fun z => by rw [z, no_q_17] at hx; cases hx)]
    rw [← hV_V_16, hu_n (fun z => by rw [z, no_q_1] at hx; cases hx)]
    rw [← hV_V_12, hu_n (fun z => by rw [z, no_q_10] at hx; cases hx)]
    rw [← hV_V_15, hu_n (fun z => by rw [z, no_q_14] at hx; cases hx)]
    rw [← hV_V_11, hu_n (fun z => by rw [z, no_q_10] at hx; cases hx)]
    rw [← hV_V_9, hu_n (fun z => by rw [z, no_q_1] at hx; cases hx)]
    rw [← hV_V_5, hu_n (fun z => by rw [z, no_q_3] at hx; cases hx)]
    rw [← hV_V_8, hu_n (fun z => by rw [z, no_q_7] at hx; cases hx)]
    rw [← hV_V_4, hu_n (fun z => by rw [z, no_q_3] at hx; cases hx)]
    rw [← hV_V_2, hu_n (fun z => by rw [z, no_q_1] at hx; cases hx)]
    exact hx
  have L_q : (fun x => if x = q_1 then 10 else if x = q_3 then 20 else if x = q_10 then 21 else if x = q_17 then 22 else if x = q_24 then 23 else if x = q_7 then 30 else if x = q_14 then 31 else if x = q_21 then 32 else if x = q_28 then 33 else 0) q_1 = 10 := if_pos rfl
  have L_s0 : (fun x => if x = q_1 then 10 else if x = q_3 then 20 else if x = q_10 then 21 else if x = q_17 then 22 else if x = q_24 then 23 else if x = q_7 then 30 else if x = q_14 then 31 else if x = q_21 then 32 else if x = q_28 then 33 else 0) q_3 = 20 := by simp [ne_q_1_q_3, ne_q_1_q_7, ne_q_1_q_10, ne_q_1_q_14, ne_q_1_q_17, ne_q_1_q_21, ne_q_1_q_24, ne_q_1_q_28, (Ne.symm ne_q_1_q_3), ne_q_3_q_7, ne_q_3_q_10, ne_q_3_q_14, ne_q_3_q_17, ne_q_3_q_21, ne_q_3_q_24, ne_q_3_q_28, (Ne.symm ne_q_1_q_7), (Ne.symm ne_q_3_q_7), ne_q_7_q_10, ne_q_7_q_14, ne_q_7_q_17, ne_q_7_q_21, ne_q_7_q_24, ne_q_7_q_28, (Ne.symm ne_q_1_q_10), (Ne.symm ne_q_3_q_10), (Ne.symm ne_q_7_q_10), ne_q_10_q_14, ne_q_10_q_17, ne_q_10_q_21, ne_q_10_q_24, ne_q_10_q_28, (Ne.symm ne_q_1_q_14), (Ne.symm ne_q_3_q_14), (Ne.symm ne_q_7_q_14), (Ne.symm ne_q_10_q_14), ne_q_14_q_17, ne_q_14_q_21, ne_q_14_q_24, ne_q_14_q_28, (Ne.symm ne_q_1_q_17), (Ne.symm ne_q_3_q_17), (Ne.symm ne_q_7_q_17), (Ne.symm ne_q_10_q_17), (Ne.symm ne_q_14_q_17), ne_q_17_q_21, ne_q_17_q_24, ne_q_17_q_28, (Ne.symm ne_q_1_q_21), (Ne.symm ne_q_3_q_21), (Ne.symm ne_q_7_q_21), (Ne.symm ne_q_10_q_21), (Ne.symm ne_q_14_q_21), (Ne.symm ne_q_17_q_21), ne_q_21_q_24, ne_q_21_q_28, (Ne.symm ne_q_1_q_24), (Ne.symm ne_q_3_q_24), (Ne.symm ne_q_7_q_24), (Ne.symm ne_q_10_q_24), (Ne.symm ne_q_14_q_24), (Ne.symm ne_q_17_q_24), (Ne.symm ne_q_21_q_24), ne_q_24_q_28, (Ne.symm ne_q_1_q_28), (Ne.symm ne_q_3_q_28), (Ne.symm ne_q_7_q_28), (Ne.symm ne_q_10_q_28), (Ne.symm ne_q_14_q_28), (Ne.symm ne_q_17_q_28), (Ne.symm ne_q_21_q_28), (Ne.symm ne_q_24_q_28)]
  have L_r0 : (fun x => if x = q_1 then 10 else if x = q_3 then 20 else if x = q_10 then 21 else if x = q_17 then 22 else if x = q_24 then 23 else if x = q_7 then 30 else if x = q_14 then 31 else if x = q_21 then 32 else if x = q_28 then 33 else 0) q_7 = 30 := by simp [ne_q_1_q_3, ne_q_1_q_7, ne_q_1_q_10, ne_q_1_q_14, ne_q_1_q_17, ne_q_1_q_21, ne_q_1_q_24, ne_q_1_q_28, (Ne.symm ne_q_1_q_3), ne_q_3_q_7, ne_q_3_q_10, ne_q_3_q_14, ne_q_3_q_17, ne_q_3_q_21, ne_q_3_q_24, ne_q_3_q_28, (Ne.symm ne_q_1_q_7), (Ne.symm ne_q_3_q_7), ne_q_7_q_10, ne_q_7_q_14, ne_q_7_q_17, ne_q_7_q_21, ne_q_7_q_24, ne_q_7_q_28, (Ne.symm ne_q_1_q_10), (Ne.symm ne_q_3_q_10), (Ne.symm ne_q_7_q_10), ne_q_10_q_14, ne_q_10_q_17, ne_q_10_q_21, ne_q_10_q_24, ne_q_10_q_28, (Ne.symm ne_q_1_q_14), (Ne.symm ne_q_3_q_14), (Ne.symm ne_q_7_q_14), (Ne.symm ne_q_10_q_14), ne_q_14_q_17, ne_q_14_q_21, ne_q_14_q_24, ne_q_14_q_28, (Ne.symm ne_q_1_q_17), (Ne.symm ne_q_3_q_17), (Ne.symm ne_q_7_q_17), (Ne.symm ne_q_10_q_17), (Ne.symm ne_q_14_q_17), ne_q_17_q_21, ne_q_17_q_24, ne_q_17_q_28, (Ne.symm ne_q_1_q_21), (Ne.symm ne_q_3_q_21), (Ne.symm ne_q_7_q_21), (Ne.symm ne_q_10_q_21), (Ne.symm ne_q_14_q_21), (Ne.symm ne_q_17_q_21), ne_q_21_q_24, ne_q_21_q_28, (Ne.symm ne_q_1_q_24), (Ne.symm ne_q_3_q_24), (Ne.symm ne_q_7_q_24), (Ne.symm ne_q_10_q_24), (Ne.symm ne_q_14_q_24), (Ne.symm ne_q_17_q_24), (Ne.symm ne_q_21_q_24), ne_q_24_q_28, (Ne.symm ne_q_1_q_28), (Ne.symm ne_q_3_q_28), (Ne.symm ne_q_7_q_28), (Ne.symm ne_q_10_q_28), (Ne.symm ne_q_14_q_28), (Ne.symm ne_q_17_q_28), (Ne.symm ne_q_21_q_28), (Ne.symm ne_q_24_q_28)]
  have L_s1 : (fun x => if x = q_1 then 10 else if x = q_3 then 20 else if x = q_10 then 21 else if x = q_17 then 22 else if x = q_24 then 23 else if x = q_7 then 30 else if x = q_14 then 31 else if x = q_21 then 32 else if x = q_28 then 33 else 0) q_10 = 21 := by simp [ne_q_1_q_3, ne_q_1_q_7, ne_q_1_q_10, ne_q_1_q_14, ne_q_1_q_17, ne_q_1_q_21, ne_q_1_q_24, ne_q_1_q_28, (Ne.symm ne_q_1_q_3), ne_q_3_q_7, ne_q_3_q_10, ne_q_3_q_14, ne_q_3_q_17, ne_q_3_q_21, ne_q_3_q_24, ne_q_3_q_28, (Ne.symm ne_q_1_q_7), (Ne.symm ne_q_3_q_7), ne_q_7_q_10, ne_q_7_q_14, ne_q_7_q_17, ne_q_7_q_21, ne_q_7_q_24, ne_q_7_q_28, (Ne.symm ne_q_1_q_10), (Ne.symm ne_q_3_q_10), (Ne.symm ne_q_7_q_10), ne_q_10_q_14, ne_q_10_q_17, ne_q_10_q_21, ne_q_10_q_24, ne_q_10_q_28, (Ne.symm ne_q_1_q_14), (Ne.symm ne_q_3_q_14), (Ne.symm ne_q_7_q_14), (Ne.symm ne_q_10_q_14), ne_q_14_q_17, ne_q_14_q_21, ne_q_14_q_24, ne_q_14_q_28, (Ne.symm ne_q_1_q_17), (Ne.symm ne_q_3_q_17), (Ne.symm ne_q_7_q_17), (Ne.symm ne_q_10_q_17), (Ne.symm ne_q_14_q_17), ne_q_17_q_21, ne_q_17_q_24, ne_q_17_q_28, (Ne.symm ne_q_1_q_21), (Ne.symm ne_q_3_q_21), (Ne.symm ne_q_7_q_21), (Ne.symm ne_q_10_q_21), (Ne.symm ne_q_14_q_21), (Ne.symm ne_q_17_q_21), ne_q_21_q_24, ne_q_21_q_28, (Ne.symm ne_q_1_q_24), (Ne.symm ne_q_3_q_24), (Ne.symm ne_q_7_q_24), (Ne.symm ne_q_10_q_24), (Ne.symm ne_q_14_q_24), (Ne.symm ne_q_17_q_24), (Ne.symm ne_q_21_q_24), ne_q_24_q_28, (Ne.symm ne_q_1_q_28), (Ne.symm ne_q_3_q_28), (Ne.symm ne_q_7_q_28), (Ne.symm ne_q_10_q_28), (Ne.symm ne_q_14_q_28), (Ne.symm ne_q_17_q_28), (Ne.symm ne_q_21_q_28), (Ne.symm ne_q_24_q_28)]
  have L_r1 : (fun x => if x = q_1 then 10 else if x = q_3 then 20 else if x = q_10 then 21 else if x = q_17 then 22 else if x = q_24 then 23 else if x = q_7 then 30 else if x = q_14 then 31 else if x = q_21 then 32 else if x = q_28 then 33 else 0) q_14 = 31 := by simp [ne_q_1_q_3, ne_q_1_q_7, ne_q_1_q_10, ne_q_1_q_14, ne_q_1_q_17, ne_q_1_q_21, ne_q_1_q_24, ne_q_1_q_28, (Ne.symm ne_q_1_q_3), ne_q_3_q_7, ne_q_3_q_10, ne_q_3_q_14, ne_q_3_q_17, ne_q_3_q_21, ne_q_3_q_24, ne_q_3_q_28, (Ne.symm ne_q_1_q_7), (Ne.symm ne_q_3_q_7), ne_q_7_q_10, ne_q_7_q_14, ne_q_7_q_17, ne_q_7_q_21, ne_q_7_q_24, ne_q_7_q_28, (Ne.symm ne_q_1_q_10), (Ne.symm ne_q_3_q_10), (Ne.symm ne_q_7_q_10), ne_q_10_q_14, ne_q_10_q_17, ne_q_10_q_21, ne_q_10_q_24, ne_q_10_q_28, (Ne.symm ne_q_1_q_14), (Ne.symm ne_q_3_q_14), (Ne.symm ne_q_7_q_14), (Ne.symm ne_q_10_q_14), ne_q_14_q_17, ne_q_14_q_21, ne_q_14_q_24, ne_q_14_q_28, (Ne.symm ne_q_1_q_17), (Ne.symm ne_q_3_q_17), (Ne.symm ne_q_7_q_17), (Ne.symm ne_q_10_q_17), (Ne.symm ne_q_14_q_17), ne_q_17_q_21, ne_q_17_q_24, ne_q_17_q_28, (Ne.symm ne_q_1_q_21), (Ne.symm ne_q_3_q_21), (Ne.symm ne_q_7_q_21), (Ne.symm ne_q_10_q_21), (Ne.symm ne_q_14_q_21), (Ne.symm ne_q_17_q_21), ne_q_21_q_24, ne_q_21_q_28, (Ne.symm ne_q_1_q_24), (Ne.symm ne_q_3_q_24), (Ne.symm ne_q_7_q_24), (Ne.symm ne_q_10_q_24), (Ne.symm ne_q_14_q_24), (Ne.symm ne_q_17_q_24), (Ne.symm ne_q_21_q_24), ne_q_24_q_28, (Ne.symm ne_q_1_q_28), (Ne.symm ne_q_3_q_28), (Ne.symm ne_q_7_q_28), (Ne.symm ne_q_10_q_28), (Ne.symm ne_q_14_q_28), (Ne.symm ne_q_17_q_28), (Ne.symm ne_q_21_q_28), (Ne.symm ne_q_24_q_28)]
  have L_s2 : (fun x => if x = q_1 then 10 else if x = q_3 then 20 else if x = q_10 then 21 else if x = q_17 then 22 else if x = q_24 then 23 else if x = q_7 then 30 else if x = q_14 then 31 else if x = q_21 then 32 else if x = q_28 then 33 else 0) q_17 = 22 := by simp [ne_q_1_q_3, ne_q_1_q_7, ne_q_1_q_10, ne_q_1_q_14, ne_q_1_q_17, ne_q_1_q_21, ne_q_1_q_24, ne_q_1_q_28, (Ne.symm ne_q_1_q_3), ne_q_3_q_7, ne_q_3_q_10, ne_q_3_q_14, ne_q_3_q_17, ne_q_3_q_21, ne_q_3_q_24, ne_q_3_q_28, (Ne.symm ne_q_1_q_7), (Ne.symm ne_q_3_q_7), ne_q_7_q_10, ne_q_7_q_14, ne_q_7_q_17, ne_q_7_q_21, ne_q_7_q_24, ne_q_7_q_28, (Ne.symm ne_q_1_q_10), (Ne.symm ne_q_3_q_10), (Ne.symm ne_q_7_q_10), ne_q_10_q_14, ne_q_10_q_17, ne_q_10_q_21, ne_q_10_q_24, ne_q_10_q_28, (Ne.symm ne_q_1_q_14), (Ne.symm ne_q_3_q_14), (Ne.symm ne_q_7_q_14), (Ne.symm ne_q_10_q_14), ne_q_14_q_17, ne_q_14_q_21, ne_q_14_q_24, ne_q_14_q_28, (Ne.symm ne_q_1_q_17), (Ne.symm ne_q_3_q_17), (Ne.symm ne_q_7_q_17), (Ne.symm ne_q_10_q_17), (Ne.symm ne_q_14_q_17), ne_q_17_q_21, ne_q_17_q_24, ne_q_17_q_28, (Ne.symm ne_q_1_q_21), (Ne.symm ne_q_3_q_21), (Ne.symm ne_q_7_q_21), (Ne.symm ne_q_10_q_21), (Ne.symm ne_q_14_q_21), (Ne.symm ne_q_17_q_21), ne_q_21_q_24, ne_q_21_q_28, (Ne.symm ne_q_1_q_24), (Ne.symm ne_q_3_q_24), (Ne.symm ne_q_7_q_24), (Ne.symm ne_q_10_q_24), (Ne.symm ne_q_14_q_24), (Ne.symm ne_q_17_q_24), (Ne.symm ne_q_21_q_24), ne_q_24_q_28, (Ne.symm ne_q_1_q_28), (Ne.symm ne_q_3_q_28), (Ne.symm ne_q_7_q_28), (Ne.symm ne_q_10_q_28), (Ne.symm ne_q_14_q_28), (Ne.symm ne_q_17_q_28), (Ne.symm ne_q_21_q_28), (Ne.symm ne_q_24_q_28)]
  have L_r2 : (fun x => if x = q_1 then 10 else if x = q_3 then 20 else if x = q_10 then 21 else if x = q_17 then 22 else if x = q_24 then 23 else if x = q_7 then 30 else if x = q_14 then 31 else if x = q_21 then 32 else if x = q_28 then 33 else 0) q_21 = 32 := by simp [ne_q_1_q_3, ne_q_1_q_7, ne_q_1_q_10, ne_q_1_q_14, ne_q_1_q_17, ne_q_1_q_21, ne_q_1_q_24, ne_q_1_q_28, (Ne.symm ne_q_1_q_3), ne_q_3_q_7, ne_q_3_q_10, ne_q_3_q_14, ne_q_3_q_17, ne_q_3_q_21, ne_q_3_q_24, ne_q_3_q_28, (Ne.symm ne_q_1_q_7), (Ne.symm ne_q_3_q_7), ne_q_7_q_10, ne_q_7_q_14, ne_q_7_q_17, ne_q_7_q_21, ne_q_7_q_24, ne_q_7_q_28, (Ne.symm ne_q_1_q_10), (Ne.symm ne_q_3_q_10), (Ne.symm ne_q_7_q_10), ne_q_10_q_14, ne_q_10_q_17, ne_q_10_q_21, ne_q_10_q_24, ne_q_10_q_28, (Ne.symm ne_q_1_q_14), (Ne.symm ne_q_3_q_14), (Ne.symm ne_q_7_q_14), (Ne.symm ne_q_10_q_14), ne_q_14_q_17, ne_q_14_q_21, ne_q_14_q_24, ne_q_14_q_28, (Ne.symm ne_q_1_q_17), (Ne.symm ne_q_3_q_17), (Ne.symm ne_q_7_q_17), (Ne.symm ne_q_10_q_17), (Ne.symm ne_q_14_q_17), ne_q_17_q_21, ne_q_17_q_24, ne_q_17_q_28, (Ne.symm ne_q_1_q_21), (Ne.symm ne_q_3_q_21), (Ne.symm ne_q_7_q_21), (Ne.symm ne_q_10_q_21), (Ne.symm ne_q_14_q_21), (Ne.symm ne_q_17_q_21), ne_q_21_q_24, ne_q_21_q_28, (Ne.symm ne_q_1_q_24), (Ne.symm ne_q_3_q_24), (Ne.symm ne_q_7_q_24), (Ne.symm ne_q_10_q_24), (Ne.symm ne_q_14_q_24), (Ne.symm ne_q_17_q_24), (Ne.symm ne_q_21_q_24), ne_q_24_q_28, (Ne.symm ne_q_1_q_28), (Ne.symm ne_q_3_q_28), (Ne.symm ne_q_7_q_28), (Ne.symm ne_q_10_q_28), (Ne.symm ne_q_14_q_28), (Ne.symm ne_q_17_q_28), (Ne.symm ne_q_21_q_28), (Ne.symm ne_q_24_q_28)]
  have L_s3 : (fun x => if x = q_1 then 10 else if x = q_3 then 20 else if x = q_10 then 21 else if x = q_17 then 22 else if x = q_24 then 23 else if x = q_7 then 30 else if x = q_14 then 31 else if x = q_21 then 32 else if x = q_28 then 33 else 0) q_24 = 23 := by simp [ne_q_1_q_3, ne_q_1_q_7, ne_q_1_q_10, ne_q_1_q_14, ne_q_1_q_17, ne_q_1_q_21, ne_q_1_q_24, ne_q_1_q_28, (Ne.symm ne_q_1_q_3), ne_q_3_q_7, ne_q_3_q_10, ne_q_3_q_14, ne_q_3_q_17, ne_q_3_q_21, ne_q_3_q_24, ne_q_3_q_28, (Ne.symm ne_q_1_q_7), (Ne.symm ne_q_3_q_7), ne_q_7_q_10, ne_q_7_q_14, ne_q_7_q_17, ne_q_7_q_21, ne_q_7_q_24, ne_q_7_q_28, (Ne.symm ne_q_1_q_10), (Ne.symm ne_q_3_q_10), (Ne.symm ne_q_7_q_10), ne_q_10_q_14, ne_q_10_q_17, ne_q_10_q_21, ne_q_10_q_24, ne_q_10_q_28, (Ne.symm ne_q_1_q_14), (Ne.symm ne_q_3_q_14), (Ne.symm ne_q_7_q_14), (Ne.symm ne_q_10_q_14), ne_q_14_q_17, ne_q_14_q_21, ne_q_14_q_24, ne_q_14_q_28, (Ne.symm ne_q_1_q_17), (Ne.symm ne_q_3_q_17), (Ne.symm ne_q_7_q_17), (Ne.symm ne_q_10_q_17), (Ne.symm ne_q_14_q_17), ne_q_17_q_21, ne_q_17_q_24, ne_q_17_q_28, (Ne.symm ne_q_1_q_21), (Ne.symm ne_q_3_q_21), (Ne.symm ne_q_7_q_21), (Ne.symm ne_q_10_q_21), (Ne.symm ne_q_14_q_21), (Ne.symm ne_q_17_q_21), ne_q_21_q_24, ne_q_21_q_28, (Ne.symm ne_q_1_q_24), (Ne.symm ne_q_3_q_24), (Ne.symm ne_q_7_q_24), (Ne.symm ne_q_10_q_24), (Ne.symm ne_q_14_q_24), (Ne.symm ne_q_17_q_24), (Ne.symm ne_q_21_q_24), ne_q_24_q_28, (Ne.symm ne_q_1_q_28), (Ne.symm ne_q_3_q_28), (Ne.symm ne_q_7_q_28), (Ne.symm ne_q_10_q_28), (Ne.symm ne_q_14_q_28), (Ne.symm ne_q_17_q_28), (Ne.symm ne_q_21_q_28), (Ne.symm ne_q_24_q_28)]
  have L_r3 : (fun x => if x = q_1 then 10 else if x = q_3 then 20 else if x = q_10 then 21 else if x = q_17 then 22 else if x = q_24 then 23 else if x = q_7 then 30 else if x = q_14 then 31 else if x = q_21 then 32 else if x = q_28 then 33 else 0) q_28 = 33 := by simp [ne_q_1_q_3, ne_q_1_q_7, ne_q_1_q_10, ne_q_1_q_14, ne_q_1_q_17, ne_q_1_q_21, ne_q_1_q_24, ne_q_1_q_28, (Ne.symm ne_q_1_q_3), ne_q_3_q_7, ne_q_3_q_10, ne_q_3_q_14, ne_q_3_q_17, ne_q_3_q_21, ne_q_3_q_24, ne_q_3_q_28, (Ne.symm ne_q_1_q_7), (Ne.symm ne_q_3_q_7), ne_q_7_q_10, ne_q_7_q_14, ne_q_7_q_17, ne_q_7_q_21, ne_q_7_q_24, ne_q_7_q_28, (Ne.symm ne_q_1_q_10), (Ne.symm ne_q_3_q_10), (Ne.symm ne_q_7_q_10), ne_q_10_q_14, ne_q_10_q_17, ne_q_10_q_21, ne_q_10_q_24, ne_q_10_q_28, (Ne.symm ne_q_1_q_14), (Ne.symm ne_q_3_q_14), (Ne.symm ne_q_7_q_14), (Ne.symm ne_q_10_q_14), ne_q_14_q_17, ne_q_14_q_21, ne_q_14_q_24, ne_q_14_q_28, (Ne.symm ne_q_1_q_17), (Ne.symm ne_q_3_q_17), (Ne.symm ne_q_7_q_17), (Ne.symm ne_q_10_q_17), (Ne.symm ne_q_14_q_17), ne_q_17_q_21, ne_q_17_q_24, ne_q_17_q_28, (Ne.symm ne_q_1_q_21), (Ne.symm ne_q_3_q_21), (Ne.symm ne_q_7_q_21), (Ne.symm ne_q_10_q_21), (Ne.symm ne_q_14_q_21), (Ne.symm ne_q_17_q_21), ne_q_21_q_24, ne_q_21_q_28, (Ne.symm ne_q_1_q_24), (Ne.symm ne_q_3_q_24), (Ne.symm ne_q_7_q_24), (Ne.symm ne_q_10_q_24), (Ne.symm ne_q_14_q_24), (Ne.symm ne_q_17_q_24), (Ne.symm ne_q_21_q_24), ne_q_24_q_28, (Ne.symm ne_q_1_q_28), (Ne.symm ne_q_3_q_28), (Ne.symm ne_q_7_q_28), (Ne.symm ne_q_10_q_28), (Ne.symm ne_q_14_q_28), (Ne.symm ne_q_17_q_28), (Ne.symm ne_q_21_q_28), (Ne.symm ne_q_24_q_28)]
  have hj9 : ∀ j, j < 4 → V ((if4 q_3 q_10 q_17 q_24) j) = none ∧ V ((if4 q_7 q_14 q_21 q_28) j) = none ∧ (va_up (va_up (va_up (va_up (fun _ => none) 0 (some q_3)) 1 (some q_10)) 2 (some q_17)) 3 (some q_24)) j = some ((if4 q_3 q_10 q_17 q_24) j) ∧ V_30 ((if4 q_3 q_10 q_17 q_24) j) = some (eSh ((if4 q_7 q_14 q_21 q_28) j)) ∧ V_30 ((if4 q_7 q_14 q_21 q_28) j) = some (eI k 24 (fun _ => 0)) ∧ (fun x => if x = q_1 then 10 else if x = q_3 then 20 else if x = q_10 then 21 else if x = q_17 then 22 else if x = q_24 then 23 else if x = q_7 then 30 else if x = q_14 then 31 else if x = q_21 then 32 else if x = q_28 then 33 else 0) ((if4 q_3 q_10 q_17 q_24) j) = 20 + j ∧ (fun x => if x = q_1 then 10 else if x = q_3 then 20 else if x = q_10 then 21 else if x = q_17 then 22 else if x = q_24 then 23 else if x = q_7 then 30 else if x = q_14 then 31 else if x = q_21 then 32 else if x = q_28 then 33 else 0) ((if4 q_7 q_14 q_21 q_28) j) = 30 + j := by
    intro j hj
    rcases (show j = 0 ∨ j = 1 ∨ j = 2 ∨ j = 3 by omega) with rfl | rfl | rfl | rfl
    · exact ⟨no_q_3, no_q_7, rfl, hq_3'V_30, hq_7'V_30, L_s0, L_r0⟩
    · exact ⟨no_q_10, no_q_14, rfl, hq_10'V_30, hq_14'V_30, L_s1, L_r1⟩
    · exact ⟨no_q_17, no_q_21, rfl, hq_17'V_30, hq_21'V_30, L_s2, L_r2⟩
    · exact ⟨no_q_24, no_q_28, rfl, hq_24'V_30, hq_28'V_30, L_s3, L_r3⟩
  exact W.aret (v := va_rf (some q_1)) hx hb hr (by first | exact Or.inl ⟨_, rfl⟩ | exact Or.inr ⟨_, rfl⟩) (va_rf_or _) (fun t9 ht hW => ⟨⟨(some q_1), V_30, rfl, ⟨q_1, (va_up (va_up (va_up (va_up (fun _ => none) 0 (some q_3)) 1 (some q_10)) 2 (some q_17)) 3 (some q_24)), (if4 q_3 q_10 q_17 q_24), (if4 q_7 q_14 q_21 q_28), (fun x => if x = q_1 then 10 else if x = q_3 then 20 else if x = q_10 then 21 else if x = q_17 then 22 else if x = q_24 then 23 else if x = q_7 then 30 else if x = q_14 then 31 else if x = q_21 then 32 else if x = q_28 then 33 else 0), rfl, no_q_1, hq_1'V_30, fr, hj9, L_q⟩, mB_of ht hV⟩, hS.F ht⟩) hS.2.2 d_Co_newSheets_29
theorem c_Co_newSheets (l : Launch) (D : va_G) (N0 : Nat) (k : Nat → Nat) (V : HV) (n : Nat) (h1 : 1 ≤ n) (h4 : n ≤ 4) : Met l y_Co_newSheets (.code y_Co_newSheets b_Co_newSheets 3 (some (.array (.object "BoardHouse$Sheet"))) :: WS) ({ frames := 2, cells := 9, slots := 104, locals := 40 }) (mP D N0 k [.int (nI n)] V) (va_Qq (fun r0 V' => ∃ q F s0 r L, r0 = some q ∧ shN k n V V' q F s0 r L) (mB D N0) (hA N0)) 9 104 (hA N0) := by
  rcases (show n = 1 ∨ n = 2 ∨ n = 3 ∨ n = 4 by omega) with rfl | rfl | rfl | rfl
  · exact c_Co_newSheets1 l D N0 k V
  · exact c_Co_newSheets2 l D N0 k V
  · exact c_Co_newSheets3 l D N0 k V
  · exact c_Co_newSheets4 l D N0 k V
set_option maxHeartbeats 4000000 in
set_option maxRecDepth 100000 in
/-- Copper(layers, reach) -/
theorem c_Co_init (l : Launch) (D : va_G) (N0 : Nat) (k : Nat → Nat) (V : HV) (co n : Nat) (g : Int32) (h1 : 1 ≤ n) (h4 : n ≤ 4) (h_co : V co = some (.inr (2, [.null, .int 0, .null, .null, .null, .int 0]))) : Met l y_Co_init (.code y_Co_init b_Co_init 3 none :: WS) ({ frames := 3, cells := 21, slots := 383, locals := 62 }) (mP D N0 k [.ref co, .int (nI n), .int g] V) (va_Qv (fun V' => ∃ b, coN k n g V V' co b) (mB D N0) (hA N0)) 21 383 (hA N0) := by
  refine Met.ofW (cc := b_Co_init) (maxL := 3) (ret := none) (by decide) rfl ?_
  intro p e s m args below meth c s₁ B hml hv0
  obtain ⟨rfl, hG, hV⟩ := hv0
  have hx := B.exec
  have hb := B.bytes
  have hr := B.returns
  have hts := atoms_spec (ws := .code y_Co_init b_Co_init 3 none :: WS) B.pre
  have hW : ∀ w ∈ WS, w.before _ s = true := fun w h => hts w (List.mem_cons_of_mem _ h)
  have hown : s.vm.findClass "BoardHouse$Copper" = some m.cls := findClass_of_methodNamed B.named
  have hlocks := B.notSynchronized
  have hin : meth.name = "<init>" := (name_of_methodNamed B.named B.method).1
  have hS : va_S (hA N0) s.heap s.heap [] := va_S.rf
  have hl := lv_entry ([.ref co, .int (nI n), .int g]) (n := 3) (Nat.le_of_ble_eq_true rfl)
  rw [lg_entry_eq]
  generalize (lg_sl ([.ref co, .int (nI n), .int g]) ++ List.replicate (3 - (lg_sl ([.ref co, .int (nI n), .int g])).length) Slot.unset).toArray = ls at hl ⊢
  have hl : lv_has ls 3 [(0, .ref co), (1, .int (nI n)), (2, .int g)] := hl
  refine lv_aload_n hx hb d_Co_init_0 rfl (lv_at hl 0 rfl) ?_
  refine W.objInit hx hb hown (hW _ wm_Co_3) (hW _ wv_JO_init) (hW _ wc_JO_init) rfl (by rw [hml]; exact hl.1) rfl d_Co_init_1 (Nat.le_of_ble_eq_true rfl) (Nat.le_of_ble_eq_true rfl) ?_
  refine W.eq (g2 := F0 m 4 ls []) rfl ?_
  refine lv_aload_n hx hb d_Co_init_4 rfl (lv_at hl 0 rfl) ?_
  refine lv_sipush (v := 150) hx hb d_Co_init_5 (by decide) ?_
  refine hv_newq (N' := 150) hx hb hown (hW _ wk_Co_9) hG.2.2.2.1.1 hG.K hV hS 3 rfl (by decide) rfl (by omega) (Nat.le_of_ble_eq_true rfl) (Nat.le_of_ble_eq_true rfl) hG.N d_Co_init_8 (fun q_1 H hn_q_1 hN_q_1 hV hS => ?_)
  have ne_co_q_1 : co ≠ q_1 := fun z => by rw [← z, h_co] at hn_q_1; cases hn_q_1
  replace hV : hv D vwCl N0 (hu V q_1 (.inl (k 3, 150, .inr (.inr (.inr (.inr (fun _ => none))))))) H := hV
  generalize hV_V_2 : hu V q_1 (.inl (k 3, 150, .inr (.inr (.inr (.inr (fun _ => none)))))) = V_2 at hV
  have h_co'V_2 : V_2 co = some (.inr (2, [.null, .int 0, .null, .null, .null, .int 0])) := by rw [← hV_V_2, hu_n ne_co_q_1]; exact h_co
  have hq_1'V_2 : V_2 q_1 = some (.inl (k 3, 150, .inr (.inr (.inr (.inr (fun _ => none)))))) := by rw [← hV_V_2]; exact hu_s
  refine pf_Co_11 (x := some q_1) hx hb hW hown hG hV hS hin h_co'V_2 d_Co_init_11 (fun H locs hV hS => ?_)
  replace hV : hv D vwCl N0 (hu V_2 co (.inr (2, [.ref q_1, .int 0, .null, .null, .null, .int 0]))) H := hV
  generalize hV_V_3 : hu V_2 co (.inr (2, [.ref q_1, .int 0, .null, .null, .null, .int 0])) = V_3 at hV
  have hq_1'V_3 : V_3 q_1 = some (.inl (k 3, 150, .inr (.inr (.inr (.inr (fun _ => none)))))) := by rw [← hV_V_3, hu_n (Ne.symm ne_co_q_1)]; exact hq_1'V_2
  have hco'V_3 : V_3 co = some (.inr (2, [.ref q_1, .int 0, .null, .null, .null, .int 0])) := by rw [← hV_V_3]; exact hu_s
  refine lv_aload_n hx hb d_Co_init_14 rfl (lv_at hl 0 rfl) ?_
  refine hv_new (ci := 3) (fs := [.null]) (C := R_Sh) (T := T_Sh) (N := 1) hx hb hW in_Sh t_Sh ty_Sh hown (hW _ wk_Co_17) (hW _ wo_Sh) (hW _ wi_Sh) hG.K hV hS rfl (fun j hj => by rcases (show j = 0 by omega) with rfl <;> rfl) (Nat.le_of_ble_eq_true rfl) (Nat.le_of_ble_eq_true rfl) hG.N d_Co_init_15 (fun q_4 H hn_q_4 hN_q_4 hV hS => ?_)
  have ne_q_1_q_4 : q_1 ≠ q_4 := fun z => by rw [← z, hq_1'V_3] at hn_q_4; cases hn_q_4
  have ne_co_q_4 : co ≠ q_4 := fun z => by rw [← z, hco'V_3] at hn_q_4; cases hn_q_4
  replace hV : hv D vwCl N0 (hu V_3 q_4 (.inr (3, [.null]))) H := hV
  generalize hV_V_5 : hu V_3 q_4 (.inr (3, [.null])) = V_5 at hV
  have hq_1'V_5 : V_5 q_1 = some (.inl (k 3, 150, .inr (.inr (.inr (.inr (fun _ => none)))))) := by rw [← hV_V_5, hu_n ne_q_1_q_4]; exact hq_1'V_3
  have hco'V_5 : V_5 co = some (.inr (2, [.ref q_1, .int 0, .null, .null, .null, .int 0])) := by rw [← hV_V_5, hu_n ne_co_q_4]; exact hco'V_3
  have hq_4'V_5 : V_5 q_4 = some (.inr (3, [.null])) := by rw [← hV_V_5]; exact hu_s
  refine lv_dup hx hb d_Co_init_18 rfl ?_
  refine rc_V (va_runIN (As := []) (rest := [.ref q_4, .ref co]) ⟨hx, hb, hml, hown, hts⟩ (c_Sh_init l D N0 k V_5 q_4 hq_4'V_5) ⟨va_cnB 0 hts (gi_c wc_Sh_init) rfl rfl rfl (va_Nw.of rfl (hG.nest wmn_Co_19 rfl #[])) (hW _ wi_Sh) (by decide +kernel) ⟨Nat.le_of_ble_eq_true rfl, Nat.le_of_ble_eq_true rfl⟩, rfl, hW _ wv_Sh_init⟩ (mP.preS hG hS hV) rfl rfl hl.1 rfl (lv_room (Nat.le_of_ble_eq_true rfl)) d_Co_init_19 ⟨Nat.le_of_ble_eq_true rfl, Nat.le_of_ble_eq_true rfl⟩) hS (fun V_6 H locs hp_7 hV hS => ?_)
  obtain ⟨q_8, hn_q_8, ev_q_8⟩ := hp_7
  obtain ⟨V_9, eV_V_9⟩ : ∃ z, z = hu V_5 q_8 (eI k 24 (fun _ => 0)) := ⟨_, rfl⟩
  rw [← eV_V_9] at ev_q_8
  have ne_q_1_q_8 : q_1 ≠ q_8 := fun z => by rw [← z, hq_1'V_5] at hn_q_8; cases hn_q_8
  have ne_co_q_8 : co ≠ q_8 := fun z => by rw [← z, hco'V_5] at hn_q_8; cases hn_q_8
  have ne_q_4_q_8 : q_4 ≠ q_8 := fun z => by rw [← z, hq_4'V_5] at hn_q_8; cases hn_q_8
  have hV_V_9 := eV_V_9.symm
  have hq_1'V_9 : V_9 q_1 = some (.inl (k 3, 150, .inr (.inr (.inr (.inr (fun _ => none)))))) := by rw [← hV_V_9, hu_n ne_q_1_q_8]; exact hq_1'V_5
  have hco'V_9 : V_9 co = some (.inr (2, [.ref q_1, .int 0, .null, .null, .null, .int 0])) := by rw [← hV_V_9, hu_n ne_co_q_8]; exact hco'V_5
  have hq_4'V_9 : V_9 q_4 = some (.inr (3, [.null])) := by rw [← hV_V_9, hu_n ne_q_4_q_8]; exact hq_4'V_5
  have hq_8'V_9 : V_9 q_8 = some (eI k 24 (fun _ => 0)) := by rw [← hV_V_9]; exact hu_s
  have hV_V_6 := ev_q_8.symm
  have hq_1'V_6 : V_6 q_1 = some (.inl (k 3, 150, .inr (.inr (.inr (.inr (fun _ => none)))))) := by rw [← hV_V_6, hu_n ne_q_1_q_4]; exact hq_1'V_9
  have hco'V_6 : V_6 co = some (.inr (2, [.ref q_1, .int 0, .null, .null, .null, .int 0])) := by rw [← hV_V_6, hu_n ne_co_q_4]; exact hco'V_9
  have hq_8'V_6 : V_6 q_8 = some (eI k 24 (fun _ => 0)) := by rw [← hV_V_6, hu_n (Ne.symm ne_q_4_q_8)]; exact hq_8'V_9
  have hq_4'V_6 : V_6 q_4 = some (eSh q_8) := by rw [← hV_V_6]; exact hu_s
  refine pf_Co_20 (x := some q_4) hx hb hW hown hG hV hS hin hco'V_6 d_Co_init_22 (fun H locs hV hS => ?_)
  replace hV : hv D vwCl N0 (hu V_6 co (.inr (2, [.ref q_1, .int 0, .ref q_4, .null, .null, .int 0]))) H := hV
  generalize hV_V_10 : hu V_6 co (.inr (2, [.ref q_1, .int 0, .ref q_4, .null, .null, .int 0])) = V_10 at hV
  have hq_1'V_10 : V_10 q_1 = some (.inl (k 3, 150, .inr (.inr (.inr (.inr (fun _ => none)))))) := by rw [← hV_V_10, hu_n (Ne.symm ne_co_q_1)]; exact hq_1'V_6
  have hq_8'V_10 : V_10 q_8 = some (eI k 24 (fun _ => 0)) := by rw [← hV_V_10, hu_n (Ne.symm ne_co_q_8)]; exact hq_8'V_6
  have hq_4'V_10 : V_10 q_4 = some (.inr (3, [.ref q_8])) := by rw [← hV_V_10, hu_n (Ne.symm ne_co_q_4)]; exact hq_4'V_6
  have hco'V_10 : V_10 co = some (.inr (2, [.ref q_1, .int 0, .ref q_4, .null, .null, .int 0])) := by rw [← hV_V_10]; exact hu_s
  refine lv_aload_n hx hb d_Co_init_25 rfl (lv_at hl 0 rfl) ?_
  refine lv_iload_n hx hb d_Co_init_26 rfl (lv_at hl 1 rfl) ?_
  refine pf_Co_24 hx hb hW hown hG hV hS hin hco'V_10 d_Co_init_27 (fun H locs hV hS => ?_)
  replace hV : hv D vwCl N0 (hu V_10 co (.inr (2, [.ref q_1, .int (nI n), .ref q_4, .null, .null, .int 0]))) H := hV
  generalize hV_V_11 : hu V_10 co (.inr (2, [.ref q_1, .int (nI n), .ref q_4, .null, .null, .int 0])) = V_11 at hV
  have hq_1'V_11 : V_11 q_1 = some (.inl (k 3, 150, .inr (.inr (.inr (.inr (fun _ => none)))))) := by rw [← hV_V_11, hu_n (Ne.symm ne_co_q_1)]; exact hq_1'V_10
  have hq_8'V_11 : V_11 q_8 = some (eI k 24 (fun _ => 0)) := by rw [← hV_V_11, hu_n (Ne.symm ne_co_q_8)]; exact hq_8'V_10
  have hq_4'V_11 : V_11 q_4 = some (.inr (3, [.ref q_8])) := by rw [← hV_V_11, hu_n (Ne.symm ne_co_q_4)]; exact hq_4'V_10
  have hco'V_11 : V_11 co = some (.inr (2, [.ref q_1, .int (nI n), .ref q_4, .null, .null, .int 0])) := by rw [← hV_V_11]; exact hu_s
  refine lv_aload_n hx hb d_Co_init_30 rfl (lv_at hl 0 rfl) ?_
  refine lv_iload_n hx hb d_Co_init_31 rfl (lv_at hl 2 rfl) ?_
  refine pf_Co_28 hx hb hW hown hG hV hS hco'V_11 d_Co_init_32 (fun H locs hV hS => ?_)
  replace hV : hv D vwCl N0 (hu V_11 co (.inr (2, [.ref q_1, .int (nI n), .ref q_4, .null, .null, .int g]))) H := hV
  generalize hV_V_12 : hu V_11 co (.inr (2, [.ref q_1, .int (nI n), .ref q_4, .null, .null, .int g])) = V_12 at hV
  have hq_1'V_12 : V_12 q_1 = some (.inl (k 3, 150, .inr (.inr (.inr (.inr (fun _ => none)))))) := by rw [← hV_V_12, hu_n (Ne.symm ne_co_q_1)]; exact hq_1'V_11
  have hq_8'V_12 : V_12 q_8 = some (eI k 24 (fun _ => 0)) := by rw [← hV_V_12, hu_n (Ne.symm ne_co_q_8)]; exact hq_8'V_11
  have hq_4'V_12 : V_12 q_4 = some (.inr (3, [.ref q_8])) := by rw [← hV_V_12, hu_n (Ne.symm ne_co_q_4)]; exact hq_4'V_11
  have hco'V_12 : V_12 co = some (.inr (2, [.ref q_1, .int (nI n), .ref q_4, .null, .null, .int g])) := by rw [← hV_V_12]; exact hu_s
  refine lv_aload_n hx hb d_Co_init_35 rfl (lv_at hl 0 rfl) ?_
  refine lv_iload_n hx hb d_Co_init_36 rfl (lv_at hl 1 rfl) ?_
  refine rc_Q (va_runS (As := [.int (nI n)]) (rest := [.ref co]) ⟨hx, hb, hml, hown, hts⟩ (c_Co_newSheets l D N0 k V_12 n (by omega) (by omega)) (va_cwS 1 hts (gi_S wm_Co_31 wt_Co_newSheets wi_Co wc_Co_newSheets) rfl rfl rfl (by decide +kernel) ⟨Nat.le_of_ble_eq_true rfl, Nat.le_of_ble_eq_true rfl⟩) (mP.preS hG hS hV) rfl rfl hl.1 rfl (lv_room (Nat.le_of_ble_eq_true rfl)) d_Co_init_37 ⟨Nat.le_of_ble_eq_true rfl, Nat.le_of_ble_eq_true rfl⟩) hS (fun r_13 V_14 H locs hp_15 hV hS => ?_)
  obtain ⟨q_16, F16, s16, r16, L16, er16, hN16⟩ := hp_15
  subst er16
  refine W.eq (g2 := F0 m 40 ls [.ref q_16, .ref co]) rfl ?_
  have hn_q_16 := hN16.1
  have ne_q_1_q_16 : q_1 ≠ q_16 := fun z => by rw [← z, hq_1'V_12] at hn_q_16; cases hn_q_16
  have ne_q_8_q_16 : q_8 ≠ q_16 := fun z => by rw [← z, hq_8'V_12] at hn_q_16; cases hn_q_16
  have ne_q_4_q_16 : q_4 ≠ q_16 := fun z => by rw [← z, hq_4'V_12] at hn_q_16; cases hn_q_16
  have ne_co_q_16 : co ≠ q_16 := fun z => by rw [← z, hco'V_12] at hn_q_16; cases hn_q_16
  have hq_1'V_14 : V_14 q_1 = some (.inl (k 3, 150, .inr (.inr (.inr (.inr (fun _ => none)))))) := hN16.2.2.1 _ _ hq_1'V_12
  have hq_8'V_14 : V_14 q_8 = some (eI k 24 (fun _ => 0)) := hN16.2.2.1 _ _ hq_8'V_12
  have hq_4'V_14 : V_14 q_4 = some (.inr (3, [.ref q_8])) := hN16.2.2.1 _ _ hq_4'V_12
  have hco'V_14 : V_14 co = some (.inr (2, [.ref q_1, .int (nI n), .ref q_4, .null, .null, .int g])) := hN16.2.2.1 _ _ hco'V_12
  have hq_q_16 : V_14 q_16 = some (eSs k n F16) := hN16.2.1
  refine pf_Co_35 (x := some q_16) hx hb hW hown hG hV hS hin hco'V_14 d_Co_init_40 (fun H locs hV hS => ?_)
  replace hV : hv D vwCl N0 (hu V_14 co (.inr (2, [.ref q_1, .int (nI n), .ref q_4, .ref q_16, .null, .int g]))) H := hV
  generalize hV_V_17 : hu V_14 co (.inr (2, [.ref q_1, .int (nI n), .ref q_4, .ref q_16, .null, .int g])) = V_17 at hV
  have hq_1'V_17 : V_17 q_1 = some (.inl (k 3, 150, .inr (.inr (.inr (.inr (fun _ => none)))))) := by rw [← hV_V_17, hu_n (Ne.symm ne_co_q_1)]; exact hq_1'V_14
  have hq_8'V_17 : V_17 q_8 = some (eI k 24 (fun _ => 0)) := by rw [← hV_V_17, hu_n (Ne.symm ne_co_q_8)]; exact hq_8'V_14
  have hq_4'V_17 : V_17 q_4 = some (.inr (3, [.ref q_8])) := by rw [← hV_V_17, hu_n (Ne.symm ne_co_q_4)]; exact hq_4'V_14
  have hq_q_16'V_17 : V_17 q_16 = some (eSs k n F16) := by rw [← hV_V_17, hu_n (Ne.symm ne_co_q_16)]; exact hq_q_16
  have hco'V_17 : V_17 co = some (.inr (2, [.ref q_1, .int (nI n), .ref q_4, .ref q_16, .null, .int g])) := by rw [← hV_V_17]; exact hu_s
  refine lv_aload_n hx hb d_Co_init_43 rfl (lv_at hl 0 rfl) ?_
  refine lv_iload_n hx hb d_Co_init_44 rfl (lv_at hl 1 rfl) ?_
  refine rc_Q (va_runS (As := [.int (nI n)]) (rest := [.ref co]) ⟨hx, hb, hml, hown, hts⟩ (c_Co_newSheets l D N0 k V_17 n (by omega) (by omega)) (va_cwS 1 hts (gi_S wm_Co_31 wt_Co_newSheets wi_Co wc_Co_newSheets) rfl rfl rfl (by decide +kernel) ⟨Nat.le_of_ble_eq_true rfl, Nat.le_of_ble_eq_true rfl⟩) (mP.preS hG hS hV) rfl rfl hl.1 rfl (lv_room (Nat.le_of_ble_eq_true rfl)) d_Co_init_45 ⟨Nat.le_of_ble_eq_true rfl, Nat.le_of_ble_eq_true rfl⟩) hS (fun r_18 V_19 H locs hp_20 hV hS => ?_)
  obtain ⟨q_21, F21, s21, r21, L21, er21, hN21⟩ := hp_20
  subst er21
  refine W.eq (g2 := F0 m 48 ls [.ref q_21, .ref co]) rfl ?_
  have hn_q_21 := hN21.1
  have ne_q_1_q_21 : q_1 ≠ q_21 := fun z => by rw [← z, hq_1'V_17] at hn_q_21; cases hn_q_21
  have ne_q_8_q_21 : q_8 ≠ q_21 := fun z => by rw [← z, hq_8'V_17] at hn_q_21; cases hn_q_21
  have ne_q_4_q_21 : q_4 ≠ q_21 := fun z => by rw [← z, hq_4'V_17] at hn_q_21; cases hn_q_21
  have ne_q_16_q_21 : q_16 ≠ q_21 := fun z => by rw [← z, hq_q_16'V_17] at hn_q_21; cases hn_q_21
  have ne_co_q_21 : co ≠ q_21 := fun z => by rw [← z, hco'V_17] at hn_q_21; cases hn_q_21
  have hq_1'V_19 : V_19 q_1 = some (.inl (k 3, 150, .inr (.inr (.inr (.inr (fun _ => none)))))) := hN21.2.2.1 _ _ hq_1'V_17
  have hq_8'V_19 : V_19 q_8 = some (eI k 24 (fun _ => 0)) := hN21.2.2.1 _ _ hq_8'V_17
  have hq_4'V_19 : V_19 q_4 = some (.inr (3, [.ref q_8])) := hN21.2.2.1 _ _ hq_4'V_17
  have hq_q_16'V_19 : V_19 q_16 = some (eSs k n F16) := hN21.2.2.1 _ _ hq_q_16'V_17
  have hco'V_19 : V_19 co = some (.inr (2, [.ref q_1, .int (nI n), .ref q_4, .ref q_16, .null, .int g])) := hN21.2.2.1 _ _ hco'V_17
  have hq_q_21 : V_19 q_21 = some (eSs k n F21) := hN21.2.1
  refine pf_Co_39 (x := some q_21) hx hb hW hown hG hV hS hin hco'V_19 d_Co_init_48 (fun H locs hV hS => ?_)
  replace hV : hv D vwCl N0 (hu V_19 co (.inr (2, [.ref q_1, .int (nI n), .ref q_4, .ref q_16, .ref q_21, .int g]))) H := hV
  generalize hV_V_22 : hu V_19 co (.inr (2, [.ref q_1, .int (nI n), .ref q_4, .ref q_16, .ref q_21, .int g])) = V_22 at hV
  have hq_1'V_22 : V_22 q_1 = some (.inl (k 3, 150, .inr (.inr (.inr (.inr (fun _ => none)))))) := by rw [← hV_V_22, hu_n (Ne.symm ne_co_q_1)]; exact hq_1'V_19
  have hq_8'V_22 : V_22 q_8 = some (eI k 24 (fun _ => 0)) := by rw [← hV_V_22, hu_n (Ne.symm ne_co_q_8)]; exact hq_8'V_19
  have hq_4'V_22 : V_22 q_4 = some (.inr (3, [.ref q_8])) := by rw [← hV_V_22, hu_n (Ne.symm ne_co_q_4)]; exact hq_4'V_19
  have hq_q_16'V_22 : V_22 q_16 = some (eSs k n F16) := by rw [← hV_V_22, hu_n (Ne.symm ne_co_q_16)]; exact hq_q_16'V_19
  have hq_q_21'V_22 : V_22 q_21 = some (eSs k n F21) := by rw [← hV_V_22, hu_n (Ne.symm ne_co_q_21)]; exact hq_q_21
  have hco'V_22 : V_22 co = some (.inr (2, [.ref q_1, .int (nI n), .ref q_4, .ref q_16, .ref q_21, .int g])) := by rw [← hV_V_22]; exact hu_s
  have fr0 : ∀ x e, x ≠ co → V x = some e → V x = some e := fun x e _ h => h
  have no_q_1 : V q_1 = none := none_of hn_q_1 fr0 h_co
  have fr1 : ∀ x e, x ≠ co → V x = some e → V_2 x = some e := fun x e hx h => by rw [← hV_V_2, hu_n (fun z => by rw [z, no_q_1] at h; cases h)]; exact fr0 x e hx h
  have fr2 : ∀ x e, x ≠ co → V x = some e → V_3 x = some e := fun x e hx h => by rw [← hV_V_3, hu_n hx]; exact fr1 x e hx h
  have no_q_4 : V q_4 = none := none_of hn_q_4 fr2 hco'V_3
  have fr3 : ∀ x e, x ≠ co → V x = some e → V_5 x = some e := fun x e hx h => by rw [← hV_V_5, hu_n (fun z => by rw [z, no_q_4] at h; cases h)]; exact fr2 x e hx h
  have no_q_8 : V q_8 = none := none_of hn_q_8 fr3 hco'V_5
  have fr4 : ∀ x e, x ≠ co → V x = some e → V_9 x = some e := fun x e hx h => by rw [← hV_V_9, hu_n (fun z => by rw [z, no_q_8] at h; cases h)]; exact fr3 x e hx h
  have fr5 : ∀ x e, x ≠ co → V x = some e → V_6 x = some e := fun x e hx h => by rw [← hV_V_6, hu_n (fun z => by rw [z, no_q_4] at h; cases h)]; exact fr4 x e hx h
  have fr6 : ∀ x e, x ≠ co → V x = some e → V_10 x = some e := fun x e hx h => by rw [← hV_V_10, hu_n hx]; exact fr5 x e hx h
  have fr7 : ∀ x e, x ≠ co → V x = some e → V_11 x = some e := fun x e hx h => by rw [← hV_V_11, hu_n hx]; exact fr6 x e hx h
  have fr8 : ∀ x e, x ≠ co → V x = some e → V_12 x = some e := fun x e hx h => by rw [← hV_V_12, hu_n hx]; exact fr7 x e hx h
  have no_q_16 : V q_16 = none := none_of hn_q_16 fr8 hco'V_12
  have no_s16 : ∀ i, i < n → V (s16 i) = none ∧ V (r16 i) = none := fun i hi => ⟨none_of (hN16.2.2.2.1 i hi).1 fr8 hco'V_12, none_of (hN16.2.2.2.1 i hi).2.1 fr8 hco'V_12⟩
  have fr9 : ∀ x e, x ≠ co → V x = some e → V_14 x = some e := fun x e hx h => hN16.2.2.1 _ _ (fr8 x e hx h)
  have fr10 : ∀ x e, x ≠ co → V x = some e → V_17 x = some e := fun x e hx h => by rw [← hV_V_17, hu_n hx]; exact fr9 x e hx h
  have no_q_21 : V q_21 = none := none_of hn_q_21 fr10 hco'V_17
  have no_s21 : ∀ i, i < n → V (s21 i) = none ∧ V (r21 i) = none := fun i hi => ⟨none_of (hN21.2.2.2.1 i hi).1 fr10 hco'V_17, none_of (hN21.2.2.2.1 i hi).2.1 fr10 hco'V_17⟩
  have fr11 : ∀ x e, x ≠ co → V x = some e → V_19 x = some e := fun x e hx h => hN21.2.2.1 _ _ (fr10 x e hx h)
  have fr12 : ∀ x e, x ≠ co → V x = some e → V_22 x = some e := fun x e hx h => by rw [← hV_V_22, hu_n hx]; exact fr11 x e hx h
  have ah1 : ∀ x e, x ≠ co → V_14 x = some e → V_22 x = some e := fun x e hx h => by
    rw [← hV_V_22, hu_n hx]
    refine hN21.2.2.1 _ _ ?_
    rw [← hV_V_17, hu_n hx]
    exact h
  have ah2 : ∀ x e, x ≠ co → V_19 x = some e → V_22 x = some e := fun x e hx h => by
    rw [← hV_V_22, hu_n hx]
    exact h
  obtain ⟨Lf, eLf⟩ : ∃ z, z = (fun x => if x = q_1 then 5 else if x = q_4 then 8 else if x = q_8 then 9 else if (V_17 x).isNone then (if L21 x = 10 then 11 else L21 x + 20) else L16 x) := ⟨_, rfl⟩
  have hl1 : Lf q_1 = 5 := by rw [eLf]; exact if_pos rfl
  have hl2 : Lf q_4 = 8 := by rw [eLf]; show (if q_4 = q_1 then _ else _) = _; rw [if_neg (Ne.symm ne_q_1_q_4), if_pos rfl]
  have hl3 : Lf q_8 = 9 := by rw [eLf]; show (if q_8 = q_1 then _ else _) = _; rw [if_neg (Ne.symm ne_q_1_q_8), if_neg (Ne.symm ne_q_4_q_8), if_pos rfl]
  have hlo : ∀ x, x ≠ q_1 → x ≠ q_4 → x ≠ q_8 → V_17 x ≠ none → Lf x = L16 x := fun x a1 a2 a3 a4 => by rw [eLf]; simp only [if_neg a1, if_neg a2, if_neg a3]; rw [if_neg]; cases hq : V_17 x with
    | none => exact absurd hq a4
    | some e => simp
  have hln : ∀ x, x ≠ q_1 → x ≠ q_4 → x ≠ q_8 → V_17 x = none → Lf x = if L21 x = 10 then 11 else L21 x + 20 := fun x a1 a2 a3 a4 => by rw [eLf]; simp only [if_neg a1, if_neg a2, if_neg a3, a4]; rfl
  have ah0 : ∀ x e, x ≠ co → V_14 x = some e → V_17 x = some e := fun x e hx h => by
    rw [← hV_V_17, hu_n hx]
    exact h
  have hno_q_16 : Lf q_16 = 10 := (hlo _ (Ne.symm (ne_of hq_1'V_12 hn_q_16)) (Ne.symm (ne_of hq_4'V_12 hn_q_16)) (Ne.symm (ne_of hq_8'V_12 hn_q_16)) (by rw [ah0 _ _ (Ne.symm (ne_of hco'V_12 hn_q_16)) hN16.2.1]; intro q; cases q)).trans hN16.2.2.2.2
  have hno_q_21 : Lf q_21 = 11 := (hln _ (Ne.symm (ne_of hq_1'V_17 hn_q_21)) (Ne.symm (ne_of hq_4'V_17 hn_q_21)) (Ne.symm (ne_of hq_8'V_17 hn_q_21)) hn_q_21).trans (by rw [hN21.2.2.2.2]; rfl)
  have hls : ∀ i, i < n → Lf (s16 i) = 20 + i ∧ Lf (r16 i) = 30 + i ∧ Lf (s21 i) = 40 + i ∧ Lf (r21 i) = 50 + i := fun i hi => by
    obtain ⟨a1, a2, a3, a4, a5, a6, a7⟩ := hN16.2.2.2.1 i hi
    obtain ⟨b1, b2, b3, b4, b5, b6, b7⟩ := hN21.2.2.2.1 i hi
    refine ⟨(hlo _ (Ne.symm (ne_of hq_1'V_12 a1)) (Ne.symm (ne_of hq_4'V_12 a1)) (Ne.symm (ne_of hq_8'V_12 a1)) (by rw [ah0 _ _ (Ne.symm (ne_of hco'V_12 a1)) a4]; intro q; cases q)).trans a6, (hlo _ (Ne.symm (ne_of hq_1'V_12 a2)) (Ne.symm (ne_of hq_4'V_12 a2)) (Ne.symm (ne_of hq_8'V_12 a2)) (by rw [ah0 _ _ (Ne.symm (ne_of hco'V_12 a2)) a5]; intro q; cases q)).trans a7, (hln _ (Ne.symm (ne_of hq_1'V_17 b1)) (Ne.symm (ne_of hq_4'V_17 b1)) (Ne.symm (ne_of hq_8'V_17 b1)) b1).trans ?_, (hln _ (Ne.symm (ne_of hq_1'V_17 b2)) (Ne.symm (ne_of hq_4'V_17 b2)) (Ne.symm (ne_of hq_8'V_17 b2)) b2).trans ?_⟩
    · rw [b6, if_neg (by omega)]; omega
    · rw [b7, if_neg (by omega)]; omega
  have hsh9 : ∀ i, i < n → (coB q_1 q_4 q_8 q_16 q_21 F16 F21 s16 r16 s21 r21 Lf).fo i = some ((coB q_1 q_4 q_8 q_16 q_21 F16 F21 s16 r16 s21 r21 Lf).os i) ∧ V_22 ((coB q_1 q_4 q_8 q_16 q_21 F16 F21 s16 r16 s21 r21 Lf).os i) = some (eSh ((coB q_1 q_4 q_8 q_16 q_21 F16 F21 s16 r16 s21 r21 Lf).oR i)) ∧ (∃ F, V_22 ((coB q_1 q_4 q_8 q_16 q_21 F16 F21 s16 r16 s21 r21 Lf).oR i) = some (eI k 24 F)) ∧ (coB q_1 q_4 q_8 q_16 q_21 F16 F21 s16 r16 s21 r21 Lf).fs i = some ((coB q_1 q_4 q_8 q_16 q_21 F16 F21 s16 r16 s21 r21 Lf).ss i) ∧ V_22 ((coB q_1 q_4 q_8 q_16 q_21 F16 F21 s16 r16 s21 r21 Lf).ss i) = some (eSh ((coB q_1 q_4 q_8 q_16 q_21 F16 F21 s16 r16 s21 r21 Lf).sR i)) ∧ ∃ F, V_22 ((coB q_1 q_4 q_8 q_16 q_21 F16 F21 s16 r16 s21 r21 Lf).sR i) = some (eI k 24 F) := fun i hi => by
    obtain ⟨e1, e2, e3, e4, e5, e6⟩ := coB_os (ta := q_1) (ro := q_4) (rq := q_8) (on := q_16) (re := q_21) (fo := F16) (fs := F21) (os := s16) (oR := r16) (ss := s21) (sR := r21) (L := Lf) (i := i) (by omega)
    obtain ⟨a1, a2, a3, a4, a5, a6, a7⟩ := hN16.2.2.2.1 i hi
    obtain ⟨b1, b2, b3, b4, b5, b6, b7⟩ := hN21.2.2.2.1 i hi
    rw [e1, e2, e3, e4, e5, e6]
    exact ⟨a3, ah1 _ _ (Ne.symm (ne_of hco'V_12 a1)) a4, ⟨_, ah1 _ _ (Ne.symm (ne_of hco'V_12 a2)) a5⟩, b3, ah2 _ _ (Ne.symm (ne_of hco'V_17 b1)) b4, ⟨_, ah2 _ _ (Ne.symm (ne_of hco'V_17 b2)) b5⟩⟩
  have hlb9 : ∀ i, i < n → (coB q_1 q_4 q_8 q_16 q_21 F16 F21 s16 r16 s21 r21 Lf).lb ((coB q_1 q_4 q_8 q_16 q_21 F16 F21 s16 r16 s21 r21 Lf).os i) = 20 + i ∧ (coB q_1 q_4 q_8 q_16 q_21 F16 F21 s16 r16 s21 r21 Lf).lb ((coB q_1 q_4 q_8 q_16 q_21 F16 F21 s16 r16 s21 r21 Lf).oR i) = 30 + i ∧ (coB q_1 q_4 q_8 q_16 q_21 F16 F21 s16 r16 s21 r21 Lf).lb ((coB q_1 q_4 q_8 q_16 q_21 F16 F21 s16 r16 s21 r21 Lf).ss i) = 40 + i ∧ (coB q_1 q_4 q_8 q_16 q_21 F16 F21 s16 r16 s21 r21 Lf).lb ((coB q_1 q_4 q_8 q_16 q_21 F16 F21 s16 r16 s21 r21 Lf).sR i) = 50 + i := fun i hi => by
    obtain ⟨e1, e2, e3, e4, e5, e6⟩ := coB_os (ta := q_1) (ro := q_4) (rq := q_8) (on := q_16) (re := q_21) (fo := F16) (fs := F21) (os := s16) (oR := r16) (ss := s21) (sR := r21) (L := Lf) (i := i) (by omega)
    rw [e1, e2, e3, e4]; exact hls i hi
  have hno9 : ∀ i, i < n → V ((coB q_1 q_4 q_8 q_16 q_21 F16 F21 s16 r16 s21 r21 Lf).os i) = none ∧ V ((coB q_1 q_4 q_8 q_16 q_21 F16 F21 s16 r16 s21 r21 Lf).oR i) = none ∧ V ((coB q_1 q_4 q_8 q_16 q_21 F16 F21 s16 r16 s21 r21 Lf).ss i) = none ∧ V ((coB q_1 q_4 q_8 q_16 q_21 F16 F21 s16 r16 s21 r21 Lf).sR i) = none := fun i hi => by
    obtain ⟨e1, e2, e3, e4, e5, e6⟩ := coB_os (ta := q_1) (ro := q_4) (rq := q_8) (on := q_16) (re := q_21) (fo := F16) (fs := F21) (os := s16) (oR := r16) (ss := s21) (sR := r21) (L := Lf) (i := i) (by omega)
    rw [e1, e2, e3, e4]; exact ⟨(no_s16 i hi).1, (no_s16 i hi).2, (no_s21 i hi).1, (no_s21 i hi).2⟩
  have hfo9 := coB_fo (ta := q_1) (ro := q_4) (rq := q_8) (on := q_16) (re := q_21) (fo := F16) (fs := F21) (os := s16) (oR := r16) (ss := s21) (sR := r21) (L := Lf)
  exact W.vret hx hb hr (fun t9 ht hW => ⟨⟨V_22, rfl, ⟨(coB q_1 q_4 q_8 q_16 q_21 F16 F21 s16 r16 s21 r21 Lf), hco'V_22, hq_1'V_22, hq_4'V_22, ⟨_, hq_8'V_22⟩, by rw [hfo9.1]; exact hq_q_16'V_22, by rw [hfo9.2]; exact hq_q_21'V_22, hsh9, ⟨hl1, hl2, hl3, hno_q_16, hno_q_21, hlb9⟩, ⟨no_q_1, no_q_4, no_q_8, no_q_16, no_q_21, hno9⟩, fr12⟩, mB_of ht hV⟩, hS.F ht⟩) hS.2.2 d_Co_init_51
set_option maxHeartbeats 4000000 in
set_option maxRecDepth 100000 in
/-- BoardHouse(layers, gap) -/
theorem c_Ho_init (l : Launch) (D : va_G) (N0 : Nat) (k : Nat → Nat) (V : HV) (ho : Nat) (la gp : Int32) (h_ho : V ho = some (.inr (6, [.int 0, .null, .null, .null, .null, .null, .null, .null, .int 0]))) : Met l y_Ho_init (.code y_Ho_init b_Ho_init 3 none :: WS) ({ frames := 4, cells := 26, slots := 419, locals := 84 }) (mP D N0 k [.ref ho, .int la, .int gp] V) (va_Qv (fun V' => ∃ n b, 1 ≤ n ∧ n ≤ 4 ∧ lyC la = nI n ∧ b.ho = ho ∧ hsW k V' b (hs0 n (gpC gp)) ∧ ∀ x e, x ≠ ho → V x = some e → V' x = some e ∧ b.lb x = 10000) (mB D N0) (hA N0)) 26 419 (hA N0) := by
  refine Met.ofW (cc := b_Ho_init) (maxL := 3) (ret := none) (by decide) rfl ?_
  intro p e s m args below meth c s₁ B hml hv0
  obtain ⟨rfl, hG, hV⟩ := hv0
  have hx := B.exec
  have hb := B.bytes
  have hr := B.returns
  have hts := atoms_spec (ws := .code y_Ho_init b_Ho_init 3 none :: WS) B.pre
  have hW : ∀ w ∈ WS, w.before _ s = true := fun w h => hts w (List.mem_cons_of_mem _ h)
  have hown : s.vm.findClass "BoardHouse" = some m.cls := findClass_of_methodNamed B.named
  have hlocks := B.notSynchronized
  have hin : meth.name = "<init>" := (name_of_methodNamed B.named B.method).1
  have hS : va_S (hA N0) s.heap s.heap [] := va_S.rf
  have hl := lv_entry ([.ref ho, .int la, .int gp]) (n := 3) (Nat.le_of_ble_eq_true rfl)
  rw [lg_entry_eq]
  generalize (lg_sl ([.ref ho, .int la, .int gp]) ++ List.replicate (3 - (lg_sl ([.ref ho, .int la, .int gp])).length) Slot.unset).toArray = ls at hl ⊢
  have hl : lv_has ls 3 [(0, .ref ho), (1, .int la), (2, .int gp)] := hl
  refine lv_aload_n hx hb d_Ho_init_0 rfl (lv_at hl 0 rfl) ?_
  refine W.objInit hx hb hown (hW _ wm_Ho_3) (hW _ wv_JO_init) (hW _ wc_JO_init) rfl (by rw [hml]; exact hl.1) rfl d_Ho_init_1 (Nat.le_of_ble_eq_true rfl) (Nat.le_of_ble_eq_true rfl) ?_
  refine W.eq (g2 := F0 m 4 ls []) rfl ?_
  refine lv_aload_n hx hb d_Ho_init_4 rfl (lv_at hl 0 rfl) ?_
  refine hv_new (ci := 1) (fs := [.int 0, .int 0, .int 0, .int 0]) (C := R_Ar) (T := T_Ar) (N := 4) hx hb hW in_Ar t_Ar ty_Ar hown (hW _ wk_Ho_9) (hW _ wo_Ar) (hW _ wi_Ar) hG.K hV hS rfl (fun j hj => by rcases (show j = 0 ∨ j = 1 ∨ j = 2 ∨ j = 3 by omega) with rfl | rfl | rfl | rfl <;> rfl) (Nat.le_of_ble_eq_true rfl) (Nat.le_of_ble_eq_true rfl) hG.N d_Ho_init_5 (fun q_1 H hn_q_1 hN_q_1 hV hS => ?_)
  have ne_ho_q_1 : ho ≠ q_1 := fun z => by rw [← z, h_ho] at hn_q_1; cases hn_q_1
  replace hV : hv D vwCl N0 (hu V q_1 (.inr (1, [.int 0, .int 0, .int 0, .int 0]))) H := hV
  generalize hV_V_2 : hu V q_1 (.inr (1, [.int 0, .int 0, .int 0, .int 0])) = V_2 at hV
  have h_ho'V_2 : V_2 ho = some (.inr (6, [.int 0, .null, .null, .null, .null, .null, .null, .null, .int 0])) := by rw [← hV_V_2, hu_n ne_ho_q_1]; exact h_ho
  have hq_1'V_2 : V_2 q_1 = some (.inr (1, [.int 0, .int 0, .int 0, .int 0])) := by rw [← hV_V_2]; exact hu_s
  refine lv_dup hx hb d_Ho_init_8 rfl ?_
  refine lv_iconst (v := 0) hx hb d_Ho_init_9 (by decide) ?_
  refine lv_iconst (v := 0) hx hb d_Ho_init_10 (by decide) ?_
  refine lv_bipush (v := 31) hx hb d_Ho_init_11 (by decide) ?_
  refine lv_bipush (v := 23) hx hb d_Ho_init_13 (by decide) ?_
  refine rc_V (va_runI (As := [.int 0, .int 0, .int 31, .int 23]) (rest := [.ref q_1, .ref ho]) ⟨hx, hb, hml, hown, hts⟩ (c_Ar_init l D N0 k V_2 q_1 0 0 31 23 0 0 0 0 hq_1'V_2) (cwI 4 hts (gi_c wc_Ar_init) rfl rfl rfl (hW _ wi_Ar) (hW _ wm_Ho_11) (hW _ wv_Ar_init) rfl (by decide +kernel) ⟨Nat.le_of_ble_eq_true rfl, Nat.le_of_ble_eq_true rfl⟩) (mP.preS hG hS hV) rfl rfl hl.1 rfl (lv_room (Nat.le_of_ble_eq_true rfl)) d_Ho_init_15 ⟨Nat.le_of_ble_eq_true rfl, Nat.le_of_ble_eq_true rfl⟩) hS (fun V_3 H locs hp_4 hV hS => ?_)
  have hV_V_3 := hp_4.symm
  have h_ho'V_3 : V_3 ho = some (.inr (6, [.int 0, .null, .null, .null, .null, .null, .null, .null, .int 0])) := by rw [← hV_V_3, hu_n ne_ho_q_1]; exact h_ho'V_2
  have hq_1'V_3 : V_3 q_1 = some (eAr 0 0 31 23) := by rw [← hV_V_3]; exact hu_s
  refine pf_Ho_14 (x := some q_1) hx hb hW hown hG hV hS hin h_ho'V_3 d_Ho_init_18 (fun H locs hV hS => ?_)
  replace hV : hv D vwCl N0 (hu V_3 ho (.inr (6, [.int 0, .ref q_1, .null, .null, .null, .null, .null, .null, .int 0]))) H := hV
  generalize hV_V_5 : hu V_3 ho (.inr (6, [.int 0, .ref q_1, .null, .null, .null, .null, .null, .null, .int 0])) = V_5 at hV
  have hq_1'V_5 : V_5 q_1 = some (.inr (1, [.int 0, .int 0, .int 31, .int 23])) := by rw [← hV_V_5, hu_n (Ne.symm ne_ho_q_1)]; exact hq_1'V_3
  have hho'V_5 : V_5 ho = some (.inr (6, [.int 0, .ref q_1, .null, .null, .null, .null, .null, .null, .int 0])) := by rw [← hV_V_5]; exact hu_s
  refine lv_aload_n hx hb d_Ho_init_21 rfl (lv_at hl 0 rfl) ?_
  refine lv_bipush (v := 8) hx hb d_Ho_init_22 (by decide) ?_
  refine hv_newa (atype := .int) (a0 := (8, .inl (fun _ => 0))) hx hb (hW _ wa_int) rfl hG.K hV hS 0 rfl (fun cA h => h) (fun _ => rfl) (by decide) (by decide) (by decide) (Nat.le_of_ble_eq_true rfl) (Nat.le_of_ble_eq_true rfl) hG.N d_Ho_init_24 (fun q_6 H hn_q_6 hN_q_6 hV hS => ?_)
  have ne_q_1_q_6 : q_1 ≠ q_6 := fun z => by rw [← z, hq_1'V_5] at hn_q_6; cases hn_q_6
  have ne_ho_q_6 : ho ≠ q_6 := fun z => by rw [← z, hho'V_5] at hn_q_6; cases hn_q_6
  replace hV : hv D vwCl N0 (hu V_5 q_6 (eI k 8 (fun _ => 0))) H := hV
  generalize hV_V_7 : hu V_5 q_6 (eI k 8 (fun _ => 0)) = V_7 at hV
  have hq_1'V_7 : V_7 q_1 = some (.inr (1, [.int 0, .int 0, .int 31, .int 23])) := by rw [← hV_V_7, hu_n ne_q_1_q_6]; exact hq_1'V_5
  have hho'V_7 : V_7 ho = some (.inr (6, [.int 0, .ref q_1, .null, .null, .null, .null, .null, .null, .int 0])) := by rw [← hV_V_7, hu_n ne_ho_q_6]; exact hho'V_5
  have hq_6'V_7 : V_7 q_6 = some (eI k 8 (fun _ => 0)) := by rw [← hV_V_7]; exact hu_s
  refine pf_Ho_18 (x := some q_6) hx hb hW hown hG hV hS hin hho'V_7 d_Ho_init_26 (fun H locs hV hS => ?_)
  replace hV : hv D vwCl N0 (hu V_7 ho (.inr (6, [.int 0, .ref q_1, .ref q_6, .null, .null, .null, .null, .null, .int 0]))) H := hV
  generalize hV_V_8 : hu V_7 ho (.inr (6, [.int 0, .ref q_1, .ref q_6, .null, .null, .null, .null, .null, .int 0])) = V_8 at hV
  have hq_1'V_8 : V_8 q_1 = some (.inr (1, [.int 0, .int 0, .int 31, .int 23])) := by rw [← hV_V_8, hu_n (Ne.symm ne_ho_q_1)]; exact hq_1'V_7
  have hq_6'V_8 : V_8 q_6 = some (eI k 8 (fun _ => 0)) := by rw [← hV_V_8, hu_n (Ne.symm ne_ho_q_6)]; exact hq_6'V_7
  have hho'V_8 : V_8 ho = some (.inr (6, [.int 0, .ref q_1, .ref q_6, .null, .null, .null, .null, .null, .int 0])) := by rw [← hV_V_8]; exact hu_s
  refine lv_aload_n hx hb d_Ho_init_29 rfl (lv_at hl 0 rfl) ?_
  refine va_gets hx hb hG.2.2.2.2.1.1 hS hown (hW _ wf_Ho_22) (fun _ h => h) d_Ho_init_30 ?_
  refine lv_bipush (v := 6) hx hb d_Ho_init_33 (by decide) ?_
  refine va_ti (v := .int (limV 6)) hx hb hG.2.2.2.2.1.2 hS ((vp_in_nI (by omega) (by omega) : vp_in (nI 6) 8)) (rfl) d_Ho_init_35 ?_
  refine hv_newq (N' := 10) hx hb hown (hW _ wk_Ho_25) hG.2.2.2.1.2.1 hG.K hV hS 4 rfl (by decide) rfl (by omega) (Nat.le_of_ble_eq_true rfl) (Nat.le_of_ble_eq_true rfl) hG.N d_Ho_init_36 (fun q_9 H hn_q_9 hN_q_9 hV hS => ?_)
  have ne_q_1_q_9 : q_1 ≠ q_9 := fun z => by rw [← z, hq_1'V_8] at hn_q_9; cases hn_q_9
  have ne_q_6_q_9 : q_6 ≠ q_9 := fun z => by rw [← z, hq_6'V_8] at hn_q_9; cases hn_q_9
  have ne_ho_q_9 : ho ≠ q_9 := fun z => by rw [← z, hho'V_8] at hn_q_9; cases hn_q_9
  replace hV : hv D vwCl N0 (hu V_8 q_9 (.inl (k 4, 10, .inr (.inr (.inr (.inr (fun _ => none))))))) H := hV
  generalize hV_V_10 : hu V_8 q_9 (.inl (k 4, 10, .inr (.inr (.inr (.inr (fun _ => none)))))) = V_10 at hV
  have hq_1'V_10 : V_10 q_1 = some (.inr (1, [.int 0, .int 0, .int 31, .int 23])) := by rw [← hV_V_10, hu_n ne_q_1_q_9]; exact hq_1'V_8
  have hq_6'V_10 : V_10 q_6 = some (eI k 8 (fun _ => 0)) := by rw [← hV_V_10, hu_n ne_q_6_q_9]; exact hq_6'V_8
  have hho'V_10 : V_10 ho = some (.inr (6, [.int 0, .ref q_1, .ref q_6, .null, .null, .null, .null, .null, .int 0])) := by rw [← hV_V_10, hu_n ne_ho_q_9]; exact hho'V_8
  have hq_9'V_10 : V_10 q_9 = some (.inl (k 4, 10, .inr (.inr (.inr (.inr (fun _ => none)))))) := by rw [← hV_V_10]; exact hu_s
  refine pf_Ho_27 (x := some q_9) hx hb hW hown hG hV hS hin hho'V_10 d_Ho_init_39 (fun H locs hV hS => ?_)
  replace hV : hv D vwCl N0 (hu V_10 ho (.inr (6, [.int 0, .ref q_1, .ref q_6, .null, .null, .ref q_9, .null, .null, .int 0]))) H := hV
  generalize hV_V_11 : hu V_10 ho (.inr (6, [.int 0, .ref q_1, .ref q_6, .null, .null, .ref q_9, .null, .null, .int 0])) = V_11 at hV
  have hq_1'V_11 : V_11 q_1 = some (.inr (1, [.int 0, .int 0, .int 31, .int 23])) := by rw [← hV_V_11, hu_n (Ne.symm ne_ho_q_1)]; exact hq_1'V_10
  have hq_6'V_11 : V_11 q_6 = some (eI k 8 (fun _ => 0)) := by rw [← hV_V_11, hu_n (Ne.symm ne_ho_q_6)]; exact hq_6'V_10
  have hq_9'V_11 : V_11 q_9 = some (.inl (k 4, 10, .inr (.inr (.inr (.inr (fun _ => none)))))) := by rw [← hV_V_11, hu_n (Ne.symm ne_ho_q_9)]; exact hq_9'V_10
  have hho'V_11 : V_11 ho = some (.inr (6, [.int 0, .ref q_1, .ref q_6, .null, .null, .ref q_9, .null, .null, .int 0])) := by rw [← hV_V_11]; exact hu_s
  refine lv_aload_n hx hb d_Ho_init_42 rfl (lv_at hl 0 rfl) ?_
  refine va_gets hx hb hG.2.2.2.2.1.1 hS hown (hW _ wf_Ho_22) (fun _ h => h) d_Ho_init_43 ?_
  refine lv_bipush (v := 7) hx hb d_Ho_init_46 (by decide) ?_
  refine va_ti (v := .int (limV 7)) hx hb hG.2.2.2.2.1.2 hS ((vp_in_nI (by omega) (by omega) : vp_in (nI 7) 8)) (rfl) d_Ho_init_48 ?_
  refine hv_newq (N' := 8) hx hb hown (hW _ wk_Ho_31) hG.2.2.2.1.2.2.1 hG.K hV hS 5 rfl (by decide) rfl (by omega) (Nat.le_of_ble_eq_true rfl) (Nat.le_of_ble_eq_true rfl) hG.N d_Ho_init_49 (fun q_12 H hn_q_12 hN_q_12 hV hS => ?_)
  have ne_q_1_q_12 : q_1 ≠ q_12 := fun z => by rw [← z, hq_1'V_11] at hn_q_12; cases hn_q_12
  have ne_q_6_q_12 : q_6 ≠ q_12 := fun z => by rw [← z, hq_6'V_11] at hn_q_12; cases hn_q_12
  have ne_q_9_q_12 : q_9 ≠ q_12 := fun z => by rw [← z, hq_9'V_11] at hn_q_12; cases hn_q_12
  have ne_ho_q_12 : ho ≠ q_12 := fun z => by rw [← z, hho'V_11] at hn_q_12; cases hn_q_12
  replace hV : hv D vwCl N0 (hu V_11 q_12 (.inl (k 5, 8, .inr (.inr (.inr (.inr (fun _ => none))))))) H := hV
  generalize hV_V_13 : hu V_11 q_12 (.inl (k 5, 8, .inr (.inr (.inr (.inr (fun _ => none)))))) = V_13 at hV
  have hq_1'V_13 : V_13 q_1 = some (.inr (1, [.int 0, .int 0, .int 31, .int 23])) := by rw [← hV_V_13, hu_n ne_q_1_q_12]; exact hq_1'V_11
  have hq_6'V_13 : V_13 q_6 = some (eI k 8 (fun _ => 0)) := by rw [← hV_V_13, hu_n ne_q_6_q_12]; exact hq_6'V_11
  have hq_9'V_13 : V_13 q_9 = some (.inl (k 4, 10, .inr (.inr (.inr (.inr (fun _ => none)))))) := by rw [← hV_V_13, hu_n ne_q_9_q_12]; exact hq_9'V_11
  have hho'V_13 : V_13 ho = some (.inr (6, [.int 0, .ref q_1, .ref q_6, .null, .null, .ref q_9, .null, .null, .int 0])) := by rw [← hV_V_13, hu_n ne_ho_q_12]; exact hho'V_11
  have hq_12'V_13 : V_13 q_12 = some (.inl (k 5, 8, .inr (.inr (.inr (.inr (fun _ => none)))))) := by rw [← hV_V_13]; exact hu_s
  refine pf_Ho_33 (x := some q_12) hx hb hW hown hG hV hS hin hho'V_13 d_Ho_init_52 (fun H locs hV hS => ?_)
  replace hV : hv D vwCl N0 (hu V_13 ho (.inr (6, [.int 0, .ref q_1, .ref q_6, .null, .null, .ref q_9, .ref q_12, .null, .int 0]))) H := hV
  generalize hV_V_14 : hu V_13 ho (.inr (6, [.int 0, .ref q_1, .ref q_6, .null, .null, .ref q_9, .ref q_12, .null, .int 0])) = V_14 at hV
  have hq_1'V_14 : V_14 q_1 = some (.inr (1, [.int 0, .int 0, .int 31, .int 23])) := by rw [← hV_V_14, hu_n (Ne.symm ne_ho_q_1)]; exact hq_1'V_13
  have hq_6'V_14 : V_14 q_6 = some (eI k 8 (fun _ => 0)) := by rw [← hV_V_14, hu_n (Ne.symm ne_ho_q_6)]; exact hq_6'V_13
  have hq_9'V_14 : V_14 q_9 = some (.inl (k 4, 10, .inr (.inr (.inr (.inr (fun _ => none)))))) := by rw [← hV_V_14, hu_n (Ne.symm ne_ho_q_9)]; exact hq_9'V_13
  have hq_12'V_14 : V_14 q_12 = some (.inl (k 5, 8, .inr (.inr (.inr (.inr (fun _ => none)))))) := by rw [← hV_V_14, hu_n (Ne.symm ne_ho_q_12)]; exact hq_12'V_13
  have hho'V_14 : V_14 ho = some (.inr (6, [.int 0, .ref q_1, .ref q_6, .null, .null, .ref q_9, .ref q_12, .null, .int 0])) := by rw [← hV_V_14]; exact hu_s
  refine lv_aload_n hx hb d_Ho_init_55 rfl (lv_at hl 0 rfl) ?_
  refine lv_null hx hb d_Ho_init_56 ?_
  refine pf_Ho_37 (x := none) hx hb hW hown hG hV hS hho'V_14 d_Ho_init_57 (fun H locs hV hS => ?_)
  replace hV : hv D vwCl N0 (hu V_14 ho (.inr (6, [.int 0, .ref q_1, .ref q_6, .null, .null, .ref q_9, .ref q_12, .null, .int 0]))) H := hV
  generalize hV_V_15 : hu V_14 ho (.inr (6, [.int 0, .ref q_1, .ref q_6, .null, .null, .ref q_9, .ref q_12, .null, .int 0])) = V_15 at hV
  have hq_1'V_15 : V_15 q_1 = some (.inr (1, [.int 0, .int 0, .int 31, .int 23])) := by rw [← hV_V_15, hu_n (Ne.symm ne_ho_q_1)]; exact hq_1'V_14
  have hq_6'V_15 : V_15 q_6 = some (eI k 8 (fun _ => 0)) := by rw [← hV_V_15, hu_n (Ne.symm ne_ho_q_6)]; exact hq_6'V_14
  have hq_9'V_15 : V_15 q_9 = some (.inl (k 4, 10, .inr (.inr (.inr (.inr (fun _ => none)))))) := by rw [← hV_V_15, hu_n (Ne.symm ne_ho_q_9)]; exact hq_9'V_14
  have hq_12'V_15 : V_15 q_12 = some (.inl (k 5, 8, .inr (.inr (.inr (.inr (fun _ => none)))))) := by rw [← hV_V_15, hu_n (Ne.symm ne_ho_q_12)]; exact hq_12'V_14
  have hho'V_15 : V_15 ho = some (.inr (6, [.int 0, .ref q_1, .ref q_6, .null, .null, .ref q_9, .ref q_12, .null, .int 0])) := by rw [← hV_V_15]; exact hu_s
  refine lv_aload_n hx hb d_Ho_init_60 rfl (lv_at hl 0 rfl) ?_
  refine lv_iconst (v := 0) hx hb d_Ho_init_61 (by decide) ?_
  refine pf_Ho_41 hx hb hW hown hG hV hS hho'V_15 d_Ho_init_62 (fun H locs hV hS => ?_)
  replace hV : hv D vwCl N0 (hu V_15 ho (.inr (6, [.int 0, .ref q_1, .ref q_6, .null, .null, .ref q_9, .ref q_12, .null, .int 0]))) H := hV
  generalize hV_V_16 : hu V_15 ho (.inr (6, [.int 0, .ref q_1, .ref q_6, .null, .null, .ref q_9, .ref q_12, .null, .int 0])) = V_16 at hV
  have hq_1'V_16 : V_16 q_1 = some (.inr (1, [.int 0, .int 0, .int 31, .int 23])) := by rw [← hV_V_16, hu_n (Ne.symm ne_ho_q_1)]; exact hq_1'V_15
  have hq_6'V_16 : V_16 q_6 = some (eI k 8 (fun _ => 0)) := by rw [← hV_V_16, hu_n (Ne.symm ne_ho_q_6)]; exact hq_6'V_15
  have hq_9'V_16 : V_16 q_9 = some (.inl (k 4, 10, .inr (.inr (.inr (.inr (fun _ => none)))))) := by rw [← hV_V_16, hu_n (Ne.symm ne_ho_q_9)]; exact hq_9'V_15
  have hq_12'V_16 : V_16 q_12 = some (.inl (k 5, 8, .inr (.inr (.inr (.inr (fun _ => none)))))) := by rw [← hV_V_16, hu_n (Ne.symm ne_ho_q_12)]; exact hq_12'V_15
  have hho'V_16 : V_16 ho = some (.inr (6, [.int 0, .ref q_1, .ref q_6, .null, .null, .ref q_9, .ref q_12, .null, .int 0])) := by rw [← hV_V_16]; exact hu_s
  refine lv_aload_n hx hb d_Ho_init_65 rfl (lv_at hl 0 rfl) ?_
  refine lv_iconst (v := 1) hx hb d_Ho_init_66 (by decide) ?_
  refine lv_iconst (v := 4) hx hb d_Ho_init_67 (by decide) ?_
  refine lv_iload_n hx hb d_Ho_init_68 rfl (lv_at hl 1 rfl) ?_
  refine va_mmin hx hb (by rw [hml, hl.1]) hown (hW _ wm_Ho_45) (hW _ wt_JM_min) (hW _ wi_JM) (hW _ wc_JM_min) (Nat.le_of_ble_eq_true rfl) (Nat.le_of_ble_eq_true rfl) (Nat.le_of_ble_eq_true rfl) (Nat.le_of_ble_eq_true rfl) d_Ho_init_69 ?_
  refine lv_topi (fun z_17 ez_17 => ?_)
  refine va_mmax hx hb (by rw [hml, hl.1]) hown (hW _ wm_Ho_51) (hW _ wt_JM_max) (hW _ wi_JM) (hW _ wc_JM_max) (Nat.le_of_ble_eq_true rfl) (Nat.le_of_ble_eq_true rfl) (Nat.le_of_ble_eq_true rfl) (Nat.le_of_ble_eq_true rfl) d_Ho_init_72 ?_
  refine lv_topi (fun z_18 ez_18 => ?_)
  obtain ⟨n, h1, h4, en⟩ := ly_n la
  have ez9 : z_18 = nI n := by rw [ez_18, ez_17]; exact en
  rw [ez9]
  refine W.eq (g2 := F0 m 75 ls [.int (nI n), .ref ho]) rfl ?_
  refine pf_Ho_54 hx hb hW hown hG hV hS hin hho'V_16 d_Ho_init_75 (fun H locs hV hS => ?_)
  replace hV : hv D vwCl N0 (hu V_16 ho (.inr (6, [.int (nI n), .ref q_1, .ref q_6, .null, .null, .ref q_9, .ref q_12, .null, .int 0]))) H := hV
  generalize hV_V_19 : hu V_16 ho (.inr (6, [.int (nI n), .ref q_1, .ref q_6, .null, .null, .ref q_9, .ref q_12, .null, .int 0])) = V_19 at hV
  have hq_1'V_19 : V_19 q_1 = some (.inr (1, [.int 0, .int 0, .int 31, .int 23])) := by rw [← hV_V_19, hu_n (Ne.symm ne_ho_q_1)]; exact hq_1'V_16
  have hq_6'V_19 : V_19 q_6 = some (eI k 8 (fun _ => 0)) := by rw [← hV_V_19, hu_n (Ne.symm ne_ho_q_6)]; exact hq_6'V_16
  have hq_9'V_19 : V_19 q_9 = some (.inl (k 4, 10, .inr (.inr (.inr (.inr (fun _ => none)))))) := by rw [← hV_V_19, hu_n (Ne.symm ne_ho_q_9)]; exact hq_9'V_16
  have hq_12'V_19 : V_19 q_12 = some (.inl (k 5, 8, .inr (.inr (.inr (.inr (fun _ => none)))))) := by rw [← hV_V_19, hu_n (Ne.symm ne_ho_q_12)]; exact hq_12'V_16
  have hho'V_19 : V_19 ho = some (.inr (6, [.int (nI n), .ref q_1, .ref q_6, .null, .null, .ref q_9, .ref q_12, .null, .int 0])) := by rw [← hV_V_19]; exact hu_s
  refine lv_aload_n hx hb d_Ho_init_78 rfl (lv_at hl 0 rfl) ?_
  refine hv_new (ci := 2) (fs := [.null, .int 0, .null, .null, .null, .int 0]) (C := R_Co) (T := T_Co) (N := 6) hx hb hW in_Co t_Co ty_Co hown (hW _ wk_Ho_57) (hW _ wo_Co) (hW _ wi_Co) hG.K hV hS rfl (fun j hj => by rcases (show j = 0 ∨ j = 1 ∨ j = 2 ∨ j = 3 ∨ j = 4 ∨ j = 5 by omega) with rfl | rfl | rfl | rfl | rfl | rfl <;> rfl) (Nat.le_of_ble_eq_true rfl) (Nat.le_of_ble_eq_true rfl) hG.N d_Ho_init_79 (fun q_20 H hn_q_20 hN_q_20 hV hS => ?_)
  have ne_q_1_q_20 : q_1 ≠ q_20 := fun z => by rw [← z, hq_1'V_19] at hn_q_20; cases hn_q_20
  have ne_q_6_q_20 : q_6 ≠ q_20 := fun z => by rw [← z, hq_6'V_19] at hn_q_20; cases hn_q_20
  have ne_q_9_q_20 : q_9 ≠ q_20 := fun z => by rw [← z, hq_9'V_19] at hn_q_20; cases hn_q_20
  have ne_q_12_q_20 : q_12 ≠ q_20 := fun z => by rw [← z, hq_12'V_19] at hn_q_20; cases hn_q_20
  have ne_ho_q_20 : ho ≠ q_20 := fun z => by rw [← z, hho'V_19] at hn_q_20; cases hn_q_20
  replace hV : hv D vwCl N0 (hu V_19 q_20 (.inr (2, [.null, .int 0, .null, .null, .null, .int 0]))) H := hV
  generalize hV_V_21 : hu V_19 q_20 (.inr (2, [.null, .int 0, .null, .null, .null, .int 0])) = V_21 at hV
  have hq_1'V_21 : V_21 q_1 = some (.inr (1, [.int 0, .int 0, .int 31, .int 23])) := by rw [← hV_V_21, hu_n ne_q_1_q_20]; exact hq_1'V_19
  have hq_6'V_21 : V_21 q_6 = some (eI k 8 (fun _ => 0)) := by rw [← hV_V_21, hu_n ne_q_6_q_20]; exact hq_6'V_19
  have hq_9'V_21 : V_21 q_9 = some (.inl (k 4, 10, .inr (.inr (.inr (.inr (fun _ => none)))))) := by rw [← hV_V_21, hu_n ne_q_9_q_20]; exact hq_9'V_19
  have hq_12'V_21 : V_21 q_12 = some (.inl (k 5, 8, .inr (.inr (.inr (.inr (fun _ => none)))))) := by rw [← hV_V_21, hu_n ne_q_12_q_20]; exact hq_12'V_19
  have hho'V_21 : V_21 ho = some (.inr (6, [.int (nI n), .ref q_1, .ref q_6, .null, .null, .ref q_9, .ref q_12, .null, .int 0])) := by rw [← hV_V_21, hu_n ne_ho_q_20]; exact hho'V_19
  have hq_20'V_21 : V_21 q_20 = some (.inr (2, [.null, .int 0, .null, .null, .null, .int 0])) := by rw [← hV_V_21]; exact hu_s
  refine lv_dup hx hb d_Ho_init_82 rfl ?_
  refine lv_aload_n hx hb d_Ho_init_83 rfl (lv_at hl 0 rfl) ?_
  refine gf_Ho_54 hx hb hW hown hG hV hho'V_21 d_Ho_init_84 ?_
  refine lv_iconst (v := 0) hx hb d_Ho_init_87 (by decide) ?_
  refine lv_iconst (v := 4) hx hb d_Ho_init_88 (by decide) ?_
  refine lv_iload_n hx hb d_Ho_init_89 rfl (lv_at hl 2 rfl) ?_
  refine va_mmin hx hb (by rw [hml, hl.1]) hown (hW _ wm_Ho_45) (hW _ wt_JM_min) (hW _ wi_JM) (hW _ wc_JM_min) (Nat.le_of_ble_eq_true rfl) (Nat.le_of_ble_eq_true rfl) (Nat.le_of_ble_eq_true rfl) (Nat.le_of_ble_eq_true rfl) d_Ho_init_90 ?_
  refine lv_topi (fun z_22 ez_22 => ?_)
  refine va_mmax hx hb (by rw [hml, hl.1]) hown (hW _ wm_Ho_51) (hW _ wt_JM_max) (hW _ wi_JM) (hW _ wc_JM_max) (Nat.le_of_ble_eq_true rfl) (Nat.le_of_ble_eq_true rfl) (Nat.le_of_ble_eq_true rfl) (Nat.le_of_ble_eq_true rfl) d_Ho_init_93 ?_
  refine lv_topi (fun z_23 ez_23 => ?_)
  have ez8 : z_23 = gpC gp := by rw [ez_23, ez_22]; rfl
  rw [ez8]
  refine W.eq (g2 := F0 m 96 ls [.int (gpC gp), .int (nI n), .ref q_20, .ref q_20, .ref ho]) rfl ?_
  refine rc_V (va_runI (As := [.int (nI n), .int (gpC gp)]) (rest := [.ref q_20, .ref ho]) ⟨hx, hb, hml, hown, hts⟩ (c_Co_init l D N0 k V_21 q_20 n (gpC gp) h1 h4 hq_20'V_21) (cwI 2 hts (gi_c wc_Co_init) rfl rfl rfl (hW _ wi_Co) (hW _ wm_Ho_59) (hW _ wv_Co_init) rfl (by decide +kernel) ⟨Nat.le_of_ble_eq_true rfl, Nat.le_of_ble_eq_true rfl⟩) (mP.preS hG hS hV) rfl rfl hl.1 rfl (lv_room (Nat.le_of_ble_eq_true rfl)) d_Ho_init_96 ⟨Nat.le_of_ble_eq_true rfl, Nat.le_of_ble_eq_true rfl⟩) hS (fun V_24 H locs hp_25 hV hS => ?_)
  obtain ⟨b, hcN⟩ := hp_25
  have hq_1'V_24 : V_24 q_1 = some (.inr (1, [.int 0, .int 0, .int 31, .int 23])) := hcN.2.2.2.2.2.2.2.2.2 _ _ ne_q_1_q_20 hq_1'V_21
  have hq_6'V_24 : V_24 q_6 = some (eI k 8 (fun _ => 0)) := hcN.2.2.2.2.2.2.2.2.2 _ _ ne_q_6_q_20 hq_6'V_21
  have hq_9'V_24 : V_24 q_9 = some (.inl (k 4, 10, .inr (.inr (.inr (.inr (fun _ => none)))))) := hcN.2.2.2.2.2.2.2.2.2 _ _ ne_q_9_q_20 hq_9'V_21
  have hq_12'V_24 : V_24 q_12 = some (.inl (k 5, 8, .inr (.inr (.inr (.inr (fun _ => none)))))) := hcN.2.2.2.2.2.2.2.2.2 _ _ ne_q_12_q_20 hq_12'V_21
  have hho'V_24 : V_24 ho = some (.inr (6, [.int (nI n), .ref q_1, .ref q_6, .null, .null, .ref q_9, .ref q_12, .null, .int 0])) := hcN.2.2.2.2.2.2.2.2.2 _ _ ne_ho_q_20 hho'V_21
  refine pf_Ho_62 (x := some q_20) hx hb hW hown hG hV hS hin hho'V_24 d_Ho_init_99 (fun H locs hV hS => ?_)
  replace hV : hv D vwCl N0 (hu V_24 ho (.inr (6, [.int (nI n), .ref q_1, .ref q_6, .ref q_20, .null, .ref q_9, .ref q_12, .null, .int 0]))) H := hV
  generalize hV_V_26 : hu V_24 ho (.inr (6, [.int (nI n), .ref q_1, .ref q_6, .ref q_20, .null, .ref q_9, .ref q_12, .null, .int 0])) = V_26 at hV
  have hq_1'V_26 : V_26 q_1 = some (.inr (1, [.int 0, .int 0, .int 31, .int 23])) := by rw [← hV_V_26, hu_n (Ne.symm ne_ho_q_1)]; exact hq_1'V_24
  have hq_6'V_26 : V_26 q_6 = some (eI k 8 (fun _ => 0)) := by rw [← hV_V_26, hu_n (Ne.symm ne_ho_q_6)]; exact hq_6'V_24
  have hq_9'V_26 : V_26 q_9 = some (.inl (k 4, 10, .inr (.inr (.inr (.inr (fun _ => none)))))) := by rw [← hV_V_26, hu_n (Ne.symm ne_ho_q_9)]; exact hq_9'V_24
  have hq_12'V_26 : V_26 q_12 = some (.inl (k 5, 8, .inr (.inr (.inr (.inr (fun _ => none)))))) := by rw [← hV_V_26, hu_n (Ne.symm ne_ho_q_12)]; exact hq_12'V_24
  have hcN_1'V_26 : V_26 q_20 = some (.inr (2, [.ref b.ta, .int (nI n), .ref b.ro, .ref b.on, .ref b.re, .int (gpC gp)])) := by rw [← hV_V_26, hu_n (Ne.symm ne_ho_q_20)]; exact hcN.1
  have hho'V_26 : V_26 ho = some (.inr (6, [.int (nI n), .ref q_1, .ref q_6, .ref q_20, .null, .ref q_9, .ref q_12, .null, .int 0])) := by rw [← hV_V_26]; exact hu_s
  refine lv_aload_n hx hb d_Ho_init_102 rfl (lv_at hl 0 rfl) ?_
  refine lv_aload_n hx hb d_Ho_init_103 rfl (lv_at hl 0 rfl) ?_
  refine gf_Ho_62 hx hb hW hown hG hV hho'V_26 d_Ho_init_104 ?_
  refine gf_Ho_66 hx hb hW hown hG hV hcN_1'V_26 d_Ho_init_107 ?_
  refine pf_Ho_70 (x := some b.ta) hx hb hW hown hG hV hS hin hho'V_26 d_Ho_init_110 (fun H locs hV hS => ?_)
  replace hV : hv D vwCl N0 (hu V_26 ho (.inr (6, [.int (nI n), .ref q_1, .ref q_6, .ref q_20, .ref b.ta, .ref q_9, .ref q_12, .null, .int 0]))) H := hV
  generalize hV_V_27 : hu V_26 ho (.inr (6, [.int (nI n), .ref q_1, .ref q_6, .ref q_20, .ref b.ta, .ref q_9, .ref q_12, .null, .int 0])) = V_27 at hV
  have hq_1'V_27 : V_27 q_1 = some (.inr (1, [.int 0, .int 0, .int 31, .int 23])) := by rw [← hV_V_27, hu_n (Ne.symm ne_ho_q_1)]; exact hq_1'V_26
  have hq_6'V_27 : V_27 q_6 = some (eI k 8 (fun _ => 0)) := by rw [← hV_V_27, hu_n (Ne.symm ne_ho_q_6)]; exact hq_6'V_26
  have hq_9'V_27 : V_27 q_9 = some (.inl (k 4, 10, .inr (.inr (.inr (.inr (fun _ => none)))))) := by rw [← hV_V_27, hu_n (Ne.symm ne_ho_q_9)]; exact hq_9'V_26
  have hq_12'V_27 : V_27 q_12 = some (.inl (k 5, 8, .inr (.inr (.inr (.inr (fun _ => none)))))) := by rw [← hV_V_27, hu_n (Ne.symm ne_ho_q_12)]; exact hq_12'V_26
  have hcN_1'V_27 : V_27 q_20 = some (.inr (2, [.ref b.ta, .int (nI n), .ref b.ro, .ref b.on, .ref b.re, .int (gpC gp)])) := by rw [← hV_V_27, hu_n (Ne.symm ne_ho_q_20)]; exact hcN_1'V_26
  have hho'V_27 : V_27 ho = some (.inr (6, [.int (nI n), .ref q_1, .ref q_6, .ref q_20, .ref b.ta, .ref q_9, .ref q_12, .null, .int 0])) := by rw [← hV_V_27]; exact hu_s
  have fr0 : ∀ x e, x ≠ ho → V x = some e → V x = some e := fun x e _ h => h
  have no_q_1 : V q_1 = none := none_of hn_q_1 fr0 h_ho
  have fr1 : ∀ x e, x ≠ ho → V x = some e → V_2 x = some e := fun x e hx h => by rw [← hV_V_2, hu_n (fun z => by rw [z, no_q_1] at h; cases h)]; exact fr0 x e hx h
  have fr2 : ∀ x e, x ≠ ho → V x = some e → V_3 x = some e := fun x e hx h => by rw [← hV_V_3, hu_n (fun z => by rw [z, no_q_1] at h; cases h)]; exact fr1 x e hx h
  have fr3 : ∀ x e, x ≠ ho → V x = some e → V_5 x = some e := fun x e hx h => by rw [← hV_V_5, hu_n hx]; exact fr2 x e hx h
  have no_q_6 : V q_6 = none := none_of hn_q_6 fr3 hho'V_5
  have fr4 : ∀ x e, x ≠ ho → V x = some e → V_7 x = some e := fun x e hx h => by rw [← hV_V_7, hu_n (fun z => by rw [z, no_q_6] at h; cases h)]; exact fr3 x e hx h
  have fr5 : ∀ x e, x ≠ ho → V x = some e → V_8 x = some e := fun x e hx h => by rw [← hV_V_8, hu_n hx]; exact fr4 x e hx h
  have no_q_9 : V q_9 = none := none_of hn_q_9 fr5 hho'V_8
  have fr6 : ∀ x e, x ≠ ho → V x = some e → V_10 x = some e := fun x e hx h => by rw [← hV_V_10, hu_n (fun z => by rw [z, no_q_9] at h; cases h)]; exact fr5 x e hx h
  have fr7 : ∀ x e, x ≠ ho → V x = some e → V_11 x = some e := fun x e hx h => by rw [← hV_V_11, hu_n hx]; exact fr6 x e hx h
  have no_q_12 : V q_12 = none := none_of hn_q_12 fr7 hho'V_11
  have fr8 : ∀ x e, x ≠ ho → V x = some e → V_13 x = some e := fun x e hx h => by rw [← hV_V_13, hu_n (fun z => by rw [z, no_q_12] at h; cases h)]; exact fr7 x e hx h
  have fr9 : ∀ x e, x ≠ ho → V x = some e → V_14 x = some e := fun x e hx h => by rw [← hV_V_14, hu_n hx]; exact fr8 x e hx h
  have fr10 : ∀ x e, x ≠ ho → V x = some e → V_15 x = some e := fun x e hx h => by rw [← hV_V_15, hu_n hx]; exact fr9 x e hx h
  have fr11 : ∀ x e, x ≠ ho → V x = some e → V_16 x = some e := fun x e hx h => by rw [← hV_V_16, hu_n hx]; exact fr10 x e hx h
  have fr12 : ∀ x e, x ≠ ho → V x = some e → V_19 x = some e := fun x e hx h => by rw [← hV_V_19, hu_n hx]; exact fr11 x e hx h
  have no_q_20 : V q_20 = none := none_of hn_q_20 fr12 hho'V_19
  have fr13 : ∀ x e, x ≠ ho → V x = some e → V_21 x = some e := fun x e hx h => by rw [← hV_V_21, hu_n (fun z => by rw [z, no_q_20] at h; cases h)]; exact fr12 x e hx h
  have fr14 : ∀ x e, x ≠ ho → V x = some e → V_24 x = some e := fun x e hx h => hcN.2.2.2.2.2.2.2.2.2 _ _ (fun z => by rw [z, no_q_20] at h; cases h) (fr13 x e hx h)
  have fr15 : ∀ x e, x ≠ ho → V x = some e → V_26 x = some e := fun x e hx h => by rw [← hV_V_26, hu_n hx]; exact fr14 x e hx h
  have fr16 : ∀ x e, x ≠ ho → V x = some e → V_27 x = some e := fun x e hx h => by rw [← hV_V_27, hu_n hx]; exact fr15 x e hx h
  obtain ⟨Lf, eLf⟩ : ∃ z, z = (fun x => if x = ho then 1 else if x = q_1 then 2 else if x = q_6 then 3 else if x = q_9 then 6 else if x = q_12 then 7 else if x = q_20 then 4 else if (V_21 x).isNone then b.lb x else 10000) := ⟨_, rfl⟩
  have hl_1 : Lf ho = 1 := by rw [eLf]; show (if ho = ho then _ else _) = _; rw [if_pos rfl]
  have hl_2 : Lf q_1 = 2 := by rw [eLf]; show (if q_1 = ho then _ else _) = _; rw [if_neg (Ne.symm ne_ho_q_1), if_pos rfl]
  have hl_3 : Lf q_6 = 3 := by rw [eLf]; show (if q_6 = ho then _ else _) = _; rw [if_neg (Ne.symm ne_ho_q_6), if_neg (Ne.symm ne_q_1_q_6), if_pos rfl]
  have hl_6 : Lf q_9 = 6 := by rw [eLf]; show (if q_9 = ho then _ else _) = _; rw [if_neg (Ne.symm ne_ho_q_9), if_neg (Ne.symm ne_q_1_q_9), if_neg (Ne.symm ne_q_6_q_9), if_pos rfl]
  have hl_7 : Lf q_12 = 7 := by rw [eLf]; show (if q_12 = ho then _ else _) = _; rw [if_neg (Ne.symm ne_ho_q_12), if_neg (Ne.symm ne_q_1_q_12), if_neg (Ne.symm ne_q_6_q_12), if_neg (Ne.symm ne_q_9_q_12), if_pos rfl]
  have hl_4 : Lf q_20 = 4 := by rw [eLf]; show (if q_20 = ho then _ else _) = _; rw [if_neg (Ne.symm ne_ho_q_20), if_neg (Ne.symm ne_q_1_q_20), if_neg (Ne.symm ne_q_6_q_20), if_neg (Ne.symm ne_q_9_q_20), if_neg (Ne.symm ne_q_12_q_20), if_pos rfl]
  have hLn : ∀ x, V_21 x = none → Lf x = b.lb x := fun x hx => by
    rw [eLf]; show (if x = ho then _ else _) = _
    rw [if_neg (Ne.symm (ne_of hho'V_21 hx)), if_neg (Ne.symm (ne_of hq_1'V_21 hx)), if_neg (Ne.symm (ne_of hq_6'V_21 hx)), if_neg (Ne.symm (ne_of hq_9'V_21 hx)), if_neg (Ne.symm (ne_of hq_12'V_21 hx)), if_neg (Ne.symm (ne_of hq_20'V_21 hx)), hx]; rfl
  have ahe : ∀ x e, x ≠ ho → V_24 x = some e → V_27 x = some e := fun x e hx h => by
    rw [← hV_V_27, hu_n hx]
    rw [← hV_V_26, hu_n hx]
    exact h
  have hold : ∀ x e, x ≠ ho → V x = some e → V_27 x = some e ∧ Lf x = 10000 := fun x e hx h => ⟨fr16 x e hx h, by
    have hc := fr13 x e hx h
    rw [eLf]; show (if x = ho then _ else _) = _
    rw [if_neg hx, if_neg (fun z => by rw [z, no_q_1] at h; cases h), if_neg (fun z => by rw [z, no_q_6] at h; cases h), if_neg (fun z => by rw [z, no_q_9] at h; cases h), if_neg (fun z => by rw [z, no_q_12] at h; cases h), if_neg (fun z => by rw [z, no_q_20] at h; cases h), hc]; rfl⟩
  exact W.vret hx hb hr (fun t9 ht hW => ⟨⟨V_27, rfl, ⟨n, hoB b ho q_1 q_6 q_20 q_9 q_12 Lf, h1, h4, en, rfl, hoB_ok h1 h4 hcN ahe (by rw [hho'V_21]; intro q; cases q) hho'V_27 hq_1'V_27 hq_6'V_27 hq_9'V_27 hq_12'V_27 (Ne.symm ne_ho_q_20) hl_1 hl_2 hl_3 hl_4 hl_6 hl_7 hLn, hold⟩, mB_of ht hV⟩, hS.F ht⟩) hS.2.2 d_Ho_init_113
