/-! THE LAW'S CASES -/
set_option maxHeartbeats 4000000 in
set_option maxRecDepth 100000 in
/-- the law's case: part -/
theorem l_part {J : HS → MS → Prop} (hJ : ok_part J) (hPre : ok_pre J) {p : Program} {l : Launch} {e : Env} {s : State} {m : MethodId} {below : List Frame} {meth : Method} {c : Code} {Q : State → Prop} {D : va_G} {k : Nat → Nat} {bb L : Nat} {xs : Nat → Int32} (C : LC p l s m c D k bb L xs) {V : HV} {b : HA} {σ : HS} {mo : Nat} {ad : Nat → Nat} {ρ : MS} {ou : Nat} {g : Nat → Int64} (hL : LJ J k V b σ mo ad ρ ou g) {H : Heap} {locs : List Loc} {ls : Array Slot} {i cells slots : Nat} (hi : i + 7 ≤ L) (hc : cells + 4 ≤ 601024) (hs : slots + 159 ≤ 7293000) (hV : hv D vwCl s.heap.size V H) (hS : va_S (hA s.heap.size) s.heap H locs) (hl : lv_has ls 7 [(4, .int (nI i)), (0, .ref bb), (1, .ref b.ho), (2, .ref mo), (3, .ref ou)])
    (kc : ∀ (V' : HV) (b' : HA) (σ' : HS) (ρ' : MS) (g' : Nat → Int64) (H' : Heap) (locs' : List Loc) (ls' : Array Slot), b'.ho = b.ho → LJ J k V' b' σ' mo ad ρ' ou g' → hv D vwCl s.heap.size V' H' → va_S (hA s.heap.size) s.heap H' locs' → lv_has ls' 7 [(4, .int (nI i)), (0, .ref bb), (1, .ref b.ho), (2, .ref mo), (3, .ref ou)] → W p l e room_1 s m #[Value.ref bb] below meth c H' locs' (cells + 4) (slots + 159) Q (F0 m 1479 ls' [])) :
    W p l e room_1 s m #[Value.ref bb] below meth c H locs cells slots Q (F0 m 173 ls []) := by
  obtain ⟨hx, hb, hml, hown, hts, hG, hN, hX, hbl, hLL, hls⟩ := C
  obtain ⟨hW0, hM0, hou, hlo, hlm, hla, hJ0⟩ := hL
  have hW : ∀ w ∈ WS, w.before _ s = true := fun w h => hts w (List.mem_cons_of_mem _ h)
  have hbA : ¬ (hA s.heap.size) bb := Nat.not_le.mpr hbl
  have hI0 := hsI_of hW0
  obtain ⟨⟨hmG, hmW, hm16, hm1⟩, hg1, hg2, hg3, hg4, hg5, hg6, hg7, hg8⟩ := hPre σ ρ hI0 hJ0
  have q2 := mN_of hmG (K := 2) (by omega) (by omega)
  have q3 := mN_of hmG (K := 3) (by omega) (by omega)
  have q4 := mN_of hmG (K := 4) (by omega) (by omega)
  have q5 := mN_of hmG (K := 5) (by omega) (by omega)
  have q6 := mN_of hmG (K := 6) (by omega) (by omega)
  have q7 := mN_of hmG (K := 7) (by omega) (by omega)
  refine lv_aload_n hx hb d_La_law_173 rfl (lv_at hl 2 rfl) ?_
  refine lv_aload_n hx hb d_La_law_174 rfl (lv_at hl 1 rfl) ?_
  refine lv_iload hx hb d_La_law_175 (lv_at hl 0 rfl) ?_
  refine lv_iconst (v := 1) hx hb d_La_law_177 (by decide) ?_
  refine lv_iadd hx hb d_La_law_178 ?_
  refine va_sld (i := nI i + 1) hx hb hX hbl hbA hS (sc_in (K := 1) (by omega) hLL) d_La_law_179 ?_
  rw [show (nI i + 1).toNatClampNeg = i + 1 from sc_ix (K := 1) (by omega)]
  refine lv_aload_n hx hb d_La_law_180 rfl (lv_at hl 1 rfl) ?_
  refine lv_iload hx hb d_La_law_181 (lv_at hl 0 rfl) ?_
  refine lv_iconst (v := 2) hx hb d_La_law_183 (by decide) ?_
  refine lv_iadd hx hb d_La_law_184 ?_
  refine va_sld (i := nI i + 2) hx hb hX hbl hbA hS (sc_in (K := 2) (by omega) hLL) d_La_law_185 ?_
  rw [show (nI i + 2).toNatClampNeg = i + 2 from sc_ix (K := 2) (by omega)]
  refine lv_aload_n hx hb d_La_law_186 rfl (lv_at hl 1 rfl) ?_
  refine lv_iload hx hb d_La_law_187 (lv_at hl 0 rfl) ?_
  refine lv_iconst (v := 3) hx hb d_La_law_189 (by decide) ?_
  refine lv_iadd hx hb d_La_law_190 ?_
  refine va_sld (i := nI i + 3) hx hb hX hbl hbA hS (sc_in (K := 3) (by omega) hLL) d_La_law_191 ?_
  rw [show (nI i + 3).toNatClampNeg = i + 3 from sc_ix (K := 3) (by omega)]
  refine lv_aload_n hx hb d_La_law_192 rfl (lv_at hl 1 rfl) ?_
  refine lv_iload hx hb d_La_law_193 (lv_at hl 0 rfl) ?_
  refine lv_iconst (v := 4) hx hb d_La_law_195 (by decide) ?_
  refine lv_iadd hx hb d_La_law_196 ?_
  refine va_sld (i := nI i + 4) hx hb hX hbl hbA hS (sc_in (K := 4) (by omega) hLL) d_La_law_197 ?_
  rw [show (nI i + 4).toNatClampNeg = i + 4 from sc_ix (K := 4) (by omega)]
  refine lv_aload_n hx hb d_La_law_198 rfl (lv_at hl 1 rfl) ?_
  refine lv_iload hx hb d_La_law_199 (lv_at hl 0 rfl) ?_
  refine lv_iconst (v := 5) hx hb d_La_law_201 (by decide) ?_
  refine lv_iadd hx hb d_La_law_202 ?_
  refine va_sld (i := nI i + 5) hx hb hX hbl hbA hS (sc_in (K := 5) (by omega) hLL) d_La_law_203 ?_
  rw [show (nI i + 5).toNatClampNeg = i + 5 from sc_ix (K := 5) (by omega)]
  refine lv_aload_n hx hb d_La_law_204 rfl (lv_at hl 4 rfl) ?_
  refine rc_I (va_runSW (As := [.ref b.ho, .int (xs (i + 1)), .int (xs (i + 2)), .int (xs (i + 3)), .int (xs (i + 4)), .int (xs (i + 5)), .ref ou]) (rest := []) ⟨hx, hb, hml, hown, hts⟩ (c_La_part l hls D s.heap.size k V b σ hW0 ou g hou hlo (xs (i + 1)) (xs (i + 2)) (xs (i + 3)) (xs (i + 4)) (xs (i + 5))) (va_cwSW 7 hts (gi_Sw wm_La_92 wt_La_part wi_La wcw_La_part) rfl rfl rfl (by decide +kernel) ⟨Nat.le_of_ble_eq_true rfl, Nat.le_of_ble_eq_true rfl⟩) (mPx.preS hG hN hS hV) rfl rfl hl.1 rfl (lv_room (Nat.le_of_ble_eq_true rfl)) d_La_law_205 ⟨show cells + 2 ≤ 601024 by omega, show slots + 11 ≤ 7293000 by omega⟩) hS (fun r V1 H locs hp1 hV hS => ?_)
  obtain ⟨b1, σ1, g1, hW1, ho1, hF1, hR1⟩ := hp1
  have hho : b1.ho = b.ho := hF1.1
  obtain ⟨hM1, hl1, hl2, hl3⟩ := md_h hM0 hou hlo hlm hla hF1
  refine lv_istore (lv' := [(5, .int r), (4, .int (nI i)), (0, .ref bb), (1, .ref b.ho), (2, .ref mo), (3, .ref ou)]) hx hb d_La_law_208 hl (by decide) rfl (fun ls hl => ?_)
  refine lv_aload_n hx hb d_La_law_210 rfl (lv_at hl 4 rfl) ?_
  refine lv_aload_n hx hb d_La_law_211 rfl (lv_at hl 2 rfl) ?_
  refine lv_iload hx hb d_La_law_212 (lv_at hl 1 rfl) ?_
  refine lv_iconst (v := 1) hx hb d_La_law_214 (by decide) ?_
  refine lv_iadd hx hb d_La_law_215 ?_
  refine va_sld (i := nI i + 1) hx hb hX hbl hbA hS (sc_in (K := 1) (by omega) hLL) d_La_law_216 ?_
  rw [show (nI i + 1).toNatClampNeg = i + 1 from sc_ix (K := 1) (by omega)]
  refine lv_aload_n hx hb d_La_law_217 rfl (lv_at hl 2 rfl) ?_
  refine lv_iload hx hb d_La_law_218 (lv_at hl 1 rfl) ?_
  refine lv_iconst (v := 2) hx hb d_La_law_220 (by decide) ?_
  refine lv_iadd hx hb d_La_law_221 ?_
  refine va_sld (i := nI i + 2) hx hb hX hbl hbA hS (sc_in (K := 2) (by omega) hLL) d_La_law_222 ?_
  rw [show (nI i + 2).toNatClampNeg = i + 2 from sc_ix (K := 2) (by omega)]
  refine lv_aload_n hx hb d_La_law_223 rfl (lv_at hl 2 rfl) ?_
  refine lv_iload hx hb d_La_law_224 (lv_at hl 1 rfl) ?_
  refine lv_iconst (v := 3) hx hb d_La_law_226 (by decide) ?_
  refine lv_iadd hx hb d_La_law_227 ?_
  refine va_sld (i := nI i + 3) hx hb hX hbl hbA hS (sc_in (K := 3) (by omega) hLL) d_La_law_228 ?_
  rw [show (nI i + 3).toNatClampNeg = i + 3 from sc_ix (K := 3) (by omega)]
  refine lv_aload_n hx hb d_La_law_229 rfl (lv_at hl 2 rfl) ?_
  refine lv_iload hx hb d_La_law_230 (lv_at hl 1 rfl) ?_
  refine lv_iconst (v := 4) hx hb d_La_law_232 (by decide) ?_
  refine lv_iadd hx hb d_La_law_233 ?_
  refine va_sld (i := nI i + 4) hx hb hX hbl hbA hS (sc_in (K := 4) (by omega) hLL) d_La_law_234 ?_
  rw [show (nI i + 4).toNatClampNeg = i + 4 from sc_ix (K := 4) (by omega)]
  refine lv_aload_n hx hb d_La_law_235 rfl (lv_at hl 2 rfl) ?_
  refine lv_iload hx hb d_La_law_236 (lv_at hl 1 rfl) ?_
  refine lv_iconst (v := 5) hx hb d_La_law_238 (by decide) ?_
  refine lv_iadd hx hb d_La_law_239 ?_
  refine va_sld (i := nI i + 5) hx hb hX hbl hbA hS (sc_in (K := 5) (by omega) hLL) d_La_law_240 ?_
  rw [show (nI i + 5).toNatClampNeg = i + 5 from sc_ix (K := 5) (by omega)]
  have kk : ∀ (r2 : Int32) (V2 : HV) (ρ2 : MS) (H : Heap) (locs : List Loc), mdOk k V2 mo ad ρ2 → mdFr mo ad V1 V2 → partM ρ (xs (i + 1)) (xs (i + 2)) (xs (i + 3)) (xs (i + 4)) (xs (i + 5)) r2 ρ2 → hv D vwCl s.heap.size V2 H → va_S (hA s.heap.size) s.heap H locs → W p l e room_1 s m #[Value.ref bb] below meth c H locs (cells + 2 + 0) (slots + 11 + 0) Q (F0 m 244 ls [.int r2]) := by
    intro r2 V2 ρ2 H locs hM3 hF2 hA2 hV hS
    obtain ⟨hJ2, hs2, ha2⟩ := hJ σ ρ hI0 hJ0 (xs (i + 1)) (xs (i + 2)) (xs (i + 3)) (xs (i + 4)) (xs (i + 5)) r (g1 0) σ1 r2 ρ2 hR1 hA2
    obtain ⟨hW2, ho2⟩ := md_m hW1 hM1 ho1 hl2 hl3 hF2
    refine lv_istore (lv' := [(6, .int r2), (5, .int r), (4, .int (nI i)), (0, .ref bb), (1, .ref b.ho), (2, .ref mo), (3, .ref ou)]) hx hb d_La_law_244 hl (by decide) rfl (fun ls hl => ?_)
    refine lv_aload_n hx hb d_La_law_246 rfl (lv_at hl 5 rfl) ?_
    refine rc_i (va_runV (As := []) (rest := []) ⟨hx, hb, hml, hown, hts⟩ (c_Mo_thrown l D s.heap.size k V2 mo ad ρ2 hM3) (cwV 0 hts (gi_Vw wm_La_96 wv_Mo_thrown ws_Mo_thrown wi_Mo wc_Mo_thrown) rfl rfl rfl (by decide +kernel) ⟨Nat.le_of_ble_eq_true rfl, Nat.le_of_ble_eq_true rfl⟩) (mP.preV hG hS hV hM3.1 rfl) rfl rfl hl.1 rfl (lv_room (Nat.le_of_ble_eq_true rfl)) d_La_law_247 ⟨show cells + 2 + 0 + 0 ≤ 601024 by omega, show slots + 11 + 0 + 0 ≤ 7293000 by omega⟩) hS (fun H locs hV hS => ?_)
    refine lv_iload hx hb d_La_law_250 (lv_at hl 1 rfl) ?_
    refine lv_icmp_eq (tgt := 257) hx hb d_La_law_252 (by decide) (fun _ => ?_) (fun q => absurd hs2 q)
    refine lv_iload hx hb d_La_law_257 (lv_at hl 1 rfl) ?_
    refine lv_if_ne (tgt := 274) hx hb d_La_law_259 (by decide) (fun _ => ?_) (fun c5 => ?_)
    · refine lv_goto (tgt := 1479) hx hb d_La_law_274 (by decide) ?_
      refine W.widen (k := cells + 4) (n := slots + 159) (by omega) (by omega) ?_
      refine kc V2 b1 σ1 ρ2 g1 H locs ls hho ⟨hW2, hM3, ho2, hl1, hl2, hl3, hJ2⟩ hV hS ?_
      exact lv_sub hl [2, 3, 4, 5, 6] rfl
    · refine lv_aload_n hx hb d_La_law_262 rfl (lv_at hl 6 rfl) ?_
      refine lv_iconst (v := 0) hx hb d_La_law_263 (by decide) ?_
      refine hv_lald hx hb hG.K hV 1 ho2 rfl ((vp_in_nI (by omega) (by omega) : vp_in (nI 0) 1)) d_La_law_264 ?_
      rw [show (0 : Int32).toNatClampNeg = 0 from rfl]
      refine lv_iload hx hb d_La_law_265 (lv_at hl 0 rfl) ?_
      refine lv_i2l hx hb d_La_law_267 rfl ?_
      refine lv_lcmp hx hb d_La_law_268 ?_
      refine lv_if_eq (tgt := 274) hx hb d_La_law_269 (by decide) (fun _ => ?_) (fun q => absurd (lcm_0.mpr (ha2 c5)) q)
      refine lv_goto (tgt := 1479) hx hb d_La_law_274 (by decide) ?_
      refine W.widen (k := cells + 4) (n := slots + 159) (by omega) (by omega) ?_
      refine kc V2 b1 σ1 ρ2 g1 H locs ls hho ⟨hW2, hM3, ho2, hl1, hl2, hl3, hJ2⟩ hV hS ?_
      exact lv_sub hl [2, 3, 4, 5, 6] rfl
  exact rc_I (va_runV (As := [.int (xs (i + 1)), .int (xs (i + 2)), .int (xs (i + 3)), .int (xs (i + 4)), .int (xs (i + 5))]) (rest := []) ⟨hx, hb, hml, hown, hts⟩ (c_Mo_part l D s.heap.size k V1 mo ad ρ hM1 (xs (i + 1)) (xs (i + 2)) (xs (i + 3)) (xs (i + 4)) (xs (i + 5)) (mN ρ 2) q2.2 q2.1 (mN ρ 6) q6.2 q6.1 hmW) (cwV 5 hts (gi_Vw wm_La_95 wv_Mo_part ws_Mo_part wi_Mo wc_Mo_part) rfl rfl rfl (by decide +kernel) ⟨Nat.le_of_ble_eq_true rfl, Nat.le_of_ble_eq_true rfl⟩) (mP.preV hG hS hV hM1.1 rfl) rfl rfl hl.1 rfl (lv_room (Nat.le_of_ble_eq_true rfl)) d_La_law_241 ⟨show cells + 2 + 0 ≤ 601024 by omega, show slots + 11 + 0 ≤ 7293000 by omega⟩) hS (fun r2 V2 H locs hp2 hV hS => kk r2 V2 _ H locs hp2.1 hp2.2.1 ⟨hp2.2.2, rfl⟩ hV hS)
set_option maxHeartbeats 4000000 in
set_option maxRecDepth 100000 in
/-- the law's case: pad -/
theorem l_pad {J : HS → MS → Prop} (hJ : ok_pad J) (hPre : ok_pre J) {p : Program} {l : Launch} {e : Env} {s : State} {m : MethodId} {below : List Frame} {meth : Method} {c : Code} {Q : State → Prop} {D : va_G} {k : Nat → Nat} {bb L : Nat} {xs : Nat → Int32} (C : LC p l s m c D k bb L xs) {V : HV} {b : HA} {σ : HS} {mo : Nat} {ad : Nat → Nat} {ρ : MS} {ou : Nat} {g : Nat → Int64} (hL : LJ J k V b σ mo ad ρ ou g) {H : Heap} {locs : List Loc} {ls : Array Slot} {i cells slots : Nat} (hi : i + 7 ≤ L) (hc : cells + 4 ≤ 601024) (hs : slots + 159 ≤ 7293000) (hV : hv D vwCl s.heap.size V H) (hS : va_S (hA s.heap.size) s.heap H locs) (hl : lv_has ls 7 [(4, .int (nI i)), (0, .ref bb), (1, .ref b.ho), (2, .ref mo), (3, .ref ou)])
    (kc : ∀ (V' : HV) (b' : HA) (σ' : HS) (ρ' : MS) (g' : Nat → Int64) (H' : Heap) (locs' : List Loc) (ls' : Array Slot), b'.ho = b.ho → LJ J k V' b' σ' mo ad ρ' ou g' → hv D vwCl s.heap.size V' H' → va_S (hA s.heap.size) s.heap H' locs' → lv_has ls' 7 [(4, .int (nI i)), (0, .ref bb), (1, .ref b.ho), (2, .ref mo), (3, .ref ou)] → W p l e room_1 s m #[Value.ref bb] below meth c H' locs' (cells + 4) (slots + 159) Q (F0 m 1479 ls' [])) :
    W p l e room_1 s m #[Value.ref bb] below meth c H locs cells slots Q (F0 m 277 ls []) := by
  obtain ⟨hx, hb, hml, hown, hts, hG, hN, hX, hbl, hLL, hls⟩ := C
  obtain ⟨hW0, hM0, hou, hlo, hlm, hla, hJ0⟩ := hL
  have hW : ∀ w ∈ WS, w.before _ s = true := fun w h => hts w (List.mem_cons_of_mem _ h)
  have hbA : ¬ (hA s.heap.size) bb := Nat.not_le.mpr hbl
  have hI0 := hsI_of hW0
  obtain ⟨⟨hmG, hmW, hm16, hm1⟩, hg1, hg2, hg3, hg4, hg5, hg6, hg7, hg8⟩ := hPre σ ρ hI0 hJ0
  have q2 := mN_of hmG (K := 2) (by omega) (by omega)
  have q3 := mN_of hmG (K := 3) (by omega) (by omega)
  have q4 := mN_of hmG (K := 4) (by omega) (by omega)
  have q5 := mN_of hmG (K := 5) (by omega) (by omega)
  have q6 := mN_of hmG (K := 6) (by omega) (by omega)
  have q7 := mN_of hmG (K := 7) (by omega) (by omega)
  refine lv_aload_n hx hb d_La_law_277 rfl (lv_at hl 2 rfl) ?_
  refine lv_aload_n hx hb d_La_law_278 rfl (lv_at hl 1 rfl) ?_
  refine lv_iload hx hb d_La_law_279 (lv_at hl 0 rfl) ?_
  refine lv_iconst (v := 1) hx hb d_La_law_281 (by decide) ?_
  refine lv_iadd hx hb d_La_law_282 ?_
  refine va_sld (i := nI i + 1) hx hb hX hbl hbA hS (sc_in (K := 1) (by omega) hLL) d_La_law_283 ?_
  rw [show (nI i + 1).toNatClampNeg = i + 1 from sc_ix (K := 1) (by omega)]
  refine lv_aload_n hx hb d_La_law_284 rfl (lv_at hl 1 rfl) ?_
  refine lv_iload hx hb d_La_law_285 (lv_at hl 0 rfl) ?_
  refine lv_iconst (v := 2) hx hb d_La_law_287 (by decide) ?_
  refine lv_iadd hx hb d_La_law_288 ?_
  refine va_sld (i := nI i + 2) hx hb hX hbl hbA hS (sc_in (K := 2) (by omega) hLL) d_La_law_289 ?_
  rw [show (nI i + 2).toNatClampNeg = i + 2 from sc_ix (K := 2) (by omega)]
  refine lv_aload_n hx hb d_La_law_290 rfl (lv_at hl 1 rfl) ?_
  refine lv_iload hx hb d_La_law_291 (lv_at hl 0 rfl) ?_
  refine lv_iconst (v := 3) hx hb d_La_law_293 (by decide) ?_
  refine lv_iadd hx hb d_La_law_294 ?_
  refine va_sld (i := nI i + 3) hx hb hX hbl hbA hS (sc_in (K := 3) (by omega) hLL) d_La_law_295 ?_
  rw [show (nI i + 3).toNatClampNeg = i + 3 from sc_ix (K := 3) (by omega)]
  refine lv_aload_n hx hb d_La_law_296 rfl (lv_at hl 1 rfl) ?_
  refine lv_iload hx hb d_La_law_297 (lv_at hl 0 rfl) ?_
  refine lv_iconst (v := 4) hx hb d_La_law_299 (by decide) ?_
  refine lv_iadd hx hb d_La_law_300 ?_
  refine va_sld (i := nI i + 4) hx hb hX hbl hbA hS (sc_in (K := 4) (by omega) hLL) d_La_law_301 ?_
  rw [show (nI i + 4).toNatClampNeg = i + 4 from sc_ix (K := 4) (by omega)]
  refine lv_aload_n hx hb d_La_law_302 rfl (lv_at hl 4 rfl) ?_
  refine rc_I (va_runSW (As := [.ref b.ho, .int (xs (i + 1)), .int (xs (i + 2)), .int (xs (i + 3)), .int (xs (i + 4)), .ref ou]) (rest := []) ⟨hx, hb, hml, hown, hts⟩ (c_La_pad l hls D s.heap.size k V b σ hW0 ou g hou hlo (xs (i + 1)) (xs (i + 2)) (xs (i + 3)) (xs (i + 4))) (va_cwSW 6 hts (gi_Sw wm_La_99 wt_La_pad wi_La wcw_La_pad) rfl rfl rfl (by decide +kernel) ⟨Nat.le_of_ble_eq_true rfl, Nat.le_of_ble_eq_true rfl⟩) (mPx.preS hG hN hS hV) rfl rfl hl.1 rfl (lv_room (Nat.le_of_ble_eq_true rfl)) d_La_law_303 ⟨show cells + 2 ≤ 601024 by omega, show slots + 11 ≤ 7293000 by omega⟩) hS (fun r V1 H locs hp1 hV hS => ?_)
  obtain ⟨b1, σ1, g1, hW1, ho1, hF1, hR1⟩ := hp1
  have hho : b1.ho = b.ho := hF1.1
  obtain ⟨hM1, hl1, hl2, hl3⟩ := md_h hM0 hou hlo hlm hla hF1
  refine lv_istore (lv' := [(5, .int r), (4, .int (nI i)), (0, .ref bb), (1, .ref b.ho), (2, .ref mo), (3, .ref ou)]) hx hb d_La_law_306 hl (by decide) rfl (fun ls hl => ?_)
  refine lv_aload_n hx hb d_La_law_308 rfl (lv_at hl 4 rfl) ?_
  refine lv_aload_n hx hb d_La_law_309 rfl (lv_at hl 2 rfl) ?_
  refine lv_iload hx hb d_La_law_310 (lv_at hl 1 rfl) ?_
  refine lv_iconst (v := 1) hx hb d_La_law_312 (by decide) ?_
  refine lv_iadd hx hb d_La_law_313 ?_
  refine va_sld (i := nI i + 1) hx hb hX hbl hbA hS (sc_in (K := 1) (by omega) hLL) d_La_law_314 ?_
  rw [show (nI i + 1).toNatClampNeg = i + 1 from sc_ix (K := 1) (by omega)]
  refine lv_aload_n hx hb d_La_law_315 rfl (lv_at hl 2 rfl) ?_
  refine lv_iload hx hb d_La_law_316 (lv_at hl 1 rfl) ?_
  refine lv_iconst (v := 2) hx hb d_La_law_318 (by decide) ?_
  refine lv_iadd hx hb d_La_law_319 ?_
  refine va_sld (i := nI i + 2) hx hb hX hbl hbA hS (sc_in (K := 2) (by omega) hLL) d_La_law_320 ?_
  rw [show (nI i + 2).toNatClampNeg = i + 2 from sc_ix (K := 2) (by omega)]
  refine lv_aload_n hx hb d_La_law_321 rfl (lv_at hl 2 rfl) ?_
  refine lv_iload hx hb d_La_law_322 (lv_at hl 1 rfl) ?_
  refine lv_iconst (v := 3) hx hb d_La_law_324 (by decide) ?_
  refine lv_iadd hx hb d_La_law_325 ?_
  refine va_sld (i := nI i + 3) hx hb hX hbl hbA hS (sc_in (K := 3) (by omega) hLL) d_La_law_326 ?_
  rw [show (nI i + 3).toNatClampNeg = i + 3 from sc_ix (K := 3) (by omega)]
  refine lv_aload_n hx hb d_La_law_327 rfl (lv_at hl 2 rfl) ?_
  refine lv_iload hx hb d_La_law_328 (lv_at hl 1 rfl) ?_
  refine lv_iconst (v := 4) hx hb d_La_law_330 (by decide) ?_
  refine lv_iadd hx hb d_La_law_331 ?_
  refine va_sld (i := nI i + 4) hx hb hX hbl hbA hS (sc_in (K := 4) (by omega) hLL) d_La_law_332 ?_
  rw [show (nI i + 4).toNatClampNeg = i + 4 from sc_ix (K := 4) (by omega)]
  have kk : ∀ (r2 : Int32) (V2 : HV) (ρ2 : MS) (H : Heap) (locs : List Loc), mdOk k V2 mo ad ρ2 → mdFr mo ad V1 V2 → padM ρ (xs (i + 1)) (xs (i + 2)) (xs (i + 3)) (xs (i + 4)) r2 ρ2 → hv D vwCl s.heap.size V2 H → va_S (hA s.heap.size) s.heap H locs → W p l e room_1 s m #[Value.ref bb] below meth c H locs (cells + 2 + 0) (slots + 11 + 0) Q (F0 m 336 ls [.int r2]) := by
    intro r2 V2 ρ2 H locs hM3 hF2 hA2 hV hS
    obtain ⟨hJ2, hs2, ha2⟩ := hJ σ ρ hI0 hJ0 (xs (i + 1)) (xs (i + 2)) (xs (i + 3)) (xs (i + 4)) r (g1 0) σ1 r2 ρ2 hR1 hA2
    obtain ⟨hW2, ho2⟩ := md_m hW1 hM1 ho1 hl2 hl3 hF2
    refine lv_istore (lv' := [(6, .int r2), (5, .int r), (4, .int (nI i)), (0, .ref bb), (1, .ref b.ho), (2, .ref mo), (3, .ref ou)]) hx hb d_La_law_336 hl (by decide) rfl (fun ls hl => ?_)
    refine lv_aload_n hx hb d_La_law_338 rfl (lv_at hl 5 rfl) ?_
    refine rc_i (va_runV (As := []) (rest := []) ⟨hx, hb, hml, hown, hts⟩ (c_Mo_thrown l D s.heap.size k V2 mo ad ρ2 hM3) (cwV 0 hts (gi_Vw wm_La_96 wv_Mo_thrown ws_Mo_thrown wi_Mo wc_Mo_thrown) rfl rfl rfl (by decide +kernel) ⟨Nat.le_of_ble_eq_true rfl, Nat.le_of_ble_eq_true rfl⟩) (mP.preV hG hS hV hM3.1 rfl) rfl rfl hl.1 rfl (lv_room (Nat.le_of_ble_eq_true rfl)) d_La_law_339 ⟨show cells + 2 + 0 + 0 ≤ 601024 by omega, show slots + 11 + 0 + 0 ≤ 7293000 by omega⟩) hS (fun H locs hV hS => ?_)
    refine lv_iload hx hb d_La_law_342 (lv_at hl 1 rfl) ?_
    refine lv_icmp_eq (tgt := 349) hx hb d_La_law_344 (by decide) (fun _ => ?_) (fun q => absurd hs2 q)
    refine lv_iload hx hb d_La_law_349 (lv_at hl 1 rfl) ?_
    refine lv_if_ne (tgt := 366) hx hb d_La_law_351 (by decide) (fun _ => ?_) (fun c5 => ?_)
    · refine lv_goto (tgt := 1479) hx hb d_La_law_366 (by decide) ?_
      refine W.widen (k := cells + 4) (n := slots + 159) (by omega) (by omega) ?_
      refine kc V2 b1 σ1 ρ2 g1 H locs ls hho ⟨hW2, hM3, ho2, hl1, hl2, hl3, hJ2⟩ hV hS ?_
      exact lv_sub hl [2, 3, 4, 5, 6] rfl
    · refine lv_aload_n hx hb d_La_law_354 rfl (lv_at hl 6 rfl) ?_
      refine lv_iconst (v := 0) hx hb d_La_law_355 (by decide) ?_
      refine hv_lald hx hb hG.K hV 1 ho2 rfl ((vp_in_nI (by omega) (by omega) : vp_in (nI 0) 1)) d_La_law_356 ?_
      rw [show (0 : Int32).toNatClampNeg = 0 from rfl]
      refine lv_iload hx hb d_La_law_357 (lv_at hl 0 rfl) ?_
      refine lv_i2l hx hb d_La_law_359 rfl ?_
      refine lv_lcmp hx hb d_La_law_360 ?_
      refine lv_if_eq (tgt := 366) hx hb d_La_law_361 (by decide) (fun _ => ?_) (fun q => absurd (lcm_0.mpr (ha2 c5)) q)
      refine lv_goto (tgt := 1479) hx hb d_La_law_366 (by decide) ?_
      refine W.widen (k := cells + 4) (n := slots + 159) (by omega) (by omega) ?_
      refine kc V2 b1 σ1 ρ2 g1 H locs ls hho ⟨hW2, hM3, ho2, hl1, hl2, hl3, hJ2⟩ hV hS ?_
      exact lv_sub hl [2, 3, 4, 5, 6] rfl
  exact rc_I (va_runV (As := [.int (xs (i + 1)), .int (xs (i + 2)), .int (xs (i + 3)), .int (xs (i + 4))]) (rest := []) ⟨hx, hb, hml, hown, hts⟩ (c_Mo_pad l D s.heap.size k V1 mo ad ρ hM1 (xs (i + 1)) (xs (i + 2)) (xs (i + 3)) (xs (i + 4)) hmG (mN ρ 3) q3.2 q3.1 (mN ρ 6) q6.2 q6.1 hmW) (cwV 4 hts (gi_Vw wm_La_102 wv_Mo_pad ws_Mo_pad wi_Mo wc_Mo_pad) rfl rfl rfl (by decide +kernel) ⟨Nat.le_of_ble_eq_true rfl, Nat.le_of_ble_eq_true rfl⟩) (mP.preV hG hS hV hM1.1 rfl) rfl rfl hl.1 rfl (lv_room (Nat.le_of_ble_eq_true rfl)) d_La_law_333 ⟨show cells + 2 + 0 ≤ 601024 by omega, show slots + 11 + 0 ≤ 7293000 by omega⟩) hS (fun r2 V2 H locs hp2 hV hS => kk r2 V2 _ H locs hp2.1 hp2.2.1 ⟨hp2.2.2, rfl⟩ hV hS)
set_option maxHeartbeats 4000000 in
set_option maxRecDepth 100000 in
/-- the law's case: via -/
theorem l_via {J : HS → MS → Prop} (hJ : ok_via J) (hPre : ok_pre J) {p : Program} {l : Launch} {e : Env} {s : State} {m : MethodId} {below : List Frame} {meth : Method} {c : Code} {Q : State → Prop} {D : va_G} {k : Nat → Nat} {bb L : Nat} {xs : Nat → Int32} (C : LC p l s m c D k bb L xs) {V : HV} {b : HA} {σ : HS} {mo : Nat} {ad : Nat → Nat} {ρ : MS} {ou : Nat} {g : Nat → Int64} (hL : LJ J k V b σ mo ad ρ ou g) {H : Heap} {locs : List Loc} {ls : Array Slot} {i cells slots : Nat} (hi : i + 7 ≤ L) (hc : cells + 4 ≤ 601024) (hs : slots + 159 ≤ 7293000) (hV : hv D vwCl s.heap.size V H) (hS : va_S (hA s.heap.size) s.heap H locs) (hl : lv_has ls 7 [(4, .int (nI i)), (0, .ref bb), (1, .ref b.ho), (2, .ref mo), (3, .ref ou)])
    (kc : ∀ (V' : HV) (b' : HA) (σ' : HS) (ρ' : MS) (g' : Nat → Int64) (H' : Heap) (locs' : List Loc) (ls' : Array Slot), b'.ho = b.ho → LJ J k V' b' σ' mo ad ρ' ou g' → hv D vwCl s.heap.size V' H' → va_S (hA s.heap.size) s.heap H' locs' → lv_has ls' 7 [(4, .int (nI i)), (0, .ref bb), (1, .ref b.ho), (2, .ref mo), (3, .ref ou)] → W p l e room_1 s m #[Value.ref bb] below meth c H' locs' (cells + 4) (slots + 159) Q (F0 m 1479 ls' [])) :
    W p l e room_1 s m #[Value.ref bb] below meth c H locs cells slots Q (F0 m 369 ls []) := by
  obtain ⟨hx, hb, hml, hown, hts, hG, hN, hX, hbl, hLL, hls⟩ := C
  obtain ⟨hW0, hM0, hou, hlo, hlm, hla, hJ0⟩ := hL
  have hW : ∀ w ∈ WS, w.before _ s = true := fun w h => hts w (List.mem_cons_of_mem _ h)
  have hbA : ¬ (hA s.heap.size) bb := Nat.not_le.mpr hbl
  have hI0 := hsI_of hW0
  obtain ⟨⟨hmG, hmW, hm16, hm1⟩, hg1, hg2, hg3, hg4, hg5, hg6, hg7, hg8⟩ := hPre σ ρ hI0 hJ0
  have q2 := mN_of hmG (K := 2) (by omega) (by omega)
  have q3 := mN_of hmG (K := 3) (by omega) (by omega)
  have q4 := mN_of hmG (K := 4) (by omega) (by omega)
  have q5 := mN_of hmG (K := 5) (by omega) (by omega)
  have q6 := mN_of hmG (K := 6) (by omega) (by omega)
  have q7 := mN_of hmG (K := 7) (by omega) (by omega)
  refine lv_aload_n hx hb d_La_law_369 rfl (lv_at hl 2 rfl) ?_
  refine lv_aload_n hx hb d_La_law_370 rfl (lv_at hl 1 rfl) ?_
  refine lv_iload hx hb d_La_law_371 (lv_at hl 0 rfl) ?_
  refine lv_iconst (v := 1) hx hb d_La_law_373 (by decide) ?_
  refine lv_iadd hx hb d_La_law_374 ?_
  refine va_sld (i := nI i + 1) hx hb hX hbl hbA hS (sc_in (K := 1) (by omega) hLL) d_La_law_375 ?_
  rw [show (nI i + 1).toNatClampNeg = i + 1 from sc_ix (K := 1) (by omega)]
  refine lv_aload_n hx hb d_La_law_376 rfl (lv_at hl 1 rfl) ?_
  refine lv_iload hx hb d_La_law_377 (lv_at hl 0 rfl) ?_
  refine lv_iconst (v := 2) hx hb d_La_law_379 (by decide) ?_
  refine lv_iadd hx hb d_La_law_380 ?_
  refine va_sld (i := nI i + 2) hx hb hX hbl hbA hS (sc_in (K := 2) (by omega) hLL) d_La_law_381 ?_
  rw [show (nI i + 2).toNatClampNeg = i + 2 from sc_ix (K := 2) (by omega)]
  refine lv_aload_n hx hb d_La_law_382 rfl (lv_at hl 1 rfl) ?_
  refine lv_iload hx hb d_La_law_383 (lv_at hl 0 rfl) ?_
  refine lv_iconst (v := 3) hx hb d_La_law_385 (by decide) ?_
  refine lv_iadd hx hb d_La_law_386 ?_
  refine va_sld (i := nI i + 3) hx hb hX hbl hbA hS (sc_in (K := 3) (by omega) hLL) d_La_law_387 ?_
  rw [show (nI i + 3).toNatClampNeg = i + 3 from sc_ix (K := 3) (by omega)]
  refine lv_aload_n hx hb d_La_law_388 rfl (lv_at hl 4 rfl) ?_
  refine rc_I (va_runSW (As := [.ref b.ho, .int (xs (i + 1)), .int (xs (i + 2)), .int (xs (i + 3)), .ref ou]) (rest := []) ⟨hx, hb, hml, hown, hts⟩ (c_La_via l hls D s.heap.size k V b σ hW0 ou g hou hlo (xs (i + 1)) (xs (i + 2)) (xs (i + 3))) (va_cwSW 5 hts (gi_Sw wm_La_103 wt_La_via wi_La wcw_La_via) rfl rfl rfl (by decide +kernel) ⟨Nat.le_of_ble_eq_true rfl, Nat.le_of_ble_eq_true rfl⟩) (mPx.preS hG hN hS hV) rfl rfl hl.1 rfl (lv_room (Nat.le_of_ble_eq_true rfl)) d_La_law_389 ⟨show cells + 2 ≤ 601024 by omega, show slots + 11 ≤ 7293000 by omega⟩) hS (fun r V1 H locs hp1 hV hS => ?_)
  obtain ⟨b1, σ1, g1, hW1, ho1, hF1, hR1⟩ := hp1
  have hho : b1.ho = b.ho := hF1.1
  obtain ⟨hM1, hl1, hl2, hl3⟩ := md_h hM0 hou hlo hlm hla hF1
  refine lv_istore (lv' := [(5, .int r), (4, .int (nI i)), (0, .ref bb), (1, .ref b.ho), (2, .ref mo), (3, .ref ou)]) hx hb d_La_law_392 hl (by decide) rfl (fun ls hl => ?_)
  refine lv_aload_n hx hb d_La_law_394 rfl (lv_at hl 4 rfl) ?_
  refine lv_aload_n hx hb d_La_law_395 rfl (lv_at hl 2 rfl) ?_
  refine lv_iload hx hb d_La_law_396 (lv_at hl 1 rfl) ?_
  refine lv_iconst (v := 1) hx hb d_La_law_398 (by decide) ?_
  refine lv_iadd hx hb d_La_law_399 ?_
  refine va_sld (i := nI i + 1) hx hb hX hbl hbA hS (sc_in (K := 1) (by omega) hLL) d_La_law_400 ?_
  rw [show (nI i + 1).toNatClampNeg = i + 1 from sc_ix (K := 1) (by omega)]
  refine lv_aload_n hx hb d_La_law_401 rfl (lv_at hl 2 rfl) ?_
  refine lv_iload hx hb d_La_law_402 (lv_at hl 1 rfl) ?_
  refine lv_iconst (v := 2) hx hb d_La_law_404 (by decide) ?_
  refine lv_iadd hx hb d_La_law_405 ?_
  refine va_sld (i := nI i + 2) hx hb hX hbl hbA hS (sc_in (K := 2) (by omega) hLL) d_La_law_406 ?_
  rw [show (nI i + 2).toNatClampNeg = i + 2 from sc_ix (K := 2) (by omega)]
  refine lv_aload_n hx hb d_La_law_407 rfl (lv_at hl 2 rfl) ?_
  refine lv_iload hx hb d_La_law_408 (lv_at hl 1 rfl) ?_
  refine lv_iconst (v := 3) hx hb d_La_law_410 (by decide) ?_
  refine lv_iadd hx hb d_La_law_411 ?_
  refine va_sld (i := nI i + 3) hx hb hX hbl hbA hS (sc_in (K := 3) (by omega) hLL) d_La_law_412 ?_
  rw [show (nI i + 3).toNatClampNeg = i + 3 from sc_ix (K := 3) (by omega)]
  have kk : ∀ (r2 : Int32) (V2 : HV) (ρ2 : MS) (H : Heap) (locs : List Loc), mdOk k V2 mo ad ρ2 → mdFr mo ad V1 V2 → viaM ρ (xs (i + 1)) (xs (i + 2)) (xs (i + 3)) r2 ρ2 → hv D vwCl s.heap.size V2 H → va_S (hA s.heap.size) s.heap H locs → W p l e room_1 s m #[Value.ref bb] below meth c H locs (cells + 2 + 0) (slots + 11 + 0) Q (F0 m 416 ls [.int r2]) := by
    intro r2 V2 ρ2 H locs hM3 hF2 hA2 hV hS
    obtain ⟨hJ2, hs2, ha2⟩ := hJ σ ρ hI0 hJ0 (xs (i + 1)) (xs (i + 2)) (xs (i + 3)) r (g1 0) σ1 r2 ρ2 hR1 hA2
    obtain ⟨hW2, ho2⟩ := md_m hW1 hM1 ho1 hl2 hl3 hF2
    refine lv_istore (lv' := [(6, .int r2), (5, .int r), (4, .int (nI i)), (0, .ref bb), (1, .ref b.ho), (2, .ref mo), (3, .ref ou)]) hx hb d_La_law_416 hl (by decide) rfl (fun ls hl => ?_)
    refine lv_aload_n hx hb d_La_law_418 rfl (lv_at hl 5 rfl) ?_
    refine rc_i (va_runV (As := []) (rest := []) ⟨hx, hb, hml, hown, hts⟩ (c_Mo_thrown l D s.heap.size k V2 mo ad ρ2 hM3) (cwV 0 hts (gi_Vw wm_La_96 wv_Mo_thrown ws_Mo_thrown wi_Mo wc_Mo_thrown) rfl rfl rfl (by decide +kernel) ⟨Nat.le_of_ble_eq_true rfl, Nat.le_of_ble_eq_true rfl⟩) (mP.preV hG hS hV hM3.1 rfl) rfl rfl hl.1 rfl (lv_room (Nat.le_of_ble_eq_true rfl)) d_La_law_419 ⟨show cells + 2 + 0 + 0 ≤ 601024 by omega, show slots + 11 + 0 + 0 ≤ 7293000 by omega⟩) hS (fun H locs hV hS => ?_)
    refine lv_iload hx hb d_La_law_422 (lv_at hl 1 rfl) ?_
    refine lv_icmp_eq (tgt := 429) hx hb d_La_law_424 (by decide) (fun _ => ?_) (fun q => absurd hs2 q)
    refine lv_iload hx hb d_La_law_429 (lv_at hl 1 rfl) ?_
    refine lv_if_ne (tgt := 446) hx hb d_La_law_431 (by decide) (fun _ => ?_) (fun c5 => ?_)
    · refine lv_goto (tgt := 1479) hx hb d_La_law_446 (by decide) ?_
      refine W.widen (k := cells + 4) (n := slots + 159) (by omega) (by omega) ?_
      refine kc V2 b1 σ1 ρ2 g1 H locs ls hho ⟨hW2, hM3, ho2, hl1, hl2, hl3, hJ2⟩ hV hS ?_
      exact lv_sub hl [2, 3, 4, 5, 6] rfl
    · refine lv_aload_n hx hb d_La_law_434 rfl (lv_at hl 6 rfl) ?_
      refine lv_iconst (v := 0) hx hb d_La_law_435 (by decide) ?_
      refine hv_lald hx hb hG.K hV 1 ho2 rfl ((vp_in_nI (by omega) (by omega) : vp_in (nI 0) 1)) d_La_law_436 ?_
      rw [show (0 : Int32).toNatClampNeg = 0 from rfl]
      refine lv_iload hx hb d_La_law_437 (lv_at hl 0 rfl) ?_
      refine lv_i2l hx hb d_La_law_439 rfl ?_
      refine lv_lcmp hx hb d_La_law_440 ?_
      refine lv_if_eq (tgt := 446) hx hb d_La_law_441 (by decide) (fun _ => ?_) (fun q => absurd (lcm_0.mpr (ha2 c5)) q)
      refine lv_goto (tgt := 1479) hx hb d_La_law_446 (by decide) ?_
      refine W.widen (k := cells + 4) (n := slots + 159) (by omega) (by omega) ?_
      refine kc V2 b1 σ1 ρ2 g1 H locs ls hho ⟨hW2, hM3, ho2, hl1, hl2, hl3, hJ2⟩ hV hS ?_
      exact lv_sub hl [2, 3, 4, 5, 6] rfl
  exact rc_I (va_runV (As := [.int (xs (i + 1)), .int (xs (i + 2)), .int (xs (i + 3))]) (rest := []) ⟨hx, hb, hml, hown, hts⟩ (c_Mo_via l D s.heap.size k V1 mo ad ρ hM1 (xs (i + 1)) (xs (i + 2)) (xs (i + 3)) (mN ρ 3) q3.2 q3.1 (mN ρ 6) q6.2 q6.1 hmW) (cwV 3 hts (gi_Vw wm_La_106 wv_Mo_via ws_Mo_via wi_Mo wc_Mo_via) rfl rfl rfl (by decide +kernel) ⟨Nat.le_of_ble_eq_true rfl, Nat.le_of_ble_eq_true rfl⟩) (mP.preV hG hS hV hM1.1 rfl) rfl rfl hl.1 rfl (lv_room (Nat.le_of_ble_eq_true rfl)) d_La_law_413 ⟨show cells + 2 + 0 ≤ 601024 by omega, show slots + 11 + 0 ≤ 7293000 by omega⟩) hS (fun r2 V2 H locs hp2 hV hS => kk r2 V2 _ H locs hp2.1 hp2.2.1 ⟨hp2.2.2, rfl⟩ hV hS)
set_option maxHeartbeats 4000000 in
set_option maxRecDepth 100000 in
/-- the law's case: track -/
theorem l_track {J : HS → MS → Prop} (hJ : ok_track J) (hPre : ok_pre J) {p : Program} {l : Launch} {e : Env} {s : State} {m : MethodId} {below : List Frame} {meth : Method} {c : Code} {Q : State → Prop} {D : va_G} {k : Nat → Nat} {bb L : Nat} {xs : Nat → Int32} (C : LC p l s m c D k bb L xs) {V : HV} {b : HA} {σ : HS} {mo : Nat} {ad : Nat → Nat} {ρ : MS} {ou : Nat} {g : Nat → Int64} (hL : LJ J k V b σ mo ad ρ ou g) {H : Heap} {locs : List Loc} {ls : Array Slot} {i cells slots : Nat} (hi : i + 7 ≤ L) (hc : cells + 4 ≤ 601024) (hs : slots + 159 ≤ 7293000) (hV : hv D vwCl s.heap.size V H) (hS : va_S (hA s.heap.size) s.heap H locs) (hl : lv_has ls 7 [(4, .int (nI i)), (0, .ref bb), (1, .ref b.ho), (2, .ref mo), (3, .ref ou)])
    (kc : ∀ (V' : HV) (b' : HA) (σ' : HS) (ρ' : MS) (g' : Nat → Int64) (H' : Heap) (locs' : List Loc) (ls' : Array Slot), b'.ho = b.ho → LJ J k V' b' σ' mo ad ρ' ou g' → hv D vwCl s.heap.size V' H' → va_S (hA s.heap.size) s.heap H' locs' → lv_has ls' 7 [(4, .int (nI i)), (0, .ref bb), (1, .ref b.ho), (2, .ref mo), (3, .ref ou)] → W p l e room_1 s m #[Value.ref bb] below meth c H' locs' (cells + 4) (slots + 159) Q (F0 m 1479 ls' [])) :
    W p l e room_1 s m #[Value.ref bb] below meth c H locs cells slots Q (F0 m 449 ls []) := by
  obtain ⟨hx, hb, hml, hown, hts, hG, hN, hX, hbl, hLL, hls⟩ := C
  obtain ⟨hW0, hM0, hou, hlo, hlm, hla, hJ0⟩ := hL
  have hW : ∀ w ∈ WS, w.before _ s = true := fun w h => hts w (List.mem_cons_of_mem _ h)
  have hbA : ¬ (hA s.heap.size) bb := Nat.not_le.mpr hbl
  have hI0 := hsI_of hW0
  obtain ⟨⟨hmG, hmW, hm16, hm1⟩, hg1, hg2, hg3, hg4, hg5, hg6, hg7, hg8⟩ := hPre σ ρ hI0 hJ0
  have q2 := mN_of hmG (K := 2) (by omega) (by omega)
  have q3 := mN_of hmG (K := 3) (by omega) (by omega)
  have q4 := mN_of hmG (K := 4) (by omega) (by omega)
  have q5 := mN_of hmG (K := 5) (by omega) (by omega)
  have q6 := mN_of hmG (K := 6) (by omega) (by omega)
  have q7 := mN_of hmG (K := 7) (by omega) (by omega)
  refine lv_aload_n hx hb d_La_law_449 rfl (lv_at hl 2 rfl) ?_
  refine lv_aload_n hx hb d_La_law_450 rfl (lv_at hl 1 rfl) ?_
  refine lv_iload hx hb d_La_law_451 (lv_at hl 0 rfl) ?_
  refine lv_iconst (v := 1) hx hb d_La_law_453 (by decide) ?_
  refine lv_iadd hx hb d_La_law_454 ?_
  refine va_sld (i := nI i + 1) hx hb hX hbl hbA hS (sc_in (K := 1) (by omega) hLL) d_La_law_455 ?_
  rw [show (nI i + 1).toNatClampNeg = i + 1 from sc_ix (K := 1) (by omega)]
  refine lv_aload_n hx hb d_La_law_456 rfl (lv_at hl 1 rfl) ?_
  refine lv_iload hx hb d_La_law_457 (lv_at hl 0 rfl) ?_
  refine lv_iconst (v := 2) hx hb d_La_law_459 (by decide) ?_
  refine lv_iadd hx hb d_La_law_460 ?_
  refine va_sld (i := nI i + 2) hx hb hX hbl hbA hS (sc_in (K := 2) (by omega) hLL) d_La_law_461 ?_
  rw [show (nI i + 2).toNatClampNeg = i + 2 from sc_ix (K := 2) (by omega)]
  refine lv_aload_n hx hb d_La_law_462 rfl (lv_at hl 1 rfl) ?_
  refine lv_iload hx hb d_La_law_463 (lv_at hl 0 rfl) ?_
  refine lv_iconst (v := 3) hx hb d_La_law_465 (by decide) ?_
  refine lv_iadd hx hb d_La_law_466 ?_
  refine va_sld (i := nI i + 3) hx hb hX hbl hbA hS (sc_in (K := 3) (by omega) hLL) d_La_law_467 ?_
  rw [show (nI i + 3).toNatClampNeg = i + 3 from sc_ix (K := 3) (by omega)]
  refine lv_aload_n hx hb d_La_law_468 rfl (lv_at hl 1 rfl) ?_
  refine lv_iload hx hb d_La_law_469 (lv_at hl 0 rfl) ?_
  refine lv_iconst (v := 4) hx hb d_La_law_471 (by decide) ?_
  refine lv_iadd hx hb d_La_law_472 ?_
  refine va_sld (i := nI i + 4) hx hb hX hbl hbA hS (sc_in (K := 4) (by omega) hLL) d_La_law_473 ?_
  rw [show (nI i + 4).toNatClampNeg = i + 4 from sc_ix (K := 4) (by omega)]
  refine lv_aload_n hx hb d_La_law_474 rfl (lv_at hl 1 rfl) ?_
  refine lv_iload hx hb d_La_law_475 (lv_at hl 0 rfl) ?_
  refine lv_iconst (v := 5) hx hb d_La_law_477 (by decide) ?_
  refine lv_iadd hx hb d_La_law_478 ?_
  refine va_sld (i := nI i + 5) hx hb hX hbl hbA hS (sc_in (K := 5) (by omega) hLL) d_La_law_479 ?_
  rw [show (nI i + 5).toNatClampNeg = i + 5 from sc_ix (K := 5) (by omega)]
  refine lv_aload_n hx hb d_La_law_480 rfl (lv_at hl 1 rfl) ?_
  refine lv_iload hx hb d_La_law_481 (lv_at hl 0 rfl) ?_
  refine lv_bipush (v := 6) hx hb d_La_law_483 (by decide) ?_
  refine lv_iadd hx hb d_La_law_485 ?_
  refine va_sld (i := nI i + 6) hx hb hX hbl hbA hS (sc_in (K := 6) (by omega) hLL) d_La_law_486 ?_
  rw [show (nI i + 6).toNatClampNeg = i + 6 from sc_ix (K := 6) (by omega)]
  refine lv_aload_n hx hb d_La_law_487 rfl (lv_at hl 4 rfl) ?_
  refine rc_I (va_runSW (As := [.ref b.ho, .int (xs (i + 1)), .int (xs (i + 2)), .int (xs (i + 3)), .int (xs (i + 4)), .int (xs (i + 5)), .int (xs (i + 6)), .ref ou]) (rest := []) ⟨hx, hb, hml, hown, hts⟩ (c_La_track l hls D s.heap.size k V b σ hW0 ou g hou hlo (xs (i + 1)) (xs (i + 2)) (xs (i + 3)) (xs (i + 4)) (xs (i + 5)) (xs (i + 6))) (va_cwSW 8 hts (gi_Sw wm_La_107 wt_La_track wi_La wcw_La_track) rfl rfl rfl (by decide +kernel) ⟨Nat.le_of_ble_eq_true rfl, Nat.le_of_ble_eq_true rfl⟩) (mPx.preS hG hN hS hV) rfl rfl hl.1 rfl (lv_room (Nat.le_of_ble_eq_true rfl)) d_La_law_488 ⟨show cells + 2 ≤ 601024 by omega, show slots + 11 ≤ 7293000 by omega⟩) hS (fun r V1 H locs hp1 hV hS => ?_)
  obtain ⟨b1, σ1, g1, hW1, ho1, hF1, hR1⟩ := hp1
  have hho : b1.ho = b.ho := hF1.1
  obtain ⟨hM1, hl1, hl2, hl3⟩ := md_h hM0 hou hlo hlm hla hF1
  refine lv_istore (lv' := [(5, .int r), (4, .int (nI i)), (0, .ref bb), (1, .ref b.ho), (2, .ref mo), (3, .ref ou)]) hx hb d_La_law_491 hl (by decide) rfl (fun ls hl => ?_)
  refine lv_aload_n hx hb d_La_law_493 rfl (lv_at hl 4 rfl) ?_
  refine lv_aload_n hx hb d_La_law_494 rfl (lv_at hl 2 rfl) ?_
  refine lv_iload hx hb d_La_law_495 (lv_at hl 1 rfl) ?_
  refine lv_iconst (v := 1) hx hb d_La_law_497 (by decide) ?_
  refine lv_iadd hx hb d_La_law_498 ?_
  refine va_sld (i := nI i + 1) hx hb hX hbl hbA hS (sc_in (K := 1) (by omega) hLL) d_La_law_499 ?_
  rw [show (nI i + 1).toNatClampNeg = i + 1 from sc_ix (K := 1) (by omega)]
  refine lv_aload_n hx hb d_La_law_500 rfl (lv_at hl 2 rfl) ?_
  refine lv_iload hx hb d_La_law_501 (lv_at hl 1 rfl) ?_
  refine lv_iconst (v := 2) hx hb d_La_law_503 (by decide) ?_
  refine lv_iadd hx hb d_La_law_504 ?_
  refine va_sld (i := nI i + 2) hx hb hX hbl hbA hS (sc_in (K := 2) (by omega) hLL) d_La_law_505 ?_
  rw [show (nI i + 2).toNatClampNeg = i + 2 from sc_ix (K := 2) (by omega)]
  refine lv_aload_n hx hb d_La_law_506 rfl (lv_at hl 2 rfl) ?_
  refine lv_iload hx hb d_La_law_507 (lv_at hl 1 rfl) ?_
  refine lv_iconst (v := 3) hx hb d_La_law_509 (by decide) ?_
  refine lv_iadd hx hb d_La_law_510 ?_
  refine va_sld (i := nI i + 3) hx hb hX hbl hbA hS (sc_in (K := 3) (by omega) hLL) d_La_law_511 ?_
  rw [show (nI i + 3).toNatClampNeg = i + 3 from sc_ix (K := 3) (by omega)]
  refine lv_aload_n hx hb d_La_law_512 rfl (lv_at hl 2 rfl) ?_
  refine lv_iload hx hb d_La_law_513 (lv_at hl 1 rfl) ?_
  refine lv_iconst (v := 4) hx hb d_La_law_515 (by decide) ?_
  refine lv_iadd hx hb d_La_law_516 ?_
  refine va_sld (i := nI i + 4) hx hb hX hbl hbA hS (sc_in (K := 4) (by omega) hLL) d_La_law_517 ?_
  rw [show (nI i + 4).toNatClampNeg = i + 4 from sc_ix (K := 4) (by omega)]
  refine lv_aload_n hx hb d_La_law_518 rfl (lv_at hl 2 rfl) ?_
  refine lv_iload hx hb d_La_law_519 (lv_at hl 1 rfl) ?_
  refine lv_iconst (v := 5) hx hb d_La_law_521 (by decide) ?_
  refine lv_iadd hx hb d_La_law_522 ?_
  refine va_sld (i := nI i + 5) hx hb hX hbl hbA hS (sc_in (K := 5) (by omega) hLL) d_La_law_523 ?_
  rw [show (nI i + 5).toNatClampNeg = i + 5 from sc_ix (K := 5) (by omega)]
  refine lv_aload_n hx hb d_La_law_524 rfl (lv_at hl 2 rfl) ?_
  refine lv_iload hx hb d_La_law_525 (lv_at hl 1 rfl) ?_
  refine lv_bipush (v := 6) hx hb d_La_law_527 (by decide) ?_
  refine lv_iadd hx hb d_La_law_529 ?_
  refine va_sld (i := nI i + 6) hx hb hX hbl hbA hS (sc_in (K := 6) (by omega) hLL) d_La_law_530 ?_
  rw [show (nI i + 6).toNatClampNeg = i + 6 from sc_ix (K := 6) (by omega)]
  have kk : ∀ (r2 : Int32) (V2 : HV) (ρ2 : MS) (H : Heap) (locs : List Loc), mdOk k V2 mo ad ρ2 → mdFr mo ad V1 V2 → trackM ρ (xs (i + 1)) (xs (i + 2)) (xs (i + 3)) (xs (i + 4)) (xs (i + 5)) (xs (i + 6)) r2 ρ2 → hv D vwCl s.heap.size V2 H → va_S (hA s.heap.size) s.heap H locs → W p l e room_1 s m #[Value.ref bb] below meth c H locs (cells + 2 + 0) (slots + 11 + 0) Q (F0 m 534 ls [.int r2]) := by
    intro r2 V2 ρ2 H locs hM3 hF2 hA2 hV hS
    obtain ⟨hJ2, hs2, ha2⟩ := hJ σ ρ hI0 hJ0 (xs (i + 1)) (xs (i + 2)) (xs (i + 3)) (xs (i + 4)) (xs (i + 5)) (xs (i + 6)) r (g1 0) σ1 r2 ρ2 hR1 hA2
    obtain ⟨hW2, ho2⟩ := md_m hW1 hM1 ho1 hl2 hl3 hF2
    refine lv_istore (lv' := [(6, .int r2), (5, .int r), (4, .int (nI i)), (0, .ref bb), (1, .ref b.ho), (2, .ref mo), (3, .ref ou)]) hx hb d_La_law_534 hl (by decide) rfl (fun ls hl => ?_)
    refine lv_aload_n hx hb d_La_law_536 rfl (lv_at hl 5 rfl) ?_
    refine rc_i (va_runV (As := []) (rest := []) ⟨hx, hb, hml, hown, hts⟩ (c_Mo_thrown l D s.heap.size k V2 mo ad ρ2 hM3) (cwV 0 hts (gi_Vw wm_La_96 wv_Mo_thrown ws_Mo_thrown wi_Mo wc_Mo_thrown) rfl rfl rfl (by decide +kernel) ⟨Nat.le_of_ble_eq_true rfl, Nat.le_of_ble_eq_true rfl⟩) (mP.preV hG hS hV hM3.1 rfl) rfl rfl hl.1 rfl (lv_room (Nat.le_of_ble_eq_true rfl)) d_La_law_537 ⟨show cells + 2 + 0 + 0 ≤ 601024 by omega, show slots + 11 + 0 + 0 ≤ 7293000 by omega⟩) hS (fun H locs hV hS => ?_)
    refine lv_iload hx hb d_La_law_540 (lv_at hl 1 rfl) ?_
    refine lv_icmp_eq (tgt := 547) hx hb d_La_law_542 (by decide) (fun _ => ?_) (fun q => absurd hs2 q)
    refine lv_iload hx hb d_La_law_547 (lv_at hl 1 rfl) ?_
    refine lv_if_ne (tgt := 564) hx hb d_La_law_549 (by decide) (fun _ => ?_) (fun c5 => ?_)
    · refine lv_goto (tgt := 1479) hx hb d_La_law_564 (by decide) ?_
      refine W.widen (k := cells + 4) (n := slots + 159) (by omega) (by omega) ?_
      refine kc V2 b1 σ1 ρ2 g1 H locs ls hho ⟨hW2, hM3, ho2, hl1, hl2, hl3, hJ2⟩ hV hS ?_
      exact lv_sub hl [2, 3, 4, 5, 6] rfl
    · refine lv_aload_n hx hb d_La_law_552 rfl (lv_at hl 6 rfl) ?_
      refine lv_iconst (v := 0) hx hb d_La_law_553 (by decide) ?_
      refine hv_lald hx hb hG.K hV 1 ho2 rfl ((vp_in_nI (by omega) (by omega) : vp_in (nI 0) 1)) d_La_law_554 ?_
      rw [show (0 : Int32).toNatClampNeg = 0 from rfl]
      refine lv_iload hx hb d_La_law_555 (lv_at hl 0 rfl) ?_
      refine lv_i2l hx hb d_La_law_557 rfl ?_
      refine lv_lcmp hx hb d_La_law_558 ?_
      refine lv_if_eq (tgt := 564) hx hb d_La_law_559 (by decide) (fun _ => ?_) (fun q => absurd (lcm_0.mpr (ha2 c5)) q)
      refine lv_goto (tgt := 1479) hx hb d_La_law_564 (by decide) ?_
      refine W.widen (k := cells + 4) (n := slots + 159) (by omega) (by omega) ?_
      refine kc V2 b1 σ1 ρ2 g1 H locs ls hho ⟨hW2, hM3, ho2, hl1, hl2, hl3, hJ2⟩ hV hS ?_
      exact lv_sub hl [2, 3, 4, 5, 6] rfl
  exact rc_I (va_runV (As := [.int (xs (i + 1)), .int (xs (i + 2)), .int (xs (i + 3)), .int (xs (i + 4)), .int (xs (i + 5)), .int (xs (i + 6))]) (rest := []) ⟨hx, hb, hml, hown, hts⟩ (c_Mo_track l D s.heap.size k V1 mo ad ρ hM1 (xs (i + 1)) (xs (i + 2)) (xs (i + 3)) (xs (i + 4)) (xs (i + 5)) (xs (i + 6)) (mN ρ 4) q4.2 q4.1 (mN ρ 6) q6.2 q6.1 hmW) (cwV 6 hts (gi_Vw wm_La_110 wv_Mo_track ws_Mo_track wi_Mo wc_Mo_track) rfl rfl rfl (by decide +kernel) ⟨Nat.le_of_ble_eq_true rfl, Nat.le_of_ble_eq_true rfl⟩) (mP.preV hG hS hV hM1.1 rfl) rfl rfl hl.1 rfl (lv_room (Nat.le_of_ble_eq_true rfl)) d_La_law_531 ⟨show cells + 2 + 0 ≤ 601024 by omega, show slots + 11 + 0 ≤ 7293000 by omega⟩) hS (fun r2 V2 H locs hp2 hV hS => kk r2 V2 _ H locs hp2.1 hp2.2.1 ⟨hp2.2.2, rfl⟩ hV hS)
set_option maxHeartbeats 4000000 in
set_option maxRecDepth 100000 in
/-- the law's case: plane -/
theorem l_plane {J : HS → MS → Prop} (hJ : ok_plane J) (hPre : ok_pre J) {p : Program} {l : Launch} {e : Env} {s : State} {m : MethodId} {below : List Frame} {meth : Method} {c : Code} {Q : State → Prop} {D : va_G} {k : Nat → Nat} {bb L : Nat} {xs : Nat → Int32} (C : LC p l s m c D k bb L xs) {V : HV} {b : HA} {σ : HS} {mo : Nat} {ad : Nat → Nat} {ρ : MS} {ou : Nat} {g : Nat → Int64} (hL : LJ J k V b σ mo ad ρ ou g) {H : Heap} {locs : List Loc} {ls : Array Slot} {i cells slots : Nat} (hi : i + 7 ≤ L) (hc : cells + 4 ≤ 601024) (hs : slots + 159 ≤ 7293000) (hV : hv D vwCl s.heap.size V H) (hS : va_S (hA s.heap.size) s.heap H locs) (hl : lv_has ls 7 [(4, .int (nI i)), (0, .ref bb), (1, .ref b.ho), (2, .ref mo), (3, .ref ou)])
    (kc : ∀ (V' : HV) (b' : HA) (σ' : HS) (ρ' : MS) (g' : Nat → Int64) (H' : Heap) (locs' : List Loc) (ls' : Array Slot), b'.ho = b.ho → LJ J k V' b' σ' mo ad ρ' ou g' → hv D vwCl s.heap.size V' H' → va_S (hA s.heap.size) s.heap H' locs' → lv_has ls' 7 [(4, .int (nI i)), (0, .ref bb), (1, .ref b.ho), (2, .ref mo), (3, .ref ou)] → W p l e room_1 s m #[Value.ref bb] below meth c H' locs' (cells + 4) (slots + 159) Q (F0 m 1479 ls' [])) :
    W p l e room_1 s m #[Value.ref bb] below meth c H locs cells slots Q (F0 m 567 ls []) := by
  obtain ⟨hx, hb, hml, hown, hts, hG, hN, hX, hbl, hLL, hls⟩ := C
  obtain ⟨hW0, hM0, hou, hlo, hlm, hla, hJ0⟩ := hL
  have hW : ∀ w ∈ WS, w.before _ s = true := fun w h => hts w (List.mem_cons_of_mem _ h)
  have hbA : ¬ (hA s.heap.size) bb := Nat.not_le.mpr hbl
  have hI0 := hsI_of hW0
  obtain ⟨⟨hmG, hmW, hm16, hm1⟩, hg1, hg2, hg3, hg4, hg5, hg6, hg7, hg8⟩ := hPre σ ρ hI0 hJ0
  have q2 := mN_of hmG (K := 2) (by omega) (by omega)
  have q3 := mN_of hmG (K := 3) (by omega) (by omega)
  have q4 := mN_of hmG (K := 4) (by omega) (by omega)
  have q5 := mN_of hmG (K := 5) (by omega) (by omega)
  have q6 := mN_of hmG (K := 6) (by omega) (by omega)
  have q7 := mN_of hmG (K := 7) (by omega) (by omega)
  refine lv_aload_n hx hb d_La_law_567 rfl (lv_at hl 2 rfl) ?_
  refine lv_aload_n hx hb d_La_law_568 rfl (lv_at hl 1 rfl) ?_
  refine lv_iload hx hb d_La_law_569 (lv_at hl 0 rfl) ?_
  refine lv_iconst (v := 1) hx hb d_La_law_571 (by decide) ?_
  refine lv_iadd hx hb d_La_law_572 ?_
  refine va_sld (i := nI i + 1) hx hb hX hbl hbA hS (sc_in (K := 1) (by omega) hLL) d_La_law_573 ?_
  rw [show (nI i + 1).toNatClampNeg = i + 1 from sc_ix (K := 1) (by omega)]
  refine lv_aload_n hx hb d_La_law_574 rfl (lv_at hl 1 rfl) ?_
  refine lv_iload hx hb d_La_law_575 (lv_at hl 0 rfl) ?_
  refine lv_iconst (v := 2) hx hb d_La_law_577 (by decide) ?_
  refine lv_iadd hx hb d_La_law_578 ?_
  refine va_sld (i := nI i + 2) hx hb hX hbl hbA hS (sc_in (K := 2) (by omega) hLL) d_La_law_579 ?_
  rw [show (nI i + 2).toNatClampNeg = i + 2 from sc_ix (K := 2) (by omega)]
  refine lv_aload_n hx hb d_La_law_580 rfl (lv_at hl 4 rfl) ?_
  refine rc_I (va_runSW (As := [.ref b.ho, .int (xs (i + 1)), .int (xs (i + 2)), .ref ou]) (rest := []) ⟨hx, hb, hml, hown, hts⟩ (c_La_plane l hls D s.heap.size k V b σ hW0 ou g hou hlo (xs (i + 1)) (xs (i + 2))) (va_cwSW 4 hts (gi_Sw wm_La_111 wt_La_plane wi_La wcw_La_plane) rfl rfl rfl (by decide +kernel) ⟨Nat.le_of_ble_eq_true rfl, Nat.le_of_ble_eq_true rfl⟩) (mPx.preS hG hN hS hV) rfl rfl hl.1 rfl (lv_room (Nat.le_of_ble_eq_true rfl)) d_La_law_581 ⟨show cells + 2 ≤ 601024 by omega, show slots + 11 ≤ 7293000 by omega⟩) hS (fun r V1 H locs hp1 hV hS => ?_)
  obtain ⟨b1, σ1, g1, hW1, ho1, hF1, hR1⟩ := hp1
  have hho : b1.ho = b.ho := hF1.1
  obtain ⟨hM1, hl1, hl2, hl3⟩ := md_h hM0 hou hlo hlm hla hF1
  refine lv_istore (lv' := [(5, .int r), (4, .int (nI i)), (0, .ref bb), (1, .ref b.ho), (2, .ref mo), (3, .ref ou)]) hx hb d_La_law_584 hl (by decide) rfl (fun ls hl => ?_)
  refine lv_aload_n hx hb d_La_law_586 rfl (lv_at hl 4 rfl) ?_
  refine lv_aload_n hx hb d_La_law_587 rfl (lv_at hl 2 rfl) ?_
  refine lv_iload hx hb d_La_law_588 (lv_at hl 1 rfl) ?_
  refine lv_iconst (v := 1) hx hb d_La_law_590 (by decide) ?_
  refine lv_iadd hx hb d_La_law_591 ?_
  refine va_sld (i := nI i + 1) hx hb hX hbl hbA hS (sc_in (K := 1) (by omega) hLL) d_La_law_592 ?_
  rw [show (nI i + 1).toNatClampNeg = i + 1 from sc_ix (K := 1) (by omega)]
  refine lv_aload_n hx hb d_La_law_593 rfl (lv_at hl 2 rfl) ?_
  refine lv_iload hx hb d_La_law_594 (lv_at hl 1 rfl) ?_
  refine lv_iconst (v := 2) hx hb d_La_law_596 (by decide) ?_
  refine lv_iadd hx hb d_La_law_597 ?_
  refine va_sld (i := nI i + 2) hx hb hX hbl hbA hS (sc_in (K := 2) (by omega) hLL) d_La_law_598 ?_
  rw [show (nI i + 2).toNatClampNeg = i + 2 from sc_ix (K := 2) (by omega)]
  have kk : ∀ (r2 : Int32) (V2 : HV) (ρ2 : MS) (H : Heap) (locs : List Loc), mdOk k V2 mo ad ρ2 → mdFr mo ad V1 V2 → planeM ρ (xs (i + 1)) (xs (i + 2)) r2 ρ2 → hv D vwCl s.heap.size V2 H → va_S (hA s.heap.size) s.heap H locs → W p l e room_1 s m #[Value.ref bb] below meth c H locs (cells + 2 + 0) (slots + 11 + 0) Q (F0 m 602 ls [.int r2]) := by
    intro r2 V2 ρ2 H locs hM3 hF2 hA2 hV hS
    obtain ⟨hJ2, hs2, ha2⟩ := hJ σ ρ hI0 hJ0 (xs (i + 1)) (xs (i + 2)) r (g1 0) σ1 r2 ρ2 hR1 hA2
    obtain ⟨hW2, ho2⟩ := md_m hW1 hM1 ho1 hl2 hl3 hF2
    refine lv_istore (lv' := [(6, .int r2), (5, .int r), (4, .int (nI i)), (0, .ref bb), (1, .ref b.ho), (2, .ref mo), (3, .ref ou)]) hx hb d_La_law_602 hl (by decide) rfl (fun ls hl => ?_)
    refine lv_aload_n hx hb d_La_law_604 rfl (lv_at hl 5 rfl) ?_
    refine rc_i (va_runV (As := []) (rest := []) ⟨hx, hb, hml, hown, hts⟩ (c_Mo_thrown l D s.heap.size k V2 mo ad ρ2 hM3) (cwV 0 hts (gi_Vw wm_La_96 wv_Mo_thrown ws_Mo_thrown wi_Mo wc_Mo_thrown) rfl rfl rfl (by decide +kernel) ⟨Nat.le_of_ble_eq_true rfl, Nat.le_of_ble_eq_true rfl⟩) (mP.preV hG hS hV hM3.1 rfl) rfl rfl hl.1 rfl (lv_room (Nat.le_of_ble_eq_true rfl)) d_La_law_605 ⟨show cells + 2 + 0 + 0 ≤ 601024 by omega, show slots + 11 + 0 + 0 ≤ 7293000 by omega⟩) hS (fun H locs hV hS => ?_)
    refine lv_iload hx hb d_La_law_608 (lv_at hl 1 rfl) ?_
    refine lv_icmp_eq (tgt := 615) hx hb d_La_law_610 (by decide) (fun _ => ?_) (fun q => absurd hs2 q)
    refine lv_iload hx hb d_La_law_615 (lv_at hl 1 rfl) ?_
    refine lv_if_ne (tgt := 632) hx hb d_La_law_617 (by decide) (fun _ => ?_) (fun c5 => ?_)
    · refine lv_goto (tgt := 1479) hx hb d_La_law_632 (by decide) ?_
      refine W.widen (k := cells + 4) (n := slots + 159) (by omega) (by omega) ?_
      refine kc V2 b1 σ1 ρ2 g1 H locs ls hho ⟨hW2, hM3, ho2, hl1, hl2, hl3, hJ2⟩ hV hS ?_
      exact lv_sub hl [2, 3, 4, 5, 6] rfl
    · refine lv_aload_n hx hb d_La_law_620 rfl (lv_at hl 6 rfl) ?_
      refine lv_iconst (v := 0) hx hb d_La_law_621 (by decide) ?_
      refine hv_lald hx hb hG.K hV 1 ho2 rfl ((vp_in_nI (by omega) (by omega) : vp_in (nI 0) 1)) d_La_law_622 ?_
      rw [show (0 : Int32).toNatClampNeg = 0 from rfl]
      refine lv_iload hx hb d_La_law_623 (lv_at hl 0 rfl) ?_
      refine lv_i2l hx hb d_La_law_625 rfl ?_
      refine lv_lcmp hx hb d_La_law_626 ?_
      refine lv_if_eq (tgt := 632) hx hb d_La_law_627 (by decide) (fun _ => ?_) (fun q => absurd (lcm_0.mpr (ha2 c5)) q)
      refine lv_goto (tgt := 1479) hx hb d_La_law_632 (by decide) ?_
      refine W.widen (k := cells + 4) (n := slots + 159) (by omega) (by omega) ?_
      refine kc V2 b1 σ1 ρ2 g1 H locs ls hho ⟨hW2, hM3, ho2, hl1, hl2, hl3, hJ2⟩ hV hS ?_
      exact lv_sub hl [2, 3, 4, 5, 6] rfl
  exact rc_I (va_runV (As := [.int (xs (i + 1)), .int (xs (i + 2))]) (rest := []) ⟨hx, hb, hml, hown, hts⟩ (c_Mo_plane l D s.heap.size k V1 mo ad ρ hM1 (xs (i + 1)) (xs (i + 2)) (mN ρ 5) q5.2 q5.1 (mN ρ 6) q6.2 q6.1 hmW) (cwV 2 hts (gi_Vw wm_La_114 wv_Mo_plane ws_Mo_plane wi_Mo wc_Mo_plane) rfl rfl rfl (by decide +kernel) ⟨Nat.le_of_ble_eq_true rfl, Nat.le_of_ble_eq_true rfl⟩) (mP.preV hG hS hV hM1.1 rfl) rfl rfl hl.1 rfl (lv_room (Nat.le_of_ble_eq_true rfl)) d_La_law_599 ⟨show cells + 2 + 0 ≤ 601024 by omega, show slots + 11 + 0 ≤ 7293000 by omega⟩) hS (fun r2 V2 H locs hp2 hV hS => kk r2 V2 _ H locs hp2.1 hp2.2.1 ⟨hp2.2.2, rfl⟩ hV hS)
set_option maxHeartbeats 4000000 in
set_option maxRecDepth 100000 in
/-- the law's case: move -/
theorem l_move {J : HS → MS → Prop} (hJ : ok_move J) (hPre : ok_pre J) {p : Program} {l : Launch} {e : Env} {s : State} {m : MethodId} {below : List Frame} {meth : Method} {c : Code} {Q : State → Prop} {D : va_G} {k : Nat → Nat} {bb L : Nat} {xs : Nat → Int32} (C : LC p l s m c D k bb L xs) {V : HV} {b : HA} {σ : HS} {mo : Nat} {ad : Nat → Nat} {ρ : MS} {ou : Nat} {g : Nat → Int64} (hL : LJ J k V b σ mo ad ρ ou g) {H : Heap} {locs : List Loc} {ls : Array Slot} {i cells slots : Nat} (hi : i + 7 ≤ L) (hc : cells + 4 ≤ 601024) (hs : slots + 159 ≤ 7293000) (hV : hv D vwCl s.heap.size V H) (hS : va_S (hA s.heap.size) s.heap H locs) (hl : lv_has ls 7 [(4, .int (nI i)), (0, .ref bb), (1, .ref b.ho), (2, .ref mo), (3, .ref ou)])
    (kc : ∀ (V' : HV) (b' : HA) (σ' : HS) (ρ' : MS) (g' : Nat → Int64) (H' : Heap) (locs' : List Loc) (ls' : Array Slot), b'.ho = b.ho → LJ J k V' b' σ' mo ad ρ' ou g' → hv D vwCl s.heap.size V' H' → va_S (hA s.heap.size) s.heap H' locs' → lv_has ls' 7 [(4, .int (nI i)), (0, .ref bb), (1, .ref b.ho), (2, .ref mo), (3, .ref ou)] → W p l e room_1 s m #[Value.ref bb] below meth c H' locs' (cells + 4) (slots + 159) Q (F0 m 1479 ls' [])) :
    W p l e room_1 s m #[Value.ref bb] below meth c H locs cells slots Q (F0 m 635 ls []) := by
  obtain ⟨hx, hb, hml, hown, hts, hG, hN, hX, hbl, hLL, hls⟩ := C
  obtain ⟨hW0, hM0, hou, hlo, hlm, hla, hJ0⟩ := hL
  have hW : ∀ w ∈ WS, w.before _ s = true := fun w h => hts w (List.mem_cons_of_mem _ h)
  have hbA : ¬ (hA s.heap.size) bb := Nat.not_le.mpr hbl
  have hI0 := hsI_of hW0
  obtain ⟨⟨hmG, hmW, hm16, hm1⟩, hg1, hg2, hg3, hg4, hg5, hg6, hg7, hg8⟩ := hPre σ ρ hI0 hJ0
  have q2 := mN_of hmG (K := 2) (by omega) (by omega)
  have q3 := mN_of hmG (K := 3) (by omega) (by omega)
  have q4 := mN_of hmG (K := 4) (by omega) (by omega)
  have q5 := mN_of hmG (K := 5) (by omega) (by omega)
  have q6 := mN_of hmG (K := 6) (by omega) (by omega)
  have q7 := mN_of hmG (K := 7) (by omega) (by omega)
  refine lv_aload_n hx hb d_La_law_635 rfl (lv_at hl 2 rfl) ?_
  refine lv_aload_n hx hb d_La_law_636 rfl (lv_at hl 1 rfl) ?_
  refine lv_iload hx hb d_La_law_637 (lv_at hl 0 rfl) ?_
  refine lv_iconst (v := 1) hx hb d_La_law_639 (by decide) ?_
  refine lv_iadd hx hb d_La_law_640 ?_
  refine va_sld (i := nI i + 1) hx hb hX hbl hbA hS (sc_in (K := 1) (by omega) hLL) d_La_law_641 ?_
  rw [show (nI i + 1).toNatClampNeg = i + 1 from sc_ix (K := 1) (by omega)]
  refine lv_aload_n hx hb d_La_law_642 rfl (lv_at hl 1 rfl) ?_
  refine lv_iload hx hb d_La_law_643 (lv_at hl 0 rfl) ?_
  refine lv_iconst (v := 2) hx hb d_La_law_645 (by decide) ?_
  refine lv_iadd hx hb d_La_law_646 ?_
  refine va_sld (i := nI i + 2) hx hb hX hbl hbA hS (sc_in (K := 2) (by omega) hLL) d_La_law_647 ?_
  rw [show (nI i + 2).toNatClampNeg = i + 2 from sc_ix (K := 2) (by omega)]
  refine lv_aload_n hx hb d_La_law_648 rfl (lv_at hl 1 rfl) ?_
  refine lv_iload hx hb d_La_law_649 (lv_at hl 0 rfl) ?_
  refine lv_iconst (v := 3) hx hb d_La_law_651 (by decide) ?_
  refine lv_iadd hx hb d_La_law_652 ?_
  refine va_sld (i := nI i + 3) hx hb hX hbl hbA hS (sc_in (K := 3) (by omega) hLL) d_La_law_653 ?_
  rw [show (nI i + 3).toNatClampNeg = i + 3 from sc_ix (K := 3) (by omega)]
  refine lv_aload_n hx hb d_La_law_654 rfl (lv_at hl 4 rfl) ?_
  refine rc_I (va_runSW (As := [.ref b.ho, .int (xs (i + 1)), .int (xs (i + 2)), .int (xs (i + 3)), .ref ou]) (rest := []) ⟨hx, hb, hml, hown, hts⟩ (c_La_move l hls D s.heap.size k V b σ hW0 ou g hou hlo (xs (i + 1)) (xs (i + 2)) (xs (i + 3))) (va_cwSW 5 hts (gi_Sw wm_La_115 wt_La_move wi_La wcw_La_move) rfl rfl rfl (by decide +kernel) ⟨Nat.le_of_ble_eq_true rfl, Nat.le_of_ble_eq_true rfl⟩) (mPx.preS hG hN hS hV) rfl rfl hl.1 rfl (lv_room (Nat.le_of_ble_eq_true rfl)) d_La_law_655 ⟨show cells + 1 ≤ 601024 by omega, show slots + 6 ≤ 7293000 by omega⟩) hS (fun r V1 H locs hp1 hV hS => ?_)
  obtain ⟨b1, σ1, g1, hW1, ho1, hF1, hR1⟩ := hp1
  have hho : b1.ho = b.ho := hF1.1
  obtain ⟨hM1, hl1, hl2, hl3⟩ := md_h hM0 hou hlo hlm hla hF1
  refine lv_istore (lv' := [(5, .int r), (4, .int (nI i)), (0, .ref bb), (1, .ref b.ho), (2, .ref mo), (3, .ref ou)]) hx hb d_La_law_658 hl (by decide) rfl (fun ls hl => ?_)
  refine lv_aload_n hx hb d_La_law_660 rfl (lv_at hl 4 rfl) ?_
  refine lv_aload_n hx hb d_La_law_661 rfl (lv_at hl 2 rfl) ?_
  refine lv_iload hx hb d_La_law_662 (lv_at hl 1 rfl) ?_
  refine lv_iconst (v := 1) hx hb d_La_law_664 (by decide) ?_
  refine lv_iadd hx hb d_La_law_665 ?_
  refine va_sld (i := nI i + 1) hx hb hX hbl hbA hS (sc_in (K := 1) (by omega) hLL) d_La_law_666 ?_
  rw [show (nI i + 1).toNatClampNeg = i + 1 from sc_ix (K := 1) (by omega)]
  refine lv_aload_n hx hb d_La_law_667 rfl (lv_at hl 2 rfl) ?_
  refine lv_iload hx hb d_La_law_668 (lv_at hl 1 rfl) ?_
  refine lv_iconst (v := 2) hx hb d_La_law_670 (by decide) ?_
  refine lv_iadd hx hb d_La_law_671 ?_
  refine va_sld (i := nI i + 2) hx hb hX hbl hbA hS (sc_in (K := 2) (by omega) hLL) d_La_law_672 ?_
  rw [show (nI i + 2).toNatClampNeg = i + 2 from sc_ix (K := 2) (by omega)]
  refine lv_aload_n hx hb d_La_law_673 rfl (lv_at hl 2 rfl) ?_
  refine lv_iload hx hb d_La_law_674 (lv_at hl 1 rfl) ?_
  refine lv_iconst (v := 3) hx hb d_La_law_676 (by decide) ?_
  refine lv_iadd hx hb d_La_law_677 ?_
  refine va_sld (i := nI i + 3) hx hb hX hbl hbA hS (sc_in (K := 3) (by omega) hLL) d_La_law_678 ?_
  rw [show (nI i + 3).toNatClampNeg = i + 3 from sc_ix (K := 3) (by omega)]
  have kk : ∀ (r2 : Int32) (V2 : HV) (ρ2 : MS) (H : Heap) (locs : List Loc), mdOk k V2 mo ad ρ2 → mdFr mo ad V1 V2 → moveM ρ (xs (i + 1)) (xs (i + 2)) (xs (i + 3)) r2 ρ2 → hv D vwCl s.heap.size V2 H → va_S (hA s.heap.size) s.heap H locs → W p l e room_1 s m #[Value.ref bb] below meth c H locs (cells + 1 + 0) (slots + 6 + 0) Q (F0 m 682 ls [.int r2]) := by
    intro r2 V2 ρ2 H locs hM3 hF2 hA2 hV hS
    obtain ⟨hJ2, hs2, ha2⟩ := hJ σ ρ hI0 hJ0 (xs (i + 1)) (xs (i + 2)) (xs (i + 3)) r (g1 0) σ1 r2 ρ2 hR1 hA2
    obtain ⟨hW2, ho2⟩ := md_m hW1 hM1 ho1 hl2 hl3 hF2
    refine lv_istore (lv' := [(6, .int r2), (5, .int r), (4, .int (nI i)), (0, .ref bb), (1, .ref b.ho), (2, .ref mo), (3, .ref ou)]) hx hb d_La_law_682 hl (by decide) rfl (fun ls hl => ?_)
    refine lv_aload_n hx hb d_La_law_684 rfl (lv_at hl 5 rfl) ?_
    refine rc_i (va_runV (As := []) (rest := []) ⟨hx, hb, hml, hown, hts⟩ (c_Mo_thrown l D s.heap.size k V2 mo ad ρ2 hM3) (cwV 0 hts (gi_Vw wm_La_96 wv_Mo_thrown ws_Mo_thrown wi_Mo wc_Mo_thrown) rfl rfl rfl (by decide +kernel) ⟨Nat.le_of_ble_eq_true rfl, Nat.le_of_ble_eq_true rfl⟩) (mP.preV hG hS hV hM3.1 rfl) rfl rfl hl.1 rfl (lv_room (Nat.le_of_ble_eq_true rfl)) d_La_law_685 ⟨show cells + 1 + 0 + 0 ≤ 601024 by omega, show slots + 6 + 0 + 0 ≤ 7293000 by omega⟩) hS (fun H locs hV hS => ?_)
    refine lv_iload hx hb d_La_law_688 (lv_at hl 1 rfl) ?_
    refine lv_icmp_eq (tgt := 695) hx hb d_La_law_690 (by decide) (fun _ => ?_) (fun q => absurd hs2 q)
    refine lv_iload hx hb d_La_law_695 (lv_at hl 1 rfl) ?_
    refine lv_if_ne (tgt := 719) hx hb d_La_law_697 (by decide) (fun _ => ?_) (fun c5 => ?_)
    · refine lv_goto (tgt := 1479) hx hb d_La_law_719 (by decide) ?_
      refine W.widen (k := cells + 4) (n := slots + 159) (by omega) (by omega) ?_
      refine kc V2 b1 σ1 ρ2 g1 H locs ls hho ⟨hW2, hM3, ho2, hl1, hl2, hl3, hJ2⟩ hV hS ?_
      exact lv_sub hl [2, 3, 4, 5, 6] rfl
    · refine lv_aload_n hx hb d_La_law_700 rfl (lv_at hl 6 rfl) ?_
      refine lv_iconst (v := 0) hx hb d_La_law_701 (by decide) ?_
      refine hv_lald hx hb hG.K hV 1 ho2 rfl ((vp_in_nI (by omega) (by omega) : vp_in (nI 0) 1)) d_La_law_702 ?_
      rw [show (0 : Int32).toNatClampNeg = 0 from rfl]
      refine lv_iload hx hb d_La_law_703 (lv_at hl 0 rfl) ?_
      refine lv_if_eq (tgt := 712) hx hb d_La_law_705 (by decide) (fun c6 => ?_) (fun c6 => ?_)
      · refine lv_lconst (v := 0) hx hb d_La_law_712 (by decide) ?_
        refine lv_lcmp hx hb d_La_law_713 ?_
        refine lv_if_eq (tgt := 719) hx hb d_La_law_714 (by decide) (fun _ => ?_) (fun q => absurd (lcm_0.mpr (by rw [ha2 c5, if_pos c6])) q)
        refine lv_goto (tgt := 1479) hx hb d_La_law_719 (by decide) ?_
        refine W.widen (k := cells + 4) (n := slots + 159) (by omega) (by omega) ?_
        refine kc V2 b1 σ1 ρ2 g1 H locs ls hho ⟨hW2, hM3, ho2, hl1, hl2, hl3, hJ2⟩ hV hS ?_
        exact lv_sub hl [2, 3, 4, 5, 6] rfl
      · refine lv_lconst (v := 1) hx hb d_La_law_708 (by decide) ?_
        refine lv_goto (tgt := 713) hx hb d_La_law_709 (by decide) ?_
        refine lv_lcmp hx hb d_La_law_713 ?_
        refine lv_if_eq (tgt := 719) hx hb d_La_law_714 (by decide) (fun _ => ?_) (fun q => absurd (lcm_0.mpr (by rw [ha2 c5, if_neg c6])) q)
        refine lv_goto (tgt := 1479) hx hb d_La_law_719 (by decide) ?_
        refine W.widen (k := cells + 4) (n := slots + 159) (by omega) (by omega) ?_
        refine kc V2 b1 σ1 ρ2 g1 H locs ls hho ⟨hW2, hM3, ho2, hl1, hl2, hl3, hJ2⟩ hV hS ?_
        exact lv_sub hl [2, 3, 4, 5, 6] rfl
  exact rc_I (va_runV (As := [.int (xs (i + 1)), .int (xs (i + 2)), .int (xs (i + 3))]) (rest := []) ⟨hx, hb, hml, hown, hts⟩ (c_Mo_move l D s.heap.size k V1 mo ad ρ hM1 (xs (i + 1)) (xs (i + 2)) (xs (i + 3)) hmG (mN ρ 2) q2.2 q2.1 (mN ρ 6) q6.2 q6.1 hmW) (cwV 3 hts (gi_Vw wm_La_117 wv_Mo_move ws_Mo_move wi_Mo wc_Mo_move) rfl rfl rfl (by decide +kernel) ⟨Nat.le_of_ble_eq_true rfl, Nat.le_of_ble_eq_true rfl⟩) (mP.preV hG hS hV hM1.1 rfl) rfl rfl hl.1 rfl (lv_room (Nat.le_of_ble_eq_true rfl)) d_La_law_679 ⟨show cells + 1 + 0 ≤ 601024 by omega, show slots + 6 + 0 ≤ 7293000 by omega⟩) hS (fun r2 V2 H locs hp2 hV hS => kk r2 V2 _ H locs hp2.1 hp2.2.1 ⟨hp2.2.2, rfl⟩ hV hS)
set_option maxHeartbeats 4000000 in
set_option maxRecDepth 100000 in
/-- the law's case: drop -/
theorem l_drop {J : HS → MS → Prop} (hJ : ok_drop J) (hPre : ok_pre J) {p : Program} {l : Launch} {e : Env} {s : State} {m : MethodId} {below : List Frame} {meth : Method} {c : Code} {Q : State → Prop} {D : va_G} {k : Nat → Nat} {bb L : Nat} {xs : Nat → Int32} (C : LC p l s m c D k bb L xs) {V : HV} {b : HA} {σ : HS} {mo : Nat} {ad : Nat → Nat} {ρ : MS} {ou : Nat} {g : Nat → Int64} (hL : LJ J k V b σ mo ad ρ ou g) {H : Heap} {locs : List Loc} {ls : Array Slot} {i cells slots : Nat} (hi : i + 7 ≤ L) (hc : cells + 4 ≤ 601024) (hs : slots + 159 ≤ 7293000) (hV : hv D vwCl s.heap.size V H) (hS : va_S (hA s.heap.size) s.heap H locs) (hl : lv_has ls 7 [(4, .int (nI i)), (0, .ref bb), (1, .ref b.ho), (2, .ref mo), (3, .ref ou)])
    (kc : ∀ (V' : HV) (b' : HA) (σ' : HS) (ρ' : MS) (g' : Nat → Int64) (H' : Heap) (locs' : List Loc) (ls' : Array Slot), b'.ho = b.ho → LJ J k V' b' σ' mo ad ρ' ou g' → hv D vwCl s.heap.size V' H' → va_S (hA s.heap.size) s.heap H' locs' → lv_has ls' 7 [(4, .int (nI i)), (0, .ref bb), (1, .ref b.ho), (2, .ref mo), (3, .ref ou)] → W p l e room_1 s m #[Value.ref bb] below meth c H' locs' (cells + 4) (slots + 159) Q (F0 m 1479 ls' [])) :
    W p l e room_1 s m #[Value.ref bb] below meth c H locs cells slots Q (F0 m 722 ls []) := by
  obtain ⟨hx, hb, hml, hown, hts, hG, hN, hX, hbl, hLL, hls⟩ := C
  obtain ⟨hW0, hM0, hou, hlo, hlm, hla, hJ0⟩ := hL
  have hW : ∀ w ∈ WS, w.before _ s = true := fun w h => hts w (List.mem_cons_of_mem _ h)
  have hbA : ¬ (hA s.heap.size) bb := Nat.not_le.mpr hbl
  have hI0 := hsI_of hW0
  obtain ⟨⟨hmG, hmW, hm16, hm1⟩, hg1, hg2, hg3, hg4, hg5, hg6, hg7, hg8⟩ := hPre σ ρ hI0 hJ0
  have q2 := mN_of hmG (K := 2) (by omega) (by omega)
  have q3 := mN_of hmG (K := 3) (by omega) (by omega)
  have q4 := mN_of hmG (K := 4) (by omega) (by omega)
  have q5 := mN_of hmG (K := 5) (by omega) (by omega)
  have q6 := mN_of hmG (K := 6) (by omega) (by omega)
  have q7 := mN_of hmG (K := 7) (by omega) (by omega)
  refine lv_aload_n hx hb d_La_law_722 rfl (lv_at hl 2 rfl) ?_
  refine lv_aload_n hx hb d_La_law_723 rfl (lv_at hl 1 rfl) ?_
  refine lv_iload hx hb d_La_law_724 (lv_at hl 0 rfl) ?_
  refine lv_iconst (v := 1) hx hb d_La_law_726 (by decide) ?_
  refine lv_iadd hx hb d_La_law_727 ?_
  refine va_sld (i := nI i + 1) hx hb hX hbl hbA hS (sc_in (K := 1) (by omega) hLL) d_La_law_728 ?_
  rw [show (nI i + 1).toNatClampNeg = i + 1 from sc_ix (K := 1) (by omega)]
  refine lv_aload_n hx hb d_La_law_729 rfl (lv_at hl 4 rfl) ?_
  refine rc_I (va_runSW (As := [.ref b.ho, .int (xs (i + 1)), .ref ou]) (rest := []) ⟨hx, hb, hml, hown, hts⟩ (c_La_drop l hls D s.heap.size k V b σ hW0 ou g hou hlo (xs (i + 1))) (va_cwSW 3 hts (gi_Sw wm_La_118 wt_La_drop wi_La wcw_La_drop) rfl rfl rfl (by decide +kernel) ⟨Nat.le_of_ble_eq_true rfl, Nat.le_of_ble_eq_true rfl⟩) (mPx.preS hG hN hS hV) rfl rfl hl.1 rfl (lv_room (Nat.le_of_ble_eq_true rfl)) d_La_law_730 ⟨show cells + 1 ≤ 601024 by omega, show slots + 6 ≤ 7293000 by omega⟩) hS (fun r V1 H locs hp1 hV hS => ?_)
  obtain ⟨b1, σ1, g1, hW1, ho1, hF1, hR1⟩ := hp1
  have hho : b1.ho = b.ho := hF1.1
  obtain ⟨hM1, hl1, hl2, hl3⟩ := md_h hM0 hou hlo hlm hla hF1
  refine lv_istore (lv' := [(5, .int r), (4, .int (nI i)), (0, .ref bb), (1, .ref b.ho), (2, .ref mo), (3, .ref ou)]) hx hb d_La_law_733 hl (by decide) rfl (fun ls hl => ?_)
  refine lv_aload_n hx hb d_La_law_735 rfl (lv_at hl 4 rfl) ?_
  refine lv_aload_n hx hb d_La_law_736 rfl (lv_at hl 2 rfl) ?_
  refine lv_iload hx hb d_La_law_737 (lv_at hl 1 rfl) ?_
  refine lv_iconst (v := 1) hx hb d_La_law_739 (by decide) ?_
  refine lv_iadd hx hb d_La_law_740 ?_
  refine va_sld (i := nI i + 1) hx hb hX hbl hbA hS (sc_in (K := 1) (by omega) hLL) d_La_law_741 ?_
  rw [show (nI i + 1).toNatClampNeg = i + 1 from sc_ix (K := 1) (by omega)]
  have kk : ∀ (r2 : Int32) (V2 : HV) (ρ2 : MS) (H : Heap) (locs : List Loc), mdOk k V2 mo ad ρ2 → mdFr mo ad V1 V2 → dropM ρ (xs (i + 1)) r2 ρ2 → hv D vwCl s.heap.size V2 H → va_S (hA s.heap.size) s.heap H locs → W p l e room_1 s m #[Value.ref bb] below meth c H locs (cells + 1 + 0) (slots + 6 + 0) Q (F0 m 745 ls [.int r2]) := by
    intro r2 V2 ρ2 H locs hM3 hF2 hA2 hV hS
    obtain ⟨hJ2, hs2, ha2⟩ := hJ σ ρ hI0 hJ0 (xs (i + 1)) r (g1 0) σ1 r2 ρ2 hR1 hA2
    obtain ⟨hW2, ho2⟩ := md_m hW1 hM1 ho1 hl2 hl3 hF2
    refine lv_istore (lv' := [(6, .int r2), (5, .int r), (4, .int (nI i)), (0, .ref bb), (1, .ref b.ho), (2, .ref mo), (3, .ref ou)]) hx hb d_La_law_745 hl (by decide) rfl (fun ls hl => ?_)
    refine lv_aload_n hx hb d_La_law_747 rfl (lv_at hl 5 rfl) ?_
    refine rc_i (va_runV (As := []) (rest := []) ⟨hx, hb, hml, hown, hts⟩ (c_Mo_thrown l D s.heap.size k V2 mo ad ρ2 hM3) (cwV 0 hts (gi_Vw wm_La_96 wv_Mo_thrown ws_Mo_thrown wi_Mo wc_Mo_thrown) rfl rfl rfl (by decide +kernel) ⟨Nat.le_of_ble_eq_true rfl, Nat.le_of_ble_eq_true rfl⟩) (mP.preV hG hS hV hM3.1 rfl) rfl rfl hl.1 rfl (lv_room (Nat.le_of_ble_eq_true rfl)) d_La_law_748 ⟨show cells + 1 + 0 + 0 ≤ 601024 by omega, show slots + 6 + 0 + 0 ≤ 7293000 by omega⟩) hS (fun H locs hV hS => ?_)
    refine lv_iload hx hb d_La_law_751 (lv_at hl 1 rfl) ?_
    refine lv_icmp_eq (tgt := 758) hx hb d_La_law_753 (by decide) (fun _ => ?_) (fun q => absurd hs2 q)
    refine lv_iload hx hb d_La_law_758 (lv_at hl 1 rfl) ?_
    refine lv_if_ne (tgt := 782) hx hb d_La_law_760 (by decide) (fun _ => ?_) (fun c5 => ?_)
    · refine lv_goto (tgt := 1479) hx hb d_La_law_782 (by decide) ?_
      refine W.widen (k := cells + 4) (n := slots + 159) (by omega) (by omega) ?_
      refine kc V2 b1 σ1 ρ2 g1 H locs ls hho ⟨hW2, hM3, ho2, hl1, hl2, hl3, hJ2⟩ hV hS ?_
      exact lv_sub hl [2, 3, 4, 5, 6] rfl
    · refine lv_aload_n hx hb d_La_law_763 rfl (lv_at hl 6 rfl) ?_
      refine lv_iconst (v := 0) hx hb d_La_law_764 (by decide) ?_
      refine hv_lald hx hb hG.K hV 1 ho2 rfl ((vp_in_nI (by omega) (by omega) : vp_in (nI 0) 1)) d_La_law_765 ?_
      rw [show (0 : Int32).toNatClampNeg = 0 from rfl]
      refine lv_iload hx hb d_La_law_766 (lv_at hl 0 rfl) ?_
      refine lv_if_eq (tgt := 775) hx hb d_La_law_768 (by decide) (fun c6 => ?_) (fun c6 => ?_)
      · refine lv_lconst (v := 0) hx hb d_La_law_775 (by decide) ?_
        refine lv_lcmp hx hb d_La_law_776 ?_
        refine lv_if_eq (tgt := 782) hx hb d_La_law_777 (by decide) (fun _ => ?_) (fun q => absurd (lcm_0.mpr (by rw [ha2 c5, if_pos c6])) q)
        refine lv_goto (tgt := 1479) hx hb d_La_law_782 (by decide) ?_
        refine W.widen (k := cells + 4) (n := slots + 159) (by omega) (by omega) ?_
        refine kc V2 b1 σ1 ρ2 g1 H locs ls hho ⟨hW2, hM3, ho2, hl1, hl2, hl3, hJ2⟩ hV hS ?_
        exact lv_sub hl [2, 3, 4, 5, 6] rfl
      · refine lv_lconst (v := 1) hx hb d_La_law_771 (by decide) ?_
        refine lv_goto (tgt := 776) hx hb d_La_law_772 (by decide) ?_
        refine lv_lcmp hx hb d_La_law_776 ?_
        refine lv_if_eq (tgt := 782) hx hb d_La_law_777 (by decide) (fun _ => ?_) (fun q => absurd (lcm_0.mpr (by rw [ha2 c5, if_neg c6])) q)
        refine lv_goto (tgt := 1479) hx hb d_La_law_782 (by decide) ?_
        refine W.widen (k := cells + 4) (n := slots + 159) (by omega) (by omega) ?_
        refine kc V2 b1 σ1 ρ2 g1 H locs ls hho ⟨hW2, hM3, ho2, hl1, hl2, hl3, hJ2⟩ hV hS ?_
        exact lv_sub hl [2, 3, 4, 5, 6] rfl
  exact rc_I (va_runV (As := [.int (xs (i + 1))]) (rest := []) ⟨hx, hb, hml, hown, hts⟩ (c_Mo_drop l D s.heap.size k V1 mo ad ρ hM1 (xs (i + 1)) hmG (mN ρ 6) q6.2 q6.1 hmW) (cwV 1 hts (gi_Vw wm_La_121 wv_Mo_drop ws_Mo_drop wi_Mo wc_Mo_drop) rfl rfl rfl (by decide +kernel) ⟨Nat.le_of_ble_eq_true rfl, Nat.le_of_ble_eq_true rfl⟩) (mP.preV hG hS hV hM1.1 rfl) rfl rfl hl.1 rfl (lv_room (Nat.le_of_ble_eq_true rfl)) d_La_law_742 ⟨show cells + 1 + 0 ≤ 601024 by omega, show slots + 6 + 0 ≤ 7293000 by omega⟩) hS (fun r2 V2 H locs hp2 hV hS => kk r2 V2 _ H locs hp2.1 hp2.2.1 ⟨hp2.2.2, rfl⟩ hV hS)
set_option maxHeartbeats 4000000 in
set_option maxRecDepth 100000 in
/-- the law's case: gap -/
theorem l_gap {J : HS → MS → Prop} (hJ : ok_gap J) (hPre : ok_pre J) {p : Program} {l : Launch} {e : Env} {s : State} {m : MethodId} {below : List Frame} {meth : Method} {c : Code} {Q : State → Prop} {D : va_G} {k : Nat → Nat} {bb L : Nat} {xs : Nat → Int32} (C : LC p l s m c D k bb L xs) {V : HV} {b : HA} {σ : HS} {mo : Nat} {ad : Nat → Nat} {ρ : MS} {ou : Nat} {g : Nat → Int64} (hL : LJ J k V b σ mo ad ρ ou g) {H : Heap} {locs : List Loc} {ls : Array Slot} {i cells slots : Nat} (hi : i + 7 ≤ L) (hc : cells + 4 ≤ 601024) (hs : slots + 159 ≤ 7293000) (hV : hv D vwCl s.heap.size V H) (hS : va_S (hA s.heap.size) s.heap H locs) (hl : lv_has ls 7 [(4, .int (nI i)), (0, .ref bb), (1, .ref b.ho), (2, .ref mo), (3, .ref ou)])
    (kc : ∀ (V' : HV) (b' : HA) (σ' : HS) (ρ' : MS) (g' : Nat → Int64) (H' : Heap) (locs' : List Loc) (ls' : Array Slot), b'.ho = b.ho → LJ J k V' b' σ' mo ad ρ' ou g' → hv D vwCl s.heap.size V' H' → va_S (hA s.heap.size) s.heap H' locs' → lv_has ls' 7 [(4, .int (nI i)), (0, .ref bb), (1, .ref b.ho), (2, .ref mo), (3, .ref ou)] → W p l e room_1 s m #[Value.ref bb] below meth c H' locs' (cells + 4) (slots + 159) Q (F0 m 1479 ls' [])) :
    W p l e room_1 s m #[Value.ref bb] below meth c H locs cells slots Q (F0 m 785 ls []) := by
  obtain ⟨hx, hb, hml, hown, hts, hG, hN, hX, hbl, hLL, hls⟩ := C
  obtain ⟨hW0, hM0, hou, hlo, hlm, hla, hJ0⟩ := hL
  have hW : ∀ w ∈ WS, w.before _ s = true := fun w h => hts w (List.mem_cons_of_mem _ h)
  have hbA : ¬ (hA s.heap.size) bb := Nat.not_le.mpr hbl
  have hI0 := hsI_of hW0
  obtain ⟨⟨hmG, hmW, hm16, hm1⟩, hg1, hg2, hg3, hg4, hg5, hg6, hg7, hg8⟩ := hPre σ ρ hI0 hJ0
  have q2 := mN_of hmG (K := 2) (by omega) (by omega)
  have q3 := mN_of hmG (K := 3) (by omega) (by omega)
  have q4 := mN_of hmG (K := 4) (by omega) (by omega)
  have q5 := mN_of hmG (K := 5) (by omega) (by omega)
  have q6 := mN_of hmG (K := 6) (by omega) (by omega)
  have q7 := mN_of hmG (K := 7) (by omega) (by omega)
  refine lv_aload_n hx hb d_La_law_785 rfl (lv_at hl 2 rfl) ?_
  refine lv_aload_n hx hb d_La_law_786 rfl (lv_at hl 1 rfl) ?_
  refine lv_iload hx hb d_La_law_787 (lv_at hl 0 rfl) ?_
  refine lv_iconst (v := 1) hx hb d_La_law_789 (by decide) ?_
  refine lv_iadd hx hb d_La_law_790 ?_
  refine va_sld (i := nI i + 1) hx hb hX hbl hbA hS (sc_in (K := 1) (by omega) hLL) d_La_law_791 ?_
  rw [show (nI i + 1).toNatClampNeg = i + 1 from sc_ix (K := 1) (by omega)]
  refine lv_aload_n hx hb d_La_law_792 rfl (lv_at hl 4 rfl) ?_
  refine rc_I (va_runSW (As := [.ref b.ho, .int (xs (i + 1)), .ref ou]) (rest := []) ⟨hx, hb, hml, hown, hts⟩ (c_La_gap l hls D s.heap.size k V b σ hW0 ou g hou hlo (xs (i + 1))) (va_cwSW 3 hts (gi_Sw wm_La_122 wt_La_gap wi_La wcw_La_gap) rfl rfl rfl (by decide +kernel) ⟨Nat.le_of_ble_eq_true rfl, Nat.le_of_ble_eq_true rfl⟩) (mPx.preS hG hN hS hV) rfl rfl hl.1 rfl (lv_room (Nat.le_of_ble_eq_true rfl)) d_La_law_793 ⟨show cells + 1 ≤ 601024 by omega, show slots + 6 ≤ 7293000 by omega⟩) hS (fun r V1 H locs hp1 hV hS => ?_)
  obtain ⟨b1, σ1, g1, hW1, ho1, hF1, hR1⟩ := hp1
  have hho : b1.ho = b.ho := hF1.1
  obtain ⟨hM1, hl1, hl2, hl3⟩ := md_h hM0 hou hlo hlm hla hF1
  refine lv_istore (lv' := [(5, .int r), (4, .int (nI i)), (0, .ref bb), (1, .ref b.ho), (2, .ref mo), (3, .ref ou)]) hx hb d_La_law_796 hl (by decide) rfl (fun ls hl => ?_)
  refine lv_aload_n hx hb d_La_law_798 rfl (lv_at hl 4 rfl) ?_
  refine lv_aload_n hx hb d_La_law_799 rfl (lv_at hl 2 rfl) ?_
  refine lv_iload hx hb d_La_law_800 (lv_at hl 1 rfl) ?_
  refine lv_iconst (v := 1) hx hb d_La_law_802 (by decide) ?_
  refine lv_iadd hx hb d_La_law_803 ?_
  refine va_sld (i := nI i + 1) hx hb hX hbl hbA hS (sc_in (K := 1) (by omega) hLL) d_La_law_804 ?_
  rw [show (nI i + 1).toNatClampNeg = i + 1 from sc_ix (K := 1) (by omega)]
  have kk : ∀ (r2 : Int32) (V2 : HV) (ρ2 : MS) (H : Heap) (locs : List Loc), mdOk k V2 mo ad ρ2 → mdFr mo ad V1 V2 → gapM ρ (xs (i + 1)) r2 ρ2 → hv D vwCl s.heap.size V2 H → va_S (hA s.heap.size) s.heap H locs → W p l e room_1 s m #[Value.ref bb] below meth c H locs (cells + 1 + 0) (slots + 6 + 0) Q (F0 m 808 ls [.int r2]) := by
    intro r2 V2 ρ2 H locs hM3 hF2 hA2 hV hS
    obtain ⟨hJ2, hs2, ha2⟩ := hJ σ ρ hI0 hJ0 (xs (i + 1)) r (g1 0) σ1 r2 ρ2 hR1 hA2
    obtain ⟨hW2, ho2⟩ := md_m hW1 hM1 ho1 hl2 hl3 hF2
    refine lv_istore (lv' := [(6, .int r2), (5, .int r), (4, .int (nI i)), (0, .ref bb), (1, .ref b.ho), (2, .ref mo), (3, .ref ou)]) hx hb d_La_law_808 hl (by decide) rfl (fun ls hl => ?_)
    refine lv_aload_n hx hb d_La_law_810 rfl (lv_at hl 5 rfl) ?_
    refine rc_i (va_runV (As := []) (rest := []) ⟨hx, hb, hml, hown, hts⟩ (c_Mo_thrown l D s.heap.size k V2 mo ad ρ2 hM3) (cwV 0 hts (gi_Vw wm_La_96 wv_Mo_thrown ws_Mo_thrown wi_Mo wc_Mo_thrown) rfl rfl rfl (by decide +kernel) ⟨Nat.le_of_ble_eq_true rfl, Nat.le_of_ble_eq_true rfl⟩) (mP.preV hG hS hV hM3.1 rfl) rfl rfl hl.1 rfl (lv_room (Nat.le_of_ble_eq_true rfl)) d_La_law_811 ⟨show cells + 1 + 0 + 0 ≤ 601024 by omega, show slots + 6 + 0 + 0 ≤ 7293000 by omega⟩) hS (fun H locs hV hS => ?_)
    refine lv_iload hx hb d_La_law_814 (lv_at hl 1 rfl) ?_
    refine lv_icmp_eq (tgt := 821) hx hb d_La_law_816 (by decide) (fun _ => ?_) (fun q => absurd hs2 q)
    refine lv_iload hx hb d_La_law_821 (lv_at hl 1 rfl) ?_
    refine lv_if_ne (tgt := 838) hx hb d_La_law_823 (by decide) (fun _ => ?_) (fun c5 => ?_)
    · refine lv_goto (tgt := 1479) hx hb d_La_law_838 (by decide) ?_
      refine W.widen (k := cells + 4) (n := slots + 159) (by omega) (by omega) ?_
      refine kc V2 b1 σ1 ρ2 g1 H locs ls hho ⟨hW2, hM3, ho2, hl1, hl2, hl3, hJ2⟩ hV hS ?_
      exact lv_sub hl [2, 3, 4, 5, 6] rfl
    · refine lv_aload_n hx hb d_La_law_826 rfl (lv_at hl 6 rfl) ?_
      refine lv_iconst (v := 0) hx hb d_La_law_827 (by decide) ?_
      refine hv_lald hx hb hG.K hV 1 ho2 rfl ((vp_in_nI (by omega) (by omega) : vp_in (nI 0) 1)) d_La_law_828 ?_
      rw [show (0 : Int32).toNatClampNeg = 0 from rfl]
      refine lv_iload hx hb d_La_law_829 (lv_at hl 0 rfl) ?_
      refine lv_i2l hx hb d_La_law_831 rfl ?_
      refine lv_lcmp hx hb d_La_law_832 ?_
      refine lv_if_eq (tgt := 838) hx hb d_La_law_833 (by decide) (fun _ => ?_) (fun q => absurd (lcm_0.mpr (ha2 c5)) q)
      refine lv_goto (tgt := 1479) hx hb d_La_law_838 (by decide) ?_
      refine W.widen (k := cells + 4) (n := slots + 159) (by omega) (by omega) ?_
      refine kc V2 b1 σ1 ρ2 g1 H locs ls hho ⟨hW2, hM3, ho2, hl1, hl2, hl3, hJ2⟩ hV hS ?_
      exact lv_sub hl [2, 3, 4, 5, 6] rfl
  exact rc_I (va_runV (As := [.int (xs (i + 1))]) (rest := []) ⟨hx, hb, hml, hown, hts⟩ (c_Mo_gap l D s.heap.size k V1 mo ad ρ hM1 (xs (i + 1)) ) (cwV 1 hts (gi_Vw wm_La_124 wv_Mo_gap ws_Mo_gap wi_Mo wc_Mo_gap) rfl rfl rfl (by decide +kernel) ⟨Nat.le_of_ble_eq_true rfl, Nat.le_of_ble_eq_true rfl⟩) (mP.preV hG hS hV hM1.1 rfl) rfl rfl hl.1 rfl (lv_room (Nat.le_of_ble_eq_true rfl)) d_La_law_805 ⟨show cells + 1 + 0 ≤ 601024 by omega, show slots + 6 + 0 ≤ 7293000 by omega⟩) hS (fun r2 V2 H locs hp2 hV hS => kk r2 V2 _ H locs hp2.1 hp2.2.1 ⟨hp2.2.2, rfl⟩ hV hS)
set_option maxHeartbeats 4000000 in
set_option maxRecDepth 100000 in
/-- the law's case: islands -/
theorem l_islands {J : HS → MS → Prop} (hJ : ok_islands J) (hPre : ok_pre J) {p : Program} {l : Launch} {e : Env} {s : State} {m : MethodId} {below : List Frame} {meth : Method} {c : Code} {Q : State → Prop} {D : va_G} {k : Nat → Nat} {bb L : Nat} {xs : Nat → Int32} (C : LC p l s m c D k bb L xs) {V : HV} {b : HA} {σ : HS} {mo : Nat} {ad : Nat → Nat} {ρ : MS} {ou : Nat} {g : Nat → Int64} (hL : LJ J k V b σ mo ad ρ ou g) {H : Heap} {locs : List Loc} {ls : Array Slot} {i cells slots : Nat} (hi : i + 7 ≤ L) (hc : cells + 4 ≤ 601024) (hs : slots + 159 ≤ 7293000) (hV : hv D vwCl s.heap.size V H) (hS : va_S (hA s.heap.size) s.heap H locs) (hl : lv_has ls 7 [(4, .int (nI i)), (0, .ref bb), (1, .ref b.ho), (2, .ref mo), (3, .ref ou)])
    (kc : ∀ (V' : HV) (b' : HA) (σ' : HS) (ρ' : MS) (g' : Nat → Int64) (H' : Heap) (locs' : List Loc) (ls' : Array Slot), b'.ho = b.ho → LJ J k V' b' σ' mo ad ρ' ou g' → hv D vwCl s.heap.size V' H' → va_S (hA s.heap.size) s.heap H' locs' → lv_has ls' 7 [(4, .int (nI i)), (0, .ref bb), (1, .ref b.ho), (2, .ref mo), (3, .ref ou)] → W p l e room_1 s m #[Value.ref bb] below meth c H' locs' (cells + 4) (slots + 159) Q (F0 m 1479 ls' [])) :
    W p l e room_1 s m #[Value.ref bb] below meth c H locs cells slots Q (F0 m 841 ls []) := by
  obtain ⟨hx, hb, hml, hown, hts, hG, hN, hX, hbl, hLL, hls⟩ := C
  obtain ⟨hW0, hM0, hou, hlo, hlm, hla, hJ0⟩ := hL
  have hW : ∀ w ∈ WS, w.before _ s = true := fun w h => hts w (List.mem_cons_of_mem _ h)
  have hbA : ¬ (hA s.heap.size) bb := Nat.not_le.mpr hbl
  have hI0 := hsI_of hW0
  obtain ⟨⟨hmG, hmW, hm16, hm1⟩, hg1, hg2, hg3, hg4, hg5, hg6, hg7, hg8⟩ := hPre σ ρ hI0 hJ0
  have q2 := mN_of hmG (K := 2) (by omega) (by omega)
  have q3 := mN_of hmG (K := 3) (by omega) (by omega)
  have q4 := mN_of hmG (K := 4) (by omega) (by omega)
  have q5 := mN_of hmG (K := 5) (by omega) (by omega)
  have q6 := mN_of hmG (K := 6) (by omega) (by omega)
  have q7 := mN_of hmG (K := 7) (by omega) (by omega)
  refine lv_aload_n hx hb d_La_law_841 rfl (lv_at hl 2 rfl) ?_
  refine lv_aload_n hx hb d_La_law_842 rfl (lv_at hl 1 rfl) ?_
  refine lv_iload hx hb d_La_law_843 (lv_at hl 0 rfl) ?_
  refine lv_iconst (v := 1) hx hb d_La_law_845 (by decide) ?_
  refine lv_iadd hx hb d_La_law_846 ?_
  refine va_sld (i := nI i + 1) hx hb hX hbl hbA hS (sc_in (K := 1) (by omega) hLL) d_La_law_847 ?_
  rw [show (nI i + 1).toNatClampNeg = i + 1 from sc_ix (K := 1) (by omega)]
  refine lv_aload_n hx hb d_La_law_848 rfl (lv_at hl 4 rfl) ?_
  refine rc_I (va_runSW (As := [.ref b.ho, .int (xs (i + 1)), .ref ou]) (rest := []) ⟨hx, hb, hml, hown, hts⟩ (c_La_islands l hls D s.heap.size k V b σ hW0 ou g hou hlo (xs (i + 1)) (hg1 _) hg2) (va_cwSW 3 hts (gi_Sw wm_La_125 wt_La_islands wi_La wcw_La_islands) rfl rfl rfl (by decide +kernel) ⟨Nat.le_of_ble_eq_true rfl, Nat.le_of_ble_eq_true rfl⟩) (mPx.preS hG hN hS hV) rfl rfl hl.1 rfl (lv_room (Nat.le_of_ble_eq_true rfl)) d_La_law_849 ⟨show cells + 1 ≤ 601024 by omega, show slots + 6 ≤ 7293000 by omega⟩) hS (fun r V1 H locs hp1 hV hS => ?_)
  obtain ⟨b1, σ1, g1, hW1, ho1, hF1, hR1⟩ := hp1
  have hho : b1.ho = b.ho := hF1.1
  obtain ⟨hM1, hl1, hl2, hl3⟩ := md_h hM0 hou hlo hlm hla hF1
  refine lv_istore (lv' := [(5, .int r), (4, .int (nI i)), (0, .ref bb), (1, .ref b.ho), (2, .ref mo), (3, .ref ou)]) hx hb d_La_law_852 hl (by decide) rfl (fun ls hl => ?_)
  refine lv_aload_n hx hb d_La_law_854 rfl (lv_at hl 4 rfl) ?_
  refine lv_aload_n hx hb d_La_law_855 rfl (lv_at hl 2 rfl) ?_
  refine lv_iload hx hb d_La_law_856 (lv_at hl 1 rfl) ?_
  refine lv_iconst (v := 1) hx hb d_La_law_858 (by decide) ?_
  refine lv_iadd hx hb d_La_law_859 ?_
  refine va_sld (i := nI i + 1) hx hb hX hbl hbA hS (sc_in (K := 1) (by omega) hLL) d_La_law_860 ?_
  rw [show (nI i + 1).toNatClampNeg = i + 1 from sc_ix (K := 1) (by omega)]
  have kk : ∀ (r2 : Int32) (V2 : HV) (ρ2 : MS) (H : Heap) (locs : List Loc), mdOk k V2 mo ad ρ2 → mdFr mo ad V1 V2 → islandsM ρ (xs (i + 1)) r2 ρ2 → hv D vwCl s.heap.size V2 H → va_S (hA s.heap.size) s.heap H locs → W p l e room_1 s m #[Value.ref bb] below meth c H locs (cells + 1 + 0) (slots + 6 + 0) Q (F0 m 864 ls [.int r2]) := by
    intro r2 V2 ρ2 H locs hM3 hF2 hA2 hV hS
    obtain ⟨hJ2, hs2, ha2⟩ := hJ σ ρ hI0 hJ0 (xs (i + 1)) r (g1 0) σ1 r2 ρ2 hR1 hA2
    obtain ⟨hW2, ho2⟩ := md_m hW1 hM1 ho1 hl2 hl3 hF2
    refine lv_istore (lv' := [(6, .int r2), (5, .int r), (4, .int (nI i)), (0, .ref bb), (1, .ref b.ho), (2, .ref mo), (3, .ref ou)]) hx hb d_La_law_864 hl (by decide) rfl (fun ls hl => ?_)
    refine lv_aload_n hx hb d_La_law_866 rfl (lv_at hl 5 rfl) ?_
    refine rc_i (va_runV (As := []) (rest := []) ⟨hx, hb, hml, hown, hts⟩ (c_Mo_thrown l D s.heap.size k V2 mo ad ρ2 hM3) (cwV 0 hts (gi_Vw wm_La_96 wv_Mo_thrown ws_Mo_thrown wi_Mo wc_Mo_thrown) rfl rfl rfl (by decide +kernel) ⟨Nat.le_of_ble_eq_true rfl, Nat.le_of_ble_eq_true rfl⟩) (mP.preV hG hS hV hM3.1 rfl) rfl rfl hl.1 rfl (lv_room (Nat.le_of_ble_eq_true rfl)) d_La_law_867 ⟨show cells + 1 + 0 + 0 ≤ 601024 by omega, show slots + 6 + 0 + 0 ≤ 7293000 by omega⟩) hS (fun H locs hV hS => ?_)
    refine lv_iload hx hb d_La_law_870 (lv_at hl 1 rfl) ?_
    refine lv_icmp_eq (tgt := 877) hx hb d_La_law_872 (by decide) (fun _ => ?_) (fun q => absurd hs2 q)
    refine lv_iload hx hb d_La_law_877 (lv_at hl 1 rfl) ?_
    refine lv_if_ne (tgt := 894) hx hb d_La_law_879 (by decide) (fun _ => ?_) (fun c5 => ?_)
    · refine lv_goto (tgt := 1479) hx hb d_La_law_894 (by decide) ?_
      refine W.widen (k := cells + 4) (n := slots + 159) (by omega) (by omega) ?_
      refine kc V2 b1 σ1 ρ2 g1 H locs ls hho ⟨hW2, hM3, ho2, hl1, hl2, hl3, hJ2⟩ hV hS ?_
      exact lv_sub hl [2, 3, 4, 5, 6] rfl
    · refine lv_aload_n hx hb d_La_law_882 rfl (lv_at hl 6 rfl) ?_
      refine lv_iconst (v := 0) hx hb d_La_law_883 (by decide) ?_
      refine hv_lald hx hb hG.K hV 1 ho2 rfl ((vp_in_nI (by omega) (by omega) : vp_in (nI 0) 1)) d_La_law_884 ?_
      rw [show (0 : Int32).toNatClampNeg = 0 from rfl]
      refine lv_iload hx hb d_La_law_885 (lv_at hl 0 rfl) ?_
      refine lv_i2l hx hb d_La_law_887 rfl ?_
      refine lv_lcmp hx hb d_La_law_888 ?_
      refine lv_if_eq (tgt := 894) hx hb d_La_law_889 (by decide) (fun _ => ?_) (fun q => absurd (lcm_0.mpr (ha2 c5)) q)
      refine lv_goto (tgt := 1479) hx hb d_La_law_894 (by decide) ?_
      refine W.widen (k := cells + 4) (n := slots + 159) (by omega) (by omega) ?_
      refine kc V2 b1 σ1 ρ2 g1 H locs ls hho ⟨hW2, hM3, ho2, hl1, hl2, hl3, hJ2⟩ hV hS ?_
      exact lv_sub hl [2, 3, 4, 5, 6] rfl
  by_cases hf0 : moFault (ρ.I 0) (xs (i + 1)) 1 = 0
  · obtain ⟨g0, hg50, eg0⟩ := hg4
    exact rc_I (va_runV (As := [.int (xs (i + 1))]) (rest := []) ⟨hx, hb, hml, hown, hts⟩ (c_Mo_islands l D s.heap.size k V1 mo ad ρ hM1 (xs (i + 1)) hf0 _ rfl σ.nl g0 hW0.1.n1 hW0.1.n4 hg3 hg50 eg0 hg5 hg6 (hg7 _).1 (hg7 _).2 (mN ρ 5) q5.2 q5.1) (cwV 1 hts (gi_Vw wm_La_127 wv_Mo_islands ws_Mo_islands wi_Mo wc_Mo_islands) rfl rfl rfl (by decide +kernel) ⟨Nat.le_of_ble_eq_true rfl, Nat.le_of_ble_eq_true rfl⟩) (mP.preV hG hS hV hM1.1 rfl) rfl rfl hl.1 rfl (lv_room (Nat.le_of_ble_eq_true rfl)) d_La_law_861 ⟨show cells + 1 + 0 ≤ 601024 by omega, show slots + 6 + 0 ≤ 7293000 by omega⟩) hS (fun r2 V2 H locs hp2 hV hS => by obtain ⟨o9, f9, G9, c9, x1, x2, x3, x4, x5⟩ := hp2; exact kk r2 V2 _ H locs x1 x2 (Or.inr ⟨hf0, σ.nl, g0, o9, f9, G9, c9, hW0.1.n1, hW0.1.n4, hg3, hg50, eg0, rfl, x3, x4, x5⟩) hV hS)
  · exact rc_I (va_runV (As := [.int (xs (i + 1))]) (rest := []) ⟨hx, hb, hml, hown, hts⟩ (c_Mo_islandst l D s.heap.size k V1 mo ad ρ hM1 (xs (i + 1)) hf0) (cwV 1 hts (gi_Vw wm_La_127 wv_Mo_islands ws_Mo_islands wi_Mo wc_Mo_islands) rfl rfl rfl (by decide +kernel) ⟨Nat.le_of_ble_eq_true rfl, Nat.le_of_ble_eq_true rfl⟩) (mP.preV hG hS hV hM1.1 rfl) rfl rfl hl.1 rfl (lv_room (Nat.le_of_ble_eq_true rfl)) d_La_law_861 ⟨show cells + 1 + 0 ≤ 601024 by omega, show slots + 6 + 0 ≤ 7293000 by omega⟩) hS (fun r2 V2 H locs hp2 hV hS => kk r2 V2 _ H locs hp2.1 hp2.2.1 (Or.inl ⟨hf0, hp2.2.2, rfl⟩) hV hS)
set_option maxHeartbeats 4000000 in
set_option maxRecDepth 100000 in
/-- the law's case: near -/
theorem l_near {J : HS → MS → Prop} (hJ : ok_near J) (hPre : ok_pre J) {p : Program} {l : Launch} {e : Env} {s : State} {m : MethodId} {below : List Frame} {meth : Method} {c : Code} {Q : State → Prop} {D : va_G} {k : Nat → Nat} {bb L : Nat} {xs : Nat → Int32} (C : LC p l s m c D k bb L xs) {V : HV} {b : HA} {σ : HS} {mo : Nat} {ad : Nat → Nat} {ρ : MS} {ou : Nat} {g : Nat → Int64} (hL : LJ J k V b σ mo ad ρ ou g) {H : Heap} {locs : List Loc} {ls : Array Slot} {i cells slots : Nat} (hi : i + 7 ≤ L) (hc : cells + 4 ≤ 601024) (hs : slots + 159 ≤ 7293000) (hV : hv D vwCl s.heap.size V H) (hS : va_S (hA s.heap.size) s.heap H locs) (hl : lv_has ls 7 [(4, .int (nI i)), (0, .ref bb), (1, .ref b.ho), (2, .ref mo), (3, .ref ou)])
    (kc : ∀ (V' : HV) (b' : HA) (σ' : HS) (ρ' : MS) (g' : Nat → Int64) (H' : Heap) (locs' : List Loc) (ls' : Array Slot), b'.ho = b.ho → LJ J k V' b' σ' mo ad ρ' ou g' → hv D vwCl s.heap.size V' H' → va_S (hA s.heap.size) s.heap H' locs' → lv_has ls' 7 [(4, .int (nI i)), (0, .ref bb), (1, .ref b.ho), (2, .ref mo), (3, .ref ou)] → W p l e room_1 s m #[Value.ref bb] below meth c H' locs' (cells + 4) (slots + 159) Q (F0 m 1479 ls' [])) :
    W p l e room_1 s m #[Value.ref bb] below meth c H locs cells slots Q (F0 m 910 ls []) := by
  obtain ⟨hx, hb, hml, hown, hts, hG, hN, hX, hbl, hLL, hls⟩ := C
  obtain ⟨hW0, hM0, hou, hlo, hlm, hla, hJ0⟩ := hL
  have hW : ∀ w ∈ WS, w.before _ s = true := fun w h => hts w (List.mem_cons_of_mem _ h)
  have hbA : ¬ (hA s.heap.size) bb := Nat.not_le.mpr hbl
  have hI0 := hsI_of hW0
  obtain ⟨⟨hmG, hmW, hm16, hm1⟩, hg1, hg2, hg3, hg4, hg5, hg6, hg7, hg8⟩ := hPre σ ρ hI0 hJ0
  have q2 := mN_of hmG (K := 2) (by omega) (by omega)
  have q3 := mN_of hmG (K := 3) (by omega) (by omega)
  have q4 := mN_of hmG (K := 4) (by omega) (by omega)
  have q5 := mN_of hmG (K := 5) (by omega) (by omega)
  have q6 := mN_of hmG (K := 6) (by omega) (by omega)
  have q7 := mN_of hmG (K := 7) (by omega) (by omega)
  refine lv_aload_n hx hb d_La_law_910 rfl (lv_at hl 2 rfl) ?_
  refine lv_aload_n hx hb d_La_law_911 rfl (lv_at hl 1 rfl) ?_
  refine lv_iload hx hb d_La_law_912 (lv_at hl 0 rfl) ?_
  refine lv_iconst (v := 1) hx hb d_La_law_914 (by decide) ?_
  refine lv_iadd hx hb d_La_law_915 ?_
  refine va_sld (i := nI i + 1) hx hb hX hbl hbA hS (sc_in (K := 1) (by omega) hLL) d_La_law_916 ?_
  rw [show (nI i + 1).toNatClampNeg = i + 1 from sc_ix (K := 1) (by omega)]
  refine lv_aload_n hx hb d_La_law_917 rfl (lv_at hl 1 rfl) ?_
  refine lv_iload hx hb d_La_law_918 (lv_at hl 0 rfl) ?_
  refine lv_iconst (v := 2) hx hb d_La_law_920 (by decide) ?_
  refine lv_iadd hx hb d_La_law_921 ?_
  refine va_sld (i := nI i + 2) hx hb hX hbl hbA hS (sc_in (K := 2) (by omega) hLL) d_La_law_922 ?_
  rw [show (nI i + 2).toNatClampNeg = i + 2 from sc_ix (K := 2) (by omega)]
  refine lv_aload_n hx hb d_La_law_923 rfl (lv_at hl 4 rfl) ?_
  refine rc_I (va_runSW (As := [.ref b.ho, .int (xs (i + 1)), .int (xs (i + 2)), .ref ou]) (rest := []) ⟨hx, hb, hml, hown, hts⟩ (c_La_near l hls D s.heap.size k V b σ hW0 ou g hou hlo (xs (i + 1)) (xs (i + 2))) (va_cwSW 4 hts (gi_Sw wm_La_132 wt_La_near wi_La wcw_La_near) rfl rfl rfl (by decide +kernel) ⟨Nat.le_of_ble_eq_true rfl, Nat.le_of_ble_eq_true rfl⟩) (mPx.preS hG hN hS hV) rfl rfl hl.1 rfl (lv_room (Nat.le_of_ble_eq_true rfl)) d_La_law_924 ⟨show cells + 1 ≤ 601024 by omega, show slots + 6 ≤ 7293000 by omega⟩) hS (fun r V1 H locs hp1 hV hS => ?_)
  obtain ⟨b1, σ1, g1, hW1, ho1, hF1, hR1⟩ := hp1
  have hho : b1.ho = b.ho := hF1.1
  obtain ⟨hM1, hl1, hl2, hl3⟩ := md_h hM0 hou hlo hlm hla hF1
  refine lv_istore (lv' := [(5, .int r), (4, .int (nI i)), (0, .ref bb), (1, .ref b.ho), (2, .ref mo), (3, .ref ou)]) hx hb d_La_law_927 hl (by decide) rfl (fun ls hl => ?_)
  refine lv_aload_n hx hb d_La_law_929 rfl (lv_at hl 4 rfl) ?_
  refine lv_aload_n hx hb d_La_law_930 rfl (lv_at hl 2 rfl) ?_
  refine lv_iload hx hb d_La_law_931 (lv_at hl 1 rfl) ?_
  refine lv_iconst (v := 1) hx hb d_La_law_933 (by decide) ?_
  refine lv_iadd hx hb d_La_law_934 ?_
  refine va_sld (i := nI i + 1) hx hb hX hbl hbA hS (sc_in (K := 1) (by omega) hLL) d_La_law_935 ?_
  rw [show (nI i + 1).toNatClampNeg = i + 1 from sc_ix (K := 1) (by omega)]
  refine lv_aload_n hx hb d_La_law_936 rfl (lv_at hl 2 rfl) ?_
  refine lv_iload hx hb d_La_law_937 (lv_at hl 1 rfl) ?_
  refine lv_iconst (v := 2) hx hb d_La_law_939 (by decide) ?_
  refine lv_iadd hx hb d_La_law_940 ?_
  refine va_sld (i := nI i + 2) hx hb hX hbl hbA hS (sc_in (K := 2) (by omega) hLL) d_La_law_941 ?_
  rw [show (nI i + 2).toNatClampNeg = i + 2 from sc_ix (K := 2) (by omega)]
  have kk : ∀ (r2 : Int32) (V2 : HV) (ρ2 : MS) (H : Heap) (locs : List Loc), mdOk k V2 mo ad ρ2 → mdFr mo ad V1 V2 → nearM ρ (xs (i + 1)) (xs (i + 2)) r2 ρ2 → hv D vwCl s.heap.size V2 H → va_S (hA s.heap.size) s.heap H locs → W p l e room_1 s m #[Value.ref bb] below meth c H locs (cells + 1 + 0) (slots + 6 + 0) Q (F0 m 945 ls [.int r2]) := by
    intro r2 V2 ρ2 H locs hM3 hF2 hA2 hV hS
    obtain ⟨hJ2, hs2, ha2⟩ := hJ σ ρ hI0 hJ0 (xs (i + 1)) (xs (i + 2)) r (g1 0) σ1 r2 ρ2 hR1 hA2
    obtain ⟨hW2, ho2⟩ := md_m hW1 hM1 ho1 hl2 hl3 hF2
    refine lv_istore (lv' := [(6, .int r2), (5, .int r), (4, .int (nI i)), (0, .ref bb), (1, .ref b.ho), (2, .ref mo), (3, .ref ou)]) hx hb d_La_law_945 hl (by decide) rfl (fun ls hl => ?_)
    refine lv_aload_n hx hb d_La_law_947 rfl (lv_at hl 5 rfl) ?_
    refine rc_i (va_runV (As := []) (rest := []) ⟨hx, hb, hml, hown, hts⟩ (c_Mo_thrown l D s.heap.size k V2 mo ad ρ2 hM3) (cwV 0 hts (gi_Vw wm_La_96 wv_Mo_thrown ws_Mo_thrown wi_Mo wc_Mo_thrown) rfl rfl rfl (by decide +kernel) ⟨Nat.le_of_ble_eq_true rfl, Nat.le_of_ble_eq_true rfl⟩) (mP.preV hG hS hV hM3.1 rfl) rfl rfl hl.1 rfl (lv_room (Nat.le_of_ble_eq_true rfl)) d_La_law_948 ⟨show cells + 1 + 0 + 0 ≤ 601024 by omega, show slots + 6 + 0 + 0 ≤ 7293000 by omega⟩) hS (fun H locs hV hS => ?_)
    refine lv_iload hx hb d_La_law_951 (lv_at hl 1 rfl) ?_
    refine lv_icmp_eq (tgt := 958) hx hb d_La_law_953 (by decide) (fun _ => ?_) (fun q => absurd hs2 q)
    refine lv_iload hx hb d_La_law_958 (lv_at hl 1 rfl) ?_
    refine lv_if_ne (tgt := 975) hx hb d_La_law_960 (by decide) (fun _ => ?_) (fun c5 => ?_)
    · refine lv_goto (tgt := 1479) hx hb d_La_law_975 (by decide) ?_
      refine W.widen (k := cells + 4) (n := slots + 159) (by omega) (by omega) ?_
      refine kc V2 b1 σ1 ρ2 g1 H locs ls hho ⟨hW2, hM3, ho2, hl1, hl2, hl3, hJ2⟩ hV hS ?_
      exact lv_sub hl [2, 3, 4, 5, 6] rfl
    · refine lv_aload_n hx hb d_La_law_963 rfl (lv_at hl 6 rfl) ?_
      refine lv_iconst (v := 0) hx hb d_La_law_964 (by decide) ?_
      refine hv_lald hx hb hG.K hV 1 ho2 rfl ((vp_in_nI (by omega) (by omega) : vp_in (nI 0) 1)) d_La_law_965 ?_
      rw [show (0 : Int32).toNatClampNeg = 0 from rfl]
      refine lv_iload hx hb d_La_law_966 (lv_at hl 0 rfl) ?_
      refine lv_i2l hx hb d_La_law_968 rfl ?_
      refine lv_lcmp hx hb d_La_law_969 ?_
      refine lv_if_eq (tgt := 975) hx hb d_La_law_970 (by decide) (fun _ => ?_) (fun q => absurd (lcm_0.mpr (ha2 c5)) q)
      refine lv_goto (tgt := 1479) hx hb d_La_law_975 (by decide) ?_
      refine W.widen (k := cells + 4) (n := slots + 159) (by omega) (by omega) ?_
      refine kc V2 b1 σ1 ρ2 g1 H locs ls hho ⟨hW2, hM3, ho2, hl1, hl2, hl3, hJ2⟩ hV hS ?_
      exact lv_sub hl [2, 3, 4, 5, 6] rfl
  cases hok : (decide ((xs (i + 2)) = 0) || decide ((xs (i + 2)) = 1)) with
  | false =>
    exact rc_I (va_runV (As := [.int (xs (i + 1)), .int (xs (i + 2))]) (rest := []) ⟨hx, hb, hml, hown, hts⟩ (c_Mo_neart l D s.heap.size k V1 mo ad ρ hM1 (xs (i + 1)) (xs (i + 2)) hok) (cwV 2 hts (gi_Vw wm_La_134 wv_Mo_near ws_Mo_near wi_Mo wc_Mo_near) rfl rfl rfl (by decide +kernel) ⟨Nat.le_of_ble_eq_true rfl, Nat.le_of_ble_eq_true rfl⟩) (mP.preV hG hS hV hM1.1 rfl) rfl rfl hl.1 rfl (lv_room (Nat.le_of_ble_eq_true rfl)) d_La_law_942 ⟨show cells + 1 + 0 ≤ 601024 by omega, show slots + 6 + 0 ≤ 7293000 by omega⟩) hS (fun r2 V2 H locs hp2 hV hS => kk r2 V2 _ H locs hp2.1 hp2.2.1 (Or.inl ⟨hok, hp2.2.2, rfl⟩) hV hS)
  | true =>
    by_cases hq : 0 ≤ (xs (i + 1))
    · obtain ⟨eq0, hq0⟩ := nI_back hq
      generalize hz : ((xs (i + 1))).toNatClampNeg = z0 at *
      rw [← eq0]
      exact rc_I (va_runV (As := [.int (nI z0), .int (xs (i + 2))]) (rest := []) ⟨hx, hb, hml, hown, hts⟩ (c_Mo_near l D s.heap.size k V1 mo ad ρ hM1 z0 hq0 (xs (i + 2)) hok) (cwV 2 hts (gi_Vw wm_La_134 wv_Mo_near ws_Mo_near wi_Mo wc_Mo_near) rfl rfl rfl (by decide +kernel) ⟨Nat.le_of_ble_eq_true rfl, Nat.le_of_ble_eq_true rfl⟩) (mP.preV hG hS hV hM1.1 rfl) rfl rfl hl.1 rfl (lv_room (Nat.le_of_ble_eq_true rfl)) d_La_law_942 ⟨show cells + 1 + 0 ≤ 601024 by omega, show slots + 6 + 0 ≤ 7293000 by omega⟩) hS (fun r2 V2 H locs hp2 hV hS => kk r2 V2 _ H locs hp2.1 hp2.2.1 (Or.inr (Or.inr ⟨hok, hq, by rw [hz]; exact hp2.2.2, rfl⟩)) hV hS)
    · exact rc_I (va_runV (As := [.int (xs (i + 1)), .int (xs (i + 2))]) (rest := []) ⟨hx, hb, hml, hown, hts⟩ (c_Mo_nearN l D s.heap.size k V1 mo ad ρ hM1 (xs (i + 1)) (xs (i + 2)) hq hok) (cwV 2 hts (gi_Vw wm_La_134 wv_Mo_near ws_Mo_near wi_Mo wc_Mo_near) rfl rfl rfl (by decide +kernel) ⟨Nat.le_of_ble_eq_true rfl, Nat.le_of_ble_eq_true rfl⟩) (mP.preV hG hS hV hM1.1 rfl) rfl rfl hl.1 rfl (lv_room (Nat.le_of_ble_eq_true rfl)) d_La_law_942 ⟨show cells + 1 + 0 ≤ 601024 by omega, show slots + 6 + 0 ≤ 7293000 by omega⟩) hS (fun r2 V2 H locs hp2 hV hS => kk r2 V2 _ H locs hp2.1 hp2.2.1 (Or.inr (Or.inl ⟨hok, hq, hp2.2.2, rfl⟩)) hV hS)
set_option maxHeartbeats 4000000 in
set_option maxRecDepth 100000 in
/-- the law's case: filled -/
theorem l_filled {J : HS → MS → Prop} (hJ : ok_filled J) (hPre : ok_pre J) {p : Program} {l : Launch} {e : Env} {s : State} {m : MethodId} {below : List Frame} {meth : Method} {c : Code} {Q : State → Prop} {D : va_G} {k : Nat → Nat} {bb L : Nat} {xs : Nat → Int32} (C : LC p l s m c D k bb L xs) {V : HV} {b : HA} {σ : HS} {mo : Nat} {ad : Nat → Nat} {ρ : MS} {ou : Nat} {g : Nat → Int64} (hL : LJ J k V b σ mo ad ρ ou g) {H : Heap} {locs : List Loc} {ls : Array Slot} {i cells slots : Nat} (hi : i + 7 ≤ L) (hc : cells + 4 ≤ 601024) (hs : slots + 159 ≤ 7293000) (hV : hv D vwCl s.heap.size V H) (hS : va_S (hA s.heap.size) s.heap H locs) (hl : lv_has ls 7 [(4, .int (nI i)), (0, .ref bb), (1, .ref b.ho), (2, .ref mo), (3, .ref ou)])
    (kc : ∀ (V' : HV) (b' : HA) (σ' : HS) (ρ' : MS) (g' : Nat → Int64) (H' : Heap) (locs' : List Loc) (ls' : Array Slot), b'.ho = b.ho → LJ J k V' b' σ' mo ad ρ' ou g' → hv D vwCl s.heap.size V' H' → va_S (hA s.heap.size) s.heap H' locs' → lv_has ls' 7 [(4, .int (nI i)), (0, .ref bb), (1, .ref b.ho), (2, .ref mo), (3, .ref ou)] → W p l e room_1 s m #[Value.ref bb] below meth c H' locs' (cells + 4) (slots + 159) Q (F0 m 1479 ls' [])) :
    W p l e room_1 s m #[Value.ref bb] below meth c H locs cells slots Q (F0 m 978 ls []) := by
  obtain ⟨hx, hb, hml, hown, hts, hG, hN, hX, hbl, hLL, hls⟩ := C
  obtain ⟨hW0, hM0, hou, hlo, hlm, hla, hJ0⟩ := hL
  have hW : ∀ w ∈ WS, w.before _ s = true := fun w h => hts w (List.mem_cons_of_mem _ h)
  have hbA : ¬ (hA s.heap.size) bb := Nat.not_le.mpr hbl
  have hI0 := hsI_of hW0
  obtain ⟨⟨hmG, hmW, hm16, hm1⟩, hg1, hg2, hg3, hg4, hg5, hg6, hg7, hg8⟩ := hPre σ ρ hI0 hJ0
  have q2 := mN_of hmG (K := 2) (by omega) (by omega)
  have q3 := mN_of hmG (K := 3) (by omega) (by omega)
  have q4 := mN_of hmG (K := 4) (by omega) (by omega)
  have q5 := mN_of hmG (K := 5) (by omega) (by omega)
  have q6 := mN_of hmG (K := 6) (by omega) (by omega)
  have q7 := mN_of hmG (K := 7) (by omega) (by omega)
  refine lv_aload_n hx hb d_La_law_978 rfl (lv_at hl 2 rfl) ?_
  refine lv_aload_n hx hb d_La_law_979 rfl (lv_at hl 1 rfl) ?_
  refine lv_iload hx hb d_La_law_980 (lv_at hl 0 rfl) ?_
  refine lv_iconst (v := 1) hx hb d_La_law_982 (by decide) ?_
  refine lv_iadd hx hb d_La_law_983 ?_
  refine va_sld (i := nI i + 1) hx hb hX hbl hbA hS (sc_in (K := 1) (by omega) hLL) d_La_law_984 ?_
  rw [show (nI i + 1).toNatClampNeg = i + 1 from sc_ix (K := 1) (by omega)]
  refine lv_aload_n hx hb d_La_law_985 rfl (lv_at hl 4 rfl) ?_
  refine rc_I (va_runSW (As := [.ref b.ho, .int (xs (i + 1)), .ref ou]) (rest := []) ⟨hx, hb, hml, hown, hts⟩ (c_La_filled l hls D s.heap.size k V b σ hW0 ou g hou hlo (xs (i + 1))) (va_cwSW 3 hts (gi_Sw wm_La_135 wt_La_filled wi_La wcw_La_filled) rfl rfl rfl (by decide +kernel) ⟨Nat.le_of_ble_eq_true rfl, Nat.le_of_ble_eq_true rfl⟩) (mPx.preS hG hN hS hV) rfl rfl hl.1 rfl (lv_room (Nat.le_of_ble_eq_true rfl)) d_La_law_986 ⟨show cells + 1 ≤ 601024 by omega, show slots + 6 ≤ 7293000 by omega⟩) hS (fun r V1 H locs hp1 hV hS => ?_)
  obtain ⟨b1, σ1, g1, hW1, ho1, hF1, hR1⟩ := hp1
  have hho : b1.ho = b.ho := hF1.1
  obtain ⟨hM1, hl1, hl2, hl3⟩ := md_h hM0 hou hlo hlm hla hF1
  refine lv_istore (lv' := [(5, .int r), (4, .int (nI i)), (0, .ref bb), (1, .ref b.ho), (2, .ref mo), (3, .ref ou)]) hx hb d_La_law_989 hl (by decide) rfl (fun ls hl => ?_)
  refine lv_aload_n hx hb d_La_law_991 rfl (lv_at hl 4 rfl) ?_
  refine lv_aload_n hx hb d_La_law_992 rfl (lv_at hl 2 rfl) ?_
  refine lv_iload hx hb d_La_law_993 (lv_at hl 1 rfl) ?_
  refine lv_iconst (v := 1) hx hb d_La_law_995 (by decide) ?_
  refine lv_iadd hx hb d_La_law_996 ?_
  refine va_sld (i := nI i + 1) hx hb hX hbl hbA hS (sc_in (K := 1) (by omega) hLL) d_La_law_997 ?_
  rw [show (nI i + 1).toNatClampNeg = i + 1 from sc_ix (K := 1) (by omega)]
  have kk : ∀ (r2 : Int32) (V2 : HV) (ρ2 : MS) (H : Heap) (locs : List Loc), mdOk k V2 mo ad ρ2 → mdFr mo ad V1 V2 → filledM ρ (xs (i + 1)) r2 ρ2 → hv D vwCl s.heap.size V2 H → va_S (hA s.heap.size) s.heap H locs → W p l e room_1 s m #[Value.ref bb] below meth c H locs (cells + 1 + 0) (slots + 6 + 0) Q (F0 m 1001 ls [.int r2]) := by
    intro r2 V2 ρ2 H locs hM3 hF2 hA2 hV hS
    obtain ⟨hJ2, hs2, ha2⟩ := hJ σ ρ hI0 hJ0 (xs (i + 1)) r (g1 0) σ1 r2 ρ2 hR1 hA2
    obtain ⟨hW2, ho2⟩ := md_m hW1 hM1 ho1 hl2 hl3 hF2
    refine lv_istore (lv' := [(6, .int r2), (5, .int r), (4, .int (nI i)), (0, .ref bb), (1, .ref b.ho), (2, .ref mo), (3, .ref ou)]) hx hb d_La_law_1001 hl (by decide) rfl (fun ls hl => ?_)
    refine lv_aload_n hx hb d_La_law_1003 rfl (lv_at hl 5 rfl) ?_
    refine rc_i (va_runV (As := []) (rest := []) ⟨hx, hb, hml, hown, hts⟩ (c_Mo_thrown l D s.heap.size k V2 mo ad ρ2 hM3) (cwV 0 hts (gi_Vw wm_La_96 wv_Mo_thrown ws_Mo_thrown wi_Mo wc_Mo_thrown) rfl rfl rfl (by decide +kernel) ⟨Nat.le_of_ble_eq_true rfl, Nat.le_of_ble_eq_true rfl⟩) (mP.preV hG hS hV hM3.1 rfl) rfl rfl hl.1 rfl (lv_room (Nat.le_of_ble_eq_true rfl)) d_La_law_1004 ⟨show cells + 1 + 0 + 0 ≤ 601024 by omega, show slots + 6 + 0 + 0 ≤ 7293000 by omega⟩) hS (fun H locs hV hS => ?_)
    refine lv_iload hx hb d_La_law_1007 (lv_at hl 1 rfl) ?_
    refine lv_icmp_eq (tgt := 1014) hx hb d_La_law_1009 (by decide) (fun _ => ?_) (fun q => absurd hs2 q)
    refine lv_iload hx hb d_La_law_1014 (lv_at hl 1 rfl) ?_
    refine lv_if_ne (tgt := 1031) hx hb d_La_law_1016 (by decide) (fun _ => ?_) (fun c5 => ?_)
    · refine lv_goto (tgt := 1479) hx hb d_La_law_1031 (by decide) ?_
      refine W.widen (k := cells + 4) (n := slots + 159) (by omega) (by omega) ?_
      refine kc V2 b1 σ1 ρ2 g1 H locs ls hho ⟨hW2, hM3, ho2, hl1, hl2, hl3, hJ2⟩ hV hS ?_
      exact lv_sub hl [2, 3, 4, 5, 6] rfl
    · refine lv_aload_n hx hb d_La_law_1019 rfl (lv_at hl 6 rfl) ?_
      refine lv_iconst (v := 0) hx hb d_La_law_1020 (by decide) ?_
      refine hv_lald hx hb hG.K hV 1 ho2 rfl ((vp_in_nI (by omega) (by omega) : vp_in (nI 0) 1)) d_La_law_1021 ?_
      rw [show (0 : Int32).toNatClampNeg = 0 from rfl]
      refine lv_iload hx hb d_La_law_1022 (lv_at hl 0 rfl) ?_
      refine lv_i2l hx hb d_La_law_1024 rfl ?_
      refine lv_lcmp hx hb d_La_law_1025 ?_
      refine lv_if_eq (tgt := 1031) hx hb d_La_law_1026 (by decide) (fun _ => ?_) (fun q => absurd (lcm_0.mpr (ha2 c5)) q)
      refine lv_goto (tgt := 1479) hx hb d_La_law_1031 (by decide) ?_
      refine W.widen (k := cells + 4) (n := slots + 159) (by omega) (by omega) ?_
      refine kc V2 b1 σ1 ρ2 g1 H locs ls hho ⟨hW2, hM3, ho2, hl1, hl2, hl3, hJ2⟩ hV hS ?_
      exact lv_sub hl [2, 3, 4, 5, 6] rfl
  by_cases hff : moFF ρ (xs (i + 1)) = 0
  · obtain ⟨la0, hl4, ela⟩ := fl_la hmG hg8 hff
    obtain ⟨g0, hg50, eg0⟩ := hg4
    exact rc_I (va_runV (As := [.int (xs (i + 1))]) (rest := []) ⟨hx, hb, hml, hown, hts⟩ (c_Mo_filled l D s.heap.size k V1 mo ad ρ hM1 (xs (i + 1)) hmG hff la0 g0 hl4 hg50 eg0 hg5 ela) (cwV 1 hts (gi_Vw wm_La_137 wv_Mo_filled ws_Mo_filled wi_Mo wc_Mo_filled) rfl rfl rfl (by decide +kernel) ⟨Nat.le_of_ble_eq_true rfl, Nat.le_of_ble_eq_true rfl⟩) (mP.preV hG hS hV hM1.1 rfl) rfl rfl hl.1 rfl (lv_room (Nat.le_of_ble_eq_true rfl)) d_La_law_998 ⟨show cells + 1 + 0 ≤ 601024 by omega, show slots + 6 + 0 ≤ 7293000 by omega⟩) hS (fun r2 V2 H locs hp2 hV hS => by obtain ⟨G, x1, x2, x3, x4⟩ := hp2; exact kk r2 V2 _ H locs x1 x2 (Or.inr ⟨hff, la0, g0, G, hl4, hg50, eg0, ela, rfl, x3, x4⟩) hV hS)
  · exact rc_I (va_runV (As := [.int (xs (i + 1))]) (rest := []) ⟨hx, hb, hml, hown, hts⟩ (c_Mo_filledt l D s.heap.size k V1 mo ad ρ hM1 (xs (i + 1)) hmG hff) (cwV 1 hts (gi_Vw wm_La_137 wv_Mo_filled ws_Mo_filled wi_Mo wc_Mo_filled) rfl rfl rfl (by decide +kernel) ⟨Nat.le_of_ble_eq_true rfl, Nat.le_of_ble_eq_true rfl⟩) (mP.preV hG hS hV hM1.1 rfl) rfl rfl hl.1 rfl (lv_room (Nat.le_of_ble_eq_true rfl)) d_La_law_998 ⟨show cells + 1 + 0 ≤ 601024 by omega, show slots + 6 + 0 ≤ 7293000 by omega⟩) hS (fun r2 V2 H locs hp2 hV hS => kk r2 V2 _ H locs hp2.1 hp2.2.1 (Or.inl ⟨hff, hp2.2.2, rfl⟩) hV hS)
set_option maxHeartbeats 4000000 in
set_option maxRecDepth 100000 in
/-- the law's case: at -/
theorem l_at {J : HS → MS → Prop} (hJ : ok_at J) (hPre : ok_pre J) {p : Program} {l : Launch} {e : Env} {s : State} {m : MethodId} {below : List Frame} {meth : Method} {c : Code} {Q : State → Prop} {D : va_G} {k : Nat → Nat} {bb L : Nat} {xs : Nat → Int32} (C : LC p l s m c D k bb L xs) {V : HV} {b : HA} {σ : HS} {mo : Nat} {ad : Nat → Nat} {ρ : MS} {ou : Nat} {g : Nat → Int64} (hL : LJ J k V b σ mo ad ρ ou g) {H : Heap} {locs : List Loc} {ls : Array Slot} {i cells slots : Nat} (hi : i + 7 ≤ L) (hc : cells + 4 ≤ 601024) (hs : slots + 159 ≤ 7293000) (hV : hv D vwCl s.heap.size V H) (hS : va_S (hA s.heap.size) s.heap H locs) (hl : lv_has ls 7 [(4, .int (nI i)), (0, .ref bb), (1, .ref b.ho), (2, .ref mo), (3, .ref ou)])
    (kc : ∀ (V' : HV) (b' : HA) (σ' : HS) (ρ' : MS) (g' : Nat → Int64) (H' : Heap) (locs' : List Loc) (ls' : Array Slot), b'.ho = b.ho → LJ J k V' b' σ' mo ad ρ' ou g' → hv D vwCl s.heap.size V' H' → va_S (hA s.heap.size) s.heap H' locs' → lv_has ls' 7 [(4, .int (nI i)), (0, .ref bb), (1, .ref b.ho), (2, .ref mo), (3, .ref ou)] → W p l e room_1 s m #[Value.ref bb] below meth c H' locs' (cells + 4) (slots + 159) Q (F0 m 1479 ls' [])) :
    W p l e room_1 s m #[Value.ref bb] below meth c H locs cells slots Q (F0 m 1034 ls []) := by
  obtain ⟨hx, hb, hml, hown, hts, hG, hN, hX, hbl, hLL, hls⟩ := C
  obtain ⟨hW0, hM0, hou, hlo, hlm, hla, hJ0⟩ := hL
  have hW : ∀ w ∈ WS, w.before _ s = true := fun w h => hts w (List.mem_cons_of_mem _ h)
  have hbA : ¬ (hA s.heap.size) bb := Nat.not_le.mpr hbl
  have hI0 := hsI_of hW0
  obtain ⟨⟨hmG, hmW, hm16, hm1⟩, hg1, hg2, hg3, hg4, hg5, hg6, hg7, hg8⟩ := hPre σ ρ hI0 hJ0
  have q2 := mN_of hmG (K := 2) (by omega) (by omega)
  have q3 := mN_of hmG (K := 3) (by omega) (by omega)
  have q4 := mN_of hmG (K := 4) (by omega) (by omega)
  have q5 := mN_of hmG (K := 5) (by omega) (by omega)
  have q6 := mN_of hmG (K := 6) (by omega) (by omega)
  have q7 := mN_of hmG (K := 7) (by omega) (by omega)
  refine lv_aload_n hx hb d_La_law_1034 rfl (lv_at hl 2 rfl) ?_
  refine lv_aload_n hx hb d_La_law_1035 rfl (lv_at hl 1 rfl) ?_
  refine lv_iload hx hb d_La_law_1036 (lv_at hl 0 rfl) ?_
  refine lv_iconst (v := 1) hx hb d_La_law_1038 (by decide) ?_
  refine lv_iadd hx hb d_La_law_1039 ?_
  refine va_sld (i := nI i + 1) hx hb hX hbl hbA hS (sc_in (K := 1) (by omega) hLL) d_La_law_1040 ?_
  rw [show (nI i + 1).toNatClampNeg = i + 1 from sc_ix (K := 1) (by omega)]
  refine lv_aload_n hx hb d_La_law_1041 rfl (lv_at hl 1 rfl) ?_
  refine lv_iload hx hb d_La_law_1042 (lv_at hl 0 rfl) ?_
  refine lv_iconst (v := 2) hx hb d_La_law_1044 (by decide) ?_
  refine lv_iadd hx hb d_La_law_1045 ?_
  refine va_sld (i := nI i + 2) hx hb hX hbl hbA hS (sc_in (K := 2) (by omega) hLL) d_La_law_1046 ?_
  rw [show (nI i + 2).toNatClampNeg = i + 2 from sc_ix (K := 2) (by omega)]
  refine lv_aload_n hx hb d_La_law_1047 rfl (lv_at hl 4 rfl) ?_
  refine rc_I (va_runSW (As := [.ref b.ho, .int (xs (i + 1)), .int (xs (i + 2)), .ref ou]) (rest := []) ⟨hx, hb, hml, hown, hts⟩ (c_La_at l hls D s.heap.size k V b σ hW0 ou g hou hlo (xs (i + 1)) (xs (i + 2))) (va_cwSW 4 hts (gi_Sw wm_La_138 wt_La_at wi_La wcw_La_at) rfl rfl rfl (by decide +kernel) ⟨Nat.le_of_ble_eq_true rfl, Nat.le_of_ble_eq_true rfl⟩) (mPx.preS hG hN hS hV) rfl rfl hl.1 rfl (lv_room (Nat.le_of_ble_eq_true rfl)) d_La_law_1048 ⟨show cells + 1 ≤ 601024 by omega, show slots + 6 ≤ 7293000 by omega⟩) hS (fun r V1 H locs hp1 hV hS => ?_)
  obtain ⟨b1, σ1, g1, hW1, ho1, hF1, hR1⟩ := hp1
  have hho : b1.ho = b.ho := hF1.1
  obtain ⟨hM1, hl1, hl2, hl3⟩ := md_h hM0 hou hlo hlm hla hF1
  refine lv_istore (lv' := [(5, .int r), (4, .int (nI i)), (0, .ref bb), (1, .ref b.ho), (2, .ref mo), (3, .ref ou)]) hx hb d_La_law_1051 hl (by decide) rfl (fun ls hl => ?_)
  refine lv_aload_n hx hb d_La_law_1053 rfl (lv_at hl 4 rfl) ?_
  refine lv_aload_n hx hb d_La_law_1054 rfl (lv_at hl 2 rfl) ?_
  refine lv_iload hx hb d_La_law_1055 (lv_at hl 1 rfl) ?_
  refine lv_iconst (v := 1) hx hb d_La_law_1057 (by decide) ?_
  refine lv_iadd hx hb d_La_law_1058 ?_
  refine va_sld (i := nI i + 1) hx hb hX hbl hbA hS (sc_in (K := 1) (by omega) hLL) d_La_law_1059 ?_
  rw [show (nI i + 1).toNatClampNeg = i + 1 from sc_ix (K := 1) (by omega)]
  refine lv_aload_n hx hb d_La_law_1060 rfl (lv_at hl 2 rfl) ?_
  refine lv_iload hx hb d_La_law_1061 (lv_at hl 1 rfl) ?_
  refine lv_iconst (v := 2) hx hb d_La_law_1063 (by decide) ?_
  refine lv_iadd hx hb d_La_law_1064 ?_
  refine va_sld (i := nI i + 2) hx hb hX hbl hbA hS (sc_in (K := 2) (by omega) hLL) d_La_law_1065 ?_
  rw [show (nI i + 2).toNatClampNeg = i + 2 from sc_ix (K := 2) (by omega)]
  have kk : ∀ (r2 : Int32) (V2 : HV) (ρ2 : MS) (H : Heap) (locs : List Loc), mdOk k V2 mo ad ρ2 → mdFr mo ad V1 V2 → atM ρ (xs (i + 1)) (xs (i + 2)) r2 ρ2 → hv D vwCl s.heap.size V2 H → va_S (hA s.heap.size) s.heap H locs → W p l e room_1 s m #[Value.ref bb] below meth c H locs (cells + 1 + 0) (slots + 6 + 0) Q (F0 m 1069 ls [.int r2]) := by
    intro r2 V2 ρ2 H locs hM3 hF2 hA2 hV hS
    obtain ⟨hJ2, hs2, ha2⟩ := hJ σ ρ hI0 hJ0 (xs (i + 1)) (xs (i + 2)) r (g1 0) σ1 r2 ρ2 hR1 hA2
    obtain ⟨hW2, ho2⟩ := md_m hW1 hM1 ho1 hl2 hl3 hF2
    refine lv_istore (lv' := [(6, .int r2), (5, .int r), (4, .int (nI i)), (0, .ref bb), (1, .ref b.ho), (2, .ref mo), (3, .ref ou)]) hx hb d_La_law_1069 hl (by decide) rfl (fun ls hl => ?_)
    refine lv_aload_n hx hb d_La_law_1071 rfl (lv_at hl 5 rfl) ?_
    refine rc_i (va_runV (As := []) (rest := []) ⟨hx, hb, hml, hown, hts⟩ (c_Mo_thrown l D s.heap.size k V2 mo ad ρ2 hM3) (cwV 0 hts (gi_Vw wm_La_96 wv_Mo_thrown ws_Mo_thrown wi_Mo wc_Mo_thrown) rfl rfl rfl (by decide +kernel) ⟨Nat.le_of_ble_eq_true rfl, Nat.le_of_ble_eq_true rfl⟩) (mP.preV hG hS hV hM3.1 rfl) rfl rfl hl.1 rfl (lv_room (Nat.le_of_ble_eq_true rfl)) d_La_law_1072 ⟨show cells + 1 + 0 + 0 ≤ 601024 by omega, show slots + 6 + 0 + 0 ≤ 7293000 by omega⟩) hS (fun H locs hV hS => ?_)
    refine lv_iload hx hb d_La_law_1075 (lv_at hl 1 rfl) ?_
    refine lv_icmp_eq (tgt := 1082) hx hb d_La_law_1077 (by decide) (fun _ => ?_) (fun q => absurd hs2 q)
    refine lv_iload hx hb d_La_law_1082 (lv_at hl 1 rfl) ?_
    refine lv_if_ne (tgt := 1099) hx hb d_La_law_1084 (by decide) (fun _ => ?_) (fun c5 => ?_)
    · refine lv_goto (tgt := 1479) hx hb d_La_law_1099 (by decide) ?_
      refine W.widen (k := cells + 4) (n := slots + 159) (by omega) (by omega) ?_
      refine kc V2 b1 σ1 ρ2 g1 H locs ls hho ⟨hW2, hM3, ho2, hl1, hl2, hl3, hJ2⟩ hV hS ?_
      exact lv_sub hl [2, 3, 4, 5, 6] rfl
    · refine lv_aload_n hx hb d_La_law_1087 rfl (lv_at hl 6 rfl) ?_
      refine lv_iconst (v := 0) hx hb d_La_law_1088 (by decide) ?_
      refine hv_lald hx hb hG.K hV 1 ho2 rfl ((vp_in_nI (by omega) (by omega) : vp_in (nI 0) 1)) d_La_law_1089 ?_
      rw [show (0 : Int32).toNatClampNeg = 0 from rfl]
      refine lv_iload hx hb d_La_law_1090 (lv_at hl 0 rfl) ?_
      refine lv_i2l hx hb d_La_law_1092 rfl ?_
      refine lv_lcmp hx hb d_La_law_1093 ?_
      refine lv_if_eq (tgt := 1099) hx hb d_La_law_1094 (by decide) (fun _ => ?_) (fun q => absurd (lcm_0.mpr (ha2 c5)) q)
      refine lv_goto (tgt := 1479) hx hb d_La_law_1099 (by decide) ?_
      refine W.widen (k := cells + 4) (n := slots + 159) (by omega) (by omega) ?_
      refine kc V2 b1 σ1 ρ2 g1 H locs ls hho ⟨hW2, hM3, ho2, hl1, hl2, hl3, hJ2⟩ hV hS ?_
      exact lv_sub hl [2, 3, 4, 5, 6] rfl
  exact rc_I (va_runV (As := [.int (xs (i + 1)), .int (xs (i + 2))]) (rest := []) ⟨hx, hb, hml, hown, hts⟩ (c_Mo_at l D s.heap.size k V1 mo ad ρ hM1 (xs (i + 1)) (xs (i + 2)) hmG) (cwV 2 hts (gi_Vw wm_La_140 wv_Mo_at ws_Mo_at wi_Mo wc_Mo_at) rfl rfl rfl (by decide +kernel) ⟨Nat.le_of_ble_eq_true rfl, Nat.le_of_ble_eq_true rfl⟩) (mP.preV hG hS hV hM1.1 rfl) rfl rfl hl.1 rfl (lv_room (Nat.le_of_ble_eq_true rfl)) d_La_law_1066 ⟨show cells + 1 + 0 ≤ 601024 by omega, show slots + 6 + 0 ≤ 7293000 by omega⟩) hS (fun r2 V2 H locs hp2 hV hS => kk r2 V2 _ H locs hp2.1 hp2.2.1 ⟨hp2.2.2, rfl⟩ hV hS)
set_option maxHeartbeats 4000000 in
set_option maxRecDepth 100000 in
/-- the law's case: count -/
theorem l_count {J : HS → MS → Prop} (hJ : ok_count J) (hPre : ok_pre J) {p : Program} {l : Launch} {e : Env} {s : State} {m : MethodId} {below : List Frame} {meth : Method} {c : Code} {Q : State → Prop} {D : va_G} {k : Nat → Nat} {bb L : Nat} {xs : Nat → Int32} (C : LC p l s m c D k bb L xs) {V : HV} {b : HA} {σ : HS} {mo : Nat} {ad : Nat → Nat} {ρ : MS} {ou : Nat} {g : Nat → Int64} (hL : LJ J k V b σ mo ad ρ ou g) {H : Heap} {locs : List Loc} {ls : Array Slot} {i cells slots : Nat} (hi : i + 7 ≤ L) (hc : cells + 4 ≤ 601024) (hs : slots + 159 ≤ 7293000) (hV : hv D vwCl s.heap.size V H) (hS : va_S (hA s.heap.size) s.heap H locs) (hl : lv_has ls 7 [(4, .int (nI i)), (0, .ref bb), (1, .ref b.ho), (2, .ref mo), (3, .ref ou)])
    (kc : ∀ (V' : HV) (b' : HA) (σ' : HS) (ρ' : MS) (g' : Nat → Int64) (H' : Heap) (locs' : List Loc) (ls' : Array Slot), b'.ho = b.ho → LJ J k V' b' σ' mo ad ρ' ou g' → hv D vwCl s.heap.size V' H' → va_S (hA s.heap.size) s.heap H' locs' → lv_has ls' 7 [(4, .int (nI i)), (0, .ref bb), (1, .ref b.ho), (2, .ref mo), (3, .ref ou)] → W p l e room_1 s m #[Value.ref bb] below meth c H' locs' (cells + 4) (slots + 159) Q (F0 m 1479 ls' [])) :
    W p l e room_1 s m #[Value.ref bb] below meth c H locs cells slots Q (F0 m 1102 ls []) := by
  obtain ⟨hx, hb, hml, hown, hts, hG, hN, hX, hbl, hLL, hls⟩ := C
  obtain ⟨hW0, hM0, hou, hlo, hlm, hla, hJ0⟩ := hL
  have hW : ∀ w ∈ WS, w.before _ s = true := fun w h => hts w (List.mem_cons_of_mem _ h)
  have hbA : ¬ (hA s.heap.size) bb := Nat.not_le.mpr hbl
  have hI0 := hsI_of hW0
  obtain ⟨⟨hmG, hmW, hm16, hm1⟩, hg1, hg2, hg3, hg4, hg5, hg6, hg7, hg8⟩ := hPre σ ρ hI0 hJ0
  have q2 := mN_of hmG (K := 2) (by omega) (by omega)
  have q3 := mN_of hmG (K := 3) (by omega) (by omega)
  have q4 := mN_of hmG (K := 4) (by omega) (by omega)
  have q5 := mN_of hmG (K := 5) (by omega) (by omega)
  have q6 := mN_of hmG (K := 6) (by omega) (by omega)
  have q7 := mN_of hmG (K := 7) (by omega) (by omega)
  refine lv_aload_n hx hb d_La_law_1102 rfl (lv_at hl 2 rfl) ?_
  refine lv_aload_n hx hb d_La_law_1103 rfl (lv_at hl 1 rfl) ?_
  refine lv_iload hx hb d_La_law_1104 (lv_at hl 0 rfl) ?_
  refine lv_iconst (v := 1) hx hb d_La_law_1106 (by decide) ?_
  refine lv_iadd hx hb d_La_law_1107 ?_
  refine va_sld (i := nI i + 1) hx hb hX hbl hbA hS (sc_in (K := 1) (by omega) hLL) d_La_law_1108 ?_
  rw [show (nI i + 1).toNatClampNeg = i + 1 from sc_ix (K := 1) (by omega)]
  refine lv_aload_n hx hb d_La_law_1109 rfl (lv_at hl 4 rfl) ?_
  refine rc_I (va_runSW (As := [.ref b.ho, .int (xs (i + 1)), .ref ou]) (rest := []) ⟨hx, hb, hml, hown, hts⟩ (c_La_count l hls D s.heap.size k V b σ hW0 ou g hou hlo (xs (i + 1))) (va_cwSW 3 hts (gi_Sw wm_La_141 wt_La_count wi_La wcw_La_count) rfl rfl rfl (by decide +kernel) ⟨Nat.le_of_ble_eq_true rfl, Nat.le_of_ble_eq_true rfl⟩) (mPx.preS hG hN hS hV) rfl rfl hl.1 rfl (lv_room (Nat.le_of_ble_eq_true rfl)) d_La_law_1110 ⟨show cells + 1 ≤ 601024 by omega, show slots + 6 ≤ 7293000 by omega⟩) hS (fun r V1 H locs hp1 hV hS => ?_)
  obtain ⟨b1, σ1, g1, hW1, ho1, hF1, hR1⟩ := hp1
  have hho : b1.ho = b.ho := hF1.1
  obtain ⟨hM1, hl1, hl2, hl3⟩ := md_h hM0 hou hlo hlm hla hF1
  refine lv_istore (lv' := [(5, .int r), (4, .int (nI i)), (0, .ref bb), (1, .ref b.ho), (2, .ref mo), (3, .ref ou)]) hx hb d_La_law_1113 hl (by decide) rfl (fun ls hl => ?_)
  refine lv_aload_n hx hb d_La_law_1115 rfl (lv_at hl 4 rfl) ?_
  refine lv_aload_n hx hb d_La_law_1116 rfl (lv_at hl 2 rfl) ?_
  refine lv_iload hx hb d_La_law_1117 (lv_at hl 1 rfl) ?_
  refine lv_iconst (v := 1) hx hb d_La_law_1119 (by decide) ?_
  refine lv_iadd hx hb d_La_law_1120 ?_
  refine va_sld (i := nI i + 1) hx hb hX hbl hbA hS (sc_in (K := 1) (by omega) hLL) d_La_law_1121 ?_
  rw [show (nI i + 1).toNatClampNeg = i + 1 from sc_ix (K := 1) (by omega)]
  have kk : ∀ (r2 : Int32) (V2 : HV) (ρ2 : MS) (H : Heap) (locs : List Loc), mdOk k V2 mo ad ρ2 → mdFr mo ad V1 V2 → countM ρ (xs (i + 1)) r2 ρ2 → hv D vwCl s.heap.size V2 H → va_S (hA s.heap.size) s.heap H locs → W p l e room_1 s m #[Value.ref bb] below meth c H locs (cells + 1 + 0) (slots + 6 + 0) Q (F0 m 1125 ls [.int r2]) := by
    intro r2 V2 ρ2 H locs hM3 hF2 hA2 hV hS
    obtain ⟨hJ2, hs2, ha2⟩ := hJ σ ρ hI0 hJ0 (xs (i + 1)) r (g1 0) σ1 r2 ρ2 hR1 hA2
    obtain ⟨hW2, ho2⟩ := md_m hW1 hM1 ho1 hl2 hl3 hF2
    refine lv_istore (lv' := [(6, .int r2), (5, .int r), (4, .int (nI i)), (0, .ref bb), (1, .ref b.ho), (2, .ref mo), (3, .ref ou)]) hx hb d_La_law_1125 hl (by decide) rfl (fun ls hl => ?_)
    refine lv_aload_n hx hb d_La_law_1127 rfl (lv_at hl 5 rfl) ?_
    refine rc_i (va_runV (As := []) (rest := []) ⟨hx, hb, hml, hown, hts⟩ (c_Mo_thrown l D s.heap.size k V2 mo ad ρ2 hM3) (cwV 0 hts (gi_Vw wm_La_96 wv_Mo_thrown ws_Mo_thrown wi_Mo wc_Mo_thrown) rfl rfl rfl (by decide +kernel) ⟨Nat.le_of_ble_eq_true rfl, Nat.le_of_ble_eq_true rfl⟩) (mP.preV hG hS hV hM3.1 rfl) rfl rfl hl.1 rfl (lv_room (Nat.le_of_ble_eq_true rfl)) d_La_law_1128 ⟨show cells + 1 + 0 + 0 ≤ 601024 by omega, show slots + 6 + 0 + 0 ≤ 7293000 by omega⟩) hS (fun H locs hV hS => ?_)
    refine lv_iload hx hb d_La_law_1131 (lv_at hl 1 rfl) ?_
    refine lv_icmp_eq (tgt := 1138) hx hb d_La_law_1133 (by decide) (fun _ => ?_) (fun q => absurd hs2 q)
    refine lv_iload hx hb d_La_law_1138 (lv_at hl 1 rfl) ?_
    refine lv_if_ne (tgt := 1155) hx hb d_La_law_1140 (by decide) (fun _ => ?_) (fun c5 => ?_)
    · refine lv_goto (tgt := 1479) hx hb d_La_law_1155 (by decide) ?_
      refine W.widen (k := cells + 4) (n := slots + 159) (by omega) (by omega) ?_
      refine kc V2 b1 σ1 ρ2 g1 H locs ls hho ⟨hW2, hM3, ho2, hl1, hl2, hl3, hJ2⟩ hV hS ?_
      exact lv_sub hl [2, 3, 4, 5, 6] rfl
    · refine lv_aload_n hx hb d_La_law_1143 rfl (lv_at hl 6 rfl) ?_
      refine lv_iconst (v := 0) hx hb d_La_law_1144 (by decide) ?_
      refine hv_lald hx hb hG.K hV 1 ho2 rfl ((vp_in_nI (by omega) (by omega) : vp_in (nI 0) 1)) d_La_law_1145 ?_
      rw [show (0 : Int32).toNatClampNeg = 0 from rfl]
      refine lv_iload hx hb d_La_law_1146 (lv_at hl 0 rfl) ?_
      refine lv_i2l hx hb d_La_law_1148 rfl ?_
      refine lv_lcmp hx hb d_La_law_1149 ?_
      refine lv_if_eq (tgt := 1155) hx hb d_La_law_1150 (by decide) (fun _ => ?_) (fun q => absurd (lcm_0.mpr (ha2 c5)) q)
      refine lv_goto (tgt := 1479) hx hb d_La_law_1155 (by decide) ?_
      refine W.widen (k := cells + 4) (n := slots + 159) (by omega) (by omega) ?_
      refine kc V2 b1 σ1 ρ2 g1 H locs ls hho ⟨hW2, hM3, ho2, hl1, hl2, hl3, hJ2⟩ hV hS ?_
      exact lv_sub hl [2, 3, 4, 5, 6] rfl
  cases hok : (decide (2 ≤ (xs (i + 1))) && decide ((xs (i + 1)) ≤ 5)) with
  | false =>
    exact rc_I (va_runV (As := [.int (xs (i + 1))]) (rest := []) ⟨hx, hb, hml, hown, hts⟩ (c_Mo_count2t l D s.heap.size k V1 mo ad ρ hM1 (xs (i + 1)) hok) (cwV 1 hts (gi_Vw wm_La_143 wv_Mo_count2 ws_Mo_count2 wi_Mo wc_Mo_count2) rfl rfl rfl (by decide +kernel) ⟨Nat.le_of_ble_eq_true rfl, Nat.le_of_ble_eq_true rfl⟩) (mP.preV hG hS hV hM1.1 rfl) rfl rfl hl.1 rfl (lv_room (Nat.le_of_ble_eq_true rfl)) d_La_law_1122 ⟨show cells + 1 + 0 ≤ 601024 by omega, show slots + 6 + 0 ≤ 7293000 by omega⟩) hS (fun r2 V2 H locs hp2 hV hS => kk r2 V2 _ H locs hp2.1 hp2.2.1 (Or.inl ⟨hok, hp2.2.2, rfl⟩) hV hS)
  | true =>
    obtain ⟨z0, hz2, hz5, ez⟩ := kd_nat hok
    have qz := mN_of hmG (K := z0) (by omega) (by omega)
    rw [ez]
    exact rc_I (va_runV (As := [.int (nI z0)]) (rest := []) ⟨hx, hb, hml, hown, hts⟩ (c_Mo_count2 l D s.heap.size k V1 mo ad ρ hM1 z0 (mN ρ z0) hz2 hz5 qz.1 qz.2) (cwV 1 hts (gi_Vw wm_La_143 wv_Mo_count2 ws_Mo_count2 wi_Mo wc_Mo_count2) rfl rfl rfl (by decide +kernel) ⟨Nat.le_of_ble_eq_true rfl, Nat.le_of_ble_eq_true rfl⟩) (mP.preV hG hS hV hM1.1 rfl) rfl rfl hl.1 rfl (lv_room (Nat.le_of_ble_eq_true rfl)) d_La_law_1122 ⟨show cells + 1 + 0 ≤ 601024 by omega, show slots + 6 + 0 ≤ 7293000 by omega⟩) hS (fun r2 V2 H locs hp2 hV hS => kk r2 V2 _ H locs hp2.1 hp2.2.1 (Or.inr ⟨hok, by rw [ez, nI_clamp (by omega)]; exact hp2.2.2, rfl⟩) hV hS)
set_option maxHeartbeats 4000000 in
set_option maxRecDepth 100000 in
/-- the law's case: work -/
theorem l_work {J : HS → MS → Prop} (hJ : ok_work J) (hPre : ok_pre J) {p : Program} {l : Launch} {e : Env} {s : State} {m : MethodId} {below : List Frame} {meth : Method} {c : Code} {Q : State → Prop} {D : va_G} {k : Nat → Nat} {bb L : Nat} {xs : Nat → Int32} (C : LC p l s m c D k bb L xs) {V : HV} {b : HA} {σ : HS} {mo : Nat} {ad : Nat → Nat} {ρ : MS} {ou : Nat} {g : Nat → Int64} (hL : LJ J k V b σ mo ad ρ ou g) {H : Heap} {locs : List Loc} {ls : Array Slot} {i cells slots : Nat} (hi : i + 7 ≤ L) (hc : cells + 4 ≤ 601024) (hs : slots + 159 ≤ 7293000) (hV : hv D vwCl s.heap.size V H) (hS : va_S (hA s.heap.size) s.heap H locs) (hl : lv_has ls 7 [(4, .int (nI i)), (0, .ref bb), (1, .ref b.ho), (2, .ref mo), (3, .ref ou)])
    (kc : ∀ (V' : HV) (b' : HA) (σ' : HS) (ρ' : MS) (g' : Nat → Int64) (H' : Heap) (locs' : List Loc) (ls' : Array Slot), b'.ho = b.ho → LJ J k V' b' σ' mo ad ρ' ou g' → hv D vwCl s.heap.size V' H' → va_S (hA s.heap.size) s.heap H' locs' → lv_has ls' 7 [(4, .int (nI i)), (0, .ref bb), (1, .ref b.ho), (2, .ref mo), (3, .ref ou)] → W p l e room_1 s m #[Value.ref bb] below meth c H' locs' (cells + 4) (slots + 159) Q (F0 m 1479 ls' [])) :
    W p l e room_1 s m #[Value.ref bb] below meth c H locs cells slots Q (F0 m 1219 ls []) := by
  obtain ⟨hx, hb, hml, hown, hts, hG, hN, hX, hbl, hLL, hls⟩ := C
  obtain ⟨hW0, hM0, hou, hlo, hlm, hla, hJ0⟩ := hL
  have hW : ∀ w ∈ WS, w.before _ s = true := fun w h => hts w (List.mem_cons_of_mem _ h)
  have hbA : ¬ (hA s.heap.size) bb := Nat.not_le.mpr hbl
  have hI0 := hsI_of hW0
  obtain ⟨⟨hmG, hmW, hm16, hm1⟩, hg1, hg2, hg3, hg4, hg5, hg6, hg7, hg8⟩ := hPre σ ρ hI0 hJ0
  have q2 := mN_of hmG (K := 2) (by omega) (by omega)
  have q3 := mN_of hmG (K := 3) (by omega) (by omega)
  have q4 := mN_of hmG (K := 4) (by omega) (by omega)
  have q5 := mN_of hmG (K := 5) (by omega) (by omega)
  have q6 := mN_of hmG (K := 6) (by omega) (by omega)
  have q7 := mN_of hmG (K := 7) (by omega) (by omega)
  refine lv_aload_n hx hb d_La_law_1219 rfl (lv_at hl 2 rfl) ?_
  refine lv_aload_n hx hb d_La_law_1220 rfl (lv_at hl 1 rfl) ?_
  refine lv_iload hx hb d_La_law_1221 (lv_at hl 0 rfl) ?_
  refine lv_iconst (v := 1) hx hb d_La_law_1223 (by decide) ?_
  refine lv_iadd hx hb d_La_law_1224 ?_
  refine va_sld (i := nI i + 1) hx hb hX hbl hbA hS (sc_in (K := 1) (by omega) hLL) d_La_law_1225 ?_
  rw [show (nI i + 1).toNatClampNeg = i + 1 from sc_ix (K := 1) (by omega)]
  refine lv_aload_n hx hb d_La_law_1226 rfl (lv_at hl 4 rfl) ?_
  refine rc_I (va_runSW (As := [.ref b.ho, .int (xs (i + 1)), .ref ou]) (rest := []) ⟨hx, hb, hml, hown, hts⟩ (c_La_work l hls D s.heap.size k V b σ hW0 ou g hou hlo (xs (i + 1))) (va_cwSW 3 hts (gi_Sw wm_La_148 wt_La_work wi_La wcw_La_work) rfl rfl rfl (by decide +kernel) ⟨Nat.le_of_ble_eq_true rfl, Nat.le_of_ble_eq_true rfl⟩) (mPx.preS hG hN hS hV) rfl rfl hl.1 rfl (lv_room (Nat.le_of_ble_eq_true rfl)) d_La_law_1227 ⟨show cells + 1 ≤ 601024 by omega, show slots + 6 ≤ 7293000 by omega⟩) hS (fun r V1 H locs hp1 hV hS => ?_)
  obtain ⟨b1, σ1, g1, hW1, ho1, hF1, hR1⟩ := hp1
  have hho : b1.ho = b.ho := hF1.1
  obtain ⟨hM1, hl1, hl2, hl3⟩ := md_h hM0 hou hlo hlm hla hF1
  refine lv_istore (lv' := [(5, .int r), (4, .int (nI i)), (0, .ref bb), (1, .ref b.ho), (2, .ref mo), (3, .ref ou)]) hx hb d_La_law_1230 hl (by decide) rfl (fun ls hl => ?_)
  refine lv_aload_n hx hb d_La_law_1232 rfl (lv_at hl 4 rfl) ?_
  refine lv_aload_n hx hb d_La_law_1233 rfl (lv_at hl 2 rfl) ?_
  refine lv_iload hx hb d_La_law_1234 (lv_at hl 1 rfl) ?_
  refine lv_iconst (v := 1) hx hb d_La_law_1236 (by decide) ?_
  refine lv_iadd hx hb d_La_law_1237 ?_
  refine va_sld (i := nI i + 1) hx hb hX hbl hbA hS (sc_in (K := 1) (by omega) hLL) d_La_law_1238 ?_
  rw [show (nI i + 1).toNatClampNeg = i + 1 from sc_ix (K := 1) (by omega)]
  have kk : ∀ (r2 : Int32) (V2 : HV) (ρ2 : MS) (H : Heap) (locs : List Loc), mdOk k V2 mo ad ρ2 → mdFr mo ad V1 V2 → workM ρ (xs (i + 1)) r2 ρ2 → hv D vwCl s.heap.size V2 H → va_S (hA s.heap.size) s.heap H locs → W p l e room_1 s m #[Value.ref bb] below meth c H locs (cells + 1 + 0) (slots + 6 + 0) Q (F0 m 1242 ls [.int r2]) := by
    intro r2 V2 ρ2 H locs hM3 hF2 hA2 hV hS
    obtain ⟨hJ2, hs2, ha2⟩ := hJ σ ρ hI0 hJ0 (xs (i + 1)) r (g1 0) σ1 r2 ρ2 hR1 hA2
    obtain ⟨hW2, ho2⟩ := md_m hW1 hM1 ho1 hl2 hl3 hF2
    refine lv_istore (lv' := [(6, .int r2), (5, .int r), (4, .int (nI i)), (0, .ref bb), (1, .ref b.ho), (2, .ref mo), (3, .ref ou)]) hx hb d_La_law_1242 hl (by decide) rfl (fun ls hl => ?_)
    refine lv_aload_n hx hb d_La_law_1244 rfl (lv_at hl 5 rfl) ?_
    refine rc_i (va_runV (As := []) (rest := []) ⟨hx, hb, hml, hown, hts⟩ (c_Mo_thrown l D s.heap.size k V2 mo ad ρ2 hM3) (cwV 0 hts (gi_Vw wm_La_96 wv_Mo_thrown ws_Mo_thrown wi_Mo wc_Mo_thrown) rfl rfl rfl (by decide +kernel) ⟨Nat.le_of_ble_eq_true rfl, Nat.le_of_ble_eq_true rfl⟩) (mP.preV hG hS hV hM3.1 rfl) rfl rfl hl.1 rfl (lv_room (Nat.le_of_ble_eq_true rfl)) d_La_law_1245 ⟨show cells + 1 + 0 + 0 ≤ 601024 by omega, show slots + 6 + 0 + 0 ≤ 7293000 by omega⟩) hS (fun H locs hV hS => ?_)
    refine lv_iload hx hb d_La_law_1248 (lv_at hl 1 rfl) ?_
    refine lv_icmp_eq (tgt := 1255) hx hb d_La_law_1250 (by decide) (fun _ => ?_) (fun q => absurd hs2 q)
    refine lv_iload hx hb d_La_law_1255 (lv_at hl 1 rfl) ?_
    refine lv_if_ne (tgt := 1279) hx hb d_La_law_1257 (by decide) (fun _ => ?_) (fun c5 => ?_)
    · refine lv_goto (tgt := 1479) hx hb d_La_law_1279 (by decide) ?_
      refine W.widen (k := cells + 4) (n := slots + 159) (by omega) (by omega) ?_
      refine kc V2 b1 σ1 ρ2 g1 H locs ls hho ⟨hW2, hM3, ho2, hl1, hl2, hl3, hJ2⟩ hV hS ?_
      exact lv_sub hl [2, 3, 4, 5, 6] rfl
    · refine lv_aload_n hx hb d_La_law_1260 rfl (lv_at hl 6 rfl) ?_
      refine lv_iconst (v := 0) hx hb d_La_law_1261 (by decide) ?_
      refine hv_lald hx hb hG.K hV 1 ho2 rfl ((vp_in_nI (by omega) (by omega) : vp_in (nI 0) 1)) d_La_law_1262 ?_
      rw [show (0 : Int32).toNatClampNeg = 0 from rfl]
      refine lv_iload hx hb d_La_law_1263 (lv_at hl 0 rfl) ?_
      refine lv_if_eq (tgt := 1272) hx hb d_La_law_1265 (by decide) (fun c6 => ?_) (fun c6 => ?_)
      · refine lv_lconst (v := 0) hx hb d_La_law_1272 (by decide) ?_
        refine lv_lcmp hx hb d_La_law_1273 ?_
        refine lv_if_eq (tgt := 1279) hx hb d_La_law_1274 (by decide) (fun _ => ?_) (fun q => absurd (lcm_0.mpr (by rw [ha2 c5, if_pos c6])) q)
        refine lv_goto (tgt := 1479) hx hb d_La_law_1279 (by decide) ?_
        refine W.widen (k := cells + 4) (n := slots + 159) (by omega) (by omega) ?_
        refine kc V2 b1 σ1 ρ2 g1 H locs ls hho ⟨hW2, hM3, ho2, hl1, hl2, hl3, hJ2⟩ hV hS ?_
        exact lv_sub hl [2, 3, 4, 5, 6] rfl
      · refine lv_lconst (v := 1) hx hb d_La_law_1268 (by decide) ?_
        refine lv_goto (tgt := 1273) hx hb d_La_law_1269 (by decide) ?_
        refine lv_lcmp hx hb d_La_law_1273 ?_
        refine lv_if_eq (tgt := 1279) hx hb d_La_law_1274 (by decide) (fun _ => ?_) (fun q => absurd (lcm_0.mpr (by rw [ha2 c5, if_neg c6])) q)
        refine lv_goto (tgt := 1479) hx hb d_La_law_1279 (by decide) ?_
        refine W.widen (k := cells + 4) (n := slots + 159) (by omega) (by omega) ?_
        refine kc V2 b1 σ1 ρ2 g1 H locs ls hho ⟨hW2, hM3, ho2, hl1, hl2, hl3, hJ2⟩ hV hS ?_
        exact lv_sub hl [2, 3, 4, 5, 6] rfl
  exact rc_I (va_runV (As := [.int (xs (i + 1))]) (rest := []) ⟨hx, hb, hml, hown, hts⟩ (c_Mo_work l D s.heap.size k V1 mo ad ρ hM1 (xs (i + 1)) hmG) (cwV 1 hts (gi_Vw wm_La_150 wv_Mo_work ws_Mo_work wi_Mo wc_Mo_work) rfl rfl rfl (by decide +kernel) ⟨Nat.le_of_ble_eq_true rfl, Nat.le_of_ble_eq_true rfl⟩) (mP.preV hG hS hV hM1.1 rfl) rfl rfl hl.1 rfl (lv_room (Nat.le_of_ble_eq_true rfl)) d_La_law_1239 ⟨show cells + 1 + 0 ≤ 601024 by omega, show slots + 6 + 0 ≤ 7293000 by omega⟩) hS (fun r2 V2 H locs hp2 hV hS => kk r2 V2 _ H locs hp2.1 hp2.2.1 ⟨hp2.2.2, rfl⟩ hV hS)
set_option maxHeartbeats 4000000 in
set_option maxRecDepth 100000 in
/-- the law's case: end -/
theorem l_end {J : HS → MS → Prop} (hJ : ok_end J) (hPre : ok_pre J) {p : Program} {l : Launch} {e : Env} {s : State} {m : MethodId} {below : List Frame} {meth : Method} {c : Code} {Q : State → Prop} {D : va_G} {k : Nat → Nat} {bb L : Nat} {xs : Nat → Int32} (C : LC p l s m c D k bb L xs) {V : HV} {b : HA} {σ : HS} {mo : Nat} {ad : Nat → Nat} {ρ : MS} {ou : Nat} {g : Nat → Int64} (hL : LJ J k V b σ mo ad ρ ou g) {H : Heap} {locs : List Loc} {ls : Array Slot} {i cells slots : Nat} (hi : i + 7 ≤ L) (hc : cells + 4 ≤ 601024) (hs : slots + 159 ≤ 7293000) (hV : hv D vwCl s.heap.size V H) (hS : va_S (hA s.heap.size) s.heap H locs) (hl : lv_has ls 7 [(4, .int (nI i)), (0, .ref bb), (1, .ref b.ho), (2, .ref mo), (3, .ref ou)])
    (kc : ∀ (V' : HV) (b' : HA) (σ' : HS) (ρ' : MS) (g' : Nat → Int64) (H' : Heap) (locs' : List Loc) (ls' : Array Slot), b'.ho = b.ho → LJ J k V' b' σ' mo ad ρ' ou g' → hv D vwCl s.heap.size V' H' → va_S (hA s.heap.size) s.heap H' locs' → lv_has ls' 7 [(4, .int (nI i)), (0, .ref bb), (1, .ref b.ho), (2, .ref mo), (3, .ref ou)] → W p l e room_1 s m #[Value.ref bb] below meth c H' locs' (cells + 4) (slots + 159) Q (F0 m 1479 ls' [])) :
    W p l e room_1 s m #[Value.ref bb] below meth c H locs cells slots Q (F0 m 1282 ls []) := by
  obtain ⟨hx, hb, hml, hown, hts, hG, hN, hX, hbl, hLL, hls⟩ := C
  obtain ⟨hW0, hM0, hou, hlo, hlm, hla, hJ0⟩ := hL
  have hW : ∀ w ∈ WS, w.before _ s = true := fun w h => hts w (List.mem_cons_of_mem _ h)
  have hbA : ¬ (hA s.heap.size) bb := Nat.not_le.mpr hbl
  have hI0 := hsI_of hW0
  obtain ⟨⟨hmG, hmW, hm16, hm1⟩, hg1, hg2, hg3, hg4, hg5, hg6, hg7, hg8⟩ := hPre σ ρ hI0 hJ0
  have q2 := mN_of hmG (K := 2) (by omega) (by omega)
  have q3 := mN_of hmG (K := 3) (by omega) (by omega)
  have q4 := mN_of hmG (K := 4) (by omega) (by omega)
  have q5 := mN_of hmG (K := 5) (by omega) (by omega)
  have q6 := mN_of hmG (K := 6) (by omega) (by omega)
  have q7 := mN_of hmG (K := 7) (by omega) (by omega)
  by_cases hz : xs (i + 2) = 0
  · refine lv_aload_n hx hb d_La_law_1282 rfl (lv_at hl 2 rfl) ?_
    refine lv_aload_n hx hb d_La_law_1283 rfl (lv_at hl 1 rfl) ?_
    refine lv_iload hx hb d_La_law_1284 (lv_at hl 0 rfl) ?_
    refine lv_iconst (v := 1) hx hb d_La_law_1286 (by decide) ?_
    refine lv_iadd hx hb d_La_law_1287 ?_
    refine va_sld (i := nI i + 1) hx hb hX hbl hbA hS (sc_in (K := 1) (by omega) hLL) d_La_law_1288 ?_
    rw [show (nI i + 1).toNatClampNeg = i + 1 from sc_ix (K := 1) (by omega)]
    refine lv_aload_n hx hb d_La_law_1289 rfl (lv_at hl 1 rfl) ?_
    refine lv_iload hx hb d_La_law_1290 (lv_at hl 0 rfl) ?_
    refine lv_iconst (v := 2) hx hb d_La_law_1292 (by decide) ?_
    refine lv_iadd hx hb d_La_law_1293 ?_
    refine va_sld (i := nI i + 2) hx hb hX hbl hbA hS (sc_in (K := 2) (by omega) hLL) d_La_law_1294 ?_
    rw [show (nI i + 2).toNatClampNeg = i + 2 from sc_ix (K := 2) (by omega)]
    refine lv_if_eq (tgt := 1302) hx hb d_La_law_1295 (by decide) (fun _ => ?_) (fun q => absurd hz q)
    refine lv_iconst (v := 0) hx hb d_La_law_1302 (by decide) ?_
    refine lv_aload_n hx hb d_La_law_1303 rfl (lv_at hl 4 rfl) ?_
    refine rc_I (va_runSW (As := [.ref b.ho, .int (xs (i + 1)), .int 0, .ref ou]) (rest := []) ⟨hx, hb, hml, hown, hts⟩ (c_La_end l hls D s.heap.size k V b σ hW0 ou g hou hlo (xs (i + 1)) 0) (va_cwSW 4 hts (gi_Sw wm_La_151 wt_La_end wi_La wcw_La_end) rfl rfl rfl (by decide +kernel) ⟨Nat.le_of_ble_eq_true rfl, Nat.le_of_ble_eq_true rfl⟩) (mPx.preS hG hN hS hV) rfl rfl hl.1 rfl (lv_room (Nat.le_of_ble_eq_true rfl)) d_La_law_1304 ⟨show cells + 1 ≤ 601024 by omega, show slots + 6 ≤ 7293000 by omega⟩) hS (fun r V1 H locs hp1 hV hS => ?_)
    obtain ⟨b1, σ1, g1, hW1, ho1, hF1, hR1⟩ := hp1
    have hho : b1.ho = b.ho := hF1.1
    obtain ⟨hM1, hl1, hl2, hl3⟩ := md_h hM0 hou hlo hlm hla hF1
    refine lv_istore (lv' := [(5, .int r), (4, .int (nI i)), (0, .ref bb), (1, .ref b.ho), (2, .ref mo), (3, .ref ou)]) hx hb d_La_law_1307 hl (by decide) rfl (fun ls hl => ?_)
    refine lv_aload_n hx hb d_La_law_1309 rfl (lv_at hl 4 rfl) ?_
    refine lv_aload_n hx hb d_La_law_1310 rfl (lv_at hl 2 rfl) ?_
    refine lv_iload hx hb d_La_law_1311 (lv_at hl 1 rfl) ?_
    refine lv_iconst (v := 1) hx hb d_La_law_1313 (by decide) ?_
    refine lv_iadd hx hb d_La_law_1314 ?_
    refine va_sld (i := nI i + 1) hx hb hX hbl hbA hS (sc_in (K := 1) (by omega) hLL) d_La_law_1315 ?_
    rw [show (nI i + 1).toNatClampNeg = i + 1 from sc_ix (K := 1) (by omega)]
    refine lv_aload_n hx hb d_La_law_1316 rfl (lv_at hl 2 rfl) ?_
    refine lv_iload hx hb d_La_law_1317 (lv_at hl 1 rfl) ?_
    refine lv_iconst (v := 2) hx hb d_La_law_1319 (by decide) ?_
    refine lv_iadd hx hb d_La_law_1320 ?_
    refine va_sld (i := nI i + 2) hx hb hX hbl hbA hS (sc_in (K := 2) (by omega) hLL) d_La_law_1321 ?_
    rw [show (nI i + 2).toNatClampNeg = i + 2 from sc_ix (K := 2) (by omega)]
    refine lv_if_eq (tgt := 1329) hx hb d_La_law_1322 (by decide) (fun _ => ?_) (fun q => absurd hz q)
    refine lv_iconst (v := 0) hx hb d_La_law_1329 (by decide) ?_
    have kk : ∀ (r2 : Int32) (V2 : HV) (ρ2 : MS) (H : Heap) (locs : List Loc), mdOk k V2 mo ad ρ2 → mdFr mo ad V1 V2 → endM ρ (xs (i + 1)) 0 r2 ρ2 → hv D vwCl s.heap.size V2 H → va_S (hA s.heap.size) s.heap H locs → W p l e room_1 s m #[Value.ref bb] below meth c H locs (cells + 1 + 0) (slots + 6 + 0) Q (F0 m 1333 ls [.int r2]) := by
      intro r2 V2 ρ2 H locs hM3 hF2 hA2 hV hS
      obtain ⟨hJ2, hs2, ha2⟩ := hJ σ ρ hI0 hJ0 (xs (i + 1)) 0 r (g1 0) σ1 r2 ρ2 hR1 hA2
      obtain ⟨hW2, ho2⟩ := md_m hW1 hM1 ho1 hl2 hl3 hF2
      refine lv_istore (lv' := [(6, .int r2), (5, .int r), (4, .int (nI i)), (0, .ref bb), (1, .ref b.ho), (2, .ref mo), (3, .ref ou)]) hx hb d_La_law_1333 hl (by decide) rfl (fun ls hl => ?_)
      refine lv_aload_n hx hb d_La_law_1335 rfl (lv_at hl 5 rfl) ?_
      refine rc_i (va_runV (As := []) (rest := []) ⟨hx, hb, hml, hown, hts⟩ (c_Mo_thrown l D s.heap.size k V2 mo ad ρ2 hM3) (cwV 0 hts (gi_Vw wm_La_96 wv_Mo_thrown ws_Mo_thrown wi_Mo wc_Mo_thrown) rfl rfl rfl (by decide +kernel) ⟨Nat.le_of_ble_eq_true rfl, Nat.le_of_ble_eq_true rfl⟩) (mP.preV hG hS hV hM3.1 rfl) rfl rfl hl.1 rfl (lv_room (Nat.le_of_ble_eq_true rfl)) d_La_law_1336 ⟨show cells + 1 + 0 + 0 ≤ 601024 by omega, show slots + 6 + 0 + 0 ≤ 7293000 by omega⟩) hS (fun H locs hV hS => ?_)
      refine lv_iload hx hb d_La_law_1339 (lv_at hl 1 rfl) ?_
      refine lv_icmp_eq (tgt := 1346) hx hb d_La_law_1341 (by decide) (fun _ => ?_) (fun q => absurd hs2 q)
      refine lv_iload hx hb d_La_law_1346 (lv_at hl 1 rfl) ?_
      refine lv_if_ne (tgt := 1363) hx hb d_La_law_1348 (by decide) (fun _ => ?_) (fun c5 => ?_)
      · refine lv_goto (tgt := 1479) hx hb d_La_law_1363 (by decide) ?_
        refine W.widen (k := cells + 4) (n := slots + 159) (by omega) (by omega) ?_
        refine kc V2 b1 σ1 ρ2 g1 H locs ls hho ⟨hW2, hM3, ho2, hl1, hl2, hl3, hJ2⟩ hV hS ?_
        exact lv_sub hl [2, 3, 4, 5, 6] rfl
      · refine lv_aload_n hx hb d_La_law_1351 rfl (lv_at hl 6 rfl) ?_
        refine lv_iconst (v := 0) hx hb d_La_law_1352 (by decide) ?_
        refine hv_lald hx hb hG.K hV 1 ho2 rfl ((vp_in_nI (by omega) (by omega) : vp_in (nI 0) 1)) d_La_law_1353 ?_
        rw [show (0 : Int32).toNatClampNeg = 0 from rfl]
        refine lv_iload hx hb d_La_law_1354 (lv_at hl 0 rfl) ?_
        refine lv_i2l hx hb d_La_law_1356 rfl ?_
        refine lv_lcmp hx hb d_La_law_1357 ?_
        refine lv_if_eq (tgt := 1363) hx hb d_La_law_1358 (by decide) (fun _ => ?_) (fun q => absurd (lcm_0.mpr (ha2 c5)) q)
        refine lv_goto (tgt := 1479) hx hb d_La_law_1363 (by decide) ?_
        refine W.widen (k := cells + 4) (n := slots + 159) (by omega) (by omega) ?_
        refine kc V2 b1 σ1 ρ2 g1 H locs ls hho ⟨hW2, hM3, ho2, hl1, hl2, hl3, hJ2⟩ hV hS ?_
        exact lv_sub hl [2, 3, 4, 5, 6] rfl
    exact rc_I (va_runV (As := [.int (xs (i + 1)), .int 0]) (rest := []) ⟨hx, hb, hml, hown, hts⟩ (c_Mo_end l D s.heap.size k V1 mo ad ρ hM1 (xs (i + 1)) 0 hmG hm16) (cwV 2 hts (gi_Vw wm_La_154 wv_Mo_end ws_Mo_end wi_Mo wc_Mo_end) rfl rfl rfl (by decide +kernel) ⟨Nat.le_of_ble_eq_true rfl, Nat.le_of_ble_eq_true rfl⟩) (mP.preV hG hS hV hM1.1 rfl) rfl rfl hl.1 rfl (lv_room (Nat.le_of_ble_eq_true rfl)) d_La_law_1330 ⟨show cells + 1 + 0 ≤ 601024 by omega, show slots + 6 + 0 ≤ 7293000 by omega⟩) hS (fun r2 V2 H locs hp2 hV hS => kk r2 V2 _ H locs hp2.1 hp2.2.1 ⟨hp2.2.2, rfl⟩ hV hS)
  · refine lv_aload_n hx hb d_La_law_1282 rfl (lv_at hl 2 rfl) ?_
    refine lv_aload_n hx hb d_La_law_1283 rfl (lv_at hl 1 rfl) ?_
    refine lv_iload hx hb d_La_law_1284 (lv_at hl 0 rfl) ?_
    refine lv_iconst (v := 1) hx hb d_La_law_1286 (by decide) ?_
    refine lv_iadd hx hb d_La_law_1287 ?_
    refine va_sld (i := nI i + 1) hx hb hX hbl hbA hS (sc_in (K := 1) (by omega) hLL) d_La_law_1288 ?_
    rw [show (nI i + 1).toNatClampNeg = i + 1 from sc_ix (K := 1) (by omega)]
    refine lv_aload_n hx hb d_La_law_1289 rfl (lv_at hl 1 rfl) ?_
    refine lv_iload hx hb d_La_law_1290 (lv_at hl 0 rfl) ?_
    refine lv_iconst (v := 2) hx hb d_La_law_1292 (by decide) ?_
    refine lv_iadd hx hb d_La_law_1293 ?_
    refine va_sld (i := nI i + 2) hx hb hX hbl hbA hS (sc_in (K := 2) (by omega) hLL) d_La_law_1294 ?_
    rw [show (nI i + 2).toNatClampNeg = i + 2 from sc_ix (K := 2) (by omega)]
    refine lv_if_eq (tgt := 1302) hx hb d_La_law_1295 (by decide) (fun q => absurd q hz) (fun _ => ?_)
    refine lv_iconst (v := 1) hx hb d_La_law_1298 (by decide) ?_
    refine lv_goto (tgt := 1303) hx hb d_La_law_1299 (by decide) ?_
    refine lv_aload_n hx hb d_La_law_1303 rfl (lv_at hl 4 rfl) ?_
    refine rc_I (va_runSW (As := [.ref b.ho, .int (xs (i + 1)), .int 1, .ref ou]) (rest := []) ⟨hx, hb, hml, hown, hts⟩ (c_La_end l hls D s.heap.size k V b σ hW0 ou g hou hlo (xs (i + 1)) 1) (va_cwSW 4 hts (gi_Sw wm_La_151 wt_La_end wi_La wcw_La_end) rfl rfl rfl (by decide +kernel) ⟨Nat.le_of_ble_eq_true rfl, Nat.le_of_ble_eq_true rfl⟩) (mPx.preS hG hN hS hV) rfl rfl hl.1 rfl (lv_room (Nat.le_of_ble_eq_true rfl)) d_La_law_1304 ⟨show cells + 1 ≤ 601024 by omega, show slots + 6 ≤ 7293000 by omega⟩) hS (fun r V1 H locs hp1 hV hS => ?_)
    obtain ⟨b1, σ1, g1, hW1, ho1, hF1, hR1⟩ := hp1
    have hho : b1.ho = b.ho := hF1.1
    obtain ⟨hM1, hl1, hl2, hl3⟩ := md_h hM0 hou hlo hlm hla hF1
    refine lv_istore (lv' := [(5, .int r), (4, .int (nI i)), (0, .ref bb), (1, .ref b.ho), (2, .ref mo), (3, .ref ou)]) hx hb d_La_law_1307 hl (by decide) rfl (fun ls hl => ?_)
    refine lv_aload_n hx hb d_La_law_1309 rfl (lv_at hl 4 rfl) ?_
    refine lv_aload_n hx hb d_La_law_1310 rfl (lv_at hl 2 rfl) ?_
    refine lv_iload hx hb d_La_law_1311 (lv_at hl 1 rfl) ?_
    refine lv_iconst (v := 1) hx hb d_La_law_1313 (by decide) ?_
    refine lv_iadd hx hb d_La_law_1314 ?_
    refine va_sld (i := nI i + 1) hx hb hX hbl hbA hS (sc_in (K := 1) (by omega) hLL) d_La_law_1315 ?_
    rw [show (nI i + 1).toNatClampNeg = i + 1 from sc_ix (K := 1) (by omega)]
    refine lv_aload_n hx hb d_La_law_1316 rfl (lv_at hl 2 rfl) ?_
    refine lv_iload hx hb d_La_law_1317 (lv_at hl 1 rfl) ?_
    refine lv_iconst (v := 2) hx hb d_La_law_1319 (by decide) ?_
    refine lv_iadd hx hb d_La_law_1320 ?_
    refine va_sld (i := nI i + 2) hx hb hX hbl hbA hS (sc_in (K := 2) (by omega) hLL) d_La_law_1321 ?_
    rw [show (nI i + 2).toNatClampNeg = i + 2 from sc_ix (K := 2) (by omega)]
    refine lv_if_eq (tgt := 1329) hx hb d_La_law_1322 (by decide) (fun q => absurd q hz) (fun _ => ?_)
    refine lv_iconst (v := 1) hx hb d_La_law_1325 (by decide) ?_
    refine lv_goto (tgt := 1330) hx hb d_La_law_1326 (by decide) ?_
    have kk : ∀ (r2 : Int32) (V2 : HV) (ρ2 : MS) (H : Heap) (locs : List Loc), mdOk k V2 mo ad ρ2 → mdFr mo ad V1 V2 → endM ρ (xs (i + 1)) 1 r2 ρ2 → hv D vwCl s.heap.size V2 H → va_S (hA s.heap.size) s.heap H locs → W p l e room_1 s m #[Value.ref bb] below meth c H locs (cells + 1 + 0) (slots + 6 + 0) Q (F0 m 1333 ls [.int r2]) := by
      intro r2 V2 ρ2 H locs hM3 hF2 hA2 hV hS
      obtain ⟨hJ2, hs2, ha2⟩ := hJ σ ρ hI0 hJ0 (xs (i + 1)) 1 r (g1 0) σ1 r2 ρ2 hR1 hA2
      obtain ⟨hW2, ho2⟩ := md_m hW1 hM1 ho1 hl2 hl3 hF2
      refine lv_istore (lv' := [(6, .int r2), (5, .int r), (4, .int (nI i)), (0, .ref bb), (1, .ref b.ho), (2, .ref mo), (3, .ref ou)]) hx hb d_La_law_1333 hl (by decide) rfl (fun ls hl => ?_)
      refine lv_aload_n hx hb d_La_law_1335 rfl (lv_at hl 5 rfl) ?_
      refine rc_i (va_runV (As := []) (rest := []) ⟨hx, hb, hml, hown, hts⟩ (c_Mo_thrown l D s.heap.size k V2 mo ad ρ2 hM3) (cwV 0 hts (gi_Vw wm_La_96 wv_Mo_thrown ws_Mo_thrown wi_Mo wc_Mo_thrown) rfl rfl rfl (by decide +kernel) ⟨Nat.le_of_ble_eq_true rfl, Nat.le_of_ble_eq_true rfl⟩) (mP.preV hG hS hV hM3.1 rfl) rfl rfl hl.1 rfl (lv_room (Nat.le_of_ble_eq_true rfl)) d_La_law_1336 ⟨show cells + 1 + 0 + 0 ≤ 601024 by omega, show slots + 6 + 0 + 0 ≤ 7293000 by omega⟩) hS (fun H locs hV hS => ?_)
      refine lv_iload hx hb d_La_law_1339 (lv_at hl 1 rfl) ?_
      refine lv_icmp_eq (tgt := 1346) hx hb d_La_law_1341 (by decide) (fun _ => ?_) (fun q => absurd hs2 q)
      refine lv_iload hx hb d_La_law_1346 (lv_at hl 1 rfl) ?_
      refine lv_if_ne (tgt := 1363) hx hb d_La_law_1348 (by decide) (fun _ => ?_) (fun c5 => ?_)
      · refine lv_goto (tgt := 1479) hx hb d_La_law_1363 (by decide) ?_
        refine W.widen (k := cells + 4) (n := slots + 159) (by omega) (by omega) ?_
        refine kc V2 b1 σ1 ρ2 g1 H locs ls hho ⟨hW2, hM3, ho2, hl1, hl2, hl3, hJ2⟩ hV hS ?_
        exact lv_sub hl [2, 3, 4, 5, 6] rfl
      · refine lv_aload_n hx hb d_La_law_1351 rfl (lv_at hl 6 rfl) ?_
        refine lv_iconst (v := 0) hx hb d_La_law_1352 (by decide) ?_
        refine hv_lald hx hb hG.K hV 1 ho2 rfl ((vp_in_nI (by omega) (by omega) : vp_in (nI 0) 1)) d_La_law_1353 ?_
        rw [show (0 : Int32).toNatClampNeg = 0 from rfl]
        refine lv_iload hx hb d_La_law_1354 (lv_at hl 0 rfl) ?_
        refine lv_i2l hx hb d_La_law_1356 rfl ?_
        refine lv_lcmp hx hb d_La_law_1357 ?_
        refine lv_if_eq (tgt := 1363) hx hb d_La_law_1358 (by decide) (fun _ => ?_) (fun q => absurd (lcm_0.mpr (ha2 c5)) q)
        refine lv_goto (tgt := 1479) hx hb d_La_law_1363 (by decide) ?_
        refine W.widen (k := cells + 4) (n := slots + 159) (by omega) (by omega) ?_
        refine kc V2 b1 σ1 ρ2 g1 H locs ls hho ⟨hW2, hM3, ho2, hl1, hl2, hl3, hJ2⟩ hV hS ?_
        exact lv_sub hl [2, 3, 4, 5, 6] rfl
    exact rc_I (va_runV (As := [.int (xs (i + 1)), .int 1]) (rest := []) ⟨hx, hb, hml, hown, hts⟩ (c_Mo_end l D s.heap.size k V1 mo ad ρ hM1 (xs (i + 1)) 1 hmG hm16) (cwV 2 hts (gi_Vw wm_La_154 wv_Mo_end ws_Mo_end wi_Mo wc_Mo_end) rfl rfl rfl (by decide +kernel) ⟨Nat.le_of_ble_eq_true rfl, Nat.le_of_ble_eq_true rfl⟩) (mP.preV hG hS hV hM1.1 rfl) rfl rfl hl.1 rfl (lv_room (Nat.le_of_ble_eq_true rfl)) d_La_law_1330 ⟨show cells + 1 + 0 ≤ 601024 by omega, show slots + 6 + 0 ≤ 7293000 by omega⟩) hS (fun r2 V2 H locs hp2 hV hS => kk r2 V2 _ H locs hp2.1 hp2.2.1 ⟨hp2.2.2, rfl⟩ hV hS)
set_option maxHeartbeats 4000000 in
set_option maxRecDepth 100000 in
/-- the law's case: version -/
theorem l_version {J : HS → MS → Prop} (hJ : ok_version J) (hPre : ok_pre J) {p : Program} {l : Launch} {e : Env} {s : State} {m : MethodId} {below : List Frame} {meth : Method} {c : Code} {Q : State → Prop} {D : va_G} {k : Nat → Nat} {bb L : Nat} {xs : Nat → Int32} (C : LC p l s m c D k bb L xs) {V : HV} {b : HA} {σ : HS} {mo : Nat} {ad : Nat → Nat} {ρ : MS} {ou : Nat} {g : Nat → Int64} (hL : LJ J k V b σ mo ad ρ ou g) {H : Heap} {locs : List Loc} {ls : Array Slot} {i cells slots : Nat} (hi : i + 7 ≤ L) (hc : cells + 4 ≤ 601024) (hs : slots + 159 ≤ 7293000) (hV : hv D vwCl s.heap.size V H) (hS : va_S (hA s.heap.size) s.heap H locs) (hl : lv_has ls 7 [(4, .int (nI i)), (0, .ref bb), (1, .ref b.ho), (2, .ref mo), (3, .ref ou)])
    (kc : ∀ (V' : HV) (b' : HA) (σ' : HS) (ρ' : MS) (g' : Nat → Int64) (H' : Heap) (locs' : List Loc) (ls' : Array Slot), b'.ho = b.ho → LJ J k V' b' σ' mo ad ρ' ou g' → hv D vwCl s.heap.size V' H' → va_S (hA s.heap.size) s.heap H' locs' → lv_has ls' 7 [(4, .int (nI i)), (0, .ref bb), (1, .ref b.ho), (2, .ref mo), (3, .ref ou)] → W p l e room_1 s m #[Value.ref bb] below meth c H' locs' (cells + 4) (slots + 159) Q (F0 m 1479 ls' [])) :
    W p l e room_1 s m #[Value.ref bb] below meth c H locs cells slots Q (F0 m 1366 ls []) := by
  obtain ⟨hx, hb, hml, hown, hts, hG, hN, hX, hbl, hLL, hls⟩ := C
  obtain ⟨hW0, hM0, hou, hlo, hlm, hla, hJ0⟩ := hL
  have hW : ∀ w ∈ WS, w.before _ s = true := fun w h => hts w (List.mem_cons_of_mem _ h)
  have hbA : ¬ (hA s.heap.size) bb := Nat.not_le.mpr hbl
  have hI0 := hsI_of hW0
  obtain ⟨⟨hmG, hmW, hm16, hm1⟩, hg1, hg2, hg3, hg4, hg5, hg6, hg7, hg8⟩ := hPre σ ρ hI0 hJ0
  have q2 := mN_of hmG (K := 2) (by omega) (by omega)
  have q3 := mN_of hmG (K := 3) (by omega) (by omega)
  have q4 := mN_of hmG (K := 4) (by omega) (by omega)
  have q5 := mN_of hmG (K := 5) (by omega) (by omega)
  have q6 := mN_of hmG (K := 6) (by omega) (by omega)
  have q7 := mN_of hmG (K := 7) (by omega) (by omega)
  refine lv_aload_n hx hb d_La_law_1366 rfl (lv_at hl 2 rfl) ?_
  refine lv_aload_n hx hb d_La_law_1367 rfl (lv_at hl 4 rfl) ?_
  refine rc_I (va_runSW (As := [.ref b.ho, .ref ou]) (rest := []) ⟨hx, hb, hml, hown, hts⟩ (c_La_version l hls D s.heap.size k V b σ hW0 ou g hou hlo ) (va_cwSW 2 hts (gi_Sw wm_La_155 wt_La_version wi_La wcw_La_version) rfl rfl rfl (by decide +kernel) ⟨Nat.le_of_ble_eq_true rfl, Nat.le_of_ble_eq_true rfl⟩) (mPx.preS hG hN hS hV) rfl rfl hl.1 rfl (lv_room (Nat.le_of_ble_eq_true rfl)) d_La_law_1368 ⟨show cells + 2 ≤ 601024 by omega, show slots + 151 ≤ 7293000 by omega⟩) hS (fun r V1 H locs hp1 hV hS => ?_)
  obtain ⟨b1, σ1, g1, hW1, ho1, hF1, hR1⟩ := hp1
  have hho : b1.ho = b.ho := hF1.1
  obtain ⟨hM1, hl1, hl2, hl3⟩ := md_h hM0 hou hlo hlm hla hF1
  refine lv_istore (lv' := [(5, .int r), (4, .int (nI i)), (0, .ref bb), (1, .ref b.ho), (2, .ref mo), (3, .ref ou)]) hx hb d_La_law_1371 hl (by decide) rfl (fun ls hl => ?_)
  refine lv_aload_n hx hb d_La_law_1373 rfl (lv_at hl 4 rfl) ?_
  have kk : ∀ (r2 : Int32) (V2 : HV) (ρ2 : MS) (H : Heap) (locs : List Loc), mdOk k V2 mo ad ρ2 → mdFr mo ad V1 V2 → versionM ρ  r2 ρ2 → hv D vwCl s.heap.size V2 H → va_S (hA s.heap.size) s.heap H locs → W p l e room_1 s m #[Value.ref bb] below meth c H locs (cells + 2 + 0) (slots + 151 + 0) Q (F0 m 1377 ls [.int r2]) := by
    intro r2 V2 ρ2 H locs hM3 hF2 hA2 hV hS
    obtain ⟨hJ2, hs2, ha2⟩ := hJ σ ρ hI0 hJ0  r (g1 0) σ1 r2 ρ2 hR1 hA2
    obtain ⟨hW2, ho2⟩ := md_m hW1 hM1 ho1 hl2 hl3 hF2
    refine lv_istore (lv' := [(6, .int r2), (5, .int r), (4, .int (nI i)), (0, .ref bb), (1, .ref b.ho), (2, .ref mo), (3, .ref ou)]) hx hb d_La_law_1377 hl (by decide) rfl (fun ls hl => ?_)
    refine lv_aload_n hx hb d_La_law_1379 rfl (lv_at hl 5 rfl) ?_
    refine rc_i (va_runV (As := []) (rest := []) ⟨hx, hb, hml, hown, hts⟩ (c_Mo_thrown l D s.heap.size k V2 mo ad ρ2 hM3) (cwV 0 hts (gi_Vw wm_La_96 wv_Mo_thrown ws_Mo_thrown wi_Mo wc_Mo_thrown) rfl rfl rfl (by decide +kernel) ⟨Nat.le_of_ble_eq_true rfl, Nat.le_of_ble_eq_true rfl⟩) (mP.preV hG hS hV hM3.1 rfl) rfl rfl hl.1 rfl (lv_room (Nat.le_of_ble_eq_true rfl)) d_La_law_1380 ⟨show cells + 2 + 0 + 0 ≤ 601024 by omega, show slots + 151 + 0 + 0 ≤ 7293000 by omega⟩) hS (fun H locs hV hS => ?_)
    refine lv_iload hx hb d_La_law_1383 (lv_at hl 1 rfl) ?_
    refine lv_icmp_eq (tgt := 1390) hx hb d_La_law_1385 (by decide) (fun _ => ?_) (fun q => absurd hs2 q)
    refine lv_iload hx hb d_La_law_1390 (lv_at hl 1 rfl) ?_
    refine lv_if_ne (tgt := 1407) hx hb d_La_law_1392 (by decide) (fun _ => ?_) (fun c5 => ?_)
    · refine lv_goto (tgt := 1479) hx hb d_La_law_1407 (by decide) ?_
      refine W.widen (k := cells + 4) (n := slots + 159) (by omega) (by omega) ?_
      refine kc V2 b1 σ1 ρ2 g1 H locs ls hho ⟨hW2, hM3, ho2, hl1, hl2, hl3, hJ2⟩ hV hS ?_
      exact lv_sub hl [2, 3, 4, 5, 6] rfl
    · refine lv_aload_n hx hb d_La_law_1395 rfl (lv_at hl 6 rfl) ?_
      refine lv_iconst (v := 0) hx hb d_La_law_1396 (by decide) ?_
      refine hv_lald hx hb hG.K hV 1 ho2 rfl ((vp_in_nI (by omega) (by omega) : vp_in (nI 0) 1)) d_La_law_1397 ?_
      rw [show (0 : Int32).toNatClampNeg = 0 from rfl]
      refine lv_iload hx hb d_La_law_1398 (lv_at hl 0 rfl) ?_
      refine lv_i2l hx hb d_La_law_1400 rfl ?_
      refine lv_lcmp hx hb d_La_law_1401 ?_
      refine lv_if_eq (tgt := 1407) hx hb d_La_law_1402 (by decide) (fun _ => ?_) (fun q => absurd (lcm_0.mpr (ha2 c5)) q)
      refine lv_goto (tgt := 1479) hx hb d_La_law_1407 (by decide) ?_
      refine W.widen (k := cells + 4) (n := slots + 159) (by omega) (by omega) ?_
      refine kc V2 b1 σ1 ρ2 g1 H locs ls hho ⟨hW2, hM3, ho2, hl1, hl2, hl3, hJ2⟩ hV hS ?_
      exact lv_sub hl [2, 3, 4, 5, 6] rfl
  exact rc_I (va_runV (As := []) (rest := []) ⟨hx, hb, hml, hown, hts⟩ (c_Mo_version l D s.heap.size k V1 mo ad ρ hM1 (mN ρ 7) q7.2 q7.1 hm1) (cwV 0 hts (gi_Vw wm_La_158 wv_Mo_version ws_Mo_version wi_Mo wc_Mo_version) rfl rfl rfl (by decide +kernel) ⟨Nat.le_of_ble_eq_true rfl, Nat.le_of_ble_eq_true rfl⟩) (mP.preV hG hS hV hM1.1 rfl) rfl rfl hl.1 rfl (lv_room (Nat.le_of_ble_eq_true rfl)) d_La_law_1374 ⟨show cells + 2 + 0 ≤ 601024 by omega, show slots + 151 + 0 ≤ 7293000 by omega⟩) hS (fun r2 V2 H locs hp2 hV hS => hp2.1.elim (fun ⟨a1, a2, a3⟩ => kk r2 V2 _ H locs a3 hp2.2 (Or.inl ⟨a1, a2, rfl⟩) hV hS) (fun x => x.elim (fun ⟨a1, a2, a3, a4⟩ => kk r2 V2 _ H locs a4 hp2.2 (Or.inr (Or.inl ⟨a1, a2, a3, rfl⟩)) hV hS) (fun ⟨a1, a2, a3, y0, y1, y2, y3, a4, a5⟩ => kk r2 V2 _ H locs a4 hp2.2 (Or.inr (Or.inr ⟨a1, a2, a3, y0, y1, y2, y3, rfl, a5⟩)) hV hS)))
set_option maxHeartbeats 4000000 in
set_option maxRecDepth 100000 in
/-- the law's case: back -/
theorem l_back {J : HS → MS → Prop} (hJ : ok_back J) (hPre : ok_pre J) {p : Program} {l : Launch} {e : Env} {s : State} {m : MethodId} {below : List Frame} {meth : Method} {c : Code} {Q : State → Prop} {D : va_G} {k : Nat → Nat} {bb L : Nat} {xs : Nat → Int32} (C : LC p l s m c D k bb L xs) {V : HV} {b : HA} {σ : HS} {mo : Nat} {ad : Nat → Nat} {ρ : MS} {ou : Nat} {g : Nat → Int64} (hL : LJ J k V b σ mo ad ρ ou g) {H : Heap} {locs : List Loc} {ls : Array Slot} {i cells slots : Nat} (hi : i + 7 ≤ L) (hc : cells + 4 ≤ 601024) (hs : slots + 159 ≤ 7293000) (hV : hv D vwCl s.heap.size V H) (hS : va_S (hA s.heap.size) s.heap H locs) (hl : lv_has ls 7 [(4, .int (nI i)), (0, .ref bb), (1, .ref b.ho), (2, .ref mo), (3, .ref ou)])
    (kc : ∀ (V' : HV) (b' : HA) (σ' : HS) (ρ' : MS) (g' : Nat → Int64) (H' : Heap) (locs' : List Loc) (ls' : Array Slot), b'.ho = b.ho → LJ J k V' b' σ' mo ad ρ' ou g' → hv D vwCl s.heap.size V' H' → va_S (hA s.heap.size) s.heap H' locs' → lv_has ls' 7 [(4, .int (nI i)), (0, .ref bb), (1, .ref b.ho), (2, .ref mo), (3, .ref ou)] → W p l e room_1 s m #[Value.ref bb] below meth c H' locs' (cells + 4) (slots + 159) Q (F0 m 1479 ls' [])) :
    W p l e room_1 s m #[Value.ref bb] below meth c H locs cells slots Q (F0 m 1410 ls []) := by
  obtain ⟨hx, hb, hml, hown, hts, hG, hN, hX, hbl, hLL, hls⟩ := C
  obtain ⟨hW0, hM0, hou, hlo, hlm, hla, hJ0⟩ := hL
  have hW : ∀ w ∈ WS, w.before _ s = true := fun w h => hts w (List.mem_cons_of_mem _ h)
  have hbA : ¬ (hA s.heap.size) bb := Nat.not_le.mpr hbl
  have hI0 := hsI_of hW0
  obtain ⟨⟨hmG, hmW, hm16, hm1⟩, hg1, hg2, hg3, hg4, hg5, hg6, hg7, hg8⟩ := hPre σ ρ hI0 hJ0
  have q2 := mN_of hmG (K := 2) (by omega) (by omega)
  have q3 := mN_of hmG (K := 3) (by omega) (by omega)
  have q4 := mN_of hmG (K := 4) (by omega) (by omega)
  have q5 := mN_of hmG (K := 5) (by omega) (by omega)
  have q6 := mN_of hmG (K := 6) (by omega) (by omega)
  have q7 := mN_of hmG (K := 7) (by omega) (by omega)
  refine lv_aload_n hx hb d_La_law_1410 rfl (lv_at hl 2 rfl) ?_
  refine lv_aload_n hx hb d_La_law_1411 rfl (lv_at hl 1 rfl) ?_
  refine lv_iload hx hb d_La_law_1412 (lv_at hl 0 rfl) ?_
  refine lv_iconst (v := 1) hx hb d_La_law_1414 (by decide) ?_
  refine lv_iadd hx hb d_La_law_1415 ?_
  refine va_sld (i := nI i + 1) hx hb hX hbl hbA hS (sc_in (K := 1) (by omega) hLL) d_La_law_1416 ?_
  rw [show (nI i + 1).toNatClampNeg = i + 1 from sc_ix (K := 1) (by omega)]
  refine lv_aload_n hx hb d_La_law_1417 rfl (lv_at hl 4 rfl) ?_
  refine rc_I (va_runSW (As := [.ref b.ho, .int (xs (i + 1)), .ref ou]) (rest := []) ⟨hx, hb, hml, hown, hts⟩ (c_La_back l hls D s.heap.size k V b σ hW0 ou g hou hlo (xs (i + 1))) (va_cwSW 3 hts (gi_Sw wm_La_159 wt_La_back wi_La wcw_La_back) rfl rfl rfl (by decide +kernel) ⟨Nat.le_of_ble_eq_true rfl, Nat.le_of_ble_eq_true rfl⟩) (mPx.preS hG hN hS hV) rfl rfl hl.1 rfl (lv_room (Nat.le_of_ble_eq_true rfl)) d_La_law_1418 ⟨show cells + 1 ≤ 601024 by omega, show slots + 6 ≤ 7293000 by omega⟩) hS (fun r V1 H locs hp1 hV hS => ?_)
  obtain ⟨b1, σ1, g1, hW1, ho1, hF1, hR1⟩ := hp1
  have hho : b1.ho = b.ho := hF1.1
  obtain ⟨hM1, hl1, hl2, hl3⟩ := md_h hM0 hou hlo hlm hla hF1
  refine lv_istore (lv' := [(5, .int r), (4, .int (nI i)), (0, .ref bb), (1, .ref b.ho), (2, .ref mo), (3, .ref ou)]) hx hb d_La_law_1421 hl (by decide) rfl (fun ls hl => ?_)
  refine lv_aload_n hx hb d_La_law_1423 rfl (lv_at hl 4 rfl) ?_
  refine lv_aload_n hx hb d_La_law_1424 rfl (lv_at hl 2 rfl) ?_
  refine lv_iload hx hb d_La_law_1425 (lv_at hl 1 rfl) ?_
  refine lv_iconst (v := 1) hx hb d_La_law_1427 (by decide) ?_
  refine lv_iadd hx hb d_La_law_1428 ?_
  refine va_sld (i := nI i + 1) hx hb hX hbl hbA hS (sc_in (K := 1) (by omega) hLL) d_La_law_1429 ?_
  rw [show (nI i + 1).toNatClampNeg = i + 1 from sc_ix (K := 1) (by omega)]
  have kk : ∀ (r2 : Int32) (V2 : HV) (ρ2 : MS) (H : Heap) (locs : List Loc), mdOk k V2 mo ad ρ2 → mdFr mo ad V1 V2 → backM ρ (xs (i + 1)) r2 ρ2 → hv D vwCl s.heap.size V2 H → va_S (hA s.heap.size) s.heap H locs → W p l e room_1 s m #[Value.ref bb] below meth c H locs (cells + 1 + 0) (slots + 6 + 0) Q (F0 m 1433 ls [.int r2]) := by
    intro r2 V2 ρ2 H locs hM3 hF2 hA2 hV hS
    obtain ⟨hJ2, hs2, ha2⟩ := hJ σ ρ hI0 hJ0 (xs (i + 1)) r (g1 0) σ1 r2 ρ2 hR1 hA2
    obtain ⟨hW2, ho2⟩ := md_m hW1 hM1 ho1 hl2 hl3 hF2
    refine lv_istore (lv' := [(6, .int r2), (5, .int r), (4, .int (nI i)), (0, .ref bb), (1, .ref b.ho), (2, .ref mo), (3, .ref ou)]) hx hb d_La_law_1433 hl (by decide) rfl (fun ls hl => ?_)
    refine lv_aload_n hx hb d_La_law_1435 rfl (lv_at hl 5 rfl) ?_
    refine rc_i (va_runV (As := []) (rest := []) ⟨hx, hb, hml, hown, hts⟩ (c_Mo_thrown l D s.heap.size k V2 mo ad ρ2 hM3) (cwV 0 hts (gi_Vw wm_La_96 wv_Mo_thrown ws_Mo_thrown wi_Mo wc_Mo_thrown) rfl rfl rfl (by decide +kernel) ⟨Nat.le_of_ble_eq_true rfl, Nat.le_of_ble_eq_true rfl⟩) (mP.preV hG hS hV hM3.1 rfl) rfl rfl hl.1 rfl (lv_room (Nat.le_of_ble_eq_true rfl)) d_La_law_1436 ⟨show cells + 1 + 0 + 0 ≤ 601024 by omega, show slots + 6 + 0 + 0 ≤ 7293000 by omega⟩) hS (fun H locs hV hS => ?_)
    refine lv_iload hx hb d_La_law_1439 (lv_at hl 1 rfl) ?_
    refine lv_icmp_eq (tgt := 1446) hx hb d_La_law_1441 (by decide) (fun _ => ?_) (fun q => absurd hs2 q)
    refine lv_iload hx hb d_La_law_1446 (lv_at hl 1 rfl) ?_
    refine lv_if_ne (tgt := 1463) hx hb d_La_law_1448 (by decide) (fun _ => ?_) (fun c5 => ?_)
    · refine lv_goto (tgt := 1479) hx hb d_La_law_1463 (by decide) ?_
      refine W.widen (k := cells + 4) (n := slots + 159) (by omega) (by omega) ?_
      refine kc V2 b1 σ1 ρ2 g1 H locs ls hho ⟨hW2, hM3, ho2, hl1, hl2, hl3, hJ2⟩ hV hS ?_
      exact lv_sub hl [2, 3, 4, 5, 6] rfl
    · refine lv_aload_n hx hb d_La_law_1451 rfl (lv_at hl 6 rfl) ?_
      refine lv_iconst (v := 0) hx hb d_La_law_1452 (by decide) ?_
      refine hv_lald hx hb hG.K hV 1 ho2 rfl ((vp_in_nI (by omega) (by omega) : vp_in (nI 0) 1)) d_La_law_1453 ?_
      rw [show (0 : Int32).toNatClampNeg = 0 from rfl]
      refine lv_iload hx hb d_La_law_1454 (lv_at hl 0 rfl) ?_
      refine lv_i2l hx hb d_La_law_1456 rfl ?_
      refine lv_lcmp hx hb d_La_law_1457 ?_
      refine lv_if_eq (tgt := 1463) hx hb d_La_law_1458 (by decide) (fun _ => ?_) (fun q => absurd (lcm_0.mpr (ha2 c5)) q)
      refine lv_goto (tgt := 1479) hx hb d_La_law_1463 (by decide) ?_
      refine W.widen (k := cells + 4) (n := slots + 159) (by omega) (by omega) ?_
      refine kc V2 b1 σ1 ρ2 g1 H locs ls hho ⟨hW2, hM3, ho2, hl1, hl2, hl3, hJ2⟩ hV hS ?_
      exact lv_sub hl [2, 3, 4, 5, 6] rfl
  exact rc_I (va_runV (As := [.int (xs (i + 1))]) (rest := []) ⟨hx, hb, hml, hown, hts⟩ (c_Mo_back l D s.heap.size k V1 mo ad ρ hM1 (xs (i + 1)) hmG) (cwV 1 hts (gi_Vw wm_La_161 wv_Mo_back ws_Mo_back wi_Mo wc_Mo_back) rfl rfl rfl (by decide +kernel) ⟨Nat.le_of_ble_eq_true rfl, Nat.le_of_ble_eq_true rfl⟩) (mP.preV hG hS hV hM1.1 rfl) rfl rfl hl.1 rfl (lv_room (Nat.le_of_ble_eq_true rfl)) d_La_law_1430 ⟨show cells + 1 + 0 ≤ 601024 by omega, show slots + 6 + 0 ≤ 7293000 by omega⟩) hS (fun r2 V2 H locs hp2 hV hS => kk r2 V2 _ H locs hp2.1 hp2.2.1 ⟨hp2.2.2, rfl⟩ hV hS)
set_option maxHeartbeats 4000000 in
set_option maxRecDepth 100000 in
/-- the law's case: net -/
theorem l_net {J : HS → MS → Prop} (hJ : ok_net J) (hPre : ok_pre J) {p : Program} {l : Launch} {e : Env} {s : State} {m : MethodId} {below : List Frame} {meth : Method} {c : Code} {Q : State → Prop} {D : va_G} {k : Nat → Nat} {bb L : Nat} {xs : Nat → Int32} (C : LC p l s m c D k bb L xs) {V : HV} {b : HA} {σ : HS} {mo : Nat} {ad : Nat → Nat} {ρ : MS} {ou : Nat} {g : Nat → Int64} (hL : LJ J k V b σ mo ad ρ ou g) {H : Heap} {locs : List Loc} {ls : Array Slot} {i cells slots : Nat} (hi : i + 7 ≤ L) (hc : cells + 4 ≤ 601024) (hs : slots + 159 ≤ 7293000) (hV : hv D vwCl s.heap.size V H) (hS : va_S (hA s.heap.size) s.heap H locs) (hl : lv_has ls 7 [(4, .int (nI i)), (0, .ref bb), (1, .ref b.ho), (2, .ref mo), (3, .ref ou)])
    (kc : ∀ (V' : HV) (b' : HA) (σ' : HS) (ρ' : MS) (g' : Nat → Int64) (H' : Heap) (locs' : List Loc) (ls' : Array Slot), b'.ho = b.ho → LJ J k V' b' σ' mo ad ρ' ou g' → hv D vwCl s.heap.size V' H' → va_S (hA s.heap.size) s.heap H' locs' → lv_has ls' 7 [(4, .int (nI i)), (0, .ref bb), (1, .ref b.ho), (2, .ref mo), (3, .ref ou)] → W p l e room_1 s m #[Value.ref bb] below meth c H' locs' (cells + 4) (slots + 159) Q (F0 m 1479 ls' [])) :
    W p l e room_1 s m #[Value.ref bb] below meth c H locs cells slots Q (F0 m 160 ls []) := by
  obtain ⟨hx, hb, hml, hown, hts, hG, hN, hX, hbl, hLL, hls⟩ := C
  obtain ⟨hW0, hM0, hou, hlo, hlm, hla, hJ0⟩ := hL
  have hW : ∀ w ∈ WS, w.before _ s = true := fun w h => hts w (List.mem_cons_of_mem _ h)
  have hbA : ¬ (hA s.heap.size) bb := Nat.not_le.mpr hbl
  have hI0 := hsI_of hW0
  obtain ⟨⟨hmG, hmW, hm16, hm1⟩, hg1, hg2, hg3, hg4, hg5, hg6, hg7, hg8⟩ := hPre σ ρ hI0 hJ0
  have q2 := mN_of hmG (K := 2) (by omega) (by omega)
  have q3 := mN_of hmG (K := 3) (by omega) (by omega)
  have q4 := mN_of hmG (K := 4) (by omega) (by omega)
  have q5 := mN_of hmG (K := 5) (by omega) (by omega)
  have q6 := mN_of hmG (K := 6) (by omega) (by omega)
  have q7 := mN_of hmG (K := 7) (by omega) (by omega)
  refine lv_aload_n hx hb d_La_law_160 rfl (lv_at hl 2 rfl) ?_
  refine rc_I (va_runV (As := []) (rest := []) ⟨hx, hb, hml, hown, hts⟩ (c_Ho_net l D s.heap.size k V b σ hW0 ) (cwV 0 hts (gi_Vw wm_La_88 wv_Ho_net ws_Ho_net wi_Ho wc_Ho_net) rfl rfl rfl (by decide +kernel) ⟨Nat.le_of_ble_eq_true rfl, Nat.le_of_ble_eq_true rfl⟩) (mP.preV hG hS hV hW0.1.ho rfl) rfl rfl hl.1 rfl (lv_room (Nat.le_of_ble_eq_true rfl)) d_La_law_161 ⟨show cells + 0 ≤ 601024 by omega, show slots + 0 ≤ 7293000 by omega⟩) hS (fun r V1 H locs hp1 hV hS => ?_)
  obtain ⟨hW1, hF1, er⟩ := hp1
  have hho : b.ho = b.ho := hF1.1
  have ho1 := (hF1.2 ou _ hou hlo).1
  obtain ⟨hM1, hl1, hl2, hl3⟩ := md_h hM0 hou hlo hlm hla (lo_fr hF1 hou hlo)
  refine lv_aload_n hx hb d_La_law_164 rfl (lv_at hl 3 rfl) ?_
  refine rc_I (va_runV (As := []) (rest := [.int r]) ⟨hx, hb, hml, hown, hts⟩ (c_Mo_net l D s.heap.size k V1 mo ad ρ hM1  ) (cwV 0 hts (gi_Vw wm_La_91 wv_Mo_net ws_Mo_net wi_Mo wc_Mo_net) rfl rfl rfl (by decide +kernel) ⟨Nat.le_of_ble_eq_true rfl, Nat.le_of_ble_eq_true rfl⟩) (mP.preV hG hS hV hM1.1 rfl) rfl rfl hl.1 rfl (lv_room (Nat.le_of_ble_eq_true rfl)) d_La_law_165 ⟨show cells + 0 + 0 ≤ 601024 by omega, show slots + 0 + 0 ≤ 7293000 by omega⟩) hS (fun r2 V2 H locs hp2 hV hS => ?_)
  obtain ⟨hM3, hF2, er2⟩ := hp2
  obtain ⟨hW2, ho2⟩ := md_m hW1 hM1 ho1 hl2 hl3 hF2
  obtain ⟨hJ2, hq2⟩ := hJ σ ρ hI0 hJ0
  refine lv_icmp_eq (tgt := 1479) hx hb d_La_law_168 (by decide) (fun _ => ?_) (fun q => absurd (by rw [er, er2]; exact hq2) q)
  refine W.widen (k := cells + 4) (n := slots + 159) (by omega) (by omega) ?_
  refine kc V2 b _ _ g H locs ls hho ⟨hW2, hM3, ho2, hl1, hl2, hl3, hJ2⟩ hV hS ?_
  exact lv_sub hl [0, 1, 2, 3, 4] rfl
set_option maxHeartbeats 4000000 in
set_option maxRecDepth 100000 in
/-- the law's case: check -/
theorem l_check {J : HS → MS → Prop} (hJ : ok_check J) (hPre : ok_pre J) {p : Program} {l : Launch} {e : Env} {s : State} {m : MethodId} {below : List Frame} {meth : Method} {c : Code} {Q : State → Prop} {D : va_G} {k : Nat → Nat} {bb L : Nat} {xs : Nat → Int32} (C : LC p l s m c D k bb L xs) {V : HV} {b : HA} {σ : HS} {mo : Nat} {ad : Nat → Nat} {ρ : MS} {ou : Nat} {g : Nat → Int64} (hL : LJ J k V b σ mo ad ρ ou g) {H : Heap} {locs : List Loc} {ls : Array Slot} {i cells slots : Nat} (hi : i + 7 ≤ L) (hc : cells + 4 ≤ 601024) (hs : slots + 159 ≤ 7293000) (hV : hv D vwCl s.heap.size V H) (hS : va_S (hA s.heap.size) s.heap H locs) (hl : lv_has ls 7 [(4, .int (nI i)), (0, .ref bb), (1, .ref b.ho), (2, .ref mo), (3, .ref ou)])
    (kc : ∀ (V' : HV) (b' : HA) (σ' : HS) (ρ' : MS) (g' : Nat → Int64) (H' : Heap) (locs' : List Loc) (ls' : Array Slot), b'.ho = b.ho → LJ J k V' b' σ' mo ad ρ' ou g' → hv D vwCl s.heap.size V' H' → va_S (hA s.heap.size) s.heap H' locs' → lv_has ls' 7 [(4, .int (nI i)), (0, .ref bb), (1, .ref b.ho), (2, .ref mo), (3, .ref ou)] → W p l e room_1 s m #[Value.ref bb] below meth c H' locs' (cells + 4) (slots + 159) Q (F0 m 1479 ls' [])) :
    W p l e room_1 s m #[Value.ref bb] below meth c H locs cells slots Q (F0 m 897 ls []) := by
  obtain ⟨hx, hb, hml, hown, hts, hG, hN, hX, hbl, hLL, hls⟩ := C
  obtain ⟨hW0, hM0, hou, hlo, hlm, hla, hJ0⟩ := hL
  have hW : ∀ w ∈ WS, w.before _ s = true := fun w h => hts w (List.mem_cons_of_mem _ h)
  have hbA : ¬ (hA s.heap.size) bb := Nat.not_le.mpr hbl
  have hI0 := hsI_of hW0
  obtain ⟨⟨hmG, hmW, hm16, hm1⟩, hg1, hg2, hg3, hg4, hg5, hg6, hg7, hg8⟩ := hPre σ ρ hI0 hJ0
  have q2 := mN_of hmG (K := 2) (by omega) (by omega)
  have q3 := mN_of hmG (K := 3) (by omega) (by omega)
  have q4 := mN_of hmG (K := 4) (by omega) (by omega)
  have q5 := mN_of hmG (K := 5) (by omega) (by omega)
  have q6 := mN_of hmG (K := 6) (by omega) (by omega)
  have q7 := mN_of hmG (K := 7) (by omega) (by omega)
  refine lv_aload_n hx hb d_La_law_897 rfl (lv_at hl 2 rfl) ?_
  refine rc_i (va_runV (As := []) (rest := []) ⟨hx, hb, hml, hown, hts⟩ (c_Ho_check l D s.heap.size k V b σ hW0 ) (cwV 0 hts (gi_Vw wm_La_128 wv_Ho_check ws_Ho_check wi_Ho wc_Ho_check) rfl rfl rfl (by decide +kernel) ⟨Nat.le_of_ble_eq_true rfl, Nat.le_of_ble_eq_true rfl⟩) (mP.preV hG hS hV hW0.1.ho rfl) rfl rfl hl.1 rfl (lv_room (Nat.le_of_ble_eq_true rfl)) d_La_law_898 ⟨show cells + 0 ≤ 601024 by omega, show slots + 0 ≤ 7293000 by omega⟩) hS (fun H locs hV hS => ?_)
  have hW1 := hW0
  have ho1 := hou
  have hM1 := hM0
  have hl1 := hlo
  have hl2 := hlm
  have hl3 := hla
  refine lv_aload_n hx hb d_La_law_901 rfl (lv_at hl 3 rfl) ?_
  refine rc_I (va_runV (As := []) (rest := [.int (szF (cpF σ.T σ.g) 20 120)]) ⟨hx, hb, hml, hown, hts⟩ (c_Mo_check l D s.heap.size k V mo ad ρ hM1  ) (cwV 0 hts (gi_Vw wm_La_131 wv_Mo_check ws_Mo_check wi_Mo wc_Mo_check) rfl rfl rfl (by decide +kernel) ⟨Nat.le_of_ble_eq_true rfl, Nat.le_of_ble_eq_true rfl⟩) (mP.preV hG hS hV hM1.1 rfl) rfl rfl hl.1 rfl (lv_room (Nat.le_of_ble_eq_true rfl)) d_La_law_902 ⟨show cells + 0 + 0 ≤ 601024 by omega, show slots + 0 + 0 ≤ 7293000 by omega⟩) hS (fun r2 V2 H locs hp2 hV hS => ?_)
  obtain ⟨hM3, hF2, er2⟩ := hp2
  obtain ⟨hW2, ho2⟩ := md_m hW1 hM1 ho1 hl2 hl3 hF2
  obtain ⟨hJ2, hq2⟩ := hJ σ ρ hI0 hJ0
  refine lv_icmp_eq (tgt := 1479) hx hb d_La_law_905 (by decide) (fun _ => ?_) (fun q => absurd (by rw [er2]; exact hq2) q)
  refine W.widen (k := cells + 4) (n := slots + 159) (by omega) (by omega) ?_
  refine kc V2 b σ _ g H locs ls rfl ⟨hW2, hM3, ho2, hl1, hl2, hl3, hJ2⟩ hV hS ?_
  exact lv_sub hl [0, 1, 2, 3, 4] rfl
set_option maxHeartbeats 4000000 in
set_option maxRecDepth 100000 in
/-- the law's case: begin -/
theorem l_begin {J : HS → MS → Prop} (hJ : ok_begin J) (hPre : ok_pre J) {p : Program} {l : Launch} {e : Env} {s : State} {m : MethodId} {below : List Frame} {meth : Method} {c : Code} {Q : State → Prop} {D : va_G} {k : Nat → Nat} {bb L : Nat} {xs : Nat → Int32} (C : LC p l s m c D k bb L xs) {V : HV} {b : HA} {σ : HS} {mo : Nat} {ad : Nat → Nat} {ρ : MS} {ou : Nat} {g : Nat → Int64} (hL : LJ J k V b σ mo ad ρ ou g) {H : Heap} {locs : List Loc} {ls : Array Slot} {i cells slots : Nat} (hi : i + 7 ≤ L) (hc : cells + 4 ≤ 601024) (hs : slots + 159 ≤ 7293000) (hV : hv D vwCl s.heap.size V H) (hS : va_S (hA s.heap.size) s.heap H locs) (hl : lv_has ls 7 [(4, .int (nI i)), (0, .ref bb), (1, .ref b.ho), (2, .ref mo), (3, .ref ou)])
    (kc : ∀ (V' : HV) (b' : HA) (σ' : HS) (ρ' : MS) (g' : Nat → Int64) (H' : Heap) (locs' : List Loc) (ls' : Array Slot), b'.ho = b.ho → LJ J k V' b' σ' mo ad ρ' ou g' → hv D vwCl s.heap.size V' H' → va_S (hA s.heap.size) s.heap H' locs' → lv_has ls' 7 [(4, .int (nI i)), (0, .ref bb), (1, .ref b.ho), (2, .ref mo), (3, .ref ou)] → W p l e room_1 s m #[Value.ref bb] below meth c H' locs' (cells + 4) (slots + 159) Q (F0 m 1479 ls' [])) :
    W p l e room_1 s m #[Value.ref bb] below meth c H locs cells slots Q (F0 m 1158 ls []) := by
  obtain ⟨hx, hb, hml, hown, hts, hG, hN, hX, hbl, hLL, hls⟩ := C
  obtain ⟨hW0, hM0, hou, hlo, hlm, hla, hJ0⟩ := hL
  have hW : ∀ w ∈ WS, w.before _ s = true := fun w h => hts w (List.mem_cons_of_mem _ h)
  have hbA : ¬ (hA s.heap.size) bb := Nat.not_le.mpr hbl
  have hI0 := hsI_of hW0
  obtain ⟨⟨hmG, hmW, hm16, hm1⟩, hg1, hg2, hg3, hg4, hg5, hg6, hg7, hg8⟩ := hPre σ ρ hI0 hJ0
  have q2 := mN_of hmG (K := 2) (by omega) (by omega)
  have q3 := mN_of hmG (K := 3) (by omega) (by omega)
  have q4 := mN_of hmG (K := 4) (by omega) (by omega)
  have q5 := mN_of hmG (K := 5) (by omega) (by omega)
  have q6 := mN_of hmG (K := 6) (by omega) (by omega)
  have q7 := mN_of hmG (K := 7) (by omega) (by omega)
  refine lv_aload_n hx hb d_La_law_1158 rfl (lv_at hl 2 rfl) ?_
  refine lv_aload_n hx hb d_La_law_1159 rfl (lv_at hl 1 rfl) ?_
  refine lv_iload hx hb d_La_law_1160 (lv_at hl 0 rfl) ?_
  refine lv_iconst (v := 1) hx hb d_La_law_1162 (by decide) ?_
  refine lv_iadd hx hb d_La_law_1163 ?_
  refine va_sld (i := nI i + 1) hx hb hX hbl hbA hS (sc_in (K := 1) (by omega) hLL) d_La_law_1164 ?_
  rw [show (nI i + 1).toNatClampNeg = i + 1 from sc_ix (K := 1) (by omega)]
  refine lv_aload_n hx hb d_La_law_1165 rfl (lv_at hl 1 rfl) ?_
  refine lv_iload hx hb d_La_law_1166 (lv_at hl 0 rfl) ?_
  refine lv_iconst (v := 2) hx hb d_La_law_1168 (by decide) ?_
  refine lv_iadd hx hb d_La_law_1169 ?_
  refine va_sld (i := nI i + 2) hx hb hX hbl hbA hS (sc_in (K := 2) (by omega) hLL) d_La_law_1170 ?_
  rw [show (nI i + 2).toNatClampNeg = i + 2 from sc_ix (K := 2) (by omega)]
  refine lv_aload_n hx hb d_La_law_1171 rfl (lv_at hl 1 rfl) ?_
  refine lv_iload hx hb d_La_law_1172 (lv_at hl 0 rfl) ?_
  refine lv_iconst (v := 3) hx hb d_La_law_1174 (by decide) ?_
  refine lv_iadd hx hb d_La_law_1175 ?_
  refine va_sld (i := nI i + 3) hx hb hX hbl hbA hS (sc_in (K := 3) (by omega) hLL) d_La_law_1176 ?_
  rw [show (nI i + 3).toNatClampNeg = i + 3 from sc_ix (K := 3) (by omega)]
  refine lv_aload_n hx hb d_La_law_1177 rfl (lv_at hl 1 rfl) ?_
  refine lv_iload hx hb d_La_law_1178 (lv_at hl 0 rfl) ?_
  refine lv_iconst (v := 4) hx hb d_La_law_1180 (by decide) ?_
  refine lv_iadd hx hb d_La_law_1181 ?_
  refine va_sld (i := nI i + 4) hx hb hX hbl hbA hS (sc_in (K := 4) (by omega) hLL) d_La_law_1182 ?_
  rw [show (nI i + 4).toNatClampNeg = i + 4 from sc_ix (K := 4) (by omega)]
  refine rc_I (va_runV (As := [.int (xs (i + 1)), .int (xs (i + 2)), .int (xs (i + 3)), .int (xs (i + 4))]) (rest := []) ⟨hx, hb, hml, hown, hts⟩ (c_Ho_begin l D s.heap.size k V b σ hW0 (xs (i + 1)) (xs (i + 2)) (xs (i + 3)) (xs (i + 4))) (cwV 4 hts (gi_Vw wm_La_144 wv_Ho_begin ws_Ho_begin wi_Ho wc_Ho_begin) rfl rfl rfl (by decide +kernel) ⟨Nat.le_of_ble_eq_true rfl, Nat.le_of_ble_eq_true rfl⟩) (mP.preV hG hS hV hW0.1.ho rfl) rfl rfl hl.1 rfl (lv_room (Nat.le_of_ble_eq_true rfl)) d_La_law_1183 ⟨show cells + 4 ≤ 601024 by omega, show slots + 159 ≤ 7293000 by omega⟩) hS (fun r V1 H locs hp1 hV hS => ?_)
  obtain ⟨b1, Z1, hZ1, hW1, hF1, er⟩ := hp1
  have hho : b1.ho = b.ho := hF1.1
  have ho1 := (hF1.2 ou _ hou hlo).1
  obtain ⟨hM1, hl1, hl2, hl3⟩ := md_h hM0 hou hlo hlm hla (lo_fr hF1 hou hlo)
  refine lv_aload_n hx hb d_La_law_1186 rfl (lv_at hl 3 rfl) ?_
  refine lv_aload_n hx hb d_La_law_1187 rfl (lv_at hl 1 rfl) ?_
  refine lv_iload hx hb d_La_law_1188 (lv_at hl 0 rfl) ?_
  refine lv_iconst (v := 1) hx hb d_La_law_1190 (by decide) ?_
  refine lv_iadd hx hb d_La_law_1191 ?_
  refine va_sld (i := nI i + 1) hx hb hX hbl hbA hS (sc_in (K := 1) (by omega) hLL) d_La_law_1192 ?_
  rw [show (nI i + 1).toNatClampNeg = i + 1 from sc_ix (K := 1) (by omega)]
  refine lv_aload_n hx hb d_La_law_1193 rfl (lv_at hl 1 rfl) ?_
  refine lv_iload hx hb d_La_law_1194 (lv_at hl 0 rfl) ?_
  refine lv_iconst (v := 2) hx hb d_La_law_1196 (by decide) ?_
  refine lv_iadd hx hb d_La_law_1197 ?_
  refine va_sld (i := nI i + 2) hx hb hX hbl hbA hS (sc_in (K := 2) (by omega) hLL) d_La_law_1198 ?_
  rw [show (nI i + 2).toNatClampNeg = i + 2 from sc_ix (K := 2) (by omega)]
  refine lv_aload_n hx hb d_La_law_1199 rfl (lv_at hl 1 rfl) ?_
  refine lv_iload hx hb d_La_law_1200 (lv_at hl 0 rfl) ?_
  refine lv_iconst (v := 3) hx hb d_La_law_1202 (by decide) ?_
  refine lv_iadd hx hb d_La_law_1203 ?_
  refine va_sld (i := nI i + 3) hx hb hX hbl hbA hS (sc_in (K := 3) (by omega) hLL) d_La_law_1204 ?_
  rw [show (nI i + 3).toNatClampNeg = i + 3 from sc_ix (K := 3) (by omega)]
  refine lv_aload_n hx hb d_La_law_1205 rfl (lv_at hl 1 rfl) ?_
  refine lv_iload hx hb d_La_law_1206 (lv_at hl 0 rfl) ?_
  refine lv_iconst (v := 4) hx hb d_La_law_1208 (by decide) ?_
  refine lv_iadd hx hb d_La_law_1209 ?_
  refine va_sld (i := nI i + 4) hx hb hX hbl hbA hS (sc_in (K := 4) (by omega) hLL) d_La_law_1210 ?_
  rw [show (nI i + 4).toNatClampNeg = i + 4 from sc_ix (K := 4) (by omega)]
  refine rc_I (va_runV (As := [.int (xs (i + 1)), .int (xs (i + 2)), .int (xs (i + 3)), .int (xs (i + 4))]) (rest := [.int r]) ⟨hx, hb, hml, hown, hts⟩ (c_Mo_begin l D s.heap.size k V1 mo ad ρ hM1 (xs (i + 1)) (xs (i + 2)) (xs (i + 3)) (xs (i + 4)) (mN ρ 6) q6.2 q6.1) (cwV 4 hts (gi_Vw wm_La_147 wv_Mo_begin ws_Mo_begin wi_Mo wc_Mo_begin) rfl rfl rfl (by decide +kernel) ⟨Nat.le_of_ble_eq_true rfl, Nat.le_of_ble_eq_true rfl⟩) (mP.preV hG hS hV hM1.1 rfl) rfl rfl hl.1 rfl (lv_room (Nat.le_of_ble_eq_true rfl)) d_La_law_1211 ⟨show cells + 4 + 0 ≤ 601024 by omega, show slots + 159 + 0 ≤ 7293000 by omega⟩) hS (fun r2 V2 H locs hp2 hV hS => ?_)
  obtain ⟨hM3, hF2, er2⟩ := hp2
  obtain ⟨hW2, ho2⟩ := md_m hW1 hM1 ho1 hl2 hl3 hF2
  obtain ⟨hJ2, hq2⟩ := hJ σ ρ hI0 hJ0 (xs (i + 1)) (xs (i + 2)) (xs (i + 3)) (xs (i + 4)) Z1 hZ1
  refine lv_icmp_eq (tgt := 1479) hx hb d_La_law_1214 (by decide) (fun _ => ?_) (fun q => absurd (by rw [er, er2]; exact hq2) q)
  refine W.widen (k := cells + 4) (n := slots + 159) (by omega) (by omega) ?_
  refine kc V2 b1 _ _ g H locs ls hho ⟨hW2, hM3, ho2, hl1, hl2, hl3, hJ2⟩ hV hS ?_
  exact lv_sub hl [0, 1, 2, 3, 4] rfl
set_option maxHeartbeats 4000000 in
set_option maxRecDepth 100000 in
/-- the law's case: told -/
theorem l_told {J : HS → MS → Prop} (hJ : ok_told J) (hPre : ok_pre J) {p : Program} {l : Launch} {e : Env} {s : State} {m : MethodId} {below : List Frame} {meth : Method} {c : Code} {Q : State → Prop} {D : va_G} {k : Nat → Nat} {bb L : Nat} {xs : Nat → Int32} (C : LC p l s m c D k bb L xs) {V : HV} {b : HA} {σ : HS} {mo : Nat} {ad : Nat → Nat} {ρ : MS} {ou : Nat} {g : Nat → Int64} (hL : LJ J k V b σ mo ad ρ ou g) {H : Heap} {locs : List Loc} {ls : Array Slot} {i cells slots : Nat} (hi : i + 7 ≤ L) (hc : cells + 4 ≤ 601024) (hs : slots + 159 ≤ 7293000) (hV : hv D vwCl s.heap.size V H) (hS : va_S (hA s.heap.size) s.heap H locs) (hl : lv_has ls 7 [(4, .int (nI i)), (0, .ref bb), (1, .ref b.ho), (2, .ref mo), (3, .ref ou)])
    (kc : ∀ (V' : HV) (b' : HA) (σ' : HS) (ρ' : MS) (g' : Nat → Int64) (H' : Heap) (locs' : List Loc) (ls' : Array Slot), b'.ho = b.ho → LJ J k V' b' σ' mo ad ρ' ou g' → hv D vwCl s.heap.size V' H' → va_S (hA s.heap.size) s.heap H' locs' → lv_has ls' 7 [(4, .int (nI i)), (0, .ref bb), (1, .ref b.ho), (2, .ref mo), (3, .ref ou)] → W p l e room_1 s m #[Value.ref bb] below meth c H' locs' (cells + 4) (slots + 159) Q (F0 m 1479 ls' [])) :
    W p l e room_1 s m #[Value.ref bb] below meth c H locs cells slots Q (F0 m 1466 ls []) := by
  obtain ⟨hx, hb, hml, hown, hts, hG, hN, hX, hbl, hLL, hls⟩ := C
  obtain ⟨hW0, hM0, hou, hlo, hlm, hla, hJ0⟩ := hL
  have hW : ∀ w ∈ WS, w.before _ s = true := fun w h => hts w (List.mem_cons_of_mem _ h)
  have hbA : ¬ (hA s.heap.size) bb := Nat.not_le.mpr hbl
  have hI0 := hsI_of hW0
  obtain ⟨⟨hmG, hmW, hm16, hm1⟩, hg1, hg2, hg3, hg4, hg5, hg6, hg7, hg8⟩ := hPre σ ρ hI0 hJ0
  have q2 := mN_of hmG (K := 2) (by omega) (by omega)
  have q3 := mN_of hmG (K := 3) (by omega) (by omega)
  have q4 := mN_of hmG (K := 4) (by omega) (by omega)
  have q5 := mN_of hmG (K := 5) (by omega) (by omega)
  have q6 := mN_of hmG (K := 6) (by omega) (by omega)
  have q7 := mN_of hmG (K := 7) (by omega) (by omega)
  refine lv_aload_n hx hb d_La_law_1466 rfl (lv_at hl 2 rfl) ?_
  refine rc_i (va_runV (As := []) (rest := []) ⟨hx, hb, hml, hown, hts⟩ (c_Ho_told l D s.heap.size k V b σ hW0 ) (cwV 0 hts (gi_Vw wm_La_162 wv_Ho_told ws_Ho_told wi_Ho wc_Ho_told) rfl rfl rfl (by decide +kernel) ⟨Nat.le_of_ble_eq_true rfl, Nat.le_of_ble_eq_true rfl⟩) (mP.preV hG hS hV hW0.1.ho rfl) rfl rfl hl.1 rfl (lv_room (Nat.le_of_ble_eq_true rfl)) d_La_law_1467 ⟨show cells + 0 ≤ 601024 by omega, show slots + 0 ≤ 7293000 by omega⟩) hS (fun H locs hV hS => ?_)
  have hW1 := hW0
  have ho1 := hou
  have hM1 := hM0
  have hl1 := hlo
  have hl2 := hlm
  have hl3 := hla
  refine lv_aload_n hx hb d_La_law_1470 rfl (lv_at hl 3 rfl) ?_
  refine rc_I (va_runV (As := []) (rest := [.int (σ.rs)]) ⟨hx, hb, hml, hown, hts⟩ (c_Mo_told l D s.heap.size k V mo ad ρ hM1  ) (cwV 0 hts (gi_Vw wm_La_165 wv_Mo_told ws_Mo_told wi_Mo wc_Mo_told) rfl rfl rfl (by decide +kernel) ⟨Nat.le_of_ble_eq_true rfl, Nat.le_of_ble_eq_true rfl⟩) (mP.preV hG hS hV hM1.1 rfl) rfl rfl hl.1 rfl (lv_room (Nat.le_of_ble_eq_true rfl)) d_La_law_1471 ⟨show cells + 0 + 0 ≤ 601024 by omega, show slots + 0 + 0 ≤ 7293000 by omega⟩) hS (fun r2 V2 H locs hp2 hV hS => ?_)
  obtain ⟨hM3, hF2, er2⟩ := hp2
  obtain ⟨hW2, ho2⟩ := md_m hW1 hM1 ho1 hl2 hl3 hF2
  obtain ⟨hJ2, hq2⟩ := hJ σ ρ hI0 hJ0
  refine lv_icmp_eq (tgt := 1479) hx hb d_La_law_1474 (by decide) (fun _ => ?_) (fun q => absurd (by rw [er2]; exact hq2) q)
  refine W.widen (k := cells + 4) (n := slots + 159) (by omega) (by omega) ?_
  refine kc V2 b σ _ g H locs ls rfl ⟨hW2, hM3, ho2, hl1, hl2, hl3, hJ2⟩ hV hS ?_
  exact lv_sub hl [0, 1, 2, 3, 4] rfl
