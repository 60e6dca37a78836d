/-! CALLS by contracts over views; comparisons in one form (≤ and =) -/
theorem i_nle {a b : Int32} (h : a < b) : ¬ b ≤ a := Int32.not_le.mpr h
theorem i_le {a b : Int32} (h : ¬ a < b) : b ≤ a := Int32.not_lt.mp h
section RC
variable {p : Program} {l : Launch} {e : Env} {R : Room} {s : State} {m : MethodId} {args : Array Value} {below : List Frame} {meth : Method} {c : Code} {H : Heap} {locs : List Loc} {cells slots : Nat} {Q : State → Prop}
variable {pc : Nat} {ls : Array Slot} {rest st0 : List Value} {a : Array Value} {mc ms : Nat} {D : va_G} {N0 : Nat} {V : HV}
/-- a callee that answers F and leaves the view -/
theorem rc_i {F : Int32} (hr : va_Run p l e R s m args below meth c H locs cells slots mc ms (F0 m pc ls st0) rest (va_Qi (fun r V' => r = F ∧ V' = V) (mB D N0) (hA N0) a) (hA N0)) (hS : va_S (hA N0) s.heap H locs)
    (kk : ∀ (H1 : Heap) (locs1 : List Loc), hv D vwCl N0 V H1 → va_S (hA N0) s.heap H1 locs1 → W p l e R s m args below meth c H1 locs1 (cells + mc) (slots + ms) Q (F0 m (pc + 3) ls (.int F :: rest))) : W p l e R s m args below meth c H locs cells slots Q (F0 m pc ls st0) := by
  refine va_calli hr hS (fun q _ h => h) (fun q h => h) (fun r u t H1 locs1 ht hvm hw hB hz hk hS1 => ?_)
  obtain ⟨rfl, rfl⟩ := hw
  subst ht
  exact kk _ _ hB hS1
/-- a callee that answers an int -/
theorem rc_I {post : Int32 → HV → Prop} (hr : va_Run p l e R s m args below meth c H locs cells slots mc ms (F0 m pc ls st0) rest (va_Qi post (mB D N0) (hA N0) a) (hA N0)) (hS : va_S (hA N0) s.heap H locs)
    (kk : ∀ (r : Int32) (V' : HV) (H1 : Heap) (locs1 : List Loc), post r V' → hv D vwCl N0 V' H1 → va_S (hA N0) s.heap H1 locs1 → W p l e R s m args below meth c H1 locs1 (cells + mc) (slots + ms) Q (F0 m (pc + 3) ls (.int r :: rest))) : W p l e R s m args below meth c H locs cells slots Q (F0 m pc ls st0) := by
  refine va_calli hr hS (fun q _ h => h) (fun q h => h) (fun r u t H1 locs1 ht hvm hw hB hz hk hS1 => ?_)
  subst ht
  exact kk r u _ _ hw hB hS1
/-- a callee that answers a reference or null -/
theorem rc_Q {post : Option Nat → HV → Prop} (hr : va_Run p l e R s m args below meth c H locs cells slots mc ms (F0 m pc ls st0) rest (va_Qq post (mB D N0) (hA N0) a) (hA N0)) (hS : va_S (hA N0) s.heap H locs)
    (kk : ∀ (r : Option Nat) (V' : HV) (H1 : Heap) (locs1 : List Loc), post r V' → hv D vwCl N0 V' H1 → va_S (hA N0) s.heap H1 locs1 → W p l e R s m args below meth c H1 locs1 (cells + mc) (slots + ms) Q (F0 m (pc + 3) ls (va_rf r :: rest))) : W p l e R s m args below meth c H locs cells slots Q (F0 m pc ls st0) := by
  refine va_callq hr hS (fun q _ h => h) (fun q h => h) (fun r u t H1 locs1 ht hvm hw hB hz hk hS1 => ?_)
  subst ht
  exact kk r u _ _ hw hB hS1
/-- a callee that answers nothing -/
theorem rc_V {post : HV → Prop} (hr : va_Run p l e R s m args below meth c H locs cells slots mc ms (F0 m pc ls st0) rest (va_Qv post (mB D N0) (hA N0) a) (hA N0)) (hS : va_S (hA N0) s.heap H locs)
    (kk : ∀ (V' : HV) (H1 : Heap) (locs1 : List Loc), post V' → hv D vwCl N0 V' H1 → va_S (hA N0) s.heap H1 locs1 → W p l e R s m args below meth c H1 locs1 (cells + mc) (slots + ms) Q (F0 m (pc + 3) ls rest)) : W p l e R s m args below meth c H locs cells slots Q (F0 m pc ls st0) := by
  refine va_callv hr hS (fun q _ h => h) (fun q h => h) (fun u t H1 locs1 ht hvm hw hB hz hk hS1 => ?_)
  subst ht
  exact kk u _ _ hw hB hS1
end RC
theorem mB_of {D : va_G} {N0 : Nat} {V : HV} {H : Heap} {t : State} (ht : t.heap = H) (hV : hv D vwCl N0 V H) : mB D N0 V t := by
  subst ht
  exact hV
