/-! the words of the three exceptions that the class throws -/
theorem own_of {args : Array Value} {s : State} {D : va_G} {N0 : Nat} {k : Nat → Nat} {L : List Cond} (hW : ∀ w ∈ WS, w.before args s = true) (hG : hG D N0 k s)
    (h : L.all (fun w => decide (w ∈ WS) || (decide (w ∈ XW) || decide (w ∈ [Cond.isRef (.static Bundle.tN "UNASSIGNED_STACK" Bundle.steD), Cond.isRef (.static Bundle.tN "SUPPRESSED_SENTINEL" Bundle.listD), Cond.laysStatic Bundle.tN "UNASSIGNED_STACK" Bundle.steD, Cond.laysStatic Bundle.tN "SUPPRESSED_SENTINEL" Bundle.listD]))) = true) : ∀ w ∈ L, w.before args s = true := by
  intro w hw
  have hx := hG.2.2.2.2.2.2
  have h1 := List.all_eq_true.mp h w hw
  simp only [Bool.or_eq_true, decide_eq_true_eq, List.mem_cons, List.not_mem_nil, or_false] at h1
  rcases h1 with h1 | h1 | h1 | h1 | h1 | h1
  · exact hW w h1
  · exact va_Nw.use (XW_onT h1) (hx.1 w h1)
  · rw [h1]; exact hx.2.1.1.ref
  · rw [h1]; exact hx.2.1.2.ref
  · rw [h1]; exact hx.2.1.1.lays
  · rw [h1]; exact hx.2.1.2.lays
abbrev xN : List String := ["java/lang/RuntimeException", "java/lang/Exception"]
set_option maxRecDepth 100000 in
theorem own_G : (Bundle.ownAtoms "BoardHouse" 83 "java/lang/IllegalArgumentException" xN).all (fun w => decide (w ∈ WS) || (decide (w ∈ XW) || decide (w ∈ [Cond.isRef (.static Bundle.tN "UNASSIGNED_STACK" Bundle.steD), Cond.isRef (.static Bundle.tN "SUPPRESSED_SENTINEL" Bundle.listD), Cond.laysStatic Bundle.tN "UNASSIGNED_STACK" Bundle.steD, Cond.laysStatic Bundle.tN "SUPPRESSED_SENTINEL" Bundle.listD]))) = true := by decide +kernel
set_option maxRecDepth 100000 in
theorem own_S : (Bundle.ownAtoms "BoardHouse" 241 "java/lang/IllegalStateException" xN).all (fun w => decide (w ∈ WS) || (decide (w ∈ XW) || decide (w ∈ [Cond.isRef (.static Bundle.tN "UNASSIGNED_STACK" Bundle.steD), Cond.isRef (.static Bundle.tN "SUPPRESSED_SENTINEL" Bundle.listD), Cond.laysStatic Bundle.tN "UNASSIGNED_STACK" Bundle.steD, Cond.laysStatic Bundle.tN "SUPPRESSED_SENTINEL" Bundle.listD]))) = true := by decide +kernel
set_option maxRecDepth 100000 in
theorem own_X : (Bundle.ownAtoms "BoardHouse" 159 "java/lang/IndexOutOfBoundsException" xN).all (fun w => decide (w ∈ WS) || (decide (w ∈ XW) || decide (w ∈ [Cond.isRef (.static Bundle.tN "UNASSIGNED_STACK" Bundle.steD), Cond.isRef (.static Bundle.tN "SUPPRESSED_SENTINEL" Bundle.listD), Cond.laysStatic Bundle.tN "UNASSIGNED_STACK" Bundle.steD, Cond.laysStatic Bundle.tN "SUPPRESSED_SENTINEL" Bundle.listD]))) = true := by decide +kernel
