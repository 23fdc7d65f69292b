theorem z_mnOf {own : String} {idx j : Nat} {y : MethodName} (h : z_isMN j own idx y = true) : ∃ host, Cond.methodLinkNest own idx y host ∈ lw_tbl := by
  unfold z_isMN at h
  split at h
  · rename_i o i y' hh e
    have e2 := of_decide_eq_true h
    exact ⟨hh, by rw [← e2]; exact z_wdOf e⟩
  · cases h
theorem z_oi1 : Cond.instanceMethod Lib.objectInit ∈ lw_tbl := z_isOf (j := 1041) (by decide +kernel)
theorem z_oi2 : Cond.code Lib.objectInit ⟨#[0xb1]⟩ 1 none ∈ lw_tbl := z_isOf (j := 1042) (by decide +kernel)
def z_exs : List (String × Nat) := [("java/lang/UnsupportedOperationException", 127), ("java/lang/IllegalArgumentException", 189), ("java/lang/IndexOutOfBoundsException", 219), ("java/lang/IllegalStateException", 320), ("java/lang/ArithmeticException", 407)]
def z_exChk (q : String × Nat × Nat × Nat × String × Bool) : Bool := decide (Cond.classLink "ClockParliament" q.2.1 q.1 ∈ lw_tbl) && decide (Cond.initialized q.1 ∈ lw_tbl) && Bundle.fit q.1 && (decide (q.1 = "java/util/NoSuchElementException") || decide ((q.1, q.2.2.2.1) ∈ z_exs))
theorem z_exC : z_ex.all z_exChk = true := by decide +kernel
theorem z_exW : (z_exs.all fun q => (vx_atS "ClockParliament" q.2 q.1 ["java/lang/RuntimeException", "java/lang/Exception"]).all fun w => decide (w ∈ lw_tbl) && (goodWord w || z_nw w)) = true := by decide +kernel
theorem z_exOk {f : Nat} {q : String × Nat × Nat × Nat × String × Bool} (h : z_ex[f]? = some q) (hne : q.1 ≠ "java/util/NoSuchElementException") : (Cond.classLink "ClockParliament" q.2.1 q.1 ∈ lw_tbl ∧ goodWord (Cond.classLink "ClockParliament" q.2.1 q.1) = true) ∧ (Cond.initialized q.1 ∈ lw_tbl ∧ goodWord (Cond.initialized q.1) = true) ∧ (∀ w ∈ vx_atS "ClockParliament" q.2.2.2.1 q.1 ["java/lang/RuntimeException", "java/lang/Exception"], w ∈ lw_tbl ∧ (goodWord w = true ∨ z_nw w = true)) ∧ Bundle.fit q.1 = true := by
  have h1 := List.all_eq_true.mp z_exC q (List.mem_of_getElem? h)
  unfold z_exChk at h1
  simp only [Bool.and_eq_true, decide_eq_true_eq, Bool.or_eq_true] at h1
  obtain ⟨⟨⟨a1, a2⟩, a3⟩, a4⟩ := h1
  replace a4 := a4.resolve_left hne
  refine ⟨⟨a1, rfl⟩, ⟨a2, rfl⟩, fun w hw => ?_, a3⟩
  have h2 := List.all_eq_true.mp (List.all_eq_true.mp z_exW _ a4) w hw
  simp only [Bool.and_eq_true, decide_eq_true_eq, Bool.or_eq_true] at h2
  exact h2

