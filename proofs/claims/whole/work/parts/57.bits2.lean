/-! More of sets. -/
theorem z_bitX8 : ∀ l, l ∈ z_go8 8 [] → ∀ n, n < 9 → ∀ j, j < 8 → z_bits (fun i => l.getD i false) n &&& ((1 <<< (nI j &&& 31)) ^^^ (-1)) = z_bits (fun i => decide (¬ i = j) && l.getD i false) n := by decide +kernel
theorem z_bitsX {P : Nat → Bool} {n j : Nat} (hn : n ≤ 8) (hj : j < n) : z_bits P n &&& ((1 <<< (nI j &&& 31)) ^^^ (-1)) = z_bits (fun i => decide (¬ nI i = nI j) && P i) n := by
  have hm : [P 0, P 1, P 2, P 3, P 4, P 5, P 6, P 7] ∈ z_go8 8 [] := z_go8_in (P 7) (z_go8_in (P 6) (z_go8_in (P 5) (z_go8_in (P 4) (z_go8_in (P 3) (z_go8_in (P 2) (z_go8_in (P 1) (z_go8_in (P 0) (List.mem_singleton.mpr rfl))))))))
  have hp : ∀ i, i < n → [P 0, P 1, P 2, P 3, P 4, P 5, P 6, P 7].getD i false = P i := fun i hi => by
    have c : i = 0 ∨ i = 1 ∨ i = 2 ∨ i = 3 ∨ i = 4 ∨ i = 5 ∨ i = 6 ∨ i = 7 := by omega
    rcases c with rfl | rfl | rfl | rfl | rfl | rfl | rfl | rfl <;> rfl
  have e1 : z_bits (fun i => [P 0, P 1, P 2, P 3, P 4, P 5, P 6, P 7].getD i false) n = z_bits P n := z_fold_c n (fun s i hi => by show (if [P 0, P 1, P 2, P 3, P 4, P 5, P 6, P 7].getD i false = true then _ else _) = _; rw [hp i hi])
  have e2 : z_bits (fun i => decide (¬ i = j) && [P 0, P 1, P 2, P 3, P 4, P 5, P 6, P 7].getD i false) n = z_bits (fun i => decide (¬ nI i = nI j) && P i) n := z_fold_c n (fun s i hi => by
    show (if (decide (¬ i = j) && [P 0, P 1, P 2, P 3, P 4, P 5, P 6, P 7].getD i false) = true then _ else _) = if (decide (¬ nI i = nI j) && P i) = true then _ else _
    rw [hp i hi, show decide (¬ i = j) = decide (¬ nI i = nI j) from decide_eq_decide.mpr (not_congr (nI_eq (by omega) (by omega)).symm)])
  have h := z_bitX8 _ hm n (by omega) j (by omega)
  rw [e1, e2] at h
  exact h
theorem z_bitsO (P P' : Nat → Bool) : ∀ n, z_bits P n ||| z_bits P' n = z_bits (fun i => P i || P' i) n := by
  intro n
  induction n with
  | zero => exact Int32.or_self
  | succ n ih =>
    show (if P n = true then z_bits P n ||| (1 <<< (nI n &&& 31)) else z_bits P n) ||| (if P' n = true then z_bits P' n ||| (1 <<< (nI n &&& 31)) else z_bits P' n) = if (P n || P' n) = true then z_bits (fun i => P i || P' i) n ||| (1 <<< (nI n &&& 31)) else z_bits (fun i => P i || P' i) n
    rw [← ih]
    generalize z_bits P n = A
    generalize z_bits P' n = B
    generalize (1 : Int32) <<< (nI n &&& 31) = b
    cases P n <;> cases P' n
    · rfl
    · show A ||| (B ||| b) = A ||| B ||| b
      rw [Int32.or_assoc]
    · show A ||| b ||| B = A ||| B ||| b
      rw [Int32.or_assoc, Int32.or_comm b B, ← Int32.or_assoc]
    · show A ||| b ||| (B ||| b) = A ||| B ||| b
      rw [Int32.or_assoc, Int32.or_comm b, Int32.or_assoc B, Int32.or_self, ← Int32.or_assoc]
