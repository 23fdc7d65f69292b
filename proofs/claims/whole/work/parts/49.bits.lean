/-! Sets of at most eight, by their bits. -/
def z_go8 : Nat → List Bool → List (List Bool)
  | 0, l => [l]
  | n + 1, l => z_go8 n (true :: l) ++ z_go8 n (false :: l)
theorem z_bit8 : ∀ l, l ∈ z_go8 8 [] → ∀ n, n < 9 → z_bc (z_bits (fun i => l.getD i false) n) = nI (z_cnt (fun i => l.getD i false) n) ∧ ∀ i, i < n → z_isIn (z_bits (fun i => l.getD i false) n) (nI i) = l.getD i false := by decide +kernel
theorem z_go8_in (b : Bool) {n : Nat} {l x : List Bool} (h : x ∈ z_go8 n (b :: l)) : x ∈ z_go8 (n + 1) l := by
  cases b with
  | true => exact List.mem_append_left _ h
  | false => exact List.mem_append_right _ h
theorem z_bitsP {P : Nat → Bool} {n : Nat} (hn : n ≤ 8) : z_bc (z_bits P n) = nI (z_cnt P n) ∧ ∀ i, i < n → z_isIn (z_bits P n) (nI i) = P i := by
  have hm : [P 0, P 1, P 2, P 3, P 4, P 5, P 6, P 7] ∈ z_go8 8 [] := z_go8_in (P 7) (z_go8_in (P 6) (z_go8_in (P 5) (z_go8_in (P 4) (z_go8_in (P 3) (z_go8_in (P 2) (z_go8_in (P 1) (z_go8_in (P 0) (List.mem_singleton.mpr rfl))))))))
  have hp : ∀ i, i < n → [P 0, P 1, P 2, P 3, P 4, P 5, P 6, P 7].getD i false = P i := fun i hi => by
    have c : i = 0 ∨ i = 1 ∨ i = 2 ∨ i = 3 ∨ i = 4 ∨ i = 5 ∨ i = 6 ∨ i = 7 := by omega
    rcases c with rfl | rfl | rfl | rfl | rfl | rfl | rfl | rfl <;> rfl
  have e1 : z_bits (fun i => [P 0, P 1, P 2, P 3, P 4, P 5, P 6, P 7].getD i false) n = z_bits P n := z_fold_c n (fun s i hi => by show (if [P 0, P 1, P 2, P 3, P 4, P 5, P 6, P 7].getD i false = true then _ else _) = _; rw [hp i hi])
  have e2 := z_cnt_c n hp
  obtain ⟨h1, h2⟩ := z_bit8 _ hm n (by omega)
  rw [e1] at h1 h2
  exact ⟨h1.trans (congrArg nI e2), fun i hi => (h2 i hi).trans (hp i hi)⟩
theorem z_bit01 (x : Int32) : x &&& 1 = 0 ∨ x &&& 1 = 1 := by
  obtain ⟨j, hj, e⟩ := pk_andE x (m := 1) 1 (by decide)
  have : j = 0 ∨ j = 1 := by omega
  rcases this with rfl | rfl
  · exact Or.inl e
  · exact Or.inr e
theorem z_inBit (s q : Int32) : (s >>> (q &&& 31)) &&& 1 = if z_isIn s q = true then 1 else 0 := by
  unfold z_isIn
  rcases z_bit01 (s >>> (q &&& 31)) with e | e
  · rw [e]; rfl
  · rw [e]; rfl
