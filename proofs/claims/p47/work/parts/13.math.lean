/-! java.lang.Math, Integer.bitCount's kin: ints alone. -/
section ZMa
variable {G : z_G} {h : z_H} {Q : z_O → z_H → Prop}
theorem c_max {x y : Int32} (q : Q (.inl (some (.int (if x < y then y else x)))) h) : z_W G 0 0 0 319 0 (z_L0 319 [.int x, .int y]) [] h Q := by
  refine z_iload_n rfl rfl ?_
  refine z_iload_n rfl rfl ?_
  refine z_icmp_lt rfl (fun c1 => ?_) (fun c1 => ?_)
  · refine z_iload_n rfl rfl ?_
    refine z_iret rfl rfl ?_
    rw [if_pos (by simpa using c1)] at q; exact q
  · refine z_iload_n rfl rfl ?_
    refine z_goto rfl ?_
    refine z_iret rfl rfl ?_
    rw [if_neg (by simpa using c1)] at q; exact q
theorem c_min {x y : Int32} (q : Q (.inl (some (.int (if y < x then y else x)))) h) : z_W G 0 0 0 318 0 (z_L0 318 [.int x, .int y]) [] h Q := by
  refine z_iload_n rfl rfl ?_
  refine z_iload_n rfl rfl ?_
  refine z_icmp_gt rfl (fun c1 => ?_) (fun c1 => ?_)
  · refine z_iload_n rfl rfl ?_
    refine z_iret rfl rfl ?_
    rw [if_pos (by simpa using c1)] at q; exact q
  · refine z_iload_n rfl rfl ?_
    refine z_goto rfl ?_
    refine z_iret rfl rfl ?_
    rw [if_neg (by simpa using c1)] at q; exact q
theorem c_abs {x : Int32} (q : Q (.inl (some (.int (if x < 0 then -x else x)))) h) : z_W G 0 0 0 320 0 (z_L0 320 [.int x]) [] h Q := by
  refine z_iload_n rfl rfl ?_
  refine z_if_ge rfl (fun c1 => ?_) (fun c1 => ?_)
  · refine z_iload_n rfl rfl ?_
    refine z_iret rfl rfl ?_
    rw [if_neg (by simpa using c1)] at q; exact q
  · refine z_iload_n rfl rfl ?_
    refine z_ineg rfl ?_
    refine z_goto rfl ?_
    refine z_iret rfl rfl ?_
    rw [if_pos (by simpa using c1)] at q; exact q
theorem c_floorMod8 {a : Nat} (ha : a < 16) (q : Q (.inl (some (.int (nI (a % 8))))) h) : z_W G 0 0 0 321 0 (z_L0 321 [.int (nI a), .int 8]) [] h Q := by
  have key : ∀ a, a < 16 → 0 ≤ (nI a ^^^ 8) ∧ nI a - nI a / 8 * 8 = nI (a % 8) := by decide +kernel
  obtain ⟨k1, k2⟩ := key a ha
  refine z_iload_n rfl rfl ?_
  refine z_iload_n rfl rfl ?_
  refine z_irem rfl (by decide) ?_
  rw [k2]
  refine z_istore_n rfl (by decide +kernel) rfl ?_
  refine z_iload_n rfl rfl ?_
  refine z_iload_n rfl rfl ?_
  refine z_ixor rfl ?_
  refine z_if_ge rfl (fun c7 => ?_) (fun c7 => absurd k1 c7)
  refine z_iload_n rfl rfl ?_
  refine z_iret rfl rfl ?_
  exact q
end ZMa
