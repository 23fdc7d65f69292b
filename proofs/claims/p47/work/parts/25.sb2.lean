/-! java.lang.StringBuilder: its calls. -/
def z_dgs (k : Nat) : List Nat := if k < 10 then [48 + k] else [48 + k / 10, 48 + k % 10]
def z_dgU (g : Nat → Int32) (n k : Nat) : Nat → Int32 := if k < 10 then upd g n (nI (48 + k % 10)) else upd (upd g (n + 1) (nI (48 + k % 10))) n (nI (48 + k / 10))
theorem z_apD (l : List Nat) (c j : Nat) (hj : j < l.length) : (l ++ [c]).getD j 0 = l.getD j 0 := by simp [List.getD_eq_getElem?_getD, List.getElem?_append_left hj]
theorem z_apE (l : List Nat) (c : Nat) : (l ++ [c]).getD l.length 0 = c := by simp [List.getD_eq_getElem?_getD]
theorem z_updE {α : Type} (g : Nat → Int32) (n : Nat) (x : Int32) : upd g n x n = x := if_pos rfl
theorem z_updN (g : Nat → Int32) {n j : Nat} (x : Int32) (h : j ≠ n) : upd g n x j = g j := if_neg h
theorem z_rne {r r1 k n : Nat} (hr : r1 = r ∨ n ≤ r1) (h1 : k < n) (h3 : k ≠ r) : k ≠ r1 := by omega
section ZSb2
variable {G : z_G} {h : z_H} {Q : z_O → z_H → Prop} {a r m : Nat} {l : List Nat}
theorem c_isLatin1 {fs : List Value} {v : Value} (s1 : h.2 a = some (.inr (10, v :: .int 0 :: fs))) (q : Q (.inl (some (.int 1))) h) : z_W G 0 0 0 314 0 (z_L0 314 [.ref a]) [] h Q := by
  refine z_gets (v := .int 1) rfl (by decide +kernel) rfl ?_
  refine z_if_eq rfl (fun c3 => absurd c3 (by decide)) (fun c3 => ?_)
  refine z_aload_n rfl rfl ?_
  refine z_get rfl s1 rfl ?_
  refine z_if_ne rfl (fun c10 => absurd rfl c10) (fun c10 => ?_)
  refine z_iconst (v := 1) rfl (by decide) ?_
  refine z_goto rfl ?_
  refine z_zret (ty := .boolean) rfl rfl (by first | decide | exact z_nb _) ?_
  exact q
theorem c_canEncodeC {c : Nat} (hc : c < 128) (q : Q (.inl (some (.int 1))) h) : z_W G 0 0 0 316 0 (z_L0 316 [.int (nI c)]) [] h Q := by
  refine z_iload_n rfl rfl ?_
  refine z_sipush (v := 255) rfl (by decide) ?_
  refine z_icmp_gt rfl (fun c4 => absurd c4 (show ¬ (255 : Int32) < nI c from nI_nlt (a := 255) (by omega) (by decide))) (fun c4 => ?_)
  refine z_iconst (v := 1) rfl (by decide) ?_
  refine z_goto rfl ?_
  refine z_zret (ty := .boolean) rfl rfl (by first | decide | exact z_nb _) ?_
  exact q
theorem c_appendC5 {c : Nat} (hc : c < 128) (hl : l.length < 100) (hS : z_Sb h a r 0 l) (q : ∀ h' r', (r' = r ∨ 1000 + h.1 ≤ r') → z_Sb h' a r' 0 (l ++ [c]) → z_Fx a r h h' → Q (.inl (some (.ref a))) h') : z_W G 4 1 202 303 0 (z_L0 303 [.ref a, .int (nI c)]) [] h Q := by
  have hS0 := hS
  obtain ⟨cap, ml, g, s1, s2, s3, s4, s5, s6, s7, s8, s9, s10⟩ := hS0
  have eL : (l ++ [c]).length = l.length + 1 := by simp
  refine z_aload_n rfl rfl ?_
  refine z_aload_n rfl rfl ?_
  refine z_get rfl s1 rfl ?_
  refine z_iconst (v := 1) rfl (by decide) ?_
  refine z_iadd rfl ?_
  rw [nI_1]
  refine z_callA (av := [_]) rfl z_w312 (by decide +kernel) (by decide +kernel) rfl (Or.inr (by decide +kernel)) s1 rfl rfl rfl rfl (Nat.le_of_ble_eq_true rfl) (Nat.le_of_ble_eq_true rfl) (Nat.le_of_ble_eq_true rfl) (Nat.le_of_ble_eq_true rfl) (c_ensure hS (by omega) (fun hh r1 hr1 hS1 hx1 => ?_))
  obtain ⟨cap1, ml1, g1, t1, t2, t3, t4, t5, t6, t7, t8, t9, t10⟩ := hS1
  refine z_aload_n rfl rfl ?_
  refine z_callA (av := []) rfl z_w314 (by decide +kernel) (by decide +kernel) rfl (Or.inl rfl) t1 rfl rfl rfl rfl (Nat.le_of_ble_eq_true rfl) (Nat.le_of_ble_eq_true rfl) (Nat.le_of_ble_eq_true rfl) (Nat.le_of_ble_eq_true rfl) (c_isLatin1 t1 ?_)
  refine z_if_eq rfl (fun c14 => absurd c14 (by decide)) (fun c14 => ?_)
  refine z_iload_n rfl rfl ?_
  refine z_callS (av := [_]) rfl z_w316 rfl rfl rfl rfl (Nat.le_of_ble_eq_true rfl) (Nat.le_of_ble_eq_true rfl) (Nat.le_of_ble_eq_true rfl) (Nat.le_of_ble_eq_true rfl) (c_canEncodeC hc ?_)
  refine z_if_eq rfl (fun c21 => absurd c21 (by decide)) (fun c21 => ?_)
  refine z_aload_n rfl rfl ?_
  refine z_get rfl t1 rfl ?_
  refine z_aload_n rfl rfl ?_
  refine z_dup rfl rfl ?_
  refine z_get rfl t1 rfl ?_
  refine z_dup_x1 rfl rfl rfl ?_
  refine z_iconst (v := 1) rfl (by decide) ?_
  refine z_iadd rfl ?_
  rw [nI_1]
  refine z_putC rfl t1 (by simp) rfl rfl rfl (fun h1 hC1 hF1 => ?_)
  refine z_iload_n rfl rfl ?_
  refine z_i2b rfl ?_
  refine z_bast rfl ((hF1.2 r1 (by omega)).trans t2) (vp_in_nI (by omega) (by omega)) ?_
  rw [nI_clamp (by omega), (z_c128 c hc).1]
  refine z_goto rfl ?_
  refine z_aload_n rfl rfl ?_
  refine z_aret rfl rfl (Or.inl ⟨_, rfl⟩) (Or.inr ⟨_, rfl⟩) ?_
  have f1 : h1.1 = hh.1 := hF1.1
  refine q _ r1 hr1 ⟨cap1, ml1, upd g1 l.length (nI c), ?_, z_set_eq _ _ _, fun j => ?_, fun j hj => ?_, by omega, by omega, t7, ?_, ?_, t10⟩ ⟨?_, fun k e1 e2 e3 => ?_⟩
  · rw [z_set_ne _ _ t10, eL]; exact hC1
  · by_cases e : j = l.length
    · rw [e, z_updE (α := Nat)]; exact (z_c128 c hc).2.1
    · rw [z_updN _ _ e]; exact t3 j
  · by_cases e : j = l.length
    · rw [e, z_updE (α := Nat), z_apE]; exact ⟨rfl, hc⟩
    · rw [z_updN _ _ e, z_apD _ _ _ (by omega)]; exact t4 j (by omega)
  · show a < 1000 + h1.1; omega
  · show r1 < 1000 + h1.1; omega
  · show h.1 ≤ h1.1; have := hx1.1; omega
  · rw [z_set_ne _ _ (z_rne hr1 e1 e3), hF1.2 k (by omega)]; exact hx1.2 k e1 e2 e3
theorem c_appendC {c : Nat} (hc : c < 128) (hl : l.length < 100) (hS : z_Sb h a r 0 l) (q : ∀ h' r', (r' = r ∨ 1000 + h.1 ≤ r') → z_Sb h' a r' 0 (l ++ [c]) → z_Fx a r h h' → Q (.inl (some (.ref a))) h') : z_W G 5 1 202 302 0 (z_L0 302 [.ref a, .int (nI c)]) [] h Q := by
  have hS0 := hS
  obtain ⟨cap, ml, g, s1, -⟩ := hS0
  refine z_aload_n rfl rfl ?_
  refine z_iload_n rfl rfl ?_
  refine z_callSp (av := [_]) (jx := 7113) rfl z_w303 (by decide +kernel) (by decide +kernel) rfl rfl (by decide +kernel) (by decide +kernel) s1 rfl rfl rfl rfl (Nat.le_of_ble_eq_true rfl) (Nat.le_of_ble_eq_true rfl) (Nat.le_of_ble_eq_true rfl) (Nat.le_of_ble_eq_true rfl) (c_appendC5 hc hl hS (fun hh r1 hr1 hS1 hx1 => ?_))
  refine z_pop rfl rfl ?_
  refine z_aload_n rfl rfl ?_
  refine z_aret rfl rfl (Or.inl ⟨_, rfl⟩) (Or.inr ⟨_, rfl⟩) ?_
  exact q _ _ hr1 hS1 hx1
theorem c_stringSize {k : Nat} (hk : k < 100) (q : Q (.inl (some (.int (nI (z_dgs k).length)))) h) : z_W G 0 0 0 325 0 (z_L0 325 [.int (nI k)]) [] h Q := by
  by_cases hc : k < 10
  · have e : (z_dgs k).length = 1 := by unfold z_dgs; rw [if_pos hc]; rfl
    rw [e] at q
    refine z_iconst (v := 1) rfl (by decide) ?_
    refine z_istore_n rfl (by decide +kernel) rfl ?_
    refine z_iload_n rfl rfl ?_
    refine z_if_lt rfl (fun c3 => absurd c3 (nI_pos (by omega))) (fun c3 => ?_)
    refine z_iconst (v := 0) rfl (by decide) ?_
    refine z_istore_n rfl (by decide +kernel) rfl ?_
    refine z_iload_n rfl rfl ?_
    refine z_ineg rfl ?_
    refine z_istore_n rfl (by decide +kernel) rfl ?_
    refine z_bipush (v := (-10)) rfl (by decide) ?_
    refine z_istore_n rfl (by decide +kernel) rfl ?_
    refine z_iconst (v := 1) rfl (by decide) ?_
    refine z_istore_n rfl (by decide +kernel) rfl ?_
    refine z_iload_n rfl rfl ?_
    refine z_bipush (v := 10) rfl (by decide) ?_
    refine z_icmp_ge rfl (fun c19 => absurd c19 (by decide)) (fun c19 => ?_)
    refine z_iload_n rfl rfl ?_
    refine z_iload_n rfl rfl ?_
    refine z_icmp_le rfl (fun c24 => absurd c24 (show ¬ -nI k ≤ -nI 10 from fun e9 => absurd ((sb_nle (by omega) (by omega)).mp e9) (by omega))) (fun c24 => ?_)
    refine z_iload_n rfl rfl ?_
    refine z_iload_n rfl rfl ?_
    refine z_iadd rfl ?_
    refine z_iret rfl rfl ?_
    rw [show (1 + 0 : Int32) = nI 1 by decide]; exact q
  · have e : (z_dgs k).length = 2 := by unfold z_dgs; rw [if_neg hc]; rfl
    rw [e] at q
    refine z_iconst (v := 1) rfl (by decide) ?_
    refine z_istore_n rfl (by decide +kernel) rfl ?_
    refine z_iload_n rfl rfl ?_
    refine z_if_lt rfl (fun c3 => absurd c3 (nI_pos (by omega))) (fun c3 => ?_)
    refine z_iconst (v := 0) rfl (by decide) ?_
    refine z_istore_n rfl (by decide +kernel) rfl ?_
    refine z_iload_n rfl rfl ?_
    refine z_ineg rfl ?_
    refine z_istore_n rfl (by decide +kernel) rfl ?_
    refine z_bipush (v := (-10)) rfl (by decide) ?_
    refine z_istore_n rfl (by decide +kernel) rfl ?_
    refine z_iconst (v := 1) rfl (by decide) ?_
    refine z_istore_n rfl (by decide +kernel) rfl ?_
    refine z_iload_n rfl rfl ?_
    refine z_bipush (v := 10) rfl (by decide) ?_
    refine z_icmp_ge rfl (fun c19 => absurd c19 (by decide)) (fun c19 => ?_)
    refine z_iload_n rfl rfl ?_
    refine z_iload_n rfl rfl ?_
    refine z_icmp_le rfl (fun c24 => ?_) (fun c24 => absurd (show -nI k ≤ -nI 10 from (sb_nle (by omega) (by omega)).mpr (by omega)) c24)
    refine z_bipush (v := 10) rfl (by decide) ?_
    refine z_iload_n rfl rfl ?_
    refine z_imul rfl ?_
    refine z_istore_n rfl (by decide +kernel) rfl ?_
    refine z_iinc rfl rfl (by decide +kernel) rfl ?_
    refine z_goto rfl ?_
    refine z_iload_n rfl rfl ?_
    refine z_bipush (v := 10) rfl (by decide) ?_
    refine z_icmp_ge rfl (fun c19 => absurd c19 (by decide)) (fun c19 => ?_)
    refine z_iload_n rfl rfl ?_
    refine z_iload_n rfl rfl ?_
    refine z_icmp_le rfl (fun c24 => absurd c24 (show ¬ -nI k ≤ 10 * (-10) from fun e9 => absurd ((sb_nle (a := k) (b := 100) (by omega) (by omega)).mp (by rw [show (10 * (-10) : Int32) = -nI 100 by decide] at e9; exact e9)) (by omega))) (fun c24 => ?_)
    refine z_iload_n rfl rfl ?_
    refine z_iload_n rfl rfl ?_
    refine z_iadd rfl ?_
    refine z_iret rfl rfl ?_
    rw [show (1 + Int32.ofInt 1 + 0 : Int32) = nI 2 by decide]; exact q
theorem c_getChars {k n cap : Nat} {g : Nat → Int32} (hk : k < 100) (s2 : h.2 r = some (.inl (2, cap, .inl g))) (hn : n + (z_dgs k).length ≤ cap) (hcap : cap ≤ 1000) (q : Q (.inl (some (.int (nI n)))) (z_set h r (.inl (2, cap, .inl (z_dgU g n k))))) : z_W G 0 0 0 326 0 (z_L0 326 [.int (nI k), .int (nI (n + (z_dgs k).length)), .ref r]) [] h Q := by
  have hO : (34, FieldType.byte, (List.range 100).map fun i => Value.int (Int32.ofNat (48 + i % 10))) ∈ z_roa := by decide +kernel
  have hT : (33, FieldType.byte, (List.range 100).map fun i => Value.int (Int32.ofNat (48 + i / 10))) ∈ z_roa := by decide +kernel
  have vO : ((List.range 100).map fun i => Value.int (Int32.ofNat (48 + i % 10))).getD (nI k).toNatClampNeg .null = .int (nI (48 + k % 10)) := by
    rw [nI_clamp (by omega)]
    simp [List.getD_eq_getElem?_getD, List.getElem?_map, List.getElem?_range hk, nI]
  have vT : ((List.range 100).map fun i => Value.int (Int32.ofNat (48 + i / 10))).getD (nI k).toNatClampNeg .null = .int (nI (48 + k / 10)) := by
    rw [nI_clamp (by omega)]
    simp [List.getD_eq_getElem?_getD, List.getElem?_map, List.getElem?_range hk, nI]
  have iK : ∀ vs : List Value, vs.length = 100 → vp_in (nI k) vs.length := fun vs hv => vp_in_nI (by omega) (by omega)
  by_cases hc : k < 10
  · have e : (z_dgs k).length = 1 := by unfold z_dgs; rw [if_pos hc]; rfl
    rw [e] at hn ⊢
    unfold z_dgU at q
    rw [if_pos hc] at q
    refine z_iload_n rfl rfl ?_
    refine z_istore rfl (by decide +kernel) rfl ?_
    refine z_iload_n rfl rfl ?_
    refine z_if_ge rfl (fun c4 => ?_) (fun c4 => absurd (nI_pos' (by omega)) c4)
    refine z_iconst (v := 0) rfl (by decide) ?_
    refine z_istore rfl (by decide +kernel) rfl ?_
    refine z_iload rfl rfl ?_
    refine z_if_ne rfl (fun c16 => absurd rfl c16) (fun c16 => ?_)
    refine z_iload_n rfl rfl ?_
    refine z_ineg rfl ?_
    refine z_istore_n rfl (by decide +kernel) rfl ?_
    refine z_iload_n rfl rfl ?_
    refine z_bipush (v := (-100)) rfl (by decide) ?_
    refine z_icmp_gt rfl (fun c25 => ?_) (fun c25 => absurd (show (-100 : Int32) < -nI k from (sb_nlt (a := 100) (b := k) (by omega) (by omega)).mpr (by omega)) c25)
    refine z_aload_n rfl rfl ?_
    refine z_iinc rfl rfl (by decide +kernel) rfl ?_
    rw [show nI (n + 1) + Int32.ofInt (-1) = nI n from pk_m1 n]
    refine z_iload rfl rfl ?_
    refine z_gets (v := .ref 34) rfl (by decide +kernel) rfl ?_
    refine z_iload_n rfl rfl ?_
    refine z_ineg rfl ?_
    rw [Int32.neg_neg]
    refine z_baldR rfl hO (iK _ (by simp)) vO ?_
    refine z_bast rfl s2 (vp_in_nI (by omega) (by omega)) ?_
    rw [nI_clamp (by omega), (z_c128 _ (by omega)).2.2.2.2.2.1]
    refine z_iload_n rfl rfl ?_
    refine z_bipush (v := (-9)) rfl (by decide) ?_
    refine z_icmp_ge rfl (fun c88 => ?_) (fun c88 => absurd (show (-9 : Int32) ≤ -nI k from (sb_nle (a := 9) (b := k) (by omega) (by omega)).mpr (by omega)) c88)
    refine z_iload rfl rfl ?_
    refine z_if_eq rfl (fun c106 => ?_) (fun c106 => absurd rfl c106)
    refine z_iload rfl rfl ?_
    refine z_iret rfl rfl ?_
    exact q
  · have e : (z_dgs k).length = 2 := by unfold z_dgs; rw [if_neg hc]; rfl
    rw [e] at hn ⊢
    unfold z_dgU at q
    rw [if_neg hc] at q
    refine z_iload_n rfl rfl ?_
    refine z_istore rfl (by decide +kernel) rfl ?_
    refine z_iload_n rfl rfl ?_
    refine z_if_ge rfl (fun c4 => ?_) (fun c4 => absurd (nI_pos' (by omega)) c4)
    refine z_iconst (v := 0) rfl (by decide) ?_
    refine z_istore rfl (by decide +kernel) rfl ?_
    refine z_iload rfl rfl ?_
    refine z_if_ne rfl (fun c16 => absurd rfl c16) (fun c16 => ?_)
    refine z_iload_n rfl rfl ?_
    refine z_ineg rfl ?_
    refine z_istore_n rfl (by decide +kernel) rfl ?_
    refine z_iload_n rfl rfl ?_
    refine z_bipush (v := (-100)) rfl (by decide) ?_
    refine z_icmp_gt rfl (fun c25 => ?_) (fun c25 => absurd (show (-100 : Int32) < -nI k from (sb_nlt (a := 100) (b := k) (by omega) (by omega)).mpr (by omega)) c25)
    refine z_aload_n rfl rfl ?_
    refine z_iinc rfl rfl (by decide +kernel) rfl ?_
    rw [show nI (n + 2) + Int32.ofInt (-1) = nI (n + 1) from pk_m1 (n + 1)]
    refine z_iload rfl rfl ?_
    refine z_gets (v := .ref 34) rfl (by decide +kernel) rfl ?_
    refine z_iload_n rfl rfl ?_
    refine z_ineg rfl ?_
    rw [Int32.neg_neg]
    refine z_baldR rfl hO (iK _ (by simp)) vO ?_
    refine z_bast rfl s2 (vp_in_nI (by omega) (by omega)) ?_
    rw [nI_clamp (by omega), (z_c128 _ (by omega)).2.2.2.2.2.1]
    refine z_iload_n rfl rfl ?_
    refine z_bipush (v := (-9)) rfl (by decide) ?_
    refine z_icmp_ge rfl (fun c88 => absurd c88 (show ¬ (-9 : Int32) ≤ -nI k from fun e9 => absurd ((sb_nle (a := 9) (b := k) (by omega) (by omega)).mp e9) (by omega))) (fun c88 => ?_)
    refine z_aload_n rfl rfl ?_
    refine z_iinc rfl rfl (by decide +kernel) rfl ?_
    rw [show nI (n + 1) + Int32.ofInt (-1) = nI n from pk_m1 n]
    refine z_iload rfl rfl ?_
    refine z_gets (v := .ref 33) rfl (by decide +kernel) rfl ?_
    refine z_iload_n rfl rfl ?_
    refine z_ineg rfl ?_
    rw [Int32.neg_neg]
    refine z_baldR rfl hT (iK _ (by simp)) vT ?_
    refine z_bast rfl (z_set_eq _ _ _) (vp_in_nI (by omega) (by omega)) ?_
    rw [nI_clamp (by omega), (z_c128 _ (by omega)).2.2.2.2.2.1, z_set_set]
    refine z_iload rfl rfl ?_
    refine z_if_eq rfl (fun c106 => ?_) (fun c106 => absurd rfl c106)
    refine z_iload rfl rfl ?_
    refine z_iret rfl rfl ?_
    exact q
theorem z_dgs_lt {k : Nat} (hk : k < 100) : ∀ x ∈ z_dgs k, x < 128 := by
  unfold z_dgs
  split <;> simp <;> omega
theorem z_dgU_at {g : Nat → Int32} {k : Nat} (hk : k < 100) (hg : ∀ j, fits .byte (.int (g j)) = true) (h4 : ∀ j, j < l.length → g j = nI (l.getD j 0) ∧ l.getD j 0 < 128) : (∀ j, fits .byte (.int (z_dgU g l.length k j)) = true) ∧ ∀ j, j < (l ++ z_dgs k).length → z_dgU g l.length k j = nI ((l ++ z_dgs k).getD j 0) ∧ (l ++ z_dgs k).getD j 0 < 128 := by
  have f : ∀ c, c < 128 → fits .byte (.int (nI c)) = true := fun c hc => (z_c128 c hc).2.1
  unfold z_dgU z_dgs
  by_cases hc : k < 10
  · rw [if_pos hc, if_pos hc]
    refine ⟨fun j => ?_, fun j hj => ?_⟩
    · by_cases e : j = l.length
      · rw [e, z_updE (α := Nat)]; exact f _ (by omega)
      · rw [z_updN _ _ e]; exact hg j
    · have hj2 : j < l.length + 1 := by simpa using hj
      by_cases e : j = l.length
      · rw [e, z_updE (α := Nat), z_apE, Nat.mod_eq_of_lt hc]; exact ⟨rfl, by omega⟩
      · rw [z_updN _ _ e, z_apD _ _ _ (by omega)]; exact h4 j (by omega)
  · rw [if_neg hc, if_neg hc]
    have ea : l ++ [48 + k / 10, 48 + k % 10] = (l ++ [48 + k / 10]) ++ [48 + k % 10] := by simp
    have eb : (l ++ [48 + k / 10]).length = l.length + 1 := by simp
    rw [ea]
    refine ⟨fun j => ?_, fun j hj => ?_⟩
    · by_cases e : j = l.length
      · rw [e, z_updE (α := Nat)]; exact f _ (by omega)
      · rw [z_updN _ _ e]
        by_cases e2 : j = l.length + 1
        · rw [e2, z_updE (α := Nat)]; exact f _ (by omega)
        · rw [z_updN _ _ e2]; exact hg j
    · have hj2 : j < l.length + 2 := by simpa using hj
      by_cases e : j = l.length
      · rw [e, z_updE (α := Nat), z_apD _ _ _ (by omega), z_apE]; exact ⟨rfl, by omega⟩
      · rw [z_updN _ _ e]
        by_cases e2 : j = l.length + 1
        · rw [e2, z_updE (α := Nat), ← eb, z_apE]; exact ⟨rfl, by omega⟩
        · rw [z_updN _ _ e2, z_apD _ _ _ (by omega), z_apD _ _ _ (by omega)]; exact h4 j (by omega)
theorem c_appendI5 {k : Nat} (hk : k < 100) (hl : l.length < 90) (hS : z_Sb h a r 0 l) (q : ∀ h' r', (r' = r ∨ 1000 + h.1 ≤ r') → z_Sb h' a r' 0 (l ++ z_dgs k) → z_Fx a r h h' → Q (.inl (some (.ref a))) h') : z_W G 4 1 202 305 0 (z_L0 305 [.ref a, .int (nI k)]) [] h Q := by
  have hS0 := hS
  obtain ⟨cap, ml, g, s1, s2, s3, s4, s5, s6, s7, s8, s9, s10⟩ := hS0
  have hw : (z_dgs k).length ≤ 2 := by unfold z_dgs; split <;> simp
  have eL : (l ++ z_dgs k).length = l.length + (z_dgs k).length := by simp
  refine z_aload_n rfl rfl ?_
  refine z_get rfl s1 rfl ?_
  refine z_istore_n rfl (by decide +kernel) rfl ?_
  refine z_iload_n rfl rfl ?_
  refine z_iload_n rfl rfl ?_
  refine z_callS (av := [_]) rfl z_w325 rfl rfl rfl rfl (Nat.le_of_ble_eq_true rfl) (Nat.le_of_ble_eq_true rfl) (Nat.le_of_ble_eq_true rfl) (Nat.le_of_ble_eq_true rfl) (c_stringSize hk ?_)
  refine z_iadd rfl ?_
  rw [nI_add]
  refine z_istore_n rfl (by decide +kernel) rfl ?_
  refine z_aload_n rfl rfl ?_
  refine z_iload_n rfl rfl ?_
  refine z_callA (av := [_]) rfl z_w312 (by decide +kernel) (by decide +kernel) rfl (Or.inr (by decide +kernel)) s1 rfl rfl rfl rfl (Nat.le_of_ble_eq_true rfl) (Nat.le_of_ble_eq_true rfl) (Nat.le_of_ble_eq_true rfl) (Nat.le_of_ble_eq_true rfl) (c_ensure hS (by omega) (fun hh r1 hr1 hS1 hx1 => ?_))
  obtain ⟨cap1, ml1, g1, t1, t2, t3, t4, t5, t6, t7, t8, t9, t10⟩ := hS1
  refine z_aload_n rfl rfl ?_
  refine z_callA (av := []) rfl z_w314 (by decide +kernel) (by decide +kernel) rfl (Or.inl rfl) t1 rfl rfl rfl rfl (Nat.le_of_ble_eq_true rfl) (Nat.le_of_ble_eq_true rfl) (Nat.le_of_ble_eq_true rfl) (Nat.le_of_ble_eq_true rfl) (c_isLatin1 t1 ?_)
  refine z_if_eq rfl (fun c21 => absurd c21 (by decide)) (fun c21 => ?_)
  refine z_iload_n rfl rfl ?_
  refine z_iload_n rfl rfl ?_
  refine z_aload_n rfl rfl ?_
  refine z_get rfl t1 rfl ?_
  refine z_callS (av := [_, _, _]) rfl z_w326 rfl rfl rfl rfl (Nat.le_of_ble_eq_true rfl) (Nat.le_of_ble_eq_true rfl) (Nat.le_of_ble_eq_true rfl) (Nat.le_of_ble_eq_true rfl) (c_getChars hk t2 t6 t7 ?_)
  have t1' := (z_set_ne hh (k := r1) (j := a) (.inl (2, cap1, .inl (z_dgU g1 l.length k))) t10).trans t1
  refine z_pop rfl rfl ?_
  refine z_goto rfl ?_
  refine z_aload_n rfl rfl ?_
  refine z_iload_n rfl rfl ?_
  refine z_putC rfl t1' (by simp) rfl rfl rfl (fun h1 hC1 hF1 => ?_)
  refine z_aload_n rfl rfl ?_
  refine z_aret rfl rfl (Or.inl ⟨_, rfl⟩) (Or.inr ⟨_, rfl⟩) ?_
  have f1 : h1.1 = hh.1 := hF1.1
  obtain ⟨u1, u2⟩ := z_dgU_at (l := l) hk t3 t4
  refine q _ r1 hr1 ⟨cap1, ml1, z_dgU g1 l.length k, ?_, ?_, u1, u2, by omega, by omega, t7, by omega, by omega, t10⟩ ⟨by have := hx1.1; omega, fun k e1 e2 e3 => ?_⟩
  · rw [eL]; exact hC1
  · rw [hF1.2 _ (by omega)]; exact z_set_eq _ _ _
  · rw [hF1.2 k (by omega), z_set_ne _ _ (z_rne hr1 e1 e3)]; exact hx1.2 k e1 e2 e3
theorem c_appendI {k : Nat} (hk : k < 100) (hl : l.length < 90) (hS : z_Sb h a r 0 l) (q : ∀ h' r', (r' = r ∨ 1000 + h.1 ≤ r') → z_Sb h' a r' 0 (l ++ z_dgs k) → z_Fx a r h h' → Q (.inl (some (.ref a))) h') : z_W G 5 1 202 304 0 (z_L0 304 [.ref a, .int (nI k)]) [] h Q := by
  have hS0 := hS
  obtain ⟨cap, ml, g, s1, -⟩ := hS0
  refine z_aload_n rfl rfl ?_
  refine z_iload_n rfl rfl ?_
  refine z_callSp (av := [_]) (jx := 7111) rfl z_w305 (by decide +kernel) (by decide +kernel) rfl rfl (by decide +kernel) (by decide +kernel) s1 rfl rfl rfl rfl (Nat.le_of_ble_eq_true rfl) (Nat.le_of_ble_eq_true rfl) (Nat.le_of_ble_eq_true rfl) (Nat.le_of_ble_eq_true rfl) (c_appendI5 hk hl hS (fun hh r1 hr1 hS1 hx1 => ?_))
  refine z_pop rfl rfl ?_
  refine z_aload_n rfl rfl ?_
  refine z_aret rfl rfl (Or.inl ⟨_, rfl⟩) (Or.inr ⟨_, rfl⟩) ?_
  exact q _ _ hr1 hS1 hx1
theorem c_setLength5 (hS : z_Sb h a r 0 l) (hl : l.length < 1000) (q : ∀ h' r', (r' = r ∨ 1000 + h.1 ≤ r') → z_Sb h' a r' 0 [] → z_Fx a r h h' → Q (.inl none) h') : z_W G 4 1 202 307 0 (z_L0 307 [.ref a, .int 0]) [] h Q := by
  refine z_iload_n rfl rfl ?_
  refine z_if_ge rfl (fun c1 => ?_) (fun c1 => absurd (by decide) c1)
  have hS0 := hS
  obtain ⟨cap, ml, g, s1, s2, s3, s4, s5, s6, s7, s8, s9, s10⟩ := hS0
  refine z_aload_n rfl rfl ?_
  refine z_iload_n rfl rfl ?_
  refine z_callA (av := [_]) rfl z_w312 (by decide +kernel) (by decide +kernel) rfl (Or.inr (by decide +kernel)) s1 rfl rfl rfl rfl (Nat.le_of_ble_eq_true rfl) (Nat.le_of_ble_eq_true rfl) (Nat.le_of_ble_eq_true rfl) (Nat.le_of_ble_eq_true rfl) (c_ensure (m := 0) hS (by omega) (fun hh r1 hr1 hS1 hx1 => ?_))
  obtain ⟨cap1, ml1, g1, t1, t2, t3, t4, t5, t6, t7, t8, t9, t10⟩ := hS1
  refine z_aload_n rfl rfl ?_
  refine z_get rfl t1 rfl ?_
  refine z_iload_n rfl rfl ?_
  refine z_icmp_ge rfl (fun c23 => ?_) (fun c23 => absurd (nI_pos' (by omega)) c23)
  refine z_aload_n rfl rfl ?_
  refine z_get rfl t1 rfl ?_
  refine z_iload_n rfl rfl ?_
  refine z_icmp_le rfl (fun c68 => ?_) (fun c68 => ?_)
  · refine z_aload_n rfl rfl ?_
    refine z_iload_n rfl rfl ?_
    refine z_putC rfl t1 (by simp) rfl rfl rfl (fun h1 hC1 hF1 => ?_)
    refine z_vret rfl rfl ?_
    have f1 : h1.1 = hh.1 := hF1.1
    exact q _ r1 hr1 ⟨cap1, ml1, g1, hC1, (hF1.2 _ (by omega)).trans t2, t3, fun j hj => absurd hj (by simp), by simp, by simp, t7, by omega, by omega, t10⟩ ⟨by have := hx1.1; omega, fun k e1 e2 e3 => (hF1.2 k (by omega)).trans (hx1.2 k e1 e2 e3)⟩
  · refine z_aload_n rfl rfl ?_
    refine z_iconst (v := 1) rfl (by decide) ?_
    refine z_putC rfl t1 (by simp) rfl rfl rfl (fun h2 hC2 hF2 => ?_)
    refine z_aload_n rfl rfl ?_
    refine z_iload_n rfl rfl ?_
    refine z_putC rfl hC2 (by simp) rfl rfl rfl (fun h1 hC1 hF1 => ?_)
    refine z_vret rfl rfl ?_
    have f2 : h2.1 = hh.1 := hF2.1
    have f1 : h1.1 = h2.1 := hF1.1
    exact q _ r1 hr1 ⟨cap1, 1, g1, hC1, (hF1.2 _ (by omega)).trans ((hF2.2 _ (by omega)).trans t2), t3, fun j hj => absurd hj (by simp), by simp, by simp, t7, by omega, by omega, t10⟩ ⟨by have := hx1.1; omega, fun k e1 e2 e3 => (hF1.2 k (by omega)).trans ((hF2.2 k (by omega)).trans (hx1.2 k e1 e2 e3))⟩
theorem c_setLength (hS : z_Sb h a r 0 l) (hl : l.length < 1000) (q : ∀ h' r', (r' = r ∨ 1000 + h.1 ≤ r') → z_Sb h' a r' 0 [] → z_Fx a r h h' → Q (.inl none) h') : z_W G 5 1 202 306 0 (z_L0 306 [.ref a, .int 0]) [] h Q := by
  have hS0 := hS
  obtain ⟨cap, ml, g, s1, -⟩ := hS0
  refine z_aload_n rfl rfl ?_
  refine z_iload_n rfl rfl ?_
  refine z_callSp (av := [_]) (jx := 7103) rfl z_w307 (by decide +kernel) (by decide +kernel) rfl rfl (by decide +kernel) (by decide +kernel) s1 rfl rfl rfl rfl (Nat.le_of_ble_eq_true rfl) (Nat.le_of_ble_eq_true rfl) (Nat.le_of_ble_eq_true rfl) (Nat.le_of_ble_eq_true rfl) (c_setLength5 hS hl (fun hh r1 hr1 hS1 hx1 => ?_))
  refine z_vret rfl rfl ?_
  exact q _ _ hr1 hS1 hx1
theorem c_length5 (hS : z_Sb h a r 0 l) (q : Q (.inl (some (.int (nI l.length)))) h) : z_W G 0 0 0 309 0 (z_L0 309 [.ref a]) [] h Q := by
  obtain ⟨cap, ml, g, s1, -⟩ := hS
  refine z_aload_n rfl rfl ?_
  refine z_get rfl s1 rfl ?_
  refine z_iret rfl rfl ?_
  exact q
theorem c_length (hS : z_Sb h a r 0 l) (q : Q (.inl (some (.int (nI l.length)))) h) : z_W G 1 0 0 308 0 (z_L0 308 [.ref a]) [] h Q := by
  have hS0 := hS
  obtain ⟨cap, ml, g, s1, -⟩ := hS0
  refine z_aload_n rfl rfl ?_
  refine z_callSp (av := []) (jx := 7101) rfl z_w309 (by decide +kernel) (by decide +kernel) rfl rfl (by decide +kernel) (by decide +kernel) s1 rfl rfl rfl rfl (Nat.le_of_ble_eq_true rfl) (Nat.le_of_ble_eq_true rfl) (Nat.le_of_ble_eq_true rfl) (Nat.le_of_ble_eq_true rfl) (c_length5 hS ?_)
  refine z_iret rfl rfl ?_
  exact q
theorem c_charAt5 {i : Nat} (hi : i < l.length) (hS : z_Sb h a r 0 l) (q : Q (.inl (some (.int (nI (l.getD i 0))))) h) : z_W G 2 0 0 311 0 (z_L0 311 [.ref a, .int (nI i)]) [] h Q := by
  obtain ⟨cap, ml, g, s1, s2, s3, s4, s5, s6, s7, s8, s9, s10⟩ := hS
  have hb := (s4 i hi).2
  refine z_aload_n rfl rfl ?_
  refine z_get rfl s1 rfl ?_
  refine z_istore_n rfl (by decide +kernel) rfl ?_
  refine z_aload_n rfl rfl ?_
  refine z_get rfl s1 rfl ?_
  refine z_astore_n rfl (by decide +kernel) rfl ?_
  refine z_aload_n rfl rfl ?_
  refine z_get rfl s1 rfl ?_
  refine z_aload_n rfl rfl ?_
  refine z_alenI rfl s2 (by decide) ?_
  refine z_iload_n rfl rfl ?_
  refine z_ishr rfl ?_
  rw [sb_shr0]
  refine z_callS (av := [_, _]) rfl z_w318 rfl rfl rfl rfl (Nat.le_of_ble_eq_true rfl) (Nat.le_of_ble_eq_true rfl) (Nat.le_of_ble_eq_true rfl) (Nat.le_of_ble_eq_true rfl) (c_min ?_)
  rw [z_mn (by omega) (by omega), if_neg (by omega)]
  refine z_istore rfl (by decide +kernel) rfl ?_
  refine z_iload_n rfl rfl ?_
  refine z_iload rfl rfl ?_
  refine z_callS (av := [_, _]) rfl z_w323 rfl rfl rfl rfl (Nat.le_of_ble_eq_true rfl) (Nat.le_of_ble_eq_true rfl) (Nat.le_of_ble_eq_true rfl) (Nat.le_of_ble_eq_true rfl) (c_checkIndex hi (by omega) ?_)
  refine z_iload_n rfl rfl ?_
  refine z_if_ne rfl (fun c30 => absurd rfl c30) (fun c30 => ?_)
  refine z_aload_n rfl rfl ?_
  refine z_iload_n rfl rfl ?_
  refine z_bald rfl s2 (vp_in_nI (by omega) (by omega)) ?_
  rw [nI_clamp (by omega), (s4 i hi).1]
  refine z_sipush (v := 255) rfl (by decide) ?_
  refine z_iand rfl ?_
  rw [(z_c128 _ hb).2.2.1]
  refine z_i2c rfl ?_
  rw [(z_c128 _ hb).2.2.2.1]
  refine z_zret (ty := .char) rfl rfl (z_c128 _ hb).2.2.2.2.1 ?_
  exact q
theorem c_charAt {i : Nat} (hi : i < l.length) (hS : z_Sb h a r 0 l) (q : Q (.inl (some (.int (nI (l.getD i 0))))) h) : z_W G 3 0 0 310 0 (z_L0 310 [.ref a, .int (nI i)]) [] h Q := by
  have hS0 := hS
  obtain ⟨cap, ml, g, s1, s2, s3, s4, -⟩ := hS0
  refine z_aload_n rfl rfl ?_
  refine z_iload_n rfl rfl ?_
  refine z_callSp (av := [_]) (jx := 7102) rfl z_w311 (by decide +kernel) (by decide +kernel) rfl rfl (by decide +kernel) (by decide +kernel) s1 rfl rfl rfl rfl (Nat.le_of_ble_eq_true rfl) (Nat.le_of_ble_eq_true rfl) (Nat.le_of_ble_eq_true rfl) (Nat.le_of_ble_eq_true rfl) (c_charAt5 hi hS ?_)
  refine z_zret (ty := .char) rfl rfl (z_c128 _ (s4 i hi).2).2.2.2.2.1 ?_
  exact q
end ZSb2
