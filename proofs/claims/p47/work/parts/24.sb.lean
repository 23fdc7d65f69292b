/-! java.lang.StringBuilder, of letters below 128; its text as a list. -/
/-- a builder at a, its bytes at r, its text l, room for m at least -/
def z_Sb (h : z_H) (a r m : Nat) (l : List Nat) : Prop := ∃ (cap : Nat) (ml : Int32) (g : Nat → Int32), h.2 a = some (.inr (10, [.ref r, .int 0, .int ml, .int (nI l.length)])) ∧ h.2 r = some (.inl (2, cap, .inl g)) ∧ (∀ j, fits .byte (.int (g j)) = true) ∧ (∀ j, j < l.length → g j = nI (l.getD j 0) ∧ l.getD j 0 < 128) ∧ l.length ≤ cap ∧ m ≤ cap ∧ cap ≤ 1000 ∧ a < 1000 + h.1 ∧ r < 1000 + h.1 ∧ a ≠ r
/-- but for the builder and its bytes no old cell is changed -/
def z_Fx (a r : Nat) (h h' : z_H) : Prop := h.1 ≤ h'.1 ∧ ∀ k, k < 1000 + h.1 → k ≠ a → k ≠ r → h'.2 k = h.2 k
theorem z_Fx.refl (a r : Nat) (h : z_H) : z_Fx a r h h := ⟨Nat.le_refl _, fun _ _ _ _ => rfl⟩
theorem z_Fx.trans {a r r1 : Nat} {h h1 h2 : z_H} (x : z_Fx a r h h1) (hr : r1 = r ∨ 1000 + h.1 ≤ r1) (y : z_Fx a r1 h1 h2) : z_Fx a r h h2 :=
  ⟨Nat.le_trans x.1 y.1, fun k h1 h2 h3 => (y.2 k (by have := x.1; omega) h2 (by rcases hr with e | e <;> omega)).trans (x.2 k h1 h2 h3)⟩
theorem z_Sb.keptX {h h' : z_H} {a r m : Nat} {l : List Nat} (hS : z_Sb h a r m l) (h1 : h.1 ≤ h'.1) (h2 : h'.2 a = h.2 a) (h3 : h'.2 r = h.2 r) : z_Sb h' a r m l := by
  obtain ⟨cap, ml, g, s1, s2, s3, s4, s5, s6, s7, s8, s9, s10⟩ := hS
  exact ⟨cap, ml, g, h2.trans s1, h3.trans s2, s3, s4, s5, s6, s7, by omega, by omega, s10⟩
theorem z_Sb.kept {h h' : z_H} {a r m b n : Nat} {l : List Nat} (hS : z_Sb h a r m l) (hF : z_Fr b n h h') (hd : (a + 1 ≤ b ∨ b + n ≤ a) ∧ (r + 1 ≤ b ∨ b + n ≤ r)) : z_Sb h' a r m l := hS.keptX (Nat.le_of_eq hF.1.symm) (hF.2 _ (by omega)) (hF.2 _ (by omega))
theorem z_Sb.less {h : z_H} {a r m m' : Nat} {l : List Nat} (hS : z_Sb h a r m l) (hm : m' ≤ m) : z_Sb h a r m' l := by
  obtain ⟨cap, ml, g, s1, s2, s3, s4, s5, s6, s7, s8⟩ := hS
  exact ⟨cap, ml, g, s1, s2, s3, s4, s5, by omega, s7, s8⟩
def z_cap (cap m : Nat) : Nat := cap + (if m - cap < cap + 2 then cap + 2 else m - cap)
theorem z_cap_in {cap m : Nat} (h : cap < m) (hm : m ≤ 100) : cap < z_cap cap m ∧ m ≤ z_cap cap m ∧ z_cap cap m ≤ 202 := by
  unfold z_cap
  split <;> omega
theorem z_mx {B C : Nat} (hB : B < 2 ^ 30) (hC : C < 2 ^ 30) : (if nI B < nI C then nI C else nI B) = nI (if B < C then C else B) := by
  by_cases h : B < C
  · rw [if_pos h, if_pos (nI_lt h (by omega))]
  · rw [if_neg h, if_neg (nI_nlt (by omega) (by omega))]
theorem z_mn {B C : Nat} (hB : B < 2 ^ 30) (hC : C < 2 ^ 30) : (if nI C < nI B then nI C else nI B) = nI (if C < B then C else B) := by
  by_cases h : C < B
  · rw [if_pos h, if_pos (nI_lt h (by omega))]
  · rw [if_neg h, if_neg (nI_nlt (by omega) (by omega))]
theorem z_c128 : ∀ c, c < 128 → vp_nar .byte ((nI c).toInt8.toInt32) = nI c ∧ fits .byte (.int (nI c)) = true ∧ nI c &&& 255 = nI c ∧ ((nI c).toUInt32 % 65536).toInt32 = nI c ∧ narrow .char (.int (nI c)) = .int (nI c) ∧ vp_nar .byte (nI c) = nI c ∧ vp_nar .char (nI c) = nI c := by decide +kernel
section ZSb
variable {G : z_G} {h : z_H} {Q : z_O → z_H → Prop} {a r m : Nat} {l : List Nat}
theorem c_checkIndex3 {i n : Nat} {v : Value} (hi : i < n) (hn : n < 2 ^ 30) (q : Q (.inl (some (.int (nI i)))) h) : z_W G 0 0 0 324 0 (z_L0 324 [.int (nI i), .int (nI n), v]) [] h Q := by
  refine z_iload_n rfl rfl ?_
  refine z_if_lt rfl (fun c1 => absurd c1 (nI_pos (by omega))) (fun c1 => ?_)
  refine z_iload_n rfl rfl ?_
  refine z_iload_n rfl rfl ?_
  refine z_icmp_lt rfl (fun c6 => ?_) (fun c6 => absurd (nI_lt hi (by omega)) c6)
  refine z_iload_n rfl rfl ?_
  refine z_iret rfl rfl ?_
  exact q
theorem c_checkIndex {i n : Nat} (hi : i < n) (hn : n < 2 ^ 30) (q : Q (.inl none) h) : z_W G 1 0 0 323 0 (z_L0 323 [.int (nI i), .int (nI n)]) [] h Q := by
  refine z_iload_n rfl rfl ?_
  refine z_iload_n rfl rfl ?_
  refine z_getsQ rfl rfl rfl (fun v hv => ?_)
  rcases hv with rfl | rfl
  ·
    refine z_callS (av := [_, _, _]) rfl z_w324 rfl rfl rfl rfl (Nat.le_of_ble_eq_true rfl) (Nat.le_of_ble_eq_true rfl) (Nat.le_of_ble_eq_true rfl) (Nat.le_of_ble_eq_true rfl) (c_checkIndex3 hi hn ?_)
    refine z_pop rfl rfl ?_
    refine z_vret rfl rfl ?_
    exact q
  ·
    refine z_callS (av := [_, _, _]) rfl z_w324 rfl rfl rfl rfl (Nat.le_of_ble_eq_true rfl) (Nat.le_of_ble_eq_true rfl) (Nat.le_of_ble_eq_true rfl) (Nat.le_of_ble_eq_true rfl) (c_checkIndex3 hi hn ?_)
    refine z_pop rfl rfl ?_
    refine z_vret rfl rfl ?_
    exact q
theorem c_newLength {A B C : Nat} (hA : A + B + C < 2 ^ 20) (hB : 0 < B) (q : Q (.inl (some (.int (nI (A + if B < C then C else B))))) h) : z_W G 1 0 0 322 0 (z_L0 322 [.int (nI A), .int (nI B), .int (nI C)]) [] h Q := by
  have e : nI A + (if nI B < nI C then nI C else nI B) = nI (A + if B < C then C else B) := by rw [z_mx (by omega) (by omega), nI_add]
  have hX : 0 < (A + if B < C then C else B) ∧ (A + if B < C then C else B) < 2 ^ 20 := by split <;> omega
  refine z_iload_n rfl rfl ?_
  refine z_iload_n rfl rfl ?_
  refine z_iload_n rfl rfl ?_
  refine z_callS (av := [_, _]) rfl z_w319 rfl rfl rfl rfl (Nat.le_of_ble_eq_true rfl) (Nat.le_of_ble_eq_true rfl) (Nat.le_of_ble_eq_true rfl) (Nat.le_of_ble_eq_true rfl) (c_max ?_)
  refine z_iadd rfl ?_
  rw [e]
  refine z_istore_n rfl (by decide +kernel) rfl ?_
  refine z_iconst (v := 0) rfl (by decide) ?_
  refine z_iload_n rfl rfl ?_
  refine z_icmp_ge rfl (fun c10 => absurd c10 (nI_nle hX.1 (by omega))) (fun c10 => ?_)
  refine z_iload_n rfl rfl ?_
  refine z_ldc (j := 5187) (v := 2147483639) rfl (by decide +kernel) ?_
  refine z_icmp_gt rfl (fun c16 => absurd c16 (show ¬ (2147483639 : Int32) < nI _ from nI_nlt (a := 2147483639) (by omega) (by decide))) (fun c16 => ?_)
  refine z_iload_n rfl rfl ?_
  refine z_iret rfl rfl ?_
  exact q
theorem c_newCapacity {cap n : Nat} {g : Nat → Int32} {ml : Int32} (hc : cap < m) (hm : m ≤ 100) (s1 : h.2 a = some (.inr (10, [.ref r, .int 0, .int ml, .int (nI n)]))) (s2 : h.2 r = some (.inl (2, cap, .inl g))) (q : Q (.inl (some (.int (nI (z_cap cap m))))) h) : z_W G 2 0 0 313 0 (z_L0 313 [.ref a, .int (nI m)]) [] h Q := by
  refine z_aload_n rfl rfl ?_
  refine z_get rfl s1 rfl ?_
  refine z_alenI rfl s2 (by decide) ?_
  refine z_istore_n rfl (by decide +kernel) rfl ?_
  refine z_iload_n rfl rfl ?_
  refine z_aload_n rfl rfl ?_
  refine z_get rfl s1 rfl ?_
  refine z_ishl rfl ?_
  rw [sb_shl0]
  refine z_istore_n rfl (by decide +kernel) rfl ?_
  refine z_iload_n rfl rfl ?_
  refine z_iload_n rfl rfl ?_
  refine z_isub rfl ?_
  rw [pk_sub (by omega)]
  refine z_istore rfl (by decide +kernel) rfl ?_
  refine z_iload_n rfl rfl ?_
  refine z_iload rfl rfl ?_
  refine z_iload_n rfl rfl ?_
  refine z_iconst (v := 2) rfl (by decide) ?_
  refine z_aload_n rfl rfl ?_
  refine z_get rfl s1 rfl ?_
  refine z_ishl rfl ?_
  rw [sb_shl0]
  refine z_iadd rfl ?_
  rw [show nI cap + 2 = nI (cap + 2) from nI_add cap 2]
  refine z_callS (av := [_, _, _]) rfl z_w322 rfl rfl rfl rfl (Nat.le_of_ble_eq_true rfl) (Nat.le_of_ble_eq_true rfl) (Nat.le_of_ble_eq_true rfl) (Nat.le_of_ble_eq_true rfl) (c_newLength (by omega) (by omega) ?_)
  refine z_istore rfl (by decide +kernel) rfl ?_
  refine z_iload rfl rfl ?_
  refine z_ldc (j := 5191) (v := 2147483647) rfl (by decide +kernel) ?_
  refine z_icmp_ne rfl (fun c38 => ?_) (fun c38 => absurd c38 (show ¬ nI (z_cap cap m) = nI 2147483647 from fun e9 => absurd ((nI_eq (a := z_cap cap m) (b := 2147483647) (by have := z_cap_in hc hm; omega) (by decide)).mp e9) (by have := z_cap_in hc hm; omega)))
  refine z_iload rfl rfl ?_
  refine z_aload_n rfl rfl ?_
  refine z_get rfl s1 rfl ?_
  refine z_ishr rfl ?_
  rw [sb_shr0]
  refine z_iret rfl rfl ?_
  exact q
theorem c_copyOf {cap n : Nat} {g : Nat → Int32} (s2 : h.2 r = some (.inl (2, cap, .inl g))) (hr : r < 1000 + h.1) (hg : ∀ j, fits .byte (.int (g j)) = true) (hc : cap < n) (hn : n ≤ 1000) (q : Q (.inl (some (.ref (1000 + h.1)))) (z_set (z_new h (.inl (2, z_dfa 2 n))) (1000 + h.1) (.inl (2, n, .inl (va_cpy g (fun _ => 0) 0 0 cap))))) : z_W G 1 1 n 317 0 (z_L0 317 [.ref r, .int (nI n)]) [] h Q := by
  have k1 : (z_new h (.inl (2, z_dfa 2 n))).2 r = some (.inl (2, cap, .inl g)) := (if_neg (by omega)).trans s2
  have k2 : (z_new h (.inl (2, z_dfa 2 n))).2 (1000 + h.1) = some (.inl (2, n, .inl (fun _ => 0))) := if_pos rfl
  refine z_iload_n rfl rfl ?_
  refine z_aload_n rfl rfl ?_
  refine z_alenI rfl s2 (by decide) ?_
  refine z_icmp_ne rfl (fun c3 => ?_) (fun c3 => absurd c3 (show ¬ nI n = nI cap from fun e9 => absurd ((nI_eq (by omega) (by omega)).mp e9) (by omega)))
  refine z_iload_n rfl rfl ?_
  refine z_newA (mc2 := 0) (ms2 := 0) (N := n) rfl (nI_pos (by omega)) (nI_clamp (by omega)) (by omega) (by omega) (by omega) ?_
  refine z_astore_n rfl (by decide +kernel) rfl ?_
  refine z_aload_n rfl rfl ?_
  refine z_iconst (v := 0) rfl (by decide) ?_
  refine z_aload_n rfl rfl ?_
  refine z_iconst (v := 0) rfl (by decide) ?_
  refine z_aload_n rfl rfl ?_
  refine z_alenI rfl k1 (by decide) ?_
  refine z_iload_n rfl rfl ?_
  refine z_callS (av := [_, _]) rfl z_w318 rfl rfl rfl rfl (Nat.le_of_ble_eq_true rfl) (Nat.le_of_ble_eq_true rfl) (Nat.le_of_ble_eq_true rfl) (Nat.le_of_ble_eq_true rfl) (c_min ?_)
  rw [z_mn (by omega) (by omega), if_neg (by omega)]
  refine z_copyb rfl k1 k2 (by decide) (by decide) (nI_pos (by omega)) (by rw [nI_clamp (by omega)]; exact Nat.le_of_eq (Nat.zero_add _)) (by rw [nI_clamp (by omega)]; show 0 + cap ≤ n; omega) (fun i _ => hg _) (by omega) rfl ?_
  rw [nI_clamp (by omega)]
  refine z_aload_n rfl rfl ?_
  refine z_aret rfl rfl (Or.inr ⟨_, rfl⟩) (Or.inr ⟨_, rfl⟩) ?_
  exact q
theorem c_ensure (hS : z_Sb h a r 0 l) (hm : m ≤ 100) (q : ∀ h' r', (r' = r ∨ 1000 + h.1 ≤ r') → z_Sb h' a r' m l → z_Fx a r h h' → Q (.inl none) h') : z_W G 3 1 202 312 0 (z_L0 312 [.ref a, .int (nI m)]) [] h Q := by
  obtain ⟨cap, ml, g, s1, s2, s3, s4, s5, s6, s7, s8, s9, s10⟩ := hS
  have e1 : (nI m - nI cap).toInt = (m : Int) - cap := pk_sub_toInt (by omega) (by omega)
  by_cases hc : m ≤ cap
  ·
    refine z_aload_n rfl rfl ?_
    refine z_get rfl s1 rfl ?_
    refine z_alenI rfl s2 (by decide) ?_
    refine z_aload_n rfl rfl ?_
    refine z_get rfl s1 rfl ?_
    refine z_ishr rfl ?_
    rw [sb_shr0]
    refine z_istore_n rfl (by decide +kernel) rfl ?_
    refine z_iload_n rfl rfl ?_
    refine z_iload_n rfl rfl ?_
    refine z_isub rfl ?_
    refine z_if_le rfl (fun c14 => ?_) (fun c14 => absurd (show nI m - nI cap ≤ 0 from by rw [Int32.le_iff_toInt_le, e1, Int32.toInt_zero]; omega) c14)
    refine z_vret rfl rfl ?_
    exact q _ _ (Or.inl rfl) ⟨cap, ml, g, s1, s2, s3, s4, s5, hc, s7, s8, s9, s10⟩ (z_Fx.refl _ _ _)
  · have hz := z_cap_in (cap := cap) (m := m) (by omega) hm
    have kA : ∀ c, a ≠ 1000 + h.1 → (z_set (z_new h (.inl (2, z_dfa 2 (z_cap cap m)))) (1000 + h.1) c).2 a = h.2 a := fun c ha => by
      rw [z_set_ne _ _ ha]; exact if_neg ha
    refine z_aload_n rfl rfl ?_
    refine z_get rfl s1 rfl ?_
    refine z_alenI rfl s2 (by decide) ?_
    refine z_aload_n rfl rfl ?_
    refine z_get rfl s1 rfl ?_
    refine z_ishr rfl ?_
    rw [sb_shr0]
    refine z_istore_n rfl (by decide +kernel) rfl ?_
    refine z_iload_n rfl rfl ?_
    refine z_iload_n rfl rfl ?_
    refine z_isub rfl ?_
    refine z_if_le rfl (fun c14 => absurd c14 (show ¬ nI m - nI cap ≤ 0 from by rw [Int32.le_iff_toInt_le, e1, Int32.toInt_zero]; omega)) (fun c14 => ?_)
    refine z_aload_n rfl rfl ?_
    refine z_aload_n rfl rfl ?_
    refine z_get rfl s1 rfl ?_
    refine z_aload_n rfl rfl ?_
    refine z_iload_n rfl rfl ?_
    refine z_callA (av := [_]) rfl z_w313 (by decide +kernel) (by decide +kernel) rfl (Or.inr (by decide +kernel)) s1 rfl rfl rfl rfl (Nat.le_of_ble_eq_true rfl) (Nat.le_of_ble_eq_true rfl) (Nat.le_of_ble_eq_true rfl) (Nat.le_of_ble_eq_true rfl) (c_newCapacity (by omega) hm s1 s2 ?_)
    refine z_aload_n rfl rfl ?_
    refine z_get rfl s1 rfl ?_
    refine z_ishl rfl ?_
    rw [sb_shl0]
    refine z_callS (av := [_, _]) rfl z_w317 rfl rfl rfl rfl (Nat.le_of_ble_eq_true rfl) (Nat.le_of_ble_eq_true rfl) (Nat.le_of_ble_eq_true rfl) (Nat.le_of_ble_eq_true rfl) ((c_copyOf s2 s9 s3 hz.1 (by omega) ?_).mono (Nat.le_refl _) (Nat.le_refl _) (d' := 1) (mc' := 1) (ms' := 202) hz.2.2)
    have s1' := (kA (.inl (2, z_cap cap m, .inl (va_cpy g (fun _ => 0) 0 0 cap))) (by omega)).trans s1
    refine z_putC rfl s1' (by simp) rfl rfl rfl (fun h1 hC1 hF1 => ?_)
    refine z_vret rfl rfl ?_
    have f1 : h1.1 = h.1 + 1 := hF1.1
    refine q _ (1000 + h.1) (Or.inr (Nat.le_refl _)) ⟨z_cap cap m, ml, va_cpy g (fun _ => 0) 0 0 cap, hC1, ?_, fun j => ?_, fun j hj => ?_, by omega, hz.2.1, by omega, by omega, by omega, by omega⟩ ⟨by omega, fun k h1 h2 h3 => ?_⟩
    · rw [hF1.2 _ (by omega)]; exact z_set_eq _ _ _
    · show fits .byte (.int (if 0 ≤ j ∧ j < 0 + cap then g (0 + (j - 0)) else 0)) = true
      split
      · exact s3 _
      · rfl
    · have e9 : va_cpy g (fun _ => 0) 0 0 cap j = g j := (if_pos ⟨by omega, by omega⟩).trans (by congr 1; omega)
      rw [e9]; exact s4 j hj
    · rw [hF1.2 _ (by omega), z_set_ne _ _ (by omega)]; exact if_neg (by omega)
end ZSb
