/-! The model's lines. -/
def z_Ln (m : z_MV) (l : List Nat) : Prop := l.length ≤ 40 ∧ m.1 15 = nI l.length ∧ ∀ i, i < l.length → m.2 7 i = nI (l.getD i 0) ∧ l.getD i 0 < 128
def z_onL (m m' : z_MV) : Prop := (∀ i, i ≠ 15 → m'.1 i = m.1 i) ∧ ∀ j, j ≠ 7 → m'.2 j = m.2 j
theorem z_onL.trans {m m1 m2 : z_MV} (x : z_onL m m1) (y : z_onL m1 m2) : z_onL m m2 := ⟨fun i hi => (y.1 i hi).trans (x.1 i hi), fun j hj => (y.2 j hj).trans (x.2 j hj)⟩
theorem z_i2cN {n : Nat} (h : n < 65536) : ((nI n).toUInt32 % 65536).toInt32 = nI n := by
  rw [pk_char, pk_tn (by omega), Nat.mod_eq_of_lt h]
theorem z_dgs_len (k : Nat) : (z_dgs k).length ≤ 2 := by
  unfold z_dgs
  split <;> simp
section ZLn
variable {G : z_G} {h : z_H} {Q : z_O → z_H → Prop} {a : Nat} {m : z_MV} {x : z_PV} {v : z_HV} {l : List Nat}
theorem cM_writes {n : Nat} (hM : z_Mo h a m) (hL : z_Ln m l) (hn : n < 128) (hl : l.length < 40) (q : ∀ h' m', z_Mo h' a m' → z_Ln m' (l ++ [n]) → z_onL m m' → z_Fr a 9 h h' → Q (.inl none) h') : z_W G 0 0 0 247 0 (z_L0 247 [.ref a, .int (nI n)]) [] h Q := by
  obtain ⟨h1, h2, h3⟩ := hL
  have ec : vp_nar .char (nI n) = nI n := Value.int.inj (pk_charN (q := n) (by omega)).1
  refine z_aload_n rfl rfl ?_
  refine z_get rfl hM.1 rfl ?_
  refine z_aload_n rfl rfl ?_
  refine z_get rfl hM.1 rfl ?_
  rw [h2]
  refine z_iload_n rfl rfl ?_
  refine z_i2c rfl ?_
  rw [z_i2cN (by omega)]
  refine z_cstM (j := 7) rfl hM (by decide) (k := l.length) rfl (show l.length < 40 from hl) (fun h1 hC1 hF1 => ?_)
  refine z_aload_n rfl rfl ?_
  refine z_dup rfl rfl ?_
  refine z_get rfl hC1.1 rfl ?_
  refine z_iconst (v := 1) rfl (by decide) ?_
  refine z_iadd rfl ?_
  rw [show (z_mF m 7 (upd (m.2 7) l.length (vp_nar .char (nI n)))).1 15 + 1 = nI (l.length + 1) from by show m.1 15 + 1 = _; rw [h2, nI_1]]
  refine z_putM rfl hC1 (by decide) rfl rfl (fun h2 hC2 hF2 => ?_)
  refine z_vret rfl rfl ?_
  refine q _ _ hC2 ⟨?_, ?_, fun i hi => ?_⟩ ⟨fun i hi => if_neg hi, fun j hj => if_neg hj⟩ (hF1.trans hF2)
  · rw [List.length_append]; show l.length + 1 ≤ 40; omega
  · show nI (l.length + 1) = nI (l ++ [n]).length; rw [List.length_append]; rfl
  · rw [List.length_append] at hi
    have hi2 : i < l.length + 1 := hi
    show upd (m.2 7) l.length (vp_nar .char (nI n)) i = nI ((l ++ [n]).getD i 0) ∧ (l ++ [n]).getD i 0 < 128
    rw [z_getD_app]
    unfold upd
    by_cases e : i = l.length
    · rw [if_pos e, if_neg (by omega), if_pos e, ec]; exact ⟨rfl, hn⟩
    · rw [if_neg e, if_pos (by omega)]; exact h3 i (by omega)
theorem cM_writesBehind {s k : Nat} (hM : z_Mo h a m) (hL : z_Ln m l) (hs : s < 128) (hk : k < 100) (hl : l.length + 3 ≤ 40) (q : ∀ h' m', z_Mo h' a m' → z_Ln m' (l ++ [s] ++ z_dgs k) → z_onL m m' → z_Fr a 9 h h' → Q (.inl none) h') : z_W G 1 0 0 248 0 (z_L0 248 [.ref a, .int (nI s), .int (nI k)]) [] h Q := by
  have e1 : (l ++ [s]).length = l.length + 1 := List.length_append
  have ed : nI k / 10 = nI (k / 10) := pk_div (d := 10) (by omega) (by decide) (by decide)
  have er : nI k - nI k / 10 * 10 = nI (k % 10) := pk_rem (d := 10) (by omega) (by decide) (by decide)
  have ea : ∀ n, (48 : Int32) + nI n = nI (48 + n) := fun n => nI_add 48 n
  by_cases c : k < 10
  · have eg : z_dgs k = [48 + k % 10] := by unfold z_dgs; rw [if_pos c, Nat.mod_eq_of_lt c]
    rw [eg] at q
    refine z_aload_n rfl rfl ?_
    refine z_iload_n rfl rfl ?_
    refine z_callV (av := [_]) rfl z_w247 hM.1 rfl rfl rfl rfl rfl (Nat.le_of_ble_eq_true rfl) (Nat.le_of_ble_eq_true rfl) (Nat.le_of_ble_eq_true rfl) (Nat.le_of_ble_eq_true rfl) (cM_writes hM hL hs (by omega) (fun h1 m1 hM1 hL1 o1 hF1 => ?_))
    refine z_iload_n rfl rfl ?_
    refine z_bipush (v := 9) rfl (by decide) ?_
    refine z_icmp_le rfl (fun c8 => ?_) (fun c8 => absurd ((nI_leI (b := 9) (by omega) (by decide)).mpr (by omega)) c8)
    refine z_aload_n rfl rfl ?_
    refine z_bipush (v := 48) rfl (by decide) ?_
    refine z_iload_n rfl rfl ?_
    refine z_bipush (v := 10) rfl (by decide) ?_
    refine z_irem rfl (by decide) ?_
    refine z_iadd rfl ?_
    rw [er, ea]
    refine z_callV (av := [_]) rfl z_w247 hM1.1 rfl rfl rfl rfl rfl (Nat.le_of_ble_eq_true rfl) (Nat.le_of_ble_eq_true rfl) (Nat.le_of_ble_eq_true rfl) (Nat.le_of_ble_eq_true rfl) (cM_writes hM1 hL1 (n := 48 + k % 10) (by omega) (by omega) (fun h2 m2 hM2 hL2 o2 hF2 => ?_))
    refine z_vret rfl rfl ?_
    exact q _ _ hM2 hL2 (o1.trans o2) (hF1.trans hF2)
  · have eg : z_dgs k = [48 + k / 10] ++ [48 + k % 10] := by unfold z_dgs; rw [if_neg c]; rfl
    rw [eg, ← List.append_assoc] at q
    refine z_aload_n rfl rfl ?_
    refine z_iload_n rfl rfl ?_
    refine z_callV (av := [_]) rfl z_w247 hM.1 rfl rfl rfl rfl rfl (Nat.le_of_ble_eq_true rfl) (Nat.le_of_ble_eq_true rfl) (Nat.le_of_ble_eq_true rfl) (Nat.le_of_ble_eq_true rfl) (cM_writes hM hL hs (by omega) (fun h1 m1 hM1 hL1 o1 hF1 => ?_))
    refine z_iload_n rfl rfl ?_
    refine z_bipush (v := 9) rfl (by decide) ?_
    refine z_icmp_le rfl (fun c8 => absurd c8 (fun q9 => absurd ((nI_leI (b := 9) (by omega) (by decide)).mp q9) (by omega))) (fun c8 => ?_)
    refine z_aload_n rfl rfl ?_
    refine z_bipush (v := 48) rfl (by decide) ?_
    refine z_iload_n rfl rfl ?_
    refine z_bipush (v := 10) rfl (by decide) ?_
    refine z_idiv rfl (by decide) ?_
    refine z_iadd rfl ?_
    rw [ed, ea]
    refine z_callV (av := [_]) rfl z_w247 hM1.1 rfl rfl rfl rfl rfl (Nat.le_of_ble_eq_true rfl) (Nat.le_of_ble_eq_true rfl) (Nat.le_of_ble_eq_true rfl) (Nat.le_of_ble_eq_true rfl) (cM_writes hM1 hL1 (n := 48 + k / 10) (by omega) (by omega) (fun h2 m2 hM2 hL2 o2 hF2 => ?_))
    refine z_aload_n rfl rfl ?_
    refine z_bipush (v := 48) rfl (by decide) ?_
    refine z_iload_n rfl rfl ?_
    refine z_bipush (v := 10) rfl (by decide) ?_
    refine z_irem rfl (by decide) ?_
    refine z_iadd rfl ?_
    rw [er, ea]
    refine z_callV (av := [_]) rfl z_w247 hM2.1 rfl rfl rfl rfl rfl (Nat.le_of_ble_eq_true rfl) (Nat.le_of_ble_eq_true rfl) (Nat.le_of_ble_eq_true rfl) (Nat.le_of_ble_eq_true rfl) (cM_writes hM2 hL2 (n := 48 + k % 10) (by omega) (by rw [List.length_append]; show (l ++ [s]).length + 1 < 40; omega) (fun h3 m3 hM3 hL3 o3 hF3 => ?_))
    refine z_vret rfl rfl ?_
    exact q _ _ hM3 hL3 (o1.trans (o2.trans o3)) (hF1.trans (hF2.trans hF3))
theorem z_Rel.line {m m' : z_MV} (hR : z_Rel x m) (hL : z_Ln m' l) (h1 : ∀ i, i ≠ 15 → i ≠ 16 → m'.1 i = m.1 i) (h2 : ∀ j, j ≠ 7 → m'.2 j = m.2 j) : z_Rel (z_setL x l) m' := by
  obtain ⟨⟨a1, a2⟩, ⟨b1, b2⟩, ⟨c1, c2, c3⟩, ⟨t1, t2, t3, t4⟩, u, ⟨k1, k2⟩, ⟨z1, z2⟩, w⟩ := hR
  refine ⟨⟨a1, by rw [h2 1 (by omega)]; exact a2⟩, ⟨(h1 6 (by omega) (by omega)).trans b1, fun e => by rw [h2 5 (by omega)]; exact b2 e⟩, ⟨c1, (h1 4 (by omega) (by omega)).trans c2, fun t ht => by rw [h2 4 (by omega)]; exact c3 t ht⟩, ⟨t1, (h1 8 (by omega) (by omega)).trans t2, fun i hi => by rw [h2 6 (by omega)]; exact t3 i hi, t4⟩, hL, ⟨(h1 10 (by omega) (by omega)).trans k1, (h1 11 (by omega) (by omega)).trans k2⟩, ⟨(h1 12 (by omega) (by omega)).trans z1, (h1 13 (by omega) (by omega)).trans z2⟩, (h1 9 (by omega) (by omega)).trans w⟩
theorem z_Ln.nil (m : z_MV) : z_Ln (z_mS m 15 0) [] := ⟨Nat.zero_le _, rfl, fun i hi => absurd hi (Nat.not_lt_zero _)⟩
theorem z_Ln.th {m : z_MV} (h : z_Ln m l) (t : Int32) : z_Ln (z_mS m 16 t) l := h
end ZLn
