/-! ClockParliament$History. -/
def z_Hy (h : z_H) (a k : Nat) (H : Nat → z_HV) : Prop := ∃ (o : Nat) (P : Nat → z_HV) (f : Nat → Option Nat), h.2 a = some (.inr (2, [.ref (a + 1), .int (nI o), .int (nI k)])) ∧ h.2 (a + 1) = some (.inl (5, 8, .inr (.inr (.inr (.inr f))))) ∧ (∀ i, i < 8 → f i = some (a + 2 + 25 * i)) ∧ (∀ i, i < 8 → z_Hs h (a + 2 + 25 * i) (P i)) ∧ o < 8 ∧ k ≤ 8 ∧ ∀ t, t < k → P ((o + t) % 8) = H t
theorem z_Hy.kept {h h' : z_H} {a k b m : Nat} {H : Nat → z_HV} (hY : z_Hy h a k H) (hF : z_Fr b m h h') (hd : a + 202 ≤ b ∨ b + m ≤ a) : z_Hy h' a k H := by
  obtain ⟨o, P, f, y1, y2, y3, y4, y5, y6, y7⟩ := hY
  exact ⟨o, P, f, (hF.2 a (by omega)).trans y1, (hF.2 _ (by omega)).trans y2, y3, fun i hi => (y4 i hi).kept hF (by omega), y5, y6, y7⟩
def z_kpK (k : Nat) : Nat := if k < 8 then k + 1 else 8
def z_kpH (k : Nat) (H : Nat → z_HV) (v : z_HV) : Nat → z_HV := if k < 8 then fun t => if t = k then v else H t else fun t => if t = 7 then v else H (t + 1)
theorem z_fm : ∀ A, A < 16 → 0 ≤ nI A ^^^ 8 := by decide +kernel
section ZHy
variable {G : z_G} {h : z_H} {Q : z_O → z_H → Prop} {a b k : Nat} {v : z_HV} {H : Nat → z_HV}
theorem c_floorMod {A : Nat} (hA : A < 16) (q : Q (.inl (some (.int (nI (A % 8))))) h) : z_W G 0 0 0 321 0 (z_L0 321 [.int (nI A), .int 8]) [] h Q := by
  have e : nI A - nI A / 8 * 8 = nI (A % 8) := pk_rem (d := 8) (by omega) (by decide) (by decide)
  refine z_iload_n rfl rfl ?_
  refine z_iload_n rfl rfl ?_
  refine z_irem rfl (by decide) ?_
  refine z_istore_n rfl (by decide +kernel) rfl ?_
  refine z_iload_n rfl rfl ?_
  refine z_iload_n rfl rfl ?_
  refine z_ixor rfl ?_
  refine z_if_ge rfl (fun c7 => ?_) (fun c7 => absurd (z_fm A hA) c7)
  refine z_iload_n rfl rfl ?_
  refine z_iret rfl rfl ?_
  rw [e]; exact q
theorem cY_place {o : Nat} (hY : h.2 a = some (.inr (2, [.ref (a + 1), .int (nI o), .int (nI k)]))) (ho : o < 8) (hk : 0 < k ∧ k ≤ 8) (q : Q (.inl (some (.int (nI ((o + k - 1) % 8))))) h) : z_W G 1 0 0 88 0 (z_L0 88 [.ref a]) [] h Q := by
  have e : nI o + nI k - 1 = nI (o + k - 1) := by
    obtain ⟨n, hn⟩ : ∃ n, o + k = n + 1 := ⟨o + k - 1, by omega⟩
    rw [nI_add, hn, nI_pred]; rfl
  refine z_aload_n rfl rfl ?_
  refine z_get rfl hY rfl ?_
  refine z_aload_n rfl rfl ?_
  refine z_get rfl hY rfl ?_
  refine z_iadd rfl ?_
  refine z_iconst (v := 1) rfl (by decide) ?_
  refine z_isub rfl ?_
  rw [e]
  refine z_bipush (v := 8) rfl (by decide) ?_
  refine z_callS (av := [_, _]) rfl z_w321 rfl rfl rfl rfl (Nat.le_of_ble_eq_true rfl) (Nat.le_of_ble_eq_true rfl) (Nat.le_of_ble_eq_true rfl) (Nat.le_of_ble_eq_true rfl) (c_floorMod (by omega) ?_)
  refine z_iret rfl rfl ?_
  exact q
theorem cY_clear (hY : z_Hy h a k H) (q : ∀ h', (∀ H', z_Hy h' a 0 H') → z_Fr a 202 h h' → Q (.inl none) h') : z_W G 0 0 0 87 0 (z_L0 87 [.ref a]) [] h Q := by
  obtain ⟨o, P, f, y1, y2, y3, y4, y5, y6, y7⟩ := hY
  refine z_aload_n rfl rfl ?_
  refine z_iconst (v := 0) rfl (by decide) ?_
  refine z_putC rfl y1 (by simp) rfl rfl rfl (fun h1 hC1 hF1 => ?_)
  refine z_vret rfl rfl ?_
  exact q _ (fun H' => ⟨o, P, f, hC1, (hF1.2 _ (by omega)).trans y2, y3, fun i hi => (y4 i hi).kept hF1 (by omega), y5, by omega, fun t ht => absurd ht (by omega)⟩) (hF1.wide (by omega) (by omega))
theorem cY_keep (hY : z_Hy h a k H) (hH : z_Hs h b v) (hd : b + 25 ≤ a ∨ a + 202 ≤ b) (q : ∀ h', z_Hy h' a (z_kpK k) (z_kpH k H v) → z_Fr a 202 h h' → Q (.inl none) h') : z_W G 4 0 0 85 0 (z_L0 85 [.ref a, .ref b]) [] h Q := by
  obtain ⟨o, P, f, y1, y2, y3, y4, y5, y6, y7⟩ := hY
  by_cases hk : k < 8
  · unfold z_kpK z_kpH at q
    rw [if_pos hk, if_pos hk] at q
    refine z_aload_n rfl rfl ?_
    refine z_get rfl y1 rfl ?_
    refine z_bipush (v := 8) rfl (by decide) ?_
    refine z_icmp_ge rfl (fun c6 => absurd c6 (show ¬ (8 : Int32) ≤ nI k from fun e9 => absurd ((nI_leI (a := 8) (by decide) (by omega)).mp e9) (by omega))) (fun c6 => ?_)
    refine z_aload_n rfl rfl ?_
    refine z_dup rfl rfl ?_
    refine z_get rfl y1 rfl ?_
    refine z_iconst (v := 1) rfl (by decide) ?_
    refine z_iadd rfl ?_
    rw [nI_1]
    refine z_putC rfl y1 (by simp) rfl rfl rfl (fun h1 hC1 hF1 => ?_)
    have kH1 := hH.kept hF1 (by omega)
    refine z_goto rfl ?_
    refine z_aload_n rfl rfl ?_
    refine z_get rfl hC1 rfl ?_
    refine z_aload_n rfl rfl ?_
    refine z_callV (av := []) rfl z_w88 hC1 rfl rfl rfl rfl rfl (Nat.le_of_ble_eq_true rfl) (Nat.le_of_ble_eq_true rfl) (Nat.le_of_ble_eq_true rfl) (Nat.le_of_ble_eq_true rfl) (cY_place hC1 y5 ⟨by omega, by omega⟩ ?_)
    refine z_aald rfl ((hF1.2 (a + 1) (by omega)).trans y2) (vp_in_nI (Nat.mod_lt _ (by decide)) (by decide)) (by rw [nI_clamp (by omega)]; exact y3 _ (Nat.mod_lt _ (by decide))) ?_
    refine z_aload_n rfl rfl ?_
    refine z_callV (av := [_]) rfl z_w65 ((y4 ((o + (k + 1) - 1) % 8) (Nat.mod_lt _ (by decide))).kept hF1 (by omega)).1 rfl rfl rfl rfl rfl (Nat.le_of_ble_eq_true rfl) (Nat.le_of_ble_eq_true rfl) (Nat.le_of_ble_eq_true rfl) (Nat.le_of_ble_eq_true rfl) (cH_copyFrom ((y4 ((o + (k + 1) - 1) % 8) (Nat.mod_lt _ (by decide))).kept hF1 (by omega)) kH1 (by omega) (fun h9 hC9 hF9 => ?_))
    refine z_vret rfl rfl ?_
    refine q _ ⟨o, fun i => if i = (o + (k + 1) - 1) % 8 then v else P i, f, (hF9.2 a (by omega)).trans hC1, (hF9.2 (a + 1) (by omega)).trans ((hF1.2 (a + 1) (by omega)).trans y2), y3, fun i hi => ?_, y5, by omega, fun t ht => ?_⟩ ((hF1.wide (by omega) (by omega)).trans (hF9.wide (by omega) (by omega)))
    · show z_Hs _ _ (if i = (o + (k + 1) - 1) % 8 then v else P i)
      by_cases e : i = (o + (k + 1) - 1) % 8
      · rw [if_pos e]; rw [e]; exact hC9
      · rw [if_neg e]; exact ((y4 i hi).kept hF1 (by omega)).kept hF9 (by omega)
    · show (if (o + t) % 8 = (o + (k + 1) - 1) % 8 then v else P ((o + t) % 8)) = if t = k then v else H t
      by_cases e : t = k
      · rw [if_pos e, if_pos (by omega)]
      · rw [if_neg e, if_neg (by omega)]; exact y7 t (by omega)
  · unfold z_kpK z_kpH at q
    rw [if_neg hk, if_neg hk] at q
    obtain rfl : k = 8 := by omega
    refine z_aload_n rfl rfl ?_
    refine z_get rfl y1 rfl ?_
    refine z_bipush (v := 8) rfl (by decide) ?_
    refine z_icmp_ge rfl (fun c6 => ?_) (fun c6 => absurd (show (8 : Int32) ≤ nI 8 from by decide) c6)
    refine z_aload_n rfl rfl ?_
    refine z_aload_n rfl rfl ?_
    refine z_get rfl y1 rfl ?_
    refine z_iconst (v := 1) rfl (by decide) ?_
    refine z_iadd rfl ?_
    rw [nI_1]
    refine z_bipush (v := 8) rfl (by decide) ?_
    refine z_irem rfl (by decide) ?_
    rw [show nI (o + 1) - nI (o + 1) / 8 * 8 = nI ((o + 1) % 8) from pk_rem (d := 8) (by omega) (by decide) (by decide)]
    refine z_putC rfl y1 (by simp) rfl rfl rfl (fun h1 hC1 hF1 => ?_)
    have kH1 := hH.kept hF1 (by omega)
    refine z_aload_n rfl rfl ?_
    refine z_get rfl hC1 rfl ?_
    refine z_aload_n rfl rfl ?_
    refine z_callV (av := []) rfl z_w88 hC1 rfl rfl rfl rfl rfl (Nat.le_of_ble_eq_true rfl) (Nat.le_of_ble_eq_true rfl) (Nat.le_of_ble_eq_true rfl) (Nat.le_of_ble_eq_true rfl) (cY_place hC1 (Nat.mod_lt _ (by decide)) ⟨by omega, by omega⟩ ?_)
    refine z_aald rfl ((hF1.2 (a + 1) (by omega)).trans y2) (vp_in_nI (Nat.mod_lt _ (by decide)) (by decide)) (by rw [nI_clamp (by omega)]; exact y3 _ (Nat.mod_lt _ (by decide))) ?_
    refine z_aload_n rfl rfl ?_
    refine z_callV (av := [_]) rfl z_w65 ((y4 (((o + 1) % 8 + 8 - 1) % 8) (Nat.mod_lt _ (by decide))).kept hF1 (by omega)).1 rfl rfl rfl rfl rfl (Nat.le_of_ble_eq_true rfl) (Nat.le_of_ble_eq_true rfl) (Nat.le_of_ble_eq_true rfl) (Nat.le_of_ble_eq_true rfl) (cH_copyFrom ((y4 (((o + 1) % 8 + 8 - 1) % 8) (Nat.mod_lt _ (by decide))).kept hF1 (by omega)) kH1 (by omega) (fun h9 hC9 hF9 => ?_))
    refine z_vret rfl rfl ?_
    refine q _ ⟨(o + 1) % 8, fun i => if i = ((o + 1) % 8 + 8 - 1) % 8 then v else P i, f, (hF9.2 a (by omega)).trans hC1, (hF9.2 (a + 1) (by omega)).trans ((hF1.2 (a + 1) (by omega)).trans y2), y3, fun i hi => ?_, by omega, by omega, fun t ht => ?_⟩ ((hF1.wide (by omega) (by omega)).trans (hF9.wide (by omega) (by omega)))
    · show z_Hs _ _ (if i = ((o + 1) % 8 + 8 - 1) % 8 then v else P i)
      by_cases e : i = ((o + 1) % 8 + 8 - 1) % 8
      · rw [if_pos e]; rw [e]; exact hC9
      · rw [if_neg e]; exact ((y4 i hi).kept hF1 (by omega)).kept hF9 (by omega)
    · show (if ((o + 1) % 8 + t) % 8 = ((o + 1) % 8 + 8 - 1) % 8 then v else P (((o + 1) % 8 + t) % 8)) = if t = 7 then v else H (t + 1)
      by_cases e : t = 7
      · rw [if_pos e, if_pos (by omega)]
      · rw [if_neg e, if_neg (by omega), show ((o + 1) % 8 + t) % 8 = (o + (t + 1)) % 8 by omega]; exact y7 (t + 1) (by omega)
theorem cY_giveBack (hk : 0 < k) (hY : z_Hy h a k H) (hH : z_Hs h b v) (hd : b + 25 ≤ a ∨ a + 202 ≤ b) (q : ∀ h1 h', z_Hs h' b (H (k - 1)) → z_Hy h' a (k - 1) H → z_Fr b 25 h h1 → z_Fr a 202 h1 h' → Q (.inl (some (.int (nI (k - 1))))) h') : z_W G 4 0 0 86 0 (z_L0 86 [.ref a, .ref b]) [] h Q := by
  obtain ⟨o, P, f, y1, y2, y3, y4, y5, y6, y7⟩ := hY
  obtain ⟨n, rfl⟩ : ∃ n, k = n + 1 := ⟨k - 1, by omega⟩
  refine z_aload_n rfl rfl ?_
  refine z_get rfl y1 rfl ?_
  refine z_if_le rfl (fun c4 => absurd c4 (nI_nle (by omega) (by omega))) (fun c4 => ?_)
  refine z_aload_n rfl rfl ?_
  refine z_aload_n rfl rfl ?_
  refine z_get rfl y1 rfl ?_
  refine z_aload_n rfl rfl ?_
  refine z_callV (av := []) rfl z_w88 y1 rfl rfl rfl rfl rfl (Nat.le_of_ble_eq_true rfl) (Nat.le_of_ble_eq_true rfl) (Nat.le_of_ble_eq_true rfl) (Nat.le_of_ble_eq_true rfl) (cY_place y1 y5 ⟨by omega, by omega⟩ ?_)
  refine z_aald rfl y2 (vp_in_nI (Nat.mod_lt _ (by decide)) (by decide)) (by rw [nI_clamp (by omega)]; exact y3 _ (Nat.mod_lt _ (by decide))) ?_
  refine z_callV (av := [_]) rfl z_w65 hH.1 rfl rfl rfl rfl rfl (Nat.le_of_ble_eq_true rfl) (Nat.le_of_ble_eq_true rfl) (Nat.le_of_ble_eq_true rfl) (Nat.le_of_ble_eq_true rfl) (cH_copyFrom hH (y4 ((o + (n + 1) - 1) % 8) (Nat.mod_lt _ (by decide))) (by omega) (fun h9 hC9 hF9 => ?_))
  have y1' := (hF9.2 a (by omega)).trans y1
  rw [show (o + (n + 1) - 1) % 8 = (o + n) % 8 by omega, y7 n (by omega)] at hC9
  refine z_aload_n rfl rfl ?_
  refine z_dup rfl rfl ?_
  refine z_get rfl y1' rfl ?_
  refine z_iconst (v := 1) rfl (by decide) ?_
  refine z_isub rfl ?_
  rw [nI_pred]
  refine z_putC rfl y1' (by simp) rfl rfl rfl (fun h1 hC1 hF1 => ?_)
  have kH1 := hC9.kept hF1 (by omega)
  refine z_aload_n rfl rfl ?_
  refine z_get rfl hC1 rfl ?_
  refine z_iret rfl rfl ?_
  exact q _ _ kH1 ⟨o, P, f, hC1, (hF1.2 (a + 1) (by omega)).trans ((hF9.2 _ (by omega)).trans y2), y3, fun i hi => ((y4 i hi).kept hF9 (by omega)).kept hF1 (by omega), y5, by omega, fun t ht => y7 t (by omega)⟩ hF9 (hF1.wide (by omega) (by omega))
end ZHy
