/-! The model's reading of a text. -/
def z_In (m : z_MV) (l : List Nat) : Prop := z_inp l ∧ m.1 8 = nI l.length ∧ ∀ i, i < l.length → m.2 6 i = nI (l.getD i 0)
def z_hr (l : List Nat) (p : Nat) : Int32 := if p < l.length then nI (z_here l p) else -1
/-- where the reading stands -/
def z_Pm (m : z_MV) (l : List Nat) (s : z_PR) : Prop := z_In m l ∧ m.1 17 = nI s.2.1 ∧ m.1 18 = z_I (!s.1) ∧ s.2.1 ≤ l.length
def z_bd (s : z_PR) (f : Nat → z_OV → z_PR) : z_PR := if s.1 = true then f s.2.1 s.2.2 else s
/-- only the reader has changed -/
def z_onR (m m' : z_MV) : Prop := (∀ i, i ≠ 17 → i ≠ 18 → m'.1 i = m.1 i) ∧ m'.2 = m.2
theorem z_onR.trans {m m1 m2 : z_MV} (x : z_onR m m1) (y : z_onR m1 m2) : z_onR m m2 := ⟨fun i h1 h2 => (y.1 i h1 h2).trans (x.1 i h1 h2), y.2.trans x.2⟩
theorem z_In.on {m m' : z_MV} {l : List Nat} (h : z_In m l) (o : z_onR m m') : z_In m' l := ⟨h.1, (o.1 8 (by decide) (by decide)).trans h.2.1, fun i hi => by rw [o.2]; exact h.2.2 i hi⟩
theorem z_hrE {l : List Nat} {p c : Nat} (hl : z_inp l) (hc : 0 < c) (hc2 : c < 1000) : z_hr l p = nI c ↔ z_here l p = c := by
  unfold z_hr
  by_cases h : p < l.length
  · rw [if_pos h]
    have := (z_hereIn hl h).2
    exact nI_eq (by omega) (by omega)
  · rw [if_neg h, z_here0 (by omega)]
    exact ⟨fun e => absurd e.symm (z_nm1 hc2), fun e => by omega⟩
theorem z_hrD {l : List Nat} {p : Nat} (hl : z_inp l) : (z_inR (z_hr l p) 48 57 = true ↔ 48 ≤ z_here l p ∧ z_here l p ≤ 57) := by
  unfold z_hr z_inR
  by_cases h : p < l.length
  · rw [if_pos h, Bool.and_eq_true, decide_eq_true_eq, decide_eq_true_eq]
    have := (z_hereIn hl h).2
    rw [show ((48 : Int32) ≤ nI (z_here l p) ↔ 48 ≤ z_here l p) from nI_leI (a := 48) (by decide) (by omega), show (nI (z_here l p) ≤ 57 ↔ z_here l p ≤ 57) from nI_leI (b := 57) (by omega) (by decide)]
  · rw [if_neg h, z_here0 (by omega)]
    exact ⟨fun e => absurd e (by decide), fun e => by omega⟩
section ZPr
variable {G : z_G} {h : z_H} {Q : z_O → z_H → Prop} {a : Nat} {m : z_MV} {l : List Nat} {s : z_PR}
theorem cM_here {p : Nat} (hM : z_Mo h a m) (hI : z_In m l) (hp : m.1 17 = nI p) (hp9 : p < 1000) (q : Q (.inl (some (.int (z_hr l p)))) h) : z_W G 0 0 0 235 0 (z_L0 235 [.ref a]) [] h Q := by
  have h60 := hI.1.1
  unfold z_hr at q
  by_cases c : p < l.length
  · rw [if_pos c] at q
    refine z_aload_n rfl rfl ?_
    refine z_get rfl hM.1 rfl ?_
    rw [hp]
    refine z_aload_n rfl rfl ?_
    refine z_get rfl hM.1 rfl ?_
    rw [hI.2.1]
    refine z_icmp_ge rfl (fun c8 => absurd c8 (fun q9 => absurd ((nI_leI (by omega) (by omega)).mp q9) (by omega))) (fun c8 => ?_)
    refine z_aload_n rfl rfl ?_
    refine z_get rfl hM.1 rfl ?_
    refine z_aload_n rfl rfl ?_
    refine z_get rfl hM.1 rfl ?_
    rw [hp]
    refine z_cldE rfl (hM.2 6 (by decide)) (k := p) rfl (show p < 60 by omega) ?_
    refine z_goto rfl ?_
    refine z_iret rfl rfl ?_
    rw [hI.2.2 p c]; exact q
  · rw [if_neg c] at q
    refine z_aload_n rfl rfl ?_
    refine z_get rfl hM.1 rfl ?_
    rw [hp]
    refine z_aload_n rfl rfl ?_
    refine z_get rfl hM.1 rfl ?_
    rw [hI.2.1]
    refine z_icmp_ge rfl (fun c8 => ?_) (fun c8 => absurd ((nI_leI (by omega) (by omega)).mpr (by omega)) c8)
    refine z_iconst (v := (-1)) rfl (by decide) ?_
    refine z_iret rfl rfl ?_
    exact q
theorem cM_needs {c : Nat} (hc : 0 < c) (hc2 : c < 127) (hM : z_Mo h a m) (hP : z_Pm m l s) (q : ∀ h' m', z_Mo h' a m' → z_Pm m' l (z_bd s (z_skp l c)) → z_onR m m' → z_Fr a 9 h h' → Q (.inl none) h') : z_W G 1 0 0 236 0 (z_L0 236 [.ref a, .int (nI c)]) [] h Q := by
  obtain ⟨ok, p, o⟩ := s
  obtain ⟨hI, h17, h18, hp⟩ := hP
  have h60 := hI.1.1
  have hp : p ≤ l.length := hp
  have h17 : m.1 17 = nI p := h17
  cases ok with
  | false =>
    have h18 : m.1 18 = 1 := h18
    refine z_aload_n rfl rfl ?_
    refine z_aload_n rfl rfl ?_
    refine z_get rfl hM.1 rfl ?_
    rw [h18]
    refine z_if_ne rfl (fun c5 => ?_) (fun c5 => absurd c5 (by decide))
    refine z_iconst (v := 1) rfl (by decide) ?_
    refine z_goto rfl ?_
    refine z_putM rfl hM (by decide) rfl rfl (fun h1 hC1 hF1 => ?_)
    refine z_aload_n rfl rfl ?_
    refine z_dup rfl rfl ?_
    refine z_get rfl hC1.1 rfl ?_
    refine z_aload_n rfl rfl ?_
    refine z_get rfl hC1.1 rfl ?_
    refine z_if_eq rfl (fun c33 => absurd c33 (show ¬ (1 : Int32) = 0 by decide)) (fun c33 => ?_)
    refine z_iconst (v := 0) rfl (by decide) ?_
    refine z_goto rfl ?_
    refine z_iadd rfl ?_
    rw [show (z_mS m 18 1).1 17 + 0 = nI p from (Int32.add_zero _).trans h17]
    refine z_putM rfl hC1 (by decide) rfl rfl (fun h2 hC2 hF2 => ?_)
    refine z_vret rfl rfl ?_
    refine q _ _ hC2 ⟨hI.on ⟨fun i h1 h2 => ?_, rfl⟩, rfl, rfl, hp⟩ ⟨fun i h1 h2 => ?_, rfl⟩ (hF1.trans hF2)
    · exact (if_neg h1).trans (if_neg h2)
    · exact (if_neg h1).trans (if_neg h2)
  | true =>
    have h18 : m.1 18 = 0 := h18
    by_cases e : z_here l p = c
    · have hlt : p < l.length := z_hereP (by omega)
      have eb : z_bd (true, p, o) (z_skp l c) = (true, p + 1, o) := by
        unfold z_bd z_skp
        rw [if_pos rfl, if_pos e]
      rw [eb] at q
      refine z_aload_n rfl rfl ?_
      refine z_aload_n rfl rfl ?_
      refine z_get rfl hM.1 rfl ?_
      rw [h18]
      refine z_if_ne rfl (fun c5 => absurd rfl c5) (fun c5 => ?_)
      refine z_aload_n rfl rfl ?_
      refine z_callV (av := []) rfl z_w235 hM.1 rfl rfl rfl rfl rfl (Nat.le_of_ble_eq_true rfl) (Nat.le_of_ble_eq_true rfl) (Nat.le_of_ble_eq_true rfl) (Nat.le_of_ble_eq_true rfl) (cM_here hM hI h17 (by omega) ?_)
      refine z_iload_n rfl rfl ?_
      refine z_icmp_eq rfl (fun c13 => ?_) (fun c13 => absurd ((z_hrE hI.1 hc (by omega)).mpr e) c13)
      refine z_iconst (v := 0) rfl (by decide) ?_
      refine z_putM rfl hM (by decide) rfl rfl (fun h1 hC1 hF1 => ?_)
      refine z_aload_n rfl rfl ?_
      refine z_dup rfl rfl ?_
      refine z_get rfl hC1.1 rfl ?_
      refine z_aload_n rfl rfl ?_
      refine z_get rfl hC1.1 rfl ?_
      refine z_if_eq rfl (fun c33 => ?_) (fun c33 => absurd (show (0 : Int32) = 0 from rfl) c33)
      refine z_iconst (v := 1) rfl (by decide) ?_
      refine z_iadd rfl ?_
      rw [show (z_mS m 18 0).1 17 + 1 = nI (p + 1) from by show m.1 17 + 1 = _; rw [h17, nI_1]]
      refine z_putM rfl hC1 (by decide) rfl rfl (fun h2 hC2 hF2 => ?_)
      refine z_vret rfl rfl ?_
      refine q _ _ hC2 ⟨hI.on ⟨fun i h1 h2 => ?_, rfl⟩, rfl, rfl, hlt⟩ ⟨fun i h1 h2 => ?_, rfl⟩ (hF1.trans hF2)
      · exact (if_neg h1).trans (if_neg h2)
      · exact (if_neg h1).trans (if_neg h2)
    · have eb : z_bd (true, p, o) (z_skp l c) = (false, p, o) := by
        unfold z_bd z_skp
        rw [if_pos rfl, if_neg e]
      rw [eb] at q
      refine z_aload_n rfl rfl ?_
      refine z_aload_n rfl rfl ?_
      refine z_get rfl hM.1 rfl ?_
      rw [h18]
      refine z_if_ne rfl (fun c5 => absurd rfl c5) (fun c5 => ?_)
      refine z_aload_n rfl rfl ?_
      refine z_callV (av := []) rfl z_w235 hM.1 rfl rfl rfl rfl rfl (Nat.le_of_ble_eq_true rfl) (Nat.le_of_ble_eq_true rfl) (Nat.le_of_ble_eq_true rfl) (Nat.le_of_ble_eq_true rfl) (cM_here hM hI h17 (by omega) ?_)
      refine z_iload_n rfl rfl ?_
      refine z_icmp_eq rfl (fun c13 => absurd c13 (fun q9 => e ((z_hrE hI.1 hc (by omega)).mp q9))) (fun c13 => ?_)
      refine z_iconst (v := 1) rfl (by decide) ?_
      refine z_goto rfl ?_
      refine z_putM rfl hM (by decide) rfl rfl (fun h1 hC1 hF1 => ?_)
      refine z_aload_n rfl rfl ?_
      refine z_dup rfl rfl ?_
      refine z_get rfl hC1.1 rfl ?_
      refine z_aload_n rfl rfl ?_
      refine z_get rfl hC1.1 rfl ?_
      refine z_if_eq rfl (fun c33 => absurd c33 (show ¬ (1 : Int32) = 0 by decide)) (fun c33 => ?_)
      refine z_iconst (v := 0) rfl (by decide) ?_
      refine z_goto rfl ?_
      refine z_iadd rfl ?_
      rw [show (z_mS m 18 1).1 17 + 0 = nI p from (Int32.add_zero _).trans h17]
      refine z_putM rfl hC1 (by decide) rfl rfl (fun h2 hC2 hF2 => ?_)
      refine z_vret rfl rfl ?_
      refine q _ _ hC2 ⟨hI.on ⟨fun i h1 h2 => ?_, rfl⟩, rfl, rfl, hp⟩ ⟨fun i h1 h2 => ?_, rfl⟩ (hF1.trans hF2)
      · exact (if_neg h1).trans (if_neg h2)
      · exact (if_neg h1).trans (if_neg h2)
theorem cM_needsThree {c d e : Nat} (hc : 0 < c ∧ c < 127) (hd : 0 < d ∧ d < 127) (he : 0 < e ∧ e < 127) (hM : z_Mo h a m) (hP : z_Pm m l s) (q : ∀ h' m', z_Mo h' a m' → z_Pm m' l (z_bd (z_bd (z_bd s (z_skp l c)) (z_skp l d)) (z_skp l e)) → z_onR m m' → z_Fr a 9 h h' → Q (.inl none) h') : z_W G 2 0 0 237 0 (z_L0 237 [.ref a, .int (nI c), .int (nI d), .int (nI e)]) [] h Q := by
  refine z_aload_n rfl rfl ?_
  refine z_iload_n rfl rfl ?_
  refine z_callV (av := [_]) rfl z_w236 hM.1 rfl rfl rfl rfl rfl (Nat.le_of_ble_eq_true rfl) (Nat.le_of_ble_eq_true rfl) (Nat.le_of_ble_eq_true rfl) (Nat.le_of_ble_eq_true rfl) (cM_needs hc.1 hc.2 hM hP (fun h1 m1 hM1 hP1 o1 hF1 => ?_))
  refine z_aload_n rfl rfl ?_
  refine z_iload_n rfl rfl ?_
  refine z_callV (av := [_]) rfl z_w236 hM1.1 rfl rfl rfl rfl rfl (Nat.le_of_ble_eq_true rfl) (Nat.le_of_ble_eq_true rfl) (Nat.le_of_ble_eq_true rfl) (Nat.le_of_ble_eq_true rfl) (cM_needs hd.1 hd.2 hM1 hP1 (fun h2 m2 hM2 hP2 o2 hF2 => ?_))
  refine z_aload_n rfl rfl ?_
  refine z_iload_n rfl rfl ?_
  refine z_callV (av := [_]) rfl z_w236 hM2.1 rfl rfl rfl rfl rfl (Nat.le_of_ble_eq_true rfl) (Nat.le_of_ble_eq_true rfl) (Nat.le_of_ble_eq_true rfl) (Nat.le_of_ble_eq_true rfl) (cM_needs he.1 he.2 hM2 hP2 (fun h3 m3 hM3 hP3 o3 hF3 => ?_))
  refine z_vret rfl rfl ?_
  exact q _ _ hM3 hP3 (o1.trans (o2.trans o3)) (hF1.trans (hF2.trans hF3))
end ZPr
