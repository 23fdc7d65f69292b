/-! ClockParliament$House: refuses, carryOut, copyFrom; Clocks.clockRanked; History. -/
section ZH3
variable {G : z_G} {h : z_H} {Q : z_O → z_H → Prop} {b w a : Nat} {v : z_HV} {x : Int32 × Int32} {o : z_OV}
theorem cH_copyFrom {o : Nat} {y : z_HV} (hH : z_Hs h b v) (hO : z_Hs h o y) (hd : o + 25 ≤ b ∨ b + 25 ≤ o) (q : ∀ h', z_Hs h' b y → z_Fr b 25 h h' → Q (.inl none) h') : z_W G 3 0 0 65 0 (z_L0 65 [.ref b, .ref o]) [] h Q := by
  refine z_aload_n rfl rfl ?_
  refine z_get rfl hH.1 rfl ?_
  refine z_aload_n rfl rfl ?_
  refine z_get rfl hO.1 rfl ?_
  refine z_callV (av := [_]) rfl z_w47 hH.2.1.1 rfl rfl rfl rfl rfl (Nat.le_of_ble_eq_true rfl) (Nat.le_of_ble_eq_true rfl) (Nat.le_of_ble_eq_true rfl) (Nat.le_of_ble_eq_true rfl) (cC_copyFrom hH.2.1 hO.2.1 (by omega) (fun h1 hC1 hF1 => ?_))
  obtain ⟨hH1, hG1⟩ := z_Hs.cl hH hC1 hF1
  have kO1 := hO.kept hG1 (by omega)
  refine z_aload_n rfl rfl ?_
  refine z_get rfl hH1.1 rfl ?_
  refine z_aload_n rfl rfl ?_
  refine z_get rfl kO1.1 rfl ?_
  refine z_callV (av := [_]) rfl z_w63 hH1.2.2.1 rfl rfl rfl rfl rfl (Nat.le_of_ble_eq_true rfl) (Nat.le_of_ble_eq_true rfl) (Nat.le_of_ble_eq_true rfl) (Nat.le_of_ble_eq_true rfl) (cB_copyFrom hH1.2.2 kO1.2.2 (by omega) (fun h2 hC2 hF2 => ?_))
  obtain ⟨hH2, hG2⟩ := z_Hs.bi hH1 hC2 hF2
  have kO2 := kO1.kept hG2 (by omega)
  refine z_aload_n rfl rfl ?_
  refine z_aload_n rfl rfl ?_
  refine z_get rfl kO2.1 rfl ?_
  refine z_putH rfl hH2 (by decide) (fun h3 hC3 hF3 => ?_)
  have kO3 := kO2.kept hF3 (by omega)
  refine z_aload_n rfl rfl ?_
  refine z_aload_n rfl rfl ?_
  refine z_get rfl kO3.1 rfl ?_
  refine z_putH rfl hC3 (by decide) (fun h4 hC4 hF4 => ?_)
  have kO4 := kO3.kept hF4 (by omega)
  refine z_aload_n rfl rfl ?_
  refine z_aload_n rfl rfl ?_
  refine z_get rfl kO4.1 rfl ?_
  refine z_putH rfl hC4 (by decide) (fun h5 hC5 hF5 => ?_)
  have kO5 := kO4.kept hF5 (by omega)
  refine z_aload_n rfl rfl ?_
  refine z_aload_n rfl rfl ?_
  refine z_get rfl kO5.1 rfl ?_
  refine z_putH rfl hC5 (by decide) (fun h6 hC6 hF6 => ?_)
  have kO6 := kO5.kept hF6 (by omega)
  refine z_aload_n rfl rfl ?_
  refine z_aload_n rfl rfl ?_
  refine z_get rfl kO6.1 rfl ?_
  refine z_putH rfl hC6 (by decide) (fun h7 hC7 hF7 => ?_)
  have kO7 := kO6.kept hF7 (by omega)
  refine z_aload_n rfl rfl ?_
  refine z_aload_n rfl rfl ?_
  refine z_get rfl kO7.1 rfl ?_
  refine z_putH rfl hC7 (by decide) (fun h8 hC8 hF8 => ?_)
  have kO8 := kO7.kept hF8 (by omega)
  refine z_vret rfl rfl ?_
  exact q _ ⟨hC8.1, hC8.2⟩ (((((((hG1.trans hG2).trans hF3).trans hF4).trans hF5).trans hF6).trans hF7).trans hF8)
theorem z_ten {k : Nat} (hk : k < 10) : k = 0 ∨ k = 1 ∨ k = 2 ∨ k = 3 ∨ k = 4 ∨ k = 5 ∨ k = 6 ∨ k = 7 ∨ k = 8 ∨ k = 9 := by omega
theorem cH_refuses (hH : z_Hs h b v) (hO : z_Or h a o) (hW : z_Rf h w x) (hk : o.1 < 10) (hd : w + 1 ≤ b ∨ b + 25 ≤ w) (hd2 : a + 1 ≤ w ∨ w + 1 ≤ a) (qt : ∀ p, z_ref v o = some p → ∀ h', z_Rf h' w p → z_Fr w 1 h h' → Q (.inl (some (.int 1))) h') (qf : z_ref v o = none → Q (.inl (some (.int 0))) h) : z_W G 7 0 0 66 0 (z_L0 66 [.ref b, .ref a, .ref w]) [] h Q := by
  obtain ⟨k, f, s, t, n⟩ := o
  refine z_sw66 (o := (k, f, s, t, n)) hO hk (by omega) ?_
  rcases z_ten (show k < 10 from hk) with rfl | rfl | rfl | rfl | rfl | rfl | rfl | rfl | rfl | rfl
  · refine z_tswI (x := 1) (o := 49) (t := 60) rfl (by decide) (by decide) rfl rfl ?_
    refine z_aload_n rfl rfl ?_
    refine z_aload_n rfl rfl ?_
    refine z_get rfl hO rfl ?_
    refine z_aload_n rfl rfl ?_
    refine z_get rfl hO rfl ?_
    refine z_aload_n rfl rfl ?_
    refine z_callV (av := [_, _, _]) rfl z_w67 hH.1 rfl rfl rfl rfl rfl (Nat.le_of_ble_eq_true rfl) (Nat.le_of_ble_eq_true rfl) (Nat.le_of_ble_eq_true rfl) (Nat.le_of_ble_eq_true rfl) (cH_refusesClock hH hW (by omega) (fun p70 => fun e70 h1 hC1 hF1 => ?_) (fun e70 => ?_))
    · have kH1 := hH.kept hF1 (by omega)
      have kO1 := z_ck hO hF1 (by omega)
      refine z_zret (ty := .boolean) rfl rfl (by first | decide | exact z_nb _) ?_
      exact qt _ e70 _ hC1 hF1
    · refine z_zret (ty := .boolean) rfl rfl (by first | decide | exact z_nb _) ?_
      exact qf e70
  · refine z_tswI (x := 2) (o := 63) (t := 74) rfl (by decide) (by decide) rfl rfl ?_
    refine z_aload_n rfl rfl ?_
    refine z_aload_n rfl rfl ?_
    refine z_get rfl hH.1 rfl ?_
    refine z_aload_n rfl rfl ?_
    refine z_get rfl hO rfl ?_
    refine z_callV (av := [_]) rfl z_w28 hH.2.1.1 rfl rfl rfl rfl rfl (Nat.le_of_ble_eq_true rfl) (Nat.le_of_ble_eq_true rfl) (Nat.le_of_ble_eq_true rfl) (Nat.le_of_ble_eq_true rfl) (cC_has hH.2.1 ?_)
    refine z_aload_n rfl rfl ?_
    refine z_get rfl hO rfl ?_
    refine z_callV (av := [_, _]) rfl z_w20 hW rfl rfl rfl rfl rfl (Nat.le_of_ble_eq_true rfl) (Nat.le_of_ble_eq_true rfl) (Nat.le_of_ble_eq_true rfl) (Nat.le_of_ble_eq_true rfl) (cR_isUnknown hW (z_b01 _) (fun e90 h1 hC1 hF1 => ?_) (fun e90 => ?_))
    · have kH1 := hH.kept hF1 (by omega)
      have kO1 := z_ck hO hF1 (by omega)
      refine z_zret (ty := .boolean) rfl rfl (by first | decide | exact z_nb _) ?_
      exact qt (2, f) (if_pos ((z_bI _).mp e90)) _ hC1 hF1
    · refine z_zret (ty := .boolean) rfl rfl (by first | decide | exact z_nb _) ?_
      exact qf (if_neg (z_bT e90))
  · refine z_tswI (x := 3) (o := 83) (t := 94) rfl (by decide) (by decide) rfl rfl ?_
    refine z_aload_n rfl rfl ?_
    refine z_aload_n rfl rfl ?_
    refine z_get rfl hO rfl ?_
    refine z_aload_n rfl rfl ?_
    refine z_get rfl hO rfl ?_
    refine z_aload_n rfl rfl ?_
    refine z_callV (av := [_, _, _]) rfl z_w68 hH.1 rfl rfl rfl rfl rfl (Nat.le_of_ble_eq_true rfl) (Nat.le_of_ble_eq_true rfl) (Nat.le_of_ble_eq_true rfl) (Nat.le_of_ble_eq_true rfl) (cH_refusesKey hH hW (by omega) (fun p104 => fun e104 h1 hC1 hF1 => ?_) (fun e104 => ?_))
    · have kH1 := hH.kept hF1 (by omega)
      have kO1 := z_ck hO hF1 (by omega)
      refine z_zret (ty := .boolean) rfl rfl (by first | decide | exact z_nb _) ?_
      exact qt _ e104 _ hC1 hF1
    · refine z_zret (ty := .boolean) rfl rfl (by first | decide | exact z_nb _) ?_
      exact qf e104
  · refine z_tswI (x := 4) (o := 97) (t := 108) rfl (by decide) (by decide) rfl rfl ?_
    refine z_aload_n rfl rfl ?_
    refine z_aload_n rfl rfl ?_
    refine z_get rfl hO rfl ?_
    refine z_aload_n rfl rfl ?_
    refine z_get rfl hO rfl ?_
    refine z_aload_n rfl rfl ?_
    refine z_callV (av := [_, _, _]) rfl z_w69 hH.1 rfl rfl rfl rfl rfl (Nat.le_of_ble_eq_true rfl) (Nat.le_of_ble_eq_true rfl) (Nat.le_of_ble_eq_true rfl) (Nat.le_of_ble_eq_true rfl) (cH_refusesWinding hH hW (by omega) (fun p118 => fun e118 h1 hC1 hF1 => ?_) (fun e118 => ?_))
    · have kH1 := hH.kept hF1 (by omega)
      have kO1 := z_ck hO hF1 (by omega)
      refine z_zret (ty := .boolean) rfl rfl (by first | decide | exact z_nb _) ?_
      exact qt _ e118 _ hC1 hF1
    · refine z_zret (ty := .boolean) rfl rfl (by first | decide | exact z_nb _) ?_
      exact qf e118
  · refine z_tswI (x := 5) (o := 111) (t := 122) rfl (by decide) (by decide) rfl rfl ?_
    refine z_aload_n rfl rfl ?_
    refine z_aload_n rfl rfl ?_
    refine z_get rfl hO rfl ?_
    refine z_aload_n rfl rfl ?_
    refine z_get rfl hO rfl ?_
    refine z_aload_n rfl rfl ?_
    refine z_callV (av := [_, _, _]) rfl z_w70 hH.1 rfl rfl rfl rfl rfl (Nat.le_of_ble_eq_true rfl) (Nat.le_of_ble_eq_true rfl) (Nat.le_of_ble_eq_true rfl) (Nat.le_of_ble_eq_true rfl) (cH_refusesMove hH hW (by omega) (fun p132 => fun e132 h1 hC1 hF1 => ?_) (fun e132 => ?_))
    · have kH1 := hH.kept hF1 (by omega)
      have kO1 := z_ck hO hF1 (by omega)
      refine z_zret (ty := .boolean) rfl rfl (by first | decide | exact z_nb _) ?_
      exact qt _ e132 _ hC1 hF1
    · refine z_zret (ty := .boolean) rfl rfl (by first | decide | exact z_nb _) ?_
      exact qf e132
  · refine z_tswI (x := 6) (o := 125) (t := 136) rfl (by decide) (by decide) rfl rfl ?_
    refine z_aload_n rfl rfl ?_
    refine z_aload_n rfl rfl ?_
    refine z_get rfl hO rfl ?_
    refine z_aload_n rfl rfl ?_
    refine z_get rfl hO rfl ?_
    refine z_aload_n rfl rfl ?_
    refine z_get rfl hO rfl ?_
    refine z_aload_n rfl rfl ?_
    refine z_callV (av := [_, _, _, _]) rfl z_w71 hH.1 rfl rfl rfl rfl rfl (Nat.le_of_ble_eq_true rfl) (Nat.le_of_ble_eq_true rfl) (Nat.le_of_ble_eq_true rfl) (Nat.le_of_ble_eq_true rfl) (cH_refusesBill hH hW (by omega) (fun p150 => fun e150 h1 hC1 hF1 => ?_) (fun e150 => ?_))
    · have kH1 := hH.kept hF1 (by omega)
      have kO1 := z_ck hO hF1 (by omega)
      refine z_zret (ty := .boolean) rfl rfl (by first | decide | exact z_nb _) ?_
      exact qt _ e150 _ hC1 hF1
    · refine z_zret (ty := .boolean) rfl rfl (by first | decide | exact z_nb _) ?_
      exact qf e150
  · refine z_tswI (x := 7) (o := 143) (t := 154) rfl (by decide) (by decide) rfl rfl ?_
    refine z_aload_n rfl rfl ?_
    refine z_aload_n rfl rfl ?_
    refine z_get rfl hO rfl ?_
    refine z_aload_n rfl rfl ?_
    refine z_get rfl hO rfl ?_
    refine z_aload_n rfl rfl ?_
    refine z_callV (av := [_, _, _]) rfl z_w72 hH.1 rfl rfl rfl rfl rfl (Nat.le_of_ble_eq_true rfl) (Nat.le_of_ble_eq_true rfl) (Nat.le_of_ble_eq_true rfl) (Nat.le_of_ble_eq_true rfl) (cH_refusesAdjourning hH hW (by omega) (fun p164 => fun e164 h1 hC1 hF1 => ?_) (fun e164 => ?_))
    · have kH1 := hH.kept hF1 (by omega)
      have kO1 := z_ck hO hF1 (by omega)
      refine z_zret (ty := .boolean) rfl rfl (by first | decide | exact z_nb _) ?_
      exact qt _ e164 _ hC1 hF1
    · refine z_zret (ty := .boolean) rfl rfl (by first | decide | exact z_nb _) ?_
      exact qf e164
  · refine z_tswI (x := 8) (o := 157) (t := 168) rfl (by decide) (by decide) rfl rfl ?_
    refine z_aload_n rfl rfl ?_
    refine z_aload_n rfl rfl ?_
    refine z_get rfl hH.1 rfl ?_
    refine z_aload_n rfl rfl ?_
    refine z_get rfl hO rfl ?_
    refine z_callV (av := [_]) rfl z_w52 hH.2.2.1 rfl rfl rfl rfl rfl (Nat.le_of_ble_eq_true rfl) (Nat.le_of_ble_eq_true rfl) (Nat.le_of_ble_eq_true rfl) (Nat.le_of_ble_eq_true rfl) (cB_has hH.2.2 ?_)
    refine z_aload_n rfl rfl ?_
    refine z_get rfl hO rfl ?_
    refine z_callV (av := [_, _]) rfl z_w20 hW rfl rfl rfl rfl rfl (Nat.le_of_ble_eq_true rfl) (Nat.le_of_ble_eq_true rfl) (Nat.le_of_ble_eq_true rfl) (Nat.le_of_ble_eq_true rfl) (cR_isUnknown hW (z_b01 _) (fun e184 h1 hC1 hF1 => ?_) (fun e184 => ?_))
    · have kH1 := hH.kept hF1 (by omega)
      have kO1 := z_ck hO hF1 (by omega)
      refine z_zret (ty := .boolean) rfl rfl (by first | decide | exact z_nb _) ?_
      exact qt (2, f) (if_pos ((z_bI _).mp e184)) _ hC1 hF1
    · refine z_zret (ty := .boolean) rfl rfl (by first | decide | exact z_nb _) ?_
      exact qf (if_neg (z_bT e184))
  · refine z_tswI (x := 9) (o := 177) (t := 188) rfl (by decide) (by decide) rfl rfl ?_
    refine z_aload_n rfl rfl ?_
    refine z_aload_n rfl rfl ?_
    refine z_get rfl hH.1 rfl ?_
    refine z_get rfl hH.2.2.1 rfl ?_
    refine z_callV (av := []) rfl z_w1 (hH.2.2.2 5 (by decide)).1 rfl rfl rfl rfl rfl (Nat.le_of_ble_eq_true rfl) (Nat.le_of_ble_eq_true rfl) (Nat.le_of_ble_eq_true rfl) (Nat.le_of_ble_eq_true rfl) (cs_count (hH.2.2.2 5 (by decide)) ?_)
    refine z_if_ne rfl (fun c199 => ?_) (fun c199 => ?_)
    · refine z_iconst (v := 0) rfl (by decide) ?_
      refine z_bipush (v := 9) rfl (by decide) ?_
      refine z_aload_n rfl rfl ?_
      refine z_get rfl hH.1 rfl ?_
      refine z_callV (av := []) rfl z_w54 hH.2.2.1 rfl rfl rfl rfl rfl (Nat.le_of_ble_eq_true rfl) (Nat.le_of_ble_eq_true rfl) (Nat.le_of_ble_eq_true rfl) (Nat.le_of_ble_eq_true rfl) (cB_adjournedCount hH.2.2 ?_)
      refine z_callV (av := [_, _, _]) rfl z_w19 hW rfl rfl rfl rfl rfl (Nat.le_of_ble_eq_true rfl) (Nat.le_of_ble_eq_true rfl) (Nat.le_of_ble_eq_true rfl) (Nat.le_of_ble_eq_true rfl) (cR_applies hW (Or.inl rfl) (fun e9 => absurd e9 (by decide)) (fun e216 => ?_))
      refine z_zret (ty := .boolean) rfl rfl (by first | decide | exact z_nb _) ?_
      exact qf (if_neg c199)
    · refine z_iconst (v := 1) rfl (by decide) ?_
      refine z_goto rfl ?_
      refine z_bipush (v := 9) rfl (by decide) ?_
      refine z_aload_n rfl rfl ?_
      refine z_get rfl hH.1 rfl ?_
      refine z_callV (av := []) rfl z_w54 hH.2.2.1 rfl rfl rfl rfl rfl (Nat.le_of_ble_eq_true rfl) (Nat.le_of_ble_eq_true rfl) (Nat.le_of_ble_eq_true rfl) (Nat.le_of_ble_eq_true rfl) (cB_adjournedCount hH.2.2 ?_)
      refine z_callV (av := [_, _, _]) rfl z_w19 hW rfl rfl rfl rfl rfl (Nat.le_of_ble_eq_true rfl) (Nat.le_of_ble_eq_true rfl) (Nat.le_of_ble_eq_true rfl) (Nat.le_of_ble_eq_true rfl) (cR_applies hW (Or.inr rfl) (fun e216 h1 hC1 hF1 => ?_) (fun e9 => absurd e9 (by decide)))
      have kH1 := hH.kept hF1 (by omega)
      have kO1 := z_ck hO hF1 (by omega)
      refine z_zret (ty := .boolean) rfl rfl (by first | decide | exact z_nb _) ?_
      exact qt (9, z_adjN v.2.1) (if_pos c199) _ hC1 hF1
  · refine z_tswO (x := 0) (t := 220) rfl (by decide) rfl ?_
    refine z_aload_n rfl rfl ?_
    refine z_aload_n rfl rfl ?_
    refine z_get rfl hO rfl ?_
    refine z_iconst (v := 1) rfl (by decide) ?_
    refine z_bipush (v := 24) rfl (by decide) ?_
    refine z_callV (av := [_, _, _]) rfl z_w21 hW rfl rfl rfl rfl rfl (Nat.le_of_ble_eq_true rfl) (Nat.le_of_ble_eq_true rfl) (Nat.le_of_ble_eq_true rfl) (Nat.le_of_ble_eq_true rfl) (cR_isOutside hW (fun e228 h1 hC1 hF1 => ?_) (fun e228 => ?_))
    · have kH1 := hH.kept hF1 (by omega)
      have kO1 := z_ck hO hF1 (by omega)
      refine z_zret (ty := .boolean) rfl rfl (by first | decide | exact z_nb _) ?_
      exact qt (3, f) (if_pos e228) _ hC1 hF1
    · refine z_zret (ty := .boolean) rfl rfl (by first | decide | exact z_nb _) ?_
      exact qf (if_neg e228)
theorem z_hourIn {v : z_HV} {n : Int32} (h : z_rHour n = none) : ∃ k : Nat, 1 ≤ k ∧ k ≤ 24 ∧ n = nI k := by
  unfold z_rHour at h
  split at h
  · cases h
  · rename_i hc
    obtain ⟨k, h1, h2⟩ := nI_of2 (x := n) (M := 24) (n := 24) rfl (fun q => hc (Or.inl (Int32.lt_trans q (by decide)))) (Int32.not_lt.mp fun q => hc (Or.inr q))
    refine ⟨k, ?_, h1, h2⟩
    rcases Nat.eq_zero_or_pos k with rfl | q
    · subst h2
      exact absurd (Or.inl (by decide)) hc
    · exact q
theorem z_szC {v : z_HV} {s l : Int32} (h : z_rClock v s l = none) (hz : z_szs v) (h8 : v.1.1 0 ≤ 8) : v.1.1 0 < 8 ∧ v.1.1 1 < 8 ∧ v.1.1 2 < 8 ∧ v.1.1 3 < 8 := by
  have e : v.1.1 0 < 8 := by
    unfold z_rClock at h
    split at h
    · cases h
    · split at h
      · cases h
      · split at h
        · rename_i c
          exact (nI_ltI (b := 8) (by omega) (by decide)).mp c
        · cases h
  exact ⟨e, by rw [hz.1 1 (by decide)]; exact e, by rw [hz.1 2 (by decide)]; exact e, by rw [hz.1 3 (by decide)]; exact e⟩
theorem z_szB {v : z_HV} {c s n : Int32} (h : z_rBill v c s n = none) (hz : z_szs v) (h8 : v.2.1.1 0 ≤ 10) : ∀ j, j < 6 → v.2.1.1 j < 10 := by
  have e : v.2.1.1 0 < 10 := by
    unfold z_rBill at h
    split at h
    · cases h
    · split at h
      · cases h
      · split at h
        · cases h
        · split at h
          · cases h
          · split at h
            · rename_i c
              exact (nI_ltI (b := 10) (by omega) (by decide)).mp c
            · cases h
  intro j hj
  by_cases e5 : j = 5
  · subst e5; have := hz.2.2.2; omega
  · rw [hz.2.2.1 j (by omega)]; exact e
theorem cH_carryOut (hH : z_Hs h b v) (hO : z_Or h a o) (hk : o.1 < 10) (hd : a + 1 ≤ b ∨ b + 25 ≤ a) (hz : z_szs v) (hr : z_ref v o = none) (q : ∀ h', z_Hs h' b (z_do v o).1 → z_Fr b 25 h h' → Q (.inl (some (.int (z_do v o).2))) h') : z_W G 7 0 0 73 0 (z_L0 73 [.ref b, .ref a]) [] h Q := by
  obtain ⟨k, f, s, t, n⟩ := o
  refine z_sw73 (a := 0) (o := (k, f, s, t, n)) hO hk (by omega) ?_
  rcases z_ten (show k < 10 from hk) with rfl | rfl | rfl | rfl | rfl | rfl | rfl | rfl | rfl | rfl
  · refine z_tswI (x := 1) (o := 49) (t := 60) rfl (by decide) (by decide) rfl rfl ?_
    have hc := z_szC hr hz (hH.2.1.2 0 (by decide)).fits.1
    refine z_aload_n rfl rfl ?_
    refine z_get rfl hH.1 rfl ?_
    refine z_aload_n rfl rfl ?_
    refine z_get rfl hO rfl ?_
    refine z_aload_n rfl rfl ?_
    refine z_get rfl hO rfl ?_
    refine z_callV (av := [_, _]) rfl z_w33 hH.2.1.1 rfl rfl rfl rfl rfl (Nat.le_of_ble_eq_true rfl) (Nat.le_of_ble_eq_true rfl) (Nat.le_of_ble_eq_true rfl) (Nat.le_of_ble_eq_true rfl) (cC_come hH.2.1 hc (fun h1 hC1 hF1 => ?_))
    obtain ⟨hH1, hG1⟩ := z_Hs.cl hH hC1 hF1
    have kO1 := z_ck hO hG1 (by omega)
    refine z_iret rfl rfl ?_
    exact q _ hH1 hG1
  · refine z_tswI (x := 2) (o := 65) (t := 76) rfl (by decide) (by decide) rfl rfl ?_
    refine z_aload_n rfl rfl ?_
    refine z_aload_n rfl rfl ?_
    refine z_get rfl hO rfl ?_
    refine z_callV (av := [_]) rfl z_w74 hH.1 rfl rfl rfl rfl rfl (Nat.le_of_ble_eq_true rfl) (Nat.le_of_ble_eq_true rfl) (Nat.le_of_ble_eq_true rfl) (Nat.le_of_ble_eq_true rfl) (cH_sendAway hH (fun h1 hC1 hF1 => ?_))
    have kO1 := z_ck hO hF1 (by omega)
    refine z_iret rfl rfl ?_
    exact q _ hC1 hF1
  · refine z_tswI (x := 3) (o := 74) (t := 85) rfl (by decide) (by decide) rfl rfl ?_
    refine z_aload_n rfl rfl ?_
    refine z_get rfl hH.1 rfl ?_
    refine z_aload_n rfl rfl ?_
    refine z_get rfl hO rfl ?_
    refine z_aload_n rfl rfl ?_
    refine z_get rfl hO rfl ?_
    refine z_callV (av := [_, _]) rfl z_w35 hH.2.1.1 rfl rfl rfl rfl rfl (Nat.le_of_ble_eq_true rfl) (Nat.le_of_ble_eq_true rfl) (Nat.le_of_ble_eq_true rfl) (Nat.le_of_ble_eq_true rfl) (cC_giveKey hH.2.1 (fun h1 hC1 hF1 => ?_))
    obtain ⟨hH1, hG1⟩ := z_Hs.cl hH hC1 hF1
    have kO1 := z_ck hO hG1 (by omega)
    refine z_iret rfl rfl ?_
    exact q _ hH1 hG1
  · refine z_tswI (x := 4) (o := 90) (t := 101) rfl (by decide) (by decide) rfl rfl ?_
    refine z_aload_n rfl rfl ?_
    refine z_dup rfl rfl ?_
    refine z_get rfl hH.1 rfl ?_
    refine z_iconst (v := 1) rfl (by decide) ?_
    refine z_iadd rfl ?_
    refine z_putH rfl hH (by decide) (fun h1 hC1 hF1 => ?_)
    have kO1 := z_ck hO hF1 (by omega)
    refine z_aload_n rfl rfl ?_
    refine z_get rfl hC1.1 rfl ?_
    refine z_aload_n rfl rfl ?_
    refine z_get rfl kO1 rfl ?_
    refine z_callV (av := [_]) rfl z_w36 hC1.2.1.1 rfl rfl rfl rfl rfl (Nat.le_of_ble_eq_true rfl) (Nat.le_of_ble_eq_true rfl) (Nat.le_of_ble_eq_true rfl) (Nat.le_of_ble_eq_true rfl) (cC_windUp hC1.2.1 (fun h2 hC2 hF2 => ?_))
    obtain ⟨hH2, hG2⟩ := z_Hs.cl hC1 hC2 hF2
    have kO2 := z_ck kO1 hG2 (by omega)
    refine z_iret rfl rfl ?_
    exact q _ hH2 (hF1.trans hG2)
  · refine z_tswI (x := 5) (o := 112) (t := 123) rfl (by decide) (by decide) rfl rfl ?_
    refine z_aload_n rfl rfl ?_
    refine z_get rfl hH.1 rfl ?_
    refine z_aload_n rfl rfl ?_
    refine z_get rfl hO rfl ?_
    refine z_aload_n rfl rfl ?_
    refine z_get rfl hO rfl ?_
    refine z_callV (av := [_, _]) rfl z_w37 hH.2.1.1 rfl rfl rfl rfl rfl (Nat.le_of_ble_eq_true rfl) (Nat.le_of_ble_eq_true rfl) (Nat.le_of_ble_eq_true rfl) (Nat.le_of_ble_eq_true rfl) (cC_moveOn hH.2.1 (fun h1 hC1 hF1 => ?_))
    obtain ⟨hH1, hG1⟩ := z_Hs.cl hH hC1 hF1
    have kO1 := z_ck hO hG1 (by omega)
    refine z_iret rfl rfl ?_
    exact q _ hH1 hG1
  · refine z_tswI (x := 6) (o := 128) (t := 139) rfl (by decide) (by decide) rfl rfl ?_
    have hc := z_szB hr hz (hH.2.2.2 0 (by decide)).fits.1
    refine z_aload_n rfl rfl ?_
    refine z_get rfl hH.1 rfl ?_
    refine z_aload_n rfl rfl ?_
    refine z_get rfl hO rfl ?_
    refine z_aload_n rfl rfl ?_
    refine z_get rfl hO rfl ?_
    refine z_aload_n rfl rfl ?_
    refine z_get rfl hO rfl ?_
    refine z_callV (av := [_, _, _]) rfl z_w55 hH.2.2.1 rfl rfl rfl rfl rfl (Nat.le_of_ble_eq_true rfl) (Nat.le_of_ble_eq_true rfl) (Nat.le_of_ble_eq_true rfl) (Nat.le_of_ble_eq_true rfl) (cB_table hH.2.2 hc (fun h1 hC1 hF1 => ?_))
    obtain ⟨hH1, hG1⟩ := z_Hs.bi hH hC1 hF1
    have kO1 := z_ck hO hG1 (by omega)
    refine z_iret rfl rfl ?_
    exact q _ hH1 hG1
  · refine z_tswI (x := 7) (o := 148) (t := 159) rfl (by decide) (by decide) rfl rfl ?_
    refine z_aload_n rfl rfl ?_
    refine z_get rfl hH.1 rfl ?_
    refine z_aload_n rfl rfl ?_
    refine z_get rfl hO rfl ?_
    refine z_aload_n rfl rfl ?_
    refine z_get rfl hO rfl ?_
    refine z_callV (av := [_, _]) rfl z_w56 hH.2.2.1 rfl rfl rfl rfl rfl (Nat.le_of_ble_eq_true rfl) (Nat.le_of_ble_eq_true rfl) (Nat.le_of_ble_eq_true rfl) (Nat.le_of_ble_eq_true rfl) (cB_putOff hH.2.2 (fun h1 hC1 hF1 => ?_))
    obtain ⟨hH1, hG1⟩ := z_Hs.bi hH hC1 hF1
    have kO1 := z_ck hO hG1 (by omega)
    refine z_iret rfl rfl ?_
    exact q _ hH1 hG1
  · refine z_tswI (x := 8) (o := 164) (t := 175) rfl (by decide) (by decide) rfl rfl ?_
    refine z_aload_n rfl rfl ?_
    refine z_get rfl hH.1 rfl ?_
    refine z_aload_n rfl rfl ?_
    refine z_get rfl hO rfl ?_
    refine z_callV (av := [_]) rfl z_w57 hH.2.2.1 rfl rfl rfl rfl rfl (Nat.le_of_ble_eq_true rfl) (Nat.le_of_ble_eq_true rfl) (Nat.le_of_ble_eq_true rfl) (Nat.le_of_ble_eq_true rfl) (cB_remove hH.2.2 (fun h1 hC1 hF1 => ?_))
    obtain ⟨hH1, hG1⟩ := z_Hs.bi hH hC1 hF1
    have kO1 := z_ck hO hG1 (by omega)
    refine z_iret rfl rfl ?_
    exact q _ hH1 hG1
  · refine z_tswI (x := 9) (o := 176) (t := 187) rfl (by decide) (by decide) rfl rfl ?_
    refine z_aload_n rfl rfl ?_
    refine z_callV (av := []) rfl z_w75 hH.1 rfl rfl rfl rfl rfl (Nat.le_of_ble_eq_true rfl) (Nat.le_of_ble_eq_true rfl) (Nat.le_of_ble_eq_true rfl) (Nat.le_of_ble_eq_true rfl) (cH_holdVote hH (fun h1 hC1 hF1 => ?_))
    have kO1 := z_ck hO hF1 (by omega)
    refine z_iret rfl rfl ?_
    exact q _ hC1 hF1
  · refine z_tswO (x := 0) (t := 192) rfl (by decide) rfl ?_
    obtain ⟨m, m1, m2, rfl⟩ := z_hourIn (v := v) hr
    have em : z_ix (nI m) = m := z_ix_nI (by omega)
    have ed : z_do v (9, nI m, s, t, n) = (z_hrs v m, (z_hrs v m).2.2 4 - v.2.2 4) := by
      show (z_hrs v (z_ix (nI m)), (z_hrs v (z_ix (nI m))).2.2 4 - v.2.2 4) = _
      rw [em]
    rw [ed] at q
    refine z_aload_n rfl rfl ?_
    refine z_aload_n rfl rfl ?_
    refine z_get rfl hO rfl ?_
    refine z_callV (av := [_]) rfl z_w76 hH.1 rfl rfl rfl rfl rfl (Nat.le_of_ble_eq_true rfl) (Nat.le_of_ble_eq_true rfl) (Nat.le_of_ble_eq_true rfl) (Nat.le_of_ble_eq_true rfl) (cH_passHours (by omega) hH (fun h1 hC1 hF1 => ?_))
    have kO1 := z_ck hO hF1 (by omega)
    refine z_iret rfl rfl ?_
    exact q _ hC1 hF1
def z_kj (k : Nat) : Nat := if k = 0 then 1 else if k = 1 then 0 else if k = 2 then 2 else 3
def z_rkd (x : z_LV) (k : Nat) (p : Int32) : Int32 := z_oN1 (z_first (fun i => decide (nI (z_rnk (x.1 0) (x.1 (z_kj k)) (x.2 (z_kj k)) (nI i)) = p)) (x.1 0) 0)
end ZH3
