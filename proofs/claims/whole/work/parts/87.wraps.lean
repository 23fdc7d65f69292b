/-! The law's wrappers. -/
section ZWs
variable {G : z_G} {h : z_H} {Q : z_O → z_H → Prop} {x : z_PV} {f : Nat → Int64}
theorem z_end_chg {x : z_PV} {o : z_OV} : (z_fChg x o).1 = 0 ∨ (z_fChg x o).1 = 1 := by
  unfold z_fChg
  cases z_ref x.1 o with
  | none => exact Or.inl rfl
  | some pr => exact Or.inr rfl
theorem cW_clock {a b : Int32} (hz : z_szs x.1) (hP : z_P h 1000 1299 x) (ho : h.2 1297 = some (.inl (3, 1, .inr (.inl f)))) (q : z_wQ h (z_fChg x (0, a, b, 0, 0)) Q) : z_W G 11 1 6 261 0 (z_L0 261 [.ref 1000, .int a, .int b, .ref 1297]) [] h Q := by
  refine z_aload_n rfl rfl ?_
  refine z_iconst (v := 0) rfl (by decide) ?_
  refine z_aload_n rfl rfl ?_
  refine z_iload_n rfl rfl ?_
  refine z_iload_n rfl rfl ?_
  refine z_callV (av := [_, _]) rfl z_w104 hP.cell.choose_spec rfl rfl rfl rfl rfl (Nat.le_of_ble_eq_true rfl) (Nat.le_of_ble_eq_true rfl) (Nat.le_of_ble_eq_true rfl) (Nat.le_of_ble_eq_true rfl) (cP_clock hz hP fun h' hP' hX => ?_)
  rcases z_end_chg (x := x) (o := (0, a, b, 0, 0)) with e | e
  · rw [z_oc0 e]
    exact z_wok (i3 := []) rfl rfl rfl rfl rfl rfl e hP' hX ho q
  · rw [z_oc1 e]
    exact z_wthr (q9 := 4) (pre := []) (suf := []) (a := 0) (b := 10) (hp := 13) (ct := 13) rfl z_pre0 (by decide) (by decide) z_lk13 z_ca13 rfl (Or.inl rfl) (by decide +kernel) rfl rfl (by rw [e]; decide) rfl rfl (by omega) hP' hX ho q
theorem cW_leave {a : Int32} (hz : z_szs x.1) (hP : z_P h 1000 1299 x) (ho : h.2 1297 = some (.inl (3, 1, .inr (.inl f)))) (q : z_wQ h (z_fChg x (1, a, 0, 0, 0)) Q) : z_W G 11 1 6 262 0 (z_L0 262 [.ref 1000, .int a, .ref 1297]) [] h Q := by
  refine z_aload_n rfl rfl ?_
  refine z_iconst (v := 0) rfl (by decide) ?_
  refine z_aload_n rfl rfl ?_
  refine z_iload_n rfl rfl ?_
  refine z_callV (av := [_]) rfl z_w105 hP.cell.choose_spec rfl rfl rfl rfl rfl (Nat.le_of_ble_eq_true rfl) (Nat.le_of_ble_eq_true rfl) (Nat.le_of_ble_eq_true rfl) (Nat.le_of_ble_eq_true rfl) (cP_leave hz hP fun h' hP' hX => ?_)
  rcases z_end_chg (x := x) (o := (1, a, 0, 0, 0)) with e | e
  · rw [z_oc0 e]
    exact z_wok (i3 := []) rfl rfl rfl rfl rfl rfl e hP' hX ho q
  · rw [z_oc1 e]
    exact z_wthr (q9 := 3) (pre := []) (suf := []) (a := 0) (b := 9) (hp := 12) (ct := 13) rfl z_pre0 (by decide) (by decide) z_lk13 z_ca13 rfl (Or.inr ⟨3, rfl, rfl⟩) (by decide +kernel) rfl rfl (by rw [e]; decide) rfl rfl (by omega) hP' hX ho q
theorem cW_key {a b : Int32} (hz : z_szs x.1) (hP : z_P h 1000 1299 x) (ho : h.2 1297 = some (.inl (3, 1, .inr (.inl f)))) (q : z_wQ h (z_fChg x (2, a, b, 0, 0)) Q) : z_W G 11 1 6 263 0 (z_L0 263 [.ref 1000, .int a, .int b, .ref 1297]) [] h Q := by
  refine z_aload_n rfl rfl ?_
  refine z_iconst (v := 0) rfl (by decide) ?_
  refine z_aload_n rfl rfl ?_
  refine z_iload_n rfl rfl ?_
  refine z_iload_n rfl rfl ?_
  refine z_callV (av := [_, _]) rfl z_w106 hP.cell.choose_spec rfl rfl rfl rfl rfl (Nat.le_of_ble_eq_true rfl) (Nat.le_of_ble_eq_true rfl) (Nat.le_of_ble_eq_true rfl) (Nat.le_of_ble_eq_true rfl) (cP_key hz hP fun h' hP' hX => ?_)
  rcases z_end_chg (x := x) (o := (2, a, b, 0, 0)) with e | e
  · rw [z_oc0 e]
    exact z_wok (i3 := []) rfl rfl rfl rfl rfl rfl e hP' hX ho q
  · rw [z_oc1 e]
    exact z_wthr (q9 := 4) (pre := []) (suf := []) (a := 0) (b := 10) (hp := 13) (ct := 13) rfl z_pre0 (by decide) (by decide) z_lk13 z_ca13 rfl (Or.inl rfl) (by decide +kernel) rfl rfl (by rw [e]; decide) rfl rfl (by omega) hP' hX ho q
theorem cW_wind {a b : Int32} (hz : z_szs x.1) (hP : z_P h 1000 1299 x) (ho : h.2 1297 = some (.inl (3, 1, .inr (.inl f)))) (q : z_wQ h (z_fChg x (3, a, b, 0, 0)) Q) : z_W G 11 1 6 264 0 (z_L0 264 [.ref 1000, .int a, .int b, .ref 1297]) [] h Q := by
  refine z_aload_n rfl rfl ?_
  refine z_iconst (v := 0) rfl (by decide) ?_
  refine z_aload_n rfl rfl ?_
  refine z_iload_n rfl rfl ?_
  refine z_iload_n rfl rfl ?_
  refine z_callV (av := [_, _]) rfl z_w107 hP.cell.choose_spec rfl rfl rfl rfl rfl (Nat.le_of_ble_eq_true rfl) (Nat.le_of_ble_eq_true rfl) (Nat.le_of_ble_eq_true rfl) (Nat.le_of_ble_eq_true rfl) (cP_wind hz hP fun h' hP' hX => ?_)
  rcases z_end_chg (x := x) (o := (3, a, b, 0, 0)) with e | e
  · rw [z_oc0 e]
    exact z_wok (i3 := []) rfl rfl rfl rfl rfl rfl e hP' hX ho q
  · rw [z_oc1 e]
    exact z_wthr (q9 := 4) (pre := []) (suf := []) (a := 0) (b := 10) (hp := 13) (ct := 13) rfl z_pre0 (by decide) (by decide) z_lk13 z_ca13 rfl (Or.inl rfl) (by decide +kernel) rfl rfl (by rw [e]; decide) rfl rfl (by omega) hP' hX ho q
theorem cW_move {a b : Int32} (hz : z_szs x.1) (hP : z_P h 1000 1299 x) (ho : h.2 1297 = some (.inl (3, 1, .inr (.inl f)))) (q : z_wQ h (z_fChg x (4, a, b, 0, 0)) Q) : z_W G 11 1 6 265 0 (z_L0 265 [.ref 1000, .int a, .int b, .ref 1297]) [] h Q := by
  refine z_aload_n rfl rfl ?_
  refine z_iconst (v := 0) rfl (by decide) ?_
  refine z_aload_n rfl rfl ?_
  refine z_iload_n rfl rfl ?_
  refine z_iload_n rfl rfl ?_
  refine z_callV (av := [_, _]) rfl z_w108 hP.cell.choose_spec rfl rfl rfl rfl rfl (Nat.le_of_ble_eq_true rfl) (Nat.le_of_ble_eq_true rfl) (Nat.le_of_ble_eq_true rfl) (Nat.le_of_ble_eq_true rfl) (cP_move hz hP fun h' hP' hX => ?_)
  rcases z_end_chg (x := x) (o := (4, a, b, 0, 0)) with e | e
  · rw [z_oc0 e]
    exact z_wok (i3 := []) rfl rfl rfl rfl rfl rfl e hP' hX ho q
  · rw [z_oc1 e]
    exact z_wthr (q9 := 4) (pre := []) (suf := []) (a := 0) (b := 10) (hp := 13) (ct := 13) rfl z_pre0 (by decide) (by decide) z_lk13 z_ca13 rfl (Or.inl rfl) (by decide +kernel) rfl rfl (by rw [e]; decide) rfl rfl (by omega) hP' hX ho q
theorem cW_bill {a b c : Int32} (hz : z_szs x.1) (hP : z_P h 1000 1299 x) (ho : h.2 1297 = some (.inl (3, 1, .inr (.inl f)))) (q : z_wQ h (z_fChg x (5, a, b, c, 0)) Q) : z_W G 11 1 6 266 0 (z_L0 266 [.ref 1000, .int a, .int b, .int c, .ref 1297]) [] h Q := by
  refine z_aload rfl rfl ?_
  refine z_iconst (v := 0) rfl (by decide) ?_
  refine z_aload_n rfl rfl ?_
  refine z_iload_n rfl rfl ?_
  refine z_iload_n rfl rfl ?_
  refine z_iload_n rfl rfl ?_
  refine z_callV (av := [_, _, _]) rfl z_w109 hP.cell.choose_spec rfl rfl rfl rfl rfl (Nat.le_of_ble_eq_true rfl) (Nat.le_of_ble_eq_true rfl) (Nat.le_of_ble_eq_true rfl) (Nat.le_of_ble_eq_true rfl) (cP_bill hz hP fun h' hP' hX => ?_)
  rcases z_end_chg (x := x) (o := (5, a, b, c, 0)) with e | e
  · rw [z_oc0 e]
    exact z_wok (i3 := []) rfl rfl rfl rfl rfl rfl e hP' hX ho q
  · rw [z_oc1 e]
    exact z_wthr (q9 := 5) (pre := []) (suf := []) (a := 0) (b := 12) (hp := 15) (ct := 13) rfl z_pre0 (by decide) (by decide) z_lk13 z_ca13 rfl (Or.inl rfl) (by decide +kernel) rfl rfl (by rw [e]; decide) rfl rfl (by omega) hP' hX ho q
theorem cW_adjourn {a b : Int32} (hz : z_szs x.1) (hP : z_P h 1000 1299 x) (ho : h.2 1297 = some (.inl (3, 1, .inr (.inl f)))) (q : z_wQ h (z_fChg x (6, a, b, 0, 0)) Q) : z_W G 11 1 6 267 0 (z_L0 267 [.ref 1000, .int a, .int b, .ref 1297]) [] h Q := by
  refine z_aload_n rfl rfl ?_
  refine z_iconst (v := 0) rfl (by decide) ?_
  refine z_aload_n rfl rfl ?_
  refine z_iload_n rfl rfl ?_
  refine z_iload_n rfl rfl ?_
  refine z_callV (av := [_, _]) rfl z_w110 hP.cell.choose_spec rfl rfl rfl rfl rfl (Nat.le_of_ble_eq_true rfl) (Nat.le_of_ble_eq_true rfl) (Nat.le_of_ble_eq_true rfl) (Nat.le_of_ble_eq_true rfl) (cP_adjourn hz hP fun h' hP' hX => ?_)
  rcases z_end_chg (x := x) (o := (6, a, b, 0, 0)) with e | e
  · rw [z_oc0 e]
    exact z_wok (i3 := []) rfl rfl rfl rfl rfl rfl e hP' hX ho q
  · rw [z_oc1 e]
    exact z_wthr (q9 := 4) (pre := []) (suf := []) (a := 0) (b := 10) (hp := 13) (ct := 13) rfl z_pre0 (by decide) (by decide) z_lk13 z_ca13 rfl (Or.inl rfl) (by decide +kernel) rfl rfl (by rw [e]; decide) rfl rfl (by omega) hP' hX ho q
theorem cW_drop {a : Int32} (hz : z_szs x.1) (hP : z_P h 1000 1299 x) (ho : h.2 1297 = some (.inl (3, 1, .inr (.inl f)))) (q : z_wQ h (z_fChg x (7, a, 0, 0, 0)) Q) : z_W G 11 1 6 268 0 (z_L0 268 [.ref 1000, .int a, .ref 1297]) [] h Q := by
  refine z_aload_n rfl rfl ?_
  refine z_iconst (v := 0) rfl (by decide) ?_
  refine z_aload_n rfl rfl ?_
  refine z_iload_n rfl rfl ?_
  refine z_callV (av := [_]) rfl z_w111 hP.cell.choose_spec rfl rfl rfl rfl rfl (Nat.le_of_ble_eq_true rfl) (Nat.le_of_ble_eq_true rfl) (Nat.le_of_ble_eq_true rfl) (Nat.le_of_ble_eq_true rfl) (cP_drop hz hP fun h' hP' hX => ?_)
  rcases z_end_chg (x := x) (o := (7, a, 0, 0, 0)) with e | e
  · rw [z_oc0 e]
    exact z_wok (i3 := []) rfl rfl rfl rfl rfl rfl e hP' hX ho q
  · rw [z_oc1 e]
    exact z_wthr (q9 := 3) (pre := []) (suf := []) (a := 0) (b := 9) (hp := 12) (ct := 13) rfl z_pre0 (by decide) (by decide) z_lk13 z_ca13 rfl (Or.inr ⟨3, rfl, rfl⟩) (by decide +kernel) rfl rfl (by rw [e]; decide) rfl rfl (by omega) hP' hX ho q
theorem cW_vote (hz : z_szs x.1) (hP : z_P h 1000 1299 x) (ho : h.2 1297 = some (.inl (3, 1, .inr (.inl f)))) (q : z_wQ h (z_fChg x (8, 0, 0, 0, 0)) Q) : z_W G 11 1 6 269 0 (z_L0 269 [.ref 1000, .ref 1297]) [] h Q := by
  refine z_aload_n rfl rfl ?_
  refine z_iconst (v := 0) rfl (by decide) ?_
  refine z_aload_n rfl rfl ?_
  refine z_callV (av := []) rfl z_w112 hP.cell.choose_spec rfl rfl rfl rfl rfl (Nat.le_of_ble_eq_true rfl) (Nat.le_of_ble_eq_true rfl) (Nat.le_of_ble_eq_true rfl) (Nat.le_of_ble_eq_true rfl) (cP_vote hz hP fun h' hP' hX => ?_)
  rcases z_end_chg (x := x) (o := (8, 0, 0, 0, 0)) with e | e
  · rw [z_oc0 e]
    exact z_wok (i3 := []) rfl rfl rfl rfl rfl rfl e hP' hX ho q
  · rw [z_oc1 e]
    exact z_wthr (q9 := 2) (pre := []) (suf := []) (a := 0) (b := 8) (hp := 11) (ct := 13) rfl z_pre0 (by decide) (by decide) z_lk13 z_ca13 rfl (Or.inr ⟨2, rfl, rfl⟩) (by decide +kernel) rfl rfl (by rw [e]; decide) rfl rfl (by omega) hP' hX ho q
theorem cW_hour {a : Int32} (hz : z_szs x.1) (hP : z_P h 1000 1299 x) (ho : h.2 1297 = some (.inl (3, 1, .inr (.inl f)))) (q : z_wQ h (z_fChg x (9, a, 0, 0, 0)) Q) : z_W G 11 1 6 270 0 (z_L0 270 [.ref 1000, .int a, .ref 1297]) [] h Q := by
  refine z_aload_n rfl rfl ?_
  refine z_iconst (v := 0) rfl (by decide) ?_
  refine z_aload_n rfl rfl ?_
  refine z_iload_n rfl rfl ?_
  refine z_callV (av := [_]) rfl z_w113 hP.cell.choose_spec rfl rfl rfl rfl rfl (Nat.le_of_ble_eq_true rfl) (Nat.le_of_ble_eq_true rfl) (Nat.le_of_ble_eq_true rfl) (Nat.le_of_ble_eq_true rfl) (cP_hour hz hP fun h' hP' hX => ?_)
  rcases z_end_chg (x := x) (o := (9, a, 0, 0, 0)) with e | e
  · rw [z_oc0 e]
    exact z_wok (i3 := []) rfl rfl rfl rfl rfl rfl e hP' hX ho q
  · rw [z_oc1 e]
    exact z_wthr (q9 := 3) (pre := []) (suf := []) (a := 0) (b := 9) (hp := 12) (ct := 13) rfl z_pre0 (by decide) (by decide) z_lk13 z_ca13 rfl (Or.inr ⟨3, rfl, rfl⟩) (by decide +kernel) rfl rfl (by rw [e]; decide) rfl rfl (by omega) hP' hX ho q
theorem z_end_clockOf {x : z_PV} {a b : Int32} : ((z_fClockOf x a b).1 = 0 ∨ (z_fClockOf x a b).1 = 1 ∨ (z_fClockOf x a b).1 = 2) ∧ (z_fClockOf x a b).2.2 = x := by
  unfold z_fClockOf
  (repeat' split) <;> first | exact ⟨Or.inl rfl, rfl⟩ | exact ⟨Or.inr (Or.inl rfl), rfl⟩ | exact ⟨Or.inr (Or.inr rfl), rfl⟩
theorem cW_clockOf {a b : Int32} (hP : z_P h 1000 1299 x) (ho : h.2 1297 = some (.inl (3, 1, .inr (.inl f)))) (q : z_wQ h (z_fClockOf x a b) Q) : z_W G 9 4 24 271 0 (z_L0 271 [.ref 1000, .int a, .int b, .ref 1297]) [] h Q := by
  refine z_aload_n rfl rfl ?_
  refine z_iconst (v := 0) rfl (by decide) ?_
  refine z_aload_n rfl rfl ?_
  refine z_iload_n rfl rfl ?_
  refine z_iload_n rfl rfl ?_
  refine z_callV (av := [_, _]) rfl z_w115 hP.cell.choose_spec rfl rfl rfl rfl rfl (Nat.le_of_ble_eq_true rfl) (Nat.le_of_ble_eq_true rfl) (Nat.le_of_ble_eq_true rfl) (Nat.le_of_ble_eq_true rfl) (cP_clockOf hP fun h' hP' hX => ?_)
  have e9 : (z_fClockOf x a b).2.2 = x := (z_end_clockOf (x := x) (a := a) (b := b)).2
  have hq : z_P h' 1000 1299 (z_fClockOf x a b).2.2 := by rw [e9]; exact hP'
  rcases (z_end_clockOf (x := x) (a := a) (b := b)).1 with e | e | e
  · rw [z_oc0 e]
    exact z_wok (i3 := []) rfl rfl rfl rfl rfl rfl e hq hX ho q
  · rw [z_oc1 e]
    exact z_wthr (q9 := 4) (pre := []) (suf := [(0, 10, 17, 50)]) (a := 0) (b := 10) (hp := 13) (ct := 48) rfl z_pre0 (by decide) (by decide) z_lk48 z_ca48 rfl (Or.inl rfl) (by decide +kernel) rfl rfl (by rw [e]; decide) rfl rfl (by omega) hq hX ho q
  · rw [z_oc2 e]
    exact z_wthr (q9 := 4) (pre := [(0, 10, 13, 48)]) (suf := []) (a := 0) (b := 10) (hp := 17) (ct := 50) rfl (z_pre1 (by decide) z_lk48 z_nc50_48) (by decide) (by decide) z_lk50 z_ca50 rfl (Or.inl rfl) (by decide +kernel) rfl rfl (by rw [e]; decide) rfl rfl (by omega) hq hX ho q
theorem z_end_billOf {x : z_PV} {a b : Int32} : ((z_fBillOf x a b).1 = 0 ∨ (z_fBillOf x a b).1 = 1 ∨ (z_fBillOf x a b).1 = 2) ∧ (z_fBillOf x a b).2.2 = x := by
  unfold z_fBillOf
  (repeat' split) <;> first | exact ⟨Or.inl rfl, rfl⟩ | exact ⟨Or.inr (Or.inl rfl), rfl⟩ | exact ⟨Or.inr (Or.inr rfl), rfl⟩
theorem cW_billOf {a b : Int32} (hP : z_P h 1000 1299 x) (ho : h.2 1297 = some (.inl (3, 1, .inr (.inl f)))) (q : z_wQ h (z_fBillOf x a b) Q) : z_W G 9 4 24 272 0 (z_L0 272 [.ref 1000, .int a, .int b, .ref 1297]) [] h Q := by
  refine z_aload_n rfl rfl ?_
  refine z_iconst (v := 0) rfl (by decide) ?_
  refine z_aload_n rfl rfl ?_
  refine z_iload_n rfl rfl ?_
  refine z_iload_n rfl rfl ?_
  refine z_callV (av := [_, _]) rfl z_w116 hP.cell.choose_spec rfl rfl rfl rfl rfl (Nat.le_of_ble_eq_true rfl) (Nat.le_of_ble_eq_true rfl) (Nat.le_of_ble_eq_true rfl) (Nat.le_of_ble_eq_true rfl) (cP_billOf hP fun h' hP' hX => ?_)
  have e9 : (z_fBillOf x a b).2.2 = x := (z_end_billOf (x := x) (a := a) (b := b)).2
  have hq : z_P h' 1000 1299 (z_fBillOf x a b).2.2 := by rw [e9]; exact hP'
  rcases (z_end_billOf (x := x) (a := a) (b := b)).1 with e | e | e
  · rw [z_oc0 e]
    exact z_wok (i3 := []) rfl rfl rfl rfl rfl rfl e hq hX ho q
  · rw [z_oc1 e]
    exact z_wthr (q9 := 4) (pre := []) (suf := [(0, 10, 17, 50)]) (a := 0) (b := 10) (hp := 13) (ct := 48) rfl z_pre0 (by decide) (by decide) z_lk48 z_ca48 rfl (Or.inl rfl) (by decide +kernel) rfl rfl (by rw [e]; decide) rfl rfl (by omega) hq hX ho q
  · rw [z_oc2 e]
    exact z_wthr (q9 := 4) (pre := [(0, 10, 13, 48)]) (suf := []) (a := 0) (b := 10) (hp := 17) (ct := 50) rfl (z_pre1 (by decide) z_lk48 z_nc50_48) (by decide) (by decide) z_lk50 z_ca50 rfl (Or.inl rfl) (by decide +kernel) rfl rfl (by rw [e]; decide) rfl rfl (by omega) hq hX ho q
theorem z_end_keeper {x : z_PV} {a : Int32} : ((z_fKeeper x a).1 = 0 ∨ (z_fKeeper x a).1 = 1) ∧ (z_fKeeper x a).2.2 = x := by
  unfold z_fKeeper
  (repeat' split) <;> first | exact ⟨Or.inl rfl, rfl⟩ | exact ⟨Or.inr rfl, rfl⟩
theorem cW_keeper {a : Int32} (hP : z_P h 1000 1299 x) (ho : h.2 1297 = some (.inl (3, 1, .inr (.inl f)))) (q : z_wQ h (z_fKeeper x a) Q) : z_W G 9 4 24 273 0 (z_L0 273 [.ref 1000, .int a, .ref 1297]) [] h Q := by
  refine z_aload_n rfl rfl ?_
  refine z_iconst (v := 0) rfl (by decide) ?_
  refine z_aload_n rfl rfl ?_
  refine z_iload_n rfl rfl ?_
  refine z_callV (av := [_]) rfl z_w117 hP.cell.choose_spec rfl rfl rfl rfl rfl (Nat.le_of_ble_eq_true rfl) (Nat.le_of_ble_eq_true rfl) (Nat.le_of_ble_eq_true rfl) (Nat.le_of_ble_eq_true rfl) (cP_keeper hP fun h' hP' hX => ?_)
  have e9 : (z_fKeeper x a).2.2 = x := (z_end_keeper (x := x) (a := a)).2
  have hq : z_P h' 1000 1299 (z_fKeeper x a).2.2 := by rw [e9]; exact hP'
  rcases (z_end_keeper (x := x) (a := a)).1 with e | e
  · rw [z_oc0 e]
    exact z_wok (i3 := []) rfl rfl rfl rfl rfl rfl e hq hX ho q
  · rw [z_oc1 e]
    exact z_wthr (q9 := 3) (pre := []) (suf := []) (a := 0) (b := 9) (hp := 12) (ct := 48) rfl z_pre0 (by decide) (by decide) z_lk48 z_ca48 rfl (Or.inr ⟨3, rfl, rfl⟩) (by decide +kernel) rfl rfl (by rw [e]; decide) rfl rfl (by omega) hq hX ho q
theorem z_end_apart {x : z_PV} {a b : Int32} : ((z_fApart x a b).1 = 0 ∨ (z_fApart x a b).1 = 1) ∧ (z_fApart x a b).2.2 = x := by
  unfold z_fApart
  (repeat' split) <;> first | exact ⟨Or.inl rfl, rfl⟩ | exact ⟨Or.inr rfl, rfl⟩
theorem cW_apart {a b : Int32} (hP : z_P h 1000 1299 x) (ho : h.2 1297 = some (.inl (3, 1, .inr (.inl f)))) (q : z_wQ h (z_fApart x a b) Q) : z_W G 9 4 24 275 0 (z_L0 275 [.ref 1000, .int a, .int b, .ref 1297]) [] h Q := by
  refine z_aload_n rfl rfl ?_
  refine z_iconst (v := 0) rfl (by decide) ?_
  refine z_aload_n rfl rfl ?_
  refine z_iload_n rfl rfl ?_
  refine z_iload_n rfl rfl ?_
  refine z_callV (av := [_, _]) rfl z_w119 hP.cell.choose_spec rfl rfl rfl rfl rfl (Nat.le_of_ble_eq_true rfl) (Nat.le_of_ble_eq_true rfl) (Nat.le_of_ble_eq_true rfl) (Nat.le_of_ble_eq_true rfl) (cP_apart hP fun h' hP' hX => ?_)
  have e9 : (z_fApart x a b).2.2 = x := (z_end_apart (x := x) (a := a) (b := b)).2
  have hq : z_P h' 1000 1299 (z_fApart x a b).2.2 := by rw [e9]; exact hP'
  rcases (z_end_apart (x := x) (a := a) (b := b)).1 with e | e
  · rw [z_oc0 e]
    exact z_wok (i3 := []) rfl rfl rfl rfl rfl rfl e hq hX ho q
  · rw [z_oc1 e]
    exact z_wthr (q9 := 4) (pre := []) (suf := []) (a := 0) (b := 10) (hp := 13) (ct := 48) rfl z_pre0 (by decide) (by decide) z_lk48 z_ca48 rfl (Or.inl rfl) (by decide +kernel) rfl rfl (by rw [e]; decide) rfl rfl (by omega) hq hX ho q
theorem z_end_row {x : z_PV} {a : Int32} : ((z_fRow x a).1 = 0 ∨ (z_fRow x a).1 = 1) ∧ (z_fRow x a).2.2 = x := by
  unfold z_fRow
  (repeat' split) <;> first | exact ⟨Or.inl rfl, rfl⟩ | exact ⟨Or.inr rfl, rfl⟩
theorem cW_row {a : Int32} (hP : z_P h 1000 1299 x) (ho : h.2 1297 = some (.inl (3, 1, .inr (.inl f)))) (q : z_wQ h (z_fRow x a) Q) : z_W G 9 4 24 276 0 (z_L0 276 [.ref 1000, .int a, .ref 1297]) [] h Q := by
  refine z_aload_n rfl rfl ?_
  refine z_iconst (v := 0) rfl (by decide) ?_
  refine z_aload_n rfl rfl ?_
  refine z_iload_n rfl rfl ?_
  refine z_callV (av := [_]) rfl z_w122 hP.cell.choose_spec rfl rfl rfl rfl rfl (Nat.le_of_ble_eq_true rfl) (Nat.le_of_ble_eq_true rfl) (Nat.le_of_ble_eq_true rfl) (Nat.le_of_ble_eq_true rfl) (cP_row hP fun h' hP' hX => ?_)
  have e9 : (z_fRow x a).2.2 = x := (z_end_row (x := x) (a := a)).2
  have hq : z_P h' 1000 1299 (z_fRow x a).2.2 := by rw [e9]; exact hP'
  rcases (z_end_row (x := x) (a := a)).1 with e | e
  · rw [z_oc0 e]
    exact z_wok (i3 := []) rfl rfl rfl rfl rfl rfl e hq hX ho q
  · rw [z_oc1 e]
    exact z_wthr (q9 := 3) (pre := []) (suf := []) (a := 0) (b := 9) (hp := 12) (ct := 68) rfl z_pre0 (by decide) (by decide) z_lk68 z_ca68 rfl (Or.inr ⟨3, rfl, rfl⟩) (by decide +kernel) rfl rfl (by rw [e]; decide) rfl rfl (by omega) hq hX ho q
theorem z_end_rowIn {x : z_PV} {a b : Int32} : ((z_fRowIn x a b).1 = 0 ∨ (z_fRowIn x a b).1 = 1 ∨ (z_fRowIn x a b).1 = 2) ∧ (z_fRowIn x a b).2.2 = x := by
  unfold z_fRowIn
  (repeat' split) <;> first | exact ⟨Or.inl rfl, rfl⟩ | exact ⟨Or.inr (Or.inl rfl), rfl⟩ | exact ⟨Or.inr (Or.inr rfl), rfl⟩
theorem cW_rowIn {a b : Int32} (hP : z_P h 1000 1299 x) (ho : h.2 1297 = some (.inl (3, 1, .inr (.inl f)))) (q : z_wQ h (z_fRowIn x a b) Q) : z_W G 9 4 24 277 0 (z_L0 277 [.ref 1000, .int a, .int b, .ref 1297]) [] h Q := by
  refine z_aload_n rfl rfl ?_
  refine z_iconst (v := 0) rfl (by decide) ?_
  refine z_aload_n rfl rfl ?_
  refine z_iload_n rfl rfl ?_
  refine z_iload_n rfl rfl ?_
  refine z_callV (av := [_, _]) rfl z_w123 hP.cell.choose_spec rfl rfl rfl rfl rfl (Nat.le_of_ble_eq_true rfl) (Nat.le_of_ble_eq_true rfl) (Nat.le_of_ble_eq_true rfl) (Nat.le_of_ble_eq_true rfl) (cP_rowIn hP fun h' hP' hX => ?_)
  have e9 : (z_fRowIn x a b).2.2 = x := (z_end_rowIn (x := x) (a := a) (b := b)).2
  have hq : z_P h' 1000 1299 (z_fRowIn x a b).2.2 := by rw [e9]; exact hP'
  rcases (z_end_rowIn (x := x) (a := a) (b := b)).1 with e | e | e
  · rw [z_oc0 e]
    exact z_wok (i3 := []) rfl rfl rfl rfl rfl rfl e hq hX ho q
  · rw [z_oc1 e]
    exact z_wthr (q9 := 4) (pre := []) (suf := [(0, 10, 17, 68)]) (a := 0) (b := 10) (hp := 13) (ct := 50) rfl z_pre0 (by decide) (by decide) z_lk50 z_ca50 rfl (Or.inl rfl) (by decide +kernel) rfl rfl (by rw [e]; decide) rfl rfl (by omega) hq hX ho q
  · rw [z_oc2 e]
    exact z_wthr (q9 := 4) (pre := [(0, 10, 13, 50)]) (suf := []) (a := 0) (b := 10) (hp := 17) (ct := 68) rfl (z_pre1 (by decide) z_lk50 z_nc68_50) (by decide) (by decide) z_lk68 z_ca68 rfl (Or.inl rfl) (by decide +kernel) rfl rfl (by rw [e]; decide) rfl rfl (by omega) hq hX ho q
theorem z_end_rowAgain {x : z_PV} {a b : Int32} : ((z_fRowAgain x a b).1 = 0 ∨ (z_fRowAgain x a b).1 = 1 ∨ (z_fRowAgain x a b).1 = 2) ∧ (z_fRowAgain x a b).2.2 = x := by
  unfold z_fRowAgain
  (repeat' split) <;> first | exact ⟨Or.inl rfl, rfl⟩ | exact ⟨Or.inr (Or.inl rfl), rfl⟩ | exact ⟨Or.inr (Or.inr rfl), rfl⟩
theorem cW_rowAgain {a b : Int32} (hP : z_P h 1000 1299 x) (ho : h.2 1297 = some (.inl (3, 1, .inr (.inl f)))) (q : z_wQ h (z_fRowAgain x a b) Q) : z_W G 9 4 24 278 0 (z_L0 278 [.ref 1000, .int a, .int b, .ref 1297]) [] h Q := by
  refine z_aload_n rfl rfl ?_
  refine z_iconst (v := 0) rfl (by decide) ?_
  refine z_aload_n rfl rfl ?_
  refine z_iload_n rfl rfl ?_
  refine z_iload_n rfl rfl ?_
  refine z_callV (av := [_, _]) rfl z_w124 hP.cell.choose_spec rfl rfl rfl rfl rfl (Nat.le_of_ble_eq_true rfl) (Nat.le_of_ble_eq_true rfl) (Nat.le_of_ble_eq_true rfl) (Nat.le_of_ble_eq_true rfl) (cP_rowAgain hP fun h' hP' hX => ?_)
  have e9 : (z_fRowAgain x a b).2.2 = x := (z_end_rowAgain (x := x) (a := a) (b := b)).2
  have hq : z_P h' 1000 1299 (z_fRowAgain x a b).2.2 := by rw [e9]; exact hP'
  rcases (z_end_rowAgain (x := x) (a := a) (b := b)).1 with e | e | e
  · rw [z_oc0 e]
    exact z_wok (i3 := []) rfl rfl rfl rfl rfl rfl e hq hX ho q
  · rw [z_oc1 e]
    exact z_wthr (q9 := 4) (pre := []) (suf := [(0, 10, 17, 68)]) (a := 0) (b := 10) (hp := 13) (ct := 50) rfl z_pre0 (by decide) (by decide) z_lk50 z_ca50 rfl (Or.inl rfl) (by decide +kernel) rfl rfl (by rw [e]; decide) rfl rfl (by omega) hq hX ho q
  · rw [z_oc2 e]
    exact z_wthr (q9 := 4) (pre := [(0, 10, 13, 50)]) (suf := []) (a := 0) (b := 10) (hp := 17) (ct := 68) rfl (z_pre1 (by decide) z_lk50 z_nc68_50) (by decide) (by decide) z_lk68 z_ca68 rfl (Or.inl rfl) (by decide +kernel) rfl rfl (by rw [e]; decide) rfl rfl (by omega) hq hX ho q
theorem z_end_next {x : z_PV} : ((z_fNext x).1 = 0 ∨ (z_fNext x).1 = 1) ∧ (z_fNext x).2.2 = x := by
  unfold z_fNext
  (repeat' split) <;> first | exact ⟨Or.inl rfl, rfl⟩ | exact ⟨Or.inr rfl, rfl⟩
theorem cW_next (hP : z_P h 1000 1299 x) (ho : h.2 1297 = some (.inl (3, 1, .inr (.inl f)))) (q : z_wQ h (z_fNext x) Q) : z_W G 9 4 24 279 0 (z_L0 279 [.ref 1000, .ref 1297]) [] h Q := by
  refine z_aload_n rfl rfl ?_
  refine z_iconst (v := 0) rfl (by decide) ?_
  refine z_aload_n rfl rfl ?_
  refine z_callV (av := []) rfl z_w125 hP.cell.choose_spec rfl rfl rfl rfl rfl (Nat.le_of_ble_eq_true rfl) (Nat.le_of_ble_eq_true rfl) (Nat.le_of_ble_eq_true rfl) (Nat.le_of_ble_eq_true rfl) (cP_next hP fun h' hP' hX => ?_)
  have e9 : (z_fNext x).2.2 = x := (z_end_next (x := x)).2
  have hq : z_P h' 1000 1299 (z_fNext x).2.2 := by rw [e9]; exact hP'
  rcases (z_end_next (x := x)).1 with e | e
  · rw [z_oc0 e]
    exact z_wok (i3 := []) rfl rfl rfl rfl rfl rfl e hq hX ho q
  · rw [z_oc1 e]
    exact z_wthr (q9 := 2) (pre := []) (suf := []) (a := 0) (b := 8) (hp := 11) (ct := 68) rfl z_pre0 (by decide) (by decide) z_lk68 z_ca68 rfl (Or.inr ⟨2, rfl, rfl⟩) (by decide +kernel) rfl rfl (by rw [e]; decide) rfl rfl (by omega) hq hX ho q
theorem z_end_silentIn {x : z_PV} {a : Int32} : ((z_fSilentIn x a).1 = 0 ∨ (z_fSilentIn x a).1 = 1) ∧ (z_fSilentIn x a).2.2 = x := by
  unfold z_fSilentIn
  (repeat' split) <;> first | exact ⟨Or.inl rfl, rfl⟩ | exact ⟨Or.inr rfl, rfl⟩
theorem cW_silentIn {a : Int32} (hP : z_P h 1000 1299 x) (ho : h.2 1297 = some (.inl (3, 1, .inr (.inl f)))) (q : z_wQ h (z_fSilentIn x a) Q) : z_W G 9 4 24 280 0 (z_L0 280 [.ref 1000, .int a, .ref 1297]) [] h Q := by
  refine z_aload_n rfl rfl ?_
  refine z_iconst (v := 0) rfl (by decide) ?_
  refine z_aload_n rfl rfl ?_
  refine z_iload_n rfl rfl ?_
  refine z_callV (av := [_]) rfl z_w126 hP.cell.choose_spec rfl rfl rfl rfl rfl (Nat.le_of_ble_eq_true rfl) (Nat.le_of_ble_eq_true rfl) (Nat.le_of_ble_eq_true rfl) (Nat.le_of_ble_eq_true rfl) (cP_silentIn hP fun h' hP' hX => ?_)
  have e9 : (z_fSilentIn x a).2.2 = x := (z_end_silentIn (x := x) (a := a)).2
  have hq : z_P h' 1000 1299 (z_fSilentIn x a).2.2 := by rw [e9]; exact hP'
  rcases (z_end_silentIn (x := x) (a := a)).1 with e | e
  · rw [z_oc0 e]
    exact z_wok (i3 := []) rfl rfl rfl rfl rfl rfl e hq hX ho q
  · rw [z_oc1 e]
    exact z_wthr (q9 := 3) (pre := []) (suf := []) (a := 0) (b := 9) (hp := 12) (ct := 48) rfl z_pre0 (by decide) (by decide) z_lk48 z_ca48 rfl (Or.inr ⟨3, rfl, rfl⟩) (by decide +kernel) rfl rfl (by rw [e]; decide) rfl rfl (by omega) hq hX ho q
theorem z_end_secondIn {x : z_PV} {a b : Int32} : ((z_fSecondIn x a b).1 = 0 ∨ (z_fSecondIn x a b).1 = 1 ∨ (z_fSecondIn x a b).1 = 2) ∧ (z_fSecondIn x a b).2.2 = x := by
  unfold z_fSecondIn
  (repeat' split) <;> first | exact ⟨Or.inl rfl, rfl⟩ | exact ⟨Or.inr (Or.inl rfl), rfl⟩ | exact ⟨Or.inr (Or.inr rfl), rfl⟩
theorem cW_secondIn {a b : Int32} (hP : z_P h 1000 1299 x) (ho : h.2 1297 = some (.inl (3, 1, .inr (.inl f)))) (q : z_wQ h (z_fSecondIn x a b) Q) : z_W G 9 4 24 281 0 (z_L0 281 [.ref 1000, .int a, .int b, .ref 1297]) [] h Q := by
  refine z_aload_n rfl rfl ?_
  refine z_iconst (v := 0) rfl (by decide) ?_
  refine z_aload_n rfl rfl ?_
  refine z_iload_n rfl rfl ?_
  refine z_iload_n rfl rfl ?_
  refine z_callV (av := [_, _]) rfl z_w127 hP.cell.choose_spec rfl rfl rfl rfl rfl (Nat.le_of_ble_eq_true rfl) (Nat.le_of_ble_eq_true rfl) (Nat.le_of_ble_eq_true rfl) (Nat.le_of_ble_eq_true rfl) (cP_secondIn hP fun h' hP' hX => ?_)
  have e9 : (z_fSecondIn x a b).2.2 = x := (z_end_secondIn (x := x) (a := a) (b := b)).2
  have hq : z_P h' 1000 1299 (z_fSecondIn x a b).2.2 := by rw [e9]; exact hP'
  rcases (z_end_secondIn (x := x) (a := a) (b := b)).1 with e | e | e
  · rw [z_oc0 e]
    exact z_wok (i3 := []) rfl rfl rfl rfl rfl rfl e hq hX ho q
  · rw [z_oc1 e]
    exact z_wthr (q9 := 4) (pre := []) (suf := [(0, 10, 17, 50)]) (a := 0) (b := 10) (hp := 13) (ct := 48) rfl z_pre0 (by decide) (by decide) z_lk48 z_ca48 rfl (Or.inl rfl) (by decide +kernel) rfl rfl (by rw [e]; decide) rfl rfl (by omega) hq hX ho q
  · rw [z_oc2 e]
    exact z_wthr (q9 := 4) (pre := [(0, 10, 13, 48)]) (suf := []) (a := 0) (b := 10) (hp := 17) (ct := 50) rfl (z_pre1 (by decide) z_lk48 z_nc50_48) (by decide) (by decide) z_lk50 z_ca50 rfl (Or.inl rfl) (by decide +kernel) rfl rfl (by rw [e]; decide) rfl rfl (by omega) hq hX ho q
theorem z_end_voters {x : z_PV} {a : Int32} : ((z_fVoters x a).1 = 0 ∨ (z_fVoters x a).1 = 1) ∧ (z_fVoters x a).2.2 = x := by
  unfold z_fVoters
  (repeat' split) <;> first | exact ⟨Or.inl rfl, rfl⟩ | exact ⟨Or.inr rfl, rfl⟩
theorem cW_voters {a : Int32} (hP : z_P h 1000 1299 x) (ho : h.2 1297 = some (.inl (3, 1, .inr (.inl f)))) (q : z_wQ h (z_fVoters x a) Q) : z_W G 9 4 24 282 0 (z_L0 282 [.ref 1000, .int a, .ref 1297]) [] h Q := by
  refine z_aload_n rfl rfl ?_
  refine z_iconst (v := 0) rfl (by decide) ?_
  refine z_aload_n rfl rfl ?_
  refine z_iload_n rfl rfl ?_
  refine z_callV (av := [_]) rfl z_w131 hP.cell.choose_spec rfl rfl rfl rfl rfl (Nat.le_of_ble_eq_true rfl) (Nat.le_of_ble_eq_true rfl) (Nat.le_of_ble_eq_true rfl) (Nat.le_of_ble_eq_true rfl) (cP_voters hP fun h' hP' hX => ?_)
  have e9 : (z_fVoters x a).2.2 = x := (z_end_voters (x := x) (a := a)).2
  have hq : z_P h' 1000 1299 (z_fVoters x a).2.2 := by rw [e9]; exact hP'
  rcases (z_end_voters (x := x) (a := a)).1 with e | e
  · rw [z_oc0 e]
    exact z_wok (i3 := []) rfl rfl rfl rfl rfl rfl e hq hX ho q
  · rw [z_oc1 e]
    exact z_wthr (q9 := 3) (pre := []) (suf := []) (a := 0) (b := 9) (hp := 12) (ct := 48) rfl z_pre0 (by decide) (by decide) z_lk48 z_ca48 rfl (Or.inr ⟨3, rfl, rfl⟩) (by decide +kernel) rfl rfl (by rw [e]; decide) rfl rfl (by omega) hq hX ho q
theorem z_end_majority {x : z_PV} {a : Int32} : ((z_fMajority x a).1 = 0 ∨ (z_fMajority x a).1 = 1) ∧ (z_fMajority x a).2.2 = x := by
  unfold z_fMajority
  (repeat' split) <;> first | exact ⟨Or.inl rfl, rfl⟩ | exact ⟨Or.inr rfl, rfl⟩
theorem cW_majority {a : Int32} (hP : z_P h 1000 1299 x) (ho : h.2 1297 = some (.inl (3, 1, .inr (.inl f)))) (q : z_wQ h (z_fMajority x a) Q) : z_W G 9 4 24 283 0 (z_L0 283 [.ref 1000, .int a, .ref 1297]) [] h Q := by
  refine z_aload_n rfl rfl ?_
  refine z_iconst (v := 0) rfl (by decide) ?_
  refine z_aload_n rfl rfl ?_
  refine z_iload_n rfl rfl ?_
  refine z_callV (av := [_]) rfl z_w132 hP.cell.choose_spec rfl rfl rfl rfl rfl (Nat.le_of_ble_eq_true rfl) (Nat.le_of_ble_eq_true rfl) (Nat.le_of_ble_eq_true rfl) (Nat.le_of_ble_eq_true rfl) (cP_majority hP fun h' hP' hX => ?_)
  have e9 : (z_fMajority x a).2.2 = x := (z_end_majority (x := x) (a := a)).2
  have hq : z_P h' 1000 1299 (z_fMajority x a).2.2 := by rw [e9]; exact hP'
  rcases (z_end_majority (x := x) (a := a)).1 with e | e
  · rw [z_oc0 e]
    exact z_wok (i3 := []) rfl rfl rfl rfl rfl rfl e hq hX ho q
  · rw [z_oc1 e]
    exact z_wthr (q9 := 3) (pre := []) (suf := []) (a := 0) (b := 9) (hp := 12) (ct := 48) rfl z_pre0 (by decide) (by decide) z_lk48 z_ca48 rfl (Or.inr ⟨3, rfl, rfl⟩) (by decide +kernel) rfl rfl (by rw [e]; decide) rfl rfl (by omega) hq hX ho q
theorem z_end_majorityAgain {x : z_PV} {a : Int32} : ((z_fMajorityAgain x a).1 = 0 ∨ (z_fMajorityAgain x a).1 = 1) ∧ (z_fMajorityAgain x a).2.2 = x := by
  unfold z_fMajorityAgain
  (repeat' split) <;> first | exact ⟨Or.inl rfl, rfl⟩ | exact ⟨Or.inr rfl, rfl⟩
theorem cW_majorityAgain {a : Int32} (hP : z_P h 1000 1299 x) (ho : h.2 1297 = some (.inl (3, 1, .inr (.inl f)))) (q : z_wQ h (z_fMajorityAgain x a) Q) : z_W G 9 4 24 284 0 (z_L0 284 [.ref 1000, .int a, .ref 1297]) [] h Q := by
  refine z_aload_n rfl rfl ?_
  refine z_iconst (v := 0) rfl (by decide) ?_
  refine z_aload_n rfl rfl ?_
  refine z_iload_n rfl rfl ?_
  refine z_callV (av := [_]) rfl z_w133 hP.cell.choose_spec rfl rfl rfl rfl rfl (Nat.le_of_ble_eq_true rfl) (Nat.le_of_ble_eq_true rfl) (Nat.le_of_ble_eq_true rfl) (Nat.le_of_ble_eq_true rfl) (cP_majorityAgain hP fun h' hP' hX => ?_)
  have e9 : (z_fMajorityAgain x a).2.2 = x := (z_end_majorityAgain (x := x) (a := a)).2
  have hq : z_P h' 1000 1299 (z_fMajorityAgain x a).2.2 := by rw [e9]; exact hP'
  rcases (z_end_majorityAgain (x := x) (a := a)).1 with e | e
  · rw [z_oc0 e]
    exact z_wok (i3 := []) rfl rfl rfl rfl rfl rfl e hq hX ho q
  · rw [z_oc1 e]
    exact z_wthr (q9 := 3) (pre := []) (suf := []) (a := 0) (b := 9) (hp := 12) (ct := 48) rfl z_pre0 (by decide) (by decide) z_lk48 z_ca48 rfl (Or.inr ⟨3, rfl, rfl⟩) (by decide +kernel) rfl rfl (by rw [e]; decide) rfl rfl (by omega) hq hX ho q
theorem z_end_weakest {x : z_PV} : ((z_fWeakest x).1 = 0 ∨ (z_fWeakest x).1 = 1) ∧ (z_fWeakest x).2.2 = x := by
  unfold z_fWeakest
  (repeat' split) <;> first | exact ⟨Or.inl rfl, rfl⟩ | exact ⟨Or.inr rfl, rfl⟩
theorem cW_weakest (hP : z_P h 1000 1299 x) (ho : h.2 1297 = some (.inl (3, 1, .inr (.inl f)))) (q : z_wQ h (z_fWeakest x) Q) : z_W G 9 4 24 286 0 (z_L0 286 [.ref 1000, .ref 1297]) [] h Q := by
  refine z_aload_n rfl rfl ?_
  refine z_iconst (v := 0) rfl (by decide) ?_
  refine z_aload_n rfl rfl ?_
  refine z_callV (av := []) rfl z_w136 hP.cell.choose_spec rfl rfl rfl rfl rfl (Nat.le_of_ble_eq_true rfl) (Nat.le_of_ble_eq_true rfl) (Nat.le_of_ble_eq_true rfl) (Nat.le_of_ble_eq_true rfl) (cP_weakest hP fun h' hP' hX => ?_)
  have e9 : (z_fWeakest x).2.2 = x := (z_end_weakest (x := x)).2
  have hq : z_P h' 1000 1299 (z_fWeakest x).2.2 := by rw [e9]; exact hP'
  rcases (z_end_weakest (x := x)).1 with e | e
  · rw [z_oc0 e]
    exact z_wok (i3 := []) rfl rfl rfl rfl rfl rfl e hq hX ho q
  · rw [z_oc1 e]
    exact z_wthr (q9 := 2) (pre := []) (suf := []) (a := 0) (b := 8) (hp := 11) (ct := 68) rfl z_pre0 (by decide) (by decide) z_lk68 z_ca68 rfl (Or.inr ⟨2, rfl, rfl⟩) (by decide +kernel) rfl rfl (by rw [e]; decide) rfl rfl (by omega) hq hX ho q
theorem z_end_circle {x : z_PV} {a : Int32} : ((z_fCircle x a).1 = 0 ∨ (z_fCircle x a).1 = 1) ∧ (z_fCircle x a).2.2 = x := by
  unfold z_fCircle
  (repeat' split) <;> first | exact ⟨Or.inl rfl, rfl⟩ | exact ⟨Or.inr rfl, rfl⟩
theorem cW_circle {a : Int32} (hP : z_P h 1000 1299 x) (ho : h.2 1297 = some (.inl (3, 1, .inr (.inl f)))) (q : z_wQ h (z_fCircle x a) Q) : z_W G 9 4 24 287 0 (z_L0 287 [.ref 1000, .int a, .ref 1297]) [] h Q := by
  refine z_aload_n rfl rfl ?_
  refine z_iconst (v := 0) rfl (by decide) ?_
  refine z_aload_n rfl rfl ?_
  refine z_iload_n rfl rfl ?_
  refine z_callV (av := [_]) rfl z_w137 hP.cell.choose_spec rfl rfl rfl rfl rfl (Nat.le_of_ble_eq_true rfl) (Nat.le_of_ble_eq_true rfl) (Nat.le_of_ble_eq_true rfl) (Nat.le_of_ble_eq_true rfl) (cP_circle hP fun h' hP' hX => ?_)
  have e9 : (z_fCircle x a).2.2 = x := (z_end_circle (x := x) (a := a)).2
  have hq : z_P h' 1000 1299 (z_fCircle x a).2.2 := by rw [e9]; exact hP'
  rcases (z_end_circle (x := x) (a := a)).1 with e | e
  · rw [z_oc0 e]
    exact z_wok (i3 := []) rfl rfl rfl rfl rfl rfl e hq hX ho q
  · rw [z_oc1 e]
    exact z_wthr (q9 := 3) (pre := []) (suf := []) (a := 0) (b := 9) (hp := 12) (ct := 48) rfl z_pre0 (by decide) (by decide) z_lk48 z_ca48 rfl (Or.inr ⟨3, rfl, rfl⟩) (by decide +kernel) rfl rfl (by rw [e]; decide) rfl rfl (by omega) hq hX ho q
theorem z_end_ranked {x : z_PV} {a b : Int32} : ((z_fRanked x a b).1 = 0 ∨ (z_fRanked x a b).1 = 1 ∨ (z_fRanked x a b).1 = 2) ∧ (z_fRanked x a b).2.2 = x := by
  unfold z_fRanked
  (repeat' split) <;> first | exact ⟨Or.inl rfl, rfl⟩ | exact ⟨Or.inr (Or.inl rfl), rfl⟩ | exact ⟨Or.inr (Or.inr rfl), rfl⟩
theorem cW_ranked {a b : Int32} (hP : z_P h 1000 1299 x) (ho : h.2 1297 = some (.inl (3, 1, .inr (.inl f)))) (q : z_wQ h (z_fRanked x a b) Q) : z_W G 9 4 24 288 0 (z_L0 288 [.ref 1000, .int a, .int b, .ref 1297]) [] h Q := by
  refine z_aload_n rfl rfl ?_
  refine z_iconst (v := 0) rfl (by decide) ?_
  refine z_aload_n rfl rfl ?_
  refine z_iload_n rfl rfl ?_
  refine z_iload_n rfl rfl ?_
  refine z_callV (av := [_, _]) rfl z_w138 hP.cell.choose_spec rfl rfl rfl rfl rfl (Nat.le_of_ble_eq_true rfl) (Nat.le_of_ble_eq_true rfl) (Nat.le_of_ble_eq_true rfl) (Nat.le_of_ble_eq_true rfl) (cP_ranked hP fun h' hP' hX => ?_)
  have e9 : (z_fRanked x a b).2.2 = x := (z_end_ranked (x := x) (a := a) (b := b)).2
  have hq : z_P h' 1000 1299 (z_fRanked x a b).2.2 := by rw [e9]; exact hP'
  rcases (z_end_ranked (x := x) (a := a) (b := b)).1 with e | e | e
  · rw [z_oc0 e]
    exact z_wok (i3 := []) rfl rfl rfl rfl rfl rfl e hq hX ho q
  · rw [z_oc1 e]
    exact z_wthr (q9 := 4) (pre := []) (suf := [(0, 10, 17, 68)]) (a := 0) (b := 10) (hp := 13) (ct := 50) rfl z_pre0 (by decide) (by decide) z_lk50 z_ca50 rfl (Or.inl rfl) (by decide +kernel) rfl rfl (by rw [e]; decide) rfl rfl (by omega) hq hX ho q
  · rw [z_oc2 e]
    exact z_wthr (q9 := 4) (pre := [(0, 10, 13, 50)]) (suf := []) (a := 0) (b := 10) (hp := 17) (ct := 68) rfl (z_pre1 (by decide) z_lk50 z_nc68_50) (by decide) (by decide) z_lk68 z_ca68 rfl (Or.inl rfl) (by decide +kernel) rfl rfl (by rw [e]; decide) rfl rfl (by omega) hq hX ho q
theorem z_end_character {x : z_PV} {a : Int32} : ((z_fCharacter x a).1 = 0 ∨ (z_fCharacter x a).1 = 1) ∧ (z_fCharacter x a).2.2 = x := by
  unfold z_fCharacter
  (repeat' split) <;> first | exact ⟨Or.inl rfl, rfl⟩ | exact ⟨Or.inr rfl, rfl⟩
theorem cW_character {a : Int32} (hP : z_P h 1000 1299 x) (ho : h.2 1297 = some (.inl (3, 1, .inr (.inl f)))) (q : z_wQ h (z_fCharacter x a) Q) : z_W G 9 4 24 294 0 (z_L0 294 [.ref 1000, .int a, .ref 1297]) [] h Q := by
  refine z_aload_n rfl rfl ?_
  refine z_iconst (v := 0) rfl (by decide) ?_
  refine z_aload_n rfl rfl ?_
  refine z_iload_n rfl rfl ?_
  refine z_callV (av := [_]) rfl z_w150 hP.cell.choose_spec rfl rfl rfl rfl rfl (Nat.le_of_ble_eq_true rfl) (Nat.le_of_ble_eq_true rfl) (Nat.le_of_ble_eq_true rfl) (Nat.le_of_ble_eq_true rfl) (cP_character hP fun h' hP' hX => ?_)
  have e9 : (z_fCharacter x a).2.2 = x := (z_end_character (x := x) (a := a)).2
  have hq : z_P h' 1000 1299 (z_fCharacter x a).2.2 := by rw [e9]; exact hP'
  rcases (z_end_character (x := x) (a := a)).1 with e | e
  · rw [z_oc0 e]
    exact z_wok (i3 := []) rfl rfl rfl rfl rfl rfl e hq hX ho q
  · rw [z_oc1 e]
    exact z_wthr (q9 := 3) (pre := []) (suf := []) (a := 0) (b := 9) (hp := 12) (ct := 48) rfl z_pre0 (by decide) (by decide) z_lk48 z_ca48 rfl (Or.inr ⟨3, rfl, rfl⟩) (by decide +kernel) rfl rfl (by rw [e]; decide) rfl rfl (by omega) hq hX ho q
theorem z_ite2 {c : Prop} [Decidable c] {P : z_An → Prop} {a b : z_An} (h1 : P a) (h2 : P b) : P (if c then a else b) := by
  split
  · exact h1
  · exact h2
theorem z_end_account {x : z_PV} {a : Int32} : ((z_fAccount x a).1 = 0 ∨ (z_fAccount x a).1 = 1) ∧ (z_fAccount x a).2.2 = x := by
  unfold z_fAccount
  exact z_ite2 (P := fun r : z_An => (r.1 = 0 ∨ r.1 = 1) ∧ r.2.2 = x) ⟨Or.inl rfl, rfl⟩ (z_ite2 (P := fun r : z_An => (r.1 = 0 ∨ r.1 = 1) ∧ r.2.2 = x) ⟨Or.inl rfl, rfl⟩ (z_ite2 (P := fun r : z_An => (r.1 = 0 ∨ r.1 = 1) ∧ r.2.2 = x) ⟨Or.inl rfl, rfl⟩ (z_ite2 (P := fun r : z_An => (r.1 = 0 ∨ r.1 = 1) ∧ r.2.2 = x) ⟨Or.inl rfl, rfl⟩ (z_ite2 (P := fun r : z_An => (r.1 = 0 ∨ r.1 = 1) ∧ r.2.2 = x) ⟨Or.inl rfl, rfl⟩ (z_ite2 (P := fun r : z_An => (r.1 = 0 ∨ r.1 = 1) ∧ r.2.2 = x) ⟨Or.inl rfl, rfl⟩ (z_ite2 (P := fun r : z_An => (r.1 = 0 ∨ r.1 = 1) ∧ r.2.2 = x) ⟨Or.inl rfl, rfl⟩ (z_ite2 (P := fun r : z_An => (r.1 = 0 ∨ r.1 = 1) ∧ r.2.2 = x) ⟨Or.inl rfl, rfl⟩ (z_ite2 (P := fun r : z_An => (r.1 = 0 ∨ r.1 = 1) ∧ r.2.2 = x) ⟨Or.inl rfl, rfl⟩ (z_ite2 (P := fun r : z_An => (r.1 = 0 ∨ r.1 = 1) ∧ r.2.2 = x) ⟨Or.inl rfl, rfl⟩ (z_ite2 (P := fun r : z_An => (r.1 = 0 ∨ r.1 = 1) ∧ r.2.2 = x) ⟨Or.inl rfl, rfl⟩ (z_ite2 (P := fun r : z_An => (r.1 = 0 ∨ r.1 = 1) ∧ r.2.2 = x) ⟨Or.inl rfl, rfl⟩ (z_ite2 (P := fun r : z_An => (r.1 = 0 ∨ r.1 = 1) ∧ r.2.2 = x) ⟨Or.inl rfl, rfl⟩ (z_ite2 (P := fun r : z_An => (r.1 = 0 ∨ r.1 = 1) ∧ r.2.2 = x) ⟨Or.inl rfl, rfl⟩ (⟨Or.inr rfl, rfl⟩))))))))))))))
theorem cW_account {a : Int32} (hP : z_P h 1000 1299 x) (ho : h.2 1297 = some (.inl (3, 1, .inr (.inl f)))) (q : z_wQ h (z_fAccount x a) Q) : z_W G 9 4 24 295 0 (z_L0 295 [.ref 1000, .int a, .ref 1297]) [] h Q := by
  refine z_aload_n rfl rfl ?_
  refine z_iconst (v := 0) rfl (by decide) ?_
  refine z_aload_n rfl rfl ?_
  refine z_iload_n rfl rfl ?_
  refine z_callV (av := [_]) rfl z_w153 hP.cell.choose_spec rfl rfl rfl rfl rfl (Nat.le_of_ble_eq_true rfl) (Nat.le_of_ble_eq_true rfl) (Nat.le_of_ble_eq_true rfl) (Nat.le_of_ble_eq_true rfl) (cP_account hP fun h' hP' hX => ?_)
  have e9 : (z_fAccount x a).2.2 = x := (z_end_account (x := x) (a := a)).2
  have hq : z_P h' 1000 1299 (z_fAccount x a).2.2 := by rw [e9]; exact hP'
  rcases (z_end_account (x := x) (a := a)).1 with e | e
  · rw [z_oc0 e]
    exact z_wok (i3 := []) rfl rfl rfl rfl rfl rfl e hq hX ho q
  · rw [z_oc1 e]
    exact z_wthr (q9 := 3) (pre := []) (suf := []) (a := 0) (b := 9) (hp := 12) (ct := 50) rfl z_pre0 (by decide) (by decide) z_lk50 z_ca50 rfl (Or.inr ⟨3, rfl, rfl⟩) (by decide +kernel) rfl rfl (by rw [e]; decide) rfl rfl (by omega) hq hX ho q
theorem z_end_doAgree {x : z_PV} {a b : Int32} : (((z_fAgree x a b).1 = 0 ∧ ((z_fAgree x a b).2.1 = 0 ∨ (z_fAgree x a b).2.1 = 1)) ∨ (z_fAgree x a b).1 = 1) ∧ (z_fAgree x a b).2.2 = x := by
  unfold z_fAgree
  (repeat' split) <;> first | exact ⟨Or.inr rfl, rfl⟩ | (refine ⟨Or.inl ⟨rfl, ?_⟩, rfl⟩; show z_I _ = 0 ∨ z_I _ = 1; unfold z_I; split <;> simp)
theorem cW_doAgree {a b : Int32} (hP : z_P h 1000 1299 x) (ho : h.2 1297 = some (.inl (3, 1, .inr (.inl f)))) (q : z_wQ h (z_fAgree x a b) Q) : z_W G 9 4 24 274 0 (z_L0 274 [.ref 1000, .int a, .int b, .ref 1297]) [] h Q := by
  refine z_aload_n rfl rfl ?_
  refine z_iconst (v := 0) rfl (by decide) ?_
  refine z_aload_n rfl rfl ?_
  refine z_iload_n rfl rfl ?_
  refine z_iload_n rfl rfl ?_
  refine z_callV (av := [_, _]) rfl z_w118 hP.cell.choose_spec rfl rfl rfl rfl rfl (Nat.le_of_ble_eq_true rfl) (Nat.le_of_ble_eq_true rfl) (Nat.le_of_ble_eq_true rfl) (Nat.le_of_ble_eq_true rfl) (cP_doAgree hP fun h' hP' hX => ?_)
  have e9 : (z_fAgree x a b).2.2 = x := (z_end_doAgree (x := x) (a := a) (b := b)).2
  have hq : z_P h' 1000 1299 (z_fAgree x a b).2.2 := by rw [e9]; exact hP'
  rcases (z_end_doAgree (x := x) (a := a) (b := b)).1 with ⟨e, eb⟩ | e
  · rw [z_oc0 e]
    exact z_wokB (i3 := []) (i8 := []) rfl rfl rfl rfl rfl rfl rfl rfl rfl e eb hq hX ho q
  · rw [z_oc1 e]
    exact z_wthr (q9 := 4) (pre := []) (suf := []) (a := 0) (b := 17) (hp := 20) (ct := 48) rfl z_pre0 (by decide) (by decide) z_lk48 z_ca48 rfl (Or.inl rfl) (by decide +kernel) rfl rfl (by rw [e]; decide) rfl rfl (by omega) hq hX ho q
theorem z_end_wouldCarry {x : z_PV} {a : Int32} : (((z_fWouldCarry x a).1 = 0 ∧ ((z_fWouldCarry x a).2.1 = 0 ∨ (z_fWouldCarry x a).2.1 = 1)) ∨ (z_fWouldCarry x a).1 = 1) ∧ (z_fWouldCarry x a).2.2 = x := by
  unfold z_fWouldCarry
  (repeat' split) <;> first | exact ⟨Or.inr rfl, rfl⟩ | (refine ⟨Or.inl ⟨rfl, ?_⟩, rfl⟩; show z_I _ = 0 ∨ z_I _ = 1; unfold z_I; split <;> simp)
theorem cW_wouldCarry {a : Int32} (hP : z_P h 1000 1299 x) (ho : h.2 1297 = some (.inl (3, 1, .inr (.inl f)))) (q : z_wQ h (z_fWouldCarry x a) Q) : z_W G 9 4 24 285 0 (z_L0 285 [.ref 1000, .int a, .ref 1297]) [] h Q := by
  refine z_aload_n rfl rfl ?_
  refine z_iconst (v := 0) rfl (by decide) ?_
  refine z_aload_n rfl rfl ?_
  refine z_iload_n rfl rfl ?_
  refine z_callV (av := [_]) rfl z_w134 hP.cell.choose_spec rfl rfl rfl rfl rfl (Nat.le_of_ble_eq_true rfl) (Nat.le_of_ble_eq_true rfl) (Nat.le_of_ble_eq_true rfl) (Nat.le_of_ble_eq_true rfl) (cP_wouldCarry hP fun h' hP' hX => ?_)
  have e9 : (z_fWouldCarry x a).2.2 = x := (z_end_wouldCarry (x := x) (a := a)).2
  have hq : z_P h' 1000 1299 (z_fWouldCarry x a).2.2 := by rw [e9]; exact hP'
  rcases (z_end_wouldCarry (x := x) (a := a)).1 with ⟨e, eb⟩ | e
  · rw [z_oc0 e]
    exact z_wokB (i3 := []) (i8 := []) rfl rfl rfl rfl rfl rfl rfl rfl rfl e eb hq hX ho q
  · rw [z_oc1 e]
    exact z_wthr (q9 := 3) (pre := []) (suf := []) (a := 0) (b := 16) (hp := 19) (ct := 48) rfl z_pre0 (by decide) (by decide) z_lk48 z_ca48 rfl (Or.inr ⟨3, rfl, rfl⟩) (by decide +kernel) rfl rfl (by rw [e]; decide) rfl rfl (by omega) hq hX ho q
theorem z_end_append {x : z_PV} {a : Int32} : ((z_fAppend x a).1 = 0 ∨ (z_fAppend x a).1 = 1 ∨ (z_fAppend x a).1 = 2) := by
  unfold z_fAppend
  (repeat' split) <;> first | exact Or.inl rfl | exact Or.inr (Or.inl rfl) | exact Or.inr (Or.inr rfl)
theorem cW_append {a : Int32} (hP : z_P h 1000 1299 x) (ho : h.2 1297 = some (.inl (3, 1, .inr (.inl f)))) (q : z_wQ h (z_fAppend x a) Q) : z_W G 9 4 300 289 0 (z_L0 289 [.ref 1000, .int a, .ref 1297]) [] h Q := by
  refine z_aload_n rfl rfl ?_
  refine z_iconst (v := 0) rfl (by decide) ?_
  refine z_aload_n rfl rfl ?_
  refine z_iload_n rfl rfl ?_
  refine z_callV (av := [_]) rfl z_w143 hP.cell.choose_spec rfl rfl rfl rfl rfl (Nat.le_of_ble_eq_true rfl) (Nat.le_of_ble_eq_true rfl) (Nat.le_of_ble_eq_true rfl) (Nat.le_of_ble_eq_true rfl) (cP_append hP fun h' hP' hX => ?_)
  rcases z_end_append (x := x) (a := a) with e | e | e
  · rw [z_oc0 e]
    exact z_wok (i3 := []) rfl rfl rfl rfl rfl rfl e hP' hX ho q
  · rw [z_oc1 e]
    exact z_wthr (q9 := 3) (pre := []) (suf := [(0, 9, 15, 111)]) (a := 0) (b := 9) (hp := 12) (ct := 50) rfl z_pre0 (by decide) (by decide) z_lk50 z_ca50 rfl (Or.inr ⟨3, rfl, rfl⟩) (by decide +kernel) rfl rfl (by rw [e]; decide) rfl rfl (by omega) hP' hX ho q
  · rw [z_oc2 e]
    exact z_wthr (q9 := 3) (pre := [(0, 9, 12, 50)]) (suf := []) (a := 0) (b := 9) (hp := 15) (ct := 111) rfl (z_pre1 (by decide) z_lk50 z_nc111_50) (by decide) (by decide) z_lk111 z_ca111 rfl (Or.inr ⟨3, rfl, rfl⟩) (by decide +kernel) rfl rfl (by rw [e]; decide) rfl rfl (by omega) hP' hX ho q
theorem z_end_run {x : z_PV} : (z_fRun x).1 = 0 ∨ (z_fRun x).1 = 1 ∨ (z_fRun x).1 = 2 := by
  unfold z_fRun
  split
  · exact Or.inr (Or.inl rfl)
  · split
    · exact Or.inr (Or.inr rfl)
    · exact Or.inl rfl
theorem cW_run (W : z_HV → Prop) (hW : ∀ v, W v → z_szs v) (hD : ∀ v o, W v → o.1 < 10 → z_ref v o = none → W (z_do v o).1) (hx : W x.1) (hP : z_P h 1000 1299 x) (ho : h.2 1297 = some (.inl (3, 1, .inr (.inl f)))) (q : z_wQ h (z_fRun x) Q) : z_W G 11 4 640 290 0 (z_L0 290 [.ref 1000, .ref 1297]) [] h Q := by
  refine z_aload_n rfl rfl ?_
  refine z_iconst (v := 0) rfl (by decide) ?_
  refine z_aload_n rfl rfl ?_
  refine z_callV (av := []) rfl z_w144 hP.cell.choose_spec rfl rfl rfl rfl rfl (Nat.le_of_ble_eq_true rfl) (Nat.le_of_ble_eq_true rfl) (Nat.le_of_ble_eq_true rfl) (Nat.le_of_ble_eq_true rfl) (cP_run W hW hD hx hP fun h' hP' hX => ?_)
  rcases z_end_run (x := x) with e | e | e
  · rw [z_oc0 e]
    exact z_wok (i3 := []) rfl rfl rfl rfl rfl rfl e hP' hX ho q
  · rw [z_oc1 e]
    exact z_wthr (q9 := 2) (pre := []) (suf := [(0, 8, 14, 13)]) (a := 0) (b := 8) (hp := 11) (ct := 50) rfl z_pre0 (by decide) (by decide) z_lk50 z_ca50 rfl (Or.inr ⟨2, rfl, rfl⟩) (by decide +kernel) rfl rfl (by rw [e]; decide) rfl rfl (by omega) hP' hX ho q
  · rw [z_oc2 e]
    exact z_wthr (q9 := 2) (pre := [(0, 8, 11, 50)]) (suf := []) (a := 0) (b := 8) (hp := 14) (ct := 13) rfl (z_pre1 (by decide) z_lk50 z_nc13_50) (by decide) (by decide) z_lk13 z_ca13 rfl (Or.inr ⟨2, rfl, rfl⟩) (by decide +kernel) rfl rfl (by rw [e]; decide) rfl rfl (by omega) hP' hX ho q
theorem z_end_reason {x : z_PV} {a : Int32} {t : Bool} : ((z_fReason x a (z_I t)).1 = 0 ∨ (z_fReason x a (z_I t)).1 = 1 ∨ (z_fReason x a (z_I t)).1 = 2) ∧ (z_fReason x a (z_I t)).2.2 = x := by
  unfold z_fReason
  (repeat' split) <;> first | exact ⟨Or.inl rfl, rfl⟩ | exact ⟨Or.inr (Or.inl rfl), rfl⟩ | exact ⟨Or.inr (Or.inr rfl), rfl⟩
theorem cW_reason {a : Int32} {t : Bool} (hP : z_P h 1000 1299 x) (ho : h.2 1297 = some (.inl (3, 1, .inr (.inl f)))) (q : z_wQ h (z_fReason x a (z_I t)) Q) : z_W G 9 4 24 291 0 (z_L0 291 [.ref 1000, .int a, .int (z_I t), .ref 1297]) [] h Q := by
  refine z_aload_n rfl rfl ?_
  refine z_iconst (v := 0) rfl (by decide) ?_
  refine z_aload_n rfl rfl ?_
  refine z_iload_n rfl rfl ?_
  refine z_iload_n rfl rfl ?_
  refine z_callV (av := [_, _]) rfl z_w146 hP.cell.choose_spec rfl rfl rfl rfl rfl (Nat.le_of_ble_eq_true rfl) (Nat.le_of_ble_eq_true rfl) (Nat.le_of_ble_eq_true rfl) (Nat.le_of_ble_eq_true rfl) (cP_reason hP fun h' hP' hX => ?_)
  have e9 : (z_fReason x a (z_I t)).2.2 = x := (z_end_reason (x := x) (a := a) (t := t)).2
  have hq : z_P h' 1000 1299 (z_fReason x a (z_I t)).2.2 := by rw [e9]; exact hP'
  rcases (z_end_reason (x := x) (a := a) (t := t)).1 with e | e | e
  · rw [z_oc0 e]
    exact z_wok (i3 := []) rfl rfl rfl rfl rfl rfl e hq hX ho q
  · rw [z_oc1 e]
    exact z_wthr (q9 := 4) (pre := []) (suf := [(0, 10, 17, 68)]) (a := 0) (b := 10) (hp := 13) (ct := 50) rfl z_pre0 (by decide) (by decide) z_lk50 z_ca50 rfl (Or.inl rfl) (by decide +kernel) rfl rfl (by rw [e]; decide) rfl rfl (by omega) hq hX ho q
  · rw [z_oc2 e]
    exact z_wthr (q9 := 4) (pre := [(0, 10, 13, 50)]) (suf := []) (a := 0) (b := 10) (hp := 17) (ct := 68) rfl (z_pre1 (by decide) z_lk50 z_nc68_50) (by decide) (by decide) z_lk68 z_ca68 rfl (Or.inl rfl) (by decide +kernel) rfl rfl (by rw [e]; decide) rfl rfl (by omega) hq hX ho q
theorem z_end_tell {x : z_PV} {a : Int32} : ((z_fTell x a).1 = 0 ∨ (z_fTell x a).1 = 1) := by
  unfold z_fTell
  (repeat' split) <;> first | exact Or.inl rfl | exact Or.inr rfl
theorem cW_tell {a : Int32} (ht : ∀ j, j < 3 → z_two (z_a x.1.1 j a)) (hP : z_P h 1000 1299 x) (ho : h.2 1297 = some (.inl (3, 1, .inr (.inl f)))) (q : z_wQ h (z_fTell x a) Q) : z_W G 9 20 4000 292 0 (z_L0 292 [.ref 1000, .int a, .ref 1297]) [] h Q := by
  refine z_aload_n rfl rfl ?_
  refine z_iconst (v := 0) rfl (by decide) ?_
  refine z_aload_n rfl rfl ?_
  refine z_iload_n rfl rfl ?_
  refine z_callV (av := [_]) rfl z_w147 hP.cell.choose_spec rfl rfl rfl rfl rfl (Nat.le_of_ble_eq_true rfl) (Nat.le_of_ble_eq_true rfl) (Nat.le_of_ble_eq_true rfl) (Nat.le_of_ble_eq_true rfl) (cP_tell ht hP fun h' hP' hX => ?_)
  rcases z_end_tell (x := x) (a := a) with e | e
  · rw [z_oc0 e]
    exact z_wok (i3 := []) rfl rfl rfl rfl rfl rfl e hP' hX ho q
  · rw [z_oc1 e]
    exact z_wthr (q9 := 3) (pre := []) (suf := []) (a := 0) (b := 9) (hp := 12) (ct := 48) rfl z_pre0 (by decide) (by decide) z_lk48 z_ca48 rfl (Or.inr ⟨3, rfl, rfl⟩) (by decide +kernel) rfl rfl (by rw [e]; decide) rfl rfl (by omega) hP' hX ho q
theorem z_end_tellBill {x : z_PV} {a : Int32} : ((z_fTellBill x a).1 = 0 ∨ (z_fTellBill x a).1 = 1) := by
  unfold z_fTellBill
  (repeat' split) <;> first | exact Or.inl rfl | exact Or.inr rfl
theorem cW_tellBill {a : Int32} (ht : ∀ j, 0 < j → j < 4 → z_two (z_a x.1.2.1 j a)) (hP : z_P h 1000 1299 x) (ho : h.2 1297 = some (.inl (3, 1, .inr (.inl f)))) (q : z_wQ h (z_fTellBill x a) Q) : z_W G 9 20 4000 293 0 (z_L0 293 [.ref 1000, .int a, .ref 1297]) [] h Q := by
  refine z_aload_n rfl rfl ?_
  refine z_iconst (v := 0) rfl (by decide) ?_
  refine z_aload_n rfl rfl ?_
  refine z_iload_n rfl rfl ?_
  refine z_callV (av := [_]) rfl z_w148 hP.cell.choose_spec rfl rfl rfl rfl rfl (Nat.le_of_ble_eq_true rfl) (Nat.le_of_ble_eq_true rfl) (Nat.le_of_ble_eq_true rfl) (Nat.le_of_ble_eq_true rfl) (cP_tellBill ht hP fun h' hP' hX => ?_)
  rcases z_end_tellBill (x := x) (a := a) with e | e
  · rw [z_oc0 e]
    exact z_wok (i3 := []) rfl rfl rfl rfl rfl rfl e hP' hX ho q
  · rw [z_oc1 e]
    exact z_wthr (q9 := 3) (pre := []) (suf := []) (a := 0) (b := 9) (hp := 12) (ct := 48) rfl z_pre0 (by decide) (by decide) z_lk48 z_ca48 rfl (Or.inr ⟨3, rfl, rfl⟩) (by decide +kernel) rfl rfl (by rw [e]; decide) rfl rfl (by omega) hP' hX ho q
theorem z_end_undo {x : z_PV} : ((z_fUndo x).1 = 0 ∨ (z_fUndo x).1 = 1) := by
  unfold z_fUndo
  (repeat' split) <;> first | exact Or.inl rfl | exact Or.inr rfl
theorem cW_undo (hP : z_P h 1000 1299 x) (ho : h.2 1297 = some (.inl (3, 1, .inr (.inl f)))) (q : z_wQ h (z_fUndo x) Q) : z_W G 9 4 24 298 0 (z_L0 298 [.ref 1000, .ref 1297]) [] h Q := by
  refine z_aload_n rfl rfl ?_
  refine z_iconst (v := 0) rfl (by decide) ?_
  refine z_aload_n rfl rfl ?_
  refine z_callV (av := []) rfl z_w156 hP.cell.choose_spec rfl rfl rfl rfl rfl (Nat.le_of_ble_eq_true rfl) (Nat.le_of_ble_eq_true rfl) (Nat.le_of_ble_eq_true rfl) (Nat.le_of_ble_eq_true rfl) (cP_undo hP fun h' hP' hX => ?_)
  rcases z_end_undo (x := x) with e | e
  · rw [z_oc0 e]
    exact z_wok (i3 := []) rfl rfl rfl rfl rfl rfl e hP' hX ho q
  · rw [z_oc1 e]
    exact z_wthr (q9 := 2) (pre := []) (suf := []) (a := 0) (b := 8) (hp := 11) (ct := 111) rfl z_pre0 (by decide) (by decide) z_lk111 z_ca111 rfl (Or.inr ⟨2, rfl, rfl⟩) (by decide +kernel) rfl rfl (by rw [e]; decide) rfl rfl (by omega) hP' hX ho q
theorem z_end_restore {x : z_PV} : ((z_fRestore x).1 = 0 ∨ (z_fRestore x).1 = 1) := by
  unfold z_fRestore
  (repeat' split) <;> first | exact Or.inl rfl | exact Or.inr rfl
theorem cW_restore (hP : z_P h 1000 1299 x) (ho : h.2 1297 = some (.inl (3, 1, .inr (.inl f)))) (q : z_wQ h (z_fRestore x) Q) : z_W G 9 4 24 299 0 (z_L0 299 [.ref 1000, .ref 1297]) [] h Q := by
  refine z_aload_n rfl rfl ?_
  refine z_iconst (v := 0) rfl (by decide) ?_
  refine z_aload_n rfl rfl ?_
  refine z_callV (av := []) rfl z_w158 hP.cell.choose_spec rfl rfl rfl rfl rfl (Nat.le_of_ble_eq_true rfl) (Nat.le_of_ble_eq_true rfl) (Nat.le_of_ble_eq_true rfl) (Nat.le_of_ble_eq_true rfl) (cP_restore hP fun h' hP' hX => ?_)
  rcases z_end_restore (x := x) with e | e
  · rw [z_oc0 e]
    exact z_wok (i3 := []) rfl rfl rfl rfl rfl rfl e hP' hX ho q
  · rw [z_oc1 e]
    exact z_wthr (q9 := 2) (pre := []) (suf := []) (a := 0) (b := 8) (hp := 11) (ct := 111) rfl z_pre0 (by decide) (by decide) z_lk111 z_ca111 rfl (Or.inr ⟨2, rfl, rfl⟩) (by decide +kernel) rfl rfl (by rw [e]; decide) rfl rfl (by omega) hP' hX ho q
def z_wD (h : z_H) (x : z_PV) (c : Prop) (v : UInt64) (Q : z_O → z_H → Prop) : Prop := (∀ (h' : z_H) (g' : Nat → UInt64), z_P h' 1000 1299 x → (∀ k, 1288 ≤ k → k < 1299 → k ≠ 1298 → h'.2 k = h.2 k) → h'.2 1298 = some (.inl (4, 1, .inr (.inr (.inr (.inl g'))))) → ¬ c → g' 0 = v → Q (.inl (some (.int 0))) h') ∧ ∀ h' : z_H, z_P h' 1000 1299 x → (∀ k, 1288 ≤ k → k < 1299 → h'.2 k = h.2 k) → c → Q (.inl (some (.int 1))) h'
theorem cW_meanSpring {g : Nat → UInt64} (hw : z_wf x.1) (hP : z_P h 1000 1299 x) (ho : h.2 1298 = some (.inl (4, 1, .inr (.inr (.inr (.inl g)))))) (q : z_wD h x (x.1.1.1 0 = 0) (FP.ddiv (FP.i2d (z_sum (x.1.1.2 1) (x.1.1.1 1))) (FP.i2d (nI (x.1.1.1 0)))) Q) : z_W G 9 4 24 296 0 (z_L0 296 [.ref 1000, .ref 1298]) [] h Q := by
  refine z_aload_n rfl rfl ?_
  refine z_iconst (v := 0) rfl (by decide) ?_
  refine z_aload_n rfl rfl ?_
  refine z_callV (av := []) rfl z_w154 hP.cell.choose_spec rfl rfl rfl rfl rfl (Nat.le_of_ble_eq_true rfl) (Nat.le_of_ble_eq_true rfl) (Nat.le_of_ble_eq_true rfl) (Nat.le_of_ble_eq_true rfl) (cP_meanSpring (fun c => z_n64 (z_dvN (nI_ne0 (Nat.pos_of_ne_zero c) (by have := hw.2.1; omega)))) hP (fun c => ?_) (fun c h' hP' hX => ?_))
  · show z_W G _ _ _ 296 _ _ [_, .int 0, .ref 1298] h Q
    refine z_dast rfl ho z_in01 ?_
    refine z_goto rfl ?_
    refine z_iconst (v := 0) rfl (by decide) ?_
    refine z_iret rfl rfl ?_
    have hF : z_Fr 1298 1 h (z_set h 1298 (.inl (4, 1, .inr (.inr (.inr (.inl (vf_upd g (0 : Int32).toNatClampNeg (FP.ddiv (FP.i2d (z_sum (x.1.1.2 1) (x.1.1.1 1))) (FP.i2d (nI (x.1.1.1 0))))))))))) := ⟨rfl, fun k hk => z_set_ne _ _ (by omega)⟩
    exact q.1 _ _ (hP.kept hF (by decide)) (fun k u1 u2 u3 => z_set_ne _ _ u3) (z_set_eq _ _ _) c rfl
  · show z_X G _ _ _ 296 _ _ z_ARE h' Q
    exact z_catch (q := 2) (pre := []) (suf := []) (a := 0) (b := 7) (hp := 10) (ct := 137) rfl z_pre0 (by decide) (by decide) z_lk137 z_ca137 rfl (Or.inr ⟨2, rfl, rfl⟩) (by decide +kernel) rfl (z_iconst (v := 1) rfl (by decide) (z_iret rfl rfl (q.2 h' hP' (fun k _ u2 => hX.2 k u2 (Or.inr (by omega))) c)))
theorem cW_carriedShare {g : Nat → UInt64} (hw : z_wf x.1) (hP : z_P h 1000 1299 x) (ho : h.2 1298 = some (.inl (4, 1, .inr (.inr (.inr (.inl g)))))) (q : z_wD h x (x.1.2.2 1 = 0) (FP.f2d (FP.fdiv (FP.i2f (x.1.2.2 2)) (FP.i2f (x.1.2.2 1)))) Q) : z_W G 9 4 24 297 0 (z_L0 297 [.ref 1000, .ref 1298]) [] h Q := by
  refine z_aload_n rfl rfl ?_
  refine z_iconst (v := 0) rfl (by decide) ?_
  refine z_aload_n rfl rfl ?_
  refine z_callV (av := []) rfl z_w155 hP.cell.choose_spec rfl rfl rfl rfl rfl (Nat.le_of_ble_eq_true rfl) (Nat.le_of_ble_eq_true rfl) (Nat.le_of_ble_eq_true rfl) (Nat.le_of_ble_eq_true rfl) (cP_carriedShare (fun c => z_n32 (z_fvN c)) hP (fun c => ?_) (fun c h' hP' hX => ?_))
  · show z_W G _ _ _ 297 _ _ [_, .int 0, .ref 1298] h Q
    refine z_f2d rfl (z_n64 (z_f2dN (z_fvN c))) ?_
    refine z_dast rfl ho z_in01 ?_
    refine z_goto rfl ?_
    refine z_iconst (v := 0) rfl (by decide) ?_
    refine z_iret rfl rfl ?_
    have hF : z_Fr 1298 1 h (z_set h 1298 (.inl (4, 1, .inr (.inr (.inr (.inl (vf_upd g (0 : Int32).toNatClampNeg (FP.f2d (FP.fdiv (FP.i2f (x.1.2.2 2)) (FP.i2f (x.1.2.2 1))))))))))) := ⟨rfl, fun k hk => z_set_ne _ _ (by omega)⟩
    exact q.1 _ _ (hP.kept hF (by decide)) (fun k u1 u2 u3 => z_set_ne _ _ u3) (z_set_eq _ _ _) c rfl
  · show z_X G _ _ _ 297 _ _ z_ARE h' Q
    exact z_catch (q := 2) (pre := []) (suf := []) (a := 0) (b := 8) (hp := 11) (ct := 137) rfl z_pre0 (by decide) (by decide) z_lk137 z_ca137 rfl (Or.inr ⟨2, rfl, rfl⟩) (by decide +kernel) rfl (z_iconst (v := 1) rfl (by decide) (z_iret rfl rfl (q.2 h' hP' (fun k _ u2 => hX.2 k u2 (Or.inr (by omega))) c)))
end ZWs
