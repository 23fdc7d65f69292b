/-! What the model answers: clocks, bills, keys, votes. -/
section ZQb
variable {G : z_G} {h : z_H} {Q : z_O → z_H → Prop} {a : Nat} {m : z_MV} {x : z_PV}
theorem cM_clockOf {c w : Int32} (hM : z_Mo h a m) (hR : z_Rel x m) (q : z_mQ (z_fClockOf x c w) h a Q) : z_W G 3 0 0 211 0 (z_L0 211 [.ref a, .int c, .int w]) [] h Q := by
  have hw := hR.1.1
  have hg := hR.1.2
  have h8 := hw.nc
  have h10 := hw.nb
  have hnr := hw.nr
  have hM1 := hM.gf
  cases e1 : z_has c (x.1.1.1 0) with
  | false =>
    refine z_aload_n rfl rfl ?_
    refine z_iload_n rfl rfl ?_
    refine z_callV (av := [_]) rfl z_w169 hM.1 rfl rfl rfl rfl rfl (Nat.le_of_ble_eq_true rfl) (Nat.le_of_ble_eq_true rfl) (Nat.le_of_ble_eq_true rfl) (Nat.le_of_ble_eq_true rfl) (cM_isClock hM hg hw.wz ?_)
    rw [e1]
    refine z_if_ne rfl (fun c5 => absurd (by decide) c5) (fun c5 => ?_)
    refine z_aload_n rfl rfl ?_
    refine z_iconst (v := 1) rfl (by decide) ?_
    refine z_callV (av := [_]) rfl z_w164 hM.1 rfl rfl rfl rfl rfl (Nat.le_of_ble_eq_true rfl) (Nat.le_of_ble_eq_true rfl) (Nat.le_of_ble_eq_true rfl) (Nat.le_of_ble_eq_true rfl) (cM_fails (v := nI 1) hM (fun h9 hM9 hF9 => ?_))
    refine z_iret rfl rfl ?_
    exact q.fl hR hM9 hF9 (if_pos e1) (by decide)
  | true =>
    obtain ⟨j, hj, rfl⟩ := z_hasE (by omega) e1
    have hb : ¬ z_has (nI j) (x.1.1.1 0) = false := by rw [e1]; decide
    have g0 : m.2 1 (10 + j) = z_a x.1.1 0 (nI j) := hg.cl hw.wz (j := 0) (by decide) hj
    have g1 : m.2 1 (18 + j) = z_a x.1.1 1 (nI j) := hg.cl hw.wz (j := 1) (by decide) hj
    have g2 : m.2 1 (26 + j) = z_a x.1.1 2 (nI j) := hg.cl hw.wz (j := 2) (by decide) hj
    have g3 : m.2 1 (34 + j) = z_a x.1.1 3 (nI j) := hg.cl hw.wz (j := 3) (by decide) hj
    have sw : z_W G 3 0 0 211 15 (z_L0 211 [.ref a, .int (nI j), .int w]) [.int w] h Q := by
      unfold z_fClockOf at q
      rw [if_neg hb] at q
      rcases z_swN w 6 (by decide) with ⟨k, hk, rfl⟩ | hw9
      · rcases (show k = 0 ∨ k = 1 ∨ k = 2 ∨ k = 3 ∨ k = 4 ∨ k = 5 ∨ k = 6 by omega) with rfl | rfl | rfl | rfl | rfl | rfl | rfl
        · refine z_tswI (x := 0) (o := 41) (t := 56) rfl (by decide) (by decide) rfl rfl ?_
          refine z_aload_n rfl rfl ?_
          refine z_aload_n rfl rfl ?_
          refine z_get rfl hM.1 rfl ?_
          refine z_bipush (v := 10) rfl (by decide) ?_
          refine z_iload_n rfl rfl ?_
          refine z_iadd rfl ?_
          refine z_ildE rfl (hM.2 1 (by decide)) (nI_add 10 (j)) (show _ < 105 by omega) ?_
          rw [g0]
          refine z_callV (av := [_]) rfl z_w163 hM.1 rfl rfl rfl rfl rfl (Nat.le_of_ble_eq_true rfl) (Nat.le_of_ble_eq_true rfl) (Nat.le_of_ble_eq_true rfl) (Nat.le_of_ble_eq_true rfl) (cM_done hM (fun h9 hM9 hF9 => ?_))
          refine z_iret rfl rfl ?_
          exact q.dn hR hM9 hF9 (by rw [if_pos rfl])
        · refine z_tswI (x := 1) (o := 55) (t := 70) rfl (by decide) (by decide) rfl rfl ?_
          refine z_aload_n rfl rfl ?_
          refine z_aload_n rfl rfl ?_
          refine z_get rfl hM.1 rfl ?_
          refine z_bipush (v := 18) rfl (by decide) ?_
          refine z_iload_n rfl rfl ?_
          refine z_iadd rfl ?_
          refine z_ildE rfl (hM.2 1 (by decide)) (nI_add 18 (j)) (show _ < 105 by omega) ?_
          rw [g1]
          refine z_callV (av := [_]) rfl z_w163 hM.1 rfl rfl rfl rfl rfl (Nat.le_of_ble_eq_true rfl) (Nat.le_of_ble_eq_true rfl) (Nat.le_of_ble_eq_true rfl) (Nat.le_of_ble_eq_true rfl) (cM_done hM (fun h9 hM9 hF9 => ?_))
          refine z_iret rfl rfl ?_
          exact q.dn hR hM9 hF9 (by rw [if_neg (by decide), if_pos rfl])
        · refine z_tswI (x := 2) (o := 69) (t := 84) rfl (by decide) (by decide) rfl rfl ?_
          refine z_aload_n rfl rfl ?_
          refine z_aload_n rfl rfl ?_
          refine z_get rfl hM.1 rfl ?_
          refine z_bipush (v := 26) rfl (by decide) ?_
          refine z_iload_n rfl rfl ?_
          refine z_iadd rfl ?_
          refine z_ildE rfl (hM.2 1 (by decide)) (nI_add 26 (j)) (show _ < 105 by omega) ?_
          rw [g2]
          refine z_callV (av := [_]) rfl z_w163 hM.1 rfl rfl rfl rfl rfl (Nat.le_of_ble_eq_true rfl) (Nat.le_of_ble_eq_true rfl) (Nat.le_of_ble_eq_true rfl) (Nat.le_of_ble_eq_true rfl) (cM_done hM (fun h9 hM9 hF9 => ?_))
          refine z_iret rfl rfl ?_
          exact q.dn hR hM9 hF9 (by rw [if_neg (by decide), if_neg (by decide), if_pos rfl])
        · refine z_tswI (x := 3) (o := 83) (t := 98) rfl (by decide) (by decide) rfl rfl ?_
          refine z_aload_n rfl rfl ?_
          refine z_aload_n rfl rfl ?_
          refine z_iload_n rfl rfl ?_
          refine z_callV (av := [_]) rfl z_w208 hM.1 rfl rfl rfl rfl rfl (Nat.le_of_ble_eq_true rfl) (Nat.le_of_ble_eq_true rfl) (Nat.le_of_ble_eq_true rfl) (Nat.le_of_ble_eq_true rfl) (cM_keysOf hM hg hw.wz ?_)
          refine z_callV (av := [_]) rfl z_w163 hM.1 rfl rfl rfl rfl rfl (Nat.le_of_ble_eq_true rfl) (Nat.le_of_ble_eq_true rfl) (Nat.le_of_ble_eq_true rfl) (Nat.le_of_ble_eq_true rfl) (cM_done hM (fun h9 hM9 hF9 => ?_))
          refine z_iret rfl rfl ?_
          rw [hw.sk] at q; exact q.dn hR hM9 hF9 (by rw [if_neg (by decide), if_neg (by decide), if_neg (by decide), if_pos rfl])
        · refine z_tswI (x := 4) (o := 93) (t := 108) rfl (by decide) (by decide) rfl rfl ?_
          refine z_aload_n rfl rfl ?_
          refine z_aload_n rfl rfl ?_
          refine z_iload_n rfl rfl ?_
          refine z_callV (av := [_]) rfl z_w209 hM.1 rfl rfl rfl rfl rfl (Nat.le_of_ble_eq_true rfl) (Nat.le_of_ble_eq_true rfl) (Nat.le_of_ble_eq_true rfl) (Nat.le_of_ble_eq_true rfl) (cM_billsOf hM hg hw.wz ?_)
          refine z_callV (av := [_]) rfl z_w163 hM.1 rfl rfl rfl rfl rfl (Nat.le_of_ble_eq_true rfl) (Nat.le_of_ble_eq_true rfl) (Nat.le_of_ble_eq_true rfl) (Nat.le_of_ble_eq_true rfl) (cM_done hM (fun h9 hM9 hF9 => ?_))
          refine z_iret rfl rfl ?_
          exact q.dn hR hM9 hF9 (by rw [if_neg (by decide), if_neg (by decide), if_neg (by decide), if_neg (by decide), if_pos rfl])
        · refine z_tswI (x := 5) (o := 103) (t := 118) rfl (by decide) (by decide) rfl rfl ?_
          refine z_aload_n rfl rfl ?_
          refine z_aload_n rfl rfl ?_
          refine z_get rfl hM.1 rfl ?_
          refine z_bipush (v := 34) rfl (by decide) ?_
          refine z_iload_n rfl rfl ?_
          refine z_iadd rfl ?_
          refine z_ildE rfl (hM.2 1 (by decide)) (nI_add 34 (j)) (show _ < 105 by omega) ?_
          rw [g3]
          refine z_callV (av := [_]) rfl z_w163 hM.1 rfl rfl rfl rfl rfl (Nat.le_of_ble_eq_true rfl) (Nat.le_of_ble_eq_true rfl) (Nat.le_of_ble_eq_true rfl) (Nat.le_of_ble_eq_true rfl) (cM_done hM (fun h9 hM9 hF9 => ?_))
          refine z_iret rfl rfl ?_
          exact q.dn hR hM9 hF9 (by rw [if_neg (by decide), if_neg (by decide), if_neg (by decide), if_neg (by decide), if_neg (by decide), if_pos rfl])
        · refine z_tswI (x := 6) (o := 117) (t := 132) rfl (by decide) (by decide) rfl rfl ?_
          refine z_aload_n rfl rfl ?_
          refine z_aload_n rfl rfl ?_
          refine z_iload_n rfl rfl ?_
          refine z_callV (av := [_]) rfl z_w210 hM.1 rfl rfl rfl rfl rfl (Nat.le_of_ble_eq_true rfl) (Nat.le_of_ble_eq_true rfl) (Nat.le_of_ble_eq_true rfl) (Nat.le_of_ble_eq_true rfl) (cM_agreeing hM hg hw hj ?_)
          refine z_iconst (v := 1) rfl (by decide) ?_
          refine z_iload_n rfl rfl ?_
          refine z_ishl rfl ?_
          refine z_iconst (v := (-1)) rfl (by decide) ?_
          refine z_ixor rfl ?_
          refine z_iand rfl ?_
          rw [z_bitsX h8 hj]
          refine z_callV (av := [_]) rfl z_w163 hM.1 rfl rfl rfl rfl rfl (Nat.le_of_ble_eq_true rfl) (Nat.le_of_ble_eq_true rfl) (Nat.le_of_ble_eq_true rfl) (Nat.le_of_ble_eq_true rfl) (cM_done hM (fun h9 hM9 hF9 => ?_))
          refine z_iret rfl rfl ?_
          exact q.dn hR hM9 hF9 (by rw [if_neg (by decide), if_neg (by decide), if_neg (by decide), if_neg (by decide), if_neg (by decide), if_neg (by decide), if_pos rfl]; rfl)
      · refine z_tswO (t := 148) rfl (by first | exact hw9 | omega) rfl ?_
        rw [if_neg (z_swNe 0 hw9), if_neg (z_swNe 1 hw9), if_neg (z_swNe 2 hw9), if_neg (z_swNe 3 hw9), if_neg (z_swNe 4 hw9), if_neg (z_swNe 5 hw9), if_neg (z_swNe 6 hw9)] at q
        refine z_aload_n rfl rfl ?_
        refine z_iconst (v := 2) rfl (by decide) ?_
        refine z_callV (av := [_]) rfl z_w164 hM.1 rfl rfl rfl rfl rfl (Nat.le_of_ble_eq_true rfl) (Nat.le_of_ble_eq_true rfl) (Nat.le_of_ble_eq_true rfl) (Nat.le_of_ble_eq_true rfl) (cM_fails (v := nI 2) hM (fun h9 hM9 hF9 => ?_))
        refine z_iret rfl rfl ?_
        exact q.fl hR hM9 hF9 rfl (by decide)
    refine z_aload_n rfl rfl ?_
    refine z_iload_n rfl rfl ?_
    refine z_callV (av := [_]) rfl z_w169 hM.1 rfl rfl rfl rfl rfl (Nat.le_of_ble_eq_true rfl) (Nat.le_of_ble_eq_true rfl) (Nat.le_of_ble_eq_true rfl) (Nat.le_of_ble_eq_true rfl) (cM_isClock hM hg hw.wz ?_)
    rw [e1]
    refine z_if_ne rfl (fun c5 => ?_) (fun c5 => absurd c5 (by decide))
    refine z_iload_n rfl rfl ?_
    exact sw
theorem cM_billOf {c w : Int32} (hM : z_Mo h a m) (hR : z_Rel x m) (q : z_mQ (z_fBillOf x c w) h a Q) : z_W G 3 0 0 212 0 (z_L0 212 [.ref a, .int c, .int w]) [] h Q := by
  have hw := hR.1.1
  have hg := hR.1.2
  have h8 := hw.nc
  have h10 := hw.nb
  have hnr := hw.nr
  have hM1 := hM.gf
  cases e1 : z_has c (x.1.2.1.1 0) with
  | false =>
    refine z_aload_n rfl rfl ?_
    refine z_iload_n rfl rfl ?_
    refine z_callV (av := [_]) rfl z_w170 hM.1 rfl rfl rfl rfl rfl (Nat.le_of_ble_eq_true rfl) (Nat.le_of_ble_eq_true rfl) (Nat.le_of_ble_eq_true rfl) (Nat.le_of_ble_eq_true rfl) (cM_isBill hM hg hw.wz ?_)
    rw [e1]
    refine z_if_ne rfl (fun c5 => absurd (by decide) c5) (fun c5 => ?_)
    refine z_aload_n rfl rfl ?_
    refine z_iconst (v := 1) rfl (by decide) ?_
    refine z_callV (av := [_]) rfl z_w164 hM.1 rfl rfl rfl rfl rfl (Nat.le_of_ble_eq_true rfl) (Nat.le_of_ble_eq_true rfl) (Nat.le_of_ble_eq_true rfl) (Nat.le_of_ble_eq_true rfl) (cM_fails (v := nI 1) hM (fun h9 hM9 hF9 => ?_))
    refine z_iret rfl rfl ?_
    exact q.fl hR hM9 hF9 (if_pos e1) (by decide)
  | true =>
    obtain ⟨j, hj, rfl⟩ := z_hasE (by omega) e1
    have hb : ¬ z_has (nI j) (x.1.2.1.1 0) = false := by rw [e1]; decide
    have g0 : m.2 1 (45 + j) = z_a x.1.2.1 0 (nI j) + 1 := hg.mv hw.wz hj
    have g1 : m.2 1 (55 + j) = z_a x.1.2.1 1 (nI j) := hg.bl hw.wz (j := 1) (by decide) (by decide) hj
    have g2 : m.2 1 (65 + j) = z_a x.1.2.1 2 (nI j) := hg.bl hw.wz (j := 2) (by decide) (by decide) hj
    have g3 : m.2 1 (75 + j) = z_a x.1.2.1 3 (nI j) := hg.bl hw.wz (j := 3) (by decide) (by decide) hj
    have g4 : m.2 1 (85 + j) = z_a x.1.2.1 4 (nI j) := hg.bl hw.wz (j := 4) (by decide) (by decide) hj
    have sw : z_W G 3 0 0 212 15 (z_L0 212 [.ref a, .int (nI j), .int w]) [.int w] h Q := by
      unfold z_fBillOf at q
      rw [if_neg hb] at q
      rcases z_swN w 5 (by decide) with ⟨k, hk, rfl⟩ | hw9
      · rcases (show k = 0 ∨ k = 1 ∨ k = 2 ∨ k = 3 ∨ k = 4 ∨ k = 5 by omega) with rfl | rfl | rfl | rfl | rfl | rfl
        · refine z_tswI (x := 0) (o := 37) (t := 52) rfl (by decide) (by decide) rfl rfl ?_
          refine z_aload_n rfl rfl ?_
          refine z_aload_n rfl rfl ?_
          refine z_get rfl hM.1 rfl ?_
          refine z_bipush (v := 45) rfl (by decide) ?_
          refine z_iload_n rfl rfl ?_
          refine z_iadd rfl ?_
          refine z_ildE rfl (hM.2 1 (by decide)) (nI_add 45 (j)) (show _ < 105 by omega) ?_
          refine z_iconst (v := 1) rfl (by decide) ?_
          refine z_isub rfl ?_
          rw [g0, z_add_1]
          refine z_callV (av := [_]) rfl z_w163 hM.1 rfl rfl rfl rfl rfl (Nat.le_of_ble_eq_true rfl) (Nat.le_of_ble_eq_true rfl) (Nat.le_of_ble_eq_true rfl) (Nat.le_of_ble_eq_true rfl) (cM_done hM (fun h9 hM9 hF9 => ?_))
          refine z_iret rfl rfl ?_
          exact q.dn hR hM9 hF9 (by rw [if_pos rfl])
        · refine z_tswI (x := 1) (o := 53) (t := 68) rfl (by decide) (by decide) rfl rfl ?_
          refine z_aload_n rfl rfl ?_
          refine z_aload_n rfl rfl ?_
          refine z_get rfl hM.1 rfl ?_
          refine z_bipush (v := 55) rfl (by decide) ?_
          refine z_iload_n rfl rfl ?_
          refine z_iadd rfl ?_
          refine z_ildE rfl (hM.2 1 (by decide)) (nI_add 55 (j)) (show _ < 105 by omega) ?_
          rw [g1]
          refine z_callV (av := [_]) rfl z_w163 hM.1 rfl rfl rfl rfl rfl (Nat.le_of_ble_eq_true rfl) (Nat.le_of_ble_eq_true rfl) (Nat.le_of_ble_eq_true rfl) (Nat.le_of_ble_eq_true rfl) (cM_done hM (fun h9 hM9 hF9 => ?_))
          refine z_iret rfl rfl ?_
          exact q.dn hR hM9 hF9 (by rw [if_neg (by decide), if_pos rfl])
        · refine z_tswI (x := 2) (o := 67) (t := 82) rfl (by decide) (by decide) rfl rfl ?_
          refine z_aload_n rfl rfl ?_
          refine z_aload_n rfl rfl ?_
          refine z_get rfl hM.1 rfl ?_
          refine z_bipush (v := 65) rfl (by decide) ?_
          refine z_iload_n rfl rfl ?_
          refine z_iadd rfl ?_
          refine z_ildE rfl (hM.2 1 (by decide)) (nI_add 65 (j)) (show _ < 105 by omega) ?_
          rw [g2]
          refine z_callV (av := [_]) rfl z_w163 hM.1 rfl rfl rfl rfl rfl (Nat.le_of_ble_eq_true rfl) (Nat.le_of_ble_eq_true rfl) (Nat.le_of_ble_eq_true rfl) (Nat.le_of_ble_eq_true rfl) (cM_done hM (fun h9 hM9 hF9 => ?_))
          refine z_iret rfl rfl ?_
          exact q.dn hR hM9 hF9 (by rw [if_neg (by decide), if_neg (by decide), if_pos rfl])
        · refine z_tswI (x := 3) (o := 81) (t := 96) rfl (by decide) (by decide) rfl rfl ?_
          refine z_aload_n rfl rfl ?_
          refine z_aload_n rfl rfl ?_
          refine z_get rfl hM.1 rfl ?_
          refine z_bipush (v := 75) rfl (by decide) ?_
          refine z_iload_n rfl rfl ?_
          refine z_iadd rfl ?_
          refine z_ildE rfl (hM.2 1 (by decide)) (nI_add 75 (j)) (show _ < 105 by omega) ?_
          rw [g3]
          refine z_callV (av := [_]) rfl z_w163 hM.1 rfl rfl rfl rfl rfl (Nat.le_of_ble_eq_true rfl) (Nat.le_of_ble_eq_true rfl) (Nat.le_of_ble_eq_true rfl) (Nat.le_of_ble_eq_true rfl) (cM_done hM (fun h9 hM9 hF9 => ?_))
          refine z_iret rfl rfl ?_
          exact q.dn hR hM9 hF9 (by rw [if_neg (by decide), if_neg (by decide), if_neg (by decide), if_pos rfl])
        · refine z_tswI (x := 4) (o := 95) (t := 110) rfl (by decide) (by decide) rfl rfl ?_
          refine z_aload_n rfl rfl ?_
          refine z_aload_n rfl rfl ?_
          refine z_iload_n rfl rfl ?_
          refine z_callV (av := [_]) rfl z_w187 hM.1 rfl rfl rfl rfl rfl (Nat.le_of_ble_eq_true rfl) (Nat.le_of_ble_eq_true rfl) (Nat.le_of_ble_eq_true rfl) (Nat.le_of_ble_eq_true rfl) (cM_placeOf hM1 hg hw.wz ?_)
          refine z_callV (av := [_]) rfl z_w163 hM.1 rfl rfl rfl rfl rfl (Nat.le_of_ble_eq_true rfl) (Nat.le_of_ble_eq_true rfl) (Nat.le_of_ble_eq_true rfl) (Nat.le_of_ble_eq_true rfl) (cM_done hM (fun h9 hM9 hF9 => ?_))
          refine z_iret rfl rfl ?_
          exact q.dn hR hM9 hF9 (by rw [if_neg (by decide), if_neg (by decide), if_neg (by decide), if_neg (by decide), if_pos rfl])
        · refine z_tswI (x := 5) (o := 105) (t := 120) rfl (by decide) (by decide) rfl rfl ?_
          refine z_aload_n rfl rfl ?_
          refine z_aload_n rfl rfl ?_
          refine z_get rfl hM.1 rfl ?_
          refine z_bipush (v := 85) rfl (by decide) ?_
          refine z_iload_n rfl rfl ?_
          refine z_iadd rfl ?_
          refine z_ildE rfl (hM.2 1 (by decide)) (nI_add 85 (j)) (show _ < 105 by omega) ?_
          rw [g4]
          refine z_callV (av := [_]) rfl z_w163 hM.1 rfl rfl rfl rfl rfl (Nat.le_of_ble_eq_true rfl) (Nat.le_of_ble_eq_true rfl) (Nat.le_of_ble_eq_true rfl) (Nat.le_of_ble_eq_true rfl) (cM_done hM (fun h9 hM9 hF9 => ?_))
          refine z_iret rfl rfl ?_
          exact q.dn hR hM9 hF9 (by rw [if_neg (by decide), if_neg (by decide), if_neg (by decide), if_neg (by decide), if_neg (by decide), if_pos rfl])
      · refine z_tswO (t := 134) rfl (by first | exact hw9 | omega) rfl ?_
        rw [if_neg (z_swNe 0 hw9), if_neg (z_swNe 1 hw9), if_neg (z_swNe 2 hw9), if_neg (z_swNe 3 hw9), if_neg (z_swNe 4 hw9), if_neg (z_swNe 5 hw9)] at q
        refine z_aload_n rfl rfl ?_
        refine z_iconst (v := 2) rfl (by decide) ?_
        refine z_callV (av := [_]) rfl z_w164 hM.1 rfl rfl rfl rfl rfl (Nat.le_of_ble_eq_true rfl) (Nat.le_of_ble_eq_true rfl) (Nat.le_of_ble_eq_true rfl) (Nat.le_of_ble_eq_true rfl) (cM_fails (v := nI 2) hM (fun h9 hM9 hF9 => ?_))
        refine z_iret rfl rfl ?_
        exact q.fl hR hM9 hF9 rfl (by decide)
    refine z_aload_n rfl rfl ?_
    refine z_iload_n rfl rfl ?_
    refine z_callV (av := [_]) rfl z_w170 hM.1 rfl rfl rfl rfl rfl (Nat.le_of_ble_eq_true rfl) (Nat.le_of_ble_eq_true rfl) (Nat.le_of_ble_eq_true rfl) (Nat.le_of_ble_eq_true rfl) (cM_isBill hM hg hw.wz ?_)
    rw [e1]
    refine z_if_ne rfl (fun c5 => ?_) (fun c5 => absurd c5 (by decide))
    refine z_iload_n rfl rfl ?_
    exact sw
end ZQb
