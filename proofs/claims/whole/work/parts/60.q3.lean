/-! What the model answers: keys, the row, votes. -/
section ZQc
variable {G : z_G} {h : z_H} {Q : z_O → z_H → Prop} {a : Nat} {m : z_MV} {x : z_PV}
theorem cM_keeper {k : Int32} (hM : z_Mo h a m) (hR : z_Rel x m) (q : z_mQ (z_fKeeper x k) h a Q) : z_W G 2 0 0 213 0 (z_L0 213 [.ref a, .int k]) [] h Q := by
  have hw := hR.1.1
  have hg := hR.1.2
  have h8 := hw.nc
  have h10 := hw.nb
  have hnr := hw.nr
  have hM1 := hM.gf
  cases e1 : z_has k 3 with
  | false =>
    refine z_iload_n rfl rfl ?_
    refine z_callS (av := [_]) rfl z_w171 rfl rfl rfl rfl (Nat.le_of_ble_eq_true rfl) (Nat.le_of_ble_eq_true rfl) (Nat.le_of_ble_eq_true rfl) (Nat.le_of_ble_eq_true rfl) (cM_isKey ?_)
    rw [e1]
    refine z_if_eq rfl (fun c4 => ?_) (fun c4 => absurd rfl c4)
    refine z_aload_n rfl rfl ?_
    refine z_iconst (v := 1) rfl (by decide) ?_
    refine z_callV (av := [_]) rfl z_w164 hM.1 rfl rfl rfl rfl rfl (Nat.le_of_ble_eq_true rfl) (Nat.le_of_ble_eq_true rfl) (Nat.le_of_ble_eq_true rfl) (Nat.le_of_ble_eq_true rfl) (cM_fails (v := nI 1) hM (fun h9 hM9 hF9 => ?_))
    refine z_iret rfl rfl ?_
    exact q.fl hR hM9 hF9 (if_neg (by rw [hw.sk, e1]; decide)) (by decide)
  | true =>
    obtain ⟨i, hi, rfl⟩ := z_hasE (by decide) e1
    refine z_iload_n rfl rfl ?_
    refine z_callS (av := [_]) rfl z_w171 rfl rfl rfl rfl (Nat.le_of_ble_eq_true rfl) (Nat.le_of_ble_eq_true rfl) (Nat.le_of_ble_eq_true rfl) (Nat.le_of_ble_eq_true rfl) (cM_isKey ?_)
    rw [e1]
    refine z_if_eq rfl (fun c4 => absurd c4 (by decide)) (fun c4 => ?_)
    refine z_aload_n rfl rfl ?_
    refine z_aload_n rfl rfl ?_
    refine z_get rfl hM.1 rfl ?_
    refine z_bipush (v := 42) rfl (by decide) ?_
    refine z_iload_n rfl rfl ?_
    refine z_iadd rfl ?_
    refine z_ildE rfl (hM.2 1 (by decide)) (nI_add 42 (i)) (show _ < 105 by omega) ?_
    refine z_iconst (v := 1) rfl (by decide) ?_
    refine z_isub rfl ?_
    rw [hg.ky hw.wz hi, z_add_1]
    refine z_callV (av := [_]) rfl z_w163 hM.1 rfl rfl rfl rfl rfl (Nat.le_of_ble_eq_true rfl) (Nat.le_of_ble_eq_true rfl) (Nat.le_of_ble_eq_true rfl) (Nat.le_of_ble_eq_true rfl) (cM_done hM (fun h9 hM9 hF9 => ?_))
    refine z_goto rfl ?_
    refine z_iret rfl rfl ?_
    exact q.dn hR hM9 hF9 (if_pos (by rw [hw.sk, e1]))
theorem cM_doAgree {c e : Int32} (hM : z_Mo h a m) (hR : z_Rel x m) (q : z_mQ (z_fAgree x c e) h a Q) : z_W G 2 0 0 214 0 (z_L0 214 [.ref a, .int c, .int e]) [] h Q := by
  have hw := hR.1.1
  have hg := hR.1.2
  have h8 := hw.nc
  have h10 := hw.nb
  have hnr := hw.nr
  have hM1 := hM.gf
  cases e1 : z_has c (x.1.1.1 0) with
  | false =>
    refine z_aload_n rfl rfl ?_
    refine z_aload_n rfl rfl ?_
    refine z_iload_n rfl rfl ?_
    refine z_callV (av := [_]) rfl z_w169 hM.1 rfl rfl rfl rfl rfl (Nat.le_of_ble_eq_true rfl) (Nat.le_of_ble_eq_true rfl) (Nat.le_of_ble_eq_true rfl) (Nat.le_of_ble_eq_true rfl) (cM_isClock hM hg hw.wz ?_)
    rw [e1]
    refine z_if_eq rfl (fun c6 => ?_) (fun c6 => absurd rfl c6)
    refine z_iconst (v := 1) rfl (by decide) ?_
    refine z_putM rfl hM (by decide) rfl rfl (fun h1 hC1 hF1 => ?_)
    refine z_aload_n rfl rfl ?_
    refine z_get rfl hC1.1 rfl ?_
    refine z_if_ne rfl (fun c29 => ?_) (fun c29 => absurd c29 (show ¬ (1 : Int32) = 0 by decide))
    refine z_iconst (v := 0) rfl (by decide) ?_
    refine z_zret (ty := .boolean) rfl rfl (by first | decide | exact z_nb _) ?_
    exact q.fl (n := 1) hR hC1 hF1 (if_pos e1) (by decide)
  | true =>
    have n1 : ¬ z_has c (x.1.1.1 0) = false := by rw [e1]; decide
    cases e2 : z_has e (x.1.1.1 0) with
    | false =>
      refine z_aload_n rfl rfl ?_
      refine z_aload_n rfl rfl ?_
      refine z_iload_n rfl rfl ?_
      refine z_callV (av := [_]) rfl z_w169 hM.1 rfl rfl rfl rfl rfl (Nat.le_of_ble_eq_true rfl) (Nat.le_of_ble_eq_true rfl) (Nat.le_of_ble_eq_true rfl) (Nat.le_of_ble_eq_true rfl) (cM_isClock hM hg hw.wz ?_)
      rw [e1]
      refine z_if_eq rfl (fun c6 => absurd c6 (by decide)) (fun c6 => ?_)
      refine z_aload_n rfl rfl ?_
      refine z_iload_n rfl rfl ?_
      refine z_callV (av := [_]) rfl z_w169 hM.1 rfl rfl rfl rfl rfl (Nat.le_of_ble_eq_true rfl) (Nat.le_of_ble_eq_true rfl) (Nat.le_of_ble_eq_true rfl) (Nat.le_of_ble_eq_true rfl) (cM_isClock hM hg hw.wz ?_)
      rw [e2]
      refine z_if_eq rfl (fun c14 => ?_) (fun c14 => absurd rfl c14)
      refine z_iconst (v := 1) rfl (by decide) ?_
      refine z_putM rfl hM (by decide) rfl rfl (fun h1 hC1 hF1 => ?_)
      refine z_aload_n rfl rfl ?_
      refine z_get rfl hC1.1 rfl ?_
      refine z_if_ne rfl (fun c29 => ?_) (fun c29 => absurd c29 (show ¬ (1 : Int32) = 0 by decide))
      refine z_iconst (v := 0) rfl (by decide) ?_
      refine z_zret (ty := .boolean) rfl rfl (by first | decide | exact z_nb _) ?_
      exact q.fl (n := 1) hR hC1 hF1 ((if_neg n1).trans (if_pos e2)) (by decide)
    | true =>
      have n2 : ¬ z_has e (x.1.1.1 0) = false := by rw [e2]; decide
      obtain ⟨i, hi, rfl⟩ := z_hasE (by omega) e1
      obtain ⟨j, hj, rfl⟩ := z_hasE (by omega) e2
      refine z_aload_n rfl rfl ?_
      refine z_aload_n rfl rfl ?_
      refine z_iload_n rfl rfl ?_
      refine z_callV (av := [_]) rfl z_w169 hM.1 rfl rfl rfl rfl rfl (Nat.le_of_ble_eq_true rfl) (Nat.le_of_ble_eq_true rfl) (Nat.le_of_ble_eq_true rfl) (Nat.le_of_ble_eq_true rfl) (cM_isClock hM hg hw.wz ?_)
      rw [e1]
      refine z_if_eq rfl (fun c6 => absurd c6 (by decide)) (fun c6 => ?_)
      refine z_aload_n rfl rfl ?_
      refine z_iload_n rfl rfl ?_
      refine z_callV (av := [_]) rfl z_w169 hM.1 rfl rfl rfl rfl rfl (Nat.le_of_ble_eq_true rfl) (Nat.le_of_ble_eq_true rfl) (Nat.le_of_ble_eq_true rfl) (Nat.le_of_ble_eq_true rfl) (cM_isClock hM hg hw.wz ?_)
      rw [e2]
      refine z_if_eq rfl (fun c14 => absurd c14 (by decide)) (fun c14 => ?_)
      refine z_iconst (v := 0) rfl (by decide) ?_
      refine z_goto rfl ?_
      refine z_putM rfl hM (by decide) rfl rfl (fun h1 hC1 hF1 => ?_)
      refine z_aload_n rfl rfl ?_
      refine z_get rfl hC1.1 rfl ?_
      refine z_if_ne rfl (fun c29 => absurd (show (0 : Int32) = 0 from rfl) c29) (fun c29 => ?_)
      refine z_aload_n rfl rfl ?_
      refine z_iload_n rfl rfl ?_
      refine z_iload_n rfl rfl ?_
      refine z_callV (av := [_, _]) rfl z_w174 hC1.1 rfl rfl rfl rfl rfl (Nat.le_of_ble_eq_true rfl) (Nat.le_of_ble_eq_true rfl) (Nat.le_of_ble_eq_true rfl) (Nat.le_of_ble_eq_true rfl) (cM_clocksApart (v := x.1) hC1 (show z_gOk x.1 (m.2 1) from hg) hw hi hj ?_)
      refine z_iconst (v := 5) rfl (by decide) ?_
      refine z_icmp_gt rfl (fun c39 => ?_) (fun c39 => ?_)
      · refine z_iconst (v := 0) rfl (by decide) ?_
        refine z_zret (ty := .boolean) rfl rfl (by first | decide | exact z_nb _) ?_
        refine q.dn hR hC1 hF1 (((if_neg n1).trans (if_neg n2)).trans ?_)
        unfold z_agr; rw [decide_eq_false (Int32.not_le.mpr c39)]; rfl
      · refine z_iconst (v := 1) rfl (by decide) ?_
        refine z_goto rfl ?_
        refine z_zret (ty := .boolean) rfl rfl (by first | decide | exact z_nb _) ?_
        refine q.dn hR hC1 hF1 (((if_neg n1).trans (if_neg n2)).trans ?_)
        unfold z_agr; rw [decide_eq_true (Int32.not_lt.mp c39)]; rfl
theorem cM_apart {c e : Int32} (hM : z_Mo h a m) (hR : z_Rel x m) (q : z_mQ (z_fApart x c e) h a Q) : z_W G 2 0 0 215 0 (z_L0 215 [.ref a, .int c, .int e]) [] h Q := by
  have hw := hR.1.1
  have hg := hR.1.2
  have h8 := hw.nc
  have h10 := hw.nb
  have hnr := hw.nr
  have hM1 := hM.gf
  cases e1 : z_has c (x.1.1.1 0) with
  | false =>
    refine z_aload_n rfl rfl ?_
    refine z_iload_n rfl rfl ?_
    refine z_callV (av := [_]) rfl z_w169 hM.1 rfl rfl rfl rfl rfl (Nat.le_of_ble_eq_true rfl) (Nat.le_of_ble_eq_true rfl) (Nat.le_of_ble_eq_true rfl) (Nat.le_of_ble_eq_true rfl) (cM_isClock hM hg hw.wz ?_)
    rw [e1]
    refine z_if_eq rfl (fun c5 => ?_) (fun c5 => absurd rfl c5)
    refine z_aload_n rfl rfl ?_
    refine z_iconst (v := 1) rfl (by decide) ?_
    refine z_callV (av := [_]) rfl z_w164 hM.1 rfl rfl rfl rfl rfl (Nat.le_of_ble_eq_true rfl) (Nat.le_of_ble_eq_true rfl) (Nat.le_of_ble_eq_true rfl) (Nat.le_of_ble_eq_true rfl) (cM_fails (v := nI 1) hM (fun h9 hM9 hF9 => ?_))
    refine z_iret rfl rfl ?_
    exact q.fl hR hM9 hF9 (if_pos e1) (by decide)
  | true =>
    have n1 : ¬ z_has c (x.1.1.1 0) = false := by rw [e1]; decide
    cases e2 : z_has e (x.1.1.1 0) with
    | false =>
      refine z_aload_n rfl rfl ?_
      refine z_iload_n rfl rfl ?_
      refine z_callV (av := [_]) rfl z_w169 hM.1 rfl rfl rfl rfl rfl (Nat.le_of_ble_eq_true rfl) (Nat.le_of_ble_eq_true rfl) (Nat.le_of_ble_eq_true rfl) (Nat.le_of_ble_eq_true rfl) (cM_isClock hM hg hw.wz ?_)
      rw [e1]
      refine z_if_eq rfl (fun c5 => absurd c5 (by decide)) (fun c5 => ?_)
      refine z_aload_n rfl rfl ?_
      refine z_iload_n rfl rfl ?_
      refine z_callV (av := [_]) rfl z_w169 hM.1 rfl rfl rfl rfl rfl (Nat.le_of_ble_eq_true rfl) (Nat.le_of_ble_eq_true rfl) (Nat.le_of_ble_eq_true rfl) (Nat.le_of_ble_eq_true rfl) (cM_isClock hM hg hw.wz ?_)
      rw [e2]
      refine z_if_eq rfl (fun c13 => ?_) (fun c13 => absurd rfl c13)
      refine z_aload_n rfl rfl ?_
      refine z_iconst (v := 1) rfl (by decide) ?_
      refine z_callV (av := [_]) rfl z_w164 hM.1 rfl rfl rfl rfl rfl (Nat.le_of_ble_eq_true rfl) (Nat.le_of_ble_eq_true rfl) (Nat.le_of_ble_eq_true rfl) (Nat.le_of_ble_eq_true rfl) (cM_fails (v := nI 1) hM (fun h9 hM9 hF9 => ?_))
      refine z_iret rfl rfl ?_
      exact q.fl hR hM9 hF9 ((if_neg n1).trans (if_pos e2)) (by decide)
    | true =>
      have n2 : ¬ z_has e (x.1.1.1 0) = false := by rw [e2]; decide
      obtain ⟨i, hi, rfl⟩ := z_hasE (by omega) e1
      obtain ⟨j, hj, rfl⟩ := z_hasE (by omega) e2
      refine z_aload_n rfl rfl ?_
      refine z_iload_n rfl rfl ?_
      refine z_callV (av := [_]) rfl z_w169 hM.1 rfl rfl rfl rfl rfl (Nat.le_of_ble_eq_true rfl) (Nat.le_of_ble_eq_true rfl) (Nat.le_of_ble_eq_true rfl) (Nat.le_of_ble_eq_true rfl) (cM_isClock hM hg hw.wz ?_)
      rw [e1]
      refine z_if_eq rfl (fun c5 => absurd c5 (by decide)) (fun c5 => ?_)
      refine z_aload_n rfl rfl ?_
      refine z_iload_n rfl rfl ?_
      refine z_callV (av := [_]) rfl z_w169 hM.1 rfl rfl rfl rfl rfl (Nat.le_of_ble_eq_true rfl) (Nat.le_of_ble_eq_true rfl) (Nat.le_of_ble_eq_true rfl) (Nat.le_of_ble_eq_true rfl) (cM_isClock hM hg hw.wz ?_)
      rw [e2]
      refine z_if_eq rfl (fun c13 => absurd c13 (by decide)) (fun c13 => ?_)
      refine z_aload_n rfl rfl ?_
      refine z_aload_n rfl rfl ?_
      refine z_iload_n rfl rfl ?_
      refine z_iload_n rfl rfl ?_
      refine z_callV (av := [_, _]) rfl z_w174 hM.1 rfl rfl rfl rfl rfl (Nat.le_of_ble_eq_true rfl) (Nat.le_of_ble_eq_true rfl) (Nat.le_of_ble_eq_true rfl) (Nat.le_of_ble_eq_true rfl) (cM_clocksApart hM hg hw hi hj ?_)
      refine z_callV (av := [_]) rfl z_w163 hM.1 rfl rfl rfl rfl rfl (Nat.le_of_ble_eq_true rfl) (Nat.le_of_ble_eq_true rfl) (Nat.le_of_ble_eq_true rfl) (Nat.le_of_ble_eq_true rfl) (cM_done hM (fun h9 hM9 hF9 => ?_))
      refine z_goto rfl ?_
      refine z_iret rfl rfl ?_
      exact q.dn hR hM9 hF9 ((if_neg n1).trans (if_neg n2))
theorem cM_row {c : Int32} (hM : z_Mo h a m) (hR : z_Rel x m) (q : z_mQ (z_fRow x c) h a Q) : z_W G 1 0 0 216 0 (z_L0 216 [.ref a, .int c]) [] h Q := by
  have hw := hR.1.1
  have hg := hR.1.2
  have h8 := hw.nc
  have h10 := hw.nb
  have hnr := hw.nr
  have hM1 := hM.gf
  cases e1 : z_has c (x.1.2.1.1 5) with
  | false =>
    refine z_iload_n rfl rfl ?_
    refine z_iconst (v := 0) rfl (by decide) ?_
    refine z_aload_n rfl rfl ?_
    refine z_get rfl hM.1 rfl ?_
    refine z_bipush (v := 9) rfl (by decide) ?_
    refine z_ildE rfl (hM.2 1 (by decide)) (k := 9) rfl (show _ < 105 by omega) ?_
    rw [hg.r0]
    refine z_iconst (v := 1) rfl (by decide) ?_
    refine z_isub rfl ?_
    refine z_callS (av := [_, _, _]) rfl z_w162 rfl rfl rfl rfl (Nat.le_of_ble_eq_true rfl) (Nat.le_of_ble_eq_true rfl) (Nat.le_of_ble_eq_true rfl) (Nat.le_of_ble_eq_true rfl) (cM_in ?_)
    rw [z_inHas (by omega), e1]
    refine z_if_eq rfl (fun c14 => ?_) (fun c14 => absurd rfl c14)
    refine z_aload_n rfl rfl ?_
    refine z_iconst (v := 1) rfl (by decide) ?_
    refine z_callV (av := [_]) rfl z_w164 hM.1 rfl rfl rfl rfl rfl (Nat.le_of_ble_eq_true rfl) (Nat.le_of_ble_eq_true rfl) (Nat.le_of_ble_eq_true rfl) (Nat.le_of_ble_eq_true rfl) (cM_fails (v := nI 1) hM (fun h9 hM9 hF9 => ?_))
    refine z_iret rfl rfl ?_
    exact q.fl hR hM9 hF9 (if_neg (by rw [e1]; decide)) (by decide)
  | true =>
    obtain ⟨i, hi, rfl⟩ := z_hasE (by omega) e1
    refine z_iload_n rfl rfl ?_
    refine z_iconst (v := 0) rfl (by decide) ?_
    refine z_aload_n rfl rfl ?_
    refine z_get rfl hM.1 rfl ?_
    refine z_bipush (v := 9) rfl (by decide) ?_
    refine z_ildE rfl (hM.2 1 (by decide)) (k := 9) rfl (show _ < 105 by omega) ?_
    rw [hg.r0]
    refine z_iconst (v := 1) rfl (by decide) ?_
    refine z_isub rfl ?_
    refine z_callS (av := [_, _, _]) rfl z_w162 rfl rfl rfl rfl (Nat.le_of_ble_eq_true rfl) (Nat.le_of_ble_eq_true rfl) (Nat.le_of_ble_eq_true rfl) (Nat.le_of_ble_eq_true rfl) (cM_in ?_)
    rw [z_inHas (by omega), e1]
    refine z_if_eq rfl (fun c14 => absurd c14 (by decide)) (fun c14 => ?_)
    refine z_aload_n rfl rfl ?_
    refine z_aload_n rfl rfl ?_
    refine z_get rfl hM.1 rfl ?_
    refine z_bipush (v := 95) rfl (by decide) ?_
    refine z_iload_n rfl rfl ?_
    refine z_iadd rfl ?_
    refine z_ildE rfl (hM.2 1 (by decide)) (nI_add 95 (i)) (show _ < 105 by omega) ?_
    rw [hg.rw hw.wz hi]
    refine z_callV (av := [_]) rfl z_w163 hM.1 rfl rfl rfl rfl rfl (Nat.le_of_ble_eq_true rfl) (Nat.le_of_ble_eq_true rfl) (Nat.le_of_ble_eq_true rfl) (Nat.le_of_ble_eq_true rfl) (cM_done hM (fun h9 hM9 hF9 => ?_))
    refine z_goto rfl ?_
    refine z_iret rfl rfl ?_
    exact q.dn hR hM9 hF9 (if_pos e1)
theorem cM_voters {c : Int32} (hM : z_Mo h a m) (hR : z_Rel x m) (q : z_mQ (z_fVoters x c) h a Q) : z_W G 2 0 0 223 0 (z_L0 223 [.ref a, .int c]) [] h Q := by
  have hw := hR.1.1
  have hg := hR.1.2
  have h8 := hw.nc
  have h10 := hw.nb
  have hnr := hw.nr
  have hM1 := hM.gf
  cases e1 : z_has c (x.1.2.1.1 0) with
  | false =>
    refine z_aload_n rfl rfl ?_
    refine z_iload_n rfl rfl ?_
    refine z_callV (av := [_]) rfl z_w170 hM.1 rfl rfl rfl rfl rfl (Nat.le_of_ble_eq_true rfl) (Nat.le_of_ble_eq_true rfl) (Nat.le_of_ble_eq_true rfl) (Nat.le_of_ble_eq_true rfl) (cM_isBill hM hg hw.wz ?_)
    rw [e1]
    refine z_if_eq rfl (fun c5 => ?_) (fun c5 => absurd rfl c5)
    refine z_aload_n rfl rfl ?_
    refine z_iconst (v := 1) rfl (by decide) ?_
    refine z_callV (av := [_]) rfl z_w164 hM.1 rfl rfl rfl rfl rfl (Nat.le_of_ble_eq_true rfl) (Nat.le_of_ble_eq_true rfl) (Nat.le_of_ble_eq_true rfl) (Nat.le_of_ble_eq_true rfl) (cM_fails (v := nI 1) hM (fun h9 hM9 hF9 => ?_))
    refine z_iret rfl rfl ?_
    exact q.fl hR hM9 hF9 (if_pos e1) (by decide)
  | true =>
    obtain ⟨i, hi, rfl⟩ := z_hasE (by omega) e1
    refine z_aload_n rfl rfl ?_
    refine z_iload_n rfl rfl ?_
    refine z_callV (av := [_]) rfl z_w170 hM.1 rfl rfl rfl rfl rfl (Nat.le_of_ble_eq_true rfl) (Nat.le_of_ble_eq_true rfl) (Nat.le_of_ble_eq_true rfl) (Nat.le_of_ble_eq_true rfl) (cM_isBill hM hg hw.wz ?_)
    rw [e1]
    refine z_if_eq rfl (fun c5 => absurd c5 (by decide)) (fun c5 => ?_)
    refine z_aload_n rfl rfl ?_
    refine z_aload_n rfl rfl ?_
    refine z_iload_n rfl rfl ?_
    refine z_callV (av := [_]) rfl z_w199 hM.1 rfl rfl rfl rfl rfl (Nat.le_of_ble_eq_true rfl) (Nat.le_of_ble_eq_true rfl) (Nat.le_of_ble_eq_true rfl) (Nat.le_of_ble_eq_true rfl) (cM_votersOn hM1 hg hw hi ?_)
    refine z_callV (av := [_]) rfl z_w163 hM.1 rfl rfl rfl rfl rfl (Nat.le_of_ble_eq_true rfl) (Nat.le_of_ble_eq_true rfl) (Nat.le_of_ble_eq_true rfl) (Nat.le_of_ble_eq_true rfl) (cM_done hM (fun h9 hM9 hF9 => ?_))
    refine z_goto rfl ?_
    refine z_iret rfl rfl ?_
    exact q.dn hR hM9 hF9 (if_neg (by rw [e1]; decide))
theorem cM_majority {c : Int32} (hM : z_Mo h a m) (hR : z_Rel x m) (q : z_mQ (z_fMajority x c) h a Q) : z_W G 2 0 0 224 0 (z_L0 224 [.ref a, .int c]) [] h Q := by
  have hw := hR.1.1
  have hg := hR.1.2
  have h8 := hw.nc
  have h10 := hw.nb
  have hnr := hw.nr
  have hM1 := hM.gf
  cases e1 : z_has c (x.1.2.1.1 0) with
  | false =>
    refine z_aload_n rfl rfl ?_
    refine z_iload_n rfl rfl ?_
    refine z_callV (av := [_]) rfl z_w170 hM.1 rfl rfl rfl rfl rfl (Nat.le_of_ble_eq_true rfl) (Nat.le_of_ble_eq_true rfl) (Nat.le_of_ble_eq_true rfl) (Nat.le_of_ble_eq_true rfl) (cM_isBill hM hg hw.wz ?_)
    rw [e1]
    refine z_if_eq rfl (fun c5 => ?_) (fun c5 => absurd rfl c5)
    refine z_aload_n rfl rfl ?_
    refine z_iconst (v := 1) rfl (by decide) ?_
    refine z_callV (av := [_]) rfl z_w164 hM.1 rfl rfl rfl rfl rfl (Nat.le_of_ble_eq_true rfl) (Nat.le_of_ble_eq_true rfl) (Nat.le_of_ble_eq_true rfl) (Nat.le_of_ble_eq_true rfl) (cM_fails (v := nI 1) hM (fun h9 hM9 hF9 => ?_))
    refine z_iret rfl rfl ?_
    exact q.fl hR hM9 hF9 (if_pos e1) (by decide)
  | true =>
    obtain ⟨i, hi, rfl⟩ := z_hasE (by omega) e1
    refine z_aload_n rfl rfl ?_
    refine z_iload_n rfl rfl ?_
    refine z_callV (av := [_]) rfl z_w170 hM.1 rfl rfl rfl rfl rfl (Nat.le_of_ble_eq_true rfl) (Nat.le_of_ble_eq_true rfl) (Nat.le_of_ble_eq_true rfl) (Nat.le_of_ble_eq_true rfl) (cM_isBill hM hg hw.wz ?_)
    rw [e1]
    refine z_if_eq rfl (fun c5 => absurd c5 (by decide)) (fun c5 => ?_)
    refine z_aload_n rfl rfl ?_
    refine z_aload_n rfl rfl ?_
    refine z_aload_n rfl rfl ?_
    refine z_iload_n rfl rfl ?_
    refine z_callV (av := [_]) rfl z_w199 hM.1 rfl rfl rfl rfl rfl (Nat.le_of_ble_eq_true rfl) (Nat.le_of_ble_eq_true rfl) (Nat.le_of_ble_eq_true rfl) (Nat.le_of_ble_eq_true rfl) (cM_votersOn hM1 hg hw hi ?_)
    refine z_callV (av := [_]) rfl z_w200 hM.1 rfl rfl rfl rfl rfl (Nat.le_of_ble_eq_true rfl) (Nat.le_of_ble_eq_true rfl) (Nat.le_of_ble_eq_true rfl) (Nat.le_of_ble_eq_true rfl) (cM_majorityOf hM1 hg hw ?_)
    refine z_callV (av := [_]) rfl z_w163 hM.1 rfl rfl rfl rfl rfl (Nat.le_of_ble_eq_true rfl) (Nat.le_of_ble_eq_true rfl) (Nat.le_of_ble_eq_true rfl) (Nat.le_of_ble_eq_true rfl) (cM_done hM (fun h9 hM9 hF9 => ?_))
    refine z_goto rfl ?_
    refine z_iret rfl rfl ?_
    exact q.dn hR hM9 hF9 (if_neg (by rw [e1]; decide))
theorem cM_carries {i : Nat} (hM : z_Mo h a m) (hg : z_gOk x.1 (m.2 1)) (hw : z_wf x.1) (hi : i < x.1.2.1.1 0) (q : Q (.inl (some (.int (z_I (z_won x.1 (nI i)))))) h) : z_W G 2 0 0 226 0 (z_L0 226 [.ref a, .int (nI i)]) [] h Q := by
  have hM1 := hM.gf
  have h10 := hw.nb
  have en : m.2 1 (65 + i) = z_a x.1.2.1 2 (nI i) := hg.bl hw.wz (j := 2) (by decide) (by decide) hi
  unfold z_won z_eno at q
  refine z_aload_n rfl rfl ?_
  refine z_aload_n rfl rfl ?_
  refine z_iload_n rfl rfl ?_
  refine z_callV (av := [_]) rfl z_w199 hM.1 rfl rfl rfl rfl rfl (Nat.le_of_ble_eq_true rfl) (Nat.le_of_ble_eq_true rfl) (Nat.le_of_ble_eq_true rfl) (Nat.le_of_ble_eq_true rfl) (cM_votersOn hM1 hg hw hi ?_)
  refine z_callV (av := [_]) rfl z_w200 hM.1 rfl rfl rfl rfl rfl (Nat.le_of_ble_eq_true rfl) (Nat.le_of_ble_eq_true rfl) (Nat.le_of_ble_eq_true rfl) (Nat.le_of_ble_eq_true rfl) (cM_majorityOf hM1 hg hw ?_)
  refine z_aload_n rfl rfl ?_
  refine z_get rfl hM.1 rfl ?_
  refine z_bipush (v := 65) rfl (by decide) ?_
  refine z_iload_n rfl rfl ?_
  refine z_iadd rfl ?_
  refine z_ildE rfl (hM.2 1 (by decide)) (nI_add 65 (i)) (show _ < 105 by omega) ?_
  rw [en]
  refine z_icmp_lt rfl (fun c18 => ?_) (fun c18 => ?_)
  · refine z_iconst (v := 0) rfl (by decide) ?_
    refine z_zret (ty := .boolean) rfl rfl (by first | decide | exact z_nb _) ?_
    rw [decide_eq_false (Int32.not_le.mpr c18)] at q; exact q
  · refine z_iconst (v := 1) rfl (by decide) ?_
    refine z_goto rfl ?_
    refine z_zret (ty := .boolean) rfl rfl (by first | decide | exact z_nb _) ?_
    rw [decide_eq_true (Int32.not_lt.mp c18)] at q; exact q
theorem cM_wouldCarry {c : Int32} (hM : z_Mo h a m) (hR : z_Rel x m) (q : z_mQ (z_fWouldCarry x c) h a Q) : z_W G 3 0 0 227 0 (z_L0 227 [.ref a, .int c]) [] h Q := by
  have hw := hR.1.1
  have hg := hR.1.2
  have h8 := hw.nc
  have h10 := hw.nb
  have hnr := hw.nr
  have hM1 := hM.gf
  cases e1 : z_has c (x.1.2.1.1 0) with
  | false =>
    refine z_aload_n rfl rfl ?_
    refine z_aload_n rfl rfl ?_
    refine z_iload_n rfl rfl ?_
    refine z_callV (av := [_]) rfl z_w170 hM.1 rfl rfl rfl rfl rfl (Nat.le_of_ble_eq_true rfl) (Nat.le_of_ble_eq_true rfl) (Nat.le_of_ble_eq_true rfl) (Nat.le_of_ble_eq_true rfl) (cM_isBill hM hg hw.wz ?_)
    rw [e1]
    refine z_if_eq rfl (fun c6 => ?_) (fun c6 => absurd rfl c6)
    refine z_iconst (v := 1) rfl (by decide) ?_
    refine z_putM rfl hM (by decide) rfl rfl (fun h1 hC1 hF1 => ?_)
    refine z_aload_n rfl rfl ?_
    refine z_get rfl hC1.1 rfl ?_
    refine z_if_ne rfl (fun c21 => ?_) (fun c21 => absurd c21 (show ¬ (1 : Int32) = 0 by decide))
    refine z_iconst (v := 0) rfl (by decide) ?_
    refine z_zret (ty := .boolean) rfl rfl (by first | decide | exact z_nb _) ?_
    exact q.fl (n := 1) hR hC1 hF1 (if_pos e1) (by decide)
  | true =>
    obtain ⟨i, hi, rfl⟩ := z_hasE (by omega) e1
    have n1 : ¬ z_has (nI i) (x.1.2.1.1 0) = false := by rw [e1]; decide
    cases e2 : z_won x.1 (nI i) with
    | false =>
      refine z_aload_n rfl rfl ?_
      refine z_aload_n rfl rfl ?_
      refine z_iload_n rfl rfl ?_
      refine z_callV (av := [_]) rfl z_w170 hM.1 rfl rfl rfl rfl rfl (Nat.le_of_ble_eq_true rfl) (Nat.le_of_ble_eq_true rfl) (Nat.le_of_ble_eq_true rfl) (Nat.le_of_ble_eq_true rfl) (cM_isBill hM hg hw.wz ?_)
      rw [e1]
      refine z_if_eq rfl (fun c6 => absurd c6 (by decide)) (fun c6 => ?_)
      refine z_iconst (v := 0) rfl (by decide) ?_
      refine z_goto rfl ?_
      refine z_putM rfl hM (by decide) rfl rfl (fun h1 hC1 hF1 => ?_)
      refine z_aload_n rfl rfl ?_
      refine z_get rfl hC1.1 rfl ?_
      refine z_if_ne rfl (fun c21 => absurd (show (0 : Int32) = 0 from rfl) c21) (fun c21 => ?_)
      refine z_aload_n rfl rfl ?_
      refine z_iload_n rfl rfl ?_
      refine z_callV (av := [_]) rfl z_w226 hC1.1 rfl rfl rfl rfl rfl (Nat.le_of_ble_eq_true rfl) (Nat.le_of_ble_eq_true rfl) (Nat.le_of_ble_eq_true rfl) (Nat.le_of_ble_eq_true rfl) (cM_carries (x := x) hC1 (show z_gOk x.1 (m.2 1) from hg) hw hi ?_)
      rw [e2]
      refine z_if_eq rfl (fun c29 => ?_) (fun c29 => absurd rfl c29)
      refine z_iconst (v := 0) rfl (by decide) ?_
      refine z_zret (ty := .boolean) rfl rfl (by first | decide | exact z_nb _) ?_
      exact q.dn hR hC1 hF1 ((if_neg n1).trans (by rw [e2]; rfl))
    | true =>
      refine z_aload_n rfl rfl ?_
      refine z_aload_n rfl rfl ?_
      refine z_iload_n rfl rfl ?_
      refine z_callV (av := [_]) rfl z_w170 hM.1 rfl rfl rfl rfl rfl (Nat.le_of_ble_eq_true rfl) (Nat.le_of_ble_eq_true rfl) (Nat.le_of_ble_eq_true rfl) (Nat.le_of_ble_eq_true rfl) (cM_isBill hM hg hw.wz ?_)
      rw [e1]
      refine z_if_eq rfl (fun c6 => absurd c6 (by decide)) (fun c6 => ?_)
      refine z_iconst (v := 0) rfl (by decide) ?_
      refine z_goto rfl ?_
      refine z_putM rfl hM (by decide) rfl rfl (fun h1 hC1 hF1 => ?_)
      refine z_aload_n rfl rfl ?_
      refine z_get rfl hC1.1 rfl ?_
      refine z_if_ne rfl (fun c21 => absurd (show (0 : Int32) = 0 from rfl) c21) (fun c21 => ?_)
      refine z_aload_n rfl rfl ?_
      refine z_iload_n rfl rfl ?_
      refine z_callV (av := [_]) rfl z_w226 hC1.1 rfl rfl rfl rfl rfl (Nat.le_of_ble_eq_true rfl) (Nat.le_of_ble_eq_true rfl) (Nat.le_of_ble_eq_true rfl) (Nat.le_of_ble_eq_true rfl) (cM_carries (x := x) hC1 (show z_gOk x.1 (m.2 1) from hg) hw hi ?_)
      rw [e2]
      refine z_if_eq rfl (fun c29 => absurd c29 (by decide)) (fun c29 => ?_)
      refine z_iconst (v := 1) rfl (by decide) ?_
      refine z_goto rfl ?_
      refine z_zret (ty := .boolean) rfl rfl (by first | decide | exact z_nb _) ?_
      exact q.dn hR hC1 hF1 ((if_neg n1).trans (by rw [e2]; rfl))
theorem cM_silentIn {c : Int32} (hM : z_Mo h a m) (hR : z_Rel x m) (q : z_mQ ((if z_has c (x.1.1.1 0) = false then (1, 0, x) else (0, z_a x.1.1 1 c, x) : z_An)) h a Q) : z_W G 2 0 0 221 0 (z_L0 221 [.ref a, .int c]) [] h Q := by
  have hw := hR.1.1
  have hg := hR.1.2
  have h8 := hw.nc
  have h10 := hw.nb
  have hnr := hw.nr
  have hM1 := hM.gf
  cases e1 : z_has c (x.1.1.1 0) with
  | false =>
    refine z_aload_n rfl rfl ?_
    refine z_iload_n rfl rfl ?_
    refine z_callV (av := [_]) rfl z_w169 hM.1 rfl rfl rfl rfl rfl (Nat.le_of_ble_eq_true rfl) (Nat.le_of_ble_eq_true rfl) (Nat.le_of_ble_eq_true rfl) (Nat.le_of_ble_eq_true rfl) (cM_isClock hM hg hw.wz ?_)
    rw [e1]
    refine z_if_eq rfl (fun c5 => ?_) (fun c5 => absurd rfl c5)
    refine z_aload_n rfl rfl ?_
    refine z_iconst (v := 1) rfl (by decide) ?_
    refine z_callV (av := [_]) rfl z_w164 hM.1 rfl rfl rfl rfl rfl (Nat.le_of_ble_eq_true rfl) (Nat.le_of_ble_eq_true rfl) (Nat.le_of_ble_eq_true rfl) (Nat.le_of_ble_eq_true rfl) (cM_fails (v := nI 1) hM (fun h9 hM9 hF9 => ?_))
    refine z_iret rfl rfl ?_
    exact q.fl hR hM9 hF9 (if_pos e1) (by decide)
  | true =>
    obtain ⟨i, hi, rfl⟩ := z_hasE (by omega) e1
    have es : m.2 1 (18 + i) = z_a x.1.1 1 (nI i) := hg.cl hw.wz (j := 1) (by decide) hi
    refine z_aload_n rfl rfl ?_
    refine z_iload_n rfl rfl ?_
    refine z_callV (av := [_]) rfl z_w169 hM.1 rfl rfl rfl rfl rfl (Nat.le_of_ble_eq_true rfl) (Nat.le_of_ble_eq_true rfl) (Nat.le_of_ble_eq_true rfl) (Nat.le_of_ble_eq_true rfl) (cM_isClock hM hg hw.wz ?_)
    rw [e1]
    refine z_if_eq rfl (fun c5 => absurd c5 (by decide)) (fun c5 => ?_)
    refine z_aload_n rfl rfl ?_
    refine z_aload_n rfl rfl ?_
    refine z_get rfl hM.1 rfl ?_
    refine z_bipush (v := 18) rfl (by decide) ?_
    refine z_iload_n rfl rfl ?_
    refine z_iadd rfl ?_
    refine z_ildE rfl (hM.2 1 (by decide)) (nI_add 18 (i)) (show _ < 105 by omega) ?_
    rw [es]
    refine z_callV (av := [_]) rfl z_w163 hM.1 rfl rfl rfl rfl rfl (Nat.le_of_ble_eq_true rfl) (Nat.le_of_ble_eq_true rfl) (Nat.le_of_ble_eq_true rfl) (Nat.le_of_ble_eq_true rfl) (cM_done hM (fun h9 hM9 hF9 => ?_))
    refine z_goto rfl ?_
    refine z_iret rfl rfl ?_
    exact q.dn hR hM9 hF9 (if_neg (by rw [e1]; decide))
end ZQc
