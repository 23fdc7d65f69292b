/-! What the model answers: accounts, who is next, who is weakest. -/
section ZQd
variable {G : z_G} {h : z_H} {Q : z_O → z_H → Prop} {a : Nat} {m : z_MV} {x : z_PV} {v : z_HV}
theorem cM_silent (hM : z_Mo h a m) (hg : z_gOk v (m.2 1)) (hw : z_wz v) (q : Q (.inl (some (.int (nI (z_cnt (fun i => decide (v.1.2 1 i = 0)) (v.1.1 0)))))) h) : z_W G 0 0 0 253 0 (z_L0 253 [.ref a]) [] h Q := by
  have h8 := hw.nc
  have loop : ∀ (k i : Nat) (t : Int32), i + k = v.1.1 0 → t = nI (z_cnt (fun i => decide (v.1.2 1 i = 0)) i) → z_W G 0 0 0 253 4 [.ref a, .int t, .int (nI i)] [] h Q := by
    intro k
    induction k with
    | zero =>
      intro i t hi ht
      obtain rfl : i = v.1.1 0 := hi
      refine z_iload_n rfl rfl ?_
      refine z_aload_n rfl rfl ?_
      refine z_get rfl hM.1 rfl ?_
      refine z_iconst (v := 0) rfl (by decide) ?_
      refine z_ildE rfl (hM.2 1 (by decide)) (k := 0) rfl (show _ < 105 by omega) ?_
      rw [hg.c0]
      refine z_icmp_ge rfl (fun c11 => ?_) (fun c11 => absurd (Int32.le_refl _) c11)
      refine z_iload_n rfl rfl ?_
      refine z_iret rfl rfl ?_
      rw [ht]; exact q
    | succ k ih =>
      intro i t hi ht
      have e1 : m.2 1 (18 + i) = v.1.2 1 i := hg.2.2.1 1 i (by decide) (by omega)
      have st : nI (z_cnt (fun i => decide (v.1.2 1 i = 0)) (i + 1)) = t + (if v.1.2 1 i = 0 then 1 else 0) := by
        rw [z_cnt_s, ht]
        by_cases e : v.1.2 1 i = 0
        · rw [if_pos e, if_pos (decide_eq_true e), nI_1]
        · rw [if_neg e, if_neg (fun q9 => e (of_decide_eq_true q9)), Int32.add_zero]; rfl
      by_cases e : v.1.2 1 i = 0
      · rw [if_pos e] at st
        refine z_iload_n rfl rfl ?_
        refine z_aload_n rfl rfl ?_
        refine z_get rfl hM.1 rfl ?_
        refine z_iconst (v := 0) rfl (by decide) ?_
        refine z_ildE rfl (hM.2 1 (by decide)) (k := 0) rfl (show _ < 105 by omega) ?_
        rw [hg.c0]
        refine z_icmp_ge rfl (fun c11 => absurd c11 (fun q9 => absurd ((nI_leI (by omega) (by omega)).mp q9) (by omega))) (fun c11 => ?_)
        refine z_iload_n rfl rfl ?_
        refine z_aload_n rfl rfl ?_
        refine z_get rfl hM.1 rfl ?_
        refine z_bipush (v := 18) rfl (by decide) ?_
        refine z_iload_n rfl rfl ?_
        refine z_iadd rfl ?_
        refine z_ildE rfl (hM.2 1 (by decide)) (nI_add 18 (i)) (show _ < 105 by omega) ?_
        rw [e1]
        refine z_if_ne rfl (fun c24 => absurd e c24) (fun c24 => ?_)
        refine z_iconst (v := 1) rfl (by decide) ?_
        refine z_goto rfl ?_
        refine z_iadd rfl ?_
        refine z_istore_n rfl (by decide +kernel) rfl ?_
        refine z_iinc1 rfl rfl (by decide +kernel) rfl ?_
        exact z_goto rfl (ih (i + 1) _ (by omega) st.symm)
      · rw [if_neg e] at st
        refine z_iload_n rfl rfl ?_
        refine z_aload_n rfl rfl ?_
        refine z_get rfl hM.1 rfl ?_
        refine z_iconst (v := 0) rfl (by decide) ?_
        refine z_ildE rfl (hM.2 1 (by decide)) (k := 0) rfl (show _ < 105 by omega) ?_
        rw [hg.c0]
        refine z_icmp_ge rfl (fun c11 => absurd c11 (fun q9 => absurd ((nI_leI (by omega) (by omega)).mp q9) (by omega))) (fun c11 => ?_)
        refine z_iload_n rfl rfl ?_
        refine z_aload_n rfl rfl ?_
        refine z_get rfl hM.1 rfl ?_
        refine z_bipush (v := 18) rfl (by decide) ?_
        refine z_iload_n rfl rfl ?_
        refine z_iadd rfl ?_
        refine z_ildE rfl (hM.2 1 (by decide)) (nI_add 18 (i)) (show _ < 105 by omega) ?_
        rw [e1]
        refine z_if_ne rfl (fun c24 => ?_) (fun c24 => absurd c24 e)
        refine z_iconst (v := 0) rfl (by decide) ?_
        refine z_iadd rfl ?_
        refine z_istore_n rfl (by decide +kernel) rfl ?_
        refine z_iinc1 rfl rfl (by decide +kernel) rfl ?_
        exact z_goto rfl (ih (i + 1) _ (by omega) st.symm)
  refine z_iconst (v := 0) rfl (by decide) ?_
  refine z_istore_n rfl (by decide +kernel) rfl ?_
  refine z_iconst (v := nI 0) rfl (by decide) ?_
  refine z_istore_n rfl (by decide +kernel) rfl ?_
  exact loop (v.1.1 0) 0 0 (by omega) rfl
theorem cM_springs (hM : z_Mo h a m) (hg : z_gOk v (m.2 1)) (hw : z_wz v) (q : Q (.inl (some (.int (z_sum (v.1.2 1) (v.1.1 0))))) h) : z_W G 0 0 0 254 0 (z_L0 254 [.ref a]) [] h Q := by
  have h8 := hw.nc
  have loop : ∀ (k i : Nat) (t : Int32), i + k = v.1.1 0 → t = z_sum (v.1.2 1) i → z_W G 0 0 0 254 4 [.ref a, .int t, .int (nI i)] [] h Q := by
    intro k
    induction k with
    | zero =>
      intro i t hi ht
      obtain rfl : i = v.1.1 0 := hi
      refine z_iload_n rfl rfl ?_
      refine z_aload_n rfl rfl ?_
      refine z_get rfl hM.1 rfl ?_
      refine z_iconst (v := 0) rfl (by decide) ?_
      refine z_ildE rfl (hM.2 1 (by decide)) (k := 0) rfl (show _ < 105 by omega) ?_
      rw [hg.c0]
      refine z_icmp_ge rfl (fun c11 => ?_) (fun c11 => absurd (Int32.le_refl _) c11)
      refine z_iload_n rfl rfl ?_
      refine z_iret rfl rfl ?_
      rw [ht]; exact q
    | succ k ih =>
      intro i t hi ht
      have e1 : m.2 1 (18 + i) = v.1.2 1 i := hg.2.2.1 1 i (by decide) (by omega)
      refine z_iload_n rfl rfl ?_
      refine z_aload_n rfl rfl ?_
      refine z_get rfl hM.1 rfl ?_
      refine z_iconst (v := 0) rfl (by decide) ?_
      refine z_ildE rfl (hM.2 1 (by decide)) (k := 0) rfl (show _ < 105 by omega) ?_
      rw [hg.c0]
      refine z_icmp_ge rfl (fun c11 => absurd c11 (fun q9 => absurd ((nI_leI (by omega) (by omega)).mp q9) (by omega))) (fun c11 => ?_)
      refine z_iload_n rfl rfl ?_
      refine z_aload_n rfl rfl ?_
      refine z_get rfl hM.1 rfl ?_
      refine z_bipush (v := 18) rfl (by decide) ?_
      refine z_iload_n rfl rfl ?_
      refine z_iadd rfl ?_
      refine z_ildE rfl (hM.2 1 (by decide)) (nI_add 18 (i)) (show _ < 105 by omega) ?_
      rw [e1]
      refine z_iadd rfl ?_
      refine z_istore_n rfl (by decide +kernel) rfl ?_
      refine z_iinc1 rfl rfl (by decide +kernel) rfl ?_
      exact z_goto rfl (ih (i + 1) _ (by omega) (by rw [ht]; rfl))
  refine z_iconst (v := 0) rfl (by decide) ?_
  refine z_istore_n rfl (by decide +kernel) rfl ?_
  refine z_iconst (v := nI 0) rfl (by decide) ?_
  refine z_istore_n rfl (by decide +kernel) rfl ?_
  exact loop (v.1.1 0) 0 0 (by omega) rfl
theorem cM_account {w : Int32} (hM : z_Mo h a m) (hR : z_Rel x m) (q : z_mQ (z_fAccount x w) h a Q) : z_W G 2 0 0 255 0 (z_L0 255 [.ref a, .int w]) [] h Q := by
  have hw := hR.1.1
  have hg := hR.1.2
  have h8 := hw.nc
  have h10 := hw.nb
  have hnr := hw.nr
  have hM1 := hM.gf
  have t8 : m.1 8 = nI x.2.2.2.2.2.1.length := hR.2.2.2.1.2.1
  have t4 : m.1 4 = nI x.2.2.2.1 := hR.2.2.1.2.1
  have c0 : m.2 1 2 = x.1.2.2 0 := hg.2.1.1 0 (by decide)
  have c1 : m.2 1 3 = x.1.2.2 1 := hg.2.1.1 1 (by decide)
  have c2 : m.2 1 4 = x.1.2.2 2 := hg.2.1.1 2 (by decide)
  have c3 : m.2 1 6 = x.1.2.2 3 := hg.2.1.1 3 (by decide)
  have c4 : m.2 1 7 = x.1.2.2 4 := hg.2.1.1 4 (by decide)
  have c5 : m.2 1 8 = x.1.2.2 5 := hg.2.1.1 5 (by decide)
  have c6 : m.2 1 5 = x.1.2.2 1 - x.1.2.2 2 := hg.2.1.2
  have s1 := hw.sc (j := 1) (by decide)
  have sw : z_W G 2 0 0 255 1 (z_L0 255 [.ref a, .int w]) [.int w] h Q := by
    unfold z_fAccount at q
    rcases z_swN w 13 (by decide) with ⟨k, hk, rfl⟩ | hw9
    · rcases (show k = 0 ∨ k = 1 ∨ k = 2 ∨ k = 3 ∨ k = 4 ∨ k = 5 ∨ k = 6 ∨ k = 7 ∨ k = 8 ∨ k = 9 ∨ k = 10 ∨ k = 11 ∨ k = 12 ∨ k = 13 by omega) with rfl | rfl | rfl | rfl | rfl | rfl | rfl | rfl | rfl | rfl | rfl | rfl | rfl | rfl
      · refine z_tswI (x := 0) (o := 71) (t := 72) rfl (by decide) (by decide) rfl rfl ?_
        refine z_aload_n rfl rfl ?_
        refine z_aload_n rfl rfl ?_
        refine z_get rfl hM.1 rfl ?_
        refine z_iconst (v := 0) rfl (by decide) ?_
        refine z_ildE rfl (hM.2 1 (by decide)) (k := 0) rfl (show _ < 105 by omega) ?_
        rw [hg.c0]
        refine z_callV (av := [_]) rfl z_w163 hM.1 rfl rfl rfl rfl rfl (Nat.le_of_ble_eq_true rfl) (Nat.le_of_ble_eq_true rfl) (Nat.le_of_ble_eq_true rfl) (Nat.le_of_ble_eq_true rfl) (cM_done hM (fun h9 hM9 hF9 => ?_))
        refine z_iret rfl rfl ?_
        exact q.dn hR hM9 hF9 (by rw [if_pos rfl])
      · refine z_tswI (x := 1) (o := 82) (t := 83) rfl (by decide) (by decide) rfl rfl ?_
        refine z_aload_n rfl rfl ?_
        refine z_aload_n rfl rfl ?_
        refine z_callV (av := []) rfl z_w253 hM.1 rfl rfl rfl rfl rfl (Nat.le_of_ble_eq_true rfl) (Nat.le_of_ble_eq_true rfl) (Nat.le_of_ble_eq_true rfl) (Nat.le_of_ble_eq_true rfl) (cM_silent hM hg hw.wz ?_)
        refine z_callV (av := [_]) rfl z_w163 hM.1 rfl rfl rfl rfl rfl (Nat.le_of_ble_eq_true rfl) (Nat.le_of_ble_eq_true rfl) (Nat.le_of_ble_eq_true rfl) (Nat.le_of_ble_eq_true rfl) (cM_done hM (fun h9 hM9 hF9 => ?_))
        refine z_iret rfl rfl ?_
        rw [s1] at q; exact q.dn hR hM9 hF9 (by rw [if_neg (by decide), if_pos rfl])
      · refine z_tswI (x := 2) (o := 91) (t := 92) rfl (by decide) (by decide) rfl rfl ?_
        refine z_aload_n rfl rfl ?_
        refine z_aload_n rfl rfl ?_
        refine z_get rfl hM.1 rfl ?_
        refine z_iconst (v := 1) rfl (by decide) ?_
        refine z_ildE rfl (hM.2 1 (by decide)) (k := 1) rfl (show _ < 105 by omega) ?_
        rw [hg.b0]
        refine z_callV (av := [_]) rfl z_w163 hM.1 rfl rfl rfl rfl rfl (Nat.le_of_ble_eq_true rfl) (Nat.le_of_ble_eq_true rfl) (Nat.le_of_ble_eq_true rfl) (Nat.le_of_ble_eq_true rfl) (cM_done hM (fun h9 hM9 hF9 => ?_))
        refine z_iret rfl rfl ?_
        exact q.dn hR hM9 hF9 (by rw [if_neg (by decide), if_neg (by decide), if_pos rfl])
      · refine z_tswI (x := 3) (o := 102) (t := 103) rfl (by decide) (by decide) rfl rfl ?_
        refine z_aload_n rfl rfl ?_
        refine z_aload_n rfl rfl ?_
        refine z_callV (av := []) rfl z_w192 hM.1 rfl rfl rfl rfl rfl (Nat.le_of_ble_eq_true rfl) (Nat.le_of_ble_eq_true rfl) (Nat.le_of_ble_eq_true rfl) (Nat.le_of_ble_eq_true rfl) (cM_awayOnes hM1 hg hw ?_)
        refine z_callV (av := [_]) rfl z_w163 hM.1 rfl rfl rfl rfl rfl (Nat.le_of_ble_eq_true rfl) (Nat.le_of_ble_eq_true rfl) (Nat.le_of_ble_eq_true rfl) (Nat.le_of_ble_eq_true rfl) (cM_done hM (fun h9 hM9 hF9 => ?_))
        refine z_iret rfl rfl ?_
        exact q.dn hR hM9 hF9 (by rw [if_neg (by decide), if_neg (by decide), if_neg (by decide), if_pos rfl])
      · refine z_tswI (x := 4) (o := 111) (t := 112) rfl (by decide) (by decide) rfl rfl ?_
        refine z_aload_n rfl rfl ?_
        refine z_aload_n rfl rfl ?_
        refine z_get rfl hM.1 rfl ?_
        refine z_iconst (v := 2) rfl (by decide) ?_
        refine z_ildE rfl (hM.2 1 (by decide)) (k := 2) rfl (show _ < 105 by omega) ?_
        rw [c0]
        refine z_callV (av := [_]) rfl z_w163 hM.1 rfl rfl rfl rfl rfl (Nat.le_of_ble_eq_true rfl) (Nat.le_of_ble_eq_true rfl) (Nat.le_of_ble_eq_true rfl) (Nat.le_of_ble_eq_true rfl) (cM_done hM (fun h9 hM9 hF9 => ?_))
        refine z_iret rfl rfl ?_
        exact q.dn hR hM9 hF9 (by rw [if_neg (by decide), if_neg (by decide), if_neg (by decide), if_neg (by decide), if_pos rfl])
      · refine z_tswI (x := 5) (o := 122) (t := 123) rfl (by decide) (by decide) rfl rfl ?_
        refine z_aload_n rfl rfl ?_
        refine z_aload_n rfl rfl ?_
        refine z_callV (av := []) rfl z_w254 hM.1 rfl rfl rfl rfl rfl (Nat.le_of_ble_eq_true rfl) (Nat.le_of_ble_eq_true rfl) (Nat.le_of_ble_eq_true rfl) (Nat.le_of_ble_eq_true rfl) (cM_springs hM hg hw.wz ?_)
        refine z_callV (av := [_]) rfl z_w163 hM.1 rfl rfl rfl rfl rfl (Nat.le_of_ble_eq_true rfl) (Nat.le_of_ble_eq_true rfl) (Nat.le_of_ble_eq_true rfl) (Nat.le_of_ble_eq_true rfl) (cM_done hM (fun h9 hM9 hF9 => ?_))
        refine z_iret rfl rfl ?_
        rw [s1] at q; exact q.dn hR hM9 hF9 (by rw [if_neg (by decide), if_neg (by decide), if_neg (by decide), if_neg (by decide), if_neg (by decide), if_pos rfl])
      · refine z_tswI (x := 6) (o := 131) (t := 132) rfl (by decide) (by decide) rfl rfl ?_
        refine z_aload_n rfl rfl ?_
        refine z_aload_n rfl rfl ?_
        refine z_get rfl hM.1 rfl ?_
        refine z_iconst (v := 3) rfl (by decide) ?_
        refine z_iload_n rfl rfl ?_
        refine z_iadd rfl ?_
        refine z_bipush (v := 6) rfl (by decide) ?_
        refine z_isub rfl ?_
        refine z_ildE rfl (hM.2 1 (by decide)) (k := 3) (by decide) (show 3 < 105 by decide) ?_
        rw [c1]
        refine z_callV (av := [_]) rfl z_w163 hM.1 rfl rfl rfl rfl rfl (Nat.le_of_ble_eq_true rfl) (Nat.le_of_ble_eq_true rfl) (Nat.le_of_ble_eq_true rfl) (Nat.le_of_ble_eq_true rfl) (cM_done hM (fun h9 hM9 hF9 => ?_))
        refine z_iret rfl rfl ?_
        exact q.dn hR hM9 hF9 (by rw [if_neg (by decide), if_neg (by decide), if_neg (by decide), if_neg (by decide), if_neg (by decide), if_neg (by decide), if_pos rfl])
      · refine z_tswI (x := 7) (o := 131) (t := 132) rfl (by decide) (by decide) rfl rfl ?_
        refine z_aload_n rfl rfl ?_
        refine z_aload_n rfl rfl ?_
        refine z_get rfl hM.1 rfl ?_
        refine z_iconst (v := 3) rfl (by decide) ?_
        refine z_iload_n rfl rfl ?_
        refine z_iadd rfl ?_
        refine z_bipush (v := 6) rfl (by decide) ?_
        refine z_isub rfl ?_
        refine z_ildE rfl (hM.2 1 (by decide)) (k := 4) (by decide) (show 4 < 105 by decide) ?_
        rw [c2]
        refine z_callV (av := [_]) rfl z_w163 hM.1 rfl rfl rfl rfl rfl (Nat.le_of_ble_eq_true rfl) (Nat.le_of_ble_eq_true rfl) (Nat.le_of_ble_eq_true rfl) (Nat.le_of_ble_eq_true rfl) (cM_done hM (fun h9 hM9 hF9 => ?_))
        refine z_iret rfl rfl ?_
        exact q.dn hR hM9 hF9 (by rw [if_neg (by decide), if_neg (by decide), if_neg (by decide), if_neg (by decide), if_neg (by decide), if_neg (by decide), if_neg (by decide), if_pos rfl])
      · refine z_tswI (x := 8) (o := 131) (t := 132) rfl (by decide) (by decide) rfl rfl ?_
        refine z_aload_n rfl rfl ?_
        refine z_aload_n rfl rfl ?_
        refine z_get rfl hM.1 rfl ?_
        refine z_iconst (v := 3) rfl (by decide) ?_
        refine z_iload_n rfl rfl ?_
        refine z_iadd rfl ?_
        refine z_bipush (v := 6) rfl (by decide) ?_
        refine z_isub rfl ?_
        refine z_ildE rfl (hM.2 1 (by decide)) (k := 5) (by decide) (show 5 < 105 by decide) ?_
        rw [c6]
        refine z_callV (av := [_]) rfl z_w163 hM.1 rfl rfl rfl rfl rfl (Nat.le_of_ble_eq_true rfl) (Nat.le_of_ble_eq_true rfl) (Nat.le_of_ble_eq_true rfl) (Nat.le_of_ble_eq_true rfl) (cM_done hM (fun h9 hM9 hF9 => ?_))
        refine z_iret rfl rfl ?_
        exact q.dn hR hM9 hF9 (by rw [if_neg (by decide), if_neg (by decide), if_neg (by decide), if_neg (by decide), if_neg (by decide), if_neg (by decide), if_neg (by decide), if_neg (by decide), if_pos rfl])
      · refine z_tswI (x := 9) (o := 131) (t := 132) rfl (by decide) (by decide) rfl rfl ?_
        refine z_aload_n rfl rfl ?_
        refine z_aload_n rfl rfl ?_
        refine z_get rfl hM.1 rfl ?_
        refine z_iconst (v := 3) rfl (by decide) ?_
        refine z_iload_n rfl rfl ?_
        refine z_iadd rfl ?_
        refine z_bipush (v := 6) rfl (by decide) ?_
        refine z_isub rfl ?_
        refine z_ildE rfl (hM.2 1 (by decide)) (k := 6) (by decide) (show 6 < 105 by decide) ?_
        rw [c3]
        refine z_callV (av := [_]) rfl z_w163 hM.1 rfl rfl rfl rfl rfl (Nat.le_of_ble_eq_true rfl) (Nat.le_of_ble_eq_true rfl) (Nat.le_of_ble_eq_true rfl) (Nat.le_of_ble_eq_true rfl) (cM_done hM (fun h9 hM9 hF9 => ?_))
        refine z_iret rfl rfl ?_
        exact q.dn hR hM9 hF9 (by rw [if_neg (by decide), if_neg (by decide), if_neg (by decide), if_neg (by decide), if_neg (by decide), if_neg (by decide), if_neg (by decide), if_neg (by decide), if_neg (by decide), if_pos rfl])
      · refine z_tswI (x := 10) (o := 131) (t := 132) rfl (by decide) (by decide) rfl rfl ?_
        refine z_aload_n rfl rfl ?_
        refine z_aload_n rfl rfl ?_
        refine z_get rfl hM.1 rfl ?_
        refine z_iconst (v := 3) rfl (by decide) ?_
        refine z_iload_n rfl rfl ?_
        refine z_iadd rfl ?_
        refine z_bipush (v := 6) rfl (by decide) ?_
        refine z_isub rfl ?_
        refine z_ildE rfl (hM.2 1 (by decide)) (k := 7) (by decide) (show 7 < 105 by decide) ?_
        rw [c4]
        refine z_callV (av := [_]) rfl z_w163 hM.1 rfl rfl rfl rfl rfl (Nat.le_of_ble_eq_true rfl) (Nat.le_of_ble_eq_true rfl) (Nat.le_of_ble_eq_true rfl) (Nat.le_of_ble_eq_true rfl) (cM_done hM (fun h9 hM9 hF9 => ?_))
        refine z_iret rfl rfl ?_
        exact q.dn hR hM9 hF9 (by rw [if_neg (by decide), if_neg (by decide), if_neg (by decide), if_neg (by decide), if_neg (by decide), if_neg (by decide), if_neg (by decide), if_neg (by decide), if_neg (by decide), if_neg (by decide), if_pos rfl])
      · refine z_tswI (x := 11) (o := 131) (t := 132) rfl (by decide) (by decide) rfl rfl ?_
        refine z_aload_n rfl rfl ?_
        refine z_aload_n rfl rfl ?_
        refine z_get rfl hM.1 rfl ?_
        refine z_iconst (v := 3) rfl (by decide) ?_
        refine z_iload_n rfl rfl ?_
        refine z_iadd rfl ?_
        refine z_bipush (v := 6) rfl (by decide) ?_
        refine z_isub rfl ?_
        refine z_ildE rfl (hM.2 1 (by decide)) (k := 8) (by decide) (show 8 < 105 by decide) ?_
        rw [c5]
        refine z_callV (av := [_]) rfl z_w163 hM.1 rfl rfl rfl rfl rfl (Nat.le_of_ble_eq_true rfl) (Nat.le_of_ble_eq_true rfl) (Nat.le_of_ble_eq_true rfl) (Nat.le_of_ble_eq_true rfl) (cM_done hM (fun h9 hM9 hF9 => ?_))
        refine z_iret rfl rfl ?_
        exact q.dn hR hM9 hF9 (by rw [if_neg (by decide), if_neg (by decide), if_neg (by decide), if_neg (by decide), if_neg (by decide), if_neg (by decide), if_neg (by decide), if_neg (by decide), if_neg (by decide), if_neg (by decide), if_neg (by decide), if_pos rfl])
      · refine z_tswI (x := 12) (o := 147) (t := 148) rfl (by decide) (by decide) rfl rfl ?_
        refine z_aload_n rfl rfl ?_
        refine z_aload_n rfl rfl ?_
        refine z_get rfl hM.1 rfl ?_
        rw [t8]
        refine z_callV (av := [_]) rfl z_w163 hM.1 rfl rfl rfl rfl rfl (Nat.le_of_ble_eq_true rfl) (Nat.le_of_ble_eq_true rfl) (Nat.le_of_ble_eq_true rfl) (Nat.le_of_ble_eq_true rfl) (cM_done hM (fun h9 hM9 hF9 => ?_))
        refine z_iret rfl rfl ?_
        exact q.dn hR hM9 hF9 (by rw [if_neg (by decide), if_neg (by decide), if_neg (by decide), if_neg (by decide), if_neg (by decide), if_neg (by decide), if_neg (by decide), if_neg (by decide), if_neg (by decide), if_neg (by decide), if_neg (by decide), if_neg (by decide), if_pos rfl])
      · refine z_tswI (x := 13) (o := 156) (t := 157) rfl (by decide) (by decide) rfl rfl ?_
        refine z_aload_n rfl rfl ?_
        refine z_aload_n rfl rfl ?_
        refine z_get rfl hM.1 rfl ?_
        rw [t4]
        refine z_callV (av := [_]) rfl z_w163 hM.1 rfl rfl rfl rfl rfl (Nat.le_of_ble_eq_true rfl) (Nat.le_of_ble_eq_true rfl) (Nat.le_of_ble_eq_true rfl) (Nat.le_of_ble_eq_true rfl) (cM_done hM (fun h9 hM9 hF9 => ?_))
        refine z_iret rfl rfl ?_
        exact q.dn hR hM9 hF9 (by rw [if_neg (by decide), if_neg (by decide), if_neg (by decide), if_neg (by decide), if_neg (by decide), if_neg (by decide), if_neg (by decide), if_neg (by decide), if_neg (by decide), if_neg (by decide), if_neg (by decide), if_neg (by decide), if_neg (by decide), if_pos rfl])
    · refine z_tswO (t := 166) rfl (by first | exact hw9 | omega) rfl ?_
      rw [if_neg (z_swNe 0 hw9), if_neg (z_swNe 1 hw9), if_neg (z_swNe 2 hw9), if_neg (z_swNe 3 hw9), if_neg (z_swNe 4 hw9), if_neg (z_swNe 5 hw9), if_neg (z_swNe 6 hw9), if_neg (z_swNe 7 hw9), if_neg (z_swNe 8 hw9), if_neg (z_swNe 9 hw9), if_neg (z_swNe 10 hw9), if_neg (z_swNe 11 hw9), if_neg (z_swNe 12 hw9), if_neg (z_swNe 13 hw9)] at q
      refine z_aload_n rfl rfl ?_
      refine z_iconst (v := 1) rfl (by decide) ?_
      refine z_callV (av := [_]) rfl z_w164 hM.1 rfl rfl rfl rfl rfl (Nat.le_of_ble_eq_true rfl) (Nat.le_of_ble_eq_true rfl) (Nat.le_of_ble_eq_true rfl) (Nat.le_of_ble_eq_true rfl) (cM_fails (v := nI 1) hM (fun h9 hM9 hF9 => ?_))
      refine z_iret rfl rfl ?_
      exact q.fl hR hM9 hF9 rfl (by decide)
  refine z_iload_n rfl rfl ?_
  exact sw
theorem cM_next (hM : z_Mo h a m) (hR : z_Rel x m) (q : z_mQ (z_fNext x) h a Q) : z_W G 1 0 0 220 0 (z_L0 220 [.ref a]) [] h Q := by
  have hw := hR.1.1
  have hg := hR.1.2
  have h8 := hw.nc
  have h10 := hw.nb
  have hnr := hw.nr
  have hM1 := hM.gf
  have loop : ∀ (k i : Nat) (l t : Int32), i + k = x.1.2.1.1 0 → l = z_fold (fun l i => if z_htB x.1.2.1 l i = true then z_a x.1.2.1 3 (nI i) else l) 0 i → (l = 0 ∧ t = 100 ∨ ∃ n, 0 < n ∧ n < 13 ∧ l = nI n ∧ t = nI n) → z_W G 1 0 0 220 5 [.ref a, .int t, .int (nI i)] [] h Q := by
    intro k
    induction k with
    | zero =>
      intro i l t hi hl ht
      obtain rfl : i = x.1.2.1.1 0 := hi
      have el : z_htn x.1.2.1 = l := hl.symm
      rcases ht with ⟨e, rfl⟩ | ⟨n, hn, hn2, e, rfl⟩
      · skip
        refine z_iload_n rfl rfl ?_
        refine z_aload_n rfl rfl ?_
        refine z_get rfl hM.1 rfl ?_
        refine z_iconst (v := 1) rfl (by decide) ?_
        refine z_ildE rfl (hM.2 1 (by decide)) (k := 1) rfl (show _ < 105 by omega) ?_
        rw [hg.b0]
        refine z_icmp_ge rfl (fun c12 => ?_) (fun c12 => absurd (Int32.le_refl _) c12)
        refine z_iload_n rfl rfl ?_
        refine z_bipush (v := 100) rfl (by decide) ?_
        refine z_icmp_ne rfl (fun c63 => absurd rfl c63) (fun c63 => ?_)
        refine z_aload_n rfl rfl ?_
        refine z_iconst (v := 1) rfl (by decide) ?_
        refine z_callV (av := [_]) rfl z_w164 hM.1 rfl rfl rfl rfl rfl (Nat.le_of_ble_eq_true rfl) (Nat.le_of_ble_eq_true rfl) (Nat.le_of_ble_eq_true rfl) (Nat.le_of_ble_eq_true rfl) (cM_fails (v := nI 1) hM (fun h9 hM9 hF9 => ?_))
        refine z_goto rfl ?_
        refine z_iret rfl rfl ?_
        exact q.fl hR hM9 hF9 (if_pos (el.trans e)) (by decide)
      · skip
        refine z_iload_n rfl rfl ?_
        refine z_aload_n rfl rfl ?_
        refine z_get rfl hM.1 rfl ?_
        refine z_iconst (v := 1) rfl (by decide) ?_
        refine z_ildE rfl (hM.2 1 (by decide)) (k := 1) rfl (show _ < 105 by omega) ?_
        rw [hg.b0]
        refine z_icmp_ge rfl (fun c12 => ?_) (fun c12 => absurd (Int32.le_refl _) c12)
        refine z_iload_n rfl rfl ?_
        refine z_bipush (v := 100) rfl (by decide) ?_
        refine z_icmp_ne rfl (fun c63 => ?_) (fun c63 => absurd c63 (fun q9 => absurd ((nI_eq (b := 100) (by omega) (by decide)).mp q9) (by omega)))
        refine z_aload_n rfl rfl ?_
        refine z_iload_n rfl rfl ?_
        refine z_callV (av := [_]) rfl z_w163 hM.1 rfl rfl rfl rfl rfl (Nat.le_of_ble_eq_true rfl) (Nat.le_of_ble_eq_true rfl) (Nat.le_of_ble_eq_true rfl) (Nat.le_of_ble_eq_true rfl) (cM_done hM (fun h9 hM9 hF9 => ?_))
        refine z_iret rfl rfl ?_
        exact q.dn hR hM9 hF9 ((if_neg (by rw [el, e]; exact nI_ne0 hn (by omega))).trans (by rw [el, e]))
    | succ k ih =>
      intro i l t hi hl ht
      obtain ⟨d, hd, ed, ea⟩ := hw.B.ho (show i < x.1.2.1.1 0 by omega)
      have e1 : m.2 1 (75 + i) = nI d := (hg.bl hw.wz (j := 3) (by decide) (by decide) (by omega)).trans ea
      have st : z_fold (fun l i => if z_htB x.1.2.1 l i = true then z_a x.1.2.1 3 (nI i) else l) 0 (i + 1) = if 0 < d ∧ (l = 0 ∨ nI d < l) then nI d else l := by
        show (if z_htB x.1.2.1 (z_fold _ 0 i) i = true then z_a x.1.2.1 3 (nI i) else z_fold _ 0 i) = _
        rw [← hl, ea]
        unfold z_htB z_adj
        rw [ea]
        by_cases c : 0 < d ∧ (l = 0 ∨ nI d < l)
        · rw [if_pos c, if_pos]
          rw [Bool.and_eq_true, Bool.or_eq_true]
          exact ⟨decide_eq_true (z_pos0 c.1 (by omega)), c.2.elim (fun q => Or.inl (decide_eq_true q)) (fun q => Or.inr (decide_eq_true q))⟩
        · rw [if_neg c, if_neg]
          rw [Bool.and_eq_true, Bool.or_eq_true]
          exact fun q9 => c ⟨(nI_ltI (a := 0) (by decide) (by omega)).mp (of_decide_eq_true q9.1), q9.2.elim (fun q => Or.inl (of_decide_eq_true q)) (fun q => Or.inr (of_decide_eq_true q))⟩
      by_cases d0 : d = 0
      · rw [if_neg (by omega)] at st
        refine z_iload_n rfl rfl ?_
        refine z_aload_n rfl rfl ?_
        refine z_get rfl hM.1 rfl ?_
        refine z_iconst (v := 1) rfl (by decide) ?_
        refine z_ildE rfl (hM.2 1 (by decide)) (k := 1) rfl (show _ < 105 by omega) ?_
        rw [hg.b0]
        refine z_icmp_ge rfl (fun c12 => absurd c12 (fun q9 => absurd ((nI_leI (by omega) (by omega)).mp q9) (by omega))) (fun c12 => ?_)
        refine z_aload_n rfl rfl ?_
        refine z_get rfl hM.1 rfl ?_
        refine z_bipush (v := 75) rfl (by decide) ?_
        refine z_iload_n rfl rfl ?_
        refine z_iadd rfl ?_
        refine z_ildE rfl (hM.2 1 (by decide)) (nI_add 75 (i)) (show _ < 105 by omega) ?_
        rw [e1]
        refine z_if_le rfl (fun c24 => ?_) (fun c24 => absurd (by rw [d0]; decide) c24)
        refine z_iload_n rfl rfl ?_
        refine z_istore_n rfl (by decide +kernel) rfl ?_
        refine z_iinc1 rfl rfl (by decide +kernel) rfl ?_
        exact z_goto rfl (ih (i + 1) l t (by omega) st.symm ht)
      · have dp : ¬ nI d ≤ 0 := Int32.not_le.mpr (z_pos0 (by omega) (by omega))
        by_cases c : nI d < t
        · have hc : 0 < d ∧ (l = 0 ∨ nI d < l) := ⟨by omega, by
            rcases ht with ⟨e, _⟩ | ⟨n, _, _, e, e2⟩
            · exact Or.inl e
            · exact Or.inr (by rw [e, ← e2]; exact c)⟩
          rw [if_pos hc] at st
          refine z_iload_n rfl rfl ?_
          refine z_aload_n rfl rfl ?_
          refine z_get rfl hM.1 rfl ?_
          refine z_iconst (v := 1) rfl (by decide) ?_
          refine z_ildE rfl (hM.2 1 (by decide)) (k := 1) rfl (show _ < 105 by omega) ?_
          rw [hg.b0]
          refine z_icmp_ge rfl (fun c12 => absurd c12 (fun q9 => absurd ((nI_leI (by omega) (by omega)).mp q9) (by omega))) (fun c12 => ?_)
          refine z_aload_n rfl rfl ?_
          refine z_get rfl hM.1 rfl ?_
          refine z_bipush (v := 75) rfl (by decide) ?_
          refine z_iload_n rfl rfl ?_
          refine z_iadd rfl ?_
          refine z_ildE rfl (hM.2 1 (by decide)) (nI_add 75 (i)) (show _ < 105 by omega) ?_
          rw [e1]
          refine z_if_le rfl (fun c24 => absurd c24 dp) (fun c24 => ?_)
          refine z_aload_n rfl rfl ?_
          refine z_get rfl hM.1 rfl ?_
          refine z_bipush (v := 75) rfl (by decide) ?_
          refine z_iload_n rfl rfl ?_
          refine z_iadd rfl ?_
          refine z_ildE rfl (hM.2 1 (by decide)) (nI_add 75 (i)) (show _ < 105 by omega) ?_
          rw [e1]
          refine z_iload_n rfl rfl ?_
          refine z_icmp_ge rfl (fun c37 => absurd c37 (Int32.not_le.mpr c)) (fun c37 => ?_)
          refine z_aload_n rfl rfl ?_
          refine z_get rfl hM.1 rfl ?_
          refine z_bipush (v := 75) rfl (by decide) ?_
          refine z_iload_n rfl rfl ?_
          refine z_iadd rfl ?_
          refine z_ildE rfl (hM.2 1 (by decide)) (nI_add 75 (i)) (show _ < 105 by omega) ?_
          rw [e1]
          refine z_goto rfl ?_
          refine z_istore_n rfl (by decide +kernel) rfl ?_
          refine z_iinc1 rfl rfl (by decide +kernel) rfl ?_
          exact z_goto rfl (ih (i + 1) (nI d) (nI d) (by omega) st.symm (Or.inr ⟨d, by omega, hd, rfl, rfl⟩))
        · have hc : ¬ (0 < d ∧ (l = 0 ∨ nI d < l)) := fun q9 => by
            rcases ht with ⟨_, e⟩ | ⟨n, hn, hn2, e, e2⟩
            · exact c (by rw [e]; exact (nI_ltI (b := 100) (by omega) (by decide)).mpr (by omega))
            · rcases q9.2 with q | q
              · rw [e] at q; exact nI_ne0 hn (by omega) q
              · exact c (by rw [e2, ← e]; exact q)
          rw [if_neg hc] at st
          refine z_iload_n rfl rfl ?_
          refine z_aload_n rfl rfl ?_
          refine z_get rfl hM.1 rfl ?_
          refine z_iconst (v := 1) rfl (by decide) ?_
          refine z_ildE rfl (hM.2 1 (by decide)) (k := 1) rfl (show _ < 105 by omega) ?_
          rw [hg.b0]
          refine z_icmp_ge rfl (fun c12 => absurd c12 (fun q9 => absurd ((nI_leI (by omega) (by omega)).mp q9) (by omega))) (fun c12 => ?_)
          refine z_aload_n rfl rfl ?_
          refine z_get rfl hM.1 rfl ?_
          refine z_bipush (v := 75) rfl (by decide) ?_
          refine z_iload_n rfl rfl ?_
          refine z_iadd rfl ?_
          refine z_ildE rfl (hM.2 1 (by decide)) (nI_add 75 (i)) (show _ < 105 by omega) ?_
          rw [e1]
          refine z_if_le rfl (fun c24 => absurd c24 dp) (fun c24 => ?_)
          refine z_aload_n rfl rfl ?_
          refine z_get rfl hM.1 rfl ?_
          refine z_bipush (v := 75) rfl (by decide) ?_
          refine z_iload_n rfl rfl ?_
          refine z_iadd rfl ?_
          refine z_ildE rfl (hM.2 1 (by decide)) (nI_add 75 (i)) (show _ < 105 by omega) ?_
          rw [e1]
          refine z_iload_n rfl rfl ?_
          refine z_icmp_ge rfl (fun c37 => ?_) (fun c37 => absurd (Int32.not_lt.mp c) c37)
          refine z_iload_n rfl rfl ?_
          refine z_istore_n rfl (by decide +kernel) rfl ?_
          refine z_iinc1 rfl rfl (by decide +kernel) rfl ?_
          exact z_goto rfl (ih (i + 1) l t (by omega) st.symm ht)
  refine z_bipush (v := 100) rfl (by decide) ?_
  refine z_istore_n rfl (by decide +kernel) rfl ?_
  refine z_iconst (v := nI 0) rfl (by decide) ?_
  refine z_istore_n rfl (by decide +kernel) rfl ?_
  exact loop (x.1.2.1.1 0) 0 0 100 (by omega) rfl (Or.inl ⟨rfl, rfl⟩)
theorem cM_weakest (hM : z_Mo h a m) (hR : z_Rel x m) (q : z_mQ (z_fWeakest x) h a Q) : z_W G 1 0 0 229 0 (z_L0 229 [.ref a]) [] h Q := by
  have hw := hR.1.1
  have hg := hR.1.2
  have h8 := hw.nc
  have h10 := hw.nb
  have hnr := hw.nr
  have hM1 := hM.gf
  by_cases e0 : x.1.1.1 0 = 0
  · have c0 : m.2 1 0 = nI 0 := hg.c0.trans (by rw [e0])
    refine z_iconst (v := 0) rfl (by decide) ?_
    refine z_istore_n rfl (by decide +kernel) rfl ?_
    refine z_iconst (v := 1) rfl (by decide) ?_
    refine z_istore_n rfl (by decide +kernel) rfl ?_
    refine z_iload_n rfl rfl ?_
    refine z_aload_n rfl rfl ?_
    refine z_get rfl hM.1 rfl ?_
    refine z_iconst (v := 0) rfl (by decide) ?_
    refine z_ildE rfl (hM.2 1 (by decide)) (k := 0) rfl (show _ < 105 by omega) ?_
    rw [c0]
    refine z_icmp_ge rfl (fun c11 => ?_) (fun c11 => absurd (by decide) c11)
    refine z_aload_n rfl rfl ?_
    refine z_get rfl hM.1 rfl ?_
    refine z_iconst (v := 0) rfl (by decide) ?_
    refine z_ildE rfl (hM.2 1 (by decide)) (k := 0) rfl (show _ < 105 by omega) ?_
    rw [c0]
    refine z_if_ne rfl (fun c53 => absurd rfl c53) (fun c53 => ?_)
    refine z_aload_n rfl rfl ?_
    refine z_iconst (v := 1) rfl (by decide) ?_
    refine z_callV (av := [_]) rfl z_w164 hM.1 rfl rfl rfl rfl rfl (Nat.le_of_ble_eq_true rfl) (Nat.le_of_ble_eq_true rfl) (Nat.le_of_ble_eq_true rfl) (Nat.le_of_ble_eq_true rfl) (cM_fails (v := nI 1) hM (fun h9 hM9 hF9 => ?_))
    refine z_goto rfl ?_
    refine z_iret rfl rfl ?_
    exact q.fl hR hM9 hF9 (if_pos e0) (by decide)
  · have s1 := hw.sc (j := 1) (by decide)
    have loop : ∀ (k i b : Nat), i + k = x.1.1.1 0 - 1 → b < x.1.1.1 0 → nI b = z_fold (fun w i => if z_a x.1.1 1 (nI (i + 1)) < z_a x.1.1 1 w then nI (i + 1) else w) 0 i → z_W G 1 0 0 229 4 [.ref a, .int (nI b), .int (nI (i + 1))] [] h Q := by
      intro k
      induction k with
      | zero =>
        intro i b hi hb hf
        refine z_iload_n rfl rfl ?_
        refine z_aload_n rfl rfl ?_
        refine z_get rfl hM.1 rfl ?_
        refine z_iconst (v := 0) rfl (by decide) ?_
        refine z_ildE rfl (hM.2 1 (by decide)) (k := 0) rfl (show _ < 105 by omega) ?_
        rw [hg.c0]
        refine z_icmp_ge rfl (fun c11 => ?_) (fun c11 => absurd ((nI_leI (by omega) (by omega)).mpr (by omega)) c11)
        refine z_aload_n rfl rfl ?_
        refine z_get rfl hM.1 rfl ?_
        refine z_iconst (v := 0) rfl (by decide) ?_
        refine z_ildE rfl (hM.2 1 (by decide)) (k := 0) rfl (show _ < 105 by omega) ?_
        rw [hg.c0]
        refine z_if_ne rfl (fun c53 => ?_) (fun c53 => absurd c53 (nI_ne0 (by omega) (by omega)))
        refine z_aload_n rfl rfl ?_
        refine z_iload_n rfl rfl ?_
        refine z_callV (av := [_]) rfl z_w163 hM.1 rfl rfl rfl rfl rfl (Nat.le_of_ble_eq_true rfl) (Nat.le_of_ble_eq_true rfl) (Nat.le_of_ble_eq_true rfl) (Nat.le_of_ble_eq_true rfl) (cM_done hM (fun h9 hM9 hF9 => ?_))
        refine z_iret rfl rfl ?_
        refine q.dn hR hM9 hF9 ((if_neg e0).trans ?_)
        rw [hf, show i = x.1.1.1 0 - 1 by omega]; rfl
      | succ k ih =>
        intro i b hi hb hf
        have e1 : m.2 1 (18 + (i + 1)) = z_a x.1.1 1 (nI (i + 1)) := hg.cl hw.wz (j := 1) (by decide) (by omega)
        have e2 : m.2 1 (18 + b) = z_a x.1.1 1 (nI b) := hg.cl hw.wz (j := 1) (by decide) hb
        have st : z_fold (fun w i => if z_a x.1.1 1 (nI (i + 1)) < z_a x.1.1 1 w then nI (i + 1) else w) 0 (i + 1) = if z_a x.1.1 1 (nI (i + 1)) < z_a x.1.1 1 (nI b) then nI (i + 1) else nI b := by
          rw [hf]; rfl
        refine z_iload_n rfl rfl ?_
        refine z_aload_n rfl rfl ?_
        refine z_get rfl hM.1 rfl ?_
        refine z_iconst (v := 0) rfl (by decide) ?_
        refine z_ildE rfl (hM.2 1 (by decide)) (k := 0) rfl (show _ < 105 by omega) ?_
        rw [hg.c0]
        refine z_icmp_ge rfl (fun c11 => absurd c11 (fun q9 => absurd ((nI_leI (by omega) (by omega)).mp q9) (by omega))) (fun c11 => ?_)
        refine z_aload_n rfl rfl ?_
        refine z_get rfl hM.1 rfl ?_
        refine z_bipush (v := 18) rfl (by decide) ?_
        refine z_iload_n rfl rfl ?_
        refine z_iadd rfl ?_
        refine z_ildE rfl (hM.2 1 (by decide)) (nI_add 18 ((i + 1))) (show _ < 105 by omega) ?_
        rw [e1]
        refine z_aload_n rfl rfl ?_
        refine z_get rfl hM.1 rfl ?_
        refine z_bipush (v := 18) rfl (by decide) ?_
        refine z_iload_n rfl rfl ?_
        refine z_iadd rfl ?_
        refine z_ildE rfl (hM.2 1 (by decide)) (nI_add 18 (b)) (show _ < 105 by omega) ?_
        rw [e2]
        refine z_icmp_ge rfl (fun c32 => ?_) (fun c32 => ?_)
        · refine z_iload_n rfl rfl ?_
          refine z_istore_n rfl (by decide +kernel) rfl ?_
          refine z_iinc1 rfl rfl (by decide +kernel) rfl ?_
          exact z_goto rfl (ih (i + 1) b (by omega) hb (by rw [st, if_neg (Int32.not_lt.mpr c32)]))
        · refine z_iload_n rfl rfl ?_
          refine z_goto rfl ?_
          refine z_istore_n rfl (by decide +kernel) rfl ?_
          refine z_iinc1 rfl rfl (by decide +kernel) rfl ?_
          exact z_goto rfl (ih (i + 1) (i + 1) (by omega) (by omega) (by rw [st, if_pos (Int32.not_le.mp c32)]))
    refine z_iconst (v := nI 0) rfl (by decide) ?_
    refine z_istore_n rfl (by decide +kernel) rfl ?_
    refine z_iconst (v := nI 1) rfl (by decide) ?_
    refine z_istore_n rfl (by decide +kernel) rfl ?_
    exact loop (x.1.1.1 0 - 1) 0 0 (by omega) (by omega) rfl
end ZQd
