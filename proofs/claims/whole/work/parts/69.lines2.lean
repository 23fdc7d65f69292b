/-! tell, tellBill, tellRow of the model. -/
section ZLm
variable {G : z_G} {h : z_H} {Q : z_O → z_H → Prop} {a : Nat} {m : z_MV} {x : z_PV}
theorem z_dg1 {c : Nat} (h : c < 10) : z_dgs c = [] ++ [48 + c] := by unfold z_dgs; rw [if_pos h]; rfl
theorem z_mQ.ln {f : z_An} {m m' : z_MV} {h' : z_H} {l : List Nat} (q : z_mQ f h a Q) (hR : z_Rel x m) (hM : z_Mo h' a (z_mS m' 16 0)) (hL : z_Ln m' l) (o : z_onL (z_mS m 15 0) m') (hF : z_Fr a 9 h h') (e : f = (0, nI l.length, z_setL x l)) : Q (.inl (some (.int (nI l.length)))) h' := by
  subst e
  exact q h' _ _ hM (hR.line (hL.th 0) (fun i h1 h2 => (if_neg h2).trans ((o.1 i h1).trans (if_neg h1))) (fun j hj => o.2 j hj)) rfl hF (fun _ => rfl)
theorem z_len1 (l : List Nat) (s k : Nat) : (l ++ [s] ++ z_dgs k).length ≤ l.length + 3 := by
  have := z_dgs_len k
  rw [List.length_append, List.length_append]
  show l.length + 1 + _ ≤ _
  omega
theorem cM_tell {c : Int32} (hM : z_Mo h a m) (hR : z_Rel x m) (q : z_mQ (z_fTell x c) h a Q) : z_W G 3 0 0 249 0 (z_L0 249 [.ref a, .int c]) [] h Q := by
  have hw := hR.1.1
  have hg := hR.1.2
  have h8 := hw.nc
  unfold z_fTell at q
  cases e1 : z_has c (x.1.1.1 0) with
  | false =>
    refine z_aload_n rfl rfl ?_
    refine z_iload_n rfl rfl ?_
    refine z_callV (av := [_]) rfl z_w169 hM.1 rfl rfl rfl rfl rfl (Nat.le_of_ble_eq_true rfl) (Nat.le_of_ble_eq_true rfl) (Nat.le_of_ble_eq_true rfl) (Nat.le_of_ble_eq_true rfl) (cM_isClock hM hg hw.wz ?_)
    rw [e1]
    refine z_if_ne rfl (fun c5 => absurd (by decide) c5) (fun c5 => ?_)
    refine z_aload_n rfl rfl ?_
    refine z_iconst (v := 1) rfl (by decide) ?_
    refine z_callV (av := [_]) rfl z_w164 hM.1 rfl rfl rfl rfl rfl (Nat.le_of_ble_eq_true rfl) (Nat.le_of_ble_eq_true rfl) (Nat.le_of_ble_eq_true rfl) (Nat.le_of_ble_eq_true rfl) (cM_fails (v := nI 1) hM (fun h9 hM9 hF9 => ?_))
    refine z_iret rfl rfl ?_
    exact q.fl hR hM9 hF9 (if_pos e1) (by decide)
  | true =>
    obtain ⟨j, hj, rfl⟩ := z_hasE (by omega) e1
    rw [if_neg (by rw [e1]; decide), z_ix_nI (by omega)] at q
    obtain ⟨s, hs, es⟩ := hw.se hj
    obtain ⟨p, hp, ep⟩ := hw.sp hj
    obtain ⟨d, hd, ed⟩ := hw.le hj
    have gs : m.2 1 (10 + j) = nI s := (hg.cl hw.wz (j := 0) (by decide) hj).trans es
    have gp : m.2 1 (18 + j) = nI p := (hg.cl hw.wz (j := 1) (by decide) hj).trans ep
    have gd : m.2 1 (26 + j) = nI d := (hg.cl hw.wz (j := 2) (by decide) hj).trans ed
    have el : ∀ n, z_fold (z_kyS x.1 (nI j)) (((z_dgs j ++ [58] ++ z_dgs s) ++ [126] ++ z_dgs p) ++ [60] ++ z_dgs d) n = z_fold (z_kyS x.1 (nI j)) (((z_dgs j ++ [58] ++ z_dgs (z_ix (z_a x.1.1 0 (nI j)))) ++ [126] ++ z_dgs (z_ix (z_a x.1.1 1 (nI j)))) ++ [60] ++ z_dgs (z_ix (z_a x.1.1 2 (nI j)))) n := fun n => by
      rw [es, ep, ed, z_ix_nI (by omega), z_ix_nI (by omega), z_ix_nI (by omega)]
    unfold z_tlL at q
    rw [← el 3] at q
    have ll : ∀ n, (z_fold (z_kyS x.1 (nI j)) (((z_dgs j ++ [58] ++ z_dgs s) ++ [126] ++ z_dgs p) ++ [60] ++ z_dgs d) n).length ≤ 11 + 3 * n := by
      intro n
      induction n with
      | zero =>
        have := z_dgs_len j
        have := z_len1 (z_dgs j) 58 s
        have := z_len1 (z_dgs j ++ [58] ++ z_dgs s) 126 p
        have := z_len1 ((z_dgs j ++ [58] ++ z_dgs s) ++ [126] ++ z_dgs p) 60 d
        show (((z_dgs j ++ [58] ++ z_dgs s) ++ [126] ++ z_dgs p) ++ [60] ++ z_dgs d).length ≤ 11 + 0
        omega
      | succ n ih =>
        show (z_kyS x.1 (nI j) (z_fold (z_kyS x.1 (nI j)) (((z_dgs j ++ [58] ++ z_dgs s) ++ [126] ++ z_dgs p) ++ [60] ++ z_dgs d) n) n).length ≤ _
        generalize z_fold (z_kyS x.1 (nI j)) (((z_dgs j ++ [58] ++ z_dgs s) ++ [126] ++ z_dgs p) ++ [60] ++ z_dgs d) n = L at ih
        unfold z_kyS
        split
        · have := z_len1 L 107 n
          omega
        · omega
    generalize hl0 : ((z_dgs j ++ [58] ++ z_dgs s) ++ [126] ++ z_dgs p) ++ [60] ++ z_dgs d = l0 at q ll
    have loop : ∀ (k i : Nat) (hh : z_H) (m1 : z_MV), i + k = 3 → z_Mo hh a m1 → z_Ln m1 (z_fold (z_kyS x.1 (nI j)) l0 i) → z_onL (z_mS m 15 0) m1 → z_Fr a 9 h hh → z_W G 3 0 0 249 74 [.ref a, .int (nI j), .int (nI i)] [] hh Q := by
      intro k
      induction k with
      | zero =>
        intro i hh m1 hi hD hL o hF
        obtain rfl : i = 3 := hi
        refine z_iload_n rfl rfl ?_
        refine z_iconst (v := 3) rfl (by decide) ?_
        refine z_icmp_ge rfl (fun c76 => ?_) (fun c76 => absurd (Int32.le_refl _) c76)
        refine z_aload_n rfl rfl ?_
        refine z_aload_n rfl rfl ?_
        refine z_get rfl hD.1 rfl ?_
        rw [hL.2.1]
        refine z_callV (av := [_]) rfl z_w163 hD.1 rfl rfl rfl rfl rfl (Nat.le_of_ble_eq_true rfl) (Nat.le_of_ble_eq_true rfl) (Nat.le_of_ble_eq_true rfl) (Nat.le_of_ble_eq_true rfl) (cM_done hD (fun h9 hM9 hF9 => ?_))
        refine z_iret rfl rfl ?_
        exact q.ln hR hM9 hL o (hF.trans hF9) rfl
      | succ k ih =>
        intro i hh m1 hi hD hL o hF
        have e1 : m1.2 1 = m.2 1 := o.2 1 (by decide)
        have ek : m1.2 1 (42 + i) = z_a x.1.1 4 (nI i) + 1 := by rw [e1]; exact hg.ky hw.wz (by omega)
        have st : z_fold (z_kyS x.1 (nI j)) l0 (i + 1) = if z_a x.1.1 4 (nI i) = nI j then z_fold (z_kyS x.1 (nI j)) l0 i ++ [107] ++ z_dgs i else z_fold (z_kyS x.1 (nI j)) l0 i := rfl
        by_cases c : z_a x.1.1 4 (nI i) = nI j
        · rw [if_pos c] at st
          have := ll i
          refine z_iload_n rfl rfl ?_
          refine z_iconst (v := 3) rfl (by decide) ?_
          refine z_icmp_ge rfl (fun c76 => absurd c76 (show ¬ nI 3 ≤ nI i from fun q9 => absurd ((nI_leI (by omega) (by omega)).mp q9) (by omega))) (fun c76 => ?_)
          refine z_aload_n rfl rfl ?_
          refine z_get rfl hD.1 rfl ?_
          refine z_bipush (v := 42) rfl (by decide) ?_
          refine z_iload_n rfl rfl ?_
          refine z_iadd rfl ?_
          refine z_ildE rfl (hD.2 1 (by decide)) (nI_add 42 (i)) (show _ < 105 by omega) ?_
          rw [ek]
          refine z_iload_n rfl rfl ?_
          refine z_iconst (v := 1) rfl (by decide) ?_
          refine z_iadd rfl ?_
          refine z_icmp_ne rfl (fun c91 => absurd ((z_add1I _ _).mpr c) c91) (fun c91 => ?_)
          refine z_aload_n rfl rfl ?_
          refine z_bipush (v := 107) rfl (by decide) ?_
          refine z_iload_n rfl rfl ?_
          refine z_callV (av := [_, _]) rfl z_w248 hD.1 rfl rfl rfl rfl rfl (Nat.le_of_ble_eq_true rfl) (Nat.le_of_ble_eq_true rfl) (Nat.le_of_ble_eq_true rfl) (Nat.le_of_ble_eq_true rfl) (cM_writesBehind (s := 107) (k := i) hD hL (by decide) (by omega) (by omega) (fun h1 m2 hM2 hL2 o2 hF2 => ?_))
          refine z_iinc1 rfl rfl (by decide +kernel) rfl ?_
          exact z_goto rfl (ih (i + 1) _ _ (by omega) hM2 (by rw [st]; exact hL2) (o.trans o2) (hF.trans hF2))
        · rw [if_neg c] at st
          refine z_iload_n rfl rfl ?_
          refine z_iconst (v := 3) rfl (by decide) ?_
          refine z_icmp_ge rfl (fun c76 => absurd c76 (show ¬ nI 3 ≤ nI i from fun q9 => absurd ((nI_leI (by omega) (by omega)).mp q9) (by omega))) (fun c76 => ?_)
          refine z_aload_n rfl rfl ?_
          refine z_get rfl hD.1 rfl ?_
          refine z_bipush (v := 42) rfl (by decide) ?_
          refine z_iload_n rfl rfl ?_
          refine z_iadd rfl ?_
          refine z_ildE rfl (hD.2 1 (by decide)) (nI_add 42 (i)) (show _ < 105 by omega) ?_
          rw [ek]
          refine z_iload_n rfl rfl ?_
          refine z_iconst (v := 1) rfl (by decide) ?_
          refine z_iadd rfl ?_
          refine z_icmp_ne rfl (fun c91 => ?_) (fun c91 => absurd c91 (fun q9 => c ((z_add1I _ _).mp q9)))
          refine z_iinc1 rfl rfl (by decide +kernel) rfl ?_
          exact z_goto rfl (ih (i + 1) _ _ (by omega) hD (by rw [st]; exact hL) o hF)
    have l1 := z_dgs_len j
    have l2 := z_len1 (z_dgs j) 58 s
    have l3 := z_len1 (z_dgs j ++ [58] ++ z_dgs s) 126 p
    refine z_aload_n rfl rfl ?_
    refine z_iload_n rfl rfl ?_
    refine z_callV (av := [_]) rfl z_w169 hM.1 rfl rfl rfl rfl rfl (Nat.le_of_ble_eq_true rfl) (Nat.le_of_ble_eq_true rfl) (Nat.le_of_ble_eq_true rfl) (Nat.le_of_ble_eq_true rfl) (cM_isClock hM hg hw.wz ?_)
    rw [e1]
    refine z_if_ne rfl (fun c5 => ?_) (fun c5 => absurd c5 (by decide))
    refine z_aload_n rfl rfl ?_
    refine z_iconst (v := 0) rfl (by decide) ?_
    refine z_putM rfl hM (by decide) rfl rfl (fun h1 hC1 hF1 => ?_)
    refine z_aload_n rfl rfl ?_
    refine z_bipush (v := 48) rfl (by decide) ?_
    refine z_iload_n rfl rfl ?_
    refine z_iadd rfl ?_
    rw [show (48 : Int32) + nI j = nI (48 + j) from nI_add 48 j]
    refine z_callV (av := [_]) rfl z_w247 hC1.1 rfl rfl rfl rfl rfl (Nat.le_of_ble_eq_true rfl) (Nat.le_of_ble_eq_true rfl) (Nat.le_of_ble_eq_true rfl) (Nat.le_of_ble_eq_true rfl) (cM_writes (n := 48 + j) hC1 (z_Ln.nil m) (by omega) (by decide) (fun h2 m2 hM2 hL2 o2 hF2 => ?_))
    rw [← z_dg1 (by omega)] at hL2
    refine z_aload_n rfl rfl ?_
    refine z_bipush (v := 58) rfl (by decide) ?_
    refine z_aload_n rfl rfl ?_
    refine z_get rfl hM2.1 rfl ?_
    refine z_bipush (v := 10) rfl (by decide) ?_
    refine z_iload_n rfl rfl ?_
    refine z_iadd rfl ?_
    refine z_ildE rfl (hM2.2 1 (by decide)) (nI_add 10 (j)) (show _ < 105 by omega) ?_
    rw [show m2.2 1 (10 + j) = nI s by rw [o2.2 1 (by decide)]; exact gs]
    refine z_callV (av := [_, _]) rfl z_w248 hM2.1 rfl rfl rfl rfl rfl (Nat.le_of_ble_eq_true rfl) (Nat.le_of_ble_eq_true rfl) (Nat.le_of_ble_eq_true rfl) (Nat.le_of_ble_eq_true rfl) (cM_writesBehind (s := 58) (k := s) hM2 hL2 (by decide) (by omega) (by omega) (fun h3 m3 hM3 hL3 o3 hF3 => ?_))
    refine z_aload_n rfl rfl ?_
    refine z_bipush (v := 126) rfl (by decide) ?_
    refine z_aload_n rfl rfl ?_
    refine z_get rfl hM3.1 rfl ?_
    refine z_bipush (v := 18) rfl (by decide) ?_
    refine z_iload_n rfl rfl ?_
    refine z_iadd rfl ?_
    refine z_ildE rfl (hM3.2 1 (by decide)) (nI_add 18 (j)) (show _ < 105 by omega) ?_
    rw [show m3.2 1 (18 + j) = nI p by rw [(o2.trans o3).2 1 (by decide)]; exact gp]
    refine z_callV (av := [_, _]) rfl z_w248 hM3.1 rfl rfl rfl rfl rfl (Nat.le_of_ble_eq_true rfl) (Nat.le_of_ble_eq_true rfl) (Nat.le_of_ble_eq_true rfl) (Nat.le_of_ble_eq_true rfl) (cM_writesBehind (s := 126) (k := p) hM3 hL3 (by decide) (by omega) (by omega) (fun h4 m4 hM4 hL4 o4 hF4 => ?_))
    refine z_aload_n rfl rfl ?_
    refine z_bipush (v := 60) rfl (by decide) ?_
    refine z_aload_n rfl rfl ?_
    refine z_get rfl hM4.1 rfl ?_
    refine z_bipush (v := 26) rfl (by decide) ?_
    refine z_iload_n rfl rfl ?_
    refine z_iadd rfl ?_
    refine z_ildE rfl (hM4.2 1 (by decide)) (nI_add 26 (j)) (show _ < 105 by omega) ?_
    rw [show m4.2 1 (26 + j) = nI d by rw [(o2.trans (o3.trans o4)).2 1 (by decide)]; exact gd]
    refine z_callV (av := [_, _]) rfl z_w248 hM4.1 rfl rfl rfl rfl rfl (Nat.le_of_ble_eq_true rfl) (Nat.le_of_ble_eq_true rfl) (Nat.le_of_ble_eq_true rfl) (Nat.le_of_ble_eq_true rfl) (cM_writesBehind (s := 60) (k := d) hM4 hL4 (by decide) (by omega) (by omega) (fun h5 m5 hM5 hL5 o5 hF5 => ?_))
    refine z_iconst (v := 0) rfl (by decide) ?_
    refine z_istore_n rfl (by decide +kernel) rfl ?_
    rw [hl0] at hL5
    exact loop 3 0 _ _ rfl hM5 hL5 (o2.trans (o3.trans (o4.trans o5))) (hF1.trans (hF2.trans (hF3.trans (hF4.trans hF5))))
theorem cM_tellBill {c : Int32} (hM : z_Mo h a m) (hR : z_Rel x m) (q : z_mQ (z_fTellBill x c) h a Q) : z_W G 3 0 0 250 0 (z_L0 250 [.ref a, .int c]) [] h Q := by
  have hw := hR.1.1
  have hg := hR.1.2
  have h10 := hw.nb
  unfold z_fTellBill at q
  cases e1 : z_has c (x.1.2.1.1 0) with
  | false =>
    refine z_aload_n rfl rfl ?_
    refine z_iload_n rfl rfl ?_
    refine z_callV (av := [_]) rfl z_w170 hM.1 rfl rfl rfl rfl rfl (Nat.le_of_ble_eq_true rfl) (Nat.le_of_ble_eq_true rfl) (Nat.le_of_ble_eq_true rfl) (Nat.le_of_ble_eq_true rfl) (cM_isBill hM hg hw.wz ?_)
    rw [e1]
    refine z_if_ne rfl (fun c5 => absurd (by decide) c5) (fun c5 => ?_)
    refine z_aload_n rfl rfl ?_
    refine z_iconst (v := 1) rfl (by decide) ?_
    refine z_callV (av := [_]) rfl z_w164 hM.1 rfl rfl rfl rfl rfl (Nat.le_of_ble_eq_true rfl) (Nat.le_of_ble_eq_true rfl) (Nat.le_of_ble_eq_true rfl) (Nat.le_of_ble_eq_true rfl) (cM_fails (v := nI 1) hM (fun h9 hM9 hF9 => ?_))
    refine z_iret rfl rfl ?_
    exact q.fl hR hM9 hF9 (if_pos e1) (by decide)
  | true =>
    obtain ⟨j, hj, rfl⟩ := z_hasE (by omega) e1
    rw [if_neg (by rw [e1]; decide), z_ix_nI (by omega)] at q
    obtain ⟨s, hs, es⟩ := hw.ab hj
    have s2 := hw.sb (j := 2) (by decide)
    obtain ⟨p, hp, ep0⟩ := (hw.2.2.2.2.2.1 j hj).2.2.1
    have ep : z_a x.1.2.1 2 (nI j) = nI p := by rw [z_aI (by omega) (by omega)]; exact ep0
    obtain ⟨d, hd, _, ed⟩ := hw.B.ho hj
    have gs : m.2 1 (55 + j) = nI s := (hg.bl hw.wz (j := 1) (by decide) (by decide) hj).trans es
    have gp : m.2 1 (65 + j) = nI p := (hg.bl hw.wz (j := 2) (by decide) (by decide) hj).trans ep
    have gd : m.2 1 (75 + j) = nI d := (hg.bl hw.wz (j := 3) (by decide) (by decide) hj).trans ed
    unfold z_tbL z_adj at q
    rw [es, ep, ed, z_ix_nI (by omega), z_ix_nI (by omega), z_ix_nI (by omega)] at q
    have l1 := z_dgs_len j
    have l2 := z_len1 (z_dgs j) 64 s
    have l3 := z_len1 (z_dgs j ++ [64] ++ z_dgs s) 43 p
    by_cases c : d = 0
    · subst c
      rw [if_neg (by decide)] at q
      refine z_aload_n rfl rfl ?_
      refine z_iload_n rfl rfl ?_
      refine z_callV (av := [_]) rfl z_w170 hM.1 rfl rfl rfl rfl rfl (Nat.le_of_ble_eq_true rfl) (Nat.le_of_ble_eq_true rfl) (Nat.le_of_ble_eq_true rfl) (Nat.le_of_ble_eq_true rfl) (cM_isBill hM hg hw.wz ?_)
      rw [e1]
      refine z_if_ne rfl (fun c5 => ?_) (fun c5 => absurd c5 (by decide))
      refine z_aload_n rfl rfl ?_
      refine z_iconst (v := 0) rfl (by decide) ?_
      refine z_putM rfl hM (by decide) rfl rfl (fun h1 hC1 hF1 => ?_)
      refine z_aload_n rfl rfl ?_
      refine z_bipush (v := 48) rfl (by decide) ?_
      refine z_iload_n rfl rfl ?_
      refine z_iadd rfl ?_
      rw [show (48 : Int32) + nI j = nI (48 + j) from nI_add 48 j]
      refine z_callV (av := [_]) rfl z_w247 hC1.1 rfl rfl rfl rfl rfl (Nat.le_of_ble_eq_true rfl) (Nat.le_of_ble_eq_true rfl) (Nat.le_of_ble_eq_true rfl) (Nat.le_of_ble_eq_true rfl) (cM_writes (n := 48 + j) hC1 (z_Ln.nil m) (by omega) (by decide) (fun h2 m2 hM2 hL2 o2 hF2 => ?_))
      rw [← z_dg1 (by omega)] at hL2
      refine z_aload_n rfl rfl ?_
      refine z_bipush (v := 64) rfl (by decide) ?_
      refine z_aload_n rfl rfl ?_
      refine z_get rfl hM2.1 rfl ?_
      refine z_bipush (v := 55) rfl (by decide) ?_
      refine z_iload_n rfl rfl ?_
      refine z_iadd rfl ?_
      refine z_ildE rfl (hM2.2 1 (by decide)) (nI_add 55 (j)) (show _ < 105 by omega) ?_
      rw [show m2.2 1 (55 + j) = nI s by rw [o2.2 1 (by decide)]; exact gs]
      refine z_callV (av := [_, _]) rfl z_w248 hM2.1 rfl rfl rfl rfl rfl (Nat.le_of_ble_eq_true rfl) (Nat.le_of_ble_eq_true rfl) (Nat.le_of_ble_eq_true rfl) (Nat.le_of_ble_eq_true rfl) (cM_writesBehind (s := 64) (k := s) hM2 hL2 (by decide) (by omega) (by omega) (fun h3 m3 hM3 hL3 o3 hF3 => ?_))
      refine z_aload_n rfl rfl ?_
      refine z_bipush (v := 43) rfl (by decide) ?_
      refine z_aload_n rfl rfl ?_
      refine z_get rfl hM3.1 rfl ?_
      refine z_bipush (v := 65) rfl (by decide) ?_
      refine z_iload_n rfl rfl ?_
      refine z_iadd rfl ?_
      refine z_ildE rfl (hM3.2 1 (by decide)) (nI_add 65 (j)) (show _ < 105 by omega) ?_
      rw [show m3.2 1 (65 + j) = nI p by rw [(o2.trans o3).2 1 (by decide)]; exact gp]
      refine z_callV (av := [_, _]) rfl z_w248 hM3.1 rfl rfl rfl rfl rfl (Nat.le_of_ble_eq_true rfl) (Nat.le_of_ble_eq_true rfl) (Nat.le_of_ble_eq_true rfl) (Nat.le_of_ble_eq_true rfl) (cM_writesBehind (s := 43) (k := p) hM3 hL3 (by decide) (by omega) (by omega) (fun h4 m4 hM4 hL4 o4 hF4 => ?_))
      refine z_aload_n rfl rfl ?_
      refine z_get rfl hM4.1 rfl ?_
      refine z_bipush (v := 75) rfl (by decide) ?_
      refine z_iload_n rfl rfl ?_
      refine z_iadd rfl ?_
      refine z_ildE rfl (hM4.2 1 (by decide)) (nI_add 75 (j)) (show _ < 105 by omega) ?_
      rw [show m4.2 1 (75 + j) = nI 0 by rw [(o2.trans (o3.trans o4)).2 1 (by decide)]; exact gd]
      refine z_if_le rfl (fun c66 => ?_) (fun c66 => absurd (by decide) c66)
      refine z_aload_n rfl rfl ?_
      refine z_aload_n rfl rfl ?_
      refine z_get rfl hM4.1 rfl ?_
      rw [hL4.2.1]
      refine z_callV (av := [_]) rfl z_w163 hM4.1 rfl rfl rfl rfl rfl (Nat.le_of_ble_eq_true rfl) (Nat.le_of_ble_eq_true rfl) (Nat.le_of_ble_eq_true rfl) (Nat.le_of_ble_eq_true rfl) (cM_done hM4 (fun h9 hM9 hF9 => ?_))
      refine z_iret rfl rfl ?_
      exact q.ln hR hM9 hL4 (o2.trans (o3.trans o4)) (hF1.trans (hF2.trans (hF3.trans (hF4.trans hF9)))) rfl
    · have dp := z_pos0 (k := d) (by omega) (by omega)
      rw [if_pos (decide_eq_true dp)] at q
      refine z_aload_n rfl rfl ?_
      refine z_iload_n rfl rfl ?_
      refine z_callV (av := [_]) rfl z_w170 hM.1 rfl rfl rfl rfl rfl (Nat.le_of_ble_eq_true rfl) (Nat.le_of_ble_eq_true rfl) (Nat.le_of_ble_eq_true rfl) (Nat.le_of_ble_eq_true rfl) (cM_isBill hM hg hw.wz ?_)
      rw [e1]
      refine z_if_ne rfl (fun c5 => ?_) (fun c5 => absurd c5 (by decide))
      refine z_aload_n rfl rfl ?_
      refine z_iconst (v := 0) rfl (by decide) ?_
      refine z_putM rfl hM (by decide) rfl rfl (fun h1 hC1 hF1 => ?_)
      refine z_aload_n rfl rfl ?_
      refine z_bipush (v := 48) rfl (by decide) ?_
      refine z_iload_n rfl rfl ?_
      refine z_iadd rfl ?_
      rw [show (48 : Int32) + nI j = nI (48 + j) from nI_add 48 j]
      refine z_callV (av := [_]) rfl z_w247 hC1.1 rfl rfl rfl rfl rfl (Nat.le_of_ble_eq_true rfl) (Nat.le_of_ble_eq_true rfl) (Nat.le_of_ble_eq_true rfl) (Nat.le_of_ble_eq_true rfl) (cM_writes (n := 48 + j) hC1 (z_Ln.nil m) (by omega) (by decide) (fun h2 m2 hM2 hL2 o2 hF2 => ?_))
      rw [← z_dg1 (by omega)] at hL2
      refine z_aload_n rfl rfl ?_
      refine z_bipush (v := 64) rfl (by decide) ?_
      refine z_aload_n rfl rfl ?_
      refine z_get rfl hM2.1 rfl ?_
      refine z_bipush (v := 55) rfl (by decide) ?_
      refine z_iload_n rfl rfl ?_
      refine z_iadd rfl ?_
      refine z_ildE rfl (hM2.2 1 (by decide)) (nI_add 55 (j)) (show _ < 105 by omega) ?_
      rw [show m2.2 1 (55 + j) = nI s by rw [o2.2 1 (by decide)]; exact gs]
      refine z_callV (av := [_, _]) rfl z_w248 hM2.1 rfl rfl rfl rfl rfl (Nat.le_of_ble_eq_true rfl) (Nat.le_of_ble_eq_true rfl) (Nat.le_of_ble_eq_true rfl) (Nat.le_of_ble_eq_true rfl) (cM_writesBehind (s := 64) (k := s) hM2 hL2 (by decide) (by omega) (by omega) (fun h3 m3 hM3 hL3 o3 hF3 => ?_))
      refine z_aload_n rfl rfl ?_
      refine z_bipush (v := 43) rfl (by decide) ?_
      refine z_aload_n rfl rfl ?_
      refine z_get rfl hM3.1 rfl ?_
      refine z_bipush (v := 65) rfl (by decide) ?_
      refine z_iload_n rfl rfl ?_
      refine z_iadd rfl ?_
      refine z_ildE rfl (hM3.2 1 (by decide)) (nI_add 65 (j)) (show _ < 105 by omega) ?_
      rw [show m3.2 1 (65 + j) = nI p by rw [(o2.trans o3).2 1 (by decide)]; exact gp]
      refine z_callV (av := [_, _]) rfl z_w248 hM3.1 rfl rfl rfl rfl rfl (Nat.le_of_ble_eq_true rfl) (Nat.le_of_ble_eq_true rfl) (Nat.le_of_ble_eq_true rfl) (Nat.le_of_ble_eq_true rfl) (cM_writesBehind (s := 43) (k := p) hM3 hL3 (by decide) (by omega) (by omega) (fun h4 m4 hM4 hL4 o4 hF4 => ?_))
      refine z_aload_n rfl rfl ?_
      refine z_get rfl hM4.1 rfl ?_
      refine z_bipush (v := 75) rfl (by decide) ?_
      refine z_iload_n rfl rfl ?_
      refine z_iadd rfl ?_
      refine z_ildE rfl (hM4.2 1 (by decide)) (nI_add 75 (j)) (show _ < 105 by omega) ?_
      rw [show m4.2 1 (75 + j) = nI d by rw [(o2.trans (o3.trans o4)).2 1 (by decide)]; exact gd]
      refine z_if_le rfl (fun c66 => absurd c66 (Int32.not_le.mpr dp)) (fun c66 => ?_)
      refine z_aload_n rfl rfl ?_
      refine z_bipush (v := 104) rfl (by decide) ?_
      refine z_aload_n rfl rfl ?_
      refine z_get rfl hM4.1 rfl ?_
      refine z_bipush (v := 75) rfl (by decide) ?_
      refine z_iload_n rfl rfl ?_
      refine z_iadd rfl ?_
      refine z_ildE rfl (hM4.2 1 (by decide)) (nI_add 75 (j)) (show _ < 105 by omega) ?_
      rw [show m4.2 1 (75 + j) = nI d by rw [(o2.trans (o3.trans o4)).2 1 (by decide)]; exact gd]
      refine z_callV (av := [_, _]) rfl z_w248 hM4.1 rfl rfl rfl rfl rfl (Nat.le_of_ble_eq_true rfl) (Nat.le_of_ble_eq_true rfl) (Nat.le_of_ble_eq_true rfl) (Nat.le_of_ble_eq_true rfl) (cM_writesBehind (s := 104) (k := d) hM4 hL4 (by decide) (by omega) (by omega) (fun h5 m5 hM5 hL5 o5 hF5 => ?_))
      refine z_aload_n rfl rfl ?_
      refine z_aload_n rfl rfl ?_
      refine z_get rfl hM5.1 rfl ?_
      rw [hL5.2.1]
      refine z_callV (av := [_]) rfl z_w163 hM5.1 rfl rfl rfl rfl rfl (Nat.le_of_ble_eq_true rfl) (Nat.le_of_ble_eq_true rfl) (Nat.le_of_ble_eq_true rfl) (Nat.le_of_ble_eq_true rfl) (cM_done hM5 (fun h9 hM9 hF9 => ?_))
      refine z_iret rfl rfl ?_
      exact q.ln hR hM9 hL5 (o2.trans (o3.trans (o4.trans o5))) (hF1.trans (hF2.trans (hF3.trans (hF4.trans (hF5.trans hF9))))) rfl
def z_tr (v : z_HV) : Nat → List Nat
  | 0 => []
  | n + 1 => z_fold (fun l i => l ++ [32] ++ z_dgs (z_ix (v.2.1.2 5 (i + 1)))) (z_dgs (z_ix (v.2.1.2 5 0))) n
theorem z_trE (v : z_HV) : z_trL v = z_tr v (v.2.1.1 5) := by
  unfold z_trL
  generalize v.2.1.1 5 = n
  cases n with
  | zero => rfl
  | succ n => rw [if_neg (by omega)]; rfl
theorem z_trS (v : z_HV) (n : Nat) : z_tr v (n + 2) = z_tr v (n + 1) ++ [32] ++ z_dgs (z_ix (v.2.1.2 5 (n + 1))) := rfl
theorem cM_tellRow (hM : z_Mo h a m) (hR : z_Rel x m) (q : z_mQ (0, nI (z_trL x.1).length, z_setL x (z_trL x.1)) h a Q) : z_W G 2 0 0 251 0 (z_L0 251 [.ref a]) [] h Q := by
  have hw := hR.1.1
  have hg := hR.1.2
  have h10 := hw.nb
  have hnr := hw.nr
  rw [z_trE] at q
  have lt : ∀ i, i < x.1.2.1.1 5 → z_ix (x.1.2.1.2 5 i) < 10 ∧ x.1.2.1.2 5 i = nI (z_ix (x.1.2.1.2 5 i)) := fun i hi => by
    obtain ⟨b, hb, e1, _⟩ := hw.row hi
    rw [e1, z_ix_nI (by omega)]
    exact ⟨by omega, rfl⟩
  have ll : ∀ n, n ≤ x.1.2.1.1 5 → (z_tr x.1 n).length ≤ 2 * n := by
    intro n
    induction n with
    | zero => exact fun _ => Nat.le_refl _
    | succ n ih =>
      intro hn
      cases n with
      | zero => exact z_dgs_len _
      | succ n =>
        have := ih (by omega)
        rw [z_trS, z_dg1 (lt (n + 1) (by omega)).1, List.length_append, List.length_append]
        show (z_tr x.1 (n + 1)).length + 1 + 1 ≤ _
        omega
  have loop : ∀ (k i : Nat) (hh : z_H) (m1 : z_MV), i + k = x.1.2.1.1 5 → z_Mo hh a m1 → z_Ln m1 (z_tr x.1 i) → z_onL (z_mS m 15 0) m1 → z_Fr a 9 h hh → z_W G 2 0 0 251 7 [.ref a, .int (nI i)] [] hh Q := by
    intro k
    induction k with
    | zero =>
      intro i hh m1 hi hD hL o hF
      obtain rfl : i = x.1.2.1.1 5 := hi
      have e1 : m1.2 1 = m.2 1 := o.2 1 (by decide)
      refine z_iload_n rfl rfl ?_
      refine z_aload_n rfl rfl ?_
      refine z_get rfl hD.1 rfl ?_
      refine z_bipush (v := 9) rfl (by decide) ?_
      refine z_ildE rfl (hD.2 1 (by decide)) (k := 9) rfl (show _ < 105 by omega) ?_
      rw [e1, hg.r0]
      refine z_icmp_ge rfl (fun c15 => ?_) (fun c15 => absurd (Int32.le_refl _) c15)
      refine z_aload_n rfl rfl ?_
      refine z_aload_n rfl rfl ?_
      refine z_get rfl hD.1 rfl ?_
      rw [hL.2.1]
      refine z_callV (av := [_]) rfl z_w163 hD.1 rfl rfl rfl rfl rfl (Nat.le_of_ble_eq_true rfl) (Nat.le_of_ble_eq_true rfl) (Nat.le_of_ble_eq_true rfl) (Nat.le_of_ble_eq_true rfl) (cM_done hD (fun h9 hM9 hF9 => ?_))
      refine z_iret rfl rfl ?_
      exact q.ln hR hM9 hL o (hF.trans hF9) rfl
    | succ k ih =>
      intro i hh m1 hi hD hL o hF
      have e1 : m1.2 1 = m.2 1 := o.2 1 (by decide)
      obtain ⟨l1, l2⟩ := lt i (by omega)
      have er : m.2 1 (95 + i) = nI (z_ix (x.1.2.1.2 5 i)) := (hg.2.2.2.2.2.2 i (by omega)).trans l2
      have hll := ll i (by omega)
      cases i with
      | zero =>
        refine z_iload_n rfl rfl ?_
        refine z_aload_n rfl rfl ?_
        refine z_get rfl hD.1 rfl ?_
        refine z_bipush (v := 9) rfl (by decide) ?_
        refine z_ildE rfl (hD.2 1 (by decide)) (k := 9) rfl (show _ < 105 by omega) ?_
        rw [e1, hg.r0]
        refine z_icmp_ge rfl (fun c15 => absurd c15 (fun q9 => absurd ((nI_leI (by omega) (by omega)).mp q9) (by omega))) (fun c15 => ?_)
        refine z_iload_n rfl rfl ?_
        refine z_if_le rfl (fun c19 => ?_) (fun c19 => absurd (by decide) c19)
        refine z_aload_n rfl rfl ?_
        refine z_bipush (v := 48) rfl (by decide) ?_
        refine z_aload_n rfl rfl ?_
        refine z_get rfl hD.1 rfl ?_
        refine z_bipush (v := 95) rfl (by decide) ?_
        refine z_iload_n rfl rfl ?_
        refine z_iadd rfl ?_
        refine z_ildE rfl (hD.2 1 (by decide)) (nI_add 95 (0)) (show _ < 105 by omega) ?_
        rw [e1, er]
        refine z_iadd rfl ?_
        rw [show (48 : Int32) + nI (z_ix (x.1.2.1.2 5 0)) = nI (48 + z_ix (x.1.2.1.2 5 0)) from nI_add 48 _]
        refine z_callV (av := [_]) rfl z_w247 hD.1 rfl rfl rfl rfl rfl (Nat.le_of_ble_eq_true rfl) (Nat.le_of_ble_eq_true rfl) (Nat.le_of_ble_eq_true rfl) (Nat.le_of_ble_eq_true rfl) (cM_writes (n := 48 + z_ix (x.1.2.1.2 5 0)) hD hL (by omega) (by omega) (fun h2 m2 hM2 hL2 o2 hF2 => ?_))
        refine z_iinc1 rfl rfl (by decide +kernel) rfl ?_
        exact z_goto rfl (ih 1 _ _ (by omega) hM2 (by rw [show z_tr x.1 1 = z_dgs (z_ix (x.1.2.1.2 5 0)) from rfl, z_dg1 l1]; exact hL2) (o.trans o2) (hF.trans hF2))
      | succ i =>
        refine z_iload_n rfl rfl ?_
        refine z_aload_n rfl rfl ?_
        refine z_get rfl hD.1 rfl ?_
        refine z_bipush (v := 9) rfl (by decide) ?_
        refine z_ildE rfl (hD.2 1 (by decide)) (k := 9) rfl (show _ < 105 by omega) ?_
        rw [e1, hg.r0]
        refine z_icmp_ge rfl (fun c15 => absurd c15 (fun q9 => absurd ((nI_leI (by omega) (by omega)).mp q9) (by omega))) (fun c15 => ?_)
        refine z_iload_n rfl rfl ?_
        refine z_if_le rfl (fun c19 => absurd c19 (Int32.not_le.mpr (z_pos0 (by omega) (by omega)))) (fun c19 => ?_)
        refine z_aload_n rfl rfl ?_
        refine z_bipush (v := 32) rfl (by decide) ?_
        refine z_callV (av := [_]) rfl z_w247 hD.1 rfl rfl rfl rfl rfl (Nat.le_of_ble_eq_true rfl) (Nat.le_of_ble_eq_true rfl) (Nat.le_of_ble_eq_true rfl) (Nat.le_of_ble_eq_true rfl) (cM_writes (n := 32) hD hL (by decide) (by omega) (fun h2 m2 hM2 hL2 o2 hF2 => ?_))
        refine z_aload_n rfl rfl ?_
        refine z_bipush (v := 48) rfl (by decide) ?_
        refine z_aload_n rfl rfl ?_
        refine z_get rfl hM2.1 rfl ?_
        refine z_bipush (v := 95) rfl (by decide) ?_
        refine z_iload_n rfl rfl ?_
        refine z_iadd rfl ?_
        refine z_ildE rfl (hM2.2 1 (by decide)) (nI_add 95 ((i + 1))) (show _ < 105 by omega) ?_
        rw [show m2.2 1 = m.2 1 from (o.trans o2).2 1 (by decide), er]
        refine z_iadd rfl ?_
        rw [show (48 : Int32) + nI (z_ix (x.1.2.1.2 5 (i + 1))) = nI (48 + z_ix (x.1.2.1.2 5 (i + 1))) from nI_add 48 _]
        refine z_callV (av := [_]) rfl z_w247 hM2.1 rfl rfl rfl rfl rfl (Nat.le_of_ble_eq_true rfl) (Nat.le_of_ble_eq_true rfl) (Nat.le_of_ble_eq_true rfl) (Nat.le_of_ble_eq_true rfl) (cM_writes (n := 48 + z_ix (x.1.2.1.2 5 (i + 1))) hM2 hL2 (by omega) (by rw [List.length_append]; show (z_tr x.1 (i + 1)).length + 1 < 40; omega) (fun h3 m3 hM3 hL3 o3 hF3 => ?_))
        refine z_iinc1 rfl rfl (by decide +kernel) rfl ?_
        exact z_goto rfl (ih (i + 1 + 1) _ _ (by omega) hM3 (by rw [z_trS, z_dg1 l1]; exact hL3) (o.trans (o2.trans o3)) (hF.trans (hF2.trans hF3)))
  refine z_aload_n rfl rfl ?_
  refine z_iconst (v := 0) rfl (by decide) ?_
  refine z_putM rfl hM (by decide) rfl rfl (fun h1 hC1 hF1 => ?_)
  refine z_iconst (v := nI 0) rfl (by decide) ?_
  refine z_istore_n rfl (by decide +kernel) rfl ?_
  exact loop (x.1.2.1.1 5) 0 _ _ (by omega) hC1 (z_Ln.nil m) ⟨fun _ _ => rfl, fun _ _ => rfl⟩ hF1
end ZLm
