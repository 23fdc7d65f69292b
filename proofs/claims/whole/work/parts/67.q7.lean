/-! The model's rankings, undoing, saving, small answers. -/
theorem z_gtI {p q : Int32} : (0 : Int32) < p - q ↔ ¬ (p - q ≤ 0) := Int32.not_le.symm
section ZQg
variable {G : z_G} {h : z_H} {Q : z_O → z_H → Prop} {a : Nat} {m : z_MV} {x : z_PV} {v : z_HV}
theorem cM_ranked {kd pl : Int32} (hM : z_Mo h a m) (hR : z_Rel x m) (q : z_mQ (z_fRanked x kd pl) h a Q) : z_W G 1 0 0 232 0 (z_L0 232 [.ref a, .int kd, .int pl]) [] h Q := by
  have hw := hR.1.1
  have hg := hR.1.2
  have h8 := hw.nc
  unfold z_fRanked at q
  cases e1 : z_inR kd 0 3 with
  | false =>
    refine z_iload_n rfl rfl ?_
    refine z_iconst (v := 0) rfl (by decide) ?_
    refine z_iconst (v := 3) rfl (by decide) ?_
    refine z_callS (av := [_, _, _]) rfl z_w162 rfl rfl rfl rfl (Nat.le_of_ble_eq_true rfl) (Nat.le_of_ble_eq_true rfl) (Nat.le_of_ble_eq_true rfl) (Nat.le_of_ble_eq_true rfl) (cM_in ?_)
    rw [e1]
    refine z_if_ne rfl (fun c6 => absurd (by decide) c6) (fun c6 => ?_)
    refine z_aload_n rfl rfl ?_
    refine z_iconst (v := 1) rfl (by decide) ?_
    refine z_callV (av := [_]) rfl z_w164 hM.1 rfl rfl rfl rfl rfl (Nat.le_of_ble_eq_true rfl) (Nat.le_of_ble_eq_true rfl) (Nat.le_of_ble_eq_true rfl) (Nat.le_of_ble_eq_true rfl) (cM_fails (v := nI 1) hM (fun h9 hM9 hF9 => ?_))
    refine z_iret rfl rfl ?_
    exact q.fl hR hM9 hF9 (if_pos (z_inN e1)) (by decide)
  | true =>
    obtain ⟨k, _, hk, rfl⟩ := z_inE (lo := 0) (hi := 3) (by decide) (by decide) e1
    rw [if_neg (z_inY e1), z_ix_nI (by omega)] at q
    have rest : ∀ (j : Nat) (hj : j < 4) (y5 y6 y7 y8 : Value) (q : z_mQ (if z_oN1 (z_first (fun i => decide (nI (z_rnk (x.1.1.1 0) (x.1.1.1 j) (x.1.1.2 j) (nI i)) = pl)) (x.1.1.1 0) 0) = -1 then (2, 0, x) else (0, z_oN1 (z_first (fun i => decide (nI (z_rnk (x.1.1.1 0) (x.1.1.1 j) (x.1.1.2 j) (nI i)) = pl)) (x.1.1.1 0) 0), x) : z_An) h a Q) (kk i : Nat), i + kk = x.1.1.1 0 → (z_oN1 (z_first (fun i => decide (nI (z_rnk (x.1.1.1 0) (x.1.1.1 j) (x.1.1.2 j) (nI i)) = pl)) kk i) = z_oN1 (z_first (fun i => decide (nI (z_rnk (x.1.1.1 0) (x.1.1.1 j) (x.1.1.2 j) (nI i)) = pl)) (x.1.1.1 0) 0)) → z_W G 1 0 0 232 50 [.ref a, .int (nI k), .int pl, .int (nI (10 + 8 * j)), .int (nI i), y5, y6, y7] [] h Q := by
      intro j hj y5 y6 y7 y8 q kk
      induction kk generalizing y5 y6 y7 with
      | zero =>
        intro i hi hs
        obtain rfl : i = x.1.1.1 0 := hi
        refine z_iload rfl rfl ?_
        refine z_aload_n rfl rfl ?_
        refine z_get rfl hM.1 rfl ?_
        refine z_iconst (v := 0) rfl (by decide) ?_
        refine z_ildE rfl (hM.2 1 (by decide)) (k := 0) rfl (show _ < 105 by omega) ?_
        rw [hg.c0]
        refine z_icmp_ge rfl (fun c58 => ?_) (fun c58 => absurd (Int32.le_refl _) c58)
        refine z_aload_n rfl rfl ?_
        refine z_iconst (v := 2) rfl (by decide) ?_
        refine z_callV (av := [_]) rfl z_w164 hM.1 rfl rfl rfl rfl rfl (Nat.le_of_ble_eq_true rfl) (Nat.le_of_ble_eq_true rfl) (Nat.le_of_ble_eq_true rfl) (Nat.le_of_ble_eq_true rfl) (cM_fails (v := nI 2) hM (fun h9 hM9 hF9 => ?_))
        refine z_iret rfl rfl ?_
        exact q.fl hR hM9 hF9 (if_pos hs.symm) (by decide)
      | succ kk ih =>
        intro i hi hs
        have ec : m.2 1 (10 + 8 * j + i) = z_atV (x.1.1.2 j) (x.1.1.1 j) (nI i) := hg.cl hw.wz hj (by omega)
        have inner : ∀ (r o : Nat) (t : Int32) (z7 : Value), o + r = x.1.1.1 0 → t = nI (z_cnt (fun o => decide (0 < z_atV (x.1.1.2 j) (x.1.1.1 j) (nI o) - z_atV (x.1.1.2 j) (x.1.1.1 j) (nI i)) || (decide (z_atV (x.1.1.2 j) (x.1.1.1 j) (nI o) - z_atV (x.1.1.2 j) (x.1.1.1 j) (nI i) = 0) && decide (nI o < nI i))) o) → z_W G 1 0 0 232 67 [.ref a, .int (nI k), .int pl, .int (nI (10 + 8 * j)), .int (nI i), .int t, .int (nI o), z7] [] h Q := by
          intro r
          induction r with
          | zero =>
            intro o t z7 ho ht
            obtain rfl : o = x.1.1.1 0 := ho
            by_cases c : t = pl
            · have e9 : z_oN1 (z_first (fun i => decide (nI (z_rnk (x.1.1.1 0) (x.1.1.1 j) (x.1.1.2 j) (nI i)) = pl)) (x.1.1.1 0) 0) = nI i := by
                rw [← hs, z_first_hit (decide_eq_true (ht.symm.trans c))]; rfl
              rw [e9] at q
              refine z_iload rfl rfl ?_
              refine z_aload_n rfl rfl ?_
              refine z_get rfl hM.1 rfl ?_
              refine z_iconst (v := 0) rfl (by decide) ?_
              refine z_ildE rfl (hM.2 1 (by decide)) (k := 0) rfl (show _ < 105 by omega) ?_
              rw [hg.c0]
              refine z_icmp_ge rfl (fun c75 => ?_) (fun c75 => absurd (Int32.le_refl _) c75)
              refine z_iload rfl rfl ?_
              refine z_iload_n rfl rfl ?_
              refine z_icmp_ne rfl (fun c135 => absurd c c135) (fun c135 => ?_)
              refine z_aload_n rfl rfl ?_
              refine z_iload rfl rfl ?_
              refine z_callV (av := [_]) rfl z_w163 hM.1 rfl rfl rfl rfl rfl (Nat.le_of_ble_eq_true rfl) (Nat.le_of_ble_eq_true rfl) (Nat.le_of_ble_eq_true rfl) (Nat.le_of_ble_eq_true rfl) (cM_done hM (fun h9 hM9 hF9 => ?_))
              refine z_iret rfl rfl ?_
              exact q.dn hR hM9 hF9 (if_neg (z_nm1 (by omega)))
            · skip
              refine z_iload rfl rfl ?_
              refine z_aload_n rfl rfl ?_
              refine z_get rfl hM.1 rfl ?_
              refine z_iconst (v := 0) rfl (by decide) ?_
              refine z_ildE rfl (hM.2 1 (by decide)) (k := 0) rfl (show _ < 105 by omega) ?_
              rw [hg.c0]
              refine z_icmp_ge rfl (fun c75 => ?_) (fun c75 => absurd (Int32.le_refl _) c75)
              refine z_iload rfl rfl ?_
              refine z_iload_n rfl rfl ?_
              refine z_icmp_ne rfl (fun c135 => ?_) (fun c135 => absurd c135 c)
              refine z_iinc1 rfl rfl (by decide +kernel) rfl ?_
              refine z_goto rfl (ih _ _ _ (i + 1) (by omega) (hs.symm.trans ?_).symm)
              exact congrArg z_oN1 (if_neg (fun e9 => c (ht.trans (of_decide_eq_true e9))))
          | succ r ihr =>
            intro o t z7 ho ht
            have eo : m.2 1 (10 + 8 * j + o) = z_atV (x.1.1.2 j) (x.1.1.1 j) (nI o) := hg.cl hw.wz hj (by omega)
            have st : nI (z_cnt (fun o => decide (0 < z_atV (x.1.1.2 j) (x.1.1.1 j) (nI o) - z_atV (x.1.1.2 j) (x.1.1.1 j) (nI i)) || (decide (z_atV (x.1.1.2 j) (x.1.1.1 j) (nI o) - z_atV (x.1.1.2 j) (x.1.1.1 j) (nI i) = 0) && decide (nI o < nI i))) (o + 1)) = t + (if 0 < z_atV (x.1.1.2 j) (x.1.1.1 j) (nI o) - z_atV (x.1.1.2 j) (x.1.1.1 j) (nI i) ∨ (z_atV (x.1.1.2 j) (x.1.1.1 j) (nI o) - z_atV (x.1.1.2 j) (x.1.1.1 j) (nI i) = 0 ∧ nI o < nI i) then 1 else 0) := by
              rw [z_cnt_s, ht]
              by_cases e : 0 < z_atV (x.1.1.2 j) (x.1.1.1 j) (nI o) - z_atV (x.1.1.2 j) (x.1.1.1 j) (nI i) ∨ (z_atV (x.1.1.2 j) (x.1.1.1 j) (nI o) - z_atV (x.1.1.2 j) (x.1.1.1 j) (nI i) = 0 ∧ nI o < nI i)
              · rw [if_pos e, if_pos (by rw [Bool.or_eq_true, Bool.and_eq_true]; exact e.elim (fun q => Or.inl (decide_eq_true q)) (fun q => Or.inr ⟨decide_eq_true q.1, decide_eq_true q.2⟩)), nI_1]
              · rw [if_neg e, if_neg (by rw [Bool.or_eq_true, Bool.and_eq_true]; exact fun c => e (c.elim (fun q => Or.inl (of_decide_eq_true q)) (fun q => Or.inr ⟨of_decide_eq_true q.1, of_decide_eq_true q.2⟩))), Int32.add_zero]; rfl
            generalize hd : z_atV (x.1.1.2 j) (x.1.1.1 j) (nI o) - z_atV (x.1.1.2 j) (x.1.1.1 j) (nI i) = df at st
            have nx : ∀ (u : Int32) (z : Value), u = (if 0 < df ∨ (df = 0 ∧ nI o < nI i) then 1 else 0) → z_W G 1 0 0 232 67 [.ref a, .int (nI k), .int pl, .int (nI (10 + 8 * j)), .int (nI i), .int (t + u), .int (nI (o + 1)), z] [] h Q := fun u z hu => ihr (o + 1) (t + u) z (by omega) (by rw [hu]; exact st.symm)
            refine z_iload rfl rfl ?_
            refine z_aload_n rfl rfl ?_
            refine z_get rfl hM.1 rfl ?_
            refine z_iconst (v := 0) rfl (by decide) ?_
            refine z_ildE rfl (hM.2 1 (by decide)) (k := 0) rfl (show _ < 105 by omega) ?_
            rw [hg.c0]
            refine z_icmp_ge rfl (fun c75 => absurd c75 (fun q9 => absurd ((nI_leI (by omega) (by omega)).mp q9) (by omega))) (fun c75 => ?_)
            refine z_aload_n rfl rfl ?_
            refine z_get rfl hM.1 rfl ?_
            refine z_iload_n rfl rfl ?_
            refine z_iload rfl rfl ?_
            refine z_iadd rfl ?_
            refine z_ildE rfl (hM.2 1 (by decide)) (k := 10 + 8 * j + o) (nI_add _ _) (show 10 + 8 * j + o < 105 by omega) ?_
            refine z_aload_n rfl rfl ?_
            refine z_get rfl hM.1 rfl ?_
            refine z_iload_n rfl rfl ?_
            refine z_iload rfl rfl ?_
            refine z_iadd rfl ?_
            refine z_ildE rfl (hM.2 1 (by decide)) (k := 10 + 8 * j + i) (nI_add _ _) (show 10 + 8 * j + i < 105 by omega) ?_
            rw [eo, ec]
            refine z_isub rfl ?_
            rw [hd]
            refine z_istore rfl (by decide +kernel) rfl ?_
            refine z_iload rfl rfl ?_
            refine z_iload rfl rfl ?_
            refine z_if_gt rfl (fun c103 => ?_) (fun c103 => ?_)
            · refine z_iconst (v := 1) rfl (by decide) ?_
              refine z_goto rfl ?_
              refine z_iadd rfl ?_
              refine z_istore rfl (by decide +kernel) rfl ?_
              refine z_iinc1 rfl rfl (by decide +kernel) rfl ?_
              exact z_goto rfl (nx 1 _ (by rw [if_pos (Or.inl c103)]))
            · refine z_iload rfl rfl ?_
              refine z_if_ne rfl (fun c108 => ?_) (fun c108 => ?_)
              · refine z_iconst (v := 0) rfl (by decide) ?_
                refine z_iadd rfl ?_
                refine z_istore rfl (by decide +kernel) rfl ?_
                refine z_iinc1 rfl rfl (by decide +kernel) rfl ?_
                exact z_goto rfl (nx 0 _ (by rw [if_neg (fun q9 => q9.elim c103 (fun q8 => c108 q8.1))]))
              · refine z_iload rfl rfl ?_
                refine z_iload rfl rfl ?_
                refine z_icmp_ge rfl (fun c115 => ?_) (fun c115 => ?_)
                · refine z_iconst (v := 0) rfl (by decide) ?_
                  refine z_iadd rfl ?_
                  refine z_istore rfl (by decide +kernel) rfl ?_
                  refine z_iinc1 rfl rfl (by decide +kernel) rfl ?_
                  exact z_goto rfl (nx 0 _ (by rw [if_neg (fun q9 => q9.elim c103 (fun q8 => absurd q8.2 (Int32.not_lt.mpr c115)))]))
                · refine z_iconst (v := 1) rfl (by decide) ?_
                  refine z_goto rfl ?_
                  refine z_iadd rfl ?_
                  refine z_istore rfl (by decide +kernel) rfl ?_
                  refine z_iinc1 rfl rfl (by decide +kernel) rfl ?_
                  exact z_goto rfl (nx 1 _ (by rw [if_pos (Or.inr ⟨c108, Int32.not_le.mp c115⟩)]))
        refine z_iload rfl rfl ?_
        refine z_aload_n rfl rfl ?_
        refine z_get rfl hM.1 rfl ?_
        refine z_iconst (v := 0) rfl (by decide) ?_
        refine z_ildE rfl (hM.2 1 (by decide)) (k := 0) rfl (show _ < 105 by omega) ?_
        rw [hg.c0]
        refine z_icmp_ge rfl (fun c58 => absurd c58 (fun q9 => absurd ((nI_leI (by omega) (by omega)).mp q9) (by omega))) (fun c58 => ?_)
        refine z_iconst (v := nI 0) rfl (by decide) ?_
        refine z_istore rfl (by decide +kernel) rfl ?_
        refine z_iconst (v := nI 0) rfl (by decide) ?_
        refine z_istore rfl (by decide +kernel) rfl ?_
        exact inner (x.1.1.1 0) 0 _ _ (by omega) rfl
    have start : ∀ (j : Nat) (hj : j < 4) (he : z_kj k = j) (y4 y5 y6 y7 : Value), z_W G 1 0 0 232 46 [.ref a, .int (nI k), .int pl, y4, y5, y6, y7, y7] [.int (nI (10 + 8 * j))] h Q := by
      intro j hj he y4 y5 y6 y7
      unfold z_rkd at q
      rw [he] at q
      refine z_istore_n rfl (by decide +kernel) rfl ?_
      refine z_iconst (v := nI 0) rfl (by decide) ?_
      refine z_istore rfl (by decide +kernel) rfl ?_
      exact rest j hj _ _ _ .null q (x.1.1.1 0) 0 (by omega) rfl
    have c4 : k = 0 ∨ k = 1 ∨ k = 2 ∨ k = 3 := by omega
    rcases c4 with rfl | rfl | rfl | rfl
    · skip
      refine z_iload_n rfl rfl ?_
      refine z_iconst (v := 0) rfl (by decide) ?_
      refine z_iconst (v := 3) rfl (by decide) ?_
      refine z_callS (av := [_, _, _]) rfl z_w162 rfl rfl rfl rfl (Nat.le_of_ble_eq_true rfl) (Nat.le_of_ble_eq_true rfl) (Nat.le_of_ble_eq_true rfl) (Nat.le_of_ble_eq_true rfl) (cM_in ?_)
      rw [e1]
      refine z_if_ne rfl (fun c6 => ?_) (fun c6 => absurd c6 (by decide))
      refine z_iload_n rfl rfl ?_
      refine z_if_ne rfl (fun c16 => absurd rfl c16) (fun c16 => ?_)
      refine z_bipush (v := 18) rfl (by decide) ?_
      refine z_goto rfl ?_
      exact start 1 (by decide) rfl _ _ _ _
    · skip
      refine z_iload_n rfl rfl ?_
      refine z_iconst (v := 0) rfl (by decide) ?_
      refine z_iconst (v := 3) rfl (by decide) ?_
      refine z_callS (av := [_, _, _]) rfl z_w162 rfl rfl rfl rfl (Nat.le_of_ble_eq_true rfl) (Nat.le_of_ble_eq_true rfl) (Nat.le_of_ble_eq_true rfl) (Nat.le_of_ble_eq_true rfl) (cM_in ?_)
      rw [e1]
      refine z_if_ne rfl (fun c6 => ?_) (fun c6 => absurd c6 (by decide))
      refine z_iload_n rfl rfl ?_
      refine z_if_ne rfl (fun c16 => ?_) (fun c16 => absurd c16 (by decide))
      refine z_iload_n rfl rfl ?_
      refine z_iconst (v := 1) rfl (by decide) ?_
      refine z_icmp_ne rfl (fun c26 => absurd rfl c26) (fun c26 => ?_)
      refine z_bipush (v := 10) rfl (by decide) ?_
      refine z_goto rfl ?_
      exact start 0 (by decide) rfl _ _ _ _
    · skip
      refine z_iload_n rfl rfl ?_
      refine z_iconst (v := 0) rfl (by decide) ?_
      refine z_iconst (v := 3) rfl (by decide) ?_
      refine z_callS (av := [_, _, _]) rfl z_w162 rfl rfl rfl rfl (Nat.le_of_ble_eq_true rfl) (Nat.le_of_ble_eq_true rfl) (Nat.le_of_ble_eq_true rfl) (Nat.le_of_ble_eq_true rfl) (cM_in ?_)
      rw [e1]
      refine z_if_ne rfl (fun c6 => ?_) (fun c6 => absurd c6 (by decide))
      refine z_iload_n rfl rfl ?_
      refine z_if_ne rfl (fun c16 => ?_) (fun c16 => absurd c16 (by decide))
      refine z_iload_n rfl rfl ?_
      refine z_iconst (v := 1) rfl (by decide) ?_
      refine z_icmp_ne rfl (fun c26 => ?_) (fun c26 => absurd c26 (by decide))
      refine z_iload_n rfl rfl ?_
      refine z_iconst (v := 2) rfl (by decide) ?_
      refine z_icmp_ne rfl (fun c36 => absurd rfl c36) (fun c36 => ?_)
      refine z_bipush (v := 26) rfl (by decide) ?_
      refine z_goto rfl ?_
      exact start 2 (by decide) rfl _ _ _ _
    · skip
      refine z_iload_n rfl rfl ?_
      refine z_iconst (v := 0) rfl (by decide) ?_
      refine z_iconst (v := 3) rfl (by decide) ?_
      refine z_callS (av := [_, _, _]) rfl z_w162 rfl rfl rfl rfl (Nat.le_of_ble_eq_true rfl) (Nat.le_of_ble_eq_true rfl) (Nat.le_of_ble_eq_true rfl) (Nat.le_of_ble_eq_true rfl) (cM_in ?_)
      rw [e1]
      refine z_if_ne rfl (fun c6 => ?_) (fun c6 => absurd c6 (by decide))
      refine z_iload_n rfl rfl ?_
      refine z_if_ne rfl (fun c16 => ?_) (fun c16 => absurd c16 (by decide))
      refine z_iload_n rfl rfl ?_
      refine z_iconst (v := 1) rfl (by decide) ?_
      refine z_icmp_ne rfl (fun c26 => ?_) (fun c26 => absurd c26 (by decide))
      refine z_iload_n rfl rfl ?_
      refine z_iconst (v := 2) rfl (by decide) ?_
      refine z_icmp_ne rfl (fun c36 => ?_) (fun c36 => absurd c36 (by decide))
      refine z_bipush (v := 34) rfl (by decide) ?_
      exact start 3 (by decide) rfl _ _ _ _
theorem cM_isTold (hM : z_Mo h a m) (hR : z_Rel x m) (q : z_mQ (0, 1, x) h a Q) : z_W G 0 0 0 233 0 (z_L0 233 [.ref a]) [] h Q := by
  refine z_aload_n rfl rfl ?_
  refine z_iconst (v := 0) rfl (by decide) ?_
  refine z_putM rfl hM (by decide) rfl rfl (fun h1 hC1 hF1 => ?_)
  refine z_iconst (v := 1) rfl (by decide) ?_
  refine z_zret (ty := .boolean) rfl rfl (by first | decide | exact z_nb _) ?_
  exact q.dn hR hC1 hF1 rfl
theorem cM_faultPosition (hM : z_Mo h a m) (hR : z_Rel x m) (q : z_mQ (0, x.2.2.2.2.2.2.2.2.2, x) h a Q) : z_W G 1 0 0 245 0 (z_L0 245 [.ref a]) [] h Q := by
  have e : m.1 9 = x.2.2.2.2.2.2.2.2.2 := hR.2.2.2.2.2.2.2
  refine z_aload_n rfl rfl ?_
  refine z_aload_n rfl rfl ?_
  refine z_get rfl hM.1 rfl ?_
  rw [e]
  refine z_callV (av := [_]) rfl z_w163 hM.1 rfl rfl rfl rfl rfl (Nat.le_of_ble_eq_true rfl) (Nat.le_of_ble_eq_true rfl) (Nat.le_of_ble_eq_true rfl) (Nat.le_of_ble_eq_true rfl) (cM_done hM (fun h9 hM9 hF9 => ?_))
  refine z_iret rfl rfl ?_
  exact q.dn hR hM9 hF9 rfl
theorem cM_reason {d b : Int32} (hM : z_Mo h a m) (hR : z_Rel x m) (q : z_mQ (z_fReason x d b) h a Q) : z_W G 1 0 0 246 0 (z_L0 246 [.ref a, .int d, .int b]) [] h Q := by
  obtain ⟨⟨k1, k2⟩, ⟨c1, c2⟩, _⟩ := hR.2.2.2.2.2
  unfold z_fReason at q
  cases e1 : z_inR d 0 1 with
  | false =>
    have hn : ¬ d = 0 ∧ ¬ d = 1 := ⟨fun e => by rw [e] at e1; exact absurd e1 (by decide), fun e => by rw [e] at e1; exact absurd e1 (by decide)⟩
    refine z_iload_n rfl rfl ?_
    refine z_iconst (v := 0) rfl (by decide) ?_
    refine z_iconst (v := 1) rfl (by decide) ?_
    refine z_callS (av := [_, _, _]) rfl z_w162 rfl rfl rfl rfl (Nat.le_of_ble_eq_true rfl) (Nat.le_of_ble_eq_true rfl) (Nat.le_of_ble_eq_true rfl) (Nat.le_of_ble_eq_true rfl) (cM_in ?_)
    rw [e1]
    refine z_if_ne rfl (fun c6 => absurd (by decide) c6) (fun c6 => ?_)
    refine z_aload_n rfl rfl ?_
    refine z_iconst (v := 1) rfl (by decide) ?_
    refine z_callV (av := [_]) rfl z_w164 hM.1 rfl rfl rfl rfl rfl (Nat.le_of_ble_eq_true rfl) (Nat.le_of_ble_eq_true rfl) (Nat.le_of_ble_eq_true rfl) (Nat.le_of_ble_eq_true rfl) (cM_fails (v := nI 1) hM (fun h9 hM9 hF9 => ?_))
    refine z_iret rfl rfl ?_
    exact q.fl hR hM9 hF9 (if_pos hn) (by decide)
  | true =>
    obtain ⟨k, _, hk, rfl⟩ := z_inE (lo := 0) (hi := 1) (by decide) (by decide) e1
    rcases (show k = 0 ∨ k = 1 by omega) with rfl | rfl
    · rw [if_neg (by decide), if_pos (show nI 0 = 0 from rfl), ← k1, ← k2] at q
      refine z_iload_n rfl rfl ?_
      refine z_iconst (v := 0) rfl (by decide) ?_
      refine z_iconst (v := 1) rfl (by decide) ?_
      refine z_callS (av := [_, _, _]) rfl z_w162 rfl rfl rfl rfl (Nat.le_of_ble_eq_true rfl) (Nat.le_of_ble_eq_true rfl) (Nat.le_of_ble_eq_true rfl) (Nat.le_of_ble_eq_true rfl) (cM_in ?_)
      rw [e1]
      refine z_if_ne rfl (fun c6 => ?_) (fun c6 => absurd c6 (by decide))
      refine z_iload_n rfl rfl ?_
      refine z_if_ne rfl (fun c16 => absurd rfl c16) (fun c16 => ?_)
      refine z_aload_n rfl rfl ?_
      refine z_get rfl hM.1 rfl ?_
      refine z_goto rfl ?_
      refine z_istore_n rfl (by decide +kernel) rfl ?_
      refine z_iload_n rfl rfl ?_
      refine z_if_ne rfl (fun c32 => ?_) (fun c32 => ?_)
      · refine z_aload_n rfl rfl ?_
        refine z_iload_n rfl rfl ?_
        refine z_if_ne rfl (fun c43 => ?_) (fun c43 => ?_)
        · refine z_iload_n rfl rfl ?_
          refine z_if_ne rfl (fun c51 => absurd rfl c51) (fun c51 => ?_)
          refine z_aload_n rfl rfl ?_
          refine z_get rfl hM.1 rfl ?_
          refine z_goto rfl ?_
          refine z_callV (av := [_]) rfl z_w163 hM.1 rfl rfl rfl rfl rfl (Nat.le_of_ble_eq_true rfl) (Nat.le_of_ble_eq_true rfl) (Nat.le_of_ble_eq_true rfl) (Nat.le_of_ble_eq_true rfl) (cM_done hM (fun h9 hM9 hF9 => ?_))
          refine z_iret rfl rfl ?_
          exact q.dn hR hM9 hF9 ((if_neg c32).trans (by rw [if_neg c43]))
        · refine z_iload_n rfl rfl ?_
          refine z_goto rfl ?_
          refine z_callV (av := [_]) rfl z_w163 hM.1 rfl rfl rfl rfl rfl (Nat.le_of_ble_eq_true rfl) (Nat.le_of_ble_eq_true rfl) (Nat.le_of_ble_eq_true rfl) (Nat.le_of_ble_eq_true rfl) (cM_done hM (fun h9 hM9 hF9 => ?_))
          refine z_iret rfl rfl ?_
          exact q.dn hR hM9 hF9 ((if_neg c32).trans (by rw [if_pos c43]))
      · refine z_aload_n rfl rfl ?_
        refine z_iconst (v := 2) rfl (by decide) ?_
        refine z_callV (av := [_]) rfl z_w164 hM.1 rfl rfl rfl rfl rfl (Nat.le_of_ble_eq_true rfl) (Nat.le_of_ble_eq_true rfl) (Nat.le_of_ble_eq_true rfl) (Nat.le_of_ble_eq_true rfl) (cM_fails (v := nI 2) hM (fun h9 hM9 hF9 => ?_))
        refine z_iret rfl rfl ?_
        exact q.fl hR hM9 hF9 (if_pos c32) (by decide)
    · rw [if_neg (by decide), if_neg (show ¬ nI 1 = 0 by decide), ← c1, ← c2] at q
      refine z_iload_n rfl rfl ?_
      refine z_iconst (v := 0) rfl (by decide) ?_
      refine z_iconst (v := 1) rfl (by decide) ?_
      refine z_callS (av := [_, _, _]) rfl z_w162 rfl rfl rfl rfl (Nat.le_of_ble_eq_true rfl) (Nat.le_of_ble_eq_true rfl) (Nat.le_of_ble_eq_true rfl) (Nat.le_of_ble_eq_true rfl) (cM_in ?_)
      rw [e1]
      refine z_if_ne rfl (fun c6 => ?_) (fun c6 => absurd c6 (by decide))
      refine z_iload_n rfl rfl ?_
      refine z_if_ne rfl (fun c16 => ?_) (fun c16 => absurd c16 (by decide))
      refine z_aload_n rfl rfl ?_
      refine z_get rfl hM.1 rfl ?_
      refine z_istore_n rfl (by decide +kernel) rfl ?_
      refine z_iload_n rfl rfl ?_
      refine z_if_ne rfl (fun c32 => ?_) (fun c32 => ?_)
      · refine z_aload_n rfl rfl ?_
        refine z_iload_n rfl rfl ?_
        refine z_if_ne rfl (fun c43 => ?_) (fun c43 => ?_)
        · refine z_iload_n rfl rfl ?_
          refine z_if_ne rfl (fun c51 => ?_) (fun c51 => absurd c51 (by decide))
          refine z_aload_n rfl rfl ?_
          refine z_get rfl hM.1 rfl ?_
          refine z_callV (av := [_]) rfl z_w163 hM.1 rfl rfl rfl rfl rfl (Nat.le_of_ble_eq_true rfl) (Nat.le_of_ble_eq_true rfl) (Nat.le_of_ble_eq_true rfl) (Nat.le_of_ble_eq_true rfl) (cM_done hM (fun h9 hM9 hF9 => ?_))
          refine z_iret rfl rfl ?_
          exact q.dn hR hM9 hF9 ((if_neg c32).trans (by rw [if_neg c43]))
        · refine z_iload_n rfl rfl ?_
          refine z_goto rfl ?_
          refine z_callV (av := [_]) rfl z_w163 hM.1 rfl rfl rfl rfl rfl (Nat.le_of_ble_eq_true rfl) (Nat.le_of_ble_eq_true rfl) (Nat.le_of_ble_eq_true rfl) (Nat.le_of_ble_eq_true rfl) (cM_done hM (fun h9 hM9 hF9 => ?_))
          refine z_iret rfl rfl ?_
          exact q.dn hR hM9 hF9 ((if_neg c32).trans (by rw [if_pos c43]))
      · refine z_aload_n rfl rfl ?_
        refine z_iconst (v := 2) rfl (by decide) ?_
        refine z_callV (av := [_]) rfl z_w164 hM.1 rfl rfl rfl rfl rfl (Nat.le_of_ble_eq_true rfl) (Nat.le_of_ble_eq_true rfl) (Nat.le_of_ble_eq_true rfl) (Nat.le_of_ble_eq_true rfl) (cM_fails (v := nI 2) hM (fun h9 hM9 hF9 => ?_))
        refine z_iret rfl rfl ?_
        exact q.fl hR hM9 hF9 (if_pos c32) (by decide)
theorem cM_undo (hM : z_Mo h a m) (hR : z_Rel x m) (q : z_mQ (z_fUndo x) h a Q) : z_W G 1 0 0 258 0 (z_L0 258 [.ref a]) [] h Q := by
  have hR0 := hR
  obtain ⟨⟨a1, a2⟩, ⟨b1, b2⟩, ⟨c1, c2, c3⟩, d⟩ := hR
  unfold z_fUndo at q
  by_cases e0 : x.2.2.2.1 = 0
  · skip
    refine z_aload_n rfl rfl ?_
    refine z_get rfl hM.1 rfl ?_
    rw [c2, e0]
    refine z_if_ne rfl (fun c4 => absurd rfl c4) (fun c4 => ?_)
    refine z_aload_n rfl rfl ?_
    refine z_iconst (v := 1) rfl (by decide) ?_
    refine z_callV (av := [_]) rfl z_w164 hM.1 rfl rfl rfl rfl rfl (Nat.le_of_ble_eq_true rfl) (Nat.le_of_ble_eq_true rfl) (Nat.le_of_ble_eq_true rfl) (Nat.le_of_ble_eq_true rfl) (cM_fails (v := nI 1) hM (fun h9 hM9 hF9 => ?_))
    refine z_iret rfl rfl ?_
    exact q.fl hR0 hM9 hF9 (if_pos e0) (by decide)
  · rw [if_neg e0] at q
    refine z_aload_n rfl rfl ?_
    refine z_get rfl hM.1 rfl ?_
    rw [c2]
    refine z_if_ne rfl (fun c4 => ?_) (fun c4 => absurd c4 (nI_ne0 (by omega) (by omega)))
    refine z_aload_n rfl rfl ?_
    refine z_dup rfl rfl ?_
    refine z_get rfl hM.1 rfl ?_
    refine z_iconst (v := 1) rfl (by decide) ?_
    refine z_isub rfl ?_
    rw [c2, z_predN (by omega)]
    refine z_putM rfl hM (by decide) rfl rfl (fun h1 hC1 hF1 => ?_)
    refine z_aload_n rfl rfl ?_
    refine z_get rfl hC1.1 rfl ?_
    refine z_aload_n rfl rfl ?_
    refine z_get rfl hC1.1 rfl ?_
    refine z_bipush (v := 105) rfl (by decide) ?_
    refine z_imul rfl ?_
    refine z_aload_n rfl rfl ?_
    refine z_get rfl hC1.1 rfl ?_
    refine z_iconst (v := 0) rfl (by decide) ?_
    rw [show (z_mS m 4 (nI (x.2.2.2.1 - 1))).1 4 * 105 = nI ((x.2.2.2.1 - 1) * 105) from pk_mul (x.2.2.2.1 - 1) 105]
    refine z_callS (av := [_, _, _, _]) rfl z_w166 rfl rfl rfl rfl (Nat.le_of_ble_eq_true rfl) (Nat.le_of_ble_eq_true rfl) (Nat.le_of_ble_eq_true rfl) (Nat.le_of_ble_eq_true rfl) (cM_copy (j1 := 4) (j2 := 1) (A := (x.2.2.2.1 - 1) * 105) (T := 0) (by decide) (by decide) (by decide) (show (x.2.2.2.1 - 1) * 105 + 105 ≤ 840 by omega) (by decide) hC1 (fun h8 hM8 hF8 => ?_))
    refine z_aload_n rfl rfl ?_
    refine z_aload_n rfl rfl ?_
    refine z_get rfl hM8.1 rfl ?_
    refine z_callV (av := [_]) rfl z_w163 hM8.1 rfl rfl rfl rfl rfl (Nat.le_of_ble_eq_true rfl) (Nat.le_of_ble_eq_true rfl) (Nat.le_of_ble_eq_true rfl) (Nat.le_of_ble_eq_true rfl) (cM_done hM8 (fun h9 hM9 hF9 => ?_))
    refine z_iret rfl rfl ?_
    obtain ⟨w1, w2⟩ := c3 (x.2.2.2.1 - 1) (by omega)
    refine q _ _ _ hM9 ⟨⟨w1, w2.cong w1.wz (fun q hq => ?_)⟩, ⟨b1, b2⟩, ⟨?_, rfl, fun t ht => c3 t (by have ht2 : t < x.2.2.2.1 - 1 := ht; omega)⟩, d.same (fun i hi => ?_) (fun j hj => ?_)⟩ rfl (hF1.trans (hF8.trans hF9)) (fun _ => rfl)
    · show z_cpyF (m.2 4) ((x.2.2.2.1 - 1) * 105) (m.2 1) 0 105 q = m.2 4 (105 * (x.2.2.2.1 - 1) + q)
      unfold z_cpyF
      rw [if_pos (by omega), show (x.2.2.2.1 - 1) * 105 + (q - 0) = 105 * (x.2.2.2.1 - 1) + q by omega]
    · show x.2.2.2.1 - 1 ≤ 8; omega
    · show (if i = 16 then (0 : Int32) else if i = 4 then nI (x.2.2.2.1 - 1) else m.1 i) = m.1 i
      rw [if_neg (by omega), if_neg (by omega)]
    · exact if_neg (by omega)
theorem cM_save (hM : z_Mo h a m) (hR : z_Rel x m) (q : z_mQ (z_fSave x) h a Q) : z_W G 1 0 0 259 0 (z_L0 259 [.ref a]) [] h Q := by
  obtain ⟨⟨a1, a2⟩, ⟨b1, b2⟩, ⟨c1, c2, c3⟩, d⟩ := hR
  refine z_aload_n rfl rfl ?_
  refine z_get rfl hM.1 rfl ?_
  refine z_iconst (v := 0) rfl (by decide) ?_
  refine z_aload_n rfl rfl ?_
  refine z_get rfl hM.1 rfl ?_
  refine z_iconst (v := 0) rfl (by decide) ?_
  refine z_callS (av := [_, _, _, _]) rfl z_w166 rfl rfl rfl rfl (Nat.le_of_ble_eq_true rfl) (Nat.le_of_ble_eq_true rfl) (Nat.le_of_ble_eq_true rfl) (Nat.le_of_ble_eq_true rfl) (cM_copy (j1 := 1) (j2 := 5) (A := 0) (T := 0) (by decide) (by decide) (by decide) (by decide) (by decide) hM (fun h8 hM8 hF8 => ?_))
  refine z_aload_n rfl rfl ?_
  refine z_iconst (v := 1) rfl (by decide) ?_
  refine z_putM rfl hM8 (by decide) rfl rfl (fun h1 hC1 hF1 => ?_)
  refine z_aload_n rfl rfl ?_
  refine z_aload_n rfl rfl ?_
  refine z_get rfl hC1.1 rfl ?_
  refine z_iconst (v := 0) rfl (by decide) ?_
  refine z_ildE rfl (hC1.2 1 (by decide)) (k := 0) rfl (show _ < 105 by omega) ?_
  rw [show (z_mS (z_mF m 5 (z_cpyF (m.2 1) 0 (m.2 5) 0 105)) 6 1).2 1 0 = nI (x.1.1.1 0) from a2.c0]
  refine z_callV (av := [_]) rfl z_w163 hC1.1 rfl rfl rfl rfl rfl (Nat.le_of_ble_eq_true rfl) (Nat.le_of_ble_eq_true rfl) (Nat.le_of_ble_eq_true rfl) (Nat.le_of_ble_eq_true rfl) (cM_done hC1 (fun h9 hM9 hF9 => ?_))
  refine z_iret rfl rfl ?_
  refine q _ _ _ hM9 ⟨⟨a1, a2⟩, ⟨rfl, fun _ => ⟨a1, a2.cong a1.wz (fun q hq => ?_)⟩⟩, ⟨c1, c2, c3⟩, d.same (fun i hi => ?_) (fun j hj => ?_)⟩ rfl (hF8.trans (hF1.trans hF9)) (fun _ => rfl)
  · show z_cpyF (m.2 1) 0 (m.2 5) 0 105 q = m.2 1 q
    unfold z_cpyF
    rw [if_pos (by omega), show 0 + (q - 0) = q by omega]
  · show (if i = 16 then (0 : Int32) else if i = 6 then 1 else m.1 i) = m.1 i
    rw [if_neg (by omega), if_neg (by omega)]
  · exact if_neg (by omega)
theorem cM_restore (hM : z_Mo h a m) (hR : z_Rel x m) (q : z_mQ (z_fRestore x) h a Q) : z_W G 1 0 0 260 0 (z_L0 260 [.ref a]) [] h Q := by
  have hR0 := hR
  obtain ⟨⟨a1, a2⟩, ⟨b1, b2⟩, ⟨c1, c2, c3⟩, d⟩ := hR
  unfold z_fRestore at q
  cases e0 : x.2.2.1 with
  | false =>
    rw [e0, if_neg Bool.false_ne_true] at q
    refine z_aload_n rfl rfl ?_
    refine z_get rfl hM.1 rfl ?_
    rw [b1, e0]
    refine z_if_ne rfl (fun c4 => absurd rfl c4) (fun c4 => ?_)
    refine z_aload_n rfl rfl ?_
    refine z_iconst (v := 1) rfl (by decide) ?_
    refine z_callV (av := [_]) rfl z_w164 hM.1 rfl rfl rfl rfl rfl (Nat.le_of_ble_eq_true rfl) (Nat.le_of_ble_eq_true rfl) (Nat.le_of_ble_eq_true rfl) (Nat.le_of_ble_eq_true rfl) (cM_fails (v := nI 1) hM (fun h9 hM9 hF9 => ?_))
    refine z_iret rfl rfl ?_
    exact q.fl hR0 hM9 hF9 rfl (by decide)
  | true =>
    obtain ⟨w1, w2⟩ := b2 e0
    rw [if_pos e0] at q
    refine z_aload_n rfl rfl ?_
    refine z_get rfl hM.1 rfl ?_
    rw [b1, e0]
    refine z_if_ne rfl (fun c4 => ?_) (fun c4 => absurd c4 (by decide))
    refine z_aload_n rfl rfl ?_
    refine z_get rfl hM.1 rfl ?_
    refine z_iconst (v := 0) rfl (by decide) ?_
    refine z_aload_n rfl rfl ?_
    refine z_get rfl hM.1 rfl ?_
    refine z_iconst (v := 0) rfl (by decide) ?_
    refine z_callS (av := [_, _, _, _]) rfl z_w166 rfl rfl rfl rfl (Nat.le_of_ble_eq_true rfl) (Nat.le_of_ble_eq_true rfl) (Nat.le_of_ble_eq_true rfl) (Nat.le_of_ble_eq_true rfl) (cM_copy (j1 := 5) (j2 := 1) (A := 0) (T := 0) (by decide) (by decide) (by decide) (by decide) (by decide) hM (fun h8 hM8 hF8 => ?_))
    refine z_aload_n rfl rfl ?_
    refine z_iconst (v := 0) rfl (by decide) ?_
    refine z_putM rfl hM8 (by decide) rfl rfl (fun h1 hC1 hF1 => ?_)
    refine z_aload_n rfl rfl ?_
    refine z_aload_n rfl rfl ?_
    refine z_get rfl hC1.1 rfl ?_
    refine z_iconst (v := 0) rfl (by decide) ?_
    refine z_ildE rfl (hC1.2 1 (by decide)) (k := 0) rfl (show _ < 105 by omega) ?_
    rw [show (z_mS (z_mF m 1 (z_cpyF (m.2 5) 0 (m.2 1) 0 105)) 4 0).2 1 0 = nI (x.2.1.1.1 0) from w2.c0]
    refine z_callV (av := [_]) rfl z_w163 hC1.1 rfl rfl rfl rfl rfl (Nat.le_of_ble_eq_true rfl) (Nat.le_of_ble_eq_true rfl) (Nat.le_of_ble_eq_true rfl) (Nat.le_of_ble_eq_true rfl) (cM_done hC1 (fun h9 hM9 hF9 => ?_))
    refine z_iret rfl rfl ?_
    refine q _ _ _ hM9 ⟨⟨w1, w2.cong w1.wz (fun q hq => ?_)⟩, ⟨b1, b2⟩, ⟨Nat.zero_le _, rfl, fun t ht => absurd ht (Nat.not_lt_zero _)⟩, d.same (fun i hi => ?_) (fun j hj => ?_)⟩ rfl (hF8.trans (hF1.trans hF9)) (fun _ => rfl)
    · show z_cpyF (m.2 5) 0 (m.2 1) 0 105 q = m.2 5 q
      unfold z_cpyF
      rw [if_pos (by omega), show 0 + (q - 0) = q by omega]
    · show (if i = 16 then (0 : Int32) else if i = 4 then 0 else m.1 i) = m.1 i
      rw [if_neg (by omega), if_neg (by omega)]
    · exact if_neg (by omega)
theorem z_getD_app {l : List Nat} {c i : Nat} : (l ++ [c]).getD i 0 = if i < l.length then l.getD i 0 else if i = l.length then c else 0 := by
  simp only [List.getD_eq_getElem?_getD]
  by_cases h : i < l.length
  · rw [if_pos h, List.getElem?_append_left h]
  · rw [if_neg h]
    by_cases e : i = l.length
    · rw [if_pos e, e, List.getElem?_append_right (Nat.le_refl _), Nat.sub_self]; rfl
    · rw [if_neg e, List.getElem?_eq_none (by simp; omega)]; rfl
theorem cM_append {c : Int32} (hM : z_Mo h a m) (hR : z_Rel x m) (q : z_mQ (z_fAppend x c) h a Q) : z_W G 1 0 0 234 0 (z_L0 234 [.ref a, .int c]) [] h Q := by
  have hR0 := hR
  obtain ⟨⟨a1, a2⟩, ⟨b1, b2⟩, ⟨c1, c2, c3⟩, ⟨t1, t2, t3, t4⟩, u, k, z, w⟩ := hR
  unfold z_fAppend at q
  cases e1 : z_inR c 32 126 with
  | false =>
    refine z_iload_n rfl rfl ?_
    refine z_bipush (v := 32) rfl (by decide) ?_
    refine z_bipush (v := 126) rfl (by decide) ?_
    refine z_callS (av := [_, _, _]) rfl z_w162 rfl rfl rfl rfl (Nat.le_of_ble_eq_true rfl) (Nat.le_of_ble_eq_true rfl) (Nat.le_of_ble_eq_true rfl) (Nat.le_of_ble_eq_true rfl) (cM_in ?_)
    rw [e1]
    refine z_if_ne rfl (fun c8 => absurd (by decide) c8) (fun c8 => ?_)
    refine z_aload_n rfl rfl ?_
    refine z_iconst (v := 1) rfl (by decide) ?_
    refine z_callV (av := [_]) rfl z_w164 hM.1 rfl rfl rfl rfl rfl (Nat.le_of_ble_eq_true rfl) (Nat.le_of_ble_eq_true rfl) (Nat.le_of_ble_eq_true rfl) (Nat.le_of_ble_eq_true rfl) (cM_fails (v := nI 1) hM (fun h9 hM9 hF9 => ?_))
    refine z_iret rfl rfl ?_
    exact q.fl hR0 hM9 hF9 (if_pos (z_inN e1)) (by decide)
  | true =>
    obtain ⟨n, hn1, hn2, rfl⟩ := z_inE (lo := 32) (hi := 126) (by decide) (by decide) e1
    rw [if_neg (z_inY e1), z_ix_nI (by omega)] at q
    by_cases e2 : x.2.2.2.2.2.1.length = 60
    · skip
      refine z_iload_n rfl rfl ?_
      refine z_bipush (v := 32) rfl (by decide) ?_
      refine z_bipush (v := 126) rfl (by decide) ?_
      refine z_callS (av := [_, _, _]) rfl z_w162 rfl rfl rfl rfl (Nat.le_of_ble_eq_true rfl) (Nat.le_of_ble_eq_true rfl) (Nat.le_of_ble_eq_true rfl) (Nat.le_of_ble_eq_true rfl) (cM_in ?_)
      rw [e1]
      refine z_if_ne rfl (fun c8 => ?_) (fun c8 => absurd c8 (by decide))
      refine z_aload_n rfl rfl ?_
      refine z_get rfl hM.1 rfl ?_
      refine z_bipush (v := 60) rfl (by decide) ?_
      rw [t2, e2]
      refine z_icmp_ne rfl (fun c23 => absurd rfl c23) (fun c23 => ?_)
      refine z_aload_n rfl rfl ?_
      refine z_iconst (v := 2) rfl (by decide) ?_
      refine z_callV (av := [_]) rfl z_w164 hM.1 rfl rfl rfl rfl rfl (Nat.le_of_ble_eq_true rfl) (Nat.le_of_ble_eq_true rfl) (Nat.le_of_ble_eq_true rfl) (Nat.le_of_ble_eq_true rfl) (cM_fails (v := nI 2) hM (fun h9 hM9 hF9 => ?_))
      refine z_iret rfl rfl ?_
      exact q.fl hR0 hM9 hF9 (if_pos (by omega)) (by decide)
    · rw [if_neg (by omega)] at q
      have ec : vp_nar .char (nI n) = nI n := Value.int.inj (pk_charN (q := n) (by omega)).1
      refine z_iload_n rfl rfl ?_
      refine z_bipush (v := 32) rfl (by decide) ?_
      refine z_bipush (v := 126) rfl (by decide) ?_
      refine z_callS (av := [_, _, _]) rfl z_w162 rfl rfl rfl rfl (Nat.le_of_ble_eq_true rfl) (Nat.le_of_ble_eq_true rfl) (Nat.le_of_ble_eq_true rfl) (Nat.le_of_ble_eq_true rfl) (cM_in ?_)
      rw [e1]
      refine z_if_ne rfl (fun c8 => ?_) (fun c8 => absurd c8 (by decide))
      refine z_aload_n rfl rfl ?_
      refine z_get rfl hM.1 rfl ?_
      refine z_bipush (v := 60) rfl (by decide) ?_
      rw [t2]
      refine z_icmp_ne rfl (fun c23 => ?_) (fun c23 => absurd c23 (fun q9 => e2 ((nI_eq (b := 60) (by omega) (by decide)).mp q9)))
      refine z_aload_n rfl rfl ?_
      refine z_get rfl hM.1 rfl ?_
      refine z_aload_n rfl rfl ?_
      refine z_get rfl hM.1 rfl ?_
      rw [t2]
      refine z_iload_n rfl rfl ?_
      refine z_cstM (j := 6) rfl hM (by decide) (k := x.2.2.2.2.2.1.length) rfl (show x.2.2.2.2.2.1.length < 60 by omega) (fun h1 hC1 hF1 => ?_)
      refine z_aload_n rfl rfl ?_
      refine z_dup rfl rfl ?_
      refine z_get rfl hC1.1 rfl ?_
      refine z_iconst (v := 1) rfl (by decide) ?_
      refine z_iadd rfl ?_
      rw [show (z_mF m 6 (upd (m.2 6) x.2.2.2.2.2.1.length (vp_nar .char (nI n)))).1 8 + 1 = nI (x.2.2.2.2.2.1.length + 1) from by show m.1 8 + 1 = _; rw [t2, nI_1]]
      refine z_putM rfl hC1 (by decide) rfl rfl (fun h2 hC2 hF2 => ?_)
      refine z_aload_n rfl rfl ?_
      refine z_aload_n rfl rfl ?_
      refine z_get rfl hC2.1 rfl ?_
      refine z_callV (av := [_]) rfl z_w163 hC2.1 rfl rfl rfl rfl rfl (Nat.le_of_ble_eq_true rfl) (Nat.le_of_ble_eq_true rfl) (Nat.le_of_ble_eq_true rfl) (Nat.le_of_ble_eq_true rfl) (cM_done hC2 (fun h9 hM9 hF9 => ?_))
      refine z_iret rfl rfl ?_
      refine q _ _ _ hM9 ⟨⟨a1, a2⟩, ⟨b1, b2⟩, ⟨c1, c2, c3⟩, ⟨?_, ?_, fun i hi => ?_, fun c hc => ?_⟩, u, k, z, w⟩ rfl ((hF1.trans hF2).trans hF9) (fun _ => rfl)
      · show (x.2.2.2.2.2.1 ++ [n]).length ≤ 60
        rw [List.length_append]; show x.2.2.2.2.2.1.length + 1 ≤ 60; omega
      · show nI (x.2.2.2.2.2.1.length + 1) = nI (x.2.2.2.2.2.1 ++ [n]).length
        rw [List.length_append]; rfl
      · have hi2 : i < (x.2.2.2.2.2.1 ++ [n]).length := hi
        rw [List.length_append] at hi2
        have hi3 : i < x.2.2.2.2.2.1.length + 1 := hi2
        show upd (m.2 6) x.2.2.2.2.2.1.length (vp_nar .char (nI n)) i = nI ((x.2.2.2.2.2.1 ++ [n]).getD i 0)
        rw [z_getD_app]
        unfold upd
        by_cases e : i = x.2.2.2.2.2.1.length
        · rw [if_pos e, if_neg (by omega), if_pos e, ec]
        · rw [if_neg e, if_pos (by omega)]; exact t3 i (by omega)
      · have hc2 : c ∈ x.2.2.2.2.2.1 ++ [n] := hc
        exact (List.mem_append.mp hc2).elim (t4 c) (fun q => by rw [List.mem_singleton.mp q]; exact ⟨hn1, hn2⟩)
theorem cM_character {i : Int32} (hM : z_Mo h a m) (hR : z_Rel x m) (q : z_mQ (z_fCharacter x i) h a Q) : z_W G 1 0 0 252 0 (z_L0 252 [.ref a, .int i]) [] h Q := by
  have hR0 := hR
  obtain ⟨_, _, _, _, ⟨u1, u2, u3⟩, _⟩ := hR
  unfold z_fCharacter at q
  cases e1 : z_has i x.2.2.2.2.2.2.1.length with
  | false =>
    rw [e1, if_neg Bool.false_ne_true] at q
    refine z_aload_n rfl rfl ?_
    refine z_iload_n rfl rfl ?_
    refine z_iconst (v := 0) rfl (by decide) ?_
    refine z_aload_n rfl rfl ?_
    refine z_get rfl hM.1 rfl ?_
    rw [u2]
    refine z_iconst (v := 1) rfl (by decide) ?_
    refine z_isub rfl ?_
    refine z_callS (av := [_, _, _]) rfl z_w162 rfl rfl rfl rfl (Nat.le_of_ble_eq_true rfl) (Nat.le_of_ble_eq_true rfl) (Nat.le_of_ble_eq_true rfl) (Nat.le_of_ble_eq_true rfl) (cM_in ?_)
    rw [z_inHas (by omega), e1]
    refine z_if_eq rfl (fun c12 => ?_) (fun c12 => absurd rfl c12)
    refine z_iconst (v := 1) rfl (by decide) ?_
    refine z_putM rfl hM (by decide) rfl rfl (fun h1 hC1 hF1 => ?_)
    refine z_aload_n rfl rfl ?_
    refine z_get rfl hC1.1 rfl ?_
    refine z_if_ne rfl (fun c27 => ?_) (fun c27 => absurd c27 (show ¬ (1 : Int32) = 0 by decide))
    refine z_iconst (v := 0) rfl (by decide) ?_
    refine z_zret (ty := .char) rfl rfl (by first | decide | exact z_nb _) ?_
    exact q.fl (n := 1) hR0 hC1 hF1 rfl (by decide)
  | true =>
    obtain ⟨k, hk, rfl⟩ := z_hasE (by omega) e1
    rw [e1, if_pos rfl, z_ix_nI (by omega)] at q
    refine z_aload_n rfl rfl ?_
    refine z_iload_n rfl rfl ?_
    refine z_iconst (v := 0) rfl (by decide) ?_
    refine z_aload_n rfl rfl ?_
    refine z_get rfl hM.1 rfl ?_
    rw [u2]
    refine z_iconst (v := 1) rfl (by decide) ?_
    refine z_isub rfl ?_
    refine z_callS (av := [_, _, _]) rfl z_w162 rfl rfl rfl rfl (Nat.le_of_ble_eq_true rfl) (Nat.le_of_ble_eq_true rfl) (Nat.le_of_ble_eq_true rfl) (Nat.le_of_ble_eq_true rfl) (cM_in ?_)
    rw [z_inHas (by omega), e1]
    refine z_if_eq rfl (fun c12 => absurd c12 (by decide)) (fun c12 => ?_)
    refine z_iconst (v := 0) rfl (by decide) ?_
    refine z_goto rfl ?_
    refine z_putM rfl hM (by decide) rfl rfl (fun h1 hC1 hF1 => ?_)
    refine z_aload_n rfl rfl ?_
    refine z_get rfl hC1.1 rfl ?_
    refine z_if_ne rfl (fun c27 => absurd (show (0 : Int32) = 0 from rfl) c27) (fun c27 => ?_)
    refine z_aload_n rfl rfl ?_
    refine z_get rfl hC1.1 rfl ?_
    refine z_iload_n rfl rfl ?_
    refine z_cldE rfl (hC1.2 7 (by decide)) (k := k) rfl (show k < 40 by omega) ?_
    refine z_goto rfl ?_
    rw [show (z_mS m 16 0).2 7 k = nI (x.2.2.2.2.2.2.1.getD k 0) from (u3 k hk).1]
    refine z_zret (ty := .char) rfl rfl (pk_charN (q := x.2.2.2.2.2.2.1.getD k 0) (by have := (u3 k hk).2; omega)).1 ?_
    exact q.dn hR0 hC1 hF1 rfl
end ZQg
