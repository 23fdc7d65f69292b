/-! What the model tells of clocks and bills. -/
section ZQa
variable {G : z_G} {h h' : z_H} {Q : z_O → z_H → Prop} {a : Nat} {m : z_MV} {x : z_PV} {v : z_HV} {g : Nat → Int32}
theorem z_mQ.dn {f : z_An} {r : Int32} (q : z_mQ f h a Q) (hR : z_Rel x m) (hM : z_Mo h' a (z_mS m 16 0)) (hF : z_Fr a 9 h h') (e : f = (0, r, x)) : Q (.inl (some (.int r))) h' := by
  subst e
  exact q h' _ r hM (hR.th 0) rfl hF (fun _ => rfl)
theorem z_mQ.fl {f : z_An} {n : Nat} {r y : Int32} (q : z_mQ f h a Q) (hR : z_Rel x m) (hM : z_Mo h' a (z_mS m 16 (nI n))) (hF : z_Fr a 9 h h') (e : f = (n, y, x)) (hn : n ≠ 0) : Q (.inl (some (.int r))) h' := by
  subst e
  exact q h' _ r hM (hR.th _) rfl hF (fun e => absurd (show n = 0 from e) hn)
theorem z_add1I (y c : Int32) : y + 1 = c + 1 ↔ y = c := ⟨fun e => by rw [← z_add_1 y, e, z_add_1], fun e => by rw [e]⟩
theorem cM_keysOf {c : Int32} (hM : z_Mo h a m) (hg : z_gOk v (m.2 1)) (hw : z_wz v) (q : Q (.inl (some (.int (nI (z_cnt (fun i => decide (v.1.2 4 i = c)) 3))))) h) : z_W G 0 0 0 208 0 (z_L0 208 [.ref a, .int c]) [] h Q := by
  have hM' := hM.gf
  have loop : ∀ (k i : Nat) (t : Int32), i + k = 3 → t = nI (z_cnt (fun i => decide (v.1.2 4 i = c)) i) → z_W G 0 0 0 208 4 [.ref a, .int c, .int t, .int (nI i)] [] h Q := by
    intro k
    induction k with
    | zero =>
      intro i t hi ht
      obtain rfl : i = 3 := hi
      refine z_iload_n rfl rfl ?_
      refine z_iconst (v := 3) rfl (by decide) ?_
      refine z_icmp_ge rfl (fun c6 => ?_) (fun c6 => absurd (Int32.le_refl _) c6)
      refine z_iload_n rfl rfl ?_
      refine z_iret rfl rfl ?_
      rw [ht]; exact q
    | succ k ih =>
      intro i t hi ht
      have e1 : m.2 1 (42 + i) = v.1.2 4 i + 1 := hg.2.2.2.1 i (by omega)
      have st : nI (z_cnt (fun i => decide (v.1.2 4 i = c)) (i + 1)) = t + (if v.1.2 4 i = c then 1 else 0) := by
        rw [z_cnt_s, ht]
        by_cases e : v.1.2 4 i = c
        · rw [if_pos e, if_pos (decide_eq_true e), nI_1]
        · rw [if_neg e, if_neg (fun q9 => e (of_decide_eq_true q9)), Int32.add_zero]; rfl
      by_cases e : v.1.2 4 i = c
      · rw [if_pos e] at st
        refine z_iload_n rfl rfl ?_
        refine z_iconst (v := 3) rfl (by decide) ?_
        refine z_icmp_ge rfl (fun c6 => absurd c6 (show ¬ nI 3 ≤ nI i from fun q9 => absurd ((nI_leI (by omega) (by omega)).mp q9) (by omega))) (fun c6 => ?_)
        refine z_iload_n rfl rfl ?_
        refine z_aload_n rfl rfl ?_
        refine z_get rfl hM'.1 rfl ?_
        refine z_bipush (v := 42) rfl (by decide) ?_
        refine z_iload_n rfl rfl ?_
        refine z_iadd rfl ?_
        refine z_ildE rfl (hM'.g) (nI_add 42 (i)) (show _ < 105 by omega) ?_
        refine z_iload_n rfl rfl ?_
        refine z_iconst (v := 1) rfl (by decide) ?_
        refine z_iadd rfl ?_
        rw [e1]
        refine z_icmp_ne rfl (fun c22 => absurd ((z_add1I _ _).mpr e) c22) (fun c22 => ?_)
        refine z_iconst (v := 1) rfl (by decide) ?_
        refine z_goto rfl ?_
        refine z_iadd rfl ?_
        refine z_istore_n rfl (by decide +kernel) rfl ?_
        refine z_iinc1 rfl rfl (by decide +kernel) rfl ?_
        exact z_goto rfl (ih (i + 1) _ (by omega) st.symm)
      · rw [if_neg e] at st
        refine z_iload_n rfl rfl ?_
        refine z_iconst (v := 3) rfl (by decide) ?_
        refine z_icmp_ge rfl (fun c6 => absurd c6 (show ¬ nI 3 ≤ nI i from fun q9 => absurd ((nI_leI (by omega) (by omega)).mp q9) (by omega))) (fun c6 => ?_)
        refine z_iload_n rfl rfl ?_
        refine z_aload_n rfl rfl ?_
        refine z_get rfl hM'.1 rfl ?_
        refine z_bipush (v := 42) rfl (by decide) ?_
        refine z_iload_n rfl rfl ?_
        refine z_iadd rfl ?_
        refine z_ildE rfl (hM'.g) (nI_add 42 (i)) (show _ < 105 by omega) ?_
        refine z_iload_n rfl rfl ?_
        refine z_iconst (v := 1) rfl (by decide) ?_
        refine z_iadd rfl ?_
        rw [e1]
        refine z_icmp_ne rfl (fun c22 => ?_) (fun c22 => absurd c22 (fun q9 => e ((z_add1I _ _).mp q9)))
        refine z_iconst (v := 0) rfl (by decide) ?_
        refine z_iadd rfl ?_
        refine z_istore_n rfl (by decide +kernel) rfl ?_
        refine z_iinc1 rfl rfl (by decide +kernel) rfl ?_
        exact z_goto rfl (ih (i + 1) _ (by omega) st.symm)
  refine z_iconst (v := 0) rfl (by decide) ?_
  refine z_istore_n rfl (by decide +kernel) rfl ?_
  refine z_iconst (v := nI 0) rfl (by decide) ?_
  refine z_istore_n rfl (by decide +kernel) rfl ?_
  exact loop 3 0 0 rfl rfl
theorem cM_billsOf {c : Int32} (hM : z_Mo h a m) (hg : z_gOk v (m.2 1)) (hw : z_wz v) (q : Q (.inl (some (.int (nI (z_cnt (fun i => decide (v.2.1.2 0 i = c)) (v.2.1.1 0)))))) h) : z_W G 0 0 0 209 0 (z_L0 209 [.ref a, .int c]) [] h Q := by
  have hM' := hM.gf
  have h10 := hw.nb
  have loop : ∀ (k i : Nat) (t : Int32), i + k = v.2.1.1 0 → t = nI (z_cnt (fun i => decide (v.2.1.2 0 i = c)) i) → z_W G 0 0 0 209 4 [.ref a, .int c, .int t, .int (nI i)] [] h Q := by
    intro k
    induction k with
    | zero =>
      intro i t hi ht
      obtain rfl : i = v.2.1.1 0 := hi
      refine z_iload_n rfl rfl ?_
      refine z_aload_n rfl rfl ?_
      refine z_get rfl hM'.1 rfl ?_
      refine z_iconst (v := 1) rfl (by decide) ?_
      refine z_ildE rfl (hM'.g) (k := 1) rfl (show _ < 105 by omega) ?_
      rw [hg.b0]
      refine z_icmp_ge rfl (fun c11 => ?_) (fun c11 => absurd (Int32.le_refl _) c11)
      refine z_iload_n rfl rfl ?_
      refine z_iret rfl rfl ?_
      rw [ht]; exact q
    | succ k ih =>
      intro i t hi ht
      have e1 : m.2 1 (45 + i) = v.2.1.2 0 i + 1 := hg.2.2.2.2.1 i (by omega)
      have st : nI (z_cnt (fun i => decide (v.2.1.2 0 i = c)) (i + 1)) = t + (if v.2.1.2 0 i = c then 1 else 0) := by
        rw [z_cnt_s, ht]
        by_cases e : v.2.1.2 0 i = c
        · rw [if_pos e, if_pos (decide_eq_true e), nI_1]
        · rw [if_neg e, if_neg (fun q9 => e (of_decide_eq_true q9)), Int32.add_zero]; rfl
      by_cases e : v.2.1.2 0 i = c
      · rw [if_pos e] at st
        refine z_iload_n rfl rfl ?_
        refine z_aload_n rfl rfl ?_
        refine z_get rfl hM'.1 rfl ?_
        refine z_iconst (v := 1) rfl (by decide) ?_
        refine z_ildE rfl (hM'.g) (k := 1) rfl (show _ < 105 by omega) ?_
        rw [hg.b0]
        refine z_icmp_ge rfl (fun c11 => absurd c11 (fun q9 => absurd ((nI_leI (by omega) (by omega)).mp q9) (by omega))) (fun c11 => ?_)
        refine z_iload_n rfl rfl ?_
        refine z_aload_n rfl rfl ?_
        refine z_get rfl hM'.1 rfl ?_
        refine z_bipush (v := 45) rfl (by decide) ?_
        refine z_iload_n rfl rfl ?_
        refine z_iadd rfl ?_
        refine z_ildE rfl (hM'.g) (nI_add 45 (i)) (show _ < 105 by omega) ?_
        refine z_iload_n rfl rfl ?_
        refine z_iconst (v := 1) rfl (by decide) ?_
        refine z_iadd rfl ?_
        rw [e1]
        refine z_icmp_ne rfl (fun c27 => absurd ((z_add1I _ _).mpr e) c27) (fun c27 => ?_)
        refine z_iconst (v := 1) rfl (by decide) ?_
        refine z_goto rfl ?_
        refine z_iadd rfl ?_
        refine z_istore_n rfl (by decide +kernel) rfl ?_
        refine z_iinc1 rfl rfl (by decide +kernel) rfl ?_
        exact z_goto rfl (ih (i + 1) _ (by omega) st.symm)
      · rw [if_neg e] at st
        refine z_iload_n rfl rfl ?_
        refine z_aload_n rfl rfl ?_
        refine z_get rfl hM'.1 rfl ?_
        refine z_iconst (v := 1) rfl (by decide) ?_
        refine z_ildE rfl (hM'.g) (k := 1) rfl (show _ < 105 by omega) ?_
        rw [hg.b0]
        refine z_icmp_ge rfl (fun c11 => absurd c11 (fun q9 => absurd ((nI_leI (by omega) (by omega)).mp q9) (by omega))) (fun c11 => ?_)
        refine z_iload_n rfl rfl ?_
        refine z_aload_n rfl rfl ?_
        refine z_get rfl hM'.1 rfl ?_
        refine z_bipush (v := 45) rfl (by decide) ?_
        refine z_iload_n rfl rfl ?_
        refine z_iadd rfl ?_
        refine z_ildE rfl (hM'.g) (nI_add 45 (i)) (show _ < 105 by omega) ?_
        refine z_iload_n rfl rfl ?_
        refine z_iconst (v := 1) rfl (by decide) ?_
        refine z_iadd rfl ?_
        rw [e1]
        refine z_icmp_ne rfl (fun c27 => ?_) (fun c27 => absurd c27 (fun q9 => e ((z_add1I _ _).mp q9)))
        refine z_iconst (v := 0) rfl (by decide) ?_
        refine z_iadd rfl ?_
        refine z_istore_n rfl (by decide +kernel) rfl ?_
        refine z_iinc1 rfl rfl (by decide +kernel) rfl ?_
        exact z_goto rfl (ih (i + 1) _ (by omega) st.symm)
  refine z_iconst (v := 0) rfl (by decide) ?_
  refine z_istore_n rfl (by decide +kernel) rfl ?_
  refine z_iconst (v := nI 0) rfl (by decide) ?_
  refine z_istore_n rfl (by decide +kernel) rfl ?_
  exact loop (v.2.1.1 0) 0 0 (by omega) rfl
theorem cM_agreeing {j : Nat} (hM : z_Mo h a m) (hg : z_gOk v (m.2 1)) (hw : z_wf v) (hj : j < v.1.1 0) (q : Q (.inl (some (.int (z_bits (fun i => z_agr v.1 (nI j) (nI i)) (v.1.1 0))))) h) : z_W G 2 0 0 210 0 (z_L0 210 [.ref a, .int (nI j)]) [] h Q := by
  have hM' := hM.gf
  have h8 := hw.nc
  have loop : ∀ (k i : Nat) (t : Int32), i + k = v.1.1 0 → t = z_bits (fun i => z_agr v.1 (nI j) (nI i)) i → z_W G 2 0 0 210 4 [.ref a, .int (nI j), .int t, .int (nI i)] [] h Q := by
    intro k
    induction k with
    | zero =>
      intro i t hi ht
      obtain rfl : i = v.1.1 0 := hi
      refine z_iload_n rfl rfl ?_
      refine z_aload_n rfl rfl ?_
      refine z_get rfl hM'.1 rfl ?_
      refine z_iconst (v := 0) rfl (by decide) ?_
      refine z_ildE rfl (hM'.g) (k := 0) rfl (show _ < 105 by omega) ?_
      rw [hg.c0]
      refine z_icmp_ge rfl (fun c11 => ?_) (fun c11 => absurd (Int32.le_refl _) c11)
      refine z_iload_n rfl rfl ?_
      refine z_iret rfl rfl ?_
      rw [ht]; exact q
    | succ k ih =>
      intro i t hi ht
      have st : z_bits (fun i => z_agr v.1 (nI j) (nI i)) (i + 1) = if z_sb (z_a v.1 0 (nI j)) (z_a v.1 0 (nI i)) ≤ 5 then t ||| (1 <<< (nI i &&& 31)) else t := by
        rw [ht]
        show (if z_agr v.1 (nI j) (nI i) = true then _ else _) = _
        unfold z_agr
        by_cases e : z_sb (z_a v.1 0 (nI j)) (z_a v.1 0 (nI i)) ≤ 5
        · rw [if_pos (decide_eq_true e), if_pos e]; rfl
        · rw [if_neg (fun q9 => e (of_decide_eq_true q9)), if_neg e]; rfl
      refine z_iload_n rfl rfl ?_
      refine z_aload_n rfl rfl ?_
      refine z_get rfl hM'.1 rfl ?_
      refine z_iconst (v := 0) rfl (by decide) ?_
      refine z_ildE rfl (hM'.g) (k := 0) rfl (show _ < 105 by omega) ?_
      rw [hg.c0]
      refine z_icmp_ge rfl (fun c11 => absurd c11 (fun q9 => absurd ((nI_leI (by omega) (by omega)).mp q9) (by omega))) (fun c11 => ?_)
      refine z_iload_n rfl rfl ?_
      refine z_aload_n rfl rfl ?_
      refine z_iload_n rfl rfl ?_
      refine z_iload_n rfl rfl ?_
      refine z_callV (av := [_, _]) rfl z_w174 hM'.1 rfl rfl rfl rfl rfl (Nat.le_of_ble_eq_true rfl) (Nat.le_of_ble_eq_true rfl) (Nat.le_of_ble_eq_true rfl) (Nat.le_of_ble_eq_true rfl) (cM_clocksApart hM hg hw hj (show i < v.1.1 0 by omega) ?_)
      refine z_iconst (v := 5) rfl (by decide) ?_
      refine z_icmp_gt rfl (fun c22 => ?_) (fun c22 => ?_)
      · refine z_iconst (v := 0) rfl (by decide) ?_
        refine z_ior rfl ?_
        refine z_istore_n rfl (by decide +kernel) rfl ?_
        refine z_iinc1 rfl rfl (by decide +kernel) rfl ?_
        refine z_goto rfl (ih (i + 1) _ (by omega) ?_)
        rw [st, if_neg (Int32.not_le.mpr c22), Int32.or_zero]
      · refine z_iconst (v := 1) rfl (by decide) ?_
        refine z_iload_n rfl rfl ?_
        refine z_ishl rfl ?_
        refine z_goto rfl ?_
        refine z_ior rfl ?_
        refine z_istore_n rfl (by decide +kernel) rfl ?_
        refine z_iinc1 rfl rfl (by decide +kernel) rfl ?_
        refine z_goto rfl (ih (i + 1) _ (by omega) ?_)
        rw [st, if_pos (Int32.not_lt.mp c22)]
  refine z_iconst (v := 0) rfl (by decide) ?_
  refine z_istore_n rfl (by decide +kernel) rfl ?_
  refine z_iconst (v := nI 0) rfl (by decide) ?_
  refine z_istore_n rfl (by decide +kernel) rfl ?_
  exact loop (v.1.1 0) 0 0 (by omega) rfl
end ZQa
