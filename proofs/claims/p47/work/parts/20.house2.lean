/-! ClockParliament$House: votes, hours, orders. -/
def z_ush (a b : Int32) : Int32 := (a.toUInt32 >>> (b.toUInt32 &&& Int32.toUInt32 31)).toInt32
def z_bc1 (i : Int32) : Int32 := i - (z_ush i 1 &&& 1431655765)
def z_bc2 (a : Int32) : Int32 := (a &&& 858993459) + (z_ush a 2 &&& 858993459)
def z_bc3 (b : Int32) : Int32 := (b + z_ush b 4) &&& 252645135
def z_bc4 (c : Int32) : Int32 := c + z_ush c 8
def z_bc5 (d : Int32) : Int32 := d + z_ush d 16
def z_bc (i : Int32) : Int32 := z_bc5 (z_bc4 (z_bc3 (z_bc2 (z_bc1 i)))) &&& 63
def z_vts (v : z_HV) (b : Int32) : Int32 := z_bits (fun i => z_wv v.1 (nI i) (z_a v.2.1 1 b)) (v.1.1 0)
def z_mjo (x : z_LV) (s : Int32) : Int32 := z_fold (fun m i => if z_isIn s (nI i) = true then m + (z_a x 2 (nI i) - (3 - z_a x 2 (nI i))) else m) 0 (x.1 0)
def z_vlB (v : z_HV) (b l : Int32) (i : Nat) : Bool := decide (z_a v.1 2 (nI i) = l) && z_wv v.1 (nI i) (z_a v.2.1 1 b)
def z_vl (v : z_HV) (b l : Int32) : Int32 := nI (z_cnt (z_vlB v b l) (v.1.1 0))
def z_mbl (v : z_HV) (b : Int32) : Int32 := z_fold (fun s l => s + z_vl v b (nI l) * (2 * nI l - 3)) 0 4
def z_eno (y : z_LV) (m b : Int32) : Bool := decide (z_a y 2 b ≤ m)
def z_won (v : z_HV) (b : Int32) : Bool := z_eno v.2.1 (z_mjo v.1 (z_vts v b)) b
def z_gvS (s : Int32) (x : z_LV) (i : Nat) : z_LV := if z_isIn s (nI i) = true then z_gvL x (nI i) else x
def z_vtW (v : z_HV) (b s m : Int32) : Nat → Int32 := (z_upW (z_upW (z_upW v 1 (v.2.2 1 + 1)) 2 (v.2.2 2 + if z_eno v.2.1 m b = true then 1 else 0)) 3 (v.2.2 3 + 3 * z_bc s)).2.2
def z_vt1 (v : z_HV) (b s : Int32) : z_HV × Int32 := if s = 0 then ((v.1, z_off v.2.1 b 1, v.2.2), 0) else ((z_fold (z_gvS s) v.1 (v.1.1 0), z_gone1 v.2.1 b, z_vtW v b s (z_mjo v.1 s)), z_mjo v.1 s)
def z_vote (v : z_HV) : z_HV × Int32 := z_vt1 v (z_a v.2.1 5 0) (z_vts v (z_a v.2.1 5 0))
def z_hr1 (v : z_HV) : z_HV := (z_fold z_phS v.1 (v.1.1 0), (z_bp v.2.1).1, (z_upW (z_upW v 0 (v.2.2 0 + 1)) 4 (v.2.2 4 + nI (z_bp v.2.1).2)).2.2)
def z_hrs (v : z_HV) (n : Nat) : z_HV := z_fold (fun w _ => z_hr1 w) v n
def z_lve (v : z_HV) (c : Int32) : z_HV := (z_away v.1 c, z_forL v.2.1 0 c, v.2.2)
theorem z_gvS_1 (s : Int32) (x : z_LV) (i : Nat) : (z_gvS s x i).1 = x.1 := by
  unfold z_gvS
  split <;> rfl
theorem z_gv_1 (s : Int32) (x : z_LV) (n : Nat) : (z_fold (z_gvS s) x n).1 = x.1 := by
  induction n with
  | zero => rfl
  | succ n ih => exact (z_gvS_1 s _ n).trans ih
def z_do (v : z_HV) (o : z_OV) : z_HV × Int32 := match o.1 with
  | 0 => ((z_come v.1 o.2.1 o.2.2.1, v.2.1, v.2.2), nI (v.1.1 0))
  | 1 => (z_lve v o.2.1, nI ((z_away v.1 o.2.1).1 0))
  | 2 => ((z_putL v.1 4 o.2.1 o.2.2.1, v.2.1, v.2.2), z_a v.1 4 o.2.1)
  | 3 => ((z_putL v.1 1 o.2.2.1 24, v.2.1, (z_upW v 5 (v.2.2 5 + 1)).2.2), z_a v.1 1 o.2.2.1)
  | 4 => ((z_moL v.1 o.2.1 o.2.2.1, v.2.1, v.2.2), z_a (z_moL v.1 o.2.1 o.2.2.1) 0 o.2.1)
  | 5 => ((v.1, z_tbl v.2.1 o.2.1 o.2.2.1 o.2.2.2.1, v.2.2), nI (v.2.1.1 0))
  | 6 => ((v.1, z_off v.2.1 o.2.1 o.2.2.1, v.2.2), z_adjN (z_off v.2.1 o.2.1 o.2.2.1))
  | 7 => ((v.1, z_gone1 v.2.1 o.2.1, v.2.2), nI ((z_gone1 v.2.1 o.2.1).1 0))
  | 8 => z_vote v
  | _ => (z_hrs v (z_ix o.2.1), (z_hrs v (z_ix o.2.1)).2.2 4 - v.2.2 4)
/-- sizes that go together -/
def z_szs (v : z_HV) : Prop := (∀ j, j < 4 → v.1.1 j = v.1.1 0) ∧ v.1.1 4 = 3 ∧ (∀ j, j < 5 → v.2.1.1 j = v.2.1.1 0) ∧ v.2.1.1 5 ≤ v.2.1.1 0
theorem z_i2 {P : Prop} [Decidable P] (h : ¬ (if P then (1 : Int32) else 0) = 0) : P := Decidable.byContradiction fun q => h (if_neg q)
section ZH2
variable {G : z_G} {h : z_H} {Q : z_O → z_H → Prop} {b w : Nat} {v : z_HV} {x : Int32 × Int32}
theorem c_bitCount {i : Int32} (q : Q (.inl (some (.int (z_bc i)))) h) : z_W G 0 0 0 327 0 (z_L0 327 [.int i]) [] h Q := by
  refine z_iload_n rfl rfl ?_
  refine z_iload_n rfl rfl ?_
  refine z_iconst (v := 1) rfl (by decide) ?_
  refine z_iushr rfl ?_
  refine z_ldcw (j := 3196) (v := 1431655765) rfl (by decide +kernel) ?_
  refine z_iand rfl ?_
  refine z_isub rfl ?_
  refine z_istore_n rfl (by decide +kernel) rfl ?_
  refine z_iload_n rfl rfl ?_
  refine z_ldcw (j := 3197) (v := 858993459) rfl (by decide +kernel) ?_
  refine z_iand rfl ?_
  refine z_iload_n rfl rfl ?_
  refine z_iconst (v := 2) rfl (by decide) ?_
  refine z_iushr rfl ?_
  refine z_ldcw (j := 3197) (v := 858993459) rfl (by decide +kernel) ?_
  refine z_iand rfl ?_
  refine z_iadd rfl ?_
  refine z_istore_n rfl (by decide +kernel) rfl ?_
  refine z_iload_n rfl rfl ?_
  refine z_iload_n rfl rfl ?_
  refine z_iconst (v := 4) rfl (by decide) ?_
  refine z_iushr rfl ?_
  refine z_iadd rfl ?_
  refine z_ldcw (j := 3198) (v := 252645135) rfl (by decide +kernel) ?_
  refine z_iand rfl ?_
  refine z_istore_n rfl (by decide +kernel) rfl ?_
  refine z_iload_n rfl rfl ?_
  refine z_iload_n rfl rfl ?_
  refine z_bipush (v := 8) rfl (by decide) ?_
  refine z_iushr rfl ?_
  refine z_iadd rfl ?_
  refine z_istore_n rfl (by decide +kernel) rfl ?_
  refine z_iload_n rfl rfl ?_
  refine z_iload_n rfl rfl ?_
  refine z_bipush (v := 16) rfl (by decide) ?_
  refine z_iushr rfl ?_
  refine z_iadd rfl ?_
  refine z_istore_n rfl (by decide +kernel) rfl ?_
  refine z_iload_n rfl rfl ?_
  refine z_bipush (v := 63) rfl (by decide) ?_
  refine z_iand rfl ?_
  refine z_iret rfl rfl ?_
  exact q
theorem cH_votersOn {p : Int32} (hH : z_Hs h b v) (q : Q (.inl (some (.int (z_vts v p)))) h) : z_W G 4 0 0 77 0 (z_L0 77 [.ref b, .int p]) [] h Q := by
  have hn : v.1.1 0 ≤ 8 := (hH.2.1.2 0 (by decide)).fits.1
  have loop : ∀ (k i : Nat) (s : Int32), i + k = v.1.1 0 → s = z_bits (fun i => z_wv v.1 (nI i) (z_a v.2.1 1 p)) i → z_W G 4 0 0 77 4 [.ref b, .int p, .int s, .int (nI i)] [] h Q := by
    intro k
    induction k with
    | zero =>
      intro i s hi hs
      refine z_iload_n rfl rfl ?_
      refine z_aload_n rfl rfl ?_
      refine z_get rfl hH.1 rfl ?_
      refine z_callV (av := []) rfl z_w27 hH.2.1.1 rfl rfl rfl rfl rfl (Nat.le_of_ble_eq_true rfl) (Nat.le_of_ble_eq_true rfl) (Nat.le_of_ble_eq_true rfl) (Nat.le_of_ble_eq_true rfl) (cC_count hH.2.1 ?_)
      refine z_icmp_ge rfl (fun c12 => ?_) (fun c12 => absurd (show nI (v.1.1 0) ≤ nI i from (nI_leI (by omega) (by omega)).mpr (by omega)) c12)
      refine z_iload_n rfl rfl ?_
      refine z_iret rfl rfl ?_
      subst hs; rw [show i = v.1.1 0 by omega]; exact q
    | succ k ih =>
      intro i s hi hs
      refine z_iload_n rfl rfl ?_
      refine z_aload_n rfl rfl ?_
      refine z_get rfl hH.1 rfl ?_
      refine z_callV (av := []) rfl z_w27 hH.2.1.1 rfl rfl rfl rfl rfl (Nat.le_of_ble_eq_true rfl) (Nat.le_of_ble_eq_true rfl) (Nat.le_of_ble_eq_true rfl) (Nat.le_of_ble_eq_true rfl) (cC_count hH.2.1 ?_)
      refine z_icmp_ge rfl (fun c12 => absurd c12 (show ¬ nI (v.1.1 0) ≤ nI i from fun q9 => absurd ((nI_leI (by omega) (by omega)).mp q9) (by omega))) (fun c12 => ?_)
      refine z_aload_n rfl rfl ?_
      refine z_get rfl hH.1 rfl ?_
      refine z_iload_n rfl rfl ?_
      refine z_aload_n rfl rfl ?_
      refine z_get rfl hH.1 rfl ?_
      refine z_get rfl hH.2.2.1 rfl ?_
      refine z_iload_n rfl rfl ?_
      refine z_callV (av := [_]) rfl z_w3 (hH.2.2.2 1 (by decide)).1 rfl rfl rfl rfl rfl (Nat.le_of_ble_eq_true rfl) (Nat.le_of_ble_eq_true rfl) (Nat.le_of_ble_eq_true rfl) (Nat.le_of_ble_eq_true rfl) (z_Li.at hH.2.2 (j := 1) (by decide) ?_)
      refine z_callV (av := [_, _]) rfl z_w32 hH.2.1.1 rfl rfl rfl rfl rfl (Nat.le_of_ble_eq_true rfl) (Nat.le_of_ble_eq_true rfl) (Nat.le_of_ble_eq_true rfl) (Nat.le_of_ble_eq_true rfl) (cC_wouldVote hH.2.1 ?_)
      refine z_if_eq rfl (fun c34 => ?_) (fun c34 => ?_)
      · refine z_iinc1 rfl rfl (by decide +kernel) rfl ?_
        exact z_goto rfl (ih (i + 1) _ (by omega) (by subst hs; exact (if_neg (z_i0 c34)).symm))
      · refine z_iload_n rfl rfl ?_
        refine z_iconst (v := 1) rfl (by decide) ?_
        refine z_iload_n rfl rfl ?_
        refine z_ishl rfl ?_
        refine z_ior rfl ?_
        refine z_istore_n rfl (by decide +kernel) rfl ?_
        refine z_iinc1 rfl rfl (by decide +kernel) rfl ?_
        exact z_goto rfl (ih (i + 1) _ (by omega) (by subst hs; exact (if_pos (z_i2 c34)).symm))
  refine z_iconst (v := 0) rfl (by decide) ?_
  refine z_istore_n rfl (by decide +kernel) rfl ?_
  refine z_iconst (v := nI 0) rfl (by decide) ?_
  refine z_istore_n rfl (by decide +kernel) rfl ?_
  exact loop (v.1.1 0) 0 0 (by omega) rfl
theorem cH_majorityOf {s : Int32} (hH : z_Hs h b v) (q : Q (.inl (some (.int (z_mjo v.1 s)))) h) : z_W G 4 0 0 79 0 (z_L0 79 [.ref b, .int s]) [] h Q := by
  have hn : v.1.1 0 ≤ 8 := (hH.2.1.2 0 (by decide)).fits.1
  have loop : ∀ (k i : Nat) (m : Int32) (L4 : Value), i + k = v.1.1 0 → m = z_fold (fun m i => if z_isIn s (nI i) = true then m + (z_a v.1 2 (nI i) - (3 - z_a v.1 2 (nI i))) else m) 0 i → z_W G 4 0 0 79 4 [.ref b, .int s, .int m, .int (nI i), L4] [] h Q := by
    intro k
    induction k with
    | zero =>
      intro i m L4 hi hs
      refine z_iload_n rfl rfl ?_
      refine z_aload_n rfl rfl ?_
      refine z_get rfl hH.1 rfl ?_
      refine z_callV (av := []) rfl z_w27 hH.2.1.1 rfl rfl rfl rfl rfl (Nat.le_of_ble_eq_true rfl) (Nat.le_of_ble_eq_true rfl) (Nat.le_of_ble_eq_true rfl) (Nat.le_of_ble_eq_true rfl) (cC_count hH.2.1 ?_)
      refine z_icmp_ge rfl (fun c12 => ?_) (fun c12 => absurd (show nI (v.1.1 0) ≤ nI i from (nI_leI (by omega) (by omega)).mpr (by omega)) c12)
      refine z_iload_n rfl rfl ?_
      refine z_iret rfl rfl ?_
      subst hs; rw [show i = v.1.1 0 by omega]; exact q
    | succ k ih =>
      intro i m L4 hi hs
      refine z_iload_n rfl rfl ?_
      refine z_aload_n rfl rfl ?_
      refine z_get rfl hH.1 rfl ?_
      refine z_callV (av := []) rfl z_w27 hH.2.1.1 rfl rfl rfl rfl rfl (Nat.le_of_ble_eq_true rfl) (Nat.le_of_ble_eq_true rfl) (Nat.le_of_ble_eq_true rfl) (Nat.le_of_ble_eq_true rfl) (cC_count hH.2.1 ?_)
      refine z_icmp_ge rfl (fun c12 => absurd c12 (show ¬ nI (v.1.1 0) ≤ nI i from fun q9 => absurd ((nI_leI (by omega) (by omega)).mp q9) (by omega))) (fun c12 => ?_)
      refine z_iload_n rfl rfl ?_
      refine z_iload_n rfl rfl ?_
      refine z_callSN (av := [_, _]) rfl z_w159 rfl rfl rfl rfl (Nat.le_of_ble_eq_true rfl) (Nat.le_of_ble_eq_true rfl) (Nat.le_of_ble_eq_true rfl) (Nat.le_of_ble_eq_true rfl) (c_isIn ?_)
      refine z_if_eq rfl (fun c20 => ?_) (fun c20 => ?_)
      · refine z_iinc1 rfl rfl (by decide +kernel) rfl ?_
        exact z_goto rfl (ih (i + 1) _ _ (by omega) (by subst hs; exact (if_neg (z_i0 c20)).symm))
      · refine z_aload_n rfl rfl ?_
        refine z_get rfl hH.1 rfl ?_
        refine z_get rfl hH.2.1.1 rfl ?_
        refine z_iload_n rfl rfl ?_
        refine z_callV (av := [_]) rfl z_w3 (hH.2.1.2 2 (by decide)).1 rfl rfl rfl rfl rfl (Nat.le_of_ble_eq_true rfl) (Nat.le_of_ble_eq_true rfl) (Nat.le_of_ble_eq_true rfl) (Nat.le_of_ble_eq_true rfl) (z_Li.at hH.2.1 (j := 2) (by decide) ?_)
        refine z_istore rfl (by decide +kernel) rfl ?_
        refine z_iload_n rfl rfl ?_
        refine z_iload rfl rfl ?_
        refine z_iconst (v := 3) rfl (by decide) ?_
        refine z_iload rfl rfl ?_
        refine z_isub rfl ?_
        refine z_isub rfl ?_
        refine z_iadd rfl ?_
        refine z_istore_n rfl (by decide +kernel) rfl ?_
        refine z_iinc1 rfl rfl (by decide +kernel) rfl ?_
        exact z_goto rfl (ih (i + 1) _ _ (by omega) (by subst hs; exact (if_pos (z_i2 c20)).symm))
  refine z_iconst (v := 0) rfl (by decide) ?_
  refine z_istore_n rfl (by decide +kernel) rfl ?_
  refine z_iconst (v := nI 0) rfl (by decide) ?_
  refine z_istore_n rfl (by decide +kernel) rfl ?_
  exact loop (v.1.1 0) 0 0 _ (by omega) rfl
theorem cH_majorityOn {p : Int32} (hH : z_Hs h b v) (q : Q (.inl (some (.int (z_mjo v.1 (z_vts v p))))) h) : z_W G 5 0 0 78 0 (z_L0 78 [.ref b, .int p]) [] h Q := by
  refine z_aload_n rfl rfl ?_
  refine z_aload_n rfl rfl ?_
  refine z_iload_n rfl rfl ?_
  refine z_callV (av := [_]) rfl z_w77 hH.1 rfl rfl rfl rfl rfl (Nat.le_of_ble_eq_true rfl) (Nat.le_of_ble_eq_true rfl) (Nat.le_of_ble_eq_true rfl) (Nat.le_of_ble_eq_true rfl) (cH_votersOn hH ?_)
  refine z_callV (av := [_]) rfl z_w79 hH.1 rfl rfl rfl rfl rfl (Nat.le_of_ble_eq_true rfl) (Nat.le_of_ble_eq_true rfl) (Nat.le_of_ble_eq_true rfl) (Nat.le_of_ble_eq_true rfl) (cH_majorityOf hH ?_)
  refine z_iret rfl rfl ?_
  exact q
theorem cH_votersLeaning {p l : Int32} (hH : z_Hs h b v) (q : Q (.inl (some (.int (z_vl v p l)))) h) : z_W G 4 0 0 81 0 (z_L0 81 [.ref b, .int p, .int l]) [] h Q := by
  have hn : v.1.1 0 ≤ 8 := (hH.2.1.2 0 (by decide)).fits.1
  have loop : ∀ (k i m : Nat), i + k = v.1.1 0 → m = z_cnt (z_vlB v p l) i → z_W G 4 0 0 81 18 [.ref b, .int p, .int l, .int (z_a v.2.1 1 p), .int (nI m), .int (nI i)] [] h Q := by
    intro k
    induction k with
    | zero =>
      intro i m hi hs
      refine z_iload rfl rfl ?_
      refine z_aload_n rfl rfl ?_
      refine z_get rfl hH.1 rfl ?_
      refine z_callV (av := []) rfl z_w27 hH.2.1.1 rfl rfl rfl rfl rfl (Nat.le_of_ble_eq_true rfl) (Nat.le_of_ble_eq_true rfl) (Nat.le_of_ble_eq_true rfl) (Nat.le_of_ble_eq_true rfl) (cC_count hH.2.1 ?_)
      refine z_icmp_ge rfl (fun c27 => ?_) (fun c27 => absurd (show nI (v.1.1 0) ≤ nI i from (nI_leI (by omega) (by omega)).mpr (by omega)) c27)
      refine z_iload rfl rfl ?_
      refine z_iret rfl rfl ?_
      subst hs; unfold z_vl at q; rw [show i = v.1.1 0 by omega]; exact q
    | succ k ih =>
      intro i m hi hs
      have e0 : z_cnt (z_vlB v p l) (i + 1) = z_cnt (z_vlB v p l) i + if z_vlB v p l i = true then 1 else 0 := rfl
      refine z_iload rfl rfl ?_
      refine z_aload_n rfl rfl ?_
      refine z_get rfl hH.1 rfl ?_
      refine z_callV (av := []) rfl z_w27 hH.2.1.1 rfl rfl rfl rfl rfl (Nat.le_of_ble_eq_true rfl) (Nat.le_of_ble_eq_true rfl) (Nat.le_of_ble_eq_true rfl) (Nat.le_of_ble_eq_true rfl) (cC_count hH.2.1 ?_)
      refine z_icmp_ge rfl (fun c27 => absurd c27 (show ¬ nI (v.1.1 0) ≤ nI i from fun q9 => absurd ((nI_leI (by omega) (by omega)).mp q9) (by omega))) (fun c27 => ?_)
      refine z_aload_n rfl rfl ?_
      refine z_get rfl hH.1 rfl ?_
      refine z_get rfl hH.2.1.1 rfl ?_
      refine z_iload rfl rfl ?_
      refine z_callV (av := [_]) rfl z_w3 (hH.2.1.2 2 (by decide)).1 rfl rfl rfl rfl rfl (Nat.le_of_ble_eq_true rfl) (Nat.le_of_ble_eq_true rfl) (Nat.le_of_ble_eq_true rfl) (Nat.le_of_ble_eq_true rfl) (z_Li.at hH.2.1 (j := 2) (by decide) ?_)
      refine z_iload_n rfl rfl ?_
      refine z_icmp_ne rfl (fun c43 => ?_) (fun c43 => ?_)
      · refine z_iinc1 rfl rfl (by decide +kernel) rfl ?_
        exact z_goto rfl (ih (i + 1) _ (by omega) (by subst hs; rw [e0, if_neg (by unfold z_vlB; simp [c43])]; rfl))
      · refine z_aload_n rfl rfl ?_
        refine z_get rfl hH.1 rfl ?_
        refine z_iload rfl rfl ?_
        refine z_iload_n rfl rfl ?_
        refine z_callV (av := [_, _]) rfl z_w32 hH.2.1.1 rfl rfl rfl rfl rfl (Nat.le_of_ble_eq_true rfl) (Nat.le_of_ble_eq_true rfl) (Nat.le_of_ble_eq_true rfl) (Nat.le_of_ble_eq_true rfl) (cC_wouldVote hH.2.1 ?_)
        refine z_if_eq rfl (fun c56 => ?_) (fun c56 => ?_)
        · refine z_iinc1 rfl rfl (by decide +kernel) rfl ?_
          exact z_goto rfl (ih (i + 1) _ (by omega) (by subst hs; rw [e0, if_neg (by unfold z_vlB; simp [(z_bI _).mp c56])]; rfl))
        · refine z_iinc1 rfl rfl (by decide +kernel) rfl ?_
          refine z_iinc1 rfl rfl (by decide +kernel) rfl ?_
          exact z_goto rfl (ih (i + 1) _ (by omega) (by have e1 : z_wv v.1 (nI i) (z_a v.2.1 1 p) = true := (z_i2 c56); subst hs; rw [e0, if_pos (by unfold z_vlB; simp [c43, e1])]))
  refine z_aload_n rfl rfl ?_
  refine z_get rfl hH.1 rfl ?_
  refine z_get rfl hH.2.2.1 rfl ?_
  refine z_iload_n rfl rfl ?_
  refine z_callV (av := [_]) rfl z_w3 (hH.2.2.2 1 (by decide)).1 rfl rfl rfl rfl rfl (Nat.le_of_ble_eq_true rfl) (Nat.le_of_ble_eq_true rfl) (Nat.le_of_ble_eq_true rfl) (Nat.le_of_ble_eq_true rfl) (z_Li.at hH.2.2 (j := 1) (by decide) ?_)
  refine z_istore_n rfl (by decide +kernel) rfl ?_
  refine z_iconst (v := nI 0) rfl (by decide) ?_
  refine z_istore rfl (by decide +kernel) rfl ?_
  refine z_iconst (v := nI 0) rfl (by decide) ?_
  refine z_istore rfl (by decide +kernel) rfl ?_
  exact loop (v.1.1 0) 0 0 (by omega) rfl
theorem cH_majorityByLeanings {p : Int32} (hH : z_Hs h b v) (q : Q (.inl (some (.int (z_mbl v p)))) h) : z_W G 5 0 0 80 0 (z_L0 80 [.ref b, .int p]) [] h Q := by
  have loop : ∀ (k i : Nat) (m : Int32), i + k = 4 → m = z_fold (fun s l => s + z_vl v p (nI l) * (2 * nI l - 3)) 0 i → z_W G 5 0 0 80 4 [.ref b, .int p, .int m, .int (nI i)] [] h Q := by
    intro k
    induction k with
    | zero =>
      intro i m hi hs
      have hi4 : i = 4 := by omega
      subst hi4
      refine z_iload_n rfl rfl ?_
      refine z_iconst (v := 3) rfl (by decide) ?_
      refine z_icmp_gt rfl (fun c6 => ?_) (fun c6 => absurd (by decide) c6)
      refine z_iload_n rfl rfl ?_
      refine z_iret rfl rfl ?_
      subst hs; exact q
    | succ k ih =>
      intro i m hi hs
      refine z_iload_n rfl rfl ?_
      refine z_iconst (v := 3) rfl (by decide) ?_
      refine z_icmp_gt rfl (fun c6 => absurd c6 (show ¬ nI 3 < nI i from by rw [Int32.not_lt, nI_leI (by omega) (by omega)]; omega)) (fun c6 => ?_)
      refine z_iload_n rfl rfl ?_
      refine z_aload_n rfl rfl ?_
      refine z_iload_n rfl rfl ?_
      refine z_iload_n rfl rfl ?_
      refine z_callV (av := [_, _]) rfl z_w81 hH.1 rfl rfl rfl rfl rfl (Nat.le_of_ble_eq_true rfl) (Nat.le_of_ble_eq_true rfl) (Nat.le_of_ble_eq_true rfl) (Nat.le_of_ble_eq_true rfl) (cH_votersLeaning hH ?_)
      refine z_iconst (v := 2) rfl (by decide) ?_
      refine z_iload_n rfl rfl ?_
      refine z_imul rfl ?_
      refine z_iconst (v := 3) rfl (by decide) ?_
      refine z_isub rfl ?_
      refine z_imul rfl ?_
      refine z_iadd rfl ?_
      refine z_istore_n rfl (by decide +kernel) rfl ?_
      refine z_iinc1 rfl rfl (by decide +kernel) rfl ?_
      exact z_goto rfl (ih (i + 1) _ (by omega) (by subst hs; rfl))
  refine z_iconst (v := 0) rfl (by decide) ?_
  refine z_istore_n rfl (by decide +kernel) rfl ?_
  refine z_iconst (v := nI 0) rfl (by decide) ?_
  refine z_istore_n rfl (by decide +kernel) rfl ?_
  exact loop 4 0 0 (by omega) rfl
theorem cH_isEnough {m p : Int32} (hH : z_Hs h b v) (q : Q (.inl (some (.int (if z_eno v.2.1 m p = true then 1 else 0)))) h) : z_W G 2 0 0 83 0 (z_L0 83 [.ref b, .int m, .int p]) [] h Q := by
  refine z_iload_n rfl rfl ?_
  refine z_aload_n rfl rfl ?_
  refine z_get rfl hH.1 rfl ?_
  refine z_get rfl hH.2.2.1 rfl ?_
  refine z_iload_n rfl rfl ?_
  refine z_callV (av := [_]) rfl z_w3 (hH.2.2.2 2 (by decide)).1 rfl rfl rfl rfl rfl (Nat.le_of_ble_eq_true rfl) (Nat.le_of_ble_eq_true rfl) (Nat.le_of_ble_eq_true rfl) (Nat.le_of_ble_eq_true rfl) (z_Li.at hH.2.2 (j := 2) (by decide) ?_)
  refine z_icmp_lt rfl (fun c12 => ?_) (fun c12 => ?_)
  · refine z_iconst (v := 0) rfl (by decide) ?_
    refine z_zret (ty := .boolean) rfl rfl (by first | decide | exact z_nb _) ?_
    have e : z_eno v.2.1 m p = false := by unfold z_eno; rw [← Int32.not_le] at c12; simpa using c12
    rw [e] at q; exact q
  · refine z_iconst (v := 1) rfl (by decide) ?_
    refine z_goto rfl ?_
    refine z_zret (ty := .boolean) rfl rfl (by first | decide | exact z_nb _) ?_
    have e : z_eno v.2.1 m p = true := by unfold z_eno; rw [Int32.not_lt] at c12; simpa using c12
    rw [e] at q; exact q
theorem cH_isWon {p : Int32} (hH : z_Hs h b v) (q : Q (.inl (some (.int (if z_won v p = true then 1 else 0)))) h) : z_W G 6 0 0 82 0 (z_L0 82 [.ref b, .int p]) [] h Q := by
  refine z_aload_n rfl rfl ?_
  refine z_aload_n rfl rfl ?_
  refine z_iload_n rfl rfl ?_
  refine z_callV (av := [_]) rfl z_w78 hH.1 rfl rfl rfl rfl rfl (Nat.le_of_ble_eq_true rfl) (Nat.le_of_ble_eq_true rfl) (Nat.le_of_ble_eq_true rfl) (Nat.le_of_ble_eq_true rfl) (cH_majorityOn hH ?_)
  refine z_iload_n rfl rfl ?_
  refine z_callV (av := [_, _]) rfl z_w83 hH.1 rfl rfl rfl rfl rfl (Nat.le_of_ble_eq_true rfl) (Nat.le_of_ble_eq_true rfl) (Nat.le_of_ble_eq_true rfl) (Nat.le_of_ble_eq_true rfl) (cH_isEnough hH ?_)
  refine z_zret (ty := .boolean) rfl rfl (by first | decide | exact z_nb _) ?_
  exact q
theorem cH_sendAway {p : Int32} (hH : z_Hs h b v) (q : ∀ h', z_Hs h' b (z_lve v p) → z_Fr b 25 h h' → Q (.inl (some (.int (nI ((z_away v.1 p).1 0))))) h') : z_W G 3 0 0 74 0 (z_L0 74 [.ref b, .int p]) [] h Q := by
  refine z_aload_n rfl rfl ?_
  refine z_get rfl hH.1 rfl ?_
  refine z_iload_n rfl rfl ?_
  refine z_callV (av := [_]) rfl z_w34 hH.2.1.1 rfl rfl rfl rfl rfl (Nat.le_of_ble_eq_true rfl) (Nat.le_of_ble_eq_true rfl) (Nat.le_of_ble_eq_true rfl) (Nat.le_of_ble_eq_true rfl) (cC_remove hH.2.1 (fun h1 hC1 hF1 => ?_))
  obtain ⟨hH1, hG1⟩ := z_Hs.cl hH hC1 hF1
  refine z_aload_n rfl rfl ?_
  refine z_get rfl hH1.1 rfl ?_
  refine z_get rfl hH1.2.2.1 rfl ?_
  refine z_iload_n rfl rfl ?_
  refine z_callV (av := [_]) rfl z_w9 (hH1.2.2.2 0 (by decide)).1 rfl rfl rfl rfl rfl (Nat.le_of_ble_eq_true rfl) (Nat.le_of_ble_eq_true rfl) (Nat.le_of_ble_eq_true rfl) (Nat.le_of_ble_eq_true rfl) (z_Li.forget hH1.2.2 (j := 0) (by decide) (fun h2 hC2 hF2 => ?_))
  obtain ⟨hH2, hG2⟩ := z_Hs.bi hH1 hC2 hF2
  refine z_aload_n rfl rfl ?_
  refine z_get rfl hH2.1 rfl ?_
  refine z_callV (av := []) rfl z_w27 hH2.2.1.1 rfl rfl rfl rfl rfl (Nat.le_of_ble_eq_true rfl) (Nat.le_of_ble_eq_true rfl) (Nat.le_of_ble_eq_true rfl) (Nat.le_of_ble_eq_true rfl) (cC_count hH2.2.1 ?_)
  refine z_iret rfl rfl ?_
  exact q _ hH2 (hG1.trans hG2)
theorem cH_passHours {n : Nat} (hn9 : n < 1000) (hH : z_Hs h b v) (q : ∀ h', z_Hs h' b (z_hrs v n) → z_Fr b 25 h h' → Q (.inl (some (.int ((z_hrs v n).2.2 4 - v.2.2 4)))) h') : z_W G 4 0 0 76 0 (z_L0 76 [.ref b, .int (nI n)]) [] h Q := by
  have loop : ∀ (k i : Nat) (hh : z_H), i + k = n → z_Hs hh b (z_hrs v i) → z_Fr b 25 h hh → z_W G 4 0 0 76 7 [.ref b, .int (nI n), .int (v.2.2 4), .int (nI i)] [] hh Q := by
    intro k
    induction k with
    | zero =>
      intro i hh hi hD hF
      refine z_iload_n rfl rfl ?_
      refine z_iload_n rfl rfl ?_
      refine z_icmp_ge rfl (fun c9 => ?_) (fun c9 => absurd (show nI n ≤ nI i from (nI_leI (by omega) (by omega)).mpr (by omega)) c9)
      refine z_aload_n rfl rfl ?_
      refine z_get rfl hD.1 rfl ?_
      refine z_iload_n rfl rfl ?_
      refine z_isub rfl ?_
      refine z_iret rfl rfl ?_
      obtain rfl : i = n := by omega
      exact q _ hD hF
    | succ k ih =>
      intro i hh hi hD hF
      refine z_iload_n rfl rfl ?_
      refine z_iload_n rfl rfl ?_
      refine z_icmp_ge rfl (fun c9 => absurd c9 (show ¬ nI n ≤ nI i from fun q9 => absurd ((nI_leI (by omega) (by omega)).mp q9) (by omega))) (fun c9 => ?_)
      refine z_aload_n rfl rfl ?_
      refine z_dup rfl rfl ?_
      refine z_get rfl hD.1 rfl ?_
      refine z_iconst (v := 1) rfl (by decide) ?_
      refine z_iadd rfl ?_
      refine z_putH rfl hD (by decide) (fun h1 hC1 hF1 => ?_)
      refine z_aload_n rfl rfl ?_
      refine z_dup rfl rfl ?_
      refine z_get rfl hC1.1 rfl ?_
      refine z_aload_n rfl rfl ?_
      refine z_get rfl hC1.1 rfl ?_
      refine z_callV (av := []) rfl z_w58 hC1.2.2.1 rfl rfl rfl rfl rfl (Nat.le_of_ble_eq_true rfl) (Nat.le_of_ble_eq_true rfl) (Nat.le_of_ble_eq_true rfl) (Nat.le_of_ble_eq_true rfl) (cB_passHour hC1.2.2 (fun h2 hC2 hF2 => ?_))
      obtain ⟨hH2, hG2⟩ := z_Hs.bi hC1 hC2 hF2
      refine z_iadd rfl ?_
      refine z_putH rfl hH2 (by decide) (fun h3 hC3 hF3 => ?_)
      refine z_aload_n rfl rfl ?_
      refine z_get rfl hC3.1 rfl ?_
      refine z_callV (av := []) rfl z_w39 hC3.2.1.1 rfl rfl rfl rfl rfl (Nat.le_of_ble_eq_true rfl) (Nat.le_of_ble_eq_true rfl) (Nat.le_of_ble_eq_true rfl) (Nat.le_of_ble_eq_true rfl) (cC_passHour hC3.2.1 (fun h4 hC4 hF4 => ?_))
      obtain ⟨hH4, hG4⟩ := z_Hs.cl hC3 hC4 hF4
      refine z_iinc1 rfl rfl (by decide +kernel) rfl ?_
      exact z_goto rfl (ih (i + 1) _ (by omega) hH4 (hF.trans (((hF1.trans hG2).trans hF3).trans hG4)))
  refine z_aload_n rfl rfl ?_
  refine z_get rfl hH.1 rfl ?_
  refine z_istore_n rfl (by decide +kernel) rfl ?_
  refine z_iconst (v := nI 0) rfl (by decide) ?_
  refine z_istore_n rfl (by decide +kernel) rfl ?_
  exact loop n 0 h (by omega) hH (z_Fr.refl _ _ _)
theorem cH_holdVote (hH : z_Hs h b v) (q : ∀ h', z_Hs h' b (z_vote v).1 → z_Fr b 25 h h' → Q (.inl (some (.int (z_vote v).2))) h') : z_W G 5 0 0 75 0 (z_L0 75 [.ref b]) [] h Q := by
  have hn : v.1.1 0 ≤ 8 := (hH.2.1.2 0 (by decide)).fits.1
  unfold z_vote at q
  have loop : ∀ (s m p : Int32) (cs : Nat → Int32), (∀ h', z_Hs h' b (z_fold (z_gvS s) v.1 (v.1.1 0), z_gone1 v.2.1 p, cs) → z_Fr b 25 h h' → Q (.inl (some (.int m))) h') → ∀ (k i : Nat) (hh : z_H), i + k = v.1.1 0 → z_Hs hh b (z_fold (z_gvS s) v.1 i, v.2.1, cs) → z_Fr b 25 h hh → z_W G 5 0 0 75 91 [.ref b, .int p, .int s, .int m, .int (nI i)] [] hh Q := by
    intro s m p cs q k
    induction k with
    | zero =>
      intro i hh hi hD hF
      have e1 : (z_fold (z_gvS s) v.1 i).1 0 = v.1.1 0 := by rw [z_gv_1]
      refine z_iload rfl rfl ?_
      refine z_aload_n rfl rfl ?_
      refine z_get rfl hD.1 rfl ?_
      refine z_callV (av := []) rfl z_w27 hD.2.1.1 rfl rfl rfl rfl rfl (Nat.le_of_ble_eq_true rfl) (Nat.le_of_ble_eq_true rfl) (Nat.le_of_ble_eq_true rfl) (Nat.le_of_ble_eq_true rfl) (cC_count hD.2.1 ?_)
      rw [e1]
      refine z_icmp_ge rfl (fun c100 => ?_) (fun c100 => absurd (show nI (v.1.1 0) ≤ nI i from (nI_leI (by omega) (by omega)).mpr (by omega)) c100)
      refine z_aload_n rfl rfl ?_
      refine z_get rfl hD.1 rfl ?_
      refine z_iload_n rfl rfl ?_
      refine z_callV (av := [_]) rfl z_w57 hD.2.2.1 rfl rfl rfl rfl rfl (Nat.le_of_ble_eq_true rfl) (Nat.le_of_ble_eq_true rfl) (Nat.le_of_ble_eq_true rfl) (Nat.le_of_ble_eq_true rfl) (cB_remove hD.2.2 (fun h1 hC1 hF1 => ?_))
      obtain ⟨hH1, hG1⟩ := z_Hs.bi hD hC1 hF1
      refine z_pop rfl rfl ?_
      refine z_iload_n rfl rfl ?_
      refine z_iret rfl rfl ?_
      obtain rfl : i = v.1.1 0 := by omega
      exact q _ hH1 (hF.trans hG1)
    | succ k ih =>
      intro i hh hi hD hF
      have e1 : (z_fold (z_gvS s) v.1 i).1 0 = v.1.1 0 := by rw [z_gv_1]
      refine z_iload rfl rfl ?_
      refine z_aload_n rfl rfl ?_
      refine z_get rfl hD.1 rfl ?_
      refine z_callV (av := []) rfl z_w27 hD.2.1.1 rfl rfl rfl rfl rfl (Nat.le_of_ble_eq_true rfl) (Nat.le_of_ble_eq_true rfl) (Nat.le_of_ble_eq_true rfl) (Nat.le_of_ble_eq_true rfl) (cC_count hD.2.1 ?_)
      rw [e1]
      refine z_icmp_ge rfl (fun c100 => absurd c100 (show ¬ nI (v.1.1 0) ≤ nI i from fun q9 => absurd ((nI_leI (by omega) (by omega)).mp q9) (by omega))) (fun c100 => ?_)
      refine z_iload_n rfl rfl ?_
      refine z_iload rfl rfl ?_
      refine z_callSN (av := [_, _]) rfl z_w159 rfl rfl rfl rfl (Nat.le_of_ble_eq_true rfl) (Nat.le_of_ble_eq_true rfl) (Nat.le_of_ble_eq_true rfl) (Nat.le_of_ble_eq_true rfl) (c_isIn ?_)
      refine z_if_eq rfl (fun c109 => ?_) (fun c109 => ?_)
      · refine z_iinc1 rfl rfl (by decide +kernel) rfl ?_
        exact z_goto rfl (ih (i + 1) _ (by omega) (by have e : z_fold (z_gvS s) v.1 (i + 1) = z_fold (z_gvS s) v.1 i := if_neg (z_i0 c109); rw [e]; exact hD) hF)
      · refine z_aload_n rfl rfl ?_
        refine z_get rfl hD.1 rfl ?_
        refine z_iload rfl rfl ?_
        refine z_callV (av := [_]) rfl z_w38 hD.2.1.1 rfl rfl rfl rfl rfl (Nat.le_of_ble_eq_true rfl) (Nat.le_of_ble_eq_true rfl) (Nat.le_of_ble_eq_true rfl) (Nat.le_of_ble_eq_true rfl) (cC_giveVote hD.2.1 (fun h1 hC1 hF1 => ?_))
        obtain ⟨hH1, hG1⟩ := z_Hs.cl hD hC1 hF1
        refine z_iinc1 rfl rfl (by decide +kernel) rfl ?_
        exact z_goto rfl (ih (i + 1) _ (by omega) (by have e : z_fold (z_gvS s) v.1 (i + 1) = z_gvL (z_fold (z_gvS s) v.1 i) (nI i) := if_pos (z_i2 c109); rw [e]; exact hH1) (hF.trans hG1))
  refine z_aload_n rfl rfl ?_
  refine z_get rfl hH.1 rfl ?_
  refine z_get rfl hH.2.2.1 rfl ?_
  refine z_iconst (v := 0) rfl (by decide) ?_
  refine z_callV (av := [_]) rfl z_w3 (hH.2.2.2 5 (by decide)).1 rfl rfl rfl rfl rfl (Nat.le_of_ble_eq_true rfl) (Nat.le_of_ble_eq_true rfl) (Nat.le_of_ble_eq_true rfl) (Nat.le_of_ble_eq_true rfl) (z_Li.at hH.2.2 (j := 5) (by decide) ?_)
  refine z_istore_n rfl (by decide +kernel) rfl ?_
  refine z_aload_n rfl rfl ?_
  refine z_iload_n rfl rfl ?_
  refine z_callV (av := [_]) rfl z_w77 hH.1 rfl rfl rfl rfl rfl (Nat.le_of_ble_eq_true rfl) (Nat.le_of_ble_eq_true rfl) (Nat.le_of_ble_eq_true rfl) (Nat.le_of_ble_eq_true rfl) (cH_votersOn hH ?_)
  refine z_istore_n rfl (by decide +kernel) rfl ?_
  refine z_iload_n rfl rfl ?_
  refine z_if_ne rfl (fun c19 => ?_) (fun c19 => ?_)
  · unfold z_vt1 at q; rw [if_neg c19] at q
    refine z_aload_n rfl rfl ?_
    refine z_iload_n rfl rfl ?_
    refine z_callV (av := [_]) rfl z_w79 hH.1 rfl rfl rfl rfl rfl (Nat.le_of_ble_eq_true rfl) (Nat.le_of_ble_eq_true rfl) (Nat.le_of_ble_eq_true rfl) (Nat.le_of_ble_eq_true rfl) (cH_majorityOf hH ?_)
    refine z_istore_n rfl (by decide +kernel) rfl ?_
    refine z_aload_n rfl rfl ?_
    refine z_dup rfl rfl ?_
    refine z_get rfl hH.1 rfl ?_
    refine z_iconst (v := 1) rfl (by decide) ?_
    refine z_iadd rfl ?_
    refine z_putH rfl hH (by decide) (fun h1 hC1 hF1 => ?_)
    refine z_aload_n rfl rfl ?_
    refine z_dup rfl rfl ?_
    refine z_get rfl hC1.1 rfl ?_
    refine z_aload_n rfl rfl ?_
    refine z_iload_n rfl rfl ?_
    refine z_iload_n rfl rfl ?_
    refine z_callV (av := [_, _]) rfl z_w83 hC1.1 rfl rfl rfl rfl rfl (Nat.le_of_ble_eq_true rfl) (Nat.le_of_ble_eq_true rfl) (Nat.le_of_ble_eq_true rfl) (Nat.le_of_ble_eq_true rfl) (cH_isEnough hC1 ?_)
    refine z_if_eq rfl (fun c61 => ?_) (fun c61 => ?_)
    · refine z_iconst (v := 0) rfl (by decide) ?_
      refine z_iadd rfl ?_
      refine z_putH rfl hC1 (by decide) (fun h2 hC2 hF2 => ?_)
      refine z_aload_n rfl rfl ?_
      refine z_dup rfl rfl ?_
      refine z_get rfl hC2.1 rfl ?_
      refine z_iconst (v := 3) rfl (by decide) ?_
      refine z_iload_n rfl rfl ?_
      refine z_callS (av := [_]) rfl z_w327 rfl rfl rfl rfl (Nat.le_of_ble_eq_true rfl) (Nat.le_of_ble_eq_true rfl) (Nat.le_of_ble_eq_true rfl) (Nat.le_of_ble_eq_true rfl) (c_bitCount ?_)
      refine z_imul rfl ?_
      refine z_iadd rfl ?_
      refine z_putH rfl hC2 (by decide) (fun h3 hC3 hF3 => ?_)
      refine z_iconst (v := 0) rfl (by decide) ?_
      refine z_istore rfl (by decide +kernel) rfl ?_
      unfold z_vtW at q; rw [if_neg (show ¬ z_eno v.2.1 _ _ = true from z_i0 c61)] at q; exact loop _ _ _ _ q (v.1.1 0) 0 _ (by omega) hC3 ((hF1.trans hF2).trans hF3)
    · refine z_iconst (v := 1) rfl (by decide) ?_
      refine z_goto rfl ?_
      refine z_iadd rfl ?_
      refine z_putH rfl hC1 (by decide) (fun h2 hC2 hF2 => ?_)
      refine z_aload_n rfl rfl ?_
      refine z_dup rfl rfl ?_
      refine z_get rfl hC2.1 rfl ?_
      refine z_iconst (v := 3) rfl (by decide) ?_
      refine z_iload_n rfl rfl ?_
      refine z_callS (av := [_]) rfl z_w327 rfl rfl rfl rfl (Nat.le_of_ble_eq_true rfl) (Nat.le_of_ble_eq_true rfl) (Nat.le_of_ble_eq_true rfl) (Nat.le_of_ble_eq_true rfl) (c_bitCount ?_)
      refine z_imul rfl ?_
      refine z_iadd rfl ?_
      refine z_putH rfl hC2 (by decide) (fun h3 hC3 hF3 => ?_)
      refine z_iconst (v := 0) rfl (by decide) ?_
      refine z_istore rfl (by decide +kernel) rfl ?_
      unfold z_vtW at q; rw [if_pos (show z_eno v.2.1 _ _ = true from z_i2 c61)] at q; exact loop _ _ _ _ q (v.1.1 0) 0 _ (by omega) hC3 ((hF1.trans hF2).trans hF3)
  · refine z_aload_n rfl rfl ?_
    refine z_get rfl hH.1 rfl ?_
    refine z_iload_n rfl rfl ?_
    refine z_iconst (v := 1) rfl (by decide) ?_
    refine z_callV (av := [_, _]) rfl z_w56 hH.2.2.1 rfl rfl rfl rfl rfl (Nat.le_of_ble_eq_true rfl) (Nat.le_of_ble_eq_true rfl) (Nat.le_of_ble_eq_true rfl) (Nat.le_of_ble_eq_true rfl) (cB_putOff hH.2.2 (fun h1 hC1 hF1 => ?_))
    obtain ⟨hH1, hG1⟩ := z_Hs.bi hH hC1 hF1
    refine z_pop rfl rfl ?_
    refine z_iconst (v := 0) rfl (by decide) ?_
    refine z_iret rfl rfl ?_
    unfold z_vt1 at q; rw [if_pos (by simpa using c19)] at q; exact q _ hH1 hG1
end ZH2
