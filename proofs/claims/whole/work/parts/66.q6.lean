/-! The model's rankings and circles. -/
theorem z_bitsC {P P' : Nat → Bool} (n : Nat) (h : ∀ i, i < n → P i = P' i) : z_bits P n = z_bits P' n := z_fold_c n (fun s i hi => by
  show (if P i = true then _ else _) = if P' i = true then _ else _
  rw [h i hi])
/-- a round of the circle, over sets -/
def z_rP (x : z_LV) (P : Nat → Bool) : Nat → Nat → Bool := fun o => z_fold (fun R i => if R i = true then (fun j => R j || z_agr x (nI i) (nI j)) else R) P o
theorem z_rP_s (x : z_LV) (P : Nat → Bool) (i : Nat) : z_rP x P (i + 1) = if z_rP x P i i = true then (fun j => z_rP x P i j || z_agr x (nI i) (nI j)) else z_rP x P i := rfl
theorem z_rP_mono (x : z_LV) (P : Nat → Bool) (i j : Nat) (h : P j = true) : z_rP x P i j = true := by
  induction i with
  | zero => exact h
  | succ i ih =>
    rw [z_rP_s]
    split
    · show (z_rP x P i j || _) = true
      rw [ih]; rfl
    · exact ih
def z_rchF (x : z_LV) (s : Int32) (i : Nat) : Int32 := z_fold (fun s o => if z_isIn s (nI o) = true then s ||| z_agw x (nI o) else s) s i
theorem z_rchP {x : z_LV} (h8 : x.1 0 ≤ 8) (P : Nat → Bool) : ∀ i, i ≤ x.1 0 → z_rchF x (z_bits P (x.1 0)) i = z_bits (z_rP x P i) (x.1 0) := by
  intro i
  induction i with
  | zero => exact fun _ => rfl
  | succ i ih =>
    intro hi
    show (if z_isIn (z_rchF x (z_bits P (x.1 0)) i) (nI i) = true then z_rchF x (z_bits P (x.1 0)) i ||| z_agw x (nI i) else z_rchF x (z_bits P (x.1 0)) i) = _
    rw [ih (by omega), (z_bitsP (P := z_rP x P i) h8).2 i (by omega), z_rP_s]
    by_cases c : z_rP x P i i = true
    · rw [if_pos c, if_pos c]
      unfold z_agw
      rw [z_bitsO]
      refine z_bitsC _ (fun j hj => ?_)
      by_cases e : j = i
      · rw [e, c]; rfl
      · rw [decide_eq_true (show ¬ nI j = nI i from fun q => e ((nI_eq (by omega) (by omega)).mp q)), Bool.true_and]
    · rw [if_neg c, if_neg c]
theorem z_cnt_le2 {P P' : Nat → Bool} : ∀ n, (∀ j, j < n → P j = true → P' j = true) → z_cnt P n ≤ z_cnt P' n ∧ (z_cnt P n = z_cnt P' n → ∀ j, j < n → P j = P' j) := by
  intro n
  induction n with
  | zero => exact fun _ => ⟨Nat.le_refl _, fun _ j hj => absurd hj (Nat.not_lt_zero _)⟩
  | succ n ih =>
    intro h
    obtain ⟨h1, h2⟩ := ih (fun j hj => h j (by omega))
    rw [z_cnt_s, z_cnt_s]
    cases e1 : P n with
    | true =>
      rw [h n (by omega) e1, if_pos rfl]
      refine ⟨by omega, fun q j hj => ?_⟩
      by_cases c : j = n
      · rw [c, e1, h n (by omega) e1]
      · exact h2 (by omega) j (by omega)
    | false =>
      rw [if_neg Bool.false_ne_true]
      cases e2 : P' n with
      | true =>
        rw [if_pos rfl]
        exact ⟨by omega, fun q => by omega⟩
      | false =>
        rw [if_neg Bool.false_ne_true]
        refine ⟨by omega, fun q j hj => ?_⟩
        by_cases c : j = n
        · rw [c, e1, e2]
        · exact h2 (by omega) j (by omega)
/-- rounds of the circle -/
def z_rdP (x : z_LV) (P : Nat → Bool) : Nat → Nat → Bool
  | 0 => P
  | t + 1 => z_rP x (z_rdP x P t) (x.1 0)
def z_rd (x : z_LV) (s : Int32) (t : Nat) : Int32 := z_fold (fun s _ => z_rch x s) s t
theorem z_rdE {x : z_LV} (h8 : x.1 0 ≤ 8) (P : Nat → Bool) : ∀ t, z_rd x (z_bits P (x.1 0)) t = z_bits (z_rdP x P t) (x.1 0) := by
  intro t
  induction t with
  | zero => rfl
  | succ t ih =>
    show z_rch x (z_rd x (z_bits P (x.1 0)) t) = _
    rw [ih]
    exact z_rchP h8 _ _ (Nat.le_refl _)
theorem z_rdS {x : z_LV} (h8 : x.1 0 ≤ 8) (P : Nat → Bool) (hP : 1 ≤ z_cnt P (x.1 0)) : ∀ t, z_rd x (z_bits P (x.1 0)) (t + 1) = z_rd x (z_bits P (x.1 0)) t ∨ t + 1 ≤ z_cnt (z_rdP x P t) (x.1 0) := by
  intro t
  induction t with
  | zero => exact Or.inr hP
  | succ t ih =>
    rcases ih with e | e
    · refine Or.inl ?_
      show z_rch x (z_rd x (z_bits P (x.1 0)) (t + 1)) = z_rch x (z_rd x (z_bits P (x.1 0)) t)
      rw [e]
    · obtain ⟨h1, h2⟩ := z_cnt_le2 (P := z_rdP x P t) (P' := z_rdP x P (t + 1)) (x.1 0) (fun j hj q => z_rP_mono x _ _ j q)
      by_cases c : z_cnt (z_rdP x P t) (x.1 0) = z_cnt (z_rdP x P (t + 1)) (x.1 0)
      · refine Or.inl ?_
        have e2 : z_rd x (z_bits P (x.1 0)) (t + 1) = z_rd x (z_bits P (x.1 0)) t := by
          rw [z_rdE h8, z_rdE h8]
          exact (z_bitsC _ (h2 c)).symm
        show z_rch x (z_rd x (z_bits P (x.1 0)) (t + 1)) = z_rch x (z_rd x (z_bits P (x.1 0)) t)
        rw [e2]
      · exact Or.inr (by omega)
theorem z_rd8 {x : z_LV} (h8 : x.1 0 ≤ 8) (P : Nat → Bool) (hP : 1 ≤ z_cnt P (x.1 0)) : ∀ t, x.1 0 ≤ t → z_rd x (z_bits P (x.1 0)) t = z_rd x (z_bits P (x.1 0)) (x.1 0) := by
  intro t
  induction t with
  | zero => intro h; rw [show x.1 0 = 0 by omega]
  | succ t ih =>
    intro h
    by_cases e : x.1 0 = t + 1
    · rw [e]
    · have e1 := ih (by omega)
      rw [← e1]
      rcases z_rdS h8 P hP t with q | q
      · exact q
      · have := z_cnt_le (z_rdP x P t) (x.1 0)
        exfalso; omega
theorem z_one8 : ∀ n, n < 9 → ∀ j, j < n → (1 : Int32) <<< (nI j &&& 31) = z_bits (fun i => decide (i = j)) n := by decide +kernel
section ZQf
variable {G : z_G} {h : z_H} {Q : z_O → z_H → Prop} {a : Nat} {m : z_MV} {x : z_PV} {v : z_HV}
theorem cM_circleOf {j : Nat} (hM : z_Mo h a m) (hg : z_gOk v (m.2 1)) (hw : z_wf v) (hj : j < v.1.1 0) (q : Q (.inl (some (.int (z_rcd v.1 (nI j))))) h) : z_W G 3 0 0 230 0 (z_L0 230 [.ref a, .int (nI j)]) [] h Q := by
  have h8 := hw.nc
  have e1 := z_one8 (v.1.1 0) (by omega) j hj
  have hc : 1 ≤ z_cnt (fun i => decide (i = j)) (v.1.1 0) := by
    have := z_cnt_strict (B := fun i => decide (i = j)) hj (decide_eq_true rfl)
    omega
  have eq8 : z_rd v.1 (z_bits (fun i => decide (i = j)) (v.1.1 0)) 8 = z_rcd v.1 (nI j) := by
    rw [z_rd8 h8 _ hc 8 h8, ← e1]
    rfl
  have inner : ∀ (r : Nat) (R : z_W G 3 0 0 230 6 [.ref a, .int (nI j), .int (z_rd v.1 (z_bits (fun i => decide (i = j)) (v.1.1 0)) (r + 1)), .int (nI (r + 1)), .int (nI (v.1.1 0))] [] h Q) (k i : Nat), i + k = v.1.1 0 → z_W G 3 0 0 230 15 [.ref a, .int (nI j), .int (z_rchF v.1 (z_rd v.1 (z_bits (fun i => decide (i = j)) (v.1.1 0)) r) i), .int (nI r), .int (nI i)] [] h Q := by
    intro r R k
    induction k with
    | zero =>
      intro i hi
      obtain rfl : i = v.1.1 0 := hi
      refine z_iload rfl rfl ?_
      refine z_aload_n rfl rfl ?_
      refine z_get rfl hM.1 rfl ?_
      refine z_iconst (v := 0) rfl (by decide) ?_
      refine z_ildE rfl (hM.2 1 (by decide)) (k := 0) rfl (show _ < 105 by omega) ?_
      rw [hg.c0]
      refine z_icmp_ge rfl (fun c23 => ?_) (fun c23 => absurd (Int32.le_refl _) c23)
      refine z_iinc1 rfl rfl (by decide +kernel) rfl ?_
      exact z_goto rfl R
    | succ k ih =>
      intro i hi
      have es : z_rchF v.1 (z_rd v.1 (z_bits (fun i => decide (i = j)) (v.1.1 0)) r) i = z_bits (z_rP v.1 (z_rdP v.1 (fun i => decide (i = j)) r) i) (v.1.1 0) := by
        rw [z_rdE h8]; exact z_rchP h8 _ i (by omega)
      have ei := (z_bitsP (P := z_rP v.1 (z_rdP v.1 (fun i => decide (i = j)) r) i) h8).2 i (by omega)
      have st : z_rchF v.1 (z_rd v.1 (z_bits (fun i => decide (i = j)) (v.1.1 0)) r) (i + 1) = if z_rP v.1 (z_rdP v.1 (fun i => decide (i = j)) r) i i = true then z_rchF v.1 (z_rd v.1 (z_bits (fun i => decide (i = j)) (v.1.1 0)) r) i ||| z_bits (fun o => z_agr v.1 (nI i) (nI o)) (v.1.1 0) else z_rchF v.1 (z_rd v.1 (z_bits (fun i => decide (i = j)) (v.1.1 0)) r) i := by
        rw [show z_rchF v.1 (z_rd v.1 (z_bits (fun i => decide (i = j)) (v.1.1 0)) r) (i + 1) = z_bits (z_rP v.1 (z_rdP v.1 (fun i => decide (i = j)) r) (i + 1)) (v.1.1 0) by rw [z_rdE h8]; exact z_rchP h8 _ (i + 1) (by omega), es, z_rP_s]
        by_cases c : z_rP v.1 (z_rdP v.1 (fun i => decide (i = j)) r) i i = true
        · rw [if_pos c, if_pos c, z_bitsO]
        · rw [if_neg c, if_neg c]
      have ih2 := ih (i + 1) (by omega)
      rw [st] at ih2
      rw [es] at ih2 ⊢
      cases c : z_rP v.1 (z_rdP v.1 (fun i => decide (i = j)) r) i i with
      | true =>
        rw [c, if_pos rfl] at ih2
        refine z_iload rfl rfl ?_
        refine z_aload_n rfl rfl ?_
        refine z_get rfl hM.1 rfl ?_
        refine z_iconst (v := 0) rfl (by decide) ?_
        refine z_ildE rfl (hM.2 1 (by decide)) (k := 0) rfl (show _ < 105 by omega) ?_
        rw [hg.c0]
        refine z_icmp_ge rfl (fun c23 => absurd c23 (fun q9 => absurd ((nI_leI (by omega) (by omega)).mp q9) (by omega))) (fun c23 => ?_)
        refine z_iload_n rfl rfl ?_
        refine z_iload_n rfl rfl ?_
        refine z_iload rfl rfl ?_
        refine z_ishr rfl ?_
        refine z_iconst (v := 1) rfl (by decide) ?_
        refine z_iand rfl ?_
        rw [z_inBit, ei, c]
        refine z_iconst (v := 1) rfl (by decide) ?_
        refine z_icmp_ne rfl (fun c34 => absurd rfl c34) (fun c34 => ?_)
        refine z_aload_n rfl rfl ?_
        refine z_iload rfl rfl ?_
        refine z_callV (av := [_]) rfl z_w210 hM.1 rfl rfl rfl rfl rfl (Nat.le_of_ble_eq_true rfl) (Nat.le_of_ble_eq_true rfl) (Nat.le_of_ble_eq_true rfl) (Nat.le_of_ble_eq_true rfl) (cM_agreeing hM hg hw (show i < v.1.1 0 by omega) ?_)
        refine z_goto rfl ?_
        refine z_ior rfl ?_
        refine z_istore_n rfl (by decide +kernel) rfl ?_
        refine z_iinc1 rfl rfl (by decide +kernel) rfl ?_
        exact z_goto rfl ih2
      | false =>
        rw [c, if_neg Bool.false_ne_true] at ih2
        refine z_iload rfl rfl ?_
        refine z_aload_n rfl rfl ?_
        refine z_get rfl hM.1 rfl ?_
        refine z_iconst (v := 0) rfl (by decide) ?_
        refine z_ildE rfl (hM.2 1 (by decide)) (k := 0) rfl (show _ < 105 by omega) ?_
        rw [hg.c0]
        refine z_icmp_ge rfl (fun c23 => absurd c23 (fun q9 => absurd ((nI_leI (by omega) (by omega)).mp q9) (by omega))) (fun c23 => ?_)
        refine z_iload_n rfl rfl ?_
        refine z_iload_n rfl rfl ?_
        refine z_iload rfl rfl ?_
        refine z_ishr rfl ?_
        refine z_iconst (v := 1) rfl (by decide) ?_
        refine z_iand rfl ?_
        rw [z_inBit, ei, c]
        refine z_iconst (v := 1) rfl (by decide) ?_
        refine z_icmp_ne rfl (fun c34 => ?_) (fun c34 => absurd c34 (by decide))
        refine z_iconst (v := 0) rfl (by decide) ?_
        refine z_ior rfl ?_
        rw [Int32.or_zero]
        refine z_istore_n rfl (by decide +kernel) rfl ?_
        refine z_iinc1 rfl rfl (by decide +kernel) rfl ?_
        exact z_goto rfl ih2
  have loop : ∀ (k r : Nat) (y : Value), r + k = 8 → z_W G 3 0 0 230 6 [.ref a, .int (nI j), .int (z_rd v.1 (z_bits (fun i => decide (i = j)) (v.1.1 0)) r), .int (nI r), y] [] h Q := by
    intro k
    induction k with
    | zero =>
      intro r y hr
      obtain rfl : r = 8 := hr
      rw [eq8]
      refine z_iload_n rfl rfl ?_
      refine z_bipush (v := 8) rfl (by decide) ?_
      refine z_icmp_ge rfl (fun c9 => ?_) (fun c9 => absurd (Int32.le_refl _) c9)
      refine z_iload_n rfl rfl ?_
      refine z_iret rfl rfl ?_
      exact q
    | succ k ih =>
      intro r y hr
      refine z_iload_n rfl rfl ?_
      refine z_bipush (v := 8) rfl (by decide) ?_
      refine z_icmp_ge rfl (fun c9 => absurd c9 (show ¬ nI 8 ≤ nI r from fun q9 => absurd ((nI_leI (by omega) (by omega)).mp q9) (by omega))) (fun c9 => ?_)
      refine z_iconst (v := nI 0) rfl (by decide) ?_
      refine z_istore rfl (by decide +kernel) rfl ?_
      exact inner r (ih (r + 1) _ (by omega)) (v.1.1 0) 0 (by omega)
  refine z_iconst (v := 1) rfl (by decide) ?_
  refine z_iload_n rfl rfl ?_
  refine z_ishl rfl ?_
  rw [e1]
  refine z_istore_n rfl (by decide +kernel) rfl ?_
  refine z_iconst (v := nI 0) rfl (by decide) ?_
  refine z_istore_n rfl (by decide +kernel) rfl ?_
  exact loop 8 0 _ rfl
theorem cM_circle {c : Int32} (hM : z_Mo h a m) (hR : z_Rel x m) (q : z_mQ (z_fCircle x c) h a Q) : z_W G 4 0 0 231 0 (z_L0 231 [.ref a, .int c]) [] h Q := by
  have hw := hR.1.1
  have hg := hR.1.2
  have h8 := hw.nc
  cases e1 : z_has c (x.1.1.1 0) with
  | false =>
    refine z_aload_n rfl rfl ?_
    refine z_iload_n rfl rfl ?_
    refine z_callV (av := [_]) rfl z_w169 hM.1 rfl rfl rfl rfl rfl (Nat.le_of_ble_eq_true rfl) (Nat.le_of_ble_eq_true rfl) (Nat.le_of_ble_eq_true rfl) (Nat.le_of_ble_eq_true rfl) (cM_isClock hM hg hw.wz ?_)
    rw [e1]
    refine z_if_eq rfl (fun c5 => ?_) (fun c5 => absurd rfl c5)
    refine z_aload_n rfl rfl ?_
    refine z_iconst (v := 1) rfl (by decide) ?_
    refine z_callV (av := [_]) rfl z_w164 hM.1 rfl rfl rfl rfl rfl (Nat.le_of_ble_eq_true rfl) (Nat.le_of_ble_eq_true rfl) (Nat.le_of_ble_eq_true rfl) (Nat.le_of_ble_eq_true rfl) (cM_fails (v := nI 1) hM (fun h9 hM9 hF9 => ?_))
    refine z_iret rfl rfl ?_
    exact q.fl hR hM9 hF9 (if_pos e1) (by decide)
  | true =>
    obtain ⟨j, hj, rfl⟩ := z_hasE (by omega) e1
    refine z_aload_n rfl rfl ?_
    refine z_iload_n rfl rfl ?_
    refine z_callV (av := [_]) rfl z_w169 hM.1 rfl rfl rfl rfl rfl (Nat.le_of_ble_eq_true rfl) (Nat.le_of_ble_eq_true rfl) (Nat.le_of_ble_eq_true rfl) (Nat.le_of_ble_eq_true rfl) (cM_isClock hM hg hw.wz ?_)
    rw [e1]
    refine z_if_eq rfl (fun c5 => absurd c5 (by decide)) (fun c5 => ?_)
    refine z_aload_n rfl rfl ?_
    refine z_aload_n rfl rfl ?_
    refine z_iload_n rfl rfl ?_
    refine z_callV (av := [_]) rfl z_w230 hM.1 rfl rfl rfl rfl rfl (Nat.le_of_ble_eq_true rfl) (Nat.le_of_ble_eq_true rfl) (Nat.le_of_ble_eq_true rfl) (Nat.le_of_ble_eq_true rfl) (cM_circleOf hM hg hw hj ?_)
    refine z_callV (av := [_]) rfl z_w163 hM.1 rfl rfl rfl rfl rfl (Nat.le_of_ble_eq_true rfl) (Nat.le_of_ble_eq_true rfl) (Nat.le_of_ble_eq_true rfl) (Nat.le_of_ble_eq_true rfl) (cM_done hM (fun h9 hM9 hF9 => ?_))
    refine z_goto rfl ?_
    refine z_iret rfl rfl ?_
    exact q.dn hR hM9 hF9 (if_neg (by rw [e1]; decide))
end ZQf
