/-! ClockParliament$Clocks. -/
def z_way (a b : Int32) : Int32 := if a - b < 0 then -(a - b) else a - b
def z_sb (a b : Int32) : Int32 := if 60 - z_way a b < z_way a b then 60 - z_way a b else z_way a b
def z_agr (x : z_LV) (p q : Int32) : Bool := decide (z_sb (z_a x 0 p) (z_a x 0 q) ≤ 5)
def z_wv (x : z_LV) (c s : Int32) : Bool := decide (0 < z_a x 1 c) && decide (z_sb (z_a x 0 c) s ≤ 20)
def z_isIn (s q : Int32) : Bool := decide (¬ (s >>> (q &&& 31)) &&& 1 = 0)
def z_come (x : z_LV) (s l : Int32) : z_LV := z_addL (z_addL (z_addL (z_addL x 0 s) 1 24) 2 l) 3 0
def z_away (x : z_LV) (c : Int32) : z_LV := z_upF (z_remL (z_remL (z_remL (z_remL x 0 c) 1 c) 2 c) 3 c) 4 (z_forF ((z_remL (z_remL (z_remL (z_remL x 0 c) 1 c) 2 c) 3 c).2 4) ((z_remL (z_remL (z_remL (z_remL x 0 c) 1 c) 2 c) 3 c).1 4) c)
def z_putL (x : z_LV) (j : Nat) (p v : Int32) : z_LV := z_upF x j (z_updV (x.2 j) (x.1 j) p v)
def z_m60 (v : Int32) : Int32 := v - v / 60 * 60
def z_goL (x : z_LV) (c b : Int32) : z_LV := z_putL x 0 c (z_m60 (z_a x 0 c + b))
def z_moL (x : z_LV) (c b : Int32) : z_LV := z_goL (z_putL x 1 c (z_a x 1 c + -(b / 10 + 1))) c b
def z_gvL (x : z_LV) (c : Int32) : z_LV := z_putL (z_putL x 1 c (z_a x 1 c + -1)) 3 c (z_a (z_putL x 1 c (z_a x 1 c + -1)) 3 c + 1)
def z_dnL (x : z_LV) (c : Int32) : z_LV := z_putL x 1 c (z_a x 1 c + -1)
def z_phS (x : z_LV) (i : Nat) : z_LV := if z_a x 1 (nI i) = 0 then x else z_goL (z_dnL x (nI i)) (nI i) (if z_a (z_dnL x (nI i)) 1 (nI i) = 0 then 0 else 1)
def z_bits (P : Nat → Bool) (n : Nat) : Int32 := z_fold (fun s i => if P i = true then s ||| (1 <<< (nI i &&& 31)) else s) 0 n
def z_agw (x : z_LV) (c : Int32) : Int32 := z_bits (fun i => decide (¬ nI i = c) && z_agr x c (nI i)) (x.1 0)
def z_rch (x : z_LV) (s : Int32) : Int32 := z_fold (fun s o => if z_isIn s (nI o) = true then s ||| z_agw x (nI o) else s) s (x.1 0)
def z_rcd (x : z_LV) (c : Int32) : Int32 := z_fold (fun s _ => z_rch x s) (1 <<< (c &&& 31)) (x.1 0)
def z_wk (x : z_LV) : Int32 := z_fold (fun w i => if z_a x 1 (nI (i + 1)) < z_a x 1 w then nI (i + 1) else w) 0 (x.1 0 - 1)
def z_rnk (n m : Nat) (f : Nat → Int32) (c : Int32) : Nat := z_cnt (fun o => decide (0 < z_atV f m (nI o) - z_atV f m c) || (decide (z_atV f m (nI o) - z_atV f m c = 0) && decide (nI o < c))) n
theorem z_putL_1 (x : z_LV) (j : Nat) (p v : Int32) : (z_putL x j p v).1 = x.1 := rfl
theorem z_goL_1 (x : z_LV) (c b : Int32) : (z_goL x c b).1 = x.1 := rfl
theorem z_phS_1 (x : z_LV) (i : Nat) : (z_phS x i).1 = x.1 := by
  unfold z_phS
  split <;> rfl
theorem z_ph_1 (x : z_LV) (n : Nat) : (z_fold z_phS x n).1 = x.1 := by
  induction n with
  | zero => rfl
  | succ n ih => exact (z_phS_1 _ n).trans ih
theorem z_bIf (b : Bool) : (if b = true then (1 : Int32) else 0) = 0 ↔ b = false := by cases b <;> decide
theorem z_five {P : Nat → Prop} (h0 : P 0) (h1 : P 1) (h2 : P 2) (h3 : P 3) (h4 : P 4) : ∀ j, j < 5 → P j := by
  intro j hj
  match j, hj with
  | 0, _ => exact h0
  | 1, _ => exact h1
  | 2, _ => exact h2
  | 3, _ => exact h3
  | 4, _ => exact h4
  | n + 5, hj => exact absurd hj (by omega)
theorem z_six {P : Nat → Prop} (h0 : P 0) (h1 : P 1) (h2 : P 2) (h3 : P 3) (h4 : P 4) (h5 : P 5) : ∀ j, j < 6 → P j := by
  intro j hj
  by_cases e : j = 5
  · subst e; exact h5
  · exact z_five h0 h1 h2 h3 h4 j (by omega)
section ZCl
variable {G : z_G} {h : z_H} {Q : z_O → z_H → Prop} {c : Nat} {x : z_LV}
theorem c_secondsBetween {a b : Int32} (q : Q (.inl (some (.int (z_sb a b)))) h) : z_W G 1 0 0 49 0 (z_L0 49 [.int a, .int b]) [] h Q := by
  refine z_iload_n rfl rfl ?_
  refine z_iload_n rfl rfl ?_
  refine z_isub rfl ?_
  refine z_callS (av := [_]) rfl z_w320 rfl rfl rfl rfl (Nat.le_of_ble_eq_true rfl) (Nat.le_of_ble_eq_true rfl) (Nat.le_of_ble_eq_true rfl) (Nat.le_of_ble_eq_true rfl) (c_abs ?_)
  refine z_istore_n rfl (by decide +kernel) rfl ?_
  refine z_iload_n rfl rfl ?_
  refine z_bipush (v := 60) rfl (by decide) ?_
  refine z_iload_n rfl rfl ?_
  refine z_isub rfl ?_
  refine z_callS (av := [_, _]) rfl z_w318 rfl rfl rfl rfl (Nat.le_of_ble_eq_true rfl) (Nat.le_of_ble_eq_true rfl) (Nat.le_of_ble_eq_true rfl) (Nat.le_of_ble_eq_true rfl) (c_min ?_)
  refine z_iret rfl rfl ?_
  exact q
theorem c_springFor {a : Int32} (q : Q (.inl (some (.int (a / 10 + 1)))) h) : z_W G 0 0 0 48 0 (z_L0 48 [.int a]) [] h Q := by
  refine z_iload_n rfl rfl ?_
  refine z_bipush (v := 10) rfl (by decide) ?_
  refine z_idiv rfl (by decide) ?_
  refine z_iconst (v := 1) rfl (by decide) ?_
  refine z_iadd rfl ?_
  refine z_iret rfl rfl ?_
  exact q
theorem c_isIn {s p : Int32} (q : Q (.inl (some (.int (if z_isIn s p = true then 1 else 0)))) h) : z_W G 0 0 0 159 0 (z_L0 159 [.int s, .int p]) [] h Q := by
  refine z_iload_n rfl rfl ?_
  refine z_iload_n rfl rfl ?_
  refine z_ishr rfl ?_
  refine z_iconst (v := 1) rfl (by decide) ?_
  refine z_iand rfl ?_
  refine z_if_eq rfl (fun c1 => ?_) (fun c1 => ?_)
  · refine z_iconst (v := 0) rfl (by decide) ?_
    refine z_zret (ty := .boolean) rfl rfl (by first | decide | exact z_nb _) ?_
    have e : z_isIn s p = false := by unfold z_isIn; simp only [c1]; rfl
    rw [e] at q; exact q
  · refine z_iconst (v := 1) rfl (by decide) ?_
    refine z_goto rfl ?_
    refine z_zret (ty := .boolean) rfl rfl (by first | decide | exact z_nb _) ?_
    have e : z_isIn s p = true := by unfold z_isIn; simp only [c1]; rfl
    rw [e] at q; exact q
theorem cC_count (hC : z_Cl h c x) (q : Q (.inl (some (.int (nI (x.1 0))))) h) : z_W G 1 0 0 27 0 (z_L0 27 [.ref c]) [] h Q := by
  refine z_aload_n rfl rfl ?_
  refine z_get rfl hC.1 rfl ?_
  refine z_callV (av := []) rfl z_w1 (hC.2 0 (by decide)).1 rfl rfl rfl rfl rfl (Nat.le_of_ble_eq_true rfl) (Nat.le_of_ble_eq_true rfl) (Nat.le_of_ble_eq_true rfl) (Nat.le_of_ble_eq_true rfl) (cs_count (hC.2 0 (by decide)) ?_)
  refine z_iret rfl rfl ?_
  exact q
theorem cC_has {p : Int32} (hC : z_Cl h c x) (q : Q (.inl (some (.int (if z_has p (x.1 0) then 1 else 0)))) h) : z_W G 1 0 0 28 0 (z_L0 28 [.ref c, .int p]) [] h Q := by
  refine z_aload_n rfl rfl ?_
  refine z_get rfl hC.1 rfl ?_
  refine z_iload_n rfl rfl ?_
  refine z_callV (av := [_]) rfl z_w2 (hC.2 0 (by decide)).1 rfl rfl rfl rfl rfl (Nat.le_of_ble_eq_true rfl) (Nat.le_of_ble_eq_true rfl) (Nat.le_of_ble_eq_true rfl) (Nat.le_of_ble_eq_true rfl) (cs_has (hC.2 0 (by decide)) ?_)
  refine z_zret (ty := .boolean) rfl rfl (by first | decide | exact z_nb _) ?_
  exact q
theorem cC_isSilent {p : Int32} (hC : z_Cl h c x) (q : Q (.inl (some (.int (if z_a x 1 p = 0 then 1 else 0)))) h) : z_W G 2 0 0 29 0 (z_L0 29 [.ref c, .int p]) [] h Q := by
  refine z_aload_n rfl rfl ?_
  refine z_get rfl hC.1 rfl ?_
  refine z_iload_n rfl rfl ?_
  refine z_callV (av := [_]) rfl z_w3 (hC.2 1 (by decide)).1 rfl rfl rfl rfl rfl (Nat.le_of_ble_eq_true rfl) (Nat.le_of_ble_eq_true rfl) (Nat.le_of_ble_eq_true rfl) (Nat.le_of_ble_eq_true rfl) (z_Li.at hC (j := 1) (by decide) ?_)
  refine z_if_ne rfl (fun c8 => ?_) (fun c8 => ?_)
  · refine z_iconst (v := 0) rfl (by decide) ?_
    refine z_zret (ty := .boolean) rfl rfl (by first | decide | exact z_nb _) ?_
    rw [if_neg (by exact c8)] at q; exact q
  · refine z_iconst (v := 1) rfl (by decide) ?_
    refine z_goto rfl ?_
    refine z_zret (ty := .boolean) rfl rfl (by first | decide | exact z_nb _) ?_
    rw [if_pos (by exact c8)] at q; exact q
theorem cC_difference {p r : Int32} (hC : z_Cl h c x) (q : Q (.inl (some (.int (z_sb (z_a x 0 p) (z_a x 0 r))))) h) : z_W G 2 0 0 30 0 (z_L0 30 [.ref c, .int p, .int r]) [] h Q := by
  refine z_aload_n rfl rfl ?_
  refine z_get rfl hC.1 rfl ?_
  refine z_iload_n rfl rfl ?_
  refine z_callV (av := [_]) rfl z_w3 (hC.2 0 (by decide)).1 rfl rfl rfl rfl rfl (Nat.le_of_ble_eq_true rfl) (Nat.le_of_ble_eq_true rfl) (Nat.le_of_ble_eq_true rfl) (Nat.le_of_ble_eq_true rfl) (z_Li.at hC (j := 0) (by decide) ?_)
  refine z_aload_n rfl rfl ?_
  refine z_get rfl hC.1 rfl ?_
  refine z_iload_n rfl rfl ?_
  refine z_callV (av := [_]) rfl z_w3 (hC.2 0 (by decide)).1 rfl rfl rfl rfl rfl (Nat.le_of_ble_eq_true rfl) (Nat.le_of_ble_eq_true rfl) (Nat.le_of_ble_eq_true rfl) (Nat.le_of_ble_eq_true rfl) (z_Li.at hC (j := 0) (by decide) ?_)
  refine z_callS (av := [_, _]) rfl z_w49 rfl rfl rfl rfl (Nat.le_of_ble_eq_true rfl) (Nat.le_of_ble_eq_true rfl) (Nat.le_of_ble_eq_true rfl) (Nat.le_of_ble_eq_true rfl) (c_secondsBetween ?_)
  refine z_iret rfl rfl ?_
  exact q
theorem cC_areAgreed {p r : Int32} (hC : z_Cl h c x) (q : Q (.inl (some (.int (if z_agr x p r = true then 1 else 0)))) h) : z_W G 3 0 0 31 0 (z_L0 31 [.ref c, .int p, .int r]) [] h Q := by
  refine z_aload_n rfl rfl ?_
  refine z_iload_n rfl rfl ?_
  refine z_iload_n rfl rfl ?_
  refine z_callV (av := [_, _]) rfl z_w30 hC.1 rfl rfl rfl rfl rfl (Nat.le_of_ble_eq_true rfl) (Nat.le_of_ble_eq_true rfl) (Nat.le_of_ble_eq_true rfl) (Nat.le_of_ble_eq_true rfl) (cC_difference hC ?_)
  refine z_iconst (v := 5) rfl (by decide) ?_
  refine z_icmp_gt rfl (fun c7 => ?_) (fun c7 => ?_)
  · refine z_iconst (v := 0) rfl (by decide) ?_
    refine z_zret (ty := .boolean) rfl rfl (by first | decide | exact z_nb _) ?_
    have e : z_agr x p r = false := by unfold z_agr; rw [← Int32.not_le] at c7; simpa using c7
    rw [e] at q; exact q
  · refine z_iconst (v := 1) rfl (by decide) ?_
    refine z_goto rfl ?_
    refine z_zret (ty := .boolean) rfl rfl (by first | decide | exact z_nb _) ?_
    have e : z_agr x p r = true := by unfold z_agr; rw [Int32.not_lt] at c7; simpa using c7
    rw [e] at q; exact q
theorem cC_wouldVote {p s : Int32} (hC : z_Cl h c x) (q : Q (.inl (some (.int (if z_wv x p s = true then 1 else 0)))) h) : z_W G 2 0 0 32 0 (z_L0 32 [.ref c, .int p, .int s]) [] h Q := by
  refine z_aload_n rfl rfl ?_
  refine z_get rfl hC.1 rfl ?_
  refine z_iload_n rfl rfl ?_
  refine z_callV (av := [_]) rfl z_w3 (hC.2 1 (by decide)).1 rfl rfl rfl rfl rfl (Nat.le_of_ble_eq_true rfl) (Nat.le_of_ble_eq_true rfl) (Nat.le_of_ble_eq_true rfl) (Nat.le_of_ble_eq_true rfl) (z_Li.at hC (j := 1) (by decide) ?_)
  refine z_if_le rfl (fun c8 => ?_) (fun c8 => ?_)
  · refine z_iconst (v := 0) rfl (by decide) ?_
    refine z_zret (ty := .boolean) rfl rfl (by first | decide | exact z_nb _) ?_
    have e : z_wv x p s = false := by unfold z_wv; rw [← Int32.not_lt] at c8; simp [c8]
    rw [e] at q; exact q
  · refine z_aload_n rfl rfl ?_
    refine z_get rfl hC.1 rfl ?_
    refine z_iload_n rfl rfl ?_
    refine z_callV (av := [_]) rfl z_w3 (hC.2 0 (by decide)).1 rfl rfl rfl rfl rfl (Nat.le_of_ble_eq_true rfl) (Nat.le_of_ble_eq_true rfl) (Nat.le_of_ble_eq_true rfl) (Nat.le_of_ble_eq_true rfl) (z_Li.at hC (j := 0) (by decide) ?_)
    refine z_iload_n rfl rfl ?_
    refine z_callS (av := [_, _]) rfl z_w49 rfl rfl rfl rfl (Nat.le_of_ble_eq_true rfl) (Nat.le_of_ble_eq_true rfl) (Nat.le_of_ble_eq_true rfl) (Nat.le_of_ble_eq_true rfl) (c_secondsBetween ?_)
    refine z_bipush (v := 20) rfl (by decide) ?_
    refine z_icmp_gt rfl (fun c25 => ?_) (fun c25 => ?_)
    · refine z_iconst (v := 0) rfl (by decide) ?_
      refine z_zret (ty := .boolean) rfl rfl (by first | decide | exact z_nb _) ?_
      have e : z_wv x p s = false := by unfold z_wv; rw [← Int32.not_le] at c25; simp [c25]
      rw [e] at q; exact q
    · refine z_iconst (v := 1) rfl (by decide) ?_
      refine z_goto rfl ?_
      refine z_zret (ty := .boolean) rfl rfl (by first | decide | exact z_nb _) ?_
      have e : z_wv x p s = true := by unfold z_wv; rw [Int32.not_lt] at c25; rw [Int32.not_le] at c8; simp [c25, c8]
      rw [e] at q; exact q
theorem cC_come {s l : Int32} (hC : z_Cl h c x) (hs : x.1 0 < 8 ∧ x.1 1 < 8 ∧ x.1 2 < 8 ∧ x.1 3 < 8) (q : ∀ h', z_Cl h' c (z_come x s l) → z_Fr c 11 h h' → Q (.inl (some (.int (nI (x.1 0))))) h') : z_W G 2 0 0 33 0 (z_L0 33 [.ref c, .int s, .int l]) [] h Q := by
  refine z_aload_n rfl rfl ?_
  refine z_get rfl hC.1 rfl ?_
  refine z_iload_n rfl rfl ?_
  refine z_callV (av := [_]) rfl z_w7 (hC.2 0 (by decide)).1 rfl rfl rfl rfl rfl (Nat.le_of_ble_eq_true rfl) (Nat.le_of_ble_eq_true rfl) (Nat.le_of_ble_eq_true rfl) (Nat.le_of_ble_eq_true rfl) (z_Li.add hC (j := 0) (by decide) hs.1 (fun h1 hC1 hF1 => ?_))
  refine z_aload_n rfl rfl ?_
  refine z_get rfl hC1.1 rfl ?_
  refine z_bipush (v := 24) rfl (by decide) ?_
  refine z_callV (av := [_]) rfl z_w7 (hC1.2 1 (by decide)).1 rfl rfl rfl rfl rfl (Nat.le_of_ble_eq_true rfl) (Nat.le_of_ble_eq_true rfl) (Nat.le_of_ble_eq_true rfl) (Nat.le_of_ble_eq_true rfl) (z_Li.add hC1 (j := 1) (by decide) (show x.1 1 < 8 from hs.2.1) (fun h2 hC2 hF2 => ?_))
  refine z_aload_n rfl rfl ?_
  refine z_get rfl hC2.1 rfl ?_
  refine z_iload_n rfl rfl ?_
  refine z_callV (av := [_]) rfl z_w7 (hC2.2 2 (by decide)).1 rfl rfl rfl rfl rfl (Nat.le_of_ble_eq_true rfl) (Nat.le_of_ble_eq_true rfl) (Nat.le_of_ble_eq_true rfl) (Nat.le_of_ble_eq_true rfl) (z_Li.add hC2 (j := 2) (by decide) (show x.1 2 < 8 from hs.2.2.1) (fun h3 hC3 hF3 => ?_))
  refine z_aload_n rfl rfl ?_
  refine z_get rfl hC3.1 rfl ?_
  refine z_iconst (v := 0) rfl (by decide) ?_
  refine z_callV (av := [_]) rfl z_w7 (hC3.2 3 (by decide)).1 rfl rfl rfl rfl rfl (Nat.le_of_ble_eq_true rfl) (Nat.le_of_ble_eq_true rfl) (Nat.le_of_ble_eq_true rfl) (Nat.le_of_ble_eq_true rfl) (z_Li.add hC3 (j := 3) (by decide) (show x.1 3 < 8 from hs.2.2.2) (fun h4 hC4 hF4 => ?_))
  refine z_aload_n rfl rfl ?_
  refine z_callV (av := []) rfl z_w27 hC4.1 rfl rfl rfl rfl rfl (Nat.le_of_ble_eq_true rfl) (Nat.le_of_ble_eq_true rfl) (Nat.le_of_ble_eq_true rfl) (Nat.le_of_ble_eq_true rfl) (cC_count hC4 ?_)
  refine z_iconst (v := 1) rfl (by decide) ?_
  refine z_isub rfl ?_
  rw [show nI ((z_addL (z_addL (z_addL (z_addL x 0 s) 1 24) 2 l) 3 0).1 0) - 1 = nI (x.1 0) from nI_pred _]
  refine z_iret rfl rfl ?_
  exact q _ hC4 (((hF1.trans hF2).trans hF3).trans hF4)
theorem cC_remove {p : Int32} (hC : z_Cl h c x) (q : ∀ h', z_Cl h' c (z_away x p) → z_Fr c 11 h h' → Q (.inl none) h') : z_W G 2 0 0 34 0 (z_L0 34 [.ref c, .int p]) [] h Q := by
  refine z_aload_n rfl rfl ?_
  refine z_get rfl hC.1 rfl ?_
  refine z_iload_n rfl rfl ?_
  refine z_callV (av := [_]) rfl z_w8 (hC.2 0 (by decide)).1 rfl rfl rfl rfl rfl (Nat.le_of_ble_eq_true rfl) (Nat.le_of_ble_eq_true rfl) (Nat.le_of_ble_eq_true rfl) (Nat.le_of_ble_eq_true rfl) (z_Li.removeAt hC (j := 0) (by decide) (fun h1 hC1 hF1 => ?_))
  refine z_aload_n rfl rfl ?_
  refine z_get rfl hC1.1 rfl ?_
  refine z_iload_n rfl rfl ?_
  refine z_callV (av := [_]) rfl z_w8 (hC1.2 1 (by decide)).1 rfl rfl rfl rfl rfl (Nat.le_of_ble_eq_true rfl) (Nat.le_of_ble_eq_true rfl) (Nat.le_of_ble_eq_true rfl) (Nat.le_of_ble_eq_true rfl) (z_Li.removeAt hC1 (j := 1) (by decide) (fun h2 hC2 hF2 => ?_))
  refine z_aload_n rfl rfl ?_
  refine z_get rfl hC2.1 rfl ?_
  refine z_iload_n rfl rfl ?_
  refine z_callV (av := [_]) rfl z_w8 (hC2.2 2 (by decide)).1 rfl rfl rfl rfl rfl (Nat.le_of_ble_eq_true rfl) (Nat.le_of_ble_eq_true rfl) (Nat.le_of_ble_eq_true rfl) (Nat.le_of_ble_eq_true rfl) (z_Li.removeAt hC2 (j := 2) (by decide) (fun h3 hC3 hF3 => ?_))
  refine z_aload_n rfl rfl ?_
  refine z_get rfl hC3.1 rfl ?_
  refine z_iload_n rfl rfl ?_
  refine z_callV (av := [_]) rfl z_w8 (hC3.2 3 (by decide)).1 rfl rfl rfl rfl rfl (Nat.le_of_ble_eq_true rfl) (Nat.le_of_ble_eq_true rfl) (Nat.le_of_ble_eq_true rfl) (Nat.le_of_ble_eq_true rfl) (z_Li.removeAt hC3 (j := 3) (by decide) (fun h4 hC4 hF4 => ?_))
  refine z_aload_n rfl rfl ?_
  refine z_get rfl hC4.1 rfl ?_
  refine z_iload_n rfl rfl ?_
  refine z_callV (av := [_]) rfl z_w9 (hC4.2 4 (by decide)).1 rfl rfl rfl rfl rfl (Nat.le_of_ble_eq_true rfl) (Nat.le_of_ble_eq_true rfl) (Nat.le_of_ble_eq_true rfl) (Nat.le_of_ble_eq_true rfl) (z_Li.forget hC4 (j := 4) (by decide) (fun h5 hC5 hF5 => ?_))
  refine z_vret rfl rfl ?_
  exact q _ hC5 ((((hF1.trans hF2).trans hF3).trans hF4).trans hF5)
theorem cC_giveKey {p v : Int32} (hC : z_Cl h c x) (q : ∀ h', z_Cl h' c (z_putL x 4 p v) → z_Fr c 11 h h' → Q (.inl (some (.int (z_a x 4 p)))) h') : z_W G 2 0 0 35 0 (z_L0 35 [.ref c, .int p, .int v]) [] h Q := by
  refine z_aload_n rfl rfl ?_
  refine z_get rfl hC.1 rfl ?_
  refine z_iload_n rfl rfl ?_
  refine z_callV (av := [_]) rfl z_w3 (hC.2 4 (by decide)).1 rfl rfl rfl rfl rfl (Nat.le_of_ble_eq_true rfl) (Nat.le_of_ble_eq_true rfl) (Nat.le_of_ble_eq_true rfl) (Nat.le_of_ble_eq_true rfl) (z_Li.at hC (j := 4) (by decide) ?_)
  refine z_istore_n rfl (by decide +kernel) rfl ?_
  refine z_aload_n rfl rfl ?_
  refine z_get rfl hC.1 rfl ?_
  refine z_iload_n rfl rfl ?_
  refine z_iload_n rfl rfl ?_
  refine z_callV (av := [_, _]) rfl z_w4 (hC.2 4 (by decide)).1 rfl rfl rfl rfl rfl (Nat.le_of_ble_eq_true rfl) (Nat.le_of_ble_eq_true rfl) (Nat.le_of_ble_eq_true rfl) (Nat.le_of_ble_eq_true rfl) (z_Li.put hC (j := 4) (by decide) (fun h1 hC1 hF1 => ?_))
  refine z_iload_n rfl rfl ?_
  refine z_iret rfl rfl ?_
  exact q _ hC1 hF1
theorem cC_windUp {p : Int32} (hC : z_Cl h c x) (q : ∀ h', z_Cl h' c (z_putL x 1 p 24) → z_Fr c 11 h h' → Q (.inl (some (.int (z_a x 1 p)))) h') : z_W G 2 0 0 36 0 (z_L0 36 [.ref c, .int p]) [] h Q := by
  refine z_aload_n rfl rfl ?_
  refine z_get rfl hC.1 rfl ?_
  refine z_iload_n rfl rfl ?_
  refine z_callV (av := [_]) rfl z_w3 (hC.2 1 (by decide)).1 rfl rfl rfl rfl rfl (Nat.le_of_ble_eq_true rfl) (Nat.le_of_ble_eq_true rfl) (Nat.le_of_ble_eq_true rfl) (Nat.le_of_ble_eq_true rfl) (z_Li.at hC (j := 1) (by decide) ?_)
  refine z_istore_n rfl (by decide +kernel) rfl ?_
  refine z_aload_n rfl rfl ?_
  refine z_get rfl hC.1 rfl ?_
  refine z_iload_n rfl rfl ?_
  refine z_bipush (v := 24) rfl (by decide) ?_
  refine z_callV (av := [_, _]) rfl z_w4 (hC.2 1 (by decide)).1 rfl rfl rfl rfl rfl (Nat.le_of_ble_eq_true rfl) (Nat.le_of_ble_eq_true rfl) (Nat.le_of_ble_eq_true rfl) (Nat.le_of_ble_eq_true rfl) (z_Li.put hC (j := 1) (by decide) (fun h1 hC1 hF1 => ?_))
  refine z_iload_n rfl rfl ?_
  refine z_iret rfl rfl ?_
  exact q _ hC1 hF1
theorem cC_goOn {p b : Int32} (hC : z_Cl h c x) (q : ∀ h', z_Cl h' c (z_goL x p b) → z_Fr c 11 h h' → Q (.inl none) h') : z_W G 2 0 0 40 0 (z_L0 40 [.ref c, .int p, .int b]) [] h Q := by
  refine z_aload_n rfl rfl ?_
  refine z_get rfl hC.1 rfl ?_
  refine z_iload_n rfl rfl ?_
  refine z_aload_n rfl rfl ?_
  refine z_get rfl hC.1 rfl ?_
  refine z_iload_n rfl rfl ?_
  refine z_callV (av := [_]) rfl z_w3 (hC.2 0 (by decide)).1 rfl rfl rfl rfl rfl (Nat.le_of_ble_eq_true rfl) (Nat.le_of_ble_eq_true rfl) (Nat.le_of_ble_eq_true rfl) (Nat.le_of_ble_eq_true rfl) (z_Li.at hC (j := 0) (by decide) ?_)
  refine z_iload_n rfl rfl ?_
  refine z_iadd rfl ?_
  refine z_bipush (v := 60) rfl (by decide) ?_
  refine z_irem rfl (by decide) ?_
  refine z_callV (av := [_, _]) rfl z_w4 (hC.2 0 (by decide)).1 rfl rfl rfl rfl rfl (Nat.le_of_ble_eq_true rfl) (Nat.le_of_ble_eq_true rfl) (Nat.le_of_ble_eq_true rfl) (Nat.le_of_ble_eq_true rfl) (z_Li.put hC (j := 0) (by decide) (fun h1 hC1 hF1 => ?_))
  refine z_vret rfl rfl ?_
  exact q _ hC1 hF1
theorem cC_moveOn {p b : Int32} (hC : z_Cl h c x) (q : ∀ h', z_Cl h' c (z_moL x p b) → z_Fr c 11 h h' → Q (.inl (some (.int (z_a (z_moL x p b) 0 p)))) h') : z_W G 3 0 0 37 0 (z_L0 37 [.ref c, .int p, .int b]) [] h Q := by
  refine z_aload_n rfl rfl ?_
  refine z_get rfl hC.1 rfl ?_
  refine z_iload_n rfl rfl ?_
  refine z_iload_n rfl rfl ?_
  refine z_callS (av := [_]) rfl z_w48 rfl rfl rfl rfl (Nat.le_of_ble_eq_true rfl) (Nat.le_of_ble_eq_true rfl) (Nat.le_of_ble_eq_true rfl) (Nat.le_of_ble_eq_true rfl) (c_springFor ?_)
  refine z_ineg rfl ?_
  refine z_callV (av := [_, _]) rfl z_w5 (hC.2 1 (by decide)).1 rfl rfl rfl rfl rfl (Nat.le_of_ble_eq_true rfl) (Nat.le_of_ble_eq_true rfl) (Nat.le_of_ble_eq_true rfl) (Nat.le_of_ble_eq_true rfl) (z_Li.addTo hC (j := 1) (by decide) (fun h1 hC1 hF1 => ?_))
  refine z_aload_n rfl rfl ?_
  refine z_iload_n rfl rfl ?_
  refine z_iload_n rfl rfl ?_
  refine z_callV (av := [_, _]) rfl z_w40 hC1.1 rfl rfl rfl rfl rfl (Nat.le_of_ble_eq_true rfl) (Nat.le_of_ble_eq_true rfl) (Nat.le_of_ble_eq_true rfl) (Nat.le_of_ble_eq_true rfl) (cC_goOn hC1 (fun h2 hC2 hF2 => ?_))
  refine z_aload_n rfl rfl ?_
  refine z_get rfl hC2.1 rfl ?_
  refine z_iload_n rfl rfl ?_
  refine z_callV (av := [_]) rfl z_w3 (hC2.2 0 (by decide)).1 rfl rfl rfl rfl rfl (Nat.le_of_ble_eq_true rfl) (Nat.le_of_ble_eq_true rfl) (Nat.le_of_ble_eq_true rfl) (Nat.le_of_ble_eq_true rfl) (z_Li.at hC2 (j := 0) (by decide) ?_)
  refine z_iret rfl rfl ?_
  exact q _ hC2 (hF1.trans hF2)
theorem cC_giveVote {p : Int32} (hC : z_Cl h c x) (q : ∀ h', z_Cl h' c (z_gvL x p) → z_Fr c 11 h h' → Q (.inl none) h') : z_W G 3 0 0 38 0 (z_L0 38 [.ref c, .int p]) [] h Q := by
  refine z_aload_n rfl rfl ?_
  refine z_get rfl hC.1 rfl ?_
  refine z_iload_n rfl rfl ?_
  refine z_iconst (v := (-1)) rfl (by decide) ?_
  refine z_callV (av := [_, _]) rfl z_w5 (hC.2 1 (by decide)).1 rfl rfl rfl rfl rfl (Nat.le_of_ble_eq_true rfl) (Nat.le_of_ble_eq_true rfl) (Nat.le_of_ble_eq_true rfl) (Nat.le_of_ble_eq_true rfl) (z_Li.addTo hC (j := 1) (by decide) (fun h1 hC1 hF1 => ?_))
  refine z_aload_n rfl rfl ?_
  refine z_get rfl hC1.1 rfl ?_
  refine z_iload_n rfl rfl ?_
  refine z_iconst (v := 1) rfl (by decide) ?_
  refine z_callV (av := [_, _]) rfl z_w5 (hC1.2 3 (by decide)).1 rfl rfl rfl rfl rfl (Nat.le_of_ble_eq_true rfl) (Nat.le_of_ble_eq_true rfl) (Nat.le_of_ble_eq_true rfl) (Nat.le_of_ble_eq_true rfl) (z_Li.addTo hC1 (j := 3) (by decide) (fun h2 hC2 hF2 => ?_))
  refine z_vret rfl rfl ?_
  exact q _ hC2 (hF1.trans hF2)
theorem cC_passHour (hC : z_Cl h c x) (q : ∀ h', z_Cl h' c (z_fold z_phS x (x.1 0)) → z_Fr c 11 h h' → Q (.inl none) h') : z_W G 3 0 0 39 0 (z_L0 39 [.ref c]) [] h Q := by
  have hn : x.1 0 ≤ 8 := (hC.2 0 (by decide)).fits.1
  have loop : ∀ (k i : Nat) (hh : z_H), i + k = x.1 0 → z_Cl hh c (z_fold z_phS x i) → z_Fr c 11 h hh → z_W G 3 0 0 39 2 [.ref c, .int (nI i)] [] hh Q := by
    intro k
    induction k with
    | zero =>
      intro i hh hi hD hF
      have e1 : (z_fold z_phS x i).1 0 = x.1 0 := by rw [z_ph_1]
      refine z_iload_n rfl rfl ?_
      refine z_aload_n rfl rfl ?_
      refine z_callV (av := []) rfl z_w27 hD.1 rfl rfl rfl rfl rfl (Nat.le_of_ble_eq_true rfl) (Nat.le_of_ble_eq_true rfl) (Nat.le_of_ble_eq_true rfl) (Nat.le_of_ble_eq_true rfl) (cC_count hD ?_)
      rw [e1]
      refine z_icmp_ge rfl (fun c7 => ?_) (fun c7 => absurd (show nI (x.1 0) ≤ nI i from (nI_leI (by omega) (by omega)).mpr (by omega)) c7)
      refine z_vret rfl rfl ?_
      rw [show i = x.1 0 by omega] at hD; exact q _ hD hF
    | succ k ih =>
      intro i hh hi hD hF
      have e1 : (z_fold z_phS x i).1 0 = x.1 0 := by rw [z_ph_1]
      refine z_iload_n rfl rfl ?_
      refine z_aload_n rfl rfl ?_
      refine z_callV (av := []) rfl z_w27 hD.1 rfl rfl rfl rfl rfl (Nat.le_of_ble_eq_true rfl) (Nat.le_of_ble_eq_true rfl) (Nat.le_of_ble_eq_true rfl) (Nat.le_of_ble_eq_true rfl) (cC_count hD ?_)
      rw [e1]
      refine z_icmp_ge rfl (fun c7 => absurd c7 (show ¬ nI (x.1 0) ≤ nI i from fun q9 => absurd ((nI_leI (by omega) (by omega)).mp q9) (by omega))) (fun c7 => ?_)
      refine z_aload_n rfl rfl ?_
      refine z_iload_n rfl rfl ?_
      refine z_callV (av := [_]) rfl z_w29 hD.1 rfl rfl rfl rfl rfl (Nat.le_of_ble_eq_true rfl) (Nat.le_of_ble_eq_true rfl) (Nat.le_of_ble_eq_true rfl) (Nat.le_of_ble_eq_true rfl) (cC_isSilent hD ?_)
      refine z_if_ne rfl (fun c1 => ?_) (fun c1 => ?_)
      · refine z_iinc1 rfl rfl (by decide +kernel) rfl ?_
        refine z_goto rfl (ih (i + 1) _ (by omega) ?_ hF)
        have e : z_fold z_phS x (i + 1) = z_fold z_phS x i := if_pos (by by_cases e3 : z_a (z_fold z_phS x i) 1 (nI i) = 0; exact e3; rw [if_neg e3] at c1; exact absurd rfl c1)
        rw [e]; exact hD
      · refine z_aload_n rfl rfl ?_
        refine z_get rfl hD.1 rfl ?_
        refine z_iload_n rfl rfl ?_
        refine z_iconst (v := (-1)) rfl (by decide) ?_
        refine z_callV (av := [_, _]) rfl z_w5 (hD.2 1 (by decide)).1 rfl rfl rfl rfl rfl (Nat.le_of_ble_eq_true rfl) (Nat.le_of_ble_eq_true rfl) (Nat.le_of_ble_eq_true rfl) (Nat.le_of_ble_eq_true rfl) (z_Li.addTo hD (j := 1) (by decide) (fun h1 hC1 hF1 => ?_))
        refine z_aload_n rfl rfl ?_
        refine z_iload_n rfl rfl ?_
        refine z_aload_n rfl rfl ?_
        refine z_iload_n rfl rfl ?_
        refine z_callV (av := [_]) rfl z_w29 hC1.1 rfl rfl rfl rfl rfl (Nat.le_of_ble_eq_true rfl) (Nat.le_of_ble_eq_true rfl) (Nat.le_of_ble_eq_true rfl) (Nat.le_of_ble_eq_true rfl) (cC_isSilent hC1 ?_)
        refine z_if_eq rfl (fun c2 => ?_) (fun c2 => ?_)
        · refine z_iconst (v := 1) rfl (by decide) ?_
          refine z_callV (av := [_, _]) rfl z_w40 hC1.1 rfl rfl rfl rfl rfl (Nat.le_of_ble_eq_true rfl) (Nat.le_of_ble_eq_true rfl) (Nat.le_of_ble_eq_true rfl) (Nat.le_of_ble_eq_true rfl) (cC_goOn hC1 (fun h2 hC2 hF2 => ?_))
          refine z_iinc1 rfl rfl (by decide +kernel) rfl ?_
          refine z_goto rfl (ih (i + 1) _ (by omega) ?_ (hF.trans (hF1.trans hF2)))
          have e3 : ¬ z_a (z_fold z_phS x i) 1 (nI i) = 0 := fun e3 => by rw [if_pos e3] at c1; exact absurd c1 (by decide)
          have e4 : ¬ z_a (z_dnL (z_fold z_phS x i) (nI i)) 1 (nI i) = 0 := fun e3 => by
            unfold z_dnL z_putL at e3
            rw [if_pos e3] at c2; exact absurd c2 (by decide)
          have e : z_fold z_phS x (i + 1) = z_goL (z_dnL (z_fold z_phS x i) (nI i)) (nI i) 1 := (if_neg e3).trans (by rw [if_neg e4])
          rw [e]; exact hC2
        · refine z_iconst (v := 0) rfl (by decide) ?_
          refine z_goto rfl ?_
          refine z_callV (av := [_, _]) rfl z_w40 hC1.1 rfl rfl rfl rfl rfl (Nat.le_of_ble_eq_true rfl) (Nat.le_of_ble_eq_true rfl) (Nat.le_of_ble_eq_true rfl) (Nat.le_of_ble_eq_true rfl) (cC_goOn hC1 (fun h2 hC2 hF2 => ?_))
          refine z_iinc1 rfl rfl (by decide +kernel) rfl ?_
          refine z_goto rfl (ih (i + 1) _ (by omega) ?_ (hF.trans (hF1.trans hF2)))
          have e3 : ¬ z_a (z_fold z_phS x i) 1 (nI i) = 0 := fun e3 => by rw [if_pos e3] at c1; exact absurd c1 (by decide)
          have e4 : z_a (z_dnL (z_fold z_phS x i) (nI i)) 1 (nI i) = 0 := by
            unfold z_dnL z_putL
            exact Decidable.byContradiction fun e5 => by rw [if_neg e5] at c2; exact absurd rfl c2
          have e : z_fold z_phS x (i + 1) = z_goL (z_dnL (z_fold z_phS x i) (nI i)) (nI i) 0 := (if_neg e3).trans (by rw [if_pos e4])
          rw [e]; exact hC2
  refine z_iconst (v := nI 0) rfl (by decide) ?_
  refine z_istore_n rfl (by decide +kernel) rfl ?_
  exact loop (x.1 0) 0 h (by omega) hC (z_Fr.refl _ _ _)
theorem cC_agreeingWith {p : Int32} (hC : z_Cl h c x) (q : Q (.inl (some (.int (z_agw x p)))) h) : z_W G 4 0 0 41 0 (z_L0 41 [.ref c, .int p]) [] h Q := by
  have hn : x.1 0 ≤ 8 := (hC.2 0 (by decide)).fits.1
  have loop : ∀ (k i : Nat) (s : Int32), i + k = x.1 0 → s = z_bits (fun i => decide (¬ nI i = p) && z_agr x p (nI i)) i → z_W G 4 0 0 41 4 [.ref c, .int p, .int s, .int (nI i)] [] h Q := by
    intro k
    induction k with
    | zero =>
      intro i s hi hs
      refine z_iload_n rfl rfl ?_
      refine z_aload_n rfl rfl ?_
      refine z_callV (av := []) rfl z_w27 hC.1 rfl rfl rfl rfl rfl (Nat.le_of_ble_eq_true rfl) (Nat.le_of_ble_eq_true rfl) (Nat.le_of_ble_eq_true rfl) (Nat.le_of_ble_eq_true rfl) (cC_count hC ?_)
      refine z_icmp_ge rfl (fun c9 => ?_) (fun c9 => absurd (show nI (x.1 0) ≤ nI i from (nI_leI (by omega) (by omega)).mpr (by omega)) c9)
      refine z_iload_n rfl rfl ?_
      refine z_iret rfl rfl ?_
      subst hs; rw [show i = x.1 0 by omega]; exact q
    | succ k ih =>
      intro i s hi hs
      refine z_iload_n rfl rfl ?_
      refine z_aload_n rfl rfl ?_
      refine z_callV (av := []) rfl z_w27 hC.1 rfl rfl rfl rfl rfl (Nat.le_of_ble_eq_true rfl) (Nat.le_of_ble_eq_true rfl) (Nat.le_of_ble_eq_true rfl) (Nat.le_of_ble_eq_true rfl) (cC_count hC ?_)
      refine z_icmp_ge rfl (fun c9 => absurd c9 (show ¬ nI (x.1 0) ≤ nI i from fun q9 => absurd ((nI_leI (by omega) (by omega)).mp q9) (by omega))) (fun c9 => ?_)
      refine z_iload_n rfl rfl ?_
      refine z_iload_n rfl rfl ?_
      refine z_icmp_eq rfl (fun c14 => ?_) (fun c14 => ?_)
      · refine z_iinc1 rfl rfl (by decide +kernel) rfl ?_
        exact z_goto rfl (ih (i + 1) _ (by omega) (by subst hs; exact (if_neg (by simp [c14])).symm))
      · refine z_aload_n rfl rfl ?_
        refine z_iload_n rfl rfl ?_
        refine z_iload_n rfl rfl ?_
        refine z_callV (av := [_, _]) rfl z_w31 hC.1 rfl rfl rfl rfl rfl (Nat.le_of_ble_eq_true rfl) (Nat.le_of_ble_eq_true rfl) (Nat.le_of_ble_eq_true rfl) (Nat.le_of_ble_eq_true rfl) (cC_areAgreed hC ?_)
        refine z_if_eq rfl (fun c23 => ?_) (fun c23 => ?_)
        · refine z_iinc1 rfl rfl (by decide +kernel) rfl ?_
          exact z_goto rfl (ih (i + 1) _ (by omega) (by subst hs; exact (if_neg (by simp [(z_bI _).mp c23])).symm))
        · refine z_iload_n rfl rfl ?_
          refine z_iconst (v := 1) rfl (by decide) ?_
          refine z_iload_n rfl rfl ?_
          refine z_ishl rfl ?_
          refine z_ior rfl ?_
          refine z_istore_n rfl (by decide +kernel) rfl ?_
          refine z_iinc1 rfl rfl (by decide +kernel) rfl ?_
          exact z_goto rfl (ih (i + 1) _ (by omega) (by subst hs; exact (if_pos (by simp [c14, show z_agr x p (nI i) = true from by simpa [z_bI] using c23])).symm))
  refine z_iconst (v := 0) rfl (by decide) ?_
  refine z_istore_n rfl (by decide +kernel) rfl ?_
  refine z_iconst (v := nI 0) rfl (by decide) ?_
  refine z_istore_n rfl (by decide +kernel) rfl ?_
  exact loop (x.1 0) 0 0 (by omega) rfl
theorem cC_reachedFrom {p : Int32} (hC : z_Cl h c x) (q : Q (.inl (some (.int (z_rcd x p)))) h) : z_W G 5 0 0 42 0 (z_L0 42 [.ref c, .int p]) [] h Q := by
  have hn : x.1 0 ≤ 8 := (hC.2 0 (by decide)).fits.1
  have loop2 : ∀ (r : Nat) (s0 : Int32), (z_W G 5 0 0 42 50 [.ref c, .int p, .int (z_rch x s0), .int (nI r), .int (nI (x.1 0))] [] h Q) → ∀ (k i : Nat) (s : Int32), i + k = x.1 0 → s = z_fold (fun s o => if z_isIn s (nI o) = true then s ||| z_agw x (nI o) else s) s0 i → z_W G 5 0 0 42 17 [.ref c, .int p, .int s, .int (nI r), .int (nI i)] [] h Q := by
    intro r s0 w k
    induction k with
    | zero =>
      intro i s hi hs
      refine z_iload rfl rfl ?_
      refine z_aload_n rfl rfl ?_
      refine z_callV (av := []) rfl z_w27 hC.1 rfl rfl rfl rfl rfl (Nat.le_of_ble_eq_true rfl) (Nat.le_of_ble_eq_true rfl) (Nat.le_of_ble_eq_true rfl) (Nat.le_of_ble_eq_true rfl) (cC_count hC ?_)
      refine z_icmp_ge rfl (fun c23 => ?_) (fun c23 => absurd (show nI (x.1 0) ≤ nI i from (nI_leI (by omega) (by omega)).mpr (by omega)) c23)
      subst hs; rw [show i = x.1 0 by omega]; exact w
    | succ k ih =>
      intro i s hi hs
      refine z_iload rfl rfl ?_
      refine z_aload_n rfl rfl ?_
      refine z_callV (av := []) rfl z_w27 hC.1 rfl rfl rfl rfl rfl (Nat.le_of_ble_eq_true rfl) (Nat.le_of_ble_eq_true rfl) (Nat.le_of_ble_eq_true rfl) (Nat.le_of_ble_eq_true rfl) (cC_count hC ?_)
      refine z_icmp_ge rfl (fun c23 => absurd c23 (show ¬ nI (x.1 0) ≤ nI i from fun q9 => absurd ((nI_leI (by omega) (by omega)).mp q9) (by omega))) (fun c23 => ?_)
      refine z_iload_n rfl rfl ?_
      refine z_iload rfl rfl ?_
      refine z_callSN (av := [_, _]) rfl z_w159 rfl rfl rfl rfl (Nat.le_of_ble_eq_true rfl) (Nat.le_of_ble_eq_true rfl) (Nat.le_of_ble_eq_true rfl) (Nat.le_of_ble_eq_true rfl) (c_isIn ?_)
      refine z_if_eq rfl (fun c32 => ?_) (fun c32 => ?_)
      · refine z_iinc1 rfl rfl (by decide +kernel) rfl ?_
        exact z_goto rfl (ih (i + 1) _ (by omega) (by subst hs; exact (if_neg (by rw [(z_bI _).mp c32]; decide)).symm))
      · refine z_iload_n rfl rfl ?_
        refine z_aload_n rfl rfl ?_
        refine z_iload rfl rfl ?_
        refine z_callV (av := [_]) rfl z_w41 hC.1 rfl rfl rfl rfl rfl (Nat.le_of_ble_eq_true rfl) (Nat.le_of_ble_eq_true rfl) (Nat.le_of_ble_eq_true rfl) (Nat.le_of_ble_eq_true rfl) (cC_agreeingWith hC ?_)
        refine z_ior rfl ?_
        refine z_istore_n rfl (by decide +kernel) rfl ?_
        refine z_iinc1 rfl rfl (by decide +kernel) rfl ?_
        exact z_goto rfl (ih (i + 1) _ (by omega) (by subst hs; exact (if_pos (by simpa [z_bI] using c32)).symm))
  have loop : ∀ (k i : Nat) (s : Int32) (L4 : Value), i + k = x.1 0 → s = z_fold (fun s _ => z_rch x s) (1 <<< (p &&& 31)) i → z_W G 5 0 0 42 6 [.ref c, .int p, .int s, .int (nI i), L4] [] h Q := by
    intro k
    induction k with
    | zero =>
      intro i s L4 hi hs
      refine z_iload_n rfl rfl ?_
      refine z_aload_n rfl rfl ?_
      refine z_callV (av := []) rfl z_w27 hC.1 rfl rfl rfl rfl rfl (Nat.le_of_ble_eq_true rfl) (Nat.le_of_ble_eq_true rfl) (Nat.le_of_ble_eq_true rfl) (Nat.le_of_ble_eq_true rfl) (cC_count hC ?_)
      refine z_icmp_ge rfl (fun c11 => ?_) (fun c11 => absurd (show nI (x.1 0) ≤ nI i from (nI_leI (by omega) (by omega)).mpr (by omega)) c11)
      refine z_iload_n rfl rfl ?_
      refine z_iret rfl rfl ?_
      subst hs; rw [show i = x.1 0 by omega]; exact q
    | succ k ih =>
      intro i s L4 hi hs
      refine z_iload_n rfl rfl ?_
      refine z_aload_n rfl rfl ?_
      refine z_callV (av := []) rfl z_w27 hC.1 rfl rfl rfl rfl rfl (Nat.le_of_ble_eq_true rfl) (Nat.le_of_ble_eq_true rfl) (Nat.le_of_ble_eq_true rfl) (Nat.le_of_ble_eq_true rfl) (cC_count hC ?_)
      refine z_icmp_ge rfl (fun c11 => absurd c11 (show ¬ nI (x.1 0) ≤ nI i from fun q9 => absurd ((nI_leI (by omega) (by omega)).mp q9) (by omega))) (fun c11 => ?_)
      refine z_iconst (v := nI 0) rfl (by decide) ?_
      refine z_istore rfl (by decide +kernel) rfl ?_
      refine loop2 i s ?_ (x.1 0) 0 s (by omega) rfl
      refine z_iinc1 rfl rfl (by decide +kernel) rfl ?_
      exact z_goto rfl (ih (i + 1) _ _ (by omega) (by subst hs; rfl))
  refine z_iconst (v := 1) rfl (by decide) ?_
  refine z_iload_n rfl rfl ?_
  refine z_ishl rfl ?_
  refine z_istore_n rfl (by decide +kernel) rfl ?_
  refine z_iconst (v := nI 0) rfl (by decide) ?_
  refine z_istore_n rfl (by decide +kernel) rfl ?_
  exact loop (x.1 0) 0 _ _ (by omega) rfl
theorem cC_weakestOfAll (hC : z_Cl h c x) (q : Q (.inl (some (.int (z_wk x)))) h) : z_W G 2 0 0 43 0 (z_L0 43 [.ref c]) [] h Q := by
  have hn : x.1 0 ≤ 8 := (hC.2 0 (by decide)).fits.1
  have loop : ∀ (k i : Nat) (s : Int32), i + k = x.1 0 - 1 → s = z_fold (fun w i => if z_a x 1 (nI (i + 1)) < z_a x 1 w then nI (i + 1) else w) 0 i → z_W G 2 0 0 43 4 [.ref c, .int s, .int (nI (i + 1))] [] h Q := by
    intro k
    induction k with
    | zero =>
      intro i s hi hs
      refine z_iload_n rfl rfl ?_
      refine z_aload_n rfl rfl ?_
      refine z_callV (av := []) rfl z_w27 hC.1 rfl rfl rfl rfl rfl (Nat.le_of_ble_eq_true rfl) (Nat.le_of_ble_eq_true rfl) (Nat.le_of_ble_eq_true rfl) (Nat.le_of_ble_eq_true rfl) (cC_count hC ?_)
      refine z_icmp_ge rfl (fun c9 => ?_) (fun c9 => absurd (show nI (x.1 0) ≤ nI (i + 1) from (nI_leI (by omega) (by omega)).mpr (by omega)) c9)
      refine z_iload_n rfl rfl ?_
      refine z_iret rfl rfl ?_
      subst hs; rw [show i = x.1 0 - 1 by omega]; exact q
    | succ k ih =>
      intro i s hi hs
      refine z_iload_n rfl rfl ?_
      refine z_aload_n rfl rfl ?_
      refine z_callV (av := []) rfl z_w27 hC.1 rfl rfl rfl rfl rfl (Nat.le_of_ble_eq_true rfl) (Nat.le_of_ble_eq_true rfl) (Nat.le_of_ble_eq_true rfl) (Nat.le_of_ble_eq_true rfl) (cC_count hC ?_)
      refine z_icmp_ge rfl (fun c9 => absurd c9 (show ¬ nI (x.1 0) ≤ nI (i + 1) from fun q9 => absurd ((nI_leI (by omega) (by omega)).mp q9) (by omega))) (fun c9 => ?_)
      refine z_aload_n rfl rfl ?_
      refine z_get rfl hC.1 rfl ?_
      refine z_iload_n rfl rfl ?_
      refine z_callV (av := [_]) rfl z_w3 (hC.2 1 (by decide)).1 rfl rfl rfl rfl rfl (Nat.le_of_ble_eq_true rfl) (Nat.le_of_ble_eq_true rfl) (Nat.le_of_ble_eq_true rfl) (Nat.le_of_ble_eq_true rfl) (z_Li.at hC (j := 1) (by decide) ?_)
      refine z_aload_n rfl rfl ?_
      refine z_get rfl hC.1 rfl ?_
      refine z_iload_n rfl rfl ?_
      refine z_callV (av := [_]) rfl z_w3 (hC.2 1 (by decide)).1 rfl rfl rfl rfl rfl (Nat.le_of_ble_eq_true rfl) (Nat.le_of_ble_eq_true rfl) (Nat.le_of_ble_eq_true rfl) (Nat.le_of_ble_eq_true rfl) (z_Li.at hC (j := 1) (by decide) ?_)
      refine z_icmp_ge rfl (fun c28 => ?_) (fun c28 => ?_)
      · refine z_iinc1 rfl rfl (by decide +kernel) rfl ?_
        exact z_goto rfl (ih (i + 1) _ (by omega) (by subst hs; exact (if_neg (Int32.not_lt.mpr c28)).symm))
      · refine z_iload_n rfl rfl ?_
        refine z_istore_n rfl (by decide +kernel) rfl ?_
        refine z_iinc1 rfl rfl (by decide +kernel) rfl ?_
        exact z_goto rfl (ih (i + 1) _ (by omega) (by subst hs; exact (if_pos (Int32.not_le.mp c28)).symm))
  refine z_iconst (v := 0) rfl (by decide) ?_
  refine z_istore_n rfl (by decide +kernel) rfl ?_
  refine z_iconst (v := nI (0 + 1)) rfl (by decide) ?_
  refine z_istore_n rfl (by decide +kernel) rfl ?_
  exact loop (x.1 0 - 1) 0 0 (by omega) rfl
theorem cC_copyFrom {o : Nat} {y : z_LV} (hC : z_Cl h c x) (hO : z_Cl h o y) (hd : o + 11 ≤ c ∨ c + 11 ≤ o) (q : ∀ h', z_Cl h' c y → z_Fr c 11 h h' → Q (.inl none) h') : z_W G 1 0 0 47 0 (z_L0 47 [.ref c, .ref o]) [] h Q := by
  refine z_aload_n rfl rfl ?_
  refine z_get rfl hC.1 rfl ?_
  refine z_aload_n rfl rfl ?_
  refine z_get rfl hO.1 rfl ?_
  refine z_callV (av := [_]) rfl z_w13 (hC.2 0 (by decide)).1 rfl rfl rfl rfl rfl (Nat.le_of_ble_eq_true rfl) (Nat.le_of_ble_eq_true rfl) (Nat.le_of_ble_eq_true rfl) (Nat.le_of_ble_eq_true rfl) (z_Li.copy hC (j := 0) (by decide) (hO.2 0 (by decide)) (by omega) (hO.2 0 (by decide)).fits.1 (fun h1 hC1 hF1 => ?_))
  have kO1 := hO.kept hF1 (by omega)
  refine z_aload_n rfl rfl ?_
  refine z_get rfl hC1.1 rfl ?_
  refine z_aload_n rfl rfl ?_
  refine z_get rfl kO1.1 rfl ?_
  refine z_callV (av := [_]) rfl z_w13 (hC1.2 1 (by decide)).1 rfl rfl rfl rfl rfl (Nat.le_of_ble_eq_true rfl) (Nat.le_of_ble_eq_true rfl) (Nat.le_of_ble_eq_true rfl) (Nat.le_of_ble_eq_true rfl) (z_Li.copy hC1 (j := 1) (by decide) (kO1.2 1 (by decide)) (by omega) (kO1.2 1 (by decide)).fits.1 (fun h2 hC2 hF2 => ?_))
  have kO2 := kO1.kept hF2 (by omega)
  refine z_aload_n rfl rfl ?_
  refine z_get rfl hC2.1 rfl ?_
  refine z_aload_n rfl rfl ?_
  refine z_get rfl kO2.1 rfl ?_
  refine z_callV (av := [_]) rfl z_w13 (hC2.2 2 (by decide)).1 rfl rfl rfl rfl rfl (Nat.le_of_ble_eq_true rfl) (Nat.le_of_ble_eq_true rfl) (Nat.le_of_ble_eq_true rfl) (Nat.le_of_ble_eq_true rfl) (z_Li.copy hC2 (j := 2) (by decide) (kO2.2 2 (by decide)) (by omega) (kO2.2 2 (by decide)).fits.1 (fun h3 hC3 hF3 => ?_))
  have kO3 := kO2.kept hF3 (by omega)
  refine z_aload_n rfl rfl ?_
  refine z_get rfl hC3.1 rfl ?_
  refine z_aload_n rfl rfl ?_
  refine z_get rfl kO3.1 rfl ?_
  refine z_callV (av := [_]) rfl z_w13 (hC3.2 3 (by decide)).1 rfl rfl rfl rfl rfl (Nat.le_of_ble_eq_true rfl) (Nat.le_of_ble_eq_true rfl) (Nat.le_of_ble_eq_true rfl) (Nat.le_of_ble_eq_true rfl) (z_Li.copy hC3 (j := 3) (by decide) (kO3.2 3 (by decide)) (by omega) (kO3.2 3 (by decide)).fits.1 (fun h4 hC4 hF4 => ?_))
  have kO4 := kO3.kept hF4 (by omega)
  refine z_aload_n rfl rfl ?_
  refine z_get rfl hC4.1 rfl ?_
  refine z_aload_n rfl rfl ?_
  refine z_get rfl kO4.1 rfl ?_
  refine z_callV (av := [_]) rfl z_w13 (hC4.2 4 (by decide)).1 rfl rfl rfl rfl rfl (Nat.le_of_ble_eq_true rfl) (Nat.le_of_ble_eq_true rfl) (Nat.le_of_ble_eq_true rfl) (Nat.le_of_ble_eq_true rfl) (z_Li.copy hC4 (j := 4) (by decide) (kO4.2 4 (by decide)) (by omega) (kO4.2 4 (by decide)).fits.1 (fun h5 hC5 hF5 => ?_))
  have kO5 := kO4.kept hF5 (by omega)
  refine z_vret rfl rfl ?_
  exact q _ (hC5.eqv (z_five ⟨rfl, fun _ _ => rfl⟩ ⟨rfl, fun _ _ => rfl⟩ ⟨rfl, fun _ _ => rfl⟩ ⟨rfl, fun _ _ => rfl⟩ ⟨rfl, fun _ _ => rfl⟩)) ((((hF1.trans hF2).trans hF3).trans hF4).trans hF5)
end ZCl
