/-! ClockParliament$Bills. -/
def z_adj (y : z_LV) (b : Int32) : Bool := decide (0 < z_a y 3 b)
def z_adjN (y : z_LV) : Int32 := nI (y.1 0) - nI (z_cnt (fun i => decide (y.2 3 i = 0)) (y.1 3))
def z_tbl (y : z_LV) (m s n : Int32) : z_LV := z_addL (z_addL (z_addL (z_addL (z_addL (z_addL y 0 m) 1 s) 2 n) 3 0) 4 0) 5 (nI (y.1 0))
def z_off1 (y : z_LV) (b k : Int32) : z_LV := z_putL (z_putL y 3 b k) 4 b (z_a (z_putL y 3 b k) 4 b + 1)
def z_rowOut (y : z_LV) (b : Int32) : z_LV := z_remL y 5 (z_plc (y.2 5) (y.1 5) b)
def z_off (y : z_LV) (b k : Int32) : z_LV := z_rowOut (z_off1 y b k) b
def z_rem5 (y : z_LV) (b : Int32) : z_LV := z_remL (z_remL (z_remL (z_remL (z_remL y 0 b) 1 b) 2 b) 3 b) 4 b
def z_forL (x : z_LV) (j : Nat) (p : Int32) : z_LV := z_upF x j (z_forF (x.2 j) (x.1 j) p)
def z_gone1 (y : z_LV) (b : Int32) : z_LV := z_forL (z_rowOut (z_rem5 y b) b) 5 b
def z_insT (x : z_LV) (j p : Nat) (v : Int32) : z_LV := if p ≤ x.1 j ∧ x.1 j < 10 then z_insL x j p v else x
def z_hdn (y : z_LV) (i : Nat) : z_LV := z_putL y 3 (nI i) (z_a y 3 (nI i) + -1)
def z_bpS (s : z_LV × Nat) (i : Nat) : z_LV × Nat := if z_adj s.1 (nI i) = true then (if z_adj (z_hdn s.1 i) (nI i) = true then (z_hdn s.1 i, s.2) else (z_insT (z_hdn s.1 i) 5 s.2 (nI i), s.2 + 1)) else s
def z_bp (y : z_LV) : z_LV × Nat := z_fold z_bpS (y, 0) (y.1 0)
def z_htB (y : z_LV) (l : Int32) (i : Nat) : Bool := z_adj y (nI i) && (decide (l = 0) || decide (z_a y 3 (nI i) < l))
def z_htn (y : z_LV) : Int32 := z_fold (fun l i => if z_htB y l i = true then z_a y 3 (nI i) else l) 0 (y.1 0)
def z_ahd (y : z_LV) (o b : Int32) : Bool := decide (0 < z_a y 3 o - z_a y 3 b) || (decide (z_a y 3 o - z_a y 3 b = 0) && decide (o < b))
def z_ahN (y : z_LV) (l b : Int32) (n : Nat) : Nat := z_cnt (fun i => z_adj y (nI i) && (decide (z_a y 3 (nI i) ≤ l) && z_ahd y (nI i) b)) n
def z_pla (y : z_LV) (l b : Int32) : Int32 := if l < z_a y 3 b then -1 else if z_adj y b = true then nI (z_ahN y l b (y.1 0)) else nI (z_ahN y l b (y.1 0)) + z_plc (y.2 5) (y.1 5) b
def z_oN1 : Option Nat → Int32
  | some i => nI i
  | none => -1
def z_bla (y : z_LV) (l p : Int32) : Int32 := if p < 0 then -1 else z_oN1 (z_first (fun i => decide (z_pla y l (nI i) = p)) (y.1 0) 0)
theorem z_hdn_1 (y : z_LV) (i : Nat) : (z_hdn y i).1 = y.1 := rfl
theorem z_insT_1 (y : z_LV) (p : Nat) (v : Int32) : (z_insT y 5 p v).1 0 = y.1 0 := by
  unfold z_insT
  split <;> rfl
theorem z_bpS_1 (s : z_LV × Nat) (i : Nat) : (z_bpS s i).1.1 0 = s.1.1 0 := by
  unfold z_bpS
  split
  · split
    · rfl
    · exact z_insT_1 _ _ _
  · rfl
theorem z_bp_1 (s : z_LV × Nat) (n : Nat) : (z_fold z_bpS s n).1.1 0 = s.1.1 0 := by
  induction n with
  | zero => rfl
  | succ n ih => exact (z_bpS_1 _ n).trans ih
theorem z_bp_2 (y : z_LV) (n : Nat) : (z_fold z_bpS (y, 0) n).2 ≤ n := by
  induction n with
  | zero => exact Nat.le_refl _
  | succ n ih =>
    show (z_bpS _ n).2 ≤ n + 1
    unfold z_bpS
    split
    · split
      · exact Nat.le_succ_of_le ih
      · exact Nat.succ_le_succ ih
    · exact Nat.le_succ_of_le ih
section ZBi
variable {G : z_G} {h : z_H} {Q : z_O → z_H → Prop} {c : Nat} {x : z_LV}
theorem z_Li.insertT {ci k a j p : Nat} {fs : List Value} {v : Int32} (hL : z_Li ci k z_capB fs h a x) (hj : j < k) (q : ∀ h', z_Li ci k z_capB fs h' a (z_insT x j p v) → z_Fr a (2 * k + 1) h h' → Q (.inl none) h') (hp : p < 1000 := by omega) : z_W G 0 0 0 6 0 (z_L0 6 [.ref (a + 1 + 2 * j), .int (nI p), .int v]) [] h Q := by
  have hN := hL.2 j hj
  have h10 : x.1 j ≤ 10 := hN.fits.1
  by_cases hc : p ≤ x.1 j ∧ x.1 j < 10
  · refine hL.insert hj hc ?_
    unfold z_insT at q
    rw [if_pos hc] at q
    exact q
  · unfold z_insT at q
    rw [if_neg hc] at q
    obtain ⟨g, h1, h2⟩ := hN.num
    refine z_iload_n rfl rfl ?_
    refine z_if_lt rfl (fun c1 => absurd c1 (nI_pos (by omega))) (fun c1 => ?_)
    refine z_iload_n rfl rfl ?_
    refine z_aload_n rfl rfl ?_
    refine z_get rfl h1.1 rfl ?_
    refine z_icmp_gt rfl (fun c9 => ?_) (fun c9 => ?_)
    · refine z_vret rfl rfl ?_
      exact q _ hL (z_Fr.refl _ _ _)
    · refine z_aload_n rfl rfl ?_
      refine z_get rfl h1.1 rfl ?_
      refine z_aload_n rfl rfl ?_
      refine z_get rfl h1.1 rfl ?_
      refine z_alen rfl h1.2.1 (by decide) ?_
      refine z_icmp_lt rfl (fun c21 => absurd c21 (show ¬ nI (x.1 j) < nI (z_capB j) from nI_nlt (show 10 ≤ x.1 j from by rw [Int32.not_lt, nI_leI (by omega) (by omega)] at c9; omega) (by omega))) (fun c21 => ?_)
      refine z_vret rfl rfl ?_
      exact q _ hL (z_Fr.refl _ _ _)
theorem cB_count (hC : z_Bi h c x) (q : Q (.inl (some (.int (nI (x.1 0))))) h) : z_W G 1 0 0 51 0 (z_L0 51 [.ref c]) [] h Q := by
  refine z_aload_n rfl rfl ?_
  refine z_get rfl hC.1 rfl ?_
  refine z_callV (av := []) rfl z_w1 (hC.2 0 (by decide)).1 rfl rfl rfl rfl rfl (Nat.le_of_ble_eq_true rfl) (Nat.le_of_ble_eq_true rfl) (Nat.le_of_ble_eq_true rfl) (Nat.le_of_ble_eq_true rfl) (cs_count (hC.2 0 (by decide)) ?_)
  refine z_iret rfl rfl ?_
  exact q
theorem cB_has {p : Int32} (hC : z_Bi h c x) (q : Q (.inl (some (.int (if z_has p (x.1 0) then 1 else 0)))) h) : z_W G 1 0 0 52 0 (z_L0 52 [.ref c, .int p]) [] h Q := by
  refine z_aload_n rfl rfl ?_
  refine z_get rfl hC.1 rfl ?_
  refine z_iload_n rfl rfl ?_
  refine z_callV (av := [_]) rfl z_w2 (hC.2 0 (by decide)).1 rfl rfl rfl rfl rfl (Nat.le_of_ble_eq_true rfl) (Nat.le_of_ble_eq_true rfl) (Nat.le_of_ble_eq_true rfl) (Nat.le_of_ble_eq_true rfl) (cs_has (hC.2 0 (by decide)) ?_)
  refine z_zret (ty := .boolean) rfl rfl (by first | decide | exact z_nb _) ?_
  exact q
theorem cB_isAdjourned {p : Int32} (hC : z_Bi h c x) (q : Q (.inl (some (.int (if z_adj x p = true then 1 else 0)))) h) : z_W G 2 0 0 53 0 (z_L0 53 [.ref c, .int p]) [] h Q := by
  refine z_aload_n rfl rfl ?_
  refine z_get rfl hC.1 rfl ?_
  refine z_iload_n rfl rfl ?_
  refine z_callV (av := [_]) rfl z_w3 (hC.2 3 (by decide)).1 rfl rfl rfl rfl rfl (Nat.le_of_ble_eq_true rfl) (Nat.le_of_ble_eq_true rfl) (Nat.le_of_ble_eq_true rfl) (Nat.le_of_ble_eq_true rfl) (z_Li.at hC (j := 3) (by decide) ?_)
  refine z_if_le rfl (fun c8 => ?_) (fun c8 => ?_)
  · refine z_iconst (v := 0) rfl (by decide) ?_
    refine z_zret (ty := .boolean) rfl rfl (by first | decide | exact z_nb _) ?_
    have e : z_adj x p = false := by unfold z_adj; rw [← Int32.not_lt] at c8; simp [c8]
    rw [e] at q; exact q
  · refine z_iconst (v := 1) rfl (by decide) ?_
    refine z_goto rfl ?_
    refine z_zret (ty := .boolean) rfl rfl (by first | decide | exact z_nb _) ?_
    have e : z_adj x p = true := by unfold z_adj; rw [Int32.not_le] at c8; simp [c8]
    rw [e] at q; exact q
theorem cB_adjournedCount (hC : z_Bi h c x) (q : Q (.inl (some (.int (z_adjN x)))) h) : z_W G 2 0 0 54 0 (z_L0 54 [.ref c]) [] h Q := by
  refine z_aload_n rfl rfl ?_
  refine z_callV (av := []) rfl z_w51 hC.1 rfl rfl rfl rfl rfl (Nat.le_of_ble_eq_true rfl) (Nat.le_of_ble_eq_true rfl) (Nat.le_of_ble_eq_true rfl) (Nat.le_of_ble_eq_true rfl) (cB_count hC ?_)
  refine z_aload_n rfl rfl ?_
  refine z_get rfl hC.1 rfl ?_
  refine z_iconst (v := 0) rfl (by decide) ?_
  refine z_callV (av := [_]) rfl z_w11 (hC.2 3 (by decide)).1 rfl rfl rfl rfl rfl (Nat.le_of_ble_eq_true rfl) (Nat.le_of_ble_eq_true rfl) (Nat.le_of_ble_eq_true rfl) (Nat.le_of_ble_eq_true rfl) (cs_countOf (hC.2 3 (by decide)) ?_)
  refine z_isub rfl ?_
  refine z_iret rfl rfl ?_
  exact q
theorem cB_table {m s n : Int32} (hC : z_Bi h c x) (hs : ∀ j, j < 6 → x.1 j < 10) (q : ∀ h', z_Bi h' c (z_tbl x m s n) → z_Fr c 13 h h' → Q (.inl (some (.int (nI (x.1 0))))) h') : z_W G 2 0 0 55 0 (z_L0 55 [.ref c, .int m, .int s, .int n]) [] h Q := by
  refine z_aload_n rfl rfl ?_
  refine z_callV (av := []) rfl z_w51 hC.1 rfl rfl rfl rfl rfl (Nat.le_of_ble_eq_true rfl) (Nat.le_of_ble_eq_true rfl) (Nat.le_of_ble_eq_true rfl) (Nat.le_of_ble_eq_true rfl) (cB_count hC ?_)
  refine z_istore rfl (by decide +kernel) rfl ?_
  refine z_aload_n rfl rfl ?_
  refine z_get rfl hC.1 rfl ?_
  refine z_iload_n rfl rfl ?_
  refine z_callV (av := [_]) rfl z_w7 (hC.2 0 (by decide)).1 rfl rfl rfl rfl rfl (Nat.le_of_ble_eq_true rfl) (Nat.le_of_ble_eq_true rfl) (Nat.le_of_ble_eq_true rfl) (Nat.le_of_ble_eq_true rfl) (z_Li.add hC (j := 0) (by decide) (hs 0 (by decide)) (fun h1 hC1 hF1 => ?_))
  refine z_aload_n rfl rfl ?_
  refine z_get rfl hC1.1 rfl ?_
  refine z_iload_n rfl rfl ?_
  refine z_callV (av := [_]) rfl z_w7 (hC1.2 1 (by decide)).1 rfl rfl rfl rfl rfl (Nat.le_of_ble_eq_true rfl) (Nat.le_of_ble_eq_true rfl) (Nat.le_of_ble_eq_true rfl) (Nat.le_of_ble_eq_true rfl) (z_Li.add hC1 (j := 1) (by decide) (show x.1 1 < 10 from hs 1 (by decide)) (fun h2 hC2 hF2 => ?_))
  refine z_aload_n rfl rfl ?_
  refine z_get rfl hC2.1 rfl ?_
  refine z_iload_n rfl rfl ?_
  refine z_callV (av := [_]) rfl z_w7 (hC2.2 2 (by decide)).1 rfl rfl rfl rfl rfl (Nat.le_of_ble_eq_true rfl) (Nat.le_of_ble_eq_true rfl) (Nat.le_of_ble_eq_true rfl) (Nat.le_of_ble_eq_true rfl) (z_Li.add hC2 (j := 2) (by decide) (show x.1 2 < 10 from hs 2 (by decide)) (fun h3 hC3 hF3 => ?_))
  refine z_aload_n rfl rfl ?_
  refine z_get rfl hC3.1 rfl ?_
  refine z_iconst (v := 0) rfl (by decide) ?_
  refine z_callV (av := [_]) rfl z_w7 (hC3.2 3 (by decide)).1 rfl rfl rfl rfl rfl (Nat.le_of_ble_eq_true rfl) (Nat.le_of_ble_eq_true rfl) (Nat.le_of_ble_eq_true rfl) (Nat.le_of_ble_eq_true rfl) (z_Li.add hC3 (j := 3) (by decide) (show x.1 3 < 10 from hs 3 (by decide)) (fun h4 hC4 hF4 => ?_))
  refine z_aload_n rfl rfl ?_
  refine z_get rfl hC4.1 rfl ?_
  refine z_iconst (v := 0) rfl (by decide) ?_
  refine z_callV (av := [_]) rfl z_w7 (hC4.2 4 (by decide)).1 rfl rfl rfl rfl rfl (Nat.le_of_ble_eq_true rfl) (Nat.le_of_ble_eq_true rfl) (Nat.le_of_ble_eq_true rfl) (Nat.le_of_ble_eq_true rfl) (z_Li.add hC4 (j := 4) (by decide) (show x.1 4 < 10 from hs 4 (by decide)) (fun h5 hC5 hF5 => ?_))
  refine z_aload_n rfl rfl ?_
  refine z_get rfl hC5.1 rfl ?_
  refine z_iload rfl rfl ?_
  refine z_callV (av := [_]) rfl z_w7 (hC5.2 5 (by decide)).1 rfl rfl rfl rfl rfl (Nat.le_of_ble_eq_true rfl) (Nat.le_of_ble_eq_true rfl) (Nat.le_of_ble_eq_true rfl) (Nat.le_of_ble_eq_true rfl) (z_Li.add hC5 (j := 5) (by decide) (show x.1 5 < 10 from hs 5 (by decide)) (fun h6 hC6 hF6 => ?_))
  refine z_iload rfl rfl ?_
  refine z_iret rfl rfl ?_
  exact q _ hC6 (((((hF1.trans hF2).trans hF3).trans hF4).trans hF5).trans hF6)
theorem cB_putOff {b k : Int32} (hC : z_Bi h c x) (q : ∀ h', z_Bi h' c (z_off x b k) → z_Fr c 13 h h' → Q (.inl (some (.int (z_adjN (z_off x b k))))) h') : z_W G 3 0 0 56 0 (z_L0 56 [.ref c, .int b, .int k]) [] h Q := by
  refine z_aload_n rfl rfl ?_
  refine z_get rfl hC.1 rfl ?_
  refine z_iload_n rfl rfl ?_
  refine z_iload_n rfl rfl ?_
  refine z_callV (av := [_, _]) rfl z_w4 (hC.2 3 (by decide)).1 rfl rfl rfl rfl rfl (Nat.le_of_ble_eq_true rfl) (Nat.le_of_ble_eq_true rfl) (Nat.le_of_ble_eq_true rfl) (Nat.le_of_ble_eq_true rfl) (z_Li.put hC (j := 3) (by decide) (fun h1 hC1 hF1 => ?_))
  refine z_aload_n rfl rfl ?_
  refine z_get rfl hC1.1 rfl ?_
  refine z_iload_n rfl rfl ?_
  refine z_iconst (v := 1) rfl (by decide) ?_
  refine z_callV (av := [_, _]) rfl z_w5 (hC1.2 4 (by decide)).1 rfl rfl rfl rfl rfl (Nat.le_of_ble_eq_true rfl) (Nat.le_of_ble_eq_true rfl) (Nat.le_of_ble_eq_true rfl) (Nat.le_of_ble_eq_true rfl) (z_Li.addTo hC1 (j := 4) (by decide) (fun h2 hC2 hF2 => ?_))
  refine z_aload_n rfl rfl ?_
  refine z_get rfl hC2.1 rfl ?_
  refine z_aload_n rfl rfl ?_
  refine z_get rfl hC2.1 rfl ?_
  refine z_iload_n rfl rfl ?_
  refine z_callV (av := [_]) rfl z_w10 (hC2.2 5 (by decide)).1 rfl rfl rfl rfl rfl (Nat.le_of_ble_eq_true rfl) (Nat.le_of_ble_eq_true rfl) (Nat.le_of_ble_eq_true rfl) (Nat.le_of_ble_eq_true rfl) (cs_placeOf (hC2.2 5 (by decide)) ?_)
  refine z_callV (av := [_]) rfl z_w8 (hC2.2 5 (by decide)).1 rfl rfl rfl rfl rfl (Nat.le_of_ble_eq_true rfl) (Nat.le_of_ble_eq_true rfl) (Nat.le_of_ble_eq_true rfl) (Nat.le_of_ble_eq_true rfl) (z_Li.removeAt hC2 (j := 5) (by decide) (fun h3 hC3 hF3 => ?_))
  refine z_aload_n rfl rfl ?_
  refine z_callV (av := []) rfl z_w54 hC3.1 rfl rfl rfl rfl rfl (Nat.le_of_ble_eq_true rfl) (Nat.le_of_ble_eq_true rfl) (Nat.le_of_ble_eq_true rfl) (Nat.le_of_ble_eq_true rfl) (cB_adjournedCount hC3 ?_)
  refine z_iret rfl rfl ?_
  exact q _ hC3 ((hF1.trans hF2).trans hF3)
theorem cB_remove {b : Int32} (hC : z_Bi h c x) (q : ∀ h', z_Bi h' c (z_gone1 x b) → z_Fr c 13 h h' → Q (.inl (some (.int (nI ((z_gone1 x b).1 0))))) h') : z_W G 2 0 0 57 0 (z_L0 57 [.ref c, .int b]) [] h Q := by
  refine z_aload_n rfl rfl ?_
  refine z_get rfl hC.1 rfl ?_
  refine z_iload_n rfl rfl ?_
  refine z_callV (av := [_]) rfl z_w8 (hC.2 0 (by decide)).1 rfl rfl rfl rfl rfl (Nat.le_of_ble_eq_true rfl) (Nat.le_of_ble_eq_true rfl) (Nat.le_of_ble_eq_true rfl) (Nat.le_of_ble_eq_true rfl) (z_Li.removeAt hC (j := 0) (by decide) (fun h1 hC1 hF1 => ?_))
  refine z_aload_n rfl rfl ?_
  refine z_get rfl hC1.1 rfl ?_
  refine z_iload_n rfl rfl ?_
  refine z_callV (av := [_]) rfl z_w8 (hC1.2 1 (by decide)).1 rfl rfl rfl rfl rfl (Nat.le_of_ble_eq_true rfl) (Nat.le_of_ble_eq_true rfl) (Nat.le_of_ble_eq_true rfl) (Nat.le_of_ble_eq_true rfl) (z_Li.removeAt hC1 (j := 1) (by decide) (fun h2 hC2 hF2 => ?_))
  refine z_aload_n rfl rfl ?_
  refine z_get rfl hC2.1 rfl ?_
  refine z_iload_n rfl rfl ?_
  refine z_callV (av := [_]) rfl z_w8 (hC2.2 2 (by decide)).1 rfl rfl rfl rfl rfl (Nat.le_of_ble_eq_true rfl) (Nat.le_of_ble_eq_true rfl) (Nat.le_of_ble_eq_true rfl) (Nat.le_of_ble_eq_true rfl) (z_Li.removeAt hC2 (j := 2) (by decide) (fun h3 hC3 hF3 => ?_))
  refine z_aload_n rfl rfl ?_
  refine z_get rfl hC3.1 rfl ?_
  refine z_iload_n rfl rfl ?_
  refine z_callV (av := [_]) rfl z_w8 (hC3.2 3 (by decide)).1 rfl rfl rfl rfl rfl (Nat.le_of_ble_eq_true rfl) (Nat.le_of_ble_eq_true rfl) (Nat.le_of_ble_eq_true rfl) (Nat.le_of_ble_eq_true rfl) (z_Li.removeAt hC3 (j := 3) (by decide) (fun h4 hC4 hF4 => ?_))
  refine z_aload_n rfl rfl ?_
  refine z_get rfl hC4.1 rfl ?_
  refine z_iload_n rfl rfl ?_
  refine z_callV (av := [_]) rfl z_w8 (hC4.2 4 (by decide)).1 rfl rfl rfl rfl rfl (Nat.le_of_ble_eq_true rfl) (Nat.le_of_ble_eq_true rfl) (Nat.le_of_ble_eq_true rfl) (Nat.le_of_ble_eq_true rfl) (z_Li.removeAt hC4 (j := 4) (by decide) (fun h5 hC5 hF5 => ?_))
  refine z_aload_n rfl rfl ?_
  refine z_get rfl hC5.1 rfl ?_
  refine z_aload_n rfl rfl ?_
  refine z_get rfl hC5.1 rfl ?_
  refine z_iload_n rfl rfl ?_
  refine z_callV (av := [_]) rfl z_w10 (hC5.2 5 (by decide)).1 rfl rfl rfl rfl rfl (Nat.le_of_ble_eq_true rfl) (Nat.le_of_ble_eq_true rfl) (Nat.le_of_ble_eq_true rfl) (Nat.le_of_ble_eq_true rfl) (cs_placeOf (hC5.2 5 (by decide)) ?_)
  refine z_callV (av := [_]) rfl z_w8 (hC5.2 5 (by decide)).1 rfl rfl rfl rfl rfl (Nat.le_of_ble_eq_true rfl) (Nat.le_of_ble_eq_true rfl) (Nat.le_of_ble_eq_true rfl) (Nat.le_of_ble_eq_true rfl) (z_Li.removeAt hC5 (j := 5) (by decide) (fun h6 hC6 hF6 => ?_))
  refine z_aload_n rfl rfl ?_
  refine z_get rfl hC6.1 rfl ?_
  refine z_iload_n rfl rfl ?_
  refine z_callV (av := [_]) rfl z_w9 (hC6.2 5 (by decide)).1 rfl rfl rfl rfl rfl (Nat.le_of_ble_eq_true rfl) (Nat.le_of_ble_eq_true rfl) (Nat.le_of_ble_eq_true rfl) (Nat.le_of_ble_eq_true rfl) (z_Li.forget hC6 (j := 5) (by decide) (fun h7 hC7 hF7 => ?_))
  refine z_aload_n rfl rfl ?_
  refine z_callV (av := []) rfl z_w51 hC7.1 rfl rfl rfl rfl rfl (Nat.le_of_ble_eq_true rfl) (Nat.le_of_ble_eq_true rfl) (Nat.le_of_ble_eq_true rfl) (Nat.le_of_ble_eq_true rfl) (cB_count hC7 ?_)
  refine z_iret rfl rfl ?_
  exact q _ hC7 ((((((hF1.trans hF2).trans hF3).trans hF4).trans hF5).trans hF6).trans hF7)
theorem cB_passHour (hC : z_Bi h c x) (q : ∀ h', z_Bi h' c (z_bp x).1 → z_Fr c 13 h h' → Q (.inl (some (.int (nI (z_bp x).2)))) h') : z_W G 3 0 0 58 0 (z_L0 58 [.ref c]) [] h Q := by
  have hn : x.1 0 ≤ 10 := (hC.2 0 (by decide)).fits.1
  have loop : ∀ (k i : Nat) (hh : z_H) (S : z_LV × Nat), i + k = x.1 0 → S = z_fold z_bpS (x, 0) i → z_Bi hh c S.1 → z_Fr c 13 h hh → z_W G 3 0 0 58 4 [.ref c, .int (nI S.2), .int (nI i)] [] hh Q := by
    intro k
    induction k with
    | zero =>
      intro i hh S hi hS hD hF
      have e1 : S.1.1 0 = x.1 0 := by rw [hS, z_bp_1]
      refine z_iload_n rfl rfl ?_
      refine z_aload_n rfl rfl ?_
      refine z_callV (av := []) rfl z_w51 hD.1 rfl rfl rfl rfl rfl (Nat.le_of_ble_eq_true rfl) (Nat.le_of_ble_eq_true rfl) (Nat.le_of_ble_eq_true rfl) (Nat.le_of_ble_eq_true rfl) (cB_count hD ?_)
      rw [e1]
      refine z_icmp_ge rfl (fun c9 => ?_) (fun c9 => absurd (show nI (x.1 0) ≤ nI i from (nI_leI (by omega) (by omega)).mpr (by omega)) c9)
      refine z_iload_n rfl rfl ?_
      refine z_iret rfl rfl ?_
      subst hS; rw [show i = x.1 0 by omega] at hD ⊢; exact q _ hD hF
    | succ k ih =>
      intro i hh S hi hS hD hF
      have e1 : S.1.1 0 = x.1 0 := by rw [hS, z_bp_1]
      have e2 : S.2 ≤ i := by rw [hS]; exact z_bp_2 x i
      refine z_iload_n rfl rfl ?_
      refine z_aload_n rfl rfl ?_
      refine z_callV (av := []) rfl z_w51 hD.1 rfl rfl rfl rfl rfl (Nat.le_of_ble_eq_true rfl) (Nat.le_of_ble_eq_true rfl) (Nat.le_of_ble_eq_true rfl) (Nat.le_of_ble_eq_true rfl) (cB_count hD ?_)
      rw [e1]
      refine z_icmp_ge rfl (fun c9 => absurd c9 (show ¬ nI (x.1 0) ≤ nI i from fun q9 => absurd ((nI_leI (by omega) (by omega)).mp q9) (by omega))) (fun c9 => ?_)
      refine z_aload_n rfl rfl ?_
      refine z_iload_n rfl rfl ?_
      refine z_callV (av := [_]) rfl z_w53 hD.1 rfl rfl rfl rfl rfl (Nat.le_of_ble_eq_true rfl) (Nat.le_of_ble_eq_true rfl) (Nat.le_of_ble_eq_true rfl) (Nat.le_of_ble_eq_true rfl) (cB_isAdjourned hD ?_)
      refine z_if_eq rfl (fun c17 => ?_) (fun c17 => ?_)
      · refine z_iinc1 rfl rfl (by decide +kernel) rfl ?_
        exact z_goto rfl (ih (i + 1) _ S (by omega) (by subst hS; exact (if_neg (by rw [(z_bI _).mp c17]; decide)).symm) hD hF)
      · refine z_aload_n rfl rfl ?_
        refine z_get rfl hD.1 rfl ?_
        refine z_iload_n rfl rfl ?_
        refine z_iconst (v := (-1)) rfl (by decide) ?_
        refine z_callV (av := [_, _]) rfl z_w5 (hD.2 3 (by decide)).1 rfl rfl rfl rfl rfl (Nat.le_of_ble_eq_true rfl) (Nat.le_of_ble_eq_true rfl) (Nat.le_of_ble_eq_true rfl) (Nat.le_of_ble_eq_true rfl) (z_Li.addTo hD (j := 3) (by decide) (fun h1 hC1 hF1 => ?_))
        refine z_aload_n rfl rfl ?_
        refine z_iload_n rfl rfl ?_
        refine z_callV (av := [_]) rfl z_w53 hC1.1 rfl rfl rfl rfl rfl (Nat.le_of_ble_eq_true rfl) (Nat.le_of_ble_eq_true rfl) (Nat.le_of_ble_eq_true rfl) (Nat.le_of_ble_eq_true rfl) (cB_isAdjourned hC1 ?_)
        refine z_if_ne rfl (fun c34 => ?_) (fun c34 => ?_)
        · refine z_iinc1 rfl rfl (by decide +kernel) rfl ?_
          exact z_goto rfl (ih (i + 1) _ (z_hdn S.1 i, S.2) (by omega) (by subst hS; exact ((if_pos (by simpa [z_bI] using c17)).trans (if_pos (show z_adj (z_hdn _ i) (nI i) = true from Decidable.byContradiction fun e5 => c34 (if_neg e5)))).symm) hC1 (hF.trans hF1))
        · refine z_aload_n rfl rfl ?_
          refine z_get rfl hC1.1 rfl ?_
          refine z_iload_n rfl rfl ?_
          refine z_iload_n rfl rfl ?_
          refine z_callV (av := [_, _]) rfl z_w6 (hC1.2 5 (by decide)).1 rfl rfl rfl rfl rfl (Nat.le_of_ble_eq_true rfl) (Nat.le_of_ble_eq_true rfl) (Nat.le_of_ble_eq_true rfl) (Nat.le_of_ble_eq_true rfl) (z_Li.insertT hC1 (j := 5) (by decide) (fun h2 hC2 hF2 => ?_))
          refine z_iinc1 rfl rfl (by decide +kernel) rfl ?_
          refine z_iinc1 rfl rfl (by decide +kernel) rfl ?_
          exact z_goto rfl (ih (i + 1) _ (z_insT (z_hdn S.1 i) 5 S.2 (nI i), S.2 + 1) (by omega) (by subst hS; exact ((if_pos (by simpa [z_bI] using c17)).trans (if_neg (show ¬ z_adj (z_hdn _ i) (nI i) = true from by rw [show z_adj (z_hdn _ i) (nI i) = false from (z_bI _).mp c34]; decide))).symm) hC2 (hF.trans (hF1.trans hF2)))
  refine z_iconst (v := nI 0) rfl (by decide) ?_
  refine z_istore_n rfl (by decide +kernel) rfl ?_
  refine z_iconst (v := nI 0) rfl (by decide) ?_
  refine z_istore_n rfl (by decide +kernel) rfl ?_
  exact loop (x.1 0) 0 h (x, 0) (by omega) rfl hC (z_Fr.refl _ _ _)
theorem cB_hoursToNext (hC : z_Bi h c x) (q : Q (.inl (some (.int (z_htn x)))) h) : z_W G 3 0 0 59 0 (z_L0 59 [.ref c]) [] h Q := by
  have hn : x.1 0 ≤ 10 := (hC.2 0 (by decide)).fits.1
  have loop : ∀ (k i : Nat) (s : Int32), i + k = x.1 0 → s = z_fold (fun l i => if z_htB x l i = true then z_a x 3 (nI i) else l) 0 i → z_W G 3 0 0 59 4 [.ref c, .int s, .int (nI i)] [] h Q := by
    intro k
    induction k with
    | zero =>
      intro i s hi hs
      refine z_iload_n rfl rfl ?_
      refine z_aload_n rfl rfl ?_
      refine z_callV (av := []) rfl z_w51 hC.1 rfl rfl rfl rfl rfl (Nat.le_of_ble_eq_true rfl) (Nat.le_of_ble_eq_true rfl) (Nat.le_of_ble_eq_true rfl) (Nat.le_of_ble_eq_true rfl) (cB_count hC ?_)
      refine z_icmp_ge rfl (fun c9 => ?_) (fun c9 => absurd (show nI (x.1 0) ≤ nI i from (nI_leI (by omega) (by omega)).mpr (by omega)) c9)
      refine z_iload_n rfl rfl ?_
      refine z_iret rfl rfl ?_
      subst hs; rw [show i = x.1 0 by omega]; exact q
    | succ k ih =>
      intro i s hi hs
      refine z_iload_n rfl rfl ?_
      refine z_aload_n rfl rfl ?_
      refine z_callV (av := []) rfl z_w51 hC.1 rfl rfl rfl rfl rfl (Nat.le_of_ble_eq_true rfl) (Nat.le_of_ble_eq_true rfl) (Nat.le_of_ble_eq_true rfl) (Nat.le_of_ble_eq_true rfl) (cB_count hC ?_)
      refine z_icmp_ge rfl (fun c9 => absurd c9 (show ¬ nI (x.1 0) ≤ nI i from fun q9 => absurd ((nI_leI (by omega) (by omega)).mp q9) (by omega))) (fun c9 => ?_)
      refine z_aload_n rfl rfl ?_
      refine z_iload_n rfl rfl ?_
      refine z_callV (av := [_]) rfl z_w53 hC.1 rfl rfl rfl rfl rfl (Nat.le_of_ble_eq_true rfl) (Nat.le_of_ble_eq_true rfl) (Nat.le_of_ble_eq_true rfl) (Nat.le_of_ble_eq_true rfl) (cB_isAdjourned hC ?_)
      refine z_if_eq rfl (fun c17 => ?_) (fun c17 => ?_)
      · refine z_iinc1 rfl rfl (by decide +kernel) rfl ?_
        exact z_goto rfl (ih (i + 1) _ (by omega) (by have e : ¬ z_htB x s i = true := (by unfold z_htB; simp [(z_bI _).mp c17]); subst hs; exact (if_neg e).symm))
      · refine z_iload_n rfl rfl ?_
        refine z_if_eq rfl (fun c21 => ?_) (fun c21 => ?_)
        · refine z_aload_n rfl rfl ?_
          refine z_get rfl hC.1 rfl ?_
          refine z_iload_n rfl rfl ?_
          refine z_callV (av := [_]) rfl z_w3 (hC.2 3 (by decide)).1 rfl rfl rfl rfl rfl (Nat.le_of_ble_eq_true rfl) (Nat.le_of_ble_eq_true rfl) (Nat.le_of_ble_eq_true rfl) (Nat.le_of_ble_eq_true rfl) (z_Li.at hC (j := 3) (by decide) ?_)
          refine z_istore_n rfl (by decide +kernel) rfl ?_
          refine z_iinc1 rfl rfl (by decide +kernel) rfl ?_
          exact z_goto rfl (ih (i + 1) _ (by omega) (by have e1 : z_adj x (nI i) = true := (by simpa [z_bI] using c17); have e : z_htB x s i = true := (by unfold z_htB; simp [e1, c21]); subst hs; exact (if_pos e).symm))
        · refine z_aload_n rfl rfl ?_
          refine z_get rfl hC.1 rfl ?_
          refine z_iload_n rfl rfl ?_
          refine z_callV (av := [_]) rfl z_w3 (hC.2 3 (by decide)).1 rfl rfl rfl rfl rfl (Nat.le_of_ble_eq_true rfl) (Nat.le_of_ble_eq_true rfl) (Nat.le_of_ble_eq_true rfl) (Nat.le_of_ble_eq_true rfl) (z_Li.at hC (j := 3) (by decide) ?_)
          refine z_iload_n rfl rfl ?_
          refine z_icmp_ge rfl (fun c33 => ?_) (fun c33 => ?_)
          · refine z_iinc1 rfl rfl (by decide +kernel) rfl ?_
            exact z_goto rfl (ih (i + 1) _ (by omega) (by have e : ¬ z_htB x s i = true := (by unfold z_htB; rw [← Int32.not_lt] at c33; simp [c21, c33]); subst hs; exact (if_neg e).symm))
          · refine z_aload_n rfl rfl ?_
            refine z_get rfl hC.1 rfl ?_
            refine z_iload_n rfl rfl ?_
            refine z_callV (av := [_]) rfl z_w3 (hC.2 3 (by decide)).1 rfl rfl rfl rfl rfl (Nat.le_of_ble_eq_true rfl) (Nat.le_of_ble_eq_true rfl) (Nat.le_of_ble_eq_true rfl) (Nat.le_of_ble_eq_true rfl) (z_Li.at hC (j := 3) (by decide) ?_)
            refine z_istore_n rfl (by decide +kernel) rfl ?_
            refine z_iinc1 rfl rfl (by decide +kernel) rfl ?_
            exact z_goto rfl (ih (i + 1) _ (by omega) (by have e1 : z_adj x (nI i) = true := (by simpa [z_bI] using c17); have e : z_htB x s i = true := (by unfold z_htB; rw [Int32.not_le] at c33; simp [e1, c33]); subst hs; exact (if_pos e).symm))
  refine z_iconst (v := 0) rfl (by decide) ?_
  refine z_istore_n rfl (by decide +kernel) rfl ?_
  refine z_iconst (v := nI 0) rfl (by decide) ?_
  refine z_istore_n rfl (by decide +kernel) rfl ?_
  exact loop (x.1 0) 0 0 (by omega) rfl
theorem cB_isAheadAsBack {o b : Int32} (hC : z_Bi h c x) (q : Q (.inl (some (.int (if z_ahd x o b = true then 1 else 0)))) h) : z_W G 2 0 0 62 0 (z_L0 62 [.ref c, .int o, .int b]) [] h Q := by
  refine z_aload_n rfl rfl ?_
  refine z_get rfl hC.1 rfl ?_
  refine z_iload_n rfl rfl ?_
  refine z_callV (av := [_]) rfl z_w3 (hC.2 3 (by decide)).1 rfl rfl rfl rfl rfl (Nat.le_of_ble_eq_true rfl) (Nat.le_of_ble_eq_true rfl) (Nat.le_of_ble_eq_true rfl) (Nat.le_of_ble_eq_true rfl) (z_Li.at hC (j := 3) (by decide) ?_)
  refine z_aload_n rfl rfl ?_
  refine z_get rfl hC.1 rfl ?_
  refine z_iload_n rfl rfl ?_
  refine z_callV (av := [_]) rfl z_w3 (hC.2 3 (by decide)).1 rfl rfl rfl rfl rfl (Nat.le_of_ble_eq_true rfl) (Nat.le_of_ble_eq_true rfl) (Nat.le_of_ble_eq_true rfl) (Nat.le_of_ble_eq_true rfl) (z_Li.at hC (j := 3) (by decide) ?_)
  refine z_isub rfl ?_
  refine z_istore_n rfl (by decide +kernel) rfl ?_
  refine z_iload_n rfl rfl ?_
  refine z_if_gt rfl (fun c19 => ?_) (fun c19 => ?_)
  · refine z_iconst (v := 1) rfl (by decide) ?_
    refine z_goto rfl ?_
    refine z_zret (ty := .boolean) rfl rfl (by first | decide | exact z_nb _) ?_
    have e : z_ahd x o b = true := by unfold z_ahd; simp [c19]
    rw [e] at q; exact q
  · refine z_iload_n rfl rfl ?_
    refine z_if_ne rfl (fun c23 => ?_) (fun c23 => ?_)
    · refine z_iconst (v := 0) rfl (by decide) ?_
      refine z_zret (ty := .boolean) rfl rfl (by first | decide | exact z_nb _) ?_
      have e : z_ahd x o b = false := by unfold z_ahd; rw [Int32.not_lt] at c19; simp [c19, c23]
      rw [e] at q; exact q
    · refine z_iload_n rfl rfl ?_
      refine z_iload_n rfl rfl ?_
      refine z_icmp_ge rfl (fun c28 => ?_) (fun c28 => ?_)
      · refine z_iconst (v := 0) rfl (by decide) ?_
        refine z_zret (ty := .boolean) rfl rfl (by first | decide | exact z_nb _) ?_
        have e : z_ahd x o b = false := by unfold z_ahd; simp [c23, c28]
        rw [e] at q; exact q
      · refine z_iconst (v := 1) rfl (by decide) ?_
        refine z_goto rfl ?_
        refine z_zret (ty := .boolean) rfl rfl (by first | decide | exact z_nb _) ?_
        have e : z_ahd x o b = true := by unfold z_ahd; rw [Int32.not_le] at c28; simp [c23, c28]
        rw [e] at q; exact q
theorem cB_placeAfter {l b : Int32} (hC : z_Bi h c x) (q : Q (.inl (some (.int (z_pla x l b)))) h) : z_W G 3 0 0 61 0 (z_L0 61 [.ref c, .int l, .int b]) [] h Q := by
  have hn : x.1 0 ≤ 10 := (hC.2 0 (by decide)).fits.1
  have loop : ¬ l < z_a x 3 b → ∀ (k i s : Nat), i + k = x.1 0 → s = z_ahN x l b i → z_W G 3 0 0 61 19 [.ref c, .int l, .int b, .int (nI s), .int (nI i)] [] h Q := by
    intro hl k
    induction k with
    | zero =>
      intro i s hi hs
      refine z_iload rfl rfl ?_
      refine z_aload_n rfl rfl ?_
      refine z_callV (av := []) rfl z_w51 hC.1 rfl rfl rfl rfl rfl (Nat.le_of_ble_eq_true rfl) (Nat.le_of_ble_eq_true rfl) (Nat.le_of_ble_eq_true rfl) (Nat.le_of_ble_eq_true rfl) (cB_count hC ?_)
      refine z_icmp_ge rfl (fun c25 => ?_) (fun c25 => absurd (show nI (x.1 0) ≤ nI i from (nI_leI (by omega) (by omega)).mpr (by omega)) c25)
      refine z_aload_n rfl rfl ?_
      refine z_iload_n rfl rfl ?_
      refine z_callV (av := [_]) rfl z_w53 hC.1 rfl rfl rfl rfl rfl (Nat.le_of_ble_eq_true rfl) (Nat.le_of_ble_eq_true rfl) (Nat.le_of_ble_eq_true rfl) (Nat.le_of_ble_eq_true rfl) (cB_isAdjourned hC ?_)
      refine z_if_eq rfl (fun c74 => ?_) (fun c74 => ?_)
      · refine z_iload_n rfl rfl ?_
        refine z_aload_n rfl rfl ?_
        refine z_get rfl hC.1 rfl ?_
        refine z_iload_n rfl rfl ?_
        refine z_callV (av := [_]) rfl z_w10 (hC.2 5 (by decide)).1 rfl rfl rfl rfl rfl (Nat.le_of_ble_eq_true rfl) (Nat.le_of_ble_eq_true rfl) (Nat.le_of_ble_eq_true rfl) (Nat.le_of_ble_eq_true rfl) (cs_placeOf (hC.2 5 (by decide)) ?_)
        refine z_iadd rfl ?_
        refine z_iret rfl rfl ?_
        subst hs; unfold z_pla at q; rw [if_neg hl, if_neg (by rw [(z_bI _).mp c74]; decide)] at q; rw [show i = x.1 0 by omega]; exact q
      · refine z_iload_n rfl rfl ?_
        refine z_goto rfl ?_
        refine z_iret rfl rfl ?_
        subst hs; unfold z_pla at q; rw [if_neg hl, if_pos (by simpa [z_bI] using c74)] at q; rw [show i = x.1 0 by omega]; exact q
    | succ k ih =>
      intro i s hi hs
      have e0 : z_ahN x l b (i + 1) = z_ahN x l b i + if (z_adj x (nI i) && (decide (z_a x 3 (nI i) ≤ l) && z_ahd x (nI i) b)) = true then 1 else 0 := rfl
      refine z_iload rfl rfl ?_
      refine z_aload_n rfl rfl ?_
      refine z_callV (av := []) rfl z_w51 hC.1 rfl rfl rfl rfl rfl (Nat.le_of_ble_eq_true rfl) (Nat.le_of_ble_eq_true rfl) (Nat.le_of_ble_eq_true rfl) (Nat.le_of_ble_eq_true rfl) (cB_count hC ?_)
      refine z_icmp_ge rfl (fun c25 => absurd c25 (show ¬ nI (x.1 0) ≤ nI i from fun q9 => absurd ((nI_leI (by omega) (by omega)).mp q9) (by omega))) (fun c25 => ?_)
      refine z_aload_n rfl rfl ?_
      refine z_iload rfl rfl ?_
      refine z_callV (av := [_]) rfl z_w53 hC.1 rfl rfl rfl rfl rfl (Nat.le_of_ble_eq_true rfl) (Nat.le_of_ble_eq_true rfl) (Nat.le_of_ble_eq_true rfl) (Nat.le_of_ble_eq_true rfl) (cB_isAdjourned hC ?_)
      refine z_if_eq rfl (fun c34 => ?_) (fun c34 => ?_)
      · refine z_iinc1 rfl rfl (by decide +kernel) rfl ?_
        exact z_goto rfl (ih (i + 1) _ (by omega) (by subst hs; rw [e0, if_neg (by simp [(z_bI _).mp c34])]; rfl))
      · refine z_aload_n rfl rfl ?_
        refine z_get rfl hC.1 rfl ?_
        refine z_iload rfl rfl ?_
        refine z_callV (av := [_]) rfl z_w3 (hC.2 3 (by decide)).1 rfl rfl rfl rfl rfl (Nat.le_of_ble_eq_true rfl) (Nat.le_of_ble_eq_true rfl) (Nat.le_of_ble_eq_true rfl) (Nat.le_of_ble_eq_true rfl) (z_Li.at hC (j := 3) (by decide) ?_)
        refine z_iload_n rfl rfl ?_
        refine z_icmp_gt rfl (fun c47 => ?_) (fun c47 => ?_)
        · refine z_iinc1 rfl rfl (by decide +kernel) rfl ?_
          exact z_goto rfl (ih (i + 1) _ (by omega) (by subst hs; rw [e0, if_neg (by rw [← Int32.not_le] at c47; simp [c47])]; rfl))
        · refine z_aload_n rfl rfl ?_
          refine z_iload rfl rfl ?_
          refine z_iload_n rfl rfl ?_
          refine z_callV (av := [_, _]) rfl z_w62 hC.1 rfl rfl rfl rfl rfl (Nat.le_of_ble_eq_true rfl) (Nat.le_of_ble_eq_true rfl) (Nat.le_of_ble_eq_true rfl) (Nat.le_of_ble_eq_true rfl) (cB_isAheadAsBack hC ?_)
          refine z_if_eq rfl (fun c57 => ?_) (fun c57 => ?_)
          · refine z_iinc1 rfl rfl (by decide +kernel) rfl ?_
            exact z_goto rfl (ih (i + 1) _ (by omega) (by subst hs; rw [e0, if_neg (by simp [(z_bI _).mp c57])]; rfl))
          · refine z_iinc1 rfl rfl (by decide +kernel) rfl ?_
            refine z_iinc1 rfl rfl (by decide +kernel) rfl ?_
            exact z_goto rfl (ih (i + 1) _ (by omega) (by have e1 : z_adj x (nI i) = true := (by simpa [z_bI] using c34); have e2 : z_ahd x (nI i) b = true := (by simpa [z_bI] using c57); subst hs; rw [e0, if_pos (by rw [e1, e2]; rw [Int32.not_lt] at c47; simp [c47])]))
  refine z_aload_n rfl rfl ?_
  refine z_get rfl hC.1 rfl ?_
  refine z_iload_n rfl rfl ?_
  refine z_callV (av := [_]) rfl z_w3 (hC.2 3 (by decide)).1 rfl rfl rfl rfl rfl (Nat.le_of_ble_eq_true rfl) (Nat.le_of_ble_eq_true rfl) (Nat.le_of_ble_eq_true rfl) (Nat.le_of_ble_eq_true rfl) (z_Li.at hC (j := 3) (by decide) ?_)
  refine z_iload_n rfl rfl ?_
  refine z_icmp_le rfl (fun c9 => ?_) (fun c9 => ?_)
  · refine z_iconst (v := nI 0) rfl (by decide) ?_
    refine z_istore_n rfl (by decide +kernel) rfl ?_
    refine z_iconst (v := nI 0) rfl (by decide) ?_
    refine z_istore rfl (by decide +kernel) rfl ?_
    exact loop (by rw [Int32.not_lt]; exact c9) (x.1 0) 0 0 (by omega) rfl
  · refine z_iconst (v := (-1)) rfl (by decide) ?_
    refine z_iret rfl rfl ?_
    unfold z_pla at q; rw [if_pos (by rw [← Int32.not_le]; exact c9)] at q; exact q
theorem cB_billAfter {l p : Int32} (hC : z_Bi h c x) (q : Q (.inl (some (.int (z_bla x l p)))) h) : z_W G 4 0 0 60 0 (z_L0 60 [.ref c, .int l, .int p]) [] h Q := by
  have hn : x.1 0 ≤ 10 := (hC.2 0 (by decide)).fits.1
  have loop : ¬ p < 0 → ∀ (k i : Nat), i + k = x.1 0 → z_first (fun i => decide (z_pla x l (nI i) = p)) (x.1 0) 0 = z_first (fun i => decide (z_pla x l (nI i) = p)) k i → z_W G 4 0 0 60 8 [.ref c, .int l, .int p, .int (nI i)] [] h Q := by
    intro hp k
    induction k with
    | zero =>
      intro i hi he
      refine z_iload_n rfl rfl ?_
      refine z_aload_n rfl rfl ?_
      refine z_callV (av := []) rfl z_w51 hC.1 rfl rfl rfl rfl rfl (Nat.le_of_ble_eq_true rfl) (Nat.le_of_ble_eq_true rfl) (Nat.le_of_ble_eq_true rfl) (Nat.le_of_ble_eq_true rfl) (cB_count hC ?_)
      refine z_icmp_ge rfl (fun c13 => ?_) (fun c13 => absurd (show nI (x.1 0) ≤ nI i from (nI_leI (by omega) (by omega)).mpr (by omega)) c13)
      refine z_iconst (v := (-1)) rfl (by decide) ?_
      refine z_iret rfl rfl ?_
      unfold z_bla at q; rw [if_neg hp, he] at q; exact q
    | succ k ih =>
      intro i hi he
      refine z_iload_n rfl rfl ?_
      refine z_aload_n rfl rfl ?_
      refine z_callV (av := []) rfl z_w51 hC.1 rfl rfl rfl rfl rfl (Nat.le_of_ble_eq_true rfl) (Nat.le_of_ble_eq_true rfl) (Nat.le_of_ble_eq_true rfl) (Nat.le_of_ble_eq_true rfl) (cB_count hC ?_)
      refine z_icmp_ge rfl (fun c13 => absurd c13 (show ¬ nI (x.1 0) ≤ nI i from fun q9 => absurd ((nI_leI (by omega) (by omega)).mp q9) (by omega))) (fun c13 => ?_)
      refine z_aload_n rfl rfl ?_
      refine z_iload_n rfl rfl ?_
      refine z_iload_n rfl rfl ?_
      refine z_callV (av := [_, _]) rfl z_w61 hC.1 rfl rfl rfl rfl rfl (Nat.le_of_ble_eq_true rfl) (Nat.le_of_ble_eq_true rfl) (Nat.le_of_ble_eq_true rfl) (Nat.le_of_ble_eq_true rfl) (cB_placeAfter hC ?_)
      refine z_iload_n rfl rfl ?_
      refine z_icmp_ne rfl (fun c23 => ?_) (fun c23 => ?_)
      · refine z_iinc1 rfl rfl (by decide +kernel) rfl ?_
        exact z_goto rfl (ih (i + 1) (by omega) (he.trans (if_neg (by simp [c23]))))
      · refine z_iload_n rfl rfl ?_
        refine z_iret rfl rfl ?_
        unfold z_bla at q; rw [if_neg hp, he, show z_first (fun i => decide (z_pla x l (nI i) = p)) (k + 1) i = some i from if_pos (by simp [c23])] at q; exact q
  refine z_iload_n rfl rfl ?_
  refine z_if_ge rfl (fun c1 => ?_) (fun c1 => ?_)
  · refine z_iconst (v := nI 0) rfl (by decide) ?_
    refine z_istore_n rfl (by decide +kernel) rfl ?_
    exact loop (by rw [Int32.not_lt]; exact c1) (x.1 0) 0 (by omega) rfl
  · refine z_iconst (v := (-1)) rfl (by decide) ?_
    refine z_iret rfl rfl ?_
    unfold z_bla at q; rw [if_pos (by rw [← Int32.not_le]; exact c1)] at q; exact q
theorem cB_copyFrom {o : Nat} {y : z_LV} (hC : z_Bi h c x) (hO : z_Bi h o y) (hd : o + 13 ≤ c ∨ c + 13 ≤ o) (q : ∀ h', z_Bi h' c y → z_Fr c 13 h h' → Q (.inl none) h') : z_W G 1 0 0 63 0 (z_L0 63 [.ref c, .ref o]) [] h Q := by
  refine z_aload_n rfl rfl ?_
  refine z_get rfl hC.1 rfl ?_
  refine z_aload_n rfl rfl ?_
  refine z_get rfl hO.1 rfl ?_
  refine z_callV (av := [_]) rfl z_w13 (hC.2 0 (by decide)).1 rfl rfl rfl rfl rfl (Nat.le_of_ble_eq_true rfl) (Nat.le_of_ble_eq_true rfl) (Nat.le_of_ble_eq_true rfl) (Nat.le_of_ble_eq_true rfl) (z_Li.copy hC (j := 0) (by decide) (hO.2 0 (by decide)) (by omega) (hO.2 0 (by decide)).fits.1 (fun h1 hC1 hF1 => ?_))
  have kO1 := hO.kept hF1 (by omega)
  refine z_aload_n rfl rfl ?_
  refine z_get rfl hC1.1 rfl ?_
  refine z_aload_n rfl rfl ?_
  refine z_get rfl kO1.1 rfl ?_
  refine z_callV (av := [_]) rfl z_w13 (hC1.2 1 (by decide)).1 rfl rfl rfl rfl rfl (Nat.le_of_ble_eq_true rfl) (Nat.le_of_ble_eq_true rfl) (Nat.le_of_ble_eq_true rfl) (Nat.le_of_ble_eq_true rfl) (z_Li.copy hC1 (j := 1) (by decide) (kO1.2 1 (by decide)) (by omega) (kO1.2 1 (by decide)).fits.1 (fun h2 hC2 hF2 => ?_))
  have kO2 := kO1.kept hF2 (by omega)
  refine z_aload_n rfl rfl ?_
  refine z_get rfl hC2.1 rfl ?_
  refine z_aload_n rfl rfl ?_
  refine z_get rfl kO2.1 rfl ?_
  refine z_callV (av := [_]) rfl z_w13 (hC2.2 2 (by decide)).1 rfl rfl rfl rfl rfl (Nat.le_of_ble_eq_true rfl) (Nat.le_of_ble_eq_true rfl) (Nat.le_of_ble_eq_true rfl) (Nat.le_of_ble_eq_true rfl) (z_Li.copy hC2 (j := 2) (by decide) (kO2.2 2 (by decide)) (by omega) (kO2.2 2 (by decide)).fits.1 (fun h3 hC3 hF3 => ?_))
  have kO3 := kO2.kept hF3 (by omega)
  refine z_aload_n rfl rfl ?_
  refine z_get rfl hC3.1 rfl ?_
  refine z_aload_n rfl rfl ?_
  refine z_get rfl kO3.1 rfl ?_
  refine z_callV (av := [_]) rfl z_w13 (hC3.2 3 (by decide)).1 rfl rfl rfl rfl rfl (Nat.le_of_ble_eq_true rfl) (Nat.le_of_ble_eq_true rfl) (Nat.le_of_ble_eq_true rfl) (Nat.le_of_ble_eq_true rfl) (z_Li.copy hC3 (j := 3) (by decide) (kO3.2 3 (by decide)) (by omega) (kO3.2 3 (by decide)).fits.1 (fun h4 hC4 hF4 => ?_))
  have kO4 := kO3.kept hF4 (by omega)
  refine z_aload_n rfl rfl ?_
  refine z_get rfl hC4.1 rfl ?_
  refine z_aload_n rfl rfl ?_
  refine z_get rfl kO4.1 rfl ?_
  refine z_callV (av := [_]) rfl z_w13 (hC4.2 4 (by decide)).1 rfl rfl rfl rfl rfl (Nat.le_of_ble_eq_true rfl) (Nat.le_of_ble_eq_true rfl) (Nat.le_of_ble_eq_true rfl) (Nat.le_of_ble_eq_true rfl) (z_Li.copy hC4 (j := 4) (by decide) (kO4.2 4 (by decide)) (by omega) (kO4.2 4 (by decide)).fits.1 (fun h5 hC5 hF5 => ?_))
  have kO5 := kO4.kept hF5 (by omega)
  refine z_aload_n rfl rfl ?_
  refine z_get rfl hC5.1 rfl ?_
  refine z_aload_n rfl rfl ?_
  refine z_get rfl kO5.1 rfl ?_
  refine z_callV (av := [_]) rfl z_w13 (hC5.2 5 (by decide)).1 rfl rfl rfl rfl rfl (Nat.le_of_ble_eq_true rfl) (Nat.le_of_ble_eq_true rfl) (Nat.le_of_ble_eq_true rfl) (Nat.le_of_ble_eq_true rfl) (z_Li.copy hC5 (j := 5) (by decide) (kO5.2 5 (by decide)) (by omega) (kO5.2 5 (by decide)).fits.1 (fun h6 hC6 hF6 => ?_))
  have kO6 := kO5.kept hF6 (by omega)
  refine z_vret rfl rfl ?_
  exact q _ (hC6.eqv (z_six ⟨rfl, fun _ _ => rfl⟩ ⟨rfl, fun _ _ => rfl⟩ ⟨rfl, fun _ _ => rfl⟩ ⟨rfl, fun _ _ => rfl⟩ ⟨rfl, fun _ _ => rfl⟩ ⟨rfl, fun _ _ => rfl⟩)) (((((hF1.trans hF2).trans hF3).trans hF4).trans hF5).trans hF6)
end ZBi
