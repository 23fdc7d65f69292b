/-! ClockParliament$Refusal, Order; ClockParliament$House. -/
abbrev z_Rf (h : z_H) (a : Nat) (x : Int32 × Int32) : Prop := h.2 a = some (.inr (7, [.int x.1, .int x.2]))
abbrev z_OV : Type := Nat × Int32 × Int32 × Int32 × Int32
abbrev z_Or (h : z_H) (a : Nat) (o : z_OV) : Prop := h.2 a = some (.inr (5, [.ref (o.1 + 1), .int o.2.1, .int o.2.2.1, .int o.2.2.2.1, .int o.2.2.2.2]))
def z_rClock (v : z_HV) (s l : Int32) : Option (Int32 × Int32) := if s < 0 ∨ 59 < s then some (3, s) else if l < 0 ∨ 3 < l then some (3, l) else if nI (v.1.1 0) < 8 then none else some (1, 8)
def z_rUn (n : Nat) (c : Int32) : Option (Int32 × Int32) := if z_has c n = false then some (2, c) else none
def z_rKey (v : z_HV) (k c : Int32) : Option (Int32 × Int32) := if z_has k (v.1.1 4) = false then some (2, k) else if ¬ c = -1 ∧ z_has c (v.1.1 0) = false then some (2, c) else if z_a v.1 4 k = c then some (4, c) else none
def z_rWind (v : z_HV) (k c : Int32) : Option (Int32 × Int32) := if z_has k (v.1.1 4) = false then some (2, k) else if z_has c (v.1.1 0) = false then some (2, c) else if z_a v.1 4 k = -1 then some (5, k) else if z_agr v.1 (z_a v.1 4 k) c = false then some (10, z_sb (z_a v.1 0 (z_a v.1 4 k)) (z_a v.1 0 c)) else if z_a v.1 1 c = 24 then some (4, 24) else none
def z_rMove (v : z_HV) (c s : Int32) : Option (Int32 × Int32) := if z_has c (v.1.1 0) = false then some (2, c) else if s < 1 ∨ 59 < s then some (3, s) else if z_a v.1 1 c = 0 then some (7, z_a v.1 0 c) else if s / 10 + 1 ≤ z_a v.1 1 c then none else some (6, z_a v.1 1 c)
def z_rBill (v : z_HV) (c s n : Int32) : Option (Int32 × Int32) := if z_has c (v.1.1 0) = false then some (2, c) else if s < 0 ∨ 59 < s then some (3, s) else if n < 1 ∨ 9 < n then some (3, n) else if z_a v.1 1 c = 0 then some (7, z_a v.1 0 c) else if nI (v.2.1.1 0) < 10 then none else some (1, 10)
def z_rAdj (v : z_HV) (b k : Int32) : Option (Int32 × Int32) := if z_has b (v.2.1.1 0) = false then some (2, b) else if k < 1 ∨ 12 < k then some (3, k) else if z_adj v.2.1 b = true then some (8, z_a v.2.1 3 b) else none
def z_rVote (v : z_HV) : Option (Int32 × Int32) := if nI (v.2.1.1 5) = 0 then some (9, z_adjN v.2.1) else none
def z_rHour (n : Int32) : Option (Int32 × Int32) := if n < 1 ∨ 24 < n then some (3, n) else none
def z_ref (v : z_HV) (o : z_OV) : Option (Int32 × Int32) := match o.1 with
  | 0 => z_rClock v o.2.1 o.2.2.1
  | 1 => z_rUn (v.1.1 0) o.2.1
  | 2 => z_rKey v o.2.1 o.2.2.1
  | 3 => z_rWind v o.2.1 o.2.2.1
  | 4 => z_rMove v o.2.1 o.2.2.1
  | 5 => z_rBill v o.2.1 o.2.2.1 o.2.2.2.1
  | 6 => z_rAdj v o.2.1 o.2.2.1
  | 7 => z_rUn (v.2.1.1 0) o.2.1
  | 8 => z_rVote v
  | _ => z_rHour o.2.1
section ZRf
variable {G : z_G} {h : z_H} {Q : z_O → z_H → Prop} {a : Nat} {x : Int32 × Int32}
theorem cR_isNone (hW : z_Rf h a x) (q : Q (.inl (some (.int (if decide (x.1 = 0) = true then 1 else 0)))) h) : z_W G 0 0 0 15 0 (z_L0 15 [.ref a]) [] h Q := by
  refine z_aload_n rfl rfl ?_
  refine z_get rfl hW rfl ?_
  refine z_if_ne rfl (fun c4 => ?_) (fun c4 => ?_)
  · refine z_iconst (v := 0) rfl (by decide) ?_
    refine z_zret (ty := .boolean) rfl rfl (by first | decide | exact z_nb _) ?_
    rw [if_neg (by simpa using c4)] at q; exact q
  · refine z_iconst (v := 1) rfl (by decide) ?_
    refine z_goto rfl ?_
    refine z_zret (ty := .boolean) rfl rfl (by first | decide | exact z_nb _) ?_
    rw [if_pos (by simpa using c4)] at q; exact q
theorem cR_fill {n d : Int32} (hW : z_Rf h a x) (q : ∀ h', z_Rf h' a (n, d) → z_Fr a 1 h h' → Q (.inl none) h') : z_W G 0 0 0 16 0 (z_L0 16 [.ref a, .int n, .int d]) [] h Q := by
  refine z_aload_n rfl rfl ?_
  refine z_iload_n rfl rfl ?_
  refine z_putC rfl hW (by simp) rfl rfl rfl (fun h1 hC1 hF1 => ?_)
  refine z_aload_n rfl rfl ?_
  refine z_iload_n rfl rfl ?_
  refine z_putC rfl hC1 (by simp) rfl rfl rfl (fun h2 hC2 hF2 => ?_)
  refine z_vret rfl rfl ?_
  exact q _ hC2 (hF1.trans hF2)
theorem cR_clear (hW : z_Rf h a x) (q : ∀ h', z_Rf h' a (0, 0) → z_Fr a 1 h h' → Q (.inl none) h') : z_W G 1 0 0 17 0 (z_L0 17 [.ref a]) [] h Q := by
  refine z_aload_n rfl rfl ?_
  refine z_iconst (v := 0) rfl (by decide) ?_
  refine z_iconst (v := 0) rfl (by decide) ?_
  refine z_callV (av := [_, _]) rfl z_w16 hW rfl rfl rfl rfl rfl (Nat.le_of_ble_eq_true rfl) (Nat.le_of_ble_eq_true rfl) (Nat.le_of_ble_eq_true rfl) (Nat.le_of_ble_eq_true rfl) (cR_fill hW (fun h1 hC1 hF1 => ?_))
  refine z_vret rfl rfl ?_
  exact q _ hC1 hF1
theorem cR_copyFrom {b : Nat} {y : Int32 × Int32} (hW : z_Rf h a x) (hO : z_Rf h b y) (q : ∀ h', z_Rf h' a y → z_Fr a 1 h h' → Q (.inl none) h') : z_W G 1 0 0 18 0 (z_L0 18 [.ref a, .ref b]) [] h Q := by
  refine z_aload_n rfl rfl ?_
  refine z_aload_n rfl rfl ?_
  refine z_get rfl hO rfl ?_
  refine z_aload_n rfl rfl ?_
  refine z_get rfl hO rfl ?_
  refine z_callV (av := [_, _]) rfl z_w16 hW rfl rfl rfl rfl rfl (Nat.le_of_ble_eq_true rfl) (Nat.le_of_ble_eq_true rfl) (Nat.le_of_ble_eq_true rfl) (Nat.le_of_ble_eq_true rfl) (cR_fill hW (fun h1 hC1 hF1 => ?_))
  refine z_vret rfl rfl ?_
  exact q _ hC1 hF1
theorem cR_applies {B n d : Int32} (hW : z_Rf h a x) (hB : B = 0 ∨ B = 1) (qt : B = 1 → ∀ h', z_Rf h' a (n, d) → z_Fr a 1 h h' → Q (.inl (some (.int 1))) h') (qf : B = 0 → Q (.inl (some (.int 0))) h) : z_W G 1 0 0 19 0 (z_L0 19 [.ref a, .int B, .int n, .int d]) [] h Q := by
  rcases hB with rfl | rfl
  ·
    refine z_iload_n rfl rfl ?_
    refine z_if_eq rfl (fun c1 => ?_) (fun c1 => absurd rfl c1)
    refine z_iload_n rfl rfl ?_
    refine z_zret (ty := .boolean) rfl rfl (by first | decide | exact z_nb _) ?_
    exact qf rfl
  ·
    refine z_iload_n rfl rfl ?_
    refine z_if_eq rfl (fun c1 => absurd c1 (by decide)) (fun c1 => ?_)
    refine z_aload_n rfl rfl ?_
    refine z_iload_n rfl rfl ?_
    refine z_iload_n rfl rfl ?_
    refine z_callV (av := [_, _]) rfl z_w16 hW rfl rfl rfl rfl rfl (Nat.le_of_ble_eq_true rfl) (Nat.le_of_ble_eq_true rfl) (Nat.le_of_ble_eq_true rfl) (Nat.le_of_ble_eq_true rfl) (cR_fill hW (fun h1 hC1 hF1 => ?_))
    refine z_iload_n rfl rfl ?_
    refine z_zret (ty := .boolean) rfl rfl (by first | decide | exact z_nb _) ?_
    exact qt rfl _ hC1 hF1
theorem cR_isUnknown {B d : Int32} (hW : z_Rf h a x) (hB : B = 0 ∨ B = 1) (qt : B = 0 → ∀ h', z_Rf h' a (2, d) → z_Fr a 1 h h' → Q (.inl (some (.int 1))) h') (qf : B = 1 → Q (.inl (some (.int 0))) h) : z_W G 2 0 0 20 0 (z_L0 20 [.ref a, .int B, .int d]) [] h Q := by
  refine z_aload_n rfl rfl ?_
  refine z_iload_n rfl rfl ?_
  refine z_if_ne rfl (fun c2 => ?_) (fun c2 => ?_)
  · refine z_iconst (v := 0) rfl (by decide) ?_
    refine z_iconst (v := 2) rfl (by decide) ?_
    refine z_iload_n rfl rfl ?_
    refine z_callV (av := [_, _, _]) rfl z_w19 hW rfl rfl rfl rfl rfl (Nat.le_of_ble_eq_true rfl) (Nat.le_of_ble_eq_true rfl) (Nat.le_of_ble_eq_true rfl) (Nat.le_of_ble_eq_true rfl) (cR_applies hW (Or.inl rfl) (fun e9 => absurd e9 (by decide)) (fun e12 => ?_))
    refine z_zret (ty := .boolean) rfl rfl (by first | decide | exact z_nb _) ?_
    exact qf (hB.resolve_left c2)
  · refine z_iconst (v := 1) rfl (by decide) ?_
    refine z_goto rfl ?_
    refine z_iconst (v := 2) rfl (by decide) ?_
    refine z_iload_n rfl rfl ?_
    refine z_callV (av := [_, _, _]) rfl z_w19 hW rfl rfl rfl rfl rfl (Nat.le_of_ble_eq_true rfl) (Nat.le_of_ble_eq_true rfl) (Nat.le_of_ble_eq_true rfl) (Nat.le_of_ble_eq_true rfl) (cR_applies hW (Or.inr rfl) (fun e12 h1 hC1 hF1 => ?_) (fun e9 => absurd e9 (by decide)))
    refine z_zret (ty := .boolean) rfl rfl (by first | decide | exact z_nb _) ?_
    exact qt c2 _ hC1 hF1
theorem cR_isOutside {v lo hi : Int32} (hW : z_Rf h a x) (qt : (v < lo ∨ hi < v) → ∀ h', z_Rf h' a (3, v) → z_Fr a 1 h h' → Q (.inl (some (.int 1))) h') (qf : ¬ (v < lo ∨ hi < v) → Q (.inl (some (.int 0))) h) : z_W G 2 0 0 21 0 (z_L0 21 [.ref a, .int v, .int lo, .int hi]) [] h Q := by
  refine z_aload_n rfl rfl ?_
  refine z_iload_n rfl rfl ?_
  refine z_iload_n rfl rfl ?_
  refine z_icmp_lt rfl (fun c3 => ?_) (fun c3 => ?_)
  · refine z_iconst (v := 1) rfl (by decide) ?_
    refine z_goto rfl ?_
    refine z_iconst (v := 3) rfl (by decide) ?_
    refine z_iload_n rfl rfl ?_
    refine z_callV (av := [_, _, _]) rfl z_w19 hW rfl rfl rfl rfl rfl (Nat.le_of_ble_eq_true rfl) (Nat.le_of_ble_eq_true rfl) (Nat.le_of_ble_eq_true rfl) (Nat.le_of_ble_eq_true rfl) (cR_applies hW (Or.inr rfl) (fun e18 h1 hC1 hF1 => ?_) (fun e9 => absurd e9 (by decide)))
    refine z_zret (ty := .boolean) rfl rfl (by first | decide | exact z_nb _) ?_
    exact qt (Or.inl c3) _ hC1 hF1
  · refine z_iload_n rfl rfl ?_
    refine z_iload_n rfl rfl ?_
    refine z_icmp_le rfl (fun c8 => ?_) (fun c8 => ?_)
    · refine z_iconst (v := 0) rfl (by decide) ?_
      refine z_iconst (v := 3) rfl (by decide) ?_
      refine z_iload_n rfl rfl ?_
      refine z_callV (av := [_, _, _]) rfl z_w19 hW rfl rfl rfl rfl rfl (Nat.le_of_ble_eq_true rfl) (Nat.le_of_ble_eq_true rfl) (Nat.le_of_ble_eq_true rfl) (Nat.le_of_ble_eq_true rfl) (cR_applies hW (Or.inl rfl) (fun e9 => absurd e9 (by decide)) (fun e18 => ?_))
      refine z_zret (ty := .boolean) rfl rfl (by first | decide | exact z_nb _) ?_
      exact qf (fun q9 => q9.elim c3 (fun q8 => absurd c8 (by rw [Int32.not_le]; exact q8)))
    · refine z_iconst (v := 1) rfl (by decide) ?_
      refine z_goto rfl ?_
      refine z_iconst (v := 3) rfl (by decide) ?_
      refine z_iload_n rfl rfl ?_
      refine z_callV (av := [_, _, _]) rfl z_w19 hW rfl rfl rfl rfl rfl (Nat.le_of_ble_eq_true rfl) (Nat.le_of_ble_eq_true rfl) (Nat.le_of_ble_eq_true rfl) (Nat.le_of_ble_eq_true rfl) (cR_applies hW (Or.inr rfl) (fun e18 h1 hC1 hF1 => ?_) (fun e9 => absurd e9 (by decide)))
      refine z_zret (ty := .boolean) rfl rfl (by first | decide | exact z_nb _) ?_
      exact qt (Or.inr (by rw [← Int32.not_le]; exact c8)) _ hC1 hF1
end ZRf
section ZOr
variable {G : z_G} {h : z_H} {Q : z_O → z_H → Prop} {a : Nat} {o : z_OV}
theorem cO_fill {k : Nat} {f s t : Int32} (hW : z_Or h a o) (q : ∀ h', z_Or h' a (k, f, s, t, 0) → z_Fr a 1 h h' → Q (.inl none) h') : z_W G 0 0 0 23 0 (z_L0 23 [.ref a, .ref (k + 1), .int f, .int s, .int t]) [] h Q := by
  refine z_aload_n rfl rfl ?_
  refine z_aload_n rfl rfl ?_
  refine z_putC rfl hW (by simp) rfl rfl rfl (fun h1 hC1 hF1 => ?_)
  refine z_aload_n rfl rfl ?_
  refine z_iload_n rfl rfl ?_
  refine z_putC rfl hC1 (by simp) rfl rfl rfl (fun h2 hC2 hF2 => ?_)
  refine z_aload_n rfl rfl ?_
  refine z_iload_n rfl rfl ?_
  refine z_putC rfl hC2 (by simp) rfl rfl rfl (fun h3 hC3 hF3 => ?_)
  refine z_aload_n rfl rfl ?_
  refine z_iload rfl rfl ?_
  refine z_putC rfl hC3 (by simp) rfl rfl rfl (fun h4 hC4 hF4 => ?_)
  refine z_aload_n rfl rfl ?_
  refine z_iconst (v := 0) rfl (by decide) ?_
  refine z_putC rfl hC4 (by simp) rfl rfl rfl (fun h5 hC5 hF5 => ?_)
  refine z_vret rfl rfl ?_
  exact q _ hC5 ((((hF1.trans hF2).trans hF3).trans hF4).trans hF5)
def z_tk (o : z_OV) (n : Int32) : z_OV := if o.2.2.2.2 = 0 then (o.1, n, o.2.2.1, o.2.2.2.1, o.2.2.2.2 + 1) else if o.2.2.2.2 = 1 then (o.1, o.2.1, n, o.2.2.2.1, o.2.2.2.2 + 1) else (o.1, o.2.1, o.2.2.1, n, o.2.2.2.2 + 1)
theorem cO_take {n : Int32} (hW : z_Or h a o) (q : ∀ h', z_Or h' a (z_tk o n) → z_Fr a 1 h h' → Q (.inl none) h') : z_W G 0 0 0 24 0 (z_L0 24 [.ref a, .int n]) [] h Q := by
  refine z_aload_n rfl rfl ?_
  refine z_get rfl hW rfl ?_
  refine z_if_ne rfl (fun c4 => ?_) (fun c4 => ?_)
  · refine z_aload_n rfl rfl ?_
    refine z_get rfl hW rfl ?_
    refine z_iconst (v := 1) rfl (by decide) ?_
    refine z_icmp_ne rfl (fun c20 => ?_) (fun c20 => ?_)
    · refine z_aload_n rfl rfl ?_
      refine z_iload_n rfl rfl ?_
      refine z_putC rfl hW (by simp) rfl rfl rfl (fun h1 hC1 hF1 => ?_)
      refine z_aload_n rfl rfl ?_
      refine z_dup rfl rfl ?_
      refine z_get rfl hC1 rfl ?_
      refine z_iconst (v := 1) rfl (by decide) ?_
      refine z_iadd rfl ?_
      refine z_putC rfl hC1 (by simp) rfl rfl rfl (fun h2 hC2 hF2 => ?_)
      refine z_vret rfl rfl ?_
      unfold z_tk at q; rw [if_neg c4, if_neg c20] at q; exact q _ hC2 (hF1.trans hF2)
    · refine z_aload_n rfl rfl ?_
      refine z_iload_n rfl rfl ?_
      refine z_putC rfl hW (by simp) rfl rfl rfl (fun h1 hC1 hF1 => ?_)
      refine z_goto rfl ?_
      refine z_aload_n rfl rfl ?_
      refine z_dup rfl rfl ?_
      refine z_get rfl hC1 rfl ?_
      refine z_iconst (v := 1) rfl (by decide) ?_
      refine z_iadd rfl ?_
      refine z_putC rfl hC1 (by simp) rfl rfl rfl (fun h2 hC2 hF2 => ?_)
      refine z_vret rfl rfl ?_
      unfold z_tk at q; rw [if_neg c4, if_pos (by simpa using c20)] at q; exact q _ hC2 (hF1.trans hF2)
  · refine z_aload_n rfl rfl ?_
    refine z_iload_n rfl rfl ?_
    refine z_putC rfl hW (by simp) rfl rfl rfl (fun h1 hC1 hF1 => ?_)
    refine z_goto rfl ?_
    refine z_aload_n rfl rfl ?_
    refine z_dup rfl rfl ?_
    refine z_get rfl hC1 rfl ?_
    refine z_iconst (v := 1) rfl (by decide) ?_
    refine z_iadd rfl ?_
    refine z_putC rfl hC1 (by simp) rfl rfl rfl (fun h2 hC2 hF2 => ?_)
    refine z_vret rfl rfl ?_
    unfold z_tk at q; rw [if_pos (by simpa using c4)] at q; exact q _ hC2 (hF1.trans hF2)
end ZOr
section ZHr
variable {G : z_G} {h : z_H} {Q : z_O → z_H → Prop} {b w : Nat} {v : z_HV} {x : Int32 × Int32}
theorem cH_refusesClock {s l : Int32} (hH : z_Hs h b v) (hW : z_Rf h w x) (hd : w + 1 ≤ b ∨ b + 25 ≤ w) (qt : ∀ p, z_rClock v s l = some p → ∀ h', z_Rf h' w p → z_Fr w 1 h h' → Q (.inl (some (.int 1))) h') (qf : z_rClock v s l = none → Q (.inl (some (.int 0))) h) : z_W G 6 0 0 67 0 (z_L0 67 [.ref b, .int s, .int l, .ref w]) [] h Q := by
  refine z_aload_n rfl rfl ?_
  refine z_iload_n rfl rfl ?_
  refine z_iconst (v := 0) rfl (by decide) ?_
  refine z_bipush (v := 59) rfl (by decide) ?_
  refine z_callV (av := [_, _, _]) rfl z_w21 hW rfl rfl rfl rfl rfl (Nat.le_of_ble_eq_true rfl) (Nat.le_of_ble_eq_true rfl) (Nat.le_of_ble_eq_true rfl) (Nat.le_of_ble_eq_true rfl) (cR_isOutside hW (fun e5 h1 hC1 hF1 => ?_) (fun e5 => ?_))
  · have kH1 := hH.kept hF1 (by omega)
    refine z_if_ne rfl (fun c8 => ?_) (fun c8 => absurd c8 (by decide))
    refine z_iconst (v := 1) rfl (by decide) ?_
    refine z_goto rfl ?_
    refine z_zret (ty := .boolean) rfl rfl (by first | decide | exact z_nb _) ?_
    exact qt _ (by rw [z_rClock, if_pos e5]) _ hC1 hF1
  · refine z_if_ne rfl (fun c8 => absurd c8 (by decide)) (fun c8 => ?_)
    refine z_aload_n rfl rfl ?_
    refine z_iload_n rfl rfl ?_
    refine z_iconst (v := 0) rfl (by decide) ?_
    refine z_iconst (v := 3) rfl (by decide) ?_
    refine z_callV (av := [_, _, _]) rfl z_w21 hW rfl rfl rfl rfl rfl (Nat.le_of_ble_eq_true rfl) (Nat.le_of_ble_eq_true rfl) (Nat.le_of_ble_eq_true rfl) (Nat.le_of_ble_eq_true rfl) (cR_isOutside hW (fun e15 h2 hC2 hF2 => ?_) (fun e15 => ?_))
    · have kH2 := hH.kept hF2 (by omega)
      refine z_if_ne rfl (fun c18 => ?_) (fun c18 => absurd c18 (by decide))
      refine z_iconst (v := 1) rfl (by decide) ?_
      refine z_goto rfl ?_
      refine z_zret (ty := .boolean) rfl rfl (by first | decide | exact z_nb _) ?_
      exact qt _ (by rw [z_rClock, if_neg e5, if_pos e15]) _ hC2 hF2
    · refine z_if_ne rfl (fun c18 => absurd c18 (by decide)) (fun c18 => ?_)
      refine z_aload_n rfl rfl ?_
      refine z_aload_n rfl rfl ?_
      refine z_get rfl hH.1 rfl ?_
      refine z_callV (av := []) rfl z_w27 hH.2.1.1 rfl rfl rfl rfl rfl (Nat.le_of_ble_eq_true rfl) (Nat.le_of_ble_eq_true rfl) (Nat.le_of_ble_eq_true rfl) (Nat.le_of_ble_eq_true rfl) (cC_count hH.2.1 ?_)
      refine z_bipush (v := 8) rfl (by decide) ?_
      refine z_icmp_lt rfl (fun c31 => ?_) (fun c31 => ?_)
      · refine z_iconst (v := 0) rfl (by decide) ?_
        refine z_iconst (v := 1) rfl (by decide) ?_
        refine z_bipush (v := 8) rfl (by decide) ?_
        refine z_callV (av := [_, _, _]) rfl z_w19 hW rfl rfl rfl rfl rfl (Nat.le_of_ble_eq_true rfl) (Nat.le_of_ble_eq_true rfl) (Nat.le_of_ble_eq_true rfl) (Nat.le_of_ble_eq_true rfl) (cR_applies hW (Or.inl rfl) (fun e9 => absurd e9 (by decide)) (fun e42 => ?_))
        refine z_if_eq rfl (fun c45 => ?_) (fun c45 => absurd c45 (by decide))
        refine z_iconst (v := 0) rfl (by decide) ?_
        refine z_zret (ty := .boolean) rfl rfl (by first | decide | exact z_nb _) ?_
        exact qf (by rw [z_rClock, if_neg e5, if_neg e15, if_pos c31])
      · refine z_iconst (v := 1) rfl (by decide) ?_
        refine z_goto rfl ?_
        refine z_iconst (v := 1) rfl (by decide) ?_
        refine z_bipush (v := 8) rfl (by decide) ?_
        refine z_callV (av := [_, _, _]) rfl z_w19 hW rfl rfl rfl rfl rfl (Nat.le_of_ble_eq_true rfl) (Nat.le_of_ble_eq_true rfl) (Nat.le_of_ble_eq_true rfl) (Nat.le_of_ble_eq_true rfl) (cR_applies hW (Or.inr rfl) (fun e42 h3 hC3 hF3 => ?_) (fun e9 => absurd e9 (by decide)))
        have kH3 := hH.kept hF3 (by omega)
        refine z_if_eq rfl (fun c45 => absurd c45 (by decide)) (fun c45 => ?_)
        refine z_iconst (v := 1) rfl (by decide) ?_
        refine z_goto rfl ?_
        refine z_zret (ty := .boolean) rfl rfl (by first | decide | exact z_nb _) ?_
        exact qt _ (by rw [z_rClock, if_neg e5, if_neg e15, if_neg c31]) _ hC3 hF3
theorem cH_refusesKey {s l : Int32} (hH : z_Hs h b v) (hW : z_Rf h w x) (hd : w + 1 ≤ b ∨ b + 25 ≤ w) (qt : ∀ p, z_rKey v s l = some p → ∀ h', z_Rf h' w p → z_Fr w 1 h h' → Q (.inl (some (.int 1))) h') (qf : z_rKey v s l = none → Q (.inl (some (.int 0))) h) : z_W G 6 0 0 68 0 (z_L0 68 [.ref b, .int s, .int l, .ref w]) [] h Q := by
  refine z_aload_n rfl rfl ?_
  refine z_aload_n rfl rfl ?_
  refine z_get rfl hH.1 rfl ?_
  refine z_get rfl hH.2.1.1 rfl ?_
  refine z_iload_n rfl rfl ?_
  refine z_callV (av := [_]) rfl z_w2 (hH.2.1.2 4 (by decide)).1 rfl rfl rfl rfl rfl (Nat.le_of_ble_eq_true rfl) (Nat.le_of_ble_eq_true rfl) (Nat.le_of_ble_eq_true rfl) (Nat.le_of_ble_eq_true rfl) (cs_has (hH.2.1.2 4 (by decide)) ?_)
  refine z_iload_n rfl rfl ?_
  refine z_callV (av := [_, _]) rfl z_w20 hW rfl rfl rfl rfl rfl (Nat.le_of_ble_eq_true rfl) (Nat.le_of_ble_eq_true rfl) (Nat.le_of_ble_eq_true rfl) (Nat.le_of_ble_eq_true rfl) (cR_isUnknown hW (z_b01 _) (fun e13 h1 hC1 hF1 => ?_) (fun e13 => ?_))
  · have kH1 := hH.kept hF1 (by omega)
    refine z_if_ne rfl (fun c16 => ?_) (fun c16 => absurd c16 (by decide))
    refine z_iconst (v := 1) rfl (by decide) ?_
    refine z_goto rfl ?_
    refine z_zret (ty := .boolean) rfl rfl (by first | decide | exact z_nb _) ?_
    exact qt _ (by rw [z_rKey, if_pos ((z_bI _).mp e13)]) _ hC1 hF1
  · refine z_if_ne rfl (fun c16 => absurd c16 (by decide)) (fun c16 => ?_)
    refine z_aload_n rfl rfl ?_
    refine z_iload_n rfl rfl ?_
    refine z_iconst (v := (-1)) rfl (by decide) ?_
    refine z_icmp_eq rfl (fun c22 => ?_) (fun c22 => ?_)
    · refine z_iconst (v := 1) rfl (by decide) ?_
      refine z_goto rfl ?_
      refine z_iload_n rfl rfl ?_
      refine z_callV (av := [_, _]) rfl z_w20 hW rfl rfl rfl rfl rfl (Nat.le_of_ble_eq_true rfl) (Nat.le_of_ble_eq_true rfl) (Nat.le_of_ble_eq_true rfl) (Nat.le_of_ble_eq_true rfl) (cR_isUnknown hW (Or.inr rfl) (fun e9 => absurd e9 (by decide)) (fun e42 => ?_))
      refine z_if_ne rfl (fun c45 => absurd c45 (by decide)) (fun c45 => ?_)
      refine z_aload_n rfl rfl ?_
      refine z_aload_n rfl rfl ?_
      refine z_get rfl hH.1 rfl ?_
      refine z_get rfl hH.2.1.1 rfl ?_
      refine z_iload_n rfl rfl ?_
      refine z_callV (av := [_]) rfl z_w3 (hH.2.1.2 4 (by decide)).1 rfl rfl rfl rfl rfl (Nat.le_of_ble_eq_true rfl) (Nat.le_of_ble_eq_true rfl) (Nat.le_of_ble_eq_true rfl) (Nat.le_of_ble_eq_true rfl) (z_Li.at hH.2.1 (j := 4) (by decide) ?_)
      refine z_iload_n rfl rfl ?_
      refine z_icmp_ne rfl (fun c61 => ?_) (fun c61 => ?_)
      · refine z_iconst (v := 0) rfl (by decide) ?_
        refine z_iconst (v := 4) rfl (by decide) ?_
        refine z_iload_n rfl rfl ?_
        refine z_callV (av := [_, _, _]) rfl z_w19 hW rfl rfl rfl rfl rfl (Nat.le_of_ble_eq_true rfl) (Nat.le_of_ble_eq_true rfl) (Nat.le_of_ble_eq_true rfl) (Nat.le_of_ble_eq_true rfl) (cR_applies hW (Or.inl rfl) (fun e9 => absurd e9 (by decide)) (fun e71 => ?_))
        refine z_if_eq rfl (fun c74 => ?_) (fun c74 => absurd c74 (by decide))
        refine z_iconst (v := 0) rfl (by decide) ?_
        refine z_zret (ty := .boolean) rfl rfl (by first | decide | exact z_nb _) ?_
        exact qf (by rw [z_rKey, if_neg (z_bT e13), if_neg (fun q9 => q9.1 c22), if_neg c61])
      · refine z_iconst (v := 1) rfl (by decide) ?_
        refine z_goto rfl ?_
        refine z_iconst (v := 4) rfl (by decide) ?_
        refine z_iload_n rfl rfl ?_
        refine z_callV (av := [_, _, _]) rfl z_w19 hW rfl rfl rfl rfl rfl (Nat.le_of_ble_eq_true rfl) (Nat.le_of_ble_eq_true rfl) (Nat.le_of_ble_eq_true rfl) (Nat.le_of_ble_eq_true rfl) (cR_applies hW (Or.inr rfl) (fun e71 h3 hC3 hF3 => ?_) (fun e9 => absurd e9 (by decide)))
        have kH3 := hH.kept hF3 (by omega)
        refine z_if_eq rfl (fun c74 => absurd c74 (by decide)) (fun c74 => ?_)
        refine z_iconst (v := 1) rfl (by decide) ?_
        refine z_goto rfl ?_
        refine z_zret (ty := .boolean) rfl rfl (by first | decide | exact z_nb _) ?_
        exact qt _ (by rw [z_rKey, if_neg (z_bT e13), if_neg (fun q9 => q9.1 c22), if_pos c61]) _ hC3 hF3
    · refine z_aload_n rfl rfl ?_
      refine z_get rfl hH.1 rfl ?_
      refine z_iload_n rfl rfl ?_
      refine z_callV (av := [_]) rfl z_w28 hH.2.1.1 rfl rfl rfl rfl rfl (Nat.le_of_ble_eq_true rfl) (Nat.le_of_ble_eq_true rfl) (Nat.le_of_ble_eq_true rfl) (Nat.le_of_ble_eq_true rfl) (cC_has hH.2.1 ?_)
      refine z_if_eq rfl (fun c33 => ?_) (fun c33 => ?_)
      · refine z_iconst (v := 0) rfl (by decide) ?_
        refine z_iload_n rfl rfl ?_
        refine z_callV (av := [_, _]) rfl z_w20 hW rfl rfl rfl rfl rfl (Nat.le_of_ble_eq_true rfl) (Nat.le_of_ble_eq_true rfl) (Nat.le_of_ble_eq_true rfl) (Nat.le_of_ble_eq_true rfl) (cR_isUnknown hW (Or.inl rfl) (fun e42 h2 hC2 hF2 => ?_) (fun e9 => absurd e9 (by decide)))
        have kH2 := hH.kept hF2 (by omega)
        refine z_if_ne rfl (fun c45 => ?_) (fun c45 => absurd c45 (by decide))
        refine z_iconst (v := 1) rfl (by decide) ?_
        refine z_goto rfl ?_
        refine z_zret (ty := .boolean) rfl rfl (by first | decide | exact z_nb _) ?_
        exact qt _ (by rw [z_rKey, if_neg (z_bT e13), if_pos ⟨c22, (z_bI _).mp c33⟩]) _ hC2 hF2
      · refine z_iconst (v := 1) rfl (by decide) ?_
        refine z_goto rfl ?_
        refine z_iload_n rfl rfl ?_
        refine z_callV (av := [_, _]) rfl z_w20 hW rfl rfl rfl rfl rfl (Nat.le_of_ble_eq_true rfl) (Nat.le_of_ble_eq_true rfl) (Nat.le_of_ble_eq_true rfl) (Nat.le_of_ble_eq_true rfl) (cR_isUnknown hW (Or.inr rfl) (fun e9 => absurd e9 (by decide)) (fun e42 => ?_))
        refine z_if_ne rfl (fun c45 => absurd c45 (by decide)) (fun c45 => ?_)
        refine z_aload_n rfl rfl ?_
        refine z_aload_n rfl rfl ?_
        refine z_get rfl hH.1 rfl ?_
        refine z_get rfl hH.2.1.1 rfl ?_
        refine z_iload_n rfl rfl ?_
        refine z_callV (av := [_]) rfl z_w3 (hH.2.1.2 4 (by decide)).1 rfl rfl rfl rfl rfl (Nat.le_of_ble_eq_true rfl) (Nat.le_of_ble_eq_true rfl) (Nat.le_of_ble_eq_true rfl) (Nat.le_of_ble_eq_true rfl) (z_Li.at hH.2.1 (j := 4) (by decide) ?_)
        refine z_iload_n rfl rfl ?_
        refine z_icmp_ne rfl (fun c61 => ?_) (fun c61 => ?_)
        · refine z_iconst (v := 0) rfl (by decide) ?_
          refine z_iconst (v := 4) rfl (by decide) ?_
          refine z_iload_n rfl rfl ?_
          refine z_callV (av := [_, _, _]) rfl z_w19 hW rfl rfl rfl rfl rfl (Nat.le_of_ble_eq_true rfl) (Nat.le_of_ble_eq_true rfl) (Nat.le_of_ble_eq_true rfl) (Nat.le_of_ble_eq_true rfl) (cR_applies hW (Or.inl rfl) (fun e9 => absurd e9 (by decide)) (fun e71 => ?_))
          refine z_if_eq rfl (fun c74 => ?_) (fun c74 => absurd c74 (by decide))
          refine z_iconst (v := 0) rfl (by decide) ?_
          refine z_zret (ty := .boolean) rfl rfl (by first | decide | exact z_nb _) ?_
          exact qf (by rw [z_rKey, if_neg (z_bT e13), if_neg (fun q9 => c33 ((z_bI _).mpr q9.2)), if_neg c61])
        · refine z_iconst (v := 1) rfl (by decide) ?_
          refine z_goto rfl ?_
          refine z_iconst (v := 4) rfl (by decide) ?_
          refine z_iload_n rfl rfl ?_
          refine z_callV (av := [_, _, _]) rfl z_w19 hW rfl rfl rfl rfl rfl (Nat.le_of_ble_eq_true rfl) (Nat.le_of_ble_eq_true rfl) (Nat.le_of_ble_eq_true rfl) (Nat.le_of_ble_eq_true rfl) (cR_applies hW (Or.inr rfl) (fun e71 h3 hC3 hF3 => ?_) (fun e9 => absurd e9 (by decide)))
          have kH3 := hH.kept hF3 (by omega)
          refine z_if_eq rfl (fun c74 => absurd c74 (by decide)) (fun c74 => ?_)
          refine z_iconst (v := 1) rfl (by decide) ?_
          refine z_goto rfl ?_
          refine z_zret (ty := .boolean) rfl rfl (by first | decide | exact z_nb _) ?_
          exact qt _ (by rw [z_rKey, if_neg (z_bT e13), if_neg (fun q9 => c33 ((z_bI _).mpr q9.2)), if_pos c61]) _ hC3 hF3
theorem cH_refusesWinding {s l : Int32} (hH : z_Hs h b v) (hW : z_Rf h w x) (hd : w + 1 ≤ b ∨ b + 25 ≤ w) (qt : ∀ p, z_rWind v s l = some p → ∀ h', z_Rf h' w p → z_Fr w 1 h h' → Q (.inl (some (.int 1))) h') (qf : z_rWind v s l = none → Q (.inl (some (.int 0))) h) : z_W G 6 0 0 69 0 (z_L0 69 [.ref b, .int s, .int l, .ref w]) [] h Q := by
  refine z_aload_n rfl rfl ?_
  refine z_aload_n rfl rfl ?_
  refine z_get rfl hH.1 rfl ?_
  refine z_get rfl hH.2.1.1 rfl ?_
  refine z_iload_n rfl rfl ?_
  refine z_callV (av := [_]) rfl z_w2 (hH.2.1.2 4 (by decide)).1 rfl rfl rfl rfl rfl (Nat.le_of_ble_eq_true rfl) (Nat.le_of_ble_eq_true rfl) (Nat.le_of_ble_eq_true rfl) (Nat.le_of_ble_eq_true rfl) (cs_has (hH.2.1.2 4 (by decide)) ?_)
  refine z_iload_n rfl rfl ?_
  refine z_callV (av := [_, _]) rfl z_w20 hW rfl rfl rfl rfl rfl (Nat.le_of_ble_eq_true rfl) (Nat.le_of_ble_eq_true rfl) (Nat.le_of_ble_eq_true rfl) (Nat.le_of_ble_eq_true rfl) (cR_isUnknown hW (z_b01 _) (fun e13 h1 hC1 hF1 => ?_) (fun e13 => ?_))
  · have kH1 := hH.kept hF1 (by omega)
    refine z_if_ne rfl (fun c16 => ?_) (fun c16 => absurd c16 (by decide))
    refine z_iconst (v := 1) rfl (by decide) ?_
    refine z_zret (ty := .boolean) rfl rfl (by first | decide | exact z_nb _) ?_
    exact qt _ (by rw [z_rWind, if_pos ((z_bI _).mp e13)]) _ hC1 hF1
  · refine z_if_ne rfl (fun c16 => absurd c16 (by decide)) (fun c16 => ?_)
    refine z_aload_n rfl rfl ?_
    refine z_aload_n rfl rfl ?_
    refine z_get rfl hH.1 rfl ?_
    refine z_iload_n rfl rfl ?_
    refine z_callV (av := [_]) rfl z_w28 hH.2.1.1 rfl rfl rfl rfl rfl (Nat.le_of_ble_eq_true rfl) (Nat.le_of_ble_eq_true rfl) (Nat.le_of_ble_eq_true rfl) (Nat.le_of_ble_eq_true rfl) (cC_has hH.2.1 ?_)
    refine z_iload_n rfl rfl ?_
    refine z_callV (av := [_, _]) rfl z_w20 hW rfl rfl rfl rfl rfl (Nat.le_of_ble_eq_true rfl) (Nat.le_of_ble_eq_true rfl) (Nat.le_of_ble_eq_true rfl) (Nat.le_of_ble_eq_true rfl) (cR_isUnknown hW (z_b01 _) (fun e29 h2 hC2 hF2 => ?_) (fun e29 => ?_))
    · have kH2 := hH.kept hF2 (by omega)
      refine z_if_eq rfl (fun c32 => absurd c32 (by decide)) (fun c32 => ?_)
      refine z_iconst (v := 1) rfl (by decide) ?_
      refine z_zret (ty := .boolean) rfl rfl (by first | decide | exact z_nb _) ?_
      exact qt _ (by rw [z_rWind, if_neg (z_bT e13), if_pos ((z_bI _).mp e29)]) _ hC2 hF2
    · refine z_if_eq rfl (fun c32 => ?_) (fun c32 => absurd c32 (by decide))
      refine z_aload_n rfl rfl ?_
      refine z_get rfl hH.1 rfl ?_
      refine z_get rfl hH.2.1.1 rfl ?_
      refine z_iload_n rfl rfl ?_
      refine z_callV (av := [_]) rfl z_w3 (hH.2.1.2 4 (by decide)).1 rfl rfl rfl rfl rfl (Nat.le_of_ble_eq_true rfl) (Nat.le_of_ble_eq_true rfl) (Nat.le_of_ble_eq_true rfl) (Nat.le_of_ble_eq_true rfl) (z_Li.at hH.2.1 (j := 4) (by decide) ?_)
      refine z_istore rfl (by decide +kernel) rfl ?_
      refine z_aload_n rfl rfl ?_
      refine z_iload rfl rfl ?_
      refine z_iconst (v := (-1)) rfl (by decide) ?_
      refine z_icmp_ne rfl (fun c54 => ?_) (fun c54 => ?_)
      · refine z_iconst (v := 0) rfl (by decide) ?_
        refine z_iconst (v := 5) rfl (by decide) ?_
        refine z_iload_n rfl rfl ?_
        refine z_callV (av := [_, _, _]) rfl z_w19 hW rfl rfl rfl rfl rfl (Nat.le_of_ble_eq_true rfl) (Nat.le_of_ble_eq_true rfl) (Nat.le_of_ble_eq_true rfl) (Nat.le_of_ble_eq_true rfl) (cR_applies hW (Or.inl rfl) (fun e9 => absurd e9 (by decide)) (fun e64 => ?_))
        refine z_if_ne rfl (fun c67 => absurd c67 (by decide)) (fun c67 => ?_)
        refine z_aload_n rfl rfl ?_
        refine z_aload_n rfl rfl ?_
        refine z_get rfl hH.1 rfl ?_
        refine z_iload rfl rfl ?_
        refine z_iload_n rfl rfl ?_
        refine z_callV (av := [_, _]) rfl z_w31 hH.2.1.1 rfl rfl rfl rfl rfl (Nat.le_of_ble_eq_true rfl) (Nat.le_of_ble_eq_true rfl) (Nat.le_of_ble_eq_true rfl) (Nat.le_of_ble_eq_true rfl) (cC_areAgreed hH.2.1 ?_)
        refine z_if_ne rfl (fun c81 => ?_) (fun c81 => ?_)
        · refine z_iconst (v := 0) rfl (by decide) ?_
          refine z_bipush (v := 10) rfl (by decide) ?_
          refine z_aload_n rfl rfl ?_
          refine z_get rfl hH.1 rfl ?_
          refine z_iload rfl rfl ?_
          refine z_iload_n rfl rfl ?_
          refine z_callV (av := [_, _]) rfl z_w30 hH.2.1.1 rfl rfl rfl rfl rfl (Nat.le_of_ble_eq_true rfl) (Nat.le_of_ble_eq_true rfl) (Nat.le_of_ble_eq_true rfl) (Nat.le_of_ble_eq_true rfl) (cC_difference hH.2.1 ?_)
          refine z_callV (av := [_, _, _]) rfl z_w19 hW rfl rfl rfl rfl rfl (Nat.le_of_ble_eq_true rfl) (Nat.le_of_ble_eq_true rfl) (Nat.le_of_ble_eq_true rfl) (Nat.le_of_ble_eq_true rfl) (cR_applies hW (Or.inl rfl) (fun e9 => absurd e9 (by decide)) (fun e101 => ?_))
          refine z_if_ne rfl (fun c104 => absurd c104 (by decide)) (fun c104 => ?_)
          refine z_aload_n rfl rfl ?_
          refine z_aload_n rfl rfl ?_
          refine z_get rfl hH.1 rfl ?_
          refine z_get rfl hH.2.1.1 rfl ?_
          refine z_iload_n rfl rfl ?_
          refine z_callV (av := [_]) rfl z_w3 (hH.2.1.2 1 (by decide)).1 rfl rfl rfl rfl rfl (Nat.le_of_ble_eq_true rfl) (Nat.le_of_ble_eq_true rfl) (Nat.le_of_ble_eq_true rfl) (Nat.le_of_ble_eq_true rfl) (z_Li.at hH.2.1 (j := 1) (by decide) ?_)
          refine z_bipush (v := 24) rfl (by decide) ?_
          refine z_icmp_ne rfl (fun c121 => ?_) (fun c121 => ?_)
          · refine z_iconst (v := 0) rfl (by decide) ?_
            refine z_iconst (v := 4) rfl (by decide) ?_
            refine z_bipush (v := 24) rfl (by decide) ?_
            refine z_callV (av := [_, _, _]) rfl z_w19 hW rfl rfl rfl rfl rfl (Nat.le_of_ble_eq_true rfl) (Nat.le_of_ble_eq_true rfl) (Nat.le_of_ble_eq_true rfl) (Nat.le_of_ble_eq_true rfl) (cR_applies hW (Or.inl rfl) (fun e9 => absurd e9 (by decide)) (fun e132 => ?_))
            refine z_if_eq rfl (fun c135 => ?_) (fun c135 => absurd c135 (by decide))
            refine z_iconst (v := 0) rfl (by decide) ?_
            refine z_zret (ty := .boolean) rfl rfl (by first | decide | exact z_nb _) ?_
            exact qf (by rw [z_rWind, if_neg (z_bT e13), if_neg (z_bT e29), if_neg c54, if_neg (fun q9 => c81 ((z_bI _).mpr q9)), if_neg c121])
          · refine z_iconst (v := 1) rfl (by decide) ?_
            refine z_goto rfl ?_
            refine z_iconst (v := 4) rfl (by decide) ?_
            refine z_bipush (v := 24) rfl (by decide) ?_
            refine z_callV (av := [_, _, _]) rfl z_w19 hW rfl rfl rfl rfl rfl (Nat.le_of_ble_eq_true rfl) (Nat.le_of_ble_eq_true rfl) (Nat.le_of_ble_eq_true rfl) (Nat.le_of_ble_eq_true rfl) (cR_applies hW (Or.inr rfl) (fun e132 h5 hC5 hF5 => ?_) (fun e9 => absurd e9 (by decide)))
            have kH5 := hH.kept hF5 (by omega)
            refine z_if_eq rfl (fun c135 => absurd c135 (by decide)) (fun c135 => ?_)
            refine z_iconst (v := 1) rfl (by decide) ?_
            refine z_goto rfl ?_
            refine z_zret (ty := .boolean) rfl rfl (by first | decide | exact z_nb _) ?_
            exact qt _ (by rw [z_rWind, if_neg (z_bT e13), if_neg (z_bT e29), if_neg c54, if_neg (fun q9 => c81 ((z_bI _).mpr q9)), if_pos c121]) _ hC5 hF5
        · refine z_iconst (v := 1) rfl (by decide) ?_
          refine z_goto rfl ?_
          refine z_bipush (v := 10) rfl (by decide) ?_
          refine z_aload_n rfl rfl ?_
          refine z_get rfl hH.1 rfl ?_
          refine z_iload rfl rfl ?_
          refine z_iload_n rfl rfl ?_
          refine z_callV (av := [_, _]) rfl z_w30 hH.2.1.1 rfl rfl rfl rfl rfl (Nat.le_of_ble_eq_true rfl) (Nat.le_of_ble_eq_true rfl) (Nat.le_of_ble_eq_true rfl) (Nat.le_of_ble_eq_true rfl) (cC_difference hH.2.1 ?_)
          refine z_callV (av := [_, _, _]) rfl z_w19 hW rfl rfl rfl rfl rfl (Nat.le_of_ble_eq_true rfl) (Nat.le_of_ble_eq_true rfl) (Nat.le_of_ble_eq_true rfl) (Nat.le_of_ble_eq_true rfl) (cR_applies hW (Or.inr rfl) (fun e101 h4 hC4 hF4 => ?_) (fun e9 => absurd e9 (by decide)))
          have kH4 := hH.kept hF4 (by omega)
          refine z_if_ne rfl (fun c104 => ?_) (fun c104 => absurd c104 (by decide))
          refine z_iconst (v := 1) rfl (by decide) ?_
          refine z_goto rfl ?_
          refine z_zret (ty := .boolean) rfl rfl (by first | decide | exact z_nb _) ?_
          exact qt _ (by rw [z_rWind, if_neg (z_bT e13), if_neg (z_bT e29), if_neg c54, if_pos ((z_bI _).mp c81)]) _ hC4 hF4
      · refine z_iconst (v := 1) rfl (by decide) ?_
        refine z_goto rfl ?_
        refine z_iconst (v := 5) rfl (by decide) ?_
        refine z_iload_n rfl rfl ?_
        refine z_callV (av := [_, _, _]) rfl z_w19 hW rfl rfl rfl rfl rfl (Nat.le_of_ble_eq_true rfl) (Nat.le_of_ble_eq_true rfl) (Nat.le_of_ble_eq_true rfl) (Nat.le_of_ble_eq_true rfl) (cR_applies hW (Or.inr rfl) (fun e64 h3 hC3 hF3 => ?_) (fun e9 => absurd e9 (by decide)))
        have kH3 := hH.kept hF3 (by omega)
        refine z_if_ne rfl (fun c67 => ?_) (fun c67 => absurd c67 (by decide))
        refine z_iconst (v := 1) rfl (by decide) ?_
        refine z_goto rfl ?_
        refine z_zret (ty := .boolean) rfl rfl (by first | decide | exact z_nb _) ?_
        exact qt _ (by rw [z_rWind, if_neg (z_bT e13), if_neg (z_bT e29), if_pos c54]) _ hC3 hF3
theorem cH_refusesMove {s l : Int32} (hH : z_Hs h b v) (hW : z_Rf h w x) (hd : w + 1 ≤ b ∨ b + 25 ≤ w) (qt : ∀ p, z_rMove v s l = some p → ∀ h', z_Rf h' w p → z_Fr w 1 h h' → Q (.inl (some (.int 1))) h') (qf : z_rMove v s l = none → Q (.inl (some (.int 0))) h) : z_W G 6 0 0 70 0 (z_L0 70 [.ref b, .int s, .int l, .ref w]) [] h Q := by
  refine z_aload_n rfl rfl ?_
  refine z_get rfl hH.1 rfl ?_
  refine z_get rfl hH.2.1.1 rfl ?_
  refine z_iload_n rfl rfl ?_
  refine z_callV (av := [_]) rfl z_w3 (hH.2.1.2 1 (by decide)).1 rfl rfl rfl rfl rfl (Nat.le_of_ble_eq_true rfl) (Nat.le_of_ble_eq_true rfl) (Nat.le_of_ble_eq_true rfl) (Nat.le_of_ble_eq_true rfl) (z_Li.at hH.2.1 (j := 1) (by decide) ?_)
  refine z_istore rfl (by decide +kernel) rfl ?_
  refine z_aload_n rfl rfl ?_
  refine z_aload_n rfl rfl ?_
  refine z_get rfl hH.1 rfl ?_
  refine z_iload_n rfl rfl ?_
  refine z_callV (av := [_]) rfl z_w28 hH.2.1.1 rfl rfl rfl rfl rfl (Nat.le_of_ble_eq_true rfl) (Nat.le_of_ble_eq_true rfl) (Nat.le_of_ble_eq_true rfl) (Nat.le_of_ble_eq_true rfl) (cC_has hH.2.1 ?_)
  refine z_iload_n rfl rfl ?_
  refine z_callV (av := [_, _]) rfl z_w20 hW rfl rfl rfl rfl rfl (Nat.le_of_ble_eq_true rfl) (Nat.le_of_ble_eq_true rfl) (Nat.le_of_ble_eq_true rfl) (Nat.le_of_ble_eq_true rfl) (cR_isUnknown hW (z_b01 _) (fun e23 h1 hC1 hF1 => ?_) (fun e23 => ?_))
  · have kH1 := hH.kept hF1 (by omega)
    refine z_if_ne rfl (fun c26 => ?_) (fun c26 => absurd c26 (by decide))
    refine z_iconst (v := 1) rfl (by decide) ?_
    refine z_goto rfl ?_
    refine z_zret (ty := .boolean) rfl rfl (by first | decide | exact z_nb _) ?_
    exact qt _ (by rw [z_rMove, if_pos ((z_bI _).mp e23)]) _ hC1 hF1
  · refine z_if_ne rfl (fun c26 => absurd c26 (by decide)) (fun c26 => ?_)
    refine z_aload_n rfl rfl ?_
    refine z_iload_n rfl rfl ?_
    refine z_iconst (v := 1) rfl (by decide) ?_
    refine z_bipush (v := 59) rfl (by decide) ?_
    refine z_callV (av := [_, _, _]) rfl z_w21 hW rfl rfl rfl rfl rfl (Nat.le_of_ble_eq_true rfl) (Nat.le_of_ble_eq_true rfl) (Nat.le_of_ble_eq_true rfl) (Nat.le_of_ble_eq_true rfl) (cR_isOutside hW (fun e34 h2 hC2 hF2 => ?_) (fun e34 => ?_))
    · have kH2 := hH.kept hF2 (by omega)
      refine z_if_ne rfl (fun c37 => ?_) (fun c37 => absurd c37 (by decide))
      refine z_iconst (v := 1) rfl (by decide) ?_
      refine z_goto rfl ?_
      refine z_zret (ty := .boolean) rfl rfl (by first | decide | exact z_nb _) ?_
      exact qt _ (by rw [z_rMove, if_neg (z_bT e23), if_pos e34]) _ hC2 hF2
    · refine z_if_ne rfl (fun c37 => absurd c37 (by decide)) (fun c37 => ?_)
      refine z_aload_n rfl rfl ?_
      refine z_aload_n rfl rfl ?_
      refine z_get rfl hH.1 rfl ?_
      refine z_iload_n rfl rfl ?_
      refine z_callV (av := [_]) rfl z_w29 hH.2.1.1 rfl rfl rfl rfl rfl (Nat.le_of_ble_eq_true rfl) (Nat.le_of_ble_eq_true rfl) (Nat.le_of_ble_eq_true rfl) (Nat.le_of_ble_eq_true rfl) (cC_isSilent hH.2.1 ?_)
      refine z_bipush (v := 7) rfl (by decide) ?_
      refine z_aload_n rfl rfl ?_
      refine z_get rfl hH.1 rfl ?_
      refine z_get rfl hH.2.1.1 rfl ?_
      refine z_iload_n rfl rfl ?_
      refine z_callV (av := [_]) rfl z_w3 (hH.2.1.2 0 (by decide)).1 rfl rfl rfl rfl rfl (Nat.le_of_ble_eq_true rfl) (Nat.le_of_ble_eq_true rfl) (Nat.le_of_ble_eq_true rfl) (Nat.le_of_ble_eq_true rfl) (z_Li.at hH.2.1 (j := 0) (by decide) ?_)
      refine z_callV (av := [_, _, _]) rfl z_w19 hW rfl rfl rfl rfl rfl (Nat.le_of_ble_eq_true rfl) (Nat.le_of_ble_eq_true rfl) (Nat.le_of_ble_eq_true rfl) (Nat.le_of_ble_eq_true rfl) (cR_applies hW (z_b01 _) (fun e62 h3 hC3 hF3 => ?_) (fun e62 => ?_))
      · have kH3 := hH.kept hF3 (by omega)
        refine z_if_ne rfl (fun c65 => ?_) (fun c65 => absurd c65 (by decide))
        refine z_iconst (v := 1) rfl (by decide) ?_
        refine z_goto rfl ?_
        refine z_zret (ty := .boolean) rfl rfl (by first | decide | exact z_nb _) ?_
        exact qt _ (by rw [z_rMove, if_neg (z_bT e23), if_neg e34, if_pos (z_i1 e62)]) _ hC3 hF3
      · refine z_if_ne rfl (fun c65 => absurd c65 (by decide)) (fun c65 => ?_)
        refine z_aload_n rfl rfl ?_
        refine z_iload_n rfl rfl ?_
        refine z_callS (av := [_]) rfl z_w48 rfl rfl rfl rfl (Nat.le_of_ble_eq_true rfl) (Nat.le_of_ble_eq_true rfl) (Nat.le_of_ble_eq_true rfl) (Nat.le_of_ble_eq_true rfl) (c_springFor ?_)
        refine z_iload rfl rfl ?_
        refine z_icmp_le rfl (fun c75 => ?_) (fun c75 => ?_)
        · refine z_iconst (v := 0) rfl (by decide) ?_
          refine z_bipush (v := 6) rfl (by decide) ?_
          refine z_iload rfl rfl ?_
          refine z_callV (av := [_, _, _]) rfl z_w19 hW rfl rfl rfl rfl rfl (Nat.le_of_ble_eq_true rfl) (Nat.le_of_ble_eq_true rfl) (Nat.le_of_ble_eq_true rfl) (Nat.le_of_ble_eq_true rfl) (cR_applies hW (Or.inl rfl) (fun e9 => absurd e9 (by decide)) (fun e87 => ?_))
          refine z_if_eq rfl (fun c90 => ?_) (fun c90 => absurd c90 (by decide))
          refine z_iconst (v := 0) rfl (by decide) ?_
          refine z_zret (ty := .boolean) rfl rfl (by first | decide | exact z_nb _) ?_
          exact qf (by rw [z_rMove, if_neg (z_bT e23), if_neg e34, if_neg (z_i0 e62), if_pos c75])
        · refine z_iconst (v := 1) rfl (by decide) ?_
          refine z_goto rfl ?_
          refine z_bipush (v := 6) rfl (by decide) ?_
          refine z_iload rfl rfl ?_
          refine z_callV (av := [_, _, _]) rfl z_w19 hW rfl rfl rfl rfl rfl (Nat.le_of_ble_eq_true rfl) (Nat.le_of_ble_eq_true rfl) (Nat.le_of_ble_eq_true rfl) (Nat.le_of_ble_eq_true rfl) (cR_applies hW (Or.inr rfl) (fun e87 h4 hC4 hF4 => ?_) (fun e9 => absurd e9 (by decide)))
          have kH4 := hH.kept hF4 (by omega)
          refine z_if_eq rfl (fun c90 => absurd c90 (by decide)) (fun c90 => ?_)
          refine z_iconst (v := 1) rfl (by decide) ?_
          refine z_goto rfl ?_
          refine z_zret (ty := .boolean) rfl rfl (by first | decide | exact z_nb _) ?_
          exact qt _ (by rw [z_rMove, if_neg (z_bT e23), if_neg e34, if_neg (z_i0 e62), if_neg c75]) _ hC4 hF4
theorem cH_refusesBill {s l n : Int32} (hH : z_Hs h b v) (hW : z_Rf h w x) (hd : w + 1 ≤ b ∨ b + 25 ≤ w) (qt : ∀ p, z_rBill v s l n = some p → ∀ h', z_Rf h' w p → z_Fr w 1 h h' → Q (.inl (some (.int 1))) h') (qf : z_rBill v s l n = none → Q (.inl (some (.int 0))) h) : z_W G 6 0 0 71 0 (z_L0 71 [.ref b, .int s, .int l, .int n, .ref w]) [] h Q := by
  refine z_aload rfl rfl ?_
  refine z_aload_n rfl rfl ?_
  refine z_get rfl hH.1 rfl ?_
  refine z_iload_n rfl rfl ?_
  refine z_callV (av := [_]) rfl z_w28 hH.2.1.1 rfl rfl rfl rfl rfl (Nat.le_of_ble_eq_true rfl) (Nat.le_of_ble_eq_true rfl) (Nat.le_of_ble_eq_true rfl) (Nat.le_of_ble_eq_true rfl) (cC_has hH.2.1 ?_)
  refine z_iload_n rfl rfl ?_
  refine z_callV (av := [_, _]) rfl z_w20 hW rfl rfl rfl rfl rfl (Nat.le_of_ble_eq_true rfl) (Nat.le_of_ble_eq_true rfl) (Nat.le_of_ble_eq_true rfl) (Nat.le_of_ble_eq_true rfl) (cR_isUnknown hW (z_b01 _) (fun e11 h1 hC1 hF1 => ?_) (fun e11 => ?_))
  · have kH1 := hH.kept hF1 (by omega)
    refine z_if_ne rfl (fun c14 => ?_) (fun c14 => absurd c14 (by decide))
    refine z_iconst (v := 1) rfl (by decide) ?_
    refine z_goto rfl ?_
    refine z_zret (ty := .boolean) rfl rfl (by first | decide | exact z_nb _) ?_
    exact qt _ (by rw [z_rBill, if_pos ((z_bI _).mp e11)]) _ hC1 hF1
  · refine z_if_ne rfl (fun c14 => absurd c14 (by decide)) (fun c14 => ?_)
    refine z_aload rfl rfl ?_
    refine z_iload_n rfl rfl ?_
    refine z_iconst (v := 0) rfl (by decide) ?_
    refine z_bipush (v := 59) rfl (by decide) ?_
    refine z_callV (av := [_, _, _]) rfl z_w21 hW rfl rfl rfl rfl rfl (Nat.le_of_ble_eq_true rfl) (Nat.le_of_ble_eq_true rfl) (Nat.le_of_ble_eq_true rfl) (Nat.le_of_ble_eq_true rfl) (cR_isOutside hW (fun e23 h2 hC2 hF2 => ?_) (fun e23 => ?_))
    · have kH2 := hH.kept hF2 (by omega)
      refine z_if_ne rfl (fun c26 => ?_) (fun c26 => absurd c26 (by decide))
      refine z_iconst (v := 1) rfl (by decide) ?_
      refine z_goto rfl ?_
      refine z_zret (ty := .boolean) rfl rfl (by first | decide | exact z_nb _) ?_
      exact qt _ (by rw [z_rBill, if_neg (z_bT e11), if_pos e23]) _ hC2 hF2
    · refine z_if_ne rfl (fun c26 => absurd c26 (by decide)) (fun c26 => ?_)
      refine z_aload rfl rfl ?_
      refine z_iload_n rfl rfl ?_
      refine z_iconst (v := 1) rfl (by decide) ?_
      refine z_bipush (v := 9) rfl (by decide) ?_
      refine z_callV (av := [_, _, _]) rfl z_w21 hW rfl rfl rfl rfl rfl (Nat.le_of_ble_eq_true rfl) (Nat.le_of_ble_eq_true rfl) (Nat.le_of_ble_eq_true rfl) (Nat.le_of_ble_eq_true rfl) (cR_isOutside hW (fun e35 h3 hC3 hF3 => ?_) (fun e35 => ?_))
      · have kH3 := hH.kept hF3 (by omega)
        refine z_if_ne rfl (fun c38 => ?_) (fun c38 => absurd c38 (by decide))
        refine z_iconst (v := 1) rfl (by decide) ?_
        refine z_goto rfl ?_
        refine z_zret (ty := .boolean) rfl rfl (by first | decide | exact z_nb _) ?_
        exact qt _ (by rw [z_rBill, if_neg (z_bT e11), if_neg e23, if_pos e35]) _ hC3 hF3
      · refine z_if_ne rfl (fun c38 => absurd c38 (by decide)) (fun c38 => ?_)
        refine z_aload rfl rfl ?_
        refine z_aload_n rfl rfl ?_
        refine z_get rfl hH.1 rfl ?_
        refine z_iload_n rfl rfl ?_
        refine z_callV (av := [_]) rfl z_w29 hH.2.1.1 rfl rfl rfl rfl rfl (Nat.le_of_ble_eq_true rfl) (Nat.le_of_ble_eq_true rfl) (Nat.le_of_ble_eq_true rfl) (Nat.le_of_ble_eq_true rfl) (cC_isSilent hH.2.1 ?_)
        refine z_bipush (v := 7) rfl (by decide) ?_
        refine z_aload_n rfl rfl ?_
        refine z_get rfl hH.1 rfl ?_
        refine z_get rfl hH.2.1.1 rfl ?_
        refine z_iload_n rfl rfl ?_
        refine z_callV (av := [_]) rfl z_w3 (hH.2.1.2 0 (by decide)).1 rfl rfl rfl rfl rfl (Nat.le_of_ble_eq_true rfl) (Nat.le_of_ble_eq_true rfl) (Nat.le_of_ble_eq_true rfl) (Nat.le_of_ble_eq_true rfl) (z_Li.at hH.2.1 (j := 0) (by decide) ?_)
        refine z_callV (av := [_, _, _]) rfl z_w19 hW rfl rfl rfl rfl rfl (Nat.le_of_ble_eq_true rfl) (Nat.le_of_ble_eq_true rfl) (Nat.le_of_ble_eq_true rfl) (Nat.le_of_ble_eq_true rfl) (cR_applies hW (z_b01 _) (fun e64 h4 hC4 hF4 => ?_) (fun e64 => ?_))
        · have kH4 := hH.kept hF4 (by omega)
          refine z_if_ne rfl (fun c67 => ?_) (fun c67 => absurd c67 (by decide))
          refine z_iconst (v := 1) rfl (by decide) ?_
          refine z_goto rfl ?_
          refine z_zret (ty := .boolean) rfl rfl (by first | decide | exact z_nb _) ?_
          exact qt _ (by rw [z_rBill, if_neg (z_bT e11), if_neg e23, if_neg e35, if_pos (z_i1 e64)]) _ hC4 hF4
        · refine z_if_ne rfl (fun c67 => absurd c67 (by decide)) (fun c67 => ?_)
          refine z_aload rfl rfl ?_
          refine z_aload_n rfl rfl ?_
          refine z_get rfl hH.1 rfl ?_
          refine z_callV (av := []) rfl z_w51 hH.2.2.1 rfl rfl rfl rfl rfl (Nat.le_of_ble_eq_true rfl) (Nat.le_of_ble_eq_true rfl) (Nat.le_of_ble_eq_true rfl) (Nat.le_of_ble_eq_true rfl) (cB_count hH.2.2 ?_)
          refine z_bipush (v := 10) rfl (by decide) ?_
          refine z_icmp_lt rfl (fun c81 => ?_) (fun c81 => ?_)
          · refine z_iconst (v := 0) rfl (by decide) ?_
            refine z_iconst (v := 1) rfl (by decide) ?_
            refine z_bipush (v := 10) rfl (by decide) ?_
            refine z_callV (av := [_, _, _]) rfl z_w19 hW rfl rfl rfl rfl rfl (Nat.le_of_ble_eq_true rfl) (Nat.le_of_ble_eq_true rfl) (Nat.le_of_ble_eq_true rfl) (Nat.le_of_ble_eq_true rfl) (cR_applies hW (Or.inl rfl) (fun e9 => absurd e9 (by decide)) (fun e92 => ?_))
            refine z_if_eq rfl (fun c95 => ?_) (fun c95 => absurd c95 (by decide))
            refine z_iconst (v := 0) rfl (by decide) ?_
            refine z_zret (ty := .boolean) rfl rfl (by first | decide | exact z_nb _) ?_
            exact qf (by rw [z_rBill, if_neg (z_bT e11), if_neg e23, if_neg e35, if_neg (z_i0 e64), if_pos c81])
          · refine z_iconst (v := 1) rfl (by decide) ?_
            refine z_goto rfl ?_
            refine z_iconst (v := 1) rfl (by decide) ?_
            refine z_bipush (v := 10) rfl (by decide) ?_
            refine z_callV (av := [_, _, _]) rfl z_w19 hW rfl rfl rfl rfl rfl (Nat.le_of_ble_eq_true rfl) (Nat.le_of_ble_eq_true rfl) (Nat.le_of_ble_eq_true rfl) (Nat.le_of_ble_eq_true rfl) (cR_applies hW (Or.inr rfl) (fun e92 h5 hC5 hF5 => ?_) (fun e9 => absurd e9 (by decide)))
            have kH5 := hH.kept hF5 (by omega)
            refine z_if_eq rfl (fun c95 => absurd c95 (by decide)) (fun c95 => ?_)
            refine z_iconst (v := 1) rfl (by decide) ?_
            refine z_goto rfl ?_
            refine z_zret (ty := .boolean) rfl rfl (by first | decide | exact z_nb _) ?_
            exact qt _ (by rw [z_rBill, if_neg (z_bT e11), if_neg e23, if_neg e35, if_neg (z_i0 e64), if_neg c81]) _ hC5 hF5
theorem cH_refusesAdjourning {s l : Int32} (hH : z_Hs h b v) (hW : z_Rf h w x) (hd : w + 1 ≤ b ∨ b + 25 ≤ w) (qt : ∀ p, z_rAdj v s l = some p → ∀ h', z_Rf h' w p → z_Fr w 1 h h' → Q (.inl (some (.int 1))) h') (qf : z_rAdj v s l = none → Q (.inl (some (.int 0))) h) : z_W G 6 0 0 72 0 (z_L0 72 [.ref b, .int s, .int l, .ref w]) [] h Q := by
  refine z_aload_n rfl rfl ?_
  refine z_aload_n rfl rfl ?_
  refine z_get rfl hH.1 rfl ?_
  refine z_iload_n rfl rfl ?_
  refine z_callV (av := [_]) rfl z_w52 hH.2.2.1 rfl rfl rfl rfl rfl (Nat.le_of_ble_eq_true rfl) (Nat.le_of_ble_eq_true rfl) (Nat.le_of_ble_eq_true rfl) (Nat.le_of_ble_eq_true rfl) (cB_has hH.2.2 ?_)
  refine z_iload_n rfl rfl ?_
  refine z_callV (av := [_, _]) rfl z_w20 hW rfl rfl rfl rfl rfl (Nat.le_of_ble_eq_true rfl) (Nat.le_of_ble_eq_true rfl) (Nat.le_of_ble_eq_true rfl) (Nat.le_of_ble_eq_true rfl) (cR_isUnknown hW (z_b01 _) (fun e10 h1 hC1 hF1 => ?_) (fun e10 => ?_))
  · have kH1 := hH.kept hF1 (by omega)
    refine z_if_ne rfl (fun c13 => ?_) (fun c13 => absurd c13 (by decide))
    refine z_iconst (v := 1) rfl (by decide) ?_
    refine z_goto rfl ?_
    refine z_zret (ty := .boolean) rfl rfl (by first | decide | exact z_nb _) ?_
    exact qt _ (by rw [z_rAdj, if_pos ((z_bI _).mp e10)]) _ hC1 hF1
  · refine z_if_ne rfl (fun c13 => absurd c13 (by decide)) (fun c13 => ?_)
    refine z_aload_n rfl rfl ?_
    refine z_iload_n rfl rfl ?_
    refine z_iconst (v := 1) rfl (by decide) ?_
    refine z_bipush (v := 12) rfl (by decide) ?_
    refine z_callV (av := [_, _, _]) rfl z_w21 hW rfl rfl rfl rfl rfl (Nat.le_of_ble_eq_true rfl) (Nat.le_of_ble_eq_true rfl) (Nat.le_of_ble_eq_true rfl) (Nat.le_of_ble_eq_true rfl) (cR_isOutside hW (fun e21 h2 hC2 hF2 => ?_) (fun e21 => ?_))
    · have kH2 := hH.kept hF2 (by omega)
      refine z_if_ne rfl (fun c24 => ?_) (fun c24 => absurd c24 (by decide))
      refine z_iconst (v := 1) rfl (by decide) ?_
      refine z_goto rfl ?_
      refine z_zret (ty := .boolean) rfl rfl (by first | decide | exact z_nb _) ?_
      exact qt _ (by rw [z_rAdj, if_neg (z_bT e10), if_pos e21]) _ hC2 hF2
    · refine z_if_ne rfl (fun c24 => absurd c24 (by decide)) (fun c24 => ?_)
      refine z_aload_n rfl rfl ?_
      refine z_aload_n rfl rfl ?_
      refine z_get rfl hH.1 rfl ?_
      refine z_iload_n rfl rfl ?_
      refine z_callV (av := [_]) rfl z_w53 hH.2.2.1 rfl rfl rfl rfl rfl (Nat.le_of_ble_eq_true rfl) (Nat.le_of_ble_eq_true rfl) (Nat.le_of_ble_eq_true rfl) (Nat.le_of_ble_eq_true rfl) (cB_isAdjourned hH.2.2 ?_)
      refine z_bipush (v := 8) rfl (by decide) ?_
      refine z_aload_n rfl rfl ?_
      refine z_get rfl hH.1 rfl ?_
      refine z_get rfl hH.2.2.1 rfl ?_
      refine z_iload_n rfl rfl ?_
      refine z_callV (av := [_]) rfl z_w3 (hH.2.2.2 3 (by decide)).1 rfl rfl rfl rfl rfl (Nat.le_of_ble_eq_true rfl) (Nat.le_of_ble_eq_true rfl) (Nat.le_of_ble_eq_true rfl) (Nat.le_of_ble_eq_true rfl) (z_Li.at hH.2.2 (j := 3) (by decide) ?_)
      refine z_callV (av := [_, _, _]) rfl z_w19 hW rfl rfl rfl rfl rfl (Nat.le_of_ble_eq_true rfl) (Nat.le_of_ble_eq_true rfl) (Nat.le_of_ble_eq_true rfl) (Nat.le_of_ble_eq_true rfl) (cR_applies hW (z_b01 _) (fun e49 h3 hC3 hF3 => ?_) (fun e49 => ?_))
      · have kH3 := hH.kept hF3 (by omega)
        refine z_if_eq rfl (fun c52 => absurd c52 (by decide)) (fun c52 => ?_)
        refine z_iconst (v := 1) rfl (by decide) ?_
        refine z_goto rfl ?_
        refine z_zret (ty := .boolean) rfl rfl (by first | decide | exact z_nb _) ?_
        exact qt _ (by rw [z_rAdj, if_neg (z_bT e10), if_neg e21, if_pos (z_i1 e49)]) _ hC3 hF3
      · refine z_if_eq rfl (fun c52 => ?_) (fun c52 => absurd c52 (by decide))
        refine z_iconst (v := 0) rfl (by decide) ?_
        refine z_zret (ty := .boolean) rfl rfl (by first | decide | exact z_nb _) ?_
        exact qf (by rw [z_rAdj, if_neg (z_bT e10), if_neg e21, if_neg (z_i0 e49)])
theorem z_rofK {k : Nat} (hk : k < 10) : (k + 1, "java/lang/Enum", "ordinal", "I", Value.int (Int32.ofNat k)) ∈ z_rof := List.mem_append_left _ <| List.mem_flatMap.mpr ⟨k, List.mem_range.mpr hk, by rw [Nat.add_comm]; exact List.mem_cons_self⟩
theorem z_rooK {k : Nat} (hk : k < 10) : (k + 1, "ClockParliament$Kind") ∈ z_roo := List.mem_append_left _ <| List.mem_flatMap.mpr ⟨k, List.mem_range.mpr hk, by rw [Nat.add_comm]; exact List.mem_cons_self⟩
theorem c_ordinal {k : Nat} (hk : k < 10) (q : Q (.inl (some (.int (Int32.ofNat k)))) h) : z_W G 0 0 0 328 0 (z_L0 328 [.ref (k + 1)]) [] h Q := by
  refine z_aload_n rfl rfl ?_
  refine z_getR rfl (z_rofK hk) ?_
  refine z_iret rfl rfl ?_
  exact q
def z_swm (k : Nat) : Int32 := ([1, 2, 3, 4, 5, 6, 7, 8, 9, 0] : List Int32).getD k 0
theorem z_swIn {k : Nat} (hk : k < 10) : vp_in (Int32.ofNat k) (([1, 2, 3, 4, 5, 6, 7, 8, 9, 0] : List Int32).map Value.int).length ∧ (([1, 2, 3, 4, 5, 6, 7, 8, 9, 0] : List Int32).map Value.int).getD (Int32.ofNat k).toNatClampNeg .null = .int (z_swm k) := by
  match k, hk with
  | 0, _ | 1, _ | 2, _ | 3, _ | 4, _ | 5, _ | 6, _ | 7, _ | 8, _ | 9, _ => exact ⟨by unfold vp_in; decide, rfl⟩
theorem z_sw66 {d mc ms : Nat} {a : Nat} {o : z_OV} (hO : z_Or h w o) (hk : o.1 < 10) (hdd : 1 ≤ d) (kk : z_W G d mc ms 66 11 (z_L0 66 [.ref b, .ref w, .ref a]) [.int (z_swm o.1)] h Q) : z_W G d mc ms 66 0 (z_L0 66 [.ref b, .ref w, .ref a]) [] h Q := by
  obtain ⟨k, f, s, t, n⟩ := o
  have hT : (32, FieldType.int, ([1, 2, 3, 4, 5, 6, 7, 8, 9, 0] : List Int32).map Value.int) ∈ z_roa := by decide +kernel
  have hk2 : k < 10 := hk
  refine z_gets (v := .ref 32) rfl (by decide +kernel) rfl ?_
  refine z_aload_n rfl rfl ?_
  refine z_get rfl hO rfl ?_
  refine z_callUR (av := []) (C := "ClockParliament$Kind") (x := ⟨"ClockParliament$Kind", "ordinal", "()I"⟩) (j1 := 2110) (j2 := 2112) (d' := 0) (mc' := 0) (ms' := 0) rfl z_w328 ?_ rfl rfl rfl (by decide +kernel) (by decide +kernel) (by decide +kernel) (by decide +kernel) rfl rfl (by decide) (by omega) (by omega) (by omega) (by decide +kernel) (c_ordinal hk2 ?_)
  · exact z_rooK hk2
  · exact z_ialdR rfl hT (z_swIn hk2).1 (z_swIn hk2).2 kk
theorem z_sw73 {d mc ms : Nat} {a : Nat} {o : z_OV} (hO : z_Or h w o) (hk : o.1 < 10) (hdd : 1 ≤ d) (kk : z_W G d mc ms 73 11 (z_L0 73 [.ref b, .ref w]) [.int (z_swm o.1)] h Q) : z_W G d mc ms 73 0 (z_L0 73 [.ref b, .ref w]) [] h Q := by
  obtain ⟨k, f, s, t, n⟩ := o
  have hT : (32, FieldType.int, ([1, 2, 3, 4, 5, 6, 7, 8, 9, 0] : List Int32).map Value.int) ∈ z_roa := by decide +kernel
  have hk2 : k < 10 := hk
  refine z_gets (v := .ref 32) rfl (by decide +kernel) rfl ?_
  refine z_aload_n rfl rfl ?_
  refine z_get rfl hO rfl ?_
  refine z_callUR (av := []) (C := "ClockParliament$Kind") (x := ⟨"ClockParliament$Kind", "ordinal", "()I"⟩) (j1 := 2110) (j2 := 2112) (d' := 0) (mc' := 0) (ms' := 0) rfl z_w328 ?_ rfl rfl rfl (by decide +kernel) (by decide +kernel) (by decide +kernel) (by decide +kernel) rfl rfl (by decide) (by omega) (by omega) (by omega) (by decide +kernel) (c_ordinal hk2 ?_)
  · exact z_rooK hk2
  · exact z_ialdR rfl hT (z_swIn hk2).1 (z_swIn hk2).2 kk
end ZHr
