/-! ClockParliament$Numbers: a list of numbers. -/
theorem z_ext {h1 h2 : z_H} (a : h1.1 = h2.1) (b : ∀ k, h1.2 k = h2.2 k) : h1 = h2 := by
  obtain ⟨x, f⟩ := h1
  obtain ⟨y, g⟩ := h2
  have e1 : x = y := a
  have e2 : f = g := funext b
  rw [e1, e2]
theorem z_set_eq (h : z_H) (k : Nat) (c : va_E) : (z_set h k c).2 k = some c := if_pos rfl
theorem z_set_ne (h : z_H) {k j : Nat} (c : va_E) (hn : j ≠ k) : (z_set h k c).2 j = h.2 j := if_neg hn
theorem z_set_1 (h : z_H) (k : Nat) (c : va_E) : (z_set h k c).1 = h.1 := rfl
theorem z_set_set (h : z_H) (k : Nat) (c c' : va_E) : z_set (z_set h k c) k c' = z_set h k c' := by
  refine z_ext rfl fun j => ?_
  show (if j = k then some c' else if j = k then some c else h.2 j) = if j = k then some c' else h.2 j
  split <;> rfl
theorem z_set_self {h : z_H} {k : Nat} {c : va_E} (hc : h.2 k = some c) : z_set h k c = h := by
  refine z_ext rfl fun j => ?_
  show (if j = k then some c else h.2 j) = h.2 j
  split
  · rename_i e; rw [e, hc]
  · rfl
theorem z_set_comm (h : z_H) {k j : Nat} (c d : va_E) (hn : k ≠ j) : z_set (z_set h k c) j d = z_set (z_set h j d) k c := by
  refine z_ext rfl fun i => ?_
  show (if i = j then some d else if i = k then some c else h.2 i) = if i = k then some c else if i = j then some d else h.2 i
  by_cases e1 : i = j
  · rw [if_pos e1, if_neg (by omega), if_pos e1]
  · rw [if_neg e1, if_neg e1]
/-- a list of numbers at a (its room at a + 1): room for cap, the first n are its own -/
def z_Num (h : z_H) (a cap n : Nat) (f : Nat → Int32) : Prop := h.2 a = some (.inr (4, [.ref (a + 1), .int (nI n)])) ∧ h.2 (a + 1) = some (.inl (0, cap, .inl f)) ∧ n ≤ cap ∧ cap ≤ 1000
def z_putN (h : z_H) (a cap n : Nat) (f : Nat → Int32) : z_H := z_set (z_set h (a + 1) (.inl (0, cap, .inl f))) a (.inr (4, [.ref (a + 1), .int (nI n)]))
theorem z_putN_num {h : z_H} {a cap n : Nat} {f : Nat → Int32} (h1 : n ≤ cap) (h2 : cap ≤ 1000) : z_Num (z_putN h a cap n f) a cap n f :=
  ⟨z_set_eq _ _ _, by unfold z_putN; rw [z_set_ne _ _ (by omega)]; exact z_set_eq _ _ _, h1, h2⟩
theorem z_putN_ne {h : z_H} {a cap n k : Nat} {f : Nat → Int32} (h1 : k ≠ a) (h2 : k ≠ a + 1) : (z_putN h a cap n f).2 k = h.2 k := by
  unfold z_putN
  rw [z_set_ne _ _ h1, z_set_ne _ _ h2]
theorem z_putN_1 {h : z_H} {a cap n : Nat} {f : Nat → Int32} : (z_putN h a cap n f).1 = h.1 := rfl
theorem z_putN_put {h : z_H} {a cap n n' : Nat} {f f' : Nat → Int32} : z_putN (z_putN h a cap n f) a cap n' f' = z_putN h a cap n' f' := by
  unfold z_putN
  rw [z_set_comm _ _ _ (by omega : a ≠ a + 1), z_set_set, z_set_set]
theorem z_putN_self {h : z_H} {a cap n : Nat} {f : Nat → Int32} (hN : z_Num h a cap n f) : z_putN h a cap n f = h := by
  unfold z_putN
  rw [z_set_self hN.2.1, z_set_self hN.1]
/-- only the room's numbers change -/
theorem z_putN_arr {h : z_H} {a cap n : Nat} {f f' : Nat → Int32} (hN : z_Num h a cap n f) : z_set h (a + 1) (.inl (0, cap, .inl f')) = z_putN h a cap n f' := by
  unfold z_putN
  exact (z_set_self (h := z_set h (a + 1) (.inl (0, cap, .inl f'))) (by rw [z_set_ne _ _ (by omega)]; exact hN.1)).symm
theorem z_putN_siz {h : z_H} {a cap n n' : Nat} {f : Nat → Int32} (hN : z_Num h a cap n f) : z_set h a (.inr (4, [.ref (a + 1), .int (nI n')])) = z_putN h a cap n' f := by
  unfold z_putN
  rw [z_set_self hN.2.1]
theorem z_Num.kept {h h' : z_H} {a cap n : Nat} {f : Nat → Int32} (hN : z_Num h a cap n f) (h1 : h'.2 a = h.2 a) (h2 : h'.2 (a + 1) = h.2 (a + 1)) : z_Num h' a cap n f := ⟨h1.trans hN.1, h2.trans hN.2.1, hN.2.2⟩
def z_has (q : Int32) (n : Nat) : Bool := decide (0 ≤ q.toInt ∧ q.toInt < n)
def z_ix (q : Int32) : Nat := q.toInt.toNat
def z_atV (f : Nat → Int32) (n : Nat) (q : Int32) : Int32 := if z_has q n then f (z_ix q) else 0
theorem z_hasI {q : Int32} {n : Nat} (h : z_has q n = true) : vp_in q n ∧ q.toNatClampNeg = z_ix q ∧ z_ix q < n ∧ q.toInt = z_ix q := by
  unfold z_has at h
  have h := of_decide_eq_true h
  refine ⟨vp_in_iff.mpr h, rfl, ?_, ?_⟩ <;> (unfold z_ix; omega)
theorem z_has_nI {j n : Nat} (hj : j < 2 ^ 31) : z_has (nI j) n = decide (j < n) := by
  unfold z_has
  rw [nI_toInt hj]
  simp
theorem z_ix_nI {j : Nat} (hj : j < 2 ^ 31) : z_ix (nI j) = j := by
  unfold z_ix
  rw [nI_toInt hj]
  simp
theorem z_atV_nI {f : Nat → Int32} {n j : Nat} (hj : j < 2 ^ 31) : z_atV f n (nI j) = if j < n then f j else 0 := by
  unfold z_atV
  rw [z_has_nI hj, z_ix_nI hj]
  simp
theorem vp_in.mono {i : Int32} {n m : Nat} (h : vp_in i n) (hm : n ≤ m) : vp_in i m := fun q => h (q.imp id fun q => Nat.le_trans hm q)
section ZNum
variable {G : z_G} {h : z_H} {Q : z_O → z_H → Prop} {a cap n : Nat} {f : Nat → Int32}
theorem c_count (hN : z_Num h a cap n f) (q : Q (.inl (some (.int (nI n)))) h) : z_W G 0 0 0 1 0 (z_L0 1 [.ref a]) [] h Q := by
  refine z_aload_n rfl rfl ?_
  refine z_get rfl hN.1 rfl ?_
  refine z_iret rfl rfl ?_
  exact q
theorem c_has {x : Int32} (hN : z_Num h a cap n f) (q : Q (.inl (some (.int (if z_has x n then 1 else 0)))) h) : z_W G 0 0 0 2 0 (z_L0 2 [.ref a, .int x]) [] h Q := by
  have hn : (nI n).toInt = n := nI_toInt (by have := hN.2.2; omega)
  refine z_iload_n rfl rfl ?_
  refine z_if_lt rfl (fun c1 => ?_) (fun c1 => ?_)
  · refine z_iconst (v := 0) rfl (by decide) ?_
    refine z_zret (ty := .boolean) rfl rfl (by decide) ?_
    have e : z_has x n = false := by unfold z_has; rw [Int32.lt_iff_toInt_lt, Int32.toInt_zero] at c1; simp; omega
    rw [e] at q; exact q
  · refine z_iload_n rfl rfl ?_
    refine z_aload_n rfl rfl ?_
    refine z_get rfl hN.1 rfl ?_
    refine z_icmp_ge rfl (fun c2 => ?_) (fun c2 => ?_)
    · refine z_iconst (v := 0) rfl (by decide) ?_
      refine z_zret (ty := .boolean) rfl rfl (by decide) ?_
      have e : z_has x n = false := by unfold z_has; rw [Int32.le_iff_toInt_le, hn] at c2; simp; omega
      rw [e] at q; exact q
    · refine z_iconst (v := 1) rfl (by decide) ?_
      refine z_goto rfl ?_
      refine z_zret (ty := .boolean) rfl rfl (by decide) ?_
      have e : z_has x n = true := by unfold z_has; rw [Int32.lt_iff_toInt_lt, Int32.toInt_zero] at c1; rw [Int32.le_iff_toInt_le, hn] at c2; simp; omega
      rw [e] at q; exact q
theorem z_bI (b : Bool) : ((if b = true then (1 : Int32) else 0) = 0) ↔ b = false := by cases b <;> decide
theorem c_at {x : Int32} (hN : z_Num h a cap n f) (q : Q (.inl (some (.int (z_atV f n x)))) h) : z_W G 1 0 0 3 0 (z_L0 3 [.ref a, .int x]) [] h Q := by
  refine z_aload_n rfl rfl ?_
  refine z_iload_n rfl rfl ?_
  refine z_callV (av := [_]) rfl z_w2 hN.1 rfl rfl rfl rfl rfl (Nat.le_of_ble_eq_true rfl) (Nat.le_of_ble_eq_true rfl) (Nat.le_of_ble_eq_true rfl) (Nat.le_of_ble_eq_true rfl) (c_has hN ?_)
  refine z_if_eq rfl (fun c1 => ?_) (fun c1 => ?_)
  · refine z_iconst (v := 0) rfl (by decide) ?_
    refine z_iret rfl rfl ?_
    have e : z_atV f n x = 0 := by unfold z_atV; rw [(z_bI _).mp c1]; rfl
    rw [e] at q; exact q
  · refine z_aload_n rfl rfl ?_
    refine z_get rfl hN.1 rfl ?_
    refine z_iload_n rfl rfl ?_
    have hb : z_has x n = true := by simpa [z_bI] using c1
    have hi := (z_hasI hb).1
    refine z_iald rfl hN.2.1 (hi.mono hN.2.2.1) ?_
    refine z_goto rfl ?_
    refine z_iret rfl rfl ?_
    have e : z_atV f n x = f x.toNatClampNeg := by unfold z_atV; rw [hb, (z_hasI hb).2.1]; rfl
    rw [e] at q; exact q
theorem c_put {x v : Int32} (hN : z_Num h a cap n f) (q : Q (.inl none) (if z_has x n = true then z_putN h a cap n (upd f (z_ix x) v) else h)) : z_W G 1 0 0 4 0 (z_L0 4 [.ref a, .int x, .int v]) [] h Q := by
  refine z_aload_n rfl rfl ?_
  refine z_iload_n rfl rfl ?_
  refine z_callV (av := [_]) rfl z_w2 hN.1 rfl rfl rfl rfl rfl (Nat.le_of_ble_eq_true rfl) (Nat.le_of_ble_eq_true rfl) (Nat.le_of_ble_eq_true rfl) (Nat.le_of_ble_eq_true rfl) (c_has hN ?_)
  refine z_if_eq rfl (fun c1 => ?_) (fun c1 => ?_)
  · refine z_vret rfl rfl ?_
    rw [(z_bI _).mp c1] at q; exact q
  · refine z_aload_n rfl rfl ?_
    refine z_get rfl hN.1 rfl ?_
    refine z_iload_n rfl rfl ?_
    refine z_iload_n rfl rfl ?_
    have hb : z_has x n = true := by simpa [z_bI] using c1
    have hi := (z_hasI hb).1
    refine z_iast rfl hN.2.1 (hi.mono hN.2.2.1) ?_
    refine z_vret rfl rfl ?_
    rw [if_pos hb, ← (z_hasI hb).2.1, ← z_putN_arr hN] at q; exact q
theorem c_addTo {x v : Int32} (hN : z_Num h a cap n f) (q : Q (.inl none) (if z_has x n = true then z_putN h a cap n (upd f (z_ix x) (z_atV f n x + v)) else h)) : z_W G 2 0 0 5 0 (z_L0 5 [.ref a, .int x, .int v]) [] h Q := by
  refine z_aload_n rfl rfl ?_
  refine z_iload_n rfl rfl ?_
  refine z_aload_n rfl rfl ?_
  refine z_iload_n rfl rfl ?_
  refine z_callV (av := [_]) rfl z_w3 hN.1 rfl rfl rfl rfl rfl (Nat.le_of_ble_eq_true rfl) (Nat.le_of_ble_eq_true rfl) (Nat.le_of_ble_eq_true rfl) (Nat.le_of_ble_eq_true rfl) (c_at hN ?_)
  refine z_iload_n rfl rfl ?_
  refine z_iadd rfl ?_
  refine z_callV (av := [_, _]) rfl z_w4 hN.1 rfl rfl rfl rfl rfl (Nat.le_of_ble_eq_true rfl) (Nat.le_of_ble_eq_true rfl) (Nat.le_of_ble_eq_true rfl) (Nat.le_of_ble_eq_true rfl) (c_put hN ?_)
  refine z_vret rfl rfl ?_
  exact q
def z_first (P : Nat → Bool) : Nat → Nat → Option Nat
  | 0, _ => none
  | k + 1, i => if P i then some i else z_first P k (i + 1)
/-- the first place of x, -1 for none -/
def z_plc (f : Nat → Int32) (n : Nat) (x : Int32) : Int32 := match z_first (fun i => decide (f i = x)) n 0 with
  | some i => nI i
  | none => -1
def z_cnt (P : Nat → Bool) : Nat → Nat
  | 0 => 0
  | n + 1 => z_cnt P n + if P n then 1 else 0
def z_sum (f : Nat → Int32) : Nat → Int32
  | 0 => 0
  | n + 1 => z_sum f n + f n
theorem z_cnt_le (P : Nat → Bool) (n : Nat) : z_cnt P n ≤ n := by
  induction n with
  | zero => exact Nat.le_refl _
  | succ n ih =>
    show z_cnt P n + (if P n then 1 else 0) ≤ n + 1
    split <;> omega
theorem c_placeOf {x : Int32} (hN : z_Num h a cap n f) (q : Q (.inl (some (.int (z_plc f n x)))) h) : z_W G 0 0 0 10 0 (z_L0 10 [.ref a, .int x]) [] h Q := by
  have hn1 := hN.2.2.1
  have hn2 := hN.2.2.2
  have loop : ∀ (k i : Nat), i + k = n → z_first (fun i => decide (f i = x)) n 0 = z_first (fun i => decide (f i = x)) k i → z_W G 0 0 0 10 2 [.ref a, .int x, .int (nI i)] [] h Q := by
    intro k
    induction k with
    | zero =>
      intro i hi he
      refine z_iload_n rfl rfl ?_
      refine z_aload_n rfl rfl ?_
      refine z_get rfl hN.1 rfl ?_
      refine z_icmp_ge rfl (fun c7 => ?_) (fun c7 => absurd (show nI n ≤ nI i from (nI_leI (by omega) (by omega)).mpr (by omega)) c7)
      refine z_iconst (v := (-1)) rfl (by decide) ?_
      refine z_iret rfl rfl ?_
      unfold z_plc at q; rw [he] at q; exact q
    | succ k ih =>
      intro i hi he
      refine z_iload_n rfl rfl ?_
      refine z_aload_n rfl rfl ?_
      refine z_get rfl hN.1 rfl ?_
      refine z_icmp_ge rfl (fun c7 => absurd c7 (show ¬ nI n ≤ nI i from fun q9 => absurd ((nI_leI (by omega) (by omega)).mp q9) (by omega))) (fun c7 => ?_)
      refine z_aload_n rfl rfl ?_
      refine z_get rfl hN.1 rfl ?_
      refine z_iload_n rfl rfl ?_
      refine z_iald rfl hN.2.1 (vp_in_nI (by omega) (by omega)) ?_
      rw [nI_clamp (by omega)]
      refine z_iload_n rfl rfl ?_
      refine z_icmp_ne rfl (fun c1 => ?_) (fun c1 => ?_)
      · refine z_iinc1 rfl rfl (by decide +kernel) rfl ?_
        refine z_goto rfl (ih (i + 1) (by omega) (he.trans ?_))
        conv => lhs; unfold z_first
        rw [if_neg (by simpa using c1)]
      · refine z_iload_n rfl rfl ?_
        refine z_iret rfl rfl ?_
        unfold z_plc at q; rw [he] at q; unfold z_first at q; rw [if_pos (by simpa using c1)] at q; exact q
  refine z_iconst (v := nI 0) rfl (by decide) ?_
  refine z_istore_n rfl (by decide +kernel) rfl ?_
  exact loop n 0 (by omega) rfl
theorem c_countOf {x : Int32} (hN : z_Num h a cap n f) (q : Q (.inl (some (.int (nI (z_cnt (fun i => decide (f i = x)) n))))) h) : z_W G 0 0 0 11 0 (z_L0 11 [.ref a, .int x]) [] h Q := by
  have hn1 := hN.2.2.1
  have hn2 := hN.2.2.2
  have loop : ∀ (k i : Nat), i + k = n → z_W G 0 0 0 11 4 [.ref a, .int x, .int (nI (z_cnt (fun i => decide (f i = x)) i)), .int (nI i)] [] h Q := by
    intro k
    induction k with
    | zero =>
      intro i hi
      refine z_iload_n rfl rfl ?_
      refine z_aload_n rfl rfl ?_
      refine z_get rfl hN.1 rfl ?_
      refine z_icmp_ge rfl (fun c9 => ?_) (fun c9 => absurd (show nI n ≤ nI i from (nI_leI (by omega) (by omega)).mpr (by omega)) c9)
      refine z_iload_n rfl rfl ?_
      refine z_iret rfl rfl ?_
      rw [show n = i by omega] at q; exact q
    | succ k ih =>
      intro i hi
      have hw := ih (i + 1) (by omega)
      refine z_iload_n rfl rfl ?_
      refine z_aload_n rfl rfl ?_
      refine z_get rfl hN.1 rfl ?_
      refine z_icmp_ge rfl (fun c9 => absurd c9 (show ¬ nI n ≤ nI i from fun q9 => absurd ((nI_leI (by omega) (by omega)).mp q9) (by omega))) (fun c9 => ?_)
      refine z_aload_n rfl rfl ?_
      refine z_get rfl hN.1 rfl ?_
      refine z_iload_n rfl rfl ?_
      refine z_iald rfl hN.2.1 (vp_in_nI (by omega) (by omega)) ?_
      rw [nI_clamp (by omega)]
      refine z_iload_n rfl rfl ?_
      refine z_icmp_ne rfl (fun c1 => ?_) (fun c1 => ?_)
      · refine z_iinc1 rfl rfl (by decide +kernel) rfl ?_
        refine z_goto rfl ?_
        rw [show z_cnt (fun i => decide (f i = x)) (i + 1) = z_cnt (fun i => decide (f i = x)) i from by show _ + (if _ then _ else _) = _; rw [if_neg (by simpa using c1)]; rfl] at hw
        exact hw
      · refine z_iinc1 rfl rfl (by decide +kernel) rfl ?_
        refine z_iinc1 rfl rfl (by decide +kernel) rfl ?_
        refine z_goto rfl ?_
        rw [show z_cnt (fun i => decide (f i = x)) (i + 1) = z_cnt (fun i => decide (f i = x)) i + 1 from by show _ + (if _ then _ else _) = _; rw [if_pos (by simpa using c1)]] at hw
        exact hw
  refine z_iconst (v := nI 0) rfl (by decide) ?_
  refine z_istore_n rfl (by decide +kernel) rfl ?_
  refine z_iconst (v := nI 0) rfl (by decide) ?_
  refine z_istore_n rfl (by decide +kernel) rfl ?_
  exact loop n 0 (by omega)
theorem c_sum (hN : z_Num h a cap n f) (q : Q (.inl (some (.int (z_sum f n)))) h) : z_W G 0 0 0 12 0 (z_L0 12 [.ref a]) [] h Q := by
  have hn1 := hN.2.2.1
  have hn2 := hN.2.2.2
  have loop : ∀ (k i : Nat), i + k = n → z_W G 0 0 0 12 4 [.ref a, .int (z_sum f i), .int (nI i)] [] h Q := by
    intro k
    induction k with
    | zero =>
      intro i hi
      refine z_iload_n rfl rfl ?_
      refine z_aload_n rfl rfl ?_
      refine z_get rfl hN.1 rfl ?_
      refine z_icmp_ge rfl (fun c9 => ?_) (fun c9 => absurd (show nI n ≤ nI i from (nI_leI (by omega) (by omega)).mpr (by omega)) c9)
      refine z_iload_n rfl rfl ?_
      refine z_iret rfl rfl ?_
      rw [show n = i by omega] at q; exact q
    | succ k ih =>
      intro i hi
      refine z_iload_n rfl rfl ?_
      refine z_aload_n rfl rfl ?_
      refine z_get rfl hN.1 rfl ?_
      refine z_icmp_ge rfl (fun c9 => absurd c9 (show ¬ nI n ≤ nI i from fun q9 => absurd ((nI_leI (by omega) (by omega)).mp q9) (by omega))) (fun c9 => ?_)
      refine z_iload_n rfl rfl ?_
      refine z_aload_n rfl rfl ?_
      refine z_get rfl hN.1 rfl ?_
      refine z_iload_n rfl rfl ?_
      refine z_iald rfl hN.2.1 (vp_in_nI (by omega) (by omega)) ?_
      rw [nI_clamp (by omega)]
      refine z_iadd rfl ?_
      refine z_istore_n rfl (by decide +kernel) rfl ?_
      refine z_iinc1 rfl rfl (by decide +kernel) rfl ?_
      exact z_goto rfl (ih (i + 1) (by omega))
  refine z_iconst (v := 0) rfl (by decide) ?_
  refine z_istore_n rfl (by decide +kernel) rfl ?_
  refine z_iconst (v := nI 0) rfl (by decide) ?_
  refine z_istore_n rfl (by decide +kernel) rfl ?_
  exact loop n 0 (by omega)
end ZNum
