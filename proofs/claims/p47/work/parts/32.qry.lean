/-! ClockParliament: questions. -/
theorem z_swN (w : Int32) (n : Nat) (hn : n < 2 ^ 31) : (∃ k : Nat, k ≤ n ∧ w = nI k) ∨ (w.toInt < 0 ∨ (n : Int) < w.toInt) := by
  by_cases h : w.toInt < 0 ∨ (n : Int) < w.toInt
  · exact Or.inr h
  · refine Or.inl ⟨w.toInt.toNat, by omega, Int32.toInt_inj.mp ?_⟩
    rw [nI_toInt (by omega)]
    omega
def z_I (b : Bool) : Int32 := if b = true then 1 else 0
def z_fClockOf (x : z_PV) (c w : Int32) : z_An := if z_has c (x.1.1.1 0) = false then (1, 0, x) else if w = nI 0 then (0, z_a x.1.1 0 c, x) else if w = nI 1 then (0, z_a x.1.1 1 c, x) else if w = nI 2 then (0, z_a x.1.1 2 c, x) else if w = nI 3 then (0, nI (z_cnt (fun i => decide (x.1.1.2 4 i = c)) (x.1.1.1 4)), x) else if w = nI 4 then (0, nI (z_cnt (fun i => decide (x.1.2.1.2 0 i = c)) (x.1.2.1.1 0)), x) else if w = nI 5 then (0, z_a x.1.1 3 c, x) else if w = nI 6 then (0, z_agw x.1.1 c, x) else (2, 0, x)
def z_fBillOf (x : z_PV) (c w : Int32) : z_An := if z_has c (x.1.2.1.1 0) = false then (1, 0, x) else if w = nI 0 then (0, z_a x.1.2.1 0 c, x) else if w = nI 1 then (0, z_a x.1.2.1 1 c, x) else if w = nI 2 then (0, z_a x.1.2.1 2 c, x) else if w = nI 3 then (0, z_a x.1.2.1 3 c, x) else if w = nI 4 then (0, z_plc (x.1.2.1.2 5) (x.1.2.1.1 5) c, x) else if w = nI 5 then (0, z_a x.1.2.1 4 c, x) else (2, 0, x)
def z_fAccount (x : z_PV) (w : Int32) : z_An := if w = nI 0 then (0, nI (x.1.1.1 0), x) else if w = nI 1 then (0, nI (z_cnt (fun i => decide (x.1.1.2 1 i = 0)) (x.1.1.1 1)), x) else if w = nI 2 then (0, nI (x.1.2.1.1 0), x) else if w = nI 3 then (0, z_adjN x.1.2.1, x) else if w = nI 4 then (0, x.1.2.2 0, x) else if w = nI 5 then (0, z_sum (x.1.1.2 1) (x.1.1.1 1), x) else if w = nI 6 then (0, x.1.2.2 1, x) else if w = nI 7 then (0, x.1.2.2 2, x) else if w = nI 8 then (0, x.1.2.2 1 - x.1.2.2 2, x) else if w = nI 9 then (0, x.1.2.2 3, x) else if w = nI 10 then (0, x.1.2.2 4, x) else if w = nI 11 then (0, x.1.2.2 5, x) else if w = nI 12 then (0, nI x.2.2.2.2.2.1.length, x) else if w = nI 13 then (0, nI x.2.2.2.1, x) else (1, 0, x)
def z_fKeeper (x : z_PV) (k : Int32) : z_An := if z_has k (x.1.1.1 4) = true then (0, z_a x.1.1 4 k, x) else (1, 0, x)
def z_fAgree (x : z_PV) (c e : Int32) : z_An := if z_has c (x.1.1.1 0) = false then (1, 0, x) else if z_has e (x.1.1.1 0) = false then (1, 0, x) else (0, z_I (z_agr x.1.1 c e), x)
def z_fApart (x : z_PV) (c e : Int32) : z_An := if z_has c (x.1.1.1 0) = false then (1, 0, x) else if z_has e (x.1.1.1 0) = false then (1, 0, x) else (0, z_sb (z_a x.1.1 0 c) (z_a x.1.1 0 e), x)
def z_fRow (x : z_PV) (pl : Int32) : z_An := if z_has pl (x.1.2.1.1 5) = true then (0, z_a x.1.2.1 5 pl, x) else (1, 0, x)
def z_fRowIn (x : z_PV) (n pl : Int32) : z_An := if n < 0 ∨ 24 < n then (1, 0, x) else if z_has pl ((z_hrs x.1 (z_ix n)).2.1.1 5) = true then (0, z_a (z_hrs x.1 (z_ix n)).2.1 5 pl, x) else (2, 0, x)
def z_fRowAgain (x : z_PV) (n pl : Int32) : z_An := if n < 0 ∨ 24 < n then (1, 0, x) else if z_bla x.1.2.1 n pl = -1 then (2, 0, x) else (0, z_bla x.1.2.1 n pl, x)
def z_fNext (x : z_PV) : z_An := if z_htn x.1.2.1 = 0 then (1, 0, x) else (0, z_htn x.1.2.1, x)
def z_sil (v : z_HV) (c : Int32) : Nat → Nat → Nat
  | 0, i => i
  | n + 1, i => if z_a v.1 1 c = 0 then i else z_sil (z_hr1 v) c n (i + 1)
def z_fSilentIn (x : z_PV) (c : Int32) : z_An := if z_has c (x.1.1.1 0) = false then (1, 0, x) else (0, nI (z_sil x.1 c 24 0), x)
def z_fSecondIn (x : z_PV) (c n : Int32) : z_An := if z_has c (x.1.1.1 0) = false then (1, 0, x) else if n < 0 ∨ 48 < n then (2, 0, x) else (0, z_a (z_hrs x.1 (z_ix n)).1 0 c, x)
def z_fVoters (x : z_PV) (c : Int32) : z_An := if z_has c (x.1.2.1.1 0) = false then (1, 0, x) else (0, z_vts x.1 c, x)
def z_fMajority (x : z_PV) (c : Int32) : z_An := if z_has c (x.1.2.1.1 0) = false then (1, 0, x) else (0, z_mjo x.1.1 (z_vts x.1 c), x)
def z_fMajorityAgain (x : z_PV) (c : Int32) : z_An := if z_has c (x.1.2.1.1 0) = false then (1, 0, x) else (0, z_mbl x.1 c, x)
def z_fWouldCarry (x : z_PV) (c : Int32) : z_An := if z_has c (x.1.2.1.1 0) = false then (1, 0, x) else (0, z_I (z_won x.1 c), x)
def z_crP (v : z_HV) (i : Nat) : Bool := !(z_adj v.2.1 (nI i)) && z_won v (nI i)
def z_crd (v : z_HV) : Int32 := z_bits (z_crP v) (v.2.1.1 0)
def z_fWeakest (x : z_PV) : z_An := if x.1.1.1 0 = 0 then (1, 0, x) else (0, z_wk x.1.1, x)
def z_fCircle (x : z_PV) (c : Int32) : z_An := if z_has c (x.1.1.1 0) = false then (1, 0, x) else (0, z_rcd x.1.1 c, x)
def z_fRanked (x : z_PV) (k pl : Int32) : z_An := if k < 0 ∨ 3 < k then (1, 0, x) else if z_rkd x.1.1 (z_ix k) pl = -1 then (2, 0, x) else (0, z_rkd x.1.1 (z_ix k) pl, x)
theorem z_rngIn {n : Int32} {m : Nat} (hm : m < 2 ^ 31) (h : ¬ (n < 0 ∨ nI m < n)) : n = nI (z_ix n) ∧ z_ix n ≤ m := by
  obtain ⟨k, h1, h2⟩ := nI_of2 (x := n) (M := nI m) (n := m) (nI_toInt hm) (fun q => h (Or.inl q)) (Int32.not_lt.mp fun q => h (Or.inr q))
  have e : z_ix n = k := by rw [h2, z_ix_nI (by omega)]
  rw [e]
  exact ⟨h2, h1⟩
section ZQy
variable {G : z_G} {h : z_H} {Q : z_O → z_H → Prop} {p : Nat} {B : Nat → Prop} {x : z_PV}
/-- nothing is changed -/
theorem z_same (hP : z_P h p B x) {r : z_O} (q : ∀ h', z_P h' p B x → z_Px p B h h' → Q r h') : Q r h := q _ hP (z_Px.refl _ _ _)
theorem z_goneP (hP : z_P h p B x) {r : z_O} {n : Nat} (hn : h.1 ≤ n) (q : ∀ h', z_P h' p B x → z_Px p B h h' → Q r h') : Q r (n, h.2) := q _ (hP.more hn) ((z_Px.refl _ _ _).more hn)
theorem z_PC (hP : z_P h p B x) : ∃ fs, h.2 p = some (.inr (8, fs)) := by
  obtain ⟨ri, rl, sp, pos, ot, o, fd, hA⟩ := hP
  exact ⟨_, hA.c0⟩
theorem cP_checkClock {c : Int32} (hP : z_P h p B x) (qf : z_has c (x.1.1.1 0) = true → Q (.inl none) h) (qx : z_has c (x.1.1.1 0) = false → ∀ n, h.1 ≤ n → Q (.inr z_IOB) (n, h.2)) : z_W G 7 1 6 120 0 (z_L0 120 [.ref p, .int c]) [] h Q := by
  obtain ⟨ri, rl, sp, pos, ot, o, fd, hA⟩ := hP
  refine z_aload_n rfl rfl ?_
  refine z_get rfl hA.c0 rfl ?_
  refine z_get rfl hA.h0.1 rfl ?_
  refine z_iload_n rfl rfl ?_
  refine z_callV (av := [_]) rfl z_w28 hA.h0.2.1.1 rfl rfl rfl rfl rfl (Nat.le_of_ble_eq_true rfl) (Nat.le_of_ble_eq_true rfl) (Nat.le_of_ble_eq_true rfl) (Nat.le_of_ble_eq_true rfl) (cC_has hA.h0.2.1 ?_)
  refine z_if_ne rfl (fun c11 => ?_) (fun c11 => ?_)
  · refine z_vret rfl rfl ?_
    exact qf (z_i2 c11)
  · exact z_throw rfl rfl rfl rfl rfl rfl rfl (Nat.le_of_ble_eq_true rfl) (Nat.le_of_ble_eq_true rfl) (Nat.le_of_ble_eq_true rfl) rfl rfl (by decide) (qx ((z_bI _).mp c11))
theorem cP_checkBill {c : Int32} (hP : z_P h p B x) (qf : z_has c (x.1.2.1.1 0) = true → Q (.inl none) h) (qx : z_has c (x.1.2.1.1 0) = false → ∀ n, h.1 ≤ n → Q (.inr z_IOB) (n, h.2)) : z_W G 7 1 6 121 0 (z_L0 121 [.ref p, .int c]) [] h Q := by
  obtain ⟨ri, rl, sp, pos, ot, o, fd, hA⟩ := hP
  refine z_aload_n rfl rfl ?_
  refine z_get rfl hA.c0 rfl ?_
  refine z_get rfl hA.h0.1 rfl ?_
  refine z_iload_n rfl rfl ?_
  refine z_callV (av := [_]) rfl z_w52 hA.h0.2.2.1 rfl rfl rfl rfl rfl (Nat.le_of_ble_eq_true rfl) (Nat.le_of_ble_eq_true rfl) (Nat.le_of_ble_eq_true rfl) (Nat.le_of_ble_eq_true rfl) (cB_has hA.h0.2.2 ?_)
  refine z_if_ne rfl (fun c11 => ?_) (fun c11 => ?_)
  · refine z_vret rfl rfl ?_
    exact qf (z_i2 c11)
  · exact z_throw rfl rfl rfl rfl rfl rfl rfl (Nat.le_of_ble_eq_true rfl) (Nat.le_of_ble_eq_true rfl) (Nat.le_of_ble_eq_true rfl) rfl rfl (by decide) (qx ((z_bI _).mp c11))
theorem cP_checkRange {n m : Int32} (qf : ¬ (n < 0 ∨ m < n) → Q (.inl none) h) (qx : (n < 0 ∨ m < n) → ∀ n, h.1 ≤ n → Q (.inr z_IAE) (n, h.2)) : z_W G 7 1 6 128 0 (z_L0 128 [.ref p, .int n, .int m]) [] h Q := by
  refine z_iload_n rfl rfl ?_
  refine z_if_lt rfl (fun c1 => ?_) (fun c1 => ?_)
  · exact z_throwW rfl rfl rfl rfl rfl rfl rfl (Nat.le_of_ble_eq_true rfl) (Nat.le_of_ble_eq_true rfl) (Nat.le_of_ble_eq_true rfl) rfl rfl (by decide) (qx (Or.inl c1))
  · refine z_iload_n rfl rfl ?_
    refine z_iload_n rfl rfl ?_
    refine z_icmp_le rfl (fun c6 => ?_) (fun c6 => ?_)
    · refine z_vret rfl rfl ?_
      exact qf (fun e => e.elim c1 (fun e2 => absurd c6 (Int32.not_le.mpr e2)))
    · exact z_throwW rfl rfl rfl rfl rfl rfl rfl (Nat.le_of_ble_eq_true rfl) (Nat.le_of_ble_eq_true rfl) (Nat.le_of_ble_eq_true rfl) rfl rfl (by decide) (qx (Or.inr (Int32.not_le.mp c6)))
theorem cP_billAt {a cap n : Nat} {f : Nat → Int32} {pl : Int32} (hN : z_Ns h a cap n f) (qf : z_has pl n = true → Q (.inl (some (.int (z_atV f n pl)))) h) (qx : z_has pl n = false → ∀ m, h.1 ≤ m → Q (.inr z_NSE) (m, h.2)) : z_W G 7 1 6 129 0 (z_L0 129 [.ref p, .ref a, .int pl]) [] h Q := by
  refine z_aload_n rfl rfl ?_
  refine z_iload_n rfl rfl ?_
  refine z_callV (av := [_]) rfl z_w2 hN.1 rfl rfl rfl rfl rfl (Nat.le_of_ble_eq_true rfl) (Nat.le_of_ble_eq_true rfl) (Nat.le_of_ble_eq_true rfl) (Nat.le_of_ble_eq_true rfl) (cs_has hN ?_)
  refine z_if_ne rfl (fun c5 => ?_) (fun c5 => ?_)
  · refine z_aload_n rfl rfl ?_
    refine z_iload_n rfl rfl ?_
    refine z_callV (av := [_]) rfl z_w3 hN.1 rfl rfl rfl rfl rfl (Nat.le_of_ble_eq_true rfl) (Nat.le_of_ble_eq_true rfl) (Nat.le_of_ble_eq_true rfl) (Nat.le_of_ble_eq_true rfl) (cs_at hN ?_)
    refine z_iret rfl rfl ?_
    exact qf (z_i2 c5)
  · exact z_throwN rfl rfl rfl rfl rfl rfl rfl (Nat.le_of_ble_eq_true rfl) (Nat.le_of_ble_eq_true rfl) (Nat.le_of_ble_eq_true rfl) rfl rfl ⟨rfl, rfl⟩ (qx ((z_bI _).mp c5))
theorem z_swNe {w : Int32} {n : Nat} (k : Nat) (hw : w.toInt < 0 ∨ (n : Int) < w.toInt) (hk : k ≤ n := by decide) (hn : n < 2 ^ 31 := by decide) : ¬ w = nI k := by
  rintro rfl
  rw [nI_toInt (by omega)] at hw
  omega
theorem cP_clockOf {c w : Int32} (hP : z_P h p B x) (q : ∀ h', z_P h' p B x → z_Px p B h h' → Q (z_oc [z_IOB, z_IAE] (z_fClockOf x c w)) h') : z_W G 8 4 24 115 0 (z_L0 115 [.ref p, .int c, .int w]) [] h Q := by
  have hP0 := hP
  obtain ⟨ri, rl, sp, pos, ot, o, fd, hA⟩ := hP0
  refine z_aload_n rfl rfl ?_
  refine z_iload_n rfl rfl ?_
  refine z_callV (av := [_]) rfl z_w120 hA.c0 rfl rfl rfl rfl rfl (Nat.le_of_ble_eq_true rfl) (Nat.le_of_ble_eq_true rfl) (Nat.le_of_ble_eq_true rfl) (Nat.le_of_ble_eq_true rfl) (cP_checkClock hP (fun e => ?_) (fun e n hn => z_Xout rfl (z_goneP hP hn (by unfold z_fClockOf at q; rw [if_pos e] at q; exact q))))
  refine z_iload_n rfl rfl ?_
  skip
  have hb : ¬ z_has c (x.1.1.1 0) = false := by rw [e]; decide
  unfold z_fClockOf at q
  rw [if_neg hb] at q
  rcases z_swN w 6 (by decide) with ⟨k, hk, rfl⟩ | hw
  · rcases (show k = 0 ∨ k = 1 ∨ k = 2 ∨ k = 3 ∨ k = 4 ∨ k = 5 ∨ k = 6 by omega) with rfl | rfl | rfl | rfl | rfl | rfl | rfl
    · refine z_tswI (x := 0) (o := 42) (t := 48) rfl (by decide) (by decide) rfl rfl ?_
      refine z_aload_n rfl rfl ?_
      refine z_get rfl hA.c0 rfl ?_
      refine z_get rfl hA.h0.1 rfl ?_
      refine z_get rfl hA.h0.2.1.1 rfl ?_
      refine z_iload_n rfl rfl ?_
      refine z_callV (av := [_]) rfl z_w3 (hA.h0.2.1.2 0 (by decide)).1 rfl rfl rfl rfl rfl (Nat.le_of_ble_eq_true rfl) (Nat.le_of_ble_eq_true rfl) (Nat.le_of_ble_eq_true rfl) (Nat.le_of_ble_eq_true rfl) (z_Li.at hA.h0.2.1 (j := 0) (by decide) ?_)
      refine z_iret rfl rfl ?_
      exact z_same hP q
    · refine z_tswI (x := 1) (o := 57) (t := 63) rfl (by decide) (by decide) rfl rfl ?_
      refine z_aload_n rfl rfl ?_
      refine z_get rfl hA.c0 rfl ?_
      refine z_get rfl hA.h0.1 rfl ?_
      refine z_get rfl hA.h0.2.1.1 rfl ?_
      refine z_iload_n rfl rfl ?_
      refine z_callV (av := [_]) rfl z_w3 (hA.h0.2.1.2 1 (by decide)).1 rfl rfl rfl rfl rfl (Nat.le_of_ble_eq_true rfl) (Nat.le_of_ble_eq_true rfl) (Nat.le_of_ble_eq_true rfl) (Nat.le_of_ble_eq_true rfl) (z_Li.at hA.h0.2.1 (j := 1) (by decide) ?_)
      refine z_iret rfl rfl ?_
      exact z_same hP q
    · refine z_tswI (x := 2) (o := 72) (t := 78) rfl (by decide) (by decide) rfl rfl ?_
      refine z_aload_n rfl rfl ?_
      refine z_get rfl hA.c0 rfl ?_
      refine z_get rfl hA.h0.1 rfl ?_
      refine z_get rfl hA.h0.2.1.1 rfl ?_
      refine z_iload_n rfl rfl ?_
      refine z_callV (av := [_]) rfl z_w3 (hA.h0.2.1.2 2 (by decide)).1 rfl rfl rfl rfl rfl (Nat.le_of_ble_eq_true rfl) (Nat.le_of_ble_eq_true rfl) (Nat.le_of_ble_eq_true rfl) (Nat.le_of_ble_eq_true rfl) (z_Li.at hA.h0.2.1 (j := 2) (by decide) ?_)
      refine z_iret rfl rfl ?_
      exact z_same hP q
    · refine z_tswI (x := 3) (o := 87) (t := 93) rfl (by decide) (by decide) rfl rfl ?_
      refine z_aload_n rfl rfl ?_
      refine z_get rfl hA.c0 rfl ?_
      refine z_get rfl hA.h0.1 rfl ?_
      refine z_get rfl hA.h0.2.1.1 rfl ?_
      refine z_iload_n rfl rfl ?_
      refine z_callV (av := [_]) rfl z_w11 (hA.h0.2.1.2 4 (by decide)).1 rfl rfl rfl rfl rfl (Nat.le_of_ble_eq_true rfl) (Nat.le_of_ble_eq_true rfl) (Nat.le_of_ble_eq_true rfl) (Nat.le_of_ble_eq_true rfl) (cs_countOf (hA.h0.2.1.2 4 (by decide)) ?_)
      refine z_iret rfl rfl ?_
      exact z_same hP q
    · refine z_tswI (x := 4) (o := 102) (t := 108) rfl (by decide) (by decide) rfl rfl ?_
      refine z_aload_n rfl rfl ?_
      refine z_get rfl hA.c0 rfl ?_
      refine z_get rfl hA.h0.1 rfl ?_
      refine z_get rfl hA.h0.2.2.1 rfl ?_
      refine z_iload_n rfl rfl ?_
      refine z_callV (av := [_]) rfl z_w11 (hA.h0.2.2.2 0 (by decide)).1 rfl rfl rfl rfl rfl (Nat.le_of_ble_eq_true rfl) (Nat.le_of_ble_eq_true rfl) (Nat.le_of_ble_eq_true rfl) (Nat.le_of_ble_eq_true rfl) (cs_countOf (hA.h0.2.2.2 0 (by decide)) ?_)
      refine z_iret rfl rfl ?_
      exact z_same hP q
    · refine z_tswI (x := 5) (o := 117) (t := 123) rfl (by decide) (by decide) rfl rfl ?_
      refine z_aload_n rfl rfl ?_
      refine z_get rfl hA.c0 rfl ?_
      refine z_get rfl hA.h0.1 rfl ?_
      refine z_get rfl hA.h0.2.1.1 rfl ?_
      refine z_iload_n rfl rfl ?_
      refine z_callV (av := [_]) rfl z_w3 (hA.h0.2.1.2 3 (by decide)).1 rfl rfl rfl rfl rfl (Nat.le_of_ble_eq_true rfl) (Nat.le_of_ble_eq_true rfl) (Nat.le_of_ble_eq_true rfl) (Nat.le_of_ble_eq_true rfl) (z_Li.at hA.h0.2.1 (j := 3) (by decide) ?_)
      refine z_iret rfl rfl ?_
      exact z_same hP q
    · refine z_tswI (x := 6) (o := 132) (t := 138) rfl (by decide) (by decide) rfl rfl ?_
      refine z_aload_n rfl rfl ?_
      refine z_get rfl hA.c0 rfl ?_
      refine z_get rfl hA.h0.1 rfl ?_
      refine z_iload_n rfl rfl ?_
      refine z_callV (av := [_]) rfl z_w41 hA.h0.2.1.1 rfl rfl rfl rfl rfl (Nat.le_of_ble_eq_true rfl) (Nat.le_of_ble_eq_true rfl) (Nat.le_of_ble_eq_true rfl) (Nat.le_of_ble_eq_true rfl) (cC_agreeingWith hA.h0.2.1 ?_)
      refine z_iret rfl rfl ?_
      exact z_same hP q
  · refine z_tswO (t := 150) rfl (by first | exact hw | omega) rfl ?_
    rw [if_neg (z_swNe 0 hw), if_neg (z_swNe 1 hw), if_neg (z_swNe 2 hw), if_neg (z_swNe 3 hw), if_neg (z_swNe 4 hw), if_neg (z_swNe 5 hw), if_neg (z_swNe 6 hw)] at q
    exact z_throw rfl rfl rfl rfl rfl rfl rfl (Nat.le_of_ble_eq_true rfl) (Nat.le_of_ble_eq_true rfl) (Nat.le_of_ble_eq_true rfl) rfl rfl (by decide) (fun n hn => z_goneP hP hn q)
theorem cP_billOf {c w : Int32} (hP : z_P h p B x) (q : ∀ h', z_P h' p B x → z_Px p B h h' → Q (z_oc [z_IOB, z_IAE] (z_fBillOf x c w)) h') : z_W G 8 4 24 116 0 (z_L0 116 [.ref p, .int c, .int w]) [] h Q := by
  have hP0 := hP
  obtain ⟨ri, rl, sp, pos, ot, o, fd, hA⟩ := hP0
  refine z_aload_n rfl rfl ?_
  refine z_iload_n rfl rfl ?_
  refine z_callV (av := [_]) rfl z_w121 hA.c0 rfl rfl rfl rfl rfl (Nat.le_of_ble_eq_true rfl) (Nat.le_of_ble_eq_true rfl) (Nat.le_of_ble_eq_true rfl) (Nat.le_of_ble_eq_true rfl) (cP_checkBill hP (fun e => ?_) (fun e n hn => z_Xout rfl (z_goneP hP hn (by unfold z_fBillOf at q; rw [if_pos e] at q; exact q))))
  refine z_iload_n rfl rfl ?_
  skip
  have hb : ¬ z_has c (x.1.2.1.1 0) = false := by rw [e]; decide
  unfold z_fBillOf at q
  rw [if_neg hb] at q
  rcases z_swN w 5 (by decide) with ⟨k, hk, rfl⟩ | hw
  · rcases (show k = 0 ∨ k = 1 ∨ k = 2 ∨ k = 3 ∨ k = 4 ∨ k = 5 by omega) with rfl | rfl | rfl | rfl | rfl | rfl
    · refine z_tswI (x := 0) (o := 38) (t := 44) rfl (by decide) (by decide) rfl rfl ?_
      refine z_aload_n rfl rfl ?_
      refine z_get rfl hA.c0 rfl ?_
      refine z_get rfl hA.h0.1 rfl ?_
      refine z_get rfl hA.h0.2.2.1 rfl ?_
      refine z_iload_n rfl rfl ?_
      refine z_callV (av := [_]) rfl z_w3 (hA.h0.2.2.2 0 (by decide)).1 rfl rfl rfl rfl rfl (Nat.le_of_ble_eq_true rfl) (Nat.le_of_ble_eq_true rfl) (Nat.le_of_ble_eq_true rfl) (Nat.le_of_ble_eq_true rfl) (z_Li.at hA.h0.2.2 (j := 0) (by decide) ?_)
      refine z_iret rfl rfl ?_
      exact z_same hP q
    · refine z_tswI (x := 1) (o := 53) (t := 59) rfl (by decide) (by decide) rfl rfl ?_
      refine z_aload_n rfl rfl ?_
      refine z_get rfl hA.c0 rfl ?_
      refine z_get rfl hA.h0.1 rfl ?_
      refine z_get rfl hA.h0.2.2.1 rfl ?_
      refine z_iload_n rfl rfl ?_
      refine z_callV (av := [_]) rfl z_w3 (hA.h0.2.2.2 1 (by decide)).1 rfl rfl rfl rfl rfl (Nat.le_of_ble_eq_true rfl) (Nat.le_of_ble_eq_true rfl) (Nat.le_of_ble_eq_true rfl) (Nat.le_of_ble_eq_true rfl) (z_Li.at hA.h0.2.2 (j := 1) (by decide) ?_)
      refine z_iret rfl rfl ?_
      exact z_same hP q
    · refine z_tswI (x := 2) (o := 68) (t := 74) rfl (by decide) (by decide) rfl rfl ?_
      refine z_aload_n rfl rfl ?_
      refine z_get rfl hA.c0 rfl ?_
      refine z_get rfl hA.h0.1 rfl ?_
      refine z_get rfl hA.h0.2.2.1 rfl ?_
      refine z_iload_n rfl rfl ?_
      refine z_callV (av := [_]) rfl z_w3 (hA.h0.2.2.2 2 (by decide)).1 rfl rfl rfl rfl rfl (Nat.le_of_ble_eq_true rfl) (Nat.le_of_ble_eq_true rfl) (Nat.le_of_ble_eq_true rfl) (Nat.le_of_ble_eq_true rfl) (z_Li.at hA.h0.2.2 (j := 2) (by decide) ?_)
      refine z_iret rfl rfl ?_
      exact z_same hP q
    · refine z_tswI (x := 3) (o := 83) (t := 89) rfl (by decide) (by decide) rfl rfl ?_
      refine z_aload_n rfl rfl ?_
      refine z_get rfl hA.c0 rfl ?_
      refine z_get rfl hA.h0.1 rfl ?_
      refine z_get rfl hA.h0.2.2.1 rfl ?_
      refine z_iload_n rfl rfl ?_
      refine z_callV (av := [_]) rfl z_w3 (hA.h0.2.2.2 3 (by decide)).1 rfl rfl rfl rfl rfl (Nat.le_of_ble_eq_true rfl) (Nat.le_of_ble_eq_true rfl) (Nat.le_of_ble_eq_true rfl) (Nat.le_of_ble_eq_true rfl) (z_Li.at hA.h0.2.2 (j := 3) (by decide) ?_)
      refine z_iret rfl rfl ?_
      exact z_same hP q
    · refine z_tswI (x := 4) (o := 98) (t := 104) rfl (by decide) (by decide) rfl rfl ?_
      refine z_aload_n rfl rfl ?_
      refine z_get rfl hA.c0 rfl ?_
      refine z_get rfl hA.h0.1 rfl ?_
      refine z_get rfl hA.h0.2.2.1 rfl ?_
      refine z_iload_n rfl rfl ?_
      refine z_callV (av := [_]) rfl z_w10 (hA.h0.2.2.2 5 (by decide)).1 rfl rfl rfl rfl rfl (Nat.le_of_ble_eq_true rfl) (Nat.le_of_ble_eq_true rfl) (Nat.le_of_ble_eq_true rfl) (Nat.le_of_ble_eq_true rfl) (cs_placeOf (hA.h0.2.2.2 5 (by decide)) ?_)
      refine z_iret rfl rfl ?_
      exact z_same hP q
    · refine z_tswI (x := 5) (o := 113) (t := 119) rfl (by decide) (by decide) rfl rfl ?_
      refine z_aload_n rfl rfl ?_
      refine z_get rfl hA.c0 rfl ?_
      refine z_get rfl hA.h0.1 rfl ?_
      refine z_get rfl hA.h0.2.2.1 rfl ?_
      refine z_iload_n rfl rfl ?_
      refine z_callV (av := [_]) rfl z_w3 (hA.h0.2.2.2 4 (by decide)).1 rfl rfl rfl rfl rfl (Nat.le_of_ble_eq_true rfl) (Nat.le_of_ble_eq_true rfl) (Nat.le_of_ble_eq_true rfl) (Nat.le_of_ble_eq_true rfl) (z_Li.at hA.h0.2.2 (j := 4) (by decide) ?_)
      refine z_iret rfl rfl ?_
      exact z_same hP q
  · refine z_tswO (t := 134) rfl (by first | exact hw | omega) rfl ?_
    rw [if_neg (z_swNe 0 hw), if_neg (z_swNe 1 hw), if_neg (z_swNe 2 hw), if_neg (z_swNe 3 hw), if_neg (z_swNe 4 hw), if_neg (z_swNe 5 hw)] at q
    exact z_throw rfl rfl rfl rfl rfl rfl rfl (Nat.le_of_ble_eq_true rfl) (Nat.le_of_ble_eq_true rfl) (Nat.le_of_ble_eq_true rfl) rfl rfl (by decide) (fun n hn => z_goneP hP hn q)
theorem z_HyC2 {h : z_H} {a k : Nat} {H : Nat → z_HV} (hY : z_Hy h a k H) : ∃ o, h.2 a = some (.inr (2, [.ref (a + 1), .int (nI o), .int (nI k)])) := by
  obtain ⟨o, P, f, y1, -⟩ := hY
  exact ⟨_, y1⟩
theorem cP_account {w : Int32} (hP : z_P h p B x) (q : ∀ h', z_P h' p B x → z_Px p B h h' → Q (z_oc [z_IAE] (z_fAccount x w)) h') : z_W G 8 4 24 153 0 (z_L0 153 [.ref p, .int w]) [] h Q := by
  have hP0 := hP
  obtain ⟨ri, rl, sp, pos, ot, o, fd, hA⟩ := hP0
  refine z_iload_n rfl rfl ?_
  unfold z_fAccount at q
  rcases z_swN w 13 (by decide) with ⟨k, hk, rfl⟩ | hw
  · rcases (show k = 0 ∨ k = 1 ∨ k = 2 ∨ k = 3 ∨ k = 4 ∨ k = 5 ∨ k = 6 ∨ k = 7 ∨ k = 8 ∨ k = 9 ∨ k = 10 ∨ k = 11 ∨ k = 12 ∨ k = 13 by omega) with rfl | rfl | rfl | rfl | rfl | rfl | rfl | rfl | rfl | rfl | rfl | rfl | rfl | rfl
    · refine z_tswI (x := 0) (o := 71) (t := 72) rfl (by decide) (by decide) rfl rfl ?_
      refine z_aload_n rfl rfl ?_
      refine z_get rfl hA.c0 rfl ?_
      refine z_get rfl hA.h0.1 rfl ?_
      refine z_callV (av := []) rfl z_w27 hA.h0.2.1.1 rfl rfl rfl rfl rfl (Nat.le_of_ble_eq_true rfl) (Nat.le_of_ble_eq_true rfl) (Nat.le_of_ble_eq_true rfl) (Nat.le_of_ble_eq_true rfl) (cC_count hA.h0.2.1 ?_)
      refine z_iret rfl rfl ?_
      exact z_same hP q
    · refine z_tswI (x := 1) (o := 82) (t := 83) rfl (by decide) (by decide) rfl rfl ?_
      refine z_aload_n rfl rfl ?_
      refine z_get rfl hA.c0 rfl ?_
      refine z_get rfl hA.h0.1 rfl ?_
      refine z_get rfl hA.h0.2.1.1 rfl ?_
      refine z_iconst (v := 0) rfl (by decide) ?_
      refine z_callV (av := [_]) rfl z_w11 (hA.h0.2.1.2 1 (by decide)).1 rfl rfl rfl rfl rfl (Nat.le_of_ble_eq_true rfl) (Nat.le_of_ble_eq_true rfl) (Nat.le_of_ble_eq_true rfl) (Nat.le_of_ble_eq_true rfl) (cs_countOf (hA.h0.2.1.2 1 (by decide)) ?_)
      refine z_iret rfl rfl ?_
      exact z_same hP q
    · refine z_tswI (x := 2) (o := 97) (t := 98) rfl (by decide) (by decide) rfl rfl ?_
      refine z_aload_n rfl rfl ?_
      refine z_get rfl hA.c0 rfl ?_
      refine z_get rfl hA.h0.1 rfl ?_
      refine z_callV (av := []) rfl z_w51 hA.h0.2.2.1 rfl rfl rfl rfl rfl (Nat.le_of_ble_eq_true rfl) (Nat.le_of_ble_eq_true rfl) (Nat.le_of_ble_eq_true rfl) (Nat.le_of_ble_eq_true rfl) (cB_count hA.h0.2.2 ?_)
      refine z_iret rfl rfl ?_
      exact z_same hP q
    · refine z_tswI (x := 3) (o := 108) (t := 109) rfl (by decide) (by decide) rfl rfl ?_
      refine z_aload_n rfl rfl ?_
      refine z_get rfl hA.c0 rfl ?_
      refine z_get rfl hA.h0.1 rfl ?_
      refine z_callV (av := []) rfl z_w54 hA.h0.2.2.1 rfl rfl rfl rfl rfl (Nat.le_of_ble_eq_true rfl) (Nat.le_of_ble_eq_true rfl) (Nat.le_of_ble_eq_true rfl) (Nat.le_of_ble_eq_true rfl) (cB_adjournedCount hA.h0.2.2 ?_)
      refine z_iret rfl rfl ?_
      exact z_same hP q
    · refine z_tswI (x := 4) (o := 119) (t := 120) rfl (by decide) (by decide) rfl rfl ?_
      refine z_aload_n rfl rfl ?_
      refine z_get rfl hA.c0 rfl ?_
      refine z_get rfl hA.h0.1 rfl ?_
      refine z_iret rfl rfl ?_
      exact z_same hP q
    · refine z_tswI (x := 5) (o := 127) (t := 128) rfl (by decide) (by decide) rfl rfl ?_
      refine z_aload_n rfl rfl ?_
      refine z_get rfl hA.c0 rfl ?_
      refine z_get rfl hA.h0.1 rfl ?_
      refine z_get rfl hA.h0.2.1.1 rfl ?_
      refine z_callV (av := []) rfl z_w12 (hA.h0.2.1.2 1 (by decide)).1 rfl rfl rfl rfl rfl (Nat.le_of_ble_eq_true rfl) (Nat.le_of_ble_eq_true rfl) (Nat.le_of_ble_eq_true rfl) (Nat.le_of_ble_eq_true rfl) (cs_sum (hA.h0.2.1.2 1 (by decide)) ?_)
      refine z_iret rfl rfl ?_
      exact z_same hP q
    · refine z_tswI (x := 6) (o := 141) (t := 142) rfl (by decide) (by decide) rfl rfl ?_
      refine z_aload_n rfl rfl ?_
      refine z_get rfl hA.c0 rfl ?_
      refine z_get rfl hA.h0.1 rfl ?_
      refine z_iret rfl rfl ?_
      exact z_same hP q
    · refine z_tswI (x := 7) (o := 149) (t := 150) rfl (by decide) (by decide) rfl rfl ?_
      refine z_aload_n rfl rfl ?_
      refine z_get rfl hA.c0 rfl ?_
      refine z_get rfl hA.h0.1 rfl ?_
      refine z_iret rfl rfl ?_
      exact z_same hP q
    · refine z_tswI (x := 8) (o := 157) (t := 158) rfl (by decide) (by decide) rfl rfl ?_
      refine z_aload_n rfl rfl ?_
      refine z_get rfl hA.c0 rfl ?_
      refine z_get rfl hA.h0.1 rfl ?_
      refine z_aload_n rfl rfl ?_
      refine z_get rfl hA.c0 rfl ?_
      refine z_get rfl hA.h0.1 rfl ?_
      refine z_isub rfl ?_
      refine z_iret rfl rfl ?_
      exact z_same hP q
    · refine z_tswI (x := 9) (o := 173) (t := 174) rfl (by decide) (by decide) rfl rfl ?_
      refine z_aload_n rfl rfl ?_
      refine z_get rfl hA.c0 rfl ?_
      refine z_get rfl hA.h0.1 rfl ?_
      refine z_iret rfl rfl ?_
      exact z_same hP q
    · refine z_tswI (x := 10) (o := 181) (t := 182) rfl (by decide) (by decide) rfl rfl ?_
      refine z_aload_n rfl rfl ?_
      refine z_get rfl hA.c0 rfl ?_
      refine z_get rfl hA.h0.1 rfl ?_
      refine z_iret rfl rfl ?_
      exact z_same hP q
    · refine z_tswI (x := 11) (o := 189) (t := 190) rfl (by decide) (by decide) rfl rfl ?_
      refine z_aload_n rfl rfl ?_
      refine z_get rfl hA.c0 rfl ?_
      refine z_get rfl hA.h0.1 rfl ?_
      refine z_iret rfl rfl ?_
      exact z_same hP q
    · refine z_tswI (x := 12) (o := 197) (t := 198) rfl (by decide) (by decide) rfl rfl ?_
      refine z_aload_n rfl rfl ?_
      refine z_get rfl hA.c0 rfl ?_
      refine z_callV (av := []) rfl z_w90 hA.tc rfl rfl rfl rfl rfl (Nat.le_of_ble_eq_true rfl) (Nat.le_of_ble_eq_true rfl) (Nat.le_of_ble_eq_true rfl) (Nat.le_of_ble_eq_true rfl) (cT_length hA.tc hA.ti ?_)
      refine z_iret rfl rfl ?_
      exact z_same hP q
    · refine z_tswI (x := 13) (o := 205) (t := 206) rfl (by decide) (by decide) rfl rfl ?_
      refine z_aload_n rfl rfl ?_
      refine z_get rfl hA.c0 rfl ?_
      refine z_get rfl (z_HyC2 hA.hy).choose_spec rfl ?_
      refine z_iret rfl rfl ?_
      exact z_same hP q
  · refine z_tswO (t := 214) rfl (by first | exact hw | omega) rfl ?_
    rw [if_neg (z_swNe 0 hw), if_neg (z_swNe 1 hw), if_neg (z_swNe 2 hw), if_neg (z_swNe 3 hw), if_neg (z_swNe 4 hw), if_neg (z_swNe 5 hw), if_neg (z_swNe 6 hw), if_neg (z_swNe 7 hw), if_neg (z_swNe 8 hw), if_neg (z_swNe 9 hw), if_neg (z_swNe 10 hw), if_neg (z_swNe 11 hw), if_neg (z_swNe 12 hw), if_neg (z_swNe 13 hw)] at q
    exact z_throwW rfl rfl rfl rfl rfl rfl rfl (Nat.le_of_ble_eq_true rfl) (Nat.le_of_ble_eq_true rfl) (Nat.le_of_ble_eq_true rfl) rfl rfl (by decide) (fun n hn => z_goneP hP hn q)
theorem cP_keeper {c : Int32} (hP : z_P h p B x) (q : ∀ h', z_P h' p B x → z_Px p B h h' → Q (z_oc [z_IOB] (z_fKeeper x c)) h') : z_W G 8 4 24 117 0 (z_L0 117 [.ref p, .int c]) [] h Q := by
  have hP0 := hP
  obtain ⟨ri, rl, sp, pos, ot, o, fd, hA⟩ := hP0
  unfold z_fKeeper at q
  refine z_aload_n rfl rfl ?_
  refine z_get rfl hA.c0 rfl ?_
  refine z_get rfl hA.h0.1 rfl ?_
  refine z_get rfl hA.h0.2.1.1 rfl ?_
  refine z_iload_n rfl rfl ?_
  refine z_callV (av := [_]) rfl z_w2 (hA.h0.2.1.2 4 (by decide)).1 rfl rfl rfl rfl rfl (Nat.le_of_ble_eq_true rfl) (Nat.le_of_ble_eq_true rfl) (Nat.le_of_ble_eq_true rfl) (Nat.le_of_ble_eq_true rfl) (cs_has (hA.h0.2.1.2 4 (by decide)) ?_)
  refine z_if_ne rfl (fun c14 => ?_) (fun c14 => ?_)
  · refine z_aload_n rfl rfl ?_
    refine z_get rfl hA.c0 rfl ?_
    refine z_get rfl hA.h0.1 rfl ?_
    refine z_get rfl hA.h0.2.1.1 rfl ?_
    refine z_iload_n rfl rfl ?_
    refine z_callV (av := [_]) rfl z_w3 (hA.h0.2.1.2 4 (by decide)).1 rfl rfl rfl rfl rfl (Nat.le_of_ble_eq_true rfl) (Nat.le_of_ble_eq_true rfl) (Nat.le_of_ble_eq_true rfl) (Nat.le_of_ble_eq_true rfl) (z_Li.at hA.h0.2.1 (j := 4) (by decide) ?_)
    refine z_iret rfl rfl ?_
    rw [if_pos (z_i2 c14)] at q; exact z_same hP q
  · exact z_throw rfl rfl rfl rfl rfl rfl rfl (Nat.le_of_ble_eq_true rfl) (Nat.le_of_ble_eq_true rfl) (Nat.le_of_ble_eq_true rfl) rfl rfl (by decide) (fun n hn => z_goneP hP hn (by rw [if_neg (z_i0 c14)] at q; exact q))
theorem cP_apart {c e : Int32} (hP : z_P h p B x) (q : ∀ h', z_P h' p B x → z_Px p B h h' → Q (z_oc [z_IOB] (z_fApart x c e)) h') : z_W G 8 4 24 119 0 (z_L0 119 [.ref p, .int c, .int e]) [] h Q := by
  have hP0 := hP
  obtain ⟨ri, rl, sp, pos, ot, o, fd, hA⟩ := hP0
  unfold z_fApart at q
  refine z_aload_n rfl rfl ?_
  refine z_iload_n rfl rfl ?_
  refine z_callV (av := [_]) rfl z_w120 hA.c0 rfl rfl rfl rfl rfl (Nat.le_of_ble_eq_true rfl) (Nat.le_of_ble_eq_true rfl) (Nat.le_of_ble_eq_true rfl) (Nat.le_of_ble_eq_true rfl) (cP_checkClock hP (fun e1 => ?_) (fun e1 n hn => z_Xout rfl (z_goneP hP hn (by rw [if_pos e1] at q; exact q))))
  refine z_aload_n rfl rfl ?_
  refine z_iload_n rfl rfl ?_
  refine z_callV (av := [_]) rfl z_w120 hA.c0 rfl rfl rfl rfl rfl (Nat.le_of_ble_eq_true rfl) (Nat.le_of_ble_eq_true rfl) (Nat.le_of_ble_eq_true rfl) (Nat.le_of_ble_eq_true rfl) (cP_checkClock hP (fun e2 => ?_) (fun e2 n hn => z_Xout rfl (z_goneP hP hn (by rw [if_neg (by rw [e1]; decide), if_pos e2] at q; exact q))))
  refine z_aload_n rfl rfl ?_
  refine z_get rfl hA.c0 rfl ?_
  refine z_get rfl hA.h0.1 rfl ?_
  refine z_iload_n rfl rfl ?_
  refine z_iload_n rfl rfl ?_
  refine z_callV (av := [_, _]) rfl z_w30 hA.h0.2.1.1 rfl rfl rfl rfl rfl (Nat.le_of_ble_eq_true rfl) (Nat.le_of_ble_eq_true rfl) (Nat.le_of_ble_eq_true rfl) (Nat.le_of_ble_eq_true rfl) (cC_difference hA.h0.2.1 ?_)
  refine z_iret rfl rfl ?_
  rw [if_neg (by rw [e1]; decide), if_neg (by rw [e2]; decide)] at q; exact z_same hP q
theorem cP_foresee {n ri rl pos k : Nat} {hs sp sv : z_HV} {b : Bool} {H : Nat → z_HV} {inp ln : List Nat} {ot o : z_OV} {f kp cs : Int32 × Int32} {flt : Int32} (hn : n < 1000) (hA : z_Pa h p B ri rl hs sp sv b k H inp ln pos ot o f kp cs flt) (q : ∀ h', z_Pa h' p B ri rl hs (z_hrs hs n) sv b k H inp ln pos ot o f kp cs flt → z_Px p B h h' → Q (.inl none) h') : z_W G 6 0 0 130 0 (z_L0 130 [.ref p, .int (nI n)]) [] h Q := by
  refine z_aload_n rfl rfl ?_
  refine z_get rfl hA.c0 rfl ?_
  refine z_aload_n rfl rfl ?_
  refine z_get rfl hA.c0 rfl ?_
  refine z_callV (av := [_]) rfl z_w65 hA.h1.1 rfl rfl rfl rfl rfl (Nat.le_of_ble_eq_true rfl) (Nat.le_of_ble_eq_true rfl) (Nat.le_of_ble_eq_true rfl) (Nat.le_of_ble_eq_true rfl) (cH_copyFrom hA.h1 hA.h0 (by omega) (fun h1 hC1 hF1 => ?_))
  obtain ⟨hH1, hG1⟩ := z_Pa.l_h1 hA hC1 hF1
  refine z_aload_n rfl rfl ?_
  refine z_get rfl hH1.c0 rfl ?_
  refine z_iload_n rfl rfl ?_
  refine z_callV (av := [_]) rfl z_w76 hH1.h1.1 rfl rfl rfl rfl rfl (Nat.le_of_ble_eq_true rfl) (Nat.le_of_ble_eq_true rfl) (Nat.le_of_ble_eq_true rfl) (Nat.le_of_ble_eq_true rfl) (cH_passHours hn hH1.h1 (fun h2 hC2 hF2 => ?_))
  obtain ⟨hH2, hG2⟩ := z_Pa.l_h1 hH1 hC2 hF2
  refine z_pop rfl rfl ?_
  refine z_vret rfl rfl ?_
  exact q _ hH2 (hG1.trans hG2)
theorem cP_rowIn {n pl : Int32} (hP : z_P h p B x) (q : ∀ h', z_P h' p B x → z_Px p B h h' → Q (z_oc [z_IAE, z_NSE] (z_fRowIn x n pl)) h') : z_W G 8 4 24 123 0 (z_L0 123 [.ref p, .int n, .int pl]) [] h Q := by
  have hP0 := hP
  obtain ⟨ri, rl, sp, pos, ot, o, fd, hA⟩ := hP0
  unfold z_fRowIn at q
  refine z_aload_n rfl rfl ?_
  refine z_iload_n rfl rfl ?_
  refine z_bipush (v := 24) rfl (by decide) ?_
  refine z_callV (av := [_, _]) rfl z_w128 hA.c0 rfl rfl rfl rfl rfl (Nat.le_of_ble_eq_true rfl) (Nat.le_of_ble_eq_true rfl) (Nat.le_of_ble_eq_true rfl) (Nat.le_of_ble_eq_true rfl) (cP_checkRange (fun e => ?_) (fun e n hn => z_Xout rfl (z_goneP hP hn (by rw [if_pos e] at q; exact q))))
  obtain ⟨en, hn⟩ := z_rngIn (m := 24) (by decide) e
  rw [if_neg e] at q
  rw [en]
  refine z_aload_n rfl rfl ?_
  refine z_iload_n rfl rfl ?_
  refine z_callV (av := [_]) rfl z_w130 hA.c0 rfl rfl rfl rfl rfl (Nat.le_of_ble_eq_true rfl) (Nat.le_of_ble_eq_true rfl) (Nat.le_of_ble_eq_true rfl) (Nat.le_of_ble_eq_true rfl) (cP_foresee (by omega) hA (fun h1 hA1 hX1 => ?_))
  rw [← en]
  refine z_aload_n rfl rfl ?_
  refine z_aload_n rfl rfl ?_
  refine z_get rfl hA1.c0 rfl ?_
  refine z_get rfl hA1.h1.1 rfl ?_
  refine z_get rfl hA1.h1.2.2.1 rfl ?_
  refine z_iload_n rfl rfl ?_
  refine z_callV (av := [_, _]) rfl z_w129 hA1.c0 rfl rfl rfl rfl rfl (Nat.le_of_ble_eq_true rfl) (Nat.le_of_ble_eq_true rfl) (Nat.le_of_ble_eq_true rfl) (Nat.le_of_ble_eq_true rfl) (cP_billAt (hA1.h1.2.2.2 5 (by decide)) (fun e => ?_) (fun e n hn => z_Xout rfl (q _ ⟨_, _, _, _, _, _, _, hA1.more hn⟩ (z_Px.more hX1 hn) |> fun q2 => by rw [if_neg (by rw [e]; decide)] at q2; exact q2)))
  refine z_iret rfl rfl ?_
  rw [if_pos e] at q; exact q _ ⟨_, _, _, _, _, _, _, hA1⟩ hX1
theorem cP_rowAgain {n pl : Int32} (hP : z_P h p B x) (q : ∀ h', z_P h' p B x → z_Px p B h h' → Q (z_oc [z_IAE, z_NSE] (z_fRowAgain x n pl)) h') : z_W G 8 4 24 124 0 (z_L0 124 [.ref p, .int n, .int pl]) [] h Q := by
  have hP0 := hP
  obtain ⟨ri, rl, sp, pos, ot, o, fd, hA⟩ := hP0
  unfold z_fRowAgain at q
  refine z_aload_n rfl rfl ?_
  refine z_iload_n rfl rfl ?_
  refine z_bipush (v := 24) rfl (by decide) ?_
  refine z_callV (av := [_, _]) rfl z_w128 hA.c0 rfl rfl rfl rfl rfl (Nat.le_of_ble_eq_true rfl) (Nat.le_of_ble_eq_true rfl) (Nat.le_of_ble_eq_true rfl) (Nat.le_of_ble_eq_true rfl) (cP_checkRange (fun e => ?_) (fun e n hn => z_Xout rfl (z_goneP hP hn (by rw [if_pos e] at q; exact q))))
  rw [if_neg e] at q
  refine z_aload_n rfl rfl ?_
  refine z_get rfl hA.c0 rfl ?_
  refine z_get rfl hA.h0.1 rfl ?_
  refine z_iload_n rfl rfl ?_
  refine z_iload_n rfl rfl ?_
  refine z_callV (av := [_, _]) rfl z_w60 hA.h0.2.2.1 rfl rfl rfl rfl rfl (Nat.le_of_ble_eq_true rfl) (Nat.le_of_ble_eq_true rfl) (Nat.le_of_ble_eq_true rfl) (Nat.le_of_ble_eq_true rfl) (cB_billAfter hA.h0.2.2 ?_)
  refine z_istore_n rfl (by decide +kernel) rfl ?_
  refine z_iload_n rfl rfl ?_
  refine z_iconst (v := (-1)) rfl (by decide) ?_
  refine z_icmp_ne rfl (fun c22 => ?_) (fun c22 => ?_)
  · refine z_iload_n rfl rfl ?_
    refine z_iret rfl rfl ?_
    rw [if_neg c22] at q; exact z_same hP q
  · exact z_throwN rfl rfl rfl rfl rfl rfl rfl (Nat.le_of_ble_eq_true rfl) (Nat.le_of_ble_eq_true rfl) (Nat.le_of_ble_eq_true rfl) rfl rfl ⟨rfl, rfl⟩ (fun n hn => z_goneP hP hn (by rw [if_pos c22] at q; exact q))
theorem cP_next (hP : z_P h p B x) (q : ∀ h', z_P h' p B x → z_Px p B h h' → Q (z_oc [z_NSE] (z_fNext x)) h') : z_W G 8 4 24 125 0 (z_L0 125 [.ref p]) [] h Q := by
  have hP0 := hP
  obtain ⟨ri, rl, sp, pos, ot, o, fd, hA⟩ := hP0
  unfold z_fNext at q
  refine z_aload_n rfl rfl ?_
  refine z_get rfl hA.c0 rfl ?_
  refine z_get rfl hA.h0.1 rfl ?_
  refine z_callV (av := []) rfl z_w59 hA.h0.2.2.1 rfl rfl rfl rfl rfl (Nat.le_of_ble_eq_true rfl) (Nat.le_of_ble_eq_true rfl) (Nat.le_of_ble_eq_true rfl) (Nat.le_of_ble_eq_true rfl) (cB_hoursToNext hA.h0.2.2 ?_)
  refine z_istore_n rfl (by decide +kernel) rfl ?_
  refine z_iload_n rfl rfl ?_
  refine z_if_ne rfl (fun c12 => ?_) (fun c12 => ?_)
  · refine z_iload_n rfl rfl ?_
    refine z_iret rfl rfl ?_
    rw [if_neg c12] at q; exact z_same hP q
  · exact z_throwNW rfl rfl rfl rfl rfl rfl rfl (Nat.le_of_ble_eq_true rfl) (Nat.le_of_ble_eq_true rfl) (Nat.le_of_ble_eq_true rfl) rfl rfl ⟨rfl, rfl⟩ (fun n hn => z_goneP hP hn (by rw [if_pos c12] at q; exact q))
theorem cP_silentIn {c : Int32} (hP : z_P h p B x) (q : ∀ h', z_P h' p B x → z_Px p B h h' → Q (z_oc [z_IOB] (z_fSilentIn x c)) h') : z_W G 8 4 24 126 0 (z_L0 126 [.ref p, .int c]) [] h Q := by
  have hP0 := hP
  obtain ⟨ri, rl, sp, pos, ot, o, fd, hA⟩ := hP0
  unfold z_fSilentIn at q
  have loop : (∀ h', z_P h' p B x → z_Px p B h h' → Q (.inl (some (.int (nI (z_sil x.1 c 24 0))))) h') → ∀ (m i : Nat) (hh : z_H) (sp : z_HV), i + m = 24 → z_Pa hh p B ri rl x.1 sp x.2.1 x.2.2.1 x.2.2.2.1 x.2.2.2.2.1 x.2.2.2.2.2.1 x.2.2.2.2.2.2.1 pos ot o fd x.2.2.2.2.2.2.2.1 x.2.2.2.2.2.2.2.2.1 x.2.2.2.2.2.2.2.2.2 → z_Px p B h hh → z_sil x.1 c 24 0 = z_sil sp c m i → z_W G 8 0 0 126 12 [.ref p, .int c, .int (nI i)] [] hh Q := by
    intro q m
    induction m with
    | zero =>
      intro i hh sp hi hA hX he
      refine z_iload_n rfl rfl ?_
      refine z_bipush (v := 24) rfl (by decide) ?_
      refine z_icmp_ge rfl (fun c15 => ?_) (fun c15 => absurd (show (24 : Int32) ≤ nI i from (nI_leI (a := 24) (by decide) (by omega)).mpr (by omega)) c15)
      refine z_iload_n rfl rfl ?_
      refine z_iret rfl rfl ?_
      rw [he] at q; exact q _ ⟨_, _, _, _, _, _, _, hA⟩ hX
    | succ m ih =>
      intro i hh sp hi hA hX he
      have e0 : z_sil sp c (m + 1) i = if z_a sp.1 1 c = 0 then i else z_sil (z_hr1 sp) c m (i + 1) := rfl
      rw [e0] at he
      refine z_iload_n rfl rfl ?_
      refine z_bipush (v := 24) rfl (by decide) ?_
      refine z_icmp_ge rfl (fun c15 => absurd c15 (show ¬ (24 : Int32) ≤ nI i from fun e9 => absurd ((nI_leI (a := 24) (by decide) (by omega)).mp e9) (by omega))) (fun c15 => ?_)
      refine z_aload_n rfl rfl ?_
      refine z_get rfl hA.c0 rfl ?_
      refine z_get rfl hA.h1.1 rfl ?_
      refine z_iload_n rfl rfl ?_
      refine z_callV (av := [_]) rfl z_w29 hA.h1.2.1.1 rfl rfl rfl rfl rfl (Nat.le_of_ble_eq_true rfl) (Nat.le_of_ble_eq_true rfl) (Nat.le_of_ble_eq_true rfl) (Nat.le_of_ble_eq_true rfl) (cC_isSilent hA.h1.2.1 ?_)
      refine z_if_ne rfl (fun c29 => ?_) (fun c29 => ?_)
      · refine z_iload_n rfl rfl ?_
        refine z_iret rfl rfl ?_
        rw [if_pos (z_i2 c29)] at he; rw [he] at q; exact q _ ⟨_, _, _, _, _, _, _, hA⟩ hX
      · refine z_aload_n rfl rfl ?_
        refine z_get rfl hA.c0 rfl ?_
        refine z_iconst (v := 1) rfl (by decide) ?_
        refine z_callV (av := [_]) rfl z_w76 hA.h1.1 rfl rfl rfl rfl rfl (Nat.le_of_ble_eq_true rfl) (Nat.le_of_ble_eq_true rfl) (Nat.le_of_ble_eq_true rfl) (Nat.le_of_ble_eq_true rfl) (cH_passHours (n := 1) (by decide) hA.h1 (fun h1 hC1 hF1 => ?_))
        obtain ⟨hA1, hX1⟩ := z_Pa.l_h1 hA hC1 hF1
        refine z_pop rfl rfl ?_
        refine z_iinc1 rfl rfl (by decide +kernel) rfl ?_
        refine z_goto rfl (ih (i + 1) _ _ (by omega) hA1 (hX.trans hX1) ?_)
        rw [if_neg (z_i0 c29)] at he
        exact he
  refine z_aload_n rfl rfl ?_
  refine z_iload_n rfl rfl ?_
  refine z_callV (av := [_]) rfl z_w120 hA.c0 rfl rfl rfl rfl rfl (Nat.le_of_ble_eq_true rfl) (Nat.le_of_ble_eq_true rfl) (Nat.le_of_ble_eq_true rfl) (Nat.le_of_ble_eq_true rfl) (cP_checkClock hP (fun e => ?_) (fun e n hn => z_Xout rfl (z_goneP hP hn (by rw [if_pos e] at q; exact q))))
  rw [if_neg (by rw [e]; decide)] at q
  refine z_aload_n rfl rfl ?_
  refine z_iconst (v := 0) rfl (by decide) ?_
  refine z_callV (av := [_]) rfl z_w130 hA.c0 rfl rfl rfl rfl rfl (Nat.le_of_ble_eq_true rfl) (Nat.le_of_ble_eq_true rfl) (Nat.le_of_ble_eq_true rfl) (Nat.le_of_ble_eq_true rfl) (cP_foresee (n := 0) (by decide) hA (fun h1 hA1 hX1 => ?_))
  refine z_iconst (v := nI 0) rfl (by decide) ?_
  refine z_istore_n rfl (by decide +kernel) rfl ?_
  exact (loop q 24 0 _ _ rfl hA1 hX1 rfl).mono (by decide) (by decide) (by decide)
theorem cP_secondIn {c n : Int32} (hP : z_P h p B x) (q : ∀ h', z_P h' p B x → z_Px p B h h' → Q (z_oc [z_IOB, z_IAE] (z_fSecondIn x c n)) h') : z_W G 8 4 24 127 0 (z_L0 127 [.ref p, .int c, .int n]) [] h Q := by
  have hP0 := hP
  obtain ⟨ri, rl, sp, pos, ot, o, fd, hA⟩ := hP0
  unfold z_fSecondIn at q
  refine z_aload_n rfl rfl ?_
  refine z_iload_n rfl rfl ?_
  refine z_callV (av := [_]) rfl z_w120 hA.c0 rfl rfl rfl rfl rfl (Nat.le_of_ble_eq_true rfl) (Nat.le_of_ble_eq_true rfl) (Nat.le_of_ble_eq_true rfl) (Nat.le_of_ble_eq_true rfl) (cP_checkClock hP (fun e1 => ?_) (fun e1 n hn => z_Xout rfl (z_goneP hP hn (by rw [if_pos e1] at q; exact q))))
  rw [if_neg (by rw [e1]; decide)] at q
  refine z_aload_n rfl rfl ?_
  refine z_iload_n rfl rfl ?_
  refine z_bipush (v := 48) rfl (by decide) ?_
  refine z_callV (av := [_, _]) rfl z_w128 hA.c0 rfl rfl rfl rfl rfl (Nat.le_of_ble_eq_true rfl) (Nat.le_of_ble_eq_true rfl) (Nat.le_of_ble_eq_true rfl) (Nat.le_of_ble_eq_true rfl) (cP_checkRange (fun e => ?_) (fun e n hn => z_Xout rfl (z_goneP hP hn (by rw [if_pos e] at q; exact q))))
  obtain ⟨en, hn⟩ := z_rngIn (m := 48) (by decide) e
  rw [if_neg e] at q
  rw [en]
  refine z_aload_n rfl rfl ?_
  refine z_iload_n rfl rfl ?_
  refine z_callV (av := [_]) rfl z_w130 hA.c0 rfl rfl rfl rfl rfl (Nat.le_of_ble_eq_true rfl) (Nat.le_of_ble_eq_true rfl) (Nat.le_of_ble_eq_true rfl) (Nat.le_of_ble_eq_true rfl) (cP_foresee (by omega) hA (fun h1 hA1 hX1 => ?_))
  rw [← en]
  refine z_aload_n rfl rfl ?_
  refine z_get rfl hA1.c0 rfl ?_
  refine z_get rfl hA1.h1.1 rfl ?_
  refine z_get rfl hA1.h1.2.1.1 rfl ?_
  refine z_iload_n rfl rfl ?_
  refine z_callV (av := [_]) rfl z_w3 (hA1.h1.2.1.2 0 (by decide)).1 rfl rfl rfl rfl rfl (Nat.le_of_ble_eq_true rfl) (Nat.le_of_ble_eq_true rfl) (Nat.le_of_ble_eq_true rfl) (Nat.le_of_ble_eq_true rfl) (z_Li.at hA1.h1.2.1 (j := 0) (by decide) ?_)
  refine z_iret rfl rfl ?_
  exact q _ ⟨_, _, _, _, _, _, _, hA1⟩ hX1
theorem cP_voters {c : Int32} (hP : z_P h p B x) (q : ∀ h', z_P h' p B x → z_Px p B h h' → Q (z_oc [z_IOB] (z_fVoters x c)) h') : z_W G 8 4 24 131 0 (z_L0 131 [.ref p, .int c]) [] h Q := by
  have hP0 := hP
  obtain ⟨ri, rl, sp, pos, ot, o, fd, hA⟩ := hP0
  unfold z_fVoters at q
  refine z_aload_n rfl rfl ?_
  refine z_iload_n rfl rfl ?_
  refine z_callV (av := [_]) rfl z_w121 hA.c0 rfl rfl rfl rfl rfl (Nat.le_of_ble_eq_true rfl) (Nat.le_of_ble_eq_true rfl) (Nat.le_of_ble_eq_true rfl) (Nat.le_of_ble_eq_true rfl) (cP_checkBill hP (fun e1 => ?_) (fun e1 n hn => z_Xout rfl (z_goneP hP hn (by rw [if_pos e1] at q; exact q))))
  rw [if_neg (by rw [e1]; decide)] at q
  refine z_aload_n rfl rfl ?_
  refine z_get rfl hA.c0 rfl ?_
  refine z_iload_n rfl rfl ?_
  refine z_callV (av := [_]) rfl z_w77 hA.h0.1 rfl rfl rfl rfl rfl (Nat.le_of_ble_eq_true rfl) (Nat.le_of_ble_eq_true rfl) (Nat.le_of_ble_eq_true rfl) (Nat.le_of_ble_eq_true rfl) (cH_votersOn hA.h0 ?_)
  refine z_iret rfl rfl ?_
  exact z_same hP q
theorem cP_majority {c : Int32} (hP : z_P h p B x) (q : ∀ h', z_P h' p B x → z_Px p B h h' → Q (z_oc [z_IOB] (z_fMajority x c)) h') : z_W G 8 4 24 132 0 (z_L0 132 [.ref p, .int c]) [] h Q := by
  have hP0 := hP
  obtain ⟨ri, rl, sp, pos, ot, o, fd, hA⟩ := hP0
  unfold z_fMajority at q
  refine z_aload_n rfl rfl ?_
  refine z_iload_n rfl rfl ?_
  refine z_callV (av := [_]) rfl z_w121 hA.c0 rfl rfl rfl rfl rfl (Nat.le_of_ble_eq_true rfl) (Nat.le_of_ble_eq_true rfl) (Nat.le_of_ble_eq_true rfl) (Nat.le_of_ble_eq_true rfl) (cP_checkBill hP (fun e1 => ?_) (fun e1 n hn => z_Xout rfl (z_goneP hP hn (by rw [if_pos e1] at q; exact q))))
  rw [if_neg (by rw [e1]; decide)] at q
  refine z_aload_n rfl rfl ?_
  refine z_get rfl hA.c0 rfl ?_
  refine z_iload_n rfl rfl ?_
  refine z_callV (av := [_]) rfl z_w78 hA.h0.1 rfl rfl rfl rfl rfl (Nat.le_of_ble_eq_true rfl) (Nat.le_of_ble_eq_true rfl) (Nat.le_of_ble_eq_true rfl) (Nat.le_of_ble_eq_true rfl) (cH_majorityOn hA.h0 ?_)
  refine z_iret rfl rfl ?_
  exact z_same hP q
theorem cP_majorityAgain {c : Int32} (hP : z_P h p B x) (q : ∀ h', z_P h' p B x → z_Px p B h h' → Q (z_oc [z_IOB] (z_fMajorityAgain x c)) h') : z_W G 8 4 24 133 0 (z_L0 133 [.ref p, .int c]) [] h Q := by
  have hP0 := hP
  obtain ⟨ri, rl, sp, pos, ot, o, fd, hA⟩ := hP0
  unfold z_fMajorityAgain at q
  refine z_aload_n rfl rfl ?_
  refine z_iload_n rfl rfl ?_
  refine z_callV (av := [_]) rfl z_w121 hA.c0 rfl rfl rfl rfl rfl (Nat.le_of_ble_eq_true rfl) (Nat.le_of_ble_eq_true rfl) (Nat.le_of_ble_eq_true rfl) (Nat.le_of_ble_eq_true rfl) (cP_checkBill hP (fun e1 => ?_) (fun e1 n hn => z_Xout rfl (z_goneP hP hn (by rw [if_pos e1] at q; exact q))))
  rw [if_neg (by rw [e1]; decide)] at q
  refine z_aload_n rfl rfl ?_
  refine z_get rfl hA.c0 rfl ?_
  refine z_iload_n rfl rfl ?_
  refine z_callV (av := [_]) rfl z_w80 hA.h0.1 rfl rfl rfl rfl rfl (Nat.le_of_ble_eq_true rfl) (Nat.le_of_ble_eq_true rfl) (Nat.le_of_ble_eq_true rfl) (Nat.le_of_ble_eq_true rfl) (cH_majorityByLeanings hA.h0 ?_)
  refine z_iret rfl rfl ?_
  exact z_same hP q
theorem cP_wouldCarry {c : Int32} (hP : z_P h p B x) (q : ∀ h', z_P h' p B x → z_Px p B h h' → Q (z_oc [z_IOB] (z_fWouldCarry x c)) h') : z_W G 8 4 24 134 0 (z_L0 134 [.ref p, .int c]) [] h Q := by
  have hP0 := hP
  obtain ⟨ri, rl, sp, pos, ot, o, fd, hA⟩ := hP0
  unfold z_fWouldCarry at q
  refine z_aload_n rfl rfl ?_
  refine z_iload_n rfl rfl ?_
  refine z_callV (av := [_]) rfl z_w121 hA.c0 rfl rfl rfl rfl rfl (Nat.le_of_ble_eq_true rfl) (Nat.le_of_ble_eq_true rfl) (Nat.le_of_ble_eq_true rfl) (Nat.le_of_ble_eq_true rfl) (cP_checkBill hP (fun e1 => ?_) (fun e1 n hn => z_Xout rfl (z_goneP hP hn (by rw [if_pos e1] at q; exact q))))
  rw [if_neg (by rw [e1]; decide)] at q
  refine z_aload_n rfl rfl ?_
  refine z_get rfl hA.c0 rfl ?_
  refine z_iload_n rfl rfl ?_
  refine z_callV (av := [_]) rfl z_w82 hA.h0.1 rfl rfl rfl rfl rfl (Nat.le_of_ble_eq_true rfl) (Nat.le_of_ble_eq_true rfl) (Nat.le_of_ble_eq_true rfl) (Nat.le_of_ble_eq_true rfl) (cH_isWon hA.h0 ?_)
  refine z_zret (ty := .boolean) rfl rfl (by first | decide | exact z_nb _) ?_
  exact z_same hP q
theorem cP_carried (hP : z_P h p B x) (q : ∀ h', z_P h' p B x → z_Px p B h h' → Q (.inl (some (.int (z_crd x.1)))) h') : z_W G 8 0 0 135 0 (z_L0 135 [.ref p]) [] h Q := by
  have hP0 := hP
  obtain ⟨ri, rl, sp, pos, ot, o, fd, hA⟩ := hP0
  have hn : x.1.2.1.1 0 ≤ 10 := (hA.h0.2.2.2 0 (by decide)).fits.1
  have loop : ∀ (k i : Nat) (s : Int32), i + k = x.1.2.1.1 0 → s = z_bits (z_crP x.1) i → z_W G 8 0 0 135 4 [.ref p, .int s, .int (nI i)] [] h Q := by
    intro k
    induction k with
    | zero =>
      intro i s hi hs
      refine z_iload_n rfl rfl ?_
      refine z_aload_n rfl rfl ?_
      refine z_get rfl hA.c0 rfl ?_
      refine z_get rfl hA.h0.1 rfl ?_
      refine z_callV (av := []) rfl z_w51 hA.h0.2.2.1 rfl rfl rfl rfl rfl (Nat.le_of_ble_eq_true rfl) (Nat.le_of_ble_eq_true rfl) (Nat.le_of_ble_eq_true rfl) (Nat.le_of_ble_eq_true rfl) (cB_count hA.h0.2.2 ?_)
      refine z_icmp_ge rfl (fun c15 => ?_) (fun c15 => absurd (show nI (x.1.2.1.1 0) ≤ nI i from (nI_leI (by omega) (by omega)).mpr (by omega)) c15)
      refine z_iload_n rfl rfl ?_
      refine z_iret rfl rfl ?_
      subst hs; rw [show i = x.1.2.1.1 0 by omega]; exact z_same hP q
    | succ k ih =>
      intro i s hi hs
      refine z_iload_n rfl rfl ?_
      refine z_aload_n rfl rfl ?_
      refine z_get rfl hA.c0 rfl ?_
      refine z_get rfl hA.h0.1 rfl ?_
      refine z_callV (av := []) rfl z_w51 hA.h0.2.2.1 rfl rfl rfl rfl rfl (Nat.le_of_ble_eq_true rfl) (Nat.le_of_ble_eq_true rfl) (Nat.le_of_ble_eq_true rfl) (Nat.le_of_ble_eq_true rfl) (cB_count hA.h0.2.2 ?_)
      refine z_icmp_ge rfl (fun c15 => absurd c15 (show ¬ nI (x.1.2.1.1 0) ≤ nI i from fun q9 => absurd ((nI_leI (by omega) (by omega)).mp q9) (by omega))) (fun c15 => ?_)
      refine z_aload_n rfl rfl ?_
      refine z_get rfl hA.c0 rfl ?_
      refine z_get rfl hA.h0.1 rfl ?_
      refine z_iload_n rfl rfl ?_
      refine z_callV (av := [_]) rfl z_w53 hA.h0.2.2.1 rfl rfl rfl rfl rfl (Nat.le_of_ble_eq_true rfl) (Nat.le_of_ble_eq_true rfl) (Nat.le_of_ble_eq_true rfl) (Nat.le_of_ble_eq_true rfl) (cB_isAdjourned hA.h0.2.2 ?_)
      refine z_if_ne rfl (fun c29 => ?_) (fun c29 => ?_)
      · refine z_iinc1 rfl rfl (by decide +kernel) rfl ?_
        exact z_goto rfl (ih (i + 1) _ (by omega) (by subst hs; exact (if_neg (by unfold z_crP; rw [z_i2 c29]; simp)).symm))
      · refine z_aload_n rfl rfl ?_
        refine z_get rfl hA.c0 rfl ?_
        refine z_iload_n rfl rfl ?_
        refine z_callV (av := [_]) rfl z_w82 hA.h0.1 rfl rfl rfl rfl rfl (Nat.le_of_ble_eq_true rfl) (Nat.le_of_ble_eq_true rfl) (Nat.le_of_ble_eq_true rfl) (Nat.le_of_ble_eq_true rfl) (cH_isWon hA.h0 ?_)
        refine z_if_eq rfl (fun c40 => ?_) (fun c40 => ?_)
        · refine z_iinc1 rfl rfl (by decide +kernel) rfl ?_
          exact z_goto rfl (ih (i + 1) _ (by omega) (by subst hs; exact (if_neg (by unfold z_crP; rw [Bool.and_eq_true]; exact fun e9 => z_i0 c40 e9.2)).symm))
        · refine z_iload_n rfl rfl ?_
          refine z_iconst (v := 1) rfl (by decide) ?_
          refine z_iload_n rfl rfl ?_
          refine z_ishl rfl ?_
          refine z_ior rfl ?_
          refine z_istore_n rfl (by decide +kernel) rfl ?_
          refine z_iinc1 rfl rfl (by decide +kernel) rfl ?_
          exact z_goto rfl (ih (i + 1) _ (by omega) (by subst hs; exact (if_pos (by unfold z_crP; rw [show z_adj x.1.2.1 (nI i) = false from by simpa using z_i0 c29, z_i2 c40]; rfl)).symm))
  refine z_iconst (v := 0) rfl (by decide) ?_
  refine z_istore_n rfl (by decide +kernel) rfl ?_
  refine z_iconst (v := nI 0) rfl (by decide) ?_
  refine z_istore_n rfl (by decide +kernel) rfl ?_
  exact loop _ 0 0 (Nat.zero_add _) rfl
theorem cP_weakest (hP : z_P h p B x) (q : ∀ h', z_P h' p B x → z_Px p B h h' → Q (z_oc [z_NSE] (z_fWeakest x)) h') : z_W G 8 4 24 136 0 (z_L0 136 [.ref p]) [] h Q := by
  have hP0 := hP
  obtain ⟨ri, rl, sp, pos, ot, o, fd, hA⟩ := hP0
  have hn : x.1.1.1 0 ≤ 8 := (hA.h0.2.1.2 0 (by decide)).fits.1
  unfold z_fWeakest at q
  refine z_aload_n rfl rfl ?_
  refine z_get rfl hA.c0 rfl ?_
  refine z_get rfl hA.h0.1 rfl ?_
  refine z_callV (av := []) rfl z_w27 hA.h0.2.1.1 rfl rfl rfl rfl rfl (Nat.le_of_ble_eq_true rfl) (Nat.le_of_ble_eq_true rfl) (Nat.le_of_ble_eq_true rfl) (Nat.le_of_ble_eq_true rfl) (cC_count hA.h0.2.1 ?_)
  refine z_if_ne rfl (fun c10 => ?_) (fun c10 => ?_)
  · refine z_aload_n rfl rfl ?_
    refine z_get rfl hA.c0 rfl ?_
    refine z_get rfl hA.h0.1 rfl ?_
    refine z_callV (av := []) rfl z_w43 hA.h0.2.1.1 rfl rfl rfl rfl rfl (Nat.le_of_ble_eq_true rfl) (Nat.le_of_ble_eq_true rfl) (Nat.le_of_ble_eq_true rfl) (Nat.le_of_ble_eq_true rfl) (cC_weakestOfAll hA.h0.2.1 ?_)
    refine z_iret rfl rfl ?_
    rw [if_neg (fun e9 => c10 (by rw [e9]; rfl))] at q; exact z_same hP q
  · exact z_throwNW rfl rfl rfl rfl rfl rfl rfl (Nat.le_of_ble_eq_true rfl) (Nat.le_of_ble_eq_true rfl) (Nat.le_of_ble_eq_true rfl) rfl rfl ⟨rfl, rfl⟩ (fun n hn9 => z_goneP hP hn9 (by rw [if_pos ((nI_eq (b := 0) (by omega) (by decide)).mp c10)] at q; exact q))
theorem cP_circle {c : Int32} (hP : z_P h p B x) (q : ∀ h', z_P h' p B x → z_Px p B h h' → Q (z_oc [z_IOB] (z_fCircle x c)) h') : z_W G 8 4 24 137 0 (z_L0 137 [.ref p, .int c]) [] h Q := by
  have hP0 := hP
  obtain ⟨ri, rl, sp, pos, ot, o, fd, hA⟩ := hP0
  unfold z_fCircle at q
  refine z_aload_n rfl rfl ?_
  refine z_iload_n rfl rfl ?_
  refine z_callV (av := [_]) rfl z_w120 hA.c0 rfl rfl rfl rfl rfl (Nat.le_of_ble_eq_true rfl) (Nat.le_of_ble_eq_true rfl) (Nat.le_of_ble_eq_true rfl) (Nat.le_of_ble_eq_true rfl) (cP_checkClock hP (fun e1 => ?_) (fun e1 n hn => z_Xout rfl (z_goneP hP hn (by rw [if_pos e1] at q; exact q))))
  rw [if_neg (by rw [e1]; decide)] at q
  refine z_aload_n rfl rfl ?_
  refine z_get rfl hA.c0 rfl ?_
  refine z_get rfl hA.h0.1 rfl ?_
  refine z_iload_n rfl rfl ?_
  refine z_callV (av := [_]) rfl z_w42 hA.h0.2.1.1 rfl rfl rfl rfl rfl (Nat.le_of_ble_eq_true rfl) (Nat.le_of_ble_eq_true rfl) (Nat.le_of_ble_eq_true rfl) (Nat.le_of_ble_eq_true rfl) (cC_reachedFrom hA.h0.2.1 ?_)
  refine z_iret rfl rfl ?_
  exact z_same hP q
end ZQy
