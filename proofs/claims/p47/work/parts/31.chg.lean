/-! ClockParliament: its changes. -/
/-- what a call answers: the number of the exception, 0 for none, the value, the object then -/
abbrev z_An : Type := Nat × Int32 × z_PV
def z_oc (Es : List String) (r : z_An) : z_O := if r.1 = 0 then .inl (some (.int r.2.1)) else .inr (Es.getD (r.1 - 1) "")
def z_refu (x : z_PV) (pr : Int32 × Int32) : z_PV := (x.1, x.2.1, x.2.2.1, x.2.2.2.1, x.2.2.2.2.1, x.2.2.2.2.2.1, x.2.2.2.2.2.2.1, pr, (0, 0), x.2.2.2.2.2.2.2.2.2)
def z_dune (x : z_PV) (v : z_HV) : z_PV := (v, x.2.1, x.2.2.1, z_kpK x.2.2.2.1, z_kpH x.2.2.2.1 x.2.2.2.2.1 x.1, x.2.2.2.2.2)
def z_fChg (x : z_PV) (o : z_OV) : z_An := match z_ref x.1 o with
  | some pr => (1, 0, z_refu x pr)
  | none => (0, (z_do x.1 o).2, z_dune x (z_do x.1 o).1)
def z_UOE : String := "java/lang/UnsupportedOperationException"
def z_IOB : String := "java/lang/IndexOutOfBoundsException"
def z_IAE : String := "java/lang/IllegalArgumentException"
def z_NSE : String := "java/util/NoSuchElementException"
def z_ISE : String := "java/lang/IllegalStateException"
def z_ARE : String := "java/lang/ArithmeticException"
section ZCh
variable {G : z_G} {h : z_H} {Q : z_O → z_H → Prop} {p : Nat} {B : Nat → Prop} {x : z_PV}
theorem cP_change {k : Nat} {f s t : Int32} (hk : k < 10) (hz : z_szs x.1) (hP : z_P h p B x) (q : ∀ h', z_P h' p B (z_fChg x (k, f, s, t, 0)).2.2 → z_Px p B h h' → Q (z_oc [z_UOE] (z_fChg x (k, f, s, t, 0))) h') : z_W G 9 1 6 114 0 (z_L0 114 [.ref p, .ref (k + 1), .int f, .int s, .int t]) [] h Q := by
  obtain ⟨ri, rl, sp, pos, ot, o, fd, hA⟩ := hP
  unfold z_fChg at q
  refine z_aload_n rfl rfl ?_
  refine z_get rfl hA.c0 rfl ?_
  refine z_aload_n rfl rfl ?_
  refine z_iload_n rfl rfl ?_
  refine z_iload_n rfl rfl ?_
  refine z_iload rfl rfl ?_
  refine z_callV (av := [_, _, _, _]) rfl z_w23 hA.od rfl rfl rfl rfl rfl (Nat.le_of_ble_eq_true rfl) (Nat.le_of_ble_eq_true rfl) (Nat.le_of_ble_eq_true rfl) (Nat.le_of_ble_eq_true rfl) (cO_fill hA.od (fun h1 hC1 hF1 => ?_))
  obtain ⟨hH1, hG1⟩ := z_Pa.l_od hA hC1 hF1
  refine z_aload_n rfl rfl ?_
  refine z_get rfl hH1.c0 rfl ?_
  refine z_aload_n rfl rfl ?_
  refine z_get rfl hH1.c0 rfl ?_
  refine z_aload_n rfl rfl ?_
  refine z_get rfl hH1.c0 rfl ?_
  refine z_callV (av := [_, _]) rfl z_w66 hH1.h0.1 rfl rfl rfl rfl rfl (Nat.le_of_ble_eq_true rfl) (Nat.le_of_ble_eq_true rfl) (Nat.le_of_ble_eq_true rfl) (Nat.le_of_ble_eq_true rfl) (cH_refuses hH1.h0 hH1.od hH1.fd hk (by omega) (by omega) (fun p24 => fun e24 h2 hC2 hF2 => ?_) (fun e24 => ?_))
  · obtain ⟨hH2, hG2⟩ := z_Pa.l_fd hH1 hC2 hF2
    refine z_if_eq rfl (fun c27 => absurd c27 (by decide)) (fun c27 => ?_)
    refine z_aload_n rfl rfl ?_
    refine z_get rfl hH2.c0 rfl ?_
    refine z_aload_n rfl rfl ?_
    refine z_get rfl hH2.c0 rfl ?_
    refine z_callV (av := [_]) rfl z_w18 hH2.kc rfl rfl rfl rfl rfl (Nat.le_of_ble_eq_true rfl) (Nat.le_of_ble_eq_true rfl) (Nat.le_of_ble_eq_true rfl) (Nat.le_of_ble_eq_true rfl) (cR_copyFrom hH2.kc hH2.fd (fun h3 hC3 hF3 => ?_))
    obtain ⟨hH3, hG3⟩ := z_Pa.l_kc hH2 hC3 hF3
    refine z_aload_n rfl rfl ?_
    refine z_get rfl hH3.c0 rfl ?_
    refine z_callV (av := []) rfl z_w17 hH3.cc rfl rfl rfl rfl rfl (Nat.le_of_ble_eq_true rfl) (Nat.le_of_ble_eq_true rfl) (Nat.le_of_ble_eq_true rfl) (Nat.le_of_ble_eq_true rfl) (cR_clear hH3.cc (fun h4 hC4 hF4 => ?_))
    obtain ⟨hH4, hG4⟩ := z_Pa.l_cc hH3 hC4 hF4
    exact z_throw rfl rfl rfl rfl rfl rfl rfl (Nat.le_of_ble_eq_true rfl) (Nat.le_of_ble_eq_true rfl) (Nat.le_of_ble_eq_true rfl) rfl rfl (by decide) (fun n hn => by rw [e24] at q; exact q _ ⟨_, _, _, _, _, _, _, hH4.more hn⟩ (z_Px.more (((hG1.trans hG2).trans hG3).trans hG4) hn))
  · refine z_if_eq rfl (fun c27 => ?_) (fun c27 => absurd c27 (by decide))
    refine z_aload_n rfl rfl ?_
    refine z_get rfl hH1.c0 rfl ?_
    refine z_aload_n rfl rfl ?_
    refine z_get rfl hH1.c0 rfl ?_
    refine z_callV (av := [_]) rfl z_w85 (z_HyC hH1.hy).choose_spec rfl rfl rfl rfl rfl (Nat.le_of_ble_eq_true rfl) (Nat.le_of_ble_eq_true rfl) (Nat.le_of_ble_eq_true rfl) (Nat.le_of_ble_eq_true rfl) (cY_keep hH1.hy hH1.h0 (by omega) (fun h3 hC3 hF3 => ?_))
    obtain ⟨hH3, hG3⟩ := z_Pa.l_hy hH1 hC3 hF3
    refine z_aload_n rfl rfl ?_
    refine z_get rfl hH3.c0 rfl ?_
    refine z_aload_n rfl rfl ?_
    refine z_get rfl hH3.c0 rfl ?_
    refine z_callV (av := [_]) rfl z_w73 hH3.h0.1 rfl rfl rfl rfl rfl (Nat.le_of_ble_eq_true rfl) (Nat.le_of_ble_eq_true rfl) (Nat.le_of_ble_eq_true rfl) (Nat.le_of_ble_eq_true rfl) (cH_carryOut hH3.h0 hH3.od hk (by omega) hz e24 (fun h4 hC4 hF4 => ?_))
    obtain ⟨hH4, hG4⟩ := z_Pa.l_h0 hH3 hC4 hF4
    refine z_iret rfl rfl ?_
    rw [e24] at q; exact q _ ⟨_, _, _, _, _, _, _, hH4⟩ ((hG1.trans hG3).trans hG4)
/-- a call that ends the method: what it answers is answered, what it throws is thrown -/
theorem z_faceI {d mc ms mi pc nx nx2 : Nat} {L : List Value} {info : List Nat} {Es : List String} {r : z_An} {h' : z_H} (hr : z_at mi nx = some (.ireturn, nx2, info)) (ht : z_rt mi = some .int) (hh : z_hh mi = []) (q : Q (z_oc Es r) h') : z_K2 G d mc ms mi pc nx L [] Q (z_oc Es r) h' := by
  unfold z_oc at q ⊢
  split
  · rename_i e
    rw [if_pos e] at q
    exact z_iret hr ht q
  · rename_i e
    rw [if_neg e] at q
    exact z_Xout hh q
theorem cP_clock {a b : Int32} (hz : z_szs x.1) (hP : z_P h p B x) (q : ∀ h', z_P h' p B (z_fChg x (0, a, b, 0, 0)).2.2 → z_Px p B h h' → Q (z_oc [z_UOE] (z_fChg x (0, a, b, 0, 0))) h') : z_W G 10 1 6 104 0 (z_L0 104 [.ref p, .int a, .int b]) [] h Q := by
  have hc : ∃ fs, h.2 p = some (.inr (8, fs)) := by
    obtain ⟨ri, rl, sp, pos, ot, o, fd, hA⟩ := hP
    exact ⟨_, hA.c0⟩
  obtain ⟨fs, hc⟩ := hc
  refine z_aload_n rfl rfl ?_
  refine z_gets (v := .ref 1) rfl (by decide +kernel) rfl ?_
  refine z_iload_n rfl rfl ?_
  refine z_iload_n rfl rfl ?_
  refine z_iconst (v := 0) rfl (by decide) ?_
  refine z_callV (av := [_, _, _, _]) rfl z_w114 hc rfl rfl rfl rfl rfl (Nat.le_of_ble_eq_true rfl) (Nat.le_of_ble_eq_true rfl) (Nat.le_of_ble_eq_true rfl) (Nat.le_of_ble_eq_true rfl) (cP_change (k := 0) (by decide) hz hP (fun h1 hP1 hX1 => ?_))
  refine z_faceI rfl rfl rfl ?_
  exact q _ hP1 hX1
theorem cP_leave {a : Int32} (hz : z_szs x.1) (hP : z_P h p B x) (q : ∀ h', z_P h' p B (z_fChg x (1, a, 0, 0, 0)).2.2 → z_Px p B h h' → Q (z_oc [z_UOE] (z_fChg x (1, a, 0, 0, 0))) h') : z_W G 10 1 6 105 0 (z_L0 105 [.ref p, .int a]) [] h Q := by
  have hc : ∃ fs, h.2 p = some (.inr (8, fs)) := by
    obtain ⟨ri, rl, sp, pos, ot, o, fd, hA⟩ := hP
    exact ⟨_, hA.c0⟩
  obtain ⟨fs, hc⟩ := hc
  refine z_aload_n rfl rfl ?_
  refine z_gets (v := .ref 2) rfl (by decide +kernel) rfl ?_
  refine z_iload_n rfl rfl ?_
  refine z_iconst (v := 0) rfl (by decide) ?_
  refine z_iconst (v := 0) rfl (by decide) ?_
  refine z_callV (av := [_, _, _, _]) rfl z_w114 hc rfl rfl rfl rfl rfl (Nat.le_of_ble_eq_true rfl) (Nat.le_of_ble_eq_true rfl) (Nat.le_of_ble_eq_true rfl) (Nat.le_of_ble_eq_true rfl) (cP_change (k := 1) (by decide) hz hP (fun h1 hP1 hX1 => ?_))
  refine z_faceI rfl rfl rfl ?_
  exact q _ hP1 hX1
theorem cP_key {a b : Int32} (hz : z_szs x.1) (hP : z_P h p B x) (q : ∀ h', z_P h' p B (z_fChg x (2, a, b, 0, 0)).2.2 → z_Px p B h h' → Q (z_oc [z_UOE] (z_fChg x (2, a, b, 0, 0))) h') : z_W G 10 1 6 106 0 (z_L0 106 [.ref p, .int a, .int b]) [] h Q := by
  have hc : ∃ fs, h.2 p = some (.inr (8, fs)) := by
    obtain ⟨ri, rl, sp, pos, ot, o, fd, hA⟩ := hP
    exact ⟨_, hA.c0⟩
  obtain ⟨fs, hc⟩ := hc
  refine z_aload_n rfl rfl ?_
  refine z_gets (v := .ref 3) rfl (by decide +kernel) rfl ?_
  refine z_iload_n rfl rfl ?_
  refine z_iload_n rfl rfl ?_
  refine z_iconst (v := 0) rfl (by decide) ?_
  refine z_callV (av := [_, _, _, _]) rfl z_w114 hc rfl rfl rfl rfl rfl (Nat.le_of_ble_eq_true rfl) (Nat.le_of_ble_eq_true rfl) (Nat.le_of_ble_eq_true rfl) (Nat.le_of_ble_eq_true rfl) (cP_change (k := 2) (by decide) hz hP (fun h1 hP1 hX1 => ?_))
  refine z_faceI rfl rfl rfl ?_
  exact q _ hP1 hX1
theorem cP_wind {a b : Int32} (hz : z_szs x.1) (hP : z_P h p B x) (q : ∀ h', z_P h' p B (z_fChg x (3, a, b, 0, 0)).2.2 → z_Px p B h h' → Q (z_oc [z_UOE] (z_fChg x (3, a, b, 0, 0))) h') : z_W G 10 1 6 107 0 (z_L0 107 [.ref p, .int a, .int b]) [] h Q := by
  have hc : ∃ fs, h.2 p = some (.inr (8, fs)) := by
    obtain ⟨ri, rl, sp, pos, ot, o, fd, hA⟩ := hP
    exact ⟨_, hA.c0⟩
  obtain ⟨fs, hc⟩ := hc
  refine z_aload_n rfl rfl ?_
  refine z_gets (v := .ref 4) rfl (by decide +kernel) rfl ?_
  refine z_iload_n rfl rfl ?_
  refine z_iload_n rfl rfl ?_
  refine z_iconst (v := 0) rfl (by decide) ?_
  refine z_callV (av := [_, _, _, _]) rfl z_w114 hc rfl rfl rfl rfl rfl (Nat.le_of_ble_eq_true rfl) (Nat.le_of_ble_eq_true rfl) (Nat.le_of_ble_eq_true rfl) (Nat.le_of_ble_eq_true rfl) (cP_change (k := 3) (by decide) hz hP (fun h1 hP1 hX1 => ?_))
  refine z_faceI rfl rfl rfl ?_
  exact q _ hP1 hX1
theorem cP_move {a b : Int32} (hz : z_szs x.1) (hP : z_P h p B x) (q : ∀ h', z_P h' p B (z_fChg x (4, a, b, 0, 0)).2.2 → z_Px p B h h' → Q (z_oc [z_UOE] (z_fChg x (4, a, b, 0, 0))) h') : z_W G 10 1 6 108 0 (z_L0 108 [.ref p, .int a, .int b]) [] h Q := by
  have hc : ∃ fs, h.2 p = some (.inr (8, fs)) := by
    obtain ⟨ri, rl, sp, pos, ot, o, fd, hA⟩ := hP
    exact ⟨_, hA.c0⟩
  obtain ⟨fs, hc⟩ := hc
  refine z_aload_n rfl rfl ?_
  refine z_gets (v := .ref 5) rfl (by decide +kernel) rfl ?_
  refine z_iload_n rfl rfl ?_
  refine z_iload_n rfl rfl ?_
  refine z_iconst (v := 0) rfl (by decide) ?_
  refine z_callV (av := [_, _, _, _]) rfl z_w114 hc rfl rfl rfl rfl rfl (Nat.le_of_ble_eq_true rfl) (Nat.le_of_ble_eq_true rfl) (Nat.le_of_ble_eq_true rfl) (Nat.le_of_ble_eq_true rfl) (cP_change (k := 4) (by decide) hz hP (fun h1 hP1 hX1 => ?_))
  refine z_faceI rfl rfl rfl ?_
  exact q _ hP1 hX1
theorem cP_bill {a b c : Int32} (hz : z_szs x.1) (hP : z_P h p B x) (q : ∀ h', z_P h' p B (z_fChg x (5, a, b, c, 0)).2.2 → z_Px p B h h' → Q (z_oc [z_UOE] (z_fChg x (5, a, b, c, 0))) h') : z_W G 10 1 6 109 0 (z_L0 109 [.ref p, .int a, .int b, .int c]) [] h Q := by
  have hc : ∃ fs, h.2 p = some (.inr (8, fs)) := by
    obtain ⟨ri, rl, sp, pos, ot, o, fd, hA⟩ := hP
    exact ⟨_, hA.c0⟩
  obtain ⟨fs, hc⟩ := hc
  refine z_aload_n rfl rfl ?_
  refine z_gets (v := .ref 6) rfl (by decide +kernel) rfl ?_
  refine z_iload_n rfl rfl ?_
  refine z_iload_n rfl rfl ?_
  refine z_iload_n rfl rfl ?_
  refine z_callV (av := [_, _, _, _]) rfl z_w114 hc rfl rfl rfl rfl rfl (Nat.le_of_ble_eq_true rfl) (Nat.le_of_ble_eq_true rfl) (Nat.le_of_ble_eq_true rfl) (Nat.le_of_ble_eq_true rfl) (cP_change (k := 5) (by decide) hz hP (fun h1 hP1 hX1 => ?_))
  refine z_faceI rfl rfl rfl ?_
  exact q _ hP1 hX1
theorem cP_adjourn {a b : Int32} (hz : z_szs x.1) (hP : z_P h p B x) (q : ∀ h', z_P h' p B (z_fChg x (6, a, b, 0, 0)).2.2 → z_Px p B h h' → Q (z_oc [z_UOE] (z_fChg x (6, a, b, 0, 0))) h') : z_W G 10 1 6 110 0 (z_L0 110 [.ref p, .int a, .int b]) [] h Q := by
  have hc : ∃ fs, h.2 p = some (.inr (8, fs)) := by
    obtain ⟨ri, rl, sp, pos, ot, o, fd, hA⟩ := hP
    exact ⟨_, hA.c0⟩
  obtain ⟨fs, hc⟩ := hc
  refine z_aload_n rfl rfl ?_
  refine z_gets (v := .ref 7) rfl (by decide +kernel) rfl ?_
  refine z_iload_n rfl rfl ?_
  refine z_iload_n rfl rfl ?_
  refine z_iconst (v := 0) rfl (by decide) ?_
  refine z_callV (av := [_, _, _, _]) rfl z_w114 hc rfl rfl rfl rfl rfl (Nat.le_of_ble_eq_true rfl) (Nat.le_of_ble_eq_true rfl) (Nat.le_of_ble_eq_true rfl) (Nat.le_of_ble_eq_true rfl) (cP_change (k := 6) (by decide) hz hP (fun h1 hP1 hX1 => ?_))
  refine z_faceI rfl rfl rfl ?_
  exact q _ hP1 hX1
theorem cP_drop {a : Int32} (hz : z_szs x.1) (hP : z_P h p B x) (q : ∀ h', z_P h' p B (z_fChg x (7, a, 0, 0, 0)).2.2 → z_Px p B h h' → Q (z_oc [z_UOE] (z_fChg x (7, a, 0, 0, 0))) h') : z_W G 10 1 6 111 0 (z_L0 111 [.ref p, .int a]) [] h Q := by
  have hc : ∃ fs, h.2 p = some (.inr (8, fs)) := by
    obtain ⟨ri, rl, sp, pos, ot, o, fd, hA⟩ := hP
    exact ⟨_, hA.c0⟩
  obtain ⟨fs, hc⟩ := hc
  refine z_aload_n rfl rfl ?_
  refine z_gets (v := .ref 8) rfl (by decide +kernel) rfl ?_
  refine z_iload_n rfl rfl ?_
  refine z_iconst (v := 0) rfl (by decide) ?_
  refine z_iconst (v := 0) rfl (by decide) ?_
  refine z_callV (av := [_, _, _, _]) rfl z_w114 hc rfl rfl rfl rfl rfl (Nat.le_of_ble_eq_true rfl) (Nat.le_of_ble_eq_true rfl) (Nat.le_of_ble_eq_true rfl) (Nat.le_of_ble_eq_true rfl) (cP_change (k := 7) (by decide) hz hP (fun h1 hP1 hX1 => ?_))
  refine z_faceI rfl rfl rfl ?_
  exact q _ hP1 hX1
theorem cP_vote (hz : z_szs x.1) (hP : z_P h p B x) (q : ∀ h', z_P h' p B (z_fChg x (8, 0, 0, 0, 0)).2.2 → z_Px p B h h' → Q (z_oc [z_UOE] (z_fChg x (8, 0, 0, 0, 0))) h') : z_W G 10 1 6 112 0 (z_L0 112 [.ref p]) [] h Q := by
  have hc : ∃ fs, h.2 p = some (.inr (8, fs)) := by
    obtain ⟨ri, rl, sp, pos, ot, o, fd, hA⟩ := hP
    exact ⟨_, hA.c0⟩
  obtain ⟨fs, hc⟩ := hc
  refine z_aload_n rfl rfl ?_
  refine z_gets (v := .ref 9) rfl (by decide +kernel) rfl ?_
  refine z_iconst (v := 0) rfl (by decide) ?_
  refine z_iconst (v := 0) rfl (by decide) ?_
  refine z_iconst (v := 0) rfl (by decide) ?_
  refine z_callV (av := [_, _, _, _]) rfl z_w114 hc rfl rfl rfl rfl rfl (Nat.le_of_ble_eq_true rfl) (Nat.le_of_ble_eq_true rfl) (Nat.le_of_ble_eq_true rfl) (Nat.le_of_ble_eq_true rfl) (cP_change (k := 8) (by decide) hz hP (fun h1 hP1 hX1 => ?_))
  refine z_faceI rfl rfl rfl ?_
  exact q _ hP1 hX1
theorem cP_hour {a : Int32} (hz : z_szs x.1) (hP : z_P h p B x) (q : ∀ h', z_P h' p B (z_fChg x (9, a, 0, 0, 0)).2.2 → z_Px p B h h' → Q (z_oc [z_UOE] (z_fChg x (9, a, 0, 0, 0))) h') : z_W G 10 1 6 113 0 (z_L0 113 [.ref p, .int a]) [] h Q := by
  have hc : ∃ fs, h.2 p = some (.inr (8, fs)) := by
    obtain ⟨ri, rl, sp, pos, ot, o, fd, hA⟩ := hP
    exact ⟨_, hA.c0⟩
  obtain ⟨fs, hc⟩ := hc
  refine z_aload_n rfl rfl ?_
  refine z_gets (v := .ref 10) rfl (by decide +kernel) rfl ?_
  refine z_iload_n rfl rfl ?_
  refine z_iconst (v := 0) rfl (by decide) ?_
  refine z_iconst (v := 0) rfl (by decide) ?_
  refine z_callV (av := [_, _, _, _]) rfl z_w114 hc rfl rfl rfl rfl rfl (Nat.le_of_ble_eq_true rfl) (Nat.le_of_ble_eq_true rfl) (Nat.le_of_ble_eq_true rfl) (Nat.le_of_ble_eq_true rfl) (cP_change (k := 9) (by decide) hz hP (fun h1 hP1 hX1 => ?_))
  refine z_faceI rfl rfl rfl ?_
  exact q _ hP1 hX1
end ZCh
