/-! ClockParliament: whether it is told, texts, lines, undo, saving. -/
def z_setI (x : z_PV) (l : List Nat) : z_PV := (x.1, x.2.1, x.2.2.1, x.2.2.2.1, x.2.2.2.2.1, l, x.2.2.2.2.2.2)
def z_setL (x : z_PV) (l : List Nat) : z_PV := (x.1, x.2.1, x.2.2.1, x.2.2.2.1, x.2.2.2.2.1, x.2.2.2.2.2.1, l, x.2.2.2.2.2.2.2)
def z_setF (x : z_PV) (f : Int32) : z_PV := (x.1, x.2.1, x.2.2.1, x.2.2.2.1, x.2.2.2.2.1, x.2.2.2.2.2.1, x.2.2.2.2.2.2.1, x.2.2.2.2.2.2.2.1, x.2.2.2.2.2.2.2.2.1, f)
def z_setR (x : z_PV) (k c : Int32 × Int32) : z_PV := (x.1, x.2.1, x.2.2.1, x.2.2.2.1, x.2.2.2.2.1, x.2.2.2.2.2.1, x.2.2.2.2.2.2.1, k, c, x.2.2.2.2.2.2.2.2.2)
def z_fAppend (x : z_PV) (c : Int32) : z_An := if c < 32 ∨ 126 < c then (1, 0, x) else if 60 ≤ x.2.2.2.2.2.1.length then (2, 0, x) else (0, nI (x.2.2.2.2.2.1.length + 1), z_setI x (x.2.2.2.2.2.1 ++ [z_ix c]))
/-- the orders of a text, one after the other: the reason that stops them, how many, the house then -/
def z_rnL (l : List Nat) : Nat → Nat → Nat → z_HV → Option (Int32 × Int32) × Nat × z_HV
  | 0, _, dn, v => (none, dn, v)
  | n + 1, p, dn, v => if (z_nxt l p z_oN0).1 = true then (match z_ref v (z_nxt l p z_oN0).2.2 with
    | some pr => (some pr, dn, v)
    | none => z_rnL l n (z_nxt l p z_oN0).2.1 (dn + 1) (z_do v (z_nxt l p z_oN0).2.2).1) else (none, dn, v)
theorem z_rnL_s (l : List Nat) (n p dn : Nat) (v : z_HV) : z_rnL l (n + 1) p dn v = if (z_nxt l p z_oN0).1 = true then (match z_ref v (z_nxt l p z_oN0).2.2 with
    | some pr => (some pr, dn, v)
    | none => z_rnL l n (z_nxt l p z_oN0).2.1 (dn + 1) (z_do v (z_nxt l p z_oN0).2.2).1) else (none, dn, v) := rfl
def z_fRun (x : z_PV) : z_An := match z_flt x.2.2.2.2.2.1 61 0 with
  | some f => (1, 0, z_setF (z_setI x []) (nI f))
  | none => (match z_rnL x.2.2.2.2.2.1 61 0 0 x.1 with
    | (some pr, dn, _) => (2, 0, z_setF (z_setR (z_setI x []) (11, nI dn) pr) (-1))
    | (none, dn, v) => (0, nI dn, z_setF (z_setI (z_dune x v) []) (-1)))
def z_fReason (x : z_PV) (d b : Int32) : z_An := if ¬ d = 0 ∧ ¬ d = 1 then (1, 0, x) else if (if d = 0 then x.2.2.2.2.2.2.2.1 else x.2.2.2.2.2.2.2.2.1).1 = 0 then (2, 0, x) else (0, if b = 0 then (if d = 0 then x.2.2.2.2.2.2.2.1 else x.2.2.2.2.2.2.2.2.1).1 else (if d = 0 then x.2.2.2.2.2.2.2.1 else x.2.2.2.2.2.2.2.2.1).2, x)
def z_kyS (v : z_HV) (c : Int32) (l : List Nat) (k : Nat) : List Nat := if z_a v.1 4 (nI k) = c then l ++ [107] ++ z_dgs k else l
def z_tlL (v : z_HV) (c : Nat) : List Nat := z_fold (z_kyS v (nI c)) (((z_dgs c ++ [58] ++ z_dgs (z_ix (z_a v.1 0 (nI c)))) ++ [126] ++ z_dgs (z_ix (z_a v.1 1 (nI c)))) ++ [60] ++ z_dgs (z_ix (z_a v.1 2 (nI c)))) 3
def z_tbL (v : z_HV) (c : Nat) : List Nat := if z_adj v.2.1 (nI c) = true then ((z_dgs c ++ [64] ++ z_dgs (z_ix (z_a v.2.1 1 (nI c)))) ++ [43] ++ z_dgs (z_ix (z_a v.2.1 2 (nI c)))) ++ [104] ++ z_dgs (z_ix (z_a v.2.1 3 (nI c))) else (z_dgs c ++ [64] ++ z_dgs (z_ix (z_a v.2.1 1 (nI c)))) ++ [43] ++ z_dgs (z_ix (z_a v.2.1 2 (nI c)))
def z_trL (v : z_HV) : List Nat := if v.2.1.1 5 = 0 then [] else z_fold (fun l i => l ++ [32] ++ z_dgs (z_ix (v.2.1.2 5 (i + 1)))) (z_dgs (z_ix (v.2.1.2 5 0))) (v.2.1.1 5 - 1)
def z_fTell (x : z_PV) (c : Int32) : z_An := if z_has c (x.1.1.1 0) = false then (1, 0, x) else (0, nI (z_tlL x.1 (z_ix c)).length, z_setL x (z_tlL x.1 (z_ix c)))
def z_fTellBill (x : z_PV) (c : Int32) : z_An := if z_has c (x.1.2.1.1 0) = false then (1, 0, x) else (0, nI (z_tbL x.1 (z_ix c)).length, z_setL x (z_tbL x.1 (z_ix c)))
def z_fCharacter (x : z_PV) (i : Int32) : z_An := if z_has i x.2.2.2.2.2.2.1.length = true then (0, nI (x.2.2.2.2.2.2.1.getD (z_ix i) 0), x) else (1, 0, x)
def z_fUndo (x : z_PV) : z_An := if x.2.2.2.1 = 0 then (1, 0, x) else (0, nI (x.2.2.2.1 - 1), (x.2.2.2.2.1 (x.2.2.2.1 - 1), x.2.1, x.2.2.1, x.2.2.2.1 - 1, x.2.2.2.2))
def z_fSave (x : z_PV) : z_An := (0, nI (x.1.1.1 0), (x.1, x.1, true, x.2.2.2))
def z_fRestore (x : z_PV) : z_An := if x.2.2.1 = true then (0, nI (x.2.1.1.1 0), (x.2.1, x.2.1, x.2.2.1, 0, x.2.2.2.2)) else (1, 0, x)
theorem z_nxtP {l : List Nat} {p : Nat} {o : z_OV} (hp : p ≤ l.length) : (z_nxt l p o).2.1 ≤ l.length := by
  have hp1 : z_nx0 l p ≤ l.length := (z_skpP (l := l) (c := 59) (o := z_oN0) (by decide) hp).1
  unfold z_nxt
  split
  · exact hp1
  · exact (z_rdOP hp1).1
theorem z_nxtO (l : List Nat) (p : Nat) (o : z_OV) : (z_nxt l p o).1 = (z_nxt l p z_oN0).1 ∧ (z_nxt l p o).2.1 = (z_nxt l p z_oN0).2.1 ∧ ((z_nxt l p o).1 = true → (z_nxt l p o).2.2 = (z_nxt l p z_oN0).2.2) := by
  unfold z_nxt
  split
  · exact ⟨rfl, rfl, fun e => by cases e⟩
  · unfold z_rdO
    split
    · exact ⟨rfl, rfl, fun _ => rfl⟩
    · exact ⟨rfl, rfl, fun e => by cases e⟩
theorem z_tk_1 (o : z_OV) (n : Int32) : (z_tk o n).1 = o.1 := by
  unfold z_tk
  split
  · rfl
  · split <;> rfl
theorem z_prt_1 (l : List Nat) (c p : Nat) (o : z_OV) : (z_prt l c p o).2.2.1 = o.1 := by
  have hD : (z_rdD l p o).2.2.1 = o.1 := by
    unfold z_rdD
    split
    · exact z_tk_1 _ _
    · rfl
  unfold z_prt
  split
  · exact hD
  · split
    · unfold z_rdN
      split
      · split <;> exact z_tk_1 _ _
      · rfl
    · split
      · unfold z_rdK
        split
        · exact hD
        · unfold z_rdB
          split
          · exact z_tk_1 _ _
          · rfl
      · unfold z_skp
        split <;> rfl
theorem z_rdF_1 (l : List Nat) : ∀ (cs : List Nat) (p : Nat) (o : z_OV), (z_rdF l cs p o).2.2.1 = o.1 := by
  intro cs
  induction cs with
  | nil => intro p o; rfl
  | cons c cs ih =>
    intro p o
    rw [z_rdF_cons]
    split
    · split
      · exact ih _ _
      · exact z_tk_1 _ _
    · split
      · rw [ih]; exact z_prt_1 _ _ _ _
      · exact z_prt_1 _ _ _ _
theorem z_nxtK {l : List Nat} {p : Nat} {o : z_OV} (h : (z_nxt l p o).1 = true) : (z_nxt l p o).2.2.1 < 10 := by
  unfold z_nxt at h ⊢
  split
  · rename_i e
    rw [if_pos e] at h
    cases h
  · rename_i e
    rw [if_neg e] at h
    unfold z_rdO at h ⊢
    split
    · rename_i k hk
      rw [z_rdF_1]
      have := (z_firstP _ _ hk).2.2
      show k < 10
      omega
    · rename_i hk
      rw [hk] at h
      cases h
theorem z_apM {l : List Nat} {k : Nat} (h : ∀ x ∈ l, 32 ≤ x ∧ x ≤ 126) (h1 : 32 ≤ k) (h2 : k ≤ 126) : ∀ x ∈ l ++ [k], 32 ≤ x ∧ x ≤ 126 := by
  intro x hx
  rcases List.mem_append.mp hx with hx | hx
  · exact h x hx
  · rw [List.mem_singleton.mp hx]; omega
section ZTl
variable {G : z_G} {h : z_H} {Q : z_O → z_H → Prop} {p : Nat} {B : Nat → Prop} {x : z_PV}
theorem cP_areMajoritiesTold (h1 : ∀ i, i < x.1.2.1.1 0 → z_mjo x.1.1 (z_vts x.1 (nI i)) = z_mbl x.1 (nI i)) (hP : z_P h p B x) (q : Q (.inl (some (.int 1))) h) : z_W G 7 0 0 140 0 (z_L0 140 [.ref p]) [] h Q := by
  obtain ⟨ri, rl, sp, pos, ot, o, fd, hA⟩ := hP
  have hn : x.1.2.1.1 0 ≤ 10 := (hA.h0.2.2.2 0 (by decide)).fits.1
  have loop : ∀ (k i : Nat), i + k = x.1.2.1.1 0 → z_W G 7 0 0 140 2 [.ref p, .int (nI i)] [] h Q := by
    intro k
    induction k with
    | zero =>
      intro i hi
      refine z_iload_n rfl rfl ?_
      refine z_aload_n rfl rfl ?_
      refine z_get rfl hA.c0 rfl ?_
      refine z_get rfl hA.h0.1 rfl ?_
      refine z_callV (av := []) rfl z_w51 hA.h0.2.2.1 rfl rfl rfl rfl rfl (Nat.le_of_ble_eq_true rfl) (Nat.le_of_ble_eq_true rfl) (Nat.le_of_ble_eq_true rfl) (Nat.le_of_ble_eq_true rfl) (cB_count hA.h0.2.2 ?_)
      refine z_icmp_ge rfl (fun c13 => ?_) (fun c13 => absurd (show nI (x.1.2.1.1 0) ≤ nI i from (nI_leI (by omega) (by omega)).mpr (by omega)) c13)
      refine z_iconst (v := 1) rfl (by decide) ?_
      refine z_zret (ty := .boolean) rfl rfl (by first | decide | exact z_nb _) ?_
      exact q
    | succ k ih =>
      intro i hi
      refine z_iload_n rfl rfl ?_
      refine z_aload_n rfl rfl ?_
      refine z_get rfl hA.c0 rfl ?_
      refine z_get rfl hA.h0.1 rfl ?_
      refine z_callV (av := []) rfl z_w51 hA.h0.2.2.1 rfl rfl rfl rfl rfl (Nat.le_of_ble_eq_true rfl) (Nat.le_of_ble_eq_true rfl) (Nat.le_of_ble_eq_true rfl) (Nat.le_of_ble_eq_true rfl) (cB_count hA.h0.2.2 ?_)
      refine z_icmp_ge rfl (fun c13 => absurd c13 (show ¬ nI (x.1.2.1.1 0) ≤ nI i from fun q9 => absurd ((nI_leI (by omega) (by omega)).mp q9) (by omega))) (fun c13 => ?_)
      refine z_aload_n rfl rfl ?_
      refine z_get rfl hA.c0 rfl ?_
      refine z_iload_n rfl rfl ?_
      refine z_callV (av := [_]) rfl z_w78 hA.h0.1 rfl rfl rfl rfl rfl (Nat.le_of_ble_eq_true rfl) (Nat.le_of_ble_eq_true rfl) (Nat.le_of_ble_eq_true rfl) (Nat.le_of_ble_eq_true rfl) (cH_majorityOn hA.h0 ?_)
      refine z_aload_n rfl rfl ?_
      refine z_get rfl hA.c0 rfl ?_
      refine z_iload_n rfl rfl ?_
      refine z_callV (av := [_]) rfl z_w80 hA.h0.1 rfl rfl rfl rfl rfl (Nat.le_of_ble_eq_true rfl) (Nat.le_of_ble_eq_true rfl) (Nat.le_of_ble_eq_true rfl) (Nat.le_of_ble_eq_true rfl) (cH_majorityByLeanings hA.h0 ?_)
      refine z_icmp_eq rfl (fun c32 => ?_) (fun c32 => absurd (h1 i (by omega)) c32)
      refine z_iinc1 rfl rfl (by decide +kernel) rfl ?_
      exact z_goto rfl (ih (i + 1) (by omega))
  refine z_iconst (v := nI 0) rfl (by decide) ?_
  refine z_istore_n rfl (by decide +kernel) rfl ?_
  exact loop _ 0 (Nat.zero_add _)
theorem cP_areBillsTold (h1 : ∀ i, i < x.1.2.1.1 0 → (z_plc (x.1.2.1.2 5) (x.1.2.1.1 5) (nI i) = -1 ↔ z_adj x.1.2.1 (nI i) = true)) (hP : z_P h p B x) (q : Q (.inl (some (.int 1))) h) : z_W G 7 0 0 142 0 (z_L0 142 [.ref p]) [] h Q := by
  obtain ⟨ri, rl, sp, pos, ot, o, fd, hA⟩ := hP
  have hn : x.1.2.1.1 0 ≤ 10 := (hA.h0.2.2.2 0 (by decide)).fits.1
  have loop : ∀ (k i : Nat) (L2 : Value), i + k = x.1.2.1.1 0 → z_W G 7 0 0 142 2 [.ref p, .int (nI i), L2] [] h Q := by
    intro k
    induction k with
    | zero =>
      intro i L2 hi
      refine z_iload_n rfl rfl ?_
      refine z_aload_n rfl rfl ?_
      refine z_get rfl hA.c0 rfl ?_
      refine z_get rfl hA.h0.1 rfl ?_
      refine z_callV (av := []) rfl z_w51 hA.h0.2.2.1 rfl rfl rfl rfl rfl (Nat.le_of_ble_eq_true rfl) (Nat.le_of_ble_eq_true rfl) (Nat.le_of_ble_eq_true rfl) (Nat.le_of_ble_eq_true rfl) (cB_count hA.h0.2.2 ?_)
      refine z_icmp_ge rfl (fun c13 => ?_) (fun c13 => absurd (show nI (x.1.2.1.1 0) ≤ nI i from (nI_leI (by omega) (by omega)).mpr (by omega)) c13)
      refine z_iconst (v := 1) rfl (by decide) ?_
      refine z_zret (ty := .boolean) rfl rfl (by first | decide | exact z_nb _) ?_
      exact q
    | succ k ih =>
      intro i L2 hi
      have hh := h1 i (by omega)
      refine z_iload_n rfl rfl ?_
      refine z_aload_n rfl rfl ?_
      refine z_get rfl hA.c0 rfl ?_
      refine z_get rfl hA.h0.1 rfl ?_
      refine z_callV (av := []) rfl z_w51 hA.h0.2.2.1 rfl rfl rfl rfl rfl (Nat.le_of_ble_eq_true rfl) (Nat.le_of_ble_eq_true rfl) (Nat.le_of_ble_eq_true rfl) (Nat.le_of_ble_eq_true rfl) (cB_count hA.h0.2.2 ?_)
      refine z_icmp_ge rfl (fun c13 => absurd c13 (show ¬ nI (x.1.2.1.1 0) ≤ nI i from fun q9 => absurd ((nI_leI (by omega) (by omega)).mp q9) (by omega))) (fun c13 => ?_)
      refine z_aload_n rfl rfl ?_
      refine z_get rfl hA.c0 rfl ?_
      refine z_get rfl hA.h0.1 rfl ?_
      refine z_get rfl hA.h0.2.2.1 rfl ?_
      refine z_iload_n rfl rfl ?_
      refine z_callV (av := [_]) rfl z_w10 (hA.h0.2.2.2 5 (by decide)).1 rfl rfl rfl rfl rfl (Nat.le_of_ble_eq_true rfl) (Nat.le_of_ble_eq_true rfl) (Nat.le_of_ble_eq_true rfl) (Nat.le_of_ble_eq_true rfl) (cs_placeOf (hA.h0.2.2.2 5 (by decide)) ?_)
      refine z_iconst (v := (-1)) rfl (by decide) ?_
      refine z_icmp_eq rfl (fun c31 => ?_) (fun c31 => ?_)
      · refine z_iconst (v := 0) rfl (by decide) ?_
        refine z_istore_n rfl (by decide +kernel) rfl ?_
        refine z_iload_n rfl rfl ?_
        refine z_aload_n rfl rfl ?_
        refine z_get rfl hA.c0 rfl ?_
        refine z_get rfl hA.h0.1 rfl ?_
        refine z_iload_n rfl rfl ?_
        refine z_callV (av := [_]) rfl z_w53 hA.h0.2.2.1 rfl rfl rfl rfl rfl (Nat.le_of_ble_eq_true rfl) (Nat.le_of_ble_eq_true rfl) (Nat.le_of_ble_eq_true rfl) (Nat.le_of_ble_eq_true rfl) (cB_isAdjourned hA.h0.2.2 ?_)
        rw [show z_adj x.1.2.1 (nI i) = true from hh.mp c31]
        refine z_icmp_ne rfl (fun c52 => ?_) (fun c52 => absurd c52 (by decide))
        refine z_iinc1 rfl rfl (by decide +kernel) rfl ?_
        exact z_goto rfl (ih (i + 1) _ (by omega))
      · refine z_iconst (v := 1) rfl (by decide) ?_
        refine z_goto rfl ?_
        refine z_istore_n rfl (by decide +kernel) rfl ?_
        refine z_iload_n rfl rfl ?_
        refine z_aload_n rfl rfl ?_
        refine z_get rfl hA.c0 rfl ?_
        refine z_get rfl hA.h0.1 rfl ?_
        refine z_iload_n rfl rfl ?_
        refine z_callV (av := [_]) rfl z_w53 hA.h0.2.2.1 rfl rfl rfl rfl rfl (Nat.le_of_ble_eq_true rfl) (Nat.le_of_ble_eq_true rfl) (Nat.le_of_ble_eq_true rfl) (Nat.le_of_ble_eq_true rfl) (cB_isAdjourned hA.h0.2.2 ?_)
        rw [show z_adj x.1.2.1 (nI i) = false from by simpa using fun e => c31 (hh.mpr e)]
        refine z_icmp_ne rfl (fun c52 => ?_) (fun c52 => absurd c52 (by decide))
        refine z_iinc1 rfl rfl (by decide +kernel) rfl ?_
        exact z_goto rfl (ih (i + 1) _ (by omega))
  refine z_iconst (v := nI 0) rfl (by decide) ?_
  refine z_istore_n rfl (by decide +kernel) rfl ?_
  exact loop _ 0 _ (Nat.zero_add _)
def z_rwA (v : z_HV) (i : Nat) : Int32 := if i < v.2.1.1 5 then v.2.1.2 5 i else -1
theorem cP_areRowsTold (h1 : ∀ n, n ≤ 24 → ∀ i, i < 10 → z_rwA (z_hrs x.1 n) i = z_bla x.1.2.1 (nI n) (nI i)) (hP : z_P h p B x) (q : ∀ h', z_P h' p B x → z_Px p B h h' → Q (.inl (some (.int 1))) h') : z_W G 7 0 0 141 0 (z_L0 141 [.ref p]) [] h Q := by
  have hP0 := hP
  obtain ⟨ri, rl, sp, pos, ot, o, fd, hA⟩ := hP
  have inner : ∀ (n : Nat), n ≤ 24 → ∀ (hh : z_H), z_Pa hh p B ri rl x.1 (z_hrs x.1 n) x.2.1 x.2.2.1 x.2.2.2.1 x.2.2.2.2.1 x.2.2.2.2.2.1 x.2.2.2.2.2.2.1 pos ot o fd x.2.2.2.2.2.2.2.1 x.2.2.2.2.2.2.2.2.1 x.2.2.2.2.2.2.2.2.2 → (∀ L3 L4 : Value, z_W G 7 0 0 141 76 [.ref p, .int (nI n), .int (nI 10), L3, L4] [] hh Q) → ∀ (m i : Nat) (L3 L4 : Value), i + m = 10 → z_W G 7 0 0 141 15 [.ref p, .int (nI n), .int (nI i), L3, L4] [] hh Q := by
    intro n hn hh hA kk m
    induction m with
    | zero =>
      intro i L3 L4 hi
      refine z_iload_n rfl rfl ?_
      refine z_bipush (v := 10) rfl (by decide) ?_
      refine z_icmp_ge rfl (fun c18 => ?_) (fun c18 => absurd (show (10 : Int32) ≤ nI i from (nI_leI (a := 10) (by decide) (by omega)).mpr (by omega)) c18)
      obtain rfl : i = 10 := by omega
      exact kk _ _
    | succ m ih =>
      intro i L3 L4 hi
      have e0 := h1 n hn i (by omega)
      unfold z_rwA at e0
      refine z_iload_n rfl rfl ?_
      refine z_bipush (v := 10) rfl (by decide) ?_
      refine z_icmp_ge rfl (fun c18 => absurd c18 (show ¬ (10 : Int32) ≤ nI i from fun e9 => absurd ((nI_leI (a := 10) (by decide) (by omega)).mp e9) (by omega))) (fun c18 => ?_)
      refine z_aload_n rfl rfl ?_
      refine z_get rfl hA.c0 rfl ?_
      refine z_get rfl hA.h1.1 rfl ?_
      refine z_get rfl hA.h1.2.2.1 rfl ?_
      refine z_astore_n rfl (by decide +kernel) rfl ?_
      refine z_aload_n rfl rfl ?_
      refine z_iload_n rfl rfl ?_
      refine z_callV (av := [_]) rfl z_w2 (hA.h1.2.2.2 5 (by decide)).1 rfl rfl rfl rfl rfl (Nat.le_of_ble_eq_true rfl) (Nat.le_of_ble_eq_true rfl) (Nat.le_of_ble_eq_true rfl) (Nat.le_of_ble_eq_true rfl) (cs_has (hA.h1.2.2.2 5 (by decide)) ?_)
      refine z_if_eq rfl (fun c37 => ?_) (fun c37 => ?_)
      · refine z_iconst (v := (-1)) rfl (by decide) ?_
        refine z_istore rfl (by decide +kernel) rfl ?_
        refine z_iload rfl rfl ?_
        refine z_aload_n rfl rfl ?_
        refine z_get rfl hA.c0 rfl ?_
        refine z_get rfl hA.h0.1 rfl ?_
        refine z_iload_n rfl rfl ?_
        refine z_iload_n rfl rfl ?_
        refine z_callV (av := [_, _]) rfl z_w60 hA.h0.2.2.1 rfl rfl rfl rfl rfl (Nat.le_of_ble_eq_true rfl) (Nat.le_of_ble_eq_true rfl) (Nat.le_of_ble_eq_true rfl) (Nat.le_of_ble_eq_true rfl) (cB_billAfter hA.h0.2.2 ?_)
        refine z_icmp_eq rfl (fun c65 => ?_) (fun c65 => absurd (by rw [if_neg (by have e8 := z_i0 c37; rw [z_has_nI (by omega)] at e8; simpa using e8)] at e0; exact e0) c65)
        refine z_iinc1 rfl rfl (by decide +kernel) rfl ?_
        exact z_goto rfl (ih (i + 1) _ _ (by omega))
      · refine z_aload_n rfl rfl ?_
        refine z_iload_n rfl rfl ?_
        refine z_callV (av := [_]) rfl z_w3 (hA.h1.2.2.2 5 (by decide)).1 rfl rfl rfl rfl rfl (Nat.le_of_ble_eq_true rfl) (Nat.le_of_ble_eq_true rfl) (Nat.le_of_ble_eq_true rfl) (Nat.le_of_ble_eq_true rfl) (z_Li.at hA.h1.2.2 (j := 5) (by decide) ?_)
        refine z_goto rfl ?_
        refine z_istore rfl (by decide +kernel) rfl ?_
        refine z_iload rfl rfl ?_
        refine z_aload_n rfl rfl ?_
        refine z_get rfl hA.c0 rfl ?_
        refine z_get rfl hA.h0.1 rfl ?_
        refine z_iload_n rfl rfl ?_
        refine z_iload_n rfl rfl ?_
        refine z_callV (av := [_, _]) rfl z_w60 hA.h0.2.2.1 rfl rfl rfl rfl rfl (Nat.le_of_ble_eq_true rfl) (Nat.le_of_ble_eq_true rfl) (Nat.le_of_ble_eq_true rfl) (Nat.le_of_ble_eq_true rfl) (cB_billAfter hA.h0.2.2 ?_)
        refine z_icmp_eq rfl (fun c65 => ?_) (fun c65 => absurd (by rw [if_pos (by have e8 := z_i2 c37; rw [z_has_nI (by omega)] at e8; simpa using e8)] at e0; rw [← e0]; have e8 := z_i2 c37; rw [z_has_nI (by omega)] at e8; show z_atV _ _ _ = _; rw [z_atV_nI (by omega), if_pos (by simpa using e8)]) c65)
        refine z_iinc1 rfl rfl (by decide +kernel) rfl ?_
        exact z_goto rfl (ih (i + 1) _ _ (by omega))
  have loop : ∀ (m i : Nat) (hh : z_H) (L2 L3 L4 : Value), i + m = 25 → z_Pa hh p B ri rl x.1 (z_hrs x.1 i) x.2.1 x.2.2.1 x.2.2.2.1 x.2.2.2.2.1 x.2.2.2.2.2.1 x.2.2.2.2.2.2.1 pos ot o fd x.2.2.2.2.2.2.2.1 x.2.2.2.2.2.2.2.2.1 x.2.2.2.2.2.2.2.2.2 → z_Px p B h hh → z_W G 7 0 0 141 7 [.ref p, .int (nI i), L2, L3, L4] [] hh Q := by
    intro m
    induction m with
    | zero =>
      intro i hh L2 L3 L4 hi hA hX
      refine z_iload_n rfl rfl ?_
      refine z_bipush (v := 24) rfl (by decide) ?_
      refine z_icmp_gt rfl (fun c10 => ?_) (fun c10 => absurd (show (24 : Int32) < nI i from nI_lt (a := 24) (by omega) (by omega)) c10)
      refine z_iconst (v := 1) rfl (by decide) ?_
      refine z_zret (ty := .boolean) rfl rfl (by first | decide | exact z_nb _) ?_
      exact q _ ⟨_, _, _, _, _, _, _, hA⟩ hX
    | succ m ih =>
      intro i hh L2 L3 L4 hi hA hX
      refine z_iload_n rfl rfl ?_
      refine z_bipush (v := 24) rfl (by decide) ?_
      refine z_icmp_gt rfl (fun c10 => absurd c10 (show ¬ (24 : Int32) < nI i from nI_nlt (a := 24) (by omega) (by decide))) (fun c10 => ?_)
      refine z_iconst (v := nI 0) rfl (by decide) ?_
      refine z_istore_n rfl (by decide +kernel) rfl ?_
      refine inner i (by omega) hh hA (fun L3 L4 => ?_) 10 0 _ _ rfl
      refine z_aload_n rfl rfl ?_
      refine z_get rfl hA.c0 rfl ?_
      refine z_iconst (v := 1) rfl (by decide) ?_
      refine z_callV (av := [_]) rfl z_w76 hA.h1.1 rfl rfl rfl rfl rfl (Nat.le_of_ble_eq_true rfl) (Nat.le_of_ble_eq_true rfl) (Nat.le_of_ble_eq_true rfl) (Nat.le_of_ble_eq_true rfl) (cH_passHours (n := 1) (by decide) hA.h1 (fun h1 hC1 hF1 => ?_))
      obtain ⟨hA1, hX1⟩ := z_Pa.l_h1 hA hC1 hF1
      refine z_pop rfl rfl ?_
      refine z_iinc1 rfl rfl (by decide +kernel) rfl ?_
      exact z_goto rfl (ih (i + 1) _ _ _ _ (by omega) hA1 (hX.trans hX1))
  refine z_aload_n rfl rfl ?_
  refine z_iconst (v := 0) rfl (by decide) ?_
  refine z_callV (av := [_]) rfl z_w130 hA.c0 rfl rfl rfl rfl rfl (Nat.le_of_ble_eq_true rfl) (Nat.le_of_ble_eq_true rfl) (Nat.le_of_ble_eq_true rfl) (Nat.le_of_ble_eq_true rfl) (cP_foresee (n := 0) (by decide) hA (fun h1 hA1 hX1 => ?_))
  refine z_iconst (v := nI 0) rfl (by decide) ?_
  refine z_istore_n rfl (by decide +kernel) rfl ?_
  exact loop 25 0 _ _ _ _ rfl hA1 hX1
theorem cP_isTold (h1 : ∀ i, i < x.1.2.1.1 0 → z_mjo x.1.1 (z_vts x.1 (nI i)) = z_mbl x.1 (nI i)) (h2 : ∀ n, n ≤ 24 → ∀ i, i < 10 → z_rwA (z_hrs x.1 n) i = z_bla x.1.2.1 (nI n) (nI i)) (h3 : ∀ i, i < x.1.2.1.1 0 → (z_plc (x.1.2.1.2 5) (x.1.2.1.1 5) (nI i) = -1 ↔ z_adj x.1.2.1 (nI i) = true)) (hP : z_P h p B x) (q : ∀ h', z_P h' p B x → z_Px p B h h' → Q (.inl (some (.int 1))) h') : z_W G 8 0 0 139 0 (z_L0 139 [.ref p]) [] h Q := by
  obtain ⟨fs, hc⟩ := z_PC hP
  refine z_aload_n rfl rfl ?_
  refine z_callV (av := []) rfl z_w140 hc rfl rfl rfl rfl rfl (Nat.le_of_ble_eq_true rfl) (Nat.le_of_ble_eq_true rfl) (Nat.le_of_ble_eq_true rfl) (Nat.le_of_ble_eq_true rfl) (cP_areMajoritiesTold h1 hP ?_)
  refine z_if_eq rfl (fun c4 => absurd c4 (by decide)) (fun c4 => ?_)
  refine z_aload_n rfl rfl ?_
  refine z_callV (av := []) rfl z_w141 hc rfl rfl rfl rfl rfl (Nat.le_of_ble_eq_true rfl) (Nat.le_of_ble_eq_true rfl) (Nat.le_of_ble_eq_true rfl) (Nat.le_of_ble_eq_true rfl) (cP_areRowsTold h2 hP (fun hh hP1 hX1 => ?_))
  obtain ⟨fs1, hc1⟩ := z_PC hP1
  refine z_if_eq rfl (fun c11 => absurd c11 (by decide)) (fun c11 => ?_)
  refine z_aload_n rfl rfl ?_
  refine z_callV (av := []) rfl z_w142 hc1 rfl rfl rfl rfl rfl (Nat.le_of_ble_eq_true rfl) (Nat.le_of_ble_eq_true rfl) (Nat.le_of_ble_eq_true rfl) (Nat.le_of_ble_eq_true rfl) (cP_areBillsTold h3 hP1 ?_)
  refine z_if_eq rfl (fun c18 => absurd c18 (by decide)) (fun c18 => ?_)
  refine z_iconst (v := 1) rfl (by decide) ?_
  refine z_goto rfl ?_
  refine z_zret (ty := .boolean) rfl rfl (by first | decide | exact z_nb _) ?_
  exact q _ hP1 hX1
theorem cP_append {c : Int32} (hP : z_P h p B x) (q : ∀ h', z_P h' p B (z_fAppend x c).2.2 → z_Px p B h h' → Q (z_oc [z_IAE, z_ISE] (z_fAppend x c)) h') : z_W G 8 4 300 143 0 (z_L0 143 [.ref p, .int c]) [] h Q := by
  have hP0 := hP
  obtain ⟨ri, rl, sp, pos, ot, o, fd, hA⟩ := hP0
  obtain ⟨n1, n2, n3, n4, n5, n6⟩ := hA.nu
  have m1 := n1.imp_right (n4 _)
  have m2 := n2.imp_right (n4 _)
  have m7 := n4 _ (n5 _ (Nat.le_refl _))
  have hlen := hA.wi.1
  unfold z_fAppend at q
  refine z_iload_n rfl rfl ?_
  refine z_bipush (v := 32) rfl (by decide) ?_
  refine z_icmp_lt rfl (fun c3 => ?_) (fun c3 => ?_)
  · exact z_throwW rfl rfl rfl rfl rfl rfl rfl (Nat.le_of_ble_eq_true rfl) (Nat.le_of_ble_eq_true rfl) (Nat.le_of_ble_eq_true rfl) rfl rfl (by decide) (fun n hn => z_goneP hP hn (by rw [if_pos (Or.inl c3)] at q; exact q))
  · refine z_iload_n rfl rfl ?_
    refine z_bipush (v := 126) rfl (by decide) ?_
    refine z_icmp_le rfl (fun c9 => ?_) (fun c9 => ?_)
    · have hin : ¬ (c < 32 ∨ 126 < c) := fun e => e.elim c3 (fun e2 => absurd c9 (Int32.not_le.mpr e2))
      rw [if_neg hin] at q
      refine z_aload_n rfl rfl ?_
      refine z_get rfl hA.c0 rfl ?_
      refine z_callV (av := []) rfl z_w90 hA.tc rfl rfl rfl rfl rfl (Nat.le_of_ble_eq_true rfl) (Nat.le_of_ble_eq_true rfl) (Nat.le_of_ble_eq_true rfl) (Nat.le_of_ble_eq_true rfl) (cT_length hA.tc hA.ti ?_)
      refine z_bipush (v := 60) rfl (by decide) ?_
      refine z_icmp_lt rfl (fun c32 => ?_) (fun c32 => ?_)
      · have hl60 : ¬ 60 ≤ x.2.2.2.2.2.1.length := fun e9 => absurd ((nI_ltI (b := 60) (by omega) (by decide)).mp c32) (by omega)
        rw [if_neg hl60] at q
        obtain ⟨en, hn⟩ := z_rngIn (m := 126) (n := c) (by decide) (fun e => hin (e.elim (fun e2 => Or.inl (Int32.lt_trans e2 (by decide))) Or.inr))
        have hk32 : 32 ≤ z_ix c := (by rw [en] at c3; exact Nat.le_of_not_lt fun e9 => c3 ((nI_ltI (b := 32) (by omega) (by decide)).mpr e9))
        generalize z_ix c = kk at en hn q hk32
        subst en
        refine z_aload_n rfl rfl ?_
        refine z_get rfl hA.c0 rfl ?_
        refine z_iload_n rfl rfl ?_
        refine z_callV (av := [_]) rfl z_w91 hA.tc rfl rfl rfl rfl rfl (Nat.le_of_ble_eq_true rfl) (Nat.le_of_ble_eq_true rfl) (Nat.le_of_ble_eq_true rfl) (Nat.le_of_ble_eq_true rfl) (cT_add (c := kk) (by omega) (by omega) (by omega) hA.tc hA.ti (by omega) (fun h2 r2 hr2 hS2 hx2 => ?_))
        obtain ⟨hA2, hX2⟩ := z_Pa.l_ti hA hS2 ((hx2.2 (p + 278) (by omega) (by omega) (by omega)).trans hA.tc) hr2 hx2.1 (fun k e1 e2 e3 e4 => hx2.2 k e1 e3 e4) ⟨by simp; omega, fun y hy => by exact z_apM hA.wi.2 hk32 hn y hy⟩ (by simp; have := hA.wp; omega)
        refine z_iret rfl rfl ?_
        exact q _ ⟨_, _, _, _, _, _, _, hA2⟩ hX2
      · exact z_throwW rfl rfl rfl rfl rfl rfl rfl (Nat.le_of_ble_eq_true rfl) (Nat.le_of_ble_eq_true rfl) (Nat.le_of_ble_eq_true rfl) rfl rfl (by decide) (fun n hn => z_goneP hP hn (by rw [if_pos (by rw [← Int32.not_le] at c32; have e9 := Decidable.not_not.mp c32; exact (nI_leI (a := 60) (by decide) (by omega)).mp e9)] at q; exact q))
    · exact z_throwW rfl rfl rfl rfl rfl rfl rfl (Nat.le_of_ble_eq_true rfl) (Nat.le_of_ble_eq_true rfl) (Nat.le_of_ble_eq_true rfl) rfl rfl (by decide) (fun n hn => z_goneP hP hn (by rw [if_pos (Or.inr (Int32.not_le.mp c9))] at q; exact q))
theorem cP_faultPosition (hP : z_P h p B x) (q : Q (.inl (some (.int x.2.2.2.2.2.2.2.2.2))) h) : z_W G 1 0 0 145 0 (z_L0 145 [.ref p]) [] h Q := by
  obtain ⟨ri, rl, sp, pos, ot, o, fd, hA⟩ := hP
  refine z_aload_n rfl rfl ?_
  refine z_get rfl hA.c0 rfl ?_
  refine z_iret rfl rfl ?_
  exact q
end ZTl
