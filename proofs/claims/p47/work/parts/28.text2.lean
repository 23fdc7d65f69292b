/-! ClockParliament$OrderText: orders, the fault. -/
theorem z_rdF_cons (l : List Nat) (c : Nat) (cs : List Nat) (p : Nat) (o : z_OV) : z_rdF l (c :: cs) p o = if c = 63 then (if z_here l p = 32 then z_rdF l cs p o else (true, p, z_tk o 1)) else if (z_prt l c p o).1 = true then z_rdF l cs (z_prt l c p o).2.1 (z_prt l c p o).2.2 else (false, (z_prt l c p o).2.1, (z_prt l c p o).2.2) := rfl
theorem z_dropD (F : List Nat) {i : Nat} (hi : i < F.length) : F.drop i = F.getD i 0 :: F.drop (i + 1) := by
  rw [List.drop_eq_getElem_cons hi, List.getD_eq_getElem?_getD, List.getElem?_eq_getElem hi]
  rfl
def z_oN0 : z_OV := (8, 0, 0, 0, 0)
theorem z_rdO_o (l : List Nat) (p : Nat) (o o' : z_OV) : (z_rdO l p o).1 = (z_rdO l p o').1 ∧ (z_rdO l p o).2.1 = (z_rdO l p o').2.1 := by
  unfold z_rdO
  split <;> exact ⟨rfl, rfl⟩
/-- the fault of a text: none, or its place -/
def z_flt (l : List Nat) : Nat → Nat → Option Nat
  | 0, p => some p
  | n + 1, p => if (z_rdO l p z_oN0).1 = true then (if z_here l (z_rdO l p z_oN0).2.1 = 0 then none else if z_here l (z_rdO l p z_oN0).2.1 = 59 then z_flt l n ((z_rdO l p z_oN0).2.1 + 1) else some (z_rdO l p z_oN0).2.1) else some (z_rdO l p z_oN0).2.1
theorem z_flt_s (l : List Nat) (n p : Nat) : z_flt l (n + 1) p = if (z_rdO l p z_oN0).1 = true then (if z_here l (z_rdO l p z_oN0).2.1 = 0 then none else if z_here l (z_rdO l p z_oN0).2.1 = 59 then z_flt l n ((z_rdO l p z_oN0).2.1 + 1) else some (z_rdO l p z_oN0).2.1) else some (z_rdO l p z_oN0).2.1 := rfl
def z_nx0 (l : List Nat) (p : Nat) : Nat := (z_skp l 59 p z_oN0).2.1
/-- the next order, if there is one -/
def z_nxt (l : List Nat) (p : Nat) (o : z_OV) : z_PR := if z_here l (z_nx0 l p) = 0 then (false, z_nx0 l p, o) else z_rdO l (z_nx0 l p) o
section ZTx2
variable {G : z_G} {h : z_H} {Q : z_O → z_H → Prop} {a r w p : Nat} {l : List Nat} {o : z_OV}
theorem cT_readOrder (hl : z_inp l) (hp : p ≤ l.length) (hd : (a + 1 ≤ w ∨ w + 1 ≤ a) ∧ (r + 1 ≤ a ∨ a + 1 ≤ r) ∧ (r + 1 ≤ w ∨ w + 1 ≤ r) ∧ w ≠ a + 1) (hT : z_Tc h a p) (hO : z_Or h w o) (hS : z_Sb h (a + 1) r 0 l) (q : ∀ h', z_Tc h' a (z_rdO l p o).2.1 → z_Or h' w (z_rdO l p o).2.2 → z_F2 a w h h' → Q (.inl (some (.int (if (z_rdO l p o).1 = true then 1 else 0)))) h') : z_W G 8 0 0 95 0 (z_L0 95 [.ref a, .ref w]) [] h Q := by
  have hb := z_hereB hl p
  cases hk : z_knd (z_here l p) with
  | none =>
    have e0 : z_rdO l p o = (false, p, o) := by unfold z_rdO; rw [hk]
    rw [e0] at q
    refine z_aload_n rfl rfl ?_
    refine z_callV (av := []) rfl z_w102 hT rfl rfl rfl rfl rfl (Nat.le_of_ble_eq_true rfl) (Nat.le_of_ble_eq_true rfl) (Nat.le_of_ble_eq_true rfl) (Nat.le_of_ble_eq_true rfl) (cT_here hl hp hT hS ?_)
    refine z_callS (av := [_]) rfl z_w25 rfl rfl rfl rfl (Nat.le_of_ble_eq_true rfl) (Nat.le_of_ble_eq_true rfl) (Nat.le_of_ble_eq_true rfl) (Nat.le_of_ble_eq_true rfl) (c_startingWith (by omega) ?_)
    rw [hk]
    refine z_astore_nN rfl (by decide +kernel) rfl ?_
    refine z_aload_nN rfl rfl ?_
    refine z_ifnonnullN rfl ?_
    refine z_iconst (v := 0) rfl (by decide) ?_
    refine z_zret (ty := .boolean) rfl rfl (by first | decide | exact z_nb _) ?_
    exact q _ hT hO (z_F2.refl _ _ _)
  | some k =>
    have hk10 : k < 10 := by have := (z_firstP _ _ hk).2.2; omega
    have hF := z_frmB k hk10
    have e0 : z_rdO l p o = z_rdF l ((z_frm k).drop 0) p (k, 0, 0, 0, 0) := by unfold z_rdO; rw [hk]; rfl
    generalize z_rdO l p o = R at q e0
    have loop : ∀ (m i : Nat) (hh : z_H) (p : Nat) (o : z_OV) (L5 : Value), i + m = (z_frm k).length → p ≤ l.length → z_Tc hh a p → z_Or hh w o → z_F2 a w h hh → R = z_rdF l ((z_frm k).drop i) p o → z_W G 8 0 0 95 30 [.ref a, .ref w, .ref (k + 1), .ref (11 + k), .int (nI i), L5] [] hh Q := by
      intro m
      induction m with
      | zero =>
        intro i hh p o L5 hi hp hT hO hX he
        refine z_iload rfl rfl ?_
        refine z_aload_n rfl rfl ?_
        refine z_callVR (av := []) rfl z_w331 (z_rooS hk10) rfl rfl rfl rfl (Nat.le_of_ble_eq_true rfl) (Nat.le_of_ble_eq_true rfl) (Nat.le_of_ble_eq_true rfl) (Nat.le_of_ble_eq_true rfl) (c_sLength hk10 ?_)
        refine z_icmp_ge rfl (fun c36 => ?_) (fun c36 => absurd (show nI (z_frm k).length ≤ nI i from (nI_leI (by omega) (by omega)).mpr (by omega)) c36)
        refine z_iconst (v := 1) rfl (by decide) ?_
        refine z_zret (ty := .boolean) rfl rfl (by first | decide | exact z_nb _) ?_
        rw [List.drop_eq_nil_of_le (by omega)] at he; rw [he] at q; exact q _ hT hO hX
      | succ m ih =>
        intro i hh p o L5 hi hp hT hO hX he
        have hc := z_frmL (i := i) hk10 (by omega)
        have hc0 : (z_frm k).getD i 0 ≠ 0 := by
          have : ∀ k, k < 10 → ∀ c ∈ z_frm k, c ≠ 0 := by decide +kernel
          refine this k hk10 _ ?_
          rw [List.getD_eq_getElem?_getD, List.getElem?_eq_getElem (by omega : i < (z_frm k).length)]
          exact List.getElem_mem _
        have hS1 : z_Sb hh (a + 1) r 0 l := hS.kept2 hX (by omega)
        have hb2 := z_hereB hl p
        rw [z_dropD _ (by omega : i < (z_frm k).length), z_rdF_cons] at he
        have hpp := z_prtP (l := l) (c := (z_frm k).getD i 0) (p := p) (o := o) hc0 hp
        refine z_iload rfl rfl ?_
        refine z_aload_n rfl rfl ?_
        refine z_callVR (av := []) rfl z_w331 (z_rooS hk10) rfl rfl rfl rfl (Nat.le_of_ble_eq_true rfl) (Nat.le_of_ble_eq_true rfl) (Nat.le_of_ble_eq_true rfl) (Nat.le_of_ble_eq_true rfl) (c_sLength hk10 ?_)
        refine z_icmp_ge rfl (fun c36 => absurd c36 (show ¬ nI (z_frm k).length ≤ nI i from fun q9 => absurd ((nI_leI (by omega) (by omega)).mp q9) (by omega))) (fun c36 => ?_)
        refine z_aload_n rfl rfl ?_
        refine z_iload rfl rfl ?_
        refine z_callVR (av := [_]) rfl z_w329 (z_rooS hk10) rfl rfl rfl rfl (Nat.le_of_ble_eq_true rfl) (Nat.le_of_ble_eq_true rfl) (Nat.le_of_ble_eq_true rfl) (Nat.le_of_ble_eq_true rfl) (c_sCharAt (i := i) hk10 (by omega) ?_)
        refine z_istore rfl (by decide +kernel) rfl ?_
        refine z_iload rfl rfl ?_
        refine z_bipush (v := 63) rfl (by decide) ?_
        refine z_icmp_ne rfl (fun c51 => ?_) (fun c51 => ?_)
        · refine z_iload rfl rfl ?_
          refine z_bipush (v := 63) rfl (by decide) ?_
          refine z_icmp_eq rfl (fun c74 => absurd c74 c51) (fun c74 => ?_)
          refine z_aload_n rfl rfl ?_
          refine z_iload rfl rfl ?_
          refine z_aload_n rfl rfl ?_
          refine z_callV (av := [_, _]) rfl z_w96 hT rfl rfl rfl rfl rfl (Nat.le_of_ble_eq_true rfl) (Nat.le_of_ble_eq_true rfl) (Nat.le_of_ble_eq_true rfl) (Nat.le_of_ble_eq_true rfl) (cT_readPart hl hp hc hd hT hO hS1 (fun h2 hC2 hO2 hF2 => ?_))
          refine z_if_ne rfl (fun c84 => ?_) (fun c84 => ?_)
          · refine z_iinc1 rfl rfl (by decide +kernel) rfl ?_
            refine z_goto rfl (ih (i + 1) _ _ _ _ (by omega) hpp.1 hC2 hO2 (hX.trans hF2) ?_)
            rw [if_neg (fun e9 => c51 (by rw [e9]; rfl)), if_pos (z_i2 c84)] at he
            exact he
          · refine z_iconst (v := 0) rfl (by decide) ?_
            refine z_zret (ty := .boolean) rfl rfl (by first | decide | exact z_nb _) ?_
            rw [if_neg (fun e9 => c51 (by rw [e9]; rfl)), if_neg (z_i0 c84)] at he; rw [he] at q; exact q _ hC2 hO2 (hX.trans hF2)
        · refine z_aload_n rfl rfl ?_
          refine z_callV (av := []) rfl z_w102 hT rfl rfl rfl rfl rfl (Nat.le_of_ble_eq_true rfl) (Nat.le_of_ble_eq_true rfl) (Nat.le_of_ble_eq_true rfl) (Nat.le_of_ble_eq_true rfl) (cT_here hl hp hT hS1 ?_)
          refine z_bipush (v := 32) rfl (by decide) ?_
          refine z_icmp_eq rfl (fun c60 => ?_) (fun c60 => ?_)
          · refine z_iload rfl rfl ?_
            refine z_bipush (v := 63) rfl (by decide) ?_
            refine z_icmp_eq rfl (fun c74 => ?_) (fun c74 => absurd c51 c74)
            refine z_iinc1 rfl rfl (by decide +kernel) rfl ?_
            refine z_goto rfl (ih (i + 1) _ _ _ _ (by omega) hp hT hO hX ?_)
            rw [if_pos ((nI_eq (b := 63) (by omega) (by decide)).mp c51), if_pos ((nI_eq (b := 32) (by omega) (by decide)).mp c60)] at he
            exact he
          · refine z_aload_n rfl rfl ?_
            refine z_iconst (v := 1) rfl (by decide) ?_
            refine z_callV (av := [_]) rfl z_w24 hO rfl rfl rfl rfl rfl (Nat.le_of_ble_eq_true rfl) (Nat.le_of_ble_eq_true rfl) (Nat.le_of_ble_eq_true rfl) (Nat.le_of_ble_eq_true rfl) (cO_take hO (fun h2 hC2 hF2 => ?_))
            refine z_iconst (v := 1) rfl (by decide) ?_
            refine z_zret (ty := .boolean) rfl rfl (by first | decide | exact z_nb _) ?_
            rw [if_pos ((nI_eq (b := 63) (by omega) (by decide)).mp c51), if_neg (fun e9 => c60 (by rw [e9]; rfl))] at he; rw [he] at q; exact q _ (z_ck hT hF2 (by omega)) hC2 (hX.trans (z_F2.ofW hF2))
    refine z_aload_n rfl rfl ?_
    refine z_callV (av := []) rfl z_w102 hT rfl rfl rfl rfl rfl (Nat.le_of_ble_eq_true rfl) (Nat.le_of_ble_eq_true rfl) (Nat.le_of_ble_eq_true rfl) (Nat.le_of_ble_eq_true rfl) (cT_here hl hp hT hS ?_)
    refine z_callS (av := [_]) rfl z_w25 rfl rfl rfl rfl (Nat.le_of_ble_eq_true rfl) (Nat.le_of_ble_eq_true rfl) (Nat.le_of_ble_eq_true rfl) (Nat.le_of_ble_eq_true rfl) (c_startingWith (by omega) ?_)
    rw [hk]
    refine z_astore_n rfl (by decide +kernel) rfl ?_
    refine z_aload_n rfl rfl ?_
    refine z_ifnonnull rfl ?_
    refine z_aload_n rfl rfl ?_
    refine z_aload_n rfl rfl ?_
    refine z_iconst (v := 0) rfl (by decide) ?_
    refine z_iconst (v := 0) rfl (by decide) ?_
    refine z_iconst (v := 0) rfl (by decide) ?_
    refine z_callV (av := [_, _, _, _]) rfl z_w23 hO rfl rfl rfl rfl rfl (Nat.le_of_ble_eq_true rfl) (Nat.le_of_ble_eq_true rfl) (Nat.le_of_ble_eq_true rfl) (Nat.le_of_ble_eq_true rfl) (cO_fill hO (fun h1 hC1 hF1 => ?_))
    have kT1 := z_ck hT hF1 (by omega)
    refine z_aload_n rfl rfl ?_
    refine z_getR rfl (z_rofF hk10) ?_
    refine z_astore_n rfl (by decide +kernel) rfl ?_
    refine z_iconst (v := nI 0) rfl (by decide) ?_
    refine z_istore rfl (by decide +kernel) rfl ?_
    exact loop _ 0 _ p (k, 0, 0, 0, 0) _ (Nat.zero_add _) hp kT1 hC1 (z_F2.ofW hF1) e0
theorem z_skpE {l : List Nat} {c p : Nat} {o : z_OV} (h : (z_skp l c p o).1 = true) : z_here l p = c ∧ (z_skp l c p o).2.1 = p + 1 := by
  unfold z_skp at h ⊢
  split
  · rename_i e
    exact ⟨e, rfl⟩
  · rename_i e
    rw [if_neg e] at h
    cases h
theorem z_skpN {l : List Nat} {c p : Nat} {o : z_OV} (h : ¬ (z_skp l c p o).1 = true) : z_here l p ≠ c ∧ (z_skp l c p o).2.1 = p := by
  unfold z_skp at h ⊢
  split
  · rename_i e
    rw [if_pos e] at h
    exact absurd rfl h
  · rename_i e
    exact ⟨e, rfl⟩
theorem cT_fault (hl : z_inp l) (hd : r ≠ a ∧ r ≠ a + 3) (hT : z_Tc h a p) (hO : z_Or h (a + 3) o) (hS : z_Sb h (a + 1) r 0 l) (q : ∀ h' p' o', z_Tc h' a p' → z_Or h' (a + 3) o' → z_F2 a (a + 3) h h' → (z_flt l 61 0 = none → p' = 0) → p' ≤ l.length → Q (.inl (some (.int (z_oN1 (z_flt l 61 0))))) h') : z_W G 9 0 0 93 0 (z_L0 93 [.ref a]) [] h Q := by
  have hl1 := hl.1
  have loop : ∀ (m i : Nat) (hh : z_H) (p : Nat) (o : z_OV), i + m = 61 → p ≤ l.length → z_Tc hh a p → z_Or hh (a + 3) o → z_F2 a (a + 3) h hh → z_flt l 61 0 = z_flt l m p → z_W G 9 0 0 93 7 [.ref a, .int (nI i)] [] hh Q := by
    intro m
    induction m with
    | zero =>
      intro i hh p o hi hp hT hO hX he
      refine z_iload_n rfl rfl ?_
      refine z_bipush (v := 60) rfl (by decide) ?_
      refine z_icmp_gt rfl (fun c10 => ?_) (fun c10 => absurd (show (60 : Int32) < nI i from nI_lt (a := 60) (by omega) (by omega)) c10)
      refine z_aload_n rfl rfl ?_
      refine z_get rfl hT rfl ?_
      refine z_iret rfl rfl ?_
      rw [he] at q; exact q _ _ _ hT hO hX (fun e9 => by cases e9) hp
    | succ m ih =>
      intro i hh p o hi hp hT hO hX he
      have hS1 : z_Sb hh (a + 1) r 0 l := hS.kept2 hX (by omega)
      rw [z_flt_s l m p] at he
      obtain ⟨e1, e2⟩ := z_rdO_o l p z_oN0 o
      have hpp := z_rdOP (l := l) (o := o) hp
      rw [e1, e2] at he
      refine z_iload_n rfl rfl ?_
      refine z_bipush (v := 60) rfl (by decide) ?_
      refine z_icmp_gt rfl (fun c10 => absurd c10 (show ¬ (60 : Int32) < nI i from nI_nlt (a := 60) (by omega) (by decide))) (fun c10 => ?_)
      refine z_aload_n rfl rfl ?_
      refine z_aload_n rfl rfl ?_
      refine z_get rfl hT rfl ?_
      refine z_callV (av := [_]) rfl z_w95 hT rfl rfl rfl rfl rfl (Nat.le_of_ble_eq_true rfl) (Nat.le_of_ble_eq_true rfl) (Nat.le_of_ble_eq_true rfl) (Nat.le_of_ble_eq_true rfl) (cT_readOrder hl hp (by omega) hT hO hS1 (fun h2 hC2 hO2 hF2 => ?_))
      refine z_if_eq rfl (fun c21 => ?_) (fun c21 => ?_)
      · refine z_aload_n rfl rfl ?_
        refine z_get rfl hC2 rfl ?_
        refine z_iret rfl rfl ?_
        rw [if_neg (z_i0 c21)] at he; rw [he] at q; exact q _ _ _ hC2 hO2 (hX.trans hF2) (fun e9 => by cases e9) hpp.1
      · refine z_aload_n rfl rfl ?_
        refine z_callV (av := []) rfl z_w102 hC2 rfl rfl rfl rfl rfl (Nat.le_of_ble_eq_true rfl) (Nat.le_of_ble_eq_true rfl) (Nat.le_of_ble_eq_true rfl) (Nat.le_of_ble_eq_true rfl) (cT_here hl hpp.1 hC2 (hS1.kept2 hF2 (by omega)) ?_)
        refine z_if_ne rfl (fun c28 => ?_) (fun c28 => ?_)
        · refine z_aload_n rfl rfl ?_
          refine z_bipush (v := 59) rfl (by decide) ?_
          refine z_callV (av := [_]) rfl z_w100 hC2 rfl rfl rfl rfl rfl (Nat.le_of_ble_eq_true rfl) (Nat.le_of_ble_eq_true rfl) (Nat.le_of_ble_eq_true rfl) (Nat.le_of_ble_eq_true rfl) (cT_skip (c := 59) (o := z_oN0) hl hpp.1 (by decide) hC2 (hS1.kept2 hF2 (by omega)) (fun h3 hC3 hF3 => ?_))
          refine z_if_ne rfl (fun c44 => ?_) (fun c44 => ?_)
          · refine z_iinc1 rfl rfl (by decide +kernel) rfl ?_
            obtain ⟨s1, s2⟩ := z_skpE (z_i2 c44)
            rw [if_pos (z_i2 c21), if_neg (fun e9 => c28 (by rw [e9]; rfl)), if_pos s1] at he
            have s3 := (z_skpP (l := l) (c := 59) (o := z_oN0) (by decide) hpp.1).1
            rw [s2] at hC3 s3
            exact z_goto rfl (ih (i + 1) _ _ _ (by omega) s3 hC3 (z_ck hO2 hF3 (by omega)) ((hX.trans hF2).trans (z_F2.ofA hF3)) he)
          · refine z_goto rfl ?_
            refine z_aload_n rfl rfl ?_
            refine z_get rfl hC3 rfl ?_
            refine z_iret rfl rfl ?_
            obtain ⟨s1, s2⟩ := z_skpN (z_i0 c44)
            rw [if_pos (z_i2 c21), if_neg (fun e9 => c28 (by rw [e9]; rfl)), if_neg s1] at he
            rw [s2] at hC3 ⊢
            rw [he] at q
            exact q _ _ _ hC3 (z_ck hO2 hF3 (by omega)) ((hX.trans hF2).trans (z_F2.ofA hF3)) (fun e9 => by cases e9) hpp.1
        · refine z_aload_n rfl rfl ?_
          refine z_iconst (v := 0) rfl (by decide) ?_
          refine z_putC rfl hC2 (by simp) rfl rfl rfl (fun h1 hC1 hF1 => ?_)
          refine z_iconst (v := (-1)) rfl (by decide) ?_
          refine z_iret rfl rfl ?_
          rw [if_pos (z_i2 c21), if_pos ((nI_eq (b := 0) (by have := z_hereB hl (z_rdO l p o).2.1; omega) (by decide)).mp c28)] at he; rw [he] at q; exact q _ 0 _ hC1 (z_ck hO2 hF1 (by omega)) ((hX.trans hF2).trans (z_F2.ofA hF1)) (fun _ => rfl) (by omega)
  refine z_aload_n rfl rfl ?_
  refine z_iconst (v := 0) rfl (by decide) ?_
  refine z_putC rfl hT (by simp) rfl rfl rfl (fun h1 hC1 hF1 => ?_)
  refine z_iconst (v := nI 0) rfl (by decide) ?_
  refine z_istore_n rfl (by decide +kernel) rfl ?_
  exact loop 61 0 _ 0 _ rfl (by omega) hC1 (z_ck hO hF1 (by omega)) (z_F2.ofA hF1) rfl
theorem cT_readNext (hl : z_inp l) (hp : p ≤ l.length) (hd : (a + 1 ≤ w ∨ w + 1 ≤ a) ∧ (r + 1 ≤ a ∨ a + 1 ≤ r) ∧ (r + 1 ≤ w ∨ w + 1 ≤ r) ∧ w ≠ a + 1) (hT : z_Tc h a p) (hO : z_Or h w o) (hS : z_Sb h (a + 1) r 0 l) (q : ∀ h', z_Tc h' a (z_nxt l p o).2.1 → z_Or h' w (z_nxt l p o).2.2 → z_F2 a w h h' → Q (.inl (some (.int (if (z_nxt l p o).1 = true then 1 else 0)))) h') : z_W G 9 0 0 94 0 (z_L0 94 [.ref a, .ref w]) [] h Q := by
  have hp1 : z_nx0 l p ≤ l.length := (z_skpP (l := l) (c := 59) (o := z_oN0) (by decide) hp).1
  unfold z_nxt at q
  refine z_aload_n rfl rfl ?_
  refine z_bipush (v := 59) rfl (by decide) ?_
  refine z_callV (av := [_]) rfl z_w100 hT rfl rfl rfl rfl rfl (Nat.le_of_ble_eq_true rfl) (Nat.le_of_ble_eq_true rfl) (Nat.le_of_ble_eq_true rfl) (Nat.le_of_ble_eq_true rfl) (cT_skip (c := 59) (o := z_oN0) hl hp (by decide) hT hS (fun h2 hC2 hF2 => ?_))
  have kO := z_ck hO hF2 (by omega)
  have hS2 := hS.kept2 (z_F2.ofA (w := w) hF2) (by omega)
  refine z_pop rfl rfl ?_
  refine z_aload_n rfl rfl ?_
  refine z_callV (av := []) rfl z_w102 hC2 rfl rfl rfl rfl rfl (Nat.le_of_ble_eq_true rfl) (Nat.le_of_ble_eq_true rfl) (Nat.le_of_ble_eq_true rfl) (Nat.le_of_ble_eq_true rfl) (cT_here (p := z_nx0 l p) hl hp1 hC2 hS2 ?_)
  refine z_if_eq rfl (fun c11 => ?_) (fun c11 => ?_)
  · refine z_iconst (v := 0) rfl (by decide) ?_
    refine z_zret (ty := .boolean) rfl rfl (by first | decide | exact z_nb _) ?_
    rw [if_pos ((nI_eq (b := 0) (by have := z_hereB hl (z_nx0 l p); omega) (by decide)).mp c11)] at q; exact q _ hC2 kO (z_F2.ofA hF2)
  · refine z_aload_n rfl rfl ?_
    refine z_aload_n rfl rfl ?_
    refine z_callV (av := [_]) rfl z_w95 hC2 rfl rfl rfl rfl rfl (Nat.le_of_ble_eq_true rfl) (Nat.le_of_ble_eq_true rfl) (Nat.le_of_ble_eq_true rfl) (Nat.le_of_ble_eq_true rfl) (cT_readOrder (p := z_nx0 l p) hl hp1 hd hC2 kO hS2 (fun h3 hC3 hO3 hF3 => ?_))
    refine z_if_eq rfl (fun c19 => ?_) (fun c19 => ?_)
    · refine z_iconst (v := 0) rfl (by decide) ?_
      refine z_zret (ty := .boolean) rfl rfl (by first | decide | exact z_nb _) ?_
      rw [if_neg (fun e9 => c11 (by rw [e9]; rfl)), show (z_rdO l (z_nx0 l p) o).1 = false from (z_bI _).mp c19] at q; exact q _ hC3 hO3 ((z_F2.ofA hF2).trans hF3)
    · refine z_iconst (v := 1) rfl (by decide) ?_
      refine z_goto rfl ?_
      refine z_zret (ty := .boolean) rfl rfl (by first | decide | exact z_nb _) ?_
      rw [if_neg (fun e9 => c11 (by rw [e9]; rfl)), show (z_rdO l (z_nx0 l p) o).1 = true from z_i2 c19] at q; exact q _ hC3 hO3 ((z_F2.ofA hF2).trans hF3)
theorem cT_length (hT : z_Tc h a p) (hS : z_Sb h (a + 1) r 0 l) (q : Q (.inl (some (.int (nI l.length)))) h) : z_W G 2 0 0 90 0 (z_L0 90 [.ref a]) [] h Q := by
  obtain ⟨fs, hf⟩ := z_inpSb hS
  refine z_aload_n rfl rfl ?_
  refine z_get rfl hT rfl ?_
  refine z_callV (av := []) rfl z_w308 hf rfl rfl rfl rfl rfl (Nat.le_of_ble_eq_true rfl) (Nat.le_of_ble_eq_true rfl) (Nat.le_of_ble_eq_true rfl) (Nat.le_of_ble_eq_true rfl) (c_length hS ?_)
  refine z_iret rfl rfl ?_
  exact q
theorem cT_add {c : Nat} (hc : c < 128) (hl : l.length < 90) (hr : r ≠ a) (hT : z_Tc h a p) (hS : z_Sb h (a + 1) r 0 l) (ha : a < 1000 + h.1) (q : ∀ h' r', (r' = r ∨ 1000 + h.1 ≤ r') → z_Sb h' (a + 1) r' 0 (l ++ [c]) → z_Fx (a + 1) r h h' → Q (.inl (some (.int (nI (l.length + 1))))) h') : z_W G 6 1 202 91 0 (z_L0 91 [.ref a, .int (nI c)]) [] h Q := by
  obtain ⟨fs, hf⟩ := z_inpSb hS
  have eL : (l ++ [c]).length = l.length + 1 := by simp
  refine z_aload_n rfl rfl ?_
  refine z_get rfl hT rfl ?_
  refine z_iload_n rfl rfl ?_
  refine z_callV (av := [_]) rfl z_w302 hf rfl rfl rfl rfl rfl (Nat.le_of_ble_eq_true rfl) (Nat.le_of_ble_eq_true rfl) (Nat.le_of_ble_eq_true rfl) (Nat.le_of_ble_eq_true rfl) (c_appendC hc (by omega) hS (fun h2 r2 hr2 hS2 hx2 => ?_))
  obtain ⟨fs2, hf2⟩ := z_inpSb hS2
  have kT := (hx2.2 a ha (by omega) (by omega)).trans hT
  refine z_pop rfl rfl ?_
  refine z_aload_n rfl rfl ?_
  refine z_get rfl kT rfl ?_
  refine z_callV (av := []) rfl z_w308 hf2 rfl rfl rfl rfl rfl (Nat.le_of_ble_eq_true rfl) (Nat.le_of_ble_eq_true rfl) (Nat.le_of_ble_eq_true rfl) (Nat.le_of_ble_eq_true rfl) (c_length hS2 ?_)
  rw [eL]
  refine z_iret rfl rfl ?_
  exact q _ _ hr2 hS2 hx2
theorem cT_clear (hl : l.length < 90) (hr : r ≠ a) (hT : z_Tc h a p) (hS : z_Sb h (a + 1) r 0 l) (ha : a < 1000 + h.1) (q : ∀ h' r', (r' = r ∨ 1000 + h.1 ≤ r') → z_Sb h' (a + 1) r' 0 [] → z_Tc h' a 0 → (h.1 ≤ h'.1 ∧ ∀ k, k < 1000 + h.1 → k ≠ a → k ≠ a + 1 → k ≠ r → h'.2 k = h.2 k) → Q (.inl none) h') : z_W G 6 1 202 92 0 (z_L0 92 [.ref a]) [] h Q := by
  obtain ⟨fs, hf⟩ := z_inpSb hS
  refine z_aload_n rfl rfl ?_
  refine z_get rfl hT rfl ?_
  refine z_iconst (v := 0) rfl (by decide) ?_
  refine z_callV (av := [_]) rfl z_w306 hf rfl rfl rfl rfl rfl (Nat.le_of_ble_eq_true rfl) (Nat.le_of_ble_eq_true rfl) (Nat.le_of_ble_eq_true rfl) (Nat.le_of_ble_eq_true rfl) (c_setLength hS (by omega) (fun h2 r2 hr2 hS2 hx2 => ?_))
  have kT := (hx2.2 a ha (by omega) (by omega)).trans hT
  refine z_aload_n rfl rfl ?_
  refine z_iconst (v := 0) rfl (by decide) ?_
  refine z_putC rfl kT (by simp) rfl rfl rfl (fun h1 hC1 hF1 => ?_)
  refine z_vret rfl rfl ?_
  exact q _ _ hr2 (hS2.kept hF1 (by omega)) hC1 ⟨by rw [(hF1).1]; exact hx2.1, fun k e1 e2 e3 e4 => ((hF1).2 k (by omega)).trans (hx2.2 k e1 e3 e4)⟩
end ZTx2
