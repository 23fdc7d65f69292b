/-! The model's rows of hours to come; seconds; what carries. -/
theorem z_Rel.sameG {x : z_PV} {m m' : z_MV} (h : z_Rel x m) (h1 : ∀ i, i ≠ 16 → i ≠ 17 → i ≠ 18 → m'.1 i = m.1 i) (h2 : ∀ j, j ≠ 1 → j ≠ 2 → j ≠ 3 → j ≠ 8 → m'.2 j = m.2 j) (hg : z_gOk x.1 (m'.2 1)) : z_Rel x m' := by
  obtain ⟨⟨a1, a2⟩, ⟨b1, b2⟩, ⟨c1, c2, c3⟩, d⟩ := h
  refine ⟨⟨a1, hg⟩, ⟨(h1 6 (by omega) (by omega) (by omega)).trans b1, fun e => by rw [h2 5 (by omega) (by omega) (by omega) (by omega)]; exact b2 e⟩, ⟨c1, (h1 4 (by omega) (by omega) (by omega)).trans c2, fun t ht => by rw [h2 4 (by omega) (by omega) (by omega) (by omega)]; exact c3 t ht⟩, d.same (fun i hi => h1 i (by omega) (by omega) (by omega)) (fun j hj => h2 j (by omega) (by omega) (by omega) (by omega))⟩
section ZQe
variable {G : z_G} {h : z_H} {Q : z_O → z_H → Prop} {a : Nat} {m : z_MV} {x : z_PV} {v : z_HV}
theorem cM_rowBehind {n : Nat} {pl : Int32} (hn : n < 1000) (hM : z_Mo h a m) (hg : z_gOk v (m.2 1)) (hw : z_wf v) (q : ∀ h' m', z_Mo h' a m' → m'.1 = m.1 → (∀ j, j ≠ 1 → j ≠ 3 → m'.2 j = m.2 j) → z_gOk v (m'.2 1) → z_Fr a 9 h h' → Q (.inl (some (.int (if z_has pl ((z_hrs v n).2.1.1 5) = true then z_a (z_hrs v n).2.1 5 pl else -1)))) h') : z_W G 3 0 0 217 0 (z_L0 217 [.ref a, .int (nI n), .int pl]) [] h Q := by
  have wn := hw.hrs n
  have hnr := wn.nr
  have h10 := wn.nb
  have loop : ∀ (k i : Nat) (t : Int32) (y : Value) (hh : z_H) (m1 : z_MV) (g : Nat → Int32), i + k = n → m1.1 = m.1 → (∀ j, j ≠ 1 → j ≠ 3 → m1.2 j = m.2 j) → (∀ q, q < 105 → m1.2 3 q = m.2 1 q) → z_Mo hh a (z_mF m1 1 g) → z_gOk (z_hrs v i) g → z_Fr a 9 h hh → z_W G 3 0 0 217 18 [.ref a, .int (nI n), .int pl, .int t, .int (nI i)] [] hh Q := by
    intro k
    induction k with
    | zero =>
      intro i t y hh m1 g hi e1 e2 e3 hD hG hF
      obtain rfl : i = n := hi
      have fin : ∀ (h2 : z_H) (z : Int32), z = (if z_has pl ((z_hrs v i).2.1.1 5) = true then z_a (z_hrs v i).2.1 5 pl else -1) → z_Mo h2 a (z_mF m1 1 g) → z_Fr a 9 h h2 → z_W G 3 0 0 217 69 [.ref a, .int (nI i), .int pl, .int t, .int z] [] h2 Q := by
        intro h2 z hz hD hF
        refine z_aload_n rfl rfl ?_
        refine z_get rfl hD.1 rfl ?_
        refine z_iconst (v := 0) rfl (by decide) ?_
        refine z_aload_n rfl rfl ?_
        refine z_get rfl hD.1 rfl ?_
        refine z_iconst (v := 0) rfl (by decide) ?_
        refine z_callS (av := [_, _, _, _]) rfl z_w166 rfl rfl rfl rfl (Nat.le_of_ble_eq_true rfl) (Nat.le_of_ble_eq_true rfl) (Nat.le_of_ble_eq_true rfl) (Nat.le_of_ble_eq_true rfl) (cM_copy (j1 := 3) (j2 := 1) (A := 0) (T := 0) (by decide) (by decide) (by decide) (by decide) (by decide) hD (fun h9 hM9 hF9 => ?_))
        refine z_iload rfl rfl ?_
        refine z_iret rfl rfl ?_
        rw [hz]; refine q _ _ hM9 e1 (fun j h1 h3 => (if_neg h1).trans ((if_neg h1).trans (e2 j h1 h3))) (hg.cong hw.wz (fun q hq => ?_)) (hF.trans hF9)
        show z_cpyF (m1.2 3) 0 g 0 105 q = _
        unfold z_cpyF
        rw [if_pos (by omega), show 0 + (q - 0) = q by omega]; exact e3 q hq
      cases ec : z_has pl ((z_hrs v i).2.1.1 5) with
      | false =>
        rw [ec] at fin
        refine z_iload rfl rfl ?_
        refine z_iload_n rfl rfl ?_
        refine z_icmp_ge rfl (fun c21 => ?_) (fun c21 => absurd (Int32.le_refl _) c21)
        refine z_iload_n rfl rfl ?_
        refine z_iconst (v := 0) rfl (by decide) ?_
        refine z_aload_n rfl rfl ?_
        refine z_get rfl hD.1 rfl ?_
        refine z_bipush (v := 9) rfl (by decide) ?_
        refine z_ildE rfl (hD.2 1 (by decide)) (k := 9) rfl (show _ < 105 by omega) ?_
        rw [show (z_mF m1 1 g).2 1 9 = nI ((z_hrs v i).2.1.1 5) from hG.r0]
        refine z_iconst (v := 1) rfl (by decide) ?_
        refine z_isub rfl ?_
        refine z_callS (av := [_, _, _]) rfl z_w162 rfl rfl rfl rfl (Nat.le_of_ble_eq_true rfl) (Nat.le_of_ble_eq_true rfl) (Nat.le_of_ble_eq_true rfl) (Nat.le_of_ble_eq_true rfl) (cM_in ?_)
        rw [z_inHas (by omega), ec]
        refine z_if_eq rfl (fun c51 => ?_) (fun c51 => absurd rfl c51)
        refine z_iconst (v := (-1)) rfl (by decide) ?_
        refine z_istore rfl (by decide +kernel) rfl ?_
        exact fin _ _ rfl hD hF
      | true =>
        rw [ec] at fin
        obtain ⟨p, hp, rfl⟩ := z_hasE (by omega) ec
        refine z_iload rfl rfl ?_
        refine z_iload_n rfl rfl ?_
        refine z_icmp_ge rfl (fun c21 => ?_) (fun c21 => absurd (Int32.le_refl _) c21)
        refine z_iload_n rfl rfl ?_
        refine z_iconst (v := 0) rfl (by decide) ?_
        refine z_aload_n rfl rfl ?_
        refine z_get rfl hD.1 rfl ?_
        refine z_bipush (v := 9) rfl (by decide) ?_
        refine z_ildE rfl (hD.2 1 (by decide)) (k := 9) rfl (show _ < 105 by omega) ?_
        rw [show (z_mF m1 1 g).2 1 9 = nI ((z_hrs v i).2.1.1 5) from hG.r0]
        refine z_iconst (v := 1) rfl (by decide) ?_
        refine z_isub rfl ?_
        refine z_callS (av := [_, _, _]) rfl z_w162 rfl rfl rfl rfl (Nat.le_of_ble_eq_true rfl) (Nat.le_of_ble_eq_true rfl) (Nat.le_of_ble_eq_true rfl) (Nat.le_of_ble_eq_true rfl) (cM_in ?_)
        rw [z_inHas (by omega), ec]
        refine z_if_eq rfl (fun c51 => absurd c51 (by decide)) (fun c51 => ?_)
        refine z_aload_n rfl rfl ?_
        refine z_get rfl hD.1 rfl ?_
        refine z_bipush (v := 95) rfl (by decide) ?_
        refine z_iload_n rfl rfl ?_
        refine z_iadd rfl ?_
        refine z_ildE rfl (hD.2 1 (by decide)) (nI_add 95 (p)) (show _ < 105 by omega) ?_
        rw [show (z_mF m1 1 g).2 1 (95 + p) = z_a (z_hrs v i).2.1 5 (nI p) from hG.rw wn.wz hp]
        refine z_goto rfl ?_
        refine z_istore rfl (by decide +kernel) rfl ?_
        exact fin _ _ rfl hD hF
    | succ k ih =>
      intro i t y hh m1 g hi e1 e2 e3 hD hG hF
      refine z_iload rfl rfl ?_
      refine z_iload_n rfl rfl ?_
      refine z_icmp_ge rfl (fun c21 => absurd c21 (fun q9 => absurd ((nI_leI (by omega) (by omega)).mp q9) (by omega))) (fun c21 => ?_)
      refine z_iload_n rfl rfl ?_
      refine z_aload_n rfl rfl ?_
      refine z_callV (av := []) rfl z_w205 hD.1 rfl rfl rfl rfl rfl (Nat.le_of_ble_eq_true rfl) (Nat.le_of_ble_eq_true rfl) (Nat.le_of_ble_eq_true rfl) (Nat.le_of_ble_eq_true rfl) (cM_hourGoes hD hG (hw.hrs i) (fun h1_ g2 hM1 hg2 hF1_ => ?_))
      refine z_iadd rfl ?_
      refine z_istore_n rfl (by decide +kernel) rfl ?_
      refine z_iinc1 rfl rfl (by decide +kernel) rfl ?_
      exact z_goto rfl (ih (i + 1) _ y _ m1 g2 (by omega) e1 e2 e3 hM1 hg2 (hF.trans hF1_))
  refine z_aload_n rfl rfl ?_
  refine z_get rfl hM.1 rfl ?_
  refine z_iconst (v := 0) rfl (by decide) ?_
  refine z_aload_n rfl rfl ?_
  refine z_get rfl hM.1 rfl ?_
  refine z_iconst (v := 0) rfl (by decide) ?_
  refine z_callS (av := [_, _, _, _]) rfl z_w166 rfl rfl rfl rfl (Nat.le_of_ble_eq_true rfl) (Nat.le_of_ble_eq_true rfl) (Nat.le_of_ble_eq_true rfl) (Nat.le_of_ble_eq_true rfl) (cM_copy (j1 := 1) (j2 := 3) (A := 0) (T := 0) (by decide) (by decide) (by decide) (by decide) (by decide) hM (fun h9 hM9 hF9 => ?_))
  refine z_iconst (v := 0) rfl (by decide) ?_
  refine z_istore_n rfl (by decide +kernel) rfl ?_
  refine z_iconst (v := nI 0) rfl (by decide) ?_
  refine z_istore rfl (by decide +kernel) rfl ?_
  refine loop n 0 _ .null _ (z_mF m 3 (z_cpyF (m.2 1) 0 (m.2 3) 0 105)) _ (by omega) rfl (fun j h1 h3 => if_neg h3) (fun q hq => ?_) hM9.gf hg hF9
  show z_cpyF (m.2 1) 0 (m.2 3) 0 105 q = _
  unfold z_cpyF
  rw [if_pos (by omega), show 0 + (q - 0) = q by omega]
theorem cM_rowIn {n pl : Int32} (hM : z_Mo h a m) (hR : z_Rel x m) (q : z_mQ (z_fRowIn x n pl) h a Q) : z_W G 4 0 0 218 0 (z_L0 218 [.ref a, .int n, .int pl]) [] h Q := by
  have hw := hR.1.1
  have hg := hR.1.2
  unfold z_fRowIn at q
  cases e1 : z_inR n 0 24 with
  | false =>
    refine z_iload_n rfl rfl ?_
    refine z_iconst (v := 0) rfl (by decide) ?_
    refine z_bipush (v := 24) rfl (by decide) ?_
    refine z_callS (av := [_, _, _]) rfl z_w162 rfl rfl rfl rfl (Nat.le_of_ble_eq_true rfl) (Nat.le_of_ble_eq_true rfl) (Nat.le_of_ble_eq_true rfl) (Nat.le_of_ble_eq_true rfl) (cM_in ?_)
    rw [e1]
    refine z_if_ne rfl (fun c7 => absurd (by decide) c7) (fun c7 => ?_)
    refine z_aload_n rfl rfl ?_
    refine z_iconst (v := 1) rfl (by decide) ?_
    refine z_callV (av := [_]) rfl z_w164 hM.1 rfl rfl rfl rfl rfl (Nat.le_of_ble_eq_true rfl) (Nat.le_of_ble_eq_true rfl) (Nat.le_of_ble_eq_true rfl) (Nat.le_of_ble_eq_true rfl) (cM_fails (v := nI 1) hM (fun h9 hM9 hF9 => ?_))
    refine z_iret rfl rfl ?_
    exact q.fl hR hM9 hF9 (if_pos (z_inN e1)) (by decide)
  | true =>
    obtain ⟨k, _, hk, rfl⟩ := z_inE (lo := 0) (hi := 24) (by decide) (by decide) e1
    rw [if_neg (z_inY e1), z_ix_nI (by omega)] at q
    have wn := hw.hrs k
    have hnr := wn.nr
    have h10 := wn.nb
    cases ec : z_has pl ((z_hrs x.1 k).2.1.1 5) with
    | false =>
      rw [ec, if_neg Bool.false_ne_true] at q
      refine z_iload_n rfl rfl ?_
      refine z_iconst (v := 0) rfl (by decide) ?_
      refine z_bipush (v := 24) rfl (by decide) ?_
      refine z_callS (av := [_, _, _]) rfl z_w162 rfl rfl rfl rfl (Nat.le_of_ble_eq_true rfl) (Nat.le_of_ble_eq_true rfl) (Nat.le_of_ble_eq_true rfl) (Nat.le_of_ble_eq_true rfl) (cM_in ?_)
      rw [e1]
      refine z_if_ne rfl (fun c7 => ?_) (fun c7 => absurd c7 (by decide))
      refine z_aload_n rfl rfl ?_
      refine z_iload_n rfl rfl ?_
      refine z_iload_n rfl rfl ?_
      refine z_callV (av := [_, _]) rfl z_w217 hM.1 rfl rfl rfl rfl rfl (Nat.le_of_ble_eq_true rfl) (Nat.le_of_ble_eq_true rfl) (Nat.le_of_ble_eq_true rfl) (Nat.le_of_ble_eq_true rfl) (cM_rowBehind (n := k) (by omega) hM hg hw (fun h1 m1 hM1 f1 f2 f3 hF1 => ?_))
      rw [ec, if_neg Bool.false_ne_true]
      refine z_istore_n rfl (by decide +kernel) rfl ?_
      refine z_iload_n rfl rfl ?_
      refine z_iconst (v := (-1)) rfl (by decide) ?_
      refine z_icmp_ne rfl (fun c25 => absurd rfl c25) (fun c25 => ?_)
      refine z_aload_n rfl rfl ?_
      refine z_iconst (v := 2) rfl (by decide) ?_
      refine z_callV (av := [_]) rfl z_w164 hM1.1 rfl rfl rfl rfl rfl (Nat.le_of_ble_eq_true rfl) (Nat.le_of_ble_eq_true rfl) (Nat.le_of_ble_eq_true rfl) (Nat.le_of_ble_eq_true rfl) (cM_fails (v := nI 2) hM1 (fun h9 hM9 hF9 => ?_))
      refine z_goto rfl ?_
      refine z_iret rfl rfl ?_
      exact q.fl (hR.sameG (fun i _ _ _ => congrFun f1 i) (fun j h1 _ h3 _ => f2 j h1 h3) f3) hM9 (hF1.trans hF9) rfl (by decide)
    | true =>
      obtain ⟨p, hp, rfl⟩ := z_hasE (by omega) ec
      obtain ⟨b, hb, _, _, eb⟩ := wn.row hp
      rw [ec, if_pos rfl] at q
      refine z_iload_n rfl rfl ?_
      refine z_iconst (v := 0) rfl (by decide) ?_
      refine z_bipush (v := 24) rfl (by decide) ?_
      refine z_callS (av := [_, _, _]) rfl z_w162 rfl rfl rfl rfl (Nat.le_of_ble_eq_true rfl) (Nat.le_of_ble_eq_true rfl) (Nat.le_of_ble_eq_true rfl) (Nat.le_of_ble_eq_true rfl) (cM_in ?_)
      rw [e1]
      refine z_if_ne rfl (fun c7 => ?_) (fun c7 => absurd c7 (by decide))
      refine z_aload_n rfl rfl ?_
      refine z_iload_n rfl rfl ?_
      refine z_iload_n rfl rfl ?_
      refine z_callV (av := [_, _]) rfl z_w217 hM.1 rfl rfl rfl rfl rfl (Nat.le_of_ble_eq_true rfl) (Nat.le_of_ble_eq_true rfl) (Nat.le_of_ble_eq_true rfl) (Nat.le_of_ble_eq_true rfl) (cM_rowBehind (n := k) (by omega) hM hg hw (fun h1 m1 hM1 f1 f2 f3 hF1 => ?_))
      rw [ec, if_pos rfl]
      refine z_istore_n rfl (by decide +kernel) rfl ?_
      refine z_iload_n rfl rfl ?_
      refine z_iconst (v := (-1)) rfl (by decide) ?_
      refine z_icmp_ne rfl (fun c25 => ?_) (fun c25 => absurd c25 (by rw [eb]; exact z_nm1 (by omega)))
      refine z_aload_n rfl rfl ?_
      refine z_iload_n rfl rfl ?_
      refine z_callV (av := [_]) rfl z_w163 hM1.1 rfl rfl rfl rfl rfl (Nat.le_of_ble_eq_true rfl) (Nat.le_of_ble_eq_true rfl) (Nat.le_of_ble_eq_true rfl) (Nat.le_of_ble_eq_true rfl) (cM_done hM1 (fun h9 hM9 hF9 => ?_))
      refine z_iret rfl rfl ?_
      exact q.dn (hR.sameG (fun i _ _ _ => congrFun f1 i) (fun j h1 _ h3 _ => f2 j h1 h3) f3) hM9 (hF1.trans hF9) rfl
theorem z_rowAgE {x : z_PV} (hw : z_wf x.1) (n pl : Int32) : z_fRowAgain x n pl = z_fRowIn x n pl := by
  unfold z_fRowAgain z_fRowIn
  by_cases c : n < 0 ∨ 24 < n
  · rw [if_pos c, if_pos c]
  · rw [if_neg c, if_neg c]
    obtain ⟨k, _, hk, rfl⟩ := z_outN (lo := 0) (hi := 24) (by decide) (by decide) c
    have wn := hw.hrs k
    have hnr := wn.nr
    have h10 := wn.nb
    rw [z_blaE hw (by omega), z_ix_nI (by omega)]
    by_cases ec : z_has pl ((z_hrs x.1 k).2.1.1 5) = true
    · obtain ⟨p, hp, rfl⟩ := z_hasE (by omega) ec
      obtain ⟨b, hb, _, _, eb⟩ := wn.row hp
      rw [if_pos ec, if_pos ec, if_neg (by rw [eb]; exact z_nm1 (by omega))]
    · rw [if_neg ec, if_neg ec, if_pos rfl]
theorem cM_rowAgain {n pl : Int32} (hM : z_Mo h a m) (hR : z_Rel x m) (q : z_mQ (z_fRowAgain x n pl) h a Q) : z_W G 5 0 0 219 0 (z_L0 219 [.ref a, .int n, .int pl]) [] h Q := by
  rw [z_rowAgE hR.1.1] at q
  refine z_aload_n rfl rfl ?_
  refine z_iload_n rfl rfl ?_
  refine z_iload_n rfl rfl ?_
  refine z_callV (av := [_, _]) rfl z_w218 hM.1 rfl rfl rfl rfl rfl (Nat.le_of_ble_eq_true rfl) (Nat.le_of_ble_eq_true rfl) (Nat.le_of_ble_eq_true rfl) (Nat.le_of_ble_eq_true rfl) (cM_rowIn hM hR (fun h9 m9 r9 hM9 hR9 ht9 hF9 hr9 => ?_))
  refine z_iret rfl rfl ?_
  exact q h9 m9 r9 hM9 hR9 ht9 hF9 hr9
theorem cM_majorityAgain {c : Int32} (hM : z_Mo h a m) (hR : z_Rel x m) (q : z_mQ (z_fMajorityAgain x c) h a Q) : z_W G 3 0 0 225 0 (z_L0 225 [.ref a, .int c]) [] h Q := by
  have e : z_fMajorityAgain x c = z_fMajority x c := by
    unfold z_fMajorityAgain z_fMajority
    by_cases e : z_has c (x.1.2.1.1 0) = false
    · rw [if_pos e, if_pos e]
    · rw [if_neg e, if_neg e]
      obtain ⟨i, hi, rfl⟩ := z_hasN (by have := hR.1.1.nb; omega) e
      rw [z_mblE hR.1.1]
  rw [e] at q
  refine z_aload_n rfl rfl ?_
  refine z_iload_n rfl rfl ?_
  refine z_callV (av := [_]) rfl z_w224 hM.1 rfl rfl rfl rfl rfl (Nat.le_of_ble_eq_true rfl) (Nat.le_of_ble_eq_true rfl) (Nat.le_of_ble_eq_true rfl) (Nat.le_of_ble_eq_true rfl) (cM_majority hM hR (fun h9 m9 r9 hM9 hR9 ht9 hF9 hr9 => ?_))
  refine z_iret rfl rfl ?_
  exact q h9 m9 r9 hM9 hR9 ht9 hF9 hr9
theorem cM_secondIn {c n : Int32} (hM : z_Mo h a m) (hR : z_Rel x m) (q : z_mQ (z_fSecondIn x c n) h a Q) : z_W G 2 0 0 222 0 (z_L0 222 [.ref a, .int c, .int n]) [] h Q := by
  have hw := hR.1.1
  have hg := hR.1.2
  have h8 := hw.nc
  unfold z_fSecondIn at q
  cases e1 : z_has c (x.1.1.1 0) with
  | false =>
    refine z_aload_n rfl rfl ?_
    refine z_iload_n rfl rfl ?_
    refine z_callV (av := [_]) rfl z_w169 hM.1 rfl rfl rfl rfl rfl (Nat.le_of_ble_eq_true rfl) (Nat.le_of_ble_eq_true rfl) (Nat.le_of_ble_eq_true rfl) (Nat.le_of_ble_eq_true rfl) (cM_isClock hM hg hw.wz ?_)
    rw [e1]
    refine z_if_ne rfl (fun c5 => absurd (by decide) c5) (fun c5 => ?_)
    refine z_aload_n rfl rfl ?_
    refine z_iconst (v := 1) rfl (by decide) ?_
    refine z_callV (av := [_]) rfl z_w164 hM.1 rfl rfl rfl rfl rfl (Nat.le_of_ble_eq_true rfl) (Nat.le_of_ble_eq_true rfl) (Nat.le_of_ble_eq_true rfl) (Nat.le_of_ble_eq_true rfl) (cM_fails (v := nI 1) hM (fun h9 hM9 hF9 => ?_))
    refine z_iret rfl rfl ?_
    exact q.fl hR hM9 hF9 (if_pos e1) (by decide)
  | true =>
    obtain ⟨j, hj, rfl⟩ := z_hasE (by omega) e1
    rw [if_neg (by rw [e1]; decide)] at q
    cases e2 : z_inR n 0 48 with
    | false =>
      refine z_aload_n rfl rfl ?_
      refine z_iload_n rfl rfl ?_
      refine z_callV (av := [_]) rfl z_w169 hM.1 rfl rfl rfl rfl rfl (Nat.le_of_ble_eq_true rfl) (Nat.le_of_ble_eq_true rfl) (Nat.le_of_ble_eq_true rfl) (Nat.le_of_ble_eq_true rfl) (cM_isClock hM hg hw.wz ?_)
      rw [e1]
      refine z_if_ne rfl (fun c5 => ?_) (fun c5 => absurd c5 (by decide))
      refine z_iload_n rfl rfl ?_
      refine z_iconst (v := 0) rfl (by decide) ?_
      refine z_bipush (v := 48) rfl (by decide) ?_
      refine z_callS (av := [_, _, _]) rfl z_w162 rfl rfl rfl rfl (Nat.le_of_ble_eq_true rfl) (Nat.le_of_ble_eq_true rfl) (Nat.le_of_ble_eq_true rfl) (Nat.le_of_ble_eq_true rfl) (cM_in ?_)
      rw [e2]
      refine z_if_ne rfl (fun c21 => absurd (by decide) c21) (fun c21 => ?_)
      refine z_aload_n rfl rfl ?_
      refine z_iconst (v := 2) rfl (by decide) ?_
      refine z_callV (av := [_]) rfl z_w164 hM.1 rfl rfl rfl rfl rfl (Nat.le_of_ble_eq_true rfl) (Nat.le_of_ble_eq_true rfl) (Nat.le_of_ble_eq_true rfl) (Nat.le_of_ble_eq_true rfl) (cM_fails (v := nI 2) hM (fun h9 hM9 hF9 => ?_))
      refine z_iret rfl rfl ?_
      exact q.fl hR hM9 hF9 (if_pos (z_inN e2)) (by decide)
    | true =>
      obtain ⟨k, _, hk, rfl⟩ := z_inE (lo := 0) (hi := 48) (by decide) (by decide) e2
      rw [if_neg (z_inY e2), z_ix_nI (by omega)] at q
      obtain ⟨⟨s, hs, es⟩, ⟨p, hp, ep⟩, _⟩ := hw.C.2.2.2.1 j hj
      have gs : m.2 1 (10 + j) = nI s := (hg.2.2.1 0 j (by decide) hj).trans es
      have gp : m.2 1 (18 + j) = nI p := (hg.2.2.1 1 j (by decide) hj).trans ep
      have ev : z_a (z_hrs x.1 k).1 0 (nI j) = nI ((s + (if k < p - 1 then k else p - 1)) % 60) := by
        rw [z_aI (by rw [z_hrs_n]; exact hj) (by rw [z_hrs_n]; omega)]
        exact (z_hrsC hw hj ep es hs hp k).2
      rw [ev] at q
      have rest : z_W G 2 0 0 222 57 (z_L0 222 [.ref a, .int (nI j), .int (nI k)]) [.int (nI (p - 1))] h Q := by
        by_cases c : k < p - 1
        · rw [if_pos c] at q
          refine z_istore_n rfl (by decide +kernel) rfl ?_
          refine z_aload_n rfl rfl ?_
          refine z_aload_n rfl rfl ?_
          refine z_get rfl hM.1 rfl ?_
          refine z_bipush (v := 10) rfl (by decide) ?_
          refine z_iload_n rfl rfl ?_
          refine z_iadd rfl ?_
          refine z_ildE rfl (hM.2 1 (by decide)) (nI_add 10 (j)) (show _ < 105 by omega) ?_
          rw [gs]
          refine z_iload_n rfl rfl ?_
          refine z_iload_n rfl rfl ?_
          refine z_icmp_ge rfl (fun c70 => absurd c70 (fun q9 => absurd ((nI_leI (by omega) (by omega)).mp q9) (by omega))) (fun c70 => ?_)
          refine z_iload_n rfl rfl ?_
          refine z_goto rfl ?_
          refine z_iadd rfl ?_
          rw [nI_add]
          refine z_bipush (v := 60) rfl (by decide) ?_
          refine z_irem rfl (by decide) ?_
          rw [show nI (s + k) - nI (s + k) / 60 * 60 = nI ((s + k) % 60) from pk_rem (d := 60) (by omega) (by decide) (by decide)]
          refine z_callV (av := [_]) rfl z_w163 hM.1 rfl rfl rfl rfl rfl (Nat.le_of_ble_eq_true rfl) (Nat.le_of_ble_eq_true rfl) (Nat.le_of_ble_eq_true rfl) (Nat.le_of_ble_eq_true rfl) (cM_done hM (fun h9 hM9 hF9 => ?_))
          refine z_iret rfl rfl ?_
          exact q.dn hR hM9 hF9 rfl
        · rw [if_neg c] at q
          refine z_istore_n rfl (by decide +kernel) rfl ?_
          refine z_aload_n rfl rfl ?_
          refine z_aload_n rfl rfl ?_
          refine z_get rfl hM.1 rfl ?_
          refine z_bipush (v := 10) rfl (by decide) ?_
          refine z_iload_n rfl rfl ?_
          refine z_iadd rfl ?_
          refine z_ildE rfl (hM.2 1 (by decide)) (nI_add 10 (j)) (show _ < 105 by omega) ?_
          rw [gs]
          refine z_iload_n rfl rfl ?_
          refine z_iload_n rfl rfl ?_
          refine z_icmp_ge rfl (fun c70 => ?_) (fun c70 => absurd ((nI_leI (by omega) (by omega)).mpr (by omega)) c70)
          refine z_iload_n rfl rfl ?_
          refine z_iadd rfl ?_
          rw [nI_add]
          refine z_bipush (v := 60) rfl (by decide) ?_
          refine z_irem rfl (by decide) ?_
          rw [show nI (s + (p - 1)) - nI (s + (p - 1)) / 60 * 60 = nI ((s + (p - 1)) % 60) from pk_rem (d := 60) (by omega) (by decide) (by decide)]
          refine z_callV (av := [_]) rfl z_w163 hM.1 rfl rfl rfl rfl rfl (Nat.le_of_ble_eq_true rfl) (Nat.le_of_ble_eq_true rfl) (Nat.le_of_ble_eq_true rfl) (Nat.le_of_ble_eq_true rfl) (cM_done hM (fun h9 hM9 hF9 => ?_))
          refine z_iret rfl rfl ?_
          exact q.dn hR hM9 hF9 rfl
      by_cases c0 : p = 0
      · skip
        refine z_aload_n rfl rfl ?_
        refine z_iload_n rfl rfl ?_
        refine z_callV (av := [_]) rfl z_w169 hM.1 rfl rfl rfl rfl rfl (Nat.le_of_ble_eq_true rfl) (Nat.le_of_ble_eq_true rfl) (Nat.le_of_ble_eq_true rfl) (Nat.le_of_ble_eq_true rfl) (cM_isClock hM hg hw.wz ?_)
        rw [e1]
        refine z_if_ne rfl (fun c5 => ?_) (fun c5 => absurd c5 (by decide))
        refine z_iload_n rfl rfl ?_
        refine z_iconst (v := 0) rfl (by decide) ?_
        refine z_bipush (v := 48) rfl (by decide) ?_
        refine z_callS (av := [_, _, _]) rfl z_w162 rfl rfl rfl rfl (Nat.le_of_ble_eq_true rfl) (Nat.le_of_ble_eq_true rfl) (Nat.le_of_ble_eq_true rfl) (Nat.le_of_ble_eq_true rfl) (cM_in ?_)
        rw [e2]
        refine z_if_ne rfl (fun c21 => ?_) (fun c21 => absurd c21 (by decide))
        refine z_aload_n rfl rfl ?_
        refine z_get rfl hM.1 rfl ?_
        refine z_bipush (v := 18) rfl (by decide) ?_
        refine z_iload_n rfl rfl ?_
        refine z_iadd rfl ?_
        refine z_ildE rfl (hM.2 1 (by decide)) (nI_add 18 (j)) (show _ < 105 by omega) ?_
        rw [gp]
        refine z_if_le rfl (fun c39 => ?_) (fun c39 => absurd (by rw [c0]; decide) c39)
        refine z_iconst (v := nI 0) rfl (by decide) ?_
        rw [show p - 1 = 0 by omega] at rest; exact rest
      · skip
        refine z_aload_n rfl rfl ?_
        refine z_iload_n rfl rfl ?_
        refine z_callV (av := [_]) rfl z_w169 hM.1 rfl rfl rfl rfl rfl (Nat.le_of_ble_eq_true rfl) (Nat.le_of_ble_eq_true rfl) (Nat.le_of_ble_eq_true rfl) (Nat.le_of_ble_eq_true rfl) (cM_isClock hM hg hw.wz ?_)
        rw [e1]
        refine z_if_ne rfl (fun c5 => ?_) (fun c5 => absurd c5 (by decide))
        refine z_iload_n rfl rfl ?_
        refine z_iconst (v := 0) rfl (by decide) ?_
        refine z_bipush (v := 48) rfl (by decide) ?_
        refine z_callS (av := [_, _, _]) rfl z_w162 rfl rfl rfl rfl (Nat.le_of_ble_eq_true rfl) (Nat.le_of_ble_eq_true rfl) (Nat.le_of_ble_eq_true rfl) (Nat.le_of_ble_eq_true rfl) (cM_in ?_)
        rw [e2]
        refine z_if_ne rfl (fun c21 => ?_) (fun c21 => absurd c21 (by decide))
        refine z_aload_n rfl rfl ?_
        refine z_get rfl hM.1 rfl ?_
        refine z_bipush (v := 18) rfl (by decide) ?_
        refine z_iload_n rfl rfl ?_
        refine z_iadd rfl ?_
        refine z_ildE rfl (hM.2 1 (by decide)) (nI_add 18 (j)) (show _ < 105 by omega) ?_
        rw [gp]
        refine z_if_le rfl (fun c39 => absurd c39 (Int32.not_le.mpr (z_pos0 (by omega) (by omega)))) (fun c39 => ?_)
        refine z_aload_n rfl rfl ?_
        refine z_get rfl hM.1 rfl ?_
        refine z_bipush (v := 18) rfl (by decide) ?_
        refine z_iload_n rfl rfl ?_
        refine z_iadd rfl ?_
        refine z_ildE rfl (hM.2 1 (by decide)) (nI_add 18 (j)) (show _ < 105 by omega) ?_
        rw [gp]
        refine z_iconst (v := 1) rfl (by decide) ?_
        refine z_isub rfl ?_
        rw [z_predN (by omega)]
        refine z_goto rfl ?_
        exact rest
theorem z_silF {x : z_PV} (hw : z_wf x.1) (c : Int32) : z_fSilentIn x c = (if z_has c (x.1.1.1 0) = false then (1, 0, x) else (0, z_a x.1.1 1 c, x) : z_An) := by
  unfold z_fSilentIn
  by_cases e : z_has c (x.1.1.1 0) = false
  · rw [if_pos e, if_pos e]
  · have h8 := hw.nc
    rw [if_neg e, if_neg e]
    obtain ⟨i, hi, rfl⟩ := z_hasN (by omega) e
    obtain ⟨_, ⟨p, hp, ep⟩, _⟩ := hw.C.2.2.2.1 i hi
    have s1 := hw.sc (j := 1) (by decide)
    rw [z_silE 24 0 p x.1 hw hi ep hp, z_aI (by omega) (by omega), ep]
    by_cases c : p < 24
    · rw [if_pos c, Nat.zero_add]
    · rw [if_neg c, show p = 24 by omega]
theorem cM_carried (hM : z_Mo h a m) (hR : z_Rel x m) (q : z_mQ (0, z_crd x.1, x) h a Q) : z_W G 3 0 0 228 0 (z_L0 228 [.ref a]) [] h Q := by
  have hw := hR.1.1
  have hg := hR.1.2
  have h10 := hw.nb
  have loop : ∀ (k i : Nat) (t : Int32), i + k = x.1.2.1.1 0 → t = z_bits (z_crP x.1) i → z_W G 3 0 0 228 4 [.ref a, .int t, .int (nI i)] [] h Q := by
    intro k
    induction k with
    | zero =>
      intro i t hi ht
      obtain rfl : i = x.1.2.1.1 0 := hi
      refine z_iload_n rfl rfl ?_
      refine z_aload_n rfl rfl ?_
      refine z_get rfl hM.1 rfl ?_
      refine z_iconst (v := 1) rfl (by decide) ?_
      refine z_ildE rfl (hM.2 1 (by decide)) (k := 1) rfl (show _ < 105 by omega) ?_
      rw [hg.b0]
      refine z_icmp_ge rfl (fun c11 => ?_) (fun c11 => absurd (Int32.le_refl _) c11)
      refine z_aload_n rfl rfl ?_
      refine z_iload_n rfl rfl ?_
      refine z_callV (av := [_]) rfl z_w163 hM.1 rfl rfl rfl rfl rfl (Nat.le_of_ble_eq_true rfl) (Nat.le_of_ble_eq_true rfl) (Nat.le_of_ble_eq_true rfl) (Nat.le_of_ble_eq_true rfl) (cM_done hM (fun h9 hM9 hF9 => ?_))
      refine z_iret rfl rfl ?_
      exact q.dn hR hM9 hF9 (by rw [ht]; rfl)
    | succ k ih =>
      intro i t hi ht
      obtain ⟨d, hd, ed, ea⟩ := hw.B.ho (show i < x.1.2.1.1 0 by omega)
      have e1 : m.2 1 (75 + i) = nI d := (hg.bl hw.wz (j := 3) (by decide) (by decide) (by omega)).trans ea
      have st : z_bits (z_crP x.1) (i + 1) = if d = 0 ∧ z_won x.1 (nI i) = true then t ||| (1 <<< (nI i &&& 31)) else t := by
        rw [ht]
        show (if z_crP x.1 i = true then _ else _) = _
        unfold z_crP z_adj
        rw [ea]
        by_cases c : d = 0
        · subst c
          rw [show (!decide ((0 : Int32) < nI 0)) = true by decide, Bool.true_and]
          by_cases c2 : z_won x.1 (nI i) = true
          · rw [if_pos c2, if_pos ⟨rfl, c2⟩]; rfl
          · rw [if_neg c2, if_neg (fun q => c2 q.2)]; rfl
        · rw [decide_eq_true (z_pos0 (k := d) (by omega) (by omega)), Bool.not_true, Bool.false_and, if_neg Bool.false_ne_true, if_neg (fun q => c q.1)]; rfl
      by_cases c : d = 0
      · cases cw : z_won x.1 (nI i) with
        | false =>
          rw [if_neg (fun q => by rw [cw] at q; exact Bool.false_ne_true q.2)] at st
          refine z_iload_n rfl rfl ?_
          refine z_aload_n rfl rfl ?_
          refine z_get rfl hM.1 rfl ?_
          refine z_iconst (v := 1) rfl (by decide) ?_
          refine z_ildE rfl (hM.2 1 (by decide)) (k := 1) rfl (show _ < 105 by omega) ?_
          rw [hg.b0]
          refine z_icmp_ge rfl (fun c11 => absurd c11 (fun q9 => absurd ((nI_leI (by omega) (by omega)).mp q9) (by omega))) (fun c11 => ?_)
          refine z_iload_n rfl rfl ?_
          refine z_aload_n rfl rfl ?_
          refine z_get rfl hM.1 rfl ?_
          refine z_bipush (v := 75) rfl (by decide) ?_
          refine z_iload_n rfl rfl ?_
          refine z_iadd rfl ?_
          refine z_ildE rfl (hM.2 1 (by decide)) (nI_add 75 (i)) (show _ < 105 by omega) ?_
          rw [e1]
          refine z_if_ne rfl (fun c24 => absurd (by rw [c]; rfl) c24) (fun c24 => ?_)
          refine z_aload_n rfl rfl ?_
          refine z_iload_n rfl rfl ?_
          refine z_callV (av := [_]) rfl z_w226 hM.1 rfl rfl rfl rfl rfl (Nat.le_of_ble_eq_true rfl) (Nat.le_of_ble_eq_true rfl) (Nat.le_of_ble_eq_true rfl) (Nat.le_of_ble_eq_true rfl) (cM_carries (x := x) hM hg hw (show i < x.1.2.1.1 0 by omega) ?_)
          rw [cw]
          refine z_if_eq rfl (fun c32 => ?_) (fun c32 => absurd rfl c32)
          refine z_iconst (v := 0) rfl (by decide) ?_
          refine z_ior rfl ?_
          refine z_istore_n rfl (by decide +kernel) rfl ?_
          refine z_iinc1 rfl rfl (by decide +kernel) rfl ?_
          refine z_goto rfl (ih (i + 1) _ (by omega) ?_)
          rw [st, Int32.or_zero]
        | true =>
          rw [if_pos ⟨c, cw⟩] at st
          refine z_iload_n rfl rfl ?_
          refine z_aload_n rfl rfl ?_
          refine z_get rfl hM.1 rfl ?_
          refine z_iconst (v := 1) rfl (by decide) ?_
          refine z_ildE rfl (hM.2 1 (by decide)) (k := 1) rfl (show _ < 105 by omega) ?_
          rw [hg.b0]
          refine z_icmp_ge rfl (fun c11 => absurd c11 (fun q9 => absurd ((nI_leI (by omega) (by omega)).mp q9) (by omega))) (fun c11 => ?_)
          refine z_iload_n rfl rfl ?_
          refine z_aload_n rfl rfl ?_
          refine z_get rfl hM.1 rfl ?_
          refine z_bipush (v := 75) rfl (by decide) ?_
          refine z_iload_n rfl rfl ?_
          refine z_iadd rfl ?_
          refine z_ildE rfl (hM.2 1 (by decide)) (nI_add 75 (i)) (show _ < 105 by omega) ?_
          rw [e1]
          refine z_if_ne rfl (fun c24 => absurd (by rw [c]; rfl) c24) (fun c24 => ?_)
          refine z_aload_n rfl rfl ?_
          refine z_iload_n rfl rfl ?_
          refine z_callV (av := [_]) rfl z_w226 hM.1 rfl rfl rfl rfl rfl (Nat.le_of_ble_eq_true rfl) (Nat.le_of_ble_eq_true rfl) (Nat.le_of_ble_eq_true rfl) (Nat.le_of_ble_eq_true rfl) (cM_carries (x := x) hM hg hw (show i < x.1.2.1.1 0 by omega) ?_)
          rw [cw]
          refine z_if_eq rfl (fun c32 => absurd c32 (by decide)) (fun c32 => ?_)
          refine z_iconst (v := 1) rfl (by decide) ?_
          refine z_iload_n rfl rfl ?_
          refine z_ishl rfl ?_
          refine z_goto rfl ?_
          refine z_ior rfl ?_
          refine z_istore_n rfl (by decide +kernel) rfl ?_
          refine z_iinc1 rfl rfl (by decide +kernel) rfl ?_
          exact z_goto rfl (ih (i + 1) _ (by omega) st.symm)
      · rw [if_neg (fun q => c q.1)] at st
        refine z_iload_n rfl rfl ?_
        refine z_aload_n rfl rfl ?_
        refine z_get rfl hM.1 rfl ?_
        refine z_iconst (v := 1) rfl (by decide) ?_
        refine z_ildE rfl (hM.2 1 (by decide)) (k := 1) rfl (show _ < 105 by omega) ?_
        rw [hg.b0]
        refine z_icmp_ge rfl (fun c11 => absurd c11 (fun q9 => absurd ((nI_leI (by omega) (by omega)).mp q9) (by omega))) (fun c11 => ?_)
        refine z_iload_n rfl rfl ?_
        refine z_aload_n rfl rfl ?_
        refine z_get rfl hM.1 rfl ?_
        refine z_bipush (v := 75) rfl (by decide) ?_
        refine z_iload_n rfl rfl ?_
        refine z_iadd rfl ?_
        refine z_ildE rfl (hM.2 1 (by decide)) (nI_add 75 (i)) (show _ < 105 by omega) ?_
        rw [e1]
        refine z_if_ne rfl (fun c24 => ?_) (fun c24 => absurd c24 (nI_ne0 (by omega) (by omega)))
        refine z_iconst (v := 0) rfl (by decide) ?_
        refine z_ior rfl ?_
        refine z_istore_n rfl (by decide +kernel) rfl ?_
        refine z_iinc1 rfl rfl (by decide +kernel) rfl ?_
        refine z_goto rfl (ih (i + 1) _ (by omega) ?_)
        rw [st, Int32.or_zero]
  refine z_iconst (v := 0) rfl (by decide) ?_
  refine z_istore_n rfl (by decide +kernel) rfl ?_
  refine z_iconst (v := nI 0) rfl (by decide) ?_
  refine z_istore_n rfl (by decide +kernel) rfl ?_
  exact loop (x.1.2.1.1 0) 0 0 (by omega) rfl
end ZQe
