/-! gives, winds, moves. -/
theorem z_inE {x : Int32} {lo hi : Nat} (hh : hi < 1000) (hl : lo ≤ hi) (e : z_inR x (nI lo) (nI hi) = true) : ∃ k, lo ≤ k ∧ k ≤ hi ∧ x = nI k := by
  unfold z_inR at e
  simp only [Bool.and_eq_true, decide_eq_true_eq, Int32.le_iff_toInt_le] at e
  rw [nI_toInt (by omega), nI_toInt (by omega)] at e
  refine ⟨x.toInt.toNat, by omega, by omega, Int32.toInt_inj.mp ?_⟩
  rw [nI_toInt (by omega)]
  omega
theorem z_wf.putC {v : z_HV} (hw : z_wf v) {j c : Nat} {x : Int32} (hj : j < 4) (hc : c < v.1.1 0) (h0 : j = 0 → z_rng x 60) (h1 : j = 1 → z_rng x 25) (h2 : j = 2 → z_rng x 4) : z_wf (z_putL v.1 j (nI c) x, v.2.1, v.2.2) := by
  obtain ⟨a1, a2, a3, a4, a5, a6⟩ := hw
  have hw : z_wf v := ⟨a1, a2, a3, a4, a5, a6⟩
  have h8 := hw.nc
  rw [z_putLI (by rw [hw.sc hj]; exact hc) (by rw [hw.sc hj]; omega)]
  have gen : ∀ i j', i < v.1.1 0 → j' ≠ j ∨ i ≠ c → (z_upF v.1 j (upd (v.1.2 j) c x)).2 j' i = v.1.2 j' i := fun i j' hi hn => by
    show (if j' = j then upd (v.1.2 j) c x else v.1.2 j') i = _
    by_cases e : j' = j
    · subst e
      rw [if_pos rfl, z_updN _ _ (by rcases hn with q | q; exact absurd rfl q; exact q)]
    · rw [if_neg e]
  have hit : ∀ j', j' = j → (z_upF v.1 j (upd (v.1.2 j) c x)).2 j' c = x := fun j' e => by
    show (if j' = j then upd (v.1.2 j) c x else v.1.2 j') c = _
    rw [if_pos e, z_updE (α := Nat)]
  refine ⟨a1, a2, a3, fun i hi => ⟨?_, ?_, ?_⟩, fun k hk => ?_, a6⟩
  · by_cases e : 0 = j ∧ i = c
    · show z_rng ((z_upF v.1 j (upd (v.1.2 j) c x)).2 0 i) 60
      rw [e.2, hit 0 e.1]; exact h0 e.1.symm
    · show z_rng ((z_upF v.1 j (upd (v.1.2 j) c x)).2 0 i) 60
      rw [gen i 0 hi (by omega)]; exact (a4 i hi).1
  · by_cases e : 1 = j ∧ i = c
    · show z_rng ((z_upF v.1 j (upd (v.1.2 j) c x)).2 1 i) 25
      rw [e.2, hit 1 e.1]; exact h1 e.1.symm
    · show z_rng ((z_upF v.1 j (upd (v.1.2 j) c x)).2 1 i) 25
      rw [gen i 1 hi (by omega)]; exact (a4 i hi).2.1
  · by_cases e : 2 = j ∧ i = c
    · show z_rng ((z_upF v.1 j (upd (v.1.2 j) c x)).2 2 i) 4
      rw [e.2, hit 2 e.1]; exact h2 e.1.symm
    · show z_rng ((z_upF v.1 j (upd (v.1.2 j) c x)).2 2 i) 4
      rw [gen i 2 hi (by omega)]; exact (a4 i hi).2.2
  · show z_kOk (v.1.1 0) ((if 4 = j then upd (v.1.2 j) c x else v.1.2 4) k)
    rw [if_neg (by omega)]
    exact a5 k hk
theorem z_aPut {x : z_LV} {j c : Nat} {y : Int32} (hc : c < x.1 j) (hn : x.1 j < 1000) : z_a (z_putL x j (nI c) y) j (nI c) = y := by
  rw [z_putLI hc hn]
  refine (z_aI (x := z_upF x j (upd (x.2 j) c y)) hc hn).trans ?_
  show (if j = j then upd (x.2 j) c y else x.2 j) c = y
  rw [if_pos rfl, z_updE (α := Nat)]
theorem z_add_1 (x : Int32) : x + 1 - 1 = x := by rw [Int32.add_sub_cancel]
theorem z_dnM.g {m m' : z_MV} (f : Nat → Int32) (hd : z_dnM m m') : z_dnM m (z_mF m' 1 f) := ⟨hd.1, hd.2.1, fun j hj => (if_neg hj).trans (hd.2.2 j hj)⟩
section ZOpB
variable {G : z_G} {h : z_H} {Q : z_O → z_H → Prop} {a : Nat} {m : z_MV} {v : z_HV}
theorem cM_gives {k c t u : Int32} (hM : z_Mo h a m) (hg : z_gOk v (m.2 1)) (hw : z_wf v) (q : z_opQ v (2, k, c, t, u) h a m Q) : z_W G 2 0 0 181 0 (z_L0 181 [.ref a, .int k, .int c]) [] h Q := by
  have h8 := hw.nc
  have hsk := hw.sk
  cases e1 : z_has k 3 with
  | false =>
    refine z_iload_n rfl rfl ?_
    refine z_callS (av := [_]) rfl z_w171 rfl rfl rfl rfl (Nat.le_of_ble_eq_true rfl) (Nat.le_of_ble_eq_true rfl) (Nat.le_of_ble_eq_true rfl) (Nat.le_of_ble_eq_true rfl) (cM_isKey ?_)
    rw [e1]
    refine z_if_ne rfl (fun c4 => absurd (by decide) c4) (fun c4 => ?_)
    refine z_aload_n rfl rfl ?_
    refine z_iconst (v := 2) rfl (by decide) ?_
    refine z_iload_n rfl rfl ?_
    refine z_callV (av := [_, _]) rfl z_w165 hM.1 rfl rfl rfl rfl rfl (Nat.le_of_ble_eq_true rfl) (Nat.le_of_ble_eq_true rfl) (Nat.le_of_ble_eq_true rfl) (Nat.le_of_ble_eq_true rfl) (cM_refused hM (fun h9 hM9 hF9 => ?_))
    refine z_iret rfl rfl ?_
    exact q.1 (2, k) (if_pos (by rw [hsk]; exact e1)) _ hM9 ((z_Fr.refl _ _ _).trans hF9)
  | true =>
    obtain ⟨i, hi, rfl⟩ := z_hasE (by decide) e1
    have n1 : ¬ z_has (nI i) (v.1.1 4) = false := by rw [hsk, e1]; exact Bool.noConfusion
    have ek := hg.ky hw.wz hi
    by_cases e2 : ¬ c = -1 ∧ z_has c (v.1.1 0) = false
    · skip
      refine z_iload_n rfl rfl ?_
      refine z_callS (av := [_]) rfl z_w171 rfl rfl rfl rfl (Nat.le_of_ble_eq_true rfl) (Nat.le_of_ble_eq_true rfl) (Nat.le_of_ble_eq_true rfl) (Nat.le_of_ble_eq_true rfl) (cM_isKey ?_)
      rw [e1]
      refine z_if_ne rfl (fun c4 => ?_) (fun c4 => absurd c4 (by decide))
      refine z_iload_n rfl rfl ?_
      refine z_iconst (v := (-1)) rfl (by decide) ?_
      refine z_icmp_eq rfl (fun c16 => absurd c16 e2.1) (fun c16 => ?_)
      refine z_aload_n rfl rfl ?_
      refine z_iload_n rfl rfl ?_
      refine z_callV (av := [_]) rfl z_w169 hM.1 rfl rfl rfl rfl rfl (Nat.le_of_ble_eq_true rfl) (Nat.le_of_ble_eq_true rfl) (Nat.le_of_ble_eq_true rfl) (Nat.le_of_ble_eq_true rfl) (cM_isClock hM hg hw.wz ?_)
      rw [e2.2]
      refine z_if_ne rfl (fun c24 => absurd (by decide) c24) (fun c24 => ?_)
      refine z_aload_n rfl rfl ?_
      refine z_iconst (v := 2) rfl (by decide) ?_
      refine z_iload_n rfl rfl ?_
      refine z_callV (av := [_, _]) rfl z_w165 hM.1 rfl rfl rfl rfl rfl (Nat.le_of_ble_eq_true rfl) (Nat.le_of_ble_eq_true rfl) (Nat.le_of_ble_eq_true rfl) (Nat.le_of_ble_eq_true rfl) (cM_refused hM (fun h9 hM9 hF9 => ?_))
      refine z_iret rfl rfl ?_
      exact q.1 (2, c) ((if_neg n1).trans (if_pos e2)) _ hM9 ((z_Fr.refl _ _ _).trans hF9)
    · have rest : z_W G 2 0 0 181 34 (z_L0 181 [.ref a, .int (nI i), .int c]) [] h Q := by
        by_cases e3 : z_a v.1 4 (nI i) = c
        · skip
          refine z_aload_n rfl rfl ?_
          refine z_get rfl hM.1 rfl ?_
          refine z_bipush (v := 42) rfl (by decide) ?_
          refine z_iload_n rfl rfl ?_
          refine z_iadd rfl ?_
          refine z_ildE rfl (hM.2 1 (by decide)) (nI_add 42 (i)) (show _ < 105 by omega) ?_
          rw [ek]
          refine z_iconst (v := 1) rfl (by decide) ?_
          refine z_isub rfl ?_
          rw [z_add_1, e3]
          refine z_istore_n rfl (by decide +kernel) rfl ?_
          refine z_iload_n rfl rfl ?_
          refine z_iload_n rfl rfl ?_
          refine z_icmp_ne rfl (fun c48 => absurd rfl c48) (fun c48 => ?_)
          refine z_aload_n rfl rfl ?_
          refine z_iconst (v := 4) rfl (by decide) ?_
          refine z_iload_n rfl rfl ?_
          refine z_callV (av := [_, _]) rfl z_w165 hM.1 rfl rfl rfl rfl rfl (Nat.le_of_ble_eq_true rfl) (Nat.le_of_ble_eq_true rfl) (Nat.le_of_ble_eq_true rfl) (Nat.le_of_ble_eq_true rfl) (cM_refused hM (fun h9 hM9 hF9 => ?_))
          refine z_iret rfl rfl ?_
          exact q.1 (4, c) ((if_neg n1).trans ((if_neg e2).trans (if_pos e3))) _ hM9 ((z_Fr.refl _ _ _).trans hF9)
        · skip
          refine z_aload_n rfl rfl ?_
          refine z_get rfl hM.1 rfl ?_
          refine z_bipush (v := 42) rfl (by decide) ?_
          refine z_iload_n rfl rfl ?_
          refine z_iadd rfl ?_
          refine z_ildE rfl (hM.2 1 (by decide)) (nI_add 42 (i)) (show _ < 105 by omega) ?_
          rw [ek]
          refine z_iconst (v := 1) rfl (by decide) ?_
          refine z_isub rfl ?_
          rw [z_add_1]
          refine z_istore_n rfl (by decide +kernel) rfl ?_
          refine z_iload_n rfl rfl ?_
          refine z_iload_n rfl rfl ?_
          refine z_icmp_ne rfl (fun c48 => ?_) (fun c48 => absurd c48 e3)
          refine z_aload_n rfl rfl ?_
          refine z_get rfl hM.1 rfl ?_
          refine z_bipush (v := 42) rfl (by decide) ?_
          refine z_iload_n rfl rfl ?_
          refine z_iadd rfl ?_
          refine z_iload_n rfl rfl ?_
          refine z_iconst (v := 1) rfl (by decide) ?_
          refine z_iadd rfl ?_
          refine z_istM (j := 1) rfl hM (by decide) (nI_add 42 (i)) (show _ < 105 by omega) (fun h1 hC1 hF1 => ?_)
          refine z_aload_n rfl rfl ?_
          refine z_iload_n rfl rfl ?_
          refine z_callV (av := [_]) rfl z_w163 hC1.1 rfl rfl rfl rfl rfl (Nat.le_of_ble_eq_true rfl) (Nat.le_of_ble_eq_true rfl) (Nat.le_of_ble_eq_true rfl) (Nat.le_of_ble_eq_true rfl) (cM_done hC1 (fun h9 hM9 hF9 => ?_))
          refine z_iret rfl rfl ?_
          exact q.2 ((if_neg n1).trans ((if_neg e2).trans (if_neg e3))) _ _ hM9 z_dnM.of (hg.putK hw.wz hi) (hF1.trans hF9)
      refine z_iload_n rfl rfl ?_
      refine z_callS (av := [_]) rfl z_w171 rfl rfl rfl rfl (Nat.le_of_ble_eq_true rfl) (Nat.le_of_ble_eq_true rfl) (Nat.le_of_ble_eq_true rfl) (Nat.le_of_ble_eq_true rfl) (cM_isKey ?_)
      rw [e1]
      refine z_if_ne rfl (fun c4 => ?_) (fun c4 => absurd c4 (by decide))
      refine z_iload_n rfl rfl ?_
      refine z_iconst (v := (-1)) rfl (by decide) ?_
      refine z_icmp_eq rfl (fun c16 => ?_) (fun c16 => ?_)
      · exact rest
      · refine z_aload_n rfl rfl ?_
        refine z_iload_n rfl rfl ?_
        refine z_callV (av := [_]) rfl z_w169 hM.1 rfl rfl rfl rfl rfl (Nat.le_of_ble_eq_true rfl) (Nat.le_of_ble_eq_true rfl) (Nat.le_of_ble_eq_true rfl) (Nat.le_of_ble_eq_true rfl) (cM_isClock hM hg hw.wz ?_)
        refine z_if_ne rfl (fun c24 => ?_) (fun c24 => absurd c24 (fun q9 => e2 ⟨c16, (z_bIf _).mp q9⟩))
        exact rest
theorem cM_winds {k c t u : Int32} (hM : z_Mo h a m) (hg : z_gOk v (m.2 1)) (hw : z_wf v) (q : z_opQ v (3, k, c, t, u) h a m Q) : z_W G 2 0 0 183 0 (z_L0 183 [.ref a, .int k, .int c]) [] h Q := by
  have h8 := hw.nc
  have hsk := hw.sk
  cases e1 : z_has k 3 with
  | false =>
    refine z_iload_n rfl rfl ?_
    refine z_callS (av := [_]) rfl z_w171 rfl rfl rfl rfl (Nat.le_of_ble_eq_true rfl) (Nat.le_of_ble_eq_true rfl) (Nat.le_of_ble_eq_true rfl) (Nat.le_of_ble_eq_true rfl) (cM_isKey ?_)
    rw [e1]
    refine z_if_ne rfl (fun c4 => absurd (by decide) c4) (fun c4 => ?_)
    refine z_aload_n rfl rfl ?_
    refine z_iconst (v := 2) rfl (by decide) ?_
    refine z_iload_n rfl rfl ?_
    refine z_callV (av := [_, _]) rfl z_w165 hM.1 rfl rfl rfl rfl rfl (Nat.le_of_ble_eq_true rfl) (Nat.le_of_ble_eq_true rfl) (Nat.le_of_ble_eq_true rfl) (Nat.le_of_ble_eq_true rfl) (cM_refused hM (fun h9 hM9 hF9 => ?_))
    refine z_iret rfl rfl ?_
    exact q.1 (2, k) (if_pos (by rw [hsk]; exact e1)) _ hM9 ((z_Fr.refl _ _ _).trans hF9)
  | true =>
    obtain ⟨i, hi, rfl⟩ := z_hasE (by decide) e1
    have n1 : ¬ z_has (nI i) (v.1.1 4) = false := by rw [hsk, e1]; exact Bool.noConfusion
    have ek := hg.ky hw.wz hi
    cases e2 : z_has c (v.1.1 0) with
    | false =>
      refine z_iload_n rfl rfl ?_
      refine z_callS (av := [_]) rfl z_w171 rfl rfl rfl rfl (Nat.le_of_ble_eq_true rfl) (Nat.le_of_ble_eq_true rfl) (Nat.le_of_ble_eq_true rfl) (Nat.le_of_ble_eq_true rfl) (cM_isKey ?_)
      rw [e1]
      refine z_if_ne rfl (fun c4 => ?_) (fun c4 => absurd c4 (by decide))
      refine z_aload_n rfl rfl ?_
      refine z_iload_n rfl rfl ?_
      refine z_callV (av := [_]) rfl z_w169 hM.1 rfl rfl rfl rfl rfl (Nat.le_of_ble_eq_true rfl) (Nat.le_of_ble_eq_true rfl) (Nat.le_of_ble_eq_true rfl) (Nat.le_of_ble_eq_true rfl) (cM_isClock hM hg hw.wz ?_)
      rw [e2]
      refine z_if_ne rfl (fun c19 => absurd (by decide) c19) (fun c19 => ?_)
      refine z_aload_n rfl rfl ?_
      refine z_iconst (v := 2) rfl (by decide) ?_
      refine z_iload_n rfl rfl ?_
      refine z_callV (av := [_, _]) rfl z_w165 hM.1 rfl rfl rfl rfl rfl (Nat.le_of_ble_eq_true rfl) (Nat.le_of_ble_eq_true rfl) (Nat.le_of_ble_eq_true rfl) (Nat.le_of_ble_eq_true rfl) (cM_refused hM (fun h9 hM9 hF9 => ?_))
      refine z_iret rfl rfl ?_
      exact q.1 (2, c) ((if_neg n1).trans (if_pos e2)) _ hM9 ((z_Fr.refl _ _ _).trans hF9)
    | true =>
      obtain ⟨j, hj, rfl⟩ := z_hasE (by omega) e2
      have n2 : ¬ z_has (nI j) (v.1.1 0) = false := by rw [e2]; exact Bool.noConfusion
      have es : m.2 1 (18 + j) = z_a v.1 1 (nI j) := hg.cl hw.wz (j := 1) (by decide) hj
      by_cases e3 : z_a v.1 4 (nI i) = -1
      · skip
        refine z_iload_n rfl rfl ?_
        refine z_callS (av := [_]) rfl z_w171 rfl rfl rfl rfl (Nat.le_of_ble_eq_true rfl) (Nat.le_of_ble_eq_true rfl) (Nat.le_of_ble_eq_true rfl) (Nat.le_of_ble_eq_true rfl) (cM_isKey ?_)
        rw [e1]
        refine z_if_ne rfl (fun c4 => ?_) (fun c4 => absurd c4 (by decide))
        refine z_aload_n rfl rfl ?_
        refine z_iload_n rfl rfl ?_
        refine z_callV (av := [_]) rfl z_w169 hM.1 rfl rfl rfl rfl rfl (Nat.le_of_ble_eq_true rfl) (Nat.le_of_ble_eq_true rfl) (Nat.le_of_ble_eq_true rfl) (Nat.le_of_ble_eq_true rfl) (cM_isClock hM hg hw.wz ?_)
        rw [e2]
        refine z_if_ne rfl (fun c19 => ?_) (fun c19 => absurd c19 (by decide))
        refine z_aload_n rfl rfl ?_
        refine z_get rfl hM.1 rfl ?_
        refine z_bipush (v := 42) rfl (by decide) ?_
        refine z_iload_n rfl rfl ?_
        refine z_iadd rfl ?_
        refine z_ildE rfl (hM.2 1 (by decide)) (nI_add 42 (i)) (show _ < 105 by omega) ?_
        rw [ek]
        refine z_iconst (v := 1) rfl (by decide) ?_
        refine z_isub rfl ?_
        rw [z_add_1, e3]
        refine z_istore_n rfl (by decide +kernel) rfl ?_
        refine z_iload_n rfl rfl ?_
        refine z_iconst (v := (-1)) rfl (by decide) ?_
        refine z_icmp_ne rfl (fun c43 => absurd rfl c43) (fun c43 => ?_)
        refine z_aload_n rfl rfl ?_
        refine z_iconst (v := 5) rfl (by decide) ?_
        refine z_iload_n rfl rfl ?_
        refine z_callV (av := [_, _]) rfl z_w165 hM.1 rfl rfl rfl rfl rfl (Nat.le_of_ble_eq_true rfl) (Nat.le_of_ble_eq_true rfl) (Nat.le_of_ble_eq_true rfl) (Nat.le_of_ble_eq_true rfl) (cM_refused hM (fun h9 hM9 hF9 => ?_))
        refine z_iret rfl rfl ?_
        exact q.1 (5, nI i) ((if_neg n1).trans ((if_neg n2).trans (if_pos e3))) _ hM9 ((z_Fr.refl _ _ _).trans hF9)
      · obtain ⟨p, hp, ep⟩ : z_rng (z_a v.1 4 (nI i)) (v.1.1 0) := by
          rcases hw.ke hi with e | e
          · exact absurd e e3
          · exact e
        by_cases e4 : z_agr v.1 (z_a v.1 4 (nI i)) (nI j) = false
        · have e5 : ¬ z_sb (z_a v.1 0 (nI p)) (z_a v.1 0 (nI j)) ≤ 5 := by
            unfold z_agr at e4
            rw [ep] at e4
            exact of_decide_eq_false e4
          refine z_iload_n rfl rfl ?_
          refine z_callS (av := [_]) rfl z_w171 rfl rfl rfl rfl (Nat.le_of_ble_eq_true rfl) (Nat.le_of_ble_eq_true rfl) (Nat.le_of_ble_eq_true rfl) (Nat.le_of_ble_eq_true rfl) (cM_isKey ?_)
          rw [e1]
          refine z_if_ne rfl (fun c4 => ?_) (fun c4 => absurd c4 (by decide))
          refine z_aload_n rfl rfl ?_
          refine z_iload_n rfl rfl ?_
          refine z_callV (av := [_]) rfl z_w169 hM.1 rfl rfl rfl rfl rfl (Nat.le_of_ble_eq_true rfl) (Nat.le_of_ble_eq_true rfl) (Nat.le_of_ble_eq_true rfl) (Nat.le_of_ble_eq_true rfl) (cM_isClock hM hg hw.wz ?_)
          rw [e2]
          refine z_if_ne rfl (fun c19 => ?_) (fun c19 => absurd c19 (by decide))
          refine z_aload_n rfl rfl ?_
          refine z_get rfl hM.1 rfl ?_
          refine z_bipush (v := 42) rfl (by decide) ?_
          refine z_iload_n rfl rfl ?_
          refine z_iadd rfl ?_
          refine z_ildE rfl (hM.2 1 (by decide)) (nI_add 42 (i)) (show _ < 105 by omega) ?_
          rw [ek]
          refine z_iconst (v := 1) rfl (by decide) ?_
          refine z_isub rfl ?_
          rw [z_add_1, ep]
          refine z_istore_n rfl (by decide +kernel) rfl ?_
          refine z_iload_n rfl rfl ?_
          refine z_iconst (v := (-1)) rfl (by decide) ?_
          refine z_icmp_ne rfl (fun c43 => ?_) (fun c43 => absurd c43 (fun q9 => e3 (ep.trans q9)))
          refine z_aload_n rfl rfl ?_
          refine z_iload_n rfl rfl ?_
          refine z_iload_n rfl rfl ?_
          refine z_callV (av := [_, _]) rfl z_w174 hM.1 rfl rfl rfl rfl rfl (Nat.le_of_ble_eq_true rfl) (Nat.le_of_ble_eq_true rfl) (Nat.le_of_ble_eq_true rfl) (Nat.le_of_ble_eq_true rfl) (cM_clocksApart hM hg hw hp hj ?_)
          refine z_istore rfl (by decide +kernel) rfl ?_
          refine z_iload rfl rfl ?_
          refine z_iconst (v := 5) rfl (by decide) ?_
          refine z_icmp_le rfl (fun c64 => absurd c64 e5) (fun c64 => ?_)
          refine z_aload_n rfl rfl ?_
          refine z_bipush (v := 10) rfl (by decide) ?_
          refine z_iload rfl rfl ?_
          refine z_callV (av := [_, _]) rfl z_w165 hM.1 rfl rfl rfl rfl rfl (Nat.le_of_ble_eq_true rfl) (Nat.le_of_ble_eq_true rfl) (Nat.le_of_ble_eq_true rfl) (Nat.le_of_ble_eq_true rfl) (cM_refused hM (fun h9 hM9 hF9 => ?_))
          refine z_iret rfl rfl ?_
          refine q.1 (10, _) ((if_neg n1).trans ((if_neg n2).trans ((if_neg e3).trans (if_pos e4)))) _ ?_ ((z_Fr.refl _ _ _).trans hF9)
          rw [ep]; exact hM9
        · have e5 : z_sb (z_a v.1 0 (nI p)) (z_a v.1 0 (nI j)) ≤ 5 := by
            unfold z_agr at e4
            rw [ep] at e4
            exact Decidable.byContradiction fun q9 => e4 (decide_eq_false q9)
          by_cases e6 : z_a v.1 1 (nI j) = 24
          · skip
            refine z_iload_n rfl rfl ?_
            refine z_callS (av := [_]) rfl z_w171 rfl rfl rfl rfl (Nat.le_of_ble_eq_true rfl) (Nat.le_of_ble_eq_true rfl) (Nat.le_of_ble_eq_true rfl) (Nat.le_of_ble_eq_true rfl) (cM_isKey ?_)
            rw [e1]
            refine z_if_ne rfl (fun c4 => ?_) (fun c4 => absurd c4 (by decide))
            refine z_aload_n rfl rfl ?_
            refine z_iload_n rfl rfl ?_
            refine z_callV (av := [_]) rfl z_w169 hM.1 rfl rfl rfl rfl rfl (Nat.le_of_ble_eq_true rfl) (Nat.le_of_ble_eq_true rfl) (Nat.le_of_ble_eq_true rfl) (Nat.le_of_ble_eq_true rfl) (cM_isClock hM hg hw.wz ?_)
            rw [e2]
            refine z_if_ne rfl (fun c19 => ?_) (fun c19 => absurd c19 (by decide))
            refine z_aload_n rfl rfl ?_
            refine z_get rfl hM.1 rfl ?_
            refine z_bipush (v := 42) rfl (by decide) ?_
            refine z_iload_n rfl rfl ?_
            refine z_iadd rfl ?_
            refine z_ildE rfl (hM.2 1 (by decide)) (nI_add 42 (i)) (show _ < 105 by omega) ?_
            rw [ek]
            refine z_iconst (v := 1) rfl (by decide) ?_
            refine z_isub rfl ?_
            rw [z_add_1, ep]
            refine z_istore_n rfl (by decide +kernel) rfl ?_
            refine z_iload_n rfl rfl ?_
            refine z_iconst (v := (-1)) rfl (by decide) ?_
            refine z_icmp_ne rfl (fun c43 => ?_) (fun c43 => absurd c43 (fun q9 => e3 (ep.trans q9)))
            refine z_aload_n rfl rfl ?_
            refine z_iload_n rfl rfl ?_
            refine z_iload_n rfl rfl ?_
            refine z_callV (av := [_, _]) rfl z_w174 hM.1 rfl rfl rfl rfl rfl (Nat.le_of_ble_eq_true rfl) (Nat.le_of_ble_eq_true rfl) (Nat.le_of_ble_eq_true rfl) (Nat.le_of_ble_eq_true rfl) (cM_clocksApart hM hg hw hp hj ?_)
            refine z_istore rfl (by decide +kernel) rfl ?_
            refine z_iload rfl rfl ?_
            refine z_iconst (v := 5) rfl (by decide) ?_
            refine z_icmp_le rfl (fun c64 => ?_) (fun c64 => absurd e5 c64)
            refine z_aload_n rfl rfl ?_
            refine z_get rfl hM.1 rfl ?_
            refine z_bipush (v := 18) rfl (by decide) ?_
            refine z_iload_n rfl rfl ?_
            refine z_iadd rfl ?_
            refine z_ildE rfl (hM.2 1 (by decide)) (nI_add 18 (j)) (show _ < 105 by omega) ?_
            rw [es, e6]
            refine z_istore rfl (by decide +kernel) rfl ?_
            refine z_iload rfl rfl ?_
            refine z_bipush (v := 24) rfl (by decide) ?_
            refine z_icmp_ne rfl (fun c91 => absurd rfl c91) (fun c91 => ?_)
            refine z_aload_n rfl rfl ?_
            refine z_iconst (v := 4) rfl (by decide) ?_
            refine z_bipush (v := 24) rfl (by decide) ?_
            refine z_callV (av := [_, _]) rfl z_w165 hM.1 rfl rfl rfl rfl rfl (Nat.le_of_ble_eq_true rfl) (Nat.le_of_ble_eq_true rfl) (Nat.le_of_ble_eq_true rfl) (Nat.le_of_ble_eq_true rfl) (cM_refused hM (fun h9 hM9 hF9 => ?_))
            refine z_iret rfl rfl ?_
            exact q.1 (4, 24) ((if_neg n1).trans ((if_neg n2).trans ((if_neg e3).trans ((if_neg e4).trans (if_pos e6))))) _ hM9 ((z_Fr.refl _ _ _).trans hF9)
          · skip
            refine z_iload_n rfl rfl ?_
            refine z_callS (av := [_]) rfl z_w171 rfl rfl rfl rfl (Nat.le_of_ble_eq_true rfl) (Nat.le_of_ble_eq_true rfl) (Nat.le_of_ble_eq_true rfl) (Nat.le_of_ble_eq_true rfl) (cM_isKey ?_)
            rw [e1]
            refine z_if_ne rfl (fun c4 => ?_) (fun c4 => absurd c4 (by decide))
            refine z_aload_n rfl rfl ?_
            refine z_iload_n rfl rfl ?_
            refine z_callV (av := [_]) rfl z_w169 hM.1 rfl rfl rfl rfl rfl (Nat.le_of_ble_eq_true rfl) (Nat.le_of_ble_eq_true rfl) (Nat.le_of_ble_eq_true rfl) (Nat.le_of_ble_eq_true rfl) (cM_isClock hM hg hw.wz ?_)
            rw [e2]
            refine z_if_ne rfl (fun c19 => ?_) (fun c19 => absurd c19 (by decide))
            refine z_aload_n rfl rfl ?_
            refine z_get rfl hM.1 rfl ?_
            refine z_bipush (v := 42) rfl (by decide) ?_
            refine z_iload_n rfl rfl ?_
            refine z_iadd rfl ?_
            refine z_ildE rfl (hM.2 1 (by decide)) (nI_add 42 (i)) (show _ < 105 by omega) ?_
            rw [ek]
            refine z_iconst (v := 1) rfl (by decide) ?_
            refine z_isub rfl ?_
            rw [z_add_1, ep]
            refine z_istore_n rfl (by decide +kernel) rfl ?_
            refine z_iload_n rfl rfl ?_
            refine z_iconst (v := (-1)) rfl (by decide) ?_
            refine z_icmp_ne rfl (fun c43 => ?_) (fun c43 => absurd c43 (fun q9 => e3 (ep.trans q9)))
            refine z_aload_n rfl rfl ?_
            refine z_iload_n rfl rfl ?_
            refine z_iload_n rfl rfl ?_
            refine z_callV (av := [_, _]) rfl z_w174 hM.1 rfl rfl rfl rfl rfl (Nat.le_of_ble_eq_true rfl) (Nat.le_of_ble_eq_true rfl) (Nat.le_of_ble_eq_true rfl) (Nat.le_of_ble_eq_true rfl) (cM_clocksApart hM hg hw hp hj ?_)
            refine z_istore rfl (by decide +kernel) rfl ?_
            refine z_iload rfl rfl ?_
            refine z_iconst (v := 5) rfl (by decide) ?_
            refine z_icmp_le rfl (fun c64 => ?_) (fun c64 => absurd e5 c64)
            refine z_aload_n rfl rfl ?_
            refine z_get rfl hM.1 rfl ?_
            refine z_bipush (v := 18) rfl (by decide) ?_
            refine z_iload_n rfl rfl ?_
            refine z_iadd rfl ?_
            refine z_ildE rfl (hM.2 1 (by decide)) (nI_add 18 (j)) (show _ < 105 by omega) ?_
            rw [es]
            refine z_istore rfl (by decide +kernel) rfl ?_
            refine z_iload rfl rfl ?_
            refine z_bipush (v := 24) rfl (by decide) ?_
            refine z_icmp_ne rfl (fun c91 => ?_) (fun c91 => absurd c91 e6)
            refine z_aload_n rfl rfl ?_
            refine z_get rfl hM.1 rfl ?_
            refine z_bipush (v := 18) rfl (by decide) ?_
            refine z_iload_n rfl rfl ?_
            refine z_iadd rfl ?_
            refine z_bipush (v := 24) rfl (by decide) ?_
            refine z_istM (j := 1) rfl hM (by decide) (nI_add 18 (j)) (show _ < 105 by omega) (fun h1 hC1 hF1 => ?_)
            refine z_aload_n rfl rfl ?_
            refine z_get rfl hC1.1 rfl ?_
            refine z_bipush (v := 8) rfl (by decide) ?_
            refine z_dup2 rfl rfl rfl ?_
            refine z_ildE rfl (hC1.2 1 (by decide)) (k := 8) rfl (show _ < 105 by omega) ?_
            refine z_iconst (v := 1) rfl (by decide) ?_
            refine z_iadd rfl ?_
            refine z_istM (j := 1) rfl hC1 (by decide) (k := 8) rfl (show _ < 105 by omega) (fun h2 hC2 hF2 => ?_)
            refine z_aload_n rfl rfl ?_
            refine z_iload rfl rfl ?_
            refine z_callV (av := [_]) rfl z_w163 hC2.1 rfl rfl rfl rfl rfl (Nat.le_of_ble_eq_true rfl) (Nat.le_of_ble_eq_true rfl) (Nat.le_of_ble_eq_true rfl) (Nat.le_of_ble_eq_true rfl) (cM_done hC2 (fun h9 hM9 hF9 => ?_))
            refine z_iret rfl rfl ?_
            refine q.2 ((if_neg n1).trans ((if_neg n2).trans ((if_neg e3).trans ((if_neg e4).trans (if_neg e6))))) _ _ hM9 ⟨fun i hi => if_neg hi, rfl, fun j hj => by simp [z_mF, z_mS, hj]⟩ ?_ ((hF1.trans hF2).trans hF9)
            have g1 := hg.putC hw.wz (j := 1) (x := 24) (by decide) hj
            have w1 := hw.putC (j := 1) (x := 24) (by decide) hj (fun e => absurd e (by decide)) (fun _ => ⟨24, by decide, rfl⟩) (fun e => absurd e (by decide))
            have g2 := g1.cnt w1.wz (k := 5) (x := v.2.2 5 + 1) (by decide) (by decide) (by decide)
            have e7 : m.2 1 8 = v.2.2 5 := hg.2.1.1 5 (by decide)
            have e8 : upd (m.2 1) (18 + j) 24 8 = v.2.2 5 := (z_updN _ _ (by omega)).trans e7
            refine (congrArg (z_gOk _) ?_).mp g2
            show upd _ _ (v.2.2 5 + 1) = upd _ _ (upd (m.2 1) (18 + j) 24 8 + 1)
            rw [e8]; rfl
theorem cM_moves {c s t u : Int32} (hM : z_Mo h a m) (hg : z_gOk v (m.2 1)) (hw : z_wf v) (q : z_opQ v (4, c, s, t, u) h a m Q) : z_W G 2 0 0 185 0 (z_L0 185 [.ref a, .int c, .int s]) [] h Q := by
  have h8 := hw.nc
  cases e1 : z_has c (v.1.1 0) with
  | false =>
    refine z_aload_n rfl rfl ?_
    refine z_iload_n rfl rfl ?_
    refine z_callV (av := [_]) rfl z_w169 hM.1 rfl rfl rfl rfl rfl (Nat.le_of_ble_eq_true rfl) (Nat.le_of_ble_eq_true rfl) (Nat.le_of_ble_eq_true rfl) (Nat.le_of_ble_eq_true rfl) (cM_isClock hM hg hw.wz ?_)
    rw [e1]
    refine z_if_ne rfl (fun c5 => absurd (by decide) c5) (fun c5 => ?_)
    refine z_aload_n rfl rfl ?_
    refine z_iconst (v := 2) rfl (by decide) ?_
    refine z_iload_n rfl rfl ?_
    refine z_callV (av := [_, _]) rfl z_w165 hM.1 rfl rfl rfl rfl rfl (Nat.le_of_ble_eq_true rfl) (Nat.le_of_ble_eq_true rfl) (Nat.le_of_ble_eq_true rfl) (Nat.le_of_ble_eq_true rfl) (cM_refused hM (fun h9 hM9 hF9 => ?_))
    refine z_iret rfl rfl ?_
    exact q.1 (2, c) (if_pos e1) _ hM9 ((z_Fr.refl _ _ _).trans hF9)
  | true =>
    obtain ⟨j, hj, rfl⟩ := z_hasE (by omega) e1
    have n1 : ¬ z_has (nI j) (v.1.1 0) = false := by rw [e1]; exact Bool.noConfusion
    have es : m.2 1 (18 + j) = z_a v.1 1 (nI j) := hg.cl hw.wz (j := 1) (by decide) hj
    have et : m.2 1 (10 + j) = z_a v.1 0 (nI j) := hg.cl hw.wz (j := 0) (by decide) hj
    obtain ⟨p, hp, ep⟩ := hw.sp hj
    obtain ⟨x, hx, ex⟩ := hw.se hj
    cases e2 : z_inR s 1 59 with
    | false =>
      refine z_aload_n rfl rfl ?_
      refine z_iload_n rfl rfl ?_
      refine z_callV (av := [_]) rfl z_w169 hM.1 rfl rfl rfl rfl rfl (Nat.le_of_ble_eq_true rfl) (Nat.le_of_ble_eq_true rfl) (Nat.le_of_ble_eq_true rfl) (Nat.le_of_ble_eq_true rfl) (cM_isClock hM hg hw.wz ?_)
      rw [e1]
      refine z_if_ne rfl (fun c5 => ?_) (fun c5 => absurd c5 (by decide))
      refine z_iload_n rfl rfl ?_
      refine z_iconst (v := 1) rfl (by decide) ?_
      refine z_bipush (v := 59) rfl (by decide) ?_
      refine z_callS (av := [_, _, _]) rfl z_w162 rfl rfl rfl rfl (Nat.le_of_ble_eq_true rfl) (Nat.le_of_ble_eq_true rfl) (Nat.le_of_ble_eq_true rfl) (Nat.le_of_ble_eq_true rfl) (cM_in ?_)
      rw [e2]
      refine z_if_ne rfl (fun c22 => absurd (by decide) c22) (fun c22 => ?_)
      refine z_aload_n rfl rfl ?_
      refine z_iconst (v := 3) rfl (by decide) ?_
      refine z_iload_n rfl rfl ?_
      refine z_callV (av := [_, _]) rfl z_w165 hM.1 rfl rfl rfl rfl rfl (Nat.le_of_ble_eq_true rfl) (Nat.le_of_ble_eq_true rfl) (Nat.le_of_ble_eq_true rfl) (Nat.le_of_ble_eq_true rfl) (cM_refused hM (fun h9 hM9 hF9 => ?_))
      refine z_iret rfl rfl ?_
      exact q.1 (3, s) ((if_neg n1).trans (if_pos (z_inN e2))) _ hM9 ((z_Fr.refl _ _ _).trans hF9)
    | true =>
      obtain ⟨k, hk1, hk2, rfl⟩ := z_inE (lo := 1) (hi := 59) (by decide) (by decide) e2
      have n2 := z_inY e2
      have ed : nI k / 10 = nI (k / 10) := pk_div (d := 10) (by omega) (by decide) (by decide)
      by_cases e3 : z_a v.1 1 (nI j) = 0
      · skip
        refine z_aload_n rfl rfl ?_
        refine z_iload_n rfl rfl ?_
        refine z_callV (av := [_]) rfl z_w169 hM.1 rfl rfl rfl rfl rfl (Nat.le_of_ble_eq_true rfl) (Nat.le_of_ble_eq_true rfl) (Nat.le_of_ble_eq_true rfl) (Nat.le_of_ble_eq_true rfl) (cM_isClock hM hg hw.wz ?_)
        rw [e1]
        refine z_if_ne rfl (fun c5 => ?_) (fun c5 => absurd c5 (by decide))
        refine z_iload_n rfl rfl ?_
        refine z_iconst (v := 1) rfl (by decide) ?_
        refine z_bipush (v := 59) rfl (by decide) ?_
        refine z_callS (av := [_, _, _]) rfl z_w162 rfl rfl rfl rfl (Nat.le_of_ble_eq_true rfl) (Nat.le_of_ble_eq_true rfl) (Nat.le_of_ble_eq_true rfl) (Nat.le_of_ble_eq_true rfl) (cM_in ?_)
        rw [e2]
        refine z_if_ne rfl (fun c22 => ?_) (fun c22 => absurd c22 (by decide))
        refine z_aload_n rfl rfl ?_
        refine z_get rfl hM.1 rfl ?_
        refine z_bipush (v := 18) rfl (by decide) ?_
        refine z_iload_n rfl rfl ?_
        refine z_iadd rfl ?_
        refine z_ildE rfl (hM.2 1 (by decide)) (nI_add 18 (j)) (show _ < 105 by omega) ?_
        rw [es, e3]
        refine z_if_ne rfl (fun c41 => absurd rfl c41) (fun c41 => ?_)
        refine z_aload_n rfl rfl ?_
        refine z_bipush (v := 7) rfl (by decide) ?_
        refine z_aload_n rfl rfl ?_
        refine z_get rfl hM.1 rfl ?_
        refine z_bipush (v := 10) rfl (by decide) ?_
        refine z_iload_n rfl rfl ?_
        refine z_iadd rfl ?_
        refine z_ildE rfl (hM.2 1 (by decide)) (nI_add 10 (j)) (show _ < 105 by omega) ?_
        rw [et]
        refine z_callV (av := [_, _]) rfl z_w165 hM.1 rfl rfl rfl rfl rfl (Nat.le_of_ble_eq_true rfl) (Nat.le_of_ble_eq_true rfl) (Nat.le_of_ble_eq_true rfl) (Nat.le_of_ble_eq_true rfl) (cM_refused hM (fun h9 hM9 hF9 => ?_))
        refine z_iret rfl rfl ?_
        exact q.1 (7, _) ((if_neg n1).trans ((if_neg n2).trans (if_pos e3))) _ hM9 ((z_Fr.refl _ _ _).trans hF9)
      · by_cases e4 : k / 10 + 1 ≤ p
        · have e5 : nI k / 10 + 1 ≤ z_a v.1 1 (nI j) := by rw [ed, nI_1, ep]; exact (nI_leI (by omega) (by omega)).mpr e4
          refine z_aload_n rfl rfl ?_
          refine z_iload_n rfl rfl ?_
          refine z_callV (av := [_]) rfl z_w169 hM.1 rfl rfl rfl rfl rfl (Nat.le_of_ble_eq_true rfl) (Nat.le_of_ble_eq_true rfl) (Nat.le_of_ble_eq_true rfl) (Nat.le_of_ble_eq_true rfl) (cM_isClock hM hg hw.wz ?_)
          rw [e1]
          refine z_if_ne rfl (fun c5 => ?_) (fun c5 => absurd c5 (by decide))
          refine z_iload_n rfl rfl ?_
          refine z_iconst (v := 1) rfl (by decide) ?_
          refine z_bipush (v := 59) rfl (by decide) ?_
          refine z_callS (av := [_, _, _]) rfl z_w162 rfl rfl rfl rfl (Nat.le_of_ble_eq_true rfl) (Nat.le_of_ble_eq_true rfl) (Nat.le_of_ble_eq_true rfl) (Nat.le_of_ble_eq_true rfl) (cM_in ?_)
          rw [e2]
          refine z_if_ne rfl (fun c22 => ?_) (fun c22 => absurd c22 (by decide))
          refine z_aload_n rfl rfl ?_
          refine z_get rfl hM.1 rfl ?_
          refine z_bipush (v := 18) rfl (by decide) ?_
          refine z_iload_n rfl rfl ?_
          refine z_iadd rfl ?_
          refine z_ildE rfl (hM.2 1 (by decide)) (nI_add 18 (j)) (show _ < 105 by omega) ?_
          rw [es]
          refine z_if_ne rfl (fun c41 => ?_) (fun c41 => absurd c41 e3)
          refine z_iconst (v := 1) rfl (by decide) ?_
          refine z_iload_n rfl rfl ?_
          refine z_bipush (v := 10) rfl (by decide) ?_
          refine z_idiv rfl (by decide) ?_
          refine z_iadd rfl ?_
          rw [Int32.add_comm 1]
          refine z_istore_n rfl (by decide +kernel) rfl ?_
          refine z_aload_n rfl rfl ?_
          refine z_get rfl hM.1 rfl ?_
          refine z_bipush (v := 18) rfl (by decide) ?_
          refine z_iload_n rfl rfl ?_
          refine z_iadd rfl ?_
          refine z_ildE rfl (hM.2 1 (by decide)) (nI_add 18 (j)) (show _ < 105 by omega) ?_
          rw [es]
          refine z_iload_n rfl rfl ?_
          refine z_icmp_ge rfl (fun c77 => ?_) (fun c77 => absurd e5 c77)
          refine z_aload_n rfl rfl ?_
          refine z_get rfl hM.1 rfl ?_
          refine z_bipush (v := 18) rfl (by decide) ?_
          refine z_iload_n rfl rfl ?_
          refine z_iadd rfl ?_
          refine z_dup2 rfl rfl rfl ?_
          refine z_ildE rfl (hM.2 1 (by decide)) (nI_add 18 (j)) (show _ < 105 by omega) ?_
          refine z_iload_n rfl rfl ?_
          rw [es]
          refine z_isub rfl ?_
          refine z_istM (j := 1) rfl hM (by decide) (nI_add 18 (j)) (show _ < 105 by omega) (fun h1 hC1 hF1 => ?_)
          refine z_aload_n rfl rfl ?_
          refine z_get rfl hC1.1 rfl ?_
          refine z_bipush (v := 10) rfl (by decide) ?_
          refine z_iload_n rfl rfl ?_
          refine z_iadd rfl ?_
          refine z_aload_n rfl rfl ?_
          refine z_get rfl hC1.1 rfl ?_
          refine z_bipush (v := 10) rfl (by decide) ?_
          refine z_iload_n rfl rfl ?_
          refine z_iadd rfl ?_
          refine z_ildE rfl (hC1.2 1 (by decide)) (nI_add 10 (j)) (show _ < 105 by omega) ?_
          have ey : (z_mF m 1 (upd (m.2 1) (18 + j) (z_a v.1 1 (nI j) - (nI k / 10 + 1)))).2 1 (10 + j) = z_a v.1 0 (nI j) := (z_updN _ _ (by omega)).trans et
          rw [ey]
          refine z_iload_n rfl rfl ?_
          refine z_iadd rfl ?_
          refine z_bipush (v := 60) rfl (by decide) ?_
          refine z_irem rfl (by decide) ?_
          refine z_istM (j := 1) rfl hC1 (by decide) (nI_add 10 (j)) (show _ < 105 by omega) (fun h2 hC2 hF2 => ?_)
          refine z_aload_n rfl rfl ?_
          refine z_aload_n rfl rfl ?_
          refine z_get rfl hC2.1 rfl ?_
          refine z_bipush (v := 10) rfl (by decide) ?_
          refine z_iload_n rfl rfl ?_
          refine z_iadd rfl ?_
          refine z_ildE rfl (hC2.2 1 (by decide)) (nI_add 10 (j)) (show _ < 105 by omega) ?_
          refine z_callV (av := [_]) rfl z_w163 hC2.1 rfl rfl rfl rfl rfl (Nat.le_of_ble_eq_true rfl) (Nat.le_of_ble_eq_true rfl) (Nat.le_of_ble_eq_true rfl) (Nat.le_of_ble_eq_true rfl) (cM_done hC2 (fun h9 hM9 hF9 => ?_))
          refine z_iret rfl rfl ?_
          have e0 := hw.sc (j := 0) (by decide)
          have es1 := hw.sc (j := 1) (by decide)
          have er : z_a (z_do v (4, nI j, nI k, t, u)).1.1 0 (nI j) = z_m60 (z_a v.1 0 (nI j) + nI k) := z_aPut (x := z_putL v.1 1 (nI j) (z_a v.1 1 (nI j) + -(nI k / 10 + 1))) (j := 0) hj (show v.1.1 0 < 1000 by omega)
          have g1 := hg.putC hw.wz (j := 1) (x := z_a v.1 1 (nI j) + -(nI k / 10 + 1)) (by decide) hj
          have w1 := hw.putC (j := 1) (x := z_a v.1 1 (nI j) + -(nI k / 10 + 1)) (by decide) hj (fun e => absurd e (by decide)) (fun _ => ⟨p - (k / 10 + 1), by omega, by rw [ep, ed, nI_1, ← Int32.sub_eq_add_neg, pk_sub e4]⟩) (fun e => absurd e (by decide))
          have g2 := g1.putC w1.wz (j := 0) (x := z_m60 (z_a v.1 0 (nI j) + nI k)) (by decide) hj
          refine (congrArg (fun z : Int32 => Q (.inl (some (.int z))) h9) ?_).mp (q.2 ((if_neg n1).trans ((if_neg n2).trans ((if_neg e3).trans (if_pos e5)))) _ _ hM9 ⟨fun i hi => if_neg hi, rfl, fun j hj => by simp [z_mF, z_mS, hj]⟩ ?_ ((hF1.trans hF2).trans hF9))
          · exact er.trans (z_updE (α := Nat) _ _ _).symm
          · refine (congrArg (z_gOk _) ?_).mp g2
            rw [Int32.sub_eq_add_neg (z_a v.1 1 (nI j))]; rfl
        · have e5 : ¬ nI k / 10 + 1 ≤ z_a v.1 1 (nI j) := by rw [ed, nI_1, ep]; exact fun q9 => e4 ((nI_leI (by omega) (by omega)).mp q9)
          refine z_aload_n rfl rfl ?_
          refine z_iload_n rfl rfl ?_
          refine z_callV (av := [_]) rfl z_w169 hM.1 rfl rfl rfl rfl rfl (Nat.le_of_ble_eq_true rfl) (Nat.le_of_ble_eq_true rfl) (Nat.le_of_ble_eq_true rfl) (Nat.le_of_ble_eq_true rfl) (cM_isClock hM hg hw.wz ?_)
          rw [e1]
          refine z_if_ne rfl (fun c5 => ?_) (fun c5 => absurd c5 (by decide))
          refine z_iload_n rfl rfl ?_
          refine z_iconst (v := 1) rfl (by decide) ?_
          refine z_bipush (v := 59) rfl (by decide) ?_
          refine z_callS (av := [_, _, _]) rfl z_w162 rfl rfl rfl rfl (Nat.le_of_ble_eq_true rfl) (Nat.le_of_ble_eq_true rfl) (Nat.le_of_ble_eq_true rfl) (Nat.le_of_ble_eq_true rfl) (cM_in ?_)
          rw [e2]
          refine z_if_ne rfl (fun c22 => ?_) (fun c22 => absurd c22 (by decide))
          refine z_aload_n rfl rfl ?_
          refine z_get rfl hM.1 rfl ?_
          refine z_bipush (v := 18) rfl (by decide) ?_
          refine z_iload_n rfl rfl ?_
          refine z_iadd rfl ?_
          refine z_ildE rfl (hM.2 1 (by decide)) (nI_add 18 (j)) (show _ < 105 by omega) ?_
          rw [es]
          refine z_if_ne rfl (fun c41 => ?_) (fun c41 => absurd c41 e3)
          refine z_iconst (v := 1) rfl (by decide) ?_
          refine z_iload_n rfl rfl ?_
          refine z_bipush (v := 10) rfl (by decide) ?_
          refine z_idiv rfl (by decide) ?_
          refine z_iadd rfl ?_
          rw [Int32.add_comm 1]
          refine z_istore_n rfl (by decide +kernel) rfl ?_
          refine z_aload_n rfl rfl ?_
          refine z_get rfl hM.1 rfl ?_
          refine z_bipush (v := 18) rfl (by decide) ?_
          refine z_iload_n rfl rfl ?_
          refine z_iadd rfl ?_
          refine z_ildE rfl (hM.2 1 (by decide)) (nI_add 18 (j)) (show _ < 105 by omega) ?_
          rw [es]
          refine z_iload_n rfl rfl ?_
          refine z_icmp_ge rfl (fun c77 => absurd c77 e5) (fun c77 => ?_)
          refine z_aload_n rfl rfl ?_
          refine z_bipush (v := 6) rfl (by decide) ?_
          refine z_aload_n rfl rfl ?_
          refine z_get rfl hM.1 rfl ?_
          refine z_bipush (v := 18) rfl (by decide) ?_
          refine z_iload_n rfl rfl ?_
          refine z_iadd rfl ?_
          refine z_ildE rfl (hM.2 1 (by decide)) (nI_add 18 (j)) (show _ < 105 by omega) ?_
          rw [es]
          refine z_callV (av := [_, _]) rfl z_w165 hM.1 rfl rfl rfl rfl rfl (Nat.le_of_ble_eq_true rfl) (Nat.le_of_ble_eq_true rfl) (Nat.le_of_ble_eq_true rfl) (Nat.le_of_ble_eq_true rfl) (cM_refused hM (fun h9 hM9 hF9 => ?_))
          refine z_iret rfl rfl ?_
          exact q.1 (6, _) ((if_neg n1).trans ((if_neg n2).trans ((if_neg e3).trans (if_neg e5)))) _ hM9 ((z_Fr.refl _ _ _).trans hF9)
end ZOpB
