/-! The orders of a text as a list. -/
def z_plO (l : List Nat) : Nat → Nat → List z_OV
  | 0, _ => []
  | n + 1, p => (z_rdO l p z_oN0).2.2 :: (if z_here l (z_rdO l p z_oN0).2.1 = 59 then z_plO l n ((z_rdO l p z_oN0).2.1 + 1) else [])
def z_rnO : List z_OV → Nat → z_HV → Option (Int32 × Int32) × Nat × z_HV
  | [], dn, v => (none, dn, v)
  | o :: os, dn, v => match z_ref v o with
    | some pr => (some pr, dn, v)
    | none => z_rnO os (dn + 1) (z_do v o).1
theorem z_rdO0 {l : List Nat} {p : Nat} {o : z_OV} (h : (z_rdO l p o).1 = true) : z_here l p ≠ 0 := fun e => by
  unfold z_rdO at h
  rw [e, show z_knd 0 = none by decide] at h
  exact Bool.noConfusion h
theorem z_rdOup {l : List Nat} {p : Nat} {o : z_OV} (h : (z_rdO l p o).1 = true) : p + 1 ≤ (z_rdO l p o).2.1 := by
  have hlt : p < l.length := z_hereP (z_rdO0 h)
  have key : ∀ k x cs, z_knd x = some k → z_frm k = x :: cs → (x ≠ 63 ∧ x ≠ 68 ∧ x ≠ 78 ∧ x ≠ 75) → z_here l p = x → (∀ c ∈ cs, c ≠ 0) → p + 1 ≤ (z_rdO l p o).2.1 := fun k x cs h1 h2 h3 h4 h5 => by
    rw [z_rdOk h1 h2 h3 h4]
    exact (z_rdFP cs h5 (p + 1) _ (by omega)).2
  cases hk : z_knd (z_here l p) with
  | none =>
    unfold z_rdO at h
    rw [hk] at h
    exact Bool.noConfusion h
  | some i =>
    have hk2 := hk
    unfold z_knd at hk2
    obtain ⟨f1, _, f3⟩ := z_firstP _ _ hk2
    have f1 := of_decide_eq_true f1
    rcases (show i = 0 ∨ i = 1 ∨ i = 2 ∨ i = 3 ∨ i = 4 ∨ i = 5 ∨ i = 6 ∨ i = 7 ∨ i = 8 ∨ i = 9 by omega) with rfl | rfl | rfl | rfl | rfl | rfl | rfl | rfl | rfl | rfl
    · exact key 0 99 _ (by decide) rfl (by decide) f1.symm (by decide)
    · exact key 1 108 _ (by decide) rfl (by decide) f1.symm (by decide)
    · exact key 2 107 _ (by decide) rfl (by decide) f1.symm (by decide)
    · exact key 3 119 _ (by decide) rfl (by decide) f1.symm (by decide)
    · exact key 4 109 _ (by decide) rfl (by decide) f1.symm (by decide)
    · exact key 5 98 _ (by decide) rfl (by decide) f1.symm (by decide)
    · exact key 6 97 _ (by decide) rfl (by decide) f1.symm (by decide)
    · exact key 7 100 _ (by decide) rfl (by decide) f1.symm (by decide)
    · exact key 8 118 _ (by decide) rfl (by decide) f1.symm (by decide)
    · exact key 9 104 _ (by decide) rfl (by decide) f1.symm (by decide)
theorem z_nx0E (l : List Nat) (p : Nat) : z_nx0 l p = if z_here l p = 59 then p + 1 else p := by
  unfold z_nx0 z_skp
  split <;> rfl
theorem z_rnE {l : List Nat} : ∀ (n p q dn : Nat) (v : z_HV), z_flt l n p = none → z_nx0 l q = p → z_rnL l n q dn v = z_rnO (z_plO l n p) dn v := by
  intro n
  induction n with
  | zero => intro p q dn v h; exact absurd (show some p = none from h) (by simp)
  | succ n ih =>
    intro p q dn v h hq
    rw [z_flt_s] at h
    by_cases c : (z_rdO l p z_oN0).1 = true
    · rw [if_pos c] at h
      have e0 := z_rdO0 c
      have en : z_nxt l q z_oN0 = z_rdO l p z_oN0 := by
        unfold z_nxt
        rw [hq, if_neg e0]
      rw [z_rnL_s, en, if_pos c]
      show _ = (match z_ref v (z_rdO l p z_oN0).2.2 with
        | some pr => (some pr, dn, v)
        | none => z_rnO (if z_here l (z_rdO l p z_oN0).2.1 = 59 then z_plO l n ((z_rdO l p z_oN0).2.1 + 1) else []) (dn + 1) (z_do v (z_rdO l p z_oN0).2.2).1)
      cases z_ref v (z_rdO l p z_oN0).2.2 with
      | some pr => rfl
      | none =>
        show z_rnL l n (z_rdO l p z_oN0).2.1 (dn + 1) (z_do v (z_rdO l p z_oN0).2.2).1 = _
        by_cases c0 : z_here l (z_rdO l p z_oN0).2.1 = 0
        · show _ = z_rnO (if z_here l (z_rdO l p z_oN0).2.1 = 59 then _ else []) (dn + 1) _
          rw [if_neg (by omega)]
          cases n with
          | zero => rfl
          | succ n =>
            have ex : z_nxt l (z_rdO l p z_oN0).2.1 z_oN0 = (false, (z_rdO l p z_oN0).2.1, z_oN0) := by
              have ez : z_nx0 l (z_rdO l p z_oN0).2.1 = (z_rdO l p z_oN0).2.1 := by rw [z_nx0E, if_neg (by omega)]
              unfold z_nxt
              rw [ez, if_pos c0]
            rw [z_rnL_s, ex, if_neg Bool.false_ne_true]
            rfl
        · rw [if_neg c0] at h
          by_cases c1 : z_here l (z_rdO l p z_oN0).2.1 = 59
          · rw [if_pos c1] at h
            show _ = z_rnO (if z_here l (z_rdO l p z_oN0).2.1 = 59 then _ else []) (dn + 1) _
            rw [if_pos c1]
            exact ih _ _ _ _ h (by rw [z_nx0E, if_pos c1])
          · rw [if_neg c1] at h; exact absurd h (by simp)
    · rw [if_neg c] at h; exact absurd h (by simp)
