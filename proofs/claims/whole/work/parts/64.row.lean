/-! The row after hours, told without letting them go by; majorities told twice. -/
theorem z_cnt_add {P Q R : Nat → Bool} : ∀ n, (∀ j, j < n → (if R j = true then 1 else 0) = (if P j = true then 1 else 0) + (if Q j = true then 1 else (0 : Nat))) → z_cnt R n = z_cnt P n + z_cnt Q n := by
  intro n
  induction n with
  | zero => intro _; rfl
  | succ n ih =>
    intro h
    rw [z_cnt_s, z_cnt_s, z_cnt_s, ih (fun j hj => h j (by omega)), h n (by omega)]
    omega
theorem z_cnt_res {P : Nat → Bool} {b : Nat} : ∀ n, b ≤ n → z_cnt (fun o => P o && decide (o < b)) n = z_cnt P b := by
  intro n
  induction n with
  | zero => intro hb; rw [show b = 0 by omega]; rfl
  | succ n ih =>
    intro hb
    by_cases e : b = n + 1
    · rw [e]
      exact z_cnt_c _ (fun j hj => by rw [decide_eq_true hj, Bool.and_true])
    · rw [z_cnt_s, ih (by omega), decide_eq_false (by omega), Bool.and_false]
      rfl
def z_aN (H : Nat → Nat) (nb n b : Nat) : Nat := z_cnt (fun o => decide (0 < H o) && (decide (H o ≤ n) && (decide (H b < H o) || (decide (H o = H b) && decide (o < b))))) nb
theorem z_aN_s {H : Nat → Nat} {nb n b : Nat} (hb : H b ≤ n) : z_aN H nb (n + 1) b = z_cnt (fun o => decide (H o = n + 1)) nb + z_aN H nb n b := by
  refine z_cnt_add nb (fun j hj => ?_)
  by_cases e : H j = n + 1
  · rw [if_pos, if_pos (decide_eq_true e), if_neg]
    · rw [decide_eq_false (show ¬ H j ≤ n by omega), Bool.false_and, Bool.and_false]; exact Bool.noConfusion
    · rw [decide_eq_true (show 0 < H j by omega), decide_eq_true (show H j ≤ n + 1 by omega), decide_eq_true (show H b < H j by omega)]; rfl
  · rw [if_neg (show ¬ decide (H j = n + 1) = true from fun q => e (of_decide_eq_true q)), show decide (H j ≤ n + 1) = decide (H j ≤ n) from decide_eq_decide.mpr (by omega)]
    omega
theorem z_aN_n {H : Nat → Nat} {nb n b : Nat} (hb : b < nb) (e : H b = n + 1) : z_aN H nb (n + 1) b = z_cnt (fun o => decide (H o = n + 1)) b := by
  rw [← z_cnt_res nb (by omega)]
  refine z_cnt_c nb (fun j hj => ?_)
  show (decide (0 < H j) && (decide (H j ≤ n + 1) && (decide (H b < H j) || (decide (H j = H b) && decide (j < b))))) = (decide (H j = n + 1) && decide (j < b))
  rw [e]
  by_cases c : H j = n + 1
  · rw [decide_eq_true c, decide_eq_true (show 0 < H j by omega), decide_eq_true (show H j ≤ n + 1 by omega), decide_eq_false (show ¬ n + 1 < H j by omega)]; rfl
  · rw [decide_eq_false c, Bool.false_and, Bool.or_false]
    by_cases c2 : H j ≤ n + 1
    · rw [decide_eq_false (show ¬ n + 1 < H j by omega), Bool.and_false, Bool.and_false]
    · rw [decide_eq_false c2, Bool.false_and, Bool.and_false]
theorem z_hrsR {v : z_HV} (h : z_wf v) {H : Nat → Nat} (hH : ∀ b, b < v.2.1.1 0 → v.2.1.2 3 b = nI (H b) ∧ H b < 13) : ∀ n b, b < v.2.1.1 0 → H b ≤ n → (0 < H b → z_aN H (v.2.1.1 0) n b < (z_hrs v n).2.1.1 5 ∧ (z_hrs v n).2.1.2 5 (z_aN H (v.2.1.1 0) n b) = nI b) ∧ ∀ r, r < v.2.1.1 5 → v.2.1.2 5 r = nI b → H b = 0 → z_aN H (v.2.1.1 0) n b + r < (z_hrs v n).2.1.1 5 ∧ (z_hrs v n).2.1.2 5 (z_aN H (v.2.1.1 0) n b + r) = nI b := by
  intro n
  induction n with
  | zero =>
    intro b hb hn
    have a0 : z_aN H (v.2.1.1 0) 0 b = 0 := by
      unfold z_aN
      refine (z_cnt_c (P' := fun _ => false) _ (fun j hj => ?_)).trans ?_
      · by_cases c : 0 < H j
        · rw [decide_eq_false (show ¬ H j ≤ 0 by omega), Bool.false_and, Bool.and_false]
        · rw [decide_eq_false c, Bool.false_and]
      · generalize v.2.1.1 0 = N
        induction N with
        | zero => rfl
        | succ N ih => rw [z_cnt_s, ih]; rfl
    refine ⟨fun q => absurd q (by omega), fun r hr e _ => ?_⟩
    rw [a0, Nat.zero_add]
    exact ⟨hr, e⟩
  | succ n ih =>
    intro b hb hn
    have I := z_bpI (h.hrs n).B _ (Nat.le_refl _)
    obtain ⟨n1, n2⟩ := z_hrsN h n
    have cm : ∀ o, o < v.2.1.1 0 → z_cmB ((z_hrs v n).2.1.2 3) o = decide (H o = n + 1) := fun o ho => by
      unfold z_cmB
      rw [n2 o (H o) ho (hH o ho).1 (hH o ho).2]
      have := (hH o ho).2
      exact decide_eq_decide.mpr ((nI_eq (b := 1) (by omega) (by decide)).trans (by omega))
    have eT : z_cnt (z_cmB ((z_hrs v n).2.1.2 3)) ((z_hrs v n).2.1.1 0) = z_cnt (fun o => decide (H o = n + 1)) (v.2.1.1 0) := by
      rw [n1]; exact z_cnt_c _ cm
    have enr : (z_hrs v (n + 1)).2.1.1 5 = (z_hrs v n).2.1.1 5 + z_cnt (fun o => decide (H o = n + 1)) (v.2.1.1 0) := by rw [← eT]; exact I.nr
    by_cases e : H b = n + 1
    · refine ⟨fun _ => ?_, fun r _ _ q => absurd q (by omega)⟩
      rw [z_aN_n hb e, enr]
      have r1 := I.r1 b (by rw [n1]; exact hb) (by rw [cm b hb]; exact decide_eq_true e)
      rw [show z_cnt (z_cmB ((z_hrs v n).2.1.2 3)) b = z_cnt (fun o => decide (H o = n + 1)) b from z_cnt_c _ (fun j hj => cm j (by omega))] at r1
      have := z_cnt_strict (B := fun o => decide (H o = n + 1)) hb (decide_eq_true e)
      exact ⟨by omega, r1⟩
    · obtain ⟨p1, p2⟩ := ih b hb (by omega)
      rw [z_aN_s (by omega), enr]
      have r2 : ∀ r, r < (z_hrs v n).2.1.1 5 → (z_hrs v (n + 1)).2.1.2 5 (z_cnt (fun o => decide (H o = n + 1)) (v.2.1.1 0) + r) = (z_hrs v n).2.1.2 5 r := fun r hr => by
        have := I.r2 r hr
        rw [eT] at this
        exact this
      refine ⟨fun q => ?_, fun r hr er q => ?_⟩
      · obtain ⟨q1, q2⟩ := p1 q
        exact ⟨by omega, (r2 _ q1).trans q2⟩
      · obtain ⟨q1, q2⟩ := p2 r hr er q
        rw [Nat.add_assoc]
        exact ⟨by omega, (r2 _ q1).trans q2⟩
theorem z_ltI {a b : Nat} (ha : a < 1000) (hb : b < 1000) : decide ((0 : Int32) < nI a - nI b) = decide (b < a) := by
  refine decide_eq_decide.mpr ?_
  rw [Int32.lt_iff_toInt_lt, pk_sub_toInt (by omega) (by omega)]
  simp
theorem z_eqI {a b : Nat} (ha : a < 1000) (hb : b < 1000) : decide (nI a - nI b = 0) = decide (a = b) := by
  refine decide_eq_decide.mpr ⟨fun q => ?_, fun q => by rw [q, Int32.sub_self]⟩
  have := congrArg Int32.toInt q
  rw [pk_sub_toInt (by omega) (by omega)] at this
  simp at this
  omega
theorem z_plaE {v : z_HV} (h : z_wf v) {H : Nat → Nat} (hH : ∀ b, b < v.2.1.1 0 → v.2.1.2 3 b = nI (H b) ∧ H b < 13) {n b : Nat} (hn : n < 1000) (hb : b < v.2.1.1 0) : (n < H b → z_pla v.2.1 (nI n) (nI b) = -1) ∧ (H b ≤ n → ∃ p, p < (z_hrs v n).2.1.1 5 ∧ (z_hrs v n).2.1.2 5 p = nI b ∧ z_pla v.2.1 (nI n) (nI b) = nI p) := by
  have h10 := h.nb
  have s3 := h.sb (j := 3) (by decide)
  have ea : ∀ o, o < v.2.1.1 0 → z_a v.2.1 3 (nI o) = nI (H o) := fun o ho => by rw [z_aI (by omega) (by omega)]; exact (hH o ho).1
  have eN : z_ahN v.2.1 (nI n) (nI b) (v.2.1.1 0) = z_aN H (v.2.1.1 0) n b := by
    refine z_cnt_c _ (fun o ho => ?_)
    have q1 := (hH o ho).2
    have q2 := (hH b hb).2
    unfold z_adj z_ahd
    rw [ea o ho, ea b hb, z_ltI (by omega) (by omega), z_eqI (by omega) (by omega), show decide ((0 : Int32) < nI (H o)) = decide (0 < H o) from decide_eq_decide.mpr (nI_ltI (a := 0) (by decide) (by omega)), show decide (nI (H o) ≤ nI n) = decide (H o ≤ n) from decide_eq_decide.mpr (nI_leI (by omega) (by omega)), show decide (nI o < nI b) = decide (o < b) from decide_eq_decide.mpr (nI_ltI (by omega) (by omega))]
  unfold z_pla
  rw [ea b hb, eN]
  have q2 := (hH b hb).2
  refine ⟨fun hl => if_pos ((nI_ltI (by omega) (by omega)).mpr hl), fun hl => ?_⟩
  rw [if_neg (fun q => absurd ((nI_ltI (by omega) (by omega)).mp q) (by omega))]
  obtain ⟨p1, p2⟩ := z_hrsR h hH n b hb hl
  unfold z_adj
  rw [ea b hb]
  by_cases c : H b = 0
  · obtain ⟨r, hr, er, er2⟩ := z_plcIn h.B.2.2.2.2 (by omega) hb (by rw [(hH b hb).1, c]; rfl)
    rw [if_neg (by rw [c]; decide), er, nI_add]
    exact ⟨_, (p2 r hr er2 c).1, (p2 r hr er2 c).2, rfl⟩
  · rw [if_pos (decide_eq_true (z_pos0 (by omega) (by omega)))]
    exact ⟨_, (p1 (by omega)).1, (p1 (by omega)).2, rfl⟩
theorem z_blaE {v : z_HV} (h : z_wf v) {n : Nat} (hn : n < 1000) (pl : Int32) : z_bla v.2.1 (nI n) pl = if z_has pl ((z_hrs v n).2.1.1 5) = true then z_a (z_hrs v n).2.1 5 pl else -1 := by
  have h10 := h.nb
  have hH : ∀ b, b < v.2.1.1 0 → v.2.1.2 3 b = nI (z_ix (v.2.1.2 3 b)) ∧ z_ix (v.2.1.2 3 b) < 13 := fun b hb => by
    obtain ⟨k, hk, e, _⟩ := h.B.ho hb
    rw [e, z_ix_nI (by omega)]
    exact ⟨rfl, hk⟩
  have w := h.hrs n
  have n1 := (z_hrsN h n).1
  have hnr := w.nr
  have w10 := w.nb
  unfold z_bla
  by_cases c : pl < 0
  · rw [if_pos c, if_neg]
    intro q
    obtain ⟨k, hk, rfl⟩ := z_hasE (by omega) q
    exact nI_pos (by omega) c
  · rw [if_neg c]
    by_cases c2 : z_has pl ((z_hrs v n).2.1.1 5) = true
    · rw [if_pos c2]
      obtain ⟨r, hr, rfl⟩ := z_hasE (by omega) c2
      obtain ⟨b, hb, e1, e2, e3⟩ := w.row hr
      rw [e3]
      rw [n1] at hb
      have key : ∀ i, i < v.2.1.1 0 → z_pla v.2.1 (nI n) (nI i) = nI r → i = b := fun i hi e => by
        obtain ⟨k1, k2⟩ := z_plaE h hH hn hi
        by_cases l : n < z_ix (v.2.1.2 3 i)
        · rw [k1 l] at e
          exact absurd e.symm (z_nm1 (by omega))
        · obtain ⟨p, hp, ep, ep2⟩ := k2 (by omega)
          rw [ep2] at e
          have : p = r := (nI_eq (by omega) (by omega)).mp e
          subst this
          exact (nI_eq (by omega) (by omega)).mp (ep.symm.trans e1)
      have hpb : z_pla v.2.1 (nI n) (nI b) = nI r := by
        have l : z_ix (v.2.1.2 3 b) ≤ n := by
          have := (z_hrsN h n).2 b _ hb (hH b hb).1 (hH b hb).2
          rw [e2] at this
          have := (nI_eq (a := 0) (by decide) (by have := (hH b hb).2; omega)).mp this
          omega
        obtain ⟨p, hp, ep, ep2⟩ := (z_plaE h hH hn hb).2 l
        rw [ep2]
        exact congrArg nI (w.B.2.2.2.2.2.1 p r hp hr (ep.trans e1.symm))
      cases ef : z_first (fun i => decide (z_pla v.2.1 (nI n) (nI i) = nI r)) (v.2.1.1 0) 0 with
      | none =>
        have := z_firstNo _ _ ef b (by omega) (by omega)
        rw [hpb] at this
        simp at this
      | some i =>
        obtain ⟨f1, f2, f3⟩ := z_firstP _ _ ef
        show nI i = nI b
        rw [key i (by omega) (of_decide_eq_true f1)]
    · rw [if_neg c2]
      cases ef : z_first (fun i => decide (z_pla v.2.1 (nI n) (nI i) = pl)) (v.2.1.1 0) 0 with
      | none => rfl
      | some i =>
        exfalso
        obtain ⟨f1, f2, f3⟩ := z_firstP _ _ ef
        have e := of_decide_eq_true f1
        obtain ⟨k1, k2⟩ := z_plaE h hH hn (b := i) (by omega)
        by_cases l : n < z_ix (v.2.1.2 3 i)
        · rw [k1 l] at e
          exact c (by rw [← e]; decide)
        · obtain ⟨p, hp, ep, ep2⟩ := k2 (by omega)
          rw [ep2] at e
          exact c2 (by rw [← e, z_has_nI (by omega)]; exact decide_eq_true hp)
/-! Majorities, by clocks and by leanings. -/
theorem z_mulS (A : Nat) (c : Int32) : nI (A + 1) * c = nI A * c + c := by rw [← nI_1, Int32.add_mul, Int32.one_mul]
theorem z_leV {k : Nat} (hk : k < 4) : (2 : Int32) * nI k - 3 = nI k - (3 - nI k) := z_lean hk
theorem z_mblE {v : z_HV} (h : z_wf v) {b : Nat} : z_mjo v.1 (z_vts v (nI b)) = z_mbl v (nI b) := by
  have h8 := h.nc
  obtain ⟨_, bc2⟩ := z_bitsP (P := fun i => z_wv v.1 (nI i) (z_a v.2.1 1 (nI b))) (n := v.1.1 0) h8
  have key : ∀ n, n ≤ v.1.1 0 → z_fold (fun m i => if z_isIn (z_vts v (nI b)) (nI i) = true then m + (z_a v.1 2 (nI i) - (3 - z_a v.1 2 (nI i))) else m) 0 n = z_fold (fun s l => s + nI (z_cnt (z_vlB v (nI b) (nI l)) n) * (2 * nI l - 3)) 0 4 := by
    intro n
    induction n with
    | zero =>
      intro _
      show (0 : Int32) = 0 + nI 0 * (2 * nI 0 - 3) + nI 0 * (2 * nI 1 - 3) + nI 0 * (2 * nI 2 - 3) + nI 0 * (2 * nI 3 - 3)
      decide
    | succ n ih =>
      intro hn
      obtain ⟨l, hl, el⟩ := h.le (c := n) (by omega)
      have e1 : z_isIn (z_vts v (nI b)) (nI n) = z_wv v.1 (nI n) (z_a v.2.1 1 (nI b)) := bc2 n (by omega)
      have st : ∀ k, k < 4 → z_cnt (z_vlB v (nI b) (nI k)) (n + 1) = z_cnt (z_vlB v (nI b) (nI k)) n + if (l = k ∧ z_wv v.1 (nI n) (z_a v.2.1 1 (nI b)) = true) then 1 else 0 := fun k hk => by
        rw [z_cnt_s]
        congr 1
        unfold z_vlB
        rw [el, show decide (nI l = nI k) = decide (l = k) from decide_eq_decide.mpr (nI_eq (by omega) (by omega))]
        by_cases c : l = k
        · rw [decide_eq_true c, Bool.true_and]
          by_cases c2 : z_wv v.1 (nI n) (z_a v.2.1 1 (nI b)) = true
          · rw [if_pos c2, if_pos ⟨c, c2⟩]
          · rw [if_neg c2, if_neg (fun q => c2 q.2)]
        · rw [decide_eq_false c, Bool.false_and, if_neg Bool.false_ne_true, if_neg (fun q => c q.1)]
      show (if z_isIn (z_vts v (nI b)) (nI n) = true then z_fold _ 0 n + (z_a v.1 2 (nI n) - (3 - z_a v.1 2 (nI n))) else z_fold _ 0 n) = _
      rw [ih (by omega), e1, el]
      show _ = 0 + nI (z_cnt (z_vlB v (nI b) (nI 0)) (n + 1)) * (2 * nI 0 - 3) + nI (z_cnt (z_vlB v (nI b) (nI 1)) (n + 1)) * (2 * nI 1 - 3) + nI (z_cnt (z_vlB v (nI b) (nI 2)) (n + 1)) * (2 * nI 2 - 3) + nI (z_cnt (z_vlB v (nI b) (nI 3)) (n + 1)) * (2 * nI 3 - 3)
      rw [st 0 (by decide), st 1 (by decide), st 2 (by decide), st 3 (by decide)]
      show (if _ then (0 + nI (z_cnt (z_vlB v (nI b) (nI 0)) n) * (2 * nI 0 - 3) + nI (z_cnt (z_vlB v (nI b) (nI 1)) n) * (2 * nI 1 - 3) + nI (z_cnt (z_vlB v (nI b) (nI 2)) n) * (2 * nI 2 - 3) + nI (z_cnt (z_vlB v (nI b) (nI 3)) n) * (2 * nI 3 - 3)) + (nI l - (3 - nI l)) else (0 + nI (z_cnt (z_vlB v (nI b) (nI 0)) n) * (2 * nI 0 - 3) + nI (z_cnt (z_vlB v (nI b) (nI 1)) n) * (2 * nI 1 - 3) + nI (z_cnt (z_vlB v (nI b) (nI 2)) n) * (2 * nI 2 - 3) + nI (z_cnt (z_vlB v (nI b) (nI 3)) n) * (2 * nI 3 - 3))) = _
      generalize z_cnt (z_vlB v (nI b) (nI 0)) n = A0
      generalize z_cnt (z_vlB v (nI b) (nI 1)) n = A1
      generalize z_cnt (z_vlB v (nI b) (nI 2)) n = A2
      generalize z_cnt (z_vlB v (nI b) (nI 3)) n = A3
      have c4 : l = 0 ∨ l = 1 ∨ l = 2 ∨ l = 3 := by omega
      by_cases c : z_wv v.1 (nI n) (z_a v.2.1 1 (nI b)) = true
      · rw [if_pos c]
        rcases c4 with rfl | rfl | rfl | rfl
        · rw [if_pos ⟨rfl, c⟩, if_neg (by omega), if_neg (by omega), if_neg (by omega), ← z_leV (k := 0) (by decide), z_mulS, Nat.add_zero, Nat.add_zero, Nat.add_zero]
          ac_rfl
        · rw [if_neg (by omega), if_pos ⟨rfl, c⟩, if_neg (by omega), if_neg (by omega), ← z_leV (k := 1) (by decide), z_mulS, Nat.add_zero, Nat.add_zero, Nat.add_zero]
          ac_rfl
        · rw [if_neg (by omega), if_neg (by omega), if_pos ⟨rfl, c⟩, if_neg (by omega), ← z_leV (k := 2) (by decide), z_mulS, Nat.add_zero, Nat.add_zero, Nat.add_zero]
          ac_rfl
        · rw [if_neg (by omega), if_neg (by omega), if_neg (by omega), if_pos ⟨rfl, c⟩, ← z_leV (k := 3) (by decide), z_mulS, Nat.add_zero, Nat.add_zero, Nat.add_zero]
          ac_rfl
      · rw [if_neg c, if_neg (fun q => c q.2), if_neg (fun q => c q.2), if_neg (fun q => c q.2), if_neg (fun q => c q.2), Nat.add_zero, Nat.add_zero, Nat.add_zero, Nat.add_zero]
  exact key _ (Nat.le_refl _)
theorem z_told1 {v : z_HV} (h : z_wf v) : ∀ i, i < v.2.1.1 0 → z_mjo v.1 (z_vts v (nI i)) = z_mbl v (nI i) := fun _ _ => z_mblE h
theorem z_told2 {v : z_HV} (h : z_wf v) : ∀ n, n ≤ 24 → ∀ i, i < 10 → z_rwA (z_hrs v n) i = z_bla v.2.1 (nI n) (nI i) := fun n hn i hi => by
  rw [z_blaE h (by omega), z_has_nI (by omega)]
  unfold z_rwA
  have := (h.hrs n).nr
  have := (h.hrs n).nb
  by_cases c : i < (z_hrs v n).2.1.1 5
  · rw [if_pos c, if_pos (decide_eq_true c), z_aI c (by omega)]
  · rw [if_neg c, if_neg (fun q => c (of_decide_eq_true q))]
theorem z_told3 {v : z_HV} (h : z_wf v) : ∀ i, i < v.2.1.1 0 → (z_plc (v.2.1.2 5) (v.2.1.1 5) (nI i) = -1 ↔ z_adj v.2.1 (nI i) = true) := fun i hi => by
  have h10 := h.nb
  have hnr := h.nr
  obtain ⟨k, hk, e1, e2⟩ := h.B.ho hi
  unfold z_adj
  rw [e2]
  by_cases c : k = 0
  · subst c
    obtain ⟨p, hp, e3, _⟩ := z_plcIn h.B.2.2.2.2 (by omega) hi e1
    rw [e3]
    exact ⟨fun q => absurd q (z_nm1 (by omega)), fun q => absurd q (by decide)⟩
  · have e3 := z_plcOut (b := i) h.B.2.2.2.2 (by omega) hi (fun q : v.2.1.2 3 i = 0 => nI_ne0 (n := k) (by omega) (by omega) (e1.symm.trans q))
    exact ⟨fun _ => decide_eq_true (z_pos0 (by omega) (by omega)), fun _ => e3⟩
