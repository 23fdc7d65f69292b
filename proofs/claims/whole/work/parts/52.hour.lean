/-! Hours: who comes back. -/
theorem z_pos0 {k : Nat} (h : 0 < k) (hk : k < 1000) : (0 : Int32) < nI k := (nI_ltI (a := 0) (by decide) (by omega)).mpr h
def z_cmB (f : Nat → Int32) (b : Nat) : Bool := decide (f b = 1)
def z_dcH (x : Int32) : Int32 := if 0 < x then x - 1 else x
theorem z_cnt_s (B : Nat → Bool) (n : Nat) : z_cnt B (n + 1) = z_cnt B n + if B n = true then 1 else 0 := rfl
theorem z_cnt_mono (B : Nat → Bool) {i j : Nat} (h : i ≤ j) : z_cnt B i ≤ z_cnt B j := by
  induction j with
  | zero => rw [show i = 0 by omega]; exact Nat.le_refl _
  | succ j ih =>
    by_cases e : i = j + 1
    · rw [e]; exact Nat.le_refl _
    · have := ih (by omega)
      rw [z_cnt_s]; omega
theorem z_cnt_strict {B : Nat → Bool} {b i : Nat} (h : b < i) (hB : B b = true) : z_cnt B b + 1 ≤ z_cnt B i := by
  have := z_cnt_mono B (show b + 1 ≤ i by omega)
  rw [z_cnt_s, if_pos hB] at this
  exact this
theorem z_cnt_hit (B : Nat → Bool) : ∀ n r, r < z_cnt B n → ∃ b, b < n ∧ B b = true ∧ z_cnt B b = r := by
  intro n
  induction n with
  | zero => intro r h; exact absurd h (Nat.not_lt_zero _)
  | succ n ih =>
    intro r h
    rw [z_cnt_s] at h
    by_cases e : r < z_cnt B n
    · obtain ⟨b, hb, h1, h2⟩ := ih r e
      exact ⟨b, by omega, h1, h2⟩
    · by_cases hB : B n = true
      · rw [if_pos hB] at h
        exact ⟨n, by omega, hB, by omega⟩
      · rw [if_neg hB] at h
        omega
theorem z_wB.ho {n b : Nat} {y : z_LV} (h : z_wB n y) (hb : b < y.1 0) : ∃ k, k < 13 ∧ y.2 3 b = nI k ∧ z_a y 3 (nI b) = nI k := by
  obtain ⟨k, hk, e⟩ := (h.2.2.2.1 b hb).2.2.2
  have s3 := h.1 3 (by decide)
  have := h.2.2.1
  exact ⟨k, hk, e, by rw [z_aI (by omega) (by omega)]; exact e⟩
theorem z_wB.hdnV {n i k : Nat} {y : z_LV} (h : z_wB n y) (hi : i < y.1 0) (e : y.2 3 i = nI (k + 1)) (j q : Nat) : (z_hdn y i).2 j q = if j = 3 ∧ q = i then nI k else y.2 j q := by
  have s3 := h.1 3 (by decide)
  have h10 := h.2.2.1
  have ea : z_a y 3 (nI i) = nI (k + 1) := by rw [z_aI (by omega) (by omega)]; exact e
  refine (z_putV (x := y) (j := 3) (show i < y.1 3 by omega) (by omega) j q).trans ?_
  rw [ea, pk_m1]
theorem z_wB.hdn2 {n i k : Nat} {y : z_LV} (h : z_wB n y) (hi : i < y.1 0) (hk : k < 12) (e : y.2 3 i = nI (k + 1)) (hk0 : k ≠ 0) : z_wB n (z_hdn y i) := by
  have val := h.hdnV hi e
  obtain ⟨a1, a2, a3, a4, a5⟩ := h
  refine ⟨a1, a2, a3, fun b hb => ?_, ?_⟩
  · have hb2 : b < y.1 0 := hb
    rw [val, val, val, val, if_neg (by omega), if_neg (by omega), if_neg (by omega)]
    refine ⟨(a4 b hb2).1, (a4 b hb2).2.1, (a4 b hb2).2.2.1, ?_⟩
    split
    · exact ⟨k, by omega, rfl⟩
    · exact (a4 b hb2).2.2.2
  · refine a5.eqv (fun b hb => ?_) (fun r _ => by rw [val, if_neg (by omega)])
    rw [val]
    by_cases q : b = i
    · rw [if_pos ⟨rfl, q⟩, q, e]
      exact ⟨fun c => absurd c (nI_ne0 (by omega) (by omega)), fun c => absurd c (nI_ne0 (by omega) (by omega))⟩
    · rw [if_neg (fun c => q c.2)]
theorem z_wB.hdnI {n i p : Nat} {y : z_LV} (h : z_wB n y) (hi : i < y.1 0) (e : y.2 3 i = nI (0 + 1)) (hp : p ≤ y.1 5) : y.1 5 < 10 ∧ z_wB n (z_insL (z_hdn y i) 5 p (nI i)) := by
  have val := h.hdnV hi e
  obtain ⟨a1, a2, a3, a4, a5⟩ := h
  have ne : ¬ y.2 3 i = 0 := by rw [e]; exact nI_ne0 (by omega) (by omega)
  have lt := a5.lt (by omega) hi ne
  have val2 : ∀ j q, j ≠ 5 → (z_insL (z_hdn y i) 5 p (nI i)).2 j q = if j = 3 ∧ q = i then nI 0 else y.2 j q := fun j q hj => by
    show (if j = 5 then _ else (z_hdn y i).2 j) q = _
    rw [if_neg hj, val]
  refine ⟨by omega, fun j hj => ?_, ?_, a3, fun b hb => ?_, ?_⟩
  · show (if j = 5 then _ else y.1 j) = y.1 0
    rw [if_neg (by omega)]; exact a1 j hj
  · show y.1 5 + 1 ≤ y.1 0
    omega
  · have hb2 : b < y.1 0 := hb
    rw [val2 0 b (by decide), val2 1 b (by decide), val2 2 b (by decide), val2 3 b (by decide), if_neg (by omega), if_neg (by omega), if_neg (by omega)]
    refine ⟨(a4 b hb2).1, (a4 b hb2).2.1, (a4 b hb2).2.2.1, ?_⟩
    split
    · exact ⟨0, by omega, rfl⟩
    · exact (a4 b hb2).2.2.2
  · show z_Rw (y.1 0) (y.1 5 + 1) _ (z_insF ((z_hdn y i).2 5) (y.1 5) p (nI i))
    have e5 : (z_hdn y i).2 5 = y.2 5 := rfl
    rw [e5]
    refine (a5.ins (by omega) hp hi ne).eqv (fun b hb => ?_) (fun _ _ => rfl)
    rw [val2 3 b (by decide)]
    by_cases q : b = i
    · rw [if_pos ⟨rfl, q⟩]
      exact ⟨fun _ => Or.inl q, fun _ => rfl⟩
    · rw [if_neg (fun c => q c.2)]
      exact ⟨fun c => Or.inr c, fun c => c.elim (fun c => absurd c q) id⟩
def z_BpI (n : Nat) (y : z_LV) (i : Nat) (s : z_LV × Nat) : Prop := z_wB n s.1 ∧ s.2 = z_cnt (z_cmB (y.2 3)) i ∧ s.1.1 0 = y.1 0 ∧ s.1.1 5 = y.1 5 + z_cnt (z_cmB (y.2 3)) i ∧ (∀ j, j ≠ 3 → j ≠ 5 → s.1.2 j = y.2 j) ∧ (∀ b, b < y.1 0 → s.1.2 3 b = if b < i then z_dcH (y.2 3 b) else y.2 3 b) ∧ (∀ b, b < i → z_cmB (y.2 3) b = true → s.1.2 5 (z_cnt (z_cmB (y.2 3)) b) = nI b) ∧ ∀ r, r < y.1 5 → s.1.2 5 (z_cnt (z_cmB (y.2 3)) i + r) = y.2 5 r
section ZBpI
variable {n i : Nat} {y : z_LV} {s : z_LV × Nat}
theorem z_BpI.wB (h : z_BpI n y i s) : z_wB n s.1 := h.1
theorem z_BpI.cn (h : z_BpI n y i s) : s.2 = z_cnt (z_cmB (y.2 3)) i := h.2.1
theorem z_BpI.nb (h : z_BpI n y i s) : s.1.1 0 = y.1 0 := h.2.2.1
theorem z_BpI.nr (h : z_BpI n y i s) : s.1.1 5 = y.1 5 + z_cnt (z_cmB (y.2 3)) i := h.2.2.2.1
theorem z_BpI.ot (h : z_BpI n y i s) : ∀ j, j ≠ 3 → j ≠ 5 → s.1.2 j = y.2 j := h.2.2.2.2.1
theorem z_BpI.ho (h : z_BpI n y i s) : ∀ b, b < y.1 0 → s.1.2 3 b = if b < i then z_dcH (y.2 3 b) else y.2 3 b := h.2.2.2.2.2.1
theorem z_BpI.r1 (h : z_BpI n y i s) : ∀ b, b < i → z_cmB (y.2 3) b = true → s.1.2 5 (z_cnt (z_cmB (y.2 3)) b) = nI b := h.2.2.2.2.2.2.1
theorem z_BpI.r2 (h : z_BpI n y i s) : ∀ r, r < y.1 5 → s.1.2 5 (z_cnt (z_cmB (y.2 3)) i + r) = y.2 5 r := h.2.2.2.2.2.2.2
end ZBpI
theorem z_bpI {n : Nat} {y : z_LV} (h : z_wB n y) : ∀ i, i ≤ y.1 0 → z_BpI n y i (z_fold z_bpS (y, 0) i) := by
  intro i
  induction i with
  | zero => exact fun _ => ⟨h, rfl, rfl, rfl, fun _ _ _ => rfl, fun b _ => (if_neg (by omega)).symm, fun b hb => absurd hb (by omega), fun r _ => by rw [show z_cnt (z_cmB (y.2 3)) 0 + r = r from Nat.zero_add r]; rfl⟩
  | succ i ih =>
    intro hi
    have I := ih (by omega)
    have hi1 : i < (z_fold z_bpS (y, 0) i).1.1 0 := by rw [I.nb]; omega
    have hho : (z_fold z_bpS (y, 0) i).1.2 3 i = y.2 3 i := (I.ho i (by omega)).trans (if_neg (by omega))
    obtain ⟨k, hk, ek, ea⟩ := I.wB.ho hi1
    have ek2 : y.2 3 i = nI k := hho.symm.trans ek
    have st : z_fold z_bpS (y, 0) (i + 1) = z_bpS (z_fold z_bpS (y, 0) i) i := rfl
    rw [st]
    generalize z_fold z_bpS (y, 0) i = s at I hi1 hho ek ea
    have cm : z_cmB (y.2 3) i = decide (k = 1) := by
      unfold z_cmB
      rw [ek2]
      exact decide_eq_decide.mpr (nI_eq (b := 1) (by omega) (by decide))
    have tail : ∀ b, b < y.1 0 → ∀ (x : Int32), x = z_dcH (y.2 3 i) → (if (3 = 3 ∧ b = i) then x else s.1.2 3 b) = if b < i + 1 then z_dcH (y.2 3 b) else y.2 3 b := fun b hb x hx => by
      by_cases q : b = i
      · rw [if_pos ⟨rfl, q⟩, if_pos (by omega), hx, q]
      · rw [if_neg (fun c => q c.2), I.ho b hb]
        by_cases q2 : b < i
        · rw [if_pos q2, if_pos (by omega)]
        · rw [if_neg q2, if_neg (by omega)]
    have e3 : k = 0 ∨ k = 1 ∨ ∃ k', k = k' + 1 ∧ k' ≠ 0 := by
      rcases Nat.eq_zero_or_pos k with q | q
      · exact Or.inl q
      · by_cases q2 : k = 1
        · exact Or.inr (Or.inl q2)
        · exact Or.inr (Or.inr ⟨k - 1, by omega, by omega⟩)
    rcases e3 with rfl | rfl | ⟨k', rfl, hk'⟩
    · have c0 : z_cnt (z_cmB (y.2 3)) (i + 1) = z_cnt (z_cmB (y.2 3)) i := by rw [z_cnt_s, cm]; rfl
      have e0 : z_bpS s i = s := by
        unfold z_bpS z_adj
        rw [ea, if_neg (by decide)]
      rw [e0]
      refine ⟨I.wB, by rw [c0]; exact I.cn, I.nb, by rw [c0]; exact I.nr, I.ot, fun b hb => ?_, fun b hb hB => ?_, fun r hr => by rw [c0]; exact I.r2 r hr⟩
      · rw [← tail b hb (nI 0) (by rw [ek2]; rfl)]
        by_cases q : b = i
        · rw [if_pos ⟨rfl, q⟩, q, ek]
        · rw [if_neg (fun c => q c.2)]
      · by_cases q : b = i
        · rw [q, cm] at hB; exact absurd hB (by decide)
        · exact I.r1 b (by omega) hB
    · have c1 : z_cnt (z_cmB (y.2 3)) (i + 1) = z_cnt (z_cmB (y.2 3)) i + 1 := by rw [z_cnt_s, cm]; rfl
      have hp : s.2 ≤ s.1.1 5 := by rw [I.cn, I.nr]; omega
      obtain ⟨l10, w1⟩ := I.wB.hdnI hi1 ek hp
      have val := I.wB.hdnV hi1 ek
      have ea1 : z_a (z_hdn s.1 i) 3 (nI i) = nI 0 := by
        have s3 := I.wB.1 3 (by decide)
        have := I.wB.2.2.1
        refine (z_aI (x := z_hdn s.1 i) (j := 3) (show i < s.1.1 3 by omega) (show s.1.1 3 < 1000 by omega)).trans ?_
        rw [val, if_pos ⟨rfl, rfl⟩]
      have e0 : z_bpS s i = (z_insL (z_hdn s.1 i) 5 s.2 (nI i), s.2 + 1) := by
        unfold z_bpS z_adj z_insT
        rw [ea, ea1, if_pos (by decide), if_neg (by decide)]
        show (if s.2 ≤ s.1.1 5 ∧ s.1.1 5 < 10 then _ else _, _) = _
        rw [if_pos ⟨hp, l10⟩]
      rw [e0]
      have row : ∀ q, (z_insL (z_hdn s.1 i) 5 s.2 (nI i)).2 5 q = if q = s.2 then nI i else if s.2 < q ∧ q ≤ s.1.1 5 then s.1.2 5 (q - 1) else s.1.2 5 q := fun q => rfl
      refine ⟨w1, by rw [c1, I.cn], I.nb, ?_, fun j h3 h5 => ?_, fun b hb => ?_, fun b hb hB => ?_, fun r hr => ?_⟩
      · show s.1.1 5 + 1 = _
        rw [I.nr, c1]; omega
      · show (if j = 5 then _ else (if j = 3 then _ else s.1.2 j)) = _
        rw [if_neg h5, if_neg h3]; exact I.ot j h3 h5
      · rw [← tail b hb (nI 0) (by rw [ek2]; decide)]
        exact val 3 b
      · rw [row]
        by_cases q : b = i
        · rw [if_pos (by rw [q, I.cn]), q]
        · have := z_cnt_strict (show b < i by omega) hB
          rw [if_neg (by rw [I.cn]; omega), if_neg (by rw [I.cn]; omega)]
          exact I.r1 b (by omega) hB
      · rw [row, if_neg (by rw [I.cn, c1]; omega), if_pos (by rw [I.cn, I.nr, c1]; omega), show z_cnt (z_cmB (y.2 3)) (i + 1) + r - 1 = z_cnt (z_cmB (y.2 3)) i + r by rw [c1]; omega]
        exact I.r2 r hr
    · have c0 : z_cnt (z_cmB (y.2 3)) (i + 1) = z_cnt (z_cmB (y.2 3)) i := by rw [z_cnt_s, cm, decide_eq_false (by omega)]; rfl
      have w1 := I.wB.hdn2 hi1 (by omega) ek hk'
      have val := I.wB.hdnV hi1 ek
      have ea1 : z_a (z_hdn s.1 i) 3 (nI i) = nI k' := by
        have s3 := I.wB.1 3 (by decide)
        have := I.wB.2.2.1
        refine (z_aI (x := z_hdn s.1 i) (j := 3) (show i < s.1.1 3 by omega) (show s.1.1 3 < 1000 by omega)).trans ?_
        rw [val, if_pos ⟨rfl, rfl⟩]
      have e0 : z_bpS s i = (z_hdn s.1 i, s.2) := by
        unfold z_bpS z_adj
        rw [ea, ea1, if_pos (decide_eq_true (z_pos0 (by omega) (by omega))), if_pos (decide_eq_true (z_pos0 (by omega) (by omega)))]
      rw [e0]
      refine ⟨w1, by rw [c0]; exact I.cn, I.nb, by rw [c0]; exact I.nr, fun j h3 h5 => ?_, fun b hb => ?_, fun b hb hB => ?_, fun r hr => by rw [c0]; exact I.r2 r hr⟩
      · show (if j = 3 then _ else s.1.2 j) = _
        rw [if_neg h3]; exact I.ot j h3 h5
      · rw [← tail b hb (nI k') (by rw [ek2]; unfold z_dcH; rw [if_pos (z_pos0 (by omega) (by omega)), nI_pred])]
        exact val 3 b
      · by_cases q : b = i
        · rw [q, cm] at hB
          have := of_decide_eq_true hB
          omega
        · exact I.r1 b (by omega) hB
