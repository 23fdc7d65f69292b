/-! What stays: the row tells just the bills on the table. -/
theorem z_cntB : ∀ (n r : Nat) (P : Nat → Bool) (f : Nat → Nat), (∀ i, i < r → f i < n ∧ P (f i) = true) → (∀ i j, i < r → j < r → f i = f j → i = j) → (∀ b, b < n → P b = true → ∃ i, i < r ∧ f i = b) → z_cnt P n = r := by
  intro n
  induction n with
  | zero =>
    intro r P f h1 _ _
    cases r with
    | zero => rfl
    | succ r => exact absurd (h1 0 (by omega)).1 (by omega)
  | succ n ih =>
    intro r P f h1 h2 h3
    show z_cnt P n + (if P n = true then 1 else 0) = r
    cases hP : P n with
    | false =>
      have ne : ∀ i, i < r → f i ≠ n := fun i hi e => by
        have := (h1 i hi).2
        rw [e, hP] at this
        exact Bool.noConfusion this
      rw [ih r P f (fun i hi => ⟨by have := (h1 i hi).1; have := ne i hi; omega, (h1 i hi).2⟩) h2 (fun b hb hb2 => h3 b (by omega) hb2)]
      rfl
    | true =>
      obtain ⟨i0, hi0, e0⟩ := h3 n (by omega) hP
      have ne : ∀ i, i < r → i ≠ i0 → f i ≠ n := fun i hi hn e => hn (h2 i i0 hi hi0 (e.trans e0.symm))
      have hf : ∀ i, i < r - 1 → (if i < i0 then f i else f (i + 1)) < n ∧ P (if i < i0 then f i else f (i + 1)) = true := fun i hi => by
        split
        · exact ⟨by have := (h1 i (by omega)).1; have := ne i (by omega) (by omega); omega, (h1 i (by omega)).2⟩
        · exact ⟨by have := (h1 (i + 1) (by omega)).1; have := ne (i + 1) (by omega) (by omega); omega, (h1 (i + 1) (by omega)).2⟩
      rw [ih (r - 1) P (fun i => if i < i0 then f i else f (i + 1)) hf (fun i j hi hj e => ?_) (fun b hb hb2 => ?_)]
      · show r - 1 + 1 = r
        omega
      · have e' : (if i < i0 then f i else f (i + 1)) = (if j < i0 then f j else f (j + 1)) := e
        split at e' <;> split at e'
        · exact h2 i j (by omega) (by omega) e'
        · have := h2 i (j + 1) (by omega) (by omega) e'; omega
        · have := h2 (i + 1) j (by omega) (by omega) e'; omega
        · have := h2 (i + 1) (j + 1) (by omega) (by omega) e'; omega
      · obtain ⟨i, hi, e⟩ := h3 b (by omega) hb2
        have hne : i ≠ i0 := fun q => by rw [q, e0] at e; omega
        by_cases hl : i < i0
        · exact ⟨i, by omega, by show (if i < i0 then f i else f (i + 1)) = b; rw [if_pos hl]; exact e⟩
        · exact ⟨i - 1, by omega, by show (if i - 1 < i0 then f (i - 1) else f (i - 1 + 1)) = b; rw [if_neg (by omega), show i - 1 + 1 = i by omega]; exact e⟩
theorem z_cnt_lt {P : Nat → Bool} : ∀ n b, b < n → P b = false → z_cnt P n < n := by
  intro n
  induction n with
  | zero => intro b hb; omega
  | succ n ih =>
    intro b hb hP
    show z_cnt P n + (if P n = true then 1 else 0) < n + 1
    by_cases e : b = n
    · subst e
      rw [hP]
      have := z_cnt_le P b
      show z_cnt P b + 0 < b + 1
      omega
    · have := ih b (by omega) hP
      split <;> omega
/-- a row of just those below n that P holds of -/
def z_Rw (n r : Nat) (P : Nat → Prop) (f : Nat → Int32) : Prop := (∀ i, i < r → ∃ b, b < n ∧ f i = nI b ∧ P b) ∧ (∀ i j, i < r → j < r → f i = f j → i = j) ∧ ∀ b, b < n → P b → ∃ i, i < r ∧ f i = nI b
theorem z_Rw.cnt {n r : Nat} {P : Nat → Prop} {f : Nat → Int32} (h : z_Rw n r P f) (hn : n < 1000) (B : Nat → Bool) (hB : ∀ b, b < n → (B b = true ↔ P b)) : z_cnt B n = r := by
  obtain ⟨h1, h2, h3⟩ := h
  have e : ∀ i, i < r → z_ix (f i) < n ∧ f i = nI (z_ix (f i)) ∧ P (z_ix (f i)) := fun i hi => by
    obtain ⟨b, hb, e1, e2⟩ := h1 i hi
    rw [e1, z_ix_nI (by omega)]
    exact ⟨hb, rfl, e2⟩
  refine z_cntB n r B (fun i => z_ix (f i)) (fun i hi => ⟨(e i hi).1, (hB _ (e i hi).1).mpr (e i hi).2.2⟩) (fun i j hi hj q => h2 i j hi hj ?_) (fun b hb q => ?_)
  · rw [(e i hi).2.1, (e j hj).2.1]; exact congrArg nI q
  · obtain ⟨i, hi, ei⟩ := h3 b hb ((hB b hb).mp q)
    exact ⟨i, hi, by show z_ix (f i) = b; rw [ei, z_ix_nI (by omega)]⟩
theorem z_Rw.le {n r : Nat} {P : Nat → Prop} {f : Nat → Int32} (h : z_Rw n r P f) (hn : n < 1000) : r ≤ n := by
  have := Classical.propDecidable
  rw [← h.cnt hn (fun b => decide (P b)) (fun b _ => by simp)]
  exact z_cnt_le _ _
theorem z_Rw.lt {n r b : Nat} {P : Nat → Prop} {f : Nat → Int32} (h : z_Rw n r P f) (hn : n < 1000) (hb : b < n) (hp : ¬ P b) : r < n := by
  have := Classical.propDecidable
  rw [← h.cnt hn (fun b => decide (P b)) (fun b _ => by simp)]
  exact z_cnt_lt n b hb (decide_eq_false hp)
theorem z_Rw.eqv {n r : Nat} {P P' : Nat → Prop} {f f' : Nat → Int32} (h : z_Rw n r P f) (hP : ∀ b, b < n → (P' b ↔ P b)) (hf : ∀ i, i < r → f' i = f i) : z_Rw n r P' f' := by
  obtain ⟨h1, h2, h3⟩ := h
  refine ⟨fun i hi => ?_, fun i j hi hj e => h2 i j hi hj (by rw [← hf i hi, ← hf j hj]; exact e), fun b hb hp => ?_⟩
  · obtain ⟨b, hb, e1, e2⟩ := h1 i hi
    exact ⟨b, hb, (hf i hi).trans e1, (hP b hb).mpr e2⟩
  · obtain ⟨i, hi, e⟩ := h3 b hb ((hP b hb).mp hp)
    exact ⟨i, hi, (hf i hi).trans e⟩
theorem z_Rw.ins {n r p b : Nat} {P : Nat → Prop} {f : Nat → Int32} (h : z_Rw n r P f) (hn : n < 1000) (hp : p ≤ r) (hb : b < n) (hb2 : ¬ P b) : z_Rw n (r + 1) (fun q => q = b ∨ P q) (z_insF f r p (nI b)) := by
  obtain ⟨h1, h2, h3⟩ := h
  have at0 : ∀ i, i < r + 1 → (i = p ∧ z_insF f r p (nI b) i = nI b) ∨ (i < p ∧ i < r ∧ z_insF f r p (nI b) i = f i) ∨ (p < i ∧ i - 1 < r ∧ z_insF f r p (nI b) i = f (i - 1)) := fun i hi => by
    unfold z_insF
    by_cases e : i = p
    · exact Or.inl ⟨e, if_pos e⟩
    · rw [if_neg e]
      by_cases e2 : i < p
      · exact Or.inr (Or.inl ⟨e2, by omega, if_neg (by omega)⟩)
      · exact Or.inr (Or.inr ⟨by omega, by omega, if_pos (by omega)⟩)
  have ne : ∀ i, i < r → ¬ f i = nI b := fun i hi e => by
    obtain ⟨c, hc, e1, e2⟩ := h1 i hi
    have : c = b := (nI_eq (by omega) (by omega)).mp (e1.symm.trans e)
    exact hb2 (this ▸ e2)
  refine ⟨fun i hi => ?_, fun i j hi hj e => ?_, fun c hc hp2 => ?_⟩
  · rcases at0 i hi with ⟨e1, e⟩ | ⟨e1, e2, e⟩ | ⟨e1, e2, e⟩
    · exact ⟨b, hb, e, Or.inl rfl⟩
    · obtain ⟨c, hc, q1, q2⟩ := h1 _ e2
      exact ⟨c, hc, e.trans q1, Or.inr q2⟩
    · obtain ⟨c, hc, q1, q2⟩ := h1 _ e2
      exact ⟨c, hc, e.trans q1, Or.inr q2⟩
  · rcases at0 i hi with ⟨e1, e2⟩ | ⟨e1, e2, e3⟩ | ⟨e1, e2, e3⟩ <;> rcases at0 j hj with ⟨d1, d2⟩ | ⟨d1, d2, d3⟩ | ⟨d1, d2, d3⟩
    · omega
    · exact absurd (d3.symm.trans (e.symm.trans e2)) (ne j d2)
    · exact absurd (d3.symm.trans (e.symm.trans e2)) (ne (j - 1) d2)
    · exact absurd (e3.symm.trans (e.trans d2)) (ne i e2)
    · exact h2 i j e2 d2 (e3.symm.trans (e.trans d3))
    · have := h2 i (j - 1) e2 d2 (e3.symm.trans (e.trans d3)); omega
    · exact absurd (e3.symm.trans (e.trans d2)) (ne (i - 1) e2)
    · have := h2 (i - 1) j e2 d2 (e3.symm.trans (e.trans d3)); omega
    · have := h2 (i - 1) (j - 1) e2 d2 (e3.symm.trans (e.trans d3)); omega
  · by_cases ec : c = b
    · exact ⟨p, by omega, by unfold z_insF; rw [if_pos rfl, ec]⟩
    · rcases hp2 with hp2 | hp2
      · exact absurd hp2 ec
      · obtain ⟨i, hi, e⟩ := h3 c hc hp2
        by_cases el : i < p
        · exact ⟨i, by omega, by unfold z_insF; rw [if_neg (by omega), if_neg (by omega)]; exact e⟩
        · exact ⟨i + 1, by omega, by unfold z_insF; rw [if_neg (by omega), if_pos (by omega)]; exact e⟩
theorem z_Rw.rem {n r p b : Nat} {P : Nat → Prop} {f : Nat → Int32} (h : z_Rw n r P f) (hn : n < 1000) (hp : p < r) (hb : b < n) (e0 : f p = nI b) : z_Rw n (r - 1) (fun q => q ≠ b ∧ P q) (z_remF f r p) := by
  obtain ⟨h1, h2, h3⟩ := h
  have at0 : ∀ i, i < r - 1 → (i < p ∧ z_remF f r p i = f i) ∨ (p ≤ i ∧ z_remF f r p i = f (i + 1)) := fun i hi => by
    unfold z_remF
    by_cases e : p ≤ i
    · exact Or.inr ⟨e, if_pos (by omega)⟩
    · exact Or.inl ⟨by omega, if_neg (by omega)⟩
  refine ⟨fun i hi => ?_, fun i j hi hj e => ?_, fun c hc hp2 => ?_⟩
  · rcases at0 i hi with ⟨e1, e⟩ | ⟨e1, e⟩
    · obtain ⟨c, hc, q1, q2⟩ := h1 i (by omega)
      refine ⟨c, hc, e.trans q1, fun q => ?_, q2⟩
      have := h2 i p (by omega) hp (by rw [q1, e0, q]); omega
    · obtain ⟨c, hc, q1, q2⟩ := h1 (i + 1) (by omega)
      refine ⟨c, hc, e.trans q1, fun q => ?_, q2⟩
      have := h2 (i + 1) p (by omega) hp (by rw [q1, e0, q]); omega
  · rcases at0 i hi with ⟨e1, e2⟩ | ⟨e1, e2⟩ <;> rcases at0 j hj with ⟨d1, d2⟩ | ⟨d1, d2⟩
    · exact h2 i j (by omega) (by omega) (e2.symm.trans (e.trans d2))
    · have := h2 i (j + 1) (by omega) (by omega) (e2.symm.trans (e.trans d2)); omega
    · have := h2 (i + 1) j (by omega) (by omega) (e2.symm.trans (e.trans d2)); omega
    · have := h2 (i + 1) (j + 1) (by omega) (by omega) (e2.symm.trans (e.trans d2)); omega
  · obtain ⟨i, hi, e⟩ := h3 c hc hp2.2
    have hne : i ≠ p := fun q => hp2.1 (by rw [q, e0] at e; exact ((nI_eq (by omega) (by omega)).mp e).symm)
    by_cases el : i < p
    · exact ⟨i, by omega, by unfold z_remF; rw [if_neg (by omega)]; exact e⟩
    · exact ⟨i - 1, by omega, by unfold z_remF; rw [if_pos (by omega), show i - 1 + 1 = i by omega]; exact e⟩
/-- the number of what is behind b, one less -/
def z_sk (b q : Nat) : Nat := if b ≤ q then q + 1 else q
theorem z_forN {b c : Nat} (hb : b < 1000) (hc : c < 1000) (hn : c ≠ b) : z_forV (nI b) (nI c) = nI (if b < c then c - 1 else c) := by
  unfold z_forV
  rw [if_neg (fun e => hn ((nI_eq (by omega) (by omega)).mp e))]
  by_cases h : b < c
  · rw [if_pos ((nI_ltI (by omega) (by omega)).mpr h), if_pos h, z_predN (by omega)]
  · rw [if_neg (fun e => h ((nI_ltI (by omega) (by omega)).mp e)), if_neg h]
theorem z_Rw.ren {n r b : Nat} {P : Nat → Prop} {f : Nat → Int32} (h : z_Rw n r P f) (hn : n < 1000) (hb : b < n) (hb2 : ¬ P b) : z_Rw (n - 1) r (fun q => P (z_sk b q)) (z_forF f r (nI b)) := by
  obtain ⟨h1, h2, h3⟩ := h
  have at0 : ∀ i, i < r → ∃ c, c < n ∧ c ≠ b ∧ P c ∧ f i = nI c ∧ z_forF f r (nI b) i = nI (if b < c then c - 1 else c) := fun i hi => by
    obtain ⟨c, hc, e1, e2⟩ := h1 i hi
    have hne : c ≠ b := fun q => hb2 (q ▸ e2)
    refine ⟨c, hc, hne, e2, e1, ?_⟩
    unfold z_forF
    rw [if_pos hi, e1, z_forN (by omega) (by omega) hne]
  refine ⟨fun i hi => ?_, fun i j hi hj e => ?_, fun c hc hp2 => ?_⟩
  · obtain ⟨c, hc, hne, hp, _, e⟩ := at0 i hi
    refine ⟨_, ?_, e, ?_⟩
    · split <;> omega
    · have : z_sk b (if b < c then c - 1 else c) = c := by unfold z_sk; split <;> split <;> omega
      show P (z_sk b (if b < c then c - 1 else c))
      rw [this]; exact hp
  · obtain ⟨c, hc, hne, _, e1, e2⟩ := at0 i hi
    obtain ⟨c', hc', hne', _, e1', e2'⟩ := at0 j hj
    have q : (if b < c then c - 1 else c) = (if b < c' then c' - 1 else c') := (nI_eq (by split <;> omega) (by split <;> omega)).mp (e2.symm.trans (e.trans e2'))
    have : c = c' := by split at q <;> split at q <;> omega
    exact h2 i j hi hj (by rw [e1, e1', this])
  · obtain ⟨i, hi, e⟩ := h3 (z_sk b c) (by unfold z_sk; split <;> omega) hp2
    refine ⟨i, hi, ?_⟩
    unfold z_forF
    rw [if_pos hi, e, z_forN (by omega) (by unfold z_sk; split <;> omega) (by unfold z_sk; split <;> omega)]
    congr 1
    unfold z_sk
    split <;> split <;> omega
