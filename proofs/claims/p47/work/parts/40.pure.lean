/-! What stays true of a house: sizes, numbers, the row (rows of whole). -/
/-- numbers by field, contents of its rows by their place behind it -/
abbrev z_MV : Type := (Nat → Int32) × (Nat → Nat → Int32)
def z_inR (v lo hi : Int32) : Bool := decide (lo ≤ v) && decide (v ≤ hi)
def z_rng (x : Int32) (n : Nat) : Prop := ∃ k : Nat, k < n ∧ x = nI k
def z_kOk (n : Nat) (x : Int32) : Prop := x = -1 ∨ z_rng x n
def z_wf (v : z_HV) : Prop := z_szs v ∧ v.1.1 0 ≤ 8 ∧ v.2.1.1 0 ≤ 10 ∧
  (∀ i, i < v.1.1 0 → z_rng (v.1.2 0 i) 60 ∧ z_rng (v.1.2 1 i) 25 ∧ z_rng (v.1.2 2 i) 4) ∧
  (∀ k, k < 3 → z_kOk (v.1.1 0) (v.1.2 4 k)) ∧
  (∀ b, b < v.2.1.1 0 → z_kOk (v.1.1 0) (v.2.1.2 0 b) ∧ z_rng (v.2.1.2 1 b) 60 ∧ z_rng (v.2.1.2 2 b) 10 ∧ z_rng (v.2.1.2 3 b) 13) ∧
  (∀ r, r < v.2.1.1 5 → ∃ b, b < v.2.1.1 0 ∧ v.2.1.2 5 r = nI b ∧ v.2.1.2 3 b = 0) ∧
  (∀ r r', r < v.2.1.1 5 → r' < v.2.1.1 5 → v.2.1.2 5 r = v.2.1.2 5 r' → r = r') ∧
  (∀ b, b < v.2.1.1 0 → v.2.1.2 3 b = 0 → ∃ r, r < v.2.1.1 5 ∧ v.2.1.2 5 r = nI b)
/-- sizes alone -/
def z_wz (v : z_HV) : Prop := z_szs v ∧ v.1.1 0 ≤ 8 ∧ v.2.1.1 0 ≤ 10
theorem z_wf.wz {v : z_HV} (hw : z_wf v) : z_wz v := ⟨hw.1, hw.2.1, hw.2.2.1⟩
theorem z_inNot {v lo hi : Int32} : z_inR v lo hi = false ↔ (v < lo ∨ hi < v) := by
  unfold z_inR
  rw [← Int32.not_le, ← Int32.not_le]
  simp only [Bool.and_eq_false_iff, decide_eq_false_iff_not]
theorem z_hasE {c : Int32} {n : Nat} (hn : n < 1000) (h : z_has c n = true) : ∃ k, k < n ∧ c = nI k := by
  have ei := z_hasI h
  refine ⟨z_ix c, ei.2.2.1, ?_⟩
  have e1 := ei.2.2.2
  refine Int32.toInt_inj.mp ?_
  rw [nI_toInt (by omega)]
  exact e1
theorem z_aI {x : z_LV} {j c : Nat} (hc : c < x.1 j) (hn : x.1 j < 1000 := by omega) : z_a x j (nI c) = x.2 j c := by
  unfold z_a
  rw [z_atV_nI (by omega), if_pos hc]
theorem z_putLI {x : z_LV} {j c : Nat} {v : Int32} (hc : c < x.1 j) (hn : x.1 j < 1000) : z_putL x j (nI c) v = z_upF x j (upd (x.2 j) c v) := by
  unfold z_putL z_updV
  rw [z_has_nI (by omega), z_ix_nI (by omega), if_pos (by simpa using hc)]
section
variable {v : z_HV} {g : Nat → Int32}
theorem z_wf.nc (hw : z_wf v) : v.1.1 0 ≤ 8 := hw.2.1
theorem z_wf.nb (hw : z_wf v) : v.2.1.1 0 ≤ 10 := hw.2.2.1
theorem z_wf.sc (hw : z_wf v) {j : Nat} (hj : j < 4) : v.1.1 j = v.1.1 0 := hw.1.1 j hj
theorem z_wf.sk (hw : z_wf v) : v.1.1 4 = 3 := hw.1.2.1
theorem z_wf.sb (hw : z_wf v) {j : Nat} (hj : j < 5) : v.2.1.1 j = v.2.1.1 0 := hw.1.2.2.1 j hj
theorem z_wf.nr (hw : z_wf v) : v.2.1.1 5 ≤ v.2.1.1 0 := hw.1.2.2.2
theorem z_wz.nc (hw : z_wz v) : v.1.1 0 ≤ 8 := hw.2.1
theorem z_wz.nb (hw : z_wz v) : v.2.1.1 0 ≤ 10 := hw.2.2
theorem z_wz.sc (hw : z_wz v) {j : Nat} (hj : j < 4) : v.1.1 j = v.1.1 0 := hw.1.1 j hj
theorem z_wz.sk (hw : z_wz v) : v.1.1 4 = 3 := hw.1.2.1
theorem z_wz.sb (hw : z_wz v) {j : Nat} (hj : j < 5) : v.2.1.1 j = v.2.1.1 0 := hw.1.2.2.1 j hj
theorem z_wz.nr (hw : z_wz v) : v.2.1.1 5 ≤ v.2.1.1 0 := hw.1.2.2.2
end
theorem z_wf.se {v : z_HV} (hw : z_wf v) {c : Nat} (hc : c < v.1.1 0) : z_rng (z_a v.1 0 (nI c)) 60 := by
  have := hw.nc
  rw [z_aI hc]; exact (hw.2.2.2.1 c hc).1
theorem z_wf.sp {v : z_HV} (hw : z_wf v) {c : Nat} (hc : c < v.1.1 0) : z_rng (z_a v.1 1 (nI c)) 25 := by
  have := hw.nc
  rw [z_aI (by rw [hw.sc (by decide)]; exact hc) (by rw [hw.sc (by decide)]; omega)]; exact (hw.2.2.2.1 c hc).2.1
theorem z_wf.le {v : z_HV} (hw : z_wf v) {c : Nat} (hc : c < v.1.1 0) : z_rng (z_a v.1 2 (nI c)) 4 := by
  have := hw.nc
  rw [z_aI (by rw [hw.sc (by decide)]; exact hc) (by rw [hw.sc (by decide)]; omega)]; exact (hw.2.2.2.1 c hc).2.2
theorem z_inE {x : Int32} {lo hi : Nat} (hh : hi < 1000) (hl : lo ≤ hi) (e : z_inR x (nI lo) (nI hi) = true) : ∃ k, lo ≤ k ∧ k ≤ hi ∧ x = nI k := by
  unfold z_inR at e
  simp only [Bool.and_eq_true, decide_eq_true_eq, Int32.le_iff_toInt_le] at e
  rw [nI_toInt (by omega), nI_toInt (by omega)] at e
  refine ⟨x.toInt.toNat, by omega, by omega, Int32.toInt_inj.mp ?_⟩
  rw [nI_toInt (by omega)]
  omega
theorem z_wf.putC {v : z_HV} (hw : z_wf v) {j c : Nat} {x : Int32} (hj : j < 4) (hc : c < v.1.1 0) (h0 : j = 0 → z_rng x 60) (h1 : j = 1 → z_rng x 25) (h2 : j = 2 → z_rng x 4) : z_wf (z_putL v.1 j (nI c) x, v.2.1, v.2.2) := by
  obtain ⟨a1, a2, a3, a4, a5, a6⟩ := hw
  have hw : z_wf v := ⟨a1, a2, a3, a4, a5, a6⟩
  have h8 := hw.nc
  rw [z_putLI (by rw [hw.sc hj]; exact hc) (by rw [hw.sc hj]; omega)]
  have gen : ∀ i j', i < v.1.1 0 → j' ≠ j ∨ i ≠ c → (z_upF v.1 j (upd (v.1.2 j) c x)).2 j' i = v.1.2 j' i := fun i j' hi hn => by
    show (if j' = j then upd (v.1.2 j) c x else v.1.2 j') i = _
    by_cases e : j' = j
    · subst e
      rw [if_pos rfl, z_updN _ _ (by rcases hn with q | q; exact absurd rfl q; exact q)]
    · rw [if_neg e]
  have hit : ∀ j', j' = j → (z_upF v.1 j (upd (v.1.2 j) c x)).2 j' c = x := fun j' e => by
    show (if j' = j then upd (v.1.2 j) c x else v.1.2 j') c = _
    rw [if_pos e, z_updE (α := Nat)]
  refine ⟨a1, a2, a3, fun i hi => ⟨?_, ?_, ?_⟩, fun k hk => ?_, a6⟩
  · by_cases e : 0 = j ∧ i = c
    · show z_rng ((z_upF v.1 j (upd (v.1.2 j) c x)).2 0 i) 60
      rw [e.2, hit 0 e.1]; exact h0 e.1.symm
    · show z_rng ((z_upF v.1 j (upd (v.1.2 j) c x)).2 0 i) 60
      rw [gen i 0 hi (by omega)]; exact (a4 i hi).1
  · by_cases e : 1 = j ∧ i = c
    · show z_rng ((z_upF v.1 j (upd (v.1.2 j) c x)).2 1 i) 25
      rw [e.2, hit 1 e.1]; exact h1 e.1.symm
    · show z_rng ((z_upF v.1 j (upd (v.1.2 j) c x)).2 1 i) 25
      rw [gen i 1 hi (by omega)]; exact (a4 i hi).2.1
  · by_cases e : 2 = j ∧ i = c
    · show z_rng ((z_upF v.1 j (upd (v.1.2 j) c x)).2 2 i) 4
      rw [e.2, hit 2 e.1]; exact h2 e.1.symm
    · show z_rng ((z_upF v.1 j (upd (v.1.2 j) c x)).2 2 i) 4
      rw [gen i 2 hi (by omega)]; exact (a4 i hi).2.2
  · show z_kOk (v.1.1 0) ((if 4 = j then upd (v.1.2 j) c x else v.1.2 4) k)
    rw [if_neg (by omega)]
    exact a5 k hk
theorem z_remI {x : z_LV} {j i : Nat} (h : i < x.1 j) (hn : x.1 j < 1000) : z_remL x j (nI i) = z_upS x j (x.1 j - 1) (z_remF (x.2 j) (x.1 j) i) := by
  unfold z_remL
  rw [z_has_nI (by omega), if_pos (by simpa using h), z_ix_nI (by omega)]
theorem z_remN {x : z_LV} {j : Nat} : z_remL x j (-1) = x := by
  unfold z_remL
  rw [if_neg]
  simp [z_has]
theorem z_plcR (f : Nat → Int32) (n : Nat) (x : Int32) : z_plc f n x = -1 ∨ ∃ p, p < n ∧ z_plc f n x = nI p ∧ f p = x := by
  unfold z_plc
  cases e : z_first (fun i => decide (f i = x)) n 0 with
  | none => exact Or.inl rfl
  | some i =>
    obtain ⟨h1, h2, h3⟩ := z_firstP n 0 e
    exact Or.inr ⟨i, by omega, rfl, of_decide_eq_true h1⟩
theorem z_awayE {v : z_HV} {i : Nat} (hw : z_wz v) (hi : i < v.1.1 0) : (∀ j, j < 4 → (z_away v.1 (nI i)).1 j = v.1.1 0 - 1) ∧ (z_away v.1 (nI i)).1 4 = 3 ∧ (∀ j, j < 4 → (z_away v.1 (nI i)).2 j = z_remF (v.1.2 j) (v.1.1 0) i) ∧ (z_away v.1 (nI i)).2 4 = z_forF (v.1.2 4) 3 (nI i) := by
  have h8 := hw.nc
  have s1 := hw.sc (j := 1) (by decide)
  have s2 := hw.sc (j := 2) (by decide)
  have s3 := hw.sc (j := 3) (by decide)
  have s4 := hw.sk
  have e0 := z_remI (x := v.1) (j := 0) (i := i) hi (by omega)
  have e1 := z_remI (x := z_remL v.1 0 (nI i)) (j := 1) (i := i) (by rw [e0]; show i < v.1.1 1; omega) (by rw [e0]; show v.1.1 1 < 1000; omega)
  have e2 := z_remI (x := z_remL (z_remL v.1 0 (nI i)) 1 (nI i)) (j := 2) (i := i) (by rw [e1, e0]; show i < v.1.1 2; omega) (by rw [e1, e0]; show v.1.1 2 < 1000; omega)
  have e3 := z_remI (x := z_remL (z_remL (z_remL v.1 0 (nI i)) 1 (nI i)) 2 (nI i)) (j := 3) (i := i) (by rw [e2, e1, e0]; show i < v.1.1 3; omega) (by rw [e2, e1, e0]; show v.1.1 3 < 1000; omega)
  have c4 : ∀ j, j < 4 → j = 0 ∨ j = 1 ∨ j = 2 ∨ j = 3 := fun j hj => by omega
  unfold z_away
  rw [e3, e2, e1, e0]
  refine ⟨fun j hj => ?_, s4, fun j hj => ?_, ?_⟩
  · rcases c4 j hj with rfl | rfl | rfl | rfl
    · rfl
    · show v.1.1 1 - 1 = _; rw [s1]
    · show v.1.1 2 - 1 = _; rw [s2]
    · show v.1.1 3 - 1 = _; rw [s3]
  · rcases c4 j hj with rfl | rfl | rfl | rfl
    · rfl
    · show z_remF (v.1.2 1) (v.1.1 1) i = _; rw [s1]
    · show z_remF (v.1.2 2) (v.1.1 2) i = _; rw [s2]
    · show z_remF (v.1.2 3) (v.1.1 3) i = _; rw [s3]
  · show z_forF (v.1.2 4) (v.1.1 4) (nI i) = _; rw [s4]
theorem z_plcO (f : Nat → Int32) (n : Nat) (x : Int32) : z_plc f n x = z_oN1 (z_first (fun i => decide (f i = x)) n 0) := by
  unfold z_plc
  cases z_first (fun i => decide (f i = x)) n 0 <;> rfl
theorem z_upSF {x : z_LV} {j j' n : Nat} {f f' : Nat → Int32} (h : j ≠ j') : z_upF (z_upS x j n f) j' f' = z_upS (z_upF x j' f') j n f := by
  unfold z_upF z_upS
  refine Prod.ext rfl (funext fun i => ?_)
  show (if i = j' then f' else if i = j then f else x.2 i) = if i = j then f else if i = j' then f' else x.2 i
  by_cases e1 : i = j
  · rw [if_neg (by omega), if_pos e1, if_pos e1]
  · rw [if_neg e1, if_neg e1]
theorem z_rowOutE {y : z_LV} {b : Int32} (hn : y.1 5 ≤ 10) : (z_plc (y.2 5) (y.1 5) b = -1 ∧ z_rowOut y b = y) ∨ ∃ p, p < y.1 5 ∧ z_plc (y.2 5) (y.1 5) b = nI p ∧ y.2 5 p = b ∧ z_rowOut y b = z_upS y 5 (y.1 5 - 1) (z_remF (y.2 5) (y.1 5) p) := by
  unfold z_rowOut
  rcases z_plcR (y.2 5) (y.1 5) b with e | ⟨p, hp, e, ep⟩
  · exact Or.inl ⟨e, by rw [e, z_remN]⟩
  · exact Or.inr ⟨p, hp, e, ep, by rw [e, z_remI hp (by omega)]⟩
theorem z_rowOut_put {y : z_LV} {j : Nat} {b c x : Int32} (hj : j ≠ 5) : z_rowOut (z_putL y j c x) b = z_putL (z_rowOut y b) j c x := by
  have e1 : (z_putL y j c x).2 5 = y.2 5 := if_neg (Ne.symm hj)
  unfold z_rowOut z_remL
  show (if z_has (z_plc ((z_putL y j c x).2 5) (y.1 5) b) (y.1 5) = true then z_upS (z_putL y j c x) 5 (y.1 5 - 1) (z_remF ((z_putL y j c x).2 5) (y.1 5) (z_ix (z_plc ((z_putL y j c x).2 5) (y.1 5) b))) else z_putL y j c x) = _
  rw [e1]
  split
  · unfold z_putL
    show z_upS (z_upF y j (z_updV (y.2 j) (y.1 j) c x)) 5 _ _ = z_upF (z_upS y 5 _ _) j (z_updV (if j = 5 then _ else y.2 j) (if j = 5 then _ else y.1 j) c x)
    rw [if_neg hj, if_neg hj, z_upSF (Ne.symm hj)]
  · rfl
theorem z_rowOut_1 (y : z_LV) (b : Int32) {j : Nat} (hj : j ≠ 5) : (z_rowOut y b).1 j = y.1 j := by
  unfold z_rowOut z_remL
  split
  · exact if_neg hj
  · rfl
theorem z_rowOut_2 (y : z_LV) (b : Int32) {j : Nat} (hj : j ≠ 5) : (z_rowOut y b).2 j = y.2 j := by
  unfold z_rowOut z_remL
  split
  · exact if_neg hj
  · rfl
theorem z_offE (y : z_LV) (b k : Int32) : z_off y b k = z_putL (z_putL (z_rowOut y b) 3 b k) 4 b (z_a y 4 b + 1) := by
  unfold z_off z_off1
  rw [z_rowOut_put (by decide), z_rowOut_put (by decide)]
  rfl
section
variable {G : z_G} {h : z_H} {Q : z_O → z_H → Prop} {a : Nat} {m : z_MV} {v : z_HV} {g : Nat → Int32}
theorem z_predN {n : Nat} (h : 0 < n) : nI n - 1 = nI (n - 1) := by
  obtain ⟨k, rfl⟩ : ∃ k, n = k + 1 := ⟨n - 1, by omega⟩
  rw [nI_pred]; rfl
theorem z_nm1 {n : Nat} (hn : n < 1000) : ¬ nI n = -1 := fun e => by
  have := congrArg Int32.toInt e
  rw [nI_toInt (by omega)] at this
  simp at this
end
theorem z_cntB : ∀ (n r : Nat) (P : Nat → Bool) (f : Nat → Nat), (∀ i, i < r → f i < n ∧ P (f i) = true) → (∀ i j, i < r → j < r → f i = f j → i = j) → (∀ b, b < n → P b = true → ∃ i, i < r ∧ f i = b) → z_cnt P n = r := by
  intro n
  induction n with
  | zero =>
    intro r P f h1 _ _
    cases r with
    | zero => rfl
    | succ r => exact absurd (h1 0 (by omega)).1 (by omega)
  | succ n ih =>
    intro r P f h1 h2 h3
    show z_cnt P n + (if P n = true then 1 else 0) = r
    cases hP : P n with
    | false =>
      have ne : ∀ i, i < r → f i ≠ n := fun i hi e => by
        have := (h1 i hi).2
        rw [e, hP] at this
        exact Bool.noConfusion this
      rw [ih r P f (fun i hi => ⟨by have := (h1 i hi).1; have := ne i hi; omega, (h1 i hi).2⟩) h2 (fun b hb hb2 => h3 b (by omega) hb2)]
      rfl
    | true =>
      obtain ⟨i0, hi0, e0⟩ := h3 n (by omega) hP
      have ne : ∀ i, i < r → i ≠ i0 → f i ≠ n := fun i hi hn e => hn (h2 i i0 hi hi0 (e.trans e0.symm))
      have hf : ∀ i, i < r - 1 → (if i < i0 then f i else f (i + 1)) < n ∧ P (if i < i0 then f i else f (i + 1)) = true := fun i hi => by
        split
        · exact ⟨by have := (h1 i (by omega)).1; have := ne i (by omega) (by omega); omega, (h1 i (by omega)).2⟩
        · exact ⟨by have := (h1 (i + 1) (by omega)).1; have := ne (i + 1) (by omega) (by omega); omega, (h1 (i + 1) (by omega)).2⟩
      rw [ih (r - 1) P (fun i => if i < i0 then f i else f (i + 1)) hf (fun i j hi hj e => ?_) (fun b hb hb2 => ?_)]
      · show r - 1 + 1 = r
        omega
      · have e' : (if i < i0 then f i else f (i + 1)) = (if j < i0 then f j else f (j + 1)) := e
        split at e' <;> split at e'
        · exact h2 i j (by omega) (by omega) e'
        · have := h2 i (j + 1) (by omega) (by omega) e'; omega
        · have := h2 (i + 1) j (by omega) (by omega) e'; omega
        · have := h2 (i + 1) (j + 1) (by omega) (by omega) e'; omega
      · obtain ⟨i, hi, e⟩ := h3 b (by omega) hb2
        have hne : i ≠ i0 := fun q => by rw [q, e0] at e; omega
        by_cases hl : i < i0
        · exact ⟨i, by omega, by show (if i < i0 then f i else f (i + 1)) = b; rw [if_pos hl]; exact e⟩
        · exact ⟨i - 1, by omega, by show (if i - 1 < i0 then f (i - 1) else f (i - 1 + 1)) = b; rw [if_neg (by omega), show i - 1 + 1 = i by omega]; exact e⟩
theorem z_cnt_lt {P : Nat → Bool} : ∀ n b, b < n → P b = false → z_cnt P n < n := by
  intro n
  induction n with
  | zero => intro b hb; omega
  | succ n ih =>
    intro b hb hP
    show z_cnt P n + (if P n = true then 1 else 0) < n + 1
    by_cases e : b = n
    · subst e
      rw [hP]
      have := z_cnt_le P b
      show z_cnt P b + 0 < b + 1
      omega
    · have := ih b (by omega) hP
      split <;> omega
/-- a row of just those below n that P holds of -/
def z_Rw (n r : Nat) (P : Nat → Prop) (f : Nat → Int32) : Prop := (∀ i, i < r → ∃ b, b < n ∧ f i = nI b ∧ P b) ∧ (∀ i j, i < r → j < r → f i = f j → i = j) ∧ ∀ b, b < n → P b → ∃ i, i < r ∧ f i = nI b
theorem z_Rw.cnt {n r : Nat} {P : Nat → Prop} {f : Nat → Int32} (h : z_Rw n r P f) (hn : n < 1000) (B : Nat → Bool) (hB : ∀ b, b < n → (B b = true ↔ P b)) : z_cnt B n = r := by
  obtain ⟨h1, h2, h3⟩ := h
  have e : ∀ i, i < r → z_ix (f i) < n ∧ f i = nI (z_ix (f i)) ∧ P (z_ix (f i)) := fun i hi => by
    obtain ⟨b, hb, e1, e2⟩ := h1 i hi
    rw [e1, z_ix_nI (by omega)]
    exact ⟨hb, rfl, e2⟩
  refine z_cntB n r B (fun i => z_ix (f i)) (fun i hi => ⟨(e i hi).1, (hB _ (e i hi).1).mpr (e i hi).2.2⟩) (fun i j hi hj q => h2 i j hi hj ?_) (fun b hb q => ?_)
  · rw [(e i hi).2.1, (e j hj).2.1]; exact congrArg nI q
  · obtain ⟨i, hi, ei⟩ := h3 b hb ((hB b hb).mp q)
    exact ⟨i, hi, by show z_ix (f i) = b; rw [ei, z_ix_nI (by omega)]⟩
theorem z_Rw.le {n r : Nat} {P : Nat → Prop} {f : Nat → Int32} (h : z_Rw n r P f) (hn : n < 1000) : r ≤ n := by
  have := Classical.propDecidable
  rw [← h.cnt hn (fun b => decide (P b)) (fun b _ => by simp)]
  exact z_cnt_le _ _
theorem z_Rw.lt {n r b : Nat} {P : Nat → Prop} {f : Nat → Int32} (h : z_Rw n r P f) (hn : n < 1000) (hb : b < n) (hp : ¬ P b) : r < n := by
  have := Classical.propDecidable
  rw [← h.cnt hn (fun b => decide (P b)) (fun b _ => by simp)]
  exact z_cnt_lt n b hb (decide_eq_false hp)
theorem z_Rw.eqv {n r : Nat} {P P' : Nat → Prop} {f f' : Nat → Int32} (h : z_Rw n r P f) (hP : ∀ b, b < n → (P' b ↔ P b)) (hf : ∀ i, i < r → f' i = f i) : z_Rw n r P' f' := by
  obtain ⟨h1, h2, h3⟩ := h
  refine ⟨fun i hi => ?_, fun i j hi hj e => h2 i j hi hj (by rw [← hf i hi, ← hf j hj]; exact e), fun b hb hp => ?_⟩
  · obtain ⟨b, hb, e1, e2⟩ := h1 i hi
    exact ⟨b, hb, (hf i hi).trans e1, (hP b hb).mpr e2⟩
  · obtain ⟨i, hi, e⟩ := h3 b hb ((hP b hb).mp hp)
    exact ⟨i, hi, (hf i hi).trans e⟩
theorem z_Rw.ins {n r p b : Nat} {P : Nat → Prop} {f : Nat → Int32} (h : z_Rw n r P f) (hn : n < 1000) (hp : p ≤ r) (hb : b < n) (hb2 : ¬ P b) : z_Rw n (r + 1) (fun q => q = b ∨ P q) (z_insF f r p (nI b)) := by
  obtain ⟨h1, h2, h3⟩ := h
  have at0 : ∀ i, i < r + 1 → (i = p ∧ z_insF f r p (nI b) i = nI b) ∨ (i < p ∧ i < r ∧ z_insF f r p (nI b) i = f i) ∨ (p < i ∧ i - 1 < r ∧ z_insF f r p (nI b) i = f (i - 1)) := fun i hi => by
    unfold z_insF
    by_cases e : i = p
    · exact Or.inl ⟨e, if_pos e⟩
    · rw [if_neg e]
      by_cases e2 : i < p
      · exact Or.inr (Or.inl ⟨e2, by omega, if_neg (by omega)⟩)
      · exact Or.inr (Or.inr ⟨by omega, by omega, if_pos (by omega)⟩)
  have ne : ∀ i, i < r → ¬ f i = nI b := fun i hi e => by
    obtain ⟨c, hc, e1, e2⟩ := h1 i hi
    have : c = b := (nI_eq (by omega) (by omega)).mp (e1.symm.trans e)
    exact hb2 (this ▸ e2)
  refine ⟨fun i hi => ?_, fun i j hi hj e => ?_, fun c hc hp2 => ?_⟩
  · rcases at0 i hi with ⟨e1, e⟩ | ⟨e1, e2, e⟩ | ⟨e1, e2, e⟩
    · exact ⟨b, hb, e, Or.inl rfl⟩
    · obtain ⟨c, hc, q1, q2⟩ := h1 _ e2
      exact ⟨c, hc, e.trans q1, Or.inr q2⟩
    · obtain ⟨c, hc, q1, q2⟩ := h1 _ e2
      exact ⟨c, hc, e.trans q1, Or.inr q2⟩
  · rcases at0 i hi with ⟨e1, e2⟩ | ⟨e1, e2, e3⟩ | ⟨e1, e2, e3⟩ <;> rcases at0 j hj with ⟨d1, d2⟩ | ⟨d1, d2, d3⟩ | ⟨d1, d2, d3⟩
    · omega
    · exact absurd (d3.symm.trans (e.symm.trans e2)) (ne j d2)
    · exact absurd (d3.symm.trans (e.symm.trans e2)) (ne (j - 1) d2)
    · exact absurd (e3.symm.trans (e.trans d2)) (ne i e2)
    · exact h2 i j e2 d2 (e3.symm.trans (e.trans d3))
    · have := h2 i (j - 1) e2 d2 (e3.symm.trans (e.trans d3)); omega
    · exact absurd (e3.symm.trans (e.trans d2)) (ne (i - 1) e2)
    · have := h2 (i - 1) j e2 d2 (e3.symm.trans (e.trans d3)); omega
    · have := h2 (i - 1) (j - 1) e2 d2 (e3.symm.trans (e.trans d3)); omega
  · by_cases ec : c = b
    · exact ⟨p, by omega, by unfold z_insF; rw [if_pos rfl, ec]⟩
    · rcases hp2 with hp2 | hp2
      · exact absurd hp2 ec
      · obtain ⟨i, hi, e⟩ := h3 c hc hp2
        by_cases el : i < p
        · exact ⟨i, by omega, by unfold z_insF; rw [if_neg (by omega), if_neg (by omega)]; exact e⟩
        · exact ⟨i + 1, by omega, by unfold z_insF; rw [if_neg (by omega), if_pos (by omega)]; exact e⟩
theorem z_Rw.rem {n r p b : Nat} {P : Nat → Prop} {f : Nat → Int32} (h : z_Rw n r P f) (hn : n < 1000) (hp : p < r) (hb : b < n) (e0 : f p = nI b) : z_Rw n (r - 1) (fun q => q ≠ b ∧ P q) (z_remF f r p) := by
  obtain ⟨h1, h2, h3⟩ := h
  have at0 : ∀ i, i < r - 1 → (i < p ∧ z_remF f r p i = f i) ∨ (p ≤ i ∧ z_remF f r p i = f (i + 1)) := fun i hi => by
    unfold z_remF
    by_cases e : p ≤ i
    · exact Or.inr ⟨e, if_pos (by omega)⟩
    · exact Or.inl ⟨by omega, if_neg (by omega)⟩
  refine ⟨fun i hi => ?_, fun i j hi hj e => ?_, fun c hc hp2 => ?_⟩
  · rcases at0 i hi with ⟨e1, e⟩ | ⟨e1, e⟩
    · obtain ⟨c, hc, q1, q2⟩ := h1 i (by omega)
      refine ⟨c, hc, e.trans q1, fun q => ?_, q2⟩
      have := h2 i p (by omega) hp (by rw [q1, e0, q]); omega
    · obtain ⟨c, hc, q1, q2⟩ := h1 (i + 1) (by omega)
      refine ⟨c, hc, e.trans q1, fun q => ?_, q2⟩
      have := h2 (i + 1) p (by omega) hp (by rw [q1, e0, q]); omega
  · rcases at0 i hi with ⟨e1, e2⟩ | ⟨e1, e2⟩ <;> rcases at0 j hj with ⟨d1, d2⟩ | ⟨d1, d2⟩
    · exact h2 i j (by omega) (by omega) (e2.symm.trans (e.trans d2))
    · have := h2 i (j + 1) (by omega) (by omega) (e2.symm.trans (e.trans d2)); omega
    · have := h2 (i + 1) j (by omega) (by omega) (e2.symm.trans (e.trans d2)); omega
    · have := h2 (i + 1) (j + 1) (by omega) (by omega) (e2.symm.trans (e.trans d2)); omega
  · obtain ⟨i, hi, e⟩ := h3 c hc hp2.2
    have hne : i ≠ p := fun q => hp2.1 (by rw [q, e0] at e; exact ((nI_eq (by omega) (by omega)).mp e).symm)
    by_cases el : i < p
    · exact ⟨i, by omega, by unfold z_remF; rw [if_neg (by omega)]; exact e⟩
    · exact ⟨i - 1, by omega, by unfold z_remF; rw [if_pos (by omega), show i - 1 + 1 = i by omega]; exact e⟩
/-- the number of what is behind b, one less -/
def z_sk (b q : Nat) : Nat := if b ≤ q then q + 1 else q
theorem z_forN {b c : Nat} (hb : b < 1000) (hc : c < 1000) (hn : c ≠ b) : z_forV (nI b) (nI c) = nI (if b < c then c - 1 else c) := by
  unfold z_forV
  rw [if_neg (fun e => hn ((nI_eq (by omega) (by omega)).mp e))]
  by_cases h : b < c
  · rw [if_pos ((nI_ltI (by omega) (by omega)).mpr h), if_pos h, z_predN (by omega)]
  · rw [if_neg (fun e => h ((nI_ltI (by omega) (by omega)).mp e)), if_neg h]
theorem z_Rw.ren {n r b : Nat} {P : Nat → Prop} {f : Nat → Int32} (h : z_Rw n r P f) (hn : n < 1000) (hb : b < n) (hb2 : ¬ P b) : z_Rw (n - 1) r (fun q => P (z_sk b q)) (z_forF f r (nI b)) := by
  obtain ⟨h1, h2, h3⟩ := h
  have at0 : ∀ i, i < r → ∃ c, c < n ∧ c ≠ b ∧ P c ∧ f i = nI c ∧ z_forF f r (nI b) i = nI (if b < c then c - 1 else c) := fun i hi => by
    obtain ⟨c, hc, e1, e2⟩ := h1 i hi
    have hne : c ≠ b := fun q => hb2 (q ▸ e2)
    refine ⟨c, hc, hne, e2, e1, ?_⟩
    unfold z_forF
    rw [if_pos hi, e1, z_forN (by omega) (by omega) hne]
  refine ⟨fun i hi => ?_, fun i j hi hj e => ?_, fun c hc hp2 => ?_⟩
  · obtain ⟨c, hc, hne, hp, _, e⟩ := at0 i hi
    refine ⟨_, ?_, e, ?_⟩
    · split <;> omega
    · have : z_sk b (if b < c then c - 1 else c) = c := by unfold z_sk; split <;> split <;> omega
      show P (z_sk b (if b < c then c - 1 else c))
      rw [this]; exact hp
  · obtain ⟨c, hc, hne, _, e1, e2⟩ := at0 i hi
    obtain ⟨c', hc', hne', _, e1', e2'⟩ := at0 j hj
    have q : (if b < c then c - 1 else c) = (if b < c' then c' - 1 else c') := (nI_eq (by split <;> omega) (by split <;> omega)).mp (e2.symm.trans (e.trans e2'))
    have : c = c' := by split at q <;> split at q <;> omega
    exact h2 i j hi hj (by rw [e1, e1', this])
  · obtain ⟨i, hi, e⟩ := h3 (z_sk b c) (by unfold z_sk; split <;> omega) hp2
    refine ⟨i, hi, ?_⟩
    unfold z_forF
    rw [if_pos hi, e, z_forN (by omega) (by unfold z_sk; split <;> omega) (by unfold z_sk; split <;> omega)]
    congr 1
    unfold z_sk
    split <;> split <;> omega
def z_wC (x : z_LV) : Prop := (∀ j, j < 4 → x.1 j = x.1 0) ∧ x.1 4 = 3 ∧ x.1 0 ≤ 8 ∧ (∀ i, i < x.1 0 → z_rng (x.2 0 i) 60 ∧ z_rng (x.2 1 i) 25 ∧ z_rng (x.2 2 i) 4) ∧ ∀ k, k < 3 → z_kOk (x.1 0) (x.2 4 k)
def z_wB (n : Nat) (y : z_LV) : Prop := (∀ j, j < 5 → y.1 j = y.1 0) ∧ y.1 5 ≤ y.1 0 ∧ y.1 0 ≤ 10 ∧ (∀ b, b < y.1 0 → z_kOk n (y.2 0 b) ∧ z_rng (y.2 1 b) 60 ∧ z_rng (y.2 2 b) 10 ∧ z_rng (y.2 3 b) 13) ∧ z_Rw (y.1 0) (y.1 5) (fun b => y.2 3 b = 0) (y.2 5)
theorem z_wf.C {v : z_HV} (h : z_wf v) : z_wC v.1 := ⟨h.1.1, h.1.2.1, h.2.1, h.2.2.2.1, h.2.2.2.2.1⟩
theorem z_wf.B {v : z_HV} (h : z_wf v) : z_wB (v.1.1 0) v.2.1 := ⟨h.1.2.2.1, h.1.2.2.2, h.2.2.1, h.2.2.2.2.2.1, h.2.2.2.2.2.2⟩
theorem z_wf.mk {x y : z_LV} {w : Nat → Int32} (hC : z_wC x) (hB : z_wB (x.1 0) y) : z_wf (x, y, w) := ⟨⟨hC.1, hC.2.1, hB.1, hB.2.1⟩, hC.2.2.1, hB.2.2.1, hC.2.2.2.1, hC.2.2.2.2, hB.2.2.2.1, hB.2.2.2.2⟩
theorem z_kOk.mono {n n' : Nat} {x : Int32} (h : z_kOk n x) (hn : n ≤ n') : z_kOk n' x := by
  rcases h with h | ⟨k, hk, e⟩
  · exact Or.inl h
  · exact Or.inr ⟨k, by omega, e⟩
theorem z_wB.mono {n n' : Nat} {y : z_LV} (h : z_wB n y) (hn : n ≤ n') : z_wB n' y := ⟨h.1, h.2.1, h.2.2.1, fun b hb => ⟨(h.2.2.2.1 b hb).1.mono hn, (h.2.2.2.1 b hb).2⟩, h.2.2.2.2⟩
theorem z_kOk.forV {n i : Nat} {x : Int32} (h : z_kOk n x) (hn : n < 1000) (hi : i < n) : z_kOk (n - 1) (z_forV (nI i) x) := by
  rcases h with rfl | ⟨k, hk, rfl⟩
  · refine Or.inl ?_
    unfold z_forV
    rw [if_neg (fun e => z_nm1 (n := i) (by omega) e.symm), if_neg]
    rw [Int32.lt_iff_toInt_lt, nI_toInt (by omega)]
    simp
  · by_cases e : k = i
    · subst e
      exact Or.inl (by unfold z_forV; rw [if_pos rfl])
    · rw [z_forN (by omega) (by omega) e]
      refine Or.inr ⟨_, ?_, rfl⟩
      split <;> omega
theorem z_rng.zero {n : Nat} (h : 0 < n) : z_rng 0 n := ⟨0, h, rfl⟩
theorem z_inOr {s lo hi : Int32} (h : ¬ (s < lo ∨ hi < s)) : z_inR s lo hi = true := by
  cases e : z_inR s lo hi with
  | true => rfl
  | false => exact absurd (z_inNot.mp e) h
theorem z_wC.come {x : z_LV} {s l : Int32} (h : z_wC x) (h8 : x.1 0 < 8) (hs : z_rng s 60) (hl : z_rng l 4) : z_wC (z_come x s l) := by
  obtain ⟨a1, a2, a3, a4, a5⟩ := h
  have s1 := a1 1 (by decide)
  have s2 := a1 2 (by decide)
  have s3 := a1 3 (by decide)
  have e0 : (z_come x s l).1 0 = x.1 0 + 1 := rfl
  have d0 : (z_come x s l).2 0 = upd (x.2 0) (x.1 0) s := rfl
  have d1 : (z_come x s l).2 1 = upd (x.2 1) (x.1 0) 24 := by rw [← s1]; rfl
  have d2 : (z_come x s l).2 2 = upd (x.2 2) (x.1 0) l := by rw [← s2]; rfl
  refine ⟨fun j hj => ?_, a2, ?_, fun i hi => ?_, fun k hk => ?_⟩
  · have c4 : j = 0 ∨ j = 1 ∨ j = 2 ∨ j = 3 := by omega
    rw [e0]
    rcases c4 with rfl | rfl | rfl | rfl
    · rfl
    · show x.1 1 + 1 = _; rw [s1]
    · show x.1 2 + 1 = _; rw [s2]
    · show x.1 3 + 1 = _; rw [s3]
  · rw [e0]; omega
  · rw [e0] at hi
    rw [d0, d1, d2]
    by_cases e : i = x.1 0
    · rw [e, z_updE (α := Nat), z_updE (α := Nat), z_updE (α := Nat)]
      exact ⟨hs, ⟨24, by decide, rfl⟩, hl⟩
    · rw [z_updN _ _ e, z_updN _ _ e, z_updN _ _ e]
      exact a4 i (by omega)
  · rw [e0]
    exact (a5 k hk).mono (Nat.le_succ _)
theorem z_wC.away {v : z_HV} {i : Nat} (h : z_wf v) (hi : i < v.1.1 0) : z_wC (z_away v.1 (nI i)) := by
  obtain ⟨a1, a2, a3, a4, a5⟩ := h.C
  obtain ⟨b1, b2, b3, b4⟩ := z_awayE h.wz hi
  refine ⟨fun j hj => by rw [b1 j hj, b1 0 (by decide)], b2, by rw [b1 0 (by decide)]; omega, fun q hq => ?_, fun k hk => ?_⟩
  · rw [b1 0 (by decide)] at hq
    rw [b3 0 (by decide), b3 1 (by decide), b3 2 (by decide)]
    unfold z_remF
    by_cases e : i ≤ q ∧ q + 1 < v.1.1 0
    · rw [if_pos e, if_pos e, if_pos e]; exact a4 (q + 1) (by omega)
    · rw [if_neg e, if_neg e, if_neg e]; exact a4 q (by omega)
  · rw [b1 0 (by decide), b4]
    unfold z_forF
    rw [if_pos hk]
    exact (a5 k hk).forV (by omega) hi
theorem z_wB.forL {n i : Nat} {y : z_LV} (h : z_wB n y) (hn : n < 1000) (hi : i < n) : z_wB (n - 1) (z_forL y 0 (nI i)) := by
  obtain ⟨a1, a2, a3, a4, a5⟩ := h
  refine ⟨a1, a2, a3, fun b hb => ⟨?_, (a4 b hb).2⟩, a5⟩
  have hb2 : b < y.1 0 := hb
  show z_kOk (n - 1) (if b < y.1 0 then z_forV (nI i) (y.2 0 b) else y.2 0 b)
  rw [if_pos hb2]
  exact (a4 b hb).1.forV hn hi
theorem z_wC.putK {x : z_LV} {k : Nat} {c : Int32} (h : z_wC x) (hk : k < 3) (hc : z_kOk (x.1 0) c) : z_wC (z_putL x 4 (nI k) c) := by
  obtain ⟨a1, a2, a3, a4, a5⟩ := h
  rw [z_putLI (by rw [a2]; exact hk) (by rw [a2]; decide)]
  refine ⟨a1, a2, a3, a4, fun k' hk' => ?_⟩
  show z_kOk (x.1 0) (upd (x.2 4) k c k')
  by_cases e : k' = k
  · rw [e, z_updE (α := Nat)]; exact hc
  · rw [z_updN _ _ e]; exact a5 k' hk'
theorem z_wB.tbl {n : Nat} {y : z_LV} {c s d : Int32} (h : z_wB n y) (h10 : y.1 0 < 10) (hc : z_kOk n c) (hs : z_rng s 60) (hd : z_rng d 10) : z_wB n (z_tbl y c s d) := by
  obtain ⟨a1, a2, a3, a4, a5⟩ := h
  have s1 := a1 1 (by decide)
  have s2 := a1 2 (by decide)
  have s3 := a1 3 (by decide)
  have s4 := a1 4 (by decide)
  have e0 : (z_tbl y c s d).1 0 = y.1 0 + 1 := rfl
  have e5 : (z_tbl y c s d).1 5 = y.1 5 + 1 := rfl
  have d0 : (z_tbl y c s d).2 0 = upd (y.2 0) (y.1 0) c := rfl
  have d1 : (z_tbl y c s d).2 1 = upd (y.2 1) (y.1 0) s := by rw [← s1]; rfl
  have d2 : (z_tbl y c s d).2 2 = upd (y.2 2) (y.1 0) d := by rw [← s2]; rfl
  have d3 : (z_tbl y c s d).2 3 = upd (y.2 3) (y.1 0) 0 := by rw [← s3]; rfl
  have d5 : (z_tbl y c s d).2 5 = upd (y.2 5) (y.1 5) (nI (y.1 0)) := rfl
  refine ⟨fun j hj => ?_, ?_, ?_, fun b hb => ?_, ?_⟩
  · have c5 : j = 0 ∨ j = 1 ∨ j = 2 ∨ j = 3 ∨ j = 4 := by omega
    rw [e0]
    rcases c5 with rfl | rfl | rfl | rfl | rfl
    · rfl
    · show y.1 1 + 1 = _; rw [s1]
    · show y.1 2 + 1 = _; rw [s2]
    · show y.1 3 + 1 = _; rw [s3]
    · show y.1 4 + 1 = _; rw [s4]
  · rw [e0, e5]; omega
  · rw [e0]; omega
  · rw [e0] at hb
    rw [d0, d1, d2, d3]
    by_cases e : b = y.1 0
    · rw [e, z_updE (α := Nat), z_updE (α := Nat), z_updE (α := Nat), z_updE (α := Nat)]
      exact ⟨hc, hs, hd, z_rng.zero (by decide)⟩
    · rw [z_updN _ _ e, z_updN _ _ e, z_updN _ _ e, z_updN _ _ e]
      exact a4 b (by omega)
  · rw [e0, e5, d3, d5]
    have w : z_Rw (y.1 0 + 1) (y.1 5) (fun b => b < y.1 0 ∧ y.2 3 b = 0) (y.2 5) := by
      refine ⟨fun i hi => ?_, a5.2.1, fun b hb hp => a5.2.2 b hp.1 hp.2⟩
      obtain ⟨b, hb, q1, q2⟩ := a5.1 i hi
      exact ⟨b, by omega, q1, hb, q2⟩
    refine (w.ins (by omega) (Nat.le_refl _) (b := y.1 0) (by omega) (fun q => absurd q.1 (by omega))).eqv (fun b hb => ?_) (fun i hi => ?_)
    · by_cases e : b = y.1 0
      · rw [e, z_updE (α := Nat)]; exact ⟨fun _ => Or.inl rfl, fun _ => rfl⟩
      · rw [z_updN _ _ e]
        exact ⟨fun q => Or.inr ⟨by omega, q⟩, fun q => q.elim (fun q => absurd q e) (fun q => q.2)⟩
    · unfold z_insF
      by_cases e : i = y.1 5
      · rw [e, z_updE (α := Nat), if_pos rfl]
      · rw [z_updN _ _ e, if_neg e, if_neg (by omega)]
theorem z_firstNo {P : Nat → Bool} : ∀ m i, z_first P m i = none → ∀ j, i ≤ j → j < i + m → P j = false := by
  intro m
  induction m with
  | zero => intro i _ j h1 h2; omega
  | succ m ih =>
    intro i h j h1 h2
    have e : (if P i = true then some i else z_first P m (i + 1)) = none := h
    by_cases hp : P i = true
    · rw [if_pos hp] at e; exact absurd e (by simp)
    · rw [if_neg hp] at e
      by_cases q : j = i
      · rw [q]; exact Bool.eq_false_iff.mpr hp
      · exact ih (i + 1) e j (by omega) (by omega)
theorem z_plcIn {n r b : Nat} {P : Nat → Prop} {f : Nat → Int32} (h : z_Rw n r P f) (hn : n < 1000) (hb : b < n) (hp : P b) : ∃ p, p < r ∧ z_plc f r (nI b) = nI p ∧ f p = nI b := by
  rcases z_plcR f r (nI b) with e | e
  · obtain ⟨i, hi, ei⟩ := h.2.2 b hb hp
    exfalso
    rw [z_plcO] at e
    cases e2 : z_first (fun i => decide (f i = nI b)) r 0 with
    | none =>
      have := z_firstNo r 0 e2 i (by omega) (by omega)
      rw [ei] at this
      simp at this
    | some j =>
      rw [e2] at e
      exact z_nm1 (n := j) (by have := h.le hn; have := (z_firstP r 0 e2).2.2; omega) e
  · exact e
theorem z_plcOut {n r b : Nat} {P : Nat → Prop} {f : Nat → Int32} (h : z_Rw n r P f) (hn : n < 1000) (hb : b < n) (hp : ¬ P b) : z_plc f r (nI b) = -1 := by
  rcases z_plcR f r (nI b) with e | ⟨p, hp1, e1, e2⟩
  · exact e
  · obtain ⟨c, hc, q1, q2⟩ := h.1 p hp1
    have : b = c := (nI_eq (by omega) (by omega)).mp (e2.symm.trans q1)
    exact absurd (this ▸ q2) hp
theorem z_rowOut_c {y y' : z_LV} (b : Int32) (h1 : y'.1 5 = y.1 5) (h2 : y'.2 5 = y.2 5) : (z_rowOut y' b).1 5 = (z_rowOut y b).1 5 ∧ (z_rowOut y' b).2 5 = (z_rowOut y b).2 5 := by
  unfold z_rowOut z_remL
  rw [h1, h2]
  split
  · exact ⟨rfl, rfl⟩
  · exact ⟨h1, h2⟩
theorem z_rem5E {y : z_LV} {i : Nat} (hs : ∀ j, j < 5 → y.1 j = y.1 0) (hn : y.1 0 < 1000) (hi : i < y.1 0) : (∀ j, j < 5 → (z_rem5 y (nI i)).1 j = y.1 0 - 1) ∧ (z_rem5 y (nI i)).1 5 = y.1 5 ∧ (∀ j, j < 5 → (z_rem5 y (nI i)).2 j = z_remF (y.2 j) (y.1 0) i) ∧ (z_rem5 y (nI i)).2 5 = y.2 5 := by
  have s1 := hs 1 (by decide)
  have s2 := hs 2 (by decide)
  have s3 := hs 3 (by decide)
  have s4 := hs 4 (by decide)
  have e0 := z_remI (x := y) (j := 0) (i := i) hi (by omega)
  have e1 := z_remI (x := z_remL y 0 (nI i)) (j := 1) (i := i) (by rw [e0]; show i < y.1 1; omega) (by rw [e0]; show y.1 1 < 1000; omega)
  have e2 := z_remI (x := z_remL (z_remL y 0 (nI i)) 1 (nI i)) (j := 2) (i := i) (by rw [e1, e0]; show i < y.1 2; omega) (by rw [e1, e0]; show y.1 2 < 1000; omega)
  have e3 := z_remI (x := z_remL (z_remL (z_remL y 0 (nI i)) 1 (nI i)) 2 (nI i)) (j := 3) (i := i) (by rw [e2, e1, e0]; show i < y.1 3; omega) (by rw [e2, e1, e0]; show y.1 3 < 1000; omega)
  have e4 := z_remI (x := z_remL (z_remL (z_remL (z_remL y 0 (nI i)) 1 (nI i)) 2 (nI i)) 3 (nI i)) (j := 4) (i := i) (by rw [e3, e2, e1, e0]; show i < y.1 4; omega) (by rw [e3, e2, e1, e0]; show y.1 4 < 1000; omega)
  have c5 : ∀ j, j < 5 → j = 0 ∨ j = 1 ∨ j = 2 ∨ j = 3 ∨ j = 4 := fun j hj => by omega
  unfold z_rem5
  rw [e4, e3, e2, e1, e0]
  refine ⟨fun j hj => ?_, rfl, fun j hj => ?_, rfl⟩
  · rcases c5 j hj with rfl | rfl | rfl | rfl | rfl
    · rfl
    · show y.1 1 - 1 = _; rw [s1]
    · show y.1 2 - 1 = _; rw [s2]
    · show y.1 3 - 1 = _; rw [s3]
    · show y.1 4 - 1 = _; rw [s4]
  · rcases c5 j hj with rfl | rfl | rfl | rfl | rfl
    · rfl
    · show z_remF (y.2 1) (y.1 1) i = _; rw [s1]
    · show z_remF (y.2 2) (y.1 2) i = _; rw [s2]
    · show z_remF (y.2 3) (y.1 3) i = _; rw [s3]
    · show z_remF (y.2 4) (y.1 4) i = _; rw [s4]
theorem z_goneE {y : z_LV} {i : Nat} (hs : ∀ j, j < 5 → y.1 j = y.1 0) (hn : y.1 0 < 1000) (hi : i < y.1 0) : (∀ j, j < 5 → (z_gone1 y (nI i)).1 j = y.1 0 - 1) ∧ (z_gone1 y (nI i)).1 5 = (z_rowOut y (nI i)).1 5 ∧ (∀ j, j < 5 → (z_gone1 y (nI i)).2 j = z_remF (y.2 j) (y.1 0) i) ∧ (z_gone1 y (nI i)).2 5 = z_forF ((z_rowOut y (nI i)).2 5) ((z_rowOut y (nI i)).1 5) (nI i) := by
  obtain ⟨b1, b2, b3, b4⟩ := z_rem5E hs hn hi
  obtain ⟨r1, r2⟩ := z_rowOut_c (nI i) b2 b4
  refine ⟨fun j hj => ?_, ?_, fun j hj => ?_, ?_⟩
  · show (z_rowOut (z_rem5 y (nI i)) (nI i)).1 j = _
    rw [z_rowOut_1 _ _ (by omega), b1 j hj]
  · exact r1
  · show (if j = 5 then _ else (z_rowOut (z_rem5 y (nI i)) (nI i)).2 j) = _
    rw [if_neg (by omega), z_rowOut_2 _ _ (by omega), b3 j hj]
  · show z_forF ((z_rowOut (z_rem5 y (nI i)) (nI i)).2 5) ((z_rowOut (z_rem5 y (nI i)) (nI i)).1 5) (nI i) = _
    rw [r1, r2]
theorem z_wB.rowR {n i : Nat} {y : z_LV} (h : z_wB n y) (hi : i < y.1 0) : ∃ r, (z_rowOut y (nI i)).1 5 = r ∧ z_Rw (y.1 0) r (fun q => q ≠ i ∧ y.2 3 q = 0) ((z_rowOut y (nI i)).2 5) := by
  obtain ⟨a1, a2, a3, a4, a5⟩ := h
  rcases z_rowOutE (y := y) (b := nI i) (by omega) with ⟨e, e2⟩ | ⟨p, hp, e, ep, e2⟩
  · rw [e2]
    refine ⟨_, rfl, a5.eqv (fun b hb => ⟨fun q => q.2, fun q => ⟨fun q2 => ?_, q⟩⟩) (fun _ _ => rfl)⟩
    obtain ⟨p, hp, e3, _⟩ := z_plcIn a5 (by omega) hi (q2 ▸ q)
    rw [e] at e3
    exact z_nm1 (n := p) (by omega) e3.symm
  · rw [e2]
    refine ⟨_, rfl, ?_⟩
    have := a5.rem (by omega) hp hi ep
    exact this
theorem z_wB.gone {n i : Nat} {y : z_LV} (h : z_wB n y) (hi : i < y.1 0) : z_wB n (z_gone1 y (nI i)) := by
  obtain ⟨a1, a2, a3, a4, a5⟩ := h
  obtain ⟨b1, b2, b3, b4⟩ := z_goneE a1 (by omega) hi
  have rw5 := z_wB.rowR ⟨a1, a2, a3, a4, a5⟩ hi
  obtain ⟨r, er, hR⟩ := rw5
  have hR2 := hR.ren (by omega) hi (fun q => q.1 rfl)
  refine ⟨fun j hj => by rw [b1 j hj, b1 0 (by decide)], ?_, by rw [b1 0 (by decide)]; omega, fun b hb => ?_, ?_⟩
  · rw [b2, b1 0 (by decide), er]
    exact hR2.le (by omega)
  · rw [b1 0 (by decide)] at hb
    rw [b3 0 (by decide), b3 1 (by decide), b3 2 (by decide), b3 3 (by decide)]
    unfold z_remF
    by_cases e : i ≤ b ∧ b + 1 < y.1 0
    · rw [if_pos e, if_pos e, if_pos e, if_pos e]; exact a4 (b + 1) (by omega)
    · rw [if_neg e, if_neg e, if_neg e, if_neg e]; exact a4 b (by omega)
  · rw [b1 0 (by decide), b2, b3 3 (by decide), b4, er]
    refine hR2.eqv (fun b hb => ?_) (fun _ _ => rfl)
    unfold z_remF z_sk
    by_cases e : i ≤ b
    · rw [if_pos e, if_pos (by omega)]
      exact ⟨fun q => ⟨by omega, q⟩, fun q => q.2⟩
    · rw [if_neg e, if_neg (by omega)]
      exact ⟨fun q => ⟨by omega, q⟩, fun q => q.2⟩
theorem z_putV {x : z_LV} {j c : Nat} {y : Int32} (hc : c < x.1 j) (hn : x.1 j < 1000) (j' i : Nat) : (z_putL x j (nI c) y).2 j' i = if j' = j ∧ i = c then y else x.2 j' i := by
  rw [z_putLI hc hn]
  show (if j' = j then upd (x.2 j) c y else x.2 j') i = _
  by_cases e : j' = j
  · subst e
    rw [if_pos rfl]
    by_cases e2 : i = c
    · rw [e2, z_updE (α := Nat), if_pos ⟨rfl, rfl⟩]
    · rw [z_updN _ _ e2, if_neg (fun q => e2 q.2)]
  · rw [if_neg e, if_neg (fun q => e q.1)]
theorem z_wB.off {n i : Nat} {y : z_LV} {k : Int32} (h : z_wB n y) (hi : i < y.1 0) (hk : z_rng k 13) (hk0 : k ≠ 0) (h0 : y.2 3 i = 0) : z_wB n (z_off y (nI i) k) := by
  obtain ⟨a1, a2, a3, a4, a5⟩ := h
  obtain ⟨p, hp, e1, e2⟩ := z_plcIn a5 (by omega) hi h0
  have eR : z_rowOut y (nI i) = z_upS y 5 (y.1 5 - 1) (z_remF (y.2 5) (y.1 5) p) := by
    rcases z_rowOutE (y := y) (b := nI i) (by omega) with ⟨e, _⟩ | ⟨p', hp', e, ep, e2⟩
    · rw [e1] at e; exact absurd e (z_nm1 (by omega))
    · rw [e1] at e
      have : p = p' := (nI_eq (by omega) (by omega)).mp e
      rw [this]; exact e2
  rw [z_offE, eR]
  have s3 := a1 3 (by decide)
  have s4 := a1 4 (by decide)
  have val : ∀ j q, j < 4 → (z_putL (z_putL (z_upS y 5 (y.1 5 - 1) (z_remF (y.2 5) (y.1 5) p)) 3 (nI i) k) 4 (nI i) (z_a y 4 (nI i) + 1)).2 j q = if j = 3 ∧ q = i then k else y.2 j q := fun j q hj => by
    refine (z_putV (x := z_putL (z_upS y 5 (y.1 5 - 1) (z_remF (y.2 5) (y.1 5) p)) 3 (nI i) k) (j := 4) (show i < y.1 4 by omega) (show y.1 4 < 1000 by omega) j q).trans ?_
    rw [if_neg (by omega)]
    refine (z_putV (x := z_upS y 5 (y.1 5 - 1) (z_remF (y.2 5) (y.1 5) p)) (j := 3) (show i < y.1 3 by omega) (show y.1 3 < 1000 by omega) j q).trans ?_
    show (if j = 3 ∧ q = i then k else (if j = 5 then _ else y.2 j) q) = _
    rw [if_neg (show ¬ j = 5 by omega)]
  have v5 : (z_putL (z_putL (z_upS y 5 (y.1 5 - 1) (z_remF (y.2 5) (y.1 5) p)) 3 (nI i) k) 4 (nI i) (z_a y 4 (nI i) + 1)).2 5 = z_remF (y.2 5) (y.1 5) p := rfl
  refine ⟨fun j hj => ?_, ?_, a3, fun b hb => ?_, ?_⟩
  · show (if j = 5 then _ else y.1 j) = y.1 0
    rw [if_neg (by omega)]; exact a1 j hj
  · show y.1 5 - 1 ≤ y.1 0
    omega
  · have hb2 : b < y.1 0 := hb
    rw [val 0 b (by decide), val 1 b (by decide), val 2 b (by decide), val 3 b (by decide), if_neg (by omega), if_neg (by omega), if_neg (by omega)]
    refine ⟨(a4 b hb2).1, (a4 b hb2).2.1, (a4 b hb2).2.2.1, ?_⟩
    split
    · exact hk
    · exact (a4 b hb2).2.2.2
  · rw [v5]
    show z_Rw (y.1 0) (y.1 5 - 1) _ _
    refine (a5.rem (by omega) hp hi e2).eqv (fun b hb => ?_) (fun _ _ => rfl)
    rw [val 3 b (by decide)]
    by_cases e : b = i
    · rw [if_pos ⟨rfl, e⟩]
      exact ⟨fun q => absurd q hk0, fun q => absurd e q.1⟩
    · rw [if_neg (fun q => e q.2)]
      exact ⟨fun q => ⟨e, q⟩, fun q => q.2⟩
def z_go8 : Nat → List Bool → List (List Bool)
  | 0, l => [l]
  | n + 1, l => z_go8 n (true :: l) ++ z_go8 n (false :: l)
theorem z_bit8 : ∀ l, l ∈ z_go8 8 [] → ∀ n, n < 9 → z_bc (z_bits (fun i => l.getD i false) n) = nI (z_cnt (fun i => l.getD i false) n) ∧ ∀ i, i < n → z_isIn (z_bits (fun i => l.getD i false) n) (nI i) = l.getD i false := by decide +kernel
theorem z_go8_in (b : Bool) {n : Nat} {l x : List Bool} (h : x ∈ z_go8 n (b :: l)) : x ∈ z_go8 (n + 1) l := by
  cases b with
  | true => exact List.mem_append_left _ h
  | false => exact List.mem_append_right _ h
theorem z_bitsP {P : Nat → Bool} {n : Nat} (hn : n ≤ 8) : z_bc (z_bits P n) = nI (z_cnt P n) ∧ ∀ i, i < n → z_isIn (z_bits P n) (nI i) = P i := by
  have hm : [P 0, P 1, P 2, P 3, P 4, P 5, P 6, P 7] ∈ z_go8 8 [] := z_go8_in (P 7) (z_go8_in (P 6) (z_go8_in (P 5) (z_go8_in (P 4) (z_go8_in (P 3) (z_go8_in (P 2) (z_go8_in (P 1) (z_go8_in (P 0) (List.mem_singleton.mpr rfl))))))))
  have hp : ∀ i, i < n → [P 0, P 1, P 2, P 3, P 4, P 5, P 6, P 7].getD i false = P i := fun i hi => by
    have c : i = 0 ∨ i = 1 ∨ i = 2 ∨ i = 3 ∨ i = 4 ∨ i = 5 ∨ i = 6 ∨ i = 7 := by omega
    rcases c with rfl | rfl | rfl | rfl | rfl | rfl | rfl | rfl <;> rfl
  have e1 : z_bits (fun i => [P 0, P 1, P 2, P 3, P 4, P 5, P 6, P 7].getD i false) n = z_bits P n := z_fold_c n (fun s i hi => by show (if [P 0, P 1, P 2, P 3, P 4, P 5, P 6, P 7].getD i false = true then _ else _) = _; rw [hp i hi])
  have e2 := z_cnt_c n hp
  obtain ⟨h1, h2⟩ := z_bit8 _ hm n (by omega)
  rw [e1] at h1 h2
  exact ⟨h1.trans (congrArg nI e2), fun i hi => (h2 i hi).trans (hp i hi)⟩
theorem z_lean {k : Nat} (hk : k < 4) : (2 : Int32) * nI k - 3 = nI k - (3 - nI k) := by
  have : ∀ k, k < 4 → (2 : Int32) * nI k - 3 = nI k - (3 - nI k) := by decide
  exact this k hk
theorem z_wf.row {v : z_HV} (hw : z_wf v) {r : Nat} (hr : r < v.2.1.1 5) : ∃ b, b < v.2.1.1 0 ∧ v.2.1.2 5 r = nI b ∧ v.2.1.2 3 b = 0 ∧ z_a v.2.1 5 (nI r) = nI b := by
  have h10 := hw.nb
  have hnr := hw.nr
  obtain ⟨b, hb, e1, e2⟩ := hw.2.2.2.2.2.2.1 r hr
  exact ⟨b, hb, e1, e2, by rw [z_aI hr]; exact e1⟩
theorem z_pos0 {k : Nat} (h : 0 < k) (hk : k < 1000) : (0 : Int32) < nI k := (nI_ltI (a := 0) (by decide) (by omega)).mpr h
def z_cmB (f : Nat → Int32) (b : Nat) : Bool := decide (f b = 1)
def z_dcH (x : Int32) : Int32 := if 0 < x then x - 1 else x
theorem z_cnt_s (B : Nat → Bool) (n : Nat) : z_cnt B (n + 1) = z_cnt B n + if B n = true then 1 else 0 := rfl
theorem z_cnt_mono (B : Nat → Bool) {i j : Nat} (h : i ≤ j) : z_cnt B i ≤ z_cnt B j := by
  induction j with
  | zero => rw [show i = 0 by omega]; exact Nat.le_refl _
  | succ j ih =>
    by_cases e : i = j + 1
    · rw [e]; exact Nat.le_refl _
    · have := ih (by omega)
      rw [z_cnt_s]; omega
theorem z_cnt_strict {B : Nat → Bool} {b i : Nat} (h : b < i) (hB : B b = true) : z_cnt B b + 1 ≤ z_cnt B i := by
  have := z_cnt_mono B (show b + 1 ≤ i by omega)
  rw [z_cnt_s, if_pos hB] at this
  exact this
theorem z_wB.ho {n b : Nat} {y : z_LV} (h : z_wB n y) (hb : b < y.1 0) : ∃ k, k < 13 ∧ y.2 3 b = nI k ∧ z_a y 3 (nI b) = nI k := by
  obtain ⟨k, hk, e⟩ := (h.2.2.2.1 b hb).2.2.2
  have s3 := h.1 3 (by decide)
  have := h.2.2.1
  exact ⟨k, hk, e, by rw [z_aI (by omega) (by omega)]; exact e⟩
theorem z_wB.hdnV {n i k : Nat} {y : z_LV} (h : z_wB n y) (hi : i < y.1 0) (e : y.2 3 i = nI (k + 1)) (j q : Nat) : (z_hdn y i).2 j q = if j = 3 ∧ q = i then nI k else y.2 j q := by
  have s3 := h.1 3 (by decide)
  have h10 := h.2.2.1
  have ea : z_a y 3 (nI i) = nI (k + 1) := by rw [z_aI (by omega) (by omega)]; exact e
  refine (z_putV (x := y) (j := 3) (show i < y.1 3 by omega) (by omega) j q).trans ?_
  rw [ea, pk_m1]
theorem z_wB.hdn2 {n i k : Nat} {y : z_LV} (h : z_wB n y) (hi : i < y.1 0) (hk : k < 12) (e : y.2 3 i = nI (k + 1)) (hk0 : k ≠ 0) : z_wB n (z_hdn y i) := by
  have val := h.hdnV hi e
  obtain ⟨a1, a2, a3, a4, a5⟩ := h
  refine ⟨a1, a2, a3, fun b hb => ?_, ?_⟩
  · have hb2 : b < y.1 0 := hb
    rw [val, val, val, val, if_neg (by omega), if_neg (by omega), if_neg (by omega)]
    refine ⟨(a4 b hb2).1, (a4 b hb2).2.1, (a4 b hb2).2.2.1, ?_⟩
    split
    · exact ⟨k, by omega, rfl⟩
    · exact (a4 b hb2).2.2.2
  · refine a5.eqv (fun b hb => ?_) (fun r _ => by rw [val, if_neg (by omega)])
    rw [val]
    by_cases q : b = i
    · rw [if_pos ⟨rfl, q⟩, q, e]
      exact ⟨fun c => absurd c (nI_ne0 (by omega) (by omega)), fun c => absurd c (nI_ne0 (by omega) (by omega))⟩
    · rw [if_neg (fun c => q c.2)]
theorem z_wB.hdnI {n i p : Nat} {y : z_LV} (h : z_wB n y) (hi : i < y.1 0) (e : y.2 3 i = nI (0 + 1)) (hp : p ≤ y.1 5) : y.1 5 < 10 ∧ z_wB n (z_insL (z_hdn y i) 5 p (nI i)) := by
  have val := h.hdnV hi e
  obtain ⟨a1, a2, a3, a4, a5⟩ := h
  have ne : ¬ y.2 3 i = 0 := by rw [e]; exact nI_ne0 (by omega) (by omega)
  have lt := a5.lt (by omega) hi ne
  have val2 : ∀ j q, j ≠ 5 → (z_insL (z_hdn y i) 5 p (nI i)).2 j q = if j = 3 ∧ q = i then nI 0 else y.2 j q := fun j q hj => by
    show (if j = 5 then _ else (z_hdn y i).2 j) q = _
    rw [if_neg hj, val]
  refine ⟨by omega, fun j hj => ?_, ?_, a3, fun b hb => ?_, ?_⟩
  · show (if j = 5 then _ else y.1 j) = y.1 0
    rw [if_neg (by omega)]; exact a1 j hj
  · show y.1 5 + 1 ≤ y.1 0
    omega
  · have hb2 : b < y.1 0 := hb
    rw [val2 0 b (by decide), val2 1 b (by decide), val2 2 b (by decide), val2 3 b (by decide), if_neg (by omega), if_neg (by omega), if_neg (by omega)]
    refine ⟨(a4 b hb2).1, (a4 b hb2).2.1, (a4 b hb2).2.2.1, ?_⟩
    split
    · exact ⟨0, by omega, rfl⟩
    · exact (a4 b hb2).2.2.2
  · show z_Rw (y.1 0) (y.1 5 + 1) _ (z_insF ((z_hdn y i).2 5) (y.1 5) p (nI i))
    have e5 : (z_hdn y i).2 5 = y.2 5 := rfl
    rw [e5]
    refine (a5.ins (by omega) hp hi ne).eqv (fun b hb => ?_) (fun _ _ => rfl)
    rw [val2 3 b (by decide)]
    by_cases q : b = i
    · rw [if_pos ⟨rfl, q⟩]
      exact ⟨fun _ => Or.inl q, fun _ => rfl⟩
    · rw [if_neg (fun c => q c.2)]
      exact ⟨fun c => Or.inr c, fun c => c.elim (fun c => absurd c q) id⟩
def z_BpI (n : Nat) (y : z_LV) (i : Nat) (s : z_LV × Nat) : Prop := z_wB n s.1 ∧ s.2 = z_cnt (z_cmB (y.2 3)) i ∧ s.1.1 0 = y.1 0 ∧ s.1.1 5 = y.1 5 + z_cnt (z_cmB (y.2 3)) i ∧ (∀ j, j ≠ 3 → j ≠ 5 → s.1.2 j = y.2 j) ∧ (∀ b, b < y.1 0 → s.1.2 3 b = if b < i then z_dcH (y.2 3 b) else y.2 3 b) ∧ (∀ b, b < i → z_cmB (y.2 3) b = true → s.1.2 5 (z_cnt (z_cmB (y.2 3)) b) = nI b) ∧ ∀ r, r < y.1 5 → s.1.2 5 (z_cnt (z_cmB (y.2 3)) i + r) = y.2 5 r
section
variable {n i : Nat} {y : z_LV} {s : z_LV × Nat}
theorem z_BpI.wB (h : z_BpI n y i s) : z_wB n s.1 := h.1
theorem z_BpI.cn (h : z_BpI n y i s) : s.2 = z_cnt (z_cmB (y.2 3)) i := h.2.1
theorem z_BpI.nb (h : z_BpI n y i s) : s.1.1 0 = y.1 0 := h.2.2.1
theorem z_BpI.nr (h : z_BpI n y i s) : s.1.1 5 = y.1 5 + z_cnt (z_cmB (y.2 3)) i := h.2.2.2.1
theorem z_BpI.ot (h : z_BpI n y i s) : ∀ j, j ≠ 3 → j ≠ 5 → s.1.2 j = y.2 j := h.2.2.2.2.1
theorem z_BpI.ho (h : z_BpI n y i s) : ∀ b, b < y.1 0 → s.1.2 3 b = if b < i then z_dcH (y.2 3 b) else y.2 3 b := h.2.2.2.2.2.1
theorem z_BpI.r1 (h : z_BpI n y i s) : ∀ b, b < i → z_cmB (y.2 3) b = true → s.1.2 5 (z_cnt (z_cmB (y.2 3)) b) = nI b := h.2.2.2.2.2.2.1
theorem z_BpI.r2 (h : z_BpI n y i s) : ∀ r, r < y.1 5 → s.1.2 5 (z_cnt (z_cmB (y.2 3)) i + r) = y.2 5 r := h.2.2.2.2.2.2.2
end
theorem z_bpI {n : Nat} {y : z_LV} (h : z_wB n y) : ∀ i, i ≤ y.1 0 → z_BpI n y i (z_fold z_bpS (y, 0) i) := by
  intro i
  induction i with
  | zero => exact fun _ => ⟨h, rfl, rfl, rfl, fun _ _ _ => rfl, fun b _ => (if_neg (by omega)).symm, fun b hb => absurd hb (by omega), fun r _ => by rw [show z_cnt (z_cmB (y.2 3)) 0 + r = r from Nat.zero_add r]; rfl⟩
  | succ i ih =>
    intro hi
    have I := ih (by omega)
    have hi1 : i < (z_fold z_bpS (y, 0) i).1.1 0 := by rw [I.nb]; omega
    have hho : (z_fold z_bpS (y, 0) i).1.2 3 i = y.2 3 i := (I.ho i (by omega)).trans (if_neg (by omega))
    obtain ⟨k, hk, ek, ea⟩ := I.wB.ho hi1
    have ek2 : y.2 3 i = nI k := hho.symm.trans ek
    have st : z_fold z_bpS (y, 0) (i + 1) = z_bpS (z_fold z_bpS (y, 0) i) i := rfl
    rw [st]
    generalize z_fold z_bpS (y, 0) i = s at I hi1 hho ek ea
    have cm : z_cmB (y.2 3) i = decide (k = 1) := by
      unfold z_cmB
      rw [ek2]
      exact decide_eq_decide.mpr (nI_eq (b := 1) (by omega) (by decide))
    have tail : ∀ b, b < y.1 0 → ∀ (x : Int32), x = z_dcH (y.2 3 i) → (if (3 = 3 ∧ b = i) then x else s.1.2 3 b) = if b < i + 1 then z_dcH (y.2 3 b) else y.2 3 b := fun b hb x hx => by
      by_cases q : b = i
      · rw [if_pos ⟨rfl, q⟩, if_pos (by omega), hx, q]
      · rw [if_neg (fun c => q c.2), I.ho b hb]
        by_cases q2 : b < i
        · rw [if_pos q2, if_pos (by omega)]
        · rw [if_neg q2, if_neg (by omega)]
    have e3 : k = 0 ∨ k = 1 ∨ ∃ k', k = k' + 1 ∧ k' ≠ 0 := by
      rcases Nat.eq_zero_or_pos k with q | q
      · exact Or.inl q
      · by_cases q2 : k = 1
        · exact Or.inr (Or.inl q2)
        · exact Or.inr (Or.inr ⟨k - 1, by omega, by omega⟩)
    rcases e3 with rfl | rfl | ⟨k', rfl, hk'⟩
    · have c0 : z_cnt (z_cmB (y.2 3)) (i + 1) = z_cnt (z_cmB (y.2 3)) i := by rw [z_cnt_s, cm]; rfl
      have e0 : z_bpS s i = s := by
        unfold z_bpS z_adj
        rw [ea, if_neg (by decide)]
      rw [e0]
      refine ⟨I.wB, by rw [c0]; exact I.cn, I.nb, by rw [c0]; exact I.nr, I.ot, fun b hb => ?_, fun b hb hB => ?_, fun r hr => by rw [c0]; exact I.r2 r hr⟩
      · rw [← tail b hb (nI 0) (by rw [ek2]; rfl)]
        by_cases q : b = i
        · rw [if_pos ⟨rfl, q⟩, q, ek]
        · rw [if_neg (fun c => q c.2)]
      · by_cases q : b = i
        · rw [q, cm] at hB; exact absurd hB (by decide)
        · exact I.r1 b (by omega) hB
    · have c1 : z_cnt (z_cmB (y.2 3)) (i + 1) = z_cnt (z_cmB (y.2 3)) i + 1 := by rw [z_cnt_s, cm]; rfl
      have hp : s.2 ≤ s.1.1 5 := by rw [I.cn, I.nr]; omega
      obtain ⟨l10, w1⟩ := I.wB.hdnI hi1 ek hp
      have val := I.wB.hdnV hi1 ek
      have ea1 : z_a (z_hdn s.1 i) 3 (nI i) = nI 0 := by
        have s3 := I.wB.1 3 (by decide)
        have := I.wB.2.2.1
        refine (z_aI (x := z_hdn s.1 i) (j := 3) (show i < s.1.1 3 by omega) (show s.1.1 3 < 1000 by omega)).trans ?_
        rw [val, if_pos ⟨rfl, rfl⟩]
      have e0 : z_bpS s i = (z_insL (z_hdn s.1 i) 5 s.2 (nI i), s.2 + 1) := by
        unfold z_bpS z_adj z_insT
        rw [ea, ea1, if_pos (by decide), if_neg (by decide)]
        show (if s.2 ≤ s.1.1 5 ∧ s.1.1 5 < 10 then _ else _, _) = _
        rw [if_pos ⟨hp, l10⟩]
      rw [e0]
      have row : ∀ q, (z_insL (z_hdn s.1 i) 5 s.2 (nI i)).2 5 q = if q = s.2 then nI i else if s.2 < q ∧ q ≤ s.1.1 5 then s.1.2 5 (q - 1) else s.1.2 5 q := fun q => rfl
      refine ⟨w1, by rw [c1, I.cn], I.nb, ?_, fun j h3 h5 => ?_, fun b hb => ?_, fun b hb hB => ?_, fun r hr => ?_⟩
      · show s.1.1 5 + 1 = _
        rw [I.nr, c1]; omega
      · show (if j = 5 then _ else (if j = 3 then _ else s.1.2 j)) = _
        rw [if_neg h5, if_neg h3]; exact I.ot j h3 h5
      · rw [← tail b hb (nI 0) (by rw [ek2]; decide)]
        exact val 3 b
      · rw [row]
        by_cases q : b = i
        · rw [if_pos (by rw [q, I.cn]), q]
        · have := z_cnt_strict (show b < i by omega) hB
          rw [if_neg (by rw [I.cn]; omega), if_neg (by rw [I.cn]; omega)]
          exact I.r1 b (by omega) hB
      · rw [row, if_neg (by rw [I.cn, c1]; omega), if_pos (by rw [I.cn, I.nr, c1]; omega), show z_cnt (z_cmB (y.2 3)) (i + 1) + r - 1 = z_cnt (z_cmB (y.2 3)) i + r by rw [c1]; omega]
        exact I.r2 r hr
    · have c0 : z_cnt (z_cmB (y.2 3)) (i + 1) = z_cnt (z_cmB (y.2 3)) i := by rw [z_cnt_s, cm, decide_eq_false (by omega)]; rfl
      have w1 := I.wB.hdn2 hi1 (by omega) ek hk'
      have val := I.wB.hdnV hi1 ek
      have ea1 : z_a (z_hdn s.1 i) 3 (nI i) = nI k' := by
        have s3 := I.wB.1 3 (by decide)
        have := I.wB.2.2.1
        refine (z_aI (x := z_hdn s.1 i) (j := 3) (show i < s.1.1 3 by omega) (show s.1.1 3 < 1000 by omega)).trans ?_
        rw [val, if_pos ⟨rfl, rfl⟩]
      have e0 : z_bpS s i = (z_hdn s.1 i, s.2) := by
        unfold z_bpS z_adj
        rw [ea, ea1, if_pos (decide_eq_true (z_pos0 (by omega) (by omega))), if_pos (decide_eq_true (z_pos0 (by omega) (by omega)))]
      rw [e0]
      refine ⟨w1, by rw [c0]; exact I.cn, I.nb, by rw [c0]; exact I.nr, fun j h3 h5 => ?_, fun b hb => ?_, fun b hb hB => ?_, fun r hr => by rw [c0]; exact I.r2 r hr⟩
      · show (if j = 3 then _ else s.1.2 j) = _
        rw [if_neg h3]; exact I.ot j h3 h5
      · rw [← tail b hb (nI k') (by rw [ek2]; unfold z_dcH; rw [if_pos (z_pos0 (by omega) (by omega)), nI_pred])]
        exact val 3 b
      · by_cases q : b = i
        · rw [q, cm] at hB
          have := of_decide_eq_true hB
          omega
        · exact I.r1 b (by omega) hB
section
variable {G : z_G} {h : z_H} {Q : z_O → z_H → Prop} {a : Nat} {m : z_MV} {v : z_HV} {g : Nat → Int32}
theorem z_ph_w {x : z_LV} (h : z_wC x) (i : Nat) (hi : i < x.1 0) : z_wC (z_phS x i) := by
  obtain ⟨a1, a2, a3, a4, a5⟩ := h
  have s1 := a1 1 (by decide)
  obtain ⟨⟨se, hse, ese⟩, ⟨k, hk, ek⟩, _⟩ := a4 i hi
  have ea : z_a x 1 (nI i) = nI k := by rw [z_aI (by omega) (by omega)]; exact ek
  unfold z_phS
  by_cases e0 : z_a x 1 (nI i) = 0
  · rw [if_pos e0]; exact ⟨a1, a2, a3, a4, a5⟩
  · rw [if_neg e0]
    obtain ⟨k', rfl⟩ : ∃ k', k = k' + 1 := ⟨k - 1, by
      have : k ≠ 0 := fun q => e0 (by rw [ea, q]; rfl)
      omega⟩
    have v1 : ∀ j q, (z_dnL x (nI i)).2 j q = if j = 1 ∧ q = i then nI k' else x.2 j q := fun j q => by
      refine (z_putV (x := x) (j := 1) (show i < x.1 1 by omega) (by omega) j q).trans ?_
      rw [ea, pk_m1]
    have ev : z_a (z_dnL x (nI i)) 0 (nI i) = nI se := by
      refine (z_aI (x := z_dnL x (nI i)) (j := 0) (show i < x.1 0 from hi) (show x.1 0 < 1000 by omega)).trans ?_
      rw [v1, if_neg (by omega)]; exact ese
    have v2 : ∀ j q (b : Nat), b < 2 → (z_goL (z_dnL x (nI i)) (nI i) (nI b)).2 j q = if j = 0 ∧ q = i then nI ((se + b) % 60) else (z_dnL x (nI i)).2 j q := fun j q b hb => by
      refine (z_putV (x := z_dnL x (nI i)) (j := 0) (show i < x.1 0 from hi) (show x.1 0 < 1000 by omega) j q).trans ?_
      rw [ev, nI_add]
      unfold z_m60
      rw [show nI (se + b) - nI (se + b) / 60 * 60 = nI ((se + b) % 60) from pk_rem (d := 60) (by omega) (by decide) (by decide)]
    have fin : ∀ b : Nat, b < 2 → z_wC (z_goL (z_dnL x (nI i)) (nI i) (nI b)) := fun b hb => by
      refine ⟨a1, a2, a3, fun q hq => ?_, fun q hq => ?_⟩
      · have hq2 : q < x.1 0 := hq
        rw [v2 0 q b hb, v2 1 q b hb, v2 2 q b hb, v1, v1, v1, if_neg (show ¬ ((1 : Nat) = 0 ∧ q = i) by omega), if_neg (show ¬ ((2 : Nat) = 0 ∧ q = i) by omega), if_neg (show ¬ ((2 : Nat) = 1 ∧ q = i) by omega), if_neg (show ¬ ((0 : Nat) = 1 ∧ q = i) by omega)]
        refine ⟨?_, ?_, (a4 q hq2).2.2⟩
        · split
          · exact ⟨_, Nat.mod_lt _ (by decide), rfl⟩
          · exact (a4 q hq2).1
        · split
          · exact ⟨k', by omega, rfl⟩
          · exact (a4 q hq2).2.1
      · rw [v2 4 q b hb, v1, if_neg (by omega), if_neg (by omega)]; exact a5 q hq
    by_cases e1 : z_a (z_dnL x (nI i)) 1 (nI i) = 0
    · rw [if_pos e1]; exact fin 0 (by decide)
    · rw [if_neg e1]; exact fin 1 (by decide)
theorem z_phs_w {x : z_LV} (h : z_wC x) : ∀ i, i ≤ x.1 0 → z_wC (z_fold z_phS x i) := by
  intro i
  induction i with
  | zero => exact fun _ => h
  | succ i ih =>
    intro hi
    exact z_ph_w (ih (by omega)) i (by rw [z_ph_1]; omega)
theorem z_wf.hr1 {v : z_HV} (h : z_wf v) : z_wf (z_hr1 v) := by
  have hC := z_phs_w h.C (v.1.1 0) (Nat.le_refl _)
  refine z_wf.mk hC ?_
  rw [z_ph_1]
  exact (z_bpI h.B _ (Nat.le_refl _)).wB
theorem z_wf.hrs {v : z_HV} (h : z_wf v) (n : Nat) : z_wf (z_hrs v n) := by
  induction n with
  | zero => exact h
  | succ n ih => exact ih.hr1
end
theorem z_unN {n : Nat} {c : Int32} (hn : n < 1000) (h : z_rUn n c = none) : ∃ k, k < n ∧ c = nI k := by
  unfold z_rUn at h
  cases e : z_has c n with
  | true => exact z_hasE hn e
  | false => rw [e, if_pos rfl] at h; exact absurd h (by simp)
theorem z_ifN {α : Type} {P : Prop} [Decidable P] {x : α} {r : Option α} (h : (if P then some x else r) = none) : ¬ P ∧ r = none := by
  by_cases e : P
  · rw [if_pos e] at h; exact absurd h (by simp)
  · rw [if_neg e] at h; exact ⟨e, h⟩
theorem z_hasN {c : Int32} {n : Nat} (hn : n < 1000) (h : ¬ z_has c n = false) : ∃ k, k < n ∧ c = nI k := by
  cases e : z_has c n with
  | true => exact z_hasE hn e
  | false => exact absurd e h
theorem z_outN {x : Int32} {lo hi : Nat} (hh : hi < 1000) (hl : lo ≤ hi) (h : ¬ (x < nI lo ∨ nI hi < x)) : ∃ k, lo ≤ k ∧ k ≤ hi ∧ x = nI k := z_inE hh hl (z_inOr h)
theorem z_gvs_w {x : z_LV} {s : Int32} (h : z_wC x) (hs : ∀ i, i < x.1 0 → z_isIn s (nI i) = true → 0 < z_a x 1 (nI i)) : ∀ i, i ≤ x.1 0 → z_wC (z_fold (z_gvS s) x i) ∧ ∀ q, i ≤ q → (z_fold (z_gvS s) x i).2 1 q = x.2 1 q := by
  intro i
  induction i with
  | zero => exact fun _ => ⟨h, fun _ _ => rfl⟩
  | succ i ih =>
    intro hi
    obtain ⟨w, k1⟩ := ih (by omega)
    have st : z_fold (z_gvS s) x (i + 1) = z_gvS s (z_fold (z_gvS s) x i) i := rfl
    have e1 := z_gv_1 s x i
    have hs1 := hs i (by omega)
    rw [z_aI (by rw [h.1 1 (by decide)]; omega) (by rw [h.1 1 (by decide)]; have := h.2.2.1; omega)] at hs1
    rw [st]
    generalize z_fold (z_gvS s) x i = y at w k1 e1
    unfold z_gvS
    by_cases e : z_isIn s (nI i) = true
    · rw [if_pos e]
      obtain ⟨a1, a2, a3, a4, a5⟩ := w
      have n8 : y.1 0 = x.1 0 := by rw [e1]
      have hi2 : i < y.1 0 := by omega
      obtain ⟨k, hk, ek⟩ := (a4 i hi2).2.1
      have hp := hs1 e
      rw [← k1 i (Nat.le_refl _), ek] at hp
      obtain ⟨k', rfl⟩ : ∃ k', k = k' + 1 := ⟨k - 1, by
        have : k ≠ 0 := fun q => by rw [q] at hp; exact absurd hp (by decide)
        omega⟩
      have b1 : i < y.1 1 := by rw [a1 1 (by decide)]; exact hi2
      have b3 : i < y.1 3 := by rw [a1 3 (by decide)]; exact hi2
      have l1 : y.1 1 < 1000 := by rw [a1 1 (by decide)]; omega
      have l3 : y.1 3 < 1000 := by rw [a1 3 (by decide)]; omega
      have ea : z_a y 1 (nI i) + -1 = nI k' := by rw [z_aI b1 l1, ek, pk_m1]
      have val : ∀ j q, j ≠ 3 → (z_gvL y (nI i)).2 j q = if j = 1 ∧ q = i then nI k' else y.2 j q := fun j q hj => by
        unfold z_gvL
        rw [ea]
        refine (z_putV (x := z_putL y 1 (nI i) (nI k')) (j := 3) b3 l3 j q).trans ?_
        rw [if_neg (fun c => hj c.1)]
        exact z_putV b1 l1 j q
      refine ⟨⟨a1, a2, a3, fun q hq => ?_, fun q hq => ?_⟩, fun q hq => ?_⟩
      · have hq2 : q < y.1 0 := hq
        rw [val 0 q (by decide), val 1 q (by decide), val 2 q (by decide), if_neg (by omega), if_neg (show ¬ ((2 : Nat) = 1 ∧ q = i) by omega)]
        refine ⟨(a4 q hq2).1, ?_, (a4 q hq2).2.2⟩
        split
        · exact ⟨k', by omega, rfl⟩
        · exact (a4 q hq2).2.1
      · rw [val 4 q (by decide), if_neg (by omega)]; exact a5 q hq
      · rw [val 1 q (by decide), if_neg (by omega)]; exact k1 q (by omega)
    · rw [if_neg e]
      exact ⟨w, fun q hq => k1 q (by omega)⟩
theorem z_wf.vote {v : z_HV} (h : z_wf v) (h0 : ¬ nI (v.2.1.1 5) = 0) : z_wf (z_vote v).1 := by
  have h8 := h.nc
  have h10 := h.nb
  have h5 : 0 < v.2.1.1 5 := Nat.pos_of_ne_zero fun q => h0 (by rw [q]; rfl)
  obtain ⟨b, hb, eb1, eb2, eb3⟩ := h.row h5
  have e : z_vote v = z_vt1 v (nI b) (z_vts v (nI b)) := by
    show z_vt1 v (z_a v.2.1 5 (nI 0)) (z_vts v (z_a v.2.1 5 (nI 0))) = _
    rw [eb3]
  rw [e]
  unfold z_vt1
  by_cases es : z_vts v (nI b) = 0
  · rw [if_pos es]
    exact z_wf.mk h.C (h.B.off hb ⟨1, by decide, rfl⟩ (by decide) eb2)
  · rw [if_neg es]
    obtain ⟨_, bc2⟩ := z_bitsP (P := fun i => z_wv v.1 (nI i) (z_a v.2.1 1 (nI b))) (n := v.1.1 0) h8
    have hs : ∀ i, i < v.1.1 0 → z_isIn (z_vts v (nI b)) (nI i) = true → 0 < z_a v.1 1 (nI i) := fun i hi hI => by
      have e1 : z_isIn (z_vts v (nI b)) (nI i) = z_wv v.1 (nI i) (z_a v.2.1 1 (nI b)) := bc2 i hi
      rw [e1] at hI
      exact of_decide_eq_true (Bool.and_eq_true_iff.mp hI).1
    refine z_wf.mk (z_gvs_w h.C hs _ (Nat.le_refl _)).1 ?_
    rw [z_gv_1]
    exact h.B.gone hb
theorem z_wf.do {v : z_HV} {o : z_OV} (h : z_wf v) (hk : o.1 < 10) (hr : z_ref v o = none) : z_wf (z_do v o).1 := by
  obtain ⟨k, x, y, z, t⟩ := o
  have h8 := h.nc
  have h10 := h.nb
  have hsk := h.sk
  have c10 := z_ten hk
  rcases c10 with e | e | e | e | e | e | e | e | e | e <;> (have e' : k = _ := e; subst e')
  · have hr0 : z_rClock v x y = none := hr
    obtain ⟨c1, hr1⟩ := z_ifN hr0
    obtain ⟨c2, hr2⟩ := z_ifN hr1
    obtain ⟨i, _, hi, rfl⟩ := z_outN (lo := 0) (hi := 59) (by decide) (by decide) c1
    obtain ⟨l, _, hl, rfl⟩ := z_outN (lo := 0) (hi := 3) (by decide) (by decide) c2
    have lt : v.1.1 0 < 8 := by
      by_cases q : nI (v.1.1 0) < 8
      · exact (nI_ltI (b := 8) (by omega) (by decide)).mp q
      · rw [if_neg q] at hr2; exact absurd hr2 (by simp)
    exact z_wf.mk (h.C.come lt ⟨i, by omega, rfl⟩ ⟨l, by omega, rfl⟩) (h.B.mono (Nat.le_succ _))
  · obtain ⟨i, hi, rfl⟩ := z_unN (by omega) hr
    refine z_wf.mk (z_wC.away h hi) ?_
    rw [(z_awayE h.wz hi).1 0 (by decide)]
    exact h.B.forL (by omega) hi
  · have hr0 : z_rKey v x y = none := hr
    obtain ⟨c1, hr1⟩ := z_ifN hr0
    obtain ⟨c2, hr2⟩ := z_ifN hr1
    obtain ⟨i, hi, rfl⟩ := z_hasN (by omega) c1
    rw [hsk] at hi
    refine z_wf.mk (h.C.putK hi ?_) h.B
    by_cases q : y = -1
    · exact Or.inl q
    · exact Or.inr (z_hasN (by omega) (fun c => c2 ⟨q, c⟩))
  · have hr0 : z_rWind v x y = none := hr
    obtain ⟨c1, hr1⟩ := z_ifN hr0
    obtain ⟨c2, hr2⟩ := z_ifN hr1
    obtain ⟨i, hi, rfl⟩ := z_hasN (by omega) c2
    have w := h.putC (j := 1) (x := 24) (by decide) hi (fun e => absurd e (by decide)) (fun _ => ⟨24, by decide, rfl⟩) (fun e => absurd e (by decide))
    exact z_wf.mk w.C w.B
  · have hr0 : z_rMove v x y = none := hr
    obtain ⟨c1, hr1⟩ := z_ifN hr0
    obtain ⟨c2, hr2⟩ := z_ifN hr1
    obtain ⟨c3, hr3⟩ := z_ifN hr2
    obtain ⟨i, hi, rfl⟩ := z_hasN (by omega) c1
    obtain ⟨s, hs1, hs2, rfl⟩ := z_outN (lo := 1) (hi := 59) (by decide) (by decide) c2
    obtain ⟨p, hp, ep⟩ := h.sp hi
    obtain ⟨q, hq, eq⟩ := h.se hi
    have ed : nI s / 10 = nI (s / 10) := pk_div (d := 10) (by omega) (by decide) (by decide)
    have le : s / 10 + 1 ≤ p := by
      by_cases c : nI s / 10 + 1 ≤ z_a v.1 1 (nI i)
      · rw [ed, nI_1, ep] at c; exact (nI_leI (by omega) (by omega)).mp c
      · rw [if_neg c] at hr3; exact absurd hr3 (by simp)
    have w1 := h.putC (j := 1) (x := z_a v.1 1 (nI i) + -(nI s / 10 + 1)) (by decide) hi (fun e => absurd e (by decide)) (fun _ => ⟨p - (s / 10 + 1), by omega, by rw [ep, ed, nI_1, ← Int32.sub_eq_add_neg, pk_sub le]⟩) (fun e => absurd e (by decide))
    have w2 := w1.putC (j := 0) (c := i) (x := z_m60 (z_a v.1 0 (nI i) + nI s)) (by decide) hi (fun _ => ⟨(q + s) % 60, Nat.mod_lt _ (by decide), by rw [eq, nI_add]; exact pk_rem (d := 60) (by omega) (by decide) (by decide)⟩) (fun e => absurd e (by decide)) (fun e => absurd e (by decide))
    exact z_wf.mk w2.C w2.B
  · have hr0 : z_rBill v x y z = none := hr
    obtain ⟨c1, hr1⟩ := z_ifN hr0
    obtain ⟨c2, hr2⟩ := z_ifN hr1
    obtain ⟨c3, hr3⟩ := z_ifN hr2
    obtain ⟨c4, hr4⟩ := z_ifN hr3
    obtain ⟨i, hi, rfl⟩ := z_hasN (by omega) c1
    obtain ⟨s, _, hs2, rfl⟩ := z_outN (lo := 0) (hi := 59) (by decide) (by decide) c2
    obtain ⟨d, hd1, hd2, rfl⟩ := z_outN (lo := 1) (hi := 9) (by decide) (by decide) c3
    have lt : v.2.1.1 0 < 10 := by
      by_cases q : nI (v.2.1.1 0) < 10
      · exact (nI_ltI (b := 10) (by omega) (by decide)).mp q
      · rw [if_neg q] at hr4; exact absurd hr4 (by simp)
    exact z_wf.mk h.C (h.B.tbl lt (Or.inr ⟨i, hi, rfl⟩) ⟨s, by omega, rfl⟩ ⟨d, by omega, rfl⟩)
  · have hr0 : z_rAdj v x y = none := hr
    obtain ⟨c1, hr1⟩ := z_ifN hr0
    obtain ⟨c2, hr2⟩ := z_ifN hr1
    obtain ⟨c3, hr3⟩ := z_ifN hr2
    obtain ⟨i, hi, rfl⟩ := z_hasN (by omega) c1
    obtain ⟨d, hd1, hd2, rfl⟩ := z_outN (lo := 1) (hi := 12) (by decide) (by decide) c2
    obtain ⟨k, hk, ek⟩ := (h.2.2.2.2.2.1 i hi).2.2.2
    have s3 := h.sb (j := 3) (by decide)
    have e0 : v.2.1.2 3 i = 0 := by
      have c4 : ¬ 0 < z_a v.2.1 3 (nI i) := fun q => c3 (decide_eq_true q)
      rw [z_aI (by omega) (by omega), ek] at c4
      have : k = 0 := Nat.eq_zero_of_not_pos (fun q => c4 (z_pos0 q (by omega)))
      rw [ek, this]; rfl
    exact z_wf.mk h.C (h.B.off hi ⟨d, by omega, rfl⟩ (nI_ne0 (by omega) (by omega)) e0)
  · obtain ⟨i, hi, rfl⟩ := z_unN (by omega) hr
    exact z_wf.mk h.C (h.B.gone hi)
  · have hr0 : z_rVote v = none := hr
    exact h.vote (z_ifN hr0).1
  · exact h.hrs _
theorem z_phS_V {x : z_LV} (h : z_wC x) {i k s : Nat} (hi : i < x.1 0) (ek : x.2 1 i = nI k) (es : x.2 0 i = nI s) (hs : s < 60) (hk : k < 25) (j q : Nat) : (z_phS x i).2 j q = if j = 1 ∧ q = i then nI (k - 1) else if j = 0 ∧ q = i then nI (if 2 ≤ k then (s + 1) % 60 else s) else x.2 j q := by
  obtain ⟨a1, a2, a3, a4, a5⟩ := h
  have s1 := a1 1 (by decide)
  have ea : z_a x 1 (nI i) = nI k := by rw [z_aI (by omega) (by omega)]; exact ek
  unfold z_phS
  by_cases e0 : z_a x 1 (nI i) = 0
  · rw [if_pos e0]
    have k0 : k = 0 := by
      rw [ea] at e0
      exact (nI_eq (b := 0) (by omega) (by decide)).mp e0
    subst k0
    by_cases c1 : j = 1 ∧ q = i
    · rw [if_pos c1, c1.1, c1.2]; exact ek
    · rw [if_neg c1]
      by_cases c2 : j = 0 ∧ q = i
      · rw [if_pos c2, c2.1, c2.2]; exact es
      · rw [if_neg c2]
  · rw [if_neg e0]
    obtain ⟨k', rfl⟩ : ∃ k', k = k' + 1 := ⟨k - 1, by
      have : k ≠ 0 := fun q => e0 (by rw [ea, q]; rfl)
      omega⟩
    have v1 : ∀ j q, (z_dnL x (nI i)).2 j q = if j = 1 ∧ q = i then nI k' else x.2 j q := fun j q => by
      refine (z_putV (x := x) (j := 1) (show i < x.1 1 by omega) (by omega) j q).trans ?_
      rw [ea, pk_m1]
    have ev : z_a (z_dnL x (nI i)) 0 (nI i) = nI s := by
      refine (z_aI (x := z_dnL x (nI i)) (j := 0) (show i < x.1 0 from hi) (show x.1 0 < 1000 by omega)).trans ?_
      rw [v1, if_neg (by omega)]; exact es
    have e1 : z_a (z_dnL x (nI i)) 1 (nI i) = nI k' := by
      refine (z_aI (x := z_dnL x (nI i)) (j := 1) (show i < x.1 1 by omega) (show x.1 1 < 1000 by omega)).trans ?_
      rw [v1, if_pos ⟨rfl, rfl⟩]
    have v2 : ∀ j q (b : Nat), b < 2 → (z_goL (z_dnL x (nI i)) (nI i) (nI b)).2 j q = if j = 0 ∧ q = i then nI ((s + b) % 60) else (z_dnL x (nI i)).2 j q := fun j q b hb => by
      refine (z_putV (x := z_dnL x (nI i)) (j := 0) (show i < x.1 0 from hi) (show x.1 0 < 1000 by omega) j q).trans ?_
      rw [ev, nI_add]
      unfold z_m60
      rw [show nI (s + b) - nI (s + b) / 60 * 60 = nI ((s + b) % 60) from pk_rem (d := 60) (by omega) (by decide) (by decide)]
    have eb : (if z_a (z_dnL x (nI i)) 1 (nI i) = 0 then (0 : Int32) else 1) = nI (if k' = 0 then 0 else 1) := by
      rw [e1]
      by_cases c : k' = 0
      · rw [if_pos (by rw [c]; rfl), if_pos c]; rfl
      · rw [if_neg (nI_ne0 (by omega) (by omega)), if_neg c]; rfl
    rw [eb, v2 j q _ (by split <;> decide), v1]
    by_cases c1 : j = 1 ∧ q = i
    · rw [if_neg (by omega), if_pos c1, if_pos c1]; rfl
    · rw [if_neg c1, if_neg c1]
      by_cases c2 : j = 0 ∧ q = i
      · rw [if_pos c2, if_pos c2]
        by_cases c : k' = 0
        · rw [if_pos c, if_neg (by omega), Nat.add_zero, Nat.mod_eq_of_lt hs]
        · rw [if_neg c, if_pos (by omega)]
      · rw [if_neg c2, if_neg c2]
theorem z_phs_V {x : z_LV} (h : z_wC x) {q k s : Nat} (hq : q < x.1 0) (ek : x.2 1 q = nI k) (es : x.2 0 q = nI s) (hs : s < 60) (hk : k < 25) : ∀ i, i ≤ x.1 0 → (z_fold z_phS x i).2 1 q = nI (if q < i then k - 1 else k) ∧ (z_fold z_phS x i).2 0 q = nI (if q < i then (if 2 ≤ k then (s + 1) % 60 else s) else s) := by
  intro i
  induction i with
  | zero => exact fun _ => ⟨by rw [if_neg (by omega)]; exact ek, by rw [if_neg (by omega)]; exact es⟩
  | succ i ih =>
    intro hi
    obtain ⟨h1, h2⟩ := ih (by omega)
    have w := z_phs_w h i (by omega)
    have hi2 : i < (z_fold z_phS x i).1 0 := by rw [z_ph_1]; omega
    obtain ⟨⟨s', hs', es'⟩, ⟨k', hk', ek'⟩, _⟩ := w.2.2.2.1 i hi2
    have st : z_fold z_phS x (i + 1) = z_phS (z_fold z_phS x i) i := rfl
    rw [st]
    by_cases e : q = i
    · subst e
      rw [if_neg (by omega)] at h1 h2
      have e1 : k' = k := (nI_eq (by omega) (by omega)).mp (ek'.symm.trans h1)
      have e2 : s' = s := (nI_eq (by omega) (by omega)).mp (es'.symm.trans h2)
      subst e1 e2
      refine ⟨(z_phS_V w hi2 ek' es' hs' hk' 1 q).trans ?_, (z_phS_V w hi2 ek' es' hs' hk' 0 q).trans ?_⟩
      · rw [if_pos ⟨rfl, rfl⟩, if_pos (Nat.lt_succ_self q)]
      · rw [if_neg (fun c => absurd c.1 (by decide)), if_pos ⟨rfl, rfl⟩, if_pos (Nat.lt_succ_self q)]
    · refine ⟨(z_phS_V w hi2 ek' es' hs' hk' 1 q).trans ?_, (z_phS_V w hi2 ek' es' hs' hk' 0 q).trans ?_⟩
      · rw [if_neg (fun c => e c.2), if_neg (fun c => e c.2), h1]
        by_cases e2 : q < i
        · rw [if_pos e2, if_pos (by omega)]
        · rw [if_neg e2, if_neg (by omega)]
      · rw [if_neg (fun c => e c.2), if_neg (fun c => e c.2), h2]
        by_cases e2 : q < i
        · rw [if_pos e2, if_pos (show q < i + 1 by omega)]
        · rw [if_neg e2, if_neg (show ¬ q < i + 1 by omega)]
theorem z_silE {q : Nat} : ∀ (n i k : Nat) (v : z_HV), z_wf v → q < v.1.1 0 → v.1.2 1 q = nI k → k < 25 → z_sil v (nI q) n i = i + (if k < n then k else n) := by
  intro n
  induction n with
  | zero =>
    intro i k v _ _ _ _
    rw [if_neg (by omega)]; rfl
  | succ n ih =>
    intro i k v h hq ek hk
    have s1 := h.sc (j := 1) (by decide)
    have := h.nc
    have ea : z_a v.1 1 (nI q) = nI k := by rw [z_aI (by omega) (by omega)]; exact ek
    show (if z_a v.1 1 (nI q) = 0 then i else z_sil (z_hr1 v) (nI q) n (i + 1)) = _
    rw [ea]
    by_cases c : k = 0
    · subst c
      rw [if_pos (show nI 0 = 0 from rfl), if_pos (by omega)]; rfl
    · rw [if_neg (nI_ne0 (by omega) (by omega))]
      obtain ⟨⟨s, hs, es⟩, _, _⟩ := h.C.2.2.2.1 q hq
      have e1 := (z_phs_V h.C hq ek es hs hk _ (Nat.le_refl _)).1
      rw [if_pos hq] at e1
      have hq2 : q < (z_hr1 v).1.1 0 := by
        show q < (z_fold z_phS v.1 (v.1.1 0)).1 0
        rw [z_ph_1]; exact hq
      rw [ih (i + 1) (k - 1) (z_hr1 v) h.hr1 hq2 e1 (by omega)]
      by_cases c2 : k < n + 1
      · rw [if_pos c2]
        by_cases c3 : k - 1 < n
        · rw [if_pos c3]; omega
        · rw [if_neg c3]; omega
      · rw [if_neg c2, if_neg (by omega)]; omega
/-- the bills' hours after hours -/
theorem z_hrsN {v : z_HV} (h : z_wf v) : ∀ n, (z_hrs v n).2.1.1 0 = v.2.1.1 0 ∧ ∀ b k, b < v.2.1.1 0 → v.2.1.2 3 b = nI k → k < 13 → (z_hrs v n).2.1.2 3 b = nI (k - n) := by
  intro n
  induction n with
  | zero => exact ⟨rfl, fun b k _ e _ => e⟩
  | succ n ih =>
    obtain ⟨h1, h2⟩ := ih
    have I := z_bpI (h.hrs n).B _ (Nat.le_refl _)
    refine ⟨I.nb.trans h1, fun b k hb e hk => ?_⟩
    have hb2 : b < (z_hrs v n).2.1.1 0 := by rw [h1]; exact hb
    have e2 := I.ho b hb2
    rw [if_pos hb2, h2 b k hb e hk] at e2
    refine e2.trans ?_
    unfold z_dcH
    by_cases c : k - n = 0
    · rw [c, if_neg (by decide)]
      exact congrArg nI (by omega)
    · rw [if_pos (z_pos0 (by omega) (by omega)), z_predN (by omega)]
      exact congrArg nI (by omega)
theorem z_cnt_add {P Q R : Nat → Bool} : ∀ n, (∀ j, j < n → (if R j = true then 1 else 0) = (if P j = true then 1 else 0) + (if Q j = true then 1 else (0 : Nat))) → z_cnt R n = z_cnt P n + z_cnt Q n := by
  intro n
  induction n with
  | zero => intro _; rfl
  | succ n ih =>
    intro h
    rw [z_cnt_s, z_cnt_s, z_cnt_s, ih (fun j hj => h j (by omega)), h n (by omega)]
    omega
theorem z_cnt_res {P : Nat → Bool} {b : Nat} : ∀ n, b ≤ n → z_cnt (fun o => P o && decide (o < b)) n = z_cnt P b := by
  intro n
  induction n with
  | zero => intro hb; rw [show b = 0 by omega]; rfl
  | succ n ih =>
    intro hb
    by_cases e : b = n + 1
    · rw [e]
      exact z_cnt_c _ (fun j hj => by rw [decide_eq_true hj, Bool.and_true])
    · rw [z_cnt_s, ih (by omega), decide_eq_false (by omega), Bool.and_false]
      rfl
def z_aN (H : Nat → Nat) (nb n b : Nat) : Nat := z_cnt (fun o => decide (0 < H o) && (decide (H o ≤ n) && (decide (H b < H o) || (decide (H o = H b) && decide (o < b))))) nb
theorem z_aN_s {H : Nat → Nat} {nb n b : Nat} (hb : H b ≤ n) : z_aN H nb (n + 1) b = z_cnt (fun o => decide (H o = n + 1)) nb + z_aN H nb n b := by
  refine z_cnt_add nb (fun j hj => ?_)
  by_cases e : H j = n + 1
  · rw [if_pos, if_pos (decide_eq_true e), if_neg]
    · rw [decide_eq_false (show ¬ H j ≤ n by omega), Bool.false_and, Bool.and_false]; exact Bool.noConfusion
    · rw [decide_eq_true (show 0 < H j by omega), decide_eq_true (show H j ≤ n + 1 by omega), decide_eq_true (show H b < H j by omega)]; rfl
  · rw [if_neg (show ¬ decide (H j = n + 1) = true from fun q => e (of_decide_eq_true q)), show decide (H j ≤ n + 1) = decide (H j ≤ n) from decide_eq_decide.mpr (by omega)]
    omega
theorem z_aN_n {H : Nat → Nat} {nb n b : Nat} (hb : b < nb) (e : H b = n + 1) : z_aN H nb (n + 1) b = z_cnt (fun o => decide (H o = n + 1)) b := by
  rw [← z_cnt_res nb (by omega)]
  refine z_cnt_c nb (fun j hj => ?_)
  show (decide (0 < H j) && (decide (H j ≤ n + 1) && (decide (H b < H j) || (decide (H j = H b) && decide (j < b))))) = (decide (H j = n + 1) && decide (j < b))
  rw [e]
  by_cases c : H j = n + 1
  · rw [decide_eq_true c, decide_eq_true (show 0 < H j by omega), decide_eq_true (show H j ≤ n + 1 by omega), decide_eq_false (show ¬ n + 1 < H j by omega)]; rfl
  · rw [decide_eq_false c, Bool.false_and, Bool.or_false]
    by_cases c2 : H j ≤ n + 1
    · rw [decide_eq_false (show ¬ n + 1 < H j by omega), Bool.and_false, Bool.and_false]
    · rw [decide_eq_false c2, Bool.false_and, Bool.and_false]
theorem z_hrsR {v : z_HV} (h : z_wf v) {H : Nat → Nat} (hH : ∀ b, b < v.2.1.1 0 → v.2.1.2 3 b = nI (H b) ∧ H b < 13) : ∀ n b, b < v.2.1.1 0 → H b ≤ n → (0 < H b → z_aN H (v.2.1.1 0) n b < (z_hrs v n).2.1.1 5 ∧ (z_hrs v n).2.1.2 5 (z_aN H (v.2.1.1 0) n b) = nI b) ∧ ∀ r, r < v.2.1.1 5 → v.2.1.2 5 r = nI b → H b = 0 → z_aN H (v.2.1.1 0) n b + r < (z_hrs v n).2.1.1 5 ∧ (z_hrs v n).2.1.2 5 (z_aN H (v.2.1.1 0) n b + r) = nI b := by
  intro n
  induction n with
  | zero =>
    intro b hb hn
    have a0 : z_aN H (v.2.1.1 0) 0 b = 0 := by
      unfold z_aN
      refine (z_cnt_c (P' := fun _ => false) _ (fun j hj => ?_)).trans ?_
      · by_cases c : 0 < H j
        · rw [decide_eq_false (show ¬ H j ≤ 0 by omega), Bool.false_and, Bool.and_false]
        · rw [decide_eq_false c, Bool.false_and]
      · generalize v.2.1.1 0 = N
        induction N with
        | zero => rfl
        | succ N ih => rw [z_cnt_s, ih]; rfl
    refine ⟨fun q => absurd q (by omega), fun r hr e _ => ?_⟩
    rw [a0, Nat.zero_add]
    exact ⟨hr, e⟩
  | succ n ih =>
    intro b hb hn
    have I := z_bpI (h.hrs n).B _ (Nat.le_refl _)
    obtain ⟨n1, n2⟩ := z_hrsN h n
    have cm : ∀ o, o < v.2.1.1 0 → z_cmB ((z_hrs v n).2.1.2 3) o = decide (H o = n + 1) := fun o ho => by
      unfold z_cmB
      rw [n2 o (H o) ho (hH o ho).1 (hH o ho).2]
      have := (hH o ho).2
      exact decide_eq_decide.mpr ((nI_eq (b := 1) (by omega) (by decide)).trans (by omega))
    have eT : z_cnt (z_cmB ((z_hrs v n).2.1.2 3)) ((z_hrs v n).2.1.1 0) = z_cnt (fun o => decide (H o = n + 1)) (v.2.1.1 0) := by
      rw [n1]; exact z_cnt_c _ cm
    have enr : (z_hrs v (n + 1)).2.1.1 5 = (z_hrs v n).2.1.1 5 + z_cnt (fun o => decide (H o = n + 1)) (v.2.1.1 0) := by rw [← eT]; exact I.nr
    by_cases e : H b = n + 1
    · refine ⟨fun _ => ?_, fun r _ _ q => absurd q (by omega)⟩
      rw [z_aN_n hb e, enr]
      have r1 := I.r1 b (by rw [n1]; exact hb) (by rw [cm b hb]; exact decide_eq_true e)
      rw [show z_cnt (z_cmB ((z_hrs v n).2.1.2 3)) b = z_cnt (fun o => decide (H o = n + 1)) b from z_cnt_c _ (fun j hj => cm j (by omega))] at r1
      have := z_cnt_strict (B := fun o => decide (H o = n + 1)) hb (decide_eq_true e)
      exact ⟨by omega, r1⟩
    · obtain ⟨p1, p2⟩ := ih b hb (by omega)
      rw [z_aN_s (by omega), enr]
      have r2 : ∀ r, r < (z_hrs v n).2.1.1 5 → (z_hrs v (n + 1)).2.1.2 5 (z_cnt (fun o => decide (H o = n + 1)) (v.2.1.1 0) + r) = (z_hrs v n).2.1.2 5 r := fun r hr => by
        have := I.r2 r hr
        rw [eT] at this
        exact this
      refine ⟨fun q => ?_, fun r hr er q => ?_⟩
      · obtain ⟨q1, q2⟩ := p1 q
        exact ⟨by omega, (r2 _ q1).trans q2⟩
      · obtain ⟨q1, q2⟩ := p2 r hr er q
        rw [Nat.add_assoc]
        exact ⟨by omega, (r2 _ q1).trans q2⟩
theorem z_ltI {a b : Nat} (ha : a < 1000) (hb : b < 1000) : decide ((0 : Int32) < nI a - nI b) = decide (b < a) := by
  refine decide_eq_decide.mpr ?_
  rw [Int32.lt_iff_toInt_lt, pk_sub_toInt (by omega) (by omega)]
  simp
theorem z_eqI {a b : Nat} (ha : a < 1000) (hb : b < 1000) : decide (nI a - nI b = 0) = decide (a = b) := by
  refine decide_eq_decide.mpr ⟨fun q => ?_, fun q => by rw [q, Int32.sub_self]⟩
  have := congrArg Int32.toInt q
  rw [pk_sub_toInt (by omega) (by omega)] at this
  simp at this
  omega
theorem z_plaE {v : z_HV} (h : z_wf v) {H : Nat → Nat} (hH : ∀ b, b < v.2.1.1 0 → v.2.1.2 3 b = nI (H b) ∧ H b < 13) {n b : Nat} (hn : n < 1000) (hb : b < v.2.1.1 0) : (n < H b → z_pla v.2.1 (nI n) (nI b) = -1) ∧ (H b ≤ n → ∃ p, p < (z_hrs v n).2.1.1 5 ∧ (z_hrs v n).2.1.2 5 p = nI b ∧ z_pla v.2.1 (nI n) (nI b) = nI p) := by
  have h10 := h.nb
  have s3 := h.sb (j := 3) (by decide)
  have ea : ∀ o, o < v.2.1.1 0 → z_a v.2.1 3 (nI o) = nI (H o) := fun o ho => by rw [z_aI (by omega) (by omega)]; exact (hH o ho).1
  have eN : z_ahN v.2.1 (nI n) (nI b) (v.2.1.1 0) = z_aN H (v.2.1.1 0) n b := by
    refine z_cnt_c _ (fun o ho => ?_)
    have q1 := (hH o ho).2
    have q2 := (hH b hb).2
    unfold z_adj z_ahd
    rw [ea o ho, ea b hb, z_ltI (by omega) (by omega), z_eqI (by omega) (by omega), show decide ((0 : Int32) < nI (H o)) = decide (0 < H o) from decide_eq_decide.mpr (nI_ltI (a := 0) (by decide) (by omega)), show decide (nI (H o) ≤ nI n) = decide (H o ≤ n) from decide_eq_decide.mpr (nI_leI (by omega) (by omega)), show decide (nI o < nI b) = decide (o < b) from decide_eq_decide.mpr (nI_ltI (by omega) (by omega))]
  unfold z_pla
  rw [ea b hb, eN]
  have q2 := (hH b hb).2
  refine ⟨fun hl => if_pos ((nI_ltI (by omega) (by omega)).mpr hl), fun hl => ?_⟩
  rw [if_neg (fun q => absurd ((nI_ltI (by omega) (by omega)).mp q) (by omega))]
  obtain ⟨p1, p2⟩ := z_hrsR h hH n b hb hl
  unfold z_adj
  rw [ea b hb]
  by_cases c : H b = 0
  · obtain ⟨r, hr, er, er2⟩ := z_plcIn h.B.2.2.2.2 (by omega) hb (by rw [(hH b hb).1, c]; rfl)
    rw [if_neg (by rw [c]; decide), er, nI_add]
    exact ⟨_, (p2 r hr er2 c).1, (p2 r hr er2 c).2, rfl⟩
  · rw [if_pos (decide_eq_true (z_pos0 (by omega) (by omega)))]
    exact ⟨_, (p1 (by omega)).1, (p1 (by omega)).2, rfl⟩
theorem z_blaE {v : z_HV} (h : z_wf v) {n : Nat} (hn : n < 1000) (pl : Int32) : z_bla v.2.1 (nI n) pl = if z_has pl ((z_hrs v n).2.1.1 5) = true then z_a (z_hrs v n).2.1 5 pl else -1 := by
  have h10 := h.nb
  have hH : ∀ b, b < v.2.1.1 0 → v.2.1.2 3 b = nI (z_ix (v.2.1.2 3 b)) ∧ z_ix (v.2.1.2 3 b) < 13 := fun b hb => by
    obtain ⟨k, hk, e, _⟩ := h.B.ho hb
    rw [e, z_ix_nI (by omega)]
    exact ⟨rfl, hk⟩
  have w := h.hrs n
  have n1 := (z_hrsN h n).1
  have hnr := w.nr
  have w10 := w.nb
  unfold z_bla
  by_cases c : pl < 0
  · rw [if_pos c, if_neg]
    intro q
    obtain ⟨k, hk, rfl⟩ := z_hasE (by omega) q
    exact nI_pos (by omega) c
  · rw [if_neg c]
    by_cases c2 : z_has pl ((z_hrs v n).2.1.1 5) = true
    · rw [if_pos c2]
      obtain ⟨r, hr, rfl⟩ := z_hasE (by omega) c2
      obtain ⟨b, hb, e1, e2, e3⟩ := w.row hr
      rw [e3]
      rw [n1] at hb
      have key : ∀ i, i < v.2.1.1 0 → z_pla v.2.1 (nI n) (nI i) = nI r → i = b := fun i hi e => by
        obtain ⟨k1, k2⟩ := z_plaE h hH hn hi
        by_cases l : n < z_ix (v.2.1.2 3 i)
        · rw [k1 l] at e
          exact absurd e.symm (z_nm1 (by omega))
        · obtain ⟨p, hp, ep, ep2⟩ := k2 (by omega)
          rw [ep2] at e
          have : p = r := (nI_eq (by omega) (by omega)).mp e
          subst this
          exact (nI_eq (by omega) (by omega)).mp (ep.symm.trans e1)
      have hpb : z_pla v.2.1 (nI n) (nI b) = nI r := by
        have l : z_ix (v.2.1.2 3 b) ≤ n := by
          have := (z_hrsN h n).2 b _ hb (hH b hb).1 (hH b hb).2
          rw [e2] at this
          have := (nI_eq (a := 0) (by decide) (by have := (hH b hb).2; omega)).mp this
          omega
        obtain ⟨p, hp, ep, ep2⟩ := (z_plaE h hH hn hb).2 l
        rw [ep2]
        exact congrArg nI (w.B.2.2.2.2.2.1 p r hp hr (ep.trans e1.symm))
      cases ef : z_first (fun i => decide (z_pla v.2.1 (nI n) (nI i) = nI r)) (v.2.1.1 0) 0 with
      | none =>
        have := z_firstNo _ _ ef b (by omega) (by omega)
        rw [hpb] at this
        simp at this
      | some i =>
        obtain ⟨f1, f2, f3⟩ := z_firstP _ _ ef
        show nI i = nI b
        rw [key i (by omega) (of_decide_eq_true f1)]
    · rw [if_neg c2]
      cases ef : z_first (fun i => decide (z_pla v.2.1 (nI n) (nI i) = pl)) (v.2.1.1 0) 0 with
      | none => rfl
      | some i =>
        exfalso
        obtain ⟨f1, f2, f3⟩ := z_firstP _ _ ef
        have e := of_decide_eq_true f1
        obtain ⟨k1, k2⟩ := z_plaE h hH hn (b := i) (by omega)
        by_cases l : n < z_ix (v.2.1.2 3 i)
        · rw [k1 l] at e
          exact c (by rw [← e]; decide)
        · obtain ⟨p, hp, ep, ep2⟩ := k2 (by omega)
          rw [ep2] at e
          exact c2 (by rw [← e, z_has_nI (by omega)]; exact decide_eq_true hp)
theorem z_mulS (A : Nat) (c : Int32) : nI (A + 1) * c = nI A * c + c := by rw [← nI_1, Int32.add_mul, Int32.one_mul]
theorem z_leV {k : Nat} (hk : k < 4) : (2 : Int32) * nI k - 3 = nI k - (3 - nI k) := z_lean hk
theorem z_mblE {v : z_HV} (h : z_wf v) {b : Nat} : z_mjo v.1 (z_vts v (nI b)) = z_mbl v (nI b) := by
  have h8 := h.nc
  obtain ⟨_, bc2⟩ := z_bitsP (P := fun i => z_wv v.1 (nI i) (z_a v.2.1 1 (nI b))) (n := v.1.1 0) h8
  have key : ∀ n, n ≤ v.1.1 0 → z_fold (fun m i => if z_isIn (z_vts v (nI b)) (nI i) = true then m + (z_a v.1 2 (nI i) - (3 - z_a v.1 2 (nI i))) else m) 0 n = z_fold (fun s l => s + nI (z_cnt (z_vlB v (nI b) (nI l)) n) * (2 * nI l - 3)) 0 4 := by
    intro n
    induction n with
    | zero =>
      intro _
      show (0 : Int32) = 0 + nI 0 * (2 * nI 0 - 3) + nI 0 * (2 * nI 1 - 3) + nI 0 * (2 * nI 2 - 3) + nI 0 * (2 * nI 3 - 3)
      decide
    | succ n ih =>
      intro hn
      obtain ⟨l, hl, el⟩ := h.le (c := n) (by omega)
      have e1 : z_isIn (z_vts v (nI b)) (nI n) = z_wv v.1 (nI n) (z_a v.2.1 1 (nI b)) := bc2 n (by omega)
      have st : ∀ k, k < 4 → z_cnt (z_vlB v (nI b) (nI k)) (n + 1) = z_cnt (z_vlB v (nI b) (nI k)) n + if (l = k ∧ z_wv v.1 (nI n) (z_a v.2.1 1 (nI b)) = true) then 1 else 0 := fun k hk => by
        rw [z_cnt_s]
        congr 1
        unfold z_vlB
        rw [el, show decide (nI l = nI k) = decide (l = k) from decide_eq_decide.mpr (nI_eq (by omega) (by omega))]
        by_cases c : l = k
        · rw [decide_eq_true c, Bool.true_and]
          by_cases c2 : z_wv v.1 (nI n) (z_a v.2.1 1 (nI b)) = true
          · rw [if_pos c2, if_pos ⟨c, c2⟩]
          · rw [if_neg c2, if_neg (fun q => c2 q.2)]
        · rw [decide_eq_false c, Bool.false_and, if_neg Bool.false_ne_true, if_neg (fun q => c q.1)]
      show (if z_isIn (z_vts v (nI b)) (nI n) = true then z_fold _ 0 n + (z_a v.1 2 (nI n) - (3 - z_a v.1 2 (nI n))) else z_fold _ 0 n) = _
      rw [ih (by omega), e1, el]
      show _ = 0 + nI (z_cnt (z_vlB v (nI b) (nI 0)) (n + 1)) * (2 * nI 0 - 3) + nI (z_cnt (z_vlB v (nI b) (nI 1)) (n + 1)) * (2 * nI 1 - 3) + nI (z_cnt (z_vlB v (nI b) (nI 2)) (n + 1)) * (2 * nI 2 - 3) + nI (z_cnt (z_vlB v (nI b) (nI 3)) (n + 1)) * (2 * nI 3 - 3)
      rw [st 0 (by decide), st 1 (by decide), st 2 (by decide), st 3 (by decide)]
      show (if _ then (0 + nI (z_cnt (z_vlB v (nI b) (nI 0)) n) * (2 * nI 0 - 3) + nI (z_cnt (z_vlB v (nI b) (nI 1)) n) * (2 * nI 1 - 3) + nI (z_cnt (z_vlB v (nI b) (nI 2)) n) * (2 * nI 2 - 3) + nI (z_cnt (z_vlB v (nI b) (nI 3)) n) * (2 * nI 3 - 3)) + (nI l - (3 - nI l)) else (0 + nI (z_cnt (z_vlB v (nI b) (nI 0)) n) * (2 * nI 0 - 3) + nI (z_cnt (z_vlB v (nI b) (nI 1)) n) * (2 * nI 1 - 3) + nI (z_cnt (z_vlB v (nI b) (nI 2)) n) * (2 * nI 2 - 3) + nI (z_cnt (z_vlB v (nI b) (nI 3)) n) * (2 * nI 3 - 3))) = _
      generalize z_cnt (z_vlB v (nI b) (nI 0)) n = A0
      generalize z_cnt (z_vlB v (nI b) (nI 1)) n = A1
      generalize z_cnt (z_vlB v (nI b) (nI 2)) n = A2
      generalize z_cnt (z_vlB v (nI b) (nI 3)) n = A3
      have c4 : l = 0 ∨ l = 1 ∨ l = 2 ∨ l = 3 := by omega
      by_cases c : z_wv v.1 (nI n) (z_a v.2.1 1 (nI b)) = true
      · rw [if_pos c]
        rcases c4 with rfl | rfl | rfl | rfl
        · rw [if_pos ⟨rfl, c⟩, if_neg (by omega), if_neg (by omega), if_neg (by omega), ← z_leV (k := 0) (by decide), z_mulS, Nat.add_zero, Nat.add_zero, Nat.add_zero]
          ac_rfl
        · rw [if_neg (by omega), if_pos ⟨rfl, c⟩, if_neg (by omega), if_neg (by omega), ← z_leV (k := 1) (by decide), z_mulS, Nat.add_zero, Nat.add_zero, Nat.add_zero]
          ac_rfl
        · rw [if_neg (by omega), if_neg (by omega), if_pos ⟨rfl, c⟩, if_neg (by omega), ← z_leV (k := 2) (by decide), z_mulS, Nat.add_zero, Nat.add_zero, Nat.add_zero]
          ac_rfl
        · rw [if_neg (by omega), if_neg (by omega), if_neg (by omega), if_pos ⟨rfl, c⟩, ← z_leV (k := 3) (by decide), z_mulS, Nat.add_zero, Nat.add_zero, Nat.add_zero]
          ac_rfl
      · rw [if_neg c, if_neg (fun q => c q.2), if_neg (fun q => c q.2), if_neg (fun q => c q.2), if_neg (fun q => c q.2), Nat.add_zero, Nat.add_zero, Nat.add_zero, Nat.add_zero]
  exact key _ (Nat.le_refl _)
theorem z_told1 {v : z_HV} (h : z_wf v) : ∀ i, i < v.2.1.1 0 → z_mjo v.1 (z_vts v (nI i)) = z_mbl v (nI i) := fun _ _ => z_mblE h
theorem z_told2 {v : z_HV} (h : z_wf v) : ∀ n, n ≤ 24 → ∀ i, i < 10 → z_rwA (z_hrs v n) i = z_bla v.2.1 (nI n) (nI i) := fun n hn i hi => by
  rw [z_blaE h (by omega), z_has_nI (by omega)]
  unfold z_rwA
  have := (h.hrs n).nr
  have := (h.hrs n).nb
  by_cases c : i < (z_hrs v n).2.1.1 5
  · rw [if_pos c, if_pos (decide_eq_true c), z_aI c (by omega)]
  · rw [if_neg c, if_neg (fun q => c (of_decide_eq_true q))]
theorem z_told3 {v : z_HV} (h : z_wf v) : ∀ i, i < v.2.1.1 0 → (z_plc (v.2.1.2 5) (v.2.1.1 5) (nI i) = -1 ↔ z_adj v.2.1 (nI i) = true) := fun i hi => by
  have h10 := h.nb
  have hnr := h.nr
  obtain ⟨k, hk, e1, e2⟩ := h.B.ho hi
  unfold z_adj
  rw [e2]
  by_cases c : k = 0
  · subst c
    obtain ⟨p, hp, e3, _⟩ := z_plcIn h.B.2.2.2.2 (by omega) hi e1
    rw [e3]
    exact ⟨fun q => absurd q (z_nm1 (by omega)), fun q => absurd q (by decide)⟩
  · have e3 := z_plcOut (b := i) h.B.2.2.2.2 (by omega) hi (fun q : v.2.1.2 3 i = 0 => nI_ne0 (n := k) (by omega) (by omega) (e1.symm.trans q))
    exact ⟨fun _ => decide_eq_true (z_pos0 (by omega) (by omega)), fun _ => e3⟩
section
variable {G : z_G} {h : z_H} {Q : z_O → z_H → Prop} {a : Nat} {m : z_MV} {x : z_PV} {v : z_HV}
theorem z_silF {x : z_PV} (hw : z_wf x.1) (c : Int32) : z_fSilentIn x c = (if z_has c (x.1.1.1 0) = false then (1, 0, x) else (0, z_a x.1.1 1 c, x) : z_An) := by
  unfold z_fSilentIn
  by_cases e : z_has c (x.1.1.1 0) = false
  · rw [if_pos e, if_pos e]
  · have h8 := hw.nc
    rw [if_neg e, if_neg e]
    obtain ⟨i, hi, rfl⟩ := z_hasN (by omega) e
    obtain ⟨_, ⟨p, hp, ep⟩, _⟩ := hw.C.2.2.2.1 i hi
    have s1 := hw.sc (j := 1) (by decide)
    rw [z_silE 24 0 p x.1 hw hi ep hp, z_aI (by omega) (by omega), ep]
    by_cases c : p < 24
    · rw [if_pos c, Nat.zero_add]
    · rw [if_neg c, show p = 24 by omega]
end
section
variable {G : z_G} {C S j mc ms pc : Nat} {h : z_H} {Q : z_O → z_H → Prop} {x : z_PV} {m : z_MV} {f : Nat → Int64}
theorem z_twoC {v : z_HV} (hw : z_wf v) {c : Int32} : ∀ j, j < 3 → z_two (z_a v.1 j c) := by
  intro j hj
  unfold z_a z_atV
  split
  · rename_i e
    have hn : v.1.1 j = v.1.1 0 := hw.1.1 j (by omega)
    rw [hn] at e
    obtain ⟨i, hi, rfl⟩ := z_hasE (by have := hw.2.1; omega) e
    obtain ⟨⟨k1, u1, w1⟩, ⟨k2, u2, w2⟩, k3, u3, w3⟩ := hw.2.2.2.1 i hi
    rw [show z_ix (nI i) = i from nI_clamp (by have := hw.2.1; omega)]
    rcases (by omega : j = 0 ∨ j = 1 ∨ j = 2) with rfl | rfl | rfl
    · exact ⟨k1, by omega, w1⟩
    · exact ⟨k2, by omega, w2⟩
    · exact ⟨k3, by omega, w3⟩
  · exact ⟨0, by decide, rfl⟩
theorem z_twoB {v : z_HV} (hw : z_wf v) {c : Int32} : ∀ j, 0 < j → j < 4 → z_two (z_a v.2.1 j c) := by
  intro j h0 hj
  unfold z_a z_atV
  split
  · rename_i e
    have hn : v.2.1.1 j = v.2.1.1 0 := hw.1.2.2.1 j (by omega)
    rw [hn] at e
    obtain ⟨i, hi, rfl⟩ := z_hasE (by have := hw.2.2.1; omega) e
    obtain ⟨-, ⟨k1, u1, w1⟩, ⟨k2, u2, w2⟩, k3, u3, w3⟩ := hw.2.2.2.2.2.1 i hi
    rw [show z_ix (nI i) = i from nI_clamp (by have := hw.2.2.1; omega)]
    rcases (by omega : j = 1 ∨ j = 2 ∨ j = 3) with rfl | rfl | rfl
    · exact ⟨k1, by omega, w1⟩
    · exact ⟨k2, by omega, w2⟩
    · exact ⟨k3, by omega, w3⟩
  · exact ⟨0, by decide, rfl⟩
theorem z_twoR {v : z_HV} (hw : z_wf v) : ∀ i, i < v.2.1.1 5 → z_two (v.2.1.2 5 i) ∧ z_ix (v.2.1.2 5 i) < 10 := by
  intro i hi
  obtain ⟨b, hb, e, -⟩ := hw.2.2.2.2.2.2.1 i hi
  have := hw.2.2.1
  rw [e, show z_ix (nI b) = b from nI_clamp (by omega)]
  exact ⟨⟨b, by omega, rfl⟩, by omega⟩
end
