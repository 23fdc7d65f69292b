/-! Well-formed houses stay so. -/
def z_wC (x : z_LV) : Prop := (∀ j, j < 4 → x.1 j = x.1 0) ∧ x.1 4 = 3 ∧ x.1 0 ≤ 8 ∧ (∀ i, i < x.1 0 → z_rng (x.2 0 i) 60 ∧ z_rng (x.2 1 i) 25 ∧ z_rng (x.2 2 i) 4) ∧ ∀ k, k < 3 → z_kOk (x.1 0) (x.2 4 k)
def z_wB (n : Nat) (y : z_LV) : Prop := (∀ j, j < 5 → y.1 j = y.1 0) ∧ y.1 5 ≤ y.1 0 ∧ y.1 0 ≤ 10 ∧ (∀ b, b < y.1 0 → z_kOk n (y.2 0 b) ∧ z_rng (y.2 1 b) 60 ∧ z_rng (y.2 2 b) 10 ∧ z_rng (y.2 3 b) 13) ∧ z_Rw (y.1 0) (y.1 5) (fun b => y.2 3 b = 0) (y.2 5)
theorem z_wf.C {v : z_HV} (h : z_wf v) : z_wC v.1 := ⟨h.1.1, h.1.2.1, h.2.1, h.2.2.2.1, h.2.2.2.2.1⟩
theorem z_wf.B {v : z_HV} (h : z_wf v) : z_wB (v.1.1 0) v.2.1 := ⟨h.1.2.2.1, h.1.2.2.2, h.2.2.1, h.2.2.2.2.2.1, h.2.2.2.2.2.2⟩
theorem z_wf.mk {x y : z_LV} {w : Nat → Int32} (hC : z_wC x) (hB : z_wB (x.1 0) y) : z_wf (x, y, w) := ⟨⟨hC.1, hC.2.1, hB.1, hB.2.1⟩, hC.2.2.1, hB.2.2.1, hC.2.2.2.1, hC.2.2.2.2, hB.2.2.2.1, hB.2.2.2.2⟩
theorem z_wf.adjN {v : z_HV} (h : z_wf v) : z_adjN v.2.1 = nI (v.2.1.1 0) - nI (v.2.1.1 5) := by
  have hB := h.B
  unfold z_adjN
  rw [h.sb (j := 3) (by decide), hB.2.2.2.2.cnt (by have := hB.2.2.1; omega) (fun i => decide (v.2.1.2 3 i = 0)) (fun b _ => by simp)]
theorem z_kOk.mono {n n' : Nat} {x : Int32} (h : z_kOk n x) (hn : n ≤ n') : z_kOk n' x := by
  rcases h with h | ⟨k, hk, e⟩
  · exact Or.inl h
  · exact Or.inr ⟨k, by omega, e⟩
theorem z_wB.mono {n n' : Nat} {y : z_LV} (h : z_wB n y) (hn : n ≤ n') : z_wB n' y := ⟨h.1, h.2.1, h.2.2.1, fun b hb => ⟨(h.2.2.2.1 b hb).1.mono hn, (h.2.2.2.1 b hb).2⟩, h.2.2.2.2⟩
theorem z_kOk.forV {n i : Nat} {x : Int32} (h : z_kOk n x) (hn : n < 1000) (hi : i < n) : z_kOk (n - 1) (z_forV (nI i) x) := by
  rcases h with rfl | ⟨k, hk, rfl⟩
  · refine Or.inl ?_
    unfold z_forV
    rw [if_neg (fun e => z_nm1 (n := i) (by omega) e.symm), if_neg]
    rw [Int32.lt_iff_toInt_lt, nI_toInt (by omega)]
    simp
  · by_cases e : k = i
    · subst e
      exact Or.inl (by unfold z_forV; rw [if_pos rfl])
    · rw [z_forN (by omega) (by omega) e]
      refine Or.inr ⟨_, ?_, rfl⟩
      split <;> omega
theorem z_rng.zero {n : Nat} (h : 0 < n) : z_rng 0 n := ⟨0, h, rfl⟩
theorem z_upA (x : z_LV) (j n : Nat) (f : Nat → Int32) (i : Nat) : (z_upS x j n f).1 i = (if i = j then n else x.1 i) ∧ (z_upS x j n f).2 i = if i = j then f else x.2 i := ⟨rfl, rfl⟩
theorem z_rngI {s : Int32} {n : Nat} (hn : n < 1000) (e : z_inR s 0 (nI n) = true) : z_rng s (n + 1) := by
  obtain ⟨k, _, hk, rfl⟩ := z_inE (lo := 0) (hi := n) hn (by omega) e
  exact ⟨k, by omega, rfl⟩
theorem z_inOr {s lo hi : Int32} (h : ¬ (s < lo ∨ hi < s)) : z_inR s lo hi = true := by
  cases e : z_inR s lo hi with
  | true => rfl
  | false => exact absurd (z_inNot.mp e) h
theorem z_wC.come {x : z_LV} {s l : Int32} (h : z_wC x) (h8 : x.1 0 < 8) (hs : z_rng s 60) (hl : z_rng l 4) : z_wC (z_come x s l) := by
  obtain ⟨a1, a2, a3, a4, a5⟩ := h
  have s1 := a1 1 (by decide)
  have s2 := a1 2 (by decide)
  have s3 := a1 3 (by decide)
  have e0 : (z_come x s l).1 0 = x.1 0 + 1 := rfl
  have d0 : (z_come x s l).2 0 = upd (x.2 0) (x.1 0) s := rfl
  have d1 : (z_come x s l).2 1 = upd (x.2 1) (x.1 0) 24 := by rw [← s1]; rfl
  have d2 : (z_come x s l).2 2 = upd (x.2 2) (x.1 0) l := by rw [← s2]; rfl
  refine ⟨fun j hj => ?_, a2, ?_, fun i hi => ?_, fun k hk => ?_⟩
  · have c4 : j = 0 ∨ j = 1 ∨ j = 2 ∨ j = 3 := by omega
    rw [e0]
    rcases c4 with rfl | rfl | rfl | rfl
    · rfl
    · show x.1 1 + 1 = _; rw [s1]
    · show x.1 2 + 1 = _; rw [s2]
    · show x.1 3 + 1 = _; rw [s3]
  · rw [e0]; omega
  · rw [e0] at hi
    rw [d0, d1, d2]
    by_cases e : i = x.1 0
    · rw [e, z_updE (α := Nat), z_updE (α := Nat), z_updE (α := Nat)]
      exact ⟨hs, ⟨24, by decide, rfl⟩, hl⟩
    · rw [z_updN _ _ e, z_updN _ _ e, z_updN _ _ e]
      exact a4 i (by omega)
  · rw [e0]
    exact (a5 k hk).mono (Nat.le_succ _)
theorem z_wC.away {v : z_HV} {i : Nat} (h : z_wf v) (hi : i < v.1.1 0) : z_wC (z_away v.1 (nI i)) := by
  obtain ⟨a1, a2, a3, a4, a5⟩ := h.C
  obtain ⟨b1, b2, b3, b4⟩ := z_awayE h.wz hi
  refine ⟨fun j hj => by rw [b1 j hj, b1 0 (by decide)], b2, by rw [b1 0 (by decide)]; omega, fun q hq => ?_, fun k hk => ?_⟩
  · rw [b1 0 (by decide)] at hq
    rw [b3 0 (by decide), b3 1 (by decide), b3 2 (by decide)]
    unfold z_remF
    by_cases e : i ≤ q ∧ q + 1 < v.1.1 0
    · rw [if_pos e, if_pos e, if_pos e]; exact a4 (q + 1) (by omega)
    · rw [if_neg e, if_neg e, if_neg e]; exact a4 q (by omega)
  · rw [b1 0 (by decide), b4]
    unfold z_forF
    rw [if_pos hk]
    exact (a5 k hk).forV (by omega) hi
theorem z_wB.forL {n i : Nat} {y : z_LV} (h : z_wB n y) (hn : n < 1000) (hi : i < n) : z_wB (n - 1) (z_forL y 0 (nI i)) := by
  obtain ⟨a1, a2, a3, a4, a5⟩ := h
  refine ⟨a1, a2, a3, fun b hb => ⟨?_, (a4 b hb).2⟩, a5⟩
  have hb2 : b < y.1 0 := hb
  show z_kOk (n - 1) (if b < y.1 0 then z_forV (nI i) (y.2 0 b) else y.2 0 b)
  rw [if_pos hb2]
  exact (a4 b hb).1.forV hn hi
theorem z_wC.putK {x : z_LV} {k : Nat} {c : Int32} (h : z_wC x) (hk : k < 3) (hc : z_kOk (x.1 0) c) : z_wC (z_putL x 4 (nI k) c) := by
  obtain ⟨a1, a2, a3, a4, a5⟩ := h
  rw [z_putLI (by rw [a2]; exact hk) (by rw [a2]; decide)]
  refine ⟨a1, a2, a3, a4, fun k' hk' => ?_⟩
  show z_kOk (x.1 0) (upd (x.2 4) k c k')
  by_cases e : k' = k
  · rw [e, z_updE (α := Nat)]; exact hc
  · rw [z_updN _ _ e]; exact a5 k' hk'
theorem z_wB.tbl {n : Nat} {y : z_LV} {c s d : Int32} (h : z_wB n y) (h10 : y.1 0 < 10) (hc : z_kOk n c) (hs : z_rng s 60) (hd : z_rng d 10) : z_wB n (z_tbl y c s d) := by
  obtain ⟨a1, a2, a3, a4, a5⟩ := h
  have s1 := a1 1 (by decide)
  have s2 := a1 2 (by decide)
  have s3 := a1 3 (by decide)
  have s4 := a1 4 (by decide)
  have e0 : (z_tbl y c s d).1 0 = y.1 0 + 1 := rfl
  have e5 : (z_tbl y c s d).1 5 = y.1 5 + 1 := rfl
  have d0 : (z_tbl y c s d).2 0 = upd (y.2 0) (y.1 0) c := rfl
  have d1 : (z_tbl y c s d).2 1 = upd (y.2 1) (y.1 0) s := by rw [← s1]; rfl
  have d2 : (z_tbl y c s d).2 2 = upd (y.2 2) (y.1 0) d := by rw [← s2]; rfl
  have d3 : (z_tbl y c s d).2 3 = upd (y.2 3) (y.1 0) 0 := by rw [← s3]; rfl
  have d5 : (z_tbl y c s d).2 5 = upd (y.2 5) (y.1 5) (nI (y.1 0)) := rfl
  refine ⟨fun j hj => ?_, ?_, ?_, fun b hb => ?_, ?_⟩
  · have c5 : j = 0 ∨ j = 1 ∨ j = 2 ∨ j = 3 ∨ j = 4 := by omega
    rw [e0]
    rcases c5 with rfl | rfl | rfl | rfl | rfl
    · rfl
    · show y.1 1 + 1 = _; rw [s1]
    · show y.1 2 + 1 = _; rw [s2]
    · show y.1 3 + 1 = _; rw [s3]
    · show y.1 4 + 1 = _; rw [s4]
  · rw [e0, e5]; omega
  · rw [e0]; omega
  · rw [e0] at hb
    rw [d0, d1, d2, d3]
    by_cases e : b = y.1 0
    · rw [e, z_updE (α := Nat), z_updE (α := Nat), z_updE (α := Nat), z_updE (α := Nat)]
      exact ⟨hc, hs, hd, z_rng.zero (by decide)⟩
    · rw [z_updN _ _ e, z_updN _ _ e, z_updN _ _ e, z_updN _ _ e]
      exact a4 b (by omega)
  · rw [e0, e5, d3, d5]
    have w : z_Rw (y.1 0 + 1) (y.1 5) (fun b => b < y.1 0 ∧ y.2 3 b = 0) (y.2 5) := by
      refine ⟨fun i hi => ?_, a5.2.1, fun b hb hp => a5.2.2 b hp.1 hp.2⟩
      obtain ⟨b, hb, q1, q2⟩ := a5.1 i hi
      exact ⟨b, by omega, q1, hb, q2⟩
    refine (w.ins (by omega) (Nat.le_refl _) (b := y.1 0) (by omega) (fun q => absurd q.1 (by omega))).eqv (fun b hb => ?_) (fun i hi => ?_)
    · by_cases e : b = y.1 0
      · rw [e, z_updE (α := Nat)]; exact ⟨fun _ => Or.inl rfl, fun _ => rfl⟩
      · rw [z_updN _ _ e]
        exact ⟨fun q => Or.inr ⟨by omega, q⟩, fun q => q.elim (fun q => absurd q e) (fun q => q.2)⟩
    · unfold z_insF
      by_cases e : i = y.1 5
      · rw [e, z_updE (α := Nat), if_pos rfl]
      · rw [z_updN _ _ e, if_neg e, if_neg (by omega)]
theorem z_firstNo {P : Nat → Bool} : ∀ m i, z_first P m i = none → ∀ j, i ≤ j → j < i + m → P j = false := by
  intro m
  induction m with
  | zero => intro i _ j h1 h2; omega
  | succ m ih =>
    intro i h j h1 h2
    have e : (if P i = true then some i else z_first P m (i + 1)) = none := h
    by_cases hp : P i = true
    · rw [if_pos hp] at e; exact absurd e (by simp)
    · rw [if_neg hp] at e
      by_cases q : j = i
      · rw [q]; exact Bool.eq_false_iff.mpr hp
      · exact ih (i + 1) e j (by omega) (by omega)
theorem z_plcIn {n r b : Nat} {P : Nat → Prop} {f : Nat → Int32} (h : z_Rw n r P f) (hn : n < 1000) (hb : b < n) (hp : P b) : ∃ p, p < r ∧ z_plc f r (nI b) = nI p ∧ f p = nI b := by
  rcases z_plcR f r (nI b) with e | e
  · obtain ⟨i, hi, ei⟩ := h.2.2 b hb hp
    exfalso
    rw [z_plcO] at e
    cases e2 : z_first (fun i => decide (f i = nI b)) r 0 with
    | none =>
      have := z_firstNo r 0 e2 i (by omega) (by omega)
      rw [ei] at this
      simp at this
    | some j =>
      rw [e2] at e
      exact z_nm1 (n := j) (by have := h.le hn; have := (z_firstP r 0 e2).2.2; omega) e
  · exact e
theorem z_plcOut {n r b : Nat} {P : Nat → Prop} {f : Nat → Int32} (h : z_Rw n r P f) (hn : n < 1000) (hb : b < n) (hp : ¬ P b) : z_plc f r (nI b) = -1 := by
  rcases z_plcR f r (nI b) with e | ⟨p, hp1, e1, e2⟩
  · exact e
  · obtain ⟨c, hc, q1, q2⟩ := h.1 p hp1
    have : b = c := (nI_eq (by omega) (by omega)).mp (e2.symm.trans q1)
    exact absurd (this ▸ q2) hp
