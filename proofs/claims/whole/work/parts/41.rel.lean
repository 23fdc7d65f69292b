/-! What the house is, and how the model's numbers tell it. -/
def z_rng (x : Int32) (n : Nat) : Prop := ∃ k : Nat, k < n ∧ x = nI k
def z_kOk (n : Nat) (x : Int32) : Prop := x = -1 ∨ z_rng x n
def z_wf (v : z_HV) : Prop := z_szs v ∧ v.1.1 0 ≤ 8 ∧ v.2.1.1 0 ≤ 10 ∧
  (∀ i, i < v.1.1 0 → z_rng (v.1.2 0 i) 60 ∧ z_rng (v.1.2 1 i) 25 ∧ z_rng (v.1.2 2 i) 4) ∧
  (∀ k, k < 3 → z_kOk (v.1.1 0) (v.1.2 4 k)) ∧
  (∀ b, b < v.2.1.1 0 → z_kOk (v.1.1 0) (v.2.1.2 0 b) ∧ z_rng (v.2.1.2 1 b) 60 ∧ z_rng (v.2.1.2 2 b) 10 ∧ z_rng (v.2.1.2 3 b) 13) ∧
  (∀ r, r < v.2.1.1 5 → ∃ b, b < v.2.1.1 0 ∧ v.2.1.2 5 r = nI b ∧ v.2.1.2 3 b = 0) ∧
  (∀ r r', r < v.2.1.1 5 → r' < v.2.1.1 5 → v.2.1.2 5 r = v.2.1.2 5 r' → r = r') ∧
  (∀ b, b < v.2.1.1 0 → v.2.1.2 3 b = 0 → ∃ r, r < v.2.1.1 5 ∧ v.2.1.2 5 r = nI b)
/-- sizes alone -/
def z_wz (v : z_HV) : Prop := z_szs v ∧ v.1.1 0 ≤ 8 ∧ v.2.1.1 0 ≤ 10
theorem z_wf.wz {v : z_HV} (hw : z_wf v) : z_wz v := ⟨hw.1, hw.2.1, hw.2.2.1⟩
def z_ci (k : Nat) : Nat := if k = 0 then 2 else if k = 1 then 3 else if k = 2 then 4 else if k = 3 then 6 else if k = 4 then 7 else 8
def z_gOk (v : z_HV) (g : Nat → Int32) : Prop := (g 0 = nI (v.1.1 0) ∧ g 1 = nI (v.2.1.1 0) ∧ g 9 = nI (v.2.1.1 5)) ∧
  ((∀ k, k < 6 → g (z_ci k) = v.2.2 k) ∧ g 5 = v.2.2 1 - v.2.2 2) ∧
  (∀ j i, j < 4 → i < v.1.1 0 → g (10 + 8 * j + i) = v.1.2 j i) ∧
  (∀ k, k < 3 → g (42 + k) = v.1.2 4 k + 1) ∧
  (∀ b, b < v.2.1.1 0 → g (45 + b) = v.2.1.2 0 b + 1) ∧
  (∀ j b, 0 < j → j < 5 → b < v.2.1.1 0 → g (45 + 10 * j + b) = v.2.1.2 j b) ∧
  ∀ r, r < v.2.1.1 5 → g (95 + r) = v.2.1.2 5 r
/-- done: only the model's house is changed, and nothing is thrown -/
def z_dnM (m m' : z_MV) : Prop := (∀ i, i ≠ 16 → m'.1 i = m.1 i) ∧ m'.1 16 = 0 ∧ ∀ j, j ≠ 1 → m'.2 j = m.2 j
theorem z_ciB {k : Nat} (hk : k < 6) : z_ci k < 10 ∧ z_ci k ≠ 0 ∧ z_ci k ≠ 1 ∧ z_ci k ≠ 5 ∧ z_ci k ≠ 9 := by
  have : ∀ k, k < 6 → z_ci k < 10 ∧ z_ci k ≠ 0 ∧ z_ci k ≠ 1 ∧ z_ci k ≠ 5 ∧ z_ci k ≠ 9 := by decide
  exact this k hk
theorem z_ciI : ∀ k, k < 6 → ∀ i, i < 6 → z_ci k = z_ci i → k = i := by decide
theorem z_inHas {c : Int32} {n : Nat} (hn : n < 1000) : z_inR c 0 (nI n - 1) = z_has c n := by
  have e : (nI n - 1).toInt = (n : Int) - 1 := pk_sub_toInt (b := 1) (by omega) (by decide)
  unfold z_inR z_has
  rw [Bool.eq_iff_iff]
  simp only [Bool.and_eq_true, decide_eq_true_eq, Int32.le_iff_toInt_le, e, Int32.toInt_zero]
  omega
theorem z_inKey {c : Int32} : z_inR c 0 2 = z_has c 3 := z_inHas (n := 3) (by decide)
theorem z_inNot {v lo hi : Int32} : z_inR v lo hi = false ↔ (v < lo ∨ hi < v) := by
  unfold z_inR
  rw [← Int32.not_le, ← Int32.not_le]
  simp only [Bool.and_eq_false_iff, decide_eq_false_iff_not]
theorem z_hasE {c : Int32} {n : Nat} (hn : n < 1000) (h : z_has c n = true) : ∃ k, k < n ∧ c = nI k := by
  have ei := z_hasI h
  refine ⟨z_ix c, ei.2.2.1, ?_⟩
  have e1 := ei.2.2.2
  refine Int32.toInt_inj.mp ?_
  rw [nI_toInt (by omega)]
  exact e1
theorem z_aI {x : z_LV} {j c : Nat} (hc : c < x.1 j) (hn : x.1 j < 1000 := by omega) : z_a x j (nI c) = x.2 j c := by
  unfold z_a
  rw [z_atV_nI (by omega), if_pos hc]
theorem z_putLI {x : z_LV} {j c : Nat} {v : Int32} (hc : c < x.1 j) (hn : x.1 j < 1000) : z_putL x j (nI c) v = z_upF x j (upd (x.2 j) c v) := by
  unfold z_putL z_updV
  rw [z_has_nI (by omega), z_ix_nI (by omega), if_pos (by simpa using hc)]
section ZGo
variable {v : z_HV} {g : Nat → Int32}
theorem z_gOk.c0 (hg : z_gOk v g) : g 0 = nI (v.1.1 0) := hg.1.1
theorem z_gOk.b0 (hg : z_gOk v g) : g 1 = nI (v.2.1.1 0) := hg.1.2.1
theorem z_gOk.r0 (hg : z_gOk v g) : g 9 = nI (v.2.1.1 5) := hg.1.2.2
theorem z_wf.nc (hw : z_wf v) : v.1.1 0 ≤ 8 := hw.2.1
theorem z_wf.nb (hw : z_wf v) : v.2.1.1 0 ≤ 10 := hw.2.2.1
theorem z_wf.sc (hw : z_wf v) {j : Nat} (hj : j < 4) : v.1.1 j = v.1.1 0 := hw.1.1 j hj
theorem z_wf.sk (hw : z_wf v) : v.1.1 4 = 3 := hw.1.2.1
theorem z_wf.sb (hw : z_wf v) {j : Nat} (hj : j < 5) : v.2.1.1 j = v.2.1.1 0 := hw.1.2.2.1 j hj
theorem z_wf.nr (hw : z_wf v) : v.2.1.1 5 ≤ v.2.1.1 0 := hw.1.2.2.2
theorem z_wz.nc (hw : z_wz v) : v.1.1 0 ≤ 8 := hw.2.1
theorem z_wz.nb (hw : z_wz v) : v.2.1.1 0 ≤ 10 := hw.2.2
theorem z_wz.sc (hw : z_wz v) {j : Nat} (hj : j < 4) : v.1.1 j = v.1.1 0 := hw.1.1 j hj
theorem z_wz.sk (hw : z_wz v) : v.1.1 4 = 3 := hw.1.2.1
theorem z_wz.sb (hw : z_wz v) {j : Nat} (hj : j < 5) : v.2.1.1 j = v.2.1.1 0 := hw.1.2.2.1 j hj
theorem z_wz.nr (hw : z_wz v) : v.2.1.1 5 ≤ v.2.1.1 0 := hw.1.2.2.2
/-- the clock's number, in the model and in the class -/
theorem z_gOk.cl (hg : z_gOk v g) (hw : z_wz v) {j c : Nat} (hj : j < 4) (hc : c < v.1.1 0) : g (10 + 8 * j + c) = z_a v.1 j (nI c) := by
  have h8 := hw.nc
  rw [z_aI (by rw [hw.sc hj]; exact hc) (by rw [hw.sc hj]; omega)]
  exact hg.2.2.1 j c hj hc
theorem z_gOk.ky (hg : z_gOk v g) (hw : z_wz v) {k : Nat} (hk : k < 3) : g (42 + k) = z_a v.1 4 (nI k) + 1 := by
  rw [z_aI (by rw [hw.sk]; exact hk) (by rw [hw.sk]; decide)]
  exact hg.2.2.2.1 k hk
theorem z_gOk.mv (hg : z_gOk v g) (hw : z_wz v) {b : Nat} (hb : b < v.2.1.1 0) : g (45 + b) = z_a v.2.1 0 (nI b) + 1 := by
  have h10 := hw.nb
  rw [z_aI hb]
  exact hg.2.2.2.2.1 b hb
theorem z_gOk.bl (hg : z_gOk v g) (hw : z_wz v) {j b : Nat} (h0 : 0 < j) (hj : j < 5) (hb : b < v.2.1.1 0) : g (45 + 10 * j + b) = z_a v.2.1 j (nI b) := by
  have h10 := hw.nb
  rw [z_aI (by rw [hw.sb hj]; exact hb) (by rw [hw.sb hj]; omega)]
  exact hg.2.2.2.2.2.1 j b h0 hj hb
theorem z_gOk.rw (hg : z_gOk v g) (hw : z_wz v) {r : Nat} (hr : r < v.2.1.1 5) : g (95 + r) = z_a v.2.1 5 (nI r) := by
  have h10 := hw.nb
  have hnr := hw.nr
  rw [z_aI hr]
  exact hg.2.2.2.2.2.2 r hr
theorem z_gOk.putC (hg : z_gOk v g) (hw : z_wz v) {j c : Nat} {x : Int32} (hj : j < 4) (hc : c < v.1.1 0) : z_gOk (z_putL v.1 j (nI c) x, v.2.1, v.2.2) (upd g (10 + 8 * j + c) x) := by
  obtain ⟨⟨a1, a2, a3⟩, ⟨a4, a5⟩, a6, a7, a8, a9, a10⟩ := hg
  have h8 := hw.nc
  have h10 := hw.nb
  have hnr := hw.nr
  rw [z_putLI (by rw [hw.sc hj]; exact hc) (by rw [hw.sc hj]; omega)]
  refine ⟨⟨(z_updN _ _ (by omega)).trans a1, (z_updN _ _ (by omega)).trans a2, (z_updN _ _ (by omega)).trans a3⟩, ⟨fun k hk => (z_updN _ _ (by have := z_ciB hk; omega)).trans (a4 k hk), (z_updN _ _ (by omega)).trans a5⟩, fun j' i hj' hi => ?_, fun k hk => ?_, fun b hb => (z_updN _ _ (by have : b < v.2.1.1 0 := hb; omega)).trans (a8 b hb), fun j' b h0 hj' hb => (z_updN _ _ (by have : b < v.2.1.1 0 := hb; omega)).trans (a9 j' b h0 hj' hb), fun r hr => (z_updN _ _ (by have : r < v.2.1.1 5 := hr; omega)).trans (a10 r hr)⟩
  · have hi2 : i < v.1.1 0 := hi
    show upd g (10 + 8 * j + c) x (10 + 8 * j' + i) = (if j' = j then upd (v.1.2 j) c x else v.1.2 j') i
    by_cases e : j' = j
    · subst e
      rw [if_pos rfl]
      by_cases e2 : i = c
      · subst e2; rw [z_updE (α := Nat), z_updE (α := Nat)]
      · rw [z_updN _ _ (by omega), z_updN _ _ e2]; exact a6 j' i hj' hi2
    · rw [if_neg e, z_updN _ _ (by omega)]; exact a6 j' i hj' hi2
  · rw [z_updN _ _ (by omega)]
    show g (42 + k) = (if 4 = j then _ else v.1.2 4) k + 1
    rw [if_neg (by omega)]
    exact a7 k hk
theorem z_gOk.putK (hg : z_gOk v g) (hw : z_wz v) {k : Nat} {x : Int32} (hk : k < 3) : z_gOk (z_putL v.1 4 (nI k) x, v.2.1, v.2.2) (upd g (42 + k) (x + 1)) := by
  obtain ⟨⟨a1, a2, a3⟩, ⟨a4, a5⟩, a6, a7, a8, a9, a10⟩ := hg
  have h8 := hw.nc
  have h10 := hw.nb
  have hnr := hw.nr
  rw [z_putLI (by rw [hw.sk]; exact hk) (by rw [hw.sk]; decide)]
  refine ⟨⟨(z_updN _ _ (by omega)).trans a1, (z_updN _ _ (by omega)).trans a2, (z_updN _ _ (by omega)).trans a3⟩, ⟨fun k hk => (z_updN _ _ (by have := z_ciB hk; omega)).trans (a4 k hk), (z_updN _ _ (by omega)).trans a5⟩, fun j' i hj' hi => ?_, fun k' hk' => ?_, fun b hb => (z_updN _ _ (by have : b < v.2.1.1 0 := hb; omega)).trans (a8 b hb), fun j' b h0 hj' hb => (z_updN _ _ (by have : b < v.2.1.1 0 := hb; omega)).trans (a9 j' b h0 hj' hb), fun r hr => (z_updN _ _ (by have : r < v.2.1.1 5 := hr; omega)).trans (a10 r hr)⟩
  · have hi2 : i < v.1.1 0 := hi
    rw [z_updN _ _ (by omega)]
    show g (10 + 8 * j' + i) = (if j' = 4 then _ else v.1.2 j') i
    rw [if_neg (by omega)]
    exact a6 j' i hj' hi2
  · show upd g (42 + k) (x + 1) (42 + k') = (if 4 = 4 then upd (v.1.2 4) k x else v.1.2 4) k' + 1
    rw [if_pos rfl]
    by_cases e : k' = k
    · subst e; rw [z_updE (α := Nat), z_updE (α := Nat)]
    · rw [z_updN _ _ (by omega), z_updN _ _ e]; exact a7 k' hk'
theorem z_gOk.putB (hg : z_gOk v g) (hw : z_wz v) {j b : Nat} {x : Int32} (h0 : 0 < j) (hj : j < 5) (hb : b < v.2.1.1 0) : z_gOk (v.1, z_putL v.2.1 j (nI b) x, v.2.2) (upd g (45 + 10 * j + b) x) := by
  obtain ⟨⟨a1, a2, a3⟩, ⟨a4, a5⟩, a6, a7, a8, a9, a10⟩ := hg
  have h8 := hw.nc
  have h10 := hw.nb
  have hnr := hw.nr
  rw [z_putLI (by rw [hw.sb hj]; exact hb) (by rw [hw.sb hj]; omega)]
  refine ⟨⟨(z_updN _ _ (by omega)).trans a1, (z_updN _ _ (by omega)).trans a2, (z_updN _ _ (by omega)).trans a3⟩, ⟨fun k hk => (z_updN _ _ (by have := z_ciB hk; omega)).trans (a4 k hk), (z_updN _ _ (by omega)).trans a5⟩, fun j' i hj' hi => (z_updN _ _ (by have : i < v.1.1 0 := hi; omega)).trans (a6 j' i hj' hi), fun k hk => (z_updN _ _ (by omega)).trans (a7 k hk), fun b' hb' => ?_, fun j' b' h0' hj' hb' => ?_, fun r hr => ?_⟩
  · have hb2 : b' < v.2.1.1 0 := hb'
    rw [z_updN _ _ (by omega)]
    show g (45 + b') = (if 0 = j then _ else v.2.1.2 0) b' + 1
    rw [if_neg (by omega)]
    exact a8 b' hb'
  · have hb2 : b' < v.2.1.1 0 := hb'
    show upd g (45 + 10 * j + b) x (45 + 10 * j' + b') = (if j' = j then upd (v.2.1.2 j) b x else v.2.1.2 j') b'
    by_cases e : j' = j
    · subst e
      rw [if_pos rfl]
      by_cases e2 : b' = b
      · subst e2; rw [z_updE (α := Nat), z_updE (α := Nat)]
      · rw [z_updN _ _ (by omega), z_updN _ _ e2]; exact a9 j' b' h0' hj' hb2
    · rw [if_neg e, z_updN _ _ (by omega)]; exact a9 j' b' h0' hj' hb2
  · have hr2 : r < v.2.1.1 5 := hr
    rw [z_updN _ _ (by omega)]
    show g (95 + r) = (if 5 = j then _ else v.2.1.2 5) r
    rw [if_neg (by omega)]
    exact a10 r hr2
/-- a counter, not of the votes held and carried -/
theorem z_gOk.cnt (hg : z_gOk v g) (hw : z_wz v) {k : Nat} {x : Int32} (hk : k < 6) (h1 : k ≠ 1) (h2 : k ≠ 2) : z_gOk (z_upW v k x) (upd g (z_ci k) x) := by
  obtain ⟨⟨a1, a2, a3⟩, ⟨a4, a5⟩, a6, a7, a8, a9, a10⟩ := hg
  have hb := z_ciB hk
  refine ⟨⟨(z_updN _ _ (by omega)).trans a1, (z_updN _ _ (by omega)).trans a2, (z_updN _ _ (by omega)).trans a3⟩, ⟨fun k' hk' => ?_, ?_⟩, fun j' i hj' hi => (z_updN _ _ (by omega)).trans (a6 j' i hj' hi), fun k hk => (z_updN _ _ (by omega)).trans (a7 k hk), fun b' hb' => (z_updN _ _ (by omega)).trans (a8 b' hb'), fun j' b' h0' hj' hb' => (z_updN _ _ (by omega)).trans (a9 j' b' h0' hj' hb'), fun r hr => (z_updN _ _ (by omega)).trans (a10 r hr)⟩
  · show upd g (z_ci k) x (z_ci k') = if k' = k then x else v.2.2 k'
    by_cases e : k' = k
    · subst e; rw [if_pos rfl, z_updE (α := Nat)]
    · rw [if_neg e, z_updN _ _ (fun e2 => e (z_ciI _ hk' _ hk e2))]; exact a4 k' hk'
  · rw [z_updN _ _ (by omega)]
    show g 5 = (if 1 = k then _ else v.2.2 1) - (if 2 = k then _ else v.2.2 2)
    rw [if_neg (by omega), if_neg (by omega)]
    exact a5
end ZGo
