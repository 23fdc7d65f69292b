/-! Lists in a row of cells, by what they hold: contents count below the size alone. -/
/-- outside of m cells from a on nothing is changed -/
def z_Fr (a m : Nat) (h h' : z_H) : Prop := h'.1 = h.1 ∧ ∀ k, k < a ∨ a + m ≤ k → h'.2 k = h.2 k
theorem z_Fr.refl (a m : Nat) (h : z_H) : z_Fr a m h h := ⟨rfl, fun _ _ => rfl⟩
theorem z_Fr.trans {a m : Nat} {h h1 h2 : z_H} (x : z_Fr a m h h1) (y : z_Fr a m h1 h2) : z_Fr a m h h2 := ⟨y.1.trans x.1, fun k hk => (y.2 k hk).trans (x.2 k hk)⟩
theorem z_Fr.wide {a m b n : Nat} {h h' : z_H} (x : z_Fr a m h h') (h1 : b ≤ a) (h2 : a + m ≤ b + n) : z_Fr b n h h' := ⟨x.1, fun k hk => x.2 k (by omega)⟩
def z_Ns (h : z_H) (a cap n : Nat) (f : Nat → Int32) : Prop := h.2 a = some (.inr (4, [.ref (a + 1), .int (nI n)])) ∧ (∃ g, h.2 (a + 1) = some (.inl (0, cap, .inl g)) ∧ ∀ i, i < n → g i = f i) ∧ n ≤ cap ∧ cap ≤ 1000
theorem z_Ns.num {h : z_H} {a cap n : Nat} {f : Nat → Int32} (hN : z_Ns h a cap n f) : ∃ g, z_Num h a cap n g ∧ ∀ i, i < n → g i = f i := by
  obtain ⟨h1, ⟨g, h2, h3⟩, h4⟩ := hN
  exact ⟨g, ⟨h1, h2, h4⟩, h3⟩
theorem z_Num.ns {h : z_H} {a cap n : Nat} {g f : Nat → Int32} (hN : z_Num h a cap n g) (hf : ∀ i, i < n → g i = f i) : z_Ns h a cap n f := ⟨hN.1, ⟨g, hN.2.1, hf⟩, hN.2.2⟩
theorem z_Ns.kept {h h' : z_H} {a cap n : Nat} {f : Nat → Int32} (hN : z_Ns h a cap n f) (h1 : h'.2 a = h.2 a) (h2 : h'.2 (a + 1) = h.2 (a + 1)) : z_Ns h' a cap n f := by
  obtain ⟨g, a1, a2⟩ := hN.num
  exact (a1.kept h1 h2).ns a2
theorem z_Ns.fits {h : z_H} {a cap n : Nat} {f : Nat → Int32} (hN : z_Ns h a cap n f) : n ≤ cap ∧ cap ≤ 1000 := hN.2.2
def z_updV (f : Nat → Int32) (n : Nat) (p v : Int32) : Nat → Int32 := if z_has p n = true then upd f (z_ix p) v else f
theorem z_atV_c {f g : Nat → Int32} {n : Nat} (hf : ∀ i, i < n → g i = f i) (q : Int32) : z_atV g n q = z_atV f n q := by
  unfold z_atV
  split
  · rename_i hb
    exact hf _ (z_hasI hb).2.2.1
  · rfl
theorem z_first_c {P P' : Nat → Bool} {m : Nat} : ∀ k i, i + k ≤ m → (∀ j, j < m → P j = P' j) → z_first P k i = z_first P' k i := by
  intro k
  induction k with
  | zero => intro i _ _; rfl
  | succ k ih =>
    intro i hi hP
    unfold z_first
    rw [hP i (by omega), ih (i + 1) (by omega) hP]
theorem z_plc_c {f g : Nat → Int32} {n : Nat} (hf : ∀ i, i < n → g i = f i) (x : Int32) : z_plc g n x = z_plc f n x := by
  unfold z_plc
  rw [z_first_c (m := n) (P' := fun i => decide (f i = x)) n 0 (by omega) (fun j hj => by rw [hf j hj])]
theorem z_cnt_c {P P' : Nat → Bool} : ∀ n, (∀ j, j < n → P j = P' j) → z_cnt P n = z_cnt P' n := by
  intro n
  induction n with
  | zero => intro _; rfl
  | succ n ih =>
    intro hP
    unfold z_cnt
    rw [hP n (by omega), ih (fun j hj => hP j (by omega))]
theorem z_sum_c {f g : Nat → Int32} : ∀ n, (∀ i, i < n → g i = f i) → z_sum g n = z_sum f n := by
  intro n
  induction n with
  | zero => intro _; rfl
  | succ n ih =>
    intro hf
    unfold z_sum
    rw [hf n (by omega), ih (fun j hj => hf j (by omega))]
section ZNs
variable {G : z_G} {h : z_H} {Q : z_O → z_H → Prop} {a cap n : Nat} {f : Nat → Int32}
theorem cs_count (hN : z_Ns h a cap n f) (q : Q (.inl (some (.int (nI n)))) h) : z_W G 0 0 0 1 0 (z_L0 1 [.ref a]) [] h Q := by
  obtain ⟨g, h1, h2⟩ := hN.num
  exact c_count h1 q
theorem cs_has {x : Int32} (hN : z_Ns h a cap n f) (q : Q (.inl (some (.int (if z_has x n then 1 else 0)))) h) : z_W G 0 0 0 2 0 (z_L0 2 [.ref a, .int x]) [] h Q := by
  obtain ⟨g, h1, h2⟩ := hN.num
  exact c_has h1 q
theorem cs_at {x : Int32} (hN : z_Ns h a cap n f) (q : Q (.inl (some (.int (z_atV f n x)))) h) : z_W G 1 0 0 3 0 (z_L0 3 [.ref a, .int x]) [] h Q := by
  obtain ⟨g, h1, h2⟩ := hN.num
  exact c_at h1 (by rw [z_atV_c h2]; exact q)
theorem cs_placeOf {x : Int32} (hN : z_Ns h a cap n f) (q : Q (.inl (some (.int (z_plc f n x)))) h) : z_W G 0 0 0 10 0 (z_L0 10 [.ref a, .int x]) [] h Q := by
  obtain ⟨g, h1, h2⟩ := hN.num
  exact c_placeOf h1 (by rw [z_plc_c h2]; exact q)
theorem cs_countOf {x : Int32} (hN : z_Ns h a cap n f) (q : Q (.inl (some (.int (nI (z_cnt (fun i => decide (f i = x)) n))))) h) : z_W G 0 0 0 11 0 (z_L0 11 [.ref a, .int x]) [] h Q := by
  obtain ⟨g, h1, h2⟩ := hN.num
  exact c_countOf h1 (by rw [z_cnt_c (P' := fun i => decide (f i = x)) n (fun j hj => by rw [h2 j hj])]; exact q)
theorem cs_sum (hN : z_Ns h a cap n f) (q : Q (.inl (some (.int (z_sum f n)))) h) : z_W G 0 0 0 12 0 (z_L0 12 [.ref a]) [] h Q := by
  obtain ⟨g, h1, h2⟩ := hN.num
  exact c_sum h1 (by rw [z_sum_c n h2]; exact q)
end ZNs
theorem z_nb (b : Bool) : narrow .boolean (.int (if b = true then 1 else 0)) = .int (if b = true then 1 else 0) := by cases b <;> decide
/-- values of lists: sizes, contents -/
abbrev z_LV : Type := (Nat → Nat) × (Nat → Nat → Int32)
def z_upS (x : z_LV) (j n : Nat) (g : Nat → Int32) : z_LV := (fun i => if i = j then n else x.1 i, fun i => if i = j then g else x.2 i)
def z_upF (x : z_LV) (j : Nat) (g : Nat → Int32) : z_LV := (x.1, fun i => if i = j then g else x.2 i)
theorem z_upS_same (x : z_LV) (j : Nat) (g : Nat → Int32) : z_upS x j (x.1 j) g = z_upF x j g := by
  unfold z_upS z_upF
  rw [show (fun i => if i = j then x.1 j else x.1 i) = x.1 from by funext i; split <;> simp_all]
/-- an object of k lists at a, its lists behind it -/
def z_Li (ci k : Nat) (cap : Nat → Nat) (fs : List Value) (h : z_H) (a : Nat) (x : z_LV) : Prop := h.2 a = some (.inr (ci, fs)) ∧ ∀ j, j < k → z_Ns h (a + 1 + 2 * j) (cap j) (x.1 j) (x.2 j)
theorem z_Li.kept {ci k a b m : Nat} {cap : Nat → Nat} {fs : List Value} {h h' : z_H} {x : z_LV} (hL : z_Li ci k cap fs h a x) (hF : z_Fr b m h h') (hd : a + (2 * k + 1) ≤ b ∨ b + m ≤ a) : z_Li ci k cap fs h' a x :=
  ⟨(hF.2 a (by omega)).trans hL.1, fun j hj => (hL.2 j hj).kept (hF.2 _ (by omega)) (hF.2 _ (by omega))⟩
theorem z_Li.eqv {ci k a : Nat} {cap : Nat → Nat} {fs : List Value} {h : z_H} {x y : z_LV} (hL : z_Li ci k cap fs h a x) (he : ∀ j, j < k → x.1 j = y.1 j ∧ ∀ i, i < y.1 j → x.2 j i = y.2 j i) : z_Li ci k cap fs h a y :=
  ⟨hL.1, fun j hj => by
    obtain ⟨h1, ⟨g, h2, h3⟩, h4⟩ := hL.2 j hj
    obtain ⟨e1, e2⟩ := he j hj
    rw [e1] at h1 h3 h4
    exact ⟨h1, ⟨g, h2, fun i hi => (h3 i hi).trans (e2 i hi)⟩, h4⟩⟩
theorem z_Li.set {ci k a j n : Nat} {cap : Nat → Nat} {fs : List Value} {h : z_H} {x : z_LV} {g g' : Nat → Int32} (hL : z_Li ci k cap fs h a x) (hj : j < k) (hn : n ≤ cap j) (hg : ∀ i, i < n → g' i = g i) : z_Li ci k cap fs (z_putN h (a + 1 + 2 * j) (cap j) n g') a (z_upS x j n g) ∧ z_Fr a (2 * k + 1) h (z_putN h (a + 1 + 2 * j) (cap j) n g') := by
  have hc := (hL.2 j hj).fits.2
  refine ⟨⟨(z_putN_ne (by omega) (by omega)).trans hL.1, fun i hi => ?_⟩, ⟨rfl, fun q hq => z_putN_ne (by omega) (by omega)⟩⟩
  unfold z_upS
  by_cases e : i = j
  · subst e
    simp only [if_true]
    exact (z_putN_num hn hc).ns hg
  · simp only [if_neg e]
    exact (hL.2 i hi).kept (z_putN_ne (by omega) (by omega)) (z_putN_ne (by omega) (by omega))
def z_remL (x : z_LV) (j : Nat) (p : Int32) : z_LV := if z_has p (x.1 j) = true then z_upS x j (x.1 j - 1) (z_remF (x.2 j) (x.1 j) (z_ix p)) else x
def z_addL (x : z_LV) (j : Nat) (v : Int32) : z_LV := z_upS x j (x.1 j + 1) (upd (x.2 j) (x.1 j) v)
def z_insL (x : z_LV) (j p : Nat) (v : Int32) : z_LV := z_upS x j (x.1 j + 1) (z_insF (x.2 j) (x.1 j) p v)
def z_a (x : z_LV) (j : Nat) (q : Int32) : Int32 := z_atV (x.2 j) (x.1 j) q
section ZLi
variable {G : z_G} {h : z_H} {Q : z_O → z_H → Prop} {ci k a j : Nat} {cap : Nat → Nat} {fs : List Value} {x : z_LV}
theorem z_Li.at {p : Int32} (hL : z_Li ci k cap fs h a x) (hj : j < k) (q : Q (.inl (some (.int (z_a x j p)))) h) : z_W G 1 0 0 3 0 (z_L0 3 [.ref (a + 1 + 2 * j), .int p]) [] h Q := cs_at (hL.2 j hj) q
theorem z_Li.put {p v : Int32} (hL : z_Li ci k cap fs h a x) (hj : j < k) (q : ∀ h', z_Li ci k cap fs h' a (z_upF x j (z_updV (x.2 j) (x.1 j) p v)) → z_Fr a (2 * k + 1) h h' → Q (.inl none) h') : z_W G 1 0 0 4 0 (z_L0 4 [.ref (a + 1 + 2 * j), .int p, .int v]) [] h Q := by
  obtain ⟨g, h1, h2⟩ := (hL.2 j hj).num
  refine c_put h1 ?_
  split
  · rename_i hb
    have hi := (z_hasI hb).2.2.1
    obtain ⟨w1, w2⟩ := hL.set (g := z_updV (x.2 j) (x.1 j) p v) (g' := upd g (z_ix p) v) hj h1.2.2.1 (fun i hi => by
      unfold z_updV
      rw [if_pos hb]
      unfold upd
      split
      · rfl
      · exact h2 i hi)
    rw [z_upS_same] at w1
    exact q _ w1 w2
  · rename_i hb
    refine q _ (hL.eqv fun i hi => ⟨rfl, fun l _ => ?_⟩) (z_Fr.refl _ _ _)
    unfold z_upF z_updV
    rw [if_neg hb]
    by_cases e : i = j
    · subst e; simp
    · simp [e]
theorem z_Li.addTo {p v : Int32} (hL : z_Li ci k cap fs h a x) (hj : j < k) (q : ∀ h', z_Li ci k cap fs h' a (z_upF x j (z_updV (x.2 j) (x.1 j) p (z_a x j p + v))) → z_Fr a (2 * k + 1) h h' → Q (.inl none) h') : z_W G 2 0 0 5 0 (z_L0 5 [.ref (a + 1 + 2 * j), .int p, .int v]) [] h Q := by
  obtain ⟨g, h1, h2⟩ := (hL.2 j hj).num
  refine c_addTo h1 ?_
  rw [z_atV_c h2]
  split
  · rename_i hb
    have hi := (z_hasI hb).2.2.1
    obtain ⟨w1, w2⟩ := hL.set (g := z_updV (x.2 j) (x.1 j) p (z_a x j p + v)) (g' := upd g (z_ix p) (z_a x j p + v)) hj h1.2.2.1 (fun i hi => by
      unfold z_updV
      rw [if_pos hb]
      unfold upd
      split
      · rfl
      · exact h2 i hi)
    rw [z_upS_same] at w1
    exact q _ w1 w2
  · rename_i hb
    refine q _ (hL.eqv fun i hi => ⟨rfl, fun l _ => ?_⟩) (z_Fr.refl _ _ _)
    unfold z_upF z_updV
    rw [if_neg hb]
    by_cases e : i = j
    · subst e; simp
    · simp [e]
theorem z_Li.forget {p : Int32} (hL : z_Li ci k cap fs h a x) (hj : j < k) (q : ∀ h', z_Li ci k cap fs h' a (z_upF x j (z_forF (x.2 j) (x.1 j) p)) → z_Fr a (2 * k + 1) h h' → Q (.inl none) h') : z_W G 0 0 0 9 0 (z_L0 9 [.ref (a + 1 + 2 * j), .int p]) [] h Q := by
  obtain ⟨g, h1, h2⟩ := (hL.2 j hj).num
  refine c_forget h1 ?_
  obtain ⟨w1, w2⟩ := hL.set (g := z_forF (x.2 j) (x.1 j) p) (g' := z_forF g (x.1 j) p) hj h1.2.2.1 (fun i hi => by
    unfold z_forF
    rw [h2 i hi])
  rw [z_upS_same] at w1
  exact q _ w1 w2
theorem z_Li.removeAt {p : Int32} (hL : z_Li ci k cap fs h a x) (hj : j < k) (q : ∀ h', z_Li ci k cap fs h' a (z_remL x j p) → z_Fr a (2 * k + 1) h h' → Q (.inl none) h') : z_W G 1 0 0 8 0 (z_L0 8 [.ref (a + 1 + 2 * j), .int p]) [] h Q := by
  obtain ⟨g, h1, h2⟩ := (hL.2 j hj).num
  refine c_removeAt h1 ?_
  split
  · rename_i hb
    have hi := (z_hasI hb).2.2.1
    obtain ⟨w1, w2⟩ := hL.set (g := z_remF (x.2 j) (x.1 j) (z_ix p)) (g' := z_remF g (x.1 j) (z_ix p)) (n := x.1 j - 1) hj (by have := h1.2.2.1; omega) (fun i hi => by
      unfold z_remF
      split
      · exact h2 _ (by omega)
      · exact h2 i (by omega))
    refine q _ ?_ w2
    unfold z_remL
    rw [if_pos hb]
    exact w1
  · rename_i hb
    refine q _ ?_ (z_Fr.refl _ _ _)
    unfold z_remL
    rw [if_neg hb]
    exact hL
theorem z_Li.add {v : Int32} (hL : z_Li ci k cap fs h a x) (hj : j < k) (hc : x.1 j < cap j) (q : ∀ h', z_Li ci k cap fs h' a (z_addL x j v) → z_Fr a (2 * k + 1) h h' → Q (.inl none) h') : z_W G 1 0 0 7 0 (z_L0 7 [.ref (a + 1 + 2 * j), .int v]) [] h Q := by
  obtain ⟨g, h1, h2⟩ := (hL.2 j hj).num
  refine c_add h1 hc ?_
  obtain ⟨w1, w2⟩ := hL.set (n := x.1 j + 1) (g := upd (x.2 j) (x.1 j) v) (g' := z_insF g (x.1 j) (x.1 j) v) hj (by omega) (fun i hi => by
    unfold z_insF upd
    by_cases e : i = x.1 j
    · rw [if_pos e, if_pos e]
    · rw [if_neg e, if_neg e, if_neg (by omega)]
      exact h2 i (by omega))
  exact q _ w1 w2
theorem z_Li.insert {p : Nat} {v : Int32} (hL : z_Li ci k cap fs h a x) (hj : j < k) (hc : p ≤ x.1 j ∧ x.1 j < cap j) (q : ∀ h', z_Li ci k cap fs h' a (z_insL x j p v) → z_Fr a (2 * k + 1) h h' → Q (.inl none) h') : z_W G 0 0 0 6 0 (z_L0 6 [.ref (a + 1 + 2 * j), .int (nI p), .int v]) [] h Q := by
  obtain ⟨g, h1, h2⟩ := (hL.2 j hj).num
  refine c_insert h1 hc.1 hc.2 ?_
  obtain ⟨w1, w2⟩ := hL.set (n := x.1 j + 1) (g := z_insF (x.2 j) (x.1 j) p v) (g' := z_insF g (x.1 j) p v) hj (by omega) (fun i hi => by
    unfold z_insF
    split
    · rfl
    · split
      · exact h2 _ (by omega)
      · exact h2 i (by omega))
  exact q _ w1 w2
theorem z_Li.copy {b cap2 m : Nat} {f2 : Nat → Int32} (hL : z_Li ci k cap fs h a x) (hj : j < k) (hB : z_Ns h b cap2 m f2) (hd : b + 2 ≤ a ∨ a + (2 * k + 1) ≤ b) (hm : m ≤ cap j) (q : ∀ h', z_Li ci k cap fs h' a (z_upS x j m f2) → z_Fr a (2 * k + 1) h h' → Q (.inl none) h') : z_W G 0 0 0 13 0 (z_L0 13 [.ref (a + 1 + 2 * j), .ref b]) [] h Q := by
  obtain ⟨g, h1, h2⟩ := (hL.2 j hj).num
  obtain ⟨g2, h3, h4⟩ := hB.num
  refine c_copyFrom h1 h3 (by omega) hm ?_
  obtain ⟨w1, w2⟩ := hL.set (n := m) (g := f2) (g' := z_copF g g2 m) hj hm (fun i hi => by
    unfold z_copF
    rw [if_pos hi]
    exact h4 i hi)
  exact q _ w1 w2
end ZLi
/-- the general loop's value: step by step from 0 on -/
def z_fold {α : Type} (step : α → Nat → α) (a : α) : Nat → α
  | 0 => a
  | n + 1 => step (z_fold step a n) n
theorem z_fold_c {α : Type} {s s' : α → Nat → α} {a : α} : ∀ n, (∀ b i, i < n → s b i = s' b i) → z_fold s a n = z_fold s' a n := by
  intro n
  induction n with
  | zero => intro _; rfl
  | succ n ih =>
    intro hs
    show s _ n = s' _ n
    rw [ih fun b i hi => hs b i (by omega), hs _ n (by omega)]
def z_capC (j : Nat) : Nat := if j = 4 then 3 else 8
def z_capB (_ : Nat) : Nat := 10
abbrev z_Cl (h : z_H) (c : Nat) (x : z_LV) : Prop := z_Li 1 5 z_capC [.ref (c + 1 + 2 * 0), .ref (c + 1 + 2 * 1), .ref (c + 1 + 2 * 2), .ref (c + 1 + 2 * 3), .ref (c + 1 + 2 * 4)] h c x
abbrev z_Bi (h : z_H) (c : Nat) (x : z_LV) : Prop := z_Li 0 6 z_capB [.ref (c + 1 + 2 * 0), .ref (c + 1 + 2 * 1), .ref (c + 1 + 2 * 2), .ref (c + 1 + 2 * 3), .ref (c + 1 + 2 * 4), .ref (c + 1 + 2 * 5)] h c x
/-- clocks, bills, counters -/
abbrev z_HV : Type := z_LV × z_LV × (Nat → Int32)
def z_Hs (h : z_H) (b : Nat) (v : z_HV) : Prop := h.2 b = some (.inr (3, [.ref (b + 1), .ref (b + 12), .int (v.2.2 0), .int (v.2.2 1), .int (v.2.2 2), .int (v.2.2 3), .int (v.2.2 4), .int (v.2.2 5)])) ∧ z_Cl h (b + 1) v.1 ∧ z_Bi h (b + 12) v.2.1
theorem z_Hs.kept {h h' : z_H} {a b m : Nat} {v : z_HV} (hH : z_Hs h a v) (hF : z_Fr b m h h') (hd : a + 25 ≤ b ∨ b + m ≤ a) : z_Hs h' a v :=
  ⟨(hF.2 a (by omega)).trans hH.1, hH.2.1.kept hF (by omega), hH.2.2.kept hF (by omega)⟩
theorem z_Hs.cl {h h' : z_H} {b : Nat} {v : z_HV} {x : z_LV} (hH : z_Hs h b v) (hC : z_Cl h' (b + 1) x) (hF : z_Fr (b + 1) 11 h h') : z_Hs h' b (x, v.2.1, v.2.2) ∧ z_Fr b 25 h h' :=
  ⟨⟨(hF.2 b (by omega)).trans hH.1, hC, hH.2.2.kept hF (by omega)⟩, hF.wide (by omega) (by omega)⟩
theorem z_Hs.bi {h h' : z_H} {b : Nat} {v : z_HV} {x : z_LV} (hH : z_Hs h b v) (hC : z_Bi h' (b + 12) x) (hF : z_Fr (b + 12) 13 h h') : z_Hs h' b (v.1, x, v.2.2) ∧ z_Fr b 25 h h' :=
  ⟨⟨(hF.2 b (by omega)).trans hH.1, hH.2.1.kept hF (by omega), hC⟩, hF.wide (by omega) (by omega)⟩
/-- a counter takes a new value -/
def z_upW (v : z_HV) (j : Nat) (c : Int32) : z_HV := (v.1, v.2.1, fun i => if i = j then c else v.2.2 i)
theorem z_Hs.cnt {h : z_H} {b : Nat} {v : z_HV} {fs : List Value} (j : Nat) (c : Int32) (hH : z_Hs h b v) (he : fs = [.ref (b + 1), .ref (b + 12), .int ((z_upW v j c).2.2 0), .int ((z_upW v j c).2.2 1), .int ((z_upW v j c).2.2 2), .int ((z_upW v j c).2.2 3), .int ((z_upW v j c).2.2 4), .int ((z_upW v j c).2.2 5)]) : z_Hs (z_set h b (.inr (3, fs))) b (z_upW v j c) ∧ z_Fr b 25 h (z_set h b (.inr (3, fs))) := by
  have hF : z_Fr b 1 h (z_set h b (.inr (3, fs))) := ⟨rfl, fun k hk => z_set_ne _ _ (by omega)⟩
  subst he
  exact ⟨⟨z_set_eq _ _ _, hH.2.1.kept hF (by omega), hH.2.2.kept hF (by omega)⟩, hF.wide (by omega) (by omega)⟩
