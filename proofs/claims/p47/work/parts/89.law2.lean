/-! Objects side by side; builders in the law; what the texts do. -/
theorem z_P.move {h h' : z_H} {p : Nat} {B B' : Nat → Prop} {x : z_PV} (hP : z_P h p B x) (h1 : h.1 ≤ h'.1) (hk : ∀ k, k < 1000 + h.1 → ((p ≤ k ∧ k < p + 288) ∨ B k) → h'.2 k = h.2 k) (hB : ∀ k, k < 1000 + h.1 → B k → B' k) (hB1 : ∀ k, B' k → p + 288 ≤ k) (hB2 : ∀ k, 1000 + h'.1 ≤ k → B' k) : z_P h' p B' x := by
  obtain ⟨ri, rl, sp, pos, ot, od, fd, hA⟩ := hP
  obtain ⟨n1, n2, n3, n4, n5, n6⟩ := hA.nu
  have m7 := n4 _ (n5 _ (Nat.le_refl _))
  have sbr : ∀ {a r m : Nat} {l : List Nat}, z_Sb h a r m l → r < 1000 + h.1 := fun q => by
    obtain ⟨cap, ml, g, s1, s2, s3, s4, s5, s6, s7, s8, s9, s10⟩ := q
    exact s9
  have hri := sbr hA.ti
  have hrl := sbr hA.lb
  have g : ∀ k, p ≤ k → k < p + 288 → h'.2 k = h.2 k := fun k u1 u2 => hk k (by omega) (Or.inl ⟨u1, u2⟩)
  have gr : ∀ {r d : Nat}, d < 288 → r < 1000 + h.1 → (r = p + d ∨ B r) → h'.2 r = h.2 r := fun {r d} hd hr e => e.elim (fun e => g r (by omega) (by omega)) (fun e => hk r hr (Or.inr e))
  exact ⟨ri, rl, sp, pos, ot, od, fd, (g _ (by omega) (by omega)).trans hA.c0, hA.h0.keptX fun j u1 u2 => g j (by omega) (by omega), hA.h1.keptX fun j u1 u2 => g j (by omega) (by omega), hA.h2.keptX fun j u1 u2 => g j (by omega) (by omega), hA.hy.keptX fun j u1 u2 => g j (by omega) (by omega), (g _ (by omega) (by omega)).trans hA.tc, hA.ti.keptX h1 (g _ (by omega) (by omega)) (gr (d := 280) (by decide) hri n1), (g _ (by omega) (by omega)).trans hA.to, (g _ (by omega) (by omega)).trans hA.od, hA.lb.keptX h1 (g _ (by omega) (by omega)) (gr (d := 284) (by decide) hrl n2), (g _ (by omega) (by omega)).trans hA.fd, (g _ (by omega) (by omega)).trans hA.kc, (g _ (by omega) (by omega)).trans hA.cc, ⟨n1.imp_right (hB _ hri), n2.imp_right (hB _ hrl), n3, hB1, hB2, n6⟩, hA.wi, hA.wl, hA.wp⟩
theorem z_P.low {h : z_H} {p : Nat} {B : Nat → Prop} {x : z_PV} (hP : z_P h p B x) : (∀ k, B k → p + 288 ≤ k) ∧ (∀ k, 1000 + h.1 ≤ k → B k) ∧ 1000 ≤ p ∧ p + 288 ≤ 1000 + h.1 := by
  obtain ⟨ri, rl, sp, pos, ot, od, fd, hA⟩ := hP
  obtain ⟨n1, n2, n3, n4, n5, n6⟩ := hA.nu
  exact ⟨n4, n5, n6, n4 _ (n5 _ (Nat.le_refl _))⟩
/-- the object of the first place and another at q -/
def z_Pr (h : z_H) (x : z_PV) (q : Nat) (y : z_PV) : Prop := ∃ S T : Nat → Prop, z_P h 1000 (fun k => S k ∨ 1000 + h.1 ≤ k) x ∧ z_P h q (fun k => T k ∨ 1000 + h.1 ≤ k) y ∧ (∀ k, S k → k < 1000 + h.1 ∧ ¬ T k ∧ (k < q ∨ q + 288 ≤ k)) ∧ (∀ k, T k → k < 1000 + h.1) ∧ 1288 ≤ q
theorem z_Pr.leftT {h g : z_H} {x y : z_PV} {q : Nat} (w : z_Pr h x q y) (hg : h.1 ≤ g.1) (hk : ∀ k, k < 1000 + h.1 → g.2 k = h.2 k) : ∃ B : Nat → Prop, z_P g 1000 B x ∧ (∀ k, 1000 + h.1 ≤ k → k < 1000 + g.1 → ¬ B k) ∧ ∀ h' x', z_P h' 1000 B x' → z_Px 1000 B g h' → z_Pr h' x' q y := by
  obtain ⟨S, T, w1, w2, w3, w4, w5⟩ := w
  obtain ⟨l1, l2, l3, l4⟩ := w1.low
  obtain ⟨r1, r2, r3, r4⟩ := w2.low
  have w1' : z_P g 1000 (fun k => S k ∨ 1000 + g.1 ≤ k) x := w1.move hg (fun k u _ => hk k u) (fun k u e => e.elim Or.inl (fun e => absurd e (by omega))) (fun k e => e.elim (fun e => l1 k (Or.inl e)) (fun e => by omega)) (fun k e => Or.inr e)
  refine ⟨_, w1', fun k u1 u2 e => e.elim (fun e => absurd (w3 k e).1 (by omega)) (fun e => by omega), fun h' x' hP hX => ?_⟩
  have hx1 := hX.1
  refine ⟨fun k => (S k ∨ 1000 + g.1 ≤ k) ∧ k < 1000 + h'.1, T, hP.move (Nat.le_refl _) (fun _ _ _ => rfl) (fun k u e => Or.inl ⟨e, u⟩) (fun k e => e.elim (fun e => e.1.elim (fun e => l1 k (Or.inl e)) (fun e => by omega)) (fun e => by omega)) (fun k e => Or.inr e), ?_, fun k e => ⟨e.2, ?_, ?_⟩, fun k e => by have := w4 k e; omega, w5⟩
  · refine w2.move (by omega) (fun k u e => (hX.2 k ?_ ?_).trans (hk k u)) (fun k u e => e.elim Or.inl (fun e => absurd e (by omega))) (fun k e => e.elim (fun e => r1 k (Or.inl e)) (fun e => by omega)) (fun k e => Or.inr e)
    · intro e2
      rcases e2 with e2 | e2
      · rcases e with e | e | e
        · have := (w3 k e2).2.2; omega
        · exact (w3 k e2).2.1 e
        · omega
      · omega
    · rcases e with e | e | e
      · omega
      · have := r1 k (Or.inl e); omega
      · omega
  · intro e2
    rcases e.1 with e1 | e1
    · exact (w3 k e1).2.1 e2
    · have := w4 k e2; omega
  · rcases e.1 with e1 | e1
    · exact (w3 k e1).2.2
    · omega
theorem z_Pr.left {h : z_H} {x y : z_PV} {q : Nat} (w : z_Pr h x q y) : ∃ B : Nat → Prop, z_P h 1000 B x ∧ ∀ h' x', z_P h' 1000 B x' → z_Px 1000 B h h' → z_Pr h' x' q y := by
  obtain ⟨B, w1, -, w2⟩ := w.leftT (Nat.le_refl _) (fun _ _ => rfl)
  exact ⟨B, w1, w2⟩
theorem z_Pr.right {h : z_H} {x y : z_PV} {q : Nat} (w : z_Pr h x q y) : ∃ B : Nat → Prop, z_P h q B y ∧ ∀ h' y', z_P h' q B y' → z_Px q B h h' → z_Pr h' x q y' := by
  obtain ⟨S, T, w1, w2, w3, w4, w5⟩ := w
  obtain ⟨l1, l2, l3, l4⟩ := w1.low
  obtain ⟨r1, r2, r3, r4⟩ := w2.low
  refine ⟨_, w2, fun h' y' hP hX => ?_⟩
  have hx1 := hX.1
  refine ⟨S, fun k => (T k ∨ 1000 + h.1 ≤ k) ∧ k < 1000 + h'.1, ?_, hP.move (Nat.le_refl _) (fun _ _ _ => rfl) (fun k u e => Or.inl ⟨e, u⟩) (fun k e => e.elim (fun e => e.1.elim (fun e => r1 k (Or.inl e)) (fun e => by omega)) (fun e => by omega)) (fun k e => Or.inr e), fun k e => ⟨by have := (w3 k e).1; omega, ?_, (w3 k e).2.2⟩, fun k e => e.2, w5⟩
  · refine w1.move hx1 (fun k u e => hX.2 k ?_ ?_) (fun k u e => e.elim Or.inl (fun e => absurd e (by omega))) (fun k e => e.elim (fun e => l1 k (Or.inl e)) (fun e => by omega)) (fun k e => Or.inr e)
    · intro e2
      rcases e2 with e2 | e2
      · rcases e with e | e | e
        · have := r1 k (Or.inl e2); omega
        · exact (w3 k e).2.1 e2
        · omega
      · omega
    · rcases e with e | e | e
      · omega
      · exact (w3 k e).2.2
      · omega
  · intro e2
    rcases e2.1 with e1 | e1
    · exact (w3 k e).2.1 e1
    · have := (w3 k e).1; omega
/-- two objects, the second made behind the first -/
theorem z_Pr.mk {h h' : z_H} {x y : z_PV} {B : Nat → Prop} (hP : z_P h 1000 B x) (hQ : z_P h' (1000 + h.1) (fun k => 1000 + h.1 + 288 ≤ k) y) (hk : ∀ k, k < 1000 + h.1 → h'.2 k = h.2 k) (hs : h.1 + 288 ≤ h'.1) : z_Pr h' x (1000 + h.1) y := by
  obtain ⟨l1, l2, l3, l4⟩ := hP.low
  refine ⟨fun k => B k ∧ k < 1000 + h.1, fun k => 1000 + h.1 + 288 ≤ k ∧ k < 1000 + h'.1, hP.move (by omega) (fun k u _ => hk k u) (fun k u e => Or.inl ⟨e, u⟩) (fun k e => e.elim (fun e => l1 k e.1) (fun e => by omega)) (fun k e => Or.inr e), hQ.move (Nat.le_refl _) (fun _ _ _ => rfl) (fun k u e => Or.inl ⟨e, u⟩) (fun k e => e.elim (fun e => e.1) (fun e => by omega)) (fun k e => Or.inr e), fun k e => ⟨by omega, fun e2 => by omega, by omega⟩, fun k e => e.2, by omega⟩
/-! a builder in the law -/
def z_Bd (h0 h : z_H) (a cap : Nat) (l : List Nat) : Prop := ∃ r, z_Sc h a r cap l ∧ 1000 + h0.1 ≤ a ∧ 1000 + h0.1 ≤ r ∧ h0.1 ≤ h.1 ∧ ∀ k, k < 1000 + h0.1 → h.2 k = h0.2 k
section ZBl
variable {G : z_G} {d mc ms mi pc nx : Nat} {L st : List Value} {h h0 : z_H} {Q : z_O → z_H → Prop} {a cap : Nat} {l : List Nat}
theorem z_bdNew {idx idx2 p1 p2 j1 j2 j3 j mc' ms' : Nat} {i2 : List Nat} (r1 : z_at mi pc = some (.new idx, p1, [0, 10, j1, j2, j3])) (r2 : z_at mi p1 = some (.dup, p2, i2)) (r3 : z_at mi p2 = some (.invokespecial idx2, nx, [2, 300, 0, j])) (hd : 3 ≤ d) (hm : mc' + 2 ≤ mc) (hs : ms' + 20 ≤ ms) (hst : Nat.ble ((((.ref 0 : Value) :: st).map fun v => v.category).sum) 8 = true) (kk : ∀ hh a, z_Bd h hh a 16 [] → z_W G d mc' ms' mi nx L (.ref a :: st) hh Q) : z_W G d mc ms mi pc L st h Q := by
  refine z_newO (mc2 := mc' + 1) (ms2 := ms' + 16) r1 (by omega) (by show ms' + 16 + 4 ≤ ms; omega) ?_
  refine z_dup r2 rfl ?_
  refine z_callI (av := []) (mc' := 1) (ms' := 16) r3 z_w300 rfl rfl rfl hst (by omega) (by omega) (by omega) (Nat.le_of_ble_eq_true rfl) (c_initSc (a := 1000 + h.1) (z_new_eq _ _) (by show 1000 + h.1 + 1 = 1000 + (h.1 + 1); omega) fun h' x e f => ?_)
  exact (kk h' _ ⟨_, x, Nat.le_refl _, by omega, by omega, fun k u => (f k u).trans (z_new_ne _ _ (by omega))⟩).mono (Nat.le_refl _) (by omega) (by omega)
theorem z_Bd.next {h' : z_H} {r' cap' : Nat} {l' : List Nat} {r : Nat} (hB : 1000 + h0.1 ≤ a ∧ 1000 + h0.1 ≤ r ∧ h0.1 ≤ h.1 ∧ ∀ k, k < 1000 + h0.1 → h.2 k = h0.2 k) (hr : r' = r ∨ 1000 + h.1 ≤ r') (hS : z_Sc h' a r' cap' l') (hx : z_Fx a r h h') : z_Bd h0 h' a cap' l' := by
  obtain ⟨b1, b2, b3, b4⟩ := hB
  exact ⟨r', hS, b1, by omega, by have := hx.1; omega, fun k u => (hx.2 k (by omega) (by omega) (by omega)).trans (b4 k u)⟩
theorem z_bdS {idx j i mc' ms' : Nat} (r1 : z_at mi pc = some (.invokevirtual idx, nx, [0, 160, 1, j])) (hi : i < z_lsn) (hl : l.length + (z_lsc i).length ≤ 100) (hcp : cap ≤ 300) (hB : z_Bd h0 h a cap l) (hd : 6 ≤ d) (hm : mc' + 1 ≤ mc) (hs : ms' + 202 ≤ ms) (hst : Nat.ble ((st.map fun v => v.category).sum) 8 = true) (kk : ∀ hh, z_Bd h0 hh a (z_zc cap (l.length + (z_lsc i).length)) (l ++ z_lsc i) → z_W G d mc' ms' mi nx L (.ref a :: st) hh Q) : z_W G d mc ms mi pc L (.ref (40 + i) :: .ref a :: st) h Q := by
  obtain ⟨r, hS, hB⟩ := hB
  have hb : (70 + i, FieldType.byte, (z_lsc i).map fun x => Value.int (nI x)) ∈ z_roa := List.mem_append_right _ (List.mem_append_right _ (List.mem_map.mpr ⟨i, List.mem_range.mpr hi, rfl⟩))
  refine z_callV (av := [_]) (d' := 5) (mc' := 1) (ms' := 202) r1 z_w160 hS.cell.choose_spec rfl rfl rfl rfl hst (by omega) (by omega) (by omega) (Nat.le_of_ble_eq_true rfl) (c_appS (fun h => z_txK h hi) hb hl hcp hS fun hh r1 hr1 hS1 hx1 => ?_)
  exact (kk hh (z_Bd.next hB hr1 hS1 hx1)).mono (Nat.le_refl _) (by omega) (by omega)
theorem z_bdI {idx j k mc' ms' : Nat} (r1 : z_at mi pc = some (.invokevirtual idx, nx, [0, 304, 1, j])) (hk : k < 100) (hl : l.length < 90) (hcp : cap ≤ 300) (hB : z_Bd h0 h a cap l) (hd : 6 ≤ d) (hm : mc' + 1 ≤ mc) (hs : ms' + 202 ≤ ms) (hst : Nat.ble ((st.map fun v => v.category).sum) 8 = true) (kk : ∀ hh, z_Bd h0 hh a (z_zc cap (l.length + (z_dgs k).length)) (l ++ z_dgs k) → z_W G d mc' ms' mi nx L (.ref a :: st) hh Q) : z_W G d mc ms mi pc L (.int (nI k) :: .ref a :: st) h Q := by
  obtain ⟨r, hS, hB⟩ := hB
  refine z_callV (av := [_]) (d' := 5) (mc' := 1) (ms' := 202) r1 z_w304 hS.cell.choose_spec rfl rfl rfl rfl hst (by omega) (by omega) (by omega) (Nat.le_of_ble_eq_true rfl) (c_appendIC hk hl hcp hS fun hh r1 hr1 hS1 hx1 => ?_)
  exact (kk hh (z_Bd.next hB hr1 hS1 hx1)).mono (Nat.le_refl _) (by omega) (by omega)
theorem z_bdT {idx j mc' ms' : Nat} (r1 : z_at mi pc = some (.invokevirtual idx, nx, [0, 165, 0, j])) (hl : l.length < cap) (hl9 : l.length ≤ 100) (hcp : cap ≤ 300) (hB : z_Bd h0 h a cap l) (hd : 6 ≤ d) (hm : mc' + 2 ≤ mc) (hs : ms' + 310 ≤ ms) (hst : Nat.ble ((st.map fun v => v.category).sum) 8 = true) (kk : ∀ hh s, z_tx hh s (s + 1) l → 1000 + h0.1 ≤ s → s + 1 < 1000 + hh.1 → h0.1 ≤ hh.1 → (∀ k, k < 1000 + h0.1 → hh.2 k = h0.2 k) → z_W G d mc' ms' mi nx L (.ref s :: st) hh Q) : z_W G d mc ms mi pc L (.ref a :: st) h Q := by
  obtain ⟨r, hS, b1, b2, b3, b4⟩ := hB
  refine z_callV (av := []) (d' := 5) (mc' := 2) (ms' := 310) r1 z_w165 hS.cell.choose_spec rfl rfl rfl rfl hst (by omega) (by omega) (by omega) (Nat.le_of_ble_eq_true rfl) (c_toStr hS hl hcp hl9 fun hh s es hT e f => ?_)
  exact (kk hh s hT (by omega) (by omega) (by omega) (fun k u => (f k (by omega)).trans (b4 k u))).mono (Nat.le_refl _) (by omega) (by omega)
end ZBl
/-! hours -/
theorem z_phS_k (x : z_LV) (i : Nat) : (z_phS x i).1 = x.1 ∧ (z_phS x i).2 4 = x.2 4 := by
  unfold z_phS
  split
  · exact ⟨rfl, rfl⟩
  · exact ⟨rfl, rfl⟩
theorem z_phs_k (x : z_LV) : ∀ n, (z_fold z_phS x n).1 = x.1 ∧ (z_fold z_phS x n).2 4 = x.2 4 := by
  intro n
  induction n with
  | zero => exact ⟨rfl, rfl⟩
  | succ n ih => exact ⟨(z_phS_k _ n).1.trans ih.1, (z_phS_k _ n).2.trans ih.2⟩
theorem z_hrs_k (v : z_HV) : ∀ n, (z_hrs v n).1.1 = v.1.1 ∧ (z_hrs v n).1.2 4 = v.1.2 4 := by
  intro n
  induction n with
  | zero => exact ⟨rfl, rfl⟩
  | succ n ih => exact ⟨(z_phs_k _ _).1.trans ih.1, (z_phs_k _ _).2.trans ih.2⟩
theorem z_cntL {P : Nat → Bool} : ∀ n, z_cnt P n ≤ n := by
  intro n
  induction n with
  | zero => exact Nat.le_refl _
  | succ n ih =>
    show z_cnt P n + (if P n = true then 1 else 0) ≤ n + 1
    split <;> omega
theorem z_hrs_c {v : z_HV} (hw : z_wf v) : ∀ n, ∃ t, t ≤ 10 * n ∧ (z_hrs v n).2.2 4 = v.2.2 4 + nI t := by
  intro n
  induction n with
  | zero => exact ⟨0, Nat.le_refl _, (Int32.add_zero _).symm⟩
  | succ n ih =>
    obtain ⟨t, h1, h2⟩ := ih
    have hw2 : z_wf (z_hrs v n) := hw.hrs n
    have hb : (z_bp (z_hrs v n).2.1).2 ≤ 10 := by
      have e := (z_bpI hw2.B _ (Nat.le_refl _)).cn
      have e2 := hw2.nb
      have e3 := z_cntL (P := z_cmB ((z_hrs v n).2.1.2 3)) ((z_hrs v n).2.1.1 0)
      show (z_fold z_bpS ((z_hrs v n).2.1, 0) ((z_hrs v n).2.1.1 0)).2 ≤ 10
      rw [e]; omega
    refine ⟨t + (z_bp (z_hrs v n).2.1).2, by omega, ?_⟩
    show (z_hrs v n).2.2 4 + nI (z_bp (z_hrs v n).2.1).2 = _
    rw [h2, Int32.add_assoc, nI_add]
theorem z_hourV {v : z_HV} (hw : z_wf v) {n : Nat} (hn : n ≤ 24) : ¬ (z_hrs v n).2.2 4 - v.2.2 4 < 0 := by
  obtain ⟨t, h1, h2⟩ := z_hrs_c hw n
  rw [h2, Int32.add_comm, Int32.add_sub_cancel]
  exact nI_pos (by omega)
/-! what was before -/
/-- the last of them are these -/
def z_stk (k : Nat) (H : Nat → z_HV) (l : List z_HV) : Prop := l.length ≤ k ∧ ∀ i v, l[i]? = some v → H (k - 1 - i) = v
theorem z_stk0 (k : Nat) (H : Nat → z_HV) : z_stk k H [] := ⟨Nat.zero_le _, fun i v e => by cases i <;> cases e⟩
theorem z_stk.push {k : Nat} {H : Nat → z_HV} {l : List z_HV} {v : z_HV} (h : z_stk k H l) (hk : k ≤ 8) (hl : l.length ≤ 7) : z_stk (z_kpK k) (z_kpH k H v) (v :: l) := by
  obtain ⟨h1, h2⟩ := h
  by_cases h8 : k < 8
  · have e1 : z_kpK k = k + 1 := if_pos h8
    have e2 : z_kpH k H v = fun t => if t = k then v else H t := if_pos h8
    rw [e1, e2]
    refine ⟨by simp only [List.length_cons]; omega, fun i w hw => ?_⟩
    cases i with
    | zero => cases hw; exact if_pos (by omega)
    | succ i =>
      have hi : i + 1 < (v :: l).length := (List.getElem?_eq_some_iff.mp hw).1
      rw [List.length_cons] at hi
      show (if k + 1 - 1 - (i + 1) = k then v else H (k + 1 - 1 - (i + 1))) = w
      rw [if_neg (by omega), show k + 1 - 1 - (i + 1) = k - 1 - i by omega]
      exact h2 i w hw
  · have e0 : k = 8 := by omega
    subst e0
    have e1 : z_kpK 8 = 8 := rfl
    have e2 : z_kpH 8 H v = fun t => if t = 7 then v else H (t + 1) := if_neg h8
    rw [e1, e2]
    refine ⟨by simp only [List.length_cons]; omega, fun i w hw => ?_⟩
    cases i with
    | zero => cases hw; rfl
    | succ i =>
      have hi : i + 1 < (v :: l).length := (List.getElem?_eq_some_iff.mp hw).1
      rw [List.length_cons] at hi
      show (if 8 - 1 - (i + 1) = 7 then v else H (8 - 1 - (i + 1) + 1)) = w
      rw [if_neg (by omega), show 8 - 1 - (i + 1) + 1 = 8 - 1 - i by omega]
      exact h2 i w hw
theorem z_stk.undo {x : z_PV} {l : List z_HV} {v : z_HV} (h : z_stk x.2.2.2.1 x.2.2.2.2.1 (v :: l)) : z_fUndo x = (0, nI (x.2.2.2.1 - 1), (v, x.2.1, x.2.2.1, x.2.2.2.1 - 1, x.2.2.2.2)) ∧ z_stk (x.2.2.2.1 - 1) x.2.2.2.2.1 l := by
  obtain ⟨h1, h2⟩ := h
  have h3 : l.length + 1 ≤ x.2.2.2.1 := h1
  have e0 := h2 0 v rfl
  refine ⟨?_, by omega, fun i w hw => ?_⟩
  · unfold z_fUndo
    rw [if_neg (by omega)]
    have e1 : x.2.2.2.2.1 (x.2.2.2.1 - 1) = v := e0
    rw [e1]
  · have := h2 (i + 1) w hw
    rw [show x.2.2.2.1 - 1 - 1 - i = x.2.2.2.1 - 1 - (i + 1) by omega]
    exact this
/-! the texts -/
def z_Tx0t : List Nat := ([] ++ z_lsc 0) ++ z_lsc 1 ++ z_lsc 3
def z_Tx1t : List Nat := ([] ++ z_lsc 0) ++ z_lsc 2 ++ z_lsc 3
theorem z_Tx0tf : z_flt z_Tx0t 61 0 = none ∧ z_flt z_Tx1t 61 0 = none := by decide +kernel
theorem z_eqPR {a b : z_PR} (h : (a.1 = b.1 ∧ a.2.1 = b.2.1) ∧ a.2.2.1 = b.2.2.1 ∧ a.2.2.2.1 = b.2.2.2.1 ∧ a.2.2.2.2.1 = b.2.2.2.2.1 ∧ a.2.2.2.2.2.1 = b.2.2.2.2.2.1 ∧ a.2.2.2.2.2.2 = b.2.2.2.2.2.2) : a = b := by
  obtain ⟨a1, a2, a3, a4, a5, a6, a7⟩ := a
  obtain ⟨b1, b2, b3, b4, b5, b6, b7⟩ := b
  obtain ⟨⟨h1, h2⟩, h3, h4, h5, h6, h7⟩ := h
  simp only at h1 h2 h3 h4 h5 h6 h7
  subst h1 h2 h3 h4 h5 h6 h7
  rfl
theorem z_Tx0tn : z_nxt z_Tx0t 0 z_oN0 = (true, 6, (9, 2, 0, 0, 1)) ∧ z_nxt z_Tx0t 6 z_oN0 = (true, 14, (2, 1, 0, 0, 2)) ∧ z_nxt z_Tx0t 14 z_oN0 = (true, 19, (9, 1, 0, 0, 1)) ∧ (z_nxt z_Tx0t 19 z_oN0).1 = false := ⟨z_eqPR (by decide +kernel), z_eqPR (by decide +kernel), z_eqPR (by decide +kernel), by decide +kernel⟩
theorem z_Tx1tn : z_nxt z_Tx1t 0 z_oN0 = (true, 6, (9, 2, 0, 0, 1)) ∧ z_nxt z_Tx1t 6 z_oN0 = (true, 14, (2, 1, -1, 0, 2)) ∧ z_nxt z_Tx1t 14 z_oN0 = (true, 19, (9, 1, 0, 0, 1)) ∧ (z_nxt z_Tx1t 19 z_oN0).1 = false := ⟨z_eqPR (by decide +kernel), z_eqPR (by decide +kernel), z_eqPR (by decide +kernel), by decide +kernel⟩
theorem z_TxB : z_Tx0t.length ≤ 60 ∧ z_Tx1t.length ≤ 60 ∧ (∀ c ∈ z_Tx0t, 32 ≤ c ∧ c ≤ 126) ∧ ∀ c ∈ z_Tx1t, 32 ≤ c ∧ c ≤ 126 := by decide +kernel
/-- the houses between -/
def z_g1 (v : z_HV) : z_HV := (z_do v (9, 2, 0, 0, 0)).1
def z_g2 (v : z_HV) (c : Int32) : z_HV := (z_do (z_g1 v) (2, 1, c, 0, 0)).1
def z_g3 (v : z_HV) (c : Int32) : z_HV := (z_do (z_g2 v c) (9, 1, 0, 0, 0)).1
theorem z_rH (v : z_HV) (a b d e : Int32) : z_ref v (9, 2, a, b, d) = none ∧ z_ref v (9, 1, a, b, e) = none := ⟨rfl, rfl⟩
theorem z_rK {v : z_HV} {c d : Int32} (hw : z_wf v) (hc : (c = 0 ∧ 0 < v.1.1 0 ∧ v.1.2 4 1 = -1) ∨ (c = -1 ∧ ¬ v.1.2 4 1 = -1)) : z_ref (z_g1 v) (2, 1, c, 0, d) = none := by
  obtain ⟨k1, k2⟩ := z_hrs_k v 2
  have e1 : (z_g1 v).1.1 = v.1.1 := k1
  have e2 : (z_g1 v).1.2 4 = v.1.2 4 := k2
  have e4 : v.1.1 4 = 3 := hw.sk
  have ea : z_a (z_g1 v).1 4 1 = v.1.2 4 1 := by
    unfold z_a
    rw [e1, e2, e4]
    rfl
  show z_rKey (z_g1 v) 1 c = none
  unfold z_rKey
  rw [ea, e1, e4, if_neg (by decide)]
  rcases hc with ⟨rfl, h1, h2⟩ | ⟨rfl, h1⟩
  · rw [if_neg (fun e => absurd e.2 (by rw [show (0 : Int32) = nI 0 from rfl, z_has_nI (by decide)]; simp [h1])), h2, if_neg (by decide)]
  · rw [if_neg (fun e => absurd rfl e.1), if_neg h1]
theorem z_rnH {l : List Nat} {n p p2 dn : Nat} {v : z_HV} {o : z_OV} (h : z_nxt l p z_oN0 = (true, p2, o)) (hr : z_ref v o = none) : z_rnL l (n + 1) p dn v = z_rnL l n p2 (dn + 1) (z_do v o).1 := by
  rw [z_rnL_s, h, if_pos rfl]
  show (match z_ref v o with
    | some pr => (some pr, dn, v)
    | none => z_rnL l n p2 (dn + 1) (z_do v o).1) = _
  rw [hr]
theorem z_rnS {l : List Nat} {n p p2 dn : Nat} {v : z_HV} {o : z_OV} {pr : Int32 × Int32} (h : z_nxt l p z_oN0 = (true, p2, o)) (hr : z_ref v o = some pr) : z_rnL l (n + 1) p dn v = (some pr, dn, v) := by
  rw [z_rnL_s, h, if_pos rfl]
  show (match z_ref v o with
    | some pr => (some pr, dn, v)
    | none => z_rnL l n p2 (dn + 1) (z_do v o).1) = _
  rw [hr]
theorem z_rnE {l : List Nat} {n p dn : Nat} {v : z_HV} (h : (z_nxt l p z_oN0).1 = false) : z_rnL l (n + 1) p dn v = (none, dn, v) := by
  rw [z_rnL_s, h]
  rfl
theorem z_run3 {x : z_PV} {l : List Nat} {c : Int32} (hx : x.2.2.2.2.2.1 = l) (hw : z_wf x.1) (hc : (l = z_Tx0t ∧ c = 0 ∧ 0 < x.1.1.1 0 ∧ x.1.1.2 4 1 = -1) ∨ (l = z_Tx1t ∧ c = -1 ∧ ¬ x.1.1.2 4 1 = -1)) : z_fRun x = (0, nI 3, z_setF (z_setI (z_dune x (z_g3 x.1 c)) []) (-1)) := by
  have key : z_flt l 61 0 = none ∧ z_rnL l 61 0 0 x.1 = (none, 3, z_g3 x.1 c) := by
    rcases hc with ⟨rfl, rfl, h1, h2⟩ | ⟨rfl, rfl, h1⟩
    · refine ⟨z_Tx0tf.1, ?_⟩
      obtain ⟨n1, n2, n3, n4⟩ := z_Tx0tn
      rw [z_rnH n1 (z_rH _ _ _ _ 0).1]
      show z_rnL z_Tx0t 60 6 1 (z_g1 x.1) = _
      rw [z_rnH n2 (z_rK hw (Or.inl ⟨rfl, h1, h2⟩))]
      show z_rnL z_Tx0t 59 14 2 (z_g2 x.1 0) = _
      rw [z_rnH n3 (z_rH _ _ _ 0 _).2, z_rnE n4]
      rfl
    · refine ⟨z_Tx0tf.2, ?_⟩
      obtain ⟨n1, n2, n3, n4⟩ := z_Tx1tn
      rw [z_rnH n1 (z_rH _ _ _ _ 0).1]
      show z_rnL z_Tx1t 60 6 1 (z_g1 x.1) = _
      rw [z_rnH n2 (z_rK hw (Or.inr ⟨rfl, h1⟩))]
      show z_rnL z_Tx1t 59 14 2 (z_g2 x.1 (-1)) = _
      rw [z_rnH n3 (z_rH _ _ _ 0 _).2, z_rnE n4]
      rfl
  unfold z_fRun
  rw [hx, key.1]
  show (match z_rnL l 61 0 0 x.1 with
    | (some pr, dn, _) => (2, 0, z_setF (z_setR (z_setI x []) (11, nI dn) pr) (-1))
    | (none, dn, v) => (0, nI dn, z_setF (z_setI (z_dune x v) []) (-1)) : z_An) = _
  rw [key.2]
theorem z_runR {x : z_PV} {l : List Nat} {dn : Nat} {v : z_HV} {pr : Int32 × Int32} (hx : x.2.2.2.2.2.1 = l) (hf : z_flt l 61 0 = none) (hr : z_rnL l 61 0 0 x.1 = (some pr, dn, v)) : z_fRun x = (2, 0, z_setF (z_setR (z_setI x []) (11, nI dn) pr) (-1)) := by
  unfold z_fRun
  rw [hx, hf]
  show (match z_rnL l 61 0 0 x.1 with
    | (some pr, dn, _) => (2, 0, z_setF (z_setR (z_setI x []) (11, nI dn) pr) (-1))
    | (none, dn, v) => (0, nI dn, z_setF (z_setI (z_dune x v) []) (-1)) : z_An) = _
  rw [hr]
theorem z_run0 {x : z_PV} (hx : x.2.2.2.2.2.1 = z_Tx0t) (hw : z_wf x.1) (h0 : x.1.1.1 0 = 0) : z_fRun x = (2, 0, z_setF (z_setR (z_setI x []) (11, nI 1) (2, 0)) (-1)) := by
  obtain ⟨n1, n2, n3, n4⟩ := z_Tx0tn
  obtain ⟨k1, k2⟩ := z_hrs_k x.1 2
  have e1 : (z_g1 x.1).1.1 = x.1.1.1 := k1
  refine z_runR (v := z_g1 x.1) hx z_Tx0tf.1 ?_
  rw [z_rnH n1 (z_rH _ _ _ _ 0).1]
  refine z_rnS n2 ?_
  show z_rKey (z_g1 x.1) 1 0 = some (2, 0)
  unfold z_rKey
  rw [e1, hw.sk, if_neg (by decide), h0, if_pos ⟨by decide, by decide⟩]
theorem z_L4 : z_flt ([] ++ z_lsc 4) 61 0 = none ∧ z_nxt ([] ++ z_lsc 4) 0 z_oN0 = (true, 4, (9, 1, 0, 0, 1)) ∧ z_nxt ([] ++ z_lsc 4) 4 z_oN0 = (true, 12, (9, 25, 0, 0, 1)) := ⟨by decide +kernel, z_eqPR (by decide +kernel), z_eqPR (by decide +kernel)⟩
theorem z_L5 : z_flt ([] ++ z_lsc 5) 61 0 = none ∧ z_nxt ([] ++ z_lsc 5) 0 z_oN0 = (true, 7, (1, 9, 0, 0, 1)) := ⟨by decide +kernel, z_eqPR (by decide +kernel)⟩
theorem z_run4 {x : z_PV} (hx : x.2.2.2.2.2.1 = [] ++ z_lsc 4) : z_fRun x = (2, 0, z_setF (z_setR (z_setI x []) (11, nI 1) (3, 25)) (-1)) := by
  obtain ⟨n0, n1, n2⟩ := z_L4
  refine z_runR (v := (z_do x.1 (9, 1, 0, 0, 1)).1) hx n0 ?_
  rw [z_rnH n1 (z_rH _ _ _ 0 _).2]
  exact z_rnS n2 rfl
theorem z_run5 {x : z_PV} (hx : x.2.2.2.2.2.1 = [] ++ z_lsc 5) (hw : z_wf x.1) : z_fRun x = (2, 0, z_setF (z_setR (z_setI x []) (11, nI 0) (2, 9)) (-1)) := by
  obtain ⟨n0, n1⟩ := z_L5
  refine z_runR (v := x.1) hx n0 ?_
  refine z_rnS n1 ?_
  show z_rUn (x.1.1.1 0) 9 = some (2, 9)
  unfold z_rUn
  rw [show (9 : Int32) = nI 9 from rfl, z_has_nI (by decide), if_pos (decide_eq_false (by have := hw.nc; omega))]
theorem z_lsB : ∀ i, i < z_lsn → (z_lsc i).length ≤ 60 ∧ ∀ c ∈ z_lsc i, 32 ≤ c ∧ c ≤ 126 := by decide +kernel
theorem z_fltL : z_flt ([] ++ z_lsc 6) 61 0 = some 5 ∧ z_flt ([] ++ z_lsc 7) 61 0 = some 6 ∧ z_flt ([] ++ z_lsc 8) 61 0 = some 7 ∧ z_flt ([] ++ z_lsc 9) 61 0 = some 1 ∧ z_flt ([] ++ z_lsc 10) 61 0 = some 0 ∧ z_flt ([] ++ z_lsc 11) 61 0 = some 5 ∧ z_flt ([] ++ z_lsc 12) 61 0 = some 9 ∧ z_flt ([] ++ z_lsc 13) 61 0 = some 9 ∧ z_flt ([] ++ z_lsc 14) 61 0 = some 0 ∧ z_flt ([] ++ z_lsc 15) 61 0 = some 6 := by decide +kernel
theorem z_rnL_w {l : List Nat} : ∀ n p dn v, z_wf v → z_wf (z_rnL l n p dn v).2.2 := by
  intro n
  induction n with
  | zero => intro p dn v h; exact h
  | succ n ih =>
    intro p dn v h
    rw [z_rnL_s]
    split
    · rename_i e
      split
      · exact h
      · rename_i hr
        exact ih _ _ _ (h.do (z_nxtK e) hr)
    · exact h
theorem z_run_w {x : z_PV} (h : z_wf x.1) : z_wf (z_fRun x).2.2.1 := by
  unfold z_fRun
  split
  · exact h
  · have w := z_rnL_w (l := x.2.2.2.2.2.1) 61 0 0 x.1 h
    split
    · exact h
    · rename_i e
      rw [e] at w
      exact w
