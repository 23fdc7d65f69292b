/-! What an operation leaves is well-formed. -/
theorem z_unN {n : Nat} {c : Int32} (hn : n < 1000) (h : z_rUn n c = none) : ∃ k, k < n ∧ c = nI k := by
  unfold z_rUn at h
  cases e : z_has c n with
  | true => exact z_hasE hn e
  | false => rw [e, if_pos rfl] at h; exact absurd h (by simp)
theorem z_ifN {α : Type} {P : Prop} [Decidable P] {x : α} {r : Option α} (h : (if P then some x else r) = none) : ¬ P ∧ r = none := by
  by_cases e : P
  · rw [if_pos e] at h; exact absurd h (by simp)
  · rw [if_neg e] at h; exact ⟨e, h⟩
theorem z_hasN {c : Int32} {n : Nat} (hn : n < 1000) (h : ¬ z_has c n = false) : ∃ k, k < n ∧ c = nI k := by
  cases e : z_has c n with
  | true => exact z_hasE hn e
  | false => exact absurd e h
theorem z_outN {x : Int32} {lo hi : Nat} (hh : hi < 1000) (hl : lo ≤ hi) (h : ¬ (x < nI lo ∨ nI hi < x)) : ∃ k, lo ≤ k ∧ k ≤ hi ∧ x = nI k := z_inE hh hl (z_inOr h)
theorem z_gvs_w {x : z_LV} {s : Int32} (h : z_wC x) (hs : ∀ i, i < x.1 0 → z_isIn s (nI i) = true → 0 < z_a x 1 (nI i)) : ∀ i, i ≤ x.1 0 → z_wC (z_fold (z_gvS s) x i) ∧ ∀ q, i ≤ q → (z_fold (z_gvS s) x i).2 1 q = x.2 1 q := by
  intro i
  induction i with
  | zero => exact fun _ => ⟨h, fun _ _ => rfl⟩
  | succ i ih =>
    intro hi
    obtain ⟨w, k1⟩ := ih (by omega)
    have st : z_fold (z_gvS s) x (i + 1) = z_gvS s (z_fold (z_gvS s) x i) i := rfl
    have e1 := z_gv_1 s x i
    have hs1 := hs i (by omega)
    rw [z_aI (by rw [h.1 1 (by decide)]; omega) (by rw [h.1 1 (by decide)]; have := h.2.2.1; omega)] at hs1
    rw [st]
    generalize z_fold (z_gvS s) x i = y at w k1 e1
    unfold z_gvS
    by_cases e : z_isIn s (nI i) = true
    · rw [if_pos e]
      obtain ⟨a1, a2, a3, a4, a5⟩ := w
      have n8 : y.1 0 = x.1 0 := by rw [e1]
      have hi2 : i < y.1 0 := by omega
      obtain ⟨k, hk, ek⟩ := (a4 i hi2).2.1
      have hp := hs1 e
      rw [← k1 i (Nat.le_refl _), ek] at hp
      obtain ⟨k', rfl⟩ : ∃ k', k = k' + 1 := ⟨k - 1, by
        have : k ≠ 0 := fun q => by rw [q] at hp; exact absurd hp (by decide)
        omega⟩
      have b1 : i < y.1 1 := by rw [a1 1 (by decide)]; exact hi2
      have b3 : i < y.1 3 := by rw [a1 3 (by decide)]; exact hi2
      have l1 : y.1 1 < 1000 := by rw [a1 1 (by decide)]; omega
      have l3 : y.1 3 < 1000 := by rw [a1 3 (by decide)]; omega
      have ea : z_a y 1 (nI i) + -1 = nI k' := by rw [z_aI b1 l1, ek, pk_m1]
      have val : ∀ j q, j ≠ 3 → (z_gvL y (nI i)).2 j q = if j = 1 ∧ q = i then nI k' else y.2 j q := fun j q hj => by
        unfold z_gvL
        rw [ea]
        refine (z_putV (x := z_putL y 1 (nI i) (nI k')) (j := 3) b3 l3 j q).trans ?_
        rw [if_neg (fun c => hj c.1)]
        exact z_putV b1 l1 j q
      refine ⟨⟨a1, a2, a3, fun q hq => ?_, fun q hq => ?_⟩, fun q hq => ?_⟩
      · have hq2 : q < y.1 0 := hq
        rw [val 0 q (by decide), val 1 q (by decide), val 2 q (by decide), if_neg (by omega), if_neg (show ¬ ((2 : Nat) = 1 ∧ q = i) by omega)]
        refine ⟨(a4 q hq2).1, ?_, (a4 q hq2).2.2⟩
        split
        · exact ⟨k', by omega, rfl⟩
        · exact (a4 q hq2).2.1
      · rw [val 4 q (by decide), if_neg (by omega)]; exact a5 q hq
      · rw [val 1 q (by decide), if_neg (by omega)]; exact k1 q (by omega)
    · rw [if_neg e]
      exact ⟨w, fun q hq => k1 q (by omega)⟩
theorem z_wf.vote {v : z_HV} (h : z_wf v) (h0 : ¬ nI (v.2.1.1 5) = 0) : z_wf (z_vote v).1 := by
  have h8 := h.nc
  have h10 := h.nb
  have h5 : 0 < v.2.1.1 5 := Nat.pos_of_ne_zero fun q => h0 (by rw [q]; rfl)
  obtain ⟨b, hb, eb1, eb2, eb3⟩ := h.row h5
  have e : z_vote v = z_vt1 v (nI b) (z_vts v (nI b)) := by
    show z_vt1 v (z_a v.2.1 5 (nI 0)) (z_vts v (z_a v.2.1 5 (nI 0))) = _
    rw [eb3]
  rw [e]
  unfold z_vt1
  by_cases es : z_vts v (nI b) = 0
  · rw [if_pos es]
    exact z_wf.mk h.C (h.B.off hb ⟨1, by decide, rfl⟩ (by decide) eb2)
  · rw [if_neg es]
    obtain ⟨_, bc2⟩ := z_bitsP (P := fun i => z_wv v.1 (nI i) (z_a v.2.1 1 (nI b))) (n := v.1.1 0) h8
    have hs : ∀ i, i < v.1.1 0 → z_isIn (z_vts v (nI b)) (nI i) = true → 0 < z_a v.1 1 (nI i) := fun i hi hI => by
      have e1 : z_isIn (z_vts v (nI b)) (nI i) = z_wv v.1 (nI i) (z_a v.2.1 1 (nI b)) := bc2 i hi
      rw [e1] at hI
      exact of_decide_eq_true (Bool.and_eq_true_iff.mp hI).1
    refine z_wf.mk (z_gvs_w h.C hs _ (Nat.le_refl _)).1 ?_
    rw [z_gv_1]
    exact h.B.gone hb
theorem z_wf.do {v : z_HV} {o : z_OV} (h : z_wf v) (hk : o.1 < 10) (hr : z_ref v o = none) : z_wf (z_do v o).1 := by
  obtain ⟨k, x, y, z, t⟩ := o
  have h8 := h.nc
  have h10 := h.nb
  have hsk := h.sk
  have c10 := z_ten hk
  rcases c10 with e | e | e | e | e | e | e | e | e | e <;> (have e' : k = _ := e; subst e')
  · have hr0 : z_rClock v x y = none := hr
    obtain ⟨c1, hr1⟩ := z_ifN hr0
    obtain ⟨c2, hr2⟩ := z_ifN hr1
    obtain ⟨i, _, hi, rfl⟩ := z_outN (lo := 0) (hi := 59) (by decide) (by decide) c1
    obtain ⟨l, _, hl, rfl⟩ := z_outN (lo := 0) (hi := 3) (by decide) (by decide) c2
    have lt : v.1.1 0 < 8 := by
      by_cases q : nI (v.1.1 0) < 8
      · exact (nI_ltI (b := 8) (by omega) (by decide)).mp q
      · rw [if_neg q] at hr2; exact absurd hr2 (by simp)
    exact z_wf.mk (h.C.come lt ⟨i, by omega, rfl⟩ ⟨l, by omega, rfl⟩) (h.B.mono (Nat.le_succ _))
  · obtain ⟨i, hi, rfl⟩ := z_unN (by omega) hr
    refine z_wf.mk (z_wC.away h hi) ?_
    rw [(z_awayE h.wz hi).1 0 (by decide)]
    exact h.B.forL (by omega) hi
  · have hr0 : z_rKey v x y = none := hr
    obtain ⟨c1, hr1⟩ := z_ifN hr0
    obtain ⟨c2, hr2⟩ := z_ifN hr1
    obtain ⟨i, hi, rfl⟩ := z_hasN (by omega) c1
    rw [hsk] at hi
    refine z_wf.mk (h.C.putK hi ?_) h.B
    by_cases q : y = -1
    · exact Or.inl q
    · exact Or.inr (z_hasN (by omega) (fun c => c2 ⟨q, c⟩))
  · have hr0 : z_rWind v x y = none := hr
    obtain ⟨c1, hr1⟩ := z_ifN hr0
    obtain ⟨c2, hr2⟩ := z_ifN hr1
    obtain ⟨i, hi, rfl⟩ := z_hasN (by omega) c2
    have w := h.putC (j := 1) (x := 24) (by decide) hi (fun e => absurd e (by decide)) (fun _ => ⟨24, by decide, rfl⟩) (fun e => absurd e (by decide))
    exact z_wf.mk w.C w.B
  · have hr0 : z_rMove v x y = none := hr
    obtain ⟨c1, hr1⟩ := z_ifN hr0
    obtain ⟨c2, hr2⟩ := z_ifN hr1
    obtain ⟨c3, hr3⟩ := z_ifN hr2
    obtain ⟨i, hi, rfl⟩ := z_hasN (by omega) c1
    obtain ⟨s, hs1, hs2, rfl⟩ := z_outN (lo := 1) (hi := 59) (by decide) (by decide) c2
    obtain ⟨p, hp, ep⟩ := h.sp hi
    obtain ⟨q, hq, eq⟩ := h.se hi
    have ed : nI s / 10 = nI (s / 10) := pk_div (d := 10) (by omega) (by decide) (by decide)
    have le : s / 10 + 1 ≤ p := by
      by_cases c : nI s / 10 + 1 ≤ z_a v.1 1 (nI i)
      · rw [ed, nI_1, ep] at c; exact (nI_leI (by omega) (by omega)).mp c
      · rw [if_neg c] at hr3; exact absurd hr3 (by simp)
    have w1 := h.putC (j := 1) (x := z_a v.1 1 (nI i) + -(nI s / 10 + 1)) (by decide) hi (fun e => absurd e (by decide)) (fun _ => ⟨p - (s / 10 + 1), by omega, by rw [ep, ed, nI_1, ← Int32.sub_eq_add_neg, pk_sub le]⟩) (fun e => absurd e (by decide))
    have w2 := w1.putC (j := 0) (c := i) (x := z_m60 (z_a v.1 0 (nI i) + nI s)) (by decide) hi (fun _ => ⟨(q + s) % 60, Nat.mod_lt _ (by decide), by rw [eq, nI_add]; exact pk_rem (d := 60) (by omega) (by decide) (by decide)⟩) (fun e => absurd e (by decide)) (fun e => absurd e (by decide))
    exact z_wf.mk w2.C w2.B
  · have hr0 : z_rBill v x y z = none := hr
    obtain ⟨c1, hr1⟩ := z_ifN hr0
    obtain ⟨c2, hr2⟩ := z_ifN hr1
    obtain ⟨c3, hr3⟩ := z_ifN hr2
    obtain ⟨c4, hr4⟩ := z_ifN hr3
    obtain ⟨i, hi, rfl⟩ := z_hasN (by omega) c1
    obtain ⟨s, _, hs2, rfl⟩ := z_outN (lo := 0) (hi := 59) (by decide) (by decide) c2
    obtain ⟨d, hd1, hd2, rfl⟩ := z_outN (lo := 1) (hi := 9) (by decide) (by decide) c3
    have lt : v.2.1.1 0 < 10 := by
      by_cases q : nI (v.2.1.1 0) < 10
      · exact (nI_ltI (b := 10) (by omega) (by decide)).mp q
      · rw [if_neg q] at hr4; exact absurd hr4 (by simp)
    exact z_wf.mk h.C (h.B.tbl lt (Or.inr ⟨i, hi, rfl⟩) ⟨s, by omega, rfl⟩ ⟨d, by omega, rfl⟩)
  · have hr0 : z_rAdj v x y = none := hr
    obtain ⟨c1, hr1⟩ := z_ifN hr0
    obtain ⟨c2, hr2⟩ := z_ifN hr1
    obtain ⟨c3, hr3⟩ := z_ifN hr2
    obtain ⟨i, hi, rfl⟩ := z_hasN (by omega) c1
    obtain ⟨d, hd1, hd2, rfl⟩ := z_outN (lo := 1) (hi := 12) (by decide) (by decide) c2
    obtain ⟨k, hk, ek⟩ := (h.2.2.2.2.2.1 i hi).2.2.2
    have s3 := h.sb (j := 3) (by decide)
    have e0 : v.2.1.2 3 i = 0 := by
      have c4 : ¬ 0 < z_a v.2.1 3 (nI i) := fun q => c3 (decide_eq_true q)
      rw [z_aI (by omega) (by omega), ek] at c4
      have : k = 0 := Nat.eq_zero_of_not_pos (fun q => c4 (z_pos0 q (by omega)))
      rw [ek, this]; rfl
    exact z_wf.mk h.C (h.B.off hi ⟨d, by omega, rfl⟩ (nI_ne0 (by omega) (by omega)) e0)
  · obtain ⟨i, hi, rfl⟩ := z_unN (by omega) hr
    exact z_wf.mk h.C (h.B.gone hi)
  · have hr0 : z_rVote v = none := hr
    exact h.vote (z_ifN hr0).1
  · exact h.hrs _
