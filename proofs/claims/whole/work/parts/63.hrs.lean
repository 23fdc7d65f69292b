/-! Hours, all at once: springs, seconds, the row. -/
theorem z_phS_V {x : z_LV} (h : z_wC x) {i k s : Nat} (hi : i < x.1 0) (ek : x.2 1 i = nI k) (es : x.2 0 i = nI s) (hs : s < 60) (hk : k < 25) (j q : Nat) : (z_phS x i).2 j q = if j = 1 ∧ q = i then nI (k - 1) else if j = 0 ∧ q = i then nI (if 2 ≤ k then (s + 1) % 60 else s) else x.2 j q := by
  obtain ⟨a1, a2, a3, a4, a5⟩ := h
  have s1 := a1 1 (by decide)
  have ea : z_a x 1 (nI i) = nI k := by rw [z_aI (by omega) (by omega)]; exact ek
  unfold z_phS
  by_cases e0 : z_a x 1 (nI i) = 0
  · rw [if_pos e0]
    have k0 : k = 0 := by
      rw [ea] at e0
      exact (nI_eq (b := 0) (by omega) (by decide)).mp e0
    subst k0
    by_cases c1 : j = 1 ∧ q = i
    · rw [if_pos c1, c1.1, c1.2]; exact ek
    · rw [if_neg c1]
      by_cases c2 : j = 0 ∧ q = i
      · rw [if_pos c2, c2.1, c2.2]; exact es
      · rw [if_neg c2]
  · rw [if_neg e0]
    obtain ⟨k', rfl⟩ : ∃ k', k = k' + 1 := ⟨k - 1, by
      have : k ≠ 0 := fun q => e0 (by rw [ea, q]; rfl)
      omega⟩
    have v1 : ∀ j q, (z_dnL x (nI i)).2 j q = if j = 1 ∧ q = i then nI k' else x.2 j q := fun j q => by
      refine (z_putV (x := x) (j := 1) (show i < x.1 1 by omega) (by omega) j q).trans ?_
      rw [ea, pk_m1]
    have ev : z_a (z_dnL x (nI i)) 0 (nI i) = nI s := by
      refine (z_aI (x := z_dnL x (nI i)) (j := 0) (show i < x.1 0 from hi) (show x.1 0 < 1000 by omega)).trans ?_
      rw [v1, if_neg (by omega)]; exact es
    have e1 : z_a (z_dnL x (nI i)) 1 (nI i) = nI k' := by
      refine (z_aI (x := z_dnL x (nI i)) (j := 1) (show i < x.1 1 by omega) (show x.1 1 < 1000 by omega)).trans ?_
      rw [v1, if_pos ⟨rfl, rfl⟩]
    have v2 : ∀ j q (b : Nat), b < 2 → (z_goL (z_dnL x (nI i)) (nI i) (nI b)).2 j q = if j = 0 ∧ q = i then nI ((s + b) % 60) else (z_dnL x (nI i)).2 j q := fun j q b hb => by
      refine (z_putV (x := z_dnL x (nI i)) (j := 0) (show i < x.1 0 from hi) (show x.1 0 < 1000 by omega) j q).trans ?_
      rw [ev, nI_add]
      unfold z_m60
      rw [show nI (s + b) - nI (s + b) / 60 * 60 = nI ((s + b) % 60) from pk_rem (d := 60) (by omega) (by decide) (by decide)]
    have eb : (if z_a (z_dnL x (nI i)) 1 (nI i) = 0 then (0 : Int32) else 1) = nI (if k' = 0 then 0 else 1) := by
      rw [e1]
      by_cases c : k' = 0
      · rw [if_pos (by rw [c]; rfl), if_pos c]; rfl
      · rw [if_neg (nI_ne0 (by omega) (by omega)), if_neg c]; rfl
    rw [eb, v2 j q _ (by split <;> decide), v1]
    by_cases c1 : j = 1 ∧ q = i
    · rw [if_neg (by omega), if_pos c1, if_pos c1]; rfl
    · rw [if_neg c1, if_neg c1]
      by_cases c2 : j = 0 ∧ q = i
      · rw [if_pos c2, if_pos c2]
        by_cases c : k' = 0
        · rw [if_pos c, if_neg (by omega), Nat.add_zero, Nat.mod_eq_of_lt hs]
        · rw [if_neg c, if_pos (by omega)]
      · rw [if_neg c2, if_neg c2]
theorem z_phs_V {x : z_LV} (h : z_wC x) {q k s : Nat} (hq : q < x.1 0) (ek : x.2 1 q = nI k) (es : x.2 0 q = nI s) (hs : s < 60) (hk : k < 25) : ∀ i, i ≤ x.1 0 → (z_fold z_phS x i).2 1 q = nI (if q < i then k - 1 else k) ∧ (z_fold z_phS x i).2 0 q = nI (if q < i then (if 2 ≤ k then (s + 1) % 60 else s) else s) := by
  intro i
  induction i with
  | zero => exact fun _ => ⟨by rw [if_neg (by omega)]; exact ek, by rw [if_neg (by omega)]; exact es⟩
  | succ i ih =>
    intro hi
    obtain ⟨h1, h2⟩ := ih (by omega)
    have w := z_phs_w h i (by omega)
    have hi2 : i < (z_fold z_phS x i).1 0 := by rw [z_ph_1]; omega
    obtain ⟨⟨s', hs', es'⟩, ⟨k', hk', ek'⟩, _⟩ := w.2.2.2.1 i hi2
    have st : z_fold z_phS x (i + 1) = z_phS (z_fold z_phS x i) i := rfl
    rw [st]
    by_cases e : q = i
    · subst e
      rw [if_neg (by omega)] at h1 h2
      have e1 : k' = k := (nI_eq (by omega) (by omega)).mp (ek'.symm.trans h1)
      have e2 : s' = s := (nI_eq (by omega) (by omega)).mp (es'.symm.trans h2)
      subst e1 e2
      refine ⟨(z_phS_V w hi2 ek' es' hs' hk' 1 q).trans ?_, (z_phS_V w hi2 ek' es' hs' hk' 0 q).trans ?_⟩
      · rw [if_pos ⟨rfl, rfl⟩, if_pos (Nat.lt_succ_self q)]
      · rw [if_neg (fun c => absurd c.1 (by decide)), if_pos ⟨rfl, rfl⟩, if_pos (Nat.lt_succ_self q)]
    · refine ⟨(z_phS_V w hi2 ek' es' hs' hk' 1 q).trans ?_, (z_phS_V w hi2 ek' es' hs' hk' 0 q).trans ?_⟩
      · rw [if_neg (fun c => e c.2), if_neg (fun c => e c.2), h1]
        by_cases e2 : q < i
        · rw [if_pos e2, if_pos (by omega)]
        · rw [if_neg e2, if_neg (by omega)]
      · rw [if_neg (fun c => e c.2), if_neg (fun c => e c.2), h2]
        by_cases e2 : q < i
        · rw [if_pos e2, if_pos (show q < i + 1 by omega)]
        · rw [if_neg e2, if_neg (show ¬ q < i + 1 by omega)]
theorem z_hrs_s (v : z_HV) (n : Nat) : z_hrs v (n + 1) = z_hr1 (z_hrs v n) := rfl
theorem z_hrs_n (v : z_HV) (n : Nat) : (z_hrs v n).1.1 = v.1.1 := by
  induction n with
  | zero => rfl
  | succ n ih =>
    rw [z_hrs_s]
    show (z_fold z_phS (z_hrs v n).1 _).1 = _
    rw [z_ph_1]; exact ih
/-- springs and seconds after hours -/
theorem z_hrsC {v : z_HV} (h : z_wf v) {q k s : Nat} (hq : q < v.1.1 0) (ek : v.1.2 1 q = nI k) (es : v.1.2 0 q = nI s) (hs : s < 60) (hk : k < 25) : ∀ n, (z_hrs v n).1.2 1 q = nI (k - n) ∧ (z_hrs v n).1.2 0 q = nI ((s + (if n < k - 1 then n else k - 1)) % 60) := by
  intro n
  induction n with
  | zero =>
    refine ⟨ek, es.trans (congrArg nI ?_)⟩
    have : (if 0 < k - 1 then 0 else k - 1) = 0 := by split <;> omega
    rw [this, Nat.add_zero, Nat.mod_eq_of_lt hs]
  | succ n ih =>
    obtain ⟨h1, h2⟩ := ih
    have w := h.hrs n
    have hq2 : q < (z_hrs v n).1.1 0 := by rw [z_hrs_n]; exact hq
    obtain ⟨e1, e2⟩ := z_phs_V w.C hq2 h1 h2 (Nat.mod_lt _ (by decide)) (by omega) _ (Nat.le_refl _)
    rw [if_pos hq2] at e1 e2
    rw [z_hrs_s]
    refine ⟨e1.trans (congrArg nI (by omega)), e2.trans (congrArg nI ?_)⟩
    by_cases c : n + 1 < k - 1
    · rw [if_pos (by omega), if_pos (by omega), if_pos c, Nat.mod_add_mod, Nat.add_assoc]
    · rw [if_neg c]
      by_cases c2 : n < k - 1
      · rw [if_pos (by omega), if_pos c2, Nat.mod_add_mod, Nat.add_assoc, show n + 1 = k - 1 by omega]
      · rw [if_neg (by omega), if_neg c2]
theorem z_silE {q : Nat} : ∀ (n i k : Nat) (v : z_HV), z_wf v → q < v.1.1 0 → v.1.2 1 q = nI k → k < 25 → z_sil v (nI q) n i = i + (if k < n then k else n) := by
  intro n
  induction n with
  | zero =>
    intro i k v _ _ _ _
    rw [if_neg (by omega)]; rfl
  | succ n ih =>
    intro i k v h hq ek hk
    have s1 := h.sc (j := 1) (by decide)
    have := h.nc
    have ea : z_a v.1 1 (nI q) = nI k := by rw [z_aI (by omega) (by omega)]; exact ek
    show (if z_a v.1 1 (nI q) = 0 then i else z_sil (z_hr1 v) (nI q) n (i + 1)) = _
    rw [ea]
    by_cases c : k = 0
    · subst c
      rw [if_pos (show nI 0 = 0 from rfl), if_pos (by omega)]; rfl
    · rw [if_neg (nI_ne0 (by omega) (by omega))]
      obtain ⟨⟨s, hs, es⟩, _, _⟩ := h.C.2.2.2.1 q hq
      have e1 := (z_phs_V h.C hq ek es hs hk _ (Nat.le_refl _)).1
      rw [if_pos hq] at e1
      have hq2 : q < (z_hr1 v).1.1 0 := by
        show q < (z_fold z_phS v.1 (v.1.1 0)).1 0
        rw [z_ph_1]; exact hq
      rw [ih (i + 1) (k - 1) (z_hr1 v) h.hr1 hq2 e1 (by omega)]
      by_cases c2 : k < n + 1
      · rw [if_pos c2]
        by_cases c3 : k - 1 < n
        · rw [if_pos c3]; omega
        · rw [if_neg c3]; omega
      · rw [if_neg c2, if_neg (by omega)]; omega
/-- the bills' hours after hours -/
theorem z_hrsN {v : z_HV} (h : z_wf v) : ∀ n, (z_hrs v n).2.1.1 0 = v.2.1.1 0 ∧ ∀ b k, b < v.2.1.1 0 → v.2.1.2 3 b = nI k → k < 13 → (z_hrs v n).2.1.2 3 b = nI (k - n) := by
  intro n
  induction n with
  | zero => exact ⟨rfl, fun b k _ e _ => e⟩
  | succ n ih =>
    obtain ⟨h1, h2⟩ := ih
    have I := z_bpI (h.hrs n).B _ (Nat.le_refl _)
    refine ⟨I.nb.trans h1, fun b k hb e hk => ?_⟩
    have hb2 : b < (z_hrs v n).2.1.1 0 := by rw [h1]; exact hb
    have e2 := I.ho b hb2
    rw [if_pos hb2, h2 b k hb e hk] at e2
    refine e2.trans ?_
    unfold z_dcH
    by_cases c : k - n = 0
    · rw [c, if_neg (by decide)]
      exact congrArg nI (by omega)
    · rw [if_pos (z_pos0 (by omega) (by omega)), z_predN (by omega)]
      exact congrArg nI (by omega)
