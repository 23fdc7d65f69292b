/-! The class's object and the model's, held against each other; what is kept. -/
def z_RelT (y : List Nat × List Nat × (Int32 × Int32) × (Int32 × Int32) × Int32) (m : z_MV) : Prop := (y.1.length ≤ 60 ∧ m.1 8 = nI y.1.length ∧ (∀ i, i < y.1.length → m.2 6 i = nI (y.1.getD i 0)) ∧ ∀ c, c ∈ y.1 → 32 ≤ c ∧ c ≤ 126) ∧ (y.2.1.length ≤ 40 ∧ m.1 15 = nI y.2.1.length ∧ ∀ i, i < y.2.1.length → m.2 7 i = nI (y.2.1.getD i 0) ∧ y.2.1.getD i 0 < 128) ∧ (m.1 10 = y.2.2.1.1 ∧ m.1 11 = y.2.2.1.2) ∧ (m.1 12 = y.2.2.2.1.1 ∧ m.1 13 = y.2.2.2.1.2) ∧ m.1 9 = y.2.2.2.2
def z_Rel (x : z_PV) (m : z_MV) : Prop := (z_wf x.1 ∧ z_gOk x.1 (m.2 1)) ∧ (m.1 6 = z_I x.2.2.1 ∧ (x.2.2.1 = true → z_wf x.2.1 ∧ z_gOk x.2.1 (m.2 5))) ∧ (x.2.2.2.1 ≤ 8 ∧ m.1 4 = nI x.2.2.2.1 ∧ ∀ t, t < x.2.2.2.1 → z_wf (x.2.2.2.2.1 t) ∧ z_gOk (x.2.2.2.2.1 t) (fun q => m.2 4 (105 * t + q))) ∧ z_RelT x.2.2.2.2.2 m
/-- what a method of the model does, beside the class's answer -/
def z_mQ (f : z_An) (h : z_H) (a : Nat) (Q : z_O → z_H → Prop) : Prop := ∀ h' m' r, z_Mo h' a m' → z_Rel f.2.2 m' → m'.1 16 = nI f.1 → z_Fr a 9 h h' → (f.1 = 0 → r = f.2.1) → Q (.inl (some (.int r))) h'
theorem z_RelT.same {y : List Nat × List Nat × (Int32 × Int32) × (Int32 × Int32) × Int32} {m m' : z_MV} (h : z_RelT y m) (h1 : ∀ i, i = 8 ∨ i = 9 ∨ i = 10 ∨ i = 11 ∨ i = 12 ∨ i = 13 ∨ i = 15 → m'.1 i = m.1 i) (h2 : ∀ j, j = 6 ∨ j = 7 → m'.2 j = m.2 j) : z_RelT y m' := by
  obtain ⟨⟨a1, a2, a3, a4⟩, ⟨b1, b2, b3⟩, ⟨c1, c2⟩, ⟨d1, d2⟩, e1⟩ := h
  refine ⟨⟨a1, (h1 8 (by omega)).trans a2, fun i hi => by rw [h2 6 (by omega)]; exact a3 i hi, a4⟩, ⟨b1, (h1 15 (by omega)).trans b2, fun i hi => by rw [h2 7 (by omega)]; exact b3 i hi⟩, ⟨(h1 10 (by omega)).trans c1, (h1 11 (by omega)).trans c2⟩, ⟨(h1 12 (by omega)).trans d1, (h1 13 (by omega)).trans d2⟩, (h1 9 (by omega)).trans e1⟩
theorem z_gOk.cong {v : z_HV} {g g' : Nat → Int32} (h : z_gOk v g) (hw : z_wz v) (he : ∀ q, q < 105 → g' q = g q) : z_gOk v g' := by
  obtain ⟨⟨a1, a2, a3⟩, ⟨a4, a5⟩, a6, a7, a8, a9, a10⟩ := h
  have h8 := hw.nc
  have h10 := hw.nb
  have hnr := hw.nr
  exact ⟨⟨(he 0 (by omega)).trans a1, (he 1 (by omega)).trans a2, (he 9 (by omega)).trans a3⟩, ⟨fun k hk => (he _ (by have := z_ciB hk; omega)).trans (a4 k hk), (he 5 (by omega)).trans a5⟩, fun j i hj hi => (he _ (by omega)).trans (a6 j i hj hi), fun k hk => (he _ (by omega)).trans (a7 k hk), fun b hb => (he _ (by omega)).trans (a8 b hb), fun j b h0 hj hb => (he _ (by omega)).trans (a9 j b h0 hj hb), fun r hr => (he _ (by omega)).trans (a10 r hr)⟩
/-- only the thrown flag, the reader and what is told have changed -/
theorem z_Rel.same {x : z_PV} {m m' : z_MV} (h : z_Rel x m) (h1 : ∀ i, i ≠ 16 → i ≠ 17 → i ≠ 18 → m'.1 i = m.1 i) (h2 : ∀ j, j ≠ 2 → j ≠ 3 → j ≠ 8 → m'.2 j = m.2 j) : z_Rel x m' := by
  obtain ⟨⟨a1, a2⟩, ⟨b1, b2⟩, ⟨c1, c2, c3⟩, d⟩ := h
  refine ⟨⟨a1, by rw [h2 1 (by omega) (by omega) (by omega)]; exact a2⟩, ⟨(h1 6 (by omega) (by omega) (by omega)).trans b1, fun e => by rw [h2 5 (by omega) (by omega) (by omega)]; exact b2 e⟩, ⟨c1, (h1 4 (by omega) (by omega) (by omega)).trans c2, fun t ht => by rw [h2 4 (by omega) (by omega) (by omega)]; exact c3 t ht⟩, d.same (fun i hi => h1 i (by omega) (by omega) (by omega)) (fun j hj => h2 j (by omega) (by omega) (by omega))⟩
theorem z_Rel.th {x : z_PV} {m : z_MV} (h : z_Rel x m) (t : Int32) : z_Rel x (z_mS m 16 t) := h.same (fun i h1 _ _ => if_neg h1) (fun _ _ _ _ => rfl)
section ZKe
variable {G : z_G} {h : z_H} {Q : z_O → z_H → Prop} {a : Nat} {m : z_MV} {x : z_PV}
theorem cM_keptX {r : Int32} (hM : z_Mo h a m) (ht : ¬ m.1 16 = 0) (q : ∀ h' m', z_Mo h' a m' → m'.1 = m.1 → (∀ j, j ≠ 1 → m'.2 j = m.2 j) → (∀ q, q < 105 → m'.2 1 q = m.2 2 q) → z_Fr a 9 h h' → Q (.inl (some (.int 0))) h') : z_W G 1 0 0 168 0 (z_L0 168 [.ref a, .int r]) [] h Q := by
  refine z_aload_n rfl rfl ?_
  refine z_get rfl hM.1 rfl ?_
  refine z_if_eq rfl (fun c4 => absurd c4 ht) (fun c4 => ?_)
  refine z_aload_n rfl rfl ?_
  refine z_get rfl hM.1 rfl ?_
  refine z_iconst (v := 0) rfl (by decide) ?_
  refine z_aload_n rfl rfl ?_
  refine z_get rfl hM.1 rfl ?_
  refine z_iconst (v := 0) rfl (by decide) ?_
  refine z_callS (av := [_, _, _, _]) rfl z_w166 rfl rfl rfl rfl (Nat.le_of_ble_eq_true rfl) (Nat.le_of_ble_eq_true rfl) (Nat.le_of_ble_eq_true rfl) (Nat.le_of_ble_eq_true rfl) (cM_copy (j1 := 2) (j2 := 1) (A := 0) (T := 0) (by decide) (by decide) (by decide) (by decide) (by decide) hM (fun h9 hM9 hF9 => ?_))
  refine z_iconst (v := 0) rfl (by decide) ?_
  refine z_iret rfl rfl ?_
  exact q _ _ hM9 rfl (fun j hj => if_neg hj) (fun k hk => by show z_cpyF (m.2 2) 0 (m.2 1) 0 105 k = _; unfold z_cpyF; rw [if_pos (by omega), show 0 + (k - 0) = k by omega]) hF9
theorem cM_keptD {r : Int32} {k : Nat} (hM : z_Mo h a m) (ht : m.1 16 = 0) (hk : m.1 4 = nI k) (hk8 : k ≤ 8) (q : ∀ h' m', z_Mo h' a m' → (∀ i, i ≠ 4 → m'.1 i = m.1 i) → m'.1 4 = nI (z_kpK k) → (∀ j, j ≠ 4 → m'.2 j = m.2 j) → (∀ t q, t < z_kpK k → q < 105 → m'.2 4 (105 * t + q) = if t + 1 = z_kpK k then m.2 2 q else m.2 4 (105 * (if k < 8 then t else t + 1) + q)) → z_Fr a 9 h h' → Q (.inl (some (.int r))) h') : z_W G 1 0 0 168 0 (z_L0 168 [.ref a, .int r]) [] h Q := by
  have fin : ∀ (n : Nat) (y : Value) (hh : z_H) (m1 : z_MV), n < 8 → z_Mo hh a m1 → (∀ i, i ≠ 4 → m1.1 i = m.1 i) → m1.1 4 = nI n → n + 1 = z_kpK k → (∀ j, j ≠ 4 → m1.2 j = m.2 j) → (∀ t q, t < n → q < 105 → m1.2 4 (105 * t + q) = m.2 4 (105 * (if k < 8 then t else t + 1) + q)) → z_Fr a 9 h hh → z_W G 1 0 0 168 71 [.ref a, .int r, y] [] hh Q := by
    intro n y hh m1 hn hD d1 d2 d3 d4 d5 hF
    refine z_aload_n rfl rfl ?_
    refine z_get rfl hD.1 rfl ?_
    refine z_iconst (v := 0) rfl (by decide) ?_
    refine z_aload_n rfl rfl ?_
    refine z_get rfl hD.1 rfl ?_
    refine z_aload_n rfl rfl ?_
    refine z_get rfl hD.1 rfl ?_
    refine z_bipush (v := 105) rfl (by decide) ?_
    refine z_imul rfl ?_
    rw [d2, show nI n * 105 = nI (n * 105) from pk_mul n 105]
    refine z_callS (av := [_, _, _, _]) rfl z_w166 rfl rfl rfl rfl (Nat.le_of_ble_eq_true rfl) (Nat.le_of_ble_eq_true rfl) (Nat.le_of_ble_eq_true rfl) (Nat.le_of_ble_eq_true rfl) (cM_copy (j1 := 2) (j2 := 4) (A := 0) (T := n * 105) (by decide) (by decide) (by decide) (by decide) (show n * 105 + 105 ≤ 840 by omega) hD (fun h9 hM9 hF9 => ?_))
    refine z_aload_n rfl rfl ?_
    refine z_dup rfl rfl ?_
    refine z_get rfl hM9.1 rfl ?_
    refine z_iconst (v := 1) rfl (by decide) ?_
    refine z_iadd rfl ?_
    rw [show (z_mF m1 4 (z_cpyF (m1.2 2) 0 (m1.2 4) (n * 105) 105)).1 4 = nI n from d2]
    refine z_putM rfl hM9 (by decide) rfl rfl (fun h1 hC1 hF1 => ?_)
    refine z_iload_n rfl rfl ?_
    refine z_iret rfl rfl ?_
    refine q _ _ hC1 (fun i hi => (if_neg hi).trans (d1 i hi)) ?_ (fun j hj => (if_neg hj).trans (d4 j hj)) (fun t k9 ht9 hk9 => ?_) (hF.trans (hF9.trans hF1))
    · show nI n + 1 = _; rw [nI_1, d3]
    · show z_cpyF (m1.2 2) 0 (m1.2 4) (n * 105) 105 (105 * t + k9) = _
      unfold z_cpyF
      rw [← d3] at ht9 ⊢
      by_cases e : t = n
      · rw [if_pos (by omega), if_pos (by omega), d4 2 (by decide), show 0 + (105 * t + k9 - n * 105) = k9 by omega]
      · rw [if_neg (by omega), if_neg (by omega)]; exact d5 t k9 (by omega) hk9
  by_cases e8 : k = 8
  · subst e8
    have loop : ∀ (r2 i : Nat) (hh : z_H) (g : Nat → Int32), i + r2 = 735 → z_Mo hh a (z_mF m 4 g) → (∀ q, g q = if q < i then m.2 4 (q + 105) else m.2 4 q) → z_Fr a 9 h hh → z_W G 1 0 0 168 33 [.ref a, .int r, .int (nI i)] [] hh Q := by
      intro r2
      induction r2 with
      | zero =>
        intro i hh g hi hD hG hF
        obtain rfl : i = 735 := hi
        refine z_iload_n rfl rfl ?_
        refine z_sipush (v := 735) rfl (by decide) ?_
        refine z_icmp_ge rfl (fun c37 => ?_) (fun c37 => absurd (by decide) c37)
        refine z_aload_n rfl rfl ?_
        refine z_dup rfl rfl ?_
        refine z_get rfl hD.1 rfl ?_
        refine z_iconst (v := 1) rfl (by decide) ?_
        refine z_isub rfl ?_
        rw [show (z_mF m 4 g).1 4 - 1 = nI 7 by show m.1 4 - 1 = nI 7; rw [hk]; decide]
        refine z_putM rfl hD (by decide) rfl rfl (fun h1 hC1 hF1 => ?_)
        refine fin 7 _ _ _ (by decide) hC1 (fun i hi => if_neg hi) rfl rfl (fun j hj => if_neg hj) (fun t q ht hq => ?_) (hF.trans hF1)
        show g (105 * t + q) = _
        rw [hG, if_pos (by omega), if_neg (by decide), show 105 * t + q + 105 = 105 * (t + 1) + q by omega]
      | succ r2 ih =>
        intro i hh g hi hD hG hF
        have c1 : hh.2 (a + 4) = some (.inl (0, 840, .inl g)) := hD.2 4 (by decide)
        refine z_iload_n rfl rfl ?_
        refine z_sipush (v := 735) rfl (by decide) ?_
        refine z_icmp_ge rfl (fun c37 => absurd c37 (show ¬ nI 735 ≤ nI i from fun q9 => absurd ((nI_leI (by omega) (by omega)).mp q9) (by omega))) (fun c37 => ?_)
        refine z_aload_n rfl rfl ?_
        refine z_get rfl hD.1 rfl ?_
        refine z_iload_n rfl rfl ?_
        refine z_aload_n rfl rfl ?_
        refine z_get rfl hD.1 rfl ?_
        refine z_iload_n rfl rfl ?_
        refine z_bipush (v := 105) rfl (by decide) ?_
        refine z_iadd rfl ?_
        refine z_ildE rfl c1 (k := i + 105) (nI_add i 105) (by omega) ?_
        refine z_istM (j := 4) rfl hD (by decide) (k := i) rfl (show i < 840 by omega) (fun h1 hC1 hF1 => ?_)
        refine z_iinc1 rfl rfl (by decide +kernel) rfl ?_
        refine z_goto rfl (ih (i + 1) _ (upd g i (g (i + 105))) (by omega) (hC1.eqv (fun _ => rfl) (fun j => ?_)) (fun q => ?_) (hF.trans hF1))
        · show (if j = 4 then _ else m.2 j) = if j = 4 then upd (if 4 = 4 then g else m.2 4) i (g (i + 105)) else (if j = 4 then g else m.2 j)
          split
          · rfl
          · rfl
        · unfold upd
          by_cases e : q = i
          · rw [if_pos e, if_pos (by omega), hG, if_neg (by omega), e]
          · rw [if_neg e, hG]
            by_cases e2 : q < i
            · rw [if_pos e2, if_pos (by omega)]
            · rw [if_neg e2, if_neg (by omega)]
    refine z_aload_n rfl rfl ?_
    refine z_get rfl hM.1 rfl ?_
    refine z_if_eq rfl (fun c4 => ?_) (fun c4 => absurd ht c4)
    refine z_aload_n rfl rfl ?_
    refine z_get rfl hM.1 rfl ?_
    refine z_bipush (v := 8) rfl (by decide) ?_
    rw [hk]
    refine z_icmp_ne rfl (fun c28 => absurd rfl c28) (fun c28 => ?_)
    refine z_iconst (v := nI 0) rfl (by decide) ?_
    refine z_istore_n rfl (by decide +kernel) rfl ?_
    exact loop 735 0 _ (m.2 4) rfl (hM.eqv (fun _ => rfl) (z_mFid m 4)) (fun q => by rw [if_neg (by omega)]) (z_Fr.refl _ _ _)
  · skip
    refine z_aload_n rfl rfl ?_
    refine z_get rfl hM.1 rfl ?_
    refine z_if_eq rfl (fun c4 => ?_) (fun c4 => absurd ht c4)
    refine z_aload_n rfl rfl ?_
    refine z_get rfl hM.1 rfl ?_
    refine z_bipush (v := 8) rfl (by decide) ?_
    rw [hk]
    refine z_icmp_ne rfl (fun c28 => ?_) (fun c28 => absurd c28 (fun q9 => e8 ((nI_eq (b := 8) (by omega) (by decide)).mp q9)))
    refine fin k _ _ m (by omega) hM (fun _ _ => rfl) hk (by unfold z_kpK; rw [if_pos (by omega)]) (fun _ _ => rfl) (fun t q ht hq => ?_) (z_Fr.refl _ _ _)
    rw [if_pos (by omega)]
end ZKe
