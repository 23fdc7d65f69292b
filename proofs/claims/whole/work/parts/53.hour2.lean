/-! The model's hour. -/
def z_stF (g : Nat → Int32) (R : Nat) (x : Int32) : Nat → Int32 := fun q => if q = 9 then nI (R + 1) else if q = 95 then x else if 95 < q ∧ q ≤ 95 + R then g (q - 1) else g q
theorem z_stF_9 (g : Nat → Int32) (R : Nat) (x : Int32) : z_stF g R x 9 = nI (R + 1) := rfl
theorem z_stF_95 (g : Nat → Int32) (R : Nat) (x : Int32) : z_stF g R x 95 = x := rfl
theorem z_stF_hi {g : Nat → Int32} {R q : Nat} {x : Int32} (h1 : 95 < q) (h2 : q ≤ 95 + R) : z_stF g R x q = g (q - 1) := by
  unfold z_stF
  rw [if_neg (by omega), if_neg (by omega), if_pos ⟨h1, h2⟩]
theorem z_stF_o {g : Nat → Int32} {R q : Nat} {x : Int32} (h1 : q ≠ 9) (h2 : q < 95) : z_stF g R x q = g q := by
  unfold z_stF
  rw [if_neg h1, if_neg (by omega), if_neg (by omega)]
def z_CbI (y : z_LV) (g g' : Nat → Int32) (j : Nat) : Prop := (∀ q, q < 75 → q ≠ 9 → g' q = g q) ∧ (∀ q, 85 ≤ q → q < 95 → g' q = g q) ∧ (∀ b, b < y.1 0 → g' (75 + b) = if j ≤ b then z_dcH (y.2 3 b) else y.2 3 b) ∧ g' 9 = nI (y.1 5 + (z_cnt (z_cmB (y.2 3)) (y.1 0) - z_cnt (z_cmB (y.2 3)) j)) ∧ (∀ b, j ≤ b → b < y.1 0 → z_cmB (y.2 3) b = true → g' (95 + (z_cnt (z_cmB (y.2 3)) b - z_cnt (z_cmB (y.2 3)) j)) = nI b) ∧ ∀ r, r < y.1 5 → g' (95 + (z_cnt (z_cmB (y.2 3)) (y.1 0) - z_cnt (z_cmB (y.2 3)) j) + r) = y.2 5 r
/-- a bill that doesn't come -/
theorem z_CbI.no {y : z_LV} {g g' : Nat → Int32} {j : Nat} {x : Int32} (h : z_CbI y g g' (j + 1)) (hj : j < y.1 0) (h10 : y.1 0 ≤ 10) (hB : z_cmB (y.2 3) j = false) (hx : x = z_dcH (y.2 3 j)) : z_CbI y g (upd g' (75 + j) x) j := by
  obtain ⟨a1, a2, a3, a4, a5, a6⟩ := h
  have c0 : z_cnt (z_cmB (y.2 3)) (j + 1) = z_cnt (z_cmB (y.2 3)) j := by rw [z_cnt_s, hB]; rfl
  rw [c0] at a4 a5 a6
  refine ⟨fun q h1 h2 => by rw [z_updN _ _ (by omega)]; exact a1 q h1 h2, fun q h1 h2 => by rw [z_updN _ _ (by omega)]; exact a2 q h1 h2, fun b hb => ?_, by rw [z_updN _ _ (by omega)]; exact a4, fun b h1 h2 h3 => ?_, fun r hr => by rw [z_updN _ _ (by omega)]; exact a6 r hr⟩
  · by_cases e : b = j
    · rw [e, z_updE (α := Nat), if_pos (Nat.le_refl _), hx]
    · rw [z_updN _ _ (by omega), a3 b hb]
      by_cases e2 : j + 1 ≤ b
      · rw [if_pos e2, if_pos (by omega)]
      · rw [if_neg e2, if_neg (by omega)]
  · by_cases e : b = j
    · rw [e, hB] at h3; exact Bool.noConfusion h3
    · rw [z_updN _ _ (by omega)]; exact a5 b (by omega) h2 h3
/-- a bill that comes -/
theorem z_CbI.yes {y : z_LV} {g g' : Nat → Int32} {j : Nat} {x : Int32} (h : z_CbI y g g' (j + 1)) (hj : j < y.1 0) (h10 : y.1 0 ≤ 10) (hB : z_cmB (y.2 3) j = true) (hx : x = z_dcH (y.2 3 j)) : z_CbI y g (z_stF (upd g' (75 + j) x) (y.1 5 + (z_cnt (z_cmB (y.2 3)) (y.1 0) - z_cnt (z_cmB (y.2 3)) (j + 1))) (nI j)) j := by
  obtain ⟨a1, a2, a3, a4, a5, a6⟩ := h
  have c1 : z_cnt (z_cmB (y.2 3)) (j + 1) = z_cnt (z_cmB (y.2 3)) j + 1 := by rw [z_cnt_s, hB]; rfl
  have cT := z_cnt_mono (z_cmB (y.2 3)) (show j + 1 ≤ y.1 0 by omega)
  refine ⟨fun q h1 h2 => ?_, fun q h1 h2 => ?_, fun b hb => ?_, ?_, fun b h1 h2 h3 => ?_, fun r hr => ?_⟩
  · rw [z_stF_o h2 (by omega), z_updN _ _ (by omega)]; exact a1 q h1 h2
  · rw [z_stF_o (by omega) (by omega), z_updN _ _ (by omega)]; exact a2 q h1 h2
  · rw [z_stF_o (by omega) (by omega)]
    by_cases e : b = j
    · rw [e, z_updE (α := Nat), if_pos (Nat.le_refl _), hx]
    · rw [z_updN _ _ (by omega), a3 b hb]
      by_cases e2 : j + 1 ≤ b
      · rw [if_pos e2, if_pos (by omega)]
      · rw [if_neg e2, if_neg (by omega)]
  · refine (z_stF_9 _ _ _).trans (congrArg nI ?_)
    omega
  · by_cases e : b = j
    · rw [e, Nat.sub_self, Nat.add_zero, z_stF_95]
    · have := z_cnt_strict (show j < b by omega) hB
      have := z_cnt_strict h2 h3
      rw [z_stF_hi (by omega) (by omega), z_updN _ _ (by omega), show 95 + (z_cnt (z_cmB (y.2 3)) b - z_cnt (z_cmB (y.2 3)) j) - 1 = 95 + (z_cnt (z_cmB (y.2 3)) b - z_cnt (z_cmB (y.2 3)) (j + 1)) by omega]
      exact a5 b (by omega) h2 h3
  · rw [z_stF_hi (by omega) (by omega), z_updN _ _ (by omega), show 95 + (z_cnt (z_cmB (y.2 3)) (y.1 0) - z_cnt (z_cmB (y.2 3)) j) + r - 1 = 95 + (z_cnt (z_cmB (y.2 3)) (y.1 0) - z_cnt (z_cmB (y.2 3)) (j + 1)) + r by omega]
    exact a6 r hr
theorem z_gOk.bp {v : z_HV} {g g' : Nat → Int32} {n : Nat} {x : Int32} (hg : z_gOk v g) (hw : z_wz v) (hB : z_wB n v.2.1) (hI : z_CbI v.2.1 g g' 0) (hx : x = v.2.2 4 + nI (z_bp v.2.1).2) : z_gOk (v.1, (z_bp v.2.1).1, (z_upW v 4 (v.2.2 4 + nI (z_bp v.2.1).2)).2.2) (upd g' 7 x) := by
  obtain ⟨⟨a1, a2, a3⟩, ⟨a4, a5⟩, a6, a7, a8, a9, a10⟩ := hg
  obtain ⟨i1, i2, i3, i4, i5, i6⟩ := hI
  have h8 := hw.nc
  have h10 := hw.nb
  have hnr := hw.nr
  have I : z_BpI n v.2.1 (v.2.1.1 0) (z_bp v.2.1) := z_bpI hB _ (Nat.le_refl _)
  rw [show z_cnt (z_cmB (v.2.1.2 3)) 0 = 0 from rfl, Nat.sub_zero] at i4 i6
  have up : ∀ q, q ≠ 7 → q < 75 → q ≠ 9 → upd g' 7 x q = g q := fun q h1 h2 h3 => by
    rw [z_updN _ _ h1, i1 q h2 h3]
  refine ⟨⟨?_, ?_, ?_⟩, ⟨fun k hk => ?_, ?_⟩, fun j k hj hk => ?_, fun k hk => ?_, fun b hb => ?_, fun j b h0 hj hb => ?_, fun q hq => ?_⟩
  · exact (up 0 (by omega) (by omega) (by omega)).trans a1
  · rw [up 1 (by omega) (by omega) (by omega), a2]
    show _ = nI ((z_bp v.2.1).1.1 0)
    rw [I.nb]
  · rw [z_updN _ _ (by omega), i4]
    show _ = nI ((z_bp v.2.1).1.1 5)
    rw [I.nr]
  · show _ = if k = 4 then _ else v.2.2 k
    by_cases e : k = 4
    · subst e
      show upd g' 7 x 7 = _
      rw [z_updE (α := Nat), if_pos rfl, hx]
    · have hb := z_ciB hk
      have h4 : z_ci k ≠ 7 := fun q => e (z_ciI k hk 4 (by decide) q)
      rw [if_neg e, up _ h4 (by omega) (by omega)]
      exact a4 k hk
  · exact (up 5 (by omega) (by omega) (by omega)).trans a5
  · have hk2 : k < v.1.1 0 := hk
    exact (up _ (by omega) (by omega) (by omega)).trans (a6 j k hj hk2)
  · exact (up _ (by omega) (by omega) (by omega)).trans (a7 k hk)
  · have hb2 : b < (z_bp v.2.1).1.1 0 := hb
    rw [I.nb] at hb2
    rw [up _ (by omega) (by omega) (by omega), a8 b hb2]
    show _ = (z_bp v.2.1).1.2 0 b + 1
    rw [I.ot 0 (by decide) (by decide)]
  · have hb2 : b < (z_bp v.2.1).1.1 0 := hb
    rw [I.nb] at hb2
    show _ = (z_bp v.2.1).1.2 j b
    have c4 : j = 1 ∨ j = 2 ∨ j = 3 ∨ j = 4 := by omega
    rcases c4 with rfl | rfl | rfl | rfl
    · rw [I.ot 1 (by decide) (by decide), up _ (by omega) (by omega) (by omega)]; exact a9 1 b h0 hj hb2
    · rw [I.ot 2 (by decide) (by decide), up _ (by omega) (by omega) (by omega)]; exact a9 2 b h0 hj hb2
    · rw [I.ho b hb2, if_pos hb2, z_updN _ _ (by omega)]
      exact (i3 b hb2).trans (if_pos (Nat.zero_le _))
    · rw [I.ot 4 (by decide) (by decide), z_updN _ _ (by omega), i2 _ (by omega) (by omega)]; exact a9 4 b h0 hj hb2
  · have hq2 : q < (z_bp v.2.1).1.1 5 := hq
    rw [I.nr] at hq2
    show _ = (z_bp v.2.1).1.2 5 q
    rw [z_updN _ _ (by omega)]
    by_cases e : q < z_cnt (z_cmB (v.2.1.2 3)) (v.2.1.1 0)
    · obtain ⟨b, hb, e1, e2⟩ := z_cnt_hit _ _ _ e
      have r1 := I.r1 b hb e1
      have r2 := i5 b (Nat.zero_le _) hb e1
      rw [show z_cnt (z_cmB (v.2.1.2 3)) 0 = 0 from rfl, Nat.sub_zero, e2] at r2
      rw [e2] at r1
      rw [r1, r2]
    · have r1 := I.r2 (q - z_cnt (z_cmB (v.2.1.2 3)) (v.2.1.1 0)) (by omega)
      have r2 := i6 (q - z_cnt (z_cmB (v.2.1.2 3)) (v.2.1.1 0)) (by omega)
      rw [show z_cnt (z_cmB (v.2.1.2 3)) (v.2.1.1 0) + (q - z_cnt (z_cmB (v.2.1.2 3)) (v.2.1.1 0)) = q by omega] at r1
      rw [show 95 + z_cnt (z_cmB (v.2.1.2 3)) (v.2.1.1 0) + (q - z_cnt (z_cmB (v.2.1.2 3)) (v.2.1.1 0)) = 95 + q by omega] at r2
      rw [r1, r2]
section ZOpH
variable {G : z_G} {h : z_H} {Q : z_O → z_H → Prop} {a : Nat} {m : z_MV} {v : z_HV} {g : Nat → Int32}
theorem cM_standsFirst {R : Nat} {x : Int32} (hM : z_Mo h a (z_mF m 1 g)) (hR : g 9 = nI R) (h10 : R < 10) (q : ∀ h', z_Mo h' a (z_mF m 1 (z_stF g R x)) → z_Fr a 9 h h' → Q (.inl none) h') : z_W G 0 0 0 189 0 (z_L0 189 [.ref a, .int x]) [] h Q := by
  have loop : ∀ (k : Nat) (hh : z_H) (g' : Nat → Int32), k ≤ R → z_Mo hh a (z_mF m 1 g') → (∀ q, g' q = if 95 + k < q ∧ q ≤ 95 + R then g (q - 1) else g q) → z_Fr a 9 h hh → z_W G 0 0 0 189 8 [.ref a, .int x, .int (nI k)] [] hh Q := by
    intro k
    induction k with
    | zero =>
      intro hh g' hk hD hG hF
      have e9 : g' 9 = nI R := by rw [hG, if_neg (by omega)]; exact hR
      refine z_iload_n rfl rfl ?_
      refine z_if_le rfl (fun c9 => ?_) (fun c9 => absurd (by decide) c9)
      refine z_aload_n rfl rfl ?_
      refine z_get rfl hD.1 rfl ?_
      refine z_bipush (v := 95) rfl (by decide) ?_
      refine z_iload_n rfl rfl ?_
      refine z_istG rfl hD (k := 95) rfl (show _ < 105 by omega) (fun h1 hC1 hF1 => ?_)
      refine z_aload_n rfl rfl ?_
      refine z_get rfl hC1.1 rfl ?_
      refine z_bipush (v := 9) rfl (by decide) ?_
      refine z_dup2 rfl rfl rfl ?_
      refine z_ildE rfl (hC1.g) (k := 9) rfl (show _ < 105 by omega) ?_
      rw [z_updN _ _ (by omega), e9]
      refine z_iconst (v := 1) rfl (by decide) ?_
      refine z_iadd rfl ?_
      refine z_istG rfl hC1 (k := 9) rfl (show _ < 105 by omega) (fun h2 hC2 hF2 => ?_)
      refine z_vret rfl rfl ?_
      refine q _ (hC2.eqv (fun _ => rfl) (fun i => ?_)) (hF.trans (hF1.trans hF2))
      show (if i = 1 then z_stF g R x else m.2 i) = if i = 1 then upd (upd g' 95 x) 9 (nI R + 1) else m.2 i
      split
      · funext y
        unfold z_stF upd
        by_cases e : y = 9
        · rw [if_pos e, if_pos e, nI_1]
        · rw [if_neg e, if_neg e]
          by_cases e2 : y = 95
          · rw [if_pos e2, if_pos e2]
          · rw [if_neg e2, if_neg e2, hG]
      · rfl
    | succ k ih =>
      intro hh g' hk hD hG hF
      refine z_iload_n rfl rfl ?_
      refine z_if_le rfl (fun c9 => absurd c9 (Int32.not_le.mpr (z_pos0 (by omega) (by omega)))) (fun c9 => ?_)
      refine z_aload_n rfl rfl ?_
      refine z_get rfl hD.1 rfl ?_
      refine z_bipush (v := 95) rfl (by decide) ?_
      refine z_iload_n rfl rfl ?_
      refine z_iadd rfl ?_
      refine z_aload_n rfl rfl ?_
      refine z_get rfl hD.1 rfl ?_
      refine z_bipush (v := 95) rfl (by decide) ?_
      refine z_iload_n rfl rfl ?_
      refine z_iadd rfl ?_
      refine z_iconst (v := 1) rfl (by decide) ?_
      refine z_isub rfl ?_
      refine z_ildE rfl (hD.g) (k := 95 + k) (by show nI 95 + nI (k + 1) - 1 = nI (95 + k); rw [nI_add, ← Nat.add_assoc, nI_pred]) (show 95 + k < 105 by omega) ?_
      refine z_istG rfl hD (nI_add 95 ((k + 1))) (show _ < 105 by omega) (fun h1 hC1 hF1 => ?_)
      refine z_iinc rfl rfl (by decide +kernel) rfl ?_
      rw [show Int32.ofInt (-1) = -1 from rfl, pk_m1]
      refine z_goto rfl (ih _ _ (by omega) hC1 (fun q => ?_) (hF.trans hF1))
      unfold upd
      by_cases e : q = 95 + (k + 1)
      · rw [if_pos e, if_pos (by omega), e, show 95 + (k + 1) - 1 = 95 + k by omega, hG, if_neg (by omega)]
      · rw [if_neg e, hG]
        by_cases e2 : 95 + (k + 1) < q ∧ q ≤ 95 + R
        · rw [if_pos e2, if_pos (by omega)]
        · rw [if_neg e2, if_neg (by omega)]
  refine z_aload_n rfl rfl ?_
  refine z_get rfl hM.1 rfl ?_
  refine z_bipush (v := 9) rfl (by decide) ?_
  refine z_ildE rfl (hM.g) (k := 9) rfl (show _ < 105 by omega) ?_
  rw [hR]
  refine z_istore_n rfl (by decide +kernel) rfl ?_
  exact loop R _ g (Nat.le_refl _) hM (fun q => by rw [if_neg (by omega)]) (z_Fr.refl _ _ _)
theorem cM_comeBack {n : Nat} (hM : z_Mo h a (z_mF m 1 g)) (hg : z_gOk v g) (hw : z_wz v) (hB : z_wB n v.2.1) (q : ∀ h' g', z_Mo h' a (z_mF m 1 g') → z_gOk (v.1, (z_bp v.2.1).1, (z_upW v 4 (v.2.2 4 + nI (z_bp v.2.1).2)).2.2) g' → z_Fr a 9 h h' → Q (.inl (some (.int (nI (z_bp v.2.1).2)))) h') : z_W G 1 0 0 204 0 (z_L0 204 [.ref a]) [] h Q := by
  have h10 := hw.nb
  have hnr := hw.nr
  have I : z_BpI n v.2.1 (v.2.1.1 0) (z_bp v.2.1) := z_bpI hB _ (Nat.le_refl _)
  have hT : v.2.1.1 5 + z_cnt (z_cmB (v.2.1.2 3)) (v.2.1.1 0) ≤ v.2.1.1 0 := by
    have := I.wB.2.1
    rw [I.nr, I.nb] at this
    exact this
  have loop : ∀ (j : Nat) (x : Value) (hh : z_H) (g' : Nat → Int32), j ≤ v.2.1.1 0 → z_Mo hh a (z_mF m 1 g') → z_CbI v.2.1 g g' j → z_Fr a 9 h hh → z_W G 1 0 0 204 11 [.ref a, .int (nI (z_cnt (z_cmB (v.2.1.2 3)) (v.2.1.1 0) - z_cnt (z_cmB (v.2.1.2 3)) j)), .int (nI j + -1), x] [] hh Q := by
    intro j
    induction j with
    | zero =>
      intro x hh g' hj hD hG hF
      have e7 : g' 7 = v.2.2 4 := (hG.1 7 (by decide) (by decide)).trans (hg.2.1.1 4 (by decide))
      have eT : nI (z_cnt (z_cmB (v.2.1.2 3)) (v.2.1.1 0) - z_cnt (z_cmB (v.2.1.2 3)) 0) = nI (z_bp v.2.1).2 := by rw [I.cn]; rfl
      rw [eT]
      refine z_iload_n rfl rfl ?_
      refine z_if_lt rfl (fun c12 => ?_) (fun c12 => absurd (by decide) c12)
      refine z_aload_n rfl rfl ?_
      refine z_get rfl hD.1 rfl ?_
      refine z_bipush (v := 7) rfl (by decide) ?_
      refine z_dup2 rfl rfl rfl ?_
      refine z_ildE rfl (hD.g) (k := 7) rfl (show _ < 105 by omega) ?_
      rw [e7]
      refine z_iload_n rfl rfl ?_
      refine z_iadd rfl ?_
      refine z_istG rfl hD (k := 7) rfl (show _ < 105 by omega) (fun h1 hC1 hF1 => ?_)
      refine z_iload_n rfl rfl ?_
      refine z_iret rfl rfl ?_
      exact q _ _ hC1 (hg.bp hw hB hG rfl) (hF.trans hF1)
    | succ j ih =>
      intro x hh g' hj hD hG hF
      obtain ⟨k, hk, ek, _⟩ := hB.ho (show j < v.2.1.1 0 by omega)
      have eh : g' (75 + j) = nI k := ((hG.2.2.1 j (by omega)).trans (if_neg (by omega))).trans ek
      have cT := z_cnt_mono (z_cmB (v.2.1.2 3)) (show j + 1 ≤ v.2.1.1 0 by omega)
      rw [pk_m1]
      have cm : z_cmB (v.2.1.2 3) j = decide (k = 1) := by
        unfold z_cmB
        rw [ek]
        exact decide_eq_decide.mpr (nI_eq (b := 1) (by omega) (by decide))
      by_cases e1 : k = 1
      · subst e1
        have c1 : z_cnt (z_cmB (v.2.1.2 3)) (j + 1) = z_cnt (z_cmB (v.2.1.2 3)) j + 1 := by rw [z_cnt_s, cm]; rfl
        refine z_iload_n rfl rfl ?_
        refine z_if_lt rfl (fun c12 => absurd c12 (by rw [Int32.not_lt]; exact nI_pos' (by omega))) (fun c12 => ?_)
        refine z_aload_n rfl rfl ?_
        refine z_get rfl hD.1 rfl ?_
        refine z_bipush (v := 75) rfl (by decide) ?_
        refine z_iload_n rfl rfl ?_
        refine z_iadd rfl ?_
        refine z_ildE rfl (hD.g) (nI_add 75 (j)) (show _ < 105 by omega) ?_
        refine z_iconst (v := 1) rfl (by decide) ?_
        rw [eh]
        refine z_icmp_ne rfl (fun c25 => absurd rfl c25) (fun c25 => ?_)
        refine z_iconst (v := 1) rfl (by decide) ?_
        refine z_goto rfl ?_
        refine z_istore_n rfl (by decide +kernel) rfl ?_
        refine z_aload_n rfl rfl ?_
        refine z_get rfl hD.1 rfl ?_
        refine z_bipush (v := 75) rfl (by decide) ?_
        refine z_iload_n rfl rfl ?_
        refine z_iadd rfl ?_
        refine z_dup2 rfl rfl rfl ?_
        refine z_ildE rfl (hD.g) (nI_add 75 (j)) (show _ < 105 by omega) ?_
        refine z_aload_n rfl rfl ?_
        refine z_get rfl hD.1 rfl ?_
        refine z_bipush (v := 75) rfl (by decide) ?_
        refine z_iload_n rfl rfl ?_
        refine z_iadd rfl ?_
        refine z_ildE rfl (hD.g) (nI_add 75 (j)) (show _ < 105 by omega) ?_
        rw [eh]
        refine z_if_le rfl (fun c53 => absurd c53 (by decide)) (fun c53 => ?_)
        refine z_iconst (v := 1) rfl (by decide) ?_
        refine z_goto rfl ?_
        refine z_isub rfl ?_
        rw [show nI 1 - 1 = z_dcH (v.2.1.2 3 j) by rw [ek]; decide]
        refine z_istG rfl hD (nI_add 75 (j)) (show _ < 105 by omega) (fun h1 hC1 hF1 => ?_)
        refine z_iload_n rfl rfl ?_
        refine z_if_eq rfl (fun c64 => absurd c64 (by decide)) (fun c64 => ?_)
        refine z_aload_n rfl rfl ?_
        refine z_iload_n rfl rfl ?_
        refine z_callV (av := [_]) rfl z_w189 hC1.1 rfl rfl rfl rfl rfl (Nat.le_of_ble_eq_true rfl) (Nat.le_of_ble_eq_true rfl) (Nat.le_of_ble_eq_true rfl) (Nat.le_of_ble_eq_true rfl) (cM_standsFirst (R := v.2.1.1 5 + (z_cnt (z_cmB (v.2.1.2 3)) (v.2.1.1 0) - z_cnt (z_cmB (v.2.1.2 3)) (j + 1))) hC1 ((z_updN _ _ (by omega)).trans hG.2.2.2.1) (by omega) (fun h1_ hM1 hF1_ => ?_))
        refine z_iinc1 rfl rfl (by decide +kernel) rfl ?_
        rw [show z_cnt (z_cmB (v.2.1.2 3)) (v.2.1.1 0) - z_cnt (z_cmB (v.2.1.2 3)) (j + 1) + 1 = z_cnt (z_cmB (v.2.1.2 3)) (v.2.1.1 0) - z_cnt (z_cmB (v.2.1.2 3)) j by omega]
        refine z_iinc rfl rfl (by decide +kernel) rfl ?_
        refine z_goto rfl (ih _ _ _ (by omega) hM1 (hG.yes (by omega) h10 (by rw [cm]; rfl) rfl) (hF.trans (hF1.trans hF1_)))
      · have hB0 : z_cmB (v.2.1.2 3) j = false := by rw [cm, decide_eq_false e1]
        have c0 : z_cnt (z_cmB (v.2.1.2 3)) (j + 1) = z_cnt (z_cmB (v.2.1.2 3)) j := by rw [z_cnt_s, hB0]; rfl
        rw [c0]
        have st : ∀ (x : Int32) (h1 : z_H) (y : Value), x = z_dcH (v.2.1.2 3 j) → z_Mo h1 a (z_mF m 1 (upd g' (75 + j) x)) → z_Fr a 9 h h1 → z_W G 1 0 0 204 11 [.ref a, .int (nI (z_cnt (z_cmB (v.2.1.2 3)) (v.2.1.1 0) - z_cnt (z_cmB (v.2.1.2 3)) j)), .int (nI j + -1), y] [] h1 Q := fun x h1 y hx hM1 hF1 => ih y h1 _ (by omega) hM1 (hG.no (by omega) h10 hB0 hx) hF1
        refine z_iload_n rfl rfl ?_
        refine z_if_lt rfl (fun c12 => absurd c12 (by rw [Int32.not_lt]; exact nI_pos' (by omega))) (fun c12 => ?_)
        refine z_aload_n rfl rfl ?_
        refine z_get rfl hD.1 rfl ?_
        refine z_bipush (v := 75) rfl (by decide) ?_
        refine z_iload_n rfl rfl ?_
        refine z_iadd rfl ?_
        refine z_ildE rfl (hD.g) (nI_add 75 (j)) (show _ < 105 by omega) ?_
        refine z_iconst (v := 1) rfl (by decide) ?_
        rw [eh]
        refine z_icmp_ne rfl (fun c25 => ?_) (fun c25 => absurd c25 (fun q9 => e1 ((nI_eq (b := 1) (by omega) (by decide)).mp q9)))
        refine z_iconst (v := 0) rfl (by decide) ?_
        refine z_istore_n rfl (by decide +kernel) rfl ?_
        refine z_aload_n rfl rfl ?_
        refine z_get rfl hD.1 rfl ?_
        refine z_bipush (v := 75) rfl (by decide) ?_
        refine z_iload_n rfl rfl ?_
        refine z_iadd rfl ?_
        refine z_dup2 rfl rfl rfl ?_
        refine z_ildE rfl (hD.g) (nI_add 75 (j)) (show _ < 105 by omega) ?_
        refine z_aload_n rfl rfl ?_
        refine z_get rfl hD.1 rfl ?_
        refine z_bipush (v := 75) rfl (by decide) ?_
        refine z_iload_n rfl rfl ?_
        refine z_iadd rfl ?_
        refine z_ildE rfl (hD.g) (nI_add 75 (j)) (show _ < 105 by omega) ?_
        rw [eh]
        refine z_if_le rfl (fun c53 => ?_) (fun c53 => ?_)
        · refine z_iconst (v := 0) rfl (by decide) ?_
          refine z_isub rfl ?_
          refine z_istG rfl hD (nI_add 75 (j)) (show _ < 105 by omega) (fun h1 hC1 hF1 => ?_)
          refine z_iload_n rfl rfl ?_
          refine z_if_eq rfl (fun c64 => ?_) (fun c64 => absurd rfl c64)
          refine z_iinc rfl rfl (by decide +kernel) rfl ?_
          refine z_goto rfl (st _ _ _ ?_ hC1 (hF.trans hF1))
          rw [Int32.sub_zero, ek]; unfold z_dcH; rw [if_neg (Int32.not_lt.mpr c53)]
        · refine z_iconst (v := 1) rfl (by decide) ?_
          refine z_goto rfl ?_
          refine z_isub rfl ?_
          refine z_istG rfl hD (nI_add 75 (j)) (show _ < 105 by omega) (fun h1 hC1 hF1 => ?_)
          refine z_iload_n rfl rfl ?_
          refine z_if_eq rfl (fun c64 => ?_) (fun c64 => absurd rfl c64)
          refine z_iinc rfl rfl (by decide +kernel) rfl ?_
          refine z_goto rfl (st _ _ _ ?_ hC1 (hF.trans hF1))
          rw [ek]; unfold z_dcH; rw [if_pos (Int32.not_le.mp c53)]
  refine z_iconst (v := nI 0) rfl (by decide) ?_
  refine z_istore_n rfl (by decide +kernel) rfl ?_
  refine z_aload_n rfl rfl ?_
  refine z_get rfl hM.1 rfl ?_
  refine z_iconst (v := 1) rfl (by decide) ?_
  refine z_ildE rfl (hM.g) (k := 1) rfl (show _ < 105 by omega) ?_
  rw [hg.b0]
  refine z_iconst (v := 1) rfl (by decide) ?_
  refine z_isub rfl ?_
  rw [Int32.sub_eq_add_neg]
  refine z_istore_n rfl (by decide +kernel) rfl ?_
  have e9 := fun x => loop (v.2.1.1 0) x h g (Nat.le_refl _) hM ⟨fun _ _ _ => rfl, fun _ _ _ => rfl, fun b hb => by rw [if_neg (by omega)]; exact hg.2.2.2.2.2.1 3 b (by decide) (by decide) hb, by rw [Nat.sub_self]; exact hg.r0, fun b h1 h2 => absurd h1 (by omega), fun r hr => by rw [Nat.sub_self]; exact hg.2.2.2.2.2.2 r hr⟩ (z_Fr.refl _ _ _)
  simp only [Nat.sub_self] at e9
  exact e9 _
theorem z_ph_w {x : z_LV} (h : z_wC x) (i : Nat) (hi : i < x.1 0) : z_wC (z_phS x i) := by
  obtain ⟨a1, a2, a3, a4, a5⟩ := h
  have s1 := a1 1 (by decide)
  obtain ⟨⟨se, hse, ese⟩, ⟨k, hk, ek⟩, _⟩ := a4 i hi
  have ea : z_a x 1 (nI i) = nI k := by rw [z_aI (by omega) (by omega)]; exact ek
  unfold z_phS
  by_cases e0 : z_a x 1 (nI i) = 0
  · rw [if_pos e0]; exact ⟨a1, a2, a3, a4, a5⟩
  · rw [if_neg e0]
    obtain ⟨k', rfl⟩ : ∃ k', k = k' + 1 := ⟨k - 1, by
      have : k ≠ 0 := fun q => e0 (by rw [ea, q]; rfl)
      omega⟩
    have v1 : ∀ j q, (z_dnL x (nI i)).2 j q = if j = 1 ∧ q = i then nI k' else x.2 j q := fun j q => by
      refine (z_putV (x := x) (j := 1) (show i < x.1 1 by omega) (by omega) j q).trans ?_
      rw [ea, pk_m1]
    have ev : z_a (z_dnL x (nI i)) 0 (nI i) = nI se := by
      refine (z_aI (x := z_dnL x (nI i)) (j := 0) (show i < x.1 0 from hi) (show x.1 0 < 1000 by omega)).trans ?_
      rw [v1, if_neg (by omega)]; exact ese
    have v2 : ∀ j q (b : Nat), b < 2 → (z_goL (z_dnL x (nI i)) (nI i) (nI b)).2 j q = if j = 0 ∧ q = i then nI ((se + b) % 60) else (z_dnL x (nI i)).2 j q := fun j q b hb => by
      refine (z_putV (x := z_dnL x (nI i)) (j := 0) (show i < x.1 0 from hi) (show x.1 0 < 1000 by omega) j q).trans ?_
      rw [ev, nI_add]
      unfold z_m60
      rw [show nI (se + b) - nI (se + b) / 60 * 60 = nI ((se + b) % 60) from pk_rem (d := 60) (by omega) (by decide) (by decide)]
    have fin : ∀ b : Nat, b < 2 → z_wC (z_goL (z_dnL x (nI i)) (nI i) (nI b)) := fun b hb => by
      refine ⟨a1, a2, a3, fun q hq => ?_, fun q hq => ?_⟩
      · have hq2 : q < x.1 0 := hq
        rw [v2 0 q b hb, v2 1 q b hb, v2 2 q b hb, v1, v1, v1, if_neg (show ¬ ((1 : Nat) = 0 ∧ q = i) by omega), if_neg (show ¬ ((2 : Nat) = 0 ∧ q = i) by omega), if_neg (show ¬ ((2 : Nat) = 1 ∧ q = i) by omega), if_neg (show ¬ ((0 : Nat) = 1 ∧ q = i) by omega)]
        refine ⟨?_, ?_, (a4 q hq2).2.2⟩
        · split
          · exact ⟨_, Nat.mod_lt _ (by decide), rfl⟩
          · exact (a4 q hq2).1
        · split
          · exact ⟨k', by omega, rfl⟩
          · exact (a4 q hq2).2.1
      · rw [v2 4 q b hb, v1, if_neg (by omega), if_neg (by omega)]; exact a5 q hq
    by_cases e1 : z_a (z_dnL x (nI i)) 1 (nI i) = 0
    · rw [if_pos e1]; exact fin 0 (by decide)
    · rw [if_neg e1]; exact fin 1 (by decide)
theorem z_phs_w {x : z_LV} (h : z_wC x) : ∀ i, i ≤ x.1 0 → z_wC (z_fold z_phS x i) := by
  intro i
  induction i with
  | zero => exact fun _ => h
  | succ i ih =>
    intro hi
    exact z_ph_w (ih (by omega)) i (by rw [z_ph_1]; omega)
theorem z_wf.hr1 {v : z_HV} (h : z_wf v) : z_wf (z_hr1 v) := by
  have hC := z_phs_w h.C (v.1.1 0) (Nat.le_refl _)
  refine z_wf.mk hC ?_
  rw [z_ph_1]
  exact (z_bpI h.B _ (Nat.le_refl _)).wB
theorem z_wf.hrs {v : z_HV} (h : z_wf v) (n : Nat) : z_wf (z_hrs v n) := by
  induction n with
  | zero => exact h
  | succ n ih => exact ih.hr1
/-- one clock's hour -/
theorem z_gOk.ph {v : z_HV} {g : Nat → Int32} {i : Nat} {x y : Int32} (hg : z_gOk v g) (hw : z_wf v) (hi : i < v.1.1 0) (hx : x = g (18 + i) - (if 0 < g (18 + i) then 1 else 0)) (hy : y = (g (10 + i) + (if 0 < x then 1 else 0)) - (g (10 + i) + (if 0 < x then 1 else 0)) / 60 * 60) : z_gOk (z_phS v.1 i, v.2.1, v.2.2) (upd (upd g (18 + i) x) (10 + i) y) := by
  have h8 := hw.nc
  obtain ⟨k, hk, ek⟩ := hw.sp hi
  obtain ⟨s, hs, es⟩ := hw.se hi
  have e1 : g (18 + i) = nI k := (hg.cl hw.wz (j := 1) (by decide) hi).trans ek
  have e0 : g (10 + i) = nI s := (hg.cl hw.wz (j := 0) (by decide) hi).trans es
  rw [e1] at hx
  rw [e0] at hy
  by_cases c : k = 0
  · subst c
    have ex : x = nI 0 := hx
    have ey : y = nI s := by
      rw [hy, ex, show (if (0 : Int32) < nI 0 then (1 : Int32) else 0) = nI 0 from rfl, nI_add, Nat.add_zero, show nI s - nI s / 60 * 60 = nI (s % 60) from pk_rem (d := 60) (by omega) (by decide) (by decide), Nat.mod_eq_of_lt hs]
    have eg : upd (upd g (18 + i) x) (10 + i) y = g := by
      rw [ex, ← e1, z_updS, ey, ← e0, z_updS]
    have ep : z_phS v.1 i = v.1 := by unfold z_phS; rw [if_pos (by rw [ek]; rfl)]
    rw [eg, ep]
    exact hg
  · obtain ⟨k', rfl⟩ : ∃ k', k = k' + 1 := ⟨k - 1, by omega⟩
    rw [if_pos (z_pos0 (by omega) (by omega)), nI_pred] at hx
    have g1 := hg.putC hw.wz (j := 1) (x := x) (by decide) hi
    have g2 := g1.putC hw.wz (j := 0) (x := y) (by decide) hi
    refine (congrArg (fun w => z_gOk w _) ?_).mp g2
    have ea : z_a v.1 1 (nI i) + -1 = x := by rw [ek, pk_m1, hx]
    have eb : z_a (z_dnL v.1 (nI i)) 1 (nI i) = nI k' := by
      have : z_a (z_putL v.1 1 (nI i) (z_a v.1 1 (nI i) + -1)) 1 (nI i) = z_a v.1 1 (nI i) + -1 := z_aPut (by rw [hw.sc (by decide)]; exact hi) (by rw [hw.sc (by decide)]; omega)
      exact this.trans (ea.trans hx)
    have ec : z_a (z_dnL v.1 (nI i)) 0 (nI i) = nI s := es
    have ey : (if z_a (z_dnL v.1 (nI i)) 1 (nI i) = 0 then (0 : Int32) else 1) = if 0 < x then 1 else 0 := by
      rw [eb, hx]
      by_cases q : k' = 0
      · subst q; rfl
      · rw [if_neg (nI_ne0 (by omega) (by omega)), if_pos (z_pos0 (by omega) (by omega))]
    have ep : z_phS v.1 i = z_goL (z_dnL v.1 (nI i)) (nI i) (if z_a (z_dnL v.1 (nI i)) 1 (nI i) = 0 then 0 else 1) := if_neg (by rw [ek]; exact nI_ne0 (by omega) (by omega))
    rw [ep, ey]
    unfold z_goL z_m60
    rw [ec, ← hy]
    unfold z_dnL
    rw [ea]
theorem cM_hourGoes (hM : z_Mo h a (z_mF m 1 g)) (hg : z_gOk v g) (hw : z_wf v) (q : ∀ h' g', z_Mo h' a (z_mF m 1 g') → z_gOk (z_hr1 v) g' → z_Fr a 9 h h' → Q (.inl (some (.int (nI (z_bp v.2.1).2)))) h') : z_W G 2 0 0 205 0 (z_L0 205 [.ref a]) [] h Q := by
  have h8 := hw.nc
  have g1 := hg.cnt hw.wz (k := 0) (x := v.2.2 0 + 1) (by decide) (by decide) (by decide)
  have e2 : g 2 = v.2.2 0 := hg.2.1.1 0 (by decide)
  have loop : ∀ (k i : Nat) (hh : z_H) (g' : Nat → Int32), i + k = v.1.1 0 → z_Mo hh a (z_mF m 1 g') → z_gOk (z_fold z_phS v.1 i, (z_hr1 v).2.1, (z_hr1 v).2.2) g' → z_Fr a 9 h hh → z_W G 2 0 0 205 17 [.ref a, .int (nI (z_bp v.2.1).2), .int (nI i)] [] hh Q := by
    intro k
    induction k with
    | zero =>
      intro i hh g' hi hD hG hF
      obtain rfl : i = v.1.1 0 := hi
      have e0 : g' 0 = nI (v.1.1 0) := by rw [hG.c0, z_ph_1]
      refine z_iload_n rfl rfl ?_
      refine z_aload_n rfl rfl ?_
      refine z_get rfl hD.1 rfl ?_
      refine z_iconst (v := 0) rfl (by decide) ?_
      refine z_ildE rfl (hD.g) (k := 0) rfl (show _ < 105 by omega) ?_
      rw [e0]
      refine z_icmp_ge rfl (fun c24 => ?_) (fun c24 => absurd (Int32.le_refl _) c24)
      refine z_iload_n rfl rfl ?_
      refine z_iret rfl rfl ?_
      exact q _ _ hD hG hF
    | succ k ih =>
      intro i hh g' hi hD hG hF
      have e0 : g' 0 = nI (v.1.1 0) := by rw [hG.c0, z_ph_1]
      have w1 : z_wf (z_fold z_phS v.1 i, (z_hr1 v).2.1, (z_hr1 v).2.2) := by
        refine z_wf.mk (z_phs_w hw.C i (by omega)) ?_
        rw [z_ph_1]
        exact (z_bpI hw.B _ (Nat.le_refl _)).wB
      have hi2 : i < (z_fold z_phS v.1 i).1 0 := by rw [z_ph_1]; omega
      have st : ∀ (x y : Int32) (h1 : z_H), x = g' (18 + i) - (if 0 < g' (18 + i) then 1 else 0) → y = (g' (10 + i) + (if 0 < x then 1 else 0)) - (g' (10 + i) + (if 0 < x then 1 else 0)) / 60 * 60 → z_Mo h1 a (z_mF m 1 (upd (upd g' (18 + i) x) (10 + i) y)) → z_Fr a 9 h h1 → z_W G 2 0 0 205 17 [.ref a, .int (nI (z_bp v.2.1).2), .int (nI (i + 1))] [] h1 Q := fun x y h1 hx hy hM1 hF1 => ih (i + 1) h1 _ (by omega) hM1 (hG.ph w1 hi2 hx hy) hF1
      refine z_iload_n rfl rfl ?_
      refine z_aload_n rfl rfl ?_
      refine z_get rfl hD.1 rfl ?_
      refine z_iconst (v := 0) rfl (by decide) ?_
      refine z_ildE rfl (hD.g) (k := 0) rfl (show _ < 105 by omega) ?_
      rw [e0]
      refine z_icmp_ge rfl (fun c24 => absurd c24 (fun q9 => absurd ((nI_leI (by omega) (by omega)).mp q9) (by omega))) (fun c24 => ?_)
      refine z_aload_n rfl rfl ?_
      refine z_get rfl hD.1 rfl ?_
      refine z_bipush (v := 18) rfl (by decide) ?_
      refine z_iload_n rfl rfl ?_
      refine z_iadd rfl ?_
      refine z_dup2 rfl rfl rfl ?_
      refine z_ildE rfl (hD.g) (nI_add 18 (i)) (show _ < 105 by omega) ?_
      refine z_aload_n rfl rfl ?_
      refine z_get rfl hD.1 rfl ?_
      refine z_bipush (v := 18) rfl (by decide) ?_
      refine z_iload_n rfl rfl ?_
      refine z_iadd rfl ?_
      refine z_ildE rfl (hD.g) (nI_add 18 (i)) (show _ < 105 by omega) ?_
      refine z_if_le rfl (fun c46 => ?_) (fun c46 => ?_)
      · refine z_iconst (v := 0) rfl (by decide) ?_
        refine z_isub rfl ?_
        refine z_istG rfl hD (nI_add 18 (i)) (show _ < 105 by omega) (fun h1 hC1 hF1 => ?_)
        refine z_aload_n rfl rfl ?_
        refine z_get rfl hC1.1 rfl ?_
        refine z_bipush (v := 10) rfl (by decide) ?_
        refine z_iload_n rfl rfl ?_
        refine z_iadd rfl ?_
        refine z_aload_n rfl rfl ?_
        refine z_get rfl hC1.1 rfl ?_
        refine z_bipush (v := 10) rfl (by decide) ?_
        refine z_iload_n rfl rfl ?_
        refine z_iadd rfl ?_
        refine z_ildE rfl (hC1.g) (nI_add 10 (i)) (show _ < 105 by omega) ?_
        rw [z_updN _ _ (by omega)]
        refine z_aload_n rfl rfl ?_
        refine z_get rfl hC1.1 rfl ?_
        refine z_bipush (v := 18) rfl (by decide) ?_
        refine z_iload_n rfl rfl ?_
        refine z_iadd rfl ?_
        refine z_ildE rfl (hC1.g) (nI_add 18 (i)) (show _ < 105 by omega) ?_
        rw [z_updE (α := Nat)]
        refine z_if_le rfl (fun c82 => ?_) (fun c82 => ?_)
        · refine z_iconst (v := 0) rfl (by decide) ?_
          refine z_iadd rfl ?_
          refine z_bipush (v := 60) rfl (by decide) ?_
          refine z_irem rfl (by decide) ?_
          refine z_istG rfl hC1 (nI_add 10 (i)) (show _ < 105 by omega) (fun h2 hC2 hF2 => ?_)
          refine z_iinc1 rfl rfl (by decide +kernel) rfl ?_
          refine z_goto rfl (st _ _ _ ?_ ?_ hC2 (hF.trans (hF1.trans hF2)))
          · rw [if_neg (Int32.not_lt.mpr c46)]
          · rw [if_neg (Int32.not_lt.mpr c82)]
        · refine z_iconst (v := 1) rfl (by decide) ?_
          refine z_goto rfl ?_
          refine z_iadd rfl ?_
          refine z_bipush (v := 60) rfl (by decide) ?_
          refine z_irem rfl (by decide) ?_
          refine z_istG rfl hC1 (nI_add 10 (i)) (show _ < 105 by omega) (fun h2 hC2 hF2 => ?_)
          refine z_iinc1 rfl rfl (by decide +kernel) rfl ?_
          refine z_goto rfl (st _ _ _ ?_ ?_ hC2 (hF.trans (hF1.trans hF2)))
          · rw [if_neg (Int32.not_lt.mpr c46)]
          · rw [if_pos (Int32.not_le.mp c82)]
      · refine z_iconst (v := 1) rfl (by decide) ?_
        refine z_goto rfl ?_
        refine z_isub rfl ?_
        refine z_istG rfl hD (nI_add 18 (i)) (show _ < 105 by omega) (fun h1 hC1 hF1 => ?_)
        refine z_aload_n rfl rfl ?_
        refine z_get rfl hC1.1 rfl ?_
        refine z_bipush (v := 10) rfl (by decide) ?_
        refine z_iload_n rfl rfl ?_
        refine z_iadd rfl ?_
        refine z_aload_n rfl rfl ?_
        refine z_get rfl hC1.1 rfl ?_
        refine z_bipush (v := 10) rfl (by decide) ?_
        refine z_iload_n rfl rfl ?_
        refine z_iadd rfl ?_
        refine z_ildE rfl (hC1.g) (nI_add 10 (i)) (show _ < 105 by omega) ?_
        rw [z_updN _ _ (by omega)]
        refine z_aload_n rfl rfl ?_
        refine z_get rfl hC1.1 rfl ?_
        refine z_bipush (v := 18) rfl (by decide) ?_
        refine z_iload_n rfl rfl ?_
        refine z_iadd rfl ?_
        refine z_ildE rfl (hC1.g) (nI_add 18 (i)) (show _ < 105 by omega) ?_
        rw [z_updE (α := Nat)]
        refine z_if_le rfl (fun c82 => ?_) (fun c82 => ?_)
        · refine z_iconst (v := 0) rfl (by decide) ?_
          refine z_iadd rfl ?_
          refine z_bipush (v := 60) rfl (by decide) ?_
          refine z_irem rfl (by decide) ?_
          refine z_istG rfl hC1 (nI_add 10 (i)) (show _ < 105 by omega) (fun h2 hC2 hF2 => ?_)
          refine z_iinc1 rfl rfl (by decide +kernel) rfl ?_
          refine z_goto rfl (st _ _ _ ?_ ?_ hC2 (hF.trans (hF1.trans hF2)))
          · rw [if_pos (Int32.not_le.mp c46)]
          · rw [if_neg (Int32.not_lt.mpr c82)]
        · refine z_iconst (v := 1) rfl (by decide) ?_
          refine z_goto rfl ?_
          refine z_iadd rfl ?_
          refine z_bipush (v := 60) rfl (by decide) ?_
          refine z_irem rfl (by decide) ?_
          refine z_istG rfl hC1 (nI_add 10 (i)) (show _ < 105 by omega) (fun h2 hC2 hF2 => ?_)
          refine z_iinc1 rfl rfl (by decide +kernel) rfl ?_
          refine z_goto rfl (st _ _ _ ?_ ?_ hC2 (hF.trans (hF1.trans hF2)))
          · rw [if_pos (Int32.not_le.mp c46)]
          · rw [if_pos (Int32.not_le.mp c82)]
  refine z_aload_n rfl rfl ?_
  refine z_get rfl hM.1 rfl ?_
  refine z_iconst (v := 2) rfl (by decide) ?_
  refine z_dup2 rfl rfl rfl ?_
  refine z_ildE rfl (hM.g) (k := 2) rfl (show _ < 105 by omega) ?_
  rw [e2]
  refine z_iconst (v := 1) rfl (by decide) ?_
  refine z_iadd rfl ?_
  refine z_istG rfl hM (k := 2) rfl (show _ < 105 by omega) (fun h1 hC1 hF1 => ?_)
  refine z_aload_n rfl rfl ?_
  refine z_callV (av := []) rfl z_w204 hC1.1 rfl rfl rfl rfl rfl (Nat.le_of_ble_eq_true rfl) (Nat.le_of_ble_eq_true rfl) (Nat.le_of_ble_eq_true rfl) (Nat.le_of_ble_eq_true rfl) (cM_comeBack hC1 g1 hw.wz hw.B (fun h1_ g2 hM1 hg2 hF1_ => ?_))
  refine z_istore_n rfl (by decide +kernel) rfl ?_
  refine z_iconst (v := nI 0) rfl (by decide) ?_
  refine z_istore_n rfl (by decide +kernel) rfl ?_
  refine loop (v.1.1 0) 0 _ g2 (by omega) hM1 ?_ (hF1.trans hF1_)
  refine (congrArg (fun w => z_gOk w _) ?_).mp hg2
  rfl
theorem cM_hoursGo {n s t u : Int32} (hM : z_Mo h a (z_mF m 1 g)) (hg : z_gOk v g) (hw : z_wf v) (q : z_opQ v (9, n, s, t, u) h a (z_mF m 1 g) Q) : z_W G 3 0 0 206 0 (z_L0 206 [.ref a, .int n]) [] h Q := by
  cases e1 : z_inR n 1 24 with
  | false =>
    refine z_iload_n rfl rfl ?_
    refine z_iconst (v := 1) rfl (by decide) ?_
    refine z_bipush (v := 24) rfl (by decide) ?_
    refine z_callS (av := [_, _, _]) rfl z_w162 rfl rfl rfl rfl (Nat.le_of_ble_eq_true rfl) (Nat.le_of_ble_eq_true rfl) (Nat.le_of_ble_eq_true rfl) (Nat.le_of_ble_eq_true rfl) (cM_in ?_)
    rw [e1]
    refine z_if_ne rfl (fun c7 => absurd (by decide) c7) (fun c7 => ?_)
    refine z_aload_n rfl rfl ?_
    refine z_iconst (v := 3) rfl (by decide) ?_
    refine z_iload_n rfl rfl ?_
    refine z_callV (av := [_, _]) rfl z_w165 hM.1 rfl rfl rfl rfl rfl (Nat.le_of_ble_eq_true rfl) (Nat.le_of_ble_eq_true rfl) (Nat.le_of_ble_eq_true rfl) (Nat.le_of_ble_eq_true rfl) (cM_refused hM (fun h9 hM9 hF9 => ?_))
    refine z_iret rfl rfl ?_
    exact q.1 (3, n) (if_pos (z_inN e1)) _ hM9 ((z_Fr.refl _ _ _).trans hF9)
  | true =>
    obtain ⟨k, hk1, hk2, rfl⟩ := z_inE (lo := 1) (hi := 24) (by decide) (by decide) e1
    have q2 := q.2 (if_neg (z_inY e1))
    have ed : z_do v (9, nI k, s, t, u) = (z_hrs v k, (z_hrs v k).2.2 4 - v.2.2 4) := by
      show (z_hrs v (z_ix (nI k)), (z_hrs v (z_ix (nI k))).2.2 4 - v.2.2 4) = _
      rw [z_ix_nI (by omega)]
    rw [ed] at q2
    have loop : ∀ (r i : Nat) (hh : z_H) (g' : Nat → Int32), i + r = k → z_Mo hh a (z_mF m 1 g') → z_gOk (z_hrs v i) g' → z_Fr a 9 h hh → z_W G 3 0 0 206 21 [.ref a, .int (nI k), .int ((z_hrs v i).2.2 4 - v.2.2 4), .int (nI i)] [] hh Q := by
      intro r
      induction r with
      | zero =>
        intro i hh g' hi hD hG hF
        obtain rfl : i = k := hi
        refine z_iload_n rfl rfl ?_
        refine z_iload_n rfl rfl ?_
        refine z_icmp_ge rfl (fun c23 => ?_) (fun c23 => absurd (Int32.le_refl _) c23)
        refine z_aload_n rfl rfl ?_
        refine z_iload_n rfl rfl ?_
        refine z_callV (av := [_]) rfl z_w163 hD.1 rfl rfl rfl rfl rfl (Nat.le_of_ble_eq_true rfl) (Nat.le_of_ble_eq_true rfl) (Nat.le_of_ble_eq_true rfl) (Nat.le_of_ble_eq_true rfl) (cM_done hD (fun h9 hM9 hF9 => ?_))
        refine z_iret rfl rfl ?_
        exact q2 _ _ hM9 z_dnM.gg hG (hF.trans hF9)
      | succ r ih =>
        intro i hh g' hi hD hG hF
        refine z_iload_n rfl rfl ?_
        refine z_iload_n rfl rfl ?_
        refine z_icmp_ge rfl (fun c23 => absurd c23 (fun q9 => absurd ((nI_leI (by omega) (by omega)).mp q9) (by omega))) (fun c23 => ?_)
        refine z_iload_n rfl rfl ?_
        refine z_aload_n rfl rfl ?_
        refine z_callV (av := []) rfl z_w205 hD.1 rfl rfl rfl rfl rfl (Nat.le_of_ble_eq_true rfl) (Nat.le_of_ble_eq_true rfl) (Nat.le_of_ble_eq_true rfl) (Nat.le_of_ble_eq_true rfl) (cM_hourGoes hD hG (hw.hrs i) (fun h1_ g2 hM1 hg2 hF1_ => ?_))
        refine z_iadd rfl ?_
        refine z_istore_n rfl (by decide +kernel) rfl ?_
        refine z_iinc1 rfl rfl (by decide +kernel) rfl ?_
        refine z_goto rfl ?_
        have e9 := ih (i + 1) _ _ (by omega) hM1 hg2 (hF.trans hF1_)
        rw [show (z_hrs v (i + 1)).2.2 4 - v.2.2 4 = (z_hrs v i).2.2 4 - v.2.2 4 + nI (z_bp (z_hrs v i).2.1).2 from by show (z_hrs v i).2.2 4 + nI (z_bp (z_hrs v i).2.1).2 - v.2.2 4 = _; simp only [Int32.sub_eq_add_neg]; ac_rfl] at e9
        exact e9
    refine z_iload_n rfl rfl ?_
    refine z_iconst (v := 1) rfl (by decide) ?_
    refine z_bipush (v := 24) rfl (by decide) ?_
    refine z_callS (av := [_, _, _]) rfl z_w162 rfl rfl rfl rfl (Nat.le_of_ble_eq_true rfl) (Nat.le_of_ble_eq_true rfl) (Nat.le_of_ble_eq_true rfl) (Nat.le_of_ble_eq_true rfl) (cM_in ?_)
    rw [e1]
    refine z_if_ne rfl (fun c7 => ?_) (fun c7 => absurd c7 (by decide))
    refine z_iconst (v := 0) rfl (by decide) ?_
    refine z_istore_n rfl (by decide +kernel) rfl ?_
    refine z_iconst (v := nI 0) rfl (by decide) ?_
    refine z_istore_n rfl (by decide +kernel) rfl ?_
    have e9 := loop k 0 _ g (by omega) hM hg (z_Fr.refl _ _ _)
    rw [show (z_hrs v 0).2.2 4 - v.2.2 4 = 0 from Int32.sub_self _] at e9
    exact e9
end ZOpH
