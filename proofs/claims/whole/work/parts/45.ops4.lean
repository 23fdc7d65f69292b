/-! The row of the model: placeOf, leavesRow, goesAway; adjourns, tables. -/
theorem z_plcO (f : Nat → Int32) (n : Nat) (x : Int32) : z_plc f n x = z_oN1 (z_first (fun i => decide (f i = x)) n 0) := by
  unfold z_plc
  cases z_first (fun i => decide (f i = x)) n 0 <;> rfl
theorem z_upSF {x : z_LV} {j j' n : Nat} {f f' : Nat → Int32} (h : j ≠ j') : z_upF (z_upS x j n f) j' f' = z_upS (z_upF x j' f') j n f := by
  unfold z_upF z_upS
  refine Prod.ext rfl (funext fun i => ?_)
  show (if i = j' then f' else if i = j then f else x.2 i) = if i = j then f else if i = j' then f' else x.2 i
  by_cases e1 : i = j
  · rw [if_neg (by omega), if_pos e1, if_pos e1]
  · rw [if_neg e1, if_neg e1]
theorem z_rowOutE {y : z_LV} {b : Int32} (hn : y.1 5 ≤ 10) : (z_plc (y.2 5) (y.1 5) b = -1 ∧ z_rowOut y b = y) ∨ ∃ p, p < y.1 5 ∧ z_plc (y.2 5) (y.1 5) b = nI p ∧ y.2 5 p = b ∧ z_rowOut y b = z_upS y 5 (y.1 5 - 1) (z_remF (y.2 5) (y.1 5) p) := by
  unfold z_rowOut
  rcases z_plcR (y.2 5) (y.1 5) b with e | ⟨p, hp, e, ep⟩
  · exact Or.inl ⟨e, by rw [e, z_remN]⟩
  · exact Or.inr ⟨p, hp, e, ep, by rw [e, z_remI hp (by omega)]⟩
theorem z_rowOut_put {y : z_LV} {j : Nat} {b c x : Int32} (hj : j ≠ 5) : z_rowOut (z_putL y j c x) b = z_putL (z_rowOut y b) j c x := by
  have e1 : (z_putL y j c x).2 5 = y.2 5 := if_neg (Ne.symm hj)
  unfold z_rowOut z_remL
  show (if z_has (z_plc ((z_putL y j c x).2 5) (y.1 5) b) (y.1 5) = true then z_upS (z_putL y j c x) 5 (y.1 5 - 1) (z_remF ((z_putL y j c x).2 5) (y.1 5) (z_ix (z_plc ((z_putL y j c x).2 5) (y.1 5) b))) else z_putL y j c x) = _
  rw [e1]
  split
  · unfold z_putL
    show z_upS (z_upF y j (z_updV (y.2 j) (y.1 j) c x)) 5 _ _ = z_upF (z_upS y 5 _ _) j (z_updV (if j = 5 then _ else y.2 j) (if j = 5 then _ else y.1 j) c x)
    rw [if_neg hj, if_neg hj, z_upSF (Ne.symm hj)]
  · rfl
theorem z_rowOut_1 (y : z_LV) (b : Int32) {j : Nat} (hj : j ≠ 5) : (z_rowOut y b).1 j = y.1 j := by
  unfold z_rowOut z_remL
  split
  · exact if_neg hj
  · rfl
theorem z_rowOut_2 (y : z_LV) (b : Int32) {j : Nat} (hj : j ≠ 5) : (z_rowOut y b).2 j = y.2 j := by
  unfold z_rowOut z_remL
  split
  · exact if_neg hj
  · rfl
theorem z_rowOut_5 (y : z_LV) (b : Int32) : (z_rowOut y b).1 5 ≤ y.1 5 := by
  unfold z_rowOut z_remL
  split
  · exact Nat.sub_le _ _
  · exact Nat.le_refl _
theorem z_wz.rowOut {v : z_HV} (hw : z_wz v) (b : Int32) : z_wz (v.1, z_rowOut v.2.1 b, v.2.2) := by
  have e0 := z_rowOut_1 v.2.1 b (j := 0) (by decide)
  have e5 := z_rowOut_5 v.2.1 b
  have h5 := hw.nr
  refine ⟨⟨hw.1.1, hw.1.2.1, fun j hj => ?_, ?_⟩, hw.2.1, ?_⟩
  · show (z_rowOut v.2.1 b).1 j = (z_rowOut v.2.1 b).1 0
    rw [e0, z_rowOut_1 _ _ (by omega)]; exact hw.sb hj
  · show (z_rowOut v.2.1 b).1 5 ≤ (z_rowOut v.2.1 b).1 0
    omega
  · show (z_rowOut v.2.1 b).1 0 ≤ 10
    rw [e0]; exact hw.nb
theorem z_offE (y : z_LV) (b k : Int32) : z_off y b k = z_putL (z_putL (z_rowOut y b) 3 b k) 4 b (z_a y 4 b + 1) := by
  unfold z_off z_off1
  rw [z_rowOut_put (by decide), z_rowOut_put (by decide)]
  rfl
/-- the row's place p goes -/
theorem z_gOk.rowRem {v : z_HV} {g : Nat → Int32} {p : Nat} {x : Int32} (hg : z_gOk v g) (hw : z_wz v) (hp : p < v.2.1.1 5) (hx : x = nI (v.2.1.1 5 - 1)) : z_gOk (v.1, z_upS v.2.1 5 (v.2.1.1 5 - 1) (z_remF (v.2.1.2 5) (v.2.1.1 5) p), v.2.2) (upd (z_clF g 95 p 10) 9 x) := by
  obtain ⟨⟨a1, a2, a3⟩, ⟨a4, a5⟩, a6, a7, a8, a9, a10⟩ := hg
  have h8 := hw.nc
  have h10 := hw.nb
  have hnr := hw.nr
  have up : ∀ q, q ≠ 9 → q < 95 → upd (z_clF g 95 p 10) 9 x q = g q := fun q h1 h2 => by
    rw [z_updN _ _ h1, z_clF_out (by omega) (by omega)]
  refine ⟨⟨?_, ?_, ?_⟩, ⟨fun k hk => ?_, ?_⟩, fun j k hj hk => ?_, fun k hk => ?_, fun b hb => ?_, fun j b h0 hj hb => ?_, fun r hr => ?_⟩
  · exact (up 0 (by omega) (by omega)).trans a1
  · exact (up 1 (by omega) (by omega)).trans a2
  · rw [z_updE (α := Nat), hx]; rfl
  · have := z_ciB hk
    exact (up _ (by omega) (by omega)).trans (a4 k hk)
  · exact (up 5 (by omega) (by omega)).trans a5
  · have hk2 : k < v.1.1 0 := hk
    exact (up _ (by omega) (by omega)).trans (a6 j k hj hk2)
  · exact (up _ (by omega) (by omega)).trans (a7 k hk)
  · have hb2 : b < v.2.1.1 0 := hb
    exact (up _ (by omega) (by omega)).trans (a8 b hb2)
  · have hb2 : b < v.2.1.1 0 := hb
    refine (up _ (by omega) (by omega)).trans ((a9 j b h0 hj hb2).trans ?_)
    show _ = (if j = 5 then _ else v.2.1.2 j) b
    rw [if_neg (by omega)]
  · have hr2 : r < v.2.1.1 5 - 1 := hr
    show _ = z_remF (v.2.1.2 5) (v.2.1.1 5) p r
    rw [z_updN _ _ (by omega)]
    unfold z_remF
    by_cases e : p ≤ r
    · rw [z_clF_hi (by omega) (by omega), if_pos (by omega)]; exact a10 (r + 1) (by omega)
    · rw [z_clF_lo (by omega) (by omega), if_neg (by omega)]; exact a10 r (by omega)
theorem z_gOk.tbl {v : z_HV} {g : Nat → Int32} {c s n x y : Int32} (hg : z_gOk v g) (hw : z_wz v) (h10 : v.2.1.1 0 < 10) (hx : x = nI (v.2.1.1 0) + 1) (hy : y = nI (v.2.1.1 5) + 1) : z_gOk (v.1, z_tbl v.2.1 c s n, v.2.2) (upd (upd (upd (upd (upd (upd (upd (upd g (45 + v.2.1.1 0) (c + 1)) (55 + v.2.1.1 0) s) (65 + v.2.1.1 0) n) (75 + v.2.1.1 0) 0) (85 + v.2.1.1 0) 0) 1 x) (95 + v.2.1.1 5) (nI (v.2.1.1 0))) 9 y) := by
  obtain ⟨⟨a1, a2, a3⟩, ⟨a4, a5⟩, a6, a7, a8, a9, a10⟩ := hg
  have h8 := hw.nc
  have hnr := hw.nr
  have s1 := hw.sb (j := 1) (by decide)
  have s2 := hw.sb (j := 2) (by decide)
  have s3 := hw.sb (j := 3) (by decide)
  have s4 := hw.sb (j := 4) (by decide)
  have up : ∀ q, q ≠ 45 + v.2.1.1 0 → q ≠ 55 + v.2.1.1 0 → q ≠ 65 + v.2.1.1 0 → q ≠ 75 + v.2.1.1 0 → q ≠ 85 + v.2.1.1 0 → q ≠ 1 → q ≠ 95 + v.2.1.1 5 → q ≠ 9 → upd (upd (upd (upd (upd (upd (upd (upd g (45 + v.2.1.1 0) (c + 1)) (55 + v.2.1.1 0) s) (65 + v.2.1.1 0) n) (75 + v.2.1.1 0) 0) (85 + v.2.1.1 0) 0) 1 x) (95 + v.2.1.1 5) (nI (v.2.1.1 0))) 9 y q = g q := fun q q1 q2 q3 q4 q5 q6 q7 q8 => by
    rw [z_updN _ _ q8, z_updN _ _ q7, z_updN _ _ q6, z_updN _ _ q5, z_updN _ _ q4, z_updN _ _ q3, z_updN _ _ q2, z_updN _ _ q1]
  refine ⟨⟨?_, ?_, ?_⟩, ⟨fun k hk => ?_, ?_⟩, fun j i hj hi => ?_, fun k hk => ?_, fun b hb => ?_, fun j b h0 hj hb => ?_, fun r hr => ?_⟩
  · exact (up 0 (by omega) (by omega) (by omega) (by omega) (by omega) (by omega) (by omega) (by omega)).trans a1
  · rw [z_updN _ _ (by omega), z_updN _ _ (by omega), z_updE (α := Nat), hx, nI_1]; rfl
  · rw [z_updE (α := Nat), hy, nI_1]; rfl
  · have := z_ciB hk
    exact (up _ (by omega) (by omega) (by omega) (by omega) (by omega) (by omega) (by omega) (by omega)).trans (a4 k hk)
  · exact (up 5 (by omega) (by omega) (by omega) (by omega) (by omega) (by omega) (by omega) (by omega)).trans a5
  · have hi2 : i < v.1.1 0 := hi
    exact (up _ (by omega) (by omega) (by omega) (by omega) (by omega) (by omega) (by omega) (by omega)).trans (a6 j i hj hi2)
  · exact (up _ (by omega) (by omega) (by omega) (by omega) (by omega) (by omega) (by omega) (by omega)).trans (a7 k hk)
  · have hb2 : b < v.2.1.1 0 + 1 := hb
    by_cases e : b = v.2.1.1 0
    · subst e
      rw [z_updN _ _ (by omega), z_updN _ _ (by omega), z_updN _ _ (by omega), z_updN _ _ (by omega), z_updN _ _ (by omega), z_updN _ _ (by omega), z_updN _ _ (by omega), z_updE (α := Nat)]
      show c + 1 = upd (v.2.1.2 0) (v.2.1.1 0) c (v.2.1.1 0) + 1
      rw [z_updE (α := Nat)]
    · rw [up _ (by omega) (by omega) (by omega) (by omega) (by omega) (by omega) (by omega) (by omega), a8 b (by omega)]
      show _ = upd (v.2.1.2 0) (v.2.1.1 0) c b + 1
      rw [z_updN _ _ e]
  · have hb2 : b < v.2.1.1 0 + 1 := hb
    have cs : j = 1 ∨ j = 2 ∨ j = 3 ∨ j = 4 := by omega
    by_cases e : b = v.2.1.1 0
    · subst e
      rcases cs with rfl | rfl | rfl | rfl
      · rw [z_updN _ _ (by omega), z_updN _ _ (by omega), z_updN _ _ (by omega), z_updN _ _ (by omega), z_updN _ _ (by omega), z_updN _ _ (by omega), z_updE (α := Nat)]
        show _ = upd (v.2.1.2 1) (v.2.1.1 1) s (v.2.1.1 0)
        rw [s1, z_updE (α := Nat)]
      · rw [z_updN _ _ (by omega), z_updN _ _ (by omega), z_updN _ _ (by omega), z_updN _ _ (by omega), z_updN _ _ (by omega), z_updE (α := Nat)]
        show _ = upd (v.2.1.2 2) (v.2.1.1 2) n (v.2.1.1 0)
        rw [s2, z_updE (α := Nat)]
      · rw [z_updN _ _ (by omega), z_updN _ _ (by omega), z_updN _ _ (by omega), z_updN _ _ (by omega), z_updE (α := Nat)]
        show _ = upd (v.2.1.2 3) (v.2.1.1 3) 0 (v.2.1.1 0)
        rw [s3, z_updE (α := Nat)]
      · rw [z_updN _ _ (by omega), z_updN _ _ (by omega), z_updN _ _ (by omega), z_updE (α := Nat)]
        show _ = upd (v.2.1.2 4) (v.2.1.1 4) 0 (v.2.1.1 0)
        rw [s4, z_updE (α := Nat)]
    · rw [up _ (by omega) (by omega) (by omega) (by omega) (by omega) (by omega) (by omega) (by omega), a9 j b h0 hj (by omega)]
      rcases cs with rfl | rfl | rfl | rfl
      · show _ = upd (v.2.1.2 1) (v.2.1.1 1) s b
        rw [s1, z_updN _ _ e]
      · show _ = upd (v.2.1.2 2) (v.2.1.1 2) n b
        rw [s2, z_updN _ _ e]
      · show _ = upd (v.2.1.2 3) (v.2.1.1 3) 0 b
        rw [s3, z_updN _ _ e]
      · show _ = upd (v.2.1.2 4) (v.2.1.1 4) 0 b
        rw [s4, z_updN _ _ e]
  · have hr2 : r < v.2.1.1 5 + 1 := hr
    show _ = upd (v.2.1.2 5) (v.2.1.1 5) (nI (v.2.1.1 0)) r
    by_cases e : r = v.2.1.1 5
    · subst e
      rw [z_updN _ _ (by omega), z_updE (α := Nat), z_updE (α := Nat)]
    · rw [z_updN _ _ e, up _ (by omega) (by omega) (by omega) (by omega) (by omega) (by omega) (by omega) (by omega), a10 r (by omega)]
section ZOpD
variable {G : z_G} {h : z_H} {Q : z_O → z_H → Prop} {a : Nat} {m : z_MV} {v : z_HV} {g : Nat → Int32}
theorem cM_placeOf {b : Int32} (hM : z_Mo h a (z_mF m 1 g)) (hg : z_gOk v g) (hw : z_wz v) (q : Q (.inl (some (.int (z_plc (v.2.1.2 5) (v.2.1.1 5) b)))) h) : z_W G 0 0 0 187 0 (z_L0 187 [.ref a, .int b]) [] h Q := by
  have h10 := hw.nb
  have hnr := hw.nr
  have loop : ∀ (k i : Nat), i + k = v.2.1.1 5 → (∀ s : Int32, z_oN1 (z_first (fun i => decide (v.2.1.2 5 i = b)) k i) = s → s = z_plc (v.2.1.2 5) (v.2.1.1 5) b) → z_W G 0 0 0 187 2 [.ref a, .int b, .int (nI i)] [] h Q := by
    intro k
    induction k with
    | zero =>
      intro i hi hs
      obtain rfl : i = v.2.1.1 5 := by omega
      refine z_iload_n rfl rfl ?_
      refine z_aload_n rfl rfl ?_
      refine z_get rfl hM.1 rfl ?_
      refine z_bipush (v := 9) rfl (by decide) ?_
      refine z_ildE rfl (hM.g) (k := 9) rfl (show _ < 105 by omega) ?_
      rw [hg.r0]
      refine z_icmp_ge rfl (fun c10 => ?_) (fun c10 => absurd (Int32.le_refl _) c10)
      refine z_iload_n rfl rfl ?_
      refine z_aload_n rfl rfl ?_
      refine z_get rfl hM.1 rfl ?_
      refine z_bipush (v := 9) rfl (by decide) ?_
      refine z_ildE rfl (hM.g) (k := 9) rfl (show _ < 105 by omega) ?_
      rw [hg.r0]
      refine z_icmp_ne rfl (fun c40 => absurd rfl c40) (fun c40 => ?_)
      refine z_iconst (v := (-1)) rfl (by decide) ?_
      refine z_goto rfl ?_
      refine z_iret rfl rfl ?_
      rw [← hs _ rfl] at q; exact q
    | succ k ih =>
      intro i hi hs
      have e1 : g (95 + i) = v.2.1.2 5 i := hg.2.2.2.2.2.2 i (by omega)
      by_cases e : v.2.1.2 5 i = b
      · skip
        refine z_iload_n rfl rfl ?_
        refine z_aload_n rfl rfl ?_
        refine z_get rfl hM.1 rfl ?_
        refine z_bipush (v := 9) rfl (by decide) ?_
        refine z_ildE rfl (hM.g) (k := 9) rfl (show _ < 105 by omega) ?_
        rw [hg.r0]
        refine z_icmp_ge rfl (fun c10 => absurd c10 (fun q9 => absurd ((nI_leI (by omega) (by omega)).mp q9) (by omega))) (fun c10 => ?_)
        refine z_aload_n rfl rfl ?_
        refine z_get rfl hM.1 rfl ?_
        refine z_bipush (v := 95) rfl (by decide) ?_
        refine z_iload_n rfl rfl ?_
        refine z_iadd rfl ?_
        refine z_ildE rfl (hM.g) (nI_add 95 (i)) (show _ < 105 by omega) ?_
        rw [e1]
        refine z_iload_n rfl rfl ?_
        refine z_icmp_eq rfl (fun c23 => ?_) (fun c23 => absurd e c23)
        refine z_iload_n rfl rfl ?_
        refine z_aload_n rfl rfl ?_
        refine z_get rfl hM.1 rfl ?_
        refine z_bipush (v := 9) rfl (by decide) ?_
        refine z_ildE rfl (hM.g) (k := 9) rfl (show _ < 105 by omega) ?_
        rw [hg.r0]
        refine z_icmp_ne rfl (fun c40 => ?_) (fun c40 => absurd c40 (fun q9 => absurd ((nI_eq (by omega) (by omega)).mp q9) (by omega)))
        refine z_iload_n rfl rfl ?_
        refine z_iret rfl rfl ?_
        rw [← hs (nI i) (congrArg z_oN1 (z_first_hit (decide_eq_true e)))] at q; exact q
      · skip
        refine z_iload_n rfl rfl ?_
        refine z_aload_n rfl rfl ?_
        refine z_get rfl hM.1 rfl ?_
        refine z_bipush (v := 9) rfl (by decide) ?_
        refine z_ildE rfl (hM.g) (k := 9) rfl (show _ < 105 by omega) ?_
        rw [hg.r0]
        refine z_icmp_ge rfl (fun c10 => absurd c10 (fun q9 => absurd ((nI_leI (by omega) (by omega)).mp q9) (by omega))) (fun c10 => ?_)
        refine z_aload_n rfl rfl ?_
        refine z_get rfl hM.1 rfl ?_
        refine z_bipush (v := 95) rfl (by decide) ?_
        refine z_iload_n rfl rfl ?_
        refine z_iadd rfl ?_
        refine z_ildE rfl (hM.g) (nI_add 95 (i)) (show _ < 105 by omega) ?_
        rw [e1]
        refine z_iload_n rfl rfl ?_
        refine z_icmp_eq rfl (fun c23 => absurd c23 e) (fun c23 => ?_)
        refine z_iinc1 rfl rfl (by decide +kernel) rfl ?_
        refine z_goto rfl (ih (i + 1) (by omega) (fun s hs9 => hs s ?_))
        rw [← hs9]; exact congrArg z_oN1 (if_neg (fun e9 => e (of_decide_eq_true e9)))
  refine z_iconst (v := nI 0) rfl (by decide) ?_
  refine z_istore_n rfl (by decide +kernel) rfl ?_
  exact loop (v.2.1.1 5) 0 (by omega) (fun s hs => hs.symm.trans (z_plcO _ _ _).symm)
theorem z_predN {n : Nat} (h : 0 < n) : nI n - 1 = nI (n - 1) := by
  obtain ⟨k, rfl⟩ : ∃ k, n = k + 1 := ⟨n - 1, by omega⟩
  rw [nI_pred]; rfl
theorem z_nm1 {n : Nat} (hn : n < 1000) : ¬ nI n = -1 := fun e => by
  have := congrArg Int32.toInt e
  rw [nI_toInt (by omega)] at this
  simp at this
theorem cM_leavesRow {b : Int32} (hM : z_Mo h a (z_mF m 1 g)) (hg : z_gOk v g) (hw : z_wz v) (q : ∀ h' g', z_Mo h' a (z_mF m 1 g') → z_gOk (v.1, z_rowOut v.2.1 b, v.2.2) g' → z_Fr a 9 h h' → Q (.inl none) h') : z_W G 1 0 0 188 0 (z_L0 188 [.ref a, .int b]) [] h Q := by
  have h10 := hw.nb
  have hnr := hw.nr
  rcases z_rowOutE (y := v.2.1) (b := b) (by omega) with ⟨e, e2⟩ | ⟨p, hp, e, ep, e2⟩
  · skip
    refine z_aload_n rfl rfl ?_
    refine z_iload_n rfl rfl ?_
    refine z_callV (av := [_]) rfl z_w187 hM.1 rfl rfl rfl rfl rfl (Nat.le_of_ble_eq_true rfl) (Nat.le_of_ble_eq_true rfl) (Nat.le_of_ble_eq_true rfl) (Nat.le_of_ble_eq_true rfl) (cM_placeOf hM hg hw ?_)
    rw [e]
    refine z_istore_n rfl (by decide +kernel) rfl ?_
    refine z_iload_n rfl rfl ?_
    refine z_iconst (v := (-1)) rfl (by decide) ?_
    refine z_icmp_eq rfl (fun c8 => ?_) (fun c8 => absurd rfl c8)
    refine z_vret rfl rfl ?_
    exact q _ g hM (by rw [e2]; exact hg) (z_Fr.refl _ _ _)
  · skip
    refine z_aload_n rfl rfl ?_
    refine z_iload_n rfl rfl ?_
    refine z_callV (av := [_]) rfl z_w187 hM.1 rfl rfl rfl rfl rfl (Nat.le_of_ble_eq_true rfl) (Nat.le_of_ble_eq_true rfl) (Nat.le_of_ble_eq_true rfl) (Nat.le_of_ble_eq_true rfl) (cM_placeOf hM hg hw ?_)
    rw [e]
    refine z_istore_n rfl (by decide +kernel) rfl ?_
    refine z_iload_n rfl rfl ?_
    refine z_iconst (v := (-1)) rfl (by decide) ?_
    refine z_icmp_eq rfl (fun c8 => absurd c8 (z_nm1 (by omega))) (fun c8 => ?_)
    refine z_aload_n rfl rfl ?_
    refine z_bipush (v := 95) rfl (by decide) ?_
    refine z_iload_n rfl rfl ?_
    refine z_bipush (v := 10) rfl (by decide) ?_
    refine z_callV (av := [_, _, _]) rfl z_w178 hM.1 rfl rfl rfl rfl rfl (Nat.le_of_ble_eq_true rfl) (Nat.le_of_ble_eq_true rfl) (Nat.le_of_ble_eq_true rfl) (Nat.le_of_ble_eq_true rfl) (cG_closesUp (at0 := 95) (c := p) (n := 10) (by decide) (by omega) hM (fun h1_ hM1 hF1_ => ?_))
    refine z_aload_n rfl rfl ?_
    refine z_get rfl hM1.1 rfl ?_
    refine z_bipush (v := 9) rfl (by decide) ?_
    refine z_dup2 rfl rfl rfl ?_
    refine z_ildE rfl (hM1.g) (k := 9) rfl (show _ < 105 by omega) ?_
    rw [show z_clF g 95 p 10 9 = nI (v.2.1.1 5) from (z_clF_out (by omega) (by omega)).trans hg.r0]
    refine z_iconst (v := 1) rfl (by decide) ?_
    refine z_isub rfl ?_
    refine z_istG rfl hM1 (k := 9) rfl (show _ < 105 by omega) (fun h1 hC1 hF1 => ?_)
    refine z_vret rfl rfl ?_
    exact q _ _ hC1 (by rw [e2]; exact hg.rowRem hw hp (z_predN (by omega))) (hF1_.trans hF1)
theorem cM_goesAway {b : Nat} {k : Int32} (hM : z_Mo h a (z_mF m 1 g)) (hg : z_gOk v g) (hw : z_wz v) (hb : b < v.2.1.1 0) (q : ∀ h' g', z_Mo h' a (z_mF m 1 g') → z_gOk (v.1, z_off v.2.1 (nI b) k, v.2.2) g' → z_Fr a 9 h h' → Q (.inl none) h') : z_W G 2 0 0 193 0 (z_L0 193 [.ref a, .int (nI b), .int k]) [] h Q := by
  have h10 := hw.nb
  refine z_aload_n rfl rfl ?_
  refine z_iload_n rfl rfl ?_
  refine z_callV (av := [_]) rfl z_w188 hM.1 rfl rfl rfl rfl rfl (Nat.le_of_ble_eq_true rfl) (Nat.le_of_ble_eq_true rfl) (Nat.le_of_ble_eq_true rfl) (Nat.le_of_ble_eq_true rfl) (cM_leavesRow hM hg hw (fun h1_ g1 hM1 hg1 hF1_ => ?_))
  refine z_aload_n rfl rfl ?_
  refine z_get rfl hM1.1 rfl ?_
  refine z_bipush (v := 75) rfl (by decide) ?_
  refine z_iload_n rfl rfl ?_
  refine z_iadd rfl ?_
  refine z_iload_n rfl rfl ?_
  refine z_istG rfl hM1 (nI_add 75 (b)) (show _ < 105 by omega) (fun h1 hC1 hF1 => ?_)
  refine z_aload_n rfl rfl ?_
  refine z_get rfl hC1.1 rfl ?_
  refine z_bipush (v := 85) rfl (by decide) ?_
  refine z_iload_n rfl rfl ?_
  refine z_iadd rfl ?_
  refine z_dup2 rfl rfl rfl ?_
  refine z_ildE rfl (hC1.g) (nI_add 85 (b)) (show _ < 105 by omega) ?_
  refine z_iconst (v := 1) rfl (by decide) ?_
  refine z_iadd rfl ?_
  refine z_istG rfl hC1 (nI_add 85 (b)) (show _ < 105 by omega) (fun h2 hC2 hF2 => ?_)
  refine z_vret rfl rfl ?_
  refine q _ _ hC2 ?_ (hF1_.trans (hF1.trans hF2))
  have w1 := hw.rowOut (nI b)
  have e0 := z_rowOut_1 v.2.1 (nI b) (j := 0) (by decide)
  have hb1 : b < (z_rowOut v.2.1 (nI b)).1 0 := by rw [e0]; exact hb
  have g2 := hg1.putB w1 (j := 3) (x := k) (by decide) (by decide) hb1
  have g3 := g2.putB w1 (j := 4) (x := z_a v.2.1 4 (nI b) + 1) (by decide) (by decide) hb1
  have e8 : g1 (85 + b) = z_a v.2.1 4 (nI b) := by
    have e7 : g1 (85 + b) = z_a (z_rowOut v.2.1 (nI b)) 4 (nI b) := hg1.bl w1 (j := 4) (by decide) (by decide) hb1
    rw [e7]; unfold z_a; rw [z_rowOut_1 _ _ (by decide), z_rowOut_2 _ _ (by decide)]
  rw [z_offE]
  refine (congrArg (z_gOk _) ?_).mp g3
  show upd _ _ (z_a v.2.1 4 (nI b) + 1) = upd _ _ (upd g1 (75 + b) k (85 + b) + 1)
  rw [z_updN g1 _ (by omega), e8]
theorem cM_tables {c s n u : Int32} (hM : z_Mo h a (z_mF m 1 g)) (hg : z_gOk v g) (hw : z_wf v) (q : z_opQ v (5, c, s, n, u) h a (z_mF m 1 g) Q) : z_W G 2 0 0 190 0 (z_L0 190 [.ref a, .int c, .int s, .int n]) [] h Q := by
  have h8 := hw.nc
  have h10 := hw.nb
  have hnr := hw.nr
  cases e1 : z_has c (v.1.1 0) with
  | false =>
    refine z_aload_n rfl rfl ?_
    refine z_iload_n rfl rfl ?_
    refine z_callV (av := [_]) rfl z_w169 hM.1 rfl rfl rfl rfl rfl (Nat.le_of_ble_eq_true rfl) (Nat.le_of_ble_eq_true rfl) (Nat.le_of_ble_eq_true rfl) (Nat.le_of_ble_eq_true rfl) (cM_isClock hM hg hw.wz ?_)
    rw [e1]
    refine z_if_ne rfl (fun c5 => absurd (by decide) c5) (fun c5 => ?_)
    refine z_aload_n rfl rfl ?_
    refine z_iconst (v := 2) rfl (by decide) ?_
    refine z_iload_n rfl rfl ?_
    refine z_callV (av := [_, _]) rfl z_w165 hM.1 rfl rfl rfl rfl rfl (Nat.le_of_ble_eq_true rfl) (Nat.le_of_ble_eq_true rfl) (Nat.le_of_ble_eq_true rfl) (Nat.le_of_ble_eq_true rfl) (cM_refused hM (fun h9 hM9 hF9 => ?_))
    refine z_iret rfl rfl ?_
    exact q.1 (2, c) (if_pos e1) _ hM9 ((z_Fr.refl _ _ _).trans hF9)
  | true =>
    obtain ⟨j, hj, rfl⟩ := z_hasE (by omega) e1
    have n1 : ¬ z_has (nI j) (v.1.1 0) = false := by rw [e1]; exact Bool.noConfusion
    have es : g (18 + j) = z_a v.1 1 (nI j) := hg.cl hw.wz (j := 1) (by decide) hj
    have et : g (10 + j) = z_a v.1 0 (nI j) := hg.cl hw.wz (j := 0) (by decide) hj
    cases e2 : z_inR s 0 59 with
    | false =>
      refine z_aload_n rfl rfl ?_
      refine z_iload_n rfl rfl ?_
      refine z_callV (av := [_]) rfl z_w169 hM.1 rfl rfl rfl rfl rfl (Nat.le_of_ble_eq_true rfl) (Nat.le_of_ble_eq_true rfl) (Nat.le_of_ble_eq_true rfl) (Nat.le_of_ble_eq_true rfl) (cM_isClock hM hg hw.wz ?_)
      rw [e1]
      refine z_if_ne rfl (fun c5 => ?_) (fun c5 => absurd c5 (by decide))
      refine z_iload_n rfl rfl ?_
      refine z_callS (av := [_]) rfl z_w172 rfl rfl rfl rfl (Nat.le_of_ble_eq_true rfl) (Nat.le_of_ble_eq_true rfl) (Nat.le_of_ble_eq_true rfl) (Nat.le_of_ble_eq_true rfl) (cM_in0 ?_)
      rw [e2]
      refine z_if_eq rfl (fun c19 => ?_) (fun c19 => absurd rfl c19)
      refine z_aload_n rfl rfl ?_
      refine z_iconst (v := 3) rfl (by decide) ?_
      refine z_iload_n rfl rfl ?_
      refine z_callS (av := [_]) rfl z_w172 rfl rfl rfl rfl (Nat.le_of_ble_eq_true rfl) (Nat.le_of_ble_eq_true rfl) (Nat.le_of_ble_eq_true rfl) (Nat.le_of_ble_eq_true rfl) (cM_in0 ?_)
      rw [e2]
      refine z_if_eq rfl (fun c38 => ?_) (fun c38 => absurd rfl c38)
      refine z_iload_n rfl rfl ?_
      refine z_callV (av := [_, _]) rfl z_w165 hM.1 rfl rfl rfl rfl rfl (Nat.le_of_ble_eq_true rfl) (Nat.le_of_ble_eq_true rfl) (Nat.le_of_ble_eq_true rfl) (Nat.le_of_ble_eq_true rfl) (cM_refused hM (fun h9 hM9 hF9 => ?_))
      refine z_iret rfl rfl ?_
      exact q.1 (3, s) ((if_neg n1).trans (if_pos (z_inN e2))) _ hM9 ((z_Fr.refl _ _ _).trans hF9)
    | true =>
      cases e3 : z_inR n 1 9 with
      | false =>
        refine z_aload_n rfl rfl ?_
        refine z_iload_n rfl rfl ?_
        refine z_callV (av := [_]) rfl z_w169 hM.1 rfl rfl rfl rfl rfl (Nat.le_of_ble_eq_true rfl) (Nat.le_of_ble_eq_true rfl) (Nat.le_of_ble_eq_true rfl) (Nat.le_of_ble_eq_true rfl) (cM_isClock hM hg hw.wz ?_)
        rw [e1]
        refine z_if_ne rfl (fun c5 => ?_) (fun c5 => absurd c5 (by decide))
        refine z_iload_n rfl rfl ?_
        refine z_callS (av := [_]) rfl z_w172 rfl rfl rfl rfl (Nat.le_of_ble_eq_true rfl) (Nat.le_of_ble_eq_true rfl) (Nat.le_of_ble_eq_true rfl) (Nat.le_of_ble_eq_true rfl) (cM_in0 ?_)
        rw [e2]
        refine z_if_eq rfl (fun c19 => absurd c19 (by decide)) (fun c19 => ?_)
        refine z_iload_n rfl rfl ?_
        refine z_iconst (v := 1) rfl (by decide) ?_
        refine z_bipush (v := 9) rfl (by decide) ?_
        refine z_callS (av := [_, _, _]) rfl z_w162 rfl rfl rfl rfl (Nat.le_of_ble_eq_true rfl) (Nat.le_of_ble_eq_true rfl) (Nat.le_of_ble_eq_true rfl) (Nat.le_of_ble_eq_true rfl) (cM_in ?_)
        rw [e3]
        refine z_if_ne rfl (fun c29 => absurd (by decide) c29) (fun c29 => ?_)
        refine z_aload_n rfl rfl ?_
        refine z_iconst (v := 3) rfl (by decide) ?_
        refine z_iload_n rfl rfl ?_
        refine z_callS (av := [_]) rfl z_w172 rfl rfl rfl rfl (Nat.le_of_ble_eq_true rfl) (Nat.le_of_ble_eq_true rfl) (Nat.le_of_ble_eq_true rfl) (Nat.le_of_ble_eq_true rfl) (cM_in0 ?_)
        rw [e2]
        refine z_if_eq rfl (fun c38 => absurd c38 (by decide)) (fun c38 => ?_)
        refine z_iload_n rfl rfl ?_
        refine z_goto rfl ?_
        refine z_callV (av := [_, _]) rfl z_w165 hM.1 rfl rfl rfl rfl rfl (Nat.le_of_ble_eq_true rfl) (Nat.le_of_ble_eq_true rfl) (Nat.le_of_ble_eq_true rfl) (Nat.le_of_ble_eq_true rfl) (cM_refused hM (fun h9 hM9 hF9 => ?_))
        refine z_iret rfl rfl ?_
        exact q.1 (3, n) ((if_neg n1).trans ((if_neg (z_inY e2)).trans (if_pos (z_inN e3)))) _ hM9 ((z_Fr.refl _ _ _).trans hF9)
      | true =>
        by_cases e4 : z_a v.1 1 (nI j) = 0
        · skip
          refine z_aload_n rfl rfl ?_
          refine z_iload_n rfl rfl ?_
          refine z_callV (av := [_]) rfl z_w169 hM.1 rfl rfl rfl rfl rfl (Nat.le_of_ble_eq_true rfl) (Nat.le_of_ble_eq_true rfl) (Nat.le_of_ble_eq_true rfl) (Nat.le_of_ble_eq_true rfl) (cM_isClock hM hg hw.wz ?_)
          rw [e1]
          refine z_if_ne rfl (fun c5 => ?_) (fun c5 => absurd c5 (by decide))
          refine z_iload_n rfl rfl ?_
          refine z_callS (av := [_]) rfl z_w172 rfl rfl rfl rfl (Nat.le_of_ble_eq_true rfl) (Nat.le_of_ble_eq_true rfl) (Nat.le_of_ble_eq_true rfl) (Nat.le_of_ble_eq_true rfl) (cM_in0 ?_)
          rw [e2]
          refine z_if_eq rfl (fun c19 => absurd c19 (by decide)) (fun c19 => ?_)
          refine z_iload_n rfl rfl ?_
          refine z_iconst (v := 1) rfl (by decide) ?_
          refine z_bipush (v := 9) rfl (by decide) ?_
          refine z_callS (av := [_, _, _]) rfl z_w162 rfl rfl rfl rfl (Nat.le_of_ble_eq_true rfl) (Nat.le_of_ble_eq_true rfl) (Nat.le_of_ble_eq_true rfl) (Nat.le_of_ble_eq_true rfl) (cM_in ?_)
          rw [e3]
          refine z_if_ne rfl (fun c29 => ?_) (fun c29 => absurd c29 (by decide))
          refine z_aload_n rfl rfl ?_
          refine z_get rfl hM.1 rfl ?_
          refine z_bipush (v := 18) rfl (by decide) ?_
          refine z_iload_n rfl rfl ?_
          refine z_iadd rfl ?_
          refine z_ildE rfl (hM.g) (nI_add 18 (j)) (show _ < 105 by omega) ?_
          rw [es]
          refine z_if_ne rfl (fun c59 => absurd e4 c59) (fun c59 => ?_)
          refine z_aload_n rfl rfl ?_
          refine z_bipush (v := 7) rfl (by decide) ?_
          refine z_aload_n rfl rfl ?_
          refine z_get rfl hM.1 rfl ?_
          refine z_bipush (v := 10) rfl (by decide) ?_
          refine z_iload_n rfl rfl ?_
          refine z_iadd rfl ?_
          refine z_ildE rfl (hM.g) (nI_add 10 (j)) (show _ < 105 by omega) ?_
          rw [et]
          refine z_callV (av := [_, _]) rfl z_w165 hM.1 rfl rfl rfl rfl rfl (Nat.le_of_ble_eq_true rfl) (Nat.le_of_ble_eq_true rfl) (Nat.le_of_ble_eq_true rfl) (Nat.le_of_ble_eq_true rfl) (cM_refused hM (fun h9 hM9 hF9 => ?_))
          refine z_iret rfl rfl ?_
          exact q.1 (7, _) ((if_neg n1).trans ((if_neg (z_inY e2)).trans ((if_neg (z_inY e3)).trans (if_pos e4)))) _ hM9 ((z_Fr.refl _ _ _).trans hF9)
        · by_cases e5 : v.2.1.1 0 = 10
          · skip
            refine z_aload_n rfl rfl ?_
            refine z_iload_n rfl rfl ?_
            refine z_callV (av := [_]) rfl z_w169 hM.1 rfl rfl rfl rfl rfl (Nat.le_of_ble_eq_true rfl) (Nat.le_of_ble_eq_true rfl) (Nat.le_of_ble_eq_true rfl) (Nat.le_of_ble_eq_true rfl) (cM_isClock hM hg hw.wz ?_)
            rw [e1]
            refine z_if_ne rfl (fun c5 => ?_) (fun c5 => absurd c5 (by decide))
            refine z_iload_n rfl rfl ?_
            refine z_callS (av := [_]) rfl z_w172 rfl rfl rfl rfl (Nat.le_of_ble_eq_true rfl) (Nat.le_of_ble_eq_true rfl) (Nat.le_of_ble_eq_true rfl) (Nat.le_of_ble_eq_true rfl) (cM_in0 ?_)
            rw [e2]
            refine z_if_eq rfl (fun c19 => absurd c19 (by decide)) (fun c19 => ?_)
            refine z_iload_n rfl rfl ?_
            refine z_iconst (v := 1) rfl (by decide) ?_
            refine z_bipush (v := 9) rfl (by decide) ?_
            refine z_callS (av := [_, _, _]) rfl z_w162 rfl rfl rfl rfl (Nat.le_of_ble_eq_true rfl) (Nat.le_of_ble_eq_true rfl) (Nat.le_of_ble_eq_true rfl) (Nat.le_of_ble_eq_true rfl) (cM_in ?_)
            rw [e3]
            refine z_if_ne rfl (fun c29 => ?_) (fun c29 => absurd c29 (by decide))
            refine z_aload_n rfl rfl ?_
            refine z_get rfl hM.1 rfl ?_
            refine z_bipush (v := 18) rfl (by decide) ?_
            refine z_iload_n rfl rfl ?_
            refine z_iadd rfl ?_
            refine z_ildE rfl (hM.g) (nI_add 18 (j)) (show _ < 105 by omega) ?_
            rw [es]
            refine z_if_ne rfl (fun c59 => ?_) (fun c59 => absurd c59 e4)
            refine z_aload_n rfl rfl ?_
            refine z_get rfl hM.1 rfl ?_
            refine z_iconst (v := 1) rfl (by decide) ?_
            refine z_ildE rfl (hM.g) (k := 1) rfl (show _ < 105 by omega) ?_
            rw [hg.b0, e5]
            refine z_istore rfl (by decide +kernel) rfl ?_
            refine z_iload rfl rfl ?_
            refine z_bipush (v := 10) rfl (by decide) ?_
            refine z_icmp_ne rfl (fun c90 => absurd rfl c90) (fun c90 => ?_)
            refine z_aload_n rfl rfl ?_
            refine z_iconst (v := 1) rfl (by decide) ?_
            refine z_bipush (v := 10) rfl (by decide) ?_
            refine z_callV (av := [_, _]) rfl z_w165 hM.1 rfl rfl rfl rfl rfl (Nat.le_of_ble_eq_true rfl) (Nat.le_of_ble_eq_true rfl) (Nat.le_of_ble_eq_true rfl) (Nat.le_of_ble_eq_true rfl) (cM_refused hM (fun h9 hM9 hF9 => ?_))
            refine z_iret rfl rfl ?_
            exact q.1 (1, 10) ((if_neg n1).trans ((if_neg (z_inY e2)).trans ((if_neg (z_inY e3)).trans ((if_neg e4).trans (if_neg (by rw [e5]; decide)))))) _ hM9 ((z_Fr.refl _ _ _).trans hF9)
          · skip
            refine z_aload_n rfl rfl ?_
            refine z_iload_n rfl rfl ?_
            refine z_callV (av := [_]) rfl z_w169 hM.1 rfl rfl rfl rfl rfl (Nat.le_of_ble_eq_true rfl) (Nat.le_of_ble_eq_true rfl) (Nat.le_of_ble_eq_true rfl) (Nat.le_of_ble_eq_true rfl) (cM_isClock hM hg hw.wz ?_)
            rw [e1]
            refine z_if_ne rfl (fun c5 => ?_) (fun c5 => absurd c5 (by decide))
            refine z_iload_n rfl rfl ?_
            refine z_callS (av := [_]) rfl z_w172 rfl rfl rfl rfl (Nat.le_of_ble_eq_true rfl) (Nat.le_of_ble_eq_true rfl) (Nat.le_of_ble_eq_true rfl) (Nat.le_of_ble_eq_true rfl) (cM_in0 ?_)
            rw [e2]
            refine z_if_eq rfl (fun c19 => absurd c19 (by decide)) (fun c19 => ?_)
            refine z_iload_n rfl rfl ?_
            refine z_iconst (v := 1) rfl (by decide) ?_
            refine z_bipush (v := 9) rfl (by decide) ?_
            refine z_callS (av := [_, _, _]) rfl z_w162 rfl rfl rfl rfl (Nat.le_of_ble_eq_true rfl) (Nat.le_of_ble_eq_true rfl) (Nat.le_of_ble_eq_true rfl) (Nat.le_of_ble_eq_true rfl) (cM_in ?_)
            rw [e3]
            refine z_if_ne rfl (fun c29 => ?_) (fun c29 => absurd c29 (by decide))
            refine z_aload_n rfl rfl ?_
            refine z_get rfl hM.1 rfl ?_
            refine z_bipush (v := 18) rfl (by decide) ?_
            refine z_iload_n rfl rfl ?_
            refine z_iadd rfl ?_
            refine z_ildE rfl (hM.g) (nI_add 18 (j)) (show _ < 105 by omega) ?_
            rw [es]
            refine z_if_ne rfl (fun c59 => ?_) (fun c59 => absurd c59 e4)
            refine z_aload_n rfl rfl ?_
            refine z_get rfl hM.1 rfl ?_
            refine z_iconst (v := 1) rfl (by decide) ?_
            refine z_ildE rfl (hM.g) (k := 1) rfl (show _ < 105 by omega) ?_
            rw [hg.b0]
            refine z_istore rfl (by decide +kernel) rfl ?_
            refine z_iload rfl rfl ?_
            refine z_bipush (v := 10) rfl (by decide) ?_
            refine z_icmp_ne rfl (fun c90 => ?_) (fun c90 => absurd c90 (fun q9 => e5 ((nI_eq (b := 10) (by omega) (by decide)).mp q9)))
            refine z_aload_n rfl rfl ?_
            refine z_get rfl hM.1 rfl ?_
            refine z_bipush (v := 45) rfl (by decide) ?_
            refine z_iload rfl rfl ?_
            refine z_iadd rfl ?_
            refine z_iload_n rfl rfl ?_
            refine z_iconst (v := 1) rfl (by decide) ?_
            refine z_iadd rfl ?_
            refine z_istG rfl hM (nI_add 45 (v.2.1.1 0)) (show _ < 105 by omega) (fun h1 hC1 hF1 => ?_)
            refine z_aload_n rfl rfl ?_
            refine z_get rfl hC1.1 rfl ?_
            refine z_bipush (v := 55) rfl (by decide) ?_
            refine z_iload rfl rfl ?_
            refine z_iadd rfl ?_
            refine z_iload_n rfl rfl ?_
            refine z_istG rfl hC1 (nI_add 55 (v.2.1.1 0)) (show _ < 105 by omega) (fun h2 hC2 hF2 => ?_)
            refine z_aload_n rfl rfl ?_
            refine z_get rfl hC2.1 rfl ?_
            refine z_bipush (v := 65) rfl (by decide) ?_
            refine z_iload rfl rfl ?_
            refine z_iadd rfl ?_
            refine z_iload_n rfl rfl ?_
            refine z_istG rfl hC2 (nI_add 65 (v.2.1.1 0)) (show _ < 105 by omega) (fun h3 hC3 hF3 => ?_)
            refine z_aload_n rfl rfl ?_
            refine z_get rfl hC3.1 rfl ?_
            refine z_bipush (v := 75) rfl (by decide) ?_
            refine z_iload rfl rfl ?_
            refine z_iadd rfl ?_
            refine z_iconst (v := 0) rfl (by decide) ?_
            refine z_istG rfl hC3 (nI_add 75 (v.2.1.1 0)) (show _ < 105 by omega) (fun h4 hC4 hF4 => ?_)
            refine z_aload_n rfl rfl ?_
            refine z_get rfl hC4.1 rfl ?_
            refine z_bipush (v := 85) rfl (by decide) ?_
            refine z_iload rfl rfl ?_
            refine z_iadd rfl ?_
            refine z_iconst (v := 0) rfl (by decide) ?_
            refine z_istG rfl hC4 (nI_add 85 (v.2.1.1 0)) (show _ < 105 by omega) (fun h5 hC5 hF5 => ?_)
            refine z_aload_n rfl rfl ?_
            refine z_get rfl hC5.1 rfl ?_
            refine z_iconst (v := 1) rfl (by decide) ?_
            refine z_dup2 rfl rfl rfl ?_
            refine z_ildE rfl (hC5.g) (k := 1) rfl (show _ < 105 by omega) ?_
            rw [z_updN _ _ (by omega), z_updN _ _ (by omega), z_updN _ _ (by omega), z_updN _ _ (by omega), z_updN _ _ (by omega), hg.b0]
            refine z_iconst (v := 1) rfl (by decide) ?_
            refine z_iadd rfl ?_
            refine z_istG rfl hC5 (k := 1) rfl (show _ < 105 by omega) (fun h6 hC6 hF6 => ?_)
            refine z_aload_n rfl rfl ?_
            refine z_get rfl hC6.1 rfl ?_
            refine z_bipush (v := 95) rfl (by decide) ?_
            refine z_aload_n rfl rfl ?_
            refine z_get rfl hC6.1 rfl ?_
            refine z_bipush (v := 9) rfl (by decide) ?_
            refine z_ildE rfl (hC6.g) (k := 9) rfl (show _ < 105 by omega) ?_
            rw [z_updN _ _ (by omega), z_updN _ _ (by omega), z_updN _ _ (by omega), z_updN _ _ (by omega), z_updN _ _ (by omega), z_updN _ _ (by omega), hg.r0]
            refine z_iadd rfl ?_
            refine z_iload rfl rfl ?_
            refine z_istG rfl hC6 (nI_add 95 (v.2.1.1 5)) (show _ < 105 by omega) (fun h7 hC7 hF7 => ?_)
            refine z_aload_n rfl rfl ?_
            refine z_get rfl hC7.1 rfl ?_
            refine z_bipush (v := 9) rfl (by decide) ?_
            refine z_dup2 rfl rfl rfl ?_
            refine z_ildE rfl (hC7.g) (k := 9) rfl (show _ < 105 by omega) ?_
            rw [z_updN _ _ (by omega), z_updN _ _ (by omega), z_updN _ _ (by omega), z_updN _ _ (by omega), z_updN _ _ (by omega), z_updN _ _ (by omega), z_updN _ _ (by omega), hg.r0]
            refine z_iconst (v := 1) rfl (by decide) ?_
            refine z_iadd rfl ?_
            refine z_istG rfl hC7 (k := 9) rfl (show _ < 105 by omega) (fun h8 hC8 hF8 => ?_)
            refine z_aload_n rfl rfl ?_
            refine z_iload rfl rfl ?_
            refine z_callV (av := [_]) rfl z_w163 hC8.1 rfl rfl rfl rfl rfl (Nat.le_of_ble_eq_true rfl) (Nat.le_of_ble_eq_true rfl) (Nat.le_of_ble_eq_true rfl) (Nat.le_of_ble_eq_true rfl) (cM_done hC8 (fun h9 hM9 hF9 => ?_))
            refine z_iret rfl rfl ?_
            exact q.2 ((if_neg n1).trans ((if_neg (z_inY e2)).trans ((if_neg (z_inY e3)).trans ((if_neg e4).trans (if_pos ((nI_ltI (b := 10) (by omega) (by decide)).mpr (by omega))))))) _ _ hM9 z_dnM.gg (hg.tbl hw.wz (by omega) rfl rfl) ((((((((hF1.trans hF2).trans hF3).trans hF4).trans hF5).trans hF6).trans hF7).trans hF8).trans hF9)
end ZOpD
