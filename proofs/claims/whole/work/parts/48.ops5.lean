/-! adjourns, isDoneWith, drops. -/
theorem z_rowOut_c {y y' : z_LV} (b : Int32) (h1 : y'.1 5 = y.1 5) (h2 : y'.2 5 = y.2 5) : (z_rowOut y' b).1 5 = (z_rowOut y b).1 5 ∧ (z_rowOut y' b).2 5 = (z_rowOut y b).2 5 := by
  unfold z_rowOut z_remL
  rw [h1, h2]
  split
  · exact ⟨rfl, rfl⟩
  · exact ⟨h1, h2⟩
theorem z_rem5E {y : z_LV} {i : Nat} (hs : ∀ j, j < 5 → y.1 j = y.1 0) (hn : y.1 0 < 1000) (hi : i < y.1 0) : (∀ j, j < 5 → (z_rem5 y (nI i)).1 j = y.1 0 - 1) ∧ (z_rem5 y (nI i)).1 5 = y.1 5 ∧ (∀ j, j < 5 → (z_rem5 y (nI i)).2 j = z_remF (y.2 j) (y.1 0) i) ∧ (z_rem5 y (nI i)).2 5 = y.2 5 := by
  have s1 := hs 1 (by decide)
  have s2 := hs 2 (by decide)
  have s3 := hs 3 (by decide)
  have s4 := hs 4 (by decide)
  have e0 := z_remI (x := y) (j := 0) (i := i) hi (by omega)
  have e1 := z_remI (x := z_remL y 0 (nI i)) (j := 1) (i := i) (by rw [e0]; show i < y.1 1; omega) (by rw [e0]; show y.1 1 < 1000; omega)
  have e2 := z_remI (x := z_remL (z_remL y 0 (nI i)) 1 (nI i)) (j := 2) (i := i) (by rw [e1, e0]; show i < y.1 2; omega) (by rw [e1, e0]; show y.1 2 < 1000; omega)
  have e3 := z_remI (x := z_remL (z_remL (z_remL y 0 (nI i)) 1 (nI i)) 2 (nI i)) (j := 3) (i := i) (by rw [e2, e1, e0]; show i < y.1 3; omega) (by rw [e2, e1, e0]; show y.1 3 < 1000; omega)
  have e4 := z_remI (x := z_remL (z_remL (z_remL (z_remL y 0 (nI i)) 1 (nI i)) 2 (nI i)) 3 (nI i)) (j := 4) (i := i) (by rw [e3, e2, e1, e0]; show i < y.1 4; omega) (by rw [e3, e2, e1, e0]; show y.1 4 < 1000; omega)
  have c5 : ∀ j, j < 5 → j = 0 ∨ j = 1 ∨ j = 2 ∨ j = 3 ∨ j = 4 := fun j hj => by omega
  unfold z_rem5
  rw [e4, e3, e2, e1, e0]
  refine ⟨fun j hj => ?_, rfl, fun j hj => ?_, rfl⟩
  · rcases c5 j hj with rfl | rfl | rfl | rfl | rfl
    · rfl
    · show y.1 1 - 1 = _; rw [s1]
    · show y.1 2 - 1 = _; rw [s2]
    · show y.1 3 - 1 = _; rw [s3]
    · show y.1 4 - 1 = _; rw [s4]
  · rcases c5 j hj with rfl | rfl | rfl | rfl | rfl
    · rfl
    · show z_remF (y.2 1) (y.1 1) i = _; rw [s1]
    · show z_remF (y.2 2) (y.1 2) i = _; rw [s2]
    · show z_remF (y.2 3) (y.1 3) i = _; rw [s3]
    · show z_remF (y.2 4) (y.1 4) i = _; rw [s4]
theorem z_goneE {y : z_LV} {i : Nat} (hs : ∀ j, j < 5 → y.1 j = y.1 0) (hn : y.1 0 < 1000) (hi : i < y.1 0) : (∀ j, j < 5 → (z_gone1 y (nI i)).1 j = y.1 0 - 1) ∧ (z_gone1 y (nI i)).1 5 = (z_rowOut y (nI i)).1 5 ∧ (∀ j, j < 5 → (z_gone1 y (nI i)).2 j = z_remF (y.2 j) (y.1 0) i) ∧ (z_gone1 y (nI i)).2 5 = z_forF ((z_rowOut y (nI i)).2 5) ((z_rowOut y (nI i)).1 5) (nI i) := by
  obtain ⟨b1, b2, b3, b4⟩ := z_rem5E hs hn hi
  obtain ⟨r1, r2⟩ := z_rowOut_c (nI i) b2 b4
  refine ⟨fun j hj => ?_, ?_, fun j hj => ?_, ?_⟩
  · show (z_rowOut (z_rem5 y (nI i)) (nI i)).1 j = _
    rw [z_rowOut_1 _ _ (by omega), b1 j hj]
  · exact r1
  · show (if j = 5 then _ else (z_rowOut (z_rem5 y (nI i)) (nI i)).2 j) = _
    rw [if_neg (by omega), z_rowOut_2 _ _ (by omega), b3 j hj]
  · show z_forF ((z_rowOut (z_rem5 y (nI i)) (nI i)).2 5) ((z_rowOut (z_rem5 y (nI i)) (nI i)).1 5) (nI i) = _
    rw [r1, r2]
theorem z_wB.rowR {n i : Nat} {y : z_LV} (h : z_wB n y) (hi : i < y.1 0) : ∃ r, (z_rowOut y (nI i)).1 5 = r ∧ z_Rw (y.1 0) r (fun q => q ≠ i ∧ y.2 3 q = 0) ((z_rowOut y (nI i)).2 5) := by
  obtain ⟨a1, a2, a3, a4, a5⟩ := h
  rcases z_rowOutE (y := y) (b := nI i) (by omega) with ⟨e, e2⟩ | ⟨p, hp, e, ep, e2⟩
  · rw [e2]
    refine ⟨_, rfl, a5.eqv (fun b hb => ⟨fun q => q.2, fun q => ⟨fun q2 => ?_, q⟩⟩) (fun _ _ => rfl)⟩
    obtain ⟨p, hp, e3, _⟩ := z_plcIn a5 (by omega) hi (q2 ▸ q)
    rw [e] at e3
    exact z_nm1 (n := p) (by omega) e3.symm
  · rw [e2]
    refine ⟨_, rfl, ?_⟩
    have := a5.rem (by omega) hp hi ep
    exact this
theorem z_wB.gone {n i : Nat} {y : z_LV} (h : z_wB n y) (hi : i < y.1 0) : z_wB n (z_gone1 y (nI i)) := by
  obtain ⟨a1, a2, a3, a4, a5⟩ := h
  obtain ⟨b1, b2, b3, b4⟩ := z_goneE a1 (by omega) hi
  have rw5 := z_wB.rowR ⟨a1, a2, a3, a4, a5⟩ hi
  obtain ⟨r, er, hR⟩ := rw5
  have hR2 := hR.ren (by omega) hi (fun q => q.1 rfl)
  refine ⟨fun j hj => by rw [b1 j hj, b1 0 (by decide)], ?_, by rw [b1 0 (by decide)]; omega, fun b hb => ?_, ?_⟩
  · rw [b2, b1 0 (by decide), er]
    exact hR2.le (by omega)
  · rw [b1 0 (by decide)] at hb
    rw [b3 0 (by decide), b3 1 (by decide), b3 2 (by decide), b3 3 (by decide)]
    unfold z_remF
    by_cases e : i ≤ b ∧ b + 1 < y.1 0
    · rw [if_pos e, if_pos e, if_pos e, if_pos e]; exact a4 (b + 1) (by omega)
    · rw [if_neg e, if_neg e, if_neg e, if_neg e]; exact a4 b (by omega)
  · rw [b1 0 (by decide), b2, b3 3 (by decide), b4, er]
    refine hR2.eqv (fun b hb => ?_) (fun _ _ => rfl)
    unfold z_remF z_sk
    by_cases e : i ≤ b
    · rw [if_pos e, if_pos (by omega)]
      exact ⟨fun q => ⟨by omega, q⟩, fun q => q.2⟩
    · rw [if_neg e, if_neg (by omega)]
      exact ⟨fun q => ⟨by omega, q⟩, fun q => q.2⟩
theorem z_putV {x : z_LV} {j c : Nat} {y : Int32} (hc : c < x.1 j) (hn : x.1 j < 1000) (j' i : Nat) : (z_putL x j (nI c) y).2 j' i = if j' = j ∧ i = c then y else x.2 j' i := by
  rw [z_putLI hc hn]
  show (if j' = j then upd (x.2 j) c y else x.2 j') i = _
  by_cases e : j' = j
  · subst e
    rw [if_pos rfl]
    by_cases e2 : i = c
    · rw [e2, z_updE (α := Nat), if_pos ⟨rfl, rfl⟩]
    · rw [z_updN _ _ e2, if_neg (fun q => e2 q.2)]
  · rw [if_neg e, if_neg (fun q => e q.1)]
theorem z_wB.off {n i : Nat} {y : z_LV} {k : Int32} (h : z_wB n y) (hi : i < y.1 0) (hk : z_rng k 13) (hk0 : k ≠ 0) (h0 : y.2 3 i = 0) : z_wB n (z_off y (nI i) k) := by
  obtain ⟨a1, a2, a3, a4, a5⟩ := h
  obtain ⟨p, hp, e1, e2⟩ := z_plcIn a5 (by omega) hi h0
  have eR : z_rowOut y (nI i) = z_upS y 5 (y.1 5 - 1) (z_remF (y.2 5) (y.1 5) p) := by
    rcases z_rowOutE (y := y) (b := nI i) (by omega) with ⟨e, _⟩ | ⟨p', hp', e, ep, e2⟩
    · rw [e1] at e; exact absurd e (z_nm1 (by omega))
    · rw [e1] at e
      have : p = p' := (nI_eq (by omega) (by omega)).mp e
      rw [this]; exact e2
  rw [z_offE, eR]
  have s3 := a1 3 (by decide)
  have s4 := a1 4 (by decide)
  have val : ∀ j q, j < 4 → (z_putL (z_putL (z_upS y 5 (y.1 5 - 1) (z_remF (y.2 5) (y.1 5) p)) 3 (nI i) k) 4 (nI i) (z_a y 4 (nI i) + 1)).2 j q = if j = 3 ∧ q = i then k else y.2 j q := fun j q hj => by
    refine (z_putV (x := z_putL (z_upS y 5 (y.1 5 - 1) (z_remF (y.2 5) (y.1 5) p)) 3 (nI i) k) (j := 4) (show i < y.1 4 by omega) (show y.1 4 < 1000 by omega) j q).trans ?_
    rw [if_neg (by omega)]
    refine (z_putV (x := z_upS y 5 (y.1 5 - 1) (z_remF (y.2 5) (y.1 5) p)) (j := 3) (show i < y.1 3 by omega) (show y.1 3 < 1000 by omega) j q).trans ?_
    show (if j = 3 ∧ q = i then k else (if j = 5 then _ else y.2 j) q) = _
    rw [if_neg (show ¬ j = 5 by omega)]
  have v5 : (z_putL (z_putL (z_upS y 5 (y.1 5 - 1) (z_remF (y.2 5) (y.1 5) p)) 3 (nI i) k) 4 (nI i) (z_a y 4 (nI i) + 1)).2 5 = z_remF (y.2 5) (y.1 5) p := rfl
  refine ⟨fun j hj => ?_, ?_, a3, fun b hb => ?_, ?_⟩
  · show (if j = 5 then _ else y.1 j) = y.1 0
    rw [if_neg (by omega)]; exact a1 j hj
  · show y.1 5 - 1 ≤ y.1 0
    omega
  · have hb2 : b < y.1 0 := hb
    rw [val 0 b (by decide), val 1 b (by decide), val 2 b (by decide), val 3 b (by decide), if_neg (by omega), if_neg (by omega), if_neg (by omega)]
    refine ⟨(a4 b hb2).1, (a4 b hb2).2.1, (a4 b hb2).2.2.1, ?_⟩
    split
    · exact hk
    · exact (a4 b hb2).2.2.2
  · rw [v5]
    show z_Rw (y.1 0) (y.1 5 - 1) _ _
    refine (a5.rem (by omega) hp hi e2).eqv (fun b hb => ?_) (fun _ _ => rfl)
    rw [val 3 b (by decide)]
    by_cases e : b = i
    · rw [if_pos ⟨rfl, e⟩]
      exact ⟨fun q => absurd q hk0, fun q => absurd e q.1⟩
    · rw [if_neg (fun q => e q.2)]
      exact ⟨fun q => ⟨e, q⟩, fun q => q.2⟩
def z_dec (c x : Int32) : Int32 := x - (if c < x then 1 else 0)
def z_dcG (g : Nat → Int32) (n : Nat) (c : Int32) : Nat → Int32 := fun q => if 95 ≤ q ∧ q < 95 + n then z_dec c (g q) else g q
theorem z_dcG_out {g : Nat → Int32} {n q : Nat} {c : Int32} (h : q < 95 ∨ 95 + n ≤ q) : z_dcG g n c q = g q := if_neg (by omega)
theorem z_dcG_in {g : Nat → Int32} {n q : Nat} {c : Int32} (h : q < n) : z_dcG g n c (95 + q) = z_dec c (g (95 + q)) := if_pos (by omega)
theorem z_dcG_st {g g' : Nat → Int32} {b : Nat} {c x : Int32} (hG : ∀ q, g' q = z_dcG g b c q) (hx : x = z_dec c (g' (95 + b))) (q : Nat) : upd g' (95 + b) x q = z_dcG g (b + 1) c q := by
  unfold upd
  by_cases e : q = 95 + b
  · rw [if_pos e, e, z_dcG_in (by omega), hx, hG, z_dcG_out (by omega)]
  · rw [if_neg e, hG]
    by_cases e2 : 95 ≤ q ∧ q < 95 + b
    · unfold z_dcG; rw [if_pos e2, if_pos (by omega)]
    · rw [z_dcG_out (n := b) (by omega), z_dcG_out (n := b + 1) (by omega)]
def z_gnG (g : Nat → Int32) (n i : Nat) : Nat → Int32 := z_clF (z_clF (z_clF (z_clF (z_clF (z_dcG g n (nI i)) 45 i 10) 55 i 10) 65 i 10) 75 i 10) 85 i 10
theorem z_gnG_out {g : Nat → Int32} {n i q : Nat} (hi : i < 10) (h : q < 45 ∨ 95 ≤ q) : z_gnG g n i q = z_dcG g n (nI i) q := by
  unfold z_gnG
  rw [z_clF_out hi (by omega), z_clF_out hi (by omega), z_clF_out hi (by omega), z_clF_out hi (by omega), z_clF_out hi (by omega)]
theorem z_gnG_bl {g : Nat → Int32} {n i j k : Nat} (hi : i < 10) (hj : j < 5) (hk : k < 9) : z_gnG g n i (45 + 10 * j + k) = if i ≤ k then g (45 + 10 * j + k + 1) else g (45 + 10 * j + k) := by
  have c5 : j = 0 ∨ j = 1 ∨ j = 2 ∨ j = 3 ∨ j = 4 := by omega
  unfold z_gnG
  by_cases e : i ≤ k
  · rw [if_pos e]
    rcases c5 with rfl | rfl | rfl | rfl | rfl
    · rw [z_clF_out hi (by omega), z_clF_out hi (by omega), z_clF_out hi (by omega), z_clF_out hi (by omega), z_clF_hi (by omega) (by omega), z_dcG_out (by omega)]
    · rw [z_clF_out hi (by omega), z_clF_out hi (by omega), z_clF_out hi (by omega), z_clF_hi (by omega) (by omega), z_clF_out hi (by omega), z_dcG_out (by omega)]
    · rw [z_clF_out hi (by omega), z_clF_out hi (by omega), z_clF_hi (by omega) (by omega), z_clF_out hi (by omega), z_clF_out hi (by omega), z_dcG_out (by omega)]
    · rw [z_clF_out hi (by omega), z_clF_hi (by omega) (by omega), z_clF_out hi (by omega), z_clF_out hi (by omega), z_clF_out hi (by omega), z_dcG_out (by omega)]
    · rw [z_clF_hi (by omega) (by omega), z_clF_out hi (by omega), z_clF_out hi (by omega), z_clF_out hi (by omega), z_clF_out hi (by omega), z_dcG_out (by omega)]
  · rw [if_neg e]
    rcases c5 with rfl | rfl | rfl | rfl | rfl
    · rw [z_clF_out hi (by omega), z_clF_out hi (by omega), z_clF_out hi (by omega), z_clF_out hi (by omega), z_clF_lo hi (by omega), z_dcG_out (by omega)]
    · rw [z_clF_out hi (by omega), z_clF_out hi (by omega), z_clF_out hi (by omega), z_clF_lo hi (by omega), z_clF_out hi (by omega), z_dcG_out (by omega)]
    · rw [z_clF_out hi (by omega), z_clF_out hi (by omega), z_clF_lo hi (by omega), z_clF_out hi (by omega), z_clF_out hi (by omega), z_dcG_out (by omega)]
    · rw [z_clF_out hi (by omega), z_clF_lo hi (by omega), z_clF_out hi (by omega), z_clF_out hi (by omega), z_clF_out hi (by omega), z_dcG_out (by omega)]
    · rw [z_clF_lo hi (by omega), z_clF_out hi (by omega), z_clF_out hi (by omega), z_clF_out hi (by omega), z_clF_out hi (by omega), z_dcG_out (by omega)]
theorem z_gOk.gone {v : z_HV} {g : Nat → Int32} {i n : Nat} {x : Int32} (hg : z_gOk (v.1, z_rowOut v.2.1 (nI i), v.2.2) g) (hw : z_wz v) (hB : z_wB n v.2.1) (hi : i < v.2.1.1 0) (hx : x = nI (v.2.1.1 0 - 1)) : z_gOk (v.1, z_gone1 v.2.1 (nI i), v.2.2) (upd (z_gnG g ((z_rowOut v.2.1 (nI i)).1 5) i) 1 x) := by
  obtain ⟨⟨a1, a2, a3⟩, ⟨a4, a5⟩, a6, a7, a8, a9, a10⟩ := hg
  have h8 := hw.nc
  have h10 := hw.nb
  have hnr := hw.nr
  have lt : i < 10 := by omega
  have r0 := z_rowOut_1 v.2.1 (nI i) (j := 0) (by decide)
  have r5 := z_rowOut_5 v.2.1 (nI i)
  obtain ⟨b1, b2, b3, b4⟩ := z_goneE hB.1 (by omega) hi
  obtain ⟨r, er, hR⟩ := hB.rowR hi
  have up : ∀ q, q ≠ 1 → q < 45 → upd (z_gnG g ((z_rowOut v.2.1 (nI i)).1 5) i) 1 x q = g q := fun q h1 h2 => by
    rw [z_updN _ _ h1, z_gnG_out lt (by omega), z_dcG_out (by omega)]
  refine ⟨⟨?_, ?_, ?_⟩, ⟨fun k hk => ?_, ?_⟩, fun j k hj hk => ?_, fun k hk => ?_, fun b hb => ?_, fun j b h0 hj hb => ?_, fun q hq => ?_⟩
  · exact (up 0 (by omega) (by omega)).trans a1
  · rw [z_updE (α := Nat), hx]
    show _ = nI ((z_gone1 v.2.1 (nI i)).1 0)
    rw [b1 0 (by decide)]
  · rw [up 9 (by omega) (by omega), a3]
    show _ = nI ((z_gone1 v.2.1 (nI i)).1 5)
    rw [b2]
  · have := z_ciB hk
    exact (up _ (by omega) (by omega)).trans (a4 k hk)
  · exact (up 5 (by omega) (by omega)).trans a5
  · have hk2 : k < v.1.1 0 := hk
    exact (up _ (by omega) (by omega)).trans (a6 j k hj hk2)
  · exact (up _ (by omega) (by omega)).trans (a7 k hk)
  · have hb2 : b < (z_gone1 v.2.1 (nI i)).1 0 := hb
    rw [b1 0 (by decide)] at hb2
    have e := z_gnG_bl (g := g) (n := (z_rowOut v.2.1 (nI i)).1 5) (j := 0) (k := b) lt (by decide) (by omega)
    rw [z_updN _ _ (by omega)]
    refine e.trans ?_
    show _ = (z_gone1 v.2.1 (nI i)).2 0 b + 1
    rw [b3 0 (by decide), ← z_rowOut_2 v.2.1 (nI i) (j := 0) (by decide)]
    unfold z_remF
    by_cases e : i ≤ b
    · rw [if_pos e, if_pos (by omega)]
      exact a8 (b + 1) (by show b + 1 < (z_rowOut v.2.1 (nI i)).1 0; omega)
    · rw [if_neg e, if_neg (by omega)]
      exact a8 b (by show b < (z_rowOut v.2.1 (nI i)).1 0; omega)
  · have hb2 : b < (z_gone1 v.2.1 (nI i)).1 0 := hb
    rw [b1 0 (by decide)] at hb2
    rw [z_updN _ _ (by omega), z_gnG_bl lt (by omega) (by omega)]
    show _ = (z_gone1 v.2.1 (nI i)).2 j b
    rw [b3 j hj, ← z_rowOut_2 v.2.1 (nI i) (j := j) (by omega)]
    unfold z_remF
    by_cases e : i ≤ b
    · rw [if_pos e, if_pos (by omega)]
      exact a9 j (b + 1) h0 hj (by show b + 1 < (z_rowOut v.2.1 (nI i)).1 0; omega)
    · rw [if_neg e, if_neg (by omega)]
      exact a9 j b h0 hj (by show b < (z_rowOut v.2.1 (nI i)).1 0; omega)
  · have hq2 : q < (z_gone1 v.2.1 (nI i)).1 5 := hq
    rw [b2] at hq2
    rw [z_updN _ _ (by omega), z_gnG_out lt (by omega), z_dcG_in hq2, a10 q hq2]
    show _ = (z_gone1 v.2.1 (nI i)).2 5 q
    rw [b4]
    unfold z_forF
    rw [if_pos hq2]
    obtain ⟨c, hc, e1, e2, _⟩ := hR.1 q (by omega)
    show z_dec (nI i) ((z_rowOut v.2.1 (nI i)).2 5 q) = _
    rw [e1, z_forN (by omega) (by omega) e2]
    unfold z_dec
    by_cases e : i < c
    · rw [if_pos ((nI_ltI (by omega) (by omega)).mpr e), if_pos e, z_predN (by omega)]
    · rw [if_neg (fun q9 => e ((nI_ltI (by omega) (by omega)).mp q9)), if_neg e, Int32.sub_zero]
section ZOpE
variable {G : z_G} {h : z_H} {Q : z_O → z_H → Prop} {a : Nat} {m : z_MV} {v : z_HV} {g : Nat → Int32}
theorem cM_awayOnes (hM : z_Mo h a (z_mF m 1 g)) (hg : z_gOk v g) (hw : z_wf v) (q : Q (.inl (some (.int (z_adjN v.2.1)))) h) : z_W G 0 0 0 192 0 (z_L0 192 [.ref a]) [] h Q := by
  rw [hw.adjN] at q
  refine z_aload_n rfl rfl ?_
  refine z_get rfl hM.1 rfl ?_
  refine z_iconst (v := 1) rfl (by decide) ?_
  refine z_ildE rfl (hM.g) (k := 1) rfl (show _ < 105 by omega) ?_
  rw [hg.b0]
  refine z_aload_n rfl rfl ?_
  refine z_get rfl hM.1 rfl ?_
  refine z_bipush (v := 9) rfl (by decide) ?_
  refine z_ildE rfl (hM.g) (k := 9) rfl (show _ < 105 by omega) ?_
  rw [hg.r0]
  refine z_isub rfl ?_
  refine z_iret rfl rfl ?_
  exact q
theorem z_hoE {n i : Nat} {v : z_HV} (hw : z_wf v) (hi : i < v.2.1.1 0) : ∃ k, k < 13 ∧ z_a v.2.1 3 (nI i) = nI k ∧ v.2.1.2 3 i = nI k := by
  obtain ⟨k, hk, e⟩ := (hw.2.2.2.2.2.1 i hi).2.2.2
  have := hw.nb
  have s3 := hw.sb (j := 3) (by decide)
  exact ⟨k, hk, by rw [z_aI (by omega) (by omega)]; exact e, e⟩
theorem cM_adjourns {b k t u : Int32} (hM : z_Mo h a (z_mF m 1 g)) (hg : z_gOk v g) (hw : z_wf v) (q : z_opQ v (6, b, k, t, u) h a (z_mF m 1 g) Q) : z_W G 3 0 0 194 0 (z_L0 194 [.ref a, .int b, .int k]) [] h Q := by
  have h10 := hw.nb
  cases e1 : z_has b (v.2.1.1 0) with
  | false =>
    refine z_aload_n rfl rfl ?_
    refine z_iload_n rfl rfl ?_
    refine z_callV (av := [_]) rfl z_w170 hM.1 rfl rfl rfl rfl rfl (Nat.le_of_ble_eq_true rfl) (Nat.le_of_ble_eq_true rfl) (Nat.le_of_ble_eq_true rfl) (Nat.le_of_ble_eq_true rfl) (cM_isBill hM hg hw.wz ?_)
    rw [e1]
    refine z_if_ne rfl (fun c5 => absurd (by decide) c5) (fun c5 => ?_)
    refine z_aload_n rfl rfl ?_
    refine z_iconst (v := 2) rfl (by decide) ?_
    refine z_iload_n rfl rfl ?_
    refine z_callV (av := [_, _]) rfl z_w165 hM.1 rfl rfl rfl rfl rfl (Nat.le_of_ble_eq_true rfl) (Nat.le_of_ble_eq_true rfl) (Nat.le_of_ble_eq_true rfl) (Nat.le_of_ble_eq_true rfl) (cM_refused hM (fun h9 hM9 hF9 => ?_))
    refine z_iret rfl rfl ?_
    exact q.1 (2, b) (if_pos e1) _ hM9 ((z_Fr.refl _ _ _).trans hF9)
  | true =>
    obtain ⟨i, hi, rfl⟩ := z_hasE (by omega) e1
    have n1 : ¬ z_has (nI i) (v.2.1.1 0) = false := by rw [e1]; exact Bool.noConfusion
    have eh : g (75 + i) = z_a v.2.1 3 (nI i) := hg.bl hw.wz (j := 3) (by decide) (by decide) hi
    cases e2 : z_inR k 1 12 with
    | false =>
      refine z_aload_n rfl rfl ?_
      refine z_iload_n rfl rfl ?_
      refine z_callV (av := [_]) rfl z_w170 hM.1 rfl rfl rfl rfl rfl (Nat.le_of_ble_eq_true rfl) (Nat.le_of_ble_eq_true rfl) (Nat.le_of_ble_eq_true rfl) (Nat.le_of_ble_eq_true rfl) (cM_isBill hM hg hw.wz ?_)
      rw [e1]
      refine z_if_ne rfl (fun c5 => ?_) (fun c5 => absurd c5 (by decide))
      refine z_iload_n rfl rfl ?_
      refine z_iconst (v := 1) rfl (by decide) ?_
      refine z_bipush (v := 12) rfl (by decide) ?_
      refine z_callS (av := [_, _, _]) rfl z_w162 rfl rfl rfl rfl (Nat.le_of_ble_eq_true rfl) (Nat.le_of_ble_eq_true rfl) (Nat.le_of_ble_eq_true rfl) (Nat.le_of_ble_eq_true rfl) (cM_in ?_)
      rw [e2]
      refine z_if_ne rfl (fun c22 => absurd (by decide) c22) (fun c22 => ?_)
      refine z_aload_n rfl rfl ?_
      refine z_iconst (v := 3) rfl (by decide) ?_
      refine z_iload_n rfl rfl ?_
      refine z_callV (av := [_, _]) rfl z_w165 hM.1 rfl rfl rfl rfl rfl (Nat.le_of_ble_eq_true rfl) (Nat.le_of_ble_eq_true rfl) (Nat.le_of_ble_eq_true rfl) (Nat.le_of_ble_eq_true rfl) (cM_refused hM (fun h9 hM9 hF9 => ?_))
      refine z_iret rfl rfl ?_
      exact q.1 (3, k) ((if_neg n1).trans (if_pos (z_inN e2))) _ hM9 ((z_Fr.refl _ _ _).trans hF9)
    | true =>
      obtain ⟨n, hn1, hn2, rfl⟩ := z_inE (lo := 1) (hi := 12) (by decide) (by decide) e2
      have n2 := z_inY e2
      by_cases e3 : z_adj v.2.1 (nI i) = true
      · have e4 : 0 < z_a v.2.1 3 (nI i) := of_decide_eq_true e3
        refine z_aload_n rfl rfl ?_
        refine z_iload_n rfl rfl ?_
        refine z_callV (av := [_]) rfl z_w170 hM.1 rfl rfl rfl rfl rfl (Nat.le_of_ble_eq_true rfl) (Nat.le_of_ble_eq_true rfl) (Nat.le_of_ble_eq_true rfl) (Nat.le_of_ble_eq_true rfl) (cM_isBill hM hg hw.wz ?_)
        rw [e1]
        refine z_if_ne rfl (fun c5 => ?_) (fun c5 => absurd c5 (by decide))
        refine z_iload_n rfl rfl ?_
        refine z_iconst (v := 1) rfl (by decide) ?_
        refine z_bipush (v := 12) rfl (by decide) ?_
        refine z_callS (av := [_, _, _]) rfl z_w162 rfl rfl rfl rfl (Nat.le_of_ble_eq_true rfl) (Nat.le_of_ble_eq_true rfl) (Nat.le_of_ble_eq_true rfl) (Nat.le_of_ble_eq_true rfl) (cM_in ?_)
        rw [e2]
        refine z_if_ne rfl (fun c22 => ?_) (fun c22 => absurd c22 (by decide))
        refine z_aload_n rfl rfl ?_
        refine z_get rfl hM.1 rfl ?_
        refine z_bipush (v := 75) rfl (by decide) ?_
        refine z_iload_n rfl rfl ?_
        refine z_iadd rfl ?_
        refine z_ildE rfl (hM.g) (nI_add 75 (i)) (show _ < 105 by omega) ?_
        rw [eh]
        refine z_if_le rfl (fun c41 => absurd c41 (by rw [Int32.not_le]; exact e4)) (fun c41 => ?_)
        refine z_aload_n rfl rfl ?_
        refine z_bipush (v := 8) rfl (by decide) ?_
        refine z_aload_n rfl rfl ?_
        refine z_get rfl hM.1 rfl ?_
        refine z_bipush (v := 75) rfl (by decide) ?_
        refine z_iload_n rfl rfl ?_
        refine z_iadd rfl ?_
        refine z_ildE rfl (hM.g) (nI_add 75 (i)) (show _ < 105 by omega) ?_
        rw [eh]
        refine z_callV (av := [_, _]) rfl z_w165 hM.1 rfl rfl rfl rfl rfl (Nat.le_of_ble_eq_true rfl) (Nat.le_of_ble_eq_true rfl) (Nat.le_of_ble_eq_true rfl) (Nat.le_of_ble_eq_true rfl) (cM_refused hM (fun h9 hM9 hF9 => ?_))
        refine z_iret rfl rfl ?_
        exact q.1 (8, _) ((if_neg n1).trans ((if_neg n2).trans (if_pos e3))) _ hM9 ((z_Fr.refl _ _ _).trans hF9)
      · have e4 : ¬ 0 < z_a v.2.1 3 (nI i) := fun q9 => e3 (decide_eq_true q9)
        obtain ⟨k0, hk0, ek1, ek2⟩ := z_hoE (n := 0) hw hi
        have e5 : v.2.1.2 3 i = 0 := by
          rw [ek1] at e4
          have : k0 = 0 := Nat.eq_zero_of_not_pos (fun q9 => e4 ((nI_ltI (a := 0) (by decide) (by omega)).mpr q9))
          rw [ek2, this]; rfl
        have w2 : z_wf (v.1, z_off v.2.1 (nI i) (nI n), v.2.2) := z_wf.mk hw.C (hw.B.off hi ⟨n, by omega, rfl⟩ (nI_ne0 (by omega) (by omega)) e5)
        refine z_aload_n rfl rfl ?_
        refine z_iload_n rfl rfl ?_
        refine z_callV (av := [_]) rfl z_w170 hM.1 rfl rfl rfl rfl rfl (Nat.le_of_ble_eq_true rfl) (Nat.le_of_ble_eq_true rfl) (Nat.le_of_ble_eq_true rfl) (Nat.le_of_ble_eq_true rfl) (cM_isBill hM hg hw.wz ?_)
        rw [e1]
        refine z_if_ne rfl (fun c5 => ?_) (fun c5 => absurd c5 (by decide))
        refine z_iload_n rfl rfl ?_
        refine z_iconst (v := 1) rfl (by decide) ?_
        refine z_bipush (v := 12) rfl (by decide) ?_
        refine z_callS (av := [_, _, _]) rfl z_w162 rfl rfl rfl rfl (Nat.le_of_ble_eq_true rfl) (Nat.le_of_ble_eq_true rfl) (Nat.le_of_ble_eq_true rfl) (Nat.le_of_ble_eq_true rfl) (cM_in ?_)
        rw [e2]
        refine z_if_ne rfl (fun c22 => ?_) (fun c22 => absurd c22 (by decide))
        refine z_aload_n rfl rfl ?_
        refine z_get rfl hM.1 rfl ?_
        refine z_bipush (v := 75) rfl (by decide) ?_
        refine z_iload_n rfl rfl ?_
        refine z_iadd rfl ?_
        refine z_ildE rfl (hM.g) (nI_add 75 (i)) (show _ < 105 by omega) ?_
        rw [eh]
        refine z_if_le rfl (fun c41 => ?_) (fun c41 => absurd (Int32.not_lt.mp e4) c41)
        refine z_aload_n rfl rfl ?_
        refine z_iload_n rfl rfl ?_
        refine z_iload_n rfl rfl ?_
        refine z_callV (av := [_, _]) rfl z_w193 hM.1 rfl rfl rfl rfl rfl (Nat.le_of_ble_eq_true rfl) (Nat.le_of_ble_eq_true rfl) (Nat.le_of_ble_eq_true rfl) (Nat.le_of_ble_eq_true rfl) (cM_goesAway hM hg hw.wz hi (fun h1_ g1 hM1 hg1 hF1_ => ?_))
        refine z_aload_n rfl rfl ?_
        refine z_aload_n rfl rfl ?_
        refine z_callV (av := []) rfl z_w192 hM1.1 rfl rfl rfl rfl rfl (Nat.le_of_ble_eq_true rfl) (Nat.le_of_ble_eq_true rfl) (Nat.le_of_ble_eq_true rfl) (Nat.le_of_ble_eq_true rfl) (cM_awayOnes hM1 hg1 w2 ?_)
        refine z_callV (av := [_]) rfl z_w163 hM1.1 rfl rfl rfl rfl rfl (Nat.le_of_ble_eq_true rfl) (Nat.le_of_ble_eq_true rfl) (Nat.le_of_ble_eq_true rfl) (Nat.le_of_ble_eq_true rfl) (cM_done hM1 (fun h9 hM9 hF9 => ?_))
        refine z_iret rfl rfl ?_
        exact q.2 ((if_neg n1).trans ((if_neg n2).trans (if_neg e3))) _ _ hM9 z_dnM.gg hg1 (hF1_.trans hF9)
theorem cM_isDoneWith {i n : Nat} (hM : z_Mo h a (z_mF m 1 g)) (hg : z_gOk v g) (hw : z_wz v) (hB : z_wB n v.2.1) (hi : i < v.2.1.1 0) (q : ∀ h' g', z_Mo h' a (z_mF m 1 g') → z_gOk (v.1, z_gone1 v.2.1 (nI i), v.2.2) g' → z_Fr a 9 h h' → Q (.inl none) h') : z_W G 2 0 0 196 0 (z_L0 196 [.ref a, .int (nI i)]) [] h Q := by
  have h10 := hw.nb
  have hnr := hw.nr
  have r0 := z_rowOut_1 v.2.1 (nI i) (j := 0) (by decide)
  have r5 := z_rowOut_5 v.2.1 (nI i)
  have l1 : ∀ (g1 : Nat → Int32) (hg1 : z_gOk (v.1, z_rowOut v.2.1 (nI i), v.2.2) g1) (k b : Nat) (hh : z_H) (g' : Nat → Int32), b + k = (z_rowOut v.2.1 (nI i)).1 5 → z_Mo hh a (z_mF m 1 g') → (∀ q, g' q = z_dcG g1 b (nI i) q) → z_Fr a 9 h hh → z_W G 2 0 0 196 7 [.ref a, .int (nI i), .int (nI b)] [] hh Q := by
    intro g1 hg1 k
    induction k with
    | zero =>
      intro b hh g' hb hD hG hF
      obtain rfl : b = (z_rowOut v.2.1 (nI i)).1 5 := hb
      obtain rfl : g' = z_dcG g1 ((z_rowOut v.2.1 (nI i)).1 5) (nI i) := funext hG
      have e2 : z_dcG g1 ((z_rowOut v.2.1 (nI i)).1 5) (nI i) 9 = nI ((z_rowOut v.2.1 (nI i)).1 5) := by rw [z_dcG_out (by omega)]; exact hg1.r0
      have e3 : z_gnG g1 ((z_rowOut v.2.1 (nI i)).1 5) i 1 = nI (v.2.1.1 0) := by
        rw [z_gnG_out (by omega) (by omega), z_dcG_out (by omega), hg1.b0, ← r0]
      refine z_iload_n rfl rfl ?_
      refine z_aload_n rfl rfl ?_
      refine z_get rfl hD.1 rfl ?_
      refine z_bipush (v := 9) rfl (by decide) ?_
      refine z_ildE rfl (hD.g) (k := 9) rfl (show _ < 105 by omega) ?_
      rw [e2]
      refine z_icmp_ge rfl (fun c15 => ?_) (fun c15 => absurd (Int32.le_refl _) c15)
      refine z_bipush (v := 45) rfl (by decide) ?_
      refine z_istore_n rfl (by decide +kernel) rfl ?_
      refine z_iload_n rfl rfl ?_
      refine z_bipush (v := 95) rfl (by decide) ?_
      refine z_icmp_ge rfl (fun c60 => absurd c60 (by decide)) (fun c60 => ?_)
      refine z_aload_n rfl rfl ?_
      refine z_iload_n rfl rfl ?_
      refine z_iload_n rfl rfl ?_
      refine z_bipush (v := 10) rfl (by decide) ?_
      refine z_callV (av := [_, _, _]) rfl z_w178 hD.1 rfl rfl rfl rfl rfl (Nat.le_of_ble_eq_true rfl) (Nat.le_of_ble_eq_true rfl) (Nat.le_of_ble_eq_true rfl) (Nat.le_of_ble_eq_true rfl) (cG_closesUp (at0 := 45) (c := i) (n := 10) (by decide) (by omega) hD (fun h1_ hM1 hF1_ => ?_))
      refine z_iinc rfl rfl (by decide +kernel) rfl ?_
      refine z_goto rfl ?_
      refine z_iload_n rfl rfl ?_
      refine z_bipush (v := 95) rfl (by decide) ?_
      refine z_icmp_ge rfl (fun c60 => absurd c60 (by decide)) (fun c60 => ?_)
      refine z_aload_n rfl rfl ?_
      refine z_iload_n rfl rfl ?_
      refine z_iload_n rfl rfl ?_
      refine z_bipush (v := 10) rfl (by decide) ?_
      refine z_callV (av := [_, _, _]) rfl z_w178 hM1.1 rfl rfl rfl rfl rfl (Nat.le_of_ble_eq_true rfl) (Nat.le_of_ble_eq_true rfl) (Nat.le_of_ble_eq_true rfl) (Nat.le_of_ble_eq_true rfl) (cG_closesUp (at0 := 55) (c := i) (n := 10) (by decide) (by omega) hM1 (fun h2_ hM2 hF2_ => ?_))
      refine z_iinc rfl rfl (by decide +kernel) rfl ?_
      refine z_goto rfl ?_
      refine z_iload_n rfl rfl ?_
      refine z_bipush (v := 95) rfl (by decide) ?_
      refine z_icmp_ge rfl (fun c60 => absurd c60 (by decide)) (fun c60 => ?_)
      refine z_aload_n rfl rfl ?_
      refine z_iload_n rfl rfl ?_
      refine z_iload_n rfl rfl ?_
      refine z_bipush (v := 10) rfl (by decide) ?_
      refine z_callV (av := [_, _, _]) rfl z_w178 hM2.1 rfl rfl rfl rfl rfl (Nat.le_of_ble_eq_true rfl) (Nat.le_of_ble_eq_true rfl) (Nat.le_of_ble_eq_true rfl) (Nat.le_of_ble_eq_true rfl) (cG_closesUp (at0 := 65) (c := i) (n := 10) (by decide) (by omega) hM2 (fun h3_ hM3 hF3_ => ?_))
      refine z_iinc rfl rfl (by decide +kernel) rfl ?_
      refine z_goto rfl ?_
      refine z_iload_n rfl rfl ?_
      refine z_bipush (v := 95) rfl (by decide) ?_
      refine z_icmp_ge rfl (fun c60 => absurd c60 (by decide)) (fun c60 => ?_)
      refine z_aload_n rfl rfl ?_
      refine z_iload_n rfl rfl ?_
      refine z_iload_n rfl rfl ?_
      refine z_bipush (v := 10) rfl (by decide) ?_
      refine z_callV (av := [_, _, _]) rfl z_w178 hM3.1 rfl rfl rfl rfl rfl (Nat.le_of_ble_eq_true rfl) (Nat.le_of_ble_eq_true rfl) (Nat.le_of_ble_eq_true rfl) (Nat.le_of_ble_eq_true rfl) (cG_closesUp (at0 := 75) (c := i) (n := 10) (by decide) (by omega) hM3 (fun h4_ hM4 hF4_ => ?_))
      refine z_iinc rfl rfl (by decide +kernel) rfl ?_
      refine z_goto rfl ?_
      refine z_iload_n rfl rfl ?_
      refine z_bipush (v := 95) rfl (by decide) ?_
      refine z_icmp_ge rfl (fun c60 => absurd c60 (by decide)) (fun c60 => ?_)
      refine z_aload_n rfl rfl ?_
      refine z_iload_n rfl rfl ?_
      refine z_iload_n rfl rfl ?_
      refine z_bipush (v := 10) rfl (by decide) ?_
      refine z_callV (av := [_, _, _]) rfl z_w178 hM4.1 rfl rfl rfl rfl rfl (Nat.le_of_ble_eq_true rfl) (Nat.le_of_ble_eq_true rfl) (Nat.le_of_ble_eq_true rfl) (Nat.le_of_ble_eq_true rfl) (cG_closesUp (at0 := 85) (c := i) (n := 10) (by decide) (by omega) hM4 (fun h5_ hM5 hF5_ => ?_))
      refine z_iinc rfl rfl (by decide +kernel) rfl ?_
      refine z_goto rfl ?_
      refine z_iload_n rfl rfl ?_
      refine z_bipush (v := 95) rfl (by decide) ?_
      refine z_icmp_ge rfl (fun c60 => ?_) (fun c60 => absurd (by decide) c60)
      refine z_aload_n rfl rfl ?_
      refine z_get rfl hM5.1 rfl ?_
      refine z_iconst (v := 1) rfl (by decide) ?_
      refine z_dup2 rfl rfl rfl ?_
      refine z_ildE rfl (hM5.g) (k := 1) rfl (show _ < 105 by omega) ?_
      rw [show z_clF _ 85 i 10 1 = nI (v.2.1.1 0) from e3]
      refine z_iconst (v := 1) rfl (by decide) ?_
      refine z_isub rfl ?_
      refine z_istG rfl hM5 (k := 1) rfl (show _ < 105 by omega) (fun h1 hC1 hF1 => ?_)
      refine z_vret rfl rfl ?_
      exact q _ _ hC1 (hg1.gone hw hB hi (z_predN (by omega))) (hF.trans (hF1_.trans (hF2_.trans (hF3_.trans (hF4_.trans (hF5_.trans hF1))))))
    | succ k ih =>
      intro b hh g' hb hD hG hF
      have e2 : g' 9 = nI ((z_rowOut v.2.1 (nI i)).1 5) := by rw [hG, z_dcG_out (by omega)]; exact hg1.r0
      refine z_iload_n rfl rfl ?_
      refine z_aload_n rfl rfl ?_
      refine z_get rfl hD.1 rfl ?_
      refine z_bipush (v := 9) rfl (by decide) ?_
      refine z_ildE rfl (hD.g) (k := 9) rfl (show _ < 105 by omega) ?_
      rw [e2]
      refine z_icmp_ge rfl (fun c15 => absurd c15 (fun q9 => absurd ((nI_leI (by omega) (by omega)).mp q9) (by omega))) (fun c15 => ?_)
      refine z_aload_n rfl rfl ?_
      refine z_get rfl hD.1 rfl ?_
      refine z_bipush (v := 95) rfl (by decide) ?_
      refine z_iload_n rfl rfl ?_
      refine z_iadd rfl ?_
      refine z_dup2 rfl rfl rfl ?_
      refine z_ildE rfl (hD.g) (nI_add 95 (b)) (show _ < 105 by omega) ?_
      refine z_aload_n rfl rfl ?_
      refine z_get rfl hD.1 rfl ?_
      refine z_bipush (v := 95) rfl (by decide) ?_
      refine z_iload_n rfl rfl ?_
      refine z_iadd rfl ?_
      refine z_ildE rfl (hD.g) (nI_add 95 (b)) (show _ < 105 by omega) ?_
      refine z_iload_n rfl rfl ?_
      refine z_icmp_le rfl (fun c38 => ?_) (fun c38 => ?_)
      · refine z_iconst (v := 0) rfl (by decide) ?_
        refine z_isub rfl ?_
        refine z_istG rfl hD (nI_add 95 (b)) (show _ < 105 by omega) (fun h1 hC1 hF1 => ?_)
        refine z_iinc1 rfl rfl (by decide +kernel) rfl ?_
        refine z_goto rfl (ih (b + 1) _ _ (by omega) hC1 (z_dcG_st hG (by unfold z_dec; rw [if_neg (Int32.not_lt.mpr c38)])) (hF.trans hF1))
      · refine z_iconst (v := 1) rfl (by decide) ?_
        refine z_goto rfl ?_
        refine z_isub rfl ?_
        refine z_istG rfl hD (nI_add 95 (b)) (show _ < 105 by omega) (fun h1 hC1 hF1 => ?_)
        refine z_iinc1 rfl rfl (by decide +kernel) rfl ?_
        refine z_goto rfl (ih (b + 1) _ _ (by omega) hC1 (z_dcG_st hG (by unfold z_dec; rw [if_pos (Int32.not_le.mp c38)])) (hF.trans hF1))
  refine z_aload_n rfl rfl ?_
  refine z_iload_n rfl rfl ?_
  refine z_callV (av := [_]) rfl z_w188 hM.1 rfl rfl rfl rfl rfl (Nat.le_of_ble_eq_true rfl) (Nat.le_of_ble_eq_true rfl) (Nat.le_of_ble_eq_true rfl) (Nat.le_of_ble_eq_true rfl) (cM_leavesRow hM hg hw (fun h1_ g1 hM1 hg1 hF1_ => ?_))
  refine z_iconst (v := nI 0) rfl (by decide) ?_
  refine z_istore_n rfl (by decide +kernel) rfl ?_
  exact l1 g1 hg1 ((z_rowOut v.2.1 (nI i)).1 5) 0 _ g1 (by omega) hM1 (fun q => by rw [z_dcG_out (by omega)]) hF1_
theorem cM_drops {b c t u : Int32} (hM : z_Mo h a (z_mF m 1 g)) (hg : z_gOk v g) (hw : z_wf v) (q : z_opQ v (7, b, c, t, u) h a (z_mF m 1 g) Q) : z_W G 3 0 0 197 0 (z_L0 197 [.ref a, .int b]) [] h Q := by
  have h10 := hw.nb
  cases e1 : z_has b (v.2.1.1 0) with
  | false =>
    refine z_aload_n rfl rfl ?_
    refine z_iload_n rfl rfl ?_
    refine z_callV (av := [_]) rfl z_w170 hM.1 rfl rfl rfl rfl rfl (Nat.le_of_ble_eq_true rfl) (Nat.le_of_ble_eq_true rfl) (Nat.le_of_ble_eq_true rfl) (Nat.le_of_ble_eq_true rfl) (cM_isBill hM hg hw.wz ?_)
    rw [e1]
    refine z_if_ne rfl (fun c5 => absurd (by decide) c5) (fun c5 => ?_)
    refine z_aload_n rfl rfl ?_
    refine z_iconst (v := 2) rfl (by decide) ?_
    refine z_iload_n rfl rfl ?_
    refine z_callV (av := [_, _]) rfl z_w165 hM.1 rfl rfl rfl rfl rfl (Nat.le_of_ble_eq_true rfl) (Nat.le_of_ble_eq_true rfl) (Nat.le_of_ble_eq_true rfl) (Nat.le_of_ble_eq_true rfl) (cM_refused hM (fun h9 hM9 hF9 => ?_))
    refine z_iret rfl rfl ?_
    exact q.1 (2, b) (if_pos e1) _ hM9 ((z_Fr.refl _ _ _).trans hF9)
  | true =>
    obtain ⟨i, hi, rfl⟩ := z_hasE (by omega) e1
    have n1 : ¬ z_has (nI i) (v.2.1.1 0) = false := by rw [e1]; exact Bool.noConfusion
    refine z_aload_n rfl rfl ?_
    refine z_iload_n rfl rfl ?_
    refine z_callV (av := [_]) rfl z_w170 hM.1 rfl rfl rfl rfl rfl (Nat.le_of_ble_eq_true rfl) (Nat.le_of_ble_eq_true rfl) (Nat.le_of_ble_eq_true rfl) (Nat.le_of_ble_eq_true rfl) (cM_isBill hM hg hw.wz ?_)
    rw [e1]
    refine z_if_ne rfl (fun c5 => ?_) (fun c5 => absurd c5 (by decide))
    refine z_aload_n rfl rfl ?_
    refine z_iload_n rfl rfl ?_
    refine z_callV (av := [_]) rfl z_w196 hM.1 rfl rfl rfl rfl rfl (Nat.le_of_ble_eq_true rfl) (Nat.le_of_ble_eq_true rfl) (Nat.le_of_ble_eq_true rfl) (Nat.le_of_ble_eq_true rfl) (cM_isDoneWith hM hg hw.wz hw.B hi (fun h1_ g1 hM1 hg1 hF1_ => ?_))
    refine z_aload_n rfl rfl ?_
    refine z_aload_n rfl rfl ?_
    refine z_get rfl hM1.1 rfl ?_
    refine z_iconst (v := 1) rfl (by decide) ?_
    refine z_ildE rfl (hM1.g) (k := 1) rfl (show _ < 105 by omega) ?_
    rw [hg1.b0]
    refine z_callV (av := [_]) rfl z_w163 hM1.1 rfl rfl rfl rfl rfl (Nat.le_of_ble_eq_true rfl) (Nat.le_of_ble_eq_true rfl) (Nat.le_of_ble_eq_true rfl) (Nat.le_of_ble_eq_true rfl) (cM_done hM1 (fun h9 hM9 hF9 => ?_))
    refine z_iret rfl rfl ?_
    exact q.2 (if_neg n1) _ _ hM9 z_dnM.gg hg1 (hF1_.trans hF9)
end ZOpE
