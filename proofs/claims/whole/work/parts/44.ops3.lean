/-! The row of the model; leaves, tables, adjourns, drops. -/
def z_onG (m m' : z_MV) : Prop := m'.1 = m.1 ∧ ∀ j, j ≠ 1 → m'.2 j = m.2 j
theorem z_onG.refl (m : z_MV) : z_onG m m := ⟨rfl, fun _ _ => rfl⟩
theorem z_onG.trans {m m1 m2 : z_MV} (x : z_onG m m1) (y : z_onG m1 m2) : z_onG m m2 := ⟨y.1.trans x.1, fun j hj => (y.2 j hj).trans (x.2 j hj)⟩
theorem z_onG.F {m m' : z_MV} (x : z_onG m m') (g : Nat → Int32) : z_onG m (z_mF m' 1 g) := ⟨x.1, fun j hj => (if_neg hj).trans (x.2 j hj)⟩
theorem z_onG.dn {m m' : z_MV} (x : z_onG m m') : z_dnM m (z_mS m' 16 0) := ⟨fun i hi => (if_neg hi).trans (congrFun x.1 i), rfl, fun j hj => x.2 j hj⟩
theorem z_clF_out {g : Nat → Int32} {at0 c n q : Nat} (hc : c < n) (h : q < at0 ∨ at0 + n ≤ q) : z_clF g at0 c n q = g q := by
  unfold z_clF
  rw [if_neg (by omega), if_neg (by omega)]
theorem z_clF_hi {g : Nat → Int32} {at0 c n q : Nat} (h1 : at0 + c ≤ q) (h2 : q + 1 < at0 + n) : z_clF g at0 c n q = g (q + 1) := by
  unfold z_clF
  rw [if_neg (by omega), if_pos (by omega)]
theorem z_clF_lo {g : Nat → Int32} {at0 c n q : Nat} (hc : c < n) (h2 : q < at0 + c) : z_clF g at0 c n q = g q := by
  unfold z_clF
  rw [if_neg (by omega), if_neg (by omega)]
theorem z_remI {x : z_LV} {j i : Nat} (h : i < x.1 j) (hn : x.1 j < 1000) : z_remL x j (nI i) = z_upS x j (x.1 j - 1) (z_remF (x.2 j) (x.1 j) i) := by
  unfold z_remL
  rw [z_has_nI (by omega), if_pos (by simpa using h), z_ix_nI (by omega)]
theorem z_remN {x : z_LV} {j : Nat} : z_remL x j (-1) = x := by
  unfold z_remL
  rw [if_neg]
  simp [z_has]
theorem z_plcR (f : Nat → Int32) (n : Nat) (x : Int32) : z_plc f n x = -1 ∨ ∃ p, p < n ∧ z_plc f n x = nI p ∧ f p = x := by
  unfold z_plc
  cases e : z_first (fun i => decide (f i = x)) n 0 with
  | none => exact Or.inl rfl
  | some i =>
    obtain ⟨h1, h2, h3⟩ := z_firstP n 0 e
    exact Or.inr ⟨i, by omega, rfl, of_decide_eq_true h1⟩
theorem z_shfE {n i : Nat} {y : Int32} (hn : n ≤ 8) (hi : i < n) (hy : z_kOk n y) : z_shf (y + 1) (nI i) = z_forV (nI i) y + 1 := by
  unfold z_shf z_forV
  rcases hy with rfl | ⟨p, hp, rfl⟩
  · rw [if_neg (by rw [nI_1]; intro e; exact absurd ((nI_eq (a := 0) (by decide) (by omega)).mp e) (by omega)), if_neg (by intro e; exact absurd ((nI_ltI (b := 0) (by omega) (by decide)).mp e) (by omega)), if_neg (by intro e; have := congrArg Int32.toInt e; rw [nI_toInt (by omega)] at this; simp at this), if_neg (by rw [Int32.lt_iff_toInt_lt, nI_toInt (by omega)]; simp)]
  · rw [nI_1, nI_1]
    by_cases e1 : p = i
    · rw [e1, if_pos rfl, if_pos rfl]; rfl
    · rw [if_neg (fun e => e1 (by have := (nI_eq (by omega) (by omega)).mp e; omega)), if_neg (fun e => e1 ((nI_eq (by omega) (by omega)).mp e))]
      by_cases e2 : i < p
      · rw [if_pos ((nI_ltI (by omega) (by omega)).mpr (by omega)), if_pos ((nI_ltI (by omega) (by omega)).mpr e2), nI_pred, Int32.sub_add_cancel]
      · rw [if_neg (fun e => absurd ((nI_ltI (by omega) (by omega)).mp e) (by omega)), if_neg (fun e => e2 ((nI_ltI (by omega) (by omega)).mp e)), nI_1]
theorem z_awayE {v : z_HV} {i : Nat} (hw : z_wz v) (hi : i < v.1.1 0) : (∀ j, j < 4 → (z_away v.1 (nI i)).1 j = v.1.1 0 - 1) ∧ (z_away v.1 (nI i)).1 4 = 3 ∧ (∀ j, j < 4 → (z_away v.1 (nI i)).2 j = z_remF (v.1.2 j) (v.1.1 0) i) ∧ (z_away v.1 (nI i)).2 4 = z_forF (v.1.2 4) 3 (nI i) := by
  have h8 := hw.nc
  have s1 := hw.sc (j := 1) (by decide)
  have s2 := hw.sc (j := 2) (by decide)
  have s3 := hw.sc (j := 3) (by decide)
  have s4 := hw.sk
  have e0 := z_remI (x := v.1) (j := 0) (i := i) hi (by omega)
  have e1 := z_remI (x := z_remL v.1 0 (nI i)) (j := 1) (i := i) (by rw [e0]; show i < v.1.1 1; omega) (by rw [e0]; show v.1.1 1 < 1000; omega)
  have e2 := z_remI (x := z_remL (z_remL v.1 0 (nI i)) 1 (nI i)) (j := 2) (i := i) (by rw [e1, e0]; show i < v.1.1 2; omega) (by rw [e1, e0]; show v.1.1 2 < 1000; omega)
  have e3 := z_remI (x := z_remL (z_remL (z_remL v.1 0 (nI i)) 1 (nI i)) 2 (nI i)) (j := 3) (i := i) (by rw [e2, e1, e0]; show i < v.1.1 3; omega) (by rw [e2, e1, e0]; show v.1.1 3 < 1000; omega)
  have c4 : ∀ j, j < 4 → j = 0 ∨ j = 1 ∨ j = 2 ∨ j = 3 := fun j hj => by omega
  unfold z_away
  rw [e3, e2, e1, e0]
  refine ⟨fun j hj => ?_, s4, fun j hj => ?_, ?_⟩
  · rcases c4 j hj with rfl | rfl | rfl | rfl
    · rfl
    · show v.1.1 1 - 1 = _; rw [s1]
    · show v.1.1 2 - 1 = _; rw [s2]
    · show v.1.1 3 - 1 = _; rw [s3]
  · rcases c4 j hj with rfl | rfl | rfl | rfl
    · rfl
    · show z_remF (v.1.2 1) (v.1.1 1) i = _; rw [s1]
    · show z_remF (v.1.2 2) (v.1.1 2) i = _; rw [s2]
    · show z_remF (v.1.2 3) (v.1.1 3) i = _; rw [s3]
  · show z_forF (v.1.2 4) (v.1.1 4) (nI i) = _; rw [s4]
/-- the numbers that tell of a clock, one less in a span -/
def z_shG (g : Nat → Int32) (lo n : Nat) (c : Int32) : Nat → Int32 := fun q => if lo ≤ q ∧ q < lo + n then z_shf (g q) c else g q
theorem z_shG_in {g : Nat → Int32} {lo n q : Nat} {c : Int32} (h1 : lo ≤ q) (h2 : q < lo + n) : z_shG g lo n c q = z_shf (g q) c := if_pos ⟨h1, h2⟩
theorem z_shG_out {g : Nat → Int32} {lo n q : Nat} {c : Int32} (h : q < lo ∨ lo + n ≤ q) : z_shG g lo n c q = g q := if_neg (by omega)
def z_lvG (g : Nat → Int32) (nb i : Nat) : Nat → Int32 := z_clF (z_clF (z_clF (z_clF (z_shG (z_shG g 42 3 (nI i)) 45 nb (nI i)) 10 i 8) 18 i 8) 26 i 8) 34 i 8
theorem z_lvG_out {g : Nat → Int32} {nb i q : Nat} (hi : i < 8) (h : q < 10 ∨ 45 + nb ≤ q) : z_lvG g nb i q = g q := by
  unfold z_lvG
  rw [z_clF_out hi (by omega), z_clF_out hi (by omega), z_clF_out hi (by omega), z_clF_out hi (by omega), z_shG_out (by omega), z_shG_out (by omega)]
theorem z_lvG_key {g : Nat → Int32} {nb i q : Nat} (hi : i < 8) (h : 42 ≤ q) (h2 : q < 45 + nb) : z_lvG g nb i q = z_shf (g q) (nI i) := by
  unfold z_lvG
  rw [z_clF_out hi (by omega), z_clF_out hi (by omega), z_clF_out hi (by omega), z_clF_out hi (by omega)]
  by_cases e : q < 45
  · rw [z_shG_out (by omega), z_shG_in (by omega) (by omega)]
  · rw [z_shG_in (by omega) (by omega), z_shG_out (by omega)]
theorem z_lvG_cl {g : Nat → Int32} {nb i j k : Nat} (hi : i < 8) (hj : j < 4) (hk : k < 7) : z_lvG g nb i (10 + 8 * j + k) = if i ≤ k then g (10 + 8 * j + k + 1) else g (10 + 8 * j + k) := by
  have sh : ∀ q, q < 42 → z_shG (z_shG g 42 3 (nI i)) 45 nb (nI i) q = g q := fun q hq => by rw [z_shG_out (by omega), z_shG_out (by omega)]
  have c4 : j = 0 ∨ j = 1 ∨ j = 2 ∨ j = 3 := by omega
  unfold z_lvG
  by_cases e : i ≤ k
  · rw [if_pos e]
    rcases c4 with rfl | rfl | rfl | rfl
    · rw [z_clF_out hi (by omega), z_clF_out hi (by omega), z_clF_out hi (by omega), z_clF_hi (by omega) (by omega), sh _ (by omega)]
    · rw [z_clF_out hi (by omega), z_clF_out hi (by omega), z_clF_hi (by omega) (by omega), z_clF_out hi (by omega), sh _ (by omega)]
    · rw [z_clF_out hi (by omega), z_clF_hi (by omega) (by omega), z_clF_out hi (by omega), z_clF_out hi (by omega), sh _ (by omega)]
    · rw [z_clF_hi (by omega) (by omega), z_clF_out hi (by omega), z_clF_out hi (by omega), z_clF_out hi (by omega), sh _ (by omega)]
  · rw [if_neg e]
    rcases c4 with rfl | rfl | rfl | rfl
    · rw [z_clF_out hi (by omega), z_clF_out hi (by omega), z_clF_out hi (by omega), z_clF_lo hi (by omega), sh _ (by omega)]
    · rw [z_clF_out hi (by omega), z_clF_out hi (by omega), z_clF_lo hi (by omega), z_clF_out hi (by omega), sh _ (by omega)]
    · rw [z_clF_out hi (by omega), z_clF_lo hi (by omega), z_clF_out hi (by omega), z_clF_out hi (by omega), sh _ (by omega)]
    · rw [z_clF_lo hi (by omega), z_clF_out hi (by omega), z_clF_out hi (by omega), z_clF_out hi (by omega), sh _ (by omega)]
theorem z_gOk.lve {v : z_HV} {g : Nat → Int32} {x : Int32} {i : Nat} (hg : z_gOk v g) (hw : z_wf v) (hi : i < v.1.1 0) (hx : x = nI (v.1.1 0 - 1)) : z_gOk (z_lve v (nI i)) (upd (z_lvG g (v.2.1.1 0) i) 0 x) := by
  obtain ⟨⟨a1, a2, a3⟩, ⟨a4, a5⟩, a6, a7, a8, a9, a10⟩ := hg
  have h8 := hw.nc
  have h10 := hw.nb
  have hnr := hw.nr
  obtain ⟨b1, b2, b3, b4⟩ := z_awayE hw.wz hi
  have lt : i < 8 := by omega
  refine ⟨⟨?_, ?_, ?_⟩, ⟨fun k hk => ?_, ?_⟩, fun j k hj hk => ?_, fun k hk => ?_, fun b hb => ?_, fun j b h0 hj hb => ?_, fun r hr => ?_⟩
  · show _ = nI ((z_away v.1 (nI i)).1 0)
    rw [z_updE (α := Nat), b1 0 (by decide), hx]
  · rw [z_updN _ _ (by omega), z_lvG_out lt (by omega)]; exact a2
  · rw [z_updN _ _ (by omega), z_lvG_out lt (by omega)]; exact a3
  · have := z_ciB hk
    rw [z_updN _ _ (by omega), z_lvG_out lt (by omega)]; exact a4 k hk
  · rw [z_updN _ _ (by omega), z_lvG_out lt (by omega)]; exact a5
  · have hk2 : k < (z_away v.1 (nI i)).1 0 := hk
    rw [b1 0 (by decide)] at hk2
    show _ = (z_away v.1 (nI i)).2 j k
    rw [z_updN _ _ (by omega), z_lvG_cl lt hj (by omega), b3 j hj]
    unfold z_remF
    by_cases e : i ≤ k
    · rw [if_pos e, if_pos (by omega)]; exact a6 j (k + 1) hj (by omega)
    · rw [if_neg e, if_neg (by omega)]; exact a6 j k hj (by omega)
  · show _ = (z_away v.1 (nI i)).2 4 k + 1
    rw [z_updN _ _ (by omega), z_lvG_key lt (by omega) (by omega), b4, a7 k hk, z_shfE h8 hi (hw.2.2.2.2.1 k hk)]
    show _ = (if k < 3 then _ else v.1.2 4 k) + 1
    rw [if_pos hk]
  · have hb2 : b < v.2.1.1 0 := hb
    rw [z_updN _ _ (by omega), z_lvG_key lt (by omega) (by omega), a8 b hb2, z_shfE h8 hi (hw.2.2.2.2.2.1 b hb2).1]
    show _ = (if b < v.2.1.1 0 then _ else v.2.1.2 0 b) + 1
    rw [if_pos hb2]
  · have hb2 : b < v.2.1.1 0 := hb
    rw [z_updN _ _ (by omega), z_lvG_out lt (by omega), a9 j b h0 hj hb2]
    show _ = (if j = 0 then _ else v.2.1.2 j) b
    rw [if_neg (by omega)]
  · have hr2 : r < v.2.1.1 5 := hr
    rw [z_updN _ _ (by omega), z_lvG_out lt (by omega), a10 r hr2]
    rfl

theorem z_Mo.g {h : z_H} {a : Nat} {m : z_MV} {g : Nat → Int32} (hM : z_Mo h a (z_mF m 1 g)) : h.2 (a + 1) = some (.inl (0, 105, .inl g)) := hM.2 1 (by decide)
theorem z_Mo.gf {h : z_H} {a : Nat} {m : z_MV} (hM : z_Mo h a m) : z_Mo h a (z_mF m 1 (m.2 1)) := hM.eqv (fun _ => rfl) (z_mFid m 1)
theorem z_Mo.ff {h : z_H} {a : Nat} {m : z_MV} {g g' : Nat → Int32} (hM : z_Mo h a (z_mF (z_mF m 1 g) 1 g')) : z_Mo h a (z_mF m 1 g') := hM.eqv (fun _ => rfl) (fun i => by
  show (if i = 1 then g' else m.2 i) = if i = 1 then g' else (if i = 1 then g else m.2 i)
  split <;> rfl)
theorem z_dnM.gg {m : z_MV} {g g' : Nat → Int32} : z_dnM (z_mF m 1 g) (z_mS (z_mF m 1 g') 16 0) := ⟨fun _ hi => if_neg hi, rfl, fun _ hj => (if_neg hj).trans (if_neg hj).symm⟩
section ZOpC
variable {G : z_G} {h : z_H} {Q : z_O → z_H → Prop} {a : Nat} {m : z_MV} {v : z_HV} {g : Nat → Int32}
theorem z_istG {d mc ms mi pc nx k : Nat} {L st : List Value} {info : List Nat} {i x : Int32} (hr : z_at mi pc = some (.iastore, nx, info)) (hM : z_Mo h a (z_mF m 1 g)) (hi : i = nI k) (hk : k < 105) (kk : ∀ h', z_Mo h' a (z_mF m 1 (upd g k x)) → z_Fr a 9 h h' → z_W G d mc ms mi nx L st h' Q) : z_W G d mc ms mi pc L (.int x :: .int i :: .ref (a + 1) :: st) h Q := z_istM hr hM (by decide) hi hk (fun h' hM' hF' => kk h' hM'.ff hF')
theorem cG_closesUp {at0 c n : Nat} (hn : at0 + n ≤ 105) (hc : c < n) (hM : z_Mo h a (z_mF m 1 g)) (q : ∀ h', z_Mo h' a (z_mF m 1 (z_clF g at0 c n)) → z_Fr a 9 h h' → Q (.inl none) h') : z_W G 0 0 0 178 0 (z_L0 178 [.ref a, .int (nI at0), .int (nI c), .int (nI n)]) [] h Q := cM_closesUp hn hc hM (fun h' hM' hF' => q h' hM'.ff hF')
theorem cM_leaves {c s t u : Int32} (hM : z_Mo h a (z_mF m 1 g)) (hg : z_gOk v g) (hw : z_wf v) (q : z_opQ v (1, c, s, t, u) h a (z_mF m 1 g) Q) : z_W G 2 0 0 179 0 (z_L0 179 [.ref a, .int c]) [] h Q := by
  have h8 := hw.nc
  have h10 := hw.nb
  cases e1 : z_has c (v.1.1 0) with
  | false =>
    refine z_aload_n rfl rfl ?_
    refine z_iload_n rfl rfl ?_
    refine z_callV (av := [_]) rfl z_w169 hM.1 rfl rfl rfl rfl rfl (Nat.le_of_ble_eq_true rfl) (Nat.le_of_ble_eq_true rfl) (Nat.le_of_ble_eq_true rfl) (Nat.le_of_ble_eq_true rfl) (cM_isClock hM hg hw.wz ?_)
    rw [e1]
    refine z_if_ne rfl (fun c5 => absurd (by decide) c5) (fun c5 => ?_)
    refine z_aload_n rfl rfl ?_
    refine z_iconst (v := 2) rfl (by decide) ?_
    refine z_iload_n rfl rfl ?_
    refine z_callV (av := [_, _]) rfl z_w165 hM.1 rfl rfl rfl rfl rfl (Nat.le_of_ble_eq_true rfl) (Nat.le_of_ble_eq_true rfl) (Nat.le_of_ble_eq_true rfl) (Nat.le_of_ble_eq_true rfl) (cM_refused hM (fun h9 hM9 hF9 => ?_))
    refine z_iret rfl rfl ?_
    exact q.1 (2, c) (if_pos e1) _ hM9 ((z_Fr.refl _ _ _).trans hF9)
  | true =>
    obtain ⟨i, hi, rfl⟩ := z_hasE (by omega) e1
    have n1 : ¬ z_has (nI i) (v.1.1 0) = false := by rw [e1]; exact Bool.noConfusion
    have l2 : ∀ (k b : Nat) (hh : z_H) (g' : Nat → Int32), b + k = v.2.1.1 0 → z_Mo hh a (z_mF m 1 g') → (∀ q, g' q = z_shG (z_shG g 42 3 (nI i)) 45 b (nI i) q) → z_Fr a 9 h hh → z_W G 2 0 0 179 52 [.ref a, .int (nI i), .int (nI b)] [] hh Q := by
      intro k
      induction k with
      | zero =>
        intro b hh g' hb hD hG hF
        obtain rfl : b = v.2.1.1 0 := hb
        obtain rfl : g' = z_shG (z_shG g 42 3 (nI i)) 45 (v.2.1.1 0) (nI i) := funext hG
        have e2 : z_shG (z_shG g 42 3 (nI i)) 45 (v.2.1.1 0) (nI i) 1 = nI (v.2.1.1 0) := by rw [z_shG_out (by omega), z_shG_out (by omega)]; exact hg.b0
        have e4 : z_lvG g (v.2.1.1 0) i 0 = nI (v.1.1 0) := (z_lvG_out (by omega) (by omega)).trans hg.c0
        have e5 : nI (v.1.1 0) - 1 = nI (v.1.1 0 - 1) := by
          obtain ⟨k, hk⟩ : ∃ k, v.1.1 0 = k + 1 := ⟨v.1.1 0 - 1, by omega⟩
          rw [hk, nI_pred]; rfl
        refine z_iload_n rfl rfl ?_
        refine z_aload_n rfl rfl ?_
        refine z_get rfl hD.1 rfl ?_
        refine z_iconst (v := 1) rfl (by decide) ?_
        refine z_ildE rfl (hD.g) (k := 1) rfl (show _ < 105 by omega) ?_
        rw [e2]
        refine z_icmp_ge rfl (fun c59 => ?_) (fun c59 => absurd (Int32.le_refl _) c59)
        refine z_aload_n rfl rfl ?_
        refine z_bipush (v := 10) rfl (by decide) ?_
        refine z_iload_n rfl rfl ?_
        refine z_bipush (v := 8) rfl (by decide) ?_
        refine z_callV (av := [_, _, _]) rfl z_w178 hD.1 rfl rfl rfl rfl rfl (Nat.le_of_ble_eq_true rfl) (Nat.le_of_ble_eq_true rfl) (Nat.le_of_ble_eq_true rfl) (Nat.le_of_ble_eq_true rfl) (cG_closesUp (at0 := 10) (c := i) (n := 8) (by decide) (by omega) hD (fun h1_ hM1 hF1_ => ?_))
        refine z_aload_n rfl rfl ?_
        refine z_bipush (v := 18) rfl (by decide) ?_
        refine z_iload_n rfl rfl ?_
        refine z_bipush (v := 8) rfl (by decide) ?_
        refine z_callV (av := [_, _, _]) rfl z_w178 hM1.1 rfl rfl rfl rfl rfl (Nat.le_of_ble_eq_true rfl) (Nat.le_of_ble_eq_true rfl) (Nat.le_of_ble_eq_true rfl) (Nat.le_of_ble_eq_true rfl) (cG_closesUp (at0 := 18) (c := i) (n := 8) (by decide) (by omega) hM1 (fun h2 hM2 hF2 => ?_))
        refine z_aload_n rfl rfl ?_
        refine z_bipush (v := 26) rfl (by decide) ?_
        refine z_iload_n rfl rfl ?_
        refine z_bipush (v := 8) rfl (by decide) ?_
        refine z_callV (av := [_, _, _]) rfl z_w178 hM2.1 rfl rfl rfl rfl rfl (Nat.le_of_ble_eq_true rfl) (Nat.le_of_ble_eq_true rfl) (Nat.le_of_ble_eq_true rfl) (Nat.le_of_ble_eq_true rfl) (cG_closesUp (at0 := 26) (c := i) (n := 8) (by decide) (by omega) hM2 (fun h3 hM3 hF3 => ?_))
        refine z_aload_n rfl rfl ?_
        refine z_bipush (v := 34) rfl (by decide) ?_
        refine z_iload_n rfl rfl ?_
        refine z_bipush (v := 8) rfl (by decide) ?_
        refine z_callV (av := [_, _, _]) rfl z_w178 hM3.1 rfl rfl rfl rfl rfl (Nat.le_of_ble_eq_true rfl) (Nat.le_of_ble_eq_true rfl) (Nat.le_of_ble_eq_true rfl) (Nat.le_of_ble_eq_true rfl) (cG_closesUp (at0 := 34) (c := i) (n := 8) (by decide) (by omega) hM3 (fun h4 hM4 hF4 => ?_))
        refine z_aload_n rfl rfl ?_
        refine z_get rfl hM4.1 rfl ?_
        refine z_iconst (v := 0) rfl (by decide) ?_
        refine z_dup2 rfl rfl rfl ?_
        refine z_ildE rfl (hM4.g) (k := 0) rfl (show _ < 105 by omega) ?_
        rw [show z_clF _ 34 i 8 0 = nI (v.1.1 0) from e4]
        refine z_iconst (v := 1) rfl (by decide) ?_
        refine z_isub rfl ?_
        rw [e5]
        refine z_istG rfl hM4 (k := 0) rfl (show _ < 105 by omega) (fun h1 hC1 hF1 => ?_)
        refine z_aload_n rfl rfl ?_
        refine z_aload_n rfl rfl ?_
        refine z_get rfl hC1.1 rfl ?_
        refine z_iconst (v := 0) rfl (by decide) ?_
        refine z_ildE rfl (hC1.g) (k := 0) rfl (show _ < 105 by omega) ?_
        refine z_callV (av := [_]) rfl z_w163 hC1.1 rfl rfl rfl rfl rfl (Nat.le_of_ble_eq_true rfl) (Nat.le_of_ble_eq_true rfl) (Nat.le_of_ble_eq_true rfl) (Nat.le_of_ble_eq_true rfl) (cM_done hC1 (fun h9 hM9 hF9 => ?_))
        refine z_iret rfl rfl ?_
        have ez : nI (v.1.1 0 - 1) = nI ((z_away v.1 (nI i)).1 0) := by rw [(z_awayE hw.wz hi).1 0 (by decide)]
        refine (congrArg (fun z : Int32 => Q (.inl (some (.int z))) h9) ?_).mp (q.2 (if_neg n1) _ _ hM9 z_dnM.gg (hg.lve hw hi rfl) (hF.trans (hF1_.trans (hF2.trans (hF3.trans (hF4.trans (hF1.trans hF9)))))))
        exact ez.symm
      | succ k ih =>
        intro b hh g' hb hD hG hF
        have e2 : g' 1 = nI (v.2.1.1 0) := by rw [hG, z_shG_out (by omega), z_shG_out (by omega)]; exact hg.b0
        refine z_iload_n rfl rfl ?_
        refine z_aload_n rfl rfl ?_
        refine z_get rfl hD.1 rfl ?_
        refine z_iconst (v := 1) rfl (by decide) ?_
        refine z_ildE rfl (hD.g) (k := 1) rfl (show _ < 105 by omega) ?_
        rw [e2]
        refine z_icmp_ge rfl (fun c59 => absurd c59 (fun q9 => absurd ((nI_leI (by omega) (by omega)).mp q9) (by omega))) (fun c59 => ?_)
        refine z_aload_n rfl rfl ?_
        refine z_get rfl hD.1 rfl ?_
        refine z_bipush (v := 45) rfl (by decide) ?_
        refine z_iload_n rfl rfl ?_
        refine z_iadd rfl ?_
        refine z_aload_n rfl rfl ?_
        refine z_get rfl hD.1 rfl ?_
        refine z_bipush (v := 45) rfl (by decide) ?_
        refine z_iload_n rfl rfl ?_
        refine z_iadd rfl ?_
        refine z_ildE rfl (hD.g) (nI_add 45 (b)) (show _ < 105 by omega) ?_
        refine z_iload_n rfl rfl ?_
        refine z_callS (av := [_, _]) rfl z_w177 rfl rfl rfl rfl (Nat.le_of_ble_eq_true rfl) (Nat.le_of_ble_eq_true rfl) (Nat.le_of_ble_eq_true rfl) (Nat.le_of_ble_eq_true rfl) (cM_shifted ?_)
        refine z_istG rfl hD (nI_add 45 (b)) (show _ < 105 by omega) (fun h1 hC1 hF1 => ?_)
        refine z_iinc1 rfl rfl (by decide +kernel) rfl ?_
        refine z_goto rfl (ih (b + 1) _ _ (by omega) hC1 (fun q => ?_) (hF.trans hF1))
        unfold upd
        by_cases e : q = 45 + b
        · rw [if_pos e, e, z_shG_in (by omega) (by omega), hG, z_shG_out (by omega)]
        · rw [if_neg e, hG]
          by_cases e3 : 45 ≤ q ∧ q < 45 + b
          · rw [z_shG_in e3.1 e3.2, z_shG_in e3.1 (by omega)]
          · rw [z_shG_out (lo := 45) (n := b) (by omega), z_shG_out (lo := 45) (n := b + 1) (by omega)]
    have l1 : ∀ (k b : Nat) (hh : z_H) (g' : Nat → Int32), b + k = 3 → z_Mo hh a (z_mF m 1 g') → (∀ q, g' q = z_shG g 42 b (nI i) q) → z_Fr a 9 h hh → z_W G 2 0 0 179 17 [.ref a, .int (nI i), .int (nI b)] [] hh Q := by
      intro k
      induction k with
      | zero =>
        intro b hh g' hb hD hG hF
        obtain rfl : b = 3 := hb
        refine z_iload_n rfl rfl ?_
        refine z_iconst (v := 3) rfl (by decide) ?_
        refine z_icmp_ge rfl (fun c19 => ?_) (fun c19 => absurd (Int32.le_refl _) c19)
        refine z_iconst (v := 0) rfl (by decide) ?_
        refine z_istore_n rfl (by decide +kernel) rfl ?_
        exact l2 (v.2.1.1 0) 0 _ g' (by omega) hD (fun q => by rw [hG, z_shG_out (lo := 45) (n := 0) (by omega)]) hF
      | succ k ih =>
        intro b hh g' hb hD hG hF
        refine z_iload_n rfl rfl ?_
        refine z_iconst (v := 3) rfl (by decide) ?_
        refine z_icmp_ge rfl (fun c19 => absurd c19 (show ¬ nI 3 ≤ nI b from fun q9 => absurd ((nI_leI (by omega) (by omega)).mp q9) (by omega))) (fun c19 => ?_)
        refine z_aload_n rfl rfl ?_
        refine z_get rfl hD.1 rfl ?_
        refine z_bipush (v := 42) rfl (by decide) ?_
        refine z_iload_n rfl rfl ?_
        refine z_iadd rfl ?_
        refine z_aload_n rfl rfl ?_
        refine z_get rfl hD.1 rfl ?_
        refine z_bipush (v := 42) rfl (by decide) ?_
        refine z_iload_n rfl rfl ?_
        refine z_iadd rfl ?_
        refine z_ildE rfl (hD.g) (nI_add 42 (b)) (show _ < 105 by omega) ?_
        refine z_iload_n rfl rfl ?_
        refine z_callS (av := [_, _]) rfl z_w177 rfl rfl rfl rfl (Nat.le_of_ble_eq_true rfl) (Nat.le_of_ble_eq_true rfl) (Nat.le_of_ble_eq_true rfl) (Nat.le_of_ble_eq_true rfl) (cM_shifted ?_)
        refine z_istG rfl hD (nI_add 42 (b)) (show _ < 105 by omega) (fun h1 hC1 hF1 => ?_)
        refine z_iinc1 rfl rfl (by decide +kernel) rfl ?_
        refine z_goto rfl (ih (b + 1) _ _ (by omega) hC1 (fun q => ?_) (hF.trans hF1))
        unfold upd
        by_cases e : q = 42 + b
        · rw [if_pos e, e, z_shG_in (by omega) (by omega), hG, z_shG_out (by omega)]
        · rw [if_neg e, hG]
          by_cases e3 : 42 ≤ q ∧ q < 42 + b
          · rw [z_shG_in e3.1 e3.2, z_shG_in e3.1 (by omega)]
          · rw [z_shG_out (lo := 42) (n := b) (by omega), z_shG_out (lo := 42) (n := b + 1) (by omega)]
    refine z_aload_n rfl rfl ?_
    refine z_iload_n rfl rfl ?_
    refine z_callV (av := [_]) rfl z_w169 hM.1 rfl rfl rfl rfl rfl (Nat.le_of_ble_eq_true rfl) (Nat.le_of_ble_eq_true rfl) (Nat.le_of_ble_eq_true rfl) (Nat.le_of_ble_eq_true rfl) (cM_isClock hM hg hw.wz ?_)
    rw [e1]
    refine z_if_ne rfl (fun c5 => ?_) (fun c5 => absurd c5 (by decide))
    refine z_iconst (v := 0) rfl (by decide) ?_
    refine z_istore_n rfl (by decide +kernel) rfl ?_
    exact l1 3 0 _ g rfl hM (fun q => by rw [z_shG_out (by omega)]) (z_Fr.refl _ _ _)
end ZOpC
