/-! votes. -/
theorem z_updS (g : Nat → Int32) (k : Nat) : upd g k (g k) = g := funext fun j => by
  unfold upd
  split
  · rename_i e; rw [e]
  · rfl
theorem z_lean {k : Nat} (hk : k < 4) : (2 : Int32) * nI k - 3 = nI k - (3 - nI k) := by
  have : ∀ k, k < 4 → (2 : Int32) * nI k - 3 = nI k - (3 - nI k) := by decide
  exact this k hk
theorem z_wf.ab {v : z_HV} (hw : z_wf v) {b : Nat} (hb : b < v.2.1.1 0) : z_rng (z_a v.2.1 1 (nI b)) 60 := by
  have := hw.nb
  rw [z_aI (by rw [hw.sb (by decide)]; exact hb) (by rw [hw.sb (by decide)]; omega)]; exact (hw.2.2.2.2.2.1 b hb).2.1
theorem z_wvE {v : z_HV} {c b : Nat} (hw : z_wf v) (hc : c < v.1.1 0) (hb : b < v.2.1.1 0) : z_wv v.1 (nI c) (z_a v.2.1 1 (nI b)) = (decide (0 < z_a v.1 1 (nI c)) && decide (z_apt (z_a v.1 0 (nI c)) (z_a v.2.1 1 (nI b)) ≤ 20)) := by
  rw [z_aptE (hw.se hc) (hw.ab hb)]; rfl
section ZOpF
variable {G : z_G} {h : z_H} {Q : z_O → z_H → Prop} {a : Nat} {m : z_MV} {v : z_HV} {g : Nat → Int32}
theorem cM_votersOn {b : Nat} (hM : z_Mo h a (z_mF m 1 g)) (hg : z_gOk v g) (hw : z_wf v) (hb : b < v.2.1.1 0) (q : Q (.inl (some (.int (z_vts v (nI b))))) h) : z_W G 1 0 0 199 0 (z_L0 199 [.ref a, .int (nI b)]) [] h Q := by
  have h8 := hw.nc
  have h10 := hw.nb
  have ea : g (55 + b) = z_a v.2.1 1 (nI b) := hg.bl hw.wz (j := 1) (by decide) (by decide) hb
  have loop : ∀ (k i : Nat) (s : Int32), i + k = v.1.1 0 → s = z_bits (fun i => z_wv v.1 (nI i) (z_a v.2.1 1 (nI b))) i → z_W G 1 0 0 199 4 [.ref a, .int (nI b), .int s, .int (nI i)] [] h Q := by
    intro k
    induction k with
    | zero =>
      intro i s hi hs
      obtain rfl : i = v.1.1 0 := hi
      refine z_iload_n rfl rfl ?_
      refine z_aload_n rfl rfl ?_
      refine z_get rfl hM.1 rfl ?_
      refine z_iconst (v := 0) rfl (by decide) ?_
      refine z_ildE rfl (hM.g) (k := 0) rfl (show _ < 105 by omega) ?_
      rw [hg.c0]
      refine z_icmp_ge rfl (fun c11 => ?_) (fun c11 => absurd (Int32.le_refl _) c11)
      refine z_iload_n rfl rfl ?_
      refine z_iret rfl rfl ?_
      rw [hs]; exact q
    | succ k ih =>
      intro i s hi hs
      have es : g (18 + i) = z_a v.1 1 (nI i) := hg.cl hw.wz (j := 1) (by decide) (by omega)
      have et : g (10 + i) = z_a v.1 0 (nI i) := hg.cl hw.wz (j := 0) (by decide) (by omega)
      have stp : z_bits (fun i => z_wv v.1 (nI i) (z_a v.2.1 1 (nI b))) (i + 1) = if z_wv v.1 (nI i) (z_a v.2.1 1 (nI b)) = true then s ||| (1 <<< (nI i &&& 31)) else s := by rw [hs]; rfl
      rw [z_wvE hw (by omega) hb] at stp
      refine z_iload_n rfl rfl ?_
      refine z_aload_n rfl rfl ?_
      refine z_get rfl hM.1 rfl ?_
      refine z_iconst (v := 0) rfl (by decide) ?_
      refine z_ildE rfl (hM.g) (k := 0) rfl (show _ < 105 by omega) ?_
      rw [hg.c0]
      refine z_icmp_ge rfl (fun c11 => absurd c11 (fun q9 => absurd ((nI_leI (by omega) (by omega)).mp q9) (by omega))) (fun c11 => ?_)
      refine z_iload_n rfl rfl ?_
      refine z_aload_n rfl rfl ?_
      refine z_get rfl hM.1 rfl ?_
      refine z_bipush (v := 18) rfl (by decide) ?_
      refine z_iload_n rfl rfl ?_
      refine z_iadd rfl ?_
      refine z_ildE rfl (hM.g) (nI_add 18 (i)) (show _ < 105 by omega) ?_
      rw [es]
      refine z_if_le rfl (fun c24 => ?_) (fun c24 => ?_)
      · refine z_iconst (v := 0) rfl (by decide) ?_
        refine z_ior rfl ?_
        refine z_istore_n rfl (by decide +kernel) rfl ?_
        refine z_iinc1 rfl rfl (by decide +kernel) rfl ?_
        refine z_goto rfl (ih (i + 1) _ (by omega) ?_)
        rw [stp, if_neg (fun e => absurd (of_decide_eq_true (Bool.and_eq_true_iff.mp e).1) (Int32.not_lt.mpr c24)), Int32.or_zero]
      · refine z_aload_n rfl rfl ?_
        refine z_get rfl hM.1 rfl ?_
        refine z_bipush (v := 10) rfl (by decide) ?_
        refine z_iload_n rfl rfl ?_
        refine z_iadd rfl ?_
        refine z_ildE rfl (hM.g) (nI_add 10 (i)) (show _ < 105 by omega) ?_
        rw [et]
        refine z_aload_n rfl rfl ?_
        refine z_get rfl hM.1 rfl ?_
        refine z_bipush (v := 55) rfl (by decide) ?_
        refine z_iload_n rfl rfl ?_
        refine z_iadd rfl ?_
        refine z_ildE rfl (hM.g) (nI_add 55 (b)) (show _ < 105 by omega) ?_
        rw [ea]
        refine z_callS (av := [_, _]) rfl z_w173 rfl rfl rfl rfl (Nat.le_of_ble_eq_true rfl) (Nat.le_of_ble_eq_true rfl) (Nat.le_of_ble_eq_true rfl) (Nat.le_of_ble_eq_true rfl) (cM_apartBy ?_)
        refine z_bipush (v := 20) rfl (by decide) ?_
        refine z_icmp_gt rfl (fun c50 => ?_) (fun c50 => ?_)
        · refine z_iconst (v := 0) rfl (by decide) ?_
          refine z_ior rfl ?_
          refine z_istore_n rfl (by decide +kernel) rfl ?_
          refine z_iinc1 rfl rfl (by decide +kernel) rfl ?_
          refine z_goto rfl (ih (i + 1) _ (by omega) ?_)
          rw [stp, if_neg (fun e => absurd (of_decide_eq_true (Bool.and_eq_true_iff.mp e).2) (Int32.not_le.mpr c50)), Int32.or_zero]
        · refine z_iconst (v := 1) rfl (by decide) ?_
          refine z_iload_n rfl rfl ?_
          refine z_ishl rfl ?_
          refine z_goto rfl ?_
          refine z_ior rfl ?_
          refine z_istore_n rfl (by decide +kernel) rfl ?_
          refine z_iinc1 rfl rfl (by decide +kernel) rfl ?_
          refine z_goto rfl (ih (i + 1) _ (by omega) ?_)
          rw [stp, if_pos (Bool.and_eq_true_iff.mpr ⟨decide_eq_true (Int32.not_le.mp c24), decide_eq_true (Int32.not_lt.mp c50)⟩)]
  refine z_iconst (v := 0) rfl (by decide) ?_
  refine z_istore_n rfl (by decide +kernel) rfl ?_
  refine z_iconst (v := nI 0) rfl (by decide) ?_
  refine z_istore_n rfl (by decide +kernel) rfl ?_
  exact loop (v.1.1 0) 0 0 (by omega) rfl
theorem cM_majorityOf {s : Int32} (hM : z_Mo h a (z_mF m 1 g)) (hg : z_gOk v g) (hw : z_wf v) (q : Q (.inl (some (.int (z_mjo v.1 s)))) h) : z_W G 0 0 0 200 0 (z_L0 200 [.ref a, .int s]) [] h Q := by
  have h8 := hw.nc
  have loop : ∀ (k i : Nat) (t : Int32), i + k = v.1.1 0 → t = z_fold (fun m i => if z_isIn s (nI i) = true then m + (z_a v.1 2 (nI i) - (3 - z_a v.1 2 (nI i))) else m) 0 i → z_W G 0 0 0 200 4 [.ref a, .int s, .int t, .int (nI i)] [] h Q := by
    intro k
    induction k with
    | zero =>
      intro i t hi ht
      obtain rfl : i = v.1.1 0 := hi
      refine z_iload_n rfl rfl ?_
      refine z_aload_n rfl rfl ?_
      refine z_get rfl hM.1 rfl ?_
      refine z_iconst (v := 0) rfl (by decide) ?_
      refine z_ildE rfl (hM.g) (k := 0) rfl (show _ < 105 by omega) ?_
      rw [hg.c0]
      refine z_icmp_ge rfl (fun c11 => ?_) (fun c11 => absurd (Int32.le_refl _) c11)
      refine z_iload_n rfl rfl ?_
      refine z_iret rfl rfl ?_
      rw [ht]; exact q
    | succ k ih =>
      intro i t hi ht
      have el : g (26 + i) = z_a v.1 2 (nI i) := hg.cl hw.wz (j := 2) (by decide) (by omega)
      obtain ⟨l, hl, el2⟩ := hw.le (c := i) (by omega)
      refine z_iload_n rfl rfl ?_
      refine z_aload_n rfl rfl ?_
      refine z_get rfl hM.1 rfl ?_
      refine z_iconst (v := 0) rfl (by decide) ?_
      refine z_ildE rfl (hM.g) (k := 0) rfl (show _ < 105 by omega) ?_
      rw [hg.c0]
      refine z_icmp_ge rfl (fun c11 => absurd c11 (fun q9 => absurd ((nI_leI (by omega) (by omega)).mp q9) (by omega))) (fun c11 => ?_)
      refine z_iload_n rfl rfl ?_
      refine z_iload_n rfl rfl ?_
      refine z_iload_n rfl rfl ?_
      refine z_ishr rfl ?_
      refine z_iconst (v := 1) rfl (by decide) ?_
      refine z_iand rfl ?_
      rw [z_inBit]
      refine z_iconst (v := 2) rfl (by decide) ?_
      refine z_aload_n rfl rfl ?_
      refine z_get rfl hM.1 rfl ?_
      refine z_bipush (v := 26) rfl (by decide) ?_
      refine z_iload_n rfl rfl ?_
      refine z_iadd rfl ?_
      refine z_ildE rfl (hM.g) (nI_add 26 (i)) (show _ < 105 by omega) ?_
      rw [el, el2]
      refine z_imul rfl ?_
      refine z_iconst (v := 3) rfl (by decide) ?_
      refine z_isub rfl ?_
      refine z_imul rfl ?_
      refine z_iadd rfl ?_
      refine z_istore_n rfl (by decide +kernel) rfl ?_
      refine z_iinc1 rfl rfl (by decide +kernel) rfl ?_
      refine z_goto rfl (ih (i + 1) _ (by omega) ?_)
      show _ = if z_isIn s (nI i) = true then z_fold _ 0 i + (z_a v.1 2 (nI i) - (3 - z_a v.1 2 (nI i))) else z_fold _ 0 i
      rw [← ht, el2, z_lean hl]
      split
      · rw [Int32.one_mul]
      · rw [Int32.zero_mul, Int32.add_zero]
  refine z_iconst (v := 0) rfl (by decide) ?_
  refine z_istore_n rfl (by decide +kernel) rfl ?_
  refine z_iconst (v := nI 0) rfl (by decide) ?_
  refine z_istore_n rfl (by decide +kernel) rfl ?_
  exact loop (v.1.1 0) 0 0 (by omega) rfl
def z_chV (v : z_HV) (s : Int32) (i : Nat) : z_HV := z_upW (z_fold (z_gvS s) v.1 i, v.2.1, v.2.2) 3 (v.2.2 3 + 3 * nI (z_cnt (fun j => z_isIn s (nI j)) i))
theorem z_chV_1 (v : z_HV) (s : Int32) (i : Nat) : (z_chV v s i).1.1 = v.1.1 := z_gv_1 s v.1 i
theorem z_wz.ch {v : z_HV} (hw : z_wz v) (s : Int32) (i : Nat) : z_wz (z_chV v s i) := by
  have e := z_chV_1 v s i
  refine ⟨⟨fun j hj => ?_, ?_, hw.1.2.2⟩, ?_, hw.2.2⟩
  · rw [e]; exact hw.1.1 j hj
  · rw [e]; exact hw.1.2.1
  · rw [e]; exact hw.2.1
theorem z_gOk.chS {s : Int32} {i : Nat} {x y z : Int32} (hg : z_gOk (z_chV v s i) g) (hw : z_wz v) (hi : i < v.1.1 0) (hx : x = g (18 + i) - (if z_isIn s (nI i) = true then 1 else 0)) (hy : y = g (34 + i) + (if z_isIn s (nI i) = true then 1 else 0)) (hz : z = g 6 + 3 * (if z_isIn s (nI i) = true then 1 else 0)) : z_gOk (z_chV v s (i + 1)) (upd (upd (upd g (18 + i) x) (34 + i) y) 6 z) := by
  have h8 := hw.nc
  have hi' : i < (z_chV v s i).1.1 0 := by rw [z_chV_1]; exact hi
  have w1 := hw.ch s i
  by_cases e : z_isIn s (nI i) = true
  · rw [if_pos e] at hx hy hz
    have e1 : g (18 + i) = z_a (z_chV v s i).1 1 (nI i) := hg.cl w1 (j := 1) (by decide) hi'
    have e3 : g (34 + i) = z_a (z_chV v s i).1 3 (nI i) := hg.cl w1 (j := 3) (by decide) hi'
    have e6 : g 6 = v.2.2 3 + 3 * nI (z_cnt (fun j => z_isIn s (nI j)) i) := hg.2.1.1 3 (by decide)
    have g1 := hg.putC w1 (j := 1) (x := x) (by decide) hi'
    have g2 := g1.putC w1 (j := 3) (x := y) (by decide) hi'
    have g3 := g2.cnt w1 (k := 3) (x := z) (by decide) (by decide) (by decide)
    refine (congrArg (fun w => z_gOk w _) ?_).mp g3
    have ez : z = v.2.2 3 + 3 * nI (z_cnt (fun j => z_isIn s (nI j)) (i + 1)) := by
      have ec : z_cnt (fun j => z_isIn s (nI j)) (i + 1) = z_cnt (fun j => z_isIn s (nI j)) i + 1 := by
        show _ + (if z_isIn s (nI i) = true then 1 else 0) = _
        rw [if_pos e]
      rw [hz, e6, ec, ← nI_1, Int32.mul_add, Int32.add_assoc]
    have ef : z_fold (z_gvS s) v.1 (i + 1) = z_gvL (z_fold (z_gvS s) v.1 i) (nI i) := if_pos e
    have eL : z_putL (z_putL (z_fold (z_gvS s) v.1 i) 1 (nI i) x) 3 (nI i) y = z_fold (z_gvS s) v.1 (i + 1) := by
      rw [ef, hx, hy, e1, e3, Int32.sub_eq_add_neg]
      rfl
    refine Prod.ext eL (Prod.ext rfl (funext fun j => ?_))
    show (if j = 3 then z else if j = 3 then v.2.2 3 + 3 * nI (z_cnt (fun j => z_isIn s (nI j)) i) else v.2.2 j) = if j = 3 then v.2.2 3 + 3 * nI (z_cnt (fun j => z_isIn s (nI j)) (i + 1)) else v.2.2 j
    by_cases q : j = 3
    · rw [if_pos q, if_pos q, ez]
    · rw [if_neg q, if_neg q, if_neg q]
  · rw [if_neg e] at hx hy hz
    have ec : z_cnt (fun j => z_isIn s (nI j)) (i + 1) = z_cnt (fun j => z_isIn s (nI j)) i := by
      show _ + (if z_isIn s (nI i) = true then 1 else 0) = _
      rw [if_neg e]; rfl
    have ef : z_fold (z_gvS s) v.1 (i + 1) = z_fold (z_gvS s) v.1 i := if_neg e
    have eg : upd (upd (upd g (18 + i) x) (34 + i) y) 6 z = g := by
      rw [hx, hy, hz, Int32.sub_zero, Int32.add_zero, Int32.mul_zero, Int32.add_zero, z_updS, z_updS, z_updS]
    rw [eg]
    unfold z_chV
    rw [ec, ef]
    exact hg
theorem cM_chime {s : Int32} (hM : z_Mo h a (z_mF m 1 g)) (hg : z_gOk v g) (hw : z_wz v) (q : ∀ h' g', z_Mo h' a (z_mF m 1 g') → z_gOk (z_chV v s (v.1.1 0)) g' → z_Fr a 9 h h' → Q (.inl none) h') : z_W G 0 0 0 201 0 (z_L0 201 [.ref a, .int s]) [] h Q := by
  have h8 := hw.nc
  have loop : ∀ (k i : Nat) (x : Value) (hh : z_H) (g' : Nat → Int32), i + k = v.1.1 0 → z_Mo hh a (z_mF m 1 g') → z_gOk (z_chV v s i) g' → z_Fr a 9 h hh → z_W G 0 0 0 201 2 [.ref a, .int s, .int (nI i), x] [] hh Q := by
    intro k
    induction k with
    | zero =>
      intro i x hh g' hi hD hG hF
      obtain rfl : i = v.1.1 0 := hi
      have e0 : g' 0 = nI (v.1.1 0) := by rw [hG.c0, z_chV_1]
      refine z_iload_n rfl rfl ?_
      refine z_aload_n rfl rfl ?_
      refine z_get rfl hD.1 rfl ?_
      refine z_iconst (v := 0) rfl (by decide) ?_
      refine z_ildE rfl (hD.g) (k := 0) rfl (show _ < 105 by omega) ?_
      rw [e0]
      refine z_icmp_ge rfl (fun c9 => ?_) (fun c9 => absurd (Int32.le_refl _) c9)
      refine z_vret rfl rfl ?_
      exact q _ _ hD hG hF
    | succ k ih =>
      intro i x hh g' hi hD hG hF
      have e0 : g' 0 = nI (v.1.1 0) := by rw [hG.c0, z_chV_1]
      refine z_iload_n rfl rfl ?_
      refine z_aload_n rfl rfl ?_
      refine z_get rfl hD.1 rfl ?_
      refine z_iconst (v := 0) rfl (by decide) ?_
      refine z_ildE rfl (hD.g) (k := 0) rfl (show _ < 105 by omega) ?_
      rw [e0]
      refine z_icmp_ge rfl (fun c9 => absurd c9 (fun q9 => absurd ((nI_leI (by omega) (by omega)).mp q9) (by omega))) (fun c9 => ?_)
      refine z_iload_n rfl rfl ?_
      refine z_iload_n rfl rfl ?_
      refine z_ishr rfl ?_
      refine z_iconst (v := 1) rfl (by decide) ?_
      refine z_iand rfl ?_
      rw [z_inBit]
      refine z_istore_n rfl (by decide +kernel) rfl ?_
      refine z_aload_n rfl rfl ?_
      refine z_get rfl hD.1 rfl ?_
      refine z_bipush (v := 18) rfl (by decide) ?_
      refine z_iload_n rfl rfl ?_
      refine z_iadd rfl ?_
      refine z_dup2 rfl rfl rfl ?_
      refine z_ildE rfl (hD.g) (nI_add 18 (i)) (show _ < 105 by omega) ?_
      refine z_iload_n rfl rfl ?_
      refine z_isub rfl ?_
      refine z_istG rfl hD (nI_add 18 (i)) (show _ < 105 by omega) (fun h1 hC1 hF1 => ?_)
      refine z_aload_n rfl rfl ?_
      refine z_get rfl hC1.1 rfl ?_
      refine z_bipush (v := 34) rfl (by decide) ?_
      refine z_iload_n rfl rfl ?_
      refine z_iadd rfl ?_
      refine z_dup2 rfl rfl rfl ?_
      refine z_ildE rfl (hC1.g) (nI_add 34 (i)) (show _ < 105 by omega) ?_
      rw [z_updN _ _ (by omega)]
      refine z_iload_n rfl rfl ?_
      refine z_iadd rfl ?_
      refine z_istG rfl hC1 (nI_add 34 (i)) (show _ < 105 by omega) (fun h2 hC2 hF2 => ?_)
      refine z_aload_n rfl rfl ?_
      refine z_get rfl hC2.1 rfl ?_
      refine z_bipush (v := 6) rfl (by decide) ?_
      refine z_dup2 rfl rfl rfl ?_
      refine z_ildE rfl (hC2.g) (k := 6) rfl (show _ < 105 by omega) ?_
      rw [z_updN _ _ (by omega), z_updN _ _ (by omega)]
      refine z_iconst (v := 3) rfl (by decide) ?_
      refine z_iload_n rfl rfl ?_
      refine z_imul rfl ?_
      refine z_iadd rfl ?_
      refine z_istG rfl hC2 (k := 6) rfl (show _ < 105 by omega) (fun h3 hC3 hF3 => ?_)
      refine z_iinc1 rfl rfl (by decide +kernel) rfl ?_
      refine z_goto rfl (ih (i + 1) _ _ _ (by omega) hC3 (hG.chS hw (by omega) rfl rfl rfl) (hF.trans ((hF1.trans hF2).trans hF3)))
  refine z_iconst (v := nI 0) rfl (by decide) ?_
  refine z_istore_n rfl (by decide +kernel) rfl ?_
  refine loop (v.1.1 0) 0 _ _ g (by omega) hM ?_ (z_Fr.refl _ _ _)
  refine (congrArg (fun w => z_gOk w _) ?_).mp hg
  show v = (v.1, v.2.1, fun j => if j = 3 then v.2.2 3 + 3 * nI 0 else v.2.2 j)
  refine Prod.ext rfl (Prod.ext rfl (funext fun j => ?_))
  show v.2.2 j = if j = 3 then v.2.2 3 + 3 * nI 0 else v.2.2 j
  split
  · rename_i e; rw [e, nI_0, Int32.mul_zero, Int32.add_zero]
  · rfl
end ZOpF
