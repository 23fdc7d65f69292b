/-! The model's first changes: comes, gives, winds, moves. -/
theorem z_wayN {i j : Nat} (hi : i < 1000) (hj : j < 1000) : z_way (nI i) (nI j) = nI (if j < i then i - j else j - i) := by
  unfold z_way
  by_cases h : j < i
  · rw [pk_sub (by omega), if_pos h, if_neg (nI_pos (by omega))]
  · rw [if_neg h]
    by_cases e : i = j
    · subst e
      rw [pk_sub (Nat.le_refl _), if_neg (nI_pos (by omega))]
    · rw [if_pos (pk_sneg (by omega) (by omega)), Int32.neg_sub, pk_sub (by omega)]
theorem z_aptE {x y : Int32} (hx : z_rng x 60) (hy : z_rng y 60) : z_apt x y = z_sb x y := by
  obtain ⟨i, hi, rfl⟩ := hx
  obtain ⟨j, hj, rfl⟩ := hy
  have e1 : (if nI j < nI i then nI i - nI j else nI j - nI i) = nI (if j < i then i - j else j - i) := by
    by_cases h : j < i
    · rw [if_pos ((nI_ltI (by omega) (by omega)).mpr h), if_pos h, pk_sub (by omega)]
    · rw [if_neg (fun q => h ((nI_ltI (by omega) (by omega)).mp q)), if_neg h, pk_sub (by omega)]
  unfold z_apt z_sb
  rw [e1, z_wayN (by omega) (by omega)]
  have hd : (if j < i then i - j else j - i) < 60 := by split <;> omega
  generalize (if j < i then i - j else j - i) = d at hd
  have e2 : (60 : Int32) - nI d = nI (60 - d) := pk_sub (a := 60) (by omega)
  rw [e2]
  by_cases h : 30 < d
  · rw [if_pos (show (30 : Int32) < nI d from (nI_ltI (a := 30) (by decide) (by omega)).mpr h), if_pos ((nI_ltI (by omega) (by omega)).mpr (by omega))]
  · rw [if_neg (show ¬ (30 : Int32) < nI d from fun q => h ((nI_ltI (a := 30) (by decide) (by omega)).mp q)), if_neg (fun q => absurd ((nI_ltI (by omega) (by omega)).mp q) (by omega))]
theorem z_wf.se {v : z_HV} (hw : z_wf v) {c : Nat} (hc : c < v.1.1 0) : z_rng (z_a v.1 0 (nI c)) 60 := by
  have := hw.nc
  rw [z_aI hc]; exact (hw.2.2.2.1 c hc).1
theorem z_wf.sp {v : z_HV} (hw : z_wf v) {c : Nat} (hc : c < v.1.1 0) : z_rng (z_a v.1 1 (nI c)) 25 := by
  have := hw.nc
  rw [z_aI (by rw [hw.sc (by decide)]; exact hc) (by rw [hw.sc (by decide)]; omega)]; exact (hw.2.2.2.1 c hc).2.1
theorem z_wf.le {v : z_HV} (hw : z_wf v) {c : Nat} (hc : c < v.1.1 0) : z_rng (z_a v.1 2 (nI c)) 4 := by
  have := hw.nc
  rw [z_aI (by rw [hw.sc (by decide)]; exact hc) (by rw [hw.sc (by decide)]; omega)]; exact (hw.2.2.2.1 c hc).2.2
theorem z_wf.ke {v : z_HV} (hw : z_wf v) {k : Nat} (hk : k < 3) : z_kOk (v.1.1 0) (z_a v.1 4 (nI k)) := by
  rw [z_aI (by rw [hw.sk]; exact hk) (by rw [hw.sk]; decide)]; exact hw.2.2.2.2.1 k hk
theorem z_dnM.of {m : z_MV} {g : Nat → Int32} : z_dnM m (z_mS (z_mF m 1 g) 16 0) := ⟨fun _ hi => if_neg hi, rfl, fun _ hj => if_neg hj⟩
/-- what an operation of the model does: refused for the same reason, or done alike -/
def z_opQ (v : z_HV) (o : z_OV) (h : z_H) (a : Nat) (m : z_MV) (Q : z_O → z_H → Prop) : Prop := (∀ pr, z_ref v o = some pr → ∀ h', z_Mo h' a (z_mRf m pr) → z_Fr a 9 h h' → Q (.inl (some (.int 0))) h') ∧ (z_ref v o = none → ∀ h' m', z_Mo h' a m' → z_dnM m m' → z_gOk (z_do v o).1 (m'.2 1) → z_Fr a 9 h h' → Q (.inl (some (.int (z_do v o).2))) h')
section ZOp
variable {G : z_G} {h : z_H} {Q : z_O → z_H → Prop} {a : Nat} {m : z_MV} {v : z_HV}
theorem cM_isClock {c : Int32} (hM : z_Mo h a m) (hg : z_gOk v (m.2 1)) (hw : z_wz v) (q : Q (.inl (some (.int (z_I (z_has c (v.1.1 0)))))) h) : z_W G 1 0 0 169 0 (z_L0 169 [.ref a, .int c]) [] h Q := by
  have h8 := hw.nc
  refine z_iload_n rfl rfl ?_
  refine z_iconst (v := 0) rfl (by decide) ?_
  refine z_aload_n rfl rfl ?_
  refine z_get rfl hM.1 rfl ?_
  refine z_iconst (v := 0) rfl (by decide) ?_
  refine z_ildE rfl (hM.2 1 (by decide)) (k := 0) rfl (show _ < 105 by omega) ?_
  rw [hg.c0]
  refine z_iconst (v := 1) rfl (by decide) ?_
  refine z_isub rfl ?_
  refine z_callS (av := [_, _, _]) rfl z_w162 rfl rfl rfl rfl (Nat.le_of_ble_eq_true rfl) (Nat.le_of_ble_eq_true rfl) (Nat.le_of_ble_eq_true rfl) (Nat.le_of_ble_eq_true rfl) (cM_in ?_)
  refine z_zret (ty := .boolean) rfl rfl (by first | decide | exact z_nb _) ?_
  rw [z_inHas (by omega)]; exact q
theorem cM_isBill {c : Int32} (hM : z_Mo h a m) (hg : z_gOk v (m.2 1)) (hw : z_wz v) (q : Q (.inl (some (.int (z_I (z_has c (v.2.1.1 0)))))) h) : z_W G 1 0 0 170 0 (z_L0 170 [.ref a, .int c]) [] h Q := by
  have h8 := hw.nb
  refine z_iload_n rfl rfl ?_
  refine z_iconst (v := 0) rfl (by decide) ?_
  refine z_aload_n rfl rfl ?_
  refine z_get rfl hM.1 rfl ?_
  refine z_iconst (v := 1) rfl (by decide) ?_
  refine z_ildE rfl (hM.2 1 (by decide)) (k := 1) rfl (show _ < 105 by omega) ?_
  rw [hg.b0]
  refine z_iconst (v := 1) rfl (by decide) ?_
  refine z_isub rfl ?_
  refine z_callS (av := [_, _, _]) rfl z_w162 rfl rfl rfl rfl (Nat.le_of_ble_eq_true rfl) (Nat.le_of_ble_eq_true rfl) (Nat.le_of_ble_eq_true rfl) (Nat.le_of_ble_eq_true rfl) (cM_in ?_)
  refine z_zret (ty := .boolean) rfl rfl (by first | decide | exact z_nb _) ?_
  rw [z_inHas (by omega)]; exact q
theorem cM_isKey {c : Int32} (q : Q (.inl (some (.int (z_I (z_has c 3))))) h) : z_W G 1 0 0 171 0 (z_L0 171 [.int c]) [] h Q := by
  refine z_iload_n rfl rfl ?_
  refine z_iconst (v := 0) rfl (by decide) ?_
  refine z_iconst (v := 2) rfl (by decide) ?_
  refine z_callS (av := [_, _, _]) rfl z_w162 rfl rfl rfl rfl (Nat.le_of_ble_eq_true rfl) (Nat.le_of_ble_eq_true rfl) (Nat.le_of_ble_eq_true rfl) (Nat.le_of_ble_eq_true rfl) (cM_in ?_)
  refine z_zret (ty := .boolean) rfl rfl (by first | decide | exact z_nb _) ?_
  rw [z_inKey]; exact q
theorem cM_in0 {c : Int32} (q : Q (.inl (some (.int (z_I (z_inR c 0 59))))) h) : z_W G 1 0 0 172 0 (z_L0 172 [.int c]) [] h Q := by
  refine z_iload_n rfl rfl ?_
  refine z_iconst (v := 0) rfl (by decide) ?_
  refine z_bipush (v := 59) rfl (by decide) ?_
  refine z_callS (av := [_, _, _]) rfl z_w162 rfl rfl rfl rfl (Nat.le_of_ble_eq_true rfl) (Nat.le_of_ble_eq_true rfl) (Nat.le_of_ble_eq_true rfl) (Nat.le_of_ble_eq_true rfl) (cM_in ?_)
  refine z_zret (ty := .boolean) rfl rfl (by first | decide | exact z_nb _) ?_
  exact q
theorem cM_clocksApart {c d : Nat} (hM : z_Mo h a m) (hg : z_gOk v (m.2 1)) (hw : z_wf v) (hc : c < v.1.1 0) (hd : d < v.1.1 0) (q : Q (.inl (some (.int (z_sb (z_a v.1 0 (nI c)) (z_a v.1 0 (nI d)))))) h) : z_W G 1 0 0 174 0 (z_L0 174 [.ref a, .int (nI c), .int (nI d)]) [] h Q := by
  have h8 := hw.nc
  have e1 : m.2 1 (10 + c) = z_a v.1 0 (nI c) := hg.cl hw.wz (j := 0) (by decide) hc
  have e2 : m.2 1 (10 + d) = z_a v.1 0 (nI d) := hg.cl hw.wz (j := 0) (by decide) hd
  refine z_aload_n rfl rfl ?_
  refine z_get rfl hM.1 rfl ?_
  refine z_bipush (v := 10) rfl (by decide) ?_
  refine z_iload_n rfl rfl ?_
  refine z_iadd rfl ?_
  refine z_ildE rfl (hM.2 1 (by decide)) (nI_add 10 (c)) (show _ < 105 by omega) ?_
  rw [e1]
  refine z_aload_n rfl rfl ?_
  refine z_get rfl hM.1 rfl ?_
  refine z_bipush (v := 10) rfl (by decide) ?_
  refine z_iload_n rfl rfl ?_
  refine z_iadd rfl ?_
  refine z_ildE rfl (hM.2 1 (by decide)) (nI_add 10 (d)) (show _ < 105 by omega) ?_
  rw [e2]
  refine z_callS (av := [_, _]) rfl z_w173 rfl rfl rfl rfl (Nat.le_of_ble_eq_true rfl) (Nat.le_of_ble_eq_true rfl) (Nat.le_of_ble_eq_true rfl) (Nat.le_of_ble_eq_true rfl) (cM_apartBy ?_)
  refine z_iret rfl rfl ?_
  rw [z_aptE (hw.se hc) (hw.se hd)]; exact q
theorem z_inN {x lo hi : Int32} (e : z_inR x lo hi = false) : x < lo ∨ hi < x := z_inNot.mp e
theorem z_inY {x lo hi : Int32} (e : z_inR x lo hi = true) : ¬ (x < lo ∨ hi < x) := fun q => by rw [z_inNot.mpr q] at e; exact Bool.noConfusion e
theorem z_gOk.come {g : Nat → Int32} {x s l : Int32} (hg : z_gOk v g) (hw : z_wz v) (h8 : v.1.1 0 < 8) (hx : x = nI (v.1.1 0) + 1) : z_gOk (z_come v.1 s l, v.2.1, v.2.2) (upd (upd (upd (upd (upd g (10 + v.1.1 0) s) (18 + v.1.1 0) 24) (26 + v.1.1 0) l) (34 + v.1.1 0) 0) 0 x) := by
  obtain ⟨⟨a1, a2, a3⟩, ⟨a4, a5⟩, a6, a7, a8, a9, a10⟩ := hg
  have h10 := hw.nb
  have hnr := hw.nr
  have s1 := hw.sc (j := 1) (by decide)
  have s2 := hw.sc (j := 2) (by decide)
  have s3 := hw.sc (j := 3) (by decide)
  have up : ∀ q, q ≠ 10 + v.1.1 0 → q ≠ 18 + v.1.1 0 → q ≠ 26 + v.1.1 0 → q ≠ 34 + v.1.1 0 → q ≠ 0 → upd (upd (upd (upd (upd g (10 + v.1.1 0) s) (18 + v.1.1 0) 24) (26 + v.1.1 0) l) (34 + v.1.1 0) 0) 0 x q = g q := fun q q1 q2 q3 q4 q5 => by
    rw [z_updN _ _ q5, z_updN _ _ q4, z_updN _ _ q3, z_updN _ _ q2, z_updN _ _ q1]
  refine ⟨⟨?_, ?_, ?_⟩, ⟨fun k hk => ?_, ?_⟩, fun j i hj hi => ?_, fun k hk => ?_, fun b hb => ?_, fun j b h0 hj hb => ?_, fun r hr => ?_⟩
  · rw [z_updE (α := Nat), hx, nI_1]; rfl
  · exact (up 1 (by omega) (by omega) (by omega) (by omega) (by omega)).trans a2
  · exact (up 9 (by omega) (by omega) (by omega) (by omega) (by omega)).trans a3
  · have := z_ciB hk
    exact (up _ (by omega) (by omega) (by omega) (by omega) (by omega)).trans (a4 k hk)
  · exact (up 5 (by omega) (by omega) (by omega) (by omega) (by omega)).trans a5
  · have hi2 : i < v.1.1 0 + 1 := hi
    have cs : j = 0 ∨ j = 1 ∨ j = 2 ∨ j = 3 := by omega
    by_cases e : i = v.1.1 0
    · subst e
      rcases cs with rfl | rfl | rfl | rfl
      · rw [z_updN _ _ (by omega), z_updN _ _ (by omega), z_updN _ _ (by omega), z_updN _ _ (by omega), z_updE (α := Nat)]
        exact (z_updE (α := Nat) (v.1.2 0) _ _).symm
      · rw [z_updN _ _ (by omega), z_updN _ _ (by omega), z_updN _ _ (by omega), z_updE (α := Nat)]
        show _ = upd (v.1.2 1) (v.1.1 1) 24 (v.1.1 0)
        rw [s1, z_updE (α := Nat)]
      · rw [z_updN _ _ (by omega), z_updN _ _ (by omega), z_updE (α := Nat)]
        show _ = upd (v.1.2 2) (v.1.1 2) l (v.1.1 0)
        rw [s2, z_updE (α := Nat)]
      · rw [z_updN _ _ (by omega), z_updE (α := Nat)]
        show _ = upd (v.1.2 3) (v.1.1 3) 0 (v.1.1 0)
        rw [s3, z_updE (α := Nat)]
    · rw [up _ (by omega) (by omega) (by omega) (by omega) (by omega), a6 j i hj (by omega)]
      rcases cs with rfl | rfl | rfl | rfl
      · exact (z_updN (v.1.2 0) _ e).symm
      · show _ = upd (v.1.2 1) (v.1.1 1) 24 i
        rw [s1, z_updN _ _ e]
      · show _ = upd (v.1.2 2) (v.1.1 2) l i
        rw [s2, z_updN _ _ e]
      · show _ = upd (v.1.2 3) (v.1.1 3) 0 i
        rw [s3, z_updN _ _ e]
  · exact (up _ (by omega) (by omega) (by omega) (by omega) (by omega)).trans (a7 k hk)
  · have hb2 : b < v.2.1.1 0 := hb
    exact (up _ (by omega) (by omega) (by omega) (by omega) (by omega)).trans (a8 b hb)
  · have hb2 : b < v.2.1.1 0 := hb
    exact (up _ (by omega) (by omega) (by omega) (by omega) (by omega)).trans (a9 j b h0 hj hb)
  · have hr2 : r < v.2.1.1 5 := hr
    exact (up _ (by omega) (by omega) (by omega) (by omega) (by omega)).trans (a10 r hr)
theorem cM_comes {s l t u : Int32} (hM : z_Mo h a m) (hg : z_gOk v (m.2 1)) (hw : z_wf v) (q : z_opQ v (0, s, l, t, u) h a m Q) : z_W G 2 0 0 175 0 (z_L0 175 [.ref a, .int s, .int l]) [] h Q := by
  have h8 := hw.nc
  cases e1 : z_inR s 0 59 with
  | false =>
    refine z_iload_n rfl rfl ?_
    refine z_callS (av := [_]) rfl z_w172 rfl rfl rfl rfl (Nat.le_of_ble_eq_true rfl) (Nat.le_of_ble_eq_true rfl) (Nat.le_of_ble_eq_true rfl) (Nat.le_of_ble_eq_true rfl) (cM_in0 ?_)
    rw [e1]
    refine z_if_eq rfl (fun c4 => ?_) (fun c4 => absurd rfl c4)
    refine z_aload_n rfl rfl ?_
    refine z_iconst (v := 3) rfl (by decide) ?_
    refine z_iload_n rfl rfl ?_
    refine z_callS (av := [_]) rfl z_w172 rfl rfl rfl rfl (Nat.le_of_ble_eq_true rfl) (Nat.le_of_ble_eq_true rfl) (Nat.le_of_ble_eq_true rfl) (Nat.le_of_ble_eq_true rfl) (cM_in0 ?_)
    rw [e1]
    refine z_if_eq rfl (fun c22 => ?_) (fun c22 => absurd rfl c22)
    refine z_iload_n rfl rfl ?_
    refine z_callV (av := [_, _]) rfl z_w165 hM.1 rfl rfl rfl rfl rfl (Nat.le_of_ble_eq_true rfl) (Nat.le_of_ble_eq_true rfl) (Nat.le_of_ble_eq_true rfl) (Nat.le_of_ble_eq_true rfl) (cM_refused hM (fun h9 hM9 hF9 => ?_))
    refine z_iret rfl rfl ?_
    exact q.1 (3, s) (if_pos (z_inN e1)) _ hM9 ((z_Fr.refl _ _ _).trans hF9)
  | true =>
    cases e2 : z_inR l 0 3 with
    | false =>
      refine z_iload_n rfl rfl ?_
      refine z_callS (av := [_]) rfl z_w172 rfl rfl rfl rfl (Nat.le_of_ble_eq_true rfl) (Nat.le_of_ble_eq_true rfl) (Nat.le_of_ble_eq_true rfl) (Nat.le_of_ble_eq_true rfl) (cM_in0 ?_)
      rw [e1]
      refine z_if_eq rfl (fun c4 => absurd c4 (by decide)) (fun c4 => ?_)
      refine z_iload_n rfl rfl ?_
      refine z_iconst (v := 0) rfl (by decide) ?_
      refine z_iconst (v := 3) rfl (by decide) ?_
      refine z_callS (av := [_, _, _]) rfl z_w162 rfl rfl rfl rfl (Nat.le_of_ble_eq_true rfl) (Nat.le_of_ble_eq_true rfl) (Nat.le_of_ble_eq_true rfl) (Nat.le_of_ble_eq_true rfl) (cM_in ?_)
      rw [e2]
      refine z_if_ne rfl (fun c13 => absurd (by decide) c13) (fun c13 => ?_)
      refine z_aload_n rfl rfl ?_
      refine z_iconst (v := 3) rfl (by decide) ?_
      refine z_iload_n rfl rfl ?_
      refine z_callS (av := [_]) rfl z_w172 rfl rfl rfl rfl (Nat.le_of_ble_eq_true rfl) (Nat.le_of_ble_eq_true rfl) (Nat.le_of_ble_eq_true rfl) (Nat.le_of_ble_eq_true rfl) (cM_in0 ?_)
      rw [e1]
      refine z_if_eq rfl (fun c22 => absurd c22 (by decide)) (fun c22 => ?_)
      refine z_iload_n rfl rfl ?_
      refine z_goto rfl ?_
      refine z_callV (av := [_, _]) rfl z_w165 hM.1 rfl rfl rfl rfl rfl (Nat.le_of_ble_eq_true rfl) (Nat.le_of_ble_eq_true rfl) (Nat.le_of_ble_eq_true rfl) (Nat.le_of_ble_eq_true rfl) (cM_refused hM (fun h9 hM9 hF9 => ?_))
      refine z_iret rfl rfl ?_
      exact q.1 (3, l) ((if_neg (z_inY e1)).trans (if_pos (z_inN e2))) _ hM9 ((z_Fr.refl _ _ _).trans hF9)
    | true =>
      by_cases hf : v.1.1 0 = 8
      · skip
        refine z_iload_n rfl rfl ?_
        refine z_callS (av := [_]) rfl z_w172 rfl rfl rfl rfl (Nat.le_of_ble_eq_true rfl) (Nat.le_of_ble_eq_true rfl) (Nat.le_of_ble_eq_true rfl) (Nat.le_of_ble_eq_true rfl) (cM_in0 ?_)
        rw [e1]
        refine z_if_eq rfl (fun c4 => absurd c4 (by decide)) (fun c4 => ?_)
        refine z_iload_n rfl rfl ?_
        refine z_iconst (v := 0) rfl (by decide) ?_
        refine z_iconst (v := 3) rfl (by decide) ?_
        refine z_callS (av := [_, _, _]) rfl z_w162 rfl rfl rfl rfl (Nat.le_of_ble_eq_true rfl) (Nat.le_of_ble_eq_true rfl) (Nat.le_of_ble_eq_true rfl) (Nat.le_of_ble_eq_true rfl) (cM_in ?_)
        rw [e2]
        refine z_if_ne rfl (fun c13 => ?_) (fun c13 => absurd c13 (by decide))
        refine z_aload_n rfl rfl ?_
        refine z_get rfl hM.1 rfl ?_
        refine z_iconst (v := 0) rfl (by decide) ?_
        refine z_ildE rfl (hM.2 1 (by decide)) (k := 0) rfl (show _ < 105 by omega) ?_
        rw [hg.c0, hf]
        refine z_istore_n rfl (by decide +kernel) rfl ?_
        refine z_iload_n rfl rfl ?_
        refine z_bipush (v := 8) rfl (by decide) ?_
        refine z_icmp_ne rfl (fun c44 => absurd rfl c44) (fun c44 => ?_)
        refine z_aload_n rfl rfl ?_
        refine z_iconst (v := 1) rfl (by decide) ?_
        refine z_bipush (v := 8) rfl (by decide) ?_
        refine z_callV (av := [_, _]) rfl z_w165 hM.1 rfl rfl rfl rfl rfl (Nat.le_of_ble_eq_true rfl) (Nat.le_of_ble_eq_true rfl) (Nat.le_of_ble_eq_true rfl) (Nat.le_of_ble_eq_true rfl) (cM_refused hM (fun h9 hM9 hF9 => ?_))
        refine z_iret rfl rfl ?_
        exact q.1 (1, 8) ((if_neg (z_inY e1)).trans ((if_neg (z_inY e2)).trans (if_neg (by rw [hf]; decide)))) _ hM9 ((z_Fr.refl _ _ _).trans hF9)
      · skip
        refine z_iload_n rfl rfl ?_
        refine z_callS (av := [_]) rfl z_w172 rfl rfl rfl rfl (Nat.le_of_ble_eq_true rfl) (Nat.le_of_ble_eq_true rfl) (Nat.le_of_ble_eq_true rfl) (Nat.le_of_ble_eq_true rfl) (cM_in0 ?_)
        rw [e1]
        refine z_if_eq rfl (fun c4 => absurd c4 (by decide)) (fun c4 => ?_)
        refine z_iload_n rfl rfl ?_
        refine z_iconst (v := 0) rfl (by decide) ?_
        refine z_iconst (v := 3) rfl (by decide) ?_
        refine z_callS (av := [_, _, _]) rfl z_w162 rfl rfl rfl rfl (Nat.le_of_ble_eq_true rfl) (Nat.le_of_ble_eq_true rfl) (Nat.le_of_ble_eq_true rfl) (Nat.le_of_ble_eq_true rfl) (cM_in ?_)
        rw [e2]
        refine z_if_ne rfl (fun c13 => ?_) (fun c13 => absurd c13 (by decide))
        refine z_aload_n rfl rfl ?_
        refine z_get rfl hM.1 rfl ?_
        refine z_iconst (v := 0) rfl (by decide) ?_
        refine z_ildE rfl (hM.2 1 (by decide)) (k := 0) rfl (show _ < 105 by omega) ?_
        rw [hg.c0]
        refine z_istore_n rfl (by decide +kernel) rfl ?_
        refine z_iload_n rfl rfl ?_
        refine z_bipush (v := 8) rfl (by decide) ?_
        refine z_icmp_ne rfl (fun c44 => ?_) (fun c44 => absurd c44 (fun q9 => hf ((nI_eq (b := 8) (by omega) (by decide)).mp q9)))
        refine z_aload_n rfl rfl ?_
        refine z_get rfl hM.1 rfl ?_
        refine z_bipush (v := 10) rfl (by decide) ?_
        refine z_iload_n rfl rfl ?_
        refine z_iadd rfl ?_
        refine z_iload_n rfl rfl ?_
        refine z_istM (j := 1) rfl hM (by decide) (nI_add 10 (v.1.1 0)) (show _ < 105 by omega) (fun h1 hC1 hF1 => ?_)
        refine z_aload_n rfl rfl ?_
        refine z_get rfl hC1.1 rfl ?_
        refine z_bipush (v := 18) rfl (by decide) ?_
        refine z_iload_n rfl rfl ?_
        refine z_iadd rfl ?_
        refine z_bipush (v := 24) rfl (by decide) ?_
        refine z_istM (j := 1) rfl hC1 (by decide) (nI_add 18 (v.1.1 0)) (show _ < 105 by omega) (fun h2 hC2 hF2 => ?_)
        refine z_aload_n rfl rfl ?_
        refine z_get rfl hC2.1 rfl ?_
        refine z_bipush (v := 26) rfl (by decide) ?_
        refine z_iload_n rfl rfl ?_
        refine z_iadd rfl ?_
        refine z_iload_n rfl rfl ?_
        refine z_istM (j := 1) rfl hC2 (by decide) (nI_add 26 (v.1.1 0)) (show _ < 105 by omega) (fun h3 hC3 hF3 => ?_)
        refine z_aload_n rfl rfl ?_
        refine z_get rfl hC3.1 rfl ?_
        refine z_bipush (v := 34) rfl (by decide) ?_
        refine z_iload_n rfl rfl ?_
        refine z_iadd rfl ?_
        refine z_iconst (v := 0) rfl (by decide) ?_
        refine z_istM (j := 1) rfl hC3 (by decide) (nI_add 34 (v.1.1 0)) (show _ < 105 by omega) (fun h4 hC4 hF4 => ?_)
        refine z_aload_n rfl rfl ?_
        refine z_get rfl hC4.1 rfl ?_
        refine z_iconst (v := 0) rfl (by decide) ?_
        refine z_dup2 rfl rfl rfl ?_
        refine z_ildE rfl (hC4.2 1 (by decide)) (k := 0) rfl (show _ < 105 by omega) ?_
        refine z_iconst (v := 1) rfl (by decide) ?_
        refine z_iadd rfl ?_
        refine z_istM (j := 1) rfl hC4 (by decide) (k := 0) rfl (show _ < 105 by omega) (fun h5 hC5 hF5 => ?_)
        refine z_aload_n rfl rfl ?_
        refine z_iload_n rfl rfl ?_
        refine z_callV (av := [_]) rfl z_w163 hC5.1 rfl rfl rfl rfl rfl (Nat.le_of_ble_eq_true rfl) (Nat.le_of_ble_eq_true rfl) (Nat.le_of_ble_eq_true rfl) (Nat.le_of_ble_eq_true rfl) (cM_done hC5 (fun h9 hM9 hF9 => ?_))
        refine z_iret rfl rfl ?_
        refine q.2 ((if_neg (z_inY e1)).trans ((if_neg (z_inY e2)).trans (if_pos ((nI_ltI (b := 8) (by omega) (by decide)).mpr (by omega))))) _ _ hM9 ⟨fun i hi => if_neg hi, rfl, fun j hj => ?_⟩ (hg.come hw.wz (by omega) ?_) (((((hF1.trans hF2).trans hF3).trans hF4).trans hF5).trans hF9)
        · simp [z_mF, z_mS, hj]
        · show upd (upd (upd (upd (m.2 1) _ _) _ _) _ _) _ _ 0 + 1 = _
          rw [z_updN _ _ (by omega), z_updN _ _ (by omega), z_updN _ _ (by omega), z_updN _ _ (by omega), hg.c0]
end ZOp
