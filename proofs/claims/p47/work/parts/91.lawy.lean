/-! The law's start: x and y, a text of orders against calls. -/
theorem z_kpE {x : z_PV} (hw : z_wf x.1) : z_fKeeper x (nI 1) = (0, x.1.1.2 4 1, x) := by
  unfold z_fKeeper z_a
  rw [hw.sk]
  rfl
section ZLy
variable {G : z_G} {Q : z_O → z_H → Prop} {h : z_H} {v : z_HV} {X Y : z_PV} {now kp : Int32} {q : Nat}
theorem c_s1 (hN : G.2.2.2.2.2.1 ≤ 260) (ev : v = (z_bld G).1) (en : now = z_st (z_fSave (z_bld G)).2.2) (ek : kp = v.1.2 4 1) (kk : ∀ h1 q, z_Pr h1 (z_fSave (z_bld G)).2.2 q (z_bld G) → z_W G 14 31500 1020000 338 28 [.ref 0, .ref 1000, .ref q, .int (nI (v.1.1 0)), .int now, .int kp, .retAddr 0, .retAddr 0, .retAddr 0, .retAddr 0] [] h1 Q) : z_W G 14 34500 1040000 338 0 (z_L0 338 [.ref 0]) [] (0, fun _ => none) Q := by
  have hb : z_nv (z_bld G) := z_nv.bld
  subst ev en ek
  refine z_aload_n rfl rfl ?_
  refine z_callS (av := [_]) rfl z_w174 rfl rfl rfl rfl (Nat.le_of_ble_eq_true rfl) (Nat.le_of_ble_eq_true rfl) (Nat.le_of_ble_eq_true rfl) (Nat.le_of_ble_eq_true rfl) (c_build (h := (0, fun _ => none)) hN fun h1 hP1 hs1 hk1 => ?_)
  rw [show (1000 + ((0, fun _ => none) : z_H).1 : Nat) = 1000 from rfl]
  have hP1' : z_P h1 1000 (fun k => 1288 ≤ k) (z_bld G) := hP1
  refine z_astore_n rfl (by decide +kernel) rfl ?_
  refine z_aload_n rfl rfl ?_
  refine z_callS (av := [_]) rfl z_w174 rfl rfl rfl rfl (Nat.le_of_ble_eq_true rfl) (Nat.le_of_ble_eq_true rfl) (Nat.le_of_ble_eq_true rfl) (Nat.le_of_ble_eq_true rfl) (c_build (h := h1) hN fun h2 hP2 hs2 hk2 => ?_)
  have hr2 := z_Pr.mk hP1' hP2 hk2 hs2
  generalize 1000 + h1.1 = q at hr2 ⊢
  obtain ⟨B2, hA2, b2⟩ := hr2.left
  refine z_astore_n rfl (by decide +kernel) rfl ?_
  refine z_aload_n rfl rfl ?_
  refine z_callV (av := []) rfl z_w157 hA2.cell.choose_spec rfl rfl rfl rfl rfl (Nat.le_of_ble_eq_true rfl) (Nat.le_of_ble_eq_true rfl) (Nat.le_of_ble_eq_true rfl) (Nat.le_of_ble_eq_true rfl) (cP_save hA2 fun h3 hP3 hX3 => ?_)
  have hr3 := b2 _ _ hP3 hX3
  obtain ⟨B3, hA3, b3⟩ := hr3.left
  refine z_istore_n rfl (by decide +kernel) rfl ?_
  refine z_aload_n rfl rfl ?_
  refine z_callS (av := [_]) rfl z_w176 rfl rfl rfl rfl (Nat.le_of_ble_eq_true rfl) (Nat.le_of_ble_eq_true rfl) (Nat.le_of_ble_eq_true rfl) (Nat.le_of_ble_eq_true rfl) (c_state (by show z_wf (z_bld G).1; exact hb.1) hA3 fun h4 hP4 hX4 => ?_)
  have hr4 := b3 _ _ hP4 hX4
  obtain ⟨B4, hA4, b4⟩ := hr4.left
  refine z_istore rfl (by decide +kernel) rfl ?_
  refine z_aload_n rfl rfl ?_
  refine z_iconst (v := nI 1) rfl (by decide) ?_
  refine z_callV (av := [_]) rfl z_w117 hA4.cell.choose_spec rfl rfl rfl rfl rfl (Nat.le_of_ble_eq_true rfl) (Nat.le_of_ble_eq_true rfl) (Nat.le_of_ble_eq_true rfl) (Nat.le_of_ble_eq_true rfl) (cP_keeper hA4 fun h5 hP5 hX5 => ?_)
  have hr5 := b4 _ _ hP5 hX5
  have e5 := z_kpE (x := (z_fSave (z_bld G)).2.2) hb.1
  refine z_kI (v := (z_bld G).1.1.2 4 1) (by rw [e5]) (by rw [e5]; rfl) ?_
  refine z_istore rfl (by decide +kernel) rfl ?_
  have w := (kk h5 q hr5).mono (mc' := 34500 - 600 - 600 - 0 - 572 - 4) (ms' := 1040000 - 4000 - 4000 - 0 - 3432 - 24) (Nat.le_refl _) (by omega) (by omega)
  exact w
/-- the text: "hour 2;key 1 " and who keeps key 1 now -/
theorem c_s2 (hX : X.2.2.2.2.2.1 = []) (hr : z_Pr h X q Y) (kk : ∀ h1 T, ((kp < 0 ∧ T = z_Tx0t) ∨ (¬ kp < 0 ∧ T = z_Tx1t)) → z_Pr h1 (z_ins X T) q Y → z_W G 14 29500 980000 338 67 [.ref 0, .ref 1000, .ref q, .int (nI (v.1.1 0)), .int now, .int kp, .retAddr 0, .retAddr 0, .retAddr 0, .retAddr 0] [] h1 Q) : z_W G 14 31500 1020000 338 28 [.ref 0, .ref 1000, .ref q, .int (nI (v.1.1 0)), .int now, .int kp, .retAddr 0, .retAddr 0, .retAddr 0, .retAddr 0] [] h Q := by
  have lw : 288 ≤ h.1 := by
    obtain ⟨B, hA, -⟩ := hr.left
    have := hA.low.2.2.2; omega
  refine z_aload_n rfl rfl ?_
  refine z_bdNew (mc' := 31490) (ms' := 1019900) rfl rfl rfl (by decide) (Nat.le_of_ble_eq_true rfl) (Nat.le_of_ble_eq_true rfl) rfl (fun h1 a hB1 => ?_)
  refine z_ldcS (i := 0) rfl rfl (by decide) rfl ?_
  refine z_bdS (mc' := 31480) (ms' := 1019000) rfl (by decide) (by decide +kernel) (by decide +kernel) hB1 (by decide) (Nat.le_of_ble_eq_true rfl) (Nat.le_of_ble_eq_true rfl) rfl (fun h2 hB2 => ?_)
  refine z_iload rfl rfl ?_
  have tail : ∀ (i : Nat) (T : List Nat) (g : z_H), T = (([] ++ z_lsc 0) ++ z_lsc i) ++ z_lsc 3 → i < z_lsn → (z_lsc i).length = 1 → T.length = 19 → (∀ c ∈ T, 32 ≤ c ∧ c ≤ 126) → ((kp < 0 ∧ T = z_Tx0t) ∨ (¬ kp < 0 ∧ T = z_Tx1t)) → z_Bd h g a (z_zc 16 (([] : List Nat).length + (z_lsc 0).length)) ([] ++ z_lsc 0) → z_W G 14 31480 1019000 338 53 [.ref 0, .ref 1000, .ref q, .int (nI (v.1.1 0)), .int now, .int kp, .retAddr 0, .retAddr 0, .retAddr 0, .retAddr 0] [.ref (40 + i), .ref a, .ref 1000] g Q := by
    intro i T g eT hi hi1 hT19 hTc hTk hB2
    have e0 : ([] ++ z_lsc 0 : List Nat).length = 13 := by decide +kernel
    have e3 : (z_lsc 3).length = 5 := by decide +kernel
    have ez : z_zc 16 (([] : List Nat).length + (z_lsc 0).length) = 16 := by decide +kernel
    rw [ez] at hB2
    refine z_bdS (mc' := 31470) (ms' := 1018000) rfl hi (by omega) (by decide) hB2 (by decide) (Nat.le_of_ble_eq_true rfl) (Nat.le_of_ble_eq_true rfl) rfl (fun h3 hB3 => ?_)
    rw [e0, hi1, show z_zc 16 (13 + 1) = 16 from rfl] at hB3
    refine z_ldcS (i := 3) rfl rfl (by decide) rfl ?_
    have e1 : (([] ++ z_lsc 0) ++ z_lsc i : List Nat).length = 14 := by rw [List.length_append, e0, hi1]
    refine z_bdS (mc' := 31460) (ms' := 1017000) rfl (by decide) (by rw [e1, e3]; decide) (by decide) hB3 (by decide) (Nat.le_of_ble_eq_true rfl) (Nat.le_of_ble_eq_true rfl) rfl (fun h4 hB4 => ?_)
    rw [e1, e3, show z_zc 16 (14 + 5) = 34 from rfl, ← eT] at hB4
    refine z_bdT (mc' := 31450) (ms' := 1016000) rfl (by omega) (by omega) (by decide) hB4 (by decide) (Nat.le_of_ble_eq_true rfl) (Nat.le_of_ble_eq_true rfl) rfl (fun h5 s hT5 s1 s2 s3 s4 => ?_)
    obtain ⟨B, hA, hnb, back⟩ := hr.leftT s3 s4
    refine z_callS (av := [_, _]) rfl z_w173 rfl rfl rfl rfl (Nat.le_of_ble_eq_true rfl) (Nat.le_of_ble_eq_true rfl) (Nat.le_of_ble_eq_true rfl) (Nat.le_of_ble_eq_true rfl) (c_lPut (l := T) (fun g hXg => hT5.keptX (hXg.2 _ (hnb _ (by omega) (by omega)) (Or.inr (by omega))) (hXg.2 _ (hnb _ (by omega) (by omega)) (Or.inr (by omega)))) hTc (by rw [hX, hT19]; decide) hA fun h6 hP6 hX6 => ?_)
    exact (kk h6 T hTk (back _ _ hP6 hX6)).mono (Nat.le_refl _) (Nat.le_of_ble_eq_true rfl) (Nat.le_of_ble_eq_true rfl)
  refine z_if_ge rfl (fun u => ?_) (fun u => ?_)
  · refine z_ldcS (i := 2) rfl rfl (by decide) rfl ?_
    exact tail 2 z_Tx1t h2 rfl (by decide) (by decide +kernel) (by decide +kernel) z_TxB.2.2.2 (Or.inr ⟨Int32.not_lt.mpr u, rfl⟩) hB2
  · refine z_ldcS (i := 1) rfl rfl (by decide) rfl ?_
    refine z_goto rfl ?_
    exact tail 1 z_Tx0t h2 rfl (by decide) (by decide +kernel) (by decide +kernel) z_TxB.2.2.1 (Or.inl ⟨Int32.not_le.mp u, rfl⟩) hB2
/-- orders against calls, where there is one to keep the key -/
theorem c_can {c : Int32} {T : List Nat} (hwX : z_wf X.1) (ev : v = X.1) (hXT : X.2.2.2.2.2.1 = T) (hXs : X.2.1 = v ∧ X.2.2.1 = true) (hXk : X.2.2.2.1 ≤ 8) (hY : Y.1 = v) (hYk : Y.2.2.2.1 ≤ 8) (ek : kp = v.1.2 4 1) (hn : ∀ Z : z_PV, Z.1 = v → z_st Z = now) (hc : (T = z_Tx0t ∧ c = 0 ∧ 0 < v.1.1 0 ∧ kp = -1) ∨ (T = z_Tx1t ∧ c = -1 ∧ ¬ kp = -1)) (hg : (kp < 0 ∧ c = 0) ∨ (0 ≤ kp ∧ c = -1)) (hr : z_Pr h X q Y) (kk : ∀ h1 B X1, z_P h1 1000 B X1 → z_xs v X1 → z_W G 14 23500 920000 338 236 [.ref 0, .ref 1000, .retAddr 0, .int (nI (v.1.1 0)), .int now, .retAddr 0, .retAddr 0, .retAddr 0, .retAddr 0, .retAddr 0] [] h1 Q) : z_W G 14 29500 980000 338 88 [.ref 0, .ref 1000, .ref q, .int (nI (v.1.1 0)), .int now, .int kp, .int 1, .retAddr 0, .retAddr 0, .retAddr 0] [] h Q := by
  have hw : z_wf v := by rw [ev]; exact hwX
  have eR : z_fRun X = (0, nI 3, z_setF (z_setI (z_dune X (z_g3 v c)) []) (-1)) := by
    rw [ev]
    refine z_run3 hXT hwX ?_
    rw [← ev]
    rcases hc with ⟨a1, a2, a3, a4⟩ | ⟨a1, a2, a3⟩
    · exact Or.inl ⟨a1, a2, a3, by rw [← ek]; exact a4⟩
    · exact Or.inr ⟨a1, a2, by rw [← ek]; exact a3⟩
  have rK : z_ref (z_g1 v) (2, 1, c, 0, 0) = none := z_rK hw (by
    rcases hc with ⟨a1, a2, a3, a4⟩ | ⟨a1, a2, a3⟩
    · exact Or.inl ⟨a2, a3, by rw [← ek]; exact a4⟩
    · exact Or.inr ⟨a2, by rw [← ek]; exact a3⟩)
  have w1 : z_wf (z_g1 v) := hw.do (o := (9, 2, 0, 0, 0)) (by decide) rfl
  have w2 : z_wf (z_g2 v c) := w1.do (o := (2, 1, c, 0, 0)) (show (2 : Nat) < 10 by decide) rK
  have w3 : z_wf (z_g3 v c) := w2.do (o := (9, 1, 0, 0, 0)) (by decide) rfl
  have eY1 : z_fChg Y (9, 2, 0, 0, 0) = (0, (z_hrs v 2).2.2 4 - v.2.2 4, z_dune Y (z_g1 v)) := by
    unfold z_fChg
    rw [hY]
    rfl
  have eY2 : z_fChg (z_dune Y (z_g1 v)) (2, 1, c, 0, 0) = (0, kp, z_dune (z_dune Y (z_g1 v)) (z_g2 v c)) := by
    have e9 : (z_do (z_g1 v) (2, 1, c, 0, 0)).2 = kp := by
      obtain ⟨k1, k2⟩ := z_hrs_k v 2
      have e1 : (z_g1 v).1.1 = v.1.1 := k1
      have e2 : (z_g1 v).1.2 4 = v.1.2 4 := k2
      show z_a (z_g1 v).1 4 1 = kp
      unfold z_a
      rw [e1, e2, hw.sk, ek]
      rfl
    show (match z_ref (z_g1 v) (2, 1, c, 0, 0) with
      | some pr => (1, 0, z_refu (z_dune Y (z_g1 v)) pr)
      | none => (0, (z_do (z_g1 v) (2, 1, c, 0, 0)).2, z_dune (z_dune Y (z_g1 v)) (z_do (z_g1 v) (2, 1, c, 0, 0)).1) : z_An) = _
    rw [rK, e9]
    rfl
  have eY3 : z_fChg (z_dune (z_dune Y (z_g1 v)) (z_g2 v c)) (9, 1, 0, 0, 0) = (0, (z_hrs (z_g2 v c) 1).2.2 4 - (z_g2 v c).2.2 4, z_dune (z_dune (z_dune Y (z_g1 v)) (z_g2 v c)) (z_g3 v c)) := rfl
  -- x runs the text
  obtain ⟨B1, hA1, b1⟩ := hr.left
  refine z_aload_n rfl rfl ?_
  refine z_callV (av := []) rfl z_w144 hA1.cell.choose_spec rfl rfl rfl rfl rfl (Nat.le_of_ble_eq_true rfl) (Nat.le_of_ble_eq_true rfl) (Nat.le_of_ble_eq_true rfl) (Nat.le_of_ble_eq_true rfl) (cP_run z_wf (fun v hv => hv.1) (fun v o hv hk hr => hv.do hk hr) hwX hA1 fun h1 hP1 hX1 => ?_)
  rw [eR] at hP1 ⊢
  have hr1 := b1 _ _ hP1 hX1
  refine z_kI rfl rfl ?_
  refine z_iconst (v := nI 3) rfl (by decide) ?_
  refine z_icmp_ne rfl (fun u => absurd rfl u) (fun _ => ?_)
  obtain ⟨X2, eX2⟩ : ∃ X2, X2 = z_setF (z_setI (z_dune X (z_g3 v c)) []) (-1) := ⟨_, rfl⟩
  have hr1 : z_Pr h1 X2 q Y := by rw [eX2]; exact hr1
  -- y is called
  obtain ⟨B2, hA2, b2⟩ := hr1.right
  refine z_aload_n rfl rfl ?_
  refine z_iconst (v := 2) rfl (by decide) ?_
  refine z_callV (av := [_]) rfl z_w113 hA2.cell.choose_spec rfl rfl rfl rfl rfl (Nat.le_of_ble_eq_true rfl) (Nat.le_of_ble_eq_true rfl) (Nat.le_of_ble_eq_true rfl) (Nat.le_of_ble_eq_true rfl) (cP_hour (by rw [hY]; exact hw.1) hA2 fun h2 hP2 hX2 => ?_)
  rw [eY1] at hP2 ⊢
  have hr2 := b2 _ _ hP2 hX2
  refine z_kI rfl rfl ?_
  refine z_if_lt rfl (fun u => absurd u (z_hourV hw (by decide))) (fun _ => ?_)
  obtain ⟨Y1, eYa⟩ : ∃ Y1, Y1 = z_dune Y (z_g1 v) := ⟨_, rfl⟩
  have hr2 : z_Pr h2 X2 q Y1 := by rw [eYa]; exact hr2
  rw [← eYa] at eY2 eY3
  obtain ⟨B3, hA3, b3⟩ := hr2.right
  refine z_aload_n rfl rfl ?_
  refine z_iconst (v := 1) rfl (by decide) ?_
  have k116 : z_W G 14 (29500 - 4 - 1) (980000 - 640 - 6) 338 116 [.ref 0, .ref 1000, .ref q, .int (nI (v.1.1 0)), .int now, .int kp, .int 1, .retAddr 0, .retAddr 0, .retAddr 0] [.int c, .int 1, .ref q] h2 Q := by
    refine z_callV (av := [_, _]) rfl z_w106 hA3.cell.choose_spec rfl rfl rfl rfl rfl (Nat.le_of_ble_eq_true rfl) (Nat.le_of_ble_eq_true rfl) (Nat.le_of_ble_eq_true rfl) (Nat.le_of_ble_eq_true rfl) (cP_key (by rw [eYa]; exact w1.1) hA3 fun h3 hP3 hX3 => ?_)
    rw [eY2] at hP3 ⊢
    have hr3 := b3 _ _ hP3 hX3
    refine z_kI rfl rfl ?_
    refine z_iload rfl rfl ?_
    refine z_icmp_ne rfl (fun u => absurd rfl u) (fun _ => ?_)
    obtain ⟨Y2, eYb⟩ : ∃ Y2, Y2 = z_dune Y1 (z_g2 v c) := ⟨_, rfl⟩
    have hr3 : z_Pr h3 X2 q Y2 := by rw [eYb]; exact hr3
    rw [← eYb] at eY3
    obtain ⟨B4, hA4, b4⟩ := hr3.right
    refine z_aload_n rfl rfl ?_
    refine z_iconst (v := 1) rfl (by decide) ?_
    refine z_callV (av := [_]) rfl z_w113 hA4.cell.choose_spec rfl rfl rfl rfl rfl (Nat.le_of_ble_eq_true rfl) (Nat.le_of_ble_eq_true rfl) (Nat.le_of_ble_eq_true rfl) (Nat.le_of_ble_eq_true rfl) (cP_hour (by rw [eYb]; exact w2.1) hA4 fun h4 hP4 hX4 => ?_)
    rw [eY3] at hP4 ⊢
    have hr4 := b4 _ _ hP4 hX4
    refine z_kI rfl rfl ?_
    refine z_if_lt rfl (fun u => absurd u (z_hourV w2 (by decide))) (fun _ => ?_)
    obtain ⟨Y3, eYc⟩ : ∃ Y3, Y3 = z_dune Y2 (z_g3 v c) := ⟨_, rfl⟩
    have hr4 : z_Pr h4 X2 q Y3 := by rw [eYc]; exact hr4
    have hX2h : X2.1 = z_g3 v c := by rw [eX2]; rfl
    have hY3h : Y3.1 = z_g3 v c := by rw [eYc]; rfl
    obtain ⟨B5, hA5, b5⟩ := hr4.left
    refine z_aload_n rfl rfl ?_
    refine z_callS (av := [_]) rfl z_w176 rfl rfl rfl rfl (Nat.le_of_ble_eq_true rfl) (Nat.le_of_ble_eq_true rfl) (Nat.le_of_ble_eq_true rfl) (Nat.le_of_ble_eq_true rfl) (c_state (by rw [hX2h]; exact w3) hA5 fun h5 hP5 hX5 => ?_)
    have hr5 := b5 _ _ hP5 hX5
    obtain ⟨B6, hA6, b6⟩ := hr5.right
    refine z_aload_n rfl rfl ?_
    refine z_callS (av := [_]) rfl z_w176 rfl rfl rfl rfl (Nat.le_of_ble_eq_true rfl) (Nat.le_of_ble_eq_true rfl) (Nat.le_of_ble_eq_true rfl) (Nat.le_of_ble_eq_true rfl) (c_state (by rw [hY3h]; exact w3) hA6 fun h6 hP6 hX6 => ?_)
    have hr6 := b6 _ _ hP6 hX6
    refine z_icmp_ne rfl (fun u => absurd (z_st_eq (hX2h.trans hY3h.symm)) u) (fun _ => ?_)
    obtain ⟨B7, hA7, b7⟩ := hr6.left
    refine z_aload_n rfl rfl ?_
    refine z_bipush (v := nI 12) rfl (by decide) ?_
    refine z_callV (av := [_]) rfl z_w153 hA7.cell.choose_spec rfl rfl rfl rfl rfl (Nat.le_of_ble_eq_true rfl) (Nat.le_of_ble_eq_true rfl) (Nat.le_of_ble_eq_true rfl) (Nat.le_of_ble_eq_true rfl) (cP_account hA7 fun h7 hP7 hX7 => ?_)
    have hr7 := b7 _ _ hP7 hX7
    have eA : z_fAccount X2 (nI 12) = (0, 0, X2) := by rw [eX2]; rfl
    rw [eA]
    refine z_kI rfl rfl ?_
    refine z_if_ne rfl (fun u => absurd rfl u) (fun _ => ?_)
    obtain ⟨B8, hA8, b8⟩ := hr7.left
    refine z_aload_n rfl rfl ?_
    refine z_callV (av := []) rfl z_w145 hA8.cell.choose_spec rfl rfl rfl rfl rfl (Nat.le_of_ble_eq_true rfl) (Nat.le_of_ble_eq_true rfl) (Nat.le_of_ble_eq_true rfl) (Nat.le_of_ble_eq_true rfl) (cP_faultPosition hA8 ?_)
    have eF : X2.2.2.2.2.2.2.2.2.2 = -1 := by rw [eX2]; rfl
    rw [eF]
    refine z_iconst (v := -1) rfl (by decide) ?_
    refine z_icmp_eq rfl (fun _ => ?_) (fun u => absurd rfl u)
    refine z_aload_n rfl rfl ?_
    refine z_bipush (v := nI 13) rfl (by decide) ?_
    refine z_callV (av := [_]) rfl z_w153 hA8.cell.choose_spec rfl rfl rfl rfl rfl (Nat.le_of_ble_eq_true rfl) (Nat.le_of_ble_eq_true rfl) (Nat.le_of_ble_eq_true rfl) (Nat.le_of_ble_eq_true rfl) (cP_account hA8 fun h9 hP9 hX9 => ?_)
    have hr9 := b8 _ _ hP9 hX9
    have eK : X2.2.2.2.1 = z_kpK X.2.2.2.1 := by rw [eX2]; rfl
    have eH : X2.2.2.2.2.1 = z_kpH X.2.2.2.1 X.2.2.2.2.1 v := by rw [eX2, ev]; rfl
    refine z_kI rfl (v := nI X2.2.2.2.1) rfl ?_
    refine z_istore rfl (by decide +kernel) rfl ?_
    have stk : z_stk X2.2.2.2.1 X2.2.2.2.2.1 [v] := by rw [eK, eH]; exact (z_stk0 _ _).push hXk (by simp)
    obtain ⟨eU, -⟩ := stk.undo
    have hk1 : 1 ≤ X2.2.2.2.1 := stk.1
    have hk8 : X2.2.2.2.1 ≤ 8 := by rw [eK]; exact z_kpK_le
    obtain ⟨BA, hAA, bA⟩ := hr9.left
    refine z_aload_n rfl rfl ?_
    refine z_callV (av := []) rfl z_w156 hAA.cell.choose_spec rfl rfl rfl rfl rfl (Nat.le_of_ble_eq_true rfl) (Nat.le_of_ble_eq_true rfl) (Nat.le_of_ble_eq_true rfl) (Nat.le_of_ble_eq_true rfl) (cP_undo hAA fun ha hPa hXa => ?_)
    rw [eU] at hPa ⊢
    have hra := bA _ _ hPa hXa
    refine z_kI rfl rfl ?_
    refine z_iload rfl rfl ?_
    refine z_iconst (v := nI 1) rfl (by decide) ?_
    refine z_isub rfl ?_
    rw [pk_sub (by omega)]
    refine z_icmp_ne rfl (fun u => absurd rfl u) (fun _ => ?_)
    obtain ⟨X3, eX3⟩ : ∃ X3 : z_PV, X3 = (v, X2.2.1, X2.2.2.1, X2.2.2.2.1 - 1, X2.2.2.2.2) := ⟨_, rfl⟩
    have hra : z_Pr ha X3 q Y3 := by rw [eX3]; exact hra
    have hX3v : X3.1 = v := by rw [eX3]
    have hX3s : z_xs v X3 := by rw [eX3, eX2]; exact ⟨rfl, rfl, hXs.1, hXs.2⟩
    obtain ⟨BB, hAB, bB⟩ := hra.left
    refine z_aload_n rfl rfl ?_
    refine z_callS (av := [_]) rfl z_w176 rfl rfl rfl rfl (Nat.le_of_ble_eq_true rfl) (Nat.le_of_ble_eq_true rfl) (Nat.le_of_ble_eq_true rfl) (Nat.le_of_ble_eq_true rfl) (c_state (by rw [hX3v]; exact hw) hAB fun hb hPb hXb => ?_)
    have hrb := bB _ _ hPb hXb
    refine z_iload rfl rfl ?_
    refine z_icmp_ne rfl (fun u => absurd (hn _ hX3v) u) (fun _ => ?_)
    have sY : z_stk Y3.2.2.2.1 Y3.2.2.2.2.1 [z_g2 v c, z_g1 v, v] := by
      have s1 : z_stk Y1.2.2.2.1 Y1.2.2.2.2.1 [v] := by
        have := (z_stk0 Y.2.2.2.1 Y.2.2.2.2.1).push (v := v) hYk (by simp)
        rw [eYa]; rw [← hY] at this ⊢; exact this
      have s2 : z_stk Y2.2.2.2.1 Y2.2.2.2.2.1 [z_g1 v, v] := by
        have := s1.push (v := z_g1 v) (by rw [eYa]; exact z_kpK_le) (by simp)
        rw [eYb]
        have e9 : Y1.1 = z_g1 v := by rw [eYa]; rfl
        show z_stk (z_kpK Y1.2.2.2.1) (z_kpH Y1.2.2.2.1 Y1.2.2.2.2.1 Y1.1) _
        rw [e9]; exact this
      have := s2.push (v := z_g2 v c) (by rw [eYb]; exact z_kpK_le) (by simp)
      rw [eYc]
      have e9 : Y2.1 = z_g2 v c := by rw [eYb]; rfl
      show z_stk (z_kpK Y2.2.2.2.1) (z_kpH Y2.2.2.2.1 Y2.2.2.2.2.1 Y2.1) _
      rw [e9]; exact this
    have hY3k : Y3.2.2.2.1 ≤ 8 := by rw [eYc]; exact z_kpK_le
    skip
    obtain ⟨eU0, sU0⟩ := sY.undo
    obtain ⟨BU0, hAU0, bU0⟩ := hrb.right
    refine z_aload_n rfl rfl ?_
    refine z_callV (av := []) rfl z_w156 hAU0.cell.choose_spec rfl rfl rfl rfl rfl (Nat.le_of_ble_eq_true rfl) (Nat.le_of_ble_eq_true rfl) (Nat.le_of_ble_eq_true rfl) (Nat.le_of_ble_eq_true rfl) (cP_undo hAU0 fun hc hPu0 hXu0 => ?_)
    rw [eU0] at hPu0 ⊢
    have hru0 := bU0 _ _ hPu0 hXu0
    refine z_kI rfl rfl ?_
    refine z_if_lt rfl (fun u => absurd u (nI_pos (by omega))) (fun _ => ?_)
    obtain ⟨Y4, eV0⟩ : ∃ Z : z_PV, Z = (z_g2 v c, Y3.2.1, Y3.2.2.1, Y3.2.2.2.1 - 1, Y3.2.2.2.2) := ⟨_, rfl⟩
    have hru0 : z_Pr hc X3 q Y4 := by rw [eV0]; exact hru0
    have sV0 : z_stk Y4.2.2.2.1 Y4.2.2.2.2.1 [z_g1 v, v] := by rw [eV0]; exact sU0
    have kV0 : Y4.2.2.2.1 ≤ 8 := by rw [eV0]; show Y3.2.2.2.1 - 1 ≤ 8; omega
    obtain ⟨eU1, sU1⟩ := sV0.undo
    obtain ⟨BU1, hAU1, bU1⟩ := hru0.right
    refine z_aload_n rfl rfl ?_
    refine z_callV (av := []) rfl z_w156 hAU1.cell.choose_spec rfl rfl rfl rfl rfl (Nat.le_of_ble_eq_true rfl) (Nat.le_of_ble_eq_true rfl) (Nat.le_of_ble_eq_true rfl) (Nat.le_of_ble_eq_true rfl) (cP_undo hAU1 fun hd hPu1 hXu1 => ?_)
    rw [eU1] at hPu1 ⊢
    have hru1 := bU1 _ _ hPu1 hXu1
    refine z_kI rfl rfl ?_
    refine z_if_lt rfl (fun u => absurd u (nI_pos (by omega))) (fun _ => ?_)
    obtain ⟨Y5, eV1⟩ : ∃ Z : z_PV, Z = (z_g1 v, Y4.2.1, Y4.2.2.1, Y4.2.2.2.1 - 1, Y4.2.2.2.2) := ⟨_, rfl⟩
    have hru1 : z_Pr hd X3 q Y5 := by rw [eV1]; exact hru1
    have sV1 : z_stk Y5.2.2.2.1 Y5.2.2.2.2.1 [v] := by rw [eV1]; exact sU1
    have kV1 : Y5.2.2.2.1 ≤ 8 := by rw [eV1]; show Y4.2.2.2.1 - 1 ≤ 8; omega
    obtain ⟨eU2, sU2⟩ := sV1.undo
    obtain ⟨BU2, hAU2, bU2⟩ := hru1.right
    refine z_aload_n rfl rfl ?_
    refine z_callV (av := []) rfl z_w156 hAU2.cell.choose_spec rfl rfl rfl rfl rfl (Nat.le_of_ble_eq_true rfl) (Nat.le_of_ble_eq_true rfl) (Nat.le_of_ble_eq_true rfl) (Nat.le_of_ble_eq_true rfl) (cP_undo hAU2 fun he hPu2 hXu2 => ?_)
    rw [eU2] at hPu2 ⊢
    have hru2 := bU2 _ _ hPu2 hXu2
    refine z_kI rfl rfl ?_
    refine z_if_lt rfl (fun u => absurd u (nI_pos (by omega))) (fun _ => ?_)
    obtain ⟨Y6, eV2⟩ : ∃ Z : z_PV, Z = (v, Y5.2.1, Y5.2.2.1, Y5.2.2.2.1 - 1, Y5.2.2.2.2) := ⟨_, rfl⟩
    have hru2 : z_Pr he X3 q Y6 := by rw [eV2]; exact hru2
    have sV2 : z_stk Y6.2.2.2.1 Y6.2.2.2.2.1 [] := by rw [eV2]; exact sU2
    have kV2 : Y6.2.2.2.1 ≤ 8 := by rw [eV2]; show Y5.2.2.2.1 - 1 ≤ 8; omega
    have hY6v : Y6.1 = v := by rw [eV2]
    obtain ⟨BF, hAF, bF⟩ := hru2.right
    refine z_aload_n rfl rfl ?_
    refine z_callS (av := [_]) rfl z_w176 rfl rfl rfl rfl (Nat.le_of_ble_eq_true rfl) (Nat.le_of_ble_eq_true rfl) (Nat.le_of_ble_eq_true rfl) (Nat.le_of_ble_eq_true rfl) (c_state (by rw [hY6v]; exact hw) hAF fun hf hPf hXf => ?_)
    have hrf := bF _ _ hPf hXf
    refine z_iload rfl rfl ?_
    refine z_icmp_eq rfl (fun _ => ?_) (fun u => absurd (hn _ hY6v) u)
    refine z_goto rfl ?_
    obtain ⟨BG, hAG, -⟩ := hrf.left
    exact (z_LLx (kk _ _ _ hAG hX3s)).mono (Nat.le_refl _) (Nat.le_of_ble_eq_true rfl) (Nat.le_of_ble_eq_true rfl)
  rcases hg with ⟨g1, rfl⟩ | ⟨g1, rfl⟩
  · refine z_iload rfl rfl ?_
    refine z_if_ge rfl (fun u => absurd g1 (Int32.not_lt.mpr u)) (fun _ => ?_)
    refine z_iconst (v := 0) rfl (by decide) ?_
    refine z_goto rfl ?_
    exact k116
  · refine z_iload rfl rfl ?_
    refine z_if_ge rfl (fun _ => ?_) (fun u => absurd g1 u)
    refine z_iconst (v := -1) rfl (by decide) ?_
    exact k116
theorem c_s3 {T : List Nat} (hwX : z_wf X.1) (ev : v = X.1) (hXT : X.2.2.2.2.2.1 = T) (hXs : X.2.1 = v ∧ X.2.2.1 = true) (hXk : X.2.2.2.1 ≤ 8) (hY : Y.1 = v) (hYk : Y.2.2.2.1 ≤ 8) (ek : kp = v.1.2 4 1) (hn : ∀ Z : z_PV, Z.1 = v → z_st Z = now) (hT : (kp < 0 ∧ T = z_Tx0t) ∨ (¬ kp < 0 ∧ T = z_Tx1t)) (hr : z_Pr h X q Y) (kk : ∀ h1 B X1, z_P h1 1000 B X1 → z_xs v X1 → z_W G 14 23500 920000 338 236 [.ref 0, .ref 1000, .retAddr 0, .int (nI (v.1.1 0)), .int now, .retAddr 0, .retAddr 0, .retAddr 0, .retAddr 0, .retAddr 0] [] h1 Q) : z_W G 14 29500 980000 338 67 [.ref 0, .ref 1000, .ref q, .int (nI (v.1.1 0)), .int now, .int kp, .retAddr 0, .retAddr 0, .retAddr 0, .retAddr 0] [] h Q := by
  have hw : z_wf v := by rw [ev]; exact hwX
  have n8 := hw.nc
  have hk := hw.2.2.2.2.1 1 (by decide)
  rw [← ek] at hk
  refine z_iload rfl rfl ?_
  rcases hT with ⟨t1, t2⟩ | ⟨t1, t2⟩
  · have e1 : kp = -1 := by
      rcases hk with e | ⟨j, hj, e⟩
      · exact e
      · rw [e] at t1; exact absurd t1 (nI_pos (by omega))
    refine z_if_ge rfl (fun u => absurd t1 (Int32.not_lt.mpr u)) (fun _ => ?_)
    refine z_iload_n rfl rfl ?_
    refine z_if_le rfl (fun u => ?_) (fun u => ?_)
    · have n0 : v.1.1 0 = 0 := by
        have := (nI_leI (a := v.1.1 0) (b := 0) (by omega) (by decide)).mp u; omega
      have eR : z_fRun X = (2, 0, z_setF (z_setR (z_setI X []) (11, nI 1) (2, 0)) (-1)) := z_run0 (hXT.trans t2) hwX (by rw [← ev]; exact n0)
      have eV : z_rnV X = -2 := by unfold z_rnV; rw [eR]; rfl
      refine z_iconst (v := 0) rfl (by decide) ?_
      refine z_istore rfl (by decide +kernel) rfl ?_
      refine z_iload rfl rfl ?_
      refine z_if_eq rfl (fun _ => ?_) (fun u => absurd rfl u)
      obtain ⟨B1, hA1, b1⟩ := hr.left
      refine z_aload_n rfl rfl ?_
      refine z_callSX (av := [_]) rfl z_w178 rfl rfl rfl rfl (Nat.le_of_ble_eq_true rfl) (Nat.le_of_ble_eq_true rfl) (Nat.le_of_ble_eq_true rfl) (Nat.le_of_ble_eq_true rfl) (c_runs hwX hA1 fun h1 hP1 hX1 => ?_)
      rw [eV]
      rw [eR] at hP1
      have hr1 := b1 _ _ hP1 hX1
      refine z_bipush (v := -2) rfl (by decide) ?_
      refine z_icmp_eq rfl (fun _ => ?_) (fun u => absurd rfl u)
      obtain ⟨B2, hA2, -⟩ := hr1.left
      exact (z_LLx (kk _ _ _ hA2 ⟨ev.symm, rfl, hXs.1, hXs.2⟩)).mono (Nat.le_refl _) (Nat.le_of_ble_eq_true rfl) (Nat.le_of_ble_eq_true rfl)
    · refine z_iconst (v := 1) rfl (by decide) ?_
      refine z_goto rfl ?_
      refine z_istore rfl (by decide +kernel) rfl ?_
      refine z_iload rfl rfl ?_
      refine z_if_eq rfl (fun u => absurd u (by decide)) (fun _ => ?_)
      have n0 : 0 < v.1.1 0 := Nat.pos_of_ne_zero fun e => u (by rw [e]; decide)
      exact c_can hwX ev hXT hXs hXk hY hYk ek hn (Or.inl ⟨t2, rfl, n0, e1⟩) (Or.inl ⟨t1, rfl⟩) hr kk
  · have e1 : ¬ kp = -1 := fun e => t1 (by rw [e]; decide)
    refine z_if_ge rfl (fun u => ?_) (fun u => absurd (Int32.not_lt.mp t1) u)
    refine z_iconst (v := 1) rfl (by decide) ?_
    refine z_goto rfl ?_
    refine z_istore rfl (by decide +kernel) rfl ?_
    refine z_iload rfl rfl ?_
    refine z_if_eq rfl (fun u => absurd u (by decide)) (fun _ => ?_)
    exact c_can hwX ev hXT hXs hXk hY hYk ek hn (Or.inr ⟨t2, rfl, e1⟩) (Or.inr ⟨u, rfl⟩) hr kk
end ZLy
