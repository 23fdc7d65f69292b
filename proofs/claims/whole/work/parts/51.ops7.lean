/-! The vote. -/
theorem z_gOk.held {v : z_HV} {g : Nat → Int32} {c x y z : Int32} (hg : z_gOk v g) (hw : z_wz v) (hx : x = g 3 + 1) (hy : y = g 4 + c) (hz : z = g 5 + (1 - c)) : z_gOk (z_upW (z_upW v 1 (v.2.2 1 + 1)) 2 (v.2.2 2 + c)) (upd (upd (upd g 3 x) 4 y) 5 z) := by
  obtain ⟨⟨a1, a2, a3⟩, ⟨a4, a5⟩, a6, a7, a8, a9, a10⟩ := hg
  have up : ∀ q, q ≠ 3 → q ≠ 4 → q ≠ 5 → upd (upd (upd g 3 x) 4 y) 5 z q = g q := fun q h1 h2 h3 => by
    rw [z_updN _ _ h3, z_updN _ _ h2, z_updN _ _ h1]
  have h8 := hw.nc
  have h10 := hw.nb
  have hnr := hw.nr
  have b1 : g 3 = v.2.2 1 := a4 1 (by decide)
  have b2 : g 4 = v.2.2 2 := a4 2 (by decide)
  refine ⟨⟨?_, ?_, ?_⟩, ⟨fun k hk => ?_, ?_⟩, fun j k hj hk => ?_, fun k hk => ?_, fun b hb => ?_, fun j b h0 hj hb => ?_, fun q hq => ?_⟩
  · exact (up 0 (by omega) (by omega) (by omega)).trans a1
  · exact (up 1 (by omega) (by omega) (by omega)).trans a2
  · exact (up 9 (by omega) (by omega) (by omega)).trans a3
  · have c6 : k = 0 ∨ k = 1 ∨ k = 2 ∨ k = 3 ∨ k = 4 ∨ k = 5 := by omega
    rcases c6 with rfl | rfl | rfl | rfl | rfl | rfl
    · exact (up 2 (by omega) (by omega) (by omega)).trans (a4 0 (by decide))
    · show upd (upd (upd g 3 x) 4 y) 5 z 3 = v.2.2 1 + 1
      rw [z_updN _ _ (by omega), z_updN _ _ (by omega), z_updE (α := Nat), hx, b1]
    · show upd (upd (upd g 3 x) 4 y) 5 z 4 = v.2.2 2 + c
      rw [z_updN _ _ (by omega), z_updE (α := Nat), hy, b2]
    · exact (up 6 (by omega) (by omega) (by omega)).trans (a4 3 (by decide))
    · exact (up 7 (by omega) (by omega) (by omega)).trans (a4 4 (by decide))
    · exact (up 8 (by omega) (by omega) (by omega)).trans (a4 5 (by decide))
  · show upd (upd (upd g 3 x) 4 y) 5 z 5 = (v.2.2 1 + 1) - (v.2.2 2 + c)
    rw [z_updE (α := Nat), hz, a5]
    simp only [Int32.sub_eq_add_neg, Int32.neg_add]
    ac_rfl
  · have hk2 : k < v.1.1 0 := hk
    exact (up _ (by omega) (by omega) (by omega)).trans (a6 j k hj hk2)
  · exact (up _ (by omega) (by omega) (by omega)).trans (a7 k hk)
  · have hb2 : b < v.2.1.1 0 := hb
    exact (up _ (by omega) (by omega) (by omega)).trans (a8 b hb2)
  · have hb2 : b < v.2.1.1 0 := hb
    exact (up _ (by omega) (by omega) (by omega)).trans (a9 j b h0 hj hb2)
  · have hq2 : q < v.2.1.1 5 := hq
    exact (up _ (by omega) (by omega) (by omega)).trans (a10 q hq2)
theorem z_wf.row {v : z_HV} (hw : z_wf v) {r : Nat} (hr : r < v.2.1.1 5) : ∃ b, b < v.2.1.1 0 ∧ v.2.1.2 5 r = nI b ∧ v.2.1.2 3 b = 0 ∧ z_a v.2.1 5 (nI r) = nI b := by
  have h10 := hw.nb
  have hnr := hw.nr
  obtain ⟨b, hb, e1, e2⟩ := hw.2.2.2.2.2.2.1 r hr
  exact ⟨b, hb, e1, e2, by rw [z_aI hr]; exact e1⟩
section ZOpG
variable {G : z_G} {h : z_H} {Q : z_O → z_H → Prop} {a : Nat} {m : z_MV} {v : z_HV} {g : Nat → Int32}
theorem cM_votes {s l t u : Int32} (hM : z_Mo h a (z_mF m 1 g)) (hg : z_gOk v g) (hw : z_wf v) (q : z_opQ v (8, s, l, t, u) h a (z_mF m 1 g) Q) : z_W G 3 0 0 202 0 (z_L0 202 [.ref a]) [] h Q := by
  have h8 := hw.nc
  have h10 := hw.nb
  have hnr := hw.nr
  by_cases e0 : v.2.1.1 5 = 0
  · skip
    refine z_aload_n rfl rfl ?_
    refine z_get rfl hM.1 rfl ?_
    refine z_bipush (v := 9) rfl (by decide) ?_
    refine z_ildE rfl (hM.g) (k := 9) rfl (show _ < 105 by omega) ?_
    rw [hg.r0, e0]
    refine z_if_ne rfl (fun c7 => absurd rfl c7) (fun c7 => ?_)
    refine z_aload_n rfl rfl ?_
    refine z_bipush (v := 9) rfl (by decide) ?_
    refine z_aload_n rfl rfl ?_
    refine z_callV (av := []) rfl z_w192 hM.1 rfl rfl rfl rfl rfl (Nat.le_of_ble_eq_true rfl) (Nat.le_of_ble_eq_true rfl) (Nat.le_of_ble_eq_true rfl) (Nat.le_of_ble_eq_true rfl) (cM_awayOnes hM hg hw ?_)
    refine z_callV (av := [_, _]) rfl z_w165 hM.1 rfl rfl rfl rfl rfl (Nat.le_of_ble_eq_true rfl) (Nat.le_of_ble_eq_true rfl) (Nat.le_of_ble_eq_true rfl) (Nat.le_of_ble_eq_true rfl) (cM_refused hM (fun h9 hM9 hF9 => ?_))
    refine z_iret rfl rfl ?_
    exact q.1 (9, _) (if_pos (by rw [e0]; rfl)) _ hM9 ((z_Fr.refl _ _ _).trans hF9)
  · obtain ⟨b, hb, eb1, eb2, eb3⟩ := hw.row (r := 0) (by omega)
    have n0 : ¬ nI (v.2.1.1 5) = 0 := nI_ne0 (by omega) (by omega)
    have ev : z_do v (8, s, l, t, u) = z_vt1 v (nI b) (z_vts v (nI b)) := by
      show z_vt1 v (z_a v.2.1 5 (nI 0)) (z_vts v (z_a v.2.1 5 (nI 0))) = _
      rw [eb3]
    have eg : g 95 = nI b := (hg.2.2.2.2.2.2 0 (by omega)).trans eb1
    have q2 := q.2 (if_neg n0)
    rw [ev] at q2
    by_cases e1 : z_vts v (nI b) = 0
    · rw [e1] at q2
      refine z_aload_n rfl rfl ?_
      refine z_get rfl hM.1 rfl ?_
      refine z_bipush (v := 9) rfl (by decide) ?_
      refine z_ildE rfl (hM.g) (k := 9) rfl (show _ < 105 by omega) ?_
      rw [hg.r0]
      refine z_if_ne rfl (fun c7 => ?_) (fun c7 => absurd c7 n0)
      refine z_aload_n rfl rfl ?_
      refine z_get rfl hM.1 rfl ?_
      refine z_bipush (v := 95) rfl (by decide) ?_
      refine z_ildE rfl (hM.g) (k := 95) rfl (show _ < 105 by omega) ?_
      rw [eg]
      refine z_istore_n rfl (by decide +kernel) rfl ?_
      refine z_aload_n rfl rfl ?_
      refine z_iload_n rfl rfl ?_
      refine z_callV (av := [_]) rfl z_w199 hM.1 rfl rfl rfl rfl rfl (Nat.le_of_ble_eq_true rfl) (Nat.le_of_ble_eq_true rfl) (Nat.le_of_ble_eq_true rfl) (Nat.le_of_ble_eq_true rfl) (cM_votersOn hM hg hw hb ?_)
      refine z_istore_n rfl (by decide +kernel) rfl ?_
      refine z_iload_n rfl rfl ?_
      refine z_if_ne rfl (fun c36 => absurd e1 c36) (fun c36 => ?_)
      refine z_aload_n rfl rfl ?_
      refine z_iload_n rfl rfl ?_
      refine z_iconst (v := 1) rfl (by decide) ?_
      refine z_callV (av := [_, _]) rfl z_w193 hM.1 rfl rfl rfl rfl rfl (Nat.le_of_ble_eq_true rfl) (Nat.le_of_ble_eq_true rfl) (Nat.le_of_ble_eq_true rfl) (Nat.le_of_ble_eq_true rfl) (cM_goesAway hM hg hw.wz hb (fun h1_ g1 hM1 hg1 hF1_ => ?_))
      refine z_aload_n rfl rfl ?_
      refine z_iconst (v := 0) rfl (by decide) ?_
      refine z_callV (av := [_]) rfl z_w163 hM1.1 rfl rfl rfl rfl rfl (Nat.le_of_ble_eq_true rfl) (Nat.le_of_ble_eq_true rfl) (Nat.le_of_ble_eq_true rfl) (Nat.le_of_ble_eq_true rfl) (cM_done hM1 (fun h9 hM9 hF9 => ?_))
      refine z_iret rfl rfl ?_
      exact q2 _ _ hM9 z_dnM.gg hg1 (hF1_.trans hF9)
    · have ez : z_vt1 v (nI b) (z_vts v (nI b)) = ((z_fold (z_gvS (z_vts v (nI b))) v.1 (v.1.1 0), z_gone1 v.2.1 (nI b), z_vtW v (nI b) (z_vts v (nI b)) (z_mjo v.1 (z_vts v (nI b)))), z_mjo v.1 (z_vts v (nI b))) := if_neg e1
      rw [ez] at q2
      obtain ⟨bc1, bc2⟩ := z_bitsP (P := fun i => z_wv v.1 (nI i) (z_a v.2.1 1 (nI b))) (n := v.1.1 0) h8
      have ebc : nI (z_cnt (fun j => z_isIn (z_vts v (nI b)) (nI j)) (v.1.1 0)) = z_bc (z_vts v (nI b)) := (congrArg nI (z_cnt_c _ bc2)).trans bc1.symm
      have wW := hw.wz.ch (z_vts v (nI b)) (v.1.1 0)
      have en : g (65 + b) = z_a v.2.1 2 (nI b) := hg.bl hw.wz (j := 2) (by decide) (by decide) hb
      have last : ∀ (c : Int32) (hh : z_H) (g1 : Nat → Int32) (x : Value), c = (if z_eno v.2.1 (z_mjo v.1 (z_vts v (nI b))) (nI b) = true then 1 else 0) → z_Mo hh a (z_mF m 1 g1) → z_gOk (z_upW (z_upW (z_chV v (z_vts v (nI b)) (v.1.1 0)) 1 ((z_chV v (z_vts v (nI b)) (v.1.1 0)).2.2 1 + 1)) 2 ((z_chV v (z_vts v (nI b)) (v.1.1 0)).2.2 2 + c)) g1 → z_Fr a 9 h hh → z_W G 3 0 0 202 130 [.ref a, .int (nI b), .int (z_vts v (nI b)), .int (z_mjo v.1 (z_vts v (nI b))), x] [] hh Q := by
        intro c hh g1 x hc hD hG hF
        refine z_aload_n rfl rfl ?_
        refine z_iload_n rfl rfl ?_
        refine z_callV (av := [_]) rfl z_w196 hD.1 rfl rfl rfl rfl rfl (Nat.le_of_ble_eq_true rfl) (Nat.le_of_ble_eq_true rfl) (Nat.le_of_ble_eq_true rfl) (Nat.le_of_ble_eq_true rfl) (cM_isDoneWith hD hG wW hw.B hb (fun h1_ g2 hM1 hg2 hF1_ => ?_))
        refine z_aload_n rfl rfl ?_
        refine z_iload_n rfl rfl ?_
        refine z_callV (av := [_]) rfl z_w163 hM1.1 rfl rfl rfl rfl rfl (Nat.le_of_ble_eq_true rfl) (Nat.le_of_ble_eq_true rfl) (Nat.le_of_ble_eq_true rfl) (Nat.le_of_ble_eq_true rfl) (cM_done hM1 (fun h9 hM9 hF9 => ?_))
        refine z_iret rfl rfl ?_
        refine q2 _ _ hM9 z_dnM.gg ((congrArg (fun w => z_gOk w _) ?_).mp hg2) (hF.trans (hF1_.trans hF9))
        refine Prod.ext rfl (Prod.ext rfl (funext fun j => ?_))
        show (if j = 2 then v.2.2 2 + c else if j = 1 then v.2.2 1 + 1 else if j = 3 then v.2.2 3 + 3 * nI (z_cnt (fun j => z_isIn (z_vts v (nI b)) (nI j)) (v.1.1 0)) else v.2.2 j) = if j = 3 then v.2.2 3 + 3 * z_bc (z_vts v (nI b)) else if j = 2 then v.2.2 2 + (if z_eno v.2.1 (z_mjo v.1 (z_vts v (nI b))) (nI b) = true then 1 else 0) else if j = 1 then v.2.2 1 + 1 else v.2.2 j
        rw [ebc, hc]
        by_cases d1 : j = 3
        · rw [if_neg (by omega), if_neg (by omega), if_pos d1, if_pos d1]
        · rw [if_neg d1, if_neg d1]
      refine z_aload_n rfl rfl ?_
      refine z_get rfl hM.1 rfl ?_
      refine z_bipush (v := 9) rfl (by decide) ?_
      refine z_ildE rfl (hM.g) (k := 9) rfl (show _ < 105 by omega) ?_
      rw [hg.r0]
      refine z_if_ne rfl (fun c7 => ?_) (fun c7 => absurd c7 n0)
      refine z_aload_n rfl rfl ?_
      refine z_get rfl hM.1 rfl ?_
      refine z_bipush (v := 95) rfl (by decide) ?_
      refine z_ildE rfl (hM.g) (k := 95) rfl (show _ < 105 by omega) ?_
      rw [eg]
      refine z_istore_n rfl (by decide +kernel) rfl ?_
      refine z_aload_n rfl rfl ?_
      refine z_iload_n rfl rfl ?_
      refine z_callV (av := [_]) rfl z_w199 hM.1 rfl rfl rfl rfl rfl (Nat.le_of_ble_eq_true rfl) (Nat.le_of_ble_eq_true rfl) (Nat.le_of_ble_eq_true rfl) (Nat.le_of_ble_eq_true rfl) (cM_votersOn hM hg hw hb ?_)
      refine z_istore_n rfl (by decide +kernel) rfl ?_
      refine z_iload_n rfl rfl ?_
      refine z_if_ne rfl (fun c36 => ?_) (fun c36 => absurd c36 e1)
      refine z_aload_n rfl rfl ?_
      refine z_iload_n rfl rfl ?_
      refine z_callV (av := [_]) rfl z_w200 hM.1 rfl rfl rfl rfl rfl (Nat.le_of_ble_eq_true rfl) (Nat.le_of_ble_eq_true rfl) (Nat.le_of_ble_eq_true rfl) (Nat.le_of_ble_eq_true rfl) (cM_majorityOf hM hg hw ?_)
      refine z_istore_n rfl (by decide +kernel) rfl ?_
      refine z_aload_n rfl rfl ?_
      refine z_iload_n rfl rfl ?_
      refine z_callV (av := [_]) rfl z_w201 hM.1 rfl rfl rfl rfl rfl (Nat.le_of_ble_eq_true rfl) (Nat.le_of_ble_eq_true rfl) (Nat.le_of_ble_eq_true rfl) (Nat.le_of_ble_eq_true rfl) (cM_chime hM hg hw.wz (fun h1_ g1 hM1 hg1 hF1_ => ?_))
      refine z_aload_n rfl rfl ?_
      refine z_get rfl hM1.1 rfl ?_
      refine z_iconst (v := 3) rfl (by decide) ?_
      refine z_dup2 rfl rfl rfl ?_
      refine z_ildE rfl (hM1.g) (k := 3) rfl (show _ < 105 by omega) ?_
      refine z_iconst (v := 1) rfl (by decide) ?_
      refine z_iadd rfl ?_
      refine z_istG rfl hM1 (k := 3) rfl (show _ < 105 by omega) (fun h1 hC1 hF1 => ?_)
      refine z_iload_n rfl rfl ?_
      refine z_aload_n rfl rfl ?_
      refine z_get rfl hC1.1 rfl ?_
      refine z_bipush (v := 65) rfl (by decide) ?_
      refine z_iload_n rfl rfl ?_
      refine z_iadd rfl ?_
      refine z_ildE rfl (hC1.g) (nI_add 65 (b)) (show _ < 105 by omega) ?_
      have en2 : g1 (65 + b) = z_a v.2.1 2 (nI b) := hg1.bl wW (j := 2) (by decide) (by decide) hb
      rw [z_updN _ _ (by omega), en2]
      refine z_icmp_lt rfl (fun c82 => ?_) (fun c82 => ?_)
      · refine z_iconst (v := 0) rfl (by decide) ?_
        refine z_istore rfl (by decide +kernel) rfl ?_
        refine z_aload_n rfl rfl ?_
        refine z_get rfl hC1.1 rfl ?_
        refine z_iconst (v := 4) rfl (by decide) ?_
        refine z_dup2 rfl rfl rfl ?_
        refine z_ildE rfl (hC1.g) (k := 4) rfl (show _ < 105 by omega) ?_
        refine z_iload rfl rfl ?_
        refine z_if_eq rfl (fun c101 => ?_) (fun c101 => absurd rfl c101)
        refine z_iconst (v := 0) rfl (by decide) ?_
        rw [z_updN _ _ (by omega)]
        refine z_iadd rfl ?_
        refine z_istG rfl hC1 (k := 4) rfl (show _ < 105 by omega) (fun h2 hC2 hF2 => ?_)
        refine z_aload_n rfl rfl ?_
        refine z_get rfl hC2.1 rfl ?_
        refine z_iconst (v := 5) rfl (by decide) ?_
        refine z_dup2 rfl rfl rfl ?_
        refine z_ildE rfl (hC2.g) (k := 5) rfl (show _ < 105 by omega) ?_
        refine z_iload rfl rfl ?_
        refine z_if_eq rfl (fun c120 => ?_) (fun c120 => absurd rfl c120)
        refine z_iconst (v := 1) rfl (by decide) ?_
        rw [z_updN _ _ (by omega), z_updN _ _ (by omega)]
        refine z_iadd rfl ?_
        refine z_istG rfl hC2 (k := 5) rfl (show _ < 105 by omega) (fun h3 hC3 hF3 => ?_)
        refine last 0 _ _ _ (by unfold z_eno; rw [if_neg (fun e => absurd (of_decide_eq_true e) (Int32.not_le.mpr c82))]) hC3 (hg1.held wW rfl rfl rfl) (hF1_.trans ((hF1.trans hF2).trans hF3))
      · refine z_iconst (v := 1) rfl (by decide) ?_
        refine z_goto rfl ?_
        refine z_istore rfl (by decide +kernel) rfl ?_
        refine z_aload_n rfl rfl ?_
        refine z_get rfl hC1.1 rfl ?_
        refine z_iconst (v := 4) rfl (by decide) ?_
        refine z_dup2 rfl rfl rfl ?_
        refine z_ildE rfl (hC1.g) (k := 4) rfl (show _ < 105 by omega) ?_
        refine z_iload rfl rfl ?_
        refine z_if_eq rfl (fun c101 => absurd c101 (by decide)) (fun c101 => ?_)
        refine z_iconst (v := 1) rfl (by decide) ?_
        refine z_goto rfl ?_
        rw [z_updN _ _ (by omega)]
        refine z_iadd rfl ?_
        refine z_istG rfl hC1 (k := 4) rfl (show _ < 105 by omega) (fun h2 hC2 hF2 => ?_)
        refine z_aload_n rfl rfl ?_
        refine z_get rfl hC2.1 rfl ?_
        refine z_iconst (v := 5) rfl (by decide) ?_
        refine z_dup2 rfl rfl rfl ?_
        refine z_ildE rfl (hC2.g) (k := 5) rfl (show _ < 105 by omega) ?_
        refine z_iload rfl rfl ?_
        refine z_if_eq rfl (fun c120 => absurd c120 (by decide)) (fun c120 => ?_)
        refine z_iconst (v := 0) rfl (by decide) ?_
        refine z_goto rfl ?_
        rw [z_updN _ _ (by omega), z_updN _ _ (by omega)]
        refine z_iadd rfl ?_
        refine z_istG rfl hC2 (k := 5) rfl (show _ < 105 by omega) (fun h3 hC3 hF3 => ?_)
        refine last 1 _ _ _ (by unfold z_eno; rw [if_pos (decide_eq_true (Int32.not_lt.mp c82))]) hC3 (hg1.held wW rfl rfl rfl) (hF1_.trans ((hF1.trans hF2).trans hF3))
end ZOpG
