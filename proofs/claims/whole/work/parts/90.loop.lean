/-! The law's loop, and its start. -/
theorem z_mask63 (v : Int32) : ∃ n : Nat, n < 64 ∧ v &&& 63 = nI n := by
  refine ⟨(v.toBitVec &&& 63#32).toNat, ?_, ?_⟩
  · rw [BitVec.toNat_and]
    exact Nat.lt_of_le_of_lt Nat.and_le_right (by decide)
  · apply Int32.toBitVec_inj.1
    show v.toBitVec &&& (63 : Int32).toBitVec = BitVec.ofNat 32 (v.toBitVec &&& 63#32).toNat
    rw [BitVec.ofNat_toNat, BitVec.setWidth_eq]
    rfl
theorem z_cmpL {a j : Nat} (ha : a ≤ 2048) (hj : j ≤ 2048) (h : ¬ nI a - 4 < nI j) : j + 4 ≤ a := by
  have e1 : (nI a - 4).toInt = (a : Int) - 4 := by
    rw [Int32.toInt_sub, nI_toInt (by omega), show (4 : Int32).toInt = 4 from rfl]
    simp only [Int.bmod]
    split <;> omega
  rw [Int32.lt_iff_toInt_lt, e1, nI_toInt (by omega)] at h
  omega
section ZLp
variable {G : z_G} {Q : z_O → z_H → Prop}
theorem c_turn {C S j n : Nat} {h : z_H} {x : z_PV} {m : z_MV} (hn : n < 64) (hv1 : vp_in (nI j + 1) G.2.2.2.2.2.1) (hv2 : vp_in (nI j + 2) G.2.2.2.2.2.1) (hv3 : vp_in (nI j + 3) G.2.2.2.2.2.1) (hS : z_LS h x m) (K : z_KL G C S j Q) : z_W G 13 (C + 30) (S + 8000) 338 44 (z_LL j) [.int (nI n)] h Q := by
  by_cases h44 : 44 ≤ n
  · exact z_tswO (t := 2656) rfl (Or.inr (by rw [nI_toInt (by omega)]; omega)) rfl ((K h x m hS).mono (Nat.le_refl _) (by omega) (by omega))
  · rcases (by omega : n = 0 ∨ n = 1 ∨ n = 2 ∨ n = 3 ∨ n = 4 ∨ n = 5 ∨ n = 6 ∨ n = 7 ∨ n = 8 ∨ n = 9 ∨ n = 10 ∨ n = 11 ∨ n = 12 ∨ n = 13 ∨ n = 14 ∨ n = 15 ∨ n = 16 ∨ n = 17 ∨ n = 18 ∨ n = 19 ∨ n = 20 ∨ n = 21 ∨ n = 22 ∨ n = 23 ∨ n = 24 ∨ n = 25 ∨ n = 26 ∨ n = 27 ∨ n = 28 ∨ n = 29 ∨ n = 30 ∨ n = 31 ∨ n = 32 ∨ n = 33 ∨ n = 34 ∨ n = 35 ∨ n = 36 ∨ n = 37 ∨ n = 38 ∨ n = 39 ∨ n = 40 ∨ n = 41 ∨ n = 42 ∨ n = 43) with rfl | rfl | rfl | rfl | rfl | rfl | rfl | rfl | rfl | rfl | rfl | rfl | rfl | rfl | rfl | rfl | rfl | rfl | rfl | rfl | rfl | rfl | rfl | rfl | rfl | rfl | rfl | rfl | rfl | rfl | rfl | rfl | rfl | rfl | rfl | rfl | rfl | rfl | rfl | rfl | rfl | rfl | rfl | rfl
    · exact z_tswI (o := 192) (t := 236) rfl (by decide) (by decide) (by decide) rfl (cL_clock hv1 hv2 hv3 hS K)
    · exact z_tswI (o := 260) (t := 304) rfl (by decide) (by decide) (by decide) rfl (cL_leave hv1 hv2 hv3 hS K)
    · exact z_tswI (o := 316) (t := 360) rfl (by decide) (by decide) (by decide) rfl (cL_key hv1 hv2 hv3 hS K)
    · exact z_tswI (o := 384) (t := 428) rfl (by decide) (by decide) (by decide) rfl (cL_wind hv1 hv2 hv3 hS K)
    · exact z_tswI (o := 452) (t := 496) rfl (by decide) (by decide) (by decide) rfl (cL_move hv1 hv2 hv3 hS K)
    · exact z_tswI (o := 520) (t := 564) rfl (by decide) (by decide) (by decide) rfl (cL_bill hv1 hv2 hv3 hS K)
    · exact z_tswI (o := 600) (t := 644) rfl (by decide) (by decide) (by decide) rfl (cL_adjourn hv1 hv2 hv3 hS K)
    · exact z_tswI (o := 668) (t := 712) rfl (by decide) (by decide) (by decide) rfl (cL_drop hv1 hv2 hv3 hS K)
    · exact z_tswI (o := 724) (t := 768) rfl (by decide) (by decide) (by decide) rfl (cL_vote hv1 hv2 hv3 hS K)
    · exact z_tswI (o := 768) (t := 812) rfl (by decide) (by decide) (by decide) rfl (cL_hour hv1 hv2 hv3 hS K)
    · exact z_tswI (o := 824) (t := 868) rfl (by decide) (by decide) (by decide) rfl (cL_clockOf hv1 hv2 hv3 hS K)
    · exact z_tswI (o := 892) (t := 936) rfl (by decide) (by decide) (by decide) rfl (cL_billOf hv1 hv2 hv3 hS K)
    · exact z_tswI (o := 960) (t := 1004) rfl (by decide) (by decide) (by decide) rfl (cL_keeper hv1 hv2 hv3 hS K)
    · exact z_tswI (o := 1016) (t := 1060) rfl (by decide) (by decide) (by decide) rfl (cL_doAgree hv1 hv2 hv3 hS K)
    · exact z_tswI (o := 1091) (t := 1135) rfl (by decide) (by decide) (by decide) rfl (cL_apart hv1 hv2 hv3 hS K)
    · exact z_tswI (o := 1159) (t := 1203) rfl (by decide) (by decide) (by decide) rfl (cL_row hv1 hv2 hv3 hS K)
    · exact z_tswI (o := 1215) (t := 1259) rfl (by decide) (by decide) (by decide) rfl (cL_rowIn hv1 hv2 hv3 hS K)
    · exact z_tswI (o := 1283) (t := 1327) rfl (by decide) (by decide) (by decide) rfl (cL_rowAgain hv1 hv2 hv3 hS K)
    · exact z_tswI (o := 1351) (t := 1395) rfl (by decide) (by decide) (by decide) rfl (cL_next hv1 hv2 hv3 hS K)
    · exact z_tswI (o := 1395) (t := 1439) rfl (by decide) (by decide) (by decide) rfl (cL_silentIn hv1 hv2 hv3 hS K)
    · exact z_tswI (o := 1451) (t := 1495) rfl (by decide) (by decide) (by decide) rfl (cL_secondIn hv1 hv2 hv3 hS K)
    · exact z_tswI (o := 1519) (t := 1563) rfl (by decide) (by decide) (by decide) rfl (cL_voters hv1 hv2 hv3 hS K)
    · exact z_tswI (o := 1575) (t := 1619) rfl (by decide) (by decide) (by decide) rfl (cL_majority hv1 hv2 hv3 hS K)
    · exact z_tswI (o := 1631) (t := 1675) rfl (by decide) (by decide) (by decide) rfl (cL_majorityAgain hv1 hv2 hv3 hS K)
    · exact z_tswI (o := 1687) (t := 1731) rfl (by decide) (by decide) (by decide) rfl (cL_wouldCarry hv1 hv2 hv3 hS K)
    · exact z_tswI (o := 1750) (t := 1794) rfl (by decide) (by decide) (by decide) rfl (cL_carried hv1 hv2 hv3 hS K)
    · exact z_tswI (o := 1763) (t := 1807) rfl (by decide) (by decide) (by decide) rfl (cL_weakest hv1 hv2 hv3 hS K)
    · exact z_tswI (o := 1807) (t := 1851) rfl (by decide) (by decide) (by decide) rfl (cL_circle hv1 hv2 hv3 hS K)
    · exact z_tswI (o := 1863) (t := 1907) rfl (by decide) (by decide) (by decide) rfl (cL_ranked hv1 hv2 hv3 hS K)
    · exact z_tswI (o := 1931) (t := 1975) rfl (by decide) (by decide) (by decide) rfl (cL_isTold hv1 hv2 hv3 hS K)
    · exact z_tswI (o := 1944) (t := 1988) rfl (by decide) (by decide) (by decide) rfl (cL_append hv1 hv2 hv3 hS K)
    · exact z_tswI (o := 2002) (t := 2046) rfl (by decide) (by decide) (by decide) rfl (cL_run hv1 hv2 hv3 hS K)
    · exact z_tswI (o := 2046) (t := 2090) rfl (by decide) (by decide) (by decide) rfl (cL_faultPosition hv1 hv2 hv3 hS K)
    · exact z_tswI (o := 2059) (t := 2103) rfl (by decide) (by decide) (by decide) rfl (cL_reason hv1 hv2 hv3 hS K)
    · exact z_tswI (o := 2143) (t := 2187) rfl (by decide) (by decide) (by decide) rfl (cL_tell hv1 hv2 hv3 hS K)
    · exact z_tswI (o := 2199) (t := 2243) rfl (by decide) (by decide) (by decide) rfl (cL_tellBill hv1 hv2 hv3 hS K)
    · exact z_tswI (o := 2255) (t := 2299) rfl (by decide) (by decide) (by decide) rfl (cL_tellRow hv1 hv2 hv3 hS K)
    · exact z_tswI (o := 2268) (t := 2312) rfl (by decide) (by decide) (by decide) rfl (cL_character hv1 hv2 hv3 hS K)
    · exact z_tswI (o := 2324) (t := 2368) rfl (by decide) (by decide) (by decide) rfl (cL_account hv1 hv2 hv3 hS K)
    · exact z_tswI (o := 2380) (t := 2424) rfl (by decide) (by decide) (by decide) rfl (cL_meanSpring hv1 hv2 hv3 hS K)
    · exact z_tswI (o := 2445) (t := 2489) rfl (by decide) (by decide) (by decide) rfl (cL_carriedShare hv1 hv2 hv3 hS K)
    · exact z_tswI (o := 2511) (t := 2555) rfl (by decide) (by decide) (by decide) rfl (cL_undo hv1 hv2 hv3 hS K)
    · exact z_tswI (o := 2555) (t := 2599) rfl (by decide) (by decide) (by decide) rfl (cL_save hv1 hv2 hv3 hS K)
    · exact z_tswI (o := 2568) (t := 2612) rfl (by decide) (by decide) (by decide) rfl (cL_restore hv1 hv2 hv3 hS K)
theorem c_loop (hL : G.2.2.2.2.2.1 ≤ 2048) (q : ∀ h', Q (.inl (some (.int 1))) h') : ∀ (k j : Nat) (h : z_H) (x : z_PV) (m : z_MV), j ≤ 2048 → G.2.2.2.2.2.1 ≤ j + 4 * k → z_LS h x m → z_W G 13 (30 * k) (8000 * k) 338 28 (z_LL j) [] h Q := by
  intro k
  induction k with
  | zero =>
    intro j h x m hj hk hS
    refine z_iload rfl rfl ?_
    refine z_aload_n rfl rfl ?_
    refine z_slen rfl ?_
    refine z_iconst (v := 4) rfl (by decide) ?_
    refine z_isub rfl ?_
    refine z_icmp_gt rfl (fun _ => ?_) (fun u => absurd (z_cmpL hL hj u) (by omega))
    refine z_iconst (v := 1) rfl (by decide) ?_
    refine z_zret (ty := .boolean) rfl rfl (by decide) ?_
    exact q h
  | succ k ih =>
    intro j h x m hj hk hS
    refine z_W.mono (mc := 30 * k + 30) (ms := 8000 * k + 8000) ?_ (Nat.le_refl _) (by omega) (by omega)
    refine z_iload rfl rfl ?_
    refine z_aload_n rfl rfl ?_
    refine z_slen rfl ?_
    refine z_iconst (v := 4) rfl (by decide) ?_
    refine z_isub rfl ?_
    refine z_icmp_gt rfl (fun _ => ?_) (fun u => ?_)
    · refine z_iconst (v := 1) rfl (by decide) ?_
      refine z_zret (ty := .boolean) rfl rfl (by decide) ?_
      exact q h
    · have hj4 : j + 4 ≤ G.2.2.2.2.2.1 := z_cmpL hL hj u
      refine z_aload_n rfl rfl ?_
      refine z_iload rfl rfl ?_
      refine z_sld rfl (nI_in (by omega) (by omega)) ?_
      refine z_bipush (v := 63) rfl (by decide) ?_
      refine z_iand rfl ?_
      obtain ⟨n, hn, e⟩ := z_mask63 (G.2.2.2.2.2.2 (nI j).toNatClampNeg)
      rw [e]
      refine c_turn hn (by rw [show nI j + 1 = nI (j + 1) from nI_add j 1]; exact nI_in (by omega) (by omega)) (by rw [show nI j + 2 = nI (j + 2) from nI_add j 2]; exact nI_in (by omega) (by omega)) (by rw [show nI j + 3 = nI (j + 3) from nI_add j 3]; exact nI_in (by omega) (by omega)) hS ?_
      intro h' x' m' hS'
      refine z_iinc rfl rfl (by decide +kernel) rfl ?_
      rw [show nI j + Int32.ofInt 4 = nI (j + 4) from nI_add j 4]
      refine z_goto rfl ?_
      exact ih (j + 4) h' x' m' (by omega) (by omega) hS'
theorem c_law (hL : G.2.2.2.2.2.1 ≤ 2048) (q : ∀ h', Q (.inl (some (.int 1))) h') : z_W G 13 15659 4099200 338 0 (z_L0 338 [.ref 0]) [] (0, fun _ => none) Q := by
  refine z_newO (mc2 := 15658) (ms2 := 4099188) rfl (Nat.le_of_ble_eq_true rfl) (Nat.le_of_ble_eq_true rfl) ?_
  refine z_dup rfl rfl ?_
  refine z_callI (av := []) (mc' := 287) (ms' := 1566) rfl z_w103 rfl rfl rfl rfl (Nat.le_of_ble_eq_true rfl) (Nat.le_of_ble_eq_true rfl) (Nat.le_of_ble_eq_true rfl) (Nat.le_of_ble_eq_true rfl) (c_initPa (p := 1000) (Nat.le_refl _) (z_new_eq _ _) rfl fun h1 x1 e1 f1 => ?_)
  refine z_astore_n rfl (by decide +kernel) rfl ?_
  refine z_newO (mc2 := 15370) (ms2 := 4097602) rfl (Nat.le_of_ble_eq_true rfl) (Nat.le_of_ble_eq_true rfl) ?_
  refine z_dup rfl rfl ?_
  have a1 : 1000 + h1.1 = 1288 := e1
  rw [a1]
  refine z_callI (av := []) (mc' := 8) (ms' := 1600) rfl z_w160 rfl rfl rfl rfl (Nat.le_of_ble_eq_true rfl) (Nat.le_of_ble_eq_true rfl) (Nat.le_of_ble_eq_true rfl) (Nat.le_of_ble_eq_true rfl) (c_initMo (a := 1288) (by rw [← a1]; exact z_new_eq _ _) (by show 1288 + 1 = 1000 + (h1.1 + 1); omega) fun h2 x2 e2 f2 => ?_)
  refine z_astore_n rfl (by decide +kernel) rfl ?_
  refine z_iconst (v := 1) rfl (by decide) ?_
  refine z_newA (mc2 := 15361) (ms2 := 4096001) (N := 1) rfl (by decide) (by decide) (by decide) (Nat.le_of_ble_eq_true rfl) (Nat.le_of_ble_eq_true rfl) ?_
  have a2 : 1000 + h2.1 = 1297 := e2
  rw [a2]
  refine z_astore_n rfl (by decide +kernel) rfl ?_
  refine z_iconst (v := 1) rfl (by decide) ?_
  refine z_newA (mc2 := 15360) (ms2 := 4096000) (N := 1) rfl (by decide) (by decide) (by decide) (Nat.le_of_ble_eq_true rfl) (Nat.le_of_ble_eq_true rfl) ?_
  have a3 : 1000 + (z_new h2 (.inl (3, z_dfa 3 1))).1 = 1298 := by show 1000 + (h2.1 + 1) = 1298; omega
  rw [a3]
  refine z_astore rfl (by decide +kernel) rfl ?_
  refine z_iconst (v := nI 0) rfl (by decide) ?_
  refine z_istore rfl (by decide +kernel) rfl ?_
  have g2 : ∀ j, j < 1297 → (z_new (z_new h2 (.inl (3, z_dfa 3 1))) (.inl (4, z_dfa 4 1))).2 j = h2.2 j := fun j hj => (z_new_ne _ _ (by rw [a3]; omega)).trans (z_new_ne _ _ (by rw [a2]; omega))
  have g1 : ∀ j, j < 1288 → (z_new (z_new h2 (.inl (3, z_dfa 3 1))) (.inl (4, z_dfa 4 1))).2 j = h1.2 j := fun j hj => (g2 j (by omega)).trans ((f2 j hj).trans (z_new_ne _ _ (by rw [a1]; omega)))
  have s1 : (z_new (z_new h2 (.inl (3, z_dfa 3 1))) (.inl (4, z_dfa 4 1))).1 = h2.1 + 1 + 1 := rfl
  refine c_loop hL q 512 0 _ z_x0 z_m0 (by decide) (by omega) ⟨?_, ?_, z_Rel0, ⟨fun _ => 0, ?_⟩, ⟨fun _ => 0, ?_⟩⟩
  · exact ⟨_, _, _, _, _, _, _, x1.toB (fun j u1 u2 => g1 j (by omega)) (by rw [s1]; omega) ⟨by decide, by rw [s1]; omega⟩⟩
  · exact x2.keptX fun j u1 u2 => g2 j (by omega)
  · exact (z_new_ne _ _ (by rw [a3]; decide)).trans (by rw [← a2]; exact z_new_eq _ _)
  · rw [← a3]; exact z_new_eq _ _
end ZLp
