/-! readsOrder. -/
theorem z_rdOk {l : List Nat} {p x k : Nat} {cs : List Nat} {o : z_OV} (hk : z_knd x = some k) (hf : z_frm k = x :: cs) (h1 : x ≠ 63 ∧ x ≠ 68 ∧ x ≠ 78 ∧ x ≠ 75) (e : z_here l p = x) : z_rdO l p o = z_bd (true, p + 1, (k, 0, 0, 0, 0)) (z_rdF l cs) := by
  have ep : z_prt l x p (k, 0, 0, 0, 0) = (true, p + 1, (k, 0, 0, 0, 0)) := by
    unfold z_prt z_skp
    rw [if_neg h1.2.1, if_neg h1.2.2.1, if_neg h1.2.2.2, if_pos e]
  unfold z_rdO
  rw [e, hk]
  show z_rdF l (z_frm k) p (k, 0, 0, 0, 0) = _
  rw [hf, z_rdF_cons, if_neg h1.1, ep, if_pos rfl]
  rfl
theorem z_Ts.nil (m : z_MV) (K : Nat) : z_Ts m m K [] := ⟨fun _ _ _ => rfl, fun _ _ => rfl, fun _ _ => rfl, fun i hi => absurd hi (Nat.not_lt_zero _)⟩
section ZRo
variable {G : z_G} {h : z_H} {Q : z_O → z_H → Prop} {a K p : Nat} {m : z_MV} {l : List Nat} {o : z_OV}
theorem cM_rOx {c : Int32} (hM : z_Mo h a m) (q : z_W G 4 0 0 241 436 [.ref a, .int (nI K), .int c] [] h Q) (hc : c = -1 ∨ ∃ x, x < 127 ∧ z_knd x = none ∧ c = nI x) : z_W G 4 0 0 241 23 [.ref a, .int (nI K), .int c] [.int c] h Q := by
  rcases hc with rfl | ⟨x, hx, hn, rfl⟩
  · exact z_tswO (t := 436) rfl (Or.inl (by decide)) rfl q
  · by_cases b : x < 97
    · exact z_tswO (t := 436) rfl (Or.inl (by rw [nI_toInt (by omega)]; omega)) rfl q
    · by_cases b2 : 119 < x
      · exact z_tswO (t := 436) rfl (Or.inr (by rw [nI_toInt (by omega)]; omega)) rfl q
      · rcases (show x = 97 ∨ x = 98 ∨ x = 99 ∨ x = 100 ∨ x = 101 ∨ x = 102 ∨ x = 103 ∨ x = 104 ∨ x = 105 ∨ x = 106 ∨ x = 107 ∨ x = 108 ∨ x = 109 ∨ x = 110 ∨ x = 111 ∨ x = 112 ∨ x = 113 ∨ x = 114 ∨ x = 115 ∨ x = 116 ∨ x = 117 ∨ x = 118 ∨ x = 119 by omega) with rfl | rfl | rfl | rfl | rfl | rfl | rfl | rfl | rfl | rfl | rfl | rfl | rfl | rfl | rfl | rfl | rfl | rfl | rfl | rfl | rfl | rfl | rfl
        · exact absurd hn (by decide)
        · exact absurd hn (by decide)
        · exact absurd hn (by decide)
        · exact absurd hn (by decide)
        · exact z_tswI (x := nI 101) (o := 413) (t := 436) rfl (by decide) (by decide) rfl rfl q
        · exact z_tswI (x := nI 102) (o := 413) (t := 436) rfl (by decide) (by decide) rfl rfl q
        · exact z_tswI (x := nI 103) (o := 413) (t := 436) rfl (by decide) (by decide) rfl rfl q
        · exact absurd hn (by decide)
        · exact z_tswI (x := nI 105) (o := 413) (t := 436) rfl (by decide) (by decide) rfl rfl q
        · exact z_tswI (x := nI 106) (o := 413) (t := 436) rfl (by decide) (by decide) rfl rfl q
        · exact absurd hn (by decide)
        · exact absurd hn (by decide)
        · exact absurd hn (by decide)
        · exact z_tswI (x := nI 110) (o := 413) (t := 436) rfl (by decide) (by decide) rfl rfl q
        · exact z_tswI (x := nI 111) (o := 413) (t := 436) rfl (by decide) (by decide) rfl rfl q
        · exact z_tswI (x := nI 112) (o := 413) (t := 436) rfl (by decide) (by decide) rfl rfl q
        · exact z_tswI (x := nI 113) (o := 413) (t := 436) rfl (by decide) (by decide) rfl rfl q
        · exact z_tswI (x := nI 114) (o := 413) (t := 436) rfl (by decide) (by decide) rfl rfl q
        · exact z_tswI (x := nI 115) (o := 413) (t := 436) rfl (by decide) (by decide) rfl rfl q
        · exact z_tswI (x := nI 116) (o := 413) (t := 436) rfl (by decide) (by decide) rfl rfl q
        · exact z_tswI (x := nI 117) (o := 413) (t := 436) rfl (by decide) (by decide) rfl rfl q
        · exact absurd hn (by decide)
        · exact absurd hn (by decide)
theorem cM_readsOrder (hK : K + 3 < 240) (hM : z_Mo h a m) (hP : z_Pm m l (true, p, o)) (q : ∀ h' m' vs, z_Mo h' a m' → z_Pm m' l (z_rdO l p z_oN0) → z_Ts m m' K vs → ((z_rdO l p z_oN0).1 = true → z_Tv vs (z_rdO l p z_oN0).2.2) → z_Fr a 9 h h' → Q (.inl none) h') : z_W G 4 0 0 241 0 (z_L0 241 [.ref a, .int (nI K)]) [] h Q := by
  obtain ⟨hI, h17, h18, hp⟩ := hP
  have h60 := hI.1.1
  have hp : p ≤ l.length := hp
  have hq17 : m.1 17 = nI p := h17
  have hq18 : m.1 18 = 0 := h18
  by_cases e99 : z_here l p = 99
  · have hlt : p < l.length := z_hereP (by omega)
    have ev : z_hr l p = nI 99 := (z_hrE hI.1 (by decide) (by decide)).mpr e99
    have er : z_rdO l p z_oN0 = z_bd (true, p + 1, ((0, 0, 0, 0, 0) : z_OV)) (z_rdF l [108, 111, 99, 107, 32, 78, 32, 68]) := z_rdOk (by decide) rfl (by decide) e99
    rw [er] at q
    refine z_aload_n rfl rfl ?_
    refine z_callV (av := []) rfl z_w235 hM.1 rfl rfl rfl rfl rfl (Nat.le_of_ble_eq_true rfl) (Nat.le_of_ble_eq_true rfl) (Nat.le_of_ble_eq_true rfl) (Nat.le_of_ble_eq_true rfl) (cM_here hM hI hq17 (by omega) ?_)
    rw [ev]
    refine z_istore_n rfl (by decide +kernel) rfl ?_
    refine z_aload_n rfl rfl ?_
    refine z_dup rfl rfl ?_
    refine z_get rfl hM.1 rfl ?_
    refine z_iconst (v := 1) rfl (by decide) ?_
    refine z_iadd rfl ?_
    rw [hq17, nI_1]
    refine z_putM rfl hM (by decide) rfl rfl (fun h1 hC1 hF1 => ?_)
    refine z_aload_n rfl rfl ?_
    refine z_get rfl hC1.1 rfl ?_
    refine z_iload_n rfl rfl ?_
    refine z_iload_n rfl rfl ?_
    refine z_istM (j := 8) rfl hC1 (by decide) (k := K) rfl (show K < 240 by omega) (fun h2 hC2 hF2 => ?_)
    refine z_iload_n rfl rfl ?_
    refine z_tswI (x := nI 99) (o := 105) (t := 128) rfl (by decide) (by decide) rfl rfl ?_
    exact cM_rO0 hK hC2 (show z_Pm (z_mF (z_mS m 17 (nI (p + 1))) 8 (upd ((z_mS m 17 (nI (p + 1))).2 8) K (nI 99))) l (true, p + 1, (0, 0, 0, 0, 0)) from ⟨hI, rfl, h18, hlt⟩) ((z_Ts.nil m K).put (v := nI 99) (z_onR.s17 (nI (p + 1))) (n := K) (by rfl)) (fun h' m' vs g1 g2 g3 g4 g5 => q h' m' vs g1 g2 g3 g4 ((hF1.trans hF2).trans g5))
  by_cases e108 : z_here l p = 108
  · have hlt : p < l.length := z_hereP (by omega)
    have ev : z_hr l p = nI 108 := (z_hrE hI.1 (by decide) (by decide)).mpr e108
    have er : z_rdO l p z_oN0 = z_bd (true, p + 1, ((1, 0, 0, 0, 0) : z_OV)) (z_rdF l [101, 97, 118, 101, 32, 68]) := z_rdOk (by decide) rfl (by decide) e108
    rw [er] at q
    refine z_aload_n rfl rfl ?_
    refine z_callV (av := []) rfl z_w235 hM.1 rfl rfl rfl rfl rfl (Nat.le_of_ble_eq_true rfl) (Nat.le_of_ble_eq_true rfl) (Nat.le_of_ble_eq_true rfl) (Nat.le_of_ble_eq_true rfl) (cM_here hM hI hq17 (by omega) ?_)
    rw [ev]
    refine z_istore_n rfl (by decide +kernel) rfl ?_
    refine z_aload_n rfl rfl ?_
    refine z_dup rfl rfl ?_
    refine z_get rfl hM.1 rfl ?_
    refine z_iconst (v := 1) rfl (by decide) ?_
    refine z_iadd rfl ?_
    rw [hq17, nI_1]
    refine z_putM rfl hM (by decide) rfl rfl (fun h1 hC1 hF1 => ?_)
    refine z_aload_n rfl rfl ?_
    refine z_get rfl hC1.1 rfl ?_
    refine z_iload_n rfl rfl ?_
    refine z_iload_n rfl rfl ?_
    refine z_istM (j := 8) rfl hC1 (by decide) (k := K) rfl (show K < 240 by omega) (fun h2 hC2 hF2 => ?_)
    refine z_iload_n rfl rfl ?_
    refine z_tswI (x := nI 108) (o := 150) (t := 173) rfl (by decide) (by decide) rfl rfl ?_
    exact cM_rO1 hK hC2 (show z_Pm (z_mF (z_mS m 17 (nI (p + 1))) 8 (upd ((z_mS m 17 (nI (p + 1))).2 8) K (nI 108))) l (true, p + 1, (1, 0, 0, 0, 0)) from ⟨hI, rfl, h18, hlt⟩) ((z_Ts.nil m K).put (v := nI 108) (z_onR.s17 (nI (p + 1))) (n := K) (by rfl)) (fun h' m' vs g1 g2 g3 g4 g5 => q h' m' vs g1 g2 g3 g4 ((hF1.trans hF2).trans g5))
  by_cases e107 : z_here l p = 107
  · have hlt : p < l.length := z_hereP (by omega)
    have ev : z_hr l p = nI 107 := (z_hrE hI.1 (by decide) (by decide)).mpr e107
    have er : z_rdO l p z_oN0 = z_bd (true, p + 1, ((2, 0, 0, 0, 0) : z_OV)) (z_rdF l [101, 121, 32, 68, 32, 75]) := z_rdOk (by decide) rfl (by decide) e107
    rw [er] at q
    refine z_aload_n rfl rfl ?_
    refine z_callV (av := []) rfl z_w235 hM.1 rfl rfl rfl rfl rfl (Nat.le_of_ble_eq_true rfl) (Nat.le_of_ble_eq_true rfl) (Nat.le_of_ble_eq_true rfl) (Nat.le_of_ble_eq_true rfl) (cM_here hM hI hq17 (by omega) ?_)
    rw [ev]
    refine z_istore_n rfl (by decide +kernel) rfl ?_
    refine z_aload_n rfl rfl ?_
    refine z_dup rfl rfl ?_
    refine z_get rfl hM.1 rfl ?_
    refine z_iconst (v := 1) rfl (by decide) ?_
    refine z_iadd rfl ?_
    rw [hq17, nI_1]
    refine z_putM rfl hM (by decide) rfl rfl (fun h1 hC1 hF1 => ?_)
    refine z_aload_n rfl rfl ?_
    refine z_get rfl hC1.1 rfl ?_
    refine z_iload_n rfl rfl ?_
    refine z_iload_n rfl rfl ?_
    refine z_istM (j := 8) rfl hC1 (by decide) (k := K) rfl (show K < 240 by omega) (fun h2 hC2 hF2 => ?_)
    refine z_iload_n rfl rfl ?_
    refine z_tswI (x := nI 107) (o := 182) (t := 205) rfl (by decide) (by decide) rfl rfl ?_
    exact cM_rO2 hK hC2 (show z_Pm (z_mF (z_mS m 17 (nI (p + 1))) 8 (upd ((z_mS m 17 (nI (p + 1))).2 8) K (nI 107))) l (true, p + 1, (2, 0, 0, 0, 0)) from ⟨hI, rfl, h18, hlt⟩) ((z_Ts.nil m K).put (v := nI 107) (z_onR.s17 (nI (p + 1))) (n := K) (by rfl)) (fun h' m' vs g1 g2 g3 g4 g5 => q h' m' vs g1 g2 g3 g4 ((hF1.trans hF2).trans g5))
  by_cases e119 : z_here l p = 119
  · have hlt : p < l.length := z_hereP (by omega)
    have ev : z_hr l p = nI 119 := (z_hrE hI.1 (by decide) (by decide)).mpr e119
    have er : z_rdO l p z_oN0 = z_bd (true, p + 1, ((3, 0, 0, 0, 0) : z_OV)) (z_rdF l [105, 110, 100, 32, 68, 32, 68]) := z_rdOk (by decide) rfl (by decide) e119
    rw [er] at q
    refine z_aload_n rfl rfl ?_
    refine z_callV (av := []) rfl z_w235 hM.1 rfl rfl rfl rfl rfl (Nat.le_of_ble_eq_true rfl) (Nat.le_of_ble_eq_true rfl) (Nat.le_of_ble_eq_true rfl) (Nat.le_of_ble_eq_true rfl) (cM_here hM hI hq17 (by omega) ?_)
    rw [ev]
    refine z_istore_n rfl (by decide +kernel) rfl ?_
    refine z_aload_n rfl rfl ?_
    refine z_dup rfl rfl ?_
    refine z_get rfl hM.1 rfl ?_
    refine z_iconst (v := 1) rfl (by decide) ?_
    refine z_iadd rfl ?_
    rw [hq17, nI_1]
    refine z_putM rfl hM (by decide) rfl rfl (fun h1 hC1 hF1 => ?_)
    refine z_aload_n rfl rfl ?_
    refine z_get rfl hC1.1 rfl ?_
    refine z_iload_n rfl rfl ?_
    refine z_iload_n rfl rfl ?_
    refine z_istM (j := 8) rfl hC1 (by decide) (k := K) rfl (show K < 240 by omega) (fun h2 hC2 hF2 => ?_)
    refine z_iload_n rfl rfl ?_
    refine z_tswI (x := nI 119) (o := 190) (t := 213) rfl (by decide) (by decide) rfl rfl ?_
    exact cM_rO3 hK hC2 (show z_Pm (z_mF (z_mS m 17 (nI (p + 1))) 8 (upd ((z_mS m 17 (nI (p + 1))).2 8) K (nI 119))) l (true, p + 1, (3, 0, 0, 0, 0)) from ⟨hI, rfl, h18, hlt⟩) ((z_Ts.nil m K).put (v := nI 119) (z_onR.s17 (nI (p + 1))) (n := K) (by rfl)) (fun h' m' vs g1 g2 g3 g4 g5 => q h' m' vs g1 g2 g3 g4 ((hF1.trans hF2).trans g5))
  by_cases e109 : z_here l p = 109
  · have hlt : p < l.length := z_hereP (by omega)
    have ev : z_hr l p = nI 109 := (z_hrE hI.1 (by decide) (by decide)).mpr e109
    have er : z_rdO l p z_oN0 = z_bd (true, p + 1, ((4, 0, 0, 0, 0) : z_OV)) (z_rdF l [111, 118, 101, 32, 68, 32, 78]) := z_rdOk (by decide) rfl (by decide) e109
    rw [er] at q
    refine z_aload_n rfl rfl ?_
    refine z_callV (av := []) rfl z_w235 hM.1 rfl rfl rfl rfl rfl (Nat.le_of_ble_eq_true rfl) (Nat.le_of_ble_eq_true rfl) (Nat.le_of_ble_eq_true rfl) (Nat.le_of_ble_eq_true rfl) (cM_here hM hI hq17 (by omega) ?_)
    rw [ev]
    refine z_istore_n rfl (by decide +kernel) rfl ?_
    refine z_aload_n rfl rfl ?_
    refine z_dup rfl rfl ?_
    refine z_get rfl hM.1 rfl ?_
    refine z_iconst (v := 1) rfl (by decide) ?_
    refine z_iadd rfl ?_
    rw [hq17, nI_1]
    refine z_putM rfl hM (by decide) rfl rfl (fun h1 hC1 hF1 => ?_)
    refine z_aload_n rfl rfl ?_
    refine z_get rfl hC1.1 rfl ?_
    refine z_iload_n rfl rfl ?_
    refine z_iload_n rfl rfl ?_
    refine z_istM (j := 8) rfl hC1 (by decide) (k := K) rfl (show K < 240 by omega) (fun h2 hC2 hF2 => ?_)
    refine z_iload_n rfl rfl ?_
    refine z_tswI (x := nI 109) (o := 229) (t := 252) rfl (by decide) (by decide) rfl rfl ?_
    exact cM_rO4 hK hC2 (show z_Pm (z_mF (z_mS m 17 (nI (p + 1))) 8 (upd ((z_mS m 17 (nI (p + 1))).2 8) K (nI 109))) l (true, p + 1, (4, 0, 0, 0, 0)) from ⟨hI, rfl, h18, hlt⟩) ((z_Ts.nil m K).put (v := nI 109) (z_onR.s17 (nI (p + 1))) (n := K) (by rfl)) (fun h' m' vs g1 g2 g3 g4 g5 => q h' m' vs g1 g2 g3 g4 ((hF1.trans hF2).trans g5))
  by_cases e98 : z_here l p = 98
  · have hlt : p < l.length := z_hereP (by omega)
    have ev : z_hr l p = nI 98 := (z_hrE hI.1 (by decide) (by decide)).mpr e98
    have er : z_rdO l p z_oN0 = z_bd (true, p + 1, ((5, 0, 0, 0, 0) : z_OV)) (z_rdF l [105, 108, 108, 32, 68, 32, 78, 32, 68]) := z_rdOk (by decide) rfl (by decide) e98
    rw [er] at q
    refine z_aload_n rfl rfl ?_
    refine z_callV (av := []) rfl z_w235 hM.1 rfl rfl rfl rfl rfl (Nat.le_of_ble_eq_true rfl) (Nat.le_of_ble_eq_true rfl) (Nat.le_of_ble_eq_true rfl) (Nat.le_of_ble_eq_true rfl) (cM_here hM hI hq17 (by omega) ?_)
    rw [ev]
    refine z_istore_n rfl (by decide +kernel) rfl ?_
    refine z_aload_n rfl rfl ?_
    refine z_dup rfl rfl ?_
    refine z_get rfl hM.1 rfl ?_
    refine z_iconst (v := 1) rfl (by decide) ?_
    refine z_iadd rfl ?_
    rw [hq17, nI_1]
    refine z_putM rfl hM (by decide) rfl rfl (fun h1 hC1 hF1 => ?_)
    refine z_aload_n rfl rfl ?_
    refine z_get rfl hC1.1 rfl ?_
    refine z_iload_n rfl rfl ?_
    refine z_iload_n rfl rfl ?_
    refine z_istM (j := 8) rfl hC1 (by decide) (k := K) rfl (show K < 240 by omega) (fun h2 hC2 hF2 => ?_)
    refine z_iload_n rfl rfl ?_
    refine z_tswI (x := nI 98) (o := 268) (t := 291) rfl (by decide) (by decide) rfl rfl ?_
    exact cM_rO5 hK hC2 (show z_Pm (z_mF (z_mS m 17 (nI (p + 1))) 8 (upd ((z_mS m 17 (nI (p + 1))).2 8) K (nI 98))) l (true, p + 1, (5, 0, 0, 0, 0)) from ⟨hI, rfl, h18, hlt⟩) ((z_Ts.nil m K).put (v := nI 98) (z_onR.s17 (nI (p + 1))) (n := K) (by rfl)) (fun h' m' vs g1 g2 g3 g4 g5 => q h' m' vs g1 g2 g3 g4 ((hF1.trans hF2).trans g5))
  by_cases e97 : z_here l p = 97
  · have hlt : p < l.length := z_hereP (by omega)
    have ev : z_hr l p = nI 97 := (z_hrE hI.1 (by decide) (by decide)).mpr e97
    have er : z_rdO l p z_oN0 = z_bd (true, p + 1, ((6, 0, 0, 0, 0) : z_OV)) (z_rdF l [100, 106, 111, 117, 114, 110, 32, 68, 32, 78]) := z_rdOk (by decide) rfl (by decide) e97
    rw [er] at q
    refine z_aload_n rfl rfl ?_
    refine z_callV (av := []) rfl z_w235 hM.1 rfl rfl rfl rfl rfl (Nat.le_of_ble_eq_true rfl) (Nat.le_of_ble_eq_true rfl) (Nat.le_of_ble_eq_true rfl) (Nat.le_of_ble_eq_true rfl) (cM_here hM hI hq17 (by omega) ?_)
    rw [ev]
    refine z_istore_n rfl (by decide +kernel) rfl ?_
    refine z_aload_n rfl rfl ?_
    refine z_dup rfl rfl ?_
    refine z_get rfl hM.1 rfl ?_
    refine z_iconst (v := 1) rfl (by decide) ?_
    refine z_iadd rfl ?_
    rw [hq17, nI_1]
    refine z_putM rfl hM (by decide) rfl rfl (fun h1 hC1 hF1 => ?_)
    refine z_aload_n rfl rfl ?_
    refine z_get rfl hC1.1 rfl ?_
    refine z_iload_n rfl rfl ?_
    refine z_iload_n rfl rfl ?_
    refine z_istM (j := 8) rfl hC1 (by decide) (k := K) rfl (show K < 240 by omega) (fun h2 hC2 hF2 => ?_)
    refine z_iload_n rfl rfl ?_
    refine z_tswI (x := nI 97) (o := 320) (t := 343) rfl (by decide) (by decide) rfl rfl ?_
    exact cM_rO6 hK hC2 (show z_Pm (z_mF (z_mS m 17 (nI (p + 1))) 8 (upd ((z_mS m 17 (nI (p + 1))).2 8) K (nI 97))) l (true, p + 1, (6, 0, 0, 0, 0)) from ⟨hI, rfl, h18, hlt⟩) ((z_Ts.nil m K).put (v := nI 97) (z_onR.s17 (nI (p + 1))) (n := K) (by rfl)) (fun h' m' vs g1 g2 g3 g4 g5 => q h' m' vs g1 g2 g3 g4 ((hF1.trans hF2).trans g5))
  by_cases e100 : z_here l p = 100
  · have hlt : p < l.length := z_hereP (by omega)
    have ev : z_hr l p = nI 100 := (z_hrE hI.1 (by decide) (by decide)).mpr e100
    have er : z_rdO l p z_oN0 = z_bd (true, p + 1, ((7, 0, 0, 0, 0) : z_OV)) (z_rdF l [114, 111, 112, 32, 68]) := z_rdOk (by decide) rfl (by decide) e100
    rw [er] at q
    refine z_aload_n rfl rfl ?_
    refine z_callV (av := []) rfl z_w235 hM.1 rfl rfl rfl rfl rfl (Nat.le_of_ble_eq_true rfl) (Nat.le_of_ble_eq_true rfl) (Nat.le_of_ble_eq_true rfl) (Nat.le_of_ble_eq_true rfl) (cM_here hM hI hq17 (by omega) ?_)
    rw [ev]
    refine z_istore_n rfl (by decide +kernel) rfl ?_
    refine z_aload_n rfl rfl ?_
    refine z_dup rfl rfl ?_
    refine z_get rfl hM.1 rfl ?_
    refine z_iconst (v := 1) rfl (by decide) ?_
    refine z_iadd rfl ?_
    rw [hq17, nI_1]
    refine z_putM rfl hM (by decide) rfl rfl (fun h1 hC1 hF1 => ?_)
    refine z_aload_n rfl rfl ?_
    refine z_get rfl hC1.1 rfl ?_
    refine z_iload_n rfl rfl ?_
    refine z_iload_n rfl rfl ?_
    refine z_istM (j := 8) rfl hC1 (by decide) (k := K) rfl (show K < 240 by omega) (fun h2 hC2 hF2 => ?_)
    refine z_iload_n rfl rfl ?_
    refine z_tswI (x := nI 100) (o := 328) (t := 351) rfl (by decide) (by decide) rfl rfl ?_
    exact cM_rO7 hK hC2 (show z_Pm (z_mF (z_mS m 17 (nI (p + 1))) 8 (upd ((z_mS m 17 (nI (p + 1))).2 8) K (nI 100))) l (true, p + 1, (7, 0, 0, 0, 0)) from ⟨hI, rfl, h18, hlt⟩) ((z_Ts.nil m K).put (v := nI 100) (z_onR.s17 (nI (p + 1))) (n := K) (by rfl)) (fun h' m' vs g1 g2 g3 g4 g5 => q h' m' vs g1 g2 g3 g4 ((hF1.trans hF2).trans g5))
  by_cases e118 : z_here l p = 118
  · have hlt : p < l.length := z_hereP (by omega)
    have ev : z_hr l p = nI 118 := (z_hrE hI.1 (by decide) (by decide)).mpr e118
    have er : z_rdO l p z_oN0 = z_bd (true, p + 1, ((8, 0, 0, 0, 0) : z_OV)) (z_rdF l [111, 116, 101]) := z_rdOk (by decide) rfl (by decide) e118
    rw [er] at q
    refine z_aload_n rfl rfl ?_
    refine z_callV (av := []) rfl z_w235 hM.1 rfl rfl rfl rfl rfl (Nat.le_of_ble_eq_true rfl) (Nat.le_of_ble_eq_true rfl) (Nat.le_of_ble_eq_true rfl) (Nat.le_of_ble_eq_true rfl) (cM_here hM hI hq17 (by omega) ?_)
    rw [ev]
    refine z_istore_n rfl (by decide +kernel) rfl ?_
    refine z_aload_n rfl rfl ?_
    refine z_dup rfl rfl ?_
    refine z_get rfl hM.1 rfl ?_
    refine z_iconst (v := 1) rfl (by decide) ?_
    refine z_iadd rfl ?_
    rw [hq17, nI_1]
    refine z_putM rfl hM (by decide) rfl rfl (fun h1 hC1 hF1 => ?_)
    refine z_aload_n rfl rfl ?_
    refine z_get rfl hC1.1 rfl ?_
    refine z_iload_n rfl rfl ?_
    refine z_iload_n rfl rfl ?_
    refine z_istM (j := 8) rfl hC1 (by decide) (k := K) rfl (show K < 240 by omega) (fun h2 hC2 hF2 => ?_)
    refine z_iload_n rfl rfl ?_
    refine z_tswI (x := nI 118) (o := 354) (t := 377) rfl (by decide) (by decide) rfl rfl ?_
    exact cM_rO8 hK hC2 (show z_Pm (z_mF (z_mS m 17 (nI (p + 1))) 8 (upd ((z_mS m 17 (nI (p + 1))).2 8) K (nI 118))) l (true, p + 1, (8, 0, 0, 0, 0)) from ⟨hI, rfl, h18, hlt⟩) ((z_Ts.nil m K).put (v := nI 118) (z_onR.s17 (nI (p + 1))) (n := K) (by rfl)) (fun h' m' vs g1 g2 g3 g4 g5 => q h' m' vs g1 g2 g3 g4 ((hF1.trans hF2).trans g5))
  by_cases e104 : z_here l p = 104
  · have hlt : p < l.length := z_hereP (by omega)
    have ev : z_hr l p = nI 104 := (z_hrE hI.1 (by decide) (by decide)).mpr e104
    have er : z_rdO l p z_oN0 = z_bd (true, p + 1, ((9, 0, 0, 0, 0) : z_OV)) (z_rdF l [111, 117, 114, 63, 32, 78]) := z_rdOk (by decide) rfl (by decide) e104
    rw [er] at q
    refine z_aload_n rfl rfl ?_
    refine z_callV (av := []) rfl z_w235 hM.1 rfl rfl rfl rfl rfl (Nat.le_of_ble_eq_true rfl) (Nat.le_of_ble_eq_true rfl) (Nat.le_of_ble_eq_true rfl) (Nat.le_of_ble_eq_true rfl) (cM_here hM hI hq17 (by omega) ?_)
    rw [ev]
    refine z_istore_n rfl (by decide +kernel) rfl ?_
    refine z_aload_n rfl rfl ?_
    refine z_dup rfl rfl ?_
    refine z_get rfl hM.1 rfl ?_
    refine z_iconst (v := 1) rfl (by decide) ?_
    refine z_iadd rfl ?_
    rw [hq17, nI_1]
    refine z_putM rfl hM (by decide) rfl rfl (fun h1 hC1 hF1 => ?_)
    refine z_aload_n rfl rfl ?_
    refine z_get rfl hC1.1 rfl ?_
    refine z_iload_n rfl rfl ?_
    refine z_iload_n rfl rfl ?_
    refine z_istM (j := 8) rfl hC1 (by decide) (k := K) rfl (show K < 240 by omega) (fun h2 hC2 hF2 => ?_)
    refine z_iload_n rfl rfl ?_
    refine z_tswI (x := nI 104) (o := 367) (t := 390) rfl (by decide) (by decide) rfl rfl ?_
    exact cM_rO9 hK hC2 (show z_Pm (z_mF (z_mS m 17 (nI (p + 1))) 8 (upd ((z_mS m 17 (nI (p + 1))).2 8) K (nI 104))) l (true, p + 1, (9, 0, 0, 0, 0)) from ⟨hI, rfl, h18, hlt⟩) ((z_Ts.nil m K).put (v := nI 104) (z_onR.s17 (nI (p + 1))) (n := K) (by rfl)) (fun h' m' vs g1 g2 g3 g4 g5 => q h' m' vs g1 g2 g3 g4 ((hF1.trans hF2).trans g5))
  have hn : z_knd (z_here l p) = none := by
    unfold z_knd
    cases ef : z_first (fun i => decide ((z_frm i).getD 0 0 = z_here l p)) 10 0 with
    | none => rfl
    | some i =>
      exfalso
      obtain ⟨f1, _, f3⟩ := z_firstP _ _ ef
      have f1 := of_decide_eq_true f1
      rcases (show i = 0 ∨ i = 1 ∨ i = 2 ∨ i = 3 ∨ i = 4 ∨ i = 5 ∨ i = 6 ∨ i = 7 ∨ i = 8 ∨ i = 9 by omega) with rfl | rfl | rfl | rfl | rfl | rfl | rfl | rfl | rfl | rfl
      · exact e99 f1.symm
      · exact e108 f1.symm
      · exact e107 f1.symm
      · exact e119 f1.symm
      · exact e109 f1.symm
      · exact e98 f1.symm
      · exact e97 f1.symm
      · exact e100 f1.symm
      · exact e118 f1.symm
      · exact e104 f1.symm
  have er : z_rdO l p z_oN0 = (false, p, z_oN0) := by
    unfold z_rdO
    rw [hn]
  have hc : z_hr l p = -1 ∨ ∃ x, x < 127 ∧ z_knd x = none ∧ z_hr l p = nI x := by
    unfold z_hr
    by_cases c : p < l.length
    · rw [if_pos c]
      exact Or.inr ⟨_, by have := (z_hereIn hI.1 c).2; omega, hn, rfl⟩
    · rw [if_neg c]; exact Or.inl rfl
  rw [er] at q
  refine z_aload_n rfl rfl ?_
  refine z_callV (av := []) rfl z_w235 hM.1 rfl rfl rfl rfl rfl (Nat.le_of_ble_eq_true rfl) (Nat.le_of_ble_eq_true rfl) (Nat.le_of_ble_eq_true rfl) (Nat.le_of_ble_eq_true rfl) (cM_here hM hI hq17 (by omega) ?_)
  refine z_istore_n rfl (by decide +kernel) rfl ?_
  refine z_aload_n rfl rfl ?_
  refine z_dup rfl rfl ?_
  refine z_get rfl hM.1 rfl ?_
  refine z_iconst (v := 1) rfl (by decide) ?_
  refine z_iadd rfl ?_
  rw [hq17, nI_1]
  refine z_putM rfl hM (by decide) rfl rfl (fun h1 hC1 hF1 => ?_)
  refine z_aload_n rfl rfl ?_
  refine z_get rfl hC1.1 rfl ?_
  refine z_iload_n rfl rfl ?_
  refine z_iload_n rfl rfl ?_
  refine z_istM (j := 8) rfl hC1 (by decide) (k := K) rfl (show K < 240 by omega) (fun h2 hC2 hF2 => ?_)
  refine z_iload_n rfl rfl ?_
  have gF := (hF1.trans hF2)
  refine cM_rOx hC2 ?_ hc
  refine z_aload_n rfl rfl ?_
  refine z_iconst (v := 1) rfl (by decide) ?_
  refine z_putM rfl hC2 (by decide) rfl rfl (fun h1 hC1 hF1 => ?_)
  refine z_aload_n rfl rfl ?_
  refine z_dup rfl rfl ?_
  refine z_get rfl hC1.1 rfl ?_
  refine z_iconst (v := 1) rfl (by decide) ?_
  refine z_isub rfl ?_
  rw [show (z_mS (z_mF (z_mS m 17 (nI (p + 1))) 8 (upd ((z_mS m 17 (nI (p + 1))).2 8) K (z_hr l p))) 18 1).1 17 - 1 = nI p from nI_pred p]
  refine z_putM rfl hC1 (by decide) rfl rfl (fun h2 hC2 hF2 => ?_)
  refine z_vret rfl rfl ?_
  exact q _ _ _ hC2 ⟨hI, rfl, rfl, hp⟩ (((z_Ts.nil m K).put (v := z_hr l p) (z_onR.s17 (nI (p + 1))) (n := K) (by rfl)).on ((z_onR.s18 1).trans (z_onR.s17 (nI p)))) (fun e => Bool.noConfusion e) (gF.trans (hF1.trans hF2))
end ZRo
