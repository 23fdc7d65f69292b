/-! The law's turns, one by one. -/
section ZTu
variable {G : z_G} {C S j : Nat} {h : z_H} {Q : z_O → z_H → Prop} {x : z_PV} {m : z_MV}
theorem cL_clock (hv1 : vp_in (nI j + 1) G.2.2.2.2.2.1) (hv2 : vp_in (nI j + 2) G.2.2.2.2.2.1) (hv3 : vp_in (nI j + 3) G.2.2.2.2.2.1) (hS : z_LS h x m) (K : z_KL G C S j Q) : z_W G 13 (C + 30) (S + 8000) 338 236 (z_LL j) [] h Q := by
  obtain ⟨hP, hM, hR, ⟨f, ho⟩, ⟨g, hg⟩⟩ := hS
  refine z_aload_n rfl rfl ?_
  refine z_aload_n rfl rfl ?_
  refine z_iload rfl rfl ?_
  refine z_iconst (v := 1) rfl (by decide) ?_
  refine z_iadd rfl ?_
  refine z_sld rfl hv1 ?_
  refine z_aload_n rfl rfl ?_
  refine z_iload rfl rfl ?_
  refine z_iconst (v := 2) rfl (by decide) ?_
  refine z_iadd rfl ?_
  refine z_sld rfl hv2 ?_
  refine z_aload_n rfl rfl ?_
  refine z_callSX (av := [_, _, _, _]) rfl z_w261 rfl rfl rfl rfl (Nat.le_of_ble_eq_true rfl) (by omega) (by omega) (Nat.le_of_ble_eq_true rfl) (cW_clock hR.1.1.1 hP ho fun h1 f1 hP1 hk ho1 hf1 => ?_)
  have hM1 : z_Mo h1 1288 m := hM.keptX fun k u1 u2 => hk k u1 (by omega) (by omega)
  have hg1 := (hk 1298 (by decide) (by decide) (by decide)).trans hg
  refine z_istore rfl (by decide +kernel) rfl ?_
  refine z_aload_n rfl rfl ?_
  refine z_aload_n rfl rfl ?_
  refine z_iload rfl rfl ?_
  refine z_iconst (v := 1) rfl (by decide) ?_
  refine z_iadd rfl ?_
  refine z_sld rfl hv1 ?_
  refine z_aload_n rfl rfl ?_
  refine z_iload rfl rfl ?_
  refine z_iconst (v := 2) rfl (by decide) ?_
  refine z_iadd rfl ?_
  refine z_sld rfl hv2 ?_
  refine z_callV (av := [_, _]) rfl z_w176 hM1.1 rfl rfl rfl rfl rfl (Nat.le_of_ble_eq_true rfl) (by omega) (by omega) (Nat.le_of_ble_eq_true rfl) (cM_clock hM1 hR ?_)
  intro h2 m2 rr hM2 hR2 ht2 hF2 hr2
  exact z_tlI rfl rfl rfl rfl rfl rfl rfl rfl rfl rfl rfl rfl rfl rfl rfl ((z_end_chg (x := x)).elim Or.inl fun e => Or.inr (Or.inl e)) (hP1.kept hF2 (by decide)) hM2 hR2 ht2 hr2 ((hF2.2 _ (Or.inr (by decide))).trans ho1) hf1 ⟨g, (hF2.2 _ (Or.inr (by decide))).trans hg1⟩ (by omega) (by omega) K
theorem cL_leave (hv1 : vp_in (nI j + 1) G.2.2.2.2.2.1) (hv2 : vp_in (nI j + 2) G.2.2.2.2.2.1) (hv3 : vp_in (nI j + 3) G.2.2.2.2.2.1) (hS : z_LS h x m) (K : z_KL G C S j Q) : z_W G 13 (C + 30) (S + 8000) 338 304 (z_LL j) [] h Q := by
  obtain ⟨hP, hM, hR, ⟨f, ho⟩, ⟨g, hg⟩⟩ := hS
  refine z_aload_n rfl rfl ?_
  refine z_aload_n rfl rfl ?_
  refine z_iload rfl rfl ?_
  refine z_iconst (v := 1) rfl (by decide) ?_
  refine z_iadd rfl ?_
  refine z_sld rfl hv1 ?_
  refine z_aload_n rfl rfl ?_
  refine z_callSX (av := [_, _, _]) rfl z_w262 rfl rfl rfl rfl (Nat.le_of_ble_eq_true rfl) (by omega) (by omega) (Nat.le_of_ble_eq_true rfl) (cW_leave hR.1.1.1 hP ho fun h1 f1 hP1 hk ho1 hf1 => ?_)
  have hM1 : z_Mo h1 1288 m := hM.keptX fun k u1 u2 => hk k u1 (by omega) (by omega)
  have hg1 := (hk 1298 (by decide) (by decide) (by decide)).trans hg
  refine z_istore rfl (by decide +kernel) rfl ?_
  refine z_aload_n rfl rfl ?_
  refine z_aload_n rfl rfl ?_
  refine z_iload rfl rfl ?_
  refine z_iconst (v := 1) rfl (by decide) ?_
  refine z_iadd rfl ?_
  refine z_sld rfl hv1 ?_
  refine z_callV (av := [_]) rfl z_w180 hM1.1 rfl rfl rfl rfl rfl (Nat.le_of_ble_eq_true rfl) (by omega) (by omega) (Nat.le_of_ble_eq_true rfl) (cM_leave hM1 hR ?_)
  intro h2 m2 rr hM2 hR2 ht2 hF2 hr2
  exact z_tlI rfl rfl rfl rfl rfl rfl rfl rfl rfl rfl rfl rfl rfl rfl rfl ((z_end_chg (x := x)).elim Or.inl fun e => Or.inr (Or.inl e)) (hP1.kept hF2 (by decide)) hM2 hR2 ht2 hr2 ((hF2.2 _ (Or.inr (by decide))).trans ho1) hf1 ⟨g, (hF2.2 _ (Or.inr (by decide))).trans hg1⟩ (by omega) (by omega) K
theorem cL_key (hv1 : vp_in (nI j + 1) G.2.2.2.2.2.1) (hv2 : vp_in (nI j + 2) G.2.2.2.2.2.1) (hv3 : vp_in (nI j + 3) G.2.2.2.2.2.1) (hS : z_LS h x m) (K : z_KL G C S j Q) : z_W G 13 (C + 30) (S + 8000) 338 360 (z_LL j) [] h Q := by
  obtain ⟨hP, hM, hR, ⟨f, ho⟩, ⟨g, hg⟩⟩ := hS
  refine z_aload_n rfl rfl ?_
  refine z_aload_n rfl rfl ?_
  refine z_iload rfl rfl ?_
  refine z_iconst (v := 1) rfl (by decide) ?_
  refine z_iadd rfl ?_
  refine z_sld rfl hv1 ?_
  refine z_aload_n rfl rfl ?_
  refine z_iload rfl rfl ?_
  refine z_iconst (v := 2) rfl (by decide) ?_
  refine z_iadd rfl ?_
  refine z_sld rfl hv2 ?_
  refine z_aload_n rfl rfl ?_
  refine z_callSX (av := [_, _, _, _]) rfl z_w263 rfl rfl rfl rfl (Nat.le_of_ble_eq_true rfl) (by omega) (by omega) (Nat.le_of_ble_eq_true rfl) (cW_key hR.1.1.1 hP ho fun h1 f1 hP1 hk ho1 hf1 => ?_)
  have hM1 : z_Mo h1 1288 m := hM.keptX fun k u1 u2 => hk k u1 (by omega) (by omega)
  have hg1 := (hk 1298 (by decide) (by decide) (by decide)).trans hg
  refine z_istore rfl (by decide +kernel) rfl ?_
  refine z_aload_n rfl rfl ?_
  refine z_aload_n rfl rfl ?_
  refine z_iload rfl rfl ?_
  refine z_iconst (v := 1) rfl (by decide) ?_
  refine z_iadd rfl ?_
  refine z_sld rfl hv1 ?_
  refine z_aload_n rfl rfl ?_
  refine z_iload rfl rfl ?_
  refine z_iconst (v := 2) rfl (by decide) ?_
  refine z_iadd rfl ?_
  refine z_sld rfl hv2 ?_
  refine z_callV (av := [_, _]) rfl z_w182 hM1.1 rfl rfl rfl rfl rfl (Nat.le_of_ble_eq_true rfl) (by omega) (by omega) (Nat.le_of_ble_eq_true rfl) (cM_key hM1 hR ?_)
  intro h2 m2 rr hM2 hR2 ht2 hF2 hr2
  exact z_tlI rfl rfl rfl rfl rfl rfl rfl rfl rfl rfl rfl rfl rfl rfl rfl ((z_end_chg (x := x)).elim Or.inl fun e => Or.inr (Or.inl e)) (hP1.kept hF2 (by decide)) hM2 hR2 ht2 hr2 ((hF2.2 _ (Or.inr (by decide))).trans ho1) hf1 ⟨g, (hF2.2 _ (Or.inr (by decide))).trans hg1⟩ (by omega) (by omega) K
theorem cL_wind (hv1 : vp_in (nI j + 1) G.2.2.2.2.2.1) (hv2 : vp_in (nI j + 2) G.2.2.2.2.2.1) (hv3 : vp_in (nI j + 3) G.2.2.2.2.2.1) (hS : z_LS h x m) (K : z_KL G C S j Q) : z_W G 13 (C + 30) (S + 8000) 338 428 (z_LL j) [] h Q := by
  obtain ⟨hP, hM, hR, ⟨f, ho⟩, ⟨g, hg⟩⟩ := hS
  refine z_aload_n rfl rfl ?_
  refine z_aload_n rfl rfl ?_
  refine z_iload rfl rfl ?_
  refine z_iconst (v := 1) rfl (by decide) ?_
  refine z_iadd rfl ?_
  refine z_sld rfl hv1 ?_
  refine z_aload_n rfl rfl ?_
  refine z_iload rfl rfl ?_
  refine z_iconst (v := 2) rfl (by decide) ?_
  refine z_iadd rfl ?_
  refine z_sld rfl hv2 ?_
  refine z_aload_n rfl rfl ?_
  refine z_callSX (av := [_, _, _, _]) rfl z_w264 rfl rfl rfl rfl (Nat.le_of_ble_eq_true rfl) (by omega) (by omega) (Nat.le_of_ble_eq_true rfl) (cW_wind hR.1.1.1 hP ho fun h1 f1 hP1 hk ho1 hf1 => ?_)
  have hM1 : z_Mo h1 1288 m := hM.keptX fun k u1 u2 => hk k u1 (by omega) (by omega)
  have hg1 := (hk 1298 (by decide) (by decide) (by decide)).trans hg
  refine z_istore rfl (by decide +kernel) rfl ?_
  refine z_aload_n rfl rfl ?_
  refine z_aload_n rfl rfl ?_
  refine z_iload rfl rfl ?_
  refine z_iconst (v := 1) rfl (by decide) ?_
  refine z_iadd rfl ?_
  refine z_sld rfl hv1 ?_
  refine z_aload_n rfl rfl ?_
  refine z_iload rfl rfl ?_
  refine z_iconst (v := 2) rfl (by decide) ?_
  refine z_iadd rfl ?_
  refine z_sld rfl hv2 ?_
  refine z_callV (av := [_, _]) rfl z_w184 hM1.1 rfl rfl rfl rfl rfl (Nat.le_of_ble_eq_true rfl) (by omega) (by omega) (Nat.le_of_ble_eq_true rfl) (cM_wind hM1 hR ?_)
  intro h2 m2 rr hM2 hR2 ht2 hF2 hr2
  exact z_tlI rfl rfl rfl rfl rfl rfl rfl rfl rfl rfl rfl rfl rfl rfl rfl ((z_end_chg (x := x)).elim Or.inl fun e => Or.inr (Or.inl e)) (hP1.kept hF2 (by decide)) hM2 hR2 ht2 hr2 ((hF2.2 _ (Or.inr (by decide))).trans ho1) hf1 ⟨g, (hF2.2 _ (Or.inr (by decide))).trans hg1⟩ (by omega) (by omega) K
theorem cL_move (hv1 : vp_in (nI j + 1) G.2.2.2.2.2.1) (hv2 : vp_in (nI j + 2) G.2.2.2.2.2.1) (hv3 : vp_in (nI j + 3) G.2.2.2.2.2.1) (hS : z_LS h x m) (K : z_KL G C S j Q) : z_W G 13 (C + 30) (S + 8000) 338 496 (z_LL j) [] h Q := by
  obtain ⟨hP, hM, hR, ⟨f, ho⟩, ⟨g, hg⟩⟩ := hS
  refine z_aload_n rfl rfl ?_
  refine z_aload_n rfl rfl ?_
  refine z_iload rfl rfl ?_
  refine z_iconst (v := 1) rfl (by decide) ?_
  refine z_iadd rfl ?_
  refine z_sld rfl hv1 ?_
  refine z_aload_n rfl rfl ?_
  refine z_iload rfl rfl ?_
  refine z_iconst (v := 2) rfl (by decide) ?_
  refine z_iadd rfl ?_
  refine z_sld rfl hv2 ?_
  refine z_aload_n rfl rfl ?_
  refine z_callSX (av := [_, _, _, _]) rfl z_w265 rfl rfl rfl rfl (Nat.le_of_ble_eq_true rfl) (by omega) (by omega) (Nat.le_of_ble_eq_true rfl) (cW_move hR.1.1.1 hP ho fun h1 f1 hP1 hk ho1 hf1 => ?_)
  have hM1 : z_Mo h1 1288 m := hM.keptX fun k u1 u2 => hk k u1 (by omega) (by omega)
  have hg1 := (hk 1298 (by decide) (by decide) (by decide)).trans hg
  refine z_istore rfl (by decide +kernel) rfl ?_
  refine z_aload_n rfl rfl ?_
  refine z_aload_n rfl rfl ?_
  refine z_iload rfl rfl ?_
  refine z_iconst (v := 1) rfl (by decide) ?_
  refine z_iadd rfl ?_
  refine z_sld rfl hv1 ?_
  refine z_aload_n rfl rfl ?_
  refine z_iload rfl rfl ?_
  refine z_iconst (v := 2) rfl (by decide) ?_
  refine z_iadd rfl ?_
  refine z_sld rfl hv2 ?_
  refine z_callV (av := [_, _]) rfl z_w186 hM1.1 rfl rfl rfl rfl rfl (Nat.le_of_ble_eq_true rfl) (by omega) (by omega) (Nat.le_of_ble_eq_true rfl) (cM_move hM1 hR ?_)
  intro h2 m2 rr hM2 hR2 ht2 hF2 hr2
  exact z_tlI rfl rfl rfl rfl rfl rfl rfl rfl rfl rfl rfl rfl rfl rfl rfl ((z_end_chg (x := x)).elim Or.inl fun e => Or.inr (Or.inl e)) (hP1.kept hF2 (by decide)) hM2 hR2 ht2 hr2 ((hF2.2 _ (Or.inr (by decide))).trans ho1) hf1 ⟨g, (hF2.2 _ (Or.inr (by decide))).trans hg1⟩ (by omega) (by omega) K
theorem cL_bill (hv1 : vp_in (nI j + 1) G.2.2.2.2.2.1) (hv2 : vp_in (nI j + 2) G.2.2.2.2.2.1) (hv3 : vp_in (nI j + 3) G.2.2.2.2.2.1) (hS : z_LS h x m) (K : z_KL G C S j Q) : z_W G 13 (C + 30) (S + 8000) 338 564 (z_LL j) [] h Q := by
  obtain ⟨hP, hM, hR, ⟨f, ho⟩, ⟨g, hg⟩⟩ := hS
  refine z_aload_n rfl rfl ?_
  refine z_aload_n rfl rfl ?_
  refine z_iload rfl rfl ?_
  refine z_iconst (v := 1) rfl (by decide) ?_
  refine z_iadd rfl ?_
  refine z_sld rfl hv1 ?_
  refine z_aload_n rfl rfl ?_
  refine z_iload rfl rfl ?_
  refine z_iconst (v := 2) rfl (by decide) ?_
  refine z_iadd rfl ?_
  refine z_sld rfl hv2 ?_
  refine z_aload_n rfl rfl ?_
  refine z_iload rfl rfl ?_
  refine z_iconst (v := 3) rfl (by decide) ?_
  refine z_iadd rfl ?_
  refine z_sld rfl hv3 ?_
  refine z_aload_n rfl rfl ?_
  refine z_callSX (av := [_, _, _, _, _]) rfl z_w266 rfl rfl rfl rfl (Nat.le_of_ble_eq_true rfl) (by omega) (by omega) (Nat.le_of_ble_eq_true rfl) (cW_bill hR.1.1.1 hP ho fun h1 f1 hP1 hk ho1 hf1 => ?_)
  have hM1 : z_Mo h1 1288 m := hM.keptX fun k u1 u2 => hk k u1 (by omega) (by omega)
  have hg1 := (hk 1298 (by decide) (by decide) (by decide)).trans hg
  refine z_istore rfl (by decide +kernel) rfl ?_
  refine z_aload_n rfl rfl ?_
  refine z_aload_n rfl rfl ?_
  refine z_iload rfl rfl ?_
  refine z_iconst (v := 1) rfl (by decide) ?_
  refine z_iadd rfl ?_
  refine z_sld rfl hv1 ?_
  refine z_aload_n rfl rfl ?_
  refine z_iload rfl rfl ?_
  refine z_iconst (v := 2) rfl (by decide) ?_
  refine z_iadd rfl ?_
  refine z_sld rfl hv2 ?_
  refine z_aload_n rfl rfl ?_
  refine z_iload rfl rfl ?_
  refine z_iconst (v := 3) rfl (by decide) ?_
  refine z_iadd rfl ?_
  refine z_sld rfl hv3 ?_
  refine z_callV (av := [_, _, _]) rfl z_w191 hM1.1 rfl rfl rfl rfl rfl (Nat.le_of_ble_eq_true rfl) (by omega) (by omega) (Nat.le_of_ble_eq_true rfl) (cM_bill hM1 hR ?_)
  intro h2 m2 rr hM2 hR2 ht2 hF2 hr2
  exact z_tlI rfl rfl rfl rfl rfl rfl rfl rfl rfl rfl rfl rfl rfl rfl rfl ((z_end_chg (x := x)).elim Or.inl fun e => Or.inr (Or.inl e)) (hP1.kept hF2 (by decide)) hM2 hR2 ht2 hr2 ((hF2.2 _ (Or.inr (by decide))).trans ho1) hf1 ⟨g, (hF2.2 _ (Or.inr (by decide))).trans hg1⟩ (by omega) (by omega) K
theorem cL_adjourn (hv1 : vp_in (nI j + 1) G.2.2.2.2.2.1) (hv2 : vp_in (nI j + 2) G.2.2.2.2.2.1) (hv3 : vp_in (nI j + 3) G.2.2.2.2.2.1) (hS : z_LS h x m) (K : z_KL G C S j Q) : z_W G 13 (C + 30) (S + 8000) 338 644 (z_LL j) [] h Q := by
  obtain ⟨hP, hM, hR, ⟨f, ho⟩, ⟨g, hg⟩⟩ := hS
  refine z_aload_n rfl rfl ?_
  refine z_aload_n rfl rfl ?_
  refine z_iload rfl rfl ?_
  refine z_iconst (v := 1) rfl (by decide) ?_
  refine z_iadd rfl ?_
  refine z_sld rfl hv1 ?_
  refine z_aload_n rfl rfl ?_
  refine z_iload rfl rfl ?_
  refine z_iconst (v := 2) rfl (by decide) ?_
  refine z_iadd rfl ?_
  refine z_sld rfl hv2 ?_
  refine z_aload_n rfl rfl ?_
  refine z_callSX (av := [_, _, _, _]) rfl z_w267 rfl rfl rfl rfl (Nat.le_of_ble_eq_true rfl) (by omega) (by omega) (Nat.le_of_ble_eq_true rfl) (cW_adjourn hR.1.1.1 hP ho fun h1 f1 hP1 hk ho1 hf1 => ?_)
  have hM1 : z_Mo h1 1288 m := hM.keptX fun k u1 u2 => hk k u1 (by omega) (by omega)
  have hg1 := (hk 1298 (by decide) (by decide) (by decide)).trans hg
  refine z_istore rfl (by decide +kernel) rfl ?_
  refine z_aload_n rfl rfl ?_
  refine z_aload_n rfl rfl ?_
  refine z_iload rfl rfl ?_
  refine z_iconst (v := 1) rfl (by decide) ?_
  refine z_iadd rfl ?_
  refine z_sld rfl hv1 ?_
  refine z_aload_n rfl rfl ?_
  refine z_iload rfl rfl ?_
  refine z_iconst (v := 2) rfl (by decide) ?_
  refine z_iadd rfl ?_
  refine z_sld rfl hv2 ?_
  refine z_callV (av := [_, _]) rfl z_w195 hM1.1 rfl rfl rfl rfl rfl (Nat.le_of_ble_eq_true rfl) (by omega) (by omega) (Nat.le_of_ble_eq_true rfl) (cM_adjourn hM1 hR ?_)
  intro h2 m2 rr hM2 hR2 ht2 hF2 hr2
  exact z_tlI rfl rfl rfl rfl rfl rfl rfl rfl rfl rfl rfl rfl rfl rfl rfl ((z_end_chg (x := x)).elim Or.inl fun e => Or.inr (Or.inl e)) (hP1.kept hF2 (by decide)) hM2 hR2 ht2 hr2 ((hF2.2 _ (Or.inr (by decide))).trans ho1) hf1 ⟨g, (hF2.2 _ (Or.inr (by decide))).trans hg1⟩ (by omega) (by omega) K
theorem cL_drop (hv1 : vp_in (nI j + 1) G.2.2.2.2.2.1) (hv2 : vp_in (nI j + 2) G.2.2.2.2.2.1) (hv3 : vp_in (nI j + 3) G.2.2.2.2.2.1) (hS : z_LS h x m) (K : z_KL G C S j Q) : z_W G 13 (C + 30) (S + 8000) 338 712 (z_LL j) [] h Q := by
  obtain ⟨hP, hM, hR, ⟨f, ho⟩, ⟨g, hg⟩⟩ := hS
  refine z_aload_n rfl rfl ?_
  refine z_aload_n rfl rfl ?_
  refine z_iload rfl rfl ?_
  refine z_iconst (v := 1) rfl (by decide) ?_
  refine z_iadd rfl ?_
  refine z_sld rfl hv1 ?_
  refine z_aload_n rfl rfl ?_
  refine z_callSX (av := [_, _, _]) rfl z_w268 rfl rfl rfl rfl (Nat.le_of_ble_eq_true rfl) (by omega) (by omega) (Nat.le_of_ble_eq_true rfl) (cW_drop hR.1.1.1 hP ho fun h1 f1 hP1 hk ho1 hf1 => ?_)
  have hM1 : z_Mo h1 1288 m := hM.keptX fun k u1 u2 => hk k u1 (by omega) (by omega)
  have hg1 := (hk 1298 (by decide) (by decide) (by decide)).trans hg
  refine z_istore rfl (by decide +kernel) rfl ?_
  refine z_aload_n rfl rfl ?_
  refine z_aload_n rfl rfl ?_
  refine z_iload rfl rfl ?_
  refine z_iconst (v := 1) rfl (by decide) ?_
  refine z_iadd rfl ?_
  refine z_sld rfl hv1 ?_
  refine z_callV (av := [_]) rfl z_w198 hM1.1 rfl rfl rfl rfl rfl (Nat.le_of_ble_eq_true rfl) (by omega) (by omega) (Nat.le_of_ble_eq_true rfl) (cM_drop hM1 hR ?_)
  intro h2 m2 rr hM2 hR2 ht2 hF2 hr2
  exact z_tlI rfl rfl rfl rfl rfl rfl rfl rfl rfl rfl rfl rfl rfl rfl rfl ((z_end_chg (x := x)).elim Or.inl fun e => Or.inr (Or.inl e)) (hP1.kept hF2 (by decide)) hM2 hR2 ht2 hr2 ((hF2.2 _ (Or.inr (by decide))).trans ho1) hf1 ⟨g, (hF2.2 _ (Or.inr (by decide))).trans hg1⟩ (by omega) (by omega) K
theorem cL_vote (hv1 : vp_in (nI j + 1) G.2.2.2.2.2.1) (hv2 : vp_in (nI j + 2) G.2.2.2.2.2.1) (hv3 : vp_in (nI j + 3) G.2.2.2.2.2.1) (hS : z_LS h x m) (K : z_KL G C S j Q) : z_W G 13 (C + 30) (S + 8000) 338 768 (z_LL j) [] h Q := by
  obtain ⟨hP, hM, hR, ⟨f, ho⟩, ⟨g, hg⟩⟩ := hS
  refine z_aload_n rfl rfl ?_
  refine z_aload_n rfl rfl ?_
  refine z_callSX (av := [_, _]) rfl z_w269 rfl rfl rfl rfl (Nat.le_of_ble_eq_true rfl) (by omega) (by omega) (Nat.le_of_ble_eq_true rfl) (cW_vote hR.1.1.1 hP ho fun h1 f1 hP1 hk ho1 hf1 => ?_)
  have hM1 : z_Mo h1 1288 m := hM.keptX fun k u1 u2 => hk k u1 (by omega) (by omega)
  have hg1 := (hk 1298 (by decide) (by decide) (by decide)).trans hg
  refine z_istore rfl (by decide +kernel) rfl ?_
  refine z_aload_n rfl rfl ?_
  refine z_callV (av := []) rfl z_w203 hM1.1 rfl rfl rfl rfl rfl (Nat.le_of_ble_eq_true rfl) (by omega) (by omega) (Nat.le_of_ble_eq_true rfl) (cM_vote hM1 hR ?_)
  intro h2 m2 rr hM2 hR2 ht2 hF2 hr2
  exact z_tlI rfl rfl rfl rfl rfl rfl rfl rfl rfl rfl rfl rfl rfl rfl rfl ((z_end_chg (x := x)).elim Or.inl fun e => Or.inr (Or.inl e)) (hP1.kept hF2 (by decide)) hM2 hR2 ht2 hr2 ((hF2.2 _ (Or.inr (by decide))).trans ho1) hf1 ⟨g, (hF2.2 _ (Or.inr (by decide))).trans hg1⟩ (by omega) (by omega) K
theorem cL_hour (hv1 : vp_in (nI j + 1) G.2.2.2.2.2.1) (hv2 : vp_in (nI j + 2) G.2.2.2.2.2.1) (hv3 : vp_in (nI j + 3) G.2.2.2.2.2.1) (hS : z_LS h x m) (K : z_KL G C S j Q) : z_W G 13 (C + 30) (S + 8000) 338 812 (z_LL j) [] h Q := by
  obtain ⟨hP, hM, hR, ⟨f, ho⟩, ⟨g, hg⟩⟩ := hS
  refine z_aload_n rfl rfl ?_
  refine z_aload_n rfl rfl ?_
  refine z_iload rfl rfl ?_
  refine z_iconst (v := 1) rfl (by decide) ?_
  refine z_iadd rfl ?_
  refine z_sld rfl hv1 ?_
  refine z_aload_n rfl rfl ?_
  refine z_callSX (av := [_, _, _]) rfl z_w270 rfl rfl rfl rfl (Nat.le_of_ble_eq_true rfl) (by omega) (by omega) (Nat.le_of_ble_eq_true rfl) (cW_hour hR.1.1.1 hP ho fun h1 f1 hP1 hk ho1 hf1 => ?_)
  have hM1 : z_Mo h1 1288 m := hM.keptX fun k u1 u2 => hk k u1 (by omega) (by omega)
  have hg1 := (hk 1298 (by decide) (by decide) (by decide)).trans hg
  refine z_istore rfl (by decide +kernel) rfl ?_
  refine z_aload_n rfl rfl ?_
  refine z_aload_n rfl rfl ?_
  refine z_iload rfl rfl ?_
  refine z_iconst (v := 1) rfl (by decide) ?_
  refine z_iadd rfl ?_
  refine z_sld rfl hv1 ?_
  refine z_callV (av := [_]) rfl z_w207 hM1.1 rfl rfl rfl rfl rfl (Nat.le_of_ble_eq_true rfl) (by omega) (by omega) (Nat.le_of_ble_eq_true rfl) (cM_hour hM1 hR ?_)
  intro h2 m2 rr hM2 hR2 ht2 hF2 hr2
  exact z_tlI rfl rfl rfl rfl rfl rfl rfl rfl rfl rfl rfl rfl rfl rfl rfl ((z_end_chg (x := x)).elim Or.inl fun e => Or.inr (Or.inl e)) (hP1.kept hF2 (by decide)) hM2 hR2 ht2 hr2 ((hF2.2 _ (Or.inr (by decide))).trans ho1) hf1 ⟨g, (hF2.2 _ (Or.inr (by decide))).trans hg1⟩ (by omega) (by omega) K
theorem cL_clockOf (hv1 : vp_in (nI j + 1) G.2.2.2.2.2.1) (hv2 : vp_in (nI j + 2) G.2.2.2.2.2.1) (hv3 : vp_in (nI j + 3) G.2.2.2.2.2.1) (hS : z_LS h x m) (K : z_KL G C S j Q) : z_W G 13 (C + 30) (S + 8000) 338 868 (z_LL j) [] h Q := by
  obtain ⟨hP, hM, hR, ⟨f, ho⟩, ⟨g, hg⟩⟩ := hS
  refine z_aload_n rfl rfl ?_
  refine z_aload_n rfl rfl ?_
  refine z_iload rfl rfl ?_
  refine z_iconst (v := 1) rfl (by decide) ?_
  refine z_iadd rfl ?_
  refine z_sld rfl hv1 ?_
  refine z_aload_n rfl rfl ?_
  refine z_iload rfl rfl ?_
  refine z_iconst (v := 2) rfl (by decide) ?_
  refine z_iadd rfl ?_
  refine z_sld rfl hv2 ?_
  refine z_aload_n rfl rfl ?_
  refine z_callSX (av := [_, _, _, _]) rfl z_w271 rfl rfl rfl rfl (Nat.le_of_ble_eq_true rfl) (by omega) (by omega) (Nat.le_of_ble_eq_true rfl) (cW_clockOf hP ho fun h1 f1 hP1 hk ho1 hf1 => ?_)
  have hM1 : z_Mo h1 1288 m := hM.keptX fun k u1 u2 => hk k u1 (by omega) (by omega)
  have hg1 := (hk 1298 (by decide) (by decide) (by decide)).trans hg
  refine z_istore rfl (by decide +kernel) rfl ?_
  refine z_aload_n rfl rfl ?_
  refine z_aload_n rfl rfl ?_
  refine z_iload rfl rfl ?_
  refine z_iconst (v := 1) rfl (by decide) ?_
  refine z_iadd rfl ?_
  refine z_sld rfl hv1 ?_
  refine z_aload_n rfl rfl ?_
  refine z_iload rfl rfl ?_
  refine z_iconst (v := 2) rfl (by decide) ?_
  refine z_iadd rfl ?_
  refine z_sld rfl hv2 ?_
  refine z_callV (av := [_, _]) rfl z_w211 hM1.1 rfl rfl rfl rfl rfl (Nat.le_of_ble_eq_true rfl) (by omega) (by omega) (Nat.le_of_ble_eq_true rfl) (cM_clockOf hM1 hR ?_)
  intro h2 m2 rr hM2 hR2 ht2 hF2 hr2
  exact z_tlI rfl rfl rfl rfl rfl rfl rfl rfl rfl rfl rfl rfl rfl rfl rfl ((z_end_clockOf (x := x)).1) (hP1.kept hF2 (by decide)) hM2 hR2 ht2 hr2 ((hF2.2 _ (Or.inr (by decide))).trans ho1) hf1 ⟨g, (hF2.2 _ (Or.inr (by decide))).trans hg1⟩ (by omega) (by omega) K
theorem cL_billOf (hv1 : vp_in (nI j + 1) G.2.2.2.2.2.1) (hv2 : vp_in (nI j + 2) G.2.2.2.2.2.1) (hv3 : vp_in (nI j + 3) G.2.2.2.2.2.1) (hS : z_LS h x m) (K : z_KL G C S j Q) : z_W G 13 (C + 30) (S + 8000) 338 936 (z_LL j) [] h Q := by
  obtain ⟨hP, hM, hR, ⟨f, ho⟩, ⟨g, hg⟩⟩ := hS
  refine z_aload_n rfl rfl ?_
  refine z_aload_n rfl rfl ?_
  refine z_iload rfl rfl ?_
  refine z_iconst (v := 1) rfl (by decide) ?_
  refine z_iadd rfl ?_
  refine z_sld rfl hv1 ?_
  refine z_aload_n rfl rfl ?_
  refine z_iload rfl rfl ?_
  refine z_iconst (v := 2) rfl (by decide) ?_
  refine z_iadd rfl ?_
  refine z_sld rfl hv2 ?_
  refine z_aload_n rfl rfl ?_
  refine z_callSX (av := [_, _, _, _]) rfl z_w272 rfl rfl rfl rfl (Nat.le_of_ble_eq_true rfl) (by omega) (by omega) (Nat.le_of_ble_eq_true rfl) (cW_billOf hP ho fun h1 f1 hP1 hk ho1 hf1 => ?_)
  have hM1 : z_Mo h1 1288 m := hM.keptX fun k u1 u2 => hk k u1 (by omega) (by omega)
  have hg1 := (hk 1298 (by decide) (by decide) (by decide)).trans hg
  refine z_istore rfl (by decide +kernel) rfl ?_
  refine z_aload_n rfl rfl ?_
  refine z_aload_n rfl rfl ?_
  refine z_iload rfl rfl ?_
  refine z_iconst (v := 1) rfl (by decide) ?_
  refine z_iadd rfl ?_
  refine z_sld rfl hv1 ?_
  refine z_aload_n rfl rfl ?_
  refine z_iload rfl rfl ?_
  refine z_iconst (v := 2) rfl (by decide) ?_
  refine z_iadd rfl ?_
  refine z_sld rfl hv2 ?_
  refine z_callV (av := [_, _]) rfl z_w212 hM1.1 rfl rfl rfl rfl rfl (Nat.le_of_ble_eq_true rfl) (by omega) (by omega) (Nat.le_of_ble_eq_true rfl) (cM_billOf hM1 hR ?_)
  intro h2 m2 rr hM2 hR2 ht2 hF2 hr2
  exact z_tlI rfl rfl rfl rfl rfl rfl rfl rfl rfl rfl rfl rfl rfl rfl rfl ((z_end_billOf (x := x)).1) (hP1.kept hF2 (by decide)) hM2 hR2 ht2 hr2 ((hF2.2 _ (Or.inr (by decide))).trans ho1) hf1 ⟨g, (hF2.2 _ (Or.inr (by decide))).trans hg1⟩ (by omega) (by omega) K
theorem cL_keeper (hv1 : vp_in (nI j + 1) G.2.2.2.2.2.1) (hv2 : vp_in (nI j + 2) G.2.2.2.2.2.1) (hv3 : vp_in (nI j + 3) G.2.2.2.2.2.1) (hS : z_LS h x m) (K : z_KL G C S j Q) : z_W G 13 (C + 30) (S + 8000) 338 1004 (z_LL j) [] h Q := by
  obtain ⟨hP, hM, hR, ⟨f, ho⟩, ⟨g, hg⟩⟩ := hS
  refine z_aload_n rfl rfl ?_
  refine z_aload_n rfl rfl ?_
  refine z_iload rfl rfl ?_
  refine z_iconst (v := 1) rfl (by decide) ?_
  refine z_iadd rfl ?_
  refine z_sld rfl hv1 ?_
  refine z_aload_n rfl rfl ?_
  refine z_callSX (av := [_, _, _]) rfl z_w273 rfl rfl rfl rfl (Nat.le_of_ble_eq_true rfl) (by omega) (by omega) (Nat.le_of_ble_eq_true rfl) (cW_keeper hP ho fun h1 f1 hP1 hk ho1 hf1 => ?_)
  have hM1 : z_Mo h1 1288 m := hM.keptX fun k u1 u2 => hk k u1 (by omega) (by omega)
  have hg1 := (hk 1298 (by decide) (by decide) (by decide)).trans hg
  refine z_istore rfl (by decide +kernel) rfl ?_
  refine z_aload_n rfl rfl ?_
  refine z_aload_n rfl rfl ?_
  refine z_iload rfl rfl ?_
  refine z_iconst (v := 1) rfl (by decide) ?_
  refine z_iadd rfl ?_
  refine z_sld rfl hv1 ?_
  refine z_callV (av := [_]) rfl z_w213 hM1.1 rfl rfl rfl rfl rfl (Nat.le_of_ble_eq_true rfl) (by omega) (by omega) (Nat.le_of_ble_eq_true rfl) (cM_keeper hM1 hR ?_)
  intro h2 m2 rr hM2 hR2 ht2 hF2 hr2
  exact z_tlI rfl rfl rfl rfl rfl rfl rfl rfl rfl rfl rfl rfl rfl rfl rfl ((z_end_keeper (x := x)).1.elim Or.inl fun e => Or.inr (Or.inl e)) (hP1.kept hF2 (by decide)) hM2 hR2 ht2 hr2 ((hF2.2 _ (Or.inr (by decide))).trans ho1) hf1 ⟨g, (hF2.2 _ (Or.inr (by decide))).trans hg1⟩ (by omega) (by omega) K
theorem cL_doAgree (hv1 : vp_in (nI j + 1) G.2.2.2.2.2.1) (hv2 : vp_in (nI j + 2) G.2.2.2.2.2.1) (hv3 : vp_in (nI j + 3) G.2.2.2.2.2.1) (hS : z_LS h x m) (K : z_KL G C S j Q) : z_W G 13 (C + 30) (S + 8000) 338 1060 (z_LL j) [] h Q := by
  obtain ⟨hP, hM, hR, ⟨f, ho⟩, ⟨g, hg⟩⟩ := hS
  refine z_aload_n rfl rfl ?_
  refine z_aload_n rfl rfl ?_
  refine z_iload rfl rfl ?_
  refine z_iconst (v := 1) rfl (by decide) ?_
  refine z_iadd rfl ?_
  refine z_sld rfl hv1 ?_
  refine z_aload_n rfl rfl ?_
  refine z_iload rfl rfl ?_
  refine z_iconst (v := 2) rfl (by decide) ?_
  refine z_iadd rfl ?_
  refine z_sld rfl hv2 ?_
  refine z_aload_n rfl rfl ?_
  refine z_callSX (av := [_, _, _, _]) rfl z_w274 rfl rfl rfl rfl (Nat.le_of_ble_eq_true rfl) (by omega) (by omega) (Nat.le_of_ble_eq_true rfl) (cW_doAgree hP ho fun h1 f1 hP1 hk ho1 hf1 => ?_)
  have hM1 : z_Mo h1 1288 m := hM.keptX fun k u1 u2 => hk k u1 (by omega) (by omega)
  have hg1 := (hk 1298 (by decide) (by decide) (by decide)).trans hg
  refine z_istore rfl (by decide +kernel) rfl ?_
  refine z_aload_n rfl rfl ?_
  refine z_aload_n rfl rfl ?_
  refine z_iload rfl rfl ?_
  refine z_iconst (v := 1) rfl (by decide) ?_
  refine z_iadd rfl ?_
  refine z_sld rfl hv1 ?_
  refine z_aload_n rfl rfl ?_
  refine z_iload rfl rfl ?_
  refine z_iconst (v := 2) rfl (by decide) ?_
  refine z_iadd rfl ?_
  refine z_sld rfl hv2 ?_
  refine z_callV (av := [_, _]) rfl z_w214 hM1.1 rfl rfl rfl rfl rfl (Nat.le_of_ble_eq_true rfl) (by omega) (by omega) (Nat.le_of_ble_eq_true rfl) (cM_doAgree hM1 hR ?_)
  intro h2 m2 rr hM2 hR2 ht2 hF2 hr2
  exact z_tlB rfl rfl rfl rfl rfl rfl rfl rfl rfl rfl rfl rfl rfl rfl rfl rfl rfl rfl ((z_end_doAgree (x := x)).1.elim (fun e => Or.inl e.1) fun e => Or.inr (Or.inl e)) (fun h0 => (z_end_doAgree (x := x)).1.elim (fun e => e.2) fun e => absurd (h0.symm.trans e) (by decide)) (hP1.kept hF2 (by decide)) hM2 hR2 ht2 hr2 ((hF2.2 _ (Or.inr (by decide))).trans ho1) hf1 ⟨g, (hF2.2 _ (Or.inr (by decide))).trans hg1⟩ (by omega) (by omega) K
theorem cL_apart (hv1 : vp_in (nI j + 1) G.2.2.2.2.2.1) (hv2 : vp_in (nI j + 2) G.2.2.2.2.2.1) (hv3 : vp_in (nI j + 3) G.2.2.2.2.2.1) (hS : z_LS h x m) (K : z_KL G C S j Q) : z_W G 13 (C + 30) (S + 8000) 338 1135 (z_LL j) [] h Q := by
  obtain ⟨hP, hM, hR, ⟨f, ho⟩, ⟨g, hg⟩⟩ := hS
  refine z_aload_n rfl rfl ?_
  refine z_aload_n rfl rfl ?_
  refine z_iload rfl rfl ?_
  refine z_iconst (v := 1) rfl (by decide) ?_
  refine z_iadd rfl ?_
  refine z_sld rfl hv1 ?_
  refine z_aload_n rfl rfl ?_
  refine z_iload rfl rfl ?_
  refine z_iconst (v := 2) rfl (by decide) ?_
  refine z_iadd rfl ?_
  refine z_sld rfl hv2 ?_
  refine z_aload_n rfl rfl ?_
  refine z_callSX (av := [_, _, _, _]) rfl z_w275 rfl rfl rfl rfl (Nat.le_of_ble_eq_true rfl) (by omega) (by omega) (Nat.le_of_ble_eq_true rfl) (cW_apart hP ho fun h1 f1 hP1 hk ho1 hf1 => ?_)
  have hM1 : z_Mo h1 1288 m := hM.keptX fun k u1 u2 => hk k u1 (by omega) (by omega)
  have hg1 := (hk 1298 (by decide) (by decide) (by decide)).trans hg
  refine z_istore rfl (by decide +kernel) rfl ?_
  refine z_aload_n rfl rfl ?_
  refine z_aload_n rfl rfl ?_
  refine z_iload rfl rfl ?_
  refine z_iconst (v := 1) rfl (by decide) ?_
  refine z_iadd rfl ?_
  refine z_sld rfl hv1 ?_
  refine z_aload_n rfl rfl ?_
  refine z_iload rfl rfl ?_
  refine z_iconst (v := 2) rfl (by decide) ?_
  refine z_iadd rfl ?_
  refine z_sld rfl hv2 ?_
  refine z_callV (av := [_, _]) rfl z_w215 hM1.1 rfl rfl rfl rfl rfl (Nat.le_of_ble_eq_true rfl) (by omega) (by omega) (Nat.le_of_ble_eq_true rfl) (cM_apart hM1 hR ?_)
  intro h2 m2 rr hM2 hR2 ht2 hF2 hr2
  exact z_tlI rfl rfl rfl rfl rfl rfl rfl rfl rfl rfl rfl rfl rfl rfl rfl ((z_end_apart (x := x)).1.elim Or.inl fun e => Or.inr (Or.inl e)) (hP1.kept hF2 (by decide)) hM2 hR2 ht2 hr2 ((hF2.2 _ (Or.inr (by decide))).trans ho1) hf1 ⟨g, (hF2.2 _ (Or.inr (by decide))).trans hg1⟩ (by omega) (by omega) K
theorem cL_row (hv1 : vp_in (nI j + 1) G.2.2.2.2.2.1) (hv2 : vp_in (nI j + 2) G.2.2.2.2.2.1) (hv3 : vp_in (nI j + 3) G.2.2.2.2.2.1) (hS : z_LS h x m) (K : z_KL G C S j Q) : z_W G 13 (C + 30) (S + 8000) 338 1203 (z_LL j) [] h Q := by
  obtain ⟨hP, hM, hR, ⟨f, ho⟩, ⟨g, hg⟩⟩ := hS
  refine z_aload_n rfl rfl ?_
  refine z_aload_n rfl rfl ?_
  refine z_iload rfl rfl ?_
  refine z_iconst (v := 1) rfl (by decide) ?_
  refine z_iadd rfl ?_
  refine z_sld rfl hv1 ?_
  refine z_aload_n rfl rfl ?_
  refine z_callSX (av := [_, _, _]) rfl z_w276 rfl rfl rfl rfl (Nat.le_of_ble_eq_true rfl) (by omega) (by omega) (Nat.le_of_ble_eq_true rfl) (cW_row hP ho fun h1 f1 hP1 hk ho1 hf1 => ?_)
  have hM1 : z_Mo h1 1288 m := hM.keptX fun k u1 u2 => hk k u1 (by omega) (by omega)
  have hg1 := (hk 1298 (by decide) (by decide) (by decide)).trans hg
  refine z_istore rfl (by decide +kernel) rfl ?_
  refine z_aload_n rfl rfl ?_
  refine z_aload_n rfl rfl ?_
  refine z_iload rfl rfl ?_
  refine z_iconst (v := 1) rfl (by decide) ?_
  refine z_iadd rfl ?_
  refine z_sld rfl hv1 ?_
  refine z_callV (av := [_]) rfl z_w216 hM1.1 rfl rfl rfl rfl rfl (Nat.le_of_ble_eq_true rfl) (by omega) (by omega) (Nat.le_of_ble_eq_true rfl) (cM_row hM1 hR ?_)
  intro h2 m2 rr hM2 hR2 ht2 hF2 hr2
  exact z_tlI rfl rfl rfl rfl rfl rfl rfl rfl rfl rfl rfl rfl rfl rfl rfl ((z_end_row (x := x)).1.elim Or.inl fun e => Or.inr (Or.inl e)) (hP1.kept hF2 (by decide)) hM2 hR2 ht2 hr2 ((hF2.2 _ (Or.inr (by decide))).trans ho1) hf1 ⟨g, (hF2.2 _ (Or.inr (by decide))).trans hg1⟩ (by omega) (by omega) K
theorem cL_rowIn (hv1 : vp_in (nI j + 1) G.2.2.2.2.2.1) (hv2 : vp_in (nI j + 2) G.2.2.2.2.2.1) (hv3 : vp_in (nI j + 3) G.2.2.2.2.2.1) (hS : z_LS h x m) (K : z_KL G C S j Q) : z_W G 13 (C + 30) (S + 8000) 338 1259 (z_LL j) [] h Q := by
  obtain ⟨hP, hM, hR, ⟨f, ho⟩, ⟨g, hg⟩⟩ := hS
  refine z_aload_n rfl rfl ?_
  refine z_aload_n rfl rfl ?_
  refine z_iload rfl rfl ?_
  refine z_iconst (v := 1) rfl (by decide) ?_
  refine z_iadd rfl ?_
  refine z_sld rfl hv1 ?_
  refine z_aload_n rfl rfl ?_
  refine z_iload rfl rfl ?_
  refine z_iconst (v := 2) rfl (by decide) ?_
  refine z_iadd rfl ?_
  refine z_sld rfl hv2 ?_
  refine z_aload_n rfl rfl ?_
  refine z_callSX (av := [_, _, _, _]) rfl z_w277 rfl rfl rfl rfl (Nat.le_of_ble_eq_true rfl) (by omega) (by omega) (Nat.le_of_ble_eq_true rfl) (cW_rowIn hP ho fun h1 f1 hP1 hk ho1 hf1 => ?_)
  have hM1 : z_Mo h1 1288 m := hM.keptX fun k u1 u2 => hk k u1 (by omega) (by omega)
  have hg1 := (hk 1298 (by decide) (by decide) (by decide)).trans hg
  refine z_istore rfl (by decide +kernel) rfl ?_
  refine z_aload_n rfl rfl ?_
  refine z_aload_n rfl rfl ?_
  refine z_iload rfl rfl ?_
  refine z_iconst (v := 1) rfl (by decide) ?_
  refine z_iadd rfl ?_
  refine z_sld rfl hv1 ?_
  refine z_aload_n rfl rfl ?_
  refine z_iload rfl rfl ?_
  refine z_iconst (v := 2) rfl (by decide) ?_
  refine z_iadd rfl ?_
  refine z_sld rfl hv2 ?_
  refine z_callV (av := [_, _]) rfl z_w218 hM1.1 rfl rfl rfl rfl rfl (Nat.le_of_ble_eq_true rfl) (by omega) (by omega) (Nat.le_of_ble_eq_true rfl) (cM_rowIn hM1 hR ?_)
  intro h2 m2 rr hM2 hR2 ht2 hF2 hr2
  exact z_tlI rfl rfl rfl rfl rfl rfl rfl rfl rfl rfl rfl rfl rfl rfl rfl ((z_end_rowIn (x := x)).1) (hP1.kept hF2 (by decide)) hM2 hR2 ht2 hr2 ((hF2.2 _ (Or.inr (by decide))).trans ho1) hf1 ⟨g, (hF2.2 _ (Or.inr (by decide))).trans hg1⟩ (by omega) (by omega) K
theorem cL_rowAgain (hv1 : vp_in (nI j + 1) G.2.2.2.2.2.1) (hv2 : vp_in (nI j + 2) G.2.2.2.2.2.1) (hv3 : vp_in (nI j + 3) G.2.2.2.2.2.1) (hS : z_LS h x m) (K : z_KL G C S j Q) : z_W G 13 (C + 30) (S + 8000) 338 1327 (z_LL j) [] h Q := by
  obtain ⟨hP, hM, hR, ⟨f, ho⟩, ⟨g, hg⟩⟩ := hS
  refine z_aload_n rfl rfl ?_
  refine z_aload_n rfl rfl ?_
  refine z_iload rfl rfl ?_
  refine z_iconst (v := 1) rfl (by decide) ?_
  refine z_iadd rfl ?_
  refine z_sld rfl hv1 ?_
  refine z_aload_n rfl rfl ?_
  refine z_iload rfl rfl ?_
  refine z_iconst (v := 2) rfl (by decide) ?_
  refine z_iadd rfl ?_
  refine z_sld rfl hv2 ?_
  refine z_aload_n rfl rfl ?_
  refine z_callSX (av := [_, _, _, _]) rfl z_w278 rfl rfl rfl rfl (Nat.le_of_ble_eq_true rfl) (by omega) (by omega) (Nat.le_of_ble_eq_true rfl) (cW_rowAgain hP ho fun h1 f1 hP1 hk ho1 hf1 => ?_)
  have hM1 : z_Mo h1 1288 m := hM.keptX fun k u1 u2 => hk k u1 (by omega) (by omega)
  have hg1 := (hk 1298 (by decide) (by decide) (by decide)).trans hg
  refine z_istore rfl (by decide +kernel) rfl ?_
  refine z_aload_n rfl rfl ?_
  refine z_aload_n rfl rfl ?_
  refine z_iload rfl rfl ?_
  refine z_iconst (v := 1) rfl (by decide) ?_
  refine z_iadd rfl ?_
  refine z_sld rfl hv1 ?_
  refine z_aload_n rfl rfl ?_
  refine z_iload rfl rfl ?_
  refine z_iconst (v := 2) rfl (by decide) ?_
  refine z_iadd rfl ?_
  refine z_sld rfl hv2 ?_
  refine z_callV (av := [_, _]) rfl z_w219 hM1.1 rfl rfl rfl rfl rfl (Nat.le_of_ble_eq_true rfl) (by omega) (by omega) (Nat.le_of_ble_eq_true rfl) (cM_rowAgain hM1 hR ?_)
  intro h2 m2 rr hM2 hR2 ht2 hF2 hr2
  exact z_tlI rfl rfl rfl rfl rfl rfl rfl rfl rfl rfl rfl rfl rfl rfl rfl ((z_end_rowAgain (x := x)).1) (hP1.kept hF2 (by decide)) hM2 hR2 ht2 hr2 ((hF2.2 _ (Or.inr (by decide))).trans ho1) hf1 ⟨g, (hF2.2 _ (Or.inr (by decide))).trans hg1⟩ (by omega) (by omega) K
theorem cL_next (hv1 : vp_in (nI j + 1) G.2.2.2.2.2.1) (hv2 : vp_in (nI j + 2) G.2.2.2.2.2.1) (hv3 : vp_in (nI j + 3) G.2.2.2.2.2.1) (hS : z_LS h x m) (K : z_KL G C S j Q) : z_W G 13 (C + 30) (S + 8000) 338 1395 (z_LL j) [] h Q := by
  obtain ⟨hP, hM, hR, ⟨f, ho⟩, ⟨g, hg⟩⟩ := hS
  refine z_aload_n rfl rfl ?_
  refine z_aload_n rfl rfl ?_
  refine z_callSX (av := [_, _]) rfl z_w279 rfl rfl rfl rfl (Nat.le_of_ble_eq_true rfl) (by omega) (by omega) (Nat.le_of_ble_eq_true rfl) (cW_next hP ho fun h1 f1 hP1 hk ho1 hf1 => ?_)
  have hM1 : z_Mo h1 1288 m := hM.keptX fun k u1 u2 => hk k u1 (by omega) (by omega)
  have hg1 := (hk 1298 (by decide) (by decide) (by decide)).trans hg
  refine z_istore rfl (by decide +kernel) rfl ?_
  refine z_aload_n rfl rfl ?_
  refine z_callV (av := []) rfl z_w220 hM1.1 rfl rfl rfl rfl rfl (Nat.le_of_ble_eq_true rfl) (by omega) (by omega) (Nat.le_of_ble_eq_true rfl) (cM_next hM1 hR ?_)
  intro h2 m2 rr hM2 hR2 ht2 hF2 hr2
  exact z_tlI rfl rfl rfl rfl rfl rfl rfl rfl rfl rfl rfl rfl rfl rfl rfl ((z_end_next (x := x)).1.elim Or.inl fun e => Or.inr (Or.inl e)) (hP1.kept hF2 (by decide)) hM2 hR2 ht2 hr2 ((hF2.2 _ (Or.inr (by decide))).trans ho1) hf1 ⟨g, (hF2.2 _ (Or.inr (by decide))).trans hg1⟩ (by omega) (by omega) K
theorem cL_silentIn (hv1 : vp_in (nI j + 1) G.2.2.2.2.2.1) (hv2 : vp_in (nI j + 2) G.2.2.2.2.2.1) (hv3 : vp_in (nI j + 3) G.2.2.2.2.2.1) (hS : z_LS h x m) (K : z_KL G C S j Q) : z_W G 13 (C + 30) (S + 8000) 338 1439 (z_LL j) [] h Q := by
  obtain ⟨hP, hM, hR, ⟨f, ho⟩, ⟨g, hg⟩⟩ := hS
  refine z_aload_n rfl rfl ?_
  refine z_aload_n rfl rfl ?_
  refine z_iload rfl rfl ?_
  refine z_iconst (v := 1) rfl (by decide) ?_
  refine z_iadd rfl ?_
  refine z_sld rfl hv1 ?_
  refine z_aload_n rfl rfl ?_
  refine z_callSX (av := [_, _, _]) rfl z_w280 rfl rfl rfl rfl (Nat.le_of_ble_eq_true rfl) (by omega) (by omega) (Nat.le_of_ble_eq_true rfl) (cW_silentIn hP ho fun h1 f1 hP1 hk ho1 hf1 => ?_)
  have hM1 : z_Mo h1 1288 m := hM.keptX fun k u1 u2 => hk k u1 (by omega) (by omega)
  have hg1 := (hk 1298 (by decide) (by decide) (by decide)).trans hg
  refine z_istore rfl (by decide +kernel) rfl ?_
  refine z_aload_n rfl rfl ?_
  refine z_aload_n rfl rfl ?_
  refine z_iload rfl rfl ?_
  refine z_iconst (v := 1) rfl (by decide) ?_
  refine z_iadd rfl ?_
  refine z_sld rfl hv1 ?_
  refine z_callV (av := [_]) rfl z_w221 hM1.1 rfl rfl rfl rfl rfl (Nat.le_of_ble_eq_true rfl) (by omega) (by omega) (Nat.le_of_ble_eq_true rfl) (cM_silentIn hM1 hR ?_)
  rw [← z_silF hR.1.1]
  intro h2 m2 rr hM2 hR2 ht2 hF2 hr2
  exact z_tlI rfl rfl rfl rfl rfl rfl rfl rfl rfl rfl rfl rfl rfl rfl rfl ((z_end_silentIn (x := x)).1.elim Or.inl fun e => Or.inr (Or.inl e)) (hP1.kept hF2 (by decide)) hM2 hR2 ht2 hr2 ((hF2.2 _ (Or.inr (by decide))).trans ho1) hf1 ⟨g, (hF2.2 _ (Or.inr (by decide))).trans hg1⟩ (by omega) (by omega) K
theorem cL_secondIn (hv1 : vp_in (nI j + 1) G.2.2.2.2.2.1) (hv2 : vp_in (nI j + 2) G.2.2.2.2.2.1) (hv3 : vp_in (nI j + 3) G.2.2.2.2.2.1) (hS : z_LS h x m) (K : z_KL G C S j Q) : z_W G 13 (C + 30) (S + 8000) 338 1495 (z_LL j) [] h Q := by
  obtain ⟨hP, hM, hR, ⟨f, ho⟩, ⟨g, hg⟩⟩ := hS
  refine z_aload_n rfl rfl ?_
  refine z_aload_n rfl rfl ?_
  refine z_iload rfl rfl ?_
  refine z_iconst (v := 1) rfl (by decide) ?_
  refine z_iadd rfl ?_
  refine z_sld rfl hv1 ?_
  refine z_aload_n rfl rfl ?_
  refine z_iload rfl rfl ?_
  refine z_iconst (v := 2) rfl (by decide) ?_
  refine z_iadd rfl ?_
  refine z_sld rfl hv2 ?_
  refine z_aload_n rfl rfl ?_
  refine z_callSX (av := [_, _, _, _]) rfl z_w281 rfl rfl rfl rfl (Nat.le_of_ble_eq_true rfl) (by omega) (by omega) (Nat.le_of_ble_eq_true rfl) (cW_secondIn hP ho fun h1 f1 hP1 hk ho1 hf1 => ?_)
  have hM1 : z_Mo h1 1288 m := hM.keptX fun k u1 u2 => hk k u1 (by omega) (by omega)
  have hg1 := (hk 1298 (by decide) (by decide) (by decide)).trans hg
  refine z_istore rfl (by decide +kernel) rfl ?_
  refine z_aload_n rfl rfl ?_
  refine z_aload_n rfl rfl ?_
  refine z_iload rfl rfl ?_
  refine z_iconst (v := 1) rfl (by decide) ?_
  refine z_iadd rfl ?_
  refine z_sld rfl hv1 ?_
  refine z_aload_n rfl rfl ?_
  refine z_iload rfl rfl ?_
  refine z_iconst (v := 2) rfl (by decide) ?_
  refine z_iadd rfl ?_
  refine z_sld rfl hv2 ?_
  refine z_callV (av := [_, _]) rfl z_w222 hM1.1 rfl rfl rfl rfl rfl (Nat.le_of_ble_eq_true rfl) (by omega) (by omega) (Nat.le_of_ble_eq_true rfl) (cM_secondIn hM1 hR ?_)
  intro h2 m2 rr hM2 hR2 ht2 hF2 hr2
  exact z_tlI rfl rfl rfl rfl rfl rfl rfl rfl rfl rfl rfl rfl rfl rfl rfl ((z_end_secondIn (x := x)).1) (hP1.kept hF2 (by decide)) hM2 hR2 ht2 hr2 ((hF2.2 _ (Or.inr (by decide))).trans ho1) hf1 ⟨g, (hF2.2 _ (Or.inr (by decide))).trans hg1⟩ (by omega) (by omega) K
theorem cL_voters (hv1 : vp_in (nI j + 1) G.2.2.2.2.2.1) (hv2 : vp_in (nI j + 2) G.2.2.2.2.2.1) (hv3 : vp_in (nI j + 3) G.2.2.2.2.2.1) (hS : z_LS h x m) (K : z_KL G C S j Q) : z_W G 13 (C + 30) (S + 8000) 338 1563 (z_LL j) [] h Q := by
  obtain ⟨hP, hM, hR, ⟨f, ho⟩, ⟨g, hg⟩⟩ := hS
  refine z_aload_n rfl rfl ?_
  refine z_aload_n rfl rfl ?_
  refine z_iload rfl rfl ?_
  refine z_iconst (v := 1) rfl (by decide) ?_
  refine z_iadd rfl ?_
  refine z_sld rfl hv1 ?_
  refine z_aload_n rfl rfl ?_
  refine z_callSX (av := [_, _, _]) rfl z_w282 rfl rfl rfl rfl (Nat.le_of_ble_eq_true rfl) (by omega) (by omega) (Nat.le_of_ble_eq_true rfl) (cW_voters hP ho fun h1 f1 hP1 hk ho1 hf1 => ?_)
  have hM1 : z_Mo h1 1288 m := hM.keptX fun k u1 u2 => hk k u1 (by omega) (by omega)
  have hg1 := (hk 1298 (by decide) (by decide) (by decide)).trans hg
  refine z_istore rfl (by decide +kernel) rfl ?_
  refine z_aload_n rfl rfl ?_
  refine z_aload_n rfl rfl ?_
  refine z_iload rfl rfl ?_
  refine z_iconst (v := 1) rfl (by decide) ?_
  refine z_iadd rfl ?_
  refine z_sld rfl hv1 ?_
  refine z_callV (av := [_]) rfl z_w223 hM1.1 rfl rfl rfl rfl rfl (Nat.le_of_ble_eq_true rfl) (by omega) (by omega) (Nat.le_of_ble_eq_true rfl) (cM_voters hM1 hR ?_)
  intro h2 m2 rr hM2 hR2 ht2 hF2 hr2
  exact z_tlI rfl rfl rfl rfl rfl rfl rfl rfl rfl rfl rfl rfl rfl rfl rfl ((z_end_voters (x := x)).1.elim Or.inl fun e => Or.inr (Or.inl e)) (hP1.kept hF2 (by decide)) hM2 hR2 ht2 hr2 ((hF2.2 _ (Or.inr (by decide))).trans ho1) hf1 ⟨g, (hF2.2 _ (Or.inr (by decide))).trans hg1⟩ (by omega) (by omega) K
theorem cL_majority (hv1 : vp_in (nI j + 1) G.2.2.2.2.2.1) (hv2 : vp_in (nI j + 2) G.2.2.2.2.2.1) (hv3 : vp_in (nI j + 3) G.2.2.2.2.2.1) (hS : z_LS h x m) (K : z_KL G C S j Q) : z_W G 13 (C + 30) (S + 8000) 338 1619 (z_LL j) [] h Q := by
  obtain ⟨hP, hM, hR, ⟨f, ho⟩, ⟨g, hg⟩⟩ := hS
  refine z_aload_n rfl rfl ?_
  refine z_aload_n rfl rfl ?_
  refine z_iload rfl rfl ?_
  refine z_iconst (v := 1) rfl (by decide) ?_
  refine z_iadd rfl ?_
  refine z_sld rfl hv1 ?_
  refine z_aload_n rfl rfl ?_
  refine z_callSX (av := [_, _, _]) rfl z_w283 rfl rfl rfl rfl (Nat.le_of_ble_eq_true rfl) (by omega) (by omega) (Nat.le_of_ble_eq_true rfl) (cW_majority hP ho fun h1 f1 hP1 hk ho1 hf1 => ?_)
  have hM1 : z_Mo h1 1288 m := hM.keptX fun k u1 u2 => hk k u1 (by omega) (by omega)
  have hg1 := (hk 1298 (by decide) (by decide) (by decide)).trans hg
  refine z_istore rfl (by decide +kernel) rfl ?_
  refine z_aload_n rfl rfl ?_
  refine z_aload_n rfl rfl ?_
  refine z_iload rfl rfl ?_
  refine z_iconst (v := 1) rfl (by decide) ?_
  refine z_iadd rfl ?_
  refine z_sld rfl hv1 ?_
  refine z_callV (av := [_]) rfl z_w224 hM1.1 rfl rfl rfl rfl rfl (Nat.le_of_ble_eq_true rfl) (by omega) (by omega) (Nat.le_of_ble_eq_true rfl) (cM_majority hM1 hR ?_)
  intro h2 m2 rr hM2 hR2 ht2 hF2 hr2
  exact z_tlI rfl rfl rfl rfl rfl rfl rfl rfl rfl rfl rfl rfl rfl rfl rfl ((z_end_majority (x := x)).1.elim Or.inl fun e => Or.inr (Or.inl e)) (hP1.kept hF2 (by decide)) hM2 hR2 ht2 hr2 ((hF2.2 _ (Or.inr (by decide))).trans ho1) hf1 ⟨g, (hF2.2 _ (Or.inr (by decide))).trans hg1⟩ (by omega) (by omega) K
theorem cL_majorityAgain (hv1 : vp_in (nI j + 1) G.2.2.2.2.2.1) (hv2 : vp_in (nI j + 2) G.2.2.2.2.2.1) (hv3 : vp_in (nI j + 3) G.2.2.2.2.2.1) (hS : z_LS h x m) (K : z_KL G C S j Q) : z_W G 13 (C + 30) (S + 8000) 338 1675 (z_LL j) [] h Q := by
  obtain ⟨hP, hM, hR, ⟨f, ho⟩, ⟨g, hg⟩⟩ := hS
  refine z_aload_n rfl rfl ?_
  refine z_aload_n rfl rfl ?_
  refine z_iload rfl rfl ?_
  refine z_iconst (v := 1) rfl (by decide) ?_
  refine z_iadd rfl ?_
  refine z_sld rfl hv1 ?_
  refine z_aload_n rfl rfl ?_
  refine z_callSX (av := [_, _, _]) rfl z_w284 rfl rfl rfl rfl (Nat.le_of_ble_eq_true rfl) (by omega) (by omega) (Nat.le_of_ble_eq_true rfl) (cW_majorityAgain hP ho fun h1 f1 hP1 hk ho1 hf1 => ?_)
  have hM1 : z_Mo h1 1288 m := hM.keptX fun k u1 u2 => hk k u1 (by omega) (by omega)
  have hg1 := (hk 1298 (by decide) (by decide) (by decide)).trans hg
  refine z_istore rfl (by decide +kernel) rfl ?_
  refine z_aload_n rfl rfl ?_
  refine z_aload_n rfl rfl ?_
  refine z_iload rfl rfl ?_
  refine z_iconst (v := 1) rfl (by decide) ?_
  refine z_iadd rfl ?_
  refine z_sld rfl hv1 ?_
  refine z_callV (av := [_]) rfl z_w225 hM1.1 rfl rfl rfl rfl rfl (Nat.le_of_ble_eq_true rfl) (by omega) (by omega) (Nat.le_of_ble_eq_true rfl) (cM_majorityAgain hM1 hR ?_)
  intro h2 m2 rr hM2 hR2 ht2 hF2 hr2
  exact z_tlI rfl rfl rfl rfl rfl rfl rfl rfl rfl rfl rfl rfl rfl rfl rfl ((z_end_majorityAgain (x := x)).1.elim Or.inl fun e => Or.inr (Or.inl e)) (hP1.kept hF2 (by decide)) hM2 hR2 ht2 hr2 ((hF2.2 _ (Or.inr (by decide))).trans ho1) hf1 ⟨g, (hF2.2 _ (Or.inr (by decide))).trans hg1⟩ (by omega) (by omega) K
theorem cL_wouldCarry (hv1 : vp_in (nI j + 1) G.2.2.2.2.2.1) (hv2 : vp_in (nI j + 2) G.2.2.2.2.2.1) (hv3 : vp_in (nI j + 3) G.2.2.2.2.2.1) (hS : z_LS h x m) (K : z_KL G C S j Q) : z_W G 13 (C + 30) (S + 8000) 338 1731 (z_LL j) [] h Q := by
  obtain ⟨hP, hM, hR, ⟨f, ho⟩, ⟨g, hg⟩⟩ := hS
  refine z_aload_n rfl rfl ?_
  refine z_aload_n rfl rfl ?_
  refine z_iload rfl rfl ?_
  refine z_iconst (v := 1) rfl (by decide) ?_
  refine z_iadd rfl ?_
  refine z_sld rfl hv1 ?_
  refine z_aload_n rfl rfl ?_
  refine z_callSX (av := [_, _, _]) rfl z_w285 rfl rfl rfl rfl (Nat.le_of_ble_eq_true rfl) (by omega) (by omega) (Nat.le_of_ble_eq_true rfl) (cW_wouldCarry hP ho fun h1 f1 hP1 hk ho1 hf1 => ?_)
  have hM1 : z_Mo h1 1288 m := hM.keptX fun k u1 u2 => hk k u1 (by omega) (by omega)
  have hg1 := (hk 1298 (by decide) (by decide) (by decide)).trans hg
  refine z_istore rfl (by decide +kernel) rfl ?_
  refine z_aload_n rfl rfl ?_
  refine z_aload_n rfl rfl ?_
  refine z_iload rfl rfl ?_
  refine z_iconst (v := 1) rfl (by decide) ?_
  refine z_iadd rfl ?_
  refine z_sld rfl hv1 ?_
  refine z_callV (av := [_]) rfl z_w227 hM1.1 rfl rfl rfl rfl rfl (Nat.le_of_ble_eq_true rfl) (by omega) (by omega) (Nat.le_of_ble_eq_true rfl) (cM_wouldCarry hM1 hR ?_)
  intro h2 m2 rr hM2 hR2 ht2 hF2 hr2
  exact z_tlB rfl rfl rfl rfl rfl rfl rfl rfl rfl rfl rfl rfl rfl rfl rfl rfl rfl rfl ((z_end_wouldCarry (x := x)).1.elim (fun e => Or.inl e.1) fun e => Or.inr (Or.inl e)) (fun h0 => (z_end_wouldCarry (x := x)).1.elim (fun e => e.2) fun e => absurd (h0.symm.trans e) (by decide)) (hP1.kept hF2 (by decide)) hM2 hR2 ht2 hr2 ((hF2.2 _ (Or.inr (by decide))).trans ho1) hf1 ⟨g, (hF2.2 _ (Or.inr (by decide))).trans hg1⟩ (by omega) (by omega) K
theorem cL_carried (hv1 : vp_in (nI j + 1) G.2.2.2.2.2.1) (hv2 : vp_in (nI j + 2) G.2.2.2.2.2.1) (hv3 : vp_in (nI j + 3) G.2.2.2.2.2.1) (hS : z_LS h x m) (K : z_KL G C S j Q) : z_W G 13 (C + 30) (S + 8000) 338 1794 (z_LL j) [] h Q := by
  obtain ⟨hP, hM, hR, ⟨f, ho⟩, ⟨g, hg⟩⟩ := hS
  refine z_aload_n rfl rfl ?_
  refine z_callV (av := []) rfl z_w135 hP.cell.choose_spec rfl rfl rfl rfl rfl (Nat.le_of_ble_eq_true rfl) (by omega) (by omega) (Nat.le_of_ble_eq_true rfl) (cP_carried hP fun h1 hP1 hX => ?_)
  refine z_aload_n rfl rfl ?_
  have hk : ∀ k, 1288 ≤ k → k < 1299 → h1.2 k = h.2 k := fun k u1 u2 => hX.2 k u2 (Or.inr (by omega))
  have hM1 : z_Mo h1 1288 m := hM.keptX fun k u1 u2 => hk k u1 (by omega)
  have ho1 := (hk 1297 (by decide) (by decide)).trans ho
  have hg1 := (hk 1298 (by decide) (by decide)).trans hg
  refine z_callV (av := []) rfl z_w228 hM1.1 rfl rfl rfl rfl rfl (Nat.le_of_ble_eq_true rfl) (by omega) (by omega) (Nat.le_of_ble_eq_true rfl) (cM_carried hM1 hR ?_)
  intro h2 m2 rr hM2 hR2 ht2 hF2 hr2
  refine z_icmp_eq rfl (fun _ => ?_) (fun u => absurd (hr2 rfl).symm u)
  exact z_LLf ((K h2 _ m2 ⟨hP1.kept hF2 (by decide), hM2, hR2, ⟨f, (hF2.2 _ (Or.inr (by decide))).trans ho1⟩, ⟨g, (hF2.2 _ (Or.inr (by decide))).trans hg1⟩⟩).mono (Nat.le_refl _) (by omega) (by omega))
theorem cL_weakest (hv1 : vp_in (nI j + 1) G.2.2.2.2.2.1) (hv2 : vp_in (nI j + 2) G.2.2.2.2.2.1) (hv3 : vp_in (nI j + 3) G.2.2.2.2.2.1) (hS : z_LS h x m) (K : z_KL G C S j Q) : z_W G 13 (C + 30) (S + 8000) 338 1807 (z_LL j) [] h Q := by
  obtain ⟨hP, hM, hR, ⟨f, ho⟩, ⟨g, hg⟩⟩ := hS
  refine z_aload_n rfl rfl ?_
  refine z_aload_n rfl rfl ?_
  refine z_callSX (av := [_, _]) rfl z_w286 rfl rfl rfl rfl (Nat.le_of_ble_eq_true rfl) (by omega) (by omega) (Nat.le_of_ble_eq_true rfl) (cW_weakest hP ho fun h1 f1 hP1 hk ho1 hf1 => ?_)
  have hM1 : z_Mo h1 1288 m := hM.keptX fun k u1 u2 => hk k u1 (by omega) (by omega)
  have hg1 := (hk 1298 (by decide) (by decide) (by decide)).trans hg
  refine z_istore rfl (by decide +kernel) rfl ?_
  refine z_aload_n rfl rfl ?_
  refine z_callV (av := []) rfl z_w229 hM1.1 rfl rfl rfl rfl rfl (Nat.le_of_ble_eq_true rfl) (by omega) (by omega) (Nat.le_of_ble_eq_true rfl) (cM_weakest hM1 hR ?_)
  intro h2 m2 rr hM2 hR2 ht2 hF2 hr2
  exact z_tlI rfl rfl rfl rfl rfl rfl rfl rfl rfl rfl rfl rfl rfl rfl rfl ((z_end_weakest (x := x)).1.elim Or.inl fun e => Or.inr (Or.inl e)) (hP1.kept hF2 (by decide)) hM2 hR2 ht2 hr2 ((hF2.2 _ (Or.inr (by decide))).trans ho1) hf1 ⟨g, (hF2.2 _ (Or.inr (by decide))).trans hg1⟩ (by omega) (by omega) K
theorem cL_circle (hv1 : vp_in (nI j + 1) G.2.2.2.2.2.1) (hv2 : vp_in (nI j + 2) G.2.2.2.2.2.1) (hv3 : vp_in (nI j + 3) G.2.2.2.2.2.1) (hS : z_LS h x m) (K : z_KL G C S j Q) : z_W G 13 (C + 30) (S + 8000) 338 1851 (z_LL j) [] h Q := by
  obtain ⟨hP, hM, hR, ⟨f, ho⟩, ⟨g, hg⟩⟩ := hS
  refine z_aload_n rfl rfl ?_
  refine z_aload_n rfl rfl ?_
  refine z_iload rfl rfl ?_
  refine z_iconst (v := 1) rfl (by decide) ?_
  refine z_iadd rfl ?_
  refine z_sld rfl hv1 ?_
  refine z_aload_n rfl rfl ?_
  refine z_callSX (av := [_, _, _]) rfl z_w287 rfl rfl rfl rfl (Nat.le_of_ble_eq_true rfl) (by omega) (by omega) (Nat.le_of_ble_eq_true rfl) (cW_circle hP ho fun h1 f1 hP1 hk ho1 hf1 => ?_)
  have hM1 : z_Mo h1 1288 m := hM.keptX fun k u1 u2 => hk k u1 (by omega) (by omega)
  have hg1 := (hk 1298 (by decide) (by decide) (by decide)).trans hg
  refine z_istore rfl (by decide +kernel) rfl ?_
  refine z_aload_n rfl rfl ?_
  refine z_aload_n rfl rfl ?_
  refine z_iload rfl rfl ?_
  refine z_iconst (v := 1) rfl (by decide) ?_
  refine z_iadd rfl ?_
  refine z_sld rfl hv1 ?_
  refine z_callV (av := [_]) rfl z_w231 hM1.1 rfl rfl rfl rfl rfl (Nat.le_of_ble_eq_true rfl) (by omega) (by omega) (Nat.le_of_ble_eq_true rfl) (cM_circle hM1 hR ?_)
  intro h2 m2 rr hM2 hR2 ht2 hF2 hr2
  exact z_tlI rfl rfl rfl rfl rfl rfl rfl rfl rfl rfl rfl rfl rfl rfl rfl ((z_end_circle (x := x)).1.elim Or.inl fun e => Or.inr (Or.inl e)) (hP1.kept hF2 (by decide)) hM2 hR2 ht2 hr2 ((hF2.2 _ (Or.inr (by decide))).trans ho1) hf1 ⟨g, (hF2.2 _ (Or.inr (by decide))).trans hg1⟩ (by omega) (by omega) K
theorem cL_ranked (hv1 : vp_in (nI j + 1) G.2.2.2.2.2.1) (hv2 : vp_in (nI j + 2) G.2.2.2.2.2.1) (hv3 : vp_in (nI j + 3) G.2.2.2.2.2.1) (hS : z_LS h x m) (K : z_KL G C S j Q) : z_W G 13 (C + 30) (S + 8000) 338 1907 (z_LL j) [] h Q := by
  obtain ⟨hP, hM, hR, ⟨f, ho⟩, ⟨g, hg⟩⟩ := hS
  refine z_aload_n rfl rfl ?_
  refine z_aload_n rfl rfl ?_
  refine z_iload rfl rfl ?_
  refine z_iconst (v := 1) rfl (by decide) ?_
  refine z_iadd rfl ?_
  refine z_sld rfl hv1 ?_
  refine z_aload_n rfl rfl ?_
  refine z_iload rfl rfl ?_
  refine z_iconst (v := 2) rfl (by decide) ?_
  refine z_iadd rfl ?_
  refine z_sld rfl hv2 ?_
  refine z_aload_n rfl rfl ?_
  refine z_callSX (av := [_, _, _, _]) rfl z_w288 rfl rfl rfl rfl (Nat.le_of_ble_eq_true rfl) (by omega) (by omega) (Nat.le_of_ble_eq_true rfl) (cW_ranked hP ho fun h1 f1 hP1 hk ho1 hf1 => ?_)
  have hM1 : z_Mo h1 1288 m := hM.keptX fun k u1 u2 => hk k u1 (by omega) (by omega)
  have hg1 := (hk 1298 (by decide) (by decide) (by decide)).trans hg
  refine z_istore rfl (by decide +kernel) rfl ?_
  refine z_aload_n rfl rfl ?_
  refine z_aload_n rfl rfl ?_
  refine z_iload rfl rfl ?_
  refine z_iconst (v := 1) rfl (by decide) ?_
  refine z_iadd rfl ?_
  refine z_sld rfl hv1 ?_
  refine z_aload_n rfl rfl ?_
  refine z_iload rfl rfl ?_
  refine z_iconst (v := 2) rfl (by decide) ?_
  refine z_iadd rfl ?_
  refine z_sld rfl hv2 ?_
  refine z_callV (av := [_, _]) rfl z_w232 hM1.1 rfl rfl rfl rfl rfl (Nat.le_of_ble_eq_true rfl) (by omega) (by omega) (Nat.le_of_ble_eq_true rfl) (cM_ranked hM1 hR ?_)
  intro h2 m2 rr hM2 hR2 ht2 hF2 hr2
  exact z_tlI rfl rfl rfl rfl rfl rfl rfl rfl rfl rfl rfl rfl rfl rfl rfl ((z_end_ranked (x := x)).1) (hP1.kept hF2 (by decide)) hM2 hR2 ht2 hr2 ((hF2.2 _ (Or.inr (by decide))).trans ho1) hf1 ⟨g, (hF2.2 _ (Or.inr (by decide))).trans hg1⟩ (by omega) (by omega) K
theorem cL_isTold (hv1 : vp_in (nI j + 1) G.2.2.2.2.2.1) (hv2 : vp_in (nI j + 2) G.2.2.2.2.2.1) (hv3 : vp_in (nI j + 3) G.2.2.2.2.2.1) (hS : z_LS h x m) (K : z_KL G C S j Q) : z_W G 13 (C + 30) (S + 8000) 338 1975 (z_LL j) [] h Q := by
  obtain ⟨hP, hM, hR, ⟨f, ho⟩, ⟨g, hg⟩⟩ := hS
  refine z_aload_n rfl rfl ?_
  refine z_callV (av := []) rfl z_w139 hP.cell.choose_spec rfl rfl rfl rfl rfl (Nat.le_of_ble_eq_true rfl) (by omega) (by omega) (Nat.le_of_ble_eq_true rfl) (cP_isTold (z_told1 hR.1.1) (z_told2 hR.1.1) (z_told3 hR.1.1) hP fun h1 hP1 hX => ?_)
  refine z_aload_n rfl rfl ?_
  have hk : ∀ k, 1288 ≤ k → k < 1299 → h1.2 k = h.2 k := fun k u1 u2 => hX.2 k u2 (Or.inr (by omega))
  have hM1 : z_Mo h1 1288 m := hM.keptX fun k u1 u2 => hk k u1 (by omega)
  have ho1 := (hk 1297 (by decide) (by decide)).trans ho
  have hg1 := (hk 1298 (by decide) (by decide)).trans hg
  refine z_callV (av := []) rfl z_w233 hM1.1 rfl rfl rfl rfl rfl (Nat.le_of_ble_eq_true rfl) (by omega) (by omega) (Nat.le_of_ble_eq_true rfl) (cM_isTold hM1 hR ?_)
  intro h2 m2 rr hM2 hR2 ht2 hF2 hr2
  refine z_icmp_eq rfl (fun _ => ?_) (fun u => absurd (hr2 rfl).symm u)
  exact z_LLf ((K h2 _ m2 ⟨hP1.kept hF2 (by decide), hM2, hR2, ⟨f, (hF2.2 _ (Or.inr (by decide))).trans ho1⟩, ⟨g, (hF2.2 _ (Or.inr (by decide))).trans hg1⟩⟩).mono (Nat.le_refl _) (by omega) (by omega))
theorem cL_append (hv1 : vp_in (nI j + 1) G.2.2.2.2.2.1) (hv2 : vp_in (nI j + 2) G.2.2.2.2.2.1) (hv3 : vp_in (nI j + 3) G.2.2.2.2.2.1) (hS : z_LS h x m) (K : z_KL G C S j Q) : z_W G 13 (C + 30) (S + 8000) 338 1988 (z_LL j) [] h Q := by
  obtain ⟨hP, hM, hR, ⟨f, ho⟩, ⟨g, hg⟩⟩ := hS
  refine z_aload_n rfl rfl ?_
  refine z_aload_n rfl rfl ?_
  refine z_iload rfl rfl ?_
  refine z_iconst (v := 1) rfl (by decide) ?_
  refine z_iadd rfl ?_
  refine z_sld rfl hv1 ?_
  refine z_i2c rfl ?_
  refine z_aload_n rfl rfl ?_
  refine z_callSX (av := [_, _, _]) rfl z_w289 rfl rfl rfl rfl (Nat.le_of_ble_eq_true rfl) (by omega) (by omega) (Nat.le_of_ble_eq_true rfl) (cW_append hP ho fun h1 f1 hP1 hk ho1 hf1 => ?_)
  have hM1 : z_Mo h1 1288 m := hM.keptX fun k u1 u2 => hk k u1 (by omega) (by omega)
  have hg1 := (hk 1298 (by decide) (by decide) (by decide)).trans hg
  refine z_istore rfl (by decide +kernel) rfl ?_
  refine z_aload_n rfl rfl ?_
  refine z_aload_n rfl rfl ?_
  refine z_iload rfl rfl ?_
  refine z_iconst (v := 1) rfl (by decide) ?_
  refine z_iadd rfl ?_
  refine z_sld rfl hv1 ?_
  refine z_i2c rfl ?_
  refine z_callV (av := [_]) rfl z_w234 hM1.1 rfl rfl rfl rfl rfl (Nat.le_of_ble_eq_true rfl) (by omega) (by omega) (Nat.le_of_ble_eq_true rfl) (cM_append hM1 hR ?_)
  intro h2 m2 rr hM2 hR2 ht2 hF2 hr2
  exact z_tlI rfl rfl rfl rfl rfl rfl rfl rfl rfl rfl rfl rfl rfl rfl rfl ((z_end_append (x := x))) (hP1.kept hF2 (by decide)) hM2 hR2 ht2 hr2 ((hF2.2 _ (Or.inr (by decide))).trans ho1) hf1 ⟨g, (hF2.2 _ (Or.inr (by decide))).trans hg1⟩ (by omega) (by omega) K
theorem cL_run (hv1 : vp_in (nI j + 1) G.2.2.2.2.2.1) (hv2 : vp_in (nI j + 2) G.2.2.2.2.2.1) (hv3 : vp_in (nI j + 3) G.2.2.2.2.2.1) (hS : z_LS h x m) (K : z_KL G C S j Q) : z_W G 13 (C + 30) (S + 8000) 338 2046 (z_LL j) [] h Q := by
  obtain ⟨hP, hM, hR, ⟨f, ho⟩, ⟨g, hg⟩⟩ := hS
  refine z_aload_n rfl rfl ?_
  refine z_aload_n rfl rfl ?_
  refine z_callSX (av := [_, _]) rfl z_w290 rfl rfl rfl rfl (Nat.le_of_ble_eq_true rfl) (by omega) (by omega) (Nat.le_of_ble_eq_true rfl) (cW_run z_wf (fun v u => u.1) (fun v o u1 u2 u3 => u1.do u2 u3) hR.1.1 hP ho fun h1 f1 hP1 hk ho1 hf1 => ?_)
  have hM1 : z_Mo h1 1288 m := hM.keptX fun k u1 u2 => hk k u1 (by omega) (by omega)
  have hg1 := (hk 1298 (by decide) (by decide) (by decide)).trans hg
  refine z_istore rfl (by decide +kernel) rfl ?_
  refine z_aload_n rfl rfl ?_
  refine z_callV (av := []) rfl z_w244 hM1.1 rfl rfl rfl rfl rfl (Nat.le_of_ble_eq_true rfl) (by omega) (by omega) (Nat.le_of_ble_eq_true rfl) (cM_run hM1 hR ?_)
  intro h2 m2 rr hM2 hR2 ht2 hF2 hr2
  exact z_tlI rfl rfl rfl rfl rfl rfl rfl rfl rfl rfl rfl rfl rfl rfl rfl ((z_end_run (x := x))) (hP1.kept hF2 (by decide)) hM2 hR2 ht2 hr2 ((hF2.2 _ (Or.inr (by decide))).trans ho1) hf1 ⟨g, (hF2.2 _ (Or.inr (by decide))).trans hg1⟩ (by omega) (by omega) K
theorem cL_faultPosition (hv1 : vp_in (nI j + 1) G.2.2.2.2.2.1) (hv2 : vp_in (nI j + 2) G.2.2.2.2.2.1) (hv3 : vp_in (nI j + 3) G.2.2.2.2.2.1) (hS : z_LS h x m) (K : z_KL G C S j Q) : z_W G 13 (C + 30) (S + 8000) 338 2090 (z_LL j) [] h Q := by
  obtain ⟨hP, hM, hR, ⟨f, ho⟩, ⟨g, hg⟩⟩ := hS
  refine z_aload_n rfl rfl ?_
  refine z_callV (av := []) rfl z_w145 hP.cell.choose_spec rfl rfl rfl rfl rfl (Nat.le_of_ble_eq_true rfl) (by omega) (by omega) (Nat.le_of_ble_eq_true rfl) (cP_faultPosition hP ?_)
  refine z_aload_n rfl rfl ?_
  have hM1 := hM
  have hP1 := hP
  have ho1 := ho
  have hg1 := hg
  refine z_callV (av := []) rfl z_w245 hM1.1 rfl rfl rfl rfl rfl (Nat.le_of_ble_eq_true rfl) (by omega) (by omega) (Nat.le_of_ble_eq_true rfl) (cM_faultPosition hM1 hR ?_)
  intro h2 m2 rr hM2 hR2 ht2 hF2 hr2
  refine z_icmp_eq rfl (fun _ => ?_) (fun u => absurd (hr2 rfl).symm u)
  exact z_LLf ((K h2 _ m2 ⟨hP1.kept hF2 (by decide), hM2, hR2, ⟨f, (hF2.2 _ (Or.inr (by decide))).trans ho1⟩, ⟨g, (hF2.2 _ (Or.inr (by decide))).trans hg1⟩⟩).mono (Nat.le_refl _) (by omega) (by omega))
theorem cL_reason (hv1 : vp_in (nI j + 1) G.2.2.2.2.2.1) (hv2 : vp_in (nI j + 2) G.2.2.2.2.2.1) (hv3 : vp_in (nI j + 3) G.2.2.2.2.2.1) (hS : z_LS h x m) (K : z_KL G C S j Q) : z_W G 13 (C + 30) (S + 8000) 338 2103 (z_LL j) [] h Q := by
  obtain ⟨hP, hM, hR, ⟨f, ho⟩, ⟨g, hg⟩⟩ := hS
  by_cases hb : G.2.2.2.2.2.2 (nI j + 2).toNatClampNeg = 0
  · skip
    refine z_aload_n rfl rfl ?_
    refine z_aload_n rfl rfl ?_
    refine z_iload rfl rfl ?_
    refine z_iconst (v := 1) rfl (by decide) ?_
    refine z_iadd rfl ?_
    refine z_sld rfl hv1 ?_
    refine z_aload_n rfl rfl ?_
    refine z_iload rfl rfl ?_
    refine z_iconst (v := 2) rfl (by decide) ?_
    refine z_iadd rfl ?_
    refine z_sld rfl hv2 ?_
    refine z_if_eq rfl (fun _ => ?_) (fun u => absurd hb u)
    refine z_iconst (v := z_I false) rfl (by decide) ?_
    refine z_aload_n rfl rfl ?_
    refine z_callSX (av := [_, _, _, _]) rfl z_w291 rfl rfl rfl rfl (Nat.le_of_ble_eq_true rfl) (by omega) (by omega) (Nat.le_of_ble_eq_true rfl) (cW_reason hP ho fun h1 f1 hP1 hk ho1 hf1 => ?_)
    have hM1 : z_Mo h1 1288 m := hM.keptX fun k u1 u2 => hk k u1 (by omega) (by omega)
    have hg1 := (hk 1298 (by decide) (by decide) (by decide)).trans hg
    refine z_istore rfl (by decide +kernel) rfl ?_
    refine z_aload_n rfl rfl ?_
    refine z_aload_n rfl rfl ?_
    refine z_iload rfl rfl ?_
    refine z_iconst (v := 1) rfl (by decide) ?_
    refine z_iadd rfl ?_
    refine z_sld rfl hv1 ?_
    refine z_aload_n rfl rfl ?_
    refine z_iload rfl rfl ?_
    refine z_iconst (v := 2) rfl (by decide) ?_
    refine z_iadd rfl ?_
    refine z_sld rfl hv2 ?_
    refine z_if_eq rfl (fun _ => ?_) (fun u => absurd hb u)
    refine z_iconst (v := z_I false) rfl (by decide) ?_
    refine z_callV (av := [_, _]) rfl z_w246 hM1.1 rfl rfl rfl rfl rfl (Nat.le_of_ble_eq_true rfl) (by omega) (by omega) (Nat.le_of_ble_eq_true rfl) (cM_reason hM1 hR ?_)
    intro h2 m2 rr hM2 hR2 ht2 hF2 hr2
    exact z_tlI rfl rfl rfl rfl rfl rfl rfl rfl rfl rfl rfl rfl rfl rfl rfl ((z_end_reason (x := x)).1) (hP1.kept hF2 (by decide)) hM2 hR2 ht2 hr2 ((hF2.2 _ (Or.inr (by decide))).trans ho1) hf1 ⟨g, (hF2.2 _ (Or.inr (by decide))).trans hg1⟩ (by omega) (by omega) K
  · skip
    refine z_aload_n rfl rfl ?_
    refine z_aload_n rfl rfl ?_
    refine z_iload rfl rfl ?_
    refine z_iconst (v := 1) rfl (by decide) ?_
    refine z_iadd rfl ?_
    refine z_sld rfl hv1 ?_
    refine z_aload_n rfl rfl ?_
    refine z_iload rfl rfl ?_
    refine z_iconst (v := 2) rfl (by decide) ?_
    refine z_iadd rfl ?_
    refine z_sld rfl hv2 ?_
    refine z_if_eq rfl (fun u => absurd u hb) (fun _ => ?_)
    refine z_iconst (v := z_I true) rfl (by decide) ?_
    refine z_goto rfl ?_
    refine z_aload_n rfl rfl ?_
    refine z_callSX (av := [_, _, _, _]) rfl z_w291 rfl rfl rfl rfl (Nat.le_of_ble_eq_true rfl) (by omega) (by omega) (Nat.le_of_ble_eq_true rfl) (cW_reason hP ho fun h1 f1 hP1 hk ho1 hf1 => ?_)
    have hM1 : z_Mo h1 1288 m := hM.keptX fun k u1 u2 => hk k u1 (by omega) (by omega)
    have hg1 := (hk 1298 (by decide) (by decide) (by decide)).trans hg
    refine z_istore rfl (by decide +kernel) rfl ?_
    refine z_aload_n rfl rfl ?_
    refine z_aload_n rfl rfl ?_
    refine z_iload rfl rfl ?_
    refine z_iconst (v := 1) rfl (by decide) ?_
    refine z_iadd rfl ?_
    refine z_sld rfl hv1 ?_
    refine z_aload_n rfl rfl ?_
    refine z_iload rfl rfl ?_
    refine z_iconst (v := 2) rfl (by decide) ?_
    refine z_iadd rfl ?_
    refine z_sld rfl hv2 ?_
    refine z_if_eq rfl (fun u => absurd u hb) (fun _ => ?_)
    refine z_iconst (v := z_I true) rfl (by decide) ?_
    refine z_goto rfl ?_
    refine z_callV (av := [_, _]) rfl z_w246 hM1.1 rfl rfl rfl rfl rfl (Nat.le_of_ble_eq_true rfl) (by omega) (by omega) (Nat.le_of_ble_eq_true rfl) (cM_reason hM1 hR ?_)
    intro h2 m2 rr hM2 hR2 ht2 hF2 hr2
    exact z_tlI rfl rfl rfl rfl rfl rfl rfl rfl rfl rfl rfl rfl rfl rfl rfl ((z_end_reason (x := x)).1) (hP1.kept hF2 (by decide)) hM2 hR2 ht2 hr2 ((hF2.2 _ (Or.inr (by decide))).trans ho1) hf1 ⟨g, (hF2.2 _ (Or.inr (by decide))).trans hg1⟩ (by omega) (by omega) K
theorem cL_tell (hv1 : vp_in (nI j + 1) G.2.2.2.2.2.1) (hv2 : vp_in (nI j + 2) G.2.2.2.2.2.1) (hv3 : vp_in (nI j + 3) G.2.2.2.2.2.1) (hS : z_LS h x m) (K : z_KL G C S j Q) : z_W G 13 (C + 30) (S + 8000) 338 2187 (z_LL j) [] h Q := by
  obtain ⟨hP, hM, hR, ⟨f, ho⟩, ⟨g, hg⟩⟩ := hS
  refine z_aload_n rfl rfl ?_
  refine z_aload_n rfl rfl ?_
  refine z_iload rfl rfl ?_
  refine z_iconst (v := 1) rfl (by decide) ?_
  refine z_iadd rfl ?_
  refine z_sld rfl hv1 ?_
  refine z_aload_n rfl rfl ?_
  refine z_callSX (av := [_, _, _]) rfl z_w292 rfl rfl rfl rfl (Nat.le_of_ble_eq_true rfl) (by omega) (by omega) (Nat.le_of_ble_eq_true rfl) (cW_tell (z_twoC hR.1.1) hP ho fun h1 f1 hP1 hk ho1 hf1 => ?_)
  have hM1 : z_Mo h1 1288 m := hM.keptX fun k u1 u2 => hk k u1 (by omega) (by omega)
  have hg1 := (hk 1298 (by decide) (by decide) (by decide)).trans hg
  refine z_istore rfl (by decide +kernel) rfl ?_
  refine z_aload_n rfl rfl ?_
  refine z_aload_n rfl rfl ?_
  refine z_iload rfl rfl ?_
  refine z_iconst (v := 1) rfl (by decide) ?_
  refine z_iadd rfl ?_
  refine z_sld rfl hv1 ?_
  refine z_callV (av := [_]) rfl z_w249 hM1.1 rfl rfl rfl rfl rfl (Nat.le_of_ble_eq_true rfl) (by omega) (by omega) (Nat.le_of_ble_eq_true rfl) (cM_tell hM1 hR ?_)
  intro h2 m2 rr hM2 hR2 ht2 hF2 hr2
  exact z_tlI rfl rfl rfl rfl rfl rfl rfl rfl rfl rfl rfl rfl rfl rfl rfl ((z_end_tell (x := x)).elim Or.inl fun e => Or.inr (Or.inl e)) (hP1.kept hF2 (by decide)) hM2 hR2 ht2 hr2 ((hF2.2 _ (Or.inr (by decide))).trans ho1) hf1 ⟨g, (hF2.2 _ (Or.inr (by decide))).trans hg1⟩ (by omega) (by omega) K
theorem cL_tellBill (hv1 : vp_in (nI j + 1) G.2.2.2.2.2.1) (hv2 : vp_in (nI j + 2) G.2.2.2.2.2.1) (hv3 : vp_in (nI j + 3) G.2.2.2.2.2.1) (hS : z_LS h x m) (K : z_KL G C S j Q) : z_W G 13 (C + 30) (S + 8000) 338 2243 (z_LL j) [] h Q := by
  obtain ⟨hP, hM, hR, ⟨f, ho⟩, ⟨g, hg⟩⟩ := hS
  refine z_aload_n rfl rfl ?_
  refine z_aload_n rfl rfl ?_
  refine z_iload rfl rfl ?_
  refine z_iconst (v := 1) rfl (by decide) ?_
  refine z_iadd rfl ?_
  refine z_sld rfl hv1 ?_
  refine z_aload_n rfl rfl ?_
  refine z_callSX (av := [_, _, _]) rfl z_w293 rfl rfl rfl rfl (Nat.le_of_ble_eq_true rfl) (by omega) (by omega) (Nat.le_of_ble_eq_true rfl) (cW_tellBill (z_twoB hR.1.1) hP ho fun h1 f1 hP1 hk ho1 hf1 => ?_)
  have hM1 : z_Mo h1 1288 m := hM.keptX fun k u1 u2 => hk k u1 (by omega) (by omega)
  have hg1 := (hk 1298 (by decide) (by decide) (by decide)).trans hg
  refine z_istore rfl (by decide +kernel) rfl ?_
  refine z_aload_n rfl rfl ?_
  refine z_aload_n rfl rfl ?_
  refine z_iload rfl rfl ?_
  refine z_iconst (v := 1) rfl (by decide) ?_
  refine z_iadd rfl ?_
  refine z_sld rfl hv1 ?_
  refine z_callV (av := [_]) rfl z_w250 hM1.1 rfl rfl rfl rfl rfl (Nat.le_of_ble_eq_true rfl) (by omega) (by omega) (Nat.le_of_ble_eq_true rfl) (cM_tellBill hM1 hR ?_)
  intro h2 m2 rr hM2 hR2 ht2 hF2 hr2
  exact z_tlI rfl rfl rfl rfl rfl rfl rfl rfl rfl rfl rfl rfl rfl rfl rfl ((z_end_tellBill (x := x)).elim Or.inl fun e => Or.inr (Or.inl e)) (hP1.kept hF2 (by decide)) hM2 hR2 ht2 hr2 ((hF2.2 _ (Or.inr (by decide))).trans ho1) hf1 ⟨g, (hF2.2 _ (Or.inr (by decide))).trans hg1⟩ (by omega) (by omega) K
theorem cL_tellRow (hv1 : vp_in (nI j + 1) G.2.2.2.2.2.1) (hv2 : vp_in (nI j + 2) G.2.2.2.2.2.1) (hv3 : vp_in (nI j + 3) G.2.2.2.2.2.1) (hS : z_LS h x m) (K : z_KL G C S j Q) : z_W G 13 (C + 30) (S + 8000) 338 2299 (z_LL j) [] h Q := by
  obtain ⟨hP, hM, hR, ⟨f, ho⟩, ⟨g, hg⟩⟩ := hS
  refine z_aload_n rfl rfl ?_
  refine z_callV (av := []) rfl z_w149 hP.cell.choose_spec rfl rfl rfl rfl rfl (Nat.le_of_ble_eq_true rfl) (by omega) (by omega) (Nat.le_of_ble_eq_true rfl) (cP_tellRow (z_twoR hR.1.1) hP fun h1 hP1 hX => ?_)
  refine z_aload_n rfl rfl ?_
  have hk : ∀ k, 1288 ≤ k → k < 1299 → h1.2 k = h.2 k := fun k u1 u2 => hX.2 k u2 (Or.inr (by omega))
  have hM1 : z_Mo h1 1288 m := hM.keptX fun k u1 u2 => hk k u1 (by omega)
  have ho1 := (hk 1297 (by decide) (by decide)).trans ho
  have hg1 := (hk 1298 (by decide) (by decide)).trans hg
  refine z_callV (av := []) rfl z_w251 hM1.1 rfl rfl rfl rfl rfl (Nat.le_of_ble_eq_true rfl) (by omega) (by omega) (Nat.le_of_ble_eq_true rfl) (cM_tellRow hM1 hR ?_)
  intro h2 m2 rr hM2 hR2 ht2 hF2 hr2
  refine z_icmp_eq rfl (fun _ => ?_) (fun u => absurd (hr2 rfl).symm u)
  exact z_LLf ((K h2 _ m2 ⟨hP1.kept hF2 (by decide), hM2, hR2, ⟨f, (hF2.2 _ (Or.inr (by decide))).trans ho1⟩, ⟨g, (hF2.2 _ (Or.inr (by decide))).trans hg1⟩⟩).mono (Nat.le_refl _) (by omega) (by omega))
theorem cL_character (hv1 : vp_in (nI j + 1) G.2.2.2.2.2.1) (hv2 : vp_in (nI j + 2) G.2.2.2.2.2.1) (hv3 : vp_in (nI j + 3) G.2.2.2.2.2.1) (hS : z_LS h x m) (K : z_KL G C S j Q) : z_W G 13 (C + 30) (S + 8000) 338 2312 (z_LL j) [] h Q := by
  obtain ⟨hP, hM, hR, ⟨f, ho⟩, ⟨g, hg⟩⟩ := hS
  refine z_aload_n rfl rfl ?_
  refine z_aload_n rfl rfl ?_
  refine z_iload rfl rfl ?_
  refine z_iconst (v := 1) rfl (by decide) ?_
  refine z_iadd rfl ?_
  refine z_sld rfl hv1 ?_
  refine z_aload_n rfl rfl ?_
  refine z_callSX (av := [_, _, _]) rfl z_w294 rfl rfl rfl rfl (Nat.le_of_ble_eq_true rfl) (by omega) (by omega) (Nat.le_of_ble_eq_true rfl) (cW_character hP ho fun h1 f1 hP1 hk ho1 hf1 => ?_)
  have hM1 : z_Mo h1 1288 m := hM.keptX fun k u1 u2 => hk k u1 (by omega) (by omega)
  have hg1 := (hk 1298 (by decide) (by decide) (by decide)).trans hg
  refine z_istore rfl (by decide +kernel) rfl ?_
  refine z_aload_n rfl rfl ?_
  refine z_aload_n rfl rfl ?_
  refine z_iload rfl rfl ?_
  refine z_iconst (v := 1) rfl (by decide) ?_
  refine z_iadd rfl ?_
  refine z_sld rfl hv1 ?_
  refine z_callV (av := [_]) rfl z_w252 hM1.1 rfl rfl rfl rfl rfl (Nat.le_of_ble_eq_true rfl) (by omega) (by omega) (Nat.le_of_ble_eq_true rfl) (cM_character hM1 hR ?_)
  intro h2 m2 rr hM2 hR2 ht2 hF2 hr2
  exact z_tlI rfl rfl rfl rfl rfl rfl rfl rfl rfl rfl rfl rfl rfl rfl rfl ((z_end_character (x := x)).1.elim Or.inl fun e => Or.inr (Or.inl e)) (hP1.kept hF2 (by decide)) hM2 hR2 ht2 hr2 ((hF2.2 _ (Or.inr (by decide))).trans ho1) hf1 ⟨g, (hF2.2 _ (Or.inr (by decide))).trans hg1⟩ (by omega) (by omega) K
theorem cL_account (hv1 : vp_in (nI j + 1) G.2.2.2.2.2.1) (hv2 : vp_in (nI j + 2) G.2.2.2.2.2.1) (hv3 : vp_in (nI j + 3) G.2.2.2.2.2.1) (hS : z_LS h x m) (K : z_KL G C S j Q) : z_W G 13 (C + 30) (S + 8000) 338 2368 (z_LL j) [] h Q := by
  obtain ⟨hP, hM, hR, ⟨f, ho⟩, ⟨g, hg⟩⟩ := hS
  refine z_aload_n rfl rfl ?_
  refine z_aload_n rfl rfl ?_
  refine z_iload rfl rfl ?_
  refine z_iconst (v := 1) rfl (by decide) ?_
  refine z_iadd rfl ?_
  refine z_sld rfl hv1 ?_
  refine z_aload_n rfl rfl ?_
  refine z_callSX (av := [_, _, _]) rfl z_w295 rfl rfl rfl rfl (Nat.le_of_ble_eq_true rfl) (by omega) (by omega) (Nat.le_of_ble_eq_true rfl) (cW_account hP ho fun h1 f1 hP1 hk ho1 hf1 => ?_)
  have hM1 : z_Mo h1 1288 m := hM.keptX fun k u1 u2 => hk k u1 (by omega) (by omega)
  have hg1 := (hk 1298 (by decide) (by decide) (by decide)).trans hg
  refine z_istore rfl (by decide +kernel) rfl ?_
  refine z_aload_n rfl rfl ?_
  refine z_aload_n rfl rfl ?_
  refine z_iload rfl rfl ?_
  refine z_iconst (v := 1) rfl (by decide) ?_
  refine z_iadd rfl ?_
  refine z_sld rfl hv1 ?_
  refine z_callV (av := [_]) rfl z_w255 hM1.1 rfl rfl rfl rfl rfl (Nat.le_of_ble_eq_true rfl) (by omega) (by omega) (Nat.le_of_ble_eq_true rfl) (cM_account hM1 hR ?_)
  intro h2 m2 rr hM2 hR2 ht2 hF2 hr2
  exact z_tlI rfl rfl rfl rfl rfl rfl rfl rfl rfl rfl rfl rfl rfl rfl rfl ((z_end_account (x := x)).1.elim Or.inl fun e => Or.inr (Or.inl e)) (hP1.kept hF2 (by decide)) hM2 hR2 ht2 hr2 ((hF2.2 _ (Or.inr (by decide))).trans ho1) hf1 ⟨g, (hF2.2 _ (Or.inr (by decide))).trans hg1⟩ (by omega) (by omega) K
theorem cL_meanSpring (hv1 : vp_in (nI j + 1) G.2.2.2.2.2.1) (hv2 : vp_in (nI j + 2) G.2.2.2.2.2.1) (hv3 : vp_in (nI j + 3) G.2.2.2.2.2.1) (hS : z_LS h x m) (K : z_KL G C S j Q) : z_W G 13 (C + 30) (S + 8000) 338 2424 (z_LL j) [] h Q := by
  obtain ⟨hP, hM, hR, ⟨f, ho⟩, ⟨g, hg⟩⟩ := hS
  refine z_aload_n rfl rfl ?_
  refine z_aload rfl rfl ?_
  refine z_callSX (av := [_, _]) rfl z_w296 rfl rfl rfl rfl (Nat.le_of_ble_eq_true rfl) (by omega) (by omega) (Nat.le_of_ble_eq_true rfl) (cW_meanSpring hR.1.1 hP hg ⟨?_, ?_⟩)
  · intro h1 g1 hP1 hk hg1 c hv
    have hk2 : ∀ k, 1288 ≤ k → k < 1298 → h1.2 k = h.2 k := fun k u1 u2 => hk k u1 (by omega) (by omega)
    have hM1 : z_Mo h1 1288 m := hM.keptX fun k u1 u2 => hk2 k u1 (by omega)
    have ho1 := (hk2 1297 (by decide) (by decide)).trans ho
    refine z_istore rfl (by decide +kernel) rfl ?_
    refine z_aload_n rfl rfl ?_
    refine z_callV (av := []) rfl z_w256 hM1.1 rfl rfl rfl rfl rfl (Nat.le_of_ble_eq_true rfl) (by omega) (by omega) (Nat.le_of_ble_eq_true rfl) (cM_meanSpring (fun c => z_n64 (z_dvN (nI_ne0 (Nat.pos_of_ne_zero c) (by have := hR.1.1.2.1; omega)))) hM1 hR (fun _ h2 m2 hM2 hR2 ht2 hF2 => ?_) (fun c2 => absurd c2 c))
    have hg2 := (hF2.2 1298 (Or.inr (by decide))).trans hg1
    have hE : z_LS h2 x m2 := ⟨hP1.kept hF2 (by decide), hM2, hR2, ⟨f, (hF2.2 _ (Or.inr (by decide))).trans ho1⟩, ⟨_, hg2⟩⟩
    refine z_dstore rfl (by decide +kernel) rfl ?_
    refine z_aload_n rfl rfl ?_
    refine z_callV (av := []) rfl z_w161 hM2.1 rfl rfl rfl rfl rfl (Nat.le_of_ble_eq_true rfl) (by omega) (by omega) (Nat.le_of_ble_eq_true rfl) (cM_thrown hM2 ?_)
    refine z_iload rfl rfl ?_
    refine z_icmp_eq rfl (fun _ => ?_) (fun u => absurd ht2 u)
    refine z_iload rfl rfl ?_
    refine z_if_ne rfl (fun u => absurd rfl u) (fun _ => ?_)
    refine z_aload rfl rfl ?_
    refine z_iconst (v := 0) rfl (by decide) ?_
    refine z_dald rfl hg2 z_in01 ?_
    refine z_dload rfl rfl ?_
    refine z_dcmp rfl ?_
    refine z_if_eq rfl (fun _ => ?_) (fun u => absurd (by show Op.cmpValue (FP.dcmp (g1 0) _) _ = 0; rw [hv]; exact z_dcmpS (z_dvN (nI_ne0 (Nat.pos_of_ne_zero c) (by have := hR.1.1.2.1; omega)))) u)
    exact z_KL.end (i := []) K rfl hE (by omega) (by omega)
  · intro h1 hP1 hk c
    have hk2 : ∀ k, 1288 ≤ k → k < 1298 → h1.2 k = h.2 k := fun k u1 u2 => hk k u1 (by omega)
    have hg1 := (hk 1298 (by decide) (by decide)).trans hg
    have hM1 : z_Mo h1 1288 m := hM.keptX fun k u1 u2 => hk2 k u1 (by omega)
    have ho1 := (hk2 1297 (by decide) (by decide)).trans ho
    refine z_istore rfl (by decide +kernel) rfl ?_
    refine z_aload_n rfl rfl ?_
    refine z_callV (av := []) rfl z_w256 hM1.1 rfl rfl rfl rfl rfl (Nat.le_of_ble_eq_true rfl) (by omega) (by omega) (Nat.le_of_ble_eq_true rfl) (cM_meanSpring (fun c => z_n64 (z_dvN (nI_ne0 (Nat.pos_of_ne_zero c) (by have := hR.1.1.2.1; omega)))) hM1 hR (fun c2 => absurd c c2) (fun _ h2 m2 dd hM2 hR2 ht2 hF2 => ?_))
    have hg2 := (hF2.2 1298 (Or.inr (by decide))).trans hg1
    have hE : z_LS h2 x m2 := ⟨hP1.kept hF2 (by decide), hM2, hR2, ⟨f, (hF2.2 _ (Or.inr (by decide))).trans ho1⟩, ⟨_, hg2⟩⟩
    refine z_dstore rfl (by decide +kernel) rfl ?_
    refine z_aload_n rfl rfl ?_
    refine z_callV (av := []) rfl z_w161 hM2.1 rfl rfl rfl rfl rfl (Nat.le_of_ble_eq_true rfl) (by omega) (by omega) (Nat.le_of_ble_eq_true rfl) (cM_thrown hM2 ?_)
    refine z_iload rfl rfl ?_
    refine z_icmp_eq rfl (fun _ => ?_) (fun u => absurd ht2 u)
    refine z_iload rfl rfl ?_
    refine z_if_ne rfl (fun _ => ?_) (fun u => absurd u (by decide))
    exact z_KL.end (i := []) K rfl hE (by omega) (by omega)
theorem cL_carriedShare (hv1 : vp_in (nI j + 1) G.2.2.2.2.2.1) (hv2 : vp_in (nI j + 2) G.2.2.2.2.2.1) (hv3 : vp_in (nI j + 3) G.2.2.2.2.2.1) (hS : z_LS h x m) (K : z_KL G C S j Q) : z_W G 13 (C + 30) (S + 8000) 338 2489 (z_LL j) [] h Q := by
  obtain ⟨hP, hM, hR, ⟨f, ho⟩, ⟨g, hg⟩⟩ := hS
  refine z_aload_n rfl rfl ?_
  refine z_aload rfl rfl ?_
  refine z_callSX (av := [_, _]) rfl z_w297 rfl rfl rfl rfl (Nat.le_of_ble_eq_true rfl) (by omega) (by omega) (Nat.le_of_ble_eq_true rfl) (cW_carriedShare hR.1.1 hP hg ⟨?_, ?_⟩)
  · intro h1 g1 hP1 hk hg1 c hv
    have hk2 : ∀ k, 1288 ≤ k → k < 1298 → h1.2 k = h.2 k := fun k u1 u2 => hk k u1 (by omega) (by omega)
    have hM1 : z_Mo h1 1288 m := hM.keptX fun k u1 u2 => hk2 k u1 (by omega)
    have ho1 := (hk2 1297 (by decide) (by decide)).trans ho
    refine z_istore rfl (by decide +kernel) rfl ?_
    refine z_aload_n rfl rfl ?_
    refine z_callV (av := []) rfl z_w257 hM1.1 rfl rfl rfl rfl rfl (Nat.le_of_ble_eq_true rfl) (by omega) (by omega) (Nat.le_of_ble_eq_true rfl) (cM_carriedShare (fun c => z_n32 (z_fvN c)) hM1 hR (fun _ h2 m2 hM2 hR2 ht2 hF2 => ?_) (fun c2 => absurd c2 c))
    have hg2 := (hF2.2 1298 (Or.inr (by decide))).trans hg1
    have hE : z_LS h2 x m2 := ⟨hP1.kept hF2 (by decide), hM2, hR2, ⟨f, (hF2.2 _ (Or.inr (by decide))).trans ho1⟩, ⟨_, hg2⟩⟩
    refine z_fstore rfl (by decide +kernel) rfl ?_
    refine z_aload_n rfl rfl ?_
    refine z_callV (av := []) rfl z_w161 hM2.1 rfl rfl rfl rfl rfl (Nat.le_of_ble_eq_true rfl) (by omega) (by omega) (Nat.le_of_ble_eq_true rfl) (cM_thrown hM2 ?_)
    refine z_iload rfl rfl ?_
    refine z_icmp_eq rfl (fun _ => ?_) (fun u => absurd ht2 u)
    refine z_iload rfl rfl ?_
    refine z_if_ne rfl (fun u => absurd rfl u) (fun _ => ?_)
    refine z_aload rfl rfl ?_
    refine z_iconst (v := 0) rfl (by decide) ?_
    refine z_dald rfl hg2 z_in01 ?_
    refine z_fload rfl rfl ?_
    refine z_f2d rfl (z_n64 (z_f2dN (z_fvN c))) ?_
    refine z_dcmp rfl ?_
    refine z_if_eq rfl (fun _ => ?_) (fun u => absurd (by show Op.cmpValue (FP.dcmp (g1 0) _) _ = 0; rw [hv]; exact z_dcmpS (z_f2dN (z_fvN c))) u)
    exact z_KL.end (i := []) K rfl hE (by omega) (by omega)
  · intro h1 hP1 hk c
    have hk2 : ∀ k, 1288 ≤ k → k < 1298 → h1.2 k = h.2 k := fun k u1 u2 => hk k u1 (by omega)
    have hg1 := (hk 1298 (by decide) (by decide)).trans hg
    have hM1 : z_Mo h1 1288 m := hM.keptX fun k u1 u2 => hk2 k u1 (by omega)
    have ho1 := (hk2 1297 (by decide) (by decide)).trans ho
    refine z_istore rfl (by decide +kernel) rfl ?_
    refine z_aload_n rfl rfl ?_
    refine z_callV (av := []) rfl z_w257 hM1.1 rfl rfl rfl rfl rfl (Nat.le_of_ble_eq_true rfl) (by omega) (by omega) (Nat.le_of_ble_eq_true rfl) (cM_carriedShare (fun c => z_n32 (z_fvN c)) hM1 hR (fun c2 => absurd c c2) (fun _ h2 m2 dd hM2 hR2 ht2 hF2 => ?_))
    have hg2 := (hF2.2 1298 (Or.inr (by decide))).trans hg1
    have hE : z_LS h2 x m2 := ⟨hP1.kept hF2 (by decide), hM2, hR2, ⟨f, (hF2.2 _ (Or.inr (by decide))).trans ho1⟩, ⟨_, hg2⟩⟩
    refine z_fstore rfl (by decide +kernel) rfl ?_
    refine z_aload_n rfl rfl ?_
    refine z_callV (av := []) rfl z_w161 hM2.1 rfl rfl rfl rfl rfl (Nat.le_of_ble_eq_true rfl) (by omega) (by omega) (Nat.le_of_ble_eq_true rfl) (cM_thrown hM2 ?_)
    refine z_iload rfl rfl ?_
    refine z_icmp_eq rfl (fun _ => ?_) (fun u => absurd ht2 u)
    refine z_iload rfl rfl ?_
    refine z_if_ne rfl (fun _ => ?_) (fun u => absurd u (by decide))
    exact z_KL.end (i := []) K rfl hE (by omega) (by omega)
theorem cL_undo (hv1 : vp_in (nI j + 1) G.2.2.2.2.2.1) (hv2 : vp_in (nI j + 2) G.2.2.2.2.2.1) (hv3 : vp_in (nI j + 3) G.2.2.2.2.2.1) (hS : z_LS h x m) (K : z_KL G C S j Q) : z_W G 13 (C + 30) (S + 8000) 338 2555 (z_LL j) [] h Q := by
  obtain ⟨hP, hM, hR, ⟨f, ho⟩, ⟨g, hg⟩⟩ := hS
  refine z_aload_n rfl rfl ?_
  refine z_aload_n rfl rfl ?_
  refine z_callSX (av := [_, _]) rfl z_w298 rfl rfl rfl rfl (Nat.le_of_ble_eq_true rfl) (by omega) (by omega) (Nat.le_of_ble_eq_true rfl) (cW_undo hP ho fun h1 f1 hP1 hk ho1 hf1 => ?_)
  have hM1 : z_Mo h1 1288 m := hM.keptX fun k u1 u2 => hk k u1 (by omega) (by omega)
  have hg1 := (hk 1298 (by decide) (by decide) (by decide)).trans hg
  refine z_istore rfl (by decide +kernel) rfl ?_
  refine z_aload_n rfl rfl ?_
  refine z_callV (av := []) rfl z_w258 hM1.1 rfl rfl rfl rfl rfl (Nat.le_of_ble_eq_true rfl) (by omega) (by omega) (Nat.le_of_ble_eq_true rfl) (cM_undo hM1 hR ?_)
  intro h2 m2 rr hM2 hR2 ht2 hF2 hr2
  exact z_tlI rfl rfl rfl rfl rfl rfl rfl rfl rfl rfl rfl rfl rfl rfl rfl ((z_end_undo (x := x)).elim Or.inl fun e => Or.inr (Or.inl e)) (hP1.kept hF2 (by decide)) hM2 hR2 ht2 hr2 ((hF2.2 _ (Or.inr (by decide))).trans ho1) hf1 ⟨g, (hF2.2 _ (Or.inr (by decide))).trans hg1⟩ (by omega) (by omega) K
theorem cL_save (hv1 : vp_in (nI j + 1) G.2.2.2.2.2.1) (hv2 : vp_in (nI j + 2) G.2.2.2.2.2.1) (hv3 : vp_in (nI j + 3) G.2.2.2.2.2.1) (hS : z_LS h x m) (K : z_KL G C S j Q) : z_W G 13 (C + 30) (S + 8000) 338 2599 (z_LL j) [] h Q := by
  obtain ⟨hP, hM, hR, ⟨f, ho⟩, ⟨g, hg⟩⟩ := hS
  refine z_aload_n rfl rfl ?_
  refine z_callV (av := []) rfl z_w157 hP.cell.choose_spec rfl rfl rfl rfl rfl (Nat.le_of_ble_eq_true rfl) (by omega) (by omega) (Nat.le_of_ble_eq_true rfl) (cP_save hP fun h1 hP1 hX => ?_)
  refine z_aload_n rfl rfl ?_
  have hk : ∀ k, 1288 ≤ k → k < 1299 → h1.2 k = h.2 k := fun k u1 u2 => hX.2 k u2 (Or.inr (by omega))
  have hM1 : z_Mo h1 1288 m := hM.keptX fun k u1 u2 => hk k u1 (by omega)
  have ho1 := (hk 1297 (by decide) (by decide)).trans ho
  have hg1 := (hk 1298 (by decide) (by decide)).trans hg
  refine z_callV (av := []) rfl z_w259 hM1.1 rfl rfl rfl rfl rfl (Nat.le_of_ble_eq_true rfl) (by omega) (by omega) (Nat.le_of_ble_eq_true rfl) (cM_save hM1 hR ?_)
  intro h2 m2 rr hM2 hR2 ht2 hF2 hr2
  refine z_icmp_eq rfl (fun _ => ?_) (fun u => absurd (hr2 rfl).symm u)
  exact z_LLf ((K h2 _ m2 ⟨hP1.kept hF2 (by decide), hM2, hR2, ⟨f, (hF2.2 _ (Or.inr (by decide))).trans ho1⟩, ⟨g, (hF2.2 _ (Or.inr (by decide))).trans hg1⟩⟩).mono (Nat.le_refl _) (by omega) (by omega))
theorem cL_restore (hv1 : vp_in (nI j + 1) G.2.2.2.2.2.1) (hv2 : vp_in (nI j + 2) G.2.2.2.2.2.1) (hv3 : vp_in (nI j + 3) G.2.2.2.2.2.1) (hS : z_LS h x m) (K : z_KL G C S j Q) : z_W G 13 (C + 30) (S + 8000) 338 2612 (z_LL j) [] h Q := by
  obtain ⟨hP, hM, hR, ⟨f, ho⟩, ⟨g, hg⟩⟩ := hS
  refine z_aload_n rfl rfl ?_
  refine z_aload_n rfl rfl ?_
  refine z_callSX (av := [_, _]) rfl z_w299 rfl rfl rfl rfl (Nat.le_of_ble_eq_true rfl) (by omega) (by omega) (Nat.le_of_ble_eq_true rfl) (cW_restore hP ho fun h1 f1 hP1 hk ho1 hf1 => ?_)
  have hM1 : z_Mo h1 1288 m := hM.keptX fun k u1 u2 => hk k u1 (by omega) (by omega)
  have hg1 := (hk 1298 (by decide) (by decide) (by decide)).trans hg
  refine z_istore rfl (by decide +kernel) rfl ?_
  refine z_aload_n rfl rfl ?_
  refine z_callV (av := []) rfl z_w260 hM1.1 rfl rfl rfl rfl rfl (Nat.le_of_ble_eq_true rfl) (by omega) (by omega) (Nat.le_of_ble_eq_true rfl) (cM_restore hM1 hR ?_)
  intro h2 m2 rr hM2 hR2 ht2 hF2 hr2
  exact z_tlI rfl rfl rfl rfl rfl rfl rfl rfl rfl rfl rfl rfl rfl rfl rfl ((z_end_restore (x := x)).elim Or.inl fun e => Or.inr (Or.inl e)) (hP1.kept hF2 (by decide)) hM2 hR2 ht2 hr2 ((hF2.2 _ (Or.inr (by decide))).trans ho1) hf1 ⟨g, (hF2.2 _ (Or.inr (by decide))).trans hg1⟩ (by omega) (by omega) K
end ZTu
