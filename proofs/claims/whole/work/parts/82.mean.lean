/-! meanSpring, carriedShare of the model. -/
section ZMe
variable {G : z_G} {h : z_H} {Q : z_O → z_H → Prop} {a : Nat} {m : z_MV} {x : z_PV}
theorem cM_meanSpring (hn : ¬ x.1.1.1 0 = 0 → vf_n64 (FP.ddiv (FP.i2d (z_sum (x.1.1.2 1) (x.1.1.1 1))) (FP.i2d (nI (x.1.1.1 0))))) (hM : z_Mo h a m) (hR : z_Rel x m) (qf : ¬ x.1.1.1 0 = 0 → ∀ h' m', z_Mo h' a m' → z_Rel x m' → m'.1 16 = 0 → z_Fr a 9 h h' → Q (.inl (some (.double (FP.ddiv (FP.i2d (z_sum (x.1.1.2 1) (x.1.1.1 1))) (FP.i2d (nI (x.1.1.1 0))))))) h') (qx : x.1.1.1 0 = 0 → ∀ h' m' d, z_Mo h' a m' → z_Rel x m' → m'.1 16 = 1 → z_Fr a 9 h h' → Q (.inl (some (.double d))) h') : z_W G 1 0 0 256 0 (z_L0 256 [.ref a]) [] h Q := by
  have hw := hR.1.1
  have hg := hR.1.2
  have h8 := hw.nc
  have s1 := hw.sc (j := 1) (by decide)
  rw [s1] at hn qf
  by_cases e : x.1.1.1 0 = 0
  · skip
    refine z_aload_n rfl rfl ?_
    refine z_aload_n rfl rfl ?_
    refine z_get rfl hM.1 rfl ?_
    refine z_iconst (v := 0) rfl (by decide) ?_
    refine z_ildE rfl (hM.2 1 (by decide)) (k := 0) rfl (show _ < 105 by omega) ?_
    rw [hg.c0, e]
    refine z_if_ne rfl (fun c7 => absurd rfl c7) (fun c7 => ?_)
    refine z_iconst (v := 1) rfl (by decide) ?_
    refine z_goto rfl ?_
    refine z_putM rfl hM (by decide) rfl rfl (fun h1 hC1 hF1 => ?_)
    refine z_aload_n rfl rfl ?_
    refine z_get rfl hC1.1 rfl ?_
    refine z_if_ne rfl (fun c22 => ?_) (fun c22 => absurd c22 (show ¬ (1 : Int32) = 0 by decide))
    refine z_dconst0 rfl ?_
    refine z_dret rfl rfl ?_
    exact qx e _ _ _ hC1 (hR.th 1) rfl hF1
  · skip
    refine z_aload_n rfl rfl ?_
    refine z_aload_n rfl rfl ?_
    refine z_get rfl hM.1 rfl ?_
    refine z_iconst (v := 0) rfl (by decide) ?_
    refine z_ildE rfl (hM.2 1 (by decide)) (k := 0) rfl (show _ < 105 by omega) ?_
    rw [hg.c0]
    refine z_if_ne rfl (fun c7 => ?_) (fun c7 => absurd c7 (nI_ne0 (by omega) (by omega)))
    refine z_iconst (v := 0) rfl (by decide) ?_
    refine z_putM rfl hM (by decide) rfl rfl (fun h1 hC1 hF1 => ?_)
    refine z_aload_n rfl rfl ?_
    refine z_get rfl hC1.1 rfl ?_
    refine z_if_ne rfl (fun c22 => absurd (show (0 : Int32) = 0 from rfl) c22) (fun c22 => ?_)
    refine z_aload_n rfl rfl ?_
    refine z_callV (av := []) rfl z_w254 hC1.1 rfl rfl rfl rfl rfl (Nat.le_of_ble_eq_true rfl) (Nat.le_of_ble_eq_true rfl) (Nat.le_of_ble_eq_true rfl) (Nat.le_of_ble_eq_true rfl) (cM_springs (v := x.1) hC1 (show z_gOk x.1 (m.2 1) from hg) hw.wz ?_)
    refine z_i2d rfl ?_
    refine z_aload_n rfl rfl ?_
    refine z_get rfl hC1.1 rfl ?_
    refine z_iconst (v := 0) rfl (by decide) ?_
    refine z_ildE rfl (hC1.2 1 (by decide)) (k := 0) rfl (show _ < 105 by omega) ?_
    rw [show (z_mS m 16 0).2 1 0 = nI (x.1.1.1 0) from hg.c0]
    refine z_i2d rfl ?_
    refine z_ddiv rfl (hn e) ?_
    refine z_goto rfl ?_
    refine z_dret rfl rfl ?_
    exact qf e _ _ hC1 (hR.th 0) rfl hF1
theorem cM_carriedShare (hn : ¬ x.1.2.2 1 = 0 → vf_n32 (FP.fdiv (FP.i2f (x.1.2.2 2)) (FP.i2f (x.1.2.2 1)))) (hM : z_Mo h a m) (hR : z_Rel x m) (qf : ¬ x.1.2.2 1 = 0 → ∀ h' m', z_Mo h' a m' → z_Rel x m' → m'.1 16 = 0 → z_Fr a 9 h h' → Q (.inl (some (.float (FP.fdiv (FP.i2f (x.1.2.2 2)) (FP.i2f (x.1.2.2 1)))))) h') (qx : x.1.2.2 1 = 0 → ∀ h' m' d, z_Mo h' a m' → z_Rel x m' → m'.1 16 = 1 → z_Fr a 9 h h' → Q (.inl (some (.float d))) h') : z_W G 1 0 0 257 0 (z_L0 257 [.ref a]) [] h Q := by
  have hg := hR.1.2
  have c1 : m.2 1 3 = x.1.2.2 1 := hg.2.1.1 1 (by decide)
  have c2 : m.2 1 4 = x.1.2.2 2 := hg.2.1.1 2 (by decide)
  by_cases e : x.1.2.2 1 = 0
  · skip
    refine z_aload_n rfl rfl ?_
    refine z_aload_n rfl rfl ?_
    refine z_get rfl hM.1 rfl ?_
    refine z_iconst (v := 3) rfl (by decide) ?_
    refine z_ildE rfl (hM.2 1 (by decide)) (k := 3) rfl (show _ < 105 by omega) ?_
    rw [c1]
    refine z_if_ne rfl (fun c7 => absurd e c7) (fun c7 => ?_)
    refine z_iconst (v := 1) rfl (by decide) ?_
    refine z_goto rfl ?_
    refine z_putM rfl hM (by decide) rfl rfl (fun h1 hC1 hF1 => ?_)
    refine z_aload_n rfl rfl ?_
    refine z_get rfl hC1.1 rfl ?_
    refine z_if_ne rfl (fun c22 => ?_) (fun c22 => absurd c22 (show ¬ (1 : Int32) = 0 by decide))
    refine z_fconst0 rfl ?_
    refine z_fret rfl rfl ?_
    exact qx e _ _ _ hC1 (hR.th 1) rfl hF1
  · skip
    refine z_aload_n rfl rfl ?_
    refine z_aload_n rfl rfl ?_
    refine z_get rfl hM.1 rfl ?_
    refine z_iconst (v := 3) rfl (by decide) ?_
    refine z_ildE rfl (hM.2 1 (by decide)) (k := 3) rfl (show _ < 105 by omega) ?_
    rw [c1]
    refine z_if_ne rfl (fun c7 => ?_) (fun c7 => absurd c7 e)
    refine z_iconst (v := 0) rfl (by decide) ?_
    refine z_putM rfl hM (by decide) rfl rfl (fun h1 hC1 hF1 => ?_)
    refine z_aload_n rfl rfl ?_
    refine z_get rfl hC1.1 rfl ?_
    refine z_if_ne rfl (fun c22 => absurd (show (0 : Int32) = 0 from rfl) c22) (fun c22 => ?_)
    refine z_aload_n rfl rfl ?_
    refine z_get rfl hC1.1 rfl ?_
    refine z_iconst (v := 4) rfl (by decide) ?_
    refine z_ildE rfl (hC1.2 1 (by decide)) (k := 4) rfl (show _ < 105 by omega) ?_
    rw [show (z_mS m 16 0).2 1 4 = x.1.2.2 2 from c2]
    refine z_i2f rfl ?_
    refine z_aload_n rfl rfl ?_
    refine z_get rfl hC1.1 rfl ?_
    refine z_iconst (v := 3) rfl (by decide) ?_
    refine z_ildE rfl (hC1.2 1 (by decide)) (k := 3) rfl (show _ < 105 by omega) ?_
    rw [show (z_mS m 16 0).2 1 3 = x.1.2.2 1 from c1]
    refine z_i2f rfl ?_
    refine z_fdiv rfl (hn e) ?_
    refine z_goto rfl ?_
    refine z_fret rfl rfl ?_
    exact qf e _ _ hC1 (hR.th 0) rfl hF1
end ZMe
