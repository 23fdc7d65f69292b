/-! run of the model, whole. -/
section ZR3
variable {G : z_G} {h : z_H} {Q : z_O → z_H → Prop} {a : Nat} {m : z_MV} {x : z_PV}
theorem cM_run (hM : z_Mo h a m) (hR : z_Rel x m) (q : z_mQ (z_fRun x) h a Q) : z_W G 5 0 0 244 0 (z_L0 244 [.ref a]) [] h Q := by
  have hI := hR.inp
  have qw : ∀ fp, z_flt x.2.2.2.2.2.1 61 0 = some fp → z_mQ (1, 0, z_setF (z_setI x []) (nI fp)) h a Q := fun fp e => by
    unfold z_fRun at q
    rw [e] at q
    exact q
  have rn : z_flt x.2.2.2.2.2.1 61 0 = none → z_rnL x.2.2.2.2.2.1 61 0 0 x.1 = z_rnO (z_plO x.2.2.2.2.2.1 61 0) 0 x.1 := fun e => z_rnE 61 0 0 0 x.1 e (by
    rw [z_nx0E, if_neg]
    intro c
    have e2 := e
    rw [z_flt_s] at e2
    have e3 : z_rdO x.2.2.2.2.2.1 0 z_oN0 = (false, 0, z_oN0) := by
      unfold z_rdO
      rw [c, show z_knd 59 = none by decide]
    rw [e3, if_neg Bool.false_ne_true] at e2
    exact absurd e2 (by simp))
  have qok : z_flt x.2.2.2.2.2.1 61 0 = none → ∀ hh mm y3 y4 fp o, z_Mo hh a mm → z_Pm mm x.2.2.2.2.2.1 (true, fp, o) → x.2.2.2.2.2.1.length ≤ fp → z_onP m mm → z_Tl mm (z_plO x.2.2.2.2.2.1 61 0) → (z_plO x.2.2.2.2.2.1 61 0).length ≤ 40 → z_Fr a 9 h hh → z_W G 5 0 0 244 71 [.ref a, .int (nI (z_plO x.2.2.2.2.2.1 61 0).length), .int 0, y3, y4] [] hh Q := by
    intro e hh mm y3 y4 fp o hD hP hfp hO hT h40 hF
    obtain ⟨hI2, g17, g18, gp⟩ := hP
    have h60 := hI2.1.1
    have gp : fp ≤ x.2.2.2.2.2.1.length := gp
    have r17 : mm.1 17 = nI fp := g17
    have r18 : mm.1 18 = 0 := g18
    have qx : ∀ pr dn v, z_rnO (z_plO x.2.2.2.2.2.1 61 0) 0 x.1 = (some pr, dn, v) → z_mQ (2, 0, z_setF (z_setR (z_setI x []) (11, nI dn) pr) (-1)) h a Q := fun pr dn v er => by
      unfold z_fRun at q
      rw [e, rn e, er] at q
      exact q
    have qd : ∀ dn v, z_rnO (z_plO x.2.2.2.2.2.1 61 0) 0 x.1 = (none, dn, v) → z_mQ (0, nI dn, z_setF (z_setI (z_dune x v) []) (-1)) h a Q := fun dn v er => by
      unfold z_fRun at q
      rw [e, rn e, er] at q
      exact q
    refine z_aload_n rfl rfl ?_
    refine z_aload_n rfl rfl ?_
    refine z_get rfl hD.1 rfl ?_
    rw [r18]
    refine z_if_ne rfl (fun c76 => absurd rfl c76) (fun c76 => ?_)
    refine z_aload_n rfl rfl ?_
    refine z_get rfl hD.1 rfl ?_
    refine z_aload_n rfl rfl ?_
    refine z_get rfl hD.1 rfl ?_
    rw [r17, hI2.2.1]
    refine z_icmp_ge rfl (fun c87 => ?_) (fun c87 => absurd ((nI_leI (by omega) (by omega)).mpr (by omega)) c87)
    refine z_iconst (v := 0) rfl (by decide) ?_
    refine z_putM rfl hD (by decide) rfl rfl (fun h1 hC1 hF1 => ?_)
    refine z_aload_n rfl rfl ?_
    refine z_iconst (v := 0) rfl (by decide) ?_
    refine z_putM rfl hC1 (by decide) rfl rfl (fun h2 hC2 hF2 => ?_)
    refine z_aload_n rfl rfl ?_
    refine z_aload_n rfl rfl ?_
    refine z_get rfl hC2.1 rfl ?_
    refine z_if_eq rfl (fun c108 => ?_) (fun c108 => absurd (show (0 : Int32) = 0 from rfl) c108)
    refine z_iconst (v := (-1)) rfl (by decide) ?_
    refine z_putM rfl hC2 (by decide) rfl rfl (fun h3 hC3 hF3 => ?_)
    refine z_aload_n rfl rfl ?_
    refine z_get rfl hC3.1 rfl ?_
    refine z_if_eq rfl (fun c126 => ?_) (fun c126 => absurd (show (0 : Int32) = 0 from rfl) c126)
    refine z_aload_n rfl rfl ?_
    refine z_callV (av := []) rfl z_w167 hC3.1 rfl rfl rfl rfl rfl (Nat.le_of_ble_eq_true rfl) (Nat.le_of_ble_eq_true rfl) (Nat.le_of_ble_eq_true rfl) (Nat.le_of_ble_eq_true rfl) (cM_looksBack hC3 (fun h8 m8 hM8 e1 e2 e3 hF8 => ?_))
    refine z_iconst (v := nI 0) rfl (by decide) ?_
    refine z_istore_n rfl (by decide +kernel) rfl ?_
    have gF := hF.trans (((hF1.trans hF2).trans hF3).trans hF8)
    have i1 : ∀ i, m8.1 i = (if i = 9 then (-1 : Int32) else if i = 8 then 0 else if i = 18 then 0 else mm.1 i) := fun i => congrFun e1 i
    have j1 : ∀ j, j ≠ 2 → m8.2 j = mm.2 j := fun j hj => e2 j hj
    refine cM_runL (y2 := 0) h40 hR qx qd (z_plO x.2.2.2.2.2.1 61 0).length 0 x.1 (m8.2 1) m8 _ _ (by omega) rfl hM8.gf ?_ hR.1.1 ⟨fun i hi => ?_, ?_, ?_, fun j h1 h2 h8 => (j1 j h2).trans (hO.2 j h8), fun q hq => ?_⟩ (fun i hi => ?_) gF
    · rw [j1 1 (by decide), hO.2 1 (by decide)]; exact hR.1.2
    · rw [i1, if_neg (by omega), if_neg (by omega), if_neg (by omega)]; exact hO.1 i (by omega) (by omega)
    · rw [i1, if_neg (by decide), if_pos rfl]
    · rw [i1, if_pos rfl]
    · exact (e3 q hq).trans (congrFun (hO.2 1 (by decide)) q)
    · obtain ⟨vs, w1, w2⟩ := hT i hi
      exact ⟨vs, w1, fun j hj h4 => by rw [j1 8 (by decide)]; exact w2 j hj h4⟩
  refine z_aload_n rfl rfl ?_
  refine z_iconst (v := 0) rfl (by decide) ?_
  refine z_putM rfl hM (by decide) rfl rfl (fun h1 hC1 hF1 => ?_)
  refine z_aload_n rfl rfl ?_
  refine z_iconst (v := 0) rfl (by decide) ?_
  refine z_putM rfl hC1 (by decide) rfl rfl (fun h2 hC2 hF2 => ?_)
  refine z_iconst (v := nI 0) rfl (by decide) ?_
  refine z_istore_n rfl (by decide +kernel) rfl ?_
  refine z_iconst (v := 1) rfl (by decide) ?_
  refine z_istore_n rfl (by decide +kernel) rfl ?_
  exact cM_runP hR qok qw 61 0 [] _ _ z_oN0 _ _ (by omega) (Nat.le_refl _) rfl rfl hC2 (show z_Pm (z_mS (z_mS m 17 0) 18 0) x.2.2.2.2.2.1 (true, 0, z_oN0) from ⟨hI, rfl, rfl, Nat.zero_le _⟩) ⟨fun i h1 h2 => (if_neg h2).trans (if_neg h1), fun _ _ => rfl⟩ (fun i hi => absurd hi (Nat.not_lt_zero _)) (hF1.trans hF2)
end ZR3
