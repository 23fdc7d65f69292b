/-! The model's reading of an order, whole. -/
section ZKe2
variable {G : z_G} {h : z_H} {Q : z_O → z_H → Prop} {a K p : Nat} {m m0 : z_MV} {l : List Nat}
theorem cM_rO2 (hK : K + 3 < 240) (hM : z_Mo h a m) (hP : z_Pm m l (true, p, (2, 0, 0, 0, 0))) (hT : z_Ts m0 m K [nI 107]) (q : ∀ h' m' vs, z_Mo h' a m' → z_Pm m' l (z_bd (true, p, ((2, 0, 0, 0, 0) : z_OV)) (z_rdF l [101, 121, 32, 68, 32, 75])) → z_Ts m0 m' K vs → ((z_bd (true, p, ((2, 0, 0, 0, 0) : z_OV)) (z_rdF l [101, 121, 32, 68, 32, 75])).1 = true → z_Tv vs (z_bd (true, p, ((2, 0, 0, 0, 0) : z_OV)) (z_rdF l [101, 121, 32, 68, 32, 75])).2.2) → z_Fr a 9 h h' → Q (.inl none) h') : z_W G 4 0 0 241 205 [.ref a, .int (nI K), .int (nI 107)] [] h Q := by
  refine z_aload_n rfl rfl ?_
  refine z_iload_n rfl rfl ?_
  refine z_callV (av := [_]) rfl z_w239 hM.1 rfl rfl rfl rfl rfl (Nat.le_of_ble_eq_true rfl) (Nat.le_of_ble_eq_true rfl) (Nat.le_of_ble_eq_true rfl) (Nat.le_of_ble_eq_true rfl) (cM_readsKey hK rfl hM hP hT (fun ha m1 v1 v2 hM1 hP1 hT1 he hF1_ => ?_))
  refine z_goto rfl ?_
  refine z_vret rfl rfl ?_
  refine q _ _ _ hM1 hP1 hT1 (fun e => ?_) hF1_
  have e2 := (he e).trans ((congrArg (fun w => z_tk w v2) (z_tk0 2 0 0 0 v1)).trans (z_tk1 2 v1 0 0 v2))
  refine (congrArg (z_Tv _) e2).mpr ?_
  exact ⟨rfl, (show 2 < 10 by decide), fun _ => ⟨(show 1 < 3 by decide), rfl⟩, fun _ => ⟨(show 2 < 3 by decide), rfl⟩, fun e9 => absurd (show 2 = 5 from e9) (by decide), (show 0 < 3 by decide)⟩
theorem cM_rO6 (hK : K + 3 < 240) (hM : z_Mo h a m) (hP : z_Pm m l (true, p, (6, 0, 0, 0, 0))) (hT : z_Ts m0 m K [nI 97]) (q : ∀ h' m' vs, z_Mo h' a m' → z_Pm m' l (z_bd (true, p, ((6, 0, 0, 0, 0) : z_OV)) (z_rdF l [100, 106, 111, 117, 114, 110, 32, 68, 32, 78])) → z_Ts m0 m' K vs → ((z_bd (true, p, ((6, 0, 0, 0, 0) : z_OV)) (z_rdF l [100, 106, 111, 117, 114, 110, 32, 68, 32, 78])).1 = true → z_Tv vs (z_bd (true, p, ((6, 0, 0, 0, 0) : z_OV)) (z_rdF l [100, 106, 111, 117, 114, 110, 32, 68, 32, 78])).2.2) → z_Fr a 9 h h' → Q (.inl none) h') : z_W G 4 0 0 241 343 [.ref a, .int (nI K), .int (nI 97)] [] h Q := by
  refine z_aload_n rfl rfl ?_
  refine z_iload_n rfl rfl ?_
  refine z_callV (av := [_]) rfl z_w240 hM.1 rfl rfl rfl rfl rfl (Nat.le_of_ble_eq_true rfl) (Nat.le_of_ble_eq_true rfl) (Nat.le_of_ble_eq_true rfl) (Nat.le_of_ble_eq_true rfl) (cM_readsAdjourn hK rfl hM hP hT (fun ha m1 v1 v2 hM1 hP1 hT1 he hF1_ => ?_))
  refine z_goto rfl ?_
  refine z_vret rfl rfl ?_
  refine q _ _ _ hM1 hP1 hT1 (fun e => ?_) hF1_
  have e2 := (he e).trans ((congrArg (fun w => z_tk w v2) (z_tk0 6 0 0 0 v1)).trans (z_tk1 6 v1 0 0 v2))
  refine (congrArg (z_Tv _) e2).mpr ?_
  exact ⟨rfl, (show 6 < 10 by decide), fun _ => ⟨(show 1 < 3 by decide), rfl⟩, fun _ => ⟨(show 2 < 3 by decide), rfl⟩, fun e9 => absurd (show 6 = 5 from e9) (by decide), (show 0 < 3 by decide)⟩
theorem z_bdQ (l : List Nat) (s : z_PR) : z_bd s (z_rdF l [63, 32, 78]) = if s.1 = true then (if z_here l s.2.1 = 32 then z_bd (z_bd s (z_skp l 32)) (z_rdM 2 l) else (true, s.2.1, z_tk s.2.2 1)) else s := by
  obtain ⟨ok, p, o⟩ := s
  cases ok with
  | false => rfl
  | true =>
    show z_rdF l [63, 32, 78] p o = if z_here l p = 32 then z_bd (z_skp l 32 p o) (z_rdM 2 l) else (true, p, z_tk o 1)
    rw [z_rdF_cons, if_pos rfl]
    by_cases c : z_here l p = 32
    · rw [if_pos c, if_pos c]
      have e1 := z_bdF l 32 [78] (true, p, o) (by decide)
      have e2 := z_bdF l 78 [] (z_bd (true, p, o) (z_prt l 32)) (by decide)
      rw [z_bdN] at e2
      exact e1.trans e2
    · rw [if_neg c, if_neg c]
theorem cM_rO9 (hK : K + 3 < 240) (hM : z_Mo h a m) (hP : z_Pm m l (true, p, (9, 0, 0, 0, 0))) (hT : z_Ts m0 m K [nI 104]) (q : ∀ h' m' vs, z_Mo h' a m' → z_Pm m' l (z_bd (true, p, ((9, 0, 0, 0, 0) : z_OV)) (z_rdF l [111, 117, 114, 63, 32, 78])) → z_Ts m0 m' K vs → ((z_bd (true, p, ((9, 0, 0, 0, 0) : z_OV)) (z_rdF l [111, 117, 114, 63, 32, 78])).1 = true → z_Tv vs (z_bd (true, p, ((9, 0, 0, 0, 0) : z_OV)) (z_rdF l [111, 117, 114, 63, 32, 78])).2.2) → z_Fr a 9 h h' → Q (.inl none) h') : z_W G 4 0 0 241 390 [.ref a, .int (nI K), .int (nI 104)] [] h Q := by
  rw [z_bdF _ _ _ _ (by decide), z_bdF _ _ _ _ (by decide), z_bdF _ _ _ _ (by decide), z_bdQ] at q
  have e9 : (z_bd (z_bd (z_bd (true, p, ((9, 0, 0, 0, 0) : z_OV)) (z_prt l 111)) (z_prt l 117)) (z_prt l 114)).2.2 = (9, 0, 0, 0, 0) := by
    show (z_bd (z_bd (z_bd (true, p, ((9, 0, 0, 0, 0) : z_OV)) (z_skp l 111)) (z_skp l 117)) (z_skp l 114)).2.2 = _
    rw [z_bd_skp, z_bd_skp, z_bd_skp]
  have rest : ∀ (s3 : z_PR) (hh : z_H) (m1 : z_MV) (_ : s3.2.2 = (9, 0, 0, 0, 0)), z_Mo hh a m1 → z_Pm m1 l s3 → z_Ts m0 m1 K [nI 104] → z_Fr a 9 h hh → (∀ h' m' vs, z_Mo h' a m' → z_Pm m' l (if s3.1 = true then (if z_here l s3.2.1 = 32 then z_bd (z_bd s3 (z_skp l 32)) (z_rdM 2 l) else (true, s3.2.1, z_tk s3.2.2 1)) else s3) → z_Ts m0 m' K vs → ((if s3.1 = true then (if z_here l s3.2.1 = 32 then z_bd (z_bd s3 (z_skp l 32)) (z_rdM 2 l) else (true, s3.2.1, z_tk s3.2.2 1)) else s3).1 = true → z_Tv vs (if s3.1 = true then (if z_here l s3.2.1 = 32 then z_bd (z_bd s3 (z_skp l 32)) (z_rdM 2 l) else (true, s3.2.1, z_tk s3.2.2 1)) else s3).2.2) → z_Fr a 9 h h' → Q (.inl none) h') → z_W G 4 0 0 241 400 [.ref a, .int (nI K), .int (nI 104)] [] hh Q := by
    intro s3 hh m1 hs hD hP1 hT1 hF hq
    obtain ⟨ok, q0, o⟩ := s3
    have hs : o = (9, 0, 0, 0, 0) := hs
    subst hs
    have hI : z_In m1 l := hP1.1
    have h60 := hI.1.1
    have hle : q0 ≤ l.length := hP1.2.2.2
    have g17 : m1.1 17 = nI q0 := hP1.2.1
    cases ok with
    | false =>
      have g18 : m1.1 18 = 1 := hP1.2.2.1
      rw [if_neg Bool.false_ne_true] at hq
      refine z_aload_n rfl rfl ?_
      refine z_get rfl hD.1 rfl ?_
      refine z_iload_n rfl rfl ?_
      refine z_iconst (v := 1) rfl (by decide) ?_
      refine z_iadd rfl ?_
      refine z_aload_n rfl rfl ?_
      refine z_get rfl hD.1 rfl ?_
      rw [g18]
      refine z_if_ne rfl (fun c411 => ?_) (fun c411 => absurd c411 (by decide))
      refine z_iconst (v := 1) rfl (by decide) ?_
      refine z_istM (j := 8) rfl hD (by decide) (k := K + 1) (nI_1 K) (show K + 1 < 240 by omega) (fun h1 hC1 hF1 => ?_)
      refine z_goto rfl ?_
      refine z_vret rfl rfl ?_
      exact hq _ _ _ hC1 hP1 (hT1.put (v := 1) ⟨fun _ _ _ => rfl, rfl⟩ (by rfl)) (fun e => Bool.noConfusion e) (hF.trans hF1)
    | true =>
      have g18 : m1.1 18 = 0 := hP1.2.2.1
      rw [if_pos rfl] at hq
      by_cases c : z_here l q0 = 32
      · have hq2 : ∀ h' m' vs, z_Mo h' a m' → z_Pm m' l (z_bd (z_bd (true, q0, ((9, 0, 0, 0, 0) : z_OV)) (z_skp l 32)) (z_rdM 2 l)) → z_Ts m0 m' K vs → ((z_bd (z_bd (true, q0, ((9, 0, 0, 0, 0) : z_OV)) (z_skp l 32)) (z_rdM 2 l)).1 = true → z_Tv vs (z_bd (z_bd (true, q0, ((9, 0, 0, 0, 0) : z_OV)) (z_skp l 32)) (z_rdM 2 l)).2.2) → z_Fr a 9 h h' → Q (.inl none) h' := by
          have e0 : (if z_here l ((true, q0, ((9, 0, 0, 0, 0) : z_OV)) : z_PR).2.1 = 32 then z_bd (z_bd (true, q0, ((9, 0, 0, 0, 0) : z_OV)) (z_skp l 32)) (z_rdM 2 l) else (true, q0, z_tk (9, 0, 0, 0, 0) 1)) = z_bd (z_bd (true, q0, ((9, 0, 0, 0, 0) : z_OV)) (z_skp l 32)) (z_rdM 2 l) := if_pos c
          rw [e0] at hq
          exact hq
        refine z_aload_n rfl rfl ?_
        refine z_get rfl hD.1 rfl ?_
        refine z_iload_n rfl rfl ?_
        refine z_iconst (v := 1) rfl (by decide) ?_
        refine z_iadd rfl ?_
        refine z_aload_n rfl rfl ?_
        refine z_get rfl hD.1 rfl ?_
        rw [g18]
        refine z_if_ne rfl (fun c411 => absurd rfl c411) (fun c411 => ?_)
        refine z_aload_n rfl rfl ?_
        refine z_callV (av := []) rfl z_w235 hD.1 rfl rfl rfl rfl rfl (Nat.le_of_ble_eq_true rfl) (Nat.le_of_ble_eq_true rfl) (Nat.le_of_ble_eq_true rfl) (Nat.le_of_ble_eq_true rfl) (cM_here hD hI g17 (by omega) ?_)
        refine z_bipush (v := 32) rfl (by decide) ?_
        refine z_icmp_ne rfl (fun c420 => absurd ((z_hrE hI.1 (c := 32) (by decide) (by decide)).mpr c) c420) (fun c420 => ?_)
        refine z_aload_n rfl rfl ?_
        refine z_iconst (v := 2) rfl (by decide) ?_
        refine z_callV (av := [_]) rfl z_w238 hD.1 rfl rfl rfl rfl rfl (Nat.le_of_ble_eq_true rfl) (Nat.le_of_ble_eq_true rfl) (Nat.le_of_ble_eq_true rfl) (Nat.le_of_ble_eq_true rfl) (cM_figures (s := (true, q0, (9, 0, 0, 0, 0))) (t := 2) (Or.inr rfl) hD hP1 (fun hc m3 v1 hM3 hP3 hv3 r3 hF3_ => ?_))
        refine z_goto rfl ?_
        refine z_istM (j := 8) rfl hM3 (by decide) (k := K + 1) (nI_1 K) (show K + 1 < 240 by omega) (fun h1 hC1 hF1 => ?_)
        refine z_goto rfl ?_
        refine z_vret rfl rfl ?_
        refine hq2 _ _ _ hC1 hP3 (hT1.put (v := v1) r3 (by rfl)) (fun e => ?_) (hF.trans (hF3_.trans hF1))
        have e3 := hv3 e
        rw [z_bd_skp] at e3
        replace e3 := e3.trans (z_tk0 9 0 0 0 v1)
        refine (congrArg (z_Tv _) e3).mpr ?_
        exact ⟨rfl, (show 9 < 10 by decide), fun _ => ⟨(show 1 < 2 by decide), rfl⟩, fun e9 => by have e9 : 9 = 0 ∨ 9 = 2 ∨ 9 = 3 ∨ 9 = 4 ∨ 9 = 5 ∨ 9 = 6 := e9; omega, fun e9 => absurd (show 9 = 5 from e9) (by decide), (show 0 < 2 by decide)⟩
      · have hq2 : ∀ h' m' vs, z_Mo h' a m' → z_Pm m' l (true, q0, z_tk (9, 0, 0, 0, 0) 1) → z_Ts m0 m' K vs → (true = true → z_Tv vs (z_tk (9, 0, 0, 0, 0) 1)) → z_Fr a 9 h h' → Q (.inl none) h' := by
          have e0 : (if z_here l ((true, q0, ((9, 0, 0, 0, 0) : z_OV)) : z_PR).2.1 = 32 then z_bd (z_bd (true, q0, ((9, 0, 0, 0, 0) : z_OV)) (z_skp l 32)) (z_rdM 2 l) else (true, q0, z_tk (9, 0, 0, 0, 0) 1)) = (true, q0, z_tk (9, 0, 0, 0, 0) 1) := if_neg c
          rw [e0] at hq
          exact hq
        refine z_aload_n rfl rfl ?_
        refine z_get rfl hD.1 rfl ?_
        refine z_iload_n rfl rfl ?_
        refine z_iconst (v := 1) rfl (by decide) ?_
        refine z_iadd rfl ?_
        refine z_aload_n rfl rfl ?_
        refine z_get rfl hD.1 rfl ?_
        rw [g18]
        refine z_if_ne rfl (fun c411 => absurd rfl c411) (fun c411 => ?_)
        refine z_aload_n rfl rfl ?_
        refine z_callV (av := []) rfl z_w235 hD.1 rfl rfl rfl rfl rfl (Nat.le_of_ble_eq_true rfl) (Nat.le_of_ble_eq_true rfl) (Nat.le_of_ble_eq_true rfl) (Nat.le_of_ble_eq_true rfl) (cM_here hD hI g17 (by omega) ?_)
        refine z_bipush (v := 32) rfl (by decide) ?_
        refine z_icmp_ne rfl (fun c420 => ?_) (fun c420 => absurd c420 (fun q9 => c ((z_hrE hI.1 (c := 32) (by decide) (by decide)).mp q9)))
        refine z_iconst (v := 1) rfl (by decide) ?_
        refine z_istM (j := 8) rfl hD (by decide) (k := K + 1) (nI_1 K) (show K + 1 < 240 by omega) (fun h1 hC1 hF1 => ?_)
        refine z_goto rfl ?_
        refine z_vret rfl rfl ?_
        refine hq2 _ _ _ hC1 (show z_Pm m1 l (true, q0, z_tk (9, 0, 0, 0, 0) 1) from ⟨hI, g17, g18, hle⟩) (hT1.put (v := 1) ⟨fun _ _ _ => rfl, rfl⟩ (by rfl)) (fun e => ?_) (hF.trans hF1)
        refine (congrArg (z_Tv _) (z_tk0 9 0 0 0 1)).mpr ?_
        exact ⟨rfl, (show 9 < 10 by decide), fun _ => ⟨(show 1 < 2 by decide), rfl⟩, fun e9 => by have e9 : 9 = 0 ∨ 9 = 2 ∨ 9 = 3 ∨ 9 = 4 ∨ 9 = 5 ∨ 9 = 6 := e9; omega, fun e9 => absurd (show 9 = 5 from e9) (by decide), (show 0 < 2 by decide)⟩
  refine z_aload_n rfl rfl ?_
  refine z_bipush (v := 111) rfl (by decide) ?_
  refine z_bipush (v := 117) rfl (by decide) ?_
  refine z_bipush (v := 114) rfl (by decide) ?_
  refine z_callV (av := [_, _, _]) rfl z_w237 hM.1 rfl rfl rfl rfl rfl (Nat.le_of_ble_eq_true rfl) (Nat.le_of_ble_eq_true rfl) (Nat.le_of_ble_eq_true rfl) (Nat.le_of_ble_eq_true rfl) (cM_needsThree (c := 111) (d := 117) (e := 114) (by decide) (by decide) (by decide) hM hP (fun ha m1 hM1 hP1 r1 hF1_ => ?_))
  exact rest _ _ m1 e9 hM1 hP1 (hT.on r1) hF1_ q
end ZKe2
