/-! The model's reading of an order, kind by kind. -/
def z_Tv (vs : List Int32) (o : z_OV) : Prop := vs.getD 0 0 = nI ((z_frm o.1).getD 0 0) ∧ o.1 < 10 ∧ (o.1 ≠ 8 → 1 < vs.length ∧ vs.getD 1 0 = o.2.1) ∧ ((o.1 = 0 ∨ o.1 = 2 ∨ o.1 = 3 ∨ o.1 = 4 ∨ o.1 = 5 ∨ o.1 = 6) → 2 < vs.length ∧ vs.getD 2 0 = o.2.2.1) ∧ (o.1 = 5 → 3 < vs.length ∧ vs.getD 3 0 = o.2.2.2.1) ∧ 0 < vs.length
theorem z_tk0 (k : Nat) (a b c v : Int32) : z_tk (k, a, b, c, 0) v = (k, v, b, c, 1) := by
  unfold z_tk
  rw [if_pos rfl]
  rfl
theorem z_tk1 (k : Nat) (a b c v : Int32) : z_tk (k, a, b, c, 1) v = (k, a, v, c, 2) := by
  unfold z_tk
  rw [if_neg (show ¬ (1 : Int32) = 0 by decide), if_pos rfl]
  rfl
theorem z_tk2 (k : Nat) (a b c v : Int32) : z_tk (k, a, b, c, 2) v = (k, a, b, v, 3) := by
  unfold z_tk
  rw [if_neg (show ¬ (2 : Int32) = 0 by decide), if_neg (show ¬ (2 : Int32) = 1 by decide)]
  rfl
section ZKd
variable {G : z_G} {h : z_H} {Q : z_O → z_H → Prop} {a K p : Nat} {m m0 : z_MV} {l : List Nat}
theorem cM_rO0 (hK : K + 3 < 240) (hM : z_Mo h a m) (hP : z_Pm m l (true, p, (0, 0, 0, 0, 0))) (hT : z_Ts m0 m K [nI 99]) (q : ∀ h' m' vs, z_Mo h' a m' → z_Pm m' l (z_bd (true, p, ((0, 0, 0, 0, 0) : z_OV)) (z_rdF l [108, 111, 99, 107, 32, 78, 32, 68])) → z_Ts m0 m' K vs → ((z_bd (true, p, ((0, 0, 0, 0, 0) : z_OV)) (z_rdF l [108, 111, 99, 107, 32, 78, 32, 68])).1 = true → z_Tv vs (z_bd (true, p, ((0, 0, 0, 0, 0) : z_OV)) (z_rdF l [108, 111, 99, 107, 32, 78, 32, 68])).2.2) → z_Fr a 9 h h' → Q (.inl none) h') : z_W G 4 0 0 241 128 [.ref a, .int (nI K), .int (nI 99)] [] h Q := by
  rw [z_bdF _ _ _ _ (by decide), z_bdF _ _ _ _ (by decide), z_bdF _ _ _ _ (by decide), z_bdF _ _ _ _ (by decide), z_bdF _ _ _ _ (by decide), z_bdF _ _ _ _ (by decide), z_bdF _ _ _ _ (by decide), z_bdF _ _ _ _ (by decide), z_bdN] at q
  refine z_aload_n rfl rfl ?_
  refine z_bipush (v := 108) rfl (by decide) ?_
  refine z_bipush (v := 111) rfl (by decide) ?_
  refine z_bipush (v := 99) rfl (by decide) ?_
  refine z_callV (av := [_, _, _]) rfl z_w237 hM.1 rfl rfl rfl rfl rfl (Nat.le_of_ble_eq_true rfl) (Nat.le_of_ble_eq_true rfl) (Nat.le_of_ble_eq_true rfl) (Nat.le_of_ble_eq_true rfl) (cM_needsThree (c := 108) (d := 111) (e := 99) (by decide) (by decide) (by decide) hM hP (fun ha m1 hM1 hP1 r1 hF1_ => ?_))
  refine z_aload_n rfl rfl ?_
  refine z_bipush (v := 107) rfl (by decide) ?_
  refine z_callV (av := [_]) rfl z_w236 hM1.1 rfl rfl rfl rfl rfl (Nat.le_of_ble_eq_true rfl) (Nat.le_of_ble_eq_true rfl) (Nat.le_of_ble_eq_true rfl) (Nat.le_of_ble_eq_true rfl) (cM_needs (c := 107) (by decide) (by decide) hM1 hP1 (fun hb m2 hM2 hP2 r2 hF2_ => ?_))
  refine z_aload_n rfl rfl ?_
  refine z_get rfl hM2.1 rfl ?_
  refine z_iload_n rfl rfl ?_
  refine z_iconst (v := 1) rfl (by decide) ?_
  refine z_iadd rfl ?_
  refine z_aload_n rfl rfl ?_
  refine z_iconst (v := 2) rfl (by decide) ?_
  refine z_callV (av := [_]) rfl z_w238 hM2.1 rfl rfl rfl rfl rfl (Nat.le_of_ble_eq_true rfl) (Nat.le_of_ble_eq_true rfl) (Nat.le_of_ble_eq_true rfl) (Nat.le_of_ble_eq_true rfl) (cM_figures (t := 2) (Or.inr rfl) hM2 hP2 (fun hc mc v1 hMc hPc hvc rc hFc_ => ?_))
  refine z_istM (j := 8) rfl hMc (by decide) (k := K + 1) (nI_1 K) (show K + 1 < 240 by omega) (fun h1 hC1 hF1 => ?_)
  have T1 := hT.put (v := v1) (r1.trans (r2.trans rc)) (n := K + 1) (by rfl)
  refine z_aload_n rfl rfl ?_
  refine z_get rfl hC1.1 rfl ?_
  refine z_iload_n rfl rfl ?_
  refine z_iconst (v := 2) rfl (by decide) ?_
  refine z_iadd rfl ?_
  refine z_aload_n rfl rfl ?_
  refine z_iconst (v := 1) rfl (by decide) ?_
  refine z_callV (av := [_]) rfl z_w238 hC1.1 rfl rfl rfl rfl rfl (Nat.le_of_ble_eq_true rfl) (Nat.le_of_ble_eq_true rfl) (Nat.le_of_ble_eq_true rfl) (Nat.le_of_ble_eq_true rfl) (cM_figures (t := 1) (Or.inl rfl) hC1 hPc (fun hd md v2 hMd hPd hvd rd hFd_ => ?_))
  refine z_istM (j := 8) rfl hMd (by decide) (k := K + 2) (nI_add K 2) (show K + 2 < 240 by omega) (fun h2 hC2 hF2 => ?_)
  have T2 := T1.put (v := v2) rd (n := K + 2) (by rfl)
  refine z_goto rfl ?_
  refine z_vret rfl rfl ?_
  refine q _ _ ([nI 99] ++ [v1] ++ [v2]) hC2 hPd T2 (fun e => ?_) (hF1_.trans (hF2_.trans (hFc_.trans (hF1.trans (hFd_.trans hF2)))))
  have e2 := hvd e
  have e1 := hvc (z_bd_ok (z_bd_ok e))
  rw [z_bd_skp, z_bd_skp, z_bd_skp, z_bd_skp, z_bd_skp] at e1
  rw [z_bd_skp] at e2
  replace e1 := e1.trans (z_tk0 0 0 0 0 v1)
  replace e2 := e2.trans ((congrArg (fun w => z_tk w v2) e1).trans (z_tk1 0 v1 0 0 v2))
  refine (congrArg (z_Tv _) e2).mpr ?_
  exact ⟨rfl, (show 0 < 10 by decide), fun _ => ⟨(show 1 < 3 by decide), rfl⟩, fun _ => ⟨(show 2 < 3 by decide), rfl⟩, fun e9 => absurd (show 0 = 5 from e9) (by decide), (show 0 < 3 by decide)⟩
theorem cM_rO1 (hK : K + 3 < 240) (hM : z_Mo h a m) (hP : z_Pm m l (true, p, (1, 0, 0, 0, 0))) (hT : z_Ts m0 m K [nI 108]) (q : ∀ h' m' vs, z_Mo h' a m' → z_Pm m' l (z_bd (true, p, ((1, 0, 0, 0, 0) : z_OV)) (z_rdF l [101, 97, 118, 101, 32, 68])) → z_Ts m0 m' K vs → ((z_bd (true, p, ((1, 0, 0, 0, 0) : z_OV)) (z_rdF l [101, 97, 118, 101, 32, 68])).1 = true → z_Tv vs (z_bd (true, p, ((1, 0, 0, 0, 0) : z_OV)) (z_rdF l [101, 97, 118, 101, 32, 68])).2.2) → z_Fr a 9 h h' → Q (.inl none) h') : z_W G 4 0 0 241 173 [.ref a, .int (nI K), .int (nI 108)] [] h Q := by
  rw [z_bdF _ _ _ _ (by decide), z_bdF _ _ _ _ (by decide), z_bdF _ _ _ _ (by decide), z_bdF _ _ _ _ (by decide), z_bdF _ _ _ _ (by decide), z_bdF _ _ _ _ (by decide), z_bdN] at q
  refine z_aload_n rfl rfl ?_
  refine z_bipush (v := 101) rfl (by decide) ?_
  refine z_bipush (v := 97) rfl (by decide) ?_
  refine z_bipush (v := 118) rfl (by decide) ?_
  refine z_callV (av := [_, _, _]) rfl z_w237 hM.1 rfl rfl rfl rfl rfl (Nat.le_of_ble_eq_true rfl) (Nat.le_of_ble_eq_true rfl) (Nat.le_of_ble_eq_true rfl) (Nat.le_of_ble_eq_true rfl) (cM_needsThree (c := 101) (d := 97) (e := 118) (by decide) (by decide) (by decide) hM hP (fun ha m1 hM1 hP1 r1 hF1_ => ?_))
  refine z_aload_n rfl rfl ?_
  refine z_bipush (v := 101) rfl (by decide) ?_
  refine z_callV (av := [_]) rfl z_w236 hM1.1 rfl rfl rfl rfl rfl (Nat.le_of_ble_eq_true rfl) (Nat.le_of_ble_eq_true rfl) (Nat.le_of_ble_eq_true rfl) (Nat.le_of_ble_eq_true rfl) (cM_needs (c := 101) (by decide) (by decide) hM1 hP1 (fun hb m2 hM2 hP2 r2 hF2_ => ?_))
  refine z_aload_n rfl rfl ?_
  refine z_get rfl hM2.1 rfl ?_
  refine z_iload_n rfl rfl ?_
  refine z_iconst (v := 1) rfl (by decide) ?_
  refine z_iadd rfl ?_
  refine z_aload_n rfl rfl ?_
  refine z_iconst (v := 1) rfl (by decide) ?_
  refine z_callV (av := [_]) rfl z_w238 hM2.1 rfl rfl rfl rfl rfl (Nat.le_of_ble_eq_true rfl) (Nat.le_of_ble_eq_true rfl) (Nat.le_of_ble_eq_true rfl) (Nat.le_of_ble_eq_true rfl) (cM_figures (t := 1) (Or.inl rfl) hM2 hP2 (fun hc mc v1 hMc hPc hvc rc hFc_ => ?_))
  refine z_istM (j := 8) rfl hMc (by decide) (k := K + 1) (nI_1 K) (show K + 1 < 240 by omega) (fun h1 hC1 hF1 => ?_)
  have T1 := hT.put (v := v1) (r1.trans (r2.trans rc)) (n := K + 1) (by rfl)
  refine z_goto rfl ?_
  refine z_vret rfl rfl ?_
  refine q _ _ ([nI 108] ++ [v1]) hC1 hPc T1 (fun e => ?_) (hF1_.trans (hF2_.trans (hFc_.trans hF1)))
  have e1 := hvc e
  rw [z_bd_skp, z_bd_skp, z_bd_skp, z_bd_skp, z_bd_skp] at e1
  replace e1 := e1.trans (z_tk0 1 0 0 0 v1)
  refine (congrArg (z_Tv _) e1).mpr ?_
  exact ⟨rfl, (show 1 < 10 by decide), fun _ => ⟨(show 1 < 2 by decide), rfl⟩, fun e9 => by have e9 : 1 = 0 ∨ 1 = 2 ∨ 1 = 3 ∨ 1 = 4 ∨ 1 = 5 ∨ 1 = 6 := e9; omega, fun e9 => absurd (show 1 = 5 from e9) (by decide), (show 0 < 2 by decide)⟩
theorem cM_rO3 (hK : K + 3 < 240) (hM : z_Mo h a m) (hP : z_Pm m l (true, p, (3, 0, 0, 0, 0))) (hT : z_Ts m0 m K [nI 119]) (q : ∀ h' m' vs, z_Mo h' a m' → z_Pm m' l (z_bd (true, p, ((3, 0, 0, 0, 0) : z_OV)) (z_rdF l [105, 110, 100, 32, 68, 32, 68])) → z_Ts m0 m' K vs → ((z_bd (true, p, ((3, 0, 0, 0, 0) : z_OV)) (z_rdF l [105, 110, 100, 32, 68, 32, 68])).1 = true → z_Tv vs (z_bd (true, p, ((3, 0, 0, 0, 0) : z_OV)) (z_rdF l [105, 110, 100, 32, 68, 32, 68])).2.2) → z_Fr a 9 h h' → Q (.inl none) h') : z_W G 4 0 0 241 213 [.ref a, .int (nI K), .int (nI 119)] [] h Q := by
  rw [z_bdF _ _ _ _ (by decide), z_bdF _ _ _ _ (by decide), z_bdF _ _ _ _ (by decide), z_bdF _ _ _ _ (by decide), z_bdF _ _ _ _ (by decide), z_bdF _ _ _ _ (by decide), z_bdF _ _ _ _ (by decide), z_bdN] at q
  refine z_aload_n rfl rfl ?_
  refine z_bipush (v := 105) rfl (by decide) ?_
  refine z_bipush (v := 110) rfl (by decide) ?_
  refine z_bipush (v := 100) rfl (by decide) ?_
  refine z_callV (av := [_, _, _]) rfl z_w237 hM.1 rfl rfl rfl rfl rfl (Nat.le_of_ble_eq_true rfl) (Nat.le_of_ble_eq_true rfl) (Nat.le_of_ble_eq_true rfl) (Nat.le_of_ble_eq_true rfl) (cM_needsThree (c := 105) (d := 110) (e := 100) (by decide) (by decide) (by decide) hM hP (fun ha m1 hM1 hP1 r1 hF1_ => ?_))
  refine z_aload_n rfl rfl ?_
  refine z_get rfl hM1.1 rfl ?_
  refine z_iload_n rfl rfl ?_
  refine z_iconst (v := 1) rfl (by decide) ?_
  refine z_iadd rfl ?_
  refine z_aload_n rfl rfl ?_
  refine z_iconst (v := 1) rfl (by decide) ?_
  refine z_callV (av := [_]) rfl z_w238 hM1.1 rfl rfl rfl rfl rfl (Nat.le_of_ble_eq_true rfl) (Nat.le_of_ble_eq_true rfl) (Nat.le_of_ble_eq_true rfl) (Nat.le_of_ble_eq_true rfl) (cM_figures (t := 1) (Or.inl rfl) hM1 hP1 (fun hc mc v1 hMc hPc hvc rc hFc_ => ?_))
  refine z_istM (j := 8) rfl hMc (by decide) (k := K + 1) (nI_1 K) (show K + 1 < 240 by omega) (fun h1 hC1 hF1 => ?_)
  have T1 := hT.put (v := v1) (r1.trans rc) (n := K + 1) (by rfl)
  refine z_aload_n rfl rfl ?_
  refine z_get rfl hC1.1 rfl ?_
  refine z_iload_n rfl rfl ?_
  refine z_iconst (v := 2) rfl (by decide) ?_
  refine z_iadd rfl ?_
  refine z_aload_n rfl rfl ?_
  refine z_iconst (v := 1) rfl (by decide) ?_
  refine z_callV (av := [_]) rfl z_w238 hC1.1 rfl rfl rfl rfl rfl (Nat.le_of_ble_eq_true rfl) (Nat.le_of_ble_eq_true rfl) (Nat.le_of_ble_eq_true rfl) (Nat.le_of_ble_eq_true rfl) (cM_figures (t := 1) (Or.inl rfl) hC1 hPc (fun hd md v2 hMd hPd hvd rd hFd_ => ?_))
  refine z_istM (j := 8) rfl hMd (by decide) (k := K + 2) (nI_add K 2) (show K + 2 < 240 by omega) (fun h2 hC2 hF2 => ?_)
  have T2 := T1.put (v := v2) rd (n := K + 2) (by rfl)
  refine z_goto rfl ?_
  refine z_vret rfl rfl ?_
  refine q _ _ ([nI 119] ++ [v1] ++ [v2]) hC2 hPd T2 (fun e => ?_) (hF1_.trans (hFc_.trans (hF1.trans (hFd_.trans hF2))))
  have e2 := hvd e
  have e1 := hvc (z_bd_ok (z_bd_ok e))
  rw [z_bd_skp, z_bd_skp, z_bd_skp, z_bd_skp] at e1
  rw [z_bd_skp] at e2
  replace e1 := e1.trans (z_tk0 3 0 0 0 v1)
  replace e2 := e2.trans ((congrArg (fun w => z_tk w v2) e1).trans (z_tk1 3 v1 0 0 v2))
  refine (congrArg (z_Tv _) e2).mpr ?_
  exact ⟨rfl, (show 3 < 10 by decide), fun _ => ⟨(show 1 < 3 by decide), rfl⟩, fun _ => ⟨(show 2 < 3 by decide), rfl⟩, fun e9 => absurd (show 3 = 5 from e9) (by decide), (show 0 < 3 by decide)⟩
theorem cM_rO4 (hK : K + 3 < 240) (hM : z_Mo h a m) (hP : z_Pm m l (true, p, (4, 0, 0, 0, 0))) (hT : z_Ts m0 m K [nI 109]) (q : ∀ h' m' vs, z_Mo h' a m' → z_Pm m' l (z_bd (true, p, ((4, 0, 0, 0, 0) : z_OV)) (z_rdF l [111, 118, 101, 32, 68, 32, 78])) → z_Ts m0 m' K vs → ((z_bd (true, p, ((4, 0, 0, 0, 0) : z_OV)) (z_rdF l [111, 118, 101, 32, 68, 32, 78])).1 = true → z_Tv vs (z_bd (true, p, ((4, 0, 0, 0, 0) : z_OV)) (z_rdF l [111, 118, 101, 32, 68, 32, 78])).2.2) → z_Fr a 9 h h' → Q (.inl none) h') : z_W G 4 0 0 241 252 [.ref a, .int (nI K), .int (nI 109)] [] h Q := by
  rw [z_bdF _ _ _ _ (by decide), z_bdF _ _ _ _ (by decide), z_bdF _ _ _ _ (by decide), z_bdF _ _ _ _ (by decide), z_bdF _ _ _ _ (by decide), z_bdF _ _ _ _ (by decide), z_bdF _ _ _ _ (by decide), z_bdN] at q
  refine z_aload_n rfl rfl ?_
  refine z_bipush (v := 111) rfl (by decide) ?_
  refine z_bipush (v := 118) rfl (by decide) ?_
  refine z_bipush (v := 101) rfl (by decide) ?_
  refine z_callV (av := [_, _, _]) rfl z_w237 hM.1 rfl rfl rfl rfl rfl (Nat.le_of_ble_eq_true rfl) (Nat.le_of_ble_eq_true rfl) (Nat.le_of_ble_eq_true rfl) (Nat.le_of_ble_eq_true rfl) (cM_needsThree (c := 111) (d := 118) (e := 101) (by decide) (by decide) (by decide) hM hP (fun ha m1 hM1 hP1 r1 hF1_ => ?_))
  refine z_aload_n rfl rfl ?_
  refine z_get rfl hM1.1 rfl ?_
  refine z_iload_n rfl rfl ?_
  refine z_iconst (v := 1) rfl (by decide) ?_
  refine z_iadd rfl ?_
  refine z_aload_n rfl rfl ?_
  refine z_iconst (v := 1) rfl (by decide) ?_
  refine z_callV (av := [_]) rfl z_w238 hM1.1 rfl rfl rfl rfl rfl (Nat.le_of_ble_eq_true rfl) (Nat.le_of_ble_eq_true rfl) (Nat.le_of_ble_eq_true rfl) (Nat.le_of_ble_eq_true rfl) (cM_figures (t := 1) (Or.inl rfl) hM1 hP1 (fun hc mc v1 hMc hPc hvc rc hFc_ => ?_))
  refine z_istM (j := 8) rfl hMc (by decide) (k := K + 1) (nI_1 K) (show K + 1 < 240 by omega) (fun h1 hC1 hF1 => ?_)
  have T1 := hT.put (v := v1) (r1.trans rc) (n := K + 1) (by rfl)
  refine z_aload_n rfl rfl ?_
  refine z_get rfl hC1.1 rfl ?_
  refine z_iload_n rfl rfl ?_
  refine z_iconst (v := 2) rfl (by decide) ?_
  refine z_iadd rfl ?_
  refine z_aload_n rfl rfl ?_
  refine z_iconst (v := 2) rfl (by decide) ?_
  refine z_callV (av := [_]) rfl z_w238 hC1.1 rfl rfl rfl rfl rfl (Nat.le_of_ble_eq_true rfl) (Nat.le_of_ble_eq_true rfl) (Nat.le_of_ble_eq_true rfl) (Nat.le_of_ble_eq_true rfl) (cM_figures (t := 2) (Or.inr rfl) hC1 hPc (fun hd md v2 hMd hPd hvd rd hFd_ => ?_))
  refine z_istM (j := 8) rfl hMd (by decide) (k := K + 2) (nI_add K 2) (show K + 2 < 240 by omega) (fun h2 hC2 hF2 => ?_)
  have T2 := T1.put (v := v2) rd (n := K + 2) (by rfl)
  refine z_goto rfl ?_
  refine z_vret rfl rfl ?_
  refine q _ _ ([nI 109] ++ [v1] ++ [v2]) hC2 hPd T2 (fun e => ?_) (hF1_.trans (hFc_.trans (hF1.trans (hFd_.trans hF2))))
  have e2 := hvd e
  have e1 := hvc (z_bd_ok (z_bd_ok e))
  rw [z_bd_skp, z_bd_skp, z_bd_skp, z_bd_skp] at e1
  rw [z_bd_skp] at e2
  replace e1 := e1.trans (z_tk0 4 0 0 0 v1)
  replace e2 := e2.trans ((congrArg (fun w => z_tk w v2) e1).trans (z_tk1 4 v1 0 0 v2))
  refine (congrArg (z_Tv _) e2).mpr ?_
  exact ⟨rfl, (show 4 < 10 by decide), fun _ => ⟨(show 1 < 3 by decide), rfl⟩, fun _ => ⟨(show 2 < 3 by decide), rfl⟩, fun e9 => absurd (show 4 = 5 from e9) (by decide), (show 0 < 3 by decide)⟩
theorem cM_rO5 (hK : K + 3 < 240) (hM : z_Mo h a m) (hP : z_Pm m l (true, p, (5, 0, 0, 0, 0))) (hT : z_Ts m0 m K [nI 98]) (q : ∀ h' m' vs, z_Mo h' a m' → z_Pm m' l (z_bd (true, p, ((5, 0, 0, 0, 0) : z_OV)) (z_rdF l [105, 108, 108, 32, 68, 32, 78, 32, 68])) → z_Ts m0 m' K vs → ((z_bd (true, p, ((5, 0, 0, 0, 0) : z_OV)) (z_rdF l [105, 108, 108, 32, 68, 32, 78, 32, 68])).1 = true → z_Tv vs (z_bd (true, p, ((5, 0, 0, 0, 0) : z_OV)) (z_rdF l [105, 108, 108, 32, 68, 32, 78, 32, 68])).2.2) → z_Fr a 9 h h' → Q (.inl none) h') : z_W G 4 0 0 241 291 [.ref a, .int (nI K), .int (nI 98)] [] h Q := by
  rw [z_bdF _ _ _ _ (by decide), z_bdF _ _ _ _ (by decide), z_bdF _ _ _ _ (by decide), z_bdF _ _ _ _ (by decide), z_bdF _ _ _ _ (by decide), z_bdF _ _ _ _ (by decide), z_bdF _ _ _ _ (by decide), z_bdF _ _ _ _ (by decide), z_bdF _ _ _ _ (by decide), z_bdN] at q
  refine z_aload_n rfl rfl ?_
  refine z_bipush (v := 105) rfl (by decide) ?_
  refine z_bipush (v := 108) rfl (by decide) ?_
  refine z_bipush (v := 108) rfl (by decide) ?_
  refine z_callV (av := [_, _, _]) rfl z_w237 hM.1 rfl rfl rfl rfl rfl (Nat.le_of_ble_eq_true rfl) (Nat.le_of_ble_eq_true rfl) (Nat.le_of_ble_eq_true rfl) (Nat.le_of_ble_eq_true rfl) (cM_needsThree (c := 105) (d := 108) (e := 108) (by decide) (by decide) (by decide) hM hP (fun ha m1 hM1 hP1 r1 hF1_ => ?_))
  refine z_aload_n rfl rfl ?_
  refine z_get rfl hM1.1 rfl ?_
  refine z_iload_n rfl rfl ?_
  refine z_iconst (v := 1) rfl (by decide) ?_
  refine z_iadd rfl ?_
  refine z_aload_n rfl rfl ?_
  refine z_iconst (v := 1) rfl (by decide) ?_
  refine z_callV (av := [_]) rfl z_w238 hM1.1 rfl rfl rfl rfl rfl (Nat.le_of_ble_eq_true rfl) (Nat.le_of_ble_eq_true rfl) (Nat.le_of_ble_eq_true rfl) (Nat.le_of_ble_eq_true rfl) (cM_figures (t := 1) (Or.inl rfl) hM1 hP1 (fun hc mc v1 hMc hPc hvc rc hFc_ => ?_))
  refine z_istM (j := 8) rfl hMc (by decide) (k := K + 1) (nI_1 K) (show K + 1 < 240 by omega) (fun h1 hC1 hF1 => ?_)
  have T1 := hT.put (v := v1) (r1.trans rc) (n := K + 1) (by rfl)
  refine z_aload_n rfl rfl ?_
  refine z_get rfl hC1.1 rfl ?_
  refine z_iload_n rfl rfl ?_
  refine z_iconst (v := 2) rfl (by decide) ?_
  refine z_iadd rfl ?_
  refine z_aload_n rfl rfl ?_
  refine z_iconst (v := 2) rfl (by decide) ?_
  refine z_callV (av := [_]) rfl z_w238 hC1.1 rfl rfl rfl rfl rfl (Nat.le_of_ble_eq_true rfl) (Nat.le_of_ble_eq_true rfl) (Nat.le_of_ble_eq_true rfl) (Nat.le_of_ble_eq_true rfl) (cM_figures (t := 2) (Or.inr rfl) hC1 hPc (fun hd md v2 hMd hPd hvd rd hFd_ => ?_))
  refine z_istM (j := 8) rfl hMd (by decide) (k := K + 2) (nI_add K 2) (show K + 2 < 240 by omega) (fun h2 hC2 hF2 => ?_)
  have T2 := T1.put (v := v2) rd (n := K + 2) (by rfl)
  refine z_aload_n rfl rfl ?_
  refine z_get rfl hC2.1 rfl ?_
  refine z_iload_n rfl rfl ?_
  refine z_iconst (v := 3) rfl (by decide) ?_
  refine z_iadd rfl ?_
  refine z_aload_n rfl rfl ?_
  refine z_iconst (v := 1) rfl (by decide) ?_
  refine z_callV (av := [_]) rfl z_w238 hC2.1 rfl rfl rfl rfl rfl (Nat.le_of_ble_eq_true rfl) (Nat.le_of_ble_eq_true rfl) (Nat.le_of_ble_eq_true rfl) (Nat.le_of_ble_eq_true rfl) (cM_figures (t := 1) (Or.inl rfl) hC2 hPd (fun he me v3 hMe hPe hve re hFe_ => ?_))
  refine z_istM (j := 8) rfl hMe (by decide) (k := K + 3) (nI_add K 3) (show K + 3 < 240 by omega) (fun h3 hC3 hF3 => ?_)
  have T3 := T2.put (v := v3) re (n := K + 3) (by rfl)
  refine z_goto rfl ?_
  refine z_vret rfl rfl ?_
  refine q _ _ ([nI 98] ++ [v1] ++ [v2] ++ [v3]) hC3 hPe T3 (fun e => ?_) (hF1_.trans (hFc_.trans (hF1.trans (hFd_.trans (hF2.trans (hFe_.trans hF3))))))
  have e3 := hve e
  have e2 := hvd (z_bd_ok (z_bd_ok e))
  have e1 := hvc (z_bd_ok (z_bd_ok (z_bd_ok (z_bd_ok e))))
  rw [z_bd_skp, z_bd_skp, z_bd_skp, z_bd_skp] at e1
  rw [z_bd_skp] at e2
  rw [z_bd_skp] at e3
  replace e1 := e1.trans (z_tk0 5 0 0 0 v1)
  replace e2 := e2.trans ((congrArg (fun w => z_tk w v2) e1).trans (z_tk1 5 v1 0 0 v2))
  replace e3 := e3.trans ((congrArg (fun w => z_tk w v3) e2).trans (z_tk2 5 v1 v2 0 v3))
  refine (congrArg (z_Tv _) e3).mpr ?_
  exact ⟨rfl, (show 5 < 10 by decide), fun _ => ⟨(show 1 < 4 by decide), rfl⟩, fun _ => ⟨(show 2 < 4 by decide), rfl⟩, fun _ => ⟨(show 3 < 4 by decide), rfl⟩, (show 0 < 4 by decide)⟩
theorem cM_rO7 (hK : K + 3 < 240) (hM : z_Mo h a m) (hP : z_Pm m l (true, p, (7, 0, 0, 0, 0))) (hT : z_Ts m0 m K [nI 100]) (q : ∀ h' m' vs, z_Mo h' a m' → z_Pm m' l (z_bd (true, p, ((7, 0, 0, 0, 0) : z_OV)) (z_rdF l [114, 111, 112, 32, 68])) → z_Ts m0 m' K vs → ((z_bd (true, p, ((7, 0, 0, 0, 0) : z_OV)) (z_rdF l [114, 111, 112, 32, 68])).1 = true → z_Tv vs (z_bd (true, p, ((7, 0, 0, 0, 0) : z_OV)) (z_rdF l [114, 111, 112, 32, 68])).2.2) → z_Fr a 9 h h' → Q (.inl none) h') : z_W G 4 0 0 241 351 [.ref a, .int (nI K), .int (nI 100)] [] h Q := by
  rw [z_bdF _ _ _ _ (by decide), z_bdF _ _ _ _ (by decide), z_bdF _ _ _ _ (by decide), z_bdF _ _ _ _ (by decide), z_bdF _ _ _ _ (by decide), z_bdN] at q
  refine z_aload_n rfl rfl ?_
  refine z_bipush (v := 114) rfl (by decide) ?_
  refine z_bipush (v := 111) rfl (by decide) ?_
  refine z_bipush (v := 112) rfl (by decide) ?_
  refine z_callV (av := [_, _, _]) rfl z_w237 hM.1 rfl rfl rfl rfl rfl (Nat.le_of_ble_eq_true rfl) (Nat.le_of_ble_eq_true rfl) (Nat.le_of_ble_eq_true rfl) (Nat.le_of_ble_eq_true rfl) (cM_needsThree (c := 114) (d := 111) (e := 112) (by decide) (by decide) (by decide) hM hP (fun ha m1 hM1 hP1 r1 hF1_ => ?_))
  refine z_aload_n rfl rfl ?_
  refine z_get rfl hM1.1 rfl ?_
  refine z_iload_n rfl rfl ?_
  refine z_iconst (v := 1) rfl (by decide) ?_
  refine z_iadd rfl ?_
  refine z_aload_n rfl rfl ?_
  refine z_iconst (v := 1) rfl (by decide) ?_
  refine z_callV (av := [_]) rfl z_w238 hM1.1 rfl rfl rfl rfl rfl (Nat.le_of_ble_eq_true rfl) (Nat.le_of_ble_eq_true rfl) (Nat.le_of_ble_eq_true rfl) (Nat.le_of_ble_eq_true rfl) (cM_figures (t := 1) (Or.inl rfl) hM1 hP1 (fun hc mc v1 hMc hPc hvc rc hFc_ => ?_))
  refine z_istM (j := 8) rfl hMc (by decide) (k := K + 1) (nI_1 K) (show K + 1 < 240 by omega) (fun h1 hC1 hF1 => ?_)
  have T1 := hT.put (v := v1) (r1.trans rc) (n := K + 1) (by rfl)
  refine z_goto rfl ?_
  refine z_vret rfl rfl ?_
  refine q _ _ ([nI 100] ++ [v1]) hC1 hPc T1 (fun e => ?_) (hF1_.trans (hFc_.trans hF1))
  have e1 := hvc e
  rw [z_bd_skp, z_bd_skp, z_bd_skp, z_bd_skp] at e1
  replace e1 := e1.trans (z_tk0 7 0 0 0 v1)
  refine (congrArg (z_Tv _) e1).mpr ?_
  exact ⟨rfl, (show 7 < 10 by decide), fun _ => ⟨(show 1 < 2 by decide), rfl⟩, fun e9 => by have e9 : 7 = 0 ∨ 7 = 2 ∨ 7 = 3 ∨ 7 = 4 ∨ 7 = 5 ∨ 7 = 6 := e9; omega, fun e9 => absurd (show 7 = 5 from e9) (by decide), (show 0 < 2 by decide)⟩
theorem cM_rO8 (hK : K + 3 < 240) (hM : z_Mo h a m) (hP : z_Pm m l (true, p, (8, 0, 0, 0, 0))) (hT : z_Ts m0 m K [nI 118]) (q : ∀ h' m' vs, z_Mo h' a m' → z_Pm m' l (z_bd (true, p, ((8, 0, 0, 0, 0) : z_OV)) (z_rdF l [111, 116, 101])) → z_Ts m0 m' K vs → ((z_bd (true, p, ((8, 0, 0, 0, 0) : z_OV)) (z_rdF l [111, 116, 101])).1 = true → z_Tv vs (z_bd (true, p, ((8, 0, 0, 0, 0) : z_OV)) (z_rdF l [111, 116, 101])).2.2) → z_Fr a 9 h h' → Q (.inl none) h') : z_W G 4 0 0 241 377 [.ref a, .int (nI K), .int (nI 118)] [] h Q := by
  rw [z_bdF _ _ _ _ (by decide), z_bdF _ _ _ _ (by decide), z_bdF _ _ _ _ (by decide), z_bdN] at q
  refine z_aload_n rfl rfl ?_
  refine z_bipush (v := 111) rfl (by decide) ?_
  refine z_bipush (v := 116) rfl (by decide) ?_
  refine z_bipush (v := 101) rfl (by decide) ?_
  refine z_callV (av := [_, _, _]) rfl z_w237 hM.1 rfl rfl rfl rfl rfl (Nat.le_of_ble_eq_true rfl) (Nat.le_of_ble_eq_true rfl) (Nat.le_of_ble_eq_true rfl) (Nat.le_of_ble_eq_true rfl) (cM_needsThree (c := 111) (d := 116) (e := 101) (by decide) (by decide) (by decide) hM hP (fun ha m1 hM1 hP1 r1 hF1_ => ?_))
  refine z_goto rfl ?_
  refine z_vret rfl rfl ?_
  refine q _ _ ([nI 118]) hM1 hP1 (hT.on r1) (fun e => ?_) hF1_
  have e9 : (z_bd (z_bd (z_bd (true, p, ((8, 0, 0, 0, 0) : z_OV)) (z_skp l 111)) (z_skp l 116)) (z_skp l 101)).2.2 = (8, 0, 0, 0, 0) := by rw [z_bd_skp, z_bd_skp, z_bd_skp]
  refine (congrArg (z_Tv _) e9).mpr ?_
  exact ⟨rfl, (show 8 < 10 by decide), fun e9 => absurd rfl e9, fun e9 => by have e9 : 8 = 0 ∨ 8 = 2 ∨ 8 = 3 ∨ 8 = 4 ∨ 8 = 5 ∨ 8 = 6 := e9; omega, fun e9 => absurd (show 8 = 5 from e9) (by decide), (show 0 < 1 by decide)⟩
end ZKd
