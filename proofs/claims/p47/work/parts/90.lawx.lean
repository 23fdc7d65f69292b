/-! The law: what it does with x, and with y beside it. -/
/-- x at rest: its house, its input, what it saved -/
def z_xs (v : z_HV) (X : z_PV) : Prop := X.1 = v ∧ X.2.2.2.2.2.1 = [] ∧ X.2.1 = v ∧ X.2.2.1 = true
section ZLx
variable {G : z_G} {Q : z_O → z_H → Prop} {h : z_H} {B : Nat → Prop} {v : z_HV} {X : z_PV} {now : Int32}
theorem z_LLx {d mc ms pc : Nat} {st : List Value} {a2 a5 a6 a7 a8 a9 b c : Value} (k : z_W G d mc ms 338 pc [.ref 0, .ref 1000, .retAddr 0, b, c, .retAddr 0, .retAddr 0, .retAddr 0, .retAddr 0, .retAddr 0] st h Q) : z_W G d mc ms 338 pc [.ref 0, .ref 1000, a2, b, c, a5, a6, a7, a8, a9] st h Q := k.loc fun i w h1 h2 => by
  match i, h1 with
  | 0, h1 => exact h1
  | 1, h1 => exact h1
  | 2, h1 => exact absurd (Option.some.inj h1).symm h2
  | 3, h1 => exact h1
  | 4, h1 => exact h1
  | 5, h1 => exact absurd (Option.some.inj h1).symm h2
  | 6, h1 => exact absurd (Option.some.inj h1).symm h2
  | 7, h1 => exact absurd (Option.some.inj h1).symm h2
  | 8, h1 => exact absurd (Option.some.inj h1).symm h2
  | 9, h1 => exact absurd (Option.some.inj h1).symm h2
  | i + 10, h1 => exact absurd h1 (by simp)
/-- a wf house's now -/
theorem z_nowE {v : z_HV} {X Y : z_PV} {now : Int32} (hn : ∀ Z : z_PV, Z.1 = v → z_st Z = now) (hX : X.1 = v) : z_st X = now := hn X hX
theorem c_fin (hw : z_wf v) (hn : ∀ Z : z_PV, Z.1 = v → z_st Z = now) (hs : z_xs v X) (hP : z_P h 1000 B X) (q : ∀ h', Q (.inl (some (.int 1))) h') : z_W G 14 2000 20000 338 1595 [.ref 0, .ref 1000, .retAddr 0, .int (nI (v.1.1 0)), .int now, .retAddr 0, .retAddr 0, .retAddr 0, .retAddr 0, .retAddr 0] [] h Q := by
  have e0 : z_fRestore X = (0, nI (v.1.1 0), (v, v, true, 0, X.2.2.2.2)) := by
    unfold z_fRestore
    rw [hs.2.2.2, hs.2.2.1]
    rfl
  refine z_aload_n rfl rfl ?_
  refine z_callV (av := []) rfl z_w158 hP.cell.choose_spec rfl rfl rfl rfl rfl (Nat.le_of_ble_eq_true rfl) (Nat.le_of_ble_eq_true rfl) (Nat.le_of_ble_eq_true rfl) (Nat.le_of_ble_eq_true rfl) (cP_restore hP fun h1 hP1 hX1 => ?_)
  rw [e0] at hP1 ⊢
  refine z_kI rfl rfl ?_
  refine z_iload_n rfl rfl ?_
  refine z_icmp_ne rfl (fun u => absurd rfl u) (fun _ => ?_)
  refine z_aload_n rfl rfl ?_
  refine z_bipush (v := nI 13) rfl (by decide) ?_
  refine z_callV (av := [_]) rfl z_w153 hP1.cell.choose_spec rfl rfl rfl rfl rfl (Nat.le_of_ble_eq_true rfl) (Nat.le_of_ble_eq_true rfl) (Nat.le_of_ble_eq_true rfl) (Nat.le_of_ble_eq_true rfl) (cP_account hP1 fun h2 hP2 hX2 => ?_)
  refine z_kI rfl (v := 0) rfl ?_
  refine z_if_ne rfl (fun u => absurd rfl u) (fun _ => ?_)
  refine z_aload_n rfl rfl ?_
  refine z_callS (av := [_]) rfl z_w176 rfl rfl rfl rfl (Nat.le_of_ble_eq_true rfl) (Nat.le_of_ble_eq_true rfl) (Nat.le_of_ble_eq_true rfl) (Nat.le_of_ble_eq_true rfl) (c_state hw hP2 fun h3 hP3 hX3 => ?_)
  refine z_iload rfl rfl ?_
  refine z_icmp_ne rfl (fun u => absurd (hn _ rfl) u) (fun _ => ?_)
  refine z_iconst (v := 1) rfl (by decide) ?_
  refine z_goto rfl ?_
  refine z_zret (ty := .boolean) rfl rfl (by first | decide | exact z_nb _) ?_
  exact q _
theorem c_s6 (hw : z_wf v) (hn : ∀ Z : z_PV, Z.1 = v → z_st Z = now) (hs : z_xs v X) (hP : z_P h 1000 B X) (kk : ∀ h1 X1, z_P h1 1000 B X1 → z_xs v X1 → z_W G 14 15500 610000 338 476 [.ref 0, .ref 1000, .retAddr 0, .int (nI (v.1.1 0)), .int now, .retAddr 0, .retAddr 0, .retAddr 0, .retAddr 0, .retAddr 0] [] h1 Q) : z_W G 14 19500 840000 338 360 [.ref 0, .ref 1000, .retAddr 0, .int (nI (v.1.1 0)), .int now, .retAddr 0, .retAddr 0, .retAddr 0, .retAddr 0, .retAddr 0] [] h Q := by
  refine z_aload_n rfl rfl ?_
  refine z_ldcS (i := 6) rfl rfl (by decide) rfl ?_
  refine z_iconst (v := nI 5) rfl (by decide) ?_
  refine z_callS (av := [_, _, _]) rfl z_w179 rfl rfl rfl rfl (Nat.le_of_ble_eq_true rfl) (Nat.le_of_ble_eq_true rfl) (Nat.le_of_ble_eq_true rfl) (Nat.le_of_ble_eq_true rfl) (c_faults (l := z_lsc 6) (fun g _ => z_txK g (by decide)) (z_lsB 6 (by decide)).2 (by rw [hs.2.1]; exact (by decide +kernel : (z_lsc 6).length ≤ 60 - 0)) (by rw [hs.2.1]; exact z_fltL.1) (by rw [hs.1]; exact hw) hP fun h0 hP0 hX0 => ?_)
  refine z_if_eq rfl (fun u => absurd u (by decide)) (fun _ => ?_)
  generalize e0 : z_setF (z_setI X []) (nI 5) = X0 at hP0
  have hs0 : z_xs v X0 := by rw [← e0]; exact ⟨hs.1, rfl, hs.2.2.1, hs.2.2.2⟩
  refine z_aload_n rfl rfl ?_
  refine z_ldcS (i := 7) rfl rfl (by decide) rfl ?_
  refine z_bipush (v := nI 6) rfl (by decide) ?_
  refine z_callS (av := [_, _, _]) rfl z_w179 rfl rfl rfl rfl (Nat.le_of_ble_eq_true rfl) (Nat.le_of_ble_eq_true rfl) (Nat.le_of_ble_eq_true rfl) (Nat.le_of_ble_eq_true rfl) (c_faults (l := z_lsc 7) (fun g _ => z_txK g (by decide)) (z_lsB 7 (by decide)).2 (by rw [hs0.2.1]; exact (by decide +kernel : (z_lsc 7).length ≤ 60 - 0)) (by rw [hs0.2.1]; exact z_fltL.2.1) (by rw [hs0.1]; exact hw) hP0 fun h1 hP1 hX1 => ?_)
  refine z_if_eq rfl (fun u => absurd u (by decide)) (fun _ => ?_)
  generalize e1 : z_setF (z_setI X0 []) (nI 6) = X1 at hP1
  have hs1 : z_xs v X1 := by rw [← e1]; exact ⟨hs0.1, rfl, hs0.2.2.1, hs0.2.2.2⟩
  refine z_aload_n rfl rfl ?_
  refine z_ldcS (i := 8) rfl rfl (by decide) rfl ?_
  refine z_bipush (v := nI 7) rfl (by decide) ?_
  refine z_callS (av := [_, _, _]) rfl z_w179 rfl rfl rfl rfl (Nat.le_of_ble_eq_true rfl) (Nat.le_of_ble_eq_true rfl) (Nat.le_of_ble_eq_true rfl) (Nat.le_of_ble_eq_true rfl) (c_faults (l := z_lsc 8) (fun g _ => z_txK g (by decide)) (z_lsB 8 (by decide)).2 (by rw [hs1.2.1]; exact (by decide +kernel : (z_lsc 8).length ≤ 60 - 0)) (by rw [hs1.2.1]; exact z_fltL.2.2.1) (by rw [hs1.1]; exact hw) hP1 fun h2 hP2 hX2 => ?_)
  refine z_if_eq rfl (fun u => absurd u (by decide)) (fun _ => ?_)
  generalize e2 : z_setF (z_setI X1 []) (nI 7) = X2 at hP2
  have hs2 : z_xs v X2 := by rw [← e2]; exact ⟨hs1.1, rfl, hs1.2.2.1, hs1.2.2.2⟩
  refine z_aload_n rfl rfl ?_
  refine z_ldcS (i := 9) rfl rfl (by decide) rfl ?_
  refine z_iconst (v := nI 1) rfl (by decide) ?_
  refine z_callS (av := [_, _, _]) rfl z_w179 rfl rfl rfl rfl (Nat.le_of_ble_eq_true rfl) (Nat.le_of_ble_eq_true rfl) (Nat.le_of_ble_eq_true rfl) (Nat.le_of_ble_eq_true rfl) (c_faults (l := z_lsc 9) (fun g _ => z_txK g (by decide)) (z_lsB 9 (by decide)).2 (by rw [hs2.2.1]; exact (by decide +kernel : (z_lsc 9).length ≤ 60 - 0)) (by rw [hs2.2.1]; exact z_fltL.2.2.2.1) (by rw [hs2.1]; exact hw) hP2 fun h3 hP3 hX3 => ?_)
  refine z_if_eq rfl (fun u => absurd u (by decide)) (fun _ => ?_)
  generalize e3 : z_setF (z_setI X2 []) (nI 1) = X3 at hP3
  have hs3 : z_xs v X3 := by rw [← e3]; exact ⟨hs2.1, rfl, hs2.2.2.1, hs2.2.2.2⟩
  refine z_aload_n rfl rfl ?_
  refine z_ldcS (i := 10) rfl rfl (by decide) rfl ?_
  refine z_iconst (v := nI 0) rfl (by decide) ?_
  refine z_callS (av := [_, _, _]) rfl z_w179 rfl rfl rfl rfl (Nat.le_of_ble_eq_true rfl) (Nat.le_of_ble_eq_true rfl) (Nat.le_of_ble_eq_true rfl) (Nat.le_of_ble_eq_true rfl) (c_faults (l := z_lsc 10) (fun g _ => z_txK g (by decide)) (z_lsB 10 (by decide)).2 (by rw [hs3.2.1]; exact (by decide +kernel : (z_lsc 10).length ≤ 60 - 0)) (by rw [hs3.2.1]; exact z_fltL.2.2.2.2.1) (by rw [hs3.1]; exact hw) hP3 fun h4 hP4 hX4 => ?_)
  refine z_if_eq rfl (fun u => absurd u (by decide)) (fun _ => ?_)
  generalize e4 : z_setF (z_setI X3 []) (nI 0) = X4 at hP4
  have hs4 : z_xs v X4 := by rw [← e4]; exact ⟨hs3.1, rfl, hs3.2.2.1, hs3.2.2.2⟩
  refine z_aload_n rfl rfl ?_
  refine z_ldcS (i := 11) rfl rfl (by decide) rfl ?_
  refine z_iconst (v := nI 5) rfl (by decide) ?_
  refine z_callS (av := [_, _, _]) rfl z_w179 rfl rfl rfl rfl (Nat.le_of_ble_eq_true rfl) (Nat.le_of_ble_eq_true rfl) (Nat.le_of_ble_eq_true rfl) (Nat.le_of_ble_eq_true rfl) (c_faults (l := z_lsc 11) (fun g _ => z_txK g (by decide)) (z_lsB 11 (by decide)).2 (by rw [hs4.2.1]; exact (by decide +kernel : (z_lsc 11).length ≤ 60 - 0)) (by rw [hs4.2.1]; exact z_fltL.2.2.2.2.2.1) (by rw [hs4.1]; exact hw) hP4 fun h5 hP5 hX5 => ?_)
  refine z_if_eq rfl (fun u => absurd u (by decide)) (fun _ => ?_)
  generalize e5 : z_setF (z_setI X4 []) (nI 5) = X5 at hP5
  have hs5 : z_xs v X5 := by rw [← e5]; exact ⟨hs4.1, rfl, hs4.2.2.1, hs4.2.2.2⟩
  refine z_aload_n rfl rfl ?_
  refine z_ldcS (i := 12) rfl rfl (by decide) rfl ?_
  refine z_bipush (v := nI 9) rfl (by decide) ?_
  refine z_callS (av := [_, _, _]) rfl z_w179 rfl rfl rfl rfl (Nat.le_of_ble_eq_true rfl) (Nat.le_of_ble_eq_true rfl) (Nat.le_of_ble_eq_true rfl) (Nat.le_of_ble_eq_true rfl) (c_faults (l := z_lsc 12) (fun g _ => z_txK g (by decide)) (z_lsB 12 (by decide)).2 (by rw [hs5.2.1]; exact (by decide +kernel : (z_lsc 12).length ≤ 60 - 0)) (by rw [hs5.2.1]; exact z_fltL.2.2.2.2.2.2.1) (by rw [hs5.1]; exact hw) hP5 fun h6 hP6 hX6 => ?_)
  refine z_if_eq rfl (fun u => absurd u (by decide)) (fun _ => ?_)
  generalize e6 : z_setF (z_setI X5 []) (nI 9) = X6 at hP6
  have hs6 : z_xs v X6 := by rw [← e6]; exact ⟨hs5.1, rfl, hs5.2.2.1, hs5.2.2.2⟩
  refine z_aload_n rfl rfl ?_
  refine z_ldcS (i := 13) rfl rfl (by decide) rfl ?_
  refine z_bipush (v := nI 9) rfl (by decide) ?_
  refine z_callS (av := [_, _, _]) rfl z_w179 rfl rfl rfl rfl (Nat.le_of_ble_eq_true rfl) (Nat.le_of_ble_eq_true rfl) (Nat.le_of_ble_eq_true rfl) (Nat.le_of_ble_eq_true rfl) (c_faults (l := z_lsc 13) (fun g _ => z_txK g (by decide)) (z_lsB 13 (by decide)).2 (by rw [hs6.2.1]; exact (by decide +kernel : (z_lsc 13).length ≤ 60 - 0)) (by rw [hs6.2.1]; exact z_fltL.2.2.2.2.2.2.2.1) (by rw [hs6.1]; exact hw) hP6 fun h7 hP7 hX7 => ?_)
  refine z_if_eq rfl (fun u => absurd u (by decide)) (fun _ => ?_)
  generalize e7 : z_setF (z_setI X6 []) (nI 9) = X7 at hP7
  have hs7 : z_xs v X7 := by rw [← e7]; exact ⟨hs6.1, rfl, hs6.2.2.1, hs6.2.2.2⟩
  refine z_aload_n rfl rfl ?_
  refine z_ldcS (i := 14) rfl rfl (by decide) rfl ?_
  refine z_iconst (v := nI 0) rfl (by decide) ?_
  refine z_callS (av := [_, _, _]) rfl z_w179 rfl rfl rfl rfl (Nat.le_of_ble_eq_true rfl) (Nat.le_of_ble_eq_true rfl) (Nat.le_of_ble_eq_true rfl) (Nat.le_of_ble_eq_true rfl) (c_faults (l := z_lsc 14) (fun g _ => z_txK g (by decide)) (z_lsB 14 (by decide)).2 (by rw [hs7.2.1]; exact (by decide +kernel : (z_lsc 14).length ≤ 60 - 0)) (by rw [hs7.2.1]; exact z_fltL.2.2.2.2.2.2.2.2.1) (by rw [hs7.1]; exact hw) hP7 fun h8 hP8 hX8 => ?_)
  refine z_if_eq rfl (fun u => absurd u (by decide)) (fun _ => ?_)
  generalize e8 : z_setF (z_setI X7 []) (nI 0) = X8 at hP8
  have hs8 : z_xs v X8 := by rw [← e8]; exact ⟨hs7.1, rfl, hs7.2.2.1, hs7.2.2.2⟩
  refine z_aload_n rfl rfl ?_
  refine z_ldcS (i := 15) rfl rfl (by decide) rfl ?_
  refine z_bipush (v := nI 6) rfl (by decide) ?_
  refine z_callS (av := [_, _, _]) rfl z_w179 rfl rfl rfl rfl (Nat.le_of_ble_eq_true rfl) (Nat.le_of_ble_eq_true rfl) (Nat.le_of_ble_eq_true rfl) (Nat.le_of_ble_eq_true rfl) (c_faults (l := z_lsc 15) (fun g _ => z_txK g (by decide)) (z_lsB 15 (by decide)).2 (by rw [hs8.2.1]; exact (by decide +kernel : (z_lsc 15).length ≤ 60 - 0)) (by rw [hs8.2.1]; exact z_fltL.2.2.2.2.2.2.2.2.2) (by rw [hs8.1]; exact hw) hP8 fun h9 hP9 hX9 => ?_)
  refine z_if_eq rfl (fun u => absurd u (by decide)) (fun _ => ?_)
  generalize e9 : z_setF (z_setI X8 []) (nI 6) = X9 at hP9
  have hs9 : z_xs v X9 := by rw [← e9]; exact ⟨hs8.1, rfl, hs8.2.2.1, hs8.2.2.2⟩
  refine z_aload_n rfl rfl ?_
  refine z_callS (av := [_]) rfl z_w176 rfl rfl rfl rfl (Nat.le_of_ble_eq_true rfl) (Nat.le_of_ble_eq_true rfl) (Nat.le_of_ble_eq_true rfl) (Nat.le_of_ble_eq_true rfl) (c_state (by rw [hs9.1]; exact hw) hP9 fun hz hPz hXz => ?_)
  refine z_iload rfl rfl ?_
  refine z_icmp_eq rfl (fun _ => ?_) (fun u => absurd (hn _ hs9.1) u)
  exact (kk _ _ hPz hs9).mono (Nat.le_refl _) (Nat.le_of_ble_eq_true rfl) (Nat.le_of_ble_eq_true rfl)
theorem c_s5 (hw : z_wf v) (hn : ∀ Z : z_PV, Z.1 = v → z_st Z = now) (hs : z_xs v X) (hP : z_P h 1000 B X) (kk : ∀ h1 X1, z_P h1 1000 B X1 → z_xs v X1 → z_W G 14 19500 840000 338 360 [.ref 0, .ref 1000, .retAddr 0, .int (nI (v.1.1 0)), .int now, .retAddr 0, .retAddr 0, .retAddr 0, .retAddr 0, .retAddr 0] [] h1 Q) : z_W G 14 21500 880000 338 304 [.ref 0, .ref 1000, .retAddr 0, .int (nI (v.1.1 0)), .int now, .retAddr 0, .retAddr 0, .retAddr 0, .retAddr 0, .retAddr 0] [] h Q := by
  have e0 : z_fRun (z_ins X (z_lsc 5)) = (2, 0, z_setF (z_setR (z_setI (z_ins X (z_lsc 5)) []) (11, nI 0) (2, 9)) (-1)) := z_run5 (show X.2.2.2.2.2.1 ++ z_lsc 5 = [] ++ z_lsc 5 by rw [hs.2.1]) (show z_wf X.1 by rw [hs.1]; exact hw)
  have ev : z_rnV (z_ins X (z_lsc 5)) = -2 := by unfold z_rnV; rw [e0]; rfl
  refine z_aload_n rfl rfl ?_
  refine z_ldcS (i := 5) rfl rfl (by decide) rfl ?_
  refine z_callS (av := [_, _]) rfl z_w173 rfl rfl rfl rfl (Nat.le_of_ble_eq_true rfl) (Nat.le_of_ble_eq_true rfl) (Nat.le_of_ble_eq_true rfl) (Nat.le_of_ble_eq_true rfl) (c_lPut (l := z_lsc 5) (fun g _ => z_txK g (by decide)) (z_lsB 5 (by decide)).2 (by rw [hs.2.1]; exact (by decide +kernel : (z_lsc 5).length ≤ 60 - 0)) hP fun h1 hP1 hX1 => ?_)
  refine z_aload_n rfl rfl ?_
  refine z_callSX (av := [_]) rfl z_w178 rfl rfl rfl rfl (Nat.le_of_ble_eq_true rfl) (Nat.le_of_ble_eq_true rfl) (Nat.le_of_ble_eq_true rfl) (Nat.le_of_ble_eq_true rfl) (c_runs (x := z_ins X (z_lsc 5)) (show z_wf X.1 by rw [hs.1]; exact hw) hP1 fun h2 hP2 hX2 => ?_)
  rw [ev]
  rw [e0] at hP2
  refine z_bipush (v := -2) rfl (by decide) ?_
  refine z_icmp_ne rfl (fun u => absurd rfl u) (fun _ => ?_)
  refine z_aload_n rfl rfl ?_
  refine z_iconst (v := 0) rfl (by decide) ?_
  refine z_iconst (v := z_I true) rfl (by decide) ?_
  refine z_callV (av := [_, _]) rfl z_w146 hP2.cell.choose_spec rfl rfl rfl rfl rfl (Nat.le_of_ble_eq_true rfl) (Nat.le_of_ble_eq_true rfl) (Nat.le_of_ble_eq_true rfl) (Nat.le_of_ble_eq_true rfl) (cP_reason hP2 fun h3 hP3 hX3 => ?_)
  refine z_kI rfl (v := 0) rfl ?_
  refine z_if_ne rfl (fun u => absurd rfl u) (fun _ => ?_)
  refine z_aload_n rfl rfl ?_
  refine z_iconst (v := 1) rfl (by decide) ?_
  refine z_iconst (v := z_I false) rfl (by decide) ?_
  refine z_callV (av := [_, _]) rfl z_w146 hP3.cell.choose_spec rfl rfl rfl rfl rfl (Nat.le_of_ble_eq_true rfl) (Nat.le_of_ble_eq_true rfl) (Nat.le_of_ble_eq_true rfl) (Nat.le_of_ble_eq_true rfl) (cP_reason hP3 fun h4 hP4 hX4 => ?_)
  refine z_kI rfl (v := 2) rfl ?_
  refine z_iconst (v := 2) rfl (by decide) ?_
  refine z_icmp_ne rfl (fun u => absurd rfl u) (fun _ => ?_)
  refine z_aload_n rfl rfl ?_
  refine z_iconst (v := 1) rfl (by decide) ?_
  refine z_iconst (v := z_I true) rfl (by decide) ?_
  refine z_callV (av := [_, _]) rfl z_w146 hP4.cell.choose_spec rfl rfl rfl rfl rfl (Nat.le_of_ble_eq_true rfl) (Nat.le_of_ble_eq_true rfl) (Nat.le_of_ble_eq_true rfl) (Nat.le_of_ble_eq_true rfl) (cP_reason hP4 fun h5 hP5 hX5 => ?_)
  refine z_kI rfl (v := 9) rfl ?_
  refine z_bipush (v := 9) rfl (by decide) ?_
  refine z_icmp_ne rfl (fun u => absurd rfl u) (fun _ => ?_)
  refine z_aload_n rfl rfl ?_
  obtain ⟨X9, eX⟩ : ∃ X9, X9 = z_setF (z_setR (z_setI (z_ins X (z_lsc 5)) []) (11, nI 0) (2, 9)) (-1) := ⟨_, rfl⟩
  have hPq : z_P h5 1000 B X9 := by rw [eX]; exact hP5
  have hs9 : z_xs v X9 := by rw [eX]; exact ⟨hs.1, rfl, hs.2.2.1, hs.2.2.2⟩
  refine z_callS (av := [_]) rfl z_w176 rfl rfl rfl rfl (Nat.le_of_ble_eq_true rfl) (Nat.le_of_ble_eq_true rfl) (Nat.le_of_ble_eq_true rfl) (Nat.le_of_ble_eq_true rfl) (c_state (by rw [hs9.1]; exact hw) hPq fun hz hPz hXz => ?_)
  refine z_iload rfl rfl ?_
  refine z_icmp_eq rfl (fun _ => ?_) (fun u => absurd (hn _ hs9.1) u)
  exact (kk _ _ hPz hs9).mono (Nat.le_refl _) (Nat.le_of_ble_eq_true rfl) (Nat.le_of_ble_eq_true rfl)
theorem c_s4 (hw : z_wf v) (hn : ∀ Z : z_PV, Z.1 = v → z_st Z = now) (hs : z_xs v X) (hP : z_P h 1000 B X) (kk : ∀ h1 X1, z_P h1 1000 B X1 → z_xs v X1 → z_W G 14 21500 880000 338 304 [.ref 0, .ref 1000, .retAddr 0, .int (nI (v.1.1 0)), .int now, .retAddr 0, .retAddr 0, .retAddr 0, .retAddr 0, .retAddr 0] [] h1 Q) : z_W G 14 23500 920000 338 236 [.ref 0, .ref 1000, .retAddr 0, .int (nI (v.1.1 0)), .int now, .retAddr 0, .retAddr 0, .retAddr 0, .retAddr 0, .retAddr 0] [] h Q := by
  have e0 : z_fRun (z_ins X (z_lsc 4)) = (2, 0, z_setF (z_setR (z_setI (z_ins X (z_lsc 4)) []) (11, nI 1) (3, 25)) (-1)) := z_run4 (show X.2.2.2.2.2.1 ++ z_lsc 4 = [] ++ z_lsc 4 by rw [hs.2.1])
  have ev : z_rnV (z_ins X (z_lsc 4)) = -2 := by unfold z_rnV; rw [e0]; rfl
  refine z_aload_n rfl rfl ?_
  refine z_ldcS (i := 4) rfl rfl (by decide) rfl ?_
  refine z_callS (av := [_, _]) rfl z_w173 rfl rfl rfl rfl (Nat.le_of_ble_eq_true rfl) (Nat.le_of_ble_eq_true rfl) (Nat.le_of_ble_eq_true rfl) (Nat.le_of_ble_eq_true rfl) (c_lPut (l := z_lsc 4) (fun g _ => z_txK g (by decide)) (z_lsB 4 (by decide)).2 (by rw [hs.2.1]; exact (by decide +kernel : (z_lsc 4).length ≤ 60 - 0)) hP fun h1 hP1 hX1 => ?_)
  refine z_aload_n rfl rfl ?_
  refine z_callSX (av := [_]) rfl z_w178 rfl rfl rfl rfl (Nat.le_of_ble_eq_true rfl) (Nat.le_of_ble_eq_true rfl) (Nat.le_of_ble_eq_true rfl) (Nat.le_of_ble_eq_true rfl) (c_runs (x := z_ins X (z_lsc 4)) (show z_wf X.1 by rw [hs.1]; exact hw) hP1 fun h2 hP2 hX2 => ?_)
  rw [ev]
  rw [e0] at hP2
  refine z_bipush (v := -2) rfl (by decide) ?_
  refine z_icmp_ne rfl (fun u => absurd rfl u) (fun _ => ?_)
  refine z_aload_n rfl rfl ?_
  refine z_iconst (v := 0) rfl (by decide) ?_
  refine z_iconst (v := z_I false) rfl (by decide) ?_
  refine z_callV (av := [_, _]) rfl z_w146 hP2.cell.choose_spec rfl rfl rfl rfl rfl (Nat.le_of_ble_eq_true rfl) (Nat.le_of_ble_eq_true rfl) (Nat.le_of_ble_eq_true rfl) (Nat.le_of_ble_eq_true rfl) (cP_reason hP2 fun h3 hP3 hX3 => ?_)
  refine z_kI rfl (v := 11) rfl ?_
  refine z_bipush (v := 11) rfl (by decide) ?_
  refine z_icmp_ne rfl (fun u => absurd rfl u) (fun _ => ?_)
  refine z_aload_n rfl rfl ?_
  refine z_iconst (v := 0) rfl (by decide) ?_
  refine z_iconst (v := z_I true) rfl (by decide) ?_
  refine z_callV (av := [_, _]) rfl z_w146 hP3.cell.choose_spec rfl rfl rfl rfl rfl (Nat.le_of_ble_eq_true rfl) (Nat.le_of_ble_eq_true rfl) (Nat.le_of_ble_eq_true rfl) (Nat.le_of_ble_eq_true rfl) (cP_reason hP3 fun h4 hP4 hX4 => ?_)
  refine z_kI rfl (v := 1) rfl ?_
  refine z_iconst (v := 1) rfl (by decide) ?_
  refine z_icmp_ne rfl (fun u => absurd rfl u) (fun _ => ?_)
  refine z_aload_n rfl rfl ?_
  refine z_iconst (v := 1) rfl (by decide) ?_
  refine z_iconst (v := z_I false) rfl (by decide) ?_
  refine z_callV (av := [_, _]) rfl z_w146 hP4.cell.choose_spec rfl rfl rfl rfl rfl (Nat.le_of_ble_eq_true rfl) (Nat.le_of_ble_eq_true rfl) (Nat.le_of_ble_eq_true rfl) (Nat.le_of_ble_eq_true rfl) (cP_reason hP4 fun h5 hP5 hX5 => ?_)
  refine z_kI rfl (v := 3) rfl ?_
  refine z_iconst (v := 3) rfl (by decide) ?_
  refine z_icmp_ne rfl (fun u => absurd rfl u) (fun _ => ?_)
  refine z_aload_n rfl rfl ?_
  refine z_iconst (v := 1) rfl (by decide) ?_
  refine z_iconst (v := z_I true) rfl (by decide) ?_
  refine z_callV (av := [_, _]) rfl z_w146 hP5.cell.choose_spec rfl rfl rfl rfl rfl (Nat.le_of_ble_eq_true rfl) (Nat.le_of_ble_eq_true rfl) (Nat.le_of_ble_eq_true rfl) (Nat.le_of_ble_eq_true rfl) (cP_reason hP5 fun h6 hP6 hX6 => ?_)
  refine z_kI rfl (v := 25) rfl ?_
  refine z_bipush (v := 25) rfl (by decide) ?_
  refine z_icmp_ne rfl (fun u => absurd rfl u) (fun _ => ?_)
  refine z_aload_n rfl rfl ?_
  obtain ⟨X9, eX⟩ : ∃ X9, X9 = z_setF (z_setR (z_setI (z_ins X (z_lsc 4)) []) (11, nI 1) (3, 25)) (-1) := ⟨_, rfl⟩
  have hPq : z_P h6 1000 B X9 := by rw [eX]; exact hP6
  have hs9 : z_xs v X9 := by rw [eX]; exact ⟨hs.1, rfl, hs.2.2.1, hs.2.2.2⟩
  refine z_callS (av := [_]) rfl z_w176 rfl rfl rfl rfl (Nat.le_of_ble_eq_true rfl) (Nat.le_of_ble_eq_true rfl) (Nat.le_of_ble_eq_true rfl) (Nat.le_of_ble_eq_true rfl) (c_state (by rw [hs9.1]; exact hw) hPq fun hz hPz hXz => ?_)
  refine z_iload rfl rfl ?_
  refine z_icmp_eq rfl (fun _ => ?_) (fun u => absurd (hn _ hs9.1) u)
  exact (kk _ _ hPz hs9).mono (Nat.le_refl _) (Nat.le_of_ble_eq_true rfl) (Nat.le_of_ble_eq_true rfl)
end ZLx
