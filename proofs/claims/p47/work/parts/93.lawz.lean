/-! The law: what it does with z. -/
/-- z at p, all below as it was -/
def z_Z (h0 : z_H) (p : Nat) (h : z_H) (x : z_PV) : Prop := ∃ B : Nat → Prop, z_P h p B x ∧ (∀ k, k < p → h.2 k = h0.2 k) ∧ h0.1 ≤ h.1
theorem z_Z.low {h0 h : z_H} {p : Nat} {x : z_PV} (w : z_Z h0 p h x) : 1000 ≤ p ∧ p + 288 ≤ 1000 + h.1 := by
  obtain ⟨B, hP, -⟩ := w
  exact hP.low.2.2
theorem z_Z.opnT {h0 h g : z_H} {p : Nat} {x : z_PV} (w : z_Z h0 p h x) (hg : h.1 ≤ g.1) (hk : ∀ k, k < 1000 + h.1 → g.2 k = h.2 k) : ∃ B : Nat → Prop, z_P g p B x ∧ (∀ k, 1000 + h.1 ≤ k → k < 1000 + g.1 → ¬ B k) ∧ ∀ h' x', z_P h' p B x' → z_Px p B g h' → z_Z h0 p h' x' := by
  obtain ⟨B, hP, hF, hs⟩ := w
  obtain ⟨l1, l2, l3, l4⟩ := hP.low
  refine ⟨fun k => (B k ∧ k < 1000 + h.1) ∨ 1000 + g.1 ≤ k, hP.move hg (fun k u _ => hk k u) (fun k u e => Or.inl ⟨e, u⟩) (fun k e => e.elim (fun e => l1 k e.1) (fun e => by omega)) (fun k e => Or.inr e), fun k u1 u2 e => by omega, fun h' x' hP' hX => ⟨_, hP', fun k u => (hX.2 k (fun e => ?_) (Or.inl u)).trans ((hk k (by omega)).trans (hF k u)), by have := hX.1; omega⟩⟩
  rcases e with e | e
  · have := l1 k e.1; omega
  · omega
theorem z_Z.opn {h0 h : z_H} {p : Nat} {x : z_PV} (w : z_Z h0 p h x) : ∃ B : Nat → Prop, z_P h p B x ∧ ∀ h' x', z_P h' p B x' → z_Px p B h h' → z_Z h0 p h' x' := by
  obtain ⟨B, h1, -, h2⟩ := w.opnT (Nat.le_refl _) (fun _ _ => rfl)
  exact ⟨B, h1, h2⟩
section ZLz
variable {G : z_G} {d mc ms mi pc nx : Nat} {L st : List Value} {Q : z_O → z_H → Prop} {h0 h : z_H} {p i : Nat} {b3 b4 : Value}
theorem z_kJ {a v : Int32} (hv : a = v) (k : z_W G d mc ms mi nx L (.int v :: st) h Q) : z_K2 G d mc ms mi pc nx L st Q (.inl (some (.int a))) h := by
  subst hv
  exact k
theorem c_z1 (hi : i < 16) (hZ0 : z_Z h0 p h (zs_0 i)) (kk : ∀ h1, z_Z h0 p h1 (zs_3 i) → z_W G 14 13000 540000 338 611 [.ref 0, .ref 1000, .retAddr 0, b3, b4, .retAddr 0, .retAddr 0, .retAddr 0, .int (nI (10 + i)), .ref p] [] h1 Q) : z_W G 14 14500 600000 338 503 [.ref 0, .ref 1000, .retAddr 0, b3, b4, .retAddr 0, .retAddr 0, .retAddr 0, .int (nI (10 + i)), .ref p] [] h Q := by
  refine z_aload rfl rfl ?_
  obtain ⟨B1, hA1, b1⟩ := hZ0.opn
  refine z_callV (av := []) rfl z_w139 hA1.cell.choose_spec rfl rfl rfl rfl rfl (Nat.le_of_ble_eq_true rfl) (Nat.le_of_ble_eq_true rfl) (Nat.le_of_ble_eq_true rfl) (Nat.le_of_ble_eq_true rfl) (cP_isTold (z_told1 (zw_0 i)) (z_told2 (zw_0 i)) (z_told3 (zw_0 i)) hA1 fun h1 hP1 hX1 => ?_)
  have hZ1 : z_Z h0 p h1 (zs_0 i) := b1 _ _ hP1 hX1
  refine z_kJ (v := 1) rfl ?_
  refine z_if_eq rfl (fun u => absurd u (by decide)) (fun _ => ?_)
  refine z_aload rfl rfl ?_
  obtain ⟨B2, hA2, b2⟩ := hZ1.opn
  refine z_callV (av := []) rfl z_w149 hA2.cell.choose_spec rfl rfl rfl rfl rfl (Nat.le_of_ble_eq_true rfl) (Nat.le_of_ble_eq_true rfl) (Nat.le_of_ble_eq_true rfl) (Nat.le_of_ble_eq_true rfl) (cP_tellRow (z_twoR (zw_0 i)) hA2 fun h2 hP2 hX2 => ?_)
  have hZ2 : z_Z h0 p h2 (zs_1 i) := b2 _ _ (hP2.cg (zn_1 i)) hX2
  refine z_kJ (v := (0 : Int32)) (zf_1 i hi) ?_
  refine z_if_ne rfl (fun u => absurd rfl u) (fun _ => ?_)
  refine z_aload rfl rfl ?_
  obtain ⟨B3, hA3, b3⟩ := hZ2.opn
  refine z_callV (av := []) rfl z_w135 hA3.cell.choose_spec rfl rfl rfl rfl rfl (Nat.le_of_ble_eq_true rfl) (Nat.le_of_ble_eq_true rfl) (Nat.le_of_ble_eq_true rfl) (Nat.le_of_ble_eq_true rfl) (cP_carried hA3 fun h3 hP3 hX3 => ?_)
  have hZ3 : z_Z h0 p h3 (zs_1 i) := b3 _ _ hP3 hX3
  refine z_kJ (v := (0 : Int32)) (zf_2 i hi) ?_
  refine z_if_ne rfl (fun u => absurd rfl u) (fun _ => ?_)
  refine z_aload rfl rfl ?_
  refine z_bipush (v := (nI 8)) rfl (by decide) ?_
  refine z_iconst (v := (0 : Int32)) rfl (by decide) ?_
  refine z_iconst (v := (0 : Int32)) rfl (by decide) ?_
  refine z_iconst (v := (0 : Int32)) rfl (by decide) ?_
  obtain ⟨B4, hA4, b4⟩ := hZ3.opn
  refine z_callSX (av := [_, _, _, _, _]) rfl z_w175 rfl rfl rfl rfl (Nat.le_of_ble_eq_true rfl) (Nat.le_of_ble_eq_true rfl) (Nat.le_of_ble_eq_true rfl) (Nat.le_of_ble_eq_true rfl) (c_act (k := 8) (by decide) (fun _ => rfl) (fun _ => rfl) (fun _ => rfl) (zw_1 i).1 hA4 fun h4 hP4 hX4 => ?_)
  have hZ4 : z_Z h0 p h4 (zs_2 i) := b4 _ _ (hP4.cg (zn_2 i)) hX4
  refine z_kJ (v := (-99 : Int32)) (zf_3 i hi) ?_
  refine z_bipush (v := (-99 : Int32)) rfl (by decide) ?_
  refine z_icmp_ne rfl (fun u => absurd rfl u) (fun _ => ?_)
  refine z_aload rfl rfl ?_
  refine z_iconst (v := (0 : Int32)) rfl (by decide) ?_
  refine z_iconst (v := (z_I false)) rfl (by decide) ?_
  obtain ⟨B5, hA5, b5⟩ := hZ4.opn
  refine z_callV (av := [_, _]) rfl z_w146 hA5.cell.choose_spec rfl rfl rfl rfl rfl (Nat.le_of_ble_eq_true rfl) (Nat.le_of_ble_eq_true rfl) (Nat.le_of_ble_eq_true rfl) (Nat.le_of_ble_eq_true rfl) (cP_reason (b := false) hA5 fun h5 hP5 hX5 => ?_)
  have hZ5 : z_Z h0 p h5 (zs_2 i) := b5 _ _ hP5 hX5
  have f := zf_4 i hi
  generalize z_fReason (zs_2 i) (0 : Int32) (z_I false) = R at f ⊢
  refine z_kI (v := (9 : Int32)) f.1 f.2 ?_
  refine z_bipush (v := (9 : Int32)) rfl (by decide) ?_
  refine z_icmp_ne rfl (fun u => absurd rfl u) (fun _ => ?_)
  refine z_aload rfl rfl ?_
  refine z_iconst (v := (0 : Int32)) rfl (by decide) ?_
  refine z_iconst (v := (z_I true)) rfl (by decide) ?_
  obtain ⟨B6, hA6, b6⟩ := hZ5.opn
  refine z_callV (av := [_, _]) rfl z_w146 hA6.cell.choose_spec rfl rfl rfl rfl rfl (Nat.le_of_ble_eq_true rfl) (Nat.le_of_ble_eq_true rfl) (Nat.le_of_ble_eq_true rfl) (Nat.le_of_ble_eq_true rfl) (cP_reason (b := true) hA6 fun h6 hP6 hX6 => ?_)
  have hZ6 : z_Z h0 p h6 (zs_2 i) := b6 _ _ hP6 hX6
  have f := zf_5 i hi
  generalize z_fReason (zs_2 i) (0 : Int32) (z_I true) = R at f ⊢
  refine z_kI (v := (0 : Int32)) f.1 f.2 ?_
  refine z_if_ne rfl (fun u => absurd rfl u) (fun _ => ?_)
  refine z_aload rfl rfl ?_
  refine z_iconst (v := (nI 3)) rfl (by decide) ?_
  refine z_iconst (v := (0 : Int32)) rfl (by decide) ?_
  refine z_iconst (v := (0 : Int32)) rfl (by decide) ?_
  refine z_iconst (v := (0 : Int32)) rfl (by decide) ?_
  obtain ⟨B7, hA7, b7⟩ := hZ6.opn
  refine z_callSX (av := [_, _, _, _, _]) rfl z_w175 rfl rfl rfl rfl (Nat.le_of_ble_eq_true rfl) (Nat.le_of_ble_eq_true rfl) (Nat.le_of_ble_eq_true rfl) (Nat.le_of_ble_eq_true rfl) (c_act (k := 3) (by decide) (fun e => absurd e (by decide)) (fun _ => rfl) (fun _ => rfl) (zw_2 i).1 hA7 fun h7 hP7 hX7 => ?_)
  have hZ7 : z_Z h0 p h7 (zs_3 i) := b7 _ _ (hP7.cg (zn_3 i)) hX7
  refine z_kJ (v := (-99 : Int32)) (zf_6 i hi) ?_
  refine z_bipush (v := (-99 : Int32)) rfl (by decide) ?_
  refine z_icmp_ne rfl (fun u => absurd rfl u) (fun _ => ?_)
  refine z_aload rfl rfl ?_
  refine z_iconst (v := (0 : Int32)) rfl (by decide) ?_
  refine z_iconst (v := (z_I false)) rfl (by decide) ?_
  obtain ⟨B8, hA8, b8⟩ := hZ7.opn
  refine z_callV (av := [_, _]) rfl z_w146 hA8.cell.choose_spec rfl rfl rfl rfl rfl (Nat.le_of_ble_eq_true rfl) (Nat.le_of_ble_eq_true rfl) (Nat.le_of_ble_eq_true rfl) (Nat.le_of_ble_eq_true rfl) (cP_reason (b := false) hA8 fun h8 hP8 hX8 => ?_)
  have hZ8 : z_Z h0 p h8 (zs_3 i) := b8 _ _ hP8 hX8
  have f := zf_7 i hi
  generalize z_fReason (zs_3 i) (0 : Int32) (z_I false) = R at f ⊢
  refine z_kI (v := (2 : Int32)) f.1 f.2 ?_
  refine z_iconst (v := (2 : Int32)) rfl (by decide) ?_
  refine z_icmp_ne rfl (fun u => absurd rfl u) (fun _ => ?_)
  refine z_aload rfl rfl ?_
  refine z_iconst (v := (0 : Int32)) rfl (by decide) ?_
  refine z_iconst (v := (z_I true)) rfl (by decide) ?_
  obtain ⟨B9, hA9, b9⟩ := hZ8.opn
  refine z_callV (av := [_, _]) rfl z_w146 hA9.cell.choose_spec rfl rfl rfl rfl rfl (Nat.le_of_ble_eq_true rfl) (Nat.le_of_ble_eq_true rfl) (Nat.le_of_ble_eq_true rfl) (Nat.le_of_ble_eq_true rfl) (cP_reason (b := true) hA9 fun h9 hP9 hX9 => ?_)
  have hZ9 : z_Z h0 p h9 (zs_3 i) := b9 _ _ hP9 hX9
  have f := zf_8 i hi
  generalize z_fReason (zs_3 i) (0 : Int32) (z_I true) = R at f ⊢
  refine z_kI (v := (0 : Int32)) f.1 f.2 ?_
  refine z_if_ne rfl (fun u => absurd rfl u) (fun _ => ?_)
  refine z_aload rfl rfl ?_
  refine z_iconst (v := (2 : Int32)) rfl (by decide) ?_
  obtain ⟨B10, hA10, b10⟩ := hZ9.opn
  refine z_callV (av := [_]) rfl z_w117 hA10.cell.choose_spec rfl rfl rfl rfl rfl (Nat.le_of_ble_eq_true rfl) (Nat.le_of_ble_eq_true rfl) (Nat.le_of_ble_eq_true rfl) (Nat.le_of_ble_eq_true rfl) (cP_keeper hA10 fun h10 hP10 hX10 => ?_)
  have hZ10 : z_Z h0 p h10 (zs_3 i) := b10 _ _ hP10 hX10
  have f := zf_9 i hi
  generalize z_fKeeper (zs_3 i) (2 : Int32) = R at f ⊢
  refine z_kI (v := (-1 : Int32)) f.1 f.2 ?_
  refine z_iconst (v := (-1 : Int32)) rfl (by decide) ?_
  refine z_icmp_eq rfl (fun _ => ?_) (fun u => absurd rfl u)
  exact (kk _ hZ10).mono (Nat.le_refl _) (Nat.le_of_ble_eq_true rfl) (Nat.le_of_ble_eq_true rfl)
theorem c_z2 (hi : i < 16) (hZ0 : z_Z h0 p h (zs_3 i)) (kk : ∀ h1, z_Z h0 p h1 (zs_7 i) → z_W G 14 9000 340000 338 880 [.ref 0, .ref 1000, .retAddr 0, b3, b4, .retAddr 0, .retAddr 0, .retAddr 0, .int (nI (10 + i)), .ref p] [] h1 Q) : z_W G 14 13000 540000 338 611 [.ref 0, .ref 1000, .retAddr 0, b3, b4, .retAddr 0, .retAddr 0, .retAddr 0, .int (nI (10 + i)), .ref p] [] h Q := by
  refine z_aload rfl rfl ?_
  have lz0 := hZ0.low
  refine z_bdNew (h := h) (mc' := 12998) (ms' := 539980) rfl rfl rfl (by decide) (Nat.le_of_ble_eq_true rfl) (Nat.le_of_ble_eq_true rfl) rfl (fun gt1_0 at1 hBt1_0 => ?_)
  refine z_ldcS (i := 16) rfl rfl (by decide) rfl ?_
  refine z_bdS (mc' := 12997) (ms' := 539778) rfl (by decide) (zf_10 i hi) (by decide) hBt1_0 (by decide) (Nat.le_of_ble_eq_true rfl) (Nat.le_of_ble_eq_true rfl) rfl (fun gt1_1 hBt1_1 => ?_)
  rw [zf_11 i hi] at hBt1_1
  refine z_iload rfl rfl ?_
  refine z_bdI (mc' := 12996) (ms' := 539576) rfl (by omega) (zf_12 i hi) (by decide) hBt1_1 (by decide) (Nat.le_of_ble_eq_true rfl) (Nat.le_of_ble_eq_true rfl) rfl (fun gt1_2 hBt1_2 => ?_)
  rw [zf_13 i hi] at hBt1_2
  refine z_ldcS (i := 17) rfl rfl (by decide) rfl ?_
  refine z_bdS (mc' := 12995) (ms' := 539374) rfl (by decide) (zf_14 i hi) (by decide) hBt1_2 (by decide) (Nat.le_of_ble_eq_true rfl) (Nat.le_of_ble_eq_true rfl) rfl (fun gt1_3 hBt1_3 => ?_)
  rw [zf_15 i hi] at hBt1_3
  refine z_iload rfl rfl ?_
  refine z_iconst (v := (5 : Int32)) rfl (by decide) ?_
  refine z_iadd rfl ?_
  rw [show ((nI (10 + i)) + (5 : Int32)) = nI (10 + i + 5) from nI_add (10 + i) 5]
  refine z_bdI (mc' := 12994) (ms' := 539172) rfl (by omega) (zf_16 i hi) (by decide) hBt1_3 (by decide) (Nat.le_of_ble_eq_true rfl) (Nat.le_of_ble_eq_true rfl) rfl (fun gt1_4 hBt1_4 => ?_)
  rw [zf_17 i hi] at hBt1_4
  refine z_ldcS (i := 18) rfl rfl (by decide) rfl ?_
  refine z_bdS (mc' := 12993) (ms' := 538970) rfl (by decide) (zf_18 i hi) (by decide) hBt1_4 (by decide) (Nat.le_of_ble_eq_true rfl) (Nat.le_of_ble_eq_true rfl) rfl (fun gt1_5 hBt1_5 => ?_)
  rw [zf_19 i hi] at hBt1_5
  refine z_iload rfl rfl ?_
  refine z_bipush (v := (11 : Int32)) rfl (by decide) ?_
  refine z_iadd rfl ?_
  rw [show ((nI (10 + i)) + (11 : Int32)) = nI (10 + i + 11) from nI_add (10 + i) 11]
  refine z_bdI (mc' := 12992) (ms' := 538768) rfl (by omega) (zf_20 i hi) (by decide) hBt1_5 (by decide) (Nat.le_of_ble_eq_true rfl) (Nat.le_of_ble_eq_true rfl) rfl (fun gt1_6 hBt1_6 => ?_)
  rw [zf_21 i hi] at hBt1_6
  refine z_ldcS (i := 19) rfl rfl (by decide) rfl ?_
  refine z_bdS (mc' := 12991) (ms' := 538566) rfl (by decide) (zf_22 i hi) (by decide) hBt1_6 (by decide) (Nat.le_of_ble_eq_true rfl) (Nat.le_of_ble_eq_true rfl) rfl (fun gt1_7 hBt1_7 => ?_)
  rw [zf_23 i hi] at hBt1_7
  refine z_iload rfl rfl ?_
  refine z_bdI (mc' := 12990) (ms' := 538364) rfl (by omega) (zf_24 i hi) (by decide) hBt1_7 (by decide) (Nat.le_of_ble_eq_true rfl) (Nat.le_of_ble_eq_true rfl) rfl (fun gt1_8 hBt1_8 => ?_)
  rw [zf_25 i hi] at hBt1_8
  refine z_ldcS (i := 20) rfl rfl (by decide) rfl ?_
  refine z_bdS (mc' := 12989) (ms' := 538162) rfl (by decide) (zf_26 i hi) (by decide) hBt1_8 (by decide) (Nat.le_of_ble_eq_true rfl) (Nat.le_of_ble_eq_true rfl) rfl (fun gt1_9 hBt1_9 => ?_)
  rw [zf_27 i hi] at hBt1_9
  refine z_bdT (l := zt1 i) (mc' := 12987) (ms' := 537852) rfl (zf_28 i hi) (zf_29 i hi) (by decide) hBt1_9 (by decide) (Nat.le_of_ble_eq_true rfl) (Nat.le_of_ble_eq_true rfl) rfl (fun kt1 st1 hTt1 ut1 vt1 wt1 xt1 => ?_)
  obtain ⟨B1, hA1, nb1, b1⟩ := hZ0.opnT wt1 xt1
  refine z_callS (av := [_, _]) rfl z_w173 rfl rfl rfl rfl (Nat.le_of_ble_eq_true rfl) (Nat.le_of_ble_eq_true rfl) (Nat.le_of_ble_eq_true rfl) (Nat.le_of_ble_eq_true rfl) (c_lPut (l := zt1 i) (fun g hXg => hTt1.keptX (hXg.2 _ (nb1 _ (by omega) (by omega)) (Or.inr (by omega))) (hXg.2 _ (nb1 _ (by omega) (by omega)) (Or.inr (by omega)))) (zf_30 i hi) (zf_31 i hi) hA1 fun h1 hP1 hX1 => ?_)
  have hZ1 : z_Z h0 p h1 (zs_4 i) := b1 _ _ (hP1.cg (zn_4 i)) hX1
  refine z_aload rfl rfl ?_
  obtain ⟨B2, hA2, b2⟩ := hZ1.opn
  refine z_callV (av := []) rfl z_w144 hA2.cell.choose_spec rfl rfl rfl rfl rfl (Nat.le_of_ble_eq_true rfl) (Nat.le_of_ble_eq_true rfl) (Nat.le_of_ble_eq_true rfl) (Nat.le_of_ble_eq_true rfl) (cP_run z_wf (fun v hv => hv.1) (fun v o hv hk hr => hv.do hk hr) (zw_4 i) hA2 fun h2 hP2 hX2 => ?_)
  have hZ2 : z_Z h0 p h2 (zs_5 i) := b2 _ _ (hP2.cg (zn_5 i)) hX2
  have f := zf_32 i hi
  generalize z_fRun (zs_4 i) = R at f ⊢
  refine z_kI (v := (5 : Int32)) f.1 f.2 ?_
  refine z_iconst (v := (5 : Int32)) rfl (by decide) ?_
  refine z_icmp_ne rfl (fun u => absurd rfl u) (fun _ => ?_)
  refine z_aload rfl rfl ?_
  refine z_iconst (v := (0 : Int32)) rfl (by decide) ?_
  refine z_bipush (v := (6 : Int32)) rfl (by decide) ?_
  obtain ⟨B3, hA3, b3⟩ := hZ2.opn
  refine z_callV (av := [_, _]) rfl z_w115 hA3.cell.choose_spec rfl rfl rfl rfl rfl (Nat.le_of_ble_eq_true rfl) (Nat.le_of_ble_eq_true rfl) (Nat.le_of_ble_eq_true rfl) (Nat.le_of_ble_eq_true rfl) (cP_clockOf hA3 fun h3 hP3 hX3 => ?_)
  have hZ3 : z_Z h0 p h3 (zs_5 i) := b3 _ _ hP3 hX3
  have f := zf_33 i hi
  generalize z_fClockOf (zs_5 i) (0 : Int32) (6 : Int32) = R at f ⊢
  refine z_kI (v := (2 : Int32)) f.1 f.2 ?_
  refine z_iconst (v := (2 : Int32)) rfl (by decide) ?_
  refine z_icmp_ne rfl (fun u => absurd rfl u) (fun _ => ?_)
  refine z_aload rfl rfl ?_
  refine z_iconst (v := (1 : Int32)) rfl (by decide) ?_
  refine z_bipush (v := (6 : Int32)) rfl (by decide) ?_
  obtain ⟨B4, hA4, b4⟩ := hZ3.opn
  refine z_callV (av := [_, _]) rfl z_w115 hA4.cell.choose_spec rfl rfl rfl rfl rfl (Nat.le_of_ble_eq_true rfl) (Nat.le_of_ble_eq_true rfl) (Nat.le_of_ble_eq_true rfl) (Nat.le_of_ble_eq_true rfl) (cP_clockOf hA4 fun h4 hP4 hX4 => ?_)
  have hZ4 : z_Z h0 p h4 (zs_5 i) := b4 _ _ hP4 hX4
  have f := zf_34 i hi
  generalize z_fClockOf (zs_5 i) (1 : Int32) (6 : Int32) = R at f ⊢
  refine z_kI (v := (1 : Int32)) f.1 f.2 ?_
  refine z_iconst (v := (1 : Int32)) rfl (by decide) ?_
  refine z_icmp_ne rfl (fun u => absurd rfl u) (fun _ => ?_)
  refine z_aload rfl rfl ?_
  refine z_iconst (v := (2 : Int32)) rfl (by decide) ?_
  refine z_bipush (v := (6 : Int32)) rfl (by decide) ?_
  obtain ⟨B5, hA5, b5⟩ := hZ4.opn
  refine z_callV (av := [_, _]) rfl z_w115 hA5.cell.choose_spec rfl rfl rfl rfl rfl (Nat.le_of_ble_eq_true rfl) (Nat.le_of_ble_eq_true rfl) (Nat.le_of_ble_eq_true rfl) (Nat.le_of_ble_eq_true rfl) (cP_clockOf hA5 fun h5 hP5 hX5 => ?_)
  have hZ5 : z_Z h0 p h5 (zs_5 i) := b5 _ _ hP5 hX5
  have f := zf_35 i hi
  generalize z_fClockOf (zs_5 i) (2 : Int32) (6 : Int32) = R at f ⊢
  refine z_kI (v := (0 : Int32)) f.1 f.2 ?_
  refine z_if_ne rfl (fun u => absurd rfl u) (fun _ => ?_)
  refine z_aload rfl rfl ?_
  refine z_iconst (v := (0 : Int32)) rfl (by decide) ?_
  obtain ⟨B6, hA6, b6⟩ := hZ5.opn
  refine z_callV (av := [_]) rfl z_w137 hA6.cell.choose_spec rfl rfl rfl rfl rfl (Nat.le_of_ble_eq_true rfl) (Nat.le_of_ble_eq_true rfl) (Nat.le_of_ble_eq_true rfl) (Nat.le_of_ble_eq_true rfl) (cP_circle hA6 fun h6 hP6 hX6 => ?_)
  have hZ6 : z_Z h0 p h6 (zs_5 i) := b6 _ _ hP6 hX6
  have f := zf_36 i hi
  generalize z_fCircle (zs_5 i) (0 : Int32) = R at f ⊢
  refine z_kI (v := (3 : Int32)) f.1 f.2 ?_
  refine z_iconst (v := (3 : Int32)) rfl (by decide) ?_
  refine z_icmp_ne rfl (fun u => absurd rfl u) (fun _ => ?_)
  refine z_aload rfl rfl ?_
  refine z_iconst (v := (2 : Int32)) rfl (by decide) ?_
  obtain ⟨B7, hA7, b7⟩ := hZ6.opn
  refine z_callV (av := [_]) rfl z_w137 hA7.cell.choose_spec rfl rfl rfl rfl rfl (Nat.le_of_ble_eq_true rfl) (Nat.le_of_ble_eq_true rfl) (Nat.le_of_ble_eq_true rfl) (Nat.le_of_ble_eq_true rfl) (cP_circle hA7 fun h7 hP7 hX7 => ?_)
  have hZ7 : z_Z h0 p h7 (zs_5 i) := b7 _ _ hP7 hX7
  have f := zf_37 i hi
  generalize z_fCircle (zs_5 i) (2 : Int32) = R at f ⊢
  refine z_kI (v := (4 : Int32)) f.1 f.2 ?_
  refine z_iconst (v := (4 : Int32)) rfl (by decide) ?_
  refine z_icmp_ne rfl (fun u => absurd rfl u) (fun _ => ?_)
  refine z_aload rfl rfl ?_
  refine z_iconst (v := (0 : Int32)) rfl (by decide) ?_
  refine z_iconst (v := (2 : Int32)) rfl (by decide) ?_
  obtain ⟨B8, hA8, b8⟩ := hZ7.opn
  refine z_callV (av := [_, _]) rfl z_w119 hA8.cell.choose_spec rfl rfl rfl rfl rfl (Nat.le_of_ble_eq_true rfl) (Nat.le_of_ble_eq_true rfl) (Nat.le_of_ble_eq_true rfl) (Nat.le_of_ble_eq_true rfl) (cP_apart hA8 fun h8 hP8 hX8 => ?_)
  have hZ8 : z_Z h0 p h8 (zs_5 i) := b8 _ _ hP8 hX8
  have f := zf_38 i hi
  generalize z_fApart (zs_5 i) (0 : Int32) (2 : Int32) = R at f ⊢
  refine z_kI (v := (11 : Int32)) f.1 f.2 ?_
  refine z_bipush (v := (11 : Int32)) rfl (by decide) ?_
  refine z_icmp_ne rfl (fun u => absurd rfl u) (fun _ => ?_)
  refine z_aload rfl rfl ?_
  refine z_iconst (v := (0 : Int32)) rfl (by decide) ?_
  obtain ⟨B9, hA9, b9⟩ := hZ8.opn
  refine z_callV (av := [_]) rfl z_w131 hA9.cell.choose_spec rfl rfl rfl rfl rfl (Nat.le_of_ble_eq_true rfl) (Nat.le_of_ble_eq_true rfl) (Nat.le_of_ble_eq_true rfl) (Nat.le_of_ble_eq_true rfl) (cP_voters hA9 fun h9 hP9 hX9 => ?_)
  have hZ9 : z_Z h0 p h9 (zs_5 i) := b9 _ _ hP9 hX9
  have f := zf_39 i hi
  generalize z_fVoters (zs_5 i) (0 : Int32) = R at f ⊢
  refine z_kI (v := (7 : Int32)) f.1 f.2 ?_
  refine z_bipush (v := (7 : Int32)) rfl (by decide) ?_
  refine z_icmp_ne rfl (fun u => absurd rfl u) (fun _ => ?_)
  refine z_aload rfl rfl ?_
  refine z_iconst (v := (0 : Int32)) rfl (by decide) ?_
  obtain ⟨B10, hA10, b10⟩ := hZ9.opn
  refine z_callV (av := [_]) rfl z_w132 hA10.cell.choose_spec rfl rfl rfl rfl rfl (Nat.le_of_ble_eq_true rfl) (Nat.le_of_ble_eq_true rfl) (Nat.le_of_ble_eq_true rfl) (Nat.le_of_ble_eq_true rfl) (cP_majority hA10 fun h10 hP10 hX10 => ?_)
  have hZ10 : z_Z h0 p h10 (zs_5 i) := b10 _ _ hP10 hX10
  have f := zf_40 i hi
  generalize z_fMajority (zs_5 i) (0 : Int32) = R at f ⊢
  refine z_kI (v := (1 : Int32)) f.1 f.2 ?_
  refine z_iconst (v := (1 : Int32)) rfl (by decide) ?_
  refine z_icmp_ne rfl (fun u => absurd rfl u) (fun _ => ?_)
  refine z_aload rfl rfl ?_
  refine z_iconst (v := (0 : Int32)) rfl (by decide) ?_
  obtain ⟨B11, hA11, b11⟩ := hZ10.opn
  refine z_callV (av := [_]) rfl z_w133 hA11.cell.choose_spec rfl rfl rfl rfl rfl (Nat.le_of_ble_eq_true rfl) (Nat.le_of_ble_eq_true rfl) (Nat.le_of_ble_eq_true rfl) (Nat.le_of_ble_eq_true rfl) (cP_majorityAgain hA11 fun h11 hP11 hX11 => ?_)
  have hZ11 : z_Z h0 p h11 (zs_5 i) := b11 _ _ hP11 hX11
  have f := zf_41 i hi
  generalize z_fMajorityAgain (zs_5 i) (0 : Int32) = R at f ⊢
  refine z_kI (v := (1 : Int32)) f.1 f.2 ?_
  refine z_iconst (v := (1 : Int32)) rfl (by decide) ?_
  refine z_icmp_ne rfl (fun u => absurd rfl u) (fun _ => ?_)
  refine z_aload rfl rfl ?_
  refine z_iconst (v := (0 : Int32)) rfl (by decide) ?_
  obtain ⟨B12, hA12, b12⟩ := hZ11.opn
  refine z_callV (av := [_]) rfl z_w134 hA12.cell.choose_spec rfl rfl rfl rfl rfl (Nat.le_of_ble_eq_true rfl) (Nat.le_of_ble_eq_true rfl) (Nat.le_of_ble_eq_true rfl) (Nat.le_of_ble_eq_true rfl) (cP_wouldCarry hA12 fun h12 hP12 hX12 => ?_)
  have hZ12 : z_Z h0 p h12 (zs_5 i) := b12 _ _ hP12 hX12
  have f := zf_42 i hi
  generalize z_fWouldCarry (zs_5 i) (0 : Int32) = R at f ⊢
  refine z_kI (v := (0 : Int32)) f.1 f.2 ?_
  refine z_if_ne rfl (fun u => absurd rfl u) (fun _ => ?_)
  refine z_aload rfl rfl ?_
  obtain ⟨B13, hA13, b13⟩ := hZ12.opn
  refine z_callV (av := []) rfl z_w135 hA13.cell.choose_spec rfl rfl rfl rfl rfl (Nat.le_of_ble_eq_true rfl) (Nat.le_of_ble_eq_true rfl) (Nat.le_of_ble_eq_true rfl) (Nat.le_of_ble_eq_true rfl) (cP_carried hA13 fun h13 hP13 hX13 => ?_)
  have hZ13 : z_Z h0 p h13 (zs_5 i) := b13 _ _ hP13 hX13
  refine z_kJ (v := (0 : Int32)) (zf_43 i hi) ?_
  refine z_if_ne rfl (fun u => absurd rfl u) (fun _ => ?_)
  refine z_aload rfl rfl ?_
  refine z_aload rfl rfl ?_
  refine z_iconst (v := (0 : Int32)) rfl (by decide) ?_
  obtain ⟨B14, hA14, b14⟩ := hZ13.opn
  refine z_callV (av := [_]) rfl z_w147 hA14.cell.choose_spec rfl rfl rfl rfl rfl (Nat.le_of_ble_eq_true rfl) (Nat.le_of_ble_eq_true rfl) (Nat.le_of_ble_eq_true rfl) (Nat.le_of_ble_eq_true rfl) (cP_tell (z_twoC (zw_5 i)) hA14 fun h14 hP14 hX14 => ?_)
  have hZ14 : z_Z h0 p h14 (zs_6 i) := b14 _ _ (hP14.cg (zn_6 i)) hX14
  have f := zf_52 i hi
  generalize z_fTell (zs_5 i) (0 : Int32) = R at f ⊢
  refine z_kI (v := nI (zt2 i).length) f.1 f.2 ?_
  have lz14 := hZ14.low
  refine z_bdNew (h := h14) (mc' := 12681) (ms' := 514952) rfl rfl rfl (by decide) (Nat.le_of_ble_eq_true rfl) (Nat.le_of_ble_eq_true rfl) rfl (fun gt2_0 at2 hBt2_0 => ?_)
  refine z_ldcS (i := 21) rfl rfl (by decide) rfl ?_
  refine z_bdS (mc' := 12680) (ms' := 514750) rfl (by decide) (zf_44 i hi) (by decide) hBt2_0 (by decide) (Nat.le_of_ble_eq_true rfl) (Nat.le_of_ble_eq_true rfl) rfl (fun gt2_1 hBt2_1 => ?_)
  rw [zf_45 i hi] at hBt2_1
  refine z_iload rfl rfl ?_
  refine z_bdI (mc' := 12679) (ms' := 514548) rfl (by omega) (zf_46 i hi) (by decide) hBt2_1 (by decide) (Nat.le_of_ble_eq_true rfl) (Nat.le_of_ble_eq_true rfl) rfl (fun gt2_2 hBt2_2 => ?_)
  rw [zf_47 i hi] at hBt2_2
  refine z_ldcS (i := 22) rfl rfl (by decide) rfl ?_
  refine z_bdS (mc' := 12678) (ms' := 514346) rfl (by decide) (zf_48 i hi) (by decide) hBt2_2 (by decide) (Nat.le_of_ble_eq_true rfl) (Nat.le_of_ble_eq_true rfl) rfl (fun gt2_3 hBt2_3 => ?_)
  rw [zf_49 i hi] at hBt2_3
  refine z_bdT (l := zt2 i) (mc' := 12676) (ms' := 514036) rfl (zf_50 i hi) (zf_51 i hi) (by decide) hBt2_3 (by decide) (Nat.le_of_ble_eq_true rfl) (Nat.le_of_ble_eq_true rfl) rfl (fun kt2 st2 hTt2 ut2 vt2 wt2 xt2 => ?_)
  obtain ⟨B15, hA15, nb15, b15⟩ := hZ14.opnT wt2 xt2
  refine z_callS (av := [_, _, _]) rfl z_w177 rfl rfl rfl rfl (Nat.le_of_ble_eq_true rfl) (Nat.le_of_ble_eq_true rfl) (Nat.le_of_ble_eq_true rfl) (Nat.le_of_ble_eq_true rfl) (c_isLine (fun g hXg => hTt2.keptX (hXg.2 _ (nb15 _ (by omega) (by omega)) (Or.inr (by omega))) (hXg.2 _ (nb15 _ (by omega) (by omega)) (Or.inr (by omega)))) (zf_53 i hi) hA15 fun h15 hP15 hX15 => ?_)
  have hZ15 : z_Z h0 p h15 (zs_6 i) := b15 _ _ hP15 hX15
  refine z_kJ (v := 1) rfl ?_
  refine z_if_eq rfl (fun u => absurd u (by decide)) (fun _ => ?_)
  refine z_aload rfl rfl ?_
  refine z_aload rfl rfl ?_
  refine z_iconst (v := (0 : Int32)) rfl (by decide) ?_
  obtain ⟨B16, hA16, b16⟩ := hZ15.opn
  refine z_callV (av := [_]) rfl z_w148 hA16.cell.choose_spec rfl rfl rfl rfl rfl (Nat.le_of_ble_eq_true rfl) (Nat.le_of_ble_eq_true rfl) (Nat.le_of_ble_eq_true rfl) (Nat.le_of_ble_eq_true rfl) (cP_tellBill (z_twoB (zw_6 i)) hA16 fun h16 hP16 hX16 => ?_)
  have hZ16 : z_Z h0 p h16 (zs_7 i) := b16 _ _ (hP16.cg (zn_7 i)) hX16
  have f := zf_62 i hi
  generalize z_fTellBill (zs_6 i) (0 : Int32) = R at f ⊢
  refine z_kI (v := nI (zt3 i).length) f.1 f.2 ?_
  have lz16 := hZ16.low
  refine z_bdNew (h := h16) (mc' := 12254) (ms' := 507616) rfl rfl rfl (by decide) (Nat.le_of_ble_eq_true rfl) (Nat.le_of_ble_eq_true rfl) rfl (fun gt3_0 at3 hBt3_0 => ?_)
  refine z_ldcS (i := 23) rfl rfl (by decide) rfl ?_
  refine z_bdS (mc' := 12253) (ms' := 507414) rfl (by decide) (zf_54 i hi) (by decide) hBt3_0 (by decide) (Nat.le_of_ble_eq_true rfl) (Nat.le_of_ble_eq_true rfl) rfl (fun gt3_1 hBt3_1 => ?_)
  rw [zf_55 i hi] at hBt3_1
  refine z_iload rfl rfl ?_
  refine z_bdI (mc' := 12252) (ms' := 507212) rfl (by omega) (zf_56 i hi) (by decide) hBt3_1 (by decide) (Nat.le_of_ble_eq_true rfl) (Nat.le_of_ble_eq_true rfl) rfl (fun gt3_2 hBt3_2 => ?_)
  rw [zf_57 i hi] at hBt3_2
  refine z_ldcS (i := 24) rfl rfl (by decide) rfl ?_
  refine z_bdS (mc' := 12251) (ms' := 507010) rfl (by decide) (zf_58 i hi) (by decide) hBt3_2 (by decide) (Nat.le_of_ble_eq_true rfl) (Nat.le_of_ble_eq_true rfl) rfl (fun gt3_3 hBt3_3 => ?_)
  rw [zf_59 i hi] at hBt3_3
  refine z_bdT (l := zt3 i) (mc' := 12249) (ms' := 506700) rfl (zf_60 i hi) (zf_61 i hi) (by decide) hBt3_3 (by decide) (Nat.le_of_ble_eq_true rfl) (Nat.le_of_ble_eq_true rfl) rfl (fun kt3 st3 hTt3 ut3 vt3 wt3 xt3 => ?_)
  obtain ⟨B17, hA17, nb17, b17⟩ := hZ16.opnT wt3 xt3
  refine z_callS (av := [_, _, _]) rfl z_w177 rfl rfl rfl rfl (Nat.le_of_ble_eq_true rfl) (Nat.le_of_ble_eq_true rfl) (Nat.le_of_ble_eq_true rfl) (Nat.le_of_ble_eq_true rfl) (c_isLine (fun g hXg => hTt3.keptX (hXg.2 _ (nb17 _ (by omega) (by omega)) (Or.inr (by omega))) (hXg.2 _ (nb17 _ (by omega) (by omega)) (Or.inr (by omega)))) (zf_63 i hi) hA17 fun h17 hP17 hX17 => ?_)
  have hZ17 : z_Z h0 p h17 (zs_7 i) := b17 _ _ hP17 hX17
  refine z_kJ (v := 1) rfl ?_
  refine z_if_ne rfl (fun _ => ?_) (fun u => absurd u (by decide))
  exact (kk _ hZ17).mono (Nat.le_refl _) (Nat.le_of_ble_eq_true rfl) (Nat.le_of_ble_eq_true rfl)
theorem c_z3 (hi : i < 16) (hZ0 : z_Z h0 p h (zs_7 i)) (kk : ∀ h1, z_Z h0 p h1 (zs_12 i) → z_W G 14 7500 280000 338 1085 [.ref 0, .ref 1000, .retAddr 0, b3, b4, .retAddr 0, .retAddr 0, .retAddr 0, .int (nI (10 + i)), .ref p] [] h1 Q) : z_W G 14 9000 340000 338 880 [.ref 0, .ref 1000, .retAddr 0, b3, b4, .retAddr 0, .retAddr 0, .retAddr 0, .int (nI (10 + i)), .ref p] [] h Q := by
  refine z_aload rfl rfl ?_
  refine z_iconst (v := (nI 3)) rfl (by decide) ?_
  refine z_iconst (v := (2 : Int32)) rfl (by decide) ?_
  refine z_iconst (v := (2 : Int32)) rfl (by decide) ?_
  refine z_iconst (v := (0 : Int32)) rfl (by decide) ?_
  obtain ⟨B1, hA1, b1⟩ := hZ0.opn
  refine z_callSX (av := [_, _, _, _, _]) rfl z_w175 rfl rfl rfl rfl (Nat.le_of_ble_eq_true rfl) (Nat.le_of_ble_eq_true rfl) (Nat.le_of_ble_eq_true rfl) (Nat.le_of_ble_eq_true rfl) (c_act (k := 3) (by decide) (fun e => absurd e (by decide)) (fun e => absurd e (by decide)) (fun _ => rfl) (zw_7 i).1 hA1 fun h1 hP1 hX1 => ?_)
  have hZ1 : z_Z h0 p h1 (zs_8 i) := b1 _ _ (hP1.cg (zn_8 i)) hX1
  refine z_kJ (v := (-99 : Int32)) (zf_64 i hi) ?_
  refine z_bipush (v := (-99 : Int32)) rfl (by decide) ?_
  refine z_icmp_ne rfl (fun u => absurd rfl u) (fun _ => ?_)
  refine z_aload rfl rfl ?_
  refine z_iconst (v := (0 : Int32)) rfl (by decide) ?_
  refine z_iconst (v := (z_I false)) rfl (by decide) ?_
  obtain ⟨B2, hA2, b2⟩ := hZ1.opn
  refine z_callV (av := [_, _]) rfl z_w146 hA2.cell.choose_spec rfl rfl rfl rfl rfl (Nat.le_of_ble_eq_true rfl) (Nat.le_of_ble_eq_true rfl) (Nat.le_of_ble_eq_true rfl) (Nat.le_of_ble_eq_true rfl) (cP_reason (b := false) hA2 fun h2 hP2 hX2 => ?_)
  have hZ2 : z_Z h0 p h2 (zs_8 i) := b2 _ _ hP2 hX2
  have f := zf_65 i hi
  generalize z_fReason (zs_8 i) (0 : Int32) (z_I false) = R at f ⊢
  refine z_kI (v := (10 : Int32)) f.1 f.2 ?_
  refine z_bipush (v := (10 : Int32)) rfl (by decide) ?_
  refine z_icmp_ne rfl (fun u => absurd rfl u) (fun _ => ?_)
  refine z_aload rfl rfl ?_
  refine z_iconst (v := (0 : Int32)) rfl (by decide) ?_
  refine z_iconst (v := (z_I true)) rfl (by decide) ?_
  obtain ⟨B3, hA3, b3⟩ := hZ2.opn
  refine z_callV (av := [_, _]) rfl z_w146 hA3.cell.choose_spec rfl rfl rfl rfl rfl (Nat.le_of_ble_eq_true rfl) (Nat.le_of_ble_eq_true rfl) (Nat.le_of_ble_eq_true rfl) (Nat.le_of_ble_eq_true rfl) (cP_reason (b := true) hA3 fun h3 hP3 hX3 => ?_)
  have hZ3 : z_Z h0 p h3 (zs_8 i) := b3 _ _ hP3 hX3
  have f := zf_66 i hi
  generalize z_fReason (zs_8 i) (0 : Int32) (z_I true) = R at f ⊢
  refine z_kI (v := (11 : Int32)) f.1 f.2 ?_
  refine z_bipush (v := (11 : Int32)) rfl (by decide) ?_
  refine z_icmp_ne rfl (fun u => absurd rfl u) (fun _ => ?_)
  refine z_aload rfl rfl ?_
  refine z_iconst (v := (nI 3)) rfl (by decide) ?_
  refine z_iconst (v := (2 : Int32)) rfl (by decide) ?_
  refine z_iconst (v := (1 : Int32)) rfl (by decide) ?_
  refine z_iconst (v := (0 : Int32)) rfl (by decide) ?_
  obtain ⟨B4, hA4, b4⟩ := hZ3.opn
  refine z_callSX (av := [_, _, _, _, _]) rfl z_w175 rfl rfl rfl rfl (Nat.le_of_ble_eq_true rfl) (Nat.le_of_ble_eq_true rfl) (Nat.le_of_ble_eq_true rfl) (Nat.le_of_ble_eq_true rfl) (c_act (k := 3) (by decide) (fun e => absurd e (by decide)) (fun e => absurd e (by decide)) (fun _ => rfl) (zw_8 i).1 hA4 fun h4 hP4 hX4 => ?_)
  have hZ4 : z_Z h0 p h4 (zs_9 i) := b4 _ _ (hP4.cg (zn_9 i)) hX4
  refine z_kJ (v := (-99 : Int32)) (zf_67 i hi) ?_
  refine z_bipush (v := (-99 : Int32)) rfl (by decide) ?_
  refine z_icmp_ne rfl (fun u => absurd rfl u) (fun _ => ?_)
  refine z_aload rfl rfl ?_
  refine z_iconst (v := (0 : Int32)) rfl (by decide) ?_
  refine z_iconst (v := (z_I false)) rfl (by decide) ?_
  obtain ⟨B5, hA5, b5⟩ := hZ4.opn
  refine z_callV (av := [_, _]) rfl z_w146 hA5.cell.choose_spec rfl rfl rfl rfl rfl (Nat.le_of_ble_eq_true rfl) (Nat.le_of_ble_eq_true rfl) (Nat.le_of_ble_eq_true rfl) (Nat.le_of_ble_eq_true rfl) (cP_reason (b := false) hA5 fun h5 hP5 hX5 => ?_)
  have hZ5 : z_Z h0 p h5 (zs_9 i) := b5 _ _ hP5 hX5
  have f := zf_68 i hi
  generalize z_fReason (zs_9 i) (0 : Int32) (z_I false) = R at f ⊢
  refine z_kI (v := (4 : Int32)) f.1 f.2 ?_
  refine z_iconst (v := (4 : Int32)) rfl (by decide) ?_
  refine z_icmp_ne rfl (fun u => absurd rfl u) (fun _ => ?_)
  refine z_aload rfl rfl ?_
  refine z_iconst (v := (0 : Int32)) rfl (by decide) ?_
  refine z_iconst (v := (z_I true)) rfl (by decide) ?_
  obtain ⟨B6, hA6, b6⟩ := hZ5.opn
  refine z_callV (av := [_, _]) rfl z_w146 hA6.cell.choose_spec rfl rfl rfl rfl rfl (Nat.le_of_ble_eq_true rfl) (Nat.le_of_ble_eq_true rfl) (Nat.le_of_ble_eq_true rfl) (Nat.le_of_ble_eq_true rfl) (cP_reason (b := true) hA6 fun h6 hP6 hX6 => ?_)
  have hZ6 : z_Z h0 p h6 (zs_9 i) := b6 _ _ hP6 hX6
  have f := zf_69 i hi
  generalize z_fReason (zs_9 i) (0 : Int32) (z_I true) = R at f ⊢
  refine z_kI (v := (24 : Int32)) f.1 f.2 ?_
  refine z_bipush (v := (24 : Int32)) rfl (by decide) ?_
  refine z_icmp_ne rfl (fun u => absurd rfl u) (fun _ => ?_)
  refine z_aload rfl rfl ?_
  refine z_iconst (v := (2 : Int32)) rfl (by decide) ?_
  refine z_bipush (v := (19 : Int32)) rfl (by decide) ?_
  obtain ⟨B7, hA7, b7⟩ := hZ6.opn
  refine z_callV (av := [_, _]) rfl z_w108 hA7.cell.choose_spec rfl rfl rfl rfl rfl (Nat.le_of_ble_eq_true rfl) (Nat.le_of_ble_eq_true rfl) (Nat.le_of_ble_eq_true rfl) (Nat.le_of_ble_eq_true rfl) (cP_move (zw_9 i).1 hA7 fun h7 hP7 hX7 => ?_)
  have hZ7 : z_Z h0 p h7 (zs_10 i) := b7 _ _ (hP7.cg (zn_10 i)) hX7
  have f := zf_70 i hi
  generalize z_fChg (zs_9 i) (4, (2 : Int32), (19 : Int32), 0, 0) = R at f ⊢
  refine z_kI (v := (((nI (10 + i)) + (30 : Int32)) - ((nI (10 + i)) + (30 : Int32)) / (60 : Int32) * (60 : Int32))) f.1 f.2 ?_
  refine z_iload rfl rfl ?_
  refine z_bipush (v := (30 : Int32)) rfl (by decide) ?_
  refine z_iadd rfl ?_
  refine z_bipush (v := (60 : Int32)) rfl (by decide) ?_
  refine z_irem rfl (by decide) ?_
  refine z_icmp_ne rfl (fun u => absurd rfl u) (fun _ => ?_)
  refine z_aload rfl rfl ?_
  refine z_iconst (v := (2 : Int32)) rfl (by decide) ?_
  refine z_iconst (v := (1 : Int32)) rfl (by decide) ?_
  obtain ⟨B8, hA8, b8⟩ := hZ7.opn
  refine z_callV (av := [_, _]) rfl z_w115 hA8.cell.choose_spec rfl rfl rfl rfl rfl (Nat.le_of_ble_eq_true rfl) (Nat.le_of_ble_eq_true rfl) (Nat.le_of_ble_eq_true rfl) (Nat.le_of_ble_eq_true rfl) (cP_clockOf hA8 fun h8 hP8 hX8 => ?_)
  have hZ8 : z_Z h0 p h8 (zs_10 i) := b8 _ _ hP8 hX8
  have f := zf_71 i hi
  generalize z_fClockOf (zs_10 i) (2 : Int32) (1 : Int32) = R at f ⊢
  refine z_kI (v := (22 : Int32)) f.1 f.2 ?_
  refine z_bipush (v := (22 : Int32)) rfl (by decide) ?_
  refine z_icmp_ne rfl (fun u => absurd rfl u) (fun _ => ?_)
  refine z_aload rfl rfl ?_
  refine z_iconst (v := (0 : Int32)) rfl (by decide) ?_
  obtain ⟨B9, hA9, b9⟩ := hZ8.opn
  refine z_callV (av := [_]) rfl z_w131 hA9.cell.choose_spec rfl rfl rfl rfl rfl (Nat.le_of_ble_eq_true rfl) (Nat.le_of_ble_eq_true rfl) (Nat.le_of_ble_eq_true rfl) (Nat.le_of_ble_eq_true rfl) (cP_voters hA9 fun h9 hP9 hX9 => ?_)
  have hZ9 : z_Z h0 p h9 (zs_10 i) := b9 _ _ hP9 hX9
  have f := zf_72 i hi
  generalize z_fVoters (zs_10 i) (0 : Int32) = R at f ⊢
  refine z_kI (v := (3 : Int32)) f.1 f.2 ?_
  refine z_iconst (v := (3 : Int32)) rfl (by decide) ?_
  refine z_icmp_ne rfl (fun u => absurd rfl u) (fun _ => ?_)
  refine z_aload rfl rfl ?_
  refine z_iconst (v := (0 : Int32)) rfl (by decide) ?_
  obtain ⟨B10, hA10, b10⟩ := hZ9.opn
  refine z_callV (av := [_]) rfl z_w132 hA10.cell.choose_spec rfl rfl rfl rfl rfl (Nat.le_of_ble_eq_true rfl) (Nat.le_of_ble_eq_true rfl) (Nat.le_of_ble_eq_true rfl) (Nat.le_of_ble_eq_true rfl) (cP_majority hA10 fun h10 hP10 hX10 => ?_)
  have hZ10 : z_Z h0 p h10 (zs_10 i) := b10 _ _ hP10 hX10
  have f := zf_73 i hi
  generalize z_fMajority (zs_10 i) (0 : Int32) = R at f ⊢
  refine z_kI (v := (4 : Int32)) f.1 f.2 ?_
  refine z_iconst (v := (4 : Int32)) rfl (by decide) ?_
  refine z_icmp_ne rfl (fun u => absurd rfl u) (fun _ => ?_)
  refine z_aload rfl rfl ?_
  refine z_iconst (v := (0 : Int32)) rfl (by decide) ?_
  obtain ⟨B11, hA11, b11⟩ := hZ10.opn
  refine z_callV (av := [_]) rfl z_w134 hA11.cell.choose_spec rfl rfl rfl rfl rfl (Nat.le_of_ble_eq_true rfl) (Nat.le_of_ble_eq_true rfl) (Nat.le_of_ble_eq_true rfl) (Nat.le_of_ble_eq_true rfl) (cP_wouldCarry hA11 fun h11 hP11 hX11 => ?_)
  have hZ11 : z_Z h0 p h11 (zs_10 i) := b11 _ _ hP11 hX11
  have f := zf_74 i hi
  generalize z_fWouldCarry (zs_10 i) (0 : Int32) = R at f ⊢
  refine z_kI (v := (1 : Int32)) f.1 f.2 ?_
  refine z_if_eq rfl (fun u => absurd u (by decide)) (fun _ => ?_)
  refine z_aload rfl rfl ?_
  obtain ⟨B12, hA12, b12⟩ := hZ11.opn
  refine z_callV (av := []) rfl z_w135 hA12.cell.choose_spec rfl rfl rfl rfl rfl (Nat.le_of_ble_eq_true rfl) (Nat.le_of_ble_eq_true rfl) (Nat.le_of_ble_eq_true rfl) (Nat.le_of_ble_eq_true rfl) (cP_carried hA12 fun h12 hP12 hX12 => ?_)
  have hZ12 : z_Z h0 p h12 (zs_10 i) := b12 _ _ hP12 hX12
  refine z_kJ (v := (1 : Int32)) (zf_75 i hi) ?_
  refine z_iconst (v := (1 : Int32)) rfl (by decide) ?_
  refine z_icmp_ne rfl (fun u => absurd rfl u) (fun _ => ?_)
  refine z_aload rfl rfl ?_
  refine z_iconst (v := (1 : Int32)) rfl (by decide) ?_
  refine z_iload rfl rfl ?_
  refine z_bipush (v := (30 : Int32)) rfl (by decide) ?_
  refine z_iadd rfl ?_
  refine z_bipush (v := (60 : Int32)) rfl (by decide) ?_
  refine z_irem rfl (by decide) ?_
  refine z_iconst (v := (1 : Int32)) rfl (by decide) ?_
  obtain ⟨B13, hA13, b13⟩ := hZ12.opn
  refine z_callV (av := [_, _, _]) rfl z_w109 hA13.cell.choose_spec rfl rfl rfl rfl rfl (Nat.le_of_ble_eq_true rfl) (Nat.le_of_ble_eq_true rfl) (Nat.le_of_ble_eq_true rfl) (Nat.le_of_ble_eq_true rfl) (cP_bill (zw_10 i).1 hA13 fun h13 hP13 hX13 => ?_)
  have hZ13 : z_Z h0 p h13 (zs_11 i) := b13 _ _ (hP13.cg (zn_11 i)) hX13
  have f := zf_76 i hi
  generalize z_fChg (zs_10 i) (5, (1 : Int32), (((nI (10 + i)) + (30 : Int32)) - ((nI (10 + i)) + (30 : Int32)) / (60 : Int32) * (60 : Int32)), (1 : Int32), 0) = R at f ⊢
  refine z_kI (v := (1 : Int32)) f.1 f.2 ?_
  refine z_iconst (v := (1 : Int32)) rfl (by decide) ?_
  refine z_icmp_ne rfl (fun u => absurd rfl u) (fun _ => ?_)
  refine z_aload rfl rfl ?_
  refine z_iconst (v := (2 : Int32)) rfl (by decide) ?_
  refine z_iload rfl rfl ?_
  refine z_bipush (v := (30 : Int32)) rfl (by decide) ?_
  refine z_iadd rfl ?_
  refine z_bipush (v := (60 : Int32)) rfl (by decide) ?_
  refine z_irem rfl (by decide) ?_
  refine z_iconst (v := (1 : Int32)) rfl (by decide) ?_
  obtain ⟨B14, hA14, b14⟩ := hZ13.opn
  refine z_callV (av := [_, _, _]) rfl z_w109 hA14.cell.choose_spec rfl rfl rfl rfl rfl (Nat.le_of_ble_eq_true rfl) (Nat.le_of_ble_eq_true rfl) (Nat.le_of_ble_eq_true rfl) (Nat.le_of_ble_eq_true rfl) (cP_bill (zw_11 i).1 hA14 fun h14 hP14 hX14 => ?_)
  have hZ14 : z_Z h0 p h14 (zs_12 i) := b14 _ _ (hP14.cg (zn_12 i)) hX14
  have f := zf_77 i hi
  generalize z_fChg (zs_11 i) (5, (2 : Int32), (((nI (10 + i)) + (30 : Int32)) - ((nI (10 + i)) + (30 : Int32)) / (60 : Int32) * (60 : Int32)), (1 : Int32), 0) = R at f ⊢
  refine z_kI (v := (2 : Int32)) f.1 f.2 ?_
  refine z_iconst (v := (2 : Int32)) rfl (by decide) ?_
  refine z_icmp_ne rfl (fun u => absurd rfl u) (fun _ => ?_)
  refine z_aload rfl rfl ?_
  refine z_iconst (v := (1 : Int32)) rfl (by decide) ?_
  obtain ⟨B15, hA15, b15⟩ := hZ14.opn
  refine z_callV (av := [_]) rfl z_w131 hA15.cell.choose_spec rfl rfl rfl rfl rfl (Nat.le_of_ble_eq_true rfl) (Nat.le_of_ble_eq_true rfl) (Nat.le_of_ble_eq_true rfl) (Nat.le_of_ble_eq_true rfl) (cP_voters hA15 fun h15 hP15 hX15 => ?_)
  have hZ15 : z_Z h0 p h15 (zs_12 i) := b15 _ _ hP15 hX15
  have f := zf_78 i hi
  generalize z_fVoters (zs_12 i) (1 : Int32) = R at f ⊢
  refine z_kI (v := (4 : Int32)) f.1 f.2 ?_
  refine z_iconst (v := (4 : Int32)) rfl (by decide) ?_
  refine z_icmp_ne rfl (fun u => absurd rfl u) (fun _ => ?_)
  refine z_aload rfl rfl ?_
  refine z_iconst (v := (1 : Int32)) rfl (by decide) ?_
  obtain ⟨B16, hA16, b16⟩ := hZ15.opn
  refine z_callV (av := [_]) rfl z_w132 hA16.cell.choose_spec rfl rfl rfl rfl rfl (Nat.le_of_ble_eq_true rfl) (Nat.le_of_ble_eq_true rfl) (Nat.le_of_ble_eq_true rfl) (Nat.le_of_ble_eq_true rfl) (cP_majority hA16 fun h16 hP16 hX16 => ?_)
  have hZ16 : z_Z h0 p h16 (zs_12 i) := b16 _ _ hP16 hX16
  have f := zf_79 i hi
  generalize z_fMajority (zs_12 i) (1 : Int32) = R at f ⊢
  refine z_kI (v := (-3 : Int32)) f.1 f.2 ?_
  refine z_bipush (v := (-3 : Int32)) rfl (by decide) ?_
  refine z_icmp_eq rfl (fun _ => ?_) (fun u => absurd rfl u)
  exact (kk _ hZ16).mono (Nat.le_refl _) (Nat.le_of_ble_eq_true rfl) (Nat.le_of_ble_eq_true rfl)
theorem c_z4 (hi : i < 16) (hZ0 : z_Z h0 p h (zs_12 i)) (kk : ∀ h1, z_Z h0 p h1 (zs_20 i) → z_W G 14 3500 80000 338 1336 [.ref 0, .ref 1000, .retAddr 0, b3, b4, .retAddr 0, .retAddr 0, .retAddr 0, .int (nI (10 + i)), .ref p] [] h1 Q) : z_W G 14 7500 280000 338 1085 [.ref 0, .ref 1000, .retAddr 0, b3, b4, .retAddr 0, .retAddr 0, .retAddr 0, .int (nI (10 + i)), .ref p] [] h Q := by
  refine z_aload rfl rfl ?_
  refine z_iconst (v := (0 : Int32)) rfl (by decide) ?_
  refine z_iconst (v := (2 : Int32)) rfl (by decide) ?_
  obtain ⟨B1, hA1, b1⟩ := hZ0.opn
  refine z_callV (av := [_, _]) rfl z_w110 hA1.cell.choose_spec rfl rfl rfl rfl rfl (Nat.le_of_ble_eq_true rfl) (Nat.le_of_ble_eq_true rfl) (Nat.le_of_ble_eq_true rfl) (Nat.le_of_ble_eq_true rfl) (cP_adjourn (zw_12 i).1 hA1 fun h1 hP1 hX1 => ?_)
  have hZ1 : z_Z h0 p h1 (zs_13 i) := b1 _ _ (hP1.cg (zn_13 i)) hX1
  have f := zf_80 i hi
  generalize z_fChg (zs_12 i) (6, (0 : Int32), (2 : Int32), 0, 0) = R at f ⊢
  refine z_kI (v := (1 : Int32)) f.1 f.2 ?_
  refine z_iconst (v := (1 : Int32)) rfl (by decide) ?_
  refine z_icmp_ne rfl (fun u => absurd rfl u) (fun _ => ?_)
  refine z_aload rfl rfl ?_
  refine z_bipush (v := (nI 6)) rfl (by decide) ?_
  refine z_iconst (v := (0 : Int32)) rfl (by decide) ?_
  refine z_iconst (v := (1 : Int32)) rfl (by decide) ?_
  refine z_iconst (v := (0 : Int32)) rfl (by decide) ?_
  obtain ⟨B2, hA2, b2⟩ := hZ1.opn
  refine z_callSX (av := [_, _, _, _, _]) rfl z_w175 rfl rfl rfl rfl (Nat.le_of_ble_eq_true rfl) (Nat.le_of_ble_eq_true rfl) (Nat.le_of_ble_eq_true rfl) (Nat.le_of_ble_eq_true rfl) (c_act (k := 6) (by decide) (fun e => absurd e (by decide)) (fun e => absurd e (by decide)) (fun _ => rfl) (zw_13 i).1 hA2 fun h2 hP2 hX2 => ?_)
  have hZ2 : z_Z h0 p h2 (zs_14 i) := b2 _ _ (hP2.cg (zn_14 i)) hX2
  refine z_kJ (v := (-99 : Int32)) (zf_81 i hi) ?_
  refine z_bipush (v := (-99 : Int32)) rfl (by decide) ?_
  refine z_icmp_ne rfl (fun u => absurd rfl u) (fun _ => ?_)
  refine z_aload rfl rfl ?_
  refine z_iconst (v := (0 : Int32)) rfl (by decide) ?_
  refine z_iconst (v := (z_I false)) rfl (by decide) ?_
  obtain ⟨B3, hA3, b3⟩ := hZ2.opn
  refine z_callV (av := [_, _]) rfl z_w146 hA3.cell.choose_spec rfl rfl rfl rfl rfl (Nat.le_of_ble_eq_true rfl) (Nat.le_of_ble_eq_true rfl) (Nat.le_of_ble_eq_true rfl) (Nat.le_of_ble_eq_true rfl) (cP_reason (b := false) hA3 fun h3 hP3 hX3 => ?_)
  have hZ3 : z_Z h0 p h3 (zs_14 i) := b3 _ _ hP3 hX3
  have f := zf_82 i hi
  generalize z_fReason (zs_14 i) (0 : Int32) (z_I false) = R at f ⊢
  refine z_kI (v := (8 : Int32)) f.1 f.2 ?_
  refine z_bipush (v := (8 : Int32)) rfl (by decide) ?_
  refine z_icmp_ne rfl (fun u => absurd rfl u) (fun _ => ?_)
  refine z_aload rfl rfl ?_
  refine z_iconst (v := (0 : Int32)) rfl (by decide) ?_
  refine z_iconst (v := (z_I true)) rfl (by decide) ?_
  obtain ⟨B4, hA4, b4⟩ := hZ3.opn
  refine z_callV (av := [_, _]) rfl z_w146 hA4.cell.choose_spec rfl rfl rfl rfl rfl (Nat.le_of_ble_eq_true rfl) (Nat.le_of_ble_eq_true rfl) (Nat.le_of_ble_eq_true rfl) (Nat.le_of_ble_eq_true rfl) (cP_reason (b := true) hA4 fun h4 hP4 hX4 => ?_)
  have hZ4 : z_Z h0 p h4 (zs_14 i) := b4 _ _ hP4 hX4
  have f := zf_83 i hi
  generalize z_fReason (zs_14 i) (0 : Int32) (z_I true) = R at f ⊢
  refine z_kI (v := (2 : Int32)) f.1 f.2 ?_
  refine z_iconst (v := (2 : Int32)) rfl (by decide) ?_
  refine z_icmp_ne rfl (fun u => absurd rfl u) (fun _ => ?_)
  refine z_aload rfl rfl ?_
  refine z_iconst (v := (2 : Int32)) rfl (by decide) ?_
  refine z_iconst (v := (2 : Int32)) rfl (by decide) ?_
  obtain ⟨B5, hA5, b5⟩ := hZ4.opn
  refine z_callV (av := [_, _]) rfl z_w110 hA5.cell.choose_spec rfl rfl rfl rfl rfl (Nat.le_of_ble_eq_true rfl) (Nat.le_of_ble_eq_true rfl) (Nat.le_of_ble_eq_true rfl) (Nat.le_of_ble_eq_true rfl) (cP_adjourn (zw_14 i).1 hA5 fun h5 hP5 hX5 => ?_)
  have hZ5 : z_Z h0 p h5 (zs_15 i) := b5 _ _ (hP5.cg (zn_15 i)) hX5
  have f := zf_84 i hi
  generalize z_fChg (zs_14 i) (6, (2 : Int32), (2 : Int32), 0, 0) = R at f ⊢
  refine z_kI (v := (2 : Int32)) f.1 f.2 ?_
  refine z_iconst (v := (2 : Int32)) rfl (by decide) ?_
  refine z_icmp_ne rfl (fun u => absurd rfl u) (fun _ => ?_)
  refine z_aload rfl rfl ?_
  refine z_aload rfl rfl ?_
  obtain ⟨B6, hA6, b6⟩ := hZ5.opn
  refine z_callV (av := []) rfl z_w149 hA6.cell.choose_spec rfl rfl rfl rfl rfl (Nat.le_of_ble_eq_true rfl) (Nat.le_of_ble_eq_true rfl) (Nat.le_of_ble_eq_true rfl) (Nat.le_of_ble_eq_true rfl) (cP_tellRow (z_twoR (zw_15 i)) hA6 fun h6 hP6 hX6 => ?_)
  have hZ6 : z_Z h0 p h6 (zs_16 i) := b6 _ _ (hP6.cg (zn_16 i)) hX6
  refine z_kJ (v := nI (z_lsc 25).length) (zf_85 i hi) ?_
  refine z_ldcS (i := 25) rfl rfl (by decide) rfl ?_
  obtain ⟨B7, hA7, b7⟩ := hZ6.opn
  refine z_callS (av := [_, _, _]) rfl z_w177 rfl rfl rfl rfl (Nat.le_of_ble_eq_true rfl) (Nat.le_of_ble_eq_true rfl) (Nat.le_of_ble_eq_true rfl) (Nat.le_of_ble_eq_true rfl) (c_isLine (fun g _ => z_txK g (by decide)) (zf_86 i hi) hA7 fun h7 hP7 hX7 => ?_)
  have hZ7 : z_Z h0 p h7 (zs_16 i) := b7 _ _ hP7 hX7
  refine z_kJ (v := 1) rfl ?_
  refine z_if_eq rfl (fun u => absurd u (by decide)) (fun _ => ?_)
  refine z_aload rfl rfl ?_
  obtain ⟨B8, hA8, b8⟩ := hZ7.opn
  refine z_callV (av := []) rfl z_w125 hA8.cell.choose_spec rfl rfl rfl rfl rfl (Nat.le_of_ble_eq_true rfl) (Nat.le_of_ble_eq_true rfl) (Nat.le_of_ble_eq_true rfl) (Nat.le_of_ble_eq_true rfl) (cP_next hA8 fun h8 hP8 hX8 => ?_)
  have hZ8 : z_Z h0 p h8 (zs_16 i) := b8 _ _ hP8 hX8
  have f := zf_87 i hi
  generalize z_fNext (zs_16 i) = R at f ⊢
  refine z_kI (v := (2 : Int32)) f.1 f.2 ?_
  refine z_iconst (v := (2 : Int32)) rfl (by decide) ?_
  refine z_icmp_ne rfl (fun u => absurd rfl u) (fun _ => ?_)
  refine z_aload rfl rfl ?_
  refine z_iconst (v := (1 : Int32)) rfl (by decide) ?_
  refine z_iconst (v := (0 : Int32)) rfl (by decide) ?_
  obtain ⟨B9, hA9, b9⟩ := hZ8.opn
  refine z_callV (av := [_, _]) rfl z_w123 hA9.cell.choose_spec rfl rfl rfl rfl rfl (Nat.le_of_ble_eq_true rfl) (Nat.le_of_ble_eq_true rfl) (Nat.le_of_ble_eq_true rfl) (Nat.le_of_ble_eq_true rfl) (cP_rowIn hA9 fun h9 hP9 hX9 => ?_)
  have hZ9 : z_Z h0 p h9 (zs_16 i) := b9 _ _ hP9 hX9
  have f := zf_88 i hi
  generalize z_fRowIn (zs_16 i) (1 : Int32) (0 : Int32) = R at f ⊢
  refine z_kI (v := (1 : Int32)) f.1 f.2 ?_
  refine z_iconst (v := (1 : Int32)) rfl (by decide) ?_
  refine z_icmp_ne rfl (fun u => absurd rfl u) (fun _ => ?_)
  refine z_aload rfl rfl ?_
  refine z_iconst (v := (2 : Int32)) rfl (by decide) ?_
  refine z_iconst (v := (0 : Int32)) rfl (by decide) ?_
  obtain ⟨B10, hA10, b10⟩ := hZ9.opn
  refine z_callV (av := [_, _]) rfl z_w123 hA10.cell.choose_spec rfl rfl rfl rfl rfl (Nat.le_of_ble_eq_true rfl) (Nat.le_of_ble_eq_true rfl) (Nat.le_of_ble_eq_true rfl) (Nat.le_of_ble_eq_true rfl) (cP_rowIn hA10 fun h10 hP10 hX10 => ?_)
  have hZ10 : z_Z h0 p h10 (zs_16 i) := b10 _ _ hP10 hX10
  have f := zf_89 i hi
  generalize z_fRowIn (zs_16 i) (2 : Int32) (0 : Int32) = R at f ⊢
  refine z_kI (v := (0 : Int32)) f.1 f.2 ?_
  refine z_if_ne rfl (fun u => absurd rfl u) (fun _ => ?_)
  refine z_aload rfl rfl ?_
  refine z_iconst (v := (2 : Int32)) rfl (by decide) ?_
  refine z_iconst (v := (1 : Int32)) rfl (by decide) ?_
  obtain ⟨B11, hA11, b11⟩ := hZ10.opn
  refine z_callV (av := [_, _]) rfl z_w124 hA11.cell.choose_spec rfl rfl rfl rfl rfl (Nat.le_of_ble_eq_true rfl) (Nat.le_of_ble_eq_true rfl) (Nat.le_of_ble_eq_true rfl) (Nat.le_of_ble_eq_true rfl) (cP_rowAgain hA11 fun h11 hP11 hX11 => ?_)
  have hZ11 : z_Z h0 p h11 (zs_16 i) := b11 _ _ hP11 hX11
  have f := zf_90 i hi
  generalize z_fRowAgain (zs_16 i) (2 : Int32) (1 : Int32) = R at f ⊢
  refine z_kI (v := (2 : Int32)) f.1 f.2 ?_
  refine z_iconst (v := (2 : Int32)) rfl (by decide) ?_
  refine z_icmp_ne rfl (fun u => absurd rfl u) (fun _ => ?_)
  refine z_aload rfl rfl ?_
  refine z_iconst (v := (2 : Int32)) rfl (by decide) ?_
  refine z_iconst (v := (2 : Int32)) rfl (by decide) ?_
  obtain ⟨B12, hA12, b12⟩ := hZ11.opn
  refine z_callV (av := [_, _]) rfl z_w123 hA12.cell.choose_spec rfl rfl rfl rfl rfl (Nat.le_of_ble_eq_true rfl) (Nat.le_of_ble_eq_true rfl) (Nat.le_of_ble_eq_true rfl) (Nat.le_of_ble_eq_true rfl) (cP_rowIn hA12 fun h12 hP12 hX12 => ?_)
  have hZ12 : z_Z h0 p h12 (zs_16 i) := b12 _ _ hP12 hX12
  have f := zf_91 i hi
  generalize z_fRowIn (zs_16 i) (2 : Int32) (2 : Int32) = R at f ⊢
  refine z_kI (v := (1 : Int32)) f.1 f.2 ?_
  refine z_iconst (v := (1 : Int32)) rfl (by decide) ?_
  refine z_icmp_ne rfl (fun u => absurd rfl u) (fun _ => ?_)
  refine z_aload rfl rfl ?_
  refine z_iconst (v := (2 : Int32)) rfl (by decide) ?_
  obtain ⟨B13, hA13, b13⟩ := hZ12.opn
  refine z_callV (av := [_]) rfl z_w113 hA13.cell.choose_spec rfl rfl rfl rfl rfl (Nat.le_of_ble_eq_true rfl) (Nat.le_of_ble_eq_true rfl) (Nat.le_of_ble_eq_true rfl) (Nat.le_of_ble_eq_true rfl) (cP_hour (zw_16 i).1 hA13 fun h13 hP13 hX13 => ?_)
  have hZ13 : z_Z h0 p h13 (zs_17 i) := b13 _ _ (hP13.cg (zn_17 i)) hX13
  have f := zf_92 i hi
  generalize z_fChg (zs_16 i) (9, (2 : Int32), 0, 0, 0) = R at f ⊢
  refine z_kI (v := (2 : Int32)) f.1 f.2 ?_
  refine z_iconst (v := (2 : Int32)) rfl (by decide) ?_
  refine z_icmp_ne rfl (fun u => absurd rfl u) (fun _ => ?_)
  refine z_aload rfl rfl ?_
  refine z_aload rfl rfl ?_
  obtain ⟨B14, hA14, b14⟩ := hZ13.opn
  refine z_callV (av := []) rfl z_w149 hA14.cell.choose_spec rfl rfl rfl rfl rfl (Nat.le_of_ble_eq_true rfl) (Nat.le_of_ble_eq_true rfl) (Nat.le_of_ble_eq_true rfl) (Nat.le_of_ble_eq_true rfl) (cP_tellRow (z_twoR (zw_17 i)) hA14 fun h14 hP14 hX14 => ?_)
  have hZ14 : z_Z h0 p h14 (zs_18 i) := b14 _ _ (hP14.cg (zn_18 i)) hX14
  refine z_kJ (v := nI (z_lsc 26).length) (zf_93 i hi) ?_
  refine z_ldcSW (i := 26) rfl rfl (by decide) rfl ?_
  obtain ⟨B15, hA15, b15⟩ := hZ14.opn
  refine z_callS (av := [_, _, _]) rfl z_w177 rfl rfl rfl rfl (Nat.le_of_ble_eq_true rfl) (Nat.le_of_ble_eq_true rfl) (Nat.le_of_ble_eq_true rfl) (Nat.le_of_ble_eq_true rfl) (c_isLine (fun g _ => z_txK g (by decide)) (zf_94 i hi) hA15 fun h15 hP15 hX15 => ?_)
  have hZ15 : z_Z h0 p h15 (zs_18 i) := b15 _ _ hP15 hX15
  refine z_kJ (v := 1) rfl ?_
  refine z_if_eq rfl (fun u => absurd u (by decide)) (fun _ => ?_)
  refine z_aload rfl rfl ?_
  refine z_bipush (v := (10 : Int32)) rfl (by decide) ?_
  obtain ⟨B16, hA16, b16⟩ := hZ15.opn
  refine z_callV (av := [_]) rfl z_w153 hA16.cell.choose_spec rfl rfl rfl rfl rfl (Nat.le_of_ble_eq_true rfl) (Nat.le_of_ble_eq_true rfl) (Nat.le_of_ble_eq_true rfl) (Nat.le_of_ble_eq_true rfl) (cP_account hA16 fun h16 hP16 hX16 => ?_)
  have hZ16 : z_Z h0 p h16 (zs_18 i) := b16 _ _ hP16 hX16
  have f := zf_95 i hi
  generalize z_fAccount (zs_18 i) (10 : Int32) = R at f ⊢
  refine z_kI (v := (2 : Int32)) f.1 f.2 ?_
  refine z_iconst (v := (2 : Int32)) rfl (by decide) ?_
  refine z_icmp_ne rfl (fun u => absurd rfl u) (fun _ => ?_)
  refine z_aload rfl rfl ?_
  refine z_iconst (v := (0 : Int32)) rfl (by decide) ?_
  refine z_iconst (v := (1 : Int32)) rfl (by decide) ?_
  obtain ⟨B17, hA17, b17⟩ := hZ16.opn
  refine z_callV (av := [_, _]) rfl z_w115 hA17.cell.choose_spec rfl rfl rfl rfl rfl (Nat.le_of_ble_eq_true rfl) (Nat.le_of_ble_eq_true rfl) (Nat.le_of_ble_eq_true rfl) (Nat.le_of_ble_eq_true rfl) (cP_clockOf hA17 fun h17 hP17 hX17 => ?_)
  have hZ17 : z_Z h0 p h17 (zs_18 i) := b17 _ _ hP17 hX17
  have f := zf_96 i hi
  generalize z_fClockOf (zs_18 i) (0 : Int32) (1 : Int32) = R at f ⊢
  refine z_kI (v := (22 : Int32)) f.1 f.2 ?_
  refine z_bipush (v := (22 : Int32)) rfl (by decide) ?_
  refine z_icmp_ne rfl (fun u => absurd rfl u) (fun _ => ?_)
  refine z_aload rfl rfl ?_
  refine z_iconst (v := (0 : Int32)) rfl (by decide) ?_
  refine z_iconst (v := (0 : Int32)) rfl (by decide) ?_
  obtain ⟨B18, hA18, b18⟩ := hZ17.opn
  refine z_callV (av := [_, _]) rfl z_w115 hA18.cell.choose_spec rfl rfl rfl rfl rfl (Nat.le_of_ble_eq_true rfl) (Nat.le_of_ble_eq_true rfl) (Nat.le_of_ble_eq_true rfl) (Nat.le_of_ble_eq_true rfl) (cP_clockOf hA18 fun h18 hP18 hX18 => ?_)
  have hZ18 : z_Z h0 p h18 (zs_18 i) := b18 _ _ hP18 hX18
  have f := zf_97 i hi
  generalize z_fClockOf (zs_18 i) (0 : Int32) (0 : Int32) = R at f ⊢
  refine z_kI (v := ((nI (10 + i)) + (2 : Int32))) f.1 f.2 ?_
  refine z_iload rfl rfl ?_
  refine z_iconst (v := (2 : Int32)) rfl (by decide) ?_
  refine z_iadd rfl ?_
  refine z_icmp_ne rfl (fun u => absurd rfl u) (fun _ => ?_)
  refine z_aload rfl rfl ?_
  obtain ⟨B19, hA19, b19⟩ := hZ18.opn
  refine z_callV (av := []) rfl z_w112 hA19.cell.choose_spec rfl rfl rfl rfl rfl (Nat.le_of_ble_eq_true rfl) (Nat.le_of_ble_eq_true rfl) (Nat.le_of_ble_eq_true rfl) (Nat.le_of_ble_eq_true rfl) (cP_vote (zw_18 i).1 hA19 fun h19 hP19 hX19 => ?_)
  have hZ19 : z_Z h0 p h19 (zs_19 i) := b19 _ _ (hP19.cg (zn_19 i)) hX19
  have f := zf_98 i hi
  generalize z_fChg (zs_18 i) (8, 0, 0, 0, 0) = R at f ⊢
  refine z_kI (v := (4 : Int32)) f.1 f.2 ?_
  refine z_iconst (v := (4 : Int32)) rfl (by decide) ?_
  refine z_icmp_ne rfl (fun u => absurd rfl u) (fun _ => ?_)
  refine z_aload rfl rfl ?_
  refine z_bipush (v := (7 : Int32)) rfl (by decide) ?_
  obtain ⟨B20, hA20, b20⟩ := hZ19.opn
  refine z_callV (av := [_]) rfl z_w153 hA20.cell.choose_spec rfl rfl rfl rfl rfl (Nat.le_of_ble_eq_true rfl) (Nat.le_of_ble_eq_true rfl) (Nat.le_of_ble_eq_true rfl) (Nat.le_of_ble_eq_true rfl) (cP_account hA20 fun h20 hP20 hX20 => ?_)
  have hZ20 : z_Z h0 p h20 (zs_19 i) := b20 _ _ hP20 hX20
  have f := zf_99 i hi
  generalize z_fAccount (zs_19 i) (7 : Int32) = R at f ⊢
  refine z_kI (v := (1 : Int32)) f.1 f.2 ?_
  refine z_iconst (v := (1 : Int32)) rfl (by decide) ?_
  refine z_icmp_ne rfl (fun u => absurd rfl u) (fun _ => ?_)
  refine z_aload rfl rfl ?_
  refine z_aload rfl rfl ?_
  obtain ⟨B21, hA21, b21⟩ := hZ20.opn
  refine z_callV (av := []) rfl z_w149 hA21.cell.choose_spec rfl rfl rfl rfl rfl (Nat.le_of_ble_eq_true rfl) (Nat.le_of_ble_eq_true rfl) (Nat.le_of_ble_eq_true rfl) (Nat.le_of_ble_eq_true rfl) (cP_tellRow (z_twoR (zw_19 i)) hA21 fun h21 hP21 hX21 => ?_)
  have hZ21 : z_Z h0 p h21 (zs_20 i) := b21 _ _ (hP21.cg (zn_20 i)) hX21
  refine z_kJ (v := nI (z_lsc 27).length) (zf_100 i hi) ?_
  refine z_ldcSW (i := 27) rfl rfl (by decide) rfl ?_
  obtain ⟨B22, hA22, b22⟩ := hZ21.opn
  refine z_callS (av := [_, _, _]) rfl z_w177 rfl rfl rfl rfl (Nat.le_of_ble_eq_true rfl) (Nat.le_of_ble_eq_true rfl) (Nat.le_of_ble_eq_true rfl) (Nat.le_of_ble_eq_true rfl) (c_isLine (fun g _ => z_txK g (by decide)) (zf_101 i hi) hA22 fun h22 hP22 hX22 => ?_)
  have hZ22 : z_Z h0 p h22 (zs_20 i) := b22 _ _ hP22 hX22
  refine z_kJ (v := 1) rfl ?_
  refine z_if_eq rfl (fun u => absurd u (by decide)) (fun _ => ?_)
  refine z_aload rfl rfl ?_
  refine z_iconst (v := (0 : Int32)) rfl (by decide) ?_
  refine z_iconst (v := (5 : Int32)) rfl (by decide) ?_
  obtain ⟨B23, hA23, b23⟩ := hZ22.opn
  refine z_callV (av := [_, _]) rfl z_w115 hA23.cell.choose_spec rfl rfl rfl rfl rfl (Nat.le_of_ble_eq_true rfl) (Nat.le_of_ble_eq_true rfl) (Nat.le_of_ble_eq_true rfl) (Nat.le_of_ble_eq_true rfl) (cP_clockOf hA23 fun h23 hP23 hX23 => ?_)
  have hZ23 : z_Z h0 p h23 (zs_20 i) := b23 _ _ hP23 hX23
  have f := zf_102 i hi
  generalize z_fClockOf (zs_20 i) (0 : Int32) (5 : Int32) = R at f ⊢
  refine z_kI (v := (1 : Int32)) f.1 f.2 ?_
  refine z_iconst (v := (1 : Int32)) rfl (by decide) ?_
  refine z_icmp_ne rfl (fun u => absurd rfl u) (fun _ => ?_)
  refine z_aload rfl rfl ?_
  refine z_iconst (v := (0 : Int32)) rfl (by decide) ?_
  refine z_iconst (v := (1 : Int32)) rfl (by decide) ?_
  obtain ⟨B24, hA24, b24⟩ := hZ23.opn
  refine z_callV (av := [_, _]) rfl z_w115 hA24.cell.choose_spec rfl rfl rfl rfl rfl (Nat.le_of_ble_eq_true rfl) (Nat.le_of_ble_eq_true rfl) (Nat.le_of_ble_eq_true rfl) (Nat.le_of_ble_eq_true rfl) (cP_clockOf hA24 fun h24 hP24 hX24 => ?_)
  have hZ24 : z_Z h0 p h24 (zs_20 i) := b24 _ _ hP24 hX24
  have f := zf_103 i hi
  generalize z_fClockOf (zs_20 i) (0 : Int32) (1 : Int32) = R at f ⊢
  refine z_kI (v := (21 : Int32)) f.1 f.2 ?_
  refine z_bipush (v := (21 : Int32)) rfl (by decide) ?_
  refine z_icmp_eq rfl (fun _ => ?_) (fun u => absurd rfl u)
  exact (kk _ hZ24).mono (Nat.le_refl _) (Nat.le_of_ble_eq_true rfl) (Nat.le_of_ble_eq_true rfl)
theorem c_z5 (hi : i < 16) (hZ0 : z_Z h0 p h (zs_20 i)) (kk : ∀ h1, z_Z h0 p h1 (zs_27 i) → z_W G 14 2000 20000 338 1595 [.ref 0, .ref 1000, .retAddr 0, b3, b4, .retAddr 0, .retAddr 0, .retAddr 0, .int (nI (10 + i)), .ref p] [] h1 Q) : z_W G 14 3500 80000 338 1336 [.ref 0, .ref 1000, .retAddr 0, b3, b4, .retAddr 0, .retAddr 0, .retAddr 0, .int (nI (10 + i)), .ref p] [] h Q := by
  refine z_aload rfl rfl ?_
  obtain ⟨B1, hA1, b1⟩ := hZ0.opn
  refine z_callV (av := []) rfl z_w112 hA1.cell.choose_spec rfl rfl rfl rfl rfl (Nat.le_of_ble_eq_true rfl) (Nat.le_of_ble_eq_true rfl) (Nat.le_of_ble_eq_true rfl) (Nat.le_of_ble_eq_true rfl) (cP_vote (zw_20 i).1 hA1 fun h1 hP1 hX1 => ?_)
  have hZ1 : z_Z h0 p h1 (zs_21 i) := b1 _ _ (hP1.cg (zn_21 i)) hX1
  have f := zf_104 i hi
  generalize z_fChg (zs_20 i) (8, 0, 0, 0, 0) = R at f ⊢
  refine z_kI (v := (-3 : Int32)) f.1 f.2 ?_
  refine z_bipush (v := (-3 : Int32)) rfl (by decide) ?_
  refine z_icmp_ne rfl (fun u => absurd rfl u) (fun _ => ?_)
  refine z_aload rfl rfl ?_
  refine z_bipush (v := (8 : Int32)) rfl (by decide) ?_
  obtain ⟨B2, hA2, b2⟩ := hZ1.opn
  refine z_callV (av := [_]) rfl z_w153 hA2.cell.choose_spec rfl rfl rfl rfl rfl (Nat.le_of_ble_eq_true rfl) (Nat.le_of_ble_eq_true rfl) (Nat.le_of_ble_eq_true rfl) (Nat.le_of_ble_eq_true rfl) (cP_account hA2 fun h2 hP2 hX2 => ?_)
  have hZ2 : z_Z h0 p h2 (zs_21 i) := b2 _ _ hP2 hX2
  have f := zf_105 i hi
  generalize z_fAccount (zs_21 i) (8 : Int32) = R at f ⊢
  refine z_kI (v := (1 : Int32)) f.1 f.2 ?_
  refine z_iconst (v := (1 : Int32)) rfl (by decide) ?_
  refine z_icmp_ne rfl (fun u => absurd rfl u) (fun _ => ?_)
  refine z_aload rfl rfl ?_
  refine z_bipush (v := (9 : Int32)) rfl (by decide) ?_
  obtain ⟨B3, hA3, b3⟩ := hZ2.opn
  refine z_callV (av := [_]) rfl z_w153 hA3.cell.choose_spec rfl rfl rfl rfl rfl (Nat.le_of_ble_eq_true rfl) (Nat.le_of_ble_eq_true rfl) (Nat.le_of_ble_eq_true rfl) (Nat.le_of_ble_eq_true rfl) (cP_account hA3 fun h3 hP3 hX3 => ?_)
  have hZ3 : z_Z h0 p h3 (zs_21 i) := b3 _ _ hP3 hX3
  have f := zf_106 i hi
  generalize z_fAccount (zs_21 i) (9 : Int32) = R at f ⊢
  refine z_kI (v := (9 : Int32)) f.1 f.2 ?_
  refine z_bipush (v := (9 : Int32)) rfl (by decide) ?_
  refine z_icmp_ne rfl (fun u => absurd rfl u) (fun _ => ?_)
  refine z_aload rfl rfl ?_
  refine z_iconst (v := (2 : Int32)) rfl (by decide) ?_
  obtain ⟨B4, hA4, b4⟩ := hZ3.opn
  refine z_callV (av := [_]) rfl z_w153 hA4.cell.choose_spec rfl rfl rfl rfl rfl (Nat.le_of_ble_eq_true rfl) (Nat.le_of_ble_eq_true rfl) (Nat.le_of_ble_eq_true rfl) (Nat.le_of_ble_eq_true rfl) (cP_account hA4 fun h4 hP4 hX4 => ?_)
  have hZ4 : z_Z h0 p h4 (zs_21 i) := b4 _ _ hP4 hX4
  have f := zf_107 i hi
  generalize z_fAccount (zs_21 i) (2 : Int32) = R at f ⊢
  refine z_kI (v := (1 : Int32)) f.1 f.2 ?_
  refine z_iconst (v := (1 : Int32)) rfl (by decide) ?_
  refine z_icmp_ne rfl (fun u => absurd rfl u) (fun _ => ?_)
  refine z_aload rfl rfl ?_
  refine z_iconst (v := (0 : Int32)) rfl (by decide) ?_
  refine z_iconst (v := (0 : Int32)) rfl (by decide) ?_
  obtain ⟨B5, hA5, b5⟩ := hZ4.opn
  refine z_callV (av := [_, _]) rfl z_w116 hA5.cell.choose_spec rfl rfl rfl rfl rfl (Nat.le_of_ble_eq_true rfl) (Nat.le_of_ble_eq_true rfl) (Nat.le_of_ble_eq_true rfl) (Nat.le_of_ble_eq_true rfl) (cP_billOf hA5 fun h5 hP5 hX5 => ?_)
  have hZ5 : z_Z h0 p h5 (zs_21 i) := b5 _ _ hP5 hX5
  have f := zf_108 i hi
  generalize z_fBillOf (zs_21 i) (0 : Int32) (0 : Int32) = R at f ⊢
  refine z_kI (v := (1 : Int32)) f.1 f.2 ?_
  refine z_iconst (v := (1 : Int32)) rfl (by decide) ?_
  refine z_icmp_ne rfl (fun u => absurd rfl u) (fun _ => ?_)
  refine z_aload rfl rfl ?_
  refine z_iconst (v := (2 : Int32)) rfl (by decide) ?_
  refine z_iconst (v := (1 : Int32)) rfl (by decide) ?_
  obtain ⟨B6, hA6, b6⟩ := hZ5.opn
  refine z_callV (av := [_, _]) rfl z_w107 hA6.cell.choose_spec rfl rfl rfl rfl rfl (Nat.le_of_ble_eq_true rfl) (Nat.le_of_ble_eq_true rfl) (Nat.le_of_ble_eq_true rfl) (Nat.le_of_ble_eq_true rfl) (cP_wind (zw_21 i).1 hA6 fun h6 hP6 hX6 => ?_)
  have hZ6 : z_Z h0 p h6 (zs_22 i) := b6 _ _ (hP6.cg (zn_22 i)) hX6
  have f := zf_109 i hi
  generalize z_fChg (zs_21 i) (3, (2 : Int32), (1 : Int32), 0, 0) = R at f ⊢
  refine z_kI (v := (21 : Int32)) f.1 f.2 ?_
  refine z_bipush (v := (21 : Int32)) rfl (by decide) ?_
  refine z_icmp_ne rfl (fun u => absurd rfl u) (fun _ => ?_)
  refine z_aload rfl rfl ?_
  refine z_bipush (v := (11 : Int32)) rfl (by decide) ?_
  obtain ⟨B7, hA7, b7⟩ := hZ6.opn
  refine z_callV (av := [_]) rfl z_w153 hA7.cell.choose_spec rfl rfl rfl rfl rfl (Nat.le_of_ble_eq_true rfl) (Nat.le_of_ble_eq_true rfl) (Nat.le_of_ble_eq_true rfl) (Nat.le_of_ble_eq_true rfl) (cP_account hA7 fun h7 hP7 hX7 => ?_)
  have hZ7 : z_Z h0 p h7 (zs_22 i) := b7 _ _ hP7 hX7
  have f := zf_110 i hi
  generalize z_fAccount (zs_22 i) (11 : Int32) = R at f ⊢
  refine z_kI (v := (1 : Int32)) f.1 f.2 ?_
  refine z_iconst (v := (1 : Int32)) rfl (by decide) ?_
  refine z_icmp_ne rfl (fun u => absurd rfl u) (fun _ => ?_)
  refine z_aload rfl rfl ?_
  obtain ⟨B8, hA8, b8⟩ := hZ7.opn
  have eS : FP.fdiv (FP.i2f ((zs_22 i).1.2.2 2)) (FP.i2f ((zs_22 i).1.2.2 1)) = 1056964608 := by rw [(zf_111 i hi).1, (zf_111 i hi).2]; decide +kernel
  have hS : vf_n32 (FP.fdiv (FP.i2f ((zs_22 i).1.2.2 2)) (FP.i2f ((zs_22 i).1.2.2 1))) := by
    rw [eS]
    exact z_n32 (by decide +kernel)
  have hne : ¬ (zs_22 i).1.2.2 1 = 0 := by
    rw [(zf_111 i hi).1]
    decide
  refine z_callV (av := []) rfl z_w155 hA8.cell.choose_spec rfl rfl rfl rfl rfl (Nat.le_of_ble_eq_true rfl) (Nat.le_of_ble_eq_true rfl) (Nat.le_of_ble_eq_true rfl) (Nat.le_of_ble_eq_true rfl) (cP_carriedShare (fun _ => hS) hA8 (fun _ => ?_) (fun e => absurd e hne))
  rw [eS]
  refine z_ldcFW (j := 7099) (b := 1056964608) rfl (by decide +kernel) ?_
  refine z_fcmp rfl ?_
  rw [show Op.cmpValue (FP.fcmp 1056964608 1056964608) CmpOp.l = 0 by decide +kernel]
  refine z_if_ne rfl (fun u => absurd rfl u) (fun _ => ?_)
  refine z_aload rfl rfl ?_
  refine z_iconst (v := (2 : Int32)) rfl (by decide) ?_
  obtain ⟨B8, hA8, b8⟩ := hZ7.opn
  refine z_callV (av := [_]) rfl z_w126 hA8.cell.choose_spec rfl rfl rfl rfl rfl (Nat.le_of_ble_eq_true rfl) (Nat.le_of_ble_eq_true rfl) (Nat.le_of_ble_eq_true rfl) (Nat.le_of_ble_eq_true rfl) (cP_silentIn hA8 fun h8 hP8 hX8 => ?_)
  have hZ8 : z_Z h0 p h8 (zs_22 i) := b8 _ _ hP8 hX8
  have f := zf_112 i hi
  generalize z_fSilentIn (zs_22 i) (2 : Int32) = R at f ⊢
  refine z_kI (v := (19 : Int32)) f.1 f.2 ?_
  refine z_bipush (v := (19 : Int32)) rfl (by decide) ?_
  refine z_icmp_ne rfl (fun u => absurd rfl u) (fun _ => ?_)
  refine z_aload rfl rfl ?_
  refine z_iconst (v := (2 : Int32)) rfl (by decide) ?_
  refine z_bipush (v := (48 : Int32)) rfl (by decide) ?_
  obtain ⟨B9, hA9, b9⟩ := hZ8.opn
  refine z_callV (av := [_, _]) rfl z_w127 hA9.cell.choose_spec rfl rfl rfl rfl rfl (Nat.le_of_ble_eq_true rfl) (Nat.le_of_ble_eq_true rfl) (Nat.le_of_ble_eq_true rfl) (Nat.le_of_ble_eq_true rfl) (cP_secondIn hA9 fun h9 hP9 hX9 => ?_)
  have hZ9 : z_Z h0 p h9 (zs_22 i) := b9 _ _ hP9 hX9
  have f := zf_113 i hi
  generalize z_fSecondIn (zs_22 i) (2 : Int32) (48 : Int32) = R at f ⊢
  refine z_kI (v := ((((nI (10 + i)) + (32 : Int32)) + (18 : Int32)) - (((nI (10 + i)) + (32 : Int32)) + (18 : Int32)) / (60 : Int32) * (60 : Int32))) f.1 f.2 ?_
  refine z_iload rfl rfl ?_
  refine z_bipush (v := (32 : Int32)) rfl (by decide) ?_
  refine z_iadd rfl ?_
  refine z_bipush (v := (18 : Int32)) rfl (by decide) ?_
  refine z_iadd rfl ?_
  refine z_bipush (v := (60 : Int32)) rfl (by decide) ?_
  refine z_irem rfl (by decide) ?_
  refine z_icmp_ne rfl (fun u => absurd rfl u) (fun _ => ?_)
  refine z_aload rfl rfl ?_
  refine z_iconst (v := (0 : Int32)) rfl (by decide) ?_
  obtain ⟨B10, hA10, b10⟩ := hZ9.opn
  refine z_callV (av := [_]) rfl z_w105 hA10.cell.choose_spec rfl rfl rfl rfl rfl (Nat.le_of_ble_eq_true rfl) (Nat.le_of_ble_eq_true rfl) (Nat.le_of_ble_eq_true rfl) (Nat.le_of_ble_eq_true rfl) (cP_leave (zw_22 i).1 hA10 fun h10 hP10 hX10 => ?_)
  have hZ10 : z_Z h0 p h10 (zs_23 i) := b10 _ _ (hP10.cg (zn_23 i)) hX10
  have f := zf_114 i hi
  generalize z_fChg (zs_22 i) (1, (0 : Int32), 0, 0, 0) = R at f ⊢
  refine z_kI (v := (2 : Int32)) f.1 f.2 ?_
  refine z_iconst (v := (2 : Int32)) rfl (by decide) ?_
  refine z_icmp_ne rfl (fun u => absurd rfl u) (fun _ => ?_)
  refine z_aload rfl rfl ?_
  refine z_iconst (v := (2 : Int32)) rfl (by decide) ?_
  obtain ⟨B11, hA11, b11⟩ := hZ10.opn
  refine z_callV (av := [_]) rfl z_w117 hA11.cell.choose_spec rfl rfl rfl rfl rfl (Nat.le_of_ble_eq_true rfl) (Nat.le_of_ble_eq_true rfl) (Nat.le_of_ble_eq_true rfl) (Nat.le_of_ble_eq_true rfl) (cP_keeper hA11 fun h11 hP11 hX11 => ?_)
  have hZ11 : z_Z h0 p h11 (zs_23 i) := b11 _ _ hP11 hX11
  have f := zf_115 i hi
  generalize z_fKeeper (zs_23 i) (2 : Int32) = R at f ⊢
  refine z_kI (v := (-1 : Int32)) f.1 f.2 ?_
  refine z_iconst (v := (-1 : Int32)) rfl (by decide) ?_
  refine z_icmp_ne rfl (fun u => absurd rfl u) (fun _ => ?_)
  refine z_aload rfl rfl ?_
  refine z_iconst (v := (0 : Int32)) rfl (by decide) ?_
  refine z_iconst (v := (0 : Int32)) rfl (by decide) ?_
  obtain ⟨B12, hA12, b12⟩ := hZ11.opn
  refine z_callV (av := [_, _]) rfl z_w116 hA12.cell.choose_spec rfl rfl rfl rfl rfl (Nat.le_of_ble_eq_true rfl) (Nat.le_of_ble_eq_true rfl) (Nat.le_of_ble_eq_true rfl) (Nat.le_of_ble_eq_true rfl) (cP_billOf hA12 fun h12 hP12 hX12 => ?_)
  have hZ12 : z_Z h0 p h12 (zs_23 i) := b12 _ _ hP12 hX12
  have f := zf_116 i hi
  generalize z_fBillOf (zs_23 i) (0 : Int32) (0 : Int32) = R at f ⊢
  refine z_kI (v := (0 : Int32)) f.1 f.2 ?_
  refine z_if_ne rfl (fun u => absurd rfl u) (fun _ => ?_)
  refine z_aload rfl rfl ?_
  refine z_iconst (v := (0 : Int32)) rfl (by decide) ?_
  obtain ⟨B13, hA13, b13⟩ := hZ12.opn
  refine z_callV (av := [_]) rfl z_w105 hA13.cell.choose_spec rfl rfl rfl rfl rfl (Nat.le_of_ble_eq_true rfl) (Nat.le_of_ble_eq_true rfl) (Nat.le_of_ble_eq_true rfl) (Nat.le_of_ble_eq_true rfl) (cP_leave (zw_23 i).1 hA13 fun h13 hP13 hX13 => ?_)
  have hZ13 : z_Z h0 p h13 (zs_24 i) := b13 _ _ (hP13.cg (zn_24 i)) hX13
  have f := zf_117 i hi
  generalize z_fChg (zs_23 i) (1, (0 : Int32), 0, 0, 0) = R at f ⊢
  refine z_kI (v := (1 : Int32)) f.1 f.2 ?_
  refine z_iconst (v := (1 : Int32)) rfl (by decide) ?_
  refine z_icmp_ne rfl (fun u => absurd rfl u) (fun _ => ?_)
  refine z_aload rfl rfl ?_
  refine z_iconst (v := (0 : Int32)) rfl (by decide) ?_
  refine z_iconst (v := (0 : Int32)) rfl (by decide) ?_
  obtain ⟨B14, hA14, b14⟩ := hZ13.opn
  refine z_callV (av := [_, _]) rfl z_w116 hA14.cell.choose_spec rfl rfl rfl rfl rfl (Nat.le_of_ble_eq_true rfl) (Nat.le_of_ble_eq_true rfl) (Nat.le_of_ble_eq_true rfl) (Nat.le_of_ble_eq_true rfl) (cP_billOf hA14 fun h14 hP14 hX14 => ?_)
  have hZ14 : z_Z h0 p h14 (zs_24 i) := b14 _ _ hP14 hX14
  have f := zf_118 i hi
  generalize z_fBillOf (zs_24 i) (0 : Int32) (0 : Int32) = R at f ⊢
  refine z_kI (v := (-1 : Int32)) f.1 f.2 ?_
  refine z_iconst (v := (-1 : Int32)) rfl (by decide) ?_
  refine z_icmp_ne rfl (fun u => absurd rfl u) (fun _ => ?_)
  refine z_aload rfl rfl ?_
  refine z_bipush (v := (19 : Int32)) rfl (by decide) ?_
  obtain ⟨B15, hA15, b15⟩ := hZ14.opn
  refine z_callV (av := [_]) rfl z_w113 hA15.cell.choose_spec rfl rfl rfl rfl rfl (Nat.le_of_ble_eq_true rfl) (Nat.le_of_ble_eq_true rfl) (Nat.le_of_ble_eq_true rfl) (Nat.le_of_ble_eq_true rfl) (cP_hour (zw_24 i).1 hA15 fun h15 hP15 hX15 => ?_)
  have hZ15 : z_Z h0 p h15 (zs_25 i) := b15 _ _ (hP15.cg (zn_25 i)) hX15
  have f := zf_119 i hi
  generalize z_fChg (zs_24 i) (9, (19 : Int32), 0, 0, 0) = R at f ⊢
  refine z_kI (v := (0 : Int32)) f.1 f.2 ?_
  refine z_if_ne rfl (fun u => absurd rfl u) (fun _ => ?_)
  refine z_aload rfl rfl ?_
  refine z_iconst (v := (1 : Int32)) rfl (by decide) ?_
  obtain ⟨B16, hA16, b16⟩ := hZ15.opn
  refine z_callV (av := [_]) rfl z_w153 hA16.cell.choose_spec rfl rfl rfl rfl rfl (Nat.le_of_ble_eq_true rfl) (Nat.le_of_ble_eq_true rfl) (Nat.le_of_ble_eq_true rfl) (Nat.le_of_ble_eq_true rfl) (cP_account hA16 fun h16 hP16 hX16 => ?_)
  have hZ16 : z_Z h0 p h16 (zs_25 i) := b16 _ _ hP16 hX16
  have f := zf_120 i hi
  generalize z_fAccount (zs_25 i) (1 : Int32) = R at f ⊢
  refine z_kI (v := (1 : Int32)) f.1 f.2 ?_
  refine z_iconst (v := (1 : Int32)) rfl (by decide) ?_
  refine z_icmp_ne rfl (fun u => absurd rfl u) (fun _ => ?_)
  refine z_aload rfl rfl ?_
  refine z_iconst (v := (nI 4)) rfl (by decide) ?_
  refine z_iconst (v := (0 : Int32)) rfl (by decide) ?_
  refine z_iconst (v := (1 : Int32)) rfl (by decide) ?_
  refine z_iconst (v := (0 : Int32)) rfl (by decide) ?_
  obtain ⟨B17, hA17, b17⟩ := hZ16.opn
  refine z_callSX (av := [_, _, _, _, _]) rfl z_w175 rfl rfl rfl rfl (Nat.le_of_ble_eq_true rfl) (Nat.le_of_ble_eq_true rfl) (Nat.le_of_ble_eq_true rfl) (Nat.le_of_ble_eq_true rfl) (c_act (k := 4) (by decide) (fun e => absurd e (by decide)) (fun e => absurd e (by decide)) (fun _ => rfl) (zw_25 i).1 hA17 fun h17 hP17 hX17 => ?_)
  have hZ17 : z_Z h0 p h17 (zs_26 i) := b17 _ _ (hP17.cg (zn_26 i)) hX17
  refine z_kJ (v := (-99 : Int32)) (zf_121 i hi) ?_
  refine z_bipush (v := (-99 : Int32)) rfl (by decide) ?_
  refine z_icmp_ne rfl (fun u => absurd rfl u) (fun _ => ?_)
  refine z_aload rfl rfl ?_
  refine z_iconst (v := (0 : Int32)) rfl (by decide) ?_
  refine z_iconst (v := (z_I false)) rfl (by decide) ?_
  obtain ⟨B18, hA18, b18⟩ := hZ17.opn
  refine z_callV (av := [_, _]) rfl z_w146 hA18.cell.choose_spec rfl rfl rfl rfl rfl (Nat.le_of_ble_eq_true rfl) (Nat.le_of_ble_eq_true rfl) (Nat.le_of_ble_eq_true rfl) (Nat.le_of_ble_eq_true rfl) (cP_reason (b := false) hA18 fun h18 hP18 hX18 => ?_)
  have hZ18 : z_Z h0 p h18 (zs_26 i) := b18 _ _ hP18 hX18
  have f := zf_122 i hi
  generalize z_fReason (zs_26 i) (0 : Int32) (z_I false) = R at f ⊢
  refine z_kI (v := (7 : Int32)) f.1 f.2 ?_
  refine z_bipush (v := (7 : Int32)) rfl (by decide) ?_
  refine z_icmp_ne rfl (fun u => absurd rfl u) (fun _ => ?_)
  refine z_aload rfl rfl ?_
  obtain ⟨B19, hA19, b19⟩ := hZ18.opn
  refine z_callV (av := []) rfl z_w112 hA19.cell.choose_spec rfl rfl rfl rfl rfl (Nat.le_of_ble_eq_true rfl) (Nat.le_of_ble_eq_true rfl) (Nat.le_of_ble_eq_true rfl) (Nat.le_of_ble_eq_true rfl) (cP_vote (zw_26 i).1 hA19 fun h19 hP19 hX19 => ?_)
  have hZ19 : z_Z h0 p h19 (zs_27 i) := b19 _ _ (hP19.cg (zn_27 i)) hX19
  have f := zf_123 i hi
  generalize z_fChg (zs_26 i) (8, 0, 0, 0, 0) = R at f ⊢
  refine z_kI (v := (0 : Int32)) f.1 f.2 ?_
  refine z_if_ne rfl (fun u => absurd rfl u) (fun _ => ?_)
  refine z_aload rfl rfl ?_
  refine z_iconst (v := (0 : Int32)) rfl (by decide) ?_
  refine z_iconst (v := (3 : Int32)) rfl (by decide) ?_
  obtain ⟨B20, hA20, b20⟩ := hZ19.opn
  refine z_callV (av := [_, _]) rfl z_w116 hA20.cell.choose_spec rfl rfl rfl rfl rfl (Nat.le_of_ble_eq_true rfl) (Nat.le_of_ble_eq_true rfl) (Nat.le_of_ble_eq_true rfl) (Nat.le_of_ble_eq_true rfl) (cP_billOf hA20 fun h20 hP20 hX20 => ?_)
  have hZ20 : z_Z h0 p h20 (zs_27 i) := b20 _ _ hP20 hX20
  have f := zf_124 i hi
  generalize z_fBillOf (zs_27 i) (0 : Int32) (3 : Int32) = R at f ⊢
  refine z_kI (v := (1 : Int32)) f.1 f.2 ?_
  refine z_iconst (v := (1 : Int32)) rfl (by decide) ?_
  refine z_icmp_ne rfl (fun u => absurd rfl u) (fun _ => ?_)
  refine z_aload rfl rfl ?_
  refine z_bipush (v := (6 : Int32)) rfl (by decide) ?_
  obtain ⟨B21, hA21, b21⟩ := hZ20.opn
  refine z_callV (av := [_]) rfl z_w153 hA21.cell.choose_spec rfl rfl rfl rfl rfl (Nat.le_of_ble_eq_true rfl) (Nat.le_of_ble_eq_true rfl) (Nat.le_of_ble_eq_true rfl) (Nat.le_of_ble_eq_true rfl) (cP_account hA21 fun h21 hP21 hX21 => ?_)
  have hZ21 : z_Z h0 p h21 (zs_27 i) := b21 _ _ hP21 hX21
  have f := zf_125 i hi
  generalize z_fAccount (zs_27 i) (6 : Int32) = R at f ⊢
  refine z_kI (v := (2 : Int32)) f.1 f.2 ?_
  refine z_iconst (v := (2 : Int32)) rfl (by decide) ?_
  refine z_icmp_ne rfl (fun u => absurd rfl u) (fun _ => ?_)
  refine z_aload rfl rfl ?_
  obtain ⟨B22, hA22, b22⟩ := hZ21.opn
  refine z_callV (av := []) rfl z_w136 hA22.cell.choose_spec rfl rfl rfl rfl rfl (Nat.le_of_ble_eq_true rfl) (Nat.le_of_ble_eq_true rfl) (Nat.le_of_ble_eq_true rfl) (Nat.le_of_ble_eq_true rfl) (cP_weakest hA22 fun h22 hP22 hX22 => ?_)
  have hZ22 : z_Z h0 p h22 (zs_27 i) := b22 _ _ hP22 hX22
  have f := zf_126 i hi
  generalize z_fWeakest (zs_27 i) = R at f ⊢
  refine z_kI (v := (0 : Int32)) f.1 f.2 ?_
  refine z_if_eq rfl (fun _ => ?_) (fun u => absurd rfl u)
  exact (kk _ hZ22).mono (Nat.le_refl _) (Nat.le_of_ble_eq_true rfl) (Nat.le_of_ble_eq_true rfl)
end ZLz
