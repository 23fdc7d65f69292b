/-! The law, as one. -/
theorem z_m15 (v : Int32) : ∃ n : Nat, n < 16 ∧ v &&& 15 = nI n := by
  refine ⟨(v.toBitVec &&& 15#32).toNat, ?_, ?_⟩
  · rw [BitVec.toNat_and]
    exact Nat.lt_of_le_of_lt Nat.and_le_right (by decide)
  · apply Int32.toBitVec_inj.1
    show v.toBitVec &&& (15 : Int32).toBitVec = BitVec.ofNat 32 (v.toBitVec &&& 15#32).toNat
    rw [BitVec.ofNat_toNat, BitVec.setWidth_eq]
    rfl
section ZLaw
variable {G : z_G} {Q : z_O → z_H → Prop}
theorem z_LLz {d mc ms pc : Nat} {st : List Value} {h : z_H} {a7 a8 a9 b c : Value} (k : z_W G d mc ms 338 pc [.ref 0, .ref 1000, .retAddr 0, b, c, .retAddr 0, .retAddr 0, .retAddr 0, a8, a9] st h Q) : z_W G d mc ms 338 pc [.ref 0, .ref 1000, .retAddr 0, b, c, .retAddr 0, .retAddr 0, a7, a8, a9] st h Q := k.loc fun i w h1 h2 => by
  match i, h1 with
  | 0, h1 => exact h1
  | 1, h1 => exact h1
  | 2, h1 => exact h1
  | 3, h1 => exact h1
  | 4, h1 => exact h1
  | 5, h1 => exact h1
  | 6, h1 => exact h1
  | 7, h1 => exact absurd (Option.some.inj h1).symm h2
  | 8, h1 => exact h1
  | 9, h1 => exact h1
  | i + 10, h1 => exact absurd h1 (by simp)
theorem c_z {h : z_H} {B : Nat → Prop} {v : z_HV} {X : z_PV} {now : Int32} (hN : G.2.2.2.2.2.1 ≤ 260) (hw : z_wf v) (hn : ∀ Z : z_PV, Z.1 = v → z_st Z = now) (hs : z_xs v X) (hP : z_P h 1000 B X) (q : ∀ h', Q (.inl (some (.int 1))) h') : z_W G 14 15500 610000 338 476 [.ref 0, .ref 1000, .retAddr 0, .int (nI (v.1.1 0)), .int now, .retAddr 0, .retAddr 0, .retAddr 0, .retAddr 0, .retAddr 0] [] h Q := by
  obtain ⟨l1, l2, l3, l4⟩ := hP.low
  refine z_aload_n rfl rfl ?_
  refine z_bipush (v := nI 13) rfl (by decide) ?_
  refine z_callS (av := [_, _]) rfl z_w172 rfl rfl rfl rfl (Nat.le_of_ble_eq_true rfl) (Nat.zero_le _) (Nat.zero_le _) (Nat.le_of_ble_eq_true rfl) (c_lAt hN (by decide) ?_)
  refine z_istore rfl (by decide +kernel) rfl ?_
  obtain ⟨i, hi, ei⟩ := z_m15 (z_sat G 13)
  refine z_bipush (v := nI 10) rfl (by decide) ?_
  refine z_iload rfl rfl ?_
  refine z_bipush (v := (15 : Int32)) rfl (by decide) ?_
  refine z_iand rfl ?_
  rw [ei]
  refine z_iadd rfl ?_
  rw [show nI 10 + nI i = nI (10 + i) from nI_add 10 i]
  refine z_istore rfl (by decide +kernel) rfl ?_
  refine z_newO (mc2 := 15499) (ms2 := 609988) rfl (Nat.le_of_ble_eq_true rfl) (Nat.le_of_ble_eq_true rfl) ?_
  refine z_dup rfl rfl ?_
  refine z_callI (av := []) (mc' := 287) (ms' := 1566) rfl z_w103 rfl rfl rfl rfl (Nat.le_of_ble_eq_true rfl) (Nat.le_of_ble_eq_true rfl) (Nat.le_of_ble_eq_true rfl) (Nat.le_of_ble_eq_true rfl) (c_initPa (p := 1000 + h.1) (by omega) (z_new_eq _ _) (by show 1000 + h.1 + 1 = 1000 + (h.1 + 1); omega) fun h1 x1 e1 f1 => ?_)
  refine z_astore rfl (by decide +kernel) rfl ?_
  have hP1 : z_P h1 (1000 + h.1) (fun k => 1000 + h.1 + 288 ≤ k) z_x0 := ⟨_, _, _, _, _, _, _, x1⟩
  have hZ0 : z_Z h (1000 + h.1) h1 (zs_0 i) := ⟨_, hP1, fun k hk => (f1 k hk).trans (z_new_ne _ _ (by omega)), by omega⟩
  refine (z_LLz (c_z1 hi hZ0 fun h2 z2 => c_z2 hi z2 fun h3 z3 => c_z3 hi z3 fun h4 z4 => c_z4 hi z4 fun h5 z5 => c_z5 hi z5 fun h6 z6 => ?_)).mono (Nat.le_refl _) (Nat.le_of_ble_eq_true rfl) (Nat.le_of_ble_eq_true rfl)
  obtain ⟨B8, hP8, g8, s8⟩ := z6
  have hPx : z_P h6 1000 (fun k => (B k ∧ k < 1000 + h.1) ∨ 1000 + h6.1 ≤ k) X := hP.move s8 (fun k u _ => g8 k u) (fun k u e => Or.inl ⟨e, u⟩) (fun k e => e.elim (fun e => l1 k e.1) (fun e => by omega)) (fun k e => Or.inr e)
  exact z_LLx (c_fin hw hn hs hPx q)
theorem c_law (hN : G.2.2.2.2.2.1 ≤ 260) (q : ∀ h', Q (.inl (some (.int 1))) h') : z_W G 14 34500 1040000 338 0 (z_L0 338 [.ref 0]) [] (0, fun _ => none) Q := by
  have hb : z_nv (z_bld G) := z_nv.bld
  have hn : ∀ Z : z_PV, Z.1 = (z_bld G).1 → z_st Z = z_st (z_fSave (z_bld G)).2.2 := fun Z e => z_st_eq e
  refine c_s1 (v := (z_bld G).1) hN rfl rfl rfl fun h1 q1 hr1 => ?_
  refine c_s2 (X := (z_fSave (z_bld G)).2.2) hb.2.1 hr1 fun h2 T hT hr2 => ?_
  refine c_s3 (T := T) (X := z_ins (z_fSave (z_bld G)).2.2 T) (Y := z_bld G) hb.1 rfl (by show (z_bld G).2.2.2.2.2.1 ++ T = T; rw [hb.2.1]; rfl) ⟨rfl, rfl⟩ hb.2.2 rfl hb.2.2 rfl hn hT hr2 fun h3 B3 X3 hP3 hs3 => ?_
  exact c_s4 hb.1 hn hs3 hP3 fun h4 X4 hP4 hs4 => c_s5 hb.1 hn hs4 hP4 fun h5 X5 hP5 hs5 => c_s6 hb.1 hn hs5 hP5 fun h6 X6 hP6 hs6 => c_z hN hb.1 hn hs6 hP6 q
end ZLaw
