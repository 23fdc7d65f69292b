theorem z_ol9 : (z_r338_9.all fun c => c.all (z_ok 338)) = true := by decide +kernel
theorem z_ol10 : (z_r338_10.all fun c => c.all (z_ok 338)) = true := by decide +kernel
theorem z_o338 : z_okM 338 = true := by
  show ([z_r338_0, z_r338_1, z_r338_2, z_r338_3, z_r338_4, z_r338_5, z_r338_6, z_r338_7, z_r338_8, z_r338_9, z_r338_10] : List (List (List z_Row))).all (fun b => b.all fun c => c.all (z_ok 338)) = true
  simp only [List.all_cons, List.all_nil, Bool.and_true, Bool.and_eq_true]
  exact ⟨z_ol0, z_ol1, z_ol2, z_ol3, z_ol4, z_ol5, z_ol6, z_ol7, z_ol8, z_ol9, z_ol10⟩
