theorem z_all16 {l : List (List z_Row)} {p : z_Row → Bool} (h : ∀ i, i < l.length → (l.getD i []).all p = true) : (l.all fun c => c.all p) = true := by
  refine List.all_eq_true.mpr fun c hc => ?_
  obtain ⟨i, hi, rfl⟩ := List.mem_iff_getElem.mp hc
  have h1 := h i hi
  rw [List.getD_eq_getElem?_getD, List.getElem?_eq_getElem hi] at h1
  exact h1
theorem z_ol0_0 : ((z_r338_0.getD 0 []).all (z_ok 338)) = true := by decide +kernel
theorem z_ol0_1 : ((z_r338_0.getD 1 []).all (z_ok 338)) = true := by decide +kernel
theorem z_ol0_2 : ((z_r338_0.getD 2 []).all (z_ok 338)) = true := by decide +kernel
theorem z_ol0_3 : ((z_r338_0.getD 3 []).all (z_ok 338)) = true := by decide +kernel
theorem z_ol0_4 : ((z_r338_0.getD 4 []).all (z_ok 338)) = true := by decide +kernel
theorem z_ol0_5 : ((z_r338_0.getD 5 []).all (z_ok 338)) = true := by decide +kernel
theorem z_ol0_6 : ((z_r338_0.getD 6 []).all (z_ok 338)) = true := by decide +kernel
theorem z_ol0_7 : ((z_r338_0.getD 7 []).all (z_ok 338)) = true := by decide +kernel
theorem z_ol0_8 : ((z_r338_0.getD 8 []).all (z_ok 338)) = true := by decide +kernel
theorem z_ol0_9 : ((z_r338_0.getD 9 []).all (z_ok 338)) = true := by decide +kernel
theorem z_ol0_10 : ((z_r338_0.getD 10 []).all (z_ok 338)) = true := by decide +kernel
theorem z_ol0_11 : ((z_r338_0.getD 11 []).all (z_ok 338)) = true := by decide +kernel
theorem z_ol0_12 : ((z_r338_0.getD 12 []).all (z_ok 338)) = true := by decide +kernel
theorem z_ol0_13 : ((z_r338_0.getD 13 []).all (z_ok 338)) = true := by decide +kernel
theorem z_ol0_14 : ((z_r338_0.getD 14 []).all (z_ok 338)) = true := by decide +kernel
theorem z_ol0_15 : ((z_r338_0.getD 15 []).all (z_ok 338)) = true := by decide +kernel
theorem z_ol0 : (z_r338_0.all fun c => c.all (z_ok 338)) = true := z_all16 fun i hi => by
  have hn : i < 16 := hi
  rcases (by omega : i = 0 ∨ i = 1 ∨ i = 2 ∨ i = 3 ∨ i = 4 ∨ i = 5 ∨ i = 6 ∨ i = 7 ∨ i = 8 ∨ i = 9 ∨ i = 10 ∨ i = 11 ∨ i = 12 ∨ i = 13 ∨ i = 14 ∨ i = 15) with rfl | rfl | rfl | rfl | rfl | rfl | rfl | rfl | rfl | rfl | rfl | rfl | rfl | rfl | rfl | rfl
  · exact z_ol0_0
  · exact z_ol0_1
  · exact z_ol0_2
  · exact z_ol0_3
  · exact z_ol0_4
  · exact z_ol0_5
  · exact z_ol0_6
  · exact z_ol0_7
  · exact z_ol0_8
  · exact z_ol0_9
  · exact z_ol0_10
  · exact z_ol0_11
  · exact z_ol0_12
  · exact z_ol0_13
  · exact z_ol0_14
  · exact z_ol0_15
theorem z_ol1_0 : ((z_r338_1.getD 0 []).all (z_ok 338)) = true := by decide +kernel
theorem z_ol1_1 : ((z_r338_1.getD 1 []).all (z_ok 338)) = true := by decide +kernel
theorem z_ol1_2 : ((z_r338_1.getD 2 []).all (z_ok 338)) = true := by decide +kernel
theorem z_ol1_3 : ((z_r338_1.getD 3 []).all (z_ok 338)) = true := by decide +kernel
theorem z_ol1_4 : ((z_r338_1.getD 4 []).all (z_ok 338)) = true := by decide +kernel
theorem z_ol1_5 : ((z_r338_1.getD 5 []).all (z_ok 338)) = true := by decide +kernel
theorem z_ol1_6 : ((z_r338_1.getD 6 []).all (z_ok 338)) = true := by decide +kernel
theorem z_ol1_7 : ((z_r338_1.getD 7 []).all (z_ok 338)) = true := by decide +kernel
theorem z_ol1_8 : ((z_r338_1.getD 8 []).all (z_ok 338)) = true := by decide +kernel
theorem z_ol1_9 : ((z_r338_1.getD 9 []).all (z_ok 338)) = true := by decide +kernel
theorem z_ol1_10 : ((z_r338_1.getD 10 []).all (z_ok 338)) = true := by decide +kernel
theorem z_ol1_11 : ((z_r338_1.getD 11 []).all (z_ok 338)) = true := by decide +kernel
theorem z_ol1_12 : ((z_r338_1.getD 12 []).all (z_ok 338)) = true := by decide +kernel
theorem z_ol1_13 : ((z_r338_1.getD 13 []).all (z_ok 338)) = true := by decide +kernel
theorem z_ol1_14 : ((z_r338_1.getD 14 []).all (z_ok 338)) = true := by decide +kernel
theorem z_ol1_15 : ((z_r338_1.getD 15 []).all (z_ok 338)) = true := by decide +kernel
theorem z_ol1 : (z_r338_1.all fun c => c.all (z_ok 338)) = true := z_all16 fun i hi => by
  have hn : i < 16 := hi
  rcases (by omega : i = 0 ∨ i = 1 ∨ i = 2 ∨ i = 3 ∨ i = 4 ∨ i = 5 ∨ i = 6 ∨ i = 7 ∨ i = 8 ∨ i = 9 ∨ i = 10 ∨ i = 11 ∨ i = 12 ∨ i = 13 ∨ i = 14 ∨ i = 15) with rfl | rfl | rfl | rfl | rfl | rfl | rfl | rfl | rfl | rfl | rfl | rfl | rfl | rfl | rfl | rfl
  · exact z_ol1_0
  · exact z_ol1_1
  · exact z_ol1_2
  · exact z_ol1_3
  · exact z_ol1_4
  · exact z_ol1_5
  · exact z_ol1_6
  · exact z_ol1_7
  · exact z_ol1_8
  · exact z_ol1_9
  · exact z_ol1_10
  · exact z_ol1_11
  · exact z_ol1_12
  · exact z_ol1_13
  · exact z_ol1_14
  · exact z_ol1_15
theorem z_ol2_0 : ((z_r338_2.getD 0 []).all (z_ok 338)) = true := by decide +kernel
theorem z_ol2_1 : ((z_r338_2.getD 1 []).all (z_ok 338)) = true := by decide +kernel
theorem z_ol2_2 : ((z_r338_2.getD 2 []).all (z_ok 338)) = true := by decide +kernel
theorem z_ol2_3 : ((z_r338_2.getD 3 []).all (z_ok 338)) = true := by decide +kernel
theorem z_ol2_4 : ((z_r338_2.getD 4 []).all (z_ok 338)) = true := by decide +kernel
theorem z_ol2_5 : ((z_r338_2.getD 5 []).all (z_ok 338)) = true := by decide +kernel
theorem z_ol2_6 : ((z_r338_2.getD 6 []).all (z_ok 338)) = true := by decide +kernel
theorem z_ol2_7 : ((z_r338_2.getD 7 []).all (z_ok 338)) = true := by decide +kernel
theorem z_ol2_8 : ((z_r338_2.getD 8 []).all (z_ok 338)) = true := by decide +kernel
theorem z_ol2_9 : ((z_r338_2.getD 9 []).all (z_ok 338)) = true := by decide +kernel
theorem z_ol2_10 : ((z_r338_2.getD 10 []).all (z_ok 338)) = true := by decide +kernel
theorem z_ol2_11 : ((z_r338_2.getD 11 []).all (z_ok 338)) = true := by decide +kernel
theorem z_ol2_12 : ((z_r338_2.getD 12 []).all (z_ok 338)) = true := by decide +kernel
theorem z_ol2_13 : ((z_r338_2.getD 13 []).all (z_ok 338)) = true := by decide +kernel
theorem z_ol2_14 : ((z_r338_2.getD 14 []).all (z_ok 338)) = true := by decide +kernel
theorem z_ol2_15 : ((z_r338_2.getD 15 []).all (z_ok 338)) = true := by decide +kernel
theorem z_ol2 : (z_r338_2.all fun c => c.all (z_ok 338)) = true := z_all16 fun i hi => by
  have hn : i < 16 := hi
  rcases (by omega : i = 0 ∨ i = 1 ∨ i = 2 ∨ i = 3 ∨ i = 4 ∨ i = 5 ∨ i = 6 ∨ i = 7 ∨ i = 8 ∨ i = 9 ∨ i = 10 ∨ i = 11 ∨ i = 12 ∨ i = 13 ∨ i = 14 ∨ i = 15) with rfl | rfl | rfl | rfl | rfl | rfl | rfl | rfl | rfl | rfl | rfl | rfl | rfl | rfl | rfl | rfl
  · exact z_ol2_0
  · exact z_ol2_1
  · exact z_ol2_2
  · exact z_ol2_3
  · exact z_ol2_4
  · exact z_ol2_5
  · exact z_ol2_6
  · exact z_ol2_7
  · exact z_ol2_8
  · exact z_ol2_9
  · exact z_ol2_10
  · exact z_ol2_11
  · exact z_ol2_12
  · exact z_ol2_13
  · exact z_ol2_14
  · exact z_ol2_15
theorem z_ol3_0 : ((z_r338_3.getD 0 []).all (z_ok 338)) = true := by decide +kernel
theorem z_ol3_1 : ((z_r338_3.getD 1 []).all (z_ok 338)) = true := by decide +kernel
theorem z_ol3_2 : ((z_r338_3.getD 2 []).all (z_ok 338)) = true := by decide +kernel
theorem z_ol3_3 : ((z_r338_3.getD 3 []).all (z_ok 338)) = true := by decide +kernel
theorem z_ol3_4 : ((z_r338_3.getD 4 []).all (z_ok 338)) = true := by decide +kernel
theorem z_ol3_5 : ((z_r338_3.getD 5 []).all (z_ok 338)) = true := by decide +kernel
theorem z_ol3_6 : ((z_r338_3.getD 6 []).all (z_ok 338)) = true := by decide +kernel
theorem z_ol3_7 : ((z_r338_3.getD 7 []).all (z_ok 338)) = true := by decide +kernel
theorem z_ol3_8 : ((z_r338_3.getD 8 []).all (z_ok 338)) = true := by decide +kernel
theorem z_ol3_9 : ((z_r338_3.getD 9 []).all (z_ok 338)) = true := by decide +kernel
theorem z_ol3_10 : ((z_r338_3.getD 10 []).all (z_ok 338)) = true := by decide +kernel
theorem z_ol3_11 : ((z_r338_3.getD 11 []).all (z_ok 338)) = true := by decide +kernel
theorem z_ol3_12 : ((z_r338_3.getD 12 []).all (z_ok 338)) = true := by decide +kernel
theorem z_ol3_13 : ((z_r338_3.getD 13 []).all (z_ok 338)) = true := by decide +kernel
theorem z_ol3_14 : ((z_r338_3.getD 14 []).all (z_ok 338)) = true := by decide +kernel
theorem z_ol3_15 : ((z_r338_3.getD 15 []).all (z_ok 338)) = true := by decide +kernel
theorem z_ol3 : (z_r338_3.all fun c => c.all (z_ok 338)) = true := z_all16 fun i hi => by
  have hn : i < 16 := hi
  rcases (by omega : i = 0 ∨ i = 1 ∨ i = 2 ∨ i = 3 ∨ i = 4 ∨ i = 5 ∨ i = 6 ∨ i = 7 ∨ i = 8 ∨ i = 9 ∨ i = 10 ∨ i = 11 ∨ i = 12 ∨ i = 13 ∨ i = 14 ∨ i = 15) with rfl | rfl | rfl | rfl | rfl | rfl | rfl | rfl | rfl | rfl | rfl | rfl | rfl | rfl | rfl | rfl
  · exact z_ol3_0
  · exact z_ol3_1
  · exact z_ol3_2
  · exact z_ol3_3
  · exact z_ol3_4
  · exact z_ol3_5
  · exact z_ol3_6
  · exact z_ol3_7
  · exact z_ol3_8
  · exact z_ol3_9
  · exact z_ol3_10
  · exact z_ol3_11
  · exact z_ol3_12
  · exact z_ol3_13
  · exact z_ol3_14
  · exact z_ol3_15
theorem z_ol4_0 : ((z_r338_4.getD 0 []).all (z_ok 338)) = true := by decide +kernel
theorem z_ol4_1 : ((z_r338_4.getD 1 []).all (z_ok 338)) = true := by decide +kernel
theorem z_ol4_2 : ((z_r338_4.getD 2 []).all (z_ok 338)) = true := by decide +kernel
theorem z_ol4_3 : ((z_r338_4.getD 3 []).all (z_ok 338)) = true := by decide +kernel
theorem z_ol4_4 : ((z_r338_4.getD 4 []).all (z_ok 338)) = true := by decide +kernel
theorem z_ol4_5 : ((z_r338_4.getD 5 []).all (z_ok 338)) = true := by decide +kernel
theorem z_ol4_6 : ((z_r338_4.getD 6 []).all (z_ok 338)) = true := by decide +kernel
theorem z_ol4_7 : ((z_r338_4.getD 7 []).all (z_ok 338)) = true := by decide +kernel
theorem z_ol4_8 : ((z_r338_4.getD 8 []).all (z_ok 338)) = true := by decide +kernel
theorem z_ol4_9 : ((z_r338_4.getD 9 []).all (z_ok 338)) = true := by decide +kernel
theorem z_ol4_10 : ((z_r338_4.getD 10 []).all (z_ok 338)) = true := by decide +kernel
theorem z_ol4_11 : ((z_r338_4.getD 11 []).all (z_ok 338)) = true := by decide +kernel
theorem z_ol4_12 : ((z_r338_4.getD 12 []).all (z_ok 338)) = true := by decide +kernel
theorem z_ol4_13 : ((z_r338_4.getD 13 []).all (z_ok 338)) = true := by decide +kernel
theorem z_ol4_14 : ((z_r338_4.getD 14 []).all (z_ok 338)) = true := by decide +kernel
theorem z_ol4_15 : ((z_r338_4.getD 15 []).all (z_ok 338)) = true := by decide +kernel
theorem z_ol4 : (z_r338_4.all fun c => c.all (z_ok 338)) = true := z_all16 fun i hi => by
  have hn : i < 16 := hi
  rcases (by omega : i = 0 ∨ i = 1 ∨ i = 2 ∨ i = 3 ∨ i = 4 ∨ i = 5 ∨ i = 6 ∨ i = 7 ∨ i = 8 ∨ i = 9 ∨ i = 10 ∨ i = 11 ∨ i = 12 ∨ i = 13 ∨ i = 14 ∨ i = 15) with rfl | rfl | rfl | rfl | rfl | rfl | rfl | rfl | rfl | rfl | rfl | rfl | rfl | rfl | rfl | rfl
  · exact z_ol4_0
  · exact z_ol4_1
  · exact z_ol4_2
  · exact z_ol4_3
  · exact z_ol4_4
  · exact z_ol4_5
  · exact z_ol4_6
  · exact z_ol4_7
  · exact z_ol4_8
  · exact z_ol4_9
  · exact z_ol4_10
  · exact z_ol4_11
  · exact z_ol4_12
  · exact z_ol4_13
  · exact z_ol4_14
  · exact z_ol4_15
theorem z_ol5_0 : ((z_r338_5.getD 0 []).all (z_ok 338)) = true := by decide +kernel
theorem z_ol5_1 : ((z_r338_5.getD 1 []).all (z_ok 338)) = true := by decide +kernel
theorem z_ol5_2 : ((z_r338_5.getD 2 []).all (z_ok 338)) = true := by decide +kernel
theorem z_ol5_3 : ((z_r338_5.getD 3 []).all (z_ok 338)) = true := by decide +kernel
theorem z_ol5_4 : ((z_r338_5.getD 4 []).all (z_ok 338)) = true := by decide +kernel
theorem z_ol5_5 : ((z_r338_5.getD 5 []).all (z_ok 338)) = true := by decide +kernel
theorem z_ol5_6 : ((z_r338_5.getD 6 []).all (z_ok 338)) = true := by decide +kernel
theorem z_ol5_7 : ((z_r338_5.getD 7 []).all (z_ok 338)) = true := by decide +kernel
theorem z_ol5_8 : ((z_r338_5.getD 8 []).all (z_ok 338)) = true := by decide +kernel
theorem z_ol5_9 : ((z_r338_5.getD 9 []).all (z_ok 338)) = true := by decide +kernel
theorem z_ol5_10 : ((z_r338_5.getD 10 []).all (z_ok 338)) = true := by decide +kernel
theorem z_ol5_11 : ((z_r338_5.getD 11 []).all (z_ok 338)) = true := by decide +kernel
theorem z_ol5_12 : ((z_r338_5.getD 12 []).all (z_ok 338)) = true := by decide +kernel
theorem z_ol5_13 : ((z_r338_5.getD 13 []).all (z_ok 338)) = true := by decide +kernel
theorem z_ol5_14 : ((z_r338_5.getD 14 []).all (z_ok 338)) = true := by decide +kernel
theorem z_ol5_15 : ((z_r338_5.getD 15 []).all (z_ok 338)) = true := by decide +kernel
theorem z_ol5 : (z_r338_5.all fun c => c.all (z_ok 338)) = true := z_all16 fun i hi => by
  have hn : i < 16 := hi
  rcases (by omega : i = 0 ∨ i = 1 ∨ i = 2 ∨ i = 3 ∨ i = 4 ∨ i = 5 ∨ i = 6 ∨ i = 7 ∨ i = 8 ∨ i = 9 ∨ i = 10 ∨ i = 11 ∨ i = 12 ∨ i = 13 ∨ i = 14 ∨ i = 15) with rfl | rfl | rfl | rfl | rfl | rfl | rfl | rfl | rfl | rfl | rfl | rfl | rfl | rfl | rfl | rfl
  · exact z_ol5_0
  · exact z_ol5_1
  · exact z_ol5_2
  · exact z_ol5_3
  · exact z_ol5_4
  · exact z_ol5_5
  · exact z_ol5_6
  · exact z_ol5_7
  · exact z_ol5_8
  · exact z_ol5_9
  · exact z_ol5_10
  · exact z_ol5_11
  · exact z_ol5_12
  · exact z_ol5_13
  · exact z_ol5_14
  · exact z_ol5_15
theorem z_ol6_0 : ((z_r338_6.getD 0 []).all (z_ok 338)) = true := by decide +kernel
theorem z_ol6_1 : ((z_r338_6.getD 1 []).all (z_ok 338)) = true := by decide +kernel
theorem z_ol6_2 : ((z_r338_6.getD 2 []).all (z_ok 338)) = true := by decide +kernel
theorem z_ol6_3 : ((z_r338_6.getD 3 []).all (z_ok 338)) = true := by decide +kernel
theorem z_ol6_4 : ((z_r338_6.getD 4 []).all (z_ok 338)) = true := by decide +kernel
theorem z_ol6_5 : ((z_r338_6.getD 5 []).all (z_ok 338)) = true := by decide +kernel
theorem z_ol6 : (z_r338_6.all fun c => c.all (z_ok 338)) = true := z_all16 fun i hi => by
  have hn : i < 6 := hi
  rcases (by omega : i = 0 ∨ i = 1 ∨ i = 2 ∨ i = 3 ∨ i = 4 ∨ i = 5) with rfl | rfl | rfl | rfl | rfl | rfl
  · exact z_ol6_0
  · exact z_ol6_1
  · exact z_ol6_2
  · exact z_ol6_3
  · exact z_ol6_4
  · exact z_ol6_5
theorem z_o338 : z_okM 338 = true := by
  show ([z_r338_0, z_r338_1, z_r338_2, z_r338_3, z_r338_4, z_r338_5, z_r338_6] : List (List (List z_Row))).all (fun b => b.all fun c => c.all (z_ok 338)) = true
  simp only [List.all_cons, List.all_nil, Bool.and_true, Bool.and_eq_true]
  exact ⟨z_ol0, z_ol1, z_ol2, z_ol3, z_ol4, z_ol5, z_ol6⟩
