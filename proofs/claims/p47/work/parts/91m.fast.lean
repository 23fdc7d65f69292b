/-! What stands fast at the law's entry. -/
noncomputable def z_fl1 : List Cond := flatC (Jvm.Cond.and given_1 narrow_1)
def z_nmK : List String := ["CLOCK", "LEAVE", "KEY", "WIND", "MOVE", "BILL", "ADJOURN", "DROP", "VOTE", "HOUR"]
def z_siK : List Nat := [67, 73, 76, 79, 82, 85, 88, 91, 94, 97]
abbrev z_tK (i : Nat) : Term := .static "ClockParliament$Kind" (z_nmK.getD i "") "LClockParliament$Kind;"
abbrev z_tS (i : Nat) : Term := .string "ClockParliament$Kind" (z_siK.getD i 0)
def z_kx : List Nat := [297, 8, 27, 32, 38, 45, 53, 308, 5, 62]
def z_ox : List Nat := [298, 9, 28, 33, 39, 46, 54, 309, 6, 63]
def z_fx : List Nat := [299, 10, 29, 34, 40, 47, 55, 310, 7, 64]
def z_sx : List Nat := [1175, 1089, 1100, 1111, 1123, 1135, 1149, 1188, 1081, 1164]
theorem z_f1 : ∀ i, i < 10 → z_fl1[z_kx.getD i 0]? = some (.exactly (z_tK i) "ClockParliament$Kind") := by decide +kernel
theorem z_f2 : ∀ i, i < 10 → z_fl1[z_ox.getD i 0]? = some (.eq (.field (z_tK i) "java/lang/Enum" "ordinal" "I") (.int (Int32.ofNat i))) := by decide +kernel
theorem z_f3 : ∀ i, i < 10 → z_fl1[z_fx.getD i 0]? = some (.eq (.field (z_tK i) "ClockParliament$Kind" "form" "Ljava/lang/String;") (z_tS i)) := by decide +kernel
theorem z_f4 : ∀ i, i < 10 → z_fl1[z_sx.getD i 0]? = some (.exactly (z_tS i) "java/lang/String") := by decide +kernel
theorem z_f5 : ∀ i, i < 10 → z_fl1[z_sx.getD i 0 + 1]? = some (.eq (.field (z_tS i) "java/lang/String" "coder" "B") (.int 0)) := by decide +kernel
theorem z_f6 : ∀ i, i < 10 → z_fl1[z_sx.getD i 0 + 2]? = some (.arrayOf (.field (z_tS i) "java/lang/String" "value" "[B") .byte) := by decide +kernel
theorem z_f7 : ∀ i, i < 10 → z_fl1[z_sx.getD i 0 + 3]? = some (.eq (.length (.field (z_tS i) "java/lang/String" "value" "[B")) (.int (Int32.ofNat (z_forms.getD i []).length))) := by decide +kernel
theorem z_f8 : ∀ i, i < 10 → ∀ j, j < (z_forms.getD i []).length → z_fl1[z_sx.getD i 0 + 4 + j]? = some (.eq (.elem (.field (z_tS i) "java/lang/String" "value" "[B") (.int (Int32.ofNat j))) (.int ((z_forms.getD i []).getD j 0))) := by decide +kernel
abbrev z_tQ (i : Nat) : Term := .string "ClockParliamentLaw" (z_lsq.getD i (0, "", [])).1
def z_lx : List Nat := [811, 828, 833, 838, 847, 863, 874, 883, 894, 905, 911, 915, 924, 937, 951, 956, 967, 977, 990, 1003, 1025, 1031, 1037, 1048, 1054, 1060, 1065, 1074]
def z_lj : List Nat := [7071, 7072, 7073, 7074, 7075, 7076, 7077, 7078, 7079, 7080, 7081, 7082, 7083, 7084, 7085, 7086, 7087, 7088, 7089, 7090, 7091, 7092, 7093, 7094, 7095, 7096, 7097, 7098]
theorem z_lq4 : ∀ i, i < z_lsn → z_fl1[z_lx.getD i 0]? = some (.exactly (z_tQ i) "java/lang/String") := by decide +kernel
theorem z_lq5 : ∀ i, i < z_lsn → z_fl1[z_lx.getD i 0 + 1]? = some (.eq (.field (z_tQ i) "java/lang/String" "coder" "B") (.int 0)) := by decide +kernel
theorem z_lq6 : ∀ i, i < z_lsn → z_fl1[z_lx.getD i 0 + 2]? = some (.arrayOf (.field (z_tQ i) "java/lang/String" "value" "[B") .byte) := by decide +kernel
theorem z_lq7 : ∀ i, i < z_lsn → z_fl1[z_lx.getD i 0 + 3]? = some (.eq (.length (.field (z_tQ i) "java/lang/String" "value" "[B")) (.int (Int32.ofNat (z_lsc i).length))) := by decide +kernel
theorem z_lq8 : ∀ i, i < z_lsn → ∀ j, j < (z_lsc i).length → z_fl1[z_lx.getD i 0 + 4 + j]? = some (.eq (.elem (.field (z_tQ i) "java/lang/String" "value" "[B") (.int (Int32.ofNat j))) (.int (Int32.ofNat ((z_lsc i).getD j 0)))) := by decide +kernel
theorem z_lq9 : ∀ i, i < z_lsn → z_is (z_lj.getD i 0) (.stringRef "ClockParliamentLaw" (z_lsq.getD i (0, "", [])).1 (z_lsq.getD i (0, "", [])).2.1) = true := by decide +kernel
abbrev z_tALL : Term := .static "ClockParliament$Kind" "ALL" "[LClockParliament$Kind;"
theorem z_gALL1 : z_fl1[78]? = some (.arrayOf z_tALL (.object "ClockParliament$Kind")) := by decide +kernel
theorem z_gALL2 : z_fl1[79]? = some (.eq (.length z_tALL) (.int (Int32.ofNat 10))) := by decide +kernel
theorem z_gALL3 : ∀ j, j < 10 → z_fl1[81 + j]? = some (.eq (.elem z_tALL (.int (Int32.ofNat j))) (z_tK j)) := by decide +kernel
abbrev z_tSW : Term := .static "ClockParliament$1" "$SwitchMap$ClockParliament$Kind" "[I"
theorem z_gSW1 : z_fl1[13]? = some (.arrayOf z_tSW .int) := by decide +kernel
theorem z_gSW2 : z_fl1[14]? = some (.eq (.length z_tSW) (.int (Int32.ofNat 10))) := by decide +kernel
theorem z_gSW3 : ∀ j, j < 10 → z_fl1[15 + j]? = some (.eq (.elem z_tSW (.int (Int32.ofNat j))) (.int (([1, 2, 3, 4, 5, 6, 7, 8, 9, 0] : List Int32).getD j 0))) := by decide +kernel
abbrev z_tDT : Term := .static "java/lang/Integer" "DigitTens" "[B"
theorem z_gDT1 : z_fl1[195]? = some (.arrayOf z_tDT .byte) := by decide +kernel
theorem z_gDT2 : z_fl1[196]? = some (.eq (.length z_tDT) (.int (Int32.ofNat 100))) := by decide +kernel
theorem z_gDT3 : ∀ j, j < 100 → z_fl1[197 + j]? = some (.eq (.elem z_tDT (.int (Int32.ofNat j))) (.int (Int32.ofNat (48 + j / 10)))) := by decide +kernel
abbrev z_tDO : Term := .static "java/lang/Integer" "DigitOnes" "[B"
theorem z_gDO1 : z_fl1[92]? = some (.arrayOf z_tDO .byte) := by decide +kernel
theorem z_gDO2 : z_fl1[93]? = some (.eq (.length z_tDO) (.int (Int32.ofNat 100))) := by decide +kernel
theorem z_gDO3 : ∀ j, j < 100 → z_fl1[94 + j]? = some (.eq (.elem z_tDO (.int (Int32.ofNat j))) (.int (Int32.ofNat (48 + j % 10)))) := by decide +kernel
theorem z_mapN (l : List Nat) {j : Nat} (hj : j < l.length) : (l.map fun x => Value.int (Int32.ofNat x)).getD j .null = .int (Int32.ofNat (l.getD j 0)) := by
  rw [List.getD_eq_getElem?_getD, List.getD_eq_getElem?_getD, List.getElem?_map, List.getElem?_eq_getElem hj]
  rfl
theorem z_exO {args : Array Value} {s : State} {t : Term} {E : String} {A : Nat → Prop} (h : (Cond.exactly t E).before args s = true) (hA : ∀ a : Nat, a < s.heap.size → ¬ A a) : ∃ a : Nat, t.eval args s none [] s = some (.ref a) ∧ va_O E a A s s.heap := by
  obtain ⟨a, c, cell, k, q1, q2, q3, q4, q5, q6, -⟩ := Cond.exactly_spec (args := args) (first := s) (o := none) (s := s) (idx := []) (t := t) (cls := E) h
  exact ⟨a, q1, cell, q3, q5, by rw [q6]; exact q2, hA a (Array.getElem?_eq_some_iff.mp q3).1⟩
theorem z_Tcg {ty : FieldType} {t N : Nat} {f g : Nat → Value} {A : Nat → Prop} {U : State} {H : Heap} (h : va_T ty t N f A U H) (e : ∀ j, j < N → f j = g j) : va_T ty t N g A U H := by
  obtain ⟨cell, h1, h2, h3, h4, h5, h6, h7⟩ := h
  exact ⟨cell, h1, h2, h3, h4, h5, fun j hj => by rw [← e j hj]; exact h6 j hj, h7⟩
theorem z_mapD (l : List Int32) {j : Nat} (hj : j < l.length) : (l.map Value.int).getD j .null = .int (l.getD j 0) := by
  rw [List.getD_eq_getElem?_getD, List.getD_eq_getElem?_getD, List.getElem?_map, List.getElem?_eq_getElem hj]
  rfl
theorem z_mapR {n : Nat} (g : Nat → Value) {j : Nat} (hj : j < n) : ((List.range n).map g).getD j .null = g j := by
  rw [List.getD_eq_getElem?_getD, List.getElem?_map, List.getElem?_range hj]
  rfl
section ZSt
variable {s : State} {b : Nat}
theorem z_kno (hts : ∀ w ∈ lw_tbl, w.before #[Value.ref b] s = true) : ∃ (dC : Nat → ClassId) (dI : Nat → Nat → Nat), ∀ (k : Nat) (q : vw_C), z_cl[k]? = some q → u_Kn s q.1 q.2.1 q.2.2 (dC k) (dI k) := by
  have hg : ∀ w ∈ z_gw, w.before #[Value.ref b] s = true := fun w hw => hts w (List.mem_filter.mp hw).1
  have h0 : ∀ k : Nat, ∃ x : ClassId × (Nat → Nat), ∀ q : vw_C, z_cl[k]? = some q → u_Kn s q.1 q.2.1 q.2.2 x.1 x.2 := by
    intro k
    by_cases hk : k < 11
    · obtain ⟨q, hq⟩ : ∃ q, z_cl[k]? = some q := ⟨z_cl[k], List.getElem?_eq_getElem (show k < z_cl.length from hk)⟩
      have hi : ∃ n, (Cond.instantiable q.1 n).before #[Value.ref b] s = true := by
        rcases (by omega : k = 0 ∨ k = 1 ∨ k = 2 ∨ k = 3 ∨ k = 4 ∨ k = 5 ∨ k = 6 ∨ k = 7 ∨ k = 8 ∨ k = 9 ∨ k = 10) with rfl | rfl | rfl | rfl | rfl | rfl | rfl | rfl | rfl | rfl | rfl <;> cases hq
        · exact ⟨6, hts _ (z_isOf (j := 1106) (by decide +kernel))⟩
        · exact ⟨5, hts _ (z_isOf (j := 1050) (by decide +kernel))⟩
        · exact ⟨3, hts _ (z_isOf (j := 1177) (by decide +kernel))⟩
        · exact ⟨8, hts _ (z_isOf (j := 1044) (by decide +kernel))⟩
        · exact ⟨2, hts _ (z_isOf (j := 1056) (by decide +kernel))⟩
        · exact ⟨5, hts _ (z_isOf (j := 1236) (by decide +kernel))⟩
        · exact ⟨3, hts _ (z_isOf (j := 1197) (by decide +kernel))⟩
        · exact ⟨2, hts _ (z_isOf (j := 2038) (by decide +kernel))⟩
        · exact ⟨12, hts _ (z_isOf (j := 1036) (by decide +kernel))⟩
        · exact ⟨4, hts _ (z_isOf (j := 6068) (by decide +kernel))⟩
        · exact ⟨4, hts _ (z_isOf (j := 1203) (by decide +kernel))⟩
      obtain ⟨n, hi⟩ := hi
      obtain ⟨c, iS, hK⟩ := u_known (T := q.2.1) (N := q.2.2) hg (z_clOk hq).1 hi
      refine ⟨(c, iS), fun q' hq' => ?_⟩
      cases hq.symm.trans hq'
      exact hK
    · exact ⟨(0, fun _ => 0), fun q hq => absurd (List.getElem?_eq_some_iff.mp hq).1 hk⟩
  obtain ⟨d, hd⟩ := Classical.axiomOfChoice h0
  exact ⟨fun k => (d k).1, fun k => (d k).2, hd⟩
theorem z_arp {ty : FieldType} (hw : (Cond.arrayClass ty).before #[Value.ref b] s = true) : ∃ cA : ClassId, ArrOfT s cA ty ∧ s.vm.findClass ("[" ++ ty.toString) = some cA := by
  obtain ⟨c, k, comp, h1, h2, h3⟩ := Cond.arrayClass_spec (args := #[Value.ref b]) (first := s) (s := s) (o := none) (idx := []) hw
  exact ⟨c, fun n z => ⟨(fun k h => by cases h), k, h2, comp, h3⟩, h1⟩
theorem z_arr (hts : ∀ w ∈ lw_tbl, w.before #[Value.ref b] s = true) (hao : va_AO "ClockParliament$House" s) : ∃ dA : Nat → ClassId, ∀ k, k < 6 → ArrOfT s (dA k) (z_tyOf k) ∧ va_RA s (dA k) (z_tyOf k) := by
  obtain ⟨c0, a0, f0⟩ := z_arp (ty := z_tyOf 0) (hts _ (z_isOf (j := 1071) (by decide +kernel)))
  obtain ⟨c2, a2, f2⟩ := z_arp (ty := z_tyOf 2) (hts _ (z_isOf (j := 1234) (by decide +kernel)))
  obtain ⟨comp, c5, k, h1, h2, h3, h4, h5⟩ := Cond.arrayOver_spec hao
  refine ⟨fun k => if k = 2 then c2 else if k = 5 then c5 else c0, fun k hk => ?_⟩
  rcases (by omega : k = 0 ∨ k = 1 ∨ k = 2 ∨ k = 3 ∨ k = 4 ∨ k = 5) with rfl | rfl | rfl | rfl | rfl | rfl
  · exact ⟨a0, f0⟩
  · exact ⟨a0, f0⟩
  · exact ⟨a2, f2⟩
  · exact ⟨a0, f0⟩
  · exact ⟨a0, f0⟩
  · exact ⟨fun n z => ⟨(fun k h => by cases h), k, h3, comp, h4⟩, k, comp, h3, h4, h1, h5⟩
theorem z_K0 {l : Launch} {L : Nat} {xs : Nat → Int32} (hts : ∀ w ∈ lw_tbl, w.before #[Value.ref b] s = true) (hX : va_X b L xs s s.heap) (hbl : b < s.heap.size) (hgv : (Jvm.Cond.and given_1 narrow_1).before #[Value.ref b] s = true) : ∃ G : z_G, G.1 = l ∧ G.2.1 = s.heap.size ∧ z_ad G 0 = b ∧ G.2.2.2.2.2 = (L, xs) ∧ z_K G s s.heap := by
  have hs : ∀ {k : Nat} {c : Cond}, z_fl1[k]? = some c → c.before #[Value.ref b] s = true := fun h => flat_of_before _ hgv _ (List.mem_of_getElem? h)
  have hA : ∀ a : Nat, a < s.heap.size → ¬ (fun q => s.heap.size ≤ q) a := fun a h => Nat.not_le.mpr h
  have hao : va_AO "ClockParliament$House" s := va_AO.of (hts _ (z_isOf (j := 1183) (by decide +kernel)))
  obtain ⟨dC, dI, hcl⟩ := z_kno hts
  obtain ⟨dA, har⟩ := z_arr hts hao
  obtain ⟨ak, hk⟩ : ∃ ak : Nat → Nat, ∀ i, i < 10 → (z_tK i).eval #[Value.ref b] s none [] s = some (.ref (ak i)) ∧ va_O "ClockParliament$Kind" (ak i) (fun q => s.heap.size ≤ q) s s.heap := by
    have h0 : ∀ i : Nat, ∃ a : Nat, i < 10 → (z_tK i).eval #[Value.ref b] s none [] s = some (.ref a) ∧ va_O "ClockParliament$Kind" a (fun q => s.heap.size ≤ q) s s.heap := fun i => by
      by_cases hi : i < 10
      · obtain ⟨a, h⟩ := z_exO (hs (z_f1 i hi)) hA
        exact ⟨a, fun _ => h⟩
      · exact ⟨0, fun h => absurd h hi⟩
    exact Classical.axiomOfChoice h0
  obtain ⟨ac, hc⟩ : ∃ ac : Nat → Nat × Nat, ∀ i, i < 10 → (z_tS i).eval #[Value.ref b] s none [] s = some (.ref (ac i).1) ∧ va_O "java/lang/String" (ac i).1 (fun q => s.heap.size ≤ q) s s.heap ∧ va_OF "java/lang/String" "coder" "B" (.int 0) (ac i).1 (fun q => s.heap.size ≤ q) s s.heap ∧ va_OF "java/lang/String" "value" "[B" (.ref (ac i).2) (ac i).1 (fun q => s.heap.size ≤ q) s s.heap ∧ va_T .byte (ac i).2 (z_forms.getD i []).length (fun j => .int ((z_forms.getD i []).getD j 0)) (fun q => s.heap.size ≤ q) s s.heap := by
    have hlen : ∀ i, i < 10 → (z_forms.getD i []).length < 2 ^ 31 := by decide
    have h0 : ∀ i : Nat, ∃ a : Nat × Nat, i < 10 → (z_tS i).eval #[Value.ref b] s none [] s = some (.ref a.1) ∧ va_O "java/lang/String" a.1 (fun q => s.heap.size ≤ q) s s.heap ∧ va_OF "java/lang/String" "coder" "B" (.int 0) a.1 (fun q => s.heap.size ≤ q) s s.heap ∧ va_OF "java/lang/String" "value" "[B" (.ref a.2) a.1 (fun q => s.heap.size ≤ q) s s.heap ∧ va_T .byte a.2 (z_forms.getD i []).length (fun j => .int ((z_forms.getD i []).getD j 0)) (fun q => s.heap.size ≤ q) s s.heap := fun i => by
      by_cases hi : i < 10
      · obtain ⟨a, h1, h2⟩ := z_exO (hs (z_f4 i hi)) hA
        obtain ⟨t, ht, hT⟩ := va_Tof (f := fun j => .int ((z_forms.getD i []).getD j 0)) (A := fun q => s.heap.size ≤ q) (hlen i hi) (hs (z_f6 i hi)) (va_eqt (hs (z_f7 i hi))) (fun j hj => va_eqt (hs (z_f8 i hi j hj))) hA
        exact ⟨(a, t), fun _ => ⟨h1, h2, vk_OFof h1 (va_eqt (hs (z_f5 i hi))) hA, vk_OFof h1 ht hA, hT⟩⟩
      · exact ⟨(0, 0), fun h => absurd h hi⟩
    exact Classical.axiomOfChoice h0
  obtain ⟨aq, hq⟩ : ∃ ac : Nat → Nat × Nat, ∀ i, i < z_lsn → (z_tQ i).eval #[Value.ref b] s none [] s = some (.ref (ac i).1) ∧ va_O "java/lang/String" (ac i).1 (fun q => s.heap.size ≤ q) s s.heap ∧ va_OF "java/lang/String" "coder" "B" (.int 0) (ac i).1 (fun q => s.heap.size ≤ q) s s.heap ∧ va_OF "java/lang/String" "value" "[B" (.ref (ac i).2) (ac i).1 (fun q => s.heap.size ≤ q) s s.heap ∧ va_T .byte (ac i).2 (z_lsc i).length (fun j => .int (Int32.ofNat ((z_lsc i).getD j 0))) (fun q => s.heap.size ≤ q) s s.heap := by
    have hlen : ∀ i, i < z_lsn → (z_lsc i).length < 2 ^ 31 := fun i hi => Nat.lt_of_le_of_lt (z_lscB i hi).1 (by decide)
    have h0 : ∀ i : Nat, ∃ a : Nat × Nat, i < z_lsn → (z_tQ i).eval #[Value.ref b] s none [] s = some (.ref a.1) ∧ va_O "java/lang/String" a.1 (fun q => s.heap.size ≤ q) s s.heap ∧ va_OF "java/lang/String" "coder" "B" (.int 0) a.1 (fun q => s.heap.size ≤ q) s s.heap ∧ va_OF "java/lang/String" "value" "[B" (.ref a.2) a.1 (fun q => s.heap.size ≤ q) s s.heap ∧ va_T .byte a.2 (z_lsc i).length (fun j => .int (Int32.ofNat ((z_lsc i).getD j 0))) (fun q => s.heap.size ≤ q) s s.heap := fun i => by
      by_cases hi : i < z_lsn
      · obtain ⟨a, h1, h2⟩ := z_exO (hs (z_lq4 i hi)) hA
        obtain ⟨t, ht, hT⟩ := va_Tof (f := fun j => .int (Int32.ofNat ((z_lsc i).getD j 0))) (A := fun q => s.heap.size ≤ q) (hlen i hi) (hs (z_lq6 i hi)) (va_eqt (hs (z_lq7 i hi))) (fun j hj => va_eqt (hs (z_lq8 i hi j hj))) hA
        exact ⟨(a, t), fun _ => ⟨h1, h2, vk_OFof h1 (va_eqt (hs (z_lq5 i hi))) hA, vk_OFof h1 ht hA, hT⟩⟩
      · exact ⟨(0, 0), fun h => absurd h hi⟩
    exact Classical.axiomOfChoice h0
  obtain ⟨aL, eL, hTL⟩ := va_Tof (f := fun j => .ref (ak j)) (A := fun q => s.heap.size ≤ q) (by decide) (hs z_gALL1) (va_eqt (hs z_gALL2)) (fun j hj => va_eqv (hs (z_gALL3 j hj)) (hk j hj).1) hA
  obtain ⟨aW, eW, hTW⟩ := va_Tof (f := fun j => .int (([1, 2, 3, 4, 5, 6, 7, 8, 9, 0] : List Int32).getD j 0)) (A := fun q => s.heap.size ≤ q) (by decide) (hs z_gSW1) (va_eqt (hs z_gSW2)) (fun j hj => va_eqt (hs (z_gSW3 j hj))) hA
  obtain ⟨aT, eT, hTT⟩ := va_Tof (f := fun j => .int (Int32.ofNat (48 + j / 10))) (A := fun q => s.heap.size ≤ q) (by decide) (hs z_gDT1) (va_eqt (hs z_gDT2)) (fun j hj => va_eqt (hs (z_gDT3 j hj))) hA
  obtain ⟨aO, eO, hTO⟩ := va_Tof (f := fun j => .int (Int32.ofNat (48 + j % 10))) (A := fun q => s.heap.size ≤ q) (by decide) (hs z_gDO1) (va_eqt (hs z_gDO2)) (fun j hj => va_eqt (hs (z_gDO3 j hj))) hA
  obtain ⟨aF, vF, hvF, hZF⟩ : ∃ (aF : Nat) (v : Value), (v = .null ∨ v = .ref aF) ∧ va_Z "jdk/internal/util/Preconditions" "SIOOBE_FORMATTER" "Ljava/util/function/BiFunction;" v (fun q => s.heap.size ≤ q) s s.heap := by
    rcases va_Zqof (C := "jdk/internal/util/Preconditions") (n := "SIOOBE_FORMATTER") (d := "Ljava/util/function/BiFunction;") (A := fun q => s.heap.size ≤ q) (hts _ (z_isOf (j := 5030) (by decide +kernel))) (hts _ (z_isOf (j := 1029) (by decide +kernel))) (hs (k := 72) (by decide +kernel)) hA with h | ⟨t, h⟩
    · exact ⟨0, _, Or.inl rfl, h⟩
    · exact ⟨t, _, Or.inr rfl, h⟩
  obtain ⟨G, hG⟩ : ∃ G : z_G, G = (l, s.heap.size, (fun k => if k = 0 then b else if k ≤ 10 then ak (k - 1) else if k ≤ 20 then (ac (k - 11)).1 else if k ≤ 30 then (ac (k - 21)).2 else if k = 31 then aL else if k = 32 then aW else if k = 33 then aT else if k = 34 then aO else if k < 40 then aF else if k < 70 then (aq (k - 40)).1 else (aq (k - 70)).2), (dC, dI), dA, L, xs) := ⟨_, rfl⟩
  have gA : z_A G = (fun q => s.heap.size ≤ q) := by rw [hG]; rfl
  have g0 : z_ad G 0 = b := by rw [hG]; rfl
  have gk : ∀ i, i < 10 → z_ad G (1 + i) = ak i := fun i hi => by
    rw [hG]
    show (if 1 + i < 1000 then (if 1 + i = 0 then b else if 1 + i ≤ 10 then ak (1 + i - 1) else _) else _) = _
    rw [if_pos (by omega), if_neg (by omega), if_pos (by omega), Nat.add_sub_cancel_left]
  have gs : ∀ i, i < 10 → z_ad G (11 + i) = (ac i).1 := fun i hi => by
    rw [hG]
    show (if 11 + i < 1000 then (if 11 + i = 0 then b else if 11 + i ≤ 10 then ak (11 + i - 1) else if 11 + i ≤ 20 then (ac (11 + i - 11)).1 else _) else _) = _
    rw [if_pos (by omega), if_neg (by omega), if_neg (by omega), if_pos (by omega), Nat.add_sub_cancel_left]
  have gv : ∀ i, i < 10 → z_ad G (21 + i) = (ac i).2 := fun i hi => by
    rw [hG]
    show (if 21 + i < 1000 then (if 21 + i = 0 then b else if 21 + i ≤ 10 then ak (21 + i - 1) else if 21 + i ≤ 20 then (ac (21 + i - 11)).1 else if 21 + i ≤ 30 then (ac (21 + i - 21)).2 else _) else _) = _
    rw [if_pos (by omega), if_neg (by omega), if_neg (by omega), if_neg (by omega), if_pos (by omega), Nat.add_sub_cancel_left]
  have gL : z_ad G 31 = aL := by rw [hG]; rfl
  have gW : z_ad G 32 = aW := by rw [hG]; rfl
  have gT : z_ad G 33 = aT := by rw [hG]; rfl
  have gO : z_ad G 34 = aO := by rw [hG]; rfl
  have gF : z_ad G 35 = aF := by rw [hG]; rfl
  have ln : z_lsn = 28 := rfl
  have gq : ∀ i, i < z_lsn → z_ad G (40 + i) = (aq i).1 := fun i hi => by
    rw [hG]
    show (if 40 + i < 1000 then (if 40 + i = 0 then b else if 40 + i ≤ 10 then _ else if 40 + i ≤ 20 then _ else if 40 + i ≤ 30 then _ else if 40 + i = 31 then _ else if 40 + i = 32 then _ else if 40 + i = 33 then _ else if 40 + i = 34 then _ else if 40 + i < 40 then _ else if 40 + i < 70 then (aq (40 + i - 40)).1 else _) else _) = _
    rw [if_pos (by omega), if_neg (by omega), if_neg (by omega), if_neg (by omega), if_neg (by omega), if_neg (by omega), if_neg (by omega), if_neg (by omega), if_neg (by omega), if_neg (by omega), if_pos (by omega), Nat.add_sub_cancel_left]
  have gr : ∀ i, i < z_lsn → z_ad G (70 + i) = (aq i).2 := fun i hi => by
    rw [hG]
    show (if 70 + i < 1000 then (if 70 + i = 0 then b else if 70 + i ≤ 10 then _ else if 70 + i ≤ 20 then _ else if 70 + i ≤ 30 then _ else if 70 + i = 31 then _ else if 70 + i = 32 then _ else if 70 + i = 33 then _ else if 70 + i = 34 then _ else if 70 + i < 40 then _ else if 70 + i < 70 then _ else (aq (70 + i - 70)).2) else _) = _
    rw [if_pos (by omega), if_neg (by omega), if_neg (by omega), if_neg (by omega), if_neg (by omega), if_neg (by omega), if_neg (by omega), if_neg (by omega), if_neg (by omega), if_neg (by omega), if_neg (by omega), Nat.add_sub_cancel_left]
  have vr : ∀ i, i < z_lsn → z_v G (.ref (70 + i)) = .ref (aq i).2 := fun i hi => by show Value.ref _ = _; rw [gr i hi]
  have vk : ∀ i, i < 10 → z_v G (.ref (1 + i)) = .ref (ak i) := fun i hi => by show Value.ref _ = _; rw [gk i hi]
  have vs : ∀ i, i < 10 → z_v G (.ref (11 + i)) = .ref (ac i).1 := fun i hi => by show Value.ref _ = _; rw [gs i hi]
  have vv : ∀ i, i < 10 → z_v G (.ref (21 + i)) = .ref (ac i).2 := fun i hi => by show Value.ref _ = _; rw [gv i hi]
  refine ⟨G, by rw [hG], by rw [hG], g0, by rw [hG], ?_, ?_, ?_, ?_, ?_, ?_, ?_, ?_, ?_, ?_, ?_, ?_, hao, ?_, fun i hi => by rw [gq i hi]; exact vk_R.of (hts _ (z_isOf (z_lq9 i hi))) (hq i hi).1⟩
  · refine ⟨fun k q hq => by rw [hG]; exact hcl k q hq, fun k q hq => ?_⟩
    rw [hG] at hq
    have hk6 : k < 6 := (List.getElem?_eq_some_iff.mp hq).1
    rcases (by omega : k = 0 ∨ k = 1 ∨ k = 2 ∨ k = 3 ∨ k = 4 ∨ k = 5) with rfl | rfl | rfl | rfl | rfl | rfl <;> cases hq
    · exact har 0 (by decide)
    · exact har 1 (by decide)
    · exact har 2 (by decide)
    · exact har 3 (by decide)
    · exact har 4 (by decide)
    · exact har 5 (by decide)
  · rw [gA]
    refine List.forall_mem_cons.mpr ⟨by show va_Z "ClockParliament$Kind" "VOTE" "LClockParliament$Kind;" (z_v G (.ref 9)) (fun q => s.heap.size ≤ q) s s.heap; rw [show z_v G (.ref 9) = .ref (ak 8) from vk 8 (by decide)]; exact va_Zref (hts _ (z_isOf (j := 2002) (by decide +kernel))) (hts _ (z_isOf (j := 1015) (by decide +kernel))) (hk 8 (by decide)).1 hA, ?_⟩
    refine List.forall_mem_cons.mpr ⟨by show va_Z "ClockParliament$Kind" "ALL" "[LClockParliament$Kind;" (z_v G (.ref 31)) (fun q => s.heap.size ≤ q) s s.heap; rw [show z_v G (.ref 31) = .ref aL by show Value.ref _ = _; rw [gL]]; exact va_Zref (hts _ (z_isOf (j := 5050) (by decide +kernel))) (hts _ (z_isOf (j := 1015) (by decide +kernel))) eL hA, ?_⟩
    refine List.forall_mem_cons.mpr ⟨by show va_Z "ClockParliament$1" "$SwitchMap$ClockParliament$Kind" "[I" (z_v G (.ref 32)) (fun q => s.heap.size ≤ q) s s.heap; rw [show z_v G (.ref 32) = .ref aW by show Value.ref _ = _; rw [gW]]; exact va_Zref (hts _ (z_isOf (j := 2108) (by decide +kernel))) (hts _ (z_isOf (j := 1017) (by decide +kernel))) eW hA, ?_⟩
    refine List.forall_mem_cons.mpr ⟨by show va_Z "ClockParliament$Kind" "CLOCK" "LClockParliament$Kind;" (z_v G (.ref 1)) (fun q => s.heap.size ≤ q) s s.heap; rw [show z_v G (.ref 1) = .ref (ak 0) from vk 0 (by decide)]; exact va_Zref (hts _ (z_isOf (j := 7039) (by decide +kernel))) (hts _ (z_isOf (j := 1015) (by decide +kernel))) (hk 0 (by decide)).1 hA, ?_⟩
    refine List.forall_mem_cons.mpr ⟨by show va_Z "ClockParliament$Kind" "LEAVE" "LClockParliament$Kind;" (z_v G (.ref 2)) (fun q => s.heap.size ≤ q) s s.heap; rw [show z_v G (.ref 2) = .ref (ak 1) from vk 1 (by decide)]; exact va_Zref (hts _ (z_isOf (j := 2094) (by decide +kernel))) (hts _ (z_isOf (j := 1015) (by decide +kernel))) (hk 1 (by decide)).1 hA, ?_⟩
    refine List.forall_mem_cons.mpr ⟨by show va_Z "ClockParliament$Kind" "KEY" "LClockParliament$Kind;" (z_v G (.ref 3)) (fun q => s.heap.size ≤ q) s s.heap; rw [show z_v G (.ref 3) = .ref (ak 2) from vk 2 (by decide)]; exact va_Zref (hts _ (z_isOf (j := 3223) (by decide +kernel))) (hts _ (z_isOf (j := 1015) (by decide +kernel))) (hk 2 (by decide)).1 hA, ?_⟩
    refine List.forall_mem_cons.mpr ⟨by show va_Z "ClockParliament$Kind" "WIND" "LClockParliament$Kind;" (z_v G (.ref 4)) (fun q => s.heap.size ≤ q) s s.heap; rw [show z_v G (.ref 4) = .ref (ak 3) from vk 3 (by decide)]; exact va_Zref (hts _ (z_isOf (j := 3229) (by decide +kernel))) (hts _ (z_isOf (j := 1015) (by decide +kernel))) (hk 3 (by decide)).1 hA, ?_⟩
    refine List.forall_mem_cons.mpr ⟨by show va_Z "ClockParliament$Kind" "MOVE" "LClockParliament$Kind;" (z_v G (.ref 5)) (fun q => s.heap.size ≤ q) s s.heap; rw [show z_v G (.ref 5) = .ref (ak 4) from vk 4 (by decide)]; exact va_Zref (hts _ (z_isOf (j := 3235) (by decide +kernel))) (hts _ (z_isOf (j := 1015) (by decide +kernel))) (hk 4 (by decide)).1 hA, ?_⟩
    refine List.forall_mem_cons.mpr ⟨by show va_Z "ClockParliament$Kind" "BILL" "LClockParliament$Kind;" (z_v G (.ref 6)) (fun q => s.heap.size ≤ q) s s.heap; rw [show z_v G (.ref 6) = .ref (ak 5) from vk 5 (by decide)]; exact va_Zref (hts _ (z_isOf (j := 4001) (by decide +kernel))) (hts _ (z_isOf (j := 1015) (by decide +kernel))) (hk 5 (by decide)).1 hA, ?_⟩
    refine List.forall_mem_cons.mpr ⟨by show va_Z "ClockParliament$Kind" "ADJOURN" "LClockParliament$Kind;" (z_v G (.ref 7)) (fun q => s.heap.size ≤ q) s s.heap; rw [show z_v G (.ref 7) = .ref (ak 6) from vk 6 (by decide)]; exact va_Zref (hts _ (z_isOf (j := 4007) (by decide +kernel))) (hts _ (z_isOf (j := 1015) (by decide +kernel))) (hk 6 (by decide)).1 hA, ?_⟩
    refine List.forall_mem_cons.mpr ⟨by show va_Z "ClockParliament$Kind" "DROP" "LClockParliament$Kind;" (z_v G (.ref 8)) (fun q => s.heap.size ≤ q) s s.heap; rw [show z_v G (.ref 8) = .ref (ak 7) from vk 7 (by decide)]; exact va_Zref (hts _ (z_isOf (j := 7045) (by decide +kernel))) (hts _ (z_isOf (j := 1015) (by decide +kernel))) (hk 7 (by decide)).1 hA, ?_⟩
    refine List.forall_mem_cons.mpr ⟨by show va_Z "ClockParliament$Kind" "HOUR" "LClockParliament$Kind;" (z_v G (.ref 10)) (fun q => s.heap.size ≤ q) s s.heap; rw [show z_v G (.ref 10) = .ref (ak 9) from vk 9 (by decide)]; exact va_Zref (hts _ (z_isOf (j := 4018) (by decide +kernel))) (hts _ (z_isOf (j := 1015) (by decide +kernel))) (hk 9 (by decide)).1 hA, ?_⟩
    refine List.forall_mem_cons.mpr ⟨va_Zof (hts _ (z_isOf (j := 1212) (by decide +kernel))) (hts _ (z_isOf (j := 1011) (by decide +kernel))) (va_eqi (hs (k := 4) (by decide +kernel))) hA, ?_⟩
    refine List.forall_mem_cons.mpr ⟨by show va_Z "java/lang/Integer" "DigitOnes" "[B" (z_v G (.ref 34)) (fun q => s.heap.size ≤ q) s s.heap; rw [show z_v G (.ref 34) = .ref aO by show Value.ref _ = _; rw [gO]]; exact va_Zref (hts _ (z_isOf (j := 6050) (by decide +kernel))) (hts _ (z_isOf (j := 1023) (by decide +kernel))) eO hA, ?_⟩
    refine List.forall_mem_cons.mpr ⟨by show va_Z "java/lang/Integer" "DigitTens" "[B" (z_v G (.ref 33)) (fun q => s.heap.size ≤ q) s s.heap; rw [show z_v G (.ref 33) = .ref aT by show Value.ref _ = _; rw [gT]]; exact va_Zref (hts _ (z_isOf (j := 6052) (by decide +kernel))) (hts _ (z_isOf (j := 1023) (by decide +kernel))) eT hA, ?_⟩
    exact fun q hq => absurd hq List.not_mem_nil
  · rw [gA]
    intro q hm
    rcases List.mem_append.mp hm with hm | hm
    rotate_left
    · obtain ⟨i, hi, hm⟩ := List.mem_flatMap.mp hm
      have hi := List.mem_range.mp hi
      simp only [List.mem_cons, List.not_mem_nil, or_false] at hm
      rcases hm with rfl | rfl
      · show va_OF "java/lang/String" "coder" "B" (.int 0) (z_ad G (40 + i)) _ s s.heap
        rw [gq i hi]
        exact (hq i hi).2.2.1
      · show va_OF "java/lang/String" "value" "[B" (z_v G (.ref (70 + i))) (z_ad G (40 + i)) _ s s.heap
        rw [gq i hi, vr i hi]
        exact (hq i hi).2.2.2.1
    obtain ⟨i, hi, hm⟩ := List.mem_flatMap.mp hm
    have hi := List.mem_range.mp hi
    simp only [List.mem_cons, List.not_mem_nil, or_false] at hm
    rcases hm with rfl | rfl | rfl | rfl
    · show va_OF "java/lang/Enum" "ordinal" "I" (.int (Int32.ofNat i)) (z_ad G (1 + i)) _ s s.heap
      rw [gk i hi]
      exact vk_OFof (hk i hi).1 (va_eqt (hs (z_f2 i hi))) hA
    · show va_OF "ClockParliament$Kind" "form" "Ljava/lang/String;" (z_v G (.ref (11 + i))) (z_ad G (1 + i)) _ s s.heap
      rw [gk i hi, vs i hi]
      exact vk_OFof (hk i hi).1 (va_eqv (hs (z_f3 i hi)) (hc i hi).1) hA
    · show va_OF "java/lang/String" "coder" "B" (.int 0) (z_ad G (11 + i)) _ s s.heap
      rw [gs i hi]
      exact (hc i hi).2.2.1
    · show va_OF "java/lang/String" "value" "[B" (z_v G (.ref (21 + i))) (z_ad G (11 + i)) _ s s.heap
      rw [gs i hi, vv i hi]
      exact (hc i hi).2.2.2.1
  · rw [gA]
    intro q hm
    rcases List.mem_append.mp hm with hm | hm
    rotate_left
    · obtain ⟨i, hi, rfl⟩ := List.mem_map.mp hm
      have hi := List.mem_range.mp hi
      show va_O "java/lang/String" (z_ad G (40 + i)) _ s s.heap
      rw [gq i hi]
      exact (hq i hi).2.1
    obtain ⟨i, hi, hm⟩ := List.mem_flatMap.mp hm
    have hi := List.mem_range.mp hi
    simp only [List.mem_cons, List.not_mem_nil, or_false] at hm
    rcases hm with rfl | rfl
    · show va_O "ClockParliament$Kind" (z_ad G (1 + i)) _ s s.heap
      rw [gk i hi]
      exact (hk i hi).2
    · show va_O "java/lang/String" (z_ad G (11 + i)) _ s s.heap
      rw [gs i hi]
      exact (hc i hi).2.1
  · rw [gA]
    intro q hm
    rcases List.mem_append.mp hm with hm | hm
    · obtain ⟨i, hi, rfl⟩ := List.mem_map.mp hm
      have hi := List.mem_range.mp hi
      show va_T .byte (z_ad G (21 + i)) ((z_forms.getD i []).map Value.int).length (fun j => z_v G (((z_forms.getD i []).map Value.int).getD j .null)) _ s s.heap
      rw [gv i hi, List.length_map]
      refine z_Tcg (hc i hi).2.2.2.2 fun j hj => ?_
      rw [z_mapD _ hj]
      rfl
    rcases List.mem_append.mp hm with hm | hm
    rotate_left
    · obtain ⟨i, hi, rfl⟩ := List.mem_map.mp hm
      have hi := List.mem_range.mp hi
      show va_T .byte (z_ad G (70 + i)) ((z_lsc i).map fun x => Value.int (Int32.ofNat x)).length (fun j => z_v G (((z_lsc i).map fun x => Value.int (Int32.ofNat x)).getD j .null)) _ s s.heap
      rw [gr i hi, List.length_map]
      refine z_Tcg (hq i hi).2.2.2.2 fun j hj => ?_
      rw [z_mapN _ hj]
      rfl
    · simp only [List.mem_cons, List.not_mem_nil, or_false] at hm
      rcases hm with rfl | rfl | rfl | rfl
      · show va_T (.object "ClockParliament$Kind") (z_ad G 31) 10 (fun j => z_v G (((List.range 10).map fun i => Value.ref (1 + i)).getD j .null)) _ s s.heap
        rw [gL]
        refine z_Tcg hTL fun j hj => ?_
        rw [z_mapR _ hj, vk j hj]
      · show va_T .int (z_ad G 32) 10 (fun j => z_v G ((([1, 2, 3, 4, 5, 6, 7, 8, 9, 0] : List Int32).map Value.int).getD j .null)) _ s s.heap
        rw [gW]
        refine z_Tcg hTW fun j hj => ?_
        rw [z_mapD _ hj]
        rfl
      · show va_T .byte (z_ad G 33) 100 (fun j => z_v G (((List.range 100).map fun i => Value.int (Int32.ofNat (48 + i / 10))).getD j .null)) _ s s.heap
        rw [gT]
        refine z_Tcg hTT fun j hj => ?_
        rw [z_mapR _ hj]
        rfl
      · show va_T .byte (z_ad G 34) 100 (fun j => z_v G (((List.range 100).map fun i => Value.int (Int32.ofNat (48 + i % 10))).getD j .null)) _ s s.heap
        rw [gO]
        refine z_Tcg hTO fun j hj => ?_
        rw [z_mapR _ hj]
        rfl
  · rw [gA, g0]
    obtain ⟨scr, h1, h2, h3, h4, h5⟩ := hX
    rw [hG]
    exact ⟨scr, h1, h2, h3, Nat.le_of_eq h4.symm, by rw [h4], h5, hA b hbl⟩
  · exact fun w hw hn => va_Nw.of (by cases w <;> first | (simp [z_nw] at hn; done) | rfl) (hts w hw)
  · skip
    refine List.forall_mem_cons.mpr ⟨?_, ?_⟩
    · obtain ⟨a, h, -⟩ := z_exO (A := fun q => s.heap.size ≤ q) (hs (k := 354) (c := .exactly (.string "ClockParliament" 125) "java/lang/String") (by decide +kernel)) hA
      exact ⟨a, vk_R.of (hts _ (z_isOf (j := 3041) (by decide +kernel))) h⟩
    refine List.forall_mem_cons.mpr ⟨?_, ?_⟩
    · obtain ⟨a, h, -⟩ := z_exO (A := fun q => s.heap.size ≤ q) (hs (k := 382) (c := .exactly (.string "ClockParliament" 187) "java/lang/String") (by decide +kernel)) hA
      exact ⟨a, vk_R.of (hts _ (z_isOf (j := 4060) (by decide +kernel))) h⟩
    refine List.forall_mem_cons.mpr ⟨?_, ?_⟩
    · obtain ⟨a, h, -⟩ := z_exO (A := fun q => s.heap.size ≤ q) (hs (k := 420) (c := .exactly (.string "ClockParliament" 209) "java/lang/String") (by decide +kernel)) hA
      exact ⟨a, vk_R.of (hts _ (z_isOf (j := 4078) (by decide +kernel))) h⟩
    refine List.forall_mem_cons.mpr ⟨?_, ?_⟩
    · obtain ⟨a, h, -⟩ := z_exO (A := fun q => s.heap.size ≤ q) (hs (k := 442) (c := .exactly (.string "ClockParliament" 217) "java/lang/String") (by decide +kernel)) hA
      exact ⟨a, vk_R.of (hts _ (z_isOf (j := 4084) (by decide +kernel))) h⟩
    refine List.forall_mem_cons.mpr ⟨?_, ?_⟩
    · obtain ⟨a, h, -⟩ := z_exO (A := fun q => s.heap.size ≤ q) (hs (k := 365) (c := .exactly (.string "ClockParliament" 229) "java/lang/String") (by decide +kernel)) hA
      exact ⟨a, vk_R.of (hts _ (z_isOf (j := 4037) (by decide +kernel))) h⟩
    refine List.forall_mem_cons.mpr ⟨?_, ?_⟩
    · obtain ⟨a, h, -⟩ := z_exO (A := fun q => s.heap.size ≤ q) (hs (k := 404) (c := .exactly (.string "ClockParliament" 232) "java/lang/String") (by decide +kernel)) hA
      exact ⟨a, vk_R.of (hts _ (z_isOf (j := 4076) (by decide +kernel))) h⟩
    refine List.forall_mem_cons.mpr ⟨?_, ?_⟩
    · obtain ⟨a, h, -⟩ := z_exO (A := fun q => s.heap.size ≤ q) (hs (k := 479) (c := .exactly (.string "ClockParliament" 250) "java/lang/String") (by decide +kernel)) hA
      exact ⟨a, vk_R.of (hts _ (z_isOf (j := 4118) (by decide +kernel))) h⟩
    refine List.forall_mem_cons.mpr ⟨?_, ?_⟩
    · obtain ⟨a, h, -⟩ := z_exO (A := fun q => s.heap.size ≤ q) (hs (k := 496) (c := .exactly (.string "ClockParliament" 257) "java/lang/String") (by decide +kernel)) hA
      exact ⟨a, vk_R.of (hts _ (z_isOf (j := 4149) (by decide +kernel))) h⟩
    refine List.forall_mem_cons.mpr ⟨?_, ?_⟩
    · obtain ⟨a, h, -⟩ := z_exO (A := fun q => s.heap.size ≤ q) (hs (k := 457) (c := .exactly (.string "ClockParliament" 265) "java/lang/String") (by decide +kernel)) hA
      exact ⟨a, vk_R.of (hts _ (z_isOf (j := 4098) (by decide +kernel))) h⟩
    refine List.forall_mem_cons.mpr ⟨?_, ?_⟩
    · obtain ⟨a, h, -⟩ := z_exO (A := fun q => s.heap.size ≤ q) (hs (k := 520) (c := .exactly (.string "ClockParliament" 288) "java/lang/String") (by decide +kernel)) hA
      exact ⟨a, vk_R.of (hts _ (z_isOf (j := 4204) (by decide +kernel))) h⟩
    refine List.forall_mem_cons.mpr ⟨?_, ?_⟩
    · obtain ⟨a, h, -⟩ := z_exO (A := fun q => s.heap.size ≤ q) (hs (k := 742) (c := .exactly (.string "ClockParliament" 311) "java/lang/String") (by decide +kernel)) hA
      exact ⟨a, vk_R.of (hts _ (z_isOf (j := 7020) (by decide +kernel))) h⟩
    refine List.forall_mem_cons.mpr ⟨?_, ?_⟩
    · obtain ⟨a, h, -⟩ := z_exO (A := fun q => s.heap.size ≤ q) (hs (k := 773) (c := .exactly (.string "ClockParliament" 318) "java/lang/String") (by decide +kernel)) hA
      exact ⟨a, vk_R.of (hts _ (z_isOf (j := 7021) (by decide +kernel))) h⟩
    refine List.forall_mem_cons.mpr ⟨?_, ?_⟩
    · obtain ⟨a, h, -⟩ := z_exO (A := fun q => s.heap.size ≤ q) (hs (k := 575) (c := .exactly (.string "ClockParliament" 329) "java/lang/String") (by decide +kernel)) hA
      exact ⟨a, vk_R.of (hts _ (z_isOf (j := 6119) (by decide +kernel))) h⟩
    refine List.forall_mem_cons.mpr ⟨?_, ?_⟩
    · obtain ⟨a, h, -⟩ := z_exO (A := fun q => s.heap.size ≤ q) (hs (k := 599) (c := .exactly (.string "ClockParliament" 337) "java/lang/String") (by decide +kernel)) hA
      exact ⟨a, vk_R.of (hts _ (z_isOf (j := 6125) (by decide +kernel))) h⟩
    refine List.forall_mem_cons.mpr ⟨?_, ?_⟩
    · obtain ⟨a, h, -⟩ := z_exO (A := fun q => s.heap.size ≤ q) (hs (k := 622) (c := .exactly (.string "ClockParliament" 339) "java/lang/String") (by decide +kernel)) hA
      exact ⟨a, vk_R.of (hts _ (z_isOf (j := 6134) (by decide +kernel))) h⟩
    refine List.forall_mem_cons.mpr ⟨?_, ?_⟩
    · obtain ⟨a, h, -⟩ := z_exO (A := fun q => s.heap.size ≤ q) (hs (k := 649) (c := .exactly (.string "ClockParliament" 344) "java/lang/String") (by decide +kernel)) hA
      exact ⟨a, vk_R.of (hts _ (z_isOf (j := 6139) (by decide +kernel))) h⟩
    refine List.forall_mem_cons.mpr ⟨?_, ?_⟩
    · obtain ⟨a, h, -⟩ := z_exO (A := fun q => s.heap.size ≤ q) (hs (k := 794) (c := .exactly (.string "ClockParliament" 364) "java/lang/String") (by decide +kernel)) hA
      exact ⟨a, vk_R.of (hts _ (z_isOf (j := 7057) (by decide +kernel))) h⟩
    refine List.forall_mem_cons.mpr ⟨?_, ?_⟩
    · obtain ⟨a, h, -⟩ := z_exO (A := fun q => s.heap.size ≤ q) (hs (k := 667) (c := .exactly (.string "ClockParliament" 403) "java/lang/String") (by decide +kernel)) hA
      exact ⟨a, vk_R.of (hts _ (z_isOf (j := 6190) (by decide +kernel))) h⟩
    refine List.forall_mem_cons.mpr ⟨?_, ?_⟩
    · obtain ⟨a, h, -⟩ := z_exO (A := fun q => s.heap.size ≤ q) (hs (k := 690) (c := .exactly (.string "ClockParliament" 408) "java/lang/String") (by decide +kernel)) hA
      exact ⟨a, vk_R.of (hts _ (z_isOf (j := 6204) (by decide +kernel))) h⟩
    refine List.forall_mem_cons.mpr ⟨?_, ?_⟩
    · obtain ⟨a, h, -⟩ := z_exO (A := fun q => s.heap.size ≤ q) (hs (k := 702) (c := .exactly (.string "ClockParliament" 410) "java/lang/String") (by decide +kernel)) hA
      exact ⟨a, vk_R.of (hts _ (z_isOf (j := 6224) (by decide +kernel))) h⟩
    refine List.forall_mem_cons.mpr ⟨?_, ?_⟩
    · obtain ⟨a, h, -⟩ := z_exO (A := fun q => s.heap.size ≤ q) (hs (k := 721) (c := .exactly (.string "ClockParliament" 416) "java/lang/String") (by decide +kernel)) hA
      exact ⟨a, vk_R.of (hts _ (z_isOf (j := 7003) (by decide +kernel))) h⟩
    exact fun q hq => absurd hq List.not_mem_nil
  · rw [gA]
    exact vx_Zqof (hts _ (z_isOf (j := 3024) (by decide +kernel))) (hts _ (z_isOf (j := 1018) (by decide +kernel))) (hs (k := 25) (by decide +kernel)) hA
  · rw [gA]
    exact vx_Zqof (hts _ (z_isOf (j := 3026) (by decide +kernel))) (hts _ (z_isOf (j := 1018) (by decide +kernel))) (hs (k := 26) (by decide +kernel)) hA
  · skip
    refine List.forall_mem_cons.mpr ⟨va_Nc.of (hs (k := 352) (by decide +kernel)), ?_⟩
    refine List.forall_mem_cons.mpr ⟨va_Nc.of (hs (k := 351) (by decide +kernel)), ?_⟩
    refine List.forall_mem_cons.mpr ⟨va_Nc.of (hs (k := 348) (by decide +kernel)), ?_⟩
    exact fun q hq => absurd hq List.not_mem_nil
  · rw [gA]
    rcases hvF with rfl | rfl
    · exact ⟨.null, Or.inl rfl, hZF⟩
    · refine ⟨.ref 35, Or.inr rfl, ?_⟩
      rw [show z_v G (.ref 35) = .ref aF by show Value.ref _ = _; rw [gF]]
      exact hZF
  · have h0 : (Cond.selects "java/lang/StringBuilder" ⟨"java/lang/AbstractStringBuilder", "isLatin1", "()Z"⟩ ⟨"java/lang/AbstractStringBuilder", "isLatin1", "()Z"⟩).before #[Value.ref b] s = true := hts _ (z_isOf (j := 5209) (by decide +kernel))
    refine List.forall_mem_cons.mpr ⟨va_Nw.of rfl (z_selPriv (x0 := ⟨"java/lang/AbstractStringBuilder", "isLatin1", "()Z"⟩) rfl ⟨by decide, by decide⟩ h0 (hts _ (z_isOf (j := 5176) (by decide +kernel))) (hts _ (z_isOf (j := 5177) (by decide +kernel)))), ?_⟩
    refine List.forall_mem_cons.mpr ⟨va_Nw.of rfl (z_selPriv (x0 := ⟨"java/lang/AbstractStringBuilder", "isLatin1", "()Z"⟩) rfl ⟨by decide, by decide⟩ h0 (hts _ (z_isOf (j := 5180) (by decide +kernel))) (hts _ (z_isOf (j := 5181) (by decide +kernel)))), ?_⟩
    refine List.forall_mem_cons.mpr ⟨va_Nw.of rfl (z_selPriv (x0 := ⟨"java/lang/AbstractStringBuilder", "isLatin1", "()Z"⟩) rfl ⟨by decide, by decide⟩ h0 (hts _ (z_isOf (j := 6003) (by decide +kernel))) (hts _ (z_isOf (j := 6004) (by decide +kernel)))), ?_⟩
    refine List.forall_mem_cons.mpr ⟨va_Nw.of rfl (z_selPriv (x0 := ⟨"java/lang/AbstractStringBuilder", "isLatin1", "()Z"⟩) rfl ⟨by decide, by decide⟩ h0 (hts _ (z_isOf (j := 6007) (by decide +kernel))) (hts _ (z_isOf (j := 6008) (by decide +kernel)))), ?_⟩
    exact fun q hq => absurd hq List.not_mem_nil
end ZSt
