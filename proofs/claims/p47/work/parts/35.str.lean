/-! Texts: the law's own constants and those that it makes; builders whose room is known. -/
section ZTx
variable {G : z_G} {d mc ms mi pc nx : Nat} {L st : List Value} {h : z_H} {Q : z_O → z_H → Prop} {info : List Nat}
/-- a text: the String r, its bytes a, its letters l -/
def z_tx (h : z_H) (r a : Nat) (l : List Nat) : Prop := l.length ≤ 100 ∧ (∀ x ∈ l, x < 128) ∧ (((r, "java/lang/String", "coder", "B", Value.int 0) ∈ z_rof ∧ (r, "java/lang/String", "value", "[B", Value.ref a) ∈ z_rof ∧ (r, "java/lang/String") ∈ z_roo ∧ (a, FieldType.byte, l.map fun x => Value.int (nI x)) ∈ z_roa) ∨ ∃ (v1 v2 : Value) (g : Nat → Int32), h.2 r = some (.inr (9, [.ref a, .int 0, v1, v2])) ∧ h.2 a = some (.inl (2, l.length, .inl g)) ∧ ∀ j, j < l.length → g j = nI (l.getD j 0))
theorem z_tx.keptX {h h' : z_H} {r a : Nat} {l : List Nat} (x : z_tx h r a l) (h1 : h'.2 r = h.2 r) (h2 : h'.2 a = h.2 a) : z_tx h' r a l := by
  obtain ⟨y1, y2, y3 | ⟨v1, v2, g, y4, y5, y6⟩⟩ := x
  · exact ⟨y1, y2, Or.inl y3⟩
  · exact ⟨y1, y2, Or.inr ⟨v1, v2, g, h1.trans y4, h2.trans y5, y6⟩⟩
theorem z_lscB : ∀ i, i < z_lsn → (z_lsc i).length ≤ 100 ∧ ∀ x ∈ z_lsc i, x < 128 := by decide +kernel
theorem z_txK (h : z_H) {i : Nat} (hi : i < z_lsn) : z_tx h (40 + i) (70 + i) (z_lsc i) :=
  ⟨(z_lscB i hi).1, (z_lscB i hi).2, Or.inl ⟨List.mem_append_right _ (List.mem_flatMap.mpr ⟨i, List.mem_range.mpr hi, List.mem_cons_self⟩), List.mem_append_right _ (List.mem_flatMap.mpr ⟨i, List.mem_range.mpr hi, List.mem_cons_of_mem _ List.mem_cons_self⟩), List.mem_append_right _ (List.mem_map.mpr ⟨i, List.mem_range.mpr hi, rfl⟩), List.mem_append_right _ (List.mem_append_right _ (List.mem_map.mpr ⟨i, List.mem_range.mpr hi, rfl⟩))⟩⟩
theorem z_tx.lt {r a i : Nat} {l : List Nat} (x : z_tx h r a l) (hi : i < l.length) : l.getD i 0 < 128 := by
  refine x.2.1 _ ?_
  rw [List.getD_eq_getElem?_getD, List.getElem?_eq_getElem hi]
  exact List.getElem_mem hi
/-- a constant text is pushed -/
theorem z_ldcS {idx : Nat} {i : Nat} (hr : z_at mi pc = some (.ldc idx, nx, info)) (ho : (z_y mi).cls = "ClockParliamentLaw") (hi : i < z_lsn) (hx : (z_lsq.getD i (0, "", [])).1 = idx) (k : z_W G d mc ms mi nx L (.ref (40 + i) :: st) h Q) : z_W G d mc ms mi pc L st h Q := by
  obtain ⟨hd, rfl⟩ := z_dn (n := 2) hr rfl (by decide)
  intro p e R s m args below meth c H locs cells slots MC MS ls C r hS hL hR
  have hZ := (C.2.2.2.2.2.2.2.2.2.1).2.2.2.2.2.2.2.2.2.2.2.2.2.2 i hi
  rw [hx] at hZ
  exact va_ldcS C.1 C.2.1 (by rw [← ho]; exact C.2.2.2.2.1) hZ hd (k p e R s m args below meth c H locs cells slots MC MS ls C r hS hL hR)
theorem z_ldcSW {idx : Nat} {i : Nat} (hr : z_at mi pc = some (.ldc_w idx, nx, info)) (ho : (z_y mi).cls = "ClockParliamentLaw") (hi : i < z_lsn) (hx : (z_lsq.getD i (0, "", [])).1 = idx) (k : z_W G d mc ms mi nx L (.ref (40 + i) :: st) h Q) : z_W G d mc ms mi pc L st h Q := by
  obtain ⟨hd, rfl⟩ := z_dn (n := 3) hr rfl (by decide)
  intro p e R s m args below meth c H locs cells slots MC MS ls C r hS hL hR
  have hZ := (C.2.2.2.2.2.2.2.2.2.1).2.2.2.2.2.2.2.2.2.2.2.2.2.2 i hi
  rw [hx] at hZ
  intro T hT X
  obtain ⟨t, a1, b1⟩ := k p e R s m args below meth c H locs cells slots MC MS ls C r hS hL hR T hT X
  exact ⟨t, X.ldcStringW C.1 (by rw [← ho]; exact C.2.2.2.2.1) hZ.1 hZ.2 (g := F0 m pc ls (st.map (z_v G))) rfl (by rw [C.2.1]; exact hd) t a1, b1⟩
/-- a float constant by a wide index -/
theorem z_ldcFW {idx j : Nat} {b : UInt32} (hr : z_at mi pc = some (.ldc_w idx, nx, info)) (hj : z_is j (.constantFloat (z_y mi).cls idx b) = true) (k : z_W G d mc ms mi nx L (.float b :: st) h Q) : z_W G d mc ms mi pc L st h Q := by
  obtain ⟨hd, rfl⟩ := z_dn (n := 3) hr rfl (by decide)
  intro p e R s m args below meth c H locs cells slots MC MS ls C r hS hL hR T hT X
  obtain ⟨kc, cf, hk, hcf, hcp⟩ := Cond.constantFloat_spec C.2.2.2.2.1 (C.2.2.2.2.2.1 _ (z_gwOf (z_isOf hj) rfl))
  obtain ⟨k', hk', he⟩ := X.warmed.alike.2.2 _ _ hk
  obtain ⟨t, a1, b1⟩ := k p e R s m args below meth c H locs cells slots MC MS ls C r hS hL hR T hT X
  refine ⟨t, ?_, b1⟩
  have hd' : decode c.code pc = .ok (.ldc_w idx, 3) := by rw [C.2.1]; exact hd
  have hx := C.1
  show Steps p.tables e below (T.setTop (F0 m pc ls (st.map (z_v G)))) t
  jvm_step X.here [hx, hd', ldc_w.wp_float (s := T) (f := F0 m pc ls (st.map (z_v G))) X.here.top hk' (by rw [he]; exact hcf) hcp]
  exact a1
/-- a field of a thing that the run made, by a row that names the field as of a constant thing -/
theorem z_getH {idx f j r ci k : Nat} {fs : List Value} {v : Value} {q : vw_C} (hr : z_at mi pc = some (.getfield idx, nx, [1, f, j])) (hc : h.2 r = some (.inr (ci, fs))) (hq : z_cl[ci]? = some q) (hk : k < q.2.2) (he : z_rft[f]? = some ((q.2.1 k).1, (q.2.1 k).2.1, (q.2.1 k).2.2.1)) (hv : fs[k]? = some v) (kk : z_W G d mc ms mi nx L (v :: st) h Q) : z_W G d mc ms mi pc L (.ref r :: st) h Q := by
  obtain ⟨hd, rfl⟩ := z_dn (n := 3) hr rfl (by decide)
  have hlk2 : (match z_rft[f]? with
    | some q => z_is j (.fieldLink (z_y mi).cls idx q.1 q.2.1 q.2.2) || z_isFN j (z_y mi).cls idx q.1 q.2.1 q.2.2
    | none => false) = true := z_lkOf hr
  rw [he] at hlk2
  obtain ⟨C0, T, N⟩ := q
  intro p e R s m args below meth c H locs cells slots MC MS ls C r hS hL hR
  have hP := hR.one hc
  have hv2 : (fs.map (z_v G))[k]? = some (z_v G v) := by simp [hv]
  rcases z_flOf2 hlk2 with hw | ⟨host, hw⟩
  · exact va_get C.1 C.2.1 C.2.2.2.2.2.1 (z_clOk hq).1 C.2.2.2.2.1 (C.2.2.2.2.2.2.2.2.2.1).1 hP 0 rfl hq k hk (C.2.2.2.2.2.1 _ hw) (fun _ h9 => h9) hv2 hd (kk p e R s m args below meth c H locs cells slots MC MS ls C r hS hL hR)
  · exact va_getN C.1 C.2.1 C.2.2.2.2.2.1 (z_clOk hq).1 C.2.2.2.2.1 (C.2.2.2.2.2.2.2.2.2.1).1 hP 0 rfl hq k hk (va_Nw.use rfl ((C.2.2.2.2.2.2.2.2.2.1).2.2.2.2.2.2.1 _ hw rfl)) (fun _ h9 => h9) hv2 hd (kk p e R s m args below meth c H locs cells slots MC MS ls C r hS hL hR)
variable {r a : Nat} {l : List Nat}
theorem z_getT3 {idx j : Nat} (hr : z_at mi pc = some (.getfield idx, nx, [1, 3, j])) (hT : z_tx h r a l) (kk : z_W G d mc ms mi nx L (.int 0 :: st) h Q) : z_W G d mc ms mi pc L (.ref r :: st) h Q := by
  obtain ⟨y1, y2, y3 | ⟨v1, v2, g, y4, y5, y6⟩⟩ := hT
  · exact z_getR hr y3.1 kk
  · exact z_getH (ci := 9) (k := 1) hr y4 rfl (by decide) rfl rfl kk
theorem z_getT2 {idx j : Nat} (hr : z_at mi pc = some (.getfield idx, nx, [1, 2, j])) (hT : z_tx h r a l) (kk : z_W G d mc ms mi nx L (.ref a :: st) h Q) : z_W G d mc ms mi pc L (.ref r :: st) h Q := by
  obtain ⟨y1, y2, y3 | ⟨v1, v2, g, y4, y5, y6⟩⟩ := hT
  · exact z_getR hr y3.2.1 kk
  · exact z_getH (ci := 9) (k := 0) hr y4 rfl (by decide) rfl rfl kk
theorem z_alenT (hr : z_at mi pc = some (.arraylength, nx, info)) (hT : z_tx h r a l) (kk : z_W G d mc ms mi nx L (.int (nI l.length) :: st) h Q) : z_W G d mc ms mi pc L (.ref a :: st) h Q := by
  obtain ⟨y1, y2, y3 | ⟨v1, v2, g, y4, y5, y6⟩⟩ := hT
  · refine z_alenR hr y3.2.2.2 ?_
    rw [show Int32.ofNat (l.map fun x => Value.int (nI x)).length = nI l.length by rw [List.length_map]; rfl]
    exact kk
  · exact z_alenI hr y5 (by decide) kk
theorem z_baldT {i : Nat} (hr : z_at mi pc = some (.baload, nx, info)) (hT : z_tx h r a l) (hi : i < l.length) (kk : z_W G d mc ms mi nx L (.int (nI (l.getD i 0)) :: st) h Q) : z_W G d mc ms mi pc L (.int (nI i) :: .ref a :: st) h Q := by
  obtain ⟨y1, y2, y3 | ⟨v1, v2, g, y4, y5, y6⟩⟩ := hT
  · refine z_baldR hr y3.2.2.2 (by rw [List.length_map]; exact vp_in_nI hi (by omega)) ?_ kk
    rw [nI_clamp (by omega)]
    simp [List.getD_eq_getElem?_getD, List.getElem?_map, List.getElem?_eq_getElem hi]
  · refine z_bald hr y5 (vp_in_nI hi (by omega)) ?_
    rw [nI_clamp (by omega), y6 i hi]
    exact kk
theorem z_callT {idx mj n j d' mc' ms' : Nat} {av stk : List Value} (hr : z_at mi pc = some (.invokevirtual idx, nx, [0, mj, n, j])) (hw : z_okW mj = true) (hcl : (z_y mj).cls = "java/lang/String") (hT : z_tx h r a l) (hstk : stk = av.reverse ++ .ref r :: st) (hav : av.length = n) (hcat : (av.all fun v => v.category == 1) = true) (hst : Nat.ble ((st.map fun v => v.category).sum) 8 = true) (hdd : d' + 1 ≤ d) (hm : mc' ≤ mc) (hs : ms' ≤ ms) (hnl : av.length + 1 ≤ z_nL mj) (k : z_W G d' mc' ms' mj 0 (z_L0 mj (.ref r :: av)) [] h (z_K2 G d (mc - mc') (ms - ms') mi pc nx L st Q)) : z_W G d mc ms mi pc L stk h Q := by
  obtain ⟨y1, y2, y3 | ⟨v1, v2, g, y4, y5, y6⟩⟩ := hT
  · exact z_callVR hr hw (by rw [hcl]; exact y3.2.2.1) hstk hav hcat hst hdd hm hs hnl k
  · exact z_callV hr hw y4 (by rw [hcl]; rfl) hstk hav hcat hst hdd hm hs hnl k
end ZTx
section ZTy
variable {G : z_G} {h : z_H} {Q : z_O → z_H → Prop} {r a : Nat} {l : List Nat}
theorem c_xLatin (hT : z_tx h r a l) (q : Q (.inl (some (.int 1))) h) : z_W G 0 0 0 330 0 (z_L0 330 [.ref r]) [] h Q := by
  refine z_gets (v := .int 1) rfl (by decide +kernel) rfl ?_
  refine z_if_eq rfl (fun c3 => absurd c3 (by decide)) (fun c3 => ?_)
  refine z_aload_n rfl rfl ?_
  refine z_getT3 rfl hT ?_
  refine z_if_ne rfl (fun c10 => absurd rfl c10) (fun c10 => ?_)
  refine z_iconst (v := 1) rfl (by decide) ?_
  refine z_goto rfl ?_
  refine z_zret (ty := .boolean) rfl rfl (by first | decide | exact z_nb _) ?_
  exact q
theorem c_xCoder (hT : z_tx h r a l) (q : Q (.inl (some (.int 0))) h) : z_W G 0 0 0 332 0 (z_L0 332 [.ref r]) [] h Q := by
  refine z_gets (v := .int 1) rfl (by decide +kernel) rfl ?_
  refine z_if_eq rfl (fun c3 => absurd c3 (by decide)) (fun c3 => ?_)
  refine z_aload_n rfl rfl ?_
  refine z_getT3 rfl hT ?_
  refine z_goto rfl ?_
  refine z_zret (ty := .byte) rfl rfl (by decide) ?_
  exact q
theorem c_xLength (hT : z_tx h r a l) (q : Q (.inl (some (.int (nI l.length)))) h) : z_W G 1 0 0 331 0 (z_L0 331 [.ref r]) [] h Q := by
  refine z_aload_n rfl rfl ?_
  refine z_getT2 rfl hT ?_
  refine z_alenT rfl hT ?_
  refine z_aload_n rfl rfl ?_
  refine z_callT (av := []) rfl z_w332 rfl hT rfl rfl rfl rfl (Nat.le_of_ble_eq_true rfl) (Nat.le_of_ble_eq_true rfl) (Nat.le_of_ble_eq_true rfl) (Nat.le_of_ble_eq_true rfl) (c_xCoder hT ?_)
  refine z_ishr rfl ?_
  rw [sb_shr0]
  refine z_iret rfl rfl ?_
  exact q
theorem c_xbCharAt {i : Nat} (hT : z_tx h r a l) (hi : i < l.length) (q : Q (.inl (some (.int (nI (l.getD i 0))))) h) : z_W G 2 0 0 335 0 (z_L0 335 [.ref a, .int (nI i)]) [] h Q := by
  have hl := hT.lt hi
  have h1 := hT.1
  refine z_iload_n rfl rfl ?_
  refine z_aload_n rfl rfl ?_
  refine z_alenT rfl hT ?_
  refine z_callS (av := [_, _]) rfl z_w323 rfl rfl rfl rfl (Nat.le_of_ble_eq_true rfl) (Nat.le_of_ble_eq_true rfl) (Nat.le_of_ble_eq_true rfl) (Nat.le_of_ble_eq_true rfl) (c_checkIndex hi (by omega) ?_)
  refine z_aload_n rfl rfl ?_
  refine z_iload_n rfl rfl ?_
  refine z_baldT rfl hT hi ?_
  refine z_sipush (v := 255) rfl (by decide) ?_
  refine z_iand rfl ?_
  rw [(z_c128 _ hl).2.2.1]
  refine z_i2c rfl ?_
  rw [(z_c128 _ hl).2.2.2.1]
  refine z_zret (ty := .char) rfl rfl (z_c128 _ hl).2.2.2.2.1 ?_
  exact q
theorem c_xCharAt {i : Nat} (hT : z_tx h r a l) (hi : i < l.length) (q : Q (.inl (some (.int (nI (l.getD i 0))))) h) : z_W G 3 0 0 329 0 (z_L0 329 [.ref r, .int (nI i)]) [] h Q := by
  refine z_aload_n rfl rfl ?_
  refine z_callT (av := []) rfl z_w330 rfl hT rfl rfl rfl rfl (Nat.le_of_ble_eq_true rfl) (Nat.le_of_ble_eq_true rfl) (Nat.le_of_ble_eq_true rfl) (Nat.le_of_ble_eq_true rfl) (c_xLatin hT ?_)
  refine z_if_eq rfl (fun c4 => absurd c4 (by decide)) (fun c4 => ?_)
  refine z_aload_n rfl rfl ?_
  refine z_getT2 rfl hT ?_
  refine z_iload_n rfl rfl ?_
  refine z_callS (av := [_, _]) rfl z_w335 rfl rfl rfl rfl (Nat.le_of_ble_eq_true rfl) (Nat.le_of_ble_eq_true rfl) (Nat.le_of_ble_eq_true rfl) (Nat.le_of_ble_eq_true rfl) (c_xbCharAt hT hi ?_)
  refine z_zret (ty := .char) rfl rfl (z_c128 _ (hT.lt hi)).2.2.2.2.1 ?_
  exact q
end ZTy
