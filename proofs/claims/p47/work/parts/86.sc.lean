/-! Builders whose room is known; the texts that they give. -/
section ZSc0
variable {G : z_G} {d mc ms mi pc nx : Nat} {L st : List Value} {h : z_H} {Q : z_O → z_H → Prop} {info : List Nat}
/-- System.arraycopy out of a constant text's bytes -/
theorem z_copyR {idx j b r n1 dp : Nat} {l : List Nat} {g : Nat → Int32} (hr : z_at mi pc = some (.invokestatic idx, nx, [8, 0, 5, j])) (hb : (b, FieldType.byte, l.map fun x => Value.int (nI x)) ∈ z_roa) (hl : ∀ x ∈ l, x < 128) (hl9 : l.length ≤ 100) (hc1 : h.2 r = some (.inl (2, n1, .inl g))) (h5 : dp + l.length ≤ n1) (hn1 : n1 ≤ 1000) (hdd : 1 ≤ d) (hst : Nat.ble ((st.map fun v => v.category).sum) 8 = true) (kk : z_W G d mc ms mi nx L st (z_set h r (.inl (2, n1, .inl (va_cpy (fun i => nI (l.getD i 0)) g 0 dp l.length)))) Q) : z_W G d mc ms mi pc L (.int (nI l.length) :: .int (nI dp) :: .ref r :: .int 0 :: .ref b :: st) h Q := by
  obtain ⟨hd, rfl⟩ := z_dn (n := 3) hr rfl (by decide)
  have hlk : z_is j (.methodLink (z_y mi).cls idx arraycopyName) = true := z_lkOf hr
  intro p e R s m args below meth c H locs cells slots MC MS ls C r9 hS hL hR T hT X
  have hts := C.2.2.2.2.2.1
  have hK := (C.2.2.2.2.2.2.2.2.2.1).1
  obtain ⟨scr, hs1, hs2, hs3, hs4, -, hs5, hs7⟩ := (C.2.2.2.2.2.2.2.2.2.1).2.2.2.2.1 _ hb
  rw [List.length_map] at hs4
  obtain ⟨d1, -, d2⟩ := hR.2 r _ hc1
  have hl8 := z_stL (G := G) hst
  have hH0 : H[z_ad G b]? = some scr := by rw [hS.2.1 _ (Array.getElem?_eq_some_iff.mp hs1).1 hs7]; exact hs1
  have hH1 : H[z_ad G r]? = some (vp_cell (G.2.2.2.2.1 2) (n1, .inl g)) := d2
  have hv : ∀ i, i < l.length → scr.slots[i]? = some (.int (nI (l.getD i 0))) := fun i hi => by
    have e := hs5 i (by rw [List.length_map]; exact hi)
    rw [e]
    simp [List.getD_eq_getElem?_getD, List.getElem?_map, List.getElem?_eq_getElem hi, z_v]
  obtain ⟨hs6, k0, hk0, cm0, hkk0⟩ := hs2
  obtain ⟨-, k1, hk1, cm1, hkk1⟩ := (hK.2 2 _ rfl).1 n1 (fun j => .int (g j))
  have n0 : ¬ nI l.length < 0 := nI_pos (by omega)
  have nd : ¬ nI dp < 0 := nI_pos (by omega)
  have c0 : (nI l.length).toNatClampNeg = l.length := nI_clamp (by omega)
  have cd0 : (nI dp).toNatClampNeg = dp := nI_clamp (by omega)
  obtain ⟨vm', X', step⟩ := X.arraycopy C.1 C.2.2.2.2.1 (hts _ (z_gwOf (z_isOf hlk) rfl)) (hts _ (z_gwOf (z_isOf (j := 5205) (by decide +kernel)) rfl)) (hts _ (z_gwOf (z_isOf (j := 5204) (by decide +kernel)) rfl)) (hts _ (z_gwOf (z_isOf (j := 1028) (by decide +kernel)) rfl)) (src := z_ad G b) (dst := z_ad G r) (cs := scr) (cd := vp_cell (G.2.2.2.2.1 2) (n1, .inl g)) (srcPos := 0) (destPos := nI dp) (n := nI l.length) (by rw [hT]; exact hH0) (by rw [hT]; exact hH1)
    hs6 (fun _ h => by cases h) hs3 (fun h => by cases h) hk0 hk1 hkk0 hkk1 (by simp [refKind, z_tyOf]) (by decide) nd n0
    (by rw [z_nnz n0, c0]; show ¬ (0 : Int) + _ > _; omega)
    (by rw [z_nnz nd, z_nnz n0, c0, cd0]; show ¬ _ > ((arrV _ n1 (fun j => .int (g j))).slots.size : Int); rw [arrV_size]; omega)
    (fun vm₁ _ i hi => by
      have hi2 : i < l.length := by rw [c0] at hi; exact hi
      have e : scr.slots.getD ((0 : Int32).toNatClampNeg + i) .null = .int (nI (l.getD i 0)) := by
        rw [Array.getD_eq_getD_getElem?, show (0 : Int32).toNatClampNeg + i = i from Nat.zero_add i, hv i hi2]
        rfl
      refine ⟨?_, ?_⟩
      · rw [e]
        exact (z_c128 _ (hl _ (by rw [List.getD_eq_getElem?_getD, List.getElem?_eq_getElem hi2]; exact List.getElem_mem hi2))).2.1
      · rw [e]
        exact trivial)
    (g := F0 m pc ls (.int (nI l.length) :: .int (nI dp) :: .ref (z_ad G r) :: .int 0 :: .ref (z_ad G b) :: st.map (z_v G))) rfl (by rw [C.2.2.1]; exact hL.1) (rest := st.map (z_v G)) rfl (by rw [C.2.1]; exact hd) (by omega) (by show 2 * 0 + _ + (nativeFrameWords "java/lang/System" "arraycopy" 5 + 11) ≤ _; have e9 : nativeFrameWords "java/lang/System" "arraycopy" 5 ≤ 60 := (by decide +kernel); omega)
  have e1 : copied scr (vp_cell (G.2.2.2.2.1 2) (n1, .inl g)) 0 (nI dp) (nI l.length) = vp_cell (G.2.2.2.2.1 2) (n1, .inl (va_cpy (fun i => nI (l.getD i 0)) g 0 dp l.length)) := by
    have e9 := va_copiedX (fun z => .int z) scr (G.2.2.2.2.1 2) (n0 := l.length) (n1 := n1) (sp := 0) (dp := dp) (n := l.length) (fun i => nI (l.getD i 0)) g hv (by omega)
    show (arrV (G.2.2.2.2.1 2) n1 (fun j => .int (g j))).storeRun (nI dp).toNatClampNeg (scr.stretch (0 : Int32).toNatClampNeg (nI l.length).toNatClampNeg) = _
    rw [c0, cd0]
    exact e9
  rw [e1] at X' step
  have hlH : z_ad G r < H.size := (Array.getElem?_eq_some_iff.mp hH1).1
  have hheap : ((T.setVm vm').setCell (z_ad G r) (vp_cell (G.2.2.2.2.1 2) (n1, .inl (va_cpy (fun i => nI (l.getD i 0)) g 0 dp l.length)))).heap = H.setIfInBounds (z_ad G r) (vp_cell (G.2.2.2.2.1 2) (n1, .inl (va_cpy (fun i => nI (l.getD i 0)) g 0 dp l.length))) := by rw [← hT]; rfl
  have oq : ∀ q : Nat, q ≠ z_ad G r → (H.setIfInBounds (z_ad G r) (vp_cell (G.2.2.2.2.1 2) (n1, .inl (va_cpy (fun i => nI (l.getD i 0)) g 0 dp l.length))))[q]? = H[q]? := fun q hq => by simp [Array.getElem?_setIfInBounds, Ne.symm hq]
  have hS' : ∀ l2 : List Loc, (∀ q ∈ l2, q.base = z_ad G r) → va_S (z_A G) s.heap (H.setIfInBounds (z_ad G r) (vp_cell (G.2.2.2.2.1 2) (n1, .inl (va_cpy (fun i => nI (l.getD i 0)) g 0 dp l.length)))) (locs ++ l2) := fun l2 hl2 => ⟨by simp; exact hS.1, fun q g1 g2 => by
      rw [oq q (fun e => g2 (by rw [e]; exact z_adA d1))]
      exact hS.2.1 q g1 g2, fun q hq => by
      rcases List.mem_append.mp hq with h | h
      · exact hS.2.2 q h
      · rw [hl2 q h]; exact z_adA d1⟩
  obtain ⟨t, a1, b1⟩ := kk p e R s m args below meth c _ _ cells slots MC MS ls C r9 (hS' _ (fun q hq => by obtain ⟨z, -, hz⟩ := List.mem_map.mp hq; rw [← hz])) hL (hR.set hc1 (by simp) oq (show (H.setIfInBounds (z_ad G r) _)[z_ad G r]? = some _ by simp [Array.getElem?_setIfInBounds, hlH]; rfl)) _ hheap X'
  exact ⟨t, step _ a1, b1⟩
/-- an inherited method of a StringBuilder, selected by a word -/
theorem z_callA2 {idx mj n j d' mc' ms' js : Nat} {av stk : List Value} {a : Nat} {fs : List Value} (hr : z_at mi pc = some (.invokevirtual idx, nx, [10, mj, n, j])) (hw : z_okW mj = true) (hemp : (z_hh mj).isEmpty = true) (hps : z_pl mj 3 ≠ 1) (hjs : z_is js (.selects "java/lang/StringBuilder" (z_y mj) (z_y mj)) = true) (hrc : h.2 a = some (.inr (10, fs))) (hstk : stk = av.reverse ++ .ref a :: st) (hav : av.length = n) (hcat : (av.all fun v => v.category == 1) = true) (hst : Nat.ble ((st.map fun v => v.category).sum) 8 = true) (hdd : d' + 1 ≤ d) (hm : mc' ≤ mc) (hs : ms' ≤ ms) (hnl : av.length + 1 ≤ z_nL mj) (k : z_W G d' mc' ms' mj 0 (z_L0 mj (.ref a :: av)) [] h (z_K2 G d (mc - mc') (ms - ms') mi pc nx L st Q)) : z_W G d mc ms mi pc L stk h Q := by
  obtain ⟨hd, rfl⟩ := z_dn (n := 3) hr rfl (by decide)
  have hlk2 : (z_is j (.methodLink (z_y mi).cls idx (z_y mj)) && decide (parseMethodDescriptor (z_y mj).desc ≠ none) && decide (z_nps (z_y mj).desc = n)) = true := z_lkOf hr
  simp only [Bool.and_eq_true, decide_eq_true_eq] at hlk2
  obtain ⟨⟨w1, w2⟩, w3⟩ := hlk2
  obtain ⟨o1, o2, o3, o4, o5, o6, o7, o8⟩ := z_okWOf hw
  rw [if_neg hps] at o4
  subst hstk
  obtain ⟨q0, hq0, hqc⟩ : ∃ q0, z_cl[10]? = some q0 ∧ q0.1 = "java/lang/StringBuilder" := ⟨_, rfl, rfl⟩
  intro p e R s m args below meth c H locs cells slots MC MS ls C r hS hL hR
  have ecw : z_cw mj = .code (z_y mj) (z_b mj) (z_nL mj) (z_rt mj) := by unfold z_cw; rw [if_pos hemp]
  have hts := C.2.2.2.2.2.1
  have hc2 : ((Value.ref a :: av).all fun v => v.category == 1) = true := by simpa [Value.category] using hcat
  have hpre := z_preS (av := .ref a :: av) C.2.2.2.2.2.2.2.2.2.1 C.2.2.2.2.2.2.2.2.2.2.1 hS hR
  have hrec := va_recv (C.2.2.2.2.2.2.2.2.2.1).1 (hR.one hrc) (ci := 10) (q0 := 0) hq0 rfl
  have hsel : (Cond.selects "java/lang/StringBuilder" (z_y mj) (z_y mj)).before args s = true := hts _ (z_gwOf (z_isOf hjs) rfl)
  refine z_fromRun C r hm hs hS hL (vx_runV (Ts := z_gw) (C := "java/lang/StringBuilder") (b := z_ad G a) (As := av.map (z_v G)) ⟨C.1, C.2.1, C.2.2.1, C.2.2.2.2.1, hts⟩ (z_met (av := .ref a :: av) C.2.2.2.2.2.2.2.2.2.2.2 o5 hc2 hnl k) ⟨callB_of n hts (z_good hw) (by rw [ecw]) rfl rfl (hts _ o3) (hts _ (z_gwOf (z_isOf w1) rfl)) ⟨o6, o7, z_desc w2 w3⟩ ⟨?_, ?_⟩, hts _ o4, hsel⟩ ⟨hpre.1, by rw [hqc] at hrec; exact hrec, hpre.2⟩ rfl (by simpa using hav) hL.1 ?_ (lv_room (z_stL hst)) hd ⟨by omega, by omega⟩)
  · show d' + 1 ≤ _; omega
  · show 8 + (z_nL mj + 11) + (60 * d' + 200) ≤ _; omega
  · simp [List.map_append, List.map_reverse, z_v]
/-- a method of AbstractStringBuilder that StringBuilder overrides: named m0, run mj -/
theorem z_callO {idx m0 mj n j d' mc' ms' jx js : Nat} {av stk : List Value} {a : Nat} {fs : List Value} (hr : z_at mi pc = some (.invokevirtual idx, nx, [10, m0, n, j])) (hw0 : z_okW m0 = true) (hw : z_okW mj = true) (hem0 : (z_hh m0).isEmpty = true) (hemp : (z_hh mj).isEmpty = true) (hp0 : z_pl m0 3 ≠ 1) (hps : z_pl mj 3 ≠ 1) (hjx : z_is jx (.sameMethod (z_y m0).cls (z_y m0).cls (z_y m0).name (z_y m0).desc) = true) (hjs : z_is js (.selects "java/lang/StringBuilder" (z_y m0) (z_y mj)) = true) (hrc : h.2 a = some (.inr (10, fs))) (hstk : stk = av.reverse ++ .ref a :: st) (hav : av.length = n) (hcat : (av.all fun v => v.category == 1) = true) (hst : Nat.ble ((st.map fun v => v.category).sum) 8 = true) (hdd : d' + 1 ≤ d) (hm : mc' ≤ mc) (hs : ms' ≤ ms) (hnl : av.length + 1 ≤ z_nL mj) (k : z_W G d' mc' ms' mj 0 (z_L0 mj (.ref a :: av)) [] h (z_K2 G d (mc - mc') (ms - ms') mi pc nx L st Q)) : z_W G d mc ms mi pc L stk h Q := by
  obtain ⟨hd, rfl⟩ := z_dn (n := 3) hr rfl (by decide)
  have hlk2 : (z_is j (.methodLink (z_y mi).cls idx (z_y m0)) && decide (parseMethodDescriptor (z_y m0).desc ≠ none) && decide (z_nps (z_y m0).desc = n)) = true := z_lkOf hr
  simp only [Bool.and_eq_true, decide_eq_true_eq] at hlk2
  obtain ⟨⟨w1, w2⟩, w3⟩ := hlk2
  obtain ⟨o1, o2, o3, o4, o5, o6, o7, o8⟩ := z_okWOf hw
  obtain ⟨p1, p2, p3, p4, p5, p6, p7, p8⟩ := z_okWOf hw0
  rw [if_neg hps] at o4
  rw [if_neg hp0] at p4
  subst hstk
  obtain ⟨q0, hq0, hqc⟩ : ∃ q0, z_cl[10]? = some q0 ∧ q0.1 = "java/lang/StringBuilder" := ⟨_, rfl, rfl⟩
  intro p e R s m args below meth c H locs cells slots MC MS ls C r hS hL hR
  have ecw : z_cw mj = .code (z_y mj) (z_b mj) (z_nL mj) (z_rt mj) := by unfold z_cw; rw [if_pos hemp]
  have ecw0 : z_cw m0 = .code (z_y m0) (z_b m0) (z_nL m0) (z_rt m0) := by unfold z_cw; rw [if_pos hem0]
  have hts := C.2.2.2.2.2.1
  have hc2 : ((Value.ref a :: av).all fun v => v.category == 1) = true := by simpa [Value.category] using hcat
  have hpre := z_preS (av := .ref a :: av) C.2.2.2.2.2.2.2.2.2.1 C.2.2.2.2.2.2.2.2.2.2.1 hS hR
  have hrec := va_recv (C.2.2.2.2.2.2.2.2.2.1).1 (hR.one hrc) (ci := 10) (q0 := 0) hq0 rfl
  have hgw := z_good hw
  refine z_fromRun C r hm hs hS hL (vx_runU (Ts := z_gw) (C := "java/lang/StringBuilder") (b := z_ad G a) (As := av.map (z_v G)) (owner := (z_y m0).cls) (x := z_y m0) ⟨C.1, C.2.1, C.2.2.1, C.2.2.2.2.1, hts⟩ (z_met (av := .ref a :: av) C.2.2.2.2.2.2.2.2.2.2.2 o5 hc2 hnl k) (va_cwO (ws' := z_gw) n hts (fun w hwm => ?_) (by rw [ecw]) rfl rfl (b0 := z_b m0) (m0 := z_nL m0) (r0 := z_rt m0) (by rw [← show z_y m0 = ⟨(z_y m0).cls, (z_y m0).name, (z_y m0).desc⟩ from rfl, ← ecw0]; exact z_gwOf p1 p2) ⟨p6, p7, z_desc w2 w3⟩ ⟨?_, ?_⟩) ⟨hpre.1, by rw [hqc] at hrec; exact hrec, hpre.2⟩ rfl (by simpa using hav) hL.1 ?_ (lv_room (z_stL hst)) hd ⟨by omega, by omega⟩)
  · unfold va_wsO at hwm
    rcases List.mem_append.mp hwm with q | q
    · simp only [List.mem_cons, List.not_mem_nil, or_false] at q
      rcases q with rfl | rfl | rfl | rfl | rfl | rfl
      · exact ⟨z_gwOf (z_isOf w1) rfl, Or.inl rfl⟩
      · exact ⟨z_gwOf (z_isOf hjx) rfl, Or.inl rfl⟩
      · exact ⟨p4, Or.inl rfl⟩
      · exact ⟨z_gwOf (z_isOf hjs) rfl, Or.inl rfl⟩
      · exact ⟨o4, Or.inl rfl⟩
      · exact ⟨o3, Or.inl rfl⟩
    · exact hgw w q
  · show d' + 1 ≤ _; omega
  · show 8 + (z_nL mj + 11) + (60 * d' + 200) ≤ _; omega
  · simp [List.map_append, List.map_reverse, z_v]
end ZSc0
/-- a builder at a, its bytes at r with room for cap, its text l -/
def z_Sc (h : z_H) (a r cap : Nat) (l : List Nat) : Prop := ∃ (ml : Int32) (g : Nat → Int32), h.2 a = some (.inr (10, [.ref r, .int 0, .int ml, .int (nI l.length)])) ∧ h.2 r = some (.inl (2, cap, .inl g)) ∧ (∀ j, fits .byte (.int (g j)) = true) ∧ (∀ j, j < l.length → g j = nI (l.getD j 0) ∧ l.getD j 0 < 128) ∧ l.length ≤ cap ∧ cap ≤ 1000 ∧ a < 1000 + h.1 ∧ r < 1000 + h.1 ∧ a ≠ r
def z_zc (cap m : Nat) : Nat := if m ≤ cap then cap else z_cap cap m
theorem z_zc_in {cap m : Nat} (hm : m ≤ 100) (hc : cap ≤ 300) : m ≤ z_zc cap m ∧ cap ≤ z_zc cap m ∧ z_zc cap m ≤ 300 := by
  unfold z_zc
  split
  · omega
  · have := z_cap_in (cap := cap) (m := m) (by omega) hm; omega
theorem z_Sc.cell {h : z_H} {a r cap : Nat} {l : List Nat} (x : z_Sc h a r cap l) : ∃ fs, h.2 a = some (.inr (10, fs)) := by
  obtain ⟨ml, g, s1, -⟩ := x
  exact ⟨_, s1⟩
section ZSc
variable {G : z_G} {h : z_H} {Q : z_O → z_H → Prop} {a r cap m : Nat} {l : List Nat}
theorem c_initSc5 (hc : h.2 a = some (.inr (10, z_dfl 10))) (hl : a + 1 = 1000 + h.1) (q : ∀ h' : z_H, z_Sc h' a (a + 1) 16 [] → 1000 + h'.1 = a + 2 → (∀ j, j < a → h'.2 j = h.2 j) → Q (.inl none) h') : z_W G 1 1 16 301 0 (z_L0 301 [.ref a, .int 16]) [] h Q := by
  have hc' : h.2 a = some (.inr (10, [.null, .int 0, .int 0, .int 0])) := hc
  refine z_aload_n rfl rfl ?_
  refine z_objInit rfl rfl (by decide) ?_
  refine z_gets (v := .int 1) rfl (by decide +kernel) rfl ?_
  refine z_if_eq rfl (fun u => absurd u (by decide)) (fun _ => ?_)
  refine z_aload_n rfl rfl ?_
  refine z_iload_n rfl rfl ?_
  refine z_newA (mc2 := 0) (ms2 := 0) (N := 16) rfl (by decide) (by decide) (by decide) (Nat.le_of_ble_eq_true rfl) (Nat.le_of_ble_eq_true rfl) ?_
  have c1 : (z_new h (.inl (2, z_dfa 2 16))).2 a = some (.inr (10, [.null, .int 0, .int 0, .int 0])) := (z_new_ne _ _ (by omega)).trans hc'
  refine z_put rfl c1 (by simp) rfl rfl rfl ?_
  refine z_aload_n rfl rfl ?_
  refine z_iconst (v := 0) rfl (by decide) ?_
  refine z_put rfl (z_set_eq _ _ _) (by simp) rfl rfl rfl ?_
  refine z_goto rfl ?_
  refine z_vret rfl rfl ?_
  refine q _ ⟨0, fun _ => 0, ?_, ?_, fun _ => (by decide : fits .byte (.int 0) = true), fun j hj => absurd hj (Nat.not_lt_zero j), Nat.zero_le _, by decide, ?_, ?_, by omega⟩ ?_ fun j hj => (z_set_ne _ _ (by omega)).trans ((z_set_ne _ _ (by omega)).trans (z_new_ne _ _ (by omega)))
  · rw [z_set_eq, hl]; rfl
  · rw [z_set_ne _ _ (by omega), z_set_ne _ _ (by omega), hl]; exact z_new_eq _ _
  · show a < 1000 + (h.1 + 1); omega
  · show a + 1 < 1000 + (h.1 + 1); omega
  · show 1000 + (h.1 + 1) = a + 2; omega
theorem c_initSc (hc : h.2 a = some (.inr (10, z_dfl 10))) (hl : a + 1 = 1000 + h.1) (q : ∀ h' : z_H, z_Sc h' a (a + 1) 16 [] → 1000 + h'.1 = a + 2 → (∀ j, j < a → h'.2 j = h.2 j) → Q (.inl none) h') : z_W G 2 1 16 300 0 (z_L0 300 [.ref a]) [] h Q := by
  refine z_aload_n rfl rfl ?_
  refine z_bipush (v := 16) rfl (by decide) ?_
  refine z_callI (av := [_]) rfl z_w301 rfl rfl rfl rfl (Nat.le_of_ble_eq_true rfl) (Nat.le_of_ble_eq_true rfl) (Nat.le_of_ble_eq_true rfl) (Nat.le_of_ble_eq_true rfl) (c_initSc5 hc hl fun h' x e f => ?_)
  refine z_vret rfl rfl ?_
  exact q h' x e f
theorem c_ensureC (hS : z_Sc h a r cap l) (hm : m ≤ 100) (hcp : cap ≤ 300) (q : ∀ h' r', (r' = r ∨ 1000 + h.1 ≤ r') → z_Sc h' a r' (z_zc cap m) l → z_Fx a r h h' → Q (.inl none) h') : z_W G 3 1 202 312 0 (z_L0 312 [.ref a, .int (nI m)]) [] h Q := by
  obtain ⟨ml, g, s1, s2, s3, s4, s5, s7, s8, s9, s10⟩ := hS
  have e1 : (nI m - nI cap).toInt = (m : Int) - cap := pk_sub_toInt (by omega) (by omega)
  by_cases hc : m ≤ cap
  ·
    refine z_aload_n rfl rfl ?_
    refine z_get rfl s1 rfl ?_
    refine z_alenI rfl s2 (by decide) ?_
    refine z_aload_n rfl rfl ?_
    refine z_get rfl s1 rfl ?_
    refine z_ishr rfl ?_
    rw [sb_shr0]
    refine z_istore_n rfl (by decide +kernel) rfl ?_
    refine z_iload_n rfl rfl ?_
    refine z_iload_n rfl rfl ?_
    refine z_isub rfl ?_
    refine z_if_le rfl (fun c14 => ?_) (fun c14 => absurd (show nI m - nI cap ≤ 0 from by rw [Int32.le_iff_toInt_le, e1, Int32.toInt_zero]; omega) c14)
    refine z_vret rfl rfl ?_
    exact q _ _ (Or.inl rfl) (by unfold z_zc; rw [if_pos hc]; exact ⟨ml, g, s1, s2, s3, s4, s5, s7, s8, s9, s10⟩) (z_Fx.refl _ _ _)
  · have hz := z_cap_in (cap := cap) (m := m) (by omega) hm
    have kA : ∀ c, a ≠ 1000 + h.1 → (z_set (z_new h (.inl (2, z_dfa 2 (z_cap cap m)))) (1000 + h.1) c).2 a = h.2 a := fun c ha => by
      rw [z_set_ne _ _ ha]; exact if_neg ha
    refine z_aload_n rfl rfl ?_
    refine z_get rfl s1 rfl ?_
    refine z_alenI rfl s2 (by decide) ?_
    refine z_aload_n rfl rfl ?_
    refine z_get rfl s1 rfl ?_
    refine z_ishr rfl ?_
    rw [sb_shr0]
    refine z_istore_n rfl (by decide +kernel) rfl ?_
    refine z_iload_n rfl rfl ?_
    refine z_iload_n rfl rfl ?_
    refine z_isub rfl ?_
    refine z_if_le rfl (fun c14 => absurd c14 (show ¬ nI m - nI cap ≤ 0 from by rw [Int32.le_iff_toInt_le, e1, Int32.toInt_zero]; omega)) (fun c14 => ?_)
    refine z_aload_n rfl rfl ?_
    refine z_aload_n rfl rfl ?_
    refine z_get rfl s1 rfl ?_
    refine z_aload_n rfl rfl ?_
    refine z_iload_n rfl rfl ?_
    refine z_callA (av := [_]) rfl z_w313 (by decide +kernel) (by decide +kernel) rfl (Or.inr (by decide +kernel)) s1 rfl rfl rfl rfl (Nat.le_of_ble_eq_true rfl) (Nat.le_of_ble_eq_true rfl) (Nat.le_of_ble_eq_true rfl) (Nat.le_of_ble_eq_true rfl) (c_newCapacity (by omega) hm s1 s2 ?_)
    refine z_aload_n rfl rfl ?_
    refine z_get rfl s1 rfl ?_
    refine z_ishl rfl ?_
    rw [sb_shl0]
    refine z_callS (av := [_, _]) rfl z_w317 rfl rfl rfl rfl (Nat.le_of_ble_eq_true rfl) (Nat.le_of_ble_eq_true rfl) (Nat.le_of_ble_eq_true rfl) (Nat.le_of_ble_eq_true rfl) ((c_copyOf s2 s9 s3 hz.1 (by omega) ?_).mono (Nat.le_refl _) (Nat.le_refl _) (d' := 1) (mc' := 1) (ms' := 202) hz.2.2)
    have s1' := (kA (.inl (2, z_cap cap m, .inl (va_cpy g (fun _ => 0) 0 0 cap))) (by omega)).trans s1
    refine z_putC rfl s1' (by simp) rfl rfl rfl (fun h1 hC1 hF1 => ?_)
    refine z_vret rfl rfl ?_
    have f1 : h1.1 = h.1 + 1 := hF1.1
    have zz : z_zc cap m = z_cap cap m := if_neg hc
    rw [zz] at q
    refine q _ (1000 + h.1) (Or.inr (Nat.le_refl _)) ⟨ml, va_cpy g (fun _ => 0) 0 0 cap, hC1, ?_, fun j => ?_, fun j hj => ?_, by omega, by omega, by omega, by omega, by omega⟩ ⟨by omega, fun k h1 h2 h3 => ?_⟩
    · rw [hF1.2 _ (by omega)]; exact z_set_eq _ _ _
    · show fits .byte (.int (if 0 ≤ j ∧ j < 0 + cap then g (0 + (j - 0)) else 0)) = true
      split
      · exact s3 _
      · rfl
    · have e9 : va_cpy g (fun _ => 0) 0 0 cap j = g j := (if_pos ⟨by omega, by omega⟩).trans (by congr 1; omega)
      rw [e9]; exact s4 j hj
    · rw [hF1.2 _ (by omega), z_set_ne _ _ (by omega)]; exact if_neg (by omega)
theorem c_appendI5C {k : Nat} (hk : k < 100) (hl : l.length < 90) (hcp : cap ≤ 300) (hS : z_Sc h a r cap l) (q : ∀ h' r', (r' = r ∨ 1000 + h.1 ≤ r') → z_Sc h' a r' (z_zc cap (l.length + (z_dgs k).length)) (l ++ z_dgs k) → z_Fx a r h h' → Q (.inl (some (.ref a))) h') : z_W G 4 1 202 305 0 (z_L0 305 [.ref a, .int (nI k)]) [] h Q := by
  have hS0 := hS
  obtain ⟨ml, g, s1, s2, s3, s4, s5, s7, s8, s9, s10⟩ := hS0
  have hw : (z_dgs k).length ≤ 2 := by unfold z_dgs; split <;> simp
  have eL : (l ++ z_dgs k).length = l.length + (z_dgs k).length := by simp
  have zi := z_zc_in (cap := cap) (m := l.length + (z_dgs k).length) (by omega) hcp
  refine z_aload_n rfl rfl ?_
  refine z_get rfl s1 rfl ?_
  refine z_istore_n rfl (by decide +kernel) rfl ?_
  refine z_iload_n rfl rfl ?_
  refine z_iload_n rfl rfl ?_
  refine z_callS (av := [_]) rfl z_w325 rfl rfl rfl rfl (Nat.le_of_ble_eq_true rfl) (Nat.le_of_ble_eq_true rfl) (Nat.le_of_ble_eq_true rfl) (Nat.le_of_ble_eq_true rfl) (c_stringSize hk ?_)
  refine z_iadd rfl ?_
  rw [nI_add]
  refine z_istore_n rfl (by decide +kernel) rfl ?_
  refine z_aload_n rfl rfl ?_
  refine z_iload_n rfl rfl ?_
  refine z_callA (av := [_]) rfl z_w312 (by decide +kernel) (by decide +kernel) rfl (Or.inr (by decide +kernel)) s1 rfl rfl rfl rfl (Nat.le_of_ble_eq_true rfl) (Nat.le_of_ble_eq_true rfl) (Nat.le_of_ble_eq_true rfl) (Nat.le_of_ble_eq_true rfl) (c_ensureC hS (by omega) hcp (fun hh r1 hr1 hS1 hx1 => ?_))
  obtain ⟨ml1, g1, t1, t2, t3, t4, t5, t7, t8, t9, t10⟩ := hS1
  refine z_aload_n rfl rfl ?_
  refine z_callA (av := []) rfl z_w314 (by decide +kernel) (by decide +kernel) rfl (Or.inl rfl) t1 rfl rfl rfl rfl (Nat.le_of_ble_eq_true rfl) (Nat.le_of_ble_eq_true rfl) (Nat.le_of_ble_eq_true rfl) (Nat.le_of_ble_eq_true rfl) (c_isLatin1 t1 ?_)
  refine z_if_eq rfl (fun c21 => absurd c21 (by decide)) (fun c21 => ?_)
  refine z_iload_n rfl rfl ?_
  refine z_iload_n rfl rfl ?_
  refine z_aload_n rfl rfl ?_
  refine z_get rfl t1 rfl ?_
  refine z_callS (av := [_, _, _]) rfl z_w326 rfl rfl rfl rfl (Nat.le_of_ble_eq_true rfl) (Nat.le_of_ble_eq_true rfl) (Nat.le_of_ble_eq_true rfl) (Nat.le_of_ble_eq_true rfl) (c_getChars hk t2 zi.1 t7 ?_)
  have t1' := (z_set_ne hh (k := r1) (j := a) (.inl (2, z_zc cap (l.length + (z_dgs k).length), .inl (z_dgU g1 l.length k))) t10).trans t1
  refine z_pop rfl rfl ?_
  refine z_goto rfl ?_
  refine z_aload_n rfl rfl ?_
  refine z_iload_n rfl rfl ?_
  refine z_putC rfl t1' (by simp) rfl rfl rfl (fun h1 hC1 hF1 => ?_)
  refine z_aload_n rfl rfl ?_
  refine z_aret rfl rfl (Or.inl ⟨_, rfl⟩) (Or.inr ⟨_, rfl⟩) ?_
  have f1 : h1.1 = hh.1 := hF1.1
  obtain ⟨u1, u2⟩ := z_dgU_at (l := l) hk t3 t4
  refine q _ r1 hr1 ⟨ml1, z_dgU g1 l.length k, ?_, ?_, u1, u2, by omega, t7, by omega, by omega, t10⟩ ⟨by have := hx1.1; omega, fun k e1 e2 e3 => ?_⟩
  · rw [eL]; exact hC1
  · rw [hF1.2 _ (by omega)]; exact z_set_eq _ _ _
  · rw [hF1.2 k (by omega), z_set_ne _ _ (z_rne hr1 e1 e3)]; exact hx1.2 k e1 e2 e3
theorem c_appendIC {k : Nat} (hk : k < 100) (hl : l.length < 90) (hcp : cap ≤ 300) (hS : z_Sc h a r cap l) (q : ∀ h' r', (r' = r ∨ 1000 + h.1 ≤ r') → z_Sc h' a r' (z_zc cap (l.length + (z_dgs k).length)) (l ++ z_dgs k) → z_Fx a r h h' → Q (.inl (some (.ref a))) h') : z_W G 5 1 202 304 0 (z_L0 304 [.ref a, .int (nI k)]) [] h Q := by
  obtain ⟨fs, s1⟩ := hS.cell
  refine z_aload_n rfl rfl ?_
  refine z_iload_n rfl rfl ?_
  refine z_callSp (av := [_]) (jx := 7111) rfl z_w305 (by decide +kernel) (by decide +kernel) rfl rfl (by decide +kernel) (by decide +kernel) s1 rfl rfl rfl rfl (Nat.le_of_ble_eq_true rfl) (Nat.le_of_ble_eq_true rfl) (Nat.le_of_ble_eq_true rfl) (Nat.le_of_ble_eq_true rfl) (c_appendI5C hk hl hcp hS (fun hh r1 hr1 hS1 hx1 => ?_))
  refine z_pop rfl rfl ?_
  refine z_aload_n rfl rfl ?_
  refine z_aret rfl rfl (Or.inl ⟨_, rfl⟩) (Or.inr ⟨_, rfl⟩) ?_
  exact q _ _ hr1 hS1 hx1
/-! append(String), of a constant text -/
theorem c_inflateIf {s b : Nat} {t : List Nat} {fs : List Value} {v : Value} (s1 : h.2 a = some (.inr (10, v :: .int 0 :: fs))) (hT : z_tx h s b t) (q : Q (.inl none) h) : z_W G 1 0 0 163 0 (z_L0 163 [.ref a, .ref s]) [] h Q := by
  refine z_gets (v := .int 1) rfl (by decide +kernel) rfl ?_
  refine z_if_eq rfl (fun u => absurd u (by decide)) (fun _ => ?_)
  refine z_aload_n rfl rfl ?_
  refine z_get rfl s1 rfl ?_
  refine z_aload_n rfl rfl ?_
  refine z_callT (av := []) rfl z_w332 rfl hT rfl rfl rfl rfl (Nat.le_of_ble_eq_true rfl) (Nat.le_of_ble_eq_true rfl) (Nat.le_of_ble_eq_true rfl) (Nat.le_of_ble_eq_true rfl) (c_xCoder hT ?_)
  refine z_icmp_eq rfl (fun _ => ?_) (fun u => absurd rfl u)
  refine z_vret rfl rfl ?_
  exact q
theorem c_getBytes {s b n n1 : Nat} {t : List Nat} {g : Nat → Int32} (hT : ∀ h, z_tx h s b t) (hb : (b, FieldType.byte, t.map fun x => Value.int (nI x)) ∈ z_roa) (s2 : h.2 r = some (.inl (2, n1, .inl g))) (hn : n + t.length ≤ n1) (hn1 : n1 ≤ 1000) (q : Q (.inl none) (z_set h r (.inl (2, n1, .inl (va_cpy (fun i => nI (t.getD i 0)) g 0 n t.length))))) : z_W G 1 0 0 164 0 (z_L0 164 [.ref s, .ref r, .int (nI n), .int 0]) [] h Q := by
  refine z_aload_n rfl rfl ?_
  refine z_callT (av := []) rfl z_w332 rfl (hT h) rfl rfl rfl rfl (Nat.le_of_ble_eq_true rfl) (Nat.le_of_ble_eq_true rfl) (Nat.le_of_ble_eq_true rfl) (Nat.le_of_ble_eq_true rfl) (c_xCoder (hT h) ?_)
  refine z_iload_n rfl rfl ?_
  refine z_icmp_ne rfl (fun u => absurd rfl u) (fun _ => ?_)
  refine z_aload_n rfl rfl ?_
  refine z_getT2 rfl (hT h) ?_
  refine z_iconst (v := 0) rfl (by decide) ?_
  refine z_aload_n rfl rfl ?_
  refine z_iload_n rfl rfl ?_
  refine z_iload_n rfl rfl ?_
  refine z_ishl rfl ?_
  rw [sb_shl0]
  refine z_aload_n rfl rfl ?_
  refine z_getT2 rfl (hT h) ?_
  refine z_alenT rfl (hT h) ?_
  refine z_copyR rfl hb (hT h).2.1 (hT h).1 s2 hn hn1 (by decide) rfl ?_
  refine z_goto rfl ?_
  refine z_vret rfl rfl ?_
  exact q
theorem c_putStringAt {s b n n1 : Nat} {t : List Nat} {g : Nat → Int32} {fs : List Value} (hT : ∀ h, z_tx h s b t) (hb : (b, FieldType.byte, t.map fun x => Value.int (nI x)) ∈ z_roa) (s1 : h.2 a = some (.inr (10, .ref r :: .int 0 :: fs))) (s2 : h.2 r = some (.inl (2, n1, .inl g))) (hn : n + t.length ≤ n1) (hn1 : n1 ≤ 1000) (q : Q (.inl none) (z_set h r (.inl (2, n1, .inl (va_cpy (fun i => nI (t.getD i 0)) g 0 n t.length))))) : z_W G 2 0 0 162 0 (z_L0 162 [.ref a, .int (nI n), .ref s]) [] h Q := by
  refine z_aload_n rfl rfl ?_
  refine z_aload_n rfl rfl ?_
  refine z_callA (av := [_]) rfl z_w163 (by decide +kernel) (by decide +kernel) rfl (Or.inr (by decide +kernel)) s1 rfl rfl rfl rfl (Nat.le_of_ble_eq_true rfl) (Nat.le_of_ble_eq_true rfl) (Nat.le_of_ble_eq_true rfl) (Nat.le_of_ble_eq_true rfl) (c_inflateIf s1 (hT h) ?_)
  refine z_aload_n rfl rfl ?_
  refine z_aload_n rfl rfl ?_
  refine z_get rfl s1 rfl ?_
  refine z_iload_n rfl rfl ?_
  refine z_aload_n rfl rfl ?_
  refine z_get rfl s1 rfl ?_
  refine z_callT (av := [_, _, _]) rfl z_w164 rfl (hT h) rfl rfl rfl rfl (Nat.le_of_ble_eq_true rfl) (Nat.le_of_ble_eq_true rfl) (Nat.le_of_ble_eq_true rfl) (Nat.le_of_ble_eq_true rfl) (c_getBytes hT hb s2 hn hn1 ?_)
  refine z_vret rfl rfl ?_
  exact q
theorem c_appS5 {s b : Nat} {t : List Nat} (hT : ∀ h, z_tx h s b t) (hb : (b, FieldType.byte, t.map fun x => Value.int (nI x)) ∈ z_roa) (hl : l.length + t.length ≤ 100) (hcp : cap ≤ 300) (hS : z_Sc h a r cap l) (q : ∀ h' r', (r' = r ∨ 1000 + h.1 ≤ r') → z_Sc h' a r' (z_zc cap (l.length + t.length)) (l ++ t) → z_Fx a r h h' → Q (.inl (some (.ref a))) h') : z_W G 4 1 202 161 0 (z_L0 161 [.ref a, .ref s]) [] h Q := by
  have hS0 := hS
  obtain ⟨ml, g, s1, s2, s3, s4, s5, s7, s8, s9, s10⟩ := hS0
  have zi := z_zc_in (cap := cap) (m := l.length + t.length) (by omega) hcp
  have eL : (l ++ t).length = l.length + t.length := by simp
  refine z_aload_n rfl rfl ?_
  refine z_ifnonnull rfl ?_
  refine z_aload_n rfl rfl ?_
  refine z_callT (av := []) rfl z_w331 rfl (hT h) rfl rfl rfl rfl (Nat.le_of_ble_eq_true rfl) (Nat.le_of_ble_eq_true rfl) (Nat.le_of_ble_eq_true rfl) (Nat.le_of_ble_eq_true rfl) (c_xLength (hT h) ?_)
  refine z_istore_n rfl (by decide +kernel) rfl ?_
  refine z_aload_n rfl rfl ?_
  refine z_aload_n rfl rfl ?_
  refine z_get rfl s1 rfl ?_
  refine z_iload_n rfl rfl ?_
  refine z_iadd rfl ?_
  rw [nI_add]
  refine z_callA (av := [_]) rfl z_w312 (by decide +kernel) (by decide +kernel) rfl (Or.inr (by decide +kernel)) s1 rfl rfl rfl rfl (Nat.le_of_ble_eq_true rfl) (Nat.le_of_ble_eq_true rfl) (Nat.le_of_ble_eq_true rfl) (Nat.le_of_ble_eq_true rfl) (c_ensureC hS (by omega) hcp (fun hh r1 hr1 hS1 hx1 => ?_))
  obtain ⟨ml1, g1, t1, t2, t3, t4, t5, t7, t8, t9, t10⟩ := hS1
  refine z_aload_n rfl rfl ?_
  refine z_aload_n rfl rfl ?_
  refine z_get rfl t1 rfl ?_
  refine z_aload_n rfl rfl ?_
  refine z_callA (av := [_, _]) rfl z_w162 (by decide +kernel) (by decide +kernel) rfl (Or.inr (by decide +kernel)) t1 rfl rfl rfl rfl (Nat.le_of_ble_eq_true rfl) (Nat.le_of_ble_eq_true rfl) (Nat.le_of_ble_eq_true rfl) (Nat.le_of_ble_eq_true rfl) (c_putStringAt hT hb t1 t2 zi.1 t7 ?_)
  have t1' := (z_set_ne hh (k := r1) (j := a) (.inl (2, z_zc cap (l.length + t.length), .inl (va_cpy (fun i => nI (t.getD i 0)) g1 0 l.length t.length))) t10).trans t1
  refine z_aload_n rfl rfl ?_
  refine z_dup rfl rfl ?_
  refine z_get rfl t1' rfl ?_
  refine z_iload_n rfl rfl ?_
  refine z_iadd rfl ?_
  rw [nI_add]
  refine z_putC rfl t1' (by simp) rfl rfl rfl (fun h1 hC1 hF1 => ?_)
  refine z_aload_n rfl rfl ?_
  refine z_aret rfl rfl (Or.inl ⟨_, rfl⟩) (Or.inr ⟨_, rfl⟩) ?_
  have f1 : h1.1 = hh.1 := hF1.1
  refine q _ r1 hr1 ⟨ml1, va_cpy (fun i => nI (t.getD i 0)) g1 0 l.length t.length, ?_, ?_, fun j => ?_, fun j hj => ?_, by omega, t7, by omega, by omega, t10⟩ ⟨by have := hx1.1; omega, fun k e1 e2 e3 => ?_⟩
  · rw [eL]; exact hC1
  · rw [hF1.2 _ (by omega)]; exact z_set_eq _ _ _
  · show fits .byte (.int (if l.length ≤ j ∧ j < l.length + t.length then nI (t.getD (0 + (j - l.length)) 0) else g1 j)) = true
    split
    · exact (z_c128 _ ((hT h).lt (by omega))).2.1
    · exact t3 _
  · rw [eL] at hj
    by_cases e1 : j < l.length
    · have e9 : va_cpy (fun i => nI (t.getD i 0)) g1 0 l.length t.length j = g1 j := if_neg (by omega)
      have e8 : (l ++ t).getD j 0 = l.getD j 0 := by simp [List.getD_eq_getElem?_getD, List.getElem?_append_left e1]
      rw [e9, e8]; exact t4 j e1
    · have e9 : va_cpy (fun i => nI (t.getD i 0)) g1 0 l.length t.length j = nI (t.getD (0 + (j - l.length)) 0) := if_pos (by omega)
      have e8 : (l ++ t).getD j 0 = t.getD (0 + (j - l.length)) 0 := by rw [Nat.zero_add, List.getD_eq_getElem?_getD, List.getD_eq_getElem?_getD, List.getElem?_append_right (by omega)]
      rw [e9, e8]
      exact ⟨rfl, (hT h).lt (by omega)⟩
  · rw [hF1.2 k (by omega), z_set_ne _ _ (z_rne hr1 e1 e3)]; exact hx1.2 k e1 e2 e3
theorem c_appS {s b : Nat} {t : List Nat} (hT : ∀ h, z_tx h s b t) (hb : (b, FieldType.byte, t.map fun x => Value.int (nI x)) ∈ z_roa) (hl : l.length + t.length ≤ 100) (hcp : cap ≤ 300) (hS : z_Sc h a r cap l) (q : ∀ h' r', (r' = r ∨ 1000 + h.1 ≤ r') → z_Sc h' a r' (z_zc cap (l.length + t.length)) (l ++ t) → z_Fx a r h h' → Q (.inl (some (.ref a))) h') : z_W G 5 1 202 160 0 (z_L0 160 [.ref a, .ref s]) [] h Q := by
  obtain ⟨fs, s1⟩ := hS.cell
  refine z_aload_n rfl rfl ?_
  refine z_aload_n rfl rfl ?_
  refine z_callSp (av := [_]) (jx := 7106) rfl z_w161 (by decide +kernel) (by decide +kernel) rfl rfl (by decide +kernel) (by decide +kernel) s1 rfl rfl rfl rfl (Nat.le_of_ble_eq_true rfl) (Nat.le_of_ble_eq_true rfl) (Nat.le_of_ble_eq_true rfl) (Nat.le_of_ble_eq_true rfl) (c_appS5 hT hb hl hcp hS (fun hh r1 hr1 hS1 hx1 => ?_))
  refine z_pop rfl rfl ?_
  refine z_aload_n rfl rfl ?_
  refine z_aret rfl rfl (Or.inl ⟨_, rfl⟩) (Or.inr ⟨_, rfl⟩) ?_
  exact q _ _ hr1 hS1 hx1
/-! toString -/
theorem c_getValue {fs : List Value} (s1 : h.2 a = some (.inr (10, .ref r :: fs))) (q : Q (.inl (some (.ref r))) h) : z_W G 0 0 0 168 0 (z_L0 168 [.ref a]) [] h Q := by
  refine z_aload_n rfl rfl ?_
  refine z_get rfl s1 rfl ?_
  exact z_aret rfl rfl (Or.inr ⟨_, rfl⟩) (Or.inr ⟨_, rfl⟩) q
theorem c_len5 {n : Nat} {x y z : Value} (s1 : h.2 a = some (.inr (10, [x, y, z, .int (nI n)]))) (q : Q (.inl (some (.int (nI n)))) h) : z_W G 0 0 0 309 0 (z_L0 309 [.ref a]) [] h Q := by
  refine z_aload_n rfl rfl ?_
  refine z_get rfl s1 rfl ?_
  exact z_iret rfl rfl q
theorem c_len {n : Nat} {x y z : Value} (s1 : h.2 a = some (.inr (10, [x, y, z, .int (nI n)]))) (q : Q (.inl (some (.int (nI n)))) h) : z_W G 1 0 0 308 0 (z_L0 308 [.ref a]) [] h Q := by
  refine z_aload_n rfl rfl ?_
  refine z_callSp (av := []) (jx := 7101) rfl z_w309 (by decide +kernel) (by decide +kernel) rfl rfl (by decide +kernel) (by decide +kernel) s1 rfl rfl rfl rfl (Nat.le_of_ble_eq_true rfl) (Nat.le_of_ble_eq_true rfl) (Nat.le_of_ble_eq_true rfl) (Nat.le_of_ble_eq_true rfl) (c_len5 s1 ?_)
  exact z_iret rfl rfl q
theorem c_checkLen {n : Nat} (hn : n < 1000) (q : Q (.inl none) h) : z_W G 0 0 0 171 0 (z_L0 171 [.int 0, .int (nI n)]) [] h Q := by
  refine z_iload_n rfl rfl ?_
  refine z_iload_n rfl rfl ?_
  refine z_icmp_ge rfl (fun _ => ?_) (fun u => absurd (show (0 : Int32) ≤ nI n from Int32.not_lt.mp (nI_pos (by omega))) u)
  exact z_vret rfl rfl q
theorem c_copyRB {n : Nat} {g : Nat → Int32} (s2 : h.2 r = some (.inl (2, cap, .inl g))) (hr : r < 1000 + h.1) (hg : ∀ j, fits .byte (.int (g j)) = true) (hc : n < cap) (hcp : cap ≤ 300) (q : Q (.inl (some (.ref (1000 + h.1)))) (z_set (z_new h (.inl (2, z_dfa 2 n))) (1000 + h.1) (.inl (2, n, .inl (va_cpy g (fun _ => 0) 0 0 n))))) : z_W G 1 1 n 170 0 (z_L0 170 [.ref r, .int 0, .int (nI n)]) [] h Q := by
  have k1 : (z_new h (.inl (2, z_dfa 2 n))).2 r = some (.inl (2, cap, .inl g)) := (if_neg (by omega)).trans s2
  have k2 : (z_new h (.inl (2, z_dfa 2 n))).2 (1000 + h.1) = some (.inl (2, n, .inl (fun _ => 0))) := if_pos rfl
  refine z_iload_n rfl rfl ?_
  refine z_iload_n rfl rfl ?_
  refine z_callS (av := [_, _]) rfl z_w171 rfl rfl rfl rfl (Nat.le_of_ble_eq_true rfl) (Nat.zero_le _) (Nat.zero_le _) (Nat.le_of_ble_eq_true rfl) (c_checkLen (by omega) ?_)
  refine z_iload_n rfl rfl ?_
  refine z_iload_n rfl rfl ?_
  refine z_isub rfl ?_
  rw [Int32.sub_zero]
  refine z_istore_n rfl (by decide +kernel) rfl ?_
  refine z_iload_n rfl rfl ?_
  refine z_newA (mc2 := 0) (ms2 := 0) (N := n) rfl (nI_pos (by omega)) (nI_clamp (by omega)) (by omega) (by omega) (by omega) ?_
  refine z_astore rfl (by decide +kernel) rfl ?_
  refine z_aload_n rfl rfl ?_
  refine z_iload_n rfl rfl ?_
  refine z_aload rfl rfl ?_
  refine z_iconst (v := 0) rfl (by decide) ?_
  refine z_aload_n rfl rfl ?_
  refine z_alenI rfl k1 (by decide) ?_
  refine z_iload_n rfl rfl ?_
  refine z_isub rfl ?_
  rw [Int32.sub_zero]
  refine z_iload_n rfl rfl ?_
  refine z_callS (av := [_, _]) rfl z_w318 rfl rfl rfl rfl (Nat.le_of_ble_eq_true rfl) (Nat.zero_le _) (Nat.zero_le _) (Nat.le_of_ble_eq_true rfl) (c_min ?_)
  rw [z_mn (by omega) (by omega), if_pos hc]
  refine z_copyb rfl k1 k2 (by decide) (by decide) (nI_pos (by omega)) (by rw [nI_clamp (by omega)]; show 0 + n ≤ cap; omega) (by rw [nI_clamp (by omega)]; exact Nat.le_of_eq (Nat.zero_add _)) (fun i _ => hg _) (by omega) rfl ?_
  rw [nI_clamp (by omega)]
  refine z_aload rfl rfl ?_
  refine z_aret rfl rfl (Or.inr ⟨_, rfl⟩) (Or.inr ⟨_, rfl⟩) ?_
  exact q
theorem c_copyRange {n : Nat} {g : Nat → Int32} (s2 : h.2 r = some (.inl (2, cap, .inl g))) (hr : r < 1000 + h.1) (hg : ∀ j, fits .byte (.int (g j)) = true) (hc : n < cap) (hcp : cap ≤ 300) (q : Q (.inl (some (.ref (1000 + h.1)))) (z_set (z_new h (.inl (2, z_dfa 2 n))) (1000 + h.1) (.inl (2, n, .inl (va_cpy g (fun _ => 0) 0 0 n))))) : z_W G 2 1 n 169 0 (z_L0 169 [.ref r, .int 0, .int (nI n)]) [] h Q := by
  refine z_iload_n rfl rfl ?_
  refine z_if_ne rfl (fun u => absurd rfl u) (fun _ => ?_)
  refine z_iload_n rfl rfl ?_
  refine z_aload_n rfl rfl ?_
  refine z_alenI rfl s2 (by decide) ?_
  refine z_icmp_eq rfl (fun u => absurd ((nI_eq (by omega) (by omega)).mp u) (by omega)) (fun _ => ?_)
  refine z_aload_n rfl rfl ?_
  refine z_iload_n rfl rfl ?_
  refine z_iload_n rfl rfl ?_
  refine z_callS (av := [_, _, _]) rfl z_w170 rfl rfl rfl rfl (Nat.le_of_ble_eq_true rfl) (Nat.le_refl _) (Nat.le_refl _) (Nat.le_of_ble_eq_true rfl) (c_copyRB s2 hr hg hc hcp ?_)
  exact z_aret rfl rfl (Or.inr ⟨_, rfl⟩) (Or.inr ⟨_, rfl⟩) q
theorem c_initStr {s : Nat} (hs : s + 1 = 1000 + h.1) (hc : h.2 s = some (.inr (9, z_dfl 9))) (hS : z_Sc h a r cap l) (hl : l.length < cap) (hcp : cap ≤ 300) (hl9 : l.length ≤ 100) (ha : a ≠ s) (hrs : r ≠ s) (q : ∀ h', z_tx h' s (s + 1) l → 1000 + h'.1 = s + 2 → (∀ j, j < s → h'.2 j = h.2 j) → Q (.inl none) h') : z_W G 3 1 300 167 0 (z_L0 167 [.ref s, .ref a, .null]) [] h Q := by
  have hc0 : h.2 s = some (.inr (9, [.null, .int 0, .int 0, .int 0])) := hc
  obtain ⟨ml, g, s1, s2, s3, s4, s5, s7, s8, s9, s10⟩ := hS
  refine z_aload_n rfl rfl ?_
  refine z_objInit rfl rfl (by decide) ?_
  refine z_aload_n rfl rfl ?_
  refine z_callA2 (av := []) (js := 6079) rfl z_w168 (by decide +kernel) (by decide +kernel) (by decide +kernel) s1 rfl rfl rfl rfl (Nat.le_of_ble_eq_true rfl) (Nat.le_of_ble_eq_true rfl) (Nat.le_of_ble_eq_true rfl) (Nat.le_of_ble_eq_true rfl) (c_getValue s1 ?_)
  refine z_astore_n rfl (by decide +kernel) rfl ?_
  refine z_aload_n rfl rfl ?_
  refine z_callO (av := []) (jx := 7101) (js := 7112) rfl z_w309 z_w308 (by decide +kernel) (by decide +kernel) (by decide +kernel) (by decide +kernel) (by decide +kernel) (by decide +kernel) s1 rfl rfl rfl rfl (Nat.le_of_ble_eq_true rfl) (Nat.le_of_ble_eq_true rfl) (Nat.le_of_ble_eq_true rfl) (Nat.le_of_ble_eq_true rfl) (c_len s1 ?_)
  refine z_istore rfl (by decide +kernel) rfl ?_
  refine z_aload_n rfl rfl ?_
  refine z_callA (av := []) rfl z_w314 (by decide +kernel) (by decide +kernel) rfl (Or.inl rfl) s1 rfl rfl rfl rfl (Nat.le_of_ble_eq_true rfl) (Nat.le_of_ble_eq_true rfl) (Nat.le_of_ble_eq_true rfl) (Nat.le_of_ble_eq_true rfl) (c_isLatin1 s1 ?_)
  refine z_if_eq rfl (fun c21 => absurd c21 (by decide)) (fun c21 => ?_)
  refine z_aload_n rfl rfl ?_
  refine z_iconst (v := 0) rfl (by decide) ?_
  refine z_putF rfl hc0 (by simp) rfl rfl rfl rfl rfl ?_
  have h1s : (z_set h s (.inr (9, ([.null, .int 0, .int 0, .int 0] : List Value).set 1 (.int 0)))).2 s = some (.inr (9, [.null, .int 0, .int 0, .int 0])) := z_set_eq _ _ _
  have h1e : z_set h s (.inr (9, ([.null, .int 0, .int 0, .int 0] : List Value).set 1 (.int 0))) = h := z_set_self hc0
  rw [h1e]
  refine z_aload_n rfl rfl ?_
  refine z_aload_n rfl rfl ?_
  refine z_iconst (v := 0) rfl (by decide) ?_
  refine z_iload rfl rfl ?_
  refine z_callS (av := [_, _, _]) rfl z_w169 rfl rfl rfl rfl (Nat.le_of_ble_eq_true rfl) (Nat.le_of_ble_eq_true rfl) (Nat.le_of_ble_eq_true rfl) (Nat.le_of_ble_eq_true rfl) ((c_copyRange s2 s9 s3 hl hcp ?_).mono (Nat.le_refl _) (Nat.le_refl _) (d' := 2) (mc' := 1) (ms' := 300) (by omega))
  have e0 : 1000 + h.1 = s + 1 := hs.symm
  have k3 : (z_set (z_new h (.inl (2, z_dfa 2 l.length))) (1000 + h.1) (.inl (2, l.length, .inl (va_cpy g (fun _ => 0) 0 0 l.length)))).2 s = some (.inr (9, [.null, .int 0, .int 0, .int 0])) := by
    rw [z_set_ne _ _ (by omega), z_new_ne _ _ (by omega)]; exact hc0
  refine z_putF rfl k3 (by simp) rfl rfl rfl rfl rfl ?_
  refine z_goto rfl ?_
  refine z_vret rfl rfl ?_
  refine q _ ⟨hl9, fun x hx => ?_, Or.inr ⟨.int 0, .int 0, va_cpy g (fun _ => 0) 0 0 l.length, ?_, ?_, fun j hj => ?_⟩⟩ ?_ fun j hj => (z_set_ne _ _ (by omega)).trans ((z_set_ne _ _ (by omega)).trans (z_new_ne _ _ (by omega)))
  · obtain ⟨i, hi, rfl⟩ := List.mem_iff_getElem.mp hx
    have e9 := (s4 i hi).2
    rw [List.getD_eq_getElem?_getD, List.getElem?_eq_getElem hi] at e9
    exact e9
  · rw [z_set_eq, e0]; rfl
  · rw [z_set_ne _ _ (by omega), ← e0]; exact z_set_eq _ _ _
  · have e9 : va_cpy g (fun _ => 0) 0 0 l.length j = g j := (if_pos ⟨by omega, by omega⟩).trans (by congr 1; omega)
    rw [e9]; exact (s4 j hj).1
  · show 1000 + (h.1 + 1) = s + 2; omega
theorem c_initStr1 {s : Nat} (hs : s + 1 = 1000 + h.1) (hc : h.2 s = some (.inr (9, z_dfl 9))) (hS : z_Sc h a r cap l) (hl : l.length < cap) (hcp : cap ≤ 300) (hl9 : l.length ≤ 100) (ha : a ≠ s) (hrs : r ≠ s) (q : ∀ h', z_tx h' s (s + 1) l → 1000 + h'.1 = s + 2 → (∀ j, j < s → h'.2 j = h.2 j) → Q (.inl none) h') : z_W G 4 1 300 166 0 (z_L0 166 [.ref s, .ref a]) [] h Q := by
  refine z_aload_n rfl rfl ?_
  refine z_aload_n rfl rfl ?_
  refine z_null rfl ?_
  refine z_callI (av := [_, _]) rfl z_w167 rfl rfl rfl rfl (Nat.le_of_ble_eq_true rfl) (Nat.le_of_ble_eq_true rfl) (Nat.le_of_ble_eq_true rfl) (Nat.le_of_ble_eq_true rfl) (c_initStr hs hc hS hl hcp hl9 ha hrs fun h' x e f => ?_)
  refine z_vret rfl rfl ?_
  exact q h' x e f
theorem c_toStr (hS : z_Sc h a r cap l) (hl : l.length < cap) (hcp : cap ≤ 300) (hl9 : l.length ≤ 100) (q : ∀ h' s, s = 1000 + h.1 → z_tx h' s (s + 1) l → 1000 + h'.1 = s + 2 → (∀ j, j < s → h'.2 j = h.2 j) → Q (.inl (some (.ref s))) h') : z_W G 5 2 310 165 0 (z_L0 165 [.ref a]) [] h Q := by
  have hS0 := hS
  obtain ⟨ml, g, s1, s2, s3, s4, s5, s7, s8, s9, s10⟩ := hS0
  refine z_newO (mc2 := 1) (ms2 := 300) rfl (Nat.le_of_ble_eq_true rfl) (by show 300 + 4 ≤ 310; decide) ?_
  refine z_dup rfl rfl ?_
  refine z_aload_n rfl rfl ?_
  have k1 : z_Sc (z_new h (.inr (9, z_dfl 9))) a r cap l := ⟨ml, g, (z_new_ne _ _ (by omega)).trans s1, (z_new_ne _ _ (by omega)).trans s2, s3, s4, s5, s7, by show a < 1000 + (h.1 + 1); omega, by show r < 1000 + (h.1 + 1); omega, s10⟩
  refine z_callI (av := [_]) rfl z_w166 rfl rfl rfl rfl (Nat.le_of_ble_eq_true rfl) (Nat.le_of_ble_eq_true rfl) (Nat.le_of_ble_eq_true rfl) (Nat.le_of_ble_eq_true rfl) (c_initStr1 (s := 1000 + h.1) (by show 1000 + h.1 + 1 = 1000 + (h.1 + 1); omega) (z_new_eq _ _) k1 hl hcp hl9 (by omega) (by omega) fun h' x e f => ?_)
  refine z_aret rfl rfl (Or.inl ⟨_, rfl⟩) (Or.inr ⟨_, rfl⟩) ?_
  exact q h' _ rfl x e fun j hj => (f j hj).trans (z_new_ne _ _ (by omega))
end ZSc
