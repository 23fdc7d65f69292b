/-! Rows: calls of inherited, private and super methods, of methods of constant things; System.arraycopy of bytes; a static of which only 'a reference or null' is known. -/
theorem z_selPriv {C : String} {y x0 : MethodName} {s : State} {args : Array Value} (hcl : x0.cls = y.cls) (hy : y.cls ≠ "java/lang/invoke/MethodHandle" ∧ y.cls ≠ "java/lang/invoke/VarHandle") (hsel : (Cond.selects C x0 x0).before args s = true) (hpriv : (Cond.privateMethod y).before args s = true) (hinst : (Cond.instanceMethod y).before args s = true) : (Cond.selects C y y).before args s = true := by
  obtain ⟨c, r2, m2, h1, h2, h3, h4, kP, hkP, hkPi⟩ := Cond.selects_spec hsel
  obtain ⟨mk, methM, hnamed, hmethM, -, -⟩ := Cond.instanceMethod_spec hinst
  have hfound : s.methodFound? y.cls y.name y.desc = some mk := State.methodFound?_of_named hnamed hy
  have hcls : mk.cls = m2.cls := by
    have e1 := findClass_of_methodNamed hnamed
    have e2 := findClass_of_methodNamed h3
    rw [hcl] at e2
    exact Option.some.inj (e1.symm.trans e2)
  have hsel : selectMethod {} s.vm c mk = .method mk := selectMethod_private hmethM (Cond.privateMethod_at hpriv mk methM hnamed hmethM)
  simp only [Cond.before, Cond.holds, Cond.value, h1, hfound, hnamed, hsel, hcls, hkP]
  simp; exact hkPi
section ZR3
variable {G : z_G} {d mc ms mi pc nx : Nat} {L st : List Value} {h : z_H} {Q : z_O → z_H → Prop} {info : List Nat}
theorem z_getsQ {idx f j : Nat} (hr : z_at mi pc = some (.getstatic idx, nx, [f, j])) (hf : z_stt[f]? = some ("jdk/internal/util/Preconditions", "SIOOBE_FORMATTER", "Ljava/util/function/BiFunction;")) (hnn : z_nestS j = false) (kk : ∀ v : Value, (v = .null ∨ v = .ref 35) → z_W G d mc ms mi nx L (v :: st) h Q) : z_W G d mc ms mi pc L st h Q := by
  obtain ⟨hd, rfl⟩ := z_dn (n := 3) hr rfl (by decide)
  have hlk2 : (match z_stt[f]? with
    | some q => z_is j (.fieldLink (z_y mi).cls idx q.1 q.2.1 q.2.2) || z_isFN j (z_y mi).cls idx q.1 q.2.1 q.2.2
    | none => false) = true := z_lkOf hr
  rw [hf] at hlk2
  intro p e R s m args below meth c H locs cells slots MC MS ls C r hS hL hR
  obtain ⟨v, hv, hz⟩ := (C.2.2.2.2.2.2.2.2.2.1).2.2.2.2.2.2.2.2.2.2.2.1
  rcases Bool.or_eq_true _ _ |>.mp hlk2 with hw | hw
  · exact va_gets C.1 C.2.1 hz hS C.2.2.2.2.1 (C.2.2.2.2.2.1 _ (z_gwOf (z_isOf hw) rfl)) (fun _ h9 => h9) hd (kk v hv p e R s m args below meth c H locs cells slots MC MS ls C r hS hL hR)
  · unfold z_isFN at hw
    unfold z_nestS at hnn
    split at hw
    · rename_i e9
      rw [e9] at hnn
      cases hnn
    · cases hw
theorem z_alenI {a t n : Nat} {u : (Nat → Int32) ⊕ (Nat → Int64) ⊕ (Nat → UInt32) ⊕ (Nat → UInt64) ⊕ (Nat → Option Nat)} (hr : z_at mi pc = some (.arraylength, nx, info)) (hc : h.2 a = some (.inl (t, n, u))) (ht : t < 6) (kk : z_W G d mc ms mi nx L (.int (nI n) :: st) h Q) : z_W G d mc ms mi pc L (.ref a :: st) h Q := z_alen hr hc ht kk
/-- a method of a constant thing -/
theorem z_callVR {idx mj n j d' mc' ms' a : Nat} {av stk : List Value} (hr : z_at mi pc = some (.invokevirtual idx, nx, [0, mj, n, j])) (hw : z_okW mj = true) (hrc : (a, (z_y mj).cls) ∈ z_roo) (hstk : stk = av.reverse ++ .ref a :: st) (hav : av.length = n) (hcat : (av.all fun v => v.category == 1) = true) (hst : Nat.ble ((st.map fun v => v.category).sum) 8 = true) (hdd : d' + 1 ≤ d) (hm : mc' ≤ mc) (hs : ms' ≤ ms) (hnl : av.length + 1 ≤ z_nL mj) (k : z_W G d' mc' ms' mj 0 (z_L0 mj (.ref a :: av)) [] h (z_K2 G d (mc - mc') (ms - ms') mi pc nx L st Q)) : z_W G d mc ms mi pc L stk h Q := by
  obtain ⟨hd, rfl⟩ := z_dn (n := 3) hr rfl (by decide)
  have hlk := z_lkOf hr
  have hlk2 : (z_is j (.methodLink (z_y mi).cls idx (z_y mj)) && decide (parseMethodDescriptor (z_y mj).desc ≠ none) && decide (z_nps (z_y mj).desc = n) && decide (z_pl mj 3 = 0) && (z_hh mj).isEmpty && z_is (z_pl mj 4) (.selects (z_y mj).cls (z_y mj) (z_y mj))) = true := hlk
  simp only [Bool.and_eq_true, decide_eq_true_eq] at hlk2
  obtain ⟨⟨⟨⟨⟨w1, w2⟩, w3⟩, w4⟩, w5⟩, w6⟩ := hlk2
  obtain ⟨o1, o2, o3, o4, o5, o6, o7, o8⟩ := z_okWOf hw
  rw [if_neg (by omega)] at o4
  subst hstk
  intro p e R s m args below meth c H locs cells slots MC MS ls C r hS hL hR
  have ecw : z_cw mj = .code (z_y mj) (z_b mj) (z_nL mj) (z_rt mj) := by unfold z_cw; rw [if_pos w5]
  have hts := C.2.2.2.2.2.1
  have hc2 : ((Value.ref a :: av).all fun v => v.category == 1) = true := by simpa [Value.category] using hcat
  have hpre := z_preS (av := .ref a :: av) C.2.2.2.2.2.2.2.2.2.1 C.2.2.2.2.2.2.2.2.2.2.1 hS hR
  obtain ⟨cell, g1, g2, g3, -⟩ := ((C.2.2.2.2.2.2.2.2.2.1).2.2.2.1 _ hrc).kept hS.2.1
  refine z_fromRun C r hm hs hS hL (vx_runV (Ts := z_gw) (C := (z_y mj).cls) (b := z_ad G a) (As := av.map (z_v G)) ⟨C.1, C.2.1, C.2.2.1, C.2.2.2.2.1, hts⟩ (z_met (av := .ref a :: av) C.2.2.2.2.2.2.2.2.2.2.2 o5 hc2 hnl k) ⟨callB_of n hts (z_good hw) (by rw [ecw]) rfl rfl (hts _ o3) (hts _ (z_gwOf (z_isOf w1) rfl)) ⟨o6, o7, z_desc w2 w3⟩ ⟨?_, ?_⟩, hts _ o4, hts _ (z_gwOf (z_isOf w6) rfl)⟩ ⟨hpre.1, ⟨cell, g1, g2, g3⟩, hpre.2⟩ rfl (by simpa using hav) hL.1 ?_ (lv_room (z_stL hst)) hd ⟨by omega, by omega⟩)
  · show d' + 1 ≤ _; omega
  · show 8 + (z_nL mj + 11) + (60 * d' + 200) ≤ _; omega
  · simp [List.map_append, List.map_reverse, z_v]
def z_SB : String := "java/lang/StringBuilder"
/-- an inherited or private method of AbstractStringBuilder, of a StringBuilder -/
theorem z_callA {idx mj n j d' mc' ms' : Nat} {av stk : List Value} {a : Nat} {fs : List Value} (hr : z_at mi pc = some (.invokevirtual idx, nx, [10, mj, n, j])) (hw : z_okW mj = true) (hemp : (z_hh mj).isEmpty = true) (hps : z_pl mj 3 ≠ 1) (hcl : (z_y mj).cls = "java/lang/AbstractStringBuilder") (hpv : (z_y mj) = ⟨"java/lang/AbstractStringBuilder", "isLatin1", "()Z"⟩ ∨ (z_y mj) ∈ z_svp) (hrc : h.2 a = some (.inr (10, fs))) (hstk : stk = av.reverse ++ .ref a :: st) (hav : av.length = n) (hcat : (av.all fun v => v.category == 1) = true) (hst : Nat.ble ((st.map fun v => v.category).sum) 8 = true) (hdd : d' + 1 ≤ d) (hm : mc' ≤ mc) (hs : ms' ≤ ms) (hnl : av.length + 1 ≤ z_nL mj) (k : z_W G d' mc' ms' mj 0 (z_L0 mj (.ref a :: av)) [] h (z_K2 G d (mc - mc') (ms - ms') mi pc nx L st Q)) : z_W G d mc ms mi pc L stk h Q := by
  obtain ⟨hd, rfl⟩ := z_dn (n := 3) hr rfl (by decide)
  have hlk := z_lkOf hr
  have hlk2 : (z_is j (.methodLink (z_y mi).cls idx (z_y mj)) && decide (parseMethodDescriptor (z_y mj).desc ≠ none) && decide (z_nps (z_y mj).desc = n)) = true := hlk
  simp only [Bool.and_eq_true, decide_eq_true_eq] at hlk2
  obtain ⟨⟨w1, w2⟩, w3⟩ := hlk2
  obtain ⟨o1, o2, o3, o4, o5, o6, o7, o8⟩ := z_okWOf hw
  rw [if_neg hps] at o4
  subst hstk
  obtain ⟨q0, hq0, hqc⟩ : ∃ q0, z_cl[10]? = some q0 ∧ q0.1 = "java/lang/StringBuilder" := ⟨_, rfl, rfl⟩
  intro p e R s m args below meth c H locs cells slots MC MS ls C r hS hL hR
  have ecw : z_cw mj = .code (z_y mj) (z_b mj) (z_nL mj) (z_rt mj) := by unfold z_cw; rw [if_pos hemp]
  have hts := C.2.2.2.2.2.1
  have hc2 : ((Value.ref a :: av).all fun v => v.category == 1) = true := by simpa [Value.category] using hcat
  have hpre := z_preS (av := .ref a :: av) C.2.2.2.2.2.2.2.2.2.1 C.2.2.2.2.2.2.2.2.2.2.1 hS hR
  have hrec := va_recv (C.2.2.2.2.2.2.2.2.2.1).1 (hR.one hrc) (ci := 10) (q0 := 0) hq0 rfl
  have hsel0 : (Cond.selects "java/lang/StringBuilder" ⟨"java/lang/AbstractStringBuilder", "isLatin1", "()Z"⟩ ⟨"java/lang/AbstractStringBuilder", "isLatin1", "()Z"⟩).before args s = true := hts _ (z_gwOf (z_isOf (j := 5209) (by decide +kernel)) rfl)
  have hsel : (Cond.selects "java/lang/StringBuilder" (z_y mj) (z_y mj)).before args s = true := by
    rcases hpv with q | q
    · rw [q]; exact hsel0
    · exact word_at (State.WarmedH.refl s) (Or.inl rfl) ((C.2.2.2.2.2.2.2.2.2.1).2.2.2.2.2.2.2.2.2.2.2.2.2.1 _ q)
  refine z_fromRun C r hm hs hS hL (vx_runV (Ts := z_gw) (C := "java/lang/StringBuilder") (b := z_ad G a) (As := av.map (z_v G)) ⟨C.1, C.2.1, C.2.2.1, C.2.2.2.2.1, hts⟩ (z_met (av := .ref a :: av) C.2.2.2.2.2.2.2.2.2.2.2 o5 hc2 hnl k) ⟨callB_of n hts (z_good hw) (by rw [ecw]) rfl rfl (hts _ o3) (hts _ (z_gwOf (z_isOf w1) rfl)) ⟨o6, o7, z_desc w2 w3⟩ ⟨?_, ?_⟩, hts _ o4, hsel⟩ ⟨hpre.1, by rw [hqc] at hrec; exact hrec, hpre.2⟩ rfl (by simpa using hav) hL.1 ?_ (lv_room (z_stL hst)) hd ⟨by omega, by omega⟩)
  · show d' + 1 ≤ _; omega
  · show 8 + (z_nL mj + 11) + (60 * d' + 200) ≤ _; omega
  · simp [List.map_append, List.map_reverse, z_v]
/-- super.m(..) of a StringBuilder -/
theorem z_callSp {idx mj n j d' mc' ms' jx : Nat} {av stk : List Value} {a : Nat} {fs : List Value} (hr : z_at mi pc = some (.invokespecial idx, nx, [6, mj, n, j])) (hw : z_okW mj = true) (hemp : (z_hh mj).isEmpty = true) (hps : z_pl mj 3 ≠ 1) (hown : (z_y mi).cls = "java/lang/StringBuilder") (hcl : (z_y mj).cls = "java/lang/AbstractStringBuilder") (hno : (z_y mj).name ≠ "<init>") (hjx : z_is jx (.sameMethod (z_y mj).cls (z_y mj).cls (z_y mj).name (z_y mj).desc) = true) (hrc : h.2 a = some (.inr (10, fs))) (hstk : stk = av.reverse ++ .ref a :: st) (hav : av.length = n) (hcat : (av.all fun v => v.category == 1) = true) (hst : Nat.ble ((st.map fun v => v.category).sum) 8 = true) (hdd : d' + 1 ≤ d) (hm : mc' ≤ mc) (hs : ms' ≤ ms) (hnl : av.length + 1 ≤ z_nL mj) (k : z_W G d' mc' ms' mj 0 (z_L0 mj (.ref a :: av)) [] h (z_K2 G d (mc - mc') (ms - ms') mi pc nx L st Q)) : z_W G d mc ms mi pc L stk h Q := by
  obtain ⟨hd, rfl⟩ := z_dn (n := 3) hr rfl (by decide)
  have hlk := z_lkOf hr
  have hlk2 : (z_is j (.methodLink (z_y mi).cls idx (z_y mj)) && decide (parseMethodDescriptor (z_y mj).desc ≠ none) && decide (z_nps (z_y mj).desc = n)) = true := hlk
  simp only [Bool.and_eq_true, decide_eq_true_eq] at hlk2
  obtain ⟨⟨w1, w2⟩, w3⟩ := hlk2
  obtain ⟨o1, o2, o3, o4, o5, o6, o7, o8⟩ := z_okWOf hw
  rw [if_neg hps] at o4
  subst hstk
  obtain ⟨q0, hq0, hqc⟩ : ∃ q0, z_cl[10]? = some q0 ∧ q0.1 = "java/lang/StringBuilder" := ⟨_, rfl, rfl⟩
  intro p e R s m args below meth c H locs cells slots MC MS ls C r hS hL hR
  have ecw : z_cw mj = .code (z_y mj) (z_b mj) (z_nL mj) (z_rt mj) := by unfold z_cw; rw [if_pos hemp]
  have hts := C.2.2.2.2.2.1
  have hc2 : ((Value.ref a :: av).all fun v => v.category == 1) = true := by simpa [Value.category] using hcat
  have hpre := z_preS (av := .ref a :: av) C.2.2.2.2.2.2.2.2.2.1 C.2.2.2.2.2.2.2.2.2.2.1 hS hR
  have hK1 := (C.2.2.2.2.2.2.2.2.2.1).1
  have hrec := va_recv hK1 (hR.one hrc) (ci := 10) (q0 := 0) hq0 rfl
  have hsup : (Cond.superclass (z_y mi).cls (z_y mj).cls).before args s = true := by
    rw [hown, hcl]
    exact hts _ (z_gwOf (z_isOf (j := 1233) (by decide +kernel)) rfl)
  have hat : ∃ cC, ClassAt s "java/lang/StringBuilder" cC := by
    have hq := hK1.1 10 q0 hq0
    rw [hqc] at hq
    exact ⟨_, hq.2.1, hq.2.2⟩
  obtain ⟨cC, hat⟩ := hat
  have hgw := z_good hw
  refine z_fromRun C r hm hs hS hL (vx_runSU (Ts := z_gw) (C := "java/lang/StringBuilder") (b := z_ad G a) (As := av.map (z_v G)) hat ⟨C.1, C.2.1, C.2.2.1, C.2.2.2.2.1, hts⟩ (z_met (av := .ref a :: av) C.2.2.2.2.2.2.2.2.2.2.2 o5 hc2 hnl k) (va_cwSU (ws' := z_gw) n hts (fun w hwm => ?_) (by rw [ecw]) rfl rfl ⟨hno, z_desc w2 w3⟩ ⟨?_, ?_⟩) ⟨hpre.1, by rw [hqc] at hrec; exact hrec, hpre.2⟩ rfl (by simpa using hav) hL.1 ?_ (lv_room (z_stL hst)) hd ⟨by omega, by omega⟩)
  · unfold va_wsSU at hwm
    rcases List.mem_append.mp hwm with q | q
    · simp only [List.mem_cons, List.not_mem_nil, or_false] at q
      rcases q with rfl | rfl | rfl | rfl | rfl
      · exact ⟨z_gwOf (z_isOf w1) rfl, Or.inl rfl⟩
      · exact ⟨z_gwOf (z_isOf hjx) rfl, Or.inl rfl⟩
      · refine ⟨?_, Or.inl rfl⟩
        rw [hown, hcl]
        exact z_gwOf (z_isOf (j := 1233) (by decide +kernel)) rfl
      · exact ⟨o4, Or.inl rfl⟩
      · exact ⟨o3, Or.inl rfl⟩
    · exact hgw w q
  · show d' + 1 ≤ _; omega
  · show 8 + (z_nL mj + 11) + (60 * d' + 200) ≤ _; omega
  · simp [List.map_append, List.map_reverse, z_v]
theorem z_nnz {z : Int32} (hz : ¬ z < 0) : z.toInt = (z.toNatClampNeg : Int) := by
  have hz0 : (0 : Int) ≤ z.toInt := by
    have := Int32.not_lt.mp hz
    simpa using Int32.le_iff_toInt_le.mp this
  show z.toInt = ((z.toInt.toNat : Nat) : Int)
  omega
/-- System.arraycopy of bytes -/
theorem z_copyb {idx j a0 a n0 n1 : Nat} {f g : Nat → Int32} {sp dp n : Int32} (hr : z_at mi pc = some (.invokestatic idx, nx, [8, 0, 5, j])) (hc0 : h.2 a0 = some (.inl (2, n0, .inl f))) (hc1 : h.2 a = some (.inl (2, n1, .inl g))) (h1 : ¬ sp < 0) (h2 : ¬ dp < 0) (h3 : ¬ n < 0) (h4 : sp.toNatClampNeg + n.toNatClampNeg ≤ n0) (h5 : dp.toNatClampNeg + n.toNatClampNeg ≤ n1) (hfit : ∀ i, i < n.toNatClampNeg → fits .byte (.int (f (sp.toNatClampNeg + i))) = true) (hdd : 1 ≤ d) (hst : Nat.ble ((st.map fun v => v.category).sum) 8 = true) (kk : z_W G d mc ms mi nx L st (z_set h a (.inl (2, n1, .inl (va_cpy f g sp.toNatClampNeg dp.toNatClampNeg n.toNatClampNeg)))) Q) : z_W G d mc ms mi pc L (.int n :: .int dp :: .ref a :: .int sp :: .ref a0 :: st) h Q := by
  obtain ⟨hd, rfl⟩ := z_dn (n := 3) hr rfl (by decide)
  have hlk : z_is j (.methodLink (z_y mi).cls idx arraycopyName) = true := z_lkOf hr
  intro p e R s m args below meth c H locs cells slots MC MS ls C r hS hL hR T hT X
  have hts := C.2.2.2.2.2.1
  have hK := (C.2.2.2.2.2.2.2.2.2.1).1
  obtain ⟨b1, -, b2⟩ := hR.2 a0 _ hc0
  obtain ⟨d1, -, d2⟩ := hR.2 a _ hc1
  have hl8 := z_stL (G := G) hst
  have hH0 : H[z_ad G a0]? = some (vp_cell (G.2.2.2.2.1 2) (n0, .inl f)) := b2
  have hH1 : H[z_ad G a]? = some (vp_cell (G.2.2.2.2.1 2) (n1, .inl g)) := d2
  obtain ⟨-, k0, hk0, cm0, hkk0⟩ := (hK.2 2 _ rfl).1 n0 (fun j => .int (f j))
  obtain ⟨-, k1, hk1, cm1, hkk1⟩ := (hK.2 2 _ rfl).1 n1 (fun j => .int (g j))
  obtain ⟨vm', X', step⟩ := X.arraycopy C.1 C.2.2.2.2.1 (hts _ (z_gwOf (z_isOf hlk) rfl)) (hts _ (z_gwOf (z_isOf (j := 5205) (by decide +kernel)) rfl)) (hts _ (z_gwOf (z_isOf (j := 5204) (by decide +kernel)) rfl)) (hts _ (z_gwOf (z_isOf (j := 1028) (by decide +kernel)) rfl)) (src := z_ad G a0) (dst := z_ad G a) (cs := vp_cell (G.2.2.2.2.1 2) (n0, .inl f)) (cd := vp_cell (G.2.2.2.2.1 2) (n1, .inl g)) (srcPos := sp) (destPos := dp) (n := n) (by rw [hT]; exact hH0) (by rw [hT]; exact hH1)
    (fun _ h => by cases h) (fun _ h => by cases h) (fun h => by cases h) (fun h => by cases h) hk0 hk1 hkk0 hkk1 (by simp [refKind, z_tyOf]) h1 h2 h3
    (by rw [z_nnz h1, z_nnz h3]; show ¬ _ > ((arrV _ n0 (fun j => .int (f j))).slots.size : Int); rw [arrV_size]; omega)
    (by rw [z_nnz h2, z_nnz h3]; show ¬ _ > ((arrV _ n1 (fun j => .int (g j))).slots.size : Int); rw [arrV_size]; omega)
    (fun vm₁ _ i hi => by
      have e : (vp_cell (G.2.2.2.2.1 2) (n0, .inl f)).slots.getD (sp.toNatClampNeg + i) .null = .int (f (sp.toNatClampNeg + i)) := by
        show (arrV _ n0 (fun j => .int (f j))).slots.getD _ _ = _
        rw [Array.getD_eq_getD_getElem?, arrV_read _ _ (by omega)]
        rfl
      refine ⟨?_, ?_⟩
      · rw [e]
        exact hfit i hi
      · rw [e]
        exact trivial)
    (g := F0 m pc ls (.int n :: .int dp :: .ref (z_ad G a) :: .int sp :: .ref (z_ad G a0) :: st.map (z_v G))) rfl (by rw [C.2.2.1]; exact hL.1) (rest := st.map (z_v G)) rfl (by rw [C.2.1]; exact hd) (by omega) (by show 2 * 0 + _ + (nativeFrameWords "java/lang/System" "arraycopy" 5 + 11) ≤ _; have e9 : nativeFrameWords "java/lang/System" "arraycopy" 5 ≤ 60 := (by decide +kernel); omega)
  have e1 : copied (vp_cell (G.2.2.2.2.1 2) (n0, .inl f)) (vp_cell (G.2.2.2.2.1 2) (n1, .inl g)) sp dp n = vp_cell (G.2.2.2.2.1 2) (n1, .inl (va_cpy f g sp.toNatClampNeg dp.toNatClampNeg n.toNatClampNeg)) := va_copied (fun z => .int z) _ _ f g h4
  rw [e1] at X' step
  have hl : z_ad G a < H.size := (Array.getElem?_eq_some_iff.mp hH1).1
  have hheap : ((T.setVm vm').setCell (z_ad G a) (vp_cell (G.2.2.2.2.1 2) (n1, .inl (va_cpy f g sp.toNatClampNeg dp.toNatClampNeg n.toNatClampNeg)))).heap = H.setIfInBounds (z_ad G a) (vp_cell (G.2.2.2.2.1 2) (n1, .inl (va_cpy f g sp.toNatClampNeg dp.toNatClampNeg n.toNatClampNeg))) := by rw [← hT]; rfl
  have oq : ∀ q : Nat, q ≠ z_ad G a → (H.setIfInBounds (z_ad G a) (vp_cell (G.2.2.2.2.1 2) (n1, .inl (va_cpy f g sp.toNatClampNeg dp.toNatClampNeg n.toNatClampNeg))))[q]? = H[q]? := fun q hq => by simp [Array.getElem?_setIfInBounds, Ne.symm hq]
  have hS' : ∀ l2 : List Loc, (∀ q ∈ l2, q.base = z_ad G a) → va_S (z_A G) s.heap (H.setIfInBounds (z_ad G a) (vp_cell (G.2.2.2.2.1 2) (n1, .inl (va_cpy f g sp.toNatClampNeg dp.toNatClampNeg n.toNatClampNeg)))) (locs ++ l2) := fun l2 hl2 => ⟨by simp; exact hS.1, fun q g1 g2 => by
      rw [oq q (fun e => g2 (by rw [e]; exact z_adA d1))]
      exact hS.2.1 q g1 g2, fun q hq => by
      rcases List.mem_append.mp hq with h | h
      · exact hS.2.2 q h
      · rw [hl2 q h]; exact z_adA d1⟩
  obtain ⟨t, a1, b1⟩ := kk p e R s m args below meth c _ _ cells slots MC MS ls C r (hS' _ (fun q hq => by obtain ⟨z, -, hz⟩ := List.mem_map.mp hq; rw [← hz])) hL (hR.set hc1 (by simp) oq (show (H.setIfInBounds (z_ad G a) _)[z_ad G a]? = some _ by simp [Array.getElem?_setIfInBounds, hl]; rfl)) _ hheap X'
  exact ⟨t, step _ a1, b1⟩
end ZR3
