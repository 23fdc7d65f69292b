/-! Calls: a method's contract is z_W at its first instruction. -/
noncomputable def z_L0 (mj : Nat) (av : List Value) : List Value := av ++ List.replicate (z_nL mj - av.length) (.retAddr 0)
/-- thrown in this frame -/
def z_X (G : z_G) (d mc ms mi pc : Nat) (L : List Value) (E : String) (h : z_H) (Q : z_O → z_H → Prop) : Prop :=
  ∀ (p : Program) (e : Env) (R : Room) (s : State) (m : MethodId) (args : Array Value) (below : List Frame) (meth : Method) (c : Code) (H : Heap) (locs : List Loc) (cells slots MC MS : Nat) (ls : Array Slot) (rest : List Value) (q : Addr) (ce : Cell),
    z_C G mi p s m args meth c → d ≤ R.frames ∧ 60 * d + 200 ≤ R.locals ∧ MC ≤ R.cells ∧ MS ≤ R.slots ∧ cells + mc ≤ MC ∧ slots + ms ≤ MS → va_S (z_A G) s.heap H locs → z_Lo G (z_nL mi) ls L → z_R G h H → H[q]? = some ce → ce.vm = .none → s.vm.findClass E = some ce.cls →
    vx_W p G.1 e R s m args below meth c H locs cells slots (vx_MQ below (z_Qc G Q) (z_XC G Q) args s MC MS (z_A G)) (F0 m pc ls rest) q
/-- what a call's end goes on to -/
def z_K2 (G : z_G) (d mc ms mi pc nx : Nat) (L st : List Value) (Q : z_O → z_H → Prop) : z_O → z_H → Prop
  | .inl v, h' => z_W G d mc ms mi nx L (v.toList ++ st) h' Q
  | .inr E, h' => z_X G d mc ms mi pc L E h' Q
theorem z_sl1 (vs : List Value) (h : ∀ v ∈ vs, v.category = 1) : lg_sl vs = vs.map Slot.val := by
  induction vs with
  | nil => rfl
  | cons a t ih =>
    have h1 : a.category = 1 := h a List.mem_cons_self
    have h2 := ih fun v hv => h v (List.mem_cons_of_mem _ hv)
    show (if a.category = 2 then [Slot.val a, Slot.second] else [Slot.val a]) ++ lg_sl t = _
    rw [if_neg (by omega), h2]
    rfl
theorem z_catL {G : z_G} {av : List Value} (hc : (av.all fun v => v.category == 1) = true) : ∀ v ∈ av.map (z_v G), v.category = 1 := by
  intro v hv
  obtain ⟨u, hu, rfl⟩ := List.mem_map.mp hv
  rw [z_v_cat]
  have := List.all_eq_true.mp hc u hu
  simpa using this
theorem z_LoEntry {G : z_G} {av : List Value} {n : Nat} (hc : (av.all fun v => v.category == 1) = true) (hn : av.length ≤ n) : z_Lo G n ((lg_sl (av.map (z_v G)) ++ List.replicate (n - (lg_sl (av.map (z_v G))).length) Slot.unset).toArray) (av ++ List.replicate (n - av.length) (.retAddr 0)) := by
  have e := z_sl1 _ (z_catL (G := G) hc)
  obtain ⟨h1, h2, h3⟩ := lv_entry (av.map (z_v G)) (n := n) (by rw [e]; simpa using hn)
  refine ⟨h1, h2, fun i v hi hv => ?_⟩
  by_cases hlt : i < av.length
  · rw [List.getElem?_append_left hlt] at hi
    rw [e]
    have hlt2 : i < ((av.map (z_v G)).map Slot.val).length := by simpa using hlt
    rw [List.getElem?_toArray, List.getElem?_append_left hlt2]
    simp [hi]
  · rw [List.getElem?_append_right (by omega)] at hi
    have := List.mem_of_getElem? hi
    exact absurd (List.eq_of_mem_replicate this) hv
theorem z_ofW {l : Launch} {y : MethodName} {ws ws' : List Cond} {rm : Room} {Pc : Array Value → State → Prop} {Qc : Array Value → State → Outcome → State → Prop} {XC : String → State → State → Prop} {mc ms : Nat} {free : Addr → Prop} {cc : ByteArray} {maxL : Nat} {ret : Option FieldType}
    (hy : plainFor y = true) (hw : ws = Cond.code y cc maxL ret :: ws')
    (body : ∀ p e s m args below meth c s₁, BodyLoose p l y (headSpec ws rm) cc maxL ret e s m args below meth c s₁ → c.maxLocals = maxL → (∀ x ∈ c.exceptionTable.toList, False) → Pc args s →
      W p l e (headSpec ws rm).room s m args below meth c s.heap [] 0 0 (vx_MQ below Qc XC args s mc ms free) (entryFrame m args maxL)) : vx_Met l y ws rm Pc Qc XC mc ms free := by
  refine MetFree.of_bodySF (code := cc) (maxLocals := maxL) (ret := ret) hy ?_ ?_
  · intro args s m h hn
    obtain ⟨meth, c, h1, h2, h3, h4, h5, h6, -, -⟩ := Cond.code_spec hn (atoms_spec (ws := ws) h _ (by rw [hw]; exact List.mem_cons_self))
    exact ⟨meth, c, h1, h2, h3, h4, h5, h6⟩
  · intro p e s m args below meth c s₁ B hml hP _
    have hh0 : s₁.heap = s.heap := by rw [B.state]; rfl
    have ht : ∀ x ∈ c.exceptionTable.toList, False := by
      obtain ⟨meth9, c9, h1, h2, -, -, -, -, h7, -⟩ := Cond.code_spec B.named (atoms_spec (ws := ws) B.pre _ (by rw [hw]; exact List.mem_cons_self))
      cases Option.some.inj (h1.symm.trans B.method)
      cases Option.some.inj (h2.symm.trans (Stand.of_body B).code)
      intro x hx
      rw [Array.isEmpty_iff.mp h7] at hx
      cases hx
    obtain ⟨t, a1, o, b1, b2, b3⟩ := body p e s m args below meth c s₁ B hml ht hP s₁ hh0 (Stand.of_body B)
    exact ⟨t, o, a1, b1, b2, b3⟩
theorem z_ofWH {l : Launch} {y : MethodName} {ws ws' : List Cond} {rm : Room} {Pc : Array Value → State → Prop} {Qc : Array Value → State → Outcome → State → Prop} {XC : String → State → State → Prop} {mc ms : Nat} {free : Addr → Prop} {cc : ByteArray} {maxL : Nat} {ret : Option FieldType} {hh : List (Nat × Nat × Nat × Nat)}
    (hy : plainFor y = true) (hw : ws = Cond.codeWith y cc maxL ret hh :: ws')
    (body : ∀ p e s m args below meth c s₁, BodyLoose p l y (headSpec ws rm) cc maxL ret e s m args below meth c s₁ → c.maxLocals = maxL → Pc args s →
      W p l e (headSpec ws rm).room s m args below meth c s.heap [] 0 0 (vx_MQ below Qc XC args s mc ms free) (entryFrame m args maxL)) : vx_Met l y ws rm Pc Qc XC mc ms free := by
  refine MetFree.of_bodySF (code := cc) (maxLocals := maxL) (ret := ret) hy ?_ ?_
  · intro args s m h hn
    obtain ⟨m9, meth, c, hn9, h1, h2, h3, h4, -, h5, h6, -⟩ := Cond.codeWith_spec (atoms_spec (ws := ws) h _ (by rw [hw]; exact List.mem_cons_self))
    cases hn.symm.trans hn9
    exact ⟨meth, c, h1, h2, h3, h4, h5, h6⟩
  · intro p e s m args below meth c s₁ B hml hP _
    have hh0 : s₁.heap = s.heap := by rw [B.state]; rfl
    obtain ⟨t, a1, o, b1, b2, b3⟩ := body p e s m args below meth c s₁ B hml hP s₁ hh0 (Stand.of_body B)
    exact ⟨t, o, a1, b1, b2, b3⟩
theorem z_met {G : z_G} {mj d' mc' ms' : Nat} {av : List Value} {h : z_H} {Q' : z_O → z_H → Prop} (hst : G.1.stackTraces = false) (hpn : plainFor (z_y mj) = true) (hc : (av.all fun v => v.category == 1) = true) (hn : av.length ≤ z_nL mj) (k : z_W G d' mc' ms' mj 0 (z_L0 mj av) [] h Q') :
    vx_Met G.1 (z_y mj) (z_cw mj :: z_gw) { frames := d', cells := mc', slots := ms', locals := 60 * d' + 200 } (fun a U => a = (av.map (z_v G)).toArray ∧ z_R G h U.heap ∧ z_K G U U.heap ∧ G.2.1 ≤ U.heap.size) (z_Qc G Q') (z_XC G Q') mc' ms' (z_A G) := by
  by_cases hh : (z_hh mj).isEmpty = true
  · have ecw : z_cw mj = .code (z_y mj) (z_b mj) (z_nL mj) (z_rt mj) := by unfold z_cw; rw [if_pos hh]
    refine z_ofW (cc := z_b mj) (maxL := z_nL mj) (ret := z_rt mj) (ws' := z_gw) hpn (by rw [ecw]) ?_
    intro p e s m args below meth c s₁ B hml ht hP
    obtain ⟨rfl, hR, hK, hsz⟩ := hP
    have hts := atoms_spec (ws := z_cw mj :: z_gw) B.pre
    have htab : c.exceptionTable.toList = tableOf (z_hh mj) := by
      rw [List.isEmpty_iff.mp hh]
      exact List.eq_nil_iff_forall_not_mem.mpr fun x hx => ht x hx
    rw [lg_entry_eq]
    exact k p e _ s m _ below meth c s.heap [] 0 0 mc' ms' _ ⟨B.exec, B.bytes, hml, B.returns, findClass_of_methodNamed B.named, fun w hw => hts w (List.mem_cons_of_mem _ hw), B.notSynchronized, (name_of_methodNamed B.named B.method).1, htab, hK, hsz, hst⟩ ⟨Nat.le_refl _, Nat.le_refl _, Nat.le_refl _, Nat.le_refl _, by omega, by omega⟩ va_S.rf (z_LoEntry hc hn) hR
  · have ecw : z_cw mj = .codeWith (z_y mj) (z_b mj) (z_nL mj) (z_rt mj) (z_hh mj) := by unfold z_cw; rw [if_neg hh]
    refine z_ofWH (cc := z_b mj) (maxL := z_nL mj) (ret := z_rt mj) (hh := z_hh mj) (ws' := z_gw) hpn (by rw [ecw]) ?_
    intro p e s m args below meth c s₁ B hml hP
    obtain ⟨rfl, hR, hK, hsz⟩ := hP
    have hts := atoms_spec (ws := z_cw mj :: z_gw) B.pre
    have htab : c.exceptionTable.toList = tableOf (z_hh mj) := vx_table (x := z_y mj) B (y := z_y mj) (by rw [← ecw]; exact hts _ List.mem_cons_self)
    rw [lg_entry_eq]
    exact k p e _ s m _ below meth c s.heap [] 0 0 mc' ms' _ ⟨B.exec, B.bytes, hml, B.returns, findClass_of_methodNamed B.named, fun w hw => hts w (List.mem_cons_of_mem _ hw), B.notSynchronized, (name_of_methodNamed B.named B.method).1, htab, hK, hsz, hst⟩ ⟨Nat.le_refl _, Nat.le_refl _, Nat.le_refl _, Nat.le_refl _, by omega, by omega⟩ va_S.rf (z_LoEntry hc hn) hR
section ZC
variable {G : z_G} {d mc ms mi pc nx : Nat} {L st : List Value} {h : z_H} {Q : z_O → z_H → Prop} {info : List Nat}
theorem z_okWOf {mj : Nat} (h : z_okW mj = true) : z_cw mj ∈ lw_tbl ∧ goodWord (z_cw mj) = true ∧ Cond.initialized (z_y mj).cls ∈ z_gw ∧ (if z_pl mj 3 = 1 then Cond.static (z_y mj) else Cond.instanceMethod (z_y mj)) ∈ z_gw ∧ plainFor (z_y mj) = true ∧ (z_y mj).cls ≠ "java/lang/invoke/MethodHandle" ∧ (z_y mj).cls ≠ "java/lang/invoke/VarHandle" ∧ z_nL mj ≤ 30 := by
  unfold z_okW at h
  simp only [Bool.and_eq_true, decide_eq_true_eq] at h
  obtain ⟨⟨⟨⟨⟨⟨⟨h1, h2⟩, h3⟩, h4⟩, h5⟩, h6⟩, h7⟩, -⟩ := h
  refine ⟨z_isOf h1, ?_, z_gwOf (z_isOf h2) rfl, z_gwOf (z_isOf h3) ?_, h4, h5, h6, h7⟩
  · unfold z_cw
    split <;> rfl
  · split <;> rfl
theorem z_good {mj : Nat} (h : z_okW mj = true) : GoodIn z_gw (z_cw mj :: z_gw) := by
  obtain ⟨h1, h2, -⟩ := z_okWOf h
  intro w hw
  rcases List.mem_cons.mp hw with rfl | hw
  · exact ⟨z_gwOf h1 h2, good_of_word h2⟩
  · exact ⟨hw, good_of_word (List.mem_filter.mp hw).2⟩
theorem z_desc {mj n : Nat} (h1 : parseMethodDescriptor (z_y mj).desc ≠ none) (h2 : z_nps (z_y mj).desc = n) : (parseMethodDescriptor (z_y mj).desc).map (fun d => d.parameters.length) = some n := by
  unfold z_nps at h2
  cases e : parseMethodDescriptor (z_y mj).desc with
  | none => exact absurd e h1
  | some q =>
    rw [e] at h2
    simpa using h2
theorem z_blind {G : z_G} {av : List Value} {h : z_H} : FrameBlind (fun a U => a = (av.map (z_v G)).toArray ∧ z_R G h U.heap ∧ z_K G U U.heap ∧ G.2.1 ≤ U.heap.size) := fun a U g mk q => ⟨q.1, q.2.1, z_K.same (s := U) (U := U.calling g mk a) q.2.2.1 rfl, q.2.2.2⟩
theorem z_preS {s : State} {H : Heap} {locs : List Loc} {av : List Value} {h : z_H} (hK : z_K G s s.heap) (hsz : G.2.1 ≤ s.heap.size) (hS : va_S (z_A G) s.heap H locs) (hR : z_R G h H) : PreS s H (fun a U => a = (av.map (z_v G)).toArray ∧ z_R G h U.heap ∧ z_K G U U.heap ∧ G.2.1 ≤ U.heap.size) (av.map (z_v G)) :=
  ⟨z_blind, fun U hU hW => ⟨rfl, by rw [hU]; exact hR, by rw [hU]; exact z_K.to hK hW (fun a ha hA => hS.2.1 a ha hA), by rw [hU]; exact Nat.le_trans hsz hS.1⟩⟩
theorem z_fromRun {p : Program} {e : Env} {R : Room} {s : State} {m : MethodId} {args : Array Value} {below : List Frame} {meth : Method} {c : Code} {H : Heap} {locs : List Loc} {cells slots MC MS mc' ms' : Nat} {ls : Array Slot} {stk : List Value} {av : Array Value}
    (C : z_C G mi p s m args meth c) (r : d ≤ R.frames ∧ 60 * d + 200 ≤ R.locals ∧ MC ≤ R.cells ∧ MS ≤ R.slots ∧ cells + mc ≤ MC ∧ slots + ms ≤ MS) (hm : mc' ≤ mc) (hs : ms' ≤ ms) (hS : va_S (z_A G) s.heap H locs) (hL : z_Lo G (z_nL mi) ls L)
    (hrun : vx_Run p G.1 e R s m args below meth c H locs cells slots mc' ms' (F0 m pc ls stk) (st.map (z_v G)) (z_Qc G (z_K2 G d (mc - mc') (ms - ms') mi pc (pc + 3) L st Q) av) (z_XC G (z_K2 G d (mc - mc') (ms - ms') mi pc (pc + 3) L st Q)) (z_A G)) :
    W p G.1 e R s m args below meth c H locs cells slots (vx_MQ below (z_Qc G Q) (z_XC G Q) args s MC MS (z_A G)) (F0 m pc ls stk) := by
  intro T hT X
  rcases hrun T hT X with ⟨v, st₀, t, T', L', h0, X', hL', e1, e2, ⟨⟨v', h', hv, hQ, hR'⟩, hF⟩, hst⟩ | ⟨q, st₀, t, T', L', E, ce, h0, X', hL', e1, e2, ⟨⟨h', hQ, hR'⟩, hF⟩, hce, hcv, hcl, hst⟩
  · cases hv
    obtain ⟨-, -, k3⟩ := vx_keep h0 e1 hS (fun _ _ q => q) (fun _ q => q) hL' hF
    have w : z_W G d (mc - mc') (ms - ms') mi (pc + 3) L (v'.toList ++ st) h' Q := hQ
    obtain ⟨t2, a1, b1⟩ := w p e R s m args below meth c T'.heap (locs ++ L') (cells + mc') (slots + ms') MC MS ls C (by omega) k3 hL (by rw [e1]; exact hR') T' rfl X'
    have ev : (v'.toList ++ st).map (z_v G) = (v'.map (z_v G)).toList ++ st.map (z_v G) := by cases v' <;> rfl
    rw [ev] at a1
    exact ⟨t2, hst t2 a1, b1⟩
  · obtain ⟨-, -, k3⟩ := vx_keep h0 e1 hS (fun _ _ q => q) (fun _ q => q) hL' hF
    have w : z_X G d (mc - mc') (ms - ms') mi pc L E h' Q := hQ
    obtain ⟨t2, a1, b1⟩ := w p e R s m args below meth c T'.heap (locs ++ L') (cells + mc') (slots + ms') MC MS ls (st.map (z_v G)) q ce C (by omega) k3 hL (by rw [e1]; exact hR') (by rw [e1]; exact hce) hcv hcl T' rfl X'
    exact ⟨t2, hst.trans a1, b1⟩
theorem z_stL {stl : List Value} (hst : Nat.ble ((stl.map fun v => v.category).sum) 8 = true) : (((stl.map (z_v G)).map fun v => v.category).sum) ≤ 8 := by
  have e : ((stl.map (z_v G)).map fun v => v.category) = stl.map fun v => v.category := by
    rw [List.map_map]
    exact List.map_congr_left fun v _ => z_v_cat G v
  rw [e]
  exact Nat.le_of_ble_eq_true hst
theorem z_callS {idx mj n j d' mc' ms' : Nat} {av stk : List Value} (hr : z_at mi pc = some (.invokestatic idx, nx, [1, mj, n, j])) (hw : z_okW mj = true) (hstk : stk = av.reverse ++ st) (hav : av.length = n) (hcat : (av.all fun v => v.category == 1) = true) (hst : Nat.ble ((st.map fun v => v.category).sum) 8 = true) (hdd : d' + 1 ≤ d) (hm : mc' ≤ mc) (hs : ms' ≤ ms) (hnl : av.length ≤ z_nL mj) (k : z_W G d' mc' ms' mj 0 (z_L0 mj av) [] h (z_K2 G d (mc - mc') (ms - ms') mi pc nx L st Q)) : z_W G d mc ms mi pc L stk h Q := by
  obtain ⟨hd, rfl⟩ := z_dn (n := 3) hr rfl (by decide)
  have hlk := z_lkOf hr
  have hlk2 : (z_is j (.methodLink (z_y mi).cls idx (z_y mj)) && decide (parseMethodDescriptor (z_y mj).desc ≠ none) && decide (z_nps (z_y mj).desc = n) && decide (z_pl mj 3 = 1) && (z_hh mj).isEmpty) = true := hlk
  simp only [Bool.and_eq_true, decide_eq_true_eq] at hlk2
  obtain ⟨⟨⟨⟨w1, w2⟩, w3⟩, w4⟩, w5⟩ := hlk2
  obtain ⟨o1, o2, o3, o4, o5, o6, o7, o8⟩ := z_okWOf hw
  rw [if_pos w4] at o4
  subst hstk
  intro p e R s m args below meth c H locs cells slots MC MS ls C r hS hL hR
  have ecw : z_cw mj = .code (z_y mj) (z_b mj) (z_nL mj) (z_rt mj) := by unfold z_cw; rw [if_pos w5]
  have hts := C.2.2.2.2.2.1
  refine z_fromRun C r hm hs hS hL (vx_runS (Ts := z_gw) (As := av.map (z_v G)) ⟨C.1, C.2.1, C.2.2.1, C.2.2.2.2.1, hts⟩ (z_met C.2.2.2.2.2.2.2.2.2.2.2 o5 hcat hnl k) ⟨callB_of n hts (z_good hw) (by rw [ecw]) rfl rfl (hts _ o3) (hts _ (z_gwOf (z_isOf w1) rfl)) ⟨o6, o7, z_desc w2 w3⟩ ⟨?_, ?_⟩, hts _ o4⟩ (z_preS C.2.2.2.2.2.2.2.2.2.1 C.2.2.2.2.2.2.2.2.2.2.1 hS hR) rfl (by simpa using hav) hL.1 ?_ (lv_room (z_stL hst)) hd ⟨by omega, by omega⟩)
  · show d' + 1 ≤ _; omega
  · show 8 + (z_nL mj + 11) + (60 * d' + 200) ≤ _; omega
  · simp [List.map_append, List.map_reverse]
theorem z_callSX {idx mj n j d' mc' ms' : Nat} {av stk : List Value} (hr : z_at mi pc = some (.invokestatic idx, nx, [9, mj, n, j])) (hw : z_okW mj = true) (hstk : stk = av.reverse ++ st) (hav : av.length = n) (hcat : (av.all fun v => v.category == 1) = true) (hst : Nat.ble ((st.map fun v => v.category).sum) 8 = true) (hdd : d' + 1 ≤ d) (hm : mc' ≤ mc) (hs : ms' ≤ ms) (hnl : av.length ≤ z_nL mj) (k : z_W G d' mc' ms' mj 0 (z_L0 mj av) [] h (z_K2 G d (mc - mc') (ms - ms') mi pc nx L st Q)) : z_W G d mc ms mi pc L stk h Q := by
  obtain ⟨hd, rfl⟩ := z_dn (n := 3) hr rfl (by decide)
  have hlk := z_lkOf hr
  have hlk2 : (z_is j (.methodLink (z_y mi).cls idx (z_y mj)) && decide (parseMethodDescriptor (z_y mj).desc ≠ none) && decide (z_nps (z_y mj).desc = n) && decide (z_pl mj 3 = 1) && !(z_hh mj).isEmpty) = true := hlk
  simp only [Bool.and_eq_true, decide_eq_true_eq] at hlk2
  obtain ⟨⟨⟨⟨w1, w2⟩, w3⟩, w4⟩, w5⟩ := hlk2
  obtain ⟨o1, o2, o3, o4, o5, o6, o7, o8⟩ := z_okWOf hw
  rw [if_pos w4] at o4
  subst hstk
  intro p e R s m args below meth c H locs cells slots MC MS ls C r hS hL hR
  have ecw : z_cw mj = .codeWith (z_y mj) (z_b mj) (z_nL mj) (z_rt mj) (z_hh mj) := by
    unfold z_cw
    rw [if_neg]
    intro q
    rw [q] at w5
    cases w5
  have hts := C.2.2.2.2.2.1
  have hcm : Cond.codeWith (z_y mj) (z_b mj) (z_nL mj) (z_rt mj) (z_hh mj) ∈ z_gw := by rw [← ecw]; exact z_gwOf o1 o2
  refine z_fromRun C r hm hs hS hL (vx_runSX (hh := z_hh mj) (bytes := z_b mj) (maxL := z_nL mj) (ret := z_rt mj) (ws := z_cw mj :: z_gw) (n := n) (Ts := z_gw) (As := av.map (z_v G)) ⟨C.1, C.2.1, C.2.2.1, C.2.2.2.2.1, hts⟩ (z_met C.2.2.2.2.2.2.2.2.2.2.2 o5 hcat hnl k) ⟨⟨rfl, rfl, ?_, ?_, pay_in hts (z_good hw), by rw [ecw]; exact List.mem_cons_self⟩, hts _ hcm, hts _ o3, ⟨o6, o7⟩, fun sig hg => ?_, hts _ (z_gwOf (z_isOf w1) rfl), hts _ o4⟩ (z_preS C.2.2.2.2.2.2.2.2.2.1 C.2.2.2.2.2.2.2.2.2.2.1 hS hR) rfl (by simpa using hav) hL.1 ?_ (lv_room (z_stL hst)) hd ⟨by omega, by omega⟩)
  · show d' + 1 ≤ _; omega
  · show 8 + (z_nL mj + 11) + (60 * d' + 200) ≤ _; omega
  · have h2 := z_desc w2 w3
    rw [hg] at h2
    exact (Option.some.inj h2).symm
  · simp [List.map_append, List.map_reverse]
theorem z_callSN {idx mj n j d' mc' ms' : Nat} {av stk : List Value} (hr : z_at mi pc = some (.invokestatic idx, nx, [4, mj, n, j])) (hw : z_okW mj = true) (hstk : stk = av.reverse ++ st) (hav : av.length = n) (hcat : (av.all fun v => v.category == 1) = true) (hst : Nat.ble ((st.map fun v => v.category).sum) 8 = true) (hdd : d' + 1 ≤ d) (hm : mc' ≤ mc) (hs : ms' ≤ ms) (hnl : av.length ≤ z_nL mj) (k : z_W G d' mc' ms' mj 0 (z_L0 mj av) [] h (z_K2 G d (mc - mc') (ms - ms') mi pc nx L st Q)) : z_W G d mc ms mi pc L stk h Q := by
  obtain ⟨hd, rfl⟩ := z_dn (n := 3) hr rfl (by decide)
  have hlk := z_lkOf hr
  have hlk2 : (z_isMN j (z_y mi).cls idx (z_y mj) && decide (parseMethodDescriptor (z_y mj).desc ≠ none) && decide (z_nps (z_y mj).desc = n) && decide (z_pl mj 3 = 1) && (z_hh mj).isEmpty) = true := hlk
  simp only [Bool.and_eq_true, decide_eq_true_eq] at hlk2
  obtain ⟨⟨⟨⟨w1, w2⟩, w3⟩, w4⟩, w5⟩ := hlk2
  obtain ⟨o1, o2, o3, o4, o5, o6, o7, o8⟩ := z_okWOf hw
  obtain ⟨host, hwd⟩ := z_mnOf w1
  rw [if_pos w4] at o4
  subst hstk
  intro p e R s m args below meth c H locs cells slots MC MS ls C r hS hL hR
  have ecw : z_cw mj = .code (z_y mj) (z_b mj) (z_nL mj) (z_rt mj) := by unfold z_cw; rw [if_pos w5]
  have hts := C.2.2.2.2.2.1
  refine z_fromRun C r hm hs hS hL (vx_runSN (Ts := z_gw) (As := av.map (z_v G)) ⟨C.1, C.2.1, C.2.2.1, C.2.2.2.2.1, hts⟩ (z_met C.2.2.2.2.2.2.2.2.2.2.2 o5 hcat hnl k) ⟨va_cnB n hts (z_good hw) (by rw [ecw]) rfl rfl ((C.2.2.2.2.2.2.2.2.2.1).2.2.2.2.2.2.1 _ hwd rfl) (hts _ o3) ⟨o6, o7, z_desc w2 w3⟩ ⟨?_, ?_⟩, hts _ o4, trivial⟩ (z_preS C.2.2.2.2.2.2.2.2.2.1 C.2.2.2.2.2.2.2.2.2.2.1 hS hR) rfl (by simpa using hav) hL.1 ?_ (lv_room (z_stL hst)) hd ⟨by omega, by omega⟩)
  · show d' + 1 ≤ _; omega
  · show 8 + (z_nL mj + 11) + (60 * d' + 200) ≤ _; omega
  · simp [List.map_append, List.map_reverse]
theorem z_callI {idx mj n j d' mc' ms' : Nat} {av stk : List Value} {a : Nat} (hr : z_at mi pc = some (.invokespecial idx, nx, [2, mj, n, j])) (hw : z_okW mj = true) (hstk : stk = av.reverse ++ .ref a :: st) (hav : av.length = n) (hcat : (av.all fun v => v.category == 1) = true) (hst : Nat.ble ((st.map fun v => v.category).sum) 8 = true) (hdd : d' + 1 ≤ d) (hm : mc' ≤ mc) (hs : ms' ≤ ms) (hnl : av.length + 1 ≤ z_nL mj) (k : z_W G d' mc' ms' mj 0 (z_L0 mj (.ref a :: av)) [] h (z_K2 G d (mc - mc') (ms - ms') mi pc nx L st Q)) : z_W G d mc ms mi pc L stk h Q := by
  obtain ⟨hd, rfl⟩ := z_dn (n := 3) hr rfl (by decide)
  have hlk := z_lkOf hr
  have hlk2 : (z_is j (.methodLink (z_y mi).cls idx (z_y mj)) && decide (parseMethodDescriptor (z_y mj).desc ≠ none) && decide (z_nps (z_y mj).desc = n) && decide (z_pl mj 3 = 0) && (z_hh mj).isEmpty && decide ((z_y mj).name = "<init>") && decide (z_rt mj = none)) = true := hlk
  simp only [Bool.and_eq_true, decide_eq_true_eq] at hlk2
  obtain ⟨⟨⟨⟨⟨⟨w1, w2⟩, w3⟩, w4⟩, w5⟩, w6⟩, w7⟩ := hlk2
  obtain ⟨o1, o2, o3, o4, o5, o6, o7, o8⟩ := z_okWOf hw
  rw [if_neg (by omega)] at o4
  subst hstk
  intro p e R s m args below meth c H locs cells slots MC MS ls C r hS hL hR
  have ecw : z_cw mj = .code (z_y mj) (z_b mj) (z_nL mj) none := by unfold z_cw; rw [if_pos w5, w7]
  have hts := C.2.2.2.2.2.1
  have hc2 : ((Value.ref a :: av).all fun v => v.category == 1) = true := by simpa [Value.category] using hcat
  refine z_fromRun C r hm hs hS hL (vx_runI (Ts := z_gw) (b := z_ad G a) (As := av.map (z_v G)) ⟨C.1, C.2.1, C.2.2.1, C.2.2.2.2.1, hts⟩ (z_met (av := .ref a :: av) C.2.2.2.2.2.2.2.2.2.2.2 o5 hc2 hnl k) ⟨callB_of n hts (z_good hw) (by rw [ecw]) rfl rfl (hts _ o3) (hts _ (z_gwOf (z_isOf w1) rfl)) ⟨o6, o7, z_desc w2 w3⟩ ⟨?_, ?_⟩, w6, hts _ o4⟩ (z_preS (av := .ref a :: av) C.2.2.2.2.2.2.2.2.2.1 C.2.2.2.2.2.2.2.2.2.2.1 hS hR) rfl (by simpa using hav) hL.1 ?_ (lv_room (z_stL hst)) hd ⟨by omega, by omega⟩)
  · show d' + 1 ≤ _; omega
  · show 8 + (z_nL mj + 11) + (60 * d' + 200) ≤ _; omega
  · simp [List.map_append, List.map_reverse, z_v]
theorem z_callIN {idx mj n j d' mc' ms' : Nat} {av stk : List Value} {a : Nat} (hr : z_at mi pc = some (.invokespecial idx, nx, [3, mj, n, j])) (hw : z_okW mj = true) (hstk : stk = av.reverse ++ .ref a :: st) (hav : av.length = n) (hcat : (av.all fun v => v.category == 1) = true) (hst : Nat.ble ((st.map fun v => v.category).sum) 8 = true) (hdd : d' + 1 ≤ d) (hm : mc' ≤ mc) (hs : ms' ≤ ms) (hnl : av.length + 1 ≤ z_nL mj) (k : z_W G d' mc' ms' mj 0 (z_L0 mj (.ref a :: av)) [] h (z_K2 G d (mc - mc') (ms - ms') mi pc nx L st Q)) : z_W G d mc ms mi pc L stk h Q := by
  obtain ⟨hd, rfl⟩ := z_dn (n := 3) hr rfl (by decide)
  have hlk := z_lkOf hr
  have hlk2 : (z_isMN j (z_y mi).cls idx (z_y mj) && decide (parseMethodDescriptor (z_y mj).desc ≠ none) && decide (z_nps (z_y mj).desc = n) && decide (z_pl mj 3 = 0) && (z_hh mj).isEmpty && decide ((z_y mj).name = "<init>") && decide (z_rt mj = none)) = true := hlk
  simp only [Bool.and_eq_true, decide_eq_true_eq] at hlk2
  obtain ⟨⟨⟨⟨⟨⟨w1, w2⟩, w3⟩, w4⟩, w5⟩, w6⟩, w7⟩ := hlk2
  obtain ⟨o1, o2, o3, o4, o5, o6, o7, o8⟩ := z_okWOf hw
  obtain ⟨host, hwd⟩ := z_mnOf w1
  rw [if_neg (by omega)] at o4
  subst hstk
  intro p e R s m args below meth c H locs cells slots MC MS ls C r hS hL hR
  have ecw : z_cw mj = .code (z_y mj) (z_b mj) (z_nL mj) none := by unfold z_cw; rw [if_pos w5, w7]
  have hts := C.2.2.2.2.2.1
  have hc2 : ((Value.ref a :: av).all fun v => v.category == 1) = true := by simpa [Value.category] using hcat
  refine z_fromRun C r hm hs hS hL (vx_runIN (Ts := z_gw) (b := z_ad G a) (As := av.map (z_v G)) ⟨C.1, C.2.1, C.2.2.1, C.2.2.2.2.1, hts⟩ (z_met (av := .ref a :: av) C.2.2.2.2.2.2.2.2.2.2.2 o5 hc2 hnl k) ⟨va_cnB n hts (z_good hw) (by rw [ecw]) rfl rfl ((C.2.2.2.2.2.2.2.2.2.1).2.2.2.2.2.2.1 _ hwd rfl) (hts _ o3) ⟨o6, o7, z_desc w2 w3⟩ ⟨?_, ?_⟩, w6, hts _ o4⟩ (z_preS (av := .ref a :: av) C.2.2.2.2.2.2.2.2.2.1 C.2.2.2.2.2.2.2.2.2.2.1 hS hR) rfl (by simpa using hav) hL.1 ?_ (lv_room (z_stL hst)) hd ⟨by omega, by omega⟩)
  · show d' + 1 ≤ _; omega
  · show 8 + (z_nL mj + 11) + (60 * d' + 200) ≤ _; omega
  · simp [List.map_append, List.map_reverse, z_v]
theorem z_callV {idx mj n j d' mc' ms' : Nat} {av stk : List Value} {a ci : Nat} {fs : List Value} (hr : z_at mi pc = some (.invokevirtual idx, nx, [0, mj, n, j])) (hw : z_okW mj = true) (hrc : h.2 a = some (.inr (ci, fs))) (hcn : (z_cl[ci]?.map fun q => q.1) = some (z_y mj).cls) (hstk : stk = av.reverse ++ .ref a :: st) (hav : av.length = n) (hcat : (av.all fun v => v.category == 1) = true) (hst : Nat.ble ((st.map fun v => v.category).sum) 8 = true) (hdd : d' + 1 ≤ d) (hm : mc' ≤ mc) (hs : ms' ≤ ms) (hnl : av.length + 1 ≤ z_nL mj) (k : z_W G d' mc' ms' mj 0 (z_L0 mj (.ref a :: av)) [] h (z_K2 G d (mc - mc') (ms - ms') mi pc nx L st Q)) : z_W G d mc ms mi pc L stk h Q := by
  obtain ⟨hd, rfl⟩ := z_dn (n := 3) hr rfl (by decide)
  have hlk := z_lkOf hr
  have hlk2 : (z_is j (.methodLink (z_y mi).cls idx (z_y mj)) && decide (parseMethodDescriptor (z_y mj).desc ≠ none) && decide (z_nps (z_y mj).desc = n) && decide (z_pl mj 3 = 0) && (z_hh mj).isEmpty && z_is (z_pl mj 4) (.selects (z_y mj).cls (z_y mj) (z_y mj))) = true := hlk
  simp only [Bool.and_eq_true, decide_eq_true_eq] at hlk2
  obtain ⟨⟨⟨⟨⟨w1, w2⟩, w3⟩, w4⟩, w5⟩, w6⟩ := hlk2
  obtain ⟨o1, o2, o3, o4, o5, o6, o7, o8⟩ := z_okWOf hw
  rw [if_neg (by omega)] at o4
  subst hstk
  obtain ⟨q0, hq0, hqc⟩ := Option.map_eq_some_iff.mp hcn
  intro p e R s m args below meth c H locs cells slots MC MS ls C r hS hL hR
  have ecw : z_cw mj = .code (z_y mj) (z_b mj) (z_nL mj) (z_rt mj) := by unfold z_cw; rw [if_pos w5]
  have hts := C.2.2.2.2.2.1
  have hc2 : ((Value.ref a :: av).all fun v => v.category == 1) = true := by simpa [Value.category] using hcat
  have hpre := z_preS (av := .ref a :: av) C.2.2.2.2.2.2.2.2.2.1 C.2.2.2.2.2.2.2.2.2.2.1 hS hR
  have hrec := va_recv (C.2.2.2.2.2.2.2.2.2.1).1 (hR.one hrc) (ci := ci) (q0 := 0) hq0 rfl
  refine z_fromRun C r hm hs hS hL (vx_runV (Ts := z_gw) (C := (z_y mj).cls) (b := z_ad G a) (As := av.map (z_v G)) ⟨C.1, C.2.1, C.2.2.1, C.2.2.2.2.1, hts⟩ (z_met (av := .ref a :: av) C.2.2.2.2.2.2.2.2.2.2.2 o5 hc2 hnl k) ⟨callB_of n hts (z_good hw) (by rw [ecw]) rfl rfl (hts _ o3) (hts _ (z_gwOf (z_isOf w1) rfl)) ⟨o6, o7, z_desc w2 w3⟩ ⟨?_, ?_⟩, hts _ o4, hts _ (z_gwOf (z_isOf w6) rfl)⟩ ⟨hpre.1, by rw [hqc] at hrec; exact hrec, hpre.2⟩ rfl (by simpa using hav) hL.1 ?_ (lv_room (z_stL hst)) hd ⟨by omega, by omega⟩)
  · show d' + 1 ≤ _; omega
  · show 8 + (z_nL mj + 11) + (60 * d' + 200) ≤ _; omega
  · simp [List.map_append, List.map_reverse, z_v]
theorem z_objInit {idx n j a : Nat} (hr : z_at mi pc = some (.invokespecial idx, nx, [7, 0, n, j])) (hst : Nat.ble ((st.map fun v => v.category).sum) 8 = true) (hdd : 1 ≤ d) (k : z_W G d mc ms mi nx L st h Q) : z_W G d mc ms mi pc L (.ref a :: st) h Q := by
  obtain ⟨hd, rfl⟩ := z_dn (n := 3) hr rfl (by decide)
  have hlk2 : z_is j (.methodLink (z_y mi).cls idx Lib.objectInit) = true := z_lkOf hr
  intro p e R s m args below meth c H locs cells slots MC MS ls C r hS hL hR
  have hts := C.2.2.2.2.2.1
  have hsl := z_stL (G := G) hst
  exact W.objInit C.1 C.2.1 C.2.2.2.2.1 (hts _ (z_gwOf (z_isOf hlk2) rfl)) (hts _ (z_gwOf z_oi1 rfl)) (hts _ (z_gwOf z_oi2 rfl)) rfl (by rw [C.2.2.1]; exact hL.1) rfl hd (by omega) (by show 2 * 0 + _ + 12 ≤ _; omega) (k p e R s m args below meth c H locs cells slots MC MS ls C r hS hL hR)
/-- not caught -/
theorem z_Xout {E : String} (hh : z_hh mi = []) (q : Q (.inr E) h) : z_X G d mc ms mi pc L E h Q := by
  intro p e R s m args below meth c H locs cells slots MC MS ls rest q9 ce C r hS hL hR hce hcv hcl
  refine vx_out (fun x hx => ?_) C.2.2.2.2.2.2.1 hce hcv hcl (fun t ht hW => ⟨⟨h, q, by rw [ht]; exact hR⟩, hS.F ht⟩) hS.2.2 (by omega) (by omega)
  rw [C.2.2.2.2.2.2.2.2.1, hh] at hx
  cases hx
theorem z_prDrop {nL i : Nat} {v : Value} {ls : Array Slot} (hp : ∀ u, L[i - 1]? = some u → u.category = 1 ∨ i = 0) (h1 : lv_has ls nL ((i, v) :: (z_pr G L).filter (fun q => !(q.1 == i) && !(q.1 + 1 == i && q.2.category == 2)))) : z_Lo G nL ls (L.set i (.retAddr 0)) := by
  refine ⟨h1.1, h1.2.1, fun j u hj hu => ?_⟩
  by_cases e : j = i
  · subst e
    have hlt : j < (L.set j (Value.retAddr 0)).length := (List.getElem?_eq_some_iff.mp hj).1
    rw [List.length_set] at hlt
    rw [List.getElem?_set_self hlt] at hj
    cases hj
    exact absurd rfl hu
  · rw [List.getElem?_set_ne (Ne.symm e)] at hj
    refine h1.2.2 (j, z_v G u) (List.mem_cons_of_mem _ (List.mem_filter.mpr ⟨z_prIn.mpr ⟨u, hj, hu, rfl⟩, ?_⟩))
    have e1 : (j == i) = false := by simpa using e
    simp only [e1, Bool.not_false, Bool.true_and, Bool.not_eq_true', Bool.and_eq_false_iff, z_v_cat]
    by_cases e2 : j + 1 = i
    · right
      have := hp u (by rw [← e2]; simpa using hj)
      rcases this with h9 | h9
      · rw [h9]; rfl
      · omega
    · left
      simpa using e2
/-- caught by the first row of the table, or past one that names another class; the handler keeps the thing in a variable and asks it nothing -/
theorem z_catch {E nm : String} {pre suf : List (Nat × Nat × Nat × Nat)} {a b hp ct : Nat} {q : Nat} {i9 : Instr} (hsplit : z_hh mi = pre ++ (a, b, hp, ct) :: suf) (hpre : ∀ z ∈ pre, z.2.2.2 ≠ 0 ∧ ∃ nm2 : String, Cond.classLink (z_y mi).cls z.2.2.2 nm2 ∈ z_gw ∧ (E, nm2) ∈ z_ncl) (hcov : a ≤ pc ∧ pc < b) (h0 : ct ≠ 0) (hlink : Cond.classLink (z_y mi).cls ct nm ∈ z_gw) (hcast : Cond.castable E nm ∈ lw_tbl) (hr : z_at mi hp = some (i9, nx, info)) (hi9 : i9 = .astore q ∨ ∃ k : Fin 4, i9 = .astore_n k ∧ (k : Nat) = q) (hq : q < z_nL mi) (hpv0 : z_okp L q = true) (k : z_W G d mc ms mi nx (L.set q (.retAddr 0)) [] h Q) : z_X G d mc ms mi pc L E h Q := by
  intro p e R s m args below meth c H locs cells slots MC MS ls rest q9 ce C r hS hL hR hce hcv hcl
  have hpv := z_okpOf hpv0
  have hts := C.2.2.2.2.2.1
  have hK := C.2.2.2.2.2.2.2.2.2.1
  refine vx_catch C.2.2.2.2.1 (tableOf pre) ⟨a, b, hp, ct⟩ (tableOf suf) (by rw [C.2.2.2.2.2.2.2.2.1, hsplit]; simp [tableOf]) (fun z hz => ?_) ?_ h0 (hts _ hlink) (va_Nw.use rfl (hK.2.2.2.2.2.2.1 _ hcast rfl)) hce hcv hcl ?_
  · obtain ⟨z0, hz0, rfl⟩ := List.mem_map.mp hz
    obtain ⟨g1, nm2, g2, g3⟩ := hpre z0 hz0
    exact Or.inr ⟨g1, nm2, hts _ g2, hK.2.2.2.2.2.2.2.2.2.2.1 _ g3⟩
  · simp [covers, hcov.1, hcov.2]
  · rcases hi9 with rfl | ⟨k9, rfl, rfl⟩
    · obtain ⟨hd, rfl⟩ := z_dn (n := 2) hr rfl (by decide)
      exact lv_astore C.1 C.2.1 hd (z_prHas hL) hq rfl (fun ls2 hl2 => k p e R s m args below meth c H locs cells slots MC MS ls2 C r hS (z_prDrop hpv hl2) hR)
    · obtain ⟨hd, rfl⟩ := z_dn (n := 1) hr rfl (by decide)
      exact lv_astore_n C.1 C.2.1 hd rfl (z_prHas hL) hq rfl (fun ls2 hl2 => k p e R s m args below meth c H locs cells slots MC MS ls2 C r hS (z_prDrop hpv hl2) hR)
/-- throw new E("text") -/
theorem z_throw {ik is ic f n1 n2 n3 n4 n5 : Nat} {i1 i2 i3 i4 : List Nat} {cls text : String} (hr : z_at mi pc = some (.new ik, n5, [1, f])) (h3 : z_at mi (pc + 3) = some (.dup, n1, i1)) (h4 : z_at mi (pc + 4) = some (.ldc is, n2, i2)) (h6 : z_at mi (pc + 6) = some (.invokespecial ic, n3, i3)) (h9 : z_at mi (pc + 9) = some (.athrow, n4, i4)) (hx : z_ex[f]? = some (cls, ik, is, ic, text, false)) (hh : z_hh mi = []) (hdd : 6 ≤ d) (hm : 1 ≤ mc) (hs : 6 ≤ ms) (hst : Nat.ble ((st.map fun v => v.category).sum) 8 = true) (how : (z_y mi).cls = "ClockParliament") (hne : cls ≠ "java/util/NoSuchElementException") (q : ∀ n, h.1 ≤ n → Q (.inr cls) (n, h.2)) : z_W G d mc ms mi pc L st h Q := by
  obtain ⟨hd, -⟩ := z_dn (n := 3) hr rfl (by decide)
  obtain ⟨hd3, -⟩ := z_dn (n := 1) h3 rfl (by decide)
  obtain ⟨hd4, -⟩ := z_dn (n := 2) h4 rfl (by decide)
  obtain ⟨hd6, -⟩ := z_dn (n := 3) h6 rfl (by decide)
  obtain ⟨hd9, -⟩ := z_dn (n := 1) h9 rfl (by decide)
  intro p e R s m args below meth c H locs cells slots MC MS ls C r hS hL hR
  have hts := C.2.2.2.2.2.1
  have hK := C.2.2.2.2.2.2.2.2.2.1
  obtain ⟨f1, f2, f3, f4⟩ := z_exOk hx hne
  obtain ⟨sa, hsa⟩ := hK.2.2.2.2.2.2.2.1 _ (List.mem_of_getElem? hx)
  have hsl := z_stL (G := G) hst
  have hwd : ∀ w, w ∈ lw_tbl → (goodWord w = true ∨ z_nw w = true) → w.before args s = true := by
    intro w hw1 hw2
    rcases hw2 with hg | hg
    · exact hts _ (z_gwOf hw1 hg)
    · exact va_Nw.use (by cases w <;> first | (simp [z_nw] at hg; done) | rfl) (hK.2.2.2.2.2.2.1 _ hw1 hg)
  have hot : ∀ w, (goodWord w = true ∨ z_nw w = true) → vx_ot w = true := by
    intro w hw2
    rcases hw2 with hg | hg
    · unfold vx_ot; rw [hg]; simp
    · unfold vx_ot
      cases w <;> first | (simp [z_nw] at hg; done) | rfl
  refine vx_throwS (own := "ClockParliament") (cls := cls) (text := text) (names := ["java/lang/RuntimeException", "java/lang/Exception"]) (ik := ik) (is := is) (ic := ic) (sa := sa) (A := z_A G) C.1 C.2.1 C.2.2.2.2.2.2.2.2.2.2.2 (by rw [← how]; exact C.2.2.2.2.1) f4 (by decide) (hwd _ f1.1 (Or.inl f1.2)) (hwd _ f2.1 (Or.inl f2.2)) hsa (fun w hw => hwd w (f3 w hw).1 (f3 w hw).2) ?_ hK.2.2.2.2.2.2.2.2.1 hK.2.2.2.2.2.2.2.2.2.1 hS (by rw [C.2.2.1]; exact hL.1) hd hd3 hd4 hd6 hd9 ?_ (by show 2 + 3 < _; omega) (by show _ + (13 * (2 + 1) + 43) ≤ _; omega) (by omega) (by omega) C.2.2.2.2.2.2.1 ?_ hS.2.2 (by omega) (by omega)
  · intro w hw
    rcases List.mem_cons.mp hw with rfl | hw
    · exact hot _ (Or.inl f1.2)
    · rcases List.mem_cons.mp hw with rfl | hw
      · exact hot _ (Or.inl f2.2)
      · exact hot _ (f3 w hw).2
  · intro x hx9
    rw [C.2.2.2.2.2.2.2.2.1, hh] at hx9
    cases hx9
  · intro t hal hz hsame
    have hsz : G.2.1 ≤ H.size := by rw [hR.1]; omega
    refine ⟨⟨(t.heap.size - G.2.1, h.2), q _ (by rw [hR.1] at hz; omega), by show t.heap.size = G.2.1 + (t.heap.size - G.2.1); omega, fun k c0 hk => ?_⟩, Nat.le_trans hS.1 hz, fun q9 g1 g2 => (hsame q9 (Nat.lt_of_lt_of_le g1 hS.1)).trans (hS.2.1 q9 g1 g2)⟩
    obtain ⟨k1, k2, k3⟩ := hR.2 k c0 hk
    refine ⟨k1, by show k < 1000 + (t.heap.size - G.2.1); rw [hR.1] at hz; omega, k3.kept (hsame _ k3.lt)⟩
/-- throw new E("text") -/
theorem z_throwW {ik is ic f n1 n2 n3 n4 n5 : Nat} {i1 i2 i3 i4 : List Nat} {cls text : String} (hr : z_at mi pc = some (.new ik, n5, [1, f])) (h3 : z_at mi (pc + 3) = some (.dup, n1, i1)) (h4 : z_at mi (pc + 4) = some (.ldc_w is, n2, i2)) (h6 : z_at mi (pc + 7) = some (.invokespecial ic, n3, i3)) (h9 : z_at mi (pc + 10) = some (.athrow, n4, i4)) (hx : z_ex[f]? = some (cls, ik, is, ic, text, true)) (hh : z_hh mi = []) (hdd : 6 ≤ d) (hm : 1 ≤ mc) (hs : 6 ≤ ms) (hst : Nat.ble ((st.map fun v => v.category).sum) 8 = true) (how : (z_y mi).cls = "ClockParliament") (hne : cls ≠ "java/util/NoSuchElementException") (q : ∀ n, h.1 ≤ n → Q (.inr cls) (n, h.2)) : z_W G d mc ms mi pc L st h Q := by
  obtain ⟨hd, -⟩ := z_dn (n := 3) hr rfl (by decide)
  obtain ⟨hd3, -⟩ := z_dn (n := 1) h3 rfl (by decide)
  obtain ⟨hd4, -⟩ := z_dn (n := 3) h4 rfl (by decide)
  obtain ⟨hd6, -⟩ := z_dn (n := 3) h6 rfl (by decide)
  obtain ⟨hd9, -⟩ := z_dn (n := 1) h9 rfl (by decide)
  intro p e R s m args below meth c H locs cells slots MC MS ls C r hS hL hR
  have hts := C.2.2.2.2.2.1
  have hK := C.2.2.2.2.2.2.2.2.2.1
  obtain ⟨f1, f2, f3, f4⟩ := z_exOk hx hne
  obtain ⟨sa, hsa⟩ := hK.2.2.2.2.2.2.2.1 _ (List.mem_of_getElem? hx)
  have hsl := z_stL (G := G) hst
  have hwd : ∀ w, w ∈ lw_tbl → (goodWord w = true ∨ z_nw w = true) → w.before args s = true := by
    intro w hw1 hw2
    rcases hw2 with hg | hg
    · exact hts _ (z_gwOf hw1 hg)
    · exact va_Nw.use (by cases w <;> first | (simp [z_nw] at hg; done) | rfl) (hK.2.2.2.2.2.2.1 _ hw1 hg)
  have hot : ∀ w, (goodWord w = true ∨ z_nw w = true) → vx_ot w = true := by
    intro w hw2
    rcases hw2 with hg | hg
    · unfold vx_ot; rw [hg]; simp
    · unfold vx_ot
      cases w <;> first | (simp [z_nw] at hg; done) | rfl
  refine vx_throwSW (own := "ClockParliament") (cls := cls) (text := text) (names := ["java/lang/RuntimeException", "java/lang/Exception"]) (ik := ik) (is := is) (ic := ic) (sa := sa) (A := z_A G) C.1 C.2.1 C.2.2.2.2.2.2.2.2.2.2.2 (by rw [← how]; exact C.2.2.2.2.1) f4 (by decide) (hwd _ f1.1 (Or.inl f1.2)) (hwd _ f2.1 (Or.inl f2.2)) hsa (fun w hw => hwd w (f3 w hw).1 (f3 w hw).2) ?_ hK.2.2.2.2.2.2.2.2.1 hK.2.2.2.2.2.2.2.2.2.1 hS (by rw [C.2.2.1]; exact hL.1) hd hd3 hd4 hd6 hd9 ?_ (by show 2 + 3 < _; omega) (by show _ + (13 * (2 + 1) + 43) ≤ _; omega) (by omega) (by omega) C.2.2.2.2.2.2.1 ?_ hS.2.2 (by omega) (by omega)
  · intro w hw
    rcases List.mem_cons.mp hw with rfl | hw
    · exact hot _ (Or.inl f1.2)
    · rcases List.mem_cons.mp hw with rfl | hw
      · exact hot _ (Or.inl f2.2)
      · exact hot _ (f3 w hw).2
  · intro x hx9
    rw [C.2.2.2.2.2.2.2.2.1, hh] at hx9
    cases hx9
  · intro t hal hz hsame
    have hsz : G.2.1 ≤ H.size := by rw [hR.1]; omega
    refine ⟨⟨(t.heap.size - G.2.1, h.2), q _ (by rw [hR.1] at hz; omega), by show t.heap.size = G.2.1 + (t.heap.size - G.2.1); omega, fun k c0 hk => ?_⟩, Nat.le_trans hS.1 hz, fun q9 g1 g2 => (hsame q9 (Nat.lt_of_lt_of_le g1 hS.1)).trans (hS.2.1 q9 g1 g2)⟩
    obtain ⟨k1, k2, k3⟩ := hR.2 k c0 hk
    refine ⟨k1, by show k < 1000 + (t.heap.size - G.2.1); rw [hR.1] at hz; omega, k3.kept (hsame _ k3.lt)⟩
theorem z_W.mono {d' mc' ms' : Nat} (k : z_W G d mc ms mi pc L st h Q) (h1 : d ≤ d') (h2 : mc ≤ mc') (h3 : ms ≤ ms') : z_W G d' mc' ms' mi pc L st h Q :=
  fun p e R s m args below meth c H locs cells slots MC MS ls C r hS hL hR => k p e R s m args below meth c H locs cells slots MC MS ls C (by omega) hS hL hR
end ZC
