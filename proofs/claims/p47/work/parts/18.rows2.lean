/-! Rows: switches, calls of inherited methods. -/
section ZR2
variable {G : z_G} {d mc ms mi pc nx : Nat} {L st : List Value} {h : z_H} {Q : z_O → z_H → Prop} {info : List Nat}
theorem z_dnS {i : Instr} (hr : z_at mi pc = some (i, nx, info)) : decode (z_b mi) pc = .ok (i, nx - pc) := by
  have h := z_okAll hr
  unfold z_ok at h
  simp only [Bool.and_eq_true, decide_eq_true_eq] at h
  exact h.1.2
theorem z_tswI {dflt lo hi o : Int} {offs : Array Int} {x : Int32} {t : Nat} (hr : z_at mi pc = some (.tableswitch dflt lo hi offs, nx, info)) (h1 : ¬ x.toInt < lo) (h2 : ¬ hi < x.toInt) (ho : offs[(x.toInt - lo).toNat]? = some o) (ht : (pc : Int) + o = (t : Int)) (k : z_W G d mc ms mi t L st h Q) : z_W G d mc ms mi pc L (.int x :: st) h Q := by
  intro p e R s m args below meth c H locs cells slots MC MS ls C r hS hL hR
  exact lv_tableIn C.1 C.2.1 (z_dnS hr) h1 h2 ho ht (k p e R s m args below meth c H locs cells slots MC MS ls C r hS hL hR)
theorem z_tswO {dflt lo hi : Int} {offs : Array Int} {x : Int32} {t : Nat} (hr : z_at mi pc = some (.tableswitch dflt lo hi offs, nx, info)) (h1 : x.toInt < lo ∨ hi < x.toInt) (ht : (pc : Int) + dflt = (t : Int)) (k : z_W G d mc ms mi t L st h Q) : z_W G d mc ms mi pc L (.int x :: st) h Q := by
  intro p e R s m args below meth c H locs cells slots MC MS ls C r hS hL hR
  exact lv_tableOut C.1 C.2.1 (z_dnS hr) h1 ht (k p e R s m args below meth c H locs cells slots MC MS ls C r hS hL hR)
theorem z_lsw {dflt o : Int} {ps : Array (Int × Int)} {x : Int32} {t : Nat} (hr : z_at mi pc = some (.lookupswitch dflt ps, nx, info)) (hp : (ps.toList.zip (ps.toList.drop 1)).all (fun (a, next) => a.1 < next.1) = true) (ho : Op.lookupswitch.offset ps.toList dflt x.toInt = o) (ht : (pc : Int) + o = (t : Int)) (k : z_W G d mc ms mi t L st h Q) : z_W G d mc ms mi pc L (.int x :: st) h Q := by
  intro p e R s m args below meth c H locs cells slots MC MS ls C r hS hL hR
  exact lv_lookup C.1 C.2.1 (z_dnS hr) hp ho ht (k p e R s m args below meth c H locs cells slots MC MS ls C r hS hL hR)
theorem z_ldcw {idx j : Nat} {v : Int32} (hr : z_at mi pc = some (.ldc_w idx, nx, info)) (hj : z_is j (.constant (z_y mi).cls idx v) = true) (k : z_W G d mc ms mi nx L (.int v :: st) h Q) : z_W G d mc ms mi pc L st h Q := by
  obtain ⟨hd, rfl⟩ := z_dn (n := 3) hr rfl (by decide)
  intro p e R s m args below meth c H locs cells slots MC MS ls C r hS hL hR
  exact lv_ldcw C.1 C.2.1 C.2.2.2.2.1 (C.2.2.2.2.2.1 _ (z_gwOf (z_isOf hj) rfl)) hd (k p e R s m args below meth c H locs cells slots MC MS ls C r hS hL hR)
theorem z_ldc {idx j : Nat} {v : Int32} (hr : z_at mi pc = some (.ldc idx, nx, info)) (hj : z_is j (.constant (z_y mi).cls idx v) = true) (k : z_W G d mc ms mi nx L (.int v :: st) h Q) : z_W G d mc ms mi pc L st h Q := by
  obtain ⟨hd, rfl⟩ := z_dn (n := 2) hr rfl (by decide)
  intro p e R s m args below meth c H locs cells slots MC MS ls C r hS hL hR
  exact lv_ldc C.1 C.2.1 C.2.2.2.2.1 (C.2.2.2.2.2.1 _ (z_gwOf (z_isOf hj) rfl)) hd (k p e R s m args below meth c H locs cells slots MC MS ls C r hS hL hR)
/-- an inherited method, of a constant thing -/
theorem z_callUR {idx n j j1 j2 mj d' mc' ms' a kk : Nat} {C : String} {x : MethodName} {av stk : List Value} (hr : z_at mi pc = some (.invokevirtual idx, nx, [5, kk, n, j])) (hw : z_okW mj = true) (hrc : (a, C) ∈ z_roo) (hx : x = ⟨"ClockParliament$Kind", "ordinal", "()I"⟩) (hy : z_y mj = ⟨(z_y mj).cls, x.name, x.desc⟩) (hp5 : (z_hh mj).isEmpty = true) (hps : z_pl mj 3 ≠ 1) (hj1 : z_is j1 (.sameMethod x.cls (z_y mj).cls x.name x.desc) = true) (hj2 : z_is j2 (.selects C x (z_y mj)) = true) (hxn : (parseMethodDescriptor x.desc).map (fun d => d.parameters.length) = some av.length) (hstk : stk = av.reverse ++ .ref a :: st) (hcat : (av.all fun v => v.category == 1) = true) (hst : Nat.ble ((st.map fun v => v.category).sum) 8 = true) (hdd : d' + 1 ≤ d) (hm : mc' ≤ mc) (hs : ms' ≤ ms) (hnl : av.length + 1 ≤ z_nL mj) (k : z_W G d' mc' ms' mj 0 (z_L0 mj (.ref a :: av)) [] h (z_K2 G d (mc - mc') (ms - ms') mi pc nx L st Q)) : z_W G d mc ms mi pc L stk h Q := by
  obtain ⟨hd, rfl⟩ := z_dn (n := 3) hr rfl (by decide)
  have w1 : z_is j (.methodLink (z_y mi).cls idx ⟨"ClockParliament$Kind", "ordinal", "()I"⟩) = true := z_lkOf hr
  rw [← hx] at w1
  obtain ⟨o1, o2, o3, o4, o5, o6, o7, o8⟩ := z_okWOf hw
  rw [if_neg hps] at o4
  subst hstk
  intro p e R s m args below meth c H locs cells slots MC MS ls C0 r hS hL hR
  have ecw : z_cw mj = .code (z_y mj) (z_b mj) (z_nL mj) (z_rt mj) := by unfold z_cw; rw [if_pos hp5]
  have hts := C0.2.2.2.2.2.1
  have hc2 : ((Value.ref a :: av).all fun v => v.category == 1) = true := by simpa [Value.category] using hcat
  have hpre := z_preS (av := .ref a :: av) C0.2.2.2.2.2.2.2.2.2.1 C0.2.2.2.2.2.2.2.2.2.2.1 hS hR
  obtain ⟨cell, g1, g2, g3, -⟩ := ((C0.2.2.2.2.2.2.2.2.2.1).2.2.2.1 _ hrc).kept hS.2.1
  refine z_fromRun C0 r hm hs hS hL (vx_runU (Ts := z_gw) (C := C) (b := z_ad G a) (As := av.map (z_v G)) (owner := (z_y mj).cls) (x := x) ⟨C0.1, C0.2.1, C0.2.2.1, C0.2.2.2.2.1, hts⟩ (z_met (av := .ref a :: av) C0.2.2.2.2.2.2.2.2.2.2.2 o5 hc2 hnl k) (va_cwU (ws' := z_gw) av.length hts (fun w hwm => ?_) (by rw [ecw]) rfl rfl hy ⟨o6, o7, hxn⟩ ⟨?_, ?_⟩) ⟨hpre.1, ⟨cell, g1, g2, g3⟩, hpre.2⟩ rfl (by simp) hL.1 ?_ (lv_room (z_stL hst)) hd ⟨by omega, by omega⟩)
  · have hgw := z_good hw
    unfold va_wsU at hwm
    rcases List.mem_append.mp hwm with q | q
    · simp only [List.mem_cons, List.not_mem_nil, or_false] at q
      rcases q with rfl | rfl | rfl | rfl | rfl
      · exact ⟨z_gwOf (z_isOf w1) rfl, Or.inl rfl⟩
      · exact ⟨z_gwOf (z_isOf hj1) rfl, Or.inl rfl⟩
      · exact ⟨z_gwOf (z_isOf hj2) rfl, Or.inl rfl⟩
      · exact ⟨o4, Or.inl rfl⟩
      · exact ⟨o3, Or.inl rfl⟩
    · exact hgw w q
  · show d' + 1 ≤ _; omega
  · show 8 + (z_nL mj + 11) + (60 * d' + 200) ≤ _; omega
  · simp [List.map_append, List.map_reverse, z_v]
theorem z_ck {a b m : Nat} {c : va_E} {h h' : z_H} (hW : h.2 a = some c) (hF : z_Fr b m h h') (hd : a + 1 ≤ b ∨ b + m ≤ a) : h'.2 a = some c := (hF.2 a (by omega)).trans hW
theorem z_putC {idx ci k j a : Nat} {fs : List Value} {v : Value} (hr : z_at mi pc = some (.putfield idx, nx, [0, ci, k, j])) (hc : h.2 a = some (.inr (ci, fs))) (hl : k < fs.length) (hfin : ((z_cl[ci]?.getD ("", fun _ => ("", "", "", true), 0)).2.1 k).2.2.2 = false) (hn : narrow (z_tyAt ci k) (z_v G v) = z_v G v) (hfit : fits (z_tyAt ci k) (z_v G v) = true) (kk : ∀ h', h'.2 a = some (.inr (ci, fs.set k v)) → z_Fr a 1 h h' → z_W G d mc ms mi nx L st h' Q) : z_W G d mc ms mi pc L (v :: .ref a :: st) h Q :=
  z_put hr hc hl hfin hn hfit (kk _ (z_set_eq _ _ _) ⟨rfl, fun k hk => z_set_ne _ _ (by omega)⟩)
theorem z_putH {idx k j b : Nat} {v : z_HV} {x : Int32} (hr : z_at mi pc = some (.putfield idx, nx, [0, 3, k + 2, j])) (hH : z_Hs h b v) (hk : k < 6) (kk : ∀ h', z_Hs h' b (z_upW v k x) → z_Fr b 25 h h' → z_W G d mc ms mi nx L st h' Q) : z_W G d mc ms mi pc L (.int x :: .ref b :: st) h Q := by
  have hfin : ((z_cl[3]?.getD ("", fun _ => ("", "", "", true), 0)).2.1 (k + 2)).2.2.2 = false := by
    match k, hk with
    | 0, _ | 1, _ | 2, _ | 3, _ | 4, _ | 5, _ => rfl
  have hty : z_tyAt 3 (k + 2) = .int := by
    match k, hk with
    | 0, _ | 1, _ | 2, _ | 3, _ | 4, _ | 5, _ => rfl
  refine z_put hr hH.1 (by simp; omega) hfin (by rw [hty]; rfl) (by rw [hty]; rfl) ?_
  obtain ⟨h1, h2⟩ := hH.cnt k x rfl
  have e : [Value.ref (b + 1), .ref (b + 12), .int (v.2.2 0), .int (v.2.2 1), .int (v.2.2 2), .int (v.2.2 3), .int (v.2.2 4), .int (v.2.2 5)].set (k + 2) (.int x) = [.ref (b + 1), .ref (b + 12), .int ((z_upW v k x).2.2 0), .int ((z_upW v k x).2.2 1), .int ((z_upW v k x).2.2 2), .int ((z_upW v k x).2.2 3), .int ((z_upW v k x).2.2 4), .int ((z_upW v k x).2.2 5)] := by
    match k, hk with
    | 0, _ | 1, _ | 2, _ | 3, _ | 4, _ | 5, _ => rfl
  rw [e]
  exact kk _ h1 h2
theorem z_b01 (P : Prop) [Decidable P] : (if P then (1 : Int32) else 0) = 0 ∨ (if P then (1 : Int32) else 0) = 1 := by
  by_cases h : P
  · exact Or.inr (if_pos h)
  · exact Or.inl (if_neg h)
theorem z_i0 {P : Prop} [Decidable P] (h : (if P then (1 : Int32) else 0) = 0) : ¬ P := fun q => by rw [if_pos q] at h; exact absurd h (by decide)
theorem z_i1 {P : Prop} [Decidable P] (h : (if P then (1 : Int32) else 0) = 1) : P := by
  by_cases q : P
  · exact q
  · rw [if_neg q] at h; exact absurd h (by decide)
theorem z_bT {b : Bool} (h : (if b = true then (1 : Int32) else 0) = 1) : ¬ b = false := by cases b <;> simp_all
theorem z_bF {b : Bool} (h : (if b = true then (1 : Int32) else 0) = 1) : b = true := by cases b <;> simp_all
end ZR2
