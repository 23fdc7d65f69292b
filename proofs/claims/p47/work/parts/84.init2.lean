/-! Rows for an array of houses; a thing made, built and laid into a field; the constructors of lists, houses, of what is past. -/
theorem z_hw1 : Cond.classLink "ClockParliament$History" 9 "ClockParliament$House" ∈ lw_tbl := z_isOf (j := 1182) (by decide +kernel)
theorem z_new_eq (h : z_H) (c : va_E) : (z_new h c).2 (1000 + h.1) = some c := if_pos rfl
theorem z_new_ne (h : z_H) {j : Nat} (c : va_E) (hn : j ≠ 1000 + h.1) : (z_new h c).2 j = h.2 j := if_neg hn
section ZAr
variable {G : z_G} {d mc ms mi pc nx : Nat} {L st : List Value} {h : z_H} {Q : z_O → z_H → Prop} {info : List Nat}
theorem z_anew {mc2 ms2 N : Nat} {n : Int32} (hr : z_at mi pc = some (.anewarray 9, nx, info)) (how : (z_y mi).cls = "ClockParliament$History") (hn : ¬ n < 0) (hN : n.toNatClampNeg = N) (hb : N ≤ 1000000) (hm : mc2 + 1 ≤ mc) (hs2 : ms2 + N ≤ ms) (kk : z_W G d mc2 ms2 mi nx L (.ref (1000 + h.1) :: st) (z_new h (.inl (5, N, .inr (.inr (.inr (.inr (fun _ => none))))))) Q) : z_W G d mc ms mi pc L (.int n :: st) h Q := by
  obtain ⟨hd, rfl⟩ := z_dn (n := 3) hr rfl (by decide)
  subst hN
  intro p e R s m args below meth c H locs cells slots MC MS ls C r hS hL hR
  have hts := C.2.2.2.2.2.1
  have hK := (C.2.2.2.2.2.2.2.2.2.1).1
  refine W.anew C.1 C.2.1 (own := "ClockParliament$History") (C := "ClockParliament$House") (by have hx := C.2.2.2.2.1; rw [how] at hx; exact hx) (hts _ (z_gwOf z_hw1 rfl)) (va_AO.use (C.2.2.2.2.2.2.2.2.2.1).2.2.2.2.2.2.2.2.2.2.2.2.1) rfl hd rfl hn (Nat.le_trans (Nat.mul_le_mul_right 4 hb) (Nat.le_of_ble_eq_true rfl)) (by omega) (by omega) fun cA kA comp f1 f2 f3 f4 => ?_
  have hcA : cA = G.2.2.2.2.1 5 := by
    obtain ⟨k1, k2, k3, k4, k5, k6⟩ := (hK.2 5 _ rfl).2
    exact Option.some.inj (f1.symm.trans k6)
  generalize hH1 : H.push ({ cls := cA, slots := Array.replicate n.toNatClampNeg .null, vm := .none } : Cell) = H1
  have z1 : H1.size = H.size + 1 := by rw [← hH1, Array.size_push]
  have e1 : H1[H.size]? = some (arrV cA n.toNatClampNeg (fun _ => .null)) := by rw [← hH1, Array.getElem?_push_size, ← arrV_new]
  have o1 : ∀ q : Nat, q < H.size → H1[q]? = H[q]? := fun q hq => by rw [← hH1, Array.getElem?_push, if_neg (Nat.ne_of_lt hq)]
  have hR1 : z_R G (z_new h (.inl (5, n.toNatClampNeg, .inr (.inr (.inr (.inr (fun _ => none))))))) H1 := by
    refine hR.new z1 o1 ?_
    show H1[H.size]? = some (vp_cell (G.2.2.2.2.1 5) (n.toNatClampNeg, .inr (.inr (.inr (.inr (fun j => (none : Option Nat).map (z_ad G)))))))
    rw [e1, hcA]
    rfl
  have hS1 : va_S (z_A G) s.heap H1 locs := ⟨Nat.le_trans hS.1 (by omega), fun x h1 h2 => (o1 x (Nat.lt_of_lt_of_le h1 hS.1)).trans (hS.2.1 x h1 h2), hS.2.2⟩
  have w := kk p e R s m args below meth c H1 locs (cells + 1) (slots + n.toNatClampNeg) MC MS ls C (by omega) hS1 hL hR1
  rw [List.map_cons, show z_v G (.ref (1000 + h.1)) = .ref H.size by show Value.ref _ = _; rw [hR.adNew]] at w
  exact w
theorem z_aast {a n v : Nat} {vs : List Value} {f : Nat → Option Nat} {i : Int32} (hr : z_at mi pc = some (.aastore, nx, info)) (hc : h.2 a = some (.inl (5, n, .inr (.inr (.inr (.inr f)))))) (hv : h.2 v = some (.inr (3, vs))) (hi : vp_in i n) (kk : z_W G d mc ms mi nx L st (z_set h a (.inl (5, n, .inr (.inr (.inr (.inr (va_up f i.toNatClampNeg (some v)))))))) Q) : z_W G d mc ms mi pc L (.ref v :: .int i :: .ref a :: st) h Q := by
  obtain ⟨hd, rfl⟩ := z_dn (n := 1) hr rfl (by decide)
  intro p e R s m args below meth c H locs cells slots MC MS ls C r hS hL hR
  obtain ⟨a1, a2, hat⟩ := hR.2 a _ hc
  obtain ⟨b1, b2, hbt⟩ := hR.2 v _ hv
  have hK := (C.2.2.2.2.2.2.2.2.2.1).1
  have hlt : i.toNatClampNeg < n := Nat.not_le.mp fun q => hi (Or.inr q)
  have h0 : ¬ i < 0 := fun q => hi (Or.inl q)
  obtain ⟨r', hr', cellV, g1, g2, g3, -⟩ := hbt
  have hcls := (hK.1 3 r' hr').2
  have e3 : r'.1 = "ClockParliament$House" := by
    have hx : (z_cl[3]?.map fun q => q.1) = some "ClockParliament$House" := rfl
    have hr2 : z_cl[3]? = some r' := hr'
    rw [hr2] at hx
    exact Option.some.inj hx
  obtain ⟨kA, comp, k1, k2, k3, -⟩ := (hK.2 5 _ rfl).2
  have hcomp : comp = G.2.2.2.1.1 3 := by
    have hx := hcls.1
    rw [e3] at hx
    exact Option.some.inj (k3.symm.trans hx)
  subst hcomp
  obtain ⟨kC, hkC, -⟩ := hcls.2
  refine W.aast C.1 C.2.1 hat (fun q h => by cases h) (fun h => by cases h) k1 k2 rfl hkC ⟨h0, by show _ < (arrV _ _ _).slots.size; rw [arrV_size]; exact hlt⟩ g1 (fun q h => by rw [g3] at h; cases h) (by rw [g2]; exact hkC) (by rw [g2]; exact va_assign hcls) rfl rfl hd fun H1 e z oq => ?_
  refine kk p _ R s m args below meth c H1 _ cells slots MC MS ls C r (hS.put z oq (z_adA a1)) hL (hR.set hc z oq ?_)
  show H1[z_ad G a]? = some (vp_cell _ _)
  rw [e]
  show some (Cell.setSlot (vp_cell (G.2.2.2.2.1 5) (n, .inr (.inr (.inr (.inr (fun j => (f j).map (z_ad G))))))) _ _) = some (vp_cell (G.2.2.2.2.1 5) (n, .inr (.inr (.inr (.inr (fun j => (va_up f i.toNatClampNeg (some v) j).map (z_ad G)))))))
  rw [vp_cell_q, vp_cell_q, arrV_store]
  congr 2
  funext q
  by_cases hq : q = i.toNatClampNeg
  · subst hq
    simp [updV, va_up, va_rf]
  · simp [updV, va_up, hq]
/-- a thing made, built, and laid into a field of this -/
theorem z_mk {idx ic cn j1 j2 j3 j4 mj kd ci k p1 p2 p3 p4 p5 n na dC mcC msC mc2 ms2 a b : Nat} {i1 i3 : List Nat} {av fs : List Value} {P : z_H → Prop}
    (r1 : z_at mi pc = some (.aload_n 0, p1, i1)) (r2 : z_at mi p1 = some (.new idx, p2, [0, cn, j1, j2, j3])) (r3 : z_at mi p2 = some (.dup, p3, i3)) (r4 : z_at mi p4 = some (.invokespecial ic, p5, [kd, mj, na, j4])) (hkd : kd = 2 ∨ kd = 3) (hw : z_okW mj = true)
    (hL : L[0]? = some (.ref a)) (hc : h.2 a = some (.inr (ci, fs))) (hab : a < b) (hb : b = 1000 + h.1) (hna : av.length = na) (hav : (av.all fun v => v.category == 1) = true) (hd : dC + 1 ≤ d) (hm : mc2 + (1 + mcC) ≤ mc) (hs : ms2 + ((z_dfl cn).length + msC) ≤ ms) (hnl : av.length + 1 ≤ z_nL mj)
    (push : ∀ {mc ms : Nat} {st : List Value} {h : z_H} {Q : z_O → z_H → Prop}, z_W G d mc ms mi p4 L (av.reverse ++ st) h Q → z_W G d mc ms mi p3 L st h Q)
    (K : ∀ (h1 : z_H) (Q' : z_O → z_H → Prop), h1.2 b = some (.inr (cn, z_dfl cn)) → b + 1 = 1000 + h1.1 → (∀ h' : z_H, P h' → 1000 + h'.1 = b + n → (∀ j, j < b → h'.2 j = h1.2 j) → Q' (.inl none) h') → z_W G dC mcC msC mj 0 (z_L0 mj (.ref b :: av)) [] h1 Q')
    (put : ∀ {h : z_H} {Q : z_O → z_H → Prop}, h.2 a = some (.inr (ci, fs)) → z_W G d mc2 ms2 mi nx L [] (z_set h a (.inr (ci, fs.set k (.ref b)))) Q → z_W G d mc2 ms2 mi p5 L [.ref b, .ref a] h Q)
    (hP : ∀ h h' : z_H, P h → h'.1 = h.1 → (∀ j, b ≤ j → j < b + n → h'.2 j = h.2 j) → P h')
    (kk : ∀ h' : z_H, P h' → h'.2 a = some (.inr (ci, fs.set k (.ref b))) → 1000 + h'.1 = b + n → (∀ j, j ≠ a → j < b → h'.2 j = h.2 j) → z_W G d mc2 ms2 mi nx L [] h' Q) : z_W G d mc ms mi pc L [] h Q := by
  subst hb
  refine z_aload_n r1 hL ?_
  refine z_newO (mc2 := mc - 1) (ms2 := ms - (z_dfl cn).length) r2 (by omega) (by omega) ?_
  refine z_dup r3 rfl ?_
  refine push ?_
  have hQ : ∀ h' : z_H, P h' → 1000 + h'.1 = 1000 + h.1 + n → (∀ j, j < 1000 + h.1 → h'.2 j = (z_new h (.inr (cn, z_dfl cn))).2 j) → z_K2 G d (mc - 1 - mcC) (ms - (z_dfl cn).length - msC) mi p4 p5 L [.ref (1000 + h.1), .ref a] Q (.inl none) h' := by
    intro h' hp e1 f1
    show z_W G d (mc - 1 - mcC) (ms - (z_dfl cn).length - msC) mi p5 L [.ref (1000 + h.1), .ref a] h' Q
    refine z_W.mono (mc := mc2) (ms := ms2) ?_ (Nat.le_refl _) (by omega) (by omega)
    refine put ((f1 _ hab).trans ((z_new_ne _ _ (by omega)).trans hc)) ?_
    exact kk _ (hP _ _ hp rfl fun j h1 _ => z_set_ne _ _ (by omega)) (z_set_eq _ _ _) e1 (fun j h1 h2 => (z_set_ne _ _ h1).trans ((f1 _ h2).trans (z_new_ne _ _ (by omega))))
  have hcall := K (z_new h (.inr (cn, z_dfl cn))) _ (z_new_eq _ _) (Nat.add_assoc 1000 h.1 1) hQ
  rcases hkd with rfl | rfl
  · exact z_callI (av := av) r4 hw rfl hna hav rfl hd (by omega) (by omega) hnl hcall
  · exact z_callIN (av := av) r4 hw rfl hna hav rfl hd (by omega) (by omega) hnl hcall
/-- a list made and laid into a field -/
theorem z_mkN {idx ic c j1 j2 j3 j4 ci k p1 p2 p3 p4 p5 mc2 ms2 a b : Nat} {i1 i3 : List Nat} {fs : List Value}
    (r1 : z_at mi pc = some (.aload_n 0, p1, i1)) (r2 : z_at mi p1 = some (.new idx, p2, [0, 4, j1, j2, j3])) (r3 : z_at mi p2 = some (.dup, p3, i3)) (r4 : z_at mi p4 = some (.invokespecial ic, p5, [2, 0, 1, j4])) (hcap : c ≤ 1000)
    (hL : L[0]? = some (.ref a)) (hc : h.2 a = some (.inr (ci, fs))) (hab : a < b) (hb : b = 1000 + h.1) (hd : 2 ≤ d) (hm : mc2 + 2 ≤ mc) (hs : ms2 + (2 + c) ≤ ms)
    (push : ∀ {mc ms : Nat} {st : List Value} {h : z_H} {Q : z_O → z_H → Prop}, z_W G d mc ms mi p4 L (.int (nI c) :: st) h Q → z_W G d mc ms mi p3 L st h Q)
    (put : ∀ {h : z_H} {Q : z_O → z_H → Prop}, h.2 a = some (.inr (ci, fs)) → z_W G d mc2 ms2 mi nx L [] (z_set h a (.inr (ci, fs.set k (.ref b)))) Q → z_W G d mc2 ms2 mi p5 L [.ref b, .ref a] h Q)
    (kk : ∀ h' : z_H, z_Num h' b c 0 (fun _ => 0) → h'.2 a = some (.inr (ci, fs.set k (.ref b))) → 1000 + h'.1 = b + 2 → (∀ j, j ≠ a → j < b → h'.2 j = h.2 j) → z_W G d mc2 ms2 mi nx L [] h' Q) : z_W G d mc ms mi pc L [] h Q :=
  z_mk (n := 2) (mcC := 1) (msC := c) (dC := 1) (av := [.int (nI c)]) (P := fun h' => z_Num h' b c 0 (fun _ => 0)) r1 r2 r3 r4 (Or.inl rfl) z_w0 hL hc hab hb rfl rfl (by omega) (by omega) (by show ms2 + (2 + c) ≤ ms; exact hs) (show 2 ≤ z_nL 0 by decide +kernel) push
    (fun h1 Q' ha hl q => c_Num_init hcap ha hl fun h' e1 hN f => q h' hN (by omega) fun j hj => f j (by omega) (by omega))
    put (fun h h' x _ f => ⟨(f _ (by omega) (by omega)).trans x.1, (f _ (by omega) (by omega)).trans x.2.1, x.2.2⟩) kk
end ZAr
def z_xb0 : z_LV := (fun _ => 0, fun _ _ => 0)
def z_xc0 : z_LV := (fun j => if j = 4 then 3 else 0, fun j _ => if j = 4 then -1 else 0)
def z_v0 : z_HV := (z_xc0, z_xb0, fun _ => 0)
theorem z_Num.keptX {h h' : z_H} {a cap n : Nat} {f : Nat → Int32} (x : z_Num h a cap n f) (g : ∀ j, a ≤ j → j < a + 2 → h'.2 j = h.2 j) : z_Num h' a cap n f := ⟨(g _ (by omega) (by omega)).trans x.1, (g _ (by omega) (by omega)).trans x.2.1, x.2.2⟩
section ZIn2
variable {G : z_G} {h : z_H} {Q : z_O → z_H → Prop} {a : Nat}
theorem c_initCl (hc : h.2 a = some (.inr (1, z_dfl 1))) (hl : a + 1 = 1000 + h.1) (q : ∀ h' : z_H, z_Cl h' a z_xc0 → 1000 + h'.1 = a + 11 → (∀ j, j < a → h'.2 j = h.2 j) → Q (.inl none) h') : z_W G 2 10 45 26 0 (z_L0 26 [.ref a]) [] h Q := by
  refine z_aload_n rfl rfl ?_
  refine z_objInit rfl rfl (by decide) ?_
  have hcq : h.2 a = some (.inr (1, [.null, .null, .null, .null, .null])) := hc
  refine z_mkN (c := 8) (k := 0) (mc2 := 8) (ms2 := 35) (b := a + 1 + 2 * 0) rfl rfl rfl rfl (by decide) rfl hcq (by omega) (by omega) (by decide) (Nat.le_of_ble_eq_true rfl) (Nat.le_of_ble_eq_true rfl) (fun w => z_bipush (v := nI 8) rfl (by decide) w) (fun u w => z_putF rfl u (by simp) rfl rfl rfl rfl rfl w) (fun h0 n0 hc0 e0 f0 => ?_)
  refine z_mkN (c := 8) (k := 1) (mc2 := 6) (ms2 := 25) (b := a + 1 + 2 * 1) rfl rfl rfl rfl (by decide) rfl hc0 (by omega) (by omega) (by decide) (Nat.le_of_ble_eq_true rfl) (Nat.le_of_ble_eq_true rfl) (fun w => z_bipush (v := nI 8) rfl (by decide) w) (fun u w => z_putF rfl u (by simp) rfl rfl rfl rfl rfl w) (fun h1 n1 hc1 e1 f1 => ?_)
  refine z_mkN (c := 8) (k := 2) (mc2 := 4) (ms2 := 15) (b := a + 1 + 2 * 2) rfl rfl rfl rfl (by decide) rfl hc1 (by omega) (by omega) (by decide) (Nat.le_of_ble_eq_true rfl) (Nat.le_of_ble_eq_true rfl) (fun w => z_bipush (v := nI 8) rfl (by decide) w) (fun u w => z_putF rfl u (by simp) rfl rfl rfl rfl rfl w) (fun h2 n2 hc2 e2 f2 => ?_)
  refine z_mkN (c := 8) (k := 3) (mc2 := 2) (ms2 := 5) (b := a + 1 + 2 * 3) rfl rfl rfl rfl (by decide) rfl hc2 (by omega) (by omega) (by decide) (Nat.le_of_ble_eq_true rfl) (Nat.le_of_ble_eq_true rfl) (fun w => z_bipush (v := nI 8) rfl (by decide) w) (fun u w => z_putF rfl u (by simp) rfl rfl rfl rfl rfl w) (fun h3 n3 hc3 e3 f3 => ?_)
  refine z_mkN (c := 3) (k := 4) (mc2 := 0) (ms2 := 0) (b := a + 1 + 2 * 4) rfl rfl rfl rfl (by decide) rfl hc3 (by omega) (by omega) (by decide) (Nat.le_of_ble_eq_true rfl) (Nat.le_of_ble_eq_true rfl) (fun w => z_iconst (v := nI 3) rfl (by decide) w) (fun u w => z_putF rfl u (by simp) rfl rfl rfl rfl rfl w) (fun h4 n4 hc4 e4 f4 => ?_)
  have m0 := ((((n0.keptX fun i u1 u2 => f1 i (by omega) (by omega)).keptX fun i u1 u2 => f2 i (by omega) (by omega)).keptX fun i u1 u2 => f3 i (by omega) (by omega)).keptX fun i u1 u2 => f4 i (by omega) (by omega))
  have m1 := (((n1.keptX fun i u1 u2 => f2 i (by omega) (by omega)).keptX fun i u1 u2 => f3 i (by omega) (by omega)).keptX fun i u1 u2 => f4 i (by omega) (by omega))
  have m2 := ((n2.keptX fun i u1 u2 => f3 i (by omega) (by omega)).keptX fun i u1 u2 => f4 i (by omega) (by omega))
  have m3 := (n3.keptX fun i u1 u2 => f4 i (by omega) (by omega))
  have m4 := n4
  have fb : ∀ j, j < a → h4.2 j = h.2 j := fun j hj => (f4 j (by omega) (by omega)).trans ((f3 j (by omega) (by omega)).trans ((f2 j (by omega) (by omega)).trans ((f1 j (by omega) (by omega)).trans (f0 j (by omega) (by omega)))))
  have hC : z_Cl h4 a z_xb0 := ⟨hc4, fun j hj => by
    match j, hj with
    | 0, _ => exact m0.ns (fun _ u => absurd u (by omega))
    | 1, _ => exact m1.ns (fun _ u => absurd u (by omega))
    | 2, _ => exact m2.ns (fun _ u => absurd u (by omega))
    | 3, _ => exact m3.ns (fun _ u => absurd u (by omega))
    | 4, _ => exact m4.ns (fun _ u => absurd u (by omega))
    | j + 5, hj => omega⟩
  refine z_iconst (v := 0) rfl (by decide) ?_
  refine z_istore_n rfl (by decide +kernel) rfl ?_
  refine z_iload_n rfl rfl ?_
  refine z_iconst (v := 3) rfl (by decide) ?_
  refine z_icmp_ge rfl (fun u => absurd u (by decide)) (fun _ => ?_)
  refine z_aload_n rfl rfl ?_
  refine z_get rfl hC.1 rfl ?_
  refine z_iconst (v := -1) rfl (by decide) ?_
  refine z_callV (av := [_]) rfl z_w7 (hC.2 4 (by decide)).1 rfl rfl rfl rfl rfl (Nat.le_of_ble_eq_true rfl) (Nat.le_of_ble_eq_true rfl) (Nat.le_of_ble_eq_true rfl) (Nat.le_of_ble_eq_true rfl) (z_Li.add hC (j := 4) (by decide) (by decide) (fun g0 hD0 hF0 => ?_))
  refine z_iinc rfl rfl (by decide +kernel) rfl ?_
  refine z_goto rfl ?_
  refine z_iload_n rfl rfl ?_
  refine z_iconst (v := 3) rfl (by decide) ?_
  refine z_icmp_ge rfl (fun u => absurd u (by decide)) (fun _ => ?_)
  refine z_aload_n rfl rfl ?_
  refine z_get rfl hD0.1 rfl ?_
  refine z_iconst (v := -1) rfl (by decide) ?_
  refine z_callV (av := [_]) rfl z_w7 (hD0.2 4 (by decide)).1 rfl rfl rfl rfl rfl (Nat.le_of_ble_eq_true rfl) (Nat.le_of_ble_eq_true rfl) (Nat.le_of_ble_eq_true rfl) (Nat.le_of_ble_eq_true rfl) (z_Li.add hD0 (j := 4) (by decide) (by decide) (fun g1 hD1 hF1 => ?_))
  refine z_iinc rfl rfl (by decide +kernel) rfl ?_
  refine z_goto rfl ?_
  refine z_iload_n rfl rfl ?_
  refine z_iconst (v := 3) rfl (by decide) ?_
  refine z_icmp_ge rfl (fun u => absurd u (by decide)) (fun _ => ?_)
  refine z_aload_n rfl rfl ?_
  refine z_get rfl hD1.1 rfl ?_
  refine z_iconst (v := -1) rfl (by decide) ?_
  refine z_callV (av := [_]) rfl z_w7 (hD1.2 4 (by decide)).1 rfl rfl rfl rfl rfl (Nat.le_of_ble_eq_true rfl) (Nat.le_of_ble_eq_true rfl) (Nat.le_of_ble_eq_true rfl) (Nat.le_of_ble_eq_true rfl) (z_Li.add hD1 (j := 4) (by decide) (by decide) (fun g2 hD2 hF2 => ?_))
  refine z_iinc rfl rfl (by decide +kernel) rfl ?_
  refine z_goto rfl ?_
  refine z_iload_n rfl rfl ?_
  refine z_iconst (v := 3) rfl (by decide) ?_
  refine z_icmp_ge rfl (fun _ => ?_) (fun u => absurd (by decide) u)
  refine z_vret rfl rfl ?_
  refine q _ (hD2.eqv fun j hj => ?_) ?_ fun j hj => ?_
  · match j, hj with
    | 0, _ => exact ⟨rfl, fun i u => absurd u (Nat.not_lt_zero i)⟩
    | 1, _ => exact ⟨rfl, fun i u => absurd u (Nat.not_lt_zero i)⟩
    | 2, _ => exact ⟨rfl, fun i u => absurd u (Nat.not_lt_zero i)⟩
    | 3, _ => exact ⟨rfl, fun i u => absurd u (Nat.not_lt_zero i)⟩
    | 4, _ =>
      refine ⟨rfl, fun i u => ?_⟩
      match i, u with
      | 0, _ => rfl
      | 1, _ => rfl
      | 2, _ => rfl
      | i + 3, u => exact absurd u (by show ¬ i + 3 < 3; omega)
    | j + 5, hj => omega
  · rw [hF2.1, hF1.1, hF0.1]; omega
  · exact (hF2.2 j (by omega)).trans ((hF1.2 j (by omega)).trans ((hF0.2 j (by omega)).trans (fb j hj)))
theorem c_initBi (hc : h.2 a = some (.inr (0, z_dfl 0))) (hl : a + 1 = 1000 + h.1) (q : ∀ h' : z_H, z_Bi h' a z_xb0 → 1000 + h'.1 = a + 13 → (∀ j, j < a → h'.2 j = h.2 j) → Q (.inl none) h') : z_W G 2 12 72 50 0 (z_L0 50 [.ref a]) [] h Q := by
  refine z_aload_n rfl rfl ?_
  refine z_objInit rfl rfl (by decide) ?_
  have hcq : h.2 a = some (.inr (0, [.null, .null, .null, .null, .null, .null])) := hc
  refine z_mkN (c := 10) (k := 0) (mc2 := 10) (ms2 := 60) (b := a + 1 + 2 * 0) rfl rfl rfl rfl (by decide) rfl hcq (by omega) (by omega) (by decide) (Nat.le_of_ble_eq_true rfl) (Nat.le_of_ble_eq_true rfl) (fun w => z_bipush (v := nI 10) rfl (by decide) w) (fun u w => z_putF rfl u (by simp) rfl rfl rfl rfl rfl w) (fun h0 n0 hc0 e0 f0 => ?_)
  refine z_mkN (c := 10) (k := 1) (mc2 := 8) (ms2 := 48) (b := a + 1 + 2 * 1) rfl rfl rfl rfl (by decide) rfl hc0 (by omega) (by omega) (by decide) (Nat.le_of_ble_eq_true rfl) (Nat.le_of_ble_eq_true rfl) (fun w => z_bipush (v := nI 10) rfl (by decide) w) (fun u w => z_putF rfl u (by simp) rfl rfl rfl rfl rfl w) (fun h1 n1 hc1 e1 f1 => ?_)
  refine z_mkN (c := 10) (k := 2) (mc2 := 6) (ms2 := 36) (b := a + 1 + 2 * 2) rfl rfl rfl rfl (by decide) rfl hc1 (by omega) (by omega) (by decide) (Nat.le_of_ble_eq_true rfl) (Nat.le_of_ble_eq_true rfl) (fun w => z_bipush (v := nI 10) rfl (by decide) w) (fun u w => z_putF rfl u (by simp) rfl rfl rfl rfl rfl w) (fun h2 n2 hc2 e2 f2 => ?_)
  refine z_mkN (c := 10) (k := 3) (mc2 := 4) (ms2 := 24) (b := a + 1 + 2 * 3) rfl rfl rfl rfl (by decide) rfl hc2 (by omega) (by omega) (by decide) (Nat.le_of_ble_eq_true rfl) (Nat.le_of_ble_eq_true rfl) (fun w => z_bipush (v := nI 10) rfl (by decide) w) (fun u w => z_putF rfl u (by simp) rfl rfl rfl rfl rfl w) (fun h3 n3 hc3 e3 f3 => ?_)
  refine z_mkN (c := 10) (k := 4) (mc2 := 2) (ms2 := 12) (b := a + 1 + 2 * 4) rfl rfl rfl rfl (by decide) rfl hc3 (by omega) (by omega) (by decide) (Nat.le_of_ble_eq_true rfl) (Nat.le_of_ble_eq_true rfl) (fun w => z_bipush (v := nI 10) rfl (by decide) w) (fun u w => z_putF rfl u (by simp) rfl rfl rfl rfl rfl w) (fun h4 n4 hc4 e4 f4 => ?_)
  refine z_mkN (c := 10) (k := 5) (mc2 := 0) (ms2 := 0) (b := a + 1 + 2 * 5) rfl rfl rfl rfl (by decide) rfl hc4 (by omega) (by omega) (by decide) (Nat.le_of_ble_eq_true rfl) (Nat.le_of_ble_eq_true rfl) (fun w => z_bipush (v := nI 10) rfl (by decide) w) (fun u w => z_putF rfl u (by simp) rfl rfl rfl rfl rfl w) (fun h5 n5 hc5 e5 f5 => ?_)
  have m0 := (((((n0.keptX fun i u1 u2 => f1 i (by omega) (by omega)).keptX fun i u1 u2 => f2 i (by omega) (by omega)).keptX fun i u1 u2 => f3 i (by omega) (by omega)).keptX fun i u1 u2 => f4 i (by omega) (by omega)).keptX fun i u1 u2 => f5 i (by omega) (by omega))
  have m1 := ((((n1.keptX fun i u1 u2 => f2 i (by omega) (by omega)).keptX fun i u1 u2 => f3 i (by omega) (by omega)).keptX fun i u1 u2 => f4 i (by omega) (by omega)).keptX fun i u1 u2 => f5 i (by omega) (by omega))
  have m2 := (((n2.keptX fun i u1 u2 => f3 i (by omega) (by omega)).keptX fun i u1 u2 => f4 i (by omega) (by omega)).keptX fun i u1 u2 => f5 i (by omega) (by omega))
  have m3 := ((n3.keptX fun i u1 u2 => f4 i (by omega) (by omega)).keptX fun i u1 u2 => f5 i (by omega) (by omega))
  have m4 := (n4.keptX fun i u1 u2 => f5 i (by omega) (by omega))
  have m5 := n5
  have fb : ∀ j, j < a → h5.2 j = h.2 j := fun j hj => (f5 j (by omega) (by omega)).trans ((f4 j (by omega) (by omega)).trans ((f3 j (by omega) (by omega)).trans ((f2 j (by omega) (by omega)).trans ((f1 j (by omega) (by omega)).trans (f0 j (by omega) (by omega))))))
  refine z_vret rfl rfl ?_
  refine q _ ⟨hc5, fun j hj => ?_⟩ (by omega) fb
  match j, hj with
  | 0, _ => exact m0.ns (fun _ u => absurd u (by omega))
  | 1, _ => exact m1.ns (fun _ u => absurd u (by omega))
  | 2, _ => exact m2.ns (fun _ u => absurd u (by omega))
  | 3, _ => exact m3.ns (fun _ u => absurd u (by omega))
  | 4, _ => exact m4.ns (fun _ u => absurd u (by omega))
  | 5, _ => exact m5.ns (fun _ u => absurd u (by omega))
  | j + 6, hj => omega
theorem z_Li.keptX {ci k a : Nat} {cap : Nat → Nat} {fs : List Value} {h h' : z_H} {x : z_LV} (hL : z_Li ci k cap fs h a x) (g : ∀ j, a ≤ j → j < a + (2 * k + 1) → h'.2 j = h.2 j) : z_Li ci k cap fs h' a x := ⟨(g _ (by omega) (by omega)).trans hL.1, fun j hj => (hL.2 j hj).kept (g _ (by omega) (by omega)) (g _ (by omega) (by omega))⟩
theorem c_initHs (hc : h.2 a = some (.inr (3, z_dfl 3))) (hl : a + 1 = 1000 + h.1) (q : ∀ h' : z_H, z_Hs h' a z_v0 → 1000 + h'.1 = a + 25 → (∀ j, j < a → h'.2 j = h.2 j) → Q (.inl none) h') : z_W G 3 24 128 64 0 (z_L0 64 [.ref a]) [] h Q := by
  have hcq : h.2 a = some (.inr (3, [.null, .null, .int 0, .int 0, .int 0, .int 0, .int 0, .int 0])) := hc
  refine z_aload_n rfl rfl ?_
  refine z_objInit rfl rfl (by decide) ?_
  refine z_mk (n := 11) (k := 0) (mc2 := 13) (ms2 := 78) (mcC := 10) (msC := 45) (dC := 2) (av := []) (b := a + 1) (P := fun h' => z_Cl h' (a + 1) z_xc0) rfl rfl rfl rfl (Or.inl rfl) z_w26 rfl hcq (by omega) (by omega) rfl rfl (by decide) (Nat.le_of_ble_eq_true rfl) (Nat.le_of_ble_eq_true rfl) (by decide +kernel) (fun w => w)
    (fun h1 Q' ha hl q => c_initCl ha hl fun h' x e1 f => q h' x (by omega) f) (fun u w => z_putF rfl u (by simp) rfl rfl rfl rfl rfl w) (fun h h' x _ f => x.keptX fun j u1 u2 => f j (by omega) (by omega)) (fun h0 n0 hc0 e0 f0 => ?_)
  refine z_mk (n := 13) (k := 1) (mc2 := 0) (ms2 := 0) (mcC := 12) (msC := 72) (dC := 2) (av := []) (b := a + 12) (P := fun h' => z_Bi h' (a + 12) z_xb0) rfl rfl rfl rfl (Or.inr rfl) z_w50 rfl hc0 (by omega) (by omega) rfl rfl (by decide) (Nat.le_of_ble_eq_true rfl) (Nat.le_of_ble_eq_true rfl) (by decide +kernel) (fun w => w)
    (fun h1 Q' ha hl q => c_initBi ha hl fun h' x e1 f => q h' x (by omega) f) (fun u w => z_putF rfl u (by simp) rfl rfl rfl rfl rfl w) (fun h h' x _ f => x.keptX fun j u1 u2 => f j (by omega) (by omega)) (fun h1 n1 hc1 e1 f1 => ?_)
  have m0 : z_Cl h1 (a + 1) z_xc0 := n0.keptX fun j u1 u2 => f1 j (by omega) (by omega)
  have hc1' : h1.2 a = some (.inr (3, [.ref (a + 1), .ref (a + 12), .int 0, .int 0, .int 0, .int 0, .int 0, .int 0])) := hc1
  have es : ∀ (k : Nat) (hk : 2 ≤ k ∧ k ≤ 7), z_set h1 a (.inr (3, ([.ref (a + 1), .ref (a + 12), .int 0, .int 0, .int 0, .int 0, .int 0, .int 0] : List Value).set k (.int 0))) = h1 := by
    intro k hk
    have e : ([.ref (a + 1), .ref (a + 12), .int 0, .int 0, .int 0, .int 0, .int 0, .int 0] : List Value).set k (.int 0) = [.ref (a + 1), .ref (a + 12), .int 0, .int 0, .int 0, .int 0, .int 0, .int 0] := by
      rcases (by omega : k = 2 ∨ k = 3 ∨ k = 4 ∨ k = 5 ∨ k = 6 ∨ k = 7) with rfl | rfl | rfl | rfl | rfl | rfl <;> rfl
    rw [e]
    exact z_set_self hc1'
  refine z_aload_n rfl rfl ?_
  refine z_iconst (v := 0) rfl (by decide) ?_
  refine z_put rfl hc1' (by simp) rfl rfl rfl ?_
  rw [es 2 (by decide)]
  refine z_aload_n rfl rfl ?_
  refine z_iconst (v := 0) rfl (by decide) ?_
  refine z_put rfl hc1' (by simp) rfl rfl rfl ?_
  rw [es 3 (by decide)]
  refine z_aload_n rfl rfl ?_
  refine z_iconst (v := 0) rfl (by decide) ?_
  refine z_put rfl hc1' (by simp) rfl rfl rfl ?_
  rw [es 4 (by decide)]
  refine z_aload_n rfl rfl ?_
  refine z_iconst (v := 0) rfl (by decide) ?_
  refine z_put rfl hc1' (by simp) rfl rfl rfl ?_
  rw [es 5 (by decide)]
  refine z_aload_n rfl rfl ?_
  refine z_iconst (v := 0) rfl (by decide) ?_
  refine z_put rfl hc1' (by simp) rfl rfl rfl ?_
  rw [es 6 (by decide)]
  refine z_aload_n rfl rfl ?_
  refine z_iconst (v := 0) rfl (by decide) ?_
  refine z_put rfl hc1' (by simp) rfl rfl rfl ?_
  rw [es 7 (by decide)]
  refine z_vret rfl rfl ?_
  exact q _ ⟨hc1', m0, n1⟩ (by omega) fun j hj => (f1 j (by omega) (by omega)).trans (f0 j (by omega) (by omega))
theorem c_initHyL {f : Nat → Option Nat} : ∀ (k i : Nat) (h : z_H) (f : Nat → Option Nat), i + k = 8 → h.2 a = some (.inr (2, [.ref (a + 1), .int 0, .int 0])) → h.2 (a + 1) = some (.inl (5, 8, .inr (.inr (.inr (.inr f))))) → (∀ j, j < i → f j = some (a + 2 + 25 * j)) → (∀ j, j < i → z_Hs h (a + 2 + 25 * j) z_v0) → a + 2 + 25 * i = 1000 + h.1 →
    (∀ (h' : z_H) (f' : Nat → Option Nat), h'.2 a = some (.inr (2, [.ref (a + 1), .int 0, .int 0])) → h'.2 (a + 1) = some (.inl (5, 8, .inr (.inr (.inr (.inr f'))))) → (∀ j, j < 8 → f' j = some (a + 2 + 25 * j)) → (∀ j, j < 8 → z_Hs h' (a + 2 + 25 * j) z_v0) → a + 202 = 1000 + h'.1 → (∀ j, j < a → h'.2 j = h.2 j) → Q (.inl none) h') →
    z_W G 4 (25 * k) (136 * k) 84 25 [.ref a, .int (nI i)] [] h Q := by
  intro k
  induction k with
  | zero =>
    intro i h f hi hc hA hf hH hl q
    refine z_iload_n rfl rfl ?_
    refine z_aload_n rfl rfl ?_
    refine z_get rfl hc rfl ?_
    refine z_alen rfl hA (by decide) ?_
    refine z_icmp_ge rfl (fun _ => ?_) (fun u => absurd (by rw [show i = 8 by omega]; decide) u)
    refine z_vret rfl rfl ?_
    exact q _ f hc hA (fun j hj => hf j (by omega)) (fun j hj => hH j (by omega)) (by omega) (fun _ _ => rfl)
  | succ k ih =>
    intro i h f hi hc hA hf hH hl q
    refine z_iload_n rfl rfl ?_
    refine z_aload_n rfl rfl ?_
    refine z_get rfl hc rfl ?_
    refine z_alen rfl hA (by decide) ?_
    refine z_icmp_ge rfl (fun u => absurd u (nI_ge (show i < 8 by omega) (by decide))) (fun _ => ?_)
    refine z_aload_n rfl rfl ?_
    refine z_get rfl hc rfl ?_
    refine z_iload_n rfl rfl ?_
    refine z_newO (mc2 := 25 * k + 24) (ms2 := 136 * k + 128) rfl (by omega) (by show 136 * k + 128 + 8 ≤ 136 * (k + 1); omega) ?_
    refine z_dup rfl rfl ?_
    refine z_callIN (av := []) (mc' := 24) (ms' := 128) rfl z_w64 rfl rfl rfl rfl (Nat.le_of_ble_eq_true rfl) (by omega) (by omega) (by decide +kernel) (c_initHs (z_new_eq _ _) (Nat.add_assoc 1000 h.1 1) fun h1 x1 e1 f1 => ?_)
    have g1 : ∀ j, j < 1000 + h.1 → h1.2 j = h.2 j := fun j hj => (f1 j hj).trans (z_new_ne _ _ (by omega))
    show z_W G 4 (25 * k + 24 - 24) (136 * k + 128 - 128) 84 46 [.ref a, .int (nI i)] [.ref (1000 + h.1), .int (nI i), .ref (a + 1)] h1 Q
    rw [Nat.add_sub_cancel, Nat.add_sub_cancel]
    refine z_aast rfl ((g1 _ (by omega)).trans hA) x1.1 (nI_in (by omega) (by decide)) ?_
    rw [nI_clamp (by omega)]
    refine z_iinc1 rfl rfl (by decide +kernel) rfl ?_
    refine z_goto rfl ?_
    refine ih (i + 1) _ (va_up f i (some (1000 + h.1))) (by omega) ((z_set_ne _ _ (by omega)).trans ((g1 _ (by omega)).trans hc)) (z_set_eq _ _ _) (fun j hj => ?_) (fun j hj => ?_) (by show a + 2 + 25 * (i + 1) = 1000 + h1.1; omega) (fun h' f' y1 y2 y3 y4 y5 y6 => q h' f' y1 y2 y3 y4 y5 fun j hj => (y6 j hj).trans ((z_set_ne _ _ (by omega)).trans (g1 _ (by omega))))
    · by_cases e : j = i
      · subst e; rw [va_up_self, hl]
      · rw [va_up_ne _ _ e]; exact hf j (by omega)
    · by_cases e : j = i
      · subst e; rw [hl]; exact x1.keptX fun j u1 u2 => z_set_ne _ _ (by omega)
      · exact ((hH j (by omega)).keptX (h' := h1) fun j' u1 u2 => g1 _ (by omega)).keptX fun j' u1 u2 => z_set_ne _ _ (by omega)
theorem c_initHy (hc : h.2 a = some (.inr (2, z_dfl 2))) (hl : a + 1 = 1000 + h.1) (q : ∀ h' : z_H, (∀ H, z_Hy h' a 0 H) → 1000 + h'.1 = a + 202 → (∀ j, j < a → h'.2 j = h.2 j) → Q (.inl none) h') : z_W G 4 201 1096 84 0 (z_L0 84 [.ref a]) [] h Q := by
  have hc' : h.2 a = some (.inr (2, [.null, .int 0, .int 0])) := hc
  refine z_aload_n rfl rfl ?_
  refine z_objInit rfl rfl (by decide) ?_
  refine z_aload_n rfl rfl ?_
  refine z_bipush (v := 8) rfl (by decide) ?_
  refine z_anew (mc2 := 200) (ms2 := 1088) (N := 8) rfl (by decide +kernel) (by decide) (by decide) (by decide) (Nat.le_of_ble_eq_true rfl) (Nat.le_of_ble_eq_true rfl) ?_
  have c1 : (z_new h (.inl (5, 8, .inr (.inr (.inr (.inr (fun _ => none))))))).2 a = some (.inr (2, [.null, .int 0, .int 0])) := (z_new_ne _ _ (by omega)).trans hc'
  refine z_putF rfl c1 (by simp) rfl rfl rfl rfl rfl ?_
  have A1 : (z_set (z_new h (.inl (5, 8, .inr (.inr (.inr (.inr (fun _ => none))))))) a (.inr (2, [.ref (1000 + h.1), .int 0, .int 0]))).2 (a + 1) = some (.inl (5, 8, .inr (.inr (.inr (.inr (fun _ => none)))))) := by
    rw [z_set_ne _ _ (by omega), hl]; exact z_new_eq _ _
  have F1 : ∀ j, j < a → (z_set (z_new h (.inl (5, 8, .inr (.inr (.inr (.inr (fun _ => none))))))) a (.inr (2, [.ref (1000 + h.1), .int 0, .int 0]))).2 j = h.2 j := fun j hj => (z_set_ne _ _ (by omega)).trans (z_new_ne _ _ (by omega))
  have C1 : (z_set (z_new h (.inl (5, 8, .inr (.inr (.inr (.inr (fun _ => none))))))) a (.inr (2, [.ref (1000 + h.1), .int 0, .int 0]))).2 a = some (.inr (2, [.ref (a + 1), .int 0, .int 0])) := by
    rw [z_set_eq, hl]
  have S1 : (z_set (z_new h (.inl (5, 8, .inr (.inr (.inr (.inr (fun _ => none))))))) a (.inr (2, [.ref (1000 + h.1), .int 0, .int 0]))).1 = h.1 + 1 := rfl
  have R1 : z_set (z_new h (.inl (5, 8, .inr (.inr (.inr (.inr (fun _ => none))))))) a (.inr (2, ([.null, .int 0, .int 0] : List Value).set 0 (.ref (1000 + h.1)))) = z_set (z_new h (.inl (5, 8, .inr (.inr (.inr (.inr (fun _ => none))))))) a (.inr (2, [.ref (1000 + h.1), .int 0, .int 0])) := rfl
  rw [R1]
  generalize z_set (z_new h (.inl (5, 8, .inr (.inr (.inr (.inr (fun _ => none))))))) a (.inr (2, [.ref (1000 + h.1), .int 0, .int 0])) = h1 at *
  have es : z_set h1 a (.inr (2, [.ref (a + 1), .int 0, .int 0])) = h1 := z_set_self C1
  refine z_aload_n rfl rfl ?_
  refine z_iconst (v := 0) rfl (by decide) ?_
  refine z_put rfl C1 (by simp) rfl rfl rfl ?_
  refine Eq.mpr (congrArg (fun z => z_W G _ _ _ _ _ _ _ z Q) (show z_set h1 a (.inr (2, ([.ref (a + 1), .int 0, .int 0] : List Value).set 1 (.int 0))) = h1 from es)) ?_
  refine z_aload_n rfl rfl ?_
  refine z_iconst (v := 0) rfl (by decide) ?_
  refine z_put rfl C1 (by simp) rfl rfl rfl ?_
  refine Eq.mpr (congrArg (fun z => z_W G _ _ _ _ _ _ _ z Q) (show z_set h1 a (.inr (2, ([.ref (a + 1), .int 0, .int 0] : List Value).set 2 (.int 0))) = h1 from es)) ?_
  refine z_iconst (v := nI 0) rfl (by decide) ?_
  refine z_istore_n rfl (by decide +kernel) rfl ?_
  refine c_initHyL (f := fun _ => none) 8 0 h1 _ rfl C1 A1 (fun j hj => absurd hj (by omega)) (fun j hj => absurd hj (by omega)) (by omega) (fun h' f' y1 y2 y3 y4 y5 y6 => ?_)
  exact q h' (fun H => ⟨0, fun _ => z_v0, f', y1, y2, y3, y4, by decide, by decide, fun t ht => absurd ht (by omega)⟩) (by omega) fun j hj => (y6 j hj).trans (F1 j hj)
end ZIn2
