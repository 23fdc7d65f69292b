/-! run of the model: the reading, and where it ends. -/
def z_Tl (m : z_MV) (os : List z_OV) : Prop := ∀ i, i < os.length → ∃ vs, z_Tv vs (os.getD i z_oN0) ∧ ∀ j, j < vs.length → j < 4 → m.2 8 (4 * i + j) = vs.getD j 0
def z_onP (m m' : z_MV) : Prop := (∀ i, i ≠ 17 → i ≠ 18 → m'.1 i = m.1 i) ∧ ∀ j, j ≠ 8 → m'.2 j = m.2 j
section ZRu
variable {G : z_G} {h : z_H} {Q : z_O → z_H → Prop} {a : Nat} {m : z_MV} {x : z_PV}
theorem z_Rel.inp (hR : z_Rel x m) : z_In m x.2.2.2.2.2.1 := ⟨⟨hR.2.2.2.1.1, hR.2.2.2.1.2.2.2⟩, hR.2.2.2.1.2.1, hR.2.2.2.1.2.2.1⟩
theorem z_Rel.flt {m' : z_MV} {f : Int32} (hR : z_Rel x m) (h1 : ∀ i, i < 8 ∨ 10 ≤ i ∧ i < 16 → m'.1 i = m.1 i) (h8 : m'.1 8 = 0) (h9 : m'.1 9 = f) (h2 : ∀ j, j ≠ 8 → m'.2 j = m.2 j) : z_Rel (z_setF (z_setI x []) f) m' := by
  obtain ⟨⟨a1, a2⟩, ⟨b1, b2⟩, ⟨c1, c2, c3⟩, _, ⟨u1, u2, u3⟩, ⟨k1, k2⟩, ⟨z1, z2⟩, _⟩ := hR
  exact ⟨⟨a1, by rw [h2 1 (by omega)]; exact a2⟩, ⟨(h1 6 (by omega)).trans b1, fun e => by rw [h2 5 (by omega)]; exact b2 e⟩, ⟨c1, (h1 4 (by omega)).trans c2, fun t ht => by rw [h2 4 (by omega)]; exact c3 t ht⟩, ⟨Nat.zero_le _, h8, fun i hi => absurd hi (Nat.not_lt_zero _), fun c hc => absurd hc List.not_mem_nil⟩, ⟨u1, (h1 15 (by omega)).trans u2, fun i hi => by rw [h2 7 (by omega)]; exact u3 i hi⟩, ⟨(h1 10 (by omega)).trans k1, (h1 11 (by omega)).trans k2⟩, ⟨(h1 12 (by omega)).trans z1, (h1 13 (by omega)).trans z2⟩, h9⟩
theorem cM_runW {mm : z_MV} {hh : z_H} {b : Bool} {fp : Nat} {o : z_OV} {y1 y2 y3 y4 : Value} (hR : z_Rel x m) (hD : z_Mo hh a mm) (hP : z_Pm mm x.2.2.2.2.2.1 (b, fp, o)) (hO : z_onP m mm) (hb : b = false ∨ fp < x.2.2.2.2.2.1.length) (hF : z_Fr a 9 h hh) (q : z_mQ (1, 0, z_setF (z_setI x []) (nI fp)) h a Q) : z_W G 5 0 0 244 71 [.ref a, y1, y2, y3, y4] [] hh Q := by
  obtain ⟨hI, h17, h18, hp⟩ := hP
  have h60 := hI.1.1
  have g17 : mm.1 17 = nI fp := h17
  have fin : ∀ (h9 : z_H), z_Mo h9 a (z_mS (z_mS (z_mS (z_mS mm 18 1) 8 0) 9 (nI fp)) 16 1) → z_Fr a 9 h h9 → Q (.inl (some (.int 0))) h9 := by
    intro h9 hM9 hF9
    refine q h9 _ 0 hM9 (hR.flt (fun i hi => ?_) rfl rfl (fun j hj => hO.2 j hj)) rfl hF9 (fun e => absurd (show (1 : Nat) = 0 from e) (by decide))
    show (if i = 16 then (1 : Int32) else if i = 9 then nI fp else if i = 8 then 0 else if i = 18 then 1 else mm.1 i) = m.1 i
    rw [if_neg (by omega), if_neg (by omega), if_neg (by omega), if_neg (by omega)]
    exact hO.1 i (by omega) (by omega)
  cases b with
  | false =>
    have g18 : mm.1 18 = 1 := h18
    refine z_aload_n rfl rfl ?_
    refine z_aload_n rfl rfl ?_
    refine z_get rfl hD.1 rfl ?_
    rw [g18]
    refine z_if_ne rfl (fun c76 => ?_) (fun c76 => absurd c76 (by decide))
    refine z_iconst (v := 1) rfl (by decide) ?_
    refine z_goto rfl ?_
    refine z_putM rfl hD (by decide) rfl rfl (fun h1 hC1 hF1 => ?_)
    refine z_aload_n rfl rfl ?_
    refine z_iconst (v := 0) rfl (by decide) ?_
    refine z_putM rfl hC1 (by decide) rfl rfl (fun h2 hC2 hF2 => ?_)
    refine z_aload_n rfl rfl ?_
    refine z_aload_n rfl rfl ?_
    refine z_get rfl hC2.1 rfl ?_
    refine z_if_eq rfl (fun c108 => absurd c108 (show ¬ (1 : Int32) = 0 by decide)) (fun c108 => ?_)
    refine z_aload_n rfl rfl ?_
    refine z_get rfl hC2.1 rfl ?_
    refine z_goto rfl ?_
    rw [show (z_mS (z_mS mm 18 1) 8 0).1 17 = nI fp from g17]
    refine z_putM rfl hC2 (by decide) rfl rfl (fun h3 hC3 hF3 => ?_)
    refine z_aload_n rfl rfl ?_
    refine z_get rfl hC3.1 rfl ?_
    refine z_if_eq rfl (fun c126 => absurd c126 (show ¬ (1 : Int32) = 0 by decide)) (fun c126 => ?_)
    refine z_aload_n rfl rfl ?_
    refine z_iconst (v := 1) rfl (by decide) ?_
    refine z_callV (av := [_]) rfl z_w164 hC3.1 rfl rfl rfl rfl rfl (Nat.le_of_ble_eq_true rfl) (Nat.le_of_ble_eq_true rfl) (Nat.le_of_ble_eq_true rfl) (Nat.le_of_ble_eq_true rfl) (cM_fails (v := 1) hC3 (fun h9 hM9 hF9 => ?_))
    refine z_iret rfl rfl ?_
    exact fin _ hM9 (hF.trans (((hF1.trans hF2).trans hF3).trans hF9))
  | true =>
    have g18 : mm.1 18 = 0 := h18
    have lt : fp < x.2.2.2.2.2.1.length := hb.elim (fun e => Bool.noConfusion e) id
    refine z_aload_n rfl rfl ?_
    refine z_aload_n rfl rfl ?_
    refine z_get rfl hD.1 rfl ?_
    rw [g18]
    refine z_if_ne rfl (fun c76 => absurd rfl c76) (fun c76 => ?_)
    refine z_aload_n rfl rfl ?_
    refine z_get rfl hD.1 rfl ?_
    refine z_aload_n rfl rfl ?_
    refine z_get rfl hD.1 rfl ?_
    rw [g17, hI.2.1]
    refine z_icmp_ge rfl (fun c87 => absurd c87 (fun q9 => absurd ((nI_leI (by omega) (by omega)).mp q9) (by omega))) (fun c87 => ?_)
    refine z_iconst (v := 1) rfl (by decide) ?_
    refine z_goto rfl ?_
    refine z_putM rfl hD (by decide) rfl rfl (fun h1 hC1 hF1 => ?_)
    refine z_aload_n rfl rfl ?_
    refine z_iconst (v := 0) rfl (by decide) ?_
    refine z_putM rfl hC1 (by decide) rfl rfl (fun h2 hC2 hF2 => ?_)
    refine z_aload_n rfl rfl ?_
    refine z_aload_n rfl rfl ?_
    refine z_get rfl hC2.1 rfl ?_
    refine z_if_eq rfl (fun c108 => absurd c108 (show ¬ (1 : Int32) = 0 by decide)) (fun c108 => ?_)
    refine z_aload_n rfl rfl ?_
    refine z_get rfl hC2.1 rfl ?_
    refine z_goto rfl ?_
    rw [show (z_mS (z_mS mm 18 1) 8 0).1 17 = nI fp from g17]
    refine z_putM rfl hC2 (by decide) rfl rfl (fun h3 hC3 hF3 => ?_)
    refine z_aload_n rfl rfl ?_
    refine z_get rfl hC3.1 rfl ?_
    refine z_if_eq rfl (fun c126 => absurd c126 (show ¬ (1 : Int32) = 0 by decide)) (fun c126 => ?_)
    refine z_aload_n rfl rfl ?_
    refine z_iconst (v := 1) rfl (by decide) ?_
    refine z_callV (av := [_]) rfl z_w164 hC3.1 rfl rfl rfl rfl rfl (Nat.le_of_ble_eq_true rfl) (Nat.le_of_ble_eq_true rfl) (Nat.le_of_ble_eq_true rfl) (Nat.le_of_ble_eq_true rfl) (cM_fails (v := 1) hC3 (fun h9 hM9 hF9 => ?_))
    refine z_iret rfl rfl ?_
    exact fin _ hM9 (hF.trans (((hF1.trans hF2).trans hF3).trans hF9))
theorem z_Tl.snoc {m1 mm : z_MV} {os : List z_OV} {o : z_OV} {vs : List Int32} (h : z_Tl m1 os) (hT : z_Ts m1 mm (4 * os.length) vs) (hv : z_Tv vs o) : z_Tl mm (os ++ [o]) := by
  intro i hi
  rw [List.length_append] at hi
  have hi2 : i < os.length + 1 := hi
  by_cases e : i = os.length
  · refine ⟨vs, ?_, fun j hj _ => by rw [e]; exact hT.2.2.2 j hj⟩
    rw [e, List.getD_eq_getElem?_getD, List.getElem?_append_right (Nat.le_refl _), Nat.sub_self]
    exact hv
  · obtain ⟨ws, w1, w2⟩ := h i (by omega)
    refine ⟨ws, ?_, fun j hj h4 => by rw [hT.2.2.1 _ (by omega)]; exact w2 j hj h4⟩
    rw [List.getD_eq_getElem?_getD, List.getElem?_append_left (by omega), ← List.getD_eq_getElem?_getD]
    exact w1
theorem z_runStop {y1 y3 y4 : Value} {hh : z_H} {mm : z_MV} (hD : z_Mo hh a mm) (k : z_W G 5 0 0 244 71 [.ref a, y1, .int 0, y3, y4] [] hh Q) : z_W G 5 0 0 244 14 [.ref a, y1, .int 0, y3, y4] [] hh Q := by
  refine z_iload_n rfl rfl ?_
  refine z_if_eq rfl (fun c15 => ?_) (fun c15 => absurd rfl c15)
  exact k
theorem cM_runP (hR : z_Rel x m) (qok : z_flt x.2.2.2.2.2.1 61 0 = none → ∀ hh mm y3 y4 fp o, z_Mo hh a mm → z_Pm mm x.2.2.2.2.2.1 (true, fp, o) → x.2.2.2.2.2.1.length ≤ fp → z_onP m mm → z_Tl mm (z_plO x.2.2.2.2.2.1 61 0) → (z_plO x.2.2.2.2.2.1 61 0).length ≤ 40 → z_Fr a 9 h hh → z_W G 5 0 0 244 71 [.ref a, .int (nI (z_plO x.2.2.2.2.2.1 61 0).length), .int 0, y3, y4] [] hh Q) (qw : ∀ fp, z_flt x.2.2.2.2.2.1 61 0 = some fp → z_mQ (1, 0, z_setF (z_setI x []) (nI fp)) h a Q) : ∀ (f p : Nat) (os : List z_OV) (hh : z_H) (mm : z_MV) (o : z_OV) (y3 y4 : Value), 61 ≤ f + p → 2 * os.length ≤ p → z_flt x.2.2.2.2.2.1 f p = z_flt x.2.2.2.2.2.1 61 0 → os ++ z_plO x.2.2.2.2.2.1 f p = z_plO x.2.2.2.2.2.1 61 0 → z_Mo hh a mm → z_Pm mm x.2.2.2.2.2.1 (true, p, o) → z_onP m mm → z_Tl mm os → z_Fr a 9 h hh → z_W G 5 0 0 244 14 [.ref a, .int (nI os.length), .int 1, y3, y4] [] hh Q := by
  generalize hl : x.2.2.2.2.2.1 = l at *
  intro f
  induction f with
  | zero =>
    intro p os hh mm o y3 y4 h1 h2 h3 h4 hD hP hO hT hF
    have := hP.1.1.1
    have : p ≤ l.length := hP.2.2.2
    omega
  | succ f ih =>
    intro p os hh mm o y3 y4 h1 h2 h3 h4 hD hP hO hT hF
    have h60 := hP.1.1.1
    have hp : p ≤ l.length := hP.2.2.2
    have hpos := z_rdOP (o := z_oN0) hp
    rw [z_flt_s] at h3
    have h4' : os ++ ((z_rdO l p z_oN0).2.2 :: (if z_here l (z_rdO l p z_oN0).2.1 = 59 then z_plO l f ((z_rdO l p z_oN0).2.1 + 1) else [])) = z_plO l 61 0 := h4
    have nx : ∀ (ha : z_H) (m1 : z_MV) (vs : List Int32), z_Mo ha a m1 → z_Pm m1 l (z_rdO l p z_oN0) → z_Ts mm m1 (4 * os.length) vs → ((z_rdO l p z_oN0).1 = true → z_Tv vs (z_rdO l p z_oN0).2.2) → z_Fr a 9 h ha → z_W G 5 0 0 244 28 [.ref a, .int (nI (os.length + 1)), .int 1, y3, y4] [] ha Q := by
      intro ha m1 vs hM1 hP1 hT1 hv1 gF1
      have O1 : z_onP m m1 := ⟨fun i g1 g2 => (hT1.1 i g1 g2).trans (hO.1 i g1 g2), fun j hj => (hT1.2.1 j hj).trans (hO.2 j hj)⟩
      obtain ⟨hI1, g17, g18, gp⟩ := hP1
      cases hs : (z_rdO l p z_oN0).1 with
      | false =>
        rw [hs, if_neg Bool.false_ne_true] at h3
        rw [hs] at g18
        have g18' : m1.1 18 = 1 := g18
        refine z_aload_n rfl rfl ?_
        refine z_get rfl hM1.1 rfl ?_
        rw [g18']
        refine z_if_ne rfl (fun c32 => ?_) (fun c32 => absurd c32 (by decide))
        refine z_iconst (v := 0) rfl (by decide) ?_
        refine z_istore_n rfl (by decide +kernel) rfl ?_
        refine z_aload_n rfl rfl ?_
        refine z_dup rfl rfl ?_
        refine z_get rfl hM1.1 rfl ?_
        refine z_iload_n rfl rfl ?_
        refine z_if_eq rfl (fun c56 => ?_) (fun c56 => absurd rfl c56)
        refine z_iconst (v := 0) rfl (by decide) ?_
        refine z_iadd rfl ?_
        rw [g17, show nI (z_rdO l p z_oN0).2.1 + 0 = nI (z_rdO l p z_oN0).2.1 from Int32.add_zero _]
        refine z_putM rfl hM1 (by decide) rfl rfl (fun h1 hC1 hF1 => ?_)
        refine z_goto rfl (z_runStop hC1 ?_)
        subst hl
        exact cM_runW (b := false) (o := z_oN0) hR hC1 (show z_Pm (z_mS m1 17 (nI (z_rdO x.2.2.2.2.2.1 p z_oN0).2.1)) x.2.2.2.2.2.1 (false, (z_rdO x.2.2.2.2.2.1 p z_oN0).2.1, z_oN0) from ⟨hI1.on (z_onR.s17 _), rfl, g18, gp⟩) ⟨fun i g1 g2 => (if_neg g1).trans (O1.1 i g1 g2), O1.2⟩ (Or.inl rfl) (gF1.trans hF1) (qw _ h3.symm)
      | true =>
        have up := z_rdOup hs
        have hTl := hT.snoc hT1 (hv1 hs)
        have el : (os ++ [(z_rdO l p z_oN0).2.2]).length = os.length + 1 := List.length_append
        rw [hs] at g18
        have g18' : m1.1 18 = 0 := g18
        rw [if_pos hs] at h3
        by_cases c59 : z_here l (z_rdO l p z_oN0).2.1 = 59
        · have hlt : (z_rdO l p z_oN0).2.1 < l.length := z_hereP (by omega)
          rw [if_neg (by omega), if_pos c59] at h3
          rw [if_pos c59] at h4'
          refine z_aload_n rfl rfl ?_
          refine z_get rfl hM1.1 rfl ?_
          rw [g18']
          refine z_if_ne rfl (fun c32 => absurd rfl c32) (fun c32 => ?_)
          refine z_aload_n rfl rfl ?_
          refine z_callV (av := []) rfl z_w235 hM1.1 rfl rfl rfl rfl rfl (Nat.le_of_ble_eq_true rfl) (Nat.le_of_ble_eq_true rfl) (Nat.le_of_ble_eq_true rfl) (Nat.le_of_ble_eq_true rfl) (cM_here hM1 hI1 g17 (by omega) ?_)
          refine z_bipush (v := 59) rfl (by decide) ?_
          refine z_icmp_ne rfl (fun c41 => absurd ((z_hrE hI1.1 (c := 59) (by decide) (by decide)).mpr c59) c41) (fun c41 => ?_)
          refine z_iconst (v := 1) rfl (by decide) ?_
          refine z_goto rfl ?_
          refine z_istore_n rfl (by decide +kernel) rfl ?_
          refine z_aload_n rfl rfl ?_
          refine z_dup rfl rfl ?_
          refine z_get rfl hM1.1 rfl ?_
          refine z_iload_n rfl rfl ?_
          refine z_if_eq rfl (fun c56 => absurd c56 (by decide)) (fun c56 => ?_)
          refine z_iconst (v := 1) rfl (by decide) ?_
          refine z_goto rfl ?_
          refine z_iadd rfl ?_
          rw [g17, nI_1]
          refine z_putM rfl hM1 (by decide) rfl rfl (fun h1 hC1 hF1 => ?_)
          have e9 := ih ((z_rdO l p z_oN0).2.1 + 1) (os ++ [(z_rdO l p z_oN0).2.2]) _ _ z_oN0 y3 y4 (by omega) (by rw [el]; omega) h3 (by rw [List.append_assoc]; exact h4') hC1 (show z_Pm (z_mS m1 17 (nI ((z_rdO l p z_oN0).2.1 + 1))) l (true, (z_rdO l p z_oN0).2.1 + 1, z_oN0) from ⟨hI1.on (z_onR.s17 _), rfl, g18, hlt⟩) ⟨fun i g1 g2 => (if_neg g1).trans (O1.1 i g1 g2), O1.2⟩ hTl (gF1.trans hF1)
          rw [el] at e9
          exact z_goto rfl e9
        · rw [if_neg c59] at h4'
          refine z_aload_n rfl rfl ?_
          refine z_get rfl hM1.1 rfl ?_
          rw [g18']
          refine z_if_ne rfl (fun c32 => absurd rfl c32) (fun c32 => ?_)
          refine z_aload_n rfl rfl ?_
          refine z_callV (av := []) rfl z_w235 hM1.1 rfl rfl rfl rfl rfl (Nat.le_of_ble_eq_true rfl) (Nat.le_of_ble_eq_true rfl) (Nat.le_of_ble_eq_true rfl) (Nat.le_of_ble_eq_true rfl) (cM_here hM1 hI1 g17 (by omega) ?_)
          refine z_bipush (v := 59) rfl (by decide) ?_
          refine z_icmp_ne rfl (fun c41 => ?_) (fun c41 => absurd c41 (fun q9 => c59 ((z_hrE hI1.1 (c := 59) (by decide) (by decide)).mp q9)))
          refine z_iconst (v := 0) rfl (by decide) ?_
          refine z_istore_n rfl (by decide +kernel) rfl ?_
          refine z_aload_n rfl rfl ?_
          refine z_dup rfl rfl ?_
          refine z_get rfl hM1.1 rfl ?_
          refine z_iload_n rfl rfl ?_
          refine z_if_eq rfl (fun c56 => ?_) (fun c56 => absurd rfl c56)
          refine z_iconst (v := 0) rfl (by decide) ?_
          refine z_iadd rfl ?_
          rw [g17, show nI (z_rdO l p z_oN0).2.1 + 0 = nI (z_rdO l p z_oN0).2.1 from Int32.add_zero _]
          refine z_putM rfl hM1 (by decide) rfl rfl (fun h1 hC1 hF1 => ?_)
          refine z_goto rfl (z_runStop hC1 ?_)
          have gM := hC1
          have gF := gF1.trans hF1
          have P9 : z_Pm (z_mS m1 17 (nI (z_rdO l p z_oN0).2.1)) l (true, (z_rdO l p z_oN0).2.1, z_oN0) := ⟨hI1.on (z_onR.s17 _), rfl, g18, gp⟩
          have O9 : z_onP m (z_mS m1 17 (nI (z_rdO l p z_oN0).2.1)) := ⟨fun i g1 g2 => (if_neg g1).trans (O1.1 i g1 g2), O1.2⟩
          by_cases c0 : z_here l (z_rdO l p z_oN0).2.1 = 0
          · rw [if_pos c0] at h3
            have e9 := qok h3.symm _ _ y3 y4 _ _ gM P9 (Nat.le_of_not_lt (fun c => by have := (z_hereIn hI1.1 c).1; omega)) O9 (by rw [← h4']; exact hTl) (by rw [← h4', el]; omega) gF
            rw [← h4', el] at e9
            exact e9
          · rw [if_neg c0, if_neg c59] at h3
            subst hl
            exact cM_runW (b := true) (o := z_oN0) hR gM P9 O9 (Or.inr (z_hereP c0)) gF (qw _ h3.symm)
    refine z_iload_n rfl rfl ?_
    refine z_if_eq rfl (fun c15 => absurd c15 (by decide)) (fun c15 => ?_)
    refine z_aload_n rfl rfl ?_
    refine z_iconst (v := 4) rfl (by decide) ?_
    refine z_iload_n rfl rfl ?_
    refine z_imul rfl ?_
    rw [show (4 : Int32) * nI os.length = nI (4 * os.length) from pk_mul 4 os.length]
    refine z_callV (av := [_]) rfl z_w241 hD.1 rfl rfl rfl rfl rfl (Nat.le_of_ble_eq_true rfl) (Nat.le_of_ble_eq_true rfl) (Nat.le_of_ble_eq_true rfl) (Nat.le_of_ble_eq_true rfl) (cM_readsOrder (K := 4 * os.length) (by omega) hD hP (fun ha m1 vs hM1 hP1 hT1 hv1 gF1 => ?_))
    refine z_iinc1 rfl rfl (by decide +kernel) rfl ?_
    exact nx _ _ vs hM1 hP1 hT1 hv1 (hF.trans gF1)
end ZRu
