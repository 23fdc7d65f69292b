/-! run of the model: the orders, one after the other. -/
def z_Lp (m mb : z_MV) : Prop := (∀ i, i < 8 ∨ 10 ≤ i ∧ i < 16 → mb.1 i = m.1 i) ∧ mb.1 8 = 0 ∧ mb.1 9 = -1 ∧ (∀ j, j ≠ 1 → j ≠ 2 → j ≠ 8 → mb.2 j = m.2 j) ∧ ∀ q, q < 105 → mb.2 2 q = m.2 1 q
theorem z_Lp.dn {m mb m2 : z_MV} {g : Nat → Int32} (h : z_Lp m mb) (hd : z_dnM (z_mF mb 1 g) m2) : z_Lp m m2 := by
  obtain ⟨a1, a2, a3, a4, a5⟩ := h
  refine ⟨fun i hi => (hd.1 i (by omega)).trans (a1 i hi), (hd.1 8 (by decide)).trans a2, (hd.1 9 (by decide)).trans a3, fun j h1 h2 h8 => ((hd.2.2 j h1).trans (if_neg h1)).trans (a4 j h1 h2 h8), fun q hq => ?_⟩
  rw [show m2.2 2 = mb.2 2 from hd.2.2 2 (by decide)]
  exact a5 q hq
section ZR2
variable {G : z_G} {h : z_H} {Q : z_O → z_H → Prop} {a : Nat} {m : z_MV} {x : z_PV}
theorem cM_runL {os : List z_OV} {y2 : Int32} (hos : os.length ≤ 40) (hR : z_Rel x m) (qx : ∀ pr dn v, z_rnO os 0 x.1 = (some pr, dn, v) → z_mQ (2, 0, z_setF (z_setR (z_setI x []) (11, nI dn) pr) (-1)) h a Q) (qd : ∀ dn v, z_rnO os 0 x.1 = (none, dn, v) → z_mQ (0, nI dn, z_setF (z_setI (z_dune x v) []) (-1)) h a Q) : ∀ (k i : Nat) (v : z_HV) (g : Nat → Int32) (mb : z_MV) (hh : z_H) (y4 : Value), i + k = os.length → z_rnO (os.drop i) i v = z_rnO os 0 x.1 → z_Mo hh a (z_mF mb 1 g) → z_gOk v g → z_wf v → z_Lp m mb → z_Tl mb os → z_Fr a 9 h hh → z_W G 5 0 0 244 141 [.ref a, .int (nI os.length), .int y2, .int (nI i), y4] [] hh Q := by
  intro k
  induction k with
  | zero =>
    intro i v g mb hh y4 hi hres hD hg hw hL hT hF
    obtain rfl : i = os.length := hi
    rw [List.drop_length] at hres
    have q := qd _ _ hres.symm
    obtain ⟨⟨a1, a2⟩, ⟨b1, b2⟩, ⟨c1, c2, c3⟩, _, ⟨u1, u2, u3⟩, ⟨k1, k2⟩, ⟨z1, z2⟩, _⟩ := hR
    obtain ⟨l1, l2, l3, l4, l5⟩ := hL
    refine z_iload_n rfl rfl ?_
    refine z_iload_n rfl rfl ?_
    refine z_icmp_ge rfl (fun c143 => ?_) (fun c143 => absurd (Int32.le_refl _) c143)
    refine z_aload_n rfl rfl ?_
    refine z_aload_n rfl rfl ?_
    refine z_iload_n rfl rfl ?_
    refine z_callV (av := [_]) rfl z_w163 hD.1 rfl rfl rfl rfl rfl (Nat.le_of_ble_eq_true rfl) (Nat.le_of_ble_eq_true rfl) (Nat.le_of_ble_eq_true rfl) (Nat.le_of_ble_eq_true rfl) (cM_done hD (fun h8 hM8 hF8 => ?_))
    refine z_callV (av := [_]) rfl z_w168 hM8.1 rfl rfl rfl rfl rfl (Nat.le_of_ble_eq_true rfl) (Nat.le_of_ble_eq_true rfl) (Nat.le_of_ble_eq_true rfl) (Nat.le_of_ble_eq_true rfl) (cM_keptD (k := x.2.2.2.1) hM8 rfl ((l1 4 (by omega)).trans c2) c1 (fun h9 m' hM9 f1 f2 f3 f4 hF9 => ?_))
    refine z_iret rfl rfl ?_
    skip
    have s1 : ∀ i, i < 8 ∨ 10 ≤ i ∧ i < 16 → i ≠ 4 → m'.1 i = m.1 i := fun i hi h4 => (f1 i h4).trans ((if_neg (by omega)).trans (l1 i hi))
    have s2 : ∀ j, j ≠ 1 → j ≠ 2 → j ≠ 4 → j ≠ 8 → m'.2 j = m.2 j := fun j h1 h2 h4 h8 => (f3 j h4).trans ((if_neg h1).trans (l4 j h1 h2 h8))
    have e2 : ∀ q, q < 105 → (z_mS (z_mF mb 1 g) 16 0).2 2 q = m.2 1 q := l5
    have e4 : (z_mS (z_mF mb 1 g) 16 0).2 4 = m.2 4 := l4 4 (by decide) (by decide) (by decide)
    refine q h9 m' _ hM9 ⟨⟨hw, by rw [f3 1 (by decide)]; exact hg⟩, ⟨(s1 6 (by omega) (by omega)).trans b1, fun e => by rw [s2 5 (by omega) (by omega) (by omega) (by omega)]; exact b2 e⟩, ⟨?_, f2, fun t ht => ?_⟩, ⟨Nat.zero_le _, (f1 8 (by decide)).trans l2, fun i hi => absurd hi (Nat.not_lt_zero _), fun c hc => absurd hc List.not_mem_nil⟩, ⟨u1, (s1 15 (by omega) (by omega)).trans u2, fun i hi => by rw [s2 7 (by omega) (by omega) (by omega) (by omega)]; exact u3 i hi⟩, ⟨(s1 10 (by omega) (by omega)).trans k1, (s1 11 (by omega) (by omega)).trans k2⟩, ⟨(s1 12 (by omega) (by omega)).trans z1, (s1 13 (by omega) (by omega)).trans z2⟩, (f1 9 (by decide)).trans l3⟩ ((f1 16 (by decide)).trans rfl) (hF.trans (hF8.trans hF9)) (fun _ => rfl)
    · show z_kpK x.2.2.2.1 ≤ 8
      unfold z_kpK
      split <;> omega
    · have ht2 : t < z_kpK x.2.2.2.1 := ht
      show z_wf (z_kpH x.2.2.2.1 x.2.2.2.2.1 x.1 t) ∧ z_gOk (z_kpH x.2.2.2.1 x.2.2.2.2.1 x.1 t) (fun q => m'.2 4 (105 * t + q))
      by_cases e : t + 1 = z_kpK x.2.2.2.1
      · have eH : z_kpH x.2.2.2.1 x.2.2.2.2.1 x.1 t = x.1 := by
          unfold z_kpH
          unfold z_kpK at e
          by_cases l : x.2.2.2.1 < 8
          · rw [if_pos l] at e ⊢
            show (if t = x.2.2.2.1 then x.1 else _) = _
            rw [if_pos (by omega)]
          · rw [if_neg l] at e ⊢
            show (if t = 7 then x.1 else _) = _
            rw [if_pos (by omega)]
        rw [eH]
        exact ⟨a1, a2.cong a1.wz (fun q hq => by show m'.2 4 (105 * t + q) = _; rw [f4 t q ht2 hq, if_pos e]; exact e2 q hq)⟩
      · have eH : z_kpH x.2.2.2.1 x.2.2.2.2.1 x.1 t = x.2.2.2.2.1 (if x.2.2.2.1 < 8 then t else t + 1) ∧ (if x.2.2.2.1 < 8 then t else t + 1) < x.2.2.2.1 := by
          unfold z_kpH
          unfold z_kpK at e ht2
          by_cases l : x.2.2.2.1 < 8
          · rw [if_pos l] at e ht2 ⊢
            rw [if_pos l]
            refine ⟨?_, by omega⟩
            show (if t = x.2.2.2.1 then x.1 else _) = _
            rw [if_neg (by omega)]
          · rw [if_neg l] at e ht2 ⊢
            rw [if_neg l]
            refine ⟨?_, by omega⟩
            show (if t = 7 then x.1 else _) = _
            rw [if_neg (by omega)]
        obtain ⟨w1, w2⟩ := c3 _ eH.2
        rw [eH.1]
        refine ⟨w1, w2.cong w1.wz (fun q hq => ?_)⟩
        show m'.2 4 (105 * t + q) = m.2 4 (105 * (if x.2.2.2.1 < 8 then t else t + 1) + q)
        rw [f4 t q ht2 hq, if_neg e, e4]
  | succ k ih =>
    intro i v g mb hh y4 hi hres hD hg hw hL hT hF
    have hlt : i < os.length := by omega
    obtain ⟨vs, hv, hvs⟩ := hT i hlt
    have ed : os.drop i = os.getD i z_oN0 :: os.drop (i + 1) := by
      rw [List.drop_eq_getElem_cons hlt, List.getD_eq_getElem?_getD, List.getElem?_eq_getElem hlt]; rfl
    have hk : (os.getD i z_oN0).1 < 10 := hv.2.1
    rw [ed] at hres
    have no : ∀ pr, z_ref v (os.getD i z_oN0) = some pr → ∀ h2, z_Mo h2 a (z_mRf (z_mF mb 1 g) pr) → z_Fr a 9 hh h2 → z_W G 5 0 0 244 155 [.ref a, .int (nI os.length), .int y2, .int (nI i), .int 0] [] h2 Q := by
      intro pr hr h2 hM2 hF2
      have q := qx pr i v (hres.symm.trans (by show (match z_ref v (os.getD i z_oN0) with
        | some pr => (some pr, i, v)
        | none => z_rnO (os.drop (i + 1)) (i + 1) (z_do v (os.getD i z_oN0)).1) = _; rw [hr]))
      obtain ⟨⟨a1, a2⟩, ⟨b1, b2⟩, ⟨c1, c2, c3⟩, _, ⟨u1, u2, u3⟩, _, _, _⟩ := hR
      obtain ⟨l1, l2, l3, l4, l5⟩ := hL
      refine z_aload_n rfl rfl ?_
      refine z_get rfl hM2.1 rfl ?_
      refine z_if_eq rfl (fun c159 => absurd c159 (show ¬ (1 : Int32) = 0 by decide)) (fun c159 => ?_)
      refine z_aload_n rfl rfl ?_
      refine z_aload_n rfl rfl ?_
      refine z_iload_n rfl rfl ?_
      refine z_callV (av := [_]) rfl z_w243 hM2.1 rfl rfl rfl rfl rfl (Nat.le_of_ble_eq_true rfl) (Nat.le_of_ble_eq_true rfl) (Nat.le_of_ble_eq_true rfl) (Nat.le_of_ble_eq_true rfl) (cM_refusesText hM2 (fun h8 m3 hM8 t1 t2 t3 t4 t5 t6 t7 hF8 => ?_))
      refine z_callV (av := [_]) rfl z_w168 hM8.1 rfl rfl rfl rfl rfl (Nat.le_of_ble_eq_true rfl) (Nat.le_of_ble_eq_true rfl) (Nat.le_of_ble_eq_true rfl) (Nat.le_of_ble_eq_true rfl) (cM_keptX hM8 (by rw [t5]; decide) (fun h9 m' hM9 f1 f2 f3 hF9 => ?_))
      refine z_iret rfl rfl ?_
      have s1 : ∀ i, i < 8 ∨ i = 15 → m'.1 i = m.1 i := fun i hi => by
        rw [f1, t6 i (by omega)]
        show (if i = 16 then (1 : Int32) else if i = 13 then 0 else if i = 12 then 0 else if i = 11 then pr.2 else if i = 10 then pr.1 else mb.1 i) = m.1 i
        rw [if_neg (by omega), if_neg (by omega), if_neg (by omega), if_neg (by omega), if_neg (by omega)]
        exact l1 i (by omega)
      have s2 : ∀ j, j ≠ 1 → j ≠ 2 → j ≠ 8 → m'.2 j = m.2 j := fun j h1 h2 h8 => by
        rw [f2 j h1, t7]
        exact (if_neg h1).trans (l4 j h1 h2 h8)
      refine q h9 m' 0 hM9 ⟨⟨a1, a2.cong a1.wz (fun q hq => ?_)⟩, ⟨(s1 6 (by omega)).trans b1, fun e => by rw [s2 5 (by omega) (by omega) (by omega)]; exact b2 e⟩, ⟨c1, (s1 4 (by omega)).trans c2, fun t ht => by rw [s2 4 (by omega) (by omega) (by omega)]; exact c3 t ht⟩, ⟨Nat.zero_le _, ?_, fun i hi => absurd hi (Nat.not_lt_zero _), fun c hc => absurd hc List.not_mem_nil⟩, ⟨u1, (s1 15 (by omega)).trans u2, fun i hi => by rw [s2 7 (by omega) (by omega) (by omega)]; exact u3 i hi⟩, ⟨by rw [f1]; exact t1, by rw [f1]; exact t2⟩, ⟨by rw [f1, t3]; rfl, by rw [f1, t4]; rfl⟩, ?_⟩ (by rw [f1, t5]; rfl) (hF.trans (hF2.trans (hF8.trans hF9))) (fun e => absurd (show (2 : Nat) = 0 from e) (by decide))
      · rw [f3 q hq, t7]; exact l5 q hq
      · rw [f1, t6 8 (by omega)]; exact l2
      · rw [f1, t6 9 (by omega)]; exact l3
    have yes : ∀ (r : Int32), z_ref v (os.getD i z_oN0) = none → ∀ h2 m2, z_Mo h2 a m2 → z_dnM (z_mF mb 1 g) m2 → z_gOk (z_do v (os.getD i z_oN0)).1 (m2.2 1) → z_Fr a 9 hh h2 → z_W G 5 0 0 244 155 [.ref a, .int (nI os.length), .int y2, .int (nI i), .int r] [] h2 Q := by
      intro r hr h2 m2 hM2 hd hg2 hF2
      have hres2 : z_rnO (os.drop (i + 1)) (i + 1) (z_do v (os.getD i z_oN0)).1 = z_rnO os 0 x.1 := by
        rw [← hres]
        show _ = (match z_ref v (os.getD i z_oN0) with
        | some pr => (some pr, i, v)
        | none => z_rnO (os.drop (i + 1)) (i + 1) (z_do v (os.getD i z_oN0)).1)
        rw [hr]
      have t8 : m2.2 8 = mb.2 8 := hd.2.2 8 (by decide)
      refine z_aload_n rfl rfl ?_
      refine z_get rfl hM2.1 rfl ?_
      rw [hd.2.1]
      refine z_if_eq rfl (fun c159 => ?_) (fun c159 => absurd rfl c159)
      refine z_iinc1 rfl rfl (by decide +kernel) rfl ?_
      exact z_goto rfl (ih (i + 1) _ (m2.2 1) m2 _ _ (by omega) hres2 hM2.gf hg2 (hw.do hk hr) (hL.dn hd) (fun q hq => by obtain ⟨ws, w1, w2⟩ := hT q hq; exact ⟨ws, w1, fun j hj h4 => by rw [t8]; exact w2 j hj h4⟩) (hF.trans hF2))
    refine z_iload_n rfl rfl ?_
    refine z_iload_n rfl rfl ?_
    refine z_icmp_ge rfl (fun c143 => absurd c143 (fun q9 => absurd ((nI_leI (by omega) (by omega)).mp q9) (by omega))) (fun c143 => ?_)
    refine z_aload_n rfl rfl ?_
    refine z_iconst (v := 4) rfl (by decide) ?_
    refine z_iload_n rfl rfl ?_
    refine z_imul rfl ?_
    rw [show (4 : Int32) * nI i = nI (4 * i) from pk_mul 4 i]
    refine z_callV (av := [_]) rfl z_w242 hD.1 rfl rfl rfl rfl rfl (Nat.le_of_ble_eq_true rfl) (Nat.le_of_ble_eq_true rfl) (Nat.le_of_ble_eq_true rfl) (Nat.le_of_ble_eq_true rfl) (cM_does (K := 4 * i) (by omega) hD hg hw hv hvs ⟨fun pr hr h2 hM2 hF2 => ?_, fun hr h2 m2 hM2 hd2 hg2 hF2 => ?_⟩)
    · show z_W G 5 0 0 244 153 [.ref a, .int (nI os.length), .int y2, .int (nI i), y4] [.int 0] h2 Q
      refine z_istore rfl (by decide +kernel) rfl ?_
      exact no pr hr h2 hM2 hF2
    · show z_W G 5 0 0 244 153 [.ref a, .int (nI os.length), .int y2, .int (nI i), y4] [.int (z_do v (os.getD i z_oN0)).2] h2 Q
      refine z_istore rfl (by decide +kernel) rfl ?_
      exact yes _ hr h2 m2 hM2 hd2 hg2 hF2
end ZR2
