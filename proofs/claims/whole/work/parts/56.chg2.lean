/-! The model's changes, as a whole. -/
theorem z_Mo.same9 {h : z_H} {a : Nat} {m : z_MV} (hM : z_Mo h a m) : z_Mo h a m := hM
def z_Aft (x : z_PV) (o : z_OV) (m mm : z_MV) (r : Int32) : Prop := ((∃ pr, z_ref x.1 o = some pr ∧ mm.1 10 = pr.1 ∧ mm.1 11 = pr.2 ∧ mm.1 12 = 0 ∧ mm.1 13 = 0 ∧ mm.1 16 = 1 ∧ ∀ i, i < 10 ∨ i = 15 → mm.1 i = m.1 i) ∨ (z_ref x.1 o = none ∧ z_gOk (z_do x.1 o).1 (mm.2 1) ∧ mm.1 16 = 0 ∧ (∀ i, i ≠ 16 → mm.1 i = m.1 i) ∧ r = (z_do x.1 o).2)) ∧ (∀ j, j ≠ 1 → j ≠ 2 → mm.2 j = m.2 j) ∧ ∀ q, q < 105 → mm.2 2 q = m.2 1 q
theorem z_Aft.no {x : z_PV} {o : z_OV} {m m1 : z_MV} {g : Nat → Int32} {r : Int32} {pr : Int32 × Int32} (hr : z_ref x.1 o = some pr) (e1 : m1.1 = m.1) (e2 : ∀ j, j ≠ 2 → m1.2 j = m.2 j) (e3 : ∀ q, q < 105 → m1.2 2 q = m.2 1 q) : z_Aft x o m (z_mRf (z_mF m1 1 g) pr) r := by
  refine ⟨Or.inl ⟨pr, hr, rfl, rfl, rfl, rfl, rfl, fun i hi => ?_⟩, fun j h1 h2 => (if_neg h1).trans (e2 j h2), fun q hq => e3 q hq⟩
  show (if i = 16 then 1 else if i = 13 then 0 else if i = 12 then 0 else if i = 11 then pr.2 else if i = 10 then pr.1 else m1.1 i) = m.1 i
  rw [if_neg (by omega), if_neg (by omega), if_neg (by omega), if_neg (by omega), if_neg (by omega), e1]
theorem z_Aft.yes {x : z_PV} {o : z_OV} {m m1 m2 : z_MV} {g : Nat → Int32} (hr : z_ref x.1 o = none) (hd : z_dnM (z_mF m1 1 g) m2) (hg : z_gOk (z_do x.1 o).1 (m2.2 1)) (e1 : m1.1 = m.1) (e2 : ∀ j, j ≠ 2 → m1.2 j = m.2 j) (e3 : ∀ q, q < 105 → m1.2 2 q = m.2 1 q) : z_Aft x o m m2 (z_do x.1 o).2 := by
  refine ⟨Or.inr ⟨hr, hg, hd.2.1, fun i hi => (hd.1 i hi).trans (congrFun e1 i), rfl⟩, fun j h1 h2 => ((hd.2.2 j h1).trans (if_neg h1)).trans (e2 j h2), fun q hq => ?_⟩
  rw [show m2.2 2 = m1.2 2 from hd.2.2 2 (by decide)]
  exact e3 q hq
theorem z_fChg_s {x : z_PV} {o : z_OV} {pr : Int32 × Int32} (h : z_ref x.1 o = some pr) : z_fChg x o = (1, 0, z_refu x pr) := by
  unfold z_fChg
  rw [h]
theorem z_fChg_n {x : z_PV} {o : z_OV} (h : z_ref x.1 o = none) : z_fChg x o = (0, (z_do x.1 o).2, z_dune x (z_do x.1 o).1) := by
  unfold z_fChg
  rw [h]
section ZCg
variable {G : z_G} {h h0 : z_H} {Q : z_O → z_H → Prop} {a : Nat} {m mm : z_MV} {x : z_PV} {o : z_OV}
theorem cM_keptOp {r : Int32} (hk : o.1 < 10) (hR : z_Rel x m) (hM : z_Mo h a mm) (hA : z_Aft x o m mm r) (hF : z_Fr a 9 h0 h) (q : z_mQ (z_fChg x o) h0 a Q) : z_W G 1 0 0 168 0 (z_L0 168 [.ref a, .int r]) [] h Q := by
  obtain ⟨⟨a1, a2⟩, ⟨b1, b2⟩, ⟨c1, c2, c3⟩, d⟩ := hR
  obtain ⟨hA, e2, e3⟩ := hA
  rcases hA with ⟨pr, hr, p1, p2, p3, p4, p5, p6⟩ | ⟨hr, hg, t0, e1, er⟩
  · rw [z_fChg_s hr] at q
    refine cM_keptX hM (by rw [p5]; decide) (fun h' m' hM' f1 f2 f3 hF' => q h' m' 0 hM' ?_ ?_ (hF.trans hF') (fun e => absurd (show (1 : Nat) = 0 from e) (by decide)))
    · have s1 : ∀ i, i < 10 ∨ i = 15 → m'.1 i = m.1 i := fun i hi => by rw [f1]; exact p6 i hi
      have s2 : ∀ j, j ≠ 1 → j ≠ 2 → m'.2 j = m.2 j := fun j h1 h2 => (f2 j h1).trans (e2 j h1 h2)
      obtain ⟨⟨t1, t2, t3, t4⟩, ⟨u1, u2, u3⟩, _, _, w⟩ := d
      refine ⟨⟨a1, a2.cong a1.wz (fun q hq => by rw [f3 q hq]; exact e3 q hq)⟩, ⟨(s1 6 (by omega)).trans b1, fun e => by rw [s2 5 (by omega) (by omega)]; exact b2 e⟩, ⟨c1, (s1 4 (by omega)).trans c2, fun t ht => by rw [s2 4 (by omega) (by omega)]; exact c3 t ht⟩, ⟨t1, (s1 8 (by omega)).trans t2, fun i hi => by rw [s2 6 (by omega) (by omega)]; exact t3 i hi, t4⟩, ⟨u1, (s1 15 (by omega)).trans u2, fun i hi => by rw [s2 7 (by omega) (by omega)]; exact u3 i hi⟩, ⟨by rw [f1]; exact p1, by rw [f1]; exact p2⟩, ⟨by rw [f1]; exact p3, by rw [f1]; exact p4⟩, (s1 9 (by omega)).trans w⟩
    · rw [f1, p5]; rfl
  · rw [z_fChg_n hr] at q
    refine cM_keptD (k := x.2.2.2.1) hM t0 ((e1 4 (by decide)).trans c2) c1 (fun h' m' hM' f1 f2 f3 f4 hF' => q h' m' r hM' ?_ ?_ (hF.trans hF') (fun _ => er))
    · have s1 : ∀ i, i ≠ 4 → i ≠ 16 → m'.1 i = m.1 i := fun i h1 h2 => (f1 i h1).trans (e1 i h2)
      have s2 : ∀ j, j ≠ 1 → j ≠ 2 → j ≠ 4 → m'.2 j = m.2 j := fun j h1 h2 h4 => (f3 j h4).trans (e2 j h1 h2)
      refine ⟨⟨a1.do hk hr, by rw [f3 1 (by decide)]; exact hg⟩, ⟨(s1 6 (by omega) (by omega)).trans b1, fun e => by rw [s2 5 (by omega) (by omega) (by omega)]; exact b2 e⟩, ⟨?_, f2, fun t ht => ?_⟩, d.same (fun i hi => s1 i (by omega) (by omega)) (fun j hj => s2 j (by omega) (by omega) (by omega))⟩
      · show z_kpK x.2.2.2.1 ≤ 8
        unfold z_kpK
        split <;> omega
      · have ht2 : t < z_kpK x.2.2.2.1 := ht
        show z_wf (z_kpH x.2.2.2.1 x.2.2.2.2.1 x.1 t) ∧ z_gOk (z_kpH x.2.2.2.1 x.2.2.2.2.1 x.1 t) (fun q => m'.2 4 (105 * t + q))
        by_cases e : t + 1 = z_kpK x.2.2.2.1
        · have eH : z_kpH x.2.2.2.1 x.2.2.2.2.1 x.1 t = x.1 := by
            unfold z_kpH
            unfold z_kpK at e
            by_cases l : x.2.2.2.1 < 8
            · rw [if_pos l] at e ⊢
              show (if t = x.2.2.2.1 then x.1 else _) = _
              rw [if_pos (by omega)]
            · rw [if_neg l] at e ⊢
              show (if t = 7 then x.1 else _) = _
              rw [if_pos (by omega)]
          rw [eH]
          exact ⟨a1, a2.cong a1.wz (fun q hq => by show m'.2 4 (105 * t + q) = _; rw [f4 t q ht2 hq, if_pos e]; exact e3 q hq)⟩
        · have eH : z_kpH x.2.2.2.1 x.2.2.2.2.1 x.1 t = x.2.2.2.2.1 (if x.2.2.2.1 < 8 then t else t + 1) ∧ (if x.2.2.2.1 < 8 then t else t + 1) < x.2.2.2.1 := by
            unfold z_kpH
            unfold z_kpK at e ht2
            by_cases l : x.2.2.2.1 < 8
            · rw [if_pos l] at e ht2 ⊢
              rw [if_pos l]
              refine ⟨?_, by omega⟩
              show (if t = x.2.2.2.1 then x.1 else _) = _
              rw [if_neg (by omega)]
            · rw [if_neg l] at e ht2 ⊢
              rw [if_neg l]
              refine ⟨?_, by omega⟩
              show (if t = 7 then x.1 else _) = _
              rw [if_neg (by omega)]
          obtain ⟨w1, w2⟩ := c3 _ eH.2
          rw [eH.1]
          refine ⟨w1, w2.cong w1.wz (fun q hq => ?_)⟩
          show m'.2 4 (105 * t + q) = m.2 4 (105 * (if x.2.2.2.1 < 8 then t else t + 1) + q)
          rw [f4 t q ht2 hq, if_neg e, e2 4 (by decide) (by decide)]
    · rw [f1 16 (by decide), t0]; rfl

theorem cM_clock {c d : Int32} (hM : z_Mo h a m) (hR : z_Rel x m) (q : z_mQ (z_fChg x (0, c, d, 0, 0)) h a Q) : z_W G 4 0 0 176 0 (z_L0 176 [.ref a, .int c, .int d]) [] h Q := by
  have aft : ∀ (r : Int32) (hh : z_H) (mm : z_MV), z_Mo hh a mm → z_Aft x (0, c, d, 0, 0) m mm r → z_Fr a 9 h hh → z_W G 4 0 0 176 11 [.ref a, .int c, .int d] [.int r, .ref a] hh Q := by
    intro r hh mm hD hA hF
    refine z_callV (av := [_]) rfl z_w168 hD.1 rfl rfl rfl rfl rfl (Nat.le_of_ble_eq_true rfl) (Nat.le_of_ble_eq_true rfl) (Nat.le_of_ble_eq_true rfl) (Nat.le_of_ble_eq_true rfl) (cM_keptOp (o := (0, c, d, 0, 0)) (show (0 : Nat) < 10 by decide) hR hD hA hF (fun h9 m9 r9 hM9 hR9 ht9 hF9 hr9 => ?_))
    refine z_iret rfl rfl ?_
    exact q h9 m9 r9 hM9 hR9 ht9 hF9 hr9
  refine z_aload_n rfl rfl ?_
  refine z_callV (av := []) rfl z_w167 hM.1 rfl rfl rfl rfl rfl (Nat.le_of_ble_eq_true rfl) (Nat.le_of_ble_eq_true rfl) (Nat.le_of_ble_eq_true rfl) (Nat.le_of_ble_eq_true rfl) (cM_looksBack hM (fun h1 m1 hM1 e1 e2 e3 hF1 => ?_))
  refine z_aload_n rfl rfl ?_
  refine z_aload_n rfl rfl ?_
  refine z_iload_n rfl rfl ?_
  refine z_iload_n rfl rfl ?_
  have hg1 : z_gOk x.1 (m1.2 1) := by
    rw [e2 1 (by decide)]; exact hR.1.2
  refine z_callV (av := [_, _]) rfl z_w175 hM1.1 rfl rfl rfl rfl rfl (Nat.le_of_ble_eq_true rfl) (Nat.le_of_ble_eq_true rfl) (Nat.le_of_ble_eq_true rfl) (Nat.le_of_ble_eq_true rfl) (cM_comes (v := x.1) (t := 0) (u := 0) hM1.gf hg1 hR.1.1 ⟨fun pr hr h2 hM2 hF2 => aft 0 h2 _ hM2 (z_Aft.no hr e1 e2 e3) (hF1.trans hF2), fun hr h2 m2 hM2 hd2 hg2 hF2 => aft _ h2 m2 hM2 (z_Aft.yes hr hd2 hg2 e1 e2 e3) (hF1.trans hF2)⟩)
theorem cM_leave {c : Int32} (hM : z_Mo h a m) (hR : z_Rel x m) (q : z_mQ (z_fChg x (1, c, 0, 0, 0)) h a Q) : z_W G 4 0 0 180 0 (z_L0 180 [.ref a, .int c]) [] h Q := by
  have aft : ∀ (r : Int32) (hh : z_H) (mm : z_MV), z_Mo hh a mm → z_Aft x (1, c, 0, 0, 0) m mm r → z_Fr a 9 h hh → z_W G 4 0 0 180 10 [.ref a, .int c] [.int r, .ref a] hh Q := by
    intro r hh mm hD hA hF
    refine z_callV (av := [_]) rfl z_w168 hD.1 rfl rfl rfl rfl rfl (Nat.le_of_ble_eq_true rfl) (Nat.le_of_ble_eq_true rfl) (Nat.le_of_ble_eq_true rfl) (Nat.le_of_ble_eq_true rfl) (cM_keptOp (o := (1, c, 0, 0, 0)) (show (1 : Nat) < 10 by decide) hR hD hA hF (fun h9 m9 r9 hM9 hR9 ht9 hF9 hr9 => ?_))
    refine z_iret rfl rfl ?_
    exact q h9 m9 r9 hM9 hR9 ht9 hF9 hr9
  refine z_aload_n rfl rfl ?_
  refine z_callV (av := []) rfl z_w167 hM.1 rfl rfl rfl rfl rfl (Nat.le_of_ble_eq_true rfl) (Nat.le_of_ble_eq_true rfl) (Nat.le_of_ble_eq_true rfl) (Nat.le_of_ble_eq_true rfl) (cM_looksBack hM (fun h1 m1 hM1 e1 e2 e3 hF1 => ?_))
  refine z_aload_n rfl rfl ?_
  refine z_aload_n rfl rfl ?_
  refine z_iload_n rfl rfl ?_
  have hg1 : z_gOk x.1 (m1.2 1) := by
    rw [e2 1 (by decide)]; exact hR.1.2
  refine z_callV (av := [_]) rfl z_w179 hM1.1 rfl rfl rfl rfl rfl (Nat.le_of_ble_eq_true rfl) (Nat.le_of_ble_eq_true rfl) (Nat.le_of_ble_eq_true rfl) (Nat.le_of_ble_eq_true rfl) (cM_leaves (v := x.1) (s := 0) (t := 0) (u := 0) hM1.gf hg1 hR.1.1 ⟨fun pr hr h2 hM2 hF2 => aft 0 h2 _ hM2 (z_Aft.no hr e1 e2 e3) (hF1.trans hF2), fun hr h2 m2 hM2 hd2 hg2 hF2 => aft _ h2 m2 hM2 (z_Aft.yes hr hd2 hg2 e1 e2 e3) (hF1.trans hF2)⟩)
theorem cM_key {c d : Int32} (hM : z_Mo h a m) (hR : z_Rel x m) (q : z_mQ (z_fChg x (2, c, d, 0, 0)) h a Q) : z_W G 4 0 0 182 0 (z_L0 182 [.ref a, .int c, .int d]) [] h Q := by
  have aft : ∀ (r : Int32) (hh : z_H) (mm : z_MV), z_Mo hh a mm → z_Aft x (2, c, d, 0, 0) m mm r → z_Fr a 9 h hh → z_W G 4 0 0 182 11 [.ref a, .int c, .int d] [.int r, .ref a] hh Q := by
    intro r hh mm hD hA hF
    refine z_callV (av := [_]) rfl z_w168 hD.1 rfl rfl rfl rfl rfl (Nat.le_of_ble_eq_true rfl) (Nat.le_of_ble_eq_true rfl) (Nat.le_of_ble_eq_true rfl) (Nat.le_of_ble_eq_true rfl) (cM_keptOp (o := (2, c, d, 0, 0)) (show (2 : Nat) < 10 by decide) hR hD hA hF (fun h9 m9 r9 hM9 hR9 ht9 hF9 hr9 => ?_))
    refine z_iret rfl rfl ?_
    exact q h9 m9 r9 hM9 hR9 ht9 hF9 hr9
  refine z_aload_n rfl rfl ?_
  refine z_callV (av := []) rfl z_w167 hM.1 rfl rfl rfl rfl rfl (Nat.le_of_ble_eq_true rfl) (Nat.le_of_ble_eq_true rfl) (Nat.le_of_ble_eq_true rfl) (Nat.le_of_ble_eq_true rfl) (cM_looksBack hM (fun h1 m1 hM1 e1 e2 e3 hF1 => ?_))
  refine z_aload_n rfl rfl ?_
  refine z_aload_n rfl rfl ?_
  refine z_iload_n rfl rfl ?_
  refine z_iload_n rfl rfl ?_
  have hg1 : z_gOk x.1 (m1.2 1) := by
    rw [e2 1 (by decide)]; exact hR.1.2
  refine z_callV (av := [_, _]) rfl z_w181 hM1.1 rfl rfl rfl rfl rfl (Nat.le_of_ble_eq_true rfl) (Nat.le_of_ble_eq_true rfl) (Nat.le_of_ble_eq_true rfl) (Nat.le_of_ble_eq_true rfl) (cM_gives (v := x.1) (t := 0) (u := 0) hM1.gf hg1 hR.1.1 ⟨fun pr hr h2 hM2 hF2 => aft 0 h2 _ hM2 (z_Aft.no hr e1 e2 e3) (hF1.trans hF2), fun hr h2 m2 hM2 hd2 hg2 hF2 => aft _ h2 m2 hM2 (z_Aft.yes hr hd2 hg2 e1 e2 e3) (hF1.trans hF2)⟩)
theorem cM_wind {c d : Int32} (hM : z_Mo h a m) (hR : z_Rel x m) (q : z_mQ (z_fChg x (3, c, d, 0, 0)) h a Q) : z_W G 4 0 0 184 0 (z_L0 184 [.ref a, .int c, .int d]) [] h Q := by
  have aft : ∀ (r : Int32) (hh : z_H) (mm : z_MV), z_Mo hh a mm → z_Aft x (3, c, d, 0, 0) m mm r → z_Fr a 9 h hh → z_W G 4 0 0 184 11 [.ref a, .int c, .int d] [.int r, .ref a] hh Q := by
    intro r hh mm hD hA hF
    refine z_callV (av := [_]) rfl z_w168 hD.1 rfl rfl rfl rfl rfl (Nat.le_of_ble_eq_true rfl) (Nat.le_of_ble_eq_true rfl) (Nat.le_of_ble_eq_true rfl) (Nat.le_of_ble_eq_true rfl) (cM_keptOp (o := (3, c, d, 0, 0)) (show (3 : Nat) < 10 by decide) hR hD hA hF (fun h9 m9 r9 hM9 hR9 ht9 hF9 hr9 => ?_))
    refine z_iret rfl rfl ?_
    exact q h9 m9 r9 hM9 hR9 ht9 hF9 hr9
  refine z_aload_n rfl rfl ?_
  refine z_callV (av := []) rfl z_w167 hM.1 rfl rfl rfl rfl rfl (Nat.le_of_ble_eq_true rfl) (Nat.le_of_ble_eq_true rfl) (Nat.le_of_ble_eq_true rfl) (Nat.le_of_ble_eq_true rfl) (cM_looksBack hM (fun h1 m1 hM1 e1 e2 e3 hF1 => ?_))
  refine z_aload_n rfl rfl ?_
  refine z_aload_n rfl rfl ?_
  refine z_iload_n rfl rfl ?_
  refine z_iload_n rfl rfl ?_
  have hg1 : z_gOk x.1 (m1.2 1) := by
    rw [e2 1 (by decide)]; exact hR.1.2
  refine z_callV (av := [_, _]) rfl z_w183 hM1.1 rfl rfl rfl rfl rfl (Nat.le_of_ble_eq_true rfl) (Nat.le_of_ble_eq_true rfl) (Nat.le_of_ble_eq_true rfl) (Nat.le_of_ble_eq_true rfl) (cM_winds (v := x.1) (t := 0) (u := 0) hM1.gf hg1 hR.1.1 ⟨fun pr hr h2 hM2 hF2 => aft 0 h2 _ hM2 (z_Aft.no hr e1 e2 e3) (hF1.trans hF2), fun hr h2 m2 hM2 hd2 hg2 hF2 => aft _ h2 m2 hM2 (z_Aft.yes hr hd2 hg2 e1 e2 e3) (hF1.trans hF2)⟩)
theorem cM_move {c d : Int32} (hM : z_Mo h a m) (hR : z_Rel x m) (q : z_mQ (z_fChg x (4, c, d, 0, 0)) h a Q) : z_W G 4 0 0 186 0 (z_L0 186 [.ref a, .int c, .int d]) [] h Q := by
  have aft : ∀ (r : Int32) (hh : z_H) (mm : z_MV), z_Mo hh a mm → z_Aft x (4, c, d, 0, 0) m mm r → z_Fr a 9 h hh → z_W G 4 0 0 186 11 [.ref a, .int c, .int d] [.int r, .ref a] hh Q := by
    intro r hh mm hD hA hF
    refine z_callV (av := [_]) rfl z_w168 hD.1 rfl rfl rfl rfl rfl (Nat.le_of_ble_eq_true rfl) (Nat.le_of_ble_eq_true rfl) (Nat.le_of_ble_eq_true rfl) (Nat.le_of_ble_eq_true rfl) (cM_keptOp (o := (4, c, d, 0, 0)) (show (4 : Nat) < 10 by decide) hR hD hA hF (fun h9 m9 r9 hM9 hR9 ht9 hF9 hr9 => ?_))
    refine z_iret rfl rfl ?_
    exact q h9 m9 r9 hM9 hR9 ht9 hF9 hr9
  refine z_aload_n rfl rfl ?_
  refine z_callV (av := []) rfl z_w167 hM.1 rfl rfl rfl rfl rfl (Nat.le_of_ble_eq_true rfl) (Nat.le_of_ble_eq_true rfl) (Nat.le_of_ble_eq_true rfl) (Nat.le_of_ble_eq_true rfl) (cM_looksBack hM (fun h1 m1 hM1 e1 e2 e3 hF1 => ?_))
  refine z_aload_n rfl rfl ?_
  refine z_aload_n rfl rfl ?_
  refine z_iload_n rfl rfl ?_
  refine z_iload_n rfl rfl ?_
  have hg1 : z_gOk x.1 (m1.2 1) := by
    rw [e2 1 (by decide)]; exact hR.1.2
  refine z_callV (av := [_, _]) rfl z_w185 hM1.1 rfl rfl rfl rfl rfl (Nat.le_of_ble_eq_true rfl) (Nat.le_of_ble_eq_true rfl) (Nat.le_of_ble_eq_true rfl) (Nat.le_of_ble_eq_true rfl) (cM_moves (v := x.1) (t := 0) (u := 0) hM1.gf hg1 hR.1.1 ⟨fun pr hr h2 hM2 hF2 => aft 0 h2 _ hM2 (z_Aft.no hr e1 e2 e3) (hF1.trans hF2), fun hr h2 m2 hM2 hd2 hg2 hF2 => aft _ h2 m2 hM2 (z_Aft.yes hr hd2 hg2 e1 e2 e3) (hF1.trans hF2)⟩)
theorem cM_bill {c d e : Int32} (hM : z_Mo h a m) (hR : z_Rel x m) (q : z_mQ (z_fChg x (5, c, d, e, 0)) h a Q) : z_W G 4 0 0 191 0 (z_L0 191 [.ref a, .int c, .int d, .int e]) [] h Q := by
  have aft : ∀ (r : Int32) (hh : z_H) (mm : z_MV), z_Mo hh a mm → z_Aft x (5, c, d, e, 0) m mm r → z_Fr a 9 h hh → z_W G 4 0 0 191 12 [.ref a, .int c, .int d, .int e] [.int r, .ref a] hh Q := by
    intro r hh mm hD hA hF
    refine z_callV (av := [_]) rfl z_w168 hD.1 rfl rfl rfl rfl rfl (Nat.le_of_ble_eq_true rfl) (Nat.le_of_ble_eq_true rfl) (Nat.le_of_ble_eq_true rfl) (Nat.le_of_ble_eq_true rfl) (cM_keptOp (o := (5, c, d, e, 0)) (show (5 : Nat) < 10 by decide) hR hD hA hF (fun h9 m9 r9 hM9 hR9 ht9 hF9 hr9 => ?_))
    refine z_iret rfl rfl ?_
    exact q h9 m9 r9 hM9 hR9 ht9 hF9 hr9
  refine z_aload_n rfl rfl ?_
  refine z_callV (av := []) rfl z_w167 hM.1 rfl rfl rfl rfl rfl (Nat.le_of_ble_eq_true rfl) (Nat.le_of_ble_eq_true rfl) (Nat.le_of_ble_eq_true rfl) (Nat.le_of_ble_eq_true rfl) (cM_looksBack hM (fun h1 m1 hM1 e1 e2 e3 hF1 => ?_))
  refine z_aload_n rfl rfl ?_
  refine z_aload_n rfl rfl ?_
  refine z_iload_n rfl rfl ?_
  refine z_iload_n rfl rfl ?_
  refine z_iload_n rfl rfl ?_
  have hg1 : z_gOk x.1 (m1.2 1) := by
    rw [e2 1 (by decide)]; exact hR.1.2
  refine z_callV (av := [_, _, _]) rfl z_w190 hM1.1 rfl rfl rfl rfl rfl (Nat.le_of_ble_eq_true rfl) (Nat.le_of_ble_eq_true rfl) (Nat.le_of_ble_eq_true rfl) (Nat.le_of_ble_eq_true rfl) (cM_tables (v := x.1) (u := 0) hM1.gf hg1 hR.1.1 ⟨fun pr hr h2 hM2 hF2 => aft 0 h2 _ hM2 (z_Aft.no hr e1 e2 e3) (hF1.trans hF2), fun hr h2 m2 hM2 hd2 hg2 hF2 => aft _ h2 m2 hM2 (z_Aft.yes hr hd2 hg2 e1 e2 e3) (hF1.trans hF2)⟩)
theorem cM_adjourn {c d : Int32} (hM : z_Mo h a m) (hR : z_Rel x m) (q : z_mQ (z_fChg x (6, c, d, 0, 0)) h a Q) : z_W G 4 0 0 195 0 (z_L0 195 [.ref a, .int c, .int d]) [] h Q := by
  have aft : ∀ (r : Int32) (hh : z_H) (mm : z_MV), z_Mo hh a mm → z_Aft x (6, c, d, 0, 0) m mm r → z_Fr a 9 h hh → z_W G 4 0 0 195 11 [.ref a, .int c, .int d] [.int r, .ref a] hh Q := by
    intro r hh mm hD hA hF
    refine z_callV (av := [_]) rfl z_w168 hD.1 rfl rfl rfl rfl rfl (Nat.le_of_ble_eq_true rfl) (Nat.le_of_ble_eq_true rfl) (Nat.le_of_ble_eq_true rfl) (Nat.le_of_ble_eq_true rfl) (cM_keptOp (o := (6, c, d, 0, 0)) (show (6 : Nat) < 10 by decide) hR hD hA hF (fun h9 m9 r9 hM9 hR9 ht9 hF9 hr9 => ?_))
    refine z_iret rfl rfl ?_
    exact q h9 m9 r9 hM9 hR9 ht9 hF9 hr9
  refine z_aload_n rfl rfl ?_
  refine z_callV (av := []) rfl z_w167 hM.1 rfl rfl rfl rfl rfl (Nat.le_of_ble_eq_true rfl) (Nat.le_of_ble_eq_true rfl) (Nat.le_of_ble_eq_true rfl) (Nat.le_of_ble_eq_true rfl) (cM_looksBack hM (fun h1 m1 hM1 e1 e2 e3 hF1 => ?_))
  refine z_aload_n rfl rfl ?_
  refine z_aload_n rfl rfl ?_
  refine z_iload_n rfl rfl ?_
  refine z_iload_n rfl rfl ?_
  have hg1 : z_gOk x.1 (m1.2 1) := by
    rw [e2 1 (by decide)]; exact hR.1.2
  refine z_callV (av := [_, _]) rfl z_w194 hM1.1 rfl rfl rfl rfl rfl (Nat.le_of_ble_eq_true rfl) (Nat.le_of_ble_eq_true rfl) (Nat.le_of_ble_eq_true rfl) (Nat.le_of_ble_eq_true rfl) (cM_adjourns (v := x.1) (t := 0) (u := 0) hM1.gf hg1 hR.1.1 ⟨fun pr hr h2 hM2 hF2 => aft 0 h2 _ hM2 (z_Aft.no hr e1 e2 e3) (hF1.trans hF2), fun hr h2 m2 hM2 hd2 hg2 hF2 => aft _ h2 m2 hM2 (z_Aft.yes hr hd2 hg2 e1 e2 e3) (hF1.trans hF2)⟩)
theorem cM_drop {c : Int32} (hM : z_Mo h a m) (hR : z_Rel x m) (q : z_mQ (z_fChg x (7, c, 0, 0, 0)) h a Q) : z_W G 4 0 0 198 0 (z_L0 198 [.ref a, .int c]) [] h Q := by
  have aft : ∀ (r : Int32) (hh : z_H) (mm : z_MV), z_Mo hh a mm → z_Aft x (7, c, 0, 0, 0) m mm r → z_Fr a 9 h hh → z_W G 4 0 0 198 10 [.ref a, .int c] [.int r, .ref a] hh Q := by
    intro r hh mm hD hA hF
    refine z_callV (av := [_]) rfl z_w168 hD.1 rfl rfl rfl rfl rfl (Nat.le_of_ble_eq_true rfl) (Nat.le_of_ble_eq_true rfl) (Nat.le_of_ble_eq_true rfl) (Nat.le_of_ble_eq_true rfl) (cM_keptOp (o := (7, c, 0, 0, 0)) (show (7 : Nat) < 10 by decide) hR hD hA hF (fun h9 m9 r9 hM9 hR9 ht9 hF9 hr9 => ?_))
    refine z_iret rfl rfl ?_
    exact q h9 m9 r9 hM9 hR9 ht9 hF9 hr9
  refine z_aload_n rfl rfl ?_
  refine z_callV (av := []) rfl z_w167 hM.1 rfl rfl rfl rfl rfl (Nat.le_of_ble_eq_true rfl) (Nat.le_of_ble_eq_true rfl) (Nat.le_of_ble_eq_true rfl) (Nat.le_of_ble_eq_true rfl) (cM_looksBack hM (fun h1 m1 hM1 e1 e2 e3 hF1 => ?_))
  refine z_aload_n rfl rfl ?_
  refine z_aload_n rfl rfl ?_
  refine z_iload_n rfl rfl ?_
  have hg1 : z_gOk x.1 (m1.2 1) := by
    rw [e2 1 (by decide)]; exact hR.1.2
  refine z_callV (av := [_]) rfl z_w197 hM1.1 rfl rfl rfl rfl rfl (Nat.le_of_ble_eq_true rfl) (Nat.le_of_ble_eq_true rfl) (Nat.le_of_ble_eq_true rfl) (Nat.le_of_ble_eq_true rfl) (cM_drops (v := x.1) (c := 0) (t := 0) (u := 0) hM1.gf hg1 hR.1.1 ⟨fun pr hr h2 hM2 hF2 => aft 0 h2 _ hM2 (z_Aft.no hr e1 e2 e3) (hF1.trans hF2), fun hr h2 m2 hM2 hd2 hg2 hF2 => aft _ h2 m2 hM2 (z_Aft.yes hr hd2 hg2 e1 e2 e3) (hF1.trans hF2)⟩)
theorem cM_vote (hM : z_Mo h a m) (hR : z_Rel x m) (q : z_mQ (z_fChg x (8, 0, 0, 0, 0)) h a Q) : z_W G 4 0 0 203 0 (z_L0 203 [.ref a]) [] h Q := by
  have aft : ∀ (r : Int32) (hh : z_H) (mm : z_MV), z_Mo hh a mm → z_Aft x (8, 0, 0, 0, 0) m mm r → z_Fr a 9 h hh → z_W G 4 0 0 203 9 [.ref a] [.int r, .ref a] hh Q := by
    intro r hh mm hD hA hF
    refine z_callV (av := [_]) rfl z_w168 hD.1 rfl rfl rfl rfl rfl (Nat.le_of_ble_eq_true rfl) (Nat.le_of_ble_eq_true rfl) (Nat.le_of_ble_eq_true rfl) (Nat.le_of_ble_eq_true rfl) (cM_keptOp (o := (8, 0, 0, 0, 0)) (show (8 : Nat) < 10 by decide) hR hD hA hF (fun h9 m9 r9 hM9 hR9 ht9 hF9 hr9 => ?_))
    refine z_iret rfl rfl ?_
    exact q h9 m9 r9 hM9 hR9 ht9 hF9 hr9
  refine z_aload_n rfl rfl ?_
  refine z_callV (av := []) rfl z_w167 hM.1 rfl rfl rfl rfl rfl (Nat.le_of_ble_eq_true rfl) (Nat.le_of_ble_eq_true rfl) (Nat.le_of_ble_eq_true rfl) (Nat.le_of_ble_eq_true rfl) (cM_looksBack hM (fun h1 m1 hM1 e1 e2 e3 hF1 => ?_))
  refine z_aload_n rfl rfl ?_
  refine z_aload_n rfl rfl ?_
  have hg1 : z_gOk x.1 (m1.2 1) := by
    rw [e2 1 (by decide)]; exact hR.1.2
  refine z_callV (av := []) rfl z_w202 hM1.1 rfl rfl rfl rfl rfl (Nat.le_of_ble_eq_true rfl) (Nat.le_of_ble_eq_true rfl) (Nat.le_of_ble_eq_true rfl) (Nat.le_of_ble_eq_true rfl) (cM_votes (v := x.1) (s := 0) (l := 0) (t := 0) (u := 0) hM1.gf hg1 hR.1.1 ⟨fun pr hr h2 hM2 hF2 => aft 0 h2 _ hM2 (z_Aft.no hr e1 e2 e3) (hF1.trans hF2), fun hr h2 m2 hM2 hd2 hg2 hF2 => aft _ h2 m2 hM2 (z_Aft.yes hr hd2 hg2 e1 e2 e3) (hF1.trans hF2)⟩)
theorem cM_hour {c : Int32} (hM : z_Mo h a m) (hR : z_Rel x m) (q : z_mQ (z_fChg x (9, c, 0, 0, 0)) h a Q) : z_W G 4 0 0 207 0 (z_L0 207 [.ref a, .int c]) [] h Q := by
  have aft : ∀ (r : Int32) (hh : z_H) (mm : z_MV), z_Mo hh a mm → z_Aft x (9, c, 0, 0, 0) m mm r → z_Fr a 9 h hh → z_W G 4 0 0 207 10 [.ref a, .int c] [.int r, .ref a] hh Q := by
    intro r hh mm hD hA hF
    refine z_callV (av := [_]) rfl z_w168 hD.1 rfl rfl rfl rfl rfl (Nat.le_of_ble_eq_true rfl) (Nat.le_of_ble_eq_true rfl) (Nat.le_of_ble_eq_true rfl) (Nat.le_of_ble_eq_true rfl) (cM_keptOp (o := (9, c, 0, 0, 0)) (show (9 : Nat) < 10 by decide) hR hD hA hF (fun h9 m9 r9 hM9 hR9 ht9 hF9 hr9 => ?_))
    refine z_iret rfl rfl ?_
    exact q h9 m9 r9 hM9 hR9 ht9 hF9 hr9
  refine z_aload_n rfl rfl ?_
  refine z_callV (av := []) rfl z_w167 hM.1 rfl rfl rfl rfl rfl (Nat.le_of_ble_eq_true rfl) (Nat.le_of_ble_eq_true rfl) (Nat.le_of_ble_eq_true rfl) (Nat.le_of_ble_eq_true rfl) (cM_looksBack hM (fun h1 m1 hM1 e1 e2 e3 hF1 => ?_))
  refine z_aload_n rfl rfl ?_
  refine z_aload_n rfl rfl ?_
  refine z_iload_n rfl rfl ?_
  have hg1 : z_gOk x.1 (m1.2 1) := by
    rw [e2 1 (by decide)]; exact hR.1.2
  refine z_callV (av := [_]) rfl z_w206 hM1.1 rfl rfl rfl rfl rfl (Nat.le_of_ble_eq_true rfl) (Nat.le_of_ble_eq_true rfl) (Nat.le_of_ble_eq_true rfl) (Nat.le_of_ble_eq_true rfl) (cM_hoursGo (v := x.1) (s := 0) (t := 0) (u := 0) hM1.gf hg1 hR.1.1 ⟨fun pr hr h2 hM2 hF2 => aft 0 h2 _ hM2 (z_Aft.no hr e1 e2 e3) (hF1.trans hF2), fun hr h2 m2 hM2 hd2 hg2 hF2 => aft _ h2 m2 hM2 (z_Aft.yes hr hd2 hg2 e1 e2 e3) (hF1.trans hF2)⟩)
end ZCg
