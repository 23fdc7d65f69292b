/-! does, refusesText. -/
section ZDo
variable {G : z_G} {h : z_H} {Q : z_O → z_H → Prop} {a K : Nat} {m : z_MV} {v : z_HV} {g : Nat → Int32} {o : z_OV} {vs : List Int32}
theorem cM_does (hK : K + 3 < 240) (hM : z_Mo h a (z_mF m 1 g)) (hg : z_gOk v g) (hw : z_wf v) (hv : z_Tv vs o) (hT : ∀ i, i < vs.length → i < 4 → m.2 8 (K + i) = vs.getD i 0) (q : z_opQ v o h a (z_mF m 1 g) Q) : z_W G 4 0 0 242 0 (z_L0 242 [.ref a, .int (nI K)]) [] h Q := by
  obtain ⟨k, o1, o2, o3, o4⟩ := o
  obtain ⟨t0, hk, t1, t2, t3, tl⟩ := hv
  have hk : k < 10 := hk
  have e0 : m.2 8 K = nI ((z_frm k).getD 0 0) := (hT 0 tl (by decide)).trans t0
  have hd : z_Mo h a (z_mF m 1 g) := hM
  have sw : ∀ (x : Int32), x = nI ((z_frm k).getD 0 0) → z_W G 4 0 0 242 24 [.ref a, .int (nI K), .int (m.2 8 (K + 1)), .int (m.2 8 (K + 2))] [.int x] h Q := by
    intro x hx
    subst hx
    rcases (show k = 0 ∨ k = 1 ∨ k = 2 ∨ k = 3 ∨ k = 4 ∨ k = 5 ∨ k = 6 ∨ k = 7 ∨ k = 8 ∨ k = 9 by omega) with rfl | rfl | rfl | rfl | rfl | rfl | rfl | rfl | rfl | rfl
    · refine z_tswI (x := nI 99) (o := 108) (t := 132) rfl (by decide) (by decide) rfl rfl ?_
      have e1 : m.2 8 (K + 1) = o1 := (hT 1 (t1 (show ¬ 0 = 8 by decide)).1 (by decide)).trans (t1 (show ¬ 0 = 8 by decide)).2
      have e2 : m.2 8 (K + 2) = o2 := (hT 2 (t2 (show 0 = 0 ∨ 0 = 2 ∨ 0 = 3 ∨ 0 = 4 ∨ 0 = 5 ∨ 0 = 6 by decide)).1 (by decide)).trans (t2 (show 0 = 0 ∨ 0 = 2 ∨ 0 = 3 ∨ 0 = 4 ∨ 0 = 5 ∨ 0 = 6 by decide)).2
      refine z_aload_n rfl rfl ?_
      refine z_iload_n rfl rfl ?_
      refine z_iload_n rfl rfl ?_
      rw [e1, e2]
      refine z_callV (av := [_, _]) rfl z_w175 hM.1 rfl rfl rfl rfl rfl (Nat.le_of_ble_eq_true rfl) (Nat.le_of_ble_eq_true rfl) (Nat.le_of_ble_eq_true rfl) (Nat.le_of_ble_eq_true rfl) (cM_comes (v := v) (t := o3) (u := o4) hM hg hw ⟨fun pr hr h2 hM2 hF2 => z_iret rfl rfl (q.1 pr hr h2 hM2 hF2), fun hr h2 m2 hM2 hd2 hg2 hF2 => z_iret rfl rfl (q.2 hr h2 m2 hM2 hd2 hg2 hF2)⟩)
    · refine z_tswI (x := nI 108) (o := 115) (t := 139) rfl (by decide) (by decide) rfl rfl ?_
      have e1 : m.2 8 (K + 1) = o1 := (hT 1 (t1 (show ¬ 1 = 8 by decide)).1 (by decide)).trans (t1 (show ¬ 1 = 8 by decide)).2
      refine z_aload_n rfl rfl ?_
      refine z_iload_n rfl rfl ?_
      rw [e1]
      refine z_callV (av := [_]) rfl z_w179 hM.1 rfl rfl rfl rfl rfl (Nat.le_of_ble_eq_true rfl) (Nat.le_of_ble_eq_true rfl) (Nat.le_of_ble_eq_true rfl) (Nat.le_of_ble_eq_true rfl) (cM_leaves (v := v) (s := o2) (t := o3) (u := o4) hM hg hw ⟨fun pr hr h2 hM2 hF2 => z_iret rfl rfl (q.1 pr hr h2 hM2 hF2), fun hr h2 m2 hM2 hd2 hg2 hF2 => z_iret rfl rfl (q.2 hr h2 m2 hM2 hd2 hg2 hF2)⟩)
    · refine z_tswI (x := nI 107) (o := 121) (t := 145) rfl (by decide) (by decide) rfl rfl ?_
      have e1 : m.2 8 (K + 1) = o1 := (hT 1 (t1 (show ¬ 2 = 8 by decide)).1 (by decide)).trans (t1 (show ¬ 2 = 8 by decide)).2
      have e2 : m.2 8 (K + 2) = o2 := (hT 2 (t2 (show 2 = 0 ∨ 2 = 2 ∨ 2 = 3 ∨ 2 = 4 ∨ 2 = 5 ∨ 2 = 6 by decide)).1 (by decide)).trans (t2 (show 2 = 0 ∨ 2 = 2 ∨ 2 = 3 ∨ 2 = 4 ∨ 2 = 5 ∨ 2 = 6 by decide)).2
      refine z_aload_n rfl rfl ?_
      refine z_iload_n rfl rfl ?_
      refine z_iload_n rfl rfl ?_
      rw [e1, e2]
      refine z_callV (av := [_, _]) rfl z_w181 hM.1 rfl rfl rfl rfl rfl (Nat.le_of_ble_eq_true rfl) (Nat.le_of_ble_eq_true rfl) (Nat.le_of_ble_eq_true rfl) (Nat.le_of_ble_eq_true rfl) (cM_gives (v := v) (t := o3) (u := o4) hM hg hw ⟨fun pr hr h2 hM2 hF2 => z_iret rfl rfl (q.1 pr hr h2 hM2 hF2), fun hr h2 m2 hM2 hd2 hg2 hF2 => z_iret rfl rfl (q.2 hr h2 m2 hM2 hd2 hg2 hF2)⟩)
    · refine z_tswI (x := nI 119) (o := 128) (t := 152) rfl (by decide) (by decide) rfl rfl ?_
      have e1 : m.2 8 (K + 1) = o1 := (hT 1 (t1 (show ¬ 3 = 8 by decide)).1 (by decide)).trans (t1 (show ¬ 3 = 8 by decide)).2
      have e2 : m.2 8 (K + 2) = o2 := (hT 2 (t2 (show 3 = 0 ∨ 3 = 2 ∨ 3 = 3 ∨ 3 = 4 ∨ 3 = 5 ∨ 3 = 6 by decide)).1 (by decide)).trans (t2 (show 3 = 0 ∨ 3 = 2 ∨ 3 = 3 ∨ 3 = 4 ∨ 3 = 5 ∨ 3 = 6 by decide)).2
      refine z_aload_n rfl rfl ?_
      refine z_iload_n rfl rfl ?_
      refine z_iload_n rfl rfl ?_
      rw [e1, e2]
      refine z_callV (av := [_, _]) rfl z_w183 hM.1 rfl rfl rfl rfl rfl (Nat.le_of_ble_eq_true rfl) (Nat.le_of_ble_eq_true rfl) (Nat.le_of_ble_eq_true rfl) (Nat.le_of_ble_eq_true rfl) (cM_winds (v := v) (t := o3) (u := o4) hM hg hw ⟨fun pr hr h2 hM2 hF2 => z_iret rfl rfl (q.1 pr hr h2 hM2 hF2), fun hr h2 m2 hM2 hd2 hg2 hF2 => z_iret rfl rfl (q.2 hr h2 m2 hM2 hd2 hg2 hF2)⟩)
    · refine z_tswI (x := nI 109) (o := 135) (t := 159) rfl (by decide) (by decide) rfl rfl ?_
      have e1 : m.2 8 (K + 1) = o1 := (hT 1 (t1 (show ¬ 4 = 8 by decide)).1 (by decide)).trans (t1 (show ¬ 4 = 8 by decide)).2
      have e2 : m.2 8 (K + 2) = o2 := (hT 2 (t2 (show 4 = 0 ∨ 4 = 2 ∨ 4 = 3 ∨ 4 = 4 ∨ 4 = 5 ∨ 4 = 6 by decide)).1 (by decide)).trans (t2 (show 4 = 0 ∨ 4 = 2 ∨ 4 = 3 ∨ 4 = 4 ∨ 4 = 5 ∨ 4 = 6 by decide)).2
      refine z_aload_n rfl rfl ?_
      refine z_iload_n rfl rfl ?_
      refine z_iload_n rfl rfl ?_
      rw [e1, e2]
      refine z_callV (av := [_, _]) rfl z_w185 hM.1 rfl rfl rfl rfl rfl (Nat.le_of_ble_eq_true rfl) (Nat.le_of_ble_eq_true rfl) (Nat.le_of_ble_eq_true rfl) (Nat.le_of_ble_eq_true rfl) (cM_moves (v := v) (t := o3) (u := o4) hM hg hw ⟨fun pr hr h2 hM2 hF2 => z_iret rfl rfl (q.1 pr hr h2 hM2 hF2), fun hr h2 m2 hM2 hd2 hg2 hF2 => z_iret rfl rfl (q.2 hr h2 m2 hM2 hd2 hg2 hF2)⟩)
    · refine z_tswI (x := nI 98) (o := 142) (t := 166) rfl (by decide) (by decide) rfl rfl ?_
      have e1 : m.2 8 (K + 1) = o1 := (hT 1 (t1 (show ¬ 5 = 8 by decide)).1 (by decide)).trans (t1 (show ¬ 5 = 8 by decide)).2
      have e2 : m.2 8 (K + 2) = o2 := (hT 2 (t2 (show 5 = 0 ∨ 5 = 2 ∨ 5 = 3 ∨ 5 = 4 ∨ 5 = 5 ∨ 5 = 6 by decide)).1 (by decide)).trans (t2 (show 5 = 0 ∨ 5 = 2 ∨ 5 = 3 ∨ 5 = 4 ∨ 5 = 5 ∨ 5 = 6 by decide)).2
      have e3 : m.2 8 (K + 3) = o3 := (hT 3 (t3 rfl).1 (by decide)).trans (t3 rfl).2
      refine z_aload_n rfl rfl ?_
      refine z_iload_n rfl rfl ?_
      refine z_iload_n rfl rfl ?_
      refine z_aload_n rfl rfl ?_
      refine z_get rfl hM.1 rfl ?_
      refine z_iload_n rfl rfl ?_
      refine z_iconst (v := 3) rfl (by decide) ?_
      refine z_iadd rfl ?_
      refine z_ildE rfl (hM.2 8 (by decide)) (k := K + 3) (nI_add K 3) (show K + 3 < 240 by omega) ?_
      rw [e1, e2, show (z_mF m 1 g).2 8 (K + 3) = o3 from e3]
      refine z_callV (av := [_, _, _]) rfl z_w190 hM.1 rfl rfl rfl rfl rfl (Nat.le_of_ble_eq_true rfl) (Nat.le_of_ble_eq_true rfl) (Nat.le_of_ble_eq_true rfl) (Nat.le_of_ble_eq_true rfl) (cM_tables (v := v) (u := o4) hM hg hw ⟨fun pr hr h2 hM2 hF2 => z_iret rfl rfl (q.1 pr hr h2 hM2 hF2), fun hr h2 m2 hM2 hd2 hg2 hF2 => z_iret rfl rfl (q.2 hr h2 m2 hM2 hd2 hg2 hF2)⟩)
    · refine z_tswI (x := nI 97) (o := 157) (t := 181) rfl (by decide) (by decide) rfl rfl ?_
      have e1 : m.2 8 (K + 1) = o1 := (hT 1 (t1 (show ¬ 6 = 8 by decide)).1 (by decide)).trans (t1 (show ¬ 6 = 8 by decide)).2
      have e2 : m.2 8 (K + 2) = o2 := (hT 2 (t2 (show 6 = 0 ∨ 6 = 2 ∨ 6 = 3 ∨ 6 = 4 ∨ 6 = 5 ∨ 6 = 6 by decide)).1 (by decide)).trans (t2 (show 6 = 0 ∨ 6 = 2 ∨ 6 = 3 ∨ 6 = 4 ∨ 6 = 5 ∨ 6 = 6 by decide)).2
      refine z_aload_n rfl rfl ?_
      refine z_iload_n rfl rfl ?_
      refine z_iload_n rfl rfl ?_
      rw [e1, e2]
      refine z_callV (av := [_, _]) rfl z_w194 hM.1 rfl rfl rfl rfl rfl (Nat.le_of_ble_eq_true rfl) (Nat.le_of_ble_eq_true rfl) (Nat.le_of_ble_eq_true rfl) (Nat.le_of_ble_eq_true rfl) (cM_adjourns (v := v) (t := o3) (u := o4) hM hg hw ⟨fun pr hr h2 hM2 hF2 => z_iret rfl rfl (q.1 pr hr h2 hM2 hF2), fun hr h2 m2 hM2 hd2 hg2 hF2 => z_iret rfl rfl (q.2 hr h2 m2 hM2 hd2 hg2 hF2)⟩)
    · refine z_tswI (x := nI 100) (o := 164) (t := 188) rfl (by decide) (by decide) rfl rfl ?_
      have e1 : m.2 8 (K + 1) = o1 := (hT 1 (t1 (show ¬ 7 = 8 by decide)).1 (by decide)).trans (t1 (show ¬ 7 = 8 by decide)).2
      refine z_aload_n rfl rfl ?_
      refine z_iload_n rfl rfl ?_
      rw [e1]
      refine z_callV (av := [_]) rfl z_w197 hM.1 rfl rfl rfl rfl rfl (Nat.le_of_ble_eq_true rfl) (Nat.le_of_ble_eq_true rfl) (Nat.le_of_ble_eq_true rfl) (Nat.le_of_ble_eq_true rfl) (cM_drops (v := v) (c := o2) (t := o3) (u := o4) hM hg hw ⟨fun pr hr h2 hM2 hF2 => z_iret rfl rfl (q.1 pr hr h2 hM2 hF2), fun hr h2 m2 hM2 hd2 hg2 hF2 => z_iret rfl rfl (q.2 hr h2 m2 hM2 hd2 hg2 hF2)⟩)
    · refine z_tswI (x := nI 118) (o := 170) (t := 194) rfl (by decide) (by decide) rfl rfl ?_
      refine z_aload_n rfl rfl ?_
      refine z_callV (av := []) rfl z_w202 hM.1 rfl rfl rfl rfl rfl (Nat.le_of_ble_eq_true rfl) (Nat.le_of_ble_eq_true rfl) (Nat.le_of_ble_eq_true rfl) (Nat.le_of_ble_eq_true rfl) (cM_votes (v := v) (s := o1) (l := o2) (t := o3) (u := o4) hM hg hw ⟨fun pr hr h2 hM2 hF2 => z_iret rfl rfl (q.1 pr hr h2 hM2 hF2), fun hr h2 m2 hM2 hd2 hg2 hF2 => z_iret rfl rfl (q.2 hr h2 m2 hM2 hd2 hg2 hF2)⟩)
    · refine z_tswI (x := nI 104) (o := 175) (t := 199) rfl (by decide) (by decide) rfl rfl ?_
      have e1 : m.2 8 (K + 1) = o1 := (hT 1 (t1 (show ¬ 9 = 8 by decide)).1 (by decide)).trans (t1 (show ¬ 9 = 8 by decide)).2
      refine z_aload_n rfl rfl ?_
      refine z_iload_n rfl rfl ?_
      rw [e1]
      refine z_callV (av := [_]) rfl z_w206 hM.1 rfl rfl rfl rfl rfl (Nat.le_of_ble_eq_true rfl) (Nat.le_of_ble_eq_true rfl) (Nat.le_of_ble_eq_true rfl) (Nat.le_of_ble_eq_true rfl) (cM_hoursGo (v := v) (s := o2) (t := o3) (u := o4) hM hg hw ⟨fun pr hr h2 hM2 hF2 => z_iret rfl rfl (q.1 pr hr h2 hM2 hF2), fun hr h2 m2 hM2 hd2 hg2 hF2 => z_iret rfl rfl (q.2 hr h2 m2 hM2 hd2 hg2 hF2)⟩)
  refine z_aload_n rfl rfl ?_
  refine z_get rfl hM.1 rfl ?_
  refine z_iload_n rfl rfl ?_
  refine z_iconst (v := 1) rfl (by decide) ?_
  refine z_iadd rfl ?_
  refine z_ildE rfl (hM.2 8 (by decide)) (k := K + 1) (nI_1 K) (show K + 1 < 240 by omega) ?_
  refine z_istore_n rfl (by decide +kernel) rfl ?_
  refine z_aload_n rfl rfl ?_
  refine z_get rfl hM.1 rfl ?_
  refine z_iload_n rfl rfl ?_
  refine z_iconst (v := 2) rfl (by decide) ?_
  refine z_iadd rfl ?_
  refine z_ildE rfl (hM.2 8 (by decide)) (k := K + 2) (nI_add K 2) (show K + 2 < 240 by omega) ?_
  refine z_istore_n rfl (by decide +kernel) rfl ?_
  refine z_aload_n rfl rfl ?_
  refine z_get rfl hM.1 rfl ?_
  refine z_iload_n rfl rfl ?_
  refine z_ildE rfl (hM.2 8 (by decide)) (k := K) rfl (show K < 240 by omega) ?_
  exact sw _ e0
theorem cM_refusesText {d : Int32} (hM : z_Mo h a m) (q : ∀ h' m', z_Mo h' a m' → m'.1 10 = 11 → m'.1 11 = d → m'.1 12 = m.1 10 → m'.1 13 = m.1 11 → m'.1 16 = 2 → (∀ i, i < 10 ∨ i = 15 → m'.1 i = m.1 i) → m'.2 = m.2 → z_Fr a 9 h h' → Q (.inl (some (.int 0))) h') : z_W G 2 0 0 243 0 (z_L0 243 [.ref a, .int d]) [] h Q := by
  refine z_aload_n rfl rfl ?_
  refine z_get rfl hM.1 rfl ?_
  refine z_istore_n rfl (by decide +kernel) rfl ?_
  refine z_aload_n rfl rfl ?_
  refine z_get rfl hM.1 rfl ?_
  refine z_istore_n rfl (by decide +kernel) rfl ?_
  refine z_aload_n rfl rfl ?_
  refine z_bipush (v := 11) rfl (by decide) ?_
  refine z_iload_n rfl rfl ?_
  refine z_callV (av := [_, _]) rfl z_w165 hM.1 rfl rfl rfl rfl rfl (Nat.le_of_ble_eq_true rfl) (Nat.le_of_ble_eq_true rfl) (Nat.le_of_ble_eq_true rfl) (Nat.le_of_ble_eq_true rfl) (cM_refused hM (fun h8 hM8 hF8 => ?_))
  refine z_istore rfl (by decide +kernel) rfl ?_
  refine z_aload_n rfl rfl ?_
  refine z_iload_n rfl rfl ?_
  refine z_putM rfl hM8 (by decide) rfl rfl (fun h1 hC1 hF1 => ?_)
  refine z_aload_n rfl rfl ?_
  refine z_iload_n rfl rfl ?_
  refine z_putM rfl hC1 (by decide) rfl rfl (fun h2 hC2 hF2 => ?_)
  refine z_aload_n rfl rfl ?_
  refine z_iconst (v := 2) rfl (by decide) ?_
  refine z_callV (av := [_]) rfl z_w164 hC2.1 rfl rfl rfl rfl rfl (Nat.le_of_ble_eq_true rfl) (Nat.le_of_ble_eq_true rfl) (Nat.le_of_ble_eq_true rfl) (Nat.le_of_ble_eq_true rfl) (cM_fails hC2 (fun h9 hM9 hF9 => ?_))
  refine z_iret rfl rfl ?_
  refine q _ _ hM9 rfl rfl rfl rfl rfl (fun i hi => ?_) rfl (hF8.trans ((hF1.trans hF2).trans hF9))
  show (if i = 16 then (2 : Int32) else if i = 13 then m.1 11 else if i = 12 then m.1 10 else (z_mRf m (11, d)).1 i) = m.1 i
  rw [if_neg (by omega), if_neg (by omega), if_neg (by omega)]
  show (if i = 16 then (1 : Int32) else if i = 13 then 0 else if i = 12 then 0 else if i = 11 then d else if i = 10 then 11 else m.1 i) = m.1 i
  rw [if_neg (by omega), if_neg (by omega), if_neg (by omega), if_neg (by omega), if_neg (by omega)]
end ZDo
