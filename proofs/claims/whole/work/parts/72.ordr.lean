/-! The model's reading of an order. -/
theorem z_bdF (l : List Nat) (c : Nat) (cs : List Nat) (s : z_PR) (hc : c ≠ 63) : z_bd s (z_rdF l (c :: cs)) = z_bd (z_bd s (z_prt l c)) (z_rdF l cs) := by
  obtain ⟨ok, p, o⟩ := s
  cases ok with
  | false => rfl
  | true =>
    show z_rdF l (c :: cs) p o = z_bd (z_prt l c p o) (z_rdF l cs)
    rw [z_rdF_cons, if_neg hc]
    unfold z_bd
    by_cases e : (z_prt l c p o).1 = true
    · rw [if_pos e, if_pos e]
    · rw [if_neg e, if_neg e, ← Bool.not_eq_true _ |>.mp e]
theorem z_bdN (l : List Nat) (s : z_PR) : z_bd s (z_rdF l []) = s := by
  obtain ⟨ok, p, o⟩ := s
  cases ok <;> rfl
theorem z_bd_ok {s : z_PR} {f : Nat → z_OV → z_PR} (h : (z_bd s f).1 = true) : s.1 = true := by
  unfold z_bd at h
  by_cases e : s.1 = true
  · exact e
  · rw [if_neg e] at h; exact h
theorem z_bd_skp (l : List Nat) (c : Nat) (s : z_PR) : (z_bd s (z_skp l c)).2.2 = s.2.2 := by
  unfold z_bd z_skp
  split
  · split <;> rfl
  · rfl
/-- what is told of an order, from place K on -/
def z_Ts (m mm : z_MV) (K : Nat) (vs : List Int32) : Prop := (∀ i, i ≠ 17 → i ≠ 18 → mm.1 i = m.1 i) ∧ (∀ j, j ≠ 8 → mm.2 j = m.2 j) ∧ (∀ q, q < K → mm.2 8 q = m.2 8 q) ∧ ∀ i, i < vs.length → mm.2 8 (K + i) = vs.getD i 0
theorem z_Ts.on {m mm m2 : z_MV} {K : Nat} {vs : List Int32} (h : z_Ts m mm K vs) (r : z_onR mm m2) : z_Ts m m2 K vs := ⟨fun i h1 h2 => (r.1 i h1 h2).trans (h.1 i h1 h2), fun j hj => by rw [r.2]; exact h.2.1 j hj, fun q hq => by rw [r.2]; exact h.2.2.1 q hq, fun i hi => by rw [r.2]; exact h.2.2.2 i hi⟩
theorem z_getV {vs : List Int32} {v : Int32} {i : Nat} : (vs ++ [v]).getD i 0 = if i < vs.length then vs.getD i 0 else if i = vs.length then v else 0 := by
  simp only [List.getD_eq_getElem?_getD]
  by_cases h : i < vs.length
  · rw [if_pos h, List.getElem?_append_left h]
  · rw [if_neg h]
    by_cases e : i = vs.length
    · rw [if_pos e, e, List.getElem?_append_right (Nat.le_refl _), Nat.sub_self]; rfl
    · rw [if_neg e, List.getElem?_eq_none (by simp; omega)]; rfl
theorem z_Ts.put {m mm m2 : z_MV} {K n : Nat} {vs : List Int32} {v : Int32} (h : z_Ts m mm K vs) (r : z_onR mm m2) (hn : n = K + vs.length) : z_Ts m (z_mF m2 8 (upd (m2.2 8) n v)) K (vs ++ [v]) := by
  obtain ⟨h1, h2, h3, h4⟩ := h.on r
  subst hn
  refine ⟨h1, fun j hj => (if_neg hj).trans (h2 j hj), fun q hq => ?_, fun i hi => ?_⟩
  · show upd (m2.2 8) (K + vs.length) v q = _
    rw [z_updN _ _ (by omega)]; exact h3 q hq
  · rw [List.length_append] at hi
    have hi2 : i < vs.length + 1 := hi
    show upd (m2.2 8) (K + vs.length) v (K + i) = _
    rw [z_getV]
    by_cases e : i = vs.length
    · rw [e, z_updE (α := Nat), if_neg (by omega), if_pos rfl]
    · rw [z_updN _ _ (by omega), if_pos (by omega)]; exact h4 i (by omega)
section ZOr
variable {G : z_G} {h : z_H} {Q : z_O → z_H → Prop} {a K : Nat} {m m0 : z_MV} {l : List Nat} {s : z_PR}
theorem cM_readsAdjourn {vs : List Int32} (hK : K + 3 < 240) (hv : vs.length = 1) (hM : z_Mo h a m) (hP : z_Pm m l s) (hT : z_Ts m0 m K vs) (q : ∀ h' m' v1 v2, z_Mo h' a m' → z_Pm m' l (z_bd s (z_rdF l [100, 106, 111, 117, 114, 110, 32, 68, 32, 78])) → z_Ts m0 m' K (vs ++ [v1] ++ [v2]) → ((z_bd s (z_rdF l [100, 106, 111, 117, 114, 110, 32, 68, 32, 78])).1 = true → (z_bd s (z_rdF l [100, 106, 111, 117, 114, 110, 32, 68, 32, 78])).2.2 = z_tk (z_tk s.2.2 v1) v2) → z_Fr a 9 h h' → Q (.inl none) h') : z_W G 3 0 0 240 0 (z_L0 240 [.ref a, .int (nI K)]) [] h Q := by
  rw [z_bdF _ _ _ _ (by decide), z_bdF _ _ _ _ (by decide), z_bdF _ _ _ _ (by decide), z_bdF _ _ _ _ (by decide), z_bdF _ _ _ _ (by decide), z_bdF _ _ _ _ (by decide), z_bdF _ _ _ _ (by decide), z_bdF _ _ _ _ (by decide), z_bdF _ _ _ _ (by decide), z_bdF _ _ _ _ (by decide), z_bdN] at q
  refine z_aload_n rfl rfl ?_
  refine z_bipush (v := 100) rfl (by decide) ?_
  refine z_bipush (v := 106) rfl (by decide) ?_
  refine z_bipush (v := 111) rfl (by decide) ?_
  refine z_callV (av := [_, _, _]) rfl z_w237 hM.1 rfl rfl rfl rfl rfl (Nat.le_of_ble_eq_true rfl) (Nat.le_of_ble_eq_true rfl) (Nat.le_of_ble_eq_true rfl) (Nat.le_of_ble_eq_true rfl) (cM_needsThree (c := 100) (d := 106) (e := 111) (by decide) (by decide) (by decide) hM hP (fun ha m1 hM1 hP1 r1 hF1_ => ?_))
  refine z_aload_n rfl rfl ?_
  refine z_bipush (v := 117) rfl (by decide) ?_
  refine z_bipush (v := 114) rfl (by decide) ?_
  refine z_bipush (v := 110) rfl (by decide) ?_
  refine z_callV (av := [_, _, _]) rfl z_w237 hM1.1 rfl rfl rfl rfl rfl (Nat.le_of_ble_eq_true rfl) (Nat.le_of_ble_eq_true rfl) (Nat.le_of_ble_eq_true rfl) (Nat.le_of_ble_eq_true rfl) (cM_needsThree (c := 117) (d := 114) (e := 110) (by decide) (by decide) (by decide) hM1 hP1 (fun hb m2 hM2 hP2 r2 hF2_ => ?_))
  refine z_aload_n rfl rfl ?_
  refine z_get rfl hM2.1 rfl ?_
  refine z_iload_n rfl rfl ?_
  refine z_iconst (v := 1) rfl (by decide) ?_
  refine z_iadd rfl ?_
  refine z_aload_n rfl rfl ?_
  refine z_iconst (v := 1) rfl (by decide) ?_
  refine z_callV (av := [_]) rfl z_w238 hM2.1 rfl rfl rfl rfl rfl (Nat.le_of_ble_eq_true rfl) (Nat.le_of_ble_eq_true rfl) (Nat.le_of_ble_eq_true rfl) (Nat.le_of_ble_eq_true rfl) (cM_figures (t := 1) (Or.inl rfl) hM2 hP2 (fun h3 m3 v1 hM3 hP3 hv3 r3 hF3_ => ?_))
  refine z_istM (j := 8) rfl hM3 (by decide) (k := K + 1) (nI_1 K) (show K + 1 < 240 by omega) (fun h1 hC1 hF1 => ?_)
  have T1 := hT.put (v := v1) (r1.trans (r2.trans r3)) (n := K + 1) (by omega)
  refine z_aload_n rfl rfl ?_
  refine z_get rfl hC1.1 rfl ?_
  refine z_iload_n rfl rfl ?_
  refine z_iconst (v := 2) rfl (by decide) ?_
  refine z_iadd rfl ?_
  refine z_aload_n rfl rfl ?_
  refine z_iconst (v := 2) rfl (by decide) ?_
  refine z_callV (av := [_]) rfl z_w238 hC1.1 rfl rfl rfl rfl rfl (Nat.le_of_ble_eq_true rfl) (Nat.le_of_ble_eq_true rfl) (Nat.le_of_ble_eq_true rfl) (Nat.le_of_ble_eq_true rfl) (cM_figures (t := 2) (Or.inr rfl) hC1 hP3 (fun h5 m5 v2 hM5 hP5 hv5 r5 hF5_ => ?_))
  refine z_istM (j := 8) rfl hM5 (by decide) (k := K + 2) (nI_add K 2) (show K + 2 < 240 by omega) (fun h2 hC2 hF2 => ?_)
  refine z_vret rfl rfl ?_
  refine q _ _ v1 v2 hC2 hP5 (T1.put r5 (by rw [List.length_append, hv]; rfl)) (fun e => ?_) (hF1_.trans (hF2_.trans (hF3_.trans (hF1.trans (hF5_.trans hF2)))))
  have e5 := hv5 e
  have e3 := hv3 (z_bd_ok (z_bd_ok e))
  rw [z_bd_skp] at e5 e3
  rw [z_bd_skp, z_bd_skp, z_bd_skp, z_bd_skp, z_bd_skp, z_bd_skp] at e3
  refine Eq.trans e5 ?_
  rw [e3]
theorem z_prK (l : List Nat) (p : Nat) (o : z_OV) : z_prt l 75 p o = if (z_rdD l p o).1 = true then z_rdD l p o else z_rdB l p o := rfl
end ZOr
