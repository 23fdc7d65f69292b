/-! The model's reading of a key. -/
section ZKy
variable {G : z_G} {h : z_H} {Q : z_O → z_H → Prop} {a K : Nat} {m m0 : z_MV} {l : List Nat} {s : z_PR}
theorem z_keyE {l : List Nat} {s : z_PR} (hn : ¬ (s.1 = true ∧ z_here l s.2.1 = 32 ∧ z_here l (s.2.1 + 1) = 45)) : z_bd (z_bd s (z_skp l 32)) (z_prt l 75) = z_bd (z_bd s (z_skp l 32)) (z_rdM 1 l) := by
  obtain ⟨ok, p, o⟩ := s
  cases ok with
  | false => rfl
  | true =>
    show z_bd (z_skp l 32 p o) (z_prt l 75) = z_bd (z_skp l 32 p o) (z_rdM 1 l)
    unfold z_skp
    by_cases c : z_here l p = 32
    · rw [if_pos c]
      show (if (z_rdD l (p + 1) o).1 = true then z_rdD l (p + 1) o else z_rdB l (p + 1) o) = z_rdD l (p + 1) o
      by_cases e : (z_rdD l (p + 1) o).1 = true
      · rw [if_pos e]
      · rw [if_neg e]
        have e2 : z_rdD l (p + 1) o = (false, p + 1, o) := by
          unfold z_rdD at e ⊢
          cases d : z_dig l (p + 1) with
          | none => rfl
          | some x => rw [d] at e; exact absurd rfl e
        rw [e2]
        unfold z_rdB
        rw [if_neg (fun q => hn ⟨rfl, c, q⟩)]
    · rw [if_neg c]; rfl
theorem cM_readsKey {vs : List Int32} (hK : K + 3 < 240) (hv : vs.length = 1) (hM : z_Mo h a m) (hP : z_Pm m l s) (hT : z_Ts m0 m K vs) (q : ∀ h' m' v1 v2, z_Mo h' a m' → z_Pm m' l (z_bd s (z_rdF l [101, 121, 32, 68, 32, 75])) → z_Ts m0 m' K (vs ++ [v1] ++ [v2]) → ((z_bd s (z_rdF l [101, 121, 32, 68, 32, 75])).1 = true → (z_bd s (z_rdF l [101, 121, 32, 68, 32, 75])).2.2 = z_tk (z_tk s.2.2 v1) v2) → z_Fr a 9 h h' → Q (.inl none) h') : z_W G 3 0 0 239 0 (z_L0 239 [.ref a, .int (nI K)]) [] h Q := by
  rw [z_bdF _ _ _ _ (by decide), z_bdF _ _ _ _ (by decide), z_bdF _ _ _ _ (by decide), z_bdF _ _ _ _ (by decide), z_bdF _ _ _ _ (by decide), z_bdF _ _ _ _ (by decide), z_bdN] at q
  have rest : ∀ (s3 : z_PR) (hh : z_H) (m1 : z_MV) (v1 : Int32) (y : Value), z_Mo hh a m1 → z_Pm m1 l s3 → z_Ts m0 m1 K (vs ++ [v1]) → z_Fr a 9 h hh → (∀ h' m' v2, z_Mo h' a m' → z_Pm m' l (z_bd (z_bd s3 (z_skp l 32)) (z_prt l 75)) → z_Ts m0 m' K (vs ++ [v1] ++ [v2]) → ((z_bd (z_bd s3 (z_skp l 32)) (z_prt l 75)).1 = true → (z_bd (z_bd s3 (z_skp l 32)) (z_prt l 75)).2.2 = z_tk s3.2.2 v2) → z_Fr a 9 h h' → Q (.inl none) h') → z_W G 3 0 0 239 25 [.ref a, .int (nI K), y] [] hh Q := by
    intro s3 hh m1 v1 y hD hP1 hT1 hF hq
    have hP2 := hP1
    obtain ⟨ok, p, o⟩ := s3
    obtain ⟨hI, h17, h18, hp⟩ := hP1
    have h60 := hI.1.1
    have hp : p ≤ l.length := hp
    have hq17 : m1.1 17 = nI p := h17
    have lv : (vs ++ [v1]).length = 2 := by rw [List.length_append, hv]; rfl
    have no : ∀ (hn : ¬ ((ok, p, o).1 = true ∧ z_here l p = 32 ∧ z_here l (p + 1) = 45)), z_W G 3 0 0 239 75 [.ref a, .int (nI K), y] [.int (nI 0)] hh Q := by
      intro hn
      have ek := z_keyE (s := (ok, p, o)) hn
      rw [ek] at hq
      refine z_istore_n rfl (by decide +kernel) rfl ?_
      refine z_aload_n rfl rfl ?_
      refine z_dup rfl rfl ?_
      refine z_get rfl hD.1 rfl ?_
      refine z_iload_n rfl rfl ?_
      refine z_if_eq rfl (fun c82 => ?_) (fun c82 => absurd rfl c82)
      refine z_iconst (v := 0) rfl (by decide) ?_
      refine z_iadd rfl ?_
      rw [hq17, show nI p + 0 = nI p from Int32.add_zero _]
      refine z_putM rfl hD (by decide) rfl rfl (fun h1 hC1 hF1 => ?_)
      refine z_aload_n rfl rfl ?_
      refine z_get rfl hC1.1 rfl ?_
      refine z_iload_n rfl rfl ?_
      refine z_iconst (v := 2) rfl (by decide) ?_
      refine z_iadd rfl ?_
      refine z_iload_n rfl rfl ?_
      refine z_if_eq rfl (fun c102 => ?_) (fun c102 => absurd rfl c102)
      refine z_aload_n rfl rfl ?_
      refine z_iconst (v := 1) rfl (by decide) ?_
      refine z_callV (av := [_]) rfl z_w238 hC1.1 rfl rfl rfl rfl rfl (Nat.le_of_ble_eq_true rfl) (Nat.le_of_ble_eq_true rfl) (Nat.le_of_ble_eq_true rfl) (Nat.le_of_ble_eq_true rfl) (cM_figures (s := (ok, p, o)) (t := 1) (Or.inl rfl) hC1 (hP2.step (z_onR.s17 (nI p)) rfl h18 hp) (fun hc m5 v2 hM5 hP5 hv5 r5 hF5_ => ?_))
      refine z_istM (j := 8) rfl hM5 (by decide) (k := K + 2) (nI_add K 2) (show K + 2 < 240 by omega) (fun h2 hC2 hF2 => ?_)
      refine z_vret rfl rfl ?_
      refine hq _ _ v2 hC2 hP5 (hT1.put ((z_onR.s17 (nI p)).trans r5) (by rw [lv])) (fun e => ?_) (hF.trans (hF1.trans (hF5_.trans hF2)))
      have e5 := hv5 e
      rw [z_bd_skp] at e5
      exact e5
    cases ok with
    | false =>
      have h18 : m1.1 18 = 1 := h18
      refine z_aload_n rfl rfl ?_
      refine z_get rfl hD.1 rfl ?_
      rw [h18]
      refine z_if_ne rfl (fun c29 => ?_) (fun c29 => absurd c29 (by decide))
      refine z_iconst (v := nI 0) rfl (by decide) ?_
      exact no (fun e => Bool.noConfusion e.1)
    | true =>
      have h18 : m1.1 18 = 0 := h18
      by_cases c1 : z_here l p = 32
      · have hlt : p < l.length := z_hereP (by omega)
        have e1 : z_hr l p = 32 := (z_hrE hI.1 (c := 32) (by decide) (by decide)).mpr c1
        by_cases c2 : p + 1 < l.length
        · have ei : m1.2 6 (p + 1) = nI (z_here l (p + 1)) := hI.2.2 (p + 1) c2
          have hb := (z_hereIn hI.1 c2).2
          by_cases c3 : z_here l (p + 1) = 45
          · have er : z_bd (z_bd (true, p, o) (z_skp l 32)) (z_prt l 75) = (true, p + 2, z_tk o (-1)) := by
              have e1 : z_bd (true, p, o) (z_skp l 32) = (true, p + 1, o) := if_pos c1
              rw [e1]
              show (if (z_rdD l (p + 1) o).1 = true then z_rdD l (p + 1) o else z_rdB l (p + 1) o) = _
              have e2 : z_rdD l (p + 1) o = (false, p + 1, o) := by
                unfold z_rdD z_dig
                rw [if_neg (by omega)]
              rw [e2, if_neg Bool.false_ne_true]
              unfold z_rdB
              rw [if_pos c3]
            rw [er] at hq
            refine z_aload_n rfl rfl ?_
            refine z_get rfl hD.1 rfl ?_
            rw [h18]
            refine z_if_ne rfl (fun c29 => absurd rfl c29) (fun c29 => ?_)
            refine z_aload_n rfl rfl ?_
            refine z_callV (av := []) rfl z_w235 hD.1 rfl rfl rfl rfl rfl (Nat.le_of_ble_eq_true rfl) (Nat.le_of_ble_eq_true rfl) (Nat.le_of_ble_eq_true rfl) (Nat.le_of_ble_eq_true rfl) (cM_here hD hI hq17 (by omega) ?_)
            refine z_bipush (v := 32) rfl (by decide) ?_
            rw [e1]
            refine z_icmp_ne rfl (fun c38 => absurd rfl c38) (fun c38 => ?_)
            refine z_aload_n rfl rfl ?_
            refine z_get rfl hD.1 rfl ?_
            refine z_iconst (v := 1) rfl (by decide) ?_
            refine z_iadd rfl ?_
            rw [hq17, nI_1]
            refine z_aload_n rfl rfl ?_
            refine z_get rfl hD.1 rfl ?_
            rw [hI.2.1]
            refine z_icmp_ge rfl (fun c51 => absurd c51 (fun q9 => absurd ((nI_leI (by omega) (by omega)).mp q9) (by omega))) (fun c51 => ?_)
            refine z_aload_n rfl rfl ?_
            refine z_get rfl hD.1 rfl ?_
            refine z_aload_n rfl rfl ?_
            refine z_get rfl hD.1 rfl ?_
            refine z_iconst (v := 1) rfl (by decide) ?_
            refine z_iadd rfl ?_
            rw [hq17, nI_1]
            refine z_cldE rfl (hD.2 6 (by decide)) (k := p + 1) rfl (show p + 1 < 60 by omega) ?_
            refine z_bipush (v := 45) rfl (by decide) ?_
            rw [ei]
            refine z_icmp_ne rfl (fun c67 => absurd (by rw [c3]; rfl) c67) (fun c67 => ?_)
            refine z_iconst (v := 1) rfl (by decide) ?_
            refine z_goto rfl ?_
            refine z_istore_n rfl (by decide +kernel) rfl ?_
            refine z_aload_n rfl rfl ?_
            refine z_dup rfl rfl ?_
            refine z_get rfl hD.1 rfl ?_
            refine z_iload_n rfl rfl ?_
            refine z_if_eq rfl (fun c82 => absurd c82 (by decide)) (fun c82 => ?_)
            refine z_iconst (v := 2) rfl (by decide) ?_
            refine z_goto rfl ?_
            refine z_iadd rfl ?_
            rw [hq17, show nI p + 2 = nI (p + 2) from nI_add p 2]
            refine z_putM rfl hD (by decide) rfl rfl (fun h1 hC1 hF1 => ?_)
            refine z_aload_n rfl rfl ?_
            refine z_get rfl hC1.1 rfl ?_
            refine z_iload_n rfl rfl ?_
            refine z_iconst (v := 2) rfl (by decide) ?_
            refine z_iadd rfl ?_
            refine z_iload_n rfl rfl ?_
            refine z_if_eq rfl (fun c102 => absurd c102 (by decide)) (fun c102 => ?_)
            refine z_iconst (v := (-1)) rfl (by decide) ?_
            refine z_goto rfl ?_
            refine z_istM (j := 8) rfl hC1 (by decide) (k := K + 2) (nI_add K 2) (show K + 2 < 240 by omega) (fun h2 hC2 hF2 => ?_)
            refine z_vret rfl rfl ?_
            have P9 : z_Pm (z_mS m1 17 (nI (p + 2))) l (true, p + 2, z_tk o (-1)) := hP2.step (z_onR.s17 (nI (p + 2))) rfl h18 c2
            exact hq _ _ (-1) hC2 P9 (hT1.put (z_onR.s17 (nI (p + 2))) (by rw [lv])) (fun _ => rfl) (hF.trans (hF1.trans hF2))
          · skip
            refine z_aload_n rfl rfl ?_
            refine z_get rfl hD.1 rfl ?_
            rw [h18]
            refine z_if_ne rfl (fun c29 => absurd rfl c29) (fun c29 => ?_)
            refine z_aload_n rfl rfl ?_
            refine z_callV (av := []) rfl z_w235 hD.1 rfl rfl rfl rfl rfl (Nat.le_of_ble_eq_true rfl) (Nat.le_of_ble_eq_true rfl) (Nat.le_of_ble_eq_true rfl) (Nat.le_of_ble_eq_true rfl) (cM_here hD hI hq17 (by omega) ?_)
            refine z_bipush (v := 32) rfl (by decide) ?_
            rw [e1]
            refine z_icmp_ne rfl (fun c38 => absurd rfl c38) (fun c38 => ?_)
            refine z_aload_n rfl rfl ?_
            refine z_get rfl hD.1 rfl ?_
            refine z_iconst (v := 1) rfl (by decide) ?_
            refine z_iadd rfl ?_
            rw [hq17, nI_1]
            refine z_aload_n rfl rfl ?_
            refine z_get rfl hD.1 rfl ?_
            rw [hI.2.1]
            refine z_icmp_ge rfl (fun c51 => absurd c51 (fun q9 => absurd ((nI_leI (by omega) (by omega)).mp q9) (by omega))) (fun c51 => ?_)
            refine z_aload_n rfl rfl ?_
            refine z_get rfl hD.1 rfl ?_
            refine z_aload_n rfl rfl ?_
            refine z_get rfl hD.1 rfl ?_
            refine z_iconst (v := 1) rfl (by decide) ?_
            refine z_iadd rfl ?_
            rw [hq17, nI_1]
            refine z_cldE rfl (hD.2 6 (by decide)) (k := p + 1) rfl (show p + 1 < 60 by omega) ?_
            refine z_bipush (v := 45) rfl (by decide) ?_
            rw [ei]
            refine z_icmp_ne rfl (fun c67 => ?_) (fun c67 => absurd c67 (fun q9 => c3 ((nI_eq (b := 45) (by omega) (by decide)).mp q9)))
            refine z_iconst (v := nI 0) rfl (by decide) ?_
            exact no (fun e => c3 e.2.2)
        · skip
          refine z_aload_n rfl rfl ?_
          refine z_get rfl hD.1 rfl ?_
          rw [h18]
          refine z_if_ne rfl (fun c29 => absurd rfl c29) (fun c29 => ?_)
          refine z_aload_n rfl rfl ?_
          refine z_callV (av := []) rfl z_w235 hD.1 rfl rfl rfl rfl rfl (Nat.le_of_ble_eq_true rfl) (Nat.le_of_ble_eq_true rfl) (Nat.le_of_ble_eq_true rfl) (Nat.le_of_ble_eq_true rfl) (cM_here hD hI hq17 (by omega) ?_)
          refine z_bipush (v := 32) rfl (by decide) ?_
          rw [e1]
          refine z_icmp_ne rfl (fun c38 => absurd rfl c38) (fun c38 => ?_)
          refine z_aload_n rfl rfl ?_
          refine z_get rfl hD.1 rfl ?_
          refine z_iconst (v := 1) rfl (by decide) ?_
          refine z_iadd rfl ?_
          rw [hq17, nI_1]
          refine z_aload_n rfl rfl ?_
          refine z_get rfl hD.1 rfl ?_
          rw [hI.2.1]
          refine z_icmp_ge rfl (fun c51 => ?_) (fun c51 => absurd ((nI_leI (by omega) (by omega)).mpr (by omega)) c51)
          refine z_iconst (v := nI 0) rfl (by decide) ?_
          exact no (fun e => by have := e.2.2; rw [z_here0 (by omega)] at this; omega)
      · skip
        refine z_aload_n rfl rfl ?_
        refine z_get rfl hD.1 rfl ?_
        rw [h18]
        refine z_if_ne rfl (fun c29 => absurd rfl c29) (fun c29 => ?_)
        refine z_aload_n rfl rfl ?_
        refine z_callV (av := []) rfl z_w235 hD.1 rfl rfl rfl rfl rfl (Nat.le_of_ble_eq_true rfl) (Nat.le_of_ble_eq_true rfl) (Nat.le_of_ble_eq_true rfl) (Nat.le_of_ble_eq_true rfl) (cM_here hD hI hq17 (by omega) ?_)
        refine z_bipush (v := 32) rfl (by decide) ?_
        refine z_icmp_ne rfl (fun c38 => ?_) (fun c38 => absurd c38 (fun q9 => c1 ((z_hrE hI.1 (c := 32) (by decide) (by decide)).mp q9)))
        refine z_iconst (v := nI 0) rfl (by decide) ?_
        exact no (fun e => c1 e.2.1)
  refine z_aload_n rfl rfl ?_
  refine z_bipush (v := 101) rfl (by decide) ?_
  refine z_callV (av := [_]) rfl z_w236 hM.1 rfl rfl rfl rfl rfl (Nat.le_of_ble_eq_true rfl) (Nat.le_of_ble_eq_true rfl) (Nat.le_of_ble_eq_true rfl) (Nat.le_of_ble_eq_true rfl) (cM_needs (c := 101) (by decide) (by decide) hM hP (fun ha m1 hM1 hP1 r1 hF1_ => ?_))
  refine z_aload_n rfl rfl ?_
  refine z_bipush (v := 121) rfl (by decide) ?_
  refine z_callV (av := [_]) rfl z_w236 hM1.1 rfl rfl rfl rfl rfl (Nat.le_of_ble_eq_true rfl) (Nat.le_of_ble_eq_true rfl) (Nat.le_of_ble_eq_true rfl) (Nat.le_of_ble_eq_true rfl) (cM_needs (c := 121) (by decide) (by decide) hM1 hP1 (fun hb m2 hM2 hP2 r2 hF2_ => ?_))
  refine z_aload_n rfl rfl ?_
  refine z_get rfl hM2.1 rfl ?_
  refine z_iload_n rfl rfl ?_
  refine z_iconst (v := 1) rfl (by decide) ?_
  refine z_iadd rfl ?_
  refine z_aload_n rfl rfl ?_
  refine z_iconst (v := 1) rfl (by decide) ?_
  refine z_callV (av := [_]) rfl z_w238 hM2.1 rfl rfl rfl rfl rfl (Nat.le_of_ble_eq_true rfl) (Nat.le_of_ble_eq_true rfl) (Nat.le_of_ble_eq_true rfl) (Nat.le_of_ble_eq_true rfl) (cM_figures (t := 1) (Or.inl rfl) hM2 hP2 (fun hc m3 v1 hM3 hP3 hv3 r3 hF3_ => ?_))
  refine z_istM (j := 8) rfl hM3 (by decide) (k := K + 1) (nI_1 K) (show K + 1 < 240 by omega) (fun h1 hC1 hF1 => ?_)
  refine rest _ _ _ v1 _ hC1 hP3 (hT.put (r1.trans (r2.trans r3)) (by rw [hv])) (hF1_.trans (hF2_.trans (hF3_.trans hF1))) (fun h' m' v2 hM9 hP9 hT9 he9 hF9 => q h' m' v1 v2 hM9 hP9 hT9 (fun e => ?_) hF9)
  have e3 := hv3 (z_bd_ok (z_bd_ok e))
  rw [z_bd_skp, z_bd_skp, z_bd_skp] at e3
  refine Eq.trans (he9 e) ?_
  rw [e3]
end ZKy
