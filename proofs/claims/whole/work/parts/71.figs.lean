/-! The model's figures. -/
def z_rdM (t : Nat) (l : List Nat) (p : Nat) (o : z_OV) : z_PR := if t = 1 then z_rdD l p o else z_rdN l p o
theorem z_hrV {l : List Nat} {p x : Nat} (e : z_here l p = x) (hx : 0 < x) : z_hr l p = nI x := by
  unfold z_hr
  rw [if_pos (z_hereP (by omega)), e]
theorem z_Pm.step {m m' : z_MV} {l : List Nat} {ok ok' : Bool} {p p' : Nat} {o o' : z_OV} (h : z_Pm m l (ok, p, o)) (r : z_onR m m') (h1 : m'.1 17 = nI p') (h2 : m'.1 18 = z_I (!ok')) (h3 : p' ≤ l.length) : z_Pm m' l (ok', p', o') := ⟨h.1.on r, h1, h2, h3⟩
theorem z_onR.s17 {m : z_MV} (x : Int32) : z_onR m (z_mS m 17 x) := ⟨fun _ h _ => if_neg h, rfl⟩
theorem z_onR.s18 {m : z_MV} (x : Int32) : z_onR m (z_mS m 18 x) := ⟨fun _ _ h => if_neg h, rfl⟩
section ZFi
variable {G : z_G} {h : z_H} {Q : z_O → z_H → Prop} {a : Nat} {m : z_MV} {l : List Nat} {s : z_PR}
theorem cM_figures {t : Nat} (ht : t = 1 ∨ t = 2) (hM : z_Mo h a m) (hP : z_Pm m l s) (q : ∀ h' m' v, z_Mo h' a m' → z_Pm m' l (z_bd (z_bd s (z_skp l 32)) (z_rdM t l)) → ((z_bd (z_bd s (z_skp l 32)) (z_rdM t l)).1 = true → (z_bd (z_bd s (z_skp l 32)) (z_rdM t l)).2.2 = z_tk (z_bd s (z_skp l 32)).2.2 v) → z_onR m m' → z_Fr a 9 h h' → Q (.inl (some (.int v))) h') : z_W G 2 0 0 238 0 (z_L0 238 [.ref a, .int (nI t)]) [] h Q := by
  have out : ∀ (hh : z_H) (m1 : z_MV) (v : Int32) (k : Nat) (b : Bool) (p : Nat) (o : z_OV), (b = false ∨ t ≤ k ∨ ¬ (48 ≤ z_here l p ∧ z_here l p ≤ 57)) → k ≤ 2 → z_Mo hh a m1 → z_Pm m1 l (b, p, o) → (Q (.inl (some (.int v))) hh) → z_W G 2 0 0 238 40 [.ref a, .int (nI t), .int v, .int (nI k)] [] hh Q := by
    intro hh m1 v k b p o hc hk hD hP1 hq
    obtain ⟨hI, h17, h18, hp⟩ := hP1
    have h60 := hI.1.1
    have hp : p ≤ l.length := hp
    cases b with
    | false =>
      have h18 : m1.1 18 = 1 := h18
      refine z_aload_n rfl rfl ?_
      refine z_get rfl hD.1 rfl ?_
      rw [h18]
      refine z_if_ne rfl (fun c44 => ?_) (fun c44 => absurd c44 (by decide))
      refine z_iload_n rfl rfl ?_
      refine z_iret rfl rfl ?_
      exact hq
    | true =>
      have h18 : m1.1 18 = 0 := h18
      by_cases c : t ≤ k
      · skip
        refine z_aload_n rfl rfl ?_
        refine z_get rfl hD.1 rfl ?_
        rw [h18]
        refine z_if_ne rfl (fun c44 => absurd rfl c44) (fun c44 => ?_)
        refine z_iload_n rfl rfl ?_
        refine z_iload_n rfl rfl ?_
        refine z_icmp_ge rfl (fun c49 => ?_) (fun c49 => absurd ((nI_leI (by omega) (by omega)).mpr c) c49)
        refine z_iload_n rfl rfl ?_
        refine z_iret rfl rfl ?_
        exact hq
      · have nd : ¬ (48 ≤ z_here l p ∧ z_here l p ≤ 57) := hc.elim (fun q => absurd q (by decide)) (fun q => q.elim (fun q => absurd q c) id)
        have ed : z_inR (z_hr l p) 48 57 = false := by
          cases e : z_inR (z_hr l p) 48 57 with
          | false => rfl
          | true => exact absurd ((z_hrD hI.1).mp e) nd
        refine z_aload_n rfl rfl ?_
        refine z_get rfl hD.1 rfl ?_
        rw [h18]
        refine z_if_ne rfl (fun c44 => absurd rfl c44) (fun c44 => ?_)
        refine z_iload_n rfl rfl ?_
        refine z_iload_n rfl rfl ?_
        refine z_icmp_ge rfl (fun c49 => absurd c49 (fun q9 => c ((nI_leI (by omega) (by omega)).mp q9))) (fun c49 => ?_)
        refine z_aload_n rfl rfl ?_
        refine z_callV (av := []) rfl z_w235 hD.1 rfl rfl rfl rfl rfl (Nat.le_of_ble_eq_true rfl) (Nat.le_of_ble_eq_true rfl) (Nat.le_of_ble_eq_true rfl) (Nat.le_of_ble_eq_true rfl) (cM_here hD hI h17 (by omega) ?_)
        refine z_bipush (v := 48) rfl (by decide) ?_
        refine z_bipush (v := 57) rfl (by decide) ?_
        refine z_callS (av := [_, _, _]) rfl z_w162 rfl rfl rfl rfl (Nat.le_of_ble_eq_true rfl) (Nat.le_of_ble_eq_true rfl) (Nat.le_of_ble_eq_true rfl) (Nat.le_of_ble_eq_true rfl) (cM_in ?_)
        rw [ed]
        refine z_if_eq rfl (fun c63 => ?_) (fun c63 => absurd rfl c63)
        refine z_iload_n rfl rfl ?_
        refine z_iret rfl rfl ?_
        exact hq
  have stp : ∀ (hh : z_H) (m1 : z_MV) (v k x p : Nat) (o o' : z_OV) (hq : ∀ h2 m2, z_Mo h2 a m2 → z_Pm m2 l (true, p + 1, o') → z_onR m1 m2 → z_Fr a 9 hh h2 → z_W G 2 0 0 238 40 [.ref a, .int (nI t), .int (nI (10 * v + (x - 48))), .int (nI (k + 1))] [] h2 Q), k < t → z_here l p = x → 48 ≤ x → x ≤ 57 → v < 10 → z_Mo hh a m1 → z_Pm m1 l (true, p, o) → z_W G 2 0 0 238 40 [.ref a, .int (nI t), .int (nI v), .int (nI k)] [] hh Q := by
    intro hh m1 v k x p o o' hq hk ex hx1 hx2 hv hD hP1
    have hP2 := hP1
    obtain ⟨hI, h17, h18, hp⟩ := hP1
    have h60 := hI.1.1
    have hp : p ≤ l.length := hp
    have h17 : m1.1 17 = nI p := h17
    have h18 : m1.1 18 = 0 := h18
    have hlt : p < l.length := z_hereP (by omega)
    have ed : z_inR (z_hr l p) 48 57 = true := (z_hrD hI.1).mpr (by omega)
    refine z_aload_n rfl rfl ?_
    refine z_get rfl hD.1 rfl ?_
    rw [h18]
    refine z_if_ne rfl (fun c44 => absurd rfl c44) (fun c44 => ?_)
    refine z_iload_n rfl rfl ?_
    refine z_iload_n rfl rfl ?_
    refine z_icmp_ge rfl (fun c49 => absurd c49 (fun q9 => absurd ((nI_leI (by omega) (by omega)).mp q9) (by omega))) (fun c49 => ?_)
    refine z_aload_n rfl rfl ?_
    refine z_callV (av := []) rfl z_w235 hD.1 rfl rfl rfl rfl rfl (Nat.le_of_ble_eq_true rfl) (Nat.le_of_ble_eq_true rfl) (Nat.le_of_ble_eq_true rfl) (Nat.le_of_ble_eq_true rfl) (cM_here hD hI h17 (by omega) ?_)
    refine z_bipush (v := 48) rfl (by decide) ?_
    refine z_bipush (v := 57) rfl (by decide) ?_
    refine z_callS (av := [_, _, _]) rfl z_w162 rfl rfl rfl rfl (Nat.le_of_ble_eq_true rfl) (Nat.le_of_ble_eq_true rfl) (Nat.le_of_ble_eq_true rfl) (Nat.le_of_ble_eq_true rfl) (cM_in ?_)
    rw [ed]
    refine z_if_eq rfl (fun c63 => absurd c63 (by decide)) (fun c63 => ?_)
    refine z_bipush (v := 10) rfl (by decide) ?_
    refine z_iload_n rfl rfl ?_
    refine z_imul rfl ?_
    refine z_aload_n rfl rfl ?_
    refine z_callV (av := []) rfl z_w235 hD.1 rfl rfl rfl rfl rfl (Nat.le_of_ble_eq_true rfl) (Nat.le_of_ble_eq_true rfl) (Nat.le_of_ble_eq_true rfl) (Nat.le_of_ble_eq_true rfl) (cM_here hD hI h17 (by omega) ?_)
    refine z_iadd rfl ?_
    refine z_bipush (v := 48) rfl (by decide) ?_
    refine z_isub rfl ?_
    rw [z_hrV ex (by omega), show (10 : Int32) * nI v = nI (10 * v) from pk_mul 10 v, nI_add, show nI (10 * v + x) - 48 = nI (10 * v + (x - 48)) from (pk_sub (b := 48) (by omega)).trans (congrArg nI (by omega))]
    refine z_istore_n rfl (by decide +kernel) rfl ?_
    refine z_aload_n rfl rfl ?_
    refine z_dup rfl rfl ?_
    refine z_get rfl hD.1 rfl ?_
    refine z_iconst (v := 1) rfl (by decide) ?_
    refine z_iadd rfl ?_
    rw [h17, nI_1]
    refine z_putM rfl hD (by decide) rfl rfl (fun h1 hC1 hF1 => ?_)
    refine z_iinc1 rfl rfl (by decide +kernel) rfl ?_
    exact z_goto rfl (hq _ _ hC1 (hP2.step (z_onR.s17 _) rfl h18 hlt) (z_onR.s17 _) hF1)
  have rest : ∀ (s1 : z_PR) (hh : z_H) (m1 : z_MV) (y3 y4 : Value), z_Mo hh a m1 → z_Pm m1 l s1 → (∀ h' m' v, z_Mo h' a m' → z_Pm m' l (z_bd s1 (z_rdM t l)) → ((z_bd s1 (z_rdM t l)).1 = true → (z_bd s1 (z_rdM t l)).2.2 = z_tk s1.2.2 v) → z_onR m1 m' → z_Fr a 9 hh h' → Q (.inl (some (.int v))) h') → z_W G 2 0 0 238 6 [.ref a, .int (nI t), y3, y4] [] hh Q := by
    intro s1 hh m1 y3 y4 hD hP1 hq
    obtain ⟨ok, p, o⟩ := s1
    have hP2 := hP1
    obtain ⟨hI, h17, h18, hp⟩ := hP1
    have h60 := hI.1.1
    have hp : p ≤ l.length := hp
    have h17 : m1.1 17 = nI p := h17
    cases ok with
    | false =>
      have h18 : m1.1 18 = 1 := h18
      refine z_aload_n rfl rfl ?_
      refine z_aload_n rfl rfl ?_
      refine z_get rfl hD.1 rfl ?_
      rw [h18]
      refine z_if_ne rfl (fun c11 => ?_) (fun c11 => absurd c11 (by decide))
      refine z_iconst (v := 1) rfl (by decide) ?_
      refine z_goto rfl ?_
      refine z_putM rfl hD (by decide) rfl rfl (fun h1 hC1 hF1 => ?_)
      refine z_iconst (v := nI 0) rfl (by decide) ?_
      refine z_istore_n rfl (by decide +kernel) rfl ?_
      refine z_iconst (v := nI 0) rfl (by decide) ?_
      refine z_istore_n rfl (by decide +kernel) rfl ?_
      refine out _ _ (nI 0) 0 false p o (Or.inl rfl) (by decide) hC1 (hP2.step (z_onR.s18 1) h17 rfl hp) ?_
      exact hq _ _ _ hC1 (hP2.step (z_onR.s18 1) h17 rfl hp) (fun e => Bool.noConfusion e) (z_onR.s18 1) hF1
    | true =>
      have h18 : m1.1 18 = 0 := h18
      by_cases d : 48 ≤ z_here l p ∧ z_here l p ≤ 57
      · have ed : z_inR (z_hr l p) 48 57 = true := (z_hrD hI.1).mpr d
        have hlt : p < l.length := z_hereP (by omega)
        have dg : z_dig l p = some (z_here l p - 48) := if_pos d
        have go : ∀ (h1 : z_H) (m2 : z_MV), z_Mo h1 a m2 → z_Pm m2 l (true, p, o) → z_onR m1 m2 → z_Fr a 9 hh h1 → z_W G 2 0 0 238 40 [.ref a, .int (nI t), .int (nI 0), .int (nI 0)] [] h1 Q := by
          intro h1 m2 hM2 hP3 r2 hF2
          refine stp h1 m2 0 0 (z_here l p) p o (z_tk o (nI (z_here l p - 48))) (fun h2 m3 hM3 hP4 r3 hF3 => ?_) (by omega) rfl d.1 d.2 (by decide) hM2 hP3
          rw [show 10 * 0 + (z_here l p - 48) = z_here l p - 48 by omega]
          rcases ht with rfl | rfl
          · have er : z_bd (true, p, o) (z_rdM 1 l) = (true, p + 1, z_tk o (nI (z_here l p - 48))) := by
              show z_rdD l p o = _
              unfold z_rdD
              rw [dg]
            rw [er] at hq
            exact out h2 m3 _ 1 true (p + 1) _ (Or.inr (Or.inl (Nat.le_refl _))) (by decide) hM3 hP4 (hq _ _ _ hM3 hP4 (fun _ => rfl) (r2.trans r3) (hF2.trans hF3))
          · by_cases d2 : 48 ≤ z_here l (p + 1) ∧ z_here l (p + 1) ≤ 57
            · have er : z_bd (true, p, o) (z_rdM 2 l) = (true, p + 2, z_tk o (nI (10 * (z_here l p - 48) + (z_here l (p + 1) - 48)))) := by
                show z_rdN l p o = _
                unfold z_rdN
                rw [dg, show z_dig l (p + 1) = some (z_here l (p + 1) - 48) from if_pos d2]
              rw [er] at hq
              refine stp h2 m3 (z_here l p - 48) 1 (z_here l (p + 1)) (p + 1) _ (z_tk o (nI (10 * (z_here l p - 48) + (z_here l (p + 1) - 48)))) (fun h3 m4 hM4 hP5 r4 hF4 => ?_) (by decide) rfl d2.1 d2.2 (by omega) hM3 hP4
              exact out h3 m4 _ 2 true (p + 2) _ (Or.inr (Or.inl (Nat.le_refl _))) (by decide) hM4 hP5 (hq _ _ _ hM4 hP5 (fun _ => rfl) (r2.trans (r3.trans r4)) (hF2.trans (hF3.trans hF4)))
            · have er : z_bd (true, p, o) (z_rdM 2 l) = (true, p + 1, z_tk o (nI (z_here l p - 48))) := by
                show z_rdN l p o = _
                unfold z_rdN
                rw [dg, show z_dig l (p + 1) = none from if_neg d2]
              rw [er] at hq
              exact out h2 m3 _ 1 true (p + 1) _ (Or.inr (Or.inr d2)) (by decide) hM3 hP4 (hq _ _ _ hM3 hP4 (fun _ => rfl) (r2.trans r3) (hF2.trans hF3))
        refine z_aload_n rfl rfl ?_
        refine z_aload_n rfl rfl ?_
        refine z_get rfl hD.1 rfl ?_
        rw [h18]
        refine z_if_ne rfl (fun c11 => absurd rfl c11) (fun c11 => ?_)
        refine z_aload_n rfl rfl ?_
        refine z_callV (av := []) rfl z_w235 hD.1 rfl rfl rfl rfl rfl (Nat.le_of_ble_eq_true rfl) (Nat.le_of_ble_eq_true rfl) (Nat.le_of_ble_eq_true rfl) (Nat.le_of_ble_eq_true rfl) (cM_here hD hI h17 (by omega) ?_)
        refine z_bipush (v := 48) rfl (by decide) ?_
        refine z_bipush (v := 57) rfl (by decide) ?_
        refine z_callS (av := [_, _, _]) rfl z_w162 rfl rfl rfl rfl (Nat.le_of_ble_eq_true rfl) (Nat.le_of_ble_eq_true rfl) (Nat.le_of_ble_eq_true rfl) (Nat.le_of_ble_eq_true rfl) (cM_in ?_)
        rw [ed]
        refine z_if_ne rfl (fun c25 => ?_) (fun c25 => absurd c25 (by decide))
        refine z_iconst (v := 0) rfl (by decide) ?_
        refine z_putM rfl hD (by decide) rfl rfl (fun h1 hC1 hF1 => ?_)
        refine z_iconst (v := nI 0) rfl (by decide) ?_
        refine z_istore_n rfl (by decide +kernel) rfl ?_
        refine z_iconst (v := nI 0) rfl (by decide) ?_
        refine z_istore_n rfl (by decide +kernel) rfl ?_
        exact go _ _ hC1 (hP2.step (z_onR.s18 0) h17 rfl hp) (z_onR.s18 0) hF1
      · have ed : z_inR (z_hr l p) 48 57 = false := by
          cases e : z_inR (z_hr l p) 48 57 with
          | false => rfl
          | true => exact absurd ((z_hrD hI.1).mp e) d
        have dg : z_dig l p = none := if_neg d
        have er : z_bd (true, p, o) (z_rdM t l) = (false, p, o) := by
          show z_rdM t l p o = _
          unfold z_rdM z_rdD z_rdN
          rw [dg]
          rcases ht with rfl | rfl <;> rfl
        rw [er] at hq
        refine z_aload_n rfl rfl ?_
        refine z_aload_n rfl rfl ?_
        refine z_get rfl hD.1 rfl ?_
        rw [h18]
        refine z_if_ne rfl (fun c11 => absurd rfl c11) (fun c11 => ?_)
        refine z_aload_n rfl rfl ?_
        refine z_callV (av := []) rfl z_w235 hD.1 rfl rfl rfl rfl rfl (Nat.le_of_ble_eq_true rfl) (Nat.le_of_ble_eq_true rfl) (Nat.le_of_ble_eq_true rfl) (Nat.le_of_ble_eq_true rfl) (cM_here hD hI h17 (by omega) ?_)
        refine z_bipush (v := 48) rfl (by decide) ?_
        refine z_bipush (v := 57) rfl (by decide) ?_
        refine z_callS (av := [_, _, _]) rfl z_w162 rfl rfl rfl rfl (Nat.le_of_ble_eq_true rfl) (Nat.le_of_ble_eq_true rfl) (Nat.le_of_ble_eq_true rfl) (Nat.le_of_ble_eq_true rfl) (cM_in ?_)
        rw [ed]
        refine z_if_ne rfl (fun c25 => absurd (by decide) c25) (fun c25 => ?_)
        refine z_iconst (v := 1) rfl (by decide) ?_
        refine z_goto rfl ?_
        refine z_putM rfl hD (by decide) rfl rfl (fun h1 hC1 hF1 => ?_)
        refine z_iconst (v := nI 0) rfl (by decide) ?_
        refine z_istore_n rfl (by decide +kernel) rfl ?_
        refine z_iconst (v := nI 0) rfl (by decide) ?_
        refine z_istore_n rfl (by decide +kernel) rfl ?_
        refine out _ _ (nI 0) 0 false p o (Or.inl rfl) (by decide) hC1 (hP2.step (z_onR.s18 1) h17 rfl hp) ?_
        exact hq _ _ _ hC1 (hP2.step (z_onR.s18 1) h17 rfl hp) (fun e => Bool.noConfusion e) (z_onR.s18 1) hF1
  refine z_aload_n rfl rfl ?_
  refine z_bipush (v := 32) rfl (by decide) ?_
  refine z_callV (av := [_]) rfl z_w236 hM.1 rfl rfl rfl rfl rfl (Nat.le_of_ble_eq_true rfl) (Nat.le_of_ble_eq_true rfl) (Nat.le_of_ble_eq_true rfl) (Nat.le_of_ble_eq_true rfl) (cM_needs (c := 32) (by decide) (by decide) hM hP (fun h1 m1 hM1 hP1 o1 hF1 => ?_))
  exact rest _ _ _ _ _ hM1 hP1 (fun h2 m2 v hM2 hP2 hv r2 hF2 => q h2 m2 v hM2 hP2 hv (o1.trans r2) (hF1.trans hF2))
end ZFi
