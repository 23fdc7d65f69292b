/-! run of the model: the reading, and where it ends. -/
def z_Tl (m : z_MV) (os : List z_OV) : Prop := ∀ i, i < os.length → ∃ vs, z_Tv vs (os.getD i z_o0) ∧ ∀ j, j < vs.length → m.2 8 (4 * i + j) = vs.getD j 0
def z_onP (m m' : z_MV) : Prop := (∀ i, i ≠ 17 → i ≠ 18 → m'.1 i = m.1 i) ∧ ∀ j, j ≠ 8 → m'.2 j = m.2 j
section ZRu
variable {G : z_G} {h : z_H} {Q : z_O → z_H → Prop} {a : Nat} {m : z_MV} {x : z_PV}
theorem z_Rel.inp (hR : z_Rel x m) : z_In m x.2.2.2.2.2.1 := ⟨⟨hR.2.2.2.1.1, hR.2.2.2.1.2.2.2⟩, hR.2.2.2.1.2.1, hR.2.2.2.1.2.2.1⟩
theorem z_Rel.flt {m' : z_MV} {f : Int32} (hR : z_Rel x m) (h1 : ∀ i, i < 8 ∨ 10 ≤ i ∧ i < 16 → m'.1 i = m.1 i) (h8 : m'.1 8 = 0) (h9 : m'.1 9 = f) (h2 : ∀ j, j ≠ 8 → m'.2 j = m.2 j) : z_Rel (z_setF (z_setI x []) f) m' := by
  obtain ⟨⟨a1, a2⟩, ⟨b1, b2⟩, ⟨c1, c2, c3⟩, _, ⟨u1, u2, u3⟩, ⟨k1, k2⟩, ⟨z1, z2⟩, _⟩ := hR
  exact ⟨⟨a1, by rw [h2 1 (by omega)]; exact a2⟩, ⟨(h1 6 (by omega)).trans b1, fun e => by rw [h2 5 (by omega)]; exact b2 e⟩, ⟨c1, (h1 4 (by omega)).trans c2, fun t ht => by rw [h2 4 (by omega)]; exact c3 t ht⟩, ⟨Nat.zero_le _, h8, fun i hi => absurd hi (Nat.not_lt_zero _), fun c hc => absurd hc List.not_mem_nil⟩, ⟨u1, (h1 15 (by omega)).trans u2, fun i hi => by rw [h2 7 (by omega)]; exact u3 i hi⟩, ⟨(h1 10 (by omega)).trans k1, (h1 11 (by omega)).trans k2⟩, ⟨(h1 12 (by omega)).trans z1, (h1 13 (by omega)).trans z2⟩, h9⟩
theorem cM_runW {mm : z_MV} {hh : z_H} {b : Bool} {fp : Nat} {o : z_OV} {y1 y2 y3 y4 : Value} (hR : z_Rel x m) (hD : z_Mo hh a mm) (hP : z_Pm mm x.2.2.2.2.2.1 (b, fp, o)) (hO : z_onP m mm) (hb : b = false ∨ fp < x.2.2.2.2.2.1.length) (hF : z_Fr a 9 h hh) (q : z_mQ (1, 0, z_setF (z_setI x []) (nI fp)) h a Q) : z_W G 5 0 0 244 71 [.ref a, y1, y2, y3, y4] [] hh Q := by
  obtain ⟨hI, h17, h18, hp⟩ := hP
  have h60 := hI.1.1
  have g17 : mm.1 17 = nI fp := h17
  have fin : ∀ (h9 : z_H), z_Mo h9 a (z_mS (z_mS (z_mS (z_mS mm 18 1) 8 0) 9 (nI fp)) 16 1) → z_Fr a 9 h h9 → Q (.inl (some (.int 0))) h9 := by
    intro h9 hM9 hF9
    refine q h9 _ 0 hM9 (hR.flt (fun i hi => ?_) rfl rfl (fun j hj => hO.2 j hj)) rfl hF9 (fun e => absurd (show (1 : Nat) = 0 from e) (by decide))
    show (if i = 16 then (1 : Int32) else if i = 9 then nI fp else if i = 8 then 0 else if i = 18 then 1 else mm.1 i) = m.1 i
    rw [if_neg (by omega), if_neg (by omega), if_neg (by omega), if_neg (by omega)]
    exact hO.1 i (by omega) (by omega)
  cases b with
  | false =>
    have g18 : mm.1 18 = 1 := h18
    refine z_aload_n rfl rfl ?_
    refine z_aload_n rfl rfl ?_
    refine z_get rfl hD.1 rfl ?_
    rw [g18]
    refine z_if_ne rfl (fun c76 => ?_) (fun c76 => absurd c76 (by decide))
    refine z_iconst (v := 1) rfl (by decide) ?_
    refine z_goto rfl ?_
    refine z_putM rfl hD (by decide) rfl rfl (fun h1 hC1 hF1 => ?_)
    refine z_aload_n rfl rfl ?_
    refine z_iconst (v := 0) rfl (by decide) ?_
    refine z_putM rfl hC1 (by decide) rfl rfl (fun h2 hC2 hF2 => ?_)
    refine z_aload_n rfl rfl ?_
    refine z_aload_n rfl rfl ?_
    refine z_get rfl hC2.1 rfl ?_
    refine z_if_eq rfl (fun c108 => absurd c108 (show ¬ (1 : Int32) = 0 by decide)) (fun c108 => ?_)
    refine z_aload_n rfl rfl ?_
    refine z_get rfl hC2.1 rfl ?_
    refine z_goto rfl ?_
    rw [show (z_mS (z_mS mm 18 1) 8 0).1 17 = nI fp from g17]
    refine z_putM rfl hC2 (by decide) rfl rfl (fun h3 hC3 hF3 => ?_)
    refine z_aload_n rfl rfl ?_
    refine z_get rfl hC3.1 rfl ?_
    refine z_if_eq rfl (fun c126 => absurd c126 (show ¬ (1 : Int32) = 0 by decide)) (fun c126 => ?_)
    refine z_aload_n rfl rfl ?_
    refine z_iconst (v := 1) rfl (by decide) ?_
    refine z_callV (av := [_]) rfl z_w164 hC3.1 rfl rfl rfl rfl rfl (Nat.le_of_ble_eq_true rfl) (Nat.le_of_ble_eq_true rfl) (Nat.le_of_ble_eq_true rfl) (Nat.le_of_ble_eq_true rfl) (cM_fails (v := 1) hC3 (fun h9 hM9 hF9 => ?_))
    refine z_iret rfl rfl ?_
    exact fin _ hM9 (hF.trans (((hF1.trans hF2).trans hF3).trans hF9))
  | true =>
    have g18 : mm.1 18 = 0 := h18
    have lt : fp < x.2.2.2.2.2.1.length := hb.elim (fun e => Bool.noConfusion e) id
    refine z_aload_n rfl rfl ?_
    refine z_aload_n rfl rfl ?_
    refine z_get rfl hD.1 rfl ?_
    rw [g18]
    refine z_if_ne rfl (fun c76 => absurd rfl c76) (fun c76 => ?_)
    refine z_aload_n rfl rfl ?_
    refine z_get rfl hD.1 rfl ?_
    refine z_aload_n rfl rfl ?_
    refine z_get rfl hD.1 rfl ?_
    rw [g17, hI.2.1]
    refine z_icmp_ge rfl (fun c87 => absurd c87 (fun q9 => absurd ((nI_leI (by omega) (by omega)).mp q9) (by omega))) (fun c87 => ?_)
    refine z_iconst (v := 1) rfl (by decide) ?_
    refine z_goto rfl ?_
    refine z_putM rfl hD (by decide) rfl rfl (fun h1 hC1 hF1 => ?_)
    refine z_aload_n rfl rfl ?_
    refine z_iconst (v := 0) rfl (by decide) ?_
    refine z_putM rfl hC1 (by decide) rfl rfl (fun h2 hC2 hF2 => ?_)
    refine z_aload_n rfl rfl ?_
    refine z_aload_n rfl rfl ?_
    refine z_get rfl hC2.1 rfl ?_
    refine z_if_eq rfl (fun c108 => absurd c108 (show ¬ (1 : Int32) = 0 by decide)) (fun c108 => ?_)
    refine z_aload_n rfl rfl ?_
    refine z_get rfl hC2.1 rfl ?_
    refine z_goto rfl ?_
    rw [show (z_mS (z_mS mm 18 1) 8 0).1 17 = nI fp from g17]
    refine z_putM rfl hC2 (by decide) rfl rfl (fun h3 hC3 hF3 => ?_)
    refine z_aload_n rfl rfl ?_
    refine z_get rfl hC3.1 rfl ?_
    refine z_if_eq rfl (fun c126 => absurd c126 (show ¬ (1 : Int32) = 0 by decide)) (fun c126 => ?_)
    refine z_aload_n rfl rfl ?_
    refine z_iconst (v := 1) rfl (by decide) ?_
    refine z_callV (av := [_]) rfl z_w164 hC3.1 rfl rfl rfl rfl rfl (Nat.le_of_ble_eq_true rfl) (Nat.le_of_ble_eq_true rfl) (Nat.le_of_ble_eq_true rfl) (Nat.le_of_ble_eq_true rfl) (cM_fails (v := 1) hC3 (fun h9 hM9 hF9 => ?_))
    refine z_iret rfl rfl ?_
    exact fin _ hM9 (hF.trans (((hF1.trans hF2).trans hF3).trans hF9))
end ZRu
