/-! The law's turns: what is common. -/
section ZLw
variable {G : z_G} {d mc ms mi pc nx : Nat} {L st : List Value} {h : z_H} {Q : z_O → z_H → Prop} {info : List Nat}
theorem z_dstore {q : Nat} {a : UInt64} (hr : z_at mi pc = some (.dstore q, nx, info)) (hi : q + 1 < z_nL mi) (hp0 : z_okp L q = true) (k : z_W G d mc ms mi nx ((L.set q (.double a)).set (q + 1) (.retAddr 0)) st h Q) : z_W G d mc ms mi pc L (.double a :: st) h Q := by
  obtain ⟨hd, rfl⟩ := z_dn (n := 2) hr rfl (by decide)
  have hp := z_okpOf hp0
  intro p e R s m args below meth c H locs cells slots MC MS ls C r hS hL hR
  refine lv_dstore C.1 C.2.1 hd (z_prHas hL) hi rfl (fun ls2 h1 => k p e R s m args below meth c H locs cells slots MC MS ls2 C r hS ⟨h1.1, h1.2.1, fun j u hj hu => ?_⟩ hR)
  by_cases e1 : j = q + 1
  · subst e1
    have hlt : q + 1 < ((L.set q (.double a)).set (q + 1) (.retAddr 0)).length := (List.getElem?_eq_some_iff.mp hj).1
    rw [List.length_set] at hlt
    rw [List.getElem?_set_self hlt] at hj
    cases hj
    exact absurd rfl hu
  · rw [List.getElem?_set_ne (Ne.symm e1)] at hj
    by_cases e2 : j = q
    · subst e2
      have hlt : j < (L.set j (.double a)).length := (List.getElem?_eq_some_iff.mp hj).1
      rw [List.length_set] at hlt
      rw [List.getElem?_set_self hlt] at hj
      cases hj
      exact h1.2.2 _ List.mem_cons_self
    · rw [List.getElem?_set_ne (Ne.symm e2)] at hj
      refine h1.2.2 (j, z_v G u) (List.mem_cons_of_mem _ (List.mem_filter.mpr ⟨z_prIn.mpr ⟨u, hj, hu, rfl⟩, ?_⟩))
      have f1 : (j == q) = false := by simpa using e2
      have f2 : (j == q + 1) = false := by simpa using e1
      simp only [f1, f2, Bool.not_false, Bool.true_and, Bool.not_eq_true', Bool.and_eq_false_iff, z_v_cat]
      by_cases e3 : j + 1 = q
      · right
        have := hp u (by rw [← e3]; simpa using hj)
        rcases this with h9 | h9
        · rw [h9]; rfl
        · omega
      · left
        simpa using e3
theorem z_W.loc {L' : List Value} (k : z_W G d mc ms mi pc L' st h Q) (hl : ∀ (i : Nat) (v : Value), L'[i]? = some v → v ≠ .retAddr 0 → L[i]? = some v) : z_W G d mc ms mi pc L st h Q :=
  fun p e R s m args below meth c H locs cells slots MC MS ls C r hS hL hR => k p e R s m args below meth c H locs cells slots MC MS ls C r hS ⟨hL.1, hL.2.1, fun i v h1 h2 => hL.2.2 i v (hl i v h1 h2) h2⟩ hR
abbrev z_LL (j : Nat) : List Value := [.ref 0, .ref 1000, .ref 1288, .ref 1297, .ref 1298, .int (nI j), .retAddr 0, .retAddr 0, .retAddr 0]
theorem z_LLf {j : Nat} {u6 u7 u8 : Value} (k : z_W G d mc ms mi pc (z_LL j) st h Q) : z_W G d mc ms mi pc [.ref 0, .ref 1000, .ref 1288, .ref 1297, .ref 1298, .int (nI j), u6, u7, u8] st h Q := k.loc fun i v h1 h2 => by
  match i, h1 with
  | 0, h1 => exact h1
  | 1, h1 => exact h1
  | 2, h1 => exact h1
  | 3, h1 => exact h1
  | 4, h1 => exact h1
  | 5, h1 => exact h1
  | 6, h1 => exact absurd (Option.some.inj h1).symm h2
  | 7, h1 => exact absurd (Option.some.inj h1).symm h2
  | 8, h1 => exact absurd (Option.some.inj h1).symm h2
  | i + 9, h1 => exact absurd h1 (by simp)
end ZLw
/-- the class's object, the model's, and the two rows of answers -/
def z_LS (h : z_H) (x : z_PV) (m : z_MV) : Prop := z_P h 1000 1299 x ∧ z_Mo h 1288 m ∧ z_Rel x m ∧ (∃ f, h.2 1297 = some (.inl (3, 1, .inr (.inl f)))) ∧ ∃ g, h.2 1298 = some (.inl (4, 1, .inr (.inr (.inr (.inl g)))))
/-- the turn's end -/
def z_KL (G : z_G) (C S j : Nat) (Q : z_O → z_H → Prop) : Prop := ∀ (h' : z_H) (x' : z_PV) (m' : z_MV), z_LS h' x' m' → z_W G 13 C S 338 2656 (z_LL j) [] h' Q
section ZTl
variable {G : z_G} {C S j mc ms pc : Nat} {h : z_H} {Q : z_O → z_H → Prop} {x : z_PV} {m : z_MV} {f : Nat → Int64}
theorem z_KL.end {u6 u7 u8 : Value} {o : Int} {p : Nat} {i : List Nat} (K : z_KL G C S j Q) (r : z_at 338 pc = some (.goto o, p, [2656])) (hS : z_LS h x m) (hC : C ≤ mc) (hs : S ≤ ms) : z_W G 13 mc ms 338 pc [.ref 0, .ref 1000, .ref 1288, .ref 1297, .ref 1298, .int (nI j), u6, u7, u8] [] h Q :=
  z_goto r (z_LLf ((K h x m hS).mono (Nat.le_refl _) hC hs))
/-- the answer's comparison: thrown or not, then the numbers -/
theorem z_tlI {r : z_An} {rr : Int32} {p1 p2 p3 p4 p5 p6 p7 p8 p9 p10 p11 p12 p13 p14 p15 t5 t7 : Nat} {i1 i2 i4 i6 i8 i9 i10 i11 i12 i13 : List Nat} {o5 o7 o14 o15 : Int}
    (r1 : z_at 338 pc = some (.istore 7, p1, i1)) (r2 : z_at 338 p1 = some (.aload_n 2, p2, i2)) (r3 : z_at 338 p2 = some (.invokevirtual 159, p3, [0, 161, 0, 8068])) (r4 : z_at 338 p3 = some (.iload 6, p4, i4)) (r5 : z_at 338 p4 = some (.if_icmp .eq o5, p5, [t5])) (r6 : z_at 338 t5 = some (.iload 6, p6, i6)) (r7 : z_at 338 p6 = some (.ifCond .ne o7, p7, [t7])) (r8 : z_at 338 p7 = some (.aload_n 3, p8, i8)) (r9 : z_at 338 p8 = some (.iconst 0, p9, i9)) (r10 : z_at 338 p9 = some (.laload, p10, i10)) (r11 : z_at 338 p10 = some (.iload 7, p11, i11)) (r12 : z_at 338 p11 = some (.i2l, p12, i12)) (r13 : z_at 338 p12 = some (.lcmp, p13, i13)) (r14 : z_at 338 p13 = some (.ifCond .eq o14, p14, [t7])) (r15 : z_at 338 t7 = some (.goto o15, p15, [2656]))
    (hr2 : r.1 = 0 ∨ r.1 = 1 ∨ r.1 = 2) (hP : z_P h 1000 1299 r.2.2) (hM : z_Mo h 1288 m) (hR : z_Rel r.2.2 m) (hm : m.1 16 = nI r.1) (hrr : r.1 = 0 → rr = r.2.1) (ho : h.2 1297 = some (.inl (3, 1, .inr (.inl f)))) (hf : r.1 = 0 → f 0 = r.2.1.toInt64) (hg : ∃ g, h.2 1298 = some (.inl (4, 1, .inr (.inr (.inr (.inl g)))))) (hC : C ≤ mc) (hs : S ≤ ms) (K : z_KL G C S j Q) :
    z_W G 13 mc ms 338 pc [.ref 0, .ref 1000, .ref 1288, .ref 1297, .ref 1298, .int (nI j), .int (nI r.1), .retAddr 0, .retAddr 0] [.int rr] h Q := by
  refine z_istore r1 (by decide +kernel) rfl ?_
  refine z_aload_n r2 rfl ?_
  refine z_callV (av := []) r3 z_w161 hM.1 rfl rfl rfl rfl rfl (Nat.le_of_ble_eq_true rfl) (Nat.zero_le _) (Nat.zero_le _) (Nat.le_of_ble_eq_true rfl) (cM_thrown hM ?_)
  refine z_iload r4 rfl ?_
  refine z_icmp_eq r5 (fun _ => ?_) (fun u => absurd hm u)
  refine z_iload r6 rfl ?_
  refine z_if_ne r7 (fun _ => ?_) (fun u => ?_)
  · exact z_KL.end (i := []) K r15 ⟨hP, hM, hR, ⟨f, ho⟩, hg⟩ hC hs
  · have h0 : r.1 = 0 := by
      rcases hr2 with e | e | e
      · exact e
      · rw [e] at u; exact absurd u (by decide)
      · rw [e] at u; exact absurd u (by decide)
    refine z_aload_n r8 rfl ?_
    refine z_iconst (v := 0) r9 (by decide) ?_
    refine z_lald r10 ho z_in01 ?_
    refine z_iload r11 rfl ?_
    refine z_i2l r12 ?_
    refine z_lcmp r13 ?_
    refine z_if_eq r14 (fun _ => ?_) (fun u => absurd ((lg_cmp_eq _ _).mpr (show f 0 = rr.toInt64 by rw [hf h0, hrr h0])) u)
    exact z_KL.end (i := []) K r15 ⟨hP, hM, hR, ⟨f, ho⟩, hg⟩ hC hs
theorem z_tlB {r : z_An} {rr : Int32} {p1 p2 p3 p4 p5 p6 p7 p8 p9 p10 p11 p12 p13 p14 p15 p16 p17 p18 t5 t7 tA : Nat} {i1 i2 i4 i6 i8 i9 i10 i11 i13 i16 i18 : List Nat} {o5 o7 o12 o14 o15 o17 : Int}
    (r1 : z_at 338 pc = some (.istore 7, p1, i1)) (r2 : z_at 338 p1 = some (.aload_n 2, p2, i2)) (r3 : z_at 338 p2 = some (.invokevirtual 159, p3, [0, 161, 0, 8068])) (r4 : z_at 338 p3 = some (.iload 6, p4, i4)) (r5 : z_at 338 p4 = some (.if_icmp .eq o5, p5, [t5])) (r6 : z_at 338 t5 = some (.iload 6, p6, i6)) (r7 : z_at 338 p6 = some (.ifCond .ne o7, p7, [t7])) (r8 : z_at 338 p7 = some (.aload_n 3, p8, i8)) (r9 : z_at 338 p8 = some (.iconst 0, p9, i9)) (r10 : z_at 338 p9 = some (.laload, p10, i10)) (r11 : z_at 338 p10 = some (.iload 7, p11, i11)) (r12 : z_at 338 p11 = some (.ifCond .eq o12, p12, [tA])) (r16 : z_at 338 p12 = some (.lconst 1, p16, i16)) (r17 : z_at 338 p16 = some (.goto o17, p17, [p18])) (r18 : z_at 338 tA = some (.lconst 0, p18, i18)) (r13 : z_at 338 p18 = some (.lcmp, p13, i13)) (r14 : z_at 338 p13 = some (.ifCond .eq o14, p14, [t7])) (r15 : z_at 338 t7 = some (.goto o15, p15, [2656]))
    (hr2 : r.1 = 0 ∨ r.1 = 1 ∨ r.1 = 2) (hb : r.1 = 0 → r.2.1 = 0 ∨ r.2.1 = 1) (hP : z_P h 1000 1299 r.2.2) (hM : z_Mo h 1288 m) (hR : z_Rel r.2.2 m) (hm : m.1 16 = nI r.1) (hrr : r.1 = 0 → rr = r.2.1) (ho : h.2 1297 = some (.inl (3, 1, .inr (.inl f)))) (hf : r.1 = 0 → f 0 = r.2.1.toInt64) (hg : ∃ g, h.2 1298 = some (.inl (4, 1, .inr (.inr (.inr (.inl g)))))) (hC : C ≤ mc) (hs : S ≤ ms) (K : z_KL G C S j Q) :
    z_W G 13 mc ms 338 pc [.ref 0, .ref 1000, .ref 1288, .ref 1297, .ref 1298, .int (nI j), .int (nI r.1), .retAddr 0, .retAddr 0] [.int rr] h Q := by
  refine z_istore r1 (by decide +kernel) rfl ?_
  refine z_aload_n r2 rfl ?_
  refine z_callV (av := []) r3 z_w161 hM.1 rfl rfl rfl rfl rfl (Nat.le_of_ble_eq_true rfl) (Nat.zero_le _) (Nat.zero_le _) (Nat.le_of_ble_eq_true rfl) (cM_thrown hM ?_)
  refine z_iload r4 rfl ?_
  refine z_icmp_eq r5 (fun _ => ?_) (fun u => absurd hm u)
  refine z_iload r6 rfl ?_
  refine z_if_ne r7 (fun _ => ?_) (fun u => ?_)
  · exact z_KL.end (i := []) K r15 ⟨hP, hM, hR, ⟨f, ho⟩, hg⟩ hC hs
  · have h0 : r.1 = 0 := by
      rcases hr2 with e | e | e
      · exact e
      · rw [e] at u; exact absurd u (by decide)
      · rw [e] at u; exact absurd u (by decide)
    refine z_aload_n r8 rfl ?_
    refine z_iconst (v := 0) r9 (by decide) ?_
    refine z_lald r10 ho z_in01 ?_
    refine z_iload r11 rfl ?_
    refine z_if_eq r12 (fun e => ?_) (fun e => ?_)
    · refine z_lconst (v := 0) r18 (by decide) ?_
      refine z_lcmp r13 ?_
      refine z_if_eq r14 (fun _ => ?_) (fun u => absurd ((lg_cmp_eq _ _).mpr (show f 0 = 0 by rw [hf h0, ← hrr h0, e]; decide)) u)
      exact z_KL.end (i := []) K r15 ⟨hP, hM, hR, ⟨f, ho⟩, hg⟩ hC hs
    · refine z_lconst (v := 1) r16 (by decide) ?_
      refine z_goto r17 ?_
      refine z_lcmp r13 ?_
      refine z_if_eq r14 (fun _ => ?_) (fun u => absurd ((lg_cmp_eq _ _).mpr (show f 0 = 1 by rw [hf h0, (hb h0).resolve_left (by rw [← hrr h0]; exact e)]; decide)) u)
      exact z_KL.end (i := []) K r15 ⟨hP, hM, hR, ⟨f, ho⟩, hg⟩ hC hs
theorem z_twoC {v : z_HV} (hw : z_wf v) {c : Int32} : ∀ j, j < 3 → z_two (z_a v.1 j c) := by
  intro j hj
  unfold z_a z_atV
  split
  · rename_i e
    have hn : v.1.1 j = v.1.1 0 := hw.1.1 j (by omega)
    rw [hn] at e
    obtain ⟨i, hi, rfl⟩ := z_hasE (by have := hw.2.1; omega) e
    obtain ⟨⟨k1, u1, w1⟩, ⟨k2, u2, w2⟩, k3, u3, w3⟩ := hw.2.2.2.1 i hi
    rw [show z_ix (nI i) = i from nI_clamp (by have := hw.2.1; omega)]
    rcases (by omega : j = 0 ∨ j = 1 ∨ j = 2) with rfl | rfl | rfl
    · exact ⟨k1, by omega, w1⟩
    · exact ⟨k2, by omega, w2⟩
    · exact ⟨k3, by omega, w3⟩
  · exact ⟨0, by decide, rfl⟩
theorem z_twoB {v : z_HV} (hw : z_wf v) {c : Int32} : ∀ j, 0 < j → j < 4 → z_two (z_a v.2.1 j c) := by
  intro j h0 hj
  unfold z_a z_atV
  split
  · rename_i e
    have hn : v.2.1.1 j = v.2.1.1 0 := hw.1.2.2.1 j (by omega)
    rw [hn] at e
    obtain ⟨i, hi, rfl⟩ := z_hasE (by have := hw.2.2.1; omega) e
    obtain ⟨-, ⟨k1, u1, w1⟩, ⟨k2, u2, w2⟩, k3, u3, w3⟩ := hw.2.2.2.2.2.1 i hi
    rw [show z_ix (nI i) = i from nI_clamp (by have := hw.2.2.1; omega)]
    rcases (by omega : j = 1 ∨ j = 2 ∨ j = 3) with rfl | rfl | rfl
    · exact ⟨k1, by omega, w1⟩
    · exact ⟨k2, by omega, w2⟩
    · exact ⟨k3, by omega, w3⟩
  · exact ⟨0, by decide, rfl⟩
theorem z_twoR {v : z_HV} (hw : z_wf v) : ∀ i, i < v.2.1.1 5 → z_two (v.2.1.2 5 i) ∧ z_ix (v.2.1.2 5 i) < 10 := by
  intro i hi
  obtain ⟨b, hb, e, -⟩ := hw.2.2.2.2.2.2.1 i hi
  have := hw.2.2.1
  rw [e, show z_ix (nI b) = b from nI_clamp (by omega)]
  exact ⟨⟨b, by omega, rfl⟩, by omega⟩
end ZTl

