/-! Words of the law's handlers. -/
theorem z_lk13 : Cond.classLink "ClockParliamentLaw" 13 "java/lang/UnsupportedOperationException" ∈ z_gw := z_gwOf (z_isOf (j := 4171) (by decide +kernel)) rfl
theorem z_lk48 : Cond.classLink "ClockParliamentLaw" 48 "java/lang/IndexOutOfBoundsException" ∈ z_gw := z_gwOf (z_isOf (j := 5223) (by decide +kernel)) rfl
theorem z_lk50 : Cond.classLink "ClockParliamentLaw" 50 "java/lang/IllegalArgumentException" ∈ z_gw := z_gwOf (z_isOf (j := 5226) (by decide +kernel)) rfl
theorem z_lk68 : Cond.classLink "ClockParliamentLaw" 68 "java/util/NoSuchElementException" ∈ z_gw := z_gwOf (z_isOf (j := 6059) (by decide +kernel)) rfl
theorem z_lk111 : Cond.classLink "ClockParliamentLaw" 111 "java/lang/IllegalStateException" ∈ z_gw := z_gwOf (z_isOf (j := 6207) (by decide +kernel)) rfl
theorem z_lk137 : Cond.classLink "ClockParliamentLaw" 137 "java/lang/ArithmeticException" ∈ z_gw := z_gwOf (z_isOf (j := 7188) (by decide +kernel)) rfl
theorem z_ca13 : Cond.castable z_UOE "java/lang/UnsupportedOperationException" ∈ lw_tbl := z_isOf (j := 5044) (by decide +kernel)
theorem z_ca48 : Cond.castable z_IOB "java/lang/IndexOutOfBoundsException" ∈ lw_tbl := z_isOf (j := 5238) (by decide +kernel)
theorem z_ca50 : Cond.castable z_IAE "java/lang/IllegalArgumentException" ∈ lw_tbl := z_isOf (j := 3221) (by decide +kernel)
theorem z_ca68 : Cond.castable z_NSE "java/util/NoSuchElementException" ∈ lw_tbl := z_isOf (j := 6070) (by decide +kernel)
theorem z_ca111 : Cond.castable z_ISE "java/lang/IllegalStateException" ∈ lw_tbl := z_isOf (j := 6220) (by decide +kernel)
theorem z_ca137 : Cond.castable z_ARE "java/lang/ArithmeticException" ∈ lw_tbl := z_isOf (j := 7200) (by decide +kernel)
theorem z_nc50_48 : (z_IAE, "java/lang/IndexOutOfBoundsException") ∈ z_ncl := List.mem_of_getElem? (i := 0) rfl
theorem z_nc68_50 : (z_NSE, "java/lang/IllegalArgumentException") ∈ z_ncl := List.mem_of_getElem? (i := 1) rfl
theorem z_nc111_50 : (z_ISE, "java/lang/IllegalArgumentException") ∈ z_ncl := List.mem_of_getElem? (i := 2) rfl
theorem z_nc13_50 : (z_UOE, "java/lang/IllegalArgumentException") ∈ z_ncl := List.mem_of_getElem? (i := 3) rfl
theorem z_pre0 {mi : Nat} {E : String} : ∀ z ∈ ([] : List (Nat × Nat × Nat × Nat)), z.2.2.2 ≠ 0 ∧ ∃ nm2 : String, Cond.classLink (z_y mi).cls z.2.2.2 nm2 ∈ z_gw ∧ (E, nm2) ∈ z_ncl := fun z hz => absurd hz List.not_mem_nil
theorem z_pre1 {mi ct a b hp : Nat} {E nm2 : String} (h0 : ct ≠ 0) (hl : Cond.classLink (z_y mi).cls ct nm2 ∈ z_gw) (hn : (E, nm2) ∈ z_ncl) : ∀ z ∈ [(a, b, hp, ct)], z.2.2.2 ≠ 0 ∧ ∃ nm2 : String, Cond.classLink (z_y mi).cls z.2.2.2 nm2 ∈ z_gw ∧ (E, nm2) ∈ z_ncl := fun z hz => by
  rw [List.mem_singleton] at hz
  subst hz
  exact ⟨h0, nm2, hl, hn⟩
theorem z_P.kept {h h' : z_H} {p B b n : Nat} {x : z_PV} (hP : z_P h p B x) (hF : z_Fr b n h h') (hd : p + 288 ≤ b ∧ b + n ≤ B) : z_P h' p B x := by
  obtain ⟨ri, rl, sp, pos, ot, od, fd, y1, y2, y3, y4, y5, y6, y7, y8, y9, y10, y11, y12, y13, y14, y15⟩ := hP
  obtain ⟨w1, w2, w3, w4, w5, w6⟩ := y14
  exact ⟨ri, rl, sp, pos, ot, od, fd, (hF.2 _ (by omega)).trans y1, y2.kept hF (by omega), y3.kept hF (by omega), y4.kept hF (by omega), y5.kept hF (by omega), (hF.2 _ (by omega)).trans y6, y7.kept hF (by omega), (hF.2 _ (by omega)).trans y8, (hF.2 _ (by omega)).trans y9, y10.kept hF (by omega), (hF.2 _ (by omega)).trans y11, (hF.2 _ (by omega)).trans y12, (hF.2 _ (by omega)).trans y13, ⟨w1, w2, w3, w4, by rw [hF.1]; exact w5, w6⟩, y15⟩
theorem z_in01 : vp_in (0 : Int32) 1 := nI_in (c := 0) (by decide) (by decide)
theorem z_P.cell {h : z_H} {p B : Nat} {x : z_PV} (hP : z_P h p B x) : ∃ fs, h.2 p = some (.inr (8, fs)) := by
  obtain ⟨ri, rl, sp, pos, ot, od, fd, y1, y2⟩ := hP
  exact ⟨_, y1⟩
/-! What a wrapper answers. -/
theorem z_oc0 {Es : List String} {r : z_An} (h : r.1 = 0) : z_oc Es r = .inl (some (.int r.2.1)) := if_pos h
theorem z_oc1 {E : String} {Es : List String} {r : z_An} (h : r.1 = 1) : z_oc (E :: Es) r = .inr E := by unfold z_oc; rw [if_neg (by omega), h]; rfl
theorem z_oc2 {E E2 : String} {Es : List String} {r : z_An} (h : r.1 = 2) : z_oc (E :: E2 :: Es) r = .inr E2 := by unfold z_oc; rw [if_neg (by omega), h]; rfl
def z_wQ (h : z_H) (r : z_An) (Q : z_O → z_H → Prop) : Prop := ∀ (h' : z_H) (f' : Nat → Int64), z_P h' 1000 1299 r.2.2 → (∀ k, 1288 ≤ k → k < 1299 → k ≠ 1297 → h'.2 k = h.2 k) → h'.2 1297 = some (.inl (3, 1, .inr (.inl f'))) → (r.1 = 0 → f' 0 = r.2.1.toInt64) → Q (.inl (some (.int (nI r.1)))) h'
section ZWr
variable {G : z_G} {d mc ms mi pc nx : Nat} {L : List Value} {h h' : z_H} {Q : z_O → z_H → Prop} {r : z_An} {f : Nat → Int64}
theorem z_wokL {v : Int64} {p2 p3 p4 p5 pE : Nat} {o : Int} {i2 i3 i4 i5 : List Nat} (r2 : z_at mi pc = some (.lastore, p2, i2)) (r3 : z_at mi p2 = some (.goto o, p3, [pE])) (r4 : z_at mi pE = some (.iconst 0, p4, i4)) (r5 : z_at mi p4 = some (.ireturn, p5, i5)) (ht : z_rt mi = some .int) (h0 : r.1 = 0) (hv : v = r.2.1.toInt64) (hP : z_P h' 1000 1299 r.2.2) (hX : z_Px 1000 1299 h h') (ho : h.2 1297 = some (.inl (3, 1, .inr (.inl f)))) (q : z_wQ h r Q) : z_W G d mc ms mi pc L [.long v, .int 0, .ref 1297] h' Q := by
  have ho' : h'.2 1297 = some (.inl (3, 1, .inr (.inl f))) := (hX.2 _ (by decide) (Or.inr (by decide))).trans ho
  refine z_last r2 ho' z_in01 ?_
  refine z_goto r3 ?_
  refine z_iconst (v := 0) r4 (by decide) ?_
  refine z_iret r5 ht ?_
  have hF : z_Fr 1297 1 h' (z_set h' 1297 (.inl (3, 1, .inr (.inl (vp_updL f (0 : Int32).toNatClampNeg v))))) := ⟨rfl, fun k hk => z_set_ne _ _ (by omega)⟩
  have w := q _ _ (hP.kept hF (by decide)) (fun k u1 u2 u3 => (z_set_ne _ _ u3).trans (hX.2 k u2 (Or.inr (by omega)))) (z_set_eq _ _ _) (fun _ => by rw [← hv]; rfl)
  rw [h0] at w
  exact w
theorem z_wok {p1 p2 p3 p4 p5 pE : Nat} {o : Int} {i1 i2 i3 i4 i5 : List Nat} (r1 : z_at mi pc = some (.i2l, p1, i1)) (r2 : z_at mi p1 = some (.lastore, p2, i2)) (r3 : z_at mi p2 = some (.goto o, p3, [pE])) (r4 : z_at mi pE = some (.iconst 0, p4, i4)) (r5 : z_at mi p4 = some (.ireturn, p5, i5)) (ht : z_rt mi = some .int) (h0 : r.1 = 0) (hP : z_P h' 1000 1299 r.2.2) (hX : z_Px 1000 1299 h h') (ho : h.2 1297 = some (.inl (3, 1, .inr (.inl f)))) (q : z_wQ h r Q) : z_W G d mc ms mi pc L [.int r.2.1, .int 0, .ref 1297] h' Q :=
  z_i2l r1 (z_wokL (i3 := i3) r2 r3 r4 r5 ht h0 rfl hP hX ho q)
theorem z_wokB {p1 p2 p3 p4 p5 p6 p7 p8 pF pE : Nat} {o o2 o3 : Int} {i2 i3 i4 i5 i6 i7 i8 : List Nat} (r1 : z_at mi pc = some (.ifCond .eq o2, p1, [pF])) (ra : z_at mi p1 = some (.lconst 1, p6, i6)) (rb : z_at mi p6 = some (.goto o3, p7, [p8])) (rc : z_at mi pF = some (.lconst 0, p8, i7)) (r2 : z_at mi p8 = some (.lastore, p2, i2)) (r3 : z_at mi p2 = some (.goto o, p3, [pE])) (r4 : z_at mi pE = some (.iconst 0, p4, i4)) (r5 : z_at mi p4 = some (.ireturn, p5, i5)) (ht : z_rt mi = some .int) (h0 : r.1 = 0) (hb : r.2.1 = 0 ∨ r.2.1 = 1) (hP : z_P h' 1000 1299 r.2.2) (hX : z_Px 1000 1299 h h') (ho : h.2 1297 = some (.inl (3, 1, .inr (.inl f)))) (q : z_wQ h r Q) : z_W G d mc ms mi pc L [.int r.2.1, .int 0, .ref 1297] h' Q := by
  refine z_if_eq r1 (fun e => ?_) (fun e => ?_)
  · refine z_lconst (v := 0) rc (by decide) ?_
    exact z_wokL (i3 := i3) r2 r3 r4 r5 ht h0 (by rw [e]; decide) hP hX ho q
  · refine z_lconst (v := 1) ra (by decide) ?_
    refine z_goto rb ?_
    exact z_wokL (i3 := i3) r2 r3 r4 r5 ht h0 (by rw [hb.resolve_left e]; decide) hP hX ho q
theorem z_wthr {E nm : String} {pre suf : List (Nat × Nat × Nat × Nat)} {a b hp ct q9 n9 p6 p7 : Nat} {i9 : Instr} {n : Int} {info i6 i7 : List Nat} (hsplit : z_hh mi = pre ++ (a, b, hp, ct) :: suf) (hpre : ∀ z ∈ pre, z.2.2.2 ≠ 0 ∧ ∃ nm2 : String, Cond.classLink (z_y mi).cls z.2.2.2 nm2 ∈ z_gw ∧ (E, nm2) ∈ z_ncl) (hcov : a ≤ pc ∧ pc < b) (h0 : ct ≠ 0) (hlink : Cond.classLink (z_y mi).cls ct nm ∈ z_gw) (hcast : Cond.castable E nm ∈ lw_tbl) (hr9 : z_at mi hp = some (i9, n9, info)) (hi9 : i9 = .astore q9 ∨ ∃ k : Fin 4, i9 = .astore_n k ∧ (k : Nat) = q9) (hq9 : q9 < z_nL mi) (hpv : z_okp L q9 = true) (r6 : z_at mi n9 = some (.iconst n, p6, i6)) (hn : Int32.ofInt n = nI r.1) (r7 : z_at mi p6 = some (.ireturn, p7, i7)) (ht : z_rt mi = some .int) (hr0 : ¬ r.1 = 0) (hP : z_P h' 1000 1299 r.2.2) (hX : z_Px 1000 1299 h h') (ho : h.2 1297 = some (.inl (3, 1, .inr (.inl f)))) (q : z_wQ h r Q) : z_X G d mc ms mi pc L E h' Q :=
  z_catch hsplit hpre hcov h0 hlink hcast hr9 hi9 hq9 hpv (z_iconst r6 hn (z_iret r7 ht (q h' f hP (fun k _ u2 _ => hX.2 k u2 (Or.inr (by omega))) ((hX.2 _ (by decide) (Or.inr (by decide))).trans ho) (fun u => absurd u hr0))))
end ZWr

