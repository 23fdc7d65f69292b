/-! ClockParliament: reasons, lines, undo, saving, the running of a text. -/
theorem z_lbC {h : z_H} {a r m j : Nat} {l : List Nat} (hS : z_Sb h a r m l) (hj : j < l.length) : narrow .char (.int (nI (l.getD j 0))) = .int (nI (l.getD j 0)) := by
  obtain ⟨cap, ml, g, s1, s2, s3, s4, -⟩ := hS
  exact (z_c128 _ (s4 j hj).2).2.2.2.2.1
theorem z_fltB {l : List Nat} (hl : l.length ≤ 60) : ∀ {n p f : Nat}, z_flt l n p = some f → p ≤ l.length + 1 → f < 1000 := by
  intro n
  induction n with
  | zero => intro p f h hp; cases h; omega
  | succ n ih =>
    intro p f h hp
    rw [z_flt_s] at h
    by_cases hp2 : p ≤ l.length
    · have := z_rdOP (l := l) (o := z_oN0) hp2
      split at h
      · split at h
        · cases h
        · split at h
          · exact ih h (by omega)
          · cases h; omega
      · cases h; omega
    · have e : z_rdO l p z_oN0 = (false, p, z_oN0) := by
        have e0 : z_here l p = 0 := z_here0 (by omega)
        unfold z_rdO
        rw [e0]
        rfl
      rw [e] at h
      have h9 : some p = some f := h
      cases h9
      omega
section ZT2
variable {G : z_G} {h : z_H} {Q : z_O → z_H → Prop} {p : Nat} {B : Nat → Prop} {x : z_PV}
theorem cP_reason {c : Int32} {b : Bool} (hP : z_P h p B x) (q : ∀ h', z_P h' p B x → z_Px p B h h' → Q (z_oc [z_IAE, z_NSE] (z_fReason x c (z_I b))) h') : z_W G 8 4 24 146 0 (z_L0 146 [.ref p, .int c, .int (z_I b)]) [] h Q := by
  have hP0 := hP
  obtain ⟨ri, rl, sp, pos, ot, o, fd, hA⟩ := hP0
  unfold z_fReason at q
  have go : ∀ (a : Nat) (R : Int32 × Int32), z_Rf h a R → R = (if c = 0 then x.2.2.2.2.2.2.2.1 else x.2.2.2.2.2.2.2.2.1) → ¬ (¬ c = 0 ∧ ¬ c = 1) → z_W G 8 4 24 146 35 (z_L0 146 [.ref p, .int c, .int (z_I b)]) [.ref a] h Q := by
    intro a R hR eR hc
    rw [if_neg hc, ← eR] at q
    refine z_astore_n rfl (by decide +kernel) rfl ?_
    refine z_aload_n rfl rfl ?_
    refine z_callV (av := []) rfl z_w15 hR rfl rfl rfl rfl rfl (Nat.le_of_ble_eq_true rfl) (Nat.le_of_ble_eq_true rfl) (Nat.le_of_ble_eq_true rfl) (Nat.le_of_ble_eq_true rfl) (cR_isNone hR ?_)
    refine z_if_eq rfl (fun c40 => ?_) (fun c40 => ?_)
    · refine z_iload_n rfl rfl ?_
      refine z_if_eq rfl (fun c55 => ?_) (fun c55 => ?_)
      · refine z_aload_n rfl rfl ?_
        refine z_get rfl hR rfl ?_
        refine z_iret rfl rfl ?_
        rw [if_neg (fun e => z_i0 c40 (decide_eq_true e)), if_pos c55] at q; exact z_same hP q
      · refine z_aload_n rfl rfl ?_
        refine z_get rfl hR rfl ?_
        refine z_goto rfl ?_
        refine z_iret rfl rfl ?_
        rw [if_neg (fun e => z_i0 c40 (decide_eq_true e)), if_neg c55] at q; exact z_same hP q
    · exact z_throwNW rfl rfl rfl rfl rfl rfl rfl (Nat.le_of_ble_eq_true rfl) (Nat.le_of_ble_eq_true rfl) (Nat.le_of_ble_eq_true rfl) rfl rfl ⟨rfl, rfl⟩ (fun n hn => z_goneP hP hn (by rw [if_pos (of_decide_eq_true (z_i2 c40))] at q; exact q))
  refine z_iload_n rfl rfl ?_
  refine z_if_eq rfl (fun c1 => ?_) (fun c1 => ?_)
  · refine z_iload_n rfl rfl ?_
    refine z_if_ne rfl (fun c21 => ?_) (fun c21 => ?_)
    · refine z_aload_n rfl rfl ?_
      refine z_get rfl hA.c0 rfl ?_
      exact absurd c1 c21
    · refine z_aload_n rfl rfl ?_
      refine z_get rfl hA.c0 rfl ?_
      refine z_goto rfl ?_
      exact go _ _ hA.kc (by rw [if_pos c21]) (fun e => e.1 c21)
  · refine z_iload_n rfl rfl ?_
    refine z_iconst (v := 1) rfl (by decide) ?_
    refine z_icmp_eq rfl (fun c6 => ?_) (fun c6 => ?_)
    · refine z_iload_n rfl rfl ?_
      refine z_if_ne rfl (fun c21 => ?_) (fun c21 => ?_)
      · refine z_aload_n rfl rfl ?_
        refine z_get rfl hA.c0 rfl ?_
        exact go _ _ hA.cc (by rw [if_neg c21]) (fun e => e.2 c6)
      · refine z_aload_n rfl rfl ?_
        refine z_get rfl hA.c0 rfl ?_
        refine z_goto rfl ?_
        exact absurd c21 c1
    · exact z_throwW rfl rfl rfl rfl rfl rfl rfl (Nat.le_of_ble_eq_true rfl) (Nat.le_of_ble_eq_true rfl) (Nat.le_of_ble_eq_true rfl) rfl rfl (by decide) (fun n hn => z_goneP hP hn (by rw [if_pos ⟨c1, c6⟩] at q; exact q))
theorem cP_character {i : Int32} (hP : z_P h p B x) (q : ∀ h', z_P h' p B x → z_Px p B h h' → Q (z_oc [z_IOB] (z_fCharacter x i)) h') : z_W G 8 4 24 150 0 (z_L0 150 [.ref p, .int i]) [] h Q := by
  have hP0 := hP
  obtain ⟨ri, rl, sp, pos, ot, o, fd, hA⟩ := hP0
  have hl := hA.wl
  unfold z_fCharacter at q
  have hno : (i < 0 ∨ ¬ i < nI x.2.2.2.2.2.2.1.length) → z_has i x.2.2.2.2.2.2.1.length = false := fun e => by
    unfold z_has
    simp only [decide_eq_false_iff_not]
    rintro ⟨e1, e2⟩
    rcases e with e | e
    · rw [Int32.lt_iff_toInt_lt, Int32.toInt_zero] at e; omega
    · exact e (by rw [Int32.lt_iff_toInt_lt, nI_toInt (by omega)]; exact e2)
  refine z_iload_n rfl rfl ?_
  refine z_if_lt rfl (fun c1 => ?_) (fun c1 => ?_)
  · exact z_throwW rfl rfl rfl rfl rfl rfl rfl (Nat.le_of_ble_eq_true rfl) (Nat.le_of_ble_eq_true rfl) (Nat.le_of_ble_eq_true rfl) rfl rfl (by decide) (fun n hn => z_goneP hP hn (by rw [if_neg (by rw [hno (Or.inl c1)]; decide)] at q; exact q))
  · refine z_iload_n rfl rfl ?_
    refine z_aload_n rfl rfl ?_
    refine z_get rfl hA.c0 rfl ?_
    refine z_callV (av := []) rfl z_w308 (z_inpSb hA.lb).choose_spec rfl rfl rfl rfl rfl (Nat.le_of_ble_eq_true rfl) (Nat.le_of_ble_eq_true rfl) (Nat.le_of_ble_eq_true rfl) (Nat.le_of_ble_eq_true rfl) (c_length hA.lb ?_)
    refine z_icmp_lt rfl (fun c12 => ?_) (fun c12 => ?_)
    · obtain ⟨j, hj⟩ := nI_of c1
      obtain ⟨hj1, rfl⟩ := hj
      have hj2 := (nI_ltI hj1 (by omega)).mp c12
      have hin : z_has (nI j) x.2.2.2.2.2.2.1.length = true := by rw [z_has_nI hj1]; exact decide_eq_true hj2
      refine z_aload_n rfl rfl ?_
      refine z_get rfl hA.c0 rfl ?_
      refine z_iload_n rfl rfl ?_
      refine z_callV (av := [_]) rfl z_w310 (z_inpSb hA.lb).choose_spec rfl rfl rfl rfl rfl (Nat.le_of_ble_eq_true rfl) (Nat.le_of_ble_eq_true rfl) (Nat.le_of_ble_eq_true rfl) (Nat.le_of_ble_eq_true rfl) (c_charAt hj2 hA.lb ?_)
      refine z_zret (ty := .char) rfl rfl (z_lbC hA.lb hj2) ?_
      rw [if_pos hin, z_ix_nI hj1] at q; exact z_same hP q
    · exact z_throwW rfl rfl rfl rfl rfl rfl rfl (Nat.le_of_ble_eq_true rfl) (Nat.le_of_ble_eq_true rfl) (Nat.le_of_ble_eq_true rfl) rfl rfl (by decide) (fun n hn => z_goneP hP hn (by rw [if_neg (by rw [hno (Or.inr c12)]; decide)] at q; exact q))
theorem cP_undo (hP : z_P h p B x) (q : ∀ h', z_P h' p B (z_fUndo x).2.2 → z_Px p B h h' → Q (z_oc [z_ISE] (z_fUndo x)) h') : z_W G 8 4 24 156 0 (z_L0 156 [.ref p]) [] h Q := by
  have hP0 := hP
  obtain ⟨ri, rl, sp, pos, ot, o, fd, hA⟩ := hP0
  have hk8 : x.2.2.2.1 ≤ 8 := by
    obtain ⟨o, P, f, y1, y2, y3, y4, y5, y6, y7⟩ := hA.hy
    exact y6
  unfold z_fUndo at q
  refine z_aload_n rfl rfl ?_
  refine z_get rfl hA.c0 rfl ?_
  refine z_get rfl (z_HyC2 hA.hy).choose_spec rfl ?_
  refine z_if_ne rfl (fun c7 => ?_) (fun c7 => ?_)
  · refine z_aload_n rfl rfl ?_
    refine z_get rfl hA.c0 rfl ?_
    refine z_aload_n rfl rfl ?_
    refine z_get rfl hA.c0 rfl ?_
    refine z_callV (av := [_]) rfl z_w86 (z_HyC hA.hy).choose_spec rfl rfl rfl rfl rfl (Nat.le_of_ble_eq_true rfl) (Nat.le_of_ble_eq_true rfl) (Nat.le_of_ble_eq_true rfl) (Nat.le_of_ble_eq_true rfl) (cY_giveBack (by have : ¬ x.2.2.2.1 = 0 := fun e9 => c7 (by rw [e9]; rfl); omega) hA.hy hA.h0 (by omega) (fun h1 h2 hH2 hY2 hF1 hF2 => ?_))
    rw [if_neg (fun e9 => c7 (by rw [e9]; rfl))] at q
    have hH1 : z_Hs h1 (p + 1) (x.2.2.2.2.1 (x.2.2.2.1 - 1)) := hH2.keptX (fun k e1 e2 => (hF2.2 k (by omega)).symm)
    obtain ⟨hA1, hX1⟩ := z_Pa.l_h0 hA hH1 hF1
    obtain ⟨hA2, hX2⟩ := z_Pa.l_hy hA1 hY2 hF2
    refine z_iret rfl rfl ?_
    exact q _ ⟨_, _, _, _, _, _, _, hA2⟩ (hX1.trans hX2)
  · exact z_throwW rfl rfl rfl rfl rfl rfl rfl (Nat.le_of_ble_eq_true rfl) (Nat.le_of_ble_eq_true rfl) (Nat.le_of_ble_eq_true rfl) rfl rfl (by decide) (fun n hn => z_goneP hP hn (by rw [if_pos ((nI_eq (b := 0) (by omega) (by decide)).mp c7)] at q; exact q))
theorem cP_save (hP : z_P h p B x) (q : ∀ h', z_P h' p B (z_fSave x).2.2 → z_Px p B h h' → Q (.inl (some (.int (z_fSave x).2.1))) h') : z_W G 8 0 0 157 0 (z_L0 157 [.ref p]) [] h Q := by
  obtain ⟨ri, rl, sp, pos, ot, o, fd, hA⟩ := hP
  refine z_aload_n rfl rfl ?_
  refine z_get rfl hA.c0 rfl ?_
  refine z_aload_n rfl rfl ?_
  refine z_get rfl hA.c0 rfl ?_
  refine z_callV (av := [_]) rfl z_w65 hA.h2.1 rfl rfl rfl rfl rfl (Nat.le_of_ble_eq_true rfl) (Nat.le_of_ble_eq_true rfl) (Nat.le_of_ble_eq_true rfl) (Nat.le_of_ble_eq_true rfl) (cH_copyFrom hA.h2 hA.h0 (by omega) (fun h1 hC1 hF1 => ?_))
  obtain ⟨hH1, hG1⟩ := z_Pa.l_h2 hA hC1 hF1
  refine z_aload_n rfl rfl ?_
  refine z_iconst (v := 1) rfl (by decide) ?_
  refine z_putC rfl hH1.c0 (by simp) rfl rfl rfl (fun h2 hC2 hF2 => ?_)
  obtain ⟨hA2, hX2⟩ := z_Pa.l_c0 (b2 := true) hH1 hC2 hF2
  refine z_aload_n rfl rfl ?_
  refine z_get rfl hA2.c0 rfl ?_
  refine z_get rfl hA2.h0.1 rfl ?_
  refine z_callV (av := []) rfl z_w27 hA2.h0.2.1.1 rfl rfl rfl rfl rfl (Nat.le_of_ble_eq_true rfl) (Nat.le_of_ble_eq_true rfl) (Nat.le_of_ble_eq_true rfl) (Nat.le_of_ble_eq_true rfl) (cC_count hA2.h0.2.1 ?_)
  refine z_iret rfl rfl ?_
  exact q _ ⟨_, _, _, _, _, _, _, hA2⟩ (hG1.trans hX2)
theorem cP_restore (hP : z_P h p B x) (q : ∀ h', z_P h' p B (z_fRestore x).2.2 → z_Px p B h h' → Q (z_oc [z_ISE] (z_fRestore x)) h') : z_W G 8 4 24 158 0 (z_L0 158 [.ref p]) [] h Q := by
  have hP0 := hP
  obtain ⟨ri, rl, sp, pos, ot, o, fd, hA⟩ := hP0
  unfold z_fRestore at q
  refine z_aload_n rfl rfl ?_
  refine z_get rfl hA.c0 rfl ?_
  refine z_if_ne rfl (fun c4 => ?_) (fun c4 => ?_)
  · refine z_aload_n rfl rfl ?_
    refine z_get rfl hA.c0 rfl ?_
    refine z_aload_n rfl rfl ?_
    refine z_get rfl hA.c0 rfl ?_
    refine z_callV (av := [_]) rfl z_w65 hA.h0.1 rfl rfl rfl rfl rfl (Nat.le_of_ble_eq_true rfl) (Nat.le_of_ble_eq_true rfl) (Nat.le_of_ble_eq_true rfl) (Nat.le_of_ble_eq_true rfl) (cH_copyFrom hA.h0 hA.h2 (by omega) (fun h1 hC1 hF1 => ?_))
    obtain ⟨hH1, hG1⟩ := z_Pa.l_h0 hA hC1 hF1
    refine z_aload_n rfl rfl ?_
    refine z_get rfl hH1.c0 rfl ?_
    refine z_callV (av := []) rfl z_w87 (z_HyC hH1.hy).choose_spec rfl rfl rfl rfl rfl (Nat.le_of_ble_eq_true rfl) (Nat.le_of_ble_eq_true rfl) (Nat.le_of_ble_eq_true rfl) (Nat.le_of_ble_eq_true rfl) (cY_clear hH1.hy (fun h2 hY2 hF2 => ?_))
    obtain ⟨hA2, hX2⟩ := z_Pa.l_hy (k2 := 0) hH1 (hY2 x.2.2.2.2.1) hF2
    refine z_aload_n rfl rfl ?_
    refine z_get rfl hA2.c0 rfl ?_
    refine z_get rfl hA2.h0.1 rfl ?_
    refine z_callV (av := []) rfl z_w27 hA2.h0.2.1.1 rfl rfl rfl rfl rfl (Nat.le_of_ble_eq_true rfl) (Nat.le_of_ble_eq_true rfl) (Nat.le_of_ble_eq_true rfl) (Nat.le_of_ble_eq_true rfl) (cC_count hA2.h0.2.1 ?_)
    refine z_iret rfl rfl ?_
    rw [if_pos (z_i2 c4)] at q; exact q _ ⟨_, _, _, _, _, _, _, hA2⟩ (hG1.trans hX2)
  · exact z_throwW rfl rfl rfl rfl rfl rfl rfl (Nat.le_of_ble_eq_true rfl) (Nat.le_of_ble_eq_true rfl) (Nat.le_of_ble_eq_true rfl) rfl rfl (by decide) (fun n hn => z_goneP hP hn (by rw [if_neg (z_i0 c4)] at q; exact q))
theorem cP_carriedShare (hn : ¬ x.1.2.2 1 = 0 → vf_n32 (FP.fdiv (FP.i2f (x.1.2.2 2)) (FP.i2f (x.1.2.2 1)))) (hP : z_P h p B x) (qf : ¬ x.1.2.2 1 = 0 → Q (.inl (some (.float (FP.fdiv (FP.i2f (x.1.2.2 2)) (FP.i2f (x.1.2.2 1)))))) h) (qx : x.1.2.2 1 = 0 → ∀ h', z_P h' p B x → z_Px p B h h' → Q (.inr z_ARE) h') : z_W G 8 4 24 155 0 (z_L0 155 [.ref p]) [] h Q := by
  have hP0 := hP
  obtain ⟨ri, rl, sp, pos, ot, o, fd, hA⟩ := hP0
  refine z_aload_n rfl rfl ?_
  refine z_get rfl hA.c0 rfl ?_
  refine z_get rfl hA.h0.1 rfl ?_
  refine z_if_ne rfl (fun c7 => ?_) (fun c7 => ?_)
  · refine z_aload_n rfl rfl ?_
    refine z_get rfl hA.c0 rfl ?_
    refine z_get rfl hA.h0.1 rfl ?_
    refine z_i2f rfl ?_
    refine z_aload_n rfl rfl ?_
    refine z_get rfl hA.c0 rfl ?_
    refine z_get rfl hA.h0.1 rfl ?_
    refine z_i2f rfl ?_
    refine z_fdiv rfl (hn c7) ?_
    refine z_fret rfl rfl ?_
    exact qf c7
  · exact z_throwW rfl rfl rfl rfl rfl rfl rfl (Nat.le_of_ble_eq_true rfl) (Nat.le_of_ble_eq_true rfl) (Nat.le_of_ble_eq_true rfl) rfl rfl (by decide) (fun n hn => z_goneP hP hn (qx c7))
theorem cP_startLine {k ri rl pos n : Nat} {hs sp sv : z_HV} {b : Bool} {H : Nat → z_HV} {inp ln : List Nat} {ot o : z_OV} {f kp cs : Int32 × Int32} {flt : Int32} (hk : k < 100) (hA : z_Pa h p B ri rl hs sp sv b n H inp ln pos ot o f kp cs flt) (q : ∀ h' rl', z_Pa h' p B ri rl' hs sp sv b n H inp (z_dgs k) pos ot o f kp cs flt → z_Px p B h h' → Q (.inl none) h') : z_W G 7 2 404 151 0 (z_L0 151 [.ref p, .int (nI k)]) [] h Q := by
  have hl := hA.wl
  have hw : (z_dgs k).length ≤ 2 := by unfold z_dgs; split <;> simp
  refine z_aload_n rfl rfl ?_
  refine z_get rfl hA.c0 rfl ?_
  refine z_iconst (v := 0) rfl (by decide) ?_
  refine z_callV (av := [_]) rfl z_w306 (z_inpSb hA.lb).choose_spec rfl rfl rfl rfl rfl (Nat.le_of_ble_eq_true rfl) (Nat.le_of_ble_eq_true rfl) (Nat.le_of_ble_eq_true rfl) (Nat.le_of_ble_eq_true rfl) (c_setLength hA.lb (by omega) (fun h1 r1 hr1 hS1 hx1 => ?_))
  obtain ⟨hA1, hX1⟩ := z_Pa.l_ln hA hS1 hr1 hx1 (by simp)
  refine z_aload_n rfl rfl ?_
  refine z_get rfl hA1.c0 rfl ?_
  refine z_iload_n rfl rfl ?_
  refine z_callV (av := [_]) rfl z_w304 (z_inpSb hA1.lb).choose_spec rfl rfl rfl rfl rfl (Nat.le_of_ble_eq_true rfl) (Nat.le_of_ble_eq_true rfl) (Nat.le_of_ble_eq_true rfl) (Nat.le_of_ble_eq_true rfl) (c_appendI hk (by simp) hA1.lb (fun h2 r2 hr2 hS2 hx2 => ?_))
  obtain ⟨hA2, hX2⟩ := z_Pa.l_ln hA1 hS2 hr2 hx2 (by simp; omega)
  refine z_pop rfl rfl ?_
  refine z_vret rfl rfl ?_
  exact q _ _ hA2 (hX1.trans hX2)
theorem cP_write {k c ri rl pos n : Nat} {hs sp sv : z_HV} {b : Bool} {H : Nat → z_HV} {inp ln : List Nat} {ot o : z_OV} {f kp cs : Int32 × Int32} {flt : Int32} (hc : c < 128) (hk : k < 100) (hl : ln.length ≤ 37) (hA : z_Pa h p B ri rl hs sp sv b n H inp ln pos ot o f kp cs flt) (q : ∀ h' rl', z_Pa h' p B ri rl' hs sp sv b n H inp (ln ++ [c] ++ z_dgs k) pos ot o f kp cs flt → z_Px p B h h' → Q (.inl none) h') : z_W G 7 2 404 152 0 (z_L0 152 [.ref p, .int (nI c), .int (nI k)]) [] h Q := by
  have hw : (z_dgs k).length ≤ 2 := by unfold z_dgs; split <;> simp
  refine z_aload_n rfl rfl ?_
  refine z_get rfl hA.c0 rfl ?_
  refine z_iload_n rfl rfl ?_
  refine z_callV (av := [_]) rfl z_w302 (z_inpSb hA.lb).choose_spec rfl rfl rfl rfl rfl (Nat.le_of_ble_eq_true rfl) (Nat.le_of_ble_eq_true rfl) (Nat.le_of_ble_eq_true rfl) (Nat.le_of_ble_eq_true rfl) (c_appendC hc (by omega) hA.lb (fun h1 r1 hr1 hS1 hx1 => ?_))
  obtain ⟨hA1, hX1⟩ := z_Pa.l_ln hA hS1 hr1 hx1 (by simp; omega)
  refine z_pop rfl rfl ?_
  refine z_aload_n rfl rfl ?_
  refine z_get rfl hA1.c0 rfl ?_
  refine z_iload_n rfl rfl ?_
  refine z_callV (av := [_]) rfl z_w304 (z_inpSb hA1.lb).choose_spec rfl rfl rfl rfl rfl (Nat.le_of_ble_eq_true rfl) (Nat.le_of_ble_eq_true rfl) (Nat.le_of_ble_eq_true rfl) (Nat.le_of_ble_eq_true rfl) (c_appendI hk (by simp; omega) hA1.lb (fun h2 r2 hr2 hS2 hx2 => ?_))
  obtain ⟨hA2, hX2⟩ := z_Pa.l_ln hA1 hS2 hr2 hx2 (by simp; omega)
  refine z_pop rfl rfl ?_
  refine z_vret rfl rfl ?_
  exact q _ _ hA2 (hX1.trans hX2)
theorem z_dgsL (k : Nat) : (z_dgs k).length ≤ 2 := by
  unfold z_dgs
  split <;> simp
/-- a number of at most two figures -/
def z_two (v : Int32) : Prop := ∃ k : Nat, k < 100 ∧ v = nI k
theorem z_two.eq {v : Int32} (h : z_two v) : v = nI (z_ix v) ∧ z_ix v < 100 := by
  obtain ⟨k, h1, rfl⟩ := h
  rw [z_ix_nI (by omega)]
  exact ⟨rfl, h1⟩
theorem cP_tell {c : Int32} (ht : ∀ j, j < 3 → z_two (z_a x.1.1 j c)) (hP : z_P h p B x) (q : ∀ h', z_P h' p B (z_fTell x c).2.2 → z_Px p B h h' → Q (z_oc [z_IOB] (z_fTell x c)) h') : z_W G 8 20 4000 147 0 (z_L0 147 [.ref p, .int c]) [] h Q := by
  have hP0 := hP
  obtain ⟨ri, rl, sp, pos, ot, o, fd, hA⟩ := hP0
  obtain ⟨t0, u0⟩ := (ht 0 (by decide)).eq
  obtain ⟨t1, u1⟩ := (ht 1 (by decide)).eq
  obtain ⟨t2, u2⟩ := (ht 2 (by decide)).eq
  have h8 : x.1.1.1 0 ≤ 8 := (hA.h0.2.1.2 0 (by decide)).fits.1
  unfold z_fTell at q
  have loop : ∀ (c : Nat) (L : List Nat), L.length ≤ 20 → (∀ h', z_P h' p B (z_setL x (z_fold (z_kyS x.1 (nI c)) L 3)) → z_Px p B h h' → Q (.inl (some (.int (nI (z_fold (z_kyS x.1 (nI c)) L 3).length)))) h') → ∀ (m i : Nat) (hh : z_H) (rl : Nat), i + m = 3 → z_Pa hh p B ri rl x.1 sp x.2.1 x.2.2.1 x.2.2.2.1 x.2.2.2.2.1 x.2.2.2.2.2.1 (z_fold (z_kyS x.1 (nI c)) L i) pos ot o fd x.2.2.2.2.2.2.2.1 x.2.2.2.2.2.2.2.2.1 x.2.2.2.2.2.2.2.2.2 → (z_fold (z_kyS x.1 (nI c)) L i).length ≤ 20 + 3 * i → z_Px p B h hh → z_W G 8 (2 * m) (404 * m) 147 62 [.ref p, .int (nI c), .ref (p + 1 + 1), .int (nI i)] [] hh Q := by
    intro c L hL q m
    induction m with
    | zero =>
      intro i hh rl hi hA hl hX
      obtain rfl : i = 3 := by omega
      refine z_iload_n rfl rfl ?_
      refine z_iconst (v := 3) rfl (by decide) ?_
      refine z_icmp_ge rfl (fun c64 => ?_) (fun c64 => absurd (by decide) c64)
      refine z_aload_n rfl rfl ?_
      refine z_get rfl hA.c0 rfl ?_
      refine z_callV (av := []) rfl z_w308 (z_inpSb hA.lb).choose_spec rfl rfl rfl rfl rfl (Nat.le_of_ble_eq_true rfl) (Nat.le_of_ble_eq_true rfl) (Nat.le_of_ble_eq_true rfl) (Nat.le_of_ble_eq_true rfl) (c_length hA.lb ?_)
      refine z_iret rfl rfl ?_
      exact q _ ⟨_, _, _, _, _, _, _, hA⟩ hX
    | succ m ih =>
      intro i hh rl hi hA hl hX
      have e0 : z_fold (z_kyS x.1 (nI c)) L (i + 1) = if z_a x.1.1 4 (nI i) = nI c then z_fold (z_kyS x.1 (nI c)) L i ++ [107] ++ z_dgs i else z_fold (z_kyS x.1 (nI c)) L i := rfl
      have hd := z_dgsL i
      refine z_iload_n rfl rfl ?_
      refine z_iconst (v := 3) rfl (by decide) ?_
      refine z_icmp_ge rfl (fun c64 => absurd c64 (show ¬ (3 : Int32) ≤ nI i from fun e9 => absurd ((nI_leI (a := 3) (by decide) (by omega)).mp e9) (by omega))) (fun c64 => ?_)
      refine z_aload_n rfl rfl ?_
      refine z_get rfl hA.h0.2.1.1 rfl ?_
      refine z_iload_n rfl rfl ?_
      refine z_callV (av := [_]) rfl z_w3 (hA.h0.2.1.2 4 (by decide)).1 rfl rfl rfl rfl rfl (Nat.le_of_ble_eq_true rfl) (Nat.le_of_ble_eq_true rfl) (Nat.le_of_ble_eq_true rfl) (Nat.le_of_ble_eq_true rfl) (z_Li.at hA.h0.2.1 (j := 4) (by decide) ?_)
      refine z_iload_n rfl rfl ?_
      refine z_icmp_ne rfl (fun c76 => ?_) (fun c76 => ?_)
      · refine z_iinc1 rfl rfl (by decide +kernel) rfl ?_
        refine z_goto rfl ((ih (i + 1) _ _ (by omega) (by rw [e0, if_neg c76]; exact hA) (by rw [e0, if_neg c76]; omega) hX).mono (by decide) (by omega) (by omega))
      · refine z_aload_n rfl rfl ?_
        refine z_bipush (v := 107) rfl (by decide) ?_
        refine z_iload_n rfl rfl ?_
        refine z_callV (av := [_, _]) rfl z_w152 hA.c0 rfl rfl rfl rfl rfl (Nat.le_of_ble_eq_true rfl) (by omega) (by omega) (Nat.le_of_ble_eq_true rfl) (cP_write (c := 107) (by decide) (by omega) (by omega) hA (fun h1 rl1 hA1 hX1 => ?_))
        refine z_iinc1 rfl rfl (by decide +kernel) rfl ?_
        refine z_goto rfl ((ih (i + 1) _ _ (by omega) (by rw [e0, if_pos c76]; exact hA1) (by rw [e0, if_pos c76]; simp; omega) (hX.trans hX1)).mono (by decide) (by omega) (by omega))
  refine z_aload_n rfl rfl ?_
  refine z_iload_n rfl rfl ?_
  refine z_callV (av := [_]) rfl z_w120 hA.c0 rfl rfl rfl rfl rfl (Nat.le_of_ble_eq_true rfl) (Nat.le_of_ble_eq_true rfl) (Nat.le_of_ble_eq_true rfl) (Nat.le_of_ble_eq_true rfl) (cP_checkClock hP (fun e => ?_) (fun e n hn => z_Xout rfl (z_goneP hP hn (by rw [if_pos e] at q; exact q))))
  rw [if_neg (by rw [e]; decide)] at q
  have ei := z_hasI e
  have ec : c = nI (z_ix c) := by
    have e1 := ei.2.2.2; refine Int32.toInt_inj.mp ?_; rw [nI_toInt (by omega)]; exact e1
  have hcx : z_ix c < 8 := by omega
  generalize z_ix c = cc at ec hcx q
  subst ec
  refine z_aload_n rfl rfl ?_
  refine z_get rfl hA.c0 rfl ?_
  refine z_get rfl hA.h0.1 rfl ?_
  refine z_astore_n rfl (by decide +kernel) rfl ?_
  refine z_aload_n rfl rfl ?_
  refine z_iload_n rfl rfl ?_
  refine z_callV (av := [_]) rfl z_w151 hA.c0 rfl rfl rfl rfl rfl (Nat.le_of_ble_eq_true rfl) (Nat.le_of_ble_eq_true rfl) (Nat.le_of_ble_eq_true rfl) (Nat.le_of_ble_eq_true rfl) (cP_startLine (by omega) hA (fun h1 rl1 hA1 hX1 => ?_))
  refine z_aload_n rfl rfl ?_
  refine z_bipush (v := 58) rfl (by decide) ?_
  refine z_aload_n rfl rfl ?_
  refine z_get rfl hA1.h0.2.1.1 rfl ?_
  refine z_iload_n rfl rfl ?_
  refine z_callV (av := [_]) rfl z_w3 (hA1.h0.2.1.2 0 (by decide)).1 rfl rfl rfl rfl rfl (Nat.le_of_ble_eq_true rfl) (Nat.le_of_ble_eq_true rfl) (Nat.le_of_ble_eq_true rfl) (Nat.le_of_ble_eq_true rfl) (z_Li.at hA1.h0.2.1 (j := 0) (by decide) ?_)
  rw [t0]
  refine z_callV (av := [_, _]) rfl z_w152 hA1.c0 rfl rfl rfl rfl rfl (Nat.le_of_ble_eq_true rfl) (Nat.le_of_ble_eq_true rfl) (Nat.le_of_ble_eq_true rfl) (Nat.le_of_ble_eq_true rfl) (cP_write (c := 58) (by decide) u0 (by have := z_dgsL cc; omega) hA1 (fun h2 rl2 hA2 hX2 => ?_))
  refine z_aload_n rfl rfl ?_
  refine z_bipush (v := 126) rfl (by decide) ?_
  refine z_aload_n rfl rfl ?_
  refine z_get rfl hA2.h0.2.1.1 rfl ?_
  refine z_iload_n rfl rfl ?_
  refine z_callV (av := [_]) rfl z_w3 (hA2.h0.2.1.2 1 (by decide)).1 rfl rfl rfl rfl rfl (Nat.le_of_ble_eq_true rfl) (Nat.le_of_ble_eq_true rfl) (Nat.le_of_ble_eq_true rfl) (Nat.le_of_ble_eq_true rfl) (z_Li.at hA2.h0.2.1 (j := 1) (by decide) ?_)
  rw [t1]
  refine z_callV (av := [_, _]) rfl z_w152 hA2.c0 rfl rfl rfl rfl rfl (Nat.le_of_ble_eq_true rfl) (Nat.le_of_ble_eq_true rfl) (Nat.le_of_ble_eq_true rfl) (Nat.le_of_ble_eq_true rfl) (cP_write (c := 126) (by decide) u1 (by have := z_dgsL cc; have := z_dgsL (z_ix (z_a x.1.1 0 (nI cc))); simp; omega) hA2 (fun h3 rl3 hA3 hX3 => ?_))
  refine z_aload_n rfl rfl ?_
  refine z_bipush (v := 60) rfl (by decide) ?_
  refine z_aload_n rfl rfl ?_
  refine z_get rfl hA3.h0.2.1.1 rfl ?_
  refine z_iload_n rfl rfl ?_
  refine z_callV (av := [_]) rfl z_w3 (hA3.h0.2.1.2 2 (by decide)).1 rfl rfl rfl rfl rfl (Nat.le_of_ble_eq_true rfl) (Nat.le_of_ble_eq_true rfl) (Nat.le_of_ble_eq_true rfl) (Nat.le_of_ble_eq_true rfl) (z_Li.at hA3.h0.2.1 (j := 2) (by decide) ?_)
  rw [t2]
  refine z_callV (av := [_, _]) rfl z_w152 hA3.c0 rfl rfl rfl rfl rfl (Nat.le_of_ble_eq_true rfl) (Nat.le_of_ble_eq_true rfl) (Nat.le_of_ble_eq_true rfl) (Nat.le_of_ble_eq_true rfl) (cP_write (c := 60) (by decide) u2 (by have := z_dgsL cc; have := z_dgsL (z_ix (z_a x.1.1 0 (nI cc))); have := z_dgsL (z_ix (z_a x.1.1 1 (nI cc))); simp; omega) hA3 (fun h4 rl4 hA4 hX4 => ?_))
  refine z_iconst (v := nI 0) rfl (by decide) ?_
  refine z_istore_n rfl (by decide +kernel) rfl ?_
  refine (loop cc _ (by have := z_dgsL cc; have := z_dgsL (z_ix (z_a x.1.1 0 (nI cc))); have := z_dgsL (z_ix (z_a x.1.1 1 (nI cc))); have := z_dgsL (z_ix (z_a x.1.1 2 (nI cc))); simp; omega) q 3 0 _ _ rfl hA4 ?_ (((hX1.trans hX2).trans hX3).trans hX4)).mono (by decide) (by decide) (by decide)
  have := z_dgsL cc; have := z_dgsL (z_ix (z_a x.1.1 0 (nI cc))); have := z_dgsL (z_ix (z_a x.1.1 1 (nI cc))); have := z_dgsL (z_ix (z_a x.1.1 2 (nI cc)))
  show (((z_dgs cc ++ [58] ++ z_dgs (z_ix (z_a x.1.1 0 (nI cc)))) ++ [126] ++ z_dgs (z_ix (z_a x.1.1 1 (nI cc)))) ++ [60] ++ z_dgs (z_ix (z_a x.1.1 2 (nI cc)))).length ≤ 20 + 3 * 0
  simp; omega
theorem cP_tellBill {c : Int32} (ht : ∀ j, 0 < j → j < 4 → z_two (z_a x.1.2.1 j c)) (hP : z_P h p B x) (q : ∀ h', z_P h' p B (z_fTellBill x c).2.2 → z_Px p B h h' → Q (z_oc [z_IOB] (z_fTellBill x c)) h') : z_W G 8 20 4000 148 0 (z_L0 148 [.ref p, .int c]) [] h Q := by
  have hP0 := hP
  obtain ⟨ri, rl, sp, pos, ot, o, fd, hA⟩ := hP0
  obtain ⟨t0, u0⟩ := (ht 1 (by decide) (by decide)).eq
  obtain ⟨t1, u1⟩ := (ht 2 (by decide) (by decide)).eq
  obtain ⟨t2, u2⟩ := (ht 3 (by decide) (by decide)).eq
  have h8 : x.1.2.1.1 0 ≤ 10 := (hA.h0.2.2.2 0 (by decide)).fits.1
  unfold z_fTellBill at q
  refine z_aload_n rfl rfl ?_
  refine z_iload_n rfl rfl ?_
  refine z_callV (av := [_]) rfl z_w121 hA.c0 rfl rfl rfl rfl rfl (Nat.le_of_ble_eq_true rfl) (Nat.le_of_ble_eq_true rfl) (Nat.le_of_ble_eq_true rfl) (Nat.le_of_ble_eq_true rfl) (cP_checkBill hP (fun e => ?_) (fun e n hn => z_Xout rfl (z_goneP hP hn (by rw [if_pos e] at q; exact q))))
  rw [if_neg (by rw [e]; decide)] at q
  have ei := z_hasI e
  have ec : c = nI (z_ix c) := by
    have e1 := ei.2.2.2; refine Int32.toInt_inj.mp ?_; rw [nI_toInt (by omega)]; exact e1
  have hcx : z_ix c < 10 := by omega
  generalize z_ix c = cc at ec hcx q
  subst ec
  refine z_aload_n rfl rfl ?_
  refine z_iload_n rfl rfl ?_
  refine z_callV (av := [_]) rfl z_w151 hA.c0 rfl rfl rfl rfl rfl (Nat.le_of_ble_eq_true rfl) (Nat.le_of_ble_eq_true rfl) (Nat.le_of_ble_eq_true rfl) (Nat.le_of_ble_eq_true rfl) (cP_startLine (by omega) hA (fun h1 rl1 hA1 hX1 => ?_))
  refine z_aload_n rfl rfl ?_
  refine z_bipush (v := 64) rfl (by decide) ?_
  refine z_aload_n rfl rfl ?_
  refine z_get rfl hA1.c0 rfl ?_
  refine z_get rfl hA1.h0.1 rfl ?_
  refine z_get rfl hA1.h0.2.2.1 rfl ?_
  refine z_iload_n rfl rfl ?_
  refine z_callV (av := [_]) rfl z_w3 (hA1.h0.2.2.2 1 (by decide)).1 rfl rfl rfl rfl rfl (Nat.le_of_ble_eq_true rfl) (Nat.le_of_ble_eq_true rfl) (Nat.le_of_ble_eq_true rfl) (Nat.le_of_ble_eq_true rfl) (z_Li.at hA1.h0.2.2 (j := 1) (by decide) ?_)
  rw [t0]
  refine z_callV (av := [_, _]) rfl z_w152 hA1.c0 rfl rfl rfl rfl rfl (Nat.le_of_ble_eq_true rfl) (Nat.le_of_ble_eq_true rfl) (Nat.le_of_ble_eq_true rfl) (Nat.le_of_ble_eq_true rfl) (cP_write (c := 64) (by decide) u0 (by have := z_dgsL cc; omega) hA1 (fun h2 rl2 hA2 hX2 => ?_))
  refine z_aload_n rfl rfl ?_
  refine z_bipush (v := 43) rfl (by decide) ?_
  refine z_aload_n rfl rfl ?_
  refine z_get rfl hA2.c0 rfl ?_
  refine z_get rfl hA2.h0.1 rfl ?_
  refine z_get rfl hA2.h0.2.2.1 rfl ?_
  refine z_iload_n rfl rfl ?_
  refine z_callV (av := [_]) rfl z_w3 (hA2.h0.2.2.2 2 (by decide)).1 rfl rfl rfl rfl rfl (Nat.le_of_ble_eq_true rfl) (Nat.le_of_ble_eq_true rfl) (Nat.le_of_ble_eq_true rfl) (Nat.le_of_ble_eq_true rfl) (z_Li.at hA2.h0.2.2 (j := 2) (by decide) ?_)
  rw [t1]
  refine z_callV (av := [_, _]) rfl z_w152 hA2.c0 rfl rfl rfl rfl rfl (Nat.le_of_ble_eq_true rfl) (Nat.le_of_ble_eq_true rfl) (Nat.le_of_ble_eq_true rfl) (Nat.le_of_ble_eq_true rfl) (cP_write (c := 43) (by decide) u1 (by have := z_dgsL cc; have := z_dgsL (z_ix (z_a x.1.2.1 1 (nI cc))); simp; omega) hA2 (fun h3 rl3 hA3 hX3 => ?_))
  refine z_aload_n rfl rfl ?_
  refine z_get rfl hA3.c0 rfl ?_
  refine z_get rfl hA3.h0.1 rfl ?_
  refine z_iload_n rfl rfl ?_
  refine z_callV (av := [_]) rfl z_w53 hA3.h0.2.2.1 rfl rfl rfl rfl rfl (Nat.le_of_ble_eq_true rfl) (Nat.le_of_ble_eq_true rfl) (Nat.le_of_ble_eq_true rfl) (Nat.le_of_ble_eq_true rfl) (cB_isAdjourned hA3.h0.2.2 ?_)
  refine z_if_eq rfl (fun c61 => ?_) (fun c61 => ?_)
  · unfold z_tbL at q; rw [if_neg (z_i0 c61)] at q
    refine z_aload_n rfl rfl ?_
    refine z_get rfl hA3.c0 rfl ?_
    refine z_callV (av := []) rfl z_w308 (z_inpSb hA3.lb).choose_spec rfl rfl rfl rfl rfl (Nat.le_of_ble_eq_true rfl) (Nat.le_of_ble_eq_true rfl) (Nat.le_of_ble_eq_true rfl) (Nat.le_of_ble_eq_true rfl) (c_length hA3.lb ?_)
    refine z_iret rfl rfl ?_
    exact q _ ⟨_, _, _, _, _, _, _, hA3⟩ ((hX1.trans hX2).trans hX3)
  · refine z_aload_n rfl rfl ?_
    refine z_bipush (v := 104) rfl (by decide) ?_
    refine z_aload_n rfl rfl ?_
    refine z_get rfl hA3.c0 rfl ?_
    refine z_get rfl hA3.h0.1 rfl ?_
    refine z_get rfl hA3.h0.2.2.1 rfl ?_
    refine z_iload_n rfl rfl ?_
    refine z_callV (av := [_]) rfl z_w3 (hA3.h0.2.2.2 3 (by decide)).1 rfl rfl rfl rfl rfl (Nat.le_of_ble_eq_true rfl) (Nat.le_of_ble_eq_true rfl) (Nat.le_of_ble_eq_true rfl) (Nat.le_of_ble_eq_true rfl) (z_Li.at hA3.h0.2.2 (j := 3) (by decide) ?_)
    rw [t2]
    refine z_callV (av := [_, _]) rfl z_w152 hA3.c0 rfl rfl rfl rfl rfl (Nat.le_of_ble_eq_true rfl) (Nat.le_of_ble_eq_true rfl) (Nat.le_of_ble_eq_true rfl) (Nat.le_of_ble_eq_true rfl) (cP_write (c := 104) (by decide) u2 (by have := z_dgsL cc; have := z_dgsL (z_ix (z_a x.1.2.1 1 (nI cc))); have := z_dgsL (z_ix (z_a x.1.2.1 2 (nI cc))); simp; omega) hA3 (fun h4 rl4 hA4 hX4 => ?_))
    skip
    unfold z_tbL at q; rw [if_pos (z_i2 c61)] at q
    refine z_aload_n rfl rfl ?_
    refine z_get rfl hA4.c0 rfl ?_
    refine z_callV (av := []) rfl z_w308 (z_inpSb hA4.lb).choose_spec rfl rfl rfl rfl rfl (Nat.le_of_ble_eq_true rfl) (Nat.le_of_ble_eq_true rfl) (Nat.le_of_ble_eq_true rfl) (Nat.le_of_ble_eq_true rfl) (c_length hA4.lb ?_)
    refine z_iret rfl rfl ?_
    exact q _ ⟨_, _, _, _, _, _, _, hA4⟩ (((hX1.trans hX2).trans hX3).trans hX4)
theorem cP_tellRow (ht : ∀ i, i < x.1.2.1.1 5 → z_two (x.1.2.1.2 5 i) ∧ z_ix (x.1.2.1.2 5 i) < 10) (hP : z_P h p B x) (q : ∀ h', z_P h' p B (z_setL x (z_trL x.1)) → z_Px p B h h' → Q (.inl (some (.int (nI (z_trL x.1).length)))) h') : z_W G 8 30 8000 149 0 (z_L0 149 [.ref p]) [] h Q := by
  have hP0 := hP
  obtain ⟨ri, rl, sp, pos, ot, o, fd, hA⟩ := hP0
  have hn : x.1.2.1.1 5 ≤ 10 := (hA.h0.2.2.2 5 (by decide)).fits.1
  have hl := hA.wl
  have one : ∀ k, k < 10 → (z_dgs k).length = 1 := fun k hk => by unfold z_dgs; rw [if_pos hk]; rfl
  have loop : ∀ (m i : Nat) (hh : z_H) (rl : Nat) (L : List Nat), i + m = x.1.2.1.1 5 - 1 → 0 < x.1.2.1.1 5 → L = z_fold (fun l i => l ++ [32] ++ z_dgs (z_ix (x.1.2.1.2 5 (i + 1)))) (z_dgs (z_ix (x.1.2.1.2 5 0))) i → L.length = 1 + 2 * i → z_Pa hh p B ri rl x.1 sp x.2.1 x.2.2.1 x.2.2.2.1 x.2.2.2.2.1 x.2.2.2.2.2.1 L pos ot o fd x.2.2.2.2.2.2.2.1 x.2.2.2.2.2.2.2.2.1 x.2.2.2.2.2.2.2.2.2 → z_Px p B h hh → z_W G 8 (2 * m) (404 * m) 149 37 [.ref p, .ref (p + 1 + 12 + 1 + 2 * 5), .int (nI (i + 1))] [] hh Q := by
    intro m
    induction m with
    | zero =>
      intro i hh rl L hi h0 hL hlen hA hX
      refine z_iload_n rfl rfl ?_
      refine z_aload_n rfl rfl ?_
      refine z_callV (av := []) rfl z_w1 (hA.h0.2.2.2 5 (by decide)).1 rfl rfl rfl rfl rfl (Nat.le_of_ble_eq_true rfl) (Nat.le_of_ble_eq_true rfl) (Nat.le_of_ble_eq_true rfl) (Nat.le_of_ble_eq_true rfl) (cs_count (hA.h0.2.2.2 5 (by decide)) ?_)
      refine z_icmp_ge rfl (fun c42 => ?_) (fun c42 => absurd (show nI (x.1.2.1.1 5) ≤ nI (i + 1) from (nI_leI (by omega) (by omega)).mpr (by omega)) c42)
      refine z_aload_n rfl rfl ?_
      refine z_get rfl hA.c0 rfl ?_
      refine z_callV (av := []) rfl z_w308 (z_inpSb hA.lb).choose_spec rfl rfl rfl rfl rfl (Nat.le_of_ble_eq_true rfl) (Nat.le_of_ble_eq_true rfl) (Nat.le_of_ble_eq_true rfl) (Nat.le_of_ble_eq_true rfl) (c_length hA.lb ?_)
      refine z_iret rfl rfl ?_
      unfold z_trL at q; rw [if_neg (by omega), show x.1.2.1.1 5 - 1 = i by omega, ← hL] at q; exact q _ ⟨_, _, _, _, _, _, _, hA⟩ hX
    | succ m ih =>
      intro i hh rl L hi h0 hL hlen hA hX
      obtain ⟨⟨t0, u0⟩, u1⟩ := And.imp_left z_two.eq (ht (i + 1) (by omega))
      have hd := one _ u1
      refine z_iload_n rfl rfl ?_
      refine z_aload_n rfl rfl ?_
      refine z_callV (av := []) rfl z_w1 (hA.h0.2.2.2 5 (by decide)).1 rfl rfl rfl rfl rfl (Nat.le_of_ble_eq_true rfl) (Nat.le_of_ble_eq_true rfl) (Nat.le_of_ble_eq_true rfl) (Nat.le_of_ble_eq_true rfl) (cs_count (hA.h0.2.2.2 5 (by decide)) ?_)
      refine z_icmp_ge rfl (fun c42 => absurd c42 (show ¬ nI (x.1.2.1.1 5) ≤ nI (i + 1) from fun q9 => absurd ((nI_leI (by omega) (by omega)).mp q9) (by omega))) (fun c42 => ?_)
      refine z_aload_n rfl rfl ?_
      refine z_bipush (v := 32) rfl (by decide) ?_
      refine z_aload_n rfl rfl ?_
      refine z_iload_n rfl rfl ?_
      refine z_callV (av := [_]) rfl z_w3 (hA.h0.2.2.2 5 (by decide)).1 rfl rfl rfl rfl rfl (Nat.le_of_ble_eq_true rfl) (Nat.le_of_ble_eq_true rfl) (Nat.le_of_ble_eq_true rfl) (Nat.le_of_ble_eq_true rfl) (cs_at (hA.h0.2.2.2 5 (by decide)) ?_)
      rw [z_atV_nI (by omega), if_pos (by omega), t0]
      refine z_callV (av := [_, _]) rfl z_w152 hA.c0 rfl rfl rfl rfl rfl (Nat.le_of_ble_eq_true rfl) (by omega) (by omega) (Nat.le_of_ble_eq_true rfl) (cP_write (c := 32) (by decide) u0 (by omega) hA (fun h1 rl1 hA1 hX1 => ?_))
      refine z_iinc1 rfl rfl (by decide +kernel) rfl ?_
      refine z_goto rfl ((ih (i + 1) _ _ _ (by omega) h0 (by rw [hL]; rfl) (by simp; omega) hA1 (hX.trans hX1)).mono (by decide) (by omega) (by omega))
  refine z_aload_n rfl rfl ?_
  refine z_get rfl hA.c0 rfl ?_
  refine z_get rfl hA.h0.1 rfl ?_
  refine z_get rfl hA.h0.2.2.1 rfl ?_
  refine z_astore_n rfl (by decide +kernel) rfl ?_
  refine z_aload_n rfl rfl ?_
  refine z_get rfl hA.c0 rfl ?_
  refine z_iconst (v := 0) rfl (by decide) ?_
  refine z_callV (av := [_]) rfl z_w306 (z_inpSb hA.lb).choose_spec rfl rfl rfl rfl rfl (Nat.le_of_ble_eq_true rfl) (Nat.le_of_ble_eq_true rfl) (Nat.le_of_ble_eq_true rfl) (Nat.le_of_ble_eq_true rfl) (c_setLength hA.lb (by omega) (fun h1 r1 hr1 hS1 hx1 => ?_))
  obtain ⟨hA1, hX1⟩ := z_Pa.l_ln hA hS1 hr1 hx1 (by simp)
  refine z_aload_n rfl rfl ?_
  refine z_callV (av := []) rfl z_w1 (hA1.h0.2.2.2 5 (by decide)).1 rfl rfl rfl rfl rfl (Nat.le_of_ble_eq_true rfl) (Nat.le_of_ble_eq_true rfl) (Nat.le_of_ble_eq_true rfl) (Nat.le_of_ble_eq_true rfl) (cs_count (hA1.h0.2.2.2 5 (by decide)) ?_)
  refine z_if_le rfl (fun c23 => ?_) (fun c23 => ?_)
  · refine z_iconst (v := nI (0 + 1)) rfl (by decide) ?_
    refine z_istore_n rfl (by decide +kernel) rfl ?_
    have h0 : x.1.2.1.1 5 = 0 := by have := (nI_leI (a := x.1.2.1.1 5) (b := 0) (by omega) (by decide)).mp c23; omega
    have eL : z_trL x.1 = [] := by unfold z_trL; rw [if_pos h0]
    rw [eL] at q
    refine z_iload_n rfl rfl ?_
    refine z_aload_n rfl rfl ?_
    refine z_callV (av := []) rfl z_w1 (hA1.h0.2.2.2 5 (by decide)).1 rfl rfl rfl rfl rfl (Nat.le_of_ble_eq_true rfl) (Nat.le_of_ble_eq_true rfl) (Nat.le_of_ble_eq_true rfl) (Nat.le_of_ble_eq_true rfl) (cs_count (hA1.h0.2.2.2 5 (by decide)) ?_)
    refine z_icmp_ge rfl (fun c42 => ?_) (fun c42 => absurd (show nI (x.1.2.1.1 5) ≤ nI (0 + 1) from by rw [h0]; decide) c42)
    refine z_aload_n rfl rfl ?_
    refine z_get rfl hA1.c0 rfl ?_
    refine z_callV (av := []) rfl z_w308 (z_inpSb hA1.lb).choose_spec rfl rfl rfl rfl rfl (Nat.le_of_ble_eq_true rfl) (Nat.le_of_ble_eq_true rfl) (Nat.le_of_ble_eq_true rfl) (Nat.le_of_ble_eq_true rfl) (c_length hA1.lb ?_)
    refine z_iret rfl rfl ?_
    exact q _ ⟨_, _, _, _, _, _, _, hA1⟩ hX1
  · refine z_aload_n rfl rfl ?_
    refine z_aload_n rfl rfl ?_
    refine z_iconst (v := 0) rfl (by decide) ?_
    have h0 : 0 < x.1.2.1.1 5 := Nat.pos_of_ne_zero fun e9 => c23 (by rw [e9]; decide)
    obtain ⟨⟨t0, u0⟩, u1⟩ := And.imp_left z_two.eq (ht 0 h0)
    refine z_callV (av := [_]) rfl z_w3 (hA1.h0.2.2.2 5 (by decide)).1 rfl rfl rfl rfl rfl (Nat.le_of_ble_eq_true rfl) (Nat.le_of_ble_eq_true rfl) (Nat.le_of_ble_eq_true rfl) (Nat.le_of_ble_eq_true rfl) (cs_at (hA1.h0.2.2.2 5 (by decide)) ?_)
    rw [show (0 : Int32) = nI 0 from rfl, z_atV_nI (by omega), if_pos h0, t0]
    refine z_callV (av := [_]) rfl z_w151 hA1.c0 rfl rfl rfl rfl rfl (Nat.le_of_ble_eq_true rfl) (Nat.le_of_ble_eq_true rfl) (Nat.le_of_ble_eq_true rfl) (Nat.le_of_ble_eq_true rfl) (cP_startLine u0 hA1 (fun h2 rl2 hA2 hX2 => ?_))
    refine z_iconst (v := nI (0 + 1)) rfl (by decide) ?_
    refine z_istore_n rfl (by decide +kernel) rfl ?_
    refine (loop (x.1.2.1.1 5 - 1) 0 _ _ _ (Nat.zero_add _) h0 rfl (one _ u1) hA2 (hX1.trans hX2)).mono (by decide) (by omega) (by omega)
theorem cP_run (W : z_HV → Prop) (hW : ∀ v, W v → z_szs v) (hD : ∀ v o, W v → o.1 < 10 → z_ref v o = none → W (z_do v o).1) (hx : W x.1) (hP : z_P h p B x) (q : ∀ h', z_P h' p B (z_fRun x).2.2 → z_Px p B h h' → Q (z_oc [z_IAE, z_UOE] (z_fRun x)) h') : z_W G 10 4 640 144 0 (z_L0 144 [.ref p]) [] h Q := by
  have hP0 := hP
  obtain ⟨ri, rl, sp, pos, ot, o, fd, hA⟩ := hP0
  obtain ⟨n1, n2, n3, n4, n5, n6⟩ := hA.nu
  have m1 := n1.imp_right (n4 _)
  have m2 := n2.imp_right (n4 _)
  have m7 := n4 _ (n5 _ (Nat.le_refl _))
  have hil := hA.wi.1
  unfold z_fRun at q
  have clr : ∀ {hh : z_H} {ri rl pos n : Nat} {hs sp sv : z_HV} {b : Bool} {H : Nat → z_HV} {inp ln : List Nat} {ot o : z_OV} {f kp cs : Int32 × Int32} {flt : Int32} {Q : z_O → z_H → Prop} (hA : z_Pa hh p B ri rl hs sp sv b n H inp ln pos ot o f kp cs flt), (∀ h' ri', z_Pa h' p B ri' rl hs sp sv b n H [] ln 0 ot o f kp cs flt → z_Px p B hh h' → Q (.inl none) h') → z_W G 6 1 202 92 0 (z_L0 92 [.ref (p + 278)]) [] hh Q := by
    intro hh ri rl pos n hs sp sv b H inp ln ot o f kp cs flt Q hA q
    obtain ⟨n1, n2, n3, n4, n5, n6⟩ := hA.nu
    have m1 := n1.imp_right (n4 _)
    have m2 := n2.imp_right (n4 _)
    have m7 := n4 _ (n5 _ (Nat.le_refl _))
    have := hA.wi.1
    refine cT_clear (by omega) (by omega) hA.tc hA.ti (by omega) (fun h2 r2 hr2 hS2 hT2 hF2 => ?_)
    obtain ⟨hA2, hX2⟩ := z_Pa.l_ti hA hS2 hT2 hr2 hF2.1 hF2.2 ⟨by simp, fun y hy => by cases hy⟩ (by simp)
    exact q _ _ hA2 hX2
  have loop : z_flt x.2.2.2.2.2.1 61 0 = none → ∀ (m i : Nat) (hh : z_H) (pos : Nat) (o : z_OV) (fd : Int32 × Int32) (v : z_HV) (ot : z_OV), i + m = 61 → W v → z_Pa hh p B ri rl v x.1 x.2.1 x.2.2.1 x.2.2.2.1 x.2.2.2.2.1 x.2.2.2.2.2.1 x.2.2.2.2.2.2.1 pos ot o fd x.2.2.2.2.2.2.2.1 x.2.2.2.2.2.2.2.2.1 (-1) → z_Px p B h hh → z_rnL x.2.2.2.2.2.1 61 0 0 x.1 = z_rnL x.2.2.2.2.2.1 m pos i v → z_W G 10 4 640 144 50 [.ref p, .int (nI i)] [] hh Q := by
    intro hf m
    rw [hf] at q
    have fin : ∀ (i : Nat) (hh : z_H) (pos : Nat) (o : z_OV) (fd : Int32 × Int32) (v : z_HV) (ot : z_OV), z_Pa hh p B ri rl v x.1 x.2.1 x.2.2.1 x.2.2.2.1 x.2.2.2.2.1 x.2.2.2.2.2.1 x.2.2.2.2.2.2.1 pos ot o fd x.2.2.2.2.2.2.2.1 x.2.2.2.2.2.2.2.2.1 (-1) → z_Px p B h hh → z_rnL x.2.2.2.2.2.1 61 0 0 x.1 = (none, i, v) → z_W G 10 4 640 144 156 [.ref p, .int (nI i)] [] hh Q := by
      intro i hh pos o fd v ot hA hX he
      refine z_aload_n rfl rfl ?_
      refine z_get rfl hA.c0 rfl ?_
      refine z_aload_n rfl rfl ?_
      refine z_get rfl hA.c0 rfl ?_
      refine z_callV (av := [_]) rfl z_w85 (z_HyC hA.hy).choose_spec rfl rfl rfl rfl rfl (Nat.le_of_ble_eq_true rfl) (Nat.le_of_ble_eq_true rfl) (Nat.le_of_ble_eq_true rfl) (Nat.le_of_ble_eq_true rfl) (cY_keep hA.hy hA.h1 (by omega) (fun h1 hC1 hF1 => ?_))
      obtain ⟨hH1, hG1⟩ := z_Pa.l_hy hA hC1 hF1
      refine z_aload_n rfl rfl ?_
      refine z_get rfl hH1.c0 rfl ?_
      refine z_callV (av := []) rfl z_w92 hH1.tc rfl rfl rfl rfl rfl (Nat.le_of_ble_eq_true rfl) (Nat.le_of_ble_eq_true rfl) (Nat.le_of_ble_eq_true rfl) (Nat.le_of_ble_eq_true rfl) (clr hH1 (fun h2 ri2 hA2 hX2 => ?_))
      refine z_iload_n rfl rfl ?_
      refine z_iret rfl rfl ?_
      rw [he] at q; exact q _ ⟨_, _, _, _, _, _, _, hA2⟩ ((hX.trans hG1).trans hX2)
    induction m with
    | zero =>
      intro i hh pos o fd v ot hi hv hA hX he
      refine z_iload_n rfl rfl ?_
      refine z_bipush (v := 60) rfl (by decide) ?_
      refine z_icmp_gt rfl (fun c53 => ?_) (fun c53 => absurd (show (60 : Int32) < nI i from nI_lt (a := 60) (by omega) (by omega)) c53)
      exact fin _ _ _ _ _ _ _ hA hX he
    | succ m ih =>
      intro i hh pos o fd v ot hi hv hA hX he
      obtain ⟨n1, n2, n3, n4, n5, n6⟩ := hA.nu
      have m1 := n1.imp_right (n4 _)
      have m2 := n2.imp_right (n4 _)
      have m7 := n4 _ (n5 _ (Nat.le_refl _))
      obtain ⟨o1, o2, o3⟩ := z_nxtO x.2.2.2.2.2.1 pos o
      rw [z_rnL_s _ m, ← o1, ← o2] at he
      refine z_iload_n rfl rfl ?_
      refine z_bipush (v := 60) rfl (by decide) ?_
      refine z_icmp_gt rfl (fun c53 => absurd c53 (show ¬ (60 : Int32) < nI i from nI_nlt (a := 60) (by omega) (by decide))) (fun c53 => ?_)
      refine z_aload_n rfl rfl ?_
      refine z_get rfl hA.c0 rfl ?_
      refine z_aload_n rfl rfl ?_
      refine z_get rfl hA.c0 rfl ?_
      refine z_callV (av := [_]) rfl z_w94 hA.tc rfl rfl rfl rfl rfl (Nat.le_of_ble_eq_true rfl) (Nat.le_of_ble_eq_true rfl) (Nat.le_of_ble_eq_true rfl) (Nat.le_of_ble_eq_true rfl) (cT_readNext hA.wi hA.wp (by omega) hA.tc hA.od hA.ti (fun h1 hC1 hO1 hF1 => ?_))
      obtain ⟨hA1, hX1⟩ := z_Pa.l_rd hA hC1 hO1 hF1 (z_nxtP hA.wp)
      refine z_if_eq rfl (fun c67 => ?_) (fun c67 => ?_)
      · rw [if_neg (z_i0 c67)] at he
        exact fin _ _ _ _ _ _ _ hA1 (hX.trans hX1) he
      · refine z_aload_n rfl rfl ?_
        refine z_get rfl hA1.c0 rfl ?_
        refine z_aload_n rfl rfl ?_
        refine z_get rfl hA1.c0 rfl ?_
        refine z_aload_n rfl rfl ?_
        refine z_get rfl hA1.c0 rfl ?_
        rw [if_pos (z_i2 c67)] at he; have oe := o3 (z_i2 c67); rw [← oe] at he; have ok := z_nxtK (z_i2 c67)
        refine z_callV (av := [_, _]) rfl z_w66 hA1.h0.1 rfl rfl rfl rfl rfl (Nat.le_of_ble_eq_true rfl) (Nat.le_of_ble_eq_true rfl) (Nat.le_of_ble_eq_true rfl) (Nat.le_of_ble_eq_true rfl) (cH_refuses hA1.h0 hA1.od hA1.fd ok (by omega) (by omega) (fun p82 => fun e82 h1 hC1 hF1 => ?_) (fun e82 => ?_))
        · obtain ⟨hH1, hG1⟩ := z_Pa.l_fd hA1 hC1 hF1
          refine z_if_eq rfl (fun c85 => absurd c85 (by decide)) (fun c85 => ?_)
          refine z_aload_n rfl rfl ?_
          refine z_get rfl hH1.c0 rfl ?_
          refine z_aload_n rfl rfl ?_
          refine z_get rfl hH1.c0 rfl ?_
          refine z_callV (av := [_]) rfl z_w65 hH1.h0.1 rfl rfl rfl rfl rfl (Nat.le_of_ble_eq_true rfl) (Nat.le_of_ble_eq_true rfl) (Nat.le_of_ble_eq_true rfl) (Nat.le_of_ble_eq_true rfl) (cH_copyFrom hH1.h0 hH1.h1 (by omega) (fun h2 hC2 hF2 => ?_))
          obtain ⟨hH2, hG2⟩ := z_Pa.l_h0 hH1 hC2 hF2
          refine z_aload_n rfl rfl ?_
          refine z_get rfl hH2.c0 rfl ?_
          refine z_bipush (v := nI 11) rfl (by decide) ?_
          refine z_iload_n rfl rfl ?_
          refine z_callV (av := [_, _]) rfl z_w16 hH2.kc rfl rfl rfl rfl rfl (Nat.le_of_ble_eq_true rfl) (Nat.le_of_ble_eq_true rfl) (Nat.le_of_ble_eq_true rfl) (Nat.le_of_ble_eq_true rfl) (cR_fill hH2.kc (fun h3 hC3 hF3 => ?_))
          obtain ⟨hH3, hG3⟩ := z_Pa.l_kc hH2 hC3 hF3
          refine z_aload_n rfl rfl ?_
          refine z_get rfl hH3.c0 rfl ?_
          refine z_aload_n rfl rfl ?_
          refine z_get rfl hH3.c0 rfl ?_
          refine z_callV (av := [_]) rfl z_w18 hH3.cc rfl rfl rfl rfl rfl (Nat.le_of_ble_eq_true rfl) (Nat.le_of_ble_eq_true rfl) (Nat.le_of_ble_eq_true rfl) (Nat.le_of_ble_eq_true rfl) (cR_copyFrom hH3.cc hH3.fd (fun h4 hC4 hF4 => ?_))
          obtain ⟨hH4, hG4⟩ := z_Pa.l_cc hH3 hC4 hF4
          refine z_aload_n rfl rfl ?_
          refine z_get rfl hH4.c0 rfl ?_
          refine z_callV (av := []) rfl z_w92 hH4.tc rfl rfl rfl rfl rfl (Nat.le_of_ble_eq_true rfl) (Nat.le_of_ble_eq_true rfl) (Nat.le_of_ble_eq_true rfl) (Nat.le_of_ble_eq_true rfl) (clr hH4 (fun h9 ri9 hA9 hX9 => ?_))
          exact z_throwW rfl rfl rfl rfl rfl rfl rfl (Nat.le_of_ble_eq_true rfl) (Nat.le_of_ble_eq_true rfl) (Nat.le_of_ble_eq_true rfl) rfl rfl (by decide) (fun n hn => by rw [e82] at he; rw [he] at q; exact q _ ⟨_, _, _, _, _, _, _, hA9.more hn⟩ (z_Px.more (((hX.trans hX1).trans (((hG1.trans hG2).trans hG3).trans hG4)).trans hX9) hn))
        · refine z_if_eq rfl (fun c85 => ?_) (fun c85 => absurd c85 (by decide))
          refine z_aload_n rfl rfl ?_
          refine z_get rfl hA1.c0 rfl ?_
          refine z_aload_n rfl rfl ?_
          refine z_get rfl hA1.c0 rfl ?_
          refine z_callV (av := [_]) rfl z_w73 hA1.h0.1 rfl rfl rfl rfl rfl (Nat.le_of_ble_eq_true rfl) (Nat.le_of_ble_eq_true rfl) (Nat.le_of_ble_eq_true rfl) (Nat.le_of_ble_eq_true rfl) (cH_carryOut hA1.h0 hA1.od ok (by omega) (hW _ hv) e82 (fun h2 hC2 hF2 => ?_))
          obtain ⟨hH2, hG2⟩ := z_Pa.l_h0 hA1 hC2 hF2
          refine z_pop rfl rfl ?_
          refine z_iinc1 rfl rfl (by decide +kernel) rfl ?_
          rw [e82] at he
          exact z_goto rfl (ih (i + 1) _ _ _ _ _ _ (by omega) (hD _ _ hv ok e82) hH2 ((hX.trans hX1).trans hG2) he)
  cases hf : z_flt x.2.2.2.2.2.1 61 0 with
  | some f =>
    have hfl : f < 1000 := z_fltB hil hf (by omega)
    rw [hf] at q
    refine z_aload_n rfl rfl ?_
    refine z_aload_n rfl rfl ?_
    refine z_get rfl hA.c0 rfl ?_
    refine z_callV (av := []) rfl z_w93 hA.tc rfl rfl rfl rfl rfl (Nat.le_of_ble_eq_true rfl) (Nat.le_of_ble_eq_true rfl) (Nat.le_of_ble_eq_true rfl) (Nat.le_of_ble_eq_true rfl) (cT_fault (r := ri) (a := p + 278) hA.wi (by omega) hA.tc hA.to hA.ti (fun h1 p1 o1 hC1 hO1 hF1 hp0 hp1 => ?_))
    obtain ⟨hA1, hX1⟩ := z_Pa.l_to hA hC1 hO1 hF1 hp1
    rw [hf, show z_oN1 (some f) = nI f from rfl]
    refine z_putC rfl hA1.c0 (by simp) rfl rfl rfl (fun h2 hC2 hF2 => ?_)
    obtain ⟨hA2, hX2⟩ := z_Pa.l_c0 (b2 := x.2.2.1) (flt2 := nI f) hA1 hC2 hF2
    refine z_aload_n rfl rfl ?_
    refine z_get rfl hA2.c0 rfl ?_
    refine z_iconst (v := (-1)) rfl (by decide) ?_
    refine z_icmp_eq rfl (fun c16 => absurd c16 (fun e9 => nI_pos (n := f) (by omega) (by rw [e9]; decide))) (fun c16 => ?_)
    refine z_aload_n rfl rfl ?_
    refine z_get rfl hA2.c0 rfl ?_
    refine z_callV (av := []) rfl z_w92 hA2.tc rfl rfl rfl rfl rfl (Nat.le_of_ble_eq_true rfl) (Nat.le_of_ble_eq_true rfl) (Nat.le_of_ble_eq_true rfl) (Nat.le_of_ble_eq_true rfl) (clr hA2 (fun h9 ri9 hA9 hX9 => ?_))
    exact z_throwW rfl rfl rfl rfl rfl rfl rfl (Nat.le_of_ble_eq_true rfl) (Nat.le_of_ble_eq_true rfl) (Nat.le_of_ble_eq_true rfl) rfl rfl (by decide) (fun n hn => q _ ⟨_, _, _, _, _, _, _, hA9.more hn⟩ (z_Px.more ((hX1.trans hX2).trans hX9) hn))
  | none =>
    refine z_aload_n rfl rfl ?_
    refine z_aload_n rfl rfl ?_
    refine z_get rfl hA.c0 rfl ?_
    refine z_callV (av := []) rfl z_w93 hA.tc rfl rfl rfl rfl rfl (Nat.le_of_ble_eq_true rfl) (Nat.le_of_ble_eq_true rfl) (Nat.le_of_ble_eq_true rfl) (Nat.le_of_ble_eq_true rfl) (cT_fault (r := ri) (a := p + 278) hA.wi (by omega) hA.tc hA.to hA.ti (fun h1 p1 o1 hC1 hO1 hF1 hp0 hp1 => ?_))
    obtain ⟨hA1, hX1⟩ := z_Pa.l_to hA hC1 hO1 hF1 hp1
    rw [hf, show z_oN1 none = -1 from rfl]
    rw [hp0 hf] at hA1
    refine z_putC rfl hA1.c0 (by simp) rfl rfl rfl (fun h2 hC2 hF2 => ?_)
    obtain ⟨hA2, hX2⟩ := z_Pa.l_c0 (b2 := x.2.2.1) (flt2 := -1) hA1 hC2 hF2
    refine z_aload_n rfl rfl ?_
    refine z_get rfl hA2.c0 rfl ?_
    refine z_iconst (v := (-1)) rfl (by decide) ?_
    refine z_icmp_eq rfl (fun c16 => ?_) (fun c16 => absurd rfl c16)
    refine z_aload_n rfl rfl ?_
    refine z_get rfl hA2.c0 rfl ?_
    refine z_aload_n rfl rfl ?_
    refine z_get rfl hA2.c0 rfl ?_
    refine z_callV (av := [_]) rfl z_w65 hA2.h1.1 rfl rfl rfl rfl rfl (Nat.le_of_ble_eq_true rfl) (Nat.le_of_ble_eq_true rfl) (Nat.le_of_ble_eq_true rfl) (Nat.le_of_ble_eq_true rfl) (cH_copyFrom hA2.h1 hA2.h0 (by omega) (fun h1 hC1 hF1 => ?_))
    obtain ⟨hH1, hG1⟩ := z_Pa.l_h1 hA2 hC1 hF1
    refine z_iconst (v := nI 0) rfl (by decide) ?_
    refine z_istore_n rfl (by decide +kernel) rfl ?_
    exact loop hf 61 0 _ _ _ _ _ _ rfl hx hH1 ((hX1.trans hX2).trans hG1) rfl
end ZT2
