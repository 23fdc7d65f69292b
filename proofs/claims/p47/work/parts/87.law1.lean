/-! The law's helpers. -/
theorem z_lkU : Cond.classLink "ClockParliamentLaw" 75 "java/lang/UnsupportedOperationException" ∈ z_gw := z_gwOf (z_isOf (j := 7033) (by decide +kernel)) rfl
theorem z_lkA : Cond.classLink "ClockParliamentLaw" 284 "java/lang/IllegalArgumentException" ∈ z_gw := z_gwOf (z_isOf (j := 7062) (by decide +kernel)) rfl
theorem z_caU : Cond.castable z_UOE "java/lang/UnsupportedOperationException" ∈ lw_tbl := z_isOf (j := 2239) (by decide +kernel)
theorem z_caA : Cond.castable z_IAE "java/lang/IllegalArgumentException" ∈ lw_tbl := z_isOf (j := 4053) (by decide +kernel)
theorem z_ncUA : (z_UOE, "java/lang/IllegalArgumentException") ∈ z_ncl := by decide +kernel
theorem z_pre0 {mi : Nat} {E : String} : ∀ z ∈ ([] : List (Nat × Nat × Nat × Nat)), z.2.2.2 ≠ 0 ∧ ∃ nm2 : String, Cond.classLink (z_y mi).cls z.2.2.2 nm2 ∈ z_gw ∧ (E, nm2) ∈ z_ncl := fun z hz => absurd hz List.not_mem_nil
theorem z_pre1 {mi ct a b hp : Nat} {E nm2 : String} (h0 : ct ≠ 0) (hl : Cond.classLink (z_y mi).cls ct nm2 ∈ z_gw) (hn : (E, nm2) ∈ z_ncl) : ∀ z ∈ [(a, b, hp, ct)], z.2.2.2 ≠ 0 ∧ ∃ nm2 : String, Cond.classLink (z_y mi).cls z.2.2.2 nm2 ∈ z_gw ∧ (E, nm2) ∈ z_ncl := fun z hz => by
  rw [List.mem_singleton] at hz
  subst hz
  exact ⟨h0, nm2, hl, hn⟩
theorem z_P.cell {h : z_H} {p : Nat} {B : Nat → Prop} {x : z_PV} (hP : z_P h p B x) : ∃ fs, h.2 p = some (.inr (8, fs)) := by
  obtain ⟨ri, rl, sp, pos, ot, od, fd, y1, y2⟩ := hP
  exact ⟨_, y1⟩
theorem z_oc0 {Es : List String} {r : z_An} (h : r.1 = 0) : z_oc Es r = .inl (some (.int r.2.1)) := if_pos h
theorem z_oc1 {E : String} {Es : List String} {r : z_An} (h : r.1 = 1) : z_oc (E :: Es) r = .inr E := by unfold z_oc; rw [if_neg (by omega), h]; rfl
theorem z_oc2 {E E2 : String} {Es : List String} {r : z_An} (h : r.1 = 2) : z_oc (E :: E2 :: Es) r = .inr E2 := by unfold z_oc; rw [if_neg (by omega), h]; rfl
theorem z_end_chg {x : z_PV} {o : z_OV} : (z_fChg x o).1 = 0 ∨ (z_fChg x o).1 = 1 := by
  unfold z_fChg
  cases z_ref x.1 o with
  | none => exact Or.inl rfl
  | some pr => exact Or.inr rfl
theorem z_end_run {x : z_PV} : (z_fRun x).1 = 0 ∨ (z_fRun x).1 = 1 ∨ (z_fRun x).1 = 2 := by
  unfold z_fRun
  split
  · exact Or.inr (Or.inl rfl)
  · split
    · exact Or.inr (Or.inr rfl)
    · exact Or.inl rfl
section ZL1
variable {G : z_G} {d mc ms mi pc nx : Nat} {L st : List Value} {h : z_H} {Q : z_O → z_H → Prop} {p : Nat} {B : Nat → Prop} {x : z_PV}
/-- a call that answers -/
theorem z_kI {Es : List String} {r : z_An} {v : Int32} (h0 : r.1 = 0) (hv : r.2.1 = v) (k : z_W G d mc ms mi nx L (.int v :: st) h Q) : z_K2 G d mc ms mi pc nx L st Q (z_oc Es r) h := by
  rw [z_oc0 h0, hv]
  exact k
theorem z_W.loc {L' : List Value} (k : z_W G d mc ms mi pc L' st h Q) (hl : ∀ (i : Nat) (v : Value), L'[i]? = some v → v ≠ .retAddr 0 → L[i]? = some v) : z_W G d mc ms mi pc L st h Q :=
  fun p e R s m args below meth c H locs cells slots MC MS ls C r hS hL hR => k p e R s m args below meth c H locs cells slots MC MS ls C r hS ⟨hL.1, hL.2.1, fun i v h1 h2 => hL.2.2 i v (hl i v h1 h2) h2⟩ hR
/-- what has a content lies below the heap's end -/
theorem z_W.bnd (k : (∀ (k : Nat) (c : va_E), h.2 k = some c → 1000 ≤ k ∧ k < 1000 + h.1) → z_W G d mc ms mi pc L st h Q) : z_W G d mc ms mi pc L st h Q :=
  fun p e R s m args below meth c H locs cells slots MC MS ls C r hS hL hR => k (fun j c hc => ⟨(hR.2 j c hc).1, (hR.2 j c hc).2.1⟩) p e R s m args below meth c H locs cells slots MC MS ls C r hS hL hR
/-- a place of the script -/
def z_sat (G : z_G) (k : Nat) : Int32 := if k < G.2.2.2.2.2.1 then G.2.2.2.2.2.2 k else 0
theorem c_lAt {k : Nat} (hN : G.2.2.2.2.2.1 ≤ 260) (hk : k < 100) (q : Q (.inl (some (.int (z_sat G k)))) h) : z_W G 0 0 0 172 0 (z_L0 172 [.ref 0, .int (nI k)]) [] h Q := by
  unfold z_sat at q
  refine z_iload_n rfl rfl ?_
  refine z_aload_n rfl rfl ?_
  refine z_slen rfl ?_
  refine z_icmp_ge rfl (fun u => ?_) (fun u => ?_)
  · have hk2 : ¬ k < G.2.2.2.2.2.1 := by have := (nI_leI (by omega) (by omega)).mp u; omega
    rw [if_neg hk2] at q
    refine z_iconst (v := 0) rfl (by decide) ?_
    exact z_iret rfl rfl q
  · have hk2 : k < G.2.2.2.2.2.1 := Nat.lt_of_not_le fun e => u ((nI_leI (by omega) (by omega)).mpr e)
    rw [if_pos hk2] at q
    refine z_aload_n rfl rfl ?_
    refine z_iload_n rfl rfl ?_
    refine z_sld rfl (nI_in hk2 (by omega)) ?_
    rw [nI_clamp (by omega)]
    refine z_goto rfl ?_
    exact z_iret rfl rfl q
/-- a text is written into the input -/
def z_ins (x : z_PV) (l : List Nat) : z_PV := z_setI x (x.2.2.2.2.2.1 ++ l)
theorem c_lPut {s a : Nat} {l : List Nat} (hT : ∀ h', z_Px p B h h' → z_tx h' s a l) (hl : ∀ c ∈ l, 32 ≤ c ∧ c ≤ 126) (hlen : x.2.2.2.2.2.1.length + l.length ≤ 60) (hP : z_P h p B x) (q : ∀ h', z_P h' p B (z_ins x l) → z_Px p B h h' → Q (.inl none) h') : z_W G 9 240 18000 173 0 (z_L0 173 [.ref p, .ref s]) [] h Q := by
  have loop : ∀ (m i : Nat) (hh : z_H), i + m = l.length → z_P hh p B (z_ins x (l.take i)) → z_Px p B h hh → z_W G 9 (4 * m) (300 * m) 173 2 [.ref p, .ref s, .int (nI i)] [] hh Q := by
    intro m
    induction m with
    | zero =>
      intro i hh hi hP1 hX
      refine z_iload_n rfl rfl ?_
      refine z_aload_n rfl rfl ?_
      refine z_callT (av := []) rfl z_w331 rfl (hT _ hX) rfl rfl rfl rfl (Nat.le_of_ble_eq_true rfl) (Nat.zero_le _) (Nat.zero_le _) (Nat.le_of_ble_eq_true rfl) (c_xLength (hT _ hX) ?_)
      refine z_icmp_ge rfl (fun u => ?_) (fun u => absurd ((nI_leI (by omega) (by omega)).mpr (by omega : l.length ≤ i)) u)
      refine z_vret rfl rfl ?_
      rw [List.take_of_length_le (by omega)] at hP1
      exact q _ hP1 hX
    | succ m ih =>
      intro i hh hi hP1 hX
      have hil : i < l.length := by omega
      have hc : 32 ≤ l.getD i 0 ∧ l.getD i 0 ≤ 126 := hl _ (by rw [List.getD_eq_getElem?_getD, List.getElem?_eq_getElem hil]; exact List.getElem_mem hil)
      refine z_iload_n rfl rfl ?_
      refine z_aload_n rfl rfl ?_
      refine z_callT (av := []) rfl z_w331 rfl (hT _ hX) rfl rfl rfl rfl (Nat.le_of_ble_eq_true rfl) (Nat.zero_le _) (Nat.zero_le _) (Nat.le_of_ble_eq_true rfl) (c_xLength (hT _ hX) ?_)
      refine z_icmp_ge rfl (fun u => absurd ((nI_leI (by omega) (by omega)).mp u) (by omega)) (fun u => ?_)
      refine z_aload_n rfl rfl ?_
      refine z_aload_n rfl rfl ?_
      refine z_iload_n rfl rfl ?_
      refine z_callT (av := [_]) rfl z_w329 rfl (hT _ hX) rfl rfl rfl rfl (Nat.le_of_ble_eq_true rfl) (Nat.zero_le _) (Nat.zero_le _) (Nat.le_of_ble_eq_true rfl) (c_xCharAt (hT _ hX) hil ?_)
      refine z_callV (av := [_]) rfl z_w143 hP1.cell.choose_spec rfl rfl rfl rfl rfl (Nat.le_of_ble_eq_true rfl) (by omega) (by omega) (Nat.le_of_ble_eq_true rfl) (cP_append hP1 fun h2 hP2 hX2 => ?_)
      have e0 : z_fAppend (z_ins x (l.take i)) (nI (l.getD i 0)) = (0, nI ((z_ins x (l.take i)).2.2.2.2.2.1.length + 1), z_ins x (l.take (i + 1))) := by
        have ln : (z_ins x (l.take i)).2.2.2.2.2.1 = x.2.2.2.2.2.1 ++ l.take i := rfl
        have lt : (l.take i).length = i := by rw [List.length_take]; omega
        unfold z_fAppend
        rw [if_neg (fun e => e.elim (fun e => absurd ((nI_ltI (b := 32) (by omega) (by decide)).mp e) (by omega)) (fun e => absurd ((nI_ltI (a := 126) (by decide) (by omega)).mp e) (by omega))), if_neg (by rw [ln, List.length_append, lt]; omega), z_ix_nI (by omega)]
        have e9 : l.take (i + 1) = l.take i ++ [l.getD i 0] := by
          rw [List.take_succ, List.getD_eq_getElem?_getD, List.getElem?_eq_getElem hil]
          rfl
        show (0, _, z_setI (z_ins x (l.take i)) (x.2.2.2.2.2.1 ++ l.take i ++ [l.getD i 0])) = (0, _, z_setI x (x.2.2.2.2.2.1 ++ l.take (i + 1)))
        rw [e9, ← List.append_assoc]
        rfl
      rw [e0] at hP2 ⊢
      refine z_kI rfl rfl ?_
      refine z_pop rfl rfl ?_
      refine z_iinc1 rfl rfl (by decide +kernel) rfl ?_
      refine z_goto rfl ?_
      exact (ih (i + 1) h2 (by omega) hP2 (hX.trans hX2)).mono (Nat.le_refl _) (by omega) (by omega)
  refine z_iconst (v := nI 0) rfl (by decide) ?_
  refine z_istore_n rfl (by decide +kernel) rfl ?_
  refine (loop l.length 0 h (by omega) (by rw [List.take_zero]; unfold z_ins; rw [List.append_nil]; exact hP) (z_Px.refl _ _ _)).mono (Nat.le_refl _) (by omega) (by omega)
/-! act -/
theorem z_catchC {E nm : String} {pre suf : List (Nat × Nat × Nat × Nat)} {a b hp ct : Nat} {q : Nat} {i9 : Instr} {info : List Nat} (hsplit : z_hh mi = pre ++ (a, b, hp, ct) :: suf) (hpre : ∀ z ∈ pre, ¬ (z.1 ≤ pc ∧ pc < z.2.1)) (hcov : a ≤ pc ∧ pc < b) (h0 : ct ≠ 0) (hlink : Cond.classLink (z_y mi).cls ct nm ∈ z_gw) (hcast : Cond.castable E nm ∈ lw_tbl) (hr : z_at mi hp = some (i9, nx, info)) (hi9 : i9 = .astore q ∨ ∃ k : Fin 4, i9 = .astore_n k ∧ (k : Nat) = q) (hq : q < z_nL mi) (hpv0 : z_okp L q = true) (k : z_W G d mc ms mi nx (L.set q (.retAddr 0)) [] h Q) : z_X G d mc ms mi pc L E h Q := by
  intro p e R s m args below meth c H locs cells slots MC MS ls rest q9 ce C r hS hL hR hce hcv hcl
  have hpv := z_okpOf hpv0
  have hts := C.2.2.2.2.2.1
  have hK := C.2.2.2.2.2.2.2.2.2.1
  refine vx_catch C.2.2.2.2.1 (tableOf pre) ⟨a, b, hp, ct⟩ (tableOf suf) (by rw [C.2.2.2.2.2.2.2.2.1, hsplit]; simp [tableOf]) (fun z hz => ?_) ?_ h0 (hts _ hlink) (va_Nw.use rfl (hK.2.2.2.2.2.2.1 _ hcast rfl)) hce hcv hcl ?_
  · obtain ⟨z0, hz0, rfl⟩ := List.mem_map.mp hz
    refine Or.inl ?_
    have := hpre z0 hz0
    simp only [covers, Bool.and_eq_false_iff, decide_eq_false_iff_not]
    omega
  · simp [covers, hcov.1, hcov.2]
  · rcases hi9 with rfl | ⟨k9, rfl, rfl⟩
    · obtain ⟨hd, rfl⟩ := z_dn (n := 2) hr rfl (by decide)
      exact lv_astore C.1 C.2.1 hd (z_prHas hL) hq rfl (fun ls2 hl2 => k p e R s m args below meth c H locs cells slots MC MS ls2 C r hS (z_prDrop hpv hl2) hR)
    · obtain ⟨hd, rfl⟩ := z_dn (n := 1) hr rfl (by decide)
      exact lv_astore_n C.1 C.2.1 hd rfl (z_prHas hL) hq rfl (fun ls2 hl2 => k p e R s m args below meth c H locs cells slots MC MS ls2 C r hS (z_prDrop hpv hl2) hR)
def z_ac (x : z_PV) (k : Nat) (a b c : Int32) : z_PV := (z_fChg x (k, a, b, c, 0)).2.2
def z_acV (x : z_PV) (k : Nat) (a b c : Int32) : Int32 := if (z_fChg x (k, a, b, c, 0)).1 = 0 then (z_fChg x (k, a, b, c, 0)).2.1 else -99
theorem z_actE {o : z_OV} {hs hsB : Nat} {pre suf : List (Nat × Nat × Nat × Nat)} {v : Int32} {k a b c : Int32} {n1 : Nat} {i1 : List Nat} (hr : z_at 175 nx = some (.ireturn, n1, i1)) (hsplit : z_hh 175 = pre ++ (hs, hsB, 119, 75) :: suf) (hpre : ∀ z ∈ pre, ¬ (z.1 ≤ pc ∧ pc < z.2.1)) (hcov : hs ≤ pc ∧ pc < hsB) (hv : v = if (z_fChg x o).1 = 0 then (z_fChg x o).2.1 else -99) (q : Q (.inl (some (.int v))) h) : z_K2 G d mc ms 175 pc nx [.ref p, .int k, .int a, .int b, .int c, .retAddr 0] [] Q (z_oc [z_UOE] (z_fChg x o)) h := by
  rcases z_end_chg (x := x) (o := o) with e | e
  · rw [z_oc0 e]
    rw [if_pos e] at hv
    subst hv
    exact z_iret hr rfl q
  · rw [z_oc1 e]
    rw [if_neg (by omega)] at hv
    subst hv
    refine z_catchC (q := 5) hsplit hpre hcov (by decide) z_lkU z_caU (nx := 121) (info := []) rfl (Or.inl rfl) (by decide +kernel) rfl ?_
    refine z_bipush (v := -99) rfl (by decide) ?_
    exact z_iret rfl rfl q
theorem c_act {k : Nat} {a b c : Int32} (hk : k < 10) (ha : k = 8 → a = 0) (hb : k = 1 ∨ k = 7 ∨ k = 8 ∨ k = 9 → b = 0) (hc : k ≠ 5 → c = 0) (hz : z_szs x.1) (hP : z_P h p B x) (q : ∀ h', z_P h' p B (z_ac x k a b c) → z_Px p B h h' → Q (.inl (some (.int (z_acV x k a b c)))) h') : z_W G 11 1 6 175 0 (z_L0 175 [.ref p, .int (nI k), .int a, .int b, .int c]) [] h Q := by
  refine z_iload_n rfl rfl ?_
  rcases (by omega : k = 0 ∨ k = 1 ∨ k = 2 ∨ k = 3 ∨ k = 4 ∨ k = 5 ∨ k = 6 ∨ k = 7 ∨ k = 8 ∨ k = 9) with rfl | rfl | rfl | rfl | rfl | rfl | rfl | rfl | rfl | rfl
  · skip
    obtain rfl := hc (by decide)
    refine z_tswI (o := 51) (t := 52) rfl (by decide) (by decide) (by decide) rfl ?_
    refine z_aload_n rfl rfl ?_
    refine z_iload_n rfl rfl ?_
    refine z_iload_n rfl rfl ?_
    refine z_callV (av := [_, _]) rfl z_w104 hP.cell.choose_spec rfl rfl rfl rfl rfl (Nat.le_of_ble_eq_true rfl) (Nat.le_of_ble_eq_true rfl) (Nat.le_of_ble_eq_true rfl) (Nat.le_of_ble_eq_true rfl) (cP_clock hz hP fun h1 hP1 hX1 => ?_)
    exact z_actE (hs := 0) (hsB := 58) (pre := []) (suf := [(59, 64, 119, 75), (65, 71, 119, 75), (72, 78, 119, 75), (79, 85, 119, 75), (86, 94, 119, 75), (95, 101, 119, 75), (102, 107, 119, 75), (108, 112, 119, 75), (113, 118, 119, 75)]) (n1 := 59) (i1 := []) rfl rfl (by decide) (by decide) rfl (q _ hP1 hX1)
  · skip
    obtain rfl := hb (by decide)
    obtain rfl := hc (by decide)
    refine z_tswI (o := 58) (t := 59) rfl (by decide) (by decide) (by decide) rfl ?_
    refine z_aload_n rfl rfl ?_
    refine z_iload_n rfl rfl ?_
    refine z_callV (av := [_]) rfl z_w105 hP.cell.choose_spec rfl rfl rfl rfl rfl (Nat.le_of_ble_eq_true rfl) (Nat.le_of_ble_eq_true rfl) (Nat.le_of_ble_eq_true rfl) (Nat.le_of_ble_eq_true rfl) (cP_leave hz hP fun h1 hP1 hX1 => ?_)
    exact z_actE (hs := 59) (hsB := 64) (pre := [(0, 58, 119, 75)]) (suf := [(65, 71, 119, 75), (72, 78, 119, 75), (79, 85, 119, 75), (86, 94, 119, 75), (95, 101, 119, 75), (102, 107, 119, 75), (108, 112, 119, 75), (113, 118, 119, 75)]) (n1 := 65) (i1 := []) rfl rfl (by decide) (by decide) rfl (q _ hP1 hX1)
  · skip
    obtain rfl := hc (by decide)
    refine z_tswI (o := 64) (t := 65) rfl (by decide) (by decide) (by decide) rfl ?_
    refine z_aload_n rfl rfl ?_
    refine z_iload_n rfl rfl ?_
    refine z_iload_n rfl rfl ?_
    refine z_callV (av := [_, _]) rfl z_w106 hP.cell.choose_spec rfl rfl rfl rfl rfl (Nat.le_of_ble_eq_true rfl) (Nat.le_of_ble_eq_true rfl) (Nat.le_of_ble_eq_true rfl) (Nat.le_of_ble_eq_true rfl) (cP_key hz hP fun h1 hP1 hX1 => ?_)
    exact z_actE (hs := 65) (hsB := 71) (pre := [(0, 58, 119, 75), (59, 64, 119, 75)]) (suf := [(72, 78, 119, 75), (79, 85, 119, 75), (86, 94, 119, 75), (95, 101, 119, 75), (102, 107, 119, 75), (108, 112, 119, 75), (113, 118, 119, 75)]) (n1 := 72) (i1 := []) rfl rfl (by decide) (by decide) rfl (q _ hP1 hX1)
  · skip
    obtain rfl := hc (by decide)
    refine z_tswI (o := 71) (t := 72) rfl (by decide) (by decide) (by decide) rfl ?_
    refine z_aload_n rfl rfl ?_
    refine z_iload_n rfl rfl ?_
    refine z_iload_n rfl rfl ?_
    refine z_callV (av := [_, _]) rfl z_w107 hP.cell.choose_spec rfl rfl rfl rfl rfl (Nat.le_of_ble_eq_true rfl) (Nat.le_of_ble_eq_true rfl) (Nat.le_of_ble_eq_true rfl) (Nat.le_of_ble_eq_true rfl) (cP_wind hz hP fun h1 hP1 hX1 => ?_)
    exact z_actE (hs := 72) (hsB := 78) (pre := [(0, 58, 119, 75), (59, 64, 119, 75), (65, 71, 119, 75)]) (suf := [(79, 85, 119, 75), (86, 94, 119, 75), (95, 101, 119, 75), (102, 107, 119, 75), (108, 112, 119, 75), (113, 118, 119, 75)]) (n1 := 79) (i1 := []) rfl rfl (by decide) (by decide) rfl (q _ hP1 hX1)
  · skip
    obtain rfl := hc (by decide)
    refine z_tswI (o := 78) (t := 79) rfl (by decide) (by decide) (by decide) rfl ?_
    refine z_aload_n rfl rfl ?_
    refine z_iload_n rfl rfl ?_
    refine z_iload_n rfl rfl ?_
    refine z_callV (av := [_, _]) rfl z_w108 hP.cell.choose_spec rfl rfl rfl rfl rfl (Nat.le_of_ble_eq_true rfl) (Nat.le_of_ble_eq_true rfl) (Nat.le_of_ble_eq_true rfl) (Nat.le_of_ble_eq_true rfl) (cP_move hz hP fun h1 hP1 hX1 => ?_)
    exact z_actE (hs := 79) (hsB := 85) (pre := [(0, 58, 119, 75), (59, 64, 119, 75), (65, 71, 119, 75), (72, 78, 119, 75)]) (suf := [(86, 94, 119, 75), (95, 101, 119, 75), (102, 107, 119, 75), (108, 112, 119, 75), (113, 118, 119, 75)]) (n1 := 86) (i1 := []) rfl rfl (by decide) (by decide) rfl (q _ hP1 hX1)
  · skip
    refine z_tswI (o := 85) (t := 86) rfl (by decide) (by decide) (by decide) rfl ?_
    refine z_aload_n rfl rfl ?_
    refine z_iload_n rfl rfl ?_
    refine z_iload_n rfl rfl ?_
    refine z_iload rfl rfl ?_
    refine z_callV (av := [_, _, _]) rfl z_w109 hP.cell.choose_spec rfl rfl rfl rfl rfl (Nat.le_of_ble_eq_true rfl) (Nat.le_of_ble_eq_true rfl) (Nat.le_of_ble_eq_true rfl) (Nat.le_of_ble_eq_true rfl) (cP_bill hz hP fun h1 hP1 hX1 => ?_)
    exact z_actE (hs := 86) (hsB := 94) (pre := [(0, 58, 119, 75), (59, 64, 119, 75), (65, 71, 119, 75), (72, 78, 119, 75), (79, 85, 119, 75)]) (suf := [(95, 101, 119, 75), (102, 107, 119, 75), (108, 112, 119, 75), (113, 118, 119, 75)]) (n1 := 95) (i1 := []) rfl rfl (by decide) (by decide) rfl (q _ hP1 hX1)
  · skip
    obtain rfl := hc (by decide)
    refine z_tswI (o := 94) (t := 95) rfl (by decide) (by decide) (by decide) rfl ?_
    refine z_aload_n rfl rfl ?_
    refine z_iload_n rfl rfl ?_
    refine z_iload_n rfl rfl ?_
    refine z_callV (av := [_, _]) rfl z_w110 hP.cell.choose_spec rfl rfl rfl rfl rfl (Nat.le_of_ble_eq_true rfl) (Nat.le_of_ble_eq_true rfl) (Nat.le_of_ble_eq_true rfl) (Nat.le_of_ble_eq_true rfl) (cP_adjourn hz hP fun h1 hP1 hX1 => ?_)
    exact z_actE (hs := 95) (hsB := 101) (pre := [(0, 58, 119, 75), (59, 64, 119, 75), (65, 71, 119, 75), (72, 78, 119, 75), (79, 85, 119, 75), (86, 94, 119, 75)]) (suf := [(102, 107, 119, 75), (108, 112, 119, 75), (113, 118, 119, 75)]) (n1 := 102) (i1 := []) rfl rfl (by decide) (by decide) rfl (q _ hP1 hX1)
  · skip
    obtain rfl := hb (by decide)
    obtain rfl := hc (by decide)
    refine z_tswI (o := 101) (t := 102) rfl (by decide) (by decide) (by decide) rfl ?_
    refine z_aload_n rfl rfl ?_
    refine z_iload_n rfl rfl ?_
    refine z_callV (av := [_]) rfl z_w111 hP.cell.choose_spec rfl rfl rfl rfl rfl (Nat.le_of_ble_eq_true rfl) (Nat.le_of_ble_eq_true rfl) (Nat.le_of_ble_eq_true rfl) (Nat.le_of_ble_eq_true rfl) (cP_drop hz hP fun h1 hP1 hX1 => ?_)
    exact z_actE (hs := 102) (hsB := 107) (pre := [(0, 58, 119, 75), (59, 64, 119, 75), (65, 71, 119, 75), (72, 78, 119, 75), (79, 85, 119, 75), (86, 94, 119, 75), (95, 101, 119, 75)]) (suf := [(108, 112, 119, 75), (113, 118, 119, 75)]) (n1 := 108) (i1 := []) rfl rfl (by decide) (by decide) rfl (q _ hP1 hX1)
  · obtain rfl := ha rfl
    obtain rfl := hb (by decide)
    obtain rfl := hc (by decide)
    refine z_tswI (o := 107) (t := 108) rfl (by decide) (by decide) (by decide) rfl ?_
    refine z_aload_n rfl rfl ?_
    refine z_callV (av := []) rfl z_w112 hP.cell.choose_spec rfl rfl rfl rfl rfl (Nat.le_of_ble_eq_true rfl) (Nat.le_of_ble_eq_true rfl) (Nat.le_of_ble_eq_true rfl) (Nat.le_of_ble_eq_true rfl) (cP_vote hz hP fun h1 hP1 hX1 => ?_)
    exact z_actE (hs := 108) (hsB := 112) (pre := [(0, 58, 119, 75), (59, 64, 119, 75), (65, 71, 119, 75), (72, 78, 119, 75), (79, 85, 119, 75), (86, 94, 119, 75), (95, 101, 119, 75), (102, 107, 119, 75)]) (suf := [(113, 118, 119, 75)]) (n1 := 113) (i1 := []) rfl rfl (by decide) (by decide) rfl (q _ hP1 hX1)
  · skip
    obtain rfl := hb (by decide)
    obtain rfl := hc (by decide)
    refine z_tswO (t := 113) rfl (Or.inr (by decide)) rfl ?_
    refine z_aload_n rfl rfl ?_
    refine z_iload_n rfl rfl ?_
    refine z_callV (av := [_]) rfl z_w113 hP.cell.choose_spec rfl rfl rfl rfl rfl (Nat.le_of_ble_eq_true rfl) (Nat.le_of_ble_eq_true rfl) (Nat.le_of_ble_eq_true rfl) (Nat.le_of_ble_eq_true rfl) (cP_hour hz hP fun h1 hP1 hX1 => ?_)
    exact z_actE (hs := 113) (hsB := 118) (pre := [(0, 58, 119, 75), (59, 64, 119, 75), (65, 71, 119, 75), (72, 78, 119, 75), (79, 85, 119, 75), (86, 94, 119, 75), (95, 101, 119, 75), (102, 107, 119, 75), (108, 112, 119, 75)]) (suf := []) (n1 := 119) (i1 := []) rfl rfl (by decide) (by decide) rfl (q _ hP1 hX1)
/-! runs, faults, isLine -/
def z_rnV (x : z_PV) : Int32 := if (z_fRun x).1 = 0 then (z_fRun x).2.1 else if (z_fRun x).1 = 1 then -1 else -2
theorem c_runs (hw : z_wf x.1) (hP : z_P h p B x) (q : ∀ h', z_P h' p B (z_fRun x).2.2 → z_Px p B h h' → Q (.inl (some (.int (z_rnV x)))) h') : z_W G 11 4 640 178 0 (z_L0 178 [.ref p]) [] h Q := by
  unfold z_rnV at q
  refine z_aload_n rfl rfl ?_
  refine z_callV (av := []) rfl z_w144 hP.cell.choose_spec rfl rfl rfl rfl rfl (Nat.le_of_ble_eq_true rfl) (Nat.le_of_ble_eq_true rfl) (Nat.le_of_ble_eq_true rfl) (Nat.le_of_ble_eq_true rfl) (cP_run z_wf (fun v hv => hv.1) (fun v o hv hk hr => hv.do hk hr) hw hP fun h1 hP1 hX1 => ?_)
  rcases z_end_run (x := x) with e | e | e
  · rw [z_oc0 e]
    have w := q _ hP1 hX1
    rw [if_pos e] at w
    exact z_iret rfl rfl w
  · rw [z_oc1 e]
    have w := q _ hP1 hX1
    rw [if_neg (by omega), if_pos e] at w
    refine z_catchC (q := 1) (pre := []) (suf := [(0, 4, 8, 75)]) (a := 0) (b := 4) (hp := 5) (ct := 284) rfl (fun z hz => absurd hz List.not_mem_nil) (by decide) (by decide) z_lkA z_caA (nx := 6) (info := []) rfl (Or.inr ⟨1, rfl, rfl⟩) (by decide +kernel) rfl ?_
    refine z_iconst (v := -1) rfl (by decide) ?_
    exact z_iret rfl rfl w
  · rw [z_oc2 e]
    have w := q _ hP1 hX1
    rw [if_neg (by omega), if_neg (by omega)] at w
    refine z_catch (q := 1) (pre := [(0, 4, 5, 284)]) (suf := []) (a := 0) (b := 4) (hp := 8) (ct := 75) rfl (z_pre1 (by decide) z_lkA z_ncUA) (by decide) (by decide) z_lkU z_caU (nx := 9) (info := []) rfl (Or.inr ⟨1, rfl, rfl⟩) (by decide +kernel) rfl ?_
    refine z_bipush (v := -2) rfl (by decide) ?_
    exact z_iret rfl rfl w
theorem c_faults {s a f : Nat} {l : List Nat} (hT : ∀ h', z_Px p B h h' → z_tx h' s a l) (hl : ∀ c ∈ l, 32 ≤ c ∧ c ≤ 126) (hlen : x.2.2.2.2.2.1.length + l.length ≤ 60) (hf : z_flt (x.2.2.2.2.2.1 ++ l) 61 0 = some f) (hw : z_wf x.1) (hP : z_P h p B x) (q : ∀ h', z_P h' p B (z_setF (z_setI x []) (nI f)) → z_Px p B h h' → Q (.inl (some (.int 1))) h') : z_W G 13 300 20000 179 0 (z_L0 179 [.ref p, .ref s, .int (nI f)]) [] h Q := by
  have e : z_fRun (z_ins x l) = (1, 0, z_setF (z_setI x []) (nI f)) := by
    unfold z_fRun
    rw [show z_flt (z_ins x l).2.2.2.2.2.1 61 0 = some f from hf]
    rfl
  refine z_aload_n rfl rfl ?_
  refine z_aload_n rfl rfl ?_
  refine z_callS (av := [_, _]) rfl z_w173 rfl rfl rfl rfl (Nat.le_of_ble_eq_true rfl) (Nat.le_of_ble_eq_true rfl) (Nat.le_of_ble_eq_true rfl) (Nat.le_of_ble_eq_true rfl) (c_lPut hT hl hlen hP fun h1 hP1 hX1 => ?_)
  refine z_aload_n rfl rfl ?_
  refine z_callSX (av := [_]) rfl z_w178 rfl rfl rfl rfl (Nat.le_of_ble_eq_true rfl) (Nat.le_of_ble_eq_true rfl) (Nat.le_of_ble_eq_true rfl) (Nat.le_of_ble_eq_true rfl) (c_runs (x := z_ins x l) hw hP1 fun h2 hP2 hX2 => ?_)
  have ev : z_rnV (z_ins x l) = -1 := by unfold z_rnV; rw [e]; rfl
  rw [ev]
  rw [e] at hP2
  refine z_iconst (v := -1) rfl (by decide) ?_
  refine z_icmp_ne rfl (fun u => absurd rfl u) (fun _ => ?_)
  refine z_aload_n rfl rfl ?_
  refine z_callV (av := []) rfl z_w145 hP2.cell.choose_spec rfl rfl rfl rfl rfl (Nat.le_of_ble_eq_true rfl) (Nat.le_of_ble_eq_true rfl) (Nat.le_of_ble_eq_true rfl) (Nat.le_of_ble_eq_true rfl) (cP_faultPosition hP2 ?_)
  refine z_iload_n rfl rfl ?_
  refine z_icmp_ne rfl (fun u => absurd rfl u) (fun _ => ?_)
  refine z_iconst (v := 1) rfl (by decide) ?_
  refine z_goto rfl ?_
  refine z_zret (ty := .boolean) rfl rfl (by first | decide | exact z_nb _) ?_
  exact q _ hP2 (hX1.trans hX2)
theorem c_isLine {s a : Nat} {l : List Nat} (hT : ∀ h', z_Px p B h h' → z_tx h' s a l) (hx : x.2.2.2.2.2.2.1 = l) (hP : z_P h p B x) (q : ∀ h', z_P h' p B x → z_Px p B h h' → Q (.inl (some (.int 1))) h') : z_W G 9 400 2400 177 0 (z_L0 177 [.ref p, .int (nI l.length), .ref s]) [] h Q := by
  have h9 := (hT h (z_Px.refl _ _ _)).1
  have loop : ∀ (m i : Nat) (hh : z_H), i + m = l.length → z_P hh p B x → z_Px p B h hh → z_W G 9 (4 * m) (24 * m) 177 12 [.ref p, .int (nI l.length), .ref s, .int (nI i)] [] hh Q := by
    intro m
    induction m with
    | zero =>
      intro i hh hi hP1 hX
      refine z_iload_n rfl rfl ?_
      refine z_iload_n rfl rfl ?_
      refine z_icmp_ge rfl (fun u => ?_) (fun u => absurd ((nI_leI (by omega) (by omega)).mpr (by omega : l.length ≤ i)) u)
      refine z_iconst (v := 1) rfl (by decide) ?_
      refine z_zret (ty := .boolean) rfl rfl (by first | decide | exact z_nb _) ?_
      exact q _ hP1 hX
    | succ m ih =>
      intro i hh hi hP1 hX
      have hil : i < l.length := by omega
      refine z_iload_n rfl rfl ?_
      refine z_iload_n rfl rfl ?_
      refine z_icmp_ge rfl (fun u => absurd ((nI_leI (by omega) (by omega)).mp u) (by omega)) (fun u => ?_)
      refine z_aload_n rfl rfl ?_
      refine z_iload_n rfl rfl ?_
      refine z_callV (av := [_]) rfl z_w150 hP1.cell.choose_spec rfl rfl rfl rfl rfl (Nat.le_of_ble_eq_true rfl) (by omega) (by omega) (Nat.le_of_ble_eq_true rfl) (cP_character hP1 fun h2 hP2 hX2 => ?_)
      have e0 : z_fCharacter x (nI i) = (0, nI (l.getD i 0), x) := by
        unfold z_fCharacter
        rw [hx, z_has_nI (by omega), if_pos (decide_eq_true hil), z_ix_nI (by omega)]
      rw [e0]
      refine z_kI rfl rfl ?_
      refine z_aload_n rfl rfl ?_
      refine z_iload_n rfl rfl ?_
      refine z_callT (av := [_]) rfl z_w329 rfl (hT _ (hX.trans hX2)) rfl rfl rfl rfl (Nat.le_of_ble_eq_true rfl) (Nat.zero_le _) (Nat.zero_le _) (Nat.le_of_ble_eq_true rfl) (c_xCharAt (hT _ (hX.trans hX2)) hil ?_)
      refine z_icmp_eq rfl (fun _ => ?_) (fun u => absurd rfl u)
      refine z_iinc1 rfl rfl (by decide +kernel) rfl ?_
      refine z_goto rfl ?_
      exact (ih (i + 1) h2 (by omega) hP2 (hX.trans hX2)).mono (Nat.le_refl _) (by omega) (by omega)
  refine z_iload_n rfl rfl ?_
  refine z_aload_n rfl rfl ?_
  refine z_callT (av := []) rfl z_w331 rfl (hT _ (z_Px.refl _ _ _)) rfl rfl rfl rfl (Nat.le_of_ble_eq_true rfl) (Nat.zero_le _) (Nat.zero_le _) (Nat.le_of_ble_eq_true rfl) (c_xLength (hT _ (z_Px.refl _ _ _)) ?_)
  refine z_icmp_eq rfl (fun _ => ?_) (fun u => absurd rfl u)
  refine z_iconst (v := nI 0) rfl (by decide) ?_
  refine z_istore_n rfl (by decide +kernel) rfl ?_
  exact (loop l.length 0 h (by omega) hP (z_Px.refl _ _ _)).mono (Nat.le_refl _) (by omega) (by omega)
end ZL1
/-! state -/
def z_s1 (x : z_PV) : Int32 → Nat → Int32 := fun v k => 31 * v + (z_fAccount x (nI k)).2.1
def z_s2 (x : z_PV) (c : Nat) : Int32 → Nat → Int32 := fun v k => 31 * v + (z_fClockOf x (nI c) (nI k)).2.1
def z_s3 (x : z_PV) (b : Nat) : Int32 → Nat → Int32 := fun v k => 31 * v + (z_fBillOf x (nI b) (nI k)).2.1
def z_s4 (x : z_PV) : Int32 → Nat → Int32 := fun v k => 31 * v + (z_fKeeper x (nI k)).2.1
def z_t2 (x : z_PV) : Int32 → Nat → Int32 := fun v c => z_fold (z_s2 x c) v 6
def z_t3 (x : z_PV) : Int32 → Nat → Int32 := fun v b => z_fold (z_s3 x b) v 6
def z_v1 (x : z_PV) : Int32 := z_fold (z_s1 x) 0 12
def z_v2 (x : z_PV) : Int32 := z_fold (z_t2 x) (z_v1 x) (x.1.1.1 0)
def z_v3 (x : z_PV) : Int32 := z_fold (z_t3 x) (z_v2 x) (x.1.2.1.1 0)
/-- what state answers -/
def z_st (x : z_PV) : Int32 := z_fold (z_s4 x) (z_v3 x) 3
theorem z_foldC {α : Type} {f g : α → Nat → α} {a : α} : ∀ n, (∀ v k, k < n → f v k = g v k) → z_fold f a n = z_fold g a n := by
  intro n
  induction n with
  | zero => intro _; rfl
  | succ n ih =>
    intro h
    show f (z_fold f a n) n = g (z_fold g a n) n
    rw [ih fun v k hk => h v k (by omega), h _ n (by omega)]
theorem z_st_eq {x y : z_PV} (h : x.1 = y.1) : z_st x = z_st y := by
  obtain ⟨v, r⟩ := x
  obtain ⟨w, r2⟩ := y
  obtain rfl : v = w := h
  have e1 : z_v1 (v, r) = z_v1 (v, r2) := z_foldC 12 fun u k hk => by
    rcases (by omega : k = 0 ∨ k = 1 ∨ k = 2 ∨ k = 3 ∨ k = 4 ∨ k = 5 ∨ k = 6 ∨ k = 7 ∨ k = 8 ∨ k = 9 ∨ k = 10 ∨ k = 11) with rfl | rfl | rfl | rfl | rfl | rfl | rfl | rfl | rfl | rfl | rfl | rfl <;> rfl
  have e2 : z_v2 (v, r) = z_v2 (v, r2) := by
    unfold z_v2
    rw [e1]
    refine z_foldC _ fun u c _ => z_foldC 6 fun u2 k hk => ?_
    show 31 * u2 + (z_fClockOf (v, r) (nI c) (nI k)).2.1 = 31 * u2 + (z_fClockOf (v, r2) (nI c) (nI k)).2.1
    have e9 : (z_fClockOf (v, r) (nI c) (nI k)).2.1 = (z_fClockOf (v, r2) (nI c) (nI k)).2.1 := by
      unfold z_fClockOf
      split
      · rfl
      · rcases (by omega : k = 0 ∨ k = 1 ∨ k = 2 ∨ k = 3 ∨ k = 4 ∨ k = 5) with rfl | rfl | rfl | rfl | rfl | rfl <;> rfl
    rw [e9]
  have e3 : z_v3 (v, r) = z_v3 (v, r2) := by
    unfold z_v3
    rw [e2]
    refine z_foldC _ fun u c _ => z_foldC 6 fun u2 k hk => ?_
    show 31 * u2 + (z_fBillOf (v, r) (nI c) (nI k)).2.1 = 31 * u2 + (z_fBillOf (v, r2) (nI c) (nI k)).2.1
    have e9 : (z_fBillOf (v, r) (nI c) (nI k)).2.1 = (z_fBillOf (v, r2) (nI c) (nI k)).2.1 := by
      unfold z_fBillOf
      split
      · rfl
      · rcases (by omega : k = 0 ∨ k = 1 ∨ k = 2 ∨ k = 3 ∨ k = 4 ∨ k = 5) with rfl | rfl | rfl | rfl | rfl | rfl <;> rfl
    rw [e9]
  unfold z_st
  rw [e3]
  refine z_foldC 3 fun u k hk => ?_
  show 31 * u + (z_fKeeper (v, r) (nI k)).2.1 = 31 * u + (z_fKeeper (v, r2) (nI k)).2.1
  have e9 : (z_fKeeper (v, r) (nI k)).2.1 = (z_fKeeper (v, r2) (nI k)).2.1 := by
    unfold z_fKeeper
    show (if z_has (nI k) (v.1.1 4) = true then ((0, z_a v.1 4 (nI k), (v, r)) : z_An) else (1, 0, (v, r))).2.1 = (if z_has (nI k) (v.1.1 4) = true then ((0, z_a v.1 4 (nI k), (v, r2)) : z_An) else (1, 0, (v, r2))).2.1
    split <;> rfl
  rw [e9]
theorem z_accOk {x : z_PV} : ∀ k, k < 14 → (z_fAccount x (nI k)).1 = 0 := fun k hk => by
  rcases (by omega : k = 0 ∨ k = 1 ∨ k = 2 ∨ k = 3 ∨ k = 4 ∨ k = 5 ∨ k = 6 ∨ k = 7 ∨ k = 8 ∨ k = 9 ∨ k = 10 ∨ k = 11 ∨ k = 12 ∨ k = 13) with rfl | rfl | rfl | rfl | rfl | rfl | rfl | rfl | rfl | rfl | rfl | rfl | rfl | rfl <;> rfl
theorem z_ckOk {x : z_PV} {c k : Nat} (hc : c < x.1.1.1 0) (hc9 : c < 1000) (hk : k < 7) : (z_fClockOf x (nI c) (nI k)).1 = 0 := by
  unfold z_fClockOf
  rw [z_has_nI (by omega), if_neg (by simp [hc])]
  rcases (by omega : k = 0 ∨ k = 1 ∨ k = 2 ∨ k = 3 ∨ k = 4 ∨ k = 5 ∨ k = 6) with rfl | rfl | rfl | rfl | rfl | rfl | rfl <;> rfl
theorem z_bkOk {x : z_PV} {c k : Nat} (hc : c < x.1.2.1.1 0) (hc9 : c < 1000) (hk : k < 6) : (z_fBillOf x (nI c) (nI k)).1 = 0 := by
  unfold z_fBillOf
  rw [z_has_nI (by omega), if_neg (by simp [hc])]
  rcases (by omega : k = 0 ∨ k = 1 ∨ k = 2 ∨ k = 3 ∨ k = 4 ∨ k = 5) with rfl | rfl | rfl | rfl | rfl | rfl <;> rfl
theorem z_kkOk {x : z_PV} {k : Nat} (hs : z_szs x.1) (hk : k < 3) : (z_fKeeper x (nI k)).1 = 0 := by
  unfold z_fKeeper
  rw [z_has_nI (by omega), hs.2.1, if_pos (by simp [hk])]
section ZL2
variable {G : z_G} {h : z_H} {Q : z_O → z_H → Prop} {p : Nat} {B : Nat → Prop} {x : z_PV}
theorem c_sl4 {v0 : Int32} (hs : z_szs x.1) (kk : ∀ hh L3, z_P hh p B x → z_Px p B h hh → z_W G 9 0 0 176 137 [.ref p, .int (z_fold (z_s4 x) v0 3), .int (nI 3), L3] [] hh Q) : ∀ (m i : Nat) (hh : z_H) (L3 : Value), i + m = 3 → z_P hh p B x → z_Px p B h hh → z_W G 9 (0 + 4 * m) (0 + 24 * m) 176 115 [.ref p, .int (z_fold (z_s4 x) v0 i), .int (nI i), L3] [] hh Q := by
  intro m
  induction m with
  | zero =>
    intro i hh L3 hi hP1 hX
    obtain rfl : i = 3 := by omega
    refine z_iload_n rfl rfl ?_
    refine z_iconst (v := nI 3) rfl (by decide) ?_
    refine z_icmp_ge rfl (fun u => ?_) (fun u => absurd (by decide) u)
    exact kk hh L3 hP1 hX
  | succ m ih =>
    intro i hh L3 hi hP1 hX
    refine z_iload_n rfl rfl ?_
    refine z_iconst (v := nI 3) rfl (by decide) ?_
    refine z_icmp_ge rfl (fun u => absurd ((nI_leI (a := 3) (by decide) (by omega)).mp u) (by omega)) (fun u => ?_)
    refine z_bipush (v := 31) rfl (by decide) ?_
    refine z_iload_n rfl rfl ?_
    refine z_imul rfl ?_
    refine z_aload_n rfl rfl ?_
    refine z_iload_n rfl rfl ?_
    refine z_callV (av := [_]) rfl z_w117 hP1.cell.choose_spec rfl rfl rfl rfl rfl (Nat.le_of_ble_eq_true rfl) (by omega) (by omega) (Nat.le_of_ble_eq_true rfl) (cP_keeper hP1 fun h2 hP2 hX2 => ?_)
    refine z_kI (z_kkOk hs (by omega)) rfl ?_
    refine z_iadd rfl ?_
    refine z_istore_n rfl (by decide +kernel) rfl ?_
    refine z_iinc1 rfl rfl (by decide +kernel) rfl ?_
    refine z_goto rfl ?_
    exact (ih (i + 1) h2 L3 (by omega) hP2 (hX.trans hX2)).mono (Nat.le_refl _) (by omega) (by omega)
theorem c_si3 {c : Nat} {v0 : Int32} {A S : Nat} (hc : c < x.1.2.1.1 0) (hc9 : c < 1000) (kk : ∀ hh, z_P hh p B x → z_Px p B h hh → z_W G 9 A S 176 107 [.ref p, .int (z_fold (z_s3 x c) v0 6), .int (nI c), .int (nI 6)] [] hh Q) : ∀ (m i : Nat) (hh : z_H), i + m = 6 → z_P hh p B x → z_Px p B h hh → z_W G 9 (A + 4 * m) (S + 24 * m) 176 83 [.ref p, .int (z_fold (z_s3 x c) v0 i), .int (nI c), .int (nI i)] [] hh Q := by
  intro m
  induction m with
  | zero =>
    intro i hh hi hP1 hX
    obtain rfl : i = 6 := by omega
    refine z_iload_n rfl rfl ?_
    refine z_bipush (v := nI 6) rfl (by decide) ?_
    refine z_icmp_ge rfl (fun u => ?_) (fun u => absurd (by decide) u)
    exact (kk hh hP1 hX).mono (Nat.le_refl _) (by omega) (by omega)
  | succ m ih =>
    intro i hh hi hP1 hX
    refine z_iload_n rfl rfl ?_
    refine z_bipush (v := nI 6) rfl (by decide) ?_
    refine z_icmp_ge rfl (fun u => absurd ((nI_leI (a := 6) (by decide) (by omega)).mp u) (by omega)) (fun u => ?_)
    refine z_bipush (v := 31) rfl (by decide) ?_
    refine z_iload_n rfl rfl ?_
    refine z_imul rfl ?_
    refine z_aload_n rfl rfl ?_
    refine z_iload_n rfl rfl ?_
    refine z_iload_n rfl rfl ?_
    refine z_callV (av := [_, _]) rfl z_w116 hP1.cell.choose_spec rfl rfl rfl rfl rfl (Nat.le_of_ble_eq_true rfl) (by omega) (by omega) (Nat.le_of_ble_eq_true rfl) (cP_billOf hP1 fun h2 hP2 hX2 => ?_)
    refine z_kI (z_bkOk hc hc9 (by omega)) rfl ?_
    refine z_iadd rfl ?_
    refine z_istore_n rfl (by decide +kernel) rfl ?_
    refine z_iinc1 rfl rfl (by decide +kernel) rfl ?_
    refine z_goto rfl ?_
    exact (ih (i + 1) h2 (by omega) hP2 (hX.trans hX2)).mono (Nat.le_refl _) (by omega) (by omega)
theorem c_sl3 {v0 : Int32} (hn : x.1.2.1.1 0 ≤ 10) (kk : ∀ hh L3, z_P hh p B x → z_Px p B h hh → z_W G 9 12 72 176 113 [.ref p, .int (z_fold (z_t3 x) v0 (x.1.2.1.1 0)), .int (nI (x.1.2.1.1 0)), L3] [] hh Q) : ∀ (m i : Nat) (hh : z_H) (L3 : Value), i + m = x.1.2.1.1 0 → z_P hh p B x → z_Px p B h hh → z_W G 9 (16 + 28 * m) (96 + 168 * m) 176 72 [.ref p, .int (z_fold (z_t3 x) v0 i), .int (nI i), L3] [] hh Q := by
  intro m
  induction m with
  | zero =>
    intro i hh L3 hi hP1 hX
    refine z_iload_n rfl rfl ?_
    refine z_aload_n rfl rfl ?_
    refine z_iconst (v := nI 2) rfl (by decide) ?_
    refine z_callV (av := [_]) rfl z_w153 hP1.cell.choose_spec rfl rfl rfl rfl rfl (Nat.le_of_ble_eq_true rfl) (by omega) (by omega) (Nat.le_of_ble_eq_true rfl) (cP_account hP1 fun h2 hP2 hX2 => ?_)
    refine z_kI rfl (v := nI (x.1.2.1.1 0)) rfl ?_
    refine z_icmp_ge rfl (fun u => ?_) (fun u => absurd ((nI_leI (by omega) (by omega)).mpr (by omega : x.1.2.1.1 0 ≤ i)) u)
    obtain rfl : i = x.1.2.1.1 0 := by omega
    exact (kk h2 L3 hP2 (hX.trans hX2)).mono (Nat.le_refl _) (by omega) (by omega)
  | succ m ih =>
    intro i hh L3 hi hP1 hX
    refine z_iload_n rfl rfl ?_
    refine z_aload_n rfl rfl ?_
    refine z_iconst (v := nI 2) rfl (by decide) ?_
    refine z_callV (av := [_]) rfl z_w153 hP1.cell.choose_spec rfl rfl rfl rfl rfl (Nat.le_of_ble_eq_true rfl) (by omega) (by omega) (Nat.le_of_ble_eq_true rfl) (cP_account hP1 fun h2 hP2 hX2 => ?_)
    refine z_kI rfl (v := nI (x.1.2.1.1 0)) rfl ?_
    refine z_icmp_ge rfl (fun u => absurd ((nI_leI (by omega) (by omega)).mp u) (by omega)) (fun u => ?_)
    refine z_iconst (v := nI 0) rfl (by decide) ?_
    refine z_istore_n rfl (by decide +kernel) rfl ?_
    refine (c_si3 (h := h) (A := 16 + 28 * m) (S := 96 + 168 * m) (v0 := z_fold (z_t3 x) v0 i) (c := i) (by omega) (by omega) (fun h3 hP3 hX3 => ?_) 6 0 h2 rfl hP2 (hX.trans hX2)).mono (Nat.le_refl _) (by omega) (by omega)
    refine z_iinc1 rfl rfl (by decide +kernel) rfl ?_
    refine z_goto rfl ?_
    exact ih (i + 1) h3 (.int (nI 6)) (by omega) hP3 hX3
theorem c_si2 {c : Nat} {v0 : Int32} {A S : Nat} (hc : c < x.1.1.1 0) (hc9 : c < 1000) (kk : ∀ hh, z_P hh p B x → z_Px p B h hh → z_W G 9 A S 176 64 [.ref p, .int (z_fold (z_s2 x c) v0 6), .int (nI c), .int (nI 6)] [] hh Q) : ∀ (m i : Nat) (hh : z_H), i + m = 6 → z_P hh p B x → z_Px p B h hh → z_W G 9 (A + 4 * m) (S + 24 * m) 176 40 [.ref p, .int (z_fold (z_s2 x c) v0 i), .int (nI c), .int (nI i)] [] hh Q := by
  intro m
  induction m with
  | zero =>
    intro i hh hi hP1 hX
    obtain rfl : i = 6 := by omega
    refine z_iload_n rfl rfl ?_
    refine z_bipush (v := nI 6) rfl (by decide) ?_
    refine z_icmp_ge rfl (fun u => ?_) (fun u => absurd (by decide) u)
    exact (kk hh hP1 hX).mono (Nat.le_refl _) (by omega) (by omega)
  | succ m ih =>
    intro i hh hi hP1 hX
    refine z_iload_n rfl rfl ?_
    refine z_bipush (v := nI 6) rfl (by decide) ?_
    refine z_icmp_ge rfl (fun u => absurd ((nI_leI (a := 6) (by decide) (by omega)).mp u) (by omega)) (fun u => ?_)
    refine z_bipush (v := 31) rfl (by decide) ?_
    refine z_iload_n rfl rfl ?_
    refine z_imul rfl ?_
    refine z_aload_n rfl rfl ?_
    refine z_iload_n rfl rfl ?_
    refine z_iload_n rfl rfl ?_
    refine z_callV (av := [_, _]) rfl z_w115 hP1.cell.choose_spec rfl rfl rfl rfl rfl (Nat.le_of_ble_eq_true rfl) (by omega) (by omega) (Nat.le_of_ble_eq_true rfl) (cP_clockOf hP1 fun h2 hP2 hX2 => ?_)
    refine z_kI (z_ckOk hc hc9 (by omega)) rfl ?_
    refine z_iadd rfl ?_
    refine z_istore_n rfl (by decide +kernel) rfl ?_
    refine z_iinc1 rfl rfl (by decide +kernel) rfl ?_
    refine z_goto rfl ?_
    exact (ih (i + 1) h2 (by omega) hP2 (hX.trans hX2)).mono (Nat.le_refl _) (by omega) (by omega)
theorem c_sl2 {v0 : Int32} (hn : x.1.1.1 0 ≤ 8) (kk : ∀ hh L3, z_P hh p B x → z_Px p B h hh → z_W G 9 296 1776 176 70 [.ref p, .int (z_fold (z_t2 x) v0 (x.1.1.1 0)), .int (nI (x.1.1.1 0)), L3] [] hh Q) : ∀ (m i : Nat) (hh : z_H) (L3 : Value), i + m = x.1.1.1 0 → z_P hh p B x → z_Px p B h hh → z_W G 9 (300 + 28 * m) (1800 + 168 * m) 176 29 [.ref p, .int (z_fold (z_t2 x) v0 i), .int (nI i), L3] [] hh Q := by
  intro m
  induction m with
  | zero =>
    intro i hh L3 hi hP1 hX
    refine z_iload_n rfl rfl ?_
    refine z_aload_n rfl rfl ?_
    refine z_iconst (v := nI 0) rfl (by decide) ?_
    refine z_callV (av := [_]) rfl z_w153 hP1.cell.choose_spec rfl rfl rfl rfl rfl (Nat.le_of_ble_eq_true rfl) (by omega) (by omega) (Nat.le_of_ble_eq_true rfl) (cP_account hP1 fun h2 hP2 hX2 => ?_)
    refine z_kI rfl (v := nI (x.1.1.1 0)) rfl ?_
    refine z_icmp_ge rfl (fun u => ?_) (fun u => absurd ((nI_leI (by omega) (by omega)).mpr (by omega : x.1.1.1 0 ≤ i)) u)
    obtain rfl : i = x.1.1.1 0 := by omega
    exact (kk h2 L3 hP2 (hX.trans hX2)).mono (Nat.le_refl _) (by omega) (by omega)
  | succ m ih =>
    intro i hh L3 hi hP1 hX
    refine z_iload_n rfl rfl ?_
    refine z_aload_n rfl rfl ?_
    refine z_iconst (v := nI 0) rfl (by decide) ?_
    refine z_callV (av := [_]) rfl z_w153 hP1.cell.choose_spec rfl rfl rfl rfl rfl (Nat.le_of_ble_eq_true rfl) (by omega) (by omega) (Nat.le_of_ble_eq_true rfl) (cP_account hP1 fun h2 hP2 hX2 => ?_)
    refine z_kI rfl (v := nI (x.1.1.1 0)) rfl ?_
    refine z_icmp_ge rfl (fun u => absurd ((nI_leI (by omega) (by omega)).mp u) (by omega)) (fun u => ?_)
    refine z_iconst (v := nI 0) rfl (by decide) ?_
    refine z_istore_n rfl (by decide +kernel) rfl ?_
    refine (c_si2 (h := h) (A := 300 + 28 * m) (S := 1800 + 168 * m) (v0 := z_fold (z_t2 x) v0 i) (c := i) (by omega) (by omega) (fun h3 hP3 hX3 => ?_) 6 0 h2 rfl hP2 (hX.trans hX2)).mono (Nat.le_refl _) (by omega) (by omega)
    refine z_iinc1 rfl rfl (by decide +kernel) rfl ?_
    refine z_goto rfl ?_
    exact ih (i + 1) h3 (.int (nI 6)) (by omega) hP3 hX3
theorem c_sl1 {v0 : Int32} (hs : z_szs x.1) (kk : ∀ hh L3, z_P hh p B x → z_Px p B h hh → z_W G 9 524 3144 176 27 [.ref p, .int (z_fold (z_s1 x) v0 12), .int (nI 12), L3] [] hh Q) : ∀ (m i : Nat) (hh : z_H) (L3 : Value), i + m = 12 → z_P hh p B x → z_Px p B h hh → z_W G 9 (524 + 4 * m) (3144 + 24 * m) 176 4 [.ref p, .int (z_fold (z_s1 x) v0 i), .int (nI i), L3] [] hh Q := by
  intro m
  induction m with
  | zero =>
    intro i hh L3 hi hP1 hX
    obtain rfl : i = 12 := by omega
    refine z_iload_n rfl rfl ?_
    refine z_bipush (v := nI 12) rfl (by decide) ?_
    refine z_icmp_ge rfl (fun u => ?_) (fun u => absurd (by decide) u)
    exact kk hh L3 hP1 hX
  | succ m ih =>
    intro i hh L3 hi hP1 hX
    refine z_iload_n rfl rfl ?_
    refine z_bipush (v := nI 12) rfl (by decide) ?_
    refine z_icmp_ge rfl (fun u => absurd ((nI_leI (a := 12) (by decide) (by omega)).mp u) (by omega)) (fun u => ?_)
    refine z_bipush (v := 31) rfl (by decide) ?_
    refine z_iload_n rfl rfl ?_
    refine z_imul rfl ?_
    refine z_aload_n rfl rfl ?_
    refine z_iload_n rfl rfl ?_
    refine z_callV (av := [_]) rfl z_w153 hP1.cell.choose_spec rfl rfl rfl rfl rfl (Nat.le_of_ble_eq_true rfl) (by omega) (by omega) (Nat.le_of_ble_eq_true rfl) (cP_account hP1 fun h2 hP2 hX2 => ?_)
    refine z_kI (z_accOk i (by omega)) rfl ?_
    refine z_iadd rfl ?_
    refine z_istore_n rfl (by decide +kernel) rfl ?_
    refine z_iinc1 rfl rfl (by decide +kernel) rfl ?_
    refine z_goto rfl ?_
    exact (ih (i + 1) h2 L3 (by omega) hP2 (hX.trans hX2)).mono (Nat.le_refl _) (by omega) (by omega)
theorem c_state (hw : z_wf x.1) (hP : z_P h p B x) (q : ∀ h', z_P h' p B x → z_Px p B h h' → Q (.inl (some (.int (z_st x)))) h') : z_W G 9 572 3432 176 0 (z_L0 176 [.ref p]) [] h Q := by
  have hs : z_szs x.1 := hw.1
  have n1 : x.1.1.1 0 ≤ 8 := hw.nc
  have n2 : x.1.2.1.1 0 ≤ 10 := hw.nb
  refine z_iconst (v := 0) rfl (by decide) ?_
  refine z_istore_n rfl (by decide +kernel) rfl ?_
  refine z_iconst (v := nI 0) rfl (by decide) ?_
  refine z_istore_n rfl (by decide +kernel) rfl ?_
  obtain ⟨a1, e1⟩ : ∃ a, z_fold (z_s1 x) 0 12 = a := ⟨_, rfl⟩
  obtain ⟨a2, e2⟩ : ∃ a, z_fold (z_t2 x) a1 (x.1.1.1 0) = a := ⟨_, rfl⟩
  obtain ⟨a3, e3⟩ : ∃ a, z_fold (z_t3 x) a2 (x.1.2.1.1 0) = a := ⟨_, rfl⟩
  obtain ⟨a4, e4⟩ : ∃ a, z_fold (z_s4 x) a3 3 = a := ⟨_, rfl⟩
  have e5 : z_st x = a4 := by unfold z_st z_v3 z_v2 z_v1; rw [e1, e2, e3, e4]
  rw [e5] at q
  refine c_sl1 (h := h) (v0 := 0) hs (fun h1 L3 hP1 hX1 => ?_) 12 0 h (.retAddr 0) rfl hP (z_Px.refl _ _ _)
  rw [e1]
  refine z_iconst (v := nI 0) rfl (by decide) ?_
  refine z_istore_n rfl (by decide +kernel) rfl ?_
  refine (c_sl2 (h := h) (v0 := a1) n1 (fun h2 L3 hP2 hX2 => ?_) (x.1.1.1 0) 0 h1 L3 (by omega) hP1 hX1).mono (Nat.le_refl _) (by omega) (by omega)
  rw [e2]
  refine z_iconst (v := nI 0) rfl (by decide) ?_
  refine z_istore_n rfl (by decide +kernel) rfl ?_
  refine (c_sl3 (h := h) (v0 := a2) n2 (fun h3 L3 hP3 hX3 => ?_) (x.1.2.1.1 0) 0 h2 L3 (by omega) hP2 hX2).mono (Nat.le_refl _) (by omega) (by omega)
  rw [e3]
  refine z_iconst (v := nI 0) rfl (by decide) ?_
  refine z_istore_n rfl (by decide +kernel) rfl ?_
  refine c_sl4 (h := h) (v0 := a3) hs (fun h4 L3 hP4 hX4 => ?_) 3 0 h3 L3 rfl hP3 hX3
  rw [e4]
  refine z_iload_n rfl rfl ?_
  exact z_iret rfl rfl (q _ hP4 hX4)
end ZL2
