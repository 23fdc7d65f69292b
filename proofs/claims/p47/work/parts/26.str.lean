/-! Constant Strings: the forms of the orders. Kind.startingWith. -/
def z_frm (k : Nat) : List Nat := ([[99, 108, 111, 99, 107, 32, 78, 32, 68], [108, 101, 97, 118, 101, 32, 68], [107, 101, 121, 32, 68, 32, 75], [119, 105, 110, 100, 32, 68, 32, 68], [109, 111, 118, 101, 32, 68, 32, 78], [98, 105, 108, 108, 32, 68, 32, 78, 32, 68], [97, 100, 106, 111, 117, 114, 110, 32, 68, 32, 78], [100, 114, 111, 112, 32, 68], [118, 111, 116, 101], [104, 111, 117, 114, 63, 32, 78]] : List (List Nat)).getD k []
theorem z_frmE : ∀ k, k < 10 → z_forms.getD k [] = (z_frm k).map nI := by decide +kernel
theorem z_frmB : ∀ k, k < 10 → (z_frm k).length ≤ 11 ∧ 0 < (z_frm k).length ∧ ∀ x ∈ z_frm k, x < 128 := by decide +kernel
theorem z_rofF {k : Nat} (hk : k < 10) : (k + 1, "ClockParliament$Kind", "form", "Ljava/lang/String;", Value.ref (11 + k)) ∈ z_rof := List.mem_append_left _ <| List.mem_flatMap.mpr ⟨k, List.mem_range.mpr hk, by rw [Nat.add_comm]; exact List.mem_cons_of_mem _ List.mem_cons_self⟩
theorem z_rofC {k : Nat} (hk : k < 10) : (11 + k, "java/lang/String", "coder", "B", Value.int 0) ∈ z_rof := List.mem_append_left _ <| List.mem_flatMap.mpr ⟨k, List.mem_range.mpr hk, List.mem_cons_of_mem _ (List.mem_cons_of_mem _ List.mem_cons_self)⟩
theorem z_rofV {k : Nat} (hk : k < 10) : (11 + k, "java/lang/String", "value", "[B", Value.ref (21 + k)) ∈ z_rof := List.mem_append_left _ <| List.mem_flatMap.mpr ⟨k, List.mem_range.mpr hk, List.mem_cons_of_mem _ (List.mem_cons_of_mem _ (List.mem_cons_of_mem _ List.mem_cons_self))⟩
theorem z_rooS {k : Nat} (hk : k < 10) : (11 + k, "java/lang/String") ∈ z_roo := List.mem_append_left _ <| List.mem_flatMap.mpr ⟨k, List.mem_range.mpr hk, List.mem_cons_of_mem _ List.mem_cons_self⟩
theorem z_roaF {k : Nat} (hk : k < 10) : (21 + k, FieldType.byte, (z_frm k).map (fun x => Value.int (nI x))) ∈ z_roa := by
  have h : (21 + k, FieldType.byte, (z_forms.getD k []).map Value.int) ∈ z_roa := List.mem_append_left _ (List.mem_map.mpr ⟨k, List.mem_range.mpr hk, rfl⟩)
  rw [z_frmE k hk, List.map_map] at h
  exact h
theorem z_frmV {k i : Nat} (hi : i < (z_frm k).length) : ((z_frm k).map (fun x => Value.int (nI x))).getD i .null = .int (nI ((z_frm k).getD i 0)) := by
  simp [List.getD_eq_getElem?_getD, List.getElem?_map, List.getElem?_eq_getElem hi]
theorem z_frmL {k i : Nat} (hk : k < 10) (hi : i < (z_frm k).length) : (z_frm k).getD i 0 < 128 := by
  refine (z_frmB k hk).2.2 _ ?_
  rw [List.getD_eq_getElem?_getD, List.getElem?_eq_getElem hi]
  exact List.getElem_mem hi
def z_idx (k c : Nat) : Int32 := z_oN1 (z_first (fun i => decide ((z_frm k).getD i 0 = c)) (z_frm k).length 0)
theorem z_first_hit {P : Nat → Bool} {m i : Nat} (h : P i = true) : z_first P (m + 1) i = some i := if_pos h
section ZSt
variable {G : z_G} {h : z_H} {Q : z_O → z_H → Prop} {k : Nat}
theorem c_sLatin (hk : k < 10) (q : Q (.inl (some (.int 1))) h) : z_W G 0 0 0 330 0 (z_L0 330 [.ref (11 + k)]) [] h Q := by
  refine z_gets (v := .int 1) rfl (by decide +kernel) rfl ?_
  refine z_if_eq rfl (fun c3 => absurd c3 (by decide)) (fun c3 => ?_)
  refine z_aload_n rfl rfl ?_
  refine z_getR rfl (z_rofC hk) ?_
  refine z_if_ne rfl (fun c10 => absurd rfl c10) (fun c10 => ?_)
  refine z_iconst (v := 1) rfl (by decide) ?_
  refine z_goto rfl ?_
  refine z_zret (ty := .boolean) rfl rfl (by first | decide | exact z_nb _) ?_
  exact q
theorem c_sCoder (hk : k < 10) (q : Q (.inl (some (.int 0))) h) : z_W G 0 0 0 332 0 (z_L0 332 [.ref (11 + k)]) [] h Q := by
  refine z_gets (v := .int 1) rfl (by decide +kernel) rfl ?_
  refine z_if_eq rfl (fun c3 => absurd c3 (by decide)) (fun c3 => ?_)
  refine z_aload_n rfl rfl ?_
  refine z_getR rfl (z_rofC hk) ?_
  refine z_goto rfl ?_
  refine z_zret (ty := .byte) rfl rfl (by decide) ?_
  exact q
theorem c_sLength (hk : k < 10) (q : Q (.inl (some (.int (nI (z_frm k).length)))) h) : z_W G 1 0 0 331 0 (z_L0 331 [.ref (11 + k)]) [] h Q := by
  have hv := z_roaF hk
  have el : ((z_frm k).map (fun x => Value.int (nI x))).length = (z_frm k).length := by simp
  refine z_aload_n rfl rfl ?_
  refine z_getR rfl (z_rofV hk) ?_
  refine z_alenR rfl hv ?_
  rw [show Int32.ofNat ((z_frm k).map (fun x => Value.int (nI x))).length = nI (z_frm k).length by rw [el]; rfl]
  refine z_aload_n rfl rfl ?_
  refine z_callVR (av := []) rfl z_w332 (z_rooS hk) rfl rfl rfl rfl (Nat.le_of_ble_eq_true rfl) (Nat.le_of_ble_eq_true rfl) (Nat.le_of_ble_eq_true rfl) (Nat.le_of_ble_eq_true rfl) (c_sCoder hk ?_)
  refine z_ishr rfl ?_
  rw [sb_shr0]
  refine z_iret rfl rfl ?_
  exact q
theorem c_bCharAt {i : Nat} (hk : k < 10) (hi : i < (z_frm k).length) (q : Q (.inl (some (.int (nI ((z_frm k).getD i 0))))) h) : z_W G 2 0 0 335 0 (z_L0 335 [.ref (21 + k), .int (nI i)]) [] h Q := by
  have hv := z_roaF hk
  have hl := z_frmL hk hi
  have hb := z_frmB k hk
  have el : ((z_frm k).map (fun x => Value.int (nI x))).length = (z_frm k).length := by simp
  refine z_iload_n rfl rfl ?_
  refine z_aload_n rfl rfl ?_
  refine z_alenR rfl hv ?_
  rw [show Int32.ofNat ((z_frm k).map (fun x => Value.int (nI x))).length = nI (z_frm k).length by rw [el]; rfl]
  refine z_callS (av := [_, _]) rfl z_w323 rfl rfl rfl rfl (Nat.le_of_ble_eq_true rfl) (Nat.le_of_ble_eq_true rfl) (Nat.le_of_ble_eq_true rfl) (Nat.le_of_ble_eq_true rfl) (c_checkIndex hi (by omega) ?_)
  refine z_aload_n rfl rfl ?_
  refine z_iload_n rfl rfl ?_
  have vv : ((z_frm k).map (fun x => Value.int (nI x))).getD (nI i).toNatClampNeg .null = .int (nI ((z_frm k).getD i 0)) := by rw [nI_clamp (by omega)]; exact z_frmV hi
  refine z_baldR rfl hv (by rw [el]; exact vp_in_nI hi (by omega)) vv ?_
  refine z_sipush (v := 255) rfl (by decide) ?_
  refine z_iand rfl ?_
  rw [(z_c128 _ hl).2.2.1]
  refine z_i2c rfl ?_
  rw [(z_c128 _ hl).2.2.2.1]
  refine z_zret (ty := .char) rfl rfl (z_c128 _ hl).2.2.2.2.1 ?_
  exact q
theorem c_sCharAt {i : Nat} (hk : k < 10) (hi : i < (z_frm k).length) (q : Q (.inl (some (.int (nI ((z_frm k).getD i 0))))) h) : z_W G 3 0 0 329 0 (z_L0 329 [.ref (11 + k), .int (nI i)]) [] h Q := by
  refine z_aload_n rfl rfl ?_
  refine z_callVR (av := []) rfl z_w330 (z_rooS hk) rfl rfl rfl rfl (Nat.le_of_ble_eq_true rfl) (Nat.le_of_ble_eq_true rfl) (Nat.le_of_ble_eq_true rfl) (Nat.le_of_ble_eq_true rfl) (c_sLatin hk ?_)
  refine z_if_eq rfl (fun c4 => absurd c4 (by decide)) (fun c4 => ?_)
  refine z_aload_n rfl rfl ?_
  refine z_getR rfl (z_rofV hk) ?_
  refine z_iload_n rfl rfl ?_
  refine z_callS (av := [_, _]) rfl z_w335 rfl rfl rfl rfl (Nat.le_of_ble_eq_true rfl) (Nat.le_of_ble_eq_true rfl) (Nat.le_of_ble_eq_true rfl) (Nat.le_of_ble_eq_true rfl) (c_bCharAt hk hi ?_)
  refine z_zret (ty := .char) rfl rfl (z_c128 _ (z_frmL hk hi)).2.2.2.2.1 ?_
  exact q
theorem c_canEncodeI {c : Nat} (hc : c < 128) (q : Q (.inl (some (.int 1))) h) : z_W G 0 0 0 315 0 (z_L0 315 [.int (nI c)]) [] h Q := by
  refine z_iload_n rfl rfl ?_
  refine z_if_lt rfl (fun c1 => absurd c1 (nI_pos (by omega))) (fun c1 => ?_)
  refine z_iload_n rfl rfl ?_
  refine z_sipush (v := 255) rfl (by decide) ?_
  refine z_icmp_gt rfl (fun c8 => absurd c8 (show ¬ (255 : Int32) < nI c from nI_nlt (a := 255) (by omega) (by decide))) (fun c8 => ?_)
  refine z_iconst (v := 1) rfl (by decide) ?_
  refine z_goto rfl ?_
  refine z_zret (ty := .boolean) rfl rfl (by first | decide | exact z_nb _) ?_
  exact q
theorem z_toI8 : ∀ c, c < 128 → (nI c).toInt8.toInt32 = nI c := by decide +kernel
theorem c_indexOfChar {c : Nat} (hk : k < 10) (hc : c < 128) (q : Q (.inl (some (.int (z_idx k c)))) h) : z_W G 0 0 0 337 0 (z_L0 337 [.ref (21 + k), .int (nI c), .int 0, .int (nI (z_frm k).length)]) [] h Q := by
  have hv := z_roaF hk
  have hb := z_frmB k hk
  have el : ((z_frm k).map (fun x => Value.int (nI x))).length = (z_frm k).length := by simp
  have loop : ∀ (m i : Nat), i + m = (z_frm k).length → z_first (fun i => decide ((z_frm k).getD i 0 = c)) (z_frm k).length 0 = z_first (fun i => decide ((z_frm k).getD i 0 = c)) m i → z_W G 0 0 0 337 7 [.ref (21 + k), .int (nI c), .int 0, .int (nI (z_frm k).length), .int (nI c), .int (nI i)] [] h Q := by
    intro m
    induction m with
    | zero =>
      intro i hi he
      refine z_iload rfl rfl ?_
      refine z_iload_n rfl rfl ?_
      refine z_icmp_ge rfl (fun c10 => ?_) (fun c10 => absurd (show nI (z_frm k).length ≤ nI i from (nI_leI (by omega) (by omega)).mpr (by omega)) c10)
      refine z_iconst (v := (-1)) rfl (by decide) ?_
      refine z_iret rfl rfl ?_
      unfold z_idx at q; rw [he] at q; exact q
    | succ m ih =>
      intro i hi he
      have hl := z_frmL (i := i) hk (by omega)
      refine z_iload rfl rfl ?_
      refine z_iload_n rfl rfl ?_
      refine z_icmp_ge rfl (fun c10 => absurd c10 (show ¬ nI (z_frm k).length ≤ nI i from fun q9 => absurd ((nI_leI (by omega) (by omega)).mp q9) (by omega))) (fun c10 => ?_)
      refine z_aload_n rfl rfl ?_
      refine z_iload rfl rfl ?_
      have vv : ((z_frm k).map (fun x => Value.int (nI x))).getD (nI i).toNatClampNeg .null = .int (nI ((z_frm k).getD i 0)) := by rw [nI_clamp (by omega)]; exact z_frmV (by omega)
      refine z_baldR rfl hv (by rw [el]; exact vp_in_nI (by omega) (by omega)) vv ?_
      refine z_iload rfl rfl ?_
      refine z_icmp_ne rfl (fun c19 => ?_) (fun c19 => ?_)
      · refine z_iinc1 rfl rfl (by decide +kernel) rfl ?_
        exact z_goto rfl (ih (i + 1) (by omega) (he.trans (if_neg (fun e9 => c19 ((nI_eq (by omega) (by omega)).mpr (of_decide_eq_true e9))))))
      · refine z_iload rfl rfl ?_
        refine z_iret rfl rfl ?_
        unfold z_idx at q; rw [he.trans (z_first_hit (decide_eq_true ((nI_eq (by omega) (by omega)).mp c19)))] at q; exact q
  refine z_iload_n rfl rfl ?_
  refine z_i2b rfl ?_
  rw [z_toI8 c hc]
  refine z_istore rfl (by decide +kernel) rfl ?_
  refine z_iload_n rfl rfl ?_
  refine z_istore rfl (by decide +kernel) rfl ?_
  exact loop _ 0 (by omega) rfl
theorem c_bIndexOf {c : Nat} (hk : k < 10) (hc : c < 128) (q : Q (.inl (some (.int (z_idx k c)))) h) : z_W G 1 0 0 336 0 (z_L0 336 [.ref (21 + k), .int (nI c), .int 0, .int (nI (z_frm k).length)]) [] h Q := by
  have hv := z_roaF hk
  have hb := z_frmB k hk
  have el : ((z_frm k).map (fun x => Value.int (nI x))).length = (z_frm k).length := by simp
  refine z_iload_n rfl rfl ?_
  refine z_callS (av := [_]) rfl z_w315 rfl rfl rfl rfl (Nat.le_of_ble_eq_true rfl) (Nat.le_of_ble_eq_true rfl) (Nat.le_of_ble_eq_true rfl) (Nat.le_of_ble_eq_true rfl) (c_canEncodeI hc ?_)
  refine z_if_ne rfl (fun c4 => ?_) (fun c4 => absurd c4 (by decide))
  refine z_iload_n rfl rfl ?_
  refine z_iconst (v := 0) rfl (by decide) ?_
  refine z_callS (av := [_, _]) rfl z_w319 rfl rfl rfl rfl (Nat.le_of_ble_eq_true rfl) (Nat.le_of_ble_eq_true rfl) (Nat.le_of_ble_eq_true rfl) (Nat.le_of_ble_eq_true rfl) (c_max ?_)
  rw [show (if (0 : Int32) < 0 then (0 : Int32) else 0) = 0 by decide]
  refine z_istore_n rfl (by decide +kernel) rfl ?_
  refine z_iload_n rfl rfl ?_
  refine z_aload_n rfl rfl ?_
  refine z_alenR rfl hv ?_
  rw [show Int32.ofNat ((z_frm k).map (fun x => Value.int (nI x))).length = nI (z_frm k).length by rw [el]; rfl]
  refine z_callS (av := [_, _]) rfl z_w318 rfl rfl rfl rfl (Nat.le_of_ble_eq_true rfl) (Nat.le_of_ble_eq_true rfl) (Nat.le_of_ble_eq_true rfl) (Nat.le_of_ble_eq_true rfl) (c_min ?_)
  rw [z_mn (by omega) (by omega), if_neg (by omega)]
  refine z_istore_n rfl (by decide +kernel) rfl ?_
  refine z_iload_n rfl rfl ?_
  refine z_iload_n rfl rfl ?_
  refine z_icmp_lt rfl (fun c24 => ?_) (fun c24 => absurd (show nI 0 < nI (z_frm k).length from nI_lt hb.2.1 (by omega)) c24)
  refine z_aload_n rfl rfl ?_
  refine z_iload_n rfl rfl ?_
  refine z_iload_n rfl rfl ?_
  refine z_iload_n rfl rfl ?_
  refine z_callS (av := [_, _, _, _]) rfl z_w337 rfl rfl rfl rfl (Nat.le_of_ble_eq_true rfl) (Nat.le_of_ble_eq_true rfl) (Nat.le_of_ble_eq_true rfl) (Nat.le_of_ble_eq_true rfl) (c_indexOfChar hk hc ?_)
  refine z_iret rfl rfl ?_
  exact q
theorem c_sIndexOf2 {c : Nat} (hk : k < 10) (hc : c < 128) (q : Q (.inl (some (.int (z_idx k c)))) h) : z_W G 2 0 0 334 0 (z_L0 334 [.ref (11 + k), .int (nI c), .int 0]) [] h Q := by
  refine z_aload_n rfl rfl ?_
  refine z_callVR (av := []) rfl z_w330 (z_rooS hk) rfl rfl rfl rfl (Nat.le_of_ble_eq_true rfl) (Nat.le_of_ble_eq_true rfl) (Nat.le_of_ble_eq_true rfl) (Nat.le_of_ble_eq_true rfl) (c_sLatin hk ?_)
  refine z_if_eq rfl (fun c4 => absurd c4 (by decide)) (fun c4 => ?_)
  refine z_aload_n rfl rfl ?_
  refine z_getR rfl (z_rofV hk) ?_
  refine z_iload_n rfl rfl ?_
  refine z_iload_n rfl rfl ?_
  refine z_aload_n rfl rfl ?_
  refine z_callVR (av := []) rfl z_w331 (z_rooS hk) rfl rfl rfl rfl (Nat.le_of_ble_eq_true rfl) (Nat.le_of_ble_eq_true rfl) (Nat.le_of_ble_eq_true rfl) (Nat.le_of_ble_eq_true rfl) (c_sLength hk ?_)
  refine z_callS (av := [_, _, _, _]) rfl z_w336 rfl rfl rfl rfl (Nat.le_of_ble_eq_true rfl) (Nat.le_of_ble_eq_true rfl) (Nat.le_of_ble_eq_true rfl) (Nat.le_of_ble_eq_true rfl) (c_bIndexOf hk hc ?_)
  refine z_goto rfl ?_
  refine z_iret rfl rfl ?_
  exact q
theorem c_sIndexOf {c : Nat} (hk : k < 10) (hc : c < 128) (q : Q (.inl (some (.int (z_idx k c)))) h) : z_W G 3 0 0 333 0 (z_L0 333 [.ref (11 + k), .int (nI c)]) [] h Q := by
  refine z_aload_n rfl rfl ?_
  refine z_iload_n rfl rfl ?_
  refine z_iconst (v := 0) rfl (by decide) ?_
  refine z_callVR (av := [_, _]) rfl z_w334 (z_rooS hk) rfl rfl rfl rfl (Nat.le_of_ble_eq_true rfl) (Nat.le_of_ble_eq_true rfl) (Nat.le_of_ble_eq_true rfl) (Nat.le_of_ble_eq_true rfl) (c_sIndexOf2 hk hc ?_)
  refine z_iret rfl rfl ?_
  exact q
def z_knd (c : Nat) : Option Nat := z_first (fun i => decide ((z_frm i).getD 0 0 = c)) 10 0
def z_kv : Option Nat → Value
  | some k => .ref (k + 1)
  | none => .null
theorem z_firstP {P : Nat → Bool} {x : Nat} : ∀ m i, z_first P m i = some x → P x = true ∧ i ≤ x ∧ x < i + m := by
  intro m
  induction m with
  | zero => intro i h; cases h
  | succ m ih =>
    intro i h
    unfold z_first at h
    by_cases e : P i = true
    · rw [if_pos e] at h
      cases h
      exact ⟨e, Nat.le_refl _, by omega⟩
    · rw [if_neg e] at h
      obtain ⟨h1, h2, h3⟩ := ih _ h
      exact ⟨h1, by omega, by omega⟩
theorem z_idx0 {k c : Nat} (hk : k < 10) : z_idx k c = 0 ↔ (z_frm k).getD 0 0 = c := by
  have hb := z_frmB k hk
  obtain ⟨n, hn⟩ : ∃ n, (z_frm k).length = n + 1 := ⟨(z_frm k).length - 1, by omega⟩
  unfold z_idx
  rw [hn]
  by_cases e : (z_frm k).getD 0 0 = c
  · rw [show z_first (fun i => decide ((z_frm k).getD i 0 = c)) (n + 1) 0 = some 0 from if_pos (decide_eq_true e)]
    exact ⟨fun _ => e, fun _ => rfl⟩
  · rw [show z_first (fun i => decide ((z_frm k).getD i 0 = c)) (n + 1) 0 = z_first (fun i => decide ((z_frm k).getD i 0 = c)) n 1 from if_neg (fun q => e (of_decide_eq_true q))]
    refine ⟨fun q => ?_, fun q => absurd q e⟩
    cases hf : z_first (fun i => decide ((z_frm k).getD i 0 = c)) n 1 with
    | none => rw [hf] at q; exact absurd q (by decide)
    | some x =>
      rw [hf] at q
      obtain ⟨-, h2, h3⟩ := z_firstP _ _ hf
      have := (nI_eq (a := x) (b := 0) (by omega) (by decide)).mp q
      omega
theorem z_allV {k : Nat} (hk : k < 10) : ((List.range 10).map fun i => Value.ref (1 + i)).getD k .null = .ref (k + 1) := by
  simp [List.getD_eq_getElem?_getD, List.getElem?_map, List.getElem?_range hk, Nat.add_comm]
theorem c_startingWith {c : Nat} (hc : c < 128) (q : Q (.inl (some (z_kv (z_knd c)))) h) : z_W G 4 0 0 25 0 (z_L0 25 [.int (nI c)]) [] h Q := by
  have hA : (31, FieldType.object "ClockParliament$Kind", (List.range 10).map fun i => Value.ref (1 + i)) ∈ z_roa := by decide +kernel
  have loop : ∀ (m i : Nat), i + m = 10 → z_first (fun i => decide ((z_frm i).getD 0 0 = c)) 10 0 = z_first (fun i => decide ((z_frm i).getD 0 0 = c)) m i → z_W G 4 0 0 25 2 [.int (nI c), .int (nI i)] [] h Q := by
    intro m
    induction m with
    | zero =>
      intro i hi he
      refine z_iload_n rfl rfl ?_
      refine z_gets (v := .ref 31) rfl (by decide +kernel) rfl ?_
      refine z_alenR rfl hA ?_
      refine z_icmp_ge rfl (fun c7 => ?_) (fun c7 => absurd (show nI 10 ≤ nI i from (nI_leI (by omega) (by omega)).mpr (by omega)) c7)
      refine z_null rfl ?_
      refine z_aret rfl rfl (Or.inl ⟨_, rfl⟩) (Or.inl rfl) ?_
      unfold z_knd at q; rw [he] at q; exact q
    | succ m ih =>
      intro i hi he
      have iv : vp_in (nI i) ((List.range 10).map fun i => Value.ref (1 + i)).length := vp_in_nI (n := i) (N := 10) (by omega) (by omega)
      have vv : ((List.range 10).map fun i => Value.ref (1 + i)).getD (nI i).toNatClampNeg .null = .ref (i + 1) := by rw [nI_clamp (by omega)]; exact z_allV (by omega)
      refine z_iload_n rfl rfl ?_
      refine z_gets (v := .ref 31) rfl (by decide +kernel) rfl ?_
      refine z_alenR rfl hA ?_
      refine z_icmp_ge rfl (fun c7 => absurd c7 (show ¬ nI 10 ≤ nI i from fun q9 => absurd ((nI_leI (by omega) (by omega)).mp q9) (by omega))) (fun c7 => ?_)
      refine z_gets (v := .ref 31) rfl (by decide +kernel) rfl ?_
      refine z_iload_n rfl rfl ?_
      refine z_aaldR rfl hA rfl iv vv ?_
      refine z_getR rfl (z_rofF (by omega)) ?_
      refine z_iload_n rfl rfl ?_
      refine z_callVR (av := [_]) rfl z_w333 (z_rooS (by omega)) rfl rfl rfl rfl (Nat.le_of_ble_eq_true rfl) (Nat.le_of_ble_eq_true rfl) (Nat.le_of_ble_eq_true rfl) (Nat.le_of_ble_eq_true rfl) (c_sIndexOf (by omega) hc ?_)
      refine z_if_ne rfl (fun c22 => ?_) (fun c22 => ?_)
      · refine z_iinc1 rfl rfl (by decide +kernel) rfl ?_
        exact z_goto rfl (ih (i + 1) (by omega) (he.trans (if_neg (fun e9 => c22 ((z_idx0 (by omega)).mpr (of_decide_eq_true e9))))))
      · refine z_gets (v := .ref 31) rfl (by decide +kernel) rfl ?_
        refine z_iload_n rfl rfl ?_
        refine z_aaldR rfl hA rfl iv vv ?_
        refine z_aret rfl rfl (Or.inl ⟨_, rfl⟩) (Or.inr ⟨_, rfl⟩) ?_
        unfold z_knd at q; rw [he.trans (z_first_hit (decide_eq_true ((z_idx0 (by omega)).mp c22)))] at q; exact q
  refine z_iconst (v := nI 0) rfl (by decide) ?_
  refine z_istore_n rfl (by decide +kernel) rfl ?_
  exact loop 10 0 rfl rfl
end ZSt
