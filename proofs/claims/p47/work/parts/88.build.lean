/-! build -/
theorem z_m3 (v : Int32) : ∃ n : Nat, n < 4 ∧ v &&& 3 = nI n := by
  refine ⟨(v.toBitVec &&& 3#32).toNat, ?_, ?_⟩
  · rw [BitVec.toNat_and]
    exact Nat.lt_of_le_of_lt Nat.and_le_right (by decide)
  · apply Int32.toBitVec_inj.1
    show v.toBitVec &&& (3 : Int32).toBitVec = BitVec.ofNat 32 (v.toBitVec &&& 3#32).toNat
    rw [BitVec.ofNat_toNat, BitVec.setWidth_eq]
    rfl
/-- what stays true of an object to which nothing was written -/
def z_nv (x : z_PV) : Prop := z_wf x.1 ∧ x.2.2.2.2.2.1 = [] ∧ x.2.2.2.1 ≤ 8
theorem z_kpK_le {k : Nat} : z_kpK k ≤ 8 := by unfold z_kpK; split <;> omega
theorem z_nv.chg {x : z_PV} {o : z_OV} (h : z_nv x) (hk : o.1 < 10) : z_nv (z_fChg x o).2.2 := by
  unfold z_fChg
  split
  · exact ⟨h.1, h.2.1, h.2.2⟩
  · rename_i e
    exact ⟨h.1.do hk e, h.2.1, z_kpK_le⟩
theorem z_nv.ac {x : z_PV} {k : Nat} {a b c : Int32} (h : z_nv x) (hk : k < 10) : z_nv (z_ac x k a b c) := h.chg hk
theorem z_nv0 : z_nv z_x0 := ⟨z_wf0, rfl, by decide⟩
def z_m1 (n : Nat) : Int32 := if (1 : Int32) < nI n then nI n else 1
theorem z_m1_ne {n : Nat} (hn : n < 1000) : ¬ z_m1 n = 0 := by
  unfold z_m1
  split
  · rename_i e
    intro e2
    rw [e2] at e
    exact absurd e (by decide)
  · decide
def z_bA (z : Int32) (x : z_PV) (i : Nat) : z_PV := z_ac x 0 (((z >>> (((2 : Int32) + ((3 : Int32) * (nI i))) &&& 31)) &&& (63 : Int32)) - ((z >>> (((2 : Int32) + ((3 : Int32) * (nI i))) &&& 31)) &&& (63 : Int32)) / (60 : Int32) * (60 : Int32)) ((z >>> (((12 : Int32) + ((2 : Int32) * (nI i))) &&& 31)) &&& (3 : Int32)) (0 : Int32)
def z_bB (z : Int32) (x : z_PV) (i : Nat) : z_PV := z_ac x 2 (nI i) ((z >>> (((20 : Int32) + (nI i)) &&& 31)) &&& (1 : Int32)) (0 : Int32)
theorem z_nv.fold {f : z_PV → Nat → z_PV} {x : z_PV} (h : z_nv x) (hf : ∀ y k, z_nv y → z_nv (f y k)) : ∀ n, z_nv (z_fold f x n) := by
  intro n
  induction n with
  | zero => exact h
  | succ n ih => exact hf _ _ ih
theorem z_nv.bA {z : Int32} {x : z_PV} {i : Nat} (h : z_nv x) : z_nv (z_bA z x i) := h.ac (by decide)
theorem z_nv.bB {z : Int32} {x : z_PV} {i : Nat} (h : z_nv x) : z_nv (z_bB z x i) := h.ac (by decide)
section ZBd
variable {G : z_G} {h : z_H} {Q : z_O → z_H → Prop} {p : Nat} {B : Nat → Prop}
theorem c_bA {z : Int32} {x0 : z_PV} {L4 L5 L6 L7 : Value} {A S n : Nat} (hv0 : z_nv x0) (hn : n < 4) (en : z &&& 3 = nI n) (kk : ∀ hh, z_P hh p B (z_fold (z_bA z) x0 (2 + n)) → z_Px p B h hh → z_W G 12 A S 174 61 [.ref 0, .ref p, .int z, .int (nI (2 + n)), L4, L5, L6, L7] [] hh Q) : ∀ (m i : Nat) (hh : z_H), i + m = 2 + n → z_P hh p B (z_fold (z_bA z) x0 i) → z_Px p B h hh → z_W G 12 (A + m) (S + 6 * m) 174 16 [.ref 0, .ref p, .int z, .int (nI i), L4, L5, L6, L7] [] hh Q := by
  intro m
  induction m with
  | zero =>
    intro i hh hi hP1 hX
    obtain rfl : i = 2 + n := by omega
    refine z_iload_n rfl rfl ?_
    refine z_iconst (v := 2) rfl (by decide) ?_
    refine z_iload_n rfl rfl ?_
    refine z_iconst (v := 3) rfl (by decide) ?_
    refine z_iand rfl ?_
    refine z_iadd rfl ?_
    rw [en, show (2 : Int32) + nI n = nI (2 + n) from nI_add 2 n]
    refine z_icmp_ge rfl (fun _ => ?_) (fun u => absurd ((nI_leI (a := 2 + n) (by omega) (by omega)).mpr (Nat.le_refl _)) u)
    exact (kk hh hP1 hX).mono (Nat.le_refl _) (by omega) (by omega)
  | succ m ih =>
    intro i hh hi hP1 hX
    have hv : z_nv (z_fold (z_bA z) x0 i) := hv0.fold (fun _ _ h => h.bA) i
    refine z_iload_n rfl rfl ?_
    refine z_iconst (v := 2) rfl (by decide) ?_
    refine z_iload_n rfl rfl ?_
    refine z_iconst (v := 3) rfl (by decide) ?_
    refine z_iand rfl ?_
    refine z_iadd rfl ?_
    rw [en, show (2 : Int32) + nI n = nI (2 + n) from nI_add 2 n]
    refine z_icmp_ge rfl (fun u => absurd ((nI_leI (a := 2 + n) (by omega) (by omega)).mp u) (by omega)) (fun u => ?_)
    refine z_aload_n rfl rfl ?_
    refine z_iconst (v := (nI 0)) rfl (by decide) ?_
    refine z_iload_n rfl rfl ?_
    refine z_iconst (v := (2 : Int32)) rfl (by decide) ?_
    refine z_iconst (v := (3 : Int32)) rfl (by decide) ?_
    refine z_iload_n rfl rfl ?_
    refine z_imul rfl ?_
    refine z_iadd rfl ?_
    refine z_ishr rfl ?_
    refine z_bipush (v := (63 : Int32)) rfl (by decide) ?_
    refine z_iand rfl ?_
    refine z_bipush (v := (60 : Int32)) rfl (by decide) ?_
    refine z_irem rfl (by decide) ?_
    refine z_iload_n rfl rfl ?_
    refine z_bipush (v := (12 : Int32)) rfl (by decide) ?_
    refine z_iconst (v := (2 : Int32)) rfl (by decide) ?_
    refine z_iload_n rfl rfl ?_
    refine z_imul rfl ?_
    refine z_iadd rfl ?_
    refine z_ishr rfl ?_
    refine z_iconst (v := (3 : Int32)) rfl (by decide) ?_
    refine z_iand rfl ?_
    refine z_iconst (v := (0 : Int32)) rfl (by decide) ?_
    refine z_callSX (av := [_, _, _, _, _]) rfl z_w175 rfl rfl rfl rfl (Nat.le_of_ble_eq_true rfl) (by omega) (by omega) (Nat.le_of_ble_eq_true rfl) (c_act (k := 0) (by decide) (fun e => absurd e (by decide)) (fun e => absurd e (by decide)) (fun _ => rfl) hv.1.1 hP1 fun h2 hP2 hX2 => ?_)
    refine z_pop rfl rfl ?_
    refine z_iinc1 rfl rfl (by decide +kernel) rfl ?_
    refine z_goto rfl ?_
    exact (ih (i + 1) h2 (by omega) hP2 (hX.trans hX2)).mono (Nat.le_refl _) (by omega) (by omega)
theorem c_bB {z : Int32} {x0 : z_PV} {L4 L5 L6 L7 : Value} {A S : Nat} (hv0 : z_nv x0) (kk : ∀ hh, z_P hh p B (z_fold (z_bB z) x0 (3)) → z_Px p B h hh → z_W G 12 A S 174 90 [.ref 0, .ref p, .int z, .int (nI (3)), L4, L5, L6, L7] [] hh Q) : ∀ (m i : Nat) (hh : z_H), i + m = 3 → z_P hh p B (z_fold (z_bB z) x0 i) → z_Px p B h hh → z_W G 12 (A + m) (S + 6 * m) 174 63 [.ref 0, .ref p, .int z, .int (nI i), L4, L5, L6, L7] [] hh Q := by
  intro m
  induction m with
  | zero =>
    intro i hh hi hP1 hX
    obtain rfl : i = 3 := by omega
    refine z_iload_n rfl rfl ?_
    refine z_iconst (v := nI 3) rfl (by decide) ?_
    refine z_icmp_ge rfl (fun _ => ?_) (fun u => absurd ((nI_leI (a := 3) (by omega) (by omega)).mpr (Nat.le_refl _)) u)
    exact (kk hh hP1 hX).mono (Nat.le_refl _) (by omega) (by omega)
  | succ m ih =>
    intro i hh hi hP1 hX
    have hv : z_nv (z_fold (z_bB z) x0 i) := hv0.fold (fun _ _ h => h.bB) i
    refine z_iload_n rfl rfl ?_
    refine z_iconst (v := nI 3) rfl (by decide) ?_
    refine z_icmp_ge rfl (fun u => absurd ((nI_leI (a := 3) (by omega) (by omega)).mp u) (by omega)) (fun u => ?_)
    refine z_aload_n rfl rfl ?_
    refine z_iconst (v := (nI 2)) rfl (by decide) ?_
    refine z_iload_n rfl rfl ?_
    refine z_iload_n rfl rfl ?_
    refine z_bipush (v := (20 : Int32)) rfl (by decide) ?_
    refine z_iload_n rfl rfl ?_
    refine z_iadd rfl ?_
    refine z_ishr rfl ?_
    refine z_iconst (v := (1 : Int32)) rfl (by decide) ?_
    refine z_iand rfl ?_
    refine z_iconst (v := (0 : Int32)) rfl (by decide) ?_
    refine z_callSX (av := [_, _, _, _, _]) rfl z_w175 rfl rfl rfl rfl (Nat.le_of_ble_eq_true rfl) (by omega) (by omega) (Nat.le_of_ble_eq_true rfl) (c_act (k := 2) (by decide) (fun e => absurd e (by decide)) (fun e => absurd e (by decide)) (fun _ => rfl) hv.1.1 hP1 fun h2 hP2 hX2 => ?_)
    refine z_pop rfl rfl ?_
    refine z_iinc1 rfl rfl (by decide +kernel) rfl ?_
    refine z_goto rfl ?_
    exact (ih (i + 1) h2 (by omega) hP2 (hX.trans hX2)).mono (Nat.le_refl _) (by omega) (by omega)
def z_p0 (c cl bl ck : Int32) (x : z_PV) : z_PV := if ((c >>> ((3 : Int32) &&& 31)) &&& (3 : Int32)) ≤ 0 then x else z_ac x 5 ck (((c >>> ((5 : Int32) &&& 31)) &&& (63 : Int32)) - ((c >>> ((5 : Int32) &&& 31)) &&& (63 : Int32)) / (60 : Int32) * (60 : Int32)) ((1 : Int32) + ((c >>> ((11 : Int32) &&& 31)) &&& (3 : Int32)))
theorem z_nv.p0 {c cl bl ck : Int32} {x : z_PV} (h : z_nv x) : z_nv (z_p0 c cl bl ck x) := by
  unfold z_p0
  split
  · exact h
  · exact h.ac (by decide)
theorem c_p0 {z c cl bl ck : Int32} {k A S : Nat} {x : z_PV} (hcl : ¬ cl = 0) (hbl : ¬ bl = 0) (hv : z_nv x) (hP : z_P h p B x) (kk : ∀ h1, z_P h1 p B (z_p0 c cl bl ck x) → z_Px p B h h1 → z_W G 12 A S 174 173 [.ref 0, .ref p, .int z, .int (nI k), .int c, .int cl, .int bl, .int ck] [] h1 Q) : z_W G 12 (A + 1) (S + 6) 174 137 [.ref 0, .ref p, .int z, .int (nI k), .int c, .int cl, .int bl, .int ck] [] h Q := by
  unfold z_p0 at kk
  refine z_iload rfl rfl ?_
  refine z_iconst (v := (3 : Int32)) rfl (by decide) ?_
  refine z_ishr rfl ?_
  refine z_iconst (v := (3 : Int32)) rfl (by decide) ?_
  refine z_iand rfl ?_
  refine z_if_le rfl (fun u => ?_) (fun u => ?_)
  · rw [if_pos u] at kk
    exact (kk h hP (z_Px.refl _ _ _)).mono (Nat.le_refl _) (by omega) (by omega)
  · rw [if_neg u] at kk
    refine z_aload_n rfl rfl ?_
    refine z_iconst (v := (nI 5)) rfl (by decide) ?_
    refine z_iload rfl rfl ?_
    refine z_iload rfl rfl ?_
    refine z_iconst (v := (5 : Int32)) rfl (by decide) ?_
    refine z_ishr rfl ?_
    refine z_bipush (v := (63 : Int32)) rfl (by decide) ?_
    refine z_iand rfl ?_
    refine z_bipush (v := (60 : Int32)) rfl (by decide) ?_
    refine z_irem rfl (by decide) ?_
    refine z_iconst (v := (1 : Int32)) rfl (by decide) ?_
    refine z_iload rfl rfl ?_
    refine z_bipush (v := (11 : Int32)) rfl (by decide) ?_
    refine z_ishr rfl ?_
    refine z_iconst (v := (3 : Int32)) rfl (by decide) ?_
    refine z_iand rfl ?_
    refine z_iadd rfl ?_
    refine z_callSX (av := [_, _, _, _, _]) rfl z_w175 rfl rfl rfl rfl (Nat.le_of_ble_eq_true rfl) (by omega) (by omega) (Nat.le_of_ble_eq_true rfl) (c_act (k := 5) (by decide) (fun e => absurd e (by decide)) (fun e => absurd e (by decide)) (fun e => absurd rfl e) hv.1.1 hP fun h1 hP1 hX1 => ?_)
    refine z_pop rfl rfl ?_
    exact (kk h1 hP1 hX1).mono (Nat.le_refl _) (by omega) (by omega)
def z_p1 (c cl bl ck : Int32) (x : z_PV) : z_PV := if ((c >>> ((13 : Int32) &&& 31)) &&& (3 : Int32)) = 0 then z_ac x 4 (((c >>> ((15 : Int32) &&& 31)) &&& (7 : Int32)) - ((c >>> ((15 : Int32) &&& 31)) &&& (7 : Int32)) / cl * cl) ((1 : Int32) + ((c >>> ((18 : Int32) &&& 31)) &&& (31 : Int32))) (0 : Int32) else x
theorem z_nv.p1 {c cl bl ck : Int32} {x : z_PV} (h : z_nv x) : z_nv (z_p1 c cl bl ck x) := by
  unfold z_p1
  split
  · exact h.ac (by decide)
  · exact h
theorem c_p1 {z c cl bl ck : Int32} {k A S : Nat} {x : z_PV} (hcl : ¬ cl = 0) (hbl : ¬ bl = 0) (hv : z_nv x) (hP : z_P h p B x) (kk : ∀ h1, z_P h1 p B (z_p1 c cl bl ck x) → z_Px p B h h1 → z_W G 12 A S 174 211 [.ref 0, .ref p, .int z, .int (nI k), .int c, .int cl, .int bl, .int ck] [] h1 Q) : z_W G 12 (A + 1) (S + 6) 174 173 [.ref 0, .ref p, .int z, .int (nI k), .int c, .int cl, .int bl, .int ck] [] h Q := by
  unfold z_p1 at kk
  refine z_iload rfl rfl ?_
  refine z_bipush (v := (13 : Int32)) rfl (by decide) ?_
  refine z_ishr rfl ?_
  refine z_iconst (v := (3 : Int32)) rfl (by decide) ?_
  refine z_iand rfl ?_
  refine z_if_ne rfl (fun u => ?_) (fun u => ?_)
  · rw [if_neg u] at kk
    exact (kk h hP (z_Px.refl _ _ _)).mono (Nat.le_refl _) (by omega) (by omega)
  · rw [if_pos u] at kk
    refine z_aload_n rfl rfl ?_
    refine z_iconst (v := (nI 4)) rfl (by decide) ?_
    refine z_iload rfl rfl ?_
    refine z_bipush (v := (15 : Int32)) rfl (by decide) ?_
    refine z_ishr rfl ?_
    refine z_bipush (v := (7 : Int32)) rfl (by decide) ?_
    refine z_iand rfl ?_
    refine z_iload rfl rfl ?_
    refine z_irem rfl hcl ?_
    refine z_iconst (v := (1 : Int32)) rfl (by decide) ?_
    refine z_iload rfl rfl ?_
    refine z_bipush (v := (18 : Int32)) rfl (by decide) ?_
    refine z_ishr rfl ?_
    refine z_bipush (v := (31 : Int32)) rfl (by decide) ?_
    refine z_iand rfl ?_
    refine z_iadd rfl ?_
    refine z_iconst (v := (0 : Int32)) rfl (by decide) ?_
    refine z_callSX (av := [_, _, _, _, _]) rfl z_w175 rfl rfl rfl rfl (Nat.le_of_ble_eq_true rfl) (by omega) (by omega) (Nat.le_of_ble_eq_true rfl) (c_act (k := 4) (by decide) (fun e => absurd e (by decide)) (fun e => absurd e (by decide)) (fun _ => rfl) hv.1.1 hP fun h1 hP1 hX1 => ?_)
    refine z_pop rfl rfl ?_
    exact (kk h1 hP1 hX1).mono (Nat.le_refl _) (by omega) (by omega)
def z_p2 (c cl bl ck : Int32) (x : z_PV) : z_PV := if ((c >>> ((13 : Int32) &&& 31)) &&& (3 : Int32)) = (1 : Int32) then z_ac x 6 (((c >>> ((15 : Int32) &&& 31)) &&& (15 : Int32)) - ((c >>> ((15 : Int32) &&& 31)) &&& (15 : Int32)) / bl * bl) ((1 : Int32) + ((c >>> ((19 : Int32) &&& 31)) &&& (3 : Int32))) (0 : Int32) else x
theorem z_nv.p2 {c cl bl ck : Int32} {x : z_PV} (h : z_nv x) : z_nv (z_p2 c cl bl ck x) := by
  unfold z_p2
  split
  · exact h.ac (by decide)
  · exact h
theorem c_p2 {z c cl bl ck : Int32} {k A S : Nat} {x : z_PV} (hcl : ¬ cl = 0) (hbl : ¬ bl = 0) (hv : z_nv x) (hP : z_P h p B x) (kk : ∀ h1, z_P h1 p B (z_p2 c cl bl ck x) → z_Px p B h h1 → z_W G 12 A S 174 250 [.ref 0, .ref p, .int z, .int (nI k), .int c, .int cl, .int bl, .int ck] [] h1 Q) : z_W G 12 (A + 1) (S + 6) 174 211 [.ref 0, .ref p, .int z, .int (nI k), .int c, .int cl, .int bl, .int ck] [] h Q := by
  unfold z_p2 at kk
  refine z_iload rfl rfl ?_
  refine z_bipush (v := (13 : Int32)) rfl (by decide) ?_
  refine z_ishr rfl ?_
  refine z_iconst (v := (3 : Int32)) rfl (by decide) ?_
  refine z_iand rfl ?_
  refine z_iconst (v := (1 : Int32)) rfl (by decide) ?_
  refine z_icmp_ne rfl (fun u => ?_) (fun u => ?_)
  · rw [if_neg u] at kk
    exact (kk h hP (z_Px.refl _ _ _)).mono (Nat.le_refl _) (by omega) (by omega)
  · rw [if_pos u] at kk
    refine z_aload_n rfl rfl ?_
    refine z_bipush (v := (nI 6)) rfl (by decide) ?_
    refine z_iload rfl rfl ?_
    refine z_bipush (v := (15 : Int32)) rfl (by decide) ?_
    refine z_ishr rfl ?_
    refine z_bipush (v := (15 : Int32)) rfl (by decide) ?_
    refine z_iand rfl ?_
    refine z_iload rfl rfl ?_
    refine z_irem rfl hbl ?_
    refine z_iconst (v := (1 : Int32)) rfl (by decide) ?_
    refine z_iload rfl rfl ?_
    refine z_bipush (v := (19 : Int32)) rfl (by decide) ?_
    refine z_ishr rfl ?_
    refine z_iconst (v := (3 : Int32)) rfl (by decide) ?_
    refine z_iand rfl ?_
    refine z_iadd rfl ?_
    refine z_iconst (v := (0 : Int32)) rfl (by decide) ?_
    refine z_callSX (av := [_, _, _, _, _]) rfl z_w175 rfl rfl rfl rfl (Nat.le_of_ble_eq_true rfl) (by omega) (by omega) (Nat.le_of_ble_eq_true rfl) (c_act (k := 6) (by decide) (fun e => absurd e (by decide)) (fun e => absurd e (by decide)) (fun _ => rfl) hv.1.1 hP fun h1 hP1 hX1 => ?_)
    refine z_pop rfl rfl ?_
    exact (kk h1 hP1 hX1).mono (Nat.le_refl _) (by omega) (by omega)
def z_p3 (c cl bl ck : Int32) (x : z_PV) : z_PV := if ((c >>> ((13 : Int32) &&& 31)) &&& (7 : Int32)) = (2 : Int32) then z_ac x 8 (0 : Int32) (0 : Int32) (0 : Int32) else x
theorem z_nv.p3 {c cl bl ck : Int32} {x : z_PV} (h : z_nv x) : z_nv (z_p3 c cl bl ck x) := by
  unfold z_p3
  split
  · exact h.ac (by decide)
  · exact h
theorem c_p3 {z c cl bl ck : Int32} {k A S : Nat} {x : z_PV} (hcl : ¬ cl = 0) (hbl : ¬ bl = 0) (hv : z_nv x) (hP : z_P h p B x) (kk : ∀ h1, z_P h1 p B (z_p3 c cl bl ck x) → z_Px p B h h1 → z_W G 12 A S 174 272 [.ref 0, .ref p, .int z, .int (nI k), .int c, .int cl, .int bl, .int ck] [] h1 Q) : z_W G 12 (A + 1) (S + 6) 174 250 [.ref 0, .ref p, .int z, .int (nI k), .int c, .int cl, .int bl, .int ck] [] h Q := by
  unfold z_p3 at kk
  refine z_iload rfl rfl ?_
  refine z_bipush (v := (13 : Int32)) rfl (by decide) ?_
  refine z_ishr rfl ?_
  refine z_bipush (v := (7 : Int32)) rfl (by decide) ?_
  refine z_iand rfl ?_
  refine z_iconst (v := (2 : Int32)) rfl (by decide) ?_
  refine z_icmp_ne rfl (fun u => ?_) (fun u => ?_)
  · rw [if_neg u] at kk
    exact (kk h hP (z_Px.refl _ _ _)).mono (Nat.le_refl _) (by omega) (by omega)
  · rw [if_pos u] at kk
    refine z_aload_n rfl rfl ?_
    refine z_bipush (v := (nI 8)) rfl (by decide) ?_
    refine z_iconst (v := (0 : Int32)) rfl (by decide) ?_
    refine z_iconst (v := (0 : Int32)) rfl (by decide) ?_
    refine z_iconst (v := (0 : Int32)) rfl (by decide) ?_
    refine z_callSX (av := [_, _, _, _, _]) rfl z_w175 rfl rfl rfl rfl (Nat.le_of_ble_eq_true rfl) (by omega) (by omega) (Nat.le_of_ble_eq_true rfl) (c_act (k := 8) (by decide) (fun _ => rfl) (fun _ => rfl) (fun _ => rfl) hv.1.1 hP fun h1 hP1 hX1 => ?_)
    refine z_pop rfl rfl ?_
    exact (kk h1 hP1 hX1).mono (Nat.le_refl _) (by omega) (by omega)
def z_p4 (c cl bl ck : Int32) (x : z_PV) : z_PV := if ((c >>> ((13 : Int32) &&& 31)) &&& (7 : Int32)) = (3 : Int32) then z_ac x 9 ((1 : Int32) + ((c >>> ((16 : Int32) &&& 31)) &&& (7 : Int32))) (0 : Int32) (0 : Int32) else x
theorem z_nv.p4 {c cl bl ck : Int32} {x : z_PV} (h : z_nv x) : z_nv (z_p4 c cl bl ck x) := by
  unfold z_p4
  split
  · exact h.ac (by decide)
  · exact h
theorem c_p4 {z c cl bl ck : Int32} {k A S : Nat} {x : z_PV} (hcl : ¬ cl = 0) (hbl : ¬ bl = 0) (hv : z_nv x) (hP : z_P h p B x) (kk : ∀ h1, z_P h1 p B (z_p4 c cl bl ck x) → z_Px p B h h1 → z_W G 12 A S 174 303 [.ref 0, .ref p, .int z, .int (nI k), .int c, .int cl, .int bl, .int ck] [] h1 Q) : z_W G 12 (A + 1) (S + 6) 174 272 [.ref 0, .ref p, .int z, .int (nI k), .int c, .int cl, .int bl, .int ck] [] h Q := by
  unfold z_p4 at kk
  refine z_iload rfl rfl ?_
  refine z_bipush (v := (13 : Int32)) rfl (by decide) ?_
  refine z_ishr rfl ?_
  refine z_bipush (v := (7 : Int32)) rfl (by decide) ?_
  refine z_iand rfl ?_
  refine z_iconst (v := (3 : Int32)) rfl (by decide) ?_
  refine z_icmp_ne rfl (fun u => ?_) (fun u => ?_)
  · rw [if_neg u] at kk
    exact (kk h hP (z_Px.refl _ _ _)).mono (Nat.le_refl _) (by omega) (by omega)
  · rw [if_pos u] at kk
    refine z_aload_n rfl rfl ?_
    refine z_bipush (v := (nI 9)) rfl (by decide) ?_
    refine z_iconst (v := (1 : Int32)) rfl (by decide) ?_
    refine z_iload rfl rfl ?_
    refine z_bipush (v := (16 : Int32)) rfl (by decide) ?_
    refine z_ishr rfl ?_
    refine z_bipush (v := (7 : Int32)) rfl (by decide) ?_
    refine z_iand rfl ?_
    refine z_iadd rfl ?_
    refine z_iconst (v := (0 : Int32)) rfl (by decide) ?_
    refine z_iconst (v := (0 : Int32)) rfl (by decide) ?_
    refine z_callSX (av := [_, _, _, _, _]) rfl z_w175 rfl rfl rfl rfl (Nat.le_of_ble_eq_true rfl) (by omega) (by omega) (Nat.le_of_ble_eq_true rfl) (c_act (k := 9) (by decide) (fun e => absurd e (by decide)) (fun _ => rfl) (fun _ => rfl) hv.1.1 hP fun h1 hP1 hX1 => ?_)
    refine z_pop rfl rfl ?_
    exact (kk h1 hP1 hX1).mono (Nat.le_refl _) (by omega) (by omega)
def z_p5 (c cl bl ck : Int32) (x : z_PV) : z_PV := if ((c >>> ((13 : Int32) &&& 31)) &&& (7 : Int32)) = (6 : Int32) then z_ac x 3 (((c >>> ((16 : Int32) &&& 31)) &&& (3 : Int32)) - ((c >>> ((16 : Int32) &&& 31)) &&& (3 : Int32)) / (3 : Int32) * (3 : Int32)) (((c >>> ((18 : Int32) &&& 31)) &&& (7 : Int32)) - ((c >>> ((18 : Int32) &&& 31)) &&& (7 : Int32)) / cl * cl) (0 : Int32) else x
theorem z_nv.p5 {c cl bl ck : Int32} {x : z_PV} (h : z_nv x) : z_nv (z_p5 c cl bl ck x) := by
  unfold z_p5
  split
  · exact h.ac (by decide)
  · exact h
theorem c_p5 {z c cl bl ck : Int32} {k A S : Nat} {x : z_PV} (hcl : ¬ cl = 0) (hbl : ¬ bl = 0) (hv : z_nv x) (hP : z_P h p B x) (kk : ∀ h1, z_P h1 p B (z_p5 c cl bl ck x) → z_Px p B h h1 → z_W G 12 A S 174 343 [.ref 0, .ref p, .int z, .int (nI k), .int c, .int cl, .int bl, .int ck] [] h1 Q) : z_W G 12 (A + 1) (S + 6) 174 303 [.ref 0, .ref p, .int z, .int (nI k), .int c, .int cl, .int bl, .int ck] [] h Q := by
  unfold z_p5 at kk
  refine z_iload rfl rfl ?_
  refine z_bipush (v := (13 : Int32)) rfl (by decide) ?_
  refine z_ishr rfl ?_
  refine z_bipush (v := (7 : Int32)) rfl (by decide) ?_
  refine z_iand rfl ?_
  refine z_bipush (v := (6 : Int32)) rfl (by decide) ?_
  refine z_icmp_ne rfl (fun u => ?_) (fun u => ?_)
  · rw [if_neg u] at kk
    exact (kk h hP (z_Px.refl _ _ _)).mono (Nat.le_refl _) (by omega) (by omega)
  · rw [if_pos u] at kk
    refine z_aload_n rfl rfl ?_
    refine z_iconst (v := (nI 3)) rfl (by decide) ?_
    refine z_iload rfl rfl ?_
    refine z_bipush (v := (16 : Int32)) rfl (by decide) ?_
    refine z_ishr rfl ?_
    refine z_iconst (v := (3 : Int32)) rfl (by decide) ?_
    refine z_iand rfl ?_
    refine z_iconst (v := (3 : Int32)) rfl (by decide) ?_
    refine z_irem rfl (by decide) ?_
    refine z_iload rfl rfl ?_
    refine z_bipush (v := (18 : Int32)) rfl (by decide) ?_
    refine z_ishr rfl ?_
    refine z_bipush (v := (7 : Int32)) rfl (by decide) ?_
    refine z_iand rfl ?_
    refine z_iload rfl rfl ?_
    refine z_irem rfl hcl ?_
    refine z_iconst (v := (0 : Int32)) rfl (by decide) ?_
    refine z_callSX (av := [_, _, _, _, _]) rfl z_w175 rfl rfl rfl rfl (Nat.le_of_ble_eq_true rfl) (by omega) (by omega) (Nat.le_of_ble_eq_true rfl) (c_act (k := 3) (by decide) (fun e => absurd e (by decide)) (fun e => absurd e (by decide)) (fun _ => rfl) hv.1.1 hP fun h1 hP1 hX1 => ?_)
    refine z_pop rfl rfl ?_
    exact (kk h1 hP1 hX1).mono (Nat.le_refl _) (by omega) (by omega)
def z_p6 (c cl bl ck : Int32) (x : z_PV) : z_PV := if ((c >>> ((13 : Int32) &&& 31)) &&& (15 : Int32)) = (7 : Int32) then z_ac x 7 (((c >>> ((17 : Int32) &&& 31)) &&& (15 : Int32)) - ((c >>> ((17 : Int32) &&& 31)) &&& (15 : Int32)) / bl * bl) (0 : Int32) (0 : Int32) else x
theorem z_nv.p6 {c cl bl ck : Int32} {x : z_PV} (h : z_nv x) : z_nv (z_p6 c cl bl ck x) := by
  unfold z_p6
  split
  · exact h.ac (by decide)
  · exact h
theorem c_p6 {z c cl bl ck : Int32} {k A S : Nat} {x : z_PV} (hcl : ¬ cl = 0) (hbl : ¬ bl = 0) (hv : z_nv x) (hP : z_P h p B x) (kk : ∀ h1, z_P h1 p B (z_p6 c cl bl ck x) → z_Px p B h h1 → z_W G 12 A S 174 376 [.ref 0, .ref p, .int z, .int (nI k), .int c, .int cl, .int bl, .int ck] [] h1 Q) : z_W G 12 (A + 1) (S + 6) 174 343 [.ref 0, .ref p, .int z, .int (nI k), .int c, .int cl, .int bl, .int ck] [] h Q := by
  unfold z_p6 at kk
  refine z_iload rfl rfl ?_
  refine z_bipush (v := (13 : Int32)) rfl (by decide) ?_
  refine z_ishr rfl ?_
  refine z_bipush (v := (15 : Int32)) rfl (by decide) ?_
  refine z_iand rfl ?_
  refine z_bipush (v := (7 : Int32)) rfl (by decide) ?_
  refine z_icmp_ne rfl (fun u => ?_) (fun u => ?_)
  · rw [if_neg u] at kk
    exact (kk h hP (z_Px.refl _ _ _)).mono (Nat.le_refl _) (by omega) (by omega)
  · rw [if_pos u] at kk
    refine z_aload_n rfl rfl ?_
    refine z_bipush (v := (nI 7)) rfl (by decide) ?_
    refine z_iload rfl rfl ?_
    refine z_bipush (v := (17 : Int32)) rfl (by decide) ?_
    refine z_ishr rfl ?_
    refine z_bipush (v := (15 : Int32)) rfl (by decide) ?_
    refine z_iand rfl ?_
    refine z_iload rfl rfl ?_
    refine z_irem rfl hbl ?_
    refine z_iconst (v := (0 : Int32)) rfl (by decide) ?_
    refine z_iconst (v := (0 : Int32)) rfl (by decide) ?_
    refine z_callSX (av := [_, _, _, _, _]) rfl z_w175 rfl rfl rfl rfl (Nat.le_of_ble_eq_true rfl) (by omega) (by omega) (Nat.le_of_ble_eq_true rfl) (c_act (k := 7) (by decide) (fun e => absurd e (by decide)) (fun _ => rfl) (fun _ => rfl) hv.1.1 hP fun h1 hP1 hX1 => ?_)
    refine z_pop rfl rfl ?_
    exact (kk h1 hP1 hX1).mono (Nat.le_refl _) (by omega) (by omega)
def z_p7 (c cl bl ck : Int32) (x : z_PV) : z_PV := if ((c >>> ((13 : Int32) &&& 31)) &&& (31 : Int32)) = (15 : Int32) then z_ac x 1 (((c >>> ((18 : Int32) &&& 31)) &&& (7 : Int32)) - ((c >>> ((18 : Int32) &&& 31)) &&& (7 : Int32)) / cl * cl) (0 : Int32) (0 : Int32) else x
theorem z_nv.p7 {c cl bl ck : Int32} {x : z_PV} (h : z_nv x) : z_nv (z_p7 c cl bl ck x) := by
  unfold z_p7
  split
  · exact h.ac (by decide)
  · exact h
theorem c_p7 {z c cl bl ck : Int32} {k A S : Nat} {x : z_PV} (hcl : ¬ cl = 0) (hbl : ¬ bl = 0) (hv : z_nv x) (hP : z_P h p B x) (kk : ∀ h1, z_P h1 p B (z_p7 c cl bl ck x) → z_Px p B h h1 → z_W G 12 A S 174 408 [.ref 0, .ref p, .int z, .int (nI k), .int c, .int cl, .int bl, .int ck] [] h1 Q) : z_W G 12 (A + 1) (S + 6) 174 376 [.ref 0, .ref p, .int z, .int (nI k), .int c, .int cl, .int bl, .int ck] [] h Q := by
  unfold z_p7 at kk
  refine z_iload rfl rfl ?_
  refine z_bipush (v := (13 : Int32)) rfl (by decide) ?_
  refine z_ishr rfl ?_
  refine z_bipush (v := (31 : Int32)) rfl (by decide) ?_
  refine z_iand rfl ?_
  refine z_bipush (v := (15 : Int32)) rfl (by decide) ?_
  refine z_icmp_ne rfl (fun u => ?_) (fun u => ?_)
  · rw [if_neg u] at kk
    exact (kk h hP (z_Px.refl _ _ _)).mono (Nat.le_refl _) (by omega) (by omega)
  · rw [if_pos u] at kk
    refine z_aload_n rfl rfl ?_
    refine z_iconst (v := (nI 1)) rfl (by decide) ?_
    refine z_iload rfl rfl ?_
    refine z_bipush (v := (18 : Int32)) rfl (by decide) ?_
    refine z_ishr rfl ?_
    refine z_bipush (v := (7 : Int32)) rfl (by decide) ?_
    refine z_iand rfl ?_
    refine z_iload rfl rfl ?_
    refine z_irem rfl hcl ?_
    refine z_iconst (v := (0 : Int32)) rfl (by decide) ?_
    refine z_iconst (v := (0 : Int32)) rfl (by decide) ?_
    refine z_callSX (av := [_, _, _, _, _]) rfl z_w175 rfl rfl rfl rfl (Nat.le_of_ble_eq_true rfl) (by omega) (by omega) (Nat.le_of_ble_eq_true rfl) (c_act (k := 1) (by decide) (fun e => absurd e (by decide)) (fun _ => rfl) (fun _ => rfl) hv.1.1 hP fun h1 hP1 hX1 => ?_)
    refine z_pop rfl rfl ?_
    exact (kk h1 hP1 hX1).mono (Nat.le_refl _) (by omega) (by omega)
def z_p8 (c cl bl ck : Int32) (x : z_PV) : z_PV := if ((c >>> ((23 : Int32) &&& 31)) &&& (7 : Int32)) = 0 then z_ac x 0 (((c >>> ((5 : Int32) &&& 31)) &&& (63 : Int32)) - ((c >>> ((5 : Int32) &&& 31)) &&& (63 : Int32)) / (60 : Int32) * (60 : Int32)) ((c >>> ((26 : Int32) &&& 31)) &&& (3 : Int32)) (0 : Int32) else x
theorem z_nv.p8 {c cl bl ck : Int32} {x : z_PV} (h : z_nv x) : z_nv (z_p8 c cl bl ck x) := by
  unfold z_p8
  split
  · exact h.ac (by decide)
  · exact h
theorem c_p8 {z c cl bl ck : Int32} {k A S : Nat} {x : z_PV} (hcl : ¬ cl = 0) (hbl : ¬ bl = 0) (hv : z_nv x) (hP : z_P h p B x) (kk : ∀ h1, z_P h1 p B (z_p8 c cl bl ck x) → z_Px p B h h1 → z_W G 12 A S 174 443 [.ref 0, .ref p, .int z, .int (nI k), .int c, .int cl, .int bl, .int ck] [] h1 Q) : z_W G 12 (A + 1) (S + 6) 174 408 [.ref 0, .ref p, .int z, .int (nI k), .int c, .int cl, .int bl, .int ck] [] h Q := by
  unfold z_p8 at kk
  refine z_iload rfl rfl ?_
  refine z_bipush (v := (23 : Int32)) rfl (by decide) ?_
  refine z_ishr rfl ?_
  refine z_bipush (v := (7 : Int32)) rfl (by decide) ?_
  refine z_iand rfl ?_
  refine z_if_ne rfl (fun u => ?_) (fun u => ?_)
  · rw [if_neg u] at kk
    exact (kk h hP (z_Px.refl _ _ _)).mono (Nat.le_refl _) (by omega) (by omega)
  · rw [if_pos u] at kk
    refine z_aload_n rfl rfl ?_
    refine z_iconst (v := (nI 0)) rfl (by decide) ?_
    refine z_iload rfl rfl ?_
    refine z_iconst (v := (5 : Int32)) rfl (by decide) ?_
    refine z_ishr rfl ?_
    refine z_bipush (v := (63 : Int32)) rfl (by decide) ?_
    refine z_iand rfl ?_
    refine z_bipush (v := (60 : Int32)) rfl (by decide) ?_
    refine z_irem rfl (by decide) ?_
    refine z_iload rfl rfl ?_
    refine z_bipush (v := (26 : Int32)) rfl (by decide) ?_
    refine z_ishr rfl ?_
    refine z_iconst (v := (3 : Int32)) rfl (by decide) ?_
    refine z_iand rfl ?_
    refine z_iconst (v := (0 : Int32)) rfl (by decide) ?_
    refine z_callSX (av := [_, _, _, _, _]) rfl z_w175 rfl rfl rfl rfl (Nat.le_of_ble_eq_true rfl) (by omega) (by omega) (Nat.le_of_ble_eq_true rfl) (c_act (k := 0) (by decide) (fun e => absurd e (by decide)) (fun e => absurd e (by decide)) (fun _ => rfl) hv.1.1 hP fun h1 hP1 hX1 => ?_)
    refine z_pop rfl rfl ?_
    exact (kk h1 hP1 hX1).mono (Nat.le_refl _) (by omega) (by omega)
def z_p9 (c cl bl ck : Int32) (x : z_PV) : z_PV := if ((c >>> ((23 : Int32) &&& 31)) &&& (7 : Int32)) = (1 : Int32) then z_ac x 9 ((1 : Int32) + ((c >>> ((26 : Int32) &&& 31)) &&& (3 : Int32))) (0 : Int32) (0 : Int32) else x
theorem z_nv.p9 {c cl bl ck : Int32} {x : z_PV} (h : z_nv x) : z_nv (z_p9 c cl bl ck x) := by
  unfold z_p9
  split
  · exact h.ac (by decide)
  · exact h
theorem c_p9 {z c cl bl ck : Int32} {k A S : Nat} {x : z_PV} (hcl : ¬ cl = 0) (hbl : ¬ bl = 0) (hv : z_nv x) (hP : z_P h p B x) (kk : ∀ h1, z_P h1 p B (z_p9 c cl bl ck x) → z_Px p B h h1 → z_W G 12 A S 174 473 [.ref 0, .ref p, .int z, .int (nI k), .int c, .int cl, .int bl, .int ck] [] h1 Q) : z_W G 12 (A + 1) (S + 6) 174 443 [.ref 0, .ref p, .int z, .int (nI k), .int c, .int cl, .int bl, .int ck] [] h Q := by
  unfold z_p9 at kk
  refine z_iload rfl rfl ?_
  refine z_bipush (v := (23 : Int32)) rfl (by decide) ?_
  refine z_ishr rfl ?_
  refine z_bipush (v := (7 : Int32)) rfl (by decide) ?_
  refine z_iand rfl ?_
  refine z_iconst (v := (1 : Int32)) rfl (by decide) ?_
  refine z_icmp_ne rfl (fun u => ?_) (fun u => ?_)
  · rw [if_neg u] at kk
    exact (kk h hP (z_Px.refl _ _ _)).mono (Nat.le_refl _) (by omega) (by omega)
  · rw [if_pos u] at kk
    refine z_aload_n rfl rfl ?_
    refine z_bipush (v := (nI 9)) rfl (by decide) ?_
    refine z_iconst (v := (1 : Int32)) rfl (by decide) ?_
    refine z_iload rfl rfl ?_
    refine z_bipush (v := (26 : Int32)) rfl (by decide) ?_
    refine z_ishr rfl ?_
    refine z_iconst (v := (3 : Int32)) rfl (by decide) ?_
    refine z_iand rfl ?_
    refine z_iadd rfl ?_
    refine z_iconst (v := (0 : Int32)) rfl (by decide) ?_
    refine z_iconst (v := (0 : Int32)) rfl (by decide) ?_
    refine z_callSX (av := [_, _, _, _, _]) rfl z_w175 rfl rfl rfl rfl (Nat.le_of_ble_eq_true rfl) (by omega) (by omega) (Nat.le_of_ble_eq_true rfl) (c_act (k := 9) (by decide) (fun e => absurd e (by decide)) (fun _ => rfl) (fun _ => rfl) hv.1.1 hP fun h1 hP1 hX1 => ?_)
    refine z_pop rfl rfl ?_
    exact (kk h1 hP1 hX1).mono (Nat.le_refl _) (by omega) (by omega)
/-- one turn of the third loop -/
def z_ckC (c cl : Int32) : Int32 := (c &&& 7) - (c &&& 7) / cl * cl
def z_bC9 (c cl bl ck : Int32) (x : z_PV) : z_PV := z_p9 c cl bl ck (z_p8 c cl bl ck (z_p7 c cl bl ck (z_p6 c cl bl ck (z_p5 c cl bl ck (z_p4 c cl bl ck (z_p3 c cl bl ck (z_p2 c cl bl ck (z_p1 c cl bl ck (z_p0 c cl bl ck x)))))))))
def z_bC (c : Int32) (x : z_PV) : z_PV := z_bC9 c (z_m1 (x.1.1.1 0)) (z_m1 (x.1.2.1.1 0)) (z_ckC c (z_m1 (x.1.1.1 0))) x
theorem z_nv.bC9 {c cl bl ck : Int32} {x : z_PV} (h : z_nv x) : z_nv (z_bC9 c cl bl ck x) := by
  unfold z_bC9
  exact h.p0.p1.p2.p3.p4.p5.p6.p7.p8.p9
theorem z_nv.bC {c : Int32} {x : z_PV} (h : z_nv x) : z_nv (z_bC c x) := h.bC9
theorem c_turnC {z c : Int32} {k A S : Nat} {x : z_PV} {L7 : Value} {L5 L6 : Value} (hv : z_nv x) (hP : z_P h p B x) (kk : ∀ h1 L5 L6 L7, z_P h1 p B (z_bC c x) → z_Px p B h h1 → z_W G 12 A S 174 473 [.ref 0, .ref p, .int z, .int (nI k), .int c, L5, L6, L7] [] h1 Q) : z_W G 12 (A + 18) (S + 108) 174 105 [.ref 0, .ref p, .int z, .int (nI k), .int c, L5, L6, L7] [] h Q := by
  have n1 : x.1.1.1 0 ≤ 8 := hv.1.nc
  have n2 : x.1.2.1.1 0 ≤ 10 := hv.1.nb
  have hcl := z_m1_ne (n := x.1.1.1 0) (by omega)
  have hbl := z_m1_ne (n := x.1.2.1.1 0) (by omega)
  refine z_iconst (v := 1) rfl (by decide) ?_
  refine z_aload_n rfl rfl ?_
  refine z_iconst (v := nI 0) rfl (by decide) ?_
  refine z_callV (av := [_]) rfl z_w153 hP.cell.choose_spec rfl rfl rfl rfl rfl (Nat.le_of_ble_eq_true rfl) (by omega) (by omega) (Nat.le_of_ble_eq_true rfl) (cP_account hP fun ha hPa hXa => ?_)
  refine z_kI rfl (v := nI (x.1.1.1 0)) rfl ?_
  refine z_callS (av := [_, _]) rfl z_w319 rfl rfl rfl rfl (Nat.le_of_ble_eq_true rfl) (Nat.zero_le _) (Nat.zero_le _) (Nat.le_of_ble_eq_true rfl) (c_max ?_)
  refine z_istore rfl (by decide +kernel) rfl ?_
  refine z_iconst (v := 1) rfl (by decide) ?_
  refine z_aload_n rfl rfl ?_
  refine z_iconst (v := nI 2) rfl (by decide) ?_
  refine z_callV (av := [_]) rfl z_w153 hPa.cell.choose_spec rfl rfl rfl rfl rfl (Nat.le_of_ble_eq_true rfl) (by omega) (by omega) (Nat.le_of_ble_eq_true rfl) (cP_account hPa fun hb hPb hXb => ?_)
  refine z_kI rfl (v := nI (x.1.2.1.1 0)) rfl ?_
  refine z_callS (av := [_, _]) rfl z_w319 rfl rfl rfl rfl (Nat.le_of_ble_eq_true rfl) (Nat.zero_le _) (Nat.zero_le _) (Nat.le_of_ble_eq_true rfl) (c_max ?_)
  refine z_istore rfl (by decide +kernel) rfl ?_
  refine z_iload rfl rfl ?_
  refine z_bipush (v := 7) rfl (by decide) ?_
  refine z_iand rfl ?_
  refine z_iload rfl rfl ?_
  refine z_irem rfl hcl ?_
  refine z_istore rfl (by decide +kernel) rfl ?_
  have hX0 := hXa.trans hXb
  show z_W G 12 (A + 18 - 4 - 0 - 4 - 0) (S + 108 - 24 - 0 - 24 - 0) 174 137 [.ref 0, .ref p, .int z, .int (nI k), .int c, .int (z_m1 (x.1.1.1 0)), .int (z_m1 (x.1.2.1.1 0)), .int (z_ckC c (z_m1 (x.1.1.1 0)))] [] hb Q
  unfold z_bC at kk
  generalize z_ckC c (z_m1 (x.1.1.1 0)) = ck at kk ⊢
  generalize z_m1 (x.1.1.1 0) = cl at kk hcl ⊢
  generalize z_m1 (x.1.2.1.1 0) = bl at kk hbl ⊢
  refine z_W.mono (mc := A + 10) (ms := S + 60) ?_ (Nat.le_refl _) (by omega) (by omega)
  refine c_p0 (A := A + 9) (S := S + 54) hcl hbl hv hPb (fun g0 q0 y0 => ?_)
  refine c_p1 (A := A + 8) (S := S + 48) hcl hbl hv.p0 q0 (fun g1 q1 y1 => ?_)
  refine c_p2 (A := A + 7) (S := S + 42) hcl hbl hv.p0.p1 q1 (fun g2 q2 y2 => ?_)
  refine c_p3 (A := A + 6) (S := S + 36) hcl hbl hv.p0.p1.p2 q2 (fun g3 q3 y3 => ?_)
  refine c_p4 (A := A + 5) (S := S + 30) hcl hbl hv.p0.p1.p2.p3 q3 (fun g4 q4 y4 => ?_)
  refine c_p5 (A := A + 4) (S := S + 24) hcl hbl hv.p0.p1.p2.p3.p4 q4 (fun g5 q5 y5 => ?_)
  refine c_p6 (A := A + 3) (S := S + 18) hcl hbl hv.p0.p1.p2.p3.p4.p5 q5 (fun g6 q6 y6 => ?_)
  refine c_p7 (A := A + 2) (S := S + 12) hcl hbl hv.p0.p1.p2.p3.p4.p5.p6 q6 (fun g7 q7 y7 => ?_)
  refine c_p8 (A := A + 1) (S := S + 6) hcl hbl hv.p0.p1.p2.p3.p4.p5.p6.p7 q7 (fun g8 q8 y8 => ?_)
  refine c_p9 (A := A + 0) (S := S + 0) hcl hbl hv.p0.p1.p2.p3.p4.p5.p6.p7.p8 q8 (fun g9 q9 y9 => ?_)
  exact kk g9 _ _ _ q9 (((((((((((hX0).trans y0).trans y1).trans y2).trans y3).trans y4).trans y5).trans y6).trans y7).trans y8).trans y9)
/-- what build gives -/
def z_bld (G : z_G) : z_PV := z_fold (fun x k => z_bC (z_sat G (k + 1)) x) (z_fold (z_bB (z_sat G 0)) (z_fold (z_bA (z_sat G 0)) z_x0 (z_ix (2 + (z_sat G 0 &&& 3)))) 3) 12
theorem z_nv.bld {G : z_G} : z_nv (z_bld G) := ((z_nv0.fold (fun _ _ h => h.bA) _).fold (fun _ _ h => h.bB) _).fold (fun _ _ h => h.bC) _
theorem c_bC {z : Int32} {x0 : z_PV} {A S : Nat} (hN : G.2.2.2.2.2.1 ≤ 260) (hv0 : z_nv x0) (kk : ∀ hh L4 L5 L6 L7, z_P hh p B (z_fold (fun x k => z_bC (z_sat G (k + 1)) x) x0 12) → z_Px p B h hh → z_W G 12 A S 174 479 [.ref 0, .ref p, .int z, .int (nI 13), L4, L5, L6, L7] [] hh Q) : ∀ (m i : Nat) (hh : z_H) (L4 L5 L6 L7 : Value), i + m = 12 → z_P hh p B (z_fold (fun x k => z_bC (z_sat G (k + 1)) x) x0 i) → z_Px p B h hh → z_W G 12 (A + 18 * m) (S + 108 * m) 174 92 [.ref 0, .ref p, .int z, .int (nI (i + 1)), L4, L5, L6, L7] [] hh Q := by
  intro m
  induction m with
  | zero =>
    intro i hh L4 L5 L6 L7 hi hP1 hX
    obtain rfl : i = 12 := by omega
    refine z_iload_n rfl rfl ?_
    refine z_bipush (v := nI 13) rfl (by decide) ?_
    refine z_icmp_ge rfl (fun _ => ?_) (fun u => absurd (by decide) u)
    exact kk hh L4 L5 L6 L7 hP1 hX
  | succ m ih =>
    intro i hh L4 L5 L6 L7 hi hP1 hX
    have hv : z_nv (z_fold (fun x k => z_bC (z_sat G (k + 1)) x) x0 i) := hv0.fold (fun _ _ h => h.bC) i
    refine z_iload_n rfl rfl ?_
    refine z_bipush (v := nI 13) rfl (by decide) ?_
    refine z_icmp_ge rfl (fun u => absurd ((nI_leI (a := 13) (by decide) (by omega)).mp u) (by omega)) (fun u => ?_)
    refine z_aload_n rfl rfl ?_
    refine z_iload_n rfl rfl ?_
    refine z_callS (av := [_, _]) rfl z_w172 rfl rfl rfl rfl (Nat.le_of_ble_eq_true rfl) (Nat.zero_le _) (Nat.zero_le _) (Nat.le_of_ble_eq_true rfl) (c_lAt hN (by omega) ?_)
    refine z_istore rfl (by decide +kernel) rfl ?_
    refine z_W.mono (mc := A + 18 * m + 18) (ms := S + 108 * m + 108) ?_ (Nat.le_refl _) (by omega) (by omega)
    refine c_turnC hv hP1 (fun h1 M5 M6 M7 hP2 hX2 => ?_)
    refine z_iinc1 rfl rfl (by decide +kernel) rfl ?_
    refine z_goto rfl ?_
    exact ih (i + 1) h1 _ M5 M6 M7 (by omega) hP2 (hX.trans hX2)
theorem c_build (hN : G.2.2.2.2.2.1 ≤ 260) (q : ∀ h', z_P h' (1000 + h.1) (fun k => 1000 + h.1 + 288 ≤ k) (z_bld G) → h.1 + 288 ≤ h'.1 → (∀ j, j < 1000 + h.1 → h'.2 j = h.2 j) → Q (.inl (some (.ref (1000 + h.1)))) h') : z_W G 12 600 4000 174 0 (z_L0 174 [.ref 0]) [] h Q := by
  refine z_newO (mc2 := 599) (ms2 := 3988) rfl (Nat.le_of_ble_eq_true rfl) (Nat.le_of_ble_eq_true rfl) ?_
  refine z_dup rfl rfl ?_
  refine z_callI (av := []) (mc' := 287) (ms' := 1566) rfl z_w103 rfl rfl rfl rfl (Nat.le_of_ble_eq_true rfl) (Nat.le_of_ble_eq_true rfl) (Nat.le_of_ble_eq_true rfl) (Nat.le_of_ble_eq_true rfl) (c_initPa (p := 1000 + h.1) (by omega) (z_new_eq _ _) (by show 1000 + h.1 + 1 = 1000 + (h.1 + 1); omega) fun h1 x1 e1 f1 => ?_)
  have hP1 : z_P h1 (1000 + h.1) (fun k => 1000 + h.1 + 288 ≤ k) z_x0 := ⟨_, _, _, _, _, _, _, x1⟩
  have g1 : ∀ j, j < 1000 + h.1 → h1.2 j = h.2 j := fun j hj => (f1 j hj).trans (z_new_ne _ _ (by omega))
  obtain ⟨n, hn, en⟩ := z_m3 (z_sat G 0)
  have eN : z_ix (2 + (z_sat G 0 &&& 3)) = 2 + n := by rw [en, show (2 : Int32) + nI n = nI (2 + n) from nI_add 2 n, z_ix_nI (by omega)]
  unfold z_bld at q
  rw [eN] at q
  refine z_astore_n rfl (by decide +kernel) rfl ?_
  refine z_aload_n rfl rfl ?_
  refine z_iconst (v := nI 0) rfl (by decide) ?_
  refine z_callS (av := [_, _]) rfl z_w172 rfl rfl rfl rfl (Nat.le_of_ble_eq_true rfl) (Nat.zero_le _) (Nat.zero_le _) (Nat.le_of_ble_eq_true rfl) (c_lAt hN (by decide) ?_)
  refine z_istore_n rfl (by decide +kernel) rfl ?_
  refine z_iconst (v := nI 0) rfl (by decide) ?_
  refine z_istore_n rfl (by decide +kernel) rfl ?_
  refine (c_bA (h := h1) (A := 250) (S := 1500) (x0 := z_x0) (L4 := .retAddr 0) (L5 := .retAddr 0) (L6 := .retAddr 0) (L7 := .retAddr 0) z_nv0 hn en (fun h2 hP2 hX2 => ?_) (2 + n) 0 h1 (by omega) hP1 (z_Px.refl _ _ _)).mono (Nat.le_refl _) (by omega) (by omega)
  have v2 : z_nv (z_fold (z_bA (z_sat G 0)) z_x0 (2 + n)) := z_nv0.fold (fun _ _ h => h.bA) _
  generalize z_fold (z_bA (z_sat G 0)) z_x0 (2 + n) = y2 at *
  refine z_iconst (v := nI 0) rfl (by decide) ?_
  refine z_istore_n rfl (by decide +kernel) rfl ?_
  refine (c_bB (h := h1) (A := 240) (S := 1400) (x0 := y2) (L4 := .retAddr 0) (L5 := .retAddr 0) (L6 := .retAddr 0) (L7 := .retAddr 0) v2 (fun h3 hP3 hX3 => ?_) 3 0 h2 rfl hP2 hX2).mono (Nat.le_refl _) (by omega) (by omega)
  have v3 : z_nv (z_fold (z_bB (z_sat G 0)) y2 3) := v2.fold (fun _ _ h => h.bB) _
  generalize z_fold (z_bB (z_sat G 0)) y2 3 = y3 at *
  refine z_iconst (v := nI (0 + 1)) rfl (by decide) ?_
  refine z_istore_n rfl (by decide +kernel) rfl ?_
  refine (c_bC (h := h1) (A := 1) (S := 1) (x0 := y3) hN v3 (fun h4 M4 M5 M6 M7 hP4 hX4 => ?_) 12 0 h3 _ _ _ _ rfl hP3 hX3).mono (Nat.le_refl _) (by omega) (by omega)
  refine z_aload_n rfl rfl ?_
  refine z_aret rfl rfl (Or.inl ⟨_, rfl⟩) (Or.inr ⟨_, rfl⟩) ?_
  exact q h4 hP4 (by have := hX4.1; omega) (fun j hj => (hX4.2 j (by show ¬ 1000 + h.1 + 288 ≤ j; omega) (Or.inl hj)).trans (g1 j hj))
end ZBd
