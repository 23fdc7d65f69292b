/-! New cells, constant things, calls, throws, handlers. -/
def z_dfl (ci : Nat) : List Value := (List.range (z_cl[ci]?.getD ("", fun _ => ("", "", "", true), 0)).2.2).map (fun k => defaultValue (z_tyAt ci k))
def z_dfa (t N : Nat) : vp_A := match t with
  | 3 => (N, .inr (.inl (fun _ => 0)))
  | 4 => (N, .inr (.inr (.inr (.inl (fun _ => 0)))))
  | _ => (N, .inl (fun _ => 0))
noncomputable def z_nestS (j : Nat) : Bool := match z_wd j with
  | some (.fieldLinkNest ..) => true
  | _ => false
section ZN
variable {G : z_G} {d mc ms mi pc nx : Nat} {L st : List Value} {h : z_H} {Q : z_O → z_H → Prop} {info : List Nat}
theorem z_dflV {ci : Nat} {q : vw_C} (hq : z_cl[ci]? = some q) : z_dfl ci = (List.range q.2.2).map (fun k => defaultValue (z_tyAt ci k)) := by
  unfold z_dfl
  rw [hq]
  rfl
theorem z_vDef (ty : FieldType) : z_v G (defaultValue ty) = defaultValue ty := by cases ty <;> rfl
/-- a new object -/
theorem z_newO {idx ci j1 j2 j3 mc2 ms2 : Nat} (hr : z_at mi pc = some (.new idx, nx, [0, ci, j1, j2, j3])) (hm : mc2 + 1 ≤ mc) (hs2 : ms2 + (z_dfl ci).length ≤ ms) (kk : z_W G d mc2 ms2 mi nx L (.ref (1000 + h.1) :: st) (z_new h (.inr (ci, z_dfl ci))) Q) : z_W G d mc ms mi pc L st h Q := by
  obtain ⟨hd, rfl⟩ := z_dn (n := 3) hr rfl (by decide)
  have hlk := z_lkOf hr
  have hlk2 : (match z_cl[ci]? with
    | some q => z_is j1 (.classLink (z_y mi).cls idx q.1) && z_is j2 (.instantiable q.1 q.2.2) && z_is j3 (.initialized q.1)
    | none => false) = true := hlk
  split at hlk2
  · rename_i q hq
    simp only [Bool.and_eq_true] at hlk2
    obtain ⟨⟨w1, w2⟩, w3⟩ := hlk2
    obtain ⟨C0, T, N⟩ := q
    have hdl := z_dflV hq
    have hln : (z_dfl ci).length = N := by rw [hdl]; simp
    intro p e R s m args below meth c H locs cells slots MC MS ls C r hS hL hR
    obtain ⟨hin, hty, hnm⟩ := z_clOk hq
    have hts := C.2.2.2.2.2.1
    have hK := (C.2.2.2.2.2.2.2.2.2.1).1
    have hKn := hK.1 ci _ hq
    refine W.newcK C.1 C.2.1 C.2.2.2.2.1 (hts _ (z_gwOf (z_isOf w1) rfl)) (hts _ (z_gwOf (z_isOf w2) rfl)) (hts _ (z_gwOf (z_isOf w3) rfl)) rfl hd (by omega) (by show slots + N ≤ _; omega) hKn.2.1 rfl fun H1 kC hkC e1 z1 o1 => ?_
    have hR1 : z_R G (z_new h (.inr (ci, z_dfl ci))) H1 := by
      refine hR.new z1 o1 ⟨_, hq, (u_born (z_tyAt ci) hts hin hKn hkC e1 hty).to (fun k hk => ?_)⟩
      have hk2 : k < N := hk
      rw [hdl, List.map_map]
      simp [vp_V, hk2, z_vDef]
    have hS1 : va_S (z_A G) s.heap H1 locs := ⟨Nat.le_trans hS.1 (by omega), fun x h1 h2 => (o1 x (Nat.lt_of_lt_of_le h1 hS.1)).trans (hS.2.1 x h1 h2), hS.2.2⟩
    have w := kk p e R s m args below meth c H1 locs (cells + 1) (slots + N) MC MS ls C (by omega) hS1 hL hR1
    rw [List.map_cons, show z_v G (.ref (1000 + h.1)) = .ref H.size by show Value.ref _ = _; rw [hR.adNew]] at w
    exact w
  · cases hlk2
/-- a new array of numbers -/
theorem z_newA {a : ArrayType} {t j mc2 ms2 N : Nat} {n : Int32} (hr : z_at mi pc = some (.newarray a, nx, [t, j])) (hn : ¬ n < 0) (hN : n.toNatClampNeg = N) (hb : N ≤ 1000000) (hm : mc2 + 1 ≤ mc) (hs2 : ms2 + N ≤ ms) (kk : z_W G d mc2 ms2 mi nx L (.ref (1000 + h.1) :: st) (z_new h (.inl (t, z_dfa t N))) Q) : z_W G d mc ms mi pc L (.int n :: st) h Q := by
  obtain ⟨hd, rfl⟩ := z_dn (n := 2) hr rfl (by decide)
  have hlk := z_lkOf hr
  have hlk2 : (decide (newarray.typeOf a = z_tyOf t) && decide (t = 0 ∨ t = 2) && z_is j (.arrayClass (z_tyOf t))) = true := hlk
  simp only [Bool.and_eq_true, decide_eq_true_eq] at hlk2
  obtain ⟨⟨w1, w2⟩, w3⟩ := hlk2
  intro p e R s m args below meth c H locs cells slots MC MS ls C r hS hL hR
  have hts := C.2.2.2.2.2.1
  have hK := (C.2.2.2.2.2.2.2.2.2.1).1
  have hcb : componentBytes (newarray.typeOf a) ≤ 8 := by cases a <;> decide
  refine va_newaK C.1 C.2.1 (atype := a) (by rw [w1]; exact hts _ (z_gwOf (z_isOf w3) rfl)) rfl hd rfl hn hN (by exact Nat.le_trans (Nat.mul_le_mul hb hcb) (Nat.le_of_ble_eq_true rfl)) (by omega) (by omega) rfl fun H1 cA e1 z1 o1 hAr hNm => ?_
  have hcA : cA = G.2.2.2.2.1 t := by
    rw [w1] at hNm
    have hz := hK.2
    rcases w2 with rfl | rfl
    · exact Option.some.inj (hNm.symm.trans (hz 0 _ rfl).2)
    · exact Option.some.inj (hNm.symm.trans (hz 2 _ rfl).2)
  have hR1 : z_R G (z_new h (.inl (t, z_dfa t N))) H1 := by
    refine hR.new z1 o1 ?_
    show H1[H.size]? = some (vp_cell (G.2.2.2.2.1 t) (z_ea G (z_dfa t N)))
    rw [e1, hcA, w1]
    rcases w2 with rfl | rfl
    · rfl
    · rfl
  have hS1 : va_S (z_A G) s.heap H1 locs := ⟨Nat.le_trans hS.1 (by omega), fun x h1 h2 => (o1 x (Nat.lt_of_lt_of_le h1 hS.1)).trans (hS.2.1 x h1 h2), hS.2.2⟩
  have w := kk p e R s m args below meth c H1 locs (cells + 1) (slots + N) MC MS ls C (by omega) hS1 hL hR1
  rw [List.map_cons, show z_v G (.ref (1000 + h.1)) = .ref H.size by show Value.ref _ = _; rw [hR.adNew]] at w
  exact w
theorem z_flOf2 {own ref n d : String} {idx j : Nat} (h : (z_is j (.fieldLink own idx ref n d) || z_isFN j own idx ref n d) = true) : Cond.fieldLink own idx ref n d ∈ z_gw ∨ ∃ host, Cond.fieldLinkNest own idx ref n d host ∈ lw_tbl := z_flOf (by unfold z_fl; exact h)
/-- a field of a constant object -/
theorem z_getR {idx f j a : Nat} {v : Value} (hr : z_at mi pc = some (.getfield idx, nx, [1, f, j])) (hv : (a, (z_rft.getD f ("", "", "")).1, (z_rft.getD f ("", "", "")).2.1, (z_rft.getD f ("", "", "")).2.2, v) ∈ z_rof) (kk : z_W G d mc ms mi nx L (v :: st) h Q) : z_W G d mc ms mi pc L (.ref a :: st) h Q := by
  obtain ⟨hd, rfl⟩ := z_dn (n := 3) hr rfl (by decide)
  have hlk2 : (match z_rft[f]? with
    | some q => z_is j (.fieldLink (z_y mi).cls idx q.1 q.2.1 q.2.2) || z_isFN j (z_y mi).cls idx q.1 q.2.1 q.2.2
    | none => false) = true := z_lkOf hr
  split at hlk2
  · rename_i q hq
    rw [List.getD_eq_getElem?_getD, hq] at hv
    intro p e R s m args below meth c H locs cells slots MC MS ls C r hS hL hR
    have hf := (C.2.2.2.2.2.2.2.2.2.1).2.2.1 _ hv
    rcases z_flOf2 hlk2 with hw | ⟨host, hw⟩
    · exact vk_getf C.1 C.2.1 hf hS C.2.2.2.2.1 (C.2.2.2.2.2.1 _ hw) (fun _ h9 => h9) hd (kk p e R s m args below meth c H locs cells slots MC MS ls C r hS hL hR)
    · obtain ⟨cf, k9, i9, f9, cell, g1, g2, g3, g4, g5, g6⟩ := hf
      exact va_Wgetf C.1 C.2.1 C.2.2.2.2.1 (va_Nw.use rfl ((C.2.2.2.2.2.2.2.2.2.1).2.2.2.2.2.2.1 _ hw rfl)) g1 g2 (by rw [hS.2.1 _ (Array.getElem?_eq_some_iff.mp g3).1 g6]; exact g3) g4 g5 rfl rfl hd (kk p e R s m args below meth c H locs cells slots MC MS ls C r hS hL hR)
  · cases hlk2
/-- a static -/
theorem z_gets {idx f j : Nat} {v : Value} (hr : z_at mi pc = some (.getstatic idx, nx, [f, j])) (hv : ((z_stt.getD f ("", "", "")).1, (z_stt.getD f ("", "", "")).2.1, (z_stt.getD f ("", "", "")).2.2, v) ∈ z_stv) (hnn : z_nestS j = false) (kk : z_W G d mc ms mi nx L (v :: st) h Q) : z_W G d mc ms mi pc L st h Q := by
  obtain ⟨hd, rfl⟩ := z_dn (n := 3) hr rfl (by decide)
  have hlk2 : (match z_stt[f]? with
    | some q => z_is j (.fieldLink (z_y mi).cls idx q.1 q.2.1 q.2.2) || z_isFN j (z_y mi).cls idx q.1 q.2.1 q.2.2
    | none => false) = true := z_lkOf hr
  split at hlk2
  · rename_i q hq
    rw [List.getD_eq_getElem?_getD, hq] at hv
    intro p e R s m args below meth c H locs cells slots MC MS ls C r hS hL hR
    have hf := (C.2.2.2.2.2.2.2.2.2.1).2.1 _ hv
    rcases Bool.or_eq_true _ _ |>.mp hlk2 with hw | hw
    · exact va_gets C.1 C.2.1 hf hS C.2.2.2.2.1 (C.2.2.2.2.2.1 _ (z_gwOf (z_isOf hw) rfl)) (fun _ h9 => h9) hd (kk p e R s m args below meth c H locs cells slots MC MS ls C r hS hL hR)
    · unfold z_isFN at hw
      unfold z_nestS at hnn
      split at hw
      · rename_i e9
        rw [e9] at hnn
        cases hnn
      · cases hw
  · cases hlk2
theorem z_tableR {a N : Nat} {ty : FieldType} {vs : List Value} (hT : (a, ty, vs) ∈ z_roa) {s : State} {H : Heap} {locs : List Loc} (hK : z_K G s s.heap) : va_T ty (z_ad G a) vs.length (fun j => z_v G (vs.getD j .null)) (z_A G) s s.heap := hK.2.2.2.2.1 _ hT
/-- a place of a constant array -/
theorem z_ialdR {a : Nat} {vs : List Value} {i : Int32} {v : Value} (hr : z_at mi pc = some (.iaload, nx, info)) (hT : (a, FieldType.int, vs) ∈ z_roa) (hi : vp_in i vs.length) (hv : vs.getD i.toNatClampNeg .null = v) (kk : z_W G d mc ms mi nx L (v :: st) h Q) : z_W G d mc ms mi pc L (.int i :: .ref a :: st) h Q := by
  obtain ⟨hd, rfl⟩ := z_dn (n := 1) hr rfl (by decide)
  subst hv
  intro p e R s m args below meth c H locs cells slots MC MS ls C r hS hL hR
  exact va_ti C.1 C.2.1 ((C.2.2.2.2.2.2.2.2.2.1).2.2.2.2.1 _ hT) hS hi rfl hd (kk p e R s m args below meth c H locs cells slots MC MS ls C r hS hL hR)
theorem z_baldR {a : Nat} {vs : List Value} {i : Int32} {v : Value} (hr : z_at mi pc = some (.baload, nx, info)) (hT : (a, FieldType.byte, vs) ∈ z_roa) (hi : vp_in i vs.length) (hv : vs.getD i.toNatClampNeg .null = v) (kk : z_W G d mc ms mi nx L (v :: st) h Q) : z_W G d mc ms mi pc L (.int i :: .ref a :: st) h Q := by
  obtain ⟨hd, rfl⟩ := z_dn (n := 1) hr rfl (by decide)
  subst hv
  intro p e R s m args below meth c H locs cells slots MC MS ls C r hS hL hR
  obtain ⟨cell, h1, h2, h3, h4, h5, h6, h7⟩ := (C.2.2.2.2.2.2.2.2.2.1).2.2.2.2.1 _ hT
  have hlt : i.toNatClampNeg < vs.length := Nat.not_le.mp fun q => hi (Or.inr q)
  exact W.bald (v := z_v G (vs.getD i.toNatClampNeg .null)) C.1 C.2.1 (by rw [hS.2.1 _ (Array.getElem?_eq_some_iff.mp h1).1 h7]; exact h1) h2 h3 (fun q => hi (q.imp id fun q => Nat.le_trans h4 q)) (h6 _ hlt) rfl rfl hd (kk p e R s m args below meth c H locs cells slots MC MS ls C r hS hL hR)
theorem z_aaldR {a : Nat} {vs : List Value} {i : Int32} {v : Value} {ty : FieldType} (hr : z_at mi pc = some (.aaload, nx, info)) (hT : (a, ty, vs) ∈ z_roa) (hty : refKind ty = true) (hi : vp_in i vs.length) (hv : vs.getD i.toNatClampNeg .null = v) (kk : z_W G d mc ms mi nx L (v :: st) h Q) : z_W G d mc ms mi pc L (.int i :: .ref a :: st) h Q := by
  obtain ⟨hd, rfl⟩ := z_dn (n := 1) hr rfl (by decide)
  subst hv
  intro p e R s m args below meth c H locs cells slots MC MS ls C r hS hL hR
  obtain ⟨cell, h1, h2, h3, h4, h5, h6, h7⟩ := (C.2.2.2.2.2.2.2.2.2.1).2.2.2.2.1 _ hT
  have hlt : i.toNatClampNeg < vs.length := Nat.not_le.mp fun q => hi (Or.inr q)
  exact W.aald (v := z_v G (vs.getD i.toNatClampNeg .null)) (ty := ty) C.1 C.2.1 (by rw [hS.2.1 _ (Array.getElem?_eq_some_iff.mp h1).1 h7]; exact h1) h2 hty h3 (fun q => hi (q.imp id fun q => Nat.le_trans h4 q)) (h6 _ hlt) rfl rfl hd (kk p e R s m args below meth c H locs cells slots MC MS ls C r hS hL hR)
theorem z_alenR {a : Nat} {vs : List Value} {ty : FieldType} (hr : z_at mi pc = some (.arraylength, nx, info)) (hT : (a, ty, vs) ∈ z_roa) (kk : z_W G d mc ms mi nx L (.int (Int32.ofNat vs.length) :: st) h Q) : z_W G d mc ms mi pc L (.ref a :: st) h Q := by
  obtain ⟨hd, rfl⟩ := z_dn (n := 1) hr rfl (by decide)
  intro p e R s m args below meth c H locs cells slots MC MS ls C r hS hL hR
  exact va_tlen C.1 C.2.1 ((C.2.2.2.2.2.2.2.2.2.1).2.2.2.2.1 _ hT) hS rfl hd (kk p e R s m args below meth c H locs cells slots MC MS ls C r hS hL hR)
/-- the script -/
theorem z_sld {i : Int32} (hr : z_at mi pc = some (.iaload, nx, info)) (hi : vp_in i G.2.2.2.2.2.1) (kk : z_W G d mc ms mi nx L (.int (G.2.2.2.2.2.2 i.toNatClampNeg) :: st) h Q) : z_W G d mc ms mi pc L (.int i :: .ref 0 :: st) h Q := by
  obtain ⟨hd, rfl⟩ := z_dn (n := 1) hr rfl (by decide)
  intro p e R s m args below meth c H locs cells slots MC MS ls C r hS hL hR
  exact va_ti C.1 C.2.1 (C.2.2.2.2.2.2.2.2.2.1).2.2.2.2.2.1 hS hi rfl hd (kk p e R s m args below meth c H locs cells slots MC MS ls C r hS hL hR)
theorem z_slen (hr : z_at mi pc = some (.arraylength, nx, info)) (kk : z_W G d mc ms mi nx L (.int (Int32.ofNat G.2.2.2.2.2.1) :: st) h Q) : z_W G d mc ms mi pc L (.ref 0 :: st) h Q := by
  obtain ⟨hd, rfl⟩ := z_dn (n := 1) hr rfl (by decide)
  intro p e R s m args below meth c H locs cells slots MC MS ls C r hS hL hR
  exact va_tlen C.1 C.2.1 (C.2.2.2.2.2.2.2.2.2.1).2.2.2.2.2.1 hS rfl hd (kk p e R s m args below meth c H locs cells slots MC MS ls C r hS hL hR)
end ZN
