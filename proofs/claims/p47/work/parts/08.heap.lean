/-! Rows that read and write the heap; the ends. -/
def z_clp : List (List Nat) := [[1130, 1132, 1134, 1136, 1138, 1140], [1094, 1096, 1098, 1100, 1102], [1189, 1191, 1193], [1159, 1161, 1163, 1165, 1167, 1169, 1171, 1173], [1066, 1068], [2012, 2014, 2016, 2018, 2020], [2026, 2028, 2030], [2047, 2049], [2064, 2066, 2068, 2070, 2072, 2074, 2076, 2078, 2080, 2082, 2084, 2086], [6106, 6108, 6110, 6112], [1225, 1227, 1229, 1231]]
def z_tyAt (ci k : Nat) : FieldType := (z_tyl.getD ci (fun _ => .int)) k
noncomputable def z_clChk (ci : Nat) : Bool := match z_cl[ci]? with
  | some q => (List.range q.2.2).all fun k => z_is ((z_clp.getD ci []).getD k 99999) (u_lay q.1 q.2.1 k) && decide (parseFieldDescriptor (q.2.1 k).2.2.1 = some (z_tyAt ci k)) && (List.range q.2.2).all (fun b => k == b || decide ((q.2.1 k).2.1 ≠ (q.2.1 b).2.1))
  | none => true
theorem z_clc : ∀ ci, ci < 11 → z_clChk ci = true := by decide +kernel
theorem z_layGood (C : String) (T : u_T) (k : Nat) : goodWord (u_lay C T k) = true := by
  unfold u_lay
  split <;> rfl
theorem z_clOk {ci : Nat} {q : vw_C} (hq : z_cl[ci]? = some q) : (∀ w ∈ u_ws q.1 q.2.1 q.2.2, w ∈ z_gw) ∧ (∀ k, k < q.2.2 → parseFieldDescriptor (q.2.1 k).2.2.1 = some (z_tyAt ci k)) ∧ (∀ a, a < q.2.2 → ∀ b, b < q.2.2 → a ≠ b → (q.2.1 a).2.1 ≠ (q.2.1 b).2.1) := by
  have hlt : ci < 11 := (List.getElem?_eq_some_iff.mp hq).1
  have h := z_clc ci hlt
  unfold z_clChk at h
  rw [hq] at h
  simp only [List.all_eq_true, List.mem_range, Bool.and_eq_true, decide_eq_true_eq, Bool.or_eq_true, beq_iff_eq] at h
  refine ⟨fun w hw => ?_, fun k hk => (h k hk).1.2, fun a ha b hb hab => ((h a ha).2 b hb).resolve_left hab⟩
  unfold u_ws at hw
  obtain ⟨k, hk, rfl⟩ := List.mem_map.mp hw
  exact z_gwOf (z_isOf (h k (List.mem_range.mp hk)).1.1) (z_layGood _ _ _)
theorem z_flOf {own ref n d : String} {idx j : Nat} (h : z_fl own idx ref n d j = true) : Cond.fieldLink own idx ref n d ∈ z_gw ∨ ∃ host, Cond.fieldLinkNest own idx ref n d host ∈ lw_tbl := by
  unfold z_fl at h
  rcases Bool.or_eq_true _ _ |>.mp h with h | h
  · exact Or.inl (z_gwOf (z_isOf h) rfl)
  · unfold z_isFN at h
    split at h
    · rename_i o i r n' d' hh e
      have e2 := of_decide_eq_true h
      exact Or.inr ⟨hh, by rw [← e2]; exact z_wdOf e⟩
    · cases h
theorem z_adI {G : z_G} {a b : Nat} (ha : 1000 ≤ a) (hb : 1000 ≤ b) (h : z_ad G a = z_ad G b) : a = b := by
  unfold z_ad at h
  rw [if_neg (by omega), if_neg (by omega)] at h
  omega
theorem z_adA {G : z_G} {a : Nat} (ha : 1000 ≤ a) : z_A G (z_ad G a) := by
  unfold z_ad z_A
  rw [if_neg (by omega)]
  omega
theorem z_R.set {G : z_G} {h : z_H} {H H' : Heap} {a : Nat} {c c' : va_E} (hR : z_R G h H) (hc : h.2 a = some c) (hs : H'.size = H.size) (ho : ∀ q, q ≠ z_ad G a → H'[q]? = H[q]?) (hn : va_at G.2.2.2.1 z_cl (z_ad G a, z_e G c') H') : z_R G (z_set h a c') H' := by
  refine ⟨by rw [hs]; exact hR.1, fun k c0 hk => ?_⟩
  obtain ⟨a1, a2, -⟩ := hR.2 a c hc
  by_cases e : k = a
  · subst e
    have e2 : (z_set h k c').2 k = some c' := if_pos rfl
    rw [e2] at hk
    cases hk
    exact ⟨a1, a2, hn⟩
  · have e2 : (z_set h a c').2 k = h.2 k := if_neg e
    rw [e2] at hk
    obtain ⟨k1, k2, k3⟩ := hR.2 k c0 hk
    exact ⟨k1, k2, k3.kept (ho _ fun q => e (z_adI k1 a1 q))⟩
theorem z_R.new {G : z_G} {h : z_H} {H H' : Heap} {c' : va_E} (hR : z_R G h H) (hs : H'.size = H.size + 1) (ho : ∀ q, q < H.size → H'[q]? = H[q]?) (hn : va_at G.2.2.2.1 z_cl (H.size, z_e G c') H') : z_R G (z_new h c') H' := by
  refine ⟨by rw [hs, hR.1]; rfl, fun k c0 hk => ?_⟩
  by_cases e : k = 1000 + h.1
  · subst e
    have e2 : (z_new h c').2 (1000 + h.1) = some c' := if_pos rfl
    rw [e2] at hk
    cases hk
    refine ⟨by omega, by show _ < 1000 + (h.1 + 1); omega, ?_⟩
    have e3 : z_ad G (1000 + h.1) = H.size := by
      unfold z_ad
      rw [if_neg (by omega), hR.1]
      omega
    rw [e3]
    exact hn
  · have e2 : (z_new h c').2 k = h.2 k := if_neg e
    rw [e2] at hk
    obtain ⟨k1, k2, k3⟩ := hR.2 k c0 hk
    refine ⟨k1, by show _ < 1000 + (h.1 + 1); omega, k3.kept (ho _ k3.lt)⟩
theorem z_R.adNew {G : z_G} {h : z_H} {H : Heap} (hR : z_R G h H) : z_ad G (1000 + h.1) = H.size := by
  unfold z_ad
  rw [if_neg (by omega), hR.1]
  omega
theorem z_R.one {G : z_G} {h : z_H} {H : Heap} {a : Nat} {c : va_E} (hR : z_R G h H) (hc : h.2 a = some c) : va_P G.2.2.2.1 z_cl [(z_ad G a, z_e G c)] H := by
  intro k q hk
  match k, hk with
  | 0, hk =>
    cases hk
    exact (hR.2 a c hc).2.2
  | k + 1, hk => simp at hk
/-- a nest mate's word names another class -/
def z_nest : Cond → Bool
  | .fieldLinkNest o _ r _ _ _ => decide (o ≠ r)
  | _ => true
theorem z_noNest : lw_tbl.all z_nest = true := by decide +kernel
section ZH
variable {G : z_G} {d mc ms mi pc nx : Nat} {L st : List Value} {h : z_H} {Q : z_O → z_H → Prop} {info : List Nat}
theorem z_fldOf {own : String} {pc idx ci k j : Nat} (h : (match z_cl[ci]? with
    | some q => decide (k < q.2.2) && z_fl own idx (q.2.1 k).1 (q.2.1 k).2.1 (q.2.1 k).2.2.1 j
    | none => false) = true) : ∃ q, z_cl[ci]? = some q ∧ k < q.2.2 ∧ z_fl own idx (q.2.1 k).1 (q.2.1 k).2.1 (q.2.1 k).2.2.1 j = true := by
  split at h
  · rename_i q e
    simp only [Bool.and_eq_true, decide_eq_true_eq] at h
    exact ⟨q, e, h.1, h.2⟩
  · cases h
/-- reading a field of a cell -/
theorem z_get {idx ci k j a : Nat} {fs : List Value} {v : Value} (hr : z_at mi pc = some (.getfield idx, nx, [0, ci, k, j])) (hc : h.2 a = some (.inr (ci, fs))) (hv : fs[k]? = some v) (kk : z_W G d mc ms mi nx L (v :: st) h Q) : z_W G d mc ms mi pc L (.ref a :: st) h Q := by
  obtain ⟨hd, rfl⟩ := z_dn (n := 3) hr rfl (by decide)
  obtain ⟨q, hq, hk, hf⟩ := z_fldOf (pc := pc) (z_lkOf hr)
  obtain ⟨C0, T, N⟩ := q
  intro p e R s m args below meth c H locs cells slots MC MS ls C r hS hL hR
  have hP := hR.one hc
  have hv2 : (fs.map (z_v G))[k]? = some (z_v G v) := by simp [hv]
  rcases z_flOf hf with hw | ⟨host, hw⟩
  · exact va_get C.1 C.2.1 C.2.2.2.2.2.1 (z_clOk hq).1 C.2.2.2.2.1 (C.2.2.2.2.2.2.2.2.2.1).1 hP 0 rfl hq k hk (C.2.2.2.2.2.1 _ hw) (fun _ h9 => h9) hv2 hd (kk p e R s m args below meth c H locs cells slots MC MS ls C r hS hL hR)
  · exact va_getN C.1 C.2.1 C.2.2.2.2.2.1 (z_clOk hq).1 C.2.2.2.2.1 (C.2.2.2.2.2.2.2.2.2.1).1 hP 0 rfl hq k hk (va_Nw.use rfl ((C.2.2.2.2.2.2.2.2.2.1).2.2.2.2.2.2.1 _ hw rfl)) (fun _ h9 => h9) hv2 hd (kk p e R s m args below meth c H locs cells slots MC MS ls C r hS hL hR)
/-- writing a field that isn't final -/
theorem z_put {idx ci k j a : Nat} {fs : List Value} {v : Value} (hr : z_at mi pc = some (.putfield idx, nx, [0, ci, k, j])) (hc : h.2 a = some (.inr (ci, fs))) (hl : k < fs.length) (hfin : ((z_cl[ci]?.getD ("", fun _ => ("", "", "", true), 0)).2.1 k).2.2.2 = false) (hn : narrow (z_tyAt ci k) (z_v G v) = z_v G v) (hfit : fits (z_tyAt ci k) (z_v G v) = true) (kk : z_W G d mc ms mi nx L st (z_set h a (.inr (ci, fs.set k v))) Q) : z_W G d mc ms mi pc L (v :: .ref a :: st) h Q := by
  obtain ⟨hd, rfl⟩ := z_dn (n := 3) hr rfl (by decide)
  obtain ⟨q, hq, hk, hf⟩ := z_fldOf (pc := pc) (z_lkOf hr)
  obtain ⟨C0, T, N⟩ := q
  rw [hq] at hfin
  intro p e R s m args below meth c H locs cells slots MC MS ls C r hS hL hR
  obtain ⟨hin, hty, hnm⟩ := z_clOk hq
  have hts := C.2.2.2.2.2.1
  have hK := (C.2.2.2.2.2.2.2.2.2.1).1
  have hap := va_apart (own := C0) hts hin (z_tyAt ci) hty hnm hK hq
  obtain ⟨a1, a2, hat⟩ := hR.2 a _ hc
  obtain ⟨r9, h1, cell, q1, q2, q3, q4⟩ := hat
  have hr9 : r9 = (C0, T, N) := Option.some.inj (h1.symm.trans hq)
  subst hr9
  obtain ⟨hSl, hfc, kC, hkC, hkind⟩ := hK.1 ci _ hq
  obtain ⟨cf, kf, fi, f, hi, hsl⟩ := hSl k hk
  have hlay := hts _ (hin _ (u_in_lay hk))
  unfold u_lay at hlay
  rw [if_neg (by show ¬ (T k).2.2.2 = true; rw [show (T k).2.2.2 = false from hfin]; decide)] at hlay
  have hst := (u_facts hfc hkC (u_lays hts hin hk) hi).1
  have h6 := u_store hfc hkC hkind hlay hi (hty k hk) hn hfit
  have fin : ∀ H' : Heap, H'[z_ad G a]? = some (cell.setSlot f.slot (z_v G v)) → H'.size = H.size → (∀ q, q ≠ z_ad G a → H'[q]? = H[q]?) → z_R G (z_set h a (.inr (ci, fs.set k v))) H' := by
    intro H' e1 e2 e3
    rw [hsl] at e1
    refine hR.set hc e2 e3 ⟨_, hq, t_OB.to (V := updV (vp_V (fs.map (z_v G))) k (z_v G v)) ⟨_, e1, q2, q3, t_set q4 hap hk (z_v G v)⟩ (fun j9 _ => ?_)⟩
    rw [List.map_set]
    exact vp_updV_set (by rw [List.length_map]; exact hl) (z_v G v) j9
  rcases z_flOf hf with hw | ⟨host, hw⟩
  · refine W.putK C.1 C.2.1 (f := f) ⟨C.2.2.2.2.1, hts _ hw, ⟨_, _, _, hi⟩, hst⟩ (by rw [q2]; exact h6) q1 q3 (by rw [hsl]; exact k2_hasslot (q4 k hk)) rfl rfl hd fun H' e1 e2 e3 => ?_
    exact kk p e R s m args below meth c H' _ cells slots MC MS ls C r (hS.put e2 e3 (z_adA a1)) hL (fin H' e1 e2 e3)
  · refine va_WputK C.1 C.2.1 (f := f) C.2.2.2.2.1 (va_Nw.use rfl ((C.2.2.2.2.2.2.2.2.2.1).2.2.2.2.2.2.1 _ hw rfl)) hi hst (by rw [q2]; exact h6) q1 q3 (by rw [hsl]; exact k2_hasslot (q4 k hk)) rfl rfl hd fun H' e1 e2 e3 => ?_
    exact kk p e R s m args below meth c H' _ cells slots MC MS ls C r (hS.put e2 e3 (z_adA a1)) hL (fin H' e1 e2 e3)
/-- writing a final field, in its class's constructor -/
theorem z_putF {idx ci k j a : Nat} {fs : List Value} {v : Value} (hr : z_at mi pc = some (.putfield idx, nx, [0, ci, k, j])) (hc : h.2 a = some (.inr (ci, fs))) (hl : k < fs.length) (hfin : ((z_cl[ci]?.getD ("", fun _ => ("", "", "", true), 0)).2.1 k).2.2.2 = true) (hini : (z_y mi).name = "<init>") (hown : ((z_cl[ci]?.getD ("", fun _ => ("", "", "", true), 0)).2.1 k).1 = (z_y mi).cls) (hn : narrow (z_tyAt ci k) (z_v G v) = z_v G v) (hfit : fits (z_tyAt ci k) (z_v G v) = true) (kk : z_W G d mc ms mi nx L st (z_set h a (.inr (ci, fs.set k v))) Q) : z_W G d mc ms mi pc L (v :: .ref a :: st) h Q := by
  obtain ⟨hd, rfl⟩ := z_dn (n := 3) hr rfl (by decide)
  obtain ⟨q, hq, hk, hf⟩ := z_fldOf (pc := pc) (z_lkOf hr)
  obtain ⟨C0, T, N⟩ := q
  rw [hq] at hfin hown
  intro p e R s m args below meth c H locs cells slots MC MS ls C r hS hL hR
  obtain ⟨hin, hty, hnm⟩ := z_clOk hq
  have hts := C.2.2.2.2.2.1
  have hK := (C.2.2.2.2.2.2.2.2.2.1).1
  have hap := va_apart (own := C0) hts hin (z_tyAt ci) hty hnm hK hq
  obtain ⟨a1, a2, hat⟩ := hR.2 a _ hc
  obtain ⟨r9, h1, cell, q1, q2, q3, q4⟩ := hat
  have hr9 : r9 = (C0, T, N) := Option.some.inj (h1.symm.trans hq)
  subst hr9
  obtain ⟨hSl, hfc, kC, hkC, hkind⟩ := hK.1 ci _ hq
  obtain ⟨cf, kf, fi, f, hi, hsl⟩ := hSl k hk
  have hlay := hts _ (hin _ (u_in_lay hk))
  unfold u_lay at hlay
  rw [if_pos (show (T k).2.2.2 = true from hfin)] at hlay
  have hst := (u_facts hfc hkC (u_lays hts hin hk) hi).1
  have hcf : m.cls = cf := by
    obtain ⟨_, _, c', _, _, _, -, -, hf', -, -, -, hown2, -⟩ := Cond.laysFinal_spec hlay
    have e1 : c' = cf := by have := hi.symm.trans hf'; simp at this; exact this.1.symm
    rw [show (T k).1 = (z_y mi).cls from hown] at hown2
    rw [← e1]; exact Option.some.inj ((C.2.2.2.2.1).symm.trans hown2)
  have h6 := u_fits hfc hkC hkind (Or.inr hlay) hi (hty k hk) hn hfit
  have fin : ∀ H' : Heap, H'[z_ad G a]? = some (cell.setSlot f.slot (z_v G v)) → H'.size = H.size → (∀ q, q ≠ z_ad G a → H'[q]? = H[q]?) → z_R G (z_set h a (.inr (ci, fs.set k v))) H' := by
    intro H' e1 e2 e3
    rw [hsl] at e1
    refine hR.set hc e2 e3 ⟨_, hq, t_OB.to (V := updV (vp_V (fs.map (z_v G))) k (z_v G v)) ⟨_, e1, q2, q3, t_set q4 hap hk (z_v G v)⟩ (fun j9 _ => ?_)⟩
    rw [List.map_set]
    exact vp_updV_set (by rw [List.length_map]; exact hl) (z_v G v) j9
  rcases z_flOf hf with hw | ⟨host, hw⟩
  · refine W.putFinK C.1 C.2.1 C.2.2.2.2.1 (hts _ hw) hi hst hcf (C.2.2.2.2.2.2.2.1.trans hini) (by rw [q2]; exact h6) q1 q3 (by rw [hsl]; exact k2_hasslot (q4 k hk)) rfl rfl hd fun H' e1 e2 e3 => ?_
    exact kk p e R s m args below meth c H' _ cells slots MC MS ls C r (hS.put e2 e3 (z_adA a1)) hL (fin H' e1 e2 e3)
  · have hw2 : Cond.fieldLinkNest (z_y mi).cls idx (T k).1 (T k).2.1 (T k).2.2.1 host ∈ lw_tbl := hw
    exact absurd (List.all_eq_true.mp z_noNest _ hw2) (by
      show ¬ (z_nest (Cond.fieldLinkNest (z_y mi).cls idx (T k).1 (T k).2.1 (T k).2.2.1 host) = true)
      rw [show (T k).1 = (z_y mi).cls from hown]
      simp [z_nest])
theorem z_iald {a n : Nat} {f : Nat → Int32} {i : Int32} (hr : z_at mi pc = some (.iaload, nx, info)) (hc : h.2 a = some (.inl (0, n, .inl f))) (hi : vp_in i n) (kk : z_W G d mc ms mi nx L (.int (f i.toNatClampNeg) :: st) h Q) : z_W G d mc ms mi pc L (.int i :: .ref a :: st) h Q := by
  obtain ⟨hd, rfl⟩ := z_dn (n := 1) hr rfl (by decide)
  intro p e R s m args below meth c H locs cells slots MC MS ls C r hS hL hR
  exact va_iald C.1 C.2.1 (C.2.2.2.2.2.2.2.2.2.1).1 (hR.one hc) 0 0 rfl rfl hi hd (kk p e R s m args below meth c H locs cells slots MC MS ls C r hS hL hR)
theorem z_bald {a n : Nat} {f : Nat → Int32} {i : Int32} (hr : z_at mi pc = some (.baload, nx, info)) (hc : h.2 a = some (.inl (2, n, .inl f))) (hi : vp_in i n) (kk : z_W G d mc ms mi nx L (.int (f i.toNatClampNeg) :: st) h Q) : z_W G d mc ms mi pc L (.int i :: .ref a :: st) h Q := by
  obtain ⟨hd, rfl⟩ := z_dn (n := 1) hr rfl (by decide)
  intro p e R s m args below meth c H locs cells slots MC MS ls C r hS hL hR
  exact va_bald C.1 C.2.1 (C.2.2.2.2.2.2.2.2.2.1).1 (hR.one hc) 0 2 rfl rfl hi hd (kk p e R s m args below meth c H locs cells slots MC MS ls C r hS hL hR)
theorem z_aald {a n k : Nat} {f : Nat → Option Nat} {i : Int32} (hr : z_at mi pc = some (.aaload, nx, info)) (hc : h.2 a = some (.inl (5, n, .inr (.inr (.inr (.inr f)))))) (hi : vp_in i n) (hk : f i.toNatClampNeg = some k) (kk : z_W G d mc ms mi nx L (.ref k :: st) h Q) : z_W G d mc ms mi pc L (.int i :: .ref a :: st) h Q := by
  obtain ⟨hd, rfl⟩ := z_dn (n := 1) hr rfl (by decide)
  intro p e R s m args below meth c H locs cells slots MC MS ls C r hS hL hR
  refine va_aldq C.1 C.2.1 (C.2.2.2.2.2.2.2.2.2.1).1 (hR.one hc) 0 5 rfl rfl hi hd ?_
  have ev : va_rf ((f i.toNatClampNeg).map (z_ad G)) = z_v G (.ref k) := by rw [hk]; rfl
  have w := kk p e R s m args below meth c H locs cells slots MC MS ls C r hS hL hR
  rw [List.map_cons, ← ev] at w
  exact w
theorem z_alen {a t n : Nat} {u : (Nat → Int32) ⊕ (Nat → Int64) ⊕ (Nat → UInt32) ⊕ (Nat → UInt64) ⊕ (Nat → Option Nat)} (hr : z_at mi pc = some (.arraylength, nx, info)) (hc : h.2 a = some (.inl (t, n, u))) (ht : t < 6) (kk : z_W G d mc ms mi nx L (.int (Int32.ofNat n) :: st) h Q) : z_W G d mc ms mi pc L (.ref a :: st) h Q := by
  obtain ⟨hd, rfl⟩ := z_dn (n := 1) hr rfl (by decide)
  intro p e R s m args below meth c H locs cells slots MC MS ls C r hS hL hR
  have hty : (z_tys G)[t]? = some (G.2.2.2.2.1 t, z_tyOf t) := by
    match t, ht with
    | 0, _ => rfl
    | 1, _ => rfl
    | 2, _ => rfl
    | 3, _ => rfl
    | 4, _ => rfl
    | 5, _ => rfl
    | t + 6, ht => omega
  have hz : (z_ea G (n, u)).1 = n := by
    rcases u with f | f | f | f | f <;> rfl
  exact va_alen C.1 C.2.1 (C.2.2.2.2.2.2.2.2.2.1).1 (hR.one hc) 0 t (x := z_ea G (n, u)) rfl hty (by rw [hz]) hd (kk p e R s m args below meth c H locs cells slots MC MS ls C r hS hL hR)
theorem z_iast {a n : Nat} {f : Nat → Int32} {i : Int32} {x : Int32} (hr : z_at mi pc = some (.iastore, nx, info)) (hc : h.2 a = some (.inl (0, n, .inl f))) (hi : vp_in i n) (kk : z_W G d mc ms mi nx L st (z_set h a (.inl (0, n, .inl (upd f i.toNatClampNeg x)))) Q) : z_W G d mc ms mi pc L (.int x :: .int i :: .ref a :: st) h Q := by
  obtain ⟨hd, rfl⟩ := z_dn (n := 1) hr rfl (by decide)
  intro p e R s m args below meth c H locs cells slots MC MS ls C r hS hL hR
  obtain ⟨a1, a2, hat⟩ := hR.2 a _ hc
  refine W.iast C.1 C.2.1 hat ((C.2.2.2.2.2.2.2.2.2.1).1.2 0 _ rfl |>.1 n (fun j => .int (f j))) (fun q => by cases q) (by show ¬ (i < 0 ∨ (arrV _ _ _).slots.size ≤ _); rw [arrV_size]; exact hi) rfl rfl hd fun H1 e z oq => ?_
  refine kk p _ R s m args below meth c H1 _ cells slots MC MS ls C r (hS.put z oq (z_adA a1)) hL (hR.set hc z oq ?_)
  show H1[z_ad G a]? = some (vp_cell _ _)
  rw [e]
  show some (Cell.setSlot (vp_cell (G.2.2.2.2.1 0) (n, .inl f)) _ _) = some (vp_cell (G.2.2.2.2.1 0) (n, .inl (upd f i.toNatClampNeg x)))
  rw [vp_cell_i, vp_cell_i, arrV_store]
  congr 2
  funext q
  by_cases hq : q = i.toNatClampNeg
  · subst hq
    simp [updV, upd, vp_nar, vp_updL, vf_upd]
    try rfl
  · simp [updV, upd, vp_updL, vf_upd, hq]
theorem z_bast {a n : Nat} {f : Nat → Int32} {i : Int32} {x : Int32} (hr : z_at mi pc = some (.bastore, nx, info)) (hc : h.2 a = some (.inl (2, n, .inl f))) (hi : vp_in i n) (kk : z_W G d mc ms mi nx L st (z_set h a (.inl (2, n, .inl (upd f i.toNatClampNeg (vp_nar .byte x))))) Q) : z_W G d mc ms mi pc L (.int x :: .int i :: .ref a :: st) h Q := by
  obtain ⟨hd, rfl⟩ := z_dn (n := 1) hr rfl (by decide)
  intro p e R s m args below meth c H locs cells slots MC MS ls C r hS hL hR
  obtain ⟨a1, a2, hat⟩ := hR.2 a _ hc
  refine W.bast C.1 C.2.1 hat ((C.2.2.2.2.2.2.2.2.2.1).1.2 2 _ rfl |>.1 n (fun j => .int (f j))) (fun q => by cases q) (by show ¬ (i < 0 ∨ (arrV _ _ _).slots.size ≤ _); rw [arrV_size]; exact hi) rfl rfl hd fun H1 e z oq => ?_
  refine kk p _ R s m args below meth c H1 _ cells slots MC MS ls C r (hS.put z oq (z_adA a1)) hL (hR.set hc z oq ?_)
  show H1[z_ad G a]? = some (vp_cell _ _)
  rw [e]
  show some (Cell.setSlot (vp_cell (G.2.2.2.2.1 2) (n, .inl f)) _ _) = some (vp_cell (G.2.2.2.2.1 2) (n, .inl (upd f i.toNatClampNeg (vp_nar .byte x))))
  rw [vp_cell_i, vp_cell_i, arrV_store]
  congr 2
  funext q
  by_cases hq : q = i.toNatClampNeg
  · subst hq
    simp [updV, upd, vp_nar, vp_updL, vf_upd]
    try rfl
  · simp [updV, upd, vp_updL, vf_upd, hq]
/-- the ends -/
theorem z_iret {a : Int32} (hr : z_at mi pc = some (.ireturn, nx, info)) (ht : z_rt mi = some .int) (q : Q (.inl (some (.int a))) h) : z_W G d mc ms mi pc L [.int a] h Q := by
  obtain ⟨hd, rfl⟩ := z_dn (n := 1) hr rfl (by decide)
  intro p e R s m args below meth c H locs cells slots MC MS ls C r hS hL hR
  have hlocks := C.2.2.2.2.2.2.1
  refine vx_ret (W.widen (k := MC) (n := MS) (by omega) (by omega) ?_)
  exact W.iret C.1 C.2.1 (C.2.2.2.1.trans ht) (fun t ht hW => ⟨⟨some (.int a), h, rfl, q, by rw [ht]; exact hR⟩, hS.F ht⟩) hS.2.2 hd
theorem z_zret {a : Int32} {ty : FieldType} (hr : z_at mi pc = some (.ireturn, nx, info)) (ht : z_rt mi = some ty) (hn : narrow ty (.int a) = .int a) (q : Q (.inl (some (.int a))) h) : z_W G d mc ms mi pc L [.int a] h Q := by
  obtain ⟨hd, rfl⟩ := z_dn (n := 1) hr rfl (by decide)
  intro p e R s m args below meth c H locs cells slots MC MS ls C r hS hL hR
  have hlocks := C.2.2.2.2.2.2.1
  refine vx_ret (W.widen (k := MC) (n := MS) (by omega) (by omega) ?_)
  exact W.zret C.1 C.2.1 (C.2.2.2.1.trans ht) hn (fun t ht hW => ⟨⟨some (.int a), h, rfl, q, by rw [ht]; exact hR⟩, hS.F ht⟩) hS.2.2 hd
theorem z_vret (hr : z_at mi pc = some (.return_, nx, info)) (ht : z_rt mi = none) (q : Q (.inl none) h) : z_W G d mc ms mi pc L [] h Q := by
  obtain ⟨hd, rfl⟩ := z_dn (n := 1) hr rfl (by decide)
  intro p e R s m args below meth c H locs cells slots MC MS ls C r hS hL hR
  have hlocks := C.2.2.2.2.2.2.1
  refine vx_ret (W.widen (k := MC) (n := MS) (by omega) (by omega) ?_)
  exact W.vret C.1 C.2.1 (C.2.2.2.1.trans ht) (fun t ht hW => ⟨⟨none, h, rfl, q, by rw [ht]; exact hR⟩, hS.F ht⟩) hS.2.2 hd
theorem z_aret {v : Value} {ty : FieldType} (hr : z_at mi pc = some (.areturn, nx, info)) (ht : z_rt mi = some ty) (hty : (∃ n, ty = .object n) ∨ ∃ t, ty = .array t) (hv : v = .null ∨ ∃ a, v = .ref a) (q : Q (.inl (some v)) h) : z_W G d mc ms mi pc L [v] h Q := by
  obtain ⟨hd, rfl⟩ := z_dn (n := 1) hr rfl (by decide)
  intro p e R s m args below meth c H locs cells slots MC MS ls C r hS hL hR
  have hlocks := C.2.2.2.2.2.2.1
  refine vx_ret (W.widen (k := MC) (n := MS) (by omega) (by omega) ?_)
  exact W.aret C.1 C.2.1 (C.2.2.2.1.trans ht) hty (by rcases hv with rfl | ⟨a, rfl⟩; exact Or.inl rfl; exact Or.inr ⟨_, rfl⟩) (fun t ht hW => ⟨⟨some v, h, rfl, q, by rw [ht]; exact hR⟩, hS.F ht⟩) hS.2.2 hd
theorem z_fret {a : UInt32} (hr : z_at mi pc = some (.freturn, nx, info)) (ht : z_rt mi = some .float) (q : Q (.inl (some (.float a))) h) : z_W G d mc ms mi pc L [.float a] h Q := by
  obtain ⟨hd, rfl⟩ := z_dn (n := 1) hr rfl (by decide)
  intro p e R s m args below meth c H locs cells slots MC MS ls C r hS hL hR
  have hlocks := C.2.2.2.2.2.2.1
  refine vx_ret (W.widen (k := MC) (n := MS) (by omega) (by omega) ?_)
  exact W.fret C.1 C.2.1 (C.2.2.2.1.trans ht) (fun t ht hW => ⟨⟨some (.float a), h, rfl, q, by rw [ht]; exact hR⟩, hS.F ht⟩) hS.2.2 hd
theorem z_dret {a : UInt64} (hr : z_at mi pc = some (.dreturn, nx, info)) (ht : z_rt mi = some .double) (q : Q (.inl (some (.double a))) h) : z_W G d mc ms mi pc L [.double a] h Q := by
  obtain ⟨hd, rfl⟩ := z_dn (n := 1) hr rfl (by decide)
  intro p e R s m args below meth c H locs cells slots MC MS ls C r hS hL hR
  have hlocks := C.2.2.2.2.2.2.1
  refine vx_ret (W.widen (k := MC) (n := MS) (by omega) (by omega) ?_)
  exact W.dret C.1 C.2.1 (C.2.2.2.1.trans ht) (fun t ht hW => ⟨⟨some (.double a), h, rfl, q, by rw [ht]; exact hR⟩, hS.F ht⟩) hS.2.2 hd
end ZH
