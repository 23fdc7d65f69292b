/-! ClockParliamentModel: its object, its small methods. -/
/-- numbers by field, contents of its rows by their place behind it -/
abbrev z_MV : Type := (Nat → Int32) × (Nat → Nat → Int32)
def z_mt (j : Nat) : Nat := if j = 6 ∨ j = 7 then 1 else 0
def z_mz (j : Nat) : Nat := if j = 4 then 840 else if j = 6 then 60 else if j = 7 then 40 else if j = 8 then 240 else 105
def z_Mo (h : z_H) (a : Nat) (m : z_MV) : Prop := h.2 a = some (.inr (9, [.ref (a + 1), .ref (a + 2), .ref (a + 3), .ref (a + 4), .int (m.1 4), .ref (a + 5), .int (m.1 6), .ref (a + 6), .int (m.1 8), .int (m.1 9), .int (m.1 10), .int (m.1 11), .int (m.1 12), .int (m.1 13), .ref (a + 7), .int (m.1 15), .int (m.1 16), .int (m.1 17), .int (m.1 18), .ref (a + 8)])) ∧ ∀ j, 1 ≤ j ∧ j ≤ 8 → h.2 (a + j) = some (.inl (z_mt j, z_mz j, .inl (m.2 j)))
def z_mS (m : z_MV) (k : Nat) (x : Int32) : z_MV := (fun i => if i = k then x else m.1 i, m.2)
def z_mF (m : z_MV) (j : Nat) (f : Nat → Int32) : z_MV := (m.1, fun i => if i = j then f else m.2 i)
theorem z_Mo.kept {h h' : z_H} {a b n : Nat} {m : z_MV} (hM : z_Mo h a m) (hF : z_Fr b n h h') (hd : a + 9 ≤ b ∨ b + n ≤ a) : z_Mo h' a m := ⟨(hF.2 _ (by omega)).trans hM.1, fun j hj => (hF.2 _ (by omega)).trans (hM.2 j hj)⟩
theorem z_Mo.keptX {h h' : z_H} {a : Nat} {m : z_MV} (hM : z_Mo h a m) (hF : ∀ k, a ≤ k → k < a + 9 → h'.2 k = h.2 k) : z_Mo h' a m := ⟨(hF _ (by omega) (by omega)).trans hM.1, fun j hj => (hF _ (by omega) (by omega)).trans (hM.2 j hj)⟩
theorem z_Mo.eqv {h : z_H} {a : Nat} {m m' : z_MV} (hM : z_Mo h a m) (h1 : ∀ i, m'.1 i = m.1 i) (h2 : ∀ i, m'.2 i = m.2 i) : z_Mo h a m' := by
  have e1 : m'.1 = m.1 := funext h1
  have e2 : m'.2 = m.2 := funext h2
  unfold z_Mo
  rw [e1, e2]
  exact hM
theorem z_mFid (m : z_MV) (j i : Nat) : (z_mF m j (m.2 j)).2 i = m.2 i := by
  show (if i = j then m.2 j else m.2 i) = _
  by_cases e : i = j
  · rw [if_pos e, e]
  · rw [if_neg e]
def z_msc (k : Nat) : Bool := [4, 6, 8, 9, 10, 11, 12, 13, 15, 16, 17, 18].contains k
section ZMr
variable {G : z_G} {d mc ms mi pc nx : Nat} {L st : List Value} {h : z_H} {Q : z_O → z_H → Prop} {info : List Nat} {a : Nat} {m : z_MV}
theorem z_ildE {r n k : Nat} {f : Nat → Int32} {i : Int32} (hr : z_at mi pc = some (.iaload, nx, info)) (hc : h.2 r = some (.inl (0, n, .inl f))) (hi : i = nI k) (hk : k < n) (kk : z_W G d mc ms mi nx L (.int (f k) :: st) h Q) (hn : n < 2 ^ 31 := by decide) : z_W G d mc ms mi pc L (.int i :: .ref r :: st) h Q := by
  subst hi
  refine z_iald hr hc (vp_in_nI hk hn) ?_
  rw [nI_clamp (by omega)]
  exact kk
theorem z_cldE {r n k : Nat} {f : Nat → Int32} {i : Int32} (hr : z_at mi pc = some (.caload, nx, info)) (hc : h.2 r = some (.inl (1, n, .inl f))) (hi : i = nI k) (hk : k < n) (kk : z_W G d mc ms mi nx L (.int (f k) :: st) h Q) (hn : n < 2 ^ 31 := by decide) : z_W G d mc ms mi pc L (.int i :: .ref r :: st) h Q := by
  subst hi
  refine z_cald hr hc (vp_in_nI hk hn) ?_
  rw [nI_clamp (by omega)]
  exact kk
theorem z_Mo.setA {j : Nat} {f : Nat → Int32} (hM : z_Mo h a m) (hj : 1 ≤ j ∧ j ≤ 8) : z_Mo (z_set h (a + j) (.inl (z_mt j, z_mz j, .inl f))) a (z_mF m j f) ∧ z_Fr a 9 h (z_set h (a + j) (.inl (z_mt j, z_mz j, .inl f))) := by
  refine ⟨⟨(z_set_ne _ _ (by omega)).trans hM.1, fun i hi => ?_⟩, ⟨rfl, fun k hk => z_set_ne _ _ (by omega)⟩⟩
  by_cases e : i = j
  · subst e
    rw [z_set_eq]
    show _ = some (Sum.inl (_, _, Sum.inl (if i = i then f else m.2 i)))
    rw [if_pos rfl]
  · rw [z_set_ne _ _ (by omega), hM.2 i hi]
    show _ = some (Sum.inl (_, _, Sum.inl (if i = j then f else m.2 i)))
    rw [if_neg e]
theorem z_istM {j k : Nat} {i x : Int32} (hr : z_at mi pc = some (.iastore, nx, info)) (hM : z_Mo h a m) (hj : 1 ≤ j ∧ j ≤ 8 ∧ z_mt j = 0) (hi : i = nI k) (hk : k < z_mz j) (kk : ∀ h', z_Mo h' a (z_mF m j (upd (m.2 j) k x)) → z_Fr a 9 h h' → z_W G d mc ms mi nx L st h' Q) : z_W G d mc ms mi pc L (.int x :: .int i :: .ref (a + j) :: st) h Q := by
  subst hi
  have hn : z_mz j < 2 ^ 31 := by unfold z_mz; split; decide; split; decide; split; decide; split <;> decide
  have hc := hM.2 j ⟨hj.1, hj.2.1⟩
  rw [hj.2.2] at hc
  refine z_iast hr hc (vp_in_nI hk hn) ?_
  rw [nI_clamp (by omega), ← hj.2.2]
  obtain ⟨h1, h2⟩ := hM.setA (f := upd (m.2 j) k x) ⟨hj.1, hj.2.1⟩
  exact kk _ h1 h2
theorem z_cstM {j k : Nat} {i x : Int32} (hr : z_at mi pc = some (.castore, nx, info)) (hM : z_Mo h a m) (hj : 1 ≤ j ∧ j ≤ 8 ∧ z_mt j = 1) (hi : i = nI k) (hk : k < z_mz j) (kk : ∀ h', z_Mo h' a (z_mF m j (upd (m.2 j) k (vp_nar .char x))) → z_Fr a 9 h h' → z_W G d mc ms mi nx L st h' Q) : z_W G d mc ms mi pc L (.int x :: .int i :: .ref (a + j) :: st) h Q := by
  subst hi
  have hn : z_mz j < 2 ^ 31 := by unfold z_mz; split; decide; split; decide; split; decide; split <;> decide
  have hc := hM.2 j ⟨hj.1, hj.2.1⟩
  rw [hj.2.2] at hc
  refine z_cast hr hc (vp_in_nI hk hn) ?_
  rw [nI_clamp (by omega), ← hj.2.2]
  obtain ⟨h1, h2⟩ := hM.setA (f := upd (m.2 j) k (vp_nar .char x)) ⟨hj.1, hj.2.1⟩
  exact kk _ h1 h2
theorem z_putM {idx k j : Nat} {x : Int32} (hr : z_at mi pc = some (.putfield idx, nx, [0, 9, k, j])) (hM : z_Mo h a m) (hk : z_msc k = true) (hn : narrow (z_tyAt 9 k) (.int x) = .int x) (hf : fits (z_tyAt 9 k) (.int x) = true) (kk : ∀ h', z_Mo h' a (z_mS m k x) → z_Fr a 9 h h' → z_W G d mc ms mi nx L st h' Q) : z_W G d mc ms mi pc L (.int x :: .ref a :: st) h Q := by
  have hkk : k = 4 ∨ k = 6 ∨ k = 8 ∨ k = 9 ∨ k = 10 ∨ k = 11 ∨ k = 12 ∨ k = 13 ∨ k = 15 ∨ k = 16 ∨ k = 17 ∨ k = 18 := by
    simp [z_msc] at hk
    omega
  have fin : ∀ fs : List Value, fs = [.ref (a + 1), .ref (a + 2), .ref (a + 3), .ref (a + 4), .int ((z_mS m k x).1 4), .ref (a + 5), .int ((z_mS m k x).1 6), .ref (a + 6), .int ((z_mS m k x).1 8), .int ((z_mS m k x).1 9), .int ((z_mS m k x).1 10), .int ((z_mS m k x).1 11), .int ((z_mS m k x).1 12), .int ((z_mS m k x).1 13), .ref (a + 7), .int ((z_mS m k x).1 15), .int ((z_mS m k x).1 16), .int ((z_mS m k x).1 17), .int ((z_mS m k x).1 18), .ref (a + 8)] → z_W G d mc ms mi nx L st (z_set h a (.inr (9, fs))) Q := by
    intro fs hfs
    subst hfs
    refine kk _ ⟨z_set_eq _ _ _, fun i hi => (z_set_ne _ _ (by omega)).trans (hM.2 i hi)⟩ ⟨rfl, fun q hq => z_set_ne _ _ (by omega)⟩
  refine z_put hr hM.1 (by simp; omega) ?_ hn hf (fin _ ?_)
  · rcases hkk with rfl | rfl | rfl | rfl | rfl | rfl | rfl | rfl | rfl | rfl | rfl | rfl <;> rfl
  · rcases hkk with rfl | rfl | rfl | rfl | rfl | rfl | rfl | rfl | rfl | rfl | rfl | rfl <;> rfl
end ZMr
def z_inR (v lo hi : Int32) : Bool := decide (lo ≤ v) && decide (v ≤ hi)
def z_mRf (m : z_MV) (pr : Int32 × Int32) : z_MV := z_mS (z_mS (z_mS (z_mS (z_mS m 10 pr.1) 11 pr.2) 12 0) 13 0) 16 1
def z_cpyF (f : Nat → Int32) (A : Nat) (g : Nat → Int32) (T n : Nat) : Nat → Int32 := fun q => if T ≤ q ∧ q < T + n then f (A + (q - T)) else g q
def z_apt (x y : Int32) : Int32 := if 30 < (if y < x then x - y else y - x) then 60 - (if y < x then x - y else y - x) else (if y < x then x - y else y - x)
def z_clF (g : Nat → Int32) (at0 c n : Nat) : Nat → Int32 := fun q => if q = at0 + n - 1 then 0 else if at0 + c ≤ q ∧ q < at0 + n - 1 then g (q + 1) else g q
def z_shf (t g : Int32) : Int32 := if t = g + 1 then 0 else if g < t then t - 1 else t
section ZMs
variable {G : z_G} {h : z_H} {Q : z_O → z_H → Prop} {a : Nat} {m : z_MV}
theorem cM_thrown (hM : z_Mo h a m) (q : Q (.inl (some (.int (m.1 16)))) h) : z_W G 0 0 0 161 0 (z_L0 161 [.ref a]) [] h Q := by
  refine z_aload_n rfl rfl ?_
  refine z_get rfl hM.1 rfl ?_
  refine z_iret rfl rfl ?_
  exact q
theorem cM_in {v lo hi : Int32} (q : Q (.inl (some (.int (z_I (z_inR v lo hi))))) h) : z_W G 0 0 0 162 0 (z_L0 162 [.int v, .int lo, .int hi]) [] h Q := by
  unfold z_I z_inR at q
  refine z_iload_n rfl rfl ?_
  refine z_iload_n rfl rfl ?_
  refine z_icmp_lt rfl (fun c2 => ?_) (fun c2 => ?_)
  · refine z_iconst (v := 0) rfl (by decide) ?_
    refine z_zret (ty := .boolean) rfl rfl (by first | decide | exact z_nb _) ?_
    rw [if_neg (by rw [← Int32.not_le] at c2; simp [c2])] at q; exact q
  · refine z_iload_n rfl rfl ?_
    refine z_iload_n rfl rfl ?_
    refine z_icmp_gt rfl (fun c7 => ?_) (fun c7 => ?_)
    · refine z_iconst (v := 0) rfl (by decide) ?_
      refine z_zret (ty := .boolean) rfl rfl (by first | decide | exact z_nb _) ?_
      rw [if_neg (by rw [← Int32.not_le] at c7; simp [c7])] at q; exact q
    · refine z_iconst (v := 1) rfl (by decide) ?_
      refine z_goto rfl ?_
      refine z_zret (ty := .boolean) rfl rfl (by first | decide | exact z_nb _) ?_
      rw [if_pos (by rw [Int32.not_lt] at c2 c7; simp [c2, c7])] at q; exact q
theorem cM_done {v : Int32} (hM : z_Mo h a m) (q : ∀ h', z_Mo h' a (z_mS m 16 0) → z_Fr a 9 h h' → Q (.inl (some (.int v))) h') : z_W G 0 0 0 163 0 (z_L0 163 [.ref a, .int v]) [] h Q := by
  refine z_aload_n rfl rfl ?_
  refine z_iconst (v := 0) rfl (by decide) ?_
  refine z_putM rfl hM (by decide) rfl rfl (fun h1 hC1 hF1 => ?_)
  refine z_iload_n rfl rfl ?_
  refine z_iret rfl rfl ?_
  exact q _ hC1 hF1
theorem cM_fails {v : Int32} (hM : z_Mo h a m) (q : ∀ h', z_Mo h' a (z_mS m 16 v) → z_Fr a 9 h h' → Q (.inl (some (.int 0))) h') : z_W G 0 0 0 164 0 (z_L0 164 [.ref a, .int v]) [] h Q := by
  refine z_aload_n rfl rfl ?_
  refine z_iload_n rfl rfl ?_
  refine z_putM rfl hM (by decide) rfl rfl (fun h1 hC1 hF1 => ?_)
  refine z_iconst (v := 0) rfl (by decide) ?_
  refine z_iret rfl rfl ?_
  exact q _ hC1 hF1
theorem cM_refused {v d : Int32} (hM : z_Mo h a m) (q : ∀ h', z_Mo h' a (z_mRf m (v, d)) → z_Fr a 9 h h' → Q (.inl (some (.int 0))) h') : z_W G 1 0 0 165 0 (z_L0 165 [.ref a, .int v, .int d]) [] h Q := by
  refine z_aload_n rfl rfl ?_
  refine z_iload_n rfl rfl ?_
  refine z_putM rfl hM (by decide) rfl rfl (fun h1 hC1 hF1 => ?_)
  refine z_aload_n rfl rfl ?_
  refine z_iload_n rfl rfl ?_
  refine z_putM rfl hC1 (by decide) rfl rfl (fun h2 hC2 hF2 => ?_)
  refine z_aload_n rfl rfl ?_
  refine z_iconst (v := 0) rfl (by decide) ?_
  refine z_putM rfl hC2 (by decide) rfl rfl (fun h3 hC3 hF3 => ?_)
  refine z_aload_n rfl rfl ?_
  refine z_iconst (v := 0) rfl (by decide) ?_
  refine z_putM rfl hC3 (by decide) rfl rfl (fun h4 hC4 hF4 => ?_)
  refine z_aload_n rfl rfl ?_
  refine z_iconst (v := 1) rfl (by decide) ?_
  refine z_callV (av := [_]) rfl z_w164 hC4.1 rfl rfl rfl rfl rfl (Nat.le_of_ble_eq_true rfl) (Nat.le_of_ble_eq_true rfl) (Nat.le_of_ble_eq_true rfl) (Nat.le_of_ble_eq_true rfl) (cM_fails hC4 (fun h9 hM9 hF9 => ?_))
  refine z_iret rfl rfl ?_
  exact q _ hM9 ((((hF1.trans hF2).trans hF3).trans hF4).trans hF9)
theorem cM_copy {j1 j2 A T : Nat} (hj1 : 1 ≤ j1 ∧ j1 ≤ 8 ∧ z_mt j1 = 0) (hj2 : 1 ≤ j2 ∧ j2 ≤ 8 ∧ z_mt j2 = 0) (hne : j1 ≠ j2) (hA : A + 105 ≤ z_mz j1) (hT : T + 105 ≤ z_mz j2) (hM : z_Mo h a m) (q : ∀ h', z_Mo h' a (z_mF m j2 (z_cpyF (m.2 j1) A (m.2 j2) T 105)) → z_Fr a 9 h h' → Q (.inl none) h') : z_W G 0 0 0 166 0 (z_L0 166 [.ref (a + j1), .int (nI A), .ref (a + j2), .int (nI T)]) [] h Q := by
  have hb : ∀ j, z_mz j ≤ 840 := fun j => by unfold z_mz; split; decide; split; decide; split; decide; split <;> decide
  have hb1 := hb j1
  have hb2 := hb j2
  have loop : ∀ (k i : Nat) (hh : z_H) (g : Nat → Int32), i + k = 105 → z_Mo hh a (z_mF m j2 g) → (∀ q, g q = z_cpyF (m.2 j1) A (m.2 j2) T i q) → z_Fr a 9 h hh → z_W G 0 0 0 166 3 [.ref (a + j1), .int (nI A), .ref (a + j2), .int (nI T), .int (nI i)] [] hh Q := by
    intro k
    induction k with
    | zero =>
      intro i hh g hi hD hg hF
      refine z_iload rfl rfl ?_
      refine z_bipush (v := 105) rfl (by decide) ?_
      refine z_icmp_ge rfl (fun c7 => ?_) (fun c7 => absurd (show (105 : Int32) ≤ nI i from (nI_leI (a := 105) (by decide) (by omega)).mpr (by omega)) c7)
      refine z_vret rfl rfl ?_
      obtain rfl : i = 105 := by omega
      exact q _ (hD.eqv (fun _ => rfl) (fun i => by rw [show g = _ from funext hg])) hF
    | succ k ih =>
      intro i hh g hi hD hg hF
      have c1 : hh.2 (a + j1) = some (.inl (0, z_mz j1, .inl (m.2 j1))) := by
        have e := hD.2 j1 ⟨hj1.1, hj1.2.1⟩
        rw [hj1.2.2] at e
        rw [e]
        show some (Sum.inl (_, _, Sum.inl (if j1 = j2 then g else m.2 j1))) = _
        rw [if_neg hne]
      refine z_iload rfl rfl ?_
      refine z_bipush (v := 105) rfl (by decide) ?_
      refine z_icmp_ge rfl (fun c7 => absurd c7 (show ¬ (105 : Int32) ≤ nI i from fun e9 => absurd ((nI_leI (a := 105) (by decide) (by omega)).mp e9) (by omega))) (fun c7 => ?_)
      refine z_aload_n rfl rfl ?_
      refine z_iload_n rfl rfl ?_
      refine z_iload rfl rfl ?_
      refine z_iadd rfl ?_
      refine z_aload_n rfl rfl ?_
      refine z_iload_n rfl rfl ?_
      refine z_iload rfl rfl ?_
      refine z_iadd rfl ?_
      rw [nI_add, nI_add]
      refine z_ildE rfl c1 (k := A + i) rfl (by omega) ?_ (by omega)
      refine z_istM (j := j2) rfl hD hj2 (k := T + i) rfl (by omega) (fun h1 hC1 hF1 => ?_)
      refine z_iinc1 rfl rfl (by decide +kernel) rfl ?_
      refine z_goto rfl (ih (i + 1) _ (upd g (T + i) (m.2 j1 (A + i))) (by omega) (hC1.eqv (fun _ => rfl) (fun i => ?_)) (fun q => ?_) (hF.trans hF1))
      · show (if i = j2 then _ else m.2 i) = if i = j2 then _ else (if i = j2 then g else m.2 i)
        split
        · rename_i e; show upd g _ _ = upd (if j2 = j2 then g else m.2 j2) _ _; rw [if_pos rfl]
        · rfl
      · show (if q = T + i then _ else g q) = if T ≤ q ∧ q < T + (i + 1) then m.2 j1 (A + (q - T)) else m.2 j2 q
        by_cases e : q = T + i
        · rw [if_pos e, if_pos (by omega), e, show A + (T + i - T) = A + i by omega]
        · rw [if_neg e, hg]; unfold z_cpyF; by_cases e2 : T ≤ q ∧ q < T + i
          · rw [if_pos e2, if_pos (by omega)]
          · rw [if_neg e2, if_neg (by omega)]
  refine z_iconst (v := nI 0) rfl (by decide) ?_
  refine z_istore rfl (by decide +kernel) rfl ?_
  exact loop 105 0 _ (m.2 j2) rfl (hM.eqv (fun _ => rfl) (z_mFid m j2)) (fun q => by unfold z_cpyF; rw [if_neg (by omega)]) (z_Fr.refl _ _ _)
theorem cM_looksBack (hM : z_Mo h a m) (q : ∀ h' m', z_Mo h' a m' → (m'.1 = m.1) → (∀ j, j ≠ 2 → m'.2 j = m.2 j) → (∀ q, q < 105 → m'.2 2 q = m.2 1 q) → z_Fr a 9 h h' → Q (.inl none) h') : z_W G 1 0 0 167 0 (z_L0 167 [.ref a]) [] h Q := by
  refine z_aload_n rfl rfl ?_
  refine z_get rfl hM.1 rfl ?_
  refine z_iconst (v := 0) rfl (by decide) ?_
  refine z_aload_n rfl rfl ?_
  refine z_get rfl hM.1 rfl ?_
  refine z_iconst (v := 0) rfl (by decide) ?_
  refine z_callS (av := [_, _, _, _]) rfl z_w166 rfl rfl rfl rfl (Nat.le_of_ble_eq_true rfl) (Nat.le_of_ble_eq_true rfl) (Nat.le_of_ble_eq_true rfl) (Nat.le_of_ble_eq_true rfl) (cM_copy (j1 := 1) (j2 := 2) (A := 0) (T := 0) (by decide) (by decide) (by decide) (by decide) (by decide) hM (fun h9 hM9 hF9 => ?_))
  refine z_vret rfl rfl ?_
  exact q _ _ hM9 rfl (fun j hj => if_neg hj) (fun k hk => by show (if 2 = 2 then z_cpyF _ _ _ _ _ else m.2 2) k = _; rw [if_pos rfl]; unfold z_cpyF; rw [if_pos (by omega), show 0 + (k - 0) = k by omega]) hF9
theorem cM_apartBy {x y : Int32} (q : Q (.inl (some (.int (z_apt x y)))) h) : z_W G 0 0 0 173 0 (z_L0 173 [.int x, .int y]) [] h Q := by
  unfold z_apt at q
  refine z_iload_n rfl rfl ?_
  refine z_iload_n rfl rfl ?_
  refine z_icmp_le rfl (fun c2 => ?_) (fun c2 => ?_)
  · refine z_iload_n rfl rfl ?_
    refine z_iload_n rfl rfl ?_
    refine z_isub rfl ?_
    refine z_istore_n rfl (by decide +kernel) rfl ?_
    refine z_iload_n rfl rfl ?_
    refine z_bipush (v := 30) rfl (by decide) ?_
    refine z_icmp_le rfl (fun c18 => ?_) (fun c18 => ?_)
    · refine z_iload_n rfl rfl ?_
      refine z_iret rfl rfl ?_
      rw [if_neg (Int32.not_lt.mpr c2), if_neg (Int32.not_lt.mpr c18)] at q; exact q
    · refine z_bipush (v := 60) rfl (by decide) ?_
      refine z_iload_n rfl rfl ?_
      refine z_isub rfl ?_
      refine z_goto rfl ?_
      refine z_iret rfl rfl ?_
      rw [if_neg (Int32.not_lt.mpr c2), if_pos (Int32.not_le.mp c18)] at q; exact q
  · refine z_iload_n rfl rfl ?_
    refine z_iload_n rfl rfl ?_
    refine z_isub rfl ?_
    refine z_goto rfl ?_
    refine z_istore_n rfl (by decide +kernel) rfl ?_
    refine z_iload_n rfl rfl ?_
    refine z_bipush (v := 30) rfl (by decide) ?_
    refine z_icmp_le rfl (fun c18 => ?_) (fun c18 => ?_)
    · refine z_iload_n rfl rfl ?_
      refine z_iret rfl rfl ?_
      rw [if_pos (Int32.not_le.mp c2), if_neg (Int32.not_lt.mpr c18)] at q; exact q
    · refine z_bipush (v := 60) rfl (by decide) ?_
      refine z_iload_n rfl rfl ?_
      refine z_isub rfl ?_
      refine z_goto rfl ?_
      refine z_iret rfl rfl ?_
      rw [if_pos (Int32.not_le.mp c2), if_pos (Int32.not_le.mp c18)] at q; exact q
theorem cM_shifted {t g : Int32} (q : Q (.inl (some (.int (z_shf t g)))) h) : z_W G 0 0 0 177 0 (z_L0 177 [.int t, .int g]) [] h Q := by
  unfold z_shf at q
  refine z_iload_n rfl rfl ?_
  refine z_iload_n rfl rfl ?_
  refine z_iconst (v := 1) rfl (by decide) ?_
  refine z_iadd rfl ?_
  refine z_icmp_ne rfl (fun c4 => ?_) (fun c4 => ?_)
  · refine z_iload_n rfl rfl ?_
    refine z_iload_n rfl rfl ?_
    refine z_icmp_le rfl (fun c13 => ?_) (fun c13 => ?_)
    · refine z_iload_n rfl rfl ?_
      refine z_iret rfl rfl ?_
      rw [if_neg c4, if_neg (Int32.not_lt.mpr c13)] at q; exact q
    · refine z_iload_n rfl rfl ?_
      refine z_iconst (v := 1) rfl (by decide) ?_
      refine z_isub rfl ?_
      refine z_goto rfl ?_
      refine z_iret rfl rfl ?_
      rw [if_neg c4, if_pos (Int32.not_le.mp c13)] at q; exact q
  · refine z_iconst (v := 0) rfl (by decide) ?_
    refine z_goto rfl ?_
    refine z_iret rfl rfl ?_
    rw [if_pos c4] at q; exact q
theorem cM_closesUp {at0 c n : Nat} (hn : at0 + n ≤ 105) (hc : c < n) (hM : z_Mo h a m) (q : ∀ h', z_Mo h' a (z_mF m 1 (z_clF (m.2 1) at0 c n)) → z_Fr a 9 h h' → Q (.inl none) h') : z_W G 0 0 0 178 0 (z_L0 178 [.ref a, .int (nI at0), .int (nI c), .int (nI n)]) [] h Q := by
  have e9 : nI n - 1 = nI (n - 1) := by
    obtain ⟨k, hk⟩ : ∃ k, n = k + 1 := ⟨n - 1, by omega⟩
    rw [hk, nI_pred]; rfl
  have loop : ∀ (k i : Nat) (hh : z_H) (g : Nat → Int32), i + k = n - 1 → c ≤ i → z_Mo hh a (z_mF m 1 g) → (∀ q, g q = if at0 + c ≤ q ∧ q < at0 + i then m.2 1 (q + 1) else m.2 1 q) → z_Fr a 9 h hh → z_W G 0 0 0 178 3 [.ref a, .int (nI at0), .int (nI c), .int (nI n), .int (nI i)] [] hh Q := by
    intro k
    induction k with
    | zero =>
      intro i hh g hi hci hD hg hF
      have e8 : nI at0 + nI n - 1 = nI (at0 + n - 1) := by
        obtain ⟨k, hk⟩ : ∃ k, n = k + 1 := ⟨n - 1, by omega⟩
        rw [hk, nI_add, ← Nat.add_assoc, nI_pred]; rfl
      refine z_iload rfl rfl ?_
      refine z_iload_n rfl rfl ?_
      refine z_iconst (v := 1) rfl (by decide) ?_
      refine z_isub rfl ?_
      rw [e9]
      refine z_icmp_ge rfl (fun c8 => ?_) (fun c8 => absurd (show nI (n - 1) ≤ nI i from (nI_leI (by omega) (by omega)).mpr (by omega)) c8)
      refine z_aload_n rfl rfl ?_
      refine z_get rfl hD.1 rfl ?_
      refine z_iload_n rfl rfl ?_
      refine z_iload_n rfl rfl ?_
      refine z_iadd rfl ?_
      refine z_iconst (v := 1) rfl (by decide) ?_
      refine z_isub rfl ?_
      refine z_iconst (v := 0) rfl (by decide) ?_
      refine z_istM (j := 1) rfl hD (by decide) (k := at0 + n - 1) e8 (show at0 + n - 1 < 105 by omega) (fun h1 hC1 hF1 => ?_)
      refine z_vret rfl rfl ?_
      refine q _ (hC1.eqv (fun _ => rfl) (fun j => ?_)) (hF.trans hF1)
      show (if j = 1 then z_clF (m.2 1) at0 c n else m.2 j) = if j = 1 then upd (if 1 = 1 then g else m.2 1) (at0 + n - 1) 0 else (if j = 1 then g else m.2 j)
      split
      · funext y
        rw [if_pos rfl]; unfold z_clF upd
        by_cases e : y = at0 + n - 1
        · rw [if_pos e, if_pos e]
        · rw [if_neg e, if_neg e, hg, show at0 + i = at0 + n - 1 by omega]
      · rfl
    | succ k ih =>
      intro i hh g hi hci hD hg hF
      refine z_iload rfl rfl ?_
      refine z_iload_n rfl rfl ?_
      refine z_iconst (v := 1) rfl (by decide) ?_
      refine z_isub rfl ?_
      rw [e9]
      refine z_icmp_ge rfl (fun c8 => absurd c8 (show ¬ nI (n - 1) ≤ nI i from fun q9 => absurd ((nI_leI (by omega) (by omega)).mp q9) (by omega))) (fun c8 => ?_)
      refine z_aload_n rfl rfl ?_
      refine z_get rfl hD.1 rfl ?_
      refine z_iload_n rfl rfl ?_
      refine z_iload rfl rfl ?_
      refine z_iadd rfl ?_
      refine z_aload_n rfl rfl ?_
      refine z_get rfl hD.1 rfl ?_
      refine z_iload_n rfl rfl ?_
      refine z_iload rfl rfl ?_
      refine z_iadd rfl ?_
      refine z_iconst (v := 1) rfl (by decide) ?_
      refine z_iadd rfl ?_
      refine z_ildE rfl (hD.2 1 (by decide)) (k := at0 + i + 1) (by rw [nI_add, nI_1]) (show at0 + i + 1 < 105 by omega) ?_
      refine z_istM (j := 1) rfl hD (by decide) (k := at0 + i) (nI_add _ _) (show at0 + i < 105 by omega) (fun h1 hC1 hF1 => ?_)
      refine z_iinc1 rfl rfl (by decide +kernel) rfl ?_
      refine z_goto rfl (ih (i + 1) _ (upd g (at0 + i) (g (at0 + i + 1))) (by omega) (by omega) (hC1.eqv (fun _ => rfl) (fun j => ?_)) (fun q => ?_) (hF.trans hF1))
      · show (if j = 1 then _ else m.2 j) = if j = 1 then upd (if 1 = 1 then g else m.2 1) (at0 + i) ((if 1 = 1 then g else m.2 1) (at0 + i + 1)) else (if j = 1 then g else m.2 j)
        split
        · rw [if_pos rfl]
        · rfl
      · show (if q = at0 + i then g (at0 + i + 1) else g q) = _
        by_cases e : q = at0 + i
        · rw [if_pos e, hg, if_neg (by omega), if_pos (by omega), e]
        · rw [if_neg e, hg]
          by_cases e2 : at0 + c ≤ q ∧ q < at0 + i
          · rw [if_pos e2, if_pos (by omega)]
          · rw [if_neg e2, if_neg (by omega)]
  refine z_iload_n rfl rfl ?_
  refine z_istore rfl (by decide +kernel) rfl ?_
  exact loop (n - 1 - c) c _ (m.2 1) (by omega) (Nat.le_refl _) (hM.eqv (fun _ => rfl) (z_mFid m 1)) (fun q => by rw [if_neg (by omega)]) (z_Fr.refl _ _ _)
end ZMs
