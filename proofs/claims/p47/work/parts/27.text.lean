/-! ClockParliament$OrderText: the reading of orders. -/
def z_here (l : List Nat) (p : Nat) : Nat := l.getD p 0
def z_dig (l : List Nat) (p : Nat) : Option Nat := if 48 ≤ z_here l p ∧ z_here l p ≤ 57 then some (z_here l p - 48) else none
/-- what a reading gives: whether it went, the place, the order -/
abbrev z_PR : Type := Bool × Nat × z_OV
def z_skp (l : List Nat) (c p : Nat) (o : z_OV) : z_PR := if z_here l p = c then (true, p + 1, o) else (false, p, o)
def z_rdD (l : List Nat) (p : Nat) (o : z_OV) : z_PR := match z_dig l p with
  | some d => (true, p + 1, z_tk o (nI d))
  | none => (false, p, o)
def z_rdN (l : List Nat) (p : Nat) (o : z_OV) : z_PR := match z_dig l p with
  | some d => (match z_dig l (p + 1) with
    | some e => (true, p + 2, z_tk o (nI (10 * d + e)))
    | none => (true, p + 1, z_tk o (nI d)))
  | none => (false, p, o)
def z_rdB (l : List Nat) (p : Nat) (o : z_OV) : z_PR := if z_here l p = 45 then (true, p + 1, z_tk o (-1)) else (false, p, o)
def z_rdK (l : List Nat) (p : Nat) (o : z_OV) : z_PR := if (z_rdD l p o).1 = true then z_rdD l p o else z_rdB l p o
def z_prt (l : List Nat) (c p : Nat) (o : z_OV) : z_PR := if c = 68 then z_rdD l p o else if c = 78 then z_rdN l p o else if c = 75 then z_rdK l p o else z_skp l c p o
def z_rdF (l : List Nat) : List Nat → Nat → z_OV → z_PR
  | [], p, o => (true, p, o)
  | c :: cs, p, o => if c = 63 then (if z_here l p = 32 then z_rdF l cs p o else (true, p, z_tk o 1)) else if (z_prt l c p o).1 = true then z_rdF l cs (z_prt l c p o).2.1 (z_prt l c p o).2.2 else (false, (z_prt l c p o).2.1, (z_prt l c p o).2.2)
def z_rdO (l : List Nat) (p : Nat) (o : z_OV) : z_PR := match z_knd (z_here l p) with
  | some k => z_rdF l (z_frm k) p (k, 0, 0, 0, 0)
  | none => (false, p, o)
/-- letters of an input -/
def z_inp (l : List Nat) : Prop := l.length ≤ 60 ∧ ∀ x ∈ l, 32 ≤ x ∧ x ≤ 126
theorem z_here0 {l : List Nat} {p : Nat} (h : l.length ≤ p) : z_here l p = 0 := by
  unfold z_here
  rw [List.getD_eq_getElem?_getD, List.getElem?_eq_none h]
  rfl
theorem z_hereIn {l : List Nat} {p : Nat} (hl : z_inp l) (h : p < l.length) : 32 ≤ z_here l p ∧ z_here l p ≤ 126 := by
  unfold z_here
  rw [List.getD_eq_getElem?_getD, List.getElem?_eq_getElem h]
  exact hl.2 _ (List.getElem_mem h)
theorem z_hereB {l : List Nat} (hl : z_inp l) (p : Nat) : z_here l p ≤ 126 := by
  by_cases h : p < l.length
  · exact (z_hereIn hl h).2
  · rw [z_here0 (by omega)]; omega
theorem z_hereP {l : List Nat} {p : Nat} (h : z_here l p ≠ 0) : p < l.length := by
  by_cases e : p < l.length
  · exact e
  · exact absurd (z_here0 (by omega)) h
theorem z_digP {l : List Nat} {p d : Nat} (h : z_dig l p = some d) : p < l.length ∧ d < 10 ∧ z_here l p = 48 + d := by
  unfold z_dig at h
  split at h
  · rename_i c
    cases h
    exact ⟨z_hereP (by omega), by omega, by omega⟩
  · cases h
theorem z_skpP {l : List Nat} {c p : Nat} {o : z_OV} (hc : c ≠ 0) (hp : p ≤ l.length) : (z_skp l c p o).2.1 ≤ l.length ∧ p ≤ (z_skp l c p o).2.1 ∧ ((z_skp l c p o).1 = true → p < (z_skp l c p o).2.1) := by
  unfold z_skp
  split
  · rename_i e
    have := z_hereP (l := l) (p := p) (by rw [e]; exact hc)
    exact ⟨by show p + 1 ≤ _; omega, by show p ≤ p + 1; omega, fun _ => by show p < p + 1; omega⟩
  · exact ⟨hp, Nat.le_refl _, fun e => by cases e⟩
theorem z_rdDP {l : List Nat} {p : Nat} {o : z_OV} (hp : p ≤ l.length) : (z_rdD l p o).2.1 ≤ l.length ∧ p ≤ (z_rdD l p o).2.1 ∧ ((z_rdD l p o).1 = true → p < (z_rdD l p o).2.1) := by
  unfold z_rdD
  split
  · rename_i d e
    have := z_digP e
    exact ⟨by show p + 1 ≤ _; omega, by show p ≤ p + 1; omega, fun _ => by show p < p + 1; omega⟩
  · exact ⟨hp, Nat.le_refl _, fun e => by cases e⟩
theorem z_rdNP {l : List Nat} {p : Nat} {o : z_OV} (hp : p ≤ l.length) : (z_rdN l p o).2.1 ≤ l.length ∧ p ≤ (z_rdN l p o).2.1 ∧ ((z_rdN l p o).1 = true → p < (z_rdN l p o).2.1) := by
  unfold z_rdN
  split
  · rename_i d e
    have := z_digP e
    split
    · rename_i d2 e2
      have := z_digP e2
      exact ⟨by show p + 2 ≤ _; omega, by show p ≤ p + 2; omega, fun _ => by show p < p + 2; omega⟩
    · exact ⟨by show p + 1 ≤ _; omega, by show p ≤ p + 1; omega, fun _ => by show p < p + 1; omega⟩
  · exact ⟨hp, Nat.le_refl _, fun e => by cases e⟩
theorem z_rdBP {l : List Nat} {p : Nat} {o : z_OV} (hp : p ≤ l.length) : (z_rdB l p o).2.1 ≤ l.length ∧ p ≤ (z_rdB l p o).2.1 ∧ ((z_rdB l p o).1 = true → p < (z_rdB l p o).2.1) := by
  unfold z_rdB
  split
  · rename_i e
    have := z_hereP (l := l) (p := p) (by rw [e]; decide)
    exact ⟨by show p + 1 ≤ _; omega, by show p ≤ p + 1; omega, fun _ => by show p < p + 1; omega⟩
  · exact ⟨hp, Nat.le_refl _, fun e => by cases e⟩
theorem z_prtP {l : List Nat} {c p : Nat} {o : z_OV} (hc : c ≠ 0) (hp : p ≤ l.length) : (z_prt l c p o).2.1 ≤ l.length ∧ p ≤ (z_prt l c p o).2.1 ∧ ((z_prt l c p o).1 = true → p < (z_prt l c p o).2.1) := by
  unfold z_prt
  split
  · exact z_rdDP hp
  · split
    · exact z_rdNP hp
    · split
      · unfold z_rdK
        split
        · exact z_rdDP hp
        · exact z_rdBP hp
      · exact z_skpP hc hp
theorem z_rdFP {l : List Nat} : ∀ (cs : List Nat), (∀ c ∈ cs, c ≠ 0) → ∀ (p : Nat) (o : z_OV), p ≤ l.length → (z_rdF l cs p o).2.1 ≤ l.length ∧ p ≤ (z_rdF l cs p o).2.1 := by
  intro cs
  induction cs with
  | nil => intro _ p o hp; exact ⟨hp, Nat.le_refl _⟩
  | cons c cs ih =>
    intro hcs p o hp
    have hc := hcs c List.mem_cons_self
    have hcs2 : ∀ c ∈ cs, c ≠ 0 := fun x hx => hcs x (List.mem_cons_of_mem _ hx)
    obtain ⟨g1, g2, -⟩ := z_prtP (o := o) hc hp
    unfold z_rdF
    split
    · split
      · exact ih hcs2 p o hp
      · exact ⟨hp, Nat.le_refl _⟩
    · split
      · obtain ⟨h1, h2⟩ := ih hcs2 _ (z_prt l c p o).2.2 g1
        exact ⟨h1, Nat.le_trans g2 h2⟩
      · exact ⟨g1, g2⟩
theorem z_rdOP {l : List Nat} {p : Nat} {o : z_OV} (hp : p ≤ l.length) : (z_rdO l p o).2.1 ≤ l.length ∧ p ≤ (z_rdO l p o).2.1 := by
  unfold z_rdO
  split
  · rename_i k e
    exact z_rdFP _ (by
      obtain ⟨-, -, h3⟩ := z_firstP _ _ e
      have : ∀ k, k < 10 → ∀ c ∈ z_frm k, c ≠ 0 := by decide +kernel
      exact this k (by omega)) _ _ hp
  · exact ⟨hp, Nat.le_refl _⟩
/-- but for two cells nothing is changed -/
def z_F2 (a w : Nat) (h h' : z_H) : Prop := h'.1 = h.1 ∧ ∀ k, k ≠ a → k ≠ w → h'.2 k = h.2 k
theorem z_F2.refl (a w : Nat) (h : z_H) : z_F2 a w h h := ⟨rfl, fun _ _ _ => rfl⟩
theorem z_F2.trans {a w : Nat} {h h1 h2 : z_H} (x : z_F2 a w h h1) (y : z_F2 a w h1 h2) : z_F2 a w h h2 := ⟨y.1.trans x.1, fun k h1 h2 => (y.2 k h1 h2).trans (x.2 k h1 h2)⟩
theorem z_F2.ofA {a w : Nat} {h h' : z_H} (x : z_Fr a 1 h h') : z_F2 a w h h' := ⟨x.1, fun k h1 _ => x.2 k (by omega)⟩
theorem z_F2.ofW {a w : Nat} {h h' : z_H} (x : z_Fr w 1 h h') : z_F2 a w h h' := ⟨x.1, fun k _ h1 => x.2 k (by omega)⟩
theorem z_Sb.kept2 {h h' : z_H} {a r m b w : Nat} {l : List Nat} (hS : z_Sb h a r m l) (hF : z_F2 b w h h') (hd : a ≠ b ∧ a ≠ w ∧ r ≠ b ∧ r ≠ w) : z_Sb h' a r m l := hS.keptX (Nat.le_of_eq hF.1.symm) (hF.2 _ hd.1 hd.2.1) (hF.2 _ hd.2.2.1 hd.2.2.2)
abbrev z_Tc (h : z_H) (a p : Nat) : Prop := h.2 a = some (.inr (6, [.ref (a + 1), .ref (a + 3), .int (nI p)]))
theorem z_inpSb {h : z_H} {a r m : Nat} {l : List Nat} (hS : z_Sb h a r m l) : ∃ fs, h.2 a = some (.inr (10, fs)) := by
  obtain ⟨cap, ml, g, s1, -⟩ := hS
  exact ⟨_, s1⟩
section ZTx
variable {G : z_G} {h : z_H} {Q : z_O → z_H → Prop} {a r w p : Nat} {l : List Nat} {o : z_OV}
theorem cT_here (hl : z_inp l) (hp : p ≤ l.length) (hT : z_Tc h a p) (hS : z_Sb h (a + 1) r 0 l) (q : Q (.inl (some (.int (nI (z_here l p))))) h) : z_W G 4 0 0 102 0 (z_L0 102 [.ref a]) [] h Q := by
  obtain ⟨fs, hf⟩ := z_inpSb hS
  have hl1 := hl.1
  refine z_aload_n rfl rfl ?_
  refine z_get rfl hT rfl ?_
  refine z_if_lt rfl (fun c4 => absurd c4 (nI_pos (by omega))) (fun c4 => ?_)
  refine z_aload_n rfl rfl ?_
  refine z_get rfl hT rfl ?_
  refine z_aload_n rfl rfl ?_
  refine z_get rfl hT rfl ?_
  refine z_callV (av := []) rfl z_w308 hf rfl rfl rfl rfl rfl (Nat.le_of_ble_eq_true rfl) (Nat.le_of_ble_eq_true rfl) (Nat.le_of_ble_eq_true rfl) (Nat.le_of_ble_eq_true rfl) (c_length hS ?_)
  refine z_icmp_ge rfl (fun c18 => ?_) (fun c18 => ?_)
  · refine z_iconst (v := 0) rfl (by decide) ?_
    refine z_zret (ty := .char) rfl rfl (by decide) ?_
    rw [z_here0 (by rw [nI_leI (by omega) (by omega)] at c18; exact c18)] at q; exact q
  · refine z_aload_n rfl rfl ?_
    refine z_get rfl hT rfl ?_
    refine z_aload_n rfl rfl ?_
    refine z_get rfl hT rfl ?_
    refine z_callV (av := [_]) rfl z_w310 hf rfl rfl rfl rfl rfl (Nat.le_of_ble_eq_true rfl) (Nat.le_of_ble_eq_true rfl) (Nat.le_of_ble_eq_true rfl) (Nat.le_of_ble_eq_true rfl) (c_charAt (by rw [nI_leI (by omega) (by omega)] at c18; omega) hS ?_)
    refine z_goto rfl ?_
    refine z_zret (ty := .char) rfl rfl (z_c128 _ (by have := z_hereB hl p; unfold z_here at this; omega)).2.2.2.2.1 ?_
    exact q
theorem cT_digitHere (hl : z_inp l) (hp : p ≤ l.length) (hT : z_Tc h a p) (hS : z_Sb h (a + 1) r 0 l) (q : Q (.inl (some (.int (z_oN1 (z_dig l p))))) h) : z_W G 5 0 0 101 0 (z_L0 101 [.ref a]) [] h Q := by
  have hb := z_hereB hl p
  refine z_aload_n rfl rfl ?_
  refine z_callV (av := []) rfl z_w102 hT rfl rfl rfl rfl rfl (Nat.le_of_ble_eq_true rfl) (Nat.le_of_ble_eq_true rfl) (Nat.le_of_ble_eq_true rfl) (Nat.le_of_ble_eq_true rfl) (cT_here hl hp hT hS ?_)
  refine z_istore_n rfl (by decide +kernel) rfl ?_
  refine z_iload_n rfl rfl ?_
  refine z_bipush (v := 48) rfl (by decide) ?_
  refine z_icmp_lt rfl (fun c8 => ?_) (fun c8 => ?_)
  · refine z_iconst (v := (-1)) rfl (by decide) ?_
    refine z_iret rfl rfl ?_
    have e : ¬ (48 ≤ z_here l p ∧ z_here l p ≤ 57) := fun e => absurd ((nI_ltI (b := 48) (by omega) (by decide)).mp c8) (by omega)
    unfold z_dig at q; rw [if_neg e] at q; exact q
  · refine z_iload_n rfl rfl ?_
    refine z_bipush (v := 57) rfl (by decide) ?_
    refine z_icmp_gt rfl (fun c14 => ?_) (fun c14 => ?_)
    · refine z_iconst (v := (-1)) rfl (by decide) ?_
      refine z_iret rfl rfl ?_
      have e : ¬ (48 ≤ z_here l p ∧ z_here l p ≤ 57) := fun e => absurd ((nI_ltI (a := 57) (by decide) (by omega)).mp c14) (by omega)
      unfold z_dig at q; rw [if_neg e] at q; exact q
    · refine z_iload_n rfl rfl ?_
      refine z_bipush (v := 48) rfl (by decide) ?_
      refine z_isub rfl ?_
      refine z_goto rfl ?_
      refine z_iret rfl rfl ?_
      have e1 : ¬ z_here l p < 48 := fun e => c8 ((nI_ltI (b := 48) (by omega) (by decide)).mpr e)
      have e2 : ¬ 57 < z_here l p := fun e => c14 ((nI_ltI (a := 57) (by decide) (by omega)).mpr e)
      unfold z_dig at q; rw [if_pos ⟨by omega, by omega⟩] at q; rw [show nI (z_here l p) - 48 = nI (z_here l p - 48) from pk_sub (b := 48) (by omega)]; exact q
theorem cT_skip {c : Nat} (hl : z_inp l) (hp : p ≤ l.length) (hc : c < 128) (hT : z_Tc h a p) (hS : z_Sb h (a + 1) r 0 l) (q : ∀ h', z_Tc h' a (z_skp l c p o).2.1 → z_Fr a 1 h h' → Q (.inl (some (.int (if (z_skp l c p o).1 = true then 1 else 0)))) h') : z_W G 5 0 0 100 0 (z_L0 100 [.ref a, .int (nI c)]) [] h Q := by
  have hb := z_hereB hl p
  unfold z_skp at q
  refine z_aload_n rfl rfl ?_
  refine z_callV (av := []) rfl z_w102 hT rfl rfl rfl rfl rfl (Nat.le_of_ble_eq_true rfl) (Nat.le_of_ble_eq_true rfl) (Nat.le_of_ble_eq_true rfl) (Nat.le_of_ble_eq_true rfl) (cT_here hl hp hT hS ?_)
  refine z_iload_n rfl rfl ?_
  refine z_icmp_eq rfl (fun c5 => ?_) (fun c5 => ?_)
  · refine z_aload_n rfl rfl ?_
    refine z_dup rfl rfl ?_
    refine z_get rfl hT rfl ?_
    refine z_iconst (v := 1) rfl (by decide) ?_
    refine z_iadd rfl ?_
    rw [nI_1]
    refine z_putC rfl hT (by simp) rfl rfl rfl (fun h1 hC1 hF1 => ?_)
    refine z_iconst (v := 1) rfl (by decide) ?_
    refine z_zret (ty := .boolean) rfl rfl (by first | decide | exact z_nb _) ?_
    rw [if_pos ((nI_eq (by omega) (by omega)).mp c5)] at q; exact q _ hC1 hF1
  · refine z_iconst (v := 0) rfl (by decide) ?_
    refine z_zret (ty := .boolean) rfl rfl (by first | decide | exact z_nb _) ?_
    rw [if_neg (fun e => c5 (by rw [e]))] at q; exact q _ hT (z_Fr.refl _ _ _)
theorem z_o1d {l : List Nat} {p d : Nat} (h : z_dig l p = some d) : z_oN1 (z_dig l p) = nI d := by rw [h]; rfl
theorem cT_readDigit (hl : z_inp l) (hp : p ≤ l.length) (hd : a + 1 ≤ w ∨ w + 1 ≤ a) (hT : z_Tc h a p) (hO : z_Or h w o) (hS : z_Sb h (a + 1) r 0 l) (q : ∀ h', z_Tc h' a (z_rdD l p o).2.1 → z_Or h' w (z_rdD l p o).2.2 → z_F2 a w h h' → Q (.inl (some (.int (if (z_rdD l p o).1 = true then 1 else 0)))) h') : z_W G 6 0 0 97 0 (z_L0 97 [.ref a, .ref w]) [] h Q := by
  unfold z_rdD at q
  cases hz : z_dig l p with
  | none =>
    rw [hz] at q
    refine z_aload_n rfl rfl ?_
    refine z_callV (av := []) rfl z_w101 hT rfl rfl rfl rfl rfl (Nat.le_of_ble_eq_true rfl) (Nat.le_of_ble_eq_true rfl) (Nat.le_of_ble_eq_true rfl) (Nat.le_of_ble_eq_true rfl) (cT_digitHere hl hp hT hS ?_)
    rw [hz]
    refine z_istore_n rfl (by decide +kernel) rfl ?_
    refine z_iload_n rfl rfl ?_
    refine z_if_ge rfl (fun c6 => absurd c6 (by decide)) (fun c6 => ?_)
    refine z_iconst (v := 0) rfl (by decide) ?_
    refine z_zret (ty := .boolean) rfl rfl (by first | decide | exact z_nb _) ?_
    exact q _ hT hO (z_F2.refl _ _ _)
  | some d =>
    rw [hz] at q
    have hd := z_digP hz
    refine z_aload_n rfl rfl ?_
    refine z_callV (av := []) rfl z_w101 hT rfl rfl rfl rfl rfl (Nat.le_of_ble_eq_true rfl) (Nat.le_of_ble_eq_true rfl) (Nat.le_of_ble_eq_true rfl) (Nat.le_of_ble_eq_true rfl) (cT_digitHere hl hp hT hS ?_)
    rw [z_o1d hz]
    refine z_istore_n rfl (by decide +kernel) rfl ?_
    refine z_iload_n rfl rfl ?_
    refine z_if_ge rfl (fun c6 => ?_) (fun c6 => absurd (nI_pos' (by omega)) c6)
    refine z_aload_n rfl rfl ?_
    refine z_dup rfl rfl ?_
    refine z_get rfl hT rfl ?_
    refine z_iconst (v := 1) rfl (by decide) ?_
    refine z_iadd rfl ?_
    rw [nI_1]
    refine z_putC rfl hT (by simp) rfl rfl rfl (fun h1 hC1 hF1 => ?_)
    have kO1 := z_ck hO hF1 (by omega)
    refine z_aload_n rfl rfl ?_
    refine z_iload_n rfl rfl ?_
    refine z_callV (av := [_]) rfl z_w24 kO1 rfl rfl rfl rfl rfl (Nat.le_of_ble_eq_true rfl) (Nat.le_of_ble_eq_true rfl) (Nat.le_of_ble_eq_true rfl) (Nat.le_of_ble_eq_true rfl) (cO_take kO1 (fun h2 hC2 hF2 => ?_))
    have kT2 := z_ck hC1 hF2 (by omega)
    refine z_iconst (v := 1) rfl (by decide) ?_
    refine z_zret (ty := .boolean) rfl rfl (by first | decide | exact z_nb _) ?_
    exact q _ kT2 hC2 ((z_F2.ofA hF1).trans (z_F2.ofW hF2))
theorem cT_readNumber (hl : z_inp l) (hp : p ≤ l.length) (hd : (a + 1 ≤ w ∨ w + 1 ≤ a) ∧ (r + 1 ≤ a ∨ a + 1 ≤ r) ∧ (r + 1 ≤ w ∨ w + 1 ≤ r) ∧ w ≠ a + 1) (hT : z_Tc h a p) (hO : z_Or h w o) (hS : z_Sb h (a + 1) r 0 l) (q : ∀ h', z_Tc h' a (z_rdN l p o).2.1 → z_Or h' w (z_rdN l p o).2.2 → z_F2 a w h h' → Q (.inl (some (.int (if (z_rdN l p o).1 = true then 1 else 0)))) h') : z_W G 6 0 0 98 0 (z_L0 98 [.ref a, .ref w]) [] h Q := by
  unfold z_rdN at q
  cases hz : z_dig l p with
  | none =>
    rw [hz] at q
    refine z_aload_n rfl rfl ?_
    refine z_callV (av := []) rfl z_w101 hT rfl rfl rfl rfl rfl (Nat.le_of_ble_eq_true rfl) (Nat.le_of_ble_eq_true rfl) (Nat.le_of_ble_eq_true rfl) (Nat.le_of_ble_eq_true rfl) (cT_digitHere hl hp hT hS ?_)
    rw [hz]
    refine z_istore_n rfl (by decide +kernel) rfl ?_
    refine z_iload_n rfl rfl ?_
    refine z_if_ge rfl (fun c6 => absurd c6 (by decide)) (fun c6 => ?_)
    refine z_iconst (v := 0) rfl (by decide) ?_
    refine z_zret (ty := .boolean) rfl rfl (by first | decide | exact z_nb _) ?_
    exact q _ hT hO (z_F2.refl _ _ _)
  | some d =>
    rw [hz] at q
    have hd1 := z_digP hz
    cases hz2 : z_dig l (p + 1) with
    | none =>
      rw [hz2] at q
      refine z_aload_n rfl rfl ?_
      refine z_callV (av := []) rfl z_w101 hT rfl rfl rfl rfl rfl (Nat.le_of_ble_eq_true rfl) (Nat.le_of_ble_eq_true rfl) (Nat.le_of_ble_eq_true rfl) (Nat.le_of_ble_eq_true rfl) (cT_digitHere hl hp hT hS ?_)
      rw [z_o1d hz]
      refine z_istore_n rfl (by decide +kernel) rfl ?_
      refine z_iload_n rfl rfl ?_
      refine z_if_ge rfl (fun c6 => ?_) (fun c6 => absurd (nI_pos' (by omega)) c6)
      refine z_aload_n rfl rfl ?_
      refine z_dup rfl rfl ?_
      refine z_get rfl hT rfl ?_
      refine z_iconst (v := 1) rfl (by decide) ?_
      refine z_iadd rfl ?_
      rw [nI_1]
      refine z_putC rfl hT (by simp) rfl rfl rfl (fun h1 hC1 hF1 => ?_)
      have kO1 := z_ck hO hF1 (by omega)
      have kS1 := hS.kept hF1 (by omega)
      refine z_aload_n rfl rfl ?_
      refine z_callV (av := []) rfl z_w101 hC1 rfl rfl rfl rfl rfl (Nat.le_of_ble_eq_true rfl) (Nat.le_of_ble_eq_true rfl) (Nat.le_of_ble_eq_true rfl) (Nat.le_of_ble_eq_true rfl) (cT_digitHere hl (by omega) hC1 kS1 ?_)
      rw [hz2]
      refine z_istore_n rfl (by decide +kernel) rfl ?_
      refine z_iload_n rfl rfl ?_
      refine z_if_lt rfl (fun c27 => ?_) (fun c27 => absurd (by decide) c27)
      refine z_aload_n rfl rfl ?_
      refine z_iload_n rfl rfl ?_
      refine z_callV (av := [_]) rfl z_w24 kO1 rfl rfl rfl rfl rfl (Nat.le_of_ble_eq_true rfl) (Nat.le_of_ble_eq_true rfl) (Nat.le_of_ble_eq_true rfl) (Nat.le_of_ble_eq_true rfl) (cO_take kO1 (fun h2 hC2 hF2 => ?_))
      have kT2 := z_ck hC1 hF2 (by omega)
      have kS2 := kS1.kept hF2 (by omega)
      refine z_iconst (v := 1) rfl (by decide) ?_
      refine z_zret (ty := .boolean) rfl rfl (by first | decide | exact z_nb _) ?_
      exact q _ kT2 hC2 ((z_F2.ofA hF1).trans (z_F2.ofW hF2))
    | some e =>
      rw [hz2] at q
      have hd2 := z_digP hz2
      refine z_aload_n rfl rfl ?_
      refine z_callV (av := []) rfl z_w101 hT rfl rfl rfl rfl rfl (Nat.le_of_ble_eq_true rfl) (Nat.le_of_ble_eq_true rfl) (Nat.le_of_ble_eq_true rfl) (Nat.le_of_ble_eq_true rfl) (cT_digitHere hl hp hT hS ?_)
      rw [z_o1d hz]
      refine z_istore_n rfl (by decide +kernel) rfl ?_
      refine z_iload_n rfl rfl ?_
      refine z_if_ge rfl (fun c6 => ?_) (fun c6 => absurd (nI_pos' (by omega)) c6)
      refine z_aload_n rfl rfl ?_
      refine z_dup rfl rfl ?_
      refine z_get rfl hT rfl ?_
      refine z_iconst (v := 1) rfl (by decide) ?_
      refine z_iadd rfl ?_
      rw [nI_1]
      refine z_putC rfl hT (by simp) rfl rfl rfl (fun h1 hC1 hF1 => ?_)
      have kO1 := z_ck hO hF1 (by omega)
      have kS1 := hS.kept hF1 (by omega)
      refine z_aload_n rfl rfl ?_
      refine z_callV (av := []) rfl z_w101 hC1 rfl rfl rfl rfl rfl (Nat.le_of_ble_eq_true rfl) (Nat.le_of_ble_eq_true rfl) (Nat.le_of_ble_eq_true rfl) (Nat.le_of_ble_eq_true rfl) (cT_digitHere hl (by omega) hC1 kS1 ?_)
      rw [z_o1d hz2]
      refine z_istore_n rfl (by decide +kernel) rfl ?_
      refine z_iload_n rfl rfl ?_
      refine z_if_lt rfl (fun c27 => absurd c27 (nI_pos (by omega))) (fun c27 => ?_)
      refine z_aload_n rfl rfl ?_
      refine z_dup rfl rfl ?_
      refine z_get rfl hC1 rfl ?_
      refine z_iconst (v := 1) rfl (by decide) ?_
      refine z_iadd rfl ?_
      rw [nI_1]
      refine z_putC rfl hC1 (by simp) rfl rfl rfl (fun h2 hC2 hF2 => ?_)
      have kO2 := z_ck kO1 hF2 (by omega)
      have kS2 := kS1.kept hF2 (by omega)
      refine z_bipush (v := 10) rfl (by decide) ?_
      refine z_iload_n rfl rfl ?_
      refine z_imul rfl ?_
      refine z_iload_n rfl rfl ?_
      refine z_iadd rfl ?_
      rw [show (10 : Int32) * nI d = nI (10 * d) from pk_mul 10 d, nI_add]
      refine z_istore_n rfl (by decide +kernel) rfl ?_
      refine z_aload_n rfl rfl ?_
      refine z_iload_n rfl rfl ?_
      refine z_callV (av := [_]) rfl z_w24 kO2 rfl rfl rfl rfl rfl (Nat.le_of_ble_eq_true rfl) (Nat.le_of_ble_eq_true rfl) (Nat.le_of_ble_eq_true rfl) (Nat.le_of_ble_eq_true rfl) (cO_take kO2 (fun h3 hC3 hF3 => ?_))
      have kT3 := z_ck hC2 hF3 (by omega)
      have kS3 := kS2.kept hF3 (by omega)
      refine z_iconst (v := 1) rfl (by decide) ?_
      refine z_zret (ty := .boolean) rfl rfl (by first | decide | exact z_nb _) ?_
      exact q _ kT3 hC3 (((z_F2.ofA hF1).trans (z_F2.ofA hF2)).trans (z_F2.ofW hF3))
theorem cT_readNobody (hl : z_inp l) (hp : p ≤ l.length) (hd : a + 1 ≤ w ∨ w + 1 ≤ a) (hT : z_Tc h a p) (hO : z_Or h w o) (hS : z_Sb h (a + 1) r 0 l) (q : ∀ h', z_Tc h' a (z_rdB l p o).2.1 → z_Or h' w (z_rdB l p o).2.2 → z_F2 a w h h' → Q (.inl (some (.int (if (z_rdB l p o).1 = true then 1 else 0)))) h') : z_W G 6 0 0 99 0 (z_L0 99 [.ref a, .ref w]) [] h Q := by
  unfold z_rdB at q
  by_cases hz : z_here l p = 45
  · rw [if_pos hz] at q
    have hs : z_skp l 45 p o = (true, p + 1, o) := if_pos hz
    refine z_aload_n rfl rfl ?_
    refine z_bipush (v := 45) rfl (by decide) ?_
    refine z_callV (av := [_]) rfl z_w100 hT rfl rfl rfl rfl rfl (Nat.le_of_ble_eq_true rfl) (Nat.le_of_ble_eq_true rfl) (Nat.le_of_ble_eq_true rfl) (Nat.le_of_ble_eq_true rfl) (cT_skip (c := 45) (o := o) hl hp (by decide) hT hS (fun hh hCx hFx => ?_))
    rw [hs] at hCx ⊢
    have kO := z_ck hO hFx (by omega)
    refine z_if_ne rfl (fun c6 => ?_) (fun c6 => absurd c6 (show ¬ (1 : Int32) = 0 by decide))
    refine z_aload_n rfl rfl ?_
    refine z_iconst (v := (-1)) rfl (by decide) ?_
    refine z_callV (av := [_]) rfl z_w24 kO rfl rfl rfl rfl rfl (Nat.le_of_ble_eq_true rfl) (Nat.le_of_ble_eq_true rfl) (Nat.le_of_ble_eq_true rfl) (Nat.le_of_ble_eq_true rfl) (cO_take kO (fun h1 hC1 hF1 => ?_))
    have kT1 := z_ck hCx hF1 (by omega)
    refine z_iconst (v := 1) rfl (by decide) ?_
    refine z_zret (ty := .boolean) rfl rfl (by first | decide | exact z_nb _) ?_
    exact q _ kT1 hC1 ((z_F2.ofA hFx).trans (z_F2.ofW hF1))
  · rw [if_neg hz] at q
    have hs : z_skp l 45 p o = (false, p, o) := if_neg hz
    refine z_aload_n rfl rfl ?_
    refine z_bipush (v := 45) rfl (by decide) ?_
    refine z_callV (av := [_]) rfl z_w100 hT rfl rfl rfl rfl rfl (Nat.le_of_ble_eq_true rfl) (Nat.le_of_ble_eq_true rfl) (Nat.le_of_ble_eq_true rfl) (Nat.le_of_ble_eq_true rfl) (cT_skip (c := 45) (o := o) hl hp (by decide) hT hS (fun hh hCx hFx => ?_))
    rw [hs] at hCx ⊢
    have kO := z_ck hO hFx (by omega)
    refine z_if_ne rfl (fun c6 => absurd (show (0 : Int32) = 0 by decide) c6) (fun c6 => ?_)
    refine z_iconst (v := 0) rfl (by decide) ?_
    refine z_zret (ty := .boolean) rfl rfl (by first | decide | exact z_nb _) ?_
    exact q _ hCx kO (z_F2.ofA hFx)
theorem z_lsP : ∀ c, c < 128 → Op.lookupswitch.offset [(68, 35), (75, 47), (78, 41)] 69 (nI c).toInt = if c = 68 then 35 else if c = 75 then 47 else if c = 78 then 41 else 69 := by decide +kernel
theorem cT_readPart {c : Nat} (hl : z_inp l) (hp : p ≤ l.length) (hc : c < 128) (hd : (a + 1 ≤ w ∨ w + 1 ≤ a) ∧ (r + 1 ≤ a ∨ a + 1 ≤ r) ∧ (r + 1 ≤ w ∨ w + 1 ≤ r) ∧ w ≠ a + 1) (hT : z_Tc h a p) (hO : z_Or h w o) (hS : z_Sb h (a + 1) r 0 l) (q : ∀ h', z_Tc h' a (z_prt l c p o).2.1 → z_Or h' w (z_prt l c p o).2.2 → z_F2 a w h h' → Q (.inl (some (.int (if (z_prt l c p o).1 = true then 1 else 0)))) h') : z_W G 7 0 0 96 0 (z_L0 96 [.ref a, .int (nI c), .ref w]) [] h Q := by
  unfold z_prt at q
  have hlo := z_lsP c hc
  refine z_iload_n rfl rfl ?_
  by_cases c1 : c = 68
  · rw [if_pos c1] at q
    rw [if_pos c1] at hlo
    refine z_lsw (o := 35) (t := 36) rfl (by decide) hlo rfl ?_
    refine z_aload_n rfl rfl ?_
    refine z_aload_n rfl rfl ?_
    refine z_callV (av := [_]) rfl z_w97 hT rfl rfl rfl rfl rfl (Nat.le_of_ble_eq_true rfl) (Nat.le_of_ble_eq_true rfl) (Nat.le_of_ble_eq_true rfl) (Nat.le_of_ble_eq_true rfl) (cT_readDigit hl hp hd.1 hT hO hS (fun h1 hC1 hO1 hF1 => ?_))
    refine z_zret (ty := .boolean) rfl rfl (by first | decide | exact z_nb _) ?_
    exact q _ hC1 hO1 hF1
  · rw [if_neg c1] at q hlo
    by_cases c3 : c = 75
    · rw [if_neg (by omega), if_pos c3] at q
      rw [if_pos c3] at hlo
      unfold z_rdK at q
      refine z_lsw (o := 47) (t := 48) rfl (by decide) hlo rfl ?_
      cases hz : (z_rdD l p o).1 with
      | true =>
        rw [if_pos hz, hz] at q
        refine z_aload_n rfl rfl ?_
        refine z_aload_n rfl rfl ?_
        refine z_callV (av := [_]) rfl z_w97 hT rfl rfl rfl rfl rfl (Nat.le_of_ble_eq_true rfl) (Nat.le_of_ble_eq_true rfl) (Nat.le_of_ble_eq_true rfl) (Nat.le_of_ble_eq_true rfl) (cT_readDigit hl hp hd.1 hT hO hS (fun h1 hC1 hO1 hF1 => ?_))
        rw [hz]
        refine z_if_ne rfl (fun c53 => ?_) (fun c53 => absurd c53 (show ¬ (1 : Int32) = 0 by decide))
        refine z_iconst (v := 1) rfl (by decide) ?_
        refine z_goto rfl ?_
        refine z_zret (ty := .boolean) rfl rfl (by first | decide | exact z_nb _) ?_
        exact q _ hC1 hO1 hF1
      | false =>
        rw [if_neg (by rw [hz]; decide)] at q
        have hn : z_rdD l p o = (false, p, o) := by
          unfold z_rdD at hz ⊢
          split
          · rename_i d e
            rw [e] at hz
            cases hz
          · rfl
        refine z_aload_n rfl rfl ?_
        refine z_aload_n rfl rfl ?_
        refine z_callV (av := [_]) rfl z_w97 hT rfl rfl rfl rfl rfl (Nat.le_of_ble_eq_true rfl) (Nat.le_of_ble_eq_true rfl) (Nat.le_of_ble_eq_true rfl) (Nat.le_of_ble_eq_true rfl) (cT_readDigit hl hp hd.1 hT hO hS (fun h1 hC1 hO1 hF1 => ?_))
        rw [hn] at hC1 hO1 ⊢
        refine z_if_ne rfl (fun c53 => absurd (show (0 : Int32) = 0 by decide) c53) (fun c53 => ?_)
        refine z_aload_n rfl rfl ?_
        refine z_aload_n rfl rfl ?_
        refine z_callV (av := [_]) rfl z_w99 hC1 rfl rfl rfl rfl rfl (Nat.le_of_ble_eq_true rfl) (Nat.le_of_ble_eq_true rfl) (Nat.le_of_ble_eq_true rfl) (Nat.le_of_ble_eq_true rfl) (cT_readNobody hl hp hd.1 hC1 hO1 (hS.kept2 hF1 (by omega)) (fun h2 hC2 hO2 hF2 => ?_))
        refine z_if_eq rfl (fun c61 => ?_) (fun c61 => ?_)
        · refine z_iconst (v := 0) rfl (by decide) ?_
          refine z_zret (ty := .boolean) rfl rfl (by first | decide | exact z_nb _) ?_
          rw [show (z_rdB l p o).1 = false from (z_bI _).mp c61] at q; exact q _ hC2 hO2 (hF1.trans hF2)
        · refine z_iconst (v := 1) rfl (by decide) ?_
          refine z_goto rfl ?_
          refine z_zret (ty := .boolean) rfl rfl (by first | decide | exact z_nb _) ?_
          rw [show (z_rdB l p o).1 = true from z_i2 c61] at q; exact q _ hC2 hO2 (hF1.trans hF2)
    · rw [if_neg c3] at hlo
      by_cases c2 : c = 78
      · rw [if_pos c2] at q hlo
        refine z_lsw (o := 41) (t := 42) rfl (by decide) hlo rfl ?_
        refine z_aload_n rfl rfl ?_
        refine z_aload_n rfl rfl ?_
        refine z_callV (av := [_]) rfl z_w98 hT rfl rfl rfl rfl rfl (Nat.le_of_ble_eq_true rfl) (Nat.le_of_ble_eq_true rfl) (Nat.le_of_ble_eq_true rfl) (Nat.le_of_ble_eq_true rfl) (cT_readNumber hl hp hd hT hO hS (fun h1 hC1 hO1 hF1 => ?_))
        refine z_zret (ty := .boolean) rfl rfl (by first | decide | exact z_nb _) ?_
        exact q _ hC1 hO1 hF1
      · rw [if_neg c2, if_neg c3] at q
        rw [if_neg c2] at hlo
        refine z_lsw (o := 69) (t := 70) rfl (by decide) hlo rfl ?_
        refine z_aload_n rfl rfl ?_
        refine z_iload_n rfl rfl ?_
        refine z_callV (av := [_]) rfl z_w100 hT rfl rfl rfl rfl rfl (Nat.le_of_ble_eq_true rfl) (Nat.le_of_ble_eq_true rfl) (Nat.le_of_ble_eq_true rfl) (Nat.le_of_ble_eq_true rfl) (cT_skip (o := o) hl hp hc hT hS (fun h1 hC1 hF1 => ?_))
        refine z_zret (ty := .boolean) rfl rfl (by first | decide | exact z_nb _) ?_
        refine q _ hC1 ?_ (z_F2.ofA hF1)
        have eo : (z_skp l c p o).2.2 = o := by unfold z_skp; split <;> rfl
        rw [eo]; exact z_ck hO hF1 (by omega)
end ZTx
