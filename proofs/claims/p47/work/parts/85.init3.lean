/-! Constructors of the builder, of the text of orders, of the class, of the model. -/
theorem z_Sb.keptY {h h' : z_H} {a m : Nat} {l : List Nat} (x : z_Sb h a (a + 1) m l) (f : ∀ j, a ≤ j → j < a + 2 → h'.2 j = h.2 j) (hs : h.1 ≤ h'.1) : z_Sb h' a (a + 1) m l := by
  obtain ⟨cap, ml, g, y1, y2, y3, y4, y5, y6, y7, y8, y9, y10⟩ := x
  exact ⟨cap, ml, g, (f _ (by omega) (by omega)).trans y1, (f _ (by omega) (by omega)).trans y2, y3, y4, y5, y6, y7, by omega, by omega, y10⟩
section ZIn3
variable {G : z_G} {h : z_H} {Q : z_O → z_H → Prop} {a : Nat}
theorem c_initS5 (hc : h.2 a = some (.inr (10, z_dfl 10))) (hl : a + 1 = 1000 + h.1) (q : ∀ h' : z_H, z_Sb h' a (a + 1) 0 [] → 1000 + h'.1 = a + 2 → (∀ j, j < a → h'.2 j = h.2 j) → Q (.inl none) h') : z_W G 1 1 16 301 0 (z_L0 301 [.ref a, .int 16]) [] h Q := by
  have hc' : h.2 a = some (.inr (10, [.null, .int 0, .int 0, .int 0])) := hc
  refine z_aload_n rfl rfl ?_
  refine z_objInit rfl rfl (by decide) ?_
  refine z_gets (v := .int 1) rfl (by decide +kernel) rfl ?_
  refine z_if_eq rfl (fun u => absurd u (by decide)) (fun _ => ?_)
  refine z_aload_n rfl rfl ?_
  refine z_iload_n rfl rfl ?_
  refine z_newA (mc2 := 0) (ms2 := 0) (N := 16) rfl (by decide) (by decide) (by decide) (Nat.le_of_ble_eq_true rfl) (Nat.le_of_ble_eq_true rfl) ?_
  have c1 : (z_new h (.inl (2, z_dfa 2 16))).2 a = some (.inr (10, [.null, .int 0, .int 0, .int 0])) := (z_new_ne _ _ (by omega)).trans hc'
  refine z_put rfl c1 (by simp) rfl rfl rfl ?_
  refine z_aload_n rfl rfl ?_
  refine z_iconst (v := 0) rfl (by decide) ?_
  refine z_put rfl (z_set_eq _ _ _) (by simp) rfl rfl rfl ?_
  refine z_goto rfl ?_
  refine z_vret rfl rfl ?_
  refine q _ ⟨16, 0, fun _ => 0, ?_, ?_, fun _ => (by decide : fits .byte (.int 0) = true), fun j hj => absurd hj (Nat.not_lt_zero j), Nat.zero_le _, Nat.zero_le _, by decide, ?_, ?_, by omega⟩ ?_ fun j hj => (z_set_ne _ _ (by omega)).trans ((z_set_ne _ _ (by omega)).trans (z_new_ne _ _ (by omega)))
  · rw [z_set_eq, hl]; rfl
  · rw [z_set_ne _ _ (by omega), z_set_ne _ _ (by omega), hl]; exact z_new_eq _ _
  · show a < 1000 + (h.1 + 1); omega
  · show a + 1 < 1000 + (h.1 + 1); omega
  · show 1000 + (h.1 + 1) = a + 2; omega
theorem c_initS4 (hc : h.2 a = some (.inr (10, z_dfl 10))) (hl : a + 1 = 1000 + h.1) (q : ∀ h' : z_H, z_Sb h' a (a + 1) 0 [] → 1000 + h'.1 = a + 2 → (∀ j, j < a → h'.2 j = h.2 j) → Q (.inl none) h') : z_W G 2 1 16 300 0 (z_L0 300 [.ref a]) [] h Q := by
  refine z_aload_n rfl rfl ?_
  refine z_bipush (v := 16) rfl (by decide) ?_
  refine z_callI (av := [_]) rfl z_w301 rfl rfl rfl rfl (Nat.le_of_ble_eq_true rfl) (Nat.le_of_ble_eq_true rfl) (Nat.le_of_ble_eq_true rfl) (Nat.le_of_ble_eq_true rfl) (c_initS5 hc hl fun h' x e f => ?_)
  refine z_vret rfl rfl ?_
  exact q h' x e f
/-- the text of orders at its start -/
def z_Tx0 (h : z_H) (a : Nat) : Prop := z_Tc h a 0 ∧ z_Sb h (a + 1) (a + 2) 0 [] ∧ z_Or h (a + 3) z_oN0
theorem z_Tx0.keptX {h h' : z_H} {a : Nat} (x : z_Tx0 h a) (f : ∀ j, a ≤ j → j < a + 4 → h'.2 j = h.2 j) (hs : h.1 ≤ h'.1) : z_Tx0 h' a :=
  ⟨(f _ (by omega) (by omega)).trans x.1, z_Sb.keptY (a := a + 1) x.2.1 (fun j u1 u2 => f j (by omega) (by omega)) hs, (f _ (by omega) (by omega)).trans x.2.2⟩
theorem c_initTx (hc : h.2 a = some (.inr (6, z_dfl 6))) (hl : a + 1 = 1000 + h.1) (q : ∀ h' : z_H, z_Tx0 h' a → 1000 + h'.1 = a + 4 → (∀ j, j < a → h'.2 j = h.2 j) → Q (.inl none) h') : z_W G 3 3 25 89 0 (z_L0 89 [.ref a]) [] h Q := by
  have hcq : h.2 a = some (.inr (6, [.null, .null, .int 0])) := hc
  refine z_aload_n rfl rfl ?_
  refine z_objInit rfl rfl (by decide) ?_
  refine z_mk (n := 2) (k := 0) (mc2 := 1) (ms2 := 5) (mcC := 1) (msC := 16) (dC := 2) (av := []) (b := a + 1) (P := fun h' => z_Sb h' (a + 1) (a + 2) 0 []) rfl rfl rfl rfl (Or.inl rfl) z_w300 rfl hcq (by omega) (by omega) rfl rfl (by decide) (Nat.le_of_ble_eq_true rfl) (Nat.le_of_ble_eq_true rfl) (by decide +kernel) (fun w => w)
    (fun h1 Q' ha hl q => c_initS4 ha hl fun h' x e1 f => q h' x (by omega) f) (fun u w => z_putF rfl u (by simp) rfl rfl rfl rfl rfl w) (fun h h' x e f => z_Sb.keptY (a := a + 1) x (fun j u1 u2 => f j (by omega) (by omega)) (Nat.le_of_eq e.symm)) (fun h0 n0 hc0 e0 f0 => ?_)
  refine z_mk (n := 1) (k := 1) (mc2 := 0) (ms2 := 0) (mcC := 0) (msC := 0) (dC := 1) (av := []) (b := a + 3) (P := fun h' => z_Or h' (a + 3) z_oN0) rfl rfl rfl rfl (Or.inr rfl) z_w22 rfl hc0 (by omega) (by omega) rfl rfl (by decide) (Nat.le_of_ble_eq_true rfl) (Nat.le_of_ble_eq_true rfl) (by decide +kernel) (fun w => w)
    (fun h1 Q' ha hl q => c_initOr (v1 := .null) (v2 := .int 0) (v3 := .int 0) (v4 := .int 0) (v5 := .int 0) ha fun h' x F => q h' x (by rw [F.1]; omega) fun j hj => F.2 j (by omega)) (fun u w => z_putF rfl u (by simp) rfl rfl rfl rfl rfl w) (fun h h' x _ f => (f _ (by omega) (by omega)).trans x) (fun h1 n1 hc1 e1 f1 => ?_)
  have m0 : z_Sb h1 (a + 1) (a + 2) 0 [] := z_Sb.keptY (a := a + 1) n0 (fun j u1 u2 => f1 j (by omega) (by omega)) (by omega)
  have hc1' : h1.2 a = some (.inr (6, [.ref (a + 1), .ref (a + 3), .int 0])) := hc1
  refine z_aload_n rfl rfl ?_
  refine z_iconst (v := 0) rfl (by decide) ?_
  refine z_put rfl hc1' (by simp) rfl rfl rfl ?_
  refine Eq.mpr (congrArg (fun z => z_W G _ _ _ _ _ _ _ z Q) (show z_set h1 a (.inr (6, ([.ref (a + 1), .ref (a + 3), .int 0] : List Value).set 2 (.int 0))) = h1 from z_set_self hc1')) ?_
  refine z_vret rfl rfl ?_
  exact q h1 ⟨hc1', m0, n1⟩ (by omega) fun j hj => (f1 j (by omega) (by omega)).trans (f0 j (by omega) (by omega))
end ZIn3

/-! The class. -/
def z_x0 : z_PV := (z_v0, z_v0, false, 0, (fun _ => z_v0), [], [], (0, 0), (0, 0), -1)
section ZIn4
variable {G : z_G} {h : z_H} {Q : z_O → z_H → Prop} {p : Nat}
theorem c_initHs9 {b : Nat} : ∀ (h1 : z_H) (Q' : z_O → z_H → Prop), h1.2 b = some (.inr (3, z_dfl 3)) → b + 1 = 1000 + h1.1 → (∀ h' : z_H, z_Hs h' b z_v0 → 1000 + h'.1 = b + 25 → (∀ j, j < b → h'.2 j = h1.2 j) → Q' (.inl none) h') → z_W G 3 24 128 64 0 (z_L0 64 [.ref b]) [] h1 Q' := fun _ _ ha hl q => c_initHs ha hl q
theorem c_initRf9 {b : Nat} : ∀ (h1 : z_H) (Q' : z_O → z_H → Prop), h1.2 b = some (.inr (7, z_dfl 7)) → b + 1 = 1000 + h1.1 → (∀ h' : z_H, z_Rf h' b (0, 0) → 1000 + h'.1 = b + 1 → (∀ j, j < b → h'.2 j = h1.2 j) → Q' (.inl none) h') → z_W G 1 0 0 14 0 (z_L0 14 [.ref b]) [] h1 Q' := fun _ _ ha hl q => c_initRf (v1 := .int 0) (v2 := .int 0) ha fun h' x F => q h' x (by rw [F.1]; omega) fun j hj => F.2 j (by omega)
end ZIn4
/-- what stands of the object while it is built -/
def z_q0 (p : Nat) (h : z_H) : Prop := z_Hs h (p + 1) z_v0
theorem z_q0k {p : Nat} {h h' : z_H} (x : z_q0 p h) (f : ∀ j, p < j → j < p + 26 → h'.2 j = h.2 j) (hs : h.1 ≤ h'.1) : z_q0 p h' := z_Hs.keptX x fun j u1 u2 => f j (by omega) (by omega)
def z_q1 (p : Nat) (h : z_H) : Prop := z_q0 p h ∧ (z_Hs h (p + 26) z_v0)
theorem z_q1k {p : Nat} {h h' : z_H} (x : z_q1 p h) (f : ∀ j, p < j → j < p + 51 → h'.2 j = h.2 j) (hs : h.1 ≤ h'.1) : z_q1 p h' := ⟨z_q0k x.1 (fun j u1 u2 => f j u1 (by omega)) hs, x.2.keptX fun j u1 u2 => f j (by omega) (by omega)⟩
def z_q2 (p : Nat) (h : z_H) : Prop := z_q1 p h ∧ (z_Hs h (p + 51) z_v0)
theorem z_q2k {p : Nat} {h h' : z_H} (x : z_q2 p h) (f : ∀ j, p < j → j < p + 76 → h'.2 j = h.2 j) (hs : h.1 ≤ h'.1) : z_q2 p h' := ⟨z_q1k x.1 (fun j u1 u2 => f j u1 (by omega)) hs, x.2.keptX fun j u1 u2 => f j (by omega) (by omega)⟩
def z_q3 (p : Nat) (h : z_H) : Prop := z_q2 p h ∧ (∀ H, z_Hy h (p + 76) 0 H)
theorem z_q3k {p : Nat} {h h' : z_H} (x : z_q3 p h) (f : ∀ j, p < j → j < p + 278 → h'.2 j = h.2 j) (hs : h.1 ≤ h'.1) : z_q3 p h' := ⟨z_q2k x.1 (fun j u1 u2 => f j u1 (by omega)) hs, fun H => (x.2 H).keptX fun j u1 u2 => f j (by omega) (by omega)⟩
def z_q4 (p : Nat) (h : z_H) : Prop := z_q3 p h ∧ (z_Tx0 h (p + 278))
theorem z_q4k {p : Nat} {h h' : z_H} (x : z_q4 p h) (f : ∀ j, p < j → j < p + 282 → h'.2 j = h.2 j) (hs : h.1 ≤ h'.1) : z_q4 p h' := ⟨z_q3k x.1 (fun j u1 u2 => f j u1 (by omega)) hs, x.2.keptX (fun j u1 u2 => f j (by omega) (by omega)) hs⟩
def z_q5 (p : Nat) (h : z_H) : Prop := z_q4 p h ∧ (z_Or h (p + 282) z_oN0)
theorem z_q5k {p : Nat} {h h' : z_H} (x : z_q5 p h) (f : ∀ j, p < j → j < p + 283 → h'.2 j = h.2 j) (hs : h.1 ≤ h'.1) : z_q5 p h' := ⟨z_q4k x.1 (fun j u1 u2 => f j u1 (by omega)) hs, (f _ (by omega) (by omega)).trans x.2⟩
def z_q6 (p : Nat) (h : z_H) : Prop := z_q5 p h ∧ (z_Sb h (p + 283) (p + 284) 0 [])
theorem z_q6k {p : Nat} {h h' : z_H} (x : z_q6 p h) (f : ∀ j, p < j → j < p + 285 → h'.2 j = h.2 j) (hs : h.1 ≤ h'.1) : z_q6 p h' := ⟨z_q5k x.1 (fun j u1 u2 => f j u1 (by omega)) hs, z_Sb.keptY (a := p + 283) x.2 (fun j u1 u2 => f j (by omega) (by omega)) hs⟩
def z_q7 (p : Nat) (h : z_H) : Prop := z_q6 p h ∧ (z_Rf h (p + 285) (0, 0))
theorem z_q7k {p : Nat} {h h' : z_H} (x : z_q7 p h) (f : ∀ j, p < j → j < p + 286 → h'.2 j = h.2 j) (hs : h.1 ≤ h'.1) : z_q7 p h' := ⟨z_q6k x.1 (fun j u1 u2 => f j u1 (by omega)) hs, (f _ (by omega) (by omega)).trans x.2⟩
def z_q8 (p : Nat) (h : z_H) : Prop := z_q7 p h ∧ (z_Rf h (p + 286) (0, 0))
theorem z_q8k {p : Nat} {h h' : z_H} (x : z_q8 p h) (f : ∀ j, p < j → j < p + 287 → h'.2 j = h.2 j) (hs : h.1 ≤ h'.1) : z_q8 p h' := ⟨z_q7k x.1 (fun j u1 u2 => f j u1 (by omega)) hs, (f _ (by omega) (by omega)).trans x.2⟩
def z_q9 (p : Nat) (h : z_H) : Prop := z_q8 p h ∧ (z_Rf h (p + 287) (0, 0))
theorem z_q9k {p : Nat} {h h' : z_H} (x : z_q9 p h) (f : ∀ j, p < j → j < p + 288 → h'.2 j = h.2 j) (hs : h.1 ≤ h'.1) : z_q9 p h' := ⟨z_q8k x.1 (fun j u1 u2 => f j u1 (by omega)) hs, (f _ (by omega) (by omega)).trans x.2⟩
section ZIn4b
variable {G : z_G} {h : z_H} {Q : z_O → z_H → Prop} {p : Nat}
theorem c_ip10 (hp : 1000 ≤ p) (hc : h.2 p = some (.inr (8, [.ref (p + 1), .ref (p + 26), .ref (p + 51), .int 0, .ref (p + 76), .ref (p + 278), .ref (p + 282), .ref (p + 283), .ref (p + 285), .ref (p + 286), .ref (p + 287), .int 0]))) (x : z_q9 p h) (e : 1000 + h.1 = p + 288) (q : ∀ h' : z_H, z_Pa h' p (fun k => p + 288 ≤ k) (p + 280) (p + 284) z_v0 z_v0 z_v0 false 0 (fun _ => z_v0) [] [] 0 z_oN0 z_oN0 (0, 0) (0, 0) (0, 0) (-1) → 1000 + h'.1 = p + 288 → (∀ j, j < p → h'.2 j = h.2 j) → Q (.inl none) h') : z_W G 5 0 0 103 119 (z_L0 103 [.ref p]) [] h Q := by
  refine z_aload_n rfl rfl ?_
  refine z_iconst (v := -1) rfl (by decide) ?_
  refine z_put rfl hc (by simp) rfl rfl rfl ?_
  refine z_vret rfl rfl ?_
  have g : ∀ j, p < j → (z_set h p (.inr (8, ([.ref (p + 1), .ref (p + 26), .ref (p + 51), .int 0, .ref (p + 76), .ref (p + 278), .ref (p + 282), .ref (p + 283), .ref (p + 285), .ref (p + 286), .ref (p + 287), .int 0] : List Value).set 11 (.int (-1))))).2 j = h.2 j := fun j hj => z_set_ne _ _ (by omega)
  have y : z_q9 p (z_set h p (.inr (8, ([.ref (p + 1), .ref (p + 26), .ref (p + 51), .int 0, .ref (p + 76), .ref (p + 278), .ref (p + 282), .ref (p + 283), .ref (p + 285), .ref (p + 286), .ref (p + 287), .int 0] : List Value).set 11 (.int (-1))))) := z_q9k x (fun j u1 _ => g j u1) (Nat.le_refl _)
  have c : (z_set h p (.inr (8, ([.ref (p + 1), .ref (p + 26), .ref (p + 51), .int 0, .ref (p + 76), .ref (p + 278), .ref (p + 282), .ref (p + 283), .ref (p + 285), .ref (p + 286), .ref (p + 287), .int 0] : List Value).set 11 (.int (-1))))).2 p = some (.inr (8, [.ref (p + 1), .ref (p + 26), .ref (p + 51), .int 0, .ref (p + 76), .ref (p + 278), .ref (p + 282), .ref (p + 283), .ref (p + 285), .ref (p + 286), .ref (p + 287), .int (-1)])) := z_set_eq _ _ _
  have e9 : 1000 + (z_set h p (.inr (8, ([.ref (p + 1), .ref (p + 26), .ref (p + 51), .int 0, .ref (p + 76), .ref (p + 278), .ref (p + 282), .ref (p + 283), .ref (p + 285), .ref (p + 286), .ref (p + 287), .int 0] : List Value).set 11 (.int (-1))))).1 = p + 288 := e
  have b9 : ∀ j, j < p → (z_set h p (.inr (8, ([.ref (p + 1), .ref (p + 26), .ref (p + 51), .int 0, .ref (p + 76), .ref (p + 278), .ref (p + 282), .ref (p + 283), .ref (p + 285), .ref (p + 286), .ref (p + 287), .int 0] : List Value).set 11 (.int (-1))))).2 j = h.2 j := fun j hj => z_set_ne _ _ (by omega)
  generalize z_set h p (.inr (8, ([.ref (p + 1), .ref (p + 26), .ref (p + 51), .int 0, .ref (p + 76), .ref (p + 278), .ref (p + 282), .ref (p + 283), .ref (p + 285), .ref (p + 286), .ref (p + 287), .int 0] : List Value).set 11 (.int (-1)))) = h9 at *
  obtain ⟨⟨⟨⟨⟨⟨⟨⟨⟨m0, m1⟩, m2⟩, m4⟩, m5⟩, m6⟩, m7⟩, m8⟩, m9⟩, m10⟩ := y
  exact q h9 ⟨c, m0, m1, m2, m4 _, m5.1, m5.2.1, m5.2.2, m6, m7, m8, m9, m10, ⟨Or.inl rfl, Or.inl rfl, by omega, fun k hk => hk, fun k (hk : 1000 + h9.1 ≤ k) => (by omega : p + 288 ≤ k), hp⟩, ⟨by decide, fun x hx => absurd hx List.not_mem_nil⟩, by decide, by decide⟩ e9 b9
theorem c_ip9 (hp : 1000 ≤ p) (hc : h.2 p = some (.inr (8, [.ref (p + 1), .ref (p + 26), .ref (p + 51), .int 0, .ref (p + 76), .ref (p + 278), .ref (p + 282), .ref (p + 283), .ref (p + 285), .ref (p + 286), .null, .int 0]))) (x : z_q8 p h) (e : 1000 + h.1 = p + 287) (q : ∀ h' : z_H, z_Pa h' p (fun k => p + 288 ≤ k) (p + 280) (p + 284) z_v0 z_v0 z_v0 false 0 (fun _ => z_v0) [] [] 0 z_oN0 z_oN0 (0, 0) (0, 0) (0, 0) (-1) → 1000 + h'.1 = p + 288 → (∀ j, j < p → h'.2 j = h.2 j) → Q (.inl none) h') : z_W G 5 1 2 103 108 (z_L0 103 [.ref p]) [] h Q := by
  refine z_mk (n := 1) (k := 10) (mc2 := 0) (ms2 := 0) (mcC := 0) (msC := 0) (dC := 1) (av := []) (b := p + 287) (P := fun h' => z_Rf h' (p + 287) (0, 0)) rfl rfl rfl rfl (Or.inr rfl) z_w14 rfl hc (by omega) (by omega) rfl rfl (by decide) (Nat.le_of_ble_eq_true rfl) (Nat.le_of_ble_eq_true rfl) (by decide +kernel) (fun w => w)
    (c_initRf9) (fun u w => z_putF rfl u (by simp) rfl rfl rfl rfl rfl w) (fun h h' x e f => (f _ (by omega) (by omega)).trans x) (fun h1 n1 hc1 e1 f1 => ?_)
  exact c_ip10 hp hc1 ⟨z_q8k x (fun j u1 u2 => f1 j (by omega) (by omega)) (by omega), n1⟩ (by omega) (fun h' w1 w2 w3 => q h' w1 w2 fun j hj => (w3 j hj).trans (f1 j (by omega) (by omega)))
theorem c_ip8 (hp : 1000 ≤ p) (hc : h.2 p = some (.inr (8, [.ref (p + 1), .ref (p + 26), .ref (p + 51), .int 0, .ref (p + 76), .ref (p + 278), .ref (p + 282), .ref (p + 283), .ref (p + 285), .null, .null, .int 0]))) (x : z_q7 p h) (e : 1000 + h.1 = p + 286) (q : ∀ h' : z_H, z_Pa h' p (fun k => p + 288 ≤ k) (p + 280) (p + 284) z_v0 z_v0 z_v0 false 0 (fun _ => z_v0) [] [] 0 z_oN0 z_oN0 (0, 0) (0, 0) (0, 0) (-1) → 1000 + h'.1 = p + 288 → (∀ j, j < p → h'.2 j = h.2 j) → Q (.inl none) h') : z_W G 5 2 4 103 97 (z_L0 103 [.ref p]) [] h Q := by
  refine z_mk (n := 1) (k := 9) (mc2 := 1) (ms2 := 2) (mcC := 0) (msC := 0) (dC := 1) (av := []) (b := p + 286) (P := fun h' => z_Rf h' (p + 286) (0, 0)) rfl rfl rfl rfl (Or.inr rfl) z_w14 rfl hc (by omega) (by omega) rfl rfl (by decide) (Nat.le_of_ble_eq_true rfl) (Nat.le_of_ble_eq_true rfl) (by decide +kernel) (fun w => w)
    (c_initRf9) (fun u w => z_putF rfl u (by simp) rfl rfl rfl rfl rfl w) (fun h h' x e f => (f _ (by omega) (by omega)).trans x) (fun h1 n1 hc1 e1 f1 => ?_)
  exact c_ip9 hp hc1 ⟨z_q7k x (fun j u1 u2 => f1 j (by omega) (by omega)) (by omega), n1⟩ (by omega) (fun h' w1 w2 w3 => q h' w1 w2 fun j hj => (w3 j hj).trans (f1 j (by omega) (by omega)))
theorem c_ip7 (hp : 1000 ≤ p) (hc : h.2 p = some (.inr (8, [.ref (p + 1), .ref (p + 26), .ref (p + 51), .int 0, .ref (p + 76), .ref (p + 278), .ref (p + 282), .ref (p + 283), .null, .null, .null, .int 0]))) (x : z_q6 p h) (e : 1000 + h.1 = p + 285) (q : ∀ h' : z_H, z_Pa h' p (fun k => p + 288 ≤ k) (p + 280) (p + 284) z_v0 z_v0 z_v0 false 0 (fun _ => z_v0) [] [] 0 z_oN0 z_oN0 (0, 0) (0, 0) (0, 0) (-1) → 1000 + h'.1 = p + 288 → (∀ j, j < p → h'.2 j = h.2 j) → Q (.inl none) h') : z_W G 5 3 6 103 86 (z_L0 103 [.ref p]) [] h Q := by
  refine z_mk (n := 1) (k := 8) (mc2 := 2) (ms2 := 4) (mcC := 0) (msC := 0) (dC := 1) (av := []) (b := p + 285) (P := fun h' => z_Rf h' (p + 285) (0, 0)) rfl rfl rfl rfl (Or.inr rfl) z_w14 rfl hc (by omega) (by omega) rfl rfl (by decide) (Nat.le_of_ble_eq_true rfl) (Nat.le_of_ble_eq_true rfl) (by decide +kernel) (fun w => w)
    (c_initRf9) (fun u w => z_putF rfl u (by simp) rfl rfl rfl rfl rfl w) (fun h h' x e f => (f _ (by omega) (by omega)).trans x) (fun h1 n1 hc1 e1 f1 => ?_)
  exact c_ip8 hp hc1 ⟨z_q6k x (fun j u1 u2 => f1 j (by omega) (by omega)) (by omega), n1⟩ (by omega) (fun h' w1 w2 w3 => q h' w1 w2 fun j hj => (w3 j hj).trans (f1 j (by omega) (by omega)))
theorem c_ip6 (hp : 1000 ≤ p) (hc : h.2 p = some (.inr (8, [.ref (p + 1), .ref (p + 26), .ref (p + 51), .int 0, .ref (p + 76), .ref (p + 278), .ref (p + 282), .null, .null, .null, .null, .int 0]))) (x : z_q5 p h) (e : 1000 + h.1 = p + 283) (q : ∀ h' : z_H, z_Pa h' p (fun k => p + 288 ≤ k) (p + 280) (p + 284) z_v0 z_v0 z_v0 false 0 (fun _ => z_v0) [] [] 0 z_oN0 z_oN0 (0, 0) (0, 0) (0, 0) (-1) → 1000 + h'.1 = p + 288 → (∀ j, j < p → h'.2 j = h.2 j) → Q (.inl none) h') : z_W G 5 5 26 103 75 (z_L0 103 [.ref p]) [] h Q := by
  refine z_mk (n := 2) (k := 7) (mc2 := 3) (ms2 := 6) (mcC := 1) (msC := 16) (dC := 2) (av := []) (b := p + 283) (P := fun h' => z_Sb h' (p + 283) (p + 284) 0 []) rfl rfl rfl rfl (Or.inl rfl) z_w300 rfl hc (by omega) (by omega) rfl rfl (by decide) (Nat.le_of_ble_eq_true rfl) (Nat.le_of_ble_eq_true rfl) (by decide +kernel) (fun w => w)
    (fun h1 Q' ha hl q => c_initS4 ha hl fun h' x e f => q h' x (by omega) f) (fun u w => z_putF rfl u (by simp) rfl rfl rfl rfl rfl w) (fun h h' x e f => z_Sb.keptY (a := p + 283) x (fun j u1 u2 => f j (by omega) (by omega)) (Nat.le_of_eq e.symm)) (fun h1 n1 hc1 e1 f1 => ?_)
  exact c_ip7 hp hc1 ⟨z_q5k x (fun j u1 u2 => f1 j (by omega) (by omega)) (by omega), n1⟩ (by omega) (fun h' w1 w2 w3 => q h' w1 w2 fun j hj => (w3 j hj).trans (f1 j (by omega) (by omega)))
theorem c_ip5 (hp : 1000 ≤ p) (hc : h.2 p = some (.inr (8, [.ref (p + 1), .ref (p + 26), .ref (p + 51), .int 0, .ref (p + 76), .ref (p + 278), .null, .null, .null, .null, .null, .int 0]))) (x : z_q4 p h) (e : 1000 + h.1 = p + 282) (q : ∀ h' : z_H, z_Pa h' p (fun k => p + 288 ≤ k) (p + 280) (p + 284) z_v0 z_v0 z_v0 false 0 (fun _ => z_v0) [] [] 0 z_oN0 z_oN0 (0, 0) (0, 0) (0, 0) (-1) → 1000 + h'.1 = p + 288 → (∀ j, j < p → h'.2 j = h.2 j) → Q (.inl none) h') : z_W G 5 6 31 103 64 (z_L0 103 [.ref p]) [] h Q := by
  refine z_mk (n := 1) (k := 6) (mc2 := 5) (ms2 := 26) (mcC := 0) (msC := 0) (dC := 1) (av := []) (b := p + 282) (P := fun h' => z_Or h' (p + 282) z_oN0) rfl rfl rfl rfl (Or.inr rfl) z_w22 rfl hc (by omega) (by omega) rfl rfl (by decide) (Nat.le_of_ble_eq_true rfl) (Nat.le_of_ble_eq_true rfl) (by decide +kernel) (fun w => w)
    (fun h1 Q' ha hl q => c_initOr (v1 := .null) (v2 := .int 0) (v3 := .int 0) (v4 := .int 0) (v5 := .int 0) ha fun h' x F => q h' x (by rw [F.1]; omega) fun j hj => F.2 j (by omega)) (fun u w => z_putF rfl u (by simp) rfl rfl rfl rfl rfl w) (fun h h' x e f => (f _ (by omega) (by omega)).trans x) (fun h1 n1 hc1 e1 f1 => ?_)
  exact c_ip6 hp hc1 ⟨z_q4k x (fun j u1 u2 => f1 j (by omega) (by omega)) (by omega), n1⟩ (by omega) (fun h' w1 w2 w3 => q h' w1 w2 fun j hj => (w3 j hj).trans (f1 j (by omega) (by omega)))
theorem c_ip4 (hp : 1000 ≤ p) (hc : h.2 p = some (.inr (8, [.ref (p + 1), .ref (p + 26), .ref (p + 51), .int 0, .ref (p + 76), .null, .null, .null, .null, .null, .null, .int 0]))) (x : z_q3 p h) (e : 1000 + h.1 = p + 278) (q : ∀ h' : z_H, z_Pa h' p (fun k => p + 288 ≤ k) (p + 280) (p + 284) z_v0 z_v0 z_v0 false 0 (fun _ => z_v0) [] [] 0 z_oN0 z_oN0 (0, 0) (0, 0) (0, 0) (-1) → 1000 + h'.1 = p + 288 → (∀ j, j < p → h'.2 j = h.2 j) → Q (.inl none) h') : z_W G 5 10 59 103 53 (z_L0 103 [.ref p]) [] h Q := by
  refine z_mk (n := 4) (k := 5) (mc2 := 6) (ms2 := 31) (mcC := 3) (msC := 25) (dC := 3) (av := []) (b := p + 278) (P := fun h' => z_Tx0 h' (p + 278)) rfl rfl rfl rfl (Or.inr rfl) z_w89 rfl hc (by omega) (by omega) rfl rfl (by decide) (Nat.le_of_ble_eq_true rfl) (Nat.le_of_ble_eq_true rfl) (by decide +kernel) (fun w => w)
    (fun h1 Q' ha hl q => c_initTx ha hl fun h' x e f => q h' x (by omega) f) (fun u w => z_putF rfl u (by simp) rfl rfl rfl rfl rfl w) (fun h h' x e f => x.keptX (fun j u1 u2 => f j (by omega) (by omega)) (Nat.le_of_eq e.symm)) (fun h1 n1 hc1 e1 f1 => ?_)
  exact c_ip5 hp hc1 ⟨z_q3k x (fun j u1 u2 => f1 j (by omega) (by omega)) (by omega), n1⟩ (by omega) (fun h' w1 w2 w3 => q h' w1 w2 fun j hj => (w3 j hj).trans (f1 j (by omega) (by omega)))
theorem c_ip3 (hp : 1000 ≤ p) (hc : h.2 p = some (.inr (8, [.ref (p + 1), .ref (p + 26), .ref (p + 51), .int 0, .null, .null, .null, .null, .null, .null, .null, .int 0]))) (x : z_q2 p h) (e : 1000 + h.1 = p + 76) (q : ∀ h' : z_H, z_Pa h' p (fun k => p + 288 ≤ k) (p + 280) (p + 284) z_v0 z_v0 z_v0 false 0 (fun _ => z_v0) [] [] 0 z_oN0 z_oN0 (0, 0) (0, 0) (0, 0) (-1) → 1000 + h'.1 = p + 288 → (∀ j, j < p → h'.2 j = h.2 j) → Q (.inl none) h') : z_W G 5 212 1158 103 37 (z_L0 103 [.ref p]) [] h Q := by
  refine z_aload_n rfl rfl ?_
  refine z_iconst (v := 0) rfl (by decide) ?_
  refine z_put rfl hc (by simp) rfl rfl rfl ?_
  refine Eq.mpr (congrArg (fun z => z_W G _ _ _ _ _ _ _ z Q) (show z_set h p (.inr (8, ([.ref (p + 1), .ref (p + 26), .ref (p + 51), .int 0, .null, .null, .null, .null, .null, .null, .null, .int 0] : List Value).set 3 (.int 0))) = h from z_set_self hc)) ?_
  refine z_mk (n := 202) (k := 4) (mc2 := 10) (ms2 := 59) (mcC := 201) (msC := 1096) (dC := 4) (av := []) (b := p + 76) (P := fun h' => ∀ H, z_Hy h' (p + 76) 0 H) rfl rfl rfl rfl (Or.inl rfl) z_w84 rfl hc (by omega) (by omega) rfl rfl (by decide) (Nat.le_of_ble_eq_true rfl) (Nat.le_of_ble_eq_true rfl) (by decide +kernel) (fun w => w)
    (fun h1 Q' ha hl q => c_initHy ha hl fun h' x e f => q h' x (by omega) f) (fun u w => z_putF rfl u (by simp) rfl rfl rfl rfl rfl w) (fun h h' x e f => fun H => (x H).keptX fun j u1 u2 => f j (by omega) (by omega)) (fun h1 n1 hc1 e1 f1 => ?_)
  exact c_ip4 hp hc1 ⟨z_q2k x (fun j u1 u2 => f1 j (by omega) (by omega)) (by omega), n1⟩ (by omega) (fun h' w1 w2 w3 => q h' w1 w2 fun j hj => (w3 j hj).trans (f1 j (by omega) (by omega)))
theorem c_ip2 (hp : 1000 ≤ p) (hc : h.2 p = some (.inr (8, [.ref (p + 1), .ref (p + 26), .null, .int 0, .null, .null, .null, .null, .null, .null, .null, .int 0]))) (x : z_q1 p h) (e : 1000 + h.1 = p + 51) (q : ∀ h' : z_H, z_Pa h' p (fun k => p + 288 ≤ k) (p + 280) (p + 284) z_v0 z_v0 z_v0 false 0 (fun _ => z_v0) [] [] 0 z_oN0 z_oN0 (0, 0) (0, 0) (0, 0) (-1) → 1000 + h'.1 = p + 288 → (∀ j, j < p → h'.2 j = h.2 j) → Q (.inl none) h') : z_W G 5 237 1294 103 26 (z_L0 103 [.ref p]) [] h Q := by
  refine z_mk (n := 25) (k := 2) (mc2 := 212) (ms2 := 1158) (mcC := 24) (msC := 128) (dC := 3) (av := []) (b := p + 51) (P := fun h' => z_Hs h' (p + 51) z_v0) rfl rfl rfl rfl (Or.inr rfl) z_w64 rfl hc (by omega) (by omega) rfl rfl (by decide) (Nat.le_of_ble_eq_true rfl) (Nat.le_of_ble_eq_true rfl) (by decide +kernel) (fun w => w)
    (c_initHs9) (fun u w => z_putF rfl u (by simp) rfl rfl rfl rfl rfl w) (fun h h' x e f => x.keptX fun j u1 u2 => f j (by omega) (by omega)) (fun h1 n1 hc1 e1 f1 => ?_)
  exact c_ip3 hp hc1 ⟨z_q1k x (fun j u1 u2 => f1 j (by omega) (by omega)) (by omega), n1⟩ (by omega) (fun h' w1 w2 w3 => q h' w1 w2 fun j hj => (w3 j hj).trans (f1 j (by omega) (by omega)))
theorem c_ip1 (hp : 1000 ≤ p) (hc : h.2 p = some (.inr (8, [.ref (p + 1), .null, .null, .int 0, .null, .null, .null, .null, .null, .null, .null, .int 0]))) (x : z_q0 p h) (e : 1000 + h.1 = p + 26) (q : ∀ h' : z_H, z_Pa h' p (fun k => p + 288 ≤ k) (p + 280) (p + 284) z_v0 z_v0 z_v0 false 0 (fun _ => z_v0) [] [] 0 z_oN0 z_oN0 (0, 0) (0, 0) (0, 0) (-1) → 1000 + h'.1 = p + 288 → (∀ j, j < p → h'.2 j = h.2 j) → Q (.inl none) h') : z_W G 5 262 1430 103 15 (z_L0 103 [.ref p]) [] h Q := by
  refine z_mk (n := 25) (k := 1) (mc2 := 237) (ms2 := 1294) (mcC := 24) (msC := 128) (dC := 3) (av := []) (b := p + 26) (P := fun h' => z_Hs h' (p + 26) z_v0) rfl rfl rfl rfl (Or.inr rfl) z_w64 rfl hc (by omega) (by omega) rfl rfl (by decide) (Nat.le_of_ble_eq_true rfl) (Nat.le_of_ble_eq_true rfl) (by decide +kernel) (fun w => w)
    (c_initHs9) (fun u w => z_putF rfl u (by simp) rfl rfl rfl rfl rfl w) (fun h h' x e f => x.keptX fun j u1 u2 => f j (by omega) (by omega)) (fun h1 n1 hc1 e1 f1 => ?_)
  exact c_ip2 hp hc1 ⟨z_q0k x (fun j u1 u2 => f1 j (by omega) (by omega)) (by omega), n1⟩ (by omega) (fun h' w1 w2 w3 => q h' w1 w2 fun j hj => (w3 j hj).trans (f1 j (by omega) (by omega)))
theorem c_ip0 (hp : 1000 ≤ p) (hc : h.2 p = some (.inr (8, [.null, .null, .null, .int 0, .null, .null, .null, .null, .null, .null, .null, .int 0]))) (e : 1000 + h.1 = p + 1) (q : ∀ h' : z_H, z_Pa h' p (fun k => p + 288 ≤ k) (p + 280) (p + 284) z_v0 z_v0 z_v0 false 0 (fun _ => z_v0) [] [] 0 z_oN0 z_oN0 (0, 0) (0, 0) (0, 0) (-1) → 1000 + h'.1 = p + 288 → (∀ j, j < p → h'.2 j = h.2 j) → Q (.inl none) h') : z_W G 5 287 1566 103 4 (z_L0 103 [.ref p]) [] h Q := by
  refine z_mk (n := 25) (k := 0) (mc2 := 262) (ms2 := 1430) (mcC := 24) (msC := 128) (dC := 3) (av := []) (b := p + 1) (P := fun h' => z_Hs h' (p + 1) z_v0) rfl rfl rfl rfl (Or.inr rfl) z_w64 rfl hc (by omega) (by omega) rfl rfl (by decide) (Nat.le_of_ble_eq_true rfl) (Nat.le_of_ble_eq_true rfl) (by decide +kernel) (fun w => w)
    (c_initHs9) (fun u w => z_putF rfl u (by simp) rfl rfl rfl rfl rfl w) (fun h h' x e f => x.keptX fun j u1 u2 => f j (by omega) (by omega)) (fun h1 n1 hc1 e1 f1 => ?_)
  exact c_ip1 hp hc1 n1 (by omega) (fun h' w1 w2 w3 => q h' w1 w2 fun j hj => (w3 j hj).trans (f1 j (by omega) (by omega)))
theorem c_initPa (hp : 1000 ≤ p) (hc : h.2 p = some (.inr (8, z_dfl 8))) (hl : p + 1 = 1000 + h.1) (q : ∀ h' : z_H, z_Pa h' p (fun k => p + 288 ≤ k) (p + 280) (p + 284) z_v0 z_v0 z_v0 false 0 (fun _ => z_v0) [] [] 0 z_oN0 z_oN0 (0, 0) (0, 0) (0, 0) (-1) → 1000 + h'.1 = p + 288 → (∀ j, j < p → h'.2 j = h.2 j) → Q (.inl none) h') : z_W G 5 287 1566 103 0 (z_L0 103 [.ref p]) [] h Q := by
  refine z_aload_n rfl rfl ?_
  refine z_objInit rfl rfl (by decide) ?_
  exact c_ip0 hp hc hl.symm q
end ZIn4b
theorem z_wf0 : z_wf z_v0 := by
  refine ⟨⟨fun j hj => ?_, rfl, fun _ _ => rfl, Nat.le_refl _⟩, by decide, by decide, fun i hi => absurd hi (Nat.not_lt_zero i), fun k _ => Or.inl rfl, fun b hb => absurd hb (Nat.not_lt_zero b), fun r hr => absurd hr (Nat.not_lt_zero r), fun r r' hr => absurd hr (Nat.not_lt_zero r), fun b hb => absurd hb (Nat.not_lt_zero b)⟩
  show (if j = 4 then 3 else 0) = 0
  rw [if_neg (by omega)]
