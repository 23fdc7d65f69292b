/-! Constructors: a reason, an order. -/
section ZIn
variable {G : z_G} {h : z_H} {Q : z_O → z_H → Prop} {a : Nat}
theorem c_initRf {v1 v2 : Value} (hc : h.2 a = some (.inr (7, [v1, v2]))) (q : ∀ h', z_Rf h' a (0, 0) → z_Fr a 1 h h' → Q (.inl none) h') : z_W G 1 0 0 14 0 (z_L0 14 [.ref a]) [] h Q := by
  refine z_aload_n rfl rfl ?_
  refine z_objInit rfl rfl (by decide) ?_
  refine z_aload_n rfl rfl ?_
  refine z_iconst (v := 0) rfl (by decide) ?_
  refine z_put rfl hc (by simp) rfl rfl rfl ?_
  refine z_aload_n rfl rfl ?_
  refine z_iconst (v := 0) rfl (by decide) ?_
  refine z_put rfl (z_set_eq _ _ _) (by simp) rfl rfl rfl ?_
  refine z_vret rfl rfl ?_
  exact q _ (z_set_eq _ _ _) ⟨rfl, fun k hk => (z_set_ne _ _ (by omega)).trans (z_set_ne _ _ (by omega))⟩
theorem c_initOr {v1 v2 v3 v4 v5 : Value} (hc : h.2 a = some (.inr (5, [v1, v2, v3, v4, v5]))) (q : ∀ h', z_Or h' a z_oN0 → z_Fr a 1 h h' → Q (.inl none) h') : z_W G 1 0 0 22 0 (z_L0 22 [.ref a]) [] h Q := by
  refine z_aload_n rfl rfl ?_
  refine z_objInit rfl rfl (by decide) ?_
  refine z_aload_n rfl rfl ?_
  refine z_gets (v := .ref 9) rfl (by decide +kernel) rfl ?_
  refine z_put rfl hc (by simp) rfl rfl rfl ?_
  refine z_aload_n rfl rfl ?_
  refine z_iconst (v := 0) rfl (by decide) ?_
  refine z_put rfl (z_set_eq _ _ _) (by simp) rfl rfl rfl ?_
  refine z_aload_n rfl rfl ?_
  refine z_iconst (v := 0) rfl (by decide) ?_
  refine z_put rfl (z_set_eq _ _ _) (by simp) rfl rfl rfl ?_
  refine z_aload_n rfl rfl ?_
  refine z_iconst (v := 0) rfl (by decide) ?_
  refine z_put rfl (z_set_eq _ _ _) (by simp) rfl rfl rfl ?_
  refine z_aload_n rfl rfl ?_
  refine z_iconst (v := 0) rfl (by decide) ?_
  refine z_put rfl (z_set_eq _ _ _) (by simp) rfl rfl rfl ?_
  refine z_vret rfl rfl ?_
  exact q _ (z_set_eq _ _ _) ⟨rfl, fun k hk => (z_set_ne _ _ (by omega)).trans ((z_set_ne _ _ (by omega)).trans ((z_set_ne _ _ (by omega)).trans ((z_set_ne _ _ (by omega)).trans (z_set_ne _ _ (by omega)))))⟩
end ZIn
