/-! ClockParliament$Numbers: what writes. -/
section ZNum2
variable {G : z_G} {h : z_H} {Q : z_O → z_H → Prop} {a cap n : Nat} {f : Nat → Int32}
def z_insF (f : Nat → Int32) (n p : Nat) (x : Int32) : Nat → Int32 := fun j => if j = p then x else if p < j ∧ j ≤ n then f (j - 1) else f j
theorem c_insert {p : Nat} {x : Int32} (hN : z_Num h a cap n f) (hp : p ≤ n) (hc : n < cap) (q : Q (.inl none) (z_putN h a cap (n + 1) (z_insF f n p x))) : z_W G 0 0 0 6 0 (z_L0 6 [.ref a, .int (nI p), .int x]) [] h Q := by
  have hn1 := hN.2.2.1
  have hn2 := hN.2.2.2
  have loop : ∀ (k : Nat) (g : Nat → Int32), p + k ≤ n → (∀ j, g j = if p + k < j ∧ j ≤ n then f (j - 1) else f j) → z_W G 0 0 0 6 30 [.ref a, .int (nI p), .int x, .int (nI (p + k))] [] (z_putN h a cap n g) Q := by
    intro k
    induction k with
    | zero =>
      intro g hk hg
      have hM := z_putN_num (h := h) (a := a) (f := g) hn1 hn2
      refine z_iload_n rfl rfl ?_
      refine z_iload_n rfl rfl ?_
      refine z_icmp_le rfl (fun c32 => ?_) (fun c32 => absurd (show nI (p + 0) ≤ nI p from (nI_leI (by omega) (by omega)).mpr (by omega)) c32)
      refine z_aload_n rfl rfl ?_
      refine z_get rfl hM.1 rfl ?_
      refine z_iload_n rfl rfl ?_
      refine z_iload_n rfl rfl ?_
      refine z_iast rfl hM.2.1 (vp_in_nI (by omega) (by omega)) ?_
      rw [z_putN_arr hM, z_putN_put, nI_clamp (by omega)]
      have hM2 := z_putN_num (h := h) (a := a) (f := upd g p x) hn1 hn2
      refine z_aload_n rfl rfl ?_
      refine z_dup rfl rfl ?_
      refine z_get rfl hM2.1 rfl ?_
      refine z_iconst (v := 1) rfl (by decide) ?_
      refine z_iadd rfl ?_
      rw [nI_1]
      refine z_put rfl hM2.1 (by simp) rfl rfl rfl ?_
      simp only [List.set]
      rw [z_putN_siz hM2, z_putN_put]
      refine z_vret rfl rfl ?_
      have e : upd g p x = z_insF f n p x := by
        funext j
        unfold upd z_insF
        split
        · rfl
        · rw [hg j]; simp only [Nat.add_zero]
      rw [e]; exact q
    | succ k ih =>
      intro g hk hg
      have hM := z_putN_num (h := h) (a := a) (f := g) hn1 hn2
      have es : nI (p + (k + 1)) - 1 = nI (p + k) := nI_pred (p + k)
      refine z_iload_n rfl rfl ?_
      refine z_iload_n rfl rfl ?_
      refine z_icmp_le rfl (fun c32 => absurd c32 (show ¬ nI (p + (k + 1)) ≤ nI p from fun q9 => absurd ((nI_leI (by omega) (by omega)).mp q9) (by omega))) (fun c32 => ?_)
      refine z_aload_n rfl rfl ?_
      refine z_get rfl hM.1 rfl ?_
      refine z_iload_n rfl rfl ?_
      refine z_aload_n rfl rfl ?_
      refine z_get rfl hM.1 rfl ?_
      refine z_iload_n rfl rfl ?_
      refine z_iconst (v := 1) rfl (by decide) ?_
      refine z_isub rfl ?_
      rw [es]
      refine z_iald rfl hM.2.1 (vp_in_nI (by omega) (by omega)) ?_
      refine z_iast rfl hM.2.1 (vp_in_nI (by omega) (by omega)) ?_
      rw [z_putN_arr hM, z_putN_put, nI_clamp (by omega), nI_clamp (by omega)]
      refine z_iinc rfl rfl (by decide +kernel) rfl ?_
      rw [show nI (p + (k + 1)) + Int32.ofInt (-1) = nI (p + k) from pk_m1 (p + k)]
      refine z_goto rfl (ih _ (by omega) (fun j => ?_))
      unfold upd
      by_cases ej : j = p + (k + 1)
      · subst ej
        rw [if_pos rfl, if_pos (by omega), hg, if_neg (by omega)]
        rfl
      · rw [if_neg ej, hg j]
        by_cases e2 : p + (k + 1) < j ∧ j ≤ n
        · rw [if_pos e2, if_pos (by omega)]
        · rw [if_neg e2, if_neg (by omega)]
  refine z_iload_n rfl rfl ?_
  refine z_if_lt rfl (fun c1 => absurd c1 (nI_pos (by omega))) (fun c1 => ?_)
  refine z_iload_n rfl rfl ?_
  refine z_aload_n rfl rfl ?_
  refine z_get rfl hN.1 rfl ?_
  refine z_icmp_gt rfl (fun c9 => absurd c9 (show ¬ nI n < nI p from nI_nlt hp (by omega))) (fun c9 => ?_)
  refine z_aload_n rfl rfl ?_
  refine z_get rfl hN.1 rfl ?_
  refine z_aload_n rfl rfl ?_
  refine z_get rfl hN.1 rfl ?_
  refine z_alen rfl hN.2.1 (by decide) ?_
  refine z_icmp_lt rfl (fun c21 => ?_) (fun c21 => absurd (show nI n < nI cap from nI_lt hc (by omega)) c21)
  refine z_aload_n rfl rfl ?_
  refine z_get rfl hN.1 rfl ?_
  refine z_istore_n rfl (by decide +kernel) rfl ?_
  have w := loop (n - p) f (by omega) (fun j => by rw [if_neg (by omega)])
  rw [show p + (n - p) = n by omega, z_putN_self hN] at w
  exact w
theorem c_add {x : Int32} (hN : z_Num h a cap n f) (hc : n < cap) (q : Q (.inl none) (z_putN h a cap (n + 1) (z_insF f n n x))) : z_W G 1 0 0 7 0 (z_L0 7 [.ref a, .int x]) [] h Q := by
  refine z_aload_n rfl rfl ?_
  refine z_aload_n rfl rfl ?_
  refine z_get rfl hN.1 rfl ?_
  refine z_iload_n rfl rfl ?_
  refine z_callV (av := [_, _]) rfl z_w6 hN.1 rfl rfl rfl rfl rfl (Nat.le_of_ble_eq_true rfl) (Nat.le_of_ble_eq_true rfl) (Nat.le_of_ble_eq_true rfl) (Nat.le_of_ble_eq_true rfl) (c_insert hN (Nat.le_refl _) hc ?_)
  refine z_vret rfl rfl ?_
  exact q
def z_remF (f : Nat → Int32) (n p : Nat) : Nat → Int32 := fun j => if p ≤ j ∧ j + 1 < n then f (j + 1) else f j
theorem c_removeAtL {p : Nat} (hN : z_Num h a cap n f) (hp : p < n) (q : Q (.inl none) (z_putN h a cap (n - 1) (z_remF f n p))) : z_W G 1 0 0 8 9 [.ref a, .int (nI p), .retAddr 0] [] h Q := by
  have hn1 := hN.2.2.1
  have hn2 := hN.2.2.2
  have loop : ∀ (k i : Nat) (g : Nat → Int32), i + k + 1 = n → p ≤ i → (∀ j, g j = if p ≤ j ∧ j < i then f (j + 1) else f j) → z_W G 1 0 0 8 11 [.ref a, .int (nI p), .int (nI i)] [] (z_putN h a cap n g) Q := by
    intro k
    induction k with
    | zero =>
      intro i g hk hpi hg
      have hM := z_putN_num (h := h) (a := a) (f := g) hn1 hn2
      refine z_iload_n rfl rfl ?_
      refine z_iconst (v := 1) rfl (by decide) ?_
      refine z_iadd rfl ?_
      refine z_aload_n rfl rfl ?_
      refine z_get rfl hM.1 rfl ?_
      rw [nI_1]
      refine z_icmp_ge rfl (fun c18 => ?_) (fun c18 => absurd (show nI n ≤ nI (i + 1) from (nI_leI (by omega) (by omega)).mpr (by omega)) c18)
      refine z_aload_n rfl rfl ?_
      refine z_dup rfl rfl ?_
      refine z_get rfl hM.1 rfl ?_
      refine z_iconst (v := 1) rfl (by decide) ?_
      refine z_isub rfl ?_
      rw [show nI n - 1 = nI (n - 1) from pk_sub (b := 1) (by omega)]
      refine z_put rfl hM.1 (by simp) rfl rfl rfl ?_
      simp only [List.set]
      rw [z_putN_siz hM, z_putN_put]
      refine z_vret rfl rfl ?_
      have e : g = z_remF f n p := by
        funext j
        unfold z_remF
        rw [hg j]
        by_cases e2 : p ≤ j ∧ j < i
        · rw [if_pos e2, if_pos (by omega)]
        · rw [if_neg e2, if_neg (by omega)]
      rw [e]; exact q
    | succ k ih =>
      intro i g hk hpi hg
      have hM := z_putN_num (h := h) (a := a) (f := g) hn1 hn2
      refine z_iload_n rfl rfl ?_
      refine z_iconst (v := 1) rfl (by decide) ?_
      refine z_iadd rfl ?_
      refine z_aload_n rfl rfl ?_
      refine z_get rfl hM.1 rfl ?_
      rw [nI_1]
      refine z_icmp_ge rfl (fun c18 => absurd c18 (show ¬ nI n ≤ nI (i + 1) from fun q9 => absurd ((nI_leI (by omega) (by omega)).mp q9) (by omega))) (fun c18 => ?_)
      refine z_aload_n rfl rfl ?_
      refine z_get rfl hM.1 rfl ?_
      refine z_iload_n rfl rfl ?_
      refine z_aload_n rfl rfl ?_
      refine z_get rfl hM.1 rfl ?_
      refine z_iload_n rfl rfl ?_
      refine z_iconst (v := 1) rfl (by decide) ?_
      refine z_iadd rfl ?_
      rw [nI_1]
      refine z_iald rfl hM.2.1 (vp_in_nI (by omega) (by omega)) ?_
      refine z_iast rfl hM.2.1 (vp_in_nI (by omega) (by omega)) ?_
      rw [z_putN_arr hM, z_putN_put, nI_clamp (by omega), nI_clamp (by omega)]
      refine z_iinc1 rfl rfl (by decide +kernel) rfl ?_
      refine z_goto rfl (ih (i + 1) _ (by omega) (by omega) (fun j => ?_))
      unfold upd
      by_cases ej : j = i
      · subst ej
        rw [if_pos rfl, if_pos (by omega), hg, if_neg (by omega)]
      · rw [if_neg ej, hg j]
        by_cases e2 : p ≤ j ∧ j < i
        · rw [if_pos e2, if_pos (by omega)]
        · rw [if_neg e2, if_neg (by omega)]
  refine z_iload_n rfl rfl ?_
  refine z_istore_n rfl (by decide +kernel) rfl ?_
  have w := loop (n - 1 - p) p f (by omega) (Nat.le_refl _) (fun j => by rw [if_neg (by omega)])
  rw [z_putN_self hN] at w
  exact w
theorem c_removeAt {x : Int32} (hN : z_Num h a cap n f) (q : Q (.inl none) (if z_has x n = true then z_putN h a cap (n - 1) (z_remF f n (z_ix x)) else h)) : z_W G 1 0 0 8 0 (z_L0 8 [.ref a, .int x]) [] h Q := by
  have hn1 := hN.2.2.1
  have hn2 := hN.2.2.2
  refine z_aload_n rfl rfl ?_
  refine z_iload_n rfl rfl ?_
  refine z_callV (av := [_]) rfl z_w2 hN.1 rfl rfl rfl rfl rfl (Nat.le_of_ble_eq_true rfl) (Nat.le_of_ble_eq_true rfl) (Nat.le_of_ble_eq_true rfl) (Nat.le_of_ble_eq_true rfl) (c_has hN ?_)
  refine z_if_ne rfl (fun c1 => ?_) (fun c1 => ?_)
  · have hb : z_has x n = true := by simpa [z_bI] using c1
    obtain ⟨hv, -, hlt, hti⟩ := z_hasI hb
    rw [if_pos hb] at q
    have ex : x = nI (z_ix x) := Int32.toInt_inj.mp (by rw [hti, nI_toInt (by omega)])
    generalize z_ix x = p at *
    subst ex
    exact c_removeAtL hN hlt q
  · refine z_vret rfl rfl ?_
    rw [(z_bI _).mp c1] at q; exact q
/-- numbers that the list refers to: x goes (-1), later ones are one less -/
def z_forV (x v : Int32) : Int32 := if v = x then -1 else if x < v then v - 1 else v
def z_forF (f : Nat → Int32) (n : Nat) (x : Int32) : Nat → Int32 := fun j => if j < n then z_forV x (f j) else f j
theorem c_forget {x : Int32} (hN : z_Num h a cap n f) (q : Q (.inl none) (z_putN h a cap n (z_forF f n x))) : z_W G 0 0 0 9 0 (z_L0 9 [.ref a, .int x]) [] h Q := by
  have hn1 := hN.2.2.1
  have hn2 := hN.2.2.2
  have loop : ∀ (k i : Nat) (g : Nat → Int32), i + k = n → (∀ j, g j = if j < i then z_forV x (f j) else f j) → z_W G 0 0 0 9 2 [.ref a, .int x, .int (nI i)] [] (z_putN h a cap n g) Q := by
    intro k
    induction k with
    | zero =>
      intro i g hk hg
      have hM := z_putN_num (h := h) (a := a) (f := g) hn1 hn2
      refine z_iload_n rfl rfl ?_
      refine z_aload_n rfl rfl ?_
      refine z_get rfl hM.1 rfl ?_
      refine z_icmp_ge rfl (fun c7 => ?_) (fun c7 => absurd (show nI n ≤ nI i from (nI_leI (by omega) (by omega)).mpr (by omega)) c7)
      refine z_vret rfl rfl ?_
      have e : g = z_forF f n x := by
        funext j
        unfold z_forF
        rw [hg j, show i = n by omega]
      rw [e]
      exact q
    | succ k ih =>
      intro i g hk hg
      have hM := z_putN_num (h := h) (a := a) (f := g) hn1 hn2
      have hgi : g i = f i := by rw [hg, if_neg (by omega)]
      have step : ∀ v, v = z_forV x (f i) → ∀ j, upd g i v j = if j < i + 1 then z_forV x (f j) else f j := by
        intro v hv j
        unfold upd
        by_cases ej : j = i
        · subst ej
          rw [if_pos rfl, if_pos (by omega), hv]
        · rw [if_neg ej, hg j]
          by_cases e2 : j < i
          · rw [if_pos e2, if_pos (by omega)]
          · rw [if_neg e2, if_neg (by omega)]
      refine z_iload_n rfl rfl ?_
      refine z_aload_n rfl rfl ?_
      refine z_get rfl hM.1 rfl ?_
      refine z_icmp_ge rfl (fun c7 => absurd c7 (show ¬ nI n ≤ nI i from fun q9 => absurd ((nI_leI (by omega) (by omega)).mp q9) (by omega))) (fun c7 => ?_)
      refine z_aload_n rfl rfl ?_
      refine z_get rfl hM.1 rfl ?_
      refine z_iload_n rfl rfl ?_
      refine z_iald rfl hM.2.1 (vp_in_nI (by omega) (by omega)) ?_
      rw [nI_clamp (by omega), hgi]
      refine z_iload_n rfl rfl ?_
      refine z_icmp_ne rfl (fun c1 => ?_) (fun c1 => ?_)
      · refine z_aload_n rfl rfl ?_
        refine z_get rfl hM.1 rfl ?_
        refine z_iload_n rfl rfl ?_
        refine z_iald rfl hM.2.1 (vp_in_nI (by omega) (by omega)) ?_
        rw [nI_clamp (by omega), hgi]
        refine z_iload_n rfl rfl ?_
        refine z_icmp_le rfl (fun c2 => ?_) (fun c2 => ?_)
        · refine z_iinc1 rfl rfl (by decide +kernel) rfl ?_
          have w := ih (i + 1) (upd g i (f i)) (by omega) (step _ (by unfold z_forV; rw [if_neg (by simpa using c1), if_neg (by rw [Int32.not_lt]; simpa using c2)]))
          rw [show upd g i (f i) = g from by funext j; unfold upd; split; rename_i e; rw [e, hgi]; rfl] at w
          exact z_goto rfl w
        · refine z_aload_n rfl rfl ?_
          refine z_get rfl hM.1 rfl ?_
          refine z_iload_n rfl rfl ?_
          refine z_dup2 rfl rfl rfl ?_
          refine z_iald rfl hM.2.1 (vp_in_nI (by omega) (by omega)) ?_
          rw [nI_clamp (by omega), hgi]
          refine z_iconst (v := 1) rfl (by decide) ?_
          refine z_isub rfl ?_
          refine z_iast rfl hM.2.1 (vp_in_nI (by omega) (by omega)) ?_
          rw [z_putN_arr hM, z_putN_put, nI_clamp (by omega)]
          refine z_iinc1 rfl rfl (by decide +kernel) rfl ?_
          exact z_goto rfl (ih (i + 1) _ (by omega) (step _ (by unfold z_forV; rw [if_neg (by simpa using c1), if_pos (by rw [← Int32.not_le]; simpa using c2)])))
      · refine z_aload_n rfl rfl ?_
        refine z_get rfl hM.1 rfl ?_
        refine z_iload_n rfl rfl ?_
        refine z_iconst (v := (-1)) rfl (by decide) ?_
        refine z_iast rfl hM.2.1 (vp_in_nI (by omega) (by omega)) ?_
        refine z_goto rfl ?_
        rw [z_putN_arr hM, z_putN_put, nI_clamp (by omega)]
        refine z_iinc1 rfl rfl (by decide +kernel) rfl ?_
        exact z_goto rfl (ih (i + 1) _ (by omega) (step _ (by unfold z_forV; rw [if_pos (by simpa using c1)])))
  refine z_iconst (v := nI 0) rfl (by decide) ?_
  refine z_istore_n rfl (by decide +kernel) rfl ?_
  have w := loop n 0 f (by omega) (fun j => by rw [if_neg (by omega)])
  rw [z_putN_self hN] at w
  exact w
def z_copF (f g : Nat → Int32) (n : Nat) : Nat → Int32 := fun j => if j < n then g j else f j
theorem c_copyFrom {b cap2 m : Nat} {f2 : Nat → Int32} (hN : z_Num h a cap n f) (hB : z_Num h b cap2 m f2) (ha : b ≠ a ∧ b ≠ a + 1 ∧ b + 1 ≠ a ∧ b + 1 ≠ a + 1) (hm : m ≤ cap) (q : Q (.inl none) (z_putN h a cap m (z_copF f f2 m))) : z_W G 0 0 0 13 0 (z_L0 13 [.ref a, .ref b]) [] h Q := by
  have hn2 := hN.2.2.2
  have loop : ∀ (k i : Nat) (g : Nat → Int32), i + k = m → (∀ j, g j = if j < i then f2 j else f j) → z_W G 0 0 0 13 7 [.ref a, .ref b, .int (nI i)] [] (z_putN h a cap i g) Q := by
    intro k
    induction k with
    | zero =>
      intro i g hk hg
      have hM := z_putN_num (h := h) (a := a) (n := i) (f := g) (by omega) hn2
      have hC : z_Num (z_putN h a cap i g) b cap2 m f2 := hB.kept (z_putN_ne ha.1 ha.2.1) (z_putN_ne ha.2.2.1 ha.2.2.2)
      refine z_iload_n rfl rfl ?_
      refine z_aload_n rfl rfl ?_
      refine z_get rfl hC.1 rfl ?_
      refine z_icmp_ge rfl (fun c12 => ?_) (fun c12 => absurd (show nI m ≤ nI i from (nI_leI (by omega) (by have := hB.2.2; omega)).mpr (by omega)) c12)
      refine z_vret rfl rfl ?_
      have e : g = z_copF f f2 m := by
        funext j
        unfold z_copF
        rw [hg j, show i = m by omega]
      rw [e, show i = m by omega]; exact q
    | succ k ih =>
      intro i g hk hg
      have hM := z_putN_num (h := h) (a := a) (n := i) (f := g) (by omega) hn2
      have hC : z_Num (z_putN h a cap i g) b cap2 m f2 := hB.kept (z_putN_ne ha.1 ha.2.1) (z_putN_ne ha.2.2.1 ha.2.2.2)
      have hb2 := hB.2.2
      refine z_iload_n rfl rfl ?_
      refine z_aload_n rfl rfl ?_
      refine z_get rfl hC.1 rfl ?_
      refine z_icmp_ge rfl (fun c12 => absurd c12 (show ¬ nI m ≤ nI i from fun q9 => absurd ((nI_leI (by omega) (by omega)).mp q9) (by omega))) (fun c12 => ?_)
      refine z_iload_n rfl rfl ?_
      refine z_aload_n rfl rfl ?_
      refine z_get rfl hM.1 rfl ?_
      refine z_alen rfl hM.2.1 (by decide) ?_
      refine z_icmp_ge rfl (fun c21 => absurd c21 (show ¬ nI cap ≤ nI i from fun q9 => absurd ((nI_leI (by omega) (by omega)).mp q9) (by omega))) (fun c21 => ?_)
      refine z_aload_n rfl rfl ?_
      refine z_get rfl hM.1 rfl ?_
      refine z_iload_n rfl rfl ?_
      refine z_aload_n rfl rfl ?_
      refine z_get rfl hC.1 rfl ?_
      refine z_iload_n rfl rfl ?_
      refine z_iald rfl hC.2.1 (vp_in_nI (by omega) (by omega)) ?_
      refine z_iast rfl hM.2.1 (vp_in_nI (by omega) (by omega)) ?_
      rw [z_putN_arr hM, z_putN_put, nI_clamp (by omega)]
      have hM2 := z_putN_num (h := h) (a := a) (n := i) (f := upd g i (f2 i)) (by omega) hn2
      refine z_aload_n rfl rfl ?_
      refine z_dup rfl rfl ?_
      refine z_get rfl hM2.1 rfl ?_
      refine z_iconst (v := 1) rfl (by decide) ?_
      refine z_iadd rfl ?_
      rw [nI_1]
      refine z_put rfl hM2.1 (by simp) rfl rfl rfl ?_
      simp only [List.set]
      rw [z_putN_siz hM2, z_putN_put]
      refine z_iinc1 rfl rfl (by decide +kernel) rfl ?_
      refine z_goto rfl (ih (i + 1) _ (by omega) (fun j => ?_))
      unfold upd
      by_cases ej : j = i
      · subst ej
        rw [if_pos rfl, if_pos (by omega)]
      · rw [if_neg ej, hg j]
        by_cases e2 : j < i
        · rw [if_pos e2, if_pos (by omega)]
        · rw [if_neg e2, if_neg (by omega)]
  refine z_aload_n rfl rfl ?_
  refine z_iconst (v := nI 0) rfl (by decide) ?_
  refine z_put rfl hN.1 (by simp) rfl rfl rfl ?_
  simp only [List.set]
  rw [z_putN_siz hN]
  refine z_iconst (v := nI 0) rfl (by decide) ?_
  refine z_istore_n rfl (by decide +kernel) rfl ?_
  exact loop m 0 f (by omega) (fun j => by rw [if_neg (by omega)])
/-- the constructor: the object just made, its room the next cell -/
theorem c_Num_init {c : Nat} (hc : c ≤ 1000) (ha : h.2 a = some (.inr (4, [.null, .int 0]))) (hl : a + 1 = 1000 + h.1) (q : ∀ h', h'.1 = h.1 + 1 → z_Num h' a c 0 (fun _ => 0) → (∀ k, k ≠ a → k ≠ a + 1 → h'.2 k = h.2 k) → Q (.inl none) h') : z_W G 1 1 c 0 0 (z_L0 0 [.ref a, .int (nI c)]) [] h Q := by
  have ea : (z_set h a (.inr (4, [.null, .int 0]))) = h := z_set_self ha
  refine z_aload_n rfl rfl ?_
  refine z_objInit rfl rfl (Nat.le_of_ble_eq_true rfl) ?_
  refine z_aload_n rfl rfl ?_
  refine z_iconst (v := 0) rfl (by decide) ?_
  refine z_put rfl ha (by simp) rfl rfl rfl ?_
  simp only [List.set]
  rw [ea]
  refine z_aload_n rfl rfl ?_
  refine z_iload_n rfl rfl ?_
  refine z_iconst (v := 0) rfl (by decide) ?_
  refine z_callS (av := [_, _]) rfl z_w319 rfl rfl rfl rfl (Nat.le_of_ble_eq_true rfl) (Nat.le_of_ble_eq_true rfl) (Nat.le_of_ble_eq_true rfl) (Nat.le_of_ble_eq_true rfl) (c_max ?_)
  rw [if_neg (nI_pos (by omega))]
  refine z_newA (mc2 := 0) (ms2 := 0) (N := c) rfl (nI_pos (by omega)) (nI_clamp (by omega)) (by omega) (by omega) (by omega) ?_
  have hnw : (z_new h (.inl (0, z_dfa 0 c))).2 a = some (.inr (4, [.null, .int 0])) := by
    show (if a = 1000 + h.1 then _ else h.2 a) = _
    rw [if_neg (by omega)]; exact ha
  refine z_putF rfl hnw (by simp) rfl rfl rfl rfl rfl ?_
  refine z_vret rfl rfl ?_
  refine q _ rfl ⟨?_, ?_, Nat.zero_le _, hc⟩ (fun k h1 h2 => ?_)
  · rw [z_set_eq, ← hl]; rfl
  · rw [z_set_ne _ _ (by omega)]
    show (if a + 1 = 1000 + h.1 then _ else h.2 (a + 1)) = _
    rw [if_pos hl]; rfl
  · rw [z_set_ne _ _ h1]
    show (if k = 1000 + h.1 then _ else h.2 k) = _
    rw [if_neg (by omega)]
end ZNum2
