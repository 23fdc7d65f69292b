/-! A state computed once: behind each number a continuation, so that the kernel reads the number before it goes on. -/
section ZNo
variable {α β : Type}
def z_sN (n : Nat) (k : Nat → α) : α := match n with
  | 0 => k 0
  | m + 1 => k (Nat.succ m)
theorem z_sN_eq (n : Nat) (k : Nat → α) : z_sN n k = k n := by cases n <;> rfl
def z_sI (v : Int32) (k : Int32 → α) : α := z_sN v.toBitVec.toNat fun n => k (Int32.ofNat n)
theorem z_sI_eq (v : Int32) (k : Int32 → α) : z_sI v k = k v := by
  unfold z_sI
  rw [z_sN_eq]
  congr 1
  apply Int32.toBitVec_inj.1
  show BitVec.ofNat 32 v.toBitVec.toNat = v.toBitVec
  rw [BitVec.ofNat_toNat, BitVec.setWidth_eq]
def z_lku : List β → Nat → β → β
  | [], _, d => d
  | v :: _, 0, _ => v
  | _ :: l, j + 1, d => z_lku l j d
def z_sG (s : β → (β → α) → α) (f : Nat → β) : Nat → List β → (List β → α) → α
  | 0, l, k => k l
  | n + 1, l, k => s (f n) fun v => z_sG s f n (v :: l) k
theorem z_lkF (f : Nat → β) : ∀ n s j, z_lku ((List.range' s n).map f) j (f (s + j)) = f (s + j) := by
  intro n
  induction n with
  | zero => intro s j; cases j <;> rfl
  | succ n ih =>
    intro s j
    rw [List.range'_succ]
    cases j with
    | zero => rfl
    | succ j =>
      show z_lku ((List.range' (s + 1) n).map f) j (f (s + (j + 1))) = _
      rw [show s + (j + 1) = s + 1 + j by omega]
      exact ih (s + 1) j
theorem z_sG_eq {s : β → (β → α) → α} (hs : ∀ v k, s v k = k v) (f : Nat → β) : ∀ n l k, z_sG s f n l k = k ((List.range n).map f ++ l) := by
  intro n
  induction n with
  | zero => intro l k; rfl
  | succ n ih =>
    intro l k
    show s (f n) (fun v => z_sG s f n (v :: l) k) = _
    rw [hs, ih, List.range_succ, List.map_append]
    congr 1
    rw [List.append_assoc]
    rfl
def z_nG (s : β → (β → α) → α) (n : Nat) (f : Nat → β) (k : (Nat → β) → α) : α := z_sG s f n [] fun l => k fun j => z_lku l j (f j)
theorem z_nG_eq {s : β → (β → α) → α} (hs : ∀ v k, s v k = k v) (n : Nat) (f : Nat → β) (k : (Nat → β) → α) : z_nG s n f k = k f := by
  unfold z_nG
  rw [z_sG_eq hs, List.append_nil]
  congr 1
  funext j
  have := z_lkF f n 0 j
  rw [← List.range_eq_range', Nat.zero_add] at this
  exact this
def z_sT : List Nat → (List Nat → α) → α
  | [], k => k []
  | c :: l, k => z_sN c fun c => z_sT l fun l => k (c :: l)
theorem z_sT_eq : ∀ (l : List Nat) (k : List Nat → α), z_sT l k = k l := by
  intro l
  induction l with
  | nil => intro k; rfl
  | cons c l ih =>
    intro k
    show z_sN c (fun c => z_sT l fun l => k (c :: l)) = _
    rw [z_sN_eq, ih]
def z_nV (a n : Nat) (x : z_LV) (k : z_LV → α) : α := z_nG z_sN a x.1 fun c => z_nG (fun f k => z_nG z_sI n f k) a x.2 fun g => k (c, g)
theorem z_nV_eq (a n : Nat) (x : z_LV) (k : z_LV → α) : z_nV a n x k = k x := by
  unfold z_nV
  rw [z_nG_eq z_sN_eq, z_nG_eq (fun f k => z_nG_eq z_sI_eq n f k)]
def z_nH (v : z_HV) (k : z_HV → α) : α := z_nV 5 10 v.1 fun a => z_nV 6 11 v.2.1 fun b => z_nG z_sI 13 v.2.2 fun w => k (a, b, w)
theorem z_nH_eq (v : z_HV) (k : z_HV → α) : z_nH v k = k v := by
  unfold z_nH
  rw [z_nV_eq, z_nV_eq, z_nG_eq z_sI_eq]
end ZNo
def z_nP (x : z_PV) : z_PV := z_nH x.1 fun v => z_sN x.2.2.2.1 fun n => z_sT x.2.2.2.2.2.1 fun a => z_sT x.2.2.2.2.2.2.1 fun b => z_sI x.2.2.2.2.2.2.2.1.1 fun r1 => z_sI x.2.2.2.2.2.2.2.1.2 fun r2 => z_sI x.2.2.2.2.2.2.2.2.1.1 fun r3 => z_sI x.2.2.2.2.2.2.2.2.1.2 fun r4 => z_sI x.2.2.2.2.2.2.2.2.2 fun r5 => (v, x.2.1, x.2.2.1, n, x.2.2.2.2.1, a, b, (r1, r2), (r3, r4), r5)
theorem z_nP_eq (x : z_PV) : z_nP x = x := by
  unfold z_nP
  rw [z_nH_eq, z_sN_eq, z_sT_eq, z_sT_eq, z_sI_eq, z_sI_eq, z_sI_eq, z_sI_eq, z_sI_eq]
theorem z_P.cg {h : z_H} {p : Nat} {B : Nat → Prop} {x y : z_PV} (hP : z_P h p B x) (e : y = x) : z_P h p B y := e ▸ hP
