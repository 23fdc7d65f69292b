/-! The rows: each turns z_W at an instruction into z_W at the next. -/
theorem z_dn {mi pc nx : Nat} {i : Instr} {info : List Nat} {n : Nat} (hr : z_at mi pc = some (i, nx, info)) (hn : z_len i = n) (h0 : n ≠ 0) : decode (z_b mi) pc = .ok (i, n) ∧ nx = pc + n := by
  have h := z_okAll hr
  unfold z_ok at h
  simp only [Bool.and_eq_true, decide_eq_true_eq, Bool.or_eq_true, beq_iff_eq] at h
  obtain ⟨⟨⟨h1, h2⟩, h3⟩, -⟩ := h
  rw [hn] at h2
  have e : nx = pc + n := h2.resolve_left h0
  refine ⟨?_, e⟩
  rw [h3, e]
  congr 2
  omega
theorem z_lkOf {mi pc nx : Nat} {i : Instr} {info : List Nat} (hr : z_at mi pc = some (i, nx, info)) : z_lk (z_y mi).cls pc i info = true := by
  have h := z_okAll hr
  unfold z_ok at h
  simp only [Bool.and_eq_true] at h
  exact h.2
theorem z_t1 {pc t : Nat} {o : Int} (h : decide ((pc : Int) + o = (t : Int)) = true) : (pc : Int) + o = (t : Int) := of_decide_eq_true h
section ZR
variable {G : z_G} {d mc ms mi pc nx : Nat} {L st st1 st2 : List Value} {h : z_H} {Q : z_O → z_H → Prop} {info : List Nat}
theorem z_pure (f : ∀ {p : Program} {e : Env} {R : Room} {s : State} {m : MethodId} {args : Array Value} {below : List Frame} {meth : Method} {c : Code} {H : Heap} {locs : List Loc} {cells slots : Nat} {Q' : State → Prop} {ls : Array Slot}, z_C G mi p s m args meth c → z_Lo G (z_nL mi) ls L → W p G.1 e R s m args below meth c H locs cells slots Q' (F0 m nx ls (st2.map (z_v G))) → W p G.1 e R s m args below meth c H locs cells slots Q' (F0 m pc ls (st1.map (z_v G))))
    (k : z_W G d mc ms mi nx L st2 h Q) : z_W G d mc ms mi pc L st1 h Q :=
  fun p e R s m args below meth c H locs cells slots MC MS ls C r hS hL hR => f C hL (k p e R s m args below meth c H locs cells slots MC MS ls C r hS hL hR)
theorem z_iconst {n : Int} {v : Int32} (hr : z_at mi pc = some (.iconst n, nx, info)) (hv : Int32.ofInt n = v) (k : z_W G d mc ms mi nx L (.int v :: st) h Q) : z_W G d mc ms mi pc L (st) h Q := by
  obtain ⟨hd, rfl⟩ := z_dn (n := 1) hr rfl (by decide)
  exact z_pure (fun C hL w => lv_iconst C.1 C.2.1 hd hv w) k
theorem z_bipush {n : Int} {v : Int32} (hr : z_at mi pc = some (.bipush n, nx, info)) (hv : (Int8.ofInt n).toInt32 = v) (k : z_W G d mc ms mi nx L (.int v :: st) h Q) : z_W G d mc ms mi pc L (st) h Q := by
  obtain ⟨hd, rfl⟩ := z_dn (n := 2) hr rfl (by decide)
  exact z_pure (fun C hL w => lv_bipush C.1 C.2.1 hd hv w) k
theorem z_sipush {n : Int} {v : Int32} (hr : z_at mi pc = some (.sipush n, nx, info)) (hv : (Int16.ofInt n).toInt32 = v) (k : z_W G d mc ms mi nx L (.int v :: st) h Q) : z_W G d mc ms mi pc L (st) h Q := by
  obtain ⟨hd, rfl⟩ := z_dn (n := 3) hr rfl (by decide)
  exact z_pure (fun C hL w => lv_sipush C.1 C.2.1 hd hv w) k
theorem z_lconst {n : Fin 2} {v : Int64} (hr : z_at mi pc = some (.lconst n, nx, info)) (hv : Int64.ofNat (n : Nat) = v) (k : z_W G d mc ms mi nx L (.long v :: st) h Q) : z_W G d mc ms mi pc L (st) h Q := by
  obtain ⟨hd, rfl⟩ := z_dn (n := 1) hr rfl (by decide)
  exact z_pure (fun C hL w => lv_lconst C.1 C.2.1 hd hv w) k
theorem z_fconst0 (hr : z_at mi pc = some (.fconst 0, nx, info)) (k : z_W G d mc ms mi nx L (.float FP.fconst0 :: st) h Q) : z_W G d mc ms mi pc L (st) h Q := by
  obtain ⟨hd, rfl⟩ := z_dn (n := 1) hr rfl (by decide)
  exact z_pure (fun C hL w => lv_fconst0 C.1 C.2.1 hd w) k
theorem z_dconst0 (hr : z_at mi pc = some (.dconst 0, nx, info)) (k : z_W G d mc ms mi nx L (.double FP.dconst0 :: st) h Q) : z_W G d mc ms mi pc L (st) h Q := by
  obtain ⟨hd, rfl⟩ := z_dn (n := 1) hr rfl (by decide)
  exact z_pure (fun C hL w => lv_dconst0 C.1 C.2.1 hd w) k
theorem z_null (hr : z_at mi pc = some (.aconst_null, nx, info)) (k : z_W G d mc ms mi nx L (.null :: st) h Q) : z_W G d mc ms mi pc L (st) h Q := by
  obtain ⟨hd, rfl⟩ := z_dn (n := 1) hr rfl (by decide)
  exact z_pure (fun C hL w => lv_null C.1 C.2.1 hd w) k
theorem z_iload_n {k : Fin 4} {a : Int32} (hr : z_at mi pc = some (.iload_n k, nx, info)) (hl : L[(k : Nat)]? = some (.int a)) (k : z_W G d mc ms mi nx L (.int a :: st) h Q) : z_W G d mc ms mi pc L (st) h Q := by
  obtain ⟨hd, rfl⟩ := z_dn (n := 1) hr rfl (by decide)
  exact z_pure (fun C hL w => lv_iload_n C.1 C.2.1 hd  rfl (hL.2.2 _ _ hl (by simp)) w) k
theorem z_aload_n {k : Fin 4} {a : Nat} (hr : z_at mi pc = some (.aload_n k, nx, info)) (hl : L[(k : Nat)]? = some (.ref a)) (k : z_W G d mc ms mi nx L (.ref a :: st) h Q) : z_W G d mc ms mi pc L (st) h Q := by
  obtain ⟨hd, rfl⟩ := z_dn (n := 1) hr rfl (by decide)
  exact z_pure (fun C hL w => lv_aload_n C.1 C.2.1 hd  rfl (hL.2.2 _ _ hl (by simp)) w) k
theorem z_aload_nN {k : Fin 4} (hr : z_at mi pc = some (.aload_n k, nx, info)) (hl : L[(k : Nat)]? = some .null) (k : z_W G d mc ms mi nx L (.null :: st) h Q) : z_W G d mc ms mi pc L (st) h Q := by
  obtain ⟨hd, rfl⟩ := z_dn (n := 1) hr rfl (by decide)
  exact z_pure (fun C hL w => lv_aload_nN C.1 C.2.1 hd rfl (hL.2.2 _ _ hl (by simp)) w) k
theorem z_iload {i : Nat} {a : Int32} (hr : z_at mi pc = some (.iload i, nx, info)) (hl : L[i]? = some (.int a)) (k : z_W G d mc ms mi nx L (.int a :: st) h Q) : z_W G d mc ms mi pc L (st) h Q := by
  obtain ⟨hd, rfl⟩ := z_dn (n := 2) hr rfl (by decide)
  exact z_pure (fun C hL w => lv_iload C.1 C.2.1 hd  (hL.2.2 _ _ hl (by simp)) w) k
theorem z_aload {i : Nat} {a : Nat} (hr : z_at mi pc = some (.aload i, nx, info)) (hl : L[i]? = some (.ref a)) (k : z_W G d mc ms mi nx L (.ref a :: st) h Q) : z_W G d mc ms mi pc L (st) h Q := by
  obtain ⟨hd, rfl⟩ := z_dn (n := 2) hr rfl (by decide)
  exact z_pure (fun C hL w => lv_aload C.1 C.2.1 hd  (hL.2.2 _ _ hl (by simp)) w) k
theorem z_fload {i : Nat} {a : UInt32} (hr : z_at mi pc = some (.fload i, nx, info)) (hl : L[i]? = some (.float a)) (k : z_W G d mc ms mi nx L (.float a :: st) h Q) : z_W G d mc ms mi pc L (st) h Q := by
  obtain ⟨hd, rfl⟩ := z_dn (n := 2) hr rfl (by decide)
  exact z_pure (fun C hL w => lv_fload C.1 C.2.1 hd  (hL.2.2 _ _ hl (by simp)) w) k
theorem z_dload {i : Nat} {a : UInt64} (hr : z_at mi pc = some (.dload i, nx, info)) (hl : L[i]? = some (.double a)) (k : z_W G d mc ms mi nx L (.double a :: st) h Q) : z_W G d mc ms mi pc L (st) h Q := by
  obtain ⟨hd, rfl⟩ := z_dn (n := 2) hr rfl (by decide)
  exact z_pure (fun C hL w => lv_dload C.1 C.2.1 hd  (hL.2.2 _ _ hl (by simp)) w) k
theorem z_aloadN {i : Nat} (hr : z_at mi pc = some (.aload i, nx, info)) (hl : L[i]? = some .null) (k : z_W G d mc ms mi nx L (.null :: st) h Q) : z_W G d mc ms mi pc L (st) h Q := by
  obtain ⟨hd, rfl⟩ := z_dn (n := 2) hr rfl (by decide)
  exact z_pure (fun C hL w => lv_aloadN C.1 C.2.1 hd (hL.2.2 _ _ hl (by simp)) w) k
theorem z_iadd {a b : Int32} (hr : z_at mi pc = some (.iadd, nx, info)) (k : z_W G d mc ms mi nx L (.int (a + b) :: st) h Q) : z_W G d mc ms mi pc L (.int b :: .int a :: st) h Q := by
  obtain ⟨hd, rfl⟩ := z_dn (n := 1) hr rfl (by decide)
  exact z_pure (fun C hL w => lv_iadd C.1 C.2.1 hd w) k
theorem z_isub {a b : Int32} (hr : z_at mi pc = some (.isub, nx, info)) (k : z_W G d mc ms mi nx L (.int (a - b) :: st) h Q) : z_W G d mc ms mi pc L (.int b :: .int a :: st) h Q := by
  obtain ⟨hd, rfl⟩ := z_dn (n := 1) hr rfl (by decide)
  exact z_pure (fun C hL w => lv_isub C.1 C.2.1 hd w) k
theorem z_imul {a b : Int32} (hr : z_at mi pc = some (.imul, nx, info)) (k : z_W G d mc ms mi nx L (.int (a * b) :: st) h Q) : z_W G d mc ms mi pc L (.int b :: .int a :: st) h Q := by
  obtain ⟨hd, rfl⟩ := z_dn (n := 1) hr rfl (by decide)
  exact z_pure (fun C hL w => lv_imul C.1 C.2.1 hd w) k
theorem z_iand {a b : Int32} (hr : z_at mi pc = some (.iand, nx, info)) (k : z_W G d mc ms mi nx L (.int (a &&& b) :: st) h Q) : z_W G d mc ms mi pc L (.int b :: .int a :: st) h Q := by
  obtain ⟨hd, rfl⟩ := z_dn (n := 1) hr rfl (by decide)
  exact z_pure (fun C hL w => lv_iand C.1 C.2.1 hd w) k
theorem z_ior {a b : Int32} (hr : z_at mi pc = some (.ior, nx, info)) (k : z_W G d mc ms mi nx L (.int (a ||| b) :: st) h Q) : z_W G d mc ms mi pc L (.int b :: .int a :: st) h Q := by
  obtain ⟨hd, rfl⟩ := z_dn (n := 1) hr rfl (by decide)
  exact z_pure (fun C hL w => lv_ior C.1 C.2.1 hd w) k
theorem z_ixor {a b : Int32} (hr : z_at mi pc = some (.ixor, nx, info)) (k : z_W G d mc ms mi nx L (.int (a ^^^ b) :: st) h Q) : z_W G d mc ms mi pc L (.int b :: .int a :: st) h Q := by
  obtain ⟨hd, rfl⟩ := z_dn (n := 1) hr rfl (by decide)
  exact z_pure (fun C hL w => lv_ixor C.1 C.2.1 hd w) k
theorem z_ishl {a b : Int32} (hr : z_at mi pc = some (.ishl, nx, info)) (k : z_W G d mc ms mi nx L (.int (a <<< (b &&& 31)) :: st) h Q) : z_W G d mc ms mi pc L (.int b :: .int a :: st) h Q := by
  obtain ⟨hd, rfl⟩ := z_dn (n := 1) hr rfl (by decide)
  exact z_pure (fun C hL w => lv_ishl C.1 C.2.1 hd w) k
theorem z_ishr {a b : Int32} (hr : z_at mi pc = some (.ishr, nx, info)) (k : z_W G d mc ms mi nx L (.int (a >>> (b &&& 31)) :: st) h Q) : z_W G d mc ms mi pc L (.int b :: .int a :: st) h Q := by
  obtain ⟨hd, rfl⟩ := z_dn (n := 1) hr rfl (by decide)
  exact z_pure (fun C hL w => lv_ishr C.1 C.2.1 hd w) k
theorem z_iushr {a b : Int32} (hr : z_at mi pc = some (.iushr, nx, info)) (k : z_W G d mc ms mi nx L (.int ((a.toUInt32 >>> (b.toUInt32 &&& Int32.toUInt32 31)).toInt32) :: st) h Q) : z_W G d mc ms mi pc L (.int b :: .int a :: st) h Q := by
  obtain ⟨hd, rfl⟩ := z_dn (n := 1) hr rfl (by decide)
  exact z_pure (fun C hL w => lv_iushr C.1 C.2.1 hd rfl w) k
theorem z_idiv {a b : Int32} (hr : z_at mi pc = some (.idiv, nx, info)) (hb : ¬ b = 0) (k : z_W G d mc ms mi nx L (.int (a / b) :: st) h Q) : z_W G d mc ms mi pc L (.int b :: .int a :: st) h Q := by
  obtain ⟨hd, rfl⟩ := z_dn (n := 1) hr rfl (by decide)
  exact z_pure (fun C hL w => lv_idiv C.1 C.2.1 hd hb w) k
theorem z_irem {a b : Int32} (hr : z_at mi pc = some (.irem, nx, info)) (hb : ¬ b = 0) (k : z_W G d mc ms mi nx L (.int (a - a / b * b) :: st) h Q) : z_W G d mc ms mi pc L (.int b :: .int a :: st) h Q := by
  obtain ⟨hd, rfl⟩ := z_dn (n := 1) hr rfl (by decide)
  exact z_pure (fun C hL w => lv_irem C.1 C.2.1 hd hb w) k
theorem z_ineg {a : Int32} (hr : z_at mi pc = some (.ineg, nx, info)) (k : z_W G d mc ms mi nx L (.int (-a) :: st) h Q) : z_W G d mc ms mi pc L (.int a :: st) h Q := by
  obtain ⟨hd, rfl⟩ := z_dn (n := 1) hr rfl (by decide)
  exact z_pure (fun C hL w => lv_ineg C.1 C.2.1 hd w) k
theorem z_i2l {a : Int32} (hr : z_at mi pc = some (.i2l, nx, info)) (k : z_W G d mc ms mi nx L (.long a.toInt64 :: st) h Q) : z_W G d mc ms mi pc L (.int a :: st) h Q := by
  obtain ⟨hd, rfl⟩ := z_dn (n := 1) hr rfl (by decide)
  exact z_pure (fun C hL w => lv_i2l C.1 C.2.1 hd rfl w) k
theorem z_i2b {a : Int32} (hr : z_at mi pc = some (.i2b, nx, info)) (k : z_W G d mc ms mi nx L (.int a.toInt8.toInt32 :: st) h Q) : z_W G d mc ms mi pc L (.int a :: st) h Q := by
  obtain ⟨hd, rfl⟩ := z_dn (n := 1) hr rfl (by decide)
  exact z_pure (fun C hL w => lv_i2b C.1 C.2.1 hd rfl w) k
theorem z_i2c {a : Int32} (hr : z_at mi pc = some (.i2c, nx, info)) (k : z_W G d mc ms mi nx L (.int (a.toUInt32 % 65536).toInt32 :: st) h Q) : z_W G d mc ms mi pc L (.int a :: st) h Q := by
  obtain ⟨hd, rfl⟩ := z_dn (n := 1) hr rfl (by decide)
  exact z_pure (fun C hL w => lv_i2c C.1 C.2.1 hd rfl w) k
theorem z_i2f {a : Int32} (hr : z_at mi pc = some (.i2f, nx, info)) (k : z_W G d mc ms mi nx L (.float (FP.i2f a) :: st) h Q) : z_W G d mc ms mi pc L (.int a :: st) h Q := by
  obtain ⟨hd, rfl⟩ := z_dn (n := 1) hr rfl (by decide)
  exact z_pure (fun C hL w => lv_i2f C.1 C.2.1 hd w) k
theorem z_i2d {a : Int32} (hr : z_at mi pc = some (.i2d, nx, info)) (k : z_W G d mc ms mi nx L (.double (FP.i2d a) :: st) h Q) : z_W G d mc ms mi pc L (.int a :: st) h Q := by
  obtain ⟨hd, rfl⟩ := z_dn (n := 1) hr rfl (by decide)
  exact z_pure (fun C hL w => lv_i2d C.1 C.2.1 hd w) k
theorem z_fdiv {a b : UInt32} (hr : z_at mi pc = some (.fdiv, nx, info)) (hb : vf_n32 (FP.fdiv a b)) (k : z_W G d mc ms mi nx L (.float (FP.fdiv a b) :: st) h Q) : z_W G d mc ms mi pc L (.float b :: .float a :: st) h Q := by
  obtain ⟨hd, rfl⟩ := z_dn (n := 1) hr rfl (by decide)
  exact z_pure (fun C hL w => lv_fdiv C.1 C.2.1 hd hb w) k
theorem z_ddiv {a b : UInt64} (hr : z_at mi pc = some (.ddiv, nx, info)) (hb : vf_n64 (FP.ddiv a b)) (k : z_W G d mc ms mi nx L (.double (FP.ddiv a b) :: st) h Q) : z_W G d mc ms mi pc L (.double b :: .double a :: st) h Q := by
  obtain ⟨hd, rfl⟩ := z_dn (n := 1) hr rfl (by decide)
  exact z_pure (fun C hL w => lv_ddiv C.1 C.2.1 hd hb w) k
theorem z_f2d {a : UInt32} (hr : z_at mi pc = some (.f2d, nx, info)) (hb : vf_n64 (FP.f2d a)) (k : z_W G d mc ms mi nx L (.double (FP.f2d a) :: st) h Q) : z_W G d mc ms mi pc L (.float a :: st) h Q := by
  obtain ⟨hd, rfl⟩ := z_dn (n := 1) hr rfl (by decide)
  exact z_pure (fun C hL w => lv_f2d C.1 C.2.1 hd hb w) k
theorem z_fcmp {a b : UInt32} {op : CmpOp} (hr : z_at mi pc = some (.fcmp op, nx, info)) (k : z_W G d mc ms mi nx L (.int (Op.cmpValue (FP.fcmp a b) op) :: st) h Q) : z_W G d mc ms mi pc L (.float b :: .float a :: st) h Q := by
  obtain ⟨hd, rfl⟩ := z_dn (n := 1) hr rfl (by decide)
  exact z_pure (fun C hL w => lv_fcmp C.1 C.2.1 hd w) k
theorem z_dcmp {a b : UInt64} {op : CmpOp} (hr : z_at mi pc = some (.dcmp op, nx, info)) (k : z_W G d mc ms mi nx L (.int (Op.cmpValue (FP.dcmp a b) op) :: st) h Q) : z_W G d mc ms mi pc L (.double b :: .double a :: st) h Q := by
  obtain ⟨hd, rfl⟩ := z_dn (n := 1) hr rfl (by decide)
  exact z_pure (fun C hL w => lv_dcmp C.1 C.2.1 hd w) k
theorem z_lcmp {a b : Int64} (hr : z_at mi pc = some (.lcmp, nx, info)) (k : z_W G d mc ms mi nx L (.int (lg_cmp a b) :: st) h Q) : z_W G d mc ms mi pc L (.long b :: .long a :: st) h Q := by
  obtain ⟨hd, rfl⟩ := z_dn (n := 1) hr rfl (by decide)
  exact z_pure (fun C hL w => W.lcmp C.1 C.2.1 hd w) k
theorem z_dup {v : Value} (hr : z_at mi pc = some (.dup, nx, info)) (hv : v.category = 1) (k : z_W G d mc ms mi nx L (v :: v :: st) h Q) : z_W G d mc ms mi pc L (v :: st) h Q := by
  obtain ⟨hd, rfl⟩ := z_dn (n := 1) hr rfl (by decide)
  exact z_pure (fun C hL w => lv_dup C.1 C.2.1 hd (by rw [z_v_cat]; exact hv) w) k
theorem z_pop {v : Value} (hr : z_at mi pc = some (.pop, nx, info)) (hv : v.category = 1) (k : z_W G d mc ms mi nx L (st) h Q) : z_W G d mc ms mi pc L (v :: st) h Q := by
  obtain ⟨hd, rfl⟩ := z_dn (n := 1) hr rfl (by decide)
  exact z_pure (fun C hL w => lv_pop C.1 C.2.1 hd (by rw [z_v_cat]; exact hv) w) k
theorem z_dup_x1 {v u : Value} (hr : z_at mi pc = some (.dup_x1, nx, info)) (hv : v.category = 1) (hu : u.category = 1) (k : z_W G d mc ms mi nx L (v :: u :: v :: st) h Q) : z_W G d mc ms mi pc L (v :: u :: st) h Q := by
  obtain ⟨hd, rfl⟩ := z_dn (n := 1) hr rfl (by decide)
  exact z_pure (fun C hL w => lv_dup_x1 C.1 C.2.1 hd (by rw [z_v_cat]; exact hv) (by rw [z_v_cat]; exact hu) w) k
theorem z_dup2 {v u : Value} (hr : z_at mi pc = some (.dup2, nx, info)) (hv : v.category = 1) (hu : u.category = 1) (k : z_W G d mc ms mi nx L (v :: u :: v :: u :: st) h Q) : z_W G d mc ms mi pc L (v :: u :: st) h Q := by
  obtain ⟨hd, rfl⟩ := z_dn (n := 1) hr rfl (by decide)
  exact z_pure (fun C hL w => lv_dup2_11 C.1 C.2.1 hd (by rw [z_v_cat]; exact hv) (by rw [z_v_cat]; exact hu) w) k
theorem z_if_eq {t : Nat} {o : Int} {a : Int32} (hr : z_at mi pc = some (.ifCond .eq o, nx, [t])) (kt : a = 0 → z_W G d mc ms mi t L st h Q) (kf : ¬ (a = 0) → z_W G d mc ms mi nx L st h Q) : z_W G d mc ms mi pc L (.int a :: st) h Q := by
  obtain ⟨hd, rfl⟩ := z_dn (n := 3) hr rfl (by decide)
  have ht := z_t1 (z_lkOf hr)
  intro p e R s m args below meth c H locs cells slots MC MS ls C r hS hL hR
  exact lv_if_eq C.1 C.2.1 hd ht (fun q => kt q p e R s m args below meth c H locs cells slots MC MS ls C r hS hL hR) (fun q => kf q p e R s m args below meth c H locs cells slots MC MS ls C r hS hL hR)
theorem z_icmp_eq {t : Nat} {o : Int} {a b : Int32} (hr : z_at mi pc = some (.if_icmp .eq o, nx, [t])) (kt : a = b → z_W G d mc ms mi t L st h Q) (kf : ¬ (a = b) → z_W G d mc ms mi nx L st h Q) : z_W G d mc ms mi pc L (.int b :: .int a :: st) h Q := by
  obtain ⟨hd, rfl⟩ := z_dn (n := 3) hr rfl (by decide)
  have ht := z_t1 (z_lkOf hr)
  intro p e R s m args below meth c H locs cells slots MC MS ls C r hS hL hR
  exact lv_icmp_eq C.1 C.2.1 hd ht (fun q => kt q p e R s m args below meth c H locs cells slots MC MS ls C r hS hL hR) (fun q => kf q p e R s m args below meth c H locs cells slots MC MS ls C r hS hL hR)
theorem z_if_lt {t : Nat} {o : Int} {a : Int32} (hr : z_at mi pc = some (.ifCond .lt o, nx, [t])) (kt : a < 0 → z_W G d mc ms mi t L st h Q) (kf : ¬ (a < 0) → z_W G d mc ms mi nx L st h Q) : z_W G d mc ms mi pc L (.int a :: st) h Q := by
  obtain ⟨hd, rfl⟩ := z_dn (n := 3) hr rfl (by decide)
  have ht := z_t1 (z_lkOf hr)
  intro p e R s m args below meth c H locs cells slots MC MS ls C r hS hL hR
  exact lv_if_lt C.1 C.2.1 hd ht (fun q => kt q p e R s m args below meth c H locs cells slots MC MS ls C r hS hL hR) (fun q => kf q p e R s m args below meth c H locs cells slots MC MS ls C r hS hL hR)
theorem z_icmp_lt {t : Nat} {o : Int} {a b : Int32} (hr : z_at mi pc = some (.if_icmp .lt o, nx, [t])) (kt : a < b → z_W G d mc ms mi t L st h Q) (kf : ¬ (a < b) → z_W G d mc ms mi nx L st h Q) : z_W G d mc ms mi pc L (.int b :: .int a :: st) h Q := by
  obtain ⟨hd, rfl⟩ := z_dn (n := 3) hr rfl (by decide)
  have ht := z_t1 (z_lkOf hr)
  intro p e R s m args below meth c H locs cells slots MC MS ls C r hS hL hR
  exact lv_icmp_lt C.1 C.2.1 hd ht (fun q => kt q p e R s m args below meth c H locs cells slots MC MS ls C r hS hL hR) (fun q => kf q p e R s m args below meth c H locs cells slots MC MS ls C r hS hL hR)
theorem z_if_le {t : Nat} {o : Int} {a : Int32} (hr : z_at mi pc = some (.ifCond .le o, nx, [t])) (kt : a ≤ 0 → z_W G d mc ms mi t L st h Q) (kf : ¬ (a ≤ 0) → z_W G d mc ms mi nx L st h Q) : z_W G d mc ms mi pc L (.int a :: st) h Q := by
  obtain ⟨hd, rfl⟩ := z_dn (n := 3) hr rfl (by decide)
  have ht := z_t1 (z_lkOf hr)
  intro p e R s m args below meth c H locs cells slots MC MS ls C r hS hL hR
  exact lv_if_le C.1 C.2.1 hd ht (fun q => kt q p e R s m args below meth c H locs cells slots MC MS ls C r hS hL hR) (fun q => kf q p e R s m args below meth c H locs cells slots MC MS ls C r hS hL hR)
theorem z_icmp_le {t : Nat} {o : Int} {a b : Int32} (hr : z_at mi pc = some (.if_icmp .le o, nx, [t])) (kt : a ≤ b → z_W G d mc ms mi t L st h Q) (kf : ¬ (a ≤ b) → z_W G d mc ms mi nx L st h Q) : z_W G d mc ms mi pc L (.int b :: .int a :: st) h Q := by
  obtain ⟨hd, rfl⟩ := z_dn (n := 3) hr rfl (by decide)
  have ht := z_t1 (z_lkOf hr)
  intro p e R s m args below meth c H locs cells slots MC MS ls C r hS hL hR
  exact lv_icmp_le C.1 C.2.1 hd ht (fun q => kt q p e R s m args below meth c H locs cells slots MC MS ls C r hS hL hR) (fun q => kf q p e R s m args below meth c H locs cells slots MC MS ls C r hS hL hR)
theorem z_if_gt {t : Nat} {o : Int} {a : Int32} (hr : z_at mi pc = some (.ifCond .gt o, nx, [t])) (kt : 0 < a → z_W G d mc ms mi t L st h Q) (kf : ¬ (0 < a) → z_W G d mc ms mi nx L st h Q) : z_W G d mc ms mi pc L (.int a :: st) h Q := by
  obtain ⟨hd, rfl⟩ := z_dn (n := 3) hr rfl (by decide)
  have ht := z_t1 (z_lkOf hr)
  intro p e R s m args below meth c H locs cells slots MC MS ls C r hS hL hR
  exact lv_if_gt C.1 C.2.1 hd ht (fun q => kt q p e R s m args below meth c H locs cells slots MC MS ls C r hS hL hR) (fun q => kf q p e R s m args below meth c H locs cells slots MC MS ls C r hS hL hR)
theorem z_icmp_gt {t : Nat} {o : Int} {a b : Int32} (hr : z_at mi pc = some (.if_icmp .gt o, nx, [t])) (kt : b < a → z_W G d mc ms mi t L st h Q) (kf : ¬ (b < a) → z_W G d mc ms mi nx L st h Q) : z_W G d mc ms mi pc L (.int b :: .int a :: st) h Q := by
  obtain ⟨hd, rfl⟩ := z_dn (n := 3) hr rfl (by decide)
  have ht := z_t1 (z_lkOf hr)
  intro p e R s m args below meth c H locs cells slots MC MS ls C r hS hL hR
  exact lv_icmp_gt C.1 C.2.1 hd ht (fun q => kt q p e R s m args below meth c H locs cells slots MC MS ls C r hS hL hR) (fun q => kf q p e R s m args below meth c H locs cells slots MC MS ls C r hS hL hR)
theorem z_if_ge {t : Nat} {o : Int} {a : Int32} (hr : z_at mi pc = some (.ifCond .ge o, nx, [t])) (kt : 0 ≤ a → z_W G d mc ms mi t L st h Q) (kf : ¬ (0 ≤ a) → z_W G d mc ms mi nx L st h Q) : z_W G d mc ms mi pc L (.int a :: st) h Q := by
  obtain ⟨hd, rfl⟩ := z_dn (n := 3) hr rfl (by decide)
  have ht := z_t1 (z_lkOf hr)
  intro p e R s m args below meth c H locs cells slots MC MS ls C r hS hL hR
  exact lv_if_ge C.1 C.2.1 hd ht (fun q => kt q p e R s m args below meth c H locs cells slots MC MS ls C r hS hL hR) (fun q => kf q p e R s m args below meth c H locs cells slots MC MS ls C r hS hL hR)
theorem z_icmp_ge {t : Nat} {o : Int} {a b : Int32} (hr : z_at mi pc = some (.if_icmp .ge o, nx, [t])) (kt : b ≤ a → z_W G d mc ms mi t L st h Q) (kf : ¬ (b ≤ a) → z_W G d mc ms mi nx L st h Q) : z_W G d mc ms mi pc L (.int b :: .int a :: st) h Q := by
  obtain ⟨hd, rfl⟩ := z_dn (n := 3) hr rfl (by decide)
  have ht := z_t1 (z_lkOf hr)
  intro p e R s m args below meth c H locs cells slots MC MS ls C r hS hL hR
  exact lv_icmp_ge C.1 C.2.1 hd ht (fun q => kt q p e R s m args below meth c H locs cells slots MC MS ls C r hS hL hR) (fun q => kf q p e R s m args below meth c H locs cells slots MC MS ls C r hS hL hR)
theorem z_if_ne {t : Nat} {o : Int} {a : Int32} (hr : z_at mi pc = some (.ifCond .ne o, nx, [t])) (kt : ¬ a = 0 → z_W G d mc ms mi t L st h Q) (kf : a = 0 → z_W G d mc ms mi nx L st h Q) : z_W G d mc ms mi pc L (.int a :: st) h Q := by
  obtain ⟨hd, rfl⟩ := z_dn (n := 3) hr rfl (by decide)
  have ht := z_t1 (z_lkOf hr)
  intro p e R s m args below meth c H locs cells slots MC MS ls C r hS hL hR
  exact lv_if_ne C.1 C.2.1 hd ht (fun q => kt q p e R s m args below meth c H locs cells slots MC MS ls C r hS hL hR) (fun q => kf q p e R s m args below meth c H locs cells slots MC MS ls C r hS hL hR)
theorem z_icmp_ne {t : Nat} {o : Int} {a b : Int32} (hr : z_at mi pc = some (.if_icmp .ne o, nx, [t])) (kt : ¬ a = b → z_W G d mc ms mi t L st h Q) (kf : a = b → z_W G d mc ms mi nx L st h Q) : z_W G d mc ms mi pc L (.int b :: .int a :: st) h Q := by
  obtain ⟨hd, rfl⟩ := z_dn (n := 3) hr rfl (by decide)
  have ht := z_t1 (z_lkOf hr)
  intro p e R s m args below meth c H locs cells slots MC MS ls C r hS hL hR
  exact lv_icmp_ne C.1 C.2.1 hd ht (fun q => kt q p e R s m args below meth c H locs cells slots MC MS ls C r hS hL hR) (fun q => kf q p e R s m args below meth c H locs cells slots MC MS ls C r hS hL hR)
theorem z_goto {t : Nat} {o : Int} (hr : z_at mi pc = some (.goto o, nx, [t])) (k : z_W G d mc ms mi t L st h Q) : z_W G d mc ms mi pc L st h Q := by
  obtain ⟨hd, rfl⟩ := z_dn (n := 3) hr rfl (by decide)
  have ht := z_t1 (z_lkOf hr)
  intro p e R s m args below meth c H locs cells slots MC MS ls C r hS hL hR
  exact lv_goto C.1 C.2.1 hd ht (k p e R s m args below meth c H locs cells slots MC MS ls C r hS hL hR)
theorem z_ifnonnull {t : Nat} {o : Int} {a : Nat} (hr : z_at mi pc = some (.ifnonnull o, nx, [t])) (k : z_W G d mc ms mi t L st h Q) : z_W G d mc ms mi pc L (.ref a :: st) h Q := by
  obtain ⟨hd, rfl⟩ := z_dn (n := 3) hr rfl (by decide)
  have ht := z_t1 (z_lkOf hr)
  intro p e R s m args below meth c H locs cells slots MC MS ls C r hS hL hR
  exact lv_ifnonnull C.1 C.2.1 hd ht (k p e R s m args below meth c H locs cells slots MC MS ls C r hS hL hR)
theorem z_ifnonnullN {t : Nat} {o : Int} (hr : z_at mi pc = some (.ifnonnull o, nx, [t])) (k : z_W G d mc ms mi nx L st h Q) : z_W G d mc ms mi pc L (.null :: st) h Q := by
  obtain ⟨hd, rfl⟩ := z_dn (n := 3) hr rfl (by decide)
  intro p e R s m args below meth c H locs cells slots MC MS ls C r hS hL hR
  exact lv_ifnonnullN C.1 C.2.1 hd (k p e R s m args below meth c H locs cells slots MC MS ls C r hS hL hR)
/-- variables: a store of one slot; the variable before must hold no number of two -/
def z_pr (G : z_G) (L : List Value) : List (Nat × Value) := (L.zipIdx.filter (fun q => decide (q.1 ≠ .retAddr 0))).map (fun q => (q.2, z_v G q.1))
theorem z_prIn {i : Nat} {v : Value} : (i, v) ∈ z_pr G L ↔ ∃ u, L[i]? = some u ∧ u ≠ .retAddr 0 ∧ z_v G u = v := by
  unfold z_pr
  simp only [List.mem_map, List.mem_filter, List.mem_zipIdx_iff_getElem?, decide_eq_true_eq, Prod.mk.injEq, Prod.exists]
  constructor
  · rintro ⟨a, b, ⟨h1, h2⟩, rfl, h3⟩
    exact ⟨a, h1, h2, h3⟩
  · rintro ⟨u, h1, h2, h3⟩
    exact ⟨u, i, ⟨h1, h2⟩, rfl, h3⟩
theorem z_prHas {nL : Nat} {ls : Array Slot} (hL : z_Lo G nL ls L) : lv_has ls nL (z_pr G L) := by
  refine ⟨hL.1, hL.2.1, fun q hq => ?_⟩
  obtain ⟨i, v⟩ := q
  obtain ⟨u, h1, h2, h3⟩ := z_prIn.mp hq
  subst h3
  exact hL.2.2 i u h1 h2
def z_okp (L : List Value) (i : Nat) : Bool := i == 0 || (match L[i - 1]? with
  | some u => u.category == 1
  | none => true)
theorem z_okpOf {i : Nat} (h0 : z_okp L i = true) : ∀ u, L[i - 1]? = some u → u.category = 1 ∨ i = 0 := by
  intro u hu
  unfold z_okp at h0
  rw [hu] at h0
  simp only [Bool.or_eq_true, beq_iff_eq] at h0
  exact h0.symm
theorem z_prSet {nL i : Nat} {v : Value} {ls : Array Slot} (hp : ∀ u, L[i - 1]? = some u → u.category = 1 ∨ i = 0) (h1 : lv_has ls nL ((i, z_v G v) :: (z_pr G L).filter (fun q => !(q.1 == i) && !(q.1 + 1 == i && q.2.category == 2)))) : z_Lo G nL ls (L.set i v) := by
  refine ⟨h1.1, h1.2.1, fun j u hj hu => ?_⟩
  by_cases e : j = i
  · subst e
    have hlt : j < (L.set j v).length := (List.getElem?_eq_some_iff.mp hj).1
    rw [List.length_set] at hlt
    rw [List.getElem?_set_self hlt] at hj
    cases hj
    exact h1.2.2 _ List.mem_cons_self
  · rw [List.getElem?_set_ne (Ne.symm e)] at hj
    refine h1.2.2 (j, z_v G u) (List.mem_cons_of_mem _ (List.mem_filter.mpr ⟨z_prIn.mpr ⟨u, hj, hu, rfl⟩, ?_⟩))
    have e1 : (j == i) = false := by simpa using e
    simp only [e1, Bool.not_false, Bool.true_and, Bool.not_eq_true', Bool.and_eq_false_iff, z_v_cat]
    by_cases e2 : j + 1 = i
    · right
      have := hp u (by rw [← e2]; simpa using hj)
      rcases this with h9 | h9
      · rw [h9]; rfl
      · omega
    · left
      simpa using e2
/-- nothing is known of a variable any more -/
theorem z_Lo.drop {nL i : Nat} {ls : Array Slot} (hL : z_Lo G nL ls L) : z_Lo G nL ls (L.set i (.retAddr 0)) := by
  refine ⟨hL.1, hL.2.1, fun j u hj hu => ?_⟩
  by_cases e : j = i
  · subst e
    have hlt : j < (L.set j (Value.retAddr 0)).length := (List.getElem?_eq_some_iff.mp hj).1
    rw [List.length_set] at hlt
    rw [List.getElem?_set_self hlt] at hj
    cases hj
    exact absurd rfl hu
  · rw [List.getElem?_set_ne (Ne.symm e)] at hj
    exact hL.2.2 j u hj hu
theorem z_istore_n {q : Fin 4} {a : Int32} (hr : z_at mi pc = some (.istore_n q, nx, info)) (hi : (q : Nat) < z_nL mi) (hp0 : z_okp L (q : Nat) = true) (k : z_W G d mc ms mi nx (L.set (q : Nat) (.int a)) st h Q) : z_W G d mc ms mi pc L (.int a :: st) h Q := by
  obtain ⟨hd, rfl⟩ := z_dn (n := 1) hr rfl (by decide)
  have hp := z_okpOf hp0
  intro p e R s m args below meth c H locs cells slots MC MS ls C r hS hL hR
  exact lv_istore_n C.1 C.2.1 hd rfl (z_prHas hL) hi rfl (fun ls2 hl2 => k p e R s m args below meth c H locs cells slots MC MS ls2 C r hS (z_prSet hp hl2) hR)
theorem z_istore {q : Nat} {a : Int32} (hr : z_at mi pc = some (.istore q, nx, info)) (hi : q < z_nL mi) (hp0 : z_okp L q = true) (k : z_W G d mc ms mi nx (L.set q (.int a)) st h Q) : z_W G d mc ms mi pc L (.int a :: st) h Q := by
  obtain ⟨hd, rfl⟩ := z_dn (n := 2) hr rfl (by decide)
  have hp := z_okpOf hp0
  intro p e R s m args below meth c H locs cells slots MC MS ls C r hS hL hR
  exact lv_istore C.1 C.2.1 hd (z_prHas hL) hi rfl (fun ls2 hl2 => k p e R s m args below meth c H locs cells slots MC MS ls2 C r hS (z_prSet hp hl2) hR)
theorem z_astore_n {q : Fin 4} {a : Nat} (hr : z_at mi pc = some (.astore_n q, nx, info)) (hi : (q : Nat) < z_nL mi) (hp0 : z_okp L (q : Nat) = true) (k : z_W G d mc ms mi nx (L.set (q : Nat) (.ref a)) st h Q) : z_W G d mc ms mi pc L (.ref a :: st) h Q := by
  obtain ⟨hd, rfl⟩ := z_dn (n := 1) hr rfl (by decide)
  have hp := z_okpOf hp0
  intro p e R s m args below meth c H locs cells slots MC MS ls C r hS hL hR
  exact lv_astore_n C.1 C.2.1 hd rfl (z_prHas hL) hi rfl (fun ls2 hl2 => k p e R s m args below meth c H locs cells slots MC MS ls2 C r hS (z_prSet hp hl2) hR)
theorem z_astore {q : Nat} {a : Nat} (hr : z_at mi pc = some (.astore q, nx, info)) (hi : q < z_nL mi) (hp0 : z_okp L q = true) (k : z_W G d mc ms mi nx (L.set q (.ref a)) st h Q) : z_W G d mc ms mi pc L (.ref a :: st) h Q := by
  obtain ⟨hd, rfl⟩ := z_dn (n := 2) hr rfl (by decide)
  have hp := z_okpOf hp0
  intro p e R s m args below meth c H locs cells slots MC MS ls C r hS hL hR
  exact lv_astore C.1 C.2.1 hd (z_prHas hL) hi rfl (fun ls2 hl2 => k p e R s m args below meth c H locs cells slots MC MS ls2 C r hS (z_prSet hp hl2) hR)
theorem z_astore_nN {q : Fin 4} (hr : z_at mi pc = some (.astore_n q, nx, info)) (hi : (q : Nat) < z_nL mi) (hp0 : z_okp L (q : Nat) = true) (k : z_W G d mc ms mi nx (L.set (q : Nat) (.null)) st h Q) : z_W G d mc ms mi pc L (.null :: st) h Q := by
  obtain ⟨hd, rfl⟩ := z_dn (n := 1) hr rfl (by decide)
  have hp := z_okpOf hp0
  intro p e R s m args below meth c H locs cells slots MC MS ls C r hS hL hR
  exact lv_astore_nN C.1 C.2.1 hd rfl (z_prHas hL) hi rfl (fun ls2 hl2 => k p e R s m args below meth c H locs cells slots MC MS ls2 C r hS (z_prSet hp hl2) hR)
theorem z_astoreN {q : Nat} (hr : z_at mi pc = some (.astore q, nx, info)) (hi : q < z_nL mi) (hp0 : z_okp L q = true) (k : z_W G d mc ms mi nx (L.set q (.null)) st h Q) : z_W G d mc ms mi pc L (.null :: st) h Q := by
  obtain ⟨hd, rfl⟩ := z_dn (n := 2) hr rfl (by decide)
  have hp := z_okpOf hp0
  intro p e R s m args below meth c H locs cells slots MC MS ls C r hS hL hR
  exact lv_astoreN C.1 C.2.1 hd (z_prHas hL) hi rfl (fun ls2 hl2 => k p e R s m args below meth c H locs cells slots MC MS ls2 C r hS (z_prSet hp hl2) hR)
theorem z_fstore {q : Nat} {a : UInt32} (hr : z_at mi pc = some (.fstore q, nx, info)) (hi : q < z_nL mi) (hp0 : z_okp L q = true) (k : z_W G d mc ms mi nx (L.set q (.float a)) st h Q) : z_W G d mc ms mi pc L (.float a :: st) h Q := by
  obtain ⟨hd, rfl⟩ := z_dn (n := 2) hr rfl (by decide)
  have hp := z_okpOf hp0
  intro p e R s m args below meth c H locs cells slots MC MS ls C r hS hL hR
  exact lv_fstore C.1 C.2.1 hd (z_prHas hL) hi rfl (fun ls2 hl2 => k p e R s m args below meth c H locs cells slots MC MS ls2 C r hS (z_prSet hp hl2) hR)
theorem z_iinc {q : Nat} {n : Int} {a : Int32} (hr : z_at mi pc = some (.iinc q n, nx, info)) (hl : L[q]? = some (.int a)) (hi : q < z_nL mi) (hp0 : z_okp L q = true) (k : z_W G d mc ms mi nx (L.set q (.int (a + Int32.ofInt n))) st h Q) : z_W G d mc ms mi pc L st h Q := by
  obtain ⟨hd, rfl⟩ := z_dn (n := 3) hr rfl (by decide)
  intro p e R s m args below meth c H locs cells slots MC MS ls C r hS hL hR
  have hp := z_okpOf hp0
  obtain ⟨j, hj⟩ := List.getElem?_of_mem (z_prIn.mpr ⟨Value.int a, hl, by simp, rfl⟩ : (q, Value.int a) ∈ z_pr G L)
  exact lv_iinc C.1 C.2.1 hd (z_prHas hL) (k := j) hj rfl hi rfl (fun ls2 hl2 => k p e R s m args below meth c H locs cells slots MC MS ls2 C r hS (z_prSet (v := .int (a + Int32.ofInt n)) hp hl2) hR)
theorem z_iinc1 {q i : Nat} (hr : z_at mi pc = some (.iinc q 1, nx, info)) (hl : L[q]? = some (.int (nI i))) (hi : q < z_nL mi) (hp0 : z_okp L q = true) (k : z_W G d mc ms mi nx (L.set q (.int (nI (i + 1)))) st h Q) : z_W G d mc ms mi pc L st h Q := by
  refine z_iinc hr hl hi hp0 ?_
  rw [show nI i + Int32.ofInt 1 = nI (i + 1) from nI_1 i]
  exact k
end ZR
