/-! The layer: abstract values (a reference is a number: below 1000 a constant thing, from 1000 on the cells that the run makes, in their order), an abstract heap, and what a method's code does with them. -/
abbrev z_H : Type := Nat × (Nat → Option va_E)
abbrev z_O : Type := Option Value ⊕ String
/-- the launch; the heap's size at the law's entry; where the constant things lie; the classes; the array classes; the script's length and numbers -/
abbrev z_G : Type := Launch × Nat × (Nat → Nat) × va_G × (Nat → Nat) × Nat × (Nat → Int32)
def z_ad (G : z_G) (k : Nat) : Nat := if k < 1000 then G.2.2.1 k else G.2.1 + (k - 1000)
def z_v (G : z_G) : Value → Value
  | .ref k => .ref (z_ad G k)
  | v => v
def z_ea (G : z_G) : vp_A → vp_A
  | (n, .inl f) => (n, .inl f)
  | (n, .inr (.inl f)) => (n, .inr (.inl f))
  | (n, .inr (.inr (.inl f))) => (n, .inr (.inr (.inl f)))
  | (n, .inr (.inr (.inr (.inl f)))) => (n, .inr (.inr (.inr (.inl f))))
  | (n, .inr (.inr (.inr (.inr f)))) => (n, .inr (.inr (.inr (.inr (fun j => (f j).map (z_ad G))))))
def z_e (G : z_G) : va_E → va_E
  | .inl (t, a) => .inl (G.2.2.2.2.1 t, z_ea G a)
  | .inr (ci, fs) => .inr (ci, fs.map (z_v G))
def z_A (G : z_G) : Nat → Prop := fun q => G.2.1 ≤ q
def z_tys (G : z_G) : List (ClassId × FieldType) := [(G.2.2.2.2.1 0, z_tyOf 0), (G.2.2.2.2.1 1, z_tyOf 1), (G.2.2.2.2.1 2, z_tyOf 2), (G.2.2.2.2.1 3, z_tyOf 3), (G.2.2.2.2.1 4, z_tyOf 4), (G.2.2.2.2.1 5, z_tyOf 5)]
/-- the heap is the abstract one -/
def z_R (G : z_G) (h : z_H) (H : Heap) : Prop := H.size = G.2.1 + h.1 ∧ ∀ k c, h.2 k = some c → 1000 ≤ k ∧ k < 1000 + h.1 ∧ va_at G.2.2.2.1 z_cl (z_ad G k, z_e G c) H
/-- a cell takes a new content -/
def z_set (h : z_H) (k : Nat) (c : va_E) : z_H := (h.1, fun j => if j = k then some c else h.2 j)
/-- a new cell -/
def z_new (h : z_H) (c : va_E) : z_H := (h.1 + 1, fun j => if j = 1000 + h.1 then some c else h.2 j)
def z_gone (h : z_H) : z_H := (h.1 + 1, h.2)
def z_forms : List (List Int32) := [[99, 108, 111, 99, 107, 32, 78, 32, 68], [108, 101, 97, 118, 101, 32, 68], [107, 101, 121, 32, 68, 32, 75], [119, 105, 110, 100, 32, 68, 32, 68], [109, 111, 118, 101, 32, 68, 32, 78], [98, 105, 108, 108, 32, 68, 32, 78, 32, 68], [97, 100, 106, 111, 117, 114, 110, 32, 68, 32, 78], [100, 114, 111, 112, 32, 68], [118, 111, 116, 101], [104, 111, 117, 114, 63, 32, 78]]
/-- the law's own texts: place in the pool, text, codes -/
def z_lsq : List (Nat × String × List Nat) := [(129, "hour 2;key 1 ", [104, 111, 117, 114, 32, 50, 59, 107, 101, 121, 32, 49, 32]), (134, "0", [48]), (136, "-", [45]), (138, ";hour", [59, 104, 111, 117, 114]), (160, "hour;hour 25", [104, 111, 117, 114, 59, 104, 111, 117, 114, 32, 50, 53]), (166, "leave 9", [108, 101, 97, 118, 101, 32, 57]), (168, "hour ", [104, 111, 117, 114, 32]), (174, "key 0 x", [107, 101, 121, 32, 48, 32, 120]), (176, "clock 5", [99, 108, 111, 99, 107, 32, 53]), (178, "vx", [118, 120]), (180, "", []), (182, "vote;", [118, 111, 116, 101, 59]), (184, "adjourn 1", [97, 100, 106, 111, 117, 114, 110, 32, 49]), (186, "move 0 123", [109, 111, 118, 101, 32, 48, 32, 49, 50, 51]), (188, "z", [122]), (190, "drop 12", [100, 114, 111, 112, 32, 49, 50]), (202, "clock ", [99, 108, 111, 99, 107, 32]), (207, " 3;clock ", [32, 51, 59, 99, 108, 111, 99, 107, 32]), (209, " 2;clock ", [32, 50, 59, 99, 108, 111, 99, 107, 32]), (211, " 0;key 2 0;bill 0 ", [32, 48, 59, 107, 101, 121, 32, 50, 32, 48, 59, 98, 105, 108, 108, 32, 48, 32]), (213, " 4", [32, 52]), (234, "0:", [48, 58]), (236, "~24<3k2", [126, 50, 52, 60, 51, 107, 50]), (245, "0@", [48, 64]), (247, "+4", [43, 52]), (249, "1", [49]), (260, "0 2 1", [48, 32, 50, 32, 49]), (262, "1 0", [49, 32, 48])]
def z_lsn : Nat := 28
def z_lsc (k : Nat) : List Nat := (z_lsq.getD k (0, "", [])).2.2
/-- constant objects: fields, classes; constant arrays; statics -/
def z_rof : List (Nat × String × String × String × Value) := ((List.range 10).flatMap fun i => [(1 + i, "java/lang/Enum", "ordinal", "I", .int (Int32.ofNat i)), (1 + i, "ClockParliament$Kind", "form", "Ljava/lang/String;", .ref (11 + i)), (11 + i, "java/lang/String", "coder", "B", .int 0), (11 + i, "java/lang/String", "value", "[B", .ref (21 + i))]) ++ ((List.range z_lsn).flatMap fun i => [(40 + i, "java/lang/String", "coder", "B", .int 0), (40 + i, "java/lang/String", "value", "[B", .ref (70 + i))])
def z_roo : List (Nat × String) := ((List.range 10).flatMap fun i => [(1 + i, "ClockParliament$Kind"), (11 + i, "java/lang/String")]) ++ ((List.range z_lsn).map fun i => (40 + i, "java/lang/String"))
def z_roa : List (Nat × FieldType × List Value) := (List.range 10).map (fun i => (21 + i, FieldType.byte, (z_forms.getD i []).map Value.int)) ++ ([(31, .object "ClockParliament$Kind", (List.range 10).map fun i => .ref (1 + i)), (32, .int, ([1, 2, 3, 4, 5, 6, 7, 8, 9, 0] : List Int32).map Value.int), (33, .byte, (List.range 100).map fun i => .int (Int32.ofNat (48 + i / 10))), (34, .byte, (List.range 100).map fun i => .int (Int32.ofNat (48 + i % 10)))] ++ ((List.range z_lsn).map fun i => (70 + i, FieldType.byte, (z_lsc i).map fun x => Value.int (Int32.ofNat x))))
-- no value taken: jdk/internal/util/Preconditions.SIOOBE_FORMATTER
def z_stv : List (String × String × String × Value) := [("ClockParliament$Kind", "VOTE", "LClockParliament$Kind;", .ref 9), ("ClockParliament$Kind", "ALL", "[LClockParliament$Kind;", .ref 31), ("ClockParliament$1", "$SwitchMap$ClockParliament$Kind", "[I", .ref 32), ("ClockParliament$Kind", "CLOCK", "LClockParliament$Kind;", .ref 1), ("ClockParliament$Kind", "LEAVE", "LClockParliament$Kind;", .ref 2), ("ClockParliament$Kind", "KEY", "LClockParliament$Kind;", .ref 3), ("ClockParliament$Kind", "WIND", "LClockParliament$Kind;", .ref 4), ("ClockParliament$Kind", "MOVE", "LClockParliament$Kind;", .ref 5), ("ClockParliament$Kind", "BILL", "LClockParliament$Kind;", .ref 6), ("ClockParliament$Kind", "ADJOURN", "LClockParliament$Kind;", .ref 7), ("ClockParliament$Kind", "DROP", "LClockParliament$Kind;", .ref 8), ("ClockParliament$Kind", "HOUR", "LClockParliament$Kind;", .ref 10), ("java/lang/String", "COMPACT_STRINGS", "Z", .int 1), ("java/lang/Integer", "DigitOnes", "[B", .ref 34), ("java/lang/Integer", "DigitTens", "[B", .ref 33)]
/-- pairs of classes the first of which is none of the second -/
def z_ncl : List (String × String) := [("java/util/NoSuchElementException", "java/lang/IllegalArgumentException"), ("java/lang/IllegalStateException", "java/lang/IllegalArgumentException"), ("java/lang/UnsupportedOperationException", "java/lang/IllegalArgumentException")]
/-- words of the tables that are good where a method starts, beside those that keep -/
def z_nw : Cond → Bool
  | .fieldLinkNest .. => true
  | .methodLinkNest .. => true
  | .castable .. => true
  | .declares .. => true
  | _ => false
/-- what stands fast, of the machine and of the heap below the law's entry -/
def z_svp : List MethodName := [⟨"java/lang/AbstractStringBuilder", "ensureCapacityInternal", "(I)V"⟩, ⟨"java/lang/AbstractStringBuilder", "newCapacity", "(I)I"⟩, ⟨"java/lang/AbstractStringBuilder", "putStringAt", "(ILjava/lang/String;)V"⟩, ⟨"java/lang/AbstractStringBuilder", "inflateIfNeededFor", "(Ljava/lang/String;)V"⟩]
def z_K (G : z_G) (U : State) (H : Heap) : Prop :=
  va_K G.2.2.2.1 z_cl (z_tys G) U ∧
  (∀ q ∈ z_stv, va_Z q.1 q.2.1 q.2.2.1 (z_v G q.2.2.2) (z_A G) U H) ∧
  (∀ q ∈ z_rof, va_OF q.2.1 q.2.2.1 q.2.2.2.1 (z_v G q.2.2.2.2) (z_ad G q.1) (z_A G) U H) ∧
  (∀ q ∈ z_roo, va_O q.2 (z_ad G q.1) (z_A G) U H) ∧
  (∀ q ∈ z_roa, va_T q.2.1 (z_ad G q.1) q.2.2.length (fun j => z_v G (q.2.2.getD j .null)) (z_A G) U H) ∧
  va_T .int (z_ad G 0) G.2.2.2.2.2.1 (fun j => .int (G.2.2.2.2.2.2 j)) (z_A G) U H ∧
  (∀ w ∈ lw_tbl, z_nw w = true → va_Nw w U) ∧
  (∀ q ∈ z_ex, ∃ sa, vk_R "ClockParliament" q.2.2.1 q.2.2.2.2.1 sa U) ∧
  vx_Zq Bundle.tN "UNASSIGNED_STACK" Bundle.steD (z_A G) U H ∧ vx_Zq Bundle.tN "SUPPRESSED_SENTINEL" Bundle.listD (z_A G) U H ∧ (∀ q ∈ z_ncl, va_Nc q.1 q.2 U) ∧
  (∃ v : Value, (v = .null ∨ v = .ref 35) ∧ va_Z "jdk/internal/util/Preconditions" "SIOOBE_FORMATTER" "Ljava/util/function/BiFunction;" (z_v G v) (z_A G) U H) ∧
  va_AO "ClockParliament$House" U ∧ (∀ y ∈ z_svp, va_Nw (.selects "java/lang/StringBuilder" y y) U) ∧ ∀ i, i < z_lsn → vk_R "ClockParliamentLaw" (z_lsq.getD i (0, "", [])).1 (z_lsq.getD i (0, "", [])).2.1 (z_ad G (40 + i)) U
theorem z_nwW {w : Cond} {s U : State} (hW : s.WarmedH U.vm) (h : z_nw w = true) (hZ : va_Nw w s) : va_Nw w U := by
  cases w <;> first | (simp [z_nw] at h; done) | exact va_Nw.warmF hW hZ | exact va_Nw.warmM hW hZ | exact va_Nw.warmC hW hZ | exact va_Nw.warmD hW hZ
theorem z_K.to {G : z_G} {s U : State} {H H1 : Heap} (h : z_K G s H) (hW : s.WarmedH U.vm) (hq : ∀ a : Nat, a < H.size → ¬ z_A G a → H1[a]? = H[a]?) : z_K G U H1 := by
  obtain ⟨h1, h2, h3, h4, h5, h6, h7, h8, h9, h10, h11, ⟨v12, h12, h13⟩, h15, h14, h16⟩ := h
  have hvm := hW.alike
  exact ⟨va_K.moved hvm h1, fun q hm => (va_Z.moved hvm (h2 q hm)).kept hq, fun q hm => (va_OF.moved hvm (h3 q hm)).kept hq, fun q hm => (va_O.moved hvm (h4 q hm)).kept hq, fun q hm => (va_T.moved hvm (h5 q hm)).kept hq, (va_T.moved hvm h6).kept hq, fun w hw hn => z_nwW hW hn (h7 w hw hn), fun q hm => by
    obtain ⟨sa, hsa⟩ := h8 q hm
    exact ⟨sa, vk_R.warm hW hsa⟩, (vx_Zq.moved hvm h9).kept hq, (vx_Zq.moved hvm h10).kept hq, fun q hm => va_Nc.moved hvm (h11 q hm), ⟨v12, h12, (va_Z.moved hvm h13).kept hq⟩, va_AO.moved hvm h15, fun y hy => word_at hW (Or.inl rfl) (h14 y hy), fun i hi => vk_R.warm hW (h16 i hi)⟩
theorem z_K.same {G : z_G} {s U : State} {H : Heap} (h : z_K G s H) (hv : U.vm = s.vm) : z_K G U H := z_K.to h (by rw [hv]; exact State.WarmedH.refl s) (fun _ _ _ => rfl)
noncomputable def z_gw : List Cond := lw_tbl.filter goodWord
theorem z_gwOf {w : Cond} (h : w ∈ lw_tbl) (hg : goodWord w = true) : w ∈ z_gw := List.mem_filter.mpr ⟨h, hg⟩
theorem z_wdOf {j : Nat} {w : Cond} (h : z_wd j = some w) : w ∈ lw_tbl := by
  have key : ∀ (q : Nat) (l : List Cond), (([k2_sels lw_privs, tables_1_1, tables_1_2, tables_1_3, tables_1_4, tables_1_5, tables_1_6, tables_1_7] : List (List Cond)).getD q []) = l → ∀ v ∈ l, v ∈ lw_tbl := by
    intro q l hl v hv
    subst hl
    unfold lw_tbl tables_1
    match q, hv with
    | 0, hv => exact List.mem_append_left _ hv
    | 1, hv => exact List.mem_append_right _ (List.mem_append_left _ hv)
    | 2, hv => exact List.mem_append_right _ (List.mem_append_right _ (List.mem_append_left _ hv))
    | 3, hv => exact List.mem_append_right _ (List.mem_append_right _ (List.mem_append_right _ (List.mem_append_left _ hv)))
    | 4, hv => exact List.mem_append_right _ (List.mem_append_right _ (List.mem_append_right _ (List.mem_append_right _ (List.mem_append_left _ hv))))
    | 5, hv => exact List.mem_append_right _ (List.mem_append_right _ (List.mem_append_right _ (List.mem_append_right _ (List.mem_append_right _ (List.mem_append_left _ hv)))))
    | 6, hv => exact List.mem_append_right _ (List.mem_append_right _ (List.mem_append_right _ (List.mem_append_right _ (List.mem_append_right _ (List.mem_append_right _ (List.mem_append_left _ hv))))))
    | 7, hv => exact List.mem_append_right _ (List.mem_append_right _ (List.mem_append_right _ (List.mem_append_right _ (List.mem_append_right _ (List.mem_append_right _ (List.mem_append_right _ hv))))))
    | q + 8, hv => exact absurd hv (by simp)
  exact key _ _ rfl w (List.mem_of_getElem? h)
theorem z_isOf {j : Nat} {w : Cond} (h : z_is j w = true) : w ∈ lw_tbl := z_wdOf (of_decide_eq_true h)
/-- a frame's variables: .retAddr 0 stands for one of which nothing is known -/
def z_Lo (G : z_G) (nL : Nat) (ls : Array Slot) (L : List Value) : Prop := ls.size = nL ∧ lv_wf ls ∧ ∀ (i : Nat) (v : Value), L[i]? = some v → v ≠ .retAddr 0 → ls[i]? = some (.val (z_v G v))
def z_Qc (G : z_G) (Q : z_O → z_H → Prop) : Array Value → State → Outcome → State → Prop := fun _ st o t => (∃ (v : Option Value) (h' : z_H), o = .returned (v.map (z_v G)) ∧ Q (.inl v) h' ∧ z_R G h' t.heap) ∧ va_F (z_A G) st t
def z_XC (G : z_G) (Q : z_O → z_H → Prop) : String → State → State → Prop := fun E st t => (∃ h' : z_H, Q (.inr E) h' ∧ z_R G h' t.heap) ∧ va_F (z_A G) st t
/-- where a method's body runs -/
def z_C (G : z_G) (mi : Nat) (p : Program) (s : State) (m : MethodId) (args : Array Value) (meth : Method) (c : Code) : Prop :=
  p.tables.exec = Jvm.exec ∧ c.code = z_b mi ∧ c.maxLocals = z_nL mi ∧ meth.sig.returnType = z_rt mi ∧ s.vm.findClass (z_y mi).cls = some m.cls ∧ (∀ w ∈ z_gw, w.before args s = true) ∧ meth.locks = false ∧ meth.name = (z_y mi).name ∧ c.exceptionTable.toList = tableOf (z_hh mi) ∧ z_K G s s.heap ∧ G.2.1 ≤ s.heap.size ∧ G.1.stackTraces = false
/-- from this place of the method's code, with these variables, this stack, this heap, at most mc new cells of ms slots and calls d deep: it comes to an end of which Q holds -/
def z_W (G : z_G) (d mc ms mi pc : Nat) (L st : List Value) (h : z_H) (Q : z_O → z_H → Prop) : Prop :=
  ∀ (p : Program) (e : Env) (R : Room) (s : State) (m : MethodId) (args : Array Value) (below : List Frame) (meth : Method) (c : Code) (H : Heap) (locs : List Loc) (cells slots MC MS : Nat) (ls : Array Slot),
    z_C G mi p s m args meth c → d ≤ R.frames ∧ 60 * d + 200 ≤ R.locals ∧ MC ≤ R.cells ∧ MS ≤ R.slots ∧ cells + mc ≤ MC ∧ slots + ms ≤ MS → va_S (z_A G) s.heap H locs → z_Lo G (z_nL mi) ls L → z_R G h H →
    W p G.1 e R s m args below meth c H locs cells slots (vx_MQ below (z_Qc G Q) (z_XC G Q) args s MC MS (z_A G)) (F0 m pc ls (st.map (z_v G)))
theorem z_v_cat (G : z_G) (v : Value) : (z_v G v).category = v.category := by cases v <;> rfl
