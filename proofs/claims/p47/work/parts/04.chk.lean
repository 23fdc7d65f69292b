/-! How the rows are read; that each row is what the bytes decode to, and is linked as its numbers say. -/
noncomputable def z_m (mi : Nat) : z_Mt := (z_mtab.getD (mi / 20) []).getD (mi % 20) (x, code, 9, ret, [], [])
noncomputable def z_y (mi : Nat) : MethodName := (z_m mi).1
noncomputable def z_b (mi : Nat) : ByteArray := (z_m mi).2.1
noncomputable def z_nL (mi : Nat) : Nat := (z_m mi).2.2.1
noncomputable def z_rt (mi : Nat) : Option FieldType := (z_m mi).2.2.2.1
noncomputable def z_hh (mi : Nat) : List (Nat × Nat × Nat × Nat) := (z_m mi).2.2.2.2.1
noncomputable def z_pl (mi k : Nat) : Nat := (z_m mi).2.2.2.2.2.getD k 99999
noncomputable def z_code (mi : Nat) : List (List (List z_Row)) := (z_tab.getD (mi / 20) []).getD (mi % 20) []
noncomputable def z_at (mi pc : Nat) : Option (Instr × Nat × List Nat) := (((z_code mi).getD (pc / 256) []).getD (pc / 16 % 16) []).lookup pc
/-- the code's own word -/
noncomputable def z_cw (mi : Nat) : Cond := if (z_hh mi).isEmpty then .code (z_y mi) (z_b mi) (z_nL mi) (z_rt mi) else .codeWith (z_y mi) (z_b mi) (z_nL mi) (z_rt mi) (z_hh mi)
def z_tyOf : Nat → FieldType
  | 0 => .int | 1 => .int | 2 => .byte | 3 => .int | 4 => .int | _ => .object "ClockParliament$House"
/-- a place: the list's number by thousands, the place in it -/
noncomputable def z_wd (j : Nat) : Option Cond := (([k2_sels lw_privs, tables_1_1, tables_1_2, tables_1_3, tables_1_4, tables_1_5, tables_1_6, tables_1_7] : List (List Cond)).getD (j / 1000) [])[j % 1000]?
noncomputable def z_is (j : Nat) (w : Cond) : Bool := decide (z_wd j = some w)
noncomputable def z_isFN (j : Nat) (own : String) (idx : Nat) (ref n d : String) : Bool := match z_wd j with
  | some (.fieldLinkNest o i r n' d' h) => decide (Cond.fieldLinkNest o i r n' d' h = .fieldLinkNest own idx ref n d h)
  | _ => false
noncomputable def z_isMN (j : Nat) (own : String) (idx : Nat) (y : MethodName) : Bool := match z_wd j with
  | some (.methodLinkNest o i y' h) => decide (Cond.methodLinkNest o i y' h = .methodLinkNest own idx y h)
  | _ => false
noncomputable def z_fl (own : String) (idx : Nat) (ref n d : String) (j : Nat) : Bool := z_is j (.fieldLink own idx ref n d) || z_isFN j own idx ref n d
/-- the exceptions that the class throws with a text: class, its places in the pool, the text, by a wide index or not -/
def z_ex : List (String × Nat × Nat × Nat × String × Bool) := [("java/lang/UnsupportedOperationException", 123, 125, 127, "refused", false),
  ("java/lang/IllegalArgumentException", 185, 187, 189, "what is not 0 to 6", false),
  ("java/lang/IllegalArgumentException", 185, 209, 189, "what is not 0 to 5", false),
  ("java/lang/IndexOutOfBoundsException", 215, 217, 219, "no such key", false),
  ("java/lang/IndexOutOfBoundsException", 215, 229, 219, "no such clock", false),
  ("java/lang/IndexOutOfBoundsException", 215, 232, 219, "no such bill", false),
  ("java/util/NoSuchElementException", 248, 250, 252, "no such place", false),
  ("java/util/NoSuchElementException", 248, 257, 252, "no bill is adjourned", true),
  ("java/lang/IllegalArgumentException", 185, 265, 189, "hours out of range", true),
  ("java/util/NoSuchElementException", 248, 288, 252, "no clocks", true),
  ("java/lang/IllegalArgumentException", 185, 311, 189, "no such character in a text", true),
  ("java/lang/IllegalStateException", 316, 318, 320, "the input is full", true),
  ("java/lang/IllegalArgumentException", 185, 329, 189, "the text has a fault", true),
  ("java/lang/UnsupportedOperationException", 123, 337, 127, "an order is refused", true),
  ("java/lang/IllegalArgumentException", 185, 339, 189, "the depth is not 0 or 1", true),
  ("java/util/NoSuchElementException", 248, 344, 252, "no such reason", true),
  ("java/lang/IndexOutOfBoundsException", 215, 364, 219, "no such index", true),
  ("java/lang/IllegalArgumentException", 185, 403, 189, "what is not 0 to 13", true),
  ("java/lang/ArithmeticException", 405, 408, 407, "no votes", true),
  ("java/lang/IllegalStateException", 316, 410, 320, "nothing to undo", true),
  ("java/lang/IllegalStateException", 316, 416, 320, "nothing was saved", true)]
def z_nps (d : String) : Nat := match parseMethodDescriptor d with
  | some q => q.parameters.length
  | none => 99
/-- a call: 0 by the receiver's class, 1 static, 2 a constructor, 3 a nest mate's constructor, 4 a nest mate's static, 9 static with handlers -/
noncomputable def z_iv (own : String) (idx : Nat) : List Nat → Bool
  | [0, mj, n, j] => z_is j (.methodLink own idx (z_y mj)) && decide (parseMethodDescriptor (z_y mj).desc ≠ none) && decide (z_nps (z_y mj).desc = n) && decide (z_pl mj 3 = 0) && (z_hh mj).isEmpty && z_is (z_pl mj 4) (.selects (z_y mj).cls (z_y mj) (z_y mj))
  | [1, mj, n, j] => z_is j (.methodLink own idx (z_y mj)) && decide (parseMethodDescriptor (z_y mj).desc ≠ none) && decide (z_nps (z_y mj).desc = n) && decide (z_pl mj 3 = 1) && (z_hh mj).isEmpty
  | [2, mj, n, j] => z_is j (.methodLink own idx (z_y mj)) && decide (parseMethodDescriptor (z_y mj).desc ≠ none) && decide (z_nps (z_y mj).desc = n) && decide (z_pl mj 3 = 0) && (z_hh mj).isEmpty && decide ((z_y mj).name = "<init>") && decide (z_rt mj = none)
  | [3, mj, n, j] => z_isMN j own idx (z_y mj) && decide (parseMethodDescriptor (z_y mj).desc ≠ none) && decide (z_nps (z_y mj).desc = n) && decide (z_pl mj 3 = 0) && (z_hh mj).isEmpty && decide ((z_y mj).name = "<init>") && decide (z_rt mj = none)
  | [4, mj, n, j] => z_isMN j own idx (z_y mj) && decide (parseMethodDescriptor (z_y mj).desc ≠ none) && decide (z_nps (z_y mj).desc = n) && decide (z_pl mj 3 = 1) && (z_hh mj).isEmpty
  | [9, mj, n, j] => z_is j (.methodLink own idx (z_y mj)) && decide (parseMethodDescriptor (z_y mj).desc ≠ none) && decide (z_nps (z_y mj).desc = n) && decide (z_pl mj 3 = 1) && !(z_hh mj).isEmpty
  | [7, _, _, j] => z_is j (.methodLink own idx Lib.objectInit)
  | [5, _, _, j] => z_is j (.methodLink own idx ⟨"ClockParliament$Kind", "ordinal", "()I"⟩)
  | [6, mj, n, j] => z_is j (.methodLink own idx (z_y mj)) && decide (parseMethodDescriptor (z_y mj).desc ≠ none) && decide (z_nps (z_y mj).desc = n)
  | [8, _, _, j] => z_is j (.methodLink own idx arraycopyName)
  | [10, mj, n, j] => z_is j (.methodLink own idx (z_y mj)) && decide (parseMethodDescriptor (z_y mj).desc ≠ none) && decide (z_nps (z_y mj).desc = n)
  | _ => true
noncomputable def z_lk (own : String) (pc : Nat) : Instr → List Nat → Bool
  | .ifCond _ o, [t] => decide ((pc : Int) + o = t)
  | .if_icmp _ o, [t] => decide ((pc : Int) + o = t)
  | .if_acmp _ o, [t] => decide ((pc : Int) + o = t)
  | .goto o, [t] => decide ((pc : Int) + o = t)
  | .ifnull o, [t] => decide ((pc : Int) + o = t)
  | .ifnonnull o, [t] => decide ((pc : Int) + o = t)
  | .tableswitch d _ _ os, t :: ts => decide ((pc : Int) + d = t) && decide (os.toList.map (fun o => (pc : Int) + o) = ts.map (fun (z : Nat) => (z : Int)))
  | .lookupswitch d ps, t :: ts => decide ((pc : Int) + d = t) && decide (ps.toList.map (fun o => (pc : Int) + o.2) = ts.map (fun (z : Nat) => (z : Int))) && (ps.toList.zip (ps.toList.drop 1)).all (fun (a, next) => a.1 < next.1)
  | .getfield idx, [0, ci, k, j] => match z_cl[ci]? with
    | some q => decide (k < q.2.2) && z_fl own idx (q.2.1 k).1 (q.2.1 k).2.1 (q.2.1 k).2.2.1 j
    | none => false
  | .putfield idx, [0, ci, k, j] => match z_cl[ci]? with
    | some q => decide (k < q.2.2) && z_fl own idx (q.2.1 k).1 (q.2.1 k).2.1 (q.2.1 k).2.2.1 j
    | none => false
  | .getfield idx, [1, f, j] => match z_rft[f]? with
    | some q => z_is j (.fieldLink own idx q.1 q.2.1 q.2.2) || z_isFN j own idx q.1 q.2.1 q.2.2
    | none => false
  | .getstatic idx, [f, j] => match z_stt[f]? with
    | some q => z_is j (.fieldLink own idx q.1 q.2.1 q.2.2) || z_isFN j own idx q.1 q.2.1 q.2.2
    | none => false
  | .new idx, [0, ci, j1, j2, j3] => match z_cl[ci]? with
    | some q => z_is j1 (.classLink own idx q.1) && z_is j2 (.instantiable q.1 q.2.2) && z_is j3 (.initialized q.1)
    | none => false
  | .new idx, [1, f] => match z_ex[f]? with
    | some q => decide (own = "ClockParliament") && decide (idx = q.2.1)
    | none => false
  | .newarray a, [t, j] => decide (newarray.typeOf a = z_tyOf t) && decide (t = 0 ∨ t = 2) && z_is j (.arrayClass (z_tyOf t))
  | .invokevirtual idx, l => z_iv own idx l
  | .invokestatic idx, l => z_iv own idx l
  | .invokespecial idx, l => z_iv own idx l
  | _, _ => true
/-- how long an instruction is, but for the switches -/
def z_len : Instr → Nat
  | .tableswitch .. => 0
  | .lookupswitch .. => 0
  | .aload _ | .iload _ | .fload _ | .dload _ | .lload _ | .astore _ | .istore _ | .fstore _ | .dstore _ | .lstore _ | .bipush _ | .ldc _ | .newarray _ => 2
  | .sipush _ | .ldc_w _ | .ldc2_w _ | .iinc _ _ | .ifCond _ _ | .if_icmp _ _ | .if_acmp _ _ | .goto _ | .ifnull _ | .ifnonnull _ | .getfield _ | .putfield _ | .getstatic _ | .putstatic _ | .invokevirtual _ | .invokespecial _ | .invokestatic _ | .new _ | .anewarray _ | .checkcast _ | .instanceof _ => 3
  | .invokeinterface _ _ | .invokedynamic _ => 5
  | _ => 1
noncomputable def z_ok (mi : Nat) (q : z_Row) : Bool := decide (q.1 < q.2.2.1) && (z_len q.2.1 == 0 || decide (q.2.2.1 = q.1 + z_len q.2.1)) && decide (decode (z_b mi) q.1 = .ok (q.2.1, q.2.2.1 - q.1)) && z_lk (z_y mi).cls q.1 q.2.1 q.2.2.2
noncomputable def z_okM (mi : Nat) : Bool := (z_code mi).all fun b => b.all fun c => c.all (z_ok mi)
/-- a method's own words: its code, its class initialized, static or of an instance, plain class name -/
noncomputable def z_okW (mi : Nat) : Bool := z_is (z_pl mi 0) (z_cw mi) && z_is (z_pl mi 1) (.initialized (z_y mi).cls) && z_is (z_pl mi 2) (if z_pl mi 3 = 1 then .static (z_y mi) else .instanceMethod (z_y mi)) && plainFor (z_y mi) && decide ((z_y mi).cls ≠ "java/lang/invoke/MethodHandle") && decide ((z_y mi).cls ≠ "java/lang/invoke/VarHandle") && decide (z_nL mi ≤ 30) && (z_pl mi 4 == 99999 || z_is (z_pl mi 4) (.selects (z_y mi).cls (z_y mi) (z_y mi)))
