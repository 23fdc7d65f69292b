/-! The program as data, written by wip/whole/gen_tables.py: each row an instruction, the place behind it, and what it is linked to (places in lw_tbl). -/
abbrev z_Row : Type := Nat × Instr × Nat × List Nat
-- ClockParliament$Numbers.<init>(I)V
set_option maxRecDepth 20000 in
noncomputable def z_r0_0 : List (List z_Row) := [[(0, .aload_n 0, 1, []), (1, .invokespecial 3, 4, [7, 0, 0, 1060]), (4, .aload_n 0, 5, []), (5, .iconst 0, 6, []), (6, .putfield 9, 9, [0, 4, 1, 1065]), (9, .aload_n 0, 10, []), (10, .iload_n 1, 11, []), (11, .iconst 0, 12, []), (12, .invokestatic 15, 15, [1, 319, 2, 1061]), (15, .newarray .int, 17, [0, 1071])],
  [(17, .putfield 21, 20, [0, 4, 0, 1064]), (20, .return_, 21, [])]]
noncomputable def z_r0 : List (List (List z_Row)) := [z_r0_0]
-- ClockParliament$Numbers.count()I
set_option maxRecDepth 20000 in
noncomputable def z_r1_0 : List (List z_Row) := [[(0, .aload_n 0, 1, []), (1, .getfield 9, 4, [0, 4, 1, 1065]), (4, .ireturn, 5, [])]]
noncomputable def z_r1 : List (List (List z_Row)) := [z_r1_0]
-- ClockParliament$Numbers.has(I)Z
set_option maxRecDepth 20000 in
noncomputable def z_r2_0 : List (List z_Row) := [[(0, .iload_n 1, 1, []), (1, .ifCond .lt 15, 4, [16]), (4, .iload_n 1, 5, []), (5, .aload_n 0, 6, []), (6, .getfield 9, 9, [0, 4, 1, 1065]), (9, .if_icmp .ge 7, 12, [16]), (12, .iconst 1, 13, []), (13, .goto 4, 16, [17])],
  [(16, .iconst 0, 17, []), (17, .ireturn, 18, [])]]
noncomputable def z_r2 : List (List (List z_Row)) := [z_r2_0]
-- ClockParliament$Numbers.at(I)I
set_option maxRecDepth 20000 in
noncomputable def z_r3_0 : List (List z_Row) := [[(0, .aload_n 0, 1, []), (1, .iload_n 1, 2, []), (2, .invokevirtual 25, 5, [0, 2, 1, 2161]), (5, .ifCond .eq 12, 8, [17]), (8, .aload_n 0, 9, []), (9, .getfield 21, 12, [0, 4, 0, 1064]), (12, .iload_n 1, 13, []), (13, .iaload, 14, []), (14, .goto 4, 17, [18])],
  [(17, .iconst 0, 18, []), (18, .ireturn, 19, [])]]
noncomputable def z_r3 : List (List (List z_Row)) := [z_r3_0]
-- ClockParliament$Numbers.put(II)V
set_option maxRecDepth 20000 in
noncomputable def z_r4_0 : List (List z_Row) := [[(0, .aload_n 0, 1, []), (1, .iload_n 1, 2, []), (2, .invokevirtual 25, 5, [0, 2, 1, 2161]), (5, .ifCond .eq 10, 8, [15]), (8, .aload_n 0, 9, []), (9, .getfield 21, 12, [0, 4, 0, 1064]), (12, .iload_n 1, 13, []), (13, .iload_n 2, 14, []), (14, .iastore, 15, []), (15, .return_, 16, [])]]
noncomputable def z_r4 : List (List (List z_Row)) := [z_r4_0]
-- ClockParliament$Numbers.addTo(II)V
set_option maxRecDepth 20000 in
noncomputable def z_r5_0 : List (List z_Row) := [[(0, .aload_n 0, 1, []), (1, .iload_n 1, 2, []), (2, .aload_n 0, 3, []), (3, .iload_n 1, 4, []), (4, .invokevirtual 29, 7, [0, 3, 1, 3142]), (7, .iload_n 2, 8, []), (8, .iadd, 9, []), (9, .invokevirtual 33, 12, [0, 4, 2, 3143]), (12, .return_, 13, [])]]
noncomputable def z_r5 : List (List (List z_Row)) := [z_r5_0]
-- ClockParliament$Numbers.insert(II)V
set_option maxRecDepth 20000 in
noncomputable def z_r6_0 : List (List z_Row) := [[(0, .iload_n 1, 1, []), (1, .ifCond .lt 23, 4, [24]), (4, .iload_n 1, 5, []), (5, .aload_n 0, 6, []), (6, .getfield 9, 9, [0, 4, 1, 1065]), (9, .if_icmp .gt 15, 12, [24]), (12, .aload_n 0, 13, []), (13, .getfield 9, 16, [0, 4, 1, 1065])],
  [(16, .aload_n 0, 17, []), (17, .getfield 21, 20, [0, 4, 0, 1064]), (20, .arraylength, 21, []), (21, .if_icmp .lt 4, 24, [25]), (24, .return_, 25, []), (25, .aload_n 0, 26, []), (26, .getfield 9, 29, [0, 4, 1, 1065]), (29, .istore_n 3, 30, []), (30, .iload_n 3, 31, []), (31, .iload_n 1, 32, [])],
  [(32, .if_icmp .le 23, 35, [55]), (35, .aload_n 0, 36, []), (36, .getfield 21, 39, [0, 4, 0, 1064]), (39, .iload_n 3, 40, []), (40, .aload_n 0, 41, []), (41, .getfield 21, 44, [0, 4, 0, 1064]), (44, .iload_n 3, 45, []), (45, .iconst 1, 46, []), (46, .isub, 47, []), (47, .iaload, 48, [])],
  [(48, .iastore, 49, []), (49, .iinc 3 (-1), 52, []), (52, .goto (-22), 55, [30]), (55, .aload_n 0, 56, []), (56, .getfield 21, 59, [0, 4, 0, 1064]), (59, .iload_n 1, 60, []), (60, .iload_n 2, 61, []), (61, .iastore, 62, []), (62, .aload_n 0, 63, []), (63, .dup, 64, [])],
  [(64, .getfield 9, 67, [0, 4, 1, 1065]), (67, .iconst 1, 68, []), (68, .iadd, 69, []), (69, .putfield 9, 72, [0, 4, 1, 1065]), (72, .return_, 73, [])]]
noncomputable def z_r6 : List (List (List z_Row)) := [z_r6_0]
-- ClockParliament$Numbers.add(I)V
set_option maxRecDepth 20000 in
noncomputable def z_r7_0 : List (List z_Row) := [[(0, .aload_n 0, 1, []), (1, .aload_n 0, 2, []), (2, .getfield 9, 5, [0, 4, 1, 1065]), (5, .iload_n 1, 6, []), (6, .invokevirtual 37, 9, [0, 6, 2, 1076]), (9, .return_, 10, [])]]
noncomputable def z_r7 : List (List (List z_Row)) := [z_r7_0]
-- ClockParliament$Numbers.removeAt(I)V
set_option maxRecDepth 20000 in
noncomputable def z_r8_0 : List (List z_Row) := [[(0, .aload_n 0, 1, []), (1, .iload_n 1, 2, []), (2, .invokevirtual 25, 5, [0, 2, 1, 2161]), (5, .ifCond .ne 4, 8, [9]), (8, .return_, 9, []), (9, .iload_n 1, 10, []), (10, .istore_n 2, 11, []), (11, .iload_n 2, 12, []), (12, .iconst 1, 13, []), (13, .iadd, 14, []), (14, .aload_n 0, 15, []), (15, .getfield 9, 18, [0, 4, 1, 1065])],
  [(18, .if_icmp .ge 23, 21, [41]), (21, .aload_n 0, 22, []), (22, .getfield 21, 25, [0, 4, 0, 1064]), (25, .iload_n 2, 26, []), (26, .aload_n 0, 27, []), (27, .getfield 21, 30, [0, 4, 0, 1064]), (30, .iload_n 2, 31, []), (31, .iconst 1, 32, [])],
  [(32, .iadd, 33, []), (33, .iaload, 34, []), (34, .iastore, 35, []), (35, .iinc 2 1, 38, []), (38, .goto (-27), 41, [11]), (41, .aload_n 0, 42, []), (42, .dup, 43, []), (43, .getfield 9, 46, [0, 4, 1, 1065]), (46, .iconst 1, 47, []), (47, .isub, 48, [])],
  [(48, .putfield 9, 51, [0, 4, 1, 1065]), (51, .return_, 52, [])]]
noncomputable def z_r8 : List (List (List z_Row)) := [z_r8_0]
-- ClockParliament$Numbers.forget(I)V
set_option maxRecDepth 20000 in
noncomputable def z_r9_0 : List (List z_Row) := [[(0, .iconst 0, 1, []), (1, .istore_n 2, 2, []), (2, .iload_n 2, 3, []), (3, .aload_n 0, 4, []), (4, .getfield 9, 7, [0, 4, 1, 1065]), (7, .if_icmp .ge 49, 10, [56]), (10, .aload_n 0, 11, []), (11, .getfield 21, 14, [0, 4, 0, 1064]), (14, .iload_n 2, 15, []), (15, .iaload, 16, [])],
  [(16, .iload_n 1, 17, []), (17, .if_icmp .ne 13, 20, [30]), (20, .aload_n 0, 21, []), (21, .getfield 21, 24, [0, 4, 0, 1064]), (24, .iload_n 2, 25, []), (25, .iconst (-1), 26, []), (26, .iastore, 27, []), (27, .goto 23, 30, [50]), (30, .aload_n 0, 31, []), (31, .getfield 21, 34, [0, 4, 0, 1064])],
  [(34, .iload_n 2, 35, []), (35, .iaload, 36, []), (36, .iload_n 1, 37, []), (37, .if_icmp .le 13, 40, [50]), (40, .aload_n 0, 41, []), (41, .getfield 21, 44, [0, 4, 0, 1064]), (44, .iload_n 2, 45, []), (45, .dup2, 46, []), (46, .iaload, 47, []), (47, .iconst 1, 48, [])],
  [(48, .isub, 49, []), (49, .iastore, 50, []), (50, .iinc 2 1, 53, []), (53, .goto (-51), 56, [2]), (56, .return_, 57, [])]]
noncomputable def z_r9 : List (List (List z_Row)) := [z_r9_0]
-- ClockParliament$Numbers.placeOf(I)I
set_option maxRecDepth 20000 in
noncomputable def z_r10_0 : List (List z_Row) := [[(0, .iconst 0, 1, []), (1, .istore_n 2, 2, []), (2, .iload_n 2, 3, []), (3, .aload_n 0, 4, []), (4, .getfield 9, 7, [0, 4, 1, 1065]), (7, .if_icmp .ge 21, 10, [28]), (10, .aload_n 0, 11, []), (11, .getfield 21, 14, [0, 4, 0, 1064]), (14, .iload_n 2, 15, []), (15, .iaload, 16, [])],
  [(16, .iload_n 1, 17, []), (17, .if_icmp .ne 5, 20, [22]), (20, .iload_n 2, 21, []), (21, .ireturn, 22, []), (22, .iinc 2 1, 25, []), (25, .goto (-23), 28, [2]), (28, .iconst (-1), 29, []), (29, .ireturn, 30, [])]]
noncomputable def z_r10 : List (List (List z_Row)) := [z_r10_0]
-- ClockParliament$Numbers.countOf(I)I
set_option maxRecDepth 20000 in
noncomputable def z_r11_0 : List (List z_Row) := [[(0, .iconst 0, 1, []), (1, .istore_n 2, 2, []), (2, .iconst 0, 3, []), (3, .istore_n 3, 4, []), (4, .iload_n 3, 5, []), (5, .aload_n 0, 6, []), (6, .getfield 9, 9, [0, 4, 1, 1065]), (9, .if_icmp .ge 22, 12, [31]), (12, .aload_n 0, 13, []), (13, .getfield 21, 16, [0, 4, 0, 1064])],
  [(16, .iload_n 3, 17, []), (17, .iaload, 18, []), (18, .iload_n 1, 19, []), (19, .if_icmp .ne 6, 22, [25]), (22, .iinc 2 1, 25, []), (25, .iinc 3 1, 28, []), (28, .goto (-24), 31, [4]), (31, .iload_n 2, 32, [])],
  [(32, .ireturn, 33, [])]]
noncomputable def z_r11 : List (List (List z_Row)) := [z_r11_0]
-- ClockParliament$Numbers.sum()I
set_option maxRecDepth 20000 in
noncomputable def z_r12_0 : List (List z_Row) := [[(0, .iconst 0, 1, []), (1, .istore_n 1, 2, []), (2, .iconst 0, 3, []), (3, .istore_n 2, 4, []), (4, .iload_n 2, 5, []), (5, .aload_n 0, 6, []), (6, .getfield 9, 9, [0, 4, 1, 1065]), (9, .if_icmp .ge 18, 12, [27]), (12, .iload_n 1, 13, []), (13, .aload_n 0, 14, []), (14, .getfield 21, 17, [0, 4, 0, 1064])],
  [(17, .iload_n 2, 18, []), (18, .iaload, 19, []), (19, .iadd, 20, []), (20, .istore_n 1, 21, []), (21, .iinc 2 1, 24, []), (24, .goto (-20), 27, [4]), (27, .iload_n 1, 28, []), (28, .ireturn, 29, [])]]
noncomputable def z_r12 : List (List (List z_Row)) := [z_r12_0]
-- ClockParliament$Numbers.copyFrom(LClockParliament$Numbers;)V
set_option maxRecDepth 20000 in
noncomputable def z_r13_0 : List (List z_Row) := [[(0, .aload_n 0, 1, []), (1, .iconst 0, 2, []), (2, .putfield 9, 5, [0, 4, 1, 1065]), (5, .iconst 0, 6, []), (6, .istore_n 2, 7, []), (7, .iload_n 2, 8, []), (8, .aload_n 1, 9, []), (9, .getfield 9, 12, [0, 4, 1, 1065]), (12, .if_icmp .ge 40, 15, [52]), (15, .iload_n 2, 16, [])],
  [(16, .aload_n 0, 17, []), (17, .getfield 21, 20, [0, 4, 0, 1064]), (20, .arraylength, 21, []), (21, .if_icmp .ge 31, 24, [52]), (24, .aload_n 0, 25, []), (25, .getfield 21, 28, [0, 4, 0, 1064]), (28, .iload_n 2, 29, []), (29, .aload_n 1, 30, []), (30, .getfield 21, 33, [0, 4, 0, 1064])],
  [(33, .iload_n 2, 34, []), (34, .iaload, 35, []), (35, .iastore, 36, []), (36, .aload_n 0, 37, []), (37, .dup, 38, []), (38, .getfield 9, 41, [0, 4, 1, 1065]), (41, .iconst 1, 42, []), (42, .iadd, 43, []), (43, .putfield 9, 46, [0, 4, 1, 1065]), (46, .iinc 2 1, 49, [])],
  [(49, .goto (-42), 52, [7]), (52, .return_, 53, [])]]
noncomputable def z_r13 : List (List (List z_Row)) := [z_r13_0]
-- ClockParliament$Refusal.<init>()V
set_option maxRecDepth 20000 in
noncomputable def z_r14_0 : List (List z_Row) := [[(0, .aload_n 0, 1, []), (1, .invokespecial 3, 4, [7, 0, 0, 2042]), (4, .aload_n 0, 5, []), (5, .iconst 0, 6, []), (6, .putfield 9, 9, [0, 7, 0, 2043]), (9, .aload_n 0, 10, []), (10, .iconst 0, 11, []), (11, .putfield 15, 14, [0, 7, 1, 2045]), (14, .return_, 15, [])]]
noncomputable def z_r14 : List (List (List z_Row)) := [z_r14_0]
-- ClockParliament$Refusal.isNone()Z
set_option maxRecDepth 20000 in
noncomputable def z_r15_0 : List (List z_Row) := [[(0, .aload_n 0, 1, []), (1, .getfield 9, 4, [0, 7, 0, 2043]), (4, .ifCond .ne 7, 7, [11]), (7, .iconst 1, 8, []), (8, .goto 4, 11, [12]), (11, .iconst 0, 12, []), (12, .ireturn, 13, [])]]
noncomputable def z_r15 : List (List (List z_Row)) := [z_r15_0]
-- ClockParliament$Refusal.fill(II)V
set_option maxRecDepth 20000 in
noncomputable def z_r16_0 : List (List z_Row) := [[(0, .aload_n 0, 1, []), (1, .iload_n 1, 2, []), (2, .putfield 9, 5, [0, 7, 0, 2043]), (5, .aload_n 0, 6, []), (6, .iload_n 2, 7, []), (7, .putfield 15, 10, [0, 7, 1, 2045]), (10, .return_, 11, [])]]
noncomputable def z_r16 : List (List (List z_Row)) := [z_r16_0]
-- ClockParliament$Refusal.clear()V
set_option maxRecDepth 20000 in
noncomputable def z_r17_0 : List (List z_Row) := [[(0, .aload_n 0, 1, []), (1, .iconst 0, 2, []), (2, .iconst 0, 3, []), (3, .invokevirtual 18, 6, [0, 16, 2, 2127]), (6, .return_, 7, [])]]
noncomputable def z_r17 : List (List (List z_Row)) := [z_r17_0]
-- ClockParliament$Refusal.copyFrom(LClockParliament$Refusal;)V
set_option maxRecDepth 20000 in
noncomputable def z_r18_0 : List (List z_Row) := [[(0, .aload_n 0, 1, []), (1, .aload_n 1, 2, []), (2, .getfield 9, 5, [0, 7, 0, 2043]), (5, .aload_n 1, 6, []), (6, .getfield 15, 9, [0, 7, 1, 2045]), (9, .invokevirtual 18, 12, [0, 16, 2, 2127]), (12, .return_, 13, [])]]
noncomputable def z_r18 : List (List (List z_Row)) := [z_r18_0]
-- ClockParliament$Refusal.applies(ZII)Z
set_option maxRecDepth 20000 in
noncomputable def z_r19_0 : List (List z_Row) := [[(0, .iload_n 1, 1, []), (1, .ifCond .eq 9, 4, [10]), (4, .aload_n 0, 5, []), (5, .iload_n 2, 6, []), (6, .iload_n 3, 7, []), (7, .invokevirtual 18, 10, [0, 16, 2, 2127]), (10, .iload_n 1, 11, []), (11, .ireturn, 12, [])]]
noncomputable def z_r19 : List (List (List z_Row)) := [z_r19_0]
-- ClockParliament$Refusal.isUnknown(ZI)Z
set_option maxRecDepth 20000 in
noncomputable def z_r20_0 : List (List z_Row) := [[(0, .aload_n 0, 1, []), (1, .iload_n 1, 2, []), (2, .ifCond .ne 7, 5, [9]), (5, .iconst 1, 6, []), (6, .goto 4, 9, [10]), (9, .iconst 0, 10, []), (10, .iconst 2, 11, []), (11, .iload_n 2, 12, []), (12, .invokevirtual 22, 15, [0, 19, 3, 2123]), (15, .ireturn, 16, [])]]
noncomputable def z_r20 : List (List (List z_Row)) := [z_r20_0]
-- ClockParliament$Refusal.isOutside(III)Z
set_option maxRecDepth 20000 in
noncomputable def z_r21_0 : List (List z_Row) := [[(0, .aload_n 0, 1, []), (1, .iload_n 1, 2, []), (2, .iload_n 2, 3, []), (3, .if_icmp .lt 8, 6, [11]), (6, .iload_n 1, 7, []), (7, .iload_n 3, 8, []), (8, .if_icmp .le 7, 11, [15]), (11, .iconst 1, 12, []), (12, .goto 4, 15, [16]), (15, .iconst 0, 16, [])],
  [(16, .iconst 3, 17, []), (17, .iload_n 1, 18, []), (18, .invokevirtual 22, 21, [0, 19, 3, 2123]), (21, .ireturn, 22, [])]]
noncomputable def z_r21 : List (List (List z_Row)) := [z_r21_0]
-- ClockParliament$Order.<init>()V
set_option maxRecDepth 20000 in
noncomputable def z_r22_0 : List (List z_Row) := [[(0, .aload_n 0, 1, []), (1, .invokespecial 1, 4, [7, 0, 0, 2000]), (4, .aload_n 0, 5, []), (5, .getstatic 7, 8, [0, 2001]), (8, .putfield 13, 11, [0, 5, 0, 2003]), (11, .aload_n 0, 12, []), (12, .iconst 0, 13, []), (13, .putfield 18, 16, [0, 5, 1, 2005])],
  [(16, .aload_n 0, 17, []), (17, .iconst 0, 18, []), (18, .putfield 22, 21, [0, 5, 2, 2007]), (21, .aload_n 0, 22, []), (22, .iconst 0, 23, []), (23, .putfield 25, 26, [0, 5, 3, 2009]), (26, .aload_n 0, 27, []), (27, .iconst 0, 28, []), (28, .putfield 28, 31, [0, 5, 4, 2011]), (31, .return_, 32, [])]]
noncomputable def z_r22 : List (List (List z_Row)) := [z_r22_0]
-- ClockParliament$Order.fill(LClockParliament$Kind;III)V
set_option maxRecDepth 20000 in
noncomputable def z_r23_0 : List (List z_Row) := [[(0, .aload_n 0, 1, []), (1, .aload_n 1, 2, []), (2, .putfield 13, 5, [0, 5, 0, 2003]), (5, .aload_n 0, 6, []), (6, .iload_n 2, 7, []), (7, .putfield 18, 10, [0, 5, 1, 2005]), (10, .aload_n 0, 11, []), (11, .iload_n 3, 12, []), (12, .putfield 22, 15, [0, 5, 2, 2007]), (15, .aload_n 0, 16, [])],
  [(16, .iload 4, 18, []), (18, .putfield 25, 21, [0, 5, 3, 2009]), (21, .aload_n 0, 22, []), (22, .iconst 0, 23, []), (23, .putfield 28, 26, [0, 5, 4, 2011]), (26, .return_, 27, [])]]
noncomputable def z_r23 : List (List (List z_Row)) := [z_r23_0]
-- ClockParliament$Order.take(I)V
set_option maxRecDepth 20000 in
noncomputable def z_r24_0 : List (List z_Row) := [[(0, .aload_n 0, 1, []), (1, .getfield 28, 4, [0, 5, 4, 2011]), (4, .ifCond .ne 11, 7, [15]), (7, .aload_n 0, 8, []), (8, .iload_n 1, 9, []), (9, .putfield 18, 12, [0, 5, 1, 2005]), (12, .goto 24, 15, [36]), (15, .aload_n 0, 16, [])],
  [(16, .getfield 28, 19, [0, 5, 4, 2011]), (19, .iconst 1, 20, []), (20, .if_icmp .ne 11, 23, [31]), (23, .aload_n 0, 24, []), (24, .iload_n 1, 25, []), (25, .putfield 22, 28, [0, 5, 2, 2007]), (28, .goto 8, 31, [36]), (31, .aload_n 0, 32, [])],
  [(32, .iload_n 1, 33, []), (33, .putfield 25, 36, [0, 5, 3, 2009]), (36, .aload_n 0, 37, []), (37, .dup, 38, []), (38, .getfield 28, 41, [0, 5, 4, 2011]), (41, .iconst 1, 42, []), (42, .iadd, 43, []), (43, .putfield 28, 46, [0, 5, 4, 2011]), (46, .return_, 47, [])]]
noncomputable def z_r24 : List (List (List z_Row)) := [z_r24_0]
-- ClockParliament$Kind.startingWith(C)LClockParliament$Kind;
set_option maxRecDepth 20000 in
noncomputable def z_r25_0 : List (List z_Row) := [[(0, .iconst 0, 1, []), (1, .istore_n 1, 2, []), (2, .iload_n 1, 3, []), (3, .getstatic 57, 6, [1, 5049]), (6, .arraylength, 7, []), (7, .if_icmp .ge 30, 10, [37]), (10, .getstatic 57, 13, [1, 5049]), (13, .iload_n 1, 14, []), (14, .aaload, 15, []), (15, .getfield 53, 18, [1, 1, 7134])],
  [(18, .iload_n 0, 19, []), (19, .invokevirtual 60, 22, [0, 333, 1, 5051]), (22, .ifCond .ne 9, 25, [31]), (25, .getstatic 57, 28, [1, 5049]), (28, .iload_n 1, 29, []), (29, .aaload, 30, []), (30, .areturn, 31, []), (31, .iinc 1 1, 34, [])],
  [(34, .goto (-32), 37, [2]), (37, .aconst_null, 38, []), (38, .areturn, 39, [])]]
noncomputable def z_r25 : List (List (List z_Row)) := [z_r25_0]
-- ClockParliament$Clocks.<init>()V
set_option maxRecDepth 20000 in
noncomputable def z_r26_0 : List (List z_Row) := [[(0, .aload_n 0, 1, []), (1, .invokespecial 3, 4, [7, 0, 0, 1054]), (4, .aload_n 0, 5, []), (5, .new 9, 8, [0, 4, 1055, 1056, 1004]), (8, .dup, 9, []), (9, .bipush 8, 11, []), (11, .invokespecial 11, 14, [2, 0, 1, 1057]), (14, .putfield 14, 17, [0, 1, 0, 1080])],
  [(17, .aload_n 0, 18, []), (18, .new 9, 21, [0, 4, 1055, 1056, 1004]), (21, .dup, 22, []), (22, .bipush 8, 24, []), (24, .invokespecial 11, 27, [2, 0, 1, 1057]), (27, .putfield 20, 30, [0, 1, 1, 1083]), (30, .aload_n 0, 31, []), (31, .new 9, 34, [0, 4, 1055, 1056, 1004])],
  [(34, .dup, 35, []), (35, .bipush 8, 37, []), (37, .invokespecial 11, 40, [2, 0, 1, 1057]), (40, .putfield 23, 43, [0, 1, 2, 1086]), (43, .aload_n 0, 44, []), (44, .new 9, 47, [0, 4, 1055, 1056, 1004]), (47, .dup, 48, [])],
  [(48, .bipush 8, 50, []), (50, .invokespecial 11, 53, [2, 0, 1, 1057]), (53, .putfield 26, 56, [0, 1, 3, 1089]), (56, .aload_n 0, 57, []), (57, .new 9, 60, [0, 4, 1055, 1056, 1004]), (60, .dup, 61, []), (61, .iconst 3, 62, []), (62, .invokespecial 11, 65, [2, 0, 1, 1057])],
  [(65, .putfield 29, 68, [0, 1, 4, 1091]), (68, .iconst 0, 69, []), (69, .istore_n 1, 70, []), (70, .iload_n 1, 71, []), (71, .iconst 3, 72, []), (72, .if_icmp .ge 17, 75, [89]), (75, .aload_n 0, 76, []), (76, .getfield 29, 79, [0, 1, 4, 1091]), (79, .iconst (-1), 80, [])],
  [(80, .invokevirtual 32, 83, [0, 7, 1, 1072]), (83, .iinc 1 1, 86, []), (86, .goto (-16), 89, [70]), (89, .return_, 90, [])]]
noncomputable def z_r26 : List (List (List z_Row)) := [z_r26_0]
-- ClockParliament$Clocks.count()I
set_option maxRecDepth 20000 in
noncomputable def z_r27_0 : List (List z_Row) := [[(0, .aload_n 0, 1, []), (1, .getfield 14, 4, [0, 1, 0, 1080]), (4, .invokevirtual 35, 7, [0, 1, 0, 2135]), (7, .ireturn, 8, [])]]
noncomputable def z_r27 : List (List (List z_Row)) := [z_r27_0]
-- ClockParliament$Clocks.has(I)Z
set_option maxRecDepth 20000 in
noncomputable def z_r28_0 : List (List z_Row) := [[(0, .aload_n 0, 1, []), (1, .getfield 14, 4, [0, 1, 0, 1080]), (4, .iload_n 1, 5, []), (5, .invokevirtual 39, 8, [0, 2, 1, 2144]), (8, .ireturn, 9, [])]]
noncomputable def z_r28 : List (List (List z_Row)) := [z_r28_0]
-- ClockParliament$Clocks.isSilent(I)Z
set_option maxRecDepth 20000 in
noncomputable def z_r29_0 : List (List z_Row) := [[(0, .aload_n 0, 1, []), (1, .getfield 20, 4, [0, 1, 1, 1083]), (4, .iload_n 1, 5, []), (5, .invokevirtual 43, 8, [0, 3, 1, 2174]), (8, .ifCond .ne 7, 11, [15]), (11, .iconst 1, 12, []), (12, .goto 4, 15, [16]), (15, .iconst 0, 16, [])],
  [(16, .ireturn, 17, [])]]
noncomputable def z_r29 : List (List (List z_Row)) := [z_r29_0]
-- ClockParliament$Clocks.difference(II)I
set_option maxRecDepth 20000 in
noncomputable def z_r30_0 : List (List z_Row) := [[(0, .aload_n 0, 1, []), (1, .getfield 14, 4, [0, 1, 0, 1080]), (4, .iload_n 1, 5, []), (5, .invokevirtual 43, 8, [0, 3, 1, 2174]), (8, .aload_n 0, 9, []), (9, .getfield 14, 12, [0, 1, 0, 1080]), (12, .iload_n 2, 13, []), (13, .invokevirtual 43, 16, [0, 3, 1, 2174])],
  [(16, .invokestatic 47, 19, [1, 49, 2, 2175]), (19, .ireturn, 20, [])]]
noncomputable def z_r30 : List (List (List z_Row)) := [z_r30_0]
-- ClockParliament$Clocks.areAgreed(II)Z
set_option maxRecDepth 20000 in
noncomputable def z_r31_0 : List (List z_Row) := [[(0, .aload_n 0, 1, []), (1, .iload_n 1, 2, []), (2, .iload_n 2, 3, []), (3, .invokevirtual 51, 6, [0, 30, 2, 2170]), (6, .iconst 5, 7, []), (7, .if_icmp .gt 7, 10, [14]), (10, .iconst 1, 11, []), (11, .goto 4, 14, [15]), (14, .iconst 0, 15, []), (15, .ireturn, 16, [])]]
noncomputable def z_r31 : List (List (List z_Row)) := [z_r31_0]
-- ClockParliament$Clocks.wouldVote(II)Z
set_option maxRecDepth 20000 in
noncomputable def z_r32_0 : List (List z_Row) := [[(0, .aload_n 0, 1, []), (1, .getfield 20, 4, [0, 1, 1, 1083]), (4, .iload_n 1, 5, []), (5, .invokevirtual 43, 8, [0, 3, 1, 2174]), (8, .ifCond .le 24, 11, [32]), (11, .aload_n 0, 12, []), (12, .getfield 14, 15, [0, 1, 0, 1080]), (15, .iload_n 1, 16, [])],
  [(16, .invokevirtual 43, 19, [0, 3, 1, 2174]), (19, .iload_n 2, 20, []), (20, .invokestatic 47, 23, [1, 49, 2, 2175]), (23, .bipush 20, 25, []), (25, .if_icmp .gt 7, 28, [32]), (28, .iconst 1, 29, []), (29, .goto 4, 32, [33])],
  [(32, .iconst 0, 33, []), (33, .ireturn, 34, [])]]
noncomputable def z_r32 : List (List (List z_Row)) := [z_r32_0]
-- ClockParliament$Clocks.come(II)I
set_option maxRecDepth 20000 in
noncomputable def z_r33_0 : List (List z_Row) := [[(0, .aload_n 0, 1, []), (1, .getfield 14, 4, [0, 1, 0, 1080]), (4, .iload_n 1, 5, []), (5, .invokevirtual 32, 8, [0, 7, 1, 1072]), (8, .aload_n 0, 9, []), (9, .getfield 20, 12, [0, 1, 1, 1083]), (12, .bipush 24, 14, []), (14, .invokevirtual 32, 17, [0, 7, 1, 1072])],
  [(17, .aload_n 0, 18, []), (18, .getfield 23, 21, [0, 1, 2, 1086]), (21, .iload_n 2, 22, []), (22, .invokevirtual 32, 25, [0, 7, 1, 1072]), (25, .aload_n 0, 26, []), (26, .getfield 26, 29, [0, 1, 3, 1089]), (29, .iconst 0, 30, []), (30, .invokevirtual 32, 33, [0, 7, 1, 1072])],
  [(33, .aload_n 0, 34, []), (34, .invokevirtual 54, 37, [0, 27, 0, 3103]), (37, .iconst 1, 38, []), (38, .isub, 39, []), (39, .ireturn, 40, [])]]
noncomputable def z_r33 : List (List (List z_Row)) := [z_r33_0]
-- ClockParliament$Clocks.remove(I)V
set_option maxRecDepth 20000 in
noncomputable def z_r34_0 : List (List z_Row) := [[(0, .aload_n 0, 1, []), (1, .getfield 14, 4, [0, 1, 0, 1080]), (4, .iload_n 1, 5, []), (5, .invokevirtual 55, 8, [0, 8, 1, 3112]), (8, .aload_n 0, 9, []), (9, .getfield 20, 12, [0, 1, 1, 1083]), (12, .iload_n 1, 13, []), (13, .invokevirtual 55, 16, [0, 8, 1, 3112])],
  [(16, .aload_n 0, 17, []), (17, .getfield 23, 20, [0, 1, 2, 1086]), (20, .iload_n 1, 21, []), (21, .invokevirtual 55, 24, [0, 8, 1, 3112]), (24, .aload_n 0, 25, []), (25, .getfield 26, 28, [0, 1, 3, 1089]), (28, .iload_n 1, 29, []), (29, .invokevirtual 55, 32, [0, 8, 1, 3112])],
  [(32, .aload_n 0, 33, []), (33, .getfield 29, 36, [0, 1, 4, 1091]), (36, .iload_n 1, 37, []), (37, .invokevirtual 58, 40, [0, 9, 1, 3116]), (40, .return_, 41, [])]]
noncomputable def z_r34 : List (List (List z_Row)) := [z_r34_0]
-- ClockParliament$Clocks.giveKey(II)I
set_option maxRecDepth 20000 in
noncomputable def z_r35_0 : List (List z_Row) := [[(0, .aload_n 0, 1, []), (1, .getfield 29, 4, [0, 1, 4, 1091]), (4, .iload_n 1, 5, []), (5, .invokevirtual 43, 8, [0, 3, 1, 2174]), (8, .istore_n 3, 9, []), (9, .aload_n 0, 10, []), (10, .getfield 29, 13, [0, 1, 4, 1091]), (13, .iload_n 1, 14, []), (14, .iload_n 2, 15, []), (15, .invokevirtual 61, 18, [0, 4, 2, 3125])],
  [(18, .iload_n 3, 19, []), (19, .ireturn, 20, [])]]
noncomputable def z_r35 : List (List (List z_Row)) := [z_r35_0]
-- ClockParliament$Clocks.windUp(I)I
set_option maxRecDepth 20000 in
noncomputable def z_r36_0 : List (List z_Row) := [[(0, .aload_n 0, 1, []), (1, .getfield 20, 4, [0, 1, 1, 1083]), (4, .iload_n 1, 5, []), (5, .invokevirtual 43, 8, [0, 3, 1, 2174]), (8, .istore_n 2, 9, []), (9, .aload_n 0, 10, []), (10, .getfield 20, 13, [0, 1, 1, 1083]), (13, .iload_n 1, 14, []), (14, .bipush 24, 16, [])],
  [(16, .invokevirtual 61, 19, [0, 4, 2, 3125]), (19, .iload_n 2, 20, []), (20, .ireturn, 21, [])]]
noncomputable def z_r36 : List (List (List z_Row)) := [z_r36_0]
-- ClockParliament$Clocks.moveOn(II)I
set_option maxRecDepth 20000 in
noncomputable def z_r37_0 : List (List z_Row) := [[(0, .aload_n 0, 1, []), (1, .getfield 20, 4, [0, 1, 1, 1083]), (4, .iload_n 1, 5, []), (5, .iload_n 2, 6, []), (6, .invokestatic 65, 9, [1, 48, 1, 3137]), (9, .ineg, 10, []), (10, .invokevirtual 68, 13, [0, 5, 2, 3138]), (13, .aload_n 0, 14, []), (14, .iload_n 1, 15, []), (15, .iload_n 2, 16, [])],
  [(16, .invokevirtual 71, 19, [0, 40, 2, 3144]), (19, .aload_n 0, 20, []), (20, .getfield 14, 23, [0, 1, 0, 1080]), (23, .iload_n 1, 24, []), (24, .invokevirtual 43, 27, [0, 3, 1, 2174]), (27, .ireturn, 28, [])]]
noncomputable def z_r37 : List (List (List z_Row)) := [z_r37_0]
-- ClockParliament$Clocks.giveVote(I)V
set_option maxRecDepth 20000 in
noncomputable def z_r38_0 : List (List z_Row) := [[(0, .aload_n 0, 1, []), (1, .getfield 20, 4, [0, 1, 1, 1083]), (4, .iload_n 1, 5, []), (5, .iconst (-1), 6, []), (6, .invokevirtual 68, 9, [0, 5, 2, 3138]), (9, .aload_n 0, 10, []), (10, .getfield 26, 13, [0, 1, 3, 1089]), (13, .iload_n 1, 14, []), (14, .iconst 1, 15, []), (15, .invokevirtual 68, 18, [0, 5, 2, 3138])],
  [(18, .return_, 19, [])]]
noncomputable def z_r38 : List (List (List z_Row)) := [z_r38_0]
-- ClockParliament$Clocks.passHour()V
set_option maxRecDepth 20000 in
noncomputable def z_r39_0 : List (List z_Row) := [[(0, .iconst 0, 1, []), (1, .istore_n 1, 2, []), (2, .iload_n 1, 3, []), (3, .aload_n 0, 4, []), (4, .invokevirtual 54, 7, [0, 27, 0, 3103]), (7, .if_icmp .ge 44, 10, [51]), (10, .aload_n 0, 11, []), (11, .iload_n 1, 12, []), (12, .invokevirtual 74, 15, [0, 29, 1, 3217]), (15, .ifCond .ne 30, 18, [45])],
  [(18, .aload_n 0, 19, []), (19, .getfield 20, 22, [0, 1, 1, 1083]), (22, .iload_n 1, 23, []), (23, .iconst (-1), 24, []), (24, .invokevirtual 68, 27, [0, 5, 2, 3138]), (27, .aload_n 0, 28, []), (28, .iload_n 1, 29, []), (29, .aload_n 0, 30, []), (30, .iload_n 1, 31, []), (31, .invokevirtual 74, 34, [0, 29, 1, 3217])],
  [(34, .ifCond .eq 7, 37, [41]), (37, .iconst 0, 38, []), (38, .goto 4, 41, [42]), (41, .iconst 1, 42, []), (42, .invokevirtual 71, 45, [0, 40, 2, 3144]), (45, .iinc 1 1, 48, [])],
  [(48, .goto (-46), 51, [2]), (51, .return_, 52, [])]]
noncomputable def z_r39 : List (List (List z_Row)) := [z_r39_0]
-- ClockParliament$Clocks.goOn(II)V
set_option maxRecDepth 20000 in
noncomputable def z_r40_0 : List (List z_Row) := [[(0, .aload_n 0, 1, []), (1, .getfield 14, 4, [0, 1, 0, 1080]), (4, .iload_n 1, 5, []), (5, .aload_n 0, 6, []), (6, .getfield 14, 9, [0, 1, 0, 1080]), (9, .iload_n 1, 10, []), (10, .invokevirtual 43, 13, [0, 3, 1, 2174]), (13, .iload_n 2, 14, []), (14, .iadd, 15, []), (15, .bipush 60, 17, [])],
  [(17, .irem, 18, []), (18, .invokevirtual 61, 21, [0, 4, 2, 3125]), (21, .return_, 22, [])]]
noncomputable def z_r40 : List (List (List z_Row)) := [z_r40_0]
-- ClockParliament$Clocks.agreeingWith(I)I
set_option maxRecDepth 20000 in
noncomputable def z_r41_0 : List (List z_Row) := [[(0, .iconst 0, 1, []), (1, .istore_n 2, 2, []), (2, .iconst 0, 3, []), (3, .istore_n 3, 4, []), (4, .iload_n 3, 5, []), (5, .aload_n 0, 6, []), (6, .invokevirtual 54, 9, [0, 27, 0, 3103]), (9, .if_icmp .ge 29, 12, [38]), (12, .iload_n 3, 13, []), (13, .iload_n 1, 14, []), (14, .if_icmp .eq 18, 17, [32])],
  [(17, .aload_n 0, 18, []), (18, .iload_n 1, 19, []), (19, .iload_n 3, 20, []), (20, .invokevirtual 77, 23, [0, 31, 2, 4050]), (23, .ifCond .eq 9, 26, [32]), (26, .iload_n 2, 27, []), (27, .iconst 1, 28, []), (28, .iload_n 3, 29, []), (29, .ishl, 30, []), (30, .ior, 31, []), (31, .istore_n 2, 32, [])],
  [(32, .iinc 3 1, 35, []), (35, .goto (-31), 38, [4]), (38, .iload_n 2, 39, []), (39, .ireturn, 40, [])]]
noncomputable def z_r41 : List (List (List z_Row)) := [z_r41_0]
-- ClockParliament$Clocks.reachedFrom(I)I
set_option maxRecDepth 20000 in
noncomputable def z_r42_0 : List (List z_Row) := [[(0, .iconst 1, 1, []), (1, .iload_n 1, 2, []), (2, .ishl, 3, []), (3, .istore_n 2, 4, []), (4, .iconst 0, 5, []), (5, .istore_n 3, 6, []), (6, .iload_n 3, 7, []), (7, .aload_n 0, 8, []), (8, .invokevirtual 54, 11, [0, 27, 0, 3103]), (11, .if_icmp .ge 45, 14, [56]), (14, .iconst 0, 15, []), (15, .istore 4, 17, [])],
  [(17, .iload 4, 19, []), (19, .aload_n 0, 20, []), (20, .invokevirtual 54, 23, [0, 27, 0, 3103]), (23, .if_icmp .ge 27, 26, [50]), (26, .iload_n 2, 27, []), (27, .iload 4, 29, []), (29, .invokestatic 81, 32, [4, 159, 2, 4217])],
  [(32, .ifCond .eq 12, 35, [44]), (35, .iload_n 2, 36, []), (36, .aload_n 0, 37, []), (37, .iload 4, 39, []), (39, .invokevirtual 84, 42, [0, 41, 1, 4218]), (42, .ior, 43, []), (43, .istore_n 2, 44, []), (44, .iinc 4 1, 47, []), (47, .goto (-30), 50, [17])],
  [(50, .iinc 3 1, 53, []), (53, .goto (-47), 56, [6]), (56, .iload_n 2, 57, []), (57, .ireturn, 58, [])]]
noncomputable def z_r42 : List (List (List z_Row)) := [z_r42_0]
-- ClockParliament$Clocks.weakestOfAll()I
set_option maxRecDepth 20000 in
noncomputable def z_r43_0 : List (List z_Row) := [[(0, .iconst 0, 1, []), (1, .istore_n 1, 2, []), (2, .iconst 1, 3, []), (3, .istore_n 2, 4, []), (4, .iload_n 2, 5, []), (5, .aload_n 0, 6, []), (6, .invokevirtual 54, 9, [0, 27, 0, 3103]), (9, .if_icmp .ge 30, 12, [39]), (12, .aload_n 0, 13, []), (13, .getfield 20, 16, [0, 1, 1, 1083])],
  [(16, .iload_n 2, 17, []), (17, .invokevirtual 43, 20, [0, 3, 1, 2174]), (20, .aload_n 0, 21, []), (21, .getfield 20, 24, [0, 1, 1, 1083]), (24, .iload_n 1, 25, []), (25, .invokevirtual 43, 28, [0, 3, 1, 2174]), (28, .if_icmp .ge 5, 31, [33]), (31, .iload_n 2, 32, [])],
  [(32, .istore_n 1, 33, []), (33, .iinc 2 1, 36, []), (36, .goto (-32), 39, [4]), (39, .iload_n 1, 40, []), (40, .ireturn, 41, [])]]
noncomputable def z_r43 : List (List (List z_Row)) := [z_r43_0]
-- ClockParliament$Numbers.count()I
set_option maxRecDepth 20000 in
noncomputable def z_r44_0 : List (List z_Row) := [[(0, .aload_n 0, 1, []), (1, .getfield 9, 4, [0, 4, 1, 1065]), (4, .ireturn, 5, [])]]
noncomputable def z_r44 : List (List (List z_Row)) := [z_r44_0]
-- ClockParliament$Numbers.count()I
set_option maxRecDepth 20000 in
noncomputable def z_r45_0 : List (List z_Row) := [[(0, .aload_n 0, 1, []), (1, .getfield 9, 4, [0, 4, 1, 1065]), (4, .ireturn, 5, [])]]
noncomputable def z_r45 : List (List (List z_Row)) := [z_r45_0]
-- ClockParliament$Numbers.count()I
set_option maxRecDepth 20000 in
noncomputable def z_r46_0 : List (List z_Row) := [[(0, .aload_n 0, 1, []), (1, .getfield 9, 4, [0, 4, 1, 1065]), (4, .ireturn, 5, [])]]
noncomputable def z_r46 : List (List (List z_Row)) := [z_r46_0]
-- ClockParliament$Clocks.copyFrom(LClockParliament$Clocks;)V
set_option maxRecDepth 20000 in
noncomputable def z_r47_0 : List (List z_Row) := [[(0, .aload_n 0, 1, []), (1, .getfield 14, 4, [0, 1, 0, 1080]), (4, .aload_n 1, 5, []), (5, .getfield 14, 8, [0, 1, 0, 1080]), (8, .invokevirtual 95, 11, [0, 13, 1, 3086]), (11, .aload_n 0, 12, []), (12, .getfield 20, 15, [0, 1, 1, 1083]), (15, .aload_n 1, 16, [])],
  [(16, .getfield 20, 19, [0, 1, 1, 1083]), (19, .invokevirtual 95, 22, [0, 13, 1, 3086]), (22, .aload_n 0, 23, []), (23, .getfield 23, 26, [0, 1, 2, 1086]), (26, .aload_n 1, 27, []), (27, .getfield 23, 30, [0, 1, 2, 1086]), (30, .invokevirtual 95, 33, [0, 13, 1, 3086])],
  [(33, .aload_n 0, 34, []), (34, .getfield 26, 37, [0, 1, 3, 1089]), (37, .aload_n 1, 38, []), (38, .getfield 26, 41, [0, 1, 3, 1089]), (41, .invokevirtual 95, 44, [0, 13, 1, 3086]), (44, .aload_n 0, 45, []), (45, .getfield 29, 48, [0, 1, 4, 1091])],
  [(48, .aload_n 1, 49, []), (49, .getfield 29, 52, [0, 1, 4, 1091]), (52, .invokevirtual 95, 55, [0, 13, 1, 3086]), (55, .return_, 56, [])]]
noncomputable def z_r47 : List (List (List z_Row)) := [z_r47_0]
-- ClockParliament$Clocks.springFor(I)I
set_option maxRecDepth 20000 in
noncomputable def z_r48_0 : List (List z_Row) := [[(0, .iload_n 0, 1, []), (1, .bipush 10, 3, []), (3, .idiv, 4, []), (4, .iconst 1, 5, []), (5, .iadd, 6, []), (6, .ireturn, 7, [])]]
noncomputable def z_r48 : List (List (List z_Row)) := [z_r48_0]
-- ClockParliament$Clocks.secondsBetween(II)I
set_option maxRecDepth 20000 in
noncomputable def z_r49_0 : List (List z_Row) := [[(0, .iload_n 0, 1, []), (1, .iload_n 1, 2, []), (2, .isub, 3, []), (3, .invokestatic 99, 6, [1, 320, 1, 2178]), (6, .istore_n 2, 7, []), (7, .iload_n 2, 8, []), (8, .bipush 60, 10, []), (10, .iload_n 2, 11, []), (11, .isub, 12, []), (12, .invokestatic 104, 15, [1, 318, 2, 2181]), (15, .ireturn, 16, [])]]
noncomputable def z_r49 : List (List (List z_Row)) := [z_r49_0]
-- ClockParliament$Bills.<init>()V
set_option maxRecDepth 20000 in
noncomputable def z_r50_0 : List (List z_Row) := [[(0, .aload_n 0, 1, []), (1, .invokespecial 3, 4, [7, 0, 0, 1110]), (4, .aload_n 0, 5, []), (5, .new 9, 8, [0, 4, 1111, 1056, 1004]), (8, .dup, 9, []), (9, .bipush 10, 11, []), (11, .invokespecial 11, 14, [2, 0, 1, 1112]), (14, .putfield 14, 17, [0, 0, 0, 1113])],
  [(17, .aload_n 0, 18, []), (18, .new 9, 21, [0, 4, 1111, 1056, 1004]), (21, .dup, 22, []), (22, .bipush 10, 24, []), (24, .invokespecial 11, 27, [2, 0, 1, 1112]), (27, .putfield 20, 30, [0, 0, 1, 1116]), (30, .aload_n 0, 31, []), (31, .new 9, 34, [0, 4, 1111, 1056, 1004])],
  [(34, .dup, 35, []), (35, .bipush 10, 37, []), (37, .invokespecial 11, 40, [2, 0, 1, 1112]), (40, .putfield 23, 43, [0, 0, 2, 1119]), (43, .aload_n 0, 44, []), (44, .new 9, 47, [0, 4, 1111, 1056, 1004]), (47, .dup, 48, [])],
  [(48, .bipush 10, 50, []), (50, .invokespecial 11, 53, [2, 0, 1, 1112]), (53, .putfield 26, 56, [0, 0, 3, 1122]), (56, .aload_n 0, 57, []), (57, .new 9, 60, [0, 4, 1111, 1056, 1004]), (60, .dup, 61, []), (61, .bipush 10, 63, []), (63, .invokespecial 11, 66, [2, 0, 1, 1112])],
  [(66, .putfield 29, 69, [0, 0, 4, 1125]), (69, .aload_n 0, 70, []), (70, .new 9, 73, [0, 4, 1111, 1056, 1004]), (73, .dup, 74, []), (74, .bipush 10, 76, []), (76, .invokespecial 11, 79, [2, 0, 1, 1112]), (79, .putfield 32, 82, [0, 0, 5, 1127])],
  [(82, .return_, 83, [])]]
noncomputable def z_r50 : List (List (List z_Row)) := [z_r50_0]
-- ClockParliament$Bills.count()I
set_option maxRecDepth 20000 in
noncomputable def z_r51_0 : List (List z_Row) := [[(0, .aload_n 0, 1, []), (1, .getfield 14, 4, [0, 0, 0, 1113]), (4, .invokevirtual 35, 7, [0, 1, 0, 2204]), (7, .ireturn, 8, [])]]
noncomputable def z_r51 : List (List (List z_Row)) := [z_r51_0]
-- ClockParliament$Bills.has(I)Z
set_option maxRecDepth 20000 in
noncomputable def z_r52_0 : List (List z_Row) := [[(0, .aload_n 0, 1, []), (1, .getfield 14, 4, [0, 0, 0, 1113]), (4, .iload_n 1, 5, []), (5, .invokevirtual 39, 8, [0, 2, 1, 2213]), (8, .ireturn, 9, [])]]
noncomputable def z_r52 : List (List (List z_Row)) := [z_r52_0]
-- ClockParliament$Bills.isAdjourned(I)Z
set_option maxRecDepth 20000 in
noncomputable def z_r53_0 : List (List z_Row) := [[(0, .aload_n 0, 1, []), (1, .getfield 26, 4, [0, 0, 3, 1122]), (4, .iload_n 1, 5, []), (5, .invokevirtual 43, 8, [0, 3, 1, 2218]), (8, .ifCond .le 7, 11, [15]), (11, .iconst 1, 12, []), (12, .goto 4, 15, [16]), (15, .iconst 0, 16, [])],
  [(16, .ireturn, 17, [])]]
noncomputable def z_r53 : List (List (List z_Row)) := [z_r53_0]
-- ClockParliament$Bills.adjournedCount()I
set_option maxRecDepth 20000 in
noncomputable def z_r54_0 : List (List z_Row) := [[(0, .aload_n 0, 1, []), (1, .invokevirtual 47, 4, [0, 51, 0, 2224]), (4, .aload_n 0, 5, []), (5, .getfield 26, 8, [0, 0, 3, 1122]), (8, .iconst 0, 9, []), (9, .invokevirtual 48, 12, [0, 11, 1, 2225]), (12, .isub, 13, []), (13, .ireturn, 14, [])]]
noncomputable def z_r54 : List (List (List z_Row)) := [z_r54_0]
-- ClockParliament$Bills.table(III)I
set_option maxRecDepth 20000 in
noncomputable def z_r55_0 : List (List z_Row) := [[(0, .aload_n 0, 1, []), (1, .invokevirtual 47, 4, [0, 51, 0, 2224]), (4, .istore 4, 6, []), (6, .aload_n 0, 7, []), (7, .getfield 14, 10, [0, 0, 0, 1113]), (10, .iload_n 1, 11, []), (11, .invokevirtual 51, 14, [0, 7, 1, 3152]), (14, .aload_n 0, 15, []), (15, .getfield 20, 18, [0, 0, 1, 1116])],
  [(18, .iload_n 2, 19, []), (19, .invokevirtual 51, 22, [0, 7, 1, 3152]), (22, .aload_n 0, 23, []), (23, .getfield 23, 26, [0, 0, 2, 1119]), (26, .iload_n 3, 27, []), (27, .invokevirtual 51, 30, [0, 7, 1, 3152]), (30, .aload_n 0, 31, []), (31, .getfield 26, 34, [0, 0, 3, 1122])],
  [(34, .iconst 0, 35, []), (35, .invokevirtual 51, 38, [0, 7, 1, 3152]), (38, .aload_n 0, 39, []), (39, .getfield 29, 42, [0, 0, 4, 1125]), (42, .iconst 0, 43, []), (43, .invokevirtual 51, 46, [0, 7, 1, 3152]), (46, .aload_n 0, 47, []), (47, .getfield 32, 50, [0, 0, 5, 1127])],
  [(50, .iload 4, 52, []), (52, .invokevirtual 51, 55, [0, 7, 1, 3152]), (55, .iload 4, 57, []), (57, .ireturn, 58, [])]]
noncomputable def z_r55 : List (List (List z_Row)) := [z_r55_0]
-- ClockParliament$Bills.putOff(II)I
set_option maxRecDepth 20000 in
noncomputable def z_r56_0 : List (List z_Row) := [[(0, .aload_n 0, 1, []), (1, .getfield 26, 4, [0, 0, 3, 1122]), (4, .iload_n 1, 5, []), (5, .iload_n 2, 6, []), (6, .invokevirtual 54, 9, [0, 4, 2, 3157]), (9, .aload_n 0, 10, []), (10, .getfield 29, 13, [0, 0, 4, 1125]), (13, .iload_n 1, 14, []), (14, .iconst 1, 15, []), (15, .invokevirtual 58, 18, [0, 5, 2, 3158])],
  [(18, .aload_n 0, 19, []), (19, .getfield 32, 22, [0, 0, 5, 1127]), (22, .aload_n 0, 23, []), (23, .getfield 32, 26, [0, 0, 5, 1127]), (26, .iload_n 1, 27, []), (27, .invokevirtual 61, 30, [0, 10, 1, 3159]), (30, .invokevirtual 64, 33, [0, 8, 1, 3163])],
  [(33, .aload_n 0, 34, []), (34, .invokevirtual 67, 37, [0, 54, 0, 3164]), (37, .ireturn, 38, [])]]
noncomputable def z_r56 : List (List (List z_Row)) := [z_r56_0]
-- ClockParliament$Bills.remove(I)I
set_option maxRecDepth 20000 in
noncomputable def z_r57_0 : List (List z_Row) := [[(0, .aload_n 0, 1, []), (1, .getfield 14, 4, [0, 0, 0, 1113]), (4, .iload_n 1, 5, []), (5, .invokevirtual 64, 8, [0, 8, 1, 3163]), (8, .aload_n 0, 9, []), (9, .getfield 20, 12, [0, 0, 1, 1116]), (12, .iload_n 1, 13, []), (13, .invokevirtual 64, 16, [0, 8, 1, 3163])],
  [(16, .aload_n 0, 17, []), (17, .getfield 23, 20, [0, 0, 2, 1119]), (20, .iload_n 1, 21, []), (21, .invokevirtual 64, 24, [0, 8, 1, 3163]), (24, .aload_n 0, 25, []), (25, .getfield 26, 28, [0, 0, 3, 1122]), (28, .iload_n 1, 29, []), (29, .invokevirtual 64, 32, [0, 8, 1, 3163])],
  [(32, .aload_n 0, 33, []), (33, .getfield 29, 36, [0, 0, 4, 1125]), (36, .iload_n 1, 37, []), (37, .invokevirtual 64, 40, [0, 8, 1, 3163]), (40, .aload_n 0, 41, []), (41, .getfield 32, 44, [0, 0, 5, 1127]), (44, .aload_n 0, 45, []), (45, .getfield 32, 48, [0, 0, 5, 1127])],
  [(48, .iload_n 1, 49, []), (49, .invokevirtual 61, 52, [0, 10, 1, 3159]), (52, .invokevirtual 64, 55, [0, 8, 1, 3163]), (55, .aload_n 0, 56, []), (56, .getfield 32, 59, [0, 0, 5, 1127]), (59, .iload_n 1, 60, []), (60, .invokevirtual 70, 63, [0, 9, 1, 3169]), (63, .aload_n 0, 64, [])],
  [(64, .invokevirtual 47, 67, [0, 51, 0, 2224]), (67, .ireturn, 68, [])]]
noncomputable def z_r57 : List (List (List z_Row)) := [z_r57_0]
-- ClockParliament$Bills.passHour()I
set_option maxRecDepth 20000 in
noncomputable def z_r58_0 : List (List z_Row) := [[(0, .iconst 0, 1, []), (1, .istore_n 1, 2, []), (2, .iconst 0, 3, []), (3, .istore_n 2, 4, []), (4, .iload_n 2, 5, []), (5, .aload_n 0, 6, []), (6, .invokevirtual 47, 9, [0, 51, 0, 2224]), (9, .if_icmp .ge 46, 12, [55]), (12, .aload_n 0, 13, []), (13, .iload_n 2, 14, []), (14, .invokevirtual 73, 17, [0, 53, 1, 3211])],
  [(17, .ifCond .eq 32, 20, [49]), (20, .aload_n 0, 21, []), (21, .getfield 26, 24, [0, 0, 3, 1122]), (24, .iload_n 2, 25, []), (25, .iconst (-1), 26, []), (26, .invokevirtual 58, 29, [0, 5, 2, 3158]), (29, .aload_n 0, 30, []), (30, .iload_n 2, 31, []), (31, .invokevirtual 73, 34, [0, 53, 1, 3211])],
  [(34, .ifCond .ne 15, 37, [49]), (37, .aload_n 0, 38, []), (38, .getfield 32, 41, [0, 0, 5, 1127]), (41, .iload_n 1, 42, []), (42, .iload_n 2, 43, []), (43, .invokevirtual 76, 46, [0, 6, 2, 3212]), (46, .iinc 1 1, 49, [])],
  [(49, .iinc 2 1, 52, []), (52, .goto (-48), 55, [4]), (55, .iload_n 1, 56, []), (56, .ireturn, 57, [])]]
noncomputable def z_r58 : List (List (List z_Row)) := [z_r58_0]
-- ClockParliament$Bills.hoursToNext()I
set_option maxRecDepth 20000 in
noncomputable def z_r59_0 : List (List z_Row) := [[(0, .iconst 0, 1, []), (1, .istore_n 1, 2, []), (2, .iconst 0, 3, []), (3, .istore_n 2, 4, []), (4, .iload_n 2, 5, []), (5, .aload_n 0, 6, []), (6, .invokevirtual 47, 9, [0, 51, 0, 2224]), (9, .if_icmp .ge 42, 12, [51]), (12, .aload_n 0, 13, []), (13, .iload_n 2, 14, []), (14, .invokevirtual 73, 17, [0, 53, 1, 3211])],
  [(17, .ifCond .eq 28, 20, [45]), (20, .iload_n 1, 21, []), (21, .ifCond .eq 15, 24, [36]), (24, .aload_n 0, 25, []), (25, .getfield 26, 28, [0, 0, 3, 1122]), (28, .iload_n 2, 29, []), (29, .invokevirtual 43, 32, [0, 3, 1, 2218])],
  [(32, .iload_n 1, 33, []), (33, .if_icmp .ge 12, 36, [45]), (36, .aload_n 0, 37, []), (37, .getfield 26, 40, [0, 0, 3, 1122]), (40, .iload_n 2, 41, []), (41, .invokevirtual 43, 44, [0, 3, 1, 2218]), (44, .istore_n 1, 45, []), (45, .iinc 2 1, 48, [])],
  [(48, .goto (-44), 51, [4]), (51, .iload_n 1, 52, []), (52, .ireturn, 53, [])]]
noncomputable def z_r59 : List (List (List z_Row)) := [z_r59_0]
-- ClockParliament$Bills.billAfter(II)I
set_option maxRecDepth 20000 in
noncomputable def z_r60_0 : List (List z_Row) := [[(0, .iload_n 2, 1, []), (1, .ifCond .ge 5, 4, [6]), (4, .iconst (-1), 5, []), (5, .ireturn, 6, []), (6, .iconst 0, 7, []), (7, .istore_n 3, 8, []), (8, .iload_n 3, 9, []), (9, .aload_n 0, 10, []), (10, .invokevirtual 47, 13, [0, 51, 0, 2224]), (13, .if_icmp .ge 21, 16, [34])],
  [(16, .aload_n 0, 17, []), (17, .iload_n 1, 18, []), (18, .iload_n 3, 19, []), (19, .invokevirtual 79, 22, [0, 61, 2, 4133]), (22, .iload_n 2, 23, []), (23, .if_icmp .ne 5, 26, [28]), (26, .iload_n 3, 27, []), (27, .ireturn, 28, []), (28, .iinc 3 1, 31, []), (31, .goto (-23), 34, [8])],
  [(34, .iconst (-1), 35, []), (35, .ireturn, 36, [])]]
noncomputable def z_r60 : List (List (List z_Row)) := [z_r60_0]
-- ClockParliament$Bills.placeAfter(II)I
set_option maxRecDepth 20000 in
noncomputable def z_r61_0 : List (List z_Row) := [[(0, .aload_n 0, 1, []), (1, .getfield 26, 4, [0, 0, 3, 1122]), (4, .iload_n 2, 5, []), (5, .invokevirtual 43, 8, [0, 3, 1, 2218]), (8, .iload_n 1, 9, []), (9, .if_icmp .le 5, 12, [14]), (12, .iconst (-1), 13, []), (13, .ireturn, 14, []), (14, .iconst 0, 15, []), (15, .istore_n 3, 16, [])],
  [(16, .iconst 0, 17, []), (17, .istore 4, 19, []), (19, .iload 4, 21, []), (21, .aload_n 0, 22, []), (22, .invokevirtual 47, 25, [0, 51, 0, 2224]), (25, .if_icmp .ge 44, 28, [69]), (28, .aload_n 0, 29, []), (29, .iload 4, 31, []), (31, .invokevirtual 73, 34, [0, 53, 1, 3211])],
  [(34, .ifCond .eq 29, 37, [63]), (37, .aload_n 0, 38, []), (38, .getfield 26, 41, [0, 0, 3, 1122]), (41, .iload 4, 43, []), (43, .invokevirtual 43, 46, [0, 3, 1, 2218]), (46, .iload_n 1, 47, []), (47, .if_icmp .gt 16, 50, [63])],
  [(50, .aload_n 0, 51, []), (51, .iload 4, 53, []), (53, .iload_n 2, 54, []), (54, .invokevirtual 83, 57, [0, 62, 2, 4137]), (57, .ifCond .eq 6, 60, [63]), (60, .iinc 3 1, 63, []), (63, .iinc 4 1, 66, [])],
  [(66, .goto (-47), 69, [19]), (69, .aload_n 0, 70, []), (70, .iload_n 2, 71, []), (71, .invokevirtual 73, 74, [0, 53, 1, 3211]), (74, .ifCond .eq 7, 77, [81]), (77, .iload_n 3, 78, []), (78, .goto 13, 81, [91])],
  [(81, .iload_n 3, 82, []), (82, .aload_n 0, 83, []), (83, .getfield 32, 86, [0, 0, 5, 1127]), (86, .iload_n 2, 87, []), (87, .invokevirtual 61, 90, [0, 10, 1, 3159]), (90, .iadd, 91, []), (91, .ireturn, 92, [])]]
noncomputable def z_r61 : List (List (List z_Row)) := [z_r61_0]
-- ClockParliament$Bills.isAheadAsBack(II)Z
set_option maxRecDepth 20000 in
noncomputable def z_r62_0 : List (List z_Row) := [[(0, .aload_n 0, 1, []), (1, .getfield 26, 4, [0, 0, 3, 1122]), (4, .iload_n 1, 5, []), (5, .invokevirtual 43, 8, [0, 3, 1, 2218]), (8, .aload_n 0, 9, []), (9, .getfield 26, 12, [0, 0, 3, 1122]), (12, .iload_n 2, 13, []), (13, .invokevirtual 43, 16, [0, 3, 1, 2218])],
  [(16, .isub, 17, []), (17, .istore_n 3, 18, []), (18, .iload_n 3, 19, []), (19, .ifCond .gt 12, 22, [31]), (22, .iload_n 3, 23, []), (23, .ifCond .ne 12, 26, [35]), (26, .iload_n 1, 27, []), (27, .iload_n 2, 28, []), (28, .if_icmp .ge 7, 31, [35]), (31, .iconst 1, 32, [])],
  [(32, .goto 4, 35, [36]), (35, .iconst 0, 36, []), (36, .ireturn, 37, [])]]
noncomputable def z_r62 : List (List (List z_Row)) := [z_r62_0]
-- ClockParliament$Bills.copyFrom(LClockParliament$Bills;)V
set_option maxRecDepth 20000 in
noncomputable def z_r63_0 : List (List z_Row) := [[(0, .aload_n 0, 1, []), (1, .getfield 14, 4, [0, 0, 0, 1113]), (4, .aload_n 1, 5, []), (5, .getfield 14, 8, [0, 0, 0, 1113]), (8, .invokevirtual 87, 11, [0, 13, 1, 3094]), (11, .aload_n 0, 12, []), (12, .getfield 20, 15, [0, 0, 1, 1116]), (15, .aload_n 1, 16, [])],
  [(16, .getfield 20, 19, [0, 0, 1, 1116]), (19, .invokevirtual 87, 22, [0, 13, 1, 3094]), (22, .aload_n 0, 23, []), (23, .getfield 23, 26, [0, 0, 2, 1119]), (26, .aload_n 1, 27, []), (27, .getfield 23, 30, [0, 0, 2, 1119]), (30, .invokevirtual 87, 33, [0, 13, 1, 3094])],
  [(33, .aload_n 0, 34, []), (34, .getfield 26, 37, [0, 0, 3, 1122]), (37, .aload_n 1, 38, []), (38, .getfield 26, 41, [0, 0, 3, 1122]), (41, .invokevirtual 87, 44, [0, 13, 1, 3094]), (44, .aload_n 0, 45, []), (45, .getfield 29, 48, [0, 0, 4, 1125])],
  [(48, .aload_n 1, 49, []), (49, .getfield 29, 52, [0, 0, 4, 1125]), (52, .invokevirtual 87, 55, [0, 13, 1, 3094]), (55, .aload_n 0, 56, []), (56, .getfield 32, 59, [0, 0, 5, 1127]), (59, .aload_n 1, 60, []), (60, .getfield 32, 63, [0, 0, 5, 1127]), (63, .invokevirtual 87, 66, [0, 13, 1, 3094])],
  [(66, .return_, 67, [])]]
noncomputable def z_r63 : List (List (List z_Row)) := [z_r63_0]
-- ClockParliament$House.<init>()V
set_option maxRecDepth 20000 in
noncomputable def z_r64_0 : List (List z_Row) := [[(0, .aload_n 0, 1, []), (1, .invokespecial 3, 4, [7, 0, 0, 1048]), (4, .aload_n 0, 5, []), (5, .new 9, 8, [0, 1, 1049, 1050, 1003]), (8, .dup, 9, []), (9, .invokespecial 11, 12, [2, 26, 0, 1051]), (12, .putfield 12, 15, [0, 3, 0, 1143]), (15, .aload_n 0, 16, [])],
  [(16, .new 18, 19, [0, 0, 1105, 1106, 1006]), (19, .dup, 20, []), (20, .invokespecial 20, 23, [3, 50, 0, 1107]), (23, .putfield 21, 26, [0, 3, 1, 1145]), (26, .aload_n 0, 27, []), (27, .iconst 0, 28, []), (28, .putfield 25, 31, [0, 3, 2, 1147]), (31, .aload_n 0, 32, [])],
  [(32, .iconst 0, 33, []), (33, .putfield 29, 36, [0, 3, 3, 1149]), (36, .aload_n 0, 37, []), (37, .iconst 0, 38, []), (38, .putfield 32, 41, [0, 3, 4, 1151]), (41, .aload_n 0, 42, []), (42, .iconst 0, 43, []), (43, .putfield 35, 46, [0, 3, 5, 1153]), (46, .aload_n 0, 47, []), (47, .iconst 0, 48, [])],
  [(48, .putfield 38, 51, [0, 3, 6, 1155]), (51, .aload_n 0, 52, []), (52, .iconst 0, 53, []), (53, .putfield 41, 56, [0, 3, 7, 1157]), (56, .return_, 57, [])]]
noncomputable def z_r64 : List (List (List z_Row)) := [z_r64_0]
-- ClockParliament$House.copyFrom(LClockParliament$House;)V
set_option maxRecDepth 20000 in
noncomputable def z_r65_0 : List (List z_Row) := [[(0, .aload_n 0, 1, []), (1, .getfield 12, 4, [0, 3, 0, 1143]), (4, .aload_n 1, 5, []), (5, .getfield 12, 8, [0, 3, 0, 1143]), (8, .invokevirtual 44, 11, [0, 47, 1, 3082]), (11, .aload_n 0, 12, []), (12, .getfield 21, 15, [0, 3, 1, 1145]), (15, .aload_n 1, 16, [])],
  [(16, .getfield 21, 19, [0, 3, 1, 1145]), (19, .invokevirtual 48, 22, [0, 63, 1, 3090]), (22, .aload_n 0, 23, []), (23, .aload_n 1, 24, []), (24, .getfield 25, 27, [0, 3, 2, 1147]), (27, .putfield 25, 30, [0, 3, 2, 1147]), (30, .aload_n 0, 31, []), (31, .aload_n 1, 32, [])],
  [(32, .getfield 29, 35, [0, 3, 3, 1149]), (35, .putfield 29, 38, [0, 3, 3, 1149]), (38, .aload_n 0, 39, []), (39, .aload_n 1, 40, []), (40, .getfield 32, 43, [0, 3, 4, 1151]), (43, .putfield 32, 46, [0, 3, 4, 1151]), (46, .aload_n 0, 47, []), (47, .aload_n 1, 48, [])],
  [(48, .getfield 35, 51, [0, 3, 5, 1153]), (51, .putfield 35, 54, [0, 3, 5, 1153]), (54, .aload_n 0, 55, []), (55, .aload_n 1, 56, []), (56, .getfield 38, 59, [0, 3, 6, 1155]), (59, .putfield 38, 62, [0, 3, 6, 1155]), (62, .aload_n 0, 63, []), (63, .aload_n 1, 64, [])],
  [(64, .getfield 41, 67, [0, 3, 7, 1157]), (67, .putfield 41, 70, [0, 3, 7, 1157]), (70, .return_, 71, [])]]
noncomputable def z_r65 : List (List (List z_Row)) := [z_r65_0]
-- ClockParliament$House.refuses(LClockParliament$Order;LClockParliament$Refusal;)Z
set_option maxRecDepth 20000 in
noncomputable def z_r66_0 : List (List z_Row) := [[(0, .getstatic 51, 3, [2, 2107]), (3, .aload_n 1, 4, []), (4, .getfield 57, 7, [0, 5, 0, 2004]), (7, .invokevirtual 63, 10, [5, 328, 0, 2109]), (10, .iaload, 11, []), (11, .tableswitch 209 1 9 #[49, 63, 83, 97, 111, 125, 143, 157, 177], 60, [220, 60, 74, 94, 108, 122, 136, 154, 168, 188])],
  [],
  [],
  [(60, .aload_n 0, 61, []), (61, .aload_n 1, 62, []), (62, .getfield 69, 65, [0, 5, 1, 2006])],
  [(65, .aload_n 1, 66, []), (66, .getfield 72, 69, [0, 5, 2, 2008]), (69, .aload_n 2, 70, []), (70, .invokevirtual 75, 73, [0, 67, 3, 2115]), (73, .ireturn, 74, []), (74, .aload_n 2, 75, []), (75, .aload_n 0, 76, []), (76, .getfield 12, 79, [0, 3, 0, 1143]), (79, .aload_n 1, 80, [])],
  [(80, .getfield 69, 83, [0, 5, 1, 2006]), (83, .invokevirtual 79, 86, [0, 28, 1, 2140]), (86, .aload_n 1, 87, []), (87, .getfield 69, 90, [0, 5, 1, 2006]), (90, .invokevirtual 83, 93, [0, 20, 2, 2148]), (93, .ireturn, 94, []), (94, .aload_n 0, 95, []), (95, .aload_n 1, 96, [])],
  [(96, .getfield 69, 99, [0, 5, 1, 2006]), (99, .aload_n 1, 100, []), (100, .getfield 72, 103, [0, 5, 2, 2008]), (103, .aload_n 2, 104, []), (104, .invokevirtual 89, 107, [0, 68, 3, 2152]), (107, .ireturn, 108, []), (108, .aload_n 0, 109, []), (109, .aload_n 1, 110, []), (110, .getfield 69, 113, [0, 5, 1, 2006])],
  [(113, .aload_n 1, 114, []), (114, .getfield 72, 117, [0, 5, 2, 2008]), (117, .aload_n 2, 118, []), (118, .invokevirtual 92, 121, [0, 69, 3, 2162]), (121, .ireturn, 122, []), (122, .aload_n 0, 123, []), (123, .aload_n 1, 124, []), (124, .getfield 69, 127, [0, 5, 1, 2006]), (127, .aload_n 1, 128, [])],
  [(128, .getfield 72, 131, [0, 5, 2, 2008]), (131, .aload_n 2, 132, []), (132, .invokevirtual 95, 135, [0, 70, 3, 2185]), (135, .ireturn, 136, []), (136, .aload_n 0, 137, []), (137, .aload_n 1, 138, []), (138, .getfield 69, 141, [0, 5, 1, 2006]), (141, .aload_n 1, 142, []), (142, .getfield 72, 145, [0, 5, 2, 2008])],
  [(145, .aload_n 1, 146, []), (146, .getfield 98, 149, [0, 5, 3, 2010]), (149, .aload_n 2, 150, []), (150, .invokevirtual 101, 153, [0, 71, 4, 2196]), (153, .ireturn, 154, []), (154, .aload_n 0, 155, []), (155, .aload_n 1, 156, []), (156, .getfield 69, 159, [0, 5, 1, 2006]), (159, .aload_n 1, 160, [])],
  [(160, .getfield 72, 163, [0, 5, 2, 2008]), (163, .aload_n 2, 164, []), (164, .invokevirtual 105, 167, [0, 72, 3, 2205]), (167, .ireturn, 168, []), (168, .aload_n 2, 169, []), (169, .aload_n 0, 170, []), (170, .getfield 21, 173, [0, 3, 1, 1145]), (173, .aload_n 1, 174, []), (174, .getfield 69, 177, [0, 5, 1, 2006])],
  [(177, .invokevirtual 108, 180, [0, 52, 1, 2209]), (180, .aload_n 1, 181, []), (181, .getfield 69, 184, [0, 5, 1, 2006]), (184, .invokevirtual 83, 187, [0, 20, 2, 2148]), (187, .ireturn, 188, []), (188, .aload_n 2, 189, []), (189, .aload_n 0, 190, []), (190, .getfield 21, 193, [0, 3, 1, 1145])],
  [(193, .getfield 109, 196, [0, 0, 5, 1128]), (196, .invokevirtual 113, 199, [0, 1, 0, 2219]), (199, .ifCond .ne 7, 202, [206]), (202, .iconst 1, 203, []), (203, .goto 4, 206, [207]), (206, .iconst 0, 207, []), (207, .bipush 9, 209, [])],
  [(209, .aload_n 0, 210, []), (210, .getfield 21, 213, [0, 3, 1, 1145]), (213, .invokevirtual 118, 216, [0, 54, 0, 2220]), (216, .invokevirtual 121, 219, [0, 19, 3, 2139]), (219, .ireturn, 220, []), (220, .aload_n 2, 221, []), (221, .aload_n 1, 222, []), (222, .getfield 69, 225, [0, 5, 1, 2006])],
  [(225, .iconst 1, 226, []), (226, .bipush 24, 228, []), (228, .invokevirtual 125, 231, [0, 21, 3, 2119]), (231, .ireturn, 232, [])]]
noncomputable def z_r66 : List (List (List z_Row)) := [z_r66_0]
-- ClockParliament$House.refusesClock(IILClockParliament$Refusal;)Z
set_option maxRecDepth 20000 in
noncomputable def z_r67_0 : List (List z_Row) := [[(0, .aload_n 3, 1, []), (1, .iload_n 1, 2, []), (2, .iconst 0, 3, []), (3, .bipush 59, 5, []), (5, .invokevirtual 125, 8, [0, 21, 3, 2119]), (8, .ifCond .ne 40, 11, [48]), (11, .aload_n 3, 12, []), (12, .iload_n 2, 13, []), (13, .iconst 0, 14, []), (14, .iconst 3, 15, []), (15, .invokevirtual 125, 18, [0, 21, 3, 2119])],
  [(18, .ifCond .ne 30, 21, [48]), (21, .aload_n 3, 22, []), (22, .aload_n 0, 23, []), (23, .getfield 12, 26, [0, 3, 0, 1143]), (26, .invokevirtual 129, 29, [0, 27, 0, 2131]), (29, .bipush 8, 31, []), (31, .if_icmp .lt 7, 34, [38])],
  [(34, .iconst 1, 35, []), (35, .goto 4, 38, [39]), (38, .iconst 0, 39, []), (39, .iconst 1, 40, []), (40, .bipush 8, 42, []), (42, .invokevirtual 121, 45, [0, 19, 3, 2139]), (45, .ifCond .eq 7, 48, [52])],
  [(48, .iconst 1, 49, []), (49, .goto 4, 52, [53]), (52, .iconst 0, 53, []), (53, .ireturn, 54, [])]]
noncomputable def z_r67 : List (List (List z_Row)) := [z_r67_0]
-- ClockParliament$House.refusesKey(IILClockParliament$Refusal;)Z
set_option maxRecDepth 20000 in
noncomputable def z_r68_0 : List (List z_Row) := [[(0, .aload_n 3, 1, []), (1, .aload_n 0, 2, []), (2, .getfield 12, 5, [0, 3, 0, 1143]), (5, .getfield 130, 8, [0, 1, 4, 1092]), (8, .iload_n 1, 9, []), (9, .invokevirtual 133, 12, [0, 2, 1, 2156]), (12, .iload_n 1, 13, []), (13, .invokevirtual 83, 16, [0, 20, 2, 2148])],
  [(16, .ifCond .ne 61, 19, [77]), (19, .aload_n 3, 20, []), (20, .iload_n 2, 21, []), (21, .iconst (-1), 22, []), (22, .if_icmp .eq 14, 25, [36]), (25, .aload_n 0, 26, []), (26, .getfield 12, 29, [0, 3, 0, 1143]), (29, .iload_n 2, 30, []), (30, .invokevirtual 79, 33, [0, 28, 1, 2140])],
  [(33, .ifCond .eq 7, 36, [40]), (36, .iconst 1, 37, []), (37, .goto 4, 40, [41]), (40, .iconst 0, 41, []), (41, .iload_n 2, 42, []), (42, .invokevirtual 83, 45, [0, 20, 2, 2148]), (45, .ifCond .ne 32, 48, [77])],
  [(48, .aload_n 3, 49, []), (49, .aload_n 0, 50, []), (50, .getfield 12, 53, [0, 3, 0, 1143]), (53, .getfield 130, 56, [0, 1, 4, 1092]), (56, .iload_n 1, 57, []), (57, .invokevirtual 134, 60, [0, 3, 1, 2157]), (60, .iload_n 2, 61, []), (61, .if_icmp .ne 7, 64, [68])],
  [(64, .iconst 1, 65, []), (65, .goto 4, 68, [69]), (68, .iconst 0, 69, []), (69, .iconst 4, 70, []), (70, .iload_n 2, 71, []), (71, .invokevirtual 121, 74, [0, 19, 3, 2139]), (74, .ifCond .eq 7, 77, [81]), (77, .iconst 1, 78, []), (78, .goto 4, 81, [82])],
  [(81, .iconst 0, 82, []), (82, .ireturn, 83, [])]]
noncomputable def z_r68 : List (List (List z_Row)) := [z_r68_0]
-- ClockParliament$House.refusesWinding(IILClockParliament$Refusal;)Z
set_option maxRecDepth 20000 in
noncomputable def z_r69_0 : List (List z_Row) := [[(0, .aload_n 3, 1, []), (1, .aload_n 0, 2, []), (2, .getfield 12, 5, [0, 3, 0, 1143]), (5, .getfield 130, 8, [0, 1, 4, 1092]), (8, .iload_n 1, 9, []), (9, .invokevirtual 133, 12, [0, 2, 1, 2156]), (12, .iload_n 1, 13, []), (13, .invokevirtual 83, 16, [0, 20, 2, 2148])],
  [(16, .ifCond .ne 19, 19, [35]), (19, .aload_n 3, 20, []), (20, .aload_n 0, 21, []), (21, .getfield 12, 24, [0, 3, 0, 1143]), (24, .iload_n 2, 25, []), (25, .invokevirtual 79, 28, [0, 28, 1, 2140]), (28, .iload_n 2, 29, []), (29, .invokevirtual 83, 32, [0, 20, 2, 2148])],
  [(32, .ifCond .eq 5, 35, [37]), (35, .iconst 1, 36, []), (36, .ireturn, 37, []), (37, .aload_n 0, 38, []), (38, .getfield 12, 41, [0, 3, 0, 1143]), (41, .getfield 130, 44, [0, 1, 4, 1092]), (44, .iload_n 1, 45, []), (45, .invokevirtual 134, 48, [0, 3, 1, 2157])],
  [(48, .istore 4, 50, []), (50, .aload_n 3, 51, []), (51, .iload 4, 53, []), (53, .iconst (-1), 54, []), (54, .if_icmp .ne 7, 57, [61]), (57, .iconst 1, 58, []), (58, .goto 4, 61, [62]), (61, .iconst 0, 62, []), (62, .iconst 5, 63, []), (63, .iload_n 1, 64, [])],
  [(64, .invokevirtual 121, 67, [0, 19, 3, 2139]), (67, .ifCond .ne 71, 70, [138]), (70, .aload_n 3, 71, []), (71, .aload_n 0, 72, []), (72, .getfield 12, 75, [0, 3, 0, 1143]), (75, .iload 4, 77, []), (77, .iload_n 2, 78, []), (78, .invokevirtual 138, 81, [0, 31, 2, 2166])],
  [(81, .ifCond .ne 7, 84, [88]), (84, .iconst 1, 85, []), (85, .goto 4, 88, [89]), (88, .iconst 0, 89, []), (89, .bipush 10, 91, []), (91, .aload_n 0, 92, []), (92, .getfield 12, 95, [0, 3, 0, 1143]), (95, .iload 4, 97, [])],
  [(97, .iload_n 2, 98, []), (98, .invokevirtual 142, 101, [0, 30, 2, 2184]), (101, .invokevirtual 121, 104, [0, 19, 3, 2139]), (104, .ifCond .ne 34, 107, [138]), (107, .aload_n 3, 108, []), (108, .aload_n 0, 109, []), (109, .getfield 12, 112, [0, 3, 0, 1143])],
  [(112, .getfield 146, 115, [0, 1, 1, 1084]), (115, .iload_n 2, 116, []), (116, .invokevirtual 134, 119, [0, 3, 1, 2157]), (119, .bipush 24, 121, []), (121, .if_icmp .ne 7, 124, [128]), (124, .iconst 1, 125, []), (125, .goto 4, 128, [129])],
  [(128, .iconst 0, 129, []), (129, .iconst 4, 130, []), (130, .bipush 24, 132, []), (132, .invokevirtual 121, 135, [0, 19, 3, 2139]), (135, .ifCond .eq 7, 138, [142]), (138, .iconst 1, 139, []), (139, .goto 4, 142, [143]), (142, .iconst 0, 143, []), (143, .ireturn, 144, [])]]
noncomputable def z_r69 : List (List (List z_Row)) := [z_r69_0]
-- ClockParliament$House.refusesMove(IILClockParliament$Refusal;)Z
set_option maxRecDepth 20000 in
noncomputable def z_r70_0 : List (List z_Row) := [[(0, .aload_n 0, 1, []), (1, .getfield 12, 4, [0, 3, 0, 1143]), (4, .getfield 146, 7, [0, 1, 1, 1084]), (7, .iload_n 1, 8, []), (8, .invokevirtual 134, 11, [0, 3, 1, 2157]), (11, .istore 4, 13, []), (13, .aload_n 3, 14, []), (14, .aload_n 0, 15, []), (15, .getfield 12, 18, [0, 3, 0, 1143])],
  [(18, .iload_n 1, 19, []), (19, .invokevirtual 79, 22, [0, 28, 1, 2140]), (22, .iload_n 1, 23, []), (23, .invokevirtual 83, 26, [0, 20, 2, 2148]), (26, .ifCond .ne 67, 29, [93]), (29, .aload_n 3, 30, []), (30, .iload_n 2, 31, []), (31, .iconst 1, 32, [])],
  [(32, .bipush 59, 34, []), (34, .invokevirtual 125, 37, [0, 21, 3, 2119]), (37, .ifCond .ne 56, 40, [93]), (40, .aload_n 3, 41, []), (41, .aload_n 0, 42, []), (42, .getfield 12, 45, [0, 3, 0, 1143]), (45, .iload_n 1, 46, []), (46, .invokevirtual 149, 49, [0, 29, 1, 2189])],
  [(49, .bipush 7, 51, []), (51, .aload_n 0, 52, []), (52, .getfield 12, 55, [0, 3, 0, 1143]), (55, .getfield 152, 58, [0, 1, 0, 1081]), (58, .iload_n 1, 59, []), (59, .invokevirtual 134, 62, [0, 3, 1, 2157]), (62, .invokevirtual 121, 65, [0, 19, 3, 2139])],
  [(65, .ifCond .ne 28, 68, [93]), (68, .aload_n 3, 69, []), (69, .iload_n 2, 70, []), (70, .invokestatic 155, 73, [1, 48, 1, 2193]), (73, .iload 4, 75, []), (75, .if_icmp .le 7, 78, [82]), (78, .iconst 1, 79, []), (79, .goto 4, 82, [83])],
  [(82, .iconst 0, 83, []), (83, .bipush 6, 85, []), (85, .iload 4, 87, []), (87, .invokevirtual 121, 90, [0, 19, 3, 2139]), (90, .ifCond .eq 7, 93, [97]), (93, .iconst 1, 94, []), (94, .goto 4, 97, [98])],
  [(97, .iconst 0, 98, []), (98, .ireturn, 99, [])]]
noncomputable def z_r70 : List (List (List z_Row)) := [z_r70_0]
-- ClockParliament$House.refusesBill(IIILClockParliament$Refusal;)Z
set_option maxRecDepth 20000 in
noncomputable def z_r71_0 : List (List z_Row) := [[(0, .aload 4, 2, []), (2, .aload_n 0, 3, []), (3, .getfield 12, 6, [0, 3, 0, 1143]), (6, .iload_n 1, 7, []), (7, .invokevirtual 79, 10, [0, 28, 1, 2140]), (10, .iload_n 1, 11, []), (11, .invokevirtual 83, 14, [0, 20, 2, 2148]), (14, .ifCond .ne 84, 17, [98])],
  [(17, .aload 4, 19, []), (19, .iload_n 2, 20, []), (20, .iconst 0, 21, []), (21, .bipush 59, 23, []), (23, .invokevirtual 125, 26, [0, 21, 3, 2119]), (26, .ifCond .ne 72, 29, [98]), (29, .aload 4, 31, []), (31, .iload_n 3, 32, [])],
  [(32, .iconst 1, 33, []), (33, .bipush 9, 35, []), (35, .invokevirtual 125, 38, [0, 21, 3, 2119]), (38, .ifCond .ne 60, 41, [98]), (41, .aload 4, 43, []), (43, .aload_n 0, 44, []), (44, .getfield 12, 47, [0, 3, 0, 1143]), (47, .iload_n 1, 48, [])],
  [(48, .invokevirtual 149, 51, [0, 29, 1, 2189]), (51, .bipush 7, 53, []), (53, .aload_n 0, 54, []), (54, .getfield 12, 57, [0, 3, 0, 1143]), (57, .getfield 152, 60, [0, 1, 0, 1081]), (60, .iload_n 1, 61, []), (61, .invokevirtual 134, 64, [0, 3, 1, 2157])],
  [(64, .invokevirtual 121, 67, [0, 19, 3, 2139]), (67, .ifCond .ne 31, 70, [98]), (70, .aload 4, 72, []), (72, .aload_n 0, 73, []), (73, .getfield 21, 76, [0, 3, 1, 1145]), (76, .invokevirtual 158, 79, [0, 51, 0, 2200]), (79, .bipush 10, 81, [])],
  [(81, .if_icmp .lt 7, 84, [88]), (84, .iconst 1, 85, []), (85, .goto 4, 88, [89]), (88, .iconst 0, 89, []), (89, .iconst 1, 90, []), (90, .bipush 10, 92, []), (92, .invokevirtual 121, 95, [0, 19, 3, 2139]), (95, .ifCond .eq 7, 98, [102])],
  [(98, .iconst 1, 99, []), (99, .goto 4, 102, [103]), (102, .iconst 0, 103, []), (103, .ireturn, 104, [])]]
noncomputable def z_r71 : List (List (List z_Row)) := [z_r71_0]
-- ClockParliament$House.refusesAdjourning(IILClockParliament$Refusal;)Z
set_option maxRecDepth 20000 in
noncomputable def z_r72_0 : List (List z_Row) := [[(0, .aload_n 3, 1, []), (1, .aload_n 0, 2, []), (2, .getfield 21, 5, [0, 3, 1, 1145]), (5, .iload_n 1, 6, []), (6, .invokevirtual 108, 9, [0, 52, 1, 2209]), (9, .iload_n 1, 10, []), (10, .invokevirtual 83, 13, [0, 20, 2, 2148]), (13, .ifCond .ne 42, 16, [55])],
  [(16, .aload_n 3, 17, []), (17, .iload_n 2, 18, []), (18, .iconst 1, 19, []), (19, .bipush 12, 21, []), (21, .invokevirtual 125, 24, [0, 21, 3, 2119]), (24, .ifCond .ne 31, 27, [55]), (27, .aload_n 3, 28, []), (28, .aload_n 0, 29, []), (29, .getfield 21, 32, [0, 3, 1, 1145])],
  [(32, .iload_n 1, 33, []), (33, .invokevirtual 159, 36, [0, 53, 1, 2214]), (36, .bipush 8, 38, []), (38, .aload_n 0, 39, []), (39, .getfield 21, 42, [0, 3, 1, 1145]), (42, .getfield 162, 45, [0, 0, 3, 1123]), (45, .iload_n 1, 46, []), (46, .invokevirtual 134, 49, [0, 3, 1, 2157])],
  [(49, .invokevirtual 121, 52, [0, 19, 3, 2139]), (52, .ifCond .eq 7, 55, [59]), (55, .iconst 1, 56, []), (56, .goto 4, 59, [60]), (59, .iconst 0, 60, []), (60, .ireturn, 61, [])]]
noncomputable def z_r72 : List (List (List z_Row)) := [z_r72_0]
-- ClockParliament$House.carryOut(LClockParliament$Order;)I
set_option maxRecDepth 20000 in
noncomputable def z_r73_0 : List (List z_Row) := [[(0, .getstatic 51, 3, [2, 2107]), (3, .aload_n 1, 4, []), (4, .getfield 57, 7, [0, 5, 0, 2004]), (7, .invokevirtual 63, 10, [5, 328, 0, 2109]), (10, .iaload, 11, []), (11, .tableswitch 181 1 9 #[49, 65, 74, 90, 112, 128, 148, 164, 176], 60, [192, 60, 76, 85, 101, 123, 139, 159, 175, 187])],
  [],
  [],
  [(60, .aload_n 0, 61, []), (61, .getfield 12, 64, [0, 3, 0, 1143])],
  [(64, .aload_n 1, 65, []), (65, .getfield 69, 68, [0, 5, 1, 2006]), (68, .aload_n 1, 69, []), (69, .getfield 72, 72, [0, 5, 2, 2008]), (72, .invokevirtual 165, 75, [0, 33, 2, 3099]), (75, .ireturn, 76, []), (76, .aload_n 0, 77, []), (77, .aload_n 1, 78, []), (78, .getfield 69, 81, [0, 5, 1, 2006])],
  [(81, .invokevirtual 168, 84, [0, 74, 1, 3104]), (84, .ireturn, 85, []), (85, .aload_n 0, 86, []), (86, .getfield 12, 89, [0, 3, 0, 1143]), (89, .aload_n 1, 90, []), (90, .getfield 69, 93, [0, 5, 1, 2006]), (93, .aload_n 1, 94, []), (94, .getfield 72, 97, [0, 5, 2, 2008])],
  [(97, .invokevirtual 171, 100, [0, 35, 2, 3121]), (100, .ireturn, 101, []), (101, .aload_n 0, 102, []), (102, .dup, 103, []), (103, .getfield 41, 106, [0, 3, 7, 1157]), (106, .iconst 1, 107, []), (107, .iadd, 108, []), (108, .putfield 41, 111, [0, 3, 7, 1157]), (111, .aload_n 0, 112, [])],
  [(112, .getfield 12, 115, [0, 3, 0, 1143]), (115, .aload_n 1, 116, []), (116, .getfield 72, 119, [0, 5, 2, 2008]), (119, .invokevirtual 174, 122, [0, 36, 1, 3129]), (122, .ireturn, 123, []), (123, .aload_n 0, 124, []), (124, .getfield 12, 127, [0, 3, 0, 1143]), (127, .aload_n 1, 128, [])],
  [(128, .getfield 69, 131, [0, 5, 1, 2006]), (131, .aload_n 1, 132, []), (132, .getfield 72, 135, [0, 5, 2, 2008]), (135, .invokevirtual 177, 138, [0, 37, 2, 3133]), (138, .ireturn, 139, []), (139, .aload_n 0, 140, []), (140, .getfield 21, 143, [0, 3, 1, 1145]), (143, .aload_n 1, 144, [])],
  [(144, .getfield 69, 147, [0, 5, 1, 2006]), (147, .aload_n 1, 148, []), (148, .getfield 72, 151, [0, 5, 2, 2008]), (151, .aload_n 1, 152, []), (152, .getfield 98, 155, [0, 5, 3, 2010]), (155, .invokevirtual 180, 158, [0, 55, 3, 3148]), (158, .ireturn, 159, []), (159, .aload_n 0, 160, [])],
  [(160, .getfield 21, 163, [0, 3, 1, 1145]), (163, .aload_n 1, 164, []), (164, .getfield 69, 167, [0, 5, 1, 2006]), (167, .aload_n 1, 168, []), (168, .getfield 72, 171, [0, 5, 2, 2008]), (171, .invokevirtual 184, 174, [0, 56, 2, 3153]), (174, .ireturn, 175, []), (175, .aload_n 0, 176, [])],
  [(176, .getfield 21, 179, [0, 3, 1, 1145]), (179, .aload_n 1, 180, []), (180, .getfield 69, 183, [0, 5, 1, 2006]), (183, .invokevirtual 187, 186, [0, 57, 1, 3165]), (186, .ireturn, 187, []), (187, .aload_n 0, 188, []), (188, .invokevirtual 190, 191, [0, 75, 0, 3170]), (191, .ireturn, 192, [])],
  [(192, .aload_n 0, 193, []), (193, .aload_n 1, 194, []), (194, .getfield 69, 197, [0, 5, 1, 2006]), (197, .invokevirtual 193, 200, [0, 76, 1, 3203]), (200, .ireturn, 201, [])]]
noncomputable def z_r73 : List (List (List z_Row)) := [z_r73_0]
-- ClockParliament$House.sendAway(I)I
set_option maxRecDepth 20000 in
noncomputable def z_r74_0 : List (List z_Row) := [[(0, .aload_n 0, 1, []), (1, .getfield 12, 4, [0, 3, 0, 1143]), (4, .iload_n 1, 5, []), (5, .invokevirtual 196, 8, [0, 34, 1, 3108]), (8, .aload_n 0, 9, []), (9, .getfield 21, 12, [0, 3, 1, 1145]), (12, .getfield 199, 15, [0, 0, 0, 1114]), (15, .iload_n 1, 16, [])],
  [(16, .invokevirtual 202, 19, [0, 9, 1, 3120]), (19, .aload_n 0, 20, []), (20, .getfield 12, 23, [0, 3, 0, 1143]), (23, .invokevirtual 129, 26, [0, 27, 0, 2131]), (26, .ireturn, 27, [])]]
noncomputable def z_r74 : List (List (List z_Row)) := [z_r74_0]
-- ClockParliament$House.holdVote()I
set_option maxRecDepth 20000 in
noncomputable def z_r75_0 : List (List z_Row) := [[(0, .aload_n 0, 1, []), (1, .getfield 21, 4, [0, 3, 1, 1145]), (4, .getfield 109, 7, [0, 0, 5, 1128]), (7, .iconst 0, 8, []), (8, .invokevirtual 134, 11, [0, 3, 1, 2157]), (11, .istore_n 1, 12, []), (12, .aload_n 0, 13, []), (13, .iload_n 1, 14, []), (14, .invokevirtual 205, 17, [0, 77, 1, 3174])],
  [(17, .istore_n 2, 18, []), (18, .iload_n 2, 19, []), (19, .ifCond .ne 15, 22, [34]), (22, .aload_n 0, 23, []), (23, .getfield 21, 26, [0, 3, 1, 1145]), (26, .iload_n 1, 27, []), (27, .iconst 1, 28, []), (28, .invokevirtual 184, 31, [0, 56, 2, 3153]), (31, .pop, 32, [])],
  [(32, .iconst 0, 33, []), (33, .ireturn, 34, []), (34, .aload_n 0, 35, []), (35, .iload_n 2, 36, []), (36, .invokevirtual 208, 39, [0, 79, 1, 3182]), (39, .istore_n 3, 40, []), (40, .aload_n 0, 41, []), (41, .dup, 42, []), (42, .getfield 29, 45, [0, 3, 3, 1149]), (45, .iconst 1, 46, []), (46, .iadd, 47, []), (47, .putfield 29, 50, [0, 3, 3, 1149])],
  [(50, .aload_n 0, 51, []), (51, .dup, 52, []), (52, .getfield 32, 55, [0, 3, 4, 1151]), (55, .aload_n 0, 56, []), (56, .iload_n 3, 57, []), (57, .iload_n 1, 58, []), (58, .invokevirtual 211, 61, [0, 83, 2, 3189]), (61, .ifCond .eq 7, 64, [68])],
  [(64, .iconst 1, 65, []), (65, .goto 4, 68, [69]), (68, .iconst 0, 69, []), (69, .iadd, 70, []), (70, .putfield 32, 73, [0, 3, 4, 1151]), (73, .aload_n 0, 74, []), (74, .dup, 75, []), (75, .getfield 35, 78, [0, 3, 5, 1153]), (78, .iconst 3, 79, []), (79, .iload_n 2, 80, [])],
  [(80, .invokestatic 214, 83, [1, 327, 1, 3193]), (83, .imul, 84, []), (84, .iadd, 85, []), (85, .putfield 35, 88, [0, 3, 5, 1153]), (88, .iconst 0, 89, []), (89, .istore 4, 91, []), (91, .iload 4, 93, []), (93, .aload_n 0, 94, []), (94, .getfield 12, 97, [0, 3, 0, 1143])],
  [(97, .invokevirtual 129, 100, [0, 27, 0, 2131]), (100, .if_icmp .ge 27, 103, [127]), (103, .iload_n 2, 104, []), (104, .iload 4, 106, []), (106, .invokestatic 219, 109, [4, 159, 2, 3186]), (109, .ifCond .eq 12, 112, [121])],
  [(112, .aload_n 0, 113, []), (113, .getfield 12, 116, [0, 3, 0, 1143]), (116, .iload 4, 118, []), (118, .invokevirtual 222, 121, [0, 38, 1, 3199]), (121, .iinc 4 1, 124, []), (124, .goto (-33), 127, [91]), (127, .aload_n 0, 128, [])],
  [(128, .getfield 21, 131, [0, 3, 1, 1145]), (131, .iload_n 1, 132, []), (132, .invokevirtual 187, 135, [0, 57, 1, 3165]), (135, .pop, 136, []), (136, .iload_n 3, 137, []), (137, .ireturn, 138, [])]]
noncomputable def z_r75 : List (List (List z_Row)) := [z_r75_0]
-- ClockParliament$House.passHours(I)I
set_option maxRecDepth 20000 in
noncomputable def z_r76_0 : List (List z_Row) := [[(0, .aload_n 0, 1, []), (1, .getfield 38, 4, [0, 3, 6, 1155]), (4, .istore_n 2, 5, []), (5, .iconst 0, 6, []), (6, .istore_n 3, 7, []), (7, .iload_n 3, 8, []), (8, .iload_n 1, 9, []), (9, .if_icmp .ge 42, 12, [51]), (12, .aload_n 0, 13, []), (13, .dup, 14, []), (14, .getfield 25, 17, [0, 3, 2, 1147])],
  [(17, .iconst 1, 18, []), (18, .iadd, 19, []), (19, .putfield 25, 22, [0, 3, 2, 1147]), (22, .aload_n 0, 23, []), (23, .dup, 24, []), (24, .getfield 38, 27, [0, 3, 6, 1155]), (27, .aload_n 0, 28, []), (28, .getfield 21, 31, [0, 3, 1, 1145]), (31, .invokevirtual 225, 34, [0, 58, 0, 3207])],
  [(34, .iadd, 35, []), (35, .putfield 38, 38, [0, 3, 6, 1155]), (38, .aload_n 0, 39, []), (39, .getfield 12, 42, [0, 3, 0, 1143]), (42, .invokevirtual 228, 45, [0, 39, 0, 3213]), (45, .iinc 3 1, 48, [])],
  [(48, .goto (-41), 51, [7]), (51, .aload_n 0, 52, []), (52, .getfield 38, 55, [0, 3, 6, 1155]), (55, .iload_n 2, 56, []), (56, .isub, 57, []), (57, .ireturn, 58, [])]]
noncomputable def z_r76 : List (List (List z_Row)) := [z_r76_0]
-- ClockParliament$House.votersOn(I)I
set_option maxRecDepth 20000 in
noncomputable def z_r77_0 : List (List z_Row) := [[(0, .iconst 0, 1, []), (1, .istore_n 2, 2, []), (2, .iconst 0, 3, []), (3, .istore_n 3, 4, []), (4, .iload_n 3, 5, []), (5, .aload_n 0, 6, []), (6, .getfield 12, 9, [0, 3, 0, 1143]), (9, .invokevirtual 129, 12, [0, 27, 0, 2131]), (12, .if_icmp .ge 37, 15, [49]), (15, .aload_n 0, 16, [])],
  [(16, .getfield 12, 19, [0, 3, 0, 1143]), (19, .iload_n 3, 20, []), (20, .aload_n 0, 21, []), (21, .getfield 21, 24, [0, 3, 1, 1145]), (24, .getfield 230, 27, [0, 0, 1, 1117]), (27, .iload_n 1, 28, []), (28, .invokevirtual 134, 31, [0, 3, 1, 2157]), (31, .invokevirtual 231, 34, [0, 32, 2, 3178])],
  [(34, .ifCond .eq 9, 37, [43]), (37, .iload_n 2, 38, []), (38, .iconst 1, 39, []), (39, .iload_n 3, 40, []), (40, .ishl, 41, []), (41, .ior, 42, []), (42, .istore_n 2, 43, []), (43, .iinc 3 1, 46, []), (46, .goto (-42), 49, [4])],
  [(49, .iload_n 2, 50, []), (50, .ireturn, 51, [])]]
noncomputable def z_r77 : List (List (List z_Row)) := [z_r77_0]
-- ClockParliament$House.majorityOn(I)I
set_option maxRecDepth 20000 in
noncomputable def z_r78_0 : List (List z_Row) := [[(0, .aload_n 0, 1, []), (1, .aload_n 0, 2, []), (2, .iload_n 1, 3, []), (3, .invokevirtual 205, 6, [0, 77, 1, 3174]), (6, .invokevirtual 208, 9, [0, 79, 1, 3182]), (9, .ireturn, 10, [])]]
noncomputable def z_r78 : List (List (List z_Row)) := [z_r78_0]
-- ClockParliament$House.majorityOf(I)I
set_option maxRecDepth 20000 in
noncomputable def z_r79_0 : List (List z_Row) := [[(0, .iconst 0, 1, []), (1, .istore_n 2, 2, []), (2, .iconst 0, 3, []), (3, .istore_n 3, 4, []), (4, .iload_n 3, 5, []), (5, .aload_n 0, 6, []), (6, .getfield 12, 9, [0, 3, 0, 1143]), (9, .invokevirtual 129, 12, [0, 27, 0, 2131]), (12, .if_icmp .ge 40, 15, [52]), (15, .iload_n 1, 16, [])],
  [(16, .iload_n 3, 17, []), (17, .invokestatic 219, 20, [4, 159, 2, 3186]), (20, .ifCond .eq 26, 23, [46]), (23, .aload_n 0, 24, []), (24, .getfield 12, 27, [0, 3, 0, 1143]), (27, .getfield 234, 30, [0, 1, 2, 1088]), (30, .iload_n 3, 31, []), (31, .invokevirtual 134, 34, [0, 3, 1, 2157])],
  [(34, .istore 4, 36, []), (36, .iload_n 2, 37, []), (37, .iload 4, 39, []), (39, .iconst 3, 40, []), (40, .iload 4, 42, []), (42, .isub, 43, []), (43, .isub, 44, []), (44, .iadd, 45, []), (45, .istore_n 2, 46, []), (46, .iinc 3 1, 49, [])],
  [(49, .goto (-45), 52, [4]), (52, .iload_n 2, 53, []), (53, .ireturn, 54, [])]]
noncomputable def z_r79 : List (List (List z_Row)) := [z_r79_0]
-- ClockParliament$House.majorityByLeanings(I)I
set_option maxRecDepth 20000 in
noncomputable def z_r80_0 : List (List z_Row) := [[(0, .iconst 0, 1, []), (1, .istore_n 2, 2, []), (2, .iconst 0, 3, []), (3, .istore_n 3, 4, []), (4, .iload_n 3, 5, []), (5, .iconst 3, 6, []), (6, .if_icmp .gt 24, 9, [30]), (9, .iload_n 2, 10, []), (10, .aload_n 0, 11, []), (11, .iload_n 1, 12, []), (12, .iload_n 3, 13, []), (13, .invokevirtual 237, 16, [0, 81, 2, 4180])],
  [(16, .iconst 2, 17, []), (17, .iload_n 3, 18, []), (18, .imul, 19, []), (19, .iconst 3, 20, []), (20, .isub, 21, []), (21, .imul, 22, []), (22, .iadd, 23, []), (23, .istore_n 2, 24, []), (24, .iinc 3 1, 27, []), (27, .goto (-23), 30, [4]), (30, .iload_n 2, 31, []), (31, .ireturn, 32, [])]]
noncomputable def z_r80 : List (List (List z_Row)) := [z_r80_0]
-- ClockParliament$House.votersLeaning(II)I
set_option maxRecDepth 20000 in
noncomputable def z_r81_0 : List (List z_Row) := [[(0, .aload_n 0, 1, []), (1, .getfield 21, 4, [0, 3, 1, 1145]), (4, .getfield 230, 7, [0, 0, 1, 1117]), (7, .iload_n 1, 8, []), (8, .invokevirtual 134, 11, [0, 3, 1, 2157]), (11, .istore_n 3, 12, []), (12, .iconst 0, 13, []), (13, .istore 4, 15, []), (15, .iconst 0, 16, [])],
  [(16, .istore 5, 18, []), (18, .iload 5, 20, []), (20, .aload_n 0, 21, []), (21, .getfield 12, 24, [0, 3, 0, 1143]), (24, .invokevirtual 129, 27, [0, 27, 0, 2131]), (27, .if_icmp .ge 41, 30, [68]), (30, .aload_n 0, 31, []), (31, .getfield 12, 34, [0, 3, 0, 1143])],
  [(34, .getfield 234, 37, [0, 1, 2, 1088]), (37, .iload 5, 39, []), (39, .invokevirtual 134, 42, [0, 3, 1, 2157]), (42, .iload_n 2, 43, []), (43, .if_icmp .ne 19, 46, [62]), (46, .aload_n 0, 47, []), (47, .getfield 12, 50, [0, 3, 0, 1143])],
  [(50, .iload 5, 52, []), (52, .iload_n 3, 53, []), (53, .invokevirtual 231, 56, [0, 32, 2, 3178]), (56, .ifCond .eq 6, 59, [62]), (59, .iinc 4 1, 62, []), (62, .iinc 5 1, 65, [])],
  [(65, .goto (-47), 68, [18]), (68, .iload 4, 70, []), (70, .ireturn, 71, [])]]
noncomputable def z_r81 : List (List (List z_Row)) := [z_r81_0]
-- ClockParliament$House.isWon(I)Z
set_option maxRecDepth 20000 in
noncomputable def z_r82_0 : List (List z_Row) := [[(0, .aload_n 0, 1, []), (1, .aload_n 0, 2, []), (2, .iload_n 1, 3, []), (3, .invokevirtual 240, 6, [0, 78, 1, 4192]), (6, .iload_n 1, 7, []), (7, .invokevirtual 211, 10, [0, 83, 2, 3189]), (10, .ireturn, 11, [])]]
noncomputable def z_r82 : List (List (List z_Row)) := [z_r82_0]
-- ClockParliament$House.isEnough(II)Z
set_option maxRecDepth 20000 in
noncomputable def z_r83_0 : List (List z_Row) := [[(0, .iload_n 1, 1, []), (1, .aload_n 0, 2, []), (2, .getfield 21, 5, [0, 3, 1, 1145]), (5, .getfield 243, 8, [0, 0, 2, 1121]), (8, .iload_n 2, 9, []), (9, .invokevirtual 134, 12, [0, 3, 1, 2157]), (12, .if_icmp .lt 7, 15, [19]), (15, .iconst 1, 16, [])],
  [(16, .goto 4, 19, [20]), (19, .iconst 0, 20, []), (20, .ireturn, 21, [])]]
noncomputable def z_r83 : List (List (List z_Row)) := [z_r83_0]
-- ClockParliament$History.<init>()V
set_option maxRecDepth 20000 in
noncomputable def z_r84_0 : List (List z_Row) := [[(0, .aload_n 0, 1, []), (1, .invokespecial 3, 4, [7, 0, 0, 1181]), (4, .aload_n 0, 5, []), (5, .bipush 8, 7, []), (7, .anewarray 9, 10, []), (10, .putfield 11, 13, [0, 2, 0, 1185]), (13, .aload_n 0, 14, []), (14, .iconst 0, 15, []), (15, .putfield 17, 18, [0, 2, 1, 1186])],
  [(18, .aload_n 0, 19, []), (19, .iconst 0, 20, []), (20, .putfield 21, 23, [0, 2, 2, 1187]), (23, .iconst 0, 24, []), (24, .istore_n 1, 25, []), (25, .iload_n 1, 26, []), (26, .aload_n 0, 27, []), (27, .getfield 11, 30, [0, 2, 0, 1185]), (30, .arraylength, 31, []), (31, .if_icmp .ge 22, 34, [53])],
  [(34, .aload_n 0, 35, []), (35, .getfield 11, 38, [0, 2, 0, 1185]), (38, .iload_n 1, 39, []), (39, .new 9, 42, [0, 3, 1182, 1044, 1002]), (42, .dup, 43, []), (43, .invokespecial 24, 46, [3, 64, 0, 1184]), (46, .aastore, 47, []), (47, .iinc 1 1, 50, [])],
  [(50, .goto (-25), 53, [25]), (53, .return_, 54, [])]]
noncomputable def z_r84 : List (List (List z_Row)) := [z_r84_0]
-- ClockParliament$History.keep(LClockParliament$House;)V
set_option maxRecDepth 20000 in
noncomputable def z_r85_0 : List (List z_Row) := [[(0, .aload_n 0, 1, []), (1, .getfield 21, 4, [0, 2, 2, 1187]), (4, .bipush 8, 6, []), (6, .if_icmp .ge 16, 9, [22]), (9, .aload_n 0, 10, []), (10, .dup, 11, []), (11, .getfield 21, 14, [0, 2, 2, 1187]), (14, .iconst 1, 15, []), (15, .iadd, 16, [])],
  [(16, .putfield 21, 19, [0, 2, 2, 1187]), (19, .goto 16, 22, [35]), (22, .aload_n 0, 23, []), (23, .aload_n 0, 24, []), (24, .getfield 17, 27, [0, 2, 1, 1186]), (27, .iconst 1, 28, []), (28, .iadd, 29, []), (29, .bipush 8, 31, []), (31, .irem, 32, [])],
  [(32, .putfield 17, 35, [0, 2, 1, 1186]), (35, .aload_n 0, 36, []), (36, .getfield 11, 39, [0, 2, 0, 1185]), (39, .aload_n 0, 40, []), (40, .invokevirtual 25, 43, [0, 88, 0, 3071]), (43, .aaload, 44, []), (44, .aload_n 1, 45, []), (45, .invokevirtual 29, 48, [0, 65, 1, 3078])],
  [(48, .return_, 49, [])]]
noncomputable def z_r85 : List (List (List z_Row)) := [z_r85_0]
-- ClockParliament$History.giveBack(LClockParliament$House;)I
set_option maxRecDepth 20000 in
noncomputable def z_r86_0 : List (List z_Row) := [[(0, .aload_n 0, 1, []), (1, .getfield 21, 4, [0, 2, 2, 1187]), (4, .ifCond .le 26, 7, [30]), (7, .aload_n 1, 8, []), (8, .aload_n 0, 9, []), (9, .getfield 11, 12, [0, 2, 0, 1185]), (12, .aload_n 0, 13, []), (13, .invokevirtual 25, 16, [0, 88, 0, 3071])],
  [(16, .aaload, 17, []), (17, .invokevirtual 29, 20, [0, 65, 1, 3078]), (20, .aload_n 0, 21, []), (21, .dup, 22, []), (22, .getfield 21, 25, [0, 2, 2, 1187]), (25, .iconst 1, 26, []), (26, .isub, 27, []), (27, .putfield 21, 30, [0, 2, 2, 1187]), (30, .aload_n 0, 31, []), (31, .getfield 21, 34, [0, 2, 2, 1187])],
  [(34, .ireturn, 35, [])]]
noncomputable def z_r86 : List (List (List z_Row)) := [z_r86_0]
-- ClockParliament$History.clear()V
set_option maxRecDepth 20000 in
noncomputable def z_r87_0 : List (List z_Row) := [[(0, .aload_n 0, 1, []), (1, .iconst 0, 2, []), (2, .putfield 21, 5, [0, 2, 2, 1187]), (5, .return_, 6, [])]]
noncomputable def z_r87 : List (List (List z_Row)) := [z_r87_0]
-- ClockParliament$History.placeOfLatest()I
set_option maxRecDepth 20000 in
noncomputable def z_r88_0 : List (List z_Row) := [[(0, .aload_n 0, 1, []), (1, .getfield 17, 4, [0, 2, 1, 1186]), (4, .aload_n 0, 5, []), (5, .getfield 21, 8, [0, 2, 2, 1187]), (8, .iadd, 9, []), (9, .iconst 1, 10, []), (10, .isub, 11, []), (11, .bipush 8, 13, []), (13, .invokestatic 33, 16, [1, 321, 2, 3075])],
  [(16, .ireturn, 17, [])]]
noncomputable def z_r88 : List (List (List z_Row)) := [z_r88_0]
-- ClockParliament$OrderText.<init>()V
set_option maxRecDepth 20000 in
noncomputable def z_r89_0 : List (List z_Row) := [[(0, .aload_n 0, 1, []), (1, .invokespecial 3, 4, [7, 0, 0, 1201]), (4, .aload_n 0, 5, []), (5, .new 9, 8, [0, 10, 1202, 1203, 1010]), (8, .dup, 9, []), (9, .invokespecial 11, 12, [2, 300, 0, 1204]), (12, .putfield 12, 15, [0, 6, 0, 2023]), (15, .aload_n 0, 16, [])],
  [(16, .new 18, 19, [0, 5, 1235, 1236, 1013]), (19, .dup, 20, []), (20, .invokespecial 20, 23, [3, 22, 0, 1237]), (23, .putfield 21, 26, [0, 6, 1, 2024]), (26, .aload_n 0, 27, []), (27, .iconst 0, 28, []), (28, .putfield 25, 31, [0, 6, 2, 2025]), (31, .return_, 32, [])]]
noncomputable def z_r89 : List (List (List z_Row)) := [z_r89_0]
-- ClockParliament$OrderText.length()I
set_option maxRecDepth 20000 in
noncomputable def z_r90_0 : List (List z_Row) := [[(0, .aload_n 0, 1, []), (1, .getfield 12, 4, [0, 6, 0, 2023]), (4, .invokevirtual 29, 7, [0, 308, 0, 5011]), (7, .ireturn, 8, [])]]
noncomputable def z_r90 : List (List (List z_Row)) := [z_r90_0]
-- ClockParliament$OrderText.add(C)I
set_option maxRecDepth 20000 in
noncomputable def z_r91_0 : List (List z_Row) := [[(0, .aload_n 0, 1, []), (1, .getfield 12, 4, [0, 6, 0, 2023]), (4, .iload_n 1, 5, []), (5, .invokevirtual 33, 8, [0, 302, 1, 7026]), (8, .pop, 9, []), (9, .aload_n 0, 10, []), (10, .getfield 12, 13, [0, 6, 0, 2023]), (13, .invokevirtual 29, 16, [0, 308, 0, 5011])],
  [(16, .ireturn, 17, [])]]
noncomputable def z_r91 : List (List (List z_Row)) := [z_r91_0]
-- ClockParliament$OrderText.clear()V
set_option maxRecDepth 20000 in
noncomputable def z_r92_0 : List (List z_Row) := [[(0, .aload_n 0, 1, []), (1, .getfield 12, 4, [0, 6, 0, 2023]), (4, .iconst 0, 5, []), (5, .invokevirtual 37, 8, [0, 306, 1, 5168]), (8, .aload_n 0, 9, []), (9, .iconst 0, 10, []), (10, .putfield 25, 13, [0, 6, 2, 2025]), (13, .return_, 14, [])]]
noncomputable def z_r92 : List (List (List z_Row)) := [z_r92_0]
-- ClockParliament$OrderText.fault()I
set_option maxRecDepth 20000 in
noncomputable def z_r93_0 : List (List z_Row) := [[(0, .aload_n 0, 1, []), (1, .iconst 0, 2, []), (2, .putfield 25, 5, [0, 6, 2, 2025]), (5, .iconst 0, 6, []), (6, .istore_n 1, 7, []), (7, .iload_n 1, 8, []), (8, .bipush 60, 10, []), (10, .if_icmp .gt 46, 13, [56]), (13, .aload_n 0, 14, []), (14, .aload_n 0, 15, []), (15, .getfield 21, 18, [0, 6, 1, 2024])],
  [(18, .invokevirtual 41, 21, [0, 95, 1, 5003]), (21, .ifCond .eq 35, 24, [56]), (24, .aload_n 0, 25, []), (25, .invokevirtual 45, 28, [0, 102, 0, 5007]), (28, .ifCond .ne 10, 31, [38]), (31, .aload_n 0, 32, [])],
  [(32, .iconst 0, 33, []), (33, .putfield 25, 36, [0, 6, 2, 2025]), (36, .iconst (-1), 37, []), (37, .ireturn, 38, []), (38, .aload_n 0, 39, []), (39, .bipush 59, 41, []), (41, .invokevirtual 49, 44, [0, 100, 1, 5160]), (44, .ifCond .ne 6, 47, [50]), (47, .goto 9, 50, [56])],
  [(50, .iinc 1 1, 53, []), (53, .goto (-46), 56, [7]), (56, .aload_n 0, 57, []), (57, .getfield 25, 60, [0, 6, 2, 2025]), (60, .ireturn, 61, [])]]
noncomputable def z_r93 : List (List (List z_Row)) := [z_r93_0]
-- ClockParliament$OrderText.readNext(LClockParliament$Order;)Z
set_option maxRecDepth 20000 in
noncomputable def z_r94_0 : List (List z_Row) := [[(0, .aload_n 0, 1, []), (1, .bipush 59, 3, []), (3, .invokevirtual 49, 6, [0, 100, 1, 5160]), (6, .pop, 7, []), (7, .aload_n 0, 8, []), (8, .invokevirtual 45, 11, [0, 102, 0, 5007]), (11, .ifCond .eq 15, 14, [26]), (14, .aload_n 0, 15, []), (15, .aload_n 1, 16, [])],
  [(16, .invokevirtual 41, 19, [0, 95, 1, 5003]), (19, .ifCond .eq 7, 22, [26]), (22, .iconst 1, 23, []), (23, .goto 4, 26, [27]), (26, .iconst 0, 27, []), (27, .ireturn, 28, [])]]
noncomputable def z_r94 : List (List (List z_Row)) := [z_r94_0]
-- ClockParliament$OrderText.readOrder(LClockParliament$Order;)Z
set_option maxRecDepth 20000 in
noncomputable def z_r95_0 : List (List z_Row) := [[(0, .aload_n 0, 1, []), (1, .invokevirtual 45, 4, [0, 102, 0, 5007]), (4, .invokestatic 53, 7, [1, 25, 1, 5046]), (7, .astore_n 2, 8, []), (8, .aload_n 2, 9, []), (9, .ifnonnull 5, 12, [14]), (12, .iconst 0, 13, []), (13, .ireturn, 14, []), (14, .aload_n 1, 15, []), (15, .aload_n 2, 16, [])],
  [(16, .iconst 0, 17, []), (17, .iconst 0, 18, []), (18, .iconst 0, 19, []), (19, .invokevirtual 59, 22, [0, 23, 4, 5119]), (22, .aload_n 2, 23, []), (23, .getfield 63, 26, [1, 1, 7135]), (26, .astore_n 3, 27, []), (27, .iconst 0, 28, []), (28, .istore 4, 30, []), (30, .iload 4, 32, [])],
  [(32, .aload_n 3, 33, []), (33, .invokevirtual 67, 36, [0, 331, 0, 5120]), (36, .if_icmp .ge 59, 39, [95]), (39, .aload_n 3, 40, []), (40, .iload 4, 42, []), (42, .invokevirtual 70, 45, [0, 329, 1, 5121]), (45, .istore 5, 47, []), (47, .iload 5, 49, [])],
  [(49, .bipush 63, 51, []), (51, .if_icmp .ne 19, 54, [70]), (54, .aload_n 0, 55, []), (55, .invokevirtual 45, 58, [0, 102, 0, 5007]), (58, .bipush 32, 60, []), (60, .if_icmp .eq 10, 63, [70]), (63, .aload_n 1, 64, [])],
  [(64, .iconst 1, 65, []), (65, .invokevirtual 74, 68, [0, 24, 1, 5136]), (68, .iconst 1, 69, []), (69, .ireturn, 70, []), (70, .iload 5, 72, []), (72, .bipush 63, 74, []), (74, .if_icmp .eq 15, 77, [89]), (77, .aload_n 0, 78, []), (78, .iload 5, 80, [])],
  [(80, .aload_n 1, 81, []), (81, .invokevirtual 77, 84, [0, 96, 2, 5140]), (84, .ifCond .ne 5, 87, [89]), (87, .iconst 0, 88, []), (88, .ireturn, 89, []), (89, .iinc 4 1, 92, []), (92, .goto (-62), 95, [30]), (95, .iconst 1, 96, [])],
  [(96, .ireturn, 97, [])]]
noncomputable def z_r95 : List (List (List z_Row)) := [z_r95_0]
-- ClockParliament$OrderText.readPart(CLClockParliament$Order;)Z
set_option maxRecDepth 20000 in
noncomputable def z_r96_0 : List (List z_Row) := [[(0, .iload_n 1, 1, []), (1, .lookupswitch 69 #[(68, 35), (75, 47), (78, 41)], 36, [70, 36, 48, 42])],
  [],
  [(36, .aload_n 0, 37, []), (37, .aload_n 2, 38, []), (38, .invokevirtual 81, 41, [0, 97, 1, 5144]), (41, .ireturn, 42, []), (42, .aload_n 0, 43, []), (43, .aload_n 2, 44, []), (44, .invokevirtual 84, 47, [0, 98, 1, 5152]), (47, .ireturn, 48, [])],
  [(48, .aload_n 0, 49, []), (49, .aload_n 2, 50, []), (50, .invokevirtual 81, 53, [0, 97, 1, 5144]), (53, .ifCond .ne 11, 56, [64]), (56, .aload_n 0, 57, []), (57, .aload_n 2, 58, []), (58, .invokevirtual 87, 61, [0, 99, 1, 5156]), (61, .ifCond .eq 7, 64, [68])],
  [(64, .iconst 1, 65, []), (65, .goto 4, 68, [69]), (68, .iconst 0, 69, []), (69, .ireturn, 70, []), (70, .aload_n 0, 71, []), (71, .iload_n 1, 72, []), (72, .invokevirtual 49, 75, [0, 100, 1, 5160]), (75, .ireturn, 76, [])]]
noncomputable def z_r96 : List (List (List z_Row)) := [z_r96_0]
-- ClockParliament$OrderText.readDigit(LClockParliament$Order;)Z
set_option maxRecDepth 20000 in
noncomputable def z_r97_0 : List (List z_Row) := [[(0, .aload_n 0, 1, []), (1, .invokevirtual 90, 4, [0, 101, 0, 5148]), (4, .istore_n 2, 5, []), (5, .iload_n 2, 6, []), (6, .ifCond .ge 5, 9, [11]), (9, .iconst 0, 10, []), (10, .ireturn, 11, []), (11, .aload_n 0, 12, []), (12, .dup, 13, []), (13, .getfield 25, 16, [0, 6, 2, 2025])],
  [(16, .iconst 1, 17, []), (17, .iadd, 18, []), (18, .putfield 25, 21, [0, 6, 2, 2025]), (21, .aload_n 1, 22, []), (22, .iload_n 2, 23, []), (23, .invokevirtual 74, 26, [0, 24, 1, 5136]), (26, .iconst 1, 27, []), (27, .ireturn, 28, [])]]
noncomputable def z_r97 : List (List (List z_Row)) := [z_r97_0]
-- ClockParliament$OrderText.readNumber(LClockParliament$Order;)Z
set_option maxRecDepth 20000 in
noncomputable def z_r98_0 : List (List z_Row) := [[(0, .aload_n 0, 1, []), (1, .invokevirtual 90, 4, [0, 101, 0, 5148]), (4, .istore_n 2, 5, []), (5, .iload_n 2, 6, []), (6, .ifCond .ge 5, 9, [11]), (9, .iconst 0, 10, []), (10, .ireturn, 11, []), (11, .aload_n 0, 12, []), (12, .dup, 13, []), (13, .getfield 25, 16, [0, 6, 2, 2025])],
  [(16, .iconst 1, 17, []), (17, .iadd, 18, []), (18, .putfield 25, 21, [0, 6, 2, 2025]), (21, .aload_n 0, 22, []), (22, .invokevirtual 90, 25, [0, 101, 0, 5148]), (25, .istore_n 3, 26, []), (26, .iload_n 3, 27, []), (27, .ifCond .lt 20, 30, [47]), (30, .aload_n 0, 31, []), (31, .dup, 32, [])],
  [(32, .getfield 25, 35, [0, 6, 2, 2025]), (35, .iconst 1, 36, []), (36, .iadd, 37, []), (37, .putfield 25, 40, [0, 6, 2, 2025]), (40, .bipush 10, 42, []), (42, .iload_n 2, 43, []), (43, .imul, 44, []), (44, .iload_n 3, 45, []), (45, .iadd, 46, []), (46, .istore_n 2, 47, []), (47, .aload_n 1, 48, [])],
  [(48, .iload_n 2, 49, []), (49, .invokevirtual 74, 52, [0, 24, 1, 5136]), (52, .iconst 1, 53, []), (53, .ireturn, 54, [])]]
noncomputable def z_r98 : List (List (List z_Row)) := [z_r98_0]
-- ClockParliament$OrderText.readNobody(LClockParliament$Order;)Z
set_option maxRecDepth 20000 in
noncomputable def z_r99_0 : List (List z_Row) := [[(0, .aload_n 0, 1, []), (1, .bipush 45, 3, []), (3, .invokevirtual 49, 6, [0, 100, 1, 5160]), (6, .ifCond .ne 5, 9, [11]), (9, .iconst 0, 10, []), (10, .ireturn, 11, []), (11, .aload_n 1, 12, []), (12, .iconst (-1), 13, []), (13, .invokevirtual 74, 16, [0, 24, 1, 5136])],
  [(16, .iconst 1, 17, []), (17, .ireturn, 18, [])]]
noncomputable def z_r99 : List (List (List z_Row)) := [z_r99_0]
-- ClockParliament$OrderText.skip(C)Z
set_option maxRecDepth 20000 in
noncomputable def z_r100_0 : List (List z_Row) := [[(0, .aload_n 0, 1, []), (1, .invokevirtual 45, 4, [0, 102, 0, 5007]), (4, .iload_n 1, 5, []), (5, .if_icmp .eq 5, 8, [10]), (8, .iconst 0, 9, []), (9, .ireturn, 10, []), (10, .aload_n 0, 11, []), (11, .dup, 12, []), (12, .getfield 25, 15, [0, 6, 2, 2025]), (15, .iconst 1, 16, [])],
  [(16, .iadd, 17, []), (17, .putfield 25, 20, [0, 6, 2, 2025]), (20, .iconst 1, 21, []), (21, .ireturn, 22, [])]]
noncomputable def z_r100 : List (List (List z_Row)) := [z_r100_0]
-- ClockParliament$OrderText.digitHere()I
set_option maxRecDepth 20000 in
noncomputable def z_r101_0 : List (List z_Row) := [[(0, .aload_n 0, 1, []), (1, .invokevirtual 45, 4, [0, 102, 0, 5007]), (4, .istore_n 1, 5, []), (5, .iload_n 1, 6, []), (6, .bipush 48, 8, []), (8, .if_icmp .lt 16, 11, [24]), (11, .iload_n 1, 12, []), (12, .bipush 57, 14, []), (14, .if_icmp .gt 10, 17, [24])],
  [(17, .iload_n 1, 18, []), (18, .bipush 48, 20, []), (20, .isub, 21, []), (21, .goto 4, 24, [25]), (24, .iconst (-1), 25, []), (25, .ireturn, 26, [])]]
noncomputable def z_r101 : List (List (List z_Row)) := [z_r101_0]
-- ClockParliament$OrderText.here()C
set_option maxRecDepth 20000 in
noncomputable def z_r102_0 : List (List z_Row) := [[(0, .aload_n 0, 1, []), (1, .getfield 25, 4, [0, 6, 2, 2025]), (4, .ifCond .lt 31, 7, [35]), (7, .aload_n 0, 8, []), (8, .getfield 25, 11, [0, 6, 2, 2025]), (11, .aload_n 0, 12, []), (12, .getfield 12, 15, [0, 6, 0, 2023]), (15, .invokevirtual 29, 18, [0, 308, 0, 5011])],
  [(18, .if_icmp .ge 17, 21, [35]), (21, .aload_n 0, 22, []), (22, .getfield 12, 25, [0, 6, 0, 2023]), (25, .aload_n 0, 26, []), (26, .getfield 25, 29, [0, 6, 2, 2025]), (29, .invokevirtual 93, 32, [0, 310, 1, 5018])],
  [(32, .goto 4, 35, [36]), (35, .iconst 0, 36, []), (36, .ireturn, 37, [])]]
noncomputable def z_r102 : List (List (List z_Row)) := [z_r102_0]
-- ClockParliament.<init>()V
set_option maxRecDepth 20000 in
noncomputable def z_r103_0 : List (List z_Row) := [[(0, .aload_n 0, 1, []), (1, .invokespecial 1, 4, [7, 0, 0, 1040]), (4, .aload_n 0, 5, []), (5, .new 7, 8, [0, 3, 1043, 1044, 1002]), (8, .dup, 9, []), (9, .invokespecial 9, 12, [3, 64, 0, 1045]), (12, .putfield 10, 15, [0, 8, 0, 2052]), (15, .aload_n 0, 16, [])],
  [(16, .new 7, 19, [0, 3, 1043, 1044, 1002]), (19, .dup, 20, []), (20, .invokespecial 9, 23, [3, 64, 0, 1045]), (23, .putfield 16, 26, [0, 8, 1, 2053]), (26, .aload_n 0, 27, []), (27, .new 7, 30, [0, 3, 1043, 1044, 1002]), (30, .dup, 31, []), (31, .invokespecial 9, 34, [3, 64, 0, 1045])],
  [(34, .putfield 19, 37, [0, 8, 2, 2054]), (37, .aload_n 0, 38, []), (38, .iconst 0, 39, []), (39, .putfield 22, 42, [0, 8, 3, 2055]), (42, .aload_n 0, 43, []), (43, .new 26, 46, [0, 2, 1176, 1177, 1007]), (46, .dup, 47, []), (47, .invokespecial 28, 50, [2, 84, 0, 1178])],
  [(50, .putfield 29, 53, [0, 8, 4, 2056]), (53, .aload_n 0, 54, []), (54, .new 33, 57, [0, 6, 1196, 1197, 1008]), (57, .dup, 58, []), (58, .invokespecial 35, 61, [3, 89, 0, 1198]), (61, .putfield 36, 64, [0, 8, 5, 2057])],
  [(64, .aload_n 0, 65, []), (65, .new 40, 68, [0, 5, 2033, 1236, 1013]), (68, .dup, 69, []), (69, .invokespecial 42, 72, [3, 22, 0, 2034]), (72, .putfield 43, 75, [0, 8, 6, 2058]), (75, .aload_n 0, 76, []), (76, .new 47, 79, [0, 10, 2035, 1203, 1010]), (79, .dup, 80, [])],
  [(80, .invokespecial 49, 83, [2, 300, 0, 2036]), (83, .putfield 50, 86, [0, 8, 7, 2059]), (86, .aload_n 0, 87, []), (87, .new 54, 90, [0, 7, 2037, 2038, 1016]), (90, .dup, 91, []), (91, .invokespecial 56, 94, [3, 14, 0, 2039]), (94, .putfield 57, 97, [0, 8, 8, 2060])],
  [(97, .aload_n 0, 98, []), (98, .new 54, 101, [0, 7, 2037, 2038, 1016]), (101, .dup, 102, []), (102, .invokespecial 56, 105, [3, 14, 0, 2039]), (105, .putfield 61, 108, [0, 8, 9, 2061]), (108, .aload_n 0, 109, []), (109, .new 54, 112, [0, 7, 2037, 2038, 1016])],
  [(112, .dup, 113, []), (113, .invokespecial 56, 116, [3, 14, 0, 2039]), (116, .putfield 64, 119, [0, 8, 10, 2062]), (119, .aload_n 0, 120, []), (120, .iconst (-1), 121, []), (121, .putfield 67, 124, [0, 8, 11, 2063]), (124, .return_, 125, [])]]
noncomputable def z_r103 : List (List (List z_Row)) := [z_r103_0]
-- ClockParliament.clock(II)I
set_option maxRecDepth 20000 in
noncomputable def z_r104_0 : List (List z_Row) := [[(0, .aload_n 0, 1, []), (1, .getstatic 71, 4, [3, 7038]), (4, .iload_n 1, 5, []), (5, .iload_n 2, 6, []), (6, .iconst 0, 7, []), (7, .invokevirtual 77, 10, [0, 114, 4, 2095]), (10, .ireturn, 11, [])]]
noncomputable def z_r104 : List (List (List z_Row)) := [z_r104_0]
-- ClockParliament.leave(I)I
set_option maxRecDepth 20000 in
noncomputable def z_r105_0 : List (List z_Row) := [[(0, .aload_n 0, 1, []), (1, .getstatic 81, 4, [4, 2093]), (4, .iload_n 1, 5, []), (5, .iconst 0, 6, []), (6, .iconst 0, 7, []), (7, .invokevirtual 77, 10, [0, 114, 4, 2095]), (10, .ireturn, 11, [])]]
noncomputable def z_r105 : List (List (List z_Row)) := [z_r105_0]
-- ClockParliament.key(II)I
set_option maxRecDepth 20000 in
noncomputable def z_r106_0 : List (List z_Row) := [[(0, .aload_n 0, 1, []), (1, .getstatic 84, 4, [5, 3222]), (4, .iload_n 1, 5, []), (5, .iload_n 2, 6, []), (6, .iconst 0, 7, []), (7, .invokevirtual 77, 10, [0, 114, 4, 2095]), (10, .ireturn, 11, [])]]
noncomputable def z_r106 : List (List (List z_Row)) := [z_r106_0]
-- ClockParliament.wind(II)I
set_option maxRecDepth 20000 in
noncomputable def z_r107_0 : List (List z_Row) := [[(0, .aload_n 0, 1, []), (1, .getstatic 87, 4, [6, 3228]), (4, .iload_n 1, 5, []), (5, .iload_n 2, 6, []), (6, .iconst 0, 7, []), (7, .invokevirtual 77, 10, [0, 114, 4, 2095]), (10, .ireturn, 11, [])]]
noncomputable def z_r107 : List (List (List z_Row)) := [z_r107_0]
-- ClockParliament.move(II)I
set_option maxRecDepth 20000 in
noncomputable def z_r108_0 : List (List z_Row) := [[(0, .aload_n 0, 1, []), (1, .getstatic 90, 4, [7, 3234]), (4, .iload_n 1, 5, []), (5, .iload_n 2, 6, []), (6, .iconst 0, 7, []), (7, .invokevirtual 77, 10, [0, 114, 4, 2095]), (10, .ireturn, 11, [])]]
noncomputable def z_r108 : List (List (List z_Row)) := [z_r108_0]
-- ClockParliament.bill(III)I
set_option maxRecDepth 20000 in
noncomputable def z_r109_0 : List (List z_Row) := [[(0, .aload_n 0, 1, []), (1, .getstatic 93, 4, [8, 4000]), (4, .iload_n 1, 5, []), (5, .iload_n 2, 6, []), (6, .iload_n 3, 7, []), (7, .invokevirtual 77, 10, [0, 114, 4, 2095]), (10, .ireturn, 11, [])]]
noncomputable def z_r109 : List (List (List z_Row)) := [z_r109_0]
-- ClockParliament.adjourn(II)I
set_option maxRecDepth 20000 in
noncomputable def z_r110_0 : List (List z_Row) := [[(0, .aload_n 0, 1, []), (1, .getstatic 96, 4, [9, 4006]), (4, .iload_n 1, 5, []), (5, .iload_n 2, 6, []), (6, .iconst 0, 7, []), (7, .invokevirtual 77, 10, [0, 114, 4, 2095]), (10, .ireturn, 11, [])]]
noncomputable def z_r110 : List (List (List z_Row)) := [z_r110_0]
-- ClockParliament.drop(I)I
set_option maxRecDepth 20000 in
noncomputable def z_r111_0 : List (List z_Row) := [[(0, .aload_n 0, 1, []), (1, .getstatic 99, 4, [10, 7044]), (4, .iload_n 1, 5, []), (5, .iconst 0, 6, []), (6, .iconst 0, 7, []), (7, .invokevirtual 77, 10, [0, 114, 4, 2095]), (10, .ireturn, 11, [])]]
noncomputable def z_r111 : List (List (List z_Row)) := [z_r111_0]
-- ClockParliament.vote()I
set_option maxRecDepth 20000 in
noncomputable def z_r112_0 : List (List z_Row) := [[(0, .aload_n 0, 1, []), (1, .getstatic 102, 4, [0, 4012]), (4, .iconst 0, 5, []), (5, .iconst 0, 6, []), (6, .iconst 0, 7, []), (7, .invokevirtual 77, 10, [0, 114, 4, 2095]), (10, .ireturn, 11, [])]]
noncomputable def z_r112 : List (List (List z_Row)) := [z_r112_0]
-- ClockParliament.hour(I)I
set_option maxRecDepth 20000 in
noncomputable def z_r113_0 : List (List z_Row) := [[(0, .aload_n 0, 1, []), (1, .getstatic 105, 4, [11, 4017]), (4, .iload_n 1, 5, []), (5, .iconst 0, 6, []), (6, .iconst 0, 7, []), (7, .invokevirtual 77, 10, [0, 114, 4, 2095]), (10, .ireturn, 11, [])]]
noncomputable def z_r113 : List (List (List z_Row)) := [z_r113_0]
-- ClockParliament.change(LClockParliament$Kind;III)I
set_option maxRecDepth 20000 in
noncomputable def z_r114_0 : List (List z_Row) := [[(0, .aload_n 0, 1, []), (1, .getfield 43, 4, [0, 8, 6, 2058]), (4, .aload_n 1, 5, []), (5, .iload_n 2, 6, []), (6, .iload_n 3, 7, []), (7, .iload 4, 9, []), (9, .invokevirtual 108, 12, [0, 23, 4, 2099]), (12, .aload_n 0, 13, []), (13, .getfield 10, 16, [0, 8, 0, 2052])],
  [(16, .aload_n 0, 17, []), (17, .getfield 43, 20, [0, 8, 6, 2058]), (20, .aload_n 0, 21, []), (21, .getfield 57, 24, [0, 8, 8, 2060]), (24, .invokevirtual 112, 27, [0, 66, 2, 2103]), (27, .ifCond .eq 31, 30, [58]), (30, .aload_n 0, 31, []), (31, .getfield 61, 34, [0, 8, 9, 2061])],
  [(34, .aload_n 0, 35, []), (35, .getfield 57, 38, [0, 8, 8, 2060]), (38, .invokevirtual 116, 41, [0, 18, 1, 2229]), (41, .aload_n 0, 42, []), (42, .getfield 64, 45, [0, 8, 10, 2062]), (45, .invokevirtual 120, 48, [0, 17, 0, 2233])],
  [(48, .new 123, 51, [1, 0]), (51, .dup, 52, []), (52, .ldc 125, 54, []), (54, .invokespecial 127, 57, []), (57, .athrow, 58, []), (58, .aload_n 0, 59, []), (59, .getfield 29, 62, [0, 8, 4, 2056]), (62, .aload_n 0, 63, []), (63, .getfield 10, 66, [0, 8, 0, 2052])],
  [(66, .invokevirtual 130, 69, [0, 85, 1, 3067]), (69, .aload_n 0, 70, []), (70, .getfield 10, 73, [0, 8, 0, 2052]), (73, .aload_n 0, 74, []), (74, .getfield 43, 77, [0, 8, 6, 2058]), (77, .invokevirtual 134, 80, [0, 73, 1, 3095])],
  [(80, .ireturn, 81, [])]]
noncomputable def z_r114 : List (List (List z_Row)) := [z_r114_0]
-- ClockParliament.clockOf(II)I
set_option maxRecDepth 20000 in
noncomputable def z_r115_0 : List (List z_Row) := [[(0, .aload_n 0, 1, []), (1, .iload_n 1, 2, []), (2, .invokevirtual 138, 5, [0, 120, 1, 4023]), (5, .iload_n 2, 6, []), (6, .tableswitch 144 0 6 #[42, 57, 72, 87, 102, 117, 132], 48, [150, 48, 63, 78, 93, 108, 123, 138])],
  [],
  [],
  [(48, .aload_n 0, 49, []), (49, .getfield 10, 52, [0, 8, 0, 2052]), (52, .getfield 142, 55, [0, 3, 0, 1144]), (55, .getfield 146, 58, [0, 1, 0, 1082]), (58, .iload_n 1, 59, []), (59, .invokevirtual 152, 62, [0, 3, 1, 4044]), (62, .ireturn, 63, []), (63, .aload_n 0, 64, [])],
  [(64, .getfield 10, 67, [0, 8, 0, 2052]), (67, .getfield 142, 70, [0, 3, 0, 1144]), (70, .getfield 158, 73, [0, 1, 1, 1085]), (73, .iload_n 1, 74, []), (74, .invokevirtual 152, 77, [0, 3, 1, 4044]), (77, .ireturn, 78, []), (78, .aload_n 0, 79, []), (79, .getfield 10, 82, [0, 8, 0, 2052])],
  [(82, .getfield 142, 85, [0, 3, 0, 1144]), (85, .getfield 161, 88, [0, 1, 2, 1087]), (88, .iload_n 1, 89, []), (89, .invokevirtual 152, 92, [0, 3, 1, 4044]), (92, .ireturn, 93, []), (93, .aload_n 0, 94, []), (94, .getfield 10, 97, [0, 8, 0, 2052])],
  [(97, .getfield 142, 100, [0, 3, 0, 1144]), (100, .getfield 164, 103, [0, 1, 4, 1093]), (103, .iload_n 1, 104, []), (104, .invokevirtual 167, 107, [0, 11, 1, 4045]), (107, .ireturn, 108, []), (108, .aload_n 0, 109, []), (109, .getfield 10, 112, [0, 8, 0, 2052])],
  [(112, .getfield 170, 115, [0, 3, 1, 1146]), (115, .getfield 174, 118, [0, 0, 0, 1115]), (118, .iload_n 1, 119, []), (119, .invokevirtual 167, 122, [0, 11, 1, 4045]), (122, .ireturn, 123, []), (123, .aload_n 0, 124, []), (124, .getfield 10, 127, [0, 8, 0, 2052]), (127, .getfield 142, 130, [0, 3, 0, 1144])],
  [(130, .getfield 179, 133, [0, 1, 3, 1090]), (133, .iload_n 1, 134, []), (134, .invokevirtual 152, 137, [0, 3, 1, 4044]), (137, .ireturn, 138, []), (138, .aload_n 0, 139, []), (139, .getfield 10, 142, [0, 8, 0, 2052]), (142, .getfield 142, 145, [0, 3, 0, 1144])],
  [(145, .iload_n 1, 146, []), (146, .invokevirtual 182, 149, [0, 41, 1, 4046]), (149, .ireturn, 150, []), (150, .new 185, 153, [1, 1]), (153, .dup, 154, []), (154, .ldc 187, 156, []), (156, .invokespecial 189, 159, []), (159, .athrow, 160, [])]]
noncomputable def z_r115 : List (List (List z_Row)) := [z_r115_0]
-- ClockParliament.billOf(II)I
set_option maxRecDepth 20000 in
noncomputable def z_r116_0 : List (List z_Row) := [[(0, .aload_n 0, 1, []), (1, .iload_n 1, 2, []), (2, .invokevirtual 190, 5, [0, 121, 1, 4071]), (5, .iload_n 2, 6, []), (6, .tableswitch 128 0 5 #[38, 53, 68, 83, 98, 113], 44, [134, 44, 59, 74, 89, 104, 119])],
  [],
  [(44, .aload_n 0, 45, []), (45, .getfield 10, 48, [0, 8, 0, 2052])],
  [(48, .getfield 170, 51, [0, 3, 1, 1146]), (51, .getfield 174, 54, [0, 0, 0, 1115]), (54, .iload_n 1, 55, []), (55, .invokevirtual 152, 58, [0, 3, 1, 4044]), (58, .ireturn, 59, []), (59, .aload_n 0, 60, []), (60, .getfield 10, 63, [0, 8, 0, 2052]), (63, .getfield 170, 66, [0, 3, 1, 1146])],
  [(66, .getfield 193, 69, [0, 0, 1, 1118]), (69, .iload_n 1, 70, []), (70, .invokevirtual 152, 73, [0, 3, 1, 4044]), (73, .ireturn, 74, []), (74, .aload_n 0, 75, []), (75, .getfield 10, 78, [0, 8, 0, 2052]), (78, .getfield 170, 81, [0, 3, 1, 1146])],
  [(81, .getfield 194, 84, [0, 0, 2, 1120]), (84, .iload_n 1, 85, []), (85, .invokevirtual 152, 88, [0, 3, 1, 4044]), (88, .ireturn, 89, []), (89, .aload_n 0, 90, []), (90, .getfield 10, 93, [0, 8, 0, 2052]), (93, .getfield 170, 96, [0, 3, 1, 1146])],
  [(96, .getfield 197, 99, [0, 0, 3, 1124]), (99, .iload_n 1, 100, []), (100, .invokevirtual 152, 103, [0, 3, 1, 4044]), (103, .ireturn, 104, []), (104, .aload_n 0, 105, []), (105, .getfield 10, 108, [0, 8, 0, 2052]), (108, .getfield 170, 111, [0, 3, 1, 1146]), (111, .getfield 200, 114, [0, 0, 5, 1129])],
  [(114, .iload_n 1, 115, []), (115, .invokevirtual 203, 118, [0, 10, 1, 4077]), (118, .ireturn, 119, []), (119, .aload_n 0, 120, []), (120, .getfield 10, 123, [0, 8, 0, 2052]), (123, .getfield 170, 126, [0, 3, 1, 1146]), (126, .getfield 206, 129, [0, 0, 4, 1126])],
  [(129, .iload_n 1, 130, []), (130, .invokevirtual 152, 133, [0, 3, 1, 4044]), (133, .ireturn, 134, []), (134, .new 185, 137, [1, 2]), (137, .dup, 138, []), (138, .ldc 209, 140, []), (140, .invokespecial 189, 143, []), (143, .athrow, 144, [])]]
noncomputable def z_r116 : List (List (List z_Row)) := [z_r116_0]
-- ClockParliament.keeper(I)I
set_option maxRecDepth 20000 in
noncomputable def z_r117_0 : List (List z_Row) := [[(0, .aload_n 0, 1, []), (1, .getfield 10, 4, [0, 8, 0, 2052]), (4, .getfield 142, 7, [0, 3, 0, 1144]), (7, .getfield 164, 10, [0, 1, 4, 1093]), (10, .iload_n 1, 11, []), (11, .invokevirtual 211, 14, [0, 2, 1, 4083]), (14, .ifCond .ne 13, 17, [27])],
  [(17, .new 215, 20, [1, 3]), (20, .dup, 21, []), (21, .ldc 217, 23, []), (23, .invokespecial 219, 26, []), (26, .athrow, 27, []), (27, .aload_n 0, 28, []), (28, .getfield 10, 31, [0, 8, 0, 2052]), (31, .getfield 142, 34, [0, 3, 0, 1144])],
  [(34, .getfield 164, 37, [0, 1, 4, 1093]), (37, .iload_n 1, 38, []), (38, .invokevirtual 152, 41, [0, 3, 1, 4044]), (41, .ireturn, 42, [])]]
noncomputable def z_r117 : List (List (List z_Row)) := [z_r117_0]
-- ClockParliament$Numbers.count()I
set_option maxRecDepth 20000 in
noncomputable def z_r118_0 : List (List z_Row) := [[(0, .aload_n 0, 1, []), (1, .getfield 9, 4, [0, 4, 1, 1065]), (4, .ireturn, 5, [])]]
noncomputable def z_r118 : List (List (List z_Row)) := [z_r118_0]
-- ClockParliament.apart(II)I
set_option maxRecDepth 20000 in
noncomputable def z_r119_0 : List (List z_Row) := [[(0, .aload_n 0, 1, []), (1, .iload_n 1, 2, []), (2, .invokevirtual 138, 5, [0, 120, 1, 4023]), (5, .aload_n 0, 6, []), (6, .iload_n 2, 7, []), (7, .invokevirtual 138, 10, [0, 120, 1, 4023]), (10, .aload_n 0, 11, []), (11, .getfield 10, 14, [0, 8, 0, 2052]), (14, .getfield 142, 17, [0, 3, 0, 1144])],
  [(17, .iload_n 1, 18, []), (18, .iload_n 2, 19, []), (19, .invokevirtual 224, 22, [0, 30, 2, 4089]), (22, .ireturn, 23, [])]]
noncomputable def z_r119 : List (List (List z_Row)) := [z_r119_0]
-- ClockParliament.checkClock(I)V
set_option maxRecDepth 20000 in
noncomputable def z_r120_0 : List (List z_Row) := [[(0, .aload_n 0, 1, []), (1, .getfield 10, 4, [0, 8, 0, 2052]), (4, .getfield 142, 7, [0, 3, 0, 1144]), (7, .iload_n 1, 8, []), (8, .invokevirtual 228, 11, [0, 28, 1, 4027]), (11, .ifCond .ne 13, 14, [24]), (14, .new 215, 17, [1, 4])],
  [(17, .dup, 18, []), (18, .ldc 229, 20, []), (20, .invokespecial 219, 23, []), (23, .athrow, 24, []), (24, .return_, 25, [])]]
noncomputable def z_r120 : List (List (List z_Row)) := [z_r120_0]
-- ClockParliament.checkBill(I)V
set_option maxRecDepth 20000 in
noncomputable def z_r121_0 : List (List z_Row) := [[(0, .aload_n 0, 1, []), (1, .getfield 10, 4, [0, 8, 0, 2052]), (4, .getfield 170, 7, [0, 3, 1, 1146]), (7, .iload_n 1, 8, []), (8, .invokevirtual 231, 11, [0, 52, 1, 4075]), (11, .ifCond .ne 13, 14, [24]), (14, .new 215, 17, [1, 5])],
  [(17, .dup, 18, []), (18, .ldc 232, 20, []), (20, .invokespecial 219, 23, []), (23, .athrow, 24, []), (24, .return_, 25, [])]]
noncomputable def z_r121 : List (List (List z_Row)) := [z_r121_0]
-- ClockParliament$Numbers.count()I
set_option maxRecDepth 20000 in
noncomputable def z_r122_0 : List (List z_Row) := [[(0, .aload_n 0, 1, []), (1, .getfield 9, 4, [0, 4, 1, 1065]), (4, .ireturn, 5, [])]]
noncomputable def z_r122 : List (List (List z_Row)) := [z_r122_0]
-- ClockParliament.rowIn(II)I
set_option maxRecDepth 20000 in
noncomputable def z_r123_0 : List (List z_Row) := [[(0, .aload_n 0, 1, []), (1, .iload_n 1, 2, []), (2, .bipush 24, 4, []), (4, .invokevirtual 238, 7, [0, 128, 2, 4094]), (7, .aload_n 0, 8, []), (8, .iload_n 1, 9, []), (9, .invokevirtual 242, 12, [0, 130, 1, 4099]), (12, .aload_n 0, 13, []), (13, .aload_n 0, 14, []), (14, .getfield 16, 17, [0, 8, 1, 2053])],
  [(17, .getfield 170, 20, [0, 3, 1, 1146]), (20, .getfield 200, 23, [0, 0, 5, 1129]), (23, .iload_n 2, 24, []), (24, .invokevirtual 234, 27, [0, 129, 2, 4105]), (27, .ireturn, 28, [])]]
noncomputable def z_r123 : List (List (List z_Row)) := [z_r123_0]
-- ClockParliament.rowAgain(II)I
set_option maxRecDepth 20000 in
noncomputable def z_r124_0 : List (List z_Row) := [[(0, .aload_n 0, 1, []), (1, .iload_n 1, 2, []), (2, .bipush 24, 4, []), (4, .invokevirtual 238, 7, [0, 128, 2, 4094]), (7, .aload_n 0, 8, []), (8, .getfield 10, 11, [0, 8, 0, 2052]), (11, .getfield 170, 14, [0, 3, 1, 1146]), (14, .iload_n 1, 15, []), (15, .iload_n 2, 16, [])],
  [(16, .invokevirtual 245, 19, [0, 60, 2, 4129]), (19, .istore_n 3, 20, []), (20, .iload_n 3, 21, []), (21, .iconst (-1), 22, []), (22, .if_icmp .ne 13, 25, [35]), (25, .new 248, 28, [1, 6]), (28, .dup, 29, []), (29, .ldc 250, 31, []), (31, .invokespecial 252, 34, [])],
  [(34, .athrow, 35, []), (35, .iload_n 3, 36, []), (36, .ireturn, 37, [])]]
noncomputable def z_r124 : List (List (List z_Row)) := [z_r124_0]
-- ClockParliament.next()I
set_option maxRecDepth 20000 in
noncomputable def z_r125_0 : List (List z_Row) := [[(0, .aload_n 0, 1, []), (1, .getfield 10, 4, [0, 8, 0, 2052]), (4, .getfield 170, 7, [0, 3, 1, 1146]), (7, .invokevirtual 253, 10, [0, 59, 0, 4145]), (10, .istore_n 1, 11, []), (11, .iload_n 1, 12, []), (12, .ifCond .ne 14, 15, [26]), (15, .new 248, 18, [1, 7])],
  [(18, .dup, 19, []), (19, .ldc_w 257, 22, []), (22, .invokespecial 252, 25, []), (25, .athrow, 26, []), (26, .iload_n 1, 27, []), (27, .ireturn, 28, [])]]
noncomputable def z_r125 : List (List (List z_Row)) := [z_r125_0]
-- ClockParliament.silentIn(I)I
set_option maxRecDepth 20000 in
noncomputable def z_r126_0 : List (List z_Row) := [[(0, .aload_n 0, 1, []), (1, .iload_n 1, 2, []), (2, .invokevirtual 138, 5, [0, 120, 1, 4023]), (5, .aload_n 0, 6, []), (6, .iconst 0, 7, []), (7, .invokevirtual 242, 10, [0, 130, 1, 4099]), (10, .iconst 0, 11, []), (11, .istore_n 2, 12, []), (12, .iload_n 2, 13, []), (13, .bipush 24, 15, []), (15, .if_icmp .ge 32, 18, [47])],
  [(18, .aload_n 0, 19, []), (19, .getfield 16, 22, [0, 8, 1, 2053]), (22, .getfield 142, 25, [0, 3, 0, 1144]), (25, .iload_n 1, 26, []), (26, .invokevirtual 259, 29, [0, 29, 1, 4154]), (29, .ifCond .ne 18, 32, [47])],
  [(32, .aload_n 0, 33, []), (33, .getfield 16, 36, [0, 8, 1, 2053]), (36, .iconst 1, 37, []), (37, .invokevirtual 262, 40, [0, 76, 1, 4104]), (40, .pop, 41, []), (41, .iinc 2 1, 44, []), (44, .goto (-32), 47, [12]), (47, .iload_n 2, 48, [])],
  [(48, .ireturn, 49, [])]]
noncomputable def z_r126 : List (List (List z_Row)) := [z_r126_0]
-- ClockParliament.secondIn(II)I
set_option maxRecDepth 20000 in
noncomputable def z_r127_0 : List (List z_Row) := [[(0, .aload_n 0, 1, []), (1, .iload_n 1, 2, []), (2, .invokevirtual 138, 5, [0, 120, 1, 4023]), (5, .aload_n 0, 6, []), (6, .iload_n 2, 7, []), (7, .bipush 48, 9, []), (9, .invokevirtual 238, 12, [0, 128, 2, 4094]), (12, .aload_n 0, 13, []), (13, .iload_n 2, 14, []), (14, .invokevirtual 242, 17, [0, 130, 1, 4099])],
  [(17, .aload_n 0, 18, []), (18, .getfield 16, 21, [0, 8, 1, 2053]), (21, .getfield 142, 24, [0, 3, 0, 1144]), (24, .getfield 146, 27, [0, 1, 0, 1082]), (27, .iload_n 1, 28, []), (28, .invokevirtual 152, 31, [0, 3, 1, 4044]), (31, .ireturn, 32, [])]]
noncomputable def z_r127 : List (List (List z_Row)) := [z_r127_0]
-- ClockParliament.checkRange(II)V
set_option maxRecDepth 20000 in
noncomputable def z_r128_0 : List (List z_Row) := [[(0, .iload_n 1, 1, []), (1, .ifCond .lt 8, 4, [9]), (4, .iload_n 1, 5, []), (5, .iload_n 2, 6, []), (6, .if_icmp .le 14, 9, [20]), (9, .new 185, 12, [1, 8]), (12, .dup, 13, []), (13, .ldc_w 265, 16, [])],
  [(16, .invokespecial 189, 19, []), (19, .athrow, 20, []), (20, .return_, 21, [])]]
noncomputable def z_r128 : List (List (List z_Row)) := [z_r128_0]
-- ClockParliament.billAt(LClockParliament$Numbers;I)I
set_option maxRecDepth 20000 in
noncomputable def z_r129_0 : List (List z_Row) := [[(0, .aload_n 1, 1, []), (1, .iload_n 2, 2, []), (2, .invokevirtual 211, 5, [0, 2, 1, 4083]), (5, .ifCond .ne 13, 8, [18]), (8, .new 248, 11, [1, 6]), (11, .dup, 12, []), (12, .ldc 250, 14, []), (14, .invokespecial 252, 17, [])],
  [(17, .athrow, 18, []), (18, .aload_n 1, 19, []), (19, .iload_n 2, 20, []), (20, .invokevirtual 152, 23, [0, 3, 1, 4044]), (23, .ireturn, 24, [])]]
noncomputable def z_r129 : List (List (List z_Row)) := [z_r129_0]
-- ClockParliament.foresee(I)V
set_option maxRecDepth 20000 in
noncomputable def z_r130_0 : List (List z_Row) := [[(0, .aload_n 0, 1, []), (1, .getfield 16, 4, [0, 8, 1, 2053]), (4, .aload_n 0, 5, []), (5, .getfield 10, 8, [0, 8, 0, 2052]), (8, .invokevirtual 267, 11, [0, 65, 1, 4103]), (11, .aload_n 0, 12, []), (12, .getfield 16, 15, [0, 8, 1, 2053]), (15, .iload_n 1, 16, [])],
  [(16, .invokevirtual 262, 19, [0, 76, 1, 4104]), (19, .pop, 20, []), (20, .return_, 21, [])]]
noncomputable def z_r130 : List (List (List z_Row)) := [z_r130_0]
-- ClockParliament.voters(I)I
set_option maxRecDepth 20000 in
noncomputable def z_r131_0 : List (List z_Row) := [[(0, .aload_n 0, 1, []), (1, .iload_n 1, 2, []), (2, .invokevirtual 190, 5, [0, 121, 1, 4071]), (5, .aload_n 0, 6, []), (6, .getfield 10, 9, [0, 8, 0, 2052]), (9, .iload_n 1, 10, []), (10, .invokevirtual 269, 13, [0, 77, 1, 4163]), (13, .ireturn, 14, [])]]
noncomputable def z_r131 : List (List (List z_Row)) := [z_r131_0]
-- ClockParliament.majority(I)I
set_option maxRecDepth 20000 in
noncomputable def z_r132_0 : List (List z_Row) := [[(0, .aload_n 0, 1, []), (1, .iload_n 1, 2, []), (2, .invokevirtual 190, 5, [0, 121, 1, 4071]), (5, .aload_n 0, 6, []), (6, .getfield 10, 9, [0, 8, 0, 2052]), (9, .iload_n 1, 10, []), (10, .invokevirtual 272, 13, [0, 78, 1, 4168]), (13, .ireturn, 14, [])]]
noncomputable def z_r132 : List (List (List z_Row)) := [z_r132_0]
-- ClockParliament.majorityAgain(I)I
set_option maxRecDepth 20000 in
noncomputable def z_r133_0 : List (List z_Row) := [[(0, .aload_n 0, 1, []), (1, .iload_n 1, 2, []), (2, .invokevirtual 190, 5, [0, 121, 1, 4071]), (5, .aload_n 0, 6, []), (6, .getfield 10, 9, [0, 8, 0, 2052]), (9, .iload_n 1, 10, []), (10, .invokevirtual 275, 13, [0, 80, 1, 4176]), (13, .ireturn, 14, [])]]
noncomputable def z_r133 : List (List (List z_Row)) := [z_r133_0]
-- ClockParliament.wouldCarry(I)Z
set_option maxRecDepth 20000 in
noncomputable def z_r134_0 : List (List z_Row) := [[(0, .aload_n 0, 1, []), (1, .iload_n 1, 2, []), (2, .invokevirtual 190, 5, [0, 121, 1, 4071]), (5, .aload_n 0, 6, []), (6, .getfield 10, 9, [0, 8, 0, 2052]), (9, .iload_n 1, 10, []), (10, .invokevirtual 278, 13, [0, 82, 1, 4188]), (13, .ireturn, 14, [])]]
noncomputable def z_r134 : List (List (List z_Row)) := [z_r134_0]
-- ClockParliament.carried()I
set_option maxRecDepth 20000 in
noncomputable def z_r135_0 : List (List z_Row) := [[(0, .iconst 0, 1, []), (1, .istore_n 1, 2, []), (2, .iconst 0, 3, []), (3, .istore_n 2, 4, []), (4, .iload_n 2, 5, []), (5, .aload_n 0, 6, []), (6, .getfield 10, 9, [0, 8, 0, 2052]), (9, .getfield 170, 12, [0, 3, 1, 1146]), (12, .invokevirtual 281, 15, [0, 51, 0, 4197]), (15, .if_icmp .ge 40, 18, [55])],
  [(18, .aload_n 0, 19, []), (19, .getfield 10, 22, [0, 8, 0, 2052]), (22, .getfield 170, 25, [0, 3, 1, 1146]), (25, .iload_n 2, 26, []), (26, .invokevirtual 284, 29, [0, 53, 1, 4198]), (29, .ifCond .ne 20, 32, [49])],
  [(32, .aload_n 0, 33, []), (33, .getfield 10, 36, [0, 8, 0, 2052]), (36, .iload_n 2, 37, []), (37, .invokevirtual 278, 40, [0, 82, 1, 4188]), (40, .ifCond .eq 9, 43, [49]), (43, .iload_n 1, 44, []), (44, .iconst 1, 45, []), (45, .iload_n 2, 46, []), (46, .ishl, 47, []), (47, .ior, 48, [])],
  [(48, .istore_n 1, 49, []), (49, .iinc 2 1, 52, []), (52, .goto (-48), 55, [4]), (55, .iload_n 1, 56, []), (56, .ireturn, 57, [])]]
noncomputable def z_r135 : List (List (List z_Row)) := [z_r135_0]
-- ClockParliament.weakest()I
set_option maxRecDepth 20000 in
noncomputable def z_r136_0 : List (List z_Row) := [[(0, .aload_n 0, 1, []), (1, .getfield 10, 4, [0, 8, 0, 2052]), (4, .getfield 142, 7, [0, 3, 0, 1144]), (7, .invokevirtual 287, 10, [0, 27, 0, 4203]), (10, .ifCond .ne 14, 13, [24]), (13, .new 248, 16, [1, 9])],
  [(16, .dup, 17, []), (17, .ldc_w 288, 20, []), (20, .invokespecial 252, 23, []), (23, .athrow, 24, []), (24, .aload_n 0, 25, []), (25, .getfield 10, 28, [0, 8, 0, 2052]), (28, .getfield 142, 31, [0, 3, 0, 1144]), (31, .invokevirtual 290, 34, [0, 43, 0, 4205])],
  [(34, .ireturn, 35, [])]]
noncomputable def z_r136 : List (List (List z_Row)) := [z_r136_0]
-- ClockParliament.circle(I)I
set_option maxRecDepth 20000 in
noncomputable def z_r137_0 : List (List z_Row) := [[(0, .aload_n 0, 1, []), (1, .iload_n 1, 2, []), (2, .invokevirtual 138, 5, [0, 120, 1, 4023]), (5, .aload_n 0, 6, []), (6, .getfield 10, 9, [0, 8, 0, 2052]), (9, .getfield 142, 12, [0, 3, 0, 1144]), (12, .iload_n 1, 13, []), (13, .invokevirtual 293, 16, [0, 42, 1, 4213])],
  [(16, .ireturn, 17, [])]]
noncomputable def z_r137 : List (List (List z_Row)) := [z_r137_0]
-- ClockParliament$Numbers.count()I
set_option maxRecDepth 20000 in
noncomputable def z_r138_0 : List (List z_Row) := [[(0, .aload_n 0, 1, []), (1, .getfield 9, 4, [0, 4, 1, 1065]), (4, .ireturn, 5, [])]]
noncomputable def z_r138 : List (List (List z_Row)) := [z_r138_0]
-- ClockParliament.isTold()Z
set_option maxRecDepth 20000 in
noncomputable def z_r139_0 : List (List z_Row) := [[(0, .aload_n 0, 1, []), (1, .invokevirtual 301, 4, [0, 140, 0, 4223]), (4, .ifCond .eq 21, 7, [25]), (7, .aload_n 0, 8, []), (8, .invokevirtual 305, 11, [0, 141, 0, 4227]), (11, .ifCond .eq 14, 14, [25]), (14, .aload_n 0, 15, []), (15, .invokevirtual 308, 18, [0, 142, 0, 4231])],
  [(18, .ifCond .eq 7, 21, [25]), (21, .iconst 1, 22, []), (22, .goto 4, 25, [26]), (25, .iconst 0, 26, []), (26, .ireturn, 27, [])]]
noncomputable def z_r139 : List (List (List z_Row)) := [z_r139_0]
-- ClockParliament.areMajoritiesTold()Z
set_option maxRecDepth 20000 in
noncomputable def z_r140_0 : List (List z_Row) := [[(0, .iconst 0, 1, []), (1, .istore_n 1, 2, []), (2, .iload_n 1, 3, []), (3, .aload_n 0, 4, []), (4, .getfield 10, 7, [0, 8, 0, 2052]), (7, .getfield 170, 10, [0, 3, 1, 1146]), (10, .invokevirtual 281, 13, [0, 51, 0, 4197]), (13, .if_icmp .ge 30, 16, [43])],
  [(16, .aload_n 0, 17, []), (17, .getfield 10, 20, [0, 8, 0, 2052]), (20, .iload_n 1, 21, []), (21, .invokevirtual 272, 24, [0, 78, 1, 4168]), (24, .aload_n 0, 25, []), (25, .getfield 10, 28, [0, 8, 0, 2052]), (28, .iload_n 1, 29, []), (29, .invokevirtual 275, 32, [0, 80, 1, 4176])],
  [(32, .if_icmp .eq 5, 35, [37]), (35, .iconst 0, 36, []), (36, .ireturn, 37, []), (37, .iinc 1 1, 40, []), (40, .goto (-38), 43, [2]), (43, .iconst 1, 44, []), (44, .ireturn, 45, [])]]
noncomputable def z_r140 : List (List (List z_Row)) := [z_r140_0]
-- ClockParliament.areRowsTold()Z
set_option maxRecDepth 20000 in
noncomputable def z_r141_0 : List (List z_Row) := [[(0, .aload_n 0, 1, []), (1, .iconst 0, 2, []), (2, .invokevirtual 242, 5, [0, 130, 1, 4099]), (5, .iconst 0, 6, []), (6, .istore_n 1, 7, []), (7, .iload_n 1, 8, []), (8, .bipush 24, 10, []), (10, .if_icmp .gt 81, 13, [91]), (13, .iconst 0, 14, []), (14, .istore_n 2, 15, []), (15, .iload_n 2, 16, [])],
  [(16, .bipush 10, 18, []), (18, .if_icmp .ge 58, 21, [76]), (21, .aload_n 0, 22, []), (22, .getfield 16, 25, [0, 8, 1, 2053]), (25, .getfield 170, 28, [0, 3, 1, 1146]), (28, .getfield 200, 31, [0, 0, 5, 1129]), (31, .astore_n 3, 32, [])],
  [(32, .aload_n 3, 33, []), (33, .iload_n 2, 34, []), (34, .invokevirtual 211, 37, [0, 2, 1, 4083]), (37, .ifCond .eq 11, 40, [48]), (40, .aload_n 3, 41, []), (41, .iload_n 2, 42, []), (42, .invokevirtual 152, 45, [0, 3, 1, 4044]), (45, .goto 4, 48, [49])],
  [(48, .iconst (-1), 49, []), (49, .istore 4, 51, []), (51, .iload 4, 53, []), (53, .aload_n 0, 54, []), (54, .getfield 10, 57, [0, 8, 0, 2052]), (57, .getfield 170, 60, [0, 3, 1, 1146]), (60, .iload_n 1, 61, []), (61, .iload_n 2, 62, []), (62, .invokevirtual 245, 65, [0, 60, 2, 4129])],
  [(65, .if_icmp .eq 5, 68, [70]), (68, .iconst 0, 69, []), (69, .ireturn, 70, []), (70, .iinc 2 1, 73, []), (73, .goto (-58), 76, [15]), (76, .aload_n 0, 77, []), (77, .getfield 16, 80, [0, 8, 1, 2053])],
  [(80, .iconst 1, 81, []), (81, .invokevirtual 262, 84, [0, 76, 1, 4104]), (84, .pop, 85, []), (85, .iinc 1 1, 88, []), (88, .goto (-81), 91, [7]), (91, .iconst 1, 92, []), (92, .ireturn, 93, [])]]
noncomputable def z_r141 : List (List (List z_Row)) := [z_r141_0]
-- ClockParliament.areBillsTold()Z
set_option maxRecDepth 20000 in
noncomputable def z_r142_0 : List (List z_Row) := [[(0, .iconst 0, 1, []), (1, .istore_n 1, 2, []), (2, .iload_n 1, 3, []), (3, .aload_n 0, 4, []), (4, .getfield 10, 7, [0, 8, 0, 2052]), (7, .getfield 170, 10, [0, 3, 1, 1146]), (10, .invokevirtual 281, 13, [0, 51, 0, 4197]), (13, .if_icmp .ge 50, 16, [63])],
  [(16, .aload_n 0, 17, []), (17, .getfield 10, 20, [0, 8, 0, 2052]), (20, .getfield 170, 23, [0, 3, 1, 1146]), (23, .getfield 200, 26, [0, 0, 5, 1129]), (26, .iload_n 1, 27, []), (27, .invokevirtual 203, 30, [0, 10, 1, 4077]), (30, .iconst (-1), 31, []), (31, .if_icmp .eq 7, 34, [38])],
  [(34, .iconst 1, 35, []), (35, .goto 4, 38, [39]), (38, .iconst 0, 39, []), (39, .istore_n 2, 40, []), (40, .iload_n 2, 41, []), (41, .aload_n 0, 42, []), (42, .getfield 10, 45, [0, 8, 0, 2052]), (45, .getfield 170, 48, [0, 3, 1, 1146])],
  [(48, .iload_n 1, 49, []), (49, .invokevirtual 284, 52, [0, 53, 1, 4198]), (52, .if_icmp .ne 5, 55, [57]), (55, .iconst 0, 56, []), (56, .ireturn, 57, []), (57, .iinc 1 1, 60, []), (60, .goto (-58), 63, [2]), (63, .iconst 1, 64, [])],
  [(64, .ireturn, 65, [])]]
noncomputable def z_r142 : List (List (List z_Row)) := [z_r142_0]
-- ClockParliament.append(C)I
set_option maxRecDepth 20000 in
noncomputable def z_r143_0 : List (List z_Row) := [[(0, .iload_n 1, 1, []), (1, .bipush 32, 3, []), (3, .if_icmp .lt 9, 6, [12]), (6, .iload_n 1, 7, []), (7, .bipush 126, 9, []), (9, .if_icmp .le 14, 12, [23]), (12, .new 185, 15, [1, 10]), (15, .dup, 16, [])],
  [(16, .ldc_w 311, 19, []), (19, .invokespecial 189, 22, []), (22, .athrow, 23, []), (23, .aload_n 0, 24, []), (24, .getfield 36, 27, [0, 8, 5, 2057]), (27, .invokevirtual 313, 30, [0, 90, 0, 6186]), (30, .bipush 60, 32, [])],
  [(32, .if_icmp .lt 14, 35, [46]), (35, .new 316, 38, [1, 11]), (38, .dup, 39, []), (39, .ldc_w 318, 42, []), (42, .invokespecial 320, 45, []), (45, .athrow, 46, []), (46, .aload_n 0, 47, []), (47, .getfield 36, 50, [0, 8, 5, 2057])],
  [(50, .iload_n 1, 51, []), (51, .invokevirtual 321, 54, [0, 91, 1, 7022]), (54, .ireturn, 55, [])]]
noncomputable def z_r143 : List (List (List z_Row)) := [z_r143_0]
-- ClockParliament.run()I
set_option maxRecDepth 20000 in
noncomputable def z_r144_0 : List (List z_Row) := [[(0, .aload_n 0, 1, []), (1, .aload_n 0, 2, []), (2, .getfield 36, 5, [0, 8, 5, 2057]), (5, .invokevirtual 325, 8, [0, 93, 0, 4239]), (8, .putfield 67, 11, [0, 8, 11, 2063]), (11, .aload_n 0, 12, []), (12, .getfield 67, 15, [0, 8, 11, 2063]), (15, .iconst (-1), 16, [])],
  [(16, .if_icmp .eq 21, 19, [37]), (19, .aload_n 0, 20, []), (20, .getfield 36, 23, [0, 8, 5, 2057]), (23, .invokevirtual 328, 26, [0, 92, 0, 5164]), (26, .new 185, 29, [1, 12]), (29, .dup, 30, []), (30, .ldc_w 329, 33, [])],
  [(33, .invokespecial 189, 36, []), (36, .athrow, 37, []), (37, .aload_n 0, 38, []), (38, .getfield 16, 41, [0, 8, 1, 2053]), (41, .aload_n 0, 42, []), (42, .getfield 10, 45, [0, 8, 0, 2052]), (45, .invokevirtual 267, 48, [0, 65, 1, 4103])],
  [(48, .iconst 0, 49, []), (49, .istore_n 1, 50, []), (50, .iload_n 1, 51, []), (51, .bipush 60, 53, []), (53, .if_icmp .gt 103, 56, [156]), (56, .aload_n 0, 57, []), (57, .getfield 36, 60, [0, 8, 5, 2057]), (60, .aload_n 0, 61, []), (61, .getfield 43, 64, [0, 8, 6, 2058])],
  [(64, .invokevirtual 331, 67, [0, 94, 1, 6120]), (67, .ifCond .eq 89, 70, [156]), (70, .aload_n 0, 71, []), (71, .getfield 10, 74, [0, 8, 0, 2052]), (74, .aload_n 0, 75, []), (75, .getfield 43, 78, [0, 8, 6, 2058]), (78, .aload_n 0, 79, []), (79, .getfield 57, 82, [0, 8, 8, 2060])],
  [(82, .invokevirtual 112, 85, [0, 66, 2, 2103]), (85, .ifCond .eq 53, 88, [138]), (88, .aload_n 0, 89, []), (89, .getfield 10, 92, [0, 8, 0, 2052]), (92, .aload_n 0, 93, []), (93, .getfield 16, 96, [0, 8, 1, 2053])],
  [(96, .invokevirtual 267, 99, [0, 65, 1, 4103]), (99, .aload_n 0, 100, []), (100, .getfield 61, 103, [0, 8, 9, 2061]), (103, .bipush 11, 105, []), (105, .iload_n 1, 106, []), (106, .invokevirtual 335, 109, [0, 16, 2, 6124]), (109, .aload_n 0, 110, []), (110, .getfield 64, 113, [0, 8, 10, 2062])],
  [(113, .aload_n 0, 114, []), (114, .getfield 57, 117, [0, 8, 8, 2060]), (117, .invokevirtual 116, 120, [0, 18, 1, 2229]), (120, .aload_n 0, 121, []), (121, .getfield 36, 124, [0, 8, 5, 2057]), (124, .invokevirtual 328, 127, [0, 92, 0, 5164]), (127, .new 123, 130, [1, 13])],
  [(130, .dup, 131, []), (131, .ldc_w 337, 134, []), (134, .invokespecial 127, 137, []), (137, .athrow, 138, []), (138, .aload_n 0, 139, []), (139, .getfield 10, 142, [0, 8, 0, 2052]), (142, .aload_n 0, 143, []), (143, .getfield 43, 146, [0, 8, 6, 2058])],
  [(146, .invokevirtual 134, 149, [0, 73, 1, 3095]), (149, .pop, 150, []), (150, .iinc 1 1, 153, []), (153, .goto (-103), 156, [50]), (156, .aload_n 0, 157, []), (157, .getfield 29, 160, [0, 8, 4, 2056])],
  [(160, .aload_n 0, 161, []), (161, .getfield 16, 164, [0, 8, 1, 2053]), (164, .invokevirtual 130, 167, [0, 85, 1, 3067]), (167, .aload_n 0, 168, []), (168, .getfield 36, 171, [0, 8, 5, 2057]), (171, .invokevirtual 328, 174, [0, 92, 0, 5164]), (174, .iload_n 1, 175, []), (175, .ireturn, 176, [])]]
noncomputable def z_r144 : List (List (List z_Row)) := [z_r144_0]
-- ClockParliament.faultPosition()I
set_option maxRecDepth 20000 in
noncomputable def z_r145_0 : List (List z_Row) := [[(0, .aload_n 0, 1, []), (1, .getfield 67, 4, [0, 8, 11, 2063]), (4, .ireturn, 5, [])]]
noncomputable def z_r145 : List (List (List z_Row)) := [z_r145_0]
-- ClockParliament.reason(IZ)I
set_option maxRecDepth 20000 in
noncomputable def z_r146_0 : List (List z_Row) := [[(0, .iload_n 1, 1, []), (1, .ifCond .eq 19, 4, [20]), (4, .iload_n 1, 5, []), (5, .iconst 1, 6, []), (6, .if_icmp .eq 14, 9, [20]), (9, .new 185, 12, [1, 14]), (12, .dup, 13, []), (13, .ldc_w 339, 16, [])],
  [(16, .invokespecial 189, 19, []), (19, .athrow, 20, []), (20, .iload_n 1, 21, []), (21, .ifCond .ne 10, 24, [31]), (24, .aload_n 0, 25, []), (25, .getfield 61, 28, [0, 8, 9, 2061]), (28, .goto 7, 31, [35]), (31, .aload_n 0, 32, [])],
  [(32, .getfield 64, 35, [0, 8, 10, 2062]), (35, .astore_n 3, 36, []), (36, .aload_n 3, 37, []), (37, .invokevirtual 341, 40, [0, 15, 0, 6135]), (40, .ifCond .eq 14, 43, [54]), (43, .new 248, 46, [1, 15]), (46, .dup, 47, []), (47, .ldc_w 344, 50, [])],
  [(50, .invokespecial 252, 53, []), (53, .athrow, 54, []), (54, .iload_n 2, 55, []), (55, .ifCond .eq 10, 58, [65]), (58, .aload_n 3, 59, []), (59, .getfield 346, 62, [0, 7, 1, 2046]), (62, .goto 7, 65, [69])],
  [(65, .aload_n 3, 66, []), (66, .getfield 349, 69, [0, 7, 0, 2044]), (69, .ireturn, 70, [])]]
noncomputable def z_r146 : List (List (List z_Row)) := [z_r146_0]
-- ClockParliament.tell(I)I
set_option maxRecDepth 20000 in
noncomputable def z_r147_0 : List (List z_Row) := [[(0, .aload_n 0, 1, []), (1, .iload_n 1, 2, []), (2, .invokevirtual 138, 5, [0, 120, 1, 4023]), (5, .aload_n 0, 6, []), (6, .getfield 10, 9, [0, 8, 0, 2052]), (9, .getfield 142, 12, [0, 3, 0, 1144]), (12, .astore_n 2, 13, []), (13, .aload_n 0, 14, []), (14, .iload_n 1, 15, []), (15, .invokevirtual 352, 18, [0, 151, 1, 6144])],
  [(18, .aload_n 0, 19, []), (19, .bipush 58, 21, []), (21, .aload_n 2, 22, []), (22, .getfield 146, 25, [0, 1, 0, 1082]), (25, .iload_n 1, 26, []), (26, .invokevirtual 152, 29, [0, 3, 1, 4044]), (29, .invokevirtual 355, 32, [0, 152, 2, 6150])],
  [(32, .aload_n 0, 33, []), (33, .bipush 126, 35, []), (35, .aload_n 2, 36, []), (36, .getfield 158, 39, [0, 1, 1, 1085]), (39, .iload_n 1, 40, []), (40, .invokevirtual 152, 43, [0, 3, 1, 4044]), (43, .invokevirtual 355, 46, [0, 152, 2, 6150]), (46, .aload_n 0, 47, []), (47, .bipush 60, 49, [])],
  [(49, .aload_n 2, 50, []), (50, .getfield 161, 53, [0, 1, 2, 1087]), (53, .iload_n 1, 54, []), (54, .invokevirtual 152, 57, [0, 3, 1, 4044]), (57, .invokevirtual 355, 60, [0, 152, 2, 6150]), (60, .iconst 0, 61, []), (61, .istore_n 3, 62, []), (62, .iload_n 3, 63, []), (63, .iconst 3, 64, [])],
  [(64, .if_icmp .ge 28, 67, [92]), (67, .aload_n 2, 68, []), (68, .getfield 164, 71, [0, 1, 4, 1093]), (71, .iload_n 3, 72, []), (72, .invokevirtual 152, 75, [0, 3, 1, 4044]), (75, .iload_n 1, 76, []), (76, .if_icmp .ne 10, 79, [86]), (79, .aload_n 0, 80, [])],
  [(80, .bipush 107, 82, []), (82, .iload_n 3, 83, []), (83, .invokevirtual 355, 86, [0, 152, 2, 6150]), (86, .iinc 3 1, 89, []), (89, .goto (-27), 92, [62]), (92, .aload_n 0, 93, []), (93, .getfield 50, 96, [0, 8, 7, 2059])],
  [(96, .invokevirtual 359, 99, [0, 308, 0, 6167]), (99, .ireturn, 100, [])]]
noncomputable def z_r147 : List (List (List z_Row)) := [z_r147_0]
-- ClockParliament.tellBill(I)I
set_option maxRecDepth 20000 in
noncomputable def z_r148_0 : List (List z_Row) := [[(0, .aload_n 0, 1, []), (1, .iload_n 1, 2, []), (2, .invokevirtual 190, 5, [0, 121, 1, 4071]), (5, .aload_n 0, 6, []), (6, .iload_n 1, 7, []), (7, .invokevirtual 352, 10, [0, 151, 1, 6144]), (10, .aload_n 0, 11, []), (11, .bipush 64, 13, []), (13, .aload_n 0, 14, []), (14, .getfield 10, 17, [0, 8, 0, 2052])],
  [(17, .getfield 170, 20, [0, 3, 1, 1146]), (20, .getfield 193, 23, [0, 0, 1, 1118]), (23, .iload_n 1, 24, []), (24, .invokevirtual 152, 27, [0, 3, 1, 4044]), (27, .invokevirtual 355, 30, [0, 152, 2, 6150]), (30, .aload_n 0, 31, []), (31, .bipush 43, 33, [])],
  [(33, .aload_n 0, 34, []), (34, .getfield 10, 37, [0, 8, 0, 2052]), (37, .getfield 170, 40, [0, 3, 1, 1146]), (40, .getfield 194, 43, [0, 0, 2, 1120]), (43, .iload_n 1, 44, []), (44, .invokevirtual 152, 47, [0, 3, 1, 4044]), (47, .invokevirtual 355, 50, [0, 152, 2, 6150])],
  [(50, .aload_n 0, 51, []), (51, .getfield 10, 54, [0, 8, 0, 2052]), (54, .getfield 170, 57, [0, 3, 1, 1146]), (57, .iload_n 1, 58, []), (58, .invokevirtual 284, 61, [0, 53, 1, 4198]), (61, .ifCond .eq 23, 64, [84])],
  [(64, .aload_n 0, 65, []), (65, .bipush 104, 67, []), (67, .aload_n 0, 68, []), (68, .getfield 10, 71, [0, 8, 0, 2052]), (71, .getfield 170, 74, [0, 3, 1, 1146]), (74, .getfield 197, 77, [0, 0, 3, 1124]), (77, .iload_n 1, 78, []), (78, .invokevirtual 152, 81, [0, 3, 1, 4044])],
  [(81, .invokevirtual 355, 84, [0, 152, 2, 6150]), (84, .aload_n 0, 85, []), (85, .getfield 50, 88, [0, 8, 7, 2059]), (88, .invokevirtual 359, 91, [0, 308, 0, 6167]), (91, .ireturn, 92, [])]]
noncomputable def z_r148 : List (List (List z_Row)) := [z_r148_0]
-- ClockParliament.tellRow()I
set_option maxRecDepth 20000 in
noncomputable def z_r149_0 : List (List z_Row) := [[(0, .aload_n 0, 1, []), (1, .getfield 10, 4, [0, 8, 0, 2052]), (4, .getfield 170, 7, [0, 3, 1, 1146]), (7, .getfield 200, 10, [0, 0, 5, 1129]), (10, .astore_n 1, 11, []), (11, .aload_n 0, 12, []), (12, .getfield 50, 15, [0, 8, 7, 2059]), (15, .iconst 0, 16, [])],
  [(16, .invokevirtual 360, 19, [0, 306, 1, 6148]), (19, .aload_n 1, 20, []), (20, .invokevirtual 363, 23, [0, 1, 0, 6176]), (23, .ifCond .le 12, 26, [35]), (26, .aload_n 0, 27, []), (27, .aload_n 1, 28, []), (28, .iconst 0, 29, []), (29, .invokevirtual 152, 32, [0, 3, 1, 4044])],
  [(32, .invokevirtual 352, 35, [0, 151, 1, 6144]), (35, .iconst 1, 36, []), (36, .istore_n 2, 37, []), (37, .iload_n 2, 38, []), (38, .aload_n 1, 39, []), (39, .invokevirtual 363, 42, [0, 1, 0, 6176]), (42, .if_icmp .ge 20, 45, [62]), (45, .aload_n 0, 46, []), (46, .bipush 32, 48, [])],
  [(48, .aload_n 1, 49, []), (49, .iload_n 2, 50, []), (50, .invokevirtual 152, 53, [0, 3, 1, 4044]), (53, .invokevirtual 355, 56, [0, 152, 2, 6150]), (56, .iinc 2 1, 59, []), (59, .goto (-22), 62, [37]), (62, .aload_n 0, 63, []), (63, .getfield 50, 66, [0, 8, 7, 2059])],
  [(66, .invokevirtual 359, 69, [0, 308, 0, 6167]), (69, .ireturn, 70, [])]]
noncomputable def z_r149 : List (List (List z_Row)) := [z_r149_0]
-- ClockParliament.character(I)C
set_option maxRecDepth 20000 in
noncomputable def z_r150_0 : List (List z_Row) := [[(0, .iload_n 1, 1, []), (1, .ifCond .lt 14, 4, [15]), (4, .iload_n 1, 5, []), (5, .aload_n 0, 6, []), (6, .getfield 50, 9, [0, 8, 7, 2059]), (9, .invokevirtual 359, 12, [0, 308, 0, 6167]), (12, .if_icmp .lt 14, 15, [26]), (15, .new 215, 18, [1, 16])],
  [(18, .dup, 19, []), (19, .ldc_w 364, 22, []), (22, .invokespecial 219, 25, []), (25, .athrow, 26, []), (26, .aload_n 0, 27, []), (27, .getfield 50, 30, [0, 8, 7, 2059]), (30, .iload_n 1, 31, []), (31, .invokevirtual 366, 34, [0, 310, 1, 7058])],
  [(34, .ireturn, 35, [])]]
noncomputable def z_r150 : List (List (List z_Row)) := [z_r150_0]
-- ClockParliament.startLine(I)V
set_option maxRecDepth 20000 in
noncomputable def z_r151_0 : List (List z_Row) := [[(0, .aload_n 0, 1, []), (1, .getfield 50, 4, [0, 8, 7, 2059]), (4, .iconst 0, 5, []), (5, .invokevirtual 360, 8, [0, 306, 1, 6148]), (8, .aload_n 0, 9, []), (9, .getfield 50, 12, [0, 8, 7, 2059]), (12, .iload_n 1, 13, []), (13, .invokevirtual 370, 16, [0, 304, 1, 6149])],
  [(16, .pop, 17, []), (17, .return_, 18, [])]]
noncomputable def z_r151 : List (List (List z_Row)) := [z_r151_0]
-- ClockParliament.write(CI)V
set_option maxRecDepth 20000 in
noncomputable def z_r152_0 : List (List z_Row) := [[(0, .aload_n 0, 1, []), (1, .getfield 50, 4, [0, 8, 7, 2059]), (4, .iload_n 1, 5, []), (5, .invokevirtual 374, 8, [0, 302, 1, 6154]), (8, .pop, 9, []), (9, .aload_n 0, 10, []), (10, .getfield 50, 13, [0, 8, 7, 2059]), (13, .iload_n 2, 14, []), (14, .invokevirtual 370, 17, [0, 304, 1, 6149])],
  [(17, .pop, 18, []), (18, .return_, 19, [])]]
noncomputable def z_r152 : List (List (List z_Row)) := [z_r152_0]
-- ClockParliament.account(I)I
set_option maxRecDepth 20000 in
noncomputable def z_r153_0 : List (List z_Row) := [[(0, .iload_n 1, 1, []), (1, .tableswitch 213 0 13 #[71, 82, 97, 108, 119, 127, 141, 149, 157, 173, 181, 189, 197, 205], 72, [214, 72, 83, 98, 109, 120, 128, 142, 150, 158, 174, 182, 190, 198, 206])],
  [],
  [],
  [],
  [(72, .aload_n 0, 73, []), (73, .getfield 10, 76, [0, 8, 0, 2052]), (76, .getfield 142, 79, [0, 3, 0, 1144]), (79, .invokevirtual 287, 82, [0, 27, 0, 4203])],
  [(82, .ireturn, 83, []), (83, .aload_n 0, 84, []), (84, .getfield 10, 87, [0, 8, 0, 2052]), (87, .getfield 142, 90, [0, 3, 0, 1144]), (90, .getfield 158, 93, [0, 1, 1, 1085]), (93, .iconst 0, 94, []), (94, .invokevirtual 167, 97, [0, 11, 1, 4045])],
  [(97, .ireturn, 98, []), (98, .aload_n 0, 99, []), (99, .getfield 10, 102, [0, 8, 0, 2052]), (102, .getfield 170, 105, [0, 3, 1, 1146]), (105, .invokevirtual 281, 108, [0, 51, 0, 4197]), (108, .ireturn, 109, []), (109, .aload_n 0, 110, []), (110, .getfield 10, 113, [0, 8, 0, 2052])],
  [(113, .getfield 170, 116, [0, 3, 1, 1146]), (116, .invokevirtual 377, 119, [0, 54, 0, 6181]), (119, .ireturn, 120, []), (120, .aload_n 0, 121, []), (121, .getfield 10, 124, [0, 8, 0, 2052]), (124, .getfield 380, 127, [0, 3, 2, 1148]), (127, .ireturn, 128, [])],
  [(128, .aload_n 0, 129, []), (129, .getfield 10, 132, [0, 8, 0, 2052]), (132, .getfield 142, 135, [0, 3, 0, 1144]), (135, .getfield 158, 138, [0, 1, 1, 1085]), (138, .invokevirtual 383, 141, [0, 12, 0, 6182]), (141, .ireturn, 142, []), (142, .aload_n 0, 143, []), (143, .getfield 10, 146, [0, 8, 0, 2052])],
  [(146, .getfield 386, 149, [0, 3, 3, 1150]), (149, .ireturn, 150, []), (150, .aload_n 0, 151, []), (151, .getfield 10, 154, [0, 8, 0, 2052]), (154, .getfield 389, 157, [0, 3, 4, 1152]), (157, .ireturn, 158, []), (158, .aload_n 0, 159, []), (159, .getfield 10, 162, [0, 8, 0, 2052])],
  [(162, .getfield 386, 165, [0, 3, 3, 1150]), (165, .aload_n 0, 166, []), (166, .getfield 10, 169, [0, 8, 0, 2052]), (169, .getfield 389, 172, [0, 3, 4, 1152]), (172, .isub, 173, []), (173, .ireturn, 174, []), (174, .aload_n 0, 175, []), (175, .getfield 10, 178, [0, 8, 0, 2052])],
  [(178, .getfield 392, 181, [0, 3, 5, 1154]), (181, .ireturn, 182, []), (182, .aload_n 0, 183, []), (183, .getfield 10, 186, [0, 8, 0, 2052]), (186, .getfield 395, 189, [0, 3, 6, 1156]), (189, .ireturn, 190, []), (190, .aload_n 0, 191, []), (191, .getfield 10, 194, [0, 8, 0, 2052])],
  [(194, .getfield 398, 197, [0, 3, 7, 1158]), (197, .ireturn, 198, []), (198, .aload_n 0, 199, []), (199, .getfield 36, 202, [0, 8, 5, 2057]), (202, .invokevirtual 313, 205, [0, 90, 0, 6186]), (205, .ireturn, 206, []), (206, .aload_n 0, 207, []), (207, .getfield 29, 210, [0, 8, 4, 2056])],
  [(210, .getfield 401, 213, [0, 2, 2, 1188]), (213, .ireturn, 214, []), (214, .new 185, 217, [1, 17]), (217, .dup, 218, []), (218, .ldc_w 403, 221, []), (221, .invokespecial 189, 224, [])],
  [(224, .athrow, 225, [])]]
noncomputable def z_r153 : List (List (List z_Row)) := [z_r153_0]
-- ClockParliament$Numbers.count()I
set_option maxRecDepth 20000 in
noncomputable def z_r154_0 : List (List z_Row) := [[(0, .aload_n 0, 1, []), (1, .getfield 9, 4, [0, 4, 1, 1065]), (4, .ireturn, 5, [])]]
noncomputable def z_r154 : List (List (List z_Row)) := [z_r154_0]
-- ClockParliament.carriedShare()F
set_option maxRecDepth 20000 in
noncomputable def z_r155_0 : List (List z_Row) := [[(0, .aload_n 0, 1, []), (1, .getfield 10, 4, [0, 8, 0, 2052]), (4, .getfield 386, 7, [0, 3, 3, 1150]), (7, .ifCond .ne 14, 10, [21]), (10, .new 405, 13, [1, 18]), (13, .dup, 14, []), (14, .ldc_w 408, 17, [])],
  [(17, .invokespecial 407, 20, []), (20, .athrow, 21, []), (21, .aload_n 0, 22, []), (22, .getfield 10, 25, [0, 8, 0, 2052]), (25, .getfield 389, 28, [0, 3, 4, 1152]), (28, .i2f, 29, []), (29, .aload_n 0, 30, []), (30, .getfield 10, 33, [0, 8, 0, 2052])],
  [(33, .getfield 386, 36, [0, 3, 3, 1150]), (36, .i2f, 37, []), (37, .fdiv, 38, []), (38, .freturn, 39, [])]]
noncomputable def z_r155 : List (List (List z_Row)) := [z_r155_0]
-- ClockParliament.undo()I
set_option maxRecDepth 20000 in
noncomputable def z_r156_0 : List (List z_Row) := [[(0, .aload_n 0, 1, []), (1, .getfield 29, 4, [0, 8, 4, 2056]), (4, .getfield 401, 7, [0, 2, 2, 1188]), (7, .ifCond .ne 14, 10, [21]), (10, .new 316, 13, [1, 19]), (13, .dup, 14, []), (14, .ldc_w 410, 17, [])],
  [(17, .invokespecial 320, 20, []), (20, .athrow, 21, []), (21, .aload_n 0, 22, []), (22, .getfield 29, 25, [0, 8, 4, 2056]), (25, .aload_n 0, 26, []), (26, .getfield 10, 29, [0, 8, 0, 2052]), (29, .invokevirtual 412, 32, [0, 86, 1, 6231])],
  [(32, .ireturn, 33, [])]]
noncomputable def z_r156 : List (List (List z_Row)) := [z_r156_0]
-- ClockParliament.save()I
set_option maxRecDepth 20000 in
noncomputable def z_r157_0 : List (List z_Row) := [[(0, .aload_n 0, 1, []), (1, .getfield 19, 4, [0, 8, 2, 2054]), (4, .aload_n 0, 5, []), (5, .getfield 10, 8, [0, 8, 0, 2052]), (8, .invokevirtual 267, 11, [0, 65, 1, 4103]), (11, .aload_n 0, 12, []), (12, .iconst 1, 13, []), (13, .putfield 22, 16, [0, 8, 3, 2055])],
  [(16, .aload_n 0, 17, []), (17, .getfield 10, 20, [0, 8, 0, 2052]), (20, .getfield 142, 23, [0, 3, 0, 1144]), (23, .invokevirtual 287, 26, [0, 27, 0, 4203]), (26, .ireturn, 27, [])]]
noncomputable def z_r157 : List (List (List z_Row)) := [z_r157_0]
-- ClockParliament.restore()I
set_option maxRecDepth 20000 in
noncomputable def z_r158_0 : List (List z_Row) := [[(0, .aload_n 0, 1, []), (1, .getfield 22, 4, [0, 8, 3, 2055]), (4, .ifCond .ne 14, 7, [18]), (7, .new 316, 10, [1, 20]), (10, .dup, 11, []), (11, .ldc_w 416, 14, []), (14, .invokespecial 320, 17, [])],
  [(17, .athrow, 18, []), (18, .aload_n 0, 19, []), (19, .getfield 10, 22, [0, 8, 0, 2052]), (22, .aload_n 0, 23, []), (23, .getfield 19, 26, [0, 8, 2, 2054]), (26, .invokevirtual 267, 29, [0, 65, 1, 4103]), (29, .aload_n 0, 30, []), (30, .getfield 29, 33, [0, 8, 4, 2056])],
  [(33, .invokevirtual 418, 36, [0, 87, 0, 7004]), (36, .aload_n 0, 37, []), (37, .getfield 10, 40, [0, 8, 0, 2052]), (40, .getfield 142, 43, [0, 3, 0, 1144]), (43, .invokevirtual 287, 46, [0, 27, 0, 4203]), (46, .ireturn, 47, [])]]
noncomputable def z_r158 : List (List (List z_Row)) := [z_r158_0]
-- ClockParliament.isIn(II)Z
set_option maxRecDepth 20000 in
noncomputable def z_r159_0 : List (List z_Row) := [[(0, .iload_n 0, 1, []), (1, .iload_n 1, 2, []), (2, .ishr, 3, []), (3, .iconst 1, 4, []), (4, .iand, 5, []), (5, .ifCond .eq 7, 8, [12]), (8, .iconst 1, 9, []), (9, .goto 4, 12, [13]), (12, .iconst 0, 13, []), (13, .ireturn, 14, [])]]
noncomputable def z_r159 : List (List (List z_Row)) := [z_r159_0]
-- java/lang/StringBuilder.append(Ljava/lang/String;)Ljava/lang/StringBuilder;
set_option maxRecDepth 20000 in
noncomputable def z_r160_0 : List (List z_Row) := [[(0, .aload_n 0, 1, []), (1, .aload_n 1, 2, []), (2, .invokespecial 29, 5, [6, 161, 1, 5228]), (5, .pop, 6, []), (6, .aload_n 0, 7, []), (7, .areturn, 8, [])]]
noncomputable def z_r160 : List (List (List z_Row)) := [z_r160_0]
-- java/lang/AbstractStringBuilder.append(Ljava/lang/String;)Ljava/lang/AbstractStringBuilder;
set_option maxRecDepth 20000 in
noncomputable def z_r161_0 : List (List z_Row) := [[(0, .aload_n 1, 1, []), (1, .ifnonnull 8, 4, [9]), (4, .aload_n 0, 5, []), (5, .invokevirtual 204, 8, []), (8, .areturn, 9, []), (9, .aload_n 1, 10, []), (10, .invokevirtual 32, 13, [0, 331, 0, 6001]), (13, .istore_n 2, 14, []), (14, .aload_n 0, 15, []), (15, .aload_n 0, 16, [])],
  [(16, .getfield 79, 19, [0, 10, 3, 1224]), (19, .iload_n 2, 20, []), (20, .iadd, 21, []), (21, .invokevirtual 100, 24, [10, 312, 1, 5175]), (24, .aload_n 0, 25, []), (25, .aload_n 0, 26, []), (26, .getfield 79, 29, [0, 10, 3, 1224]), (29, .aload_n 1, 30, []), (30, .invokevirtual 208, 33, [10, 162, 2, 6002])],
  [(33, .aload_n 0, 34, []), (34, .dup, 35, []), (35, .getfield 79, 38, [0, 10, 3, 1224]), (38, .iload_n 2, 39, []), (39, .iadd, 40, []), (40, .putfield 79, 43, [0, 10, 3, 1224]), (43, .aload_n 0, 44, []), (44, .areturn, 45, [])]]
noncomputable def z_r161 : List (List (List z_Row)) := [z_r161_0]
-- java/lang/AbstractStringBuilder.putStringAt(ILjava/lang/String;)V
set_option maxRecDepth 20000 in
noncomputable def z_r162_0 : List (List z_Row) := [[(0, .aload_n 0, 1, []), (1, .aload_n 2, 2, []), (2, .invokevirtual 397, 5, [10, 163, 1, 6006]), (5, .aload_n 2, 6, []), (6, .aload_n 0, 7, []), (7, .getfield 15, 10, [0, 10, 0, 1220]), (10, .iload_n 1, 11, []), (11, .aload_n 0, 12, []), (12, .getfield 22, 15, [0, 10, 1, 1221]), (15, .invokevirtual 399, 18, [0, 164, 3, 6030])],
  [(18, .return_, 19, [])]]
noncomputable def z_r162 : List (List (List z_Row)) := [z_r162_0]
-- java/lang/AbstractStringBuilder.inflateIfNeededFor(Ljava/lang/String;)V
set_option maxRecDepth 20000 in
noncomputable def z_r163_0 : List (List z_Row) := [[(0, .getstatic 18, 3, [12, 1211]), (3, .ifCond .eq 18, 6, [21]), (6, .aload_n 0, 7, []), (7, .getfield 22, 10, [0, 10, 1, 1221]), (10, .aload_n 1, 11, []), (11, .invokevirtual 40, 14, [0, 332, 0, 6010]), (14, .if_icmp .eq 7, 17, [21])],
  [(17, .aload_n 0, 18, []), (18, .invokevirtual 195, 21, []), (21, .return_, 22, [])]]
noncomputable def z_r163 : List (List (List z_Row)) := [z_r163_0]
-- java/lang/String.getBytes([BIB)V
set_option maxRecDepth 20000 in
noncomputable def z_r164_0 : List (List z_Row) := [[(0, .aload_n 0, 1, []), (1, .invokevirtual 335, 4, [0, 332, 0, 5068]), (4, .iload_n 3, 5, []), (5, .if_icmp .ne 23, 8, [28]), (8, .aload_n 0, 9, []), (9, .getfield 9, 12, [1, 2, 6104]), (12, .iconst 0, 13, []), (13, .aload_n 1, 14, []), (14, .iload_n 2, 15, []), (15, .iload_n 3, 16, [])],
  [(16, .ishl, 17, []), (17, .aload_n 0, 18, []), (18, .getfield 9, 21, [1, 2, 6104]), (21, .arraylength, 22, []), (22, .invokestatic 212, 25, [8, 0, 5, 6034]), (25, .goto 18, 28, [43]), (28, .aload_n 0, 29, []), (29, .getfield 9, 32, [1, 2, 6104])],
  [(32, .iconst 0, 33, []), (33, .aload_n 1, 34, []), (34, .iload_n 2, 35, []), (35, .aload_n 0, 36, []), (36, .getfield 9, 39, [1, 2, 6104]), (39, .arraylength, 40, []), (40, .invokestatic 106, 43, []), (43, .return_, 44, [])]]
noncomputable def z_r164 : List (List (List z_Row)) := [z_r164_0]
-- java/lang/StringBuilder.toString()Ljava/lang/String;
set_option maxRecDepth 20000 in
noncomputable def z_r165_0 : List (List z_Row) := [[(0, .new 18, 3, [0, 9, 6067, 6068, 1011]), (3, .dup, 4, []), (4, .aload_n 0, 5, []), (5, .invokespecial 137, 8, [2, 166, 1, 6069]), (8, .areturn, 9, [])]]
noncomputable def z_r165 : List (List (List z_Row)) := [z_r165_0]
-- java/lang/String.<init>(Ljava/lang/StringBuilder;)V
set_option maxRecDepth 20000 in
noncomputable def z_r166_0 : List (List z_Row) := [[(0, .aload_n 0, 1, []), (1, .aload_n 1, 2, []), (2, .aconst_null, 3, []), (3, .invokespecial 489, 6, [2, 167, 2, 6072]), (6, .return_, 7, [])]]
noncomputable def z_r166 : List (List (List z_Row)) := [z_r166_0]
-- java/lang/String.<init>(Ljava/lang/AbstractStringBuilder;Ljava/lang/Void;)V
set_option maxRecDepth 20000 in
noncomputable def z_r167_0 : List (List z_Row) := [[(0, .aload_n 0, 1, []), (1, .invokespecial 1, 4, [7, 0, 0, 6075]), (4, .aload_n 1, 5, []), (5, .invokevirtual 552, 8, [10, 168, 0, 6076]), (8, .astore_n 3, 9, []), (9, .aload_n 1, 10, []), (10, .invokevirtual 549, 13, [10, 309, 0, 6081]), (13, .istore 4, 15, []), (15, .aload_n 1, 16, [])],
  [(16, .invokevirtual 1047, 19, [10, 314, 0, 6082]), (19, .ifCond .eq 22, 22, [41]), (22, .aload_n 0, 23, []), (23, .iconst 0, 24, []), (24, .putfield 15, 27, [0, 9, 1, 6105]), (27, .aload_n 0, 28, []), (28, .aload_n 3, 29, []), (29, .iconst 0, 30, []), (30, .iload 4, 32, [])],
  [(32, .invokestatic 54, 35, [1, 169, 3, 6083]), (35, .putfield 9, 38, [0, 9, 0, 6104]), (38, .goto 59, 41, [97]), (41, .getstatic 38, 44, [12, 5063]), (44, .ifCond .eq 35, 47, [79]), (47, .aload_n 1, 48, [])],
  [(48, .getfield 1048, 51, [0, 10, 2, 1223]), (51, .ifCond .eq 28, 54, [79]), (54, .aload_n 0, 55, []), (55, .aload_n 3, 56, []), (56, .iconst 0, 57, []), (57, .iload 4, 59, []), (59, .invokestatic 1051, 62, []), (62, .putfield 9, 65, [0, 9, 0, 6104])],
  [(65, .aload_n 0, 66, []), (66, .aload_n 0, 67, []), (67, .getfield 9, 70, [1, 2, 6104]), (70, .iload 4, 72, []), (72, .invokestatic 47, 75, []), (75, .putfield 15, 78, [0, 9, 1, 6105]), (78, .return_, 79, []), (79, .aload_n 0, 80, [])],
  [(80, .iconst 1, 81, []), (81, .putfield 15, 84, [0, 9, 1, 6105]), (84, .aload_n 0, 85, []), (85, .aload_n 3, 86, []), (86, .iconst 0, 87, []), (87, .iload 4, 89, []), (89, .iconst 1, 90, []), (90, .ishl, 91, []), (91, .invokestatic 54, 94, [1, 169, 3, 6083]), (94, .putfield 9, 97, [0, 9, 0, 6104])],
  [(97, .return_, 98, [])]]
noncomputable def z_r167 : List (List (List z_Row)) := [z_r167_0]
-- java/lang/AbstractStringBuilder.getValue()[B
set_option maxRecDepth 20000 in
noncomputable def z_r168_0 : List (List z_Row) := [[(0, .aload_n 0, 1, []), (1, .getfield 15, 4, [0, 10, 0, 1220]), (4, .areturn, 5, [])]]
noncomputable def z_r168 : List (List (List z_Row)) := [z_r168_0]
-- java/util/Arrays.copyOfRange([BII)[B
set_option maxRecDepth 20000 in
noncomputable def z_r169_0 : List (List z_Row) := [[(0, .iload_n 1, 1, []), (1, .ifCond .ne 9, 4, [10]), (4, .iload_n 2, 5, []), (5, .aload_n 0, 6, []), (6, .arraylength, 7, []), (7, .if_icmp .eq 10, 10, [17]), (10, .aload_n 0, 11, []), (11, .iload_n 1, 12, []), (12, .iload_n 2, 13, []), (13, .invokestatic 339, 16, [1, 170, 3, 6086])],
  [(16, .areturn, 17, []), (17, .aload_n 0, 18, []), (18, .invokevirtual 310, 21, []), (21, .checkcast 311, 24, []), (24, .areturn, 25, [])]]
noncomputable def z_r169 : List (List (List z_Row)) := [z_r169_0]
-- java/util/Arrays.copyOfRangeByte([BII)[B
set_option maxRecDepth 20000 in
noncomputable def z_r170_0 : List (List z_Row) := [[(0, .iload_n 1, 1, []), (1, .iload_n 2, 2, []), (2, .invokestatic 343, 5, [1, 171, 2, 6089]), (5, .iload_n 2, 6, []), (6, .iload_n 1, 7, []), (7, .isub, 8, []), (8, .istore_n 3, 9, []), (9, .iload_n 3, 10, []), (10, .newarray .byte, 12, [2, 1234]), (12, .astore 4, 14, []), (14, .aload_n 0, 15, []), (15, .iload_n 1, 16, [])],
  [(16, .aload 4, 18, []), (18, .iconst 0, 19, []), (19, .aload_n 0, 20, []), (20, .arraylength, 21, []), (21, .iload_n 1, 22, []), (22, .isub, 23, []), (23, .iload_n 3, 24, []), (24, .invokestatic 304, 27, [1, 318, 2, 5202]), (27, .invokestatic 150, 30, [8, 0, 5, 5203]), (30, .aload 4, 32, [])],
  [(32, .areturn, 33, [])]]
noncomputable def z_r170 : List (List (List z_Row)) := [z_r170_0]
-- java/util/Arrays.checkLength(II)V
set_option maxRecDepth 20000 in
noncomputable def z_r171_0 : List (List z_Row) := [[(0, .iload_n 1, 1, []), (1, .iload_n 0, 2, []), (2, .if_icmp .ge 35, 5, [37]), (5, .new 43, 8, []), (8, .dup, 9, []), (9, .new 45, 12, [0, 10, 5221, 1203, 1010]), (12, .dup, 13, []), (13, .invokespecial 47, 16, [2, 300, 0, 5222])],
  [(16, .iload_n 0, 17, []), (17, .invokevirtual 54, 20, [0, 304, 1, 6036]), (20, .ldc_w 337, 23, []), (23, .invokevirtual 50, 26, [0, 160, 1, 5224]), (26, .iload_n 1, 27, []), (27, .invokevirtual 54, 30, [0, 304, 1, 6036]), (30, .invokevirtual 61, 33, [0, 165, 0, 6063])],
  [(33, .invokespecial 65, 36, []), (36, .athrow, 37, []), (37, .return_, 38, [])]]
noncomputable def z_r171 : List (List (List z_Row)) := [z_r171_0]
-- ClockParliamentLaw.at([II)I
set_option maxRecDepth 20000 in
noncomputable def z_r172_0 : List (List z_Row) := [[(0, .iload_n 1, 1, []), (1, .aload_n 0, 2, []), (2, .arraylength, 3, []), (3, .if_icmp .ge 9, 6, [12]), (6, .aload_n 0, 7, []), (7, .iload_n 1, 8, []), (8, .iaload, 9, []), (9, .goto 4, 12, [13]), (12, .iconst 0, 13, []), (13, .ireturn, 14, [])]]
noncomputable def z_r172 : List (List (List z_Row)) := [z_r172_0]
-- ClockParliamentLaw.put(LClockParliament;Ljava/lang/String;)V
set_option maxRecDepth 20000 in
noncomputable def z_r173_0 : List (List z_Row) := [[(0, .iconst 0, 1, []), (1, .istore_n 2, 2, []), (2, .iload_n 2, 3, []), (3, .aload_n 1, 4, []), (4, .invokevirtual 7, 7, [0, 331, 0, 7014]), (7, .if_icmp .ge 19, 10, [26]), (10, .aload_n 0, 11, []), (11, .aload_n 1, 12, []), (12, .iload_n 2, 13, []), (13, .invokevirtual 13, 16, [0, 329, 1, 7015])],
  [(16, .invokevirtual 17, 19, [0, 143, 1, 7016]), (19, .pop, 20, []), (20, .iinc 2 1, 23, []), (23, .goto (-21), 26, [2]), (26, .return_, 27, [])]]
noncomputable def z_r173 : List (List (List z_Row)) := [z_r173_0]
-- ClockParliamentLaw.build([I)LClockParliament;
set_option maxRecDepth 20000 in
noncomputable def z_r174_0 : List (List z_Row) := [[(0, .new 18, 3, [0, 8, 1035, 1036, 1001]), (3, .dup, 4, []), (4, .invokespecial 23, 7, [2, 103, 0, 1037]), (7, .astore_n 1, 8, []), (8, .aload_n 0, 9, []), (9, .iconst 0, 10, []), (10, .invokestatic 24, 13, [1, 172, 2, 7008]), (13, .istore_n 2, 14, []), (14, .iconst 0, 15, []), (15, .istore_n 3, 16, [])],
  [(16, .iload_n 3, 17, []), (17, .iconst 2, 18, []), (18, .iload_n 2, 19, []), (19, .iconst 3, 20, []), (20, .iand, 21, []), (21, .iadd, 22, []), (22, .if_icmp .ge 39, 25, [61]), (25, .aload_n 1, 26, []), (26, .iconst 0, 27, []), (27, .iload_n 2, 28, []), (28, .iconst 2, 29, []), (29, .iconst 3, 30, []), (30, .iload_n 3, 31, []), (31, .imul, 32, [])],
  [(32, .iadd, 33, []), (33, .ishr, 34, []), (34, .bipush 63, 36, []), (36, .iand, 37, []), (37, .bipush 60, 39, []), (39, .irem, 40, []), (40, .iload_n 2, 41, []), (41, .bipush 12, 43, []), (43, .iconst 2, 44, []), (44, .iload_n 3, 45, []), (45, .imul, 46, []), (46, .iadd, 47, []), (47, .ishr, 48, [])],
  [(48, .iconst 3, 49, []), (49, .iand, 50, []), (50, .iconst 0, 51, []), (51, .invokestatic 30, 54, [9, 175, 5, 7030]), (54, .pop, 55, []), (55, .iinc 3 1, 58, []), (58, .goto (-42), 61, [16]), (61, .iconst 0, 62, []), (62, .istore_n 3, 63, []), (63, .iload_n 3, 64, [])],
  [(64, .iconst 3, 65, []), (65, .if_icmp .ge 25, 68, [90]), (68, .aload_n 1, 69, []), (69, .iconst 2, 70, []), (70, .iload_n 3, 71, []), (71, .iload_n 2, 72, []), (72, .bipush 20, 74, []), (74, .iload_n 3, 75, []), (75, .iadd, 76, []), (76, .ishr, 77, []), (77, .iconst 1, 78, []), (78, .iand, 79, []), (79, .iconst 0, 80, [])],
  [(80, .invokestatic 30, 83, [9, 175, 5, 7030]), (83, .pop, 84, []), (84, .iinc 3 1, 87, []), (87, .goto (-24), 90, [63]), (90, .iconst 1, 91, []), (91, .istore_n 3, 92, []), (92, .iload_n 3, 93, []), (93, .bipush 13, 95, []), (95, .if_icmp .ge 384, 98, [479])],
  [(98, .aload_n 0, 99, []), (99, .iload_n 3, 100, []), (100, .invokestatic 24, 103, [1, 172, 2, 7008]), (103, .istore 4, 105, []), (105, .iconst 1, 106, []), (106, .aload_n 1, 107, []), (107, .iconst 0, 108, []), (108, .invokevirtual 34, 111, [0, 153, 1, 6177]), (111, .invokestatic 38, 114, [1, 319, 2, 7046])],
  [(114, .istore 5, 116, []), (116, .iconst 1, 117, []), (117, .aload_n 1, 118, []), (118, .iconst 2, 119, []), (119, .invokevirtual 34, 122, [0, 153, 1, 6177]), (122, .invokestatic 38, 125, [1, 319, 2, 7046]), (125, .istore 6, 127, []), (127, .iload 4, 129, [])],
  [(129, .bipush 7, 131, []), (131, .iand, 132, []), (132, .iload 5, 134, []), (134, .irem, 135, []), (135, .istore 7, 137, []), (137, .iload 4, 139, []), (139, .iconst 3, 140, []), (140, .ishr, 141, []), (141, .iconst 3, 142, []), (142, .iand, 143, []), (143, .ifCond .le 30, 146, [173])],
  [(146, .aload_n 1, 147, []), (147, .iconst 5, 148, []), (148, .iload 7, 150, []), (150, .iload 4, 152, []), (152, .iconst 5, 153, []), (153, .ishr, 154, []), (154, .bipush 63, 156, []), (156, .iand, 157, []), (157, .bipush 60, 159, []), (159, .irem, 160, [])],
  [(160, .iconst 1, 161, []), (161, .iload 4, 163, []), (163, .bipush 11, 165, []), (165, .ishr, 166, []), (166, .iconst 3, 167, []), (167, .iand, 168, []), (168, .iadd, 169, []), (169, .invokestatic 30, 172, [9, 175, 5, 7030]), (172, .pop, 173, []), (173, .iload 4, 175, []), (175, .bipush 13, 177, [])],
  [(177, .ishr, 178, []), (178, .iconst 3, 179, []), (179, .iand, 180, []), (180, .ifCond .ne 31, 183, [211]), (183, .aload_n 1, 184, []), (184, .iconst 4, 185, []), (185, .iload 4, 187, []), (187, .bipush 15, 189, []), (189, .ishr, 190, []), (190, .bipush 7, 192, [])],
  [(192, .iand, 193, []), (193, .iload 5, 195, []), (195, .irem, 196, []), (196, .iconst 1, 197, []), (197, .iload 4, 199, []), (199, .bipush 18, 201, []), (201, .ishr, 202, []), (202, .bipush 31, 204, []), (204, .iand, 205, []), (205, .iadd, 206, []), (206, .iconst 0, 207, []), (207, .invokestatic 30, 210, [9, 175, 5, 7030])],
  [(210, .pop, 211, []), (211, .iload 4, 213, []), (213, .bipush 13, 215, []), (215, .ishr, 216, []), (216, .iconst 3, 217, []), (217, .iand, 218, []), (218, .iconst 1, 219, []), (219, .if_icmp .ne 31, 222, [250]), (222, .aload_n 1, 223, []), (223, .bipush 6, 225, [])],
  [(225, .iload 4, 227, []), (227, .bipush 15, 229, []), (229, .ishr, 230, []), (230, .bipush 15, 232, []), (232, .iand, 233, []), (233, .iload 6, 235, []), (235, .irem, 236, []), (236, .iconst 1, 237, []), (237, .iload 4, 239, []), (239, .bipush 19, 241, [])],
  [(241, .ishr, 242, []), (242, .iconst 3, 243, []), (243, .iand, 244, []), (244, .iadd, 245, []), (245, .iconst 0, 246, []), (246, .invokestatic 30, 249, [9, 175, 5, 7030]), (249, .pop, 250, []), (250, .iload 4, 252, []), (252, .bipush 13, 254, []), (254, .ishr, 255, []), (255, .bipush 7, 257, [])]]
set_option maxRecDepth 20000 in
noncomputable def z_r174_1 : List (List z_Row) := [[(257, .iand, 258, []), (258, .iconst 2, 259, []), (259, .if_icmp .ne 13, 262, [272]), (262, .aload_n 1, 263, []), (263, .bipush 8, 265, []), (265, .iconst 0, 266, []), (266, .iconst 0, 267, []), (267, .iconst 0, 268, []), (268, .invokestatic 30, 271, [9, 175, 5, 7030]), (271, .pop, 272, [])],
  [(272, .iload 4, 274, []), (274, .bipush 13, 276, []), (276, .ishr, 277, []), (277, .bipush 7, 279, []), (279, .iand, 280, []), (280, .iconst 3, 281, []), (281, .if_icmp .ne 22, 284, [303]), (284, .aload_n 1, 285, []), (285, .bipush 9, 287, []), (287, .iconst 1, 288, [])],
  [(288, .iload 4, 290, []), (290, .bipush 16, 292, []), (292, .ishr, 293, []), (293, .bipush 7, 295, []), (295, .iand, 296, []), (296, .iadd, 297, []), (297, .iconst 0, 298, []), (298, .iconst 0, 299, []), (299, .invokestatic 30, 302, [9, 175, 5, 7030]), (302, .pop, 303, []), (303, .iload 4, 305, [])],
  [(305, .bipush 13, 307, []), (307, .ishr, 308, []), (308, .bipush 7, 310, []), (310, .iand, 311, []), (311, .bipush 6, 313, []), (313, .if_icmp .ne 30, 316, [343]), (316, .aload_n 1, 317, []), (317, .iconst 3, 318, []), (318, .iload 4, 320, [])],
  [(320, .bipush 16, 322, []), (322, .ishr, 323, []), (323, .iconst 3, 324, []), (324, .iand, 325, []), (325, .iconst 3, 326, []), (326, .irem, 327, []), (327, .iload 4, 329, []), (329, .bipush 18, 331, []), (331, .ishr, 332, []), (332, .bipush 7, 334, []), (334, .iand, 335, []), (335, .iload 5, 337, [])],
  [(337, .irem, 338, []), (338, .iconst 0, 339, []), (339, .invokestatic 30, 342, [9, 175, 5, 7030]), (342, .pop, 343, []), (343, .iload 4, 345, []), (345, .bipush 13, 347, []), (347, .ishr, 348, []), (348, .bipush 15, 350, []), (350, .iand, 351, []), (351, .bipush 7, 353, [])],
  [(353, .if_icmp .ne 23, 356, [376]), (356, .aload_n 1, 357, []), (357, .bipush 7, 359, []), (359, .iload 4, 361, []), (361, .bipush 17, 363, []), (363, .ishr, 364, []), (364, .bipush 15, 366, []), (366, .iand, 367, []), (367, .iload 6, 369, [])],
  [(369, .irem, 370, []), (370, .iconst 0, 371, []), (371, .iconst 0, 372, []), (372, .invokestatic 30, 375, [9, 175, 5, 7030]), (375, .pop, 376, []), (376, .iload 4, 378, []), (378, .bipush 13, 380, []), (380, .ishr, 381, []), (381, .bipush 31, 383, []), (383, .iand, 384, [])],
  [(384, .bipush 15, 386, []), (386, .if_icmp .ne 22, 389, [408]), (389, .aload_n 1, 390, []), (390, .iconst 1, 391, []), (391, .iload 4, 393, []), (393, .bipush 18, 395, []), (395, .ishr, 396, []), (396, .bipush 7, 398, []), (398, .iand, 399, []), (399, .iload 5, 401, [])],
  [(401, .irem, 402, []), (402, .iconst 0, 403, []), (403, .iconst 0, 404, []), (404, .invokestatic 30, 407, [9, 175, 5, 7030]), (407, .pop, 408, []), (408, .iload 4, 410, []), (410, .bipush 23, 412, []), (412, .ishr, 413, []), (413, .bipush 7, 415, []), (415, .iand, 416, [])],
  [(416, .ifCond .ne 27, 419, [443]), (419, .aload_n 1, 420, []), (420, .iconst 0, 421, []), (421, .iload 4, 423, []), (423, .iconst 5, 424, []), (424, .ishr, 425, []), (425, .bipush 63, 427, []), (427, .iand, 428, []), (428, .bipush 60, 430, []), (430, .irem, 431, []), (431, .iload 4, 433, [])],
  [(433, .bipush 26, 435, []), (435, .ishr, 436, []), (436, .iconst 3, 437, []), (437, .iand, 438, []), (438, .iconst 0, 439, []), (439, .invokestatic 30, 442, [9, 175, 5, 7030]), (442, .pop, 443, []), (443, .iload 4, 445, []), (445, .bipush 23, 447, []), (447, .ishr, 448, [])],
  [(448, .bipush 7, 450, []), (450, .iand, 451, []), (451, .iconst 1, 452, []), (452, .if_icmp .ne 21, 455, [473]), (455, .aload_n 1, 456, []), (456, .bipush 9, 458, []), (458, .iconst 1, 459, []), (459, .iload 4, 461, []), (461, .bipush 26, 463, []), (463, .ishr, 464, [])],
  [(464, .iconst 3, 465, []), (465, .iand, 466, []), (466, .iadd, 467, []), (467, .iconst 0, 468, []), (468, .iconst 0, 469, []), (469, .invokestatic 30, 472, [9, 175, 5, 7030]), (472, .pop, 473, []), (473, .iinc 3 1, 476, []), (476, .goto (-384), 479, [92]), (479, .aload_n 1, 480, [])],
  [(480, .areturn, 481, [])]]
noncomputable def z_r174 : List (List (List z_Row)) := [z_r174_0, z_r174_1]
-- ClockParliamentLaw.act(LClockParliament;IIII)I
set_option maxRecDepth 20000 in
noncomputable def z_r175_0 : List (List z_Row) := [[(0, .iload_n 1, 1, []), (1, .tableswitch 112 0 8 #[51, 58, 64, 71, 78, 85, 94, 101, 107], 52, [113, 52, 59, 65, 72, 79, 86, 95, 102, 108])],
  [],
  [],
  [(52, .aload_n 0, 53, []), (53, .iload_n 2, 54, []), (54, .iload_n 3, 55, []), (55, .invokevirtual 44, 58, [0, 104, 2, 7034]), (58, .ireturn, 59, []), (59, .aload_n 0, 60, []), (60, .iload_n 2, 61, []), (61, .invokevirtual 47, 64, [0, 105, 1, 2089])],
  [(64, .ireturn, 65, []), (65, .aload_n 0, 66, []), (66, .iload_n 2, 67, []), (67, .iload_n 3, 68, []), (68, .invokevirtual 50, 71, [0, 106, 2, 3218]), (71, .ireturn, 72, []), (72, .aload_n 0, 73, []), (73, .iload_n 2, 74, []), (74, .iload_n 3, 75, []), (75, .invokevirtual 53, 78, [0, 107, 2, 3224]), (78, .ireturn, 79, []), (79, .aload_n 0, 80, [])],
  [(80, .iload_n 2, 81, []), (81, .iload_n 3, 82, []), (82, .invokevirtual 56, 85, [0, 108, 2, 3230]), (85, .ireturn, 86, []), (86, .aload_n 0, 87, []), (87, .iload_n 2, 88, []), (88, .iload_n 3, 89, []), (89, .iload 4, 91, []), (91, .invokevirtual 59, 94, [0, 109, 3, 3236]), (94, .ireturn, 95, []), (95, .aload_n 0, 96, [])],
  [(96, .iload_n 2, 97, []), (97, .iload_n 3, 98, []), (98, .invokevirtual 63, 101, [0, 110, 2, 4002]), (101, .ireturn, 102, []), (102, .aload_n 0, 103, []), (103, .iload_n 2, 104, []), (104, .invokevirtual 66, 107, [0, 111, 1, 7040]), (107, .ireturn, 108, []), (108, .aload_n 0, 109, []), (109, .invokevirtual 69, 112, [0, 112, 0, 4008])],
  [(112, .ireturn, 113, []), (113, .aload_n 0, 114, []), (114, .iload_n 2, 115, []), (115, .invokevirtual 72, 118, [0, 113, 1, 4013]), (118, .ireturn, 119, []), (119, .astore 5, 121, []), (121, .bipush (-99), 123, []), (123, .ireturn, 124, [])]]
noncomputable def z_r175 : List (List (List z_Row)) := [z_r175_0]
-- ClockParliamentLaw.state(LClockParliament;)I
set_option maxRecDepth 20000 in
noncomputable def z_r176_0 : List (List z_Row) := [[(0, .iconst 0, 1, []), (1, .istore_n 1, 2, []), (2, .iconst 0, 3, []), (3, .istore_n 2, 4, []), (4, .iload_n 2, 5, []), (5, .bipush 12, 7, []), (7, .if_icmp .ge 20, 10, [27]), (10, .bipush 31, 12, []), (12, .iload_n 1, 13, []), (13, .imul, 14, []), (14, .aload_n 0, 15, []), (15, .iload_n 2, 16, [])],
  [(16, .invokevirtual 34, 19, [0, 153, 1, 6177]), (19, .iadd, 20, []), (20, .istore_n 1, 21, []), (21, .iinc 2 1, 24, []), (24, .goto (-20), 27, [4]), (27, .iconst 0, 28, []), (28, .istore_n 2, 29, []), (29, .iload_n 2, 30, []), (30, .aload_n 0, 31, []), (31, .iconst 0, 32, [])],
  [(32, .invokevirtual 34, 35, [0, 153, 1, 6177]), (35, .if_icmp .ge 35, 38, [70]), (38, .iconst 0, 39, []), (39, .istore_n 3, 40, []), (40, .iload_n 3, 41, []), (41, .bipush 6, 43, []), (43, .if_icmp .ge 21, 46, [64]), (46, .bipush 31, 48, [])],
  [(48, .iload_n 1, 49, []), (49, .imul, 50, []), (50, .aload_n 0, 51, []), (51, .iload_n 2, 52, []), (52, .iload_n 3, 53, []), (53, .invokevirtual 77, 56, [0, 115, 2, 4019]), (56, .iadd, 57, []), (57, .istore_n 1, 58, []), (58, .iinc 3 1, 61, []), (61, .goto (-21), 64, [40])],
  [(64, .iinc 2 1, 67, []), (67, .goto (-38), 70, [29]), (70, .iconst 0, 71, []), (71, .istore_n 2, 72, []), (72, .iload_n 2, 73, []), (73, .aload_n 0, 74, []), (74, .iconst 2, 75, []), (75, .invokevirtual 34, 78, [0, 153, 1, 6177]), (78, .if_icmp .ge 35, 81, [113])],
  [(81, .iconst 0, 82, []), (82, .istore_n 3, 83, []), (83, .iload_n 3, 84, []), (84, .bipush 6, 86, []), (86, .if_icmp .ge 21, 89, [107]), (89, .bipush 31, 91, []), (91, .iload_n 1, 92, []), (92, .imul, 93, []), (93, .aload_n 0, 94, []), (94, .iload_n 2, 95, []), (95, .iload_n 3, 96, [])],
  [(96, .invokevirtual 80, 99, [0, 116, 2, 4067]), (99, .iadd, 100, []), (100, .istore_n 1, 101, []), (101, .iinc 3 1, 104, []), (104, .goto (-21), 107, [83]), (107, .iinc 2 1, 110, []), (110, .goto (-38), 113, [72])],
  [(113, .iconst 0, 114, []), (114, .istore_n 2, 115, []), (115, .iload_n 2, 116, []), (116, .iconst 3, 117, []), (117, .if_icmp .ge 20, 120, [137]), (120, .bipush 31, 122, []), (122, .iload_n 1, 123, []), (123, .imul, 124, []), (124, .aload_n 0, 125, []), (125, .iload_n 2, 126, []), (126, .invokevirtual 83, 129, [0, 117, 1, 4079])],
  [(129, .iadd, 130, []), (130, .istore_n 1, 131, []), (131, .iinc 2 1, 134, []), (134, .goto (-19), 137, [115]), (137, .iload_n 1, 138, []), (138, .ireturn, 139, [])]]
noncomputable def z_r176 : List (List (List z_Row)) := [z_r176_0]
-- ClockParliamentLaw.isLine(LClockParliament;ILjava/lang/String;)Z
set_option maxRecDepth 20000 in
noncomputable def z_r177_0 : List (List z_Row) := [[(0, .iload_n 1, 1, []), (1, .aload_n 2, 2, []), (2, .invokevirtual 7, 5, [0, 331, 0, 7014]), (5, .if_icmp .eq 5, 8, [10]), (8, .iconst 0, 9, []), (9, .ireturn, 10, []), (10, .iconst 0, 11, []), (11, .istore_n 3, 12, []), (12, .iload_n 3, 13, []), (13, .iload_n 1, 14, []), (14, .if_icmp .ge 24, 17, [38])],
  [(17, .aload_n 0, 18, []), (18, .iload_n 3, 19, []), (19, .invokevirtual 281, 22, [0, 150, 1, 7053]), (22, .aload_n 2, 23, []), (23, .iload_n 3, 24, []), (24, .invokevirtual 13, 27, [0, 329, 1, 7015]), (27, .if_icmp .eq 5, 30, [32]), (30, .iconst 0, 31, []), (31, .ireturn, 32, [])],
  [(32, .iinc 3 1, 35, []), (35, .goto (-23), 38, [12]), (38, .iconst 1, 39, []), (39, .ireturn, 40, [])]]
noncomputable def z_r177 : List (List (List z_Row)) := [z_r177_0]
-- ClockParliamentLaw.runs(LClockParliament;)I
set_option maxRecDepth 20000 in
noncomputable def z_r178_0 : List (List z_Row) := [[(0, .aload_n 0, 1, []), (1, .invokevirtual 148, 4, [0, 144, 0, 4235]), (4, .ireturn, 5, []), (5, .astore_n 1, 6, []), (6, .iconst (-1), 7, []), (7, .ireturn, 8, []), (8, .astore_n 1, 9, []), (9, .bipush (-2), 11, []), (11, .ireturn, 12, [])]]
noncomputable def z_r178 : List (List (List z_Row)) := [z_r178_0]
-- ClockParliamentLaw.faults(LClockParliament;Ljava/lang/String;I)Z
set_option maxRecDepth 20000 in
noncomputable def z_r179_0 : List (List z_Row) := [[(0, .aload_n 0, 1, []), (1, .aload_n 1, 2, []), (2, .invokestatic 144, 5, [1, 173, 2, 7011]), (5, .aload_n 0, 6, []), (6, .invokestatic 157, 9, [9, 178, 1, 7059]), (9, .iconst (-1), 10, []), (10, .if_icmp .ne 15, 13, [25]), (13, .aload_n 0, 14, []), (14, .invokevirtual 151, 17, [0, 145, 0, 6126])],
  [(17, .iload_n 2, 18, []), (18, .if_icmp .ne 7, 21, [25]), (21, .iconst 1, 22, []), (22, .goto 4, 25, [26]), (25, .iconst 0, 26, []), (26, .ireturn, 27, [])]]
noncomputable def z_r179 : List (List (List z_Row)) := [z_r179_0]
-- ClockParliament$Numbers.count()I
set_option maxRecDepth 20000 in
noncomputable def z_r180_0 : List (List z_Row) := [[(0, .aload_n 0, 1, []), (1, .getfield 9, 4, [0, 4, 1, 1065]), (4, .ireturn, 5, [])]]
noncomputable def z_r180 : List (List (List z_Row)) := [z_r180_0]
-- ClockParliament$Numbers.count()I
set_option maxRecDepth 20000 in
noncomputable def z_r181_0 : List (List z_Row) := [[(0, .aload_n 0, 1, []), (1, .getfield 9, 4, [0, 4, 1, 1065]), (4, .ireturn, 5, [])]]
noncomputable def z_r181 : List (List (List z_Row)) := [z_r181_0]
-- ClockParliament$Numbers.count()I
set_option maxRecDepth 20000 in
noncomputable def z_r182_0 : List (List z_Row) := [[(0, .aload_n 0, 1, []), (1, .getfield 9, 4, [0, 4, 1, 1065]), (4, .ireturn, 5, [])]]
noncomputable def z_r182 : List (List (List z_Row)) := [z_r182_0]
-- ClockParliament$Numbers.count()I
set_option maxRecDepth 20000 in
noncomputable def z_r183_0 : List (List z_Row) := [[(0, .aload_n 0, 1, []), (1, .getfield 9, 4, [0, 4, 1, 1065]), (4, .ireturn, 5, [])]]
noncomputable def z_r183 : List (List (List z_Row)) := [z_r183_0]
-- ClockParliament$Numbers.count()I
set_option maxRecDepth 20000 in
noncomputable def z_r184_0 : List (List z_Row) := [[(0, .aload_n 0, 1, []), (1, .getfield 9, 4, [0, 4, 1, 1065]), (4, .ireturn, 5, [])]]
noncomputable def z_r184 : List (List (List z_Row)) := [z_r184_0]
-- ClockParliament$Numbers.count()I
set_option maxRecDepth 20000 in
noncomputable def z_r185_0 : List (List z_Row) := [[(0, .aload_n 0, 1, []), (1, .getfield 9, 4, [0, 4, 1, 1065]), (4, .ireturn, 5, [])]]
noncomputable def z_r185 : List (List (List z_Row)) := [z_r185_0]
-- ClockParliament$Numbers.count()I
set_option maxRecDepth 20000 in
noncomputable def z_r186_0 : List (List z_Row) := [[(0, .aload_n 0, 1, []), (1, .getfield 9, 4, [0, 4, 1, 1065]), (4, .ireturn, 5, [])]]
noncomputable def z_r186 : List (List (List z_Row)) := [z_r186_0]
-- ClockParliament$Numbers.count()I
set_option maxRecDepth 20000 in
noncomputable def z_r187_0 : List (List z_Row) := [[(0, .aload_n 0, 1, []), (1, .getfield 9, 4, [0, 4, 1, 1065]), (4, .ireturn, 5, [])]]
noncomputable def z_r187 : List (List (List z_Row)) := [z_r187_0]
-- ClockParliament$Numbers.count()I
set_option maxRecDepth 20000 in
noncomputable def z_r188_0 : List (List z_Row) := [[(0, .aload_n 0, 1, []), (1, .getfield 9, 4, [0, 4, 1, 1065]), (4, .ireturn, 5, [])]]
noncomputable def z_r188 : List (List (List z_Row)) := [z_r188_0]
-- ClockParliament$Numbers.count()I
set_option maxRecDepth 20000 in
noncomputable def z_r189_0 : List (List z_Row) := [[(0, .aload_n 0, 1, []), (1, .getfield 9, 4, [0, 4, 1, 1065]), (4, .ireturn, 5, [])]]
noncomputable def z_r189 : List (List (List z_Row)) := [z_r189_0]
-- ClockParliament$Numbers.count()I
set_option maxRecDepth 20000 in
noncomputable def z_r190_0 : List (List z_Row) := [[(0, .aload_n 0, 1, []), (1, .getfield 9, 4, [0, 4, 1, 1065]), (4, .ireturn, 5, [])]]
noncomputable def z_r190 : List (List (List z_Row)) := [z_r190_0]
-- ClockParliament$Numbers.count()I
set_option maxRecDepth 20000 in
noncomputable def z_r191_0 : List (List z_Row) := [[(0, .aload_n 0, 1, []), (1, .getfield 9, 4, [0, 4, 1, 1065]), (4, .ireturn, 5, [])]]
noncomputable def z_r191 : List (List (List z_Row)) := [z_r191_0]
-- ClockParliament$Numbers.count()I
set_option maxRecDepth 20000 in
noncomputable def z_r192_0 : List (List z_Row) := [[(0, .aload_n 0, 1, []), (1, .getfield 9, 4, [0, 4, 1, 1065]), (4, .ireturn, 5, [])]]
noncomputable def z_r192 : List (List (List z_Row)) := [z_r192_0]
-- ClockParliament$Numbers.count()I
set_option maxRecDepth 20000 in
noncomputable def z_r193_0 : List (List z_Row) := [[(0, .aload_n 0, 1, []), (1, .getfield 9, 4, [0, 4, 1, 1065]), (4, .ireturn, 5, [])]]
noncomputable def z_r193 : List (List (List z_Row)) := [z_r193_0]
-- ClockParliament$Numbers.count()I
set_option maxRecDepth 20000 in
noncomputable def z_r194_0 : List (List z_Row) := [[(0, .aload_n 0, 1, []), (1, .getfield 9, 4, [0, 4, 1, 1065]), (4, .ireturn, 5, [])]]
noncomputable def z_r194 : List (List (List z_Row)) := [z_r194_0]
-- ClockParliament$Numbers.count()I
set_option maxRecDepth 20000 in
noncomputable def z_r195_0 : List (List z_Row) := [[(0, .aload_n 0, 1, []), (1, .getfield 9, 4, [0, 4, 1, 1065]), (4, .ireturn, 5, [])]]
noncomputable def z_r195 : List (List (List z_Row)) := [z_r195_0]
-- ClockParliament$Numbers.count()I
set_option maxRecDepth 20000 in
noncomputable def z_r196_0 : List (List z_Row) := [[(0, .aload_n 0, 1, []), (1, .getfield 9, 4, [0, 4, 1, 1065]), (4, .ireturn, 5, [])]]
noncomputable def z_r196 : List (List (List z_Row)) := [z_r196_0]
-- ClockParliament$Numbers.count()I
set_option maxRecDepth 20000 in
noncomputable def z_r197_0 : List (List z_Row) := [[(0, .aload_n 0, 1, []), (1, .getfield 9, 4, [0, 4, 1, 1065]), (4, .ireturn, 5, [])]]
noncomputable def z_r197 : List (List (List z_Row)) := [z_r197_0]
-- ClockParliament$Numbers.count()I
set_option maxRecDepth 20000 in
noncomputable def z_r198_0 : List (List z_Row) := [[(0, .aload_n 0, 1, []), (1, .getfield 9, 4, [0, 4, 1, 1065]), (4, .ireturn, 5, [])]]
noncomputable def z_r198 : List (List (List z_Row)) := [z_r198_0]
-- ClockParliament$Numbers.count()I
set_option maxRecDepth 20000 in
noncomputable def z_r199_0 : List (List z_Row) := [[(0, .aload_n 0, 1, []), (1, .getfield 9, 4, [0, 4, 1, 1065]), (4, .ireturn, 5, [])]]
noncomputable def z_r199 : List (List (List z_Row)) := [z_r199_0]
-- ClockParliament$Numbers.count()I
set_option maxRecDepth 20000 in
noncomputable def z_r200_0 : List (List z_Row) := [[(0, .aload_n 0, 1, []), (1, .getfield 9, 4, [0, 4, 1, 1065]), (4, .ireturn, 5, [])]]
noncomputable def z_r200 : List (List (List z_Row)) := [z_r200_0]
-- ClockParliament$Numbers.count()I
set_option maxRecDepth 20000 in
noncomputable def z_r201_0 : List (List z_Row) := [[(0, .aload_n 0, 1, []), (1, .getfield 9, 4, [0, 4, 1, 1065]), (4, .ireturn, 5, [])]]
noncomputable def z_r201 : List (List (List z_Row)) := [z_r201_0]
-- ClockParliament$Numbers.count()I
set_option maxRecDepth 20000 in
noncomputable def z_r202_0 : List (List z_Row) := [[(0, .aload_n 0, 1, []), (1, .getfield 9, 4, [0, 4, 1, 1065]), (4, .ireturn, 5, [])]]
noncomputable def z_r202 : List (List (List z_Row)) := [z_r202_0]
-- ClockParliament$Numbers.count()I
set_option maxRecDepth 20000 in
noncomputable def z_r203_0 : List (List z_Row) := [[(0, .aload_n 0, 1, []), (1, .getfield 9, 4, [0, 4, 1, 1065]), (4, .ireturn, 5, [])]]
noncomputable def z_r203 : List (List (List z_Row)) := [z_r203_0]
-- ClockParliament$Numbers.count()I
set_option maxRecDepth 20000 in
noncomputable def z_r204_0 : List (List z_Row) := [[(0, .aload_n 0, 1, []), (1, .getfield 9, 4, [0, 4, 1, 1065]), (4, .ireturn, 5, [])]]
noncomputable def z_r204 : List (List (List z_Row)) := [z_r204_0]
-- ClockParliament$Numbers.count()I
set_option maxRecDepth 20000 in
noncomputable def z_r205_0 : List (List z_Row) := [[(0, .aload_n 0, 1, []), (1, .getfield 9, 4, [0, 4, 1, 1065]), (4, .ireturn, 5, [])]]
noncomputable def z_r205 : List (List (List z_Row)) := [z_r205_0]
-- ClockParliament$Numbers.count()I
set_option maxRecDepth 20000 in
noncomputable def z_r206_0 : List (List z_Row) := [[(0, .aload_n 0, 1, []), (1, .getfield 9, 4, [0, 4, 1, 1065]), (4, .ireturn, 5, [])]]
noncomputable def z_r206 : List (List (List z_Row)) := [z_r206_0]
-- ClockParliament$Numbers.count()I
set_option maxRecDepth 20000 in
noncomputable def z_r207_0 : List (List z_Row) := [[(0, .aload_n 0, 1, []), (1, .getfield 9, 4, [0, 4, 1, 1065]), (4, .ireturn, 5, [])]]
noncomputable def z_r207 : List (List (List z_Row)) := [z_r207_0]
-- ClockParliament$Numbers.count()I
set_option maxRecDepth 20000 in
noncomputable def z_r208_0 : List (List z_Row) := [[(0, .aload_n 0, 1, []), (1, .getfield 9, 4, [0, 4, 1, 1065]), (4, .ireturn, 5, [])]]
noncomputable def z_r208 : List (List (List z_Row)) := [z_r208_0]
-- ClockParliament$Numbers.count()I
set_option maxRecDepth 20000 in
noncomputable def z_r209_0 : List (List z_Row) := [[(0, .aload_n 0, 1, []), (1, .getfield 9, 4, [0, 4, 1, 1065]), (4, .ireturn, 5, [])]]
noncomputable def z_r209 : List (List (List z_Row)) := [z_r209_0]
-- ClockParliament$Numbers.count()I
set_option maxRecDepth 20000 in
noncomputable def z_r210_0 : List (List z_Row) := [[(0, .aload_n 0, 1, []), (1, .getfield 9, 4, [0, 4, 1, 1065]), (4, .ireturn, 5, [])]]
noncomputable def z_r210 : List (List (List z_Row)) := [z_r210_0]
-- ClockParliament$Numbers.count()I
set_option maxRecDepth 20000 in
noncomputable def z_r211_0 : List (List z_Row) := [[(0, .aload_n 0, 1, []), (1, .getfield 9, 4, [0, 4, 1, 1065]), (4, .ireturn, 5, [])]]
noncomputable def z_r211 : List (List (List z_Row)) := [z_r211_0]
-- ClockParliament$Numbers.count()I
set_option maxRecDepth 20000 in
noncomputable def z_r212_0 : List (List z_Row) := [[(0, .aload_n 0, 1, []), (1, .getfield 9, 4, [0, 4, 1, 1065]), (4, .ireturn, 5, [])]]
noncomputable def z_r212 : List (List (List z_Row)) := [z_r212_0]
-- ClockParliament$Numbers.count()I
set_option maxRecDepth 20000 in
noncomputable def z_r213_0 : List (List z_Row) := [[(0, .aload_n 0, 1, []), (1, .getfield 9, 4, [0, 4, 1, 1065]), (4, .ireturn, 5, [])]]
noncomputable def z_r213 : List (List (List z_Row)) := [z_r213_0]
-- ClockParliament$Numbers.count()I
set_option maxRecDepth 20000 in
noncomputable def z_r214_0 : List (List z_Row) := [[(0, .aload_n 0, 1, []), (1, .getfield 9, 4, [0, 4, 1, 1065]), (4, .ireturn, 5, [])]]
noncomputable def z_r214 : List (List (List z_Row)) := [z_r214_0]
-- ClockParliament$Numbers.count()I
set_option maxRecDepth 20000 in
noncomputable def z_r215_0 : List (List z_Row) := [[(0, .aload_n 0, 1, []), (1, .getfield 9, 4, [0, 4, 1, 1065]), (4, .ireturn, 5, [])]]
noncomputable def z_r215 : List (List (List z_Row)) := [z_r215_0]
-- ClockParliament$Numbers.count()I
set_option maxRecDepth 20000 in
noncomputable def z_r216_0 : List (List z_Row) := [[(0, .aload_n 0, 1, []), (1, .getfield 9, 4, [0, 4, 1, 1065]), (4, .ireturn, 5, [])]]
noncomputable def z_r216 : List (List (List z_Row)) := [z_r216_0]
-- ClockParliament$Numbers.count()I
set_option maxRecDepth 20000 in
noncomputable def z_r217_0 : List (List z_Row) := [[(0, .aload_n 0, 1, []), (1, .getfield 9, 4, [0, 4, 1, 1065]), (4, .ireturn, 5, [])]]
noncomputable def z_r217 : List (List (List z_Row)) := [z_r217_0]
-- ClockParliament$Numbers.count()I
set_option maxRecDepth 20000 in
noncomputable def z_r218_0 : List (List z_Row) := [[(0, .aload_n 0, 1, []), (1, .getfield 9, 4, [0, 4, 1, 1065]), (4, .ireturn, 5, [])]]
noncomputable def z_r218 : List (List (List z_Row)) := [z_r218_0]
-- ClockParliament$Numbers.count()I
set_option maxRecDepth 20000 in
noncomputable def z_r219_0 : List (List z_Row) := [[(0, .aload_n 0, 1, []), (1, .getfield 9, 4, [0, 4, 1, 1065]), (4, .ireturn, 5, [])]]
noncomputable def z_r219 : List (List (List z_Row)) := [z_r219_0]
-- ClockParliament$Numbers.count()I
set_option maxRecDepth 20000 in
noncomputable def z_r220_0 : List (List z_Row) := [[(0, .aload_n 0, 1, []), (1, .getfield 9, 4, [0, 4, 1, 1065]), (4, .ireturn, 5, [])]]
noncomputable def z_r220 : List (List (List z_Row)) := [z_r220_0]
-- ClockParliament$Numbers.count()I
set_option maxRecDepth 20000 in
noncomputable def z_r221_0 : List (List z_Row) := [[(0, .aload_n 0, 1, []), (1, .getfield 9, 4, [0, 4, 1, 1065]), (4, .ireturn, 5, [])]]
noncomputable def z_r221 : List (List (List z_Row)) := [z_r221_0]
-- ClockParliament$Numbers.count()I
set_option maxRecDepth 20000 in
noncomputable def z_r222_0 : List (List z_Row) := [[(0, .aload_n 0, 1, []), (1, .getfield 9, 4, [0, 4, 1, 1065]), (4, .ireturn, 5, [])]]
noncomputable def z_r222 : List (List (List z_Row)) := [z_r222_0]
-- ClockParliament$Numbers.count()I
set_option maxRecDepth 20000 in
noncomputable def z_r223_0 : List (List z_Row) := [[(0, .aload_n 0, 1, []), (1, .getfield 9, 4, [0, 4, 1, 1065]), (4, .ireturn, 5, [])]]
noncomputable def z_r223 : List (List (List z_Row)) := [z_r223_0]
-- ClockParliament$Numbers.count()I
set_option maxRecDepth 20000 in
noncomputable def z_r224_0 : List (List z_Row) := [[(0, .aload_n 0, 1, []), (1, .getfield 9, 4, [0, 4, 1, 1065]), (4, .ireturn, 5, [])]]
noncomputable def z_r224 : List (List (List z_Row)) := [z_r224_0]
-- ClockParliament$Numbers.count()I
set_option maxRecDepth 20000 in
noncomputable def z_r225_0 : List (List z_Row) := [[(0, .aload_n 0, 1, []), (1, .getfield 9, 4, [0, 4, 1, 1065]), (4, .ireturn, 5, [])]]
noncomputable def z_r225 : List (List (List z_Row)) := [z_r225_0]
-- ClockParliament$Numbers.count()I
set_option maxRecDepth 20000 in
noncomputable def z_r226_0 : List (List z_Row) := [[(0, .aload_n 0, 1, []), (1, .getfield 9, 4, [0, 4, 1, 1065]), (4, .ireturn, 5, [])]]
noncomputable def z_r226 : List (List (List z_Row)) := [z_r226_0]
-- ClockParliament$Numbers.count()I
set_option maxRecDepth 20000 in
noncomputable def z_r227_0 : List (List z_Row) := [[(0, .aload_n 0, 1, []), (1, .getfield 9, 4, [0, 4, 1, 1065]), (4, .ireturn, 5, [])]]
noncomputable def z_r227 : List (List (List z_Row)) := [z_r227_0]
-- ClockParliament$Numbers.count()I
set_option maxRecDepth 20000 in
noncomputable def z_r228_0 : List (List z_Row) := [[(0, .aload_n 0, 1, []), (1, .getfield 9, 4, [0, 4, 1, 1065]), (4, .ireturn, 5, [])]]
noncomputable def z_r228 : List (List (List z_Row)) := [z_r228_0]
-- ClockParliament$Numbers.count()I
set_option maxRecDepth 20000 in
noncomputable def z_r229_0 : List (List z_Row) := [[(0, .aload_n 0, 1, []), (1, .getfield 9, 4, [0, 4, 1, 1065]), (4, .ireturn, 5, [])]]
noncomputable def z_r229 : List (List (List z_Row)) := [z_r229_0]
-- ClockParliament$Numbers.count()I
set_option maxRecDepth 20000 in
noncomputable def z_r230_0 : List (List z_Row) := [[(0, .aload_n 0, 1, []), (1, .getfield 9, 4, [0, 4, 1, 1065]), (4, .ireturn, 5, [])]]
noncomputable def z_r230 : List (List (List z_Row)) := [z_r230_0]
-- ClockParliament$Numbers.count()I
set_option maxRecDepth 20000 in
noncomputable def z_r231_0 : List (List z_Row) := [[(0, .aload_n 0, 1, []), (1, .getfield 9, 4, [0, 4, 1, 1065]), (4, .ireturn, 5, [])]]
noncomputable def z_r231 : List (List (List z_Row)) := [z_r231_0]
-- ClockParliament$Numbers.count()I
set_option maxRecDepth 20000 in
noncomputable def z_r232_0 : List (List z_Row) := [[(0, .aload_n 0, 1, []), (1, .getfield 9, 4, [0, 4, 1, 1065]), (4, .ireturn, 5, [])]]
noncomputable def z_r232 : List (List (List z_Row)) := [z_r232_0]
-- ClockParliament$Numbers.count()I
set_option maxRecDepth 20000 in
noncomputable def z_r233_0 : List (List z_Row) := [[(0, .aload_n 0, 1, []), (1, .getfield 9, 4, [0, 4, 1, 1065]), (4, .ireturn, 5, [])]]
noncomputable def z_r233 : List (List (List z_Row)) := [z_r233_0]
-- ClockParliament$Numbers.count()I
set_option maxRecDepth 20000 in
noncomputable def z_r234_0 : List (List z_Row) := [[(0, .aload_n 0, 1, []), (1, .getfield 9, 4, [0, 4, 1, 1065]), (4, .ireturn, 5, [])]]
noncomputable def z_r234 : List (List (List z_Row)) := [z_r234_0]
-- ClockParliament$Numbers.count()I
set_option maxRecDepth 20000 in
noncomputable def z_r235_0 : List (List z_Row) := [[(0, .aload_n 0, 1, []), (1, .getfield 9, 4, [0, 4, 1, 1065]), (4, .ireturn, 5, [])]]
noncomputable def z_r235 : List (List (List z_Row)) := [z_r235_0]
-- ClockParliament$Numbers.count()I
set_option maxRecDepth 20000 in
noncomputable def z_r236_0 : List (List z_Row) := [[(0, .aload_n 0, 1, []), (1, .getfield 9, 4, [0, 4, 1, 1065]), (4, .ireturn, 5, [])]]
noncomputable def z_r236 : List (List (List z_Row)) := [z_r236_0]
-- ClockParliament$Numbers.count()I
set_option maxRecDepth 20000 in
noncomputable def z_r237_0 : List (List z_Row) := [[(0, .aload_n 0, 1, []), (1, .getfield 9, 4, [0, 4, 1, 1065]), (4, .ireturn, 5, [])]]
noncomputable def z_r237 : List (List (List z_Row)) := [z_r237_0]
-- ClockParliament$Numbers.count()I
set_option maxRecDepth 20000 in
noncomputable def z_r238_0 : List (List z_Row) := [[(0, .aload_n 0, 1, []), (1, .getfield 9, 4, [0, 4, 1, 1065]), (4, .ireturn, 5, [])]]
noncomputable def z_r238 : List (List (List z_Row)) := [z_r238_0]
-- ClockParliament$Numbers.count()I
set_option maxRecDepth 20000 in
noncomputable def z_r239_0 : List (List z_Row) := [[(0, .aload_n 0, 1, []), (1, .getfield 9, 4, [0, 4, 1, 1065]), (4, .ireturn, 5, [])]]
noncomputable def z_r239 : List (List (List z_Row)) := [z_r239_0]
-- ClockParliament$Numbers.count()I
set_option maxRecDepth 20000 in
noncomputable def z_r240_0 : List (List z_Row) := [[(0, .aload_n 0, 1, []), (1, .getfield 9, 4, [0, 4, 1, 1065]), (4, .ireturn, 5, [])]]
noncomputable def z_r240 : List (List (List z_Row)) := [z_r240_0]
-- ClockParliament$Numbers.count()I
set_option maxRecDepth 20000 in
noncomputable def z_r241_0 : List (List z_Row) := [[(0, .aload_n 0, 1, []), (1, .getfield 9, 4, [0, 4, 1, 1065]), (4, .ireturn, 5, [])]]
noncomputable def z_r241 : List (List (List z_Row)) := [z_r241_0]
-- ClockParliament$Numbers.count()I
set_option maxRecDepth 20000 in
noncomputable def z_r242_0 : List (List z_Row) := [[(0, .aload_n 0, 1, []), (1, .getfield 9, 4, [0, 4, 1, 1065]), (4, .ireturn, 5, [])]]
noncomputable def z_r242 : List (List (List z_Row)) := [z_r242_0]
-- ClockParliament$Numbers.count()I
set_option maxRecDepth 20000 in
noncomputable def z_r243_0 : List (List z_Row) := [[(0, .aload_n 0, 1, []), (1, .getfield 9, 4, [0, 4, 1, 1065]), (4, .ireturn, 5, [])]]
noncomputable def z_r243 : List (List (List z_Row)) := [z_r243_0]
-- ClockParliament$Numbers.count()I
set_option maxRecDepth 20000 in
noncomputable def z_r244_0 : List (List z_Row) := [[(0, .aload_n 0, 1, []), (1, .getfield 9, 4, [0, 4, 1, 1065]), (4, .ireturn, 5, [])]]
noncomputable def z_r244 : List (List (List z_Row)) := [z_r244_0]
-- ClockParliament$Numbers.count()I
set_option maxRecDepth 20000 in
noncomputable def z_r245_0 : List (List z_Row) := [[(0, .aload_n 0, 1, []), (1, .getfield 9, 4, [0, 4, 1, 1065]), (4, .ireturn, 5, [])]]
noncomputable def z_r245 : List (List (List z_Row)) := [z_r245_0]
-- ClockParliament$Numbers.count()I
set_option maxRecDepth 20000 in
noncomputable def z_r246_0 : List (List z_Row) := [[(0, .aload_n 0, 1, []), (1, .getfield 9, 4, [0, 4, 1, 1065]), (4, .ireturn, 5, [])]]
noncomputable def z_r246 : List (List (List z_Row)) := [z_r246_0]
-- ClockParliament$Numbers.count()I
set_option maxRecDepth 20000 in
noncomputable def z_r247_0 : List (List z_Row) := [[(0, .aload_n 0, 1, []), (1, .getfield 9, 4, [0, 4, 1, 1065]), (4, .ireturn, 5, [])]]
noncomputable def z_r247 : List (List (List z_Row)) := [z_r247_0]
-- ClockParliament$Numbers.count()I
set_option maxRecDepth 20000 in
noncomputable def z_r248_0 : List (List z_Row) := [[(0, .aload_n 0, 1, []), (1, .getfield 9, 4, [0, 4, 1, 1065]), (4, .ireturn, 5, [])]]
noncomputable def z_r248 : List (List (List z_Row)) := [z_r248_0]
-- ClockParliament$Numbers.count()I
set_option maxRecDepth 20000 in
noncomputable def z_r249_0 : List (List z_Row) := [[(0, .aload_n 0, 1, []), (1, .getfield 9, 4, [0, 4, 1, 1065]), (4, .ireturn, 5, [])]]
noncomputable def z_r249 : List (List (List z_Row)) := [z_r249_0]
-- ClockParliament$Numbers.count()I
set_option maxRecDepth 20000 in
noncomputable def z_r250_0 : List (List z_Row) := [[(0, .aload_n 0, 1, []), (1, .getfield 9, 4, [0, 4, 1, 1065]), (4, .ireturn, 5, [])]]
noncomputable def z_r250 : List (List (List z_Row)) := [z_r250_0]
-- ClockParliament$Numbers.count()I
set_option maxRecDepth 20000 in
noncomputable def z_r251_0 : List (List z_Row) := [[(0, .aload_n 0, 1, []), (1, .getfield 9, 4, [0, 4, 1, 1065]), (4, .ireturn, 5, [])]]
noncomputable def z_r251 : List (List (List z_Row)) := [z_r251_0]
-- ClockParliament$Numbers.count()I
set_option maxRecDepth 20000 in
noncomputable def z_r252_0 : List (List z_Row) := [[(0, .aload_n 0, 1, []), (1, .getfield 9, 4, [0, 4, 1, 1065]), (4, .ireturn, 5, [])]]
noncomputable def z_r252 : List (List (List z_Row)) := [z_r252_0]
-- ClockParliament$Numbers.count()I
set_option maxRecDepth 20000 in
noncomputable def z_r253_0 : List (List z_Row) := [[(0, .aload_n 0, 1, []), (1, .getfield 9, 4, [0, 4, 1, 1065]), (4, .ireturn, 5, [])]]
noncomputable def z_r253 : List (List (List z_Row)) := [z_r253_0]
-- ClockParliament$Numbers.count()I
set_option maxRecDepth 20000 in
noncomputable def z_r254_0 : List (List z_Row) := [[(0, .aload_n 0, 1, []), (1, .getfield 9, 4, [0, 4, 1, 1065]), (4, .ireturn, 5, [])]]
noncomputable def z_r254 : List (List (List z_Row)) := [z_r254_0]
-- ClockParliament$Numbers.count()I
set_option maxRecDepth 20000 in
noncomputable def z_r255_0 : List (List z_Row) := [[(0, .aload_n 0, 1, []), (1, .getfield 9, 4, [0, 4, 1, 1065]), (4, .ireturn, 5, [])]]
noncomputable def z_r255 : List (List (List z_Row)) := [z_r255_0]
-- ClockParliament$Numbers.count()I
set_option maxRecDepth 20000 in
noncomputable def z_r256_0 : List (List z_Row) := [[(0, .aload_n 0, 1, []), (1, .getfield 9, 4, [0, 4, 1, 1065]), (4, .ireturn, 5, [])]]
noncomputable def z_r256 : List (List (List z_Row)) := [z_r256_0]
-- ClockParliament$Numbers.count()I
set_option maxRecDepth 20000 in
noncomputable def z_r257_0 : List (List z_Row) := [[(0, .aload_n 0, 1, []), (1, .getfield 9, 4, [0, 4, 1, 1065]), (4, .ireturn, 5, [])]]
noncomputable def z_r257 : List (List (List z_Row)) := [z_r257_0]
-- ClockParliament$Numbers.count()I
set_option maxRecDepth 20000 in
noncomputable def z_r258_0 : List (List z_Row) := [[(0, .aload_n 0, 1, []), (1, .getfield 9, 4, [0, 4, 1, 1065]), (4, .ireturn, 5, [])]]
noncomputable def z_r258 : List (List (List z_Row)) := [z_r258_0]
-- ClockParliament$Numbers.count()I
set_option maxRecDepth 20000 in
noncomputable def z_r259_0 : List (List z_Row) := [[(0, .aload_n 0, 1, []), (1, .getfield 9, 4, [0, 4, 1, 1065]), (4, .ireturn, 5, [])]]
noncomputable def z_r259 : List (List (List z_Row)) := [z_r259_0]
-- ClockParliament$Numbers.count()I
set_option maxRecDepth 20000 in
noncomputable def z_r260_0 : List (List z_Row) := [[(0, .aload_n 0, 1, []), (1, .getfield 9, 4, [0, 4, 1, 1065]), (4, .ireturn, 5, [])]]
noncomputable def z_r260 : List (List (List z_Row)) := [z_r260_0]
-- ClockParliament$Numbers.count()I
set_option maxRecDepth 20000 in
noncomputable def z_r261_0 : List (List z_Row) := [[(0, .aload_n 0, 1, []), (1, .getfield 9, 4, [0, 4, 1, 1065]), (4, .ireturn, 5, [])]]
noncomputable def z_r261 : List (List (List z_Row)) := [z_r261_0]
-- ClockParliament$Numbers.count()I
set_option maxRecDepth 20000 in
noncomputable def z_r262_0 : List (List z_Row) := [[(0, .aload_n 0, 1, []), (1, .getfield 9, 4, [0, 4, 1, 1065]), (4, .ireturn, 5, [])]]
noncomputable def z_r262 : List (List (List z_Row)) := [z_r262_0]
-- ClockParliament$Numbers.count()I
set_option maxRecDepth 20000 in
noncomputable def z_r263_0 : List (List z_Row) := [[(0, .aload_n 0, 1, []), (1, .getfield 9, 4, [0, 4, 1, 1065]), (4, .ireturn, 5, [])]]
noncomputable def z_r263 : List (List (List z_Row)) := [z_r263_0]
-- ClockParliament$Numbers.count()I
set_option maxRecDepth 20000 in
noncomputable def z_r264_0 : List (List z_Row) := [[(0, .aload_n 0, 1, []), (1, .getfield 9, 4, [0, 4, 1, 1065]), (4, .ireturn, 5, [])]]
noncomputable def z_r264 : List (List (List z_Row)) := [z_r264_0]
-- ClockParliament$Numbers.count()I
set_option maxRecDepth 20000 in
noncomputable def z_r265_0 : List (List z_Row) := [[(0, .aload_n 0, 1, []), (1, .getfield 9, 4, [0, 4, 1, 1065]), (4, .ireturn, 5, [])]]
noncomputable def z_r265 : List (List (List z_Row)) := [z_r265_0]
-- ClockParliament$Numbers.count()I
set_option maxRecDepth 20000 in
noncomputable def z_r266_0 : List (List z_Row) := [[(0, .aload_n 0, 1, []), (1, .getfield 9, 4, [0, 4, 1, 1065]), (4, .ireturn, 5, [])]]
noncomputable def z_r266 : List (List (List z_Row)) := [z_r266_0]
-- ClockParliament$Numbers.count()I
set_option maxRecDepth 20000 in
noncomputable def z_r267_0 : List (List z_Row) := [[(0, .aload_n 0, 1, []), (1, .getfield 9, 4, [0, 4, 1, 1065]), (4, .ireturn, 5, [])]]
noncomputable def z_r267 : List (List (List z_Row)) := [z_r267_0]
-- ClockParliament$Numbers.count()I
set_option maxRecDepth 20000 in
noncomputable def z_r268_0 : List (List z_Row) := [[(0, .aload_n 0, 1, []), (1, .getfield 9, 4, [0, 4, 1, 1065]), (4, .ireturn, 5, [])]]
noncomputable def z_r268 : List (List (List z_Row)) := [z_r268_0]
-- ClockParliament$Numbers.count()I
set_option maxRecDepth 20000 in
noncomputable def z_r269_0 : List (List z_Row) := [[(0, .aload_n 0, 1, []), (1, .getfield 9, 4, [0, 4, 1, 1065]), (4, .ireturn, 5, [])]]
noncomputable def z_r269 : List (List (List z_Row)) := [z_r269_0]
-- ClockParliament$Numbers.count()I
set_option maxRecDepth 20000 in
noncomputable def z_r270_0 : List (List z_Row) := [[(0, .aload_n 0, 1, []), (1, .getfield 9, 4, [0, 4, 1, 1065]), (4, .ireturn, 5, [])]]
noncomputable def z_r270 : List (List (List z_Row)) := [z_r270_0]
-- ClockParliament$Numbers.count()I
set_option maxRecDepth 20000 in
noncomputable def z_r271_0 : List (List z_Row) := [[(0, .aload_n 0, 1, []), (1, .getfield 9, 4, [0, 4, 1, 1065]), (4, .ireturn, 5, [])]]
noncomputable def z_r271 : List (List (List z_Row)) := [z_r271_0]
-- ClockParliament$Numbers.count()I
set_option maxRecDepth 20000 in
noncomputable def z_r272_0 : List (List z_Row) := [[(0, .aload_n 0, 1, []), (1, .getfield 9, 4, [0, 4, 1, 1065]), (4, .ireturn, 5, [])]]
noncomputable def z_r272 : List (List (List z_Row)) := [z_r272_0]
-- ClockParliament$Numbers.count()I
set_option maxRecDepth 20000 in
noncomputable def z_r273_0 : List (List z_Row) := [[(0, .aload_n 0, 1, []), (1, .getfield 9, 4, [0, 4, 1, 1065]), (4, .ireturn, 5, [])]]
noncomputable def z_r273 : List (List (List z_Row)) := [z_r273_0]
-- ClockParliament$Numbers.count()I
set_option maxRecDepth 20000 in
noncomputable def z_r274_0 : List (List z_Row) := [[(0, .aload_n 0, 1, []), (1, .getfield 9, 4, [0, 4, 1, 1065]), (4, .ireturn, 5, [])]]
noncomputable def z_r274 : List (List (List z_Row)) := [z_r274_0]
-- ClockParliament$Numbers.count()I
set_option maxRecDepth 20000 in
noncomputable def z_r275_0 : List (List z_Row) := [[(0, .aload_n 0, 1, []), (1, .getfield 9, 4, [0, 4, 1, 1065]), (4, .ireturn, 5, [])]]
noncomputable def z_r275 : List (List (List z_Row)) := [z_r275_0]
-- ClockParliament$Numbers.count()I
set_option maxRecDepth 20000 in
noncomputable def z_r276_0 : List (List z_Row) := [[(0, .aload_n 0, 1, []), (1, .getfield 9, 4, [0, 4, 1, 1065]), (4, .ireturn, 5, [])]]
noncomputable def z_r276 : List (List (List z_Row)) := [z_r276_0]
-- ClockParliament$Numbers.count()I
set_option maxRecDepth 20000 in
noncomputable def z_r277_0 : List (List z_Row) := [[(0, .aload_n 0, 1, []), (1, .getfield 9, 4, [0, 4, 1, 1065]), (4, .ireturn, 5, [])]]
noncomputable def z_r277 : List (List (List z_Row)) := [z_r277_0]
-- ClockParliament$Numbers.count()I
set_option maxRecDepth 20000 in
noncomputable def z_r278_0 : List (List z_Row) := [[(0, .aload_n 0, 1, []), (1, .getfield 9, 4, [0, 4, 1, 1065]), (4, .ireturn, 5, [])]]
noncomputable def z_r278 : List (List (List z_Row)) := [z_r278_0]
-- ClockParliament$Numbers.count()I
set_option maxRecDepth 20000 in
noncomputable def z_r279_0 : List (List z_Row) := [[(0, .aload_n 0, 1, []), (1, .getfield 9, 4, [0, 4, 1, 1065]), (4, .ireturn, 5, [])]]
noncomputable def z_r279 : List (List (List z_Row)) := [z_r279_0]
-- ClockParliament$Numbers.count()I
set_option maxRecDepth 20000 in
noncomputable def z_r280_0 : List (List z_Row) := [[(0, .aload_n 0, 1, []), (1, .getfield 9, 4, [0, 4, 1, 1065]), (4, .ireturn, 5, [])]]
noncomputable def z_r280 : List (List (List z_Row)) := [z_r280_0]
-- ClockParliament$Numbers.count()I
set_option maxRecDepth 20000 in
noncomputable def z_r281_0 : List (List z_Row) := [[(0, .aload_n 0, 1, []), (1, .getfield 9, 4, [0, 4, 1, 1065]), (4, .ireturn, 5, [])]]
noncomputable def z_r281 : List (List (List z_Row)) := [z_r281_0]
-- ClockParliament$Numbers.count()I
set_option maxRecDepth 20000 in
noncomputable def z_r282_0 : List (List z_Row) := [[(0, .aload_n 0, 1, []), (1, .getfield 9, 4, [0, 4, 1, 1065]), (4, .ireturn, 5, [])]]
noncomputable def z_r282 : List (List (List z_Row)) := [z_r282_0]
-- ClockParliament$Numbers.count()I
set_option maxRecDepth 20000 in
noncomputable def z_r283_0 : List (List z_Row) := [[(0, .aload_n 0, 1, []), (1, .getfield 9, 4, [0, 4, 1, 1065]), (4, .ireturn, 5, [])]]
noncomputable def z_r283 : List (List (List z_Row)) := [z_r283_0]
-- ClockParliament$Numbers.count()I
set_option maxRecDepth 20000 in
noncomputable def z_r284_0 : List (List z_Row) := [[(0, .aload_n 0, 1, []), (1, .getfield 9, 4, [0, 4, 1, 1065]), (4, .ireturn, 5, [])]]
noncomputable def z_r284 : List (List (List z_Row)) := [z_r284_0]
-- ClockParliament$Numbers.count()I
set_option maxRecDepth 20000 in
noncomputable def z_r285_0 : List (List z_Row) := [[(0, .aload_n 0, 1, []), (1, .getfield 9, 4, [0, 4, 1, 1065]), (4, .ireturn, 5, [])]]
noncomputable def z_r285 : List (List (List z_Row)) := [z_r285_0]
-- ClockParliament$Numbers.count()I
set_option maxRecDepth 20000 in
noncomputable def z_r286_0 : List (List z_Row) := [[(0, .aload_n 0, 1, []), (1, .getfield 9, 4, [0, 4, 1, 1065]), (4, .ireturn, 5, [])]]
noncomputable def z_r286 : List (List (List z_Row)) := [z_r286_0]
-- ClockParliament$Numbers.count()I
set_option maxRecDepth 20000 in
noncomputable def z_r287_0 : List (List z_Row) := [[(0, .aload_n 0, 1, []), (1, .getfield 9, 4, [0, 4, 1, 1065]), (4, .ireturn, 5, [])]]
noncomputable def z_r287 : List (List (List z_Row)) := [z_r287_0]
-- ClockParliament$Numbers.count()I
set_option maxRecDepth 20000 in
noncomputable def z_r288_0 : List (List z_Row) := [[(0, .aload_n 0, 1, []), (1, .getfield 9, 4, [0, 4, 1, 1065]), (4, .ireturn, 5, [])]]
noncomputable def z_r288 : List (List (List z_Row)) := [z_r288_0]
-- ClockParliament$Numbers.count()I
set_option maxRecDepth 20000 in
noncomputable def z_r289_0 : List (List z_Row) := [[(0, .aload_n 0, 1, []), (1, .getfield 9, 4, [0, 4, 1, 1065]), (4, .ireturn, 5, [])]]
noncomputable def z_r289 : List (List (List z_Row)) := [z_r289_0]
-- ClockParliament$Numbers.count()I
set_option maxRecDepth 20000 in
noncomputable def z_r290_0 : List (List z_Row) := [[(0, .aload_n 0, 1, []), (1, .getfield 9, 4, [0, 4, 1, 1065]), (4, .ireturn, 5, [])]]
noncomputable def z_r290 : List (List (List z_Row)) := [z_r290_0]
-- ClockParliament$Numbers.count()I
set_option maxRecDepth 20000 in
noncomputable def z_r291_0 : List (List z_Row) := [[(0, .aload_n 0, 1, []), (1, .getfield 9, 4, [0, 4, 1, 1065]), (4, .ireturn, 5, [])]]
noncomputable def z_r291 : List (List (List z_Row)) := [z_r291_0]
-- ClockParliament$Numbers.count()I
set_option maxRecDepth 20000 in
noncomputable def z_r292_0 : List (List z_Row) := [[(0, .aload_n 0, 1, []), (1, .getfield 9, 4, [0, 4, 1, 1065]), (4, .ireturn, 5, [])]]
noncomputable def z_r292 : List (List (List z_Row)) := [z_r292_0]
-- ClockParliament$Numbers.count()I
set_option maxRecDepth 20000 in
noncomputable def z_r293_0 : List (List z_Row) := [[(0, .aload_n 0, 1, []), (1, .getfield 9, 4, [0, 4, 1, 1065]), (4, .ireturn, 5, [])]]
noncomputable def z_r293 : List (List (List z_Row)) := [z_r293_0]
-- ClockParliament$Numbers.count()I
set_option maxRecDepth 20000 in
noncomputable def z_r294_0 : List (List z_Row) := [[(0, .aload_n 0, 1, []), (1, .getfield 9, 4, [0, 4, 1, 1065]), (4, .ireturn, 5, [])]]
noncomputable def z_r294 : List (List (List z_Row)) := [z_r294_0]
-- ClockParliament$Numbers.count()I
set_option maxRecDepth 20000 in
noncomputable def z_r295_0 : List (List z_Row) := [[(0, .aload_n 0, 1, []), (1, .getfield 9, 4, [0, 4, 1, 1065]), (4, .ireturn, 5, [])]]
noncomputable def z_r295 : List (List (List z_Row)) := [z_r295_0]
-- ClockParliament$Numbers.count()I
set_option maxRecDepth 20000 in
noncomputable def z_r296_0 : List (List z_Row) := [[(0, .aload_n 0, 1, []), (1, .getfield 9, 4, [0, 4, 1, 1065]), (4, .ireturn, 5, [])]]
noncomputable def z_r296 : List (List (List z_Row)) := [z_r296_0]
-- ClockParliament$Numbers.count()I
set_option maxRecDepth 20000 in
noncomputable def z_r297_0 : List (List z_Row) := [[(0, .aload_n 0, 1, []), (1, .getfield 9, 4, [0, 4, 1, 1065]), (4, .ireturn, 5, [])]]
noncomputable def z_r297 : List (List (List z_Row)) := [z_r297_0]
-- ClockParliament$Numbers.count()I
set_option maxRecDepth 20000 in
noncomputable def z_r298_0 : List (List z_Row) := [[(0, .aload_n 0, 1, []), (1, .getfield 9, 4, [0, 4, 1, 1065]), (4, .ireturn, 5, [])]]
noncomputable def z_r298 : List (List (List z_Row)) := [z_r298_0]
-- ClockParliament$Numbers.count()I
set_option maxRecDepth 20000 in
noncomputable def z_r299_0 : List (List z_Row) := [[(0, .aload_n 0, 1, []), (1, .getfield 9, 4, [0, 4, 1, 1065]), (4, .ireturn, 5, [])]]
noncomputable def z_r299 : List (List (List z_Row)) := [z_r299_0]
-- java/lang/StringBuilder.<init>()V
set_option maxRecDepth 20000 in
noncomputable def z_r300_0 : List (List z_Row) := [[(0, .aload_n 0, 1, []), (1, .bipush 16, 3, []), (3, .invokespecial 1, 6, [2, 301, 1, 1207]), (6, .return_, 7, [])]]
noncomputable def z_r300 : List (List (List z_Row)) := [z_r300_0]
-- java/lang/AbstractStringBuilder.<init>(I)V
set_option maxRecDepth 20000 in
noncomputable def z_r301_0 : List (List z_Row) := [[(0, .aload_n 0, 1, []), (1, .invokespecial 3, 4, [7, 0, 0, 1210]), (4, .getstatic 18, 7, [12, 1211]), (7, .ifCond .eq 18, 10, [25]), (10, .aload_n 0, 11, []), (11, .iload_n 1, 12, []), (12, .newarray .byte, 14, [2, 1234]), (14, .putfield 15, 17, [0, 10, 0, 1220])],
  [(17, .aload_n 0, 18, []), (18, .iconst 0, 19, []), (19, .putfield 22, 22, [0, 10, 1, 1221]), (22, .goto 16, 25, [38]), (25, .aload_n 0, 26, []), (26, .iload_n 1, 27, []), (27, .invokestatic 26, 30, []), (30, .putfield 15, 33, [0, 10, 0, 1220])],
  [(33, .aload_n 0, 34, []), (34, .iconst 1, 35, []), (35, .putfield 22, 38, [0, 10, 1, 1221]), (38, .return_, 39, [])]]
noncomputable def z_r301 : List (List (List z_Row)) := [z_r301_0]
-- java/lang/StringBuilder.append(C)Ljava/lang/StringBuilder;
set_option maxRecDepth 20000 in
noncomputable def z_r302_0 : List (List z_Row) := [[(0, .aload_n 0, 1, []), (1, .iload_n 1, 2, []), (2, .invokespecial 50, 5, [6, 303, 1, 6158]), (5, .pop, 6, []), (6, .aload_n 0, 7, []), (7, .areturn, 8, [])]]
noncomputable def z_r302 : List (List (List z_Row)) := [z_r302_0]
-- java/lang/AbstractStringBuilder.append(C)Ljava/lang/AbstractStringBuilder;
set_option maxRecDepth 20000 in
noncomputable def z_r303_0 : List (List z_Row) := [[(0, .aload_n 0, 1, []), (1, .aload_n 0, 2, []), (2, .getfield 79, 5, [0, 10, 3, 1224]), (5, .iconst 1, 6, []), (6, .iadd, 7, []), (7, .invokevirtual 100, 10, [10, 312, 1, 5175]), (10, .aload_n 0, 11, []), (11, .invokevirtual 83, 14, [10, 314, 0, 5206]), (14, .ifCond .eq 31, 17, [45])],
  [(17, .iload_n 1, 18, []), (18, .invokestatic 191, 21, [1, 316, 1, 6161]), (21, .ifCond .eq 24, 24, [45]), (24, .aload_n 0, 25, []), (25, .getfield 15, 28, [0, 10, 0, 1220]), (28, .aload_n 0, 29, []), (29, .dup, 30, []), (30, .getfield 79, 33, [0, 10, 3, 1224])],
  [(33, .dup_x1, 34, []), (34, .iconst 1, 35, []), (35, .iadd, 36, []), (36, .putfield 79, 39, [0, 10, 3, 1224]), (39, .iload_n 1, 40, []), (40, .i2b, 41, []), (41, .bastore, 42, []), (42, .goto 33, 45, [75]), (45, .aload_n 0, 46, []), (46, .invokevirtual 83, 49, [10, 314, 0, 5206])],
  [(49, .ifCond .eq 7, 52, [56]), (52, .aload_n 0, 53, []), (53, .invokevirtual 195, 56, []), (56, .aload_n 0, 57, []), (57, .getfield 15, 60, [0, 10, 0, 1220]), (60, .aload_n 0, 61, []), (61, .dup, 62, []), (62, .getfield 79, 65, [0, 10, 3, 1224])],
  [(65, .dup_x1, 66, []), (66, .iconst 1, 67, []), (67, .iadd, 68, []), (68, .putfield 79, 71, [0, 10, 3, 1224]), (71, .iload_n 1, 72, []), (72, .invokestatic 197, 75, []), (75, .aload_n 0, 76, []), (76, .areturn, 77, [])]]
noncomputable def z_r303 : List (List (List z_Row)) := [z_r303_0]
-- java/lang/StringBuilder.append(I)Ljava/lang/StringBuilder;
set_option maxRecDepth 20000 in
noncomputable def z_r304_0 : List (List z_Row) := [[(0, .aload_n 0, 1, []), (1, .iload_n 1, 2, []), (2, .invokespecial 53, 5, [6, 305, 1, 6040]), (5, .pop, 6, []), (6, .aload_n 0, 7, []), (7, .areturn, 8, [])]]
noncomputable def z_r304 : List (List (List z_Row)) := [z_r304_0]
-- java/lang/AbstractStringBuilder.append(I)Ljava/lang/AbstractStringBuilder;
set_option maxRecDepth 20000 in
noncomputable def z_r305_0 : List (List z_Row) := [[(0, .aload_n 0, 1, []), (1, .getfield 79, 4, [0, 10, 3, 1224]), (4, .istore_n 2, 5, []), (5, .iload_n 2, 6, []), (6, .iload_n 1, 7, []), (7, .invokestatic 245, 10, [1, 325, 1, 6043]), (10, .iadd, 11, []), (11, .istore_n 3, 12, []), (12, .aload_n 0, 13, []), (13, .iload_n 3, 14, []), (14, .invokevirtual 100, 17, [10, 312, 1, 5175])],
  [(17, .aload_n 0, 18, []), (18, .invokevirtual 83, 21, [10, 314, 0, 5206]), (21, .ifCond .eq 16, 24, [37]), (24, .iload_n 1, 25, []), (25, .iload_n 3, 26, []), (26, .aload_n 0, 27, []), (27, .getfield 15, 30, [0, 10, 0, 1220]), (30, .invokestatic 248, 33, [1, 326, 3, 6046])],
  [(33, .pop, 34, []), (34, .goto 14, 37, [48]), (37, .iload_n 1, 38, []), (38, .iload_n 2, 39, []), (39, .iload_n 3, 40, []), (40, .aload_n 0, 41, []), (41, .getfield 15, 44, [0, 10, 0, 1220]), (44, .invokestatic 251, 47, []), (47, .pop, 48, [])],
  [(48, .aload_n 0, 49, []), (49, .iload_n 3, 50, []), (50, .putfield 79, 53, [0, 10, 3, 1224]), (53, .aload_n 0, 54, []), (54, .areturn, 55, [])]]
noncomputable def z_r305 : List (List (List z_Row)) := [z_r305_0]
-- java/lang/StringBuilder.setLength(I)V
set_option maxRecDepth 20000 in
noncomputable def z_r306_0 : List (List z_Row) := [[(0, .aload_n 0, 1, []), (1, .iload_n 1, 2, []), (2, .invokespecial 333, 5, [6, 307, 1, 5172]), (5, .return_, 6, [])]]
noncomputable def z_r306 : List (List (List z_Row)) := [z_r306_0]
-- java/lang/AbstractStringBuilder.setLength(I)V
set_option maxRecDepth 20000 in
noncomputable def z_r307_0 : List (List z_Row) := [[(0, .iload_n 1, 1, []), (1, .ifCond .ge 12, 4, [13]), (4, .new 129, 7, []), (7, .dup, 8, []), (8, .iload_n 1, 9, []), (9, .invokespecial 131, 12, []), (12, .athrow, 13, []), (13, .aload_n 0, 14, []), (14, .iload_n 1, 15, []), (15, .invokevirtual 100, 18, [10, 312, 1, 5175])],
  [(18, .aload_n 0, 19, []), (19, .getfield 79, 22, [0, 10, 3, 1224]), (22, .iload_n 1, 23, []), (23, .if_icmp .ge 40, 26, [63]), (26, .aload_n 0, 27, []), (27, .invokevirtual 83, 30, [10, 314, 0, 5206]), (30, .ifCond .eq 18, 33, [48])],
  [(33, .aload_n 0, 34, []), (34, .getfield 15, 37, [0, 10, 0, 1220]), (37, .aload_n 0, 38, []), (38, .getfield 79, 41, [0, 10, 3, 1224]), (41, .iload_n 1, 42, []), (42, .invokestatic 133, 45, []), (45, .goto 31, 48, [76])],
  [(48, .aload_n 0, 49, []), (49, .getfield 15, 52, [0, 10, 0, 1220]), (52, .aload_n 0, 53, []), (53, .getfield 79, 56, [0, 10, 3, 1224]), (56, .iload_n 1, 57, []), (57, .invokestatic 137, 60, []), (60, .goto 16, 63, [76]), (63, .aload_n 0, 64, [])],
  [(64, .getfield 79, 67, [0, 10, 3, 1224]), (67, .iload_n 1, 68, []), (68, .if_icmp .le 8, 71, [76]), (71, .aload_n 0, 72, []), (72, .iconst 1, 73, []), (73, .putfield 73, 76, [0, 10, 2, 1222]), (76, .aload_n 0, 77, []), (77, .iload_n 1, 78, []), (78, .putfield 79, 81, [0, 10, 3, 1224])],
  [(81, .return_, 82, [])]]
noncomputable def z_r307 : List (List (List z_Row)) := [z_r307_0]
-- java/lang/StringBuilder.length()I
set_option maxRecDepth 20000 in
noncomputable def z_r308_0 : List (List z_Row) := [[(0, .aload_n 0, 1, []), (1, .invokespecial 343, 4, [6, 309, 0, 5015]), (4, .ireturn, 5, [])]]
noncomputable def z_r308 : List (List (List z_Row)) := [z_r308_0]
-- java/lang/AbstractStringBuilder.length()I
set_option maxRecDepth 20000 in
noncomputable def z_r309_0 : List (List z_Row) := [[(0, .aload_n 0, 1, []), (1, .getfield 79, 4, [0, 10, 3, 1224]), (4, .ireturn, 5, [])]]
noncomputable def z_r309 : List (List (List z_Row)) := [z_r309_0]
-- java/lang/StringBuilder.charAt(I)C
set_option maxRecDepth 20000 in
noncomputable def z_r310_0 : List (List z_Row) := [[(0, .aload_n 0, 1, []), (1, .iload_n 1, 2, []), (2, .invokespecial 329, 5, [6, 311, 1, 5022]), (5, .ireturn, 6, [])]]
noncomputable def z_r310 : List (List (List z_Row)) := [z_r310_0]
-- java/lang/AbstractStringBuilder.charAt(I)C
set_option maxRecDepth 20000 in
noncomputable def z_r311_0 : List (List z_Row) := [[(0, .aload_n 0, 1, []), (1, .getfield 22, 4, [0, 10, 1, 1221]), (4, .istore_n 2, 5, []), (5, .aload_n 0, 6, []), (6, .getfield 15, 9, [0, 10, 0, 1220]), (9, .astore_n 3, 10, []), (10, .aload_n 0, 11, []), (11, .getfield 79, 14, [0, 10, 3, 1224]), (14, .aload_n 3, 15, []), (15, .arraylength, 16, [])],
  [(16, .iload_n 2, 17, []), (17, .ishr, 18, []), (18, .invokestatic 138, 21, [1, 318, 2, 5025]), (21, .istore 4, 23, []), (23, .iload_n 1, 24, []), (24, .iload 4, 26, []), (26, .invokestatic 144, 29, [1, 323, 2, 5026]), (29, .iload_n 2, 30, []), (30, .ifCond .ne 12, 33, [42])],
  [(33, .aload_n 3, 34, []), (34, .iload_n 1, 35, []), (35, .baload, 36, []), (36, .sipush 255, 39, []), (39, .iand, 40, []), (40, .i2c, 41, []), (41, .ireturn, 42, []), (42, .aload_n 3, 43, []), (43, .iload_n 1, 44, []), (44, .invokestatic 148, 47, []), (47, .ireturn, 48, [])]]
noncomputable def z_r311 : List (List (List z_Row)) := [z_r311_0]
-- java/lang/AbstractStringBuilder.ensureCapacityInternal(I)V
set_option maxRecDepth 20000 in
noncomputable def z_r312_0 : List (List z_Row) := [[(0, .aload_n 0, 1, []), (1, .getfield 15, 4, [0, 10, 0, 1220]), (4, .arraylength, 5, []), (5, .aload_n 0, 6, []), (6, .getfield 22, 9, [0, 10, 1, 1221]), (9, .ishr, 10, []), (10, .istore_n 2, 11, []), (11, .iload_n 1, 12, []), (12, .iload_n 2, 13, []), (13, .isub, 14, []), (14, .ifCond .le 24, 17, [38])],
  [(17, .aload_n 0, 18, []), (18, .aload_n 0, 19, []), (19, .getfield 15, 22, [0, 10, 0, 1220]), (22, .aload_n 0, 23, []), (23, .iload_n 1, 24, []), (24, .invokevirtual 104, 27, [10, 313, 1, 5179]), (27, .aload_n 0, 28, []), (28, .getfield 22, 31, [0, 10, 1, 1221]), (31, .ishl, 32, [])],
  [(32, .invokestatic 108, 35, [1, 317, 2, 5192]), (35, .putfield 15, 38, [0, 10, 0, 1220]), (38, .return_, 39, [])]]
noncomputable def z_r312 : List (List (List z_Row)) := [z_r312_0]
-- java/lang/AbstractStringBuilder.newCapacity(I)I
set_option maxRecDepth 20000 in
noncomputable def z_r313_0 : List (List z_Row) := [[(0, .aload_n 0, 1, []), (1, .getfield 15, 4, [0, 10, 0, 1220]), (4, .arraylength, 5, []), (5, .istore_n 2, 6, []), (6, .iload_n 1, 7, []), (7, .aload_n 0, 8, []), (8, .getfield 22, 11, [0, 10, 1, 1221]), (11, .ishl, 12, []), (12, .istore_n 3, 13, []), (13, .iload_n 3, 14, []), (14, .iload_n 2, 15, []), (15, .isub, 16, [])],
  [(16, .istore 4, 18, []), (18, .iload_n 2, 19, []), (19, .iload 4, 21, []), (21, .iload_n 2, 22, []), (22, .iconst 2, 23, []), (23, .aload_n 0, 24, []), (24, .getfield 22, 27, [0, 10, 1, 1221]), (27, .ishl, 28, []), (28, .iadd, 29, []), (29, .invokestatic 114, 32, [1, 322, 3, 5183])],
  [(32, .istore 5, 34, []), (34, .iload 5, 36, []), (36, .ldc 39, 38, []), (38, .if_icmp .ne 13, 41, [51]), (41, .new 120, 44, []), (44, .dup, 45, []), (45, .ldc 122, 47, []), (47, .invokespecial 124, 50, [])],
  [(50, .athrow, 51, []), (51, .iload 5, 53, []), (53, .aload_n 0, 54, []), (54, .getfield 22, 57, [0, 10, 1, 1221]), (57, .ishr, 58, []), (58, .ireturn, 59, [])]]
noncomputable def z_r313 : List (List (List z_Row)) := [z_r313_0]
-- java/lang/AbstractStringBuilder.isLatin1()Z
set_option maxRecDepth 20000 in
noncomputable def z_r314_0 : List (List z_Row) := [[(0, .getstatic 18, 3, [12, 1211]), (3, .ifCond .eq 14, 6, [17]), (6, .aload_n 0, 7, []), (7, .getfield 22, 10, [0, 10, 1, 1221]), (10, .ifCond .ne 7, 13, [17]), (13, .iconst 1, 14, []), (14, .goto 4, 17, [18])],
  [(17, .iconst 0, 18, []), (18, .ireturn, 19, [])]]
noncomputable def z_r314 : List (List (List z_Row)) := [z_r314_0]
-- java/lang/StringLatin1.canEncode(I)Z
set_option maxRecDepth 20000 in
noncomputable def z_r315_0 : List (List z_Row) := [[(0, .iload_n 0, 1, []), (1, .ifCond .lt 14, 4, [15]), (4, .iload_n 0, 5, []), (5, .sipush 255, 8, []), (8, .if_icmp .gt 7, 11, [15]), (11, .iconst 1, 12, []), (12, .goto 4, 15, [16]), (15, .iconst 0, 16, [])],
  [(16, .ireturn, 17, [])]]
noncomputable def z_r315 : List (List (List z_Row)) := [z_r315_0]
-- java/lang/StringLatin1.canEncode(C)Z
set_option maxRecDepth 20000 in
noncomputable def z_r316_0 : List (List z_Row) := [[(0, .iload_n 0, 1, []), (1, .sipush 255, 4, []), (4, .if_icmp .gt 7, 7, [11]), (7, .iconst 1, 8, []), (8, .goto 4, 11, [12]), (11, .iconst 0, 12, []), (12, .ireturn, 13, [])]]
noncomputable def z_r316 : List (List (List z_Row)) := [z_r316_0]
-- java/util/Arrays.copyOf([BI)[B
set_option maxRecDepth 20000 in
noncomputable def z_r317_0 : List (List z_Row) := [[(0, .iload_n 1, 1, []), (1, .aload_n 0, 2, []), (2, .arraylength, 3, []), (3, .if_icmp .ne 11, 6, [14]), (6, .aload_n 0, 7, []), (7, .invokevirtual 310, 10, []), (10, .checkcast 311, 13, []), (13, .areturn, 14, []), (14, .iload_n 1, 15, []), (15, .newarray .byte, 17, [2, 1234])],
  [(17, .astore_n 2, 18, []), (18, .aload_n 0, 19, []), (19, .iconst 0, 20, []), (20, .aload_n 2, 21, []), (21, .iconst 0, 22, []), (22, .aload_n 0, 23, []), (23, .arraylength, 24, []), (24, .iload_n 1, 25, []), (25, .invokestatic 304, 28, [1, 318, 2, 5202]), (28, .invokestatic 150, 31, [8, 0, 5, 5203]), (31, .aload_n 2, 32, [])],
  [(32, .areturn, 33, [])]]
noncomputable def z_r317 : List (List (List z_Row)) := [z_r317_0]
-- java/lang/Math.min(II)I
set_option maxRecDepth 20000 in
noncomputable def z_r318_0 : List (List z_Row) := [[(0, .iload_n 0, 1, []), (1, .iload_n 1, 2, []), (2, .if_icmp .gt 7, 5, [9]), (5, .iload_n 0, 6, []), (6, .goto 4, 9, [10]), (9, .iload_n 1, 10, []), (10, .ireturn, 11, [])]]
noncomputable def z_r318 : List (List (List z_Row)) := [z_r318_0]
-- java/lang/Math.max(II)I
set_option maxRecDepth 20000 in
noncomputable def z_r319_0 : List (List z_Row) := [[(0, .iload_n 0, 1, []), (1, .iload_n 1, 2, []), (2, .if_icmp .lt 7, 5, [9]), (5, .iload_n 0, 6, []), (6, .goto 4, 9, [10]), (9, .iload_n 1, 10, []), (10, .ireturn, 11, [])]]
noncomputable def z_r319 : List (List (List z_Row)) := [z_r319_0]
-- java/lang/Math.abs(I)I
set_option maxRecDepth 20000 in
noncomputable def z_r320_0 : List (List z_Row) := [[(0, .iload_n 0, 1, []), (1, .ifCond .ge 8, 4, [9]), (4, .iload_n 0, 5, []), (5, .ineg, 6, []), (6, .goto 4, 9, [10]), (9, .iload_n 0, 10, []), (10, .ireturn, 11, [])]]
noncomputable def z_r320 : List (List (List z_Row)) := [z_r320_0]
-- java/lang/Math.floorMod(II)I
set_option maxRecDepth 20000 in
noncomputable def z_r321_0 : List (List z_Row) := [[(0, .iload_n 0, 1, []), (1, .iload_n 1, 2, []), (2, .irem, 3, []), (3, .istore_n 2, 4, []), (4, .iload_n 0, 5, []), (5, .iload_n 1, 6, []), (6, .ixor, 7, []), (7, .ifCond .ge 11, 10, [18]), (10, .iload_n 2, 11, []), (11, .ifCond .eq 7, 14, [18]), (14, .iload_n 2, 15, []), (15, .iload_n 1, 16, [])],
  [(16, .iadd, 17, []), (17, .ireturn, 18, []), (18, .iload_n 2, 19, []), (19, .ireturn, 20, [])]]
noncomputable def z_r321 : List (List (List z_Row)) := [z_r321_0]
-- jdk/internal/util/ArraysSupport.newLength(III)I
set_option maxRecDepth 20000 in
noncomputable def z_r322_0 : List (List z_Row) := [[(0, .iload_n 0, 1, []), (1, .iload_n 1, 2, []), (2, .iload_n 2, 3, []), (3, .invokestatic 194, 6, [1, 319, 2, 5186]), (6, .iadd, 7, []), (7, .istore_n 3, 8, []), (8, .iconst 0, 9, []), (9, .iload_n 3, 10, []), (10, .if_icmp .ge 11, 13, [21]), (13, .iload_n 3, 14, []), (14, .ldc 200, 16, [])],
  [(16, .if_icmp .gt 5, 19, [21]), (19, .iload_n 3, 20, []), (20, .ireturn, 21, []), (21, .iload_n 0, 22, []), (22, .iload_n 1, 23, []), (23, .invokestatic 201, 26, []), (26, .ireturn, 27, [])]]
noncomputable def z_r322 : List (List (List z_Row)) := [z_r322_0]
-- java/lang/String.checkIndex(II)V
set_option maxRecDepth 20000 in
noncomputable def z_r323_0 : List (List z_Row) := [[(0, .iload_n 0, 1, []), (1, .iload_n 1, 2, []), (2, .getstatic 1053, 5, [13, 5029]), (5, .invokestatic 1059, 8, [1, 324, 3, 5031]), (8, .pop, 9, []), (9, .return_, 10, [])]]
noncomputable def z_r323 : List (List (List z_Row)) := [z_r323_0]
-- jdk/internal/util/Preconditions.checkIndex(IILjava/util/function/BiFunction;)I
set_option maxRecDepth 20000 in
noncomputable def z_r324_0 : List (List z_Row) := [[(0, .iload_n 0, 1, []), (1, .ifCond .lt 8, 4, [9]), (4, .iload_n 0, 5, []), (5, .iload_n 1, 6, []), (6, .if_icmp .lt 10, 9, [16]), (9, .aload_n 2, 10, []), (10, .iload_n 0, 11, []), (11, .iload_n 1, 12, []), (12, .invokestatic 95, 15, []), (15, .athrow, 16, [])],
  [(16, .iload_n 0, 17, []), (17, .ireturn, 18, [])]]
noncomputable def z_r324 : List (List (List z_Row)) := [z_r324_0]
-- java/lang/Integer.stringSize(I)I
set_option maxRecDepth 20000 in
noncomputable def z_r325_0 : List (List z_Row) := [[(0, .iconst 1, 1, []), (1, .istore_n 1, 2, []), (2, .iload_n 0, 3, []), (3, .ifCond .lt 8, 6, [11]), (6, .iconst 0, 7, []), (7, .istore_n 1, 8, []), (8, .iload_n 0, 9, []), (9, .ineg, 10, []), (10, .istore_n 0, 11, []), (11, .bipush (-10), 13, []), (13, .istore_n 2, 14, []), (14, .iconst 1, 15, []), (15, .istore_n 3, 16, [])],
  [(16, .iload_n 3, 17, []), (17, .bipush 10, 19, []), (19, .if_icmp .ge 23, 22, [42]), (22, .iload_n 0, 23, []), (23, .iload_n 2, 24, []), (24, .if_icmp .le 7, 27, [31]), (27, .iload_n 3, 28, []), (28, .iload_n 1, 29, []), (29, .iadd, 30, []), (30, .ireturn, 31, []), (31, .bipush 10, 33, [])],
  [(33, .iload_n 2, 34, []), (34, .imul, 35, []), (35, .istore_n 2, 36, []), (36, .iinc 3 1, 39, []), (39, .goto (-23), 42, [16]), (42, .bipush 10, 44, []), (44, .iload_n 1, 45, []), (45, .iadd, 46, []), (46, .ireturn, 47, [])]]
noncomputable def z_r325 : List (List (List z_Row)) := [z_r325_0]
-- java/lang/Integer.getChars(II[B)I
set_option maxRecDepth 20000 in
noncomputable def z_r326_0 : List (List z_Row) := [[(0, .iload_n 1, 1, []), (1, .istore 5, 3, []), (3, .iload_n 0, 4, []), (4, .ifCond .ge 7, 7, [11]), (7, .iconst 1, 8, []), (8, .goto 4, 11, [12]), (11, .iconst 0, 12, []), (12, .istore 6, 14, []), (14, .iload 6, 16, [])],
  [(16, .ifCond .ne 6, 19, [22]), (19, .iload_n 0, 20, []), (20, .ineg, 21, []), (21, .istore_n 0, 22, []), (22, .iload_n 0, 23, []), (23, .bipush (-100), 25, []), (25, .if_icmp .gt 47, 28, [72]), (28, .iload_n 0, 29, []), (29, .bipush 100, 31, []), (31, .idiv, 32, [])],
  [(32, .istore_n 3, 33, []), (33, .iload_n 3, 34, []), (34, .bipush 100, 36, []), (36, .imul, 37, []), (37, .iload_n 0, 38, []), (38, .isub, 39, []), (39, .istore 4, 41, []), (41, .iload_n 3, 42, []), (42, .istore_n 0, 43, []), (43, .aload_n 2, 44, []), (44, .iinc 5 (-1), 47, []), (47, .iload 5, 49, [])],
  [(49, .getstatic 83, 52, [14, 6049]), (52, .iload 4, 54, []), (54, .baload, 55, []), (55, .bastore, 56, []), (56, .aload_n 2, 57, []), (57, .iinc 5 (-1), 60, []), (60, .iload 5, 62, []), (62, .getstatic 87, 65, [15, 6051])],
  [(65, .iload 4, 67, []), (67, .baload, 68, []), (68, .bastore, 69, []), (69, .goto (-47), 72, [22]), (72, .aload_n 2, 73, []), (73, .iinc 5 (-1), 76, []), (76, .iload 5, 78, []), (78, .getstatic 83, 81, [14, 6049])],
  [(81, .iload_n 0, 82, []), (82, .ineg, 83, []), (83, .baload, 84, []), (84, .bastore, 85, []), (85, .iload_n 0, 86, []), (86, .bipush (-9), 88, []), (88, .if_icmp .ge 16, 91, [104]), (91, .aload_n 2, 92, []), (92, .iinc 5 (-1), 95, []), (95, .iload 5, 97, [])],
  [(97, .getstatic 87, 100, [15, 6051]), (100, .iload_n 0, 101, []), (101, .ineg, 102, []), (102, .baload, 103, []), (103, .bastore, 104, []), (104, .iload 6, 106, []), (106, .ifCond .eq 12, 109, [118]), (109, .aload_n 2, 110, []), (110, .iinc 5 (-1), 113, [])],
  [(113, .iload 5, 115, []), (115, .bipush 45, 117, []), (117, .bastore, 118, []), (118, .iload 5, 120, []), (120, .ireturn, 121, [])]]
noncomputable def z_r326 : List (List (List z_Row)) := [z_r326_0]
-- java/lang/Integer.bitCount(I)I
set_option maxRecDepth 20000 in
noncomputable def z_r327_0 : List (List z_Row) := [[(0, .iload_n 0, 1, []), (1, .iload_n 0, 2, []), (2, .iconst 1, 3, []), (3, .iushr, 4, []), (4, .ldc_w 265, 7, []), (7, .iand, 8, []), (8, .isub, 9, []), (9, .istore_n 0, 10, []), (10, .iload_n 0, 11, []), (11, .ldc_w 266, 14, []), (14, .iand, 15, []), (15, .iload_n 0, 16, [])],
  [(16, .iconst 2, 17, []), (17, .iushr, 18, []), (18, .ldc_w 266, 21, []), (21, .iand, 22, []), (22, .iadd, 23, []), (23, .istore_n 0, 24, []), (24, .iload_n 0, 25, []), (25, .iload_n 0, 26, []), (26, .iconst 4, 27, []), (27, .iushr, 28, []), (28, .iadd, 29, []), (29, .ldc_w 267, 32, [])],
  [(32, .iand, 33, []), (33, .istore_n 0, 34, []), (34, .iload_n 0, 35, []), (35, .iload_n 0, 36, []), (36, .bipush 8, 38, []), (38, .iushr, 39, []), (39, .iadd, 40, []), (40, .istore_n 0, 41, []), (41, .iload_n 0, 42, []), (42, .iload_n 0, 43, []), (43, .bipush 16, 45, []), (45, .iushr, 46, []), (46, .iadd, 47, []), (47, .istore_n 0, 48, [])],
  [(48, .iload_n 0, 49, []), (49, .bipush 63, 51, []), (51, .iand, 52, []), (52, .ireturn, 53, [])]]
noncomputable def z_r327 : List (List (List z_Row)) := [z_r327_0]
-- java/lang/Enum.ordinal()I
set_option maxRecDepth 20000 in
noncomputable def z_r328_0 : List (List z_Row) := [[(0, .aload_n 0, 1, []), (1, .getfield 7, 4, [1, 0, 7133]), (4, .ireturn, 5, [])]]
noncomputable def z_r328 : List (List (List z_Row)) := [z_r328_0]
-- java/lang/String.charAt(I)C
set_option maxRecDepth 20000 in
noncomputable def z_r329_0 : List (List z_Row) := [[(0, .aload_n 0, 1, []), (1, .invokevirtual 492, 4, [0, 330, 0, 5059]), (4, .ifCond .eq 12, 7, [16]), (7, .aload_n 0, 8, []), (8, .getfield 9, 11, [1, 2, 6104]), (11, .iload_n 1, 12, []), (12, .invokestatic 495, 15, [1, 335, 2, 5125]), (15, .ireturn, 16, [])],
  [(16, .aload_n 0, 17, []), (17, .getfield 9, 20, [1, 2, 6104]), (20, .iload_n 1, 21, []), (21, .invokestatic 498, 24, []), (24, .ireturn, 25, [])]]
noncomputable def z_r329 : List (List (List z_Row)) := [z_r329_0]
-- java/lang/String.isLatin1()Z
set_option maxRecDepth 20000 in
noncomputable def z_r330_0 : List (List z_Row) := [[(0, .getstatic 38, 3, [12, 5063]), (3, .ifCond .eq 14, 6, [17]), (6, .aload_n 0, 7, []), (7, .getfield 15, 10, [1, 3, 6105]), (10, .ifCond .ne 7, 13, [17]), (13, .iconst 1, 14, []), (14, .goto 4, 17, [18])],
  [(17, .iconst 0, 18, []), (18, .ireturn, 19, [])]]
noncomputable def z_r330 : List (List (List z_Row)) := [z_r330_0]
-- java/lang/String.length()I
set_option maxRecDepth 20000 in
noncomputable def z_r331_0 : List (List z_Row) := [[(0, .aload_n 0, 1, []), (1, .getfield 9, 4, [1, 2, 6104]), (4, .arraylength, 5, []), (5, .aload_n 0, 6, []), (6, .invokevirtual 335, 9, [0, 332, 0, 5068]), (9, .ishr, 10, []), (10, .ireturn, 11, [])]]
noncomputable def z_r331 : List (List (List z_Row)) := [z_r331_0]
-- java/lang/String.coder()B
set_option maxRecDepth 20000 in
noncomputable def z_r332_0 : List (List z_Row) := [[(0, .getstatic 38, 3, [12, 5063]), (3, .ifCond .eq 10, 6, [13]), (6, .aload_n 0, 7, []), (7, .getfield 15, 10, [1, 3, 6105]), (10, .goto 4, 13, [14]), (13, .iconst 1, 14, []), (14, .ireturn, 15, [])]]
noncomputable def z_r332 : List (List (List z_Row)) := [z_r332_0]
-- java/lang/String.indexOf(I)I
set_option maxRecDepth 20000 in
noncomputable def z_r333_0 : List (List z_Row) := [[(0, .aload_n 0, 1, []), (1, .iload_n 1, 2, []), (2, .iconst 0, 3, []), (3, .invokevirtual 633, 6, [0, 334, 2, 5055]), (6, .ireturn, 7, [])]]
noncomputable def z_r333 : List (List (List z_Row)) := [z_r333_0]
-- java/lang/String.indexOf(II)I
set_option maxRecDepth 20000 in
noncomputable def z_r334_0 : List (List z_Row) := [[(0, .aload_n 0, 1, []), (1, .invokevirtual 492, 4, [0, 330, 0, 5059]), (4, .ifCond .eq 19, 7, [23]), (7, .aload_n 0, 8, []), (8, .getfield 9, 11, [1, 2, 6104]), (11, .iload_n 1, 12, []), (12, .iload_n 2, 13, []), (13, .aload_n 0, 14, []), (14, .invokevirtual 505, 17, [0, 331, 0, 5064])],
  [(17, .invokestatic 637, 20, [1, 336, 4, 5072]), (20, .goto 16, 23, [36]), (23, .aload_n 0, 24, []), (24, .getfield 9, 27, [1, 2, 6104]), (27, .iload_n 1, 28, []), (28, .iload_n 2, 29, []), (29, .aload_n 0, 30, []), (30, .invokevirtual 505, 33, [0, 331, 0, 5064])],
  [(33, .invokestatic 640, 36, []), (36, .ireturn, 37, [])]]
noncomputable def z_r334 : List (List (List z_Row)) := [z_r334_0]
-- java/lang/StringLatin1.charAt([BI)C
set_option maxRecDepth 20000 in
noncomputable def z_r335_0 : List (List z_Row) := [[(0, .iload_n 1, 1, []), (1, .aload_n 0, 2, []), (2, .arraylength, 3, []), (3, .invokestatic 9, 6, [1, 323, 2, 5128]), (6, .aload_n 0, 7, []), (7, .iload_n 1, 8, []), (8, .baload, 9, []), (9, .sipush 255, 12, []), (12, .iand, 13, []), (13, .i2c, 14, []), (14, .ireturn, 15, [])]]
noncomputable def z_r335 : List (List (List z_Row)) := [z_r335_0]
-- java/lang/StringLatin1.indexOf([BIII)I
set_option maxRecDepth 20000 in
noncomputable def z_r336_0 : List (List z_Row) := [[(0, .iload_n 1, 1, []), (1, .invokestatic 88, 4, [1, 315, 1, 5075]), (4, .ifCond .ne 5, 7, [9]), (7, .iconst (-1), 8, []), (8, .ireturn, 9, []), (9, .iload_n 2, 10, []), (10, .iconst 0, 11, []), (11, .invokestatic 92, 14, [1, 319, 2, 5078]), (14, .istore_n 2, 15, []), (15, .iload_n 3, 16, [])],
  [(16, .aload_n 0, 17, []), (17, .arraylength, 18, []), (18, .invokestatic 38, 21, [1, 318, 2, 5079]), (21, .istore_n 3, 22, []), (22, .iload_n 2, 23, []), (23, .iload_n 3, 24, []), (24, .if_icmp .lt 5, 27, [29]), (27, .iconst (-1), 28, []), (28, .ireturn, 29, []), (29, .aload_n 0, 30, []), (30, .iload_n 1, 31, []), (31, .iload_n 2, 32, [])],
  [(32, .iload_n 3, 33, []), (33, .invokestatic 95, 36, [1, 337, 4, 5080]), (36, .ireturn, 37, [])]]
noncomputable def z_r336 : List (List (List z_Row)) := [z_r336_0]
-- java/lang/StringLatin1.indexOfChar([BIII)I
set_option maxRecDepth 20000 in
noncomputable def z_r337_0 : List (List z_Row) := [[(0, .iload_n 1, 1, []), (1, .i2b, 2, []), (2, .istore 4, 4, []), (4, .iload_n 2, 5, []), (5, .istore 5, 7, []), (7, .iload 5, 9, []), (9, .iload_n 3, 10, []), (10, .if_icmp .ge 21, 13, [31]), (13, .aload_n 0, 14, []), (14, .iload 5, 16, [])],
  [(16, .baload, 17, []), (17, .iload 4, 19, []), (19, .if_icmp .ne 6, 22, [25]), (22, .iload 5, 24, []), (24, .ireturn, 25, []), (25, .iinc 5 1, 28, []), (28, .goto (-21), 31, [7]), (31, .iconst (-1), 32, [])],
  [(32, .ireturn, 33, [])]]
noncomputable def z_r337 : List (List (List z_Row)) := [z_r337_0]
-- ClockParliamentLaw.law([I)Z
set_option maxRecDepth 20000 in
noncomputable def z_r338_0 : List (List z_Row) := [[(0, .aload_n 0, 1, []), (1, .invokestatic 115, 4, [1, 174, 1, 7027]), (4, .astore_n 1, 5, []), (5, .aload_n 0, 6, []), (6, .invokestatic 115, 9, [1, 174, 1, 7027]), (9, .astore_n 2, 10, []), (10, .aload_n 1, 11, []), (11, .invokevirtual 119, 14, [0, 157, 0, 6235]), (14, .istore_n 3, 15, []), (15, .aload_n 1, 16, [])],
  [(16, .invokestatic 122, 19, [1, 176, 1, 7047]), (19, .istore 4, 21, []), (21, .aload_n 1, 22, []), (22, .iconst 1, 23, []), (23, .invokevirtual 83, 26, [0, 117, 1, 4079]), (26, .istore 5, 28, []), (28, .aload_n 1, 29, []), (29, .new 126, 32, [0, 10, 7066, 1203, 1010])],
  [(32, .dup, 33, []), (33, .invokespecial 128, 36, [2, 300, 0, 7067]), (36, .ldc 129, 38, []), (38, .invokevirtual 131, 41, [0, 160, 1, 7068]), (41, .iload 5, 43, []), (43, .ifCond .ge 8, 46, [51]), (46, .ldc 134, 48, [])],
  [(48, .goto 5, 51, [53]), (51, .ldc 136, 53, []), (53, .invokevirtual 131, 56, [0, 160, 1, 7068]), (56, .ldc 138, 58, []), (58, .invokevirtual 131, 61, [0, 160, 1, 7068]), (61, .invokevirtual 140, 64, [0, 165, 0, 7070])],
  [(64, .invokestatic 144, 67, [1, 173, 2, 7011]), (67, .iload 5, 69, []), (69, .ifCond .ge 7, 72, [76]), (72, .iload_n 3, 73, []), (73, .ifCond .le 7, 76, [80]), (76, .iconst 1, 77, []), (77, .goto 4, 80, [81])],
  [(80, .iconst 0, 81, []), (81, .istore 6, 83, []), (83, .iload 6, 85, []), (85, .ifCond .eq 140, 88, [225]), (88, .aload_n 1, 89, []), (89, .invokevirtual 148, 92, [0, 144, 0, 4235]), (92, .iconst 3, 93, []), (93, .if_icmp .ne 67, 96, [160])],
  [(96, .aload_n 2, 97, []), (97, .iconst 2, 98, []), (98, .invokevirtual 72, 101, [0, 113, 1, 4013]), (101, .ifCond .lt 59, 104, [160]), (104, .aload_n 2, 105, []), (105, .iconst 1, 106, []), (106, .iload 5, 108, []), (108, .ifCond .ge 7, 111, [115]), (111, .iconst 0, 112, [])],
  [(112, .goto 4, 115, [116]), (115, .iconst (-1), 116, []), (116, .invokevirtual 50, 119, [0, 106, 2, 3218]), (119, .iload 5, 121, []), (121, .if_icmp .ne 39, 124, [160]), (124, .aload_n 2, 125, []), (125, .iconst 1, 126, []), (126, .invokevirtual 72, 129, [0, 113, 1, 4013])],
  [(129, .ifCond .lt 31, 132, [160]), (132, .aload_n 1, 133, []), (133, .invokestatic 122, 136, [1, 176, 1, 7047]), (136, .aload_n 2, 137, []), (137, .invokestatic 122, 140, [1, 176, 1, 7047]), (140, .if_icmp .ne 20, 143, [160]), (143, .aload_n 1, 144, [])],
  [(144, .bipush 12, 146, []), (146, .invokevirtual 34, 149, [0, 153, 1, 6177]), (149, .ifCond .ne 11, 152, [160]), (152, .aload_n 1, 153, []), (153, .invokevirtual 151, 156, [0, 145, 0, 6126]), (156, .iconst (-1), 157, []), (157, .if_icmp .eq 5, 160, [162])],
  [(160, .iconst 0, 161, []), (161, .ireturn, 162, []), (162, .aload_n 1, 163, []), (163, .bipush 13, 165, []), (165, .invokevirtual 34, 168, [0, 153, 1, 6177]), (168, .istore 7, 170, []), (170, .aload_n 1, 171, []), (171, .invokevirtual 154, 174, [0, 156, 0, 6211]), (174, .iload 7, 176, [])],
  [(176, .iconst 1, 177, []), (177, .isub, 178, []), (178, .if_icmp .ne 42, 181, [220]), (181, .aload_n 1, 182, []), (182, .invokestatic 122, 185, [1, 176, 1, 7047]), (185, .iload 4, 187, []), (187, .if_icmp .ne 33, 190, [220]), (190, .aload_n 2, 191, []), (191, .invokevirtual 154, 194, [0, 156, 0, 6211])],
  [(194, .ifCond .lt 26, 197, [220]), (197, .aload_n 2, 198, []), (198, .invokevirtual 154, 201, [0, 156, 0, 6211]), (201, .ifCond .lt 19, 204, [220]), (204, .aload_n 2, 205, []), (205, .invokevirtual 154, 208, [0, 156, 0, 6211])],
  [(208, .ifCond .lt 12, 211, [220]), (211, .aload_n 2, 212, []), (212, .invokestatic 122, 215, [1, 176, 1, 7047]), (215, .iload 4, 217, []), (217, .if_icmp .eq 5, 220, [222]), (220, .iconst 0, 221, []), (221, .ireturn, 222, []), (222, .goto 14, 225, [236])],
  [(225, .aload_n 1, 226, []), (226, .invokestatic 157, 229, [9, 178, 1, 7059]), (229, .bipush (-2), 231, []), (231, .if_icmp .eq 5, 234, [236]), (234, .iconst 0, 235, []), (235, .ireturn, 236, []), (236, .aload_n 1, 237, []), (237, .ldc 160, 239, []), (239, .invokestatic 144, 242, [1, 173, 2, 7011])],
  [(242, .aload_n 1, 243, []), (243, .invokestatic 157, 246, [9, 178, 1, 7059]), (246, .bipush (-2), 248, []), (248, .if_icmp .ne 54, 251, [302]), (251, .aload_n 1, 252, []), (252, .iconst 0, 253, []), (253, .iconst 0, 254, []), (254, .invokevirtual 162, 257, [0, 146, 2, 6130])]]
set_option maxRecDepth 20000 in
noncomputable def z_r338_1 : List (List z_Row) := [[(257, .bipush 11, 259, []), (259, .if_icmp .ne 43, 262, [302]), (262, .aload_n 1, 263, []), (263, .iconst 0, 264, []), (264, .iconst 1, 265, []), (265, .invokevirtual 162, 268, [0, 146, 2, 6130]), (268, .iconst 1, 269, []), (269, .if_icmp .ne 33, 272, [302])],
  [(272, .aload_n 1, 273, []), (273, .iconst 1, 274, []), (274, .iconst 0, 275, []), (275, .invokevirtual 162, 278, [0, 146, 2, 6130]), (278, .iconst 3, 279, []), (279, .if_icmp .ne 23, 282, [302]), (282, .aload_n 1, 283, []), (283, .iconst 1, 284, []), (284, .iconst 1, 285, []), (285, .invokevirtual 162, 288, [0, 146, 2, 6130])],
  [(288, .bipush 25, 290, []), (290, .if_icmp .ne 12, 293, [302]), (293, .aload_n 1, 294, []), (294, .invokestatic 122, 297, [1, 176, 1, 7047]), (297, .iload 4, 299, []), (299, .if_icmp .eq 5, 302, [304]), (302, .iconst 0, 303, []), (303, .ireturn, 304, [])],
  [(304, .aload_n 1, 305, []), (305, .ldc 166, 307, []), (307, .invokestatic 144, 310, [1, 173, 2, 7011]), (310, .aload_n 1, 311, []), (311, .invokestatic 157, 314, [9, 178, 1, 7059]), (314, .bipush (-2), 316, []), (316, .if_icmp .ne 42, 319, [358]), (319, .aload_n 1, 320, [])],
  [(320, .iconst 0, 321, []), (321, .iconst 1, 322, []), (322, .invokevirtual 162, 325, [0, 146, 2, 6130]), (325, .ifCond .ne 33, 328, [358]), (328, .aload_n 1, 329, []), (329, .iconst 1, 330, []), (330, .iconst 0, 331, []), (331, .invokevirtual 162, 334, [0, 146, 2, 6130]), (334, .iconst 2, 335, []), (335, .if_icmp .ne 23, 338, [358])],
  [(338, .aload_n 1, 339, []), (339, .iconst 1, 340, []), (340, .iconst 1, 341, []), (341, .invokevirtual 162, 344, [0, 146, 2, 6130]), (344, .bipush 9, 346, []), (346, .if_icmp .ne 12, 349, [358]), (349, .aload_n 1, 350, []), (350, .invokestatic 122, 353, [1, 176, 1, 7047])],
  [(353, .iload 4, 355, []), (355, .if_icmp .eq 5, 358, [360]), (358, .iconst 0, 359, []), (359, .ireturn, 360, []), (360, .aload_n 1, 361, []), (361, .ldc 168, 363, []), (363, .iconst 5, 364, []), (364, .invokestatic 170, 367, [1, 179, 3, 7063]), (367, .ifCond .eq 107, 370, [474])],
  [(370, .aload_n 1, 371, []), (371, .ldc 174, 373, []), (373, .bipush 6, 375, []), (375, .invokestatic 170, 378, [1, 179, 3, 7063]), (378, .ifCond .eq 96, 381, [474]), (381, .aload_n 1, 382, []), (382, .ldc 176, 384, [])],
  [(384, .bipush 7, 386, []), (386, .invokestatic 170, 389, [1, 179, 3, 7063]), (389, .ifCond .eq 85, 392, [474]), (392, .aload_n 1, 393, []), (393, .ldc 178, 395, []), (395, .iconst 1, 396, []), (396, .invokestatic 170, 399, [1, 179, 3, 7063]), (399, .ifCond .eq 75, 402, [474])],
  [(402, .aload_n 1, 403, []), (403, .ldc 180, 405, []), (405, .iconst 0, 406, []), (406, .invokestatic 170, 409, [1, 179, 3, 7063]), (409, .ifCond .eq 65, 412, [474]), (412, .aload_n 1, 413, []), (413, .ldc 182, 415, []), (415, .iconst 5, 416, [])],
  [(416, .invokestatic 170, 419, [1, 179, 3, 7063]), (419, .ifCond .eq 55, 422, [474]), (422, .aload_n 1, 423, []), (423, .ldc 184, 425, []), (425, .bipush 9, 427, []), (427, .invokestatic 170, 430, [1, 179, 3, 7063]), (430, .ifCond .eq 44, 433, [474])],
  [(433, .aload_n 1, 434, []), (434, .ldc 186, 436, []), (436, .bipush 9, 438, []), (438, .invokestatic 170, 441, [1, 179, 3, 7063]), (441, .ifCond .eq 33, 444, [474]), (444, .aload_n 1, 445, []), (445, .ldc 188, 447, []), (447, .iconst 0, 448, [])],
  [(448, .invokestatic 170, 451, [1, 179, 3, 7063]), (451, .ifCond .eq 23, 454, [474]), (454, .aload_n 1, 455, []), (455, .ldc 190, 457, []), (457, .bipush 6, 459, []), (459, .invokestatic 170, 462, [1, 179, 3, 7063]), (462, .ifCond .eq 12, 465, [474])],
  [(465, .aload_n 1, 466, []), (466, .invokestatic 122, 469, [1, 176, 1, 7047]), (469, .iload 4, 471, []), (471, .if_icmp .eq 5, 474, [476]), (474, .iconst 0, 475, []), (475, .ireturn, 476, []), (476, .aload_n 0, 477, []), (477, .bipush 13, 479, []), (479, .invokestatic 24, 482, [1, 172, 2, 7008])],
  [(482, .istore 7, 484, []), (484, .bipush 10, 486, []), (486, .iload 7, 488, []), (488, .bipush 15, 490, []), (490, .iand, 491, []), (491, .iadd, 492, []), (492, .istore 8, 494, []), (494, .new 18, 497, [0, 8, 1035, 1036, 1001])],
  [(497, .dup, 498, []), (498, .invokespecial 23, 501, [2, 103, 0, 1037]), (501, .astore 9, 503, []), (503, .aload 9, 505, []), (505, .invokevirtual 192, 508, [0, 139, 0, 4219]), (508, .ifCond .eq 101, 511, [609]), (511, .aload 9, 513, [])]]
set_option maxRecDepth 20000 in
noncomputable def z_r338_2 : List (List z_Row) := [[(513, .invokevirtual 196, 516, [0, 149, 0, 6172]), (516, .ifCond .ne 93, 519, [609]), (519, .aload 9, 521, []), (521, .invokevirtual 199, 524, [0, 135, 0, 4193]), (524, .ifCond .ne 85, 527, [609]), (527, .aload 9, 529, [])],
  [(529, .bipush 8, 531, []), (531, .iconst 0, 532, []), (532, .iconst 0, 533, []), (533, .iconst 0, 534, []), (534, .invokestatic 30, 537, [9, 175, 5, 7030]), (537, .bipush (-99), 539, []), (539, .if_icmp .ne 70, 542, [609]), (542, .aload 9, 544, [])],
  [(544, .iconst 0, 545, []), (545, .iconst 0, 546, []), (546, .invokevirtual 162, 549, [0, 146, 2, 6130]), (549, .bipush 9, 551, []), (551, .if_icmp .ne 58, 554, [609]), (554, .aload 9, 556, []), (556, .iconst 0, 557, []), (557, .iconst 1, 558, []), (558, .invokevirtual 162, 561, [0, 146, 2, 6130])],
  [(561, .ifCond .ne 48, 564, [609]), (564, .aload 9, 566, []), (566, .iconst 3, 567, []), (567, .iconst 0, 568, []), (568, .iconst 0, 569, []), (569, .iconst 0, 570, []), (570, .invokestatic 30, 573, [9, 175, 5, 7030]), (573, .bipush (-99), 575, []), (575, .if_icmp .ne 34, 578, [609])],
  [(578, .aload 9, 580, []), (580, .iconst 0, 581, []), (581, .iconst 0, 582, []), (582, .invokevirtual 162, 585, [0, 146, 2, 6130]), (585, .iconst 2, 586, []), (586, .if_icmp .ne 23, 589, [609]), (589, .aload 9, 591, []), (591, .iconst 0, 592, [])],
  [(592, .iconst 1, 593, []), (593, .invokevirtual 162, 596, [0, 146, 2, 6130]), (596, .ifCond .ne 13, 599, [609]), (599, .aload 9, 601, []), (601, .iconst 2, 602, []), (602, .invokevirtual 83, 605, [0, 117, 1, 4079]), (605, .iconst (-1), 606, []), (606, .if_icmp .eq 5, 609, [611])],
  [(609, .iconst 0, 610, []), (610, .ireturn, 611, []), (611, .aload 9, 613, []), (613, .new 126, 616, [0, 10, 7066, 1203, 1010]), (616, .dup, 617, []), (617, .invokespecial 128, 620, [2, 300, 0, 7067]), (620, .ldc 202, 622, []), (622, .invokevirtual 131, 625, [0, 160, 1, 7068])],
  [(625, .iload 8, 627, []), (627, .invokevirtual 204, 630, [0, 304, 1, 7069]), (630, .ldc 207, 632, []), (632, .invokevirtual 131, 635, [0, 160, 1, 7068]), (635, .iload 8, 637, []), (637, .iconst 5, 638, []), (638, .iadd, 639, []), (639, .invokevirtual 204, 642, [0, 304, 1, 7069])],
  [(642, .ldc 209, 644, []), (644, .invokevirtual 131, 647, [0, 160, 1, 7068]), (647, .iload 8, 649, []), (649, .bipush 11, 651, []), (651, .iadd, 652, []), (652, .invokevirtual 204, 655, [0, 304, 1, 7069]), (655, .ldc 211, 657, [])],
  [(657, .invokevirtual 131, 660, [0, 160, 1, 7068]), (660, .iload 8, 662, []), (662, .invokevirtual 204, 665, [0, 304, 1, 7069]), (665, .ldc 213, 667, []), (667, .invokevirtual 131, 670, [0, 160, 1, 7068]), (670, .invokevirtual 140, 673, [0, 165, 0, 7070])],
  [(673, .invokestatic 144, 676, [1, 173, 2, 7011]), (676, .aload 9, 678, []), (678, .invokevirtual 148, 681, [0, 144, 0, 4235]), (681, .iconst 5, 682, []), (682, .if_icmp .ne 196, 685, [878]), (685, .aload 9, 687, []), (687, .iconst 0, 688, [])],
  [(688, .bipush 6, 690, []), (690, .invokevirtual 77, 693, [0, 115, 2, 4019]), (693, .iconst 2, 694, []), (694, .if_icmp .ne 184, 697, [878]), (697, .aload 9, 699, []), (699, .iconst 1, 700, []), (700, .bipush 6, 702, []), (702, .invokevirtual 77, 705, [0, 115, 2, 4019])],
  [(705, .iconst 1, 706, []), (706, .if_icmp .ne 172, 709, [878]), (709, .aload 9, 711, []), (711, .iconst 2, 712, []), (712, .bipush 6, 714, []), (714, .invokevirtual 77, 717, [0, 115, 2, 4019]), (717, .ifCond .ne 161, 720, [878])],
  [(720, .aload 9, 722, []), (722, .iconst 0, 723, []), (723, .invokevirtual 215, 726, [0, 137, 1, 4209]), (726, .iconst 3, 727, []), (727, .if_icmp .ne 151, 730, [878]), (730, .aload 9, 732, []), (732, .iconst 2, 733, []), (733, .invokevirtual 215, 736, [0, 137, 1, 4209])],
  [(736, .iconst 4, 737, []), (737, .if_icmp .ne 141, 740, [878]), (740, .aload 9, 742, []), (742, .iconst 0, 743, []), (743, .iconst 2, 744, []), (744, .invokevirtual 218, 747, [0, 119, 2, 4085]), (747, .bipush 11, 749, []), (749, .if_icmp .ne 129, 752, [878])],
  [(752, .aload 9, 754, []), (754, .iconst 0, 755, []), (755, .invokevirtual 219, 758, [0, 131, 1, 4159]), (758, .bipush 7, 760, []), (760, .if_icmp .ne 118, 763, [878]), (763, .aload 9, 765, []), (765, .iconst 0, 766, []), (766, .invokevirtual 221, 769, [0, 132, 1, 4164])]]
set_option maxRecDepth 20000 in
noncomputable def z_r338_3 : List (List z_Row) := [[(769, .iconst 1, 770, []), (770, .if_icmp .ne 108, 773, [878]), (773, .aload 9, 775, []), (775, .iconst 0, 776, []), (776, .invokevirtual 224, 779, [0, 133, 1, 4172]), (779, .iconst 1, 780, []), (780, .if_icmp .ne 98, 783, [878]), (783, .aload 9, 785, [])],
  [(785, .iconst 0, 786, []), (786, .invokevirtual 227, 789, [0, 134, 1, 4184]), (789, .ifCond .ne 89, 792, [878]), (792, .aload 9, 794, []), (794, .invokevirtual 199, 797, [0, 135, 0, 4193]), (797, .ifCond .ne 81, 800, [878])],
  [(800, .aload 9, 802, []), (802, .aload 9, 804, []), (804, .iconst 0, 805, []), (805, .invokevirtual 231, 808, [0, 147, 1, 6140]), (808, .new 126, 811, [0, 10, 7066, 1203, 1010]), (811, .dup, 812, []), (812, .invokespecial 128, 815, [2, 300, 0, 7067]), (815, .ldc 234, 817, [])],
  [(817, .invokevirtual 131, 820, [0, 160, 1, 7068]), (820, .iload 8, 822, []), (822, .invokevirtual 204, 825, [0, 304, 1, 7069]), (825, .ldc 236, 827, []), (827, .invokevirtual 131, 830, [0, 160, 1, 7068]), (830, .invokevirtual 140, 833, [0, 165, 0, 7070])],
  [(833, .invokestatic 238, 836, [1, 177, 3, 7050]), (836, .ifCond .eq 42, 839, [878]), (839, .aload 9, 841, []), (841, .aload 9, 843, []), (843, .iconst 0, 844, []), (844, .invokevirtual 242, 847, [0, 148, 1, 6168]), (847, .new 126, 850, [0, 10, 7066, 1203, 1010])],
  [(850, .dup, 851, []), (851, .invokespecial 128, 854, [2, 300, 0, 7067]), (854, .ldc 245, 856, []), (856, .invokevirtual 131, 859, [0, 160, 1, 7068]), (859, .iload 8, 861, []), (861, .invokevirtual 204, 864, [0, 304, 1, 7069])],
  [(864, .ldc 247, 866, []), (866, .invokevirtual 131, 869, [0, 160, 1, 7068]), (869, .invokevirtual 140, 872, [0, 165, 0, 7070]), (872, .invokestatic 238, 875, [1, 177, 3, 7050]), (875, .ifCond .ne 5, 878, [880]), (878, .iconst 0, 879, []), (879, .ireturn, 880, [])],
  [(880, .aload 9, 882, []), (882, .iconst 3, 883, []), (883, .iconst 2, 884, []), (884, .iconst 2, 885, []), (885, .iconst 0, 886, []), (886, .invokestatic 30, 889, [9, 175, 5, 7030]), (889, .bipush (-99), 891, []), (891, .if_icmp .ne 192, 894, [1083]), (894, .aload 9, 896, [])],
  [(896, .iconst 0, 897, []), (897, .iconst 0, 898, []), (898, .invokevirtual 162, 901, [0, 146, 2, 6130]), (901, .bipush 10, 903, []), (903, .if_icmp .ne 180, 906, [1083]), (906, .aload 9, 908, []), (908, .iconst 0, 909, []), (909, .iconst 1, 910, []), (910, .invokevirtual 162, 913, [0, 146, 2, 6130])],
  [(913, .bipush 11, 915, []), (915, .if_icmp .ne 168, 918, [1083]), (918, .aload 9, 920, []), (920, .iconst 3, 921, []), (921, .iconst 2, 922, []), (922, .iconst 1, 923, []), (923, .iconst 0, 924, []), (924, .invokestatic 30, 927, [9, 175, 5, 7030]), (927, .bipush (-99), 929, [])],
  [(929, .if_icmp .ne 154, 932, [1083]), (932, .aload 9, 934, []), (934, .iconst 0, 935, []), (935, .iconst 0, 936, []), (936, .invokevirtual 162, 939, [0, 146, 2, 6130]), (939, .iconst 4, 940, []), (940, .if_icmp .ne 143, 943, [1083]), (943, .aload 9, 945, [])],
  [(945, .iconst 0, 946, []), (946, .iconst 1, 947, []), (947, .invokevirtual 162, 950, [0, 146, 2, 6130]), (950, .bipush 24, 952, []), (952, .if_icmp .ne 131, 955, [1083]), (955, .aload 9, 957, []), (957, .iconst 2, 958, []), (958, .bipush 19, 960, [])],
  [(960, .invokevirtual 56, 963, [0, 108, 2, 3230]), (963, .iload 8, 965, []), (965, .bipush 30, 967, []), (967, .iadd, 968, []), (968, .bipush 60, 970, []), (970, .irem, 971, []), (971, .if_icmp .ne 112, 974, [1083]), (974, .aload 9, 976, [])],
  [(976, .iconst 2, 977, []), (977, .iconst 1, 978, []), (978, .invokevirtual 77, 981, [0, 115, 2, 4019]), (981, .bipush 22, 983, []), (983, .if_icmp .ne 100, 986, [1083]), (986, .aload 9, 988, []), (988, .iconst 0, 989, []), (989, .invokevirtual 219, 992, [0, 131, 1, 4159])],
  [(992, .iconst 3, 993, []), (993, .if_icmp .ne 90, 996, [1083]), (996, .aload 9, 998, []), (998, .iconst 0, 999, []), (999, .invokevirtual 221, 1002, [0, 132, 1, 4164]), (1002, .iconst 4, 1003, []), (1003, .if_icmp .ne 80, 1006, [1083]), (1006, .aload 9, 1008, [])],
  [(1008, .iconst 0, 1009, []), (1009, .invokevirtual 227, 1012, [0, 134, 1, 4184]), (1012, .ifCond .eq 71, 1015, [1083]), (1015, .aload 9, 1017, []), (1017, .invokevirtual 199, 1020, [0, 135, 0, 4193]), (1020, .iconst 1, 1021, []), (1021, .if_icmp .ne 62, 1024, [1083])]]
set_option maxRecDepth 20000 in
noncomputable def z_r338_4 : List (List z_Row) := [[(1024, .aload 9, 1026, []), (1026, .iconst 1, 1027, []), (1027, .iload 8, 1029, []), (1029, .bipush 30, 1031, []), (1031, .iadd, 1032, []), (1032, .bipush 60, 1034, []), (1034, .irem, 1035, []), (1035, .iconst 1, 1036, []), (1036, .invokevirtual 59, 1039, [0, 109, 3, 3236]), (1039, .iconst 1, 1040, [])],
  [(1040, .if_icmp .ne 43, 1043, [1083]), (1043, .aload 9, 1045, []), (1045, .iconst 2, 1046, []), (1046, .iload 8, 1048, []), (1048, .bipush 30, 1050, []), (1050, .iadd, 1051, []), (1051, .bipush 60, 1053, []), (1053, .irem, 1054, []), (1054, .iconst 1, 1055, []), (1055, .invokevirtual 59, 1058, [0, 109, 3, 3236])],
  [(1058, .iconst 2, 1059, []), (1059, .if_icmp .ne 24, 1062, [1083]), (1062, .aload 9, 1064, []), (1064, .iconst 1, 1065, []), (1065, .invokevirtual 219, 1068, [0, 131, 1, 4159]), (1068, .iconst 4, 1069, []), (1069, .if_icmp .ne 14, 1072, [1083])],
  [(1072, .aload 9, 1074, []), (1074, .iconst 1, 1075, []), (1075, .invokevirtual 221, 1078, [0, 132, 1, 4164]), (1078, .bipush (-3), 1080, []), (1080, .if_icmp .eq 5, 1083, [1085]), (1083, .iconst 0, 1084, []), (1084, .ireturn, 1085, []), (1085, .aload 9, 1087, []), (1087, .iconst 0, 1088, [])],
  [(1088, .iconst 2, 1089, []), (1089, .invokevirtual 63, 1092, [0, 110, 2, 4002]), (1092, .iconst 1, 1093, []), (1093, .if_icmp .ne 241, 1096, [1334]), (1096, .aload 9, 1098, []), (1098, .bipush 6, 1100, []), (1100, .iconst 0, 1101, []), (1101, .iconst 1, 1102, []), (1102, .iconst 0, 1103, []), (1103, .invokestatic 30, 1106, [9, 175, 5, 7030])],
  [(1106, .bipush (-99), 1108, []), (1108, .if_icmp .ne 226, 1111, [1334]), (1111, .aload 9, 1113, []), (1113, .iconst 0, 1114, []), (1114, .iconst 0, 1115, []), (1115, .invokevirtual 162, 1118, [0, 146, 2, 6130]), (1118, .bipush 8, 1120, [])],
  [(1120, .if_icmp .ne 214, 1123, [1334]), (1123, .aload 9, 1125, []), (1125, .iconst 0, 1126, []), (1126, .iconst 1, 1127, []), (1127, .invokevirtual 162, 1130, [0, 146, 2, 6130]), (1130, .iconst 2, 1131, []), (1131, .if_icmp .ne 203, 1134, [1334]), (1134, .aload 9, 1136, [])],
  [(1136, .iconst 2, 1137, []), (1137, .iconst 2, 1138, []), (1138, .invokevirtual 63, 1141, [0, 110, 2, 4002]), (1141, .iconst 2, 1142, []), (1142, .if_icmp .ne 192, 1145, [1334]), (1145, .aload 9, 1147, []), (1147, .aload 9, 1149, []), (1149, .invokevirtual 196, 1152, [0, 149, 0, 6172])],
  [(1152, .ldc 249, 1154, []), (1154, .invokestatic 238, 1157, [1, 177, 3, 7050]), (1157, .ifCond .eq 177, 1160, [1334]), (1160, .aload 9, 1162, []), (1162, .invokevirtual 251, 1165, [0, 125, 0, 4141]), (1165, .iconst 2, 1166, []), (1166, .if_icmp .ne 168, 1169, [1334])],
  [(1169, .aload 9, 1171, []), (1171, .iconst 1, 1172, []), (1172, .iconst 0, 1173, []), (1173, .invokevirtual 254, 1176, [0, 123, 2, 4090]), (1176, .iconst 1, 1177, []), (1177, .if_icmp .ne 157, 1180, [1334]), (1180, .aload 9, 1182, []), (1182, .iconst 2, 1183, []), (1183, .iconst 0, 1184, [])],
  [(1184, .invokevirtual 254, 1187, [0, 123, 2, 4090]), (1187, .ifCond .ne 147, 1190, [1334]), (1190, .aload 9, 1192, []), (1192, .iconst 2, 1193, []), (1193, .iconst 1, 1194, []), (1194, .invokevirtual 257, 1197, [0, 124, 2, 4125]), (1197, .iconst 2, 1198, []), (1198, .if_icmp .ne 136, 1201, [1334])],
  [(1201, .aload 9, 1203, []), (1203, .iconst 2, 1204, []), (1204, .iconst 2, 1205, []), (1205, .invokevirtual 254, 1208, [0, 123, 2, 4090]), (1208, .iconst 1, 1209, []), (1209, .if_icmp .ne 125, 1212, [1334]), (1212, .aload 9, 1214, []), (1214, .iconst 2, 1215, []), (1215, .invokevirtual 72, 1218, [0, 113, 1, 4013])],
  [(1218, .iconst 2, 1219, []), (1219, .if_icmp .ne 115, 1222, [1334]), (1222, .aload 9, 1224, []), (1224, .aload 9, 1226, []), (1226, .invokevirtual 196, 1229, [0, 149, 0, 6172]), (1229, .ldc_w 260, 1232, [])],
  [(1232, .invokestatic 238, 1235, [1, 177, 3, 7050]), (1235, .ifCond .eq 99, 1238, [1334]), (1238, .aload 9, 1240, []), (1240, .bipush 10, 1242, []), (1242, .invokevirtual 34, 1245, [0, 153, 1, 6177]), (1245, .iconst 2, 1246, []), (1246, .if_icmp .ne 88, 1249, [1334])],
  [(1249, .aload 9, 1251, []), (1251, .iconst 0, 1252, []), (1252, .iconst 1, 1253, []), (1253, .invokevirtual 77, 1256, [0, 115, 2, 4019]), (1256, .bipush 22, 1258, []), (1258, .if_icmp .ne 76, 1261, [1334]), (1261, .aload 9, 1263, []), (1263, .iconst 0, 1264, [])],
  [(1264, .iconst 0, 1265, []), (1265, .invokevirtual 77, 1268, [0, 115, 2, 4019]), (1268, .iload 8, 1270, []), (1270, .iconst 2, 1271, []), (1271, .iadd, 1272, []), (1272, .if_icmp .ne 62, 1275, [1334]), (1275, .aload 9, 1277, []), (1277, .invokevirtual 69, 1280, [0, 112, 0, 4008])]]
set_option maxRecDepth 20000 in
noncomputable def z_r338_5 : List (List z_Row) := [[(1280, .iconst 4, 1281, []), (1281, .if_icmp .ne 53, 1284, [1334]), (1284, .aload 9, 1286, []), (1286, .bipush 7, 1288, []), (1288, .invokevirtual 34, 1291, [0, 153, 1, 6177]), (1291, .iconst 1, 1292, []), (1292, .if_icmp .ne 42, 1295, [1334]), (1295, .aload 9, 1297, [])],
  [(1297, .aload 9, 1299, []), (1299, .invokevirtual 196, 1302, [0, 149, 0, 6172]), (1302, .ldc_w 262, 1305, []), (1305, .invokestatic 238, 1308, [1, 177, 3, 7050]), (1308, .ifCond .eq 26, 1311, [1334]), (1311, .aload 9, 1313, [])],
  [(1313, .iconst 0, 1314, []), (1314, .iconst 5, 1315, []), (1315, .invokevirtual 77, 1318, [0, 115, 2, 4019]), (1318, .iconst 1, 1319, []), (1319, .if_icmp .ne 15, 1322, [1334]), (1322, .aload 9, 1324, []), (1324, .iconst 0, 1325, []), (1325, .iconst 1, 1326, []), (1326, .invokevirtual 77, 1329, [0, 115, 2, 4019])],
  [(1329, .bipush 21, 1331, []), (1331, .if_icmp .eq 5, 1334, [1336]), (1334, .iconst 0, 1335, []), (1335, .ireturn, 1336, []), (1336, .aload 9, 1338, []), (1338, .invokevirtual 69, 1341, [0, 112, 0, 4008]), (1341, .bipush (-3), 1343, []), (1343, .if_icmp .ne 250, 1346, [1593])],
  [(1346, .aload 9, 1348, []), (1348, .bipush 8, 1350, []), (1350, .invokevirtual 34, 1353, [0, 153, 1, 6177]), (1353, .iconst 1, 1354, []), (1354, .if_icmp .ne 239, 1357, [1593]), (1357, .aload 9, 1359, []), (1359, .bipush 9, 1361, [])],
  [(1361, .invokevirtual 34, 1364, [0, 153, 1, 6177]), (1364, .bipush 9, 1366, []), (1366, .if_icmp .ne 227, 1369, [1593]), (1369, .aload 9, 1371, []), (1371, .iconst 2, 1372, []), (1372, .invokevirtual 34, 1375, [0, 153, 1, 6177]), (1375, .iconst 1, 1376, [])],
  [(1376, .if_icmp .ne 217, 1379, [1593]), (1379, .aload 9, 1381, []), (1381, .iconst 0, 1382, []), (1382, .iconst 0, 1383, []), (1383, .invokevirtual 80, 1386, [0, 116, 2, 4067]), (1386, .iconst 1, 1387, []), (1387, .if_icmp .ne 206, 1390, [1593]), (1390, .aload 9, 1392, [])],
  [(1392, .iconst 2, 1393, []), (1393, .iconst 1, 1394, []), (1394, .invokevirtual 53, 1397, [0, 107, 2, 3224]), (1397, .bipush 21, 1399, []), (1399, .if_icmp .ne 194, 1402, [1593]), (1402, .aload 9, 1404, []), (1404, .bipush 11, 1406, []), (1406, .invokevirtual 34, 1409, [0, 153, 1, 6177])],
  [(1409, .iconst 1, 1410, []), (1410, .if_icmp .ne 183, 1413, [1593]), (1413, .aload 9, 1415, []), (1415, .invokevirtual 264, 1418, [0, 155, 0, 6191]), (1418, .ldc_w 268, 1421, []), (1421, .fcmp .l, 1422, []), (1422, .ifCond .ne 171, 1425, [1593])],
  [(1425, .aload 9, 1427, []), (1427, .iconst 2, 1428, []), (1428, .invokevirtual 269, 1431, [0, 126, 1, 4150]), (1431, .bipush 19, 1433, []), (1433, .if_icmp .ne 160, 1436, [1593]), (1436, .aload 9, 1438, []), (1438, .iconst 2, 1439, []), (1439, .bipush 48, 1441, [])],
  [(1441, .invokevirtual 272, 1444, [0, 127, 2, 4155]), (1444, .iload 8, 1446, []), (1446, .bipush 32, 1448, []), (1448, .iadd, 1449, []), (1449, .bipush 18, 1451, []), (1451, .iadd, 1452, []), (1452, .bipush 60, 1454, []), (1454, .irem, 1455, []), (1455, .if_icmp .ne 138, 1458, [1593])],
  [(1458, .aload 9, 1460, []), (1460, .iconst 0, 1461, []), (1461, .invokevirtual 47, 1464, [0, 105, 1, 2089]), (1464, .iconst 2, 1465, []), (1465, .if_icmp .ne 128, 1468, [1593]), (1468, .aload 9, 1470, []), (1470, .iconst 2, 1471, []), (1471, .invokevirtual 83, 1474, [0, 117, 1, 4079])],
  [(1474, .iconst (-1), 1475, []), (1475, .if_icmp .ne 118, 1478, [1593]), (1478, .aload 9, 1480, []), (1480, .iconst 0, 1481, []), (1481, .iconst 0, 1482, []), (1482, .invokevirtual 80, 1485, [0, 116, 2, 4067]), (1485, .ifCond .ne 108, 1488, [1593])],
  [(1488, .aload 9, 1490, []), (1490, .iconst 0, 1491, []), (1491, .invokevirtual 47, 1494, [0, 105, 1, 2089]), (1494, .iconst 1, 1495, []), (1495, .if_icmp .ne 98, 1498, [1593]), (1498, .aload 9, 1500, []), (1500, .iconst 0, 1501, []), (1501, .iconst 0, 1502, []), (1502, .invokevirtual 80, 1505, [0, 116, 2, 4067])],
  [(1505, .iconst (-1), 1506, []), (1506, .if_icmp .ne 87, 1509, [1593]), (1509, .aload 9, 1511, []), (1511, .bipush 19, 1513, []), (1513, .invokevirtual 72, 1516, [0, 113, 1, 4013]), (1516, .ifCond .ne 77, 1519, [1593]), (1519, .aload 9, 1521, [])],
  [(1521, .iconst 1, 1522, []), (1522, .invokevirtual 34, 1525, [0, 153, 1, 6177]), (1525, .iconst 1, 1526, []), (1526, .if_icmp .ne 67, 1529, [1593]), (1529, .aload 9, 1531, []), (1531, .iconst 4, 1532, []), (1532, .iconst 0, 1533, []), (1533, .iconst 1, 1534, []), (1534, .iconst 0, 1535, []), (1535, .invokestatic 30, 1538, [9, 175, 5, 7030])]]
set_option maxRecDepth 20000 in
noncomputable def z_r338_6 : List (List z_Row) := [[(1538, .bipush (-99), 1540, []), (1540, .if_icmp .ne 53, 1543, [1593]), (1543, .aload 9, 1545, []), (1545, .iconst 0, 1546, []), (1546, .iconst 0, 1547, []), (1547, .invokevirtual 162, 1550, [0, 146, 2, 6130]), (1550, .bipush 7, 1552, [])],
  [(1552, .if_icmp .ne 41, 1555, [1593]), (1555, .aload 9, 1557, []), (1557, .invokevirtual 69, 1560, [0, 112, 0, 4008]), (1560, .ifCond .ne 33, 1563, [1593]), (1563, .aload 9, 1565, []), (1565, .iconst 0, 1566, []), (1566, .iconst 3, 1567, []), (1567, .invokevirtual 80, 1570, [0, 116, 2, 4067])],
  [(1570, .iconst 1, 1571, []), (1571, .if_icmp .ne 22, 1574, [1593]), (1574, .aload 9, 1576, []), (1576, .bipush 6, 1578, []), (1578, .invokevirtual 34, 1581, [0, 153, 1, 6177]), (1581, .iconst 2, 1582, []), (1582, .if_icmp .ne 11, 1585, [1593])],
  [(1585, .aload 9, 1587, []), (1587, .invokevirtual 275, 1590, [0, 136, 0, 4199]), (1590, .ifCond .eq 5, 1593, [1595]), (1593, .iconst 0, 1594, []), (1594, .ireturn, 1595, []), (1595, .aload_n 1, 1596, []), (1596, .invokevirtual 278, 1599, [0, 158, 0, 6239]), (1599, .iload_n 3, 1600, [])],
  [(1600, .if_icmp .ne 25, 1603, [1625]), (1603, .aload_n 1, 1604, []), (1604, .bipush 13, 1606, []), (1606, .invokevirtual 34, 1609, [0, 153, 1, 6177]), (1609, .ifCond .ne 16, 1612, [1625]), (1612, .aload_n 1, 1613, []), (1613, .invokestatic 122, 1616, [1, 176, 1, 7047])],
  [(1616, .iload 4, 1618, []), (1618, .if_icmp .ne 7, 1621, [1625]), (1621, .iconst 1, 1622, []), (1622, .goto 4, 1625, [1626]), (1625, .iconst 0, 1626, []), (1626, .ireturn, 1627, [])]]
noncomputable def z_r338 : List (List (List z_Row)) := [z_r338_0, z_r338_1, z_r338_2, z_r338_3, z_r338_4, z_r338_5, z_r338_6]
noncomputable def z_tab : List (List (List (List (List z_Row)))) := [[z_r0, z_r1, z_r2, z_r3, z_r4, z_r5, z_r6, z_r7, z_r8, z_r9, z_r10, z_r11, z_r12, z_r13, z_r14, z_r15, z_r16, z_r17, z_r18, z_r19], [z_r20, z_r21, z_r22, z_r23, z_r24, z_r25, z_r26, z_r27, z_r28, z_r29, z_r30, z_r31, z_r32, z_r33, z_r34, z_r35, z_r36, z_r37, z_r38, z_r39], [z_r40, z_r41, z_r42, z_r43, z_r44, z_r45, z_r46, z_r47, z_r48, z_r49, z_r50, z_r51, z_r52, z_r53, z_r54, z_r55, z_r56, z_r57, z_r58, z_r59], [z_r60, z_r61, z_r62, z_r63, z_r64, z_r65, z_r66, z_r67, z_r68, z_r69, z_r70, z_r71, z_r72, z_r73, z_r74, z_r75, z_r76, z_r77, z_r78, z_r79], [z_r80, z_r81, z_r82, z_r83, z_r84, z_r85, z_r86, z_r87, z_r88, z_r89, z_r90, z_r91, z_r92, z_r93, z_r94, z_r95, z_r96, z_r97, z_r98, z_r99], [z_r100, z_r101, z_r102, z_r103, z_r104, z_r105, z_r106, z_r107, z_r108, z_r109, z_r110, z_r111, z_r112, z_r113, z_r114, z_r115, z_r116, z_r117, z_r118, z_r119], [z_r120, z_r121, z_r122, z_r123, z_r124, z_r125, z_r126, z_r127, z_r128, z_r129, z_r130, z_r131, z_r132, z_r133, z_r134, z_r135, z_r136, z_r137, z_r138, z_r139], [z_r140, z_r141, z_r142, z_r143, z_r144, z_r145, z_r146, z_r147, z_r148, z_r149, z_r150, z_r151, z_r152, z_r153, z_r154, z_r155, z_r156, z_r157, z_r158, z_r159], [z_r160, z_r161, z_r162, z_r163, z_r164, z_r165, z_r166, z_r167, z_r168, z_r169, z_r170, z_r171, z_r172, z_r173, z_r174, z_r175, z_r176, z_r177, z_r178, z_r179], [z_r180, z_r181, z_r182, z_r183, z_r184, z_r185, z_r186, z_r187, z_r188, z_r189, z_r190, z_r191, z_r192, z_r193, z_r194, z_r195, z_r196, z_r197, z_r198, z_r199], [z_r200, z_r201, z_r202, z_r203, z_r204, z_r205, z_r206, z_r207, z_r208, z_r209, z_r210, z_r211, z_r212, z_r213, z_r214, z_r215, z_r216, z_r217, z_r218, z_r219], [z_r220, z_r221, z_r222, z_r223, z_r224, z_r225, z_r226, z_r227, z_r228, z_r229, z_r230, z_r231, z_r232, z_r233, z_r234, z_r235, z_r236, z_r237, z_r238, z_r239], [z_r240, z_r241, z_r242, z_r243, z_r244, z_r245, z_r246, z_r247, z_r248, z_r249, z_r250, z_r251, z_r252, z_r253, z_r254, z_r255, z_r256, z_r257, z_r258, z_r259], [z_r260, z_r261, z_r262, z_r263, z_r264, z_r265, z_r266, z_r267, z_r268, z_r269, z_r270, z_r271, z_r272, z_r273, z_r274, z_r275, z_r276, z_r277, z_r278, z_r279], [z_r280, z_r281, z_r282, z_r283, z_r284, z_r285, z_r286, z_r287, z_r288, z_r289, z_r290, z_r291, z_r292, z_r293, z_r294, z_r295, z_r296, z_r297, z_r298, z_r299], [z_r300, z_r301, z_r302, z_r303, z_r304, z_r305, z_r306, z_r307, z_r308, z_r309, z_r310, z_r311, z_r312, z_r313, z_r314, z_r315, z_r316, z_r317, z_r318, z_r319], [z_r320, z_r321, z_r322, z_r323, z_r324, z_r325, z_r326, z_r327, z_r328, z_r329, z_r330, z_r331, z_r332, z_r333, z_r334, z_r335, z_r336, z_r337, z_r338]]
abbrev z_Mt : Type := MethodName × ByteArray × Nat × Option FieldType × List (Nat × Nat × Nat × Nat) × List Nat
noncomputable def z_ms0 : List z_Mt := [(⟨"ClockParliament$Numbers", "<init>", "(I)V"⟩, prog_8_method_1_code, 2, none, [], [1059, 1004, 1058, 0, 99999]),
  (⟨"ClockParliament$Numbers", "count", "()I"⟩, prog_8_method_2_code, 1, (some .int), [], [2138, 1004, 2136, 0, 2137]),
  (⟨"ClockParliament$Numbers", "has", "(I)Z"⟩, prog_8_method_3_code, 2, (some .boolean), [], [2147, 1004, 2145, 0, 2146]),
  (⟨"ClockParliament$Numbers", "at", "(I)I"⟩, prog_8_method_4_code, 2, (some .int), [], [2160, 1004, 2158, 0, 2159]),
  (⟨"ClockParliament$Numbers", "put", "(II)V"⟩, prog_8_method_5_code, 3, none, [], [3128, 1004, 3126, 0, 3127]),
  (⟨"ClockParliament$Numbers", "addTo", "(II)V"⟩, prog_8_method_6_code, 3, none, [], [3141, 1004, 3139, 0, 3140]),
  (⟨"ClockParliament$Numbers", "insert", "(II)V"⟩, prog_8_method_7_code, 4, none, [], [1079, 1004, 1077, 0, 1078]),
  (⟨"ClockParliament$Numbers", "add", "(I)V"⟩, prog_8_method_8_code, 2, none, [], [1075, 1004, 1073, 0, 1074]),
  (⟨"ClockParliament$Numbers", "removeAt", "(I)V"⟩, prog_8_method_9_code, 3, none, [], [3115, 1004, 3113, 0, 3114]),
  (⟨"ClockParliament$Numbers", "forget", "(I)V"⟩, prog_8_method_10_code, 3, none, [], [3119, 1004, 3117, 0, 3118]),
  (⟨"ClockParliament$Numbers", "placeOf", "(I)I"⟩, prog_8_method_11_code, 3, (some .int), [], [3162, 1004, 3160, 0, 3161]),
  (⟨"ClockParliament$Numbers", "countOf", "(I)I"⟩, prog_8_method_12_code, 4, (some .int), [], [2228, 1004, 2226, 0, 2227]),
  (⟨"ClockParliament$Numbers", "sum", "()I"⟩, prog_8_method_13_code, 3, (some .int), [], [6185, 1004, 6183, 0, 6184]),
  (⟨"ClockParliament$Numbers", "copyFrom", "(LClockParliament$Numbers;)V"⟩, prog_8_method_14_code, 3, none, [], [3089, 1004, 3087, 0, 3088]),
  (⟨"ClockParliament$Refusal", "<init>", "()V"⟩, prog_11_method_1_code, 1, none, [], [2041, 1016, 2040, 0, 99999]),
  (⟨"ClockParliament$Refusal", "isNone", "()Z"⟩, prog_11_method_2_code, 1, (some .boolean), [], [6138, 1016, 6136, 0, 6137]),
  (⟨"ClockParliament$Refusal", "fill", "(II)V"⟩, prog_11_method_3_code, 3, none, [], [2130, 1016, 2128, 0, 2129]),
  (⟨"ClockParliament$Refusal", "clear", "()V"⟩, prog_11_method_4_code, 1, none, [], [2236, 1016, 2234, 0, 2235]),
  (⟨"ClockParliament$Refusal", "copyFrom", "(LClockParliament$Refusal;)V"⟩, prog_11_method_5_code, 2, none, [], [2232, 1016, 2230, 0, 2231]),
  (⟨"ClockParliament$Refusal", "applies", "(ZII)Z"⟩, prog_11_method_6_code, 4, (some .boolean), [], [2126, 1016, 2124, 0, 2125])]
noncomputable def z_ms1 : List z_Mt := [(⟨"ClockParliament$Refusal", "isUnknown", "(ZI)Z"⟩, prog_11_method_7_code, 3, (some .boolean), [], [2151, 1016, 2149, 0, 2150]),
  (⟨"ClockParliament$Refusal", "isOutside", "(III)Z"⟩, prog_11_method_8_code, 4, (some .boolean), [], [2122, 1016, 2120, 0, 2121]),
  (⟨"ClockParliament$Order", "<init>", "()V"⟩, prog_9_method_1_code, 1, none, [], [1239, 1013, 1238, 0, 99999]),
  (⟨"ClockParliament$Order", "fill", "(LClockParliament$Kind;III)V"⟩, prog_9_method_2_code, 5, none, [], [2102, 1013, 2100, 0, 2101]),
  (⟨"ClockParliament$Order", "take", "(I)V"⟩, prog_9_method_3_code, 2, none, [], [5139, 1013, 5137, 0, 5138]),
  (⟨"ClockParliament$Kind", "startingWith", "(C)LClockParliament$Kind;"⟩, prog_7_method_4_code, 2, (some (.object "ClockParliament$Kind")), [], [5048, 1015, 5047, 1, 99999]),
  (⟨"ClockParliament$Clocks", "<init>", "()V"⟩, prog_4_method_1_code, 2, none, [], [1053, 1003, 1052, 0, 99999]),
  (⟨"ClockParliament$Clocks", "count", "()I"⟩, prog_4_method_2_code, 1, (some .int), [], [2134, 1003, 2132, 0, 2133]),
  (⟨"ClockParliament$Clocks", "has", "(I)Z"⟩, prog_4_method_3_code, 2, (some .boolean), [], [2143, 1003, 2141, 0, 2142]),
  (⟨"ClockParliament$Clocks", "isSilent", "(I)Z"⟩, prog_4_method_4_code, 2, (some .boolean), [], [2192, 1003, 2190, 0, 2191]),
  (⟨"ClockParliament$Clocks", "difference", "(II)I"⟩, prog_4_method_5_code, 3, (some .int), [], [2173, 1003, 2171, 0, 2172]),
  (⟨"ClockParliament$Clocks", "areAgreed", "(II)Z"⟩, prog_4_method_6_code, 3, (some .boolean), [], [2169, 1003, 2167, 0, 2168]),
  (⟨"ClockParliament$Clocks", "wouldVote", "(II)Z"⟩, prog_4_method_7_code, 3, (some .boolean), [], [3181, 1003, 3179, 0, 3180]),
  (⟨"ClockParliament$Clocks", "come", "(II)I"⟩, prog_4_method_8_code, 3, (some .int), [], [3102, 1003, 3100, 0, 3101]),
  (⟨"ClockParliament$Clocks", "remove", "(I)V"⟩, prog_4_method_9_code, 2, none, [], [3111, 1003, 3109, 0, 3110]),
  (⟨"ClockParliament$Clocks", "giveKey", "(II)I"⟩, prog_4_method_10_code, 4, (some .int), [], [3124, 1003, 3122, 0, 3123]),
  (⟨"ClockParliament$Clocks", "windUp", "(I)I"⟩, prog_4_method_11_code, 3, (some .int), [], [3132, 1003, 3130, 0, 3131]),
  (⟨"ClockParliament$Clocks", "moveOn", "(II)I"⟩, prog_4_method_12_code, 3, (some .int), [], [3136, 1003, 3134, 0, 3135]),
  (⟨"ClockParliament$Clocks", "giveVote", "(I)V"⟩, prog_4_method_13_code, 2, none, [], [3202, 1003, 3200, 0, 3201]),
  (⟨"ClockParliament$Clocks", "passHour", "()V"⟩, prog_4_method_14_code, 2, none, [], [3216, 1003, 3214, 0, 3215])]
noncomputable def z_ms2 : List z_Mt := [(⟨"ClockParliament$Clocks", "goOn", "(II)V"⟩, prog_4_method_15_code, 3, none, [], [3147, 1003, 3146, 0, 10]),
  (⟨"ClockParliament$Clocks", "agreeingWith", "(I)I"⟩, prog_4_method_16_code, 4, (some .int), [], [4049, 1003, 4047, 0, 4048]),
  (⟨"ClockParliament$Clocks", "reachedFrom", "(I)I"⟩, prog_4_method_17_code, 5, (some .int), [], [4216, 1003, 4214, 0, 4215]),
  (⟨"ClockParliament$Clocks", "weakestOfAll", "()I"⟩, prog_4_method_18_code, 3, (some .int), [], [4208, 1003, 4206, 0, 4207]),
  (⟨"ClockParliament$Numbers", "count", "()I"⟩, prog_8_method_2_code, 1, (some .int), [], [2138, 1004, 2136, 0, 2137]),
  (⟨"ClockParliament$Numbers", "count", "()I"⟩, prog_8_method_2_code, 1, (some .int), [], [2138, 1004, 2136, 0, 2137]),
  (⟨"ClockParliament$Numbers", "count", "()I"⟩, prog_8_method_2_code, 1, (some .int), [], [2138, 1004, 2136, 0, 2137]),
  (⟨"ClockParliament$Clocks", "copyFrom", "(LClockParliament$Clocks;)V"⟩, prog_4_method_22_code, 2, none, [], [3085, 1003, 3083, 0, 3084]),
  (⟨"ClockParliament$Clocks", "springFor", "(I)I"⟩, prog_4_method_23_code, 1, (some .int), [], [2195, 1003, 2194, 1, 99999]),
  (⟨"ClockParliament$Clocks", "secondsBetween", "(II)I"⟩, prog_4_method_24_code, 3, (some .int), [], [2177, 1003, 2176, 1, 99999]),
  (⟨"ClockParliament$Bills", "<init>", "()V"⟩, prog_3_method_1_code, 1, none, [], [1109, 1006, 1108, 0, 99999]),
  (⟨"ClockParliament$Bills", "count", "()I"⟩, prog_3_method_2_code, 1, (some .int), [], [2203, 1006, 2201, 0, 2202]),
  (⟨"ClockParliament$Bills", "has", "(I)Z"⟩, prog_3_method_3_code, 2, (some .boolean), [], [2212, 1006, 2210, 0, 2211]),
  (⟨"ClockParliament$Bills", "isAdjourned", "(I)Z"⟩, prog_3_method_4_code, 2, (some .boolean), [], [2217, 1006, 2215, 0, 2216]),
  (⟨"ClockParliament$Bills", "adjournedCount", "()I"⟩, prog_3_method_5_code, 1, (some .int), [], [2223, 1006, 2221, 0, 2222]),
  (⟨"ClockParliament$Bills", "table", "(III)I"⟩, prog_3_method_6_code, 5, (some .int), [], [3151, 1006, 3149, 0, 3150]),
  (⟨"ClockParliament$Bills", "putOff", "(II)I"⟩, prog_3_method_7_code, 3, (some .int), [], [3156, 1006, 3154, 0, 3155]),
  (⟨"ClockParliament$Bills", "remove", "(I)I"⟩, prog_3_method_8_code, 2, (some .int), [], [3168, 1006, 3166, 0, 3167]),
  (⟨"ClockParliament$Bills", "passHour", "()I"⟩, prog_3_method_9_code, 3, (some .int), [], [3210, 1006, 3208, 0, 3209]),
  (⟨"ClockParliament$Bills", "hoursToNext", "()I"⟩, prog_3_method_10_code, 3, (some .int), [], [4148, 1006, 4146, 0, 4147])]
noncomputable def z_ms3 : List z_Mt := [(⟨"ClockParliament$Bills", "billAfter", "(II)I"⟩, prog_3_method_11_code, 4, (some .int), [], [4132, 1006, 4130, 0, 4131]),
  (⟨"ClockParliament$Bills", "placeAfter", "(II)I"⟩, prog_3_method_12_code, 5, (some .int), [], [4136, 1006, 4135, 0, 19]),
  (⟨"ClockParliament$Bills", "isAheadAsBack", "(II)Z"⟩, prog_3_method_13_code, 4, (some .boolean), [], [4140, 1006, 4139, 0, 20]),
  (⟨"ClockParliament$Bills", "copyFrom", "(LClockParliament$Bills;)V"⟩, prog_3_method_14_code, 2, none, [], [3093, 1006, 3091, 0, 3092]),
  (⟨"ClockParliament$House", "<init>", "()V"⟩, prog_6_method_1_code, 1, none, [], [1047, 1002, 1046, 0, 99999]),
  (⟨"ClockParliament$House", "copyFrom", "(LClockParliament$House;)V"⟩, prog_6_method_2_code, 2, none, [], [3081, 1002, 3079, 0, 3080]),
  (⟨"ClockParliament$House", "refuses", "(LClockParliament$Order;LClockParliament$Refusal;)Z"⟩, prog_6_method_3_code, 3, (some .boolean), [], [2106, 1002, 2104, 0, 2105]),
  (⟨"ClockParliament$House", "refusesClock", "(IILClockParliament$Refusal;)Z"⟩, prog_6_method_4_code, 4, (some .boolean), [], [2118, 1002, 2117, 0, 1]),
  (⟨"ClockParliament$House", "refusesKey", "(IILClockParliament$Refusal;)Z"⟩, prog_6_method_5_code, 4, (some .boolean), [], [2155, 1002, 2154, 0, 2]),
  (⟨"ClockParliament$House", "refusesWinding", "(IILClockParliament$Refusal;)Z"⟩, prog_6_method_6_code, 5, (some .boolean), [], [2165, 1002, 2164, 0, 3]),
  (⟨"ClockParliament$House", "refusesMove", "(IILClockParliament$Refusal;)Z"⟩, prog_6_method_7_code, 5, (some .boolean), [], [2188, 1002, 2187, 0, 4]),
  (⟨"ClockParliament$House", "refusesBill", "(IIILClockParliament$Refusal;)Z"⟩, prog_6_method_8_code, 5, (some .boolean), [], [2199, 1002, 2198, 0, 5]),
  (⟨"ClockParliament$House", "refusesAdjourning", "(IILClockParliament$Refusal;)Z"⟩, prog_6_method_9_code, 4, (some .boolean), [], [2208, 1002, 2207, 0, 6]),
  (⟨"ClockParliament$House", "carryOut", "(LClockParliament$Order;)I"⟩, prog_6_method_10_code, 2, (some .int), [], [3098, 1002, 3096, 0, 3097]),
  (⟨"ClockParliament$House", "sendAway", "(I)I"⟩, prog_6_method_11_code, 2, (some .int), [], [3107, 1002, 3106, 0, 9]),
  (⟨"ClockParliament$House", "holdVote", "()I"⟩, prog_6_method_12_code, 5, (some .int), [], [3173, 1002, 3172, 0, 11]),
  (⟨"ClockParliament$House", "passHours", "(I)I"⟩, prog_6_method_13_code, 4, (some .int), [], [3206, 1002, 3204, 0, 3205]),
  (⟨"ClockParliament$House", "votersOn", "(I)I"⟩, prog_6_method_14_code, 4, (some .int), [], [3177, 1002, 3175, 0, 3176]),
  (⟨"ClockParliament$House", "majorityOn", "(I)I"⟩, prog_6_method_15_code, 2, (some .int), [], [4171, 1002, 4169, 0, 4170]),
  (⟨"ClockParliament$House", "majorityOf", "(I)I"⟩, prog_6_method_16_code, 5, (some .int), [], [3185, 1002, 3184, 0, 12])]
noncomputable def z_ms4 : List z_Mt := [(⟨"ClockParliament$House", "majorityByLeanings", "(I)I"⟩, prog_6_method_17_code, 4, (some .int), [], [4179, 1002, 4177, 0, 4178]),
  (⟨"ClockParliament$House", "votersLeaning", "(II)I"⟩, prog_6_method_18_code, 6, (some .int), [], [4183, 1002, 4182, 0, 21]),
  (⟨"ClockParliament$House", "isWon", "(I)Z"⟩, prog_6_method_19_code, 2, (some .boolean), [], [4191, 1002, 4189, 0, 4190]),
  (⟨"ClockParliament$House", "isEnough", "(II)Z"⟩, prog_6_method_20_code, 3, (some .boolean), [], [3192, 1002, 3191, 0, 13]),
  (⟨"ClockParliament$History", "<init>", "()V"⟩, prog_5_method_1_code, 2, none, [], [1180, 1007, 1179, 0, 99999]),
  (⟨"ClockParliament$History", "keep", "(LClockParliament$House;)V"⟩, prog_5_method_2_code, 2, none, [], [3070, 1007, 3068, 0, 3069]),
  (⟨"ClockParliament$History", "giveBack", "(LClockParliament$House;)I"⟩, prog_5_method_3_code, 2, (some .int), [], [6234, 1007, 6232, 0, 6233]),
  (⟨"ClockParliament$History", "clear", "()V"⟩, prog_5_method_4_code, 1, none, [], [7007, 1007, 7005, 0, 7006]),
  (⟨"ClockParliament$History", "placeOfLatest", "()I"⟩, prog_5_method_5_code, 1, (some .int), [], [3074, 1007, 3073, 0, 8]),
  (⟨"ClockParliament$OrderText", "<init>", "()V"⟩, prog_10_method_1_code, 1, none, [], [1200, 1008, 1199, 0, 99999]),
  (⟨"ClockParliament$OrderText", "length", "()I"⟩, prog_10_method_2_code, 1, (some .int), [], [6189, 1008, 6187, 0, 6188]),
  (⟨"ClockParliament$OrderText", "add", "(C)I"⟩, prog_10_method_3_code, 2, (some .int), [], [7025, 1008, 7023, 0, 7024]),
  (⟨"ClockParliament$OrderText", "clear", "()V"⟩, prog_10_method_4_code, 1, none, [], [5167, 1008, 5165, 0, 5166]),
  (⟨"ClockParliament$OrderText", "fault", "()I"⟩, prog_10_method_5_code, 2, (some .int), [], [5002, 1008, 5000, 0, 5001]),
  (⟨"ClockParliament$OrderText", "readNext", "(LClockParliament$Order;)Z"⟩, prog_10_method_6_code, 2, (some .boolean), [], [6123, 1008, 6121, 0, 6122]),
  (⟨"ClockParliament$OrderText", "readOrder", "(LClockParliament$Order;)Z"⟩, prog_10_method_7_code, 6, (some .boolean), [], [5006, 1008, 5005, 0, 25]),
  (⟨"ClockParliament$OrderText", "readPart", "(CLClockParliament$Order;)Z"⟩, prog_10_method_8_code, 3, (some .boolean), [], [5143, 1008, 5142, 0, 27]),
  (⟨"ClockParliament$OrderText", "readDigit", "(LClockParliament$Order;)Z"⟩, prog_10_method_9_code, 3, (some .boolean), [], [5147, 1008, 5146, 0, 28]),
  (⟨"ClockParliament$OrderText", "readNumber", "(LClockParliament$Order;)Z"⟩, prog_10_method_10_code, 4, (some .boolean), [], [5155, 1008, 5154, 0, 30]),
  (⟨"ClockParliament$OrderText", "readNobody", "(LClockParliament$Order;)Z"⟩, prog_10_method_11_code, 2, (some .boolean), [], [5159, 1008, 5158, 0, 31])]
noncomputable def z_ms5 : List z_Mt := [(⟨"ClockParliament$OrderText", "skip", "(C)Z"⟩, prog_10_method_12_code, 2, (some .boolean), [], [5163, 1008, 5162, 0, 32]),
  (⟨"ClockParliament$OrderText", "digitHere", "()I"⟩, prog_10_method_13_code, 2, (some .int), [], [5151, 1008, 5150, 0, 29]),
  (⟨"ClockParliament$OrderText", "here", "()C"⟩, prog_10_method_14_code, 1, (some .char), [], [5010, 1008, 5009, 0, 26]),
  (⟨"ClockParliament", "<init>", "()V"⟩, prog_1_method_1_code, 1, none, [], [1039, 1001, 1038, 0, 99999]),
  (⟨"ClockParliament", "clock", "(II)I"⟩, prog_1_method_2_code, 3, (some .int), [], [7037, 1001, 7035, 0, 7036]),
  (⟨"ClockParliament", "leave", "(I)I"⟩, prog_1_method_3_code, 2, (some .int), [], [2092, 1001, 2090, 0, 2091]),
  (⟨"ClockParliament", "key", "(II)I"⟩, prog_1_method_4_code, 3, (some .int), [], [3221, 1001, 3219, 0, 3220]),
  (⟨"ClockParliament", "wind", "(II)I"⟩, prog_1_method_5_code, 3, (some .int), [], [3227, 1001, 3225, 0, 3226]),
  (⟨"ClockParliament", "move", "(II)I"⟩, prog_1_method_6_code, 3, (some .int), [], [3233, 1001, 3231, 0, 3232]),
  (⟨"ClockParliament", "bill", "(III)I"⟩, prog_1_method_7_code, 4, (some .int), [], [3239, 1001, 3237, 0, 3238]),
  (⟨"ClockParliament", "adjourn", "(II)I"⟩, prog_1_method_8_code, 3, (some .int), [], [4005, 1001, 4003, 0, 4004]),
  (⟨"ClockParliament", "drop", "(I)I"⟩, prog_1_method_9_code, 2, (some .int), [], [7043, 1001, 7041, 0, 7042]),
  (⟨"ClockParliament", "vote", "()I"⟩, prog_1_method_10_code, 1, (some .int), [], [4011, 1001, 4009, 0, 4010]),
  (⟨"ClockParliament", "hour", "(I)I"⟩, prog_1_method_11_code, 2, (some .int), [], [4016, 1001, 4014, 0, 4015]),
  (⟨"ClockParliament", "change", "(LClockParliament$Kind;III)I"⟩, prog_1_method_12_code, 5, (some .int), [], [2098, 1001, 2097, 0, 0]),
  (⟨"ClockParliament", "clockOf", "(II)I"⟩, prog_1_method_13_code, 3, (some .int), [], [4022, 1001, 4020, 0, 4021]),
  (⟨"ClockParliament", "billOf", "(II)I"⟩, prog_1_method_14_code, 3, (some .int), [], [4070, 1001, 4068, 0, 4069]),
  (⟨"ClockParliament", "keeper", "(I)I"⟩, prog_1_method_15_code, 2, (some .int), [], [4082, 1001, 4080, 0, 4081]),
  (⟨"ClockParliament$Numbers", "count", "()I"⟩, prog_8_method_2_code, 1, (some .int), [], [2138, 1004, 2136, 0, 2137]),
  (⟨"ClockParliament", "apart", "(II)I"⟩, prog_1_method_17_code, 3, (some .int), [], [4088, 1001, 4086, 0, 4087])]
noncomputable def z_ms6 : List z_Mt := [(⟨"ClockParliament", "checkClock", "(I)V"⟩, prog_1_method_18_code, 2, none, [], [4026, 1001, 4025, 0, 14]),
  (⟨"ClockParliament", "checkBill", "(I)V"⟩, prog_1_method_19_code, 2, none, [], [4074, 1001, 4073, 0, 15]),
  (⟨"ClockParliament$Numbers", "count", "()I"⟩, prog_8_method_2_code, 1, (some .int), [], [2138, 1004, 2136, 0, 2137]),
  (⟨"ClockParliament", "rowIn", "(II)I"⟩, prog_1_method_21_code, 3, (some .int), [], [4093, 1001, 4091, 0, 4092]),
  (⟨"ClockParliament", "rowAgain", "(II)I"⟩, prog_1_method_22_code, 4, (some .int), [], [4128, 1001, 4126, 0, 4127]),
  (⟨"ClockParliament", "next", "()I"⟩, prog_1_method_23_code, 2, (some .int), [], [4144, 1001, 4142, 0, 4143]),
  (⟨"ClockParliament", "silentIn", "(I)I"⟩, prog_1_method_24_code, 3, (some .int), [], [4153, 1001, 4151, 0, 4152]),
  (⟨"ClockParliament", "secondIn", "(II)I"⟩, prog_1_method_25_code, 3, (some .int), [], [4158, 1001, 4156, 0, 4157]),
  (⟨"ClockParliament", "checkRange", "(II)V"⟩, prog_1_method_26_code, 3, none, [], [4097, 1001, 4096, 0, 16]),
  (⟨"ClockParliament", "billAt", "(LClockParliament$Numbers;I)I"⟩, prog_1_method_27_code, 3, (some .int), [], [4108, 1001, 4107, 0, 18]),
  (⟨"ClockParliament", "foresee", "(I)V"⟩, prog_1_method_28_code, 2, none, [], [4102, 1001, 4101, 0, 17]),
  (⟨"ClockParliament", "voters", "(I)I"⟩, prog_1_method_29_code, 2, (some .int), [], [4162, 1001, 4160, 0, 4161]),
  (⟨"ClockParliament", "majority", "(I)I"⟩, prog_1_method_30_code, 2, (some .int), [], [4167, 1001, 4165, 0, 4166]),
  (⟨"ClockParliament", "majorityAgain", "(I)I"⟩, prog_1_method_31_code, 2, (some .int), [], [4175, 1001, 4173, 0, 4174]),
  (⟨"ClockParliament", "wouldCarry", "(I)Z"⟩, prog_1_method_32_code, 2, (some .boolean), [], [4187, 1001, 4185, 0, 4186]),
  (⟨"ClockParliament", "carried", "()I"⟩, prog_1_method_33_code, 3, (some .int), [], [4196, 1001, 4194, 0, 4195]),
  (⟨"ClockParliament", "weakest", "()I"⟩, prog_1_method_34_code, 1, (some .int), [], [4202, 1001, 4200, 0, 4201]),
  (⟨"ClockParliament", "circle", "(I)I"⟩, prog_1_method_35_code, 2, (some .int), [], [4212, 1001, 4210, 0, 4211]),
  (⟨"ClockParliament$Numbers", "count", "()I"⟩, prog_8_method_2_code, 1, (some .int), [], [2138, 1004, 2136, 0, 2137]),
  (⟨"ClockParliament", "isTold", "()Z"⟩, prog_1_method_37_code, 1, (some .boolean), [], [4222, 1001, 4220, 0, 4221])]
noncomputable def z_ms7 : List z_Mt := [(⟨"ClockParliament", "areMajoritiesTold", "()Z"⟩, prog_1_method_38_code, 2, (some .boolean), [], [4226, 1001, 4225, 0, 22]),
  (⟨"ClockParliament", "areRowsTold", "()Z"⟩, prog_1_method_39_code, 5, (some .boolean), [], [4230, 1001, 4229, 0, 23]),
  (⟨"ClockParliament", "areBillsTold", "()Z"⟩, prog_1_method_40_code, 3, (some .boolean), [], [4234, 1001, 4233, 0, 24]),
  (⟨"ClockParliament", "append", "(C)I"⟩, prog_1_method_41_code, 2, (some .int), [], [7019, 1001, 7017, 0, 7018]),
  (⟨"ClockParliament", "run", "()I"⟩, prog_1_method_42_code, 2, (some .int), [], [4238, 1001, 4236, 0, 4237]),
  (⟨"ClockParliament", "faultPosition", "()I"⟩, prog_1_method_43_code, 1, (some .int), [], [6129, 1001, 6127, 0, 6128]),
  (⟨"ClockParliament", "reason", "(IZ)I"⟩, prog_1_method_44_code, 4, (some .int), [], [6133, 1001, 6131, 0, 6132]),
  (⟨"ClockParliament", "tell", "(I)I"⟩, prog_1_method_45_code, 4, (some .int), [], [6143, 1001, 6141, 0, 6142]),
  (⟨"ClockParliament", "tellBill", "(I)I"⟩, prog_1_method_46_code, 2, (some .int), [], [6171, 1001, 6169, 0, 6170]),
  (⟨"ClockParliament", "tellRow", "()I"⟩, prog_1_method_47_code, 3, (some .int), [], [6175, 1001, 6173, 0, 6174]),
  (⟨"ClockParliament", "character", "(I)C"⟩, prog_1_method_48_code, 2, (some .char), [], [7056, 1001, 7054, 0, 7055]),
  (⟨"ClockParliament", "startLine", "(I)V"⟩, prog_1_method_49_code, 2, none, [], [6147, 1001, 6146, 0, 33]),
  (⟨"ClockParliament", "write", "(CI)V"⟩, prog_1_method_50_code, 3, none, [], [6153, 1001, 6152, 0, 34]),
  (⟨"ClockParliament", "account", "(I)I"⟩, prog_1_method_51_code, 2, (some .int), [], [6180, 1001, 6178, 0, 6179]),
  (⟨"ClockParliament$Numbers", "count", "()I"⟩, prog_8_method_2_code, 1, (some .int), [], [2138, 1004, 2136, 0, 2137]),
  (⟨"ClockParliament", "carriedShare", "()F"⟩, prog_1_method_53_code, 1, (some .float), [], [6194, 1001, 6192, 0, 6193]),
  (⟨"ClockParliament", "undo", "()I"⟩, prog_1_method_54_code, 1, (some .int), [], [6214, 1001, 6212, 0, 6213]),
  (⟨"ClockParliament", "save", "()I"⟩, prog_1_method_55_code, 1, (some .int), [], [6238, 1001, 6236, 0, 6237]),
  (⟨"ClockParliament", "restore", "()I"⟩, prog_1_method_56_code, 1, (some .int), [], [7002, 1001, 7000, 0, 7001]),
  (⟨"ClockParliament", "isIn", "(II)Z"⟩, prog_1_method_57_code, 2, (some .boolean), [], [3188, 1001, 3187, 1, 99999])]
noncomputable def z_ms8 : List z_Mt := [(⟨"java/lang/StringBuilder", "append", "(Ljava/lang/String;)Ljava/lang/StringBuilder;"⟩, prog_32_method_7_code, 2, (some (.object "java/lang/StringBuilder")), [], [5227, 1010, 5225, 0, 5226]),
  (⟨"java/lang/AbstractStringBuilder", "append", "(Ljava/lang/String;)Ljava/lang/AbstractStringBuilder;"⟩, prog_15_method_22_code, 3, (some (.object "java/lang/AbstractStringBuilder")), [], [5230, 1009, 5229, 0, 99999]),
  (⟨"java/lang/AbstractStringBuilder", "putStringAt", "(ILjava/lang/String;)V"⟩, prog_15_method_73_code, 3, none, [], [6005, 1009, 6004, 0, 99999]),
  (⟨"java/lang/AbstractStringBuilder", "inflateIfNeededFor", "(Ljava/lang/String;)V"⟩, prog_15_method_71_code, 2, none, [], [6009, 1009, 6008, 0, 99999]),
  (⟨"java/lang/String", "getBytes", "([BIB)V"⟩, prog_31_method_147_code, 4, none, [], [6033, 1011, 6031, 0, 6032]),
  (⟨"java/lang/StringBuilder", "toString", "()Ljava/lang/String;"⟩, prog_32_method_42_code, 1, (some (.object "java/lang/String")), [], [6066, 1010, 6064, 0, 6065]),
  (⟨"java/lang/String", "<init>", "(Ljava/lang/StringBuilder;)V"⟩, prog_31_method_53_code, 2, none, [], [6071, 1011, 6070, 0, 99999]),
  (⟨"java/lang/String", "<init>", "(Ljava/lang/AbstractStringBuilder;Ljava/lang/Void;)V"⟩, prog_31_method_150_code, 5, none, [], [6074, 1011, 6073, 0, 99999]),
  (⟨"java/lang/AbstractStringBuilder", "getValue", "()[B"⟩, prog_15_method_64_code, 1, (some (.array .byte)), [], [6080, 1009, 6077, 0, 99999]),
  (⟨"java/util/Arrays", "copyOfRange", "([BII)[B"⟩, prog_40_method_132_code, 3, (some (.array .byte)), [], [6085, 1027, 6084, 1, 99999]),
  (⟨"java/util/Arrays", "copyOfRangeByte", "([BII)[B"⟩, prog_40_method_133_code, 5, (some (.array .byte)), [], [6088, 1027, 6087, 1, 99999]),
  (⟨"java/util/Arrays", "checkLength", "(II)V"⟩, prog_40_method_131_code, 2, none, [], [6091, 1027, 6090, 1, 99999]),
  (⟨"ClockParliamentLaw", "at", "([II)I"⟩, method_2_code, 2, (some .int), [], [7010, 1000, 7009, 1, 99999]),
  (⟨"ClockParliamentLaw", "put", "(LClockParliament;Ljava/lang/String;)V"⟩, method_3_code, 3, none, [], [7013, 1000, 7012, 1, 99999]),
  (⟨"ClockParliamentLaw", "build", "([I)LClockParliament;"⟩, method_4_code, 8, (some (.object "ClockParliament")), [], [7029, 1000, 7028, 1, 99999]),
  (⟨"ClockParliamentLaw", "act", "(LClockParliament;IIII)I"⟩, method_5_code, 6, (some .int), [(0, 58, 119, 75), (59, 64, 119, 75), (65, 71, 119, 75), (72, 78, 119, 75), (79, 85, 119, 75), (86, 94, 119, 75), (95, 101, 119, 75), (102, 107, 119, 75), (108, 112, 119, 75), (113, 118, 119, 75)], [7032, 1000, 7031, 1, 99999]),
  (⟨"ClockParliamentLaw", "state", "(LClockParliament;)I"⟩, method_6_code, 4, (some .int), [], [7049, 1000, 7048, 1, 99999]),
  (⟨"ClockParliamentLaw", "isLine", "(LClockParliament;ILjava/lang/String;)Z"⟩, method_12_code, 4, (some .boolean), [], [7052, 1000, 7051, 1, 99999]),
  (⟨"ClockParliamentLaw", "runs", "(LClockParliament;)I"⟩, method_13_code, 2, (some .int), [(0, 4, 5, 284), (0, 4, 8, 75)], [7061, 1000, 7060, 1, 99999]),
  (⟨"ClockParliamentLaw", "faults", "(LClockParliament;Ljava/lang/String;I)Z"⟩, method_14_code, 3, (some .boolean), [], [7065, 1000, 7064, 1, 99999])]
noncomputable def z_ms9 : List z_Mt := [(⟨"ClockParliament$Numbers", "count", "()I"⟩, prog_8_method_2_code, 1, (some .int), [], [2138, 1004, 2136, 0, 2137]),
  (⟨"ClockParliament$Numbers", "count", "()I"⟩, prog_8_method_2_code, 1, (some .int), [], [2138, 1004, 2136, 0, 2137]),
  (⟨"ClockParliament$Numbers", "count", "()I"⟩, prog_8_method_2_code, 1, (some .int), [], [2138, 1004, 2136, 0, 2137]),
  (⟨"ClockParliament$Numbers", "count", "()I"⟩, prog_8_method_2_code, 1, (some .int), [], [2138, 1004, 2136, 0, 2137]),
  (⟨"ClockParliament$Numbers", "count", "()I"⟩, prog_8_method_2_code, 1, (some .int), [], [2138, 1004, 2136, 0, 2137]),
  (⟨"ClockParliament$Numbers", "count", "()I"⟩, prog_8_method_2_code, 1, (some .int), [], [2138, 1004, 2136, 0, 2137]),
  (⟨"ClockParliament$Numbers", "count", "()I"⟩, prog_8_method_2_code, 1, (some .int), [], [2138, 1004, 2136, 0, 2137]),
  (⟨"ClockParliament$Numbers", "count", "()I"⟩, prog_8_method_2_code, 1, (some .int), [], [2138, 1004, 2136, 0, 2137]),
  (⟨"ClockParliament$Numbers", "count", "()I"⟩, prog_8_method_2_code, 1, (some .int), [], [2138, 1004, 2136, 0, 2137]),
  (⟨"ClockParliament$Numbers", "count", "()I"⟩, prog_8_method_2_code, 1, (some .int), [], [2138, 1004, 2136, 0, 2137]),
  (⟨"ClockParliament$Numbers", "count", "()I"⟩, prog_8_method_2_code, 1, (some .int), [], [2138, 1004, 2136, 0, 2137]),
  (⟨"ClockParliament$Numbers", "count", "()I"⟩, prog_8_method_2_code, 1, (some .int), [], [2138, 1004, 2136, 0, 2137]),
  (⟨"ClockParliament$Numbers", "count", "()I"⟩, prog_8_method_2_code, 1, (some .int), [], [2138, 1004, 2136, 0, 2137]),
  (⟨"ClockParliament$Numbers", "count", "()I"⟩, prog_8_method_2_code, 1, (some .int), [], [2138, 1004, 2136, 0, 2137]),
  (⟨"ClockParliament$Numbers", "count", "()I"⟩, prog_8_method_2_code, 1, (some .int), [], [2138, 1004, 2136, 0, 2137]),
  (⟨"ClockParliament$Numbers", "count", "()I"⟩, prog_8_method_2_code, 1, (some .int), [], [2138, 1004, 2136, 0, 2137]),
  (⟨"ClockParliament$Numbers", "count", "()I"⟩, prog_8_method_2_code, 1, (some .int), [], [2138, 1004, 2136, 0, 2137]),
  (⟨"ClockParliament$Numbers", "count", "()I"⟩, prog_8_method_2_code, 1, (some .int), [], [2138, 1004, 2136, 0, 2137]),
  (⟨"ClockParliament$Numbers", "count", "()I"⟩, prog_8_method_2_code, 1, (some .int), [], [2138, 1004, 2136, 0, 2137]),
  (⟨"ClockParliament$Numbers", "count", "()I"⟩, prog_8_method_2_code, 1, (some .int), [], [2138, 1004, 2136, 0, 2137])]
noncomputable def z_ms10 : List z_Mt := [(⟨"ClockParliament$Numbers", "count", "()I"⟩, prog_8_method_2_code, 1, (some .int), [], [2138, 1004, 2136, 0, 2137]),
  (⟨"ClockParliament$Numbers", "count", "()I"⟩, prog_8_method_2_code, 1, (some .int), [], [2138, 1004, 2136, 0, 2137]),
  (⟨"ClockParliament$Numbers", "count", "()I"⟩, prog_8_method_2_code, 1, (some .int), [], [2138, 1004, 2136, 0, 2137]),
  (⟨"ClockParliament$Numbers", "count", "()I"⟩, prog_8_method_2_code, 1, (some .int), [], [2138, 1004, 2136, 0, 2137]),
  (⟨"ClockParliament$Numbers", "count", "()I"⟩, prog_8_method_2_code, 1, (some .int), [], [2138, 1004, 2136, 0, 2137]),
  (⟨"ClockParliament$Numbers", "count", "()I"⟩, prog_8_method_2_code, 1, (some .int), [], [2138, 1004, 2136, 0, 2137]),
  (⟨"ClockParliament$Numbers", "count", "()I"⟩, prog_8_method_2_code, 1, (some .int), [], [2138, 1004, 2136, 0, 2137]),
  (⟨"ClockParliament$Numbers", "count", "()I"⟩, prog_8_method_2_code, 1, (some .int), [], [2138, 1004, 2136, 0, 2137]),
  (⟨"ClockParliament$Numbers", "count", "()I"⟩, prog_8_method_2_code, 1, (some .int), [], [2138, 1004, 2136, 0, 2137]),
  (⟨"ClockParliament$Numbers", "count", "()I"⟩, prog_8_method_2_code, 1, (some .int), [], [2138, 1004, 2136, 0, 2137]),
  (⟨"ClockParliament$Numbers", "count", "()I"⟩, prog_8_method_2_code, 1, (some .int), [], [2138, 1004, 2136, 0, 2137]),
  (⟨"ClockParliament$Numbers", "count", "()I"⟩, prog_8_method_2_code, 1, (some .int), [], [2138, 1004, 2136, 0, 2137]),
  (⟨"ClockParliament$Numbers", "count", "()I"⟩, prog_8_method_2_code, 1, (some .int), [], [2138, 1004, 2136, 0, 2137]),
  (⟨"ClockParliament$Numbers", "count", "()I"⟩, prog_8_method_2_code, 1, (some .int), [], [2138, 1004, 2136, 0, 2137]),
  (⟨"ClockParliament$Numbers", "count", "()I"⟩, prog_8_method_2_code, 1, (some .int), [], [2138, 1004, 2136, 0, 2137]),
  (⟨"ClockParliament$Numbers", "count", "()I"⟩, prog_8_method_2_code, 1, (some .int), [], [2138, 1004, 2136, 0, 2137]),
  (⟨"ClockParliament$Numbers", "count", "()I"⟩, prog_8_method_2_code, 1, (some .int), [], [2138, 1004, 2136, 0, 2137]),
  (⟨"ClockParliament$Numbers", "count", "()I"⟩, prog_8_method_2_code, 1, (some .int), [], [2138, 1004, 2136, 0, 2137]),
  (⟨"ClockParliament$Numbers", "count", "()I"⟩, prog_8_method_2_code, 1, (some .int), [], [2138, 1004, 2136, 0, 2137]),
  (⟨"ClockParliament$Numbers", "count", "()I"⟩, prog_8_method_2_code, 1, (some .int), [], [2138, 1004, 2136, 0, 2137])]
noncomputable def z_ms11 : List z_Mt := [(⟨"ClockParliament$Numbers", "count", "()I"⟩, prog_8_method_2_code, 1, (some .int), [], [2138, 1004, 2136, 0, 2137]),
  (⟨"ClockParliament$Numbers", "count", "()I"⟩, prog_8_method_2_code, 1, (some .int), [], [2138, 1004, 2136, 0, 2137]),
  (⟨"ClockParliament$Numbers", "count", "()I"⟩, prog_8_method_2_code, 1, (some .int), [], [2138, 1004, 2136, 0, 2137]),
  (⟨"ClockParliament$Numbers", "count", "()I"⟩, prog_8_method_2_code, 1, (some .int), [], [2138, 1004, 2136, 0, 2137]),
  (⟨"ClockParliament$Numbers", "count", "()I"⟩, prog_8_method_2_code, 1, (some .int), [], [2138, 1004, 2136, 0, 2137]),
  (⟨"ClockParliament$Numbers", "count", "()I"⟩, prog_8_method_2_code, 1, (some .int), [], [2138, 1004, 2136, 0, 2137]),
  (⟨"ClockParliament$Numbers", "count", "()I"⟩, prog_8_method_2_code, 1, (some .int), [], [2138, 1004, 2136, 0, 2137]),
  (⟨"ClockParliament$Numbers", "count", "()I"⟩, prog_8_method_2_code, 1, (some .int), [], [2138, 1004, 2136, 0, 2137]),
  (⟨"ClockParliament$Numbers", "count", "()I"⟩, prog_8_method_2_code, 1, (some .int), [], [2138, 1004, 2136, 0, 2137]),
  (⟨"ClockParliament$Numbers", "count", "()I"⟩, prog_8_method_2_code, 1, (some .int), [], [2138, 1004, 2136, 0, 2137]),
  (⟨"ClockParliament$Numbers", "count", "()I"⟩, prog_8_method_2_code, 1, (some .int), [], [2138, 1004, 2136, 0, 2137]),
  (⟨"ClockParliament$Numbers", "count", "()I"⟩, prog_8_method_2_code, 1, (some .int), [], [2138, 1004, 2136, 0, 2137]),
  (⟨"ClockParliament$Numbers", "count", "()I"⟩, prog_8_method_2_code, 1, (some .int), [], [2138, 1004, 2136, 0, 2137]),
  (⟨"ClockParliament$Numbers", "count", "()I"⟩, prog_8_method_2_code, 1, (some .int), [], [2138, 1004, 2136, 0, 2137]),
  (⟨"ClockParliament$Numbers", "count", "()I"⟩, prog_8_method_2_code, 1, (some .int), [], [2138, 1004, 2136, 0, 2137]),
  (⟨"ClockParliament$Numbers", "count", "()I"⟩, prog_8_method_2_code, 1, (some .int), [], [2138, 1004, 2136, 0, 2137]),
  (⟨"ClockParliament$Numbers", "count", "()I"⟩, prog_8_method_2_code, 1, (some .int), [], [2138, 1004, 2136, 0, 2137]),
  (⟨"ClockParliament$Numbers", "count", "()I"⟩, prog_8_method_2_code, 1, (some .int), [], [2138, 1004, 2136, 0, 2137]),
  (⟨"ClockParliament$Numbers", "count", "()I"⟩, prog_8_method_2_code, 1, (some .int), [], [2138, 1004, 2136, 0, 2137]),
  (⟨"ClockParliament$Numbers", "count", "()I"⟩, prog_8_method_2_code, 1, (some .int), [], [2138, 1004, 2136, 0, 2137])]
noncomputable def z_ms12 : List z_Mt := [(⟨"ClockParliament$Numbers", "count", "()I"⟩, prog_8_method_2_code, 1, (some .int), [], [2138, 1004, 2136, 0, 2137]),
  (⟨"ClockParliament$Numbers", "count", "()I"⟩, prog_8_method_2_code, 1, (some .int), [], [2138, 1004, 2136, 0, 2137]),
  (⟨"ClockParliament$Numbers", "count", "()I"⟩, prog_8_method_2_code, 1, (some .int), [], [2138, 1004, 2136, 0, 2137]),
  (⟨"ClockParliament$Numbers", "count", "()I"⟩, prog_8_method_2_code, 1, (some .int), [], [2138, 1004, 2136, 0, 2137]),
  (⟨"ClockParliament$Numbers", "count", "()I"⟩, prog_8_method_2_code, 1, (some .int), [], [2138, 1004, 2136, 0, 2137]),
  (⟨"ClockParliament$Numbers", "count", "()I"⟩, prog_8_method_2_code, 1, (some .int), [], [2138, 1004, 2136, 0, 2137]),
  (⟨"ClockParliament$Numbers", "count", "()I"⟩, prog_8_method_2_code, 1, (some .int), [], [2138, 1004, 2136, 0, 2137]),
  (⟨"ClockParliament$Numbers", "count", "()I"⟩, prog_8_method_2_code, 1, (some .int), [], [2138, 1004, 2136, 0, 2137]),
  (⟨"ClockParliament$Numbers", "count", "()I"⟩, prog_8_method_2_code, 1, (some .int), [], [2138, 1004, 2136, 0, 2137]),
  (⟨"ClockParliament$Numbers", "count", "()I"⟩, prog_8_method_2_code, 1, (some .int), [], [2138, 1004, 2136, 0, 2137]),
  (⟨"ClockParliament$Numbers", "count", "()I"⟩, prog_8_method_2_code, 1, (some .int), [], [2138, 1004, 2136, 0, 2137]),
  (⟨"ClockParliament$Numbers", "count", "()I"⟩, prog_8_method_2_code, 1, (some .int), [], [2138, 1004, 2136, 0, 2137]),
  (⟨"ClockParliament$Numbers", "count", "()I"⟩, prog_8_method_2_code, 1, (some .int), [], [2138, 1004, 2136, 0, 2137]),
  (⟨"ClockParliament$Numbers", "count", "()I"⟩, prog_8_method_2_code, 1, (some .int), [], [2138, 1004, 2136, 0, 2137]),
  (⟨"ClockParliament$Numbers", "count", "()I"⟩, prog_8_method_2_code, 1, (some .int), [], [2138, 1004, 2136, 0, 2137]),
  (⟨"ClockParliament$Numbers", "count", "()I"⟩, prog_8_method_2_code, 1, (some .int), [], [2138, 1004, 2136, 0, 2137]),
  (⟨"ClockParliament$Numbers", "count", "()I"⟩, prog_8_method_2_code, 1, (some .int), [], [2138, 1004, 2136, 0, 2137]),
  (⟨"ClockParliament$Numbers", "count", "()I"⟩, prog_8_method_2_code, 1, (some .int), [], [2138, 1004, 2136, 0, 2137]),
  (⟨"ClockParliament$Numbers", "count", "()I"⟩, prog_8_method_2_code, 1, (some .int), [], [2138, 1004, 2136, 0, 2137]),
  (⟨"ClockParliament$Numbers", "count", "()I"⟩, prog_8_method_2_code, 1, (some .int), [], [2138, 1004, 2136, 0, 2137])]
noncomputable def z_ms13 : List z_Mt := [(⟨"ClockParliament$Numbers", "count", "()I"⟩, prog_8_method_2_code, 1, (some .int), [], [2138, 1004, 2136, 0, 2137]),
  (⟨"ClockParliament$Numbers", "count", "()I"⟩, prog_8_method_2_code, 1, (some .int), [], [2138, 1004, 2136, 0, 2137]),
  (⟨"ClockParliament$Numbers", "count", "()I"⟩, prog_8_method_2_code, 1, (some .int), [], [2138, 1004, 2136, 0, 2137]),
  (⟨"ClockParliament$Numbers", "count", "()I"⟩, prog_8_method_2_code, 1, (some .int), [], [2138, 1004, 2136, 0, 2137]),
  (⟨"ClockParliament$Numbers", "count", "()I"⟩, prog_8_method_2_code, 1, (some .int), [], [2138, 1004, 2136, 0, 2137]),
  (⟨"ClockParliament$Numbers", "count", "()I"⟩, prog_8_method_2_code, 1, (some .int), [], [2138, 1004, 2136, 0, 2137]),
  (⟨"ClockParliament$Numbers", "count", "()I"⟩, prog_8_method_2_code, 1, (some .int), [], [2138, 1004, 2136, 0, 2137]),
  (⟨"ClockParliament$Numbers", "count", "()I"⟩, prog_8_method_2_code, 1, (some .int), [], [2138, 1004, 2136, 0, 2137]),
  (⟨"ClockParliament$Numbers", "count", "()I"⟩, prog_8_method_2_code, 1, (some .int), [], [2138, 1004, 2136, 0, 2137]),
  (⟨"ClockParliament$Numbers", "count", "()I"⟩, prog_8_method_2_code, 1, (some .int), [], [2138, 1004, 2136, 0, 2137]),
  (⟨"ClockParliament$Numbers", "count", "()I"⟩, prog_8_method_2_code, 1, (some .int), [], [2138, 1004, 2136, 0, 2137]),
  (⟨"ClockParliament$Numbers", "count", "()I"⟩, prog_8_method_2_code, 1, (some .int), [], [2138, 1004, 2136, 0, 2137]),
  (⟨"ClockParliament$Numbers", "count", "()I"⟩, prog_8_method_2_code, 1, (some .int), [], [2138, 1004, 2136, 0, 2137]),
  (⟨"ClockParliament$Numbers", "count", "()I"⟩, prog_8_method_2_code, 1, (some .int), [], [2138, 1004, 2136, 0, 2137]),
  (⟨"ClockParliament$Numbers", "count", "()I"⟩, prog_8_method_2_code, 1, (some .int), [], [2138, 1004, 2136, 0, 2137]),
  (⟨"ClockParliament$Numbers", "count", "()I"⟩, prog_8_method_2_code, 1, (some .int), [], [2138, 1004, 2136, 0, 2137]),
  (⟨"ClockParliament$Numbers", "count", "()I"⟩, prog_8_method_2_code, 1, (some .int), [], [2138, 1004, 2136, 0, 2137]),
  (⟨"ClockParliament$Numbers", "count", "()I"⟩, prog_8_method_2_code, 1, (some .int), [], [2138, 1004, 2136, 0, 2137]),
  (⟨"ClockParliament$Numbers", "count", "()I"⟩, prog_8_method_2_code, 1, (some .int), [], [2138, 1004, 2136, 0, 2137]),
  (⟨"ClockParliament$Numbers", "count", "()I"⟩, prog_8_method_2_code, 1, (some .int), [], [2138, 1004, 2136, 0, 2137])]
noncomputable def z_ms14 : List z_Mt := [(⟨"ClockParliament$Numbers", "count", "()I"⟩, prog_8_method_2_code, 1, (some .int), [], [2138, 1004, 2136, 0, 2137]),
  (⟨"ClockParliament$Numbers", "count", "()I"⟩, prog_8_method_2_code, 1, (some .int), [], [2138, 1004, 2136, 0, 2137]),
  (⟨"ClockParliament$Numbers", "count", "()I"⟩, prog_8_method_2_code, 1, (some .int), [], [2138, 1004, 2136, 0, 2137]),
  (⟨"ClockParliament$Numbers", "count", "()I"⟩, prog_8_method_2_code, 1, (some .int), [], [2138, 1004, 2136, 0, 2137]),
  (⟨"ClockParliament$Numbers", "count", "()I"⟩, prog_8_method_2_code, 1, (some .int), [], [2138, 1004, 2136, 0, 2137]),
  (⟨"ClockParliament$Numbers", "count", "()I"⟩, prog_8_method_2_code, 1, (some .int), [], [2138, 1004, 2136, 0, 2137]),
  (⟨"ClockParliament$Numbers", "count", "()I"⟩, prog_8_method_2_code, 1, (some .int), [], [2138, 1004, 2136, 0, 2137]),
  (⟨"ClockParliament$Numbers", "count", "()I"⟩, prog_8_method_2_code, 1, (some .int), [], [2138, 1004, 2136, 0, 2137]),
  (⟨"ClockParliament$Numbers", "count", "()I"⟩, prog_8_method_2_code, 1, (some .int), [], [2138, 1004, 2136, 0, 2137]),
  (⟨"ClockParliament$Numbers", "count", "()I"⟩, prog_8_method_2_code, 1, (some .int), [], [2138, 1004, 2136, 0, 2137]),
  (⟨"ClockParliament$Numbers", "count", "()I"⟩, prog_8_method_2_code, 1, (some .int), [], [2138, 1004, 2136, 0, 2137]),
  (⟨"ClockParliament$Numbers", "count", "()I"⟩, prog_8_method_2_code, 1, (some .int), [], [2138, 1004, 2136, 0, 2137]),
  (⟨"ClockParliament$Numbers", "count", "()I"⟩, prog_8_method_2_code, 1, (some .int), [], [2138, 1004, 2136, 0, 2137]),
  (⟨"ClockParliament$Numbers", "count", "()I"⟩, prog_8_method_2_code, 1, (some .int), [], [2138, 1004, 2136, 0, 2137]),
  (⟨"ClockParliament$Numbers", "count", "()I"⟩, prog_8_method_2_code, 1, (some .int), [], [2138, 1004, 2136, 0, 2137]),
  (⟨"ClockParliament$Numbers", "count", "()I"⟩, prog_8_method_2_code, 1, (some .int), [], [2138, 1004, 2136, 0, 2137]),
  (⟨"ClockParliament$Numbers", "count", "()I"⟩, prog_8_method_2_code, 1, (some .int), [], [2138, 1004, 2136, 0, 2137]),
  (⟨"ClockParliament$Numbers", "count", "()I"⟩, prog_8_method_2_code, 1, (some .int), [], [2138, 1004, 2136, 0, 2137]),
  (⟨"ClockParliament$Numbers", "count", "()I"⟩, prog_8_method_2_code, 1, (some .int), [], [2138, 1004, 2136, 0, 2137]),
  (⟨"ClockParliament$Numbers", "count", "()I"⟩, prog_8_method_2_code, 1, (some .int), [], [2138, 1004, 2136, 0, 2137])]
noncomputable def z_ms15 : List z_Mt := [(⟨"java/lang/StringBuilder", "<init>", "()V"⟩, prog_32_method_1_code, 1, none, [], [1206, 1010, 1205, 0, 99999]),
  (⟨"java/lang/AbstractStringBuilder", "<init>", "(I)V"⟩, prog_15_method_2_code, 2, none, [], [1209, 1009, 1208, 0, 99999]),
  (⟨"java/lang/StringBuilder", "append", "(C)Ljava/lang/StringBuilder;"⟩, prog_32_method_14_code, 2, (some (.object "java/lang/StringBuilder")), [], [6157, 1010, 6155, 0, 6156]),
  (⟨"java/lang/AbstractStringBuilder", "append", "(C)Ljava/lang/AbstractStringBuilder;"⟩, prog_15_method_31_code, 2, (some (.object "java/lang/AbstractStringBuilder")), [], [6160, 1009, 6159, 0, 99999]),
  (⟨"java/lang/StringBuilder", "append", "(I)Ljava/lang/StringBuilder;"⟩, prog_32_method_15_code, 2, (some (.object "java/lang/StringBuilder")), [], [6039, 1010, 6037, 0, 6038]),
  (⟨"java/lang/AbstractStringBuilder", "append", "(I)Ljava/lang/AbstractStringBuilder;"⟩, prog_15_method_32_code, 4, (some (.object "java/lang/AbstractStringBuilder")), [], [6042, 1009, 6041, 0, 99999]),
  (⟨"java/lang/StringBuilder", "setLength", "(I)V"⟩, prog_32_method_89_code, 2, none, [], [5171, 1010, 5169, 0, 5170]),
  (⟨"java/lang/AbstractStringBuilder", "setLength", "(I)V"⟩, prog_15_method_13_code, 2, none, [], [5174, 1009, 5173, 0, 99999]),
  (⟨"java/lang/StringBuilder", "length", "()I"⟩, prog_32_method_93_code, 1, (some .int), [], [5014, 1010, 5012, 0, 5013]),
  (⟨"java/lang/AbstractStringBuilder", "length", "()I"⟩, prog_15_method_6_code, 1, (some .int), [], [5017, 1009, 5016, 0, 99999]),
  (⟨"java/lang/StringBuilder", "charAt", "(I)C"⟩, prog_32_method_88_code, 2, (some .char), [], [5021, 1010, 5019, 0, 5020]),
  (⟨"java/lang/AbstractStringBuilder", "charAt", "(I)C"⟩, prog_15_method_14_code, 5, (some .char), [], [5024, 1009, 5023, 0, 99999]),
  (⟨"java/lang/AbstractStringBuilder", "ensureCapacityInternal", "(I)V"⟩, prog_15_method_9_code, 3, none, [], [5178, 1009, 5177, 0, 99999]),
  (⟨"java/lang/AbstractStringBuilder", "newCapacity", "(I)I"⟩, prog_15_method_10_code, 6, (some .int), [], [5182, 1009, 5181, 0, 99999]),
  (⟨"java/lang/AbstractStringBuilder", "isLatin1", "()Z"⟩, prog_15_method_68_code, 1, (some .boolean), [], [5210, 1009, 5207, 0, 99999]),
  (⟨"java/lang/StringLatin1", "canEncode", "(I)Z"⟩, prog_33_method_4_code, 1, (some .boolean), [], [5077, 1030, 5076, 1, 99999]),
  (⟨"java/lang/StringLatin1", "canEncode", "(C)Z"⟩, prog_33_method_3_code, 1, (some .boolean), [], [6163, 1030, 6162, 1, 99999]),
  (⟨"java/util/Arrays", "copyOf", "([BI)[B"⟩, prog_40_method_121_code, 3, (some (.array .byte)), [], [5194, 1027, 5193, 1, 99999]),
  (⟨"java/lang/Math", "min", "(II)I"⟩, prog_28_method_69_code, 2, (some .int), [], [2183, 1005, 2182, 1, 99999]),
  (⟨"java/lang/Math", "max", "(II)I"⟩, prog_28_method_65_code, 2, (some .int), [], [1063, 1005, 1062, 1, 99999])]
noncomputable def z_ms16 : List z_Mt := [(⟨"java/lang/Math", "abs", "(I)I"⟩, prog_28_method_59_code, 1, (some .int), [], [2180, 1005, 2179, 1, 99999]),
  (⟨"java/lang/Math", "floorMod", "(II)I"⟩, prog_28_method_50_code, 3, (some .int), [], [3077, 1005, 3076, 1, 99999]),
  (⟨"jdk/internal/util/ArraysSupport", "newLength", "(III)I"⟩, prog_42_method_27_code, 4, (some .int), [], [5185, 1026, 5184, 1, 99999]),
  (⟨"java/lang/String", "checkIndex", "(II)V"⟩, prog_31_method_155_code, 2, none, [], [5028, 1011, 5027, 1, 99999]),
  (⟨"jdk/internal/util/Preconditions", "checkIndex", "(IILjava/util/function/BiFunction;)I"⟩, prog_43_method_11_code, 3, (some .int), [], [5033, 1029, 5032, 1, 99999]),
  (⟨"java/lang/Integer", "stringSize", "(I)I"⟩, prog_27_method_13_code, 4, (some .int), [], [6045, 1023, 6044, 1, 99999]),
  (⟨"java/lang/Integer", "getChars", "(II[B)I"⟩, prog_27_method_12_code, 7, (some .int), [], [6048, 1023, 6047, 1, 99999]),
  (⟨"java/lang/Integer", "bitCount", "(I)I"⟩, prog_27_method_49_code, 1, (some .int), [], [3195, 1023, 3194, 1, 99999]),
  (⟨"java/lang/Enum", "ordinal", "()I"⟩, prog_22_method_2_code, 1, (some .int), [], [2114, 1014, 2113, 0, 99999]),
  (⟨"java/lang/String", "charAt", "(I)C"⟩, prog_31_method_56_code, 2, (some .char), [], [5124, 1011, 5122, 0, 5123]),
  (⟨"java/lang/String", "isLatin1", "()Z"⟩, prog_31_method_154_code, 1, (some .boolean), [], [5062, 1011, 5060, 0, 5061]),
  (⟨"java/lang/String", "length", "()I"⟩, prog_31_method_54_code, 1, (some .int), [], [5067, 1011, 5065, 0, 5066]),
  (⟨"java/lang/String", "coder", "()B"⟩, prog_31_method_152_code, 1, (some .byte), [], [5071, 1011, 5069, 0, 5070]),
  (⟨"java/lang/String", "indexOf", "(I)I"⟩, prog_31_method_79_code, 2, (some .int), [], [5054, 1011, 5052, 0, 5053]),
  (⟨"java/lang/String", "indexOf", "(II)I"⟩, prog_31_method_80_code, 3, (some .int), [], [5058, 1011, 5056, 0, 5057]),
  (⟨"java/lang/StringLatin1", "charAt", "([BI)C"⟩, prog_33_method_2_code, 2, (some .char), [], [5127, 1030, 5126, 1, 99999]),
  (⟨"java/lang/StringLatin1", "indexOf", "([BIII)I"⟩, prog_33_method_22_code, 4, (some .int), [], [5074, 1030, 5073, 1, 99999]),
  (⟨"java/lang/StringLatin1", "indexOfChar", "([BIII)I"⟩, prog_33_method_23_code, 6, (some .int), [], [5082, 1030, 5081, 1, 99999]),
  (x, code, 10, ret, [], [99999, 1000, 99999, 1, 99999])]
noncomputable def z_mtab : List (List z_Mt) := [z_ms0, z_ms1, z_ms2, z_ms3, z_ms4, z_ms5, z_ms6, z_ms7, z_ms8, z_ms9, z_ms10, z_ms11, z_ms12, z_ms13, z_ms14, z_ms15, z_ms16]
def z_T0 : u_T := fun k => match k with
  | 0 => ("ClockParliament$Bills", "movers", "LClockParliament$Numbers;", true)
  | 1 => ("ClockParliament$Bills", "seconds", "LClockParliament$Numbers;", true)
  | 2 => ("ClockParliament$Bills", "needs", "LClockParliament$Numbers;", true)
  | 3 => ("ClockParliament$Bills", "hours", "LClockParliament$Numbers;", true)
  | 4 => ("ClockParliament$Bills", "adjournings", "LClockParliament$Numbers;", true)
  | _ => ("ClockParliament$Bills", "row", "LClockParliament$Numbers;", true)
def z_ty0 : Nat → FieldType := fun k => match k with
  | 0 => .object "ClockParliament$Numbers"
  | 1 => .object "ClockParliament$Numbers"
  | 2 => .object "ClockParliament$Numbers"
  | 3 => .object "ClockParliament$Numbers"
  | 4 => .object "ClockParliament$Numbers"
  | _ => .object "ClockParliament$Numbers"
def z_T1 : u_T := fun k => match k with
  | 0 => ("ClockParliament$Clocks", "seconds", "LClockParliament$Numbers;", true)
  | 1 => ("ClockParliament$Clocks", "springs", "LClockParliament$Numbers;", true)
  | 2 => ("ClockParliament$Clocks", "leanings", "LClockParliament$Numbers;", true)
  | 3 => ("ClockParliament$Clocks", "votes", "LClockParliament$Numbers;", true)
  | _ => ("ClockParliament$Clocks", "keepers", "LClockParliament$Numbers;", true)
def z_ty1 : Nat → FieldType := fun k => match k with
  | 0 => .object "ClockParliament$Numbers"
  | 1 => .object "ClockParliament$Numbers"
  | 2 => .object "ClockParliament$Numbers"
  | 3 => .object "ClockParliament$Numbers"
  | _ => .object "ClockParliament$Numbers"
def z_T2 : u_T := fun k => match k with
  | 0 => ("ClockParliament$History", "past", "[LClockParliament$House;", true)
  | 1 => ("ClockParliament$History", "oldest", "I", false)
  | _ => ("ClockParliament$History", "count", "I", false)
def z_ty2 : Nat → FieldType := fun k => match k with
  | 0 => .array (.object "ClockParliament$House")
  | 1 => .int
  | _ => .int
def z_T3 : u_T := fun k => match k with
  | 0 => ("ClockParliament$House", "clocks", "LClockParliament$Clocks;", true)
  | 1 => ("ClockParliament$House", "bills", "LClockParliament$Bills;", true)
  | 2 => ("ClockParliament$House", "hoursGone", "I", false)
  | 3 => ("ClockParliament$House", "votesHeld", "I", false)
  | 4 => ("ClockParliament$House", "billsCarried", "I", false)
  | 5 => ("ClockParliament$House", "chimes", "I", false)
  | 6 => ("ClockParliament$House", "comebacks", "I", false)
  | _ => ("ClockParliament$House", "windings", "I", false)
def z_ty3 : Nat → FieldType := fun k => match k with
  | 0 => .object "ClockParliament$Clocks"
  | 1 => .object "ClockParliament$Bills"
  | 2 => .int
  | 3 => .int
  | 4 => .int
  | 5 => .int
  | 6 => .int
  | _ => .int
def z_T4 : u_T := fun k => match k with
  | 0 => ("ClockParliament$Numbers", "room", "[I", true)
  | _ => ("ClockParliament$Numbers", "size", "I", false)
def z_ty4 : Nat → FieldType := fun k => match k with
  | 0 => .array .int
  | _ => .int
def z_T5 : u_T := fun k => match k with
  | 0 => ("ClockParliament$Order", "kind", "LClockParliament$Kind;", false)
  | 1 => ("ClockParliament$Order", "first", "I", false)
  | 2 => ("ClockParliament$Order", "second", "I", false)
  | 3 => ("ClockParliament$Order", "third", "I", false)
  | _ => ("ClockParliament$Order", "taken", "I", false)
def z_ty5 : Nat → FieldType := fun k => match k with
  | 0 => .object "ClockParliament$Kind"
  | 1 => .int
  | 2 => .int
  | 3 => .int
  | _ => .int
def z_T6 : u_T := fun k => match k with
  | 0 => ("ClockParliament$OrderText", "text", "Ljava/lang/StringBuilder;", true)
  | 1 => ("ClockParliament$OrderText", "tried", "LClockParliament$Order;", true)
  | _ => ("ClockParliament$OrderText", "position", "I", false)
def z_ty6 : Nat → FieldType := fun k => match k with
  | 0 => .object "java/lang/StringBuilder"
  | 1 => .object "ClockParliament$Order"
  | _ => .int
def z_T7 : u_T := fun k => match k with
  | 0 => ("ClockParliament$Refusal", "number", "I", false)
  | _ => ("ClockParliament$Refusal", "detail", "I", false)
def z_ty7 : Nat → FieldType := fun k => match k with
  | 0 => .int
  | _ => .int
def z_T8 : u_T := fun k => match k with
  | 0 => ("ClockParliament", "house", "LClockParliament$House;", true)
  | 1 => ("ClockParliament", "spare", "LClockParliament$House;", true)
  | 2 => ("ClockParliament", "saved", "LClockParliament$House;", true)
  | 3 => ("ClockParliament", "isSaved", "Z", false)
  | 4 => ("ClockParliament", "history", "LClockParliament$History;", true)
  | 5 => ("ClockParliament", "input", "LClockParliament$OrderText;", true)
  | 6 => ("ClockParliament", "order", "LClockParliament$Order;", true)
  | 7 => ("ClockParliament", "line", "Ljava/lang/StringBuilder;", true)
  | 8 => ("ClockParliament", "found", "LClockParliament$Refusal;", true)
  | 9 => ("ClockParliament", "kept", "LClockParliament$Refusal;", true)
  | 10 => ("ClockParliament", "cause", "LClockParliament$Refusal;", true)
  | _ => ("ClockParliament", "latestFault", "I", false)
def z_ty8 : Nat → FieldType := fun k => match k with
  | 0 => .object "ClockParliament$House"
  | 1 => .object "ClockParliament$House"
  | 2 => .object "ClockParliament$House"
  | 3 => .boolean
  | 4 => .object "ClockParliament$History"
  | 5 => .object "ClockParliament$OrderText"
  | 6 => .object "ClockParliament$Order"
  | 7 => .object "java/lang/StringBuilder"
  | 8 => .object "ClockParliament$Refusal"
  | 9 => .object "ClockParliament$Refusal"
  | 10 => .object "ClockParliament$Refusal"
  | _ => .int
def z_T9 : u_T := fun k => match k with
  | 0 => ("java/lang/String", "value", "[B", true)
  | 1 => ("java/lang/String", "coder", "B", true)
  | 2 => ("java/lang/String", "hash", "I", false)
  | _ => ("java/lang/String", "hashIsZero", "Z", false)
def z_ty9 : Nat → FieldType := fun k => match k with
  | 0 => .array .byte
  | 1 => .byte
  | 2 => .int
  | _ => .boolean
def z_T10 : u_T := fun k => match k with
  | 0 => ("java/lang/AbstractStringBuilder", "value", "[B", false)
  | 1 => ("java/lang/AbstractStringBuilder", "coder", "B", false)
  | 2 => ("java/lang/AbstractStringBuilder", "maybeLatin1", "Z", false)
  | _ => ("java/lang/AbstractStringBuilder", "count", "I", false)
def z_ty10 : Nat → FieldType := fun k => match k with
  | 0 => .array .byte
  | 1 => .byte
  | 2 => .boolean
  | _ => .int
abbrev z_cl : List vw_C := [("ClockParliament$Bills", z_T0, 6), ("ClockParliament$Clocks", z_T1, 5), ("ClockParliament$History", z_T2, 3), ("ClockParliament$House", z_T3, 8), ("ClockParliament$Numbers", z_T4, 2), ("ClockParliament$Order", z_T5, 5), ("ClockParliament$OrderText", z_T6, 3), ("ClockParliament$Refusal", z_T7, 2), ("ClockParliament", z_T8, 12), ("java/lang/String", z_T9, 4), ("java/lang/StringBuilder", z_T10, 4)]
def z_tyl : List (Nat → FieldType) := [z_ty0, z_ty1, z_ty2, z_ty3, z_ty4, z_ty5, z_ty6, z_ty7, z_ty8, z_ty9, z_ty10]
def z_rft : List (String × String × String) := [("java/lang/Enum", "ordinal", "I"), ("ClockParliament$Kind", "form", "Ljava/lang/String;"), ("java/lang/String", "value", "[B"), ("java/lang/String", "coder", "B")]
def z_stt : List (String × String × String) := [("ClockParliament$Kind", "VOTE", "LClockParliament$Kind;"), ("ClockParliament$Kind", "ALL", "[LClockParliament$Kind;"), ("ClockParliament$1", "$SwitchMap$ClockParliament$Kind", "[I"), ("ClockParliament$Kind", "CLOCK", "LClockParliament$Kind;"), ("ClockParliament$Kind", "LEAVE", "LClockParliament$Kind;"), ("ClockParliament$Kind", "KEY", "LClockParliament$Kind;"), ("ClockParliament$Kind", "WIND", "LClockParliament$Kind;"), ("ClockParliament$Kind", "MOVE", "LClockParliament$Kind;"), ("ClockParliament$Kind", "BILL", "LClockParliament$Kind;"), ("ClockParliament$Kind", "ADJOURN", "LClockParliament$Kind;"), ("ClockParliament$Kind", "DROP", "LClockParliament$Kind;"), ("ClockParliament$Kind", "HOUR", "LClockParliament$Kind;"), ("java/lang/String", "COMPACT_STRINGS", "Z"), ("jdk/internal/util/Preconditions", "SIOOBE_FORMATTER", "Ljava/util/function/BiFunction;"), ("java/lang/Integer", "DigitOnes", "[B"), ("java/lang/Integer", "DigitTens", "[B")]
