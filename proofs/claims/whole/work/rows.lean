section
-- ===== PART A: goes FIRST, ahead of the names: the tables' words, and 'selects' of the private methods out of them =====
/-- a private method of a class that the tables say can be made, by its rows of tables_1 -/
def lw_okq (q : MethodName × Nat) : Prop := (q.1.cls ≠ "java/lang/invoke/MethodHandle" ∧ q.1.cls ≠ "java/lang/invoke/VarHandle") ∧ Cond.instantiable q.1.cls q.2 ∈ tables_1 ∧ Cond.privateMethod q.1 ∈ tables_1 ∧ Cond.instanceMethod q.1 ∈ tables_1
theorem lw_p0 : lw_okq (⟨"ClockParliament$House", "majorityOf", "(I)I"⟩, 8) := ⟨⟨by decide +kernel, by decide +kernel⟩, List.mem_of_getElem? (i := 47) (by decide +kernel), List.mem_of_getElem? (i := 389) (by decide +kernel), List.mem_of_getElem? (i := 390) (by decide +kernel)⟩
theorem lw_p1 : lw_okq (⟨"ClockParliament$House", "isEnough", "(II)Z"⟩, 8) := ⟨⟨by decide +kernel, by decide +kernel⟩, List.mem_of_getElem? (i := 47) (by decide +kernel), List.mem_of_getElem? (i := 396) (by decide +kernel), List.mem_of_getElem? (i := 397) (by decide +kernel)⟩
theorem lw_p2 : lw_okq (⟨"ClockParliament", "areMajoritiesTold", "()Z"⟩, 12) := ⟨⟨by decide +kernel, by decide +kernel⟩, List.mem_of_getElem? (i := 39) (by decide +kernel), List.mem_of_getElem? (i := 404) (by decide +kernel), List.mem_of_getElem? (i := 405) (by decide +kernel)⟩
theorem lw_p3 : lw_okq (⟨"ClockParliament$House", "votersLeaning", "(II)I"⟩, 8) := ⟨⟨by decide +kernel, by decide +kernel⟩, List.mem_of_getElem? (i := 47) (by decide +kernel), List.mem_of_getElem? (i := 413) (by decide +kernel), List.mem_of_getElem? (i := 414) (by decide +kernel)⟩
theorem lw_p4 : lw_okq (⟨"ClockParliament", "areRowsTold", "()Z"⟩, 12) := ⟨⟨by decide +kernel, by decide +kernel⟩, List.mem_of_getElem? (i := 39) (by decide +kernel), List.mem_of_getElem? (i := 417) (by decide +kernel), List.mem_of_getElem? (i := 418) (by decide +kernel)⟩
theorem lw_p5 : lw_okq (⟨"ClockParliament", "foresee", "(I)V"⟩, 12) := ⟨⟨by decide +kernel, by decide +kernel⟩, List.mem_of_getElem? (i := 39) (by decide +kernel), List.mem_of_getElem? (i := 421) (by decide +kernel), List.mem_of_getElem? (i := 422) (by decide +kernel)⟩
theorem lw_p6 : lw_okq (⟨"ClockParliament$Clocks", "goOn", "(II)V"⟩, 5) := ⟨⟨by decide +kernel, by decide +kernel⟩, List.mem_of_getElem? (i := 53) (by decide +kernel), List.mem_of_getElem? (i := 472) (by decide +kernel), List.mem_of_getElem? (i := 473) (by decide +kernel)⟩
theorem lw_p7 : lw_okq (⟨"ClockParliament$Bills", "placeAfter", "(II)I"⟩, 6) := ⟨⟨by decide +kernel, by decide +kernel⟩, List.mem_of_getElem? (i := 109) (by decide +kernel), List.mem_of_getElem? (i := 483) (by decide +kernel), List.mem_of_getElem? (i := 484) (by decide +kernel)⟩
theorem lw_p8 : lw_okq (⟨"ClockParliament$Bills", "isAheadAsBack", "(II)Z"⟩, 6) := ⟨⟨by decide +kernel, by decide +kernel⟩, List.mem_of_getElem? (i := 109) (by decide +kernel), List.mem_of_getElem? (i := 487) (by decide +kernel), List.mem_of_getElem? (i := 488) (by decide +kernel)⟩
theorem lw_p9 : lw_okq (⟨"ClockParliament", "areBillsTold", "()Z"⟩, 12) := ⟨⟨by decide +kernel, by decide +kernel⟩, List.mem_of_getElem? (i := 39) (by decide +kernel), List.mem_of_getElem? (i := 495) (by decide +kernel), List.mem_of_getElem? (i := 496) (by decide +kernel)⟩
theorem lw_p10 : lw_okq (⟨"java/lang/Throwable", "fillInStackTrace", "(I)Ljava/lang/Throwable;"⟩, 6) := ⟨⟨by decide +kernel, by decide +kernel⟩, List.mem_of_getElem? (i := 743) (by decide +kernel), List.mem_of_getElem? (i := 741) (by decide +kernel), List.mem_of_getElem? (i := 742) (by decide +kernel)⟩
theorem lw_p11 : lw_okq (⟨"ClockParliament", "startLine", "(I)V"⟩, 12) := ⟨⟨by decide +kernel, by decide +kernel⟩, List.mem_of_getElem? (i := 39) (by decide +kernel), List.mem_of_getElem? (i := 852) (by decide +kernel), List.mem_of_getElem? (i := 853) (by decide +kernel)⟩
theorem lw_p12 : lw_okq (⟨"ClockParliament", "write", "(CI)V"⟩, 12) := ⟨⟨by decide +kernel, by decide +kernel⟩, List.mem_of_getElem? (i := 39) (by decide +kernel), List.mem_of_getElem? (i := 857) (by decide +kernel), List.mem_of_getElem? (i := 858) (by decide +kernel)⟩
theorem lw_p13 : lw_okq (⟨"ClockParliament", "change", "(LClockParliament$Kind;III)I"⟩, 12) := ⟨⟨by decide +kernel, by decide +kernel⟩, List.mem_of_getElem? (i := 39) (by decide +kernel), List.mem_of_getElem? (i := 899) (by decide +kernel), List.mem_of_getElem? (i := 900) (by decide +kernel)⟩
theorem lw_p14 : lw_okq (⟨"ClockParliament$House", "refusesClock", "(IILClockParliament$Refusal;)Z"⟩, 8) := ⟨⟨by decide +kernel, by decide +kernel⟩, List.mem_of_getElem? (i := 47) (by decide +kernel), List.mem_of_getElem? (i := 919) (by decide +kernel), List.mem_of_getElem? (i := 920) (by decide +kernel)⟩
theorem lw_p15 : lw_okq (⟨"ClockParliament$House", "refusesKey", "(IILClockParliament$Refusal;)Z"⟩, 8) := ⟨⟨by decide +kernel, by decide +kernel⟩, List.mem_of_getElem? (i := 47) (by decide +kernel), List.mem_of_getElem? (i := 945) (by decide +kernel), List.mem_of_getElem? (i := 946) (by decide +kernel)⟩
def lw_privs_1 : List (MethodName × Nat) := [(⟨"ClockParliament$House", "majorityOf", "(I)I"⟩, 8), (⟨"ClockParliament$House", "isEnough", "(II)Z"⟩, 8), (⟨"ClockParliament", "areMajoritiesTold", "()Z"⟩, 12), (⟨"ClockParliament$House", "votersLeaning", "(II)I"⟩, 8), (⟨"ClockParliament", "areRowsTold", "()Z"⟩, 12), (⟨"ClockParliament", "foresee", "(I)V"⟩, 12), (⟨"ClockParliament$Clocks", "goOn", "(II)V"⟩, 5), (⟨"ClockParliament$Bills", "placeAfter", "(II)I"⟩, 6), (⟨"ClockParliament$Bills", "isAheadAsBack", "(II)Z"⟩, 6), (⟨"ClockParliament", "areBillsTold", "()Z"⟩, 12), (⟨"java/lang/Throwable", "fillInStackTrace", "(I)Ljava/lang/Throwable;"⟩, 6), (⟨"ClockParliament", "startLine", "(I)V"⟩, 12), (⟨"ClockParliament", "write", "(CI)V"⟩, 12), (⟨"ClockParliament", "change", "(LClockParliament$Kind;III)I"⟩, 12), (⟨"ClockParliament$House", "refusesClock", "(IILClockParliament$Refusal;)Z"⟩, 8), (⟨"ClockParliament$House", "refusesKey", "(IILClockParliament$Refusal;)Z"⟩, 8)]
theorem lw_r1 : ∀ q ∈ lw_privs_1, lw_okq q := List.forall_mem_cons.mpr ⟨lw_p0, List.forall_mem_cons.mpr ⟨lw_p1, List.forall_mem_cons.mpr ⟨lw_p2, List.forall_mem_cons.mpr ⟨lw_p3, List.forall_mem_cons.mpr ⟨lw_p4, List.forall_mem_cons.mpr ⟨lw_p5, List.forall_mem_cons.mpr ⟨lw_p6, List.forall_mem_cons.mpr ⟨lw_p7, List.forall_mem_cons.mpr ⟨lw_p8, List.forall_mem_cons.mpr ⟨lw_p9, List.forall_mem_cons.mpr ⟨lw_p10, List.forall_mem_cons.mpr ⟨lw_p11, List.forall_mem_cons.mpr ⟨lw_p12, List.forall_mem_cons.mpr ⟨lw_p13, List.forall_mem_cons.mpr ⟨lw_p14, List.forall_mem_cons.mpr ⟨lw_p15, fun _ h => absurd h List.not_mem_nil⟩⟩⟩⟩⟩⟩⟩⟩⟩⟩⟩⟩⟩⟩⟩⟩
theorem lw_p16 : lw_okq (⟨"ClockParliament$House", "refusesWinding", "(IILClockParliament$Refusal;)Z"⟩, 8) := ⟨⟨by decide +kernel, by decide +kernel⟩, List.mem_of_getElem? (i := 47) (by decide +kernel), List.mem_of_getElem? (i := 950) (by decide +kernel), List.mem_of_getElem? (i := 951) (by decide +kernel)⟩
theorem lw_p17 : lw_okq (⟨"ClockParliament$House", "refusesMove", "(IILClockParliament$Refusal;)Z"⟩, 8) := ⟨⟨by decide +kernel, by decide +kernel⟩, List.mem_of_getElem? (i := 47) (by decide +kernel), List.mem_of_getElem? (i := 963) (by decide +kernel), List.mem_of_getElem? (i := 964) (by decide +kernel)⟩
theorem lw_p18 : lw_okq (⟨"ClockParliament$House", "refusesBill", "(IIILClockParliament$Refusal;)Z"⟩, 8) := ⟨⟨by decide +kernel, by decide +kernel⟩, List.mem_of_getElem? (i := 47) (by decide +kernel), List.mem_of_getElem? (i := 971) (by decide +kernel), List.mem_of_getElem? (i := 972) (by decide +kernel)⟩
theorem lw_p19 : lw_okq (⟨"ClockParliament$House", "refusesAdjourning", "(IILClockParliament$Refusal;)Z"⟩, 8) := ⟨⟨by decide +kernel, by decide +kernel⟩, List.mem_of_getElem? (i := 47) (by decide +kernel), List.mem_of_getElem? (i := 976) (by decide +kernel), List.mem_of_getElem? (i := 977) (by decide +kernel)⟩
theorem lw_p20 : lw_okq (⟨"ClockParliament$History", "placeOfLatest", "()I"⟩, 3) := ⟨⟨by decide +kernel, by decide +kernel⟩, List.mem_of_getElem? (i := 180) (by decide +kernel), List.mem_of_getElem? (i := 1023) (by decide +kernel), List.mem_of_getElem? (i := 1024) (by decide +kernel)⟩
theorem lw_p21 : lw_okq (⟨"ClockParliament$House", "sendAway", "(I)I"⟩, 8) := ⟨⟨by decide +kernel, by decide +kernel⟩, List.mem_of_getElem? (i := 47) (by decide +kernel), List.mem_of_getElem? (i := 1039) (by decide +kernel), List.mem_of_getElem? (i := 1040) (by decide +kernel)⟩
theorem lw_p22 : lw_okq (⟨"ClockParliament$House", "holdVote", "()I"⟩, 8) := ⟨⟨by decide +kernel, by decide +kernel⟩, List.mem_of_getElem? (i := 47) (by decide +kernel), List.mem_of_getElem? (i := 1086) (by decide +kernel), List.mem_of_getElem? (i := 1087) (by decide +kernel)⟩
theorem lw_p23 : lw_okq (⟨"ClockParliament", "checkClock", "(I)V"⟩, 12) := ⟨⟨by decide +kernel, by decide +kernel⟩, List.mem_of_getElem? (i := 39) (by decide +kernel), List.mem_of_getElem? (i := 1192) (by decide +kernel), List.mem_of_getElem? (i := 1193) (by decide +kernel)⟩
theorem lw_p24 : lw_okq (⟨"ClockParliament", "checkBill", "(I)V"⟩, 12) := ⟨⟨by decide +kernel, by decide +kernel⟩, List.mem_of_getElem? (i := 39) (by decide +kernel), List.mem_of_getElem? (i := 1226) (by decide +kernel), List.mem_of_getElem? (i := 1227) (by decide +kernel)⟩
theorem lw_p25 : lw_okq (⟨"ClockParliament", "billAt", "(LClockParliament$Numbers;I)I"⟩, 12) := ⟨⟨by decide +kernel, by decide +kernel⟩, List.mem_of_getElem? (i := 39) (by decide +kernel), List.mem_of_getElem? (i := 1265) (by decide +kernel), List.mem_of_getElem? (i := 1266) (by decide +kernel)⟩
theorem lw_p26 : lw_okq (⟨"ClockParliament", "checkRange", "(II)V"⟩, 12) := ⟨⟨by decide +kernel, by decide +kernel⟩, List.mem_of_getElem? (i := 39) (by decide +kernel), List.mem_of_getElem? (i := 1292) (by decide +kernel), List.mem_of_getElem? (i := 1293) (by decide +kernel)⟩
theorem lw_p27 : lw_okq (⟨"ClockParliament$Clocks", "valuesOf", "(I)LClockParliament$Numbers;"⟩, 5) := ⟨⟨by decide +kernel, by decide +kernel⟩, List.mem_of_getElem? (i := 53) (by decide +kernel), List.mem_of_getElem? (i := 1397) (by decide +kernel), List.mem_of_getElem? (i := 1398) (by decide +kernel)⟩
theorem lw_p28 : lw_okq (⟨"ClockParliament$Clocks", "rankIn", "(LClockParliament$Numbers;I)I"⟩, 5) := ⟨⟨by decide +kernel, by decide +kernel⟩, List.mem_of_getElem? (i := 53) (by decide +kernel), List.mem_of_getElem? (i := 1401) (by decide +kernel), List.mem_of_getElem? (i := 1402) (by decide +kernel)⟩
theorem lw_p29 : lw_okq (⟨"ClockParliament$OrderText", "readOrder", "(LClockParliament$Order;)Z"⟩, 3) := ⟨⟨by decide +kernel, by decide +kernel⟩, List.mem_of_getElem? (i := 200) (by decide +kernel), List.mem_of_getElem? (i := 1451) (by decide +kernel), List.mem_of_getElem? (i := 1452) (by decide +kernel)⟩
theorem lw_p30 : lw_okq (⟨"ClockParliament$OrderText", "here", "()C"⟩, 3) := ⟨⟨by decide +kernel, by decide +kernel⟩, List.mem_of_getElem? (i := 200) (by decide +kernel), List.mem_of_getElem? (i := 1455) (by decide +kernel), List.mem_of_getElem? (i := 1456) (by decide +kernel)⟩
theorem lw_p31 : lw_okq (⟨"ClockParliament$OrderText", "readPart", "(CLClockParliament$Order;)Z"⟩, 3) := ⟨⟨by decide +kernel, by decide +kernel⟩, List.mem_of_getElem? (i := 200) (by decide +kernel), List.mem_of_getElem? (i := 1541) (by decide +kernel), List.mem_of_getElem? (i := 1542) (by decide +kernel)⟩
def lw_privs_2 : List (MethodName × Nat) := [(⟨"ClockParliament$House", "refusesWinding", "(IILClockParliament$Refusal;)Z"⟩, 8), (⟨"ClockParliament$House", "refusesMove", "(IILClockParliament$Refusal;)Z"⟩, 8), (⟨"ClockParliament$House", "refusesBill", "(IIILClockParliament$Refusal;)Z"⟩, 8), (⟨"ClockParliament$House", "refusesAdjourning", "(IILClockParliament$Refusal;)Z"⟩, 8), (⟨"ClockParliament$History", "placeOfLatest", "()I"⟩, 3), (⟨"ClockParliament$House", "sendAway", "(I)I"⟩, 8), (⟨"ClockParliament$House", "holdVote", "()I"⟩, 8), (⟨"ClockParliament", "checkClock", "(I)V"⟩, 12), (⟨"ClockParliament", "checkBill", "(I)V"⟩, 12), (⟨"ClockParliament", "billAt", "(LClockParliament$Numbers;I)I"⟩, 12), (⟨"ClockParliament", "checkRange", "(II)V"⟩, 12), (⟨"ClockParliament$Clocks", "valuesOf", "(I)LClockParliament$Numbers;"⟩, 5), (⟨"ClockParliament$Clocks", "rankIn", "(LClockParliament$Numbers;I)I"⟩, 5), (⟨"ClockParliament$OrderText", "readOrder", "(LClockParliament$Order;)Z"⟩, 3), (⟨"ClockParliament$OrderText", "here", "()C"⟩, 3), (⟨"ClockParliament$OrderText", "readPart", "(CLClockParliament$Order;)Z"⟩, 3)]
theorem lw_r2 : ∀ q ∈ lw_privs_2, lw_okq q := List.forall_mem_cons.mpr ⟨lw_p16, List.forall_mem_cons.mpr ⟨lw_p17, List.forall_mem_cons.mpr ⟨lw_p18, List.forall_mem_cons.mpr ⟨lw_p19, List.forall_mem_cons.mpr ⟨lw_p20, List.forall_mem_cons.mpr ⟨lw_p21, List.forall_mem_cons.mpr ⟨lw_p22, List.forall_mem_cons.mpr ⟨lw_p23, List.forall_mem_cons.mpr ⟨lw_p24, List.forall_mem_cons.mpr ⟨lw_p25, List.forall_mem_cons.mpr ⟨lw_p26, List.forall_mem_cons.mpr ⟨lw_p27, List.forall_mem_cons.mpr ⟨lw_p28, List.forall_mem_cons.mpr ⟨lw_p29, List.forall_mem_cons.mpr ⟨lw_p30, List.forall_mem_cons.mpr ⟨lw_p31, fun _ h => absurd h List.not_mem_nil⟩⟩⟩⟩⟩⟩⟩⟩⟩⟩⟩⟩⟩⟩⟩⟩
theorem lw_p32 : lw_okq (⟨"ClockParliament$OrderText", "readDigit", "(LClockParliament$Order;)Z"⟩, 3) := ⟨⟨by decide +kernel, by decide +kernel⟩, List.mem_of_getElem? (i := 200) (by decide +kernel), List.mem_of_getElem? (i := 1545) (by decide +kernel), List.mem_of_getElem? (i := 1546) (by decide +kernel)⟩
theorem lw_p33 : lw_okq (⟨"ClockParliament$OrderText", "digitHere", "()I"⟩, 3) := ⟨⟨by decide +kernel, by decide +kernel⟩, List.mem_of_getElem? (i := 200) (by decide +kernel), List.mem_of_getElem? (i := 1549) (by decide +kernel), List.mem_of_getElem? (i := 1550) (by decide +kernel)⟩
theorem lw_p34 : lw_okq (⟨"ClockParliament$OrderText", "readNumber", "(LClockParliament$Order;)Z"⟩, 3) := ⟨⟨by decide +kernel, by decide +kernel⟩, List.mem_of_getElem? (i := 200) (by decide +kernel), List.mem_of_getElem? (i := 1553) (by decide +kernel), List.mem_of_getElem? (i := 1554) (by decide +kernel)⟩
theorem lw_p35 : lw_okq (⟨"ClockParliament$OrderText", "readNobody", "(LClockParliament$Order;)Z"⟩, 3) := ⟨⟨by decide +kernel, by decide +kernel⟩, List.mem_of_getElem? (i := 200) (by decide +kernel), List.mem_of_getElem? (i := 1557) (by decide +kernel), List.mem_of_getElem? (i := 1558) (by decide +kernel)⟩
theorem lw_p36 : lw_okq (⟨"ClockParliament$OrderText", "skip", "(C)Z"⟩, 3) := ⟨⟨by decide +kernel, by decide +kernel⟩, List.mem_of_getElem? (i := 200) (by decide +kernel), List.mem_of_getElem? (i := 1561) (by decide +kernel), List.mem_of_getElem? (i := 1562) (by decide +kernel)⟩
theorem lw_p37 : lw_okq (⟨"ClockParliamentModel", "looksBack", "()V"⟩, 20) := ⟨⟨by decide +kernel, by decide +kernel⟩, List.mem_of_getElem? (i := 1681) (by decide +kernel), List.mem_of_getElem? (i := 1757) (by decide +kernel), List.mem_of_getElem? (i := 1758) (by decide +kernel)⟩
theorem lw_p38 : lw_okq (⟨"ClockParliamentModel", "comes", "(II)I"⟩, 20) := ⟨⟨by decide +kernel, by decide +kernel⟩, List.mem_of_getElem? (i := 1681) (by decide +kernel), List.mem_of_getElem? (i := 1764) (by decide +kernel), List.mem_of_getElem? (i := 1765) (by decide +kernel)⟩
theorem lw_p39 : lw_okq (⟨"ClockParliamentModel", "refused", "(II)I"⟩, 20) := ⟨⟨by decide +kernel, by decide +kernel⟩, List.mem_of_getElem? (i := 1681) (by decide +kernel), List.mem_of_getElem? (i := 1774) (by decide +kernel), List.mem_of_getElem? (i := 1775) (by decide +kernel)⟩
theorem lw_p40 : lw_okq (⟨"ClockParliamentModel", "fails", "(I)I"⟩, 20) := ⟨⟨by decide +kernel, by decide +kernel⟩, List.mem_of_getElem? (i := 1681) (by decide +kernel), List.mem_of_getElem? (i := 1778) (by decide +kernel), List.mem_of_getElem? (i := 1779) (by decide +kernel)⟩
theorem lw_p41 : lw_okq (⟨"ClockParliamentModel", "done", "(I)I"⟩, 20) := ⟨⟨by decide +kernel, by decide +kernel⟩, List.mem_of_getElem? (i := 1681) (by decide +kernel), List.mem_of_getElem? (i := 1782) (by decide +kernel), List.mem_of_getElem? (i := 1783) (by decide +kernel)⟩
theorem lw_p42 : lw_okq (⟨"ClockParliamentModel", "kept", "(I)I"⟩, 20) := ⟨⟨by decide +kernel, by decide +kernel⟩, List.mem_of_getElem? (i := 1681) (by decide +kernel), List.mem_of_getElem? (i := 1786) (by decide +kernel), List.mem_of_getElem? (i := 1787) (by decide +kernel)⟩
theorem lw_p43 : lw_okq (⟨"ClockParliamentModel", "leaves", "(I)I"⟩, 20) := ⟨⟨by decide +kernel, by decide +kernel⟩, List.mem_of_getElem? (i := 1681) (by decide +kernel), List.mem_of_getElem? (i := 1794) (by decide +kernel), List.mem_of_getElem? (i := 1795) (by decide +kernel)⟩
theorem lw_p44 : lw_okq (⟨"ClockParliamentModel", "isClock", "(I)Z"⟩, 20) := ⟨⟨by decide +kernel, by decide +kernel⟩, List.mem_of_getElem? (i := 1681) (by decide +kernel), List.mem_of_getElem? (i := 1798) (by decide +kernel), List.mem_of_getElem? (i := 1799) (by decide +kernel)⟩
theorem lw_p45 : lw_okq (⟨"ClockParliamentModel", "closesUp", "(III)V"⟩, 20) := ⟨⟨by decide +kernel, by decide +kernel⟩, List.mem_of_getElem? (i := 1681) (by decide +kernel), List.mem_of_getElem? (i := 1805) (by decide +kernel), List.mem_of_getElem? (i := 1806) (by decide +kernel)⟩
theorem lw_p46 : lw_okq (⟨"ClockParliamentModel", "gives", "(II)I"⟩, 20) := ⟨⟨by decide +kernel, by decide +kernel⟩, List.mem_of_getElem? (i := 1681) (by decide +kernel), List.mem_of_getElem? (i := 1813) (by decide +kernel), List.mem_of_getElem? (i := 1814) (by decide +kernel)⟩
theorem lw_p47 : lw_okq (⟨"ClockParliamentModel", "winds", "(II)I"⟩, 20) := ⟨⟨by decide +kernel, by decide +kernel⟩, List.mem_of_getElem? (i := 1681) (by decide +kernel), List.mem_of_getElem? (i := 1824) (by decide +kernel), List.mem_of_getElem? (i := 1825) (by decide +kernel)⟩
def lw_privs_3 : List (MethodName × Nat) := [(⟨"ClockParliament$OrderText", "readDigit", "(LClockParliament$Order;)Z"⟩, 3), (⟨"ClockParliament$OrderText", "digitHere", "()I"⟩, 3), (⟨"ClockParliament$OrderText", "readNumber", "(LClockParliament$Order;)Z"⟩, 3), (⟨"ClockParliament$OrderText", "readNobody", "(LClockParliament$Order;)Z"⟩, 3), (⟨"ClockParliament$OrderText", "skip", "(C)Z"⟩, 3), (⟨"ClockParliamentModel", "looksBack", "()V"⟩, 20), (⟨"ClockParliamentModel", "comes", "(II)I"⟩, 20), (⟨"ClockParliamentModel", "refused", "(II)I"⟩, 20), (⟨"ClockParliamentModel", "fails", "(I)I"⟩, 20), (⟨"ClockParliamentModel", "done", "(I)I"⟩, 20), (⟨"ClockParliamentModel", "kept", "(I)I"⟩, 20), (⟨"ClockParliamentModel", "leaves", "(I)I"⟩, 20), (⟨"ClockParliamentModel", "isClock", "(I)Z"⟩, 20), (⟨"ClockParliamentModel", "closesUp", "(III)V"⟩, 20), (⟨"ClockParliamentModel", "gives", "(II)I"⟩, 20), (⟨"ClockParliamentModel", "winds", "(II)I"⟩, 20)]
theorem lw_r3 : ∀ q ∈ lw_privs_3, lw_okq q := List.forall_mem_cons.mpr ⟨lw_p32, List.forall_mem_cons.mpr ⟨lw_p33, List.forall_mem_cons.mpr ⟨lw_p34, List.forall_mem_cons.mpr ⟨lw_p35, List.forall_mem_cons.mpr ⟨lw_p36, List.forall_mem_cons.mpr ⟨lw_p37, List.forall_mem_cons.mpr ⟨lw_p38, List.forall_mem_cons.mpr ⟨lw_p39, List.forall_mem_cons.mpr ⟨lw_p40, List.forall_mem_cons.mpr ⟨lw_p41, List.forall_mem_cons.mpr ⟨lw_p42, List.forall_mem_cons.mpr ⟨lw_p43, List.forall_mem_cons.mpr ⟨lw_p44, List.forall_mem_cons.mpr ⟨lw_p45, List.forall_mem_cons.mpr ⟨lw_p46, List.forall_mem_cons.mpr ⟨lw_p47, fun _ h => absurd h List.not_mem_nil⟩⟩⟩⟩⟩⟩⟩⟩⟩⟩⟩⟩⟩⟩⟩⟩
theorem lw_p48 : lw_okq (⟨"ClockParliamentModel", "clocksApart", "(II)I"⟩, 20) := ⟨⟨by decide +kernel, by decide +kernel⟩, List.mem_of_getElem? (i := 1681) (by decide +kernel), List.mem_of_getElem? (i := 1828) (by decide +kernel), List.mem_of_getElem? (i := 1829) (by decide +kernel)⟩
theorem lw_p49 : lw_okq (⟨"ClockParliamentModel", "moves", "(II)I"⟩, 20) := ⟨⟨by decide +kernel, by decide +kernel⟩, List.mem_of_getElem? (i := 1681) (by decide +kernel), List.mem_of_getElem? (i := 1839) (by decide +kernel), List.mem_of_getElem? (i := 1840) (by decide +kernel)⟩
theorem lw_p50 : lw_okq (⟨"ClockParliamentModel", "tables", "(III)I"⟩, 20) := ⟨⟨by decide +kernel, by decide +kernel⟩, List.mem_of_getElem? (i := 1681) (by decide +kernel), List.mem_of_getElem? (i := 1847) (by decide +kernel), List.mem_of_getElem? (i := 1848) (by decide +kernel)⟩
theorem lw_p51 : lw_okq (⟨"ClockParliamentModel", "adjourns", "(II)I"⟩, 20) := ⟨⟨by decide +kernel, by decide +kernel⟩, List.mem_of_getElem? (i := 1681) (by decide +kernel), List.mem_of_getElem? (i := 1855) (by decide +kernel), List.mem_of_getElem? (i := 1856) (by decide +kernel)⟩
theorem lw_p52 : lw_okq (⟨"ClockParliamentModel", "isBill", "(I)Z"⟩, 20) := ⟨⟨by decide +kernel, by decide +kernel⟩, List.mem_of_getElem? (i := 1681) (by decide +kernel), List.mem_of_getElem? (i := 1859) (by decide +kernel), List.mem_of_getElem? (i := 1860) (by decide +kernel)⟩
theorem lw_p53 : lw_okq (⟨"ClockParliamentModel", "goesAway", "(II)V"⟩, 20) := ⟨⟨by decide +kernel, by decide +kernel⟩, List.mem_of_getElem? (i := 1681) (by decide +kernel), List.mem_of_getElem? (i := 1863) (by decide +kernel), List.mem_of_getElem? (i := 1864) (by decide +kernel)⟩
theorem lw_p54 : lw_okq (⟨"ClockParliamentModel", "leavesRow", "(I)V"⟩, 20) := ⟨⟨by decide +kernel, by decide +kernel⟩, List.mem_of_getElem? (i := 1681) (by decide +kernel), List.mem_of_getElem? (i := 1867) (by decide +kernel), List.mem_of_getElem? (i := 1868) (by decide +kernel)⟩
theorem lw_p55 : lw_okq (⟨"ClockParliamentModel", "placeOf", "(I)I"⟩, 20) := ⟨⟨by decide +kernel, by decide +kernel⟩, List.mem_of_getElem? (i := 1681) (by decide +kernel), List.mem_of_getElem? (i := 1871) (by decide +kernel), List.mem_of_getElem? (i := 1872) (by decide +kernel)⟩
theorem lw_p56 : lw_okq (⟨"ClockParliamentModel", "awayOnes", "()I"⟩, 20) := ⟨⟨by decide +kernel, by decide +kernel⟩, List.mem_of_getElem? (i := 1681) (by decide +kernel), List.mem_of_getElem? (i := 1875) (by decide +kernel), List.mem_of_getElem? (i := 1876) (by decide +kernel)⟩
theorem lw_p57 : lw_okq (⟨"ClockParliamentModel", "drops", "(I)I"⟩, 20) := ⟨⟨by decide +kernel, by decide +kernel⟩, List.mem_of_getElem? (i := 1681) (by decide +kernel), List.mem_of_getElem? (i := 1883) (by decide +kernel), List.mem_of_getElem? (i := 1884) (by decide +kernel)⟩
theorem lw_p58 : lw_okq (⟨"ClockParliamentModel", "isDoneWith", "(I)V"⟩, 20) := ⟨⟨by decide +kernel, by decide +kernel⟩, List.mem_of_getElem? (i := 1681) (by decide +kernel), List.mem_of_getElem? (i := 1887) (by decide +kernel), List.mem_of_getElem? (i := 1888) (by decide +kernel)⟩
theorem lw_p59 : lw_okq (⟨"ClockParliamentModel", "votes", "()I"⟩, 20) := ⟨⟨by decide +kernel, by decide +kernel⟩, List.mem_of_getElem? (i := 1681) (by decide +kernel), List.mem_of_getElem? (i := 1895) (by decide +kernel), List.mem_of_getElem? (i := 1896) (by decide +kernel)⟩
theorem lw_p60 : lw_okq (⟨"ClockParliamentModel", "votersOn", "(I)I"⟩, 20) := ⟨⟨by decide +kernel, by decide +kernel⟩, List.mem_of_getElem? (i := 1681) (by decide +kernel), List.mem_of_getElem? (i := 1899) (by decide +kernel), List.mem_of_getElem? (i := 1900) (by decide +kernel)⟩
theorem lw_p61 : lw_okq (⟨"ClockParliamentModel", "majorityOf", "(I)I"⟩, 20) := ⟨⟨by decide +kernel, by decide +kernel⟩, List.mem_of_getElem? (i := 1681) (by decide +kernel), List.mem_of_getElem? (i := 1903) (by decide +kernel), List.mem_of_getElem? (i := 1904) (by decide +kernel)⟩
theorem lw_p62 : lw_okq (⟨"ClockParliamentModel", "chime", "(I)V"⟩, 20) := ⟨⟨by decide +kernel, by decide +kernel⟩, List.mem_of_getElem? (i := 1681) (by decide +kernel), List.mem_of_getElem? (i := 1907) (by decide +kernel), List.mem_of_getElem? (i := 1908) (by decide +kernel)⟩
theorem lw_p63 : lw_okq (⟨"ClockParliamentModel", "hoursGo", "(I)I"⟩, 20) := ⟨⟨by decide +kernel, by decide +kernel⟩, List.mem_of_getElem? (i := 1681) (by decide +kernel), List.mem_of_getElem? (i := 1915) (by decide +kernel), List.mem_of_getElem? (i := 1916) (by decide +kernel)⟩
def lw_privs_4 : List (MethodName × Nat) := [(⟨"ClockParliamentModel", "clocksApart", "(II)I"⟩, 20), (⟨"ClockParliamentModel", "moves", "(II)I"⟩, 20), (⟨"ClockParliamentModel", "tables", "(III)I"⟩, 20), (⟨"ClockParliamentModel", "adjourns", "(II)I"⟩, 20), (⟨"ClockParliamentModel", "isBill", "(I)Z"⟩, 20), (⟨"ClockParliamentModel", "goesAway", "(II)V"⟩, 20), (⟨"ClockParliamentModel", "leavesRow", "(I)V"⟩, 20), (⟨"ClockParliamentModel", "placeOf", "(I)I"⟩, 20), (⟨"ClockParliamentModel", "awayOnes", "()I"⟩, 20), (⟨"ClockParliamentModel", "drops", "(I)I"⟩, 20), (⟨"ClockParliamentModel", "isDoneWith", "(I)V"⟩, 20), (⟨"ClockParliamentModel", "votes", "()I"⟩, 20), (⟨"ClockParliamentModel", "votersOn", "(I)I"⟩, 20), (⟨"ClockParliamentModel", "majorityOf", "(I)I"⟩, 20), (⟨"ClockParliamentModel", "chime", "(I)V"⟩, 20), (⟨"ClockParliamentModel", "hoursGo", "(I)I"⟩, 20)]
theorem lw_r4 : ∀ q ∈ lw_privs_4, lw_okq q := List.forall_mem_cons.mpr ⟨lw_p48, List.forall_mem_cons.mpr ⟨lw_p49, List.forall_mem_cons.mpr ⟨lw_p50, List.forall_mem_cons.mpr ⟨lw_p51, List.forall_mem_cons.mpr ⟨lw_p52, List.forall_mem_cons.mpr ⟨lw_p53, List.forall_mem_cons.mpr ⟨lw_p54, List.forall_mem_cons.mpr ⟨lw_p55, List.forall_mem_cons.mpr ⟨lw_p56, List.forall_mem_cons.mpr ⟨lw_p57, List.forall_mem_cons.mpr ⟨lw_p58, List.forall_mem_cons.mpr ⟨lw_p59, List.forall_mem_cons.mpr ⟨lw_p60, List.forall_mem_cons.mpr ⟨lw_p61, List.forall_mem_cons.mpr ⟨lw_p62, List.forall_mem_cons.mpr ⟨lw_p63, fun _ h => absurd h List.not_mem_nil⟩⟩⟩⟩⟩⟩⟩⟩⟩⟩⟩⟩⟩⟩⟩⟩
theorem lw_p64 : lw_okq (⟨"ClockParliamentModel", "hourGoes", "()I"⟩, 20) := ⟨⟨by decide +kernel, by decide +kernel⟩, List.mem_of_getElem? (i := 1681) (by decide +kernel), List.mem_of_getElem? (i := 1919) (by decide +kernel), List.mem_of_getElem? (i := 1920) (by decide +kernel)⟩
theorem lw_p65 : lw_okq (⟨"ClockParliamentModel", "comeBack", "()I"⟩, 20) := ⟨⟨by decide +kernel, by decide +kernel⟩, List.mem_of_getElem? (i := 1681) (by decide +kernel), List.mem_of_getElem? (i := 1923) (by decide +kernel), List.mem_of_getElem? (i := 1924) (by decide +kernel)⟩
theorem lw_p66 : lw_okq (⟨"ClockParliamentModel", "standsFirst", "(I)V"⟩, 20) := ⟨⟨by decide +kernel, by decide +kernel⟩, List.mem_of_getElem? (i := 1681) (by decide +kernel), List.mem_of_getElem? (i := 1927) (by decide +kernel), List.mem_of_getElem? (i := 1928) (by decide +kernel)⟩
theorem lw_p67 : lw_okq (⟨"ClockParliamentModel", "keysOf", "(I)I"⟩, 20) := ⟨⟨by decide +kernel, by decide +kernel⟩, List.mem_of_getElem? (i := 1681) (by decide +kernel), List.mem_of_getElem? (i := 1935) (by decide +kernel), List.mem_of_getElem? (i := 1936) (by decide +kernel)⟩
theorem lw_p68 : lw_okq (⟨"ClockParliamentModel", "billsOf", "(I)I"⟩, 20) := ⟨⟨by decide +kernel, by decide +kernel⟩, List.mem_of_getElem? (i := 1681) (by decide +kernel), List.mem_of_getElem? (i := 1939) (by decide +kernel), List.mem_of_getElem? (i := 1940) (by decide +kernel)⟩
theorem lw_p69 : lw_okq (⟨"ClockParliamentModel", "agreeing", "(I)I"⟩, 20) := ⟨⟨by decide +kernel, by decide +kernel⟩, List.mem_of_getElem? (i := 1681) (by decide +kernel), List.mem_of_getElem? (i := 1943) (by decide +kernel), List.mem_of_getElem? (i := 1944) (by decide +kernel)⟩
theorem lw_p70 : lw_okq (⟨"ClockParliamentModel", "rowBehind", "(II)I"⟩, 20) := ⟨⟨by decide +kernel, by decide +kernel⟩, List.mem_of_getElem? (i := 1681) (by decide +kernel), List.mem_of_getElem? (i := 1971) (by decide +kernel), List.mem_of_getElem? (i := 1972) (by decide +kernel)⟩
theorem lw_p71 : lw_okq (⟨"ClockParliamentModel", "carries", "(I)Z"⟩, 20) := ⟨⟨by decide +kernel, by decide +kernel⟩, List.mem_of_getElem? (i := 1681) (by decide +kernel), List.mem_of_getElem? (i := 2009) (by decide +kernel), List.mem_of_getElem? (i := 2010) (by decide +kernel)⟩
theorem lw_p72 : lw_okq (⟨"ClockParliamentModel", "circleOf", "(I)I"⟩, 20) := ⟨⟨by decide +kernel, by decide +kernel⟩, List.mem_of_getElem? (i := 1681) (by decide +kernel), List.mem_of_getElem? (i := 2025) (by decide +kernel), List.mem_of_getElem? (i := 2026) (by decide +kernel)⟩
theorem lw_p73 : lw_okq (⟨"ClockParliamentModel", "readsOrder", "(I)V"⟩, 20) := ⟨⟨by decide +kernel, by decide +kernel⟩, List.mem_of_getElem? (i := 1681) (by decide +kernel), List.mem_of_getElem? (i := 2045) (by decide +kernel), List.mem_of_getElem? (i := 2046) (by decide +kernel)⟩
theorem lw_p74 : lw_okq (⟨"ClockParliamentModel", "here", "()I"⟩, 20) := ⟨⟨by decide +kernel, by decide +kernel⟩, List.mem_of_getElem? (i := 1681) (by decide +kernel), List.mem_of_getElem? (i := 2049) (by decide +kernel), List.mem_of_getElem? (i := 2050) (by decide +kernel)⟩
theorem lw_p75 : lw_okq (⟨"ClockParliamentModel", "needsThree", "(III)V"⟩, 20) := ⟨⟨by decide +kernel, by decide +kernel⟩, List.mem_of_getElem? (i := 1681) (by decide +kernel), List.mem_of_getElem? (i := 2053) (by decide +kernel), List.mem_of_getElem? (i := 2054) (by decide +kernel)⟩
theorem lw_p76 : lw_okq (⟨"ClockParliamentModel", "needs", "(I)V"⟩, 20) := ⟨⟨by decide +kernel, by decide +kernel⟩, List.mem_of_getElem? (i := 1681) (by decide +kernel), List.mem_of_getElem? (i := 2057) (by decide +kernel), List.mem_of_getElem? (i := 2058) (by decide +kernel)⟩
theorem lw_p77 : lw_okq (⟨"ClockParliamentModel", "figures", "(I)I"⟩, 20) := ⟨⟨by decide +kernel, by decide +kernel⟩, List.mem_of_getElem? (i := 1681) (by decide +kernel), List.mem_of_getElem? (i := 2061) (by decide +kernel), List.mem_of_getElem? (i := 2062) (by decide +kernel)⟩
theorem lw_p78 : lw_okq (⟨"ClockParliamentModel", "readsKey", "(I)V"⟩, 20) := ⟨⟨by decide +kernel, by decide +kernel⟩, List.mem_of_getElem? (i := 1681) (by decide +kernel), List.mem_of_getElem? (i := 2065) (by decide +kernel), List.mem_of_getElem? (i := 2066) (by decide +kernel)⟩
theorem lw_p79 : lw_okq (⟨"ClockParliamentModel", "readsAdjourn", "(I)V"⟩, 20) := ⟨⟨by decide +kernel, by decide +kernel⟩, List.mem_of_getElem? (i := 1681) (by decide +kernel), List.mem_of_getElem? (i := 2069) (by decide +kernel), List.mem_of_getElem? (i := 2070) (by decide +kernel)⟩
def lw_privs_5 : List (MethodName × Nat) := [(⟨"ClockParliamentModel", "hourGoes", "()I"⟩, 20), (⟨"ClockParliamentModel", "comeBack", "()I"⟩, 20), (⟨"ClockParliamentModel", "standsFirst", "(I)V"⟩, 20), (⟨"ClockParliamentModel", "keysOf", "(I)I"⟩, 20), (⟨"ClockParliamentModel", "billsOf", "(I)I"⟩, 20), (⟨"ClockParliamentModel", "agreeing", "(I)I"⟩, 20), (⟨"ClockParliamentModel", "rowBehind", "(II)I"⟩, 20), (⟨"ClockParliamentModel", "carries", "(I)Z"⟩, 20), (⟨"ClockParliamentModel", "circleOf", "(I)I"⟩, 20), (⟨"ClockParliamentModel", "readsOrder", "(I)V"⟩, 20), (⟨"ClockParliamentModel", "here", "()I"⟩, 20), (⟨"ClockParliamentModel", "needsThree", "(III)V"⟩, 20), (⟨"ClockParliamentModel", "needs", "(I)V"⟩, 20), (⟨"ClockParliamentModel", "figures", "(I)I"⟩, 20), (⟨"ClockParliamentModel", "readsKey", "(I)V"⟩, 20), (⟨"ClockParliamentModel", "readsAdjourn", "(I)V"⟩, 20)]
theorem lw_r5 : ∀ q ∈ lw_privs_5, lw_okq q := List.forall_mem_cons.mpr ⟨lw_p64, List.forall_mem_cons.mpr ⟨lw_p65, List.forall_mem_cons.mpr ⟨lw_p66, List.forall_mem_cons.mpr ⟨lw_p67, List.forall_mem_cons.mpr ⟨lw_p68, List.forall_mem_cons.mpr ⟨lw_p69, List.forall_mem_cons.mpr ⟨lw_p70, List.forall_mem_cons.mpr ⟨lw_p71, List.forall_mem_cons.mpr ⟨lw_p72, List.forall_mem_cons.mpr ⟨lw_p73, List.forall_mem_cons.mpr ⟨lw_p74, List.forall_mem_cons.mpr ⟨lw_p75, List.forall_mem_cons.mpr ⟨lw_p76, List.forall_mem_cons.mpr ⟨lw_p77, List.forall_mem_cons.mpr ⟨lw_p78, List.forall_mem_cons.mpr ⟨lw_p79, fun _ h => absurd h List.not_mem_nil⟩⟩⟩⟩⟩⟩⟩⟩⟩⟩⟩⟩⟩⟩⟩⟩
theorem lw_p80 : lw_okq (⟨"ClockParliamentModel", "does", "(I)I"⟩, 20) := ⟨⟨by decide +kernel, by decide +kernel⟩, List.mem_of_getElem? (i := 1681) (by decide +kernel), List.mem_of_getElem? (i := 2073) (by decide +kernel), List.mem_of_getElem? (i := 2074) (by decide +kernel)⟩
theorem lw_p81 : lw_okq (⟨"ClockParliamentModel", "refusesText", "(I)I"⟩, 20) := ⟨⟨by decide +kernel, by decide +kernel⟩, List.mem_of_getElem? (i := 1681) (by decide +kernel), List.mem_of_getElem? (i := 2077) (by decide +kernel), List.mem_of_getElem? (i := 2078) (by decide +kernel)⟩
theorem lw_p82 : lw_okq (⟨"ClockParliamentModel", "writes", "(I)V"⟩, 20) := ⟨⟨by decide +kernel, by decide +kernel⟩, List.mem_of_getElem? (i := 1681) (by decide +kernel), List.mem_of_getElem? (i := 2093) (by decide +kernel), List.mem_of_getElem? (i := 2094) (by decide +kernel)⟩
theorem lw_p83 : lw_okq (⟨"ClockParliamentModel", "writesBehind", "(II)V"⟩, 20) := ⟨⟨by decide +kernel, by decide +kernel⟩, List.mem_of_getElem? (i := 1681) (by decide +kernel), List.mem_of_getElem? (i := 2097) (by decide +kernel), List.mem_of_getElem? (i := 2098) (by decide +kernel)⟩
theorem lw_p84 : lw_okq (⟨"ClockParliamentModel", "silent", "()I"⟩, 20) := ⟨⟨by decide +kernel, by decide +kernel⟩, List.mem_of_getElem? (i := 1681) (by decide +kernel), List.mem_of_getElem? (i := 2117) (by decide +kernel), List.mem_of_getElem? (i := 2118) (by decide +kernel)⟩
theorem lw_p85 : lw_okq (⟨"ClockParliamentModel", "springs", "()I"⟩, 20) := ⟨⟨by decide +kernel, by decide +kernel⟩, List.mem_of_getElem? (i := 1681) (by decide +kernel), List.mem_of_getElem? (i := 2121) (by decide +kernel), List.mem_of_getElem? (i := 2122) (by decide +kernel)⟩
def lw_privs_6 : List (MethodName × Nat) := [(⟨"ClockParliamentModel", "does", "(I)I"⟩, 20), (⟨"ClockParliamentModel", "refusesText", "(I)I"⟩, 20), (⟨"ClockParliamentModel", "writes", "(I)V"⟩, 20), (⟨"ClockParliamentModel", "writesBehind", "(II)V"⟩, 20), (⟨"ClockParliamentModel", "silent", "()I"⟩, 20), (⟨"ClockParliamentModel", "springs", "()I"⟩, 20)]
theorem lw_r6 : ∀ q ∈ lw_privs_6, lw_okq q := List.forall_mem_cons.mpr ⟨lw_p80, List.forall_mem_cons.mpr ⟨lw_p81, List.forall_mem_cons.mpr ⟨lw_p82, List.forall_mem_cons.mpr ⟨lw_p83, List.forall_mem_cons.mpr ⟨lw_p84, List.forall_mem_cons.mpr ⟨lw_p85, fun _ h => absurd h List.not_mem_nil⟩⟩⟩⟩⟩⟩
def lw_privs : List (MethodName × Nat) := lw_privs_1 ++ (lw_privs_2 ++ (lw_privs_3 ++ (lw_privs_4 ++ (lw_privs_5 ++ (lw_privs_6)))))
def lw_tbl : List Cond := k2_sels lw_privs ++ tables_1
theorem lw_privs_ok : ∀ q ∈ lw_privs, lw_okq q := by
  show ∀ q ∈ lw_privs_1 ++ (lw_privs_2 ++ (lw_privs_3 ++ (lw_privs_4 ++ (lw_privs_5 ++ (lw_privs_6))))), lw_okq q
  exact List.forall_mem_append.mpr ⟨lw_r1, List.forall_mem_append.mpr ⟨lw_r2, List.forall_mem_append.mpr ⟨lw_r3, List.forall_mem_append.mpr ⟨lw_r4, List.forall_mem_append.mpr ⟨lw_r5, lw_r6⟩⟩⟩⟩⟩
/-- the streams that the claim lets the run draw from -/
abbrev lw_cs : List Choice := [Jvm.Choice.named "NaN.bits"]
theorem lw_bits : nanBits ∈ lw_cs := by first | decide | exact List.mem_cons_self | simp [lw_cs, nanBits]
end
section
/-! ===== BEGIN words of one list among another's, by their places ===== -/
theorem goodIn_r {big : List Cond} (ws : List Cond) (ps : List Nat) (hp : ws = ps.filterMap (fun i => big[i]?)) (h : ws.all goodWord = true) : GoodIn big ws := by
  intro w hw
  have h1 := List.all_eq_true.mp h w hw
  rw [hp] at hw
  obtain ⟨i, -, hi⟩ := List.mem_filterMap.mp hw
  have hm : w ∈ big := by first | exact List.mem_of_getElem? hi | exact List.getElem?_mem hi
  exact ⟨hm, good_of_word h1⟩
theorem goodIn_app {big a b : List Cond} (ha : GoodIn big a) (hb : GoodIn big b) : GoodIn big (a ++ b) := fun w h => (List.mem_append.mp h).elim (ha w) (hb w)
theorem goodIn_ca {big a b : List Cond} {c : Cond} (ha : GoodIn big (c :: a)) (hb : GoodIn big b) : GoodIn big (c :: (a ++ b)) := fun w h => (List.mem_cons.mp h).elim (fun e => ha w (List.mem_cons.mpr (Or.inl e))) (fun h => (List.mem_append.mp h).elim (fun h => ha w (List.mem_cons.mpr (Or.inr h))) (hb w))
theorem goodIn_sub {big ws : List Cond} (hm : ∀ w ∈ ws, w ∈ big) (h : ws.all goodWord = true) : GoodIn big ws := fun w hw => ⟨hm w hw, good_of_word (List.all_eq_true.mp h w hw)⟩
/-! ===== END ===== -/
/-! ===== BEGIN exceptions that leave a method, and their catching by the caller (launches without stack traces) ===== -/
section VXA
/-! The laws vx_back, vx_callV, vx_callS, vx_callSW, vx_throw0, vx_throwS follow proofs of the library, with one case more: JvmDerived/Free/Laws.lean (Back.of_free), Shelf42/LK1.lean (callV, callS), Shelf/KitTraced.lean (throwNew0V, throwNewS). -/
/-- where a method has thrown q: the class by its name, the cell, what was written, the world -/
def vx_T (XC : String → State → State → Prop) (st : State) (q : Addr) (t : State) (mc ms : Nat) (free : Addr → Prop) : Prop :=
  ∃ (E : String) (ce : Cell) (L : List Loc), XC E st t ∧ t.heap[q]? = some ce ∧ ce.vm = .none ∧ st.vm.findClass E = some ce.cls ∧ st.WarmedH t.vm ∧ st.sameButNew ({ t with vm := st.vm } : State) L mc ms ∧ ∀ z ∈ L, free z.base
def vx_Q (Qc : Array Value → State → Outcome → State → Prop) (XC : String → State → State → Prop) (mc ms : Nat) (free : Addr → Prop) : Array Value → State → Outcome → State → Prop := fun a st o t =>
  (Qc a st o t ∧ ∃ L, FrameEnd st o t L mc ms ∧ ∀ q ∈ L, free q.base) ∨ ∃ q, o = .threw q ∧ vx_T XC st q t mc ms free
/-- a callee that returns or throws -/
def vx_Met (l : Launch) (y : MethodName) (ws : List Cond) (rm : Room) (Pc : Array Value → State → Prop) (Qc : Array Value → State → Outcome → State → Prop) (XC : String → State → State → Prop) (mc ms : Nat) (free : Addr → Prop) : Prop :=
  MetFree l y (headSpec ws rm) Pc (fun _ _ _ _ _ => True) (vx_Q Qc XC mc ms free)
def vx_Post (XC : String → State → State → Prop) (mc ms : Nat) (free : Addr → Prop) : Pt → Array Value → Addr → Pt → Prop := fun A a q B =>
  ∃ (g : JFrame) (mk : MethodId) (t : State) (L : List Loc) (E : String) (ce : Cell), B.U.heap = t.heap ∧ B.U.vm = t.vm ∧ XC E (A.U.calling g mk a) t ∧ t.heap[q]? = some ce ∧ ce.vm = .none ∧ A.U.vm.findClass E = some ce.cls ∧ B.locs = A.locs ++ L ∧ (∀ z ∈ L, free z.base) ∧ B.cells = A.cells + mc ∧ B.slots = A.slots + ms
def vx_Back (l : Launch) (R : Room) (p : Program) (e : Env) (below : List Frame) (s : State) (sargs : Array Value) (y : MethodName) (len W9 : Nat)
    (Pre : Pt → Array Value → Prop) (Post : Pt → Array Value → Option Value → Pt → Prop) (PostX : Pt → Array Value → Addr → Pt → Prop) : Prop :=
  ∀ (m : MethodId) (meth : Method) (c : Code) (A : Pt) (g : JFrame) (ig : Instr) (mk : MethodId) (a : Array Value),
    Stand p l e R s m sargs below meth c A.U A.locs A.cells A.slots → g.method = m → g.locals.size = c.maxLocals → decode c.code g.pc = .ok (ig, len) →
    2 * g.monitorRoom + (g.stack.map fun v => v.category).sum ≤ W9 → A.U.methodNamed? y = some mk → Pre A a →
    (∃ (v : Option Value) (B : Pt), Stand p l e R s m sargs below meth c B.U B.locs B.cells B.slots ∧ Post A a v B ∧
      Steps p.tables e below (doInvoke e (A.U.setTop g) [] mk a).1 (B.U.setTop { g with pc := g.pc + len, stack := v.toList ++ g.stack })) ∨
    (∃ (q : Addr) (B : Pt), Stand p l e R s m sargs below meth c B.U B.locs B.cells B.slots ∧ PostX A a q B ∧
      Steps p.tables e below (doInvoke e (A.U.setTop g) [] mk a).1 ((B.U.setTop g).pushFrame (.throwing q)))
section Payer
variable {l : Launch} {R : Room} {p : Program} {e : Env} {below : List Frame} {s : State} {sargs : Array Value} {y : MethodName} {len W9 : Nat}
theorem vx_back {ws : List Cond} {rm : Room} {Pc : Array Value → State → Prop} {Qc : Array Value → State → Outcome → State → Prop} {XC : String → State → State → Prop} {mc ms : Nat} {free : Addr → Prop} {bytes : ByteArray} {maxL : Nat} {ret : Option FieldType}
    (hM : vx_Met l y ws rm Pc Qc XC mc ms free) (hblind : FrameBlind Pc) (hrc : rm.cells = mc) (hrs : rm.slots = ms)
    (hframes : rm.frames + 1 ≤ R.frames) (hlocals : W9 + (maxL + 11) + rm.locals ≤ R.locals)
    (hws : ∀ w ∈ ws, ∀ a' U, s.WarmedH U.vm → w.before a' U = true) (hcode : Cond.code y bytes maxL ret ∈ ws) (hinit : ∀ a' U, s.WarmedH U.vm → (Cond.initialized y.cls).before a' U = true) :
    vx_Back l R p e below s sargs y len W9 (PreOf R mc ms Pc) (PostOf Qc mc ms free) (vx_Post XC mc ms free) := by
  intro m meth c A g ig mk a X hg hsize hdg hW hn hp
  have h1 : (headSpec ws rm).pre.before a A.U = true := atoms_intro fun w hw => hws w hw _ _ X.warmed
  have h2 : (Cond.code y bytes maxL ret).before a A.U = true := hws _ hcode _ _ X.warmed
  have h3 : (Cond.initialized y.cls).before a A.U = true := hinit _ _ X.warmed
  have h4 : A.cells + (headSpec ws rm).room.cells ≤ R.cells := by rw [show (headSpec ws rm).room.cells = mc from hrc]; exact hp.1
  have h5 : A.slots + (headSpec ws rm).room.slots ≤ R.slots := by rw [show (headSpec ws rm).room.slots = ms from hrs]; exact hp.2.1
  have hPc : Pc a (A.U.calling g mk a) := hblind _ _ _ _ hp.2.2
  obtain ⟨U, Ls, c0, s0⟩ := A
  dsimp only [Pt.U, Pt.locs, Pt.cells, Pt.slots] at h1 h2 h3 h4 h5 X hn hPc ⊢
  obtain ⟨methY, cY, hmY, hcY, -, hlY, -, -, -, -⟩ := Cond.code_spec hn h2
  obtain ⟨kY, hkY, -⟩ := className_of_methodNamed hn
  have hinitY : kY.init = .initialized := Cond.initialized_spec (findClass_of_methodNamed hn) hkY h3
  have h : At U g.method c below := by rw [hg]; exact X.here
  have hlocals9 : W9 + (maxL + 11) + (headSpec ws rm).room.locals ≤ R.locals := hlocals
  have happ : (headSpec ws rm).appliesLoose y e.platform (U.calling g mk a) = true :=
    Spec.appliesLoose_calling (g := g) h hdg hn hkY hinitY
      (X.room_calling (g := g) (R' := (headSpec ws rm).room) hsize hmY hcY hframes (by rw [hlY]; omega) h4 h5) h1
  obtain ⟨mid, hmid⟩ := h.above
  have hfr : (U.setTop g).frames = (.java g :: mid) ++ below := by rw [State.frames_setTop' g h.top, hmid]; rfl
  obtain ⟨o, s₂, hsteps, -, hend, hq⟩ := Steps.callFree hM p X.admits X.cas X.clock (acts := []) hfr happ hPc trivial
  have hq' : vx_Q Qc XC mc ms free a (U.calling g mk a) o s₂ := hq
  rw [State.frames_setTop' g h.top] at hend
  obtain ⟨g₀, hg0⟩ := Option.isSome_iff_exists.mp h.top
  obtain ⟨r, hr⟩ := State.topJava?_eq_some.mp hg0
  have hr' : (({ U with heap := s₂.heap, slotsUsed := s₂.slotsUsed } : State).setVm s₂.vm).frames = .java g₀ :: r := hr
  rcases hq' with ⟨hqc, L, hfe, hL⟩ | ⟨q, rfl, E, ce, L, hx, hce, hcv, hcl, hW₂, hsm, hL⟩
  · obtain ⟨⟨v, rfl⟩, hW₂, e2, q2, q3, q4, q5, q6⟩ := id hfe
    have e3 : s₂ = ({ (U.calling g mk a).setFrames s₂.frames with heap := s₂.heap, slotsUsed := s₂.slotsUsed } : State).setVm s₂.vm := by
      have : s₂ = ({ s₂ with vm := (U.calling g mk a).vm } : State).setVm s₂.vm := rfl
      rw [e2] at this
      exact this
    obtain ⟨c₂, i₂, len₂, hc₂, hd₂, hf₂⟩ := hend
    have hW' : U.WarmedH s₂.vm := hW₂
    have hcc : c₂ = c := by
      have h1 : s₂.code? g.method = U.code? g.method := by
        rw [State.code?_eq, State.code?_eq, hW'.alike.method?]
      exact Option.some.inj (hc₂.symm.trans (h1.trans h.code))
    subst hcc
    have hlen : len₂ = len := by rw [hdg] at hd₂; cases hd₂; rfl
    subst hlen
    have hs₂ : s₂ = (({ U with heap := s₂.heap, slotsUsed := s₂.slotsUsed } : State).setVm s₂.vm).setTop { g with pc := g.pc + len₂, stack := v.toList ++ g.stack } := by
      refine e3.trans ?_
      rw [hf₂, State.calling_eq h.top, State.setFrames_setFrames, State.setTop_of_frames _ hr', hr]
      rfl
    have hsame : U.sameButNew ({ U with heap := s₂.heap, slotsUsed := s₂.slotsUsed } : State) L mc ms := by
      refine ⟨?_, q2, q3, q4, q5, q6⟩
      obtain ⟨t, ht, -⟩ := State.frames_cons hr
      show ({ U with heap := s₂.heap, slotsUsed := s₂.slotsUsed } : State) = { U.setFrames U.frames with heap := s₂.heap, slotsUsed := s₂.slotsUsed }
      rw [State.setFrames_self ht]
    subst hg
    refine Or.inl ⟨v, ⟨(({ U with heap := s₂.heap, slotsUsed := s₂.slotsUsed } : State).setVm s₂.vm), Ls ++ L, c0 + mc, s0 + ms⟩,
      ⟨X.admits, X.cas, X.clock, X.frames, X.room, X.hears, X.method, X.code, (X.here.setHeapUsed s₂.heap s₂.slotsUsed).setVm hW'.alike, X.tail, State.WarmedH.trans X.warmed hW', X.limits, X.bytes, X.same.trans (hsame.setVm s.vm)⟩,
      ⟨g, mk, s₂, L, rfl, rfl, hqc, rfl, hL, rfl, rfl⟩, ?_⟩
    show Steps p.tables e below _ ((({ U with heap := s₂.heap, slotsUsed := s₂.slotsUsed } : State).setVm s₂.vm).setTop { g with pc := g.pc + len₂, stack := v.toList ++ g.stack })
    rw [← hs₂]
    exact hsteps
  · obtain ⟨e2, q2, q3, q4, q5, q6⟩ := id hsm
    have e3 : s₂ = ({ (U.calling g mk a).setFrames s₂.frames with heap := s₂.heap, slotsUsed := s₂.slotsUsed } : State).setVm s₂.vm := by
      have : s₂ = ({ s₂ with vm := (U.calling g mk a).vm } : State).setVm s₂.vm := rfl
      rw [e2] at this
      exact this
    have hf₂ : s₂.frames = .throwing q :: .java g :: U.frames.tail := hend
    have hW' : U.WarmedH s₂.vm := hW₂
    have hs₂ : s₂ = ((({ U with heap := s₂.heap, slotsUsed := s₂.slotsUsed } : State).setVm s₂.vm).setTop g).pushFrame (.throwing q) := by
      refine e3.trans ?_
      rw [hf₂, State.calling_eq h.top, State.setFrames_setFrames, State.pushFrame, State.frames_setTop _ hr', State.setTop_of_frames _ hr', State.setFrames_setFrames, hr]
      rfl
    have hsame : U.sameButNew ({ U with heap := s₂.heap, slotsUsed := s₂.slotsUsed } : State) L mc ms := by
      refine ⟨?_, q2, q3, q4, q5, q6⟩
      obtain ⟨t, ht, -⟩ := State.frames_cons hr
      show ({ U with heap := s₂.heap, slotsUsed := s₂.slotsUsed } : State) = { U.setFrames U.frames with heap := s₂.heap, slotsUsed := s₂.slotsUsed }
      rw [State.setFrames_self ht]
    subst hg
    refine Or.inr ⟨q, ⟨(({ U with heap := s₂.heap, slotsUsed := s₂.slotsUsed } : State).setVm s₂.vm), Ls ++ L, c0 + mc, s0 + ms⟩,
      ⟨X.admits, X.cas, X.clock, X.frames, X.room, X.hears, X.method, X.code, (X.here.setHeapUsed s₂.heap s₂.slotsUsed).setVm hW'.alike, X.tail, State.WarmedH.trans X.warmed hW', X.limits, X.bytes, X.same.trans (hsame.setVm s.vm)⟩,
      ⟨g, mk, s₂, L, E, ce, rfl, rfl, hx, hce, hcv, hcl, rfl, hL, rfl, rfl⟩, ?_⟩
    show Steps p.tables e below _ (((({ U with heap := s₂.heap, slotsUsed := s₂.slotsUsed } : State).setVm s₂.vm).setTop g).pushFrame (.throwing q))
    rw [← hs₂]
    exact hsteps
end Payer
section Calls
variable {p : Program} {l : Launch} {e : Env} {R : Room} {s : State} {m : MethodId} {args : Array Value} {below : List Frame} {meth : Method} {c : Code} {T : State} {locs : List Loc} {cells slots : Nat}
theorem vx_callV (X : Stand p l e R s m args below meth c T locs cells slots) (hexec : p.tables.exec = Jvm.exec) {own C : String} {index : Nat} {y : MethodName} {bytes : ByteArray} {maxL : Nat} {ret : Option FieldType}
    (hown : s.vm.findClass own = some m.cls) (hlink : (Cond.methodLink own index y).before args s = true) (hinst : (Cond.instanceMethod y).before args s = true) (hsel : (Cond.selects C y y).before args s = true)
    (hcode : (Cond.code y bytes maxL ret).before args s = true) (hy : y.cls ≠ "java/lang/invoke/MethodHandle" ∧ y.cls ≠ "java/lang/invoke/VarHandle")
    {W9 : Nat} {Pre : Pt → Array Value → Prop} {Post : Pt → Array Value → Option Value → Pt → Prop} {PostX : Pt → Array Value → Addr → Pt → Prop} (hK : vx_Back l R p e below s args y 3 W9 Pre Post PostX)
    {b : Addr} {cellB : Cell} (hcell : T.heap[b]? = some cellB) (hobj : cellB.vm.isStatics = false) (hcls : s.vm.findClass C = some cellB.cls)
    {g : JFrame} (hg : g.method = m) (hsize : g.locals.size = c.maxLocals) {argsL rest : List Value} (hlen : ∀ sig, parseMethodDescriptor y.desc = some sig → argsL.length = sig.parameters.length)
    (hstack : g.stack = argsL.reverse ++ .ref b :: rest) (hW : 2 * g.monitorRoom + (rest.map fun v => v.category).sum ≤ W9) (hdg : decode c.code g.pc = .ok (.invokevirtual index, 3))
    (hpre : ∀ vm₁, s.WarmedH vm₁ → Pre ⟨T.setVm vm₁, locs, cells, slots⟩ (Value.ref b :: argsL).toArray) :
    (∃ (v : Option Value) (vm₁ : Vm) (B : Pt), s.WarmedH vm₁ ∧ Stand p l e R s m args below meth c B.U B.locs B.cells B.slots ∧ Post ⟨T.setVm vm₁, locs, cells, slots⟩ (Value.ref b :: argsL).toArray v B ∧
      ∀ target, Steps p.tables e below (B.U.setTop { g with pc := g.pc + 3, stack := v.toList ++ rest }) target → Steps p.tables e below (T.setTop g) target) ∨
    (∃ (q : Addr) (vm₁ : Vm) (B : Pt), s.WarmedH vm₁ ∧ Stand p l e R s m args below meth c B.U B.locs B.cells B.slots ∧ PostX ⟨T.setVm vm₁, locs, cells, slots⟩ (Value.ref b :: argsL).toArray q B ∧
      Steps p.tables e below (T.setTop g) ((B.U.setTop { g with stack := rest }).pushFrame (.throwing q))) := by
  obtain ⟨mk, methM, hnamed, hmethM, hstM, habM⟩ := Cond.instanceMethod_spec hinst
  obtain ⟨methM', cM, hmethM', -, -, -, -, -, -, hsigM⟩ := Cond.code_spec hnamed hcode
  cases hmethM.symm.trans hmethM'
  obtain ⟨c2, r2, m2, q1, q2, q3, q4, kP, hkP, hkPi⟩ := Cond.selects_spec hsel
  cases hcls.symm.trans q1
  cases (State.methodFound?_of_named hnamed hy).symm.trans q2
  cases hnamed.symm.trans q3
  have hselP : selectMethod e.platform s.vm cellB.cls mk = .method mk := by rw [Launch.admits_selectMethod X.admits]; exact q4
  obtain ⟨vm₁, X₁, hstep₁⟩ := X.invokevirtual hexec hown hlink hnamed hmethM hstM hkP hkPi hy (a := b) (cell := cellB) hcell
    (fun z h => by rw [h] at hobj; cases hobj) hselP hmethM habM hkP hkPi (g := g) hg (argsL := argsL) (rest := rest) (hlen _ hsigM) hstack hdg
  rcases hK m meth c ⟨T.setVm vm₁, locs, cells, slots⟩ { g with stack := rest } (.invokevirtual index) mk (Value.ref b :: argsL).toArray X₁ hg hsize hdg hW (X₁.named hnamed) (hpre vm₁ X₁.warmed) with ⟨v, B, X', hpost, hsteps⟩ | ⟨q, B, X', hpost, hsteps⟩
  · exact Or.inl ⟨v, vm₁, B, X₁.warmed, X', hpost, fun target h => hstep₁ _ fun acts => by rw [doInvoke_state]; exact hsteps.trans h⟩
  · exact Or.inr ⟨q, vm₁, B, X₁.warmed, X', hpost, hstep₁ _ fun acts => by rw [doInvoke_state]; exact hsteps⟩
theorem vx_callS (X : Stand p l e R s m args below meth c T locs cells slots) (hexec : p.tables.exec = Jvm.exec) {own : String} {index : Nat} {y : MethodName} {bytes : ByteArray} {maxL : Nat} {ret : Option FieldType}
    (hown : s.vm.findClass own = some m.cls) (hlink : (Cond.methodLink own index y).before args s = true) (hstat : (Cond.static y).before args s = true) (hinit : (Cond.initialized y.cls).before args s = true)
    (hcode : (Cond.code y bytes maxL ret).before args s = true) (hy : y.cls ≠ "java/lang/invoke/MethodHandle" ∧ y.cls ≠ "java/lang/invoke/VarHandle")
    {W9 : Nat} {Pre : Pt → Array Value → Prop} {Post : Pt → Array Value → Option Value → Pt → Prop} {PostX : Pt → Array Value → Addr → Pt → Prop} (hK : vx_Back l R p e below s args y 3 W9 Pre Post PostX)
    {g : JFrame} (hg : g.method = m) (hsize : g.locals.size = c.maxLocals) {argsL rest : List Value} (hlen : ∀ sig, parseMethodDescriptor y.desc = some sig → argsL.length = sig.parameters.length)
    (hstack : g.stack = argsL.reverse ++ rest) (hW : 2 * g.monitorRoom + (rest.map fun v => v.category).sum ≤ W9) (hdg : decode c.code g.pc = .ok (.invokestatic index, 3))
    (hpre : ∀ vm₁, s.WarmedH vm₁ → Pre ⟨T.setVm vm₁, locs, cells, slots⟩ argsL.toArray) :
    (∃ (v : Option Value) (vm₁ : Vm) (B : Pt), s.WarmedH vm₁ ∧ Stand p l e R s m args below meth c B.U B.locs B.cells B.slots ∧ Post ⟨T.setVm vm₁, locs, cells, slots⟩ argsL.toArray v B ∧
      ∀ target, Steps p.tables e below (B.U.setTop { g with pc := g.pc + 3, stack := v.toList ++ rest }) target → Steps p.tables e below (T.setTop g) target) ∨
    (∃ (q : Addr) (vm₁ : Vm) (B : Pt), s.WarmedH vm₁ ∧ Stand p l e R s m args below meth c B.U B.locs B.cells B.slots ∧ PostX ⟨T.setVm vm₁, locs, cells, slots⟩ argsL.toArray q B ∧
      Steps p.tables e below (T.setTop g) ((B.U.setTop { g with stack := rest }).pushFrame (.throwing q))) := by
  obtain ⟨mk, hnamed⟩ := Cond.code_named hcode
  obtain ⟨methM, cM, hmethM, -, -, -, -, -, -, hsigM⟩ := Cond.code_spec hnamed hcode
  have hstatic : methM.isStatic = true := Cond.static_spec hnamed hmethM hstat
  obtain ⟨kP, hkP, -⟩ := className_of_methodNamed hnamed
  have hinitP : kP.init = .initialized := Cond.initialized_spec (findClass_of_methodNamed hnamed) hkP hinit
  obtain ⟨vm₁, X₁, hstep₁⟩ := X.invokestatic hexec hown hlink hnamed hmethM hstatic hkP hinitP hy (g := g) hg (argsL := argsL) (rest := rest) (hlen _ hsigM) hstack hdg
  rcases hK m meth c ⟨T.setVm vm₁, locs, cells, slots⟩ { g with stack := rest } (.invokestatic index) mk argsL.toArray X₁ hg hsize hdg hW (X₁.named hnamed) (hpre vm₁ X₁.warmed) with ⟨v, B, X', hpost, hsteps⟩ | ⟨q, B, X', hpost, hsteps⟩
  · exact Or.inl ⟨v, vm₁, B, X₁.warmed, X', hpost, fun target h => hstep₁ _ fun acts => by rw [doInvoke_state]; exact hsteps.trans h⟩
  · exact Or.inr ⟨q, vm₁, B, X₁.warmed, X', hpost, hstep₁ _ fun acts => by rw [doInvoke_state]; exact hsteps⟩
end Calls
theorem vx_cls {s : State} {T : State} {vm₁ : Vm} {E : String} {k : ClassId} (hW : s.WarmedH vm₁) (h : (T.setVm vm₁).vm.findClass E = some k) : s.vm.findClass E = some k := by
  have h1 : vm₁.findClass E = some k := h
  rw [hW.alike.findClass] at h1
  exact h1
/-- the method's frame g, with q thrown over it -/
def vx_W (p : Program) (l : Launch) (e : Env) (R : Room) (s : State) (m : MethodId) (args : Array Value) (below : List Frame) (meth : Method) (c : Code) (H : Heap) (locs : List Loc) (cells slots : Nat) (Q : State → Prop) (g : JFrame) (q : Addr) : Prop :=
  ∀ T : State, T.heap = H → Stand p l e R s m args below meth c T locs cells slots → ∃ t, Steps p.tables e below ((T.setTop g).pushFrame (.throwing q)) t ∧ Q t
def vx_Run (p : Program) (l : Launch) (e : Env) (R : Room) (s : State) (m : MethodId) (args : Array Value) (below : List Frame) (meth : Method) (c : Code) (H : Heap) (locs : List Loc) (cells slots mc ms : Nat) (g : JFrame) (rest : List Value) (Qa : State → Outcome → State → Prop) (XC : String → State → State → Prop) (free : Addr → Prop) : Prop :=
  ∀ T : State, T.heap = H → Stand p l e R s m args below meth c T locs cells slots →
    (∃ (v : Option Value) (st₀ t T' : State) (L : List Loc), st₀.heap = H ∧ Stand p l e R s m args below meth c T' (locs ++ L) (cells + mc) (slots + ms) ∧ (∀ q ∈ L, free q.base) ∧ T'.heap = t.heap ∧ T'.vm = t.vm ∧ Qa st₀ (.returned v) t ∧
      Goes p e below T g T' { g with pc := g.pc + 3, stack := v.toList ++ rest }) ∨
    (∃ (q : Addr) (st₀ t T' : State) (L : List Loc) (E : String) (ce : Cell), st₀.heap = H ∧ Stand p l e R s m args below meth c T' (locs ++ L) (cells + mc) (slots + ms) ∧ (∀ z ∈ L, free z.base) ∧ T'.heap = t.heap ∧ T'.vm = t.vm ∧ XC E st₀ t ∧ t.heap[q]? = some ce ∧ ce.vm = .none ∧ s.vm.findClass E = some ce.cls ∧
      Steps p.tables e below (T.setTop g) ((T'.setTop { g with stack := rest }).pushFrame (.throwing q)))
def vx_X {S : Type} (px : S → Prop) (B : String → S → State → Prop) (A : Nat → Prop) : String → State → State → Prop := fun E st t => ∃ u : S, px u ∧ B E u t ∧ va_F A st t
section Runs
variable {p : Program} {l : Launch} {e : Env} {R : Room} {s : State} {m : MethodId} {args : Array Value} {below : List Frame} {meth : Method} {c : Code} {H : Heap} {locs : List Loc} {cells slots : Nat}
variable {y : MethodName} {bytes cc : ByteArray} {maxL nL mc ms n index : Nat} {ret : Option FieldType} {ws : List Cond} {rm : Room} {Pc : Array Value → State → Prop} {Qc : Array Value → State → Outcome → State → Prop} {XC : String → State → State → Prop} {free : Addr → Prop} {Ts : List Cond} {own C : String} {b : Addr} {As rest : List Value} {g : JFrame}
theorem vx_callBack (cb : CallB R s args own index y bytes maxL ret ws rm mc ms n) (hM : vx_Met l y ws rm Pc Qc XC mc ms free) (hbl : FrameBlind Pc) : vx_Back l R p e below s args y 3 8 (PreOf R mc ms Pc) (PostOf Qc mc ms free) (vx_Post XC mc ms free) := by
  obtain ⟨hrc, hrs, hfr, hlo, hws, hcw, -, hini, -⟩ := cb
  exact vx_back (bytes := bytes) (maxL := maxL) (ret := ret) hM hbl hrc hrs hfr hlo hws hcw (fun a' U hW => word_at hW (Or.inl (by first | rfl | simp [Cond.onTables, Cond.keeps, Cond.steady])) hini)
theorem vx_runV (S : CallFix p m c cc nL s args Ts own) (hM : vx_Met l y ws rm Pc Qc XC mc ms free) (cw : CallW R s args own C index y bytes maxL ret ws rm mc ms n) (hp : PreV s H C b Pc As)
    (hg : g.method = m) (hn : As.length = n) (hsize : g.locals.size = nL) (hstack : g.stack = As.reverse ++ .ref b :: rest) (hW : 2 * g.monitorRoom + (rest.map fun v => v.category).sum ≤ 8) (hdg : decode cc g.pc = .ok (.invokevirtual index, 3)) (hf : cells + mc ≤ R.cells ∧ slots + ms ≤ R.slots) :
    vx_Run p l e R s m args below meth c H locs cells slots mc ms g rest (Qc (Value.ref b :: As).toArray) XC free := by
  have hK : vx_Back l R p e below s args y 3 8 (PreOf R mc ms Pc) (PostOf Qc mc ms free) (vx_Post XC mc ms free) := vx_callBack cw.1 hM hp.1
  obtain ⟨⟨-, -, -, -, -, -, hcode, -, hy, hlen, hl⟩, hin, hse⟩ := cw
  obtain ⟨hx, hb, hml, ho, -⟩ := S
  obtain ⟨-, ⟨cellB, hcB, hoB, hclB⟩, hPc⟩ := hp
  intro T hT X
  rcases vx_callV X hx (C := C) (bytes := bytes) (maxL := maxL) (ret := ret) ho hl hin hse hcode hy hK (by rw [hT]; exact hcB) hoB hclB hg (hsize.trans hml.symm) (argsL := As) (rest := rest) (fun sig h => hn.trans (hlen sig h)) hstack hW (by rw [hb]; exact hdg)
    (fun vm₁ hW₁ => ⟨hf.1, hf.2, hPc (T.setVm vm₁) hT hW₁⟩) with ⟨v, vm₁, ⟨U', l2, c2, s2⟩, hW₁, X', ⟨g', mk, t, L, e1, e2, hq, h1, hL, h2, h3⟩, st⟩ | ⟨q, vm₁, ⟨U', l2, c2, s2⟩, hW₁, X', ⟨g', mk, t, L, E, ce, e1, e2, hq, hce, hcv, hcl, h1, hL, h2, h3⟩, st⟩
  · dsimp only [Pt.U, Pt.locs, Pt.cells, Pt.slots] at X' e1 e2 h1 h2 h3 st
    subst h1; subst h2; subst h3
    exact Or.inl ⟨v, (T.setVm vm₁).calling g' mk (Value.ref b :: As).toArray, t, U', L, hT, X', hL, e1, e2, hq, st⟩
  · dsimp only [Pt.U, Pt.locs, Pt.cells, Pt.slots] at X' e1 e2 h1 h2 h3 st hcl
    subst h1; subst h2; subst h3
    exact Or.inr ⟨q, (T.setVm vm₁).calling g' mk (Value.ref b :: As).toArray, t, U', L, E, ce, hT, X', hL, e1, e2, hq, hce, hcv, vx_cls hW₁ hcl, st⟩
theorem vx_runS (S : CallFix p m c cc nL s args Ts own) (hM : vx_Met l y ws rm Pc Qc XC mc ms free) (cw : CallB R s args own index y bytes maxL ret ws rm mc ms n ∧ (Cond.static y).before args s = true) (hp : PreS s H Pc As)
    (hg : g.method = m) (hn : As.length = n) (hsize : g.locals.size = nL) (hstack : g.stack = As.reverse ++ rest) (hW : 2 * g.monitorRoom + (rest.map fun v => v.category).sum ≤ 8) (hdg : decode cc g.pc = .ok (.invokestatic index, 3)) (hf : cells + mc ≤ R.cells ∧ slots + ms ≤ R.slots) :
    vx_Run p l e R s m args below meth c H locs cells slots mc ms g rest (Qc As.toArray) XC free := by
  have hK : vx_Back l R p e below s args y 3 8 (PreOf R mc ms Pc) (PostOf Qc mc ms free) (vx_Post XC mc ms free) := vx_callBack cw.1 hM hp.1
  obtain ⟨⟨-, -, -, -, -, -, hcode, hini, hy, hlen, hl⟩, hstt⟩ := cw
  obtain ⟨hx, hb, hml, ho, -⟩ := S
  intro T hT X
  rcases vx_callS X hx (bytes := bytes) (maxL := maxL) (ret := ret) ho hl hstt hini hcode hy hK hg (hsize.trans hml.symm) (argsL := As) (rest := rest) (fun sig h => hn.trans (hlen sig h)) hstack hW (by rw [hb]; exact hdg)
    (fun vm₁ hW₁ => ⟨hf.1, hf.2, hp.2 (T.setVm vm₁) hT hW₁⟩) with ⟨v, vm₁, ⟨U', l2, c2, s2⟩, hW₁, X', ⟨g', mk, t, L, e1, e2, hq, h1, hL, h2, h3⟩, st⟩ | ⟨q, vm₁, ⟨U', l2, c2, s2⟩, hW₁, X', ⟨g', mk, t, L, E, ce, e1, e2, hq, hce, hcv, hcl, h1, hL, h2, h3⟩, st⟩
  · dsimp only [Pt.U, Pt.locs, Pt.cells, Pt.slots] at X' e1 e2 h1 h2 h3 st
    subst h1; subst h2; subst h3
    exact Or.inl ⟨v, (T.setVm vm₁).calling g' mk As.toArray, t, U', L, hT, X', hL, e1, e2, hq, st⟩
  · dsimp only [Pt.U, Pt.locs, Pt.cells, Pt.slots] at X' e1 e2 h1 h2 h3 st hcl
    subst h1; subst h2; subst h3
    exact Or.inr ⟨q, (T.setVm vm₁).calling g' mk As.toArray, t, U', L, E, ce, hT, X', hL, e1, e2, hq, hce, hcv, vx_cls hW₁ hcl, st⟩
end Runs
section Rows
variable {p : Program} {l : Launch} {e : Env} {R : Room} {s : State} {m : MethodId} {args : Array Value} {below : List Frame} {meth : Method} {c : Code} {H : Heap} {locs : List Loc} {cells slots : Nat} {Q : State → Prop}
variable {mc ms : Nat} {free : Addr → Prop} {A0 A1 : Nat → Prop} {H0 : Heap} {a : Array Value} {pc : Nat} {ls : Array Slot} {st0 rest : List Value}
theorem vx_keep {st₀ t T' : State} {L : List Loc} (h0 : st₀.heap = H) (e1 : T'.heap = t.heap) (hS : va_S A0 H0 H locs) (hA : ∀ q, q < H.size → A1 q → A0 q) (hf : ∀ q, free q → A0 q) (hL : ∀ q ∈ L, free q.base) (hF : va_F A1 st₀ t) :
    H.size ≤ T'.heap.size ∧ (∀ q : Nat, q < H.size → ¬ A1 q → T'.heap[q]? = H[q]?) ∧ va_S A0 H0 T'.heap (locs ++ L) := by
  obtain ⟨hz, hk⟩ := hF
  rw [h0] at hz hk
  exact ⟨by rw [e1]; exact hz, fun q h1 h2 => by rw [e1]; exact hk q h1 h2,
    ⟨Nat.le_trans hS.1 (by rw [e1]; exact hz), fun q h1 h2 => by rw [e1, hk q (Nat.lt_of_lt_of_le h1 hS.1) (fun z => h2 (hA q (Nat.lt_of_lt_of_le h1 hS.1) z))]; exact hS.2.1 q h1 h2, fun q hq => by
      rcases List.mem_append.mp hq with h | h
      · exact hS.2.2 q h
      · exact hf _ (hL q h)⟩⟩
theorem vx_calli {S SX : Type} {post : Int32 → S → Prop} {px : SX → Prop} {B : S → State → Prop} {BX : String → SX → State → Prop} {AX : Nat → Prop} (hr : vx_Run p l e R s m args below meth c H locs cells slots mc ms (F0 m pc ls st0) rest (va_Qi post B A1 a) (vx_X px BX AX) free) (hS : va_S A0 H0 H locs) (hA : ∀ q, q < H.size → A1 q → A0 q) (hf : ∀ q, free q → A0 q) (hAX : ∀ q, q < H.size → AX q → A0 q)
    (kx : ∀ (E : String) (ce : Cell) (q9 : Addr) (u : SX) (t : State) (H1 : Heap) (locs1 : List Loc), t.heap = H1 → s.vm.Alike t.vm → px u → BX E u t → H.size ≤ H1.size → (∀ q : Nat, q < H.size → ¬ AX q → H1[q]? = H[q]?) → va_S A0 H0 H1 locs1 → H1[q9]? = some ce → ce.vm = .none → s.vm.findClass E = some ce.cls → vx_W p l e R s m args below meth c H1 locs1 (cells + mc) (slots + ms) Q (F0 m pc ls rest) q9)
    (kk : ∀ (r : Int32) (u : S) (t : State) (H1 : Heap) (locs1 : List Loc), t.heap = H1 → s.vm.Alike t.vm → post r u → B u t → H.size ≤ H1.size → (∀ q : Nat, q < H.size → ¬ A1 q → H1[q]? = H[q]?) → va_S A0 H0 H1 locs1 → W p l e R s m args below meth c H1 locs1 (cells + mc) (slots + ms) Q (F0 m (pc + 3) ls (.int r :: rest))) : W p l e R s m args below meth c H locs cells slots Q (F0 m pc ls st0) := by
  intro T hT X
  rcases hr T hT X with ⟨v, st₀, t, T', L, h0, X', hL, e1, e2, ⟨⟨r, u, hv, hp, hb⟩, hF⟩, st⟩ | ⟨q, st₀, t, T', L, E, ce, h0, X', hL, e1, e2, ⟨u, hp, hb, hF⟩, hce, hcv, hcl, st⟩
  · cases hv
    obtain ⟨k1, k2, k3⟩ := vx_keep h0 e1 hS hA hf hL hF
    obtain ⟨t2, a1, b1⟩ := kk r u t T'.heap (locs ++ L) e1.symm (by rw [← e2]; exact X'.warmed.alike) hp hb k1 k2 k3 T' rfl X'
    exact ⟨t2, st t2 a1, b1⟩
  · obtain ⟨k1, k2, k3⟩ := vx_keep h0 e1 hS hAX hf hL hF
    obtain ⟨t2, a1, b1⟩ := kx E ce q u t T'.heap (locs ++ L) e1.symm (by rw [← e2]; exact X'.warmed.alike) hp hb k1 k2 k3 (by rw [e1]; exact hce) hcv hcl T' rfl X'
    exact ⟨t2, st.trans a1, b1⟩
theorem vx_calll {S SX : Type} {post : Int64 → S → Prop} {px : SX → Prop} {B : S → State → Prop} {BX : String → SX → State → Prop} {AX : Nat → Prop} (hr : vx_Run p l e R s m args below meth c H locs cells slots mc ms (F0 m pc ls st0) rest (va_Ql post B A1 a) (vx_X px BX AX) free) (hS : va_S A0 H0 H locs) (hA : ∀ q, q < H.size → A1 q → A0 q) (hf : ∀ q, free q → A0 q) (hAX : ∀ q, q < H.size → AX q → A0 q)
    (kx : ∀ (E : String) (ce : Cell) (q9 : Addr) (u : SX) (t : State) (H1 : Heap) (locs1 : List Loc), t.heap = H1 → s.vm.Alike t.vm → px u → BX E u t → H.size ≤ H1.size → (∀ q : Nat, q < H.size → ¬ AX q → H1[q]? = H[q]?) → va_S A0 H0 H1 locs1 → H1[q9]? = some ce → ce.vm = .none → s.vm.findClass E = some ce.cls → vx_W p l e R s m args below meth c H1 locs1 (cells + mc) (slots + ms) Q (F0 m pc ls rest) q9)
    (kk : ∀ (r : Int64) (u : S) (t : State) (H1 : Heap) (locs1 : List Loc), t.heap = H1 → s.vm.Alike t.vm → post r u → B u t → H.size ≤ H1.size → (∀ q : Nat, q < H.size → ¬ A1 q → H1[q]? = H[q]?) → va_S A0 H0 H1 locs1 → W p l e R s m args below meth c H1 locs1 (cells + mc) (slots + ms) Q (F0 m (pc + 3) ls (.long r :: rest))) : W p l e R s m args below meth c H locs cells slots Q (F0 m pc ls st0) := by
  intro T hT X
  rcases hr T hT X with ⟨v, st₀, t, T', L, h0, X', hL, e1, e2, ⟨⟨r, u, hv, hp, hb⟩, hF⟩, st⟩ | ⟨q, st₀, t, T', L, E, ce, h0, X', hL, e1, e2, ⟨u, hp, hb, hF⟩, hce, hcv, hcl, st⟩
  · cases hv
    obtain ⟨k1, k2, k3⟩ := vx_keep h0 e1 hS hA hf hL hF
    obtain ⟨t2, a1, b1⟩ := kk r u t T'.heap (locs ++ L) e1.symm (by rw [← e2]; exact X'.warmed.alike) hp hb k1 k2 k3 T' rfl X'
    exact ⟨t2, st t2 a1, b1⟩
  · obtain ⟨k1, k2, k3⟩ := vx_keep h0 e1 hS hAX hf hL hF
    obtain ⟨t2, a1, b1⟩ := kx E ce q u t T'.heap (locs ++ L) e1.symm (by rw [← e2]; exact X'.warmed.alike) hp hb k1 k2 k3 (by rw [e1]; exact hce) hcv hcl T' rfl X'
    exact ⟨t2, st.trans a1, b1⟩
theorem vx_callf {S SX : Type} {post : UInt32 → S → Prop} {px : SX → Prop} {B : S → State → Prop} {BX : String → SX → State → Prop} {AX : Nat → Prop} (hr : vx_Run p l e R s m args below meth c H locs cells slots mc ms (F0 m pc ls st0) rest (va_Qf post B A1 a) (vx_X px BX AX) free) (hS : va_S A0 H0 H locs) (hA : ∀ q, q < H.size → A1 q → A0 q) (hf : ∀ q, free q → A0 q) (hAX : ∀ q, q < H.size → AX q → A0 q)
    (kx : ∀ (E : String) (ce : Cell) (q9 : Addr) (u : SX) (t : State) (H1 : Heap) (locs1 : List Loc), t.heap = H1 → s.vm.Alike t.vm → px u → BX E u t → H.size ≤ H1.size → (∀ q : Nat, q < H.size → ¬ AX q → H1[q]? = H[q]?) → va_S A0 H0 H1 locs1 → H1[q9]? = some ce → ce.vm = .none → s.vm.findClass E = some ce.cls → vx_W p l e R s m args below meth c H1 locs1 (cells + mc) (slots + ms) Q (F0 m pc ls rest) q9)
    (kk : ∀ (r : UInt32) (u : S) (t : State) (H1 : Heap) (locs1 : List Loc), t.heap = H1 → s.vm.Alike t.vm → post r u → B u t → H.size ≤ H1.size → (∀ q : Nat, q < H.size → ¬ A1 q → H1[q]? = H[q]?) → va_S A0 H0 H1 locs1 → W p l e R s m args below meth c H1 locs1 (cells + mc) (slots + ms) Q (F0 m (pc + 3) ls (.float r :: rest))) : W p l e R s m args below meth c H locs cells slots Q (F0 m pc ls st0) := by
  intro T hT X
  rcases hr T hT X with ⟨v, st₀, t, T', L, h0, X', hL, e1, e2, ⟨⟨r, u, hv, hp, hb⟩, hF⟩, st⟩ | ⟨q, st₀, t, T', L, E, ce, h0, X', hL, e1, e2, ⟨u, hp, hb, hF⟩, hce, hcv, hcl, st⟩
  · cases hv
    obtain ⟨k1, k2, k3⟩ := vx_keep h0 e1 hS hA hf hL hF
    obtain ⟨t2, a1, b1⟩ := kk r u t T'.heap (locs ++ L) e1.symm (by rw [← e2]; exact X'.warmed.alike) hp hb k1 k2 k3 T' rfl X'
    exact ⟨t2, st t2 a1, b1⟩
  · obtain ⟨k1, k2, k3⟩ := vx_keep h0 e1 hS hAX hf hL hF
    obtain ⟨t2, a1, b1⟩ := kx E ce q u t T'.heap (locs ++ L) e1.symm (by rw [← e2]; exact X'.warmed.alike) hp hb k1 k2 k3 (by rw [e1]; exact hce) hcv hcl T' rfl X'
    exact ⟨t2, st.trans a1, b1⟩
theorem vx_calld {S SX : Type} {post : UInt64 → S → Prop} {px : SX → Prop} {B : S → State → Prop} {BX : String → SX → State → Prop} {AX : Nat → Prop} (hr : vx_Run p l e R s m args below meth c H locs cells slots mc ms (F0 m pc ls st0) rest (va_Qd post B A1 a) (vx_X px BX AX) free) (hS : va_S A0 H0 H locs) (hA : ∀ q, q < H.size → A1 q → A0 q) (hf : ∀ q, free q → A0 q) (hAX : ∀ q, q < H.size → AX q → A0 q)
    (kx : ∀ (E : String) (ce : Cell) (q9 : Addr) (u : SX) (t : State) (H1 : Heap) (locs1 : List Loc), t.heap = H1 → s.vm.Alike t.vm → px u → BX E u t → H.size ≤ H1.size → (∀ q : Nat, q < H.size → ¬ AX q → H1[q]? = H[q]?) → va_S A0 H0 H1 locs1 → H1[q9]? = some ce → ce.vm = .none → s.vm.findClass E = some ce.cls → vx_W p l e R s m args below meth c H1 locs1 (cells + mc) (slots + ms) Q (F0 m pc ls rest) q9)
    (kk : ∀ (r : UInt64) (u : S) (t : State) (H1 : Heap) (locs1 : List Loc), t.heap = H1 → s.vm.Alike t.vm → post r u → B u t → H.size ≤ H1.size → (∀ q : Nat, q < H.size → ¬ A1 q → H1[q]? = H[q]?) → va_S A0 H0 H1 locs1 → W p l e R s m args below meth c H1 locs1 (cells + mc) (slots + ms) Q (F0 m (pc + 3) ls (.double r :: rest))) : W p l e R s m args below meth c H locs cells slots Q (F0 m pc ls st0) := by
  intro T hT X
  rcases hr T hT X with ⟨v, st₀, t, T', L, h0, X', hL, e1, e2, ⟨⟨r, u, hv, hp, hb⟩, hF⟩, st⟩ | ⟨q, st₀, t, T', L, E, ce, h0, X', hL, e1, e2, ⟨u, hp, hb, hF⟩, hce, hcv, hcl, st⟩
  · cases hv
    obtain ⟨k1, k2, k3⟩ := vx_keep h0 e1 hS hA hf hL hF
    obtain ⟨t2, a1, b1⟩ := kk r u t T'.heap (locs ++ L) e1.symm (by rw [← e2]; exact X'.warmed.alike) hp hb k1 k2 k3 T' rfl X'
    exact ⟨t2, st t2 a1, b1⟩
  · obtain ⟨k1, k2, k3⟩ := vx_keep h0 e1 hS hAX hf hL hF
    obtain ⟨t2, a1, b1⟩ := kx E ce q u t T'.heap (locs ++ L) e1.symm (by rw [← e2]; exact X'.warmed.alike) hp hb k1 k2 k3 (by rw [e1]; exact hce) hcv hcl T' rfl X'
    exact ⟨t2, st.trans a1, b1⟩
theorem vx_callv {S SX : Type} {post : S → Prop} {px : SX → Prop} {B : S → State → Prop} {BX : String → SX → State → Prop} {AX : Nat → Prop} (hr : vx_Run p l e R s m args below meth c H locs cells slots mc ms (F0 m pc ls st0) rest (va_Qv post B A1 a) (vx_X px BX AX) free) (hS : va_S A0 H0 H locs) (hA : ∀ q, q < H.size → A1 q → A0 q) (hf : ∀ q, free q → A0 q) (hAX : ∀ q, q < H.size → AX q → A0 q)
    (kx : ∀ (E : String) (ce : Cell) (q9 : Addr) (u : SX) (t : State) (H1 : Heap) (locs1 : List Loc), t.heap = H1 → s.vm.Alike t.vm → px u → BX E u t → H.size ≤ H1.size → (∀ q : Nat, q < H.size → ¬ AX q → H1[q]? = H[q]?) → va_S A0 H0 H1 locs1 → H1[q9]? = some ce → ce.vm = .none → s.vm.findClass E = some ce.cls → vx_W p l e R s m args below meth c H1 locs1 (cells + mc) (slots + ms) Q (F0 m pc ls rest) q9)
    (kk : ∀ (u : S) (t : State) (H1 : Heap) (locs1 : List Loc), t.heap = H1 → s.vm.Alike t.vm → post u → B u t → H.size ≤ H1.size → (∀ q : Nat, q < H.size → ¬ A1 q → H1[q]? = H[q]?) → va_S A0 H0 H1 locs1 → W p l e R s m args below meth c H1 locs1 (cells + mc) (slots + ms) Q (F0 m (pc + 3) ls (rest))) : W p l e R s m args below meth c H locs cells slots Q (F0 m pc ls st0) := by
  intro T hT X
  rcases hr T hT X with ⟨v, st₀, t, T', L, h0, X', hL, e1, e2, ⟨⟨u, hv, hp, hb⟩, hF⟩, st⟩ | ⟨q, st₀, t, T', L, E, ce, h0, X', hL, e1, e2, ⟨u, hp, hb, hF⟩, hce, hcv, hcl, st⟩
  · cases hv
    obtain ⟨k1, k2, k3⟩ := vx_keep h0 e1 hS hA hf hL hF
    obtain ⟨t2, a1, b1⟩ := kk u t T'.heap (locs ++ L) e1.symm (by rw [← e2]; exact X'.warmed.alike) hp hb k1 k2 k3 T' rfl X'
    exact ⟨t2, st t2 a1, b1⟩
  · obtain ⟨k1, k2, k3⟩ := vx_keep h0 e1 hS hAX hf hL hF
    obtain ⟨t2, a1, b1⟩ := kx E ce q u t T'.heap (locs ++ L) e1.symm (by rw [← e2]; exact X'.warmed.alike) hp hb k1 k2 k3 (by rw [e1]; exact hce) hcv hcl T' rfl X'
    exact ⟨t2, st.trans a1, b1⟩
/-- caught by the row x of this method's table; the rows ahead don't take it -/
theorem vx_catch {own name : String} {E : String} {ce : Cell} {q : Addr} (hown : s.vm.findClass own = some m.cls) (pre : List ExceptionTableEntry) (x : ExceptionTableEntry) (suf : List ExceptionTableEntry) (hsplit : c.exceptionTable.toList = pre ++ x :: suf)
    (hpass : ∀ z ∈ pre, covers z pc = false ∨ (z.catchType ≠ 0 ∧ ∃ nm : String, (Cond.classLink own z.catchType nm).before args s = true ∧ va_Nc E nm s)) (hx : covers x pc = true) (h0 : x.catchType ≠ 0)
    (hlink : (Cond.classLink own x.catchType name).before args s = true) (hcast : (Cond.castable E name).before args s = true) (hcell : H[q]? = some ce) (hv : ce.vm = .none) (hcl : s.vm.findClass E = some ce.cls)
    (kk : W p l e R s m args below meth c H locs cells slots Q (F0 m x.handlerPc ls [.ref q])) : vx_W p l e R s m args below meth c H locs cells slots Q (F0 m pc ls rest) q := by
  intro T hT X
  have hpl : e.platform.magicAccessors = ({} : Platform).magicAccessors := by rw [X.admits.platform]
  obtain ⟨c3, c4, hc3, hc4, hasg⟩ := Cond.castable_spec hcast
  cases Option.some.inj (hc3.symm.trans hcl)
  obtain ⟨c5, hc5, hcl5⟩ := Cond.classLink_spec hown hlink e.platform hpl
  cases Option.some.inj (hc4.symm.trans hc5)
  obtain ⟨vm', X', st⟩ := X.thenCaughtThrough q (g := F0 m pc ls rest) rfl (Steps.refl _) (by rw [hT]; exact hcell) (by rw [hv]; rfl) (by obtain ⟨k9, h9, -⟩ := Vm.findClass_spec hcl; exact ⟨k9, h9⟩) pre x suf hsplit
    (fun z hz => by
      rcases hpass z hz with h | ⟨hz0, nm, hl1, hn1⟩
      · exact Or.inl h
      · obtain ⟨c6, hc6, hcl6⟩ := Cond.classLink_spec hown hl1 e.platform hpl
        obtain ⟨a8, b8, h1, h2, h3⟩ := hn1
        cases Option.some.inj (h1.symm.trans hcl)
        cases Option.some.inj (h2.symm.trans hc6)
        exact Or.inr ⟨hz0, _, hcl6, h3⟩) hx (Or.inr ⟨h0, c4, hcl5, hasg⟩)
  obtain ⟨t, a1, b1⟩ := kk (T.setVm vm') hT X'
  exact ⟨t, st.trans a1, b1⟩
end Rows
section Ends
variable {p : Program} {l : Launch} {e : Env} {R : Room} {s : State} {m : MethodId} {args : Array Value} {below : List Frame} {meth : Method} {c : Code} {H : Heap} {locs : List Loc} {cells slots : Nat} {Q : State → Prop}
variable {mc ms : Nat} {free : Addr → Prop} {A0 A1 : Nat → Prop} {H0 : Heap} {a : Array Value} {ls : Array Slot} {st0 rest : List Value}
variable {Qc : Array Value → State → Outcome → State → Prop} {XC : String → State → State → Prop}
/-- what a body that may throw owes at its end -/
def vx_MQ (below : List Frame) (Qc : Array Value → State → Outcome → State → Prop) (XC : String → State → State → Prop) (a : Array Value) (s : State) (mc ms : Nat) (free : Addr → Prop) : State → Prop := fun t =>
  ∃ o, t.status = .running ∧ Ended t below o ∧ vx_Q Qc XC mc ms free a s o t
theorem vx_ret {g : JFrame} {mc ms : Nat} (k : W p l e R s m args below meth c H locs cells slots (MQ below Qc args s mc ms free) g) : W p l e R s m args below meth c H locs cells slots (vx_MQ below Qc XC args s mc ms free) g := by
  intro T hT X
  obtain ⟨t, a1, o, b1, b2, b3, b4⟩ := k T hT X
  exact ⟨t, a1, o, b1, b2, Or.inl ⟨b3, b4⟩⟩
/-- not caught here: it goes on to the caller -/
theorem vx_widen {g : JFrame} {q : Addr} {k n : Nat} (h1 : cells ≤ k) (h2 : slots ≤ n) (kk : vx_W p l e R s m args below meth c H locs k n Q g q) : vx_W p l e R s m args below meth c H locs cells slots Q g q := fun T hT X => kk T hT (stand_widen X h1 h2)
theorem vx_out {pc : Nat} {E : String} {ce : Cell} {q : Addr} {mc ms : Nat} (hout : ∀ x ∈ c.exceptionTable.toList, covers x pc = false) (hlocks : meth.locks = false) (hcell : H[q]? = some ce) (hv : ce.vm = .none) (hcl : s.vm.findClass E = some ce.cls)
    (hx : ∀ t : State, t.heap = H → s.vm.Alike t.vm → XC E s t) (hf : ∀ z ∈ locs, free z.base) (hc : cells ≤ mc) (hs : slots ≤ ms) :
    vx_W p l e R s m args below meth c H locs cells slots (vx_MQ below Qc XC args s mc ms free) (F0 m pc ls rest) q := by
  intro T hT X
  obtain ⟨st1, hrun, hend, hW, hsm⟩ := X.leaveThrown q (g := F0 m pc ls rest) rfl rfl rfl hout hlocks
  have hcell9 : (T.setFrames (.throwing q :: below)).heap[q]? = some ce := by
    show T.heap[q]? = some ce
    rw [hT]; exact hcell
  exact ⟨_, st1, .threw q, hrun, hend, Or.inr ⟨q, rfl, E, ce, locs, hx _ hT hW.alike, hcell9, hv, hcl, hW, hsm.mono hc hs, hf⟩⟩
theorem vx_frame {U : State} {k n : Nat} (h : s.sameButNew ({ U with vm := s.vm } : State) locs k n) : s.heap.size ≤ U.heap.size ∧ ∀ q : Nat, q < s.heap.size → (∀ z ∈ locs, z.base ≠ q) → U.heap[q]? = s.heap[q]? := by
  obtain ⟨-, h2, -, -, -, h6⟩ := h
  refine ⟨h2, fun q hq hz => ?_⟩
  obtain ⟨c9, e1, e2, e3, e4⟩ := h6 q _ (Array.getElem?_eq_getElem hq)
  have hs : c9.slots = (s.heap[q]).slots := Array.ext_getElem? fun i => e4 i fun hm => hz _ hm rfl
  have h9 : c9 = s.heap[q] := by
    rw [hs] at e2
    exact e2
  have e5 : U.heap[q]? = some c9 := e1
  rw [e5, h9, Array.getElem?_eq_getElem hq]
/-- the words of a throw but the four that speak of the heap -/
def vx_no (w : Cond) : Bool := decide (w ≠ .isRef (.static Bundle.tN "UNASSIGNED_STACK" Bundle.steD)) && decide (w ≠ .isRef (.static Bundle.tN "SUPPRESSED_SENTINEL" Bundle.listD)) && decide (w ≠ .laysStatic Bundle.tN "UNASSIGNED_STACK" Bundle.steD) && decide (w ≠ .laysStatic Bundle.tN "SUPPRESSED_SENTINEL" Bundle.listD)
def vx_at0 (own : String) (ic : Nat) (X : String) (names : List String) : List Cond := (Bundle.ownAtoms0 own ic X names).filter vx_no
def vx_atS (own : String) (ic : Nat) (X : String) (names : List String) : List Cond := (Bundle.ownAtoms own ic X names).filter vx_no
/-- a word that the tables alone decide, or a good one -/
def vx_ot (w : Cond) : Bool := w.onTables || goodWord w
theorem vx_ot_at {args a' : Array Value} {s U : State} {w : Cond} (hW : s.WarmedH U.vm) (hvm : s.vm = U.vm) (hg : vx_ot w = true) (h : w.before args s = true) : w.before a' U = true := by
  simp only [vx_ot, Bool.or_eq_true] at hg
  rcases hg with hg | hg
  · exact va_tabs hg hvm h
  · exact word_at hW (good_of_word hg) h
/-- a list's words: the good ones out of the method's own list, the others by premises of their own -/
theorem vx_hat {args : Array Value} {s : State} {L B : List Cond} (h1 : ∀ w ∈ L.filter goodWord, w.before args s = true) (h2 : ∀ w ∈ L.filter (fun w => !goodWord w), w ∈ B) (h3 : ∀ w ∈ B, w.before args s = true) : ∀ w ∈ L, w.before args s = true := by
  intro w hw
  by_cases g : goodWord w = true
  · exact h1 w (List.mem_filter.mpr ⟨hw, g⟩)
  · refine h3 w (h2 w (List.mem_filter.mpr ⟨hw, ?_⟩))
    show (!goodWord w) = true
    cases hgw : goodWord w
    · rfl
    · exact absurd hgw g
theorem vx_c {args : Array Value} {s : State} {w : Cond} {B : List Cond} (h : w.before args s = true) (t : ∀ w ∈ B, w.before args s = true) : ∀ w' ∈ w :: B, w'.before args s = true := fun w' h' => (List.mem_cons.mp h').elim (fun e => by rw [e]; exact h) (t w')
theorem vx_n {args : Array Value} {s : State} : ∀ w ∈ ([] : List Cond), w.before args s = true := fun _ h => nomatch h
theorem vx_own {args : Array Value} {s : State} {L : List Cond} (h1 : ∀ w ∈ L.filter vx_no, w.before args s = true)
    (hU : (Cond.isRef (.static Bundle.tN "UNASSIGNED_STACK" Bundle.steD)).before args s = true) (hN : (Cond.isRef (.static Bundle.tN "SUPPRESSED_SENTINEL" Bundle.listD)).before args s = true)
    (lU : (Cond.laysStatic Bundle.tN "UNASSIGNED_STACK" Bundle.steD).before args s = true) (lN : (Cond.laysStatic Bundle.tN "SUPPRESSED_SENTINEL" Bundle.listD).before args s = true) : ∀ w ∈ L, w.before args s = true := by
  intro w hw
  by_cases e1 : w = .isRef (.static Bundle.tN "UNASSIGNED_STACK" Bundle.steD)
  · rw [e1]; exact hU
  · by_cases e2 : w = .isRef (.static Bundle.tN "SUPPRESSED_SENTINEL" Bundle.listD)
    · rw [e2]; exact hN
    · by_cases e3 : w = .laysStatic Bundle.tN "UNASSIGNED_STACK" Bundle.steD
      · rw [e3]; exact lU
      · by_cases e4 : w = .laysStatic Bundle.tN "SUPPRESSED_SENTINEL" Bundle.listD
        · rw [e4]; exact lN
        · exact h1 w (List.mem_filter.mpr ⟨hw, by unfold vx_no; rw [decide_eq_true e1, decide_eq_true e2, decide_eq_true e3, decide_eq_true e4]; rfl⟩)
/-- where a static field lies, its class's statics cell in H -/
def vx_L (C n d : String) (A : Nat → Prop) (U : State) (H : Heap) : Prop := ∃ (c : ClassId) (k : Class) (i : Nat) (f : Field) (a : Nat) (cell : Cell), U.vm.findClass C = some c ∧ U.fieldFound? C n d = some (c, k, i, f) ∧ f.isStatic = true ∧ k.statics = some a ∧ H[a]? = some cell ∧ cell.vm.isStatics = true ∧ cell.cls = c ∧ f.slot < cell.slots.size ∧ k.staticTypes[f.slot]? = some f.type ∧ ¬ A a
theorem vx_L.moved {C n d : String} {A : Nat → Prop} {u U : State} {H : Heap} (hvm : u.vm.Alike U.vm) (h : vx_L C n d A u H) : vx_L C n d A U H := by
  obtain ⟨c, k, i, f, a, cell, h1, h2, h3, h4, h5, h6, h7, h8, h9, h10⟩ := h
  obtain ⟨k', hi', he⟩ := State.fieldFound?_setVm hvm h2
  exact ⟨c, k', i, f, a, cell, by rw [hvm.findClass]; exact h1, hi', h3, by rw [he]; exact h4, h5, h6, h7, h8, by rw [he]; exact h9, h10⟩
theorem vx_L.kept {C n d : String} {A : Nat → Prop} {U : State} {H H1 : Heap} (h : vx_L C n d A U H) (hq : ∀ a : Nat, a < H.size → ¬ A a → H1[a]? = H[a]?) : vx_L C n d A U H1 := by
  obtain ⟨c, k, i, f, a, cell, h1, h2, h3, h4, h5, h6, h7, h8, h9, h10⟩ := h
  exact ⟨c, k, i, f, a, cell, h1, h2, h3, h4, by rw [hq a (Array.getElem?_eq_some_iff.mp h5).1 h10]; exact h5, h6, h7, h8, h9, h10⟩
theorem vx_L.narrow {C n d : String} {A B : Nat → Prop} {U : State} {H : Heap} (h : vx_L C n d A U H) (hAB : ∀ q, B q → A q) : vx_L C n d B U H := by
  obtain ⟨c, k, i, f, a, cell, h1, h2, h3, h4, h5, h6, h7, h8, h9, h10⟩ := h
  exact ⟨c, k, i, f, a, cell, h1, h2, h3, h4, h5, h6, h7, h8, h9, fun z => h10 (hAB _ z)⟩
theorem vx_L.word {C n d : String} {A : Nat → Prop} {s : State} {args : Array Value} (h : vx_L C n d A s s.heap) : (Cond.laysStatic C n d).before args s = true := by
  obtain ⟨c, k, i, f, a, cell, h1, h2, h3, h4, h5, h6, h7, h8, h9, -⟩ := h
  show (Cond.laysStatic C n d).holds args s none s [] = true
  exact Cond.laysStatic_of h1 h2 h3 h4 h5 h6 h7 h8 h9
/-- .. and what it holds: null or some reference -/
def vx_Zq (C n d : String) (A : Nat → Prop) (U : State) (H : Heap) : Prop := va_Zq C n d A U H ∧ vx_L C n d A U H
theorem vx_Zq.moved {C n d : String} {A : Nat → Prop} {u U : State} {H : Heap} (hvm : u.vm.Alike U.vm) (h : vx_Zq C n d A u H) : vx_Zq C n d A U H := ⟨va_Zq.moved hvm h.1, vx_L.moved hvm h.2⟩
theorem vx_Zq.kept {C n d : String} {A : Nat → Prop} {U : State} {H H1 : Heap} (h : vx_Zq C n d A U H) (hq : ∀ a : Nat, a < H.size → ¬ A a → H1[a]? = H[a]?) : vx_Zq C n d A U H1 := ⟨va_Zq.kept h.1 hq, vx_L.kept h.2 hq⟩
theorem vx_Zq.narrow {C n d : String} {A B : Nat → Prop} {U : State} {H : Heap} (h : vx_Zq C n d A U H) (hAB : ∀ q, B q → A q) : vx_Zq C n d B U H := ⟨va_Zq.narrow h.1 hAB, vx_L.narrow h.2 hAB⟩
theorem vx_Zqof {args : Array Value} {s : State} {C n d : String} {A : Nat → Prop} (hl : (Cond.laysStatic C n d).before args s = true) (hini : (Cond.initialized C).before args s = true) (h : (Cond.isRef (.static C n d)).before args s = true) (hA : ∀ a : Nat, a < s.heap.size → ¬ A a) : vx_Zq C n d A s s.heap := by
  refine ⟨va_Zqof hl hini h hA, ?_⟩
  obtain ⟨c, k, i, f, a, cell, h1, h2, h3, h4, h5, h6, h7, h8, h9⟩ := Cond.laysStatic_spec hl
  exact ⟨c, k, i, f, a, cell, h1, h2, h3, h4, h5, h6, h7, h8, h9, hA a (Array.getElem?_eq_some_iff.mp h5).1⟩
theorem vx_isRef {C n d : String} {v : Value} {A : Nat → Prop} {s : State} {args : Array Value} (h : va_Z C n d v A s s.heap) (hv : v.isRef = true) : (Cond.isRef (.static C n d)).before args s = true := by
  obtain ⟨cf, kf, fi, f, a, cell, h1, h2, h3, h4, h5, h6, h7, -⟩ := h
  have he : (Term.static C n d).eval args s none [] s = some v := by
    simp [Term.eval, State.fieldNamed?, h1, h2, h4, h5, h6, h7]
  simp only [Cond.before, Cond.holds, Cond.value, he]
  cases v <;> simp_all [Value.isRef]
theorem vx_isRefq {C n d : String} {A : Nat → Prop} {s : State} {args : Array Value} (h : va_Zq C n d A s s.heap) : (Cond.isRef (.static C n d)).before args s = true := by
  rcases h with h | ⟨t, h⟩
  · exact vx_isRef h rfl
  · exact vx_isRef h rfl
/-- the same frame, seen from here: as if the method were called anew in this heap -/
theorem vx_rebase {T : State} (X : Stand p l e R s m args below meth c T locs cells slots) {R' : Room} (hf : R'.frames ≤ R.frames) (hl : R'.locals ≤ R.locals) (hc : cells + R'.cells ≤ R.cells) (hs : slots + R'.slots ≤ R.slots) :
    Stand p l e R' ((T.setVm s.vm).setFrames (.invoking m args :: below)) m args below meth c T [] 0 0 := by
  have htop : (T.setVm s.vm).topJava?.isSome := X.here.top
  have hF : ((T.setVm s.vm).setFrames (.invoking m args :: below)).frames = .invoking m args :: below := State.frames_setFrames _ (State.cur_lt_of_top htop)
  obtain ⟨g₀, hg0⟩ := Option.isSome_iff_exists.mp htop
  obtain ⟨r, hr⟩ := State.topJava?_eq_some.mp hg0
  have hl9 : e.platform.stackLimits (T.setVm s.vm).me = e.platform.stackLimits s.me := X.limits
  have hb9 : (T.setVm s.vm).me.stackBytes = s.me.stackBytes := X.bytes
  refine ⟨X.admits, X.cas, X.clock, hF, ?_, X.hears, X.method, X.code, X.here, X.tail, X.warmed, ?_, ?_, ?_⟩
  · have h := X.room
    have hU : ((T.setVm s.vm).setFrames (.invoking m args :: below)).localsInUse = s.localsInUse := by
      rw [State.localsInUse_invoking hF (meth := meth) (c := c) X.method X.code, State.localsInUse_invoking X.frames X.method X.code]
    simp only [State.hasRoom, Bool.and_eq_true, decide_eq_true_eq] at h ⊢
    obtain ⟨⟨⟨⟨h1, h2, h3, h4, h5, h6⟩, h7⟩, h8⟩, h9⟩ := h
    rw [X.frames, List.length_cons] at h2 h3
    have q1 := X.heapSize
    have q2 := X.used
    simp only [hF, hU, List.length_cons, State.stackLimits_setFrames, State.stackBytes_setFrames, hl9, hb9]
    refine ⟨⟨⟨⟨by omega, by omega, by omega, by omega, by omega, h6⟩, ?_⟩, ?_⟩, X.book⟩
    · show T.heap.size + R'.cells ≤ e.platform.maxCells
      omega
    · show T.slotsUsed + R'.slots ≤ e.platform.maxSlots
      omega
  · rw [State.stackLimits_setFrames]; rfl
  · rw [State.stackBytes_setFrames]; rfl
  · refine ⟨?_, Nat.le_refl _, Nat.le_refl _, ?_, ?_, fun a c9 h9 => ⟨c9, h9, rfl, rfl, fun _ _ => rfl⟩⟩
    · obtain ⟨t, ht, -⟩ := State.frames_cons hr
      show T.setVm s.vm = { ((T.setVm s.vm).setFrames (.invoking m args :: below)).setFrames (T.setVm s.vm).frames with heap := T.heap, slotsUsed := T.slotsUsed }
      rw [State.setFrames_setFrames, State.setFrames_self ht]
      rfl
    · show T.slotsUsed = T.slotsUsed + ((T.heap.toList.drop T.heap.size).map (·.slots.size)).sum
      rw [List.drop_eq_nil_of_le (Nat.le_of_eq Array.length_toList)]
      rfl
    · show ((T.heap.toList.drop T.heap.size).map (·.slots.size)).sum ≤ 0
      rw [List.drop_eq_nil_of_le (Nat.le_of_eq Array.length_toList)]
      exact Nat.le_refl _
/-- 'throw new E()': new; dup; invokespecial; athrow -/
theorem vx_throw0 {cc : ByteArray} {pc : Nat} (hexec : p.tables.exec = Jvm.exec) (hb : c.code = cc) (hl : l.stackTraces = false) {own cls : String} {names : List String} {ik ic mc ms : Nat} {A : Nat → Prop}
    (hown : s.vm.findClass own = some m.cls) (hcls : Bundle.fit cls = true) (hnames : ∀ n ∈ names, Bundle.fit n = true)
    (hk : (Cond.classLink own ik cls).before args s = true) (hini : (Cond.initialized cls).before args s = true) (hat : ∀ w ∈ vx_at0 own ic cls names, w.before args s = true)
    (hgood : ∀ w ∈ Cond.classLink own ik cls :: Cond.initialized cls :: vx_at0 own ic cls names, vx_ot w = true)
    (hU : vx_Zq Bundle.tN "UNASSIGNED_STACK" Bundle.steD A s s.heap) (hN : vx_Zq Bundle.tN "SUPPRESSED_SENTINEL" Bundle.listD A s s.heap) (hS : va_S A s.heap H locs) (hsize : ls.size = c.maxLocals)
    (d0 : decode cc pc = .ok (.new ik, 3)) (d3 : decode cc (pc + 3) = .ok (.dup, 1)) (d4 : decode cc (pc + 4) = .ok (.invokespecial ic, 3)) (d7 : decode cc (pc + 7) = .ok (.athrow, 1))
    (hout : ∀ x ∈ c.exceptionTable.toList, covers x (pc + 7) = false)
    (hRframes : names.length + 3 < R.frames) (hRlocals : (rest.map fun v => v.category).sum + (13 * (names.length + 1) + 42) ≤ R.locals) (hRcells : cells + 1 ≤ R.cells) (hRslots : slots + 6 ≤ R.slots) (hlocks : meth.locks = false)
    (hx : ∀ t : State, s.vm.Alike t.vm → H.size ≤ t.heap.size → (∀ q : Nat, q < H.size → t.heap[q]? = H[q]?) → XC cls s t)
    (hf : ∀ z ∈ locs, free z.base) (hc : cells + 1 ≤ mc) (hs : slots + 6 ≤ ms) :
    W p l e R s m args below meth c H locs cells slots (vx_MQ below Qc XC args s mc ms free) (F0 m pc ls rest) := by
  intro T hT X
  have htr : e.platform.stackTraces = false := (show e.platform.stackTraces = l.stackTraces by rw [X.admits.platform]).trans hl
  have Y := vx_rebase X (R' := { frames := R.frames, locals := R.locals, cells := 1, slots := 6 }) (Nat.le_refl _) (Nat.le_refl _) hRcells hRslots
  obtain ⟨s', hA⟩ : ∃ z, z = (T.setVm s.vm).setFrames (.invoking m args :: below) := ⟨_, rfl⟩
  rw [← hA] at Y
  have hvm : s'.vm = s.vm := by rw [hA]; rfl
  have hhp : s'.heap = H := by rw [hA]; exact hT
  have hW0 : s.WarmedH s'.vm := by rw [hvm]; exact State.WarmedH.refl s
  have hat' : ∀ w ∈ vx_at0 own ic cls names, w.before args s' = true := fun w hw => vx_ot_at hW0 hvm.symm (hgood w (List.mem_cons_of_mem _ (List.mem_cons_of_mem _ hw))) (hat w hw)
  have hk' : (Cond.classLink own ik cls).before args s' = true := vx_ot_at hW0 hvm.symm (hgood _ List.mem_cons_self) hk
  have hini' : (Cond.initialized cls).before args s' = true := vx_ot_at hW0 hvm.symm (hgood _ (List.mem_cons_of_mem _ List.mem_cons_self)) hini
  have hU' : vx_Zq Bundle.tN "UNASSIGNED_STACK" Bundle.steD A s' s'.heap := by rw [hhp]; exact vx_Zq.moved hW0.alike (hU.kept hS.2.1)
  have hN' : vx_Zq Bundle.tN "SUPPRESSED_SENTINEL" Bundle.listD A s' s'.heap := by rw [hhp]; exact vx_Zq.moved hW0.alike (hN.kept hS.2.1)
  have h : ∀ w ∈ Bundle.ownAtoms0 own ic cls names, w.before args s' = true := vx_own hat' (vx_isRefq hU'.1) (vx_isRefq hN'.1) hU'.2.word hN'.2.word
  have hown' : s'.vm.findClass own = some m.cls := by rw [hvm]; exact hown
  have hins : (Cond.instantiable cls 6).before args s' = true := h _ (by simp [Bundle.ownAtoms0])
  obtain ⟨vm₁, cX, kX, hfX, hkX, -, -, X₁, st1⟩ := Y.newCold hexec (own := own) (C := cls) (index := ik) (n := 6) hown' hk' hins hini'
    (g := F0 m pc ls rest) rfl (by rw [hb]; exact d0) (Nat.le_refl _) (Nat.le_refl _)
  generalize hT1 : (T.setVm vm₁).pushCell { cls := cX, slots := kX.instanceTypes.map defaultValue, vm := .none } = T1 at X₁ st1
  have hcat : (Value.ref T.heap.size).category = 1 := rfl
  have hcellA : T1.heap[T.heap.size]? = some (freshCell cX kX) := by rw [← hT1]; exact State.heap_pushCell_size _ _
  have d3' : decode c.code (pc + 3) = .ok (.dup, 1) := by rw [hb]; exact d3
  obtain ⟨U, hsteps, hrun, hend, hW, hsame, ce, hce, hO⟩ := X₁.ctorThrow0 hexec htr (own := own) (cls := cls) (names := names) (ic := ic) hown' hcls hnames h (fun x hx => nomatch hx) hfX hkX hcellA (by rw [hhp, hT]; exact Nat.le_refl _)
    (g := { method := m, pc := pc + 4, locals := ls, stack := .ref T.heap.size :: .ref T.heap.size :: rest, locked := none }) rfl hsize rfl rfl (rest := rest) rfl
    (by rw [hb]; exact d4) (by rw [hb]; exact d7) hout hRframes (by simp only [List.map_cons, List.sum_cons, hcat]; omega) hlocks
  obtain ⟨f1, f2⟩ := vx_frame hsame
  rw [hhp] at f1 f2
  have hWs : s.WarmedH U.vm := State.WarmedH.trans hW0 hW
  have hcl : s.vm.findClass cls = some ce.cls := by
    have h9 := hO.cls
    rw [hvm] at h9
    exact h9
  have hall : s.sameButNew ({ U with vm := s.vm } : State) locs mc ms := by
    subst hA
    obtain ⟨e1, e2⟩ := hsame
    rw [State.setFrames_setFrames] at e1
    have h2 : (T.setVm s.vm).sameButNew ({ U with vm := s.vm } : State) [] (0 + 1) (0 + 6) := ⟨e1, e2⟩
    have h3 := X.same.trans h2
    rw [List.append_nil] at h3
    exact h3.mono hc hs
  refine ⟨U, ?_, .threw T.heap.size, hrun, hend, Or.inr ⟨T.heap.size, rfl, cls, ce, locs, hx U hWs.alike f1 (fun q hq => f2 q hq (fun z hz => nomatch hz)), hce, hO.vm, hcl, hWs, hall, hf⟩⟩
  refine st1 _ ?_
  show Steps p.tables e below (T1.setTop { method := m, pc := pc + 3, locals := ls, stack := .ref T.heap.size :: rest, locked := none }) _
  jvm_step X₁.here [X₁.here.top, hexec, d3', Value.category]
  exact hsteps
/-- 'throw new E("text")': new; dup; ldc; invokespecial; athrow -/
theorem vx_throwS {cc : ByteArray} {pc : Nat} (hexec : p.tables.exec = Jvm.exec) (hb : c.code = cc) (hl : l.stackTraces = false) {own cls text : String} {names : List String} {ik is ic mc ms sa : Nat} {A : Nat → Prop}
    (hown : s.vm.findClass own = some m.cls) (hcls : Bundle.fit cls = true) (hnames : ∀ n ∈ names, Bundle.fit n = true)
    (hk : (Cond.classLink own ik cls).before args s = true) (hini : (Cond.initialized cls).before args s = true) (hstr : vk_R own is text sa s) (hat : ∀ w ∈ vx_atS own ic cls names, w.before args s = true)
    (hgood : ∀ w ∈ Cond.classLink own ik cls :: Cond.initialized cls :: vx_atS own ic cls names, vx_ot w = true)
    (hU : vx_Zq Bundle.tN "UNASSIGNED_STACK" Bundle.steD A s s.heap) (hN : vx_Zq Bundle.tN "SUPPRESSED_SENTINEL" Bundle.listD A s s.heap) (hS : va_S A s.heap H locs) (hsize : ls.size = c.maxLocals)
    (d0 : decode cc pc = .ok (.new ik, 3)) (d3 : decode cc (pc + 3) = .ok (.dup, 1)) (d4 : decode cc (pc + 4) = .ok (.ldc is, 2)) (d6 : decode cc (pc + 6) = .ok (.invokespecial ic, 3)) (d9 : decode cc (pc + 9) = .ok (.athrow, 1))
    (hout : ∀ x ∈ c.exceptionTable.toList, covers x (pc + 9) = false)
    (hRframes : names.length + 3 < R.frames) (hRlocals : (rest.map fun v => v.category).sum + (13 * (names.length + 1) + 43) ≤ R.locals) (hRcells : cells + 1 ≤ R.cells) (hRslots : slots + 6 ≤ R.slots) (hlocks : meth.locks = false)
    (hx : ∀ t : State, s.vm.Alike t.vm → H.size ≤ t.heap.size → (∀ q : Nat, q < H.size → t.heap[q]? = H[q]?) → XC cls s t)
    (hf : ∀ z ∈ locs, free z.base) (hc : cells + 1 ≤ mc) (hs : slots + 6 ≤ ms) :
    W p l e R s m args below meth c H locs cells slots (vx_MQ below Qc XC args s mc ms free) (F0 m pc ls rest) := by
  intro T hT X
  have htr : e.platform.stackTraces = false := (show e.platform.stackTraces = l.stackTraces by rw [X.admits.platform]).trans hl
  have Y := vx_rebase X (R' := { frames := R.frames, locals := R.locals, cells := 1, slots := 6 }) (Nat.le_refl _) (Nat.le_refl _) hRcells hRslots
  obtain ⟨s', hA⟩ : ∃ z, z = (T.setVm s.vm).setFrames (.invoking m args :: below) := ⟨_, rfl⟩
  rw [← hA] at Y
  have hvm : s'.vm = s.vm := by rw [hA]; rfl
  have hhp : s'.heap = H := by rw [hA]; exact hT
  have hW0 : s.WarmedH s'.vm := by rw [hvm]; exact State.WarmedH.refl s
  have hat' : ∀ w ∈ vx_atS own ic cls names, w.before args s' = true := fun w hw => vx_ot_at hW0 hvm.symm (hgood w (List.mem_cons_of_mem _ (List.mem_cons_of_mem _ hw))) (hat w hw)
  have hk' : (Cond.classLink own ik cls).before args s' = true := vx_ot_at hW0 hvm.symm (hgood _ List.mem_cons_self) hk
  have hini' : (Cond.initialized cls).before args s' = true := vx_ot_at hW0 hvm.symm (hgood _ (List.mem_cons_of_mem _ List.mem_cons_self)) hini
  have hU' : vx_Zq Bundle.tN "UNASSIGNED_STACK" Bundle.steD A s' s'.heap := by rw [hhp]; exact vx_Zq.moved hW0.alike (hU.kept hS.2.1)
  have hN' : vx_Zq Bundle.tN "SUPPRESSED_SENTINEL" Bundle.listD A s' s'.heap := by rw [hhp]; exact vx_Zq.moved hW0.alike (hN.kept hS.2.1)
  have h : ∀ w ∈ Bundle.ownAtoms own ic cls names, w.before args s' = true := vx_own hat' (vx_isRefq hU'.1) (vx_isRefq hN'.1) hU'.2.word hN'.2.word
  have hown' : s'.vm.findClass own = some m.cls := by rw [hvm]; exact hown
  have hins : (Cond.instantiable cls 6).before args s' = true := h _ (by simp [Bundle.ownAtoms])
  obtain ⟨vm₁, cX, kX, hfX, hkX, -, -, X₁, st1⟩ := Y.newCold hexec (own := own) (C := cls) (index := ik) (n := 6) hown' hk' hins hini'
    (g := F0 m pc ls rest) rfl (by rw [hb]; exact d0) (Nat.le_refl _) (Nat.le_refl _)
  generalize hT1 : (T.setVm vm₁).pushCell { cls := cX, slots := kX.instanceTypes.map defaultValue, vm := .none } = T1 at X₁ st1
  have hcat : (Value.ref T.heap.size).category = 1 := rfl
  have hcellA : T1.heap[T.heap.size]? = some (freshCell cX kX) := by rw [← hT1]; exact State.heap_pushCell_size _ _
  have d3' : decode c.code (pc + 3) = .ok (.dup, 1) := by rw [hb]; exact d3
  have d4' : decode c.code (pc + 4) = .ok (.ldc is, 2) := by rw [hb]; exact d4
  have hstr' : vk_R own is text sa s' := vk_R.warm hW0 hstr
  obtain ⟨U, hsteps, hrun, hend, hW, hsame, ce, hce, hO⟩ := X₁.ctorThrowS hexec htr (own := own) (cls := cls) (names := names) (ic := ic) hown' hcls hnames h (fun x hx => nomatch hx) hfX hkX hcellA (by rw [hhp, hT]; exact Nat.le_refl _) (msg := .ref sa) rfl
    (g := { method := m, pc := pc + 6, locals := ls, stack := .ref sa :: .ref T.heap.size :: .ref T.heap.size :: rest, locked := none }) rfl hsize rfl rfl (rest := rest) rfl
    (by rw [hb]; exact d6) (by rw [hb]; exact d9) hout hRframes (by simp only [List.map_cons, List.sum_cons, hcat]; omega) hlocks
  obtain ⟨f1, f2⟩ := vx_frame hsame
  rw [hhp] at f1 f2
  have hWs : s.WarmedH U.vm := State.WarmedH.trans hW0 hW
  have hcl : s.vm.findClass cls = some ce.cls := by
    have h9 := hO.cls
    rw [hvm] at h9
    exact h9
  have hall : s.sameButNew ({ U with vm := s.vm } : State) locs mc ms := by
    subst hA
    obtain ⟨e1, e2⟩ := hsame
    rw [State.setFrames_setFrames] at e1
    have h2 : (T.setVm s.vm).sameButNew ({ U with vm := s.vm } : State) [] (0 + 1) (0 + 6) := ⟨e1, e2⟩
    have h3 := X.same.trans h2
    rw [List.append_nil] at h3
    exact h3.mono hc hs
  refine ⟨U, ?_, .threw T.heap.size, hrun, hend, Or.inr ⟨T.heap.size, rfl, cls, ce, locs, hx U hWs.alike f1 (fun q hq => f2 q hq (fun z hz => nomatch hz)), hce, hO.vm, hcl, hWs, hall, hf⟩⟩
  refine st1 _ ?_
  show Steps p.tables e below (T1.setTop { method := m, pc := pc + 3, locals := ls, stack := .ref T.heap.size :: rest, locked := none }) _
  jvm_step X₁.here [X₁.here.top, hexec, d3', Value.category]
  exact X₁.ldcString hexec (own := own) (text := text) (index := is) (a := sa) hown' hstr'.1 hstr'.2
    (g := { method := m, pc := pc + 4, locals := ls, stack := .ref T.heap.size :: .ref T.heap.size :: rest, locked := none }) rfl d4' _ hsteps
/-- 'throw new E("text")', the text by a wide index -/
theorem vx_throwSW {cc : ByteArray} {pc : Nat} (hexec : p.tables.exec = Jvm.exec) (hb : c.code = cc) (hl : l.stackTraces = false) {own cls text : String} {names : List String} {ik is ic mc ms sa : Nat} {A : Nat → Prop}
    (hown : s.vm.findClass own = some m.cls) (hcls : Bundle.fit cls = true) (hnames : ∀ n ∈ names, Bundle.fit n = true)
    (hk : (Cond.classLink own ik cls).before args s = true) (hini : (Cond.initialized cls).before args s = true) (hstr : vk_R own is text sa s) (hat : ∀ w ∈ vx_atS own ic cls names, w.before args s = true)
    (hgood : ∀ w ∈ Cond.classLink own ik cls :: Cond.initialized cls :: vx_atS own ic cls names, vx_ot w = true)
    (hU : vx_Zq Bundle.tN "UNASSIGNED_STACK" Bundle.steD A s s.heap) (hN : vx_Zq Bundle.tN "SUPPRESSED_SENTINEL" Bundle.listD A s s.heap) (hS : va_S A s.heap H locs) (hsize : ls.size = c.maxLocals)
    (d0 : decode cc pc = .ok (.new ik, 3)) (d3 : decode cc (pc + 3) = .ok (.dup, 1)) (d4 : decode cc (pc + 4) = .ok (.ldc_w is, 3)) (d7 : decode cc (pc + 7) = .ok (.invokespecial ic, 3)) (d10 : decode cc (pc + 10) = .ok (.athrow, 1))
    (hout : ∀ x ∈ c.exceptionTable.toList, covers x (pc + 10) = false)
    (hRframes : names.length + 3 < R.frames) (hRlocals : (rest.map fun v => v.category).sum + (13 * (names.length + 1) + 43) ≤ R.locals) (hRcells : cells + 1 ≤ R.cells) (hRslots : slots + 6 ≤ R.slots) (hlocks : meth.locks = false)
    (hx : ∀ t : State, s.vm.Alike t.vm → H.size ≤ t.heap.size → (∀ q : Nat, q < H.size → t.heap[q]? = H[q]?) → XC cls s t)
    (hf : ∀ z ∈ locs, free z.base) (hc : cells + 1 ≤ mc) (hs : slots + 6 ≤ ms) :
    W p l e R s m args below meth c H locs cells slots (vx_MQ below Qc XC args s mc ms free) (F0 m pc ls rest) := by
  intro T hT X
  have htr : e.platform.stackTraces = false := (show e.platform.stackTraces = l.stackTraces by rw [X.admits.platform]).trans hl
  have Y := vx_rebase X (R' := { frames := R.frames, locals := R.locals, cells := 1, slots := 6 }) (Nat.le_refl _) (Nat.le_refl _) hRcells hRslots
  obtain ⟨s', hA⟩ : ∃ z, z = (T.setVm s.vm).setFrames (.invoking m args :: below) := ⟨_, rfl⟩
  rw [← hA] at Y
  have hvm : s'.vm = s.vm := by rw [hA]; rfl
  have hhp : s'.heap = H := by rw [hA]; exact hT
  have hW0 : s.WarmedH s'.vm := by rw [hvm]; exact State.WarmedH.refl s
  have hat' : ∀ w ∈ vx_atS own ic cls names, w.before args s' = true := fun w hw => vx_ot_at hW0 hvm.symm (hgood w (List.mem_cons_of_mem _ (List.mem_cons_of_mem _ hw))) (hat w hw)
  have hk' : (Cond.classLink own ik cls).before args s' = true := vx_ot_at hW0 hvm.symm (hgood _ List.mem_cons_self) hk
  have hini' : (Cond.initialized cls).before args s' = true := vx_ot_at hW0 hvm.symm (hgood _ (List.mem_cons_of_mem _ List.mem_cons_self)) hini
  have hU' : vx_Zq Bundle.tN "UNASSIGNED_STACK" Bundle.steD A s' s'.heap := by rw [hhp]; exact vx_Zq.moved hW0.alike (hU.kept hS.2.1)
  have hN' : vx_Zq Bundle.tN "SUPPRESSED_SENTINEL" Bundle.listD A s' s'.heap := by rw [hhp]; exact vx_Zq.moved hW0.alike (hN.kept hS.2.1)
  have h : ∀ w ∈ Bundle.ownAtoms own ic cls names, w.before args s' = true := vx_own hat' (vx_isRefq hU'.1) (vx_isRefq hN'.1) hU'.2.word hN'.2.word
  have hown' : s'.vm.findClass own = some m.cls := by rw [hvm]; exact hown
  have hins : (Cond.instantiable cls 6).before args s' = true := h _ (by simp [Bundle.ownAtoms])
  obtain ⟨vm₁, cX, kX, hfX, hkX, -, -, X₁, st1⟩ := Y.newCold hexec (own := own) (C := cls) (index := ik) (n := 6) hown' hk' hins hini'
    (g := F0 m pc ls rest) rfl (by rw [hb]; exact d0) (Nat.le_refl _) (Nat.le_refl _)
  generalize hT1 : (T.setVm vm₁).pushCell { cls := cX, slots := kX.instanceTypes.map defaultValue, vm := .none } = T1 at X₁ st1
  have hcat : (Value.ref T.heap.size).category = 1 := rfl
  have hcellA : T1.heap[T.heap.size]? = some (freshCell cX kX) := by rw [← hT1]; exact State.heap_pushCell_size _ _
  have d3' : decode c.code (pc + 3) = .ok (.dup, 1) := by rw [hb]; exact d3
  have d4' : decode c.code (pc + 4) = .ok (.ldc_w is, 3) := by rw [hb]; exact d4
  have hstr' : vk_R own is text sa s' := vk_R.warm hW0 hstr
  obtain ⟨U, hsteps, hrun, hend, hW, hsame, ce, hce, hO⟩ := X₁.ctorThrowS hexec htr (own := own) (cls := cls) (names := names) (ic := ic) hown' hcls hnames h (fun x hx => nomatch hx) hfX hkX hcellA (by rw [hhp, hT]; exact Nat.le_refl _) (msg := .ref sa) rfl
    (g := { method := m, pc := pc + 7, locals := ls, stack := .ref sa :: .ref T.heap.size :: .ref T.heap.size :: rest, locked := none }) rfl hsize rfl rfl (rest := rest) rfl
    (by rw [hb]; exact d7) (by rw [hb]; exact d10) hout hRframes (by simp only [List.map_cons, List.sum_cons, hcat]; omega) hlocks
  obtain ⟨f1, f2⟩ := vx_frame hsame
  rw [hhp] at f1 f2
  have hWs : s.WarmedH U.vm := State.WarmedH.trans hW0 hW
  have hcl : s.vm.findClass cls = some ce.cls := by
    have h9 := hO.cls
    rw [hvm] at h9
    exact h9
  have hall : s.sameButNew ({ U with vm := s.vm } : State) locs mc ms := by
    subst hA
    obtain ⟨e1, e2⟩ := hsame
    rw [State.setFrames_setFrames] at e1
    have h2 : (T.setVm s.vm).sameButNew ({ U with vm := s.vm } : State) [] (0 + 1) (0 + 6) := ⟨e1, e2⟩
    have h3 := X.same.trans h2
    rw [List.append_nil] at h3
    exact h3.mono hc hs
  refine ⟨U, ?_, .threw T.heap.size, hrun, hend, Or.inr ⟨T.heap.size, rfl, cls, ce, locs, hx U hWs.alike f1 (fun q hq => f2 q hq (fun z hz => nomatch hz)), hce, hO.vm, hcl, hWs, hall, hf⟩⟩
  refine st1 _ ?_
  show Steps p.tables e below (T1.setTop { method := m, pc := pc + 3, locals := ls, stack := .ref T.heap.size :: rest, locked := none }) _
  jvm_step X₁.here [X₁.here.top, hexec, d3', Value.category]
  exact X₁.ldcStringW hexec (own := own) (text := text) (index := is) (a := sa) hown' hstr'.1 hstr'.2
    (g := { method := m, pc := pc + 4, locals := ls, stack := .ref T.heap.size :: .ref T.heap.size :: rest, locked := none }) rfl d4' _ hsteps
end Ends
section Bodies
variable {l : Launch}
theorem vx_ofW {y : MethodName} {ws ws' : List Cond} {rm : Room} {Pc : Array Value → State → Prop} {Qc : Array Value → State → Outcome → State → Prop} {XC : String → State → State → Prop} {mc ms : Nat} {free : Addr → Prop} {cc : ByteArray} {maxL : Nat} {ret : Option FieldType}
    (hy : plainName y.cls = true) (hw : ws = Cond.code y cc maxL ret :: ws')
    (body : ∀ p e s m args below meth c s₁, BodyLoose p l y (headSpec ws rm) cc maxL ret e s m args below meth c s₁ → c.maxLocals = maxL → (∀ x ∈ c.exceptionTable.toList, False) → Pc args s →
      W p l e (headSpec ws rm).room s m args below meth c s.heap [] 0 0 (vx_MQ below Qc XC args s mc ms free) (entryFrame m args maxL)) : vx_Met l y ws rm Pc Qc XC mc ms free := by
  refine MetFree.of_bodyS (code := cc) (maxLocals := maxL) (ret := ret) hy ?_ ?_
  · intro args s m h hn
    obtain ⟨meth, c, h1, h2, h3, h4, h5, h6, -, -⟩ := Cond.code_spec hn (atoms_spec (ws := ws) h _ (by rw [hw]; exact List.mem_cons_self))
    exact ⟨meth, c, h1, h2, h3, h4, h5, h6⟩
  · intro p e s m args below meth c s₁ B hml hP _
    have hh0 : s₁.heap = s.heap := by rw [B.state]; rfl
    have ht : ∀ x ∈ c.exceptionTable.toList, False := by
      obtain ⟨meth9, c9, h1, h2, -, -, -, -, h7, -⟩ := Cond.code_spec B.named (atoms_spec (ws := ws) B.pre _ (by rw [hw]; exact List.mem_cons_self))
      cases Option.some.inj (h1.symm.trans B.method)
      cases Option.some.inj (h2.symm.trans (Stand.of_body B).code)
      intro x hx
      rw [Array.isEmpty_iff.mp h7] at hx
      cases hx
    obtain ⟨t, a1, o, b1, b2, b3⟩ := body p e s m args below meth c s₁ B hml ht hP s₁ hh0 (Stand.of_body B)
    exact ⟨t, o, a1, b1, b2, b3⟩
/-- the table of a body with handlers -/
theorem vx_table {p : Program} {x y : MethodName} {S : Spec} {cc bytes : ByteArray} {maxL maxL' : Nat} {ret ret' : Option FieldType} {e : Env} {s s₁ : State} {m : MethodId} {args : Array Value} {below : List Frame} {meth : Method} {c : Code} {hh : List (Nat × Nat × Nat × Nat)}
    (B : BodyLoose p l y S cc maxL ret e s m args below meth c s₁) (h : (Cond.codeWith y bytes maxL' ret' hh).before args s = true) : c.exceptionTable.toList = tableOf hh := by
  obtain ⟨m9, meth9, c9, hn9, h1, h2, -, -, h6, -⟩ := Cond.codeWith_spec h
  cases Option.some.inj (hn9.symm.trans B.named)
  cases Option.some.inj (h1.symm.trans B.method)
  cases Option.some.inj (h2.symm.trans (Stand.of_body B).code)
  rw [← h6, table_eq]
end Bodies
end VXA
/-! ===== END ===== -/
/-! ===== BEGIN a static call of a method with an exception table ===== -/
section VXS
variable {p : Program} {l : Launch} {e : Env} {R : Room} {s : State} {m : MethodId} {args : Array Value} {below : List Frame} {meth : Method} {c : Code} {T : State} {H : Heap} {locs : List Loc} {cells slots : Nat}
abbrev vx_CSW (R : Room) (s : State) (args : Array Value) (own : String) (index : Nat) (y : MethodName) (bytes : ByteArray) (maxL : Nat) (ret : Option FieldType) (hh : List (Nat × Nat × Nat × Nat)) (ws : List Cond) (rm : Room) (mc ms n : Nat) : Prop :=
  (rm.cells = mc ∧ rm.slots = ms ∧ rm.frames + 1 ≤ R.frames ∧ 8 + (maxL + 11) + rm.locals ≤ R.locals ∧ (∀ w ∈ ws, ∀ (a' : Array Value) (U : State), s.WarmedH U.vm → w.before a' U = true) ∧ Cond.codeWith y bytes maxL ret hh ∈ ws) ∧
  (Cond.codeWith y bytes maxL ret hh).before args s = true ∧ (Cond.initialized y.cls).before args s = true ∧ (y.cls ≠ "java/lang/invoke/MethodHandle" ∧ y.cls ≠ "java/lang/invoke/VarHandle") ∧
  (∀ sig, parseMethodDescriptor y.desc = some sig → n = sig.parameters.length) ∧ (Cond.methodLink own index y).before args s = true ∧ (Cond.static y).before args s = true
theorem vx_cwSW {own : String} {index maxL mc ms : Nat} {y : MethodName} {bytes : ByteArray} {ret : Option FieldType} {hh : List (Nat × Nat × Nat × Nat)} {Ts ws ws' : List Cond} {rm : Room} (n : Nat) (ht : ∀ w ∈ Ts, w.before args s = true) (hT : GoodIn Ts (va_wsS own index y ws)) (hw : ws = Cond.codeWith y bytes maxL ret hh :: ws') (hrc : rm.cells = mc) (hrs : rm.slots = ms)
    (hd : y.cls ≠ "java/lang/invoke/MethodHandle" ∧ y.cls ≠ "java/lang/invoke/VarHandle" ∧ (parseMethodDescriptor y.desc).map (fun d => d.parameters.length) = some n) (hR : rm.frames + 1 ≤ R.frames ∧ 8 + (maxL + 11) + rm.locals ≤ R.locals) :
    vx_CSW R s args own index y bytes maxL ret hh ws rm mc ms n := by
  have ok : ∀ w ∈ va_wsS own index y ws, w.before args s = true := fun w h => ht w (hT w h).1
  have hG : GoodIn Ts ws := fun w h => hT w (by unfold va_wsS; exact List.mem_append_right _ h)
  have hc : Cond.codeWith y bytes maxL ret hh ∈ ws := by rw [hw]; exact List.mem_cons_self
  refine ⟨⟨hrc, hrs, hR.1, hR.2, pay_in ht hG, hc⟩, ht _ (hG _ hc).1, ok _ (by simp [va_wsS]), ⟨hd.1, hd.2.1⟩, fun sig h => ?_, ok _ (by simp [va_wsS]), ok _ (by simp [va_wsS])⟩
  have h2 := hd.2.2
  rw [h] at h2
  exact (Option.some.inj h2).symm
theorem vx_callSW (X : Stand p l e R s m args below meth c T locs cells slots) (hexec : p.tables.exec = Jvm.exec) {own : String} {index : Nat} {y : MethodName} {bytes : ByteArray} {maxL : Nat} {ret : Option FieldType} {hh : List (Nat × Nat × Nat × Nat)}
    (hown : s.vm.findClass own = some m.cls) (hlink : (Cond.methodLink own index y).before args s = true) (hstat : (Cond.static y).before args s = true) (hinit : (Cond.initialized y.cls).before args s = true)
    (hcode : (Cond.codeWith y bytes maxL ret hh).before args s = true) (hy : y.cls ≠ "java/lang/invoke/MethodHandle" ∧ y.cls ≠ "java/lang/invoke/VarHandle")
    {W9 : Nat} {Pre : Pt → Array Value → Prop} {Post : Pt → Array Value → Option Value → Pt → Prop} (hK : Back l R p e below s args y 3 W9 Pre Post)
    {g : JFrame} (hg : g.method = m) (hsize : g.locals.size = c.maxLocals) {argsL rest : List Value} (hlen : ∀ sig, parseMethodDescriptor y.desc = some sig → argsL.length = sig.parameters.length)
    (hstack : g.stack = argsL.reverse ++ rest) (hW : 2 * g.monitorRoom + (rest.map fun v => v.category).sum ≤ W9) (hdg : decode c.code g.pc = .ok (.invokestatic index, 3))
    (hpre : ∀ vm₁, s.WarmedH vm₁ → Pre ⟨T.setVm vm₁, locs, cells, slots⟩ argsL.toArray) :
    ∃ (v : Option Value) (vm₁ : Vm) (B : Pt), s.WarmedH vm₁ ∧ Stand p l e R s m args below meth c B.U B.locs B.cells B.slots ∧ Post ⟨T.setVm vm₁, locs, cells, slots⟩ argsL.toArray v B ∧
      ∀ target, Steps p.tables e below (B.U.setTop { g with pc := g.pc + 3, stack := v.toList ++ rest }) target → Steps p.tables e below (T.setTop g) target := by
  obtain ⟨mk, methM, cM, hnamed, hmethM, -, -, -, -, -, -, hsigM⟩ := Cond.codeWith_spec hcode
  have hstatic : methM.isStatic = true := Cond.static_spec hnamed hmethM hstat
  obtain ⟨kP, hkP, -⟩ := className_of_methodNamed hnamed
  have hinitP : kP.init = .initialized := Cond.initialized_spec (findClass_of_methodNamed hnamed) hkP hinit
  obtain ⟨vm₁, X₁, hstep₁⟩ := X.invokestatic hexec hown hlink hnamed hmethM hstatic hkP hinitP hy (g := g) hg (argsL := argsL) (rest := rest) (hlen _ hsigM) hstack hdg
  obtain ⟨v, B, X', hpost, hsteps⟩ := hK m meth c ⟨T.setVm vm₁, locs, cells, slots⟩ { g with stack := rest } (.invokestatic index) mk argsL.toArray X₁ hg hsize hdg hW (X₁.named hnamed) (hpre vm₁ X₁.warmed)
  exact ⟨v, vm₁, B, X₁.warmed, X', hpost, fun target h => hstep₁ _ fun acts => by rw [doInvoke_state]; exact hsteps.trans h⟩
theorem vx_runSW {y : MethodName} {bytes cc : ByteArray} {maxL nL mc ms n index : Nat} {ret : Option FieldType} {hh : List (Nat × Nat × Nat × Nat)} {ws : List Cond} {rm : Room} {Pc : Array Value → State → Prop} {Qc : Array Value → State → Outcome → State → Prop} {free : Addr → Prop} {Ts : List Cond} {own : String} {As rest : List Value} {g : JFrame}
    (S : CallFix p m c cc nL s args Ts own) (hM : Met l y ws rm Pc Qc mc ms free) (cw : vx_CSW R s args own index y bytes maxL ret hh ws rm mc ms n) (hp : PreS s H Pc As)
    (hg : g.method = m) (hn : As.length = n) (hsize : g.locals.size = nL) (hstack : g.stack = As.reverse ++ rest) (hW : 2 * g.monitorRoom + (rest.map fun v => v.category).sum ≤ 8) (hdg : decode cc g.pc = .ok (.invokestatic index, 3)) (hf : cells + mc ≤ R.cells ∧ slots + ms ≤ R.slots) :
    va_Run p l e R s m args below meth c H locs cells slots mc ms g rest (Qc As.toArray) (free) := by
  obtain ⟨⟨hrc, hrs, hfr, hlo, hws, hcw⟩, hcode, hini, hy, hlen, hl, hstt⟩ := cw
  have hK : Back l R p e below s args y 3 8 (PreOf R mc ms Pc) (PostOf Qc mc ms free) := va_backW (hh := hh) (bytes := bytes) (maxL := maxL) (ret := ret) hM hp.1 hrc hrs hfr hlo hws hcw (fun a' U hW => word_at hW (Or.inl (by first | rfl | simp [Cond.onTables, Cond.keeps, Cond.steady])) hini)
  obtain ⟨hx, hb, hml, ho, -⟩ := S
  intro T hT X
  obtain ⟨v, vm₁, ⟨U', l2, c2, s2⟩, hW₁, X', ⟨g', mk, t, L, e1, e2, hq, h1, hL, h2, h3⟩, st⟩ := vx_callSW X hx (hh := hh) (bytes := bytes) (maxL := maxL) (ret := ret) ho hl hstt hini hcode hy hK hg (hsize.trans hml.symm) (argsL := As) (rest := rest) (fun sig h => hn.trans (hlen sig h)) hstack hW (by rw [hb]; exact hdg)
    (fun vm₁ hW₁ => ⟨hf.1, hf.2, hp.2 (T.setVm vm₁) hT hW₁⟩)
  dsimp only [Pt.U, Pt.locs, Pt.cells, Pt.slots] at X' e1 e2 h1 h2 h3 st
  subst h1; subst h2; subst h3
  exact ⟨v, (T.setVm vm₁).calling g' mk As.toArray, t, U', L, hT, X', hL, e1, e2, hq, st⟩
/-- not caught here, past rows that name other classes: it goes on to the caller -/
theorem vx_outP {p : Program} {l : Launch} {e : Env} {R : Room} {s : State} {m : MethodId} {args : Array Value} {below : List Frame} {meth : Method} {c : Code} {H : Heap} {locs : List Loc} {cells slots : Nat} {free : Addr → Prop} {ls : Array Slot} {rest : List Value} {Qc : Array Value → State → Outcome → State → Prop} {XC : String → State → State → Prop}
    {pc : Nat} {own E : String} {ce : Cell} {q : Addr} {mc ms : Nat} (hown : s.vm.findClass own = some m.cls) (hlocks : meth.locks = false)
    (hpass : ∀ z ∈ c.exceptionTable.toList, covers z pc = false ∨ (z.catchType ≠ 0 ∧ ∃ nm : String, (Cond.classLink own z.catchType nm).before args s = true ∧ va_Nc E nm s)) (hcell : H[q]? = some ce) (hv : ce.vm = .none) (hcl : s.vm.findClass E = some ce.cls)
    (hx : ∀ t : State, t.heap = H → s.vm.Alike t.vm → XC E s t) (hf : ∀ z ∈ locs, free z.base) (hc : cells ≤ mc) (hs : slots ≤ ms) :
    vx_W p l e R s m args below meth c H locs cells slots (vx_MQ below Qc XC args s mc ms free) (F0 m pc ls rest) q := by
  intro T hT X
  have hpl : e.platform.magicAccessors = ({} : Platform).magicAccessors := by rw [X.admits.platform]
  obtain ⟨vm', hW', X', st⟩ := X.outThrough hlocks q (g := F0 m pc ls rest) rfl rfl rfl (cell := ce) (by rw [hT]; exact hcell) (by rw [hv]; rfl)
    (by obtain ⟨k9, h9, -⟩ := Vm.findClass_spec hcl; exact ⟨k9, h9⟩) (fun z hz => by
      rcases hpass z hz with h | ⟨hz0, nm, hl1, hn1⟩
      · exact Or.inl h
      · obtain ⟨c6, hc6, hcl6⟩ := Cond.classLink_spec hown hl1 e.platform hpl
        obtain ⟨a8, b8, h1, h2, h3⟩ := hn1
        cases Option.some.inj (h1.symm.trans hcl)
        cases Option.some.inj (h2.symm.trans hc6)
        exact Or.inr ⟨hz0, _, hcl6, h3⟩)
  obtain ⟨g₀, hfr⟩ := X'.frames_eq
  have hcell9 : ((T.setVm vm').setFrames (.throwing q :: below)).heap[q]? = some ce := by
    show T.heap[q]? = some ce
    rw [hT]; exact hcell
  have hend : Ended ((T.setVm vm').setFrames (.throwing q :: below)) below (.threw q) := State.frames_setFrames _ (State.cur_lt_of_frames hfr)
  refine ⟨(T.setVm vm').setFrames (.throwing q :: below), ?_, .threw q, X'.here.running, hend, Or.inr ⟨q, rfl, E, ce, locs, hx _ hT (X'.ends _).1.alike, hcell9, hv, hcl, (X'.ends _).1, (X'.ends _).2.mono hc hs, hf⟩⟩
  rw [X.pushThrowing_eq]
  exact st
/-- a thing of a world lies in the heap -/
theorem vx_lt {D : va_G} {cl : List vw_C} {ws : va_W} {H1 : Heap} (h : va_P D cl ws H1) {k : Nat} {q : Nat × va_E} (hk : ws[k]? = some q) : q.1 < H1.size := (h k q hk).lt
end VXS
/-! ===== END ===== -/
/-! ===== BEGIN methods with a table of their own: called by a name, returning or throwing ===== -/
section VXH
/-! vx_backW, vx_callVX, vx_callSX, vx_callVW, vx_runVW, vx_runVX, vx_runSX, vx_ofWH follow the same proofs as their sisters above (Free/Laws.lean, Shelf42/LK1.lean); vx_outP calls Shelf42/NT130.lean (outThrough). -/
section
variable {l : Launch} {R : Room} {p : Program} {e : Env} {below : List Frame} {s : State} {sargs : Array Value} {y : MethodName} {len W9 : Nat}
theorem vx_backW {ws : List Cond} {rm : Room} {Pc : Array Value → State → Prop} {Qc : Array Value → State → Outcome → State → Prop} {XC : String → State → State → Prop} {mc ms : Nat} {free : Addr → Prop} {bytes : ByteArray} {maxL : Nat} {ret : Option FieldType} {hh : List (Nat × Nat × Nat × Nat)}
    (hM : vx_Met l y ws rm Pc Qc XC mc ms free) (hblind : FrameBlind Pc) (hrc : rm.cells = mc) (hrs : rm.slots = ms)
    (hframes : rm.frames + 1 ≤ R.frames) (hlocals : W9 + (maxL + 11) + rm.locals ≤ R.locals)
    (hws : ∀ w ∈ ws, ∀ a' U, s.WarmedH U.vm → w.before a' U = true) (hcode : Cond.codeWith y bytes maxL ret hh ∈ ws) (hinit : ∀ a' U, s.WarmedH U.vm → (Cond.initialized y.cls).before a' U = true) :
    vx_Back l R p e below s sargs y len W9 (PreOf R mc ms Pc) (PostOf Qc mc ms free) (vx_Post XC mc ms free) := by
  intro m meth c A g ig mk a X hg hsize hdg hW hn hp
  have h1 : (headSpec ws rm).pre.before a A.U = true := atoms_intro fun w hw => hws w hw _ _ X.warmed
  have h2 : (Cond.codeWith y bytes maxL ret hh).before a A.U = true := hws _ hcode _ _ X.warmed
  have h3 : (Cond.initialized y.cls).before a A.U = true := hinit _ _ X.warmed
  have h4 : A.cells + (headSpec ws rm).room.cells ≤ R.cells := by rw [show (headSpec ws rm).room.cells = mc from hrc]; exact hp.1
  have h5 : A.slots + (headSpec ws rm).room.slots ≤ R.slots := by rw [show (headSpec ws rm).room.slots = ms from hrs]; exact hp.2.1
  have hPc : Pc a (A.U.calling g mk a) := hblind _ _ _ _ hp.2.2
  obtain ⟨U, Ls, c0, s0⟩ := A
  dsimp only [Pt.U, Pt.locs, Pt.cells, Pt.slots] at h1 h2 h3 h4 h5 X hn hPc ⊢
  obtain ⟨m9, methY, cY, hn9, hmY, hcY, -, hlY, -⟩ := Cond.codeWith_spec h2
  cases Option.some.inj (hn9.symm.trans hn)
  obtain ⟨kY, hkY, -⟩ := className_of_methodNamed hn
  have hinitY : kY.init = .initialized := Cond.initialized_spec (findClass_of_methodNamed hn) hkY h3
  have h : At U g.method c below := by rw [hg]; exact X.here
  have hlocals9 : W9 + (maxL + 11) + (headSpec ws rm).room.locals ≤ R.locals := hlocals
  have happ : (headSpec ws rm).appliesLoose y e.platform (U.calling g mk a) = true :=
    Spec.appliesLoose_calling (g := g) h hdg hn hkY hinitY
      (X.room_calling (g := g) (R' := (headSpec ws rm).room) hsize hmY hcY hframes (by rw [hlY]; omega) h4 h5) h1
  obtain ⟨mid, hmid⟩ := h.above
  have hfr : (U.setTop g).frames = (.java g :: mid) ++ below := by rw [State.frames_setTop' g h.top, hmid]; rfl
  obtain ⟨o, s₂, hsteps, -, hend, hq⟩ := Steps.callFree hM p X.admits X.cas X.clock (acts := []) hfr happ hPc trivial
  have hq' : vx_Q Qc XC mc ms free a (U.calling g mk a) o s₂ := hq
  rw [State.frames_setTop' g h.top] at hend
  obtain ⟨g₀, hg0⟩ := Option.isSome_iff_exists.mp h.top
  obtain ⟨r, hr⟩ := State.topJava?_eq_some.mp hg0
  have hr' : (({ U with heap := s₂.heap, slotsUsed := s₂.slotsUsed } : State).setVm s₂.vm).frames = .java g₀ :: r := hr
  rcases hq' with ⟨hqc, L, hfe, hL⟩ | ⟨q, rfl, E, ce, L, hx, hce, hcv, hcl, hW₂, hsm, hL⟩
  · obtain ⟨⟨v, rfl⟩, hW₂, e2, q2, q3, q4, q5, q6⟩ := id hfe
    have e3 : s₂ = ({ (U.calling g mk a).setFrames s₂.frames with heap := s₂.heap, slotsUsed := s₂.slotsUsed } : State).setVm s₂.vm := by
      have : s₂ = ({ s₂ with vm := (U.calling g mk a).vm } : State).setVm s₂.vm := rfl
      rw [e2] at this
      exact this
    obtain ⟨c₂, i₂, len₂, hc₂, hd₂, hf₂⟩ := hend
    have hW' : U.WarmedH s₂.vm := hW₂
    have hcc : c₂ = c := by
      have h1 : s₂.code? g.method = U.code? g.method := by
        rw [State.code?_eq, State.code?_eq, hW'.alike.method?]
      exact Option.some.inj (hc₂.symm.trans (h1.trans h.code))
    subst hcc
    have hlen : len₂ = len := by rw [hdg] at hd₂; cases hd₂; rfl
    subst hlen
    have hs₂ : s₂ = (({ U with heap := s₂.heap, slotsUsed := s₂.slotsUsed } : State).setVm s₂.vm).setTop { g with pc := g.pc + len₂, stack := v.toList ++ g.stack } := by
      refine e3.trans ?_
      rw [hf₂, State.calling_eq h.top, State.setFrames_setFrames, State.setTop_of_frames _ hr', hr]
      rfl
    have hsame : U.sameButNew ({ U with heap := s₂.heap, slotsUsed := s₂.slotsUsed } : State) L mc ms := by
      refine ⟨?_, q2, q3, q4, q5, q6⟩
      obtain ⟨t, ht, -⟩ := State.frames_cons hr
      show ({ U with heap := s₂.heap, slotsUsed := s₂.slotsUsed } : State) = { U.setFrames U.frames with heap := s₂.heap, slotsUsed := s₂.slotsUsed }
      rw [State.setFrames_self ht]
    subst hg
    refine Or.inl ⟨v, ⟨(({ U with heap := s₂.heap, slotsUsed := s₂.slotsUsed } : State).setVm s₂.vm), Ls ++ L, c0 + mc, s0 + ms⟩,
      ⟨X.admits, X.cas, X.clock, X.frames, X.room, X.hears, X.method, X.code, (X.here.setHeapUsed s₂.heap s₂.slotsUsed).setVm hW'.alike, X.tail, State.WarmedH.trans X.warmed hW', X.limits, X.bytes, X.same.trans (hsame.setVm s.vm)⟩,
      ⟨g, mk, s₂, L, rfl, rfl, hqc, rfl, hL, rfl, rfl⟩, ?_⟩
    show Steps p.tables e below _ ((({ U with heap := s₂.heap, slotsUsed := s₂.slotsUsed } : State).setVm s₂.vm).setTop { g with pc := g.pc + len₂, stack := v.toList ++ g.stack })
    rw [← hs₂]
    exact hsteps
  · obtain ⟨e2, q2, q3, q4, q5, q6⟩ := id hsm
    have e3 : s₂ = ({ (U.calling g mk a).setFrames s₂.frames with heap := s₂.heap, slotsUsed := s₂.slotsUsed } : State).setVm s₂.vm := by
      have : s₂ = ({ s₂ with vm := (U.calling g mk a).vm } : State).setVm s₂.vm := rfl
      rw [e2] at this
      exact this
    have hf₂ : s₂.frames = .throwing q :: .java g :: U.frames.tail := hend
    have hW' : U.WarmedH s₂.vm := hW₂
    have hs₂ : s₂ = ((({ U with heap := s₂.heap, slotsUsed := s₂.slotsUsed } : State).setVm s₂.vm).setTop g).pushFrame (.throwing q) := by
      refine e3.trans ?_
      rw [hf₂, State.calling_eq h.top, State.setFrames_setFrames, State.pushFrame, State.frames_setTop _ hr', State.setTop_of_frames _ hr', State.setFrames_setFrames, hr]
      rfl
    have hsame : U.sameButNew ({ U with heap := s₂.heap, slotsUsed := s₂.slotsUsed } : State) L mc ms := by
      refine ⟨?_, q2, q3, q4, q5, q6⟩
      obtain ⟨t, ht, -⟩ := State.frames_cons hr
      show ({ U with heap := s₂.heap, slotsUsed := s₂.slotsUsed } : State) = { U.setFrames U.frames with heap := s₂.heap, slotsUsed := s₂.slotsUsed }
      rw [State.setFrames_self ht]
    subst hg
    refine Or.inr ⟨q, ⟨(({ U with heap := s₂.heap, slotsUsed := s₂.slotsUsed } : State).setVm s₂.vm), Ls ++ L, c0 + mc, s0 + ms⟩,
      ⟨X.admits, X.cas, X.clock, X.frames, X.room, X.hears, X.method, X.code, (X.here.setHeapUsed s₂.heap s₂.slotsUsed).setVm hW'.alike, X.tail, State.WarmedH.trans X.warmed hW', X.limits, X.bytes, X.same.trans (hsame.setVm s.vm)⟩,
      ⟨g, mk, s₂, L, E, ce, rfl, rfl, hx, hce, hcv, hcl, rfl, hL, rfl, rfl⟩, ?_⟩
    show Steps p.tables e below _ (((({ U with heap := s₂.heap, slotsUsed := s₂.slotsUsed } : State).setVm s₂.vm).setTop g).pushFrame (.throwing q))
    rw [← hs₂]
    exact hsteps
end
variable {p : Program} {l : Launch} {e : Env} {R : Room} {s : State} {m : MethodId} {args : Array Value} {below : List Frame} {meth : Method} {c : Code} {T : State} {H : Heap} {locs : List Loc} {cells slots : Nat}
theorem vx_callVX (X : Stand p l e R s m args below meth c T locs cells slots) (hexec : p.tables.exec = Jvm.exec) {own C : String} {index : Nat} {y : MethodName} {bytes : ByteArray} {maxL : Nat} {ret : Option FieldType} {hh : List (Nat × Nat × Nat × Nat)}
    (hown : s.vm.findClass own = some m.cls) (hlink : (Cond.methodLink own index y).before args s = true) (hinst : (Cond.instanceMethod y).before args s = true) (hsel : (Cond.selects C y y).before args s = true)
    (hcode : (Cond.codeWith y bytes maxL ret hh).before args s = true) (hy : y.cls ≠ "java/lang/invoke/MethodHandle" ∧ y.cls ≠ "java/lang/invoke/VarHandle")
    {W9 : Nat} {Pre : Pt → Array Value → Prop} {Post : Pt → Array Value → Option Value → Pt → Prop} {PostX : Pt → Array Value → Addr → Pt → Prop} (hK : vx_Back l R p e below s args y 3 W9 Pre Post PostX)
    {b : Addr} {cellB : Cell} (hcell : T.heap[b]? = some cellB) (hobj : cellB.vm.isStatics = false) (hcls : s.vm.findClass C = some cellB.cls)
    {g : JFrame} (hg : g.method = m) (hsize : g.locals.size = c.maxLocals) {argsL rest : List Value} (hlen : ∀ sig, parseMethodDescriptor y.desc = some sig → argsL.length = sig.parameters.length)
    (hstack : g.stack = argsL.reverse ++ .ref b :: rest) (hW : 2 * g.monitorRoom + (rest.map fun v => v.category).sum ≤ W9) (hdg : decode c.code g.pc = .ok (.invokevirtual index, 3))
    (hpre : ∀ vm₁, s.WarmedH vm₁ → Pre ⟨T.setVm vm₁, locs, cells, slots⟩ (Value.ref b :: argsL).toArray) :
    (∃ (v : Option Value) (vm₁ : Vm) (B : Pt), s.WarmedH vm₁ ∧ Stand p l e R s m args below meth c B.U B.locs B.cells B.slots ∧ Post ⟨T.setVm vm₁, locs, cells, slots⟩ (Value.ref b :: argsL).toArray v B ∧
      ∀ target, Steps p.tables e below (B.U.setTop { g with pc := g.pc + 3, stack := v.toList ++ rest }) target → Steps p.tables e below (T.setTop g) target) ∨
    (∃ (q : Addr) (vm₁ : Vm) (B : Pt), s.WarmedH vm₁ ∧ Stand p l e R s m args below meth c B.U B.locs B.cells B.slots ∧ PostX ⟨T.setVm vm₁, locs, cells, slots⟩ (Value.ref b :: argsL).toArray q B ∧
      Steps p.tables e below (T.setTop g) ((B.U.setTop { g with stack := rest }).pushFrame (.throwing q))) := by
  obtain ⟨mk, methM, hnamed, hmethM, hstM, habM⟩ := Cond.instanceMethod_spec hinst
  obtain ⟨m8, methM', cM, hn8, hmethM', -, -, -, -, -, -, hsigM⟩ := Cond.codeWith_spec hcode
  cases Option.some.inj (hn8.symm.trans hnamed)
  cases hmethM.symm.trans hmethM'
  obtain ⟨c2, r2, m2, q1, q2, q3, q4, kP, hkP, hkPi⟩ := Cond.selects_spec hsel
  cases hcls.symm.trans q1
  cases (State.methodFound?_of_named hnamed hy).symm.trans q2
  cases hnamed.symm.trans q3
  have hselP : selectMethod e.platform s.vm cellB.cls mk = .method mk := by rw [Launch.admits_selectMethod X.admits]; exact q4
  obtain ⟨vm₁, X₁, hstep₁⟩ := X.invokevirtual hexec hown hlink hnamed hmethM hstM hkP hkPi hy (a := b) (cell := cellB) hcell
    (fun z h => by rw [h] at hobj; cases hobj) hselP hmethM habM hkP hkPi (g := g) hg (argsL := argsL) (rest := rest) (hlen _ hsigM) hstack hdg
  rcases hK m meth c ⟨T.setVm vm₁, locs, cells, slots⟩ { g with stack := rest } (.invokevirtual index) mk (Value.ref b :: argsL).toArray X₁ hg hsize hdg hW (X₁.named hnamed) (hpre vm₁ X₁.warmed) with ⟨v, B, X', hpost, hsteps⟩ | ⟨q, B, X', hpost, hsteps⟩
  · exact Or.inl ⟨v, vm₁, B, X₁.warmed, X', hpost, fun target h => hstep₁ _ fun acts => by rw [doInvoke_state]; exact hsteps.trans h⟩
  · exact Or.inr ⟨q, vm₁, B, X₁.warmed, X', hpost, hstep₁ _ fun acts => by rw [doInvoke_state]; exact hsteps⟩
theorem vx_callSX (X : Stand p l e R s m args below meth c T locs cells slots) (hexec : p.tables.exec = Jvm.exec) {own : String} {index : Nat} {y : MethodName} {bytes : ByteArray} {maxL : Nat} {ret : Option FieldType} {hh : List (Nat × Nat × Nat × Nat)}
    (hown : s.vm.findClass own = some m.cls) (hlink : (Cond.methodLink own index y).before args s = true) (hstat : (Cond.static y).before args s = true) (hinit : (Cond.initialized y.cls).before args s = true)
    (hcode : (Cond.codeWith y bytes maxL ret hh).before args s = true) (hy : y.cls ≠ "java/lang/invoke/MethodHandle" ∧ y.cls ≠ "java/lang/invoke/VarHandle")
    {W9 : Nat} {Pre : Pt → Array Value → Prop} {Post : Pt → Array Value → Option Value → Pt → Prop} {PostX : Pt → Array Value → Addr → Pt → Prop} (hK : vx_Back l R p e below s args y 3 W9 Pre Post PostX)
    {g : JFrame} (hg : g.method = m) (hsize : g.locals.size = c.maxLocals) {argsL rest : List Value} (hlen : ∀ sig, parseMethodDescriptor y.desc = some sig → argsL.length = sig.parameters.length)
    (hstack : g.stack = argsL.reverse ++ rest) (hW : 2 * g.monitorRoom + (rest.map fun v => v.category).sum ≤ W9) (hdg : decode c.code g.pc = .ok (.invokestatic index, 3))
    (hpre : ∀ vm₁, s.WarmedH vm₁ → Pre ⟨T.setVm vm₁, locs, cells, slots⟩ argsL.toArray) :
    (∃ (v : Option Value) (vm₁ : Vm) (B : Pt), s.WarmedH vm₁ ∧ Stand p l e R s m args below meth c B.U B.locs B.cells B.slots ∧ Post ⟨T.setVm vm₁, locs, cells, slots⟩ argsL.toArray v B ∧
      ∀ target, Steps p.tables e below (B.U.setTop { g with pc := g.pc + 3, stack := v.toList ++ rest }) target → Steps p.tables e below (T.setTop g) target) ∨
    (∃ (q : Addr) (vm₁ : Vm) (B : Pt), s.WarmedH vm₁ ∧ Stand p l e R s m args below meth c B.U B.locs B.cells B.slots ∧ PostX ⟨T.setVm vm₁, locs, cells, slots⟩ argsL.toArray q B ∧
      Steps p.tables e below (T.setTop g) ((B.U.setTop { g with stack := rest }).pushFrame (.throwing q))) := by
  obtain ⟨mk, methM, cM, hnamed, hmethM, -, -, -, -, -, -, hsigM⟩ := Cond.codeWith_spec hcode
  have hstatic : methM.isStatic = true := Cond.static_spec hnamed hmethM hstat
  obtain ⟨kP, hkP, -⟩ := className_of_methodNamed hnamed
  have hinitP : kP.init = .initialized := Cond.initialized_spec (findClass_of_methodNamed hnamed) hkP hinit
  obtain ⟨vm₁, X₁, hstep₁⟩ := X.invokestatic hexec hown hlink hnamed hmethM hstatic hkP hinitP hy (g := g) hg (argsL := argsL) (rest := rest) (hlen _ hsigM) hstack hdg
  rcases hK m meth c ⟨T.setVm vm₁, locs, cells, slots⟩ { g with stack := rest } (.invokestatic index) mk argsL.toArray X₁ hg hsize hdg hW (X₁.named hnamed) (hpre vm₁ X₁.warmed) with ⟨v, B, X', hpost, hsteps⟩ | ⟨q, B, X', hpost, hsteps⟩
  · exact Or.inl ⟨v, vm₁, B, X₁.warmed, X', hpost, fun target h => hstep₁ _ fun acts => by rw [doInvoke_state]; exact hsteps.trans h⟩
  · exact Or.inr ⟨q, vm₁, B, X₁.warmed, X', hpost, hstep₁ _ fun acts => by rw [doInvoke_state]; exact hsteps⟩
theorem vx_callVW (X : Stand p l e R s m args below meth c T locs cells slots) (hexec : p.tables.exec = Jvm.exec) {own C : String} {index : Nat} {y : MethodName} {bytes : ByteArray} {maxL : Nat} {ret : Option FieldType} {hh : List (Nat × Nat × Nat × Nat)}
    (hown : s.vm.findClass own = some m.cls) (hlink : (Cond.methodLink own index y).before args s = true) (hinst : (Cond.instanceMethod y).before args s = true) (hsel : (Cond.selects C y y).before args s = true)
    (hcode : (Cond.codeWith y bytes maxL ret hh).before args s = true) (hy : y.cls ≠ "java/lang/invoke/MethodHandle" ∧ y.cls ≠ "java/lang/invoke/VarHandle")
    {W9 : Nat} {Pre : Pt → Array Value → Prop} {Post : Pt → Array Value → Option Value → Pt → Prop} (hK : Back l R p e below s args y 3 W9 Pre Post)
    {b : Addr} {cellB : Cell} (hcell : T.heap[b]? = some cellB) (hobj : cellB.vm.isStatics = false) (hcls : s.vm.findClass C = some cellB.cls)
    {g : JFrame} (hg : g.method = m) (hsize : g.locals.size = c.maxLocals) {argsL rest : List Value} (hlen : ∀ sig, parseMethodDescriptor y.desc = some sig → argsL.length = sig.parameters.length)
    (hstack : g.stack = argsL.reverse ++ .ref b :: rest) (hW : 2 * g.monitorRoom + (rest.map fun v => v.category).sum ≤ W9) (hdg : decode c.code g.pc = .ok (.invokevirtual index, 3))
    (hpre : ∀ vm₁, s.WarmedH vm₁ → Pre ⟨T.setVm vm₁, locs, cells, slots⟩ (Value.ref b :: argsL).toArray) :
    ∃ (v : Option Value) (vm₁ : Vm) (B : Pt), s.WarmedH vm₁ ∧ Stand p l e R s m args below meth c B.U B.locs B.cells B.slots ∧ Post ⟨T.setVm vm₁, locs, cells, slots⟩ (Value.ref b :: argsL).toArray v B ∧
      ∀ target, Steps p.tables e below (B.U.setTop { g with pc := g.pc + 3, stack := v.toList ++ rest }) target → Steps p.tables e below (T.setTop g) target := by
  obtain ⟨mk, methM, hnamed, hmethM, hstM, habM⟩ := Cond.instanceMethod_spec hinst
  obtain ⟨m8, methM', cM, hn8, hmethM', -, -, -, -, -, -, hsigM⟩ := Cond.codeWith_spec hcode
  cases Option.some.inj (hn8.symm.trans hnamed)
  cases hmethM.symm.trans hmethM'
  obtain ⟨c2, r2, m2, q1, q2, q3, q4, kP, hkP, hkPi⟩ := Cond.selects_spec hsel
  cases hcls.symm.trans q1
  cases (State.methodFound?_of_named hnamed hy).symm.trans q2
  cases hnamed.symm.trans q3
  have hselP : selectMethod e.platform s.vm cellB.cls mk = .method mk := by rw [Launch.admits_selectMethod X.admits]; exact q4
  obtain ⟨vm₁, X₁, hstep₁⟩ := X.invokevirtual hexec hown hlink hnamed hmethM hstM hkP hkPi hy (a := b) (cell := cellB) hcell
    (fun z h => by rw [h] at hobj; cases hobj) hselP hmethM habM hkP hkPi (g := g) hg (argsL := argsL) (rest := rest) (hlen _ hsigM) hstack hdg
  obtain ⟨v, B, X', hpost, hsteps⟩ := hK m meth c ⟨T.setVm vm₁, locs, cells, slots⟩ { g with stack := rest } (.invokevirtual index) mk (Value.ref b :: argsL).toArray X₁ hg hsize hdg hW (X₁.named hnamed) (hpre vm₁ X₁.warmed)
  exact ⟨v, vm₁, B, X₁.warmed, X', hpost, fun target h => hstep₁ _ fun acts => by rw [doInvoke_state]; exact hsteps.trans h⟩
abbrev vx_CVW (R : Room) (s : State) (args : Array Value) (own C : String) (index : Nat) (y : MethodName) (bytes : ByteArray) (maxL : Nat) (ret : Option FieldType) (hh : List (Nat × Nat × Nat × Nat)) (ws : List Cond) (rm : Room) (mc ms n : Nat) : Prop :=
  (rm.cells = mc ∧ rm.slots = ms ∧ rm.frames + 1 ≤ R.frames ∧ 8 + (maxL + 11) + rm.locals ≤ R.locals ∧ (∀ w ∈ ws, ∀ (a' : Array Value) (U : State), s.WarmedH U.vm → w.before a' U = true) ∧ Cond.codeWith y bytes maxL ret hh ∈ ws) ∧
  (Cond.codeWith y bytes maxL ret hh).before args s = true ∧ (Cond.initialized y.cls).before args s = true ∧ (y.cls ≠ "java/lang/invoke/MethodHandle" ∧ y.cls ≠ "java/lang/invoke/VarHandle") ∧
  (∀ sig, parseMethodDescriptor y.desc = some sig → n = sig.parameters.length) ∧ (Cond.methodLink own index y).before args s = true ∧ (Cond.instanceMethod y).before args s = true ∧ (Cond.selects C y y).before args s = true
theorem vx_cwVW {own C : String} {index maxL mc ms : Nat} {y : MethodName} {bytes : ByteArray} {ret : Option FieldType} {hh : List (Nat × Nat × Nat × Nat)} {Ts ws ws' : List Cond} {rm : Room} (n : Nat) (ht : ∀ w ∈ Ts, w.before args s = true) (hT : GoodIn Ts (wsV own index C y ws)) (hw : ws = Cond.codeWith y bytes maxL ret hh :: ws') (hrc : rm.cells = mc) (hrs : rm.slots = ms)
    (hd : y.cls = C ∧ y.cls ≠ "java/lang/invoke/MethodHandle" ∧ y.cls ≠ "java/lang/invoke/VarHandle" ∧ (parseMethodDescriptor y.desc).map (fun d => d.parameters.length) = some n) (hR : rm.frames + 1 ≤ R.frames ∧ 8 + (maxL + 11) + rm.locals ≤ R.locals) :
    vx_CVW R s args own C index y bytes maxL ret hh ws rm mc ms n := by
  obtain ⟨hC, hd⟩ := hd
  subst hC
  have ok : ∀ w ∈ wsV own index y.cls y ws, w.before args s = true := fun w h => ht w (hT w h).1
  have hG : GoodIn Ts ws := fun w h => hT w (by unfold wsV; exact List.mem_append_right _ h)
  have hc : Cond.codeWith y bytes maxL ret hh ∈ ws := by rw [hw]; exact List.mem_cons_self
  refine ⟨⟨hrc, hrs, hR.1, hR.2, pay_in ht hG, hc⟩, ht _ (hG _ hc).1, ok _ (by simp [wsV]), ⟨hd.1, hd.2.1⟩, fun sig h => ?_, ok _ (by simp [wsV]), ok _ (by simp [wsV]), ok _ (by simp [wsV])⟩
  have h2 := hd.2.2
  rw [h] at h2
  exact (Option.some.inj h2).symm
theorem vx_runVW {y : MethodName} {bytes cc : ByteArray} {maxL nL mc ms n index : Nat} {ret : Option FieldType} {hh : List (Nat × Nat × Nat × Nat)} {ws : List Cond} {rm : Room} {Pc : Array Value → State → Prop} {Qc : Array Value → State → Outcome → State → Prop} {free : Addr → Prop} {Ts : List Cond} {own C : String} {b : Addr} {As rest : List Value} {g : JFrame}
    (S : CallFix p m c cc nL s args Ts own) (hM : Met l y ws rm Pc Qc mc ms free) (cw : vx_CVW R s args own C index y bytes maxL ret hh ws rm mc ms n) (hp : PreV s H C b Pc As)
    (hg : g.method = m) (hn : As.length = n) (hsize : g.locals.size = nL) (hstack : g.stack = As.reverse ++ .ref b :: rest) (hW : 2 * g.monitorRoom + (rest.map fun v => v.category).sum ≤ 8) (hdg : decode cc g.pc = .ok (.invokevirtual index, 3)) (hf : cells + mc ≤ R.cells ∧ slots + ms ≤ R.slots) :
    va_Run p l e R s m args below meth c H locs cells slots mc ms g rest (Qc (Value.ref b :: As).toArray) free := by
  obtain ⟨⟨hrc, hrs, hfr, hlo, hws, hcw⟩, hcode, hini, hy, hlen, hl, hin, hse⟩ := cw
  have hK : Back l R p e below s args y 3 8 (PreOf R mc ms Pc) (PostOf Qc mc ms free) := va_backW (hh := hh) (bytes := bytes) (maxL := maxL) (ret := ret) hM hp.1 hrc hrs hfr hlo hws hcw (fun a' U hW => word_at hW (Or.inl (by first | rfl | simp [Cond.onTables, Cond.keeps, Cond.steady])) hini)
  obtain ⟨hx, hb, hml, ho, -⟩ := S
  obtain ⟨-, ⟨cellB, hcB, hoB, hclB⟩, hPc⟩ := hp
  intro T hT X
  obtain ⟨v, vm₁, ⟨U', l2, c2, s2⟩, hW₁, X', ⟨g', mk, t, L, e1, e2, hq, h1, hL, h2, h3⟩, st⟩ := vx_callVW X hx (C := C) (hh := hh) (bytes := bytes) (maxL := maxL) (ret := ret) ho hl hin hse hcode hy hK (by rw [hT]; exact hcB) hoB hclB hg (hsize.trans hml.symm) (argsL := As) (rest := rest) (fun sig h => hn.trans (hlen sig h)) hstack hW (by rw [hb]; exact hdg)
    (fun vm₁ hW₁ => ⟨hf.1, hf.2, hPc (T.setVm vm₁) hT hW₁⟩)
  dsimp only [Pt.U, Pt.locs, Pt.cells, Pt.slots] at X' e1 e2 h1 h2 h3 st
  subst h1; subst h2; subst h3
  exact ⟨v, (T.setVm vm₁).calling g' mk (Value.ref b :: As).toArray, t, U', L, hT, X', hL, e1, e2, hq, st⟩
section
variable {y : MethodName} {bytes cc : ByteArray} {maxL nL mc ms n index : Nat} {ret : Option FieldType} {ws : List Cond} {rm : Room} {Pc : Array Value → State → Prop} {Qc : Array Value → State → Outcome → State → Prop} {XC : String → State → State → Prop} {free : Addr → Prop} {Ts : List Cond} {own C : String} {b : Addr} {As rest : List Value} {g : JFrame}
theorem vx_runVX {hh : List (Nat × Nat × Nat × Nat)} (S : CallFix p m c cc nL s args Ts own) (hM : vx_Met l y ws rm Pc Qc XC mc ms free) (cw : vx_CVW R s args own C index y bytes maxL ret hh ws rm mc ms n) (hp : PreV s H C b Pc As)
    (hg : g.method = m) (hn : As.length = n) (hsize : g.locals.size = nL) (hstack : g.stack = As.reverse ++ .ref b :: rest) (hW : 2 * g.monitorRoom + (rest.map fun v => v.category).sum ≤ 8) (hdg : decode cc g.pc = .ok (.invokevirtual index, 3)) (hf : cells + mc ≤ R.cells ∧ slots + ms ≤ R.slots) :
    vx_Run p l e R s m args below meth c H locs cells slots mc ms g rest (Qc (Value.ref b :: As).toArray) XC free := by
  obtain ⟨⟨hrc, hrs, hfr, hlo, hws, hcw⟩, hcode, hini, hy, hlen, hl, hin, hse⟩ := cw
  have hK : vx_Back l R p e below s args y 3 8 (PreOf R mc ms Pc) (PostOf Qc mc ms free) (vx_Post XC mc ms free) := vx_backW (hh := hh) (bytes := bytes) (maxL := maxL) (ret := ret) hM hp.1 hrc hrs hfr hlo hws hcw (fun a' U hW => word_at hW (Or.inl (by first | rfl | simp [Cond.onTables, Cond.keeps, Cond.steady])) hini)
  obtain ⟨hx, hb, hml, ho, -⟩ := S
  obtain ⟨-, ⟨cellB, hcB, hoB, hclB⟩, hPc⟩ := hp
  intro T hT X
  rcases vx_callVX X hx (C := C) (hh := hh) (bytes := bytes) (maxL := maxL) (ret := ret) ho hl hin hse hcode hy hK (by rw [hT]; exact hcB) hoB hclB hg (hsize.trans hml.symm) (argsL := As) (rest := rest) (fun sig h => hn.trans (hlen sig h)) hstack hW (by rw [hb]; exact hdg)
    (fun vm₁ hW₁ => ⟨hf.1, hf.2, hPc (T.setVm vm₁) hT hW₁⟩) with ⟨v, vm₁, ⟨U', l2, c2, s2⟩, hW₁, X', ⟨g', mk, t, L, e1, e2, hq, h1, hL, h2, h3⟩, st⟩ | ⟨q, vm₁, ⟨U', l2, c2, s2⟩, hW₁, X', ⟨g', mk, t, L, E, ce, e1, e2, hq, hce, hcv, hcl, h1, hL, h2, h3⟩, st⟩
  · dsimp only [Pt.U, Pt.locs, Pt.cells, Pt.slots] at X' e1 e2 h1 h2 h3 st
    subst h1; subst h2; subst h3
    exact Or.inl ⟨v, (T.setVm vm₁).calling g' mk (Value.ref b :: As).toArray, t, U', L, hT, X', hL, e1, e2, hq, st⟩
  · dsimp only [Pt.U, Pt.locs, Pt.cells, Pt.slots] at X' e1 e2 h1 h2 h3 st hcl
    subst h1; subst h2; subst h3
    exact Or.inr ⟨q, (T.setVm vm₁).calling g' mk (Value.ref b :: As).toArray, t, U', L, E, ce, hT, X', hL, e1, e2, hq, hce, hcv, vx_cls hW₁ hcl, st⟩
theorem vx_runSX {hh : List (Nat × Nat × Nat × Nat)} (S : CallFix p m c cc nL s args Ts own) (hM : vx_Met l y ws rm Pc Qc XC mc ms free) (cw : vx_CSW R s args own index y bytes maxL ret hh ws rm mc ms n) (hp : PreS s H Pc As)
    (hg : g.method = m) (hn : As.length = n) (hsize : g.locals.size = nL) (hstack : g.stack = As.reverse ++ rest) (hW : 2 * g.monitorRoom + (rest.map fun v => v.category).sum ≤ 8) (hdg : decode cc g.pc = .ok (.invokestatic index, 3)) (hf : cells + mc ≤ R.cells ∧ slots + ms ≤ R.slots) :
    vx_Run p l e R s m args below meth c H locs cells slots mc ms g rest (Qc As.toArray) XC free := by
  obtain ⟨⟨hrc, hrs, hfr, hlo, hws, hcw⟩, hcode, hini, hy, hlen, hl, hstt⟩ := cw
  have hK : vx_Back l R p e below s args y 3 8 (PreOf R mc ms Pc) (PostOf Qc mc ms free) (vx_Post XC mc ms free) := vx_backW (hh := hh) (bytes := bytes) (maxL := maxL) (ret := ret) hM hp.1 hrc hrs hfr hlo hws hcw (fun a' U hW => word_at hW (Or.inl (by first | rfl | simp [Cond.onTables, Cond.keeps, Cond.steady])) hini)
  obtain ⟨hx, hb, hml, ho, -⟩ := S
  intro T hT X
  rcases vx_callSX X hx (hh := hh) (bytes := bytes) (maxL := maxL) (ret := ret) ho hl hstt hini hcode hy hK hg (hsize.trans hml.symm) (argsL := As) (rest := rest) (fun sig h => hn.trans (hlen sig h)) hstack hW (by rw [hb]; exact hdg)
    (fun vm₁ hW₁ => ⟨hf.1, hf.2, hp.2 (T.setVm vm₁) hT hW₁⟩) with ⟨v, vm₁, ⟨U', l2, c2, s2⟩, hW₁, X', ⟨g', mk, t, L, e1, e2, hq, h1, hL, h2, h3⟩, st⟩ | ⟨q, vm₁, ⟨U', l2, c2, s2⟩, hW₁, X', ⟨g', mk, t, L, E, ce, e1, e2, hq, hce, hcv, hcl, h1, hL, h2, h3⟩, st⟩
  · dsimp only [Pt.U, Pt.locs, Pt.cells, Pt.slots] at X' e1 e2 h1 h2 h3 st
    subst h1; subst h2; subst h3
    exact Or.inl ⟨v, (T.setVm vm₁).calling g' mk As.toArray, t, U', L, hT, X', hL, e1, e2, hq, st⟩
  · dsimp only [Pt.U, Pt.locs, Pt.cells, Pt.slots] at X' e1 e2 h1 h2 h3 st hcl
    subst h1; subst h2; subst h3
    exact Or.inr ⟨q, (T.setVm vm₁).calling g' mk As.toArray, t, U', L, E, ce, hT, X', hL, e1, e2, hq, hce, hcv, vx_cls hW₁ hcl, st⟩
end
end VXH
theorem vx_ofWH {l : Launch} {y : MethodName} {ws ws' : List Cond} {rm : Room} {Pc : Array Value → State → Prop} {Qc : Array Value → State → Outcome → State → Prop} {XC : String → State → State → Prop} {mc ms : Nat} {free : Addr → Prop} {cc : ByteArray} {maxL : Nat} {ret : Option FieldType} {hh : List (Nat × Nat × Nat × Nat)}
    (hy : plainName y.cls = true) (hw : ws = Cond.codeWith y cc maxL ret hh :: ws')
    (body : ∀ p e s m args below meth c s₁, BodyLoose p l y (headSpec ws rm) cc maxL ret e s m args below meth c s₁ → c.maxLocals = maxL → Pc args s →
      W p l e (headSpec ws rm).room s m args below meth c s.heap [] 0 0 (vx_MQ below Qc XC args s mc ms free) (entryFrame m args maxL)) : vx_Met l y ws rm Pc Qc XC mc ms free := by
  refine MetFree.of_bodyS (code := cc) (maxLocals := maxL) (ret := ret) hy ?_ ?_
  · intro args s m h hn
    obtain ⟨m9, meth, c, hn9, h1, h2, h3, h4, -, h5, h6, -⟩ := Cond.codeWith_spec (atoms_spec (ws := ws) h _ (by rw [hw]; exact List.mem_cons_self))
    cases hn.symm.trans hn9
    exact ⟨meth, c, h1, h2, h3, h4, h5, h6⟩
  · intro p e s m args below meth c s₁ B hml hP _
    have hh0 : s₁.heap = s.heap := by rw [B.state]; rfl
    obtain ⟨t, a1, o, b1, b2, b3⟩ := body p e s m args below meth c s₁ B hml hP s₁ hh0 (Stand.of_body B)
    exact ⟨t, o, a1, b1, b2, b3⟩
/-! ===== END ===== -/
/-! ===== BEGIN what the machine throws by itself, no traces kept ===== -/
section VXM
set_option maxHeartbeats 1000000 in
/-- the machine throws cls with the message text, no traces kept: from its note over the frame g to 'throwing' over the same frame (follows the proofs of Stand.vmThrowsMessage, Shelf/KitTracedVmS.lean, and Stand.throwsMessageColdBareV, StandMessageColdV.lean, without the step out of the frame) -/
theorem vx_vmAt {p : Program} {l : Launch} {e : Env} {R : Room} {s : State} {m₀ : MethodId} {args : Array Value} {below : List Frame} {meth : Method} {c : Code} {W : State} {locs : List Loc} {cells slots : Nat}
    (X : Stand p l e R s m₀ args below meth c W locs cells slots) (hexec : p.tables.exec = Jvm.exec) (htr : e.platform.stackTraces = false) {cls : String} {names : List String} {text : String}
    (hcls : Bundle.fit cls = true) (hnames : ∀ n ∈ names, Bundle.fit n = true) (hsoe : (cls == "java/lang/StackOverflowError") = false) (hoom : (cls == "java/lang/OutOfMemoryError") = false)
    (h : ∀ a ∈ Bundle.messageArmAtoms cls names, a.before args s = true)
    (hlocs : ∀ x ∈ locs, ∀ cell, s.heap[x.base]? = some cell → cell.vm.isStatics = false)
    (htext : (text == notModelled) = false) (hlimit : ¬ (stringBytes (stringToUtf16 text)).size > e.platform.arrayLengthLimit) (hheap : ¬ (stringBytes (stringToUtf16 text)).size * componentBytes .byte > e.platform.maxHeapBytes)
    {g : JFrame} (hg : g.method = m₀) (hsize : g.locals.size = c.maxLocals)
    (hRframes : names.length + 4 < R.frames) (hRlocals : 2 * g.monitorRoom + (g.stack.map fun v => v.category).sum + 10240 ≤ R.locals) (hshort : 13 * names.length + 55 ≤ 10240)
    (hRcells : cells + 3 ≤ R.cells) (hRslots : slots + ((stringBytes (stringToUtf16 text)).size + 4 + 6) ≤ R.slots) (hlocks : meth.locks = false) :
    ∃ (S : State) (q : Addr) (ce : Cell), (∀ target, Steps p.tables e below ((S.setTop g).pushFrame (.throwing q)) target → Steps p.tables e below ((W.setTop g).pushFrame (.throwNew cls (some text) none)) target) ∧
      Stand p l e R s m₀ args below meth c S locs (cells + 3) (slots + ((stringBytes (stringToUtf16 text)).size + 4 + 6)) ∧ S.heap[q]? = some ce ∧ s.vm.findClass cls = some ce.cls ∧ ce.vm = .none := by
  have howns : e.platform.frameOwnsMonitors = true := by rw [X.admits.platform]
  have hfin : e.platform.finalization = false := by rw [X.admits.platform]
  have hpl : e.platform.magicAccessors = ({} : Platform).magicAccessors := by rw [X.admits.platform]
  have a : ∀ x, x ∈ Bundle.messageArmAtoms cls names → x.holds args s none s [] = true := fun x hx => h x hx
  obtain ⟨T, Z0, L, -, Y⟩ := ThrowableC.of_atoms (args := args) howns hfin hpl (fun x hx => h x (by simp [Bundle.messageArmAtoms, hx]))
  obtain ⟨Z, M, LZ, LM, hnZ⟩ := Init0T.ofS_atoms (args := args) hpl L Y (fun x hx => h x (by simp [Bundle.messageArmAtoms, hx]))
  obtain ⟨P1, Ps, hlen, L1, hL, hP1m, hlink1, hlink⟩ := Bundle.chainS (args := args) hpl hnZ names cls hcls hnames (fun x hx => h x (by simp [Bundle.messageArmAtoms, hx]))
  obtain ⟨Zs, LZs, hn4, hfitv, hfitc⟩ := StringT.of_atoms (args := args) (fun x hx => h x (by simp [Bundle.messageArmAtoms, hx]))
  have hfound : s.vm.findClass cls = some P1.m.cls := findClass_of_methodNamed hP1m
  obtain ⟨c1, kX, hc1, hk, hord, -, -, hn6⟩ := Cond.instantiable_spec (a (.instantiable cls 6) (by simp [Bundle.messageArmAtoms]))
  cases Option.some.inj (hc1.symm.trans hfound)
  have hinit := Cond.initialized_spec hfound hk (a (.initialized cls) (by simp [Bundle.messageArmAtoms]))
  have hctor : kX.findMethod "<init>" "(Ljava/lang/String;)V" = some P1.m.idx := findMethod_of_methodNamed hP1m hk
  have hsel0 : selectMethod e.platform s.vm P1.m.cls T.fill0 = .method T.fill0 := by
    obtain ⟨c2, r2, m2, q1, q2, q3, q4, -⟩ := Cond.selects_spec (a (.selects cls Bundle.tFill0 Bundle.tFill0) (by simp [Bundle.messageArmAtoms]))
    cases Option.some.inj (q1.symm.trans hfound)
    cases Option.some.inj (q2.symm.trans (State.methodFound?_of_named Y.fill0 (by decide)))
    cases Option.some.inj (q3.symm.trans Y.fill0)
    rw [Launch.admits_selectMethod X.admits]; exact q4
  have hselF : selectMethod e.platform s.vm P1.m.cls T.fill = .method T.fill := by
    obtain ⟨c2, r2, m2, q1, q2, q3, q4, -⟩ := Cond.selects_spec (a (.selects cls Bundle.tFill Bundle.tFill) (by simp [Bundle.messageArmAtoms]))
    cases Option.some.inj (q1.symm.trans hfound)
    cases Option.some.inj (q2.symm.trans (State.methodFound?_of_named Y.fill (by decide)))
    cases Option.some.inj (q3.symm.trans Y.fill)
    rw [Launch.admits_selectMethod X.admits]; exact q4
  obtain ⟨cellS0, hcS0, hiss⟩ := Y.statics
  obtain ⟨u0, hu0⟩ := Cond.staticRefV Y.unassigned L.unassignedStatic L.statics hcS0 hiss (a (.isRef (.static Bundle.tN "UNASSIGNED_STACK" Bundle.steD)) (by simp [Bundle.messageArmAtoms]))
  obtain ⟨sen, hsen⟩ := Cond.staticRefV Y.sentinel L.sentinelStatic L.statics hcS0 hiss (a (.isRef (.static Bundle.tN "SUPPRESSED_SENTINEL" Bundle.listD)) (by simp [Bundle.messageArmAtoms]))
  obtain ⟨ci198, i198, fB, hk198, hg198, ha198, hsB, -, hnB, htB, hffB⟩ := Cond.ownField (t := .object "java/lang/Object") Y.found L.cls (by decide +kernel) (a (.fieldLink Bundle.tN 198 Bundle.tN "backtrace" "Ljava/lang/Object;") (by simp [Bundle.messageArmAtoms])) (a (.lays Bundle.tN Bundle.tN "backtrace" "Ljava/lang/Object;") (by simp [Bundle.messageArmAtoms])) e.platform hpl
  obtain ⟨cellS, hcS', heS, -, hkeep⟩ := X.same.2.2.2.2.2 T.aS cellS0 hcS0
  have hcellS : W.heap[T.aS]? = some cellS := hcS'
  have hout' : ∀ i, (⟨T.aS, i⟩ : Loc) ∉ locs := fun i hmem => by
    have := hlocs _ hmem cellS0 hcS0
    rw [hiss] at this; cases this
  have hknownS : cellS.vm ≠ .unknown := by
    rw [heS]; intro hu
    rw [show cellS0.vm = .unknown from hu] at hiss
    cases hiss
  have hvU : cellS.slots[T.fUnassigned.slot]? = some u0.v := by rw [hkeep _ (hout' _)]; exact hu0
  have hvSen : cellS.slots[T.fSentinel.slot]? = some sen.v := by rw [hkeep _ (hout' _)]; exact hsen
  obtain ⟨iM, hffM⟩ := Y.msg
  obtain ⟨tyC, dC, hdC, hdnC⟩ := Cond.laysAt hfound hk Y.cause (a (.lays cls Bundle.tN "cause" "Ljava/lang/Throwable;") (by simp [Bundle.messageArmAtoms]))
  obtain ⟨tyS, dS, hdS, hdnS⟩ := Cond.laysAt hfound hk Y.stack (a (.lays cls Bundle.tN "stackTrace" Bundle.steD) (by simp [Bundle.messageArmAtoms]))
  obtain ⟨tyP, dP, hdP, hdnP⟩ := Cond.laysAt hfound hk Y.supp (a (.lays cls Bundle.tN "suppressedExceptions" Bundle.listD) (by simp [Bundle.messageArmAtoms]))
  obtain ⟨tyM, dM, hdM, hdnM⟩ := Cond.laysAt hfound hk hffM (a (.lays cls Bundle.tN "detailMessage" "Ljava/lang/String;") (by simp [Bundle.messageArmAtoms]))
  obtain ⟨tyB, dB, hdB, hdnB⟩ := Cond.laysAt hfound hk hffB (a (.lays cls Bundle.tN "backtrace" "Ljava/lang/Object;") (by simp [Bundle.messageArmAtoms]))
  have bC := Cond.laysApart hdB hdC hdnB hdnC (by rw [hnB, Y.causeName]; decide)
  have bS := Cond.laysApart hdB hdS hdnB hdnS (by rw [hnB, Y.stackName]; decide)
  have bP := Cond.laysApart hdB hdP hdnB hdnP (by rw [hnB, Y.suppName]; decide)
  have hbk : ((preparedCellV T.toThrowableT (freshCell P1.m.cls kX) (W.heap.size + 2) u0 sen).withEntry W.cur).slots[fB.slot]? = some .null := by
    have := fresh_default (c := P1.m.cls) tyB
    rw [htB] at this
    simpa [preparedCellV, Cell.setSlot, Cell.withEntry, Array.getElem?_setIfInBounds, bC, bS, bP, bC.symm, bS.symm, bP.symm, defaultValue] using this
  have tkC := Takes.of_laid (v := .ref (W.heap.size + 2)) hk hord tyC (by rw [Y.causeType]; rfl)
  have tkS := Takes.of_laid (v := u0.v) hk hord tyS (by rw [Y.stackType]; exact fits_refV_array _ u0)
  have tkP := Takes.of_laid (v := sen.v) hk hord tyP (by rw [Y.suppType]; exact fits_refV_object _ sen)
  have tkM := Takes.of_laid (v := .ref (W.heap.size + 1)) hk hord tyM (by rw [Y.msgType]; rfl)
  have hskip : SkipFacts T e.platform s (fun u => u) u0 ((preparedCellV T.toThrowableT (freshCell P1.m.cls kX) (W.heap.size + 2) u0 sen).withEntry W.cur) := ⟨{ ci198 := ci198, i198 := i198, fBack := fB }, ⟨hk198, hg198, ha198, hsB⟩, hbk, fun _ _ => rfl⟩
  have h0 : At W g.method c below := by rw [hg]; exact X.here
  obtain ⟨hbeyond, hfreeW⟩ := X.vmMayThrow hsize (.throwNew cls (some text) none) (fun f hf => by cases hf) rfl hRlocals
  have hfr' : W.frames.length + Ps.length + 4 < (e.platform.stackLimits W.me).1 := by have := X.framesAbove hRframes; omega
  have hwd' : (stackUse (.java g :: W.frames.tail)).2 + 13 * Ps.length + 55 ≤ (e.platform.stackLimits W.me).2 := by have := X.stackAbove hsize (K := 13 * Ps.length + 55) (by omega); omega
  have hslots : W.slotsUsed + (stringBytes (stringToUtf16 text)).size + Zs.kS.instanceTypes.size + kX.instanceTypes.size ≤ e.platform.maxSlots := by
    have := X.slotsAbove hRslots
    rw [hn4, hn6]
    omega
  obtain ⟨vm', hW', st⟩ := Steps.vmThrowsMessageColdByV p (s₀ := s) (S := W) (g := g) h0 hexec T L Z LZ M LM X.warmed (t := W.cur) rfl Zs LZs P1 L1 Ps hL hlink1 hlink hsoe hoom hfound hk hinit hord hctor
    (Launch.admits_hotImplicitExceptions X.admits) hbeyond hfreeW htext hlimit hheap (X.cellsAbove hRcells) hslots (hfitv _) (hfitc _)
    (Nn := fun u => u) heapOnly_id (fun _ _ => rfl) (fun _ => rfl) (fun u x y => setCell_twice _ _ _ _) (fun _ => Nat.le_refl _) (cN := ((preparedCellV T.toThrowableT (freshCell P1.m.cls kX) (W.heap.size + 2) u0 sen).withEntry W.cur))
    hsel0 hcellS hknownS hvU tkS (fun _ hu => hu) (fun _ hu => hu) rfl rfl rfl (by simp [preparedCellV, Cell.setSlot, Cell.withEntry]) hskip (fun _ _ hA hW _ hroom _ hrest => L.nativeOff p htr hA hW hroom hrest) hselF hvSen tkC tkP tkM Y.objLocals rfl hfr' hwd'
  rw [plainBareV_eq T.toThrowableT (W.heap.size + 2) u0 sen (.ref (W.heap.size + 1)) W.cur rfl rfl] at st
  obtain ⟨-, -, w3, w4, -, -, -⟩ := withThrown_facts e.platform W Zs text P1.m.cls kX
  have X3 := ((X.pushed (bytesOf Zs.cB (stringToUtf16 text))).pushed (stringAt Zs.cS Zs.kS Zs.fv Zs.fc (stringToUtf16 text) W.heap.size)).pushed (freshCell P1.m.cls kX)
  rw [← withString_eq] at X3
  have X4 := X3.noted hW'
  have ha : (W.heap.size + 2) < ((withThrown W Zs text P1.m.cls kX).setVm vm').heap.size := by show _ < (withThrown W Zs text P1.m.cls kX).heap.size; rw [w3]; omega
  have hcell : ((withThrown W Zs text P1.m.cls kX).setVm vm').heap[(W.heap.size + 2)]? = some (freshCell P1.m.cls kX) := w4
  have X5 := ((((X4.stored hcell T.fCause.slot (.ref (W.heap.size + 2))).storedAgain ha T.fStack.slot u0.v).storedAgain ha T.fSupp.slot sen.v).storedAgain ha T.fStack.slot u0.v).storedAgain ha T.fMsg.slot (.ref (W.heap.size + 1))
  obtain ⟨g₁, hfrM⟩ := X5.frames_eq
  have hU : ((((withThrown W Zs text P1.m.cls kX).setVm vm').setCell (W.heap.size + 2) (plainBareV T.toThrowableT (freshCell P1.m.cls kX) (W.heap.size + 2) u0 sen (.ref (W.heap.size + 1)))).setTop g).pushFrame (.throwing (W.heap.size + 2)) = (((withThrown W Zs text P1.m.cls kX).setVm vm').setCell (W.heap.size + 2) (plainBareV T.toThrowableT (freshCell P1.m.cls kX) (W.heap.size + 2) u0 sen (.ref (W.heap.size + 1)))).setFrames (.throwing (W.heap.size + 2) :: .java g :: below) := by
    rw [State.pushFrame, State.frames_setTop _ hfrM, State.setTop_of_frames _ hfrM, State.setFrames_setFrames]
  have b1 : (bytesOf Zs.cB (stringToUtf16 text)).slots.size = (stringBytes (stringToUtf16 text)).size := by
    rw [(Cell.writeAll_facts _ _).2.2]; simp [bytes0]
  have b2 : (stringAt Zs.cS Zs.kS Zs.fv Zs.fc (stringToUtf16 text) W.heap.size).slots.size = 4 := by simp [string0, Cell.setSlot, hn4]
  have b3 : (freshCell P1.m.cls kX).slots.size = 6 := by simp [hn6]
  rw [b1, b2, b3] at X5
  have e9 : slots + (stringBytes (stringToUtf16 text)).size + 4 + 6 = slots + ((stringBytes (stringToUtf16 text)).size + 4 + 6) := by omega
  rw [e9] at X5
  simp only [List.append_assoc, List.cons_append, List.nil_append] at X5
  refine ⟨((withThrown W Zs text P1.m.cls kX).setVm vm').setCell (W.heap.size + 2) (plainBareV T.toThrowableT (freshCell P1.m.cls kX) (W.heap.size + 2) u0 sen (.ref (W.heap.size + 1))), W.heap.size + 2, _, fun target ht => st _ (by rw [X.tail, ← hU]; exact ht),
    X5.forget (fun y hy => ?_), heapAt_setCell_self _ ha, hfound, rfl⟩
  simp only [List.mem_cons, List.not_mem_nil, or_false] at hy
  have hge : s.heap.size ≤ W.heap.size := X.same.2.1
  rcases hy with rfl | rfl | rfl | rfl | rfl <;> exact Nat.le_trans hge (Nat.le_add_right _ 2)
set_option maxHeartbeats 1000000 in
/-- the machine throws NullPointerException, no traces kept: from its note over the frame g to 'throwing' over the same frame (follows the proof of Stand.vmThrowsNpe, Shelf42/KT2.lean; throwsNpeColdBareVAt, Shelf42/NT91.lean, called) -/
theorem vx_npeAt {p : Program} {l : Launch} {e : Env} {R : Room} {s : State} {m₀ : MethodId} {args : Array Value} {below : List Frame} {meth : Method} {c : Code} {W : State} {locs : List Loc} {cells slots : Nat}
    (X : Stand p l e R s m₀ args below meth c W locs cells slots) (hexec : p.tables.exec = Jvm.exec) (htr : e.platform.stackTraces = false) {n : Nat}
    (h : ∀ a ∈ Bundle.npeArmAtoms n, a.before args s = true)
    (hlocs : ∀ x ∈ locs, ∀ cell, s.heap[x.base]? = some cell → cell.vm.isStatics = false)
    {g : JFrame} (hg : g.method = m₀) (hsize : g.locals.size = c.maxLocals)
    (hRframes : 7 < R.frames) (hRlocals : 2 * g.monitorRoom + (g.stack.map fun v => v.category).sum + 10240 ≤ R.locals)
    (hRcells : cells + 1 ≤ R.cells) (hRslots : slots + n ≤ R.slots) (hlocks : meth.locks = false) :
    ∃ (S : State) (q : Addr) (ce : Cell), (∀ target, Steps p.tables e below ((S.setTop g).pushFrame (.throwing q)) target → Steps p.tables e below ((W.setTop g).pushFrame (.throwNew "java/lang/NullPointerException" none none)) target) ∧
      Stand p l e R s m₀ args below meth c S locs (cells + 1) (slots + n) ∧ S.heap[q]? = some ce ∧ s.vm.findClass "java/lang/NullPointerException" = some ce.cls ∧ ce.vm = .none := by
  have howns : e.platform.frameOwnsMonitors = true := by rw [X.admits.platform]
  have hfin : e.platform.finalization = false := by rw [X.admits.platform]
  have hpl : e.platform.magicAccessors = ({} : Platform).magicAccessors := by rw [X.admits.platform]
  have hpl2 : e.platform.arrayCloneIsPublic = true := by rw [X.admits.platform]
  have a' : ∀ x, x ∈ Bundle.npeArmAtoms n → x.holds args s none s [] = true := fun x hx => h x hx
  obtain ⟨T, Z, L, LZ, Y⟩ := ThrowableC.of_atoms (args := args) howns hfin hpl (fun x hx => h x (by simp [Bundle.npeArmAtoms, hx]))
  obtain ⟨N, LN, hcN, hnNF, hordN, hffS⟩ := NpeC.of_atoms (args := args) hpl hpl2 L Y (fun x hx => h x (by simp [Bundle.npeArmAtoms, hx]))
  obtain ⟨P1, L1, hP1m, hP1s⟩ := PassC.of_atoms (args := args) (s := s) hpl (X := Bundle.nN) (Y := Bundle.rN) (by decide) (by decide) LibCode.NullPointerException.Init0.at_0 LibCode.NullPointerException.Init0.at_1 LibCode.NullPointerException.Init0.at_4 (fun x hx => h x (by simp [Bundle.npeArmAtoms, hx]))
  obtain ⟨PR, LR, hPRm, hPRs⟩ := PassC.of_atoms (args := args) (s := s) hpl (X := Bundle.rN) (Y := Bundle.eN) (by decide) (by decide) LibCode.RuntimeException.Init0.at_0 LibCode.RuntimeException.Init0.at_1 LibCode.RuntimeException.Init0.at_4 (fun x hx => h x (by simp [Bundle.npeArmAtoms, hx]))
  obtain ⟨PE, LEx, hPEm, hPEs⟩ := PassC.of_atoms (args := args) (s := s) hpl (X := Bundle.eN) (Y := Bundle.tN) (by decide) (by decide) LibCode.Exception.Init0.at_0 LibCode.Exception.Init0.at_1 LibCode.Exception.Init0.at_4 (fun x hx => h x (by simp [Bundle.npeArmAtoms, hx]))
  have hfound : s.vm.findClass Bundle.nN = some P1.m.cls := findClass_of_methodNamed hP1m
  have ecls : N.cN = P1.m.cls := Option.some.inj (hcN.symm.trans hfound)
  have hk : s.vm.classes[P1.m.cls]? = some N.kN := by rw [← ecls]; exact LN.cls
  have hinit := Cond.initialized_spec hfound hk (a' (.initialized Bundle.nN) (by simp [Bundle.npeArmAtoms]))
  have hctor : N.kN.findMethod "<init>" "()V" = some P1.m.idx := findMethod_of_methodNamed hP1m hk
  obtain ⟨c1, k1, hc1, hk1, -, -, -, hn⟩ := Cond.instantiable_spec (a' (.instantiable Bundle.nN n) (by simp [Bundle.npeArmAtoms]))
  cases Option.some.inj (hc1.symm.trans hfound)
  cases Option.some.inj (hk1.symm.trans hk)
  have hfsz : (freshCell P1.m.cls N.kN).slots.size = n := by simp [hn]
  have hlink1 : P1.sup = PR.m := Option.some.inj (hP1s.symm.trans hPRm)
  have hlinkR : PR.sup = PE.m := Option.some.inj (hPRs.symm.trans hPEm)
  have hlinkE : PE.sup = Z.m T.toThrowableT := Option.some.inj (hPEs.symm.trans Y.init0)
  have hLs : ∀ P, P ∈ [PR, PE] → P.Links0 e.platform s := fun P hP => by
    simp only [List.mem_cons, List.not_mem_nil, or_false] at hP
    rcases hP with rfl | rfl
    · exact LR
    · exact LEx
  have hsel0 : selectMethod e.platform s.vm P1.m.cls T.fill0 = .method T.fill0 := by
    obtain ⟨c2, r2, m2, q1, q2, q3, q4, -⟩ := Cond.selects_spec (a' (.selects Bundle.nN Bundle.tFill0 Bundle.tFill0) (by simp [Bundle.npeArmAtoms]))
    cases Option.some.inj (q1.symm.trans hfound)
    cases Option.some.inj (q2.symm.trans (State.methodFound?_of_named Y.fill0 (by decide)))
    cases Option.some.inj (q3.symm.trans Y.fill0)
    rw [Launch.admits_selectMethod X.admits]; exact q4
  have hselF : selectMethod e.platform s.vm P1.m.cls T.fill = .method N.fill := by
    obtain ⟨c2, r2, m2, q1, q2, q3, q4, -⟩ := Cond.selects_spec (a' (.selects Bundle.nN Bundle.tFill Bundle.nFill) (by simp [Bundle.npeArmAtoms]))
    cases Option.some.inj (q1.symm.trans hfound)
    cases Option.some.inj (q2.symm.trans (State.methodFound?_of_named Y.fill (by decide)))
    cases Option.some.inj (q3.symm.trans hnNF)
    rw [Launch.admits_selectMethod X.admits]; exact q4
  obtain ⟨cellS0, hcS0, hiss⟩ := Y.statics
  obtain ⟨u0, hu0⟩ := Cond.staticRefV Y.unassigned L.unassignedStatic L.statics hcS0 hiss (a' (.isRef (.static Bundle.tN "UNASSIGNED_STACK" Bundle.steD)) (by simp [Bundle.npeArmAtoms]))
  obtain ⟨sen, hsen⟩ := Cond.staticRefV Y.sentinel L.sentinelStatic L.statics hcS0 hiss (a' (.isRef (.static Bundle.tN "SUPPRESSED_SENTINEL" Bundle.listD)) (by simp [Bundle.npeArmAtoms]))
  obtain ⟨ci198, i198, fB, hk198, hg198, ha198, hsB, -, hnB, htB, hffB⟩ := Cond.ownField (t := .object "java/lang/Object") Y.found L.cls (by decide +kernel) (a' (.fieldLink Bundle.tN 198 Bundle.tN "backtrace" Bundle.objD) (by simp [Bundle.npeArmAtoms])) (a' (.lays Bundle.tN Bundle.tN "backtrace" Bundle.objD) (by simp [Bundle.npeArmAtoms])) e.platform hpl
  obtain ⟨cellS, hcS', heS, -, hkeep⟩ := X.same.2.2.2.2.2 T.aS cellS0 hcS0
  have hcellS : W.heap[T.aS]? = some cellS := hcS'
  have hout' : ∀ i, (⟨T.aS, i⟩ : Loc) ∉ locs := fun i hmem => by
    have := hlocs _ hmem cellS0 hcS0
    rw [hiss] at this; cases this
  have hknownS : cellS.vm ≠ .unknown := by
    rw [heS]; intro hu
    rw [show cellS0.vm = .unknown from hu] at hiss
    cases hiss
  have hvU : cellS.slots[T.fUnassigned.slot]? = some u0.v := by rw [hkeep _ (hout' _)]; exact hu0
  have hvSen : cellS.slots[T.fSentinel.slot]? = some sen.v := by rw [hkeep _ (hout' _)]; exact hsen
  obtain ⟨tyC, dC, hdC, hdnC⟩ := Cond.laysAt hfound hk Y.cause (a' (.lays Bundle.nN Bundle.tN "cause" "Ljava/lang/Throwable;") (by simp [Bundle.npeArmAtoms]))
  obtain ⟨tyS, dS, hdS, hdnS⟩ := Cond.laysAt hfound hk Y.stack (a' (.lays Bundle.nN Bundle.tN "stackTrace" Bundle.steD) (by simp [Bundle.npeArmAtoms]))
  obtain ⟨tyP, dP, hdP, hdnP⟩ := Cond.laysAt hfound hk Y.supp (a' (.lays Bundle.nN Bundle.tN "suppressedExceptions" Bundle.listD) (by simp [Bundle.npeArmAtoms]))
  obtain ⟨tyX, dX, hdX, hdnX⟩ := Cond.laysAt hfound hk hffS (a' (.lays Bundle.nN Bundle.nN "extendedMessageState" "I") (by simp [Bundle.npeArmAtoms, Bundle.npeAtoms]))
  obtain ⟨hnX, htX⟩ := State.fieldFound?_type hffS (t := .int) (by decide +kernel)
  have xC := Cond.laysApart hdC hdX hdnC hdnX (by rw [hnX, Y.causeName]; decide)
  have xS := Cond.laysApart hdS hdX hdnS hdnX (by rw [hnX, Y.stackName]; decide)
  have xP := Cond.laysApart hdP hdX hdnP hdnX (by rw [hnX, Y.suppName]; decide)
  have hv0 : (freshCell P1.m.cls N.kN).slots[N.fState.slot]? = some (.int 0) := by
    have := fresh_default (c := P1.m.cls) tyX
    rw [htX] at this; exact this
  obtain ⟨tyB, dB, hdB, hdnB⟩ := Cond.laysAt hfound hk hffB (a' (.lays Bundle.nN Bundle.tN "backtrace" Bundle.objD) (by simp [Bundle.npeArmAtoms]))
  have bC := Cond.laysApart hdB hdC hdnB hdnC (by rw [hnB, Y.causeName]; decide)
  have bS := Cond.laysApart hdB hdS hdnB hdnS (by rw [hnB, Y.stackName]; decide)
  have bP := Cond.laysApart hdB hdP hdnB hdnP (by rw [hnB, Y.suppName]; decide)
  have bX := Cond.laysApart hdB hdX hdnB hdnX (by rw [hnB, hnX]; decide)
  have hbk : ((npeCell N.toNpeT (preparedCellV T.toThrowableT (freshCell P1.m.cls N.kN) W.heap.size u0 sen) W.cur).withEntry W.cur).slots[fB.slot]? = some .null := by
    have := fresh_default (c := P1.m.cls) tyB
    rw [htB] at this
    simpa [npeCell, preparedCellV, Cell.setSlot, Cell.withEntry, Array.getElem?_setIfInBounds, bC, bS, bP, bX, bC.symm, bS.symm, bP.symm, bX.symm, defaultValue] using this
  have tkC := Takes.of_laid (v := .ref W.heap.size) hk hordN tyC (by rw [Y.causeType]; rfl)
  have tkS := Takes.of_laid (v := u0.v) hk hordN tyS (by rw [Y.stackType]; exact fits_refV_array _ u0)
  have tkP := Takes.of_laid (v := sen.v) hk hordN tyP (by rw [Y.suppType]; exact fits_refV_object _ sen)
  have tkX := Takes.of_laid (v := .int 1) hk hordN tyX (by rw [htX]; rfl)
  have hskip : SkipFacts T e.platform s (fun u => u) u0 ((npeCell N.toNpeT (preparedCellV T.toThrowableT (freshCell P1.m.cls N.kN) W.heap.size u0 sen) W.cur).withEntry W.cur) := ⟨{ ci198 := ci198, i198 := i198, fBack := fB }, ⟨hk198, hg198, ha198, hsB⟩, hbk, fun _ _ => rfl⟩
  obtain ⟨vm', X3, st, -⟩ := X.throwsNpeColdBareVAt hexec hg hsize T L Z LZ N LN P1 L1 [PR, PE] hLs hlink1 ⟨hlinkR, hlinkE, trivial⟩ hfound hk hinit hordN hctor hsel0 hselF hcellS hknownS hvU hvSen
    hv0 xC xS xP tkC tkS tkP tkX Y.objLocals hskip (fun _ _ hA hW _ hroom _ hrest => L.nativeOff p htr hA hW hroom hrest) (by simpa using hRframes) hRlocals (by simp) hRcells (by rw [hn]; exact hRslots)
  have hlt : W.heap.size < ((W.pushCell (freshCell P1.m.cls N.kN)).setVm vm').heap.size := by
    show W.heap.size < (W.pushCell (freshCell P1.m.cls N.kN)).heap.size
    rw [State.heap_size_pushCell]; omega
  rw [hfsz] at X3
  obtain ⟨g₁, hfrM⟩ := X3.frames_eq
  have hU : ((((W.pushCell (freshCell P1.m.cls N.kN)).setVm vm').setCell W.heap.size (npeBareV T.toThrowableT N.toNpeT (freshCell P1.m.cls N.kN) W.heap.size u0 sen)).setTop g).pushFrame (.throwing W.heap.size) = (((W.pushCell (freshCell P1.m.cls N.kN)).setVm vm').setCell W.heap.size (npeBareV T.toThrowableT N.toNpeT (freshCell P1.m.cls N.kN) W.heap.size u0 sen)).setFrames (.throwing W.heap.size :: .java g :: below) := by
    rw [State.pushFrame, State.frames_setTop _ hfrM, State.setTop_of_frames _ hfrM, State.setFrames_setFrames]
  refine ⟨_, W.heap.size, _, fun target ht => st.trans (by rw [← hU]; exact ht), X3.forget (fun y hy => ?_), heapAt_setCell_self _ hlt, hfound, rfl⟩
  simp only [List.mem_cons, List.not_mem_nil, or_false] at hy
  have hge : s.heap.size ≤ W.heap.size := X.same.2.1
  rcases hy with rfl | rfl | rfl | rfl | rfl <;> exact hge
/-- the words of a machine's NullPointerException, but the four that speak of the heap -/
def vx_atN (n : Nat) : List Cond := (Bundle.npeArmAtoms n).filter vx_no
/-- the words of a machine's throw with a message, but the four that speak of the heap -/
def vx_atM (X : String) (names : List String) : List Cond := (Bundle.messageArmAtoms X names).filter vx_no
section
variable {p : Program} {l : Launch} {e : Env} {R : Room} {s : State} {m : MethodId} {args : Array Value} {below : List Frame} {meth : Method} {c : Code} {H : Heap} {locs : List Loc} {cells slots : Nat}
/-- a frame seen from a rebased start, seen from the first start again -/
theorem vx_back9 {T S : State} {R' : Room} {k n : Nat} (X : Stand p l e R s m args below meth c T locs cells slots) (Y : Stand p l e R' ((T.setVm s.vm).setFrames (.invoking m args :: below)) m args below meth c T [] 0 0) (Z : Stand p l e R' ((T.setVm s.vm).setFrames (.invoking m args :: below)) m args below meth c S [] k n) :
    Stand p l e R s m args below meth c S locs (cells + k) (slots + n) := by
  have hW0 : s.WarmedH ((T.setVm s.vm).setFrames (.invoking m args :: below)).vm := State.WarmedH.refl s
  refine { admits := X.admits, cas := X.cas, clock := X.clock, frames := X.frames, room := X.room, hears := X.hears, method := X.method, code := X.code, here := Z.here, tail := Z.tail, warmed := State.WarmedH.trans hW0 Z.warmed, limits := Z.limits.trans (Y.limits.symm.trans X.limits), bytes := Z.bytes.trans (Y.bytes.symm.trans X.bytes), same := ?_ }
  obtain ⟨e1, e2⟩ := Z.same
  rw [State.setFrames_setFrames] at e1
  have h2 : (T.setVm s.vm).sameButNew (S.setVm s.vm) [] k n := ⟨e1, e2⟩
  have h3 := X.same.trans h2
  rw [List.append_nil] at h3
  exact h3
/-- from the machine's note that E is thrown here with this text -/
def vx_Note (p : Program) (l : Launch) (e : Env) (R : Room) (s : State) (m : MethodId) (args : Array Value) (below : List Frame) (meth : Method) (c : Code) (H : Heap) (locs : List Loc) (cells slots : Nat) (Q : State → Prop) (g : JFrame) (E text : String) : Prop :=
  ∀ T : State, T.heap = H → Stand p l e R s m args below meth c T locs cells slots → ∃ t, Steps p.tables e below ((T.setTop g).pushFrame (.throwNew E (some text) none)) t ∧ Q t
theorem vx_vm {pc : Nat} {ls : Array Slot} {rest : List Value} {Q : State → Prop} (hexec : p.tables.exec = Jvm.exec) (hl : l.stackTraces = false) {cls text : String} {names : List String} {nb : Nat} {A : Nat → Prop}
    (hcls : Bundle.fit cls = true) (hnames : ∀ n ∈ names, Bundle.fit n = true) (hsoe : (cls == "java/lang/StackOverflowError") = false) (hoom : (cls == "java/lang/OutOfMemoryError") = false)
    (hat : ∀ w ∈ vx_atM cls names, w.before args s = true) (hgood : ∀ w ∈ vx_atM cls names, vx_ot w = true)
    (hU : vx_Zq Bundle.tN "UNASSIGNED_STACK" Bundle.steD A s s.heap) (hN : vx_Zq Bundle.tN "SUPPRESSED_SENTINEL" Bundle.listD A s s.heap) (hS : va_S A s.heap H locs) (hsize : ls.size = c.maxLocals)
    (htext : (text == notModelled) = false) (hnb : (stringBytes (stringToUtf16 text)).size ≤ nb) (hnb1 : nb ≤ 1000)
    (hRframes : names.length + 4 < R.frames) (hRlocals : (rest.map fun v => v.category).sum + 10240 ≤ R.locals) (hshort : 13 * names.length + 55 ≤ 10240) (hRcells : cells + 3 ≤ R.cells) (hRslots : slots + (nb + 10) ≤ R.slots) (hlocks : meth.locks = false)
    (k : ∀ (H1 : Heap) (q9 : Addr) (ce : Cell), H.size ≤ H1.size → (∀ q : Nat, q < H.size → H1[q]? = H[q]?) → va_S A s.heap H1 locs → H1[q9]? = some ce → ce.vm = .none → s.vm.findClass cls = some ce.cls → vx_W p l e R s m args below meth c H1 locs (cells + 3) (slots + (nb + 10)) Q (F0 m pc ls rest) q9) :
    vx_Note p l e R s m args below meth c H locs cells slots Q (F0 m pc ls rest) cls text := by
  intro T hT X
  have htr : e.platform.stackTraces = false := (show e.platform.stackTraces = l.stackTraces by rw [X.admits.platform]).trans hl
  have Y := vx_rebase X (R' := { frames := R.frames, locals := R.locals, cells := 3, slots := nb + 10 }) (Nat.le_refl _) (Nat.le_refl _) hRcells hRslots
  have hhp : ((T.setVm s.vm).setFrames (.invoking m args :: below)).heap = H := hT
  have hW0 : s.WarmedH ((T.setVm s.vm).setFrames (.invoking m args :: below)).vm := State.WarmedH.refl s
  have hat' : ∀ w ∈ vx_atM cls names, w.before args ((T.setVm s.vm).setFrames (.invoking m args :: below)) = true := fun w hw => vx_ot_at hW0 rfl (hgood w hw) (hat w hw)
  have hU' : vx_Zq Bundle.tN "UNASSIGNED_STACK" Bundle.steD A ((T.setVm s.vm).setFrames (.invoking m args :: below)) ((T.setVm s.vm).setFrames (.invoking m args :: below)).heap := by rw [hhp]; exact vx_Zq.moved hW0.alike (hU.kept hS.2.1)
  have hN' : vx_Zq Bundle.tN "SUPPRESSED_SENTINEL" Bundle.listD A ((T.setVm s.vm).setFrames (.invoking m args :: below)) ((T.setVm s.vm).setFrames (.invoking m args :: below)).heap := by rw [hhp]; exact vx_Zq.moved hW0.alike (hN.kept hS.2.1)
  obtain ⟨S, q, ce, st, Z, hce, hcl', hv⟩ := vx_vmAt Y hexec htr (cls := cls) (names := names) (text := text) hcls hnames hsoe hoom (vx_own hat' (vx_isRefq hU'.1) (vx_isRefq hN'.1) hU'.2.word hN'.2.word) (fun x hx => nomatch hx) htext
    (by rw [Launch.admits_arrayLengthLimit X.admits]; omega) (by rw [Launch.admits_maxHeapBytes X.admits]; simp only [componentBytes]; omega)
    (g := F0 m pc ls rest) rfl hsize hRframes (by show 2 * 0 + (rest.map fun v => v.category).sum + 10240 ≤ R.locals; omega) hshort (by show 0 + 3 ≤ 3; omega) (by show 0 + (_ + 4 + 6) ≤ nb + 10; omega) hlocks
  obtain ⟨f1, f2⟩ := vx_frame Z.same
  have f1' : H.size ≤ S.heap.size := by rw [← hT]; exact f1
  have f2' : ∀ q : Nat, q < H.size → S.heap[q]? = H[q]? := fun q hq => by
    rw [← hT]
    exact f2 q (by rw [← hT] at hq; exact hq) (fun z hz => nomatch hz)
  have X5 := vx_back9 X Y Z
  have X6 : Stand p l e R s m args below meth c S locs (cells + 3) (slots + (nb + 10)) := { X5 with same := X5.same.mono (by omega) (by omega) }
  obtain ⟨t, a1, b1⟩ := k S.heap q ce f1' f2' ⟨Nat.le_trans hS.1 f1', fun q h1 h2 => (f2' q (Nat.lt_of_lt_of_le h1 hS.1)).trans (hS.2.1 q h1 h2), hS.2.2⟩ hce hv hcl' S rfl X6
  exact ⟨t, st t a1, b1⟩
/-- from the machine's note that NullPointerException is thrown here -/
def vx_NoteN (p : Program) (l : Launch) (e : Env) (R : Room) (s : State) (m : MethodId) (args : Array Value) (below : List Frame) (meth : Method) (c : Code) (H : Heap) (locs : List Loc) (cells slots : Nat) (Q : State → Prop) (g : JFrame) : Prop :=
  ∀ T : State, T.heap = H → Stand p l e R s m args below meth c T locs cells slots → ∃ t, Steps p.tables e below ((T.setTop g).pushFrame (.throwNew "java/lang/NullPointerException" none none)) t ∧ Q t
theorem vx_npe {pc : Nat} {ls : Array Slot} {rest : List Value} {Q : State → Prop} (hexec : p.tables.exec = Jvm.exec) (hl : l.stackTraces = false) {nb : Nat} {A : Nat → Prop}
    (hat : ∀ w ∈ vx_atN nb, w.before args s = true) (hgood : ∀ w ∈ vx_atN nb, vx_ot w = true)
    (hU : vx_Zq Bundle.tN "UNASSIGNED_STACK" Bundle.steD A s s.heap) (hN : vx_Zq Bundle.tN "SUPPRESSED_SENTINEL" Bundle.listD A s s.heap) (hS : va_S A s.heap H locs) (hsize : ls.size = c.maxLocals)
    (hRframes : 7 < R.frames) (hRlocals : (rest.map fun v => v.category).sum + 10240 ≤ R.locals) (hRcells : cells + 1 ≤ R.cells) (hRslots : slots + nb ≤ R.slots) (hlocks : meth.locks = false)
    (k : ∀ (H1 : Heap) (q9 : Addr) (ce : Cell), H.size ≤ H1.size → (∀ q : Nat, q < H.size → H1[q]? = H[q]?) → va_S A s.heap H1 locs → H1[q9]? = some ce → ce.vm = .none → s.vm.findClass "java/lang/NullPointerException" = some ce.cls → vx_W p l e R s m args below meth c H1 locs (cells + 1) (slots + nb) Q (F0 m pc ls rest) q9) :
    vx_NoteN p l e R s m args below meth c H locs cells slots Q (F0 m pc ls rest) := by
  intro T hT X
  have htr : e.platform.stackTraces = false := (show e.platform.stackTraces = l.stackTraces by rw [X.admits.platform]).trans hl
  have Y := vx_rebase X (R' := { frames := R.frames, locals := R.locals, cells := 1, slots := nb }) (Nat.le_refl _) (Nat.le_refl _) hRcells hRslots
  have hhp : ((T.setVm s.vm).setFrames (.invoking m args :: below)).heap = H := hT
  have hW0 : s.WarmedH ((T.setVm s.vm).setFrames (.invoking m args :: below)).vm := State.WarmedH.refl s
  have hat' : ∀ w ∈ vx_atN nb, w.before args ((T.setVm s.vm).setFrames (.invoking m args :: below)) = true := fun w hw => vx_ot_at hW0 rfl (hgood w hw) (hat w hw)
  have hU' : vx_Zq Bundle.tN "UNASSIGNED_STACK" Bundle.steD A ((T.setVm s.vm).setFrames (.invoking m args :: below)) ((T.setVm s.vm).setFrames (.invoking m args :: below)).heap := by rw [hhp]; exact vx_Zq.moved hW0.alike (hU.kept hS.2.1)
  have hN' : vx_Zq Bundle.tN "SUPPRESSED_SENTINEL" Bundle.listD A ((T.setVm s.vm).setFrames (.invoking m args :: below)) ((T.setVm s.vm).setFrames (.invoking m args :: below)).heap := by rw [hhp]; exact vx_Zq.moved hW0.alike (hN.kept hS.2.1)
  obtain ⟨S, q, ce, st, Z, hce, hcl', hv⟩ := vx_npeAt Y hexec htr (n := nb) (vx_own hat' (vx_isRefq hU'.1) (vx_isRefq hN'.1) hU'.2.word hN'.2.word) (fun x hx => nomatch hx)
    (g := F0 m pc ls rest) rfl hsize hRframes (by show 2 * 0 + (rest.map fun v => v.category).sum + 10240 ≤ R.locals; omega) (by show 0 + 1 ≤ 1; omega) (by show 0 + nb ≤ nb; omega) hlocks
  obtain ⟨f1, f2⟩ := vx_frame Z.same
  have f1' : H.size ≤ S.heap.size := by rw [← hT]; exact f1
  have f2' : ∀ q : Nat, q < H.size → S.heap[q]? = H[q]? := fun q hq => by
    rw [← hT]
    exact f2 q (by rw [← hT] at hq; exact hq) (fun z hz => nomatch hz)
  have X5 := vx_back9 X Y Z
  have X6 : Stand p l e R s m args below meth c S locs (cells + 1) (slots + nb) := { X5 with same := X5.same.mono (by omega) (by omega) }
  obtain ⟨t, a1, b1⟩ := k S.heap q ce f1' f2' ⟨Nat.le_trans hS.1 f1', fun q h1 h2 => (f2' q (Nat.lt_of_lt_of_le h1 hS.1)).trans (hS.2.1 q h1 h2), hS.2.2⟩ hce hv hcl' S rfl X6
  exact ⟨t, st t a1, b1⟩
variable {Q : State → Prop} {cc : ByteArray} {pc : Nat} {ls : Array Slot} {rest : List Value}
theorem vx_idivZ (hexec : p.tables.exec = Jvm.exec) (hb : c.code = cc) {a b : Int32} (h0 : b = 0) (d : decode cc pc = .ok (.idiv, 1)) (k : vx_Note p l e R s m args below meth c H locs cells slots Q (F0 m pc ls rest) "java/lang/ArithmeticException" "/ by zero") :
    W p l e R s m args below meth c H locs cells slots Q (F0 m pc ls (.int b :: .int a :: rest)) := by
  intro T hT X
  obtain ⟨t, st, q⟩ := k T hT X
  exact ⟨t, X.idivZero hexec (g := F0 m pc ls (.int b :: .int a :: rest)) rfl (a := a) (rest := rest) (by rw [h0]) (by rw [hb]; exact d) t st, q⟩
theorem vx_iremZ (hexec : p.tables.exec = Jvm.exec) (hb : c.code = cc) {a b : Int32} (h0 : b = 0) (d : decode cc pc = .ok (.irem, 1)) (k : vx_Note p l e R s m args below meth c H locs cells slots Q (F0 m pc ls rest) "java/lang/ArithmeticException" "/ by zero") :
    W p l e R s m args below meth c H locs cells slots Q (F0 m pc ls (.int b :: .int a :: rest)) := by
  intro T hT X
  obtain ⟨t, st, q⟩ := k T hT X
  exact ⟨t, X.iremZero hexec (g := F0 m pc ls (.int b :: .int a :: rest)) rfl (a := a) (rest := rest) (by rw [h0]) (by rw [hb]; exact d) t st, q⟩
theorem vx_ldivZ (hexec : p.tables.exec = Jvm.exec) (hb : c.code = cc) {a b : Int64} (h0 : b = 0) (d : decode cc pc = .ok (.ldiv, 1)) (k : vx_Note p l e R s m args below meth c H locs cells slots Q (F0 m pc ls rest) "java/lang/ArithmeticException" "/ by zero") :
    W p l e R s m args below meth c H locs cells slots Q (F0 m pc ls (.long b :: .long a :: rest)) := by
  intro T hT X
  obtain ⟨t, st, q⟩ := k T hT X
  exact ⟨t, X.ldivZero hexec (g := F0 m pc ls (.long b :: .long a :: rest)) rfl (a := a) (rest := rest) (by rw [h0]) (by rw [hb]; exact d) t st, q⟩
theorem vx_lremZ (hexec : p.tables.exec = Jvm.exec) (hb : c.code = cc) {a b : Int64} (h0 : b = 0) (d : decode cc pc = .ok (.lrem, 1)) (k : vx_Note p l e R s m args below meth c H locs cells slots Q (F0 m pc ls rest) "java/lang/ArithmeticException" "/ by zero") :
    W p l e R s m args below meth c H locs cells slots Q (F0 m pc ls (.long b :: .long a :: rest)) := by
  intro T hT X
  obtain ⟨t, st, q⟩ := k T hT X
  exact ⟨t, X.lremZero hexec (g := F0 m pc ls (.long b :: .long a :: rest)) rfl (a := a) (rest := rest) (by rw [h0]) (by rw [hb]; exact d) t st, q⟩
theorem vx_ialdZ {D : va_G} {cl : List vw_C} {ws : va_W} {tys : List (ClassId × FieldType)} {a : Nat} (hexec : p.tables.exec = Jvm.exec) (hb : c.code = cc) (hK : va_K D cl tys s) (hP : va_P D cl ws H) (q0 t0 : Nat) {cA : ClassId} {n : Nat} {f : Nat → Int32} (ha : ws[q0]? = some (a, .inl (cA, n, .inl f))) (ht : tys[t0]? = some (cA, .int)) {i : Int32} (hout : ¬ vp_in i n) (hdg : decode cc pc = .ok (.iaload, 1))
    (k : ∀ tx : String, tx = (toString "Index " ++ toString i ++ toString " out of bounds for length " ++ toString n : String) → vx_Note p l e R s m args below meth c H locs cells slots Q (F0 m pc ls rest) "java/lang/ArrayIndexOutOfBoundsException" tx) : W p l e R s m args below meth c H locs cells slots Q (F0 m pc ls (.int i :: .ref a :: rest)) := by
  intro T hT X
  obtain ⟨t, st, q⟩ := k _ rfl T hT X
  refine ⟨t, ?_, q⟩
  have h1 := X.ialoadOut hexec (by rw [hT]; exact hP q0 _ ha) ((hK.2 t0 _ ht).1 n (fun j => .int (f j))) (j := i) (by show (i < 0 ∨ (arrV _ _ _).slots.size ≤ _); rw [arrV_size]; exact Classical.byContradiction hout) (g := F0 m pc ls (.int i :: .ref a :: rest)) rfl (rest := rest) rfl (by rw [hb]; exact hdg) t
  simp only [arrV_size] at h1
  exact h1 st
theorem vx_iastZ {D : va_G} {cl : List vw_C} {ws : va_W} {tys : List (ClassId × FieldType)} {a : Nat} (hexec : p.tables.exec = Jvm.exec) (hb : c.code = cc) (hK : va_K D cl tys s) (hP : va_P D cl ws H) (q0 t0 : Nat) {cA : ClassId} {n : Nat} {f : Nat → Int32} (ha : ws[q0]? = some (a, .inl (cA, n, .inl f))) (ht : tys[t0]? = some (cA, .int)) {i : Int32} {x : Int32} (hout : ¬ vp_in i n) (hdg : decode cc pc = .ok (.iastore, 1))
    (k : ∀ tx : String, tx = (toString "Index " ++ toString i ++ toString " out of bounds for length " ++ toString n : String) → vx_Note p l e R s m args below meth c H locs cells slots Q (F0 m pc ls rest) "java/lang/ArrayIndexOutOfBoundsException" tx) : W p l e R s m args below meth c H locs cells slots Q (F0 m pc ls (.int x :: .int i :: .ref a :: rest)) := by
  intro T hT X
  obtain ⟨t, st, q⟩ := k _ rfl T hT X
  refine ⟨t, ?_, q⟩
  have h1 := X.iastoreOut hexec (by rw [hT]; exact hP q0 _ ha) ((hK.2 t0 _ ht).1 n (fun j => .int (f j))) (j := i) (by show (i < 0 ∨ (arrV _ _ _).slots.size ≤ _); rw [arrV_size]; exact Classical.byContradiction hout) (g := F0 m pc ls (.int x :: .int i :: .ref a :: rest)) rfl (rest := rest) rfl (by rw [hb]; exact hdg) t
  simp only [arrV_size] at h1
  exact h1 st
theorem vx_baldZ {D : va_G} {cl : List vw_C} {ws : va_W} {tys : List (ClassId × FieldType)} {a : Nat} (hexec : p.tables.exec = Jvm.exec) (hb : c.code = cc) (hK : va_K D cl tys s) (hP : va_P D cl ws H) (q0 t0 : Nat) {cA : ClassId} {n : Nat} {f : Nat → Int32} (ha : ws[q0]? = some (a, .inl (cA, n, .inl f))) (ht : tys[t0]? = some (cA, .byte)) {i : Int32} (hout : ¬ vp_in i n) (hdg : decode cc pc = .ok (.baload, 1))
    (k : ∀ tx : String, tx = (toString "Index " ++ toString i ++ toString " out of bounds for length " ++ toString n : String) → vx_Note p l e R s m args below meth c H locs cells slots Q (F0 m pc ls rest) "java/lang/ArrayIndexOutOfBoundsException" tx) : W p l e R s m args below meth c H locs cells slots Q (F0 m pc ls (.int i :: .ref a :: rest)) := by
  intro T hT X
  obtain ⟨t, st, q⟩ := k _ rfl T hT X
  refine ⟨t, ?_, q⟩
  have h1 := X.baloadOut hexec (by rw [hT]; exact hP q0 _ ha) ((hK.2 t0 _ ht).1 n (fun j => .int (f j))) (j := i) (by show (i < 0 ∨ (arrV _ _ _).slots.size ≤ _); rw [arrV_size]; exact Classical.byContradiction hout) (g := F0 m pc ls (.int i :: .ref a :: rest)) rfl (rest := rest) rfl (by rw [hb]; exact hdg) t
  simp only [arrV_size] at h1
  exact h1 st
theorem vx_bastZ {D : va_G} {cl : List vw_C} {ws : va_W} {tys : List (ClassId × FieldType)} {a : Nat} (hexec : p.tables.exec = Jvm.exec) (hb : c.code = cc) (hK : va_K D cl tys s) (hP : va_P D cl ws H) (q0 t0 : Nat) {cA : ClassId} {n : Nat} {f : Nat → Int32} (ha : ws[q0]? = some (a, .inl (cA, n, .inl f))) (ht : tys[t0]? = some (cA, .byte)) {i : Int32} {x : Int32} (hout : ¬ vp_in i n) (hdg : decode cc pc = .ok (.bastore, 1))
    (k : ∀ tx : String, tx = (toString "Index " ++ toString i ++ toString " out of bounds for length " ++ toString n : String) → vx_Note p l e R s m args below meth c H locs cells slots Q (F0 m pc ls rest) "java/lang/ArrayIndexOutOfBoundsException" tx) : W p l e R s m args below meth c H locs cells slots Q (F0 m pc ls (.int x :: .int i :: .ref a :: rest)) := by
  intro T hT X
  obtain ⟨t, st, q⟩ := k _ rfl T hT X
  refine ⟨t, ?_, q⟩
  have h1 := X.bastoreOut hexec (by rw [hT]; exact hP q0 _ ha) ((hK.2 t0 _ ht).1 n (fun j => .int (f j))) (j := i) (by show (i < 0 ∨ (arrV _ _ _).slots.size ≤ _); rw [arrV_size]; exact Classical.byContradiction hout) (g := F0 m pc ls (.int x :: .int i :: .ref a :: rest)) rfl (rest := rest) rfl (by rw [hb]; exact hdg) t
  simp only [arrV_size] at h1
  exact h1 st
theorem vx_zaldZ {D : va_G} {cl : List vw_C} {ws : va_W} {tys : List (ClassId × FieldType)} {a : Nat} (hexec : p.tables.exec = Jvm.exec) (hb : c.code = cc) (hK : va_K D cl tys s) (hP : va_P D cl ws H) (q0 t0 : Nat) {cA : ClassId} {n : Nat} {f : Nat → Int32} (ha : ws[q0]? = some (a, .inl (cA, n, .inl f))) (ht : tys[t0]? = some (cA, .boolean)) {i : Int32} (hout : ¬ vp_in i n) (hdg : decode cc pc = .ok (.baload, 1))
    (k : ∀ tx : String, tx = (toString "Index " ++ toString i ++ toString " out of bounds for length " ++ toString n : String) → vx_Note p l e R s m args below meth c H locs cells slots Q (F0 m pc ls rest) "java/lang/ArrayIndexOutOfBoundsException" tx) : W p l e R s m args below meth c H locs cells slots Q (F0 m pc ls (.int i :: .ref a :: rest)) := by
  intro T hT X
  obtain ⟨t, st, q⟩ := k _ rfl T hT X
  refine ⟨t, ?_, q⟩
  have h1 := X.baloadOut hexec (by rw [hT]; exact hP q0 _ ha) ((hK.2 t0 _ ht).1 n (fun j => .int (f j))) (j := i) (by show (i < 0 ∨ (arrV _ _ _).slots.size ≤ _); rw [arrV_size]; exact Classical.byContradiction hout) (g := F0 m pc ls (.int i :: .ref a :: rest)) rfl (rest := rest) rfl (by rw [hb]; exact hdg) t
  simp only [arrV_size] at h1
  exact h1 st
theorem vx_zastZ {D : va_G} {cl : List vw_C} {ws : va_W} {tys : List (ClassId × FieldType)} {a : Nat} (hexec : p.tables.exec = Jvm.exec) (hb : c.code = cc) (hK : va_K D cl tys s) (hP : va_P D cl ws H) (q0 t0 : Nat) {cA : ClassId} {n : Nat} {f : Nat → Int32} (ha : ws[q0]? = some (a, .inl (cA, n, .inl f))) (ht : tys[t0]? = some (cA, .boolean)) {i : Int32} {x : Int32} (hout : ¬ vp_in i n) (hdg : decode cc pc = .ok (.bastore, 1))
    (k : ∀ tx : String, tx = (toString "Index " ++ toString i ++ toString " out of bounds for length " ++ toString n : String) → vx_Note p l e R s m args below meth c H locs cells slots Q (F0 m pc ls rest) "java/lang/ArrayIndexOutOfBoundsException" tx) : W p l e R s m args below meth c H locs cells slots Q (F0 m pc ls (.int x :: .int i :: .ref a :: rest)) := by
  intro T hT X
  obtain ⟨t, st, q⟩ := k _ rfl T hT X
  refine ⟨t, ?_, q⟩
  have h1 := X.bastoreOut hexec (by rw [hT]; exact hP q0 _ ha) ((hK.2 t0 _ ht).1 n (fun j => .int (f j))) (j := i) (by show (i < 0 ∨ (arrV _ _ _).slots.size ≤ _); rw [arrV_size]; exact Classical.byContradiction hout) (g := F0 m pc ls (.int x :: .int i :: .ref a :: rest)) rfl (rest := rest) rfl (by rw [hb]; exact hdg) t
  simp only [arrV_size] at h1
  exact h1 st
theorem vx_caldZ {D : va_G} {cl : List vw_C} {ws : va_W} {tys : List (ClassId × FieldType)} {a : Nat} (hexec : p.tables.exec = Jvm.exec) (hb : c.code = cc) (hK : va_K D cl tys s) (hP : va_P D cl ws H) (q0 t0 : Nat) {cA : ClassId} {n : Nat} {f : Nat → Int32} (ha : ws[q0]? = some (a, .inl (cA, n, .inl f))) (ht : tys[t0]? = some (cA, .char)) {i : Int32} (hout : ¬ vp_in i n) (hdg : decode cc pc = .ok (.caload, 1))
    (k : ∀ tx : String, tx = (toString "Index " ++ toString i ++ toString " out of bounds for length " ++ toString n : String) → vx_Note p l e R s m args below meth c H locs cells slots Q (F0 m pc ls rest) "java/lang/ArrayIndexOutOfBoundsException" tx) : W p l e R s m args below meth c H locs cells slots Q (F0 m pc ls (.int i :: .ref a :: rest)) := by
  intro T hT X
  obtain ⟨t, st, q⟩ := k _ rfl T hT X
  refine ⟨t, ?_, q⟩
  have h1 := X.caloadOut hexec (by rw [hT]; exact hP q0 _ ha) ((hK.2 t0 _ ht).1 n (fun j => .int (f j))) (j := i) (by show (i < 0 ∨ (arrV _ _ _).slots.size ≤ _); rw [arrV_size]; exact Classical.byContradiction hout) (g := F0 m pc ls (.int i :: .ref a :: rest)) rfl (rest := rest) rfl (by rw [hb]; exact hdg) t
  simp only [arrV_size] at h1
  exact h1 st
theorem vx_castZ {D : va_G} {cl : List vw_C} {ws : va_W} {tys : List (ClassId × FieldType)} {a : Nat} (hexec : p.tables.exec = Jvm.exec) (hb : c.code = cc) (hK : va_K D cl tys s) (hP : va_P D cl ws H) (q0 t0 : Nat) {cA : ClassId} {n : Nat} {f : Nat → Int32} (ha : ws[q0]? = some (a, .inl (cA, n, .inl f))) (ht : tys[t0]? = some (cA, .char)) {i : Int32} {x : Int32} (hout : ¬ vp_in i n) (hdg : decode cc pc = .ok (.castore, 1))
    (k : ∀ tx : String, tx = (toString "Index " ++ toString i ++ toString " out of bounds for length " ++ toString n : String) → vx_Note p l e R s m args below meth c H locs cells slots Q (F0 m pc ls rest) "java/lang/ArrayIndexOutOfBoundsException" tx) : W p l e R s m args below meth c H locs cells slots Q (F0 m pc ls (.int x :: .int i :: .ref a :: rest)) := by
  intro T hT X
  obtain ⟨t, st, q⟩ := k _ rfl T hT X
  refine ⟨t, ?_, q⟩
  have h1 := X.castoreOut hexec (by rw [hT]; exact hP q0 _ ha) ((hK.2 t0 _ ht).1 n (fun j => .int (f j))) (j := i) (by show (i < 0 ∨ (arrV _ _ _).slots.size ≤ _); rw [arrV_size]; exact Classical.byContradiction hout) (g := F0 m pc ls (.int x :: .int i :: .ref a :: rest)) rfl (rest := rest) rfl (by rw [hb]; exact hdg) t
  simp only [arrV_size] at h1
  exact h1 st
theorem vx_saldZ {D : va_G} {cl : List vw_C} {ws : va_W} {tys : List (ClassId × FieldType)} {a : Nat} (hexec : p.tables.exec = Jvm.exec) (hb : c.code = cc) (hK : va_K D cl tys s) (hP : va_P D cl ws H) (q0 t0 : Nat) {cA : ClassId} {n : Nat} {f : Nat → Int32} (ha : ws[q0]? = some (a, .inl (cA, n, .inl f))) (ht : tys[t0]? = some (cA, .short)) {i : Int32} (hout : ¬ vp_in i n) (hdg : decode cc pc = .ok (.saload, 1))
    (k : ∀ tx : String, tx = (toString "Index " ++ toString i ++ toString " out of bounds for length " ++ toString n : String) → vx_Note p l e R s m args below meth c H locs cells slots Q (F0 m pc ls rest) "java/lang/ArrayIndexOutOfBoundsException" tx) : W p l e R s m args below meth c H locs cells slots Q (F0 m pc ls (.int i :: .ref a :: rest)) := by
  intro T hT X
  obtain ⟨t, st, q⟩ := k _ rfl T hT X
  refine ⟨t, ?_, q⟩
  have h1 := X.saloadOut hexec (by rw [hT]; exact hP q0 _ ha) ((hK.2 t0 _ ht).1 n (fun j => .int (f j))) (j := i) (by show (i < 0 ∨ (arrV _ _ _).slots.size ≤ _); rw [arrV_size]; exact Classical.byContradiction hout) (g := F0 m pc ls (.int i :: .ref a :: rest)) rfl (rest := rest) rfl (by rw [hb]; exact hdg) t
  simp only [arrV_size] at h1
  exact h1 st
theorem vx_sastZ {D : va_G} {cl : List vw_C} {ws : va_W} {tys : List (ClassId × FieldType)} {a : Nat} (hexec : p.tables.exec = Jvm.exec) (hb : c.code = cc) (hK : va_K D cl tys s) (hP : va_P D cl ws H) (q0 t0 : Nat) {cA : ClassId} {n : Nat} {f : Nat → Int32} (ha : ws[q0]? = some (a, .inl (cA, n, .inl f))) (ht : tys[t0]? = some (cA, .short)) {i : Int32} {x : Int32} (hout : ¬ vp_in i n) (hdg : decode cc pc = .ok (.sastore, 1))
    (k : ∀ tx : String, tx = (toString "Index " ++ toString i ++ toString " out of bounds for length " ++ toString n : String) → vx_Note p l e R s m args below meth c H locs cells slots Q (F0 m pc ls rest) "java/lang/ArrayIndexOutOfBoundsException" tx) : W p l e R s m args below meth c H locs cells slots Q (F0 m pc ls (.int x :: .int i :: .ref a :: rest)) := by
  intro T hT X
  obtain ⟨t, st, q⟩ := k _ rfl T hT X
  refine ⟨t, ?_, q⟩
  have h1 := X.sastoreOut hexec (by rw [hT]; exact hP q0 _ ha) ((hK.2 t0 _ ht).1 n (fun j => .int (f j))) (j := i) (by show (i < 0 ∨ (arrV _ _ _).slots.size ≤ _); rw [arrV_size]; exact Classical.byContradiction hout) (g := F0 m pc ls (.int x :: .int i :: .ref a :: rest)) rfl (rest := rest) rfl (by rw [hb]; exact hdg) t
  simp only [arrV_size] at h1
  exact h1 st
theorem vx_laldZ {D : va_G} {cl : List vw_C} {ws : va_W} {tys : List (ClassId × FieldType)} {a : Nat} (hexec : p.tables.exec = Jvm.exec) (hb : c.code = cc) (hK : va_K D cl tys s) (hP : va_P D cl ws H) (q0 t0 : Nat) {cA : ClassId} {n : Nat} {f : Nat → Int64} (ha : ws[q0]? = some (a, .inl (cA, n, .inr (.inl f)))) (ht : tys[t0]? = some (cA, .long)) {i : Int32} (hout : ¬ vp_in i n) (hdg : decode cc pc = .ok (.laload, 1))
    (k : ∀ tx : String, tx = (toString "Index " ++ toString i ++ toString " out of bounds for length " ++ toString n : String) → vx_Note p l e R s m args below meth c H locs cells slots Q (F0 m pc ls rest) "java/lang/ArrayIndexOutOfBoundsException" tx) : W p l e R s m args below meth c H locs cells slots Q (F0 m pc ls (.int i :: .ref a :: rest)) := by
  intro T hT X
  obtain ⟨t, st, q⟩ := k _ rfl T hT X
  refine ⟨t, ?_, q⟩
  have h1 := X.laloadOut hexec (by rw [hT]; exact hP q0 _ ha) ((hK.2 t0 _ ht).1 n (fun j => .long (f j))) (j := i) (by show (i < 0 ∨ (arrV _ _ _).slots.size ≤ _); rw [arrV_size]; exact Classical.byContradiction hout) (g := F0 m pc ls (.int i :: .ref a :: rest)) rfl (rest := rest) rfl (by rw [hb]; exact hdg) t
  simp only [arrV_size] at h1
  exact h1 st
theorem vx_lastZ {D : va_G} {cl : List vw_C} {ws : va_W} {tys : List (ClassId × FieldType)} {a : Nat} (hexec : p.tables.exec = Jvm.exec) (hb : c.code = cc) (hK : va_K D cl tys s) (hP : va_P D cl ws H) (q0 t0 : Nat) {cA : ClassId} {n : Nat} {f : Nat → Int64} (ha : ws[q0]? = some (a, .inl (cA, n, .inr (.inl f)))) (ht : tys[t0]? = some (cA, .long)) {i : Int32} {x : Int64} (hout : ¬ vp_in i n) (hdg : decode cc pc = .ok (.lastore, 1))
    (k : ∀ tx : String, tx = (toString "Index " ++ toString i ++ toString " out of bounds for length " ++ toString n : String) → vx_Note p l e R s m args below meth c H locs cells slots Q (F0 m pc ls rest) "java/lang/ArrayIndexOutOfBoundsException" tx) : W p l e R s m args below meth c H locs cells slots Q (F0 m pc ls (.long x :: .int i :: .ref a :: rest)) := by
  intro T hT X
  obtain ⟨t, st, q⟩ := k _ rfl T hT X
  refine ⟨t, ?_, q⟩
  have h1 := X.lastoreOut hexec (by rw [hT]; exact hP q0 _ ha) ((hK.2 t0 _ ht).1 n (fun j => .long (f j))) (j := i) (by show (i < 0 ∨ (arrV _ _ _).slots.size ≤ _); rw [arrV_size]; exact Classical.byContradiction hout) (g := F0 m pc ls (.long x :: .int i :: .ref a :: rest)) rfl (rest := rest) rfl (by rw [hb]; exact hdg) t
  simp only [arrV_size] at h1
  exact h1 st
theorem vx_faldZ {D : va_G} {cl : List vw_C} {ws : va_W} {tys : List (ClassId × FieldType)} {a : Nat} (hexec : p.tables.exec = Jvm.exec) (hb : c.code = cc) (hK : va_K D cl tys s) (hP : va_P D cl ws H) (q0 t0 : Nat) {cA : ClassId} {n : Nat} {f : Nat → UInt32} (ha : ws[q0]? = some (a, .inl (cA, n, .inr (.inr (.inl f))))) (ht : tys[t0]? = some (cA, .float)) {i : Int32} (hout : ¬ vp_in i n) (hdg : decode cc pc = .ok (.faload, 1))
    (k : ∀ tx : String, tx = (toString "Index " ++ toString i ++ toString " out of bounds for length " ++ toString n : String) → vx_Note p l e R s m args below meth c H locs cells slots Q (F0 m pc ls rest) "java/lang/ArrayIndexOutOfBoundsException" tx) : W p l e R s m args below meth c H locs cells slots Q (F0 m pc ls (.int i :: .ref a :: rest)) := by
  intro T hT X
  obtain ⟨t, st, q⟩ := k _ rfl T hT X
  refine ⟨t, ?_, q⟩
  have h1 := X.faloadOut hexec (by rw [hT]; exact hP q0 _ ha) ((hK.2 t0 _ ht).1 n (fun j => .float (f j))) (j := i) (by show (i < 0 ∨ (arrV _ _ _).slots.size ≤ _); rw [arrV_size]; exact Classical.byContradiction hout) (g := F0 m pc ls (.int i :: .ref a :: rest)) rfl (rest := rest) rfl (by rw [hb]; exact hdg) t
  simp only [arrV_size] at h1
  exact h1 st
theorem vx_fastZ {D : va_G} {cl : List vw_C} {ws : va_W} {tys : List (ClassId × FieldType)} {a : Nat} (hexec : p.tables.exec = Jvm.exec) (hb : c.code = cc) (hK : va_K D cl tys s) (hP : va_P D cl ws H) (q0 t0 : Nat) {cA : ClassId} {n : Nat} {f : Nat → UInt32} (ha : ws[q0]? = some (a, .inl (cA, n, .inr (.inr (.inl f))))) (ht : tys[t0]? = some (cA, .float)) {i : Int32} {x : UInt32} (hout : ¬ vp_in i n) (hdg : decode cc pc = .ok (.fastore, 1))
    (k : ∀ tx : String, tx = (toString "Index " ++ toString i ++ toString " out of bounds for length " ++ toString n : String) → vx_Note p l e R s m args below meth c H locs cells slots Q (F0 m pc ls rest) "java/lang/ArrayIndexOutOfBoundsException" tx) : W p l e R s m args below meth c H locs cells slots Q (F0 m pc ls (.float x :: .int i :: .ref a :: rest)) := by
  intro T hT X
  obtain ⟨t, st, q⟩ := k _ rfl T hT X
  refine ⟨t, ?_, q⟩
  have h1 := X.fastoreOut hexec (by rw [hT]; exact hP q0 _ ha) ((hK.2 t0 _ ht).1 n (fun j => .float (f j))) (j := i) (by show (i < 0 ∨ (arrV _ _ _).slots.size ≤ _); rw [arrV_size]; exact Classical.byContradiction hout) (g := F0 m pc ls (.float x :: .int i :: .ref a :: rest)) rfl (rest := rest) rfl (by rw [hb]; exact hdg) t
  simp only [arrV_size] at h1
  exact h1 st
theorem vx_daldZ {D : va_G} {cl : List vw_C} {ws : va_W} {tys : List (ClassId × FieldType)} {a : Nat} (hexec : p.tables.exec = Jvm.exec) (hb : c.code = cc) (hK : va_K D cl tys s) (hP : va_P D cl ws H) (q0 t0 : Nat) {cA : ClassId} {n : Nat} {f : Nat → UInt64} (ha : ws[q0]? = some (a, .inl (cA, n, .inr (.inr (.inr (.inl f)))))) (ht : tys[t0]? = some (cA, .double)) {i : Int32} (hout : ¬ vp_in i n) (hdg : decode cc pc = .ok (.daload, 1))
    (k : ∀ tx : String, tx = (toString "Index " ++ toString i ++ toString " out of bounds for length " ++ toString n : String) → vx_Note p l e R s m args below meth c H locs cells slots Q (F0 m pc ls rest) "java/lang/ArrayIndexOutOfBoundsException" tx) : W p l e R s m args below meth c H locs cells slots Q (F0 m pc ls (.int i :: .ref a :: rest)) := by
  intro T hT X
  obtain ⟨t, st, q⟩ := k _ rfl T hT X
  refine ⟨t, ?_, q⟩
  have h1 := X.daloadOut hexec (by rw [hT]; exact hP q0 _ ha) ((hK.2 t0 _ ht).1 n (fun j => .double (f j))) (j := i) (by show (i < 0 ∨ (arrV _ _ _).slots.size ≤ _); rw [arrV_size]; exact Classical.byContradiction hout) (g := F0 m pc ls (.int i :: .ref a :: rest)) rfl (rest := rest) rfl (by rw [hb]; exact hdg) t
  simp only [arrV_size] at h1
  exact h1 st
theorem vx_dastZ {D : va_G} {cl : List vw_C} {ws : va_W} {tys : List (ClassId × FieldType)} {a : Nat} (hexec : p.tables.exec = Jvm.exec) (hb : c.code = cc) (hK : va_K D cl tys s) (hP : va_P D cl ws H) (q0 t0 : Nat) {cA : ClassId} {n : Nat} {f : Nat → UInt64} (ha : ws[q0]? = some (a, .inl (cA, n, .inr (.inr (.inr (.inl f)))))) (ht : tys[t0]? = some (cA, .double)) {i : Int32} {x : UInt64} (hout : ¬ vp_in i n) (hdg : decode cc pc = .ok (.dastore, 1))
    (k : ∀ tx : String, tx = (toString "Index " ++ toString i ++ toString " out of bounds for length " ++ toString n : String) → vx_Note p l e R s m args below meth c H locs cells slots Q (F0 m pc ls rest) "java/lang/ArrayIndexOutOfBoundsException" tx) : W p l e R s m args below meth c H locs cells slots Q (F0 m pc ls (.double x :: .int i :: .ref a :: rest)) := by
  intro T hT X
  obtain ⟨t, st, q⟩ := k _ rfl T hT X
  refine ⟨t, ?_, q⟩
  have h1 := X.dastoreOut hexec (by rw [hT]; exact hP q0 _ ha) ((hK.2 t0 _ ht).1 n (fun j => .double (f j))) (j := i) (by show (i < 0 ∨ (arrV _ _ _).slots.size ≤ _); rw [arrV_size]; exact Classical.byContradiction hout) (g := F0 m pc ls (.double x :: .int i :: .ref a :: rest)) rfl (rest := rest) rfl (by rw [hb]; exact hdg) t
  simp only [arrV_size] at h1
  exact h1 st
theorem vx_arraylengthN (hexec : p.tables.exec = Jvm.exec) (hb : c.code = cc) (hdg : decode cc pc = .ok (.arraylength, 1)) (k : vx_NoteN p l e R s m args below meth c H locs cells slots Q (F0 m pc ls rest)) : W p l e R s m args below meth c H locs cells slots Q (F0 m pc ls (.null :: rest)) := by
  intro T hT X
  obtain ⟨t, st, q⟩ := k T hT X
  exact ⟨t, X.arraylengthNull hexec (g := F0 m pc ls (.null :: rest)) rfl (rest := rest) rfl (by rw [hb]; exact hdg) t st, q⟩
theorem vx_ialoadN (hexec : p.tables.exec = Jvm.exec) (hb : c.code = cc) {i : Int32} (hdg : decode cc pc = .ok (.iaload, 1)) (k : vx_NoteN p l e R s m args below meth c H locs cells slots Q (F0 m pc ls rest)) : W p l e R s m args below meth c H locs cells slots Q (F0 m pc ls (.int i :: .null :: rest)) := by
  intro T hT X
  obtain ⟨t, st, q⟩ := k T hT X
  exact ⟨t, X.ialoadNull hexec (g := F0 m pc ls (.int i :: .null :: rest)) rfl (rest := rest) rfl (by rw [hb]; exact hdg) t st, q⟩
theorem vx_laloadN (hexec : p.tables.exec = Jvm.exec) (hb : c.code = cc) {i : Int32} (hdg : decode cc pc = .ok (.laload, 1)) (k : vx_NoteN p l e R s m args below meth c H locs cells slots Q (F0 m pc ls rest)) : W p l e R s m args below meth c H locs cells slots Q (F0 m pc ls (.int i :: .null :: rest)) := by
  intro T hT X
  obtain ⟨t, st, q⟩ := k T hT X
  exact ⟨t, X.laloadNull hexec (g := F0 m pc ls (.int i :: .null :: rest)) rfl (rest := rest) rfl (by rw [hb]; exact hdg) t st, q⟩
theorem vx_faloadN (hexec : p.tables.exec = Jvm.exec) (hb : c.code = cc) {i : Int32} (hdg : decode cc pc = .ok (.faload, 1)) (k : vx_NoteN p l e R s m args below meth c H locs cells slots Q (F0 m pc ls rest)) : W p l e R s m args below meth c H locs cells slots Q (F0 m pc ls (.int i :: .null :: rest)) := by
  intro T hT X
  obtain ⟨t, st, q⟩ := k T hT X
  exact ⟨t, X.faloadNull hexec (g := F0 m pc ls (.int i :: .null :: rest)) rfl (rest := rest) rfl (by rw [hb]; exact hdg) t st, q⟩
theorem vx_daloadN (hexec : p.tables.exec = Jvm.exec) (hb : c.code = cc) {i : Int32} (hdg : decode cc pc = .ok (.daload, 1)) (k : vx_NoteN p l e R s m args below meth c H locs cells slots Q (F0 m pc ls rest)) : W p l e R s m args below meth c H locs cells slots Q (F0 m pc ls (.int i :: .null :: rest)) := by
  intro T hT X
  obtain ⟨t, st, q⟩ := k T hT X
  exact ⟨t, X.daloadNull hexec (g := F0 m pc ls (.int i :: .null :: rest)) rfl (rest := rest) rfl (by rw [hb]; exact hdg) t st, q⟩
theorem vx_aaloadN (hexec : p.tables.exec = Jvm.exec) (hb : c.code = cc) {i : Int32} (hdg : decode cc pc = .ok (.aaload, 1)) (k : vx_NoteN p l e R s m args below meth c H locs cells slots Q (F0 m pc ls rest)) : W p l e R s m args below meth c H locs cells slots Q (F0 m pc ls (.int i :: .null :: rest)) := by
  intro T hT X
  obtain ⟨t, st, q⟩ := k T hT X
  exact ⟨t, X.aaloadNull hexec (g := F0 m pc ls (.int i :: .null :: rest)) rfl (rest := rest) rfl (by rw [hb]; exact hdg) t st, q⟩
theorem vx_baloadN (hexec : p.tables.exec = Jvm.exec) (hb : c.code = cc) {i : Int32} (hdg : decode cc pc = .ok (.baload, 1)) (k : vx_NoteN p l e R s m args below meth c H locs cells slots Q (F0 m pc ls rest)) : W p l e R s m args below meth c H locs cells slots Q (F0 m pc ls (.int i :: .null :: rest)) := by
  intro T hT X
  obtain ⟨t, st, q⟩ := k T hT X
  exact ⟨t, X.baloadNull hexec (g := F0 m pc ls (.int i :: .null :: rest)) rfl (rest := rest) rfl (by rw [hb]; exact hdg) t st, q⟩
theorem vx_caloadN (hexec : p.tables.exec = Jvm.exec) (hb : c.code = cc) {i : Int32} (hdg : decode cc pc = .ok (.caload, 1)) (k : vx_NoteN p l e R s m args below meth c H locs cells slots Q (F0 m pc ls rest)) : W p l e R s m args below meth c H locs cells slots Q (F0 m pc ls (.int i :: .null :: rest)) := by
  intro T hT X
  obtain ⟨t, st, q⟩ := k T hT X
  exact ⟨t, X.caloadNull hexec (g := F0 m pc ls (.int i :: .null :: rest)) rfl (rest := rest) rfl (by rw [hb]; exact hdg) t st, q⟩
theorem vx_saloadN (hexec : p.tables.exec = Jvm.exec) (hb : c.code = cc) {i : Int32} (hdg : decode cc pc = .ok (.saload, 1)) (k : vx_NoteN p l e R s m args below meth c H locs cells slots Q (F0 m pc ls rest)) : W p l e R s m args below meth c H locs cells slots Q (F0 m pc ls (.int i :: .null :: rest)) := by
  intro T hT X
  obtain ⟨t, st, q⟩ := k T hT X
  exact ⟨t, X.saloadNull hexec (g := F0 m pc ls (.int i :: .null :: rest)) rfl (rest := rest) rfl (by rw [hb]; exact hdg) t st, q⟩
theorem vx_iastoreN (hexec : p.tables.exec = Jvm.exec) (hb : c.code = cc) {x : Int32} {i : Int32} (hdg : decode cc pc = .ok (.iastore, 1)) (k : vx_NoteN p l e R s m args below meth c H locs cells slots Q (F0 m pc ls rest)) : W p l e R s m args below meth c H locs cells slots Q (F0 m pc ls (.int x :: .int i :: .null :: rest)) := by
  intro T hT X
  obtain ⟨t, st, q⟩ := k T hT X
  exact ⟨t, X.iastoreNull hexec (g := F0 m pc ls (.int x :: .int i :: .null :: rest)) rfl (rest := rest) rfl (by rw [hb]; exact hdg) t st, q⟩
theorem vx_lastoreN (hexec : p.tables.exec = Jvm.exec) (hb : c.code = cc) {x : Int64} {i : Int32} (hdg : decode cc pc = .ok (.lastore, 1)) (k : vx_NoteN p l e R s m args below meth c H locs cells slots Q (F0 m pc ls rest)) : W p l e R s m args below meth c H locs cells slots Q (F0 m pc ls (.long x :: .int i :: .null :: rest)) := by
  intro T hT X
  obtain ⟨t, st, q⟩ := k T hT X
  exact ⟨t, X.lastoreNull hexec (g := F0 m pc ls (.long x :: .int i :: .null :: rest)) rfl (rest := rest) rfl (by rw [hb]; exact hdg) t st, q⟩
theorem vx_fastoreN (hexec : p.tables.exec = Jvm.exec) (hb : c.code = cc) {x : UInt32} {i : Int32} (hdg : decode cc pc = .ok (.fastore, 1)) (k : vx_NoteN p l e R s m args below meth c H locs cells slots Q (F0 m pc ls rest)) : W p l e R s m args below meth c H locs cells slots Q (F0 m pc ls (.float x :: .int i :: .null :: rest)) := by
  intro T hT X
  obtain ⟨t, st, q⟩ := k T hT X
  exact ⟨t, X.fastoreNull hexec (g := F0 m pc ls (.float x :: .int i :: .null :: rest)) rfl (rest := rest) rfl (by rw [hb]; exact hdg) t st, q⟩
theorem vx_dastoreN (hexec : p.tables.exec = Jvm.exec) (hb : c.code = cc) {x : UInt64} {i : Int32} (hdg : decode cc pc = .ok (.dastore, 1)) (k : vx_NoteN p l e R s m args below meth c H locs cells slots Q (F0 m pc ls rest)) : W p l e R s m args below meth c H locs cells slots Q (F0 m pc ls (.double x :: .int i :: .null :: rest)) := by
  intro T hT X
  obtain ⟨t, st, q⟩ := k T hT X
  exact ⟨t, X.dastoreNull hexec (g := F0 m pc ls (.double x :: .int i :: .null :: rest)) rfl (rest := rest) rfl (by rw [hb]; exact hdg) t st, q⟩
theorem vx_bastoreN (hexec : p.tables.exec = Jvm.exec) (hb : c.code = cc) {x : Int32} {i : Int32} (hdg : decode cc pc = .ok (.bastore, 1)) (k : vx_NoteN p l e R s m args below meth c H locs cells slots Q (F0 m pc ls rest)) : W p l e R s m args below meth c H locs cells slots Q (F0 m pc ls (.int x :: .int i :: .null :: rest)) := by
  intro T hT X
  obtain ⟨t, st, q⟩ := k T hT X
  exact ⟨t, X.bastoreNull hexec (g := F0 m pc ls (.int x :: .int i :: .null :: rest)) rfl (rest := rest) rfl (by rw [hb]; exact hdg) t st, q⟩
theorem vx_castoreN (hexec : p.tables.exec = Jvm.exec) (hb : c.code = cc) {x : Int32} {i : Int32} (hdg : decode cc pc = .ok (.castore, 1)) (k : vx_NoteN p l e R s m args below meth c H locs cells slots Q (F0 m pc ls rest)) : W p l e R s m args below meth c H locs cells slots Q (F0 m pc ls (.int x :: .int i :: .null :: rest)) := by
  intro T hT X
  obtain ⟨t, st, q⟩ := k T hT X
  exact ⟨t, X.castoreNull hexec (g := F0 m pc ls (.int x :: .int i :: .null :: rest)) rfl (rest := rest) rfl (by rw [hb]; exact hdg) t st, q⟩
theorem vx_sastoreN (hexec : p.tables.exec = Jvm.exec) (hb : c.code = cc) {x : Int32} {i : Int32} (hdg : decode cc pc = .ok (.sastore, 1)) (k : vx_NoteN p l e R s m args below meth c H locs cells slots Q (F0 m pc ls rest)) : W p l e R s m args below meth c H locs cells slots Q (F0 m pc ls (.int x :: .int i :: .null :: rest)) := by
  intro T hT X
  obtain ⟨t, st, q⟩ := k T hT X
  exact ⟨t, X.sastoreNull hexec (g := F0 m pc ls (.int x :: .int i :: .null :: rest)) rfl (rest := rest) rfl (by rw [hb]; exact hdg) t st, q⟩
theorem vx_invokeN {own C : String} {index maxL : Nat} {y : MethodName} {bytes : ByteArray} {ret : Option FieldType} (hexec : p.tables.exec = Jvm.exec) (hb : c.code = cc) (hown : s.vm.findClass own = some m.cls) (hlink : (Cond.methodLink own index y).before args s = true) (hinst : (Cond.instanceMethod y).before args s = true) (hcode : (Cond.code y bytes maxL ret).before args s = true) (hsel : (Cond.selects C y y).before args s = true)
    (hx : y.cls ≠ "java/lang/invoke/MethodHandle" ∧ y.cls ≠ "java/lang/invoke/VarHandle") {As : List Value} (hlen : (parseMethodDescriptor y.desc).map (fun d => d.parameters.length) = some As.length) (hdg : decode cc pc = .ok (.invokevirtual index, 3))
    (k : vx_NoteN p l e R s m args below meth c H locs cells slots Q (F0 m pc ls rest)) {st0 : List Value} (hst : st0 = As.reverse ++ .null :: rest) : W p l e R s m args below meth c H locs cells slots Q (F0 m pc ls st0) := by
  intro T hT X
  obtain ⟨r0, r, hn, hrm, hstR, hsigR⟩ := va_Decl.of hinst hcode
  obtain ⟨c2, r2, m2, q1, q2, q3, q4, kP, hkP, hkPi⟩ := Cond.selects_spec hsel
  cases hn.symm.trans q3
  have hl9 : As.length = r.sig.parameters.length := by
    rw [hsigR] at hlen
    exact (Option.some.inj hlen).symm
  obtain ⟨vm', X1, st1⟩ := X.invokevirtualNull hexec hown hlink hn hrm hstR hkP hkPi hx (g := F0 m pc ls st0) rfl (argsL := As) (rest := rest) hl9 hst (by rw [hb]; exact hdg)
  obtain ⟨t, st, q⟩ := k (T.setVm vm') hT X1
  exact ⟨t, st1 t st, q⟩
theorem vx_newarrayZ {atype : ArrayType} (hexec : p.tables.exec = Jvm.exec) (hb : c.code = cc) {n : Int32} (h0 : n < 0) (hdg : decode cc pc = .ok (.newarray atype, 2)) (k : ∀ tx : String, tx = toString n → vx_Note p l e R s m args below meth c H locs cells slots Q (F0 m pc ls rest) "java/lang/NegativeArraySizeException" tx) : W p l e R s m args below meth c H locs cells slots Q (F0 m pc ls (.int n :: rest)) := by
  intro T hT X
  obtain ⟨t, st, q⟩ := k _ rfl T hT X
  exact ⟨t, X.newarrayNegative hexec (g := F0 m pc ls (.int n :: rest)) rfl h0 (rest := rest) rfl (by rw [hb]; exact hdg) t st, q⟩
end
end VXM
/-! ===== END ===== -/
/-! ===== BEGIN an exception as an object: made, kept, thrown later (no traces kept) ===== -/
section VXK
variable {p : Program} {l : Launch} {e : Env} {R : Room} {s : State} {m₀ : MethodId} {args : Array Value} {below : List Frame} {meth : Method} {c : Code} {W : State} {locs : List Loc} {cells slots : Nat}
set_option maxHeartbeats 1000000 in
theorem vx_ctorMadeS (X : Stand p l e R s m₀ args below meth c W locs cells slots) (hexec : p.tables.exec = Jvm.exec) (htr : e.platform.stackTraces = false) {own cls : String} {names : List String} {ic : Nat}
    (hown : s.vm.findClass own = some m₀.cls) (hcls : Bundle.fit cls = true) (hnames : ∀ n ∈ names, Bundle.fit n = true)
    (h : ∀ a ∈ Bundle.ownAtoms own ic cls names, a.before args s = true)
    (hlocs : ∀ x ∈ locs, ∀ cell, s.heap[x.base]? = some cell → cell.vm.isStatics = false)
    {a : Addr} {cX : ClassId} {kX : Class} (hfoundX : s.vm.findClass cls = some cX) (hkX : s.vm.classes[cX]? = some kX) (hcell : W.heap[a]? = some (freshCell cX kX)) (hnew : s.heap.size ≤ a)
    {msg : Value} (hmsg : msg.isRef = true)
    {g : JFrame} (hg : g.method = m₀) (hsize : g.locals.size = c.maxLocals) {rest : List Value} (hstack : g.stack = msg :: .ref a :: .ref a :: rest)
    (hd6 : decode c.code g.pc = .ok (.invokespecial ic, 3))
    (hRframes : names.length + 3 < R.frames) (hRlocals : 2 * g.monitorRoom + ((Value.ref a :: rest).map fun v => v.category).sum + (13 * (names.length + 1) + 42) ≤ R.locals) :
    ∃ (V : State) (ce : Cell) (L : List Loc), Stand p l e R s m₀ args below meth c (V.setCell a ce) (locs ++ L) cells slots ∧ (∀ y ∈ L, y.base = a) ∧ a < V.heap.size ∧ ce.cls = cX ∧ ce.vm = .none ∧
      ∀ target, Steps p.tables e below ((V.setCell a ce).setTop { g with stack := .ref a :: rest, pc := g.pc + 3 }) target → Steps p.tables e below (W.setTop g) target := by
  have howns : e.platform.frameOwnsMonitors = true := by rw [X.admits.platform]
  have hfin : e.platform.finalization = false := by rw [X.admits.platform]
  have hpl : e.platform.magicAccessors = ({} : Platform).magicAccessors := by rw [X.admits.platform]
  have a' : ∀ x, x ∈ Bundle.ownAtoms own ic cls names → x.holds args s none s [] = true := fun x hx => h x hx
  obtain ⟨T, Z0, L, -, Y⟩ := ThrowableC.of_atoms (args := args) howns hfin hpl (fun x hx => h x (by simp [Bundle.ownAtoms, hx]))
  obtain ⟨Z, M, LZ, LM, hnZ⟩ := Init0T.ofS_atoms (args := args) hpl L Y (fun x hx => h x (by simp [Bundle.ownAtoms, hx]))
  obtain ⟨P1, Ps, hlen, L1, hL, hP1m, hlink1, hlink⟩ := Bundle.chainS (args := args) hpl hnZ names cls hcls hnames (fun x hx => h x (by simp [Bundle.ownAtoms, hx]))
  have hfound : s.vm.findClass cls = some P1.m.cls := findClass_of_methodNamed hP1m
  cases Option.some.inj (hfoundX.symm.trans hfound)
  obtain ⟨c1, kX', hc1, hk, hord, -, -, hn6⟩ := Cond.instantiable_spec (a' (.instantiable cls 6) (by simp [Bundle.ownAtoms]))
  cases Option.some.inj (hc1.symm.trans hfound)
  cases Option.some.inj (hkX.symm.trans hk)
  have hsel0 : selectMethod e.platform s.vm P1.m.cls T.fill0 = .method T.fill0 := by
    obtain ⟨c2, r2, m2, q1, q2, q3, q4, -⟩ := Cond.selects_spec (a' (.selects cls Bundle.tFill0 Bundle.tFill0) (by simp [Bundle.ownAtoms]))
    cases Option.some.inj (q1.symm.trans hfound)
    cases Option.some.inj (q2.symm.trans (State.methodFound?_of_named Y.fill0 (by decide)))
    cases Option.some.inj (q3.symm.trans Y.fill0)
    rw [Launch.admits_selectMethod X.admits]; exact q4
  have hselF : selectMethod e.platform s.vm P1.m.cls T.fill = .method T.fill := by
    obtain ⟨c2, r2, m2, q1, q2, q3, q4, -⟩ := Cond.selects_spec (a' (.selects cls Bundle.tFill Bundle.tFill) (by simp [Bundle.ownAtoms]))
    cases Option.some.inj (q1.symm.trans hfound)
    cases Option.some.inj (q2.symm.trans (State.methodFound?_of_named Y.fill (by decide)))
    cases Option.some.inj (q3.symm.trans Y.fill)
    rw [Launch.admits_selectMethod X.admits]; exact q4
  obtain ⟨cellS0, hcS0, hiss⟩ := Y.statics
  obtain ⟨u0, hu0⟩ := Cond.staticRefV Y.unassigned L.unassignedStatic L.statics hcS0 hiss (a' (.isRef (.static Bundle.tN "UNASSIGNED_STACK" Bundle.steD)) (by simp [Bundle.ownAtoms]))
  obtain ⟨sen, hsen⟩ := Cond.staticRefV Y.sentinel L.sentinelStatic L.statics hcS0 hiss (a' (.isRef (.static Bundle.tN "SUPPRESSED_SENTINEL" Bundle.listD)) (by simp [Bundle.ownAtoms]))
  obtain ⟨ci198, i198, fB, hk198, hg198, ha198, hsB, -, hnB, htB, hffB⟩ := Cond.ownField (t := .object "java/lang/Object") Y.found L.cls (by decide +kernel) (a' (.fieldLink Bundle.tN 198 Bundle.tN "backtrace" "Ljava/lang/Object;") (by simp [Bundle.ownAtoms])) (a' (.lays Bundle.tN Bundle.tN "backtrace" "Ljava/lang/Object;") (by simp [Bundle.ownAtoms])) e.platform hpl
  obtain ⟨cellS, hcS', heS, -, hkeep⟩ := X.same.2.2.2.2.2 T.aS cellS0 hcS0
  have hcellS : W.heap[T.aS]? = some cellS := hcS'
  have hout' : ∀ i, (⟨T.aS, i⟩ : Loc) ∉ locs := fun i hmem => by
    have := hlocs _ hmem cellS0 hcS0
    rw [hiss] at this; cases this
  have hknownS : cellS.vm ≠ .unknown := by
    rw [heS]; intro hu
    rw [show cellS0.vm = .unknown from hu] at hiss
    cases hiss
  have hneS : T.aS ≠ a := Nat.ne_of_lt (Nat.lt_of_lt_of_le (Array.getElem?_eq_some_iff.mp hcS0).1 hnew)
  obtain ⟨iM, hffM⟩ := Y.msg
  obtain ⟨tyC, dC, hdC, hdnC⟩ := Cond.laysAt hfound hk Y.cause (a' (.lays cls Bundle.tN "cause" "Ljava/lang/Throwable;") (by simp [Bundle.ownAtoms]))
  obtain ⟨tyS, dS, hdS, hdnS⟩ := Cond.laysAt hfound hk Y.stack (a' (.lays cls Bundle.tN "stackTrace" Bundle.steD) (by simp [Bundle.ownAtoms]))
  obtain ⟨tyP, dP, hdP, hdnP⟩ := Cond.laysAt hfound hk Y.supp (a' (.lays cls Bundle.tN "suppressedExceptions" Bundle.listD) (by simp [Bundle.ownAtoms]))
  obtain ⟨tyM, dM, hdM, hdnM⟩ := Cond.laysAt hfound hk hffM (a' (.lays cls Bundle.tN "detailMessage" "Ljava/lang/String;") (by simp [Bundle.ownAtoms]))
  obtain ⟨tyB, dB, hdB, hdnB⟩ := Cond.laysAt hfound hk hffB (a' (.lays cls Bundle.tN "backtrace" "Ljava/lang/Object;") (by simp [Bundle.ownAtoms]))
  have bC := Cond.laysApart hdB hdC hdnB hdnC (by rw [hnB, Y.causeName]; decide)
  have bS := Cond.laysApart hdB hdS hdnB hdnS (by rw [hnB, Y.stackName]; decide)
  have bP := Cond.laysApart hdB hdP hdnB hdnP (by rw [hnB, Y.suppName]; decide)
  have hskip : SkipFacts T e.platform s (fun u => u) u0 ((preparedCellV T.toThrowableT (freshCell P1.m.cls kX) a u0 sen).withEntry W.cur) :=
    ⟨{ ci198 := ci198, i198 := i198, fBack := fB }, ⟨hk198, hg198, ha198, hsB⟩, by
      have := fresh_default (c := P1.m.cls) tyB
      rw [htB] at this
      simpa [preparedCellV, Cell.setSlot, Cell.withEntry, Array.getElem?_setIfInBounds, bC, bS, bP, bC.symm, bS.symm, bP.symm, defaultValue] using this, fun _ _ => rfl⟩
  obtain ⟨tm, methC, cdC, kC, vm₁, hnC, -, -, -, -, -, -, -, hW₁, st1⟩ := Steps.initColdS (tb := p.tables) (e := e) (below := below) (s := s) (U := W) X.here hexec X.warmed hpl hown (t := Bundle.initS cls) rfl rfl (Bundle.fit_spec hcls).2
    (a' (.methodLink own ic (Bundle.initS cls)) (by simp [Bundle.ownAtoms])) (h (.instanceMethod (Bundle.initS cls)) (by cases names <;> simp [Bundle.ownAtoms, Bundle.chainSAtoms, Bundle.passSAtoms])) (bytes := Bundle.six) (maxL := 2) (h (.code (Bundle.initS cls) Bundle.six 2 none) (by cases names <;> simp [Bundle.ownAtoms, Bundle.chainSAtoms, Bundle.passSAtoms]))
    (f := g) hg (a := a) (msg := msg) (rest := .ref a :: rest) hstack hd6
  cases Option.some.inj (hnC.symm.trans hP1m)
  have X₁ := X.noted hW₁
  obtain ⟨vm₂, X₂, st2⟩ := X₁.ctorMessageOffV hexec (g := { g with stack := .ref a :: rest }) hg hsize T L Z LZ M LM (P1 :: Ps)
    (fun P hP => by rcases List.mem_cons.mp hP with rfl | hP; exact L1; exact hL P hP) ⟨hlink1, hlink⟩ (u0 := u0) (sen := sen) (self := a) hmsg (cell := freshCell P1.m.cls kX) (cellS := cellS)
    hcell (fun _ => by simp) (by simp) rfl rfl hsel0 hselF hcellS hneS hknownS (by rw [hkeep _ (hout' _)]; exact hu0) (by rw [hkeep _ (hout' _)]; exact hsen)
    (Takes.of_laid hk hord tyC (by rw [Y.causeType]; rfl)) (Takes.of_laid hk hord tyS (by rw [Y.stackType]; exact fits_refV_array _ u0)) (Takes.of_laid hk hord tyP (by rw [Y.suppType]; exact fits_refV_object _ sen))
    (Takes.of_laid hk hord tyM (by rw [Y.msgType]; exact fits_refV_object _ ⟨msg, hmsg⟩)) Y.objLocals hskip htr [] hd6
    (by simp only [List.length_cons, hlen]; omega) (by simp only [List.length_cons, hlen]; exact hRlocals)
  have hlt : a < ((W.setVm vm₁).setVm vm₂).heap.size := (Array.getElem?_eq_some_iff.mp hcell).1
  refine ⟨(W.setVm vm₁).setVm vm₂, _, _, X₂, fun y hy => ?_, hlt, rfl, rfl, fun target hwalk => st1 _ (fun acts => ?_)⟩
  · simp only [List.mem_cons, List.not_mem_nil, or_false] at hy
    rcases hy with rfl | rfl | rfl | rfl | rfl <;> rfl
  · rw [doInvoke_state]
    exact st2 _ hwalk
set_option maxHeartbeats 1000000 in
theorem vx_ctorMade0 (X : Stand p l e R s m₀ args below meth c W locs cells slots) (hexec : p.tables.exec = Jvm.exec) (htr : e.platform.stackTraces = false) {own cls : String} {names : List String} {ic : Nat}
    (hown : s.vm.findClass own = some m₀.cls) (hcls : Bundle.fit cls = true) (hnames : ∀ n ∈ names, Bundle.fit n = true)
    (h : ∀ a ∈ Bundle.ownAtoms0 own ic cls names, a.before args s = true)
    (hlocs : ∀ x ∈ locs, ∀ cell, s.heap[x.base]? = some cell → cell.vm.isStatics = false)
    {a : Addr} {cX : ClassId} {kX : Class} (hfoundX : s.vm.findClass cls = some cX) (hkX : s.vm.classes[cX]? = some kX) (hcell : W.heap[a]? = some (freshCell cX kX)) (hnew : s.heap.size ≤ a)
    {g : JFrame} (hg : g.method = m₀) (hsize : g.locals.size = c.maxLocals) {rest : List Value} (hstack : g.stack = .ref a :: .ref a :: rest)
    (hd6 : decode c.code g.pc = .ok (.invokespecial ic, 3))
    (hRframes : names.length + 3 < R.frames) (hRlocals : 2 * g.monitorRoom + ((Value.ref a :: rest).map fun v => v.category).sum + (13 * (names.length + 1) + 41) ≤ R.locals) :
    ∃ (V : State) (ce : Cell) (L : List Loc), Stand p l e R s m₀ args below meth c (V.setCell a ce) (locs ++ L) cells slots ∧ (∀ y ∈ L, y.base = a) ∧ a < V.heap.size ∧ ce.cls = cX ∧ ce.vm = .none ∧
      ∀ target, Steps p.tables e below ((V.setCell a ce).setTop { g with stack := .ref a :: rest, pc := g.pc + 3 }) target → Steps p.tables e below (W.setTop g) target := by
  have howns : e.platform.frameOwnsMonitors = true := by rw [X.admits.platform]
  have hfin : e.platform.finalization = false := by rw [X.admits.platform]
  have hpl : e.platform.magicAccessors = ({} : Platform).magicAccessors := by rw [X.admits.platform]
  have a' : ∀ x, x ∈ Bundle.ownAtoms0 own ic cls names → x.holds args s none s [] = true := fun x hx => h x hx
  obtain ⟨T, Z, L, LZ, Y⟩ := ThrowableC.of_atoms (args := args) howns hfin hpl (fun x hx => h x (by simp [Bundle.ownAtoms0, hx]))
  obtain ⟨P1, Ps, hlen, L1, hL, hP1m, hlink1, hlink⟩ := Bundle.chain0 (args := args) hpl Y.init0 names cls hcls hnames (fun x hx => h x (by simp [Bundle.ownAtoms0, hx]))
  have hfound : s.vm.findClass cls = some P1.m.cls := findClass_of_methodNamed hP1m
  cases Option.some.inj (hfoundX.symm.trans hfound)
  obtain ⟨c1, kX', hc1, hk, hord, -, -, hn6⟩ := Cond.instantiable_spec (a' (.instantiable cls 6) (by simp [Bundle.ownAtoms0]))
  cases Option.some.inj (hc1.symm.trans hfound)
  cases Option.some.inj (hkX.symm.trans hk)
  have hsel0 : selectMethod e.platform s.vm P1.m.cls T.fill0 = .method T.fill0 := by
    obtain ⟨c2, r2, m2, q1, q2, q3, q4, -⟩ := Cond.selects_spec (a' (.selects cls Bundle.tFill0 Bundle.tFill0) (by simp [Bundle.ownAtoms0]))
    cases Option.some.inj (q1.symm.trans hfound)
    cases Option.some.inj (q2.symm.trans (State.methodFound?_of_named Y.fill0 (by decide)))
    cases Option.some.inj (q3.symm.trans Y.fill0)
    rw [Launch.admits_selectMethod X.admits]; exact q4
  have hselF : selectMethod e.platform s.vm P1.m.cls T.fill = .method T.fill := by
    obtain ⟨c2, r2, m2, q1, q2, q3, q4, -⟩ := Cond.selects_spec (a' (.selects cls Bundle.tFill Bundle.tFill) (by simp [Bundle.ownAtoms0]))
    cases Option.some.inj (q1.symm.trans hfound)
    cases Option.some.inj (q2.symm.trans (State.methodFound?_of_named Y.fill (by decide)))
    cases Option.some.inj (q3.symm.trans Y.fill)
    rw [Launch.admits_selectMethod X.admits]; exact q4
  obtain ⟨cellS0, hcS0, hiss⟩ := Y.statics
  obtain ⟨u0, hu0⟩ := Cond.staticRefV Y.unassigned L.unassignedStatic L.statics hcS0 hiss (a' (.isRef (.static Bundle.tN "UNASSIGNED_STACK" Bundle.steD)) (by simp [Bundle.ownAtoms0]))
  obtain ⟨sen, hsen⟩ := Cond.staticRefV Y.sentinel L.sentinelStatic L.statics hcS0 hiss (a' (.isRef (.static Bundle.tN "SUPPRESSED_SENTINEL" Bundle.listD)) (by simp [Bundle.ownAtoms0]))
  obtain ⟨ci198, i198, fB, hk198, hg198, ha198, hsB, -, hnB, htB, hffB⟩ := Cond.ownField (t := .object "java/lang/Object") Y.found L.cls (by decide +kernel) (a' (.fieldLink Bundle.tN 198 Bundle.tN "backtrace" "Ljava/lang/Object;") (by simp [Bundle.ownAtoms0])) (a' (.lays Bundle.tN Bundle.tN "backtrace" "Ljava/lang/Object;") (by simp [Bundle.ownAtoms0])) e.platform hpl
  obtain ⟨cellS, hcS', heS, -, hkeep⟩ := X.same.2.2.2.2.2 T.aS cellS0 hcS0
  have hcellS : W.heap[T.aS]? = some cellS := hcS'
  have hout' : ∀ i, (⟨T.aS, i⟩ : Loc) ∉ locs := fun i hmem => by
    have := hlocs _ hmem cellS0 hcS0
    rw [hiss] at this; cases this
  have hknownS : cellS.vm ≠ .unknown := by
    rw [heS]; intro hu
    rw [show cellS0.vm = .unknown from hu] at hiss
    cases hiss
  have hneS : T.aS ≠ a := Nat.ne_of_lt (Nat.lt_of_lt_of_le (Array.getElem?_eq_some_iff.mp hcS0).1 hnew)
  obtain ⟨iM, hffM⟩ := Y.msg
  obtain ⟨tyC, dC, hdC, hdnC⟩ := Cond.laysAt hfound hk Y.cause (a' (.lays cls Bundle.tN "cause" "Ljava/lang/Throwable;") (by simp [Bundle.ownAtoms0]))
  obtain ⟨tyS, dS, hdS, hdnS⟩ := Cond.laysAt hfound hk Y.stack (a' (.lays cls Bundle.tN "stackTrace" Bundle.steD) (by simp [Bundle.ownAtoms0]))
  obtain ⟨tyP, dP, hdP, hdnP⟩ := Cond.laysAt hfound hk Y.supp (a' (.lays cls Bundle.tN "suppressedExceptions" Bundle.listD) (by simp [Bundle.ownAtoms0]))
  obtain ⟨tyM, dM, hdM, hdnM⟩ := Cond.laysAt hfound hk hffM (a' (.lays cls Bundle.tN "detailMessage" "Ljava/lang/String;") (by simp [Bundle.ownAtoms0]))
  obtain ⟨tyB, dB, hdB, hdnB⟩ := Cond.laysAt hfound hk hffB (a' (.lays cls Bundle.tN "backtrace" "Ljava/lang/Object;") (by simp [Bundle.ownAtoms0]))
  have bC := Cond.laysApart hdB hdC hdnB hdnC (by rw [hnB, Y.causeName]; decide)
  have bS := Cond.laysApart hdB hdS hdnB hdnS (by rw [hnB, Y.stackName]; decide)
  have bP := Cond.laysApart hdB hdP hdnB hdnP (by rw [hnB, Y.suppName]; decide)
  have hskip : SkipFacts T e.platform s (fun u => u) u0 ((preparedCellV T.toThrowableT (freshCell P1.m.cls kX) a u0 sen).withEntry W.cur) :=
    ⟨{ ci198 := ci198, i198 := i198, fBack := fB }, ⟨hk198, hg198, ha198, hsB⟩, by
      have := fresh_default (c := P1.m.cls) tyB
      rw [htB] at this
      simpa [preparedCellV, Cell.setSlot, Cell.withEntry, Array.getElem?_setIfInBounds, bC, bS, bP, bC.symm, bS.symm, bP.symm, defaultValue] using this, fun _ _ => rfl⟩
  obtain ⟨tm, methC, cdC, kC, vm₁, hnC, -, -, -, -, -, -, -, hW₁, st1⟩ := Steps.initCold (tb := p.tables) (e := e) (below := below) (s := s) (U := W) X.here hexec X.warmed hpl hown (t := Bundle.init0 cls) rfl rfl (Bundle.fit_spec hcls).2
    (a' (.methodLink own ic (Bundle.init0 cls)) (by simp [Bundle.ownAtoms0])) (h (.instanceMethod (Bundle.init0 cls)) (by cases names <;> simp [Bundle.ownAtoms0, Bundle.chain0Atoms, Bundle.passAtoms])) (bytes := Bundle.five) (maxL := 1) (h (.code (Bundle.init0 cls) Bundle.five 1 none) (by cases names <;> simp [Bundle.ownAtoms0, Bundle.chain0Atoms, Bundle.passAtoms]))
    (f := g) hg (a := a) (rest := .ref a :: rest) hstack hd6
  cases Option.some.inj (hnC.symm.trans hP1m)
  have X₁ := X.noted hW₁
  obtain ⟨vm₂, X₂, st2⟩ := X₁.ctorPlainOffV hexec (g := { g with stack := .ref a :: rest }) hg hsize T L Z LZ (P1 :: Ps)
    (fun P hP => by rcases List.mem_cons.mp hP with rfl | hP; exact L1; exact hL P hP) ⟨hlink1, hlink⟩ (u0 := u0) (sen := sen) (self := a) (cell := freshCell P1.m.cls kX) (cellS := cellS)
    hcell (fun _ => by simp) (by simp) rfl rfl hsel0 hselF hcellS hneS hknownS (by rw [hkeep _ (hout' _)]; exact hu0) (by rw [hkeep _ (hout' _)]; exact hsen)
    (Takes.of_laid hk hord tyC (by rw [Y.causeType]; rfl)) (Takes.of_laid hk hord tyS (by rw [Y.stackType]; exact fits_refV_array _ u0)) (Takes.of_laid hk hord tyP (by rw [Y.suppType]; exact fits_refV_object _ sen)) Y.objLocals hskip htr [] hd6
    (by simp only [List.length_cons, hlen]; omega) (by simp only [List.length_cons, hlen]; exact hRlocals)
  have hlt : a < ((W.setVm vm₁).setVm vm₂).heap.size := (Array.getElem?_eq_some_iff.mp hcell).1
  refine ⟨(W.setVm vm₁).setVm vm₂, _, _, X₂, fun y hy => ?_, hlt, rfl, rfl, fun target hwalk => st1 _ (fun acts => ?_)⟩
  · simp only [List.mem_cons, List.not_mem_nil, or_false] at hy
    rcases hy with rfl | rfl | rfl | rfl <;> rfl
  · rw [doInvoke_state]
    exact st2 _ hwalk
end VXK
section VXK2
variable {p : Program} {l : Launch} {e : Env} {R : Room} {s : State} {m : MethodId} {args : Array Value} {below : List Frame} {meth : Method} {c : Code} {H : Heap} {locs : List Loc} {cells slots : Nat} {Q : State → Prop}
variable {ls : Array Slot} {rest : List Value} {D : va_G} {cl : List vw_C} {tys : List (ClassId × FieldType)} {ws : va_W}
/-- 'new E("text")' that isn't thrown at once: the object goes on the stack -/
theorem vx_makeS {cc : ByteArray} {pc : Nat} (hexec : p.tables.exec = Jvm.exec) (hb : c.code = cc) (hl : l.stackTraces = false) {own cls text : String} {names : List String} {ik is ic sa ci : Nat} {A : Nat → Prop} {T0 : u_T}
    (hown : s.vm.findClass own = some m.cls) (hcls : Bundle.fit cls = true) (hnames : ∀ n ∈ names, Bundle.fit n = true)
    (hk : (Cond.classLink own ik cls).before args s = true) (hini : (Cond.initialized cls).before args s = true) (hstr : vk_R own is text sa s) (hat : ∀ w ∈ vx_atS own ic cls names, w.before args s = true)
    (hgood : ∀ w ∈ Cond.classLink own ik cls :: Cond.initialized cls :: vx_atS own ic cls names, vx_ot w = true)
    (hU : vx_Zq Bundle.tN "UNASSIGNED_STACK" Bundle.steD A s s.heap) (hN : vx_Zq Bundle.tN "SUPPRESSED_SENTINEL" Bundle.listD A s s.heap) (hS : va_S A s.heap H locs) (hsize : ls.size = c.maxLocals)
    (d0 : decode cc pc = .ok (.new ik, 3)) (d3 : decode cc (pc + 3) = .ok (.dup, 1)) (d4 : decode cc (pc + 4) = .ok (.ldc is, 2)) (d6 : decode cc (pc + 6) = .ok (.invokespecial ic, 3))
    (hK : va_K D cl tys s) (hP : va_P D cl ws H) (hD : va_D A ws) (hA : ∀ q, s.heap.size ≤ q → A q) (hc : cl[ci]? = some (cls, T0, 0))
    (hRframes : names.length + 3 < R.frames) (hRlocals : (rest.map fun v => v.category).sum + (13 * (names.length + 1) + 43) ≤ R.locals) (hRcells : cells + 1 ≤ R.cells) (hRslots : slots + 6 ≤ R.slots)
    (kk : ∀ (q : Nat) (H1 : Heap), va_P D cl (ws ++ [(q, .inr (ci, []))]) H1 → va_D A (ws ++ [(q, .inr (ci, []))]) → va_S A s.heap H1 locs → W p l e R s m args below meth c H1 locs (cells + 1) (slots + 6) Q (F0 m (pc + 9) ls (.ref q :: rest))) :
    W p l e R s m args below meth c H locs cells slots Q (F0 m pc ls rest) := by
  intro T hT X
  subst hT
  have htr : e.platform.stackTraces = false := (show e.platform.stackTraces = l.stackTraces by rw [X.admits.platform]).trans hl
  have Y := vx_rebase X (R' := { frames := R.frames, locals := R.locals, cells := 1, slots := 6 }) (Nat.le_refl _) (Nat.le_refl _) hRcells hRslots
  obtain ⟨s', hA'⟩ : ∃ z, z = (T.setVm s.vm).setFrames (.invoking m args :: below) := ⟨_, rfl⟩
  rw [← hA'] at Y
  have hvm : s'.vm = s.vm := by rw [hA']; rfl
  have hhp : s'.heap = T.heap := by rw [hA']; rfl
  have hW0 : s.WarmedH s'.vm := by rw [hvm]; exact State.WarmedH.refl s
  have hat' : ∀ w ∈ vx_atS own ic cls names, w.before args s' = true := fun w hw => vx_ot_at hW0 hvm.symm (hgood w (List.mem_cons_of_mem _ (List.mem_cons_of_mem _ hw))) (hat w hw)
  have hk' : (Cond.classLink own ik cls).before args s' = true := vx_ot_at hW0 hvm.symm (hgood _ List.mem_cons_self) hk
  have hini' : (Cond.initialized cls).before args s' = true := vx_ot_at hW0 hvm.symm (hgood _ (List.mem_cons_of_mem _ List.mem_cons_self)) hini
  have hU' : vx_Zq Bundle.tN "UNASSIGNED_STACK" Bundle.steD A s' s'.heap := by rw [hhp]; exact vx_Zq.moved hW0.alike (hU.kept hS.2.1)
  have hN' : vx_Zq Bundle.tN "SUPPRESSED_SENTINEL" Bundle.listD A s' s'.heap := by rw [hhp]; exact vx_Zq.moved hW0.alike (hN.kept hS.2.1)
  have h : ∀ w ∈ Bundle.ownAtoms own ic cls names, w.before args s' = true := vx_own hat' (vx_isRefq hU'.1) (vx_isRefq hN'.1) hU'.2.word hN'.2.word
  have hown' : s'.vm.findClass own = some m.cls := by rw [hvm]; exact hown
  have hins : (Cond.instantiable cls 6).before args s' = true := h _ (by simp [Bundle.ownAtoms])
  obtain ⟨vm₁, cX, kX, hfX, hkX, -, -, X₁, st1⟩ := Y.newCold hexec (own := own) (C := cls) (index := ik) (n := 6) hown' hk' hins hini'
    (g := F0 m pc ls rest) rfl (by rw [hb]; exact d0) (Nat.le_refl _) (Nat.le_refl _)
  generalize hT1 : (T.setVm vm₁).pushCell { cls := cX, slots := kX.instanceTypes.map defaultValue, vm := .none } = T1 at X₁ st1
  have hcat : (Value.ref T.heap.size).category = 1 := rfl
  have hcellA : T1.heap[T.heap.size]? = some (freshCell cX kX) := by rw [← hT1]; exact State.heap_pushCell_size _ _
  have d3' : decode c.code (pc + 3) = .ok (.dup, 1) := by rw [hb]; exact d3
  have d4' : decode c.code (pc + 4) = .ok (.ldc is, 2) := by rw [hb]; exact d4
  have hstr' : vk_R own is text sa s' := vk_R.warm hW0 hstr
  obtain ⟨V, ce, L, Z, hL, hlt, hcl9, hvm9, st⟩ := vx_ctorMadeS X₁ hexec htr (own := own) (cls := cls) (names := names) (ic := ic) hown' hcls hnames h (fun x hx => nomatch hx) hfX hkX hcellA (by rw [hhp]; exact Nat.le_refl _) (msg := .ref sa) rfl
    (g := { method := m, pc := pc + 6, locals := ls, stack := .ref sa :: .ref T.heap.size :: .ref T.heap.size :: rest, locked := none }) rfl hsize (rest := rest) rfl
    (by rw [hb]; exact d6) hRframes (by simp only [List.map_cons, List.sum_cons, hcat]; omega)
  have Z0 := Stand.forget (locs := []) Z (fun y hy => by rw [hL y hy, hhp]; exact Nat.le_refl _)
  obtain ⟨f1, f2⟩ := vx_frame Z0.same
  rw [hhp] at f1 f2
  have hcid : ce.cls = D.1 ci := by
    rw [hcl9]
    have h1 := (hK.1 ci _ hc).2.1
    rw [hvm] at hfX
    exact Option.some.inj (hfX.symm.trans h1)
  have hh : (V.setCell T.heap.size ce).heap[T.heap.size]? = some ce := heapAt_setCell_self (s := V) ce hlt
  subst hA'
  have X5 := vx_back9 X Y Z0
  have X6 : Stand p l e R s m args below meth c (V.setCell T.heap.size ce) locs (cells + 1) (slots + 6) := { X5 with same := X5.same.mono (by omega) (by omega) }
  have hk9 : ∀ (k : Nat) (x : Nat × va_E), ws[k]? = some x → (V.setCell T.heap.size ce).heap[x.1]? = T.heap[x.1]? := fun k x hx => f2 x.1 ((hP k x hx).lt) (fun z hz => nomatch hz)
  obtain ⟨t, a1, b1⟩ := kk T.heap.size (V.setCell T.heap.size ce).heap ((hP.kept hk9).app (fun k x hx => by
      have hz : k < 1 := (List.getElem?_eq_some_iff.mp hx).1
      rw [show k = 0 by omega] at hx
      cases hx
      exact ⟨_, hc, ce, hh, hcid, hvm9, fun k hk => absurd hk (Nat.not_lt_zero k)⟩)) (hD.push hP rfl (hA _ hS.1)) ⟨Nat.le_trans hS.1 f1, fun q h1 h2 => (f2 q (Nat.lt_of_lt_of_le h1 hS.1) (fun z hz => nomatch hz)).trans (hS.2.1 q h1 h2), hS.2.2⟩ _ rfl X6
  refine ⟨t, st1 _ ?_, b1⟩
  show Steps p.tables e below (T1.setTop { method := m, pc := pc + 3, locals := ls, stack := .ref T.heap.size :: rest, locked := none }) _
  jvm_step X₁.here [X₁.here.top, hexec, d3', Value.category]
  exact X₁.ldcString hexec (own := own) (text := text) (index := is) (a := sa) hown' hstr'.1 hstr'.2
    (g := { method := m, pc := pc + 4, locals := ls, stack := .ref T.heap.size :: .ref T.heap.size :: rest, locked := none }) rfl d4' _ (st _ a1)
/-- 'new E()' that isn't thrown at once: the object goes on the stack -/
theorem vx_make0 {cc : ByteArray} {pc : Nat} (hexec : p.tables.exec = Jvm.exec) (hb : c.code = cc) (hl : l.stackTraces = false) {own cls : String} {names : List String} {ik ic ci : Nat} {A : Nat → Prop} {T0 : u_T}
    (hown : s.vm.findClass own = some m.cls) (hcls : Bundle.fit cls = true) (hnames : ∀ n ∈ names, Bundle.fit n = true)
    (hk : (Cond.classLink own ik cls).before args s = true) (hini : (Cond.initialized cls).before args s = true) (hat : ∀ w ∈ vx_at0 own ic cls names, w.before args s = true)
    (hgood : ∀ w ∈ Cond.classLink own ik cls :: Cond.initialized cls :: vx_at0 own ic cls names, vx_ot w = true)
    (hU : vx_Zq Bundle.tN "UNASSIGNED_STACK" Bundle.steD A s s.heap) (hN : vx_Zq Bundle.tN "SUPPRESSED_SENTINEL" Bundle.listD A s s.heap) (hS : va_S A s.heap H locs) (hsize : ls.size = c.maxLocals)
    (d0 : decode cc pc = .ok (.new ik, 3)) (d3 : decode cc (pc + 3) = .ok (.dup, 1)) (d4 : decode cc (pc + 4) = .ok (.invokespecial ic, 3))
    (hK : va_K D cl tys s) (hP : va_P D cl ws H) (hD : va_D A ws) (hA : ∀ q, s.heap.size ≤ q → A q) (hc : cl[ci]? = some (cls, T0, 0))
    (hRframes : names.length + 3 < R.frames) (hRlocals : (rest.map fun v => v.category).sum + (13 * (names.length + 1) + 42) ≤ R.locals) (hRcells : cells + 1 ≤ R.cells) (hRslots : slots + 6 ≤ R.slots)
    (kk : ∀ (q : Nat) (H1 : Heap), va_P D cl (ws ++ [(q, .inr (ci, []))]) H1 → va_D A (ws ++ [(q, .inr (ci, []))]) → va_S A s.heap H1 locs → W p l e R s m args below meth c H1 locs (cells + 1) (slots + 6) Q (F0 m (pc + 7) ls (.ref q :: rest))) :
    W p l e R s m args below meth c H locs cells slots Q (F0 m pc ls rest) := by
  intro T hT X
  subst hT
  have htr : e.platform.stackTraces = false := (show e.platform.stackTraces = l.stackTraces by rw [X.admits.platform]).trans hl
  have Y := vx_rebase X (R' := { frames := R.frames, locals := R.locals, cells := 1, slots := 6 }) (Nat.le_refl _) (Nat.le_refl _) hRcells hRslots
  obtain ⟨s', hA'⟩ : ∃ z, z = (T.setVm s.vm).setFrames (.invoking m args :: below) := ⟨_, rfl⟩
  rw [← hA'] at Y
  have hvm : s'.vm = s.vm := by rw [hA']; rfl
  have hhp : s'.heap = T.heap := by rw [hA']; rfl
  have hW0 : s.WarmedH s'.vm := by rw [hvm]; exact State.WarmedH.refl s
  have hat' : ∀ w ∈ vx_at0 own ic cls names, w.before args s' = true := fun w hw => vx_ot_at hW0 hvm.symm (hgood w (List.mem_cons_of_mem _ (List.mem_cons_of_mem _ hw))) (hat w hw)
  have hk' : (Cond.classLink own ik cls).before args s' = true := vx_ot_at hW0 hvm.symm (hgood _ List.mem_cons_self) hk
  have hini' : (Cond.initialized cls).before args s' = true := vx_ot_at hW0 hvm.symm (hgood _ (List.mem_cons_of_mem _ List.mem_cons_self)) hini
  have hU' : vx_Zq Bundle.tN "UNASSIGNED_STACK" Bundle.steD A s' s'.heap := by rw [hhp]; exact vx_Zq.moved hW0.alike (hU.kept hS.2.1)
  have hN' : vx_Zq Bundle.tN "SUPPRESSED_SENTINEL" Bundle.listD A s' s'.heap := by rw [hhp]; exact vx_Zq.moved hW0.alike (hN.kept hS.2.1)
  have h : ∀ w ∈ Bundle.ownAtoms0 own ic cls names, w.before args s' = true := vx_own hat' (vx_isRefq hU'.1) (vx_isRefq hN'.1) hU'.2.word hN'.2.word
  have hown' : s'.vm.findClass own = some m.cls := by rw [hvm]; exact hown
  have hins : (Cond.instantiable cls 6).before args s' = true := h _ (by simp [Bundle.ownAtoms0])
  obtain ⟨vm₁, cX, kX, hfX, hkX, -, -, X₁, st1⟩ := Y.newCold hexec (own := own) (C := cls) (index := ik) (n := 6) hown' hk' hins hini'
    (g := F0 m pc ls rest) rfl (by rw [hb]; exact d0) (Nat.le_refl _) (Nat.le_refl _)
  generalize hT1 : (T.setVm vm₁).pushCell { cls := cX, slots := kX.instanceTypes.map defaultValue, vm := .none } = T1 at X₁ st1
  have hcat : (Value.ref T.heap.size).category = 1 := rfl
  have hcellA : T1.heap[T.heap.size]? = some (freshCell cX kX) := by rw [← hT1]; exact State.heap_pushCell_size _ _
  have d3' : decode c.code (pc + 3) = .ok (.dup, 1) := by rw [hb]; exact d3
  obtain ⟨V, ce, L, Z, hL, hlt, hcl9, hvm9, st⟩ := vx_ctorMade0 X₁ hexec htr (own := own) (cls := cls) (names := names) (ic := ic) hown' hcls hnames h (fun x hx => nomatch hx) hfX hkX hcellA (by rw [hhp]; exact Nat.le_refl _)
    (g := { method := m, pc := pc + 4, locals := ls, stack := .ref T.heap.size :: .ref T.heap.size :: rest, locked := none }) rfl hsize (rest := rest) rfl
    (by rw [hb]; exact d4) hRframes (by simp only [List.map_cons, List.sum_cons, hcat]; omega)
  have Z0 := Stand.forget (locs := []) Z (fun y hy => by rw [hL y hy, hhp]; exact Nat.le_refl _)
  obtain ⟨f1, f2⟩ := vx_frame Z0.same
  rw [hhp] at f1 f2
  have hcid : ce.cls = D.1 ci := by
    rw [hcl9]
    have h1 := (hK.1 ci _ hc).2.1
    rw [hvm] at hfX
    exact Option.some.inj (hfX.symm.trans h1)
  have hh : (V.setCell T.heap.size ce).heap[T.heap.size]? = some ce := heapAt_setCell_self (s := V) ce hlt
  subst hA'
  have X5 := vx_back9 X Y Z0
  have X6 : Stand p l e R s m args below meth c (V.setCell T.heap.size ce) locs (cells + 1) (slots + 6) := { X5 with same := X5.same.mono (by omega) (by omega) }
  have hk9 : ∀ (k : Nat) (x : Nat × va_E), ws[k]? = some x → (V.setCell T.heap.size ce).heap[x.1]? = T.heap[x.1]? := fun k x hx => f2 x.1 ((hP k x hx).lt) (fun z hz => nomatch hz)
  obtain ⟨t, a1, b1⟩ := kk T.heap.size (V.setCell T.heap.size ce).heap ((hP.kept hk9).app (fun k x hx => by
      have hz : k < 1 := (List.getElem?_eq_some_iff.mp hx).1
      rw [show k = 0 by omega] at hx
      cases hx
      exact ⟨_, hc, ce, hh, hcid, hvm9, fun k hk => absurd hk (Nat.not_lt_zero k)⟩)) (hD.push hP rfl (hA _ hS.1)) ⟨Nat.le_trans hS.1 f1, fun q h1 h2 => (f2 q (Nat.lt_of_lt_of_le h1 hS.1) (fun z hz => nomatch hz)).trans (hS.2.1 q h1 h2), hS.2.2⟩ _ rfl X6
  refine ⟨t, st1 _ ?_, b1⟩
  show Steps p.tables e below (T1.setTop { method := m, pc := pc + 3, locals := ls, stack := .ref T.heap.size :: rest, locked := none }) _
  jvm_step X₁.here [X₁.here.top, hexec, d3', Value.category]
  exact st _ a1
/-- 'throw x' of an object that was made before -/
theorem vx_athrow {cc : ByteArray} {pc : Nat} (hexec : p.tables.exec = Jvm.exec) (hb : c.code = cc) {q : Addr} (hdg : decode cc pc = .ok (.athrow, 1)) (k : vx_W p l e R s m args below meth c H locs cells slots Q (F0 m pc ls rest) q) : W p l e R s m args below meth c H locs cells slots Q (F0 m pc ls (.ref q :: rest)) := by
  intro T hT X
  obtain ⟨t, st, hq⟩ := k T hT X
  refine ⟨t, ?_, hq⟩
  have hdg' : decode c.code pc = .ok (.athrow, 1) := by rw [hb]; exact hdg
  jvm_step X.here [X.here.top, hexec, hdg', athrow.wp_sem]
  exact st
end VXK2
/-! ===== END ===== -/
/-! ===== BEGIN a constructor that throws (launches without stack traces) ===== -/
section VXIA
variable {p : Program} {l : Launch} {e : Env} {R : Room} {s : State} {m : MethodId} {args : Array Value} {below : List Frame} {meth : Method} {c : Code} {T : State} {locs : List Loc} {cells slots : Nat}
theorem vx_callI (X : Stand p l e R s m args below meth c T locs cells slots) (hexec : p.tables.exec = Jvm.exec) {own : String} {index : Nat} {y : MethodName} {bytes : ByteArray} {maxL : Nat}
    (hown : s.vm.findClass own = some m.cls) (hy1 : y.name = "<init>") (hlink : (Cond.methodLink own index y).before args s = true) (hinst : (Cond.instanceMethod y).before args s = true)
    (hcode : (Cond.code y bytes maxL none).before args s = true) (hy : y.cls ≠ "java/lang/invoke/MethodHandle" ∧ y.cls ≠ "java/lang/invoke/VarHandle")
    {W9 : Nat} {Pre : Pt → Array Value → Prop} {Post : Pt → Array Value → Option Value → Pt → Prop} {PostX : Pt → Array Value → Addr → Pt → Prop} (hK : vx_Back l R p e below s args y 3 W9 Pre Post PostX)
    {g : JFrame} (hg : g.method = m) (hsize : g.locals.size = c.maxLocals) {a : Addr} {argsL rest : List Value} (hlen : ∀ sig, parseMethodDescriptor y.desc = some sig → argsL.length = sig.parameters.length)
    (hstack : g.stack = argsL.reverse ++ .ref a :: rest) (hW : 2 * g.monitorRoom + (rest.map fun v => v.category).sum ≤ W9) (hdg : decode c.code g.pc = .ok (.invokespecial index, 3))
    (hpre : ∀ vm₁, s.WarmedH vm₁ → Pre ⟨T.setVm vm₁, locs, cells, slots⟩ (Value.ref a :: argsL).toArray) :
    (∃ (v : Option Value) (vm₁ : Vm) (B : Pt), s.WarmedH vm₁ ∧ Stand p l e R s m args below meth c B.U B.locs B.cells B.slots ∧ Post ⟨T.setVm vm₁, locs, cells, slots⟩ (Value.ref a :: argsL).toArray v B ∧
      ∀ target, Steps p.tables e below (B.U.setTop { g with pc := g.pc + 3, stack := v.toList ++ rest }) target → Steps p.tables e below (T.setTop g) target) ∨
    (∃ (q : Addr) (vm₁ : Vm) (B : Pt), s.WarmedH vm₁ ∧ Stand p l e R s m args below meth c B.U B.locs B.cells B.slots ∧ PostX ⟨T.setVm vm₁, locs, cells, slots⟩ (Value.ref a :: argsL).toArray q B ∧
      Steps p.tables e below (T.setTop g) ((B.U.setTop { g with stack := rest }).pushFrame (.throwing q))) := by
  subst hg
  have hpl : e.platform.magicAccessors = ({} : Platform).magicAccessors := by rw [X.admits.platform]
  obtain ⟨mk, methM, cM, kP, vm₁, hnamed, hmethM, hcodeM, -, hlocalsM, -, hkP, -, hW₁, hstep₁⟩ := Steps.initColdArgs (e := e) X.here hexec X.warmed hpl hown hy1 hy hlink hinst hcode (f := g) rfl hlen hstack hdg
  have X₁ := X.noted hW₁
  rcases hK g.method meth c ⟨T.setVm vm₁, locs, cells, slots⟩ { g with stack := rest } (.invokespecial index) mk (Value.ref a :: argsL).toArray X₁ rfl hsize hdg hW (X₁.named hnamed) (hpre vm₁ X₁.warmed) with ⟨v, B, X', hpost, hsteps⟩ | ⟨q, B, X', hpost, hsteps⟩
  · exact Or.inl ⟨v, vm₁, B, X₁.warmed, X', hpost, fun target h => hstep₁ _ fun acts => by rw [doInvoke_state]; exact hsteps.trans h⟩
  · exact Or.inr ⟨q, vm₁, B, X₁.warmed, X', hpost, hstep₁ _ fun acts => by rw [doInvoke_state]; exact hsteps⟩
end VXIA
section VXIB
variable {p : Program} {l : Launch} {e : Env} {R : Room} {s : State} {m : MethodId} {args : Array Value} {below : List Frame} {meth : Method} {c : Code} {H : Heap} {locs : List Loc} {cells slots : Nat}
variable {y : MethodName} {bytes cc : ByteArray} {maxL nL mc ms n index : Nat} {ret : Option FieldType} {ws : List Cond} {rm : Room} {Pc : Array Value → State → Prop} {Qc : Array Value → State → Outcome → State → Prop} {XC : String → State → State → Prop} {free : Addr → Prop} {Ts : List Cond} {own C : String} {b : Addr} {As rest : List Value} {g : JFrame}
theorem vx_runI (S : CallFix p m c cc nL s args Ts own) (hM : vx_Met l y ws rm Pc Qc XC mc ms free) (cw : CallB R s args own index y bytes maxL none ws rm mc ms n ∧ y.name = "<init>" ∧ (Cond.instanceMethod y).before args s = true) (hp : PreS s H Pc (.ref b :: As))
    (hg : g.method = m) (hn : As.length = n) (hsize : g.locals.size = nL) (hstack : g.stack = As.reverse ++ .ref b :: rest) (hW : 2 * g.monitorRoom + (rest.map fun v => v.category).sum ≤ 8) (hdg : decode cc g.pc = .ok (.invokespecial index, 3)) (hf : cells + mc ≤ R.cells ∧ slots + ms ≤ R.slots) :
    vx_Run p l e R s m args below meth c H locs cells slots mc ms g rest (Qc (Value.ref b :: As).toArray) XC free := by
  have hK : vx_Back l R p e below s args y 3 8 (PreOf R mc ms Pc) (PostOf Qc mc ms free) (vx_Post XC mc ms free) := vx_callBack cw.1 hM hp.1
  obtain ⟨⟨-, -, -, -, -, -, hcode, -, hy, hlen, hl⟩, hy1, hin⟩ := cw
  obtain ⟨hx, hb, hml, ho, -⟩ := S
  have hPc := hp.2
  intro T hT X
  rcases vx_callI X hx (bytes := bytes) (maxL := maxL) ho hy1 hl hin hcode hy hK hg (hsize.trans hml.symm) (a := b) (argsL := As) (rest := rest) (fun sig h => hn.trans (hlen sig h)) hstack hW (by rw [hb]; exact hdg)
    (fun vm₁ hW₁ => ⟨hf.1, hf.2, hPc (T.setVm vm₁) hT hW₁⟩) with ⟨v, vm₁, ⟨U', l2, c2, s2⟩, hW₁, X', ⟨g', mk, t, L, e1, e2, hq, h1, hL, h2, h3⟩, st⟩ | ⟨q, vm₁, ⟨U', l2, c2, s2⟩, hW₁, X', ⟨g', mk, t, L, E, ce, e1, e2, hq, hce, hcv, hcl, h1, hL, h2, h3⟩, st⟩
  · dsimp only [Pt.U, Pt.locs, Pt.cells, Pt.slots] at X' e1 e2 h1 h2 h3 st
    subst h1; subst h2; subst h3
    exact Or.inl ⟨v, (T.setVm vm₁).calling g' mk (Value.ref b :: As).toArray, t, U', L, hT, X', hL, e1, e2, hq, st⟩
  · dsimp only [Pt.U, Pt.locs, Pt.cells, Pt.slots] at X' e1 e2 h1 h2 h3 st hcl
    subst h1; subst h2; subst h3
    exact Or.inr ⟨q, (T.setVm vm₁).calling g' mk (Value.ref b :: As).toArray, t, U', L, E, ce, hT, X', hL, e1, e2, hq, hce, hcv, vx_cls hW₁ hcl, st⟩
end VXIB
/-! ===== END ===== -/
/-! ===== BEGIN a private constructor of a nest mate that throws ===== -/
section VXIC
variable {p : Program} {l : Launch} {e : Env} {R : Room} {s : State} {m : MethodId} {args : Array Value} {below : List Frame} {meth : Method} {c : Code} {T : State} {locs : List Loc} {cells slots : Nat}
theorem vx_callIN (X : Stand p l e R s m args below meth c T locs cells slots) (hexec : p.tables.exec = Jvm.exec) {own : String} {index : Nat} {host : String} {y : MethodName} {bytes : ByteArray} {maxL : Nat}
    (hown : s.vm.findClass own = some m.cls) (hy1 : y.name = "<init>") (hlink : (Cond.methodLinkNest own index y host).before args s = true) (hinst : (Cond.instanceMethod y).before args s = true)
    (hcode : (Cond.code y bytes maxL none).before args s = true) (hy : y.cls ≠ "java/lang/invoke/MethodHandle" ∧ y.cls ≠ "java/lang/invoke/VarHandle")
    {W9 : Nat} {Pre : Pt → Array Value → Prop} {Post : Pt → Array Value → Option Value → Pt → Prop} {PostX : Pt → Array Value → Addr → Pt → Prop} (hK : vx_Back l R p e below s args y 3 W9 Pre Post PostX)
    {g : JFrame} (hg : g.method = m) (hsize : g.locals.size = c.maxLocals) {a : Addr} {argsL rest : List Value} (hlen : ∀ sig, parseMethodDescriptor y.desc = some sig → argsL.length = sig.parameters.length)
    (hstack : g.stack = argsL.reverse ++ .ref a :: rest) (hW : 2 * g.monitorRoom + (rest.map fun v => v.category).sum ≤ W9) (hdg : decode c.code g.pc = .ok (.invokespecial index, 3))
    (hpre : ∀ vm₁, s.WarmedH vm₁ → Pre ⟨T.setVm vm₁, locs, cells, slots⟩ (Value.ref a :: argsL).toArray) :
    (∃ (v : Option Value) (vm₁ : Vm) (B : Pt), s.WarmedH vm₁ ∧ Stand p l e R s m args below meth c B.U B.locs B.cells B.slots ∧ Post ⟨T.setVm vm₁, locs, cells, slots⟩ (Value.ref a :: argsL).toArray v B ∧
      ∀ target, Steps p.tables e below (B.U.setTop { g with pc := g.pc + 3, stack := v.toList ++ rest }) target → Steps p.tables e below (T.setTop g) target) ∨
    (∃ (q : Addr) (vm₁ : Vm) (B : Pt), s.WarmedH vm₁ ∧ Stand p l e R s m args below meth c B.U B.locs B.cells B.slots ∧ PostX ⟨T.setVm vm₁, locs, cells, slots⟩ (Value.ref a :: argsL).toArray q B ∧
      Steps p.tables e below (T.setTop g) ((B.U.setTop { g with stack := rest }).pushFrame (.throwing q))) := by
  subst hg
  have hpl : e.platform.magicAccessors = ({} : Platform).magicAccessors := by rw [X.admits.platform]
  obtain ⟨mk, methM, cM, kP, vm₁, hnamed, hmethM, hcodeM, -, hlocalsM, -, hkP, -, hW₁, hstep₁⟩ := Steps.initColdArgsNest (e := e) X.here hexec X.warmed hpl hown hy1 hy hlink hinst hcode (f := g) rfl hlen hstack hdg
  have X₁ := X.noted hW₁
  rcases hK g.method meth c ⟨T.setVm vm₁, locs, cells, slots⟩ { g with stack := rest } (.invokespecial index) mk (Value.ref a :: argsL).toArray X₁ rfl hsize hdg hW (X₁.named hnamed) (hpre vm₁ X₁.warmed) with ⟨v, B, X', hpost, hsteps⟩ | ⟨q, B, X', hpost, hsteps⟩
  · exact Or.inl ⟨v, vm₁, B, X₁.warmed, X', hpost, fun target h => hstep₁ _ fun acts => by rw [doInvoke_state]; exact hsteps.trans h⟩
  · exact Or.inr ⟨q, vm₁, B, X₁.warmed, X', hpost, hstep₁ _ fun acts => by rw [doInvoke_state]; exact hsteps⟩
end VXIC
section VXID
variable {p : Program} {l : Launch} {e : Env} {R : Room} {s : State} {m : MethodId} {args : Array Value} {below : List Frame} {meth : Method} {c : Code} {H : Heap} {locs : List Loc} {cells slots : Nat}
theorem vx_runIN {y : MethodName} {bytes cc : ByteArray} {maxL nL mc ms n index : Nat} {ws : List Cond} {rm : Room} {Pc : Array Value → State → Prop} {Qc : Array Value → State → Outcome → State → Prop} {XC : String → State → State → Prop} {free : Addr → Prop} {Ts : List Cond} {own host : String} {b : Addr} {As rest : List Value} {g : JFrame}
    (S : CallFix p m c cc nL s args Ts own) (hM : vx_Met l y ws rm Pc Qc XC mc ms free) (cw : va_CN R s args own index y host bytes maxL none ws rm mc ms n ∧ y.name = "<init>" ∧ (Cond.instanceMethod y).before args s = true) (hp : PreS s H Pc (.ref b :: As))
    (hg : g.method = m) (hn : As.length = n) (hsize : g.locals.size = nL) (hstack : g.stack = As.reverse ++ .ref b :: rest) (hW : 2 * g.monitorRoom + (rest.map fun v => v.category).sum ≤ 8) (hdg : decode cc g.pc = .ok (.invokespecial index, 3)) (hf : cells + mc ≤ R.cells ∧ slots + ms ≤ R.slots) :
    vx_Run p l e R s m args below meth c H locs cells slots mc ms g rest (Qc (Value.ref b :: As).toArray) XC free := by
  obtain ⟨⟨⟨hrc, hrs, hfr, hlo, hws, hcw⟩, hcode, hini, hy, hlen, hl⟩, hx1, hx2⟩ := cw
  have hK : vx_Back l R p e below s args y 3 8 (PreOf R mc ms Pc) (PostOf Qc mc ms free) (vx_Post XC mc ms free) := vx_back (bytes := bytes) (maxL := maxL) (ret := none) hM hp.1 hrc hrs hfr hlo hws hcw (fun a' U hW => word_at hW (Or.inl (by first | rfl | simp [Cond.onTables, Cond.keeps, Cond.steady])) hini)
  obtain ⟨hx, hb, hml, ho, -⟩ := S
  have hPc := hp.2
  intro T hT X
  rcases vx_callIN X hx (bytes := bytes) (maxL := maxL) ho hx1 hl hx2 hcode hy hK hg (hsize.trans hml.symm) (a := b) (argsL := As) (rest := rest) (fun sig h => hn.trans (hlen sig h)) hstack hW (by rw [hb]; exact hdg)
    (fun vm₁ hW₁ => ⟨hf.1, hf.2, hPc (T.setVm vm₁) hT hW₁⟩) with ⟨v, vm₁, ⟨U', l2, c2, s2⟩, hW₁, X', ⟨g', mk, t, L, e1, e2, hq, h1, hL, h2, h3⟩, st⟩ | ⟨q, vm₁, ⟨U', l2, c2, s2⟩, hW₁, X', ⟨g', mk, t, L, E, ce, e1, e2, hq, hce, hcv, hcl, h1, hL, h2, h3⟩, st⟩
  · dsimp only [Pt.U, Pt.locs, Pt.cells, Pt.slots] at X' e1 e2 h1 h2 h3 st
    subst h1; subst h2; subst h3
    exact Or.inl ⟨v, (T.setVm vm₁).calling g' mk (Value.ref b :: As).toArray, t, U', L, hT, X', hL, e1, e2, hq, st⟩
  · dsimp only [Pt.U, Pt.locs, Pt.cells, Pt.slots] at X' e1 e2 h1 h2 h3 st hcl
    subst h1; subst h2; subst h3
    exact Or.inr ⟨q, (T.setVm vm₁).calling g' mk (Value.ref b :: As).toArray, t, U', L, E, ce, hT, X', hL, e1, e2, hq, hce, hcv, vx_cls hW₁ hcl, st⟩
end VXID
/-! ===== END ===== -/
/-! ===== BEGIN a method of a class above, found by the receiver, that may throw (follows va_callVU, va_runU of this kit) ===== -/
section
variable {p : Program} {l : Launch} {e : Env} {R : Room} {s : State} {m : MethodId} {args : Array Value} {below : List Frame} {meth : Method} {c : Code} {H : Heap} {locs : List Loc} {cells slots : Nat}
theorem vx_callVU {T : State} {locs : List Loc} {cells slots : Nat} (X : Stand p l e R s m args below meth c T locs cells slots) (hexec : p.tables.exec = Jvm.exec) {own C owner : String} {index : Nat} {x y : MethodName} {bytes : ByteArray} {maxL : Nat} {ret : Option FieldType}
    (hown : s.vm.findClass own = some m.cls) (hlink : (Cond.methodLink own index x).before args s = true) (hsame : (Cond.sameMethod x.cls owner x.name x.desc).before args s = true)
    (hd0 : va_Decl s ⟨owner, x.name, x.desc⟩) (howner : owner ≠ "java/lang/invoke/MethodHandle" ∧ owner ≠ "java/lang/invoke/VarHandle")
    (hsel : (Cond.selects C x y).before args s = true) (hinst : (Cond.instanceMethod y).before args s = true) (hcode : (Cond.code y bytes maxL ret).before args s = true)
    {W : Nat} {Pre : Pt → Array Value → Prop} {Post : Pt → Array Value → Option Value → Pt → Prop} {PostX : Pt → Array Value → Addr → Pt → Prop} (hK : vx_Back l R p e below s args y 3 W Pre Post PostX)
    {b : Addr} {cellB : Cell} (hcell : T.heap[b]? = some cellB) (hobj : cellB.vm.isStatics = false) (hcls : s.vm.findClass C = some cellB.cls)
    {g : JFrame} (hg : g.method = m) (hsize : g.locals.size = c.maxLocals) {argsL rest : List Value} (hlen : ∀ sig, parseMethodDescriptor x.desc = some sig → argsL.length = sig.parameters.length)
    (hstack : g.stack = argsL.reverse ++ .ref b :: rest) (hW : 2 * g.monitorRoom + (rest.map fun v => v.category).sum ≤ W) (hdg : decode c.code g.pc = .ok (.invokevirtual index, 3))
    (hpre : ∀ vm₁, s.WarmedH vm₁ → Pre ⟨T.setVm vm₁, locs, cells, slots⟩ (Value.ref b :: argsL).toArray) :
    (∃ (v : Option Value) (vm₁ : Vm) (B : Pt), s.WarmedH vm₁ ∧ Stand p l e R s m args below meth c B.U B.locs B.cells B.slots ∧ Post ⟨T.setVm vm₁, locs, cells, slots⟩ (Value.ref b :: argsL).toArray v B ∧
      ∀ target, Steps p.tables e below (B.U.setTop { g with pc := g.pc + 3, stack := v.toList ++ rest }) target → Steps p.tables e below (T.setTop g) target) ∨
    (∃ (q : Addr) (vm₁ : Vm) (B : Pt), s.WarmedH vm₁ ∧ Stand p l e R s m args below meth c B.U B.locs B.cells B.slots ∧ PostX ⟨T.setVm vm₁, locs, cells, slots⟩ (Value.ref b :: argsL).toArray q B ∧
      Steps p.tables e below (T.setTop g) ((B.U.setTop { g with stack := rest }).pushFrame (.throwing q))) := by
  obtain ⟨r0, r, hn, hrm, hstR, hsigR⟩ := hd0
  obtain ⟨cn, ck, r1, hcn, hck, hni, hf, hn1⟩ := Cond.sameMethod_found hsame
  cases hn.symm.trans hn1
  obtain ⟨mk, methM, hnamed, hmethM, -, habM⟩ := Cond.instanceMethod_spec hinst
  obtain ⟨c2, r2, m2, q1, q2, q3, q4, kP, hkP, hkPi⟩ := Cond.selects_spec hsel
  cases hcls.symm.trans q1
  cases hf.symm.trans q2
  cases hnamed.symm.trans q3
  have hselP : selectMethod e.platform s.vm cellB.cls r0 = .method mk := by rw [Launch.admits_selectMethod X.admits]; exact q4
  obtain ⟨vm₁, X₁, hstep₁⟩ := X.invokevirtualUp hexec hown hlink hsame howner hn hrm hstR (a := b) (cell := cellB) hcell
    (fun z h => by rw [h] at hobj; cases hobj) hselP hmethM habM hkP hkPi (g := g) hg (argsL := argsL) (rest := rest) (hlen _ hsigR) hstack hdg
  rcases hK m meth c ⟨T.setVm vm₁, locs, cells, slots⟩ { g with stack := rest } (.invokevirtual index) mk (Value.ref b :: argsL).toArray X₁ hg hsize hdg hW (X₁.named hnamed) (hpre vm₁ X₁.warmed) with ⟨v, B, X', hpost, hsteps⟩ | ⟨q, B, X', hpost, hsteps⟩
  · exact Or.inl ⟨v, vm₁, B, X₁.warmed, X', hpost, fun target h => hstep₁ _ fun acts => by rw [doInvoke_state]; exact hsteps.trans h⟩
  · exact Or.inr ⟨q, vm₁, B, X₁.warmed, X', hpost, hstep₁ _ fun acts => by rw [doInvoke_state]; exact hsteps⟩
theorem vx_runU {x y : MethodName} {bytes cc : ByteArray} {maxL nL mc ms n index : Nat} {ret : Option FieldType} {ws : List Cond} {rm : Room} {Pc : Array Value → State → Prop} {Qc : Array Value → State → Outcome → State → Prop} {XC : String → State → State → Prop} {free : Addr → Prop} {Ts : List Cond} {own C owner : String} {b : Addr} {As rest : List Value} {g : JFrame}
    (S : CallFix p m c cc nL s args Ts own) (hM : vx_Met l y ws rm Pc Qc XC mc ms free) (cw : va_CU R s args own C owner index x y bytes maxL ret ws rm mc ms n) (hp : PreV s H C b Pc As)
    (hg : g.method = m) (hn : As.length = n) (hsize : g.locals.size = nL) (hstack : g.stack = As.reverse ++ .ref b :: rest) (hW : 2 * g.monitorRoom + (rest.map fun v => v.category).sum ≤ 8) (hdg : decode cc g.pc = .ok (.invokevirtual index, 3)) (hf : cells + mc ≤ R.cells ∧ slots + ms ≤ R.slots) :
    vx_Run p l e R s m args below meth c H locs cells slots mc ms g rest (Qc (Value.ref b :: As).toArray) XC free := by
  obtain ⟨hrc, hrs, hfr, hlo, hws, hcw⟩ := cw.back
  have hini := cw.init
  have hK : vx_Back l R p e below s args y 3 8 (PreOf R mc ms Pc) (PostOf Qc mc ms free) (vx_Post XC mc ms free) := vx_back (bytes := bytes) (maxL := maxL) (ret := ret) hM hp.1 hrc hrs hfr hlo hws hcw (fun a' U hW => word_at hW (Or.inl (by first | rfl | simp [Cond.onTables, Cond.keeps, Cond.steady])) hini)
  obtain ⟨hx, hb, hml, ho, -⟩ := S
  obtain ⟨-, ⟨cellB, hcB, hoB, hclB⟩, hPc⟩ := hp
  intro T hT X
  rcases vx_callVU X hx (C := C) (owner := owner) (bytes := bytes) (maxL := maxL) (ret := ret) ho cw.link cw.same cw.decl cw.notMH cw.sel cw.inst cw.code hK (by rw [hT]; exact hcB) hoB hclB hg (hsize.trans hml.symm) (argsL := As) (rest := rest) (fun sig h => hn.trans (cw.len sig h)) hstack hW (by rw [hb]; exact hdg)
    (fun vm₁ hW₁ => ⟨hf.1, hf.2, hPc (T.setVm vm₁) hT hW₁⟩) with ⟨v, vm₁, ⟨U', l2, c2, s2⟩, hW₁, X', ⟨g', mk, t, L, e1, e2, hq, h1, hL, h2, h3⟩, st⟩ | ⟨q, vm₁, ⟨U', l2, c2, s2⟩, hW₁, X', ⟨g', mk, t, L, E, ce, e1, e2, hq, hce, hcv, hcl, h1, hL, h2, h3⟩, st⟩
  · dsimp only [Pt.U, Pt.locs, Pt.cells, Pt.slots] at X' e1 e2 h1 h2 h3 st
    subst h1; subst h2; subst h3
    exact Or.inl ⟨v, (T.setVm vm₁).calling g' mk (Value.ref b :: As).toArray, t, U', L, hT, X', hL, e1, e2, hq, st⟩
  · dsimp only [Pt.U, Pt.locs, Pt.cells, Pt.slots] at X' e1 e2 h1 h2 h3 st hcl
    subst h1; subst h2; subst h3
    exact Or.inr ⟨q, (T.setVm vm₁).calling g' mk (Value.ref b :: As).toArray, t, U', L, E, ce, hT, X', hL, e1, e2, hq, hce, hcv, vx_cls hW₁ hcl, st⟩
end
/-! ===== END ===== -/
/-! ===== BEGIN super.m(..) that may throw (follows va_callSU, va_runSU) ===== -/
section
variable {p : Program} {l : Launch} {e : Env} {R : Room} {s : State} {m : MethodId} {args : Array Value} {below : List Frame} {meth : Method} {c : Code} {H : Heap} {locs : List Loc} {cells slots : Nat}
theorem vx_callSU {T : State} {locs : List Loc} {cells slots : Nat} (X : Stand p l e R s m args below meth c T locs cells slots) (hexec : p.tables.exec = Jvm.exec) {own : String} {index : Nat} {y : MethodName} {bytes : ByteArray} {maxL : Nat} {ret : Option FieldType}
    (hown : s.vm.findClass own = some m.cls) (hlink : (Cond.methodLink own index y).before args s = true) (hsame : (Cond.sameMethod y.cls y.cls y.name y.desc).before args s = true) (hsup : (Cond.superclass own y.cls).before args s = true)
    (hinst : (Cond.instanceMethod y).before args s = true) (hcode : (Cond.code y bytes maxL ret).before args s = true) (hno : y.name ≠ "<init>")
    {W : Nat} {Pre : Pt → Array Value → Prop} {Post : Pt → Array Value → Option Value → Pt → Prop} {PostX : Pt → Array Value → Addr → Pt → Prop} (hK : vx_Back l R p e below s args y 3 W Pre Post PostX)
    {b : Addr} {cellB : Cell} {kB : Class} (hcell : T.heap[b]? = some cellB) (hobj : cellB.vm.isStatics = false) (hkB : s.vm.classes[cellB.cls]? = some kB)
    {g : JFrame} (hg : g.method = m) (hsize : g.locals.size = c.maxLocals) {argsL rest : List Value} (hlen : ∀ sig, parseMethodDescriptor y.desc = some sig → argsL.length = sig.parameters.length)
    (hstack : g.stack = argsL.reverse ++ .ref b :: rest) (hW : 2 * g.monitorRoom + (rest.map fun v => v.category).sum ≤ W) (hdg : decode c.code g.pc = .ok (.invokespecial index, 3))
    (hpre : ∀ vm₁, s.WarmedH vm₁ → Pre ⟨T.setVm vm₁, locs, cells, slots⟩ (Value.ref b :: argsL).toArray) :
    (∃ (v : Option Value) (vm₁ : Vm) (B : Pt), s.WarmedH vm₁ ∧ Stand p l e R s m args below meth c B.U B.locs B.cells B.slots ∧ Post ⟨T.setVm vm₁, locs, cells, slots⟩ (Value.ref b :: argsL).toArray v B ∧
      ∀ target, Steps p.tables e below (B.U.setTop { g with pc := g.pc + 3, stack := v.toList ++ rest }) target → Steps p.tables e below (T.setTop g) target) ∨
    (∃ (q : Addr) (vm₁ : Vm) (B : Pt), s.WarmedH vm₁ ∧ Stand p l e R s m args below meth c B.U B.locs B.cells B.slots ∧ PostX ⟨T.setVm vm₁, locs, cells, slots⟩ (Value.ref b :: argsL).toArray q B ∧
      Steps p.tables e below (T.setTop g) ((B.U.setTop { g with stack := rest }).pushFrame (.throwing q))) := by
  obtain ⟨mk, methM, hnamed, hmethM, hstM, habM⟩ := Cond.instanceMethod_spec hinst
  obtain ⟨methM', cM, hmethM', -, -, -, -, -, -, hsigM⟩ := Cond.code_spec hnamed hcode
  cases hmethM.symm.trans hmethM'
  obtain ⟨ps, dk, kp, hps, hdk, hkp, hsuper, -, -, hnid⟩ := Cond.superclass_spec hown hsup
  have hn : s.methodNamed? ⟨y.cls, y.name, y.desc⟩ = some mk := hnamed
  have hpm : ps = mk.cls := Option.some.inj (hps.symm.trans (findClass_of_methodNamed hnamed))
  have hsub : s.vm.isSubclass ps mk.cls = true := by rw [hpm]; simp [Vm.isSubclass, Vm.isSubclassAux]
  obtain ⟨vm₁, X₁, hstep₁⟩ := X.invokespecialUp hexec hown hlink hsame hn hmethM hstM habM hno hdk hnid hps hsuper hsub (a := b) (cell := cellB) hcell
    (fun z h => by rw [h] at hobj; cases hobj) hkB (g := g) hg (argsL := argsL) (rest := rest) (hlen _ hsigM) hstack hdg
  rcases hK m meth c ⟨T.setVm vm₁, locs, cells, slots⟩ { g with stack := rest } (.invokespecial index) mk (Value.ref b :: argsL).toArray X₁ hg hsize hdg hW (X₁.named hnamed) (hpre vm₁ X₁.warmed) with ⟨v, B, X', hpost, hsteps⟩ | ⟨q, B, X', hpost, hsteps⟩
  · exact Or.inl ⟨v, vm₁, B, X₁.warmed, X', hpost, fun target h => hstep₁ _ (by rw [doInvoke_state]; exact hsteps.trans h)⟩
  · exact Or.inr ⟨q, vm₁, B, X₁.warmed, X', hpost, hstep₁ _ (by rw [doInvoke_state]; exact hsteps)⟩
theorem vx_runSU {y : MethodName} {bytes cc : ByteArray} {maxL nL mc ms n index : Nat} {ret : Option FieldType} {ws : List Cond} {rm : Room} {Pc : Array Value → State → Prop} {Qc : Array Value → State → Outcome → State → Prop} {XC : String → State → State → Prop} {free : Addr → Prop} {Ts : List Cond} {own C : String} {cC : ClassId} {b : Addr} {As rest : List Value} {g : JFrame}
    (hat : ClassAt s C cC) (S : CallFix p m c cc nL s args Ts own) (hM : vx_Met l y ws rm Pc Qc XC mc ms free) (cw : va_CS R s args own index y bytes maxL ret ws rm mc ms n) (hp : PreV s H C b Pc As)
    (hg : g.method = m) (hn : As.length = n) (hsize : g.locals.size = nL) (hstack : g.stack = As.reverse ++ .ref b :: rest) (hW : 2 * g.monitorRoom + (rest.map fun v => v.category).sum ≤ 8) (hdg : decode cc g.pc = .ok (.invokespecial index, 3)) (hf : cells + mc ≤ R.cells ∧ slots + ms ≤ R.slots) :
    vx_Run p l e R s m args below meth c H locs cells slots mc ms g rest (Qc (Value.ref b :: As).toArray) XC free := by
  obtain ⟨⟨hrc, hrs, hfr, hlo, hws, hcw⟩, hl1, hl2, hl3, hl4, hini, hcode, hno, hlen⟩ := cw
  have hK : vx_Back l R p e below s args y 3 8 (PreOf R mc ms Pc) (PostOf Qc mc ms free) (vx_Post XC mc ms free) := vx_back (bytes := bytes) (maxL := maxL) (ret := ret) hM hp.1 hrc hrs hfr hlo hws hcw (fun a' U hW => word_at hW (Or.inl (by first | rfl | simp [Cond.onTables, Cond.keeps, Cond.steady])) hini)
  obtain ⟨hx, hb, hml, ho, -⟩ := S
  obtain ⟨-, ⟨cellB, hcB, hoB, hclB⟩, hPc⟩ := hp
  obtain ⟨hfc, kB, hkB, -⟩ := hat
  cases hfc.symm.trans hclB
  intro T hT X
  rcases vx_callSU X hx (bytes := bytes) (maxL := maxL) (ret := ret) ho hl1 hl2 hl3 hl4 hcode hno hK (by rw [hT]; exact hcB) hoB hkB hg (hsize.trans hml.symm) (argsL := As) (rest := rest) (fun sig h => hn.trans (hlen sig h)) hstack hW (by rw [hb]; exact hdg)
    (fun vm₁ hW₁ => ⟨hf.1, hf.2, hPc (T.setVm vm₁) hT hW₁⟩) with ⟨v, vm₁, ⟨U', l2, c2, s2⟩, hW₁, X', ⟨g', mk, t, L, e1, e2, hq, h1, hL, h2, h3⟩, st⟩ | ⟨q, vm₁, ⟨U', l2, c2, s2⟩, hW₁, X', ⟨g', mk, t, L, E, ce, e1, e2, hq, hce, hcv, hcl, h1, hL, h2, h3⟩, st⟩
  · dsimp only [Pt.U, Pt.locs, Pt.cells, Pt.slots] at X' e1 e2 h1 h2 h3 st
    subst h1; subst h2; subst h3
    exact Or.inl ⟨v, (T.setVm vm₁).calling g' mk (Value.ref b :: As).toArray, t, U', L, hT, X', hL, e1, e2, hq, st⟩
  · dsimp only [Pt.U, Pt.locs, Pt.cells, Pt.slots] at X' e1 e2 h1 h2 h3 st hcl
    subst h1; subst h2; subst h3
    exact Or.inr ⟨q, (T.setVm vm₁).calling g' mk (Value.ref b :: As).toArray, t, U', L, E, ce, hT, X', hL, e1, e2, hq, hce, hcv, vx_cls hW₁ hcl, st⟩
end
/-! ===== END ===== -/
/-! ===== BEGIN a private method of a nest mate that may throw (follows va_callVN, va_callSN, va_runVN, va_runSN) ===== -/
section
variable {p : Program} {l : Launch} {e : Env} {R : Room} {s : State} {m : MethodId} {args : Array Value} {below : List Frame} {meth : Method} {c : Code} {H : Heap} {locs : List Loc} {cells slots : Nat}
variable {T : State}
theorem vx_callVN (X : Stand p l e R s m args below meth c T locs cells slots) (hexec : p.tables.exec = Jvm.exec) {own C : String} {index : Nat} {host : String} {y : MethodName} {bytes : ByteArray} {maxL : Nat} {ret : Option FieldType}
    (hown : s.vm.findClass own = some m.cls) (hlink : (Cond.methodLinkNest own index y host).before args s = true) (hinst : (Cond.instanceMethod y).before args s = true) (hsel : (Cond.selects C y y).before args s = true)
    (hcode : (Cond.code y bytes maxL ret).before args s = true) (hy : y.cls ≠ "java/lang/invoke/MethodHandle" ∧ y.cls ≠ "java/lang/invoke/VarHandle")
    {W : Nat} {Pre : Pt → Array Value → Prop} {Post : Pt → Array Value → Option Value → Pt → Prop} {PostX : Pt → Array Value → Addr → Pt → Prop} (hK : vx_Back l R p e below s args y 3 W Pre Post PostX)
    {b : Addr} {cellB : Cell} (hcell : T.heap[b]? = some cellB) (hobj : cellB.vm.isStatics = false) (hcls : s.vm.findClass C = some cellB.cls)
    {g : JFrame} (hg : g.method = m) (hsize : g.locals.size = c.maxLocals) {argsL rest : List Value} (hlen : ∀ sig, parseMethodDescriptor y.desc = some sig → argsL.length = sig.parameters.length)
    (hstack : g.stack = argsL.reverse ++ .ref b :: rest) (hW : 2 * g.monitorRoom + (rest.map fun v => v.category).sum ≤ W) (hdg : decode c.code g.pc = .ok (.invokevirtual index, 3))
    (hpre : ∀ vm₁, s.WarmedH vm₁ → Pre ⟨T.setVm vm₁, locs, cells, slots⟩ (Value.ref b :: argsL).toArray) :
    (∃ (v : Option Value) (vm₁ : Vm) (B : Pt), s.WarmedH vm₁ ∧ Stand p l e R s m args below meth c B.U B.locs B.cells B.slots ∧ Post ⟨T.setVm vm₁, locs, cells, slots⟩ (Value.ref b :: argsL).toArray v B ∧
      ∀ target, Steps p.tables e below (B.U.setTop { g with pc := g.pc + 3, stack := v.toList ++ rest }) target → Steps p.tables e below (T.setTop g) target) ∨
    (∃ (q : Addr) (vm₁ : Vm) (B : Pt), s.WarmedH vm₁ ∧ Stand p l e R s m args below meth c B.U B.locs B.cells B.slots ∧ PostX ⟨T.setVm vm₁, locs, cells, slots⟩ (Value.ref b :: argsL).toArray q B ∧
      Steps p.tables e below (T.setTop g) ((B.U.setTop { g with stack := rest }).pushFrame (.throwing q))) := by
  obtain ⟨mk, methM, hnamed, hmethM, hstM, habM⟩ := Cond.instanceMethod_spec hinst
  obtain ⟨methM', cM, hmethM', -, -, -, -, -, -, hsigM⟩ := Cond.code_spec hnamed hcode
  cases hmethM.symm.trans hmethM'
  obtain ⟨c2, r2, m2, q1, q2, q3, q4, kP, hkP, hkPi⟩ := Cond.selects_spec hsel
  cases hcls.symm.trans q1
  cases (State.methodFound?_of_named hnamed hy).symm.trans q2
  cases hnamed.symm.trans q3
  have hselP : selectMethod e.platform s.vm cellB.cls mk = .method mk := by rw [Launch.admits_selectMethod X.admits]; exact q4
  obtain ⟨vm₁, X₁, hstep₁⟩ := X.invokevirtualNest hexec hown hlink hnamed hmethM hstM hkP hkPi hy (a := b) (cell := cellB) hcell
    (fun z h => by rw [h] at hobj; cases hobj) hselP hmethM habM hkP hkPi (g := g) hg (argsL := argsL) (rest := rest) (hlen _ hsigM) hstack hdg
  rcases hK m meth c ⟨T.setVm vm₁, locs, cells, slots⟩ { g with stack := rest } (.invokevirtual index) mk (Value.ref b :: argsL).toArray X₁ hg hsize hdg hW (X₁.named hnamed) (hpre vm₁ X₁.warmed) with ⟨v, B, X', hpost, hsteps⟩ | ⟨q, B, X', hpost, hsteps⟩
  · exact Or.inl ⟨v, vm₁, B, X₁.warmed, X', hpost, fun target h => hstep₁ _ fun acts => by rw [doInvoke_state]; exact hsteps.trans h⟩
  · exact Or.inr ⟨q, vm₁, B, X₁.warmed, X', hpost, hstep₁ _ fun acts => by rw [doInvoke_state]; exact hsteps⟩
theorem vx_callSN (X : Stand p l e R s m args below meth c T locs cells slots) (hexec : p.tables.exec = Jvm.exec) {own : String} {index : Nat} {host : String} {y : MethodName} {bytes : ByteArray} {maxL : Nat} {ret : Option FieldType}
    (hown : s.vm.findClass own = some m.cls) (hlink : (Cond.methodLinkNest own index y host).before args s = true) (hstat : (Cond.static y).before args s = true) (hinit : (Cond.initialized y.cls).before args s = true)
    (hcode : (Cond.code y bytes maxL ret).before args s = true) (hy : y.cls ≠ "java/lang/invoke/MethodHandle" ∧ y.cls ≠ "java/lang/invoke/VarHandle")
    {W : Nat} {Pre : Pt → Array Value → Prop} {Post : Pt → Array Value → Option Value → Pt → Prop} {PostX : Pt → Array Value → Addr → Pt → Prop} (hK : vx_Back l R p e below s args y 3 W Pre Post PostX)
    {g : JFrame} (hg : g.method = m) (hsize : g.locals.size = c.maxLocals) {argsL rest : List Value} (hlen : ∀ sig, parseMethodDescriptor y.desc = some sig → argsL.length = sig.parameters.length)
    (hstack : g.stack = argsL.reverse ++ rest) (hW : 2 * g.monitorRoom + (rest.map fun v => v.category).sum ≤ W) (hdg : decode c.code g.pc = .ok (.invokestatic index, 3))
    (hpre : ∀ vm₁, s.WarmedH vm₁ → Pre ⟨T.setVm vm₁, locs, cells, slots⟩ argsL.toArray) :
    (∃ (v : Option Value) (vm₁ : Vm) (B : Pt), s.WarmedH vm₁ ∧ Stand p l e R s m args below meth c B.U B.locs B.cells B.slots ∧ Post ⟨T.setVm vm₁, locs, cells, slots⟩ argsL.toArray v B ∧
      ∀ target, Steps p.tables e below (B.U.setTop { g with pc := g.pc + 3, stack := v.toList ++ rest }) target → Steps p.tables e below (T.setTop g) target) ∨
    (∃ (q : Addr) (vm₁ : Vm) (B : Pt), s.WarmedH vm₁ ∧ Stand p l e R s m args below meth c B.U B.locs B.cells B.slots ∧ PostX ⟨T.setVm vm₁, locs, cells, slots⟩ argsL.toArray q B ∧
      Steps p.tables e below (T.setTop g) ((B.U.setTop { g with stack := rest }).pushFrame (.throwing q))) := by
  obtain ⟨mk, hnamed⟩ := Cond.code_named hcode
  obtain ⟨methM, cM, hmethM, -, -, -, -, -, -, hsigM⟩ := Cond.code_spec hnamed hcode
  have hstatic : methM.isStatic = true := Cond.static_spec hnamed hmethM hstat
  obtain ⟨kP, hkP, -⟩ := className_of_methodNamed hnamed
  have hinitP : kP.init = .initialized := Cond.initialized_spec (findClass_of_methodNamed hnamed) hkP hinit
  obtain ⟨vm₁, X₁, hstep₁⟩ := X.invokestaticNest hexec hown hlink hnamed hmethM hstatic hkP hinitP hy (g := g) hg (argsL := argsL) (rest := rest) (hlen _ hsigM) hstack hdg
  rcases hK m meth c ⟨T.setVm vm₁, locs, cells, slots⟩ { g with stack := rest } (.invokestatic index) mk argsL.toArray X₁ hg hsize hdg hW (X₁.named hnamed) (hpre vm₁ X₁.warmed) with ⟨v, B, X', hpost, hsteps⟩ | ⟨q, B, X', hpost, hsteps⟩
  · exact Or.inl ⟨v, vm₁, B, X₁.warmed, X', hpost, fun target h => hstep₁ _ fun acts => by rw [doInvoke_state]; exact hsteps.trans h⟩
  · exact Or.inr ⟨q, vm₁, B, X₁.warmed, X', hpost, hstep₁ _ fun acts => by rw [doInvoke_state]; exact hsteps⟩
theorem vx_runVN {y : MethodName} {bytes cc : ByteArray} {maxL nL mc ms n index : Nat} {ret : Option FieldType} {ws : List Cond} {rm : Room} {Pc : Array Value → State → Prop} {Qc : Array Value → State → Outcome → State → Prop} {XC : String → State → State → Prop} {free : Addr → Prop} {Ts : List Cond} {own C host : String} {b : Addr} {As rest : List Value} {g : JFrame}
    (S : CallFix p m c cc nL s args Ts own) (hM : vx_Met l y ws rm Pc Qc XC mc ms free) (cw : va_CN R s args own index y host bytes maxL ret ws rm mc ms n ∧ (Cond.instanceMethod y).before args s = true ∧ (Cond.selects C y y).before args s = true) (hp : PreV s H C b Pc As)
    (hg : g.method = m) (hn : As.length = n) (hsize : g.locals.size = nL) (hstack : g.stack = As.reverse ++ .ref b :: rest) (hW : 2 * g.monitorRoom + (rest.map fun v => v.category).sum ≤ 8) (hdg : decode cc g.pc = .ok (.invokevirtual index, 3)) (hf : cells + mc ≤ R.cells ∧ slots + ms ≤ R.slots) :
    vx_Run p l e R s m args below meth c H locs cells slots mc ms g rest (Qc (Value.ref b :: As).toArray) XC free := by
  obtain ⟨⟨⟨hrc, hrs, hfr, hlo, hws, hcw⟩, hcode, hini, hy, hlen, hl⟩, hx1, hx2⟩ := cw
  have hK : vx_Back l R p e below s args y 3 8 (PreOf R mc ms Pc) (PostOf Qc mc ms free) (vx_Post XC mc ms free) := vx_back (bytes := bytes) (maxL := maxL) (ret := ret) hM hp.1 hrc hrs hfr hlo hws hcw (fun a' U hW => word_at hW (Or.inl (by first | rfl | simp [Cond.onTables, Cond.keeps, Cond.steady])) hini)
  obtain ⟨hx, hb, hml, ho, -⟩ := S
  obtain ⟨-, ⟨cellB, hcB, hoB, hclB⟩, hPc⟩ := hp
  intro T hT X
  rcases vx_callVN X hx (C := C) (bytes := bytes) (maxL := maxL) (ret := ret) ho hl hx1 hx2 hcode hy hK (by rw [hT]; exact hcB) hoB hclB hg (hsize.trans hml.symm) (argsL := As) (rest := rest) (fun sig h => hn.trans (hlen sig h)) hstack hW (by rw [hb]; exact hdg)
    (fun vm₁ hW₁ => ⟨hf.1, hf.2, hPc (T.setVm vm₁) hT hW₁⟩) with ⟨v, vm₁, ⟨U', l2, c2, s2⟩, hW₁, X', ⟨g', mk, t, L, e1, e2, hq, h1, hL, h2, h3⟩, st⟩ | ⟨q, vm₁, ⟨U', l2, c2, s2⟩, hW₁, X', ⟨g', mk, t, L, E, ce, e1, e2, hq, hce, hcv, hcl, h1, hL, h2, h3⟩, st⟩
  · dsimp only [Pt.U, Pt.locs, Pt.cells, Pt.slots] at X' e1 e2 h1 h2 h3 st
    subst h1; subst h2; subst h3
    exact Or.inl ⟨v, (T.setVm vm₁).calling g' mk (Value.ref b :: As).toArray, t, U', L, hT, X', hL, e1, e2, hq, st⟩
  · dsimp only [Pt.U, Pt.locs, Pt.cells, Pt.slots] at X' e1 e2 h1 h2 h3 st hcl
    subst h1; subst h2; subst h3
    exact Or.inr ⟨q, (T.setVm vm₁).calling g' mk (Value.ref b :: As).toArray, t, U', L, E, ce, hT, X', hL, e1, e2, hq, hce, hcv, vx_cls hW₁ hcl, st⟩
theorem vx_runSN {y : MethodName} {bytes cc : ByteArray} {maxL nL mc ms n index : Nat} {ret : Option FieldType} {ws : List Cond} {rm : Room} {Pc : Array Value → State → Prop} {Qc : Array Value → State → Outcome → State → Prop} {XC : String → State → State → Prop} {free : Addr → Prop} {Ts : List Cond} {own host : String} {As rest : List Value} {g : JFrame}
    (S : CallFix p m c cc nL s args Ts own) (hM : vx_Met l y ws rm Pc Qc XC mc ms free) (cw : va_CN R s args own index y host bytes maxL ret ws rm mc ms n ∧ (Cond.static y).before args s = true ∧ True) (hp : PreS s H Pc As)
    (hg : g.method = m) (hn : As.length = n) (hsize : g.locals.size = nL) (hstack : g.stack = As.reverse ++ rest) (hW : 2 * g.monitorRoom + (rest.map fun v => v.category).sum ≤ 8) (hdg : decode cc g.pc = .ok (.invokestatic index, 3)) (hf : cells + mc ≤ R.cells ∧ slots + ms ≤ R.slots) :
    vx_Run p l e R s m args below meth c H locs cells slots mc ms g rest (Qc As.toArray) XC free := by
  obtain ⟨⟨⟨hrc, hrs, hfr, hlo, hws, hcw⟩, hcode, hini, hy, hlen, hl⟩, hx1, hx2⟩ := cw
  have hK : vx_Back l R p e below s args y 3 8 (PreOf R mc ms Pc) (PostOf Qc mc ms free) (vx_Post XC mc ms free) := vx_back (bytes := bytes) (maxL := maxL) (ret := ret) hM hp.1 hrc hrs hfr hlo hws hcw (fun a' U hW => word_at hW (Or.inl (by first | rfl | simp [Cond.onTables, Cond.keeps, Cond.steady])) hini)
  obtain ⟨hx, hb, hml, ho, -⟩ := S
  have hPc := hp.2
  intro T hT X
  rcases vx_callSN X hx (bytes := bytes) (maxL := maxL) (ret := ret) ho hl hx1 hini hcode hy hK hg (hsize.trans hml.symm) (argsL := As) (rest := rest) (fun sig h => hn.trans (hlen sig h)) hstack hW (by rw [hb]; exact hdg)
    (fun vm₁ hW₁ => ⟨hf.1, hf.2, hPc (T.setVm vm₁) hT hW₁⟩) with ⟨v, vm₁, ⟨U', l2, c2, s2⟩, hW₁, X', ⟨g', mk, t, L, e1, e2, hq, h1, hL, h2, h3⟩, st⟩ | ⟨q, vm₁, ⟨U', l2, c2, s2⟩, hW₁, X', ⟨g', mk, t, L, E, ce, e1, e2, hq, hce, hcv, hcl, h1, hL, h2, h3⟩, st⟩
  · dsimp only [Pt.U, Pt.locs, Pt.cells, Pt.slots] at X' e1 e2 h1 h2 h3 st
    subst h1; subst h2; subst h3
    exact Or.inl ⟨v, (T.setVm vm₁).calling g' mk As.toArray, t, U', L, hT, X', hL, e1, e2, hq, st⟩
  · dsimp only [Pt.U, Pt.locs, Pt.cells, Pt.slots] at X' e1 e2 h1 h2 h3 st hcl
    subst h1; subst h2; subst h3
    exact Or.inr ⟨q, (T.setVm vm₁).calling g' mk As.toArray, t, U', L, E, ce, hT, X', hL, e1, e2, hq, hce, hcv, vx_cls hW₁ hcl, st⟩
end
/-! ===== END ===== -/
/-! ===== BEGIN calls by an interface of methods that may throw (vx_callIF, vx_runF follow va_callIF, va_runF of this kit) ===== -/
section
variable {p : Program} {l : Launch} {e : Env} {R : Room} {s : State} {m : MethodId} {args : Array Value} {below : List Frame} {meth : Method} {c : Code} {H : Heap} {locs : List Loc} {cells slots : Nat} {Q : State → Prop}
variable {mc ms : Nat} {free : Addr → Prop} {A0 A1 : Nat → Prop} {H0 : Heap} {a : Array Value} {pc : Nat} {ls : Array Slot} {st0 rest : List Value}
def vx_Run5 (p : Program) (l : Launch) (e : Env) (R : Room) (s : State) (m : MethodId) (args : Array Value) (below : List Frame) (meth : Method) (c : Code) (H : Heap) (locs : List Loc) (cells slots mc ms : Nat) (g : JFrame) (rest : List Value) (Qa : State → Outcome → State → Prop) (XC : String → State → State → Prop) (free : Addr → Prop) : Prop :=
  ∀ T : State, T.heap = H → Stand p l e R s m args below meth c T locs cells slots →
    (∃ (v : Option Value) (st₀ t T' : State) (L : List Loc), st₀.heap = H ∧ Stand p l e R s m args below meth c T' (locs ++ L) (cells + mc) (slots + ms) ∧ (∀ q ∈ L, free q.base) ∧ T'.heap = t.heap ∧ T'.vm = t.vm ∧ Qa st₀ (.returned v) t ∧
      Goes p e below T g T' { g with pc := g.pc + 5, stack := v.toList ++ rest }) ∨
    (∃ (q : Addr) (st₀ t T' : State) (L : List Loc) (E : String) (ce : Cell), st₀.heap = H ∧ Stand p l e R s m args below meth c T' (locs ++ L) (cells + mc) (slots + ms) ∧ (∀ z ∈ L, free z.base) ∧ T'.heap = t.heap ∧ T'.vm = t.vm ∧ XC E st₀ t ∧ t.heap[q]? = some ce ∧ ce.vm = .none ∧ s.vm.findClass E = some ce.cls ∧
      Steps p.tables e below (T.setTop g) ((T'.setTop { g with stack := rest }).pushFrame (.throwing q)))
theorem vx_callIF {T : State} (X : Stand p l e R s m args below meth c T locs cells slots) (hexec : p.tables.exec = Jvm.exec) {own C : String} {index count : Nat} {x y : MethodName} {bytes : ByteArray} {maxL : Nat} {ret : Option FieldType}
    (hown : s.vm.findClass own = some m.cls) (hlink : (Cond.methodLink own index x).before args s = true) (hdecl : (Cond.declares x).before args s = true) (hface : (Cond.interfaceMethod x.cls x.cls x.name x.desc).before args s = true)
    (hsel : (Cond.selects C x y).before args s = true) (hinst : (Cond.instanceMethod y).before args s = true) (hpub : (Cond.publicMethod y).before args s = true) (hunh : (Cond.unhidden C x.name x.desc).before args s = true)
    (hcast : (Cond.castable C x.cls).before args s = true) (hcode : (Cond.code y bytes maxL ret).before args s = true) (hx : x.cls ≠ "java/lang/invoke/MethodHandle" ∧ x.cls ≠ "java/lang/invoke/VarHandle")
    {W9 : Nat} {Pre : Pt → Array Value → Prop} {Post : Pt → Array Value → Option Value → Pt → Prop} {PostX : Pt → Array Value → Addr → Pt → Prop} (hK : vx_Back l R p e below s args y 5 W9 Pre Post PostX)
    {b : Addr} {cellB : Cell} {kB : Class} (hcell : T.heap[b]? = some cellB) (hobj : cellB.vm.isStatics = false) (hcls : s.vm.findClass C = some cellB.cls) (hkB : s.vm.classes[cellB.cls]? = some kB)
    {g : JFrame} (hg : g.method = m) (hsize : g.locals.size = c.maxLocals) {argsL rest : List Value} (hlen : ∀ sig, parseMethodDescriptor x.desc = some sig → argsL.length = sig.parameters.length)
    (hstack : g.stack = argsL.reverse ++ .ref b :: rest) (hW : 2 * g.monitorRoom + (rest.map fun v => v.category).sum ≤ W9) (hdg : decode c.code g.pc = .ok (.invokeinterface index count, 5))
    (hpre : ∀ vm₁, s.WarmedH vm₁ → Pre ⟨T.setVm vm₁, locs, cells, slots⟩ (Value.ref b :: argsL).toArray) :
    (∃ (v : Option Value) (vm₁ : Vm) (B : Pt), s.WarmedH vm₁ ∧ Stand p l e R s m args below meth c B.U B.locs B.cells B.slots ∧ Post ⟨T.setVm vm₁, locs, cells, slots⟩ (Value.ref b :: argsL).toArray v B ∧
      ∀ target, Steps p.tables e below (B.U.setTop { g with pc := g.pc + 5, stack := v.toList ++ rest }) target → Steps p.tables e below (T.setTop g) target) ∨
    (∃ (q : Addr) (vm₁ : Vm) (B : Pt), s.WarmedH vm₁ ∧ Stand p l e R s m args below meth c B.U B.locs B.cells B.slots ∧ PostX ⟨T.setVm vm₁, locs, cells, slots⟩ (Value.ref b :: argsL).toArray q B ∧
      Steps p.tables e below (T.setTop g) ((B.U.setTop { g with stack := rest }).pushFrame (.throwing q))) := by
  obtain ⟨r0, r, hn, hrm, hstR, hsigR⟩ := Cond.declares_spec hdecl
  obtain ⟨cL, kL, r1, hcL, hkL, hiL, hfoundL, hn1⟩ := Cond.interfaceMethod_spec hface
  cases hn.symm.trans hn1
  have hr0cls : r0.cls = cL := Option.some.inj ((findClass_of_methodNamed hn).symm.trans hcL)
  obtain ⟨hnameR, hdescR⟩ := name_of_methodNamed hn hrm
  obtain ⟨mk, methM, hnamed, hmethM, -, habM⟩ := Cond.instanceMethod_spec hinst
  obtain ⟨c2, r2, m2, q1, q2, q3, q4, -⟩ := Cond.selects_spec hsel
  cases hcls.symm.trans q1
  cases hfoundL.symm.trans q2
  cases hnamed.symm.trans q3
  have hselP : selectMethod e.platform s.vm cellB.cls r0 = .method mk := by rw [Launch.admits_selectMethod X.admits]; exact q4
  have hpubM : hasFlag methM.accessFlags Acc.public_ = true := Cond.publicMethod_spec hnamed hmethM hpub
  have hway : ((cellB.cls :: s.vm.superclasses cellB.cls).any fun k => (declaredIn s.vm r.name r.desc k).any fun (_, z) => z.isPrivate || z.isStatic) = false := by
    rw [hnameR, hdescR]; exact Cond.unhidden_spec hcls hunh
  obtain ⟨c3, t3, w1, w2, w3⟩ := Cond.castable_spec hcast
  cases hcls.symm.trans w1
  cases hcL.symm.trans w2
  obtain ⟨vm₁, X₁, hstep₁⟩ := X.invokeinterface hexec hown hlink hn hrm hstR (by rw [hr0cls]; exact hkL) hiL hx (a := b) (cell := cellB) (kcell := kB) hcell
    (fun z h => by rw [h] at hobj; cases hobj) hkB (by rw [hr0cls]; exact w3) hselP hmethM hway hpubM habM (g := g) hg (argsL := argsL) (rest := rest) (hlen _ hsigR) hstack hdg
  rcases hK m meth c ⟨T.setVm vm₁, locs, cells, slots⟩ { g with stack := rest } (.invokeinterface index count) mk (Value.ref b :: argsL).toArray X₁ hg hsize hdg hW (X₁.named hnamed) (hpre vm₁ X₁.warmed) with ⟨v, B, X', hpost, hsteps⟩ | ⟨q, B, X', hpost, hsteps⟩
  · exact Or.inl ⟨v, vm₁, B, X₁.warmed, X', hpost, fun target h => hstep₁ _ fun acts => by rw [doInvoke_state]; exact hsteps.trans h⟩
  · exact Or.inr ⟨q, vm₁, B, X₁.warmed, X', hpost, hstep₁ _ fun acts => by rw [doInvoke_state]; exact hsteps⟩
theorem vx_runF {x y : MethodName} {bytes cc : ByteArray} {maxL nL mc ms n index count : Nat} {ret : Option FieldType} {ws : List Cond} {rm : Room} {Pc : Array Value → State → Prop} {Qc : Array Value → State → Outcome → State → Prop} {XC : String → State → State → Prop} {free : Addr → Prop} {Ts : List Cond} {own C : String} {cC : ClassId} {b : Addr} {As rest : List Value} {g : JFrame}
    (hat : ClassAt s C cC) (S : CallFix p m c cc nL s args Ts own) (hM : vx_Met l y ws rm Pc Qc XC mc ms free) (cw : va_CI R s args own C index x y bytes maxL ret ws rm mc ms n) (hp : PreV s H C b Pc As)
    (hg : g.method = m) (hn : As.length = n) (hsize : g.locals.size = nL) (hstack : g.stack = As.reverse ++ .ref b :: rest) (hW : 2 * g.monitorRoom + (rest.map fun v => v.category).sum ≤ 8) (hdg : decode cc g.pc = .ok (.invokeinterface index count, 5)) (hf : cells + mc ≤ R.cells ∧ slots + ms ≤ R.slots) :
    vx_Run5 p l e R s m args below meth c H locs cells slots mc ms g rest (Qc (Value.ref b :: As).toArray) XC free := by
  obtain ⟨hrc, hrs, hfr, hlo, hws, hcw⟩ := cw.back
  have hini := cw.init
  have hK : vx_Back l R p e below s args y 5 8 (PreOf R mc ms Pc) (PostOf Qc mc ms free) (vx_Post XC mc ms free) := vx_back (bytes := bytes) (maxL := maxL) (ret := ret) hM hp.1 hrc hrs hfr hlo hws hcw (fun a' U hW => word_at hW (Or.inl (by first | rfl | simp [Cond.onTables, Cond.keeps, Cond.steady])) hini)
  obtain ⟨hx, hb, hml, ho, -⟩ := S
  obtain ⟨-, ⟨cellB, hcB, hoB, hclB⟩, hPc⟩ := hp
  obtain ⟨hfc, kB, hkB, -⟩ := hat
  cases hfc.symm.trans hclB
  intro T hT X
  rcases vx_callIF X hx (C := C) (bytes := bytes) (maxL := maxL) (ret := ret) ho cw.link cw.decl cw.face cw.sel cw.inst cw.pub cw.unh cw.cast cw.code cw.notMH hK (by rw [hT]; exact hcB) hoB hclB hkB hg (hsize.trans hml.symm) (argsL := As) (rest := rest) (fun sig h => hn.trans (cw.len sig h)) hstack hW (by rw [hb]; exact hdg)
    (fun vm₁ hW₁ => ⟨hf.1, hf.2, hPc (T.setVm vm₁) hT hW₁⟩) with ⟨v, vm₁, ⟨U', l2, c2, s2⟩, hW₁, X', ⟨g', mk, t, L, e1, e2, hq, h1, hL, h2, h3⟩, st⟩ | ⟨q, vm₁, ⟨U', l2, c2, s2⟩, hW₁, X', ⟨g', mk, t, L, E, ce, e1, e2, hq, hce, hcv, hcl, h1, hL, h2, h3⟩, st⟩
  · dsimp only [Pt.U, Pt.locs, Pt.cells, Pt.slots] at X' e1 e2 h1 h2 h3 st
    subst h1; subst h2; subst h3
    exact Or.inl ⟨v, (T.setVm vm₁).calling g' mk (Value.ref b :: As).toArray, t, U', L, hT, X', hL, e1, e2, hq, st⟩
  · dsimp only [Pt.U, Pt.locs, Pt.cells, Pt.slots] at X' e1 e2 h1 h2 h3 st hcl
    subst h1; subst h2; subst h3
    exact Or.inr ⟨q, (T.setVm vm₁).calling g' mk (Value.ref b :: As).toArray, t, U', L, E, ce, hT, X', hL, e1, e2, hq, hce, hcv, vx_cls hW₁ hcl, st⟩
theorem vx_callFv {S SX : Type} {post : S → Prop} {px : SX → Prop} {B : S → State → Prop} {BX : String → SX → State → Prop} {AX : Nat → Prop} (hr : vx_Run5 p l e R s m args below meth c H locs cells slots mc ms (F0 m pc ls st0) rest (va_Qv post B A1 a) (vx_X px BX AX) free) (hS : va_S A0 H0 H locs) (hA : ∀ q, q < H.size → A1 q → A0 q) (hf : ∀ q, free q → A0 q) (hAX : ∀ q, q < H.size → AX q → A0 q)
    (kx : ∀ (E : String) (ce : Cell) (q9 : Addr) (u : SX) (t : State) (H1 : Heap) (locs1 : List Loc), t.heap = H1 → s.vm.Alike t.vm → px u → BX E u t → H.size ≤ H1.size → (∀ q : Nat, q < H.size → ¬ AX q → H1[q]? = H[q]?) → va_S A0 H0 H1 locs1 → H1[q9]? = some ce → ce.vm = .none → s.vm.findClass E = some ce.cls → vx_W p l e R s m args below meth c H1 locs1 (cells + mc) (slots + ms) Q (F0 m pc ls rest) q9)
    (kk : ∀ (u : S) (t : State) (H1 : Heap) (locs1 : List Loc), t.heap = H1 → s.vm.Alike t.vm → post u → B u t → H.size ≤ H1.size → (∀ q : Nat, q < H.size → ¬ A1 q → H1[q]? = H[q]?) → va_S A0 H0 H1 locs1 → W p l e R s m args below meth c H1 locs1 (cells + mc) (slots + ms) Q (F0 m (pc + 5) ls (rest))) : W p l e R s m args below meth c H locs cells slots Q (F0 m pc ls st0) := by
  intro T hT X
  rcases hr T hT X with ⟨v, st₀, t, T', L, h0, X', hL, e1, e2, ⟨⟨u, hv, hp, hb⟩, hF⟩, st⟩ | ⟨q, st₀, t, T', L, E, ce, h0, X', hL, e1, e2, ⟨u, hp, hb, hF⟩, hce, hcv, hcl, st⟩
  · cases hv
    obtain ⟨k1, k2, k3⟩ := vx_keep h0 e1 hS hA hf hL hF
    obtain ⟨t2, a1, b1⟩ := kk u t T'.heap (locs ++ L) e1.symm (by rw [← e2]; exact X'.warmed.alike) hp hb k1 k2 k3 T' rfl X'
    exact ⟨t2, st t2 a1, b1⟩
  · obtain ⟨k1, k2, k3⟩ := vx_keep h0 e1 hS hAX hf hL hF
    obtain ⟨t2, a1, b1⟩ := kx E ce q u t T'.heap (locs ++ L) e1.symm (by rw [← e2]; exact X'.warmed.alike) hp hb k1 k2 k3 (by rw [e1]; exact hce) hcv hcl T' rfl X'
    exact ⟨t2, st.trans a1, b1⟩
theorem vx_callFi {S SX : Type} {post : Int32 → S → Prop} {px : SX → Prop} {B : S → State → Prop} {BX : String → SX → State → Prop} {AX : Nat → Prop} (hr : vx_Run5 p l e R s m args below meth c H locs cells slots mc ms (F0 m pc ls st0) rest (va_Qi post B A1 a) (vx_X px BX AX) free) (hS : va_S A0 H0 H locs) (hA : ∀ q, q < H.size → A1 q → A0 q) (hf : ∀ q, free q → A0 q) (hAX : ∀ q, q < H.size → AX q → A0 q)
    (kx : ∀ (E : String) (ce : Cell) (q9 : Addr) (u : SX) (t : State) (H1 : Heap) (locs1 : List Loc), t.heap = H1 → s.vm.Alike t.vm → px u → BX E u t → H.size ≤ H1.size → (∀ q : Nat, q < H.size → ¬ AX q → H1[q]? = H[q]?) → va_S A0 H0 H1 locs1 → H1[q9]? = some ce → ce.vm = .none → s.vm.findClass E = some ce.cls → vx_W p l e R s m args below meth c H1 locs1 (cells + mc) (slots + ms) Q (F0 m pc ls rest) q9)
    (kk : ∀ (r : Int32) (u : S) (t : State) (H1 : Heap) (locs1 : List Loc), t.heap = H1 → s.vm.Alike t.vm → post r u → B u t → H.size ≤ H1.size → (∀ q : Nat, q < H.size → ¬ A1 q → H1[q]? = H[q]?) → va_S A0 H0 H1 locs1 → W p l e R s m args below meth c H1 locs1 (cells + mc) (slots + ms) Q (F0 m (pc + 5) ls (.int r :: rest))) : W p l e R s m args below meth c H locs cells slots Q (F0 m pc ls st0) := by
  intro T hT X
  rcases hr T hT X with ⟨v, st₀, t, T', L, h0, X', hL, e1, e2, ⟨⟨r, u, hv, hp, hb⟩, hF⟩, st⟩ | ⟨q, st₀, t, T', L, E, ce, h0, X', hL, e1, e2, ⟨u, hp, hb, hF⟩, hce, hcv, hcl, st⟩
  · cases hv
    obtain ⟨k1, k2, k3⟩ := vx_keep h0 e1 hS hA hf hL hF
    obtain ⟨t2, a1, b1⟩ := kk r u t T'.heap (locs ++ L) e1.symm (by rw [← e2]; exact X'.warmed.alike) hp hb k1 k2 k3 T' rfl X'
    exact ⟨t2, st t2 a1, b1⟩
  · obtain ⟨k1, k2, k3⟩ := vx_keep h0 e1 hS hAX hf hL hF
    obtain ⟨t2, a1, b1⟩ := kx E ce q u t T'.heap (locs ++ L) e1.symm (by rw [← e2]; exact X'.warmed.alike) hp hb k1 k2 k3 (by rw [e1]; exact hce) hcv hcl T' rfl X'
    exact ⟨t2, st.trans a1, b1⟩
theorem vx_callFl {S SX : Type} {post : Int64 → S → Prop} {px : SX → Prop} {B : S → State → Prop} {BX : String → SX → State → Prop} {AX : Nat → Prop} (hr : vx_Run5 p l e R s m args below meth c H locs cells slots mc ms (F0 m pc ls st0) rest (va_Ql post B A1 a) (vx_X px BX AX) free) (hS : va_S A0 H0 H locs) (hA : ∀ q, q < H.size → A1 q → A0 q) (hf : ∀ q, free q → A0 q) (hAX : ∀ q, q < H.size → AX q → A0 q)
    (kx : ∀ (E : String) (ce : Cell) (q9 : Addr) (u : SX) (t : State) (H1 : Heap) (locs1 : List Loc), t.heap = H1 → s.vm.Alike t.vm → px u → BX E u t → H.size ≤ H1.size → (∀ q : Nat, q < H.size → ¬ AX q → H1[q]? = H[q]?) → va_S A0 H0 H1 locs1 → H1[q9]? = some ce → ce.vm = .none → s.vm.findClass E = some ce.cls → vx_W p l e R s m args below meth c H1 locs1 (cells + mc) (slots + ms) Q (F0 m pc ls rest) q9)
    (kk : ∀ (r : Int64) (u : S) (t : State) (H1 : Heap) (locs1 : List Loc), t.heap = H1 → s.vm.Alike t.vm → post r u → B u t → H.size ≤ H1.size → (∀ q : Nat, q < H.size → ¬ A1 q → H1[q]? = H[q]?) → va_S A0 H0 H1 locs1 → W p l e R s m args below meth c H1 locs1 (cells + mc) (slots + ms) Q (F0 m (pc + 5) ls (.long r :: rest))) : W p l e R s m args below meth c H locs cells slots Q (F0 m pc ls st0) := by
  intro T hT X
  rcases hr T hT X with ⟨v, st₀, t, T', L, h0, X', hL, e1, e2, ⟨⟨r, u, hv, hp, hb⟩, hF⟩, st⟩ | ⟨q, st₀, t, T', L, E, ce, h0, X', hL, e1, e2, ⟨u, hp, hb, hF⟩, hce, hcv, hcl, st⟩
  · cases hv
    obtain ⟨k1, k2, k3⟩ := vx_keep h0 e1 hS hA hf hL hF
    obtain ⟨t2, a1, b1⟩ := kk r u t T'.heap (locs ++ L) e1.symm (by rw [← e2]; exact X'.warmed.alike) hp hb k1 k2 k3 T' rfl X'
    exact ⟨t2, st t2 a1, b1⟩
  · obtain ⟨k1, k2, k3⟩ := vx_keep h0 e1 hS hAX hf hL hF
    obtain ⟨t2, a1, b1⟩ := kx E ce q u t T'.heap (locs ++ L) e1.symm (by rw [← e2]; exact X'.warmed.alike) hp hb k1 k2 k3 (by rw [e1]; exact hce) hcv hcl T' rfl X'
    exact ⟨t2, st.trans a1, b1⟩
theorem vx_callFf {S SX : Type} {post : UInt32 → S → Prop} {px : SX → Prop} {B : S → State → Prop} {BX : String → SX → State → Prop} {AX : Nat → Prop} (hr : vx_Run5 p l e R s m args below meth c H locs cells slots mc ms (F0 m pc ls st0) rest (va_Qf post B A1 a) (vx_X px BX AX) free) (hS : va_S A0 H0 H locs) (hA : ∀ q, q < H.size → A1 q → A0 q) (hf : ∀ q, free q → A0 q) (hAX : ∀ q, q < H.size → AX q → A0 q)
    (kx : ∀ (E : String) (ce : Cell) (q9 : Addr) (u : SX) (t : State) (H1 : Heap) (locs1 : List Loc), t.heap = H1 → s.vm.Alike t.vm → px u → BX E u t → H.size ≤ H1.size → (∀ q : Nat, q < H.size → ¬ AX q → H1[q]? = H[q]?) → va_S A0 H0 H1 locs1 → H1[q9]? = some ce → ce.vm = .none → s.vm.findClass E = some ce.cls → vx_W p l e R s m args below meth c H1 locs1 (cells + mc) (slots + ms) Q (F0 m pc ls rest) q9)
    (kk : ∀ (r : UInt32) (u : S) (t : State) (H1 : Heap) (locs1 : List Loc), t.heap = H1 → s.vm.Alike t.vm → post r u → B u t → H.size ≤ H1.size → (∀ q : Nat, q < H.size → ¬ A1 q → H1[q]? = H[q]?) → va_S A0 H0 H1 locs1 → W p l e R s m args below meth c H1 locs1 (cells + mc) (slots + ms) Q (F0 m (pc + 5) ls (.float r :: rest))) : W p l e R s m args below meth c H locs cells slots Q (F0 m pc ls st0) := by
  intro T hT X
  rcases hr T hT X with ⟨v, st₀, t, T', L, h0, X', hL, e1, e2, ⟨⟨r, u, hv, hp, hb⟩, hF⟩, st⟩ | ⟨q, st₀, t, T', L, E, ce, h0, X', hL, e1, e2, ⟨u, hp, hb, hF⟩, hce, hcv, hcl, st⟩
  · cases hv
    obtain ⟨k1, k2, k3⟩ := vx_keep h0 e1 hS hA hf hL hF
    obtain ⟨t2, a1, b1⟩ := kk r u t T'.heap (locs ++ L) e1.symm (by rw [← e2]; exact X'.warmed.alike) hp hb k1 k2 k3 T' rfl X'
    exact ⟨t2, st t2 a1, b1⟩
  · obtain ⟨k1, k2, k3⟩ := vx_keep h0 e1 hS hAX hf hL hF
    obtain ⟨t2, a1, b1⟩ := kx E ce q u t T'.heap (locs ++ L) e1.symm (by rw [← e2]; exact X'.warmed.alike) hp hb k1 k2 k3 (by rw [e1]; exact hce) hcv hcl T' rfl X'
    exact ⟨t2, st.trans a1, b1⟩
theorem vx_callFd {S SX : Type} {post : UInt64 → S → Prop} {px : SX → Prop} {B : S → State → Prop} {BX : String → SX → State → Prop} {AX : Nat → Prop} (hr : vx_Run5 p l e R s m args below meth c H locs cells slots mc ms (F0 m pc ls st0) rest (va_Qd post B A1 a) (vx_X px BX AX) free) (hS : va_S A0 H0 H locs) (hA : ∀ q, q < H.size → A1 q → A0 q) (hf : ∀ q, free q → A0 q) (hAX : ∀ q, q < H.size → AX q → A0 q)
    (kx : ∀ (E : String) (ce : Cell) (q9 : Addr) (u : SX) (t : State) (H1 : Heap) (locs1 : List Loc), t.heap = H1 → s.vm.Alike t.vm → px u → BX E u t → H.size ≤ H1.size → (∀ q : Nat, q < H.size → ¬ AX q → H1[q]? = H[q]?) → va_S A0 H0 H1 locs1 → H1[q9]? = some ce → ce.vm = .none → s.vm.findClass E = some ce.cls → vx_W p l e R s m args below meth c H1 locs1 (cells + mc) (slots + ms) Q (F0 m pc ls rest) q9)
    (kk : ∀ (r : UInt64) (u : S) (t : State) (H1 : Heap) (locs1 : List Loc), t.heap = H1 → s.vm.Alike t.vm → post r u → B u t → H.size ≤ H1.size → (∀ q : Nat, q < H.size → ¬ A1 q → H1[q]? = H[q]?) → va_S A0 H0 H1 locs1 → W p l e R s m args below meth c H1 locs1 (cells + mc) (slots + ms) Q (F0 m (pc + 5) ls (.double r :: rest))) : W p l e R s m args below meth c H locs cells slots Q (F0 m pc ls st0) := by
  intro T hT X
  rcases hr T hT X with ⟨v, st₀, t, T', L, h0, X', hL, e1, e2, ⟨⟨r, u, hv, hp, hb⟩, hF⟩, st⟩ | ⟨q, st₀, t, T', L, E, ce, h0, X', hL, e1, e2, ⟨u, hp, hb, hF⟩, hce, hcv, hcl, st⟩
  · cases hv
    obtain ⟨k1, k2, k3⟩ := vx_keep h0 e1 hS hA hf hL hF
    obtain ⟨t2, a1, b1⟩ := kk r u t T'.heap (locs ++ L) e1.symm (by rw [← e2]; exact X'.warmed.alike) hp hb k1 k2 k3 T' rfl X'
    exact ⟨t2, st t2 a1, b1⟩
  · obtain ⟨k1, k2, k3⟩ := vx_keep h0 e1 hS hAX hf hL hF
    obtain ⟨t2, a1, b1⟩ := kx E ce q u t T'.heap (locs ++ L) e1.symm (by rw [← e2]; exact X'.warmed.alike) hp hb k1 k2 k3 (by rw [e1]; exact hce) hcv hcl T' rfl X'
    exact ⟨t2, st.trans a1, b1⟩
end
/-! ===== END ===== -/
/-! ===== BEGIN by an interface, a method with a table of its own that may throw (follows va_callIFW, va_runFW) ===== -/
section
variable {p : Program} {l : Launch} {e : Env} {R : Room} {s : State} {m : MethodId} {args : Array Value} {below : List Frame} {meth : Method} {c : Code} {H : Heap} {locs : List Loc} {cells slots : Nat}
theorem vx_callIFW {T : State} (X : Stand p l e R s m args below meth c T locs cells slots) (hexec : p.tables.exec = Jvm.exec) {own C : String} {index count : Nat} {x y : MethodName} {bytes : ByteArray} {maxL : Nat} {ret : Option FieldType} {hh : List (Nat × Nat × Nat × Nat)}
    (hown : s.vm.findClass own = some m.cls) (hlink : (Cond.methodLink own index x).before args s = true) (hdecl : (Cond.declares x).before args s = true) (hface : (Cond.interfaceMethod x.cls x.cls x.name x.desc).before args s = true)
    (hsel : (Cond.selects C x y).before args s = true) (hinst : (Cond.instanceMethod y).before args s = true) (hpub : (Cond.publicMethod y).before args s = true) (hunh : (Cond.unhidden C x.name x.desc).before args s = true)
    (hcast : (Cond.castable C x.cls).before args s = true) (hcode : (Cond.codeWith y bytes maxL ret hh).before args s = true) (hx : x.cls ≠ "java/lang/invoke/MethodHandle" ∧ x.cls ≠ "java/lang/invoke/VarHandle")
    {W : Nat} {Pre : Pt → Array Value → Prop} {Post : Pt → Array Value → Option Value → Pt → Prop} {PostX : Pt → Array Value → Addr → Pt → Prop} (hK : vx_Back l R p e below s args y 5 W Pre Post PostX)
    {b : Addr} {cellB : Cell} {kB : Class} (hcell : T.heap[b]? = some cellB) (hobj : cellB.vm.isStatics = false) (hcls : s.vm.findClass C = some cellB.cls) (hkB : s.vm.classes[cellB.cls]? = some kB)
    {g : JFrame} (hg : g.method = m) (hsize : g.locals.size = c.maxLocals) {argsL rest : List Value} (hlen : ∀ sig, parseMethodDescriptor x.desc = some sig → argsL.length = sig.parameters.length)
    (hstack : g.stack = argsL.reverse ++ .ref b :: rest) (hW : 2 * g.monitorRoom + (rest.map fun v => v.category).sum ≤ W) (hdg : decode c.code g.pc = .ok (.invokeinterface index count, 5))
    (hpre : ∀ vm₁, s.WarmedH vm₁ → Pre ⟨T.setVm vm₁, locs, cells, slots⟩ (Value.ref b :: argsL).toArray) :
    (∃ (v : Option Value) (vm₁ : Vm) (B : Pt), s.WarmedH vm₁ ∧ Stand p l e R s m args below meth c B.U B.locs B.cells B.slots ∧ Post ⟨T.setVm vm₁, locs, cells, slots⟩ (Value.ref b :: argsL).toArray v B ∧
      ∀ target, Steps p.tables e below (B.U.setTop { g with pc := g.pc + 5, stack := v.toList ++ rest }) target → Steps p.tables e below (T.setTop g) target) ∨
    (∃ (q : Addr) (vm₁ : Vm) (B : Pt), s.WarmedH vm₁ ∧ Stand p l e R s m args below meth c B.U B.locs B.cells B.slots ∧ PostX ⟨T.setVm vm₁, locs, cells, slots⟩ (Value.ref b :: argsL).toArray q B ∧
      Steps p.tables e below (T.setTop g) ((B.U.setTop { g with stack := rest }).pushFrame (.throwing q))) := by
  obtain ⟨r0, r, hn, hrm, hstR, hsigR⟩ := Cond.declares_spec hdecl
  obtain ⟨cL, kL, r1, hcL, hkL, hiL, hfoundL, hn1⟩ := Cond.interfaceMethod_spec hface
  cases hn.symm.trans hn1
  have hr0cls : r0.cls = cL := Option.some.inj ((findClass_of_methodNamed hn).symm.trans hcL)
  obtain ⟨hnameR, hdescR⟩ := name_of_methodNamed hn hrm
  obtain ⟨mk, methM, hnamed, hmethM, -, habM⟩ := Cond.instanceMethod_spec hinst
  obtain ⟨c2, r2, m2, q1, q2, q3, q4, -⟩ := Cond.selects_spec hsel
  cases hcls.symm.trans q1
  cases hfoundL.symm.trans q2
  cases hnamed.symm.trans q3
  have hselP : selectMethod e.platform s.vm cellB.cls r0 = .method mk := by rw [Launch.admits_selectMethod X.admits]; exact q4
  have hpubM : hasFlag methM.accessFlags Acc.public_ = true := Cond.publicMethod_spec hnamed hmethM hpub
  have hway : ((cellB.cls :: s.vm.superclasses cellB.cls).any fun k => (declaredIn s.vm r.name r.desc k).any fun (_, z) => z.isPrivate || z.isStatic) = false := by
    rw [hnameR, hdescR]; exact Cond.unhidden_spec hcls hunh
  obtain ⟨c3, t3, w1, w2, w3⟩ := Cond.castable_spec hcast
  cases hcls.symm.trans w1
  cases hcL.symm.trans w2
  obtain ⟨vm₁, X₁, hstep₁⟩ := X.invokeinterface hexec hown hlink hn hrm hstR (by rw [hr0cls]; exact hkL) hiL hx (a := b) (cell := cellB) (kcell := kB) hcell
    (fun z h => by rw [h] at hobj; cases hobj) hkB (by rw [hr0cls]; exact w3) hselP hmethM hway hpubM habM (g := g) hg (argsL := argsL) (rest := rest) (hlen _ hsigR) hstack hdg
  rcases hK m meth c ⟨T.setVm vm₁, locs, cells, slots⟩ { g with stack := rest } (.invokeinterface index count) mk (Value.ref b :: argsL).toArray X₁ hg hsize hdg hW (X₁.named hnamed) (hpre vm₁ X₁.warmed) with ⟨v, B, X', hpost, hsteps⟩ | ⟨q, B, X', hpost, hsteps⟩
  · exact Or.inl ⟨v, vm₁, B, X₁.warmed, X', hpost, fun target h => hstep₁ _ fun acts => by rw [doInvoke_state]; exact hsteps.trans h⟩
  · exact Or.inr ⟨q, vm₁, B, X₁.warmed, X', hpost, hstep₁ _ fun acts => by rw [doInvoke_state]; exact hsteps⟩
theorem vx_runFW {x y : MethodName} {bytes cc : ByteArray} {maxL nL mc ms n index count : Nat} {ret : Option FieldType} {hh : List (Nat × Nat × Nat × Nat)} {ws : List Cond} {rm : Room} {Pc : Array Value → State → Prop} {Qc : Array Value → State → Outcome → State → Prop} {XC : String → State → State → Prop} {free : Addr → Prop} {Ts : List Cond} {own C : String} {cC : ClassId} {b : Addr} {As rest : List Value} {g : JFrame}
    (hat : ClassAt s C cC) (S : CallFix p m c cc nL s args Ts own) (hM : vx_Met l y ws rm Pc Qc XC mc ms free) (cw : va_CIW R s args own C index x y bytes maxL ret hh ws rm mc ms n) (hp : PreV s H C b Pc As)
    (hg : g.method = m) (hn : As.length = n) (hsize : g.locals.size = nL) (hstack : g.stack = As.reverse ++ .ref b :: rest) (hW : 2 * g.monitorRoom + (rest.map fun v => v.category).sum ≤ 8) (hdg : decode cc g.pc = .ok (.invokeinterface index count, 5)) (hf : cells + mc ≤ R.cells ∧ slots + ms ≤ R.slots) :
    vx_Run5 p l e R s m args below meth c H locs cells slots mc ms g rest (Qc (Value.ref b :: As).toArray) XC free := by
  obtain ⟨hrc, hrs, hfr, hlo, hws, hcw⟩ := cw.back
  have hini := cw.init
  have hK : vx_Back l R p e below s args y 5 8 (PreOf R mc ms Pc) (PostOf Qc mc ms free) (vx_Post XC mc ms free) := vx_backW (hh := hh) (bytes := bytes) (maxL := maxL) (ret := ret) hM hp.1 hrc hrs hfr hlo hws hcw (fun a' U hW => word_at hW (Or.inl (by first | rfl | simp [Cond.onTables, Cond.keeps, Cond.steady])) hini)
  obtain ⟨hx, hb, hml, ho, -⟩ := S
  obtain ⟨-, ⟨cellB, hcB, hoB, hclB⟩, hPc⟩ := hp
  obtain ⟨hfc, kB, hkB, -⟩ := hat
  cases hfc.symm.trans hclB
  intro T hT X
  rcases vx_callIFW X hx (C := C) (hh := hh) (bytes := bytes) (maxL := maxL) (ret := ret) ho cw.link cw.decl cw.face cw.sel cw.inst cw.pub cw.unh cw.cast cw.code cw.notMH hK (by rw [hT]; exact hcB) hoB hclB hkB hg (hsize.trans hml.symm) (argsL := As) (rest := rest) (fun sig h => hn.trans (cw.len sig h)) hstack hW (by rw [hb]; exact hdg)
    (fun vm₁ hW₁ => ⟨hf.1, hf.2, hPc (T.setVm vm₁) hT hW₁⟩) with ⟨v, vm₁, ⟨U', l2, c2, s2⟩, hW₁, X', ⟨g', mk, t, L, e1, e2, hq, h1, hL, h2, h3⟩, st⟩ | ⟨q, vm₁, ⟨U', l2, c2, s2⟩, hW₁, X', ⟨g', mk, t, L, E, ce, e1, e2, hq, hce, hcv, hcl, h1, hL, h2, h3⟩, st⟩
  · dsimp only [Pt.U, Pt.locs, Pt.cells, Pt.slots] at X' e1 e2 h1 h2 h3 st
    subst h1; subst h2; subst h3
    exact Or.inl ⟨v, (T.setVm vm₁).calling g' mk (Value.ref b :: As).toArray, t, U', L, hT, X', hL, e1, e2, hq, st⟩
  · dsimp only [Pt.U, Pt.locs, Pt.cells, Pt.slots] at X' e1 e2 h1 h2 h3 st hcl
    subst h1; subst h2; subst h3
    exact Or.inr ⟨q, (T.setVm vm₁).calling g' mk (Value.ref b :: As).toArray, t, U', L, E, ce, hT, X', hL, e1, e2, hq, hce, hcv, vx_cls hW₁ hcl, st⟩
end
/-! ===== END ===== -/
/-! ===== BEGIN .. of methods that hand back an object of the pool ===== -/
section
variable {p : Program} {l : Launch} {e : Env} {R : Room} {s : State} {m : MethodId} {args : Array Value} {below : List Frame} {meth : Method} {c : Code} {H : Heap} {locs : List Loc} {cells slots : Nat} {Q : State → Prop}
variable {mc ms : Nat} {free : Addr → Prop} {A0 A1 : Nat → Prop} {H0 : Heap} {a : Array Value} {pc : Nat} {ls : Array Slot} {st0 rest : List Value}
theorem vx_callq {S SX : Type} {post : Option Nat → S → Prop} {px : SX → Prop} {B : S → State → Prop} {BX : String → SX → State → Prop} {AX : Nat → Prop} (hr : vx_Run p l e R s m args below meth c H locs cells slots mc ms (F0 m pc ls st0) rest (va_Qq post B A1 a) (vx_X px BX AX) free) (hS : va_S A0 H0 H locs) (hA : ∀ q, q < H.size → A1 q → A0 q) (hf : ∀ q, free q → A0 q) (hAX : ∀ q, q < H.size → AX q → A0 q)
    (kx : ∀ (E : String) (ce : Cell) (q9 : Addr) (u : SX) (t : State) (H1 : Heap) (locs1 : List Loc), t.heap = H1 → s.vm.Alike t.vm → px u → BX E u t → H.size ≤ H1.size → (∀ q : Nat, q < H.size → ¬ AX q → H1[q]? = H[q]?) → va_S A0 H0 H1 locs1 → H1[q9]? = some ce → ce.vm = .none → s.vm.findClass E = some ce.cls → vx_W p l e R s m args below meth c H1 locs1 (cells + mc) (slots + ms) Q (F0 m pc ls rest) q9)
    (kk : ∀ (r : Option Nat) (u : S) (t : State) (H1 : Heap) (locs1 : List Loc), t.heap = H1 → s.vm.Alike t.vm → post r u → B u t → H.size ≤ H1.size → (∀ q : Nat, q < H.size → ¬ A1 q → H1[q]? = H[q]?) → va_S A0 H0 H1 locs1 → W p l e R s m args below meth c H1 locs1 (cells + mc) (slots + ms) Q (F0 m (pc + 3) ls (va_rf r :: rest))) : W p l e R s m args below meth c H locs cells slots Q (F0 m pc ls st0) := by
  intro T hT X
  rcases hr T hT X with ⟨v, st₀, t, T', L, h0, X', hL, e1, e2, ⟨⟨r, u, hv, hp, hb⟩, hF⟩, st⟩ | ⟨q, st₀, t, T', L, E, ce, h0, X', hL, e1, e2, ⟨u, hp, hb, hF⟩, hce, hcv, hcl, st⟩
  · cases hv
    obtain ⟨k1, k2, k3⟩ := vx_keep h0 e1 hS hA hf hL hF
    obtain ⟨t2, a1, b1⟩ := kk r u t T'.heap (locs ++ L) e1.symm (by rw [← e2]; exact X'.warmed.alike) hp hb k1 k2 k3 T' rfl X'
    exact ⟨t2, st t2 a1, b1⟩
  · obtain ⟨k1, k2, k3⟩ := vx_keep h0 e1 hS hAX hf hL hF
    obtain ⟨t2, a1, b1⟩ := kx E ce q u t T'.heap (locs ++ L) e1.symm (by rw [← e2]; exact X'.warmed.alike) hp hb k1 k2 k3 (by rw [e1]; exact hce) hcv hcl T' rfl X'
    exact ⟨t2, st.trans a1, b1⟩
end
/-! ===== END ===== -/
/-! ===== BEGIN .. a constant ===== -/
section
variable {p : Program} {l : Launch} {e : Env} {R : Room} {s : State} {m : MethodId} {args : Array Value} {below : List Frame} {meth : Method} {c : Code} {H : Heap} {locs : List Loc} {cells slots : Nat} {Q : State → Prop}
variable {mc ms : Nat} {free : Addr → Prop} {A0 A1 : Nat → Prop} {H0 : Heap} {a : Array Value} {pc : Nat} {ls : Array Slot} {st0 rest : List Value}
theorem vx_calle {ad : Nat → Nat} {S SX : Type} {post : Option Nat → S → Prop} {px : SX → Prop} {B : S → State → Prop} {BX : String → SX → State → Prop} {AX : Nat → Prop} (hr : vx_Run p l e R s m args below meth c H locs cells slots mc ms (F0 m pc ls st0) rest (va_Qe ad post B A1 a) (vx_X px BX AX) free) (hS : va_S A0 H0 H locs) (hA : ∀ q, q < H.size → A1 q → A0 q) (hf : ∀ q, free q → A0 q) (hAX : ∀ q, q < H.size → AX q → A0 q)
    (kx : ∀ (E : String) (ce : Cell) (q9 : Addr) (u : SX) (t : State) (H1 : Heap) (locs1 : List Loc), t.heap = H1 → s.vm.Alike t.vm → px u → BX E u t → H.size ≤ H1.size → (∀ q : Nat, q < H.size → ¬ AX q → H1[q]? = H[q]?) → va_S A0 H0 H1 locs1 → H1[q9]? = some ce → ce.vm = .none → s.vm.findClass E = some ce.cls → vx_W p l e R s m args below meth c H1 locs1 (cells + mc) (slots + ms) Q (F0 m pc ls rest) q9)
    (kk : ∀ (r : Option Nat) (u : S) (t : State) (H1 : Heap) (locs1 : List Loc), t.heap = H1 → s.vm.Alike t.vm → post r u → B u t → H.size ≤ H1.size → (∀ q : Nat, q < H.size → ¬ A1 q → H1[q]? = H[q]?) → va_S A0 H0 H1 locs1 → W p l e R s m args below meth c H1 locs1 (cells + mc) (slots + ms) Q (F0 m (pc + 3) ls (va_re ad r :: rest))) : W p l e R s m args below meth c H locs cells slots Q (F0 m pc ls st0) := by
  intro T hT X
  rcases hr T hT X with ⟨v, st₀, t, T', L, h0, X', hL, e1, e2, ⟨⟨r, u, hv, hp, hb⟩, hF⟩, st⟩ | ⟨q, st₀, t, T', L, E, ce, h0, X', hL, e1, e2, ⟨u, hp, hb, hF⟩, hce, hcv, hcl, st⟩
  · cases hv
    obtain ⟨k1, k2, k3⟩ := vx_keep h0 e1 hS hA hf hL hF
    obtain ⟨t2, a1, b1⟩ := kk r u t T'.heap (locs ++ L) e1.symm (by rw [← e2]; exact X'.warmed.alike) hp hb k1 k2 k3 T' rfl X'
    exact ⟨t2, st t2 a1, b1⟩
  · obtain ⟨k1, k2, k3⟩ := vx_keep h0 e1 hS hAX hf hL hF
    obtain ⟨t2, a1, b1⟩ := kx E ce q u t T'.heap (locs ++ L) e1.symm (by rw [← e2]; exact X'.warmed.alike) hp hb k1 k2 k3 (by rw [e1]; exact hce) hcv hcl T' rfl X'
    exact ⟨t2, st.trans a1, b1⟩
end
/-! ===== END ===== -/
/-! ===== BEGIN .. by an interface, an object ===== -/
section
variable {p : Program} {l : Launch} {e : Env} {R : Room} {s : State} {m : MethodId} {args : Array Value} {below : List Frame} {meth : Method} {c : Code} {H : Heap} {locs : List Loc} {cells slots : Nat} {Q : State → Prop}
variable {mc ms : Nat} {free : Addr → Prop} {A0 A1 : Nat → Prop} {H0 : Heap} {a : Array Value} {pc : Nat} {ls : Array Slot} {st0 rest : List Value}
theorem vx_callFq {S SX : Type} {post : Option Nat → S → Prop} {px : SX → Prop} {B : S → State → Prop} {BX : String → SX → State → Prop} {AX : Nat → Prop} (hr : vx_Run5 p l e R s m args below meth c H locs cells slots mc ms (F0 m pc ls st0) rest (va_Qq post B A1 a) (vx_X px BX AX) free) (hS : va_S A0 H0 H locs) (hA : ∀ q, q < H.size → A1 q → A0 q) (hf : ∀ q, free q → A0 q) (hAX : ∀ q, q < H.size → AX q → A0 q)
    (kx : ∀ (E : String) (ce : Cell) (q9 : Addr) (u : SX) (t : State) (H1 : Heap) (locs1 : List Loc), t.heap = H1 → s.vm.Alike t.vm → px u → BX E u t → H.size ≤ H1.size → (∀ q : Nat, q < H.size → ¬ AX q → H1[q]? = H[q]?) → va_S A0 H0 H1 locs1 → H1[q9]? = some ce → ce.vm = .none → s.vm.findClass E = some ce.cls → vx_W p l e R s m args below meth c H1 locs1 (cells + mc) (slots + ms) Q (F0 m pc ls rest) q9)
    (kk : ∀ (r : Option Nat) (u : S) (t : State) (H1 : Heap) (locs1 : List Loc), t.heap = H1 → s.vm.Alike t.vm → post r u → B u t → H.size ≤ H1.size → (∀ q : Nat, q < H.size → ¬ A1 q → H1[q]? = H[q]?) → va_S A0 H0 H1 locs1 → W p l e R s m args below meth c H1 locs1 (cells + mc) (slots + ms) Q (F0 m (pc + 5) ls (va_rf r :: rest))) : W p l e R s m args below meth c H locs cells slots Q (F0 m pc ls st0) := by
  intro T hT X
  rcases hr T hT X with ⟨v, st₀, t, T', L, h0, X', hL, e1, e2, ⟨⟨r, u, hv, hp, hb⟩, hF⟩, st⟩ | ⟨q, st₀, t, T', L, E, ce, h0, X', hL, e1, e2, ⟨u, hp, hb, hF⟩, hce, hcv, hcl, st⟩
  · cases hv
    obtain ⟨k1, k2, k3⟩ := vx_keep h0 e1 hS hA hf hL hF
    obtain ⟨t2, a1, b1⟩ := kk r u t T'.heap (locs ++ L) e1.symm (by rw [← e2]; exact X'.warmed.alike) hp hb k1 k2 k3 T' rfl X'
    exact ⟨t2, st t2 a1, b1⟩
  · obtain ⟨k1, k2, k3⟩ := vx_keep h0 e1 hS hAX hf hL hF
    obtain ⟨t2, a1, b1⟩ := kx E ce q u t T'.heap (locs ++ L) e1.symm (by rw [← e2]; exact X'.warmed.alike) hp hb k1 k2 k3 (by rw [e1]; exact hce) hcv hcl T' rfl X'
    exact ⟨t2, st.trans a1, b1⟩
end
/-! ===== END ===== -/
/-! ===== BEGIN .. by an interface, a constant ===== -/
section
variable {p : Program} {l : Launch} {e : Env} {R : Room} {s : State} {m : MethodId} {args : Array Value} {below : List Frame} {meth : Method} {c : Code} {H : Heap} {locs : List Loc} {cells slots : Nat} {Q : State → Prop}
variable {mc ms : Nat} {free : Addr → Prop} {A0 A1 : Nat → Prop} {H0 : Heap} {a : Array Value} {pc : Nat} {ls : Array Slot} {st0 rest : List Value}
theorem vx_callFe {ad : Nat → Nat} {S SX : Type} {post : Option Nat → S → Prop} {px : SX → Prop} {B : S → State → Prop} {BX : String → SX → State → Prop} {AX : Nat → Prop} (hr : vx_Run5 p l e R s m args below meth c H locs cells slots mc ms (F0 m pc ls st0) rest (va_Qe ad post B A1 a) (vx_X px BX AX) free) (hS : va_S A0 H0 H locs) (hA : ∀ q, q < H.size → A1 q → A0 q) (hf : ∀ q, free q → A0 q) (hAX : ∀ q, q < H.size → AX q → A0 q)
    (kx : ∀ (E : String) (ce : Cell) (q9 : Addr) (u : SX) (t : State) (H1 : Heap) (locs1 : List Loc), t.heap = H1 → s.vm.Alike t.vm → px u → BX E u t → H.size ≤ H1.size → (∀ q : Nat, q < H.size → ¬ AX q → H1[q]? = H[q]?) → va_S A0 H0 H1 locs1 → H1[q9]? = some ce → ce.vm = .none → s.vm.findClass E = some ce.cls → vx_W p l e R s m args below meth c H1 locs1 (cells + mc) (slots + ms) Q (F0 m pc ls rest) q9)
    (kk : ∀ (r : Option Nat) (u : S) (t : State) (H1 : Heap) (locs1 : List Loc), t.heap = H1 → s.vm.Alike t.vm → post r u → B u t → H.size ≤ H1.size → (∀ q : Nat, q < H.size → ¬ A1 q → H1[q]? = H[q]?) → va_S A0 H0 H1 locs1 → W p l e R s m args below meth c H1 locs1 (cells + mc) (slots + ms) Q (F0 m (pc + 5) ls (va_re ad r :: rest))) : W p l e R s m args below meth c H locs cells slots Q (F0 m pc ls st0) := by
  intro T hT X
  rcases hr T hT X with ⟨v, st₀, t, T', L, h0, X', hL, e1, e2, ⟨⟨r, u, hv, hp, hb⟩, hF⟩, st⟩ | ⟨q, st₀, t, T', L, E, ce, h0, X', hL, e1, e2, ⟨u, hp, hb, hF⟩, hce, hcv, hcl, st⟩
  · cases hv
    obtain ⟨k1, k2, k3⟩ := vx_keep h0 e1 hS hA hf hL hF
    obtain ⟨t2, a1, b1⟩ := kk r u t T'.heap (locs ++ L) e1.symm (by rw [← e2]; exact X'.warmed.alike) hp hb k1 k2 k3 T' rfl X'
    exact ⟨t2, st t2 a1, b1⟩
  · obtain ⟨k1, k2, k3⟩ := vx_keep h0 e1 hS hAX hf hL hF
    obtain ⟨t2, a1, b1⟩ := kx E ce q u t T'.heap (locs ++ L) e1.symm (by rw [← e2]; exact X'.warmed.alike) hp hb k1 k2 k3 (by rw [e1]; exact hce) hcv hcl T' rfl X'
    exact ⟨t2, st.trans a1, b1⟩
end
/-! ===== END ===== -/
/-! ===== BEGIN what the machine throws by itself: null at a field, at athrow ===== -/
section VXM2
variable {p : Program} {l : Launch} {e : Env} {R : Room} {s : State} {m : MethodId} {args : Array Value} {below : List Frame} {meth : Method} {c : Code} {H : Heap} {locs : List Loc} {cells slots : Nat}
variable {Q : State → Prop} {cc : ByteArray} {pc : Nat} {ls : Array Slot} {rest : List Value}
theorem vx_getfN {D cl tys} {own ref C : String} {T : u_T} {N ci index : Nat} {Ts : List Cond} (hexec : p.tables.exec = Jvm.exec) (hb : c.code = cc) (hts : ∀ w ∈ Ts, w.before args s = true) (hin : ∀ w ∈ u_ws C T N, w ∈ Ts) (hown : s.vm.findClass own = some m.cls) (hK : va_K D cl tys s) (hc : cl[ci]? = some (C, T, N)) (k : Nat) (hk : k < N) (hlink : (Cond.fieldLink own index ref (T k).2.1 (T k).2.2.1).before args s = true) (hsame : ∀ x, s.fieldFound? (T k).1 (T k).2.1 (T k).2.2.1 = some x → s.fieldFound? ref (T k).2.1 (T k).2.2.1 = some x) (hdg : decode cc pc = .ok (.getfield index, 3)) (kk : vx_NoteN p l e R s m args below meth c H locs cells slots Q (F0 m pc ls rest)) : W p l e R s m args below meth c H locs cells slots Q (F0 m pc ls (.null :: rest)) := by
  obtain ⟨hS, hfc, kC, hkC, -⟩ := hK.1 ci _ hc
  obtain ⟨cf, kf, fi, f, hi, -⟩ := hS k hk
  intro U hU X
  obtain ⟨vm', X1, st1⟩ := X.getfieldNull hexec hown hlink (hsame _ hi) (u_facts hfc hkC (u_lays hts hin hk) hi).1 (g := F0 m pc ls (.null :: rest)) rfl (rest := rest) rfl (by rw [hb]; exact hdg)
  obtain ⟨t, st, q⟩ := kk (U.setVm vm') hU X1
  exact ⟨t, st1 t st, q⟩
theorem vx_getfNN {D cl tys} {own ref C host : String} {T : u_T} {N ci index : Nat} {Ts : List Cond} (hexec : p.tables.exec = Jvm.exec) (hb : c.code = cc) (hts : ∀ w ∈ Ts, w.before args s = true) (hin : ∀ w ∈ u_ws C T N, w ∈ Ts) (hown : s.vm.findClass own = some m.cls) (hK : va_K D cl tys s) (hc : cl[ci]? = some (C, T, N)) (k : Nat) (hk : k < N) (hlink : (Cond.fieldLinkNest own index ref (T k).2.1 (T k).2.2.1 host).before args s = true) (hsame : ∀ x, s.fieldFound? (T k).1 (T k).2.1 (T k).2.2.1 = some x → s.fieldFound? ref (T k).2.1 (T k).2.2.1 = some x) (hdg : decode cc pc = .ok (.getfield index, 3)) (kk : vx_NoteN p l e R s m args below meth c H locs cells slots Q (F0 m pc ls rest)) : W p l e R s m args below meth c H locs cells slots Q (F0 m pc ls (.null :: rest)) := by
  obtain ⟨hS, hfc, kC, hkC, -⟩ := hK.1 ci _ hc
  obtain ⟨cf, kf, fi, f, hi, -⟩ := hS k hk
  intro U hU X
  obtain ⟨vm', X1, st1⟩ := X.getfieldNullNest hexec hown hlink (hsame _ hi) (u_facts hfc hkC (u_lays hts hin hk) hi).1 (g := F0 m pc ls (.null :: rest)) rfl (rest := rest) rfl (by rw [hb]; exact hdg)
  obtain ⟨t, st, q⟩ := kk (U.setVm vm') hU X1
  exact ⟨t, st1 t st, q⟩
theorem vx_putfN {D cl tys} {own ref C : String} {T : u_T} {N ci index : Nat} {Ts : List Cond} (hexec : p.tables.exec = Jvm.exec) (hb : c.code = cc) (hts : ∀ w ∈ Ts, w.before args s = true) (hin : ∀ w ∈ u_ws C T N, w ∈ Ts) (hown : s.vm.findClass own = some m.cls) (hK : va_K D cl tys s) (hc : cl[ci]? = some (C, T, N)) (k : Nat) (hk : k < N) (hlink : (Cond.fieldLink own index ref (T k).2.1 (T k).2.2.1).before args s = true) (hsame : ∀ x, s.fieldFound? (T k).1 (T k).2.1 (T k).2.2.1 = some x → s.fieldFound? ref (T k).2.1 (T k).2.2.1 = some x) (hfin : (T k).2.2.2 = false) {v : Value} (hdg : decode cc pc = .ok (.putfield index, 3)) (kk : vx_NoteN p l e R s m args below meth c H locs cells slots Q (F0 m pc ls rest)) : W p l e R s m args below meth c H locs cells slots Q (F0 m pc ls (v :: .null :: rest)) := by
  obtain ⟨hS, hfc, kC, hkC, -⟩ := hK.1 ci _ hc
  obtain ⟨cf, kf, fi, f, hi, -⟩ := hS k hk
  have hlay := hts _ (hin _ (u_in_lay hk))
  unfold u_lay at hlay
  rw [if_neg (by rw [hfin]; decide)] at hlay
  obtain ⟨c9, k9, cf9, kf9, fi9, f9, -, -, hi9, hst9, hnf9, -⟩ := Cond.lays_spec hlay
  cases hi.symm.trans hi9
  intro U hU X
  obtain ⟨vm', X1, st1⟩ := X.putfieldNull hexec hown hlink (hsame _ hi) hst9 hnf9 (g := F0 m pc ls (v :: .null :: rest)) rfl (v := v) (rest := rest) rfl (by rw [hb]; exact hdg)
  obtain ⟨t, st, q⟩ := kk (U.setVm vm') hU X1
  exact ⟨t, st1 t st, q⟩
theorem vx_putfNN {D cl tys} {own ref C host : String} {T : u_T} {N ci index : Nat} {Ts : List Cond} (hexec : p.tables.exec = Jvm.exec) (hb : c.code = cc) (hts : ∀ w ∈ Ts, w.before args s = true) (hin : ∀ w ∈ u_ws C T N, w ∈ Ts) (hown : s.vm.findClass own = some m.cls) (hK : va_K D cl tys s) (hc : cl[ci]? = some (C, T, N)) (k : Nat) (hk : k < N) (hlink : (Cond.fieldLinkNest own index ref (T k).2.1 (T k).2.2.1 host).before args s = true) (hsame : ∀ x, s.fieldFound? (T k).1 (T k).2.1 (T k).2.2.1 = some x → s.fieldFound? ref (T k).2.1 (T k).2.2.1 = some x) (hfin : (T k).2.2.2 = false) {v : Value} (hdg : decode cc pc = .ok (.putfield index, 3)) (kk : vx_NoteN p l e R s m args below meth c H locs cells slots Q (F0 m pc ls rest)) : W p l e R s m args below meth c H locs cells slots Q (F0 m pc ls (v :: .null :: rest)) := by
  obtain ⟨hS, hfc, kC, hkC, -⟩ := hK.1 ci _ hc
  obtain ⟨cf, kf, fi, f, hi, -⟩ := hS k hk
  have hlay := hts _ (hin _ (u_in_lay hk))
  unfold u_lay at hlay
  rw [if_neg (by rw [hfin]; decide)] at hlay
  obtain ⟨c9, k9, cf9, kf9, fi9, f9, -, -, hi9, hst9, hnf9, -⟩ := Cond.lays_spec hlay
  cases hi.symm.trans hi9
  intro U hU X
  obtain ⟨vm', X1, st1⟩ := X.putfieldNullNest hexec hown hlink (hsame _ hi) hst9 hnf9 (g := F0 m pc ls (v :: .null :: rest)) rfl (v := v) (rest := rest) rfl (by rw [hb]; exact hdg)
  obtain ⟨t, st, q⟩ := kk (U.setVm vm') hU X1
  exact ⟨t, st1 t st, q⟩
theorem vx_athrowN (hexec : p.tables.exec = Jvm.exec) (hb : c.code = cc) (hdg : decode cc pc = .ok (.athrow, 1)) (k : vx_NoteN p l e R s m args below meth c H locs cells slots Q (F0 m pc ls rest)) : W p l e R s m args below meth c H locs cells slots Q (F0 m pc ls (.null :: rest)) := by
  intro T hT X
  obtain ⟨t, st, q⟩ := k T hT X
  exact ⟨t, X.athrowNull hexec (g := F0 m pc ls (.null :: rest)) rfl (rest := rest) rfl (by rw [hb]; exact hdg) t st, q⟩
end VXM2
/-! ===== END ===== -/
end
section
/-! The program as data, written by wip/whole/gen_tables.py: each row an instruction, the place behind it, and what it is linked to (places in lw_tbl). -/
abbrev z_Row : Type := Nat × Instr × Nat × List Nat
-- ClockParliament$Numbers.<init>(I)V
set_option maxRecDepth 20000 in
noncomputable def z_r0_0 : List (List z_Row) := [[(0, .aload_n 0, 1, []), (1, .invokespecial 3, 4, [7, 0, 0, 1063]), (4, .aload_n 0, 5, []), (5, .iconst 0, 6, []), (6, .putfield 9, 9, [0, 4, 1, 1068]), (9, .aload_n 0, 10, []), (10, .iload_n 1, 11, []), (11, .iconst 0, 12, []), (12, .invokestatic 15, 15, [1, 319, 2, 1064]), (15, .newarray .int, 17, [0, 1074])],
  [(17, .putfield 21, 20, [0, 4, 0, 1067]), (20, .return_, 21, [])]]
noncomputable def z_r0 : List (List (List z_Row)) := [z_r0_0]
-- ClockParliament$Numbers.count()I
set_option maxRecDepth 20000 in
noncomputable def z_r1_0 : List (List z_Row) := [[(0, .aload_n 0, 1, []), (1, .getfield 9, 4, [0, 4, 1, 1068]), (4, .ireturn, 5, [])]]
noncomputable def z_r1 : List (List (List z_Row)) := [z_r1_0]
-- ClockParliament$Numbers.has(I)Z
set_option maxRecDepth 20000 in
noncomputable def z_r2_0 : List (List z_Row) := [[(0, .iload_n 1, 1, []), (1, .ifCond .lt 15, 4, [16]), (4, .iload_n 1, 5, []), (5, .aload_n 0, 6, []), (6, .getfield 9, 9, [0, 4, 1, 1068]), (9, .if_icmp .ge 7, 12, [16]), (12, .iconst 1, 13, []), (13, .goto 4, 16, [17])],
  [(16, .iconst 0, 17, []), (17, .ireturn, 18, [])]]
noncomputable def z_r2 : List (List (List z_Row)) := [z_r2_0]
-- ClockParliament$Numbers.at(I)I
set_option maxRecDepth 20000 in
noncomputable def z_r3_0 : List (List z_Row) := [[(0, .aload_n 0, 1, []), (1, .iload_n 1, 2, []), (2, .invokevirtual 25, 5, [0, 2, 1, 2112]), (5, .ifCond .eq 12, 8, [17]), (8, .aload_n 0, 9, []), (9, .getfield 21, 12, [0, 4, 0, 1067]), (12, .iload_n 1, 13, []), (13, .iaload, 14, []), (14, .goto 4, 17, [18])],
  [(17, .iconst 0, 18, []), (18, .ireturn, 19, [])]]
noncomputable def z_r3 : List (List (List z_Row)) := [z_r3_0]
-- ClockParliament$Numbers.put(II)V
set_option maxRecDepth 20000 in
noncomputable def z_r4_0 : List (List z_Row) := [[(0, .aload_n 0, 1, []), (1, .iload_n 1, 2, []), (2, .invokevirtual 25, 5, [0, 2, 1, 2112]), (5, .ifCond .eq 10, 8, [15]), (8, .aload_n 0, 9, []), (9, .getfield 21, 12, [0, 4, 0, 1067]), (12, .iload_n 1, 13, []), (13, .iload_n 2, 14, []), (14, .iastore, 15, []), (15, .return_, 16, [])]]
noncomputable def z_r4 : List (List (List z_Row)) := [z_r4_0]
-- ClockParliament$Numbers.addTo(II)V
set_option maxRecDepth 20000 in
noncomputable def z_r5_0 : List (List z_Row) := [[(0, .aload_n 0, 1, []), (1, .iload_n 1, 2, []), (2, .aload_n 0, 3, []), (3, .iload_n 1, 4, []), (4, .invokevirtual 29, 7, [0, 3, 1, 2215]), (7, .iload_n 2, 8, []), (8, .iadd, 9, []), (9, .invokevirtual 33, 12, [0, 4, 2, 2216]), (12, .return_, 13, [])]]
noncomputable def z_r5 : List (List (List z_Row)) := [z_r5_0]
-- ClockParliament$Numbers.insert(II)V
set_option maxRecDepth 20000 in
noncomputable def z_r6_0 : List (List z_Row) := [[(0, .iload_n 1, 1, []), (1, .ifCond .lt 23, 4, [24]), (4, .iload_n 1, 5, []), (5, .aload_n 0, 6, []), (6, .getfield 9, 9, [0, 4, 1, 1068]), (9, .if_icmp .gt 15, 12, [24]), (12, .aload_n 0, 13, []), (13, .getfield 9, 16, [0, 4, 1, 1068])],
  [(16, .aload_n 0, 17, []), (17, .getfield 21, 20, [0, 4, 0, 1067]), (20, .arraylength, 21, []), (21, .if_icmp .lt 4, 24, [25]), (24, .return_, 25, []), (25, .aload_n 0, 26, []), (26, .getfield 9, 29, [0, 4, 1, 1068]), (29, .istore_n 3, 30, []), (30, .iload_n 3, 31, []), (31, .iload_n 1, 32, [])],
  [(32, .if_icmp .le 23, 35, [55]), (35, .aload_n 0, 36, []), (36, .getfield 21, 39, [0, 4, 0, 1067]), (39, .iload_n 3, 40, []), (40, .aload_n 0, 41, []), (41, .getfield 21, 44, [0, 4, 0, 1067]), (44, .iload_n 3, 45, []), (45, .iconst 1, 46, []), (46, .isub, 47, []), (47, .iaload, 48, [])],
  [(48, .iastore, 49, []), (49, .iinc 3 (-1), 52, []), (52, .goto (-22), 55, [30]), (55, .aload_n 0, 56, []), (56, .getfield 21, 59, [0, 4, 0, 1067]), (59, .iload_n 1, 60, []), (60, .iload_n 2, 61, []), (61, .iastore, 62, []), (62, .aload_n 0, 63, []), (63, .dup, 64, [])],
  [(64, .getfield 9, 67, [0, 4, 1, 1068]), (67, .iconst 1, 68, []), (68, .iadd, 69, []), (69, .putfield 9, 72, [0, 4, 1, 1068]), (72, .return_, 73, [])]]
noncomputable def z_r6 : List (List (List z_Row)) := [z_r6_0]
-- ClockParliament$Numbers.add(I)V
set_option maxRecDepth 20000 in
noncomputable def z_r7_0 : List (List z_Row) := [[(0, .aload_n 0, 1, []), (1, .aload_n 0, 2, []), (2, .getfield 9, 5, [0, 4, 1, 1068]), (5, .iload_n 1, 6, []), (6, .invokevirtual 37, 9, [0, 6, 2, 1079]), (9, .return_, 10, [])]]
noncomputable def z_r7 : List (List (List z_Row)) := [z_r7_0]
-- ClockParliament$Numbers.removeAt(I)V
set_option maxRecDepth 20000 in
noncomputable def z_r8_0 : List (List z_Row) := [[(0, .aload_n 0, 1, []), (1, .iload_n 1, 2, []), (2, .invokevirtual 25, 5, [0, 2, 1, 2112]), (5, .ifCond .ne 4, 8, [9]), (8, .return_, 9, []), (9, .iload_n 1, 10, []), (10, .istore_n 2, 11, []), (11, .iload_n 2, 12, []), (12, .iconst 1, 13, []), (13, .iadd, 14, []), (14, .aload_n 0, 15, []), (15, .getfield 9, 18, [0, 4, 1, 1068])],
  [(18, .if_icmp .ge 23, 21, [41]), (21, .aload_n 0, 22, []), (22, .getfield 21, 25, [0, 4, 0, 1067]), (25, .iload_n 2, 26, []), (26, .aload_n 0, 27, []), (27, .getfield 21, 30, [0, 4, 0, 1067]), (30, .iload_n 2, 31, []), (31, .iconst 1, 32, [])],
  [(32, .iadd, 33, []), (33, .iaload, 34, []), (34, .iastore, 35, []), (35, .iinc 2 1, 38, []), (38, .goto (-27), 41, [11]), (41, .aload_n 0, 42, []), (42, .dup, 43, []), (43, .getfield 9, 46, [0, 4, 1, 1068]), (46, .iconst 1, 47, []), (47, .isub, 48, [])],
  [(48, .putfield 9, 51, [0, 4, 1, 1068]), (51, .return_, 52, [])]]
noncomputable def z_r8 : List (List (List z_Row)) := [z_r8_0]
-- ClockParliament$Numbers.forget(I)V
set_option maxRecDepth 20000 in
noncomputable def z_r9_0 : List (List z_Row) := [[(0, .iconst 0, 1, []), (1, .istore_n 2, 2, []), (2, .iload_n 2, 3, []), (3, .aload_n 0, 4, []), (4, .getfield 9, 7, [0, 4, 1, 1068]), (7, .if_icmp .ge 49, 10, [56]), (10, .aload_n 0, 11, []), (11, .getfield 21, 14, [0, 4, 0, 1067]), (14, .iload_n 2, 15, []), (15, .iaload, 16, [])],
  [(16, .iload_n 1, 17, []), (17, .if_icmp .ne 13, 20, [30]), (20, .aload_n 0, 21, []), (21, .getfield 21, 24, [0, 4, 0, 1067]), (24, .iload_n 2, 25, []), (25, .iconst (-1), 26, []), (26, .iastore, 27, []), (27, .goto 23, 30, [50]), (30, .aload_n 0, 31, []), (31, .getfield 21, 34, [0, 4, 0, 1067])],
  [(34, .iload_n 2, 35, []), (35, .iaload, 36, []), (36, .iload_n 1, 37, []), (37, .if_icmp .le 13, 40, [50]), (40, .aload_n 0, 41, []), (41, .getfield 21, 44, [0, 4, 0, 1067]), (44, .iload_n 2, 45, []), (45, .dup2, 46, []), (46, .iaload, 47, []), (47, .iconst 1, 48, [])],
  [(48, .isub, 49, []), (49, .iastore, 50, []), (50, .iinc 2 1, 53, []), (53, .goto (-51), 56, [2]), (56, .return_, 57, [])]]
noncomputable def z_r9 : List (List (List z_Row)) := [z_r9_0]
-- ClockParliament$Numbers.placeOf(I)I
set_option maxRecDepth 20000 in
noncomputable def z_r10_0 : List (List z_Row) := [[(0, .iconst 0, 1, []), (1, .istore_n 2, 2, []), (2, .iload_n 2, 3, []), (3, .aload_n 0, 4, []), (4, .getfield 9, 7, [0, 4, 1, 1068]), (7, .if_icmp .ge 21, 10, [28]), (10, .aload_n 0, 11, []), (11, .getfield 21, 14, [0, 4, 0, 1067]), (14, .iload_n 2, 15, []), (15, .iaload, 16, [])],
  [(16, .iload_n 1, 17, []), (17, .if_icmp .ne 5, 20, [22]), (20, .iload_n 2, 21, []), (21, .ireturn, 22, []), (22, .iinc 2 1, 25, []), (25, .goto (-23), 28, [2]), (28, .iconst (-1), 29, []), (29, .ireturn, 30, [])]]
noncomputable def z_r10 : List (List (List z_Row)) := [z_r10_0]
-- ClockParliament$Numbers.countOf(I)I
set_option maxRecDepth 20000 in
noncomputable def z_r11_0 : List (List z_Row) := [[(0, .iconst 0, 1, []), (1, .istore_n 2, 2, []), (2, .iconst 0, 3, []), (3, .istore_n 3, 4, []), (4, .iload_n 3, 5, []), (5, .aload_n 0, 6, []), (6, .getfield 9, 9, [0, 4, 1, 1068]), (9, .if_icmp .ge 22, 12, [31]), (12, .aload_n 0, 13, []), (13, .getfield 21, 16, [0, 4, 0, 1067])],
  [(16, .iload_n 3, 17, []), (17, .iaload, 18, []), (18, .iload_n 1, 19, []), (19, .if_icmp .ne 6, 22, [25]), (22, .iinc 2 1, 25, []), (25, .iinc 3 1, 28, []), (28, .goto (-24), 31, [4]), (31, .iload_n 2, 32, [])],
  [(32, .ireturn, 33, [])]]
noncomputable def z_r11 : List (List (List z_Row)) := [z_r11_0]
-- ClockParliament$Numbers.sum()I
set_option maxRecDepth 20000 in
noncomputable def z_r12_0 : List (List z_Row) := [[(0, .iconst 0, 1, []), (1, .istore_n 1, 2, []), (2, .iconst 0, 3, []), (3, .istore_n 2, 4, []), (4, .iload_n 2, 5, []), (5, .aload_n 0, 6, []), (6, .getfield 9, 9, [0, 4, 1, 1068]), (9, .if_icmp .ge 18, 12, [27]), (12, .iload_n 1, 13, []), (13, .aload_n 0, 14, []), (14, .getfield 21, 17, [0, 4, 0, 1067])],
  [(17, .iload_n 2, 18, []), (18, .iaload, 19, []), (19, .iadd, 20, []), (20, .istore_n 1, 21, []), (21, .iinc 2 1, 24, []), (24, .goto (-20), 27, [4]), (27, .iload_n 1, 28, []), (28, .ireturn, 29, [])]]
noncomputable def z_r12 : List (List (List z_Row)) := [z_r12_0]
-- ClockParliament$Numbers.copyFrom(LClockParliament$Numbers;)V
set_option maxRecDepth 20000 in
noncomputable def z_r13_0 : List (List z_Row) := [[(0, .aload_n 0, 1, []), (1, .iconst 0, 2, []), (2, .putfield 9, 5, [0, 4, 1, 1068]), (5, .iconst 0, 6, []), (6, .istore_n 2, 7, []), (7, .iload_n 2, 8, []), (8, .aload_n 1, 9, []), (9, .getfield 9, 12, [0, 4, 1, 1068]), (12, .if_icmp .ge 40, 15, [52]), (15, .iload_n 2, 16, [])],
  [(16, .aload_n 0, 17, []), (17, .getfield 21, 20, [0, 4, 0, 1067]), (20, .arraylength, 21, []), (21, .if_icmp .ge 31, 24, [52]), (24, .aload_n 0, 25, []), (25, .getfield 21, 28, [0, 4, 0, 1067]), (28, .iload_n 2, 29, []), (29, .aload_n 1, 30, []), (30, .getfield 21, 33, [0, 4, 0, 1067])],
  [(33, .iload_n 2, 34, []), (34, .iaload, 35, []), (35, .iastore, 36, []), (36, .aload_n 0, 37, []), (37, .dup, 38, []), (38, .getfield 9, 41, [0, 4, 1, 1068]), (41, .iconst 1, 42, []), (42, .iadd, 43, []), (43, .putfield 9, 46, [0, 4, 1, 1068]), (46, .iinc 2 1, 49, [])],
  [(49, .goto (-42), 52, [7]), (52, .return_, 53, [])]]
noncomputable def z_r13 : List (List (List z_Row)) := [z_r13_0]
-- ClockParliament$Refusal.<init>()V
set_option maxRecDepth 20000 in
noncomputable def z_r14_0 : List (List z_Row) := [[(0, .aload_n 0, 1, []), (1, .invokespecial 3, 4, [7, 0, 0, 2045]), (4, .aload_n 0, 5, []), (5, .iconst 0, 6, []), (6, .putfield 9, 9, [0, 7, 0, 2046]), (9, .aload_n 0, 10, []), (10, .iconst 0, 11, []), (11, .putfield 15, 14, [0, 7, 1, 2048]), (14, .return_, 15, [])]]
noncomputable def z_r14 : List (List (List z_Row)) := [z_r14_0]
-- ClockParliament$Refusal.isNone()Z
set_option maxRecDepth 20000 in
noncomputable def z_r15_0 : List (List z_Row) := [[(0, .aload_n 0, 1, []), (1, .getfield 9, 4, [0, 7, 0, 2046]), (4, .ifCond .ne 7, 7, [11]), (7, .iconst 1, 8, []), (8, .goto 4, 11, [12]), (11, .iconst 0, 12, []), (12, .ireturn, 13, [])]]
noncomputable def z_r15 : List (List (List z_Row)) := [z_r15_0]
-- ClockParliament$Refusal.fill(II)V
set_option maxRecDepth 20000 in
noncomputable def z_r16_0 : List (List z_Row) := [[(0, .aload_n 0, 1, []), (1, .iload_n 1, 2, []), (2, .putfield 9, 5, [0, 7, 0, 2046]), (5, .aload_n 0, 6, []), (6, .iload_n 2, 7, []), (7, .putfield 15, 10, [0, 7, 1, 2048]), (10, .return_, 11, [])]]
noncomputable def z_r16 : List (List (List z_Row)) := [z_r16_0]
-- ClockParliament$Refusal.clear()V
set_option maxRecDepth 20000 in
noncomputable def z_r17_0 : List (List z_Row) := [[(0, .aload_n 0, 1, []), (1, .iconst 0, 2, []), (2, .iconst 0, 3, []), (3, .invokevirtual 18, 6, [0, 16, 2, 4210]), (6, .return_, 7, [])]]
noncomputable def z_r17 : List (List (List z_Row)) := [z_r17_0]
-- ClockParliament$Refusal.copyFrom(LClockParliament$Refusal;)V
set_option maxRecDepth 20000 in
noncomputable def z_r18_0 : List (List z_Row) := [[(0, .aload_n 0, 1, []), (1, .aload_n 1, 2, []), (2, .getfield 9, 5, [0, 7, 0, 2046]), (5, .aload_n 1, 6, []), (6, .getfield 15, 9, [0, 7, 1, 2048]), (9, .invokevirtual 18, 12, [0, 16, 2, 4210]), (12, .return_, 13, [])]]
noncomputable def z_r18 : List (List (List z_Row)) := [z_r18_0]
-- ClockParliament$Refusal.applies(ZII)Z
set_option maxRecDepth 20000 in
noncomputable def z_r19_0 : List (List z_Row) := [[(0, .iload_n 1, 1, []), (1, .ifCond .eq 9, 4, [10]), (4, .aload_n 0, 5, []), (5, .iload_n 2, 6, []), (6, .iload_n 3, 7, []), (7, .invokevirtual 18, 10, [0, 16, 2, 4210]), (10, .iload_n 1, 11, []), (11, .ireturn, 12, [])]]
noncomputable def z_r19 : List (List (List z_Row)) := [z_r19_0]
-- ClockParliament$Refusal.isUnknown(ZI)Z
set_option maxRecDepth 20000 in
noncomputable def z_r20_0 : List (List z_Row) := [[(0, .aload_n 0, 1, []), (1, .iload_n 1, 2, []), (2, .ifCond .ne 7, 5, [9]), (5, .iconst 1, 6, []), (6, .goto 4, 9, [10]), (9, .iconst 0, 10, []), (10, .iconst 2, 11, []), (11, .iload_n 2, 12, []), (12, .invokevirtual 22, 15, [0, 19, 3, 4206]), (15, .ireturn, 16, [])]]
noncomputable def z_r20 : List (List (List z_Row)) := [z_r20_0]
-- ClockParliament$Refusal.isOutside(III)Z
set_option maxRecDepth 20000 in
noncomputable def z_r21_0 : List (List z_Row) := [[(0, .aload_n 0, 1, []), (1, .iload_n 1, 2, []), (2, .iload_n 2, 3, []), (3, .if_icmp .lt 8, 6, [11]), (6, .iload_n 1, 7, []), (7, .iload_n 3, 8, []), (8, .if_icmp .le 7, 11, [15]), (11, .iconst 1, 12, []), (12, .goto 4, 15, [16]), (15, .iconst 0, 16, [])],
  [(16, .iconst 3, 17, []), (17, .iload_n 1, 18, []), (18, .invokevirtual 22, 21, [0, 19, 3, 4206]), (21, .ireturn, 22, [])]]
noncomputable def z_r21 : List (List (List z_Row)) := [z_r21_0]
-- ClockParliament$Order.<init>()V
set_option maxRecDepth 20000 in
noncomputable def z_r22_0 : List (List z_Row) := [[(0, .aload_n 0, 1, []), (1, .invokespecial 1, 4, [7, 0, 0, 2003]), (4, .aload_n 0, 5, []), (5, .getstatic 7, 8, [0, 2004]), (8, .putfield 13, 11, [0, 5, 0, 2006]), (11, .aload_n 0, 12, []), (12, .iconst 0, 13, []), (13, .putfield 18, 16, [0, 5, 1, 2008])],
  [(16, .aload_n 0, 17, []), (17, .iconst 0, 18, []), (18, .putfield 22, 21, [0, 5, 2, 2010]), (21, .aload_n 0, 22, []), (22, .iconst 0, 23, []), (23, .putfield 25, 26, [0, 5, 3, 2012]), (26, .aload_n 0, 27, []), (27, .iconst 0, 28, []), (28, .putfield 28, 31, [0, 5, 4, 2014]), (31, .return_, 32, [])]]
noncomputable def z_r22 : List (List (List z_Row)) := [z_r22_0]
-- ClockParliament$Order.fill(LClockParliament$Kind;III)V
set_option maxRecDepth 20000 in
noncomputable def z_r23_0 : List (List z_Row) := [[(0, .aload_n 0, 1, []), (1, .aload_n 1, 2, []), (2, .putfield 13, 5, [0, 5, 0, 2006]), (5, .aload_n 0, 6, []), (6, .iload_n 2, 7, []), (7, .putfield 18, 10, [0, 5, 1, 2008]), (10, .aload_n 0, 11, []), (11, .iload_n 3, 12, []), (12, .putfield 22, 15, [0, 5, 2, 2010]), (15, .aload_n 0, 16, [])],
  [(16, .iload 4, 18, []), (18, .putfield 25, 21, [0, 5, 3, 2012]), (21, .aload_n 0, 22, []), (22, .iconst 0, 23, []), (23, .putfield 28, 26, [0, 5, 4, 2014]), (26, .return_, 27, [])]]
noncomputable def z_r23 : List (List (List z_Row)) := [z_r23_0]
-- ClockParliament$Order.take(I)V
set_option maxRecDepth 20000 in
noncomputable def z_r24_0 : List (List z_Row) := [[(0, .aload_n 0, 1, []), (1, .getfield 28, 4, [0, 5, 4, 2014]), (4, .ifCond .ne 11, 7, [15]), (7, .aload_n 0, 8, []), (8, .iload_n 1, 9, []), (9, .putfield 18, 12, [0, 5, 1, 2008]), (12, .goto 24, 15, [36]), (15, .aload_n 0, 16, [])],
  [(16, .getfield 28, 19, [0, 5, 4, 2014]), (19, .iconst 1, 20, []), (20, .if_icmp .ne 11, 23, [31]), (23, .aload_n 0, 24, []), (24, .iload_n 1, 25, []), (25, .putfield 22, 28, [0, 5, 2, 2010]), (28, .goto 8, 31, [36]), (31, .aload_n 0, 32, [])],
  [(32, .iload_n 1, 33, []), (33, .putfield 25, 36, [0, 5, 3, 2012]), (36, .aload_n 0, 37, []), (37, .dup, 38, []), (38, .getfield 28, 41, [0, 5, 4, 2014]), (41, .iconst 1, 42, []), (42, .iadd, 43, []), (43, .putfield 28, 46, [0, 5, 4, 2014]), (46, .return_, 47, [])]]
noncomputable def z_r24 : List (List (List z_Row)) := [z_r24_0]
-- ClockParliament$Kind.startingWith(C)LClockParliament$Kind;
set_option maxRecDepth 20000 in
noncomputable def z_r25_0 : List (List z_Row) := [[(0, .iconst 0, 1, []), (1, .istore_n 1, 2, []), (2, .iload_n 1, 3, []), (3, .getstatic 57, 6, [1, 7031]), (6, .arraylength, 7, []), (7, .if_icmp .ge 30, 10, [37]), (10, .getstatic 57, 13, [1, 7031]), (13, .iload_n 1, 14, []), (14, .aaload, 15, []), (15, .getfield 53, 18, [1, 1, 10024])],
  [(18, .iload_n 0, 19, []), (19, .invokevirtual 60, 22, [0, 333, 1, 7033]), (22, .ifCond .ne 9, 25, [31]), (25, .getstatic 57, 28, [1, 7031]), (28, .iload_n 1, 29, []), (29, .aaload, 30, []), (30, .areturn, 31, []), (31, .iinc 1 1, 34, [])],
  [(34, .goto (-32), 37, [2]), (37, .aconst_null, 38, []), (38, .areturn, 39, [])]]
noncomputable def z_r25 : List (List (List z_Row)) := [z_r25_0]
-- ClockParliament$Clocks.<init>()V
set_option maxRecDepth 20000 in
noncomputable def z_r26_0 : List (List z_Row) := [[(0, .aload_n 0, 1, []), (1, .invokespecial 3, 4, [7, 0, 0, 1057]), (4, .aload_n 0, 5, []), (5, .new 9, 8, [0, 4, 1058, 1059, 1004]), (8, .dup, 9, []), (9, .bipush 8, 11, []), (11, .invokespecial 11, 14, [2, 0, 1, 1060]), (14, .putfield 14, 17, [0, 1, 0, 1083])],
  [(17, .aload_n 0, 18, []), (18, .new 9, 21, [0, 4, 1058, 1059, 1004]), (21, .dup, 22, []), (22, .bipush 8, 24, []), (24, .invokespecial 11, 27, [2, 0, 1, 1060]), (27, .putfield 20, 30, [0, 1, 1, 1086]), (30, .aload_n 0, 31, []), (31, .new 9, 34, [0, 4, 1058, 1059, 1004])],
  [(34, .dup, 35, []), (35, .bipush 8, 37, []), (37, .invokespecial 11, 40, [2, 0, 1, 1060]), (40, .putfield 23, 43, [0, 1, 2, 1089]), (43, .aload_n 0, 44, []), (44, .new 9, 47, [0, 4, 1058, 1059, 1004]), (47, .dup, 48, [])],
  [(48, .bipush 8, 50, []), (50, .invokespecial 11, 53, [2, 0, 1, 1060]), (53, .putfield 26, 56, [0, 1, 3, 1092]), (56, .aload_n 0, 57, []), (57, .new 9, 60, [0, 4, 1058, 1059, 1004]), (60, .dup, 61, []), (61, .iconst 3, 62, []), (62, .invokespecial 11, 65, [2, 0, 1, 1060])],
  [(65, .putfield 29, 68, [0, 1, 4, 1094]), (68, .iconst 0, 69, []), (69, .istore_n 1, 70, []), (70, .iload_n 1, 71, []), (71, .iconst 3, 72, []), (72, .if_icmp .ge 17, 75, [89]), (75, .aload_n 0, 76, []), (76, .getfield 29, 79, [0, 1, 4, 1094]), (79, .iconst (-1), 80, [])],
  [(80, .invokevirtual 32, 83, [0, 7, 1, 1075]), (83, .iinc 1 1, 86, []), (86, .goto (-16), 89, [70]), (89, .return_, 90, [])]]
noncomputable def z_r26 : List (List (List z_Row)) := [z_r26_0]
-- ClockParliament$Clocks.count()I
set_option maxRecDepth 20000 in
noncomputable def z_r27_0 : List (List z_Row) := [[(0, .aload_n 0, 1, []), (1, .getfield 14, 4, [0, 1, 0, 1083]), (4, .invokevirtual 35, 7, [0, 1, 0, 2132]), (7, .ireturn, 8, [])]]
noncomputable def z_r27 : List (List (List z_Row)) := [z_r27_0]
-- ClockParliament$Clocks.has(I)Z
set_option maxRecDepth 20000 in
noncomputable def z_r28_0 : List (List z_Row) := [[(0, .aload_n 0, 1, []), (1, .getfield 14, 4, [0, 1, 0, 1083]), (4, .iload_n 1, 5, []), (5, .invokevirtual 39, 8, [0, 2, 1, 4219]), (8, .ireturn, 9, [])]]
noncomputable def z_r28 : List (List (List z_Row)) := [z_r28_0]
-- ClockParliament$Clocks.isSilent(I)Z
set_option maxRecDepth 20000 in
noncomputable def z_r29_0 : List (List z_Row) := [[(0, .aload_n 0, 1, []), (1, .getfield 20, 4, [0, 1, 1, 1086]), (4, .iload_n 1, 5, []), (5, .invokevirtual 43, 8, [0, 3, 1, 2138]), (8, .ifCond .ne 7, 11, [15]), (11, .iconst 1, 12, []), (12, .goto 4, 15, [16]), (15, .iconst 0, 16, [])],
  [(16, .ireturn, 17, [])]]
noncomputable def z_r29 : List (List (List z_Row)) := [z_r29_0]
-- ClockParliament$Clocks.difference(II)I
set_option maxRecDepth 20000 in
noncomputable def z_r30_0 : List (List z_Row) := [[(0, .aload_n 0, 1, []), (1, .getfield 14, 4, [0, 1, 0, 1083]), (4, .iload_n 1, 5, []), (5, .invokevirtual 43, 8, [0, 3, 1, 2138]), (8, .aload_n 0, 9, []), (9, .getfield 14, 12, [0, 1, 0, 1083]), (12, .iload_n 2, 13, []), (13, .invokevirtual 43, 16, [0, 3, 1, 2138])],
  [(16, .invokestatic 47, 19, [1, 49, 2, 2139]), (19, .ireturn, 20, [])]]
noncomputable def z_r30 : List (List (List z_Row)) := [z_r30_0]
-- ClockParliament$Clocks.areAgreed(II)Z
set_option maxRecDepth 20000 in
noncomputable def z_r31_0 : List (List z_Row) := [[(0, .aload_n 0, 1, []), (1, .iload_n 1, 2, []), (2, .iload_n 2, 3, []), (3, .invokevirtual 51, 6, [0, 30, 2, 4237]), (6, .iconst 5, 7, []), (7, .if_icmp .gt 7, 10, [14]), (10, .iconst 1, 11, []), (11, .goto 4, 14, [15]), (14, .iconst 0, 15, []), (15, .ireturn, 16, [])]]
noncomputable def z_r31 : List (List (List z_Row)) := [z_r31_0]
-- ClockParliament$Clocks.wouldVote(II)Z
set_option maxRecDepth 20000 in
noncomputable def z_r32_0 : List (List z_Row) := [[(0, .aload_n 0, 1, []), (1, .getfield 20, 4, [0, 1, 1, 1086]), (4, .iload_n 1, 5, []), (5, .invokevirtual 43, 8, [0, 3, 1, 2138]), (8, .ifCond .le 24, 11, [32]), (11, .aload_n 0, 12, []), (12, .getfield 14, 15, [0, 1, 0, 1083]), (15, .iload_n 1, 16, [])],
  [(16, .invokevirtual 43, 19, [0, 3, 1, 2138]), (19, .iload_n 2, 20, []), (20, .invokestatic 47, 23, [1, 49, 2, 2139]), (23, .bipush 20, 25, []), (25, .if_icmp .gt 7, 28, [32]), (28, .iconst 1, 29, []), (29, .goto 4, 32, [33])],
  [(32, .iconst 0, 33, []), (33, .ireturn, 34, [])]]
noncomputable def z_r32 : List (List (List z_Row)) := [z_r32_0]
-- ClockParliament$Clocks.come(II)I
set_option maxRecDepth 20000 in
noncomputable def z_r33_0 : List (List z_Row) := [[(0, .aload_n 0, 1, []), (1, .getfield 14, 4, [0, 1, 0, 1083]), (4, .iload_n 1, 5, []), (5, .invokevirtual 32, 8, [0, 7, 1, 1075]), (8, .aload_n 0, 9, []), (9, .getfield 20, 12, [0, 1, 1, 1086]), (12, .bipush 24, 14, []), (14, .invokevirtual 32, 17, [0, 7, 1, 1075])],
  [(17, .aload_n 0, 18, []), (18, .getfield 23, 21, [0, 1, 2, 1089]), (21, .iload_n 2, 22, []), (22, .invokevirtual 32, 25, [0, 7, 1, 1075]), (25, .aload_n 0, 26, []), (26, .getfield 26, 29, [0, 1, 3, 1092]), (29, .iconst 0, 30, []), (30, .invokevirtual 32, 33, [0, 7, 1, 1075])],
  [(33, .aload_n 0, 34, []), (34, .invokevirtual 54, 37, [0, 27, 0, 2225]), (37, .iconst 1, 38, []), (38, .isub, 39, []), (39, .ireturn, 40, [])]]
noncomputable def z_r33 : List (List (List z_Row)) := [z_r33_0]
-- ClockParliament$Clocks.remove(I)V
set_option maxRecDepth 20000 in
noncomputable def z_r34_0 : List (List z_Row) := [[(0, .aload_n 0, 1, []), (1, .getfield 14, 4, [0, 1, 0, 1083]), (4, .iload_n 1, 5, []), (5, .invokevirtual 55, 8, [0, 8, 1, 5086]), (8, .aload_n 0, 9, []), (9, .getfield 20, 12, [0, 1, 1, 1086]), (12, .iload_n 1, 13, []), (13, .invokevirtual 55, 16, [0, 8, 1, 5086])],
  [(16, .aload_n 0, 17, []), (17, .getfield 23, 20, [0, 1, 2, 1089]), (20, .iload_n 1, 21, []), (21, .invokevirtual 55, 24, [0, 8, 1, 5086]), (24, .aload_n 0, 25, []), (25, .getfield 26, 28, [0, 1, 3, 1092]), (28, .iload_n 1, 29, []), (29, .invokevirtual 55, 32, [0, 8, 1, 5086])],
  [(32, .aload_n 0, 33, []), (33, .getfield 29, 36, [0, 1, 4, 1094]), (36, .iload_n 1, 37, []), (37, .invokevirtual 58, 40, [0, 9, 1, 5090]), (40, .return_, 41, [])]]
noncomputable def z_r34 : List (List (List z_Row)) := [z_r34_0]
-- ClockParliament$Clocks.giveKey(II)I
set_option maxRecDepth 20000 in
noncomputable def z_r35_0 : List (List z_Row) := [[(0, .aload_n 0, 1, []), (1, .getfield 29, 4, [0, 1, 4, 1094]), (4, .iload_n 1, 5, []), (5, .invokevirtual 43, 8, [0, 3, 1, 2138]), (8, .istore_n 3, 9, []), (9, .aload_n 0, 10, []), (10, .getfield 29, 13, [0, 1, 4, 1094]), (13, .iload_n 1, 14, []), (14, .iload_n 2, 15, []), (15, .invokevirtual 61, 18, [0, 4, 2, 2235])],
  [(18, .iload_n 3, 19, []), (19, .ireturn, 20, [])]]
noncomputable def z_r35 : List (List (List z_Row)) := [z_r35_0]
-- ClockParliament$Clocks.windUp(I)I
set_option maxRecDepth 20000 in
noncomputable def z_r36_0 : List (List z_Row) := [[(0, .aload_n 0, 1, []), (1, .getfield 20, 4, [0, 1, 1, 1086]), (4, .iload_n 1, 5, []), (5, .invokevirtual 43, 8, [0, 3, 1, 2138]), (8, .istore_n 2, 9, []), (9, .aload_n 0, 10, []), (10, .getfield 20, 13, [0, 1, 1, 1086]), (13, .iload_n 1, 14, []), (14, .bipush 24, 16, [])],
  [(16, .invokevirtual 61, 19, [0, 4, 2, 2235]), (19, .iload_n 2, 20, []), (20, .ireturn, 21, [])]]
noncomputable def z_r36 : List (List (List z_Row)) := [z_r36_0]
-- ClockParliament$Clocks.moveOn(II)I
set_option maxRecDepth 20000 in
noncomputable def z_r37_0 : List (List z_Row) := [[(0, .aload_n 0, 1, []), (1, .getfield 20, 4, [0, 1, 1, 1086]), (4, .iload_n 1, 5, []), (5, .iload_n 2, 6, []), (6, .invokestatic 65, 9, [1, 48, 1, 5107]), (9, .ineg, 10, []), (10, .invokevirtual 68, 13, [0, 5, 2, 2230]), (13, .aload_n 0, 14, []), (14, .iload_n 1, 15, []), (15, .iload_n 2, 16, [])],
  [(16, .invokevirtual 71, 19, [0, 40, 2, 2231]), (19, .aload_n 0, 20, []), (20, .getfield 14, 23, [0, 1, 0, 1083]), (23, .iload_n 1, 24, []), (24, .invokevirtual 43, 27, [0, 3, 1, 2138]), (27, .ireturn, 28, [])]]
noncomputable def z_r37 : List (List (List z_Row)) := [z_r37_0]
-- ClockParliament$Clocks.giveVote(I)V
set_option maxRecDepth 20000 in
noncomputable def z_r38_0 : List (List z_Row) := [[(0, .aload_n 0, 1, []), (1, .getfield 20, 4, [0, 1, 1, 1086]), (4, .iload_n 1, 5, []), (5, .iconst (-1), 6, []), (6, .invokevirtual 68, 9, [0, 5, 2, 2230]), (9, .aload_n 0, 10, []), (10, .getfield 26, 13, [0, 1, 3, 1092]), (13, .iload_n 1, 14, []), (14, .iconst 1, 15, []), (15, .invokevirtual 68, 18, [0, 5, 2, 2230])],
  [(18, .return_, 19, [])]]
noncomputable def z_r38 : List (List (List z_Row)) := [z_r38_0]
-- ClockParliament$Clocks.passHour()V
set_option maxRecDepth 20000 in
noncomputable def z_r39_0 : List (List z_Row) := [[(0, .iconst 0, 1, []), (1, .istore_n 1, 2, []), (2, .iload_n 1, 3, []), (3, .aload_n 0, 4, []), (4, .invokevirtual 54, 7, [0, 27, 0, 2225]), (7, .if_icmp .ge 44, 10, [51]), (10, .aload_n 0, 11, []), (11, .iload_n 1, 12, []), (12, .invokevirtual 74, 15, [0, 29, 1, 2226]), (15, .ifCond .ne 30, 18, [45])],
  [(18, .aload_n 0, 19, []), (19, .getfield 20, 22, [0, 1, 1, 1086]), (22, .iload_n 1, 23, []), (23, .iconst (-1), 24, []), (24, .invokevirtual 68, 27, [0, 5, 2, 2230]), (27, .aload_n 0, 28, []), (28, .iload_n 1, 29, []), (29, .aload_n 0, 30, []), (30, .iload_n 1, 31, []), (31, .invokevirtual 74, 34, [0, 29, 1, 2226])],
  [(34, .ifCond .eq 7, 37, [41]), (37, .iconst 0, 38, []), (38, .goto 4, 41, [42]), (41, .iconst 1, 42, []), (42, .invokevirtual 71, 45, [0, 40, 2, 2231]), (45, .iinc 1 1, 48, [])],
  [(48, .goto (-46), 51, [2]), (51, .return_, 52, [])]]
noncomputable def z_r39 : List (List (List z_Row)) := [z_r39_0]
-- ClockParliament$Clocks.goOn(II)V
set_option maxRecDepth 20000 in
noncomputable def z_r40_0 : List (List z_Row) := [[(0, .aload_n 0, 1, []), (1, .getfield 14, 4, [0, 1, 0, 1083]), (4, .iload_n 1, 5, []), (5, .aload_n 0, 6, []), (6, .getfield 14, 9, [0, 1, 0, 1083]), (9, .iload_n 1, 10, []), (10, .invokevirtual 43, 13, [0, 3, 1, 2138]), (13, .iload_n 2, 14, []), (14, .iadd, 15, []), (15, .bipush 60, 17, [])],
  [(17, .irem, 18, []), (18, .invokevirtual 61, 21, [0, 4, 2, 2235]), (21, .return_, 22, [])]]
noncomputable def z_r40 : List (List (List z_Row)) := [z_r40_0]
-- ClockParliament$Clocks.agreeingWith(I)I
set_option maxRecDepth 20000 in
noncomputable def z_r41_0 : List (List z_Row) := [[(0, .iconst 0, 1, []), (1, .istore_n 2, 2, []), (2, .iconst 0, 3, []), (3, .istore_n 3, 4, []), (4, .iload_n 3, 5, []), (5, .aload_n 0, 6, []), (6, .invokevirtual 54, 9, [0, 27, 0, 2225]), (9, .if_icmp .ge 29, 12, [38]), (12, .iload_n 3, 13, []), (13, .iload_n 1, 14, []), (14, .if_icmp .eq 18, 17, [32])],
  [(17, .aload_n 0, 18, []), (18, .iload_n 1, 19, []), (19, .iload_n 3, 20, []), (20, .invokevirtual 77, 23, [0, 31, 2, 6014]), (23, .ifCond .eq 9, 26, [32]), (26, .iload_n 2, 27, []), (27, .iconst 1, 28, []), (28, .iload_n 3, 29, []), (29, .ishl, 30, []), (30, .ior, 31, []), (31, .istore_n 2, 32, [])],
  [(32, .iinc 3 1, 35, []), (35, .goto (-31), 38, [4]), (38, .iload_n 2, 39, []), (39, .ireturn, 40, [])]]
noncomputable def z_r41 : List (List (List z_Row)) := [z_r41_0]
-- ClockParliament$Clocks.reachedFrom(I)I
set_option maxRecDepth 20000 in
noncomputable def z_r42_0 : List (List z_Row) := [[(0, .iconst 1, 1, []), (1, .iload_n 1, 2, []), (2, .ishl, 3, []), (3, .istore_n 2, 4, []), (4, .iconst 0, 5, []), (5, .istore_n 3, 6, []), (6, .iload_n 3, 7, []), (7, .aload_n 0, 8, []), (8, .invokevirtual 54, 11, [0, 27, 0, 2225]), (11, .if_icmp .ge 45, 14, [56]), (14, .iconst 0, 15, []), (15, .istore 4, 17, [])],
  [(17, .iload 4, 19, []), (19, .aload_n 0, 20, []), (20, .invokevirtual 54, 23, [0, 27, 0, 2225]), (23, .if_icmp .ge 27, 26, [50]), (26, .iload_n 2, 27, []), (27, .iload 4, 29, []), (29, .invokestatic 81, 32, [4, 159, 2, 6182])],
  [(32, .ifCond .eq 12, 35, [44]), (35, .iload_n 2, 36, []), (36, .aload_n 0, 37, []), (37, .iload 4, 39, []), (39, .invokevirtual 84, 42, [0, 41, 1, 6183]), (42, .ior, 43, []), (43, .istore_n 2, 44, []), (44, .iinc 4 1, 47, []), (47, .goto (-30), 50, [17])],
  [(50, .iinc 3 1, 53, []), (53, .goto (-47), 56, [6]), (56, .iload_n 2, 57, []), (57, .ireturn, 58, [])]]
noncomputable def z_r42 : List (List (List z_Row)) := [z_r42_0]
-- ClockParliament$Clocks.weakestOfAll()I
set_option maxRecDepth 20000 in
noncomputable def z_r43_0 : List (List z_Row) := [[(0, .iconst 0, 1, []), (1, .istore_n 1, 2, []), (2, .iconst 1, 3, []), (3, .istore_n 2, 4, []), (4, .iload_n 2, 5, []), (5, .aload_n 0, 6, []), (6, .invokevirtual 54, 9, [0, 27, 0, 2225]), (9, .if_icmp .ge 30, 12, [39]), (12, .aload_n 0, 13, []), (13, .getfield 20, 16, [0, 1, 1, 1086])],
  [(16, .iload_n 2, 17, []), (17, .invokevirtual 43, 20, [0, 3, 1, 2138]), (20, .aload_n 0, 21, []), (21, .getfield 20, 24, [0, 1, 1, 1086]), (24, .iload_n 1, 25, []), (25, .invokevirtual 43, 28, [0, 3, 1, 2138]), (28, .if_icmp .ge 5, 31, [33]), (31, .iload_n 2, 32, [])],
  [(32, .istore_n 1, 33, []), (33, .iinc 2 1, 36, []), (36, .goto (-32), 39, [4]), (39, .iload_n 1, 40, []), (40, .ireturn, 41, [])]]
noncomputable def z_r43 : List (List (List z_Row)) := [z_r43_0]
-- ClockParliament$Clocks.clockRanked(II)I
set_option maxRecDepth 20000 in
noncomputable def z_r44_0 : List (List z_Row) := [[(0, .aload_n 0, 1, []), (1, .iload_n 1, 2, []), (2, .invokevirtual 87, 5, [0, 45, 1, 6196]), (5, .astore_n 3, 6, []), (6, .iconst 0, 7, []), (7, .istore 4, 9, []), (9, .iload 4, 11, []), (11, .aload_n 0, 12, []), (12, .invokevirtual 54, 15, [0, 27, 0, 2225]), (15, .if_icmp .ge 23, 18, [38])],
  [(18, .aload_n 0, 19, []), (19, .aload_n 3, 20, []), (20, .iload 4, 22, []), (22, .invokevirtual 91, 25, [0, 46, 2, 6200]), (25, .iload_n 2, 26, []), (26, .if_icmp .ne 6, 29, [32]), (29, .iload 4, 31, []), (31, .ireturn, 32, [])],
  [(32, .iinc 4 1, 35, []), (35, .goto (-26), 38, [9]), (38, .iconst (-1), 39, []), (39, .ireturn, 40, [])]]
noncomputable def z_r44 : List (List (List z_Row)) := [z_r44_0]
-- ClockParliament$Clocks.valuesOf(I)LClockParliament$Numbers;
set_option maxRecDepth 20000 in
noncomputable def z_r45_0 : List (List z_Row) := [[(0, .iload_n 1, 1, []), (1, .tableswitch 42 0 2 #[27, 32, 37], 28, [43, 28, 33, 38])],
  [(28, .aload_n 0, 29, []), (29, .getfield 20, 32, [0, 1, 1, 1086])],
  [(32, .areturn, 33, []), (33, .aload_n 0, 34, []), (34, .getfield 14, 37, [0, 1, 0, 1083]), (37, .areturn, 38, []), (38, .aload_n 0, 39, []), (39, .getfield 23, 42, [0, 1, 2, 1089]), (42, .areturn, 43, []), (43, .aload_n 0, 44, []), (44, .getfield 26, 47, [0, 1, 3, 1092]), (47, .areturn, 48, [])]]
noncomputable def z_r45 : List (List (List z_Row)) := [z_r45_0]
-- ClockParliament$Clocks.rankIn(LClockParliament$Numbers;I)I
set_option maxRecDepth 20000 in
noncomputable def z_r46_0 : List (List z_Row) := [[(0, .iconst 0, 1, []), (1, .istore_n 3, 2, []), (2, .iconst 0, 3, []), (3, .istore 4, 5, []), (5, .iload 4, 7, []), (7, .aload_n 0, 8, []), (8, .invokevirtual 54, 11, [0, 27, 0, 2225]), (11, .if_icmp .ge 42, 14, [53]), (14, .aload_n 1, 15, []), (15, .iload 4, 17, [])],
  [(17, .invokevirtual 43, 20, [0, 3, 1, 2138]), (20, .aload_n 1, 21, []), (21, .iload_n 2, 22, []), (22, .invokevirtual 43, 25, [0, 3, 1, 2138]), (25, .isub, 26, []), (26, .istore 5, 28, []), (28, .iload 5, 30, []), (30, .ifCond .gt 14, 33, [44])],
  [(33, .iload 5, 35, []), (35, .ifCond .ne 12, 38, [47]), (38, .iload 4, 40, []), (40, .iload_n 2, 41, []), (41, .if_icmp .ge 6, 44, [47]), (44, .iinc 3 1, 47, []), (47, .iinc 4 1, 50, [])],
  [(50, .goto (-45), 53, [5]), (53, .iload_n 3, 54, []), (54, .ireturn, 55, [])]]
noncomputable def z_r46 : List (List (List z_Row)) := [z_r46_0]
-- ClockParliament$Clocks.copyFrom(LClockParliament$Clocks;)V
set_option maxRecDepth 20000 in
noncomputable def z_r47_0 : List (List z_Row) := [[(0, .aload_n 0, 1, []), (1, .getfield 14, 4, [0, 1, 0, 1083]), (4, .aload_n 1, 5, []), (5, .getfield 14, 8, [0, 1, 0, 1083]), (8, .invokevirtual 95, 11, [0, 13, 1, 2192]), (11, .aload_n 0, 12, []), (12, .getfield 20, 15, [0, 1, 1, 1086]), (15, .aload_n 1, 16, [])],
  [(16, .getfield 20, 19, [0, 1, 1, 1086]), (19, .invokevirtual 95, 22, [0, 13, 1, 2192]), (22, .aload_n 0, 23, []), (23, .getfield 23, 26, [0, 1, 2, 1089]), (26, .aload_n 1, 27, []), (27, .getfield 23, 30, [0, 1, 2, 1089]), (30, .invokevirtual 95, 33, [0, 13, 1, 2192])],
  [(33, .aload_n 0, 34, []), (34, .getfield 26, 37, [0, 1, 3, 1092]), (37, .aload_n 1, 38, []), (38, .getfield 26, 41, [0, 1, 3, 1092]), (41, .invokevirtual 95, 44, [0, 13, 1, 2192]), (44, .aload_n 0, 45, []), (45, .getfield 29, 48, [0, 1, 4, 1094])],
  [(48, .aload_n 1, 49, []), (49, .getfield 29, 52, [0, 1, 4, 1094]), (52, .invokevirtual 95, 55, [0, 13, 1, 2192]), (55, .return_, 56, [])]]
noncomputable def z_r47 : List (List (List z_Row)) := [z_r47_0]
-- ClockParliament$Clocks.springFor(I)I
set_option maxRecDepth 20000 in
noncomputable def z_r48_0 : List (List z_Row) := [[(0, .iload_n 0, 1, []), (1, .bipush 10, 3, []), (3, .idiv, 4, []), (4, .iconst 1, 5, []), (5, .iadd, 6, []), (6, .ireturn, 7, [])]]
noncomputable def z_r48 : List (List (List z_Row)) := [z_r48_0]
-- ClockParliament$Clocks.secondsBetween(II)I
set_option maxRecDepth 20000 in
noncomputable def z_r49_0 : List (List z_Row) := [[(0, .iload_n 0, 1, []), (1, .iload_n 1, 2, []), (2, .isub, 3, []), (3, .invokestatic 99, 6, [1, 320, 1, 2142]), (6, .istore_n 2, 7, []), (7, .iload_n 2, 8, []), (8, .bipush 60, 10, []), (10, .iload_n 2, 11, []), (11, .isub, 12, []), (12, .invokestatic 104, 15, [1, 318, 2, 2145]), (15, .ireturn, 16, [])]]
noncomputable def z_r49 : List (List (List z_Row)) := [z_r49_0]
-- ClockParliament$Bills.<init>()V
set_option maxRecDepth 20000 in
noncomputable def z_r50_0 : List (List z_Row) := [[(0, .aload_n 0, 1, []), (1, .invokespecial 3, 4, [7, 0, 0, 1113]), (4, .aload_n 0, 5, []), (5, .new 9, 8, [0, 4, 1114, 1059, 1004]), (8, .dup, 9, []), (9, .bipush 10, 11, []), (11, .invokespecial 11, 14, [2, 0, 1, 1115]), (14, .putfield 14, 17, [0, 0, 0, 1116])],
  [(17, .aload_n 0, 18, []), (18, .new 9, 21, [0, 4, 1114, 1059, 1004]), (21, .dup, 22, []), (22, .bipush 10, 24, []), (24, .invokespecial 11, 27, [2, 0, 1, 1115]), (27, .putfield 20, 30, [0, 0, 1, 1119]), (30, .aload_n 0, 31, []), (31, .new 9, 34, [0, 4, 1114, 1059, 1004])],
  [(34, .dup, 35, []), (35, .bipush 10, 37, []), (37, .invokespecial 11, 40, [2, 0, 1, 1115]), (40, .putfield 23, 43, [0, 0, 2, 1122]), (43, .aload_n 0, 44, []), (44, .new 9, 47, [0, 4, 1114, 1059, 1004]), (47, .dup, 48, [])],
  [(48, .bipush 10, 50, []), (50, .invokespecial 11, 53, [2, 0, 1, 1115]), (53, .putfield 26, 56, [0, 0, 3, 1125]), (56, .aload_n 0, 57, []), (57, .new 9, 60, [0, 4, 1114, 1059, 1004]), (60, .dup, 61, []), (61, .bipush 10, 63, []), (63, .invokespecial 11, 66, [2, 0, 1, 1115])],
  [(66, .putfield 29, 69, [0, 0, 4, 1128]), (69, .aload_n 0, 70, []), (70, .new 9, 73, [0, 4, 1114, 1059, 1004]), (73, .dup, 74, []), (74, .bipush 10, 76, []), (76, .invokespecial 11, 79, [2, 0, 1, 1115]), (79, .putfield 32, 82, [0, 0, 5, 1130])],
  [(82, .return_, 83, [])]]
noncomputable def z_r50 : List (List (List z_Row)) := [z_r50_0]
-- ClockParliament$Bills.count()I
set_option maxRecDepth 20000 in
noncomputable def z_r51_0 : List (List z_Row) := [[(0, .aload_n 0, 1, []), (1, .getfield 14, 4, [0, 0, 0, 1116]), (4, .invokevirtual 35, 7, [0, 1, 0, 2100]), (7, .ireturn, 8, [])]]
noncomputable def z_r51 : List (List (List z_Row)) := [z_r51_0]
-- ClockParliament$Bills.has(I)Z
set_option maxRecDepth 20000 in
noncomputable def z_r52_0 : List (List z_Row) := [[(0, .aload_n 0, 1, []), (1, .getfield 14, 4, [0, 0, 0, 1116]), (4, .iload_n 1, 5, []), (5, .invokevirtual 39, 8, [0, 2, 1, 5023]), (8, .ireturn, 9, [])]]
noncomputable def z_r52 : List (List (List z_Row)) := [z_r52_0]
-- ClockParliament$Bills.isAdjourned(I)Z
set_option maxRecDepth 20000 in
noncomputable def z_r53_0 : List (List z_Row) := [[(0, .aload_n 0, 1, []), (1, .getfield 26, 4, [0, 0, 3, 1125]), (4, .iload_n 1, 5, []), (5, .invokevirtual 43, 8, [0, 3, 1, 2108]), (8, .ifCond .le 7, 11, [15]), (11, .iconst 1, 12, []), (12, .goto 4, 15, [16]), (15, .iconst 0, 16, [])],
  [(16, .ireturn, 17, [])]]
noncomputable def z_r53 : List (List (List z_Row)) := [z_r53_0]
-- ClockParliament$Bills.adjournedCount()I
set_option maxRecDepth 20000 in
noncomputable def z_r54_0 : List (List z_Row) := [[(0, .aload_n 0, 1, []), (1, .invokevirtual 47, 4, [0, 51, 0, 2209]), (4, .aload_n 0, 5, []), (5, .getfield 26, 8, [0, 0, 3, 1125]), (8, .iconst 0, 9, []), (9, .invokevirtual 48, 12, [0, 11, 1, 5030]), (12, .isub, 13, []), (13, .ireturn, 14, [])]]
noncomputable def z_r54 : List (List (List z_Row)) := [z_r54_0]
-- ClockParliament$Bills.table(III)I
set_option maxRecDepth 20000 in
noncomputable def z_r55_0 : List (List z_Row) := [[(0, .aload_n 0, 1, []), (1, .invokevirtual 47, 4, [0, 51, 0, 2209]), (4, .istore 4, 6, []), (6, .aload_n 0, 7, []), (7, .getfield 14, 10, [0, 0, 0, 1116]), (10, .iload_n 1, 11, []), (11, .invokevirtual 51, 14, [0, 7, 1, 5112]), (14, .aload_n 0, 15, []), (15, .getfield 20, 18, [0, 0, 1, 1119])],
  [(18, .iload_n 2, 19, []), (19, .invokevirtual 51, 22, [0, 7, 1, 5112]), (22, .aload_n 0, 23, []), (23, .getfield 23, 26, [0, 0, 2, 1122]), (26, .iload_n 3, 27, []), (27, .invokevirtual 51, 30, [0, 7, 1, 5112]), (30, .aload_n 0, 31, []), (31, .getfield 26, 34, [0, 0, 3, 1125])],
  [(34, .iconst 0, 35, []), (35, .invokevirtual 51, 38, [0, 7, 1, 5112]), (38, .aload_n 0, 39, []), (39, .getfield 29, 42, [0, 0, 4, 1128]), (42, .iconst 0, 43, []), (43, .invokevirtual 51, 46, [0, 7, 1, 5112]), (46, .aload_n 0, 47, []), (47, .getfield 32, 50, [0, 0, 5, 1130])],
  [(50, .iload 4, 52, []), (52, .invokevirtual 51, 55, [0, 7, 1, 5112]), (55, .iload 4, 57, []), (57, .ireturn, 58, [])]]
noncomputable def z_r55 : List (List (List z_Row)) := [z_r55_0]
-- ClockParliament$Bills.putOff(II)I
set_option maxRecDepth 20000 in
noncomputable def z_r56_0 : List (List z_Row) := [[(0, .aload_n 0, 1, []), (1, .getfield 26, 4, [0, 0, 3, 1125]), (4, .iload_n 1, 5, []), (5, .iload_n 2, 6, []), (6, .invokevirtual 54, 9, [0, 4, 2, 5117]), (9, .aload_n 0, 10, []), (10, .getfield 29, 13, [0, 0, 4, 1128]), (13, .iload_n 1, 14, []), (14, .iconst 1, 15, []), (15, .invokevirtual 58, 18, [0, 5, 2, 2211])],
  [(18, .aload_n 0, 19, []), (19, .getfield 32, 22, [0, 0, 5, 1130]), (22, .aload_n 0, 23, []), (23, .getfield 32, 26, [0, 0, 5, 1130]), (26, .iload_n 1, 27, []), (27, .invokevirtual 61, 30, [0, 10, 1, 3010]), (30, .invokevirtual 64, 33, [0, 8, 1, 5118])],
  [(33, .aload_n 0, 34, []), (34, .invokevirtual 67, 37, [0, 54, 0, 5119]), (37, .ireturn, 38, [])]]
noncomputable def z_r56 : List (List (List z_Row)) := [z_r56_0]
-- ClockParliament$Bills.remove(I)I
set_option maxRecDepth 20000 in
noncomputable def z_r57_0 : List (List z_Row) := [[(0, .aload_n 0, 1, []), (1, .getfield 14, 4, [0, 0, 0, 1116]), (4, .iload_n 1, 5, []), (5, .invokevirtual 64, 8, [0, 8, 1, 5118]), (8, .aload_n 0, 9, []), (9, .getfield 20, 12, [0, 0, 1, 1119]), (12, .iload_n 1, 13, []), (13, .invokevirtual 64, 16, [0, 8, 1, 5118])],
  [(16, .aload_n 0, 17, []), (17, .getfield 23, 20, [0, 0, 2, 1122]), (20, .iload_n 1, 21, []), (21, .invokevirtual 64, 24, [0, 8, 1, 5118]), (24, .aload_n 0, 25, []), (25, .getfield 26, 28, [0, 0, 3, 1125]), (28, .iload_n 1, 29, []), (29, .invokevirtual 64, 32, [0, 8, 1, 5118])],
  [(32, .aload_n 0, 33, []), (33, .getfield 29, 36, [0, 0, 4, 1128]), (36, .iload_n 1, 37, []), (37, .invokevirtual 64, 40, [0, 8, 1, 5118]), (40, .aload_n 0, 41, []), (41, .getfield 32, 44, [0, 0, 5, 1130]), (44, .aload_n 0, 45, []), (45, .getfield 32, 48, [0, 0, 5, 1130])],
  [(48, .iload_n 1, 49, []), (49, .invokevirtual 61, 52, [0, 10, 1, 3010]), (52, .invokevirtual 64, 55, [0, 8, 1, 5118]), (55, .aload_n 0, 56, []), (56, .getfield 32, 59, [0, 0, 5, 1130]), (59, .iload_n 1, 60, []), (60, .invokevirtual 70, 63, [0, 9, 1, 5124]), (63, .aload_n 0, 64, [])],
  [(64, .invokevirtual 47, 67, [0, 51, 0, 2209]), (67, .ireturn, 68, [])]]
noncomputable def z_r57 : List (List (List z_Row)) := [z_r57_0]
-- ClockParliament$Bills.passHour()I
set_option maxRecDepth 20000 in
noncomputable def z_r58_0 : List (List z_Row) := [[(0, .iconst 0, 1, []), (1, .istore_n 1, 2, []), (2, .iconst 0, 3, []), (3, .istore_n 2, 4, []), (4, .iload_n 2, 5, []), (5, .aload_n 0, 6, []), (6, .invokevirtual 47, 9, [0, 51, 0, 2209]), (9, .if_icmp .ge 46, 12, [55]), (12, .aload_n 0, 13, []), (13, .iload_n 2, 14, []), (14, .invokevirtual 73, 17, [0, 53, 1, 2210])],
  [(17, .ifCond .eq 32, 20, [49]), (20, .aload_n 0, 21, []), (21, .getfield 26, 24, [0, 0, 3, 1125]), (24, .iload_n 2, 25, []), (25, .iconst (-1), 26, []), (26, .invokevirtual 58, 29, [0, 5, 2, 2211]), (29, .aload_n 0, 30, []), (30, .iload_n 2, 31, []), (31, .invokevirtual 73, 34, [0, 53, 1, 2210])],
  [(34, .ifCond .ne 15, 37, [49]), (37, .aload_n 0, 38, []), (38, .getfield 32, 41, [0, 0, 5, 1130]), (41, .iload_n 1, 42, []), (42, .iload_n 2, 43, []), (43, .invokevirtual 76, 46, [0, 6, 2, 2220]), (46, .iinc 1 1, 49, [])],
  [(49, .iinc 2 1, 52, []), (52, .goto (-48), 55, [4]), (55, .iload_n 1, 56, []), (56, .ireturn, 57, [])]]
noncomputable def z_r58 : List (List (List z_Row)) := [z_r58_0]
-- ClockParliament$Bills.hoursToNext()I
set_option maxRecDepth 20000 in
noncomputable def z_r59_0 : List (List z_Row) := [[(0, .iconst 0, 1, []), (1, .istore_n 1, 2, []), (2, .iconst 0, 3, []), (3, .istore_n 2, 4, []), (4, .iload_n 2, 5, []), (5, .aload_n 0, 6, []), (6, .invokevirtual 47, 9, [0, 51, 0, 2209]), (9, .if_icmp .ge 42, 12, [51]), (12, .aload_n 0, 13, []), (13, .iload_n 2, 14, []), (14, .invokevirtual 73, 17, [0, 53, 1, 2210])],
  [(17, .ifCond .eq 28, 20, [45]), (20, .iload_n 1, 21, []), (21, .ifCond .eq 15, 24, [36]), (24, .aload_n 0, 25, []), (25, .getfield 26, 28, [0, 0, 3, 1125]), (28, .iload_n 2, 29, []), (29, .invokevirtual 43, 32, [0, 3, 1, 2108])],
  [(32, .iload_n 1, 33, []), (33, .if_icmp .ge 12, 36, [45]), (36, .aload_n 0, 37, []), (37, .getfield 26, 40, [0, 0, 3, 1125]), (40, .iload_n 2, 41, []), (41, .invokevirtual 43, 44, [0, 3, 1, 2108]), (44, .istore_n 1, 45, []), (45, .iinc 2 1, 48, [])],
  [(48, .goto (-44), 51, [4]), (51, .iload_n 1, 52, []), (52, .ireturn, 53, [])]]
noncomputable def z_r59 : List (List (List z_Row)) := [z_r59_0]
-- ClockParliament$Bills.billAfter(II)I
set_option maxRecDepth 20000 in
noncomputable def z_r60_0 : List (List z_Row) := [[(0, .iload_n 2, 1, []), (1, .ifCond .ge 5, 4, [6]), (4, .iconst (-1), 5, []), (5, .ireturn, 6, []), (6, .iconst 0, 7, []), (7, .istore_n 3, 8, []), (8, .iload_n 3, 9, []), (9, .aload_n 0, 10, []), (10, .invokevirtual 47, 13, [0, 51, 0, 2209]), (13, .if_icmp .ge 21, 16, [34])],
  [(16, .aload_n 0, 17, []), (17, .iload_n 1, 18, []), (18, .iload_n 3, 19, []), (19, .invokevirtual 79, 22, [0, 61, 2, 3002]), (22, .iload_n 2, 23, []), (23, .if_icmp .ne 5, 26, [28]), (26, .iload_n 3, 27, []), (27, .ireturn, 28, []), (28, .iinc 3 1, 31, []), (31, .goto (-23), 34, [8])],
  [(34, .iconst (-1), 35, []), (35, .ireturn, 36, [])]]
noncomputable def z_r60 : List (List (List z_Row)) := [z_r60_0]
-- ClockParliament$Bills.placeAfter(II)I
set_option maxRecDepth 20000 in
noncomputable def z_r61_0 : List (List z_Row) := [[(0, .aload_n 0, 1, []), (1, .getfield 26, 4, [0, 0, 3, 1125]), (4, .iload_n 2, 5, []), (5, .invokevirtual 43, 8, [0, 3, 1, 2108]), (8, .iload_n 1, 9, []), (9, .if_icmp .le 5, 12, [14]), (12, .iconst (-1), 13, []), (13, .ireturn, 14, []), (14, .iconst 0, 15, []), (15, .istore_n 3, 16, [])],
  [(16, .iconst 0, 17, []), (17, .istore 4, 19, []), (19, .iload 4, 21, []), (21, .aload_n 0, 22, []), (22, .invokevirtual 47, 25, [0, 51, 0, 2209]), (25, .if_icmp .ge 44, 28, [69]), (28, .aload_n 0, 29, []), (29, .iload 4, 31, []), (31, .invokevirtual 73, 34, [0, 53, 1, 2210])],
  [(34, .ifCond .eq 29, 37, [63]), (37, .aload_n 0, 38, []), (38, .getfield 26, 41, [0, 0, 3, 1125]), (41, .iload 4, 43, []), (43, .invokevirtual 43, 46, [0, 3, 1, 2108]), (46, .iload_n 1, 47, []), (47, .if_icmp .gt 16, 50, [63])],
  [(50, .aload_n 0, 51, []), (51, .iload 4, 53, []), (53, .iload_n 2, 54, []), (54, .invokevirtual 83, 57, [0, 62, 2, 3006]), (57, .ifCond .eq 6, 60, [63]), (60, .iinc 3 1, 63, []), (63, .iinc 4 1, 66, [])],
  [(66, .goto (-47), 69, [19]), (69, .aload_n 0, 70, []), (70, .iload_n 2, 71, []), (71, .invokevirtual 73, 74, [0, 53, 1, 2210]), (74, .ifCond .eq 7, 77, [81]), (77, .iload_n 3, 78, []), (78, .goto 13, 81, [91])],
  [(81, .iload_n 3, 82, []), (82, .aload_n 0, 83, []), (83, .getfield 32, 86, [0, 0, 5, 1130]), (86, .iload_n 2, 87, []), (87, .invokevirtual 61, 90, [0, 10, 1, 3010]), (90, .iadd, 91, []), (91, .ireturn, 92, [])]]
noncomputable def z_r61 : List (List (List z_Row)) := [z_r61_0]
-- ClockParliament$Bills.isAheadAsBack(II)Z
set_option maxRecDepth 20000 in
noncomputable def z_r62_0 : List (List z_Row) := [[(0, .aload_n 0, 1, []), (1, .getfield 26, 4, [0, 0, 3, 1125]), (4, .iload_n 1, 5, []), (5, .invokevirtual 43, 8, [0, 3, 1, 2108]), (8, .aload_n 0, 9, []), (9, .getfield 26, 12, [0, 0, 3, 1125]), (12, .iload_n 2, 13, []), (13, .invokevirtual 43, 16, [0, 3, 1, 2108])],
  [(16, .isub, 17, []), (17, .istore_n 3, 18, []), (18, .iload_n 3, 19, []), (19, .ifCond .gt 12, 22, [31]), (22, .iload_n 3, 23, []), (23, .ifCond .ne 12, 26, [35]), (26, .iload_n 1, 27, []), (27, .iload_n 2, 28, []), (28, .if_icmp .ge 7, 31, [35]), (31, .iconst 1, 32, [])],
  [(32, .goto 4, 35, [36]), (35, .iconst 0, 36, []), (36, .ireturn, 37, [])]]
noncomputable def z_r62 : List (List (List z_Row)) := [z_r62_0]
-- ClockParliament$Bills.copyFrom(LClockParliament$Bills;)V
set_option maxRecDepth 20000 in
noncomputable def z_r63_0 : List (List z_Row) := [[(0, .aload_n 0, 1, []), (1, .getfield 14, 4, [0, 0, 0, 1116]), (4, .aload_n 1, 5, []), (5, .getfield 14, 8, [0, 0, 0, 1116]), (8, .invokevirtual 87, 11, [0, 13, 1, 2200]), (11, .aload_n 0, 12, []), (12, .getfield 20, 15, [0, 0, 1, 1119]), (15, .aload_n 1, 16, [])],
  [(16, .getfield 20, 19, [0, 0, 1, 1119]), (19, .invokevirtual 87, 22, [0, 13, 1, 2200]), (22, .aload_n 0, 23, []), (23, .getfield 23, 26, [0, 0, 2, 1122]), (26, .aload_n 1, 27, []), (27, .getfield 23, 30, [0, 0, 2, 1122]), (30, .invokevirtual 87, 33, [0, 13, 1, 2200])],
  [(33, .aload_n 0, 34, []), (34, .getfield 26, 37, [0, 0, 3, 1125]), (37, .aload_n 1, 38, []), (38, .getfield 26, 41, [0, 0, 3, 1125]), (41, .invokevirtual 87, 44, [0, 13, 1, 2200]), (44, .aload_n 0, 45, []), (45, .getfield 29, 48, [0, 0, 4, 1128])],
  [(48, .aload_n 1, 49, []), (49, .getfield 29, 52, [0, 0, 4, 1128]), (52, .invokevirtual 87, 55, [0, 13, 1, 2200]), (55, .aload_n 0, 56, []), (56, .getfield 32, 59, [0, 0, 5, 1130]), (59, .aload_n 1, 60, []), (60, .getfield 32, 63, [0, 0, 5, 1130]), (63, .invokevirtual 87, 66, [0, 13, 1, 2200])],
  [(66, .return_, 67, [])]]
noncomputable def z_r63 : List (List (List z_Row)) := [z_r63_0]
-- ClockParliament$House.<init>()V
set_option maxRecDepth 20000 in
noncomputable def z_r64_0 : List (List z_Row) := [[(0, .aload_n 0, 1, []), (1, .invokespecial 3, 4, [7, 0, 0, 1051]), (4, .aload_n 0, 5, []), (5, .new 9, 8, [0, 1, 1052, 1053, 1003]), (8, .dup, 9, []), (9, .invokespecial 11, 12, [2, 26, 0, 1054]), (12, .putfield 12, 15, [0, 3, 0, 1146]), (15, .aload_n 0, 16, [])],
  [(16, .new 18, 19, [0, 0, 1108, 1109, 1006]), (19, .dup, 20, []), (20, .invokespecial 20, 23, [3, 50, 0, 1110]), (23, .putfield 21, 26, [0, 3, 1, 1148]), (26, .aload_n 0, 27, []), (27, .iconst 0, 28, []), (28, .putfield 25, 31, [0, 3, 2, 1150]), (31, .aload_n 0, 32, [])],
  [(32, .iconst 0, 33, []), (33, .putfield 29, 36, [0, 3, 3, 1152]), (36, .aload_n 0, 37, []), (37, .iconst 0, 38, []), (38, .putfield 32, 41, [0, 3, 4, 1154]), (41, .aload_n 0, 42, []), (42, .iconst 0, 43, []), (43, .putfield 35, 46, [0, 3, 5, 1156]), (46, .aload_n 0, 47, []), (47, .iconst 0, 48, [])],
  [(48, .putfield 38, 51, [0, 3, 6, 1158]), (51, .aload_n 0, 52, []), (52, .iconst 0, 53, []), (53, .putfield 41, 56, [0, 3, 7, 1160]), (56, .return_, 57, [])]]
noncomputable def z_r64 : List (List (List z_Row)) := [z_r64_0]
-- ClockParliament$House.copyFrom(LClockParliament$House;)V
set_option maxRecDepth 20000 in
noncomputable def z_r65_0 : List (List z_Row) := [[(0, .aload_n 0, 1, []), (1, .getfield 12, 4, [0, 3, 0, 1146]), (4, .aload_n 1, 5, []), (5, .getfield 12, 8, [0, 3, 0, 1146]), (8, .invokevirtual 44, 11, [0, 47, 1, 2188]), (11, .aload_n 0, 12, []), (12, .getfield 21, 15, [0, 3, 1, 1148]), (15, .aload_n 1, 16, [])],
  [(16, .getfield 21, 19, [0, 3, 1, 1148]), (19, .invokevirtual 48, 22, [0, 63, 1, 2196]), (22, .aload_n 0, 23, []), (23, .aload_n 1, 24, []), (24, .getfield 25, 27, [0, 3, 2, 1150]), (27, .putfield 25, 30, [0, 3, 2, 1150]), (30, .aload_n 0, 31, []), (31, .aload_n 1, 32, [])],
  [(32, .getfield 29, 35, [0, 3, 3, 1152]), (35, .putfield 29, 38, [0, 3, 3, 1152]), (38, .aload_n 0, 39, []), (39, .aload_n 1, 40, []), (40, .getfield 32, 43, [0, 3, 4, 1154]), (43, .putfield 32, 46, [0, 3, 4, 1154]), (46, .aload_n 0, 47, []), (47, .aload_n 1, 48, [])],
  [(48, .getfield 35, 51, [0, 3, 5, 1156]), (51, .putfield 35, 54, [0, 3, 5, 1156]), (54, .aload_n 0, 55, []), (55, .aload_n 1, 56, []), (56, .getfield 38, 59, [0, 3, 6, 1158]), (59, .putfield 38, 62, [0, 3, 6, 1158]), (62, .aload_n 0, 63, []), (63, .aload_n 1, 64, [])],
  [(64, .getfield 41, 67, [0, 3, 7, 1160]), (67, .putfield 41, 70, [0, 3, 7, 1160]), (70, .return_, 71, [])]]
noncomputable def z_r65 : List (List (List z_Row)) := [z_r65_0]
-- ClockParliament$House.refuses(LClockParliament$Order;LClockParliament$Refusal;)Z
set_option maxRecDepth 20000 in
noncomputable def z_r66_0 : List (List z_Row) := [[(0, .getstatic 51, 3, [2, 4190]), (3, .aload_n 1, 4, []), (4, .getfield 57, 7, [0, 5, 0, 2007]), (7, .invokevirtual 63, 10, [5, 328, 0, 4192]), (10, .iaload, 11, []), (11, .tableswitch 209 1 9 #[49, 63, 83, 97, 111, 125, 143, 157, 177], 60, [220, 60, 74, 94, 108, 122, 136, 154, 168, 188])],
  [],
  [],
  [(60, .aload_n 0, 61, []), (61, .aload_n 1, 62, []), (62, .getfield 69, 65, [0, 5, 1, 2009])],
  [(65, .aload_n 1, 66, []), (66, .getfield 72, 69, [0, 5, 2, 2011]), (69, .aload_n 2, 70, []), (70, .invokevirtual 75, 73, [0, 67, 3, 4198]), (73, .ireturn, 74, []), (74, .aload_n 2, 75, []), (75, .aload_n 0, 76, []), (76, .getfield 12, 79, [0, 3, 0, 1146]), (79, .aload_n 1, 80, [])],
  [(80, .getfield 69, 83, [0, 5, 1, 2009]), (83, .invokevirtual 79, 86, [0, 28, 1, 4215]), (86, .aload_n 1, 87, []), (87, .getfield 69, 90, [0, 5, 1, 2009]), (90, .invokevirtual 83, 93, [0, 20, 2, 4220]), (93, .ireturn, 94, []), (94, .aload_n 0, 95, []), (95, .aload_n 1, 96, [])],
  [(96, .getfield 69, 99, [0, 5, 1, 2009]), (99, .aload_n 1, 100, []), (100, .getfield 72, 103, [0, 5, 2, 2011]), (103, .aload_n 2, 104, []), (104, .invokevirtual 89, 107, [0, 68, 3, 4224]), (107, .ireturn, 108, []), (108, .aload_n 0, 109, []), (109, .aload_n 1, 110, []), (110, .getfield 69, 113, [0, 5, 1, 2009])],
  [(113, .aload_n 1, 114, []), (114, .getfield 72, 117, [0, 5, 2, 2011]), (117, .aload_n 2, 118, []), (118, .invokevirtual 92, 121, [0, 69, 3, 4229]), (121, .ireturn, 122, []), (122, .aload_n 0, 123, []), (123, .aload_n 1, 124, []), (124, .getfield 69, 127, [0, 5, 1, 2009]), (127, .aload_n 1, 128, [])],
  [(128, .getfield 72, 131, [0, 5, 2, 2011]), (131, .aload_n 2, 132, []), (132, .invokevirtual 95, 135, [0, 70, 3, 5002]), (135, .ireturn, 136, []), (136, .aload_n 0, 137, []), (137, .aload_n 1, 138, []), (138, .getfield 69, 141, [0, 5, 1, 2009]), (141, .aload_n 1, 142, []), (142, .getfield 72, 145, [0, 5, 2, 2011])],
  [(145, .aload_n 1, 146, []), (146, .getfield 98, 149, [0, 5, 3, 2013]), (149, .aload_n 2, 150, []), (150, .invokevirtual 101, 153, [0, 71, 4, 5010]), (153, .ireturn, 154, []), (154, .aload_n 0, 155, []), (155, .aload_n 1, 156, []), (156, .getfield 69, 159, [0, 5, 1, 2009]), (159, .aload_n 1, 160, [])],
  [(160, .getfield 72, 163, [0, 5, 2, 2011]), (163, .aload_n 2, 164, []), (164, .invokevirtual 105, 167, [0, 72, 3, 5015]), (167, .ireturn, 168, []), (168, .aload_n 2, 169, []), (169, .aload_n 0, 170, []), (170, .getfield 21, 173, [0, 3, 1, 1148]), (173, .aload_n 1, 174, []), (174, .getfield 69, 177, [0, 5, 1, 2009])],
  [(177, .invokevirtual 108, 180, [0, 52, 1, 5019]), (180, .aload_n 1, 181, []), (181, .getfield 69, 184, [0, 5, 1, 2009]), (184, .invokevirtual 83, 187, [0, 20, 2, 4220]), (187, .ireturn, 188, []), (188, .aload_n 2, 189, []), (189, .aload_n 0, 190, []), (190, .getfield 21, 193, [0, 3, 1, 1148])],
  [(193, .getfield 109, 196, [0, 0, 5, 1131]), (196, .invokevirtual 113, 199, [0, 1, 0, 5025]), (199, .ifCond .ne 7, 202, [206]), (202, .iconst 1, 203, []), (203, .goto 4, 206, [207]), (206, .iconst 0, 207, []), (207, .bipush 9, 209, [])],
  [(209, .aload_n 0, 210, []), (210, .getfield 21, 213, [0, 3, 1, 1148]), (213, .invokevirtual 118, 216, [0, 54, 0, 5026]), (216, .invokevirtual 121, 219, [0, 19, 3, 4214]), (219, .ireturn, 220, []), (220, .aload_n 2, 221, []), (221, .aload_n 1, 222, []), (222, .getfield 69, 225, [0, 5, 1, 2009])],
  [(225, .iconst 1, 226, []), (226, .bipush 24, 228, []), (228, .invokevirtual 125, 231, [0, 21, 3, 4202]), (231, .ireturn, 232, [])]]
noncomputable def z_r66 : List (List (List z_Row)) := [z_r66_0]
-- ClockParliament$House.refusesClock(IILClockParliament$Refusal;)Z
set_option maxRecDepth 20000 in
noncomputable def z_r67_0 : List (List z_Row) := [[(0, .aload_n 3, 1, []), (1, .iload_n 1, 2, []), (2, .iconst 0, 3, []), (3, .bipush 59, 5, []), (5, .invokevirtual 125, 8, [0, 21, 3, 4202]), (8, .ifCond .ne 40, 11, [48]), (11, .aload_n 3, 12, []), (12, .iload_n 2, 13, []), (13, .iconst 0, 14, []), (14, .iconst 3, 15, []), (15, .invokevirtual 125, 18, [0, 21, 3, 4202])],
  [(18, .ifCond .ne 30, 21, [48]), (21, .aload_n 3, 22, []), (22, .aload_n 0, 23, []), (23, .getfield 12, 26, [0, 3, 0, 1146]), (26, .invokevirtual 129, 29, [0, 27, 0, 2128]), (29, .bipush 8, 31, []), (31, .if_icmp .lt 7, 34, [38])],
  [(34, .iconst 1, 35, []), (35, .goto 4, 38, [39]), (38, .iconst 0, 39, []), (39, .iconst 1, 40, []), (40, .bipush 8, 42, []), (42, .invokevirtual 121, 45, [0, 19, 3, 4214]), (45, .ifCond .eq 7, 48, [52])],
  [(48, .iconst 1, 49, []), (49, .goto 4, 52, [53]), (52, .iconst 0, 53, []), (53, .ireturn, 54, [])]]
noncomputable def z_r67 : List (List (List z_Row)) := [z_r67_0]
-- ClockParliament$House.refusesKey(IILClockParliament$Refusal;)Z
set_option maxRecDepth 20000 in
noncomputable def z_r68_0 : List (List z_Row) := [[(0, .aload_n 3, 1, []), (1, .aload_n 0, 2, []), (2, .getfield 12, 5, [0, 3, 0, 1146]), (5, .getfield 130, 8, [0, 1, 4, 1095]), (8, .iload_n 1, 9, []), (9, .invokevirtual 133, 12, [0, 2, 1, 4228]), (12, .iload_n 1, 13, []), (13, .invokevirtual 83, 16, [0, 20, 2, 4220])],
  [(16, .ifCond .ne 61, 19, [77]), (19, .aload_n 3, 20, []), (20, .iload_n 2, 21, []), (21, .iconst (-1), 22, []), (22, .if_icmp .eq 14, 25, [36]), (25, .aload_n 0, 26, []), (26, .getfield 12, 29, [0, 3, 0, 1146]), (29, .iload_n 2, 30, []), (30, .invokevirtual 79, 33, [0, 28, 1, 4215])],
  [(33, .ifCond .eq 7, 36, [40]), (36, .iconst 1, 37, []), (37, .goto 4, 40, [41]), (40, .iconst 0, 41, []), (41, .iload_n 2, 42, []), (42, .invokevirtual 83, 45, [0, 20, 2, 4220]), (45, .ifCond .ne 32, 48, [77])],
  [(48, .aload_n 3, 49, []), (49, .aload_n 0, 50, []), (50, .getfield 12, 53, [0, 3, 0, 1146]), (53, .getfield 130, 56, [0, 1, 4, 1095]), (56, .iload_n 1, 57, []), (57, .invokevirtual 134, 60, [0, 3, 1, 2133]), (60, .iload_n 2, 61, []), (61, .if_icmp .ne 7, 64, [68])],
  [(64, .iconst 1, 65, []), (65, .goto 4, 68, [69]), (68, .iconst 0, 69, []), (69, .iconst 4, 70, []), (70, .iload_n 2, 71, []), (71, .invokevirtual 121, 74, [0, 19, 3, 4214]), (74, .ifCond .eq 7, 77, [81]), (77, .iconst 1, 78, []), (78, .goto 4, 81, [82])],
  [(81, .iconst 0, 82, []), (82, .ireturn, 83, [])]]
noncomputable def z_r68 : List (List (List z_Row)) := [z_r68_0]
-- ClockParliament$House.refusesWinding(IILClockParliament$Refusal;)Z
set_option maxRecDepth 20000 in
noncomputable def z_r69_0 : List (List z_Row) := [[(0, .aload_n 3, 1, []), (1, .aload_n 0, 2, []), (2, .getfield 12, 5, [0, 3, 0, 1146]), (5, .getfield 130, 8, [0, 1, 4, 1095]), (8, .iload_n 1, 9, []), (9, .invokevirtual 133, 12, [0, 2, 1, 4228]), (12, .iload_n 1, 13, []), (13, .invokevirtual 83, 16, [0, 20, 2, 4220])],
  [(16, .ifCond .ne 19, 19, [35]), (19, .aload_n 3, 20, []), (20, .aload_n 0, 21, []), (21, .getfield 12, 24, [0, 3, 0, 1146]), (24, .iload_n 2, 25, []), (25, .invokevirtual 79, 28, [0, 28, 1, 4215]), (28, .iload_n 2, 29, []), (29, .invokevirtual 83, 32, [0, 20, 2, 4220])],
  [(32, .ifCond .eq 5, 35, [37]), (35, .iconst 1, 36, []), (36, .ireturn, 37, []), (37, .aload_n 0, 38, []), (38, .getfield 12, 41, [0, 3, 0, 1146]), (41, .getfield 130, 44, [0, 1, 4, 1095]), (44, .iload_n 1, 45, []), (45, .invokevirtual 134, 48, [0, 3, 1, 2133])],
  [(48, .istore 4, 50, []), (50, .aload_n 3, 51, []), (51, .iload 4, 53, []), (53, .iconst (-1), 54, []), (54, .if_icmp .ne 7, 57, [61]), (57, .iconst 1, 58, []), (58, .goto 4, 61, [62]), (61, .iconst 0, 62, []), (62, .iconst 5, 63, []), (63, .iload_n 1, 64, [])],
  [(64, .invokevirtual 121, 67, [0, 19, 3, 4214]), (67, .ifCond .ne 71, 70, [138]), (70, .aload_n 3, 71, []), (71, .aload_n 0, 72, []), (72, .getfield 12, 75, [0, 3, 0, 1146]), (75, .iload 4, 77, []), (77, .iload_n 2, 78, []), (78, .invokevirtual 138, 81, [0, 31, 2, 4233])],
  [(81, .ifCond .ne 7, 84, [88]), (84, .iconst 1, 85, []), (85, .goto 4, 88, [89]), (88, .iconst 0, 89, []), (89, .bipush 10, 91, []), (91, .aload_n 0, 92, []), (92, .getfield 12, 95, [0, 3, 0, 1146]), (95, .iload 4, 97, [])],
  [(97, .iload_n 2, 98, []), (98, .invokevirtual 142, 101, [0, 30, 2, 5001]), (101, .invokevirtual 121, 104, [0, 19, 3, 4214]), (104, .ifCond .ne 34, 107, [138]), (107, .aload_n 3, 108, []), (108, .aload_n 0, 109, []), (109, .getfield 12, 112, [0, 3, 0, 1146])],
  [(112, .getfield 146, 115, [0, 1, 1, 1087]), (115, .iload_n 2, 116, []), (116, .invokevirtual 134, 119, [0, 3, 1, 2133]), (119, .bipush 24, 121, []), (121, .if_icmp .ne 7, 124, [128]), (124, .iconst 1, 125, []), (125, .goto 4, 128, [129])],
  [(128, .iconst 0, 129, []), (129, .iconst 4, 130, []), (130, .bipush 24, 132, []), (132, .invokevirtual 121, 135, [0, 19, 3, 4214]), (135, .ifCond .eq 7, 138, [142]), (138, .iconst 1, 139, []), (139, .goto 4, 142, [143]), (142, .iconst 0, 143, []), (143, .ireturn, 144, [])]]
noncomputable def z_r69 : List (List (List z_Row)) := [z_r69_0]
-- ClockParliament$House.refusesMove(IILClockParliament$Refusal;)Z
set_option maxRecDepth 20000 in
noncomputable def z_r70_0 : List (List z_Row) := [[(0, .aload_n 0, 1, []), (1, .getfield 12, 4, [0, 3, 0, 1146]), (4, .getfield 146, 7, [0, 1, 1, 1087]), (7, .iload_n 1, 8, []), (8, .invokevirtual 134, 11, [0, 3, 1, 2133]), (11, .istore 4, 13, []), (13, .aload_n 3, 14, []), (14, .aload_n 0, 15, []), (15, .getfield 12, 18, [0, 3, 0, 1146])],
  [(18, .iload_n 1, 19, []), (19, .invokevirtual 79, 22, [0, 28, 1, 4215]), (22, .iload_n 1, 23, []), (23, .invokevirtual 83, 26, [0, 20, 2, 4220]), (26, .ifCond .ne 67, 29, [93]), (29, .aload_n 3, 30, []), (30, .iload_n 2, 31, []), (31, .iconst 1, 32, [])],
  [(32, .bipush 59, 34, []), (34, .invokevirtual 125, 37, [0, 21, 3, 4202]), (37, .ifCond .ne 56, 40, [93]), (40, .aload_n 3, 41, []), (41, .aload_n 0, 42, []), (42, .getfield 12, 45, [0, 3, 0, 1146]), (45, .iload_n 1, 46, []), (46, .invokevirtual 149, 49, [0, 29, 1, 5006])],
  [(49, .bipush 7, 51, []), (51, .aload_n 0, 52, []), (52, .getfield 12, 55, [0, 3, 0, 1146]), (55, .getfield 152, 58, [0, 1, 0, 1084]), (58, .iload_n 1, 59, []), (59, .invokevirtual 134, 62, [0, 3, 1, 2133]), (62, .invokevirtual 121, 65, [0, 19, 3, 4214])],
  [(65, .ifCond .ne 28, 68, [93]), (68, .aload_n 3, 69, []), (69, .iload_n 2, 70, []), (70, .invokestatic 155, 73, [1, 48, 1, 5007]), (73, .iload 4, 75, []), (75, .if_icmp .le 7, 78, [82]), (78, .iconst 1, 79, []), (79, .goto 4, 82, [83])],
  [(82, .iconst 0, 83, []), (83, .bipush 6, 85, []), (85, .iload 4, 87, []), (87, .invokevirtual 121, 90, [0, 19, 3, 4214]), (90, .ifCond .eq 7, 93, [97]), (93, .iconst 1, 94, []), (94, .goto 4, 97, [98])],
  [(97, .iconst 0, 98, []), (98, .ireturn, 99, [])]]
noncomputable def z_r70 : List (List (List z_Row)) := [z_r70_0]
-- ClockParliament$House.refusesBill(IIILClockParliament$Refusal;)Z
set_option maxRecDepth 20000 in
noncomputable def z_r71_0 : List (List z_Row) := [[(0, .aload 4, 2, []), (2, .aload_n 0, 3, []), (3, .getfield 12, 6, [0, 3, 0, 1146]), (6, .iload_n 1, 7, []), (7, .invokevirtual 79, 10, [0, 28, 1, 4215]), (10, .iload_n 1, 11, []), (11, .invokevirtual 83, 14, [0, 20, 2, 4220]), (14, .ifCond .ne 84, 17, [98])],
  [(17, .aload 4, 19, []), (19, .iload_n 2, 20, []), (20, .iconst 0, 21, []), (21, .bipush 59, 23, []), (23, .invokevirtual 125, 26, [0, 21, 3, 4202]), (26, .ifCond .ne 72, 29, [98]), (29, .aload 4, 31, []), (31, .iload_n 3, 32, [])],
  [(32, .iconst 1, 33, []), (33, .bipush 9, 35, []), (35, .invokevirtual 125, 38, [0, 21, 3, 4202]), (38, .ifCond .ne 60, 41, [98]), (41, .aload 4, 43, []), (43, .aload_n 0, 44, []), (44, .getfield 12, 47, [0, 3, 0, 1146]), (47, .iload_n 1, 48, [])],
  [(48, .invokevirtual 149, 51, [0, 29, 1, 5006]), (51, .bipush 7, 53, []), (53, .aload_n 0, 54, []), (54, .getfield 12, 57, [0, 3, 0, 1146]), (57, .getfield 152, 60, [0, 1, 0, 1084]), (60, .iload_n 1, 61, []), (61, .invokevirtual 134, 64, [0, 3, 1, 2133])],
  [(64, .invokevirtual 121, 67, [0, 19, 3, 4214]), (67, .ifCond .ne 31, 70, [98]), (70, .aload 4, 72, []), (72, .aload_n 0, 73, []), (73, .getfield 21, 76, [0, 3, 1, 1148]), (76, .invokevirtual 158, 79, [0, 51, 0, 5014]), (79, .bipush 10, 81, [])],
  [(81, .if_icmp .lt 7, 84, [88]), (84, .iconst 1, 85, []), (85, .goto 4, 88, [89]), (88, .iconst 0, 89, []), (89, .iconst 1, 90, []), (90, .bipush 10, 92, []), (92, .invokevirtual 121, 95, [0, 19, 3, 4214]), (95, .ifCond .eq 7, 98, [102])],
  [(98, .iconst 1, 99, []), (99, .goto 4, 102, [103]), (102, .iconst 0, 103, []), (103, .ireturn, 104, [])]]
noncomputable def z_r71 : List (List (List z_Row)) := [z_r71_0]
-- ClockParliament$House.refusesAdjourning(IILClockParliament$Refusal;)Z
set_option maxRecDepth 20000 in
noncomputable def z_r72_0 : List (List z_Row) := [[(0, .aload_n 3, 1, []), (1, .aload_n 0, 2, []), (2, .getfield 21, 5, [0, 3, 1, 1148]), (5, .iload_n 1, 6, []), (6, .invokevirtual 108, 9, [0, 52, 1, 5019]), (9, .iload_n 1, 10, []), (10, .invokevirtual 83, 13, [0, 20, 2, 4220]), (13, .ifCond .ne 42, 16, [55])],
  [(16, .aload_n 3, 17, []), (17, .iload_n 2, 18, []), (18, .iconst 1, 19, []), (19, .bipush 12, 21, []), (21, .invokevirtual 125, 24, [0, 21, 3, 4202]), (24, .ifCond .ne 31, 27, [55]), (27, .aload_n 3, 28, []), (28, .aload_n 0, 29, []), (29, .getfield 21, 32, [0, 3, 1, 1148])],
  [(32, .iload_n 1, 33, []), (33, .invokevirtual 159, 36, [0, 53, 1, 5024]), (36, .bipush 8, 38, []), (38, .aload_n 0, 39, []), (39, .getfield 21, 42, [0, 3, 1, 1148]), (42, .getfield 162, 45, [0, 0, 3, 1126]), (45, .iload_n 1, 46, []), (46, .invokevirtual 134, 49, [0, 3, 1, 2133])],
  [(49, .invokevirtual 121, 52, [0, 19, 3, 4214]), (52, .ifCond .eq 7, 55, [59]), (55, .iconst 1, 56, []), (56, .goto 4, 59, [60]), (59, .iconst 0, 60, []), (60, .ireturn, 61, [])]]
noncomputable def z_r72 : List (List (List z_Row)) := [z_r72_0]
-- ClockParliament$House.carryOut(LClockParliament$Order;)I
set_option maxRecDepth 20000 in
noncomputable def z_r73_0 : List (List z_Row) := [[(0, .getstatic 51, 3, [2, 4190]), (3, .aload_n 1, 4, []), (4, .getfield 57, 7, [0, 5, 0, 2007]), (7, .invokevirtual 63, 10, [5, 328, 0, 4192]), (10, .iaload, 11, []), (11, .tableswitch 181 1 9 #[49, 65, 74, 90, 112, 128, 148, 164, 176], 60, [192, 60, 76, 85, 101, 123, 139, 159, 175, 187])],
  [],
  [],
  [(60, .aload_n 0, 61, []), (61, .getfield 12, 64, [0, 3, 0, 1146])],
  [(64, .aload_n 1, 65, []), (65, .getfield 69, 68, [0, 5, 1, 2009]), (68, .aload_n 1, 69, []), (69, .getfield 72, 72, [0, 5, 2, 2011]), (72, .invokevirtual 165, 75, [0, 33, 2, 5074]), (75, .ireturn, 76, []), (76, .aload_n 0, 77, []), (77, .aload_n 1, 78, []), (78, .getfield 69, 81, [0, 5, 1, 2009])],
  [(81, .invokevirtual 168, 84, [0, 74, 1, 5078]), (84, .ireturn, 85, []), (85, .aload_n 0, 86, []), (86, .getfield 12, 89, [0, 3, 0, 1146]), (89, .aload_n 1, 90, []), (90, .getfield 69, 93, [0, 5, 1, 2009]), (93, .aload_n 1, 94, []), (94, .getfield 72, 97, [0, 5, 2, 2011])],
  [(97, .invokevirtual 171, 100, [0, 35, 2, 5095]), (100, .ireturn, 101, []), (101, .aload_n 0, 102, []), (102, .dup, 103, []), (103, .getfield 41, 106, [0, 3, 7, 1160]), (106, .iconst 1, 107, []), (107, .iadd, 108, []), (108, .putfield 41, 111, [0, 3, 7, 1160]), (111, .aload_n 0, 112, [])],
  [(112, .getfield 12, 115, [0, 3, 0, 1146]), (115, .aload_n 1, 116, []), (116, .getfield 72, 119, [0, 5, 2, 2011]), (119, .invokevirtual 174, 122, [0, 36, 1, 5099]), (122, .ireturn, 123, []), (123, .aload_n 0, 124, []), (124, .getfield 12, 127, [0, 3, 0, 1146]), (127, .aload_n 1, 128, [])],
  [(128, .getfield 69, 131, [0, 5, 1, 2009]), (131, .aload_n 1, 132, []), (132, .getfield 72, 135, [0, 5, 2, 2011]), (135, .invokevirtual 177, 138, [0, 37, 2, 5103]), (138, .ireturn, 139, []), (139, .aload_n 0, 140, []), (140, .getfield 21, 143, [0, 3, 1, 1148]), (143, .aload_n 1, 144, [])],
  [(144, .getfield 69, 147, [0, 5, 1, 2009]), (147, .aload_n 1, 148, []), (148, .getfield 72, 151, [0, 5, 2, 2011]), (151, .aload_n 1, 152, []), (152, .getfield 98, 155, [0, 5, 3, 2013]), (155, .invokevirtual 180, 158, [0, 55, 3, 5108]), (158, .ireturn, 159, []), (159, .aload_n 0, 160, [])],
  [(160, .getfield 21, 163, [0, 3, 1, 1148]), (163, .aload_n 1, 164, []), (164, .getfield 69, 167, [0, 5, 1, 2009]), (167, .aload_n 1, 168, []), (168, .getfield 72, 171, [0, 5, 2, 2011]), (171, .invokevirtual 184, 174, [0, 56, 2, 5113]), (174, .ireturn, 175, []), (175, .aload_n 0, 176, [])],
  [(176, .getfield 21, 179, [0, 3, 1, 1148]), (179, .aload_n 1, 180, []), (180, .getfield 69, 183, [0, 5, 1, 2009]), (183, .invokevirtual 187, 186, [0, 57, 1, 5120]), (186, .ireturn, 187, []), (187, .aload_n 0, 188, []), (188, .invokevirtual 190, 191, [0, 75, 0, 5125]), (191, .ireturn, 192, [])],
  [(192, .aload_n 0, 193, []), (193, .aload_n 1, 194, []), (194, .getfield 69, 197, [0, 5, 1, 2009]), (197, .invokevirtual 193, 200, [0, 76, 1, 5139]), (200, .ireturn, 201, [])]]
noncomputable def z_r73 : List (List (List z_Row)) := [z_r73_0]
-- ClockParliament$House.sendAway(I)I
set_option maxRecDepth 20000 in
noncomputable def z_r74_0 : List (List z_Row) := [[(0, .aload_n 0, 1, []), (1, .getfield 12, 4, [0, 3, 0, 1146]), (4, .iload_n 1, 5, []), (5, .invokevirtual 196, 8, [0, 34, 1, 5082]), (8, .aload_n 0, 9, []), (9, .getfield 21, 12, [0, 3, 1, 1148]), (12, .getfield 199, 15, [0, 0, 0, 1117]), (15, .iload_n 1, 16, [])],
  [(16, .invokevirtual 202, 19, [0, 9, 1, 5094]), (19, .aload_n 0, 20, []), (20, .getfield 12, 23, [0, 3, 0, 1146]), (23, .invokevirtual 129, 26, [0, 27, 0, 2128]), (26, .ireturn, 27, [])]]
noncomputable def z_r74 : List (List (List z_Row)) := [z_r74_0]
-- ClockParliament$House.holdVote()I
set_option maxRecDepth 20000 in
noncomputable def z_r75_0 : List (List z_Row) := [[(0, .aload_n 0, 1, []), (1, .getfield 21, 4, [0, 3, 1, 1148]), (4, .getfield 109, 7, [0, 0, 5, 1131]), (7, .iconst 0, 8, []), (8, .invokevirtual 134, 11, [0, 3, 1, 2133]), (11, .istore_n 1, 12, []), (12, .aload_n 0, 13, []), (13, .iload_n 1, 14, []), (14, .invokevirtual 205, 17, [0, 77, 1, 2124])],
  [(17, .istore_n 2, 18, []), (18, .iload_n 2, 19, []), (19, .ifCond .ne 15, 22, [34]), (22, .aload_n 0, 23, []), (23, .getfield 21, 26, [0, 3, 1, 1148]), (26, .iload_n 1, 27, []), (27, .iconst 1, 28, []), (28, .invokevirtual 184, 31, [0, 56, 2, 5113]), (31, .pop, 32, [])],
  [(32, .iconst 0, 33, []), (33, .ireturn, 34, []), (34, .aload_n 0, 35, []), (35, .iload_n 2, 36, []), (36, .invokevirtual 208, 39, [0, 79, 1, 2148]), (39, .istore_n 3, 40, []), (40, .aload_n 0, 41, []), (41, .dup, 42, []), (42, .getfield 29, 45, [0, 3, 3, 1152]), (45, .iconst 1, 46, []), (46, .iadd, 47, []), (47, .putfield 29, 50, [0, 3, 3, 1152])],
  [(50, .aload_n 0, 51, []), (51, .dup, 52, []), (52, .getfield 32, 55, [0, 3, 4, 1154]), (55, .aload_n 0, 56, []), (56, .iload_n 3, 57, []), (57, .iload_n 1, 58, []), (58, .invokevirtual 211, 61, [0, 83, 2, 2155]), (61, .ifCond .eq 7, 64, [68])],
  [(64, .iconst 1, 65, []), (65, .goto 4, 68, [69]), (68, .iconst 0, 69, []), (69, .iadd, 70, []), (70, .putfield 32, 73, [0, 3, 4, 1154]), (73, .aload_n 0, 74, []), (74, .dup, 75, []), (75, .getfield 35, 78, [0, 3, 5, 1156]), (78, .iconst 3, 79, []), (79, .iload_n 2, 80, [])],
  [(80, .invokestatic 214, 83, [1, 327, 1, 5129]), (83, .imul, 84, []), (84, .iadd, 85, []), (85, .putfield 35, 88, [0, 3, 5, 1156]), (88, .iconst 0, 89, []), (89, .istore 4, 91, []), (91, .iload 4, 93, []), (93, .aload_n 0, 94, []), (94, .getfield 12, 97, [0, 3, 0, 1146])],
  [(97, .invokevirtual 129, 100, [0, 27, 0, 2128]), (100, .if_icmp .ge 27, 103, [127]), (103, .iload_n 2, 104, []), (104, .iload 4, 106, []), (106, .invokestatic 219, 109, [4, 159, 2, 2152]), (109, .ifCond .eq 12, 112, [121])],
  [(112, .aload_n 0, 113, []), (113, .getfield 12, 116, [0, 3, 0, 1146]), (116, .iload 4, 118, []), (118, .invokevirtual 222, 121, [0, 38, 1, 5135]), (121, .iinc 4 1, 124, []), (124, .goto (-33), 127, [91]), (127, .aload_n 0, 128, [])],
  [(128, .getfield 21, 131, [0, 3, 1, 1148]), (131, .iload_n 1, 132, []), (132, .invokevirtual 187, 135, [0, 57, 1, 5120]), (135, .pop, 136, []), (136, .iload_n 3, 137, []), (137, .ireturn, 138, [])]]
noncomputable def z_r75 : List (List (List z_Row)) := [z_r75_0]
-- ClockParliament$House.passHours(I)I
set_option maxRecDepth 20000 in
noncomputable def z_r76_0 : List (List z_Row) := [[(0, .aload_n 0, 1, []), (1, .getfield 38, 4, [0, 3, 6, 1158]), (4, .istore_n 2, 5, []), (5, .iconst 0, 6, []), (6, .istore_n 3, 7, []), (7, .iload_n 3, 8, []), (8, .iload_n 1, 9, []), (9, .if_icmp .ge 42, 12, [51]), (12, .aload_n 0, 13, []), (13, .dup, 14, []), (14, .getfield 25, 17, [0, 3, 2, 1150])],
  [(17, .iconst 1, 18, []), (18, .iadd, 19, []), (19, .putfield 25, 22, [0, 3, 2, 1150]), (22, .aload_n 0, 23, []), (23, .dup, 24, []), (24, .getfield 38, 27, [0, 3, 6, 1158]), (27, .aload_n 0, 28, []), (28, .getfield 21, 31, [0, 3, 1, 1148]), (31, .invokevirtual 225, 34, [0, 58, 0, 2205])],
  [(34, .iadd, 35, []), (35, .putfield 38, 38, [0, 3, 6, 1158]), (38, .aload_n 0, 39, []), (39, .getfield 12, 42, [0, 3, 0, 1146]), (42, .invokevirtual 228, 45, [0, 39, 0, 2221]), (45, .iinc 3 1, 48, [])],
  [(48, .goto (-41), 51, [7]), (51, .aload_n 0, 52, []), (52, .getfield 38, 55, [0, 3, 6, 1158]), (55, .iload_n 2, 56, []), (56, .isub, 57, []), (57, .ireturn, 58, [])]]
noncomputable def z_r76 : List (List (List z_Row)) := [z_r76_0]
-- ClockParliament$House.votersOn(I)I
set_option maxRecDepth 20000 in
noncomputable def z_r77_0 : List (List z_Row) := [[(0, .iconst 0, 1, []), (1, .istore_n 2, 2, []), (2, .iconst 0, 3, []), (3, .istore_n 3, 4, []), (4, .iload_n 3, 5, []), (5, .aload_n 0, 6, []), (6, .getfield 12, 9, [0, 3, 0, 1146]), (9, .invokevirtual 129, 12, [0, 27, 0, 2128]), (12, .if_icmp .ge 37, 15, [49]), (15, .aload_n 0, 16, [])],
  [(16, .getfield 12, 19, [0, 3, 0, 1146]), (19, .iload_n 3, 20, []), (20, .aload_n 0, 21, []), (21, .getfield 21, 24, [0, 3, 1, 1148]), (24, .getfield 230, 27, [0, 0, 1, 1120]), (27, .iload_n 1, 28, []), (28, .invokevirtual 134, 31, [0, 3, 1, 2133]), (31, .invokevirtual 231, 34, [0, 32, 2, 2134])],
  [(34, .ifCond .eq 9, 37, [43]), (37, .iload_n 2, 38, []), (38, .iconst 1, 39, []), (39, .iload_n 3, 40, []), (40, .ishl, 41, []), (41, .ior, 42, []), (42, .istore_n 2, 43, []), (43, .iinc 3 1, 46, []), (46, .goto (-42), 49, [4])],
  [(49, .iload_n 2, 50, []), (50, .ireturn, 51, [])]]
noncomputable def z_r77 : List (List (List z_Row)) := [z_r77_0]
-- ClockParliament$House.majorityOn(I)I
set_option maxRecDepth 20000 in
noncomputable def z_r78_0 : List (List z_Row) := [[(0, .aload_n 0, 1, []), (1, .aload_n 0, 2, []), (2, .iload_n 1, 3, []), (3, .invokevirtual 205, 6, [0, 77, 1, 2124]), (6, .invokevirtual 208, 9, [0, 79, 1, 2148]), (9, .ireturn, 10, [])]]
noncomputable def z_r78 : List (List (List z_Row)) := [z_r78_0]
-- ClockParliament$House.majorityOf(I)I
set_option maxRecDepth 20000 in
noncomputable def z_r79_0 : List (List z_Row) := [[(0, .iconst 0, 1, []), (1, .istore_n 2, 2, []), (2, .iconst 0, 3, []), (3, .istore_n 3, 4, []), (4, .iload_n 3, 5, []), (5, .aload_n 0, 6, []), (6, .getfield 12, 9, [0, 3, 0, 1146]), (9, .invokevirtual 129, 12, [0, 27, 0, 2128]), (12, .if_icmp .ge 40, 15, [52]), (15, .iload_n 1, 16, [])],
  [(16, .iload_n 3, 17, []), (17, .invokestatic 219, 20, [4, 159, 2, 2152]), (20, .ifCond .eq 26, 23, [46]), (23, .aload_n 0, 24, []), (24, .getfield 12, 27, [0, 3, 0, 1146]), (27, .getfield 234, 30, [0, 1, 2, 1091]), (30, .iload_n 3, 31, []), (31, .invokevirtual 134, 34, [0, 3, 1, 2133])],
  [(34, .istore 4, 36, []), (36, .iload_n 2, 37, []), (37, .iload 4, 39, []), (39, .iconst 3, 40, []), (40, .iload 4, 42, []), (42, .isub, 43, []), (43, .isub, 44, []), (44, .iadd, 45, []), (45, .istore_n 2, 46, []), (46, .iinc 3 1, 49, [])],
  [(49, .goto (-45), 52, [4]), (52, .iload_n 2, 53, []), (53, .ireturn, 54, [])]]
noncomputable def z_r79 : List (List (List z_Row)) := [z_r79_0]
-- ClockParliament$House.majorityByLeanings(I)I
set_option maxRecDepth 20000 in
noncomputable def z_r80_0 : List (List z_Row) := [[(0, .iconst 0, 1, []), (1, .istore_n 2, 2, []), (2, .iconst 0, 3, []), (3, .istore_n 3, 4, []), (4, .iload_n 3, 5, []), (5, .iconst 3, 6, []), (6, .if_icmp .gt 24, 9, [30]), (9, .iload_n 2, 10, []), (10, .aload_n 0, 11, []), (11, .iload_n 1, 12, []), (12, .iload_n 3, 13, []), (13, .invokevirtual 237, 16, [0, 81, 2, 2172])],
  [(16, .iconst 2, 17, []), (17, .iload_n 3, 18, []), (18, .imul, 19, []), (19, .iconst 3, 20, []), (20, .isub, 21, []), (21, .imul, 22, []), (22, .iadd, 23, []), (23, .istore_n 2, 24, []), (24, .iinc 3 1, 27, []), (27, .goto (-23), 30, [4]), (30, .iload_n 2, 31, []), (31, .ireturn, 32, [])]]
noncomputable def z_r80 : List (List (List z_Row)) := [z_r80_0]
-- ClockParliament$House.votersLeaning(II)I
set_option maxRecDepth 20000 in
noncomputable def z_r81_0 : List (List z_Row) := [[(0, .aload_n 0, 1, []), (1, .getfield 21, 4, [0, 3, 1, 1148]), (4, .getfield 230, 7, [0, 0, 1, 1120]), (7, .iload_n 1, 8, []), (8, .invokevirtual 134, 11, [0, 3, 1, 2133]), (11, .istore_n 3, 12, []), (12, .iconst 0, 13, []), (13, .istore 4, 15, []), (15, .iconst 0, 16, [])],
  [(16, .istore 5, 18, []), (18, .iload 5, 20, []), (20, .aload_n 0, 21, []), (21, .getfield 12, 24, [0, 3, 0, 1146]), (24, .invokevirtual 129, 27, [0, 27, 0, 2128]), (27, .if_icmp .ge 41, 30, [68]), (30, .aload_n 0, 31, []), (31, .getfield 12, 34, [0, 3, 0, 1146])],
  [(34, .getfield 234, 37, [0, 1, 2, 1091]), (37, .iload 5, 39, []), (39, .invokevirtual 134, 42, [0, 3, 1, 2133]), (42, .iload_n 2, 43, []), (43, .if_icmp .ne 19, 46, [62]), (46, .aload_n 0, 47, []), (47, .getfield 12, 50, [0, 3, 0, 1146])],
  [(50, .iload 5, 52, []), (52, .iload_n 3, 53, []), (53, .invokevirtual 231, 56, [0, 32, 2, 2134]), (56, .ifCond .eq 6, 59, [62]), (59, .iinc 4 1, 62, []), (62, .iinc 5 1, 65, [])],
  [(65, .goto (-47), 68, [18]), (68, .iload 4, 70, []), (70, .ireturn, 71, [])]]
noncomputable def z_r81 : List (List (List z_Row)) := [z_r81_0]
-- ClockParliament$House.isWon(I)Z
set_option maxRecDepth 20000 in
noncomputable def z_r82_0 : List (List z_Row) := [[(0, .aload_n 0, 1, []), (1, .aload_n 0, 2, []), (2, .iload_n 1, 3, []), (3, .invokevirtual 240, 6, [0, 78, 1, 2120]), (6, .iload_n 1, 7, []), (7, .invokevirtual 211, 10, [0, 83, 2, 2155]), (10, .ireturn, 11, [])]]
noncomputable def z_r82 : List (List (List z_Row)) := [z_r82_0]
-- ClockParliament$House.isEnough(II)Z
set_option maxRecDepth 20000 in
noncomputable def z_r83_0 : List (List z_Row) := [[(0, .iload_n 1, 1, []), (1, .aload_n 0, 2, []), (2, .getfield 21, 5, [0, 3, 1, 1148]), (5, .getfield 243, 8, [0, 0, 2, 1124]), (8, .iload_n 2, 9, []), (9, .invokevirtual 134, 12, [0, 3, 1, 2133]), (12, .if_icmp .lt 7, 15, [19]), (15, .iconst 1, 16, [])],
  [(16, .goto 4, 19, [20]), (19, .iconst 0, 20, []), (20, .ireturn, 21, [])]]
noncomputable def z_r83 : List (List (List z_Row)) := [z_r83_0]
-- ClockParliament$History.<init>()V
set_option maxRecDepth 20000 in
noncomputable def z_r84_0 : List (List z_Row) := [[(0, .aload_n 0, 1, []), (1, .invokespecial 3, 4, [7, 0, 0, 1184]), (4, .aload_n 0, 5, []), (5, .bipush 8, 7, []), (7, .anewarray 9, 10, []), (10, .putfield 11, 13, [0, 2, 0, 1188]), (13, .aload_n 0, 14, []), (14, .iconst 0, 15, []), (15, .putfield 17, 18, [0, 2, 1, 1189])],
  [(18, .aload_n 0, 19, []), (19, .iconst 0, 20, []), (20, .putfield 21, 23, [0, 2, 2, 1190]), (23, .iconst 0, 24, []), (24, .istore_n 1, 25, []), (25, .iload_n 1, 26, []), (26, .aload_n 0, 27, []), (27, .getfield 11, 30, [0, 2, 0, 1188]), (30, .arraylength, 31, []), (31, .if_icmp .ge 22, 34, [53])],
  [(34, .aload_n 0, 35, []), (35, .getfield 11, 38, [0, 2, 0, 1188]), (38, .iload_n 1, 39, []), (39, .new 9, 42, [0, 3, 1185, 1047, 1002]), (42, .dup, 43, []), (43, .invokespecial 24, 46, [3, 64, 0, 1187]), (46, .aastore, 47, []), (47, .iinc 1 1, 50, [])],
  [(50, .goto (-25), 53, [25]), (53, .return_, 54, [])]]
noncomputable def z_r84 : List (List (List z_Row)) := [z_r84_0]
-- ClockParliament$History.keep(LClockParliament$House;)V
set_option maxRecDepth 20000 in
noncomputable def z_r85_0 : List (List z_Row) := [[(0, .aload_n 0, 1, []), (1, .getfield 21, 4, [0, 2, 2, 1190]), (4, .bipush 8, 6, []), (6, .if_icmp .ge 16, 9, [22]), (9, .aload_n 0, 10, []), (10, .dup, 11, []), (11, .getfield 21, 14, [0, 2, 2, 1190]), (14, .iconst 1, 15, []), (15, .iadd, 16, [])],
  [(16, .putfield 21, 19, [0, 2, 2, 1190]), (19, .goto 16, 22, [35]), (22, .aload_n 0, 23, []), (23, .aload_n 0, 24, []), (24, .getfield 17, 27, [0, 2, 1, 1189]), (27, .iconst 1, 28, []), (28, .iadd, 29, []), (29, .bipush 8, 31, []), (31, .irem, 32, [])],
  [(32, .putfield 17, 35, [0, 2, 1, 1189]), (35, .aload_n 0, 36, []), (36, .getfield 11, 39, [0, 2, 0, 1188]), (39, .aload_n 0, 40, []), (40, .invokevirtual 25, 43, [0, 88, 0, 5062]), (43, .aaload, 44, []), (44, .aload_n 1, 45, []), (45, .invokevirtual 29, 48, [0, 65, 1, 5069])],
  [(48, .return_, 49, [])]]
noncomputable def z_r85 : List (List (List z_Row)) := [z_r85_0]
-- ClockParliament$History.giveBack(LClockParliament$House;)I
set_option maxRecDepth 20000 in
noncomputable def z_r86_0 : List (List z_Row) := [[(0, .aload_n 0, 1, []), (1, .getfield 21, 4, [0, 2, 2, 1190]), (4, .ifCond .le 26, 7, [30]), (7, .aload_n 1, 8, []), (8, .aload_n 0, 9, []), (9, .getfield 11, 12, [0, 2, 0, 1188]), (12, .aload_n 0, 13, []), (13, .invokevirtual 25, 16, [0, 88, 0, 5062])],
  [(16, .aaload, 17, []), (17, .invokevirtual 29, 20, [0, 65, 1, 5069]), (20, .aload_n 0, 21, []), (21, .dup, 22, []), (22, .getfield 21, 25, [0, 2, 2, 1190]), (25, .iconst 1, 26, []), (26, .isub, 27, []), (27, .putfield 21, 30, [0, 2, 2, 1190]), (30, .aload_n 0, 31, []), (31, .getfield 21, 34, [0, 2, 2, 1190])],
  [(34, .ireturn, 35, [])]]
noncomputable def z_r86 : List (List (List z_Row)) := [z_r86_0]
-- ClockParliament$History.clear()V
set_option maxRecDepth 20000 in
noncomputable def z_r87_0 : List (List z_Row) := [[(0, .aload_n 0, 1, []), (1, .iconst 0, 2, []), (2, .putfield 21, 5, [0, 2, 2, 1190]), (5, .return_, 6, [])]]
noncomputable def z_r87 : List (List (List z_Row)) := [z_r87_0]
-- ClockParliament$History.placeOfLatest()I
set_option maxRecDepth 20000 in
noncomputable def z_r88_0 : List (List z_Row) := [[(0, .aload_n 0, 1, []), (1, .getfield 17, 4, [0, 2, 1, 1189]), (4, .aload_n 0, 5, []), (5, .getfield 21, 8, [0, 2, 2, 1190]), (8, .iadd, 9, []), (9, .iconst 1, 10, []), (10, .isub, 11, []), (11, .bipush 8, 13, []), (13, .invokestatic 33, 16, [1, 321, 2, 5066])],
  [(16, .ireturn, 17, [])]]
noncomputable def z_r88 : List (List (List z_Row)) := [z_r88_0]
-- ClockParliament$OrderText.<init>()V
set_option maxRecDepth 20000 in
noncomputable def z_r89_0 : List (List z_Row) := [[(0, .aload_n 0, 1, []), (1, .invokespecial 3, 4, [7, 0, 0, 1204]), (4, .aload_n 0, 5, []), (5, .new 9, 8, [0, 10, 1205, 1206, 1010]), (8, .dup, 9, []), (9, .invokespecial 11, 12, [2, 300, 0, 1207]), (12, .putfield 12, 15, [0, 6, 0, 2026]), (15, .aload_n 0, 16, [])],
  [(16, .new 18, 19, [0, 5, 1238, 1239, 1013]), (19, .dup, 20, []), (20, .invokespecial 20, 23, [3, 22, 0, 2000]), (23, .putfield 21, 26, [0, 6, 1, 2027]), (26, .aload_n 0, 27, []), (27, .iconst 0, 28, []), (28, .putfield 25, 31, [0, 6, 2, 2028]), (31, .return_, 32, [])]]
noncomputable def z_r89 : List (List (List z_Row)) := [z_r89_0]
-- ClockParliament$OrderText.length()I
set_option maxRecDepth 20000 in
noncomputable def z_r90_0 : List (List z_Row) := [[(0, .aload_n 0, 1, []), (1, .getfield 12, 4, [0, 6, 0, 2026]), (4, .invokevirtual 29, 7, [0, 308, 0, 6217]), (7, .ireturn, 8, [])]]
noncomputable def z_r90 : List (List (List z_Row)) := [z_r90_0]
-- ClockParliament$OrderText.add(C)I
set_option maxRecDepth 20000 in
noncomputable def z_r91_0 : List (List z_Row) := [[(0, .aload_n 0, 1, []), (1, .getfield 12, 4, [0, 6, 0, 2026]), (4, .iload_n 1, 5, []), (5, .invokevirtual 33, 8, [0, 302, 1, 6238]), (8, .pop, 9, []), (9, .aload_n 0, 10, []), (10, .getfield 12, 13, [0, 6, 0, 2026]), (13, .invokevirtual 29, 16, [0, 308, 0, 6217])],
  [(16, .ireturn, 17, [])]]
noncomputable def z_r91 : List (List (List z_Row)) := [z_r91_0]
-- ClockParliament$OrderText.clear()V
set_option maxRecDepth 20000 in
noncomputable def z_r92_0 : List (List z_Row) := [[(0, .aload_n 0, 1, []), (1, .getfield 12, 4, [0, 6, 0, 2026]), (4, .iconst 0, 5, []), (5, .invokevirtual 37, 8, [0, 306, 1, 7128]), (8, .aload_n 0, 9, []), (9, .iconst 0, 10, []), (10, .putfield 25, 13, [0, 6, 2, 2028]), (13, .return_, 14, [])]]
noncomputable def z_r92 : List (List (List z_Row)) := [z_r92_0]
-- ClockParliament$OrderText.fault()I
set_option maxRecDepth 20000 in
noncomputable def z_r93_0 : List (List z_Row) := [[(0, .aload_n 0, 1, []), (1, .iconst 0, 2, []), (2, .putfield 25, 5, [0, 6, 2, 2028]), (5, .iconst 0, 6, []), (6, .istore_n 1, 7, []), (7, .iload_n 1, 8, []), (8, .bipush 60, 10, []), (10, .if_icmp .gt 46, 13, [56]), (13, .aload_n 0, 14, []), (14, .aload_n 0, 15, []), (15, .getfield 21, 18, [0, 6, 1, 2027])],
  [(18, .invokevirtual 41, 21, [0, 95, 1, 7010]), (21, .ifCond .eq 35, 24, [56]), (24, .aload_n 0, 25, []), (25, .invokevirtual 45, 28, [0, 102, 0, 7014]), (28, .ifCond .ne 10, 31, [38]), (31, .aload_n 0, 32, [])],
  [(32, .iconst 0, 33, []), (33, .putfield 25, 36, [0, 6, 2, 2028]), (36, .iconst (-1), 37, []), (37, .ireturn, 38, []), (38, .aload_n 0, 39, []), (39, .bipush 59, 41, []), (41, .invokevirtual 49, 44, [0, 100, 1, 7120]), (44, .ifCond .ne 6, 47, [50]), (47, .goto 9, 50, [56])],
  [(50, .iinc 1 1, 53, []), (53, .goto (-46), 56, [7]), (56, .aload_n 0, 57, []), (57, .getfield 25, 60, [0, 6, 2, 2028]), (60, .ireturn, 61, [])]]
noncomputable def z_r93 : List (List (List z_Row)) := [z_r93_0]
-- ClockParliament$OrderText.readNext(LClockParliament$Order;)Z
set_option maxRecDepth 20000 in
noncomputable def z_r94_0 : List (List z_Row) := [[(0, .aload_n 0, 1, []), (1, .bipush 59, 3, []), (3, .invokevirtual 49, 6, [0, 100, 1, 7120]), (6, .pop, 7, []), (7, .aload_n 0, 8, []), (8, .invokevirtual 45, 11, [0, 102, 0, 7014]), (11, .ifCond .eq 15, 14, [26]), (14, .aload_n 0, 15, []), (15, .aload_n 1, 16, [])],
  [(16, .invokevirtual 41, 19, [0, 95, 1, 7010]), (19, .ifCond .eq 7, 22, [26]), (22, .iconst 1, 23, []), (23, .goto 4, 26, [27]), (26, .iconst 0, 27, []), (27, .ireturn, 28, [])]]
noncomputable def z_r94 : List (List (List z_Row)) := [z_r94_0]
-- ClockParliament$OrderText.readOrder(LClockParliament$Order;)Z
set_option maxRecDepth 20000 in
noncomputable def z_r95_0 : List (List z_Row) := [[(0, .aload_n 0, 1, []), (1, .invokevirtual 45, 4, [0, 102, 0, 7014]), (4, .invokestatic 53, 7, [1, 25, 1, 7028]), (7, .astore_n 2, 8, []), (8, .aload_n 2, 9, []), (9, .ifnonnull 5, 12, [14]), (12, .iconst 0, 13, []), (13, .ireturn, 14, []), (14, .aload_n 1, 15, []), (15, .aload_n 2, 16, [])],
  [(16, .iconst 0, 17, []), (17, .iconst 0, 18, []), (18, .iconst 0, 19, []), (19, .invokevirtual 59, 22, [0, 23, 4, 7083]), (22, .aload_n 2, 23, []), (23, .getfield 63, 26, [1, 1, 10025]), (26, .astore_n 3, 27, []), (27, .iconst 0, 28, []), (28, .istore 4, 30, []), (30, .iload 4, 32, [])],
  [(32, .aload_n 3, 33, []), (33, .invokevirtual 67, 36, [0, 331, 0, 7084]), (36, .if_icmp .ge 59, 39, [95]), (39, .aload_n 3, 40, []), (40, .iload 4, 42, []), (42, .invokevirtual 70, 45, [0, 329, 1, 7085]), (45, .istore 5, 47, []), (47, .iload 5, 49, [])],
  [(49, .bipush 63, 51, []), (51, .if_icmp .ne 19, 54, [70]), (54, .aload_n 0, 55, []), (55, .invokevirtual 45, 58, [0, 102, 0, 7014]), (58, .bipush 32, 60, []), (60, .if_icmp .eq 10, 63, [70]), (63, .aload_n 1, 64, [])],
  [(64, .iconst 1, 65, []), (65, .invokevirtual 74, 68, [0, 24, 1, 7096]), (68, .iconst 1, 69, []), (69, .ireturn, 70, []), (70, .iload 5, 72, []), (72, .bipush 63, 74, []), (74, .if_icmp .eq 15, 77, [89]), (77, .aload_n 0, 78, []), (78, .iload 5, 80, [])],
  [(80, .aload_n 1, 81, []), (81, .invokevirtual 77, 84, [0, 96, 2, 7100]), (84, .ifCond .ne 5, 87, [89]), (87, .iconst 0, 88, []), (88, .ireturn, 89, []), (89, .iinc 4 1, 92, []), (92, .goto (-62), 95, [30]), (95, .iconst 1, 96, [])],
  [(96, .ireturn, 97, [])]]
noncomputable def z_r95 : List (List (List z_Row)) := [z_r95_0]
-- ClockParliament$OrderText.readPart(CLClockParliament$Order;)Z
set_option maxRecDepth 20000 in
noncomputable def z_r96_0 : List (List z_Row) := [[(0, .iload_n 1, 1, []), (1, .lookupswitch 69 #[(68, 35), (75, 47), (78, 41)], 36, [70, 36, 48, 42])],
  [],
  [(36, .aload_n 0, 37, []), (37, .aload_n 2, 38, []), (38, .invokevirtual 81, 41, [0, 97, 1, 7104]), (41, .ireturn, 42, []), (42, .aload_n 0, 43, []), (43, .aload_n 2, 44, []), (44, .invokevirtual 84, 47, [0, 98, 1, 7112]), (47, .ireturn, 48, [])],
  [(48, .aload_n 0, 49, []), (49, .aload_n 2, 50, []), (50, .invokevirtual 81, 53, [0, 97, 1, 7104]), (53, .ifCond .ne 11, 56, [64]), (56, .aload_n 0, 57, []), (57, .aload_n 2, 58, []), (58, .invokevirtual 87, 61, [0, 99, 1, 7116]), (61, .ifCond .eq 7, 64, [68])],
  [(64, .iconst 1, 65, []), (65, .goto 4, 68, [69]), (68, .iconst 0, 69, []), (69, .ireturn, 70, []), (70, .aload_n 0, 71, []), (71, .iload_n 1, 72, []), (72, .invokevirtual 49, 75, [0, 100, 1, 7120]), (75, .ireturn, 76, [])]]
noncomputable def z_r96 : List (List (List z_Row)) := [z_r96_0]
-- ClockParliament$OrderText.readDigit(LClockParliament$Order;)Z
set_option maxRecDepth 20000 in
noncomputable def z_r97_0 : List (List z_Row) := [[(0, .aload_n 0, 1, []), (1, .invokevirtual 90, 4, [0, 101, 0, 7108]), (4, .istore_n 2, 5, []), (5, .iload_n 2, 6, []), (6, .ifCond .ge 5, 9, [11]), (9, .iconst 0, 10, []), (10, .ireturn, 11, []), (11, .aload_n 0, 12, []), (12, .dup, 13, []), (13, .getfield 25, 16, [0, 6, 2, 2028])],
  [(16, .iconst 1, 17, []), (17, .iadd, 18, []), (18, .putfield 25, 21, [0, 6, 2, 2028]), (21, .aload_n 1, 22, []), (22, .iload_n 2, 23, []), (23, .invokevirtual 74, 26, [0, 24, 1, 7096]), (26, .iconst 1, 27, []), (27, .ireturn, 28, [])]]
noncomputable def z_r97 : List (List (List z_Row)) := [z_r97_0]
-- ClockParliament$OrderText.readNumber(LClockParliament$Order;)Z
set_option maxRecDepth 20000 in
noncomputable def z_r98_0 : List (List z_Row) := [[(0, .aload_n 0, 1, []), (1, .invokevirtual 90, 4, [0, 101, 0, 7108]), (4, .istore_n 2, 5, []), (5, .iload_n 2, 6, []), (6, .ifCond .ge 5, 9, [11]), (9, .iconst 0, 10, []), (10, .ireturn, 11, []), (11, .aload_n 0, 12, []), (12, .dup, 13, []), (13, .getfield 25, 16, [0, 6, 2, 2028])],
  [(16, .iconst 1, 17, []), (17, .iadd, 18, []), (18, .putfield 25, 21, [0, 6, 2, 2028]), (21, .aload_n 0, 22, []), (22, .invokevirtual 90, 25, [0, 101, 0, 7108]), (25, .istore_n 3, 26, []), (26, .iload_n 3, 27, []), (27, .ifCond .lt 20, 30, [47]), (30, .aload_n 0, 31, []), (31, .dup, 32, [])],
  [(32, .getfield 25, 35, [0, 6, 2, 2028]), (35, .iconst 1, 36, []), (36, .iadd, 37, []), (37, .putfield 25, 40, [0, 6, 2, 2028]), (40, .bipush 10, 42, []), (42, .iload_n 2, 43, []), (43, .imul, 44, []), (44, .iload_n 3, 45, []), (45, .iadd, 46, []), (46, .istore_n 2, 47, []), (47, .aload_n 1, 48, [])],
  [(48, .iload_n 2, 49, []), (49, .invokevirtual 74, 52, [0, 24, 1, 7096]), (52, .iconst 1, 53, []), (53, .ireturn, 54, [])]]
noncomputable def z_r98 : List (List (List z_Row)) := [z_r98_0]
-- ClockParliament$OrderText.readNobody(LClockParliament$Order;)Z
set_option maxRecDepth 20000 in
noncomputable def z_r99_0 : List (List z_Row) := [[(0, .aload_n 0, 1, []), (1, .bipush 45, 3, []), (3, .invokevirtual 49, 6, [0, 100, 1, 7120]), (6, .ifCond .ne 5, 9, [11]), (9, .iconst 0, 10, []), (10, .ireturn, 11, []), (11, .aload_n 1, 12, []), (12, .iconst (-1), 13, []), (13, .invokevirtual 74, 16, [0, 24, 1, 7096])],
  [(16, .iconst 1, 17, []), (17, .ireturn, 18, [])]]
noncomputable def z_r99 : List (List (List z_Row)) := [z_r99_0]
-- ClockParliament$OrderText.skip(C)Z
set_option maxRecDepth 20000 in
noncomputable def z_r100_0 : List (List z_Row) := [[(0, .aload_n 0, 1, []), (1, .invokevirtual 45, 4, [0, 102, 0, 7014]), (4, .iload_n 1, 5, []), (5, .if_icmp .eq 5, 8, [10]), (8, .iconst 0, 9, []), (9, .ireturn, 10, []), (10, .aload_n 0, 11, []), (11, .dup, 12, []), (12, .getfield 25, 15, [0, 6, 2, 2028]), (15, .iconst 1, 16, [])],
  [(16, .iadd, 17, []), (17, .putfield 25, 20, [0, 6, 2, 2028]), (20, .iconst 1, 21, []), (21, .ireturn, 22, [])]]
noncomputable def z_r100 : List (List (List z_Row)) := [z_r100_0]
-- ClockParliament$OrderText.digitHere()I
set_option maxRecDepth 20000 in
noncomputable def z_r101_0 : List (List z_Row) := [[(0, .aload_n 0, 1, []), (1, .invokevirtual 45, 4, [0, 102, 0, 7014]), (4, .istore_n 1, 5, []), (5, .iload_n 1, 6, []), (6, .bipush 48, 8, []), (8, .if_icmp .lt 16, 11, [24]), (11, .iload_n 1, 12, []), (12, .bipush 57, 14, []), (14, .if_icmp .gt 10, 17, [24])],
  [(17, .iload_n 1, 18, []), (18, .bipush 48, 20, []), (20, .isub, 21, []), (21, .goto 4, 24, [25]), (24, .iconst (-1), 25, []), (25, .ireturn, 26, [])]]
noncomputable def z_r101 : List (List (List z_Row)) := [z_r101_0]
-- ClockParliament$OrderText.here()C
set_option maxRecDepth 20000 in
noncomputable def z_r102_0 : List (List z_Row) := [[(0, .aload_n 0, 1, []), (1, .getfield 25, 4, [0, 6, 2, 2028]), (4, .ifCond .lt 31, 7, [35]), (7, .aload_n 0, 8, []), (8, .getfield 25, 11, [0, 6, 2, 2028]), (11, .aload_n 0, 12, []), (12, .getfield 12, 15, [0, 6, 0, 2026]), (15, .invokevirtual 29, 18, [0, 308, 0, 6217])],
  [(18, .if_icmp .ge 17, 21, [35]), (21, .aload_n 0, 22, []), (22, .getfield 12, 25, [0, 6, 0, 2026]), (25, .aload_n 0, 26, []), (26, .getfield 25, 29, [0, 6, 2, 2028]), (29, .invokevirtual 93, 32, [0, 310, 1, 7018])],
  [(32, .goto 4, 35, [36]), (35, .iconst 0, 36, []), (36, .ireturn, 37, [])]]
noncomputable def z_r102 : List (List (List z_Row)) := [z_r102_0]
-- ClockParliament.<init>()V
set_option maxRecDepth 20000 in
noncomputable def z_r103_0 : List (List z_Row) := [[(0, .aload_n 0, 1, []), (1, .invokespecial 1, 4, [7, 0, 0, 1043]), (4, .aload_n 0, 5, []), (5, .new 7, 8, [0, 3, 1046, 1047, 1002]), (8, .dup, 9, []), (9, .invokespecial 9, 12, [3, 64, 0, 1048]), (12, .putfield 10, 15, [0, 8, 0, 2055]), (15, .aload_n 0, 16, [])],
  [(16, .new 7, 19, [0, 3, 1046, 1047, 1002]), (19, .dup, 20, []), (20, .invokespecial 9, 23, [3, 64, 0, 1048]), (23, .putfield 16, 26, [0, 8, 1, 2056]), (26, .aload_n 0, 27, []), (27, .new 7, 30, [0, 3, 1046, 1047, 1002]), (30, .dup, 31, []), (31, .invokespecial 9, 34, [3, 64, 0, 1048])],
  [(34, .putfield 19, 37, [0, 8, 2, 2057]), (37, .aload_n 0, 38, []), (38, .iconst 0, 39, []), (39, .putfield 22, 42, [0, 8, 3, 2058]), (42, .aload_n 0, 43, []), (43, .new 26, 46, [0, 2, 1179, 1180, 1007]), (46, .dup, 47, []), (47, .invokespecial 28, 50, [2, 84, 0, 1181])],
  [(50, .putfield 29, 53, [0, 8, 4, 2059]), (53, .aload_n 0, 54, []), (54, .new 33, 57, [0, 6, 1199, 1200, 1008]), (57, .dup, 58, []), (58, .invokespecial 35, 61, [3, 89, 0, 1201]), (61, .putfield 36, 64, [0, 8, 5, 2060])],
  [(64, .aload_n 0, 65, []), (65, .new 40, 68, [0, 5, 2036, 1239, 1013]), (68, .dup, 69, []), (69, .invokespecial 42, 72, [3, 22, 0, 2037]), (72, .putfield 43, 75, [0, 8, 6, 2061]), (75, .aload_n 0, 76, []), (76, .new 47, 79, [0, 10, 2038, 1206, 1010]), (79, .dup, 80, [])],
  [(80, .invokespecial 49, 83, [2, 300, 0, 2039]), (83, .putfield 50, 86, [0, 8, 7, 2062]), (86, .aload_n 0, 87, []), (87, .new 54, 90, [0, 7, 2040, 2041, 1016]), (90, .dup, 91, []), (91, .invokespecial 56, 94, [3, 14, 0, 2042]), (94, .putfield 57, 97, [0, 8, 8, 2063])],
  [(97, .aload_n 0, 98, []), (98, .new 54, 101, [0, 7, 2040, 2041, 1016]), (101, .dup, 102, []), (102, .invokespecial 56, 105, [3, 14, 0, 2042]), (105, .putfield 61, 108, [0, 8, 9, 2064]), (108, .aload_n 0, 109, []), (109, .new 54, 112, [0, 7, 2040, 2041, 1016])],
  [(112, .dup, 113, []), (113, .invokespecial 56, 116, [3, 14, 0, 2042]), (116, .putfield 64, 119, [0, 8, 10, 2065]), (119, .aload_n 0, 120, []), (120, .iconst (-1), 121, []), (121, .putfield 67, 124, [0, 8, 11, 2066]), (124, .return_, 125, [])]]
noncomputable def z_r103 : List (List (List z_Row)) := [z_r103_0]
-- ClockParliament.clock(II)I
set_option maxRecDepth 20000 in
noncomputable def z_r104_0 : List (List z_Row) := [[(0, .aload_n 0, 1, []), (1, .getstatic 71, 4, [3, 4176]), (4, .iload_n 1, 5, []), (5, .iload_n 2, 6, []), (6, .iconst 0, 7, []), (7, .invokevirtual 77, 10, [0, 114, 4, 4178]), (10, .ireturn, 11, [])]]
noncomputable def z_r104 : List (List (List z_Row)) := [z_r104_0]
-- ClockParliament.leave(I)I
set_option maxRecDepth 20000 in
noncomputable def z_r105_0 : List (List z_Row) := [[(0, .aload_n 0, 1, []), (1, .getstatic 81, 4, [4, 5147]), (4, .iload_n 1, 5, []), (5, .iconst 0, 6, []), (6, .iconst 0, 7, []), (7, .invokevirtual 77, 10, [0, 114, 4, 4178]), (10, .ireturn, 11, [])]]
noncomputable def z_r105 : List (List (List z_Row)) := [z_r105_0]
-- ClockParliament.key(II)I
set_option maxRecDepth 20000 in
noncomputable def z_r106_0 : List (List z_Row) := [[(0, .aload_n 0, 1, []), (1, .getstatic 84, 4, [5, 5156]), (4, .iload_n 1, 5, []), (5, .iload_n 2, 6, []), (6, .iconst 0, 7, []), (7, .invokevirtual 77, 10, [0, 114, 4, 4178]), (10, .ireturn, 11, [])]]
noncomputable def z_r106 : List (List (List z_Row)) := [z_r106_0]
-- ClockParliament.wind(II)I
set_option maxRecDepth 20000 in
noncomputable def z_r107_0 : List (List z_Row) := [[(0, .aload_n 0, 1, []), (1, .getstatic 87, 4, [6, 5165]), (4, .iload_n 1, 5, []), (5, .iload_n 2, 6, []), (6, .iconst 0, 7, []), (7, .invokevirtual 77, 10, [0, 114, 4, 4178]), (10, .ireturn, 11, [])]]
noncomputable def z_r107 : List (List (List z_Row)) := [z_r107_0]
-- ClockParliament.move(II)I
set_option maxRecDepth 20000 in
noncomputable def z_r108_0 : List (List z_Row) := [[(0, .aload_n 0, 1, []), (1, .getstatic 90, 4, [7, 5174]), (4, .iload_n 1, 5, []), (5, .iload_n 2, 6, []), (6, .iconst 0, 7, []), (7, .invokevirtual 77, 10, [0, 114, 4, 4178]), (10, .ireturn, 11, [])]]
noncomputable def z_r108 : List (List (List z_Row)) := [z_r108_0]
-- ClockParliament.bill(III)I
set_option maxRecDepth 20000 in
noncomputable def z_r109_0 : List (List z_Row) := [[(0, .aload_n 0, 1, []), (1, .getstatic 93, 4, [8, 5183]), (4, .iload_n 1, 5, []), (5, .iload_n 2, 6, []), (6, .iload_n 3, 7, []), (7, .invokevirtual 77, 10, [0, 114, 4, 4178]), (10, .ireturn, 11, [])]]
noncomputable def z_r109 : List (List (List z_Row)) := [z_r109_0]
-- ClockParliament.adjourn(II)I
set_option maxRecDepth 20000 in
noncomputable def z_r110_0 : List (List z_Row) := [[(0, .aload_n 0, 1, []), (1, .getstatic 96, 4, [9, 5192]), (4, .iload_n 1, 5, []), (5, .iload_n 2, 6, []), (6, .iconst 0, 7, []), (7, .invokevirtual 77, 10, [0, 114, 4, 4178]), (10, .ireturn, 11, [])]]
noncomputable def z_r110 : List (List (List z_Row)) := [z_r110_0]
-- ClockParliament.drop(I)I
set_option maxRecDepth 20000 in
noncomputable def z_r111_0 : List (List z_Row) := [[(0, .aload_n 0, 1, []), (1, .getstatic 99, 4, [10, 5201]), (4, .iload_n 1, 5, []), (5, .iconst 0, 6, []), (6, .iconst 0, 7, []), (7, .invokevirtual 77, 10, [0, 114, 4, 4178]), (10, .ireturn, 11, [])]]
noncomputable def z_r111 : List (List (List z_Row)) := [z_r111_0]
-- ClockParliament.vote()I
set_option maxRecDepth 20000 in
noncomputable def z_r112_0 : List (List z_Row) := [[(0, .aload_n 0, 1, []), (1, .getstatic 102, 4, [0, 5210]), (4, .iconst 0, 5, []), (5, .iconst 0, 6, []), (6, .iconst 0, 7, []), (7, .invokevirtual 77, 10, [0, 114, 4, 4178]), (10, .ireturn, 11, [])]]
noncomputable def z_r112 : List (List (List z_Row)) := [z_r112_0]
-- ClockParliament.hour(I)I
set_option maxRecDepth 20000 in
noncomputable def z_r113_0 : List (List z_Row) := [[(0, .aload_n 0, 1, []), (1, .getstatic 105, 4, [11, 5218]), (4, .iload_n 1, 5, []), (5, .iconst 0, 6, []), (6, .iconst 0, 7, []), (7, .invokevirtual 77, 10, [0, 114, 4, 4178]), (10, .ireturn, 11, [])]]
noncomputable def z_r113 : List (List (List z_Row)) := [z_r113_0]
-- ClockParliament.change(LClockParliament$Kind;III)I
set_option maxRecDepth 20000 in
noncomputable def z_r114_0 : List (List z_Row) := [[(0, .aload_n 0, 1, []), (1, .getfield 43, 4, [0, 8, 6, 2061]), (4, .aload_n 1, 5, []), (5, .iload_n 2, 6, []), (6, .iload_n 3, 7, []), (7, .iload 4, 9, []), (9, .invokevirtual 108, 12, [0, 23, 4, 4182]), (12, .aload_n 0, 13, []), (13, .getfield 10, 16, [0, 8, 0, 2055])],
  [(16, .aload_n 0, 17, []), (17, .getfield 43, 20, [0, 8, 6, 2061]), (20, .aload_n 0, 21, []), (21, .getfield 57, 24, [0, 8, 8, 2063]), (24, .invokevirtual 112, 27, [0, 66, 2, 4186]), (27, .ifCond .eq 31, 30, [58]), (30, .aload_n 0, 31, []), (31, .getfield 61, 34, [0, 8, 9, 2064])],
  [(34, .aload_n 0, 35, []), (35, .getfield 57, 38, [0, 8, 8, 2063]), (38, .invokevirtual 116, 41, [0, 18, 1, 5034]), (41, .aload_n 0, 42, []), (42, .getfield 64, 45, [0, 8, 10, 2065]), (45, .invokevirtual 120, 48, [0, 17, 0, 5038])],
  [(48, .new 123, 51, [1, 0]), (51, .dup, 52, []), (52, .ldc 125, 54, []), (54, .invokespecial 127, 57, []), (57, .athrow, 58, []), (58, .aload_n 0, 59, []), (59, .getfield 29, 62, [0, 8, 4, 2059]), (62, .aload_n 0, 63, []), (63, .getfield 10, 66, [0, 8, 0, 2055])],
  [(66, .invokevirtual 130, 69, [0, 85, 1, 5058]), (69, .aload_n 0, 70, []), (70, .getfield 10, 73, [0, 8, 0, 2055]), (73, .aload_n 0, 74, []), (74, .getfield 43, 77, [0, 8, 6, 2061]), (77, .invokevirtual 134, 80, [0, 73, 1, 5070])],
  [(80, .ireturn, 81, [])]]
noncomputable def z_r114 : List (List (List z_Row)) := [z_r114_0]
-- ClockParliament.clockOf(II)I
set_option maxRecDepth 20000 in
noncomputable def z_r115_0 : List (List z_Row) := [[(0, .aload_n 0, 1, []), (1, .iload_n 1, 2, []), (2, .invokevirtual 138, 5, [0, 120, 1, 5231]), (5, .iload_n 2, 6, []), (6, .tableswitch 144 0 6 #[42, 57, 72, 87, 102, 117, 132], 48, [150, 48, 63, 78, 93, 108, 123, 138])],
  [],
  [],
  [(48, .aload_n 0, 49, []), (49, .getfield 10, 52, [0, 8, 0, 2055]), (52, .getfield 142, 55, [0, 3, 0, 1147]), (55, .getfield 146, 58, [0, 1, 0, 1085]), (58, .iload_n 1, 59, []), (59, .invokevirtual 152, 62, [0, 3, 1, 2237]), (62, .ireturn, 63, []), (63, .aload_n 0, 64, [])],
  [(64, .getfield 10, 67, [0, 8, 0, 2055]), (67, .getfield 142, 70, [0, 3, 0, 1147]), (70, .getfield 158, 73, [0, 1, 1, 1088]), (73, .iload_n 1, 74, []), (74, .invokevirtual 152, 77, [0, 3, 1, 2237]), (77, .ireturn, 78, []), (78, .aload_n 0, 79, []), (79, .getfield 10, 82, [0, 8, 0, 2055])],
  [(82, .getfield 142, 85, [0, 3, 0, 1147]), (85, .getfield 161, 88, [0, 1, 2, 1090]), (88, .iload_n 1, 89, []), (89, .invokevirtual 152, 92, [0, 3, 1, 2237]), (92, .ireturn, 93, []), (93, .aload_n 0, 94, []), (94, .getfield 10, 97, [0, 8, 0, 2055])],
  [(97, .getfield 142, 100, [0, 3, 0, 1147]), (100, .getfield 164, 103, [0, 1, 4, 1096]), (103, .iload_n 1, 104, []), (104, .invokevirtual 167, 107, [0, 11, 1, 6009]), (107, .ireturn, 108, []), (108, .aload_n 0, 109, []), (109, .getfield 10, 112, [0, 8, 0, 2055])],
  [(112, .getfield 170, 115, [0, 3, 1, 1149]), (115, .getfield 174, 118, [0, 0, 0, 1118]), (118, .iload_n 1, 119, []), (119, .invokevirtual 167, 122, [0, 11, 1, 6009]), (122, .ireturn, 123, []), (123, .aload_n 0, 124, []), (124, .getfield 10, 127, [0, 8, 0, 2055]), (127, .getfield 142, 130, [0, 3, 0, 1147])],
  [(130, .getfield 179, 133, [0, 1, 3, 1093]), (133, .iload_n 1, 134, []), (134, .invokevirtual 152, 137, [0, 3, 1, 2237]), (137, .ireturn, 138, []), (138, .aload_n 0, 139, []), (139, .getfield 10, 142, [0, 8, 0, 2055]), (142, .getfield 142, 145, [0, 3, 0, 1147])],
  [(145, .iload_n 1, 146, []), (146, .invokevirtual 182, 149, [0, 41, 1, 6010]), (149, .ireturn, 150, []), (150, .new 185, 153, [1, 1]), (153, .dup, 154, []), (154, .ldc 187, 156, []), (156, .invokespecial 189, 159, []), (159, .athrow, 160, [])]]
noncomputable def z_r115 : List (List (List z_Row)) := [z_r115_0]
-- ClockParliament.billOf(II)I
set_option maxRecDepth 20000 in
noncomputable def z_r116_0 : List (List z_Row) := [[(0, .aload_n 0, 1, []), (1, .iload_n 1, 2, []), (2, .invokevirtual 190, 5, [0, 121, 1, 6025]), (5, .iload_n 2, 6, []), (6, .tableswitch 128 0 5 #[38, 53, 68, 83, 98, 113], 44, [134, 44, 59, 74, 89, 104, 119])],
  [],
  [(44, .aload_n 0, 45, []), (45, .getfield 10, 48, [0, 8, 0, 2055])],
  [(48, .getfield 170, 51, [0, 3, 1, 1149]), (51, .getfield 174, 54, [0, 0, 0, 1118]), (54, .iload_n 1, 55, []), (55, .invokevirtual 152, 58, [0, 3, 1, 2237]), (58, .ireturn, 59, []), (59, .aload_n 0, 60, []), (60, .getfield 10, 63, [0, 8, 0, 2055]), (63, .getfield 170, 66, [0, 3, 1, 1149])],
  [(66, .getfield 193, 69, [0, 0, 1, 1121]), (69, .iload_n 1, 70, []), (70, .invokevirtual 152, 73, [0, 3, 1, 2237]), (73, .ireturn, 74, []), (74, .aload_n 0, 75, []), (75, .getfield 10, 78, [0, 8, 0, 2055]), (78, .getfield 170, 81, [0, 3, 1, 1149])],
  [(81, .getfield 194, 84, [0, 0, 2, 1123]), (84, .iload_n 1, 85, []), (85, .invokevirtual 152, 88, [0, 3, 1, 2237]), (88, .ireturn, 89, []), (89, .aload_n 0, 90, []), (90, .getfield 10, 93, [0, 8, 0, 2055]), (93, .getfield 170, 96, [0, 3, 1, 1149])],
  [(96, .getfield 197, 99, [0, 0, 3, 1127]), (99, .iload_n 1, 100, []), (100, .invokevirtual 152, 103, [0, 3, 1, 2237]), (103, .ireturn, 104, []), (104, .aload_n 0, 105, []), (105, .getfield 10, 108, [0, 8, 0, 2055]), (108, .getfield 170, 111, [0, 3, 1, 1149]), (111, .getfield 200, 114, [0, 0, 5, 1132])],
  [(114, .iload_n 1, 115, []), (115, .invokevirtual 203, 118, [0, 10, 1, 3018]), (118, .ireturn, 119, []), (119, .aload_n 0, 120, []), (120, .getfield 10, 123, [0, 8, 0, 2055]), (123, .getfield 170, 126, [0, 3, 1, 1149]), (126, .getfield 206, 129, [0, 0, 4, 1129])],
  [(129, .iload_n 1, 130, []), (130, .invokevirtual 152, 133, [0, 3, 1, 2237]), (133, .ireturn, 134, []), (134, .new 185, 137, [1, 2]), (137, .dup, 138, []), (138, .ldc 209, 140, []), (140, .invokespecial 189, 143, []), (143, .athrow, 144, [])]]
noncomputable def z_r116 : List (List (List z_Row)) := [z_r116_0]
-- ClockParliament.keeper(I)I
set_option maxRecDepth 20000 in
noncomputable def z_r117_0 : List (List z_Row) := [[(0, .aload_n 0, 1, []), (1, .getfield 10, 4, [0, 8, 0, 2055]), (4, .getfield 142, 7, [0, 3, 0, 1147]), (7, .getfield 164, 10, [0, 1, 4, 1096]), (10, .iload_n 1, 11, []), (11, .invokevirtual 211, 14, [0, 2, 1, 2236]), (14, .ifCond .ne 13, 17, [27])],
  [(17, .new 215, 20, [1, 3]), (20, .dup, 21, []), (21, .ldc 217, 23, []), (23, .invokespecial 219, 26, []), (26, .athrow, 27, []), (27, .aload_n 0, 28, []), (28, .getfield 10, 31, [0, 8, 0, 2055]), (31, .getfield 142, 34, [0, 3, 0, 1147])],
  [(34, .getfield 164, 37, [0, 1, 4, 1096]), (37, .iload_n 1, 38, []), (38, .invokevirtual 152, 41, [0, 3, 1, 2237]), (41, .ireturn, 42, [])]]
noncomputable def z_r117 : List (List (List z_Row)) := [z_r117_0]
-- ClockParliament.doAgree(II)Z
set_option maxRecDepth 20000 in
noncomputable def z_r118_0 : List (List z_Row) := [[(0, .aload_n 0, 1, []), (1, .iload_n 1, 2, []), (2, .invokevirtual 138, 5, [0, 120, 1, 5231]), (5, .aload_n 0, 6, []), (6, .iload_n 2, 7, []), (7, .invokevirtual 138, 10, [0, 120, 1, 5231]), (10, .aload_n 0, 11, []), (11, .getfield 10, 14, [0, 8, 0, 2055]), (14, .getfield 142, 17, [0, 3, 0, 1147])],
  [(17, .iload_n 1, 18, []), (18, .iload_n 2, 19, []), (19, .invokevirtual 220, 22, [0, 31, 2, 6047]), (22, .ireturn, 23, [])]]
noncomputable def z_r118 : List (List (List z_Row)) := [z_r118_0]
-- ClockParliament.apart(II)I
set_option maxRecDepth 20000 in
noncomputable def z_r119_0 : List (List z_Row) := [[(0, .aload_n 0, 1, []), (1, .iload_n 1, 2, []), (2, .invokevirtual 138, 5, [0, 120, 1, 5231]), (5, .aload_n 0, 6, []), (6, .iload_n 2, 7, []), (7, .invokevirtual 138, 10, [0, 120, 1, 5231]), (10, .aload_n 0, 11, []), (11, .getfield 10, 14, [0, 8, 0, 2055]), (14, .getfield 142, 17, [0, 3, 0, 1147])],
  [(17, .iload_n 1, 18, []), (18, .iload_n 2, 19, []), (19, .invokevirtual 224, 22, [0, 30, 2, 6055]), (22, .ireturn, 23, [])]]
noncomputable def z_r119 : List (List (List z_Row)) := [z_r119_0]
-- ClockParliament.checkClock(I)V
set_option maxRecDepth 20000 in
noncomputable def z_r120_0 : List (List z_Row) := [[(0, .aload_n 0, 1, []), (1, .getfield 10, 4, [0, 8, 0, 2055]), (4, .getfield 142, 7, [0, 3, 0, 1147]), (7, .iload_n 1, 8, []), (8, .invokevirtual 228, 11, [0, 28, 1, 5235]), (11, .ifCond .ne 13, 14, [24]), (14, .new 215, 17, [1, 4])],
  [(17, .dup, 18, []), (18, .ldc 229, 20, []), (20, .invokespecial 219, 23, []), (23, .athrow, 24, []), (24, .return_, 25, [])]]
noncomputable def z_r120 : List (List (List z_Row)) := [z_r120_0]
-- ClockParliament.checkBill(I)V
set_option maxRecDepth 20000 in
noncomputable def z_r121_0 : List (List z_Row) := [[(0, .aload_n 0, 1, []), (1, .getfield 10, 4, [0, 8, 0, 2055]), (4, .getfield 170, 7, [0, 3, 1, 1149]), (7, .iload_n 1, 8, []), (8, .invokevirtual 231, 11, [0, 52, 1, 6029]), (11, .ifCond .ne 13, 14, [24]), (14, .new 215, 17, [1, 5])],
  [(17, .dup, 18, []), (18, .ldc 232, 20, []), (20, .invokespecial 219, 23, []), (23, .athrow, 24, []), (24, .return_, 25, [])]]
noncomputable def z_r121 : List (List (List z_Row)) := [z_r121_0]
-- ClockParliament.row(I)I
set_option maxRecDepth 20000 in
noncomputable def z_r122_0 : List (List z_Row) := [[(0, .aload_n 0, 1, []), (1, .aload_n 0, 2, []), (2, .getfield 10, 5, [0, 8, 0, 2055]), (5, .getfield 170, 8, [0, 3, 1, 1149]), (8, .getfield 200, 11, [0, 0, 5, 1132]), (11, .iload_n 1, 12, []), (12, .invokevirtual 234, 15, [0, 129, 2, 6064]), (15, .ireturn, 16, [])]]
noncomputable def z_r122 : List (List (List z_Row)) := [z_r122_0]
-- ClockParliament.rowIn(II)I
set_option maxRecDepth 20000 in
noncomputable def z_r123_0 : List (List z_Row) := [[(0, .aload_n 0, 1, []), (1, .iload_n 1, 2, []), (2, .bipush 24, 4, []), (4, .invokevirtual 238, 7, [0, 128, 2, 6091]), (7, .aload_n 0, 8, []), (8, .iload_n 1, 9, []), (9, .invokevirtual 242, 12, [0, 130, 1, 2180]), (12, .aload_n 0, 13, []), (13, .aload_n 0, 14, []), (14, .getfield 16, 17, [0, 8, 1, 2056])],
  [(17, .getfield 170, 20, [0, 3, 1, 1149]), (20, .getfield 200, 23, [0, 0, 5, 1132]), (23, .iload_n 2, 24, []), (24, .invokevirtual 234, 27, [0, 129, 2, 6064]), (27, .ireturn, 28, [])]]
noncomputable def z_r123 : List (List (List z_Row)) := [z_r123_0]
-- ClockParliament.rowAgain(II)I
set_option maxRecDepth 20000 in
noncomputable def z_r124_0 : List (List z_Row) := [[(0, .aload_n 0, 1, []), (1, .iload_n 1, 2, []), (2, .bipush 24, 4, []), (4, .invokevirtual 238, 7, [0, 128, 2, 6091]), (7, .aload_n 0, 8, []), (8, .getfield 10, 11, [0, 8, 0, 2055]), (11, .getfield 170, 14, [0, 3, 1, 1149]), (14, .iload_n 1, 15, []), (15, .iload_n 2, 16, [])],
  [(16, .invokevirtual 245, 19, [0, 60, 2, 2238]), (19, .istore_n 3, 20, []), (20, .iload_n 3, 21, []), (21, .iconst (-1), 22, []), (22, .if_icmp .ne 13, 25, [35]), (25, .new 248, 28, [1, 6]), (28, .dup, 29, []), (29, .ldc 250, 31, []), (31, .invokespecial 252, 34, [])],
  [(34, .athrow, 35, []), (35, .iload_n 3, 36, []), (36, .ireturn, 37, [])]]
noncomputable def z_r124 : List (List (List z_Row)) := [z_r124_0]
-- ClockParliament.next()I
set_option maxRecDepth 20000 in
noncomputable def z_r125_0 : List (List z_Row) := [[(0, .aload_n 0, 1, []), (1, .getfield 10, 4, [0, 8, 0, 2055]), (4, .getfield 170, 7, [0, 3, 1, 1149]), (7, .invokevirtual 253, 10, [0, 59, 0, 6110]), (10, .istore_n 1, 11, []), (11, .iload_n 1, 12, []), (12, .ifCond .ne 14, 15, [26]), (15, .new 248, 18, [1, 7])],
  [(18, .dup, 19, []), (19, .ldc_w 257, 22, []), (22, .invokespecial 252, 25, []), (25, .athrow, 26, []), (26, .iload_n 1, 27, []), (27, .ireturn, 28, [])]]
noncomputable def z_r125 : List (List (List z_Row)) := [z_r125_0]
-- ClockParliament.silentIn(I)I
set_option maxRecDepth 20000 in
noncomputable def z_r126_0 : List (List z_Row) := [[(0, .aload_n 0, 1, []), (1, .iload_n 1, 2, []), (2, .invokevirtual 138, 5, [0, 120, 1, 5231]), (5, .aload_n 0, 6, []), (6, .iconst 0, 7, []), (7, .invokevirtual 242, 10, [0, 130, 1, 2180]), (10, .iconst 0, 11, []), (11, .istore_n 2, 12, []), (12, .iload_n 2, 13, []), (13, .bipush 24, 15, []), (15, .if_icmp .ge 32, 18, [47])],
  [(18, .aload_n 0, 19, []), (19, .getfield 16, 22, [0, 8, 1, 2056]), (22, .getfield 142, 25, [0, 3, 0, 1147]), (25, .iload_n 1, 26, []), (26, .invokevirtual 259, 29, [0, 29, 1, 6122]), (29, .ifCond .ne 18, 32, [47])],
  [(32, .aload_n 0, 33, []), (33, .getfield 16, 36, [0, 8, 1, 2056]), (36, .iconst 1, 37, []), (37, .invokevirtual 262, 40, [0, 76, 1, 2201]), (40, .pop, 41, []), (41, .iinc 2 1, 44, []), (44, .goto (-32), 47, [12]), (47, .iload_n 2, 48, [])],
  [(48, .ireturn, 49, [])]]
noncomputable def z_r126 : List (List (List z_Row)) := [z_r126_0]
-- ClockParliament.secondIn(II)I
set_option maxRecDepth 20000 in
noncomputable def z_r127_0 : List (List z_Row) := [[(0, .aload_n 0, 1, []), (1, .iload_n 1, 2, []), (2, .invokevirtual 138, 5, [0, 120, 1, 5231]), (5, .aload_n 0, 6, []), (6, .iload_n 2, 7, []), (7, .bipush 48, 9, []), (9, .invokevirtual 238, 12, [0, 128, 2, 6091]), (12, .aload_n 0, 13, []), (13, .iload_n 2, 14, []), (14, .invokevirtual 242, 17, [0, 130, 1, 2180])],
  [(17, .aload_n 0, 18, []), (18, .getfield 16, 21, [0, 8, 1, 2056]), (21, .getfield 142, 24, [0, 3, 0, 1147]), (24, .getfield 146, 27, [0, 1, 0, 1085]), (27, .iload_n 1, 28, []), (28, .invokevirtual 152, 31, [0, 3, 1, 2237]), (31, .ireturn, 32, [])]]
noncomputable def z_r127 : List (List (List z_Row)) := [z_r127_0]
-- ClockParliament.checkRange(II)V
set_option maxRecDepth 20000 in
noncomputable def z_r128_0 : List (List z_Row) := [[(0, .iload_n 1, 1, []), (1, .ifCond .lt 8, 4, [9]), (4, .iload_n 1, 5, []), (5, .iload_n 2, 6, []), (6, .if_icmp .le 14, 9, [20]), (9, .new 185, 12, [1, 8]), (12, .dup, 13, []), (13, .ldc_w 265, 16, [])],
  [(16, .invokespecial 189, 19, []), (19, .athrow, 20, []), (20, .return_, 21, [])]]
noncomputable def z_r128 : List (List (List z_Row)) := [z_r128_0]
-- ClockParliament.billAt(LClockParliament$Numbers;I)I
set_option maxRecDepth 20000 in
noncomputable def z_r129_0 : List (List z_Row) := [[(0, .aload_n 1, 1, []), (1, .iload_n 2, 2, []), (2, .invokevirtual 211, 5, [0, 2, 1, 2236]), (5, .ifCond .ne 13, 8, [18]), (8, .new 248, 11, [1, 6]), (11, .dup, 12, []), (12, .ldc 250, 14, []), (14, .invokespecial 252, 17, [])],
  [(17, .athrow, 18, []), (18, .aload_n 1, 19, []), (19, .iload_n 2, 20, []), (20, .invokevirtual 152, 23, [0, 3, 1, 2237]), (23, .ireturn, 24, [])]]
noncomputable def z_r129 : List (List (List z_Row)) := [z_r129_0]
-- ClockParliament.foresee(I)V
set_option maxRecDepth 20000 in
noncomputable def z_r130_0 : List (List z_Row) := [[(0, .aload_n 0, 1, []), (1, .getfield 16, 4, [0, 8, 1, 2056]), (4, .aload_n 0, 5, []), (5, .getfield 10, 8, [0, 8, 0, 2055]), (8, .invokevirtual 267, 11, [0, 65, 1, 2184]), (11, .aload_n 0, 12, []), (12, .getfield 16, 15, [0, 8, 1, 2056]), (15, .iload_n 1, 16, [])],
  [(16, .invokevirtual 262, 19, [0, 76, 1, 2201]), (19, .pop, 20, []), (20, .return_, 21, [])]]
noncomputable def z_r130 : List (List (List z_Row)) := [z_r130_0]
-- ClockParliament.voters(I)I
set_option maxRecDepth 20000 in
noncomputable def z_r131_0 : List (List z_Row) := [[(0, .aload_n 0, 1, []), (1, .iload_n 1, 2, []), (2, .invokevirtual 190, 5, [0, 121, 1, 6025]), (5, .aload_n 0, 6, []), (6, .getfield 10, 9, [0, 8, 0, 2055]), (9, .iload_n 1, 10, []), (10, .invokevirtual 269, 13, [0, 77, 1, 6137]), (13, .ireturn, 14, [])]]
noncomputable def z_r131 : List (List (List z_Row)) := [z_r131_0]
-- ClockParliament.majority(I)I
set_option maxRecDepth 20000 in
noncomputable def z_r132_0 : List (List z_Row) := [[(0, .aload_n 0, 1, []), (1, .iload_n 1, 2, []), (2, .invokevirtual 190, 5, [0, 121, 1, 6025]), (5, .aload_n 0, 6, []), (6, .getfield 10, 9, [0, 8, 0, 2055]), (9, .iload_n 1, 10, []), (10, .invokevirtual 272, 13, [0, 78, 1, 2167]), (13, .ireturn, 14, [])]]
noncomputable def z_r132 : List (List (List z_Row)) := [z_r132_0]
-- ClockParliament.majorityAgain(I)I
set_option maxRecDepth 20000 in
noncomputable def z_r133_0 : List (List z_Row) := [[(0, .aload_n 0, 1, []), (1, .iload_n 1, 2, []), (2, .invokevirtual 190, 5, [0, 121, 1, 6025]), (5, .aload_n 0, 6, []), (6, .getfield 10, 9, [0, 8, 0, 2055]), (9, .iload_n 1, 10, []), (10, .invokevirtual 275, 13, [0, 80, 1, 2168]), (13, .ireturn, 14, [])]]
noncomputable def z_r133 : List (List (List z_Row)) := [z_r133_0]
-- ClockParliament.wouldCarry(I)Z
set_option maxRecDepth 20000 in
noncomputable def z_r134_0 : List (List z_Row) := [[(0, .aload_n 0, 1, []), (1, .iload_n 1, 2, []), (2, .invokevirtual 190, 5, [0, 121, 1, 6025]), (5, .aload_n 0, 6, []), (6, .getfield 10, 9, [0, 8, 0, 2055]), (9, .iload_n 1, 10, []), (10, .invokevirtual 278, 13, [0, 82, 1, 2116]), (13, .ireturn, 14, [])]]
noncomputable def z_r134 : List (List (List z_Row)) := [z_r134_0]
-- ClockParliament.carried()I
set_option maxRecDepth 20000 in
noncomputable def z_r135_0 : List (List z_Row) := [[(0, .iconst 0, 1, []), (1, .istore_n 1, 2, []), (2, .iconst 0, 3, []), (3, .istore_n 2, 4, []), (4, .iload_n 2, 5, []), (5, .aload_n 0, 6, []), (6, .getfield 10, 9, [0, 8, 0, 2055]), (9, .getfield 170, 12, [0, 3, 1, 1149]), (12, .invokevirtual 281, 15, [0, 51, 0, 2096]), (15, .if_icmp .ge 40, 18, [55])],
  [(18, .aload_n 0, 19, []), (19, .getfield 10, 22, [0, 8, 0, 2055]), (22, .getfield 170, 25, [0, 3, 1, 1149]), (25, .iload_n 2, 26, []), (26, .invokevirtual 284, 29, [0, 53, 1, 2104]), (29, .ifCond .ne 20, 32, [49])],
  [(32, .aload_n 0, 33, []), (33, .getfield 10, 36, [0, 8, 0, 2055]), (36, .iload_n 2, 37, []), (37, .invokevirtual 278, 40, [0, 82, 1, 2116]), (40, .ifCond .eq 9, 43, [49]), (43, .iload_n 1, 44, []), (44, .iconst 1, 45, []), (45, .iload_n 2, 46, []), (46, .ishl, 47, []), (47, .ior, 48, [])],
  [(48, .istore_n 1, 49, []), (49, .iinc 2 1, 52, []), (52, .goto (-48), 55, [4]), (55, .iload_n 1, 56, []), (56, .ireturn, 57, [])]]
noncomputable def z_r135 : List (List (List z_Row)) := [z_r135_0]
-- ClockParliament.weakest()I
set_option maxRecDepth 20000 in
noncomputable def z_r136_0 : List (List z_Row) := [[(0, .aload_n 0, 1, []), (1, .getfield 10, 4, [0, 8, 0, 2055]), (4, .getfield 142, 7, [0, 3, 0, 1147]), (7, .invokevirtual 287, 10, [0, 27, 0, 4167]), (10, .ifCond .ne 14, 13, [24]), (13, .new 248, 16, [1, 9])],
  [(16, .dup, 17, []), (17, .ldc_w 288, 20, []), (20, .invokespecial 252, 23, []), (23, .athrow, 24, []), (24, .aload_n 0, 25, []), (25, .getfield 10, 28, [0, 8, 0, 2055]), (28, .getfield 142, 31, [0, 3, 0, 1147]), (31, .invokevirtual 290, 34, [0, 43, 0, 6167])],
  [(34, .ireturn, 35, [])]]
noncomputable def z_r136 : List (List (List z_Row)) := [z_r136_0]
-- ClockParliament.circle(I)I
set_option maxRecDepth 20000 in
noncomputable def z_r137_0 : List (List z_Row) := [[(0, .aload_n 0, 1, []), (1, .iload_n 1, 2, []), (2, .invokevirtual 138, 5, [0, 120, 1, 5231]), (5, .aload_n 0, 6, []), (6, .getfield 10, 9, [0, 8, 0, 2055]), (9, .getfield 142, 12, [0, 3, 0, 1147]), (12, .iload_n 1, 13, []), (13, .invokevirtual 293, 16, [0, 42, 1, 6178])],
  [(16, .ireturn, 17, [])]]
noncomputable def z_r137 : List (List (List z_Row)) := [z_r137_0]
-- ClockParliament.ranked(II)I
set_option maxRecDepth 20000 in
noncomputable def z_r138_0 : List (List z_Row) := [[(0, .iload_n 1, 1, []), (1, .ifCond .lt 8, 4, [9]), (4, .iload_n 1, 5, []), (5, .iconst 3, 6, []), (6, .if_icmp .le 14, 9, [20]), (9, .new 185, 12, [1, 10]), (12, .dup, 13, []), (13, .ldc_w 296, 16, [])],
  [(16, .invokespecial 189, 19, []), (19, .athrow, 20, []), (20, .aload_n 0, 21, []), (21, .getfield 10, 24, [0, 8, 0, 2055]), (24, .getfield 142, 27, [0, 3, 0, 1147]), (27, .iload_n 1, 28, []), (28, .iload_n 2, 29, []), (29, .invokevirtual 298, 32, [0, 44, 2, 6192])],
  [(32, .istore_n 3, 33, []), (33, .iload_n 3, 34, []), (34, .iconst (-1), 35, []), (35, .if_icmp .ne 13, 38, [48]), (38, .new 248, 41, [1, 6]), (41, .dup, 42, []), (42, .ldc 250, 44, []), (44, .invokespecial 252, 47, []), (47, .athrow, 48, [])],
  [(48, .iload_n 3, 49, []), (49, .ireturn, 50, [])]]
noncomputable def z_r138 : List (List (List z_Row)) := [z_r138_0]
-- ClockParliament.isTold()Z
set_option maxRecDepth 20000 in
noncomputable def z_r139_0 : List (List z_Row) := [[(0, .aload_n 0, 1, []), (1, .invokevirtual 301, 4, [0, 140, 0, 2163]), (4, .ifCond .eq 21, 7, [25]), (7, .aload_n 0, 8, []), (8, .invokevirtual 305, 11, [0, 141, 0, 2176]), (11, .ifCond .eq 14, 14, [25]), (14, .aload_n 0, 15, []), (15, .invokevirtual 308, 18, [0, 142, 0, 3014])],
  [(18, .ifCond .eq 7, 21, [25]), (21, .iconst 1, 22, []), (22, .goto 4, 25, [26]), (25, .iconst 0, 26, []), (26, .ireturn, 27, [])]]
noncomputable def z_r139 : List (List (List z_Row)) := [z_r139_0]
-- ClockParliament.areMajoritiesTold()Z
set_option maxRecDepth 20000 in
noncomputable def z_r140_0 : List (List z_Row) := [[(0, .iconst 0, 1, []), (1, .istore_n 1, 2, []), (2, .iload_n 1, 3, []), (3, .aload_n 0, 4, []), (4, .getfield 10, 7, [0, 8, 0, 2055]), (7, .getfield 170, 10, [0, 3, 1, 1149]), (10, .invokevirtual 281, 13, [0, 51, 0, 2096]), (13, .if_icmp .ge 30, 16, [43])],
  [(16, .aload_n 0, 17, []), (17, .getfield 10, 20, [0, 8, 0, 2055]), (20, .iload_n 1, 21, []), (21, .invokevirtual 272, 24, [0, 78, 1, 2167]), (24, .aload_n 0, 25, []), (25, .getfield 10, 28, [0, 8, 0, 2055]), (28, .iload_n 1, 29, []), (29, .invokevirtual 275, 32, [0, 80, 1, 2168])],
  [(32, .if_icmp .eq 5, 35, [37]), (35, .iconst 0, 36, []), (36, .ireturn, 37, []), (37, .iinc 1 1, 40, []), (40, .goto (-38), 43, [2]), (43, .iconst 1, 44, []), (44, .ireturn, 45, [])]]
noncomputable def z_r140 : List (List (List z_Row)) := [z_r140_0]
-- ClockParliament.areRowsTold()Z
set_option maxRecDepth 20000 in
noncomputable def z_r141_0 : List (List z_Row) := [[(0, .aload_n 0, 1, []), (1, .iconst 0, 2, []), (2, .invokevirtual 242, 5, [0, 130, 1, 2180]), (5, .iconst 0, 6, []), (6, .istore_n 1, 7, []), (7, .iload_n 1, 8, []), (8, .bipush 24, 10, []), (10, .if_icmp .gt 81, 13, [91]), (13, .iconst 0, 14, []), (14, .istore_n 2, 15, []), (15, .iload_n 2, 16, [])],
  [(16, .bipush 10, 18, []), (18, .if_icmp .ge 58, 21, [76]), (21, .aload_n 0, 22, []), (22, .getfield 16, 25, [0, 8, 1, 2056]), (25, .getfield 170, 28, [0, 3, 1, 1149]), (28, .getfield 200, 31, [0, 0, 5, 1132]), (31, .astore_n 3, 32, [])],
  [(32, .aload_n 3, 33, []), (33, .iload_n 2, 34, []), (34, .invokevirtual 211, 37, [0, 2, 1, 2236]), (37, .ifCond .eq 11, 40, [48]), (40, .aload_n 3, 41, []), (41, .iload_n 2, 42, []), (42, .invokevirtual 152, 45, [0, 3, 1, 2237]), (45, .goto 4, 48, [49])],
  [(48, .iconst (-1), 49, []), (49, .istore 4, 51, []), (51, .iload 4, 53, []), (53, .aload_n 0, 54, []), (54, .getfield 10, 57, [0, 8, 0, 2055]), (57, .getfield 170, 60, [0, 3, 1, 1149]), (60, .iload_n 1, 61, []), (61, .iload_n 2, 62, []), (62, .invokevirtual 245, 65, [0, 60, 2, 2238])],
  [(65, .if_icmp .eq 5, 68, [70]), (68, .iconst 0, 69, []), (69, .ireturn, 70, []), (70, .iinc 2 1, 73, []), (73, .goto (-58), 76, [15]), (76, .aload_n 0, 77, []), (77, .getfield 16, 80, [0, 8, 1, 2056])],
  [(80, .iconst 1, 81, []), (81, .invokevirtual 262, 84, [0, 76, 1, 2201]), (84, .pop, 85, []), (85, .iinc 1 1, 88, []), (88, .goto (-81), 91, [7]), (91, .iconst 1, 92, []), (92, .ireturn, 93, [])]]
noncomputable def z_r141 : List (List (List z_Row)) := [z_r141_0]
-- ClockParliament.areBillsTold()Z
set_option maxRecDepth 20000 in
noncomputable def z_r142_0 : List (List z_Row) := [[(0, .iconst 0, 1, []), (1, .istore_n 1, 2, []), (2, .iload_n 1, 3, []), (3, .aload_n 0, 4, []), (4, .getfield 10, 7, [0, 8, 0, 2055]), (7, .getfield 170, 10, [0, 3, 1, 1149]), (10, .invokevirtual 281, 13, [0, 51, 0, 2096]), (13, .if_icmp .ge 50, 16, [63])],
  [(16, .aload_n 0, 17, []), (17, .getfield 10, 20, [0, 8, 0, 2055]), (20, .getfield 170, 23, [0, 3, 1, 1149]), (23, .getfield 200, 26, [0, 0, 5, 1132]), (26, .iload_n 1, 27, []), (27, .invokevirtual 203, 30, [0, 10, 1, 3018]), (30, .iconst (-1), 31, []), (31, .if_icmp .eq 7, 34, [38])],
  [(34, .iconst 1, 35, []), (35, .goto 4, 38, [39]), (38, .iconst 0, 39, []), (39, .istore_n 2, 40, []), (40, .iload_n 2, 41, []), (41, .aload_n 0, 42, []), (42, .getfield 10, 45, [0, 8, 0, 2055]), (45, .getfield 170, 48, [0, 3, 1, 1149])],
  [(48, .iload_n 1, 49, []), (49, .invokevirtual 284, 52, [0, 53, 1, 2104]), (52, .if_icmp .ne 5, 55, [57]), (55, .iconst 0, 56, []), (56, .ireturn, 57, []), (57, .iinc 1 1, 60, []), (60, .goto (-58), 63, [2]), (63, .iconst 1, 64, [])],
  [(64, .ireturn, 65, [])]]
noncomputable def z_r142 : List (List (List z_Row)) := [z_r142_0]
-- ClockParliament.append(C)I
set_option maxRecDepth 20000 in
noncomputable def z_r143_0 : List (List z_Row) := [[(0, .iload_n 1, 1, []), (1, .bipush 32, 3, []), (3, .if_icmp .lt 9, 6, [12]), (6, .iload_n 1, 7, []), (7, .bipush 126, 9, []), (9, .if_icmp .le 14, 12, [23]), (12, .new 185, 15, [1, 11]), (15, .dup, 16, [])],
  [(16, .ldc_w 311, 19, []), (19, .invokespecial 189, 22, []), (22, .athrow, 23, []), (23, .aload_n 0, 24, []), (24, .getfield 36, 27, [0, 8, 5, 2060]), (27, .invokevirtual 313, 30, [0, 90, 0, 6213]), (30, .bipush 60, 32, [])],
  [(32, .if_icmp .lt 14, 35, [46]), (35, .new 316, 38, [1, 12]), (38, .dup, 39, []), (39, .ldc_w 318, 42, []), (42, .invokespecial 320, 45, []), (45, .athrow, 46, []), (46, .aload_n 0, 47, []), (47, .getfield 36, 50, [0, 8, 5, 2060])],
  [(50, .iload_n 1, 51, []), (51, .invokevirtual 321, 54, [0, 91, 1, 6234]), (54, .ireturn, 55, [])]]
noncomputable def z_r143 : List (List (List z_Row)) := [z_r143_0]
-- ClockParliament.run()I
set_option maxRecDepth 20000 in
noncomputable def z_r144_0 : List (List z_Row) := [[(0, .aload_n 0, 1, []), (1, .aload_n 0, 2, []), (2, .getfield 36, 5, [0, 8, 5, 2060]), (5, .invokevirtual 325, 8, [0, 93, 0, 7006]), (8, .putfield 67, 11, [0, 8, 11, 2066]), (11, .aload_n 0, 12, []), (12, .getfield 67, 15, [0, 8, 11, 2066]), (15, .iconst (-1), 16, [])],
  [(16, .if_icmp .eq 21, 19, [37]), (19, .aload_n 0, 20, []), (20, .getfield 36, 23, [0, 8, 5, 2060]), (23, .invokevirtual 328, 26, [0, 92, 0, 7124]), (26, .new 185, 29, [1, 13]), (29, .dup, 30, []), (30, .ldc_w 329, 33, [])],
  [(33, .invokespecial 189, 36, []), (36, .athrow, 37, []), (37, .aload_n 0, 38, []), (38, .getfield 16, 41, [0, 8, 1, 2056]), (41, .aload_n 0, 42, []), (42, .getfield 10, 45, [0, 8, 0, 2055]), (45, .invokevirtual 267, 48, [0, 65, 1, 2184])],
  [(48, .iconst 0, 49, []), (49, .istore_n 1, 50, []), (50, .iload_n 1, 51, []), (51, .bipush 60, 53, []), (53, .if_icmp .gt 103, 56, [156]), (56, .aload_n 0, 57, []), (57, .getfield 36, 60, [0, 8, 5, 2060]), (60, .aload_n 0, 61, []), (61, .getfield 43, 64, [0, 8, 6, 2061])],
  [(64, .invokevirtual 331, 67, [0, 94, 1, 7130]), (67, .ifCond .eq 89, 70, [156]), (70, .aload_n 0, 71, []), (71, .getfield 10, 74, [0, 8, 0, 2055]), (74, .aload_n 0, 75, []), (75, .getfield 43, 78, [0, 8, 6, 2061]), (78, .aload_n 0, 79, []), (79, .getfield 57, 82, [0, 8, 8, 2063])],
  [(82, .invokevirtual 112, 85, [0, 66, 2, 4186]), (85, .ifCond .eq 53, 88, [138]), (88, .aload_n 0, 89, []), (89, .getfield 10, 92, [0, 8, 0, 2055]), (92, .aload_n 0, 93, []), (93, .getfield 16, 96, [0, 8, 1, 2056])],
  [(96, .invokevirtual 267, 99, [0, 65, 1, 2184]), (99, .aload_n 0, 100, []), (100, .getfield 61, 103, [0, 8, 9, 2064]), (103, .bipush 11, 105, []), (105, .iload_n 1, 106, []), (106, .invokevirtual 335, 109, [0, 16, 2, 7134]), (109, .aload_n 0, 110, []), (110, .getfield 64, 113, [0, 8, 10, 2065])],
  [(113, .aload_n 0, 114, []), (114, .getfield 57, 117, [0, 8, 8, 2063]), (117, .invokevirtual 116, 120, [0, 18, 1, 5034]), (120, .aload_n 0, 121, []), (121, .getfield 36, 124, [0, 8, 5, 2060]), (124, .invokevirtual 328, 127, [0, 92, 0, 7124]), (127, .new 123, 130, [1, 14])],
  [(130, .dup, 131, []), (131, .ldc_w 337, 134, []), (134, .invokespecial 127, 137, []), (137, .athrow, 138, []), (138, .aload_n 0, 139, []), (139, .getfield 10, 142, [0, 8, 0, 2055]), (142, .aload_n 0, 143, []), (143, .getfield 43, 146, [0, 8, 6, 2061])],
  [(146, .invokevirtual 134, 149, [0, 73, 1, 5070]), (149, .pop, 150, []), (150, .iinc 1 1, 153, []), (153, .goto (-103), 156, [50]), (156, .aload_n 0, 157, []), (157, .getfield 29, 160, [0, 8, 4, 2059])],
  [(160, .aload_n 0, 161, []), (161, .getfield 16, 164, [0, 8, 1, 2056]), (164, .invokevirtual 130, 167, [0, 85, 1, 5058]), (167, .aload_n 0, 168, []), (168, .getfield 36, 171, [0, 8, 5, 2060]), (171, .invokevirtual 328, 174, [0, 92, 0, 7124]), (174, .iload_n 1, 175, []), (175, .ireturn, 176, [])]]
noncomputable def z_r144 : List (List (List z_Row)) := [z_r144_0]
-- ClockParliament.faultPosition()I
set_option maxRecDepth 20000 in
noncomputable def z_r145_0 : List (List z_Row) := [[(0, .aload_n 0, 1, []), (1, .getfield 67, 4, [0, 8, 11, 2066]), (4, .ireturn, 5, [])]]
noncomputable def z_r145 : List (List (List z_Row)) := [z_r145_0]
-- ClockParliament.reason(IZ)I
set_option maxRecDepth 20000 in
noncomputable def z_r146_0 : List (List z_Row) := [[(0, .iload_n 1, 1, []), (1, .ifCond .eq 19, 4, [20]), (4, .iload_n 1, 5, []), (5, .iconst 1, 6, []), (6, .if_icmp .eq 14, 9, [20]), (9, .new 185, 12, [1, 15]), (12, .dup, 13, []), (13, .ldc_w 339, 16, [])],
  [(16, .invokespecial 189, 19, []), (19, .athrow, 20, []), (20, .iload_n 1, 21, []), (21, .ifCond .ne 10, 24, [31]), (24, .aload_n 0, 25, []), (25, .getfield 61, 28, [0, 8, 9, 2064]), (28, .goto 7, 31, [35]), (31, .aload_n 0, 32, [])],
  [(32, .getfield 64, 35, [0, 8, 10, 2065]), (35, .astore_n 3, 36, []), (36, .aload_n 3, 37, []), (37, .invokevirtual 341, 40, [0, 15, 0, 7144]), (40, .ifCond .eq 14, 43, [54]), (43, .new 248, 46, [1, 16]), (46, .dup, 47, []), (47, .ldc_w 344, 50, [])],
  [(50, .invokespecial 252, 53, []), (53, .athrow, 54, []), (54, .iload_n 2, 55, []), (55, .ifCond .eq 10, 58, [65]), (58, .aload_n 3, 59, []), (59, .getfield 346, 62, [0, 7, 1, 2049]), (62, .goto 7, 65, [69])],
  [(65, .aload_n 3, 66, []), (66, .getfield 349, 69, [0, 7, 0, 2047]), (69, .ireturn, 70, [])]]
noncomputable def z_r146 : List (List (List z_Row)) := [z_r146_0]
-- ClockParliament.tell(I)I
set_option maxRecDepth 20000 in
noncomputable def z_r147_0 : List (List z_Row) := [[(0, .aload_n 0, 1, []), (1, .iload_n 1, 2, []), (2, .invokevirtual 138, 5, [0, 120, 1, 5231]), (5, .aload_n 0, 6, []), (6, .getfield 10, 9, [0, 8, 0, 2055]), (9, .getfield 142, 12, [0, 3, 0, 1147]), (12, .astore_n 2, 13, []), (13, .aload_n 0, 14, []), (14, .iload_n 1, 15, []), (15, .invokevirtual 352, 18, [0, 151, 1, 4131])],
  [(18, .aload_n 0, 19, []), (19, .bipush 58, 21, []), (21, .aload_n 2, 22, []), (22, .getfield 146, 25, [0, 1, 0, 1085]), (25, .iload_n 1, 26, []), (26, .invokevirtual 152, 29, [0, 3, 1, 2237]), (29, .invokevirtual 355, 32, [0, 152, 2, 4136])],
  [(32, .aload_n 0, 33, []), (33, .bipush 126, 35, []), (35, .aload_n 2, 36, []), (36, .getfield 158, 39, [0, 1, 1, 1088]), (39, .iload_n 1, 40, []), (40, .invokevirtual 152, 43, [0, 3, 1, 2237]), (43, .invokevirtual 355, 46, [0, 152, 2, 4136]), (46, .aload_n 0, 47, []), (47, .bipush 60, 49, [])],
  [(49, .aload_n 2, 50, []), (50, .getfield 161, 53, [0, 1, 2, 1090]), (53, .iload_n 1, 54, []), (54, .invokevirtual 152, 57, [0, 3, 1, 2237]), (57, .invokevirtual 355, 60, [0, 152, 2, 4136]), (60, .iconst 0, 61, []), (61, .istore_n 3, 62, []), (62, .iload_n 3, 63, []), (63, .iconst 3, 64, [])],
  [(64, .if_icmp .ge 28, 67, [92]), (67, .aload_n 2, 68, []), (68, .getfield 164, 71, [0, 1, 4, 1096]), (71, .iload_n 3, 72, []), (72, .invokevirtual 152, 75, [0, 3, 1, 2237]), (75, .iload_n 1, 76, []), (76, .if_icmp .ne 10, 79, [86]), (79, .aload_n 0, 80, [])],
  [(80, .bipush 107, 82, []), (82, .iload_n 3, 83, []), (83, .invokevirtual 355, 86, [0, 152, 2, 4136]), (86, .iinc 3 1, 89, []), (89, .goto (-27), 92, [62]), (92, .aload_n 0, 93, []), (93, .getfield 50, 96, [0, 8, 7, 2062])],
  [(96, .invokevirtual 359, 99, [0, 308, 0, 4162]), (99, .ireturn, 100, [])]]
noncomputable def z_r147 : List (List (List z_Row)) := [z_r147_0]
-- ClockParliament.tellBill(I)I
set_option maxRecDepth 20000 in
noncomputable def z_r148_0 : List (List z_Row) := [[(0, .aload_n 0, 1, []), (1, .iload_n 1, 2, []), (2, .invokevirtual 190, 5, [0, 121, 1, 6025]), (5, .aload_n 0, 6, []), (6, .iload_n 1, 7, []), (7, .invokevirtual 352, 10, [0, 151, 1, 4131]), (10, .aload_n 0, 11, []), (11, .bipush 64, 13, []), (13, .aload_n 0, 14, []), (14, .getfield 10, 17, [0, 8, 0, 2055])],
  [(17, .getfield 170, 20, [0, 3, 1, 1149]), (20, .getfield 193, 23, [0, 0, 1, 1121]), (23, .iload_n 1, 24, []), (24, .invokevirtual 152, 27, [0, 3, 1, 2237]), (27, .invokevirtual 355, 30, [0, 152, 2, 4136]), (30, .aload_n 0, 31, []), (31, .bipush 43, 33, [])],
  [(33, .aload_n 0, 34, []), (34, .getfield 10, 37, [0, 8, 0, 2055]), (37, .getfield 170, 40, [0, 3, 1, 1149]), (40, .getfield 194, 43, [0, 0, 2, 1123]), (43, .iload_n 1, 44, []), (44, .invokevirtual 152, 47, [0, 3, 1, 2237]), (47, .invokevirtual 355, 50, [0, 152, 2, 4136])],
  [(50, .aload_n 0, 51, []), (51, .getfield 10, 54, [0, 8, 0, 2055]), (54, .getfield 170, 57, [0, 3, 1, 1149]), (57, .iload_n 1, 58, []), (58, .invokevirtual 284, 61, [0, 53, 1, 2104]), (61, .ifCond .eq 23, 64, [84])],
  [(64, .aload_n 0, 65, []), (65, .bipush 104, 67, []), (67, .aload_n 0, 68, []), (68, .getfield 10, 71, [0, 8, 0, 2055]), (71, .getfield 170, 74, [0, 3, 1, 1149]), (74, .getfield 197, 77, [0, 0, 3, 1127]), (77, .iload_n 1, 78, []), (78, .invokevirtual 152, 81, [0, 3, 1, 2237])],
  [(81, .invokevirtual 355, 84, [0, 152, 2, 4136]), (84, .aload_n 0, 85, []), (85, .getfield 50, 88, [0, 8, 7, 2062]), (88, .invokevirtual 359, 91, [0, 308, 0, 4162]), (91, .ireturn, 92, [])]]
noncomputable def z_r148 : List (List (List z_Row)) := [z_r148_0]
-- ClockParliament.tellRow()I
set_option maxRecDepth 20000 in
noncomputable def z_r149_0 : List (List z_Row) := [[(0, .aload_n 0, 1, []), (1, .getfield 10, 4, [0, 8, 0, 2055]), (4, .getfield 170, 7, [0, 3, 1, 1149]), (7, .getfield 200, 10, [0, 0, 5, 1132]), (10, .astore_n 1, 11, []), (11, .aload_n 0, 12, []), (12, .getfield 50, 15, [0, 8, 7, 2062]), (15, .iconst 0, 16, [])],
  [(16, .invokevirtual 360, 19, [0, 306, 1, 3027]), (19, .aload_n 1, 20, []), (20, .invokevirtual 363, 23, [0, 1, 0, 4130]), (23, .ifCond .le 12, 26, [35]), (26, .aload_n 0, 27, []), (27, .aload_n 1, 28, []), (28, .iconst 0, 29, []), (29, .invokevirtual 152, 32, [0, 3, 1, 2237])],
  [(32, .invokevirtual 352, 35, [0, 151, 1, 4131]), (35, .iconst 1, 36, []), (36, .istore_n 2, 37, []), (37, .iload_n 2, 38, []), (38, .aload_n 1, 39, []), (39, .invokevirtual 363, 42, [0, 1, 0, 4130]), (42, .if_icmp .ge 20, 45, [62]), (45, .aload_n 0, 46, []), (46, .bipush 32, 48, [])],
  [(48, .aload_n 1, 49, []), (49, .iload_n 2, 50, []), (50, .invokevirtual 152, 53, [0, 3, 1, 2237]), (53, .invokevirtual 355, 56, [0, 152, 2, 4136]), (56, .iinc 2 1, 59, []), (59, .goto (-22), 62, [37]), (62, .aload_n 0, 63, []), (63, .getfield 50, 66, [0, 8, 7, 2062])],
  [(66, .invokevirtual 359, 69, [0, 308, 0, 4162]), (69, .ireturn, 70, [])]]
noncomputable def z_r149 : List (List (List z_Row)) := [z_r149_0]
-- ClockParliament.character(I)C
set_option maxRecDepth 20000 in
noncomputable def z_r150_0 : List (List z_Row) := [[(0, .iload_n 1, 1, []), (1, .ifCond .lt 14, 4, [15]), (4, .iload_n 1, 5, []), (5, .aload_n 0, 6, []), (6, .getfield 50, 9, [0, 8, 7, 2062]), (9, .invokevirtual 359, 12, [0, 308, 0, 4162]), (12, .if_icmp .lt 14, 15, [26]), (15, .new 215, 18, [1, 17])],
  [(18, .dup, 19, []), (19, .ldc_w 364, 22, []), (22, .invokespecial 219, 25, []), (25, .athrow, 26, []), (26, .aload_n 0, 27, []), (27, .getfield 50, 30, [0, 8, 7, 2062]), (30, .iload_n 1, 31, []), (31, .invokevirtual 366, 34, [0, 310, 1, 7171])],
  [(34, .ireturn, 35, [])]]
noncomputable def z_r150 : List (List (List z_Row)) := [z_r150_0]
-- ClockParliament.startLine(I)V
set_option maxRecDepth 20000 in
noncomputable def z_r151_0 : List (List z_Row) := [[(0, .aload_n 0, 1, []), (1, .getfield 50, 4, [0, 8, 7, 2062]), (4, .iconst 0, 5, []), (5, .invokevirtual 360, 8, [0, 306, 1, 3027]), (8, .aload_n 0, 9, []), (9, .getfield 50, 12, [0, 8, 7, 2062]), (12, .iload_n 1, 13, []), (13, .invokevirtual 370, 16, [0, 304, 1, 4135])],
  [(16, .pop, 17, []), (17, .return_, 18, [])]]
noncomputable def z_r151 : List (List (List z_Row)) := [z_r151_0]
-- ClockParliament.write(CI)V
set_option maxRecDepth 20000 in
noncomputable def z_r152_0 : List (List z_Row) := [[(0, .aload_n 0, 1, []), (1, .getfield 50, 4, [0, 8, 7, 2062]), (4, .iload_n 1, 5, []), (5, .invokevirtual 374, 8, [0, 302, 1, 4140]), (8, .pop, 9, []), (9, .aload_n 0, 10, []), (10, .getfield 50, 13, [0, 8, 7, 2062]), (13, .iload_n 2, 14, []), (14, .invokevirtual 370, 17, [0, 304, 1, 4135])],
  [(17, .pop, 18, []), (18, .return_, 19, [])]]
noncomputable def z_r152 : List (List (List z_Row)) := [z_r152_0]
-- ClockParliament.account(I)I
set_option maxRecDepth 20000 in
noncomputable def z_r153_0 : List (List z_Row) := [[(0, .iload_n 1, 1, []), (1, .tableswitch 213 0 13 #[71, 82, 97, 108, 119, 127, 141, 149, 157, 173, 181, 189, 197, 205], 72, [214, 72, 83, 98, 109, 120, 128, 142, 150, 158, 174, 182, 190, 198, 206])],
  [],
  [],
  [],
  [(72, .aload_n 0, 73, []), (73, .getfield 10, 76, [0, 8, 0, 2055]), (76, .getfield 142, 79, [0, 3, 0, 1147]), (79, .invokevirtual 287, 82, [0, 27, 0, 4167])],
  [(82, .ireturn, 83, []), (83, .aload_n 0, 84, []), (84, .getfield 10, 87, [0, 8, 0, 2055]), (87, .getfield 142, 90, [0, 3, 0, 1147]), (90, .getfield 158, 93, [0, 1, 1, 1088]), (93, .iconst 0, 94, []), (94, .invokevirtual 167, 97, [0, 11, 1, 6009])],
  [(97, .ireturn, 98, []), (98, .aload_n 0, 99, []), (99, .getfield 10, 102, [0, 8, 0, 2055]), (102, .getfield 170, 105, [0, 3, 1, 1149]), (105, .invokevirtual 281, 108, [0, 51, 0, 2096]), (108, .ireturn, 109, []), (109, .aload_n 0, 110, []), (110, .getfield 10, 113, [0, 8, 0, 2055])],
  [(113, .getfield 170, 116, [0, 3, 1, 1149]), (116, .invokevirtual 377, 119, [0, 54, 0, 7179]), (119, .ireturn, 120, []), (120, .aload_n 0, 121, []), (121, .getfield 10, 124, [0, 8, 0, 2055]), (124, .getfield 380, 127, [0, 3, 2, 1151]), (127, .ireturn, 128, [])],
  [(128, .aload_n 0, 129, []), (129, .getfield 10, 132, [0, 8, 0, 2055]), (132, .getfield 142, 135, [0, 3, 0, 1147]), (135, .getfield 158, 138, [0, 1, 1, 1088]), (138, .invokevirtual 383, 141, [0, 12, 0, 7180]), (141, .ireturn, 142, []), (142, .aload_n 0, 143, []), (143, .getfield 10, 146, [0, 8, 0, 2055])],
  [(146, .getfield 386, 149, [0, 3, 3, 1153]), (149, .ireturn, 150, []), (150, .aload_n 0, 151, []), (151, .getfield 10, 154, [0, 8, 0, 2055]), (154, .getfield 389, 157, [0, 3, 4, 1155]), (157, .ireturn, 158, []), (158, .aload_n 0, 159, []), (159, .getfield 10, 162, [0, 8, 0, 2055])],
  [(162, .getfield 386, 165, [0, 3, 3, 1153]), (165, .aload_n 0, 166, []), (166, .getfield 10, 169, [0, 8, 0, 2055]), (169, .getfield 389, 172, [0, 3, 4, 1155]), (172, .isub, 173, []), (173, .ireturn, 174, []), (174, .aload_n 0, 175, []), (175, .getfield 10, 178, [0, 8, 0, 2055])],
  [(178, .getfield 392, 181, [0, 3, 5, 1157]), (181, .ireturn, 182, []), (182, .aload_n 0, 183, []), (183, .getfield 10, 186, [0, 8, 0, 2055]), (186, .getfield 395, 189, [0, 3, 6, 1159]), (189, .ireturn, 190, []), (190, .aload_n 0, 191, []), (191, .getfield 10, 194, [0, 8, 0, 2055])],
  [(194, .getfield 398, 197, [0, 3, 7, 1161]), (197, .ireturn, 198, []), (198, .aload_n 0, 199, []), (199, .getfield 36, 202, [0, 8, 5, 2060]), (202, .invokevirtual 313, 205, [0, 90, 0, 6213]), (205, .ireturn, 206, []), (206, .aload_n 0, 207, []), (207, .getfield 29, 210, [0, 8, 4, 2059])],
  [(210, .getfield 401, 213, [0, 2, 2, 1191]), (213, .ireturn, 214, []), (214, .new 185, 217, [1, 18]), (217, .dup, 218, []), (218, .ldc_w 403, 221, []), (221, .invokespecial 189, 224, [])],
  [(224, .athrow, 225, [])]]
noncomputable def z_r153 : List (List (List z_Row)) := [z_r153_0]
-- ClockParliament.meanSpring()D
set_option maxRecDepth 20000 in
noncomputable def z_r154_0 : List (List z_Row) := [[(0, .aload_n 0, 1, []), (1, .getfield 10, 4, [0, 8, 0, 2055]), (4, .getfield 142, 7, [0, 3, 0, 1147]), (7, .invokevirtual 287, 10, [0, 27, 0, 4167]), (10, .istore_n 1, 11, []), (11, .iload_n 1, 12, []), (12, .ifCond .ne 14, 15, [26]), (15, .new 405, 18, [1, 19])],
  [(18, .dup, 19, []), (19, .ldc_w 288, 22, []), (22, .invokespecial 407, 25, []), (25, .athrow, 26, []), (26, .aload_n 0, 27, []), (27, .getfield 10, 30, [0, 8, 0, 2055]), (30, .getfield 142, 33, [0, 3, 0, 1147])],
  [(33, .getfield 158, 36, [0, 1, 1, 1088]), (36, .invokevirtual 383, 39, [0, 12, 0, 7180]), (39, .i2d, 40, []), (40, .iload_n 1, 41, []), (41, .i2d, 42, []), (42, .ddiv, 43, []), (43, .dreturn, 44, [])]]
noncomputable def z_r154 : List (List (List z_Row)) := [z_r154_0]
-- ClockParliament.carriedShare()F
set_option maxRecDepth 20000 in
noncomputable def z_r155_0 : List (List z_Row) := [[(0, .aload_n 0, 1, []), (1, .getfield 10, 4, [0, 8, 0, 2055]), (4, .getfield 386, 7, [0, 3, 3, 1153]), (7, .ifCond .ne 14, 10, [21]), (10, .new 405, 13, [1, 20]), (13, .dup, 14, []), (14, .ldc_w 408, 17, [])],
  [(17, .invokespecial 407, 20, []), (20, .athrow, 21, []), (21, .aload_n 0, 22, []), (22, .getfield 10, 25, [0, 8, 0, 2055]), (25, .getfield 389, 28, [0, 3, 4, 1155]), (28, .i2f, 29, []), (29, .aload_n 0, 30, []), (30, .getfield 10, 33, [0, 8, 0, 2055])],
  [(33, .getfield 386, 36, [0, 3, 3, 1153]), (36, .i2f, 37, []), (37, .fdiv, 38, []), (38, .freturn, 39, [])]]
noncomputable def z_r155 : List (List (List z_Row)) := [z_r155_0]
-- ClockParliament.undo()I
set_option maxRecDepth 20000 in
noncomputable def z_r156_0 : List (List z_Row) := [[(0, .aload_n 0, 1, []), (1, .getfield 29, 4, [0, 8, 4, 2059]), (4, .getfield 401, 7, [0, 2, 2, 1191]), (7, .ifCond .ne 14, 10, [21]), (10, .new 316, 13, [1, 21]), (13, .dup, 14, []), (14, .ldc_w 410, 17, [])],
  [(17, .invokespecial 320, 20, []), (20, .athrow, 21, []), (21, .aload_n 0, 22, []), (22, .getfield 29, 25, [0, 8, 4, 2059]), (25, .aload_n 0, 26, []), (26, .getfield 10, 29, [0, 8, 0, 2055]), (29, .invokevirtual 412, 32, [0, 86, 1, 7224])],
  [(32, .ireturn, 33, [])]]
noncomputable def z_r156 : List (List (List z_Row)) := [z_r156_0]
-- ClockParliament.save()I
set_option maxRecDepth 20000 in
noncomputable def z_r157_0 : List (List z_Row) := [[(0, .aload_n 0, 1, []), (1, .getfield 19, 4, [0, 8, 2, 2057]), (4, .aload_n 0, 5, []), (5, .getfield 10, 8, [0, 8, 0, 2055]), (8, .invokevirtual 267, 11, [0, 65, 1, 2184]), (11, .aload_n 0, 12, []), (12, .iconst 1, 13, []), (13, .putfield 22, 16, [0, 8, 3, 2058])],
  [(16, .aload_n 0, 17, []), (17, .getfield 10, 20, [0, 8, 0, 2055]), (20, .getfield 142, 23, [0, 3, 0, 1147]), (23, .invokevirtual 287, 26, [0, 27, 0, 4167]), (26, .ireturn, 27, [])]]
noncomputable def z_r157 : List (List (List z_Row)) := [z_r157_0]
-- ClockParliament.restore()I
set_option maxRecDepth 20000 in
noncomputable def z_r158_0 : List (List z_Row) := [[(0, .aload_n 0, 1, []), (1, .getfield 22, 4, [0, 8, 3, 2058]), (4, .ifCond .ne 14, 7, [18]), (7, .new 316, 10, [1, 22]), (10, .dup, 11, []), (11, .ldc_w 416, 14, []), (14, .invokespecial 320, 17, [])],
  [(17, .athrow, 18, []), (18, .aload_n 0, 19, []), (19, .getfield 10, 22, [0, 8, 0, 2055]), (22, .aload_n 0, 23, []), (23, .getfield 19, 26, [0, 8, 2, 2057]), (26, .invokevirtual 267, 29, [0, 65, 1, 2184]), (29, .aload_n 0, 30, []), (30, .getfield 29, 33, [0, 8, 4, 2059])],
  [(33, .invokevirtual 418, 36, [0, 87, 0, 7236]), (36, .aload_n 0, 37, []), (37, .getfield 10, 40, [0, 8, 0, 2055]), (40, .getfield 142, 43, [0, 3, 0, 1147]), (43, .invokevirtual 287, 46, [0, 27, 0, 4167]), (46, .ireturn, 47, [])]]
noncomputable def z_r158 : List (List (List z_Row)) := [z_r158_0]
-- ClockParliament.isIn(II)Z
set_option maxRecDepth 20000 in
noncomputable def z_r159_0 : List (List z_Row) := [[(0, .iload_n 0, 1, []), (1, .iload_n 1, 2, []), (2, .ishr, 3, []), (3, .iconst 1, 4, []), (4, .iand, 5, []), (5, .ifCond .eq 7, 8, [12]), (8, .iconst 1, 9, []), (9, .goto 4, 12, [13]), (12, .iconst 0, 13, []), (13, .ireturn, 14, [])]]
noncomputable def z_r159 : List (List (List z_Row)) := [z_r159_0]
-- ClockParliamentModel.<init>()V
set_option maxRecDepth 20000 in
noncomputable def z_r160_0 : List (List z_Row) := [[(0, .aload_n 0, 1, []), (1, .invokespecial 1, 4, [7, 0, 0, 8005]), (4, .aload_n 0, 5, []), (5, .bipush 105, 7, []), (7, .newarray .int, 9, [0, 1074]), (9, .putfield 7, 12, [0, 9, 0, 8006]), (12, .aload_n 0, 13, []), (13, .bipush 105, 15, []), (15, .newarray .int, 17, [0, 1074])],
  [(17, .putfield 13, 20, [0, 9, 1, 8007]), (20, .aload_n 0, 21, []), (21, .bipush 105, 23, []), (23, .newarray .int, 25, [0, 1074]), (25, .putfield 16, 28, [0, 9, 2, 8008]), (28, .aload_n 0, 29, []), (29, .sipush 840, 32, [])],
  [(32, .newarray .int, 34, [0, 1074]), (34, .putfield 19, 37, [0, 9, 3, 8009]), (37, .aload_n 0, 38, []), (38, .bipush 105, 40, []), (40, .newarray .int, 42, [0, 1074]), (42, .putfield 22, 45, [0, 9, 5, 8011]), (45, .aload_n 0, 46, []), (46, .bipush 60, 48, [])],
  [(48, .newarray .char, 50, [1, 8067]), (50, .putfield 25, 53, [0, 9, 7, 8013]), (53, .aload_n 0, 54, []), (54, .iconst (-1), 55, []), (55, .putfield 29, 58, [0, 9, 9, 8015]), (58, .aload_n 0, 59, []), (59, .bipush 40, 61, []), (61, .newarray .char, 63, [1, 8067]), (63, .putfield 33, 66, [0, 9, 14, 8020])],
  [(66, .aload_n 0, 67, []), (67, .sipush 240, 70, []), (70, .newarray .int, 72, [0, 1074]), (72, .putfield 36, 75, [0, 9, 19, 8025]), (75, .return_, 76, [])]]
noncomputable def z_r160 : List (List (List z_Row)) := [z_r160_0]
-- ClockParliamentModel.thrown()I
set_option maxRecDepth 20000 in
noncomputable def z_r161_0 : List (List z_Row) := [[(0, .aload_n 0, 1, []), (1, .getfield 39, 4, [0, 9, 16, 8022]), (4, .ireturn, 5, [])]]
noncomputable def z_r161 : List (List (List z_Row)) := [z_r161_0]
-- ClockParliamentModel.in(III)Z
set_option maxRecDepth 20000 in
noncomputable def z_r162_0 : List (List z_Row) := [[(0, .iload_n 0, 1, []), (1, .iload_n 1, 2, []), (2, .if_icmp .lt 12, 5, [14]), (5, .iload_n 0, 6, []), (6, .iload_n 2, 7, []), (7, .if_icmp .gt 7, 10, [14]), (10, .iconst 1, 11, []), (11, .goto 4, 14, [15]), (14, .iconst 0, 15, []), (15, .ireturn, 16, [])]]
noncomputable def z_r162 : List (List (List z_Row)) := [z_r162_0]
-- ClockParliamentModel.done(I)I
set_option maxRecDepth 20000 in
noncomputable def z_r163_0 : List (List z_Row) := [[(0, .aload_n 0, 1, []), (1, .iconst 0, 2, []), (2, .putfield 39, 5, [0, 9, 16, 8022]), (5, .iload_n 1, 6, []), (6, .ireturn, 7, [])]]
noncomputable def z_r163 : List (List (List z_Row)) := [z_r163_0]
-- ClockParliamentModel.fails(I)I
set_option maxRecDepth 20000 in
noncomputable def z_r164_0 : List (List z_Row) := [[(0, .aload_n 0, 1, []), (1, .iload_n 1, 2, []), (2, .putfield 39, 5, [0, 9, 16, 8022]), (5, .iconst 0, 6, []), (6, .ireturn, 7, [])]]
noncomputable def z_r164 : List (List (List z_Row)) := [z_r164_0]
-- ClockParliamentModel.refused(II)I
set_option maxRecDepth 20000 in
noncomputable def z_r165_0 : List (List z_Row) := [[(0, .aload_n 0, 1, []), (1, .iload_n 1, 2, []), (2, .putfield 42, 5, [0, 9, 10, 8016]), (5, .aload_n 0, 6, []), (6, .iload_n 2, 7, []), (7, .putfield 45, 10, [0, 9, 11, 8017]), (10, .aload_n 0, 11, []), (11, .iconst 0, 12, []), (12, .putfield 48, 15, [0, 9, 12, 8018]), (15, .aload_n 0, 16, [])],
  [(16, .iconst 0, 17, []), (17, .putfield 51, 20, [0, 9, 13, 8019]), (20, .aload_n 0, 21, []), (21, .iconst 1, 22, []), (22, .invokevirtual 54, 25, [0, 164, 1, 8097]), (25, .ireturn, 26, [])]]
noncomputable def z_r165 : List (List (List z_Row)) := [z_r165_0]
-- ClockParliamentModel.copy([II[II)V
set_option maxRecDepth 20000 in
noncomputable def z_r166_0 : List (List z_Row) := [[(0, .iconst 0, 1, []), (1, .istore 4, 3, []), (3, .iload 4, 5, []), (5, .bipush 105, 7, []), (7, .if_icmp .ge 21, 10, [28]), (10, .aload_n 2, 11, []), (11, .iload_n 3, 12, []), (12, .iload 4, 14, []), (14, .iadd, 15, []), (15, .aload_n 0, 16, [])],
  [(16, .iload_n 1, 17, []), (17, .iload 4, 19, []), (19, .iadd, 20, []), (20, .iaload, 21, []), (21, .iastore, 22, []), (22, .iinc 4 1, 25, []), (25, .goto (-22), 28, [3]), (28, .return_, 29, [])]]
noncomputable def z_r166 : List (List (List z_Row)) := [z_r166_0]
-- ClockParliamentModel.looksBack()V
set_option maxRecDepth 20000 in
noncomputable def z_r167_0 : List (List z_Row) := [[(0, .aload_n 0, 1, []), (1, .getfield 7, 4, [0, 9, 0, 8006]), (4, .iconst 0, 5, []), (5, .aload_n 0, 6, []), (6, .getfield 13, 9, [0, 9, 1, 8007]), (9, .iconst 0, 10, []), (10, .invokestatic 58, 13, [1, 166, 4, 8080]), (13, .return_, 14, [])]]
noncomputable def z_r167 : List (List (List z_Row)) := [z_r167_0]
-- ClockParliamentModel.kept(I)I
set_option maxRecDepth 20000 in
noncomputable def z_r168_0 : List (List z_Row) := [[(0, .aload_n 0, 1, []), (1, .getfield 39, 4, [0, 9, 16, 8022]), (4, .ifCond .eq 18, 7, [22]), (7, .aload_n 0, 8, []), (8, .getfield 13, 11, [0, 9, 1, 8007]), (11, .iconst 0, 12, []), (12, .aload_n 0, 13, []), (13, .getfield 7, 16, [0, 9, 0, 8006])],
  [(16, .iconst 0, 17, []), (17, .invokestatic 58, 20, [1, 166, 4, 8080]), (20, .iconst 0, 21, []), (21, .ireturn, 22, []), (22, .aload_n 0, 23, []), (23, .getfield 62, 26, [0, 9, 4, 8010]), (26, .bipush 8, 28, []), (28, .if_icmp .ne 43, 31, [71]), (31, .iconst 0, 32, [])],
  [(32, .istore_n 2, 33, []), (33, .iload_n 2, 34, []), (34, .sipush 735, 37, []), (37, .if_icmp .ge 24, 40, [61]), (40, .aload_n 0, 41, []), (41, .getfield 19, 44, [0, 9, 3, 8009]), (44, .iload_n 2, 45, []), (45, .aload_n 0, 46, []), (46, .getfield 19, 49, [0, 9, 3, 8009])],
  [(49, .iload_n 2, 50, []), (50, .bipush 105, 52, []), (52, .iadd, 53, []), (53, .iaload, 54, []), (54, .iastore, 55, []), (55, .iinc 2 1, 58, []), (58, .goto (-25), 61, [33]), (61, .aload_n 0, 62, []), (62, .dup, 63, []), (63, .getfield 62, 66, [0, 9, 4, 8010])],
  [(66, .iconst 1, 67, []), (67, .isub, 68, []), (68, .putfield 62, 71, [0, 9, 4, 8010]), (71, .aload_n 0, 72, []), (72, .getfield 13, 75, [0, 9, 1, 8007]), (75, .iconst 0, 76, []), (76, .aload_n 0, 77, []), (77, .getfield 19, 80, [0, 9, 3, 8009])],
  [(80, .aload_n 0, 81, []), (81, .getfield 62, 84, [0, 9, 4, 8010]), (84, .bipush 105, 86, []), (86, .imul, 87, []), (87, .invokestatic 58, 90, [1, 166, 4, 8080]), (90, .aload_n 0, 91, []), (91, .dup, 92, []), (92, .getfield 62, 95, [0, 9, 4, 8010]), (95, .iconst 1, 96, [])],
  [(96, .iadd, 97, []), (97, .putfield 62, 100, [0, 9, 4, 8010]), (100, .iload_n 1, 101, []), (101, .ireturn, 102, [])]]
noncomputable def z_r168 : List (List (List z_Row)) := [z_r168_0]
-- ClockParliamentModel.isClock(I)Z
set_option maxRecDepth 20000 in
noncomputable def z_r169_0 : List (List z_Row) := [[(0, .iload_n 1, 1, []), (1, .iconst 0, 2, []), (2, .aload_n 0, 3, []), (3, .getfield 7, 6, [0, 9, 0, 8006]), (6, .iconst 0, 7, []), (7, .iaload, 8, []), (8, .iconst 1, 9, []), (9, .isub, 10, []), (10, .invokestatic 65, 13, [1, 162, 3, 8090]), (13, .ireturn, 14, [])]]
noncomputable def z_r169 : List (List (List z_Row)) := [z_r169_0]
-- ClockParliamentModel.isBill(I)Z
set_option maxRecDepth 20000 in
noncomputable def z_r170_0 : List (List z_Row) := [[(0, .iload_n 1, 1, []), (1, .iconst 0, 2, []), (2, .aload_n 0, 3, []), (3, .getfield 7, 6, [0, 9, 0, 8006]), (6, .iconst 1, 7, []), (7, .iaload, 8, []), (8, .iconst 1, 9, []), (9, .isub, 10, []), (10, .invokestatic 65, 13, [1, 162, 3, 8090]), (13, .ireturn, 14, [])]]
noncomputable def z_r170 : List (List (List z_Row)) := [z_r170_0]
-- ClockParliamentModel.isKey(I)Z
set_option maxRecDepth 20000 in
noncomputable def z_r171_0 : List (List z_Row) := [[(0, .iload_n 0, 1, []), (1, .iconst 0, 2, []), (2, .iconst 2, 3, []), (3, .invokestatic 65, 6, [1, 162, 3, 8090]), (6, .ireturn, 7, [])]]
noncomputable def z_r171 : List (List (List z_Row)) := [z_r171_0]
-- ClockParliamentModel.isSecond(I)Z
set_option maxRecDepth 20000 in
noncomputable def z_r172_0 : List (List z_Row) := [[(0, .iload_n 0, 1, []), (1, .iconst 0, 2, []), (2, .bipush 59, 4, []), (4, .invokestatic 65, 7, [1, 162, 3, 8090]), (7, .ireturn, 8, [])]]
noncomputable def z_r172 : List (List (List z_Row)) := [z_r172_0]
-- ClockParliamentModel.apartBy(II)I
set_option maxRecDepth 20000 in
noncomputable def z_r173_0 : List (List z_Row) := [[(0, .iload_n 0, 1, []), (1, .iload_n 1, 2, []), (2, .if_icmp .le 9, 5, [11]), (5, .iload_n 0, 6, []), (6, .iload_n 1, 7, []), (7, .isub, 8, []), (8, .goto 6, 11, [14]), (11, .iload_n 1, 12, []), (12, .iload_n 0, 13, []), (13, .isub, 14, []), (14, .istore_n 2, 15, []), (15, .iload_n 2, 16, [])],
  [(16, .bipush 30, 18, []), (18, .if_icmp .le 10, 21, [28]), (21, .bipush 60, 23, []), (23, .iload_n 2, 24, []), (24, .isub, 25, []), (25, .goto 4, 28, [29]), (28, .iload_n 2, 29, []), (29, .ireturn, 30, [])]]
noncomputable def z_r173 : List (List (List z_Row)) := [z_r173_0]
-- ClockParliamentModel.clocksApart(II)I
set_option maxRecDepth 20000 in
noncomputable def z_r174_0 : List (List z_Row) := [[(0, .aload_n 0, 1, []), (1, .getfield 7, 4, [0, 9, 0, 8006]), (4, .bipush 10, 6, []), (6, .iload_n 1, 7, []), (7, .iadd, 8, []), (8, .iaload, 9, []), (9, .aload_n 0, 10, []), (10, .getfield 7, 13, [0, 9, 0, 8006]), (13, .bipush 10, 15, []), (15, .iload_n 2, 16, [])],
  [(16, .iadd, 17, []), (17, .iaload, 18, []), (18, .invokestatic 69, 21, [1, 173, 2, 8151]), (21, .ireturn, 22, [])]]
noncomputable def z_r174 : List (List (List z_Row)) := [z_r174_0]
-- ClockParliamentModel.comes(II)I
set_option maxRecDepth 20000 in
noncomputable def z_r175_0 : List (List z_Row) := [[(0, .iload_n 1, 1, []), (1, .invokestatic 73, 4, [1, 172, 1, 8087]), (4, .ifCond .eq 12, 7, [16]), (7, .iload_n 2, 8, []), (8, .iconst 0, 9, []), (9, .iconst 3, 10, []), (10, .invokestatic 65, 13, [1, 162, 3, 8090]), (13, .ifCond .ne 21, 16, [34])],
  [(16, .aload_n 0, 17, []), (17, .iconst 3, 18, []), (18, .iload_n 1, 19, []), (19, .invokestatic 73, 22, [1, 172, 1, 8087]), (22, .ifCond .eq 7, 25, [29]), (25, .iload_n 2, 26, []), (26, .goto 4, 29, [30]), (29, .iload_n 1, 30, []), (30, .invokevirtual 77, 33, [0, 165, 2, 8093])],
  [(33, .ireturn, 34, []), (34, .aload_n 0, 35, []), (35, .getfield 7, 38, [0, 9, 0, 8006]), (38, .iconst 0, 39, []), (39, .iaload, 40, []), (40, .istore_n 3, 41, []), (41, .iload_n 3, 42, []), (42, .bipush 8, 44, []), (44, .if_icmp .ne 11, 47, [55]), (47, .aload_n 0, 48, [])],
  [(48, .iconst 1, 49, []), (49, .bipush 8, 51, []), (51, .invokevirtual 77, 54, [0, 165, 2, 8093]), (54, .ireturn, 55, []), (55, .aload_n 0, 56, []), (56, .getfield 7, 59, [0, 9, 0, 8006]), (59, .bipush 10, 61, []), (61, .iload_n 3, 62, []), (62, .iadd, 63, []), (63, .iload_n 1, 64, [])],
  [(64, .iastore, 65, []), (65, .aload_n 0, 66, []), (66, .getfield 7, 69, [0, 9, 0, 8006]), (69, .bipush 18, 71, []), (71, .iload_n 3, 72, []), (72, .iadd, 73, []), (73, .bipush 24, 75, []), (75, .iastore, 76, []), (76, .aload_n 0, 77, []), (77, .getfield 7, 80, [0, 9, 0, 8006])],
  [(80, .bipush 26, 82, []), (82, .iload_n 3, 83, []), (83, .iadd, 84, []), (84, .iload_n 2, 85, []), (85, .iastore, 86, []), (86, .aload_n 0, 87, []), (87, .getfield 7, 90, [0, 9, 0, 8006]), (90, .bipush 34, 92, []), (92, .iload_n 3, 93, []), (93, .iadd, 94, []), (94, .iconst 0, 95, []), (95, .iastore, 96, [])],
  [(96, .aload_n 0, 97, []), (97, .getfield 7, 100, [0, 9, 0, 8006]), (100, .iconst 0, 101, []), (101, .dup2, 102, []), (102, .iaload, 103, []), (103, .iconst 1, 104, []), (104, .iadd, 105, []), (105, .iastore, 106, []), (106, .aload_n 0, 107, []), (107, .iload_n 3, 108, []), (108, .invokevirtual 80, 111, [0, 163, 1, 8101]), (111, .ireturn, 112, [])]]
noncomputable def z_r175 : List (List (List z_Row)) := [z_r175_0]
-- ClockParliamentModel.clock(II)I
set_option maxRecDepth 20000 in
noncomputable def z_r176_0 : List (List z_Row) := [[(0, .aload_n 0, 1, []), (1, .invokevirtual 83, 4, [0, 167, 0, 8076]), (4, .aload_n 0, 5, []), (5, .aload_n 0, 6, []), (6, .iload_n 1, 7, []), (7, .iload_n 2, 8, []), (8, .invokevirtual 86, 11, [0, 175, 2, 8083]), (11, .invokevirtual 89, 14, [0, 168, 1, 8105]), (14, .ireturn, 15, [])]]
noncomputable def z_r176 : List (List (List z_Row)) := [z_r176_0]
-- ClockParliamentModel.shifted(II)I
set_option maxRecDepth 20000 in
noncomputable def z_r177_0 : List (List z_Row) := [[(0, .iload_n 0, 1, []), (1, .iload_n 1, 2, []), (2, .iconst 1, 3, []), (3, .iadd, 4, []), (4, .if_icmp .ne 7, 7, [11]), (7, .iconst 0, 8, []), (8, .goto 15, 11, [23]), (11, .iload_n 0, 12, []), (12, .iload_n 1, 13, []), (13, .if_icmp .le 9, 16, [22])],
  [(16, .iload_n 0, 17, []), (17, .iconst 1, 18, []), (18, .isub, 19, []), (19, .goto 4, 22, [23]), (22, .iload_n 0, 23, []), (23, .ireturn, 24, [])]]
noncomputable def z_r177 : List (List (List z_Row)) := [z_r177_0]
-- ClockParliamentModel.closesUp(III)V
set_option maxRecDepth 20000 in
noncomputable def z_r178_0 : List (List z_Row) := [[(0, .iload_n 2, 1, []), (1, .istore 4, 3, []), (3, .iload 4, 5, []), (5, .iload_n 3, 6, []), (6, .iconst 1, 7, []), (7, .isub, 8, []), (8, .if_icmp .ge 29, 11, [37]), (11, .aload_n 0, 12, []), (12, .getfield 7, 15, [0, 9, 0, 8006]), (15, .iload_n 1, 16, [])],
  [(16, .iload 4, 18, []), (18, .iadd, 19, []), (19, .aload_n 0, 20, []), (20, .getfield 7, 23, [0, 9, 0, 8006]), (23, .iload_n 1, 24, []), (24, .iload 4, 26, []), (26, .iadd, 27, []), (27, .iconst 1, 28, []), (28, .iadd, 29, []), (29, .iaload, 30, []), (30, .iastore, 31, []), (31, .iinc 4 1, 34, [])],
  [(34, .goto (-31), 37, [3]), (37, .aload_n 0, 38, []), (38, .getfield 7, 41, [0, 9, 0, 8006]), (41, .iload_n 1, 42, []), (42, .iload_n 3, 43, []), (43, .iadd, 44, []), (44, .iconst 1, 45, []), (45, .isub, 46, []), (46, .iconst 0, 47, []), (47, .iastore, 48, [])],
  [(48, .return_, 49, [])]]
noncomputable def z_r178 : List (List (List z_Row)) := [z_r178_0]
-- ClockParliamentModel.leaves(I)I
set_option maxRecDepth 20000 in
noncomputable def z_r179_0 : List (List z_Row) := [[(0, .aload_n 0, 1, []), (1, .iload_n 1, 2, []), (2, .invokevirtual 92, 5, [0, 169, 1, 8117]), (5, .ifCond .ne 10, 8, [15]), (8, .aload_n 0, 9, []), (9, .iconst 2, 10, []), (10, .iload_n 1, 11, []), (11, .invokevirtual 77, 14, [0, 165, 2, 8093]), (14, .ireturn, 15, []), (15, .iconst 0, 16, [])],
  [(16, .istore_n 2, 17, []), (17, .iload_n 2, 18, []), (18, .iconst 3, 19, []), (19, .if_icmp .ge 31, 22, [50]), (22, .aload_n 0, 23, []), (23, .getfield 7, 26, [0, 9, 0, 8006]), (26, .bipush 42, 28, []), (28, .iload_n 2, 29, []), (29, .iadd, 30, []), (30, .aload_n 0, 31, []), (31, .getfield 7, 34, [0, 9, 0, 8006])],
  [(34, .bipush 42, 36, []), (36, .iload_n 2, 37, []), (37, .iadd, 38, []), (38, .iaload, 39, []), (39, .iload_n 1, 40, []), (40, .invokestatic 95, 43, [1, 177, 2, 8121]), (43, .iastore, 44, []), (44, .iinc 2 1, 47, []), (47, .goto (-30), 50, [17])],
  [(50, .iconst 0, 51, []), (51, .istore_n 2, 52, []), (52, .iload_n 2, 53, []), (53, .aload_n 0, 54, []), (54, .getfield 7, 57, [0, 9, 0, 8006]), (57, .iconst 1, 58, []), (58, .iaload, 59, []), (59, .if_icmp .ge 31, 62, [90]), (62, .aload_n 0, 63, []), (63, .getfield 7, 66, [0, 9, 0, 8006])],
  [(66, .bipush 45, 68, []), (68, .iload_n 2, 69, []), (69, .iadd, 70, []), (70, .aload_n 0, 71, []), (71, .getfield 7, 74, [0, 9, 0, 8006]), (74, .bipush 45, 76, []), (76, .iload_n 2, 77, []), (77, .iadd, 78, []), (78, .iaload, 79, []), (79, .iload_n 1, 80, [])],
  [(80, .invokestatic 95, 83, [1, 177, 2, 8121]), (83, .iastore, 84, []), (84, .iinc 2 1, 87, []), (87, .goto (-35), 90, [52]), (90, .aload_n 0, 91, []), (91, .bipush 10, 93, []), (93, .iload_n 1, 94, []), (94, .bipush 8, 96, [])],
  [(96, .invokevirtual 98, 99, [0, 178, 3, 8124]), (99, .aload_n 0, 100, []), (100, .bipush 18, 102, []), (102, .iload_n 1, 103, []), (103, .bipush 8, 105, []), (105, .invokevirtual 98, 108, [0, 178, 3, 8124]), (108, .aload_n 0, 109, []), (109, .bipush 26, 111, []), (111, .iload_n 1, 112, [])],
  [(112, .bipush 8, 114, []), (114, .invokevirtual 98, 117, [0, 178, 3, 8124]), (117, .aload_n 0, 118, []), (118, .bipush 34, 120, []), (120, .iload_n 1, 121, []), (121, .bipush 8, 123, []), (123, .invokevirtual 98, 126, [0, 178, 3, 8124]), (126, .aload_n 0, 127, []), (127, .getfield 7, 130, [0, 9, 0, 8006])],
  [(130, .iconst 0, 131, []), (131, .dup2, 132, []), (132, .iaload, 133, []), (133, .iconst 1, 134, []), (134, .isub, 135, []), (135, .iastore, 136, []), (136, .aload_n 0, 137, []), (137, .aload_n 0, 138, []), (138, .getfield 7, 141, [0, 9, 0, 8006]), (141, .iconst 0, 142, []), (142, .iaload, 143, []), (143, .invokevirtual 80, 146, [0, 163, 1, 8101])],
  [(146, .ireturn, 147, [])]]
noncomputable def z_r179 : List (List (List z_Row)) := [z_r179_0]
-- ClockParliamentModel.leave(I)I
set_option maxRecDepth 20000 in
noncomputable def z_r180_0 : List (List z_Row) := [[(0, .aload_n 0, 1, []), (1, .invokevirtual 83, 4, [0, 167, 0, 8076]), (4, .aload_n 0, 5, []), (5, .aload_n 0, 6, []), (6, .iload_n 1, 7, []), (7, .invokevirtual 102, 10, [0, 179, 1, 8113]), (10, .invokevirtual 89, 13, [0, 168, 1, 8105]), (13, .ireturn, 14, [])]]
noncomputable def z_r180 : List (List (List z_Row)) := [z_r180_0]
-- ClockParliamentModel.gives(II)I
set_option maxRecDepth 20000 in
noncomputable def z_r181_0 : List (List z_Row) := [[(0, .iload_n 1, 1, []), (1, .invokestatic 105, 4, [1, 171, 1, 8136]), (4, .ifCond .ne 10, 7, [14]), (7, .aload_n 0, 8, []), (8, .iconst 2, 9, []), (9, .iload_n 1, 10, []), (10, .invokevirtual 77, 13, [0, 165, 2, 8093]), (13, .ireturn, 14, []), (14, .iload_n 2, 15, []), (15, .iconst (-1), 16, [])],
  [(16, .if_icmp .eq 18, 19, [34]), (19, .aload_n 0, 20, []), (20, .iload_n 2, 21, []), (21, .invokevirtual 92, 24, [0, 169, 1, 8117]), (24, .ifCond .ne 10, 27, [34]), (27, .aload_n 0, 28, []), (28, .iconst 2, 29, []), (29, .iload_n 2, 30, []), (30, .invokevirtual 77, 33, [0, 165, 2, 8093])],
  [(33, .ireturn, 34, []), (34, .aload_n 0, 35, []), (35, .getfield 7, 38, [0, 9, 0, 8006]), (38, .bipush 42, 40, []), (40, .iload_n 1, 41, []), (41, .iadd, 42, []), (42, .iaload, 43, []), (43, .iconst 1, 44, []), (44, .isub, 45, []), (45, .istore_n 3, 46, []), (46, .iload_n 3, 47, []), (47, .iload_n 2, 48, [])],
  [(48, .if_icmp .ne 10, 51, [58]), (51, .aload_n 0, 52, []), (52, .iconst 4, 53, []), (53, .iload_n 3, 54, []), (54, .invokevirtual 77, 57, [0, 165, 2, 8093]), (57, .ireturn, 58, []), (58, .aload_n 0, 59, []), (59, .getfield 7, 62, [0, 9, 0, 8006]), (62, .bipush 42, 64, [])],
  [(64, .iload_n 1, 65, []), (65, .iadd, 66, []), (66, .iload_n 2, 67, []), (67, .iconst 1, 68, []), (68, .iadd, 69, []), (69, .iastore, 70, []), (70, .aload_n 0, 71, []), (71, .iload_n 3, 72, []), (72, .invokevirtual 80, 75, [0, 163, 1, 8101]), (75, .ireturn, 76, [])]]
noncomputable def z_r181 : List (List (List z_Row)) := [z_r181_0]
-- ClockParliamentModel.key(II)I
set_option maxRecDepth 20000 in
noncomputable def z_r182_0 : List (List z_Row) := [[(0, .aload_n 0, 1, []), (1, .invokevirtual 83, 4, [0, 167, 0, 8076]), (4, .aload_n 0, 5, []), (5, .aload_n 0, 6, []), (6, .iload_n 1, 7, []), (7, .iload_n 2, 8, []), (8, .invokevirtual 108, 11, [0, 181, 2, 8132]), (11, .invokevirtual 89, 14, [0, 168, 1, 8105]), (14, .ireturn, 15, [])]]
noncomputable def z_r182 : List (List (List z_Row)) := [z_r182_0]
-- ClockParliamentModel.winds(II)I
set_option maxRecDepth 20000 in
noncomputable def z_r183_0 : List (List z_Row) := [[(0, .iload_n 1, 1, []), (1, .invokestatic 105, 4, [1, 171, 1, 8136]), (4, .ifCond .ne 10, 7, [14]), (7, .aload_n 0, 8, []), (8, .iconst 2, 9, []), (9, .iload_n 1, 10, []), (10, .invokevirtual 77, 13, [0, 165, 2, 8093]), (13, .ireturn, 14, []), (14, .aload_n 0, 15, []), (15, .iload_n 2, 16, [])],
  [(16, .invokevirtual 92, 19, [0, 169, 1, 8117]), (19, .ifCond .ne 10, 22, [29]), (22, .aload_n 0, 23, []), (23, .iconst 2, 24, []), (24, .iload_n 2, 25, []), (25, .invokevirtual 77, 28, [0, 165, 2, 8093]), (28, .ireturn, 29, []), (29, .aload_n 0, 30, []), (30, .getfield 7, 33, [0, 9, 0, 8006])],
  [(33, .bipush 42, 35, []), (35, .iload_n 1, 36, []), (36, .iadd, 37, []), (37, .iaload, 38, []), (38, .iconst 1, 39, []), (39, .isub, 40, []), (40, .istore_n 3, 41, []), (41, .iload_n 3, 42, []), (42, .iconst (-1), 43, []), (43, .if_icmp .ne 10, 46, [53]), (46, .aload_n 0, 47, []), (47, .iconst 5, 48, [])],
  [(48, .iload_n 1, 49, []), (49, .invokevirtual 77, 52, [0, 165, 2, 8093]), (52, .ireturn, 53, []), (53, .aload_n 0, 54, []), (54, .iload_n 3, 55, []), (55, .iload_n 2, 56, []), (56, .invokevirtual 111, 59, [0, 174, 2, 8147]), (59, .istore 4, 61, []), (61, .iload 4, 63, []), (63, .iconst 5, 64, [])],
  [(64, .if_icmp .le 12, 67, [76]), (67, .aload_n 0, 68, []), (68, .bipush 10, 70, []), (70, .iload 4, 72, []), (72, .invokevirtual 77, 75, [0, 165, 2, 8093]), (75, .ireturn, 76, []), (76, .aload_n 0, 77, []), (77, .getfield 7, 80, [0, 9, 0, 8006])],
  [(80, .bipush 18, 82, []), (82, .iload_n 2, 83, []), (83, .iadd, 84, []), (84, .iaload, 85, []), (85, .istore 5, 87, []), (87, .iload 5, 89, []), (89, .bipush 24, 91, []), (91, .if_icmp .ne 11, 94, [102]), (94, .aload_n 0, 95, []), (95, .iconst 4, 96, [])],
  [(96, .bipush 24, 98, []), (98, .invokevirtual 77, 101, [0, 165, 2, 8093]), (101, .ireturn, 102, []), (102, .aload_n 0, 103, []), (103, .getfield 7, 106, [0, 9, 0, 8006]), (106, .bipush 18, 108, []), (108, .iload_n 2, 109, []), (109, .iadd, 110, []), (110, .bipush 24, 112, [])],
  [(112, .iastore, 113, []), (113, .aload_n 0, 114, []), (114, .getfield 7, 117, [0, 9, 0, 8006]), (117, .bipush 8, 119, []), (119, .dup2, 120, []), (120, .iaload, 121, []), (121, .iconst 1, 122, []), (122, .iadd, 123, []), (123, .iastore, 124, []), (124, .aload_n 0, 125, []), (125, .iload 5, 127, []), (127, .invokevirtual 80, 130, [0, 163, 1, 8101])],
  [(130, .ireturn, 131, [])]]
noncomputable def z_r183 : List (List (List z_Row)) := [z_r183_0]
-- ClockParliamentModel.wind(II)I
set_option maxRecDepth 20000 in
noncomputable def z_r184_0 : List (List z_Row) := [[(0, .aload_n 0, 1, []), (1, .invokevirtual 83, 4, [0, 167, 0, 8076]), (4, .aload_n 0, 5, []), (5, .aload_n 0, 6, []), (6, .iload_n 1, 7, []), (7, .iload_n 2, 8, []), (8, .invokevirtual 114, 11, [0, 183, 2, 8143]), (11, .invokevirtual 89, 14, [0, 168, 1, 8105]), (14, .ireturn, 15, [])]]
noncomputable def z_r184 : List (List (List z_Row)) := [z_r184_0]
-- ClockParliamentModel.moves(II)I
set_option maxRecDepth 20000 in
noncomputable def z_r185_0 : List (List z_Row) := [[(0, .aload_n 0, 1, []), (1, .iload_n 1, 2, []), (2, .invokevirtual 92, 5, [0, 169, 1, 8117]), (5, .ifCond .ne 10, 8, [15]), (8, .aload_n 0, 9, []), (9, .iconst 2, 10, []), (10, .iload_n 1, 11, []), (11, .invokevirtual 77, 14, [0, 165, 2, 8093]), (14, .ireturn, 15, []), (15, .iload_n 2, 16, [])],
  [(16, .iconst 1, 17, []), (17, .bipush 59, 19, []), (19, .invokestatic 65, 22, [1, 162, 3, 8090]), (22, .ifCond .ne 10, 25, [32]), (25, .aload_n 0, 26, []), (26, .iconst 3, 27, []), (27, .iload_n 2, 28, []), (28, .invokevirtual 77, 31, [0, 165, 2, 8093]), (31, .ireturn, 32, [])],
  [(32, .aload_n 0, 33, []), (33, .getfield 7, 36, [0, 9, 0, 8006]), (36, .bipush 18, 38, []), (38, .iload_n 1, 39, []), (39, .iadd, 40, []), (40, .iaload, 41, []), (41, .ifCond .ne 19, 44, [60]), (44, .aload_n 0, 45, []), (45, .bipush 7, 47, []), (47, .aload_n 0, 48, [])],
  [(48, .getfield 7, 51, [0, 9, 0, 8006]), (51, .bipush 10, 53, []), (53, .iload_n 1, 54, []), (54, .iadd, 55, []), (55, .iaload, 56, []), (56, .invokevirtual 77, 59, [0, 165, 2, 8093]), (59, .ireturn, 60, []), (60, .iconst 1, 61, []), (61, .iload_n 2, 62, []), (62, .bipush 10, 64, [])],
  [(64, .idiv, 65, []), (65, .iadd, 66, []), (66, .istore_n 3, 67, []), (67, .aload_n 0, 68, []), (68, .getfield 7, 71, [0, 9, 0, 8006]), (71, .bipush 18, 73, []), (73, .iload_n 1, 74, []), (74, .iadd, 75, []), (75, .iaload, 76, []), (76, .iload_n 3, 77, []), (77, .if_icmp .ge 19, 80, [96])],
  [(80, .aload_n 0, 81, []), (81, .bipush 6, 83, []), (83, .aload_n 0, 84, []), (84, .getfield 7, 87, [0, 9, 0, 8006]), (87, .bipush 18, 89, []), (89, .iload_n 1, 90, []), (90, .iadd, 91, []), (91, .iaload, 92, []), (92, .invokevirtual 77, 95, [0, 165, 2, 8093]), (95, .ireturn, 96, [])],
  [(96, .aload_n 0, 97, []), (97, .getfield 7, 100, [0, 9, 0, 8006]), (100, .bipush 18, 102, []), (102, .iload_n 1, 103, []), (103, .iadd, 104, []), (104, .dup2, 105, []), (105, .iaload, 106, []), (106, .iload_n 3, 107, []), (107, .isub, 108, []), (108, .iastore, 109, []), (109, .aload_n 0, 110, []), (110, .getfield 7, 113, [0, 9, 0, 8006])],
  [(113, .bipush 10, 115, []), (115, .iload_n 1, 116, []), (116, .iadd, 117, []), (117, .aload_n 0, 118, []), (118, .getfield 7, 121, [0, 9, 0, 8006]), (121, .bipush 10, 123, []), (123, .iload_n 1, 124, []), (124, .iadd, 125, []), (125, .iaload, 126, []), (126, .iload_n 2, 127, []), (127, .iadd, 128, [])],
  [(128, .bipush 60, 130, []), (130, .irem, 131, []), (131, .iastore, 132, []), (132, .aload_n 0, 133, []), (133, .aload_n 0, 134, []), (134, .getfield 7, 137, [0, 9, 0, 8006]), (137, .bipush 10, 139, []), (139, .iload_n 1, 140, []), (140, .iadd, 141, []), (141, .iaload, 142, []), (142, .invokevirtual 80, 145, [0, 163, 1, 8101])],
  [(145, .ireturn, 146, [])]]
noncomputable def z_r185 : List (List (List z_Row)) := [z_r185_0]
-- ClockParliamentModel.move(II)I
set_option maxRecDepth 20000 in
noncomputable def z_r186_0 : List (List z_Row) := [[(0, .aload_n 0, 1, []), (1, .invokevirtual 83, 4, [0, 167, 0, 8076]), (4, .aload_n 0, 5, []), (5, .aload_n 0, 6, []), (6, .iload_n 1, 7, []), (7, .iload_n 2, 8, []), (8, .invokevirtual 117, 11, [0, 185, 2, 8158]), (11, .invokevirtual 89, 14, [0, 168, 1, 8105]), (14, .ireturn, 15, [])]]
noncomputable def z_r186 : List (List (List z_Row)) := [z_r186_0]
-- ClockParliamentModel.placeOf(I)I
set_option maxRecDepth 20000 in
noncomputable def z_r187_0 : List (List z_Row) := [[(0, .iconst 0, 1, []), (1, .istore_n 2, 2, []), (2, .iload_n 2, 3, []), (3, .aload_n 0, 4, []), (4, .getfield 7, 7, [0, 9, 0, 8006]), (7, .bipush 9, 9, []), (9, .iaload, 10, []), (10, .if_icmp .ge 22, 13, [32]), (13, .aload_n 0, 14, []), (14, .getfield 7, 17, [0, 9, 0, 8006])],
  [(17, .bipush 95, 19, []), (19, .iload_n 2, 20, []), (20, .iadd, 21, []), (21, .iaload, 22, []), (22, .iload_n 1, 23, []), (23, .if_icmp .eq 9, 26, [32]), (26, .iinc 2 1, 29, []), (29, .goto (-27), 32, [2])],
  [(32, .iload_n 2, 33, []), (33, .aload_n 0, 34, []), (34, .getfield 7, 37, [0, 9, 0, 8006]), (37, .bipush 9, 39, []), (39, .iaload, 40, []), (40, .if_icmp .ne 7, 43, [47]), (43, .iconst (-1), 44, []), (44, .goto 4, 47, [48]), (47, .iload_n 2, 48, [])],
  [(48, .ireturn, 49, [])]]
noncomputable def z_r187 : List (List (List z_Row)) := [z_r187_0]
-- ClockParliamentModel.leavesRow(I)V
set_option maxRecDepth 20000 in
noncomputable def z_r188_0 : List (List z_Row) := [[(0, .aload_n 0, 1, []), (1, .iload_n 1, 2, []), (2, .invokevirtual 120, 5, [0, 187, 1, 8190]), (5, .istore_n 2, 6, []), (6, .iload_n 2, 7, []), (7, .iconst (-1), 8, []), (8, .if_icmp .eq 23, 11, [31]), (11, .aload_n 0, 12, []), (12, .bipush 95, 14, []), (14, .iload_n 2, 15, []), (15, .bipush 10, 17, [])],
  [(17, .invokevirtual 98, 20, [0, 178, 3, 8124]), (20, .aload_n 0, 21, []), (21, .getfield 7, 24, [0, 9, 0, 8006]), (24, .bipush 9, 26, []), (26, .dup2, 27, []), (27, .iaload, 28, []), (28, .iconst 1, 29, []), (29, .isub, 30, []), (30, .iastore, 31, []), (31, .return_, 32, [])]]
noncomputable def z_r188 : List (List (List z_Row)) := [z_r188_0]
-- ClockParliamentModel.standsFirst(I)V
set_option maxRecDepth 20000 in
noncomputable def z_r189_0 : List (List z_Row) := [[(0, .aload_n 0, 1, []), (1, .getfield 7, 4, [0, 9, 0, 8006]), (4, .bipush 9, 6, []), (6, .iaload, 7, []), (7, .istore_n 2, 8, []), (8, .iload_n 2, 9, []), (9, .ifCond .le 29, 12, [38]), (12, .aload_n 0, 13, []), (13, .getfield 7, 16, [0, 9, 0, 8006])],
  [(16, .bipush 95, 18, []), (18, .iload_n 2, 19, []), (19, .iadd, 20, []), (20, .aload_n 0, 21, []), (21, .getfield 7, 24, [0, 9, 0, 8006]), (24, .bipush 95, 26, []), (26, .iload_n 2, 27, []), (27, .iadd, 28, []), (28, .iconst 1, 29, []), (29, .isub, 30, []), (30, .iaload, 31, []), (31, .iastore, 32, [])],
  [(32, .iinc 2 (-1), 35, []), (35, .goto (-27), 38, [8]), (38, .aload_n 0, 39, []), (39, .getfield 7, 42, [0, 9, 0, 8006]), (42, .bipush 95, 44, []), (44, .iload_n 1, 45, []), (45, .iastore, 46, []), (46, .aload_n 0, 47, []), (47, .getfield 7, 50, [0, 9, 0, 8006])],
  [(50, .bipush 9, 52, []), (52, .dup2, 53, []), (53, .iaload, 54, []), (54, .iconst 1, 55, []), (55, .iadd, 56, []), (56, .iastore, 57, []), (57, .return_, 58, [])]]
noncomputable def z_r189 : List (List (List z_Row)) := [z_r189_0]
-- ClockParliamentModel.tables(III)I
set_option maxRecDepth 20000 in
noncomputable def z_r190_0 : List (List z_Row) := [[(0, .aload_n 0, 1, []), (1, .iload_n 1, 2, []), (2, .invokevirtual 92, 5, [0, 169, 1, 8117]), (5, .ifCond .ne 10, 8, [15]), (8, .aload_n 0, 9, []), (9, .iconst 2, 10, []), (10, .iload_n 1, 11, []), (11, .invokevirtual 77, 14, [0, 165, 2, 8093]), (14, .ireturn, 15, []), (15, .iload_n 2, 16, [])],
  [(16, .invokestatic 73, 19, [1, 172, 1, 8087]), (19, .ifCond .eq 13, 22, [32]), (22, .iload_n 3, 23, []), (23, .iconst 1, 24, []), (24, .bipush 9, 26, []), (26, .invokestatic 65, 29, [1, 162, 3, 8090]), (29, .ifCond .ne 21, 32, [50])],
  [(32, .aload_n 0, 33, []), (33, .iconst 3, 34, []), (34, .iload_n 2, 35, []), (35, .invokestatic 73, 38, [1, 172, 1, 8087]), (38, .ifCond .eq 7, 41, [45]), (41, .iload_n 3, 42, []), (42, .goto 4, 45, [46]), (45, .iload_n 2, 46, []), (46, .invokevirtual 77, 49, [0, 165, 2, 8093])],
  [(49, .ireturn, 50, []), (50, .aload_n 0, 51, []), (51, .getfield 7, 54, [0, 9, 0, 8006]), (54, .bipush 18, 56, []), (56, .iload_n 1, 57, []), (57, .iadd, 58, []), (58, .iaload, 59, []), (59, .ifCond .ne 19, 62, [78]), (62, .aload_n 0, 63, []), (63, .bipush 7, 65, [])],
  [(65, .aload_n 0, 66, []), (66, .getfield 7, 69, [0, 9, 0, 8006]), (69, .bipush 10, 71, []), (71, .iload_n 1, 72, []), (72, .iadd, 73, []), (73, .iaload, 74, []), (74, .invokevirtual 77, 77, [0, 165, 2, 8093]), (77, .ireturn, 78, []), (78, .aload_n 0, 79, []), (79, .getfield 7, 82, [0, 9, 0, 8006])],
  [(82, .iconst 1, 83, []), (83, .iaload, 84, []), (84, .istore 4, 86, []), (86, .iload 4, 88, []), (88, .bipush 10, 90, []), (90, .if_icmp .ne 11, 93, [101]), (93, .aload_n 0, 94, []), (94, .iconst 1, 95, []), (95, .bipush 10, 97, [])],
  [(97, .invokevirtual 77, 100, [0, 165, 2, 8093]), (100, .ireturn, 101, []), (101, .aload_n 0, 102, []), (102, .getfield 7, 105, [0, 9, 0, 8006]), (105, .bipush 45, 107, []), (107, .iload 4, 109, []), (109, .iadd, 110, []), (110, .iload_n 1, 111, []), (111, .iconst 1, 112, [])],
  [(112, .iadd, 113, []), (113, .iastore, 114, []), (114, .aload_n 0, 115, []), (115, .getfield 7, 118, [0, 9, 0, 8006]), (118, .bipush 55, 120, []), (120, .iload 4, 122, []), (122, .iadd, 123, []), (123, .iload_n 2, 124, []), (124, .iastore, 125, []), (125, .aload_n 0, 126, []), (126, .getfield 7, 129, [0, 9, 0, 8006])],
  [(129, .bipush 65, 131, []), (131, .iload 4, 133, []), (133, .iadd, 134, []), (134, .iload_n 3, 135, []), (135, .iastore, 136, []), (136, .aload_n 0, 137, []), (137, .getfield 7, 140, [0, 9, 0, 8006]), (140, .bipush 75, 142, []), (142, .iload 4, 144, [])],
  [(144, .iadd, 145, []), (145, .iconst 0, 146, []), (146, .iastore, 147, []), (147, .aload_n 0, 148, []), (148, .getfield 7, 151, [0, 9, 0, 8006]), (151, .bipush 85, 153, []), (153, .iload 4, 155, []), (155, .iadd, 156, []), (156, .iconst 0, 157, []), (157, .iastore, 158, []), (158, .aload_n 0, 159, []), (159, .getfield 7, 162, [0, 9, 0, 8006])],
  [(162, .iconst 1, 163, []), (163, .dup2, 164, []), (164, .iaload, 165, []), (165, .iconst 1, 166, []), (166, .iadd, 167, []), (167, .iastore, 168, []), (168, .aload_n 0, 169, []), (169, .getfield 7, 172, [0, 9, 0, 8006]), (172, .bipush 95, 174, []), (174, .aload_n 0, 175, []), (175, .getfield 7, 178, [0, 9, 0, 8006])],
  [(178, .bipush 9, 180, []), (180, .iaload, 181, []), (181, .iadd, 182, []), (182, .iload 4, 184, []), (184, .iastore, 185, []), (185, .aload_n 0, 186, []), (186, .getfield 7, 189, [0, 9, 0, 8006]), (189, .bipush 9, 191, []), (191, .dup2, 192, [])],
  [(192, .iaload, 193, []), (193, .iconst 1, 194, []), (194, .iadd, 195, []), (195, .iastore, 196, []), (196, .aload_n 0, 197, []), (197, .iload 4, 199, []), (199, .invokevirtual 80, 202, [0, 163, 1, 8101]), (202, .ireturn, 203, [])]]
noncomputable def z_r190 : List (List (List z_Row)) := [z_r190_0]
-- ClockParliamentModel.bill(III)I
set_option maxRecDepth 20000 in
noncomputable def z_r191_0 : List (List z_Row) := [[(0, .aload_n 0, 1, []), (1, .invokevirtual 83, 4, [0, 167, 0, 8076]), (4, .aload_n 0, 5, []), (5, .aload_n 0, 6, []), (6, .iload_n 1, 7, []), (7, .iload_n 2, 8, []), (8, .iload_n 3, 9, []), (9, .invokevirtual 123, 12, [0, 190, 3, 8166]), (12, .invokevirtual 89, 15, [0, 168, 1, 8105]), (15, .ireturn, 16, [])]]
noncomputable def z_r191 : List (List (List z_Row)) := [z_r191_0]
-- ClockParliamentModel.awayOnes()I
set_option maxRecDepth 20000 in
noncomputable def z_r192_0 : List (List z_Row) := [[(0, .aload_n 0, 1, []), (1, .getfield 7, 4, [0, 9, 0, 8006]), (4, .iconst 1, 5, []), (5, .iaload, 6, []), (6, .aload_n 0, 7, []), (7, .getfield 7, 10, [0, 9, 0, 8006]), (10, .bipush 9, 12, []), (12, .iaload, 13, []), (13, .isub, 14, []), (14, .ireturn, 15, [])]]
noncomputable def z_r192 : List (List (List z_Row)) := [z_r192_0]
-- ClockParliamentModel.goesAway(II)V
set_option maxRecDepth 20000 in
noncomputable def z_r193_0 : List (List z_Row) := [[(0, .aload_n 0, 1, []), (1, .iload_n 1, 2, []), (2, .invokevirtual 127, 5, [0, 188, 1, 8186]), (5, .aload_n 0, 6, []), (6, .getfield 7, 9, [0, 9, 0, 8006]), (9, .bipush 75, 11, []), (11, .iload_n 1, 12, []), (12, .iadd, 13, []), (13, .iload_n 2, 14, []), (14, .iastore, 15, []), (15, .aload_n 0, 16, [])],
  [(16, .getfield 7, 19, [0, 9, 0, 8006]), (19, .bipush 85, 21, []), (21, .iload_n 1, 22, []), (22, .iadd, 23, []), (23, .dup2, 24, []), (24, .iaload, 25, []), (25, .iconst 1, 26, []), (26, .iadd, 27, []), (27, .iastore, 28, []), (28, .return_, 29, [])]]
noncomputable def z_r193 : List (List (List z_Row)) := [z_r193_0]
-- ClockParliamentModel.adjourns(II)I
set_option maxRecDepth 20000 in
noncomputable def z_r194_0 : List (List z_Row) := [[(0, .aload_n 0, 1, []), (1, .iload_n 1, 2, []), (2, .invokevirtual 131, 5, [0, 170, 1, 8178]), (5, .ifCond .ne 10, 8, [15]), (8, .aload_n 0, 9, []), (9, .iconst 2, 10, []), (10, .iload_n 1, 11, []), (11, .invokevirtual 77, 14, [0, 165, 2, 8093]), (14, .ireturn, 15, []), (15, .iload_n 2, 16, [])],
  [(16, .iconst 1, 17, []), (17, .bipush 12, 19, []), (19, .invokestatic 65, 22, [1, 162, 3, 8090]), (22, .ifCond .ne 10, 25, [32]), (25, .aload_n 0, 26, []), (26, .iconst 3, 27, []), (27, .iload_n 2, 28, []), (28, .invokevirtual 77, 31, [0, 165, 2, 8093]), (31, .ireturn, 32, [])],
  [(32, .aload_n 0, 33, []), (33, .getfield 7, 36, [0, 9, 0, 8006]), (36, .bipush 75, 38, []), (38, .iload_n 1, 39, []), (39, .iadd, 40, []), (40, .iaload, 41, []), (41, .ifCond .le 19, 44, [60]), (44, .aload_n 0, 45, []), (45, .bipush 8, 47, []), (47, .aload_n 0, 48, [])],
  [(48, .getfield 7, 51, [0, 9, 0, 8006]), (51, .bipush 75, 53, []), (53, .iload_n 1, 54, []), (54, .iadd, 55, []), (55, .iaload, 56, []), (56, .invokevirtual 77, 59, [0, 165, 2, 8093]), (59, .ireturn, 60, []), (60, .aload_n 0, 61, []), (61, .iload_n 1, 62, []), (62, .iload_n 2, 63, []), (63, .invokevirtual 134, 66, [0, 193, 2, 8182])],
  [(66, .aload_n 0, 67, []), (67, .aload_n 0, 68, []), (68, .invokevirtual 138, 71, [0, 192, 0, 8194]), (71, .invokevirtual 80, 74, [0, 163, 1, 8101]), (74, .ireturn, 75, [])]]
noncomputable def z_r194 : List (List (List z_Row)) := [z_r194_0]
-- ClockParliamentModel.adjourn(II)I
set_option maxRecDepth 20000 in
noncomputable def z_r195_0 : List (List z_Row) := [[(0, .aload_n 0, 1, []), (1, .invokevirtual 83, 4, [0, 167, 0, 8076]), (4, .aload_n 0, 5, []), (5, .aload_n 0, 6, []), (6, .iload_n 1, 7, []), (7, .iload_n 2, 8, []), (8, .invokevirtual 142, 11, [0, 194, 2, 8174]), (11, .invokevirtual 89, 14, [0, 168, 1, 8105]), (14, .ireturn, 15, [])]]
noncomputable def z_r195 : List (List (List z_Row)) := [z_r195_0]
-- ClockParliamentModel.isDoneWith(I)V
set_option maxRecDepth 20000 in
noncomputable def z_r196_0 : List (List z_Row) := [[(0, .aload_n 0, 1, []), (1, .iload_n 1, 2, []), (2, .invokevirtual 127, 5, [0, 188, 1, 8186]), (5, .iconst 0, 6, []), (6, .istore_n 2, 7, []), (7, .iload_n 2, 8, []), (8, .aload_n 0, 9, []), (9, .getfield 7, 12, [0, 9, 0, 8006]), (12, .bipush 9, 14, []), (14, .iaload, 15, []), (15, .if_icmp .ge 39, 18, [54])],
  [(18, .aload_n 0, 19, []), (19, .getfield 7, 22, [0, 9, 0, 8006]), (22, .bipush 95, 24, []), (24, .iload_n 2, 25, []), (25, .iadd, 26, []), (26, .dup2, 27, []), (27, .iaload, 28, []), (28, .aload_n 0, 29, []), (29, .getfield 7, 32, [0, 9, 0, 8006])],
  [(32, .bipush 95, 34, []), (34, .iload_n 2, 35, []), (35, .iadd, 36, []), (36, .iaload, 37, []), (37, .iload_n 1, 38, []), (38, .if_icmp .le 7, 41, [45]), (41, .iconst 1, 42, []), (42, .goto 4, 45, [46]), (45, .iconst 0, 46, []), (46, .isub, 47, []), (47, .iastore, 48, [])],
  [(48, .iinc 2 1, 51, []), (51, .goto (-44), 54, [7]), (54, .bipush 45, 56, []), (56, .istore_n 2, 57, []), (57, .iload_n 2, 58, []), (58, .bipush 95, 60, []), (60, .if_icmp .ge 17, 63, [77]), (63, .aload_n 0, 64, [])],
  [(64, .iload_n 2, 65, []), (65, .iload_n 1, 66, []), (66, .bipush 10, 68, []), (68, .invokevirtual 98, 71, [0, 178, 3, 8124]), (71, .iinc 2 10, 74, []), (74, .goto (-17), 77, [57]), (77, .aload_n 0, 78, []), (78, .getfield 7, 81, [0, 9, 0, 8006])],
  [(81, .iconst 1, 82, []), (82, .dup2, 83, []), (83, .iaload, 84, []), (84, .iconst 1, 85, []), (85, .isub, 86, []), (86, .iastore, 87, []), (87, .return_, 88, [])]]
noncomputable def z_r196 : List (List (List z_Row)) := [z_r196_0]
-- ClockParliamentModel.drops(I)I
set_option maxRecDepth 20000 in
noncomputable def z_r197_0 : List (List z_Row) := [[(0, .aload_n 0, 1, []), (1, .iload_n 1, 2, []), (2, .invokevirtual 131, 5, [0, 170, 1, 8178]), (5, .ifCond .ne 10, 8, [15]), (8, .aload_n 0, 9, []), (9, .iconst 2, 10, []), (10, .iload_n 1, 11, []), (11, .invokevirtual 77, 14, [0, 165, 2, 8093]), (14, .ireturn, 15, []), (15, .aload_n 0, 16, [])],
  [(16, .iload_n 1, 17, []), (17, .invokevirtual 145, 20, [0, 196, 1, 8206]), (20, .aload_n 0, 21, []), (21, .aload_n 0, 22, []), (22, .getfield 7, 25, [0, 9, 0, 8006]), (25, .iconst 1, 26, []), (26, .iaload, 27, []), (27, .invokevirtual 80, 30, [0, 163, 1, 8101]), (30, .ireturn, 31, [])]]
noncomputable def z_r197 : List (List (List z_Row)) := [z_r197_0]
-- ClockParliamentModel.drop(I)I
set_option maxRecDepth 20000 in
noncomputable def z_r198_0 : List (List z_Row) := [[(0, .aload_n 0, 1, []), (1, .invokevirtual 83, 4, [0, 167, 0, 8076]), (4, .aload_n 0, 5, []), (5, .aload_n 0, 6, []), (6, .iload_n 1, 7, []), (7, .invokevirtual 148, 10, [0, 197, 1, 8202]), (10, .invokevirtual 89, 13, [0, 168, 1, 8105]), (13, .ireturn, 14, [])]]
noncomputable def z_r198 : List (List (List z_Row)) := [z_r198_0]
-- ClockParliamentModel.votersOn(I)I
set_option maxRecDepth 20000 in
noncomputable def z_r199_0 : List (List z_Row) := [[(0, .iconst 0, 1, []), (1, .istore_n 2, 2, []), (2, .iconst 0, 3, []), (3, .istore_n 3, 4, []), (4, .iload_n 3, 5, []), (5, .aload_n 0, 6, []), (6, .getfield 7, 9, [0, 9, 0, 8006]), (9, .iconst 0, 10, []), (10, .iaload, 11, []), (11, .if_icmp .ge 57, 14, [68]), (14, .iload_n 2, 15, []), (15, .aload_n 0, 16, [])],
  [(16, .getfield 7, 19, [0, 9, 0, 8006]), (19, .bipush 18, 21, []), (21, .iload_n 3, 22, []), (22, .iadd, 23, []), (23, .iaload, 24, []), (24, .ifCond .le 35, 27, [59]), (27, .aload_n 0, 28, []), (28, .getfield 7, 31, [0, 9, 0, 8006]), (31, .bipush 10, 33, [])],
  [(33, .iload_n 3, 34, []), (34, .iadd, 35, []), (35, .iaload, 36, []), (36, .aload_n 0, 37, []), (37, .getfield 7, 40, [0, 9, 0, 8006]), (40, .bipush 55, 42, []), (42, .iload_n 1, 43, []), (43, .iadd, 44, []), (44, .iaload, 45, []), (45, .invokestatic 69, 48, [1, 173, 2, 8151])],
  [(48, .bipush 20, 50, []), (50, .if_icmp .gt 9, 53, [59]), (53, .iconst 1, 54, []), (54, .iload_n 3, 55, []), (55, .ishl, 56, []), (56, .goto 4, 59, [60]), (59, .iconst 0, 60, []), (60, .ior, 61, []), (61, .istore_n 2, 62, []), (62, .iinc 3 1, 65, [])],
  [(65, .goto (-61), 68, [4]), (68, .iload_n 2, 69, []), (69, .ireturn, 70, [])]]
noncomputable def z_r199 : List (List (List z_Row)) := [z_r199_0]
-- ClockParliamentModel.majorityOf(I)I
set_option maxRecDepth 20000 in
noncomputable def z_r200_0 : List (List z_Row) := [[(0, .iconst 0, 1, []), (1, .istore_n 2, 2, []), (2, .iconst 0, 3, []), (3, .istore_n 3, 4, []), (4, .iload_n 3, 5, []), (5, .aload_n 0, 6, []), (6, .getfield 7, 9, [0, 9, 0, 8006]), (9, .iconst 0, 10, []), (10, .iaload, 11, []), (11, .if_icmp .ge 31, 14, [42]), (14, .iload_n 2, 15, []), (15, .iload_n 1, 16, [])],
  [(16, .iload_n 3, 17, []), (17, .ishr, 18, []), (18, .iconst 1, 19, []), (19, .iand, 20, []), (20, .iconst 2, 21, []), (21, .aload_n 0, 22, []), (22, .getfield 7, 25, [0, 9, 0, 8006]), (25, .bipush 26, 27, []), (27, .iload_n 3, 28, []), (28, .iadd, 29, []), (29, .iaload, 30, []), (30, .imul, 31, []), (31, .iconst 3, 32, [])],
  [(32, .isub, 33, []), (33, .imul, 34, []), (34, .iadd, 35, []), (35, .istore_n 2, 36, []), (36, .iinc 3 1, 39, []), (39, .goto (-35), 42, [4]), (42, .iload_n 2, 43, []), (43, .ireturn, 44, [])]]
noncomputable def z_r200 : List (List (List z_Row)) := [z_r200_0]
-- ClockParliamentModel.chime(I)V
set_option maxRecDepth 20000 in
noncomputable def z_r201_0 : List (List z_Row) := [[(0, .iconst 0, 1, []), (1, .istore_n 2, 2, []), (2, .iload_n 2, 3, []), (3, .aload_n 0, 4, []), (4, .getfield 7, 7, [0, 9, 0, 8006]), (7, .iconst 0, 8, []), (8, .iaload, 9, []), (9, .if_icmp .ge 54, 12, [63]), (12, .iload_n 1, 13, []), (13, .iload_n 2, 14, []), (14, .ishr, 15, []), (15, .iconst 1, 16, [])],
  [(16, .iand, 17, []), (17, .istore_n 3, 18, []), (18, .aload_n 0, 19, []), (19, .getfield 7, 22, [0, 9, 0, 8006]), (22, .bipush 18, 24, []), (24, .iload_n 2, 25, []), (25, .iadd, 26, []), (26, .dup2, 27, []), (27, .iaload, 28, []), (28, .iload_n 3, 29, []), (29, .isub, 30, []), (30, .iastore, 31, []), (31, .aload_n 0, 32, [])],
  [(32, .getfield 7, 35, [0, 9, 0, 8006]), (35, .bipush 34, 37, []), (37, .iload_n 2, 38, []), (38, .iadd, 39, []), (39, .dup2, 40, []), (40, .iaload, 41, []), (41, .iload_n 3, 42, []), (42, .iadd, 43, []), (43, .iastore, 44, []), (44, .aload_n 0, 45, []), (45, .getfield 7, 48, [0, 9, 0, 8006])],
  [(48, .bipush 6, 50, []), (50, .dup2, 51, []), (51, .iaload, 52, []), (52, .iconst 3, 53, []), (53, .iload_n 3, 54, []), (54, .imul, 55, []), (55, .iadd, 56, []), (56, .iastore, 57, []), (57, .iinc 2 1, 60, []), (60, .goto (-58), 63, [2]), (63, .return_, 64, [])]]
noncomputable def z_r201 : List (List (List z_Row)) := [z_r201_0]
-- ClockParliamentModel.votes()I
set_option maxRecDepth 20000 in
noncomputable def z_r202_0 : List (List z_Row) := [[(0, .aload_n 0, 1, []), (1, .getfield 7, 4, [0, 9, 0, 8006]), (4, .bipush 9, 6, []), (6, .iaload, 7, []), (7, .ifCond .ne 14, 10, [21]), (10, .aload_n 0, 11, []), (11, .bipush 9, 13, []), (13, .aload_n 0, 14, []), (14, .invokevirtual 138, 17, [0, 192, 0, 8194])],
  [(17, .invokevirtual 77, 20, [0, 165, 2, 8093]), (20, .ireturn, 21, []), (21, .aload_n 0, 22, []), (22, .getfield 7, 25, [0, 9, 0, 8006]), (25, .bipush 95, 27, []), (27, .iaload, 28, []), (28, .istore_n 1, 29, []), (29, .aload_n 0, 30, []), (30, .iload_n 1, 31, []), (31, .invokevirtual 151, 34, [0, 199, 1, 8218])],
  [(34, .istore_n 2, 35, []), (35, .iload_n 2, 36, []), (36, .ifCond .ne 15, 39, [51]), (39, .aload_n 0, 40, []), (40, .iload_n 1, 41, []), (41, .iconst 1, 42, []), (42, .invokevirtual 134, 45, [0, 193, 2, 8182]), (45, .aload_n 0, 46, []), (46, .iconst 0, 47, []), (47, .invokevirtual 80, 50, [0, 163, 1, 8101])],
  [(50, .ireturn, 51, []), (51, .aload_n 0, 52, []), (52, .iload_n 2, 53, []), (53, .invokevirtual 154, 56, [0, 200, 1, 8222]), (56, .istore_n 3, 57, []), (57, .aload_n 0, 58, []), (58, .iload_n 2, 59, []), (59, .invokevirtual 157, 62, [0, 201, 1, 8226]), (62, .aload_n 0, 63, []), (63, .getfield 7, 66, [0, 9, 0, 8006])],
  [(66, .iconst 3, 67, []), (67, .dup2, 68, []), (68, .iaload, 69, []), (69, .iconst 1, 70, []), (70, .iadd, 71, []), (71, .iastore, 72, []), (72, .iload_n 3, 73, []), (73, .aload_n 0, 74, []), (74, .getfield 7, 77, [0, 9, 0, 8006]), (77, .bipush 65, 79, []), (79, .iload_n 1, 80, [])],
  [(80, .iadd, 81, []), (81, .iaload, 82, []), (82, .if_icmp .lt 7, 85, [89]), (85, .iconst 1, 86, []), (86, .goto 4, 89, [90]), (89, .iconst 0, 90, []), (90, .istore 4, 92, []), (92, .aload_n 0, 93, []), (93, .getfield 7, 96, [0, 9, 0, 8006])],
  [(96, .iconst 4, 97, []), (97, .dup2, 98, []), (98, .iaload, 99, []), (99, .iload 4, 101, []), (101, .ifCond .eq 7, 104, [108]), (104, .iconst 1, 105, []), (105, .goto 4, 108, [109]), (108, .iconst 0, 109, []), (109, .iadd, 110, []), (110, .iastore, 111, []), (111, .aload_n 0, 112, [])],
  [(112, .getfield 7, 115, [0, 9, 0, 8006]), (115, .iconst 5, 116, []), (116, .dup2, 117, []), (117, .iaload, 118, []), (118, .iload 4, 120, []), (120, .ifCond .eq 7, 123, [127]), (123, .iconst 0, 124, []), (124, .goto 4, 127, [128]), (127, .iconst 1, 128, [])],
  [(128, .iadd, 129, []), (129, .iastore, 130, []), (130, .aload_n 0, 131, []), (131, .iload_n 1, 132, []), (132, .invokevirtual 145, 135, [0, 196, 1, 8206]), (135, .aload_n 0, 136, []), (136, .iload_n 3, 137, []), (137, .invokevirtual 80, 140, [0, 163, 1, 8101]), (140, .ireturn, 141, [])]]
noncomputable def z_r202 : List (List (List z_Row)) := [z_r202_0]
-- ClockParliamentModel.vote()I
set_option maxRecDepth 20000 in
noncomputable def z_r203_0 : List (List z_Row) := [[(0, .aload_n 0, 1, []), (1, .invokevirtual 83, 4, [0, 167, 0, 8076]), (4, .aload_n 0, 5, []), (5, .aload_n 0, 6, []), (6, .invokevirtual 160, 9, [0, 202, 0, 8214]), (9, .invokevirtual 89, 12, [0, 168, 1, 8105]), (12, .ireturn, 13, [])]]
noncomputable def z_r203 : List (List (List z_Row)) := [z_r203_0]
-- ClockParliamentModel.comeBack()I
set_option maxRecDepth 20000 in
noncomputable def z_r204_0 : List (List z_Row) := [[(0, .iconst 0, 1, []), (1, .istore_n 1, 2, []), (2, .aload_n 0, 3, []), (3, .getfield 7, 6, [0, 9, 0, 8006]), (6, .iconst 1, 7, []), (7, .iaload, 8, []), (8, .iconst 1, 9, []), (9, .isub, 10, []), (10, .istore_n 2, 11, []), (11, .iload_n 2, 12, []), (12, .ifCond .lt 69, 15, [81]), (15, .aload_n 0, 16, [])],
  [(16, .getfield 7, 19, [0, 9, 0, 8006]), (19, .bipush 75, 21, []), (21, .iload_n 2, 22, []), (22, .iadd, 23, []), (23, .iaload, 24, []), (24, .iconst 1, 25, []), (25, .if_icmp .ne 7, 28, [32]), (28, .iconst 1, 29, []), (29, .goto 4, 32, [33])],
  [(32, .iconst 0, 33, []), (33, .istore_n 3, 34, []), (34, .aload_n 0, 35, []), (35, .getfield 7, 38, [0, 9, 0, 8006]), (38, .bipush 75, 40, []), (40, .iload_n 2, 41, []), (41, .iadd, 42, []), (42, .dup2, 43, []), (43, .iaload, 44, []), (44, .aload_n 0, 45, []), (45, .getfield 7, 48, [0, 9, 0, 8006])],
  [(48, .bipush 75, 50, []), (50, .iload_n 2, 51, []), (51, .iadd, 52, []), (52, .iaload, 53, []), (53, .ifCond .le 7, 56, [60]), (56, .iconst 1, 57, []), (57, .goto 4, 60, [61]), (60, .iconst 0, 61, []), (61, .isub, 62, []), (62, .iastore, 63, []), (63, .iload_n 3, 64, [])],
  [(64, .ifCond .eq 11, 67, [75]), (67, .aload_n 0, 68, []), (68, .iload_n 2, 69, []), (69, .invokevirtual 163, 72, [0, 189, 1, 9006]), (72, .iinc 1 1, 75, []), (75, .iinc 2 (-1), 78, []), (78, .goto (-67), 81, [11])],
  [(81, .aload_n 0, 82, []), (82, .getfield 7, 85, [0, 9, 0, 8006]), (85, .bipush 7, 87, []), (87, .dup2, 88, []), (88, .iaload, 89, []), (89, .iload_n 1, 90, []), (90, .iadd, 91, []), (91, .iastore, 92, []), (92, .iload_n 1, 93, []), (93, .ireturn, 94, [])]]
noncomputable def z_r204 : List (List (List z_Row)) := [z_r204_0]
-- ClockParliamentModel.hourGoes()I
set_option maxRecDepth 20000 in
noncomputable def z_r205_0 : List (List z_Row) := [[(0, .aload_n 0, 1, []), (1, .getfield 7, 4, [0, 9, 0, 8006]), (4, .iconst 2, 5, []), (5, .dup2, 6, []), (6, .iaload, 7, []), (7, .iconst 1, 8, []), (8, .iadd, 9, []), (9, .iastore, 10, []), (10, .aload_n 0, 11, []), (11, .invokevirtual 166, 14, [0, 204, 0, 9002]), (14, .istore_n 1, 15, []), (15, .iconst 0, 16, [])],
  [(16, .istore_n 2, 17, []), (17, .iload_n 2, 18, []), (18, .aload_n 0, 19, []), (19, .getfield 7, 22, [0, 9, 0, 8006]), (22, .iconst 0, 23, []), (23, .iaload, 24, []), (24, .if_icmp .ge 77, 27, [101]), (27, .aload_n 0, 28, []), (28, .getfield 7, 31, [0, 9, 0, 8006]), (31, .bipush 18, 33, [])],
  [(33, .iload_n 2, 34, []), (34, .iadd, 35, []), (35, .dup2, 36, []), (36, .iaload, 37, []), (37, .aload_n 0, 38, []), (38, .getfield 7, 41, [0, 9, 0, 8006]), (41, .bipush 18, 43, []), (43, .iload_n 2, 44, []), (44, .iadd, 45, []), (45, .iaload, 46, []), (46, .ifCond .le 7, 49, [53])],
  [(49, .iconst 1, 50, []), (50, .goto 4, 53, [54]), (53, .iconst 0, 54, []), (54, .isub, 55, []), (55, .iastore, 56, []), (56, .aload_n 0, 57, []), (57, .getfield 7, 60, [0, 9, 0, 8006]), (60, .bipush 10, 62, []), (62, .iload_n 2, 63, []), (63, .iadd, 64, [])],
  [(64, .aload_n 0, 65, []), (65, .getfield 7, 68, [0, 9, 0, 8006]), (68, .bipush 10, 70, []), (70, .iload_n 2, 71, []), (71, .iadd, 72, []), (72, .iaload, 73, []), (73, .aload_n 0, 74, []), (74, .getfield 7, 77, [0, 9, 0, 8006]), (77, .bipush 18, 79, []), (79, .iload_n 2, 80, [])],
  [(80, .iadd, 81, []), (81, .iaload, 82, []), (82, .ifCond .le 7, 85, [89]), (85, .iconst 1, 86, []), (86, .goto 4, 89, [90]), (89, .iconst 0, 90, []), (90, .iadd, 91, []), (91, .bipush 60, 93, []), (93, .irem, 94, []), (94, .iastore, 95, []), (95, .iinc 2 1, 98, [])],
  [(98, .goto (-81), 101, [17]), (101, .iload_n 1, 102, []), (102, .ireturn, 103, [])]]
noncomputable def z_r205 : List (List (List z_Row)) := [z_r205_0]
-- ClockParliamentModel.hoursGo(I)I
set_option maxRecDepth 20000 in
noncomputable def z_r206_0 : List (List z_Row) := [[(0, .iload_n 1, 1, []), (1, .iconst 1, 2, []), (2, .bipush 24, 4, []), (4, .invokestatic 65, 7, [1, 162, 3, 8090]), (7, .ifCond .ne 10, 10, [17]), (10, .aload_n 0, 11, []), (11, .iconst 3, 12, []), (12, .iload_n 1, 13, []), (13, .invokevirtual 77, 16, [0, 165, 2, 8093])],
  [(16, .ireturn, 17, []), (17, .iconst 0, 18, []), (18, .istore_n 2, 19, []), (19, .iconst 0, 20, []), (20, .istore_n 3, 21, []), (21, .iload_n 3, 22, []), (22, .iload_n 1, 23, []), (23, .if_icmp .ge 16, 26, [39]), (26, .iload_n 2, 27, []), (27, .aload_n 0, 28, []), (28, .invokevirtual 169, 31, [0, 205, 0, 8238]), (31, .iadd, 32, [])],
  [(32, .istore_n 2, 33, []), (33, .iinc 3 1, 36, []), (36, .goto (-15), 39, [21]), (39, .aload_n 0, 40, []), (40, .iload_n 2, 41, []), (41, .invokevirtual 80, 44, [0, 163, 1, 8101]), (44, .ireturn, 45, [])]]
noncomputable def z_r206 : List (List (List z_Row)) := [z_r206_0]
-- ClockParliamentModel.hour(I)I
set_option maxRecDepth 20000 in
noncomputable def z_r207_0 : List (List z_Row) := [[(0, .aload_n 0, 1, []), (1, .invokevirtual 83, 4, [0, 167, 0, 8076]), (4, .aload_n 0, 5, []), (5, .aload_n 0, 6, []), (6, .iload_n 1, 7, []), (7, .invokevirtual 172, 10, [0, 206, 1, 8234]), (10, .invokevirtual 89, 13, [0, 168, 1, 8105]), (13, .ireturn, 14, [])]]
noncomputable def z_r207 : List (List (List z_Row)) := [z_r207_0]
-- ClockParliamentModel.keysOf(I)I
set_option maxRecDepth 20000 in
noncomputable def z_r208_0 : List (List z_Row) := [[(0, .iconst 0, 1, []), (1, .istore_n 2, 2, []), (2, .iconst 0, 3, []), (3, .istore_n 3, 4, []), (4, .iload_n 3, 5, []), (5, .iconst 3, 6, []), (6, .if_icmp .ge 32, 9, [38]), (9, .iload_n 2, 10, []), (10, .aload_n 0, 11, []), (11, .getfield 7, 14, [0, 9, 0, 8006]), (14, .bipush 42, 16, [])],
  [(16, .iload_n 3, 17, []), (17, .iadd, 18, []), (18, .iaload, 19, []), (19, .iload_n 1, 20, []), (20, .iconst 1, 21, []), (21, .iadd, 22, []), (22, .if_icmp .ne 7, 25, [29]), (25, .iconst 1, 26, []), (26, .goto 4, 29, [30]), (29, .iconst 0, 30, []), (30, .iadd, 31, []), (31, .istore_n 2, 32, [])],
  [(32, .iinc 3 1, 35, []), (35, .goto (-31), 38, [4]), (38, .iload_n 2, 39, []), (39, .ireturn, 40, [])]]
noncomputable def z_r208 : List (List (List z_Row)) := [z_r208_0]
-- ClockParliamentModel.billsOf(I)I
set_option maxRecDepth 20000 in
noncomputable def z_r209_0 : List (List z_Row) := [[(0, .iconst 0, 1, []), (1, .istore_n 2, 2, []), (2, .iconst 0, 3, []), (3, .istore_n 3, 4, []), (4, .iload_n 3, 5, []), (5, .aload_n 0, 6, []), (6, .getfield 7, 9, [0, 9, 0, 8006]), (9, .iconst 1, 10, []), (10, .iaload, 11, []), (11, .if_icmp .ge 32, 14, [43]), (14, .iload_n 2, 15, []), (15, .aload_n 0, 16, [])],
  [(16, .getfield 7, 19, [0, 9, 0, 8006]), (19, .bipush 45, 21, []), (21, .iload_n 3, 22, []), (22, .iadd, 23, []), (23, .iaload, 24, []), (24, .iload_n 1, 25, []), (25, .iconst 1, 26, []), (26, .iadd, 27, []), (27, .if_icmp .ne 7, 30, [34]), (30, .iconst 1, 31, []), (31, .goto 4, 34, [35])],
  [(34, .iconst 0, 35, []), (35, .iadd, 36, []), (36, .istore_n 2, 37, []), (37, .iinc 3 1, 40, []), (40, .goto (-36), 43, [4]), (43, .iload_n 2, 44, []), (44, .ireturn, 45, [])]]
noncomputable def z_r209 : List (List (List z_Row)) := [z_r209_0]
-- ClockParliamentModel.agreeing(I)I
set_option maxRecDepth 20000 in
noncomputable def z_r210_0 : List (List z_Row) := [[(0, .iconst 0, 1, []), (1, .istore_n 2, 2, []), (2, .iconst 0, 3, []), (3, .istore_n 3, 4, []), (4, .iload_n 3, 5, []), (5, .aload_n 0, 6, []), (6, .getfield 7, 9, [0, 9, 0, 8006]), (9, .iconst 0, 10, []), (10, .iaload, 11, []), (11, .if_icmp .ge 29, 14, [40]), (14, .iload_n 2, 15, []), (15, .aload_n 0, 16, [])],
  [(16, .iload_n 1, 17, []), (17, .iload_n 3, 18, []), (18, .invokevirtual 111, 21, [0, 174, 2, 8147]), (21, .iconst 5, 22, []), (22, .if_icmp .gt 9, 25, [31]), (25, .iconst 1, 26, []), (26, .iload_n 3, 27, []), (27, .ishl, 28, []), (28, .goto 4, 31, [32]), (31, .iconst 0, 32, [])],
  [(32, .ior, 33, []), (33, .istore_n 2, 34, []), (34, .iinc 3 1, 37, []), (37, .goto (-33), 40, [4]), (40, .iload_n 2, 41, []), (41, .ireturn, 42, [])]]
noncomputable def z_r210 : List (List (List z_Row)) := [z_r210_0]
-- ClockParliamentModel.clockOf(II)I
set_option maxRecDepth 20000 in
noncomputable def z_r211_0 : List (List z_Row) := [[(0, .aload_n 0, 1, []), (1, .iload_n 1, 2, []), (2, .invokevirtual 92, 5, [0, 169, 1, 8117]), (5, .ifCond .ne 9, 8, [14]), (8, .aload_n 0, 9, []), (9, .iconst 1, 10, []), (10, .invokevirtual 54, 13, [0, 164, 1, 8097]), (13, .ireturn, 14, []), (14, .iload_n 2, 15, []), (15, .tableswitch 133 0 6 #[41, 55, 69, 83, 93, 103, 117], 56, [148, 56, 70, 84, 98, 108, 118, 132])],
  [],
  [],
  [(56, .aload_n 0, 57, []), (57, .aload_n 0, 58, []), (58, .getfield 7, 61, [0, 9, 0, 8006]), (61, .bipush 10, 63, []), (63, .iload_n 1, 64, [])],
  [(64, .iadd, 65, []), (65, .iaload, 66, []), (66, .invokevirtual 80, 69, [0, 163, 1, 8101]), (69, .ireturn, 70, []), (70, .aload_n 0, 71, []), (71, .aload_n 0, 72, []), (72, .getfield 7, 75, [0, 9, 0, 8006]), (75, .bipush 18, 77, []), (77, .iload_n 1, 78, []), (78, .iadd, 79, []), (79, .iaload, 80, [])],
  [(80, .invokevirtual 80, 83, [0, 163, 1, 8101]), (83, .ireturn, 84, []), (84, .aload_n 0, 85, []), (85, .aload_n 0, 86, []), (86, .getfield 7, 89, [0, 9, 0, 8006]), (89, .bipush 26, 91, []), (91, .iload_n 1, 92, []), (92, .iadd, 93, []), (93, .iaload, 94, []), (94, .invokevirtual 80, 97, [0, 163, 1, 8101])],
  [(97, .ireturn, 98, []), (98, .aload_n 0, 99, []), (99, .aload_n 0, 100, []), (100, .iload_n 1, 101, []), (101, .invokevirtual 175, 104, [0, 208, 1, 9014]), (104, .invokevirtual 80, 107, [0, 163, 1, 8101]), (107, .ireturn, 108, []), (108, .aload_n 0, 109, []), (109, .aload_n 0, 110, []), (110, .iload_n 1, 111, []), (111, .invokevirtual 178, 114, [0, 209, 1, 9018])],
  [(114, .invokevirtual 80, 117, [0, 163, 1, 8101]), (117, .ireturn, 118, []), (118, .aload_n 0, 119, []), (119, .aload_n 0, 120, []), (120, .getfield 7, 123, [0, 9, 0, 8006]), (123, .bipush 34, 125, []), (125, .iload_n 1, 126, []), (126, .iadd, 127, []), (127, .iaload, 128, [])],
  [(128, .invokevirtual 80, 131, [0, 163, 1, 8101]), (131, .ireturn, 132, []), (132, .aload_n 0, 133, []), (133, .aload_n 0, 134, []), (134, .iload_n 1, 135, []), (135, .invokevirtual 181, 138, [0, 210, 1, 9022]), (138, .iconst 1, 139, []), (139, .iload_n 1, 140, []), (140, .ishl, 141, []), (141, .iconst (-1), 142, []), (142, .ixor, 143, []), (143, .iand, 144, [])],
  [(144, .invokevirtual 80, 147, [0, 163, 1, 8101]), (147, .ireturn, 148, []), (148, .aload_n 0, 149, []), (149, .iconst 2, 150, []), (150, .invokevirtual 54, 153, [0, 164, 1, 8097]), (153, .ireturn, 154, [])]]
noncomputable def z_r211 : List (List (List z_Row)) := [z_r211_0]
-- ClockParliamentModel.billOf(II)I
set_option maxRecDepth 20000 in
noncomputable def z_r212_0 : List (List z_Row) := [[(0, .aload_n 0, 1, []), (1, .iload_n 1, 2, []), (2, .invokevirtual 131, 5, [0, 170, 1, 8178]), (5, .ifCond .ne 9, 8, [14]), (8, .aload_n 0, 9, []), (9, .iconst 1, 10, []), (10, .invokevirtual 54, 13, [0, 164, 1, 8097]), (13, .ireturn, 14, []), (14, .iload_n 2, 15, []), (15, .tableswitch 119 0 5 #[37, 53, 67, 81, 95, 105], 52, [134, 52, 68, 82, 96, 110, 120])],
  [],
  [],
  [(52, .aload_n 0, 53, []), (53, .aload_n 0, 54, []), (54, .getfield 7, 57, [0, 9, 0, 8006]), (57, .bipush 45, 59, []), (59, .iload_n 1, 60, []), (60, .iadd, 61, []), (61, .iaload, 62, []), (62, .iconst 1, 63, []), (63, .isub, 64, [])],
  [(64, .invokevirtual 80, 67, [0, 163, 1, 8101]), (67, .ireturn, 68, []), (68, .aload_n 0, 69, []), (69, .aload_n 0, 70, []), (70, .getfield 7, 73, [0, 9, 0, 8006]), (73, .bipush 55, 75, []), (75, .iload_n 1, 76, []), (76, .iadd, 77, []), (77, .iaload, 78, []), (78, .invokevirtual 80, 81, [0, 163, 1, 8101])],
  [(81, .ireturn, 82, []), (82, .aload_n 0, 83, []), (83, .aload_n 0, 84, []), (84, .getfield 7, 87, [0, 9, 0, 8006]), (87, .bipush 65, 89, []), (89, .iload_n 1, 90, []), (90, .iadd, 91, []), (91, .iaload, 92, []), (92, .invokevirtual 80, 95, [0, 163, 1, 8101]), (95, .ireturn, 96, [])],
  [(96, .aload_n 0, 97, []), (97, .aload_n 0, 98, []), (98, .getfield 7, 101, [0, 9, 0, 8006]), (101, .bipush 75, 103, []), (103, .iload_n 1, 104, []), (104, .iadd, 105, []), (105, .iaload, 106, []), (106, .invokevirtual 80, 109, [0, 163, 1, 8101]), (109, .ireturn, 110, []), (110, .aload_n 0, 111, []), (111, .aload_n 0, 112, [])],
  [(112, .iload_n 1, 113, []), (113, .invokevirtual 120, 116, [0, 187, 1, 8190]), (116, .invokevirtual 80, 119, [0, 163, 1, 8101]), (119, .ireturn, 120, []), (120, .aload_n 0, 121, []), (121, .aload_n 0, 122, []), (122, .getfield 7, 125, [0, 9, 0, 8006]), (125, .bipush 85, 127, []), (127, .iload_n 1, 128, [])],
  [(128, .iadd, 129, []), (129, .iaload, 130, []), (130, .invokevirtual 80, 133, [0, 163, 1, 8101]), (133, .ireturn, 134, []), (134, .aload_n 0, 135, []), (135, .iconst 2, 136, []), (136, .invokevirtual 54, 139, [0, 164, 1, 8097]), (139, .ireturn, 140, [])]]
noncomputable def z_r212 : List (List (List z_Row)) := [z_r212_0]
-- ClockParliamentModel.keeper(I)I
set_option maxRecDepth 20000 in
noncomputable def z_r213_0 : List (List z_Row) := [[(0, .iload_n 1, 1, []), (1, .invokestatic 105, 4, [1, 171, 1, 8136]), (4, .ifCond .eq 21, 7, [25]), (7, .aload_n 0, 8, []), (8, .aload_n 0, 9, []), (9, .getfield 7, 12, [0, 9, 0, 8006]), (12, .bipush 42, 14, []), (14, .iload_n 1, 15, []), (15, .iadd, 16, [])],
  [(16, .iaload, 17, []), (17, .iconst 1, 18, []), (18, .isub, 19, []), (19, .invokevirtual 80, 22, [0, 163, 1, 8101]), (22, .goto 8, 25, [30]), (25, .aload_n 0, 26, []), (26, .iconst 1, 27, []), (27, .invokevirtual 54, 30, [0, 164, 1, 8097]), (30, .ireturn, 31, [])]]
noncomputable def z_r213 : List (List (List z_Row)) := [z_r213_0]
-- ClockParliamentModel.doAgree(II)Z
set_option maxRecDepth 20000 in
noncomputable def z_r214_0 : List (List z_Row) := [[(0, .aload_n 0, 1, []), (1, .aload_n 0, 2, []), (2, .iload_n 1, 3, []), (3, .invokevirtual 92, 6, [0, 169, 1, 8117]), (6, .ifCond .eq 15, 9, [21]), (9, .aload_n 0, 10, []), (10, .iload_n 2, 11, []), (11, .invokevirtual 92, 14, [0, 169, 1, 8117]), (14, .ifCond .eq 7, 17, [21])],
  [(17, .iconst 0, 18, []), (18, .goto 4, 21, [22]), (21, .iconst 1, 22, []), (22, .putfield 39, 25, [0, 9, 16, 8022]), (25, .aload_n 0, 26, []), (26, .getfield 39, 29, [0, 9, 16, 8022]), (29, .ifCond .ne 17, 32, [46])],
  [(32, .aload_n 0, 33, []), (33, .iload_n 1, 34, []), (34, .iload_n 2, 35, []), (35, .invokevirtual 111, 38, [0, 174, 2, 8147]), (38, .iconst 5, 39, []), (39, .if_icmp .gt 7, 42, [46]), (42, .iconst 1, 43, []), (43, .goto 4, 46, [47]), (46, .iconst 0, 47, []), (47, .ireturn, 48, [])]]
noncomputable def z_r214 : List (List (List z_Row)) := [z_r214_0]
-- ClockParliamentModel.apart(II)I
set_option maxRecDepth 20000 in
noncomputable def z_r215_0 : List (List z_Row) := [[(0, .aload_n 0, 1, []), (1, .iload_n 1, 2, []), (2, .invokevirtual 92, 5, [0, 169, 1, 8117]), (5, .ifCond .eq 24, 8, [29]), (8, .aload_n 0, 9, []), (9, .iload_n 2, 10, []), (10, .invokevirtual 92, 13, [0, 169, 1, 8117]), (13, .ifCond .eq 16, 16, [29])],
  [(16, .aload_n 0, 17, []), (17, .aload_n 0, 18, []), (18, .iload_n 1, 19, []), (19, .iload_n 2, 20, []), (20, .invokevirtual 111, 23, [0, 174, 2, 8147]), (23, .invokevirtual 80, 26, [0, 163, 1, 8101]), (26, .goto 8, 29, [34]), (29, .aload_n 0, 30, []), (30, .iconst 1, 31, []), (31, .invokevirtual 54, 34, [0, 164, 1, 8097])],
  [(34, .ireturn, 35, [])]]
noncomputable def z_r215 : List (List (List z_Row)) := [z_r215_0]
-- ClockParliamentModel.row(I)I
set_option maxRecDepth 20000 in
noncomputable def z_r216_0 : List (List z_Row) := [[(0, .iload_n 1, 1, []), (1, .iconst 0, 2, []), (2, .aload_n 0, 3, []), (3, .getfield 7, 6, [0, 9, 0, 8006]), (6, .bipush 9, 8, []), (8, .iaload, 9, []), (9, .iconst 1, 10, []), (10, .isub, 11, []), (11, .invokestatic 65, 14, [1, 162, 3, 8090]), (14, .ifCond .eq 19, 17, [33])],
  [(17, .aload_n 0, 18, []), (18, .aload_n 0, 19, []), (19, .getfield 7, 22, [0, 9, 0, 8006]), (22, .bipush 95, 24, []), (24, .iload_n 1, 25, []), (25, .iadd, 26, []), (26, .iaload, 27, []), (27, .invokevirtual 80, 30, [0, 163, 1, 8101]), (30, .goto 8, 33, [38])],
  [(33, .aload_n 0, 34, []), (34, .iconst 1, 35, []), (35, .invokevirtual 54, 38, [0, 164, 1, 8097]), (38, .ireturn, 39, [])]]
noncomputable def z_r216 : List (List (List z_Row)) := [z_r216_0]
-- ClockParliamentModel.rowBehind(II)I
set_option maxRecDepth 20000 in
noncomputable def z_r217_0 : List (List z_Row) := [[(0, .aload_n 0, 1, []), (1, .getfield 7, 4, [0, 9, 0, 8006]), (4, .iconst 0, 5, []), (5, .aload_n 0, 6, []), (6, .getfield 16, 9, [0, 9, 2, 8008]), (9, .iconst 0, 10, []), (10, .invokestatic 58, 13, [1, 166, 4, 8080]), (13, .iconst 0, 14, []), (14, .istore_n 3, 15, []), (15, .iconst 0, 16, [])],
  [(16, .istore 4, 18, []), (18, .iload 4, 20, []), (20, .iload_n 1, 21, []), (21, .if_icmp .ge 16, 24, [37]), (24, .iload_n 3, 25, []), (25, .aload_n 0, 26, []), (26, .invokevirtual 169, 29, [0, 205, 0, 8238]), (29, .iadd, 30, []), (30, .istore_n 3, 31, []), (31, .iinc 4 1, 34, [])],
  [(34, .goto (-16), 37, [18]), (37, .iload_n 2, 38, []), (38, .iconst 0, 39, []), (39, .aload_n 0, 40, []), (40, .getfield 7, 43, [0, 9, 0, 8006]), (43, .bipush 9, 45, []), (45, .iaload, 46, []), (46, .iconst 1, 47, []), (47, .isub, 48, [])],
  [(48, .invokestatic 65, 51, [1, 162, 3, 8090]), (51, .ifCond .eq 15, 54, [66]), (54, .aload_n 0, 55, []), (55, .getfield 7, 58, [0, 9, 0, 8006]), (58, .bipush 95, 60, []), (60, .iload_n 2, 61, []), (61, .iadd, 62, []), (62, .iaload, 63, []), (63, .goto 4, 66, [67])],
  [(66, .iconst (-1), 67, []), (67, .istore 4, 69, []), (69, .aload_n 0, 70, []), (70, .getfield 16, 73, [0, 9, 2, 8008]), (73, .iconst 0, 74, []), (74, .aload_n 0, 75, []), (75, .getfield 7, 78, [0, 9, 0, 8006]), (78, .iconst 0, 79, []), (79, .invokestatic 58, 82, [1, 166, 4, 8080])],
  [(82, .iload 4, 84, []), (84, .ireturn, 85, [])]]
noncomputable def z_r217 : List (List (List z_Row)) := [z_r217_0]
-- ClockParliamentModel.rowIn(II)I
set_option maxRecDepth 20000 in
noncomputable def z_r218_0 : List (List z_Row) := [[(0, .iload_n 1, 1, []), (1, .iconst 0, 2, []), (2, .bipush 24, 4, []), (4, .invokestatic 65, 7, [1, 162, 3, 8090]), (7, .ifCond .ne 9, 10, [16]), (10, .aload_n 0, 11, []), (11, .iconst 1, 12, []), (12, .invokevirtual 54, 15, [0, 164, 1, 8097]), (15, .ireturn, 16, [])],
  [(16, .aload_n 0, 17, []), (17, .iload_n 1, 18, []), (18, .iload_n 2, 19, []), (19, .invokevirtual 184, 22, [0, 217, 2, 9050]), (22, .istore_n 3, 23, []), (23, .iload_n 3, 24, []), (24, .iconst (-1), 25, []), (25, .if_icmp .ne 11, 28, [36]), (28, .aload_n 0, 29, []), (29, .iconst 2, 30, []), (30, .invokevirtual 54, 33, [0, 164, 1, 8097])],
  [(33, .goto 8, 36, [41]), (36, .aload_n 0, 37, []), (37, .iload_n 3, 38, []), (38, .invokevirtual 80, 41, [0, 163, 1, 8101]), (41, .ireturn, 42, [])]]
noncomputable def z_r218 : List (List (List z_Row)) := [z_r218_0]
-- ClockParliamentModel.rowAgain(II)I
set_option maxRecDepth 20000 in
noncomputable def z_r219_0 : List (List z_Row) := [[(0, .aload_n 0, 1, []), (1, .iload_n 1, 2, []), (2, .iload_n 2, 3, []), (3, .invokevirtual 187, 6, [0, 218, 2, 9058]), (6, .ireturn, 7, [])]]
noncomputable def z_r219 : List (List (List z_Row)) := [z_r219_0]
-- ClockParliamentModel.next()I
set_option maxRecDepth 20000 in
noncomputable def z_r220_0 : List (List z_Row) := [[(0, .bipush 100, 2, []), (2, .istore_n 1, 3, []), (3, .iconst 0, 4, []), (4, .istore_n 2, 5, []), (5, .iload_n 2, 6, []), (6, .aload_n 0, 7, []), (7, .getfield 7, 10, [0, 9, 0, 8006]), (10, .iconst 1, 11, []), (11, .iaload, 12, []), (12, .if_icmp .ge 48, 15, [60]), (15, .aload_n 0, 16, [])],
  [(16, .getfield 7, 19, [0, 9, 0, 8006]), (19, .bipush 75, 21, []), (21, .iload_n 2, 22, []), (22, .iadd, 23, []), (23, .iaload, 24, []), (24, .ifCond .le 28, 27, [52]), (27, .aload_n 0, 28, []), (28, .getfield 7, 31, [0, 9, 0, 8006]), (31, .bipush 75, 33, [])],
  [(33, .iload_n 2, 34, []), (34, .iadd, 35, []), (35, .iaload, 36, []), (36, .iload_n 1, 37, []), (37, .if_icmp .ge 15, 40, [52]), (40, .aload_n 0, 41, []), (41, .getfield 7, 44, [0, 9, 0, 8006]), (44, .bipush 75, 46, []), (46, .iload_n 2, 47, []), (47, .iadd, 48, [])],
  [(48, .iaload, 49, []), (49, .goto 4, 52, [53]), (52, .iload_n 1, 53, []), (53, .istore_n 1, 54, []), (54, .iinc 2 1, 57, []), (57, .goto (-52), 60, [5]), (60, .iload_n 1, 61, []), (61, .bipush 100, 63, []), (63, .if_icmp .ne 11, 66, [74])],
  [(66, .aload_n 0, 67, []), (67, .iconst 1, 68, []), (68, .invokevirtual 54, 71, [0, 164, 1, 8097]), (71, .goto 8, 74, [79]), (74, .aload_n 0, 75, []), (75, .iload_n 1, 76, []), (76, .invokevirtual 80, 79, [0, 163, 1, 8101]), (79, .ireturn, 80, [])]]
noncomputable def z_r220 : List (List (List z_Row)) := [z_r220_0]
-- ClockParliamentModel.silentIn(I)I
set_option maxRecDepth 20000 in
noncomputable def z_r221_0 : List (List z_Row) := [[(0, .aload_n 0, 1, []), (1, .iload_n 1, 2, []), (2, .invokevirtual 92, 5, [0, 169, 1, 8117]), (5, .ifCond .eq 19, 8, [24]), (8, .aload_n 0, 9, []), (9, .aload_n 0, 10, []), (10, .getfield 7, 13, [0, 9, 0, 8006]), (13, .bipush 18, 15, []), (15, .iload_n 1, 16, [])],
  [(16, .iadd, 17, []), (17, .iaload, 18, []), (18, .invokevirtual 80, 21, [0, 163, 1, 8101]), (21, .goto 8, 24, [29]), (24, .aload_n 0, 25, []), (25, .iconst 1, 26, []), (26, .invokevirtual 54, 29, [0, 164, 1, 8097]), (29, .ireturn, 30, [])]]
noncomputable def z_r221 : List (List (List z_Row)) := [z_r221_0]
-- ClockParliamentModel.secondIn(II)I
set_option maxRecDepth 20000 in
noncomputable def z_r222_0 : List (List z_Row) := [[(0, .aload_n 0, 1, []), (1, .iload_n 1, 2, []), (2, .invokevirtual 92, 5, [0, 169, 1, 8117]), (5, .ifCond .ne 9, 8, [14]), (8, .aload_n 0, 9, []), (9, .iconst 1, 10, []), (10, .invokevirtual 54, 13, [0, 164, 1, 8097]), (13, .ireturn, 14, []), (14, .iload_n 2, 15, []), (15, .iconst 0, 16, [])],
  [(16, .bipush 48, 18, []), (18, .invokestatic 65, 21, [1, 162, 3, 8090]), (21, .ifCond .ne 9, 24, [30]), (24, .aload_n 0, 25, []), (25, .iconst 2, 26, []), (26, .invokevirtual 54, 29, [0, 164, 1, 8097]), (29, .ireturn, 30, []), (30, .aload_n 0, 31, []), (31, .getfield 7, 34, [0, 9, 0, 8006])],
  [(34, .bipush 18, 36, []), (36, .iload_n 1, 37, []), (37, .iadd, 38, []), (38, .iaload, 39, []), (39, .ifCond .le 17, 42, [56]), (42, .aload_n 0, 43, []), (43, .getfield 7, 46, [0, 9, 0, 8006]), (46, .bipush 18, 48, [])],
  [(48, .iload_n 1, 49, []), (49, .iadd, 50, []), (50, .iaload, 51, []), (51, .iconst 1, 52, []), (52, .isub, 53, []), (53, .goto 4, 56, [57]), (56, .iconst 0, 57, []), (57, .istore_n 3, 58, []), (58, .aload_n 0, 59, []), (59, .aload_n 0, 60, []), (60, .getfield 7, 63, [0, 9, 0, 8006]), (63, .bipush 10, 65, [])],
  [(65, .iload_n 1, 66, []), (66, .iadd, 67, []), (67, .iaload, 68, []), (68, .iload_n 2, 69, []), (69, .iload_n 3, 70, []), (70, .if_icmp .ge 7, 73, [77]), (73, .iload_n 2, 74, []), (74, .goto 4, 77, [78]), (77, .iload_n 3, 78, []), (78, .iadd, 79, []), (79, .bipush 60, 81, [])],
  [(81, .irem, 82, []), (82, .invokevirtual 80, 85, [0, 163, 1, 8101]), (85, .ireturn, 86, [])]]
noncomputable def z_r222 : List (List (List z_Row)) := [z_r222_0]
-- ClockParliamentModel.voters(I)I
set_option maxRecDepth 20000 in
noncomputable def z_r223_0 : List (List z_Row) := [[(0, .aload_n 0, 1, []), (1, .iload_n 1, 2, []), (2, .invokevirtual 131, 5, [0, 170, 1, 8178]), (5, .ifCond .eq 15, 8, [20]), (8, .aload_n 0, 9, []), (9, .aload_n 0, 10, []), (10, .iload_n 1, 11, []), (11, .invokevirtual 151, 14, [0, 199, 1, 8218]), (14, .invokevirtual 80, 17, [0, 163, 1, 8101])],
  [(17, .goto 8, 20, [25]), (20, .aload_n 0, 21, []), (21, .iconst 1, 22, []), (22, .invokevirtual 54, 25, [0, 164, 1, 8097]), (25, .ireturn, 26, [])]]
noncomputable def z_r223 : List (List (List z_Row)) := [z_r223_0]
-- ClockParliamentModel.majority(I)I
set_option maxRecDepth 20000 in
noncomputable def z_r224_0 : List (List z_Row) := [[(0, .aload_n 0, 1, []), (1, .iload_n 1, 2, []), (2, .invokevirtual 131, 5, [0, 170, 1, 8178]), (5, .ifCond .eq 19, 8, [24]), (8, .aload_n 0, 9, []), (9, .aload_n 0, 10, []), (10, .aload_n 0, 11, []), (11, .iload_n 1, 12, []), (12, .invokevirtual 151, 15, [0, 199, 1, 8218]), (15, .invokevirtual 154, 18, [0, 200, 1, 8222])],
  [(18, .invokevirtual 80, 21, [0, 163, 1, 8101]), (21, .goto 8, 24, [29]), (24, .aload_n 0, 25, []), (25, .iconst 1, 26, []), (26, .invokevirtual 54, 29, [0, 164, 1, 8097]), (29, .ireturn, 30, [])]]
noncomputable def z_r224 : List (List (List z_Row)) := [z_r224_0]
-- ClockParliamentModel.majorityAgain(I)I
set_option maxRecDepth 20000 in
noncomputable def z_r225_0 : List (List z_Row) := [[(0, .aload_n 0, 1, []), (1, .iload_n 1, 2, []), (2, .invokevirtual 190, 5, [0, 224, 1, 9083]), (5, .ireturn, 6, [])]]
noncomputable def z_r225 : List (List (List z_Row)) := [z_r225_0]
-- ClockParliamentModel.carries(I)Z
set_option maxRecDepth 20000 in
noncomputable def z_r226_0 : List (List z_Row) := [[(0, .aload_n 0, 1, []), (1, .aload_n 0, 2, []), (2, .iload_n 1, 3, []), (3, .invokevirtual 151, 6, [0, 199, 1, 8218]), (6, .invokevirtual 154, 9, [0, 200, 1, 8222]), (9, .aload_n 0, 10, []), (10, .getfield 7, 13, [0, 9, 0, 8006]), (13, .bipush 65, 15, []), (15, .iload_n 1, 16, [])],
  [(16, .iadd, 17, []), (17, .iaload, 18, []), (18, .if_icmp .lt 7, 21, [25]), (21, .iconst 1, 22, []), (22, .goto 4, 25, [26]), (25, .iconst 0, 26, []), (26, .ireturn, 27, [])]]
noncomputable def z_r226 : List (List (List z_Row)) := [z_r226_0]
-- ClockParliamentModel.wouldCarry(I)Z
set_option maxRecDepth 20000 in
noncomputable def z_r227_0 : List (List z_Row) := [[(0, .aload_n 0, 1, []), (1, .aload_n 0, 2, []), (2, .iload_n 1, 3, []), (3, .invokevirtual 131, 6, [0, 170, 1, 8178]), (6, .ifCond .eq 7, 9, [13]), (9, .iconst 0, 10, []), (10, .goto 4, 13, [14]), (13, .iconst 1, 14, []), (14, .putfield 39, 17, [0, 9, 16, 8022])],
  [(17, .aload_n 0, 18, []), (18, .getfield 39, 21, [0, 9, 16, 8022]), (21, .ifCond .ne 15, 24, [36]), (24, .aload_n 0, 25, []), (25, .iload_n 1, 26, []), (26, .invokevirtual 193, 29, [0, 226, 1, 9088]), (29, .ifCond .eq 7, 32, [36])],
  [(32, .iconst 1, 33, []), (33, .goto 4, 36, [37]), (36, .iconst 0, 37, []), (37, .ireturn, 38, [])]]
noncomputable def z_r227 : List (List (List z_Row)) := [z_r227_0]
-- ClockParliamentModel.carried()I
set_option maxRecDepth 20000 in
noncomputable def z_r228_0 : List (List z_Row) := [[(0, .iconst 0, 1, []), (1, .istore_n 1, 2, []), (2, .iconst 0, 3, []), (3, .istore_n 2, 4, []), (4, .iload_n 2, 5, []), (5, .aload_n 0, 6, []), (6, .getfield 7, 9, [0, 9, 0, 8006]), (9, .iconst 1, 10, []), (10, .iaload, 11, []), (11, .if_icmp .ge 39, 14, [50]), (14, .iload_n 1, 15, []), (15, .aload_n 0, 16, [])],
  [(16, .getfield 7, 19, [0, 9, 0, 8006]), (19, .bipush 75, 21, []), (21, .iload_n 2, 22, []), (22, .iadd, 23, []), (23, .iaload, 24, []), (24, .ifCond .ne 17, 27, [41]), (27, .aload_n 0, 28, []), (28, .iload_n 2, 29, []), (29, .invokevirtual 193, 32, [0, 226, 1, 9088])],
  [(32, .ifCond .eq 9, 35, [41]), (35, .iconst 1, 36, []), (36, .iload_n 2, 37, []), (37, .ishl, 38, []), (38, .goto 4, 41, [42]), (41, .iconst 0, 42, []), (42, .ior, 43, []), (43, .istore_n 1, 44, []), (44, .iinc 2 1, 47, []), (47, .goto (-43), 50, [4])],
  [(50, .aload_n 0, 51, []), (51, .iload_n 1, 52, []), (52, .invokevirtual 80, 55, [0, 163, 1, 8101]), (55, .ireturn, 56, [])]]
noncomputable def z_r228 : List (List (List z_Row)) := [z_r228_0]
-- ClockParliamentModel.weakest()I
set_option maxRecDepth 20000 in
noncomputable def z_r229_0 : List (List z_Row) := [[(0, .iconst 0, 1, []), (1, .istore_n 1, 2, []), (2, .iconst 1, 3, []), (3, .istore_n 2, 4, []), (4, .iload_n 2, 5, []), (5, .aload_n 0, 6, []), (6, .getfield 7, 9, [0, 9, 0, 8006]), (9, .iconst 0, 10, []), (10, .iaload, 11, []), (11, .if_icmp .ge 36, 14, [47]), (14, .aload_n 0, 15, []), (15, .getfield 7, 18, [0, 9, 0, 8006])],
  [(18, .bipush 18, 20, []), (20, .iload_n 2, 21, []), (21, .iadd, 22, []), (22, .iaload, 23, []), (23, .aload_n 0, 24, []), (24, .getfield 7, 27, [0, 9, 0, 8006]), (27, .bipush 18, 29, []), (29, .iload_n 1, 30, []), (30, .iadd, 31, []), (31, .iaload, 32, [])],
  [(32, .if_icmp .ge 7, 35, [39]), (35, .iload_n 2, 36, []), (36, .goto 4, 39, [40]), (39, .iload_n 1, 40, []), (40, .istore_n 1, 41, []), (41, .iinc 2 1, 44, []), (44, .goto (-40), 47, [4]), (47, .aload_n 0, 48, [])],
  [(48, .getfield 7, 51, [0, 9, 0, 8006]), (51, .iconst 0, 52, []), (52, .iaload, 53, []), (53, .ifCond .ne 11, 56, [64]), (56, .aload_n 0, 57, []), (57, .iconst 1, 58, []), (58, .invokevirtual 54, 61, [0, 164, 1, 8097]), (61, .goto 8, 64, [69])],
  [(64, .aload_n 0, 65, []), (65, .iload_n 1, 66, []), (66, .invokevirtual 80, 69, [0, 163, 1, 8101]), (69, .ireturn, 70, [])]]
noncomputable def z_r229 : List (List (List z_Row)) := [z_r229_0]
-- ClockParliamentModel.circleOf(I)I
set_option maxRecDepth 20000 in
noncomputable def z_r230_0 : List (List z_Row) := [[(0, .iconst 1, 1, []), (1, .iload_n 1, 2, []), (2, .ishl, 3, []), (3, .istore_n 2, 4, []), (4, .iconst 0, 5, []), (5, .istore_n 3, 6, []), (6, .iload_n 3, 7, []), (7, .bipush 8, 9, []), (9, .if_icmp .ge 52, 12, [61]), (12, .iconst 0, 13, []), (13, .istore 4, 15, []), (15, .iload 4, 17, [])],
  [(17, .aload_n 0, 18, []), (18, .getfield 7, 21, [0, 9, 0, 8006]), (21, .iconst 0, 22, []), (22, .iaload, 23, []), (23, .if_icmp .ge 32, 26, [55]), (26, .iload_n 2, 27, []), (27, .iload_n 2, 28, []), (28, .iload 4, 30, []), (30, .ishr, 31, []), (31, .iconst 1, 32, [])],
  [(32, .iand, 33, []), (33, .iconst 1, 34, []), (34, .if_icmp .ne 12, 37, [46]), (37, .aload_n 0, 38, []), (38, .iload 4, 40, []), (40, .invokevirtual 181, 43, [0, 210, 1, 9022]), (43, .goto 4, 46, [47]), (46, .iconst 0, 47, []), (47, .ior, 48, [])],
  [(48, .istore_n 2, 49, []), (49, .iinc 4 1, 52, []), (52, .goto (-37), 55, [15]), (55, .iinc 3 1, 58, []), (58, .goto (-52), 61, [6]), (61, .iload_n 2, 62, []), (62, .ireturn, 63, [])]]
noncomputable def z_r230 : List (List (List z_Row)) := [z_r230_0]
-- ClockParliamentModel.circle(I)I
set_option maxRecDepth 20000 in
noncomputable def z_r231_0 : List (List z_Row) := [[(0, .aload_n 0, 1, []), (1, .iload_n 1, 2, []), (2, .invokevirtual 92, 5, [0, 169, 1, 8117]), (5, .ifCond .eq 15, 8, [20]), (8, .aload_n 0, 9, []), (9, .aload_n 0, 10, []), (10, .iload_n 1, 11, []), (11, .invokevirtual 196, 14, [0, 230, 1, 9104]), (14, .invokevirtual 80, 17, [0, 163, 1, 8101])],
  [(17, .goto 8, 20, [25]), (20, .aload_n 0, 21, []), (21, .iconst 1, 22, []), (22, .invokevirtual 54, 25, [0, 164, 1, 8097]), (25, .ireturn, 26, [])]]
noncomputable def z_r231 : List (List (List z_Row)) := [z_r231_0]
-- ClockParliamentModel.ranked(II)I
set_option maxRecDepth 20000 in
noncomputable def z_r232_0 : List (List z_Row) := [[(0, .iload_n 1, 1, []), (1, .iconst 0, 2, []), (2, .iconst 3, 3, []), (3, .invokestatic 65, 6, [1, 162, 3, 8090]), (6, .ifCond .ne 9, 9, [15]), (9, .aload_n 0, 10, []), (10, .iconst 1, 11, []), (11, .invokevirtual 54, 14, [0, 164, 1, 8097]), (14, .ireturn, 15, []), (15, .iload_n 1, 16, [])],
  [(16, .ifCond .ne 8, 19, [24]), (19, .bipush 18, 21, []), (21, .goto 25, 24, [46]), (24, .iload_n 1, 25, []), (25, .iconst 1, 26, []), (26, .if_icmp .ne 8, 29, [34]), (29, .bipush 10, 31, []), (31, .goto 15, 34, [46])],
  [(34, .iload_n 1, 35, []), (35, .iconst 2, 36, []), (36, .if_icmp .ne 8, 39, [44]), (39, .bipush 26, 41, []), (41, .goto 5, 44, [46]), (44, .bipush 34, 46, []), (46, .istore_n 3, 47, []), (47, .iconst 0, 48, [])],
  [(48, .istore 4, 50, []), (50, .iload 4, 52, []), (52, .aload_n 0, 53, []), (53, .getfield 7, 56, [0, 9, 0, 8006]), (56, .iconst 0, 57, []), (57, .iaload, 58, []), (58, .if_icmp .ge 93, 61, [151]), (61, .iconst 0, 62, []), (62, .istore 5, 64, [])],
  [(64, .iconst 0, 65, []), (65, .istore 6, 67, []), (67, .iload 6, 69, []), (69, .aload_n 0, 70, []), (70, .getfield 7, 73, [0, 9, 0, 8006]), (73, .iconst 0, 74, []), (74, .iaload, 75, []), (75, .if_icmp .ge 57, 78, [132]), (78, .aload_n 0, 79, []), (79, .getfield 7, 82, [0, 9, 0, 8006])],
  [(82, .iload_n 3, 83, []), (83, .iload 6, 85, []), (85, .iadd, 86, []), (86, .iaload, 87, []), (87, .aload_n 0, 88, []), (88, .getfield 7, 91, [0, 9, 0, 8006]), (91, .iload_n 3, 92, []), (92, .iload 4, 94, []), (94, .iadd, 95, []), (95, .iaload, 96, [])],
  [(96, .isub, 97, []), (97, .istore 7, 99, []), (99, .iload 5, 101, []), (101, .iload 7, 103, []), (103, .ifCond .gt 15, 106, [118]), (106, .iload 7, 108, []), (108, .ifCond .ne 14, 111, [122]), (111, .iload 6, 113, [])],
  [(113, .iload 4, 115, []), (115, .if_icmp .ge 7, 118, [122]), (118, .iconst 1, 119, []), (119, .goto 4, 122, [123]), (122, .iconst 0, 123, []), (123, .iadd, 124, []), (124, .istore 5, 126, []), (126, .iinc 6 1, 129, [])],
  [(129, .goto (-62), 132, [67]), (132, .iload 5, 134, []), (134, .iload_n 2, 135, []), (135, .if_icmp .ne 10, 138, [145]), (138, .aload_n 0, 139, []), (139, .iload 4, 141, []), (141, .invokevirtual 80, 144, [0, 163, 1, 8101])],
  [(144, .ireturn, 145, []), (145, .iinc 4 1, 148, []), (148, .goto (-98), 151, [50]), (151, .aload_n 0, 152, []), (152, .iconst 2, 153, []), (153, .invokevirtual 54, 156, [0, 164, 1, 8097]), (156, .ireturn, 157, [])]]
noncomputable def z_r232 : List (List (List z_Row)) := [z_r232_0]
-- ClockParliamentModel.isTold()Z
set_option maxRecDepth 20000 in
noncomputable def z_r233_0 : List (List z_Row) := [[(0, .aload_n 0, 1, []), (1, .iconst 0, 2, []), (2, .putfield 39, 5, [0, 9, 16, 8022]), (5, .iconst 1, 6, []), (6, .ireturn, 7, [])]]
noncomputable def z_r233 : List (List (List z_Row)) := [z_r233_0]
-- ClockParliamentModel.append(C)I
set_option maxRecDepth 20000 in
noncomputable def z_r234_0 : List (List z_Row) := [[(0, .iload_n 1, 1, []), (1, .bipush 32, 3, []), (3, .bipush 126, 5, []), (5, .invokestatic 65, 8, [1, 162, 3, 8090]), (8, .ifCond .ne 9, 11, [17]), (11, .aload_n 0, 12, []), (12, .iconst 1, 13, []), (13, .invokevirtual 54, 16, [0, 164, 1, 8097])],
  [(16, .ireturn, 17, []), (17, .aload_n 0, 18, []), (18, .getfield 199, 21, [0, 9, 8, 8014]), (21, .bipush 60, 23, []), (23, .if_icmp .ne 9, 26, [32]), (26, .aload_n 0, 27, []), (27, .iconst 2, 28, []), (28, .invokevirtual 54, 31, [0, 164, 1, 8097]), (31, .ireturn, 32, [])],
  [(32, .aload_n 0, 33, []), (33, .getfield 25, 36, [0, 9, 7, 8013]), (36, .aload_n 0, 37, []), (37, .getfield 199, 40, [0, 9, 8, 8014]), (40, .iload_n 1, 41, []), (41, .castore, 42, []), (42, .aload_n 0, 43, []), (43, .dup, 44, []), (44, .getfield 199, 47, [0, 9, 8, 8014]), (47, .iconst 1, 48, [])],
  [(48, .iadd, 49, []), (49, .putfield 199, 52, [0, 9, 8, 8014]), (52, .aload_n 0, 53, []), (53, .aload_n 0, 54, []), (54, .getfield 199, 57, [0, 9, 8, 8014]), (57, .invokevirtual 80, 60, [0, 163, 1, 8101]), (60, .ireturn, 61, [])]]
noncomputable def z_r234 : List (List (List z_Row)) := [z_r234_0]
-- ClockParliamentModel.here()I
set_option maxRecDepth 20000 in
noncomputable def z_r235_0 : List (List z_Row) := [[(0, .aload_n 0, 1, []), (1, .getfield 202, 4, [0, 9, 17, 8023]), (4, .aload_n 0, 5, []), (5, .getfield 199, 8, [0, 9, 8, 8014]), (8, .if_icmp .ge 15, 11, [23]), (11, .aload_n 0, 12, []), (12, .getfield 25, 15, [0, 9, 7, 8013]), (15, .aload_n 0, 16, [])],
  [(16, .getfield 202, 19, [0, 9, 17, 8023]), (19, .caload, 20, []), (20, .goto 4, 23, [24]), (23, .iconst (-1), 24, []), (24, .ireturn, 25, [])]]
noncomputable def z_r235 : List (List (List z_Row)) := [z_r235_0]
-- ClockParliamentModel.needs(I)V
set_option maxRecDepth 20000 in
noncomputable def z_r236_0 : List (List z_Row) := [[(0, .aload_n 0, 1, []), (1, .aload_n 0, 2, []), (2, .getfield 205, 5, [0, 9, 18, 8024]), (5, .ifCond .ne 11, 8, [16]), (8, .aload_n 0, 9, []), (9, .invokevirtual 209, 12, [0, 235, 0, 9128]), (12, .iload_n 1, 13, []), (13, .if_icmp .eq 7, 16, [20])],
  [(16, .iconst 1, 17, []), (17, .goto 4, 20, [21]), (20, .iconst 0, 21, []), (21, .putfield 205, 24, [0, 9, 18, 8024]), (24, .aload_n 0, 25, []), (25, .dup, 26, []), (26, .getfield 202, 29, [0, 9, 17, 8023]), (29, .aload_n 0, 30, []), (30, .getfield 205, 33, [0, 9, 18, 8024])],
  [(33, .ifCond .eq 7, 36, [40]), (36, .iconst 0, 37, []), (37, .goto 4, 40, [41]), (40, .iconst 1, 41, []), (41, .iadd, 42, []), (42, .putfield 202, 45, [0, 9, 17, 8023]), (45, .return_, 46, [])]]
noncomputable def z_r236 : List (List (List z_Row)) := [z_r236_0]
-- ClockParliamentModel.needsThree(III)V
set_option maxRecDepth 20000 in
noncomputable def z_r237_0 : List (List z_Row) := [[(0, .aload_n 0, 1, []), (1, .iload_n 1, 2, []), (2, .invokevirtual 212, 5, [0, 236, 1, 9136]), (5, .aload_n 0, 6, []), (6, .iload_n 2, 7, []), (7, .invokevirtual 212, 10, [0, 236, 1, 9136]), (10, .aload_n 0, 11, []), (11, .iload_n 3, 12, []), (12, .invokevirtual 212, 15, [0, 236, 1, 9136]), (15, .return_, 16, [])]]
noncomputable def z_r237 : List (List (List z_Row)) := [z_r237_0]
-- ClockParliamentModel.figures(I)I
set_option maxRecDepth 20000 in
noncomputable def z_r238_0 : List (List z_Row) := [[(0, .aload_n 0, 1, []), (1, .bipush 32, 3, []), (3, .invokevirtual 212, 6, [0, 236, 1, 9136]), (6, .aload_n 0, 7, []), (7, .aload_n 0, 8, []), (8, .getfield 205, 11, [0, 9, 18, 8024]), (11, .ifCond .ne 17, 14, [28]), (14, .aload_n 0, 15, []), (15, .invokevirtual 209, 18, [0, 235, 0, 9128])],
  [(18, .bipush 48, 20, []), (20, .bipush 57, 22, []), (22, .invokestatic 65, 25, [1, 162, 3, 8090]), (25, .ifCond .ne 7, 28, [32]), (28, .iconst 1, 29, []), (29, .goto 4, 32, [33])],
  [(32, .iconst 0, 33, []), (33, .putfield 205, 36, [0, 9, 18, 8024]), (36, .iconst 0, 37, []), (37, .istore_n 2, 38, []), (38, .iconst 0, 39, []), (39, .istore_n 3, 40, []), (40, .aload_n 0, 41, []), (41, .getfield 205, 44, [0, 9, 18, 8024]), (44, .ifCond .ne 51, 47, [95]), (47, .iload_n 3, 48, [])],
  [(48, .iload_n 1, 49, []), (49, .if_icmp .ge 46, 52, [95]), (52, .aload_n 0, 53, []), (53, .invokevirtual 209, 56, [0, 235, 0, 9128]), (56, .bipush 48, 58, []), (58, .bipush 57, 60, []), (60, .invokestatic 65, 63, [1, 162, 3, 8090]), (63, .ifCond .eq 32, 66, [95])],
  [(66, .bipush 10, 68, []), (68, .iload_n 2, 69, []), (69, .imul, 70, []), (70, .aload_n 0, 71, []), (71, .invokevirtual 209, 74, [0, 235, 0, 9128]), (74, .iadd, 75, []), (75, .bipush 48, 77, []), (77, .isub, 78, []), (78, .istore_n 2, 79, []), (79, .aload_n 0, 80, [])],
  [(80, .dup, 81, []), (81, .getfield 202, 84, [0, 9, 17, 8023]), (84, .iconst 1, 85, []), (85, .iadd, 86, []), (86, .putfield 202, 89, [0, 9, 17, 8023]), (89, .iinc 3 1, 92, []), (92, .goto (-52), 95, [40]), (95, .iload_n 2, 96, [])],
  [(96, .ireturn, 97, [])]]
noncomputable def z_r238 : List (List (List z_Row)) := [z_r238_0]
-- ClockParliamentModel.readsKey(I)V
set_option maxRecDepth 20000 in
noncomputable def z_r239_0 : List (List z_Row) := [[(0, .aload_n 0, 1, []), (1, .bipush 101, 3, []), (3, .invokevirtual 212, 6, [0, 236, 1, 9136]), (6, .aload_n 0, 7, []), (7, .bipush 121, 9, []), (9, .invokevirtual 212, 12, [0, 236, 1, 9136]), (12, .aload_n 0, 13, []), (13, .getfield 36, 16, [0, 9, 19, 8025])],
  [(16, .iload_n 1, 17, []), (17, .iconst 1, 18, []), (18, .iadd, 19, []), (19, .aload_n 0, 20, []), (20, .iconst 1, 21, []), (21, .invokevirtual 215, 24, [0, 238, 1, 9140]), (24, .iastore, 25, []), (25, .aload_n 0, 26, []), (26, .getfield 205, 29, [0, 9, 18, 8024]), (29, .ifCond .ne 45, 32, [74])],
  [(32, .aload_n 0, 33, []), (33, .invokevirtual 209, 36, [0, 235, 0, 9128]), (36, .bipush 32, 38, []), (38, .if_icmp .ne 36, 41, [74]), (41, .aload_n 0, 42, []), (42, .getfield 202, 45, [0, 9, 17, 8023]), (45, .iconst 1, 46, []), (46, .iadd, 47, []), (47, .aload_n 0, 48, [])],
  [(48, .getfield 199, 51, [0, 9, 8, 8014]), (51, .if_icmp .ge 23, 54, [74]), (54, .aload_n 0, 55, []), (55, .getfield 25, 58, [0, 9, 7, 8013]), (58, .aload_n 0, 59, []), (59, .getfield 202, 62, [0, 9, 17, 8023]), (62, .iconst 1, 63, []), (63, .iadd, 64, [])],
  [(64, .caload, 65, []), (65, .bipush 45, 67, []), (67, .if_icmp .ne 7, 70, [74]), (70, .iconst 1, 71, []), (71, .goto 4, 74, [75]), (74, .iconst 0, 75, []), (75, .istore_n 2, 76, []), (76, .aload_n 0, 77, []), (77, .dup, 78, []), (78, .getfield 202, 81, [0, 9, 17, 8023])],
  [(81, .iload_n 2, 82, []), (82, .ifCond .eq 7, 85, [89]), (85, .iconst 2, 86, []), (86, .goto 4, 89, [90]), (89, .iconst 0, 90, []), (90, .iadd, 91, []), (91, .putfield 202, 94, [0, 9, 17, 8023]), (94, .aload_n 0, 95, []), (95, .getfield 36, 98, [0, 9, 19, 8025])],
  [(98, .iload_n 1, 99, []), (99, .iconst 2, 100, []), (100, .iadd, 101, []), (101, .iload_n 2, 102, []), (102, .ifCond .eq 7, 105, [109]), (105, .iconst (-1), 106, []), (106, .goto 8, 109, [114]), (109, .aload_n 0, 110, []), (110, .iconst 1, 111, []), (111, .invokevirtual 215, 114, [0, 238, 1, 9140])],
  [(114, .iastore, 115, []), (115, .return_, 116, [])]]
noncomputable def z_r239 : List (List (List z_Row)) := [z_r239_0]
-- ClockParliamentModel.readsAdjourn(I)V
set_option maxRecDepth 20000 in
noncomputable def z_r240_0 : List (List z_Row) := [[(0, .aload_n 0, 1, []), (1, .bipush 100, 3, []), (3, .bipush 106, 5, []), (5, .bipush 111, 7, []), (7, .invokevirtual 218, 10, [0, 237, 3, 9132]), (10, .aload_n 0, 11, []), (11, .bipush 117, 13, []), (13, .bipush 114, 15, []), (15, .bipush 110, 17, [])],
  [(17, .invokevirtual 218, 20, [0, 237, 3, 9132]), (20, .aload_n 0, 21, []), (21, .getfield 36, 24, [0, 9, 19, 8025]), (24, .iload_n 1, 25, []), (25, .iconst 1, 26, []), (26, .iadd, 27, []), (27, .aload_n 0, 28, []), (28, .iconst 1, 29, []), (29, .invokevirtual 215, 32, [0, 238, 1, 9140])],
  [(32, .iastore, 33, []), (33, .aload_n 0, 34, []), (34, .getfield 36, 37, [0, 9, 19, 8025]), (37, .iload_n 1, 38, []), (38, .iconst 2, 39, []), (39, .iadd, 40, []), (40, .aload_n 0, 41, []), (41, .iconst 2, 42, []), (42, .invokevirtual 215, 45, [0, 238, 1, 9140]), (45, .iastore, 46, []), (46, .return_, 47, [])]]
noncomputable def z_r240 : List (List (List z_Row)) := [z_r240_0]
-- ClockParliamentModel.readsOrder(I)V
set_option maxRecDepth 20000 in
noncomputable def z_r241_0 : List (List z_Row) := [[(0, .aload_n 0, 1, []), (1, .invokevirtual 209, 4, [0, 235, 0, 9128]), (4, .istore_n 2, 5, []), (5, .aload_n 0, 6, []), (6, .dup, 7, []), (7, .getfield 202, 10, [0, 9, 17, 8023]), (10, .iconst 1, 11, []), (11, .iadd, 12, []), (12, .putfield 202, 15, [0, 9, 17, 8023]), (15, .aload_n 0, 16, [])],
  [(16, .getfield 36, 19, [0, 9, 19, 8025]), (19, .iload_n 1, 20, []), (20, .iload_n 2, 21, []), (21, .iastore, 22, []), (22, .iload_n 2, 23, []), (23, .tableswitch 413 97 119 #[320, 268, 105, 328, 413, 413, 413, 367, 413, 413, 182, 150, 229, 413, 413, 413, 413, 413, 413, 413, 413, 354, 190], 128, [436, 343, 291, 128, 351, 436, 436, 436, 390, 436, 436, 205, 173, 252, 436, 436, 436, 436, 436, 436, 436, 436, 377, 213])],
  [],
  [],
  [],
  [],
  [],
  [],
  [(128, .aload_n 0, 129, []), (129, .bipush 108, 131, []), (131, .bipush 111, 133, []), (133, .bipush 99, 135, []), (135, .invokevirtual 218, 138, [0, 237, 3, 9132]), (138, .aload_n 0, 139, []), (139, .bipush 107, 141, []), (141, .invokevirtual 212, 144, [0, 236, 1, 9136])],
  [(144, .aload_n 0, 145, []), (145, .getfield 36, 148, [0, 9, 19, 8025]), (148, .iload_n 1, 149, []), (149, .iconst 1, 150, []), (150, .iadd, 151, []), (151, .aload_n 0, 152, []), (152, .iconst 2, 153, []), (153, .invokevirtual 215, 156, [0, 238, 1, 9140]), (156, .iastore, 157, []), (157, .aload_n 0, 158, []), (158, .getfield 36, 161, [0, 9, 19, 8025])],
  [(161, .iload_n 1, 162, []), (162, .iconst 2, 163, []), (163, .iadd, 164, []), (164, .aload_n 0, 165, []), (165, .iconst 1, 166, []), (166, .invokevirtual 215, 169, [0, 238, 1, 9140]), (169, .iastore, 170, []), (170, .goto 281, 173, [451]), (173, .aload_n 0, 174, []), (174, .bipush 101, 176, [])],
  [(176, .bipush 97, 178, []), (178, .bipush 118, 180, []), (180, .invokevirtual 218, 183, [0, 237, 3, 9132]), (183, .aload_n 0, 184, []), (184, .bipush 101, 186, []), (186, .invokevirtual 212, 189, [0, 236, 1, 9136]), (189, .aload_n 0, 190, []), (190, .getfield 36, 193, [0, 9, 19, 8025])],
  [(193, .iload_n 1, 194, []), (194, .iconst 1, 195, []), (195, .iadd, 196, []), (196, .aload_n 0, 197, []), (197, .iconst 1, 198, []), (198, .invokevirtual 215, 201, [0, 238, 1, 9140]), (201, .iastore, 202, []), (202, .goto 249, 205, [451]), (205, .aload_n 0, 206, []), (206, .iload_n 1, 207, []), (207, .invokevirtual 221, 210, [0, 239, 1, 9144])],
  [(210, .goto 241, 213, [451]), (213, .aload_n 0, 214, []), (214, .bipush 105, 216, []), (216, .bipush 110, 218, []), (218, .bipush 100, 220, []), (220, .invokevirtual 218, 223, [0, 237, 3, 9132]), (223, .aload_n 0, 224, [])],
  [(224, .getfield 36, 227, [0, 9, 19, 8025]), (227, .iload_n 1, 228, []), (228, .iconst 1, 229, []), (229, .iadd, 230, []), (230, .aload_n 0, 231, []), (231, .iconst 1, 232, []), (232, .invokevirtual 215, 235, [0, 238, 1, 9140]), (235, .iastore, 236, []), (236, .aload_n 0, 237, []), (237, .getfield 36, 240, [0, 9, 19, 8025])],
  [(240, .iload_n 1, 241, []), (241, .iconst 2, 242, []), (242, .iadd, 243, []), (243, .aload_n 0, 244, []), (244, .iconst 1, 245, []), (245, .invokevirtual 215, 248, [0, 238, 1, 9140]), (248, .iastore, 249, []), (249, .goto 202, 252, [451]), (252, .aload_n 0, 253, []), (253, .bipush 111, 255, []), (255, .bipush 118, 257, [])]]
set_option maxRecDepth 20000 in
noncomputable def z_r241_1 : List (List z_Row) := [[(257, .bipush 101, 259, []), (259, .invokevirtual 218, 262, [0, 237, 3, 9132]), (262, .aload_n 0, 263, []), (263, .getfield 36, 266, [0, 9, 19, 8025]), (266, .iload_n 1, 267, []), (267, .iconst 1, 268, []), (268, .iadd, 269, []), (269, .aload_n 0, 270, []), (270, .iconst 1, 271, []), (271, .invokevirtual 215, 274, [0, 238, 1, 9140])],
  [(274, .iastore, 275, []), (275, .aload_n 0, 276, []), (276, .getfield 36, 279, [0, 9, 19, 8025]), (279, .iload_n 1, 280, []), (280, .iconst 2, 281, []), (281, .iadd, 282, []), (282, .aload_n 0, 283, []), (283, .iconst 2, 284, []), (284, .invokevirtual 215, 287, [0, 238, 1, 9140]), (287, .iastore, 288, [])],
  [(288, .goto 163, 291, [451]), (291, .aload_n 0, 292, []), (292, .bipush 105, 294, []), (294, .bipush 108, 296, []), (296, .bipush 108, 298, []), (298, .invokevirtual 218, 301, [0, 237, 3, 9132]), (301, .aload_n 0, 302, []), (302, .getfield 36, 305, [0, 9, 19, 8025])],
  [(305, .iload_n 1, 306, []), (306, .iconst 1, 307, []), (307, .iadd, 308, []), (308, .aload_n 0, 309, []), (309, .iconst 1, 310, []), (310, .invokevirtual 215, 313, [0, 238, 1, 9140]), (313, .iastore, 314, []), (314, .aload_n 0, 315, []), (315, .getfield 36, 318, [0, 9, 19, 8025]), (318, .iload_n 1, 319, []), (319, .iconst 2, 320, [])],
  [(320, .iadd, 321, []), (321, .aload_n 0, 322, []), (322, .iconst 2, 323, []), (323, .invokevirtual 215, 326, [0, 238, 1, 9140]), (326, .iastore, 327, []), (327, .aload_n 0, 328, []), (328, .getfield 36, 331, [0, 9, 19, 8025]), (331, .iload_n 1, 332, []), (332, .iconst 3, 333, []), (333, .iadd, 334, []), (334, .aload_n 0, 335, []), (335, .iconst 1, 336, [])],
  [(336, .invokevirtual 215, 339, [0, 238, 1, 9140]), (339, .iastore, 340, []), (340, .goto 111, 343, [451]), (343, .aload_n 0, 344, []), (344, .iload_n 1, 345, []), (345, .invokevirtual 224, 348, [0, 240, 1, 9148]), (348, .goto 103, 351, [451]), (351, .aload_n 0, 352, [])],
  [(352, .bipush 114, 354, []), (354, .bipush 111, 356, []), (356, .bipush 112, 358, []), (358, .invokevirtual 218, 361, [0, 237, 3, 9132]), (361, .aload_n 0, 362, []), (362, .getfield 36, 365, [0, 9, 19, 8025]), (365, .iload_n 1, 366, []), (366, .iconst 1, 367, []), (367, .iadd, 368, [])],
  [(368, .aload_n 0, 369, []), (369, .iconst 1, 370, []), (370, .invokevirtual 215, 373, [0, 238, 1, 9140]), (373, .iastore, 374, []), (374, .goto 77, 377, [451]), (377, .aload_n 0, 378, []), (378, .bipush 111, 380, []), (380, .bipush 116, 382, []), (382, .bipush 101, 384, [])],
  [(384, .invokevirtual 218, 387, [0, 237, 3, 9132]), (387, .goto 64, 390, [451]), (390, .aload_n 0, 391, []), (391, .bipush 111, 393, []), (393, .bipush 117, 395, []), (395, .bipush 114, 397, []), (397, .invokevirtual 218, 400, [0, 237, 3, 9132])],
  [(400, .aload_n 0, 401, []), (401, .getfield 36, 404, [0, 9, 19, 8025]), (404, .iload_n 1, 405, []), (405, .iconst 1, 406, []), (406, .iadd, 407, []), (407, .aload_n 0, 408, []), (408, .getfield 205, 411, [0, 9, 18, 8024]), (411, .ifCond .ne 20, 414, [431]), (414, .aload_n 0, 415, []), (415, .invokevirtual 209, 418, [0, 235, 0, 9128])],
  [(418, .bipush 32, 420, []), (420, .if_icmp .ne 11, 423, [431]), (423, .aload_n 0, 424, []), (424, .iconst 2, 425, []), (425, .invokevirtual 215, 428, [0, 238, 1, 9140]), (428, .goto 4, 431, [432]), (431, .iconst 1, 432, [])],
  [(432, .iastore, 433, []), (433, .goto 18, 436, [451]), (436, .aload_n 0, 437, []), (437, .iconst 1, 438, []), (438, .putfield 205, 441, [0, 9, 18, 8024]), (441, .aload_n 0, 442, []), (442, .dup, 443, []), (443, .getfield 202, 446, [0, 9, 17, 8023]), (446, .iconst 1, 447, []), (447, .isub, 448, [])],
  [(448, .putfield 202, 451, [0, 9, 17, 8023]), (451, .return_, 452, [])]]
noncomputable def z_r241 : List (List (List z_Row)) := [z_r241_0, z_r241_1]
-- ClockParliamentModel.does(I)I
set_option maxRecDepth 20000 in
noncomputable def z_r242_0 : List (List z_Row) := [[(0, .aload_n 0, 1, []), (1, .getfield 36, 4, [0, 9, 19, 8025]), (4, .iload_n 1, 5, []), (5, .iconst 1, 6, []), (6, .iadd, 7, []), (7, .iaload, 8, []), (8, .istore_n 2, 9, []), (9, .aload_n 0, 10, []), (10, .getfield 36, 13, [0, 9, 19, 8025]), (13, .iload_n 1, 14, []), (14, .iconst 2, 15, []), (15, .iadd, 16, [])],
  [(16, .iaload, 17, []), (17, .istore_n 3, 18, []), (18, .aload_n 0, 19, []), (19, .getfield 36, 22, [0, 9, 19, 8025]), (22, .iload_n 1, 23, []), (23, .iaload, 24, []), (24, .tableswitch 175 97 119 #[157, 142, 108, 164, 175, 175, 175, 175, 175, 175, 121, 115, 135, 175, 175, 175, 175, 175, 175, 175, 175, 170, 128], 132, [199, 181, 166, 132, 188, 199, 199, 199, 199, 199, 199, 145, 139, 159, 199, 199, 199, 199, 199, 199, 199, 199, 194, 152])],
  [],
  [],
  [],
  [],
  [],
  [],
  [(132, .aload_n 0, 133, []), (133, .iload_n 2, 134, []), (134, .iload_n 3, 135, []), (135, .invokevirtual 86, 138, [0, 175, 2, 8083]), (138, .ireturn, 139, []), (139, .aload_n 0, 140, []), (140, .iload_n 2, 141, []), (141, .invokevirtual 102, 144, [0, 179, 1, 8113])],
  [(144, .ireturn, 145, []), (145, .aload_n 0, 146, []), (146, .iload_n 2, 147, []), (147, .iload_n 3, 148, []), (148, .invokevirtual 108, 151, [0, 181, 2, 8132]), (151, .ireturn, 152, []), (152, .aload_n 0, 153, []), (153, .iload_n 2, 154, []), (154, .iload_n 3, 155, []), (155, .invokevirtual 114, 158, [0, 183, 2, 8143]), (158, .ireturn, 159, []), (159, .aload_n 0, 160, [])],
  [(160, .iload_n 2, 161, []), (161, .iload_n 3, 162, []), (162, .invokevirtual 117, 165, [0, 185, 2, 8158]), (165, .ireturn, 166, []), (166, .aload_n 0, 167, []), (167, .iload_n 2, 168, []), (168, .iload_n 3, 169, []), (169, .aload_n 0, 170, []), (170, .getfield 36, 173, [0, 9, 19, 8025]), (173, .iload_n 1, 174, []), (174, .iconst 3, 175, []), (175, .iadd, 176, [])],
  [(176, .iaload, 177, []), (177, .invokevirtual 123, 180, [0, 190, 3, 8166]), (180, .ireturn, 181, []), (181, .aload_n 0, 182, []), (182, .iload_n 2, 183, []), (183, .iload_n 3, 184, []), (184, .invokevirtual 142, 187, [0, 194, 2, 8174]), (187, .ireturn, 188, []), (188, .aload_n 0, 189, []), (189, .iload_n 2, 190, []), (190, .invokevirtual 148, 193, [0, 197, 1, 8202])],
  [(193, .ireturn, 194, []), (194, .aload_n 0, 195, []), (195, .invokevirtual 160, 198, [0, 202, 0, 8214]), (198, .ireturn, 199, []), (199, .aload_n 0, 200, []), (200, .iload_n 2, 201, []), (201, .invokevirtual 172, 204, [0, 206, 1, 8234]), (204, .ireturn, 205, [])]]
noncomputable def z_r242 : List (List (List z_Row)) := [z_r242_0]
-- ClockParliamentModel.refusesText(I)I
set_option maxRecDepth 20000 in
noncomputable def z_r243_0 : List (List z_Row) := [[(0, .aload_n 0, 1, []), (1, .getfield 42, 4, [0, 9, 10, 8016]), (4, .istore_n 2, 5, []), (5, .aload_n 0, 6, []), (6, .getfield 45, 9, [0, 9, 11, 8017]), (9, .istore_n 3, 10, []), (10, .aload_n 0, 11, []), (11, .bipush 11, 13, []), (13, .iload_n 1, 14, []), (14, .invokevirtual 77, 17, [0, 165, 2, 8093])],
  [(17, .istore 4, 19, []), (19, .aload_n 0, 20, []), (20, .iload_n 2, 21, []), (21, .putfield 48, 24, [0, 9, 12, 8018]), (24, .aload_n 0, 25, []), (25, .iload_n 3, 26, []), (26, .putfield 51, 29, [0, 9, 13, 8019]), (29, .aload_n 0, 30, []), (30, .iconst 2, 31, []), (31, .invokevirtual 54, 34, [0, 164, 1, 8097])],
  [(34, .ireturn, 35, [])]]
noncomputable def z_r243 : List (List (List z_Row)) := [z_r243_0]
-- ClockParliamentModel.run()I
set_option maxRecDepth 20000 in
noncomputable def z_r244_0 : List (List z_Row) := [[(0, .aload_n 0, 1, []), (1, .iconst 0, 2, []), (2, .putfield 202, 5, [0, 9, 17, 8023]), (5, .aload_n 0, 6, []), (6, .iconst 0, 7, []), (7, .putfield 205, 10, [0, 9, 18, 8024]), (10, .iconst 0, 11, []), (11, .istore_n 1, 12, []), (12, .iconst 1, 13, []), (13, .istore_n 2, 14, []), (14, .iload_n 2, 15, []), (15, .ifCond .eq 56, 18, [71])],
  [(18, .aload_n 0, 19, []), (19, .iconst 4, 20, []), (20, .iload_n 1, 21, []), (21, .imul, 22, []), (22, .invokevirtual 227, 25, [0, 241, 1, 9124]), (25, .iinc 1 1, 28, []), (28, .aload_n 0, 29, []), (29, .getfield 205, 32, [0, 9, 18, 8024])],
  [(32, .ifCond .ne 16, 35, [48]), (35, .aload_n 0, 36, []), (36, .invokevirtual 209, 39, [0, 235, 0, 9128]), (39, .bipush 59, 41, []), (41, .if_icmp .ne 7, 44, [48]), (44, .iconst 1, 45, []), (45, .goto 4, 48, [49])],
  [(48, .iconst 0, 49, []), (49, .istore_n 2, 50, []), (50, .aload_n 0, 51, []), (51, .dup, 52, []), (52, .getfield 202, 55, [0, 9, 17, 8023]), (55, .iload_n 2, 56, []), (56, .ifCond .eq 7, 59, [63]), (59, .iconst 1, 60, []), (60, .goto 4, 63, [64]), (63, .iconst 0, 64, [])],
  [(64, .iadd, 65, []), (65, .putfield 202, 68, [0, 9, 17, 8023]), (68, .goto (-54), 71, [14]), (71, .aload_n 0, 72, []), (72, .aload_n 0, 73, []), (73, .getfield 205, 76, [0, 9, 18, 8024]), (76, .ifCond .ne 14, 79, [90]), (79, .aload_n 0, 80, [])],
  [(80, .getfield 202, 83, [0, 9, 17, 8023]), (83, .aload_n 0, 84, []), (84, .getfield 199, 87, [0, 9, 8, 8014]), (87, .if_icmp .ge 7, 90, [94]), (90, .iconst 1, 91, []), (91, .goto 4, 94, [95]), (94, .iconst 0, 95, []), (95, .putfield 205, 98, [0, 9, 18, 8024])],
  [(98, .aload_n 0, 99, []), (99, .iconst 0, 100, []), (100, .putfield 199, 103, [0, 9, 8, 8014]), (103, .aload_n 0, 104, []), (104, .aload_n 0, 105, []), (105, .getfield 205, 108, [0, 9, 18, 8024]), (108, .ifCond .eq 10, 111, [118]), (111, .aload_n 0, 112, [])],
  [(112, .getfield 202, 115, [0, 9, 17, 8023]), (115, .goto 4, 118, [119]), (118, .iconst (-1), 119, []), (119, .putfield 29, 122, [0, 9, 9, 8015]), (122, .aload_n 0, 123, []), (123, .getfield 205, 126, [0, 9, 18, 8024]), (126, .ifCond .eq 9, 129, [135])],
  [(129, .aload_n 0, 130, []), (130, .iconst 1, 131, []), (131, .invokevirtual 54, 134, [0, 164, 1, 8097]), (134, .ireturn, 135, []), (135, .aload_n 0, 136, []), (136, .invokevirtual 83, 139, [0, 167, 0, 8076]), (139, .iconst 0, 140, []), (140, .istore_n 3, 141, []), (141, .iload_n 3, 142, []), (142, .iload_n 1, 143, []), (143, .if_icmp .ge 35, 146, [178])],
  [(146, .aload_n 0, 147, []), (147, .iconst 4, 148, []), (148, .iload_n 3, 149, []), (149, .imul, 150, []), (150, .invokevirtual 230, 153, [0, 242, 1, 9152]), (153, .istore 4, 155, []), (155, .aload_n 0, 156, []), (156, .getfield 39, 159, [0, 9, 16, 8022]), (159, .ifCond .eq 13, 162, [172])],
  [(162, .aload_n 0, 163, []), (163, .aload_n 0, 164, []), (164, .iload_n 3, 165, []), (165, .invokevirtual 233, 168, [0, 243, 1, 9156]), (168, .invokevirtual 89, 171, [0, 168, 1, 8105]), (171, .ireturn, 172, []), (172, .iinc 3 1, 175, []), (175, .goto (-34), 178, [141])],
  [(178, .aload_n 0, 179, []), (179, .aload_n 0, 180, []), (180, .iload_n 1, 181, []), (181, .invokevirtual 80, 184, [0, 163, 1, 8101]), (184, .invokevirtual 89, 187, [0, 168, 1, 8105]), (187, .ireturn, 188, [])]]
noncomputable def z_r244 : List (List (List z_Row)) := [z_r244_0]
-- ClockParliamentModel.faultPosition()I
set_option maxRecDepth 20000 in
noncomputable def z_r245_0 : List (List z_Row) := [[(0, .aload_n 0, 1, []), (1, .aload_n 0, 2, []), (2, .getfield 29, 5, [0, 9, 9, 8015]), (5, .invokevirtual 80, 8, [0, 163, 1, 8101]), (8, .ireturn, 9, [])]]
noncomputable def z_r245 : List (List (List z_Row)) := [z_r245_0]
-- ClockParliamentModel.reason(IZ)I
set_option maxRecDepth 20000 in
noncomputable def z_r246_0 : List (List z_Row) := [[(0, .iload_n 1, 1, []), (1, .iconst 0, 2, []), (2, .iconst 1, 3, []), (3, .invokestatic 65, 6, [1, 162, 3, 8090]), (6, .ifCond .ne 9, 9, [15]), (9, .aload_n 0, 10, []), (10, .iconst 1, 11, []), (11, .invokevirtual 54, 14, [0, 164, 1, 8097]), (14, .ireturn, 15, []), (15, .iload_n 1, 16, [])],
  [(16, .ifCond .ne 10, 19, [26]), (19, .aload_n 0, 20, []), (20, .getfield 42, 23, [0, 9, 10, 8016]), (23, .goto 7, 26, [30]), (26, .aload_n 0, 27, []), (27, .getfield 48, 30, [0, 9, 12, 8018]), (30, .istore_n 3, 31, []), (31, .iload_n 3, 32, [])],
  [(32, .ifCond .ne 9, 35, [41]), (35, .aload_n 0, 36, []), (36, .iconst 2, 37, []), (37, .invokevirtual 54, 40, [0, 164, 1, 8097]), (40, .ireturn, 41, []), (41, .aload_n 0, 42, []), (42, .iload_n 2, 43, []), (43, .ifCond .ne 7, 46, [50]), (46, .iload_n 3, 47, []), (47, .goto 18, 50, [65])],
  [(50, .iload_n 1, 51, []), (51, .ifCond .ne 10, 54, [61]), (54, .aload_n 0, 55, []), (55, .getfield 45, 58, [0, 9, 11, 8017]), (58, .goto 7, 61, [65]), (61, .aload_n 0, 62, []), (62, .getfield 51, 65, [0, 9, 13, 8019])],
  [(65, .invokevirtual 80, 68, [0, 163, 1, 8101]), (68, .ireturn, 69, [])]]
noncomputable def z_r246 : List (List (List z_Row)) := [z_r246_0]
-- ClockParliamentModel.writes(I)V
set_option maxRecDepth 20000 in
noncomputable def z_r247_0 : List (List z_Row) := [[(0, .aload_n 0, 1, []), (1, .getfield 33, 4, [0, 9, 14, 8020]), (4, .aload_n 0, 5, []), (5, .getfield 236, 8, [0, 9, 15, 8021]), (8, .iload_n 1, 9, []), (9, .i2c, 10, []), (10, .castore, 11, []), (11, .aload_n 0, 12, []), (12, .dup, 13, []), (13, .getfield 236, 16, [0, 9, 15, 8021])],
  [(16, .iconst 1, 17, []), (17, .iadd, 18, []), (18, .putfield 236, 21, [0, 9, 15, 8021]), (21, .return_, 22, [])]]
noncomputable def z_r247 : List (List (List z_Row)) := [z_r247_0]
-- ClockParliamentModel.writesBehind(II)V
set_option maxRecDepth 20000 in
noncomputable def z_r248_0 : List (List z_Row) := [[(0, .aload_n 0, 1, []), (1, .iload_n 1, 2, []), (2, .invokevirtual 239, 5, [0, 247, 1, 9172]), (5, .iload_n 2, 6, []), (6, .bipush 9, 8, []), (8, .if_icmp .le 14, 11, [22]), (11, .aload_n 0, 12, []), (12, .bipush 48, 14, []), (14, .iload_n 2, 15, []), (15, .bipush 10, 17, [])],
  [(17, .idiv, 18, []), (18, .iadd, 19, []), (19, .invokevirtual 239, 22, [0, 247, 1, 9172]), (22, .aload_n 0, 23, []), (23, .bipush 48, 25, []), (25, .iload_n 2, 26, []), (26, .bipush 10, 28, []), (28, .irem, 29, []), (29, .iadd, 30, []), (30, .invokevirtual 239, 33, [0, 247, 1, 9172])],
  [(33, .return_, 34, [])]]
noncomputable def z_r248 : List (List (List z_Row)) := [z_r248_0]
-- ClockParliamentModel.tell(I)I
set_option maxRecDepth 20000 in
noncomputable def z_r249_0 : List (List z_Row) := [[(0, .aload_n 0, 1, []), (1, .iload_n 1, 2, []), (2, .invokevirtual 92, 5, [0, 169, 1, 8117]), (5, .ifCond .ne 9, 8, [14]), (8, .aload_n 0, 9, []), (9, .iconst 1, 10, []), (10, .invokevirtual 54, 13, [0, 164, 1, 8097]), (13, .ireturn, 14, []), (14, .aload_n 0, 15, []), (15, .iconst 0, 16, [])],
  [(16, .putfield 236, 19, [0, 9, 15, 8021]), (19, .aload_n 0, 20, []), (20, .bipush 48, 22, []), (22, .iload_n 1, 23, []), (23, .iadd, 24, []), (24, .invokevirtual 239, 27, [0, 247, 1, 9172]), (27, .aload_n 0, 28, []), (28, .bipush 58, 30, []), (30, .aload_n 0, 31, []), (31, .getfield 7, 34, [0, 9, 0, 8006])],
  [(34, .bipush 10, 36, []), (36, .iload_n 1, 37, []), (37, .iadd, 38, []), (38, .iaload, 39, []), (39, .invokevirtual 242, 42, [0, 248, 2, 9176]), (42, .aload_n 0, 43, []), (43, .bipush 126, 45, []), (45, .aload_n 0, 46, []), (46, .getfield 7, 49, [0, 9, 0, 8006])],
  [(49, .bipush 18, 51, []), (51, .iload_n 1, 52, []), (52, .iadd, 53, []), (53, .iaload, 54, []), (54, .invokevirtual 242, 57, [0, 248, 2, 9176]), (57, .aload_n 0, 58, []), (58, .bipush 60, 60, []), (60, .aload_n 0, 61, []), (61, .getfield 7, 64, [0, 9, 0, 8006])],
  [(64, .bipush 26, 66, []), (66, .iload_n 1, 67, []), (67, .iadd, 68, []), (68, .iaload, 69, []), (69, .invokevirtual 242, 72, [0, 248, 2, 9176]), (72, .iconst 0, 73, []), (73, .istore_n 2, 74, []), (74, .iload_n 2, 75, []), (75, .iconst 3, 76, []), (76, .if_icmp .ge 31, 79, [107]), (79, .aload_n 0, 80, [])],
  [(80, .getfield 7, 83, [0, 9, 0, 8006]), (83, .bipush 42, 85, []), (85, .iload_n 2, 86, []), (86, .iadd, 87, []), (87, .iaload, 88, []), (88, .iload_n 1, 89, []), (89, .iconst 1, 90, []), (90, .iadd, 91, []), (91, .if_icmp .ne 10, 94, [101]), (94, .aload_n 0, 95, []), (95, .bipush 107, 97, [])],
  [(97, .iload_n 2, 98, []), (98, .invokevirtual 242, 101, [0, 248, 2, 9176]), (101, .iinc 2 1, 104, []), (104, .goto (-30), 107, [74]), (107, .aload_n 0, 108, []), (108, .aload_n 0, 109, []), (109, .getfield 236, 112, [0, 9, 15, 8021])],
  [(112, .invokevirtual 80, 115, [0, 163, 1, 8101]), (115, .ireturn, 116, [])]]
noncomputable def z_r249 : List (List (List z_Row)) := [z_r249_0]
-- ClockParliamentModel.tellBill(I)I
set_option maxRecDepth 20000 in
noncomputable def z_r250_0 : List (List z_Row) := [[(0, .aload_n 0, 1, []), (1, .iload_n 1, 2, []), (2, .invokevirtual 131, 5, [0, 170, 1, 8178]), (5, .ifCond .ne 9, 8, [14]), (8, .aload_n 0, 9, []), (9, .iconst 1, 10, []), (10, .invokevirtual 54, 13, [0, 164, 1, 8097]), (13, .ireturn, 14, []), (14, .aload_n 0, 15, []), (15, .iconst 0, 16, [])],
  [(16, .putfield 236, 19, [0, 9, 15, 8021]), (19, .aload_n 0, 20, []), (20, .bipush 48, 22, []), (22, .iload_n 1, 23, []), (23, .iadd, 24, []), (24, .invokevirtual 239, 27, [0, 247, 1, 9172]), (27, .aload_n 0, 28, []), (28, .bipush 64, 30, []), (30, .aload_n 0, 31, []), (31, .getfield 7, 34, [0, 9, 0, 8006])],
  [(34, .bipush 55, 36, []), (36, .iload_n 1, 37, []), (37, .iadd, 38, []), (38, .iaload, 39, []), (39, .invokevirtual 242, 42, [0, 248, 2, 9176]), (42, .aload_n 0, 43, []), (43, .bipush 43, 45, []), (45, .aload_n 0, 46, []), (46, .getfield 7, 49, [0, 9, 0, 8006])],
  [(49, .bipush 65, 51, []), (51, .iload_n 1, 52, []), (52, .iadd, 53, []), (53, .iaload, 54, []), (54, .invokevirtual 242, 57, [0, 248, 2, 9176]), (57, .aload_n 0, 58, []), (58, .getfield 7, 61, [0, 9, 0, 8006]), (61, .bipush 75, 63, []), (63, .iload_n 1, 64, [])],
  [(64, .iadd, 65, []), (65, .iaload, 66, []), (66, .ifCond .le 18, 69, [84]), (69, .aload_n 0, 70, []), (70, .bipush 104, 72, []), (72, .aload_n 0, 73, []), (73, .getfield 7, 76, [0, 9, 0, 8006]), (76, .bipush 75, 78, []), (78, .iload_n 1, 79, []), (79, .iadd, 80, [])],
  [(80, .iaload, 81, []), (81, .invokevirtual 242, 84, [0, 248, 2, 9176]), (84, .aload_n 0, 85, []), (85, .aload_n 0, 86, []), (86, .getfield 236, 89, [0, 9, 15, 8021]), (89, .invokevirtual 80, 92, [0, 163, 1, 8101]), (92, .ireturn, 93, [])]]
noncomputable def z_r250 : List (List (List z_Row)) := [z_r250_0]
-- ClockParliamentModel.tellRow()I
set_option maxRecDepth 20000 in
noncomputable def z_r251_0 : List (List z_Row) := [[(0, .aload_n 0, 1, []), (1, .iconst 0, 2, []), (2, .putfield 236, 5, [0, 9, 15, 8021]), (5, .iconst 0, 6, []), (6, .istore_n 1, 7, []), (7, .iload_n 1, 8, []), (8, .aload_n 0, 9, []), (9, .getfield 7, 12, [0, 9, 0, 8006]), (12, .bipush 9, 14, []), (14, .iaload, 15, []), (15, .if_icmp .ge 35, 18, [50])],
  [(18, .iload_n 1, 19, []), (19, .ifCond .le 9, 22, [28]), (22, .aload_n 0, 23, []), (23, .bipush 32, 25, []), (25, .invokevirtual 239, 28, [0, 247, 1, 9172]), (28, .aload_n 0, 29, []), (29, .bipush 48, 31, []), (31, .aload_n 0, 32, [])],
  [(32, .getfield 7, 35, [0, 9, 0, 8006]), (35, .bipush 95, 37, []), (37, .iload_n 1, 38, []), (38, .iadd, 39, []), (39, .iaload, 40, []), (40, .iadd, 41, []), (41, .invokevirtual 239, 44, [0, 247, 1, 9172]), (44, .iinc 1 1, 47, []), (47, .goto (-40), 50, [7])],
  [(50, .aload_n 0, 51, []), (51, .aload_n 0, 52, []), (52, .getfield 236, 55, [0, 9, 15, 8021]), (55, .invokevirtual 80, 58, [0, 163, 1, 8101]), (58, .ireturn, 59, [])]]
noncomputable def z_r251 : List (List (List z_Row)) := [z_r251_0]
-- ClockParliamentModel.character(I)C
set_option maxRecDepth 20000 in
noncomputable def z_r252_0 : List (List z_Row) := [[(0, .aload_n 0, 1, []), (1, .iload_n 1, 2, []), (2, .iconst 0, 3, []), (3, .aload_n 0, 4, []), (4, .getfield 236, 7, [0, 9, 15, 8021]), (7, .iconst 1, 8, []), (8, .isub, 9, []), (9, .invokestatic 65, 12, [1, 162, 3, 8090]), (12, .ifCond .eq 7, 15, [19]), (15, .iconst 0, 16, [])],
  [(16, .goto 4, 19, [20]), (19, .iconst 1, 20, []), (20, .putfield 39, 23, [0, 9, 16, 8022]), (23, .aload_n 0, 24, []), (24, .getfield 39, 27, [0, 9, 16, 8022]), (27, .ifCond .ne 12, 30, [39]), (30, .aload_n 0, 31, []), (31, .getfield 33, 34, [0, 9, 14, 8020])],
  [(34, .iload_n 1, 35, []), (35, .caload, 36, []), (36, .goto 4, 39, [40]), (39, .iconst 0, 40, []), (40, .ireturn, 41, [])]]
noncomputable def z_r252 : List (List (List z_Row)) := [z_r252_0]
-- ClockParliamentModel.silent()I
set_option maxRecDepth 20000 in
noncomputable def z_r253_0 : List (List z_Row) := [[(0, .iconst 0, 1, []), (1, .istore_n 1, 2, []), (2, .iconst 0, 3, []), (3, .istore_n 2, 4, []), (4, .iload_n 2, 5, []), (5, .aload_n 0, 6, []), (6, .getfield 7, 9, [0, 9, 0, 8006]), (9, .iconst 0, 10, []), (10, .iaload, 11, []), (11, .if_icmp .ge 29, 14, [40]), (14, .iload_n 1, 15, []), (15, .aload_n 0, 16, [])],
  [(16, .getfield 7, 19, [0, 9, 0, 8006]), (19, .bipush 18, 21, []), (21, .iload_n 2, 22, []), (22, .iadd, 23, []), (23, .iaload, 24, []), (24, .ifCond .ne 7, 27, [31]), (27, .iconst 1, 28, []), (28, .goto 4, 31, [32]), (31, .iconst 0, 32, [])],
  [(32, .iadd, 33, []), (33, .istore_n 1, 34, []), (34, .iinc 2 1, 37, []), (37, .goto (-33), 40, [4]), (40, .iload_n 1, 41, []), (41, .ireturn, 42, [])]]
noncomputable def z_r253 : List (List (List z_Row)) := [z_r253_0]
-- ClockParliamentModel.springs()I
set_option maxRecDepth 20000 in
noncomputable def z_r254_0 : List (List z_Row) := [[(0, .iconst 0, 1, []), (1, .istore_n 1, 2, []), (2, .iconst 0, 3, []), (3, .istore_n 2, 4, []), (4, .iload_n 2, 5, []), (5, .aload_n 0, 6, []), (6, .getfield 7, 9, [0, 9, 0, 8006]), (9, .iconst 0, 10, []), (10, .iaload, 11, []), (11, .if_icmp .ge 21, 14, [32]), (14, .iload_n 1, 15, []), (15, .aload_n 0, 16, [])],
  [(16, .getfield 7, 19, [0, 9, 0, 8006]), (19, .bipush 18, 21, []), (21, .iload_n 2, 22, []), (22, .iadd, 23, []), (23, .iaload, 24, []), (24, .iadd, 25, []), (25, .istore_n 1, 26, []), (26, .iinc 2 1, 29, []), (29, .goto (-25), 32, [4])],
  [(32, .iload_n 1, 33, []), (33, .ireturn, 34, [])]]
noncomputable def z_r254 : List (List (List z_Row)) := [z_r254_0]
-- ClockParliamentModel.account(I)I
set_option maxRecDepth 20000 in
noncomputable def z_r255_0 : List (List z_Row) := [[(0, .iload_n 1, 1, []), (1, .tableswitch 165 0 13 #[71, 82, 91, 102, 111, 122, 131, 131, 131, 131, 131, 131, 147, 156], 72, [166, 72, 83, 92, 103, 112, 123, 132, 132, 132, 132, 132, 132, 148, 157])],
  [],
  [],
  [],
  [(72, .aload_n 0, 73, []), (73, .aload_n 0, 74, []), (74, .getfield 7, 77, [0, 9, 0, 8006]), (77, .iconst 0, 78, []), (78, .iaload, 79, []), (79, .invokevirtual 80, 82, [0, 163, 1, 8101])],
  [(82, .ireturn, 83, []), (83, .aload_n 0, 84, []), (84, .aload_n 0, 85, []), (85, .invokevirtual 245, 88, [0, 253, 0, 9196]), (88, .invokevirtual 80, 91, [0, 163, 1, 8101]), (91, .ireturn, 92, []), (92, .aload_n 0, 93, []), (93, .aload_n 0, 94, []), (94, .getfield 7, 97, [0, 9, 0, 8006])],
  [(97, .iconst 1, 98, []), (98, .iaload, 99, []), (99, .invokevirtual 80, 102, [0, 163, 1, 8101]), (102, .ireturn, 103, []), (103, .aload_n 0, 104, []), (104, .aload_n 0, 105, []), (105, .invokevirtual 138, 108, [0, 192, 0, 8194]), (108, .invokevirtual 80, 111, [0, 163, 1, 8101]), (111, .ireturn, 112, [])],
  [(112, .aload_n 0, 113, []), (113, .aload_n 0, 114, []), (114, .getfield 7, 117, [0, 9, 0, 8006]), (117, .iconst 2, 118, []), (118, .iaload, 119, []), (119, .invokevirtual 80, 122, [0, 163, 1, 8101]), (122, .ireturn, 123, []), (123, .aload_n 0, 124, []), (124, .aload_n 0, 125, []), (125, .invokevirtual 248, 128, [0, 254, 0, 9200])],
  [(128, .invokevirtual 80, 131, [0, 163, 1, 8101]), (131, .ireturn, 132, []), (132, .aload_n 0, 133, []), (133, .aload_n 0, 134, []), (134, .getfield 7, 137, [0, 9, 0, 8006]), (137, .iconst 3, 138, []), (138, .iload_n 1, 139, []), (139, .iadd, 140, []), (140, .bipush 6, 142, []), (142, .isub, 143, []), (143, .iaload, 144, [])],
  [(144, .invokevirtual 80, 147, [0, 163, 1, 8101]), (147, .ireturn, 148, []), (148, .aload_n 0, 149, []), (149, .aload_n 0, 150, []), (150, .getfield 199, 153, [0, 9, 8, 8014]), (153, .invokevirtual 80, 156, [0, 163, 1, 8101]), (156, .ireturn, 157, []), (157, .aload_n 0, 158, []), (158, .aload_n 0, 159, []), (159, .getfield 62, 162, [0, 9, 4, 8010])],
  [(162, .invokevirtual 80, 165, [0, 163, 1, 8101]), (165, .ireturn, 166, []), (166, .aload_n 0, 167, []), (167, .iconst 1, 168, []), (168, .invokevirtual 54, 171, [0, 164, 1, 8097]), (171, .ireturn, 172, [])]]
noncomputable def z_r255 : List (List (List z_Row)) := [z_r255_0]
-- ClockParliamentModel.meanSpring()D
set_option maxRecDepth 20000 in
noncomputable def z_r256_0 : List (List z_Row) := [[(0, .aload_n 0, 1, []), (1, .aload_n 0, 2, []), (2, .getfield 7, 5, [0, 9, 0, 8006]), (5, .iconst 0, 6, []), (6, .iaload, 7, []), (7, .ifCond .ne 7, 10, [14]), (10, .iconst 1, 11, []), (11, .goto 4, 14, [15]), (14, .iconst 0, 15, []), (15, .putfield 39, 18, [0, 9, 16, 8022])],
  [(18, .aload_n 0, 19, []), (19, .getfield 39, 22, [0, 9, 16, 8022]), (22, .ifCond .ne 19, 25, [41]), (25, .aload_n 0, 26, []), (26, .invokevirtual 248, 29, [0, 254, 0, 9200]), (29, .i2d, 30, []), (30, .aload_n 0, 31, []), (31, .getfield 7, 34, [0, 9, 0, 8006])],
  [(34, .iconst 0, 35, []), (35, .iaload, 36, []), (36, .i2d, 37, []), (37, .ddiv, 38, []), (38, .goto 4, 41, [42]), (41, .dconst 0, 42, []), (42, .dreturn, 43, [])]]
noncomputable def z_r256 : List (List (List z_Row)) := [z_r256_0]
-- ClockParliamentModel.carriedShare()F
set_option maxRecDepth 20000 in
noncomputable def z_r257_0 : List (List z_Row) := [[(0, .aload_n 0, 1, []), (1, .aload_n 0, 2, []), (2, .getfield 7, 5, [0, 9, 0, 8006]), (5, .iconst 3, 6, []), (6, .iaload, 7, []), (7, .ifCond .ne 7, 10, [14]), (10, .iconst 1, 11, []), (11, .goto 4, 14, [15]), (14, .iconst 0, 15, []), (15, .putfield 39, 18, [0, 9, 16, 8022])],
  [(18, .aload_n 0, 19, []), (19, .getfield 39, 22, [0, 9, 16, 8022]), (22, .ifCond .ne 21, 25, [43]), (25, .aload_n 0, 26, []), (26, .getfield 7, 29, [0, 9, 0, 8006]), (29, .iconst 4, 30, []), (30, .iaload, 31, []), (31, .i2f, 32, [])],
  [(32, .aload_n 0, 33, []), (33, .getfield 7, 36, [0, 9, 0, 8006]), (36, .iconst 3, 37, []), (37, .iaload, 38, []), (38, .i2f, 39, []), (39, .fdiv, 40, []), (40, .goto 4, 43, [44]), (43, .fconst 0, 44, []), (44, .freturn, 45, [])]]
noncomputable def z_r257 : List (List (List z_Row)) := [z_r257_0]
-- ClockParliamentModel.undo()I
set_option maxRecDepth 20000 in
noncomputable def z_r258_0 : List (List z_Row) := [[(0, .aload_n 0, 1, []), (1, .getfield 62, 4, [0, 9, 4, 8010]), (4, .ifCond .ne 9, 7, [13]), (7, .aload_n 0, 8, []), (8, .iconst 1, 9, []), (9, .invokevirtual 54, 12, [0, 164, 1, 8097]), (12, .ireturn, 13, []), (13, .aload_n 0, 14, []), (14, .dup, 15, []), (15, .getfield 62, 18, [0, 9, 4, 8010])],
  [(18, .iconst 1, 19, []), (19, .isub, 20, []), (20, .putfield 62, 23, [0, 9, 4, 8010]), (23, .aload_n 0, 24, []), (24, .getfield 19, 27, [0, 9, 3, 8009]), (27, .aload_n 0, 28, []), (28, .getfield 62, 31, [0, 9, 4, 8010]), (31, .bipush 105, 33, [])],
  [(33, .imul, 34, []), (34, .aload_n 0, 35, []), (35, .getfield 7, 38, [0, 9, 0, 8006]), (38, .iconst 0, 39, []), (39, .invokestatic 58, 42, [1, 166, 4, 8080]), (42, .aload_n 0, 43, []), (43, .aload_n 0, 44, []), (44, .getfield 62, 47, [0, 9, 4, 8010]), (47, .invokevirtual 80, 50, [0, 163, 1, 8101])],
  [(50, .ireturn, 51, [])]]
noncomputable def z_r258 : List (List (List z_Row)) := [z_r258_0]
-- ClockParliamentModel.save()I
set_option maxRecDepth 20000 in
noncomputable def z_r259_0 : List (List z_Row) := [[(0, .aload_n 0, 1, []), (1, .getfield 7, 4, [0, 9, 0, 8006]), (4, .iconst 0, 5, []), (5, .aload_n 0, 6, []), (6, .getfield 22, 9, [0, 9, 5, 8011]), (9, .iconst 0, 10, []), (10, .invokestatic 58, 13, [1, 166, 4, 8080]), (13, .aload_n 0, 14, []), (14, .iconst 1, 15, []), (15, .putfield 251, 18, [0, 9, 6, 8012])],
  [(18, .aload_n 0, 19, []), (19, .aload_n 0, 20, []), (20, .getfield 7, 23, [0, 9, 0, 8006]), (23, .iconst 0, 24, []), (24, .iaload, 25, []), (25, .invokevirtual 80, 28, [0, 163, 1, 8101]), (28, .ireturn, 29, [])]]
noncomputable def z_r259 : List (List (List z_Row)) := [z_r259_0]
-- ClockParliamentModel.restore()I
set_option maxRecDepth 20000 in
noncomputable def z_r260_0 : List (List z_Row) := [[(0, .aload_n 0, 1, []), (1, .getfield 251, 4, [0, 9, 6, 8012]), (4, .ifCond .ne 9, 7, [13]), (7, .aload_n 0, 8, []), (8, .iconst 1, 9, []), (9, .invokevirtual 54, 12, [0, 164, 1, 8097]), (12, .ireturn, 13, []), (13, .aload_n 0, 14, []), (14, .getfield 22, 17, [0, 9, 5, 8011])],
  [(17, .iconst 0, 18, []), (18, .aload_n 0, 19, []), (19, .getfield 7, 22, [0, 9, 0, 8006]), (22, .iconst 0, 23, []), (23, .invokestatic 58, 26, [1, 166, 4, 8080]), (26, .aload_n 0, 27, []), (27, .iconst 0, 28, []), (28, .putfield 62, 31, [0, 9, 4, 8010]), (31, .aload_n 0, 32, [])],
  [(32, .aload_n 0, 33, []), (33, .getfield 7, 36, [0, 9, 0, 8006]), (36, .iconst 0, 37, []), (37, .iaload, 38, []), (38, .invokevirtual 80, 41, [0, 163, 1, 8101]), (41, .ireturn, 42, [])]]
noncomputable def z_r260 : List (List (List z_Row)) := [z_r260_0]
-- ClockParliamentLaw.clock(LClockParliament;II[J)I
set_option maxRecDepth 20000 in
noncomputable def z_r261_0 : List (List z_Row) := [[(0, .aload_n 3, 1, []), (1, .iconst 0, 2, []), (2, .aload_n 0, 3, []), (3, .iload_n 1, 4, []), (4, .iload_n 2, 5, []), (5, .invokevirtual 7, 8, [0, 104, 2, 4172]), (8, .i2l, 9, []), (9, .lastore, 10, []), (10, .goto 7, 13, [17]), (13, .astore 4, 15, []), (15, .iconst 1, 16, [])],
  [(16, .ireturn, 17, []), (17, .iconst 0, 18, []), (18, .ireturn, 19, [])]]
noncomputable def z_r261 : List (List (List z_Row)) := [z_r261_0]
-- ClockParliamentLaw.leave(LClockParliament;I[J)I
set_option maxRecDepth 20000 in
noncomputable def z_r262_0 : List (List z_Row) := [[(0, .aload_n 2, 1, []), (1, .iconst 0, 2, []), (2, .aload_n 0, 3, []), (3, .iload_n 1, 4, []), (4, .invokevirtual 15, 7, [0, 105, 1, 5143]), (7, .i2l, 8, []), (8, .lastore, 9, []), (9, .goto 6, 12, [15]), (12, .astore_n 3, 13, []), (13, .iconst 1, 14, []), (14, .ireturn, 15, []), (15, .iconst 0, 16, [])],
  [(16, .ireturn, 17, [])]]
noncomputable def z_r262 : List (List (List z_Row)) := [z_r262_0]
-- ClockParliamentLaw.key(LClockParliament;II[J)I
set_option maxRecDepth 20000 in
noncomputable def z_r263_0 : List (List z_Row) := [[(0, .aload_n 3, 1, []), (1, .iconst 0, 2, []), (2, .aload_n 0, 3, []), (3, .iload_n 1, 4, []), (4, .iload_n 2, 5, []), (5, .invokevirtual 19, 8, [0, 106, 2, 5152]), (8, .i2l, 9, []), (9, .lastore, 10, []), (10, .goto 7, 13, [17]), (13, .astore 4, 15, []), (15, .iconst 1, 16, [])],
  [(16, .ireturn, 17, []), (17, .iconst 0, 18, []), (18, .ireturn, 19, [])]]
noncomputable def z_r263 : List (List (List z_Row)) := [z_r263_0]
-- ClockParliamentLaw.wind(LClockParliament;II[J)I
set_option maxRecDepth 20000 in
noncomputable def z_r264_0 : List (List z_Row) := [[(0, .aload_n 3, 1, []), (1, .iconst 0, 2, []), (2, .aload_n 0, 3, []), (3, .iload_n 1, 4, []), (4, .iload_n 2, 5, []), (5, .invokevirtual 22, 8, [0, 107, 2, 5161]), (8, .i2l, 9, []), (9, .lastore, 10, []), (10, .goto 7, 13, [17]), (13, .astore 4, 15, []), (15, .iconst 1, 16, [])],
  [(16, .ireturn, 17, []), (17, .iconst 0, 18, []), (18, .ireturn, 19, [])]]
noncomputable def z_r264 : List (List (List z_Row)) := [z_r264_0]
-- ClockParliamentLaw.move(LClockParliament;II[J)I
set_option maxRecDepth 20000 in
noncomputable def z_r265_0 : List (List z_Row) := [[(0, .aload_n 3, 1, []), (1, .iconst 0, 2, []), (2, .aload_n 0, 3, []), (3, .iload_n 1, 4, []), (4, .iload_n 2, 5, []), (5, .invokevirtual 25, 8, [0, 108, 2, 5170]), (8, .i2l, 9, []), (9, .lastore, 10, []), (10, .goto 7, 13, [17]), (13, .astore 4, 15, []), (15, .iconst 1, 16, [])],
  [(16, .ireturn, 17, []), (17, .iconst 0, 18, []), (18, .ireturn, 19, [])]]
noncomputable def z_r265 : List (List (List z_Row)) := [z_r265_0]
-- ClockParliamentLaw.bill(LClockParliament;III[J)I
set_option maxRecDepth 20000 in
noncomputable def z_r266_0 : List (List z_Row) := [[(0, .aload 4, 2, []), (2, .iconst 0, 3, []), (3, .aload_n 0, 4, []), (4, .iload_n 1, 5, []), (5, .iload_n 2, 6, []), (6, .iload_n 3, 7, []), (7, .invokevirtual 28, 10, [0, 109, 3, 5179]), (10, .i2l, 11, []), (11, .lastore, 12, []), (12, .goto 7, 15, [19]), (15, .astore 5, 17, [])],
  [(17, .iconst 1, 18, []), (18, .ireturn, 19, []), (19, .iconst 0, 20, []), (20, .ireturn, 21, [])]]
noncomputable def z_r266 : List (List (List z_Row)) := [z_r266_0]
-- ClockParliamentLaw.adjourn(LClockParliament;II[J)I
set_option maxRecDepth 20000 in
noncomputable def z_r267_0 : List (List z_Row) := [[(0, .aload_n 3, 1, []), (1, .iconst 0, 2, []), (2, .aload_n 0, 3, []), (3, .iload_n 1, 4, []), (4, .iload_n 2, 5, []), (5, .invokevirtual 32, 8, [0, 110, 2, 5188]), (8, .i2l, 9, []), (9, .lastore, 10, []), (10, .goto 7, 13, [17]), (13, .astore 4, 15, []), (15, .iconst 1, 16, [])],
  [(16, .ireturn, 17, []), (17, .iconst 0, 18, []), (18, .ireturn, 19, [])]]
noncomputable def z_r267 : List (List (List z_Row)) := [z_r267_0]
-- ClockParliamentLaw.drop(LClockParliament;I[J)I
set_option maxRecDepth 20000 in
noncomputable def z_r268_0 : List (List z_Row) := [[(0, .aload_n 2, 1, []), (1, .iconst 0, 2, []), (2, .aload_n 0, 3, []), (3, .iload_n 1, 4, []), (4, .invokevirtual 35, 7, [0, 111, 1, 5197]), (7, .i2l, 8, []), (8, .lastore, 9, []), (9, .goto 6, 12, [15]), (12, .astore_n 3, 13, []), (13, .iconst 1, 14, []), (14, .ireturn, 15, []), (15, .iconst 0, 16, [])],
  [(16, .ireturn, 17, [])]]
noncomputable def z_r268 : List (List (List z_Row)) := [z_r268_0]
-- ClockParliamentLaw.vote(LClockParliament;[J)I
set_option maxRecDepth 20000 in
noncomputable def z_r269_0 : List (List z_Row) := [[(0, .aload_n 1, 1, []), (1, .iconst 0, 2, []), (2, .aload_n 0, 3, []), (3, .invokevirtual 38, 6, [0, 112, 0, 5206]), (6, .i2l, 7, []), (7, .lastore, 8, []), (8, .goto 6, 11, [14]), (11, .astore_n 2, 12, []), (12, .iconst 1, 13, []), (13, .ireturn, 14, []), (14, .iconst 0, 15, []), (15, .ireturn, 16, [])]]
noncomputable def z_r269 : List (List (List z_Row)) := [z_r269_0]
-- ClockParliamentLaw.hour(LClockParliament;I[J)I
set_option maxRecDepth 20000 in
noncomputable def z_r270_0 : List (List z_Row) := [[(0, .aload_n 2, 1, []), (1, .iconst 0, 2, []), (2, .aload_n 0, 3, []), (3, .iload_n 1, 4, []), (4, .invokevirtual 42, 7, [0, 113, 1, 5214]), (7, .i2l, 8, []), (8, .lastore, 9, []), (9, .goto 6, 12, [15]), (12, .astore_n 3, 13, []), (13, .iconst 1, 14, []), (14, .ireturn, 15, []), (15, .iconst 0, 16, [])],
  [(16, .ireturn, 17, [])]]
noncomputable def z_r270 : List (List (List z_Row)) := [z_r270_0]
-- ClockParliamentLaw.clockOf(LClockParliament;II[J)I
set_option maxRecDepth 20000 in
noncomputable def z_r271_0 : List (List z_Row) := [[(0, .aload_n 3, 1, []), (1, .iconst 0, 2, []), (2, .aload_n 0, 3, []), (3, .iload_n 1, 4, []), (4, .iload_n 2, 5, []), (5, .invokevirtual 45, 8, [0, 115, 2, 5227]), (8, .i2l, 9, []), (9, .lastore, 10, []), (10, .goto 11, 13, [21]), (13, .astore 4, 15, []), (15, .iconst 1, 16, [])],
  [(16, .ireturn, 17, []), (17, .astore 4, 19, []), (19, .iconst 2, 20, []), (20, .ireturn, 21, []), (21, .iconst 0, 22, []), (22, .ireturn, 23, [])]]
noncomputable def z_r271 : List (List (List z_Row)) := [z_r271_0]
-- ClockParliamentLaw.billOf(LClockParliament;II[J)I
set_option maxRecDepth 20000 in
noncomputable def z_r272_0 : List (List z_Row) := [[(0, .aload_n 3, 1, []), (1, .iconst 0, 2, []), (2, .aload_n 0, 3, []), (3, .iload_n 1, 4, []), (4, .iload_n 2, 5, []), (5, .invokevirtual 52, 8, [0, 116, 2, 6021]), (8, .i2l, 9, []), (9, .lastore, 10, []), (10, .goto 11, 13, [21]), (13, .astore 4, 15, []), (15, .iconst 1, 16, [])],
  [(16, .ireturn, 17, []), (17, .astore 4, 19, []), (19, .iconst 2, 20, []), (20, .ireturn, 21, []), (21, .iconst 0, 22, []), (22, .ireturn, 23, [])]]
noncomputable def z_r272 : List (List (List z_Row)) := [z_r272_0]
-- ClockParliamentLaw.keeper(LClockParliament;I[J)I
set_option maxRecDepth 20000 in
noncomputable def z_r273_0 : List (List z_Row) := [[(0, .aload_n 2, 1, []), (1, .iconst 0, 2, []), (2, .aload_n 0, 3, []), (3, .iload_n 1, 4, []), (4, .invokevirtual 55, 7, [0, 117, 1, 6035]), (7, .i2l, 8, []), (8, .lastore, 9, []), (9, .goto 6, 12, [15]), (12, .astore_n 3, 13, []), (13, .iconst 1, 14, []), (14, .ireturn, 15, []), (15, .iconst 0, 16, [])],
  [(16, .ireturn, 17, [])]]
noncomputable def z_r273 : List (List (List z_Row)) := [z_r273_0]
-- ClockParliamentLaw.doAgree(LClockParliament;II[J)I
set_option maxRecDepth 20000 in
noncomputable def z_r274_0 : List (List z_Row) := [[(0, .aload_n 3, 1, []), (1, .iconst 0, 2, []), (2, .aload_n 0, 3, []), (3, .iload_n 1, 4, []), (4, .iload_n 2, 5, []), (5, .invokevirtual 58, 8, [0, 118, 2, 6043]), (8, .ifCond .eq 7, 11, [15]), (11, .lconst 1, 12, []), (12, .goto 4, 15, [16]), (15, .lconst 0, 16, [])],
  [(16, .lastore, 17, []), (17, .goto 7, 20, [24]), (20, .astore 4, 22, []), (22, .iconst 1, 23, []), (23, .ireturn, 24, []), (24, .iconst 0, 25, []), (25, .ireturn, 26, [])]]
noncomputable def z_r274 : List (List (List z_Row)) := [z_r274_0]
-- ClockParliamentLaw.apart(LClockParliament;II[J)I
set_option maxRecDepth 20000 in
noncomputable def z_r275_0 : List (List z_Row) := [[(0, .aload_n 3, 1, []), (1, .iconst 0, 2, []), (2, .aload_n 0, 3, []), (3, .iload_n 1, 4, []), (4, .iload_n 2, 5, []), (5, .invokevirtual 62, 8, [0, 119, 2, 6051]), (8, .i2l, 9, []), (9, .lastore, 10, []), (10, .goto 7, 13, [17]), (13, .astore 4, 15, []), (15, .iconst 1, 16, [])],
  [(16, .ireturn, 17, []), (17, .iconst 0, 18, []), (18, .ireturn, 19, [])]]
noncomputable def z_r275 : List (List (List z_Row)) := [z_r275_0]
-- ClockParliamentLaw.row(LClockParliament;I[J)I
set_option maxRecDepth 20000 in
noncomputable def z_r276_0 : List (List z_Row) := [[(0, .aload_n 2, 1, []), (1, .iconst 0, 2, []), (2, .aload_n 0, 3, []), (3, .iload_n 1, 4, []), (4, .invokevirtual 65, 7, [0, 122, 1, 6060]), (7, .i2l, 8, []), (8, .lastore, 9, []), (9, .goto 6, 12, [15]), (12, .astore_n 3, 13, []), (13, .iconst 1, 14, []), (14, .ireturn, 15, []), (15, .iconst 0, 16, [])],
  [(16, .ireturn, 17, [])]]
noncomputable def z_r276 : List (List (List z_Row)) := [z_r276_0]
-- ClockParliamentLaw.rowIn(LClockParliament;II[J)I
set_option maxRecDepth 20000 in
noncomputable def z_r277_0 : List (List z_Row) := [[(0, .aload_n 3, 1, []), (1, .iconst 0, 2, []), (2, .aload_n 0, 3, []), (3, .iload_n 1, 4, []), (4, .iload_n 2, 5, []), (5, .invokevirtual 70, 8, [0, 123, 2, 6087]), (8, .i2l, 9, []), (9, .lastore, 10, []), (10, .goto 11, 13, [21]), (13, .astore 4, 15, []), (15, .iconst 1, 16, [])],
  [(16, .ireturn, 17, []), (17, .astore 4, 19, []), (19, .iconst 2, 20, []), (20, .ireturn, 21, []), (21, .iconst 0, 22, []), (22, .ireturn, 23, [])]]
noncomputable def z_r277 : List (List (List z_Row)) := [z_r277_0]
-- ClockParliamentLaw.rowAgain(LClockParliament;II[J)I
set_option maxRecDepth 20000 in
noncomputable def z_r278_0 : List (List z_Row) := [[(0, .aload_n 3, 1, []), (1, .iconst 0, 2, []), (2, .aload_n 0, 3, []), (3, .iload_n 1, 4, []), (4, .iload_n 2, 5, []), (5, .invokevirtual 73, 8, [0, 124, 2, 6099]), (8, .i2l, 9, []), (9, .lastore, 10, []), (10, .goto 11, 13, [21]), (13, .astore 4, 15, []), (15, .iconst 1, 16, [])],
  [(16, .ireturn, 17, []), (17, .astore 4, 19, []), (19, .iconst 2, 20, []), (20, .ireturn, 21, []), (21, .iconst 0, 22, []), (22, .ireturn, 23, [])]]
noncomputable def z_r278 : List (List (List z_Row)) := [z_r278_0]
-- ClockParliamentLaw.next(LClockParliament;[J)I
set_option maxRecDepth 20000 in
noncomputable def z_r279_0 : List (List z_Row) := [[(0, .aload_n 1, 1, []), (1, .iconst 0, 2, []), (2, .aload_n 0, 3, []), (3, .invokevirtual 76, 6, [0, 125, 0, 6106]), (6, .i2l, 7, []), (7, .lastore, 8, []), (8, .goto 6, 11, [14]), (11, .astore_n 2, 12, []), (12, .iconst 1, 13, []), (13, .ireturn, 14, []), (14, .iconst 0, 15, []), (15, .ireturn, 16, [])]]
noncomputable def z_r279 : List (List (List z_Row)) := [z_r279_0]
-- ClockParliamentLaw.silentIn(LClockParliament;I[J)I
set_option maxRecDepth 20000 in
noncomputable def z_r280_0 : List (List z_Row) := [[(0, .aload_n 2, 1, []), (1, .iconst 0, 2, []), (2, .aload_n 0, 3, []), (3, .iload_n 1, 4, []), (4, .invokevirtual 79, 7, [0, 126, 1, 6118]), (7, .i2l, 8, []), (8, .lastore, 9, []), (9, .goto 6, 12, [15]), (12, .astore_n 3, 13, []), (13, .iconst 1, 14, []), (14, .ireturn, 15, []), (15, .iconst 0, 16, [])],
  [(16, .ireturn, 17, [])]]
noncomputable def z_r280 : List (List (List z_Row)) := [z_r280_0]
-- ClockParliamentLaw.secondIn(LClockParliament;II[J)I
set_option maxRecDepth 20000 in
noncomputable def z_r281_0 : List (List z_Row) := [[(0, .aload_n 3, 1, []), (1, .iconst 0, 2, []), (2, .aload_n 0, 3, []), (3, .iload_n 1, 4, []), (4, .iload_n 2, 5, []), (5, .invokevirtual 82, 8, [0, 127, 2, 6126]), (8, .i2l, 9, []), (9, .lastore, 10, []), (10, .goto 11, 13, [21]), (13, .astore 4, 15, []), (15, .iconst 1, 16, [])],
  [(16, .ireturn, 17, []), (17, .astore 4, 19, []), (19, .iconst 2, 20, []), (20, .ireturn, 21, []), (21, .iconst 0, 22, []), (22, .ireturn, 23, [])]]
noncomputable def z_r281 : List (List (List z_Row)) := [z_r281_0]
-- ClockParliamentLaw.voters(LClockParliament;I[J)I
set_option maxRecDepth 20000 in
noncomputable def z_r282_0 : List (List z_Row) := [[(0, .aload_n 2, 1, []), (1, .iconst 0, 2, []), (2, .aload_n 0, 3, []), (3, .iload_n 1, 4, []), (4, .invokevirtual 85, 7, [0, 131, 1, 6133]), (7, .i2l, 8, []), (8, .lastore, 9, []), (9, .goto 6, 12, [15]), (12, .astore_n 3, 13, []), (13, .iconst 1, 14, []), (14, .ireturn, 15, []), (15, .iconst 0, 16, [])],
  [(16, .ireturn, 17, [])]]
noncomputable def z_r282 : List (List (List z_Row)) := [z_r282_0]
-- ClockParliamentLaw.majority(LClockParliament;I[J)I
set_option maxRecDepth 20000 in
noncomputable def z_r283_0 : List (List z_Row) := [[(0, .aload_n 2, 1, []), (1, .iconst 0, 2, []), (2, .aload_n 0, 3, []), (3, .iload_n 1, 4, []), (4, .invokevirtual 88, 7, [0, 132, 1, 6141]), (7, .i2l, 8, []), (8, .lastore, 9, []), (9, .goto 6, 12, [15]), (12, .astore_n 3, 13, []), (13, .iconst 1, 14, []), (14, .ireturn, 15, []), (15, .iconst 0, 16, [])],
  [(16, .ireturn, 17, [])]]
noncomputable def z_r283 : List (List (List z_Row)) := [z_r283_0]
-- ClockParliamentLaw.majorityAgain(LClockParliament;I[J)I
set_option maxRecDepth 20000 in
noncomputable def z_r284_0 : List (List z_Row) := [[(0, .aload_n 2, 1, []), (1, .iconst 0, 2, []), (2, .aload_n 0, 3, []), (3, .iload_n 1, 4, []), (4, .invokevirtual 91, 7, [0, 133, 1, 6148]), (7, .i2l, 8, []), (8, .lastore, 9, []), (9, .goto 6, 12, [15]), (12, .astore_n 3, 13, []), (13, .iconst 1, 14, []), (14, .ireturn, 15, []), (15, .iconst 0, 16, [])],
  [(16, .ireturn, 17, [])]]
noncomputable def z_r284 : List (List (List z_Row)) := [z_r284_0]
-- ClockParliamentLaw.wouldCarry(LClockParliament;I[J)I
set_option maxRecDepth 20000 in
noncomputable def z_r285_0 : List (List z_Row) := [[(0, .aload_n 2, 1, []), (1, .iconst 0, 2, []), (2, .aload_n 0, 3, []), (3, .iload_n 1, 4, []), (4, .invokevirtual 94, 7, [0, 134, 1, 6155]), (7, .ifCond .eq 7, 10, [14]), (10, .lconst 1, 11, []), (11, .goto 4, 14, [15]), (14, .lconst 0, 15, []), (15, .lastore, 16, [])],
  [(16, .goto 6, 19, [22]), (19, .astore_n 3, 20, []), (20, .iconst 1, 21, []), (21, .ireturn, 22, []), (22, .iconst 0, 23, []), (23, .ireturn, 24, [])]]
noncomputable def z_r285 : List (List (List z_Row)) := [z_r285_0]
-- ClockParliamentLaw.weakest(LClockParliament;[J)I
set_option maxRecDepth 20000 in
noncomputable def z_r286_0 : List (List z_Row) := [[(0, .aload_n 1, 1, []), (1, .iconst 0, 2, []), (2, .aload_n 0, 3, []), (3, .invokevirtual 98, 6, [0, 136, 0, 6162]), (6, .i2l, 7, []), (7, .lastore, 8, []), (8, .goto 6, 11, [14]), (11, .astore_n 2, 12, []), (12, .iconst 1, 13, []), (13, .ireturn, 14, []), (14, .iconst 0, 15, []), (15, .ireturn, 16, [])]]
noncomputable def z_r286 : List (List (List z_Row)) := [z_r286_0]
-- ClockParliamentLaw.circle(LClockParliament;I[J)I
set_option maxRecDepth 20000 in
noncomputable def z_r287_0 : List (List z_Row) := [[(0, .aload_n 2, 1, []), (1, .iconst 0, 2, []), (2, .aload_n 0, 3, []), (3, .iload_n 1, 4, []), (4, .invokevirtual 101, 7, [0, 137, 1, 6174]), (7, .i2l, 8, []), (8, .lastore, 9, []), (9, .goto 6, 12, [15]), (12, .astore_n 3, 13, []), (13, .iconst 1, 14, []), (14, .ireturn, 15, []), (15, .iconst 0, 16, [])],
  [(16, .ireturn, 17, [])]]
noncomputable def z_r287 : List (List (List z_Row)) := [z_r287_0]
-- ClockParliamentLaw.ranked(LClockParliament;II[J)I
set_option maxRecDepth 20000 in
noncomputable def z_r288_0 : List (List z_Row) := [[(0, .aload_n 3, 1, []), (1, .iconst 0, 2, []), (2, .aload_n 0, 3, []), (3, .iload_n 1, 4, []), (4, .iload_n 2, 5, []), (5, .invokevirtual 104, 8, [0, 138, 2, 6187]), (8, .i2l, 9, []), (9, .lastore, 10, []), (10, .goto 11, 13, [21]), (13, .astore 4, 15, []), (15, .iconst 1, 16, [])],
  [(16, .ireturn, 17, []), (17, .astore 4, 19, []), (19, .iconst 2, 20, []), (20, .ireturn, 21, []), (21, .iconst 0, 22, []), (22, .ireturn, 23, [])]]
noncomputable def z_r288 : List (List (List z_Row)) := [z_r288_0]
-- ClockParliamentLaw.append(LClockParliament;C[J)I
set_option maxRecDepth 20000 in
noncomputable def z_r289_0 : List (List z_Row) := [[(0, .aload_n 2, 1, []), (1, .iconst 0, 2, []), (2, .aload_n 0, 3, []), (3, .iload_n 1, 4, []), (4, .invokevirtual 107, 7, [0, 143, 1, 6208]), (7, .i2l, 8, []), (8, .lastore, 9, []), (9, .goto 9, 12, [18]), (12, .astore_n 3, 13, []), (13, .iconst 1, 14, []), (14, .ireturn, 15, []), (15, .astore_n 3, 16, [])],
  [(16, .iconst 2, 17, []), (17, .ireturn, 18, []), (18, .iconst 0, 19, []), (19, .ireturn, 20, [])]]
noncomputable def z_r289 : List (List (List z_Row)) := [z_r289_0]
-- ClockParliamentLaw.run(LClockParliament;[J)I
set_option maxRecDepth 20000 in
noncomputable def z_r290_0 : List (List z_Row) := [[(0, .aload_n 1, 1, []), (1, .iconst 0, 2, []), (2, .aload_n 0, 3, []), (3, .invokevirtual 113, 6, [0, 144, 0, 7002]), (6, .i2l, 7, []), (7, .lastore, 8, []), (8, .goto 9, 11, [17]), (11, .astore_n 2, 12, []), (12, .iconst 1, 13, []), (13, .ireturn, 14, []), (14, .astore_n 2, 15, []), (15, .iconst 2, 16, [])],
  [(16, .ireturn, 17, []), (17, .iconst 0, 18, []), (18, .ireturn, 19, [])]]
noncomputable def z_r290 : List (List (List z_Row)) := [z_r290_0]
-- ClockParliamentLaw.reason(LClockParliament;IZ[J)I
set_option maxRecDepth 20000 in
noncomputable def z_r291_0 : List (List z_Row) := [[(0, .aload_n 3, 1, []), (1, .iconst 0, 2, []), (2, .aload_n 0, 3, []), (3, .iload_n 1, 4, []), (4, .iload_n 2, 5, []), (5, .invokevirtual 116, 8, [0, 146, 2, 7139]), (8, .i2l, 9, []), (9, .lastore, 10, []), (10, .goto 11, 13, [21]), (13, .astore 4, 15, []), (15, .iconst 1, 16, [])],
  [(16, .ireturn, 17, []), (17, .astore 4, 19, []), (19, .iconst 2, 20, []), (20, .ireturn, 21, []), (21, .iconst 0, 22, []), (22, .ireturn, 23, [])]]
noncomputable def z_r291 : List (List (List z_Row)) := [z_r291_0]
-- ClockParliamentLaw.tell(LClockParliament;I[J)I
set_option maxRecDepth 20000 in
noncomputable def z_r292_0 : List (List z_Row) := [[(0, .aload_n 2, 1, []), (1, .iconst 0, 2, []), (2, .aload_n 0, 3, []), (3, .iload_n 1, 4, []), (4, .invokevirtual 120, 7, [0, 147, 1, 7152]), (7, .i2l, 8, []), (8, .lastore, 9, []), (9, .goto 6, 12, [15]), (12, .astore_n 3, 13, []), (13, .iconst 1, 14, []), (14, .ireturn, 15, []), (15, .iconst 0, 16, [])],
  [(16, .ireturn, 17, [])]]
noncomputable def z_r292 : List (List (List z_Row)) := [z_r292_0]
-- ClockParliamentLaw.tellBill(LClockParliament;I[J)I
set_option maxRecDepth 20000 in
noncomputable def z_r293_0 : List (List z_Row) := [[(0, .aload_n 2, 1, []), (1, .iconst 0, 2, []), (2, .aload_n 0, 3, []), (3, .iload_n 1, 4, []), (4, .invokevirtual 123, 7, [0, 148, 1, 7159]), (7, .i2l, 8, []), (8, .lastore, 9, []), (9, .goto 6, 12, [15]), (12, .astore_n 3, 13, []), (13, .iconst 1, 14, []), (14, .ireturn, 15, []), (15, .iconst 0, 16, [])],
  [(16, .ireturn, 17, [])]]
noncomputable def z_r293 : List (List (List z_Row)) := [z_r293_0]
-- ClockParliamentLaw.character(LClockParliament;I[J)I
set_option maxRecDepth 20000 in
noncomputable def z_r294_0 : List (List z_Row) := [[(0, .aload_n 2, 1, []), (1, .iconst 0, 2, []), (2, .aload_n 0, 3, []), (3, .iload_n 1, 4, []), (4, .invokevirtual 126, 7, [0, 150, 1, 7166]), (7, .i2l, 8, []), (8, .lastore, 9, []), (9, .goto 6, 12, [15]), (12, .astore_n 3, 13, []), (13, .iconst 1, 14, []), (14, .ireturn, 15, []), (15, .iconst 0, 16, [])],
  [(16, .ireturn, 17, [])]]
noncomputable def z_r294 : List (List (List z_Row)) := [z_r294_0]
-- ClockParliamentLaw.account(LClockParliament;I[J)I
set_option maxRecDepth 20000 in
noncomputable def z_r295_0 : List (List z_Row) := [[(0, .aload_n 2, 1, []), (1, .iconst 0, 2, []), (2, .aload_n 0, 3, []), (3, .iload_n 1, 4, []), (4, .invokevirtual 130, 7, [0, 153, 1, 7175]), (7, .i2l, 8, []), (8, .lastore, 9, []), (9, .goto 6, 12, [15]), (12, .astore_n 3, 13, []), (13, .iconst 1, 14, []), (14, .ireturn, 15, []), (15, .iconst 0, 16, [])],
  [(16, .ireturn, 17, [])]]
noncomputable def z_r295 : List (List (List z_Row)) := [z_r295_0]
-- ClockParliamentLaw.meanSpring(LClockParliament;[D)I
set_option maxRecDepth 20000 in
noncomputable def z_r296_0 : List (List z_Row) := [[(0, .aload_n 1, 1, []), (1, .iconst 0, 2, []), (2, .aload_n 0, 3, []), (3, .invokevirtual 133, 6, [0, 154, 0, 7202]), (6, .dastore, 7, []), (7, .goto 6, 10, [13]), (10, .astore_n 2, 11, []), (11, .iconst 1, 12, []), (12, .ireturn, 13, []), (13, .iconst 0, 14, []), (14, .ireturn, 15, [])]]
noncomputable def z_r296 : List (List (List z_Row)) := [z_r296_0]
-- ClockParliamentLaw.carriedShare(LClockParliament;[D)I
set_option maxRecDepth 20000 in
noncomputable def z_r297_0 : List (List z_Row) := [[(0, .aload_n 1, 1, []), (1, .iconst 0, 2, []), (2, .aload_n 0, 3, []), (3, .invokevirtual 139, 6, [0, 155, 0, 7211]), (6, .f2d, 7, []), (7, .dastore, 8, []), (8, .goto 6, 11, [14]), (11, .astore_n 2, 12, []), (12, .iconst 1, 13, []), (13, .ireturn, 14, []), (14, .iconst 0, 15, []), (15, .ireturn, 16, [])]]
noncomputable def z_r297 : List (List (List z_Row)) := [z_r297_0]
-- ClockParliamentLaw.undo(LClockParliament;[J)I
set_option maxRecDepth 20000 in
noncomputable def z_r298_0 : List (List z_Row) := [[(0, .aload_n 1, 1, []), (1, .iconst 0, 2, []), (2, .aload_n 0, 3, []), (3, .invokevirtual 143, 6, [0, 156, 0, 7219]), (6, .i2l, 7, []), (7, .lastore, 8, []), (8, .goto 6, 11, [14]), (11, .astore_n 2, 12, []), (12, .iconst 1, 13, []), (13, .ireturn, 14, []), (14, .iconst 0, 15, []), (15, .ireturn, 16, [])]]
noncomputable def z_r298 : List (List (List z_Row)) := [z_r298_0]
-- ClockParliamentLaw.restore(LClockParliament;[J)I
set_option maxRecDepth 20000 in
noncomputable def z_r299_0 : List (List z_Row) := [[(0, .aload_n 1, 1, []), (1, .iconst 0, 2, []), (2, .aload_n 0, 3, []), (3, .invokevirtual 146, 6, [0, 158, 0, 7231]), (6, .i2l, 7, []), (7, .lastore, 8, []), (8, .goto 6, 11, [14]), (11, .astore_n 2, 12, []), (12, .iconst 1, 13, []), (13, .ireturn, 14, []), (14, .iconst 0, 15, []), (15, .ireturn, 16, [])]]
noncomputable def z_r299 : List (List (List z_Row)) := [z_r299_0]
-- java/lang/StringBuilder.<init>()V
set_option maxRecDepth 20000 in
noncomputable def z_r300_0 : List (List z_Row) := [[(0, .aload_n 0, 1, []), (1, .bipush 16, 3, []), (3, .invokespecial 1, 6, [2, 301, 1, 1210]), (6, .return_, 7, [])]]
noncomputable def z_r300 : List (List (List z_Row)) := [z_r300_0]
-- java/lang/AbstractStringBuilder.<init>(I)V
set_option maxRecDepth 20000 in
noncomputable def z_r301_0 : List (List z_Row) := [[(0, .aload_n 0, 1, []), (1, .invokespecial 3, 4, [7, 0, 0, 1213]), (4, .getstatic 18, 7, [12, 1214]), (7, .ifCond .eq 18, 10, [25]), (10, .aload_n 0, 11, []), (11, .iload_n 1, 12, []), (12, .newarray .byte, 14, [2, 1237]), (14, .putfield 15, 17, [0, 10, 0, 1223])],
  [(17, .aload_n 0, 18, []), (18, .iconst 0, 19, []), (19, .putfield 22, 22, [0, 10, 1, 1224]), (22, .goto 16, 25, [38]), (25, .aload_n 0, 26, []), (26, .iload_n 1, 27, []), (27, .invokestatic 26, 30, []), (30, .putfield 15, 33, [0, 10, 0, 1223])],
  [(33, .aload_n 0, 34, []), (34, .iconst 1, 35, []), (35, .putfield 22, 38, [0, 10, 1, 1224]), (38, .return_, 39, [])]]
noncomputable def z_r301 : List (List (List z_Row)) := [z_r301_0]
-- java/lang/StringBuilder.append(C)Ljava/lang/StringBuilder;
set_option maxRecDepth 20000 in
noncomputable def z_r302_0 : List (List z_Row) := [[(0, .aload_n 0, 1, []), (1, .iload_n 1, 2, []), (2, .invokespecial 50, 5, [6, 303, 1, 4144]), (5, .pop, 6, []), (6, .aload_n 0, 7, []), (7, .areturn, 8, [])]]
noncomputable def z_r302 : List (List (List z_Row)) := [z_r302_0]
-- java/lang/AbstractStringBuilder.append(C)Ljava/lang/AbstractStringBuilder;
set_option maxRecDepth 20000 in
noncomputable def z_r303_0 : List (List z_Row) := [[(0, .aload_n 0, 1, []), (1, .aload_n 0, 2, []), (2, .getfield 79, 5, [0, 10, 3, 1227]), (5, .iconst 1, 6, []), (6, .iadd, 7, []), (7, .invokevirtual 100, 10, [10, 312, 1, 3053]), (10, .aload_n 0, 11, []), (11, .invokevirtual 83, 14, [10, 314, 0, 3084]), (14, .ifCond .eq 31, 17, [45])],
  [(17, .iload_n 1, 18, []), (18, .invokestatic 191, 21, [1, 316, 1, 4147]), (21, .ifCond .eq 24, 24, [45]), (24, .aload_n 0, 25, []), (25, .getfield 15, 28, [0, 10, 0, 1223]), (28, .aload_n 0, 29, []), (29, .dup, 30, []), (30, .getfield 79, 33, [0, 10, 3, 1227])],
  [(33, .dup_x1, 34, []), (34, .iconst 1, 35, []), (35, .iadd, 36, []), (36, .putfield 79, 39, [0, 10, 3, 1227]), (39, .iload_n 1, 40, []), (40, .i2b, 41, []), (41, .bastore, 42, []), (42, .goto 33, 45, [75]), (45, .aload_n 0, 46, []), (46, .invokevirtual 83, 49, [10, 314, 0, 3084])],
  [(49, .ifCond .eq 7, 52, [56]), (52, .aload_n 0, 53, []), (53, .invokevirtual 195, 56, []), (56, .aload_n 0, 57, []), (57, .getfield 15, 60, [0, 10, 0, 1223]), (60, .aload_n 0, 61, []), (61, .dup, 62, []), (62, .getfield 79, 65, [0, 10, 3, 1227])],
  [(65, .dup_x1, 66, []), (66, .iconst 1, 67, []), (67, .iadd, 68, []), (68, .putfield 79, 71, [0, 10, 3, 1227]), (71, .iload_n 1, 72, []), (72, .invokestatic 197, 75, []), (75, .aload_n 0, 76, []), (76, .areturn, 77, [])]]
noncomputable def z_r303 : List (List (List z_Row)) := [z_r303_0]
-- java/lang/StringBuilder.append(I)Ljava/lang/StringBuilder;
set_option maxRecDepth 20000 in
noncomputable def z_r304_0 : List (List z_Row) := [[(0, .aload_n 0, 1, []), (1, .iload_n 1, 2, []), (2, .invokespecial 53, 5, [6, 305, 1, 3162]), (5, .pop, 6, []), (6, .aload_n 0, 7, []), (7, .areturn, 8, [])]]
noncomputable def z_r304 : List (List (List z_Row)) := [z_r304_0]
-- java/lang/AbstractStringBuilder.append(I)Ljava/lang/AbstractStringBuilder;
set_option maxRecDepth 20000 in
noncomputable def z_r305_0 : List (List z_Row) := [[(0, .aload_n 0, 1, []), (1, .getfield 79, 4, [0, 10, 3, 1227]), (4, .istore_n 2, 5, []), (5, .iload_n 2, 6, []), (6, .iload_n 1, 7, []), (7, .invokestatic 245, 10, [1, 325, 1, 3165]), (10, .iadd, 11, []), (11, .istore_n 3, 12, []), (12, .aload_n 0, 13, []), (13, .iload_n 3, 14, []), (14, .invokevirtual 100, 17, [10, 312, 1, 3053])],
  [(17, .aload_n 0, 18, []), (18, .invokevirtual 83, 21, [10, 314, 0, 3084]), (21, .ifCond .eq 16, 24, [37]), (24, .iload_n 1, 25, []), (25, .iload_n 3, 26, []), (26, .aload_n 0, 27, []), (27, .getfield 15, 30, [0, 10, 0, 1223]), (30, .invokestatic 248, 33, [1, 326, 3, 3168])],
  [(33, .pop, 34, []), (34, .goto 14, 37, [48]), (37, .iload_n 1, 38, []), (38, .iload_n 2, 39, []), (39, .iload_n 3, 40, []), (40, .aload_n 0, 41, []), (41, .getfield 15, 44, [0, 10, 0, 1223]), (44, .invokestatic 251, 47, []), (47, .pop, 48, [])],
  [(48, .aload_n 0, 49, []), (49, .iload_n 3, 50, []), (50, .putfield 79, 53, [0, 10, 3, 1227]), (53, .aload_n 0, 54, []), (54, .areturn, 55, [])]]
noncomputable def z_r305 : List (List (List z_Row)) := [z_r305_0]
-- java/lang/StringBuilder.setLength(I)V
set_option maxRecDepth 20000 in
noncomputable def z_r306_0 : List (List z_Row) := [[(0, .aload_n 0, 1, []), (1, .iload_n 1, 2, []), (2, .invokespecial 333, 5, [6, 307, 1, 3031]), (5, .return_, 6, [])]]
noncomputable def z_r306 : List (List (List z_Row)) := [z_r306_0]
-- java/lang/AbstractStringBuilder.setLength(I)V
set_option maxRecDepth 20000 in
noncomputable def z_r307_0 : List (List z_Row) := [[(0, .iload_n 1, 1, []), (1, .ifCond .ge 12, 4, [13]), (4, .new 129, 7, []), (7, .dup, 8, []), (8, .iload_n 1, 9, []), (9, .invokespecial 131, 12, []), (12, .athrow, 13, []), (13, .aload_n 0, 14, []), (14, .iload_n 1, 15, []), (15, .invokevirtual 100, 18, [10, 312, 1, 3053])],
  [(18, .aload_n 0, 19, []), (19, .getfield 79, 22, [0, 10, 3, 1227]), (22, .iload_n 1, 23, []), (23, .if_icmp .ge 40, 26, [63]), (26, .aload_n 0, 27, []), (27, .invokevirtual 83, 30, [10, 314, 0, 3084]), (30, .ifCond .eq 18, 33, [48])],
  [(33, .aload_n 0, 34, []), (34, .getfield 15, 37, [0, 10, 0, 1223]), (37, .aload_n 0, 38, []), (38, .getfield 79, 41, [0, 10, 3, 1227]), (41, .iload_n 1, 42, []), (42, .invokestatic 133, 45, []), (45, .goto 31, 48, [76])],
  [(48, .aload_n 0, 49, []), (49, .getfield 15, 52, [0, 10, 0, 1223]), (52, .aload_n 0, 53, []), (53, .getfield 79, 56, [0, 10, 3, 1227]), (56, .iload_n 1, 57, []), (57, .invokestatic 137, 60, []), (60, .goto 16, 63, [76]), (63, .aload_n 0, 64, [])],
  [(64, .getfield 79, 67, [0, 10, 3, 1227]), (67, .iload_n 1, 68, []), (68, .if_icmp .le 8, 71, [76]), (71, .aload_n 0, 72, []), (72, .iconst 1, 73, []), (73, .putfield 73, 76, [0, 10, 2, 1225]), (76, .aload_n 0, 77, []), (77, .iload_n 1, 78, []), (78, .putfield 79, 81, [0, 10, 3, 1227])],
  [(81, .return_, 82, [])]]
noncomputable def z_r307 : List (List (List z_Row)) := [z_r307_0]
-- java/lang/StringBuilder.length()I
set_option maxRecDepth 20000 in
noncomputable def z_r308_0 : List (List z_Row) := [[(0, .aload_n 0, 1, []), (1, .invokespecial 343, 4, [6, 309, 0, 3207]), (4, .ireturn, 5, [])]]
noncomputable def z_r308 : List (List (List z_Row)) := [z_r308_0]
-- java/lang/AbstractStringBuilder.length()I
set_option maxRecDepth 20000 in
noncomputable def z_r309_0 : List (List z_Row) := [[(0, .aload_n 0, 1, []), (1, .getfield 79, 4, [0, 10, 3, 1227]), (4, .ireturn, 5, [])]]
noncomputable def z_r309 : List (List (List z_Row)) := [z_r309_0]
-- java/lang/StringBuilder.charAt(I)C
set_option maxRecDepth 20000 in
noncomputable def z_r310_0 : List (List z_Row) := [[(0, .aload_n 0, 1, []), (1, .iload_n 1, 2, []), (2, .invokespecial 329, 5, [6, 311, 1, 7022]), (5, .ireturn, 6, [])]]
noncomputable def z_r310 : List (List (List z_Row)) := [z_r310_0]
-- java/lang/AbstractStringBuilder.charAt(I)C
set_option maxRecDepth 20000 in
noncomputable def z_r311_0 : List (List z_Row) := [[(0, .aload_n 0, 1, []), (1, .getfield 22, 4, [0, 10, 1, 1224]), (4, .istore_n 2, 5, []), (5, .aload_n 0, 6, []), (6, .getfield 15, 9, [0, 10, 0, 1223]), (9, .astore_n 3, 10, []), (10, .aload_n 0, 11, []), (11, .getfield 79, 14, [0, 10, 3, 1227]), (14, .aload_n 3, 15, []), (15, .arraylength, 16, [])],
  [(16, .iload_n 2, 17, []), (17, .ishr, 18, []), (18, .invokestatic 138, 21, [1, 318, 2, 7025]), (21, .istore 4, 23, []), (23, .iload_n 1, 24, []), (24, .iload 4, 26, []), (26, .invokestatic 144, 29, [1, 323, 2, 7026]), (29, .iload_n 2, 30, []), (30, .ifCond .ne 12, 33, [42])],
  [(33, .aload_n 3, 34, []), (34, .iload_n 1, 35, []), (35, .baload, 36, []), (36, .sipush 255, 39, []), (39, .iand, 40, []), (40, .i2c, 41, []), (41, .ireturn, 42, []), (42, .aload_n 3, 43, []), (43, .iload_n 1, 44, []), (44, .invokestatic 148, 47, []), (47, .ireturn, 48, [])]]
noncomputable def z_r311 : List (List (List z_Row)) := [z_r311_0]
-- java/lang/AbstractStringBuilder.ensureCapacityInternal(I)V
set_option maxRecDepth 20000 in
noncomputable def z_r312_0 : List (List z_Row) := [[(0, .aload_n 0, 1, []), (1, .getfield 15, 4, [0, 10, 0, 1223]), (4, .arraylength, 5, []), (5, .aload_n 0, 6, []), (6, .getfield 22, 9, [0, 10, 1, 1224]), (9, .ishr, 10, []), (10, .istore_n 2, 11, []), (11, .iload_n 1, 12, []), (12, .iload_n 2, 13, []), (13, .isub, 14, []), (14, .ifCond .le 24, 17, [38])],
  [(17, .aload_n 0, 18, []), (18, .aload_n 0, 19, []), (19, .getfield 15, 22, [0, 10, 0, 1223]), (22, .aload_n 0, 23, []), (23, .iload_n 1, 24, []), (24, .invokevirtual 104, 27, [10, 313, 1, 3057]), (27, .aload_n 0, 28, []), (28, .getfield 22, 31, [0, 10, 1, 1224]), (31, .ishl, 32, [])],
  [(32, .invokestatic 108, 35, [1, 317, 2, 3070]), (35, .putfield 15, 38, [0, 10, 0, 1223]), (38, .return_, 39, [])]]
noncomputable def z_r312 : List (List (List z_Row)) := [z_r312_0]
-- java/lang/AbstractStringBuilder.newCapacity(I)I
set_option maxRecDepth 20000 in
noncomputable def z_r313_0 : List (List z_Row) := [[(0, .aload_n 0, 1, []), (1, .getfield 15, 4, [0, 10, 0, 1223]), (4, .arraylength, 5, []), (5, .istore_n 2, 6, []), (6, .iload_n 1, 7, []), (7, .aload_n 0, 8, []), (8, .getfield 22, 11, [0, 10, 1, 1224]), (11, .ishl, 12, []), (12, .istore_n 3, 13, []), (13, .iload_n 3, 14, []), (14, .iload_n 2, 15, []), (15, .isub, 16, [])],
  [(16, .istore 4, 18, []), (18, .iload_n 2, 19, []), (19, .iload 4, 21, []), (21, .iload_n 2, 22, []), (22, .iconst 2, 23, []), (23, .aload_n 0, 24, []), (24, .getfield 22, 27, [0, 10, 1, 1224]), (27, .ishl, 28, []), (28, .iadd, 29, []), (29, .invokestatic 114, 32, [1, 322, 3, 3061])],
  [(32, .istore 5, 34, []), (34, .iload 5, 36, []), (36, .ldc 39, 38, []), (38, .if_icmp .ne 13, 41, [51]), (41, .new 120, 44, []), (44, .dup, 45, []), (45, .ldc 122, 47, []), (47, .invokespecial 124, 50, [])],
  [(50, .athrow, 51, []), (51, .iload 5, 53, []), (53, .aload_n 0, 54, []), (54, .getfield 22, 57, [0, 10, 1, 1224]), (57, .ishr, 58, []), (58, .ireturn, 59, [])]]
noncomputable def z_r313 : List (List (List z_Row)) := [z_r313_0]
-- java/lang/AbstractStringBuilder.isLatin1()Z
set_option maxRecDepth 20000 in
noncomputable def z_r314_0 : List (List z_Row) := [[(0, .getstatic 18, 3, [12, 1214]), (3, .ifCond .eq 14, 6, [17]), (6, .aload_n 0, 7, []), (7, .getfield 22, 10, [0, 10, 1, 1224]), (10, .ifCond .ne 7, 13, [17]), (13, .iconst 1, 14, []), (14, .goto 4, 17, [18])],
  [(17, .iconst 0, 18, []), (18, .ireturn, 19, [])]]
noncomputable def z_r314 : List (List (List z_Row)) := [z_r314_0]
-- java/lang/StringLatin1.canEncode(I)Z
set_option maxRecDepth 20000 in
noncomputable def z_r315_0 : List (List z_Row) := [[(0, .iload_n 0, 1, []), (1, .ifCond .lt 14, 4, [15]), (4, .iload_n 0, 5, []), (5, .sipush 255, 8, []), (8, .if_icmp .gt 7, 11, [15]), (11, .iconst 1, 12, []), (12, .goto 4, 15, [16]), (15, .iconst 0, 16, [])],
  [(16, .ireturn, 17, [])]]
noncomputable def z_r315 : List (List (List z_Row)) := [z_r315_0]
-- java/lang/StringLatin1.canEncode(C)Z
set_option maxRecDepth 20000 in
noncomputable def z_r316_0 : List (List z_Row) := [[(0, .iload_n 0, 1, []), (1, .sipush 255, 4, []), (4, .if_icmp .gt 7, 7, [11]), (7, .iconst 1, 8, []), (8, .goto 4, 11, [12]), (11, .iconst 0, 12, []), (12, .ireturn, 13, [])]]
noncomputable def z_r316 : List (List (List z_Row)) := [z_r316_0]
-- java/util/Arrays.copyOf([BI)[B
set_option maxRecDepth 20000 in
noncomputable def z_r317_0 : List (List z_Row) := [[(0, .iload_n 1, 1, []), (1, .aload_n 0, 2, []), (2, .arraylength, 3, []), (3, .if_icmp .ne 11, 6, [14]), (6, .aload_n 0, 7, []), (7, .invokevirtual 310, 10, []), (10, .checkcast 311, 13, []), (13, .areturn, 14, []), (14, .iload_n 1, 15, []), (15, .newarray .byte, 17, [2, 1237])],
  [(17, .astore_n 2, 18, []), (18, .aload_n 0, 19, []), (19, .iconst 0, 20, []), (20, .aload_n 2, 21, []), (21, .iconst 0, 22, []), (22, .aload_n 0, 23, []), (23, .arraylength, 24, []), (24, .iload_n 1, 25, []), (25, .invokestatic 304, 28, [1, 318, 2, 3080]), (28, .invokestatic 150, 31, [8, 0, 5, 3081]), (31, .aload_n 2, 32, [])],
  [(32, .areturn, 33, [])]]
noncomputable def z_r317 : List (List (List z_Row)) := [z_r317_0]
-- java/lang/Math.min(II)I
set_option maxRecDepth 20000 in
noncomputable def z_r318_0 : List (List z_Row) := [[(0, .iload_n 0, 1, []), (1, .iload_n 1, 2, []), (2, .if_icmp .gt 7, 5, [9]), (5, .iload_n 0, 6, []), (6, .goto 4, 9, [10]), (9, .iload_n 1, 10, []), (10, .ireturn, 11, [])]]
noncomputable def z_r318 : List (List (List z_Row)) := [z_r318_0]
-- java/lang/Math.max(II)I
set_option maxRecDepth 20000 in
noncomputable def z_r319_0 : List (List z_Row) := [[(0, .iload_n 0, 1, []), (1, .iload_n 1, 2, []), (2, .if_icmp .lt 7, 5, [9]), (5, .iload_n 0, 6, []), (6, .goto 4, 9, [10]), (9, .iload_n 1, 10, []), (10, .ireturn, 11, [])]]
noncomputable def z_r319 : List (List (List z_Row)) := [z_r319_0]
-- java/lang/Math.abs(I)I
set_option maxRecDepth 20000 in
noncomputable def z_r320_0 : List (List z_Row) := [[(0, .iload_n 0, 1, []), (1, .ifCond .ge 8, 4, [9]), (4, .iload_n 0, 5, []), (5, .ineg, 6, []), (6, .goto 4, 9, [10]), (9, .iload_n 0, 10, []), (10, .ireturn, 11, [])]]
noncomputable def z_r320 : List (List (List z_Row)) := [z_r320_0]
-- java/lang/Math.floorMod(II)I
set_option maxRecDepth 20000 in
noncomputable def z_r321_0 : List (List z_Row) := [[(0, .iload_n 0, 1, []), (1, .iload_n 1, 2, []), (2, .irem, 3, []), (3, .istore_n 2, 4, []), (4, .iload_n 0, 5, []), (5, .iload_n 1, 6, []), (6, .ixor, 7, []), (7, .ifCond .ge 11, 10, [18]), (10, .iload_n 2, 11, []), (11, .ifCond .eq 7, 14, [18]), (14, .iload_n 2, 15, []), (15, .iload_n 1, 16, [])],
  [(16, .iadd, 17, []), (17, .ireturn, 18, []), (18, .iload_n 2, 19, []), (19, .ireturn, 20, [])]]
noncomputable def z_r321 : List (List (List z_Row)) := [z_r321_0]
-- jdk/internal/util/ArraysSupport.newLength(III)I
set_option maxRecDepth 20000 in
noncomputable def z_r322_0 : List (List z_Row) := [[(0, .iload_n 0, 1, []), (1, .iload_n 1, 2, []), (2, .iload_n 2, 3, []), (3, .invokestatic 194, 6, [1, 319, 2, 3064]), (6, .iadd, 7, []), (7, .istore_n 3, 8, []), (8, .iconst 0, 9, []), (9, .iload_n 3, 10, []), (10, .if_icmp .ge 11, 13, [21]), (13, .iload_n 3, 14, []), (14, .ldc 200, 16, [])],
  [(16, .if_icmp .gt 5, 19, [21]), (19, .iload_n 3, 20, []), (20, .ireturn, 21, []), (21, .iload_n 0, 22, []), (22, .iload_n 1, 23, []), (23, .invokestatic 201, 26, []), (26, .ireturn, 27, [])]]
noncomputable def z_r322 : List (List (List z_Row)) := [z_r322_0]
-- java/lang/String.checkIndex(II)V
set_option maxRecDepth 20000 in
noncomputable def z_r323_0 : List (List z_Row) := [[(0, .iload_n 0, 1, []), (1, .iload_n 1, 2, []), (2, .getstatic 1053, 5, [13, 3101]), (5, .invokestatic 1059, 8, [1, 324, 3, 4159]), (8, .pop, 9, []), (9, .return_, 10, [])]]
noncomputable def z_r323 : List (List (List z_Row)) := [z_r323_0]
-- jdk/internal/util/Preconditions.checkIndex(IILjava/util/function/BiFunction;)I
set_option maxRecDepth 20000 in
noncomputable def z_r324_0 : List (List z_Row) := [[(0, .iload_n 0, 1, []), (1, .ifCond .lt 8, 4, [9]), (4, .iload_n 0, 5, []), (5, .iload_n 1, 6, []), (6, .if_icmp .lt 10, 9, [16]), (9, .aload_n 2, 10, []), (10, .iload_n 0, 11, []), (11, .iload_n 1, 12, []), (12, .invokestatic 95, 15, []), (15, .athrow, 16, [])],
  [(16, .iload_n 0, 17, []), (17, .ireturn, 18, [])]]
noncomputable def z_r324 : List (List (List z_Row)) := [z_r324_0]
-- java/lang/Integer.stringSize(I)I
set_option maxRecDepth 20000 in
noncomputable def z_r325_0 : List (List z_Row) := [[(0, .iconst 1, 1, []), (1, .istore_n 1, 2, []), (2, .iload_n 0, 3, []), (3, .ifCond .lt 8, 6, [11]), (6, .iconst 0, 7, []), (7, .istore_n 1, 8, []), (8, .iload_n 0, 9, []), (9, .ineg, 10, []), (10, .istore_n 0, 11, []), (11, .bipush (-10), 13, []), (13, .istore_n 2, 14, []), (14, .iconst 1, 15, []), (15, .istore_n 3, 16, [])],
  [(16, .iload_n 3, 17, []), (17, .bipush 10, 19, []), (19, .if_icmp .ge 23, 22, [42]), (22, .iload_n 0, 23, []), (23, .iload_n 2, 24, []), (24, .if_icmp .le 7, 27, [31]), (27, .iload_n 3, 28, []), (28, .iload_n 1, 29, []), (29, .iadd, 30, []), (30, .ireturn, 31, []), (31, .bipush 10, 33, [])],
  [(33, .iload_n 2, 34, []), (34, .imul, 35, []), (35, .istore_n 2, 36, []), (36, .iinc 3 1, 39, []), (39, .goto (-23), 42, [16]), (42, .bipush 10, 44, []), (44, .iload_n 1, 45, []), (45, .iadd, 46, []), (46, .ireturn, 47, [])]]
noncomputable def z_r325 : List (List (List z_Row)) := [z_r325_0]
-- java/lang/Integer.getChars(II[B)I
set_option maxRecDepth 20000 in
noncomputable def z_r326_0 : List (List z_Row) := [[(0, .iload_n 1, 1, []), (1, .istore 5, 3, []), (3, .iload_n 0, 4, []), (4, .ifCond .ge 7, 7, [11]), (7, .iconst 1, 8, []), (8, .goto 4, 11, [12]), (11, .iconst 0, 12, []), (12, .istore 6, 14, []), (14, .iload 6, 16, [])],
  [(16, .ifCond .ne 6, 19, [22]), (19, .iload_n 0, 20, []), (20, .ineg, 21, []), (21, .istore_n 0, 22, []), (22, .iload_n 0, 23, []), (23, .bipush (-100), 25, []), (25, .if_icmp .gt 47, 28, [72]), (28, .iload_n 0, 29, []), (29, .bipush 100, 31, []), (31, .idiv, 32, [])],
  [(32, .istore_n 3, 33, []), (33, .iload_n 3, 34, []), (34, .bipush 100, 36, []), (36, .imul, 37, []), (37, .iload_n 0, 38, []), (38, .isub, 39, []), (39, .istore 4, 41, []), (41, .iload_n 3, 42, []), (42, .istore_n 0, 43, []), (43, .aload_n 2, 44, []), (44, .iinc 5 (-1), 47, []), (47, .iload 5, 49, [])],
  [(49, .getstatic 83, 52, [14, 3171]), (52, .iload 4, 54, []), (54, .baload, 55, []), (55, .bastore, 56, []), (56, .aload_n 2, 57, []), (57, .iinc 5 (-1), 60, []), (60, .iload 5, 62, []), (62, .getstatic 87, 65, [15, 3173])],
  [(65, .iload 4, 67, []), (67, .baload, 68, []), (68, .bastore, 69, []), (69, .goto (-47), 72, [22]), (72, .aload_n 2, 73, []), (73, .iinc 5 (-1), 76, []), (76, .iload 5, 78, []), (78, .getstatic 83, 81, [14, 3171])],
  [(81, .iload_n 0, 82, []), (82, .ineg, 83, []), (83, .baload, 84, []), (84, .bastore, 85, []), (85, .iload_n 0, 86, []), (86, .bipush (-9), 88, []), (88, .if_icmp .ge 16, 91, [104]), (91, .aload_n 2, 92, []), (92, .iinc 5 (-1), 95, []), (95, .iload 5, 97, [])],
  [(97, .getstatic 87, 100, [15, 3173]), (100, .iload_n 0, 101, []), (101, .ineg, 102, []), (102, .baload, 103, []), (103, .bastore, 104, []), (104, .iload 6, 106, []), (106, .ifCond .eq 12, 109, [118]), (109, .aload_n 2, 110, []), (110, .iinc 5 (-1), 113, [])],
  [(113, .iload 5, 115, []), (115, .bipush 45, 117, []), (117, .bastore, 118, []), (118, .iload 5, 120, []), (120, .ireturn, 121, [])]]
noncomputable def z_r326 : List (List (List z_Row)) := [z_r326_0]
-- java/lang/Integer.bitCount(I)I
set_option maxRecDepth 20000 in
noncomputable def z_r327_0 : List (List z_Row) := [[(0, .iload_n 0, 1, []), (1, .iload_n 0, 2, []), (2, .iconst 1, 3, []), (3, .iushr, 4, []), (4, .ldc_w 265, 7, []), (7, .iand, 8, []), (8, .isub, 9, []), (9, .istore_n 0, 10, []), (10, .iload_n 0, 11, []), (11, .ldc_w 266, 14, []), (14, .iand, 15, []), (15, .iload_n 0, 16, [])],
  [(16, .iconst 2, 17, []), (17, .iushr, 18, []), (18, .ldc_w 266, 21, []), (21, .iand, 22, []), (22, .iadd, 23, []), (23, .istore_n 0, 24, []), (24, .iload_n 0, 25, []), (25, .iload_n 0, 26, []), (26, .iconst 4, 27, []), (27, .iushr, 28, []), (28, .iadd, 29, []), (29, .ldc_w 267, 32, [])],
  [(32, .iand, 33, []), (33, .istore_n 0, 34, []), (34, .iload_n 0, 35, []), (35, .iload_n 0, 36, []), (36, .bipush 8, 38, []), (38, .iushr, 39, []), (39, .iadd, 40, []), (40, .istore_n 0, 41, []), (41, .iload_n 0, 42, []), (42, .iload_n 0, 43, []), (43, .bipush 16, 45, []), (45, .iushr, 46, []), (46, .iadd, 47, []), (47, .istore_n 0, 48, [])],
  [(48, .iload_n 0, 49, []), (49, .bipush 63, 51, []), (51, .iand, 52, []), (52, .ireturn, 53, [])]]
noncomputable def z_r327 : List (List (List z_Row)) := [z_r327_0]
-- java/lang/Enum.ordinal()I
set_option maxRecDepth 20000 in
noncomputable def z_r328_0 : List (List z_Row) := [[(0, .aload_n 0, 1, []), (1, .getfield 7, 4, [1, 0, 10023]), (4, .ireturn, 5, [])]]
noncomputable def z_r328 : List (List (List z_Row)) := [z_r328_0]
-- java/lang/String.charAt(I)C
set_option maxRecDepth 20000 in
noncomputable def z_r329_0 : List (List z_Row) := [[(0, .aload_n 0, 1, []), (1, .invokevirtual 492, 4, [0, 330, 0, 7041]), (4, .ifCond .eq 12, 7, [16]), (7, .aload_n 0, 8, []), (8, .getfield 9, 11, [1, 2, 4069]), (11, .iload_n 1, 12, []), (12, .invokestatic 495, 15, [1, 335, 2, 7089]), (15, .ireturn, 16, [])],
  [(16, .aload_n 0, 17, []), (17, .getfield 9, 20, [1, 2, 4069]), (20, .iload_n 1, 21, []), (21, .invokestatic 498, 24, []), (24, .ireturn, 25, [])]]
noncomputable def z_r329 : List (List (List z_Row)) := [z_r329_0]
-- java/lang/String.isLatin1()Z
set_option maxRecDepth 20000 in
noncomputable def z_r330_0 : List (List z_Row) := [[(0, .getstatic 38, 3, [12, 3123]), (3, .ifCond .eq 14, 6, [17]), (6, .aload_n 0, 7, []), (7, .getfield 15, 10, [1, 3, 4070]), (10, .ifCond .ne 7, 13, [17]), (13, .iconst 1, 14, []), (14, .goto 4, 17, [18])],
  [(17, .iconst 0, 18, []), (18, .ireturn, 19, [])]]
noncomputable def z_r330 : List (List (List z_Row)) := [z_r330_0]
-- java/lang/String.length()I
set_option maxRecDepth 20000 in
noncomputable def z_r331_0 : List (List z_Row) := [[(0, .aload_n 0, 1, []), (1, .getfield 9, 4, [1, 2, 4069]), (4, .arraylength, 5, []), (5, .aload_n 0, 6, []), (6, .invokevirtual 335, 9, [0, 332, 0, 3119]), (9, .ishr, 10, []), (10, .ireturn, 11, [])]]
noncomputable def z_r331 : List (List (List z_Row)) := [z_r331_0]
-- java/lang/String.coder()B
set_option maxRecDepth 20000 in
noncomputable def z_r332_0 : List (List z_Row) := [[(0, .getstatic 38, 3, [12, 3123]), (3, .ifCond .eq 10, 6, [13]), (6, .aload_n 0, 7, []), (7, .getfield 15, 10, [1, 3, 4070]), (10, .goto 4, 13, [14]), (13, .iconst 1, 14, []), (14, .ireturn, 15, [])]]
noncomputable def z_r332 : List (List (List z_Row)) := [z_r332_0]
-- java/lang/String.indexOf(I)I
set_option maxRecDepth 20000 in
noncomputable def z_r333_0 : List (List z_Row) := [[(0, .aload_n 0, 1, []), (1, .iload_n 1, 2, []), (2, .iconst 0, 3, []), (3, .invokevirtual 633, 6, [0, 334, 2, 7037]), (6, .ireturn, 7, [])]]
noncomputable def z_r333 : List (List (List z_Row)) := [z_r333_0]
-- java/lang/String.indexOf(II)I
set_option maxRecDepth 20000 in
noncomputable def z_r334_0 : List (List z_Row) := [[(0, .aload_n 0, 1, []), (1, .invokevirtual 492, 4, [0, 330, 0, 7041]), (4, .ifCond .eq 19, 7, [23]), (7, .aload_n 0, 8, []), (8, .getfield 9, 11, [1, 2, 4069]), (11, .iload_n 1, 12, []), (12, .iload_n 2, 13, []), (13, .aload_n 0, 14, []), (14, .invokevirtual 505, 17, [0, 331, 0, 7045])],
  [(17, .invokestatic 637, 20, [1, 336, 4, 7046]), (20, .goto 16, 23, [36]), (23, .aload_n 0, 24, []), (24, .getfield 9, 27, [1, 2, 4069]), (27, .iload_n 1, 28, []), (28, .iload_n 2, 29, []), (29, .aload_n 0, 30, []), (30, .invokevirtual 505, 33, [0, 331, 0, 7045])],
  [(33, .invokestatic 640, 36, []), (36, .ireturn, 37, [])]]
noncomputable def z_r334 : List (List (List z_Row)) := [z_r334_0]
-- java/lang/StringLatin1.charAt([BI)C
set_option maxRecDepth 20000 in
noncomputable def z_r335_0 : List (List z_Row) := [[(0, .iload_n 1, 1, []), (1, .aload_n 0, 2, []), (2, .arraylength, 3, []), (3, .invokestatic 9, 6, [1, 323, 2, 7092]), (6, .aload_n 0, 7, []), (7, .iload_n 1, 8, []), (8, .baload, 9, []), (9, .sipush 255, 12, []), (12, .iand, 13, []), (13, .i2c, 14, []), (14, .ireturn, 15, [])]]
noncomputable def z_r335 : List (List (List z_Row)) := [z_r335_0]
-- java/lang/StringLatin1.indexOf([BIII)I
set_option maxRecDepth 20000 in
noncomputable def z_r336_0 : List (List z_Row) := [[(0, .iload_n 1, 1, []), (1, .invokestatic 88, 4, [1, 315, 1, 7049]), (4, .ifCond .ne 5, 7, [9]), (7, .iconst (-1), 8, []), (8, .ireturn, 9, []), (9, .iload_n 2, 10, []), (10, .iconst 0, 11, []), (11, .invokestatic 92, 14, [1, 319, 2, 7052]), (14, .istore_n 2, 15, []), (15, .iload_n 3, 16, [])],
  [(16, .aload_n 0, 17, []), (17, .arraylength, 18, []), (18, .invokestatic 38, 21, [1, 318, 2, 7053]), (21, .istore_n 3, 22, []), (22, .iload_n 2, 23, []), (23, .iload_n 3, 24, []), (24, .if_icmp .lt 5, 27, [29]), (27, .iconst (-1), 28, []), (28, .ireturn, 29, []), (29, .aload_n 0, 30, []), (30, .iload_n 1, 31, []), (31, .iload_n 2, 32, [])],
  [(32, .iload_n 3, 33, []), (33, .invokestatic 95, 36, [1, 337, 4, 7054]), (36, .ireturn, 37, [])]]
noncomputable def z_r336 : List (List (List z_Row)) := [z_r336_0]
-- java/lang/StringLatin1.indexOfChar([BIII)I
set_option maxRecDepth 20000 in
noncomputable def z_r337_0 : List (List z_Row) := [[(0, .iload_n 1, 1, []), (1, .i2b, 2, []), (2, .istore 4, 4, []), (4, .iload_n 2, 5, []), (5, .istore 5, 7, []), (7, .iload 5, 9, []), (9, .iload_n 3, 10, []), (10, .if_icmp .ge 21, 13, [31]), (13, .aload_n 0, 14, []), (14, .iload 5, 16, [])],
  [(16, .baload, 17, []), (17, .iload 4, 19, []), (19, .if_icmp .ne 6, 22, [25]), (22, .iload 5, 24, []), (24, .ireturn, 25, []), (25, .iinc 5 1, 28, []), (28, .goto (-21), 31, [7]), (31, .iconst (-1), 32, [])],
  [(32, .ireturn, 33, [])]]
noncomputable def z_r337 : List (List (List z_Row)) := [z_r337_0]
-- ClockParliamentLaw.law([I)Z
set_option maxRecDepth 20000 in
noncomputable def z_r338_0 : List (List z_Row) := [[(0, .new 8, 3, [0, 8, 1038, 1039, 1001]), (3, .dup, 4, []), (4, .invokespecial 149, 7, [2, 103, 0, 1040]), (7, .astore_n 1, 8, []), (8, .new 150, 11, [0, 9, 8000, 8001, 1017]), (11, .dup, 12, []), (12, .invokespecial 152, 15, [2, 160, 0, 8002]), (15, .astore_n 2, 16, [])],
  [(16, .iconst 1, 17, []), (17, .newarray .long, 19, [3, 9224]), (19, .astore_n 3, 20, []), (20, .iconst 1, 21, []), (21, .newarray .double, 23, [4, 9225]), (23, .astore 4, 25, []), (25, .iconst 0, 26, []), (26, .istore 5, 28, []), (28, .iload 5, 30, []), (30, .aload_n 0, 31, []), (31, .arraylength, 32, [])],
  [(32, .iconst 4, 33, []), (33, .isub, 34, []), (34, .if_icmp .gt 2628, 37, [2662]), (37, .aload_n 0, 38, []), (38, .iload 5, 40, []), (40, .iaload, 41, []), (41, .bipush 63, 43, []), (43, .iand, 44, []), (44, .tableswitch 2612 0 43 #[192, 260, 316, 384, 452, 520, 600, 668, 724, 768, 824, 892, 960, 1016, 1091, 1159, 1215, 1283, 1351, 1395, 1451, 1519, 1575, 1631, 1687, 1750, 1763, 1807, 1863, 1931, 1944, 2002, 2046, 2059, 2143, 2199, 2255, 2268, 2324, 2380, 2445, 2511, 2555, 2568], 236, [2656, 236, 304, 360, 428, 496, 564, 644, 712, 768, 812, 868, 936, 1004, 1060, 1135, 1203, 1259, 1327, 1395, 1439, 1495, 1563, 1619, 1675, 1731, 1794, 1807, 1851, 1907, 1975, 1988, 2046, 2090, 2103, 2187, 2243, 2299, 2312, 2368, 2424, 2489, 2555, 2599, 2612])],
  [],
  [],
  [],
  [],
  [],
  [],
  [],
  [],
  [],
  [],
  [],
  [(236, .aload_n 1, 237, []), (237, .aload_n 0, 238, []), (238, .iload 5, 240, [])],
  [(240, .iconst 1, 241, []), (241, .iadd, 242, []), (242, .iaload, 243, []), (243, .aload_n 0, 244, []), (244, .iload 5, 246, []), (246, .iconst 2, 247, []), (247, .iadd, 248, []), (248, .iaload, 249, []), (249, .aload_n 3, 250, []), (250, .invokestatic 153, 253, [9, 261, 4, 4168]), (253, .istore 6, 255, []), (255, .aload_n 2, 256, [])]]
set_option maxRecDepth 20000 in
noncomputable def z_r338_1 : List (List z_Row) := [[(256, .aload_n 0, 257, []), (257, .iload 5, 259, []), (259, .iconst 1, 260, []), (260, .iadd, 261, []), (261, .iaload, 262, []), (262, .aload_n 0, 263, []), (263, .iload 5, 265, []), (265, .iconst 2, 266, []), (266, .iadd, 267, []), (267, .iaload, 268, []), (268, .invokevirtual 158, 271, [0, 176, 2, 8072]), (271, .istore 7, 273, [])],
  [(273, .aload_n 2, 274, []), (274, .invokevirtual 159, 277, [0, 161, 0, 8068]), (277, .iload 6, 279, []), (279, .if_icmp .eq 5, 282, [284]), (282, .iconst 0, 283, []), (283, .ireturn, 284, []), (284, .iload 6, 286, []), (286, .ifCond .ne 15, 289, [301])],
  [(289, .aload_n 3, 290, []), (290, .iconst 0, 291, []), (291, .laload, 292, []), (292, .iload 7, 294, []), (294, .i2l, 295, []), (295, .lcmp, 296, []), (296, .ifCond .eq 5, 299, [301]), (299, .iconst 0, 300, []), (300, .ireturn, 301, []), (301, .goto 2355, 304, [2656])],
  [(304, .aload_n 1, 305, []), (305, .aload_n 0, 306, []), (306, .iload 5, 308, []), (308, .iconst 1, 309, []), (309, .iadd, 310, []), (310, .iaload, 311, []), (311, .aload_n 3, 312, []), (312, .invokestatic 162, 315, [9, 262, 3, 5140]), (315, .istore 6, 317, []), (317, .aload_n 2, 318, []), (318, .aload_n 0, 319, []), (319, .iload 5, 321, [])],
  [(321, .iconst 1, 322, []), (322, .iadd, 323, []), (323, .iaload, 324, []), (324, .invokevirtual 165, 327, [0, 180, 1, 8109]), (327, .istore 7, 329, []), (329, .aload_n 2, 330, []), (330, .invokevirtual 159, 333, [0, 161, 0, 8068]), (333, .iload 6, 335, []), (335, .if_icmp .eq 5, 338, [340])],
  [(338, .iconst 0, 339, []), (339, .ireturn, 340, []), (340, .iload 6, 342, []), (342, .ifCond .ne 15, 345, [357]), (345, .aload_n 3, 346, []), (346, .iconst 0, 347, []), (347, .laload, 348, []), (348, .iload 7, 350, []), (350, .i2l, 351, []), (351, .lcmp, 352, [])],
  [(352, .ifCond .eq 5, 355, [357]), (355, .iconst 0, 356, []), (356, .ireturn, 357, []), (357, .goto 2299, 360, [2656]), (360, .aload_n 1, 361, []), (361, .aload_n 0, 362, []), (362, .iload 5, 364, []), (364, .iconst 1, 365, []), (365, .iadd, 366, []), (366, .iaload, 367, []), (367, .aload_n 0, 368, [])],
  [(368, .iload 5, 370, []), (370, .iconst 2, 371, []), (371, .iadd, 372, []), (372, .iaload, 373, []), (373, .aload_n 3, 374, []), (374, .invokestatic 166, 377, [9, 263, 4, 5149]), (377, .istore 6, 379, []), (379, .aload_n 2, 380, []), (380, .aload_n 0, 381, []), (381, .iload 5, 383, []), (383, .iconst 1, 384, [])],
  [(384, .iadd, 385, []), (385, .iaload, 386, []), (386, .aload_n 0, 387, []), (387, .iload 5, 389, []), (389, .iconst 2, 390, []), (390, .iadd, 391, []), (391, .iaload, 392, []), (392, .invokevirtual 168, 395, [0, 182, 2, 8128]), (395, .istore 7, 397, []), (397, .aload_n 2, 398, []), (398, .invokevirtual 159, 401, [0, 161, 0, 8068])],
  [(401, .iload 6, 403, []), (403, .if_icmp .eq 5, 406, [408]), (406, .iconst 0, 407, []), (407, .ireturn, 408, []), (408, .iload 6, 410, []), (410, .ifCond .ne 15, 413, [425]), (413, .aload_n 3, 414, []), (414, .iconst 0, 415, []), (415, .laload, 416, [])],
  [(416, .iload 7, 418, []), (418, .i2l, 419, []), (419, .lcmp, 420, []), (420, .ifCond .eq 5, 423, [425]), (423, .iconst 0, 424, []), (424, .ireturn, 425, []), (425, .goto 2231, 428, [2656]), (428, .aload_n 1, 429, []), (429, .aload_n 0, 430, []), (430, .iload 5, 432, [])],
  [(432, .iconst 1, 433, []), (433, .iadd, 434, []), (434, .iaload, 435, []), (435, .aload_n 0, 436, []), (436, .iload 5, 438, []), (438, .iconst 2, 439, []), (439, .iadd, 440, []), (440, .iaload, 441, []), (441, .aload_n 3, 442, []), (442, .invokestatic 169, 445, [9, 264, 4, 5158]), (445, .istore 6, 447, []), (447, .aload_n 2, 448, [])],
  [(448, .aload_n 0, 449, []), (449, .iload 5, 451, []), (451, .iconst 1, 452, []), (452, .iadd, 453, []), (453, .iaload, 454, []), (454, .aload_n 0, 455, []), (455, .iload 5, 457, []), (457, .iconst 2, 458, []), (458, .iadd, 459, []), (459, .iaload, 460, []), (460, .invokevirtual 171, 463, [0, 184, 2, 8139]), (463, .istore 7, 465, [])],
  [(465, .aload_n 2, 466, []), (466, .invokevirtual 159, 469, [0, 161, 0, 8068]), (469, .iload 6, 471, []), (471, .if_icmp .eq 5, 474, [476]), (474, .iconst 0, 475, []), (475, .ireturn, 476, []), (476, .iload 6, 478, []), (478, .ifCond .ne 15, 481, [493])],
  [(481, .aload_n 3, 482, []), (482, .iconst 0, 483, []), (483, .laload, 484, []), (484, .iload 7, 486, []), (486, .i2l, 487, []), (487, .lcmp, 488, []), (488, .ifCond .eq 5, 491, [493]), (491, .iconst 0, 492, []), (492, .ireturn, 493, []), (493, .goto 2163, 496, [2656])],
  [(496, .aload_n 1, 497, []), (497, .aload_n 0, 498, []), (498, .iload 5, 500, []), (500, .iconst 1, 501, []), (501, .iadd, 502, []), (502, .iaload, 503, []), (503, .aload_n 0, 504, []), (504, .iload 5, 506, []), (506, .iconst 2, 507, []), (507, .iadd, 508, []), (508, .iaload, 509, []), (509, .aload_n 3, 510, []), (510, .invokestatic 172, 513, [9, 265, 4, 5167])]]
set_option maxRecDepth 20000 in
noncomputable def z_r338_2 : List (List z_Row) := [[(513, .istore 6, 515, []), (515, .aload_n 2, 516, []), (516, .aload_n 0, 517, []), (517, .iload 5, 519, []), (519, .iconst 1, 520, []), (520, .iadd, 521, []), (521, .iaload, 522, []), (522, .aload_n 0, 523, []), (523, .iload 5, 525, []), (525, .iconst 2, 526, []), (526, .iadd, 527, []), (527, .iaload, 528, [])],
  [(528, .invokevirtual 174, 531, [0, 186, 2, 8154]), (531, .istore 7, 533, []), (533, .aload_n 2, 534, []), (534, .invokevirtual 159, 537, [0, 161, 0, 8068]), (537, .iload 6, 539, []), (539, .if_icmp .eq 5, 542, [544]), (542, .iconst 0, 543, []), (543, .ireturn, 544, [])],
  [(544, .iload 6, 546, []), (546, .ifCond .ne 15, 549, [561]), (549, .aload_n 3, 550, []), (550, .iconst 0, 551, []), (551, .laload, 552, []), (552, .iload 7, 554, []), (554, .i2l, 555, []), (555, .lcmp, 556, []), (556, .ifCond .eq 5, 559, [561]), (559, .iconst 0, 560, [])],
  [(560, .ireturn, 561, []), (561, .goto 2095, 564, [2656]), (564, .aload_n 1, 565, []), (565, .aload_n 0, 566, []), (566, .iload 5, 568, []), (568, .iconst 1, 569, []), (569, .iadd, 570, []), (570, .iaload, 571, []), (571, .aload_n 0, 572, []), (572, .iload 5, 574, []), (574, .iconst 2, 575, []), (575, .iadd, 576, [])],
  [(576, .iaload, 577, []), (577, .aload_n 0, 578, []), (578, .iload 5, 580, []), (580, .iconst 3, 581, []), (581, .iadd, 582, []), (582, .iaload, 583, []), (583, .aload_n 3, 584, []), (584, .invokestatic 175, 587, [9, 266, 5, 5176]), (587, .istore 6, 589, []), (589, .aload_n 2, 590, []), (590, .aload_n 0, 591, []), (591, .iload 5, 593, [])],
  [(593, .iconst 1, 594, []), (594, .iadd, 595, []), (595, .iaload, 596, []), (596, .aload_n 0, 597, []), (597, .iload 5, 599, []), (599, .iconst 2, 600, []), (600, .iadd, 601, []), (601, .iaload, 602, []), (602, .aload_n 0, 603, []), (603, .iload 5, 605, []), (605, .iconst 3, 606, []), (606, .iadd, 607, []), (607, .iaload, 608, [])],
  [(608, .invokevirtual 178, 611, [0, 191, 3, 8162]), (611, .istore 7, 613, []), (613, .aload_n 2, 614, []), (614, .invokevirtual 159, 617, [0, 161, 0, 8068]), (617, .iload 6, 619, []), (619, .if_icmp .eq 5, 622, [624]), (622, .iconst 0, 623, []), (623, .ireturn, 624, [])],
  [(624, .iload 6, 626, []), (626, .ifCond .ne 15, 629, [641]), (629, .aload_n 3, 630, []), (630, .iconst 0, 631, []), (631, .laload, 632, []), (632, .iload 7, 634, []), (634, .i2l, 635, []), (635, .lcmp, 636, []), (636, .ifCond .eq 5, 639, [641]), (639, .iconst 0, 640, [])],
  [(640, .ireturn, 641, []), (641, .goto 2015, 644, [2656]), (644, .aload_n 1, 645, []), (645, .aload_n 0, 646, []), (646, .iload 5, 648, []), (648, .iconst 1, 649, []), (649, .iadd, 650, []), (650, .iaload, 651, []), (651, .aload_n 0, 652, []), (652, .iload 5, 654, []), (654, .iconst 2, 655, []), (655, .iadd, 656, [])],
  [(656, .iaload, 657, []), (657, .aload_n 3, 658, []), (658, .invokestatic 179, 661, [9, 267, 4, 5185]), (661, .istore 6, 663, []), (663, .aload_n 2, 664, []), (664, .aload_n 0, 665, []), (665, .iload 5, 667, []), (667, .iconst 1, 668, []), (668, .iadd, 669, []), (669, .iaload, 670, []), (670, .aload_n 0, 671, []), (671, .iload 5, 673, [])],
  [(673, .iconst 2, 674, []), (674, .iadd, 675, []), (675, .iaload, 676, []), (676, .invokevirtual 181, 679, [0, 195, 2, 8170]), (679, .istore 7, 681, []), (681, .aload_n 2, 682, []), (682, .invokevirtual 159, 685, [0, 161, 0, 8068]), (685, .iload 6, 687, []), (687, .if_icmp .eq 5, 690, [692])],
  [(690, .iconst 0, 691, []), (691, .ireturn, 692, []), (692, .iload 6, 694, []), (694, .ifCond .ne 15, 697, [709]), (697, .aload_n 3, 698, []), (698, .iconst 0, 699, []), (699, .laload, 700, []), (700, .iload 7, 702, []), (702, .i2l, 703, []), (703, .lcmp, 704, [])],
  [(704, .ifCond .eq 5, 707, [709]), (707, .iconst 0, 708, []), (708, .ireturn, 709, []), (709, .goto 1947, 712, [2656]), (712, .aload_n 1, 713, []), (713, .aload_n 0, 714, []), (714, .iload 5, 716, []), (716, .iconst 1, 717, []), (717, .iadd, 718, []), (718, .iaload, 719, []), (719, .aload_n 3, 720, [])],
  [(720, .invokestatic 182, 723, [9, 268, 3, 5194]), (723, .istore 6, 725, []), (725, .aload_n 2, 726, []), (726, .aload_n 0, 727, []), (727, .iload 5, 729, []), (729, .iconst 1, 730, []), (730, .iadd, 731, []), (731, .iaload, 732, []), (732, .invokevirtual 184, 735, [0, 198, 1, 8198]), (735, .istore 7, 737, [])],
  [(737, .aload_n 2, 738, []), (738, .invokevirtual 159, 741, [0, 161, 0, 8068]), (741, .iload 6, 743, []), (743, .if_icmp .eq 5, 746, [748]), (746, .iconst 0, 747, []), (747, .ireturn, 748, []), (748, .iload 6, 750, []), (750, .ifCond .ne 15, 753, [765])],
  [(753, .aload_n 3, 754, []), (754, .iconst 0, 755, []), (755, .laload, 756, []), (756, .iload 7, 758, []), (758, .i2l, 759, []), (759, .lcmp, 760, []), (760, .ifCond .eq 5, 763, [765]), (763, .iconst 0, 764, []), (764, .ireturn, 765, []), (765, .goto 1891, 768, [2656])]]
set_option maxRecDepth 20000 in
noncomputable def z_r338_3 : List (List z_Row) := [[(768, .aload_n 1, 769, []), (769, .aload_n 3, 770, []), (770, .invokestatic 185, 773, [9, 269, 2, 5203]), (773, .istore 6, 775, []), (775, .aload_n 2, 776, []), (776, .invokevirtual 188, 779, [0, 203, 0, 8210]), (779, .istore 7, 781, []), (781, .aload_n 2, 782, []), (782, .invokevirtual 159, 785, [0, 161, 0, 8068])],
  [(785, .iload 6, 787, []), (787, .if_icmp .eq 5, 790, [792]), (790, .iconst 0, 791, []), (791, .ireturn, 792, []), (792, .iload 6, 794, []), (794, .ifCond .ne 15, 797, [809]), (797, .aload_n 3, 798, []), (798, .iconst 0, 799, []), (799, .laload, 800, [])],
  [(800, .iload 7, 802, []), (802, .i2l, 803, []), (803, .lcmp, 804, []), (804, .ifCond .eq 5, 807, [809]), (807, .iconst 0, 808, []), (808, .ireturn, 809, []), (809, .goto 1847, 812, [2656]), (812, .aload_n 1, 813, []), (813, .aload_n 0, 814, []), (814, .iload 5, 816, [])],
  [(816, .iconst 1, 817, []), (817, .iadd, 818, []), (818, .iaload, 819, []), (819, .aload_n 3, 820, []), (820, .invokestatic 189, 823, [9, 270, 3, 5211]), (823, .istore 6, 825, []), (825, .aload_n 2, 826, []), (826, .aload_n 0, 827, []), (827, .iload 5, 829, []), (829, .iconst 1, 830, []), (830, .iadd, 831, []), (831, .iaload, 832, [])],
  [(832, .invokevirtual 191, 835, [0, 207, 1, 8230]), (835, .istore 7, 837, []), (837, .aload_n 2, 838, []), (838, .invokevirtual 159, 841, [0, 161, 0, 8068]), (841, .iload 6, 843, []), (843, .if_icmp .eq 5, 846, [848]), (846, .iconst 0, 847, []), (847, .ireturn, 848, [])],
  [(848, .iload 6, 850, []), (850, .ifCond .ne 15, 853, [865]), (853, .aload_n 3, 854, []), (854, .iconst 0, 855, []), (855, .laload, 856, []), (856, .iload 7, 858, []), (858, .i2l, 859, []), (859, .lcmp, 860, []), (860, .ifCond .eq 5, 863, [865]), (863, .iconst 0, 864, [])],
  [(864, .ireturn, 865, []), (865, .goto 1791, 868, [2656]), (868, .aload_n 1, 869, []), (869, .aload_n 0, 870, []), (870, .iload 5, 872, []), (872, .iconst 1, 873, []), (873, .iadd, 874, []), (874, .iaload, 875, []), (875, .aload_n 0, 876, []), (876, .iload 5, 878, []), (878, .iconst 2, 879, []), (879, .iadd, 880, [])],
  [(880, .iaload, 881, []), (881, .aload_n 3, 882, []), (882, .invokestatic 192, 885, [9, 271, 4, 5220]), (885, .istore 6, 887, []), (887, .aload_n 2, 888, []), (888, .aload_n 0, 889, []), (889, .iload 5, 891, []), (891, .iconst 1, 892, []), (892, .iadd, 893, []), (893, .iaload, 894, []), (894, .aload_n 0, 895, []), (895, .iload 5, 897, [])],
  [(897, .iconst 2, 898, []), (898, .iadd, 899, []), (899, .iaload, 900, []), (900, .invokevirtual 194, 903, [0, 211, 2, 9010]), (903, .istore 7, 905, []), (905, .aload_n 2, 906, []), (906, .invokevirtual 159, 909, [0, 161, 0, 8068]), (909, .iload 6, 911, []), (911, .if_icmp .eq 5, 914, [916])],
  [(914, .iconst 0, 915, []), (915, .ireturn, 916, []), (916, .iload 6, 918, []), (918, .ifCond .ne 15, 921, [933]), (921, .aload_n 3, 922, []), (922, .iconst 0, 923, []), (923, .laload, 924, []), (924, .iload 7, 926, []), (926, .i2l, 927, []), (927, .lcmp, 928, [])],
  [(928, .ifCond .eq 5, 931, [933]), (931, .iconst 0, 932, []), (932, .ireturn, 933, []), (933, .goto 1723, 936, [2656]), (936, .aload_n 1, 937, []), (937, .aload_n 0, 938, []), (938, .iload 5, 940, []), (940, .iconst 1, 941, []), (941, .iadd, 942, []), (942, .iaload, 943, []), (943, .aload_n 0, 944, [])],
  [(944, .iload 5, 946, []), (946, .iconst 2, 947, []), (947, .iadd, 948, []), (948, .iaload, 949, []), (949, .aload_n 3, 950, []), (950, .invokestatic 195, 953, [9, 272, 4, 6018]), (953, .istore 6, 955, []), (955, .aload_n 2, 956, []), (956, .aload_n 0, 957, []), (957, .iload 5, 959, []), (959, .iconst 1, 960, [])],
  [(960, .iadd, 961, []), (961, .iaload, 962, []), (962, .aload_n 0, 963, []), (963, .iload 5, 965, []), (965, .iconst 2, 966, []), (966, .iadd, 967, []), (967, .iaload, 968, []), (968, .invokevirtual 197, 971, [0, 212, 2, 9026]), (971, .istore 7, 973, []), (973, .aload_n 2, 974, []), (974, .invokevirtual 159, 977, [0, 161, 0, 8068])],
  [(977, .iload 6, 979, []), (979, .if_icmp .eq 5, 982, [984]), (982, .iconst 0, 983, []), (983, .ireturn, 984, []), (984, .iload 6, 986, []), (986, .ifCond .ne 15, 989, [1001]), (989, .aload_n 3, 990, []), (990, .iconst 0, 991, []), (991, .laload, 992, [])],
  [(992, .iload 7, 994, []), (994, .i2l, 995, []), (995, .lcmp, 996, []), (996, .ifCond .eq 5, 999, [1001]), (999, .iconst 0, 1000, []), (1000, .ireturn, 1001, []), (1001, .goto 1655, 1004, [2656]), (1004, .aload_n 1, 1005, []), (1005, .aload_n 0, 1006, []), (1006, .iload 5, 1008, [])],
  [(1008, .iconst 1, 1009, []), (1009, .iadd, 1010, []), (1010, .iaload, 1011, []), (1011, .aload_n 3, 1012, []), (1012, .invokestatic 198, 1015, [9, 273, 3, 6032]), (1015, .istore 6, 1017, []), (1017, .aload_n 2, 1018, []), (1018, .aload_n 0, 1019, []), (1019, .iload 5, 1021, []), (1021, .iconst 1, 1022, []), (1022, .iadd, 1023, []), (1023, .iaload, 1024, [])]]
set_option maxRecDepth 20000 in
noncomputable def z_r338_4 : List (List z_Row) := [[(1024, .invokevirtual 200, 1027, [0, 213, 1, 9030]), (1027, .istore 7, 1029, []), (1029, .aload_n 2, 1030, []), (1030, .invokevirtual 159, 1033, [0, 161, 0, 8068]), (1033, .iload 6, 1035, []), (1035, .if_icmp .eq 5, 1038, [1040]), (1038, .iconst 0, 1039, []), (1039, .ireturn, 1040, [])],
  [(1040, .iload 6, 1042, []), (1042, .ifCond .ne 15, 1045, [1057]), (1045, .aload_n 3, 1046, []), (1046, .iconst 0, 1047, []), (1047, .laload, 1048, []), (1048, .iload 7, 1050, []), (1050, .i2l, 1051, []), (1051, .lcmp, 1052, []), (1052, .ifCond .eq 5, 1055, [1057]), (1055, .iconst 0, 1056, [])],
  [(1056, .ireturn, 1057, []), (1057, .goto 1599, 1060, [2656]), (1060, .aload_n 1, 1061, []), (1061, .aload_n 0, 1062, []), (1062, .iload 5, 1064, []), (1064, .iconst 1, 1065, []), (1065, .iadd, 1066, []), (1066, .iaload, 1067, []), (1067, .aload_n 0, 1068, []), (1068, .iload 5, 1070, []), (1070, .iconst 2, 1071, []), (1071, .iadd, 1072, [])],
  [(1072, .iaload, 1073, []), (1073, .aload_n 3, 1074, []), (1074, .invokestatic 201, 1077, [9, 274, 4, 6040]), (1077, .istore 6, 1079, []), (1079, .aload_n 2, 1080, []), (1080, .aload_n 0, 1081, []), (1081, .iload 5, 1083, []), (1083, .iconst 1, 1084, []), (1084, .iadd, 1085, []), (1085, .iaload, 1086, []), (1086, .aload_n 0, 1087, []), (1087, .iload 5, 1089, [])],
  [(1089, .iconst 2, 1090, []), (1090, .iadd, 1091, []), (1091, .iaload, 1092, []), (1092, .invokevirtual 203, 1095, [0, 214, 2, 9034]), (1095, .istore 7, 1097, []), (1097, .aload_n 2, 1098, []), (1098, .invokevirtual 159, 1101, [0, 161, 0, 8068]), (1101, .iload 6, 1103, []), (1103, .if_icmp .eq 5, 1106, [1108])],
  [(1106, .iconst 0, 1107, []), (1107, .ireturn, 1108, []), (1108, .iload 6, 1110, []), (1110, .ifCond .ne 22, 1113, [1132]), (1113, .aload_n 3, 1114, []), (1114, .iconst 0, 1115, []), (1115, .laload, 1116, []), (1116, .iload 7, 1118, []), (1118, .ifCond .eq 7, 1121, [1125])],
  [(1121, .lconst 1, 1122, []), (1122, .goto 4, 1125, [1126]), (1125, .lconst 0, 1126, []), (1126, .lcmp, 1127, []), (1127, .ifCond .eq 5, 1130, [1132]), (1130, .iconst 0, 1131, []), (1131, .ireturn, 1132, []), (1132, .goto 1524, 1135, [2656]), (1135, .aload_n 1, 1136, [])],
  [(1136, .aload_n 0, 1137, []), (1137, .iload 5, 1139, []), (1139, .iconst 1, 1140, []), (1140, .iadd, 1141, []), (1141, .iaload, 1142, []), (1142, .aload_n 0, 1143, []), (1143, .iload 5, 1145, []), (1145, .iconst 2, 1146, []), (1146, .iadd, 1147, []), (1147, .iaload, 1148, []), (1148, .aload_n 3, 1149, []), (1149, .invokestatic 204, 1152, [9, 275, 4, 6048])],
  [(1152, .istore 6, 1154, []), (1154, .aload_n 2, 1155, []), (1155, .aload_n 0, 1156, []), (1156, .iload 5, 1158, []), (1158, .iconst 1, 1159, []), (1159, .iadd, 1160, []), (1160, .iaload, 1161, []), (1161, .aload_n 0, 1162, []), (1162, .iload 5, 1164, []), (1164, .iconst 2, 1165, []), (1165, .iadd, 1166, []), (1166, .iaload, 1167, []), (1167, .invokevirtual 206, 1170, [0, 215, 2, 9038])],
  [(1170, .istore 7, 1172, []), (1172, .aload_n 2, 1173, []), (1173, .invokevirtual 159, 1176, [0, 161, 0, 8068]), (1176, .iload 6, 1178, []), (1178, .if_icmp .eq 5, 1181, [1183]), (1181, .iconst 0, 1182, []), (1182, .ireturn, 1183, []), (1183, .iload 6, 1185, [])],
  [(1185, .ifCond .ne 15, 1188, [1200]), (1188, .aload_n 3, 1189, []), (1189, .iconst 0, 1190, []), (1190, .laload, 1191, []), (1191, .iload 7, 1193, []), (1193, .i2l, 1194, []), (1194, .lcmp, 1195, []), (1195, .ifCond .eq 5, 1198, [1200]), (1198, .iconst 0, 1199, []), (1199, .ireturn, 1200, [])],
  [(1200, .goto 1456, 1203, [2656]), (1203, .aload_n 1, 1204, []), (1204, .aload_n 0, 1205, []), (1205, .iload 5, 1207, []), (1207, .iconst 1, 1208, []), (1208, .iadd, 1209, []), (1209, .iaload, 1210, []), (1210, .aload_n 3, 1211, []), (1211, .invokestatic 207, 1214, [9, 276, 3, 6056]), (1214, .istore 6, 1216, [])],
  [(1216, .aload_n 2, 1217, []), (1217, .aload_n 0, 1218, []), (1218, .iload 5, 1220, []), (1220, .iconst 1, 1221, []), (1221, .iadd, 1222, []), (1222, .iaload, 1223, []), (1223, .invokevirtual 209, 1226, [0, 216, 1, 9042]), (1226, .istore 7, 1228, []), (1228, .aload_n 2, 1229, []), (1229, .invokevirtual 159, 1232, [0, 161, 0, 8068])],
  [(1232, .iload 6, 1234, []), (1234, .if_icmp .eq 5, 1237, [1239]), (1237, .iconst 0, 1238, []), (1238, .ireturn, 1239, []), (1239, .iload 6, 1241, []), (1241, .ifCond .ne 15, 1244, [1256]), (1244, .aload_n 3, 1245, []), (1245, .iconst 0, 1246, []), (1246, .laload, 1247, []), (1247, .iload 7, 1249, [])],
  [(1249, .i2l, 1250, []), (1250, .lcmp, 1251, []), (1251, .ifCond .eq 5, 1254, [1256]), (1254, .iconst 0, 1255, []), (1255, .ireturn, 1256, []), (1256, .goto 1400, 1259, [2656]), (1259, .aload_n 1, 1260, []), (1260, .aload_n 0, 1261, []), (1261, .iload 5, 1263, []), (1263, .iconst 1, 1264, [])],
  [(1264, .iadd, 1265, []), (1265, .iaload, 1266, []), (1266, .aload_n 0, 1267, []), (1267, .iload 5, 1269, []), (1269, .iconst 2, 1270, []), (1270, .iadd, 1271, []), (1271, .iaload, 1272, []), (1272, .aload_n 3, 1273, []), (1273, .invokestatic 210, 1276, [9, 277, 4, 6084]), (1276, .istore 6, 1278, []), (1278, .aload_n 2, 1279, []), (1279, .aload_n 0, 1280, [])]]
set_option maxRecDepth 20000 in
noncomputable def z_r338_5 : List (List z_Row) := [[(1280, .iload 5, 1282, []), (1282, .iconst 1, 1283, []), (1283, .iadd, 1284, []), (1284, .iaload, 1285, []), (1285, .aload_n 0, 1286, []), (1286, .iload 5, 1288, []), (1288, .iconst 2, 1289, []), (1289, .iadd, 1290, []), (1290, .iaload, 1291, []), (1291, .invokevirtual 212, 1294, [0, 218, 2, 9046]), (1294, .istore 7, 1296, [])],
  [(1296, .aload_n 2, 1297, []), (1297, .invokevirtual 159, 1300, [0, 161, 0, 8068]), (1300, .iload 6, 1302, []), (1302, .if_icmp .eq 5, 1305, [1307]), (1305, .iconst 0, 1306, []), (1306, .ireturn, 1307, []), (1307, .iload 6, 1309, []), (1309, .ifCond .ne 15, 1312, [1324])],
  [(1312, .aload_n 3, 1313, []), (1313, .iconst 0, 1314, []), (1314, .laload, 1315, []), (1315, .iload 7, 1317, []), (1317, .i2l, 1318, []), (1318, .lcmp, 1319, []), (1319, .ifCond .eq 5, 1322, [1324]), (1322, .iconst 0, 1323, []), (1323, .ireturn, 1324, []), (1324, .goto 1332, 1327, [2656]), (1327, .aload_n 1, 1328, [])],
  [(1328, .aload_n 0, 1329, []), (1329, .iload 5, 1331, []), (1331, .iconst 1, 1332, []), (1332, .iadd, 1333, []), (1333, .iaload, 1334, []), (1334, .aload_n 0, 1335, []), (1335, .iload 5, 1337, []), (1337, .iconst 2, 1338, []), (1338, .iadd, 1339, []), (1339, .iaload, 1340, []), (1340, .aload_n 3, 1341, []), (1341, .invokestatic 213, 1344, [9, 278, 4, 6096])],
  [(1344, .istore 6, 1346, []), (1346, .aload_n 2, 1347, []), (1347, .aload_n 0, 1348, []), (1348, .iload 5, 1350, []), (1350, .iconst 1, 1351, []), (1351, .iadd, 1352, []), (1352, .iaload, 1353, []), (1353, .aload_n 0, 1354, []), (1354, .iload 5, 1356, []), (1356, .iconst 2, 1357, []), (1357, .iadd, 1358, []), (1358, .iaload, 1359, []), (1359, .invokevirtual 215, 1362, [0, 219, 2, 9054])],
  [(1362, .istore 7, 1364, []), (1364, .aload_n 2, 1365, []), (1365, .invokevirtual 159, 1368, [0, 161, 0, 8068]), (1368, .iload 6, 1370, []), (1370, .if_icmp .eq 5, 1373, [1375]), (1373, .iconst 0, 1374, []), (1374, .ireturn, 1375, []), (1375, .iload 6, 1377, [])],
  [(1377, .ifCond .ne 15, 1380, [1392]), (1380, .aload_n 3, 1381, []), (1381, .iconst 0, 1382, []), (1382, .laload, 1383, []), (1383, .iload 7, 1385, []), (1385, .i2l, 1386, []), (1386, .lcmp, 1387, []), (1387, .ifCond .eq 5, 1390, [1392]), (1390, .iconst 0, 1391, []), (1391, .ireturn, 1392, [])],
  [(1392, .goto 1264, 1395, [2656]), (1395, .aload_n 1, 1396, []), (1396, .aload_n 3, 1397, []), (1397, .invokestatic 216, 1400, [9, 279, 2, 6103]), (1400, .istore 6, 1402, []), (1402, .aload_n 2, 1403, []), (1403, .invokevirtual 218, 1406, [0, 220, 0, 9059]), (1406, .istore 7, 1408, [])],
  [(1408, .aload_n 2, 1409, []), (1409, .invokevirtual 159, 1412, [0, 161, 0, 8068]), (1412, .iload 6, 1414, []), (1414, .if_icmp .eq 5, 1417, [1419]), (1417, .iconst 0, 1418, []), (1418, .ireturn, 1419, []), (1419, .iload 6, 1421, []), (1421, .ifCond .ne 15, 1424, [1436])],
  [(1424, .aload_n 3, 1425, []), (1425, .iconst 0, 1426, []), (1426, .laload, 1427, []), (1427, .iload 7, 1429, []), (1429, .i2l, 1430, []), (1430, .lcmp, 1431, []), (1431, .ifCond .eq 5, 1434, [1436]), (1434, .iconst 0, 1435, []), (1435, .ireturn, 1436, []), (1436, .goto 1220, 1439, [2656]), (1439, .aload_n 1, 1440, [])],
  [(1440, .aload_n 0, 1441, []), (1441, .iload 5, 1443, []), (1443, .iconst 1, 1444, []), (1444, .iadd, 1445, []), (1445, .iaload, 1446, []), (1446, .aload_n 3, 1447, []), (1447, .invokestatic 219, 1450, [9, 280, 3, 6115]), (1450, .istore 6, 1452, []), (1452, .aload_n 2, 1453, []), (1453, .aload_n 0, 1454, []), (1454, .iload 5, 1456, [])],
  [(1456, .iconst 1, 1457, []), (1457, .iadd, 1458, []), (1458, .iaload, 1459, []), (1459, .invokevirtual 221, 1462, [0, 221, 1, 9063]), (1462, .istore 7, 1464, []), (1464, .aload_n 2, 1465, []), (1465, .invokevirtual 159, 1468, [0, 161, 0, 8068]), (1468, .iload 6, 1470, []), (1470, .if_icmp .eq 5, 1473, [1475])],
  [(1473, .iconst 0, 1474, []), (1474, .ireturn, 1475, []), (1475, .iload 6, 1477, []), (1477, .ifCond .ne 15, 1480, [1492]), (1480, .aload_n 3, 1481, []), (1481, .iconst 0, 1482, []), (1482, .laload, 1483, []), (1483, .iload 7, 1485, []), (1485, .i2l, 1486, []), (1486, .lcmp, 1487, []), (1487, .ifCond .eq 5, 1490, [1492])],
  [(1490, .iconst 0, 1491, []), (1491, .ireturn, 1492, []), (1492, .goto 1164, 1495, [2656]), (1495, .aload_n 1, 1496, []), (1496, .aload_n 0, 1497, []), (1497, .iload 5, 1499, []), (1499, .iconst 1, 1500, []), (1500, .iadd, 1501, []), (1501, .iaload, 1502, []), (1502, .aload_n 0, 1503, []), (1503, .iload 5, 1505, [])],
  [(1505, .iconst 2, 1506, []), (1506, .iadd, 1507, []), (1507, .iaload, 1508, []), (1508, .aload_n 3, 1509, []), (1509, .invokestatic 222, 1512, [9, 281, 4, 6123]), (1512, .istore 6, 1514, []), (1514, .aload_n 2, 1515, []), (1515, .aload_n 0, 1516, []), (1516, .iload 5, 1518, []), (1518, .iconst 1, 1519, []), (1519, .iadd, 1520, [])],
  [(1520, .iaload, 1521, []), (1521, .aload_n 0, 1522, []), (1522, .iload 5, 1524, []), (1524, .iconst 2, 1525, []), (1525, .iadd, 1526, []), (1526, .iaload, 1527, []), (1527, .invokevirtual 224, 1530, [0, 222, 2, 9067]), (1530, .istore 7, 1532, []), (1532, .aload_n 2, 1533, []), (1533, .invokevirtual 159, 1536, [0, 161, 0, 8068])]]
set_option maxRecDepth 20000 in
noncomputable def z_r338_6 : List (List z_Row) := [[(1536, .iload 6, 1538, []), (1538, .if_icmp .eq 5, 1541, [1543]), (1541, .iconst 0, 1542, []), (1542, .ireturn, 1543, []), (1543, .iload 6, 1545, []), (1545, .ifCond .ne 15, 1548, [1560]), (1548, .aload_n 3, 1549, []), (1549, .iconst 0, 1550, []), (1550, .laload, 1551, []), (1551, .iload 7, 1553, [])],
  [(1553, .i2l, 1554, []), (1554, .lcmp, 1555, []), (1555, .ifCond .eq 5, 1558, [1560]), (1558, .iconst 0, 1559, []), (1559, .ireturn, 1560, []), (1560, .goto 1096, 1563, [2656]), (1563, .aload_n 1, 1564, []), (1564, .aload_n 0, 1565, []), (1565, .iload 5, 1567, []), (1567, .iconst 1, 1568, [])],
  [(1568, .iadd, 1569, []), (1569, .iaload, 1570, []), (1570, .aload_n 3, 1571, []), (1571, .invokestatic 225, 1574, [9, 282, 3, 6130]), (1574, .istore 6, 1576, []), (1576, .aload_n 2, 1577, []), (1577, .aload_n 0, 1578, []), (1578, .iload 5, 1580, []), (1580, .iconst 1, 1581, []), (1581, .iadd, 1582, []), (1582, .iaload, 1583, []), (1583, .invokevirtual 227, 1586, [0, 223, 1, 9071])],
  [(1586, .istore 7, 1588, []), (1588, .aload_n 2, 1589, []), (1589, .invokevirtual 159, 1592, [0, 161, 0, 8068]), (1592, .iload 6, 1594, []), (1594, .if_icmp .eq 5, 1597, [1599]), (1597, .iconst 0, 1598, []), (1598, .ireturn, 1599, []), (1599, .iload 6, 1601, [])],
  [(1601, .ifCond .ne 15, 1604, [1616]), (1604, .aload_n 3, 1605, []), (1605, .iconst 0, 1606, []), (1606, .laload, 1607, []), (1607, .iload 7, 1609, []), (1609, .i2l, 1610, []), (1610, .lcmp, 1611, []), (1611, .ifCond .eq 5, 1614, [1616]), (1614, .iconst 0, 1615, []), (1615, .ireturn, 1616, [])],
  [(1616, .goto 1040, 1619, [2656]), (1619, .aload_n 1, 1620, []), (1620, .aload_n 0, 1621, []), (1621, .iload 5, 1623, []), (1623, .iconst 1, 1624, []), (1624, .iadd, 1625, []), (1625, .iaload, 1626, []), (1626, .aload_n 3, 1627, []), (1627, .invokestatic 228, 1630, [9, 283, 3, 6138]), (1630, .istore 6, 1632, [])],
  [(1632, .aload_n 2, 1633, []), (1633, .aload_n 0, 1634, []), (1634, .iload 5, 1636, []), (1636, .iconst 1, 1637, []), (1637, .iadd, 1638, []), (1638, .iaload, 1639, []), (1639, .invokevirtual 230, 1642, [0, 224, 1, 9075]), (1642, .istore 7, 1644, []), (1644, .aload_n 2, 1645, []), (1645, .invokevirtual 159, 1648, [0, 161, 0, 8068])],
  [(1648, .iload 6, 1650, []), (1650, .if_icmp .eq 5, 1653, [1655]), (1653, .iconst 0, 1654, []), (1654, .ireturn, 1655, []), (1655, .iload 6, 1657, []), (1657, .ifCond .ne 15, 1660, [1672]), (1660, .aload_n 3, 1661, []), (1661, .iconst 0, 1662, []), (1662, .laload, 1663, []), (1663, .iload 7, 1665, [])],
  [(1665, .i2l, 1666, []), (1666, .lcmp, 1667, []), (1667, .ifCond .eq 5, 1670, [1672]), (1670, .iconst 0, 1671, []), (1671, .ireturn, 1672, []), (1672, .goto 984, 1675, [2656]), (1675, .aload_n 1, 1676, []), (1676, .aload_n 0, 1677, []), (1677, .iload 5, 1679, []), (1679, .iconst 1, 1680, [])],
  [(1680, .iadd, 1681, []), (1681, .iaload, 1682, []), (1682, .aload_n 3, 1683, []), (1683, .invokestatic 231, 1686, [9, 284, 3, 6145]), (1686, .istore 6, 1688, []), (1688, .aload_n 2, 1689, []), (1689, .aload_n 0, 1690, []), (1690, .iload 5, 1692, []), (1692, .iconst 1, 1693, []), (1693, .iadd, 1694, []), (1694, .iaload, 1695, []), (1695, .invokevirtual 233, 1698, [0, 225, 1, 9079])],
  [(1698, .istore 7, 1700, []), (1700, .aload_n 2, 1701, []), (1701, .invokevirtual 159, 1704, [0, 161, 0, 8068]), (1704, .iload 6, 1706, []), (1706, .if_icmp .eq 5, 1709, [1711]), (1709, .iconst 0, 1710, []), (1710, .ireturn, 1711, []), (1711, .iload 6, 1713, [])],
  [(1713, .ifCond .ne 15, 1716, [1728]), (1716, .aload_n 3, 1717, []), (1717, .iconst 0, 1718, []), (1718, .laload, 1719, []), (1719, .iload 7, 1721, []), (1721, .i2l, 1722, []), (1722, .lcmp, 1723, []), (1723, .ifCond .eq 5, 1726, [1728]), (1726, .iconst 0, 1727, []), (1727, .ireturn, 1728, [])],
  [(1728, .goto 928, 1731, [2656]), (1731, .aload_n 1, 1732, []), (1732, .aload_n 0, 1733, []), (1733, .iload 5, 1735, []), (1735, .iconst 1, 1736, []), (1736, .iadd, 1737, []), (1737, .iaload, 1738, []), (1738, .aload_n 3, 1739, []), (1739, .invokestatic 234, 1742, [9, 285, 3, 6152]), (1742, .istore 6, 1744, [])],
  [(1744, .aload_n 2, 1745, []), (1745, .aload_n 0, 1746, []), (1746, .iload 5, 1748, []), (1748, .iconst 1, 1749, []), (1749, .iadd, 1750, []), (1750, .iaload, 1751, []), (1751, .invokevirtual 236, 1754, [0, 227, 1, 9084]), (1754, .istore 7, 1756, []), (1756, .aload_n 2, 1757, []), (1757, .invokevirtual 159, 1760, [0, 161, 0, 8068])],
  [(1760, .iload 6, 1762, []), (1762, .if_icmp .eq 5, 1765, [1767]), (1765, .iconst 0, 1766, []), (1766, .ireturn, 1767, []), (1767, .iload 6, 1769, []), (1769, .ifCond .ne 22, 1772, [1791]), (1772, .aload_n 3, 1773, []), (1773, .iconst 0, 1774, []), (1774, .laload, 1775, []), (1775, .iload 7, 1777, [])],
  [(1777, .ifCond .eq 7, 1780, [1784]), (1780, .lconst 1, 1781, []), (1781, .goto 4, 1784, [1785]), (1784, .lconst 0, 1785, []), (1785, .lcmp, 1786, []), (1786, .ifCond .eq 5, 1789, [1791]), (1789, .iconst 0, 1790, []), (1790, .ireturn, 1791, []), (1791, .goto 865, 1794, [2656])]]
set_option maxRecDepth 20000 in
noncomputable def z_r338_7 : List (List z_Row) := [[(1794, .aload_n 1, 1795, []), (1795, .invokevirtual 237, 1798, [0, 135, 0, 2092]), (1798, .aload_n 2, 1799, []), (1799, .invokevirtual 240, 1802, [0, 228, 0, 9092]), (1802, .if_icmp .eq 854, 1805, [2656]), (1805, .iconst 0, 1806, []), (1806, .ireturn, 1807, []), (1807, .aload_n 1, 1808, [])],
  [(1808, .aload_n 3, 1809, []), (1809, .invokestatic 241, 1812, [9, 286, 2, 6159]), (1812, .istore 6, 1814, []), (1814, .aload_n 2, 1815, []), (1815, .invokevirtual 243, 1818, [0, 229, 0, 9096]), (1818, .istore 7, 1820, []), (1820, .aload_n 2, 1821, []), (1821, .invokevirtual 159, 1824, [0, 161, 0, 8068])],
  [(1824, .iload 6, 1826, []), (1826, .if_icmp .eq 5, 1829, [1831]), (1829, .iconst 0, 1830, []), (1830, .ireturn, 1831, []), (1831, .iload 6, 1833, []), (1833, .ifCond .ne 15, 1836, [1848]), (1836, .aload_n 3, 1837, []), (1837, .iconst 0, 1838, []), (1838, .laload, 1839, []), (1839, .iload 7, 1841, [])],
  [(1841, .i2l, 1842, []), (1842, .lcmp, 1843, []), (1843, .ifCond .eq 5, 1846, [1848]), (1846, .iconst 0, 1847, []), (1847, .ireturn, 1848, []), (1848, .goto 808, 1851, [2656]), (1851, .aload_n 1, 1852, []), (1852, .aload_n 0, 1853, []), (1853, .iload 5, 1855, []), (1855, .iconst 1, 1856, [])],
  [(1856, .iadd, 1857, []), (1857, .iaload, 1858, []), (1858, .aload_n 3, 1859, []), (1859, .invokestatic 244, 1862, [9, 287, 3, 6171]), (1862, .istore 6, 1864, []), (1864, .aload_n 2, 1865, []), (1865, .aload_n 0, 1866, []), (1866, .iload 5, 1868, []), (1868, .iconst 1, 1869, []), (1869, .iadd, 1870, []), (1870, .iaload, 1871, []), (1871, .invokevirtual 246, 1874, [0, 231, 1, 9100])],
  [(1874, .istore 7, 1876, []), (1876, .aload_n 2, 1877, []), (1877, .invokevirtual 159, 1880, [0, 161, 0, 8068]), (1880, .iload 6, 1882, []), (1882, .if_icmp .eq 5, 1885, [1887]), (1885, .iconst 0, 1886, []), (1886, .ireturn, 1887, []), (1887, .iload 6, 1889, [])],
  [(1889, .ifCond .ne 15, 1892, [1904]), (1892, .aload_n 3, 1893, []), (1893, .iconst 0, 1894, []), (1894, .laload, 1895, []), (1895, .iload 7, 1897, []), (1897, .i2l, 1898, []), (1898, .lcmp, 1899, []), (1899, .ifCond .eq 5, 1902, [1904]), (1902, .iconst 0, 1903, []), (1903, .ireturn, 1904, [])],
  [(1904, .goto 752, 1907, [2656]), (1907, .aload_n 1, 1908, []), (1908, .aload_n 0, 1909, []), (1909, .iload 5, 1911, []), (1911, .iconst 1, 1912, []), (1912, .iadd, 1913, []), (1913, .iaload, 1914, []), (1914, .aload_n 0, 1915, []), (1915, .iload 5, 1917, []), (1917, .iconst 2, 1918, []), (1918, .iadd, 1919, []), (1919, .iaload, 1920, [])],
  [(1920, .aload_n 3, 1921, []), (1921, .invokestatic 247, 1924, [9, 288, 4, 6184]), (1924, .istore 6, 1926, []), (1926, .aload_n 2, 1927, []), (1927, .aload_n 0, 1928, []), (1928, .iload 5, 1930, []), (1930, .iconst 1, 1931, []), (1931, .iadd, 1932, []), (1932, .iaload, 1933, []), (1933, .aload_n 0, 1934, []), (1934, .iload 5, 1936, [])],
  [(1936, .iconst 2, 1937, []), (1937, .iadd, 1938, []), (1938, .iaload, 1939, []), (1939, .invokevirtual 249, 1942, [0, 232, 2, 9108]), (1942, .istore 7, 1944, []), (1944, .aload_n 2, 1945, []), (1945, .invokevirtual 159, 1948, [0, 161, 0, 8068]), (1948, .iload 6, 1950, []), (1950, .if_icmp .eq 5, 1953, [1955])],
  [(1953, .iconst 0, 1954, []), (1954, .ireturn, 1955, []), (1955, .iload 6, 1957, []), (1957, .ifCond .ne 15, 1960, [1972]), (1960, .aload_n 3, 1961, []), (1961, .iconst 0, 1962, []), (1962, .laload, 1963, []), (1963, .iload 7, 1965, []), (1965, .i2l, 1966, []), (1966, .lcmp, 1967, []), (1967, .ifCond .eq 5, 1970, [1972])],
  [(1970, .iconst 0, 1971, []), (1971, .ireturn, 1972, []), (1972, .goto 684, 1975, [2656]), (1975, .aload_n 1, 1976, []), (1976, .invokevirtual 250, 1979, [0, 139, 0, 2159]), (1979, .aload_n 2, 1980, []), (1980, .invokevirtual 254, 1983, [0, 233, 0, 9112]), (1983, .if_icmp .eq 673, 1986, [2656])],
  [(1986, .iconst 0, 1987, []), (1987, .ireturn, 1988, []), (1988, .aload_n 1, 1989, []), (1989, .aload_n 0, 1990, []), (1990, .iload 5, 1992, []), (1992, .iconst 1, 1993, []), (1993, .iadd, 1994, []), (1994, .iaload, 1995, []), (1995, .i2c, 1996, []), (1996, .aload_n 3, 1997, []), (1997, .invokestatic 255, 2000, [9, 289, 3, 6204])],
  [(2000, .istore 6, 2002, []), (2002, .aload_n 2, 2003, []), (2003, .aload_n 0, 2004, []), (2004, .iload 5, 2006, []), (2006, .iconst 1, 2007, []), (2007, .iadd, 2008, []), (2008, .iaload, 2009, []), (2009, .i2c, 2010, []), (2010, .invokevirtual 258, 2013, [0, 234, 1, 9116]), (2013, .istore 7, 2015, []), (2015, .aload_n 2, 2016, [])],
  [(2016, .invokevirtual 159, 2019, [0, 161, 0, 8068]), (2019, .iload 6, 2021, []), (2021, .if_icmp .eq 5, 2024, [2026]), (2024, .iconst 0, 2025, []), (2025, .ireturn, 2026, []), (2026, .iload 6, 2028, []), (2028, .ifCond .ne 15, 2031, [2043]), (2031, .aload_n 3, 2032, [])],
  [(2032, .iconst 0, 2033, []), (2033, .laload, 2034, []), (2034, .iload 7, 2036, []), (2036, .i2l, 2037, []), (2037, .lcmp, 2038, []), (2038, .ifCond .eq 5, 2041, [2043]), (2041, .iconst 0, 2042, []), (2042, .ireturn, 2043, []), (2043, .goto 613, 2046, [2656]), (2046, .aload_n 1, 2047, []), (2047, .aload_n 3, 2048, [])]]
set_option maxRecDepth 20000 in
noncomputable def z_r338_8 : List (List z_Row) := [[(2048, .invokestatic 259, 2051, [9, 290, 2, 6239]), (2051, .istore 6, 2053, []), (2053, .aload_n 2, 2054, []), (2054, .invokevirtual 261, 2057, [0, 244, 0, 9120]), (2057, .istore 7, 2059, []), (2059, .aload_n 2, 2060, []), (2060, .invokevirtual 159, 2063, [0, 161, 0, 8068]), (2063, .iload 6, 2065, [])],
  [(2065, .if_icmp .eq 5, 2068, [2070]), (2068, .iconst 0, 2069, []), (2069, .ireturn, 2070, []), (2070, .iload 6, 2072, []), (2072, .ifCond .ne 15, 2075, [2087]), (2075, .aload_n 3, 2076, []), (2076, .iconst 0, 2077, []), (2077, .laload, 2078, []), (2078, .iload 7, 2080, [])],
  [(2080, .i2l, 2081, []), (2081, .lcmp, 2082, []), (2082, .ifCond .eq 5, 2085, [2087]), (2085, .iconst 0, 2086, []), (2086, .ireturn, 2087, []), (2087, .goto 569, 2090, [2656]), (2090, .aload_n 1, 2091, []), (2091, .invokevirtual 262, 2094, [0, 145, 0, 3019]), (2094, .aload_n 2, 2095, []), (2095, .invokevirtual 265, 2098, [0, 245, 0, 9160])],
  [(2098, .if_icmp .eq 558, 2101, [2656]), (2101, .iconst 0, 2102, []), (2102, .ireturn, 2103, []), (2103, .aload_n 1, 2104, []), (2104, .aload_n 0, 2105, []), (2105, .iload 5, 2107, []), (2107, .iconst 1, 2108, []), (2108, .iadd, 2109, []), (2109, .iaload, 2110, []), (2110, .aload_n 0, 2111, []), (2111, .iload 5, 2113, [])],
  [(2113, .iconst 2, 2114, []), (2114, .iadd, 2115, []), (2115, .iaload, 2116, []), (2116, .ifCond .eq 7, 2119, [2123]), (2119, .iconst 1, 2120, []), (2120, .goto 4, 2123, [2124]), (2123, .iconst 0, 2124, []), (2124, .aload_n 3, 2125, []), (2125, .invokestatic 266, 2128, [9, 291, 4, 7136])],
  [(2128, .istore 6, 2130, []), (2130, .aload_n 2, 2131, []), (2131, .aload_n 0, 2132, []), (2132, .iload 5, 2134, []), (2134, .iconst 1, 2135, []), (2135, .iadd, 2136, []), (2136, .iaload, 2137, []), (2137, .aload_n 0, 2138, []), (2138, .iload 5, 2140, []), (2140, .iconst 2, 2141, []), (2141, .iadd, 2142, []), (2142, .iaload, 2143, []), (2143, .ifCond .eq 7, 2146, [2150])],
  [(2146, .iconst 1, 2147, []), (2147, .goto 4, 2150, [2151]), (2150, .iconst 0, 2151, []), (2151, .invokevirtual 269, 2154, [0, 246, 2, 9164]), (2154, .istore 7, 2156, []), (2156, .aload_n 2, 2157, []), (2157, .invokevirtual 159, 2160, [0, 161, 0, 8068])],
  [(2160, .iload 6, 2162, []), (2162, .if_icmp .eq 5, 2165, [2167]), (2165, .iconst 0, 2166, []), (2166, .ireturn, 2167, []), (2167, .iload 6, 2169, []), (2169, .ifCond .ne 15, 2172, [2184]), (2172, .aload_n 3, 2173, []), (2173, .iconst 0, 2174, []), (2174, .laload, 2175, []), (2175, .iload 7, 2177, [])],
  [(2177, .i2l, 2178, []), (2178, .lcmp, 2179, []), (2179, .ifCond .eq 5, 2182, [2184]), (2182, .iconst 0, 2183, []), (2183, .ireturn, 2184, []), (2184, .goto 472, 2187, [2656]), (2187, .aload_n 1, 2188, []), (2188, .aload_n 0, 2189, []), (2189, .iload 5, 2191, []), (2191, .iconst 1, 2192, [])],
  [(2192, .iadd, 2193, []), (2193, .iaload, 2194, []), (2194, .aload_n 3, 2195, []), (2195, .invokestatic 270, 2198, [9, 292, 3, 7149]), (2198, .istore 6, 2200, []), (2200, .aload_n 2, 2201, []), (2201, .aload_n 0, 2202, []), (2202, .iload 5, 2204, []), (2204, .iconst 1, 2205, []), (2205, .iadd, 2206, []), (2206, .iaload, 2207, []), (2207, .invokevirtual 272, 2210, [0, 249, 1, 9168])],
  [(2210, .istore 7, 2212, []), (2212, .aload_n 2, 2213, []), (2213, .invokevirtual 159, 2216, [0, 161, 0, 8068]), (2216, .iload 6, 2218, []), (2218, .if_icmp .eq 5, 2221, [2223]), (2221, .iconst 0, 2222, []), (2222, .ireturn, 2223, []), (2223, .iload 6, 2225, [])],
  [(2225, .ifCond .ne 15, 2228, [2240]), (2228, .aload_n 3, 2229, []), (2229, .iconst 0, 2230, []), (2230, .laload, 2231, []), (2231, .iload 7, 2233, []), (2233, .i2l, 2234, []), (2234, .lcmp, 2235, []), (2235, .ifCond .eq 5, 2238, [2240]), (2238, .iconst 0, 2239, []), (2239, .ireturn, 2240, [])],
  [(2240, .goto 416, 2243, [2656]), (2243, .aload_n 1, 2244, []), (2244, .aload_n 0, 2245, []), (2245, .iload 5, 2247, []), (2247, .iconst 1, 2248, []), (2248, .iadd, 2249, []), (2249, .iaload, 2250, []), (2250, .aload_n 3, 2251, []), (2251, .invokestatic 273, 2254, [9, 293, 3, 7156]), (2254, .istore 6, 2256, [])],
  [(2256, .aload_n 2, 2257, []), (2257, .aload_n 0, 2258, []), (2258, .iload 5, 2260, []), (2260, .iconst 1, 2261, []), (2261, .iadd, 2262, []), (2262, .iaload, 2263, []), (2263, .invokevirtual 275, 2266, [0, 250, 1, 9180]), (2266, .istore 7, 2268, []), (2268, .aload_n 2, 2269, []), (2269, .invokevirtual 159, 2272, [0, 161, 0, 8068])],
  [(2272, .iload 6, 2274, []), (2274, .if_icmp .eq 5, 2277, [2279]), (2277, .iconst 0, 2278, []), (2278, .ireturn, 2279, []), (2279, .iload 6, 2281, []), (2281, .ifCond .ne 15, 2284, [2296]), (2284, .aload_n 3, 2285, []), (2285, .iconst 0, 2286, []), (2286, .laload, 2287, []), (2287, .iload 7, 2289, [])],
  [(2289, .i2l, 2290, []), (2290, .lcmp, 2291, []), (2291, .ifCond .eq 5, 2294, [2296]), (2294, .iconst 0, 2295, []), (2295, .ireturn, 2296, []), (2296, .goto 360, 2299, [2656]), (2299, .aload_n 1, 2300, []), (2300, .invokevirtual 276, 2303, [0, 149, 0, 3023]), (2303, .aload_n 2, 2304, [])]]
set_option maxRecDepth 20000 in
noncomputable def z_r338_9 : List (List z_Row) := [[(2304, .invokevirtual 279, 2307, [0, 251, 0, 9184]), (2307, .if_icmp .eq 349, 2310, [2656]), (2310, .iconst 0, 2311, []), (2311, .ireturn, 2312, []), (2312, .aload_n 1, 2313, []), (2313, .aload_n 0, 2314, []), (2314, .iload 5, 2316, []), (2316, .iconst 1, 2317, []), (2317, .iadd, 2318, []), (2318, .iaload, 2319, []), (2319, .aload_n 3, 2320, [])],
  [(2320, .invokestatic 280, 2323, [9, 294, 3, 7163]), (2323, .istore 6, 2325, []), (2325, .aload_n 2, 2326, []), (2326, .aload_n 0, 2327, []), (2327, .iload 5, 2329, []), (2329, .iconst 1, 2330, []), (2330, .iadd, 2331, []), (2331, .iaload, 2332, []), (2332, .invokevirtual 282, 2335, [0, 252, 1, 9188]), (2335, .istore 7, 2337, [])],
  [(2337, .aload_n 2, 2338, []), (2338, .invokevirtual 159, 2341, [0, 161, 0, 8068]), (2341, .iload 6, 2343, []), (2343, .if_icmp .eq 5, 2346, [2348]), (2346, .iconst 0, 2347, []), (2347, .ireturn, 2348, []), (2348, .iload 6, 2350, []), (2350, .ifCond .ne 15, 2353, [2365])],
  [(2353, .aload_n 3, 2354, []), (2354, .iconst 0, 2355, []), (2355, .laload, 2356, []), (2356, .iload 7, 2358, []), (2358, .i2l, 2359, []), (2359, .lcmp, 2360, []), (2360, .ifCond .eq 5, 2363, [2365]), (2363, .iconst 0, 2364, []), (2364, .ireturn, 2365, []), (2365, .goto 291, 2368, [2656])],
  [(2368, .aload_n 1, 2369, []), (2369, .aload_n 0, 2370, []), (2370, .iload 5, 2372, []), (2372, .iconst 1, 2373, []), (2373, .iadd, 2374, []), (2374, .iaload, 2375, []), (2375, .aload_n 3, 2376, []), (2376, .invokestatic 283, 2379, [9, 295, 3, 7172]), (2379, .istore 6, 2381, []), (2381, .aload_n 2, 2382, []), (2382, .aload_n 0, 2383, []), (2383, .iload 5, 2385, [])],
  [(2385, .iconst 1, 2386, []), (2386, .iadd, 2387, []), (2387, .iaload, 2388, []), (2388, .invokevirtual 285, 2391, [0, 255, 1, 9192]), (2391, .istore 7, 2393, []), (2393, .aload_n 2, 2394, []), (2394, .invokevirtual 159, 2397, [0, 161, 0, 8068]), (2397, .iload 6, 2399, []), (2399, .if_icmp .eq 5, 2402, [2404])],
  [(2402, .iconst 0, 2403, []), (2403, .ireturn, 2404, []), (2404, .iload 6, 2406, []), (2406, .ifCond .ne 15, 2409, [2421]), (2409, .aload_n 3, 2410, []), (2410, .iconst 0, 2411, []), (2411, .laload, 2412, []), (2412, .iload 7, 2414, []), (2414, .i2l, 2415, []), (2415, .lcmp, 2416, [])],
  [(2416, .ifCond .eq 5, 2419, [2421]), (2419, .iconst 0, 2420, []), (2420, .ireturn, 2421, []), (2421, .goto 235, 2424, [2656]), (2424, .aload_n 1, 2425, []), (2425, .aload 4, 2427, []), (2427, .invokestatic 286, 2430, [9, 296, 2, 7185]), (2430, .istore 6, 2432, [])],
  [(2432, .aload_n 2, 2433, []), (2433, .invokevirtual 289, 2436, [0, 256, 0, 9204]), (2436, .dstore 7, 2438, []), (2438, .aload_n 2, 2439, []), (2439, .invokevirtual 159, 2442, [0, 161, 0, 8068]), (2442, .iload 6, 2444, []), (2444, .if_icmp .eq 5, 2447, [2449]), (2447, .iconst 0, 2448, [])],
  [(2448, .ireturn, 2449, []), (2449, .iload 6, 2451, []), (2451, .ifCond .ne 35, 2454, [2486]), (2454, .aload 4, 2456, []), (2456, .iconst 0, 2457, []), (2457, .daload, 2458, []), (2458, .dload 7, 2460, []), (2460, .dcmp .l, 2461, []), (2461, .ifCond .eq 25, 2464, [2486])],
  [(2464, .aload 4, 2466, []), (2466, .iconst 0, 2467, []), (2467, .daload, 2468, []), (2468, .aload 4, 2470, []), (2470, .iconst 0, 2471, []), (2471, .daload, 2472, []), (2472, .dcmp .l, 2473, []), (2473, .ifCond .eq 11, 2476, [2484]), (2476, .dload 7, 2478, []), (2478, .dload 7, 2480, [])],
  [(2480, .dcmp .l, 2481, []), (2481, .ifCond .ne 5, 2484, [2486]), (2484, .iconst 0, 2485, []), (2485, .ireturn, 2486, []), (2486, .goto 170, 2489, [2656]), (2489, .aload_n 1, 2490, []), (2490, .aload 4, 2492, []), (2492, .invokestatic 290, 2495, [9, 297, 2, 7208]), (2495, .istore 6, 2497, [])],
  [(2497, .aload_n 2, 2498, []), (2498, .invokevirtual 292, 2501, [0, 257, 0, 9208]), (2501, .fstore 7, 2503, []), (2503, .aload_n 2, 2504, []), (2504, .invokevirtual 159, 2507, [0, 161, 0, 8068]), (2507, .iload 6, 2509, []), (2509, .if_icmp .eq 5, 2512, [2514])],
  [(2512, .iconst 0, 2513, []), (2513, .ireturn, 2514, []), (2514, .iload 6, 2516, []), (2516, .ifCond .ne 36, 2519, [2552]), (2519, .aload 4, 2521, []), (2521, .iconst 0, 2522, []), (2522, .daload, 2523, []), (2523, .fload 7, 2525, []), (2525, .f2d, 2526, []), (2526, .dcmp .l, 2527, []), (2527, .ifCond .eq 25, 2530, [2552])],
  [(2530, .aload 4, 2532, []), (2532, .iconst 0, 2533, []), (2533, .daload, 2534, []), (2534, .aload 4, 2536, []), (2536, .iconst 0, 2537, []), (2537, .daload, 2538, []), (2538, .dcmp .l, 2539, []), (2539, .ifCond .eq 11, 2542, [2550]), (2542, .fload 7, 2544, [])],
  [(2544, .fload 7, 2546, []), (2546, .fcmp .l, 2547, []), (2547, .ifCond .ne 5, 2550, [2552]), (2550, .iconst 0, 2551, []), (2551, .ireturn, 2552, []), (2552, .goto 104, 2555, [2656]), (2555, .aload_n 1, 2556, []), (2556, .aload_n 3, 2557, []), (2557, .invokestatic 293, 2560, [9, 298, 2, 7216])]]
set_option maxRecDepth 20000 in
noncomputable def z_r338_10 : List (List z_Row) := [[(2560, .istore 6, 2562, []), (2562, .aload_n 2, 2563, []), (2563, .invokevirtual 295, 2566, [0, 258, 0, 9212]), (2566, .istore 7, 2568, []), (2568, .aload_n 2, 2569, []), (2569, .invokevirtual 159, 2572, [0, 161, 0, 8068]), (2572, .iload 6, 2574, []), (2574, .if_icmp .eq 5, 2577, [2579])],
  [(2577, .iconst 0, 2578, []), (2578, .ireturn, 2579, []), (2579, .iload 6, 2581, []), (2581, .ifCond .ne 15, 2584, [2596]), (2584, .aload_n 3, 2585, []), (2585, .iconst 0, 2586, []), (2586, .laload, 2587, []), (2587, .iload 7, 2589, []), (2589, .i2l, 2590, []), (2590, .lcmp, 2591, []), (2591, .ifCond .eq 5, 2594, [2596])],
  [(2594, .iconst 0, 2595, []), (2595, .ireturn, 2596, []), (2596, .goto 60, 2599, [2656]), (2599, .aload_n 1, 2600, []), (2600, .invokevirtual 296, 2603, [0, 157, 0, 4163]), (2603, .aload_n 2, 2604, []), (2604, .invokevirtual 299, 2607, [0, 259, 0, 9216]), (2607, .if_icmp .eq 49, 2610, [2656])],
  [(2610, .iconst 0, 2611, []), (2611, .ireturn, 2612, []), (2612, .aload_n 1, 2613, []), (2613, .aload_n 3, 2614, []), (2614, .invokestatic 300, 2617, [9, 299, 2, 7228]), (2617, .istore 6, 2619, []), (2619, .aload_n 2, 2620, []), (2620, .invokevirtual 302, 2623, [0, 260, 0, 9220]), (2623, .istore 7, 2625, [])],
  [(2625, .aload_n 2, 2626, []), (2626, .invokevirtual 159, 2629, [0, 161, 0, 8068]), (2629, .iload 6, 2631, []), (2631, .if_icmp .eq 5, 2634, [2636]), (2634, .iconst 0, 2635, []), (2635, .ireturn, 2636, []), (2636, .iload 6, 2638, []), (2638, .ifCond .ne 15, 2641, [2653])],
  [(2641, .aload_n 3, 2642, []), (2642, .iconst 0, 2643, []), (2643, .laload, 2644, []), (2644, .iload 7, 2646, []), (2646, .i2l, 2647, []), (2647, .lcmp, 2648, []), (2648, .ifCond .eq 5, 2651, [2653]), (2651, .iconst 0, 2652, []), (2652, .ireturn, 2653, []), (2653, .goto 3, 2656, [2656])],
  [(2656, .iinc 5 4, 2659, []), (2659, .goto (-2631), 2662, [28]), (2662, .iconst 1, 2663, []), (2663, .ireturn, 2664, [])]]
noncomputable def z_r338 : List (List (List z_Row)) := [z_r338_0, z_r338_1, z_r338_2, z_r338_3, z_r338_4, z_r338_5, z_r338_6, z_r338_7, z_r338_8, z_r338_9, z_r338_10]
noncomputable def z_tab : List (List (List (List (List z_Row)))) := [[z_r0, z_r1, z_r2, z_r3, z_r4, z_r5, z_r6, z_r7, z_r8, z_r9, z_r10, z_r11, z_r12, z_r13, z_r14, z_r15, z_r16, z_r17, z_r18, z_r19], [z_r20, z_r21, z_r22, z_r23, z_r24, z_r25, z_r26, z_r27, z_r28, z_r29, z_r30, z_r31, z_r32, z_r33, z_r34, z_r35, z_r36, z_r37, z_r38, z_r39], [z_r40, z_r41, z_r42, z_r43, z_r44, z_r45, z_r46, z_r47, z_r48, z_r49, z_r50, z_r51, z_r52, z_r53, z_r54, z_r55, z_r56, z_r57, z_r58, z_r59], [z_r60, z_r61, z_r62, z_r63, z_r64, z_r65, z_r66, z_r67, z_r68, z_r69, z_r70, z_r71, z_r72, z_r73, z_r74, z_r75, z_r76, z_r77, z_r78, z_r79], [z_r80, z_r81, z_r82, z_r83, z_r84, z_r85, z_r86, z_r87, z_r88, z_r89, z_r90, z_r91, z_r92, z_r93, z_r94, z_r95, z_r96, z_r97, z_r98, z_r99], [z_r100, z_r101, z_r102, z_r103, z_r104, z_r105, z_r106, z_r107, z_r108, z_r109, z_r110, z_r111, z_r112, z_r113, z_r114, z_r115, z_r116, z_r117, z_r118, z_r119], [z_r120, z_r121, z_r122, z_r123, z_r124, z_r125, z_r126, z_r127, z_r128, z_r129, z_r130, z_r131, z_r132, z_r133, z_r134, z_r135, z_r136, z_r137, z_r138, z_r139], [z_r140, z_r141, z_r142, z_r143, z_r144, z_r145, z_r146, z_r147, z_r148, z_r149, z_r150, z_r151, z_r152, z_r153, z_r154, z_r155, z_r156, z_r157, z_r158, z_r159], [z_r160, z_r161, z_r162, z_r163, z_r164, z_r165, z_r166, z_r167, z_r168, z_r169, z_r170, z_r171, z_r172, z_r173, z_r174, z_r175, z_r176, z_r177, z_r178, z_r179], [z_r180, z_r181, z_r182, z_r183, z_r184, z_r185, z_r186, z_r187, z_r188, z_r189, z_r190, z_r191, z_r192, z_r193, z_r194, z_r195, z_r196, z_r197, z_r198, z_r199], [z_r200, z_r201, z_r202, z_r203, z_r204, z_r205, z_r206, z_r207, z_r208, z_r209, z_r210, z_r211, z_r212, z_r213, z_r214, z_r215, z_r216, z_r217, z_r218, z_r219], [z_r220, z_r221, z_r222, z_r223, z_r224, z_r225, z_r226, z_r227, z_r228, z_r229, z_r230, z_r231, z_r232, z_r233, z_r234, z_r235, z_r236, z_r237, z_r238, z_r239], [z_r240, z_r241, z_r242, z_r243, z_r244, z_r245, z_r246, z_r247, z_r248, z_r249, z_r250, z_r251, z_r252, z_r253, z_r254, z_r255, z_r256, z_r257, z_r258, z_r259], [z_r260, z_r261, z_r262, z_r263, z_r264, z_r265, z_r266, z_r267, z_r268, z_r269, z_r270, z_r271, z_r272, z_r273, z_r274, z_r275, z_r276, z_r277, z_r278, z_r279], [z_r280, z_r281, z_r282, z_r283, z_r284, z_r285, z_r286, z_r287, z_r288, z_r289, z_r290, z_r291, z_r292, z_r293, z_r294, z_r295, z_r296, z_r297, z_r298, z_r299], [z_r300, z_r301, z_r302, z_r303, z_r304, z_r305, z_r306, z_r307, z_r308, z_r309, z_r310, z_r311, z_r312, z_r313, z_r314, z_r315, z_r316, z_r317, z_r318, z_r319], [z_r320, z_r321, z_r322, z_r323, z_r324, z_r325, z_r326, z_r327, z_r328, z_r329, z_r330, z_r331, z_r332, z_r333, z_r334, z_r335, z_r336, z_r337, z_r338]]
abbrev z_Mt : Type := MethodName × ByteArray × Nat × Option FieldType × List (Nat × Nat × Nat × Nat) × List Nat
noncomputable def z_ms0 : List z_Mt := [(⟨"ClockParliament$Numbers", "<init>", "(I)V"⟩, prog_8_method_1_code, 2, none, [], [1062, 1004, 1061, 0, 99999]),
  (⟨"ClockParliament$Numbers", "count", "()I"⟩, prog_8_method_2_code, 1, (some .int), [], [2103, 1004, 2101, 0, 2102]),
  (⟨"ClockParliament$Numbers", "has", "(I)Z"⟩, prog_8_method_3_code, 2, (some .boolean), [], [2115, 1004, 2113, 0, 2114]),
  (⟨"ClockParliament$Numbers", "at", "(I)I"⟩, prog_8_method_4_code, 2, (some .int), [], [2111, 1004, 2109, 0, 2110]),
  (⟨"ClockParliament$Numbers", "put", "(II)V"⟩, prog_8_method_5_code, 3, none, [], [2219, 1004, 2217, 0, 2218]),
  (⟨"ClockParliament$Numbers", "addTo", "(II)V"⟩, prog_8_method_6_code, 3, none, [], [2214, 1004, 2212, 0, 2213]),
  (⟨"ClockParliament$Numbers", "insert", "(II)V"⟩, prog_8_method_7_code, 4, none, [], [1082, 1004, 1080, 0, 1081]),
  (⟨"ClockParliament$Numbers", "add", "(I)V"⟩, prog_8_method_8_code, 2, none, [], [1078, 1004, 1076, 0, 1077]),
  (⟨"ClockParliament$Numbers", "removeAt", "(I)V"⟩, prog_8_method_9_code, 3, none, [], [5089, 1004, 5087, 0, 5088]),
  (⟨"ClockParliament$Numbers", "forget", "(I)V"⟩, prog_8_method_10_code, 3, none, [], [5093, 1004, 5091, 0, 5092]),
  (⟨"ClockParliament$Numbers", "placeOf", "(I)I"⟩, prog_8_method_11_code, 3, (some .int), [], [3013, 1004, 3011, 0, 3012]),
  (⟨"ClockParliament$Numbers", "countOf", "(I)I"⟩, prog_8_method_12_code, 4, (some .int), [], [5033, 1004, 5031, 0, 5032]),
  (⟨"ClockParliament$Numbers", "sum", "()I"⟩, prog_8_method_13_code, 3, (some .int), [], [7183, 1004, 7181, 0, 7182]),
  (⟨"ClockParliament$Numbers", "copyFrom", "(LClockParliament$Numbers;)V"⟩, prog_8_method_14_code, 3, none, [], [2195, 1004, 2193, 0, 2194]),
  (⟨"ClockParliament$Refusal", "<init>", "()V"⟩, prog_11_method_1_code, 1, none, [], [2044, 1016, 2043, 0, 99999]),
  (⟨"ClockParliament$Refusal", "isNone", "()Z"⟩, prog_11_method_2_code, 1, (some .boolean), [], [7147, 1016, 7145, 0, 7146]),
  (⟨"ClockParliament$Refusal", "fill", "(II)V"⟩, prog_11_method_3_code, 3, none, [], [4213, 1016, 4211, 0, 4212]),
  (⟨"ClockParliament$Refusal", "clear", "()V"⟩, prog_11_method_4_code, 1, none, [], [5041, 1016, 5039, 0, 5040]),
  (⟨"ClockParliament$Refusal", "copyFrom", "(LClockParliament$Refusal;)V"⟩, prog_11_method_5_code, 2, none, [], [5037, 1016, 5035, 0, 5036]),
  (⟨"ClockParliament$Refusal", "applies", "(ZII)Z"⟩, prog_11_method_6_code, 4, (some .boolean), [], [4209, 1016, 4207, 0, 4208])]
noncomputable def z_ms1 : List z_Mt := [(⟨"ClockParliament$Refusal", "isUnknown", "(ZI)Z"⟩, prog_11_method_7_code, 3, (some .boolean), [], [4223, 1016, 4221, 0, 4222]),
  (⟨"ClockParliament$Refusal", "isOutside", "(III)Z"⟩, prog_11_method_8_code, 4, (some .boolean), [], [4205, 1016, 4203, 0, 4204]),
  (⟨"ClockParliament$Order", "<init>", "()V"⟩, prog_9_method_1_code, 1, none, [], [2002, 1013, 2001, 0, 99999]),
  (⟨"ClockParliament$Order", "fill", "(LClockParliament$Kind;III)V"⟩, prog_9_method_2_code, 5, none, [], [4185, 1013, 4183, 0, 4184]),
  (⟨"ClockParliament$Order", "take", "(I)V"⟩, prog_9_method_3_code, 2, none, [], [7099, 1013, 7097, 0, 7098]),
  (⟨"ClockParliament$Kind", "startingWith", "(C)LClockParliament$Kind;"⟩, prog_7_method_4_code, 2, (some (.object "ClockParliament$Kind")), [], [7030, 1015, 7029, 1, 99999]),
  (⟨"ClockParliament$Clocks", "<init>", "()V"⟩, prog_4_method_1_code, 2, none, [], [1056, 1003, 1055, 0, 99999]),
  (⟨"ClockParliament$Clocks", "count", "()I"⟩, prog_4_method_2_code, 1, (some .int), [], [2131, 1003, 2129, 0, 2130]),
  (⟨"ClockParliament$Clocks", "has", "(I)Z"⟩, prog_4_method_3_code, 2, (some .boolean), [], [4218, 1003, 4216, 0, 4217]),
  (⟨"ClockParliament$Clocks", "isSilent", "(I)Z"⟩, prog_4_method_4_code, 2, (some .boolean), [], [2229, 1003, 2227, 0, 2228]),
  (⟨"ClockParliament$Clocks", "difference", "(II)I"⟩, prog_4_method_5_code, 3, (some .int), [], [5000, 1003, 4238, 0, 4239]),
  (⟨"ClockParliament$Clocks", "areAgreed", "(II)Z"⟩, prog_4_method_6_code, 3, (some .boolean), [], [4236, 1003, 4234, 0, 4235]),
  (⟨"ClockParliament$Clocks", "wouldVote", "(II)Z"⟩, prog_4_method_7_code, 3, (some .boolean), [], [2137, 1003, 2135, 0, 2136]),
  (⟨"ClockParliament$Clocks", "come", "(II)I"⟩, prog_4_method_8_code, 3, (some .int), [], [5077, 1003, 5075, 0, 5076]),
  (⟨"ClockParliament$Clocks", "remove", "(I)V"⟩, prog_4_method_9_code, 2, none, [], [5085, 1003, 5083, 0, 5084]),
  (⟨"ClockParliament$Clocks", "giveKey", "(II)I"⟩, prog_4_method_10_code, 4, (some .int), [], [5098, 1003, 5096, 0, 5097]),
  (⟨"ClockParliament$Clocks", "windUp", "(I)I"⟩, prog_4_method_11_code, 3, (some .int), [], [5102, 1003, 5100, 0, 5101]),
  (⟨"ClockParliament$Clocks", "moveOn", "(II)I"⟩, prog_4_method_12_code, 3, (some .int), [], [5106, 1003, 5104, 0, 5105]),
  (⟨"ClockParliament$Clocks", "giveVote", "(I)V"⟩, prog_4_method_13_code, 2, none, [], [5138, 1003, 5136, 0, 5137]),
  (⟨"ClockParliament$Clocks", "passHour", "()V"⟩, prog_4_method_14_code, 2, none, [], [2224, 1003, 2222, 0, 2223])]
noncomputable def z_ms2 : List z_Mt := [(⟨"ClockParliament$Clocks", "goOn", "(II)V"⟩, prog_4_method_15_code, 3, none, [], [2234, 1003, 2233, 0, 6]),
  (⟨"ClockParliament$Clocks", "agreeingWith", "(I)I"⟩, prog_4_method_16_code, 4, (some .int), [], [6013, 1003, 6011, 0, 6012]),
  (⟨"ClockParliament$Clocks", "reachedFrom", "(I)I"⟩, prog_4_method_17_code, 5, (some .int), [], [6181, 1003, 6179, 0, 6180]),
  (⟨"ClockParliament$Clocks", "weakestOfAll", "()I"⟩, prog_4_method_18_code, 3, (some .int), [], [6170, 1003, 6168, 0, 6169]),
  (⟨"ClockParliament$Clocks", "clockRanked", "(II)I"⟩, prog_4_method_19_code, 5, (some .int), [], [6195, 1003, 6193, 0, 6194]),
  (⟨"ClockParliament$Clocks", "valuesOf", "(I)LClockParliament$Numbers;"⟩, prog_4_method_20_code, 2, (some (.object "ClockParliament$Numbers")), [], [6199, 1003, 6198, 0, 27]),
  (⟨"ClockParliament$Clocks", "rankIn", "(LClockParliament$Numbers;I)I"⟩, prog_4_method_21_code, 6, (some .int), [], [6203, 1003, 6202, 0, 28]),
  (⟨"ClockParliament$Clocks", "copyFrom", "(LClockParliament$Clocks;)V"⟩, prog_4_method_22_code, 2, none, [], [2191, 1003, 2189, 0, 2190]),
  (⟨"ClockParliament$Clocks", "springFor", "(I)I"⟩, prog_4_method_23_code, 1, (some .int), [], [5009, 1003, 5008, 1, 99999]),
  (⟨"ClockParliament$Clocks", "secondsBetween", "(II)I"⟩, prog_4_method_24_code, 3, (some .int), [], [2141, 1003, 2140, 1, 99999]),
  (⟨"ClockParliament$Bills", "<init>", "()V"⟩, prog_3_method_1_code, 1, none, [], [1112, 1006, 1111, 0, 99999]),
  (⟨"ClockParliament$Bills", "count", "()I"⟩, prog_3_method_2_code, 1, (some .int), [], [2099, 1006, 2097, 0, 2098]),
  (⟨"ClockParliament$Bills", "has", "(I)Z"⟩, prog_3_method_3_code, 2, (some .boolean), [], [5022, 1006, 5020, 0, 5021]),
  (⟨"ClockParliament$Bills", "isAdjourned", "(I)Z"⟩, prog_3_method_4_code, 2, (some .boolean), [], [2107, 1006, 2105, 0, 2106]),
  (⟨"ClockParliament$Bills", "adjournedCount", "()I"⟩, prog_3_method_5_code, 1, (some .int), [], [5029, 1006, 5027, 0, 5028]),
  (⟨"ClockParliament$Bills", "table", "(III)I"⟩, prog_3_method_6_code, 5, (some .int), [], [5111, 1006, 5109, 0, 5110]),
  (⟨"ClockParliament$Bills", "putOff", "(II)I"⟩, prog_3_method_7_code, 3, (some .int), [], [5116, 1006, 5114, 0, 5115]),
  (⟨"ClockParliament$Bills", "remove", "(I)I"⟩, prog_3_method_8_code, 2, (some .int), [], [5123, 1006, 5121, 0, 5122]),
  (⟨"ClockParliament$Bills", "passHour", "()I"⟩, prog_3_method_9_code, 3, (some .int), [], [2208, 1006, 2206, 0, 2207]),
  (⟨"ClockParliament$Bills", "hoursToNext", "()I"⟩, prog_3_method_10_code, 3, (some .int), [], [6113, 1006, 6111, 0, 6112])]
noncomputable def z_ms3 : List z_Mt := [(⟨"ClockParliament$Bills", "billAfter", "(II)I"⟩, prog_3_method_11_code, 4, (some .int), [], [3001, 1006, 2239, 0, 3000]),
  (⟨"ClockParliament$Bills", "placeAfter", "(II)I"⟩, prog_3_method_12_code, 5, (some .int), [], [3005, 1006, 3004, 0, 7]),
  (⟨"ClockParliament$Bills", "isAheadAsBack", "(II)Z"⟩, prog_3_method_13_code, 4, (some .boolean), [], [3009, 1006, 3008, 0, 8]),
  (⟨"ClockParliament$Bills", "copyFrom", "(LClockParliament$Bills;)V"⟩, prog_3_method_14_code, 2, none, [], [2199, 1006, 2197, 0, 2198]),
  (⟨"ClockParliament$House", "<init>", "()V"⟩, prog_6_method_1_code, 1, none, [], [1050, 1002, 1049, 0, 99999]),
  (⟨"ClockParliament$House", "copyFrom", "(LClockParliament$House;)V"⟩, prog_6_method_2_code, 2, none, [], [2187, 1002, 2185, 0, 2186]),
  (⟨"ClockParliament$House", "refuses", "(LClockParliament$Order;LClockParliament$Refusal;)Z"⟩, prog_6_method_3_code, 3, (some .boolean), [], [4189, 1002, 4187, 0, 4188]),
  (⟨"ClockParliament$House", "refusesClock", "(IILClockParliament$Refusal;)Z"⟩, prog_6_method_4_code, 4, (some .boolean), [], [4201, 1002, 4200, 0, 14]),
  (⟨"ClockParliament$House", "refusesKey", "(IILClockParliament$Refusal;)Z"⟩, prog_6_method_5_code, 4, (some .boolean), [], [4227, 1002, 4226, 0, 15]),
  (⟨"ClockParliament$House", "refusesWinding", "(IILClockParliament$Refusal;)Z"⟩, prog_6_method_6_code, 5, (some .boolean), [], [4232, 1002, 4231, 0, 16]),
  (⟨"ClockParliament$House", "refusesMove", "(IILClockParliament$Refusal;)Z"⟩, prog_6_method_7_code, 5, (some .boolean), [], [5005, 1002, 5004, 0, 17]),
  (⟨"ClockParliament$House", "refusesBill", "(IIILClockParliament$Refusal;)Z"⟩, prog_6_method_8_code, 5, (some .boolean), [], [5013, 1002, 5012, 0, 18]),
  (⟨"ClockParliament$House", "refusesAdjourning", "(IILClockParliament$Refusal;)Z"⟩, prog_6_method_9_code, 4, (some .boolean), [], [5018, 1002, 5017, 0, 19]),
  (⟨"ClockParliament$House", "carryOut", "(LClockParliament$Order;)I"⟩, prog_6_method_10_code, 2, (some .int), [], [5073, 1002, 5071, 0, 5072]),
  (⟨"ClockParliament$House", "sendAway", "(I)I"⟩, prog_6_method_11_code, 2, (some .int), [], [5081, 1002, 5080, 0, 21]),
  (⟨"ClockParliament$House", "holdVote", "()I"⟩, prog_6_method_12_code, 5, (some .int), [], [5128, 1002, 5127, 0, 22]),
  (⟨"ClockParliament$House", "passHours", "(I)I"⟩, prog_6_method_13_code, 4, (some .int), [], [2204, 1002, 2202, 0, 2203]),
  (⟨"ClockParliament$House", "votersOn", "(I)I"⟩, prog_6_method_14_code, 4, (some .int), [], [2127, 1002, 2125, 0, 2126]),
  (⟨"ClockParliament$House", "majorityOn", "(I)I"⟩, prog_6_method_15_code, 2, (some .int), [], [2123, 1002, 2121, 0, 2122]),
  (⟨"ClockParliament$House", "majorityOf", "(I)I"⟩, prog_6_method_16_code, 5, (some .int), [], [2151, 1002, 2150, 0, 0])]
noncomputable def z_ms4 : List z_Mt := [(⟨"ClockParliament$House", "majorityByLeanings", "(I)I"⟩, prog_6_method_17_code, 4, (some .int), [], [2171, 1002, 2169, 0, 2170]),
  (⟨"ClockParliament$House", "votersLeaning", "(II)I"⟩, prog_6_method_18_code, 6, (some .int), [], [2175, 1002, 2174, 0, 3]),
  (⟨"ClockParliament$House", "isWon", "(I)Z"⟩, prog_6_method_19_code, 2, (some .boolean), [], [2119, 1002, 2117, 0, 2118]),
  (⟨"ClockParliament$House", "isEnough", "(II)Z"⟩, prog_6_method_20_code, 3, (some .boolean), [], [2158, 1002, 2157, 0, 1]),
  (⟨"ClockParliament$History", "<init>", "()V"⟩, prog_5_method_1_code, 2, none, [], [1183, 1007, 1182, 0, 99999]),
  (⟨"ClockParliament$History", "keep", "(LClockParliament$House;)V"⟩, prog_5_method_2_code, 2, none, [], [5061, 1007, 5059, 0, 5060]),
  (⟨"ClockParliament$History", "giveBack", "(LClockParliament$House;)I"⟩, prog_5_method_3_code, 2, (some .int), [], [7227, 1007, 7225, 0, 7226]),
  (⟨"ClockParliament$History", "clear", "()V"⟩, prog_5_method_4_code, 1, none, [], [7239, 1007, 7237, 0, 7238]),
  (⟨"ClockParliament$History", "placeOfLatest", "()I"⟩, prog_5_method_5_code, 1, (some .int), [], [5065, 1007, 5064, 0, 20]),
  (⟨"ClockParliament$OrderText", "<init>", "()V"⟩, prog_10_method_1_code, 1, none, [], [1203, 1008, 1202, 0, 99999]),
  (⟨"ClockParliament$OrderText", "length", "()I"⟩, prog_10_method_2_code, 1, (some .int), [], [6216, 1008, 6214, 0, 6215]),
  (⟨"ClockParliament$OrderText", "add", "(C)I"⟩, prog_10_method_3_code, 2, (some .int), [], [6237, 1008, 6235, 0, 6236]),
  (⟨"ClockParliament$OrderText", "clear", "()V"⟩, prog_10_method_4_code, 1, none, [], [7127, 1008, 7125, 0, 7126]),
  (⟨"ClockParliament$OrderText", "fault", "()I"⟩, prog_10_method_5_code, 2, (some .int), [], [7009, 1008, 7007, 0, 7008]),
  (⟨"ClockParliament$OrderText", "readNext", "(LClockParliament$Order;)Z"⟩, prog_10_method_6_code, 2, (some .boolean), [], [7133, 1008, 7131, 0, 7132]),
  (⟨"ClockParliament$OrderText", "readOrder", "(LClockParliament$Order;)Z"⟩, prog_10_method_7_code, 6, (some .boolean), [], [7013, 1008, 7012, 0, 29]),
  (⟨"ClockParliament$OrderText", "readPart", "(CLClockParliament$Order;)Z"⟩, prog_10_method_8_code, 3, (some .boolean), [], [7103, 1008, 7102, 0, 31]),
  (⟨"ClockParliament$OrderText", "readDigit", "(LClockParliament$Order;)Z"⟩, prog_10_method_9_code, 3, (some .boolean), [], [7107, 1008, 7106, 0, 32]),
  (⟨"ClockParliament$OrderText", "readNumber", "(LClockParliament$Order;)Z"⟩, prog_10_method_10_code, 4, (some .boolean), [], [7115, 1008, 7114, 0, 34]),
  (⟨"ClockParliament$OrderText", "readNobody", "(LClockParliament$Order;)Z"⟩, prog_10_method_11_code, 2, (some .boolean), [], [7119, 1008, 7118, 0, 35])]
noncomputable def z_ms5 : List z_Mt := [(⟨"ClockParliament$OrderText", "skip", "(C)Z"⟩, prog_10_method_12_code, 2, (some .boolean), [], [7123, 1008, 7122, 0, 36]),
  (⟨"ClockParliament$OrderText", "digitHere", "()I"⟩, prog_10_method_13_code, 2, (some .int), [], [7111, 1008, 7110, 0, 33]),
  (⟨"ClockParliament$OrderText", "here", "()C"⟩, prog_10_method_14_code, 1, (some .char), [], [7017, 1008, 7016, 0, 30]),
  (⟨"ClockParliament", "<init>", "()V"⟩, prog_1_method_1_code, 1, none, [], [1042, 1001, 1041, 0, 99999]),
  (⟨"ClockParliament", "clock", "(II)I"⟩, prog_1_method_2_code, 3, (some .int), [], [4175, 1001, 4173, 0, 4174]),
  (⟨"ClockParliament", "leave", "(I)I"⟩, prog_1_method_3_code, 2, (some .int), [], [5146, 1001, 5144, 0, 5145]),
  (⟨"ClockParliament", "key", "(II)I"⟩, prog_1_method_4_code, 3, (some .int), [], [5155, 1001, 5153, 0, 5154]),
  (⟨"ClockParliament", "wind", "(II)I"⟩, prog_1_method_5_code, 3, (some .int), [], [5164, 1001, 5162, 0, 5163]),
  (⟨"ClockParliament", "move", "(II)I"⟩, prog_1_method_6_code, 3, (some .int), [], [5173, 1001, 5171, 0, 5172]),
  (⟨"ClockParliament", "bill", "(III)I"⟩, prog_1_method_7_code, 4, (some .int), [], [5182, 1001, 5180, 0, 5181]),
  (⟨"ClockParliament", "adjourn", "(II)I"⟩, prog_1_method_8_code, 3, (some .int), [], [5191, 1001, 5189, 0, 5190]),
  (⟨"ClockParliament", "drop", "(I)I"⟩, prog_1_method_9_code, 2, (some .int), [], [5200, 1001, 5198, 0, 5199]),
  (⟨"ClockParliament", "vote", "()I"⟩, prog_1_method_10_code, 1, (some .int), [], [5209, 1001, 5207, 0, 5208]),
  (⟨"ClockParliament", "hour", "(I)I"⟩, prog_1_method_11_code, 2, (some .int), [], [5217, 1001, 5215, 0, 5216]),
  (⟨"ClockParliament", "change", "(LClockParliament$Kind;III)I"⟩, prog_1_method_12_code, 5, (some .int), [], [4181, 1001, 4180, 0, 13]),
  (⟨"ClockParliament", "clockOf", "(II)I"⟩, prog_1_method_13_code, 3, (some .int), [], [5230, 1001, 5228, 0, 5229]),
  (⟨"ClockParliament", "billOf", "(II)I"⟩, prog_1_method_14_code, 3, (some .int), [], [6024, 1001, 6022, 0, 6023]),
  (⟨"ClockParliament", "keeper", "(I)I"⟩, prog_1_method_15_code, 2, (some .int), [], [6038, 1001, 6036, 0, 6037]),
  (⟨"ClockParliament", "doAgree", "(II)Z"⟩, prog_1_method_16_code, 3, (some .boolean), [], [6046, 1001, 6044, 0, 6045]),
  (⟨"ClockParliament", "apart", "(II)I"⟩, prog_1_method_17_code, 3, (some .int), [], [6054, 1001, 6052, 0, 6053])]
noncomputable def z_ms6 : List z_Mt := [(⟨"ClockParliament", "checkClock", "(I)V"⟩, prog_1_method_18_code, 2, none, [], [5234, 1001, 5233, 0, 23]),
  (⟨"ClockParliament", "checkBill", "(I)V"⟩, prog_1_method_19_code, 2, none, [], [6028, 1001, 6027, 0, 24]),
  (⟨"ClockParliament", "row", "(I)I"⟩, prog_1_method_20_code, 2, (some .int), [], [6063, 1001, 6061, 0, 6062]),
  (⟨"ClockParliament", "rowIn", "(II)I"⟩, prog_1_method_21_code, 3, (some .int), [], [6090, 1001, 6088, 0, 6089]),
  (⟨"ClockParliament", "rowAgain", "(II)I"⟩, prog_1_method_22_code, 4, (some .int), [], [6102, 1001, 6100, 0, 6101]),
  (⟨"ClockParliament", "next", "()I"⟩, prog_1_method_23_code, 2, (some .int), [], [6109, 1001, 6107, 0, 6108]),
  (⟨"ClockParliament", "silentIn", "(I)I"⟩, prog_1_method_24_code, 3, (some .int), [], [6121, 1001, 6119, 0, 6120]),
  (⟨"ClockParliament", "secondIn", "(II)I"⟩, prog_1_method_25_code, 3, (some .int), [], [6129, 1001, 6127, 0, 6128]),
  (⟨"ClockParliament", "checkRange", "(II)V"⟩, prog_1_method_26_code, 3, none, [], [6094, 1001, 6093, 0, 26]),
  (⟨"ClockParliament", "billAt", "(LClockParliament$Numbers;I)I"⟩, prog_1_method_27_code, 3, (some .int), [], [6067, 1001, 6066, 0, 25]),
  (⟨"ClockParliament", "foresee", "(I)V"⟩, prog_1_method_28_code, 2, none, [], [2183, 1001, 2182, 0, 5]),
  (⟨"ClockParliament", "voters", "(I)I"⟩, prog_1_method_29_code, 2, (some .int), [], [6136, 1001, 6134, 0, 6135]),
  (⟨"ClockParliament", "majority", "(I)I"⟩, prog_1_method_30_code, 2, (some .int), [], [6144, 1001, 6142, 0, 6143]),
  (⟨"ClockParliament", "majorityAgain", "(I)I"⟩, prog_1_method_31_code, 2, (some .int), [], [6151, 1001, 6149, 0, 6150]),
  (⟨"ClockParliament", "wouldCarry", "(I)Z"⟩, prog_1_method_32_code, 2, (some .boolean), [], [6158, 1001, 6156, 0, 6157]),
  (⟨"ClockParliament", "carried", "()I"⟩, prog_1_method_33_code, 3, (some .int), [], [2095, 1001, 2093, 0, 2094]),
  (⟨"ClockParliament", "weakest", "()I"⟩, prog_1_method_34_code, 1, (some .int), [], [6165, 1001, 6163, 0, 6164]),
  (⟨"ClockParliament", "circle", "(I)I"⟩, prog_1_method_35_code, 2, (some .int), [], [6177, 1001, 6175, 0, 6176]),
  (⟨"ClockParliament", "ranked", "(II)I"⟩, prog_1_method_36_code, 4, (some .int), [], [6190, 1001, 6188, 0, 6189]),
  (⟨"ClockParliament", "isTold", "()Z"⟩, prog_1_method_37_code, 1, (some .boolean), [], [2162, 1001, 2160, 0, 2161])]
noncomputable def z_ms7 : List z_Mt := [(⟨"ClockParliament", "areMajoritiesTold", "()Z"⟩, prog_1_method_38_code, 2, (some .boolean), [], [2166, 1001, 2165, 0, 2]),
  (⟨"ClockParliament", "areRowsTold", "()Z"⟩, prog_1_method_39_code, 5, (some .boolean), [], [2179, 1001, 2178, 0, 4]),
  (⟨"ClockParliament", "areBillsTold", "()Z"⟩, prog_1_method_40_code, 3, (some .boolean), [], [3017, 1001, 3016, 0, 9]),
  (⟨"ClockParliament", "append", "(C)I"⟩, prog_1_method_41_code, 2, (some .int), [], [6211, 1001, 6209, 0, 6210]),
  (⟨"ClockParliament", "run", "()I"⟩, prog_1_method_42_code, 2, (some .int), [], [7005, 1001, 7003, 0, 7004]),
  (⟨"ClockParliament", "faultPosition", "()I"⟩, prog_1_method_43_code, 1, (some .int), [], [3022, 1001, 3020, 0, 3021]),
  (⟨"ClockParliament", "reason", "(IZ)I"⟩, prog_1_method_44_code, 4, (some .int), [], [7142, 1001, 7140, 0, 7141]),
  (⟨"ClockParliament", "tell", "(I)I"⟩, prog_1_method_45_code, 4, (some .int), [], [7155, 1001, 7153, 0, 7154]),
  (⟨"ClockParliament", "tellBill", "(I)I"⟩, prog_1_method_46_code, 2, (some .int), [], [7162, 1001, 7160, 0, 7161]),
  (⟨"ClockParliament", "tellRow", "()I"⟩, prog_1_method_47_code, 3, (some .int), [], [3026, 1001, 3024, 0, 3025]),
  (⟨"ClockParliament", "character", "(I)C"⟩, prog_1_method_48_code, 2, (some .char), [], [7169, 1001, 7167, 0, 7168]),
  (⟨"ClockParliament", "startLine", "(I)V"⟩, prog_1_method_49_code, 2, none, [], [4134, 1001, 4133, 0, 11]),
  (⟨"ClockParliament", "write", "(CI)V"⟩, prog_1_method_50_code, 3, none, [], [4139, 1001, 4138, 0, 12]),
  (⟨"ClockParliament", "account", "(I)I"⟩, prog_1_method_51_code, 2, (some .int), [], [7178, 1001, 7176, 0, 7177]),
  (⟨"ClockParliament", "meanSpring", "()D"⟩, prog_1_method_52_code, 2, (some .double), [], [7205, 1001, 7203, 0, 7204]),
  (⟨"ClockParliament", "carriedShare", "()F"⟩, prog_1_method_53_code, 1, (some .float), [], [7214, 1001, 7212, 0, 7213]),
  (⟨"ClockParliament", "undo", "()I"⟩, prog_1_method_54_code, 1, (some .int), [], [7222, 1001, 7220, 0, 7221]),
  (⟨"ClockParliament", "save", "()I"⟩, prog_1_method_55_code, 1, (some .int), [], [4166, 1001, 4164, 0, 4165]),
  (⟨"ClockParliament", "restore", "()I"⟩, prog_1_method_56_code, 1, (some .int), [], [7234, 1001, 7232, 0, 7233]),
  (⟨"ClockParliament", "isIn", "(II)Z"⟩, prog_1_method_57_code, 2, (some .boolean), [], [2154, 1001, 2153, 1, 99999])]
noncomputable def z_ms8 : List z_Mt := [(⟨"ClockParliamentModel", "<init>", "()V"⟩, prog_13_method_1_code, 1, none, [], [8004, 1017, 8003, 0, 99999]),
  (⟨"ClockParliamentModel", "thrown", "()I"⟩, prog_13_method_2_code, 1, (some .int), [], [8071, 1017, 8069, 0, 8070]),
  (⟨"ClockParliamentModel", "in", "(III)Z"⟩, prog_13_method_3_code, 3, (some .boolean), [], [8092, 1017, 8091, 1, 99999]),
  (⟨"ClockParliamentModel", "done", "(I)I"⟩, prog_13_method_4_code, 2, (some .int), [], [8104, 1017, 8103, 0, 41]),
  (⟨"ClockParliamentModel", "fails", "(I)I"⟩, prog_13_method_5_code, 2, (some .int), [], [8100, 1017, 8099, 0, 40]),
  (⟨"ClockParliamentModel", "refused", "(II)I"⟩, prog_13_method_6_code, 3, (some .int), [], [8096, 1017, 8095, 0, 39]),
  (⟨"ClockParliamentModel", "copy", "([II[II)V"⟩, prog_13_method_7_code, 5, none, [], [8082, 1017, 8081, 1, 99999]),
  (⟨"ClockParliamentModel", "looksBack", "()V"⟩, prog_13_method_8_code, 1, none, [], [8079, 1017, 8078, 0, 37]),
  (⟨"ClockParliamentModel", "kept", "(I)I"⟩, prog_13_method_9_code, 3, (some .int), [], [8108, 1017, 8107, 0, 42]),
  (⟨"ClockParliamentModel", "isClock", "(I)Z"⟩, prog_13_method_10_code, 2, (some .boolean), [], [8120, 1017, 8119, 0, 44]),
  (⟨"ClockParliamentModel", "isBill", "(I)Z"⟩, prog_13_method_11_code, 2, (some .boolean), [], [8181, 1017, 8180, 0, 52]),
  (⟨"ClockParliamentModel", "isKey", "(I)Z"⟩, prog_13_method_12_code, 1, (some .boolean), [], [8138, 1017, 8137, 1, 99999]),
  (⟨"ClockParliamentModel", "isSecond", "(I)Z"⟩, prog_13_method_13_code, 1, (some .boolean), [], [8089, 1017, 8088, 1, 99999]),
  (⟨"ClockParliamentModel", "apartBy", "(II)I"⟩, prog_13_method_14_code, 3, (some .int), [], [8153, 1017, 8152, 1, 99999]),
  (⟨"ClockParliamentModel", "clocksApart", "(II)I"⟩, prog_13_method_15_code, 3, (some .int), [], [8150, 1017, 8149, 0, 48]),
  (⟨"ClockParliamentModel", "comes", "(II)I"⟩, prog_13_method_16_code, 4, (some .int), [], [8086, 1017, 8085, 0, 38]),
  (⟨"ClockParliamentModel", "clock", "(II)I"⟩, prog_13_method_17_code, 3, (some .int), [], [8075, 1017, 8073, 0, 8074]),
  (⟨"ClockParliamentModel", "shifted", "(II)I"⟩, prog_13_method_18_code, 2, (some .int), [], [8123, 1017, 8122, 1, 99999]),
  (⟨"ClockParliamentModel", "closesUp", "(III)V"⟩, prog_13_method_19_code, 5, none, [], [8127, 1017, 8126, 0, 45]),
  (⟨"ClockParliamentModel", "leaves", "(I)I"⟩, prog_13_method_20_code, 3, (some .int), [], [8116, 1017, 8115, 0, 43])]
noncomputable def z_ms9 : List z_Mt := [(⟨"ClockParliamentModel", "leave", "(I)I"⟩, prog_13_method_21_code, 2, (some .int), [], [8112, 1017, 8110, 0, 8111]),
  (⟨"ClockParliamentModel", "gives", "(II)I"⟩, prog_13_method_22_code, 4, (some .int), [], [8135, 1017, 8134, 0, 46]),
  (⟨"ClockParliamentModel", "key", "(II)I"⟩, prog_13_method_23_code, 3, (some .int), [], [8131, 1017, 8129, 0, 8130]),
  (⟨"ClockParliamentModel", "winds", "(II)I"⟩, prog_13_method_24_code, 6, (some .int), [], [8146, 1017, 8145, 0, 47]),
  (⟨"ClockParliamentModel", "wind", "(II)I"⟩, prog_13_method_25_code, 3, (some .int), [], [8142, 1017, 8140, 0, 8141]),
  (⟨"ClockParliamentModel", "moves", "(II)I"⟩, prog_13_method_26_code, 4, (some .int), [], [8161, 1017, 8160, 0, 49]),
  (⟨"ClockParliamentModel", "move", "(II)I"⟩, prog_13_method_27_code, 3, (some .int), [], [8157, 1017, 8155, 0, 8156]),
  (⟨"ClockParliamentModel", "placeOf", "(I)I"⟩, prog_13_method_28_code, 3, (some .int), [], [8193, 1017, 8192, 0, 55]),
  (⟨"ClockParliamentModel", "leavesRow", "(I)V"⟩, prog_13_method_29_code, 3, none, [], [8189, 1017, 8188, 0, 54]),
  (⟨"ClockParliamentModel", "standsFirst", "(I)V"⟩, prog_13_method_30_code, 3, none, [], [9009, 1017, 9008, 0, 66]),
  (⟨"ClockParliamentModel", "tables", "(III)I"⟩, prog_13_method_31_code, 5, (some .int), [], [8169, 1017, 8168, 0, 50]),
  (⟨"ClockParliamentModel", "bill", "(III)I"⟩, prog_13_method_32_code, 4, (some .int), [], [8165, 1017, 8163, 0, 8164]),
  (⟨"ClockParliamentModel", "awayOnes", "()I"⟩, prog_13_method_33_code, 1, (some .int), [], [8197, 1017, 8196, 0, 56]),
  (⟨"ClockParliamentModel", "goesAway", "(II)V"⟩, prog_13_method_34_code, 3, none, [], [8185, 1017, 8184, 0, 53]),
  (⟨"ClockParliamentModel", "adjourns", "(II)I"⟩, prog_13_method_35_code, 3, (some .int), [], [8177, 1017, 8176, 0, 51]),
  (⟨"ClockParliamentModel", "adjourn", "(II)I"⟩, prog_13_method_36_code, 3, (some .int), [], [8173, 1017, 8171, 0, 8172]),
  (⟨"ClockParliamentModel", "isDoneWith", "(I)V"⟩, prog_13_method_37_code, 3, none, [], [8209, 1017, 8208, 0, 58]),
  (⟨"ClockParliamentModel", "drops", "(I)I"⟩, prog_13_method_38_code, 2, (some .int), [], [8205, 1017, 8204, 0, 57]),
  (⟨"ClockParliamentModel", "drop", "(I)I"⟩, prog_13_method_39_code, 2, (some .int), [], [8201, 1017, 8199, 0, 8200]),
  (⟨"ClockParliamentModel", "votersOn", "(I)I"⟩, prog_13_method_40_code, 4, (some .int), [], [8221, 1017, 8220, 0, 60])]
noncomputable def z_ms10 : List z_Mt := [(⟨"ClockParliamentModel", "majorityOf", "(I)I"⟩, prog_13_method_41_code, 4, (some .int), [], [8225, 1017, 8224, 0, 61]),
  (⟨"ClockParliamentModel", "chime", "(I)V"⟩, prog_13_method_42_code, 4, none, [], [8229, 1017, 8228, 0, 62]),
  (⟨"ClockParliamentModel", "votes", "()I"⟩, prog_13_method_43_code, 5, (some .int), [], [8217, 1017, 8216, 0, 59]),
  (⟨"ClockParliamentModel", "vote", "()I"⟩, prog_13_method_44_code, 1, (some .int), [], [8213, 1017, 8211, 0, 8212]),
  (⟨"ClockParliamentModel", "comeBack", "()I"⟩, prog_13_method_45_code, 4, (some .int), [], [9005, 1017, 9004, 0, 65]),
  (⟨"ClockParliamentModel", "hourGoes", "()I"⟩, prog_13_method_46_code, 3, (some .int), [], [9001, 1017, 9000, 0, 64]),
  (⟨"ClockParliamentModel", "hoursGo", "(I)I"⟩, prog_13_method_47_code, 4, (some .int), [], [8237, 1017, 8236, 0, 63]),
  (⟨"ClockParliamentModel", "hour", "(I)I"⟩, prog_13_method_48_code, 2, (some .int), [], [8233, 1017, 8231, 0, 8232]),
  (⟨"ClockParliamentModel", "keysOf", "(I)I"⟩, prog_13_method_49_code, 4, (some .int), [], [9017, 1017, 9016, 0, 67]),
  (⟨"ClockParliamentModel", "billsOf", "(I)I"⟩, prog_13_method_50_code, 4, (some .int), [], [9021, 1017, 9020, 0, 68]),
  (⟨"ClockParliamentModel", "agreeing", "(I)I"⟩, prog_13_method_51_code, 4, (some .int), [], [9025, 1017, 9024, 0, 69]),
  (⟨"ClockParliamentModel", "clockOf", "(II)I"⟩, prog_13_method_52_code, 3, (some .int), [], [9013, 1017, 9011, 0, 9012]),
  (⟨"ClockParliamentModel", "billOf", "(II)I"⟩, prog_13_method_53_code, 3, (some .int), [], [9029, 1017, 9027, 0, 9028]),
  (⟨"ClockParliamentModel", "keeper", "(I)I"⟩, prog_13_method_54_code, 2, (some .int), [], [9033, 1017, 9031, 0, 9032]),
  (⟨"ClockParliamentModel", "doAgree", "(II)Z"⟩, prog_13_method_55_code, 3, (some .boolean), [], [9037, 1017, 9035, 0, 9036]),
  (⟨"ClockParliamentModel", "apart", "(II)I"⟩, prog_13_method_56_code, 3, (some .int), [], [9041, 1017, 9039, 0, 9040]),
  (⟨"ClockParliamentModel", "row", "(I)I"⟩, prog_13_method_57_code, 2, (some .int), [], [9045, 1017, 9043, 0, 9044]),
  (⟨"ClockParliamentModel", "rowBehind", "(II)I"⟩, prog_13_method_58_code, 5, (some .int), [], [9053, 1017, 9052, 0, 70]),
  (⟨"ClockParliamentModel", "rowIn", "(II)I"⟩, prog_13_method_59_code, 4, (some .int), [], [9049, 1017, 9047, 0, 9048]),
  (⟨"ClockParliamentModel", "rowAgain", "(II)I"⟩, prog_13_method_60_code, 3, (some .int), [], [9057, 1017, 9055, 0, 9056])]
noncomputable def z_ms11 : List z_Mt := [(⟨"ClockParliamentModel", "next", "()I"⟩, prog_13_method_61_code, 3, (some .int), [], [9062, 1017, 9060, 0, 9061]),
  (⟨"ClockParliamentModel", "silentIn", "(I)I"⟩, prog_13_method_62_code, 2, (some .int), [], [9066, 1017, 9064, 0, 9065]),
  (⟨"ClockParliamentModel", "secondIn", "(II)I"⟩, prog_13_method_63_code, 4, (some .int), [], [9070, 1017, 9068, 0, 9069]),
  (⟨"ClockParliamentModel", "voters", "(I)I"⟩, prog_13_method_64_code, 2, (some .int), [], [9074, 1017, 9072, 0, 9073]),
  (⟨"ClockParliamentModel", "majority", "(I)I"⟩, prog_13_method_65_code, 2, (some .int), [], [9078, 1017, 9076, 0, 9077]),
  (⟨"ClockParliamentModel", "majorityAgain", "(I)I"⟩, prog_13_method_66_code, 2, (some .int), [], [9082, 1017, 9080, 0, 9081]),
  (⟨"ClockParliamentModel", "carries", "(I)Z"⟩, prog_13_method_67_code, 2, (some .boolean), [], [9091, 1017, 9090, 0, 71]),
  (⟨"ClockParliamentModel", "wouldCarry", "(I)Z"⟩, prog_13_method_68_code, 2, (some .boolean), [], [9087, 1017, 9085, 0, 9086]),
  (⟨"ClockParliamentModel", "carried", "()I"⟩, prog_13_method_69_code, 3, (some .int), [], [9095, 1017, 9093, 0, 9094]),
  (⟨"ClockParliamentModel", "weakest", "()I"⟩, prog_13_method_70_code, 3, (some .int), [], [9099, 1017, 9097, 0, 9098]),
  (⟨"ClockParliamentModel", "circleOf", "(I)I"⟩, prog_13_method_71_code, 5, (some .int), [], [9107, 1017, 9106, 0, 72]),
  (⟨"ClockParliamentModel", "circle", "(I)I"⟩, prog_13_method_72_code, 2, (some .int), [], [9103, 1017, 9101, 0, 9102]),
  (⟨"ClockParliamentModel", "ranked", "(II)I"⟩, prog_13_method_73_code, 8, (some .int), [], [9111, 1017, 9109, 0, 9110]),
  (⟨"ClockParliamentModel", "isTold", "()Z"⟩, prog_13_method_74_code, 1, (some .boolean), [], [9115, 1017, 9113, 0, 9114]),
  (⟨"ClockParliamentModel", "append", "(C)I"⟩, prog_13_method_75_code, 2, (some .int), [], [9119, 1017, 9117, 0, 9118]),
  (⟨"ClockParliamentModel", "here", "()I"⟩, prog_13_method_76_code, 1, (some .int), [], [9131, 1017, 9130, 0, 74]),
  (⟨"ClockParliamentModel", "needs", "(I)V"⟩, prog_13_method_77_code, 2, none, [], [9139, 1017, 9138, 0, 76]),
  (⟨"ClockParliamentModel", "needsThree", "(III)V"⟩, prog_13_method_78_code, 4, none, [], [9135, 1017, 9134, 0, 75]),
  (⟨"ClockParliamentModel", "figures", "(I)I"⟩, prog_13_method_79_code, 4, (some .int), [], [9143, 1017, 9142, 0, 77]),
  (⟨"ClockParliamentModel", "readsKey", "(I)V"⟩, prog_13_method_80_code, 3, none, [], [9147, 1017, 9146, 0, 78])]
noncomputable def z_ms12 : List z_Mt := [(⟨"ClockParliamentModel", "readsAdjourn", "(I)V"⟩, prog_13_method_81_code, 2, none, [], [9151, 1017, 9150, 0, 79]),
  (⟨"ClockParliamentModel", "readsOrder", "(I)V"⟩, prog_13_method_82_code, 3, none, [], [9127, 1017, 9126, 0, 73]),
  (⟨"ClockParliamentModel", "does", "(I)I"⟩, prog_13_method_83_code, 4, (some .int), [], [9155, 1017, 9154, 0, 80]),
  (⟨"ClockParliamentModel", "refusesText", "(I)I"⟩, prog_13_method_84_code, 5, (some .int), [], [9159, 1017, 9158, 0, 81]),
  (⟨"ClockParliamentModel", "run", "()I"⟩, prog_13_method_85_code, 5, (some .int), [], [9123, 1017, 9121, 0, 9122]),
  (⟨"ClockParliamentModel", "faultPosition", "()I"⟩, prog_13_method_86_code, 1, (some .int), [], [9163, 1017, 9161, 0, 9162]),
  (⟨"ClockParliamentModel", "reason", "(IZ)I"⟩, prog_13_method_87_code, 4, (some .int), [], [9167, 1017, 9165, 0, 9166]),
  (⟨"ClockParliamentModel", "writes", "(I)V"⟩, prog_13_method_88_code, 2, none, [], [9175, 1017, 9174, 0, 82]),
  (⟨"ClockParliamentModel", "writesBehind", "(II)V"⟩, prog_13_method_89_code, 3, none, [], [9179, 1017, 9178, 0, 83]),
  (⟨"ClockParliamentModel", "tell", "(I)I"⟩, prog_13_method_90_code, 3, (some .int), [], [9171, 1017, 9169, 0, 9170]),
  (⟨"ClockParliamentModel", "tellBill", "(I)I"⟩, prog_13_method_91_code, 2, (some .int), [], [9183, 1017, 9181, 0, 9182]),
  (⟨"ClockParliamentModel", "tellRow", "()I"⟩, prog_13_method_92_code, 2, (some .int), [], [9187, 1017, 9185, 0, 9186]),
  (⟨"ClockParliamentModel", "character", "(I)C"⟩, prog_13_method_93_code, 2, (some .char), [], [9191, 1017, 9189, 0, 9190]),
  (⟨"ClockParliamentModel", "silent", "()I"⟩, prog_13_method_94_code, 3, (some .int), [], [9199, 1017, 9198, 0, 84]),
  (⟨"ClockParliamentModel", "springs", "()I"⟩, prog_13_method_95_code, 3, (some .int), [], [9203, 1017, 9202, 0, 85]),
  (⟨"ClockParliamentModel", "account", "(I)I"⟩, prog_13_method_96_code, 2, (some .int), [], [9195, 1017, 9193, 0, 9194]),
  (⟨"ClockParliamentModel", "meanSpring", "()D"⟩, prog_13_method_97_code, 1, (some .double), [], [9207, 1017, 9205, 0, 9206]),
  (⟨"ClockParliamentModel", "carriedShare", "()F"⟩, prog_13_method_98_code, 1, (some .float), [], [9211, 1017, 9209, 0, 9210]),
  (⟨"ClockParliamentModel", "undo", "()I"⟩, prog_13_method_99_code, 1, (some .int), [], [9215, 1017, 9213, 0, 9214]),
  (⟨"ClockParliamentModel", "save", "()I"⟩, prog_13_method_100_code, 1, (some .int), [], [9219, 1017, 9217, 0, 9218])]
noncomputable def z_ms13 : List z_Mt := [(⟨"ClockParliamentModel", "restore", "()I"⟩, prog_13_method_101_code, 1, (some .int), [], [9223, 1017, 9221, 0, 9222]),
  (⟨"ClockParliamentLaw", "clock", "(LClockParliament;II[J)I"⟩, method_3_code, 5, (some .int), [(0, 10, 13, 13)], [4170, 1000, 4169, 1, 99999]),
  (⟨"ClockParliamentLaw", "leave", "(LClockParliament;I[J)I"⟩, method_4_code, 4, (some .int), [(0, 9, 12, 13)], [5142, 1000, 5141, 1, 99999]),
  (⟨"ClockParliamentLaw", "key", "(LClockParliament;II[J)I"⟩, method_5_code, 5, (some .int), [(0, 10, 13, 13)], [5151, 1000, 5150, 1, 99999]),
  (⟨"ClockParliamentLaw", "wind", "(LClockParliament;II[J)I"⟩, method_6_code, 5, (some .int), [(0, 10, 13, 13)], [5160, 1000, 5159, 1, 99999]),
  (⟨"ClockParliamentLaw", "move", "(LClockParliament;II[J)I"⟩, method_7_code, 5, (some .int), [(0, 10, 13, 13)], [5169, 1000, 5168, 1, 99999]),
  (⟨"ClockParliamentLaw", "bill", "(LClockParliament;III[J)I"⟩, method_8_code, 6, (some .int), [(0, 12, 15, 13)], [5178, 1000, 5177, 1, 99999]),
  (⟨"ClockParliamentLaw", "adjourn", "(LClockParliament;II[J)I"⟩, method_9_code, 5, (some .int), [(0, 10, 13, 13)], [5187, 1000, 5186, 1, 99999]),
  (⟨"ClockParliamentLaw", "drop", "(LClockParliament;I[J)I"⟩, method_10_code, 4, (some .int), [(0, 9, 12, 13)], [5196, 1000, 5195, 1, 99999]),
  (⟨"ClockParliamentLaw", "vote", "(LClockParliament;[J)I"⟩, method_11_code, 3, (some .int), [(0, 8, 11, 13)], [5205, 1000, 5204, 1, 99999]),
  (⟨"ClockParliamentLaw", "hour", "(LClockParliament;I[J)I"⟩, method_12_code, 4, (some .int), [(0, 9, 12, 13)], [5213, 1000, 5212, 1, 99999]),
  (⟨"ClockParliamentLaw", "clockOf", "(LClockParliament;II[J)I"⟩, method_13_code, 5, (some .int), [(0, 10, 13, 48), (0, 10, 17, 50)], [5222, 1000, 5221, 1, 99999]),
  (⟨"ClockParliamentLaw", "billOf", "(LClockParliament;II[J)I"⟩, method_14_code, 5, (some .int), [(0, 10, 13, 48), (0, 10, 17, 50)], [6020, 1000, 6019, 1, 99999]),
  (⟨"ClockParliamentLaw", "keeper", "(LClockParliament;I[J)I"⟩, method_15_code, 4, (some .int), [(0, 9, 12, 48)], [6034, 1000, 6033, 1, 99999]),
  (⟨"ClockParliamentLaw", "doAgree", "(LClockParliament;II[J)I"⟩, method_16_code, 5, (some .int), [(0, 17, 20, 48)], [6042, 1000, 6041, 1, 99999]),
  (⟨"ClockParliamentLaw", "apart", "(LClockParliament;II[J)I"⟩, method_17_code, 5, (some .int), [(0, 10, 13, 48)], [6050, 1000, 6049, 1, 99999]),
  (⟨"ClockParliamentLaw", "row", "(LClockParliament;I[J)I"⟩, method_18_code, 4, (some .int), [(0, 9, 12, 68)], [6058, 1000, 6057, 1, 99999]),
  (⟨"ClockParliamentLaw", "rowIn", "(LClockParliament;II[J)I"⟩, method_19_code, 5, (some .int), [(0, 10, 13, 50), (0, 10, 17, 68)], [6086, 1000, 6085, 1, 99999]),
  (⟨"ClockParliamentLaw", "rowAgain", "(LClockParliament;II[J)I"⟩, method_20_code, 5, (some .int), [(0, 10, 13, 50), (0, 10, 17, 68)], [6098, 1000, 6097, 1, 99999]),
  (⟨"ClockParliamentLaw", "next", "(LClockParliament;[J)I"⟩, method_21_code, 3, (some .int), [(0, 8, 11, 68)], [6105, 1000, 6104, 1, 99999])]
noncomputable def z_ms14 : List z_Mt := [(⟨"ClockParliamentLaw", "silentIn", "(LClockParliament;I[J)I"⟩, method_22_code, 4, (some .int), [(0, 9, 12, 48)], [6117, 1000, 6116, 1, 99999]),
  (⟨"ClockParliamentLaw", "secondIn", "(LClockParliament;II[J)I"⟩, method_23_code, 5, (some .int), [(0, 10, 13, 48), (0, 10, 17, 50)], [6125, 1000, 6124, 1, 99999]),
  (⟨"ClockParliamentLaw", "voters", "(LClockParliament;I[J)I"⟩, method_24_code, 4, (some .int), [(0, 9, 12, 48)], [6132, 1000, 6131, 1, 99999]),
  (⟨"ClockParliamentLaw", "majority", "(LClockParliament;I[J)I"⟩, method_25_code, 4, (some .int), [(0, 9, 12, 48)], [6140, 1000, 6139, 1, 99999]),
  (⟨"ClockParliamentLaw", "majorityAgain", "(LClockParliament;I[J)I"⟩, method_26_code, 4, (some .int), [(0, 9, 12, 48)], [6147, 1000, 6146, 1, 99999]),
  (⟨"ClockParliamentLaw", "wouldCarry", "(LClockParliament;I[J)I"⟩, method_27_code, 4, (some .int), [(0, 16, 19, 48)], [6154, 1000, 6153, 1, 99999]),
  (⟨"ClockParliamentLaw", "weakest", "(LClockParliament;[J)I"⟩, method_28_code, 3, (some .int), [(0, 8, 11, 68)], [6161, 1000, 6160, 1, 99999]),
  (⟨"ClockParliamentLaw", "circle", "(LClockParliament;I[J)I"⟩, method_29_code, 4, (some .int), [(0, 9, 12, 48)], [6173, 1000, 6172, 1, 99999]),
  (⟨"ClockParliamentLaw", "ranked", "(LClockParliament;II[J)I"⟩, method_30_code, 5, (some .int), [(0, 10, 13, 50), (0, 10, 17, 68)], [6186, 1000, 6185, 1, 99999]),
  (⟨"ClockParliamentLaw", "append", "(LClockParliament;C[J)I"⟩, method_31_code, 4, (some .int), [(0, 9, 12, 50), (0, 9, 15, 111)], [6206, 1000, 6205, 1, 99999]),
  (⟨"ClockParliamentLaw", "run", "(LClockParliament;[J)I"⟩, method_32_code, 3, (some .int), [(0, 8, 11, 50), (0, 8, 14, 13)], [7001, 1000, 7000, 1, 99999]),
  (⟨"ClockParliamentLaw", "reason", "(LClockParliament;IZ[J)I"⟩, method_33_code, 5, (some .int), [(0, 10, 13, 50), (0, 10, 17, 68)], [7138, 1000, 7137, 1, 99999]),
  (⟨"ClockParliamentLaw", "tell", "(LClockParliament;I[J)I"⟩, method_34_code, 4, (some .int), [(0, 9, 12, 48)], [7151, 1000, 7150, 1, 99999]),
  (⟨"ClockParliamentLaw", "tellBill", "(LClockParliament;I[J)I"⟩, method_35_code, 4, (some .int), [(0, 9, 12, 48)], [7158, 1000, 7157, 1, 99999]),
  (⟨"ClockParliamentLaw", "character", "(LClockParliament;I[J)I"⟩, method_36_code, 4, (some .int), [(0, 9, 12, 48)], [7165, 1000, 7164, 1, 99999]),
  (⟨"ClockParliamentLaw", "account", "(LClockParliament;I[J)I"⟩, method_37_code, 4, (some .int), [(0, 9, 12, 50)], [7174, 1000, 7173, 1, 99999]),
  (⟨"ClockParliamentLaw", "meanSpring", "(LClockParliament;[D)I"⟩, method_38_code, 3, (some .int), [(0, 7, 10, 137)], [7187, 1000, 7186, 1, 99999]),
  (⟨"ClockParliamentLaw", "carriedShare", "(LClockParliament;[D)I"⟩, method_39_code, 3, (some .int), [(0, 8, 11, 137)], [7210, 1000, 7209, 1, 99999]),
  (⟨"ClockParliamentLaw", "undo", "(LClockParliament;[J)I"⟩, method_40_code, 3, (some .int), [(0, 8, 11, 111)], [7218, 1000, 7217, 1, 99999]),
  (⟨"ClockParliamentLaw", "restore", "(LClockParliament;[J)I"⟩, method_41_code, 3, (some .int), [(0, 8, 11, 111)], [7230, 1000, 7229, 1, 99999])]
noncomputable def z_ms15 : List z_Mt := [(⟨"java/lang/StringBuilder", "<init>", "()V"⟩, prog_33_method_1_code, 1, none, [], [1209, 1010, 1208, 0, 99999]),
  (⟨"java/lang/AbstractStringBuilder", "<init>", "(I)V"⟩, prog_15_method_2_code, 2, none, [], [1212, 1009, 1211, 0, 99999]),
  (⟨"java/lang/StringBuilder", "append", "(C)Ljava/lang/StringBuilder;"⟩, prog_33_method_14_code, 2, (some (.object "java/lang/StringBuilder")), [], [4143, 1010, 4141, 0, 4142]),
  (⟨"java/lang/AbstractStringBuilder", "append", "(C)Ljava/lang/AbstractStringBuilder;"⟩, prog_15_method_31_code, 2, (some (.object "java/lang/AbstractStringBuilder")), [], [4146, 1009, 4145, 0, 99999]),
  (⟨"java/lang/StringBuilder", "append", "(I)Ljava/lang/StringBuilder;"⟩, prog_33_method_15_code, 2, (some (.object "java/lang/StringBuilder")), [], [3161, 1010, 3159, 0, 3160]),
  (⟨"java/lang/AbstractStringBuilder", "append", "(I)Ljava/lang/AbstractStringBuilder;"⟩, prog_15_method_32_code, 4, (some (.object "java/lang/AbstractStringBuilder")), [], [3164, 1009, 3163, 0, 99999]),
  (⟨"java/lang/StringBuilder", "setLength", "(I)V"⟩, prog_33_method_89_code, 2, none, [], [3030, 1010, 3028, 0, 3029]),
  (⟨"java/lang/AbstractStringBuilder", "setLength", "(I)V"⟩, prog_15_method_13_code, 2, none, [], [3033, 1009, 3032, 0, 99999]),
  (⟨"java/lang/StringBuilder", "length", "()I"⟩, prog_33_method_93_code, 1, (some .int), [], [3206, 1010, 3205, 0, 9237]),
  (⟨"java/lang/AbstractStringBuilder", "length", "()I"⟩, prog_15_method_6_code, 1, (some .int), [], [3208, 1009, 3202, 0, 99999]),
  (⟨"java/lang/StringBuilder", "charAt", "(I)C"⟩, prog_33_method_88_code, 2, (some .char), [], [7021, 1010, 7019, 0, 7020]),
  (⟨"java/lang/AbstractStringBuilder", "charAt", "(I)C"⟩, prog_15_method_14_code, 5, (some .char), [], [7024, 1009, 7023, 0, 99999]),
  (⟨"java/lang/AbstractStringBuilder", "ensureCapacityInternal", "(I)V"⟩, prog_15_method_9_code, 3, none, [], [3056, 1009, 3055, 0, 99999]),
  (⟨"java/lang/AbstractStringBuilder", "newCapacity", "(I)I"⟩, prog_15_method_10_code, 6, (some .int), [], [3060, 1009, 3059, 0, 99999]),
  (⟨"java/lang/AbstractStringBuilder", "isLatin1", "()Z"⟩, prog_15_method_68_code, 1, (some .boolean), [], [3088, 1009, 3085, 0, 99999]),
  (⟨"java/lang/StringLatin1", "canEncode", "(I)Z"⟩, prog_35_method_4_code, 1, (some .boolean), [], [7051, 1033, 7050, 1, 99999]),
  (⟨"java/lang/StringLatin1", "canEncode", "(C)Z"⟩, prog_35_method_3_code, 1, (some .boolean), [], [4149, 1033, 4148, 1, 99999]),
  (⟨"java/util/Arrays", "copyOf", "([BI)[B"⟩, prog_42_method_121_code, 3, (some (.array .byte)), [], [3072, 1031, 3071, 1, 99999]),
  (⟨"java/lang/Math", "min", "(II)I"⟩, prog_29_method_69_code, 2, (some .int), [], [2147, 1005, 2146, 1, 99999]),
  (⟨"java/lang/Math", "max", "(II)I"⟩, prog_29_method_65_code, 2, (some .int), [], [1066, 1005, 1065, 1, 99999])]
noncomputable def z_ms16 : List z_Mt := [(⟨"java/lang/Math", "abs", "(I)I"⟩, prog_29_method_59_code, 1, (some .int), [], [2144, 1005, 2143, 1, 99999]),
  (⟨"java/lang/Math", "floorMod", "(II)I"⟩, prog_29_method_50_code, 3, (some .int), [], [5068, 1005, 5067, 1, 99999]),
  (⟨"jdk/internal/util/ArraysSupport", "newLength", "(III)I"⟩, prog_44_method_27_code, 4, (some .int), [], [3063, 1030, 3062, 1, 99999]),
  (⟨"java/lang/String", "checkIndex", "(II)V"⟩, prog_32_method_155_code, 2, none, [], [4158, 1011, 4157, 1, 99999]),
  (⟨"jdk/internal/util/Preconditions", "checkIndex", "(IILjava/util/function/BiFunction;)I"⟩, prog_45_method_11_code, 3, (some .int), [], [4161, 1034, 4160, 1, 99999]),
  (⟨"java/lang/Integer", "stringSize", "(I)I"⟩, prog_28_method_13_code, 4, (some .int), [], [3167, 1024, 3166, 1, 99999]),
  (⟨"java/lang/Integer", "getChars", "(II[B)I"⟩, prog_28_method_12_code, 7, (some .int), [], [3170, 1024, 3169, 1, 99999]),
  (⟨"java/lang/Integer", "bitCount", "(I)I"⟩, prog_28_method_49_code, 1, (some .int), [], [5131, 1024, 5130, 1, 99999]),
  (⟨"java/lang/Enum", "ordinal", "()I"⟩, prog_23_method_2_code, 1, (some .int), [], [4197, 1014, 4196, 0, 99999]),
  (⟨"java/lang/String", "charAt", "(I)C"⟩, prog_32_method_56_code, 2, (some .char), [], [7088, 1011, 7086, 0, 7087]),
  (⟨"java/lang/String", "isLatin1", "()Z"⟩, prog_32_method_154_code, 1, (some .boolean), [], [7044, 1011, 7042, 0, 7043]),
  (⟨"java/lang/String", "length", "()I"⟩, prog_32_method_54_code, 1, (some .int), [], [3118, 1011, 3116, 0, 3117]),
  (⟨"java/lang/String", "coder", "()B"⟩, prog_32_method_152_code, 1, (some .byte), [], [3122, 1011, 3120, 0, 3121]),
  (⟨"java/lang/String", "indexOf", "(I)I"⟩, prog_32_method_79_code, 2, (some .int), [], [7036, 1011, 7034, 0, 7035]),
  (⟨"java/lang/String", "indexOf", "(II)I"⟩, prog_32_method_80_code, 3, (some .int), [], [7040, 1011, 7038, 0, 7039]),
  (⟨"java/lang/StringLatin1", "charAt", "([BI)C"⟩, prog_35_method_2_code, 2, (some .char), [], [7091, 1033, 7090, 1, 99999]),
  (⟨"java/lang/StringLatin1", "indexOf", "([BIII)I"⟩, prog_35_method_22_code, 4, (some .int), [], [7048, 1033, 7047, 1, 99999]),
  (⟨"java/lang/StringLatin1", "indexOfChar", "([BIII)I"⟩, prog_35_method_23_code, 6, (some .int), [], [7056, 1033, 7055, 1, 99999]),
  (x, code, 9, ret, [], [99999, 1000, 99999, 1, 99999])]
noncomputable def z_mtab : List (List z_Mt) := [z_ms0, z_ms1, z_ms2, z_ms3, z_ms4, z_ms5, z_ms6, z_ms7, z_ms8, z_ms9, z_ms10, z_ms11, z_ms12, z_ms13, z_ms14, z_ms15, z_ms16]
def z_T0 : u_T := fun k => match k with
  | 0 => ("ClockParliament$Bills", "movers", "LClockParliament$Numbers;", true)
  | 1 => ("ClockParliament$Bills", "seconds", "LClockParliament$Numbers;", true)
  | 2 => ("ClockParliament$Bills", "needs", "LClockParliament$Numbers;", true)
  | 3 => ("ClockParliament$Bills", "hours", "LClockParliament$Numbers;", true)
  | 4 => ("ClockParliament$Bills", "adjournings", "LClockParliament$Numbers;", true)
  | _ => ("ClockParliament$Bills", "row", "LClockParliament$Numbers;", true)
def z_ty0 : Nat → FieldType := fun k => match k with
  | 0 => .object "ClockParliament$Numbers"
  | 1 => .object "ClockParliament$Numbers"
  | 2 => .object "ClockParliament$Numbers"
  | 3 => .object "ClockParliament$Numbers"
  | 4 => .object "ClockParliament$Numbers"
  | _ => .object "ClockParliament$Numbers"
def z_T1 : u_T := fun k => match k with
  | 0 => ("ClockParliament$Clocks", "seconds", "LClockParliament$Numbers;", true)
  | 1 => ("ClockParliament$Clocks", "springs", "LClockParliament$Numbers;", true)
  | 2 => ("ClockParliament$Clocks", "leanings", "LClockParliament$Numbers;", true)
  | 3 => ("ClockParliament$Clocks", "votes", "LClockParliament$Numbers;", true)
  | _ => ("ClockParliament$Clocks", "keepers", "LClockParliament$Numbers;", true)
def z_ty1 : Nat → FieldType := fun k => match k with
  | 0 => .object "ClockParliament$Numbers"
  | 1 => .object "ClockParliament$Numbers"
  | 2 => .object "ClockParliament$Numbers"
  | 3 => .object "ClockParliament$Numbers"
  | _ => .object "ClockParliament$Numbers"
def z_T2 : u_T := fun k => match k with
  | 0 => ("ClockParliament$History", "past", "[LClockParliament$House;", true)
  | 1 => ("ClockParliament$History", "oldest", "I", false)
  | _ => ("ClockParliament$History", "count", "I", false)
def z_ty2 : Nat → FieldType := fun k => match k with
  | 0 => .array (.object "ClockParliament$House")
  | 1 => .int
  | _ => .int
def z_T3 : u_T := fun k => match k with
  | 0 => ("ClockParliament$House", "clocks", "LClockParliament$Clocks;", true)
  | 1 => ("ClockParliament$House", "bills", "LClockParliament$Bills;", true)
  | 2 => ("ClockParliament$House", "hoursGone", "I", false)
  | 3 => ("ClockParliament$House", "votesHeld", "I", false)
  | 4 => ("ClockParliament$House", "billsCarried", "I", false)
  | 5 => ("ClockParliament$House", "chimes", "I", false)
  | 6 => ("ClockParliament$House", "comebacks", "I", false)
  | _ => ("ClockParliament$House", "windings", "I", false)
def z_ty3 : Nat → FieldType := fun k => match k with
  | 0 => .object "ClockParliament$Clocks"
  | 1 => .object "ClockParliament$Bills"
  | 2 => .int
  | 3 => .int
  | 4 => .int
  | 5 => .int
  | 6 => .int
  | _ => .int
def z_T4 : u_T := fun k => match k with
  | 0 => ("ClockParliament$Numbers", "room", "[I", true)
  | _ => ("ClockParliament$Numbers", "size", "I", false)
def z_ty4 : Nat → FieldType := fun k => match k with
  | 0 => .array .int
  | _ => .int
def z_T5 : u_T := fun k => match k with
  | 0 => ("ClockParliament$Order", "kind", "LClockParliament$Kind;", false)
  | 1 => ("ClockParliament$Order", "first", "I", false)
  | 2 => ("ClockParliament$Order", "second", "I", false)
  | 3 => ("ClockParliament$Order", "third", "I", false)
  | _ => ("ClockParliament$Order", "taken", "I", false)
def z_ty5 : Nat → FieldType := fun k => match k with
  | 0 => .object "ClockParliament$Kind"
  | 1 => .int
  | 2 => .int
  | 3 => .int
  | _ => .int
def z_T6 : u_T := fun k => match k with
  | 0 => ("ClockParliament$OrderText", "text", "Ljava/lang/StringBuilder;", true)
  | 1 => ("ClockParliament$OrderText", "tried", "LClockParliament$Order;", true)
  | _ => ("ClockParliament$OrderText", "position", "I", false)
def z_ty6 : Nat → FieldType := fun k => match k with
  | 0 => .object "java/lang/StringBuilder"
  | 1 => .object "ClockParliament$Order"
  | _ => .int
def z_T7 : u_T := fun k => match k with
  | 0 => ("ClockParliament$Refusal", "number", "I", false)
  | _ => ("ClockParliament$Refusal", "detail", "I", false)
def z_ty7 : Nat → FieldType := fun k => match k with
  | 0 => .int
  | _ => .int
def z_T8 : u_T := fun k => match k with
  | 0 => ("ClockParliament", "house", "LClockParliament$House;", true)
  | 1 => ("ClockParliament", "spare", "LClockParliament$House;", true)
  | 2 => ("ClockParliament", "saved", "LClockParliament$House;", true)
  | 3 => ("ClockParliament", "isSaved", "Z", false)
  | 4 => ("ClockParliament", "history", "LClockParliament$History;", true)
  | 5 => ("ClockParliament", "input", "LClockParliament$OrderText;", true)
  | 6 => ("ClockParliament", "order", "LClockParliament$Order;", true)
  | 7 => ("ClockParliament", "line", "Ljava/lang/StringBuilder;", true)
  | 8 => ("ClockParliament", "found", "LClockParliament$Refusal;", true)
  | 9 => ("ClockParliament", "kept", "LClockParliament$Refusal;", true)
  | 10 => ("ClockParliament", "cause", "LClockParliament$Refusal;", true)
  | _ => ("ClockParliament", "latestFault", "I", false)
def z_ty8 : Nat → FieldType := fun k => match k with
  | 0 => .object "ClockParliament$House"
  | 1 => .object "ClockParliament$House"
  | 2 => .object "ClockParliament$House"
  | 3 => .boolean
  | 4 => .object "ClockParliament$History"
  | 5 => .object "ClockParliament$OrderText"
  | 6 => .object "ClockParliament$Order"
  | 7 => .object "java/lang/StringBuilder"
  | 8 => .object "ClockParliament$Refusal"
  | 9 => .object "ClockParliament$Refusal"
  | 10 => .object "ClockParliament$Refusal"
  | _ => .int
def z_T9 : u_T := fun k => match k with
  | 0 => ("ClockParliamentModel", "g", "[I", true)
  | 1 => ("ClockParliamentModel", "before", "[I", true)
  | 2 => ("ClockParliamentModel", "ahead", "[I", true)
  | 3 => ("ClockParliamentModel", "history", "[I", true)
  | 4 => ("ClockParliamentModel", "changes", "I", false)
  | 5 => ("ClockParliamentModel", "savedOnes", "[I", true)
  | 6 => ("ClockParliamentModel", "hasSaved", "Z", false)
  | 7 => ("ClockParliamentModel", "input", "[C", true)
  | 8 => ("ClockParliamentModel", "typed", "I", false)
  | 9 => ("ClockParliamentModel", "faultAt", "I", false)
  | 10 => ("ClockParliamentModel", "why", "I", false)
  | 11 => ("ClockParliamentModel", "whyDetail", "I", false)
  | 12 => ("ClockParliamentModel", "behind", "I", false)
  | 13 => ("ClockParliamentModel", "behindDetail", "I", false)
  | 14 => ("ClockParliamentModel", "letters", "[C", true)
  | 15 => ("ClockParliamentModel", "lined", "I", false)
  | 16 => ("ClockParliamentModel", "thrown", "I", false)
  | 17 => ("ClockParliamentModel", "spot", "I", false)
  | 18 => ("ClockParliamentModel", "isWrong", "Z", false)
  | _ => ("ClockParliamentModel", "told", "[I", true)
def z_ty9 : Nat → FieldType := fun k => match k with
  | 0 => .array .int
  | 1 => .array .int
  | 2 => .array .int
  | 3 => .array .int
  | 4 => .int
  | 5 => .array .int
  | 6 => .boolean
  | 7 => .array .char
  | 8 => .int
  | 9 => .int
  | 10 => .int
  | 11 => .int
  | 12 => .int
  | 13 => .int
  | 14 => .array .char
  | 15 => .int
  | 16 => .int
  | 17 => .int
  | 18 => .boolean
  | _ => .array .int
def z_T10 : u_T := fun k => match k with
  | 0 => ("java/lang/AbstractStringBuilder", "value", "[B", false)
  | 1 => ("java/lang/AbstractStringBuilder", "coder", "B", false)
  | 2 => ("java/lang/AbstractStringBuilder", "maybeLatin1", "Z", false)
  | _ => ("java/lang/AbstractStringBuilder", "count", "I", false)
def z_ty10 : Nat → FieldType := fun k => match k with
  | 0 => .array .byte
  | 1 => .byte
  | 2 => .boolean
  | _ => .int
abbrev z_cl : List vw_C := [("ClockParliament$Bills", z_T0, 6), ("ClockParliament$Clocks", z_T1, 5), ("ClockParliament$History", z_T2, 3), ("ClockParliament$House", z_T3, 8), ("ClockParliament$Numbers", z_T4, 2), ("ClockParliament$Order", z_T5, 5), ("ClockParliament$OrderText", z_T6, 3), ("ClockParliament$Refusal", z_T7, 2), ("ClockParliament", z_T8, 12), ("ClockParliamentModel", z_T9, 20), ("java/lang/StringBuilder", z_T10, 4)]
def z_tyl : List (Nat → FieldType) := [z_ty0, z_ty1, z_ty2, z_ty3, z_ty4, z_ty5, z_ty6, z_ty7, z_ty8, z_ty9, z_ty10]
def z_rft : List (String × String × String) := [("java/lang/Enum", "ordinal", "I"), ("ClockParliament$Kind", "form", "Ljava/lang/String;"), ("java/lang/String", "value", "[B"), ("java/lang/String", "coder", "B")]
def z_stt : List (String × String × String) := [("ClockParliament$Kind", "VOTE", "LClockParliament$Kind;"), ("ClockParliament$Kind", "ALL", "[LClockParliament$Kind;"), ("ClockParliament$1", "$SwitchMap$ClockParliament$Kind", "[I"), ("ClockParliament$Kind", "CLOCK", "LClockParliament$Kind;"), ("ClockParliament$Kind", "LEAVE", "LClockParliament$Kind;"), ("ClockParliament$Kind", "KEY", "LClockParliament$Kind;"), ("ClockParliament$Kind", "WIND", "LClockParliament$Kind;"), ("ClockParliament$Kind", "MOVE", "LClockParliament$Kind;"), ("ClockParliament$Kind", "BILL", "LClockParliament$Kind;"), ("ClockParliament$Kind", "ADJOURN", "LClockParliament$Kind;"), ("ClockParliament$Kind", "DROP", "LClockParliament$Kind;"), ("ClockParliament$Kind", "HOUR", "LClockParliament$Kind;"), ("java/lang/String", "COMPACT_STRINGS", "Z"), ("jdk/internal/util/Preconditions", "SIOOBE_FORMATTER", "Ljava/util/function/BiFunction;"), ("java/lang/Integer", "DigitOnes", "[B"), ("java/lang/Integer", "DigitTens", "[B")]
end
section
/-! How the rows are read; that each row is what the bytes decode to, and is linked as its numbers say. -/
noncomputable def z_m (mi : Nat) : z_Mt := (z_mtab.getD (mi / 20) []).getD (mi % 20) (x, code, 9, ret, [], [])
noncomputable def z_y (mi : Nat) : MethodName := (z_m mi).1
noncomputable def z_b (mi : Nat) : ByteArray := (z_m mi).2.1
noncomputable def z_nL (mi : Nat) : Nat := (z_m mi).2.2.1
noncomputable def z_rt (mi : Nat) : Option FieldType := (z_m mi).2.2.2.1
noncomputable def z_hh (mi : Nat) : List (Nat × Nat × Nat × Nat) := (z_m mi).2.2.2.2.1
noncomputable def z_pl (mi k : Nat) : Nat := (z_m mi).2.2.2.2.2.getD k 99999
noncomputable def z_code (mi : Nat) : List (List (List z_Row)) := (z_tab.getD (mi / 20) []).getD (mi % 20) []
noncomputable def z_at (mi pc : Nat) : Option (Instr × Nat × List Nat) := (((z_code mi).getD (pc / 256) []).getD (pc / 16 % 16) []).lookup pc
/-- the code's own word -/
noncomputable def z_cw (mi : Nat) : Cond := if (z_hh mi).isEmpty then .code (z_y mi) (z_b mi) (z_nL mi) (z_rt mi) else .codeWith (z_y mi) (z_b mi) (z_nL mi) (z_rt mi) (z_hh mi)
def z_tyOf : Nat → FieldType
  | 0 => .int | 1 => .char | 2 => .byte | 3 => .long | 4 => .double | _ => .object "ClockParliament$House"
/-- a place: the list's number by thousands, the place in it -/
noncomputable def z_wd (j : Nat) : Option Cond := (([k2_sels lw_privs, tables_1_1, tables_1_2, tables_1_3, tables_1_4, tables_1_5, tables_1_6, tables_1_7, tables_1_8, tables_1_9, tables_1_10] : List (List Cond)).getD (j / 1000) [])[j % 1000]?
noncomputable def z_is (j : Nat) (w : Cond) : Bool := decide (z_wd j = some w)
noncomputable def z_isFN (j : Nat) (own : String) (idx : Nat) (ref n d : String) : Bool := match z_wd j with
  | some (.fieldLinkNest o i r n' d' h) => decide (Cond.fieldLinkNest o i r n' d' h = .fieldLinkNest own idx ref n d h)
  | _ => false
noncomputable def z_isMN (j : Nat) (own : String) (idx : Nat) (y : MethodName) : Bool := match z_wd j with
  | some (.methodLinkNest o i y' h) => decide (Cond.methodLinkNest o i y' h = .methodLinkNest own idx y h)
  | _ => false
noncomputable def z_fl (own : String) (idx : Nat) (ref n d : String) (j : Nat) : Bool := z_is j (.fieldLink own idx ref n d) || z_isFN j own idx ref n d
/-- the exceptions that the class throws with a text: class, its places in the pool, the text, by a wide index or not -/
def z_ex : List (String × Nat × Nat × Nat × String × Bool) := [("java/lang/UnsupportedOperationException", 123, 125, 127, "refused", false),
  ("java/lang/IllegalArgumentException", 185, 187, 189, "what is not 0 to 6", false),
  ("java/lang/IllegalArgumentException", 185, 209, 189, "what is not 0 to 5", false),
  ("java/lang/IndexOutOfBoundsException", 215, 217, 219, "no such key", false),
  ("java/lang/IndexOutOfBoundsException", 215, 229, 219, "no such clock", false),
  ("java/lang/IndexOutOfBoundsException", 215, 232, 219, "no such bill", false),
  ("java/util/NoSuchElementException", 248, 250, 252, "no such place", false),
  ("java/util/NoSuchElementException", 248, 257, 252, "no bill is adjourned", true),
  ("java/lang/IllegalArgumentException", 185, 265, 189, "hours out of range", true),
  ("java/util/NoSuchElementException", 248, 288, 252, "no clocks", true),
  ("java/lang/IllegalArgumentException", 185, 296, 189, "no such kind", true),
  ("java/lang/IllegalArgumentException", 185, 311, 189, "no such character in a text", true),
  ("java/lang/IllegalStateException", 316, 318, 320, "the input is full", true),
  ("java/lang/IllegalArgumentException", 185, 329, 189, "the text has a fault", true),
  ("java/lang/UnsupportedOperationException", 123, 337, 127, "an order is refused", true),
  ("java/lang/IllegalArgumentException", 185, 339, 189, "the depth is not 0 or 1", true),
  ("java/util/NoSuchElementException", 248, 344, 252, "no such reason", true),
  ("java/lang/IndexOutOfBoundsException", 215, 364, 219, "no such index", true),
  ("java/lang/IllegalArgumentException", 185, 403, 189, "what is not 0 to 13", true),
  ("java/lang/ArithmeticException", 405, 288, 407, "no clocks", true),
  ("java/lang/ArithmeticException", 405, 408, 407, "no votes", true),
  ("java/lang/IllegalStateException", 316, 410, 320, "nothing to undo", true),
  ("java/lang/IllegalStateException", 316, 416, 320, "nothing was saved", true)]
def z_nps (d : String) : Nat := match parseMethodDescriptor d with
  | some q => q.parameters.length
  | none => 99
/-- a call: 0 by the receiver's class, 1 static, 2 a constructor, 3 a nest mate's constructor, 4 a nest mate's static, 9 static with handlers -/
noncomputable def z_iv (own : String) (idx : Nat) : List Nat → Bool
  | [0, mj, n, j] => z_is j (.methodLink own idx (z_y mj)) && decide (parseMethodDescriptor (z_y mj).desc ≠ none) && decide (z_nps (z_y mj).desc = n) && decide (z_pl mj 3 = 0) && (z_hh mj).isEmpty && z_is (z_pl mj 4) (.selects (z_y mj).cls (z_y mj) (z_y mj))
  | [1, mj, n, j] => z_is j (.methodLink own idx (z_y mj)) && decide (parseMethodDescriptor (z_y mj).desc ≠ none) && decide (z_nps (z_y mj).desc = n) && decide (z_pl mj 3 = 1) && (z_hh mj).isEmpty
  | [2, mj, n, j] => z_is j (.methodLink own idx (z_y mj)) && decide (parseMethodDescriptor (z_y mj).desc ≠ none) && decide (z_nps (z_y mj).desc = n) && decide (z_pl mj 3 = 0) && (z_hh mj).isEmpty && decide ((z_y mj).name = "<init>") && decide (z_rt mj = none)
  | [3, mj, n, j] => z_isMN j own idx (z_y mj) && decide (parseMethodDescriptor (z_y mj).desc ≠ none) && decide (z_nps (z_y mj).desc = n) && decide (z_pl mj 3 = 0) && (z_hh mj).isEmpty && decide ((z_y mj).name = "<init>") && decide (z_rt mj = none)
  | [4, mj, n, j] => z_isMN j own idx (z_y mj) && decide (parseMethodDescriptor (z_y mj).desc ≠ none) && decide (z_nps (z_y mj).desc = n) && decide (z_pl mj 3 = 1) && (z_hh mj).isEmpty
  | [9, mj, n, j] => z_is j (.methodLink own idx (z_y mj)) && decide (parseMethodDescriptor (z_y mj).desc ≠ none) && decide (z_nps (z_y mj).desc = n) && decide (z_pl mj 3 = 1) && !(z_hh mj).isEmpty
  | [7, _, _, j] => z_is j (.methodLink own idx Lib.objectInit)
  | [5, _, _, j] => z_is j (.methodLink own idx ⟨"ClockParliament$Kind", "ordinal", "()I"⟩)
  | [6, mj, n, j] => z_is j (.methodLink own idx (z_y mj)) && decide (parseMethodDescriptor (z_y mj).desc ≠ none) && decide (z_nps (z_y mj).desc = n)
  | [8, _, _, j] => z_is j (.methodLink own idx arraycopyName)
  | [10, mj, n, j] => z_is j (.methodLink own idx (z_y mj)) && decide (parseMethodDescriptor (z_y mj).desc ≠ none) && decide (z_nps (z_y mj).desc = n)
  | _ => true
noncomputable def z_lk (own : String) (pc : Nat) : Instr → List Nat → Bool
  | .ifCond _ o, [t] => decide ((pc : Int) + o = t)
  | .if_icmp _ o, [t] => decide ((pc : Int) + o = t)
  | .if_acmp _ o, [t] => decide ((pc : Int) + o = t)
  | .goto o, [t] => decide ((pc : Int) + o = t)
  | .ifnull o, [t] => decide ((pc : Int) + o = t)
  | .ifnonnull o, [t] => decide ((pc : Int) + o = t)
  | .tableswitch d _ _ os, t :: ts => decide ((pc : Int) + d = t) && decide (os.toList.map (fun o => (pc : Int) + o) = ts.map (fun (z : Nat) => (z : Int)))
  | .lookupswitch d ps, t :: ts => decide ((pc : Int) + d = t) && decide (ps.toList.map (fun o => (pc : Int) + o.2) = ts.map (fun (z : Nat) => (z : Int))) && (ps.toList.zip (ps.toList.drop 1)).all (fun (a, next) => a.1 < next.1)
  | .getfield idx, [0, ci, k, j] => match z_cl[ci]? with
    | some q => decide (k < q.2.2) && z_fl own idx (q.2.1 k).1 (q.2.1 k).2.1 (q.2.1 k).2.2.1 j
    | none => false
  | .putfield idx, [0, ci, k, j] => match z_cl[ci]? with
    | some q => decide (k < q.2.2) && z_fl own idx (q.2.1 k).1 (q.2.1 k).2.1 (q.2.1 k).2.2.1 j
    | none => false
  | .getfield idx, [1, f, j] => match z_rft[f]? with
    | some q => z_is j (.fieldLink own idx q.1 q.2.1 q.2.2) || z_isFN j own idx q.1 q.2.1 q.2.2
    | none => false
  | .getstatic idx, [f, j] => match z_stt[f]? with
    | some q => z_is j (.fieldLink own idx q.1 q.2.1 q.2.2) || z_isFN j own idx q.1 q.2.1 q.2.2
    | none => false
  | .new idx, [0, ci, j1, j2, j3] => match z_cl[ci]? with
    | some q => z_is j1 (.classLink own idx q.1) && z_is j2 (.instantiable q.1 q.2.2) && z_is j3 (.initialized q.1)
    | none => false
  | .new idx, [1, f] => match z_ex[f]? with
    | some q => decide (own = "ClockParliament") && decide (idx = q.2.1)
    | none => false
  | .newarray a, [t, j] => decide (newarray.typeOf a = z_tyOf t) && decide (t < 5) && z_is j (.arrayClass (z_tyOf t))
  | .invokevirtual idx, l => z_iv own idx l
  | .invokestatic idx, l => z_iv own idx l
  | .invokespecial idx, l => z_iv own idx l
  | _, _ => true
/-- how long an instruction is, but for the switches -/
def z_len : Instr → Nat
  | .tableswitch .. => 0
  | .lookupswitch .. => 0
  | .aload _ | .iload _ | .fload _ | .dload _ | .lload _ | .astore _ | .istore _ | .fstore _ | .dstore _ | .lstore _ | .bipush _ | .ldc _ | .newarray _ => 2
  | .sipush _ | .ldc_w _ | .ldc2_w _ | .iinc _ _ | .ifCond _ _ | .if_icmp _ _ | .if_acmp _ _ | .goto _ | .ifnull _ | .ifnonnull _ | .getfield _ | .putfield _ | .getstatic _ | .putstatic _ | .invokevirtual _ | .invokespecial _ | .invokestatic _ | .new _ | .anewarray _ | .checkcast _ | .instanceof _ => 3
  | .invokeinterface _ _ | .invokedynamic _ => 5
  | _ => 1
noncomputable def z_ok (mi : Nat) (q : z_Row) : Bool := decide (q.1 < q.2.2.1) && (z_len q.2.1 == 0 || decide (q.2.2.1 = q.1 + z_len q.2.1)) && decide (decode (z_b mi) q.1 = .ok (q.2.1, q.2.2.1 - q.1)) && z_lk (z_y mi).cls q.1 q.2.1 q.2.2.2
noncomputable def z_okM (mi : Nat) : Bool := (z_code mi).all fun b => b.all fun c => c.all (z_ok mi)
/-- a method's own words: its code, its class initialized, static or of an instance, plain class name -/
noncomputable def z_okW (mi : Nat) : Bool := z_is (z_pl mi 0) (z_cw mi) && z_is (z_pl mi 1) (.initialized (z_y mi).cls) && z_is (z_pl mi 2) (if z_pl mi 3 = 1 then .static (z_y mi) else .instanceMethod (z_y mi)) && plainFor (z_y mi) && decide ((z_y mi).cls ≠ "java/lang/invoke/MethodHandle") && decide ((z_y mi).cls ≠ "java/lang/invoke/VarHandle") && decide (z_nL mi ≤ 30) && (z_pl mi 4 == 99999 || z_is (z_pl mi 4) (.selects (z_y mi).cls (z_y mi) (z_y mi)))
end
section
theorem z_okAll {mi pc : Nat} {r : Instr × Nat × List Nat} (h : z_at mi pc = some r) : z_ok mi (pc, r) = true := sorry
theorem z_w0 : z_okW 0 = true := sorry
theorem z_w1 : z_okW 1 = true := sorry
theorem z_w2 : z_okW 2 = true := sorry
theorem z_w3 : z_okW 3 = true := sorry
theorem z_w4 : z_okW 4 = true := sorry
theorem z_w5 : z_okW 5 = true := sorry
theorem z_w6 : z_okW 6 = true := sorry
theorem z_w7 : z_okW 7 = true := sorry
theorem z_w8 : z_okW 8 = true := sorry
theorem z_w9 : z_okW 9 = true := sorry
theorem z_w10 : z_okW 10 = true := sorry
theorem z_w11 : z_okW 11 = true := sorry
theorem z_w12 : z_okW 12 = true := sorry
theorem z_w13 : z_okW 13 = true := sorry
theorem z_w14 : z_okW 14 = true := sorry
theorem z_w15 : z_okW 15 = true := sorry
theorem z_w16 : z_okW 16 = true := sorry
theorem z_w17 : z_okW 17 = true := sorry
theorem z_w18 : z_okW 18 = true := sorry
theorem z_w19 : z_okW 19 = true := sorry
theorem z_w20 : z_okW 20 = true := sorry
theorem z_w21 : z_okW 21 = true := sorry
theorem z_w22 : z_okW 22 = true := sorry
theorem z_w23 : z_okW 23 = true := sorry
theorem z_w24 : z_okW 24 = true := sorry
theorem z_w25 : z_okW 25 = true := sorry
theorem z_w26 : z_okW 26 = true := sorry
theorem z_w27 : z_okW 27 = true := sorry
theorem z_w28 : z_okW 28 = true := sorry
theorem z_w29 : z_okW 29 = true := sorry
theorem z_w30 : z_okW 30 = true := sorry
theorem z_w31 : z_okW 31 = true := sorry
theorem z_w32 : z_okW 32 = true := sorry
theorem z_w33 : z_okW 33 = true := sorry
theorem z_w34 : z_okW 34 = true := sorry
theorem z_w35 : z_okW 35 = true := sorry
theorem z_w36 : z_okW 36 = true := sorry
theorem z_w37 : z_okW 37 = true := sorry
theorem z_w38 : z_okW 38 = true := sorry
theorem z_w39 : z_okW 39 = true := sorry
theorem z_w40 : z_okW 40 = true := sorry
theorem z_w41 : z_okW 41 = true := sorry
theorem z_w42 : z_okW 42 = true := sorry
theorem z_w43 : z_okW 43 = true := sorry
theorem z_w44 : z_okW 44 = true := sorry
theorem z_w45 : z_okW 45 = true := sorry
theorem z_w46 : z_okW 46 = true := sorry
theorem z_w47 : z_okW 47 = true := sorry
theorem z_w48 : z_okW 48 = true := sorry
theorem z_w49 : z_okW 49 = true := sorry
theorem z_w50 : z_okW 50 = true := sorry
theorem z_w51 : z_okW 51 = true := sorry
theorem z_w52 : z_okW 52 = true := sorry
theorem z_w53 : z_okW 53 = true := sorry
theorem z_w54 : z_okW 54 = true := sorry
theorem z_w55 : z_okW 55 = true := sorry
theorem z_w56 : z_okW 56 = true := sorry
theorem z_w57 : z_okW 57 = true := sorry
theorem z_w58 : z_okW 58 = true := sorry
theorem z_w59 : z_okW 59 = true := sorry
theorem z_w60 : z_okW 60 = true := sorry
theorem z_w61 : z_okW 61 = true := sorry
theorem z_w62 : z_okW 62 = true := sorry
theorem z_w63 : z_okW 63 = true := sorry
theorem z_w64 : z_okW 64 = true := sorry
theorem z_w65 : z_okW 65 = true := sorry
theorem z_w66 : z_okW 66 = true := sorry
theorem z_w67 : z_okW 67 = true := sorry
theorem z_w68 : z_okW 68 = true := sorry
theorem z_w69 : z_okW 69 = true := sorry
theorem z_w70 : z_okW 70 = true := sorry
theorem z_w71 : z_okW 71 = true := sorry
theorem z_w72 : z_okW 72 = true := sorry
theorem z_w73 : z_okW 73 = true := sorry
theorem z_w74 : z_okW 74 = true := sorry
theorem z_w75 : z_okW 75 = true := sorry
theorem z_w76 : z_okW 76 = true := sorry
theorem z_w77 : z_okW 77 = true := sorry
theorem z_w78 : z_okW 78 = true := sorry
theorem z_w79 : z_okW 79 = true := sorry
theorem z_w80 : z_okW 80 = true := sorry
theorem z_w81 : z_okW 81 = true := sorry
theorem z_w82 : z_okW 82 = true := sorry
theorem z_w83 : z_okW 83 = true := sorry
theorem z_w84 : z_okW 84 = true := sorry
theorem z_w85 : z_okW 85 = true := sorry
theorem z_w86 : z_okW 86 = true := sorry
theorem z_w87 : z_okW 87 = true := sorry
theorem z_w88 : z_okW 88 = true := sorry
theorem z_w89 : z_okW 89 = true := sorry
theorem z_w90 : z_okW 90 = true := sorry
theorem z_w91 : z_okW 91 = true := sorry
theorem z_w92 : z_okW 92 = true := sorry
theorem z_w93 : z_okW 93 = true := sorry
theorem z_w94 : z_okW 94 = true := sorry
theorem z_w95 : z_okW 95 = true := sorry
theorem z_w96 : z_okW 96 = true := sorry
theorem z_w97 : z_okW 97 = true := sorry
theorem z_w98 : z_okW 98 = true := sorry
theorem z_w99 : z_okW 99 = true := sorry
theorem z_w100 : z_okW 100 = true := sorry
theorem z_w101 : z_okW 101 = true := sorry
theorem z_w102 : z_okW 102 = true := sorry
theorem z_w103 : z_okW 103 = true := sorry
theorem z_w104 : z_okW 104 = true := sorry
theorem z_w105 : z_okW 105 = true := sorry
theorem z_w106 : z_okW 106 = true := sorry
theorem z_w107 : z_okW 107 = true := sorry
theorem z_w108 : z_okW 108 = true := sorry
theorem z_w109 : z_okW 109 = true := sorry
theorem z_w110 : z_okW 110 = true := sorry
theorem z_w111 : z_okW 111 = true := sorry
theorem z_w112 : z_okW 112 = true := sorry
theorem z_w113 : z_okW 113 = true := sorry
theorem z_w114 : z_okW 114 = true := sorry
theorem z_w115 : z_okW 115 = true := sorry
theorem z_w116 : z_okW 116 = true := sorry
theorem z_w117 : z_okW 117 = true := sorry
theorem z_w118 : z_okW 118 = true := sorry
theorem z_w119 : z_okW 119 = true := sorry
theorem z_w120 : z_okW 120 = true := sorry
theorem z_w121 : z_okW 121 = true := sorry
theorem z_w122 : z_okW 122 = true := sorry
theorem z_w123 : z_okW 123 = true := sorry
theorem z_w124 : z_okW 124 = true := sorry
theorem z_w125 : z_okW 125 = true := sorry
theorem z_w126 : z_okW 126 = true := sorry
theorem z_w127 : z_okW 127 = true := sorry
theorem z_w128 : z_okW 128 = true := sorry
theorem z_w129 : z_okW 129 = true := sorry
theorem z_w130 : z_okW 130 = true := sorry
theorem z_w131 : z_okW 131 = true := sorry
theorem z_w132 : z_okW 132 = true := sorry
theorem z_w133 : z_okW 133 = true := sorry
theorem z_w134 : z_okW 134 = true := sorry
theorem z_w135 : z_okW 135 = true := sorry
theorem z_w136 : z_okW 136 = true := sorry
theorem z_w137 : z_okW 137 = true := sorry
theorem z_w138 : z_okW 138 = true := sorry
theorem z_w139 : z_okW 139 = true := sorry
theorem z_w140 : z_okW 140 = true := sorry
theorem z_w141 : z_okW 141 = true := sorry
theorem z_w142 : z_okW 142 = true := sorry
theorem z_w143 : z_okW 143 = true := sorry
theorem z_w144 : z_okW 144 = true := sorry
theorem z_w145 : z_okW 145 = true := sorry
theorem z_w146 : z_okW 146 = true := sorry
theorem z_w147 : z_okW 147 = true := sorry
theorem z_w148 : z_okW 148 = true := sorry
theorem z_w149 : z_okW 149 = true := sorry
theorem z_w150 : z_okW 150 = true := sorry
theorem z_w151 : z_okW 151 = true := sorry
theorem z_w152 : z_okW 152 = true := sorry
theorem z_w153 : z_okW 153 = true := sorry
theorem z_w154 : z_okW 154 = true := sorry
theorem z_w155 : z_okW 155 = true := sorry
theorem z_w156 : z_okW 156 = true := sorry
theorem z_w157 : z_okW 157 = true := sorry
theorem z_w158 : z_okW 158 = true := sorry
theorem z_w159 : z_okW 159 = true := sorry
theorem z_w160 : z_okW 160 = true := sorry
theorem z_w161 : z_okW 161 = true := sorry
theorem z_w162 : z_okW 162 = true := sorry
theorem z_w163 : z_okW 163 = true := sorry
theorem z_w164 : z_okW 164 = true := sorry
theorem z_w165 : z_okW 165 = true := sorry
theorem z_w166 : z_okW 166 = true := sorry
theorem z_w167 : z_okW 167 = true := sorry
theorem z_w168 : z_okW 168 = true := sorry
theorem z_w169 : z_okW 169 = true := sorry
theorem z_w170 : z_okW 170 = true := sorry
theorem z_w171 : z_okW 171 = true := sorry
theorem z_w172 : z_okW 172 = true := sorry
theorem z_w173 : z_okW 173 = true := sorry
theorem z_w174 : z_okW 174 = true := sorry
theorem z_w175 : z_okW 175 = true := sorry
theorem z_w176 : z_okW 176 = true := sorry
theorem z_w177 : z_okW 177 = true := sorry
theorem z_w178 : z_okW 178 = true := sorry
theorem z_w179 : z_okW 179 = true := sorry
theorem z_w180 : z_okW 180 = true := sorry
theorem z_w181 : z_okW 181 = true := sorry
theorem z_w182 : z_okW 182 = true := sorry
theorem z_w183 : z_okW 183 = true := sorry
theorem z_w184 : z_okW 184 = true := sorry
theorem z_w185 : z_okW 185 = true := sorry
theorem z_w186 : z_okW 186 = true := sorry
theorem z_w187 : z_okW 187 = true := sorry
theorem z_w188 : z_okW 188 = true := sorry
theorem z_w189 : z_okW 189 = true := sorry
theorem z_w190 : z_okW 190 = true := sorry
theorem z_w191 : z_okW 191 = true := sorry
theorem z_w192 : z_okW 192 = true := sorry
theorem z_w193 : z_okW 193 = true := sorry
theorem z_w194 : z_okW 194 = true := sorry
theorem z_w195 : z_okW 195 = true := sorry
theorem z_w196 : z_okW 196 = true := sorry
theorem z_w197 : z_okW 197 = true := sorry
theorem z_w198 : z_okW 198 = true := sorry
theorem z_w199 : z_okW 199 = true := sorry
theorem z_w200 : z_okW 200 = true := sorry
theorem z_w201 : z_okW 201 = true := sorry
theorem z_w202 : z_okW 202 = true := sorry
theorem z_w203 : z_okW 203 = true := sorry
theorem z_w204 : z_okW 204 = true := sorry
theorem z_w205 : z_okW 205 = true := sorry
theorem z_w206 : z_okW 206 = true := sorry
theorem z_w207 : z_okW 207 = true := sorry
theorem z_w208 : z_okW 208 = true := sorry
theorem z_w209 : z_okW 209 = true := sorry
theorem z_w210 : z_okW 210 = true := sorry
theorem z_w211 : z_okW 211 = true := sorry
theorem z_w212 : z_okW 212 = true := sorry
theorem z_w213 : z_okW 213 = true := sorry
theorem z_w214 : z_okW 214 = true := sorry
theorem z_w215 : z_okW 215 = true := sorry
theorem z_w216 : z_okW 216 = true := sorry
theorem z_w217 : z_okW 217 = true := sorry
theorem z_w218 : z_okW 218 = true := sorry
theorem z_w219 : z_okW 219 = true := sorry
theorem z_w220 : z_okW 220 = true := sorry
theorem z_w221 : z_okW 221 = true := sorry
theorem z_w222 : z_okW 222 = true := sorry
theorem z_w223 : z_okW 223 = true := sorry
theorem z_w224 : z_okW 224 = true := sorry
theorem z_w225 : z_okW 225 = true := sorry
theorem z_w226 : z_okW 226 = true := sorry
theorem z_w227 : z_okW 227 = true := sorry
theorem z_w228 : z_okW 228 = true := sorry
theorem z_w229 : z_okW 229 = true := sorry
theorem z_w230 : z_okW 230 = true := sorry
theorem z_w231 : z_okW 231 = true := sorry
theorem z_w232 : z_okW 232 = true := sorry
theorem z_w233 : z_okW 233 = true := sorry
theorem z_w234 : z_okW 234 = true := sorry
theorem z_w235 : z_okW 235 = true := sorry
theorem z_w236 : z_okW 236 = true := sorry
theorem z_w237 : z_okW 237 = true := sorry
theorem z_w238 : z_okW 238 = true := sorry
theorem z_w239 : z_okW 239 = true := sorry
theorem z_w240 : z_okW 240 = true := sorry
theorem z_w241 : z_okW 241 = true := sorry
theorem z_w242 : z_okW 242 = true := sorry
theorem z_w243 : z_okW 243 = true := sorry
theorem z_w244 : z_okW 244 = true := sorry
theorem z_w245 : z_okW 245 = true := sorry
theorem z_w246 : z_okW 246 = true := sorry
theorem z_w247 : z_okW 247 = true := sorry
theorem z_w248 : z_okW 248 = true := sorry
theorem z_w249 : z_okW 249 = true := sorry
theorem z_w250 : z_okW 250 = true := sorry
theorem z_w251 : z_okW 251 = true := sorry
theorem z_w252 : z_okW 252 = true := sorry
theorem z_w253 : z_okW 253 = true := sorry
theorem z_w254 : z_okW 254 = true := sorry
theorem z_w255 : z_okW 255 = true := sorry
theorem z_w256 : z_okW 256 = true := sorry
theorem z_w257 : z_okW 257 = true := sorry
theorem z_w258 : z_okW 258 = true := sorry
theorem z_w259 : z_okW 259 = true := sorry
theorem z_w260 : z_okW 260 = true := sorry
theorem z_w261 : z_okW 261 = true := sorry
theorem z_w262 : z_okW 262 = true := sorry
theorem z_w263 : z_okW 263 = true := sorry
theorem z_w264 : z_okW 264 = true := sorry
theorem z_w265 : z_okW 265 = true := sorry
theorem z_w266 : z_okW 266 = true := sorry
theorem z_w267 : z_okW 267 = true := sorry
theorem z_w268 : z_okW 268 = true := sorry
theorem z_w269 : z_okW 269 = true := sorry
theorem z_w270 : z_okW 270 = true := sorry
theorem z_w271 : z_okW 271 = true := sorry
theorem z_w272 : z_okW 272 = true := sorry
theorem z_w273 : z_okW 273 = true := sorry
theorem z_w274 : z_okW 274 = true := sorry
theorem z_w275 : z_okW 275 = true := sorry
theorem z_w276 : z_okW 276 = true := sorry
theorem z_w277 : z_okW 277 = true := sorry
theorem z_w278 : z_okW 278 = true := sorry
theorem z_w279 : z_okW 279 = true := sorry
theorem z_w280 : z_okW 280 = true := sorry
theorem z_w281 : z_okW 281 = true := sorry
theorem z_w282 : z_okW 282 = true := sorry
theorem z_w283 : z_okW 283 = true := sorry
theorem z_w284 : z_okW 284 = true := sorry
theorem z_w285 : z_okW 285 = true := sorry
theorem z_w286 : z_okW 286 = true := sorry
theorem z_w287 : z_okW 287 = true := sorry
theorem z_w288 : z_okW 288 = true := sorry
theorem z_w289 : z_okW 289 = true := sorry
theorem z_w290 : z_okW 290 = true := sorry
theorem z_w291 : z_okW 291 = true := sorry
theorem z_w292 : z_okW 292 = true := sorry
theorem z_w293 : z_okW 293 = true := sorry
theorem z_w294 : z_okW 294 = true := sorry
theorem z_w295 : z_okW 295 = true := sorry
theorem z_w296 : z_okW 296 = true := sorry
theorem z_w297 : z_okW 297 = true := sorry
theorem z_w298 : z_okW 298 = true := sorry
theorem z_w299 : z_okW 299 = true := sorry
theorem z_w300 : z_okW 300 = true := sorry
theorem z_w301 : z_okW 301 = true := sorry
theorem z_w302 : z_okW 302 = true := sorry
theorem z_w303 : z_okW 303 = true := sorry
theorem z_w304 : z_okW 304 = true := sorry
theorem z_w305 : z_okW 305 = true := sorry
theorem z_w306 : z_okW 306 = true := sorry
theorem z_w307 : z_okW 307 = true := sorry
theorem z_w308 : z_okW 308 = true := sorry
theorem z_w309 : z_okW 309 = true := sorry
theorem z_w310 : z_okW 310 = true := sorry
theorem z_w311 : z_okW 311 = true := sorry
theorem z_w312 : z_okW 312 = true := sorry
theorem z_w313 : z_okW 313 = true := sorry
theorem z_w314 : z_okW 314 = true := sorry
theorem z_w315 : z_okW 315 = true := sorry
theorem z_w316 : z_okW 316 = true := sorry
theorem z_w317 : z_okW 317 = true := sorry
theorem z_w318 : z_okW 318 = true := sorry
theorem z_w319 : z_okW 319 = true := sorry
theorem z_w320 : z_okW 320 = true := sorry
theorem z_w321 : z_okW 321 = true := sorry
theorem z_w322 : z_okW 322 = true := sorry
theorem z_w323 : z_okW 323 = true := sorry
theorem z_w324 : z_okW 324 = true := sorry
theorem z_w325 : z_okW 325 = true := sorry
theorem z_w326 : z_okW 326 = true := sorry
theorem z_w327 : z_okW 327 = true := sorry
theorem z_w328 : z_okW 328 = true := sorry
theorem z_w329 : z_okW 329 = true := sorry
theorem z_w330 : z_okW 330 = true := sorry
theorem z_w331 : z_okW 331 = true := sorry
theorem z_w332 : z_okW 332 = true := sorry
theorem z_w333 : z_okW 333 = true := sorry
theorem z_w334 : z_okW 334 = true := sorry
theorem z_w335 : z_okW 335 = true := sorry
theorem z_w336 : z_okW 336 = true := sorry
theorem z_w337 : z_okW 337 = true := sorry
theorem z_wtest : z_okW 318 = true ∧ z_okW 319 = true ∧ z_okW 320 = true ∧ z_okW 321 = true := by decide +kernel
end
section
/-! The layer: abstract values (a reference is a number: below 1000 a constant thing, from 1000 on the cells that the run makes, in their order), an abstract heap, and what a method's code does with them. -/
abbrev z_H : Type := Nat × (Nat → Option va_E)
abbrev z_O : Type := Option Value ⊕ String
/-- the launch; the heap's size at the law's entry; where the constant things lie; the classes; the array classes; the script's length and numbers -/
abbrev z_G : Type := Launch × Nat × (Nat → Nat) × va_G × (Nat → Nat) × Nat × (Nat → Int32)
def z_ad (G : z_G) (k : Nat) : Nat := if k < 1000 then G.2.2.1 k else G.2.1 + (k - 1000)
def z_v (G : z_G) : Value → Value
  | .ref k => .ref (z_ad G k)
  | v => v
def z_ea (G : z_G) : vp_A → vp_A
  | (n, .inl f) => (n, .inl f)
  | (n, .inr (.inl f)) => (n, .inr (.inl f))
  | (n, .inr (.inr (.inl f))) => (n, .inr (.inr (.inl f)))
  | (n, .inr (.inr (.inr (.inl f)))) => (n, .inr (.inr (.inr (.inl f))))
  | (n, .inr (.inr (.inr (.inr f)))) => (n, .inr (.inr (.inr (.inr (fun j => (f j).map (z_ad G))))))
def z_e (G : z_G) : va_E → va_E
  | .inl (t, a) => .inl (G.2.2.2.2.1 t, z_ea G a)
  | .inr (ci, fs) => .inr (ci, fs.map (z_v G))
def z_A (G : z_G) : Nat → Prop := fun q => G.2.1 ≤ q
def z_tys (G : z_G) : List (ClassId × FieldType) := [(G.2.2.2.2.1 0, z_tyOf 0), (G.2.2.2.2.1 1, z_tyOf 1), (G.2.2.2.2.1 2, z_tyOf 2), (G.2.2.2.2.1 3, z_tyOf 3), (G.2.2.2.2.1 4, z_tyOf 4), (G.2.2.2.2.1 5, z_tyOf 5)]
/-- the heap is the abstract one -/
def z_R (G : z_G) (h : z_H) (H : Heap) : Prop := H.size = G.2.1 + h.1 ∧ ∀ k c, h.2 k = some c → 1000 ≤ k ∧ k < 1000 + h.1 ∧ va_at G.2.2.2.1 z_cl (z_ad G k, z_e G c) H
/-- a cell takes a new content -/
def z_set (h : z_H) (k : Nat) (c : va_E) : z_H := (h.1, fun j => if j = k then some c else h.2 j)
/-- a new cell -/
def z_new (h : z_H) (c : va_E) : z_H := (h.1 + 1, fun j => if j = 1000 + h.1 then some c else h.2 j)
def z_gone (h : z_H) : z_H := (h.1 + 1, h.2)
def z_forms : List (List Int32) := [[99, 108, 111, 99, 107, 32, 78, 32, 68], [108, 101, 97, 118, 101, 32, 68], [107, 101, 121, 32, 68, 32, 75], [119, 105, 110, 100, 32, 68, 32, 68], [109, 111, 118, 101, 32, 68, 32, 78], [98, 105, 108, 108, 32, 68, 32, 78, 32, 68], [97, 100, 106, 111, 117, 114, 110, 32, 68, 32, 78], [100, 114, 111, 112, 32, 68], [118, 111, 116, 101], [104, 111, 117, 114, 63, 32, 78]]
/-- constant objects: fields, classes; constant arrays; statics -/
def z_rof : List (Nat × String × String × String × Value) := (List.range 10).flatMap fun i => [(1 + i, "java/lang/Enum", "ordinal", "I", .int (Int32.ofNat i)), (1 + i, "ClockParliament$Kind", "form", "Ljava/lang/String;", .ref (11 + i)), (11 + i, "java/lang/String", "coder", "B", .int 0), (11 + i, "java/lang/String", "value", "[B", .ref (21 + i))]
def z_roo : List (Nat × String) := (List.range 10).flatMap fun i => [(1 + i, "ClockParliament$Kind"), (11 + i, "java/lang/String")]
def z_roa : List (Nat × FieldType × List Value) := (List.range 10).map (fun i => (21 + i, FieldType.byte, (z_forms.getD i []).map Value.int)) ++ [(31, .object "ClockParliament$Kind", (List.range 10).map fun i => .ref (1 + i)), (32, .int, ([1, 2, 3, 4, 5, 6, 7, 8, 9, 0] : List Int32).map Value.int), (33, .byte, (List.range 100).map fun i => .int (Int32.ofNat (48 + i / 10))), (34, .byte, (List.range 100).map fun i => .int (Int32.ofNat (48 + i % 10)))]
-- no value taken: jdk/internal/util/Preconditions.SIOOBE_FORMATTER
def z_stv : List (String × String × String × Value) := [("ClockParliament$Kind", "VOTE", "LClockParliament$Kind;", .ref 9), ("ClockParliament$Kind", "ALL", "[LClockParliament$Kind;", .ref 31), ("ClockParliament$1", "$SwitchMap$ClockParliament$Kind", "[I", .ref 32), ("ClockParliament$Kind", "CLOCK", "LClockParliament$Kind;", .ref 1), ("ClockParliament$Kind", "LEAVE", "LClockParliament$Kind;", .ref 2), ("ClockParliament$Kind", "KEY", "LClockParliament$Kind;", .ref 3), ("ClockParliament$Kind", "WIND", "LClockParliament$Kind;", .ref 4), ("ClockParliament$Kind", "MOVE", "LClockParliament$Kind;", .ref 5), ("ClockParliament$Kind", "BILL", "LClockParliament$Kind;", .ref 6), ("ClockParliament$Kind", "ADJOURN", "LClockParliament$Kind;", .ref 7), ("ClockParliament$Kind", "DROP", "LClockParliament$Kind;", .ref 8), ("ClockParliament$Kind", "HOUR", "LClockParliament$Kind;", .ref 10), ("java/lang/String", "COMPACT_STRINGS", "Z", .int 1), ("java/lang/Integer", "DigitOnes", "[B", .ref 34), ("java/lang/Integer", "DigitTens", "[B", .ref 33)]
/-- pairs of classes the first of which is none of the second -/
def z_ncl : List (String × String) := [("java/lang/IllegalArgumentException", "java/lang/IndexOutOfBoundsException"), ("java/util/NoSuchElementException", "java/lang/IllegalArgumentException"), ("java/lang/IllegalStateException", "java/lang/IllegalArgumentException"), ("java/lang/UnsupportedOperationException", "java/lang/IllegalArgumentException")]
/-- words of the tables that are good where a method starts, beside those that keep -/
def z_nw : Cond → Bool
  | .fieldLinkNest .. => true
  | .methodLinkNest .. => true
  | .castable .. => true
  | .declares .. => true
  | _ => false
/-- what stands fast, of the machine and of the heap below the law's entry -/
def z_K (G : z_G) (U : State) (H : Heap) : Prop :=
  va_K G.2.2.2.1 z_cl (z_tys G) U ∧
  (∀ q ∈ z_stv, va_Z q.1 q.2.1 q.2.2.1 (z_v G q.2.2.2) (z_A G) U H) ∧
  (∀ q ∈ z_rof, va_OF q.2.1 q.2.2.1 q.2.2.2.1 (z_v G q.2.2.2.2) (z_ad G q.1) (z_A G) U H) ∧
  (∀ q ∈ z_roo, va_O q.2 (z_ad G q.1) (z_A G) U H) ∧
  (∀ q ∈ z_roa, va_T q.2.1 (z_ad G q.1) q.2.2.length (fun j => z_v G (q.2.2.getD j .null)) (z_A G) U H) ∧
  va_T .int (z_ad G 0) G.2.2.2.2.2.1 (fun j => .int (G.2.2.2.2.2.2 j)) (z_A G) U H ∧
  (∀ w ∈ lw_tbl, z_nw w = true → va_Nw w U) ∧
  (∀ q ∈ z_ex, ∃ sa, vk_R "ClockParliament" q.2.2.1 q.2.2.2.2.1 sa U) ∧
  vx_Zq Bundle.tN "UNASSIGNED_STACK" Bundle.steD (z_A G) U H ∧ vx_Zq Bundle.tN "SUPPRESSED_SENTINEL" Bundle.listD (z_A G) U H ∧ (∀ q ∈ z_ncl, va_Nc q.1 q.2 U)
theorem z_nwW {w : Cond} {s U : State} (hW : s.WarmedH U.vm) (h : z_nw w = true) (hZ : va_Nw w s) : va_Nw w U := by
  cases w <;> first | (simp [z_nw] at h; done) | exact va_Nw.warmF hW hZ | exact va_Nw.warmM hW hZ | exact va_Nw.warmC hW hZ | exact va_Nw.warmD hW hZ
theorem z_K.to {G : z_G} {s U : State} {H H1 : Heap} (h : z_K G s H) (hW : s.WarmedH U.vm) (hq : ∀ a : Nat, a < H.size → ¬ z_A G a → H1[a]? = H[a]?) : z_K G U H1 := by
  obtain ⟨h1, h2, h3, h4, h5, h6, h7, h8, h9, h10, h11⟩ := h
  have hvm := hW.alike
  exact ⟨va_K.moved hvm h1, fun q hm => (va_Z.moved hvm (h2 q hm)).kept hq, fun q hm => (va_OF.moved hvm (h3 q hm)).kept hq, fun q hm => (va_O.moved hvm (h4 q hm)).kept hq, fun q hm => (va_T.moved hvm (h5 q hm)).kept hq, (va_T.moved hvm h6).kept hq, fun w hw hn => z_nwW hW hn (h7 w hw hn), fun q hm => by
    obtain ⟨sa, hsa⟩ := h8 q hm
    exact ⟨sa, vk_R.warm hW hsa⟩, (vx_Zq.moved hvm h9).kept hq, (vx_Zq.moved hvm h10).kept hq, fun q hm => va_Nc.moved hvm (h11 q hm)⟩
theorem z_K.same {G : z_G} {s U : State} {H : Heap} (h : z_K G s H) (hv : U.vm = s.vm) : z_K G U H := z_K.to h (by rw [hv]; exact State.WarmedH.refl s) (fun _ _ _ => rfl)
noncomputable def z_gw : List Cond := lw_tbl.filter goodWord
theorem z_gwOf {w : Cond} (h : w ∈ lw_tbl) (hg : goodWord w = true) : w ∈ z_gw := List.mem_filter.mpr ⟨h, hg⟩
theorem z_wdOf {j : Nat} {w : Cond} (h : z_wd j = some w) : w ∈ lw_tbl := by
  have key : ∀ (q : Nat) (l : List Cond), (([k2_sels lw_privs, tables_1_1, tables_1_2, tables_1_3, tables_1_4, tables_1_5, tables_1_6, tables_1_7, tables_1_8, tables_1_9, tables_1_10] : List (List Cond)).getD q []) = l → ∀ v ∈ l, v ∈ lw_tbl := by
    intro q l hl v hv
    subst hl
    unfold lw_tbl tables_1
    match q, hv with
    | 0, hv => exact List.mem_append_left _ hv
    | 1, hv => exact List.mem_append_right _ (List.mem_append_left _ hv)
    | 2, hv => exact List.mem_append_right _ (List.mem_append_right _ (List.mem_append_left _ hv))
    | 3, hv => exact List.mem_append_right _ (List.mem_append_right _ (List.mem_append_right _ (List.mem_append_left _ hv)))
    | 4, hv => exact List.mem_append_right _ (List.mem_append_right _ (List.mem_append_right _ (List.mem_append_right _ (List.mem_append_left _ hv))))
    | 5, hv => exact List.mem_append_right _ (List.mem_append_right _ (List.mem_append_right _ (List.mem_append_right _ (List.mem_append_right _ (List.mem_append_left _ hv)))))
    | 6, hv => exact List.mem_append_right _ (List.mem_append_right _ (List.mem_append_right _ (List.mem_append_right _ (List.mem_append_right _ (List.mem_append_right _ (List.mem_append_left _ hv))))))
    | 7, hv => exact List.mem_append_right _ (List.mem_append_right _ (List.mem_append_right _ (List.mem_append_right _ (List.mem_append_right _ (List.mem_append_right _ (List.mem_append_right _ (List.mem_append_left _ hv)))))))
    | 8, hv => exact List.mem_append_right _ (List.mem_append_right _ (List.mem_append_right _ (List.mem_append_right _ (List.mem_append_right _ (List.mem_append_right _ (List.mem_append_right _ (List.mem_append_right _ (List.mem_append_left _ hv))))))))
    | 9, hv => exact List.mem_append_right _ (List.mem_append_right _ (List.mem_append_right _ (List.mem_append_right _ (List.mem_append_right _ (List.mem_append_right _ (List.mem_append_right _ (List.mem_append_right _ (List.mem_append_right _ (List.mem_append_left _ hv)))))))))
    | 10, hv => exact List.mem_append_right _ (List.mem_append_right _ (List.mem_append_right _ (List.mem_append_right _ (List.mem_append_right _ (List.mem_append_right _ (List.mem_append_right _ (List.mem_append_right _ (List.mem_append_right _ (List.mem_append_right _ hv)))))))))
    | q + 11, hv => exact absurd hv (by simp)
  exact key _ _ rfl w (List.mem_of_getElem? h)
theorem z_isOf {j : Nat} {w : Cond} (h : z_is j w = true) : w ∈ lw_tbl := z_wdOf (of_decide_eq_true h)
/-- a frame's variables: .retAddr 0 stands for one of which nothing is known -/
def z_Lo (G : z_G) (nL : Nat) (ls : Array Slot) (L : List Value) : Prop := ls.size = nL ∧ lv_wf ls ∧ ∀ (i : Nat) (v : Value), L[i]? = some v → v ≠ .retAddr 0 → ls[i]? = some (.val (z_v G v))
def z_Qc (G : z_G) (Q : z_O → z_H → Prop) : Array Value → State → Outcome → State → Prop := fun _ st o t => (∃ (v : Option Value) (h' : z_H), o = .returned (v.map (z_v G)) ∧ Q (.inl v) h' ∧ z_R G h' t.heap) ∧ va_F (z_A G) st t
def z_XC (G : z_G) (Q : z_O → z_H → Prop) : String → State → State → Prop := fun E st t => (∃ h' : z_H, Q (.inr E) h' ∧ z_R G h' t.heap) ∧ va_F (z_A G) st t
/-- where a method's body runs -/
def z_C (G : z_G) (mi : Nat) (p : Program) (s : State) (m : MethodId) (args : Array Value) (meth : Method) (c : Code) : Prop :=
  p.tables.exec = Jvm.exec ∧ c.code = z_b mi ∧ c.maxLocals = z_nL mi ∧ meth.sig.returnType = z_rt mi ∧ s.vm.findClass (z_y mi).cls = some m.cls ∧ (∀ w ∈ z_gw, w.before args s = true) ∧ meth.locks = false ∧ meth.name = (z_y mi).name ∧ c.exceptionTable.toList = tableOf (z_hh mi) ∧ z_K G s s.heap ∧ G.2.1 ≤ s.heap.size ∧ G.1.stackTraces = false
/-- from this place of the method's code, with these variables, this stack, this heap, at most mc new cells of ms slots and calls d deep: it comes to an end of which Q holds -/
def z_W (G : z_G) (d mc ms mi pc : Nat) (L st : List Value) (h : z_H) (Q : z_O → z_H → Prop) : Prop :=
  ∀ (p : Program) (e : Env) (R : Room) (s : State) (m : MethodId) (args : Array Value) (below : List Frame) (meth : Method) (c : Code) (H : Heap) (locs : List Loc) (cells slots MC MS : Nat) (ls : Array Slot),
    z_C G mi p s m args meth c → d ≤ R.frames ∧ 60 * d + 200 ≤ R.locals ∧ MC ≤ R.cells ∧ MS ≤ R.slots ∧ cells + mc ≤ MC ∧ slots + ms ≤ MS → va_S (z_A G) s.heap H locs → z_Lo G (z_nL mi) ls L → z_R G h H →
    W p G.1 e R s m args below meth c H locs cells slots (vx_MQ below (z_Qc G Q) (z_XC G Q) args s MC MS (z_A G)) (F0 m pc ls (st.map (z_v G)))
theorem z_v_cat (G : z_G) (v : Value) : (z_v G v).category = v.category := by cases v <;> rfl
theorem z_okAll' {mi pc : Nat} {r : Instr × Nat × List Nat} (ho : z_okM mi = true) (h : z_at mi pc = some r) : z_ok mi (pc, r) = true := by
  unfold z_okM at ho
  have h1 : (pc, r) ∈ ((z_code mi).getD (pc / 256) []).getD (pc / 16 % 16) [] := by
    unfold z_at at h
    generalize ((z_code mi).getD (pc / 256) []).getD (pc / 16 % 16) [] = l at h
    induction l with
    | nil => simp at h
    | cons a t ih =>
      obtain ⟨a1, a2⟩ := a
      rw [List.lookup_cons] at h
      by_cases e : pc == a1
      · rw [e] at h
        simp only [Option.some.injEq] at h
        have e2 : pc = a1 := by simpa using e
        subst e2
        subst h
        exact List.mem_cons_self
      · simp only [Bool.not_eq_true] at e
        rw [e] at h
        exact List.mem_cons_of_mem _ (ih h)
  have key : ∀ {α : Type} (l : List (List α)) (i : Nat) (a : α), a ∈ l.getD i [] → l.getD i [] ∈ l := by
    intro α l i a ha
    by_cases hi : i < l.length
    · rw [List.getD_eq_getElem?_getD, List.getElem?_eq_getElem hi]
      exact List.getElem_mem hi
    · rw [List.getD_eq_getElem?_getD, List.getElem?_eq_none (by omega)] at ha
      cases ha
  have h2 := key _ _ _ h1
  have h3 := key _ _ _ h2
  have h4 := List.all_eq_true.mp ho _ h3
  have h5 := List.all_eq_true.mp h4 _ h2
  exact List.all_eq_true.mp h5 _ h1
end
section
/-! The rows: each turns z_W at an instruction into z_W at the next. -/
theorem z_dn {mi pc nx : Nat} {i : Instr} {info : List Nat} {n : Nat} (hr : z_at mi pc = some (i, nx, info)) (hn : z_len i = n) (h0 : n ≠ 0) : decode (z_b mi) pc = .ok (i, n) ∧ nx = pc + n := by
  have h := z_okAll hr
  unfold z_ok at h
  simp only [Bool.and_eq_true, decide_eq_true_eq, Bool.or_eq_true, beq_iff_eq] at h
  obtain ⟨⟨⟨h1, h2⟩, h3⟩, -⟩ := h
  rw [hn] at h2
  have e : nx = pc + n := h2.resolve_left h0
  refine ⟨?_, e⟩
  rw [h3, e]
  congr 2
  omega
theorem z_lkOf {mi pc nx : Nat} {i : Instr} {info : List Nat} (hr : z_at mi pc = some (i, nx, info)) : z_lk (z_y mi).cls pc i info = true := by
  have h := z_okAll hr
  unfold z_ok at h
  simp only [Bool.and_eq_true] at h
  exact h.2
theorem z_t1 {pc t : Nat} {o : Int} (h : decide ((pc : Int) + o = (t : Int)) = true) : (pc : Int) + o = (t : Int) := of_decide_eq_true h
section ZR
variable {G : z_G} {d mc ms mi pc nx : Nat} {L st st1 st2 : List Value} {h : z_H} {Q : z_O → z_H → Prop} {info : List Nat}
theorem z_pure (f : ∀ {p : Program} {e : Env} {R : Room} {s : State} {m : MethodId} {args : Array Value} {below : List Frame} {meth : Method} {c : Code} {H : Heap} {locs : List Loc} {cells slots : Nat} {Q' : State → Prop} {ls : Array Slot}, z_C G mi p s m args meth c → z_Lo G (z_nL mi) ls L → W p G.1 e R s m args below meth c H locs cells slots Q' (F0 m nx ls (st2.map (z_v G))) → W p G.1 e R s m args below meth c H locs cells slots Q' (F0 m pc ls (st1.map (z_v G))))
    (k : z_W G d mc ms mi nx L st2 h Q) : z_W G d mc ms mi pc L st1 h Q :=
  fun p e R s m args below meth c H locs cells slots MC MS ls C r hS hL hR => f C hL (k p e R s m args below meth c H locs cells slots MC MS ls C r hS hL hR)
theorem z_iconst {n : Int} {v : Int32} (hr : z_at mi pc = some (.iconst n, nx, info)) (hv : Int32.ofInt n = v) (k : z_W G d mc ms mi nx L (.int v :: st) h Q) : z_W G d mc ms mi pc L (st) h Q := by
  obtain ⟨hd, rfl⟩ := z_dn (n := 1) hr rfl (by decide)
  exact z_pure (fun C hL w => lv_iconst C.1 C.2.1 hd hv w) k
theorem z_bipush {n : Int} {v : Int32} (hr : z_at mi pc = some (.bipush n, nx, info)) (hv : (Int8.ofInt n).toInt32 = v) (k : z_W G d mc ms mi nx L (.int v :: st) h Q) : z_W G d mc ms mi pc L (st) h Q := by
  obtain ⟨hd, rfl⟩ := z_dn (n := 2) hr rfl (by decide)
  exact z_pure (fun C hL w => lv_bipush C.1 C.2.1 hd hv w) k
theorem z_sipush {n : Int} {v : Int32} (hr : z_at mi pc = some (.sipush n, nx, info)) (hv : (Int16.ofInt n).toInt32 = v) (k : z_W G d mc ms mi nx L (.int v :: st) h Q) : z_W G d mc ms mi pc L (st) h Q := by
  obtain ⟨hd, rfl⟩ := z_dn (n := 3) hr rfl (by decide)
  exact z_pure (fun C hL w => lv_sipush C.1 C.2.1 hd hv w) k
theorem z_lconst {n : Fin 2} {v : Int64} (hr : z_at mi pc = some (.lconst n, nx, info)) (hv : Int64.ofNat (n : Nat) = v) (k : z_W G d mc ms mi nx L (.long v :: st) h Q) : z_W G d mc ms mi pc L (st) h Q := by
  obtain ⟨hd, rfl⟩ := z_dn (n := 1) hr rfl (by decide)
  exact z_pure (fun C hL w => lv_lconst C.1 C.2.1 hd hv w) k
theorem z_fconst0 (hr : z_at mi pc = some (.fconst 0, nx, info)) (k : z_W G d mc ms mi nx L (.float FP.fconst0 :: st) h Q) : z_W G d mc ms mi pc L (st) h Q := by
  obtain ⟨hd, rfl⟩ := z_dn (n := 1) hr rfl (by decide)
  exact z_pure (fun C hL w => lv_fconst0 C.1 C.2.1 hd w) k
theorem z_dconst0 (hr : z_at mi pc = some (.dconst 0, nx, info)) (k : z_W G d mc ms mi nx L (.double FP.dconst0 :: st) h Q) : z_W G d mc ms mi pc L (st) h Q := by
  obtain ⟨hd, rfl⟩ := z_dn (n := 1) hr rfl (by decide)
  exact z_pure (fun C hL w => lv_dconst0 C.1 C.2.1 hd w) k
theorem z_null (hr : z_at mi pc = some (.aconst_null, nx, info)) (k : z_W G d mc ms mi nx L (.null :: st) h Q) : z_W G d mc ms mi pc L (st) h Q := by
  obtain ⟨hd, rfl⟩ := z_dn (n := 1) hr rfl (by decide)
  exact z_pure (fun C hL w => lv_null C.1 C.2.1 hd w) k
theorem z_iload_n {k : Fin 4} {a : Int32} (hr : z_at mi pc = some (.iload_n k, nx, info)) (hl : L[(k : Nat)]? = some (.int a)) (k : z_W G d mc ms mi nx L (.int a :: st) h Q) : z_W G d mc ms mi pc L (st) h Q := by
  obtain ⟨hd, rfl⟩ := z_dn (n := 1) hr rfl (by decide)
  exact z_pure (fun C hL w => lv_iload_n C.1 C.2.1 hd  rfl (hL.2.2 _ _ hl (by simp)) w) k
theorem z_aload_n {k : Fin 4} {a : Nat} (hr : z_at mi pc = some (.aload_n k, nx, info)) (hl : L[(k : Nat)]? = some (.ref a)) (k : z_W G d mc ms mi nx L (.ref a :: st) h Q) : z_W G d mc ms mi pc L (st) h Q := by
  obtain ⟨hd, rfl⟩ := z_dn (n := 1) hr rfl (by decide)
  exact z_pure (fun C hL w => lv_aload_n C.1 C.2.1 hd  rfl (hL.2.2 _ _ hl (by simp)) w) k
theorem z_aload_nN {k : Fin 4} (hr : z_at mi pc = some (.aload_n k, nx, info)) (hl : L[(k : Nat)]? = some .null) (k : z_W G d mc ms mi nx L (.null :: st) h Q) : z_W G d mc ms mi pc L (st) h Q := by
  obtain ⟨hd, rfl⟩ := z_dn (n := 1) hr rfl (by decide)
  exact z_pure (fun C hL w => lv_aload_nN C.1 C.2.1 hd rfl (hL.2.2 _ _ hl (by simp)) w) k
theorem z_iload {i : Nat} {a : Int32} (hr : z_at mi pc = some (.iload i, nx, info)) (hl : L[i]? = some (.int a)) (k : z_W G d mc ms mi nx L (.int a :: st) h Q) : z_W G d mc ms mi pc L (st) h Q := by
  obtain ⟨hd, rfl⟩ := z_dn (n := 2) hr rfl (by decide)
  exact z_pure (fun C hL w => lv_iload C.1 C.2.1 hd  (hL.2.2 _ _ hl (by simp)) w) k
theorem z_aload {i : Nat} {a : Nat} (hr : z_at mi pc = some (.aload i, nx, info)) (hl : L[i]? = some (.ref a)) (k : z_W G d mc ms mi nx L (.ref a :: st) h Q) : z_W G d mc ms mi pc L (st) h Q := by
  obtain ⟨hd, rfl⟩ := z_dn (n := 2) hr rfl (by decide)
  exact z_pure (fun C hL w => lv_aload C.1 C.2.1 hd  (hL.2.2 _ _ hl (by simp)) w) k
theorem z_fload {i : Nat} {a : UInt32} (hr : z_at mi pc = some (.fload i, nx, info)) (hl : L[i]? = some (.float a)) (k : z_W G d mc ms mi nx L (.float a :: st) h Q) : z_W G d mc ms mi pc L (st) h Q := by
  obtain ⟨hd, rfl⟩ := z_dn (n := 2) hr rfl (by decide)
  exact z_pure (fun C hL w => lv_fload C.1 C.2.1 hd  (hL.2.2 _ _ hl (by simp)) w) k
theorem z_dload {i : Nat} {a : UInt64} (hr : z_at mi pc = some (.dload i, nx, info)) (hl : L[i]? = some (.double a)) (k : z_W G d mc ms mi nx L (.double a :: st) h Q) : z_W G d mc ms mi pc L (st) h Q := by
  obtain ⟨hd, rfl⟩ := z_dn (n := 2) hr rfl (by decide)
  exact z_pure (fun C hL w => lv_dload C.1 C.2.1 hd  (hL.2.2 _ _ hl (by simp)) w) k
theorem z_aloadN {i : Nat} (hr : z_at mi pc = some (.aload i, nx, info)) (hl : L[i]? = some .null) (k : z_W G d mc ms mi nx L (.null :: st) h Q) : z_W G d mc ms mi pc L (st) h Q := by
  obtain ⟨hd, rfl⟩ := z_dn (n := 2) hr rfl (by decide)
  exact z_pure (fun C hL w => lv_aloadN C.1 C.2.1 hd (hL.2.2 _ _ hl (by simp)) w) k
theorem z_iadd {a b : Int32} (hr : z_at mi pc = some (.iadd, nx, info)) (k : z_W G d mc ms mi nx L (.int (a + b) :: st) h Q) : z_W G d mc ms mi pc L (.int b :: .int a :: st) h Q := by
  obtain ⟨hd, rfl⟩ := z_dn (n := 1) hr rfl (by decide)
  exact z_pure (fun C hL w => lv_iadd C.1 C.2.1 hd w) k
theorem z_isub {a b : Int32} (hr : z_at mi pc = some (.isub, nx, info)) (k : z_W G d mc ms mi nx L (.int (a - b) :: st) h Q) : z_W G d mc ms mi pc L (.int b :: .int a :: st) h Q := by
  obtain ⟨hd, rfl⟩ := z_dn (n := 1) hr rfl (by decide)
  exact z_pure (fun C hL w => lv_isub C.1 C.2.1 hd w) k
theorem z_imul {a b : Int32} (hr : z_at mi pc = some (.imul, nx, info)) (k : z_W G d mc ms mi nx L (.int (a * b) :: st) h Q) : z_W G d mc ms mi pc L (.int b :: .int a :: st) h Q := by
  obtain ⟨hd, rfl⟩ := z_dn (n := 1) hr rfl (by decide)
  exact z_pure (fun C hL w => lv_imul C.1 C.2.1 hd w) k
theorem z_iand {a b : Int32} (hr : z_at mi pc = some (.iand, nx, info)) (k : z_W G d mc ms mi nx L (.int (a &&& b) :: st) h Q) : z_W G d mc ms mi pc L (.int b :: .int a :: st) h Q := by
  obtain ⟨hd, rfl⟩ := z_dn (n := 1) hr rfl (by decide)
  exact z_pure (fun C hL w => lv_iand C.1 C.2.1 hd w) k
theorem z_ior {a b : Int32} (hr : z_at mi pc = some (.ior, nx, info)) (k : z_W G d mc ms mi nx L (.int (a ||| b) :: st) h Q) : z_W G d mc ms mi pc L (.int b :: .int a :: st) h Q := by
  obtain ⟨hd, rfl⟩ := z_dn (n := 1) hr rfl (by decide)
  exact z_pure (fun C hL w => lv_ior C.1 C.2.1 hd w) k
theorem z_ixor {a b : Int32} (hr : z_at mi pc = some (.ixor, nx, info)) (k : z_W G d mc ms mi nx L (.int (a ^^^ b) :: st) h Q) : z_W G d mc ms mi pc L (.int b :: .int a :: st) h Q := by
  obtain ⟨hd, rfl⟩ := z_dn (n := 1) hr rfl (by decide)
  exact z_pure (fun C hL w => lv_ixor C.1 C.2.1 hd w) k
theorem z_ishl {a b : Int32} (hr : z_at mi pc = some (.ishl, nx, info)) (k : z_W G d mc ms mi nx L (.int (a <<< (b &&& 31)) :: st) h Q) : z_W G d mc ms mi pc L (.int b :: .int a :: st) h Q := by
  obtain ⟨hd, rfl⟩ := z_dn (n := 1) hr rfl (by decide)
  exact z_pure (fun C hL w => lv_ishl C.1 C.2.1 hd w) k
theorem z_ishr {a b : Int32} (hr : z_at mi pc = some (.ishr, nx, info)) (k : z_W G d mc ms mi nx L (.int (a >>> (b &&& 31)) :: st) h Q) : z_W G d mc ms mi pc L (.int b :: .int a :: st) h Q := by
  obtain ⟨hd, rfl⟩ := z_dn (n := 1) hr rfl (by decide)
  exact z_pure (fun C hL w => lv_ishr C.1 C.2.1 hd w) k
theorem z_iushr {a b : Int32} (hr : z_at mi pc = some (.iushr, nx, info)) (k : z_W G d mc ms mi nx L (.int ((a.toUInt32 >>> (b.toUInt32 &&& Int32.toUInt32 31)).toInt32) :: st) h Q) : z_W G d mc ms mi pc L (.int b :: .int a :: st) h Q := by
  obtain ⟨hd, rfl⟩ := z_dn (n := 1) hr rfl (by decide)
  exact z_pure (fun C hL w => lv_iushr C.1 C.2.1 hd rfl w) k
theorem z_idiv {a b : Int32} (hr : z_at mi pc = some (.idiv, nx, info)) (hb : ¬ b = 0) (k : z_W G d mc ms mi nx L (.int (a / b) :: st) h Q) : z_W G d mc ms mi pc L (.int b :: .int a :: st) h Q := by
  obtain ⟨hd, rfl⟩ := z_dn (n := 1) hr rfl (by decide)
  exact z_pure (fun C hL w => lv_idiv C.1 C.2.1 hd hb w) k
theorem z_irem {a b : Int32} (hr : z_at mi pc = some (.irem, nx, info)) (hb : ¬ b = 0) (k : z_W G d mc ms mi nx L (.int (a - a / b * b) :: st) h Q) : z_W G d mc ms mi pc L (.int b :: .int a :: st) h Q := by
  obtain ⟨hd, rfl⟩ := z_dn (n := 1) hr rfl (by decide)
  exact z_pure (fun C hL w => lv_irem C.1 C.2.1 hd hb w) k
theorem z_ineg {a : Int32} (hr : z_at mi pc = some (.ineg, nx, info)) (k : z_W G d mc ms mi nx L (.int (-a) :: st) h Q) : z_W G d mc ms mi pc L (.int a :: st) h Q := by
  obtain ⟨hd, rfl⟩ := z_dn (n := 1) hr rfl (by decide)
  exact z_pure (fun C hL w => lv_ineg C.1 C.2.1 hd w) k
theorem z_i2l {a : Int32} (hr : z_at mi pc = some (.i2l, nx, info)) (k : z_W G d mc ms mi nx L (.long a.toInt64 :: st) h Q) : z_W G d mc ms mi pc L (.int a :: st) h Q := by
  obtain ⟨hd, rfl⟩ := z_dn (n := 1) hr rfl (by decide)
  exact z_pure (fun C hL w => lv_i2l C.1 C.2.1 hd rfl w) k
theorem z_i2b {a : Int32} (hr : z_at mi pc = some (.i2b, nx, info)) (k : z_W G d mc ms mi nx L (.int a.toInt8.toInt32 :: st) h Q) : z_W G d mc ms mi pc L (.int a :: st) h Q := by
  obtain ⟨hd, rfl⟩ := z_dn (n := 1) hr rfl (by decide)
  exact z_pure (fun C hL w => lv_i2b C.1 C.2.1 hd rfl w) k
theorem z_i2c {a : Int32} (hr : z_at mi pc = some (.i2c, nx, info)) (k : z_W G d mc ms mi nx L (.int (a.toUInt32 % 65536).toInt32 :: st) h Q) : z_W G d mc ms mi pc L (.int a :: st) h Q := by
  obtain ⟨hd, rfl⟩ := z_dn (n := 1) hr rfl (by decide)
  exact z_pure (fun C hL w => lv_i2c C.1 C.2.1 hd rfl w) k
theorem z_i2f {a : Int32} (hr : z_at mi pc = some (.i2f, nx, info)) (k : z_W G d mc ms mi nx L (.float (FP.i2f a) :: st) h Q) : z_W G d mc ms mi pc L (.int a :: st) h Q := by
  obtain ⟨hd, rfl⟩ := z_dn (n := 1) hr rfl (by decide)
  exact z_pure (fun C hL w => lv_i2f C.1 C.2.1 hd w) k
theorem z_i2d {a : Int32} (hr : z_at mi pc = some (.i2d, nx, info)) (k : z_W G d mc ms mi nx L (.double (FP.i2d a) :: st) h Q) : z_W G d mc ms mi pc L (.int a :: st) h Q := by
  obtain ⟨hd, rfl⟩ := z_dn (n := 1) hr rfl (by decide)
  exact z_pure (fun C hL w => lv_i2d C.1 C.2.1 hd w) k
theorem z_fdiv {a b : UInt32} (hr : z_at mi pc = some (.fdiv, nx, info)) (hb : vf_n32 (FP.fdiv a b)) (k : z_W G d mc ms mi nx L (.float (FP.fdiv a b) :: st) h Q) : z_W G d mc ms mi pc L (.float b :: .float a :: st) h Q := by
  obtain ⟨hd, rfl⟩ := z_dn (n := 1) hr rfl (by decide)
  exact z_pure (fun C hL w => lv_fdiv C.1 C.2.1 hd hb w) k
theorem z_ddiv {a b : UInt64} (hr : z_at mi pc = some (.ddiv, nx, info)) (hb : vf_n64 (FP.ddiv a b)) (k : z_W G d mc ms mi nx L (.double (FP.ddiv a b) :: st) h Q) : z_W G d mc ms mi pc L (.double b :: .double a :: st) h Q := by
  obtain ⟨hd, rfl⟩ := z_dn (n := 1) hr rfl (by decide)
  exact z_pure (fun C hL w => lv_ddiv C.1 C.2.1 hd hb w) k
theorem z_f2d {a : UInt32} (hr : z_at mi pc = some (.f2d, nx, info)) (hb : vf_n64 (FP.f2d a)) (k : z_W G d mc ms mi nx L (.double (FP.f2d a) :: st) h Q) : z_W G d mc ms mi pc L (.float a :: st) h Q := by
  obtain ⟨hd, rfl⟩ := z_dn (n := 1) hr rfl (by decide)
  exact z_pure (fun C hL w => lv_f2d C.1 C.2.1 hd hb w) k
theorem z_fcmp {a b : UInt32} {op : CmpOp} (hr : z_at mi pc = some (.fcmp op, nx, info)) (k : z_W G d mc ms mi nx L (.int (Op.cmpValue (FP.fcmp a b) op) :: st) h Q) : z_W G d mc ms mi pc L (.float b :: .float a :: st) h Q := by
  obtain ⟨hd, rfl⟩ := z_dn (n := 1) hr rfl (by decide)
  exact z_pure (fun C hL w => lv_fcmp C.1 C.2.1 hd w) k
theorem z_dcmp {a b : UInt64} {op : CmpOp} (hr : z_at mi pc = some (.dcmp op, nx, info)) (k : z_W G d mc ms mi nx L (.int (Op.cmpValue (FP.dcmp a b) op) :: st) h Q) : z_W G d mc ms mi pc L (.double b :: .double a :: st) h Q := by
  obtain ⟨hd, rfl⟩ := z_dn (n := 1) hr rfl (by decide)
  exact z_pure (fun C hL w => lv_dcmp C.1 C.2.1 hd w) k
theorem z_lcmp {a b : Int64} (hr : z_at mi pc = some (.lcmp, nx, info)) (k : z_W G d mc ms mi nx L (.int (lg_cmp a b) :: st) h Q) : z_W G d mc ms mi pc L (.long b :: .long a :: st) h Q := by
  obtain ⟨hd, rfl⟩ := z_dn (n := 1) hr rfl (by decide)
  exact z_pure (fun C hL w => W.lcmp C.1 C.2.1 hd w) k
theorem z_dup {v : Value} (hr : z_at mi pc = some (.dup, nx, info)) (hv : v.category = 1) (k : z_W G d mc ms mi nx L (v :: v :: st) h Q) : z_W G d mc ms mi pc L (v :: st) h Q := by
  obtain ⟨hd, rfl⟩ := z_dn (n := 1) hr rfl (by decide)
  exact z_pure (fun C hL w => lv_dup C.1 C.2.1 hd (by rw [z_v_cat]; exact hv) w) k
theorem z_pop {v : Value} (hr : z_at mi pc = some (.pop, nx, info)) (hv : v.category = 1) (k : z_W G d mc ms mi nx L (st) h Q) : z_W G d mc ms mi pc L (v :: st) h Q := by
  obtain ⟨hd, rfl⟩ := z_dn (n := 1) hr rfl (by decide)
  exact z_pure (fun C hL w => lv_pop C.1 C.2.1 hd (by rw [z_v_cat]; exact hv) w) k
theorem z_dup_x1 {v u : Value} (hr : z_at mi pc = some (.dup_x1, nx, info)) (hv : v.category = 1) (hu : u.category = 1) (k : z_W G d mc ms mi nx L (v :: u :: v :: st) h Q) : z_W G d mc ms mi pc L (v :: u :: st) h Q := by
  obtain ⟨hd, rfl⟩ := z_dn (n := 1) hr rfl (by decide)
  exact z_pure (fun C hL w => lv_dup_x1 C.1 C.2.1 hd (by rw [z_v_cat]; exact hv) (by rw [z_v_cat]; exact hu) w) k
theorem z_dup2 {v u : Value} (hr : z_at mi pc = some (.dup2, nx, info)) (hv : v.category = 1) (hu : u.category = 1) (k : z_W G d mc ms mi nx L (v :: u :: v :: u :: st) h Q) : z_W G d mc ms mi pc L (v :: u :: st) h Q := by
  obtain ⟨hd, rfl⟩ := z_dn (n := 1) hr rfl (by decide)
  exact z_pure (fun C hL w => lv_dup2_11 C.1 C.2.1 hd (by rw [z_v_cat]; exact hv) (by rw [z_v_cat]; exact hu) w) k
theorem z_if_eq {t : Nat} {o : Int} {a : Int32} (hr : z_at mi pc = some (.ifCond .eq o, nx, [t])) (kt : a = 0 → z_W G d mc ms mi t L st h Q) (kf : ¬ (a = 0) → z_W G d mc ms mi nx L st h Q) : z_W G d mc ms mi pc L (.int a :: st) h Q := by
  obtain ⟨hd, rfl⟩ := z_dn (n := 3) hr rfl (by decide)
  have ht := z_t1 (z_lkOf hr)
  intro p e R s m args below meth c H locs cells slots MC MS ls C r hS hL hR
  exact lv_if_eq C.1 C.2.1 hd ht (fun q => kt q p e R s m args below meth c H locs cells slots MC MS ls C r hS hL hR) (fun q => kf q p e R s m args below meth c H locs cells slots MC MS ls C r hS hL hR)
theorem z_icmp_eq {t : Nat} {o : Int} {a b : Int32} (hr : z_at mi pc = some (.if_icmp .eq o, nx, [t])) (kt : a = b → z_W G d mc ms mi t L st h Q) (kf : ¬ (a = b) → z_W G d mc ms mi nx L st h Q) : z_W G d mc ms mi pc L (.int b :: .int a :: st) h Q := by
  obtain ⟨hd, rfl⟩ := z_dn (n := 3) hr rfl (by decide)
  have ht := z_t1 (z_lkOf hr)
  intro p e R s m args below meth c H locs cells slots MC MS ls C r hS hL hR
  exact lv_icmp_eq C.1 C.2.1 hd ht (fun q => kt q p e R s m args below meth c H locs cells slots MC MS ls C r hS hL hR) (fun q => kf q p e R s m args below meth c H locs cells slots MC MS ls C r hS hL hR)
theorem z_if_lt {t : Nat} {o : Int} {a : Int32} (hr : z_at mi pc = some (.ifCond .lt o, nx, [t])) (kt : a < 0 → z_W G d mc ms mi t L st h Q) (kf : ¬ (a < 0) → z_W G d mc ms mi nx L st h Q) : z_W G d mc ms mi pc L (.int a :: st) h Q := by
  obtain ⟨hd, rfl⟩ := z_dn (n := 3) hr rfl (by decide)
  have ht := z_t1 (z_lkOf hr)
  intro p e R s m args below meth c H locs cells slots MC MS ls C r hS hL hR
  exact lv_if_lt C.1 C.2.1 hd ht (fun q => kt q p e R s m args below meth c H locs cells slots MC MS ls C r hS hL hR) (fun q => kf q p e R s m args below meth c H locs cells slots MC MS ls C r hS hL hR)
theorem z_icmp_lt {t : Nat} {o : Int} {a b : Int32} (hr : z_at mi pc = some (.if_icmp .lt o, nx, [t])) (kt : a < b → z_W G d mc ms mi t L st h Q) (kf : ¬ (a < b) → z_W G d mc ms mi nx L st h Q) : z_W G d mc ms mi pc L (.int b :: .int a :: st) h Q := by
  obtain ⟨hd, rfl⟩ := z_dn (n := 3) hr rfl (by decide)
  have ht := z_t1 (z_lkOf hr)
  intro p e R s m args below meth c H locs cells slots MC MS ls C r hS hL hR
  exact lv_icmp_lt C.1 C.2.1 hd ht (fun q => kt q p e R s m args below meth c H locs cells slots MC MS ls C r hS hL hR) (fun q => kf q p e R s m args below meth c H locs cells slots MC MS ls C r hS hL hR)
theorem z_if_le {t : Nat} {o : Int} {a : Int32} (hr : z_at mi pc = some (.ifCond .le o, nx, [t])) (kt : a ≤ 0 → z_W G d mc ms mi t L st h Q) (kf : ¬ (a ≤ 0) → z_W G d mc ms mi nx L st h Q) : z_W G d mc ms mi pc L (.int a :: st) h Q := by
  obtain ⟨hd, rfl⟩ := z_dn (n := 3) hr rfl (by decide)
  have ht := z_t1 (z_lkOf hr)
  intro p e R s m args below meth c H locs cells slots MC MS ls C r hS hL hR
  exact lv_if_le C.1 C.2.1 hd ht (fun q => kt q p e R s m args below meth c H locs cells slots MC MS ls C r hS hL hR) (fun q => kf q p e R s m args below meth c H locs cells slots MC MS ls C r hS hL hR)
theorem z_icmp_le {t : Nat} {o : Int} {a b : Int32} (hr : z_at mi pc = some (.if_icmp .le o, nx, [t])) (kt : a ≤ b → z_W G d mc ms mi t L st h Q) (kf : ¬ (a ≤ b) → z_W G d mc ms mi nx L st h Q) : z_W G d mc ms mi pc L (.int b :: .int a :: st) h Q := by
  obtain ⟨hd, rfl⟩ := z_dn (n := 3) hr rfl (by decide)
  have ht := z_t1 (z_lkOf hr)
  intro p e R s m args below meth c H locs cells slots MC MS ls C r hS hL hR
  exact lv_icmp_le C.1 C.2.1 hd ht (fun q => kt q p e R s m args below meth c H locs cells slots MC MS ls C r hS hL hR) (fun q => kf q p e R s m args below meth c H locs cells slots MC MS ls C r hS hL hR)
theorem z_if_gt {t : Nat} {o : Int} {a : Int32} (hr : z_at mi pc = some (.ifCond .gt o, nx, [t])) (kt : 0 < a → z_W G d mc ms mi t L st h Q) (kf : ¬ (0 < a) → z_W G d mc ms mi nx L st h Q) : z_W G d mc ms mi pc L (.int a :: st) h Q := by
  obtain ⟨hd, rfl⟩ := z_dn (n := 3) hr rfl (by decide)
  have ht := z_t1 (z_lkOf hr)
  intro p e R s m args below meth c H locs cells slots MC MS ls C r hS hL hR
  exact lv_if_gt C.1 C.2.1 hd ht (fun q => kt q p e R s m args below meth c H locs cells slots MC MS ls C r hS hL hR) (fun q => kf q p e R s m args below meth c H locs cells slots MC MS ls C r hS hL hR)
theorem z_icmp_gt {t : Nat} {o : Int} {a b : Int32} (hr : z_at mi pc = some (.if_icmp .gt o, nx, [t])) (kt : b < a → z_W G d mc ms mi t L st h Q) (kf : ¬ (b < a) → z_W G d mc ms mi nx L st h Q) : z_W G d mc ms mi pc L (.int b :: .int a :: st) h Q := by
  obtain ⟨hd, rfl⟩ := z_dn (n := 3) hr rfl (by decide)
  have ht := z_t1 (z_lkOf hr)
  intro p e R s m args below meth c H locs cells slots MC MS ls C r hS hL hR
  exact lv_icmp_gt C.1 C.2.1 hd ht (fun q => kt q p e R s m args below meth c H locs cells slots MC MS ls C r hS hL hR) (fun q => kf q p e R s m args below meth c H locs cells slots MC MS ls C r hS hL hR)
theorem z_if_ge {t : Nat} {o : Int} {a : Int32} (hr : z_at mi pc = some (.ifCond .ge o, nx, [t])) (kt : 0 ≤ a → z_W G d mc ms mi t L st h Q) (kf : ¬ (0 ≤ a) → z_W G d mc ms mi nx L st h Q) : z_W G d mc ms mi pc L (.int a :: st) h Q := by
  obtain ⟨hd, rfl⟩ := z_dn (n := 3) hr rfl (by decide)
  have ht := z_t1 (z_lkOf hr)
  intro p e R s m args below meth c H locs cells slots MC MS ls C r hS hL hR
  exact lv_if_ge C.1 C.2.1 hd ht (fun q => kt q p e R s m args below meth c H locs cells slots MC MS ls C r hS hL hR) (fun q => kf q p e R s m args below meth c H locs cells slots MC MS ls C r hS hL hR)
theorem z_icmp_ge {t : Nat} {o : Int} {a b : Int32} (hr : z_at mi pc = some (.if_icmp .ge o, nx, [t])) (kt : b ≤ a → z_W G d mc ms mi t L st h Q) (kf : ¬ (b ≤ a) → z_W G d mc ms mi nx L st h Q) : z_W G d mc ms mi pc L (.int b :: .int a :: st) h Q := by
  obtain ⟨hd, rfl⟩ := z_dn (n := 3) hr rfl (by decide)
  have ht := z_t1 (z_lkOf hr)
  intro p e R s m args below meth c H locs cells slots MC MS ls C r hS hL hR
  exact lv_icmp_ge C.1 C.2.1 hd ht (fun q => kt q p e R s m args below meth c H locs cells slots MC MS ls C r hS hL hR) (fun q => kf q p e R s m args below meth c H locs cells slots MC MS ls C r hS hL hR)
theorem z_if_ne {t : Nat} {o : Int} {a : Int32} (hr : z_at mi pc = some (.ifCond .ne o, nx, [t])) (kt : ¬ a = 0 → z_W G d mc ms mi t L st h Q) (kf : a = 0 → z_W G d mc ms mi nx L st h Q) : z_W G d mc ms mi pc L (.int a :: st) h Q := by
  obtain ⟨hd, rfl⟩ := z_dn (n := 3) hr rfl (by decide)
  have ht := z_t1 (z_lkOf hr)
  intro p e R s m args below meth c H locs cells slots MC MS ls C r hS hL hR
  exact lv_if_ne C.1 C.2.1 hd ht (fun q => kt q p e R s m args below meth c H locs cells slots MC MS ls C r hS hL hR) (fun q => kf q p e R s m args below meth c H locs cells slots MC MS ls C r hS hL hR)
theorem z_icmp_ne {t : Nat} {o : Int} {a b : Int32} (hr : z_at mi pc = some (.if_icmp .ne o, nx, [t])) (kt : ¬ a = b → z_W G d mc ms mi t L st h Q) (kf : a = b → z_W G d mc ms mi nx L st h Q) : z_W G d mc ms mi pc L (.int b :: .int a :: st) h Q := by
  obtain ⟨hd, rfl⟩ := z_dn (n := 3) hr rfl (by decide)
  have ht := z_t1 (z_lkOf hr)
  intro p e R s m args below meth c H locs cells slots MC MS ls C r hS hL hR
  exact lv_icmp_ne C.1 C.2.1 hd ht (fun q => kt q p e R s m args below meth c H locs cells slots MC MS ls C r hS hL hR) (fun q => kf q p e R s m args below meth c H locs cells slots MC MS ls C r hS hL hR)
theorem z_goto {t : Nat} {o : Int} (hr : z_at mi pc = some (.goto o, nx, [t])) (k : z_W G d mc ms mi t L st h Q) : z_W G d mc ms mi pc L st h Q := by
  obtain ⟨hd, rfl⟩ := z_dn (n := 3) hr rfl (by decide)
  have ht := z_t1 (z_lkOf hr)
  intro p e R s m args below meth c H locs cells slots MC MS ls C r hS hL hR
  exact lv_goto C.1 C.2.1 hd ht (k p e R s m args below meth c H locs cells slots MC MS ls C r hS hL hR)
theorem z_ifnonnull {t : Nat} {o : Int} {a : Nat} (hr : z_at mi pc = some (.ifnonnull o, nx, [t])) (k : z_W G d mc ms mi t L st h Q) : z_W G d mc ms mi pc L (.ref a :: st) h Q := by
  obtain ⟨hd, rfl⟩ := z_dn (n := 3) hr rfl (by decide)
  have ht := z_t1 (z_lkOf hr)
  intro p e R s m args below meth c H locs cells slots MC MS ls C r hS hL hR
  exact lv_ifnonnull C.1 C.2.1 hd ht (k p e R s m args below meth c H locs cells slots MC MS ls C r hS hL hR)
theorem z_ifnonnullN {t : Nat} {o : Int} (hr : z_at mi pc = some (.ifnonnull o, nx, [t])) (k : z_W G d mc ms mi nx L st h Q) : z_W G d mc ms mi pc L (.null :: st) h Q := by
  obtain ⟨hd, rfl⟩ := z_dn (n := 3) hr rfl (by decide)
  intro p e R s m args below meth c H locs cells slots MC MS ls C r hS hL hR
  exact lv_ifnonnullN C.1 C.2.1 hd (k p e R s m args below meth c H locs cells slots MC MS ls C r hS hL hR)
/-- variables: a store of one slot; the variable before must hold no number of two -/
def z_pr (G : z_G) (L : List Value) : List (Nat × Value) := (L.zipIdx.filter (fun q => decide (q.1 ≠ .retAddr 0))).map (fun q => (q.2, z_v G q.1))
theorem z_prIn {i : Nat} {v : Value} : (i, v) ∈ z_pr G L ↔ ∃ u, L[i]? = some u ∧ u ≠ .retAddr 0 ∧ z_v G u = v := by
  unfold z_pr
  simp only [List.mem_map, List.mem_filter, List.mem_zipIdx_iff_getElem?, decide_eq_true_eq, Prod.mk.injEq, Prod.exists]
  constructor
  · rintro ⟨a, b, ⟨h1, h2⟩, rfl, h3⟩
    exact ⟨a, h1, h2, h3⟩
  · rintro ⟨u, h1, h2, h3⟩
    exact ⟨u, i, ⟨h1, h2⟩, rfl, h3⟩
theorem z_prHas {nL : Nat} {ls : Array Slot} (hL : z_Lo G nL ls L) : lv_has ls nL (z_pr G L) := by
  refine ⟨hL.1, hL.2.1, fun q hq => ?_⟩
  obtain ⟨i, v⟩ := q
  obtain ⟨u, h1, h2, h3⟩ := z_prIn.mp hq
  subst h3
  exact hL.2.2 i u h1 h2
def z_okp (L : List Value) (i : Nat) : Bool := i == 0 || (match L[i - 1]? with
  | some u => u.category == 1
  | none => true)
theorem z_okpOf {i : Nat} (h0 : z_okp L i = true) : ∀ u, L[i - 1]? = some u → u.category = 1 ∨ i = 0 := by
  intro u hu
  unfold z_okp at h0
  rw [hu] at h0
  simp only [Bool.or_eq_true, beq_iff_eq] at h0
  exact h0.symm
theorem z_prSet {nL i : Nat} {v : Value} {ls : Array Slot} (hp : ∀ u, L[i - 1]? = some u → u.category = 1 ∨ i = 0) (h1 : lv_has ls nL ((i, z_v G v) :: (z_pr G L).filter (fun q => !(q.1 == i) && !(q.1 + 1 == i && q.2.category == 2)))) : z_Lo G nL ls (L.set i v) := by
  refine ⟨h1.1, h1.2.1, fun j u hj hu => ?_⟩
  by_cases e : j = i
  · subst e
    have hlt : j < (L.set j v).length := (List.getElem?_eq_some_iff.mp hj).1
    rw [List.length_set] at hlt
    rw [List.getElem?_set_self hlt] at hj
    cases hj
    exact h1.2.2 _ List.mem_cons_self
  · rw [List.getElem?_set_ne (Ne.symm e)] at hj
    refine h1.2.2 (j, z_v G u) (List.mem_cons_of_mem _ (List.mem_filter.mpr ⟨z_prIn.mpr ⟨u, hj, hu, rfl⟩, ?_⟩))
    have e1 : (j == i) = false := by simpa using e
    simp only [e1, Bool.not_false, Bool.true_and, Bool.not_eq_true', Bool.and_eq_false_iff, z_v_cat]
    by_cases e2 : j + 1 = i
    · right
      have := hp u (by rw [← e2]; simpa using hj)
      rcases this with h9 | h9
      · rw [h9]; rfl
      · omega
    · left
      simpa using e2
/-- nothing is known of a variable any more -/
theorem z_Lo.drop {nL i : Nat} {ls : Array Slot} (hL : z_Lo G nL ls L) : z_Lo G nL ls (L.set i (.retAddr 0)) := by
  refine ⟨hL.1, hL.2.1, fun j u hj hu => ?_⟩
  by_cases e : j = i
  · subst e
    have hlt : j < (L.set j (Value.retAddr 0)).length := (List.getElem?_eq_some_iff.mp hj).1
    rw [List.length_set] at hlt
    rw [List.getElem?_set_self hlt] at hj
    cases hj
    exact absurd rfl hu
  · rw [List.getElem?_set_ne (Ne.symm e)] at hj
    exact hL.2.2 j u hj hu
theorem z_istore_n {q : Fin 4} {a : Int32} (hr : z_at mi pc = some (.istore_n q, nx, info)) (hi : (q : Nat) < z_nL mi) (hp0 : z_okp L (q : Nat) = true) (k : z_W G d mc ms mi nx (L.set (q : Nat) (.int a)) st h Q) : z_W G d mc ms mi pc L (.int a :: st) h Q := by
  obtain ⟨hd, rfl⟩ := z_dn (n := 1) hr rfl (by decide)
  have hp := z_okpOf hp0
  intro p e R s m args below meth c H locs cells slots MC MS ls C r hS hL hR
  exact lv_istore_n C.1 C.2.1 hd rfl (z_prHas hL) hi rfl (fun ls2 hl2 => k p e R s m args below meth c H locs cells slots MC MS ls2 C r hS (z_prSet hp hl2) hR)
theorem z_istore {q : Nat} {a : Int32} (hr : z_at mi pc = some (.istore q, nx, info)) (hi : q < z_nL mi) (hp0 : z_okp L q = true) (k : z_W G d mc ms mi nx (L.set q (.int a)) st h Q) : z_W G d mc ms mi pc L (.int a :: st) h Q := by
  obtain ⟨hd, rfl⟩ := z_dn (n := 2) hr rfl (by decide)
  have hp := z_okpOf hp0
  intro p e R s m args below meth c H locs cells slots MC MS ls C r hS hL hR
  exact lv_istore C.1 C.2.1 hd (z_prHas hL) hi rfl (fun ls2 hl2 => k p e R s m args below meth c H locs cells slots MC MS ls2 C r hS (z_prSet hp hl2) hR)
theorem z_astore_n {q : Fin 4} {a : Nat} (hr : z_at mi pc = some (.astore_n q, nx, info)) (hi : (q : Nat) < z_nL mi) (hp0 : z_okp L (q : Nat) = true) (k : z_W G d mc ms mi nx (L.set (q : Nat) (.ref a)) st h Q) : z_W G d mc ms mi pc L (.ref a :: st) h Q := by
  obtain ⟨hd, rfl⟩ := z_dn (n := 1) hr rfl (by decide)
  have hp := z_okpOf hp0
  intro p e R s m args below meth c H locs cells slots MC MS ls C r hS hL hR
  exact lv_astore_n C.1 C.2.1 hd rfl (z_prHas hL) hi rfl (fun ls2 hl2 => k p e R s m args below meth c H locs cells slots MC MS ls2 C r hS (z_prSet hp hl2) hR)
theorem z_astore {q : Nat} {a : Nat} (hr : z_at mi pc = some (.astore q, nx, info)) (hi : q < z_nL mi) (hp0 : z_okp L q = true) (k : z_W G d mc ms mi nx (L.set q (.ref a)) st h Q) : z_W G d mc ms mi pc L (.ref a :: st) h Q := by
  obtain ⟨hd, rfl⟩ := z_dn (n := 2) hr rfl (by decide)
  have hp := z_okpOf hp0
  intro p e R s m args below meth c H locs cells slots MC MS ls C r hS hL hR
  exact lv_astore C.1 C.2.1 hd (z_prHas hL) hi rfl (fun ls2 hl2 => k p e R s m args below meth c H locs cells slots MC MS ls2 C r hS (z_prSet hp hl2) hR)
theorem z_astore_nN {q : Fin 4} (hr : z_at mi pc = some (.astore_n q, nx, info)) (hi : (q : Nat) < z_nL mi) (hp0 : z_okp L (q : Nat) = true) (k : z_W G d mc ms mi nx (L.set (q : Nat) (.null)) st h Q) : z_W G d mc ms mi pc L (.null :: st) h Q := by
  obtain ⟨hd, rfl⟩ := z_dn (n := 1) hr rfl (by decide)
  have hp := z_okpOf hp0
  intro p e R s m args below meth c H locs cells slots MC MS ls C r hS hL hR
  exact lv_astore_nN C.1 C.2.1 hd rfl (z_prHas hL) hi rfl (fun ls2 hl2 => k p e R s m args below meth c H locs cells slots MC MS ls2 C r hS (z_prSet hp hl2) hR)
theorem z_astoreN {q : Nat} (hr : z_at mi pc = some (.astore q, nx, info)) (hi : q < z_nL mi) (hp0 : z_okp L q = true) (k : z_W G d mc ms mi nx (L.set q (.null)) st h Q) : z_W G d mc ms mi pc L (.null :: st) h Q := by
  obtain ⟨hd, rfl⟩ := z_dn (n := 2) hr rfl (by decide)
  have hp := z_okpOf hp0
  intro p e R s m args below meth c H locs cells slots MC MS ls C r hS hL hR
  exact lv_astoreN C.1 C.2.1 hd (z_prHas hL) hi rfl (fun ls2 hl2 => k p e R s m args below meth c H locs cells slots MC MS ls2 C r hS (z_prSet hp hl2) hR)
theorem z_fstore {q : Nat} {a : UInt32} (hr : z_at mi pc = some (.fstore q, nx, info)) (hi : q < z_nL mi) (hp0 : z_okp L q = true) (k : z_W G d mc ms mi nx (L.set q (.float a)) st h Q) : z_W G d mc ms mi pc L (.float a :: st) h Q := by
  obtain ⟨hd, rfl⟩ := z_dn (n := 2) hr rfl (by decide)
  have hp := z_okpOf hp0
  intro p e R s m args below meth c H locs cells slots MC MS ls C r hS hL hR
  exact lv_fstore C.1 C.2.1 hd (z_prHas hL) hi rfl (fun ls2 hl2 => k p e R s m args below meth c H locs cells slots MC MS ls2 C r hS (z_prSet hp hl2) hR)
theorem z_iinc {q : Nat} {n : Int} {a : Int32} (hr : z_at mi pc = some (.iinc q n, nx, info)) (hl : L[q]? = some (.int a)) (hi : q < z_nL mi) (hp0 : z_okp L q = true) (k : z_W G d mc ms mi nx (L.set q (.int (a + Int32.ofInt n))) st h Q) : z_W G d mc ms mi pc L st h Q := by
  obtain ⟨hd, rfl⟩ := z_dn (n := 3) hr rfl (by decide)
  intro p e R s m args below meth c H locs cells slots MC MS ls C r hS hL hR
  have hp := z_okpOf hp0
  obtain ⟨j, hj⟩ := List.getElem?_of_mem (z_prIn.mpr ⟨Value.int a, hl, by simp, rfl⟩ : (q, Value.int a) ∈ z_pr G L)
  exact lv_iinc C.1 C.2.1 hd (z_prHas hL) (k := j) hj rfl hi rfl (fun ls2 hl2 => k p e R s m args below meth c H locs cells slots MC MS ls2 C r hS (z_prSet (v := .int (a + Int32.ofInt n)) hp hl2) hR)
theorem z_iinc1 {q i : Nat} (hr : z_at mi pc = some (.iinc q 1, nx, info)) (hl : L[q]? = some (.int (nI i))) (hi : q < z_nL mi) (hp0 : z_okp L q = true) (k : z_W G d mc ms mi nx (L.set q (.int (nI (i + 1)))) st h Q) : z_W G d mc ms mi pc L st h Q := by
  refine z_iinc hr hl hi hp0 ?_
  rw [show nI i + Int32.ofInt 1 = nI (i + 1) from nI_1 i]
  exact k
end ZR
end
section
/-! Rows that read and write the heap; the ends. -/
def z_clp : List (List Nat) := [[1133, 1135, 1137, 1139, 1141, 1143], [1097, 1099, 1101, 1103, 1105], [1192, 1194, 1196], [1162, 1164, 1166, 1168, 1170, 1172, 1174, 1176], [1069, 1071], [2015, 2017, 2019, 2021, 2023], [2029, 2031, 2033], [2050, 2052], [2067, 2069, 2071, 2073, 2075, 2077, 2079, 2081, 2083, 2085, 2087, 2089], [8026, 8028, 8030, 8032, 8034, 8036, 8038, 8040, 8042, 8044, 8046, 8048, 8050, 8052, 8054, 8056, 8058, 8060, 8062, 8064], [1228, 1230, 1232, 1234]]
def z_tyAt (ci k : Nat) : FieldType := (z_tyl.getD ci (fun _ => .int)) k
noncomputable def z_clChk (ci : Nat) : Bool := match z_cl[ci]? with
  | some q => (List.range q.2.2).all fun k => z_is ((z_clp.getD ci []).getD k 99999) (u_lay q.1 q.2.1 k) && decide (parseFieldDescriptor (q.2.1 k).2.2.1 = some (z_tyAt ci k)) && (List.range q.2.2).all (fun b => k == b || decide ((q.2.1 k).2.1 ≠ (q.2.1 b).2.1))
  | none => true
theorem z_clc : ∀ ci, ci < 11 → z_clChk ci = true := by decide +kernel
theorem z_layGood (C : String) (T : u_T) (k : Nat) : goodWord (u_lay C T k) = true := by
  unfold u_lay
  split <;> rfl
theorem z_clOk {ci : Nat} {q : vw_C} (hq : z_cl[ci]? = some q) : (∀ w ∈ u_ws q.1 q.2.1 q.2.2, w ∈ z_gw) ∧ (∀ k, k < q.2.2 → parseFieldDescriptor (q.2.1 k).2.2.1 = some (z_tyAt ci k)) ∧ (∀ a, a < q.2.2 → ∀ b, b < q.2.2 → a ≠ b → (q.2.1 a).2.1 ≠ (q.2.1 b).2.1) := by
  have hlt : ci < 11 := (List.getElem?_eq_some_iff.mp hq).1
  have h := z_clc ci hlt
  unfold z_clChk at h
  rw [hq] at h
  simp only [List.all_eq_true, List.mem_range, Bool.and_eq_true, decide_eq_true_eq, Bool.or_eq_true, beq_iff_eq] at h
  refine ⟨fun w hw => ?_, fun k hk => (h k hk).1.2, fun a ha b hb hab => ((h a ha).2 b hb).resolve_left hab⟩
  unfold u_ws at hw
  obtain ⟨k, hk, rfl⟩ := List.mem_map.mp hw
  exact z_gwOf (z_isOf (h k (List.mem_range.mp hk)).1.1) (z_layGood _ _ _)
theorem z_flOf {own ref n d : String} {idx j : Nat} (h : z_fl own idx ref n d j = true) : Cond.fieldLink own idx ref n d ∈ z_gw ∨ ∃ host, Cond.fieldLinkNest own idx ref n d host ∈ lw_tbl := by
  unfold z_fl at h
  rcases Bool.or_eq_true _ _ |>.mp h with h | h
  · exact Or.inl (z_gwOf (z_isOf h) rfl)
  · unfold z_isFN at h
    split at h
    · rename_i o i r n' d' hh e
      have e2 := of_decide_eq_true h
      exact Or.inr ⟨hh, by rw [← e2]; exact z_wdOf e⟩
    · cases h
theorem z_adI {G : z_G} {a b : Nat} (ha : 1000 ≤ a) (hb : 1000 ≤ b) (h : z_ad G a = z_ad G b) : a = b := by
  unfold z_ad at h
  rw [if_neg (by omega), if_neg (by omega)] at h
  omega
theorem z_adA {G : z_G} {a : Nat} (ha : 1000 ≤ a) : z_A G (z_ad G a) := by
  unfold z_ad z_A
  rw [if_neg (by omega)]
  omega
theorem z_R.set {G : z_G} {h : z_H} {H H' : Heap} {a : Nat} {c c' : va_E} (hR : z_R G h H) (hc : h.2 a = some c) (hs : H'.size = H.size) (ho : ∀ q, q ≠ z_ad G a → H'[q]? = H[q]?) (hn : va_at G.2.2.2.1 z_cl (z_ad G a, z_e G c') H') : z_R G (z_set h a c') H' := by
  refine ⟨by rw [hs]; exact hR.1, fun k c0 hk => ?_⟩
  obtain ⟨a1, a2, -⟩ := hR.2 a c hc
  by_cases e : k = a
  · subst e
    have e2 : (z_set h k c').2 k = some c' := if_pos rfl
    rw [e2] at hk
    cases hk
    exact ⟨a1, a2, hn⟩
  · have e2 : (z_set h a c').2 k = h.2 k := if_neg e
    rw [e2] at hk
    obtain ⟨k1, k2, k3⟩ := hR.2 k c0 hk
    exact ⟨k1, k2, k3.kept (ho _ fun q => e (z_adI k1 a1 q))⟩
theorem z_R.new {G : z_G} {h : z_H} {H H' : Heap} {c' : va_E} (hR : z_R G h H) (hs : H'.size = H.size + 1) (ho : ∀ q, q < H.size → H'[q]? = H[q]?) (hn : va_at G.2.2.2.1 z_cl (H.size, z_e G c') H') : z_R G (z_new h c') H' := by
  refine ⟨by rw [hs, hR.1]; rfl, fun k c0 hk => ?_⟩
  by_cases e : k = 1000 + h.1
  · subst e
    have e2 : (z_new h c').2 (1000 + h.1) = some c' := if_pos rfl
    rw [e2] at hk
    cases hk
    refine ⟨by omega, by show _ < 1000 + (h.1 + 1); omega, ?_⟩
    have e3 : z_ad G (1000 + h.1) = H.size := by
      unfold z_ad
      rw [if_neg (by omega), hR.1]
      omega
    rw [e3]
    exact hn
  · have e2 : (z_new h c').2 k = h.2 k := if_neg e
    rw [e2] at hk
    obtain ⟨k1, k2, k3⟩ := hR.2 k c0 hk
    refine ⟨k1, by show _ < 1000 + (h.1 + 1); omega, k3.kept (ho _ k3.lt)⟩
theorem z_R.adNew {G : z_G} {h : z_H} {H : Heap} (hR : z_R G h H) : z_ad G (1000 + h.1) = H.size := by
  unfold z_ad
  rw [if_neg (by omega), hR.1]
  omega
theorem z_R.one {G : z_G} {h : z_H} {H : Heap} {a : Nat} {c : va_E} (hR : z_R G h H) (hc : h.2 a = some c) : va_P G.2.2.2.1 z_cl [(z_ad G a, z_e G c)] H := by
  intro k q hk
  match k, hk with
  | 0, hk =>
    cases hk
    exact (hR.2 a c hc).2.2
  | k + 1, hk => simp at hk
theorem z_dfHead {G : z_G} : (z_tys G)[0]? = some (G.2.2.2.2.1 0, .int) ∧ (z_tys G)[1]? = some (G.2.2.2.2.1 1, .char) ∧ (z_tys G)[2]? = some (G.2.2.2.2.1 2, .byte) ∧ (z_tys G)[3]? = some (G.2.2.2.2.1 3, .long) ∧ (z_tys G)[4]? = some (G.2.2.2.2.1 4, .double) ∧ (z_tys G)[5]? = some (G.2.2.2.2.1 5, .object "ClockParliament$House") := ⟨rfl, rfl, rfl, rfl, rfl, rfl⟩
/-- a nest mate's word names another class -/
def z_nest : Cond → Bool
  | .fieldLinkNest o _ r _ _ _ => decide (o ≠ r)
  | _ => true
theorem z_noNest : lw_tbl.all z_nest = true := by decide +kernel
section ZH
variable {G : z_G} {d mc ms mi pc nx : Nat} {L st : List Value} {h : z_H} {Q : z_O → z_H → Prop} {info : List Nat}
theorem z_fldOf {own : String} {pc idx ci k j : Nat} (h : (match z_cl[ci]? with
    | some q => decide (k < q.2.2) && z_fl own idx (q.2.1 k).1 (q.2.1 k).2.1 (q.2.1 k).2.2.1 j
    | none => false) = true) : ∃ q, z_cl[ci]? = some q ∧ k < q.2.2 ∧ z_fl own idx (q.2.1 k).1 (q.2.1 k).2.1 (q.2.1 k).2.2.1 j = true := by
  split at h
  · rename_i q e
    simp only [Bool.and_eq_true, decide_eq_true_eq] at h
    exact ⟨q, e, h.1, h.2⟩
  · cases h
/-- reading a field of a cell -/
theorem z_get {idx ci k j a : Nat} {fs : List Value} {v : Value} (hr : z_at mi pc = some (.getfield idx, nx, [0, ci, k, j])) (hc : h.2 a = some (.inr (ci, fs))) (hv : fs[k]? = some v) (kk : z_W G d mc ms mi nx L (v :: st) h Q) : z_W G d mc ms mi pc L (.ref a :: st) h Q := by
  obtain ⟨hd, rfl⟩ := z_dn (n := 3) hr rfl (by decide)
  obtain ⟨q, hq, hk, hf⟩ := z_fldOf (pc := pc) (z_lkOf hr)
  obtain ⟨C0, T, N⟩ := q
  intro p e R s m args below meth c H locs cells slots MC MS ls C r hS hL hR
  have hP := hR.one hc
  have hv2 : (fs.map (z_v G))[k]? = some (z_v G v) := by simp [hv]
  rcases z_flOf hf with hw | ⟨host, hw⟩
  · exact va_get C.1 C.2.1 C.2.2.2.2.2.1 (z_clOk hq).1 C.2.2.2.2.1 (C.2.2.2.2.2.2.2.2.2.1).1 hP 0 rfl hq k hk (C.2.2.2.2.2.1 _ hw) (fun _ h9 => h9) hv2 hd (kk p e R s m args below meth c H locs cells slots MC MS ls C r hS hL hR)
  · exact va_getN C.1 C.2.1 C.2.2.2.2.2.1 (z_clOk hq).1 C.2.2.2.2.1 (C.2.2.2.2.2.2.2.2.2.1).1 hP 0 rfl hq k hk (va_Nw.use rfl ((C.2.2.2.2.2.2.2.2.2.1).2.2.2.2.2.2.1 _ hw rfl)) (fun _ h9 => h9) hv2 hd (kk p e R s m args below meth c H locs cells slots MC MS ls C r hS hL hR)
/-- writing a field that isn't final -/
theorem z_put {idx ci k j a : Nat} {fs : List Value} {v : Value} (hr : z_at mi pc = some (.putfield idx, nx, [0, ci, k, j])) (hc : h.2 a = some (.inr (ci, fs))) (hl : k < fs.length) (hfin : ((z_cl[ci]?.getD ("", fun _ => ("", "", "", true), 0)).2.1 k).2.2.2 = false) (hn : narrow (z_tyAt ci k) (z_v G v) = z_v G v) (hfit : fits (z_tyAt ci k) (z_v G v) = true) (kk : z_W G d mc ms mi nx L st (z_set h a (.inr (ci, fs.set k v))) Q) : z_W G d mc ms mi pc L (v :: .ref a :: st) h Q := by
  obtain ⟨hd, rfl⟩ := z_dn (n := 3) hr rfl (by decide)
  obtain ⟨q, hq, hk, hf⟩ := z_fldOf (pc := pc) (z_lkOf hr)
  obtain ⟨C0, T, N⟩ := q
  rw [hq] at hfin
  intro p e R s m args below meth c H locs cells slots MC MS ls C r hS hL hR
  obtain ⟨hin, hty, hnm⟩ := z_clOk hq
  have hts := C.2.2.2.2.2.1
  have hK := (C.2.2.2.2.2.2.2.2.2.1).1
  have hap := va_apart (own := C0) hts hin (z_tyAt ci) hty hnm hK hq
  obtain ⟨a1, a2, hat⟩ := hR.2 a _ hc
  obtain ⟨r9, h1, cell, q1, q2, q3, q4⟩ := hat
  have hr9 : r9 = (C0, T, N) := Option.some.inj (h1.symm.trans hq)
  subst hr9
  obtain ⟨hSl, hfc, kC, hkC, hkind⟩ := hK.1 ci _ hq
  obtain ⟨cf, kf, fi, f, hi, hsl⟩ := hSl k hk
  have hlay := hts _ (hin _ (u_in_lay hk))
  unfold u_lay at hlay
  rw [if_neg (by show ¬ (T k).2.2.2 = true; rw [show (T k).2.2.2 = false from hfin]; decide)] at hlay
  have hst := (u_facts hfc hkC (u_lays hts hin hk) hi).1
  have h6 := u_store hfc hkC hkind hlay hi (hty k hk) hn hfit
  have fin : ∀ H' : Heap, H'[z_ad G a]? = some (cell.setSlot f.slot (z_v G v)) → H'.size = H.size → (∀ q, q ≠ z_ad G a → H'[q]? = H[q]?) → z_R G (z_set h a (.inr (ci, fs.set k v))) H' := by
    intro H' e1 e2 e3
    rw [hsl] at e1
    refine hR.set hc e2 e3 ⟨_, hq, t_OB.to (V := updV (vp_V (fs.map (z_v G))) k (z_v G v)) ⟨_, e1, q2, q3, t_set q4 hap hk (z_v G v)⟩ (fun j9 _ => ?_)⟩
    rw [List.map_set]
    exact vp_updV_set (by rw [List.length_map]; exact hl) (z_v G v) j9
  rcases z_flOf hf with hw | ⟨host, hw⟩
  · refine W.putK C.1 C.2.1 (f := f) ⟨C.2.2.2.2.1, hts _ hw, ⟨_, _, _, hi⟩, hst⟩ (by rw [q2]; exact h6) q1 q3 (by rw [hsl]; exact k2_hasslot (q4 k hk)) rfl rfl hd fun H' e1 e2 e3 => ?_
    exact kk p e R s m args below meth c H' _ cells slots MC MS ls C r (hS.put e2 e3 (z_adA a1)) hL (fin H' e1 e2 e3)
  · refine va_WputK C.1 C.2.1 (f := f) C.2.2.2.2.1 (va_Nw.use rfl ((C.2.2.2.2.2.2.2.2.2.1).2.2.2.2.2.2.1 _ hw rfl)) hi hst (by rw [q2]; exact h6) q1 q3 (by rw [hsl]; exact k2_hasslot (q4 k hk)) rfl rfl hd fun H' e1 e2 e3 => ?_
    exact kk p e R s m args below meth c H' _ cells slots MC MS ls C r (hS.put e2 e3 (z_adA a1)) hL (fin H' e1 e2 e3)
/-- writing a final field, in its class's constructor -/
theorem z_putF {idx ci k j a : Nat} {fs : List Value} {v : Value} (hr : z_at mi pc = some (.putfield idx, nx, [0, ci, k, j])) (hc : h.2 a = some (.inr (ci, fs))) (hl : k < fs.length) (hfin : ((z_cl[ci]?.getD ("", fun _ => ("", "", "", true), 0)).2.1 k).2.2.2 = true) (hini : (z_y mi).name = "<init>") (hown : ((z_cl[ci]?.getD ("", fun _ => ("", "", "", true), 0)).2.1 k).1 = (z_y mi).cls) (hn : narrow (z_tyAt ci k) (z_v G v) = z_v G v) (hfit : fits (z_tyAt ci k) (z_v G v) = true) (kk : z_W G d mc ms mi nx L st (z_set h a (.inr (ci, fs.set k v))) Q) : z_W G d mc ms mi pc L (v :: .ref a :: st) h Q := by
  obtain ⟨hd, rfl⟩ := z_dn (n := 3) hr rfl (by decide)
  obtain ⟨q, hq, hk, hf⟩ := z_fldOf (pc := pc) (z_lkOf hr)
  obtain ⟨C0, T, N⟩ := q
  rw [hq] at hfin hown
  intro p e R s m args below meth c H locs cells slots MC MS ls C r hS hL hR
  obtain ⟨hin, hty, hnm⟩ := z_clOk hq
  have hts := C.2.2.2.2.2.1
  have hK := (C.2.2.2.2.2.2.2.2.2.1).1
  have hap := va_apart (own := C0) hts hin (z_tyAt ci) hty hnm hK hq
  obtain ⟨a1, a2, hat⟩ := hR.2 a _ hc
  obtain ⟨r9, h1, cell, q1, q2, q3, q4⟩ := hat
  have hr9 : r9 = (C0, T, N) := Option.some.inj (h1.symm.trans hq)
  subst hr9
  obtain ⟨hSl, hfc, kC, hkC, hkind⟩ := hK.1 ci _ hq
  obtain ⟨cf, kf, fi, f, hi, hsl⟩ := hSl k hk
  have hlay := hts _ (hin _ (u_in_lay hk))
  unfold u_lay at hlay
  rw [if_pos (show (T k).2.2.2 = true from hfin)] at hlay
  have hst := (u_facts hfc hkC (u_lays hts hin hk) hi).1
  have hcf : m.cls = cf := by
    obtain ⟨_, _, c', _, _, _, -, -, hf', -, -, -, hown2, -⟩ := Cond.laysFinal_spec hlay
    have e1 : c' = cf := by have := hi.symm.trans hf'; simp at this; exact this.1.symm
    rw [show (T k).1 = (z_y mi).cls from hown] at hown2
    rw [← e1]; exact Option.some.inj ((C.2.2.2.2.1).symm.trans hown2)
  have h6 := u_fits hfc hkC hkind (Or.inr hlay) hi (hty k hk) hn hfit
  have fin : ∀ H' : Heap, H'[z_ad G a]? = some (cell.setSlot f.slot (z_v G v)) → H'.size = H.size → (∀ q, q ≠ z_ad G a → H'[q]? = H[q]?) → z_R G (z_set h a (.inr (ci, fs.set k v))) H' := by
    intro H' e1 e2 e3
    rw [hsl] at e1
    refine hR.set hc e2 e3 ⟨_, hq, t_OB.to (V := updV (vp_V (fs.map (z_v G))) k (z_v G v)) ⟨_, e1, q2, q3, t_set q4 hap hk (z_v G v)⟩ (fun j9 _ => ?_)⟩
    rw [List.map_set]
    exact vp_updV_set (by rw [List.length_map]; exact hl) (z_v G v) j9
  rcases z_flOf hf with hw | ⟨host, hw⟩
  · refine W.putFinK C.1 C.2.1 C.2.2.2.2.1 (hts _ hw) hi hst hcf (C.2.2.2.2.2.2.2.1.trans hini) (by rw [q2]; exact h6) q1 q3 (by rw [hsl]; exact k2_hasslot (q4 k hk)) rfl rfl hd fun H' e1 e2 e3 => ?_
    exact kk p e R s m args below meth c H' _ cells slots MC MS ls C r (hS.put e2 e3 (z_adA a1)) hL (fin H' e1 e2 e3)
  · have hw2 : Cond.fieldLinkNest (z_y mi).cls idx (T k).1 (T k).2.1 (T k).2.2.1 host ∈ lw_tbl := hw
    exact absurd (List.all_eq_true.mp z_noNest _ hw2) (by
      show ¬ (z_nest (Cond.fieldLinkNest (z_y mi).cls idx (T k).1 (T k).2.1 (T k).2.2.1 host) = true)
      rw [show (T k).1 = (z_y mi).cls from hown]
      simp [z_nest])
theorem z_iald {a n : Nat} {f : Nat → Int32} {i : Int32} (hr : z_at mi pc = some (.iaload, nx, info)) (hc : h.2 a = some (.inl (0, n, .inl f))) (hi : vp_in i n) (kk : z_W G d mc ms mi nx L (.int (f i.toNatClampNeg) :: st) h Q) : z_W G d mc ms mi pc L (.int i :: .ref a :: st) h Q := by
  obtain ⟨hd, rfl⟩ := z_dn (n := 1) hr rfl (by decide)
  intro p e R s m args below meth c H locs cells slots MC MS ls C r hS hL hR
  exact va_iald C.1 C.2.1 (C.2.2.2.2.2.2.2.2.2.1).1 (hR.one hc) 0 0 rfl rfl hi hd (kk p e R s m args below meth c H locs cells slots MC MS ls C r hS hL hR)
theorem z_cald {a n : Nat} {f : Nat → Int32} {i : Int32} (hr : z_at mi pc = some (.caload, nx, info)) (hc : h.2 a = some (.inl (1, n, .inl f))) (hi : vp_in i n) (kk : z_W G d mc ms mi nx L (.int (f i.toNatClampNeg) :: st) h Q) : z_W G d mc ms mi pc L (.int i :: .ref a :: st) h Q := by
  obtain ⟨hd, rfl⟩ := z_dn (n := 1) hr rfl (by decide)
  intro p e R s m args below meth c H locs cells slots MC MS ls C r hS hL hR
  exact va_cald C.1 C.2.1 (C.2.2.2.2.2.2.2.2.2.1).1 (hR.one hc) 0 1 rfl rfl hi hd (kk p e R s m args below meth c H locs cells slots MC MS ls C r hS hL hR)
theorem z_bald {a n : Nat} {f : Nat → Int32} {i : Int32} (hr : z_at mi pc = some (.baload, nx, info)) (hc : h.2 a = some (.inl (2, n, .inl f))) (hi : vp_in i n) (kk : z_W G d mc ms mi nx L (.int (f i.toNatClampNeg) :: st) h Q) : z_W G d mc ms mi pc L (.int i :: .ref a :: st) h Q := by
  obtain ⟨hd, rfl⟩ := z_dn (n := 1) hr rfl (by decide)
  intro p e R s m args below meth c H locs cells slots MC MS ls C r hS hL hR
  exact va_bald C.1 C.2.1 (C.2.2.2.2.2.2.2.2.2.1).1 (hR.one hc) 0 2 rfl rfl hi hd (kk p e R s m args below meth c H locs cells slots MC MS ls C r hS hL hR)
theorem z_lald {a n : Nat} {f : Nat → Int64} {i : Int32} (hr : z_at mi pc = some (.laload, nx, info)) (hc : h.2 a = some (.inl (3, n, .inr (.inl f)))) (hi : vp_in i n) (kk : z_W G d mc ms mi nx L (.long (f i.toNatClampNeg) :: st) h Q) : z_W G d mc ms mi pc L (.int i :: .ref a :: st) h Q := by
  obtain ⟨hd, rfl⟩ := z_dn (n := 1) hr rfl (by decide)
  intro p e R s m args below meth c H locs cells slots MC MS ls C r hS hL hR
  exact va_lald C.1 C.2.1 (C.2.2.2.2.2.2.2.2.2.1).1 (hR.one hc) 0 3 rfl rfl hi hd (kk p e R s m args below meth c H locs cells slots MC MS ls C r hS hL hR)
theorem z_dald {a n : Nat} {f : Nat → UInt64} {i : Int32} (hr : z_at mi pc = some (.daload, nx, info)) (hc : h.2 a = some (.inl (4, n, .inr (.inr (.inr (.inl f)))))) (hi : vp_in i n) (kk : z_W G d mc ms mi nx L (.double (f i.toNatClampNeg) :: st) h Q) : z_W G d mc ms mi pc L (.int i :: .ref a :: st) h Q := by
  obtain ⟨hd, rfl⟩ := z_dn (n := 1) hr rfl (by decide)
  intro p e R s m args below meth c H locs cells slots MC MS ls C r hS hL hR
  exact va_dald C.1 C.2.1 (C.2.2.2.2.2.2.2.2.2.1).1 (hR.one hc) 0 4 rfl rfl hi hd (kk p e R s m args below meth c H locs cells slots MC MS ls C r hS hL hR)
theorem z_aald {a n k : Nat} {f : Nat → Option Nat} {i : Int32} (hr : z_at mi pc = some (.aaload, nx, info)) (hc : h.2 a = some (.inl (5, n, .inr (.inr (.inr (.inr f)))))) (hi : vp_in i n) (hk : f i.toNatClampNeg = some k) (kk : z_W G d mc ms mi nx L (.ref k :: st) h Q) : z_W G d mc ms mi pc L (.int i :: .ref a :: st) h Q := by
  obtain ⟨hd, rfl⟩ := z_dn (n := 1) hr rfl (by decide)
  intro p e R s m args below meth c H locs cells slots MC MS ls C r hS hL hR
  refine va_aldq C.1 C.2.1 (C.2.2.2.2.2.2.2.2.2.1).1 (hR.one hc) 0 5 rfl rfl hi hd ?_
  have ev : va_rf ((f i.toNatClampNeg).map (z_ad G)) = z_v G (.ref k) := by rw [hk]; rfl
  have w := kk p e R s m args below meth c H locs cells slots MC MS ls C r hS hL hR
  rw [List.map_cons, ← ev] at w
  exact w
theorem z_alen {a t n : Nat} {u : (Nat → Int32) ⊕ (Nat → Int64) ⊕ (Nat → UInt32) ⊕ (Nat → UInt64) ⊕ (Nat → Option Nat)} (hr : z_at mi pc = some (.arraylength, nx, info)) (hc : h.2 a = some (.inl (t, n, u))) (ht : t < 6) (kk : z_W G d mc ms mi nx L (.int (Int32.ofNat n) :: st) h Q) : z_W G d mc ms mi pc L (.ref a :: st) h Q := by
  obtain ⟨hd, rfl⟩ := z_dn (n := 1) hr rfl (by decide)
  intro p e R s m args below meth c H locs cells slots MC MS ls C r hS hL hR
  have hty : (z_tys G)[t]? = some (G.2.2.2.2.1 t, z_tyOf t) := by
    match t, ht with
    | 0, _ => rfl
    | 1, _ => rfl
    | 2, _ => rfl
    | 3, _ => rfl
    | 4, _ => rfl
    | 5, _ => rfl
    | t + 6, ht => omega
  have hz : (z_ea G (n, u)).1 = n := by
    rcases u with f | f | f | f | f <;> rfl
  exact va_alen C.1 C.2.1 (C.2.2.2.2.2.2.2.2.2.1).1 (hR.one hc) 0 t (x := z_ea G (n, u)) rfl hty (by rw [hz]) hd (kk p e R s m args below meth c H locs cells slots MC MS ls C r hS hL hR)
theorem z_iast {a n : Nat} {f : Nat → Int32} {i : Int32} {x : Int32} (hr : z_at mi pc = some (.iastore, nx, info)) (hc : h.2 a = some (.inl (0, n, .inl f))) (hi : vp_in i n) (kk : z_W G d mc ms mi nx L st (z_set h a (.inl (0, n, .inl (upd f i.toNatClampNeg x)))) Q) : z_W G d mc ms mi pc L (.int x :: .int i :: .ref a :: st) h Q := by
  obtain ⟨hd, rfl⟩ := z_dn (n := 1) hr rfl (by decide)
  intro p e R s m args below meth c H locs cells slots MC MS ls C r hS hL hR
  obtain ⟨a1, a2, hat⟩ := hR.2 a _ hc
  refine W.iast C.1 C.2.1 hat ((C.2.2.2.2.2.2.2.2.2.1).1.2 0 _ rfl |>.1 n (fun j => .int (f j))) (fun q => by cases q) (by show ¬ (i < 0 ∨ (arrV _ _ _).slots.size ≤ _); rw [arrV_size]; exact hi) rfl rfl hd fun H1 e z oq => ?_
  refine kk p _ R s m args below meth c H1 _ cells slots MC MS ls C r (hS.put z oq (z_adA a1)) hL (hR.set hc z oq ?_)
  show H1[z_ad G a]? = some (vp_cell _ _)
  rw [e]
  show some (Cell.setSlot (vp_cell (G.2.2.2.2.1 0) (n, .inl f)) _ _) = some (vp_cell (G.2.2.2.2.1 0) (n, .inl (upd f i.toNatClampNeg x)))
  rw [vp_cell_i, vp_cell_i, arrV_store]
  congr 2
  funext q
  by_cases hq : q = i.toNatClampNeg
  · subst hq
    simp [updV, upd, vp_nar, vp_updL, vf_upd]
    try rfl
  · simp [updV, upd, vp_updL, vf_upd, hq]
theorem z_cast {a n : Nat} {f : Nat → Int32} {i : Int32} {x : Int32} (hr : z_at mi pc = some (.castore, nx, info)) (hc : h.2 a = some (.inl (1, n, .inl f))) (hi : vp_in i n) (kk : z_W G d mc ms mi nx L st (z_set h a (.inl (1, n, .inl (upd f i.toNatClampNeg (vp_nar .char x))))) Q) : z_W G d mc ms mi pc L (.int x :: .int i :: .ref a :: st) h Q := by
  obtain ⟨hd, rfl⟩ := z_dn (n := 1) hr rfl (by decide)
  intro p e R s m args below meth c H locs cells slots MC MS ls C r hS hL hR
  obtain ⟨a1, a2, hat⟩ := hR.2 a _ hc
  refine W.cast C.1 C.2.1 hat ((C.2.2.2.2.2.2.2.2.2.1).1.2 1 _ rfl |>.1 n (fun j => .int (f j))) (fun q => by cases q) (by show ¬ (i < 0 ∨ (arrV _ _ _).slots.size ≤ _); rw [arrV_size]; exact hi) rfl rfl hd fun H1 e z oq => ?_
  refine kk p _ R s m args below meth c H1 _ cells slots MC MS ls C r (hS.put z oq (z_adA a1)) hL (hR.set hc z oq ?_)
  show H1[z_ad G a]? = some (vp_cell _ _)
  rw [e]
  show some (Cell.setSlot (vp_cell (G.2.2.2.2.1 1) (n, .inl f)) _ _) = some (vp_cell (G.2.2.2.2.1 1) (n, .inl (upd f i.toNatClampNeg (vp_nar .char x))))
  rw [vp_cell_i, vp_cell_i, arrV_store]
  congr 2
  funext q
  by_cases hq : q = i.toNatClampNeg
  · subst hq
    simp [updV, upd, vp_nar, vp_updL, vf_upd]
    try rfl
  · simp [updV, upd, vp_updL, vf_upd, hq]
theorem z_bast {a n : Nat} {f : Nat → Int32} {i : Int32} {x : Int32} (hr : z_at mi pc = some (.bastore, nx, info)) (hc : h.2 a = some (.inl (2, n, .inl f))) (hi : vp_in i n) (kk : z_W G d mc ms mi nx L st (z_set h a (.inl (2, n, .inl (upd f i.toNatClampNeg (vp_nar .byte x))))) Q) : z_W G d mc ms mi pc L (.int x :: .int i :: .ref a :: st) h Q := by
  obtain ⟨hd, rfl⟩ := z_dn (n := 1) hr rfl (by decide)
  intro p e R s m args below meth c H locs cells slots MC MS ls C r hS hL hR
  obtain ⟨a1, a2, hat⟩ := hR.2 a _ hc
  refine W.bast C.1 C.2.1 hat ((C.2.2.2.2.2.2.2.2.2.1).1.2 2 _ rfl |>.1 n (fun j => .int (f j))) (fun q => by cases q) (by show ¬ (i < 0 ∨ (arrV _ _ _).slots.size ≤ _); rw [arrV_size]; exact hi) rfl rfl hd fun H1 e z oq => ?_
  refine kk p _ R s m args below meth c H1 _ cells slots MC MS ls C r (hS.put z oq (z_adA a1)) hL (hR.set hc z oq ?_)
  show H1[z_ad G a]? = some (vp_cell _ _)
  rw [e]
  show some (Cell.setSlot (vp_cell (G.2.2.2.2.1 2) (n, .inl f)) _ _) = some (vp_cell (G.2.2.2.2.1 2) (n, .inl (upd f i.toNatClampNeg (vp_nar .byte x))))
  rw [vp_cell_i, vp_cell_i, arrV_store]
  congr 2
  funext q
  by_cases hq : q = i.toNatClampNeg
  · subst hq
    simp [updV, upd, vp_nar, vp_updL, vf_upd]
    try rfl
  · simp [updV, upd, vp_updL, vf_upd, hq]
theorem z_last {a n : Nat} {f : Nat → Int64} {i : Int32} {x : Int64} (hr : z_at mi pc = some (.lastore, nx, info)) (hc : h.2 a = some (.inl (3, n, .inr (.inl f)))) (hi : vp_in i n) (kk : z_W G d mc ms mi nx L st (z_set h a (.inl (3, n, .inr (.inl (vp_updL f i.toNatClampNeg x))))) Q) : z_W G d mc ms mi pc L (.long x :: .int i :: .ref a :: st) h Q := by
  obtain ⟨hd, rfl⟩ := z_dn (n := 1) hr rfl (by decide)
  intro p e R s m args below meth c H locs cells slots MC MS ls C r hS hL hR
  obtain ⟨a1, a2, hat⟩ := hR.2 a _ hc
  refine W.last C.1 C.2.1 hat ((C.2.2.2.2.2.2.2.2.2.1).1.2 3 _ rfl |>.1 n (fun j => .long (f j))) (fun q => by cases q) (by show ¬ (i < 0 ∨ (arrV _ _ _).slots.size ≤ _); rw [arrV_size]; exact hi) rfl rfl hd fun H1 e z oq => ?_
  refine kk p _ R s m args below meth c H1 _ cells slots MC MS ls C r (hS.put z oq (z_adA a1)) hL (hR.set hc z oq ?_)
  show H1[z_ad G a]? = some (vp_cell _ _)
  rw [e]
  show some (Cell.setSlot (vp_cell (G.2.2.2.2.1 3) (n, .inr (.inl f))) _ _) = some (vp_cell (G.2.2.2.2.1 3) (n, .inr (.inl (vp_updL f i.toNatClampNeg x))))
  rw [vp_cell_l, vp_cell_l, arrV_store]
  congr 2
  funext q
  by_cases hq : q = i.toNatClampNeg
  · subst hq
    simp [updV, upd, vp_nar, vp_updL, vf_upd]
    try rfl
  · simp [updV, upd, vp_updL, vf_upd, hq]
theorem z_dast {a n : Nat} {f : Nat → UInt64} {i : Int32} {x : UInt64} (hr : z_at mi pc = some (.dastore, nx, info)) (hc : h.2 a = some (.inl (4, n, .inr (.inr (.inr (.inl f)))))) (hi : vp_in i n) (kk : z_W G d mc ms mi nx L st (z_set h a (.inl (4, n, .inr (.inr (.inr (.inl (vf_upd f i.toNatClampNeg x))))))) Q) : z_W G d mc ms mi pc L (.double x :: .int i :: .ref a :: st) h Q := by
  obtain ⟨hd, rfl⟩ := z_dn (n := 1) hr rfl (by decide)
  intro p e R s m args below meth c H locs cells slots MC MS ls C r hS hL hR
  obtain ⟨a1, a2, hat⟩ := hR.2 a _ hc
  refine W.dast C.1 C.2.1 hat ((C.2.2.2.2.2.2.2.2.2.1).1.2 4 _ rfl |>.1 n (fun j => .double (f j))) (fun q => by cases q) (by show ¬ (i < 0 ∨ (arrV _ _ _).slots.size ≤ _); rw [arrV_size]; exact hi) rfl rfl hd fun H1 e z oq => ?_
  refine kk p _ R s m args below meth c H1 _ cells slots MC MS ls C r (hS.put z oq (z_adA a1)) hL (hR.set hc z oq ?_)
  show H1[z_ad G a]? = some (vp_cell _ _)
  rw [e]
  show some (Cell.setSlot (vp_cell (G.2.2.2.2.1 4) (n, .inr (.inr (.inr (.inl f))))) _ _) = some (vp_cell (G.2.2.2.2.1 4) (n, .inr (.inr (.inr (.inl (vf_upd f i.toNatClampNeg x))))))
  rw [vp_cell_d, vp_cell_d, arrV_store]
  congr 2
  funext q
  by_cases hq : q = i.toNatClampNeg
  · subst hq
    simp [updV, upd, vp_nar, vp_updL, vf_upd]
    try rfl
  · simp [updV, upd, vp_updL, vf_upd, hq]
/-- the ends -/
theorem z_iret {a : Int32} (hr : z_at mi pc = some (.ireturn, nx, info)) (ht : z_rt mi = some .int) (q : Q (.inl (some (.int a))) h) : z_W G d mc ms mi pc L [.int a] h Q := by
  obtain ⟨hd, rfl⟩ := z_dn (n := 1) hr rfl (by decide)
  intro p e R s m args below meth c H locs cells slots MC MS ls C r hS hL hR
  have hlocks := C.2.2.2.2.2.2.1
  refine vx_ret (W.widen (k := MC) (n := MS) (by omega) (by omega) ?_)
  exact W.iret C.1 C.2.1 (C.2.2.2.1.trans ht) (fun t ht hW => ⟨⟨some (.int a), h, rfl, q, by rw [ht]; exact hR⟩, hS.F ht⟩) hS.2.2 hd
theorem z_zret {a : Int32} {ty : FieldType} (hr : z_at mi pc = some (.ireturn, nx, info)) (ht : z_rt mi = some ty) (hn : narrow ty (.int a) = .int a) (q : Q (.inl (some (.int a))) h) : z_W G d mc ms mi pc L [.int a] h Q := by
  obtain ⟨hd, rfl⟩ := z_dn (n := 1) hr rfl (by decide)
  intro p e R s m args below meth c H locs cells slots MC MS ls C r hS hL hR
  have hlocks := C.2.2.2.2.2.2.1
  refine vx_ret (W.widen (k := MC) (n := MS) (by omega) (by omega) ?_)
  exact W.zret C.1 C.2.1 (C.2.2.2.1.trans ht) hn (fun t ht hW => ⟨⟨some (.int a), h, rfl, q, by rw [ht]; exact hR⟩, hS.F ht⟩) hS.2.2 hd
theorem z_vret (hr : z_at mi pc = some (.return_, nx, info)) (ht : z_rt mi = none) (q : Q (.inl none) h) : z_W G d mc ms mi pc L [] h Q := by
  obtain ⟨hd, rfl⟩ := z_dn (n := 1) hr rfl (by decide)
  intro p e R s m args below meth c H locs cells slots MC MS ls C r hS hL hR
  have hlocks := C.2.2.2.2.2.2.1
  refine vx_ret (W.widen (k := MC) (n := MS) (by omega) (by omega) ?_)
  exact W.vret C.1 C.2.1 (C.2.2.2.1.trans ht) (fun t ht hW => ⟨⟨none, h, rfl, q, by rw [ht]; exact hR⟩, hS.F ht⟩) hS.2.2 hd
theorem z_aret {v : Value} {ty : FieldType} (hr : z_at mi pc = some (.areturn, nx, info)) (ht : z_rt mi = some ty) (hty : (∃ n, ty = .object n) ∨ ∃ t, ty = .array t) (hv : v = .null ∨ ∃ a, v = .ref a) (q : Q (.inl (some v)) h) : z_W G d mc ms mi pc L [v] h Q := by
  obtain ⟨hd, rfl⟩ := z_dn (n := 1) hr rfl (by decide)
  intro p e R s m args below meth c H locs cells slots MC MS ls C r hS hL hR
  have hlocks := C.2.2.2.2.2.2.1
  refine vx_ret (W.widen (k := MC) (n := MS) (by omega) (by omega) ?_)
  exact W.aret C.1 C.2.1 (C.2.2.2.1.trans ht) hty (by rcases hv with rfl | ⟨a, rfl⟩; exact Or.inl rfl; exact Or.inr ⟨_, rfl⟩) (fun t ht hW => ⟨⟨some v, h, rfl, q, by rw [ht]; exact hR⟩, hS.F ht⟩) hS.2.2 hd
theorem z_fret {a : UInt32} (hr : z_at mi pc = some (.freturn, nx, info)) (ht : z_rt mi = some .float) (q : Q (.inl (some (.float a))) h) : z_W G d mc ms mi pc L [.float a] h Q := by
  obtain ⟨hd, rfl⟩ := z_dn (n := 1) hr rfl (by decide)
  intro p e R s m args below meth c H locs cells slots MC MS ls C r hS hL hR
  have hlocks := C.2.2.2.2.2.2.1
  refine vx_ret (W.widen (k := MC) (n := MS) (by omega) (by omega) ?_)
  exact W.fret C.1 C.2.1 (C.2.2.2.1.trans ht) (fun t ht hW => ⟨⟨some (.float a), h, rfl, q, by rw [ht]; exact hR⟩, hS.F ht⟩) hS.2.2 hd
theorem z_dret {a : UInt64} (hr : z_at mi pc = some (.dreturn, nx, info)) (ht : z_rt mi = some .double) (q : Q (.inl (some (.double a))) h) : z_W G d mc ms mi pc L [.double a] h Q := by
  obtain ⟨hd, rfl⟩ := z_dn (n := 1) hr rfl (by decide)
  intro p e R s m args below meth c H locs cells slots MC MS ls C r hS hL hR
  have hlocks := C.2.2.2.2.2.2.1
  refine vx_ret (W.widen (k := MC) (n := MS) (by omega) (by omega) ?_)
  exact W.dret C.1 C.2.1 (C.2.2.2.1.trans ht) (fun t ht hW => ⟨⟨some (.double a), h, rfl, q, by rw [ht]; exact hR⟩, hS.F ht⟩) hS.2.2 hd
end ZH
end
section
/-! New cells, constant things, calls, throws, handlers. -/
def z_dfl (ci : Nat) : List Value := (List.range (z_cl[ci]?.getD ("", fun _ => ("", "", "", true), 0)).2.2).map (fun k => defaultValue (z_tyAt ci k))
def z_dfa (t N : Nat) : vp_A := match t with
  | 3 => (N, .inr (.inl (fun _ => 0)))
  | 4 => (N, .inr (.inr (.inr (.inl (fun _ => 0)))))
  | _ => (N, .inl (fun _ => 0))
noncomputable def z_nestS (j : Nat) : Bool := match z_wd j with
  | some (.fieldLinkNest ..) => true
  | _ => false
section ZN
variable {G : z_G} {d mc ms mi pc nx : Nat} {L st : List Value} {h : z_H} {Q : z_O → z_H → Prop} {info : List Nat}
theorem z_dflV {ci : Nat} {q : vw_C} (hq : z_cl[ci]? = some q) : z_dfl ci = (List.range q.2.2).map (fun k => defaultValue (z_tyAt ci k)) := by
  unfold z_dfl
  rw [hq]
  rfl
theorem z_vDef (ty : FieldType) : z_v G (defaultValue ty) = defaultValue ty := by cases ty <;> rfl
/-- a new object -/
theorem z_newO {idx ci j1 j2 j3 mc2 ms2 : Nat} (hr : z_at mi pc = some (.new idx, nx, [0, ci, j1, j2, j3])) (hm : mc2 + 1 ≤ mc) (hs2 : ms2 + (z_dfl ci).length ≤ ms) (kk : z_W G d mc2 ms2 mi nx L (.ref (1000 + h.1) :: st) (z_new h (.inr (ci, z_dfl ci))) Q) : z_W G d mc ms mi pc L st h Q := by
  obtain ⟨hd, rfl⟩ := z_dn (n := 3) hr rfl (by decide)
  have hlk := z_lkOf hr
  have hlk2 : (match z_cl[ci]? with
    | some q => z_is j1 (.classLink (z_y mi).cls idx q.1) && z_is j2 (.instantiable q.1 q.2.2) && z_is j3 (.initialized q.1)
    | none => false) = true := hlk
  split at hlk2
  · rename_i q hq
    simp only [Bool.and_eq_true] at hlk2
    obtain ⟨⟨w1, w2⟩, w3⟩ := hlk2
    obtain ⟨C0, T, N⟩ := q
    have hdl := z_dflV hq
    have hln : (z_dfl ci).length = N := by rw [hdl]; simp
    intro p e R s m args below meth c H locs cells slots MC MS ls C r hS hL hR
    obtain ⟨hin, hty, hnm⟩ := z_clOk hq
    have hts := C.2.2.2.2.2.1
    have hK := (C.2.2.2.2.2.2.2.2.2.1).1
    have hKn := hK.1 ci _ hq
    refine W.newcK C.1 C.2.1 C.2.2.2.2.1 (hts _ (z_gwOf (z_isOf w1) rfl)) (hts _ (z_gwOf (z_isOf w2) rfl)) (hts _ (z_gwOf (z_isOf w3) rfl)) rfl hd (by omega) (by show slots + N ≤ _; omega) hKn.2.1 rfl fun H1 kC hkC e1 z1 o1 => ?_
    have hR1 : z_R G (z_new h (.inr (ci, z_dfl ci))) H1 := by
      refine hR.new z1 o1 ⟨_, hq, (u_born (z_tyAt ci) hts hin hKn hkC e1 hty).to (fun k hk => ?_)⟩
      have hk2 : k < N := hk
      rw [hdl, List.map_map]
      simp [vp_V, hk2, z_vDef]
    have hS1 : va_S (z_A G) s.heap H1 locs := ⟨Nat.le_trans hS.1 (by omega), fun x h1 h2 => (o1 x (Nat.lt_of_lt_of_le h1 hS.1)).trans (hS.2.1 x h1 h2), hS.2.2⟩
    have w := kk p e R s m args below meth c H1 locs (cells + 1) (slots + N) MC MS ls C (by omega) hS1 hL hR1
    rw [List.map_cons, show z_v G (.ref (1000 + h.1)) = .ref H.size by show Value.ref _ = _; rw [hR.adNew]] at w
    exact w
  · cases hlk2
/-- a new array of numbers -/
theorem z_newA {a : ArrayType} {t j mc2 ms2 N : Nat} {n : Int32} (hr : z_at mi pc = some (.newarray a, nx, [t, j])) (hn : ¬ n < 0) (hN : n.toNatClampNeg = N) (hb : N ≤ 1000000) (hm : mc2 + 1 ≤ mc) (hs2 : ms2 + N ≤ ms) (kk : z_W G d mc2 ms2 mi nx L (.ref (1000 + h.1) :: st) (z_new h (.inl (t, z_dfa t N))) Q) : z_W G d mc ms mi pc L (.int n :: st) h Q := by
  obtain ⟨hd, rfl⟩ := z_dn (n := 2) hr rfl (by decide)
  have hlk := z_lkOf hr
  have hlk2 : (decide (newarray.typeOf a = z_tyOf t) && decide (t < 5) && z_is j (.arrayClass (z_tyOf t))) = true := hlk
  simp only [Bool.and_eq_true, decide_eq_true_eq] at hlk2
  obtain ⟨⟨w1, w2⟩, w3⟩ := hlk2
  intro p e R s m args below meth c H locs cells slots MC MS ls C r hS hL hR
  have hts := C.2.2.2.2.2.1
  have hK := (C.2.2.2.2.2.2.2.2.2.1).1
  have hcb : componentBytes (newarray.typeOf a) ≤ 8 := by cases a <;> decide
  refine va_newaK C.1 C.2.1 (atype := a) (by rw [w1]; exact hts _ (z_gwOf (z_isOf w3) rfl)) rfl hd rfl hn hN (by exact Nat.le_trans (Nat.mul_le_mul hb hcb) (Nat.le_of_ble_eq_true rfl)) (by omega) (by omega) rfl fun H1 cA e1 z1 o1 hAr hNm => ?_
  have hcA : cA = G.2.2.2.2.1 t := by
    rw [w1] at hNm
    have hz := hK.2
    match t, w2, hNm with
    | 0, _, hNm => exact Option.some.inj (hNm.symm.trans (hz 0 _ rfl).2)
    | 1, _, hNm => exact Option.some.inj (hNm.symm.trans (hz 1 _ rfl).2)
    | 2, _, hNm => exact Option.some.inj (hNm.symm.trans (hz 2 _ rfl).2)
    | 3, _, hNm => exact Option.some.inj (hNm.symm.trans (hz 3 _ rfl).2)
    | 4, _, hNm => exact Option.some.inj (hNm.symm.trans (hz 4 _ rfl).2)
    | t + 5, w2, _ => omega
  have hR1 : z_R G (z_new h (.inl (t, z_dfa t N))) H1 := by
    refine hR.new z1 o1 ?_
    show H1[H.size]? = some (vp_cell (G.2.2.2.2.1 t) (z_ea G (z_dfa t N)))
    rw [e1, hcA, w1]
    match t, w2 with
    | 0, _ => rfl
    | 1, _ => rfl
    | 2, _ => rfl
    | 3, _ => rfl
    | 4, _ => rfl
    | t + 5, w2 => omega
  have hS1 : va_S (z_A G) s.heap H1 locs := ⟨Nat.le_trans hS.1 (by omega), fun x h1 h2 => (o1 x (Nat.lt_of_lt_of_le h1 hS.1)).trans (hS.2.1 x h1 h2), hS.2.2⟩
  have w := kk p e R s m args below meth c H1 locs (cells + 1) (slots + N) MC MS ls C (by omega) hS1 hL hR1
  rw [List.map_cons, show z_v G (.ref (1000 + h.1)) = .ref H.size by show Value.ref _ = _; rw [hR.adNew]] at w
  exact w
theorem z_flOf2 {own ref n d : String} {idx j : Nat} (h : (z_is j (.fieldLink own idx ref n d) || z_isFN j own idx ref n d) = true) : Cond.fieldLink own idx ref n d ∈ z_gw ∨ ∃ host, Cond.fieldLinkNest own idx ref n d host ∈ lw_tbl := z_flOf (by unfold z_fl; exact h)
/-- a field of a constant object -/
theorem z_getR {idx f j a : Nat} {v : Value} (hr : z_at mi pc = some (.getfield idx, nx, [1, f, j])) (hv : (a, (z_rft.getD f ("", "", "")).1, (z_rft.getD f ("", "", "")).2.1, (z_rft.getD f ("", "", "")).2.2, v) ∈ z_rof) (kk : z_W G d mc ms mi nx L (v :: st) h Q) : z_W G d mc ms mi pc L (.ref a :: st) h Q := by
  obtain ⟨hd, rfl⟩ := z_dn (n := 3) hr rfl (by decide)
  have hlk2 : (match z_rft[f]? with
    | some q => z_is j (.fieldLink (z_y mi).cls idx q.1 q.2.1 q.2.2) || z_isFN j (z_y mi).cls idx q.1 q.2.1 q.2.2
    | none => false) = true := z_lkOf hr
  split at hlk2
  · rename_i q hq
    rw [List.getD_eq_getElem?_getD, hq] at hv
    intro p e R s m args below meth c H locs cells slots MC MS ls C r hS hL hR
    have hf := (C.2.2.2.2.2.2.2.2.2.1).2.2.1 _ hv
    rcases z_flOf2 hlk2 with hw | ⟨host, hw⟩
    · exact vk_getf C.1 C.2.1 hf hS C.2.2.2.2.1 (C.2.2.2.2.2.1 _ hw) (fun _ h9 => h9) hd (kk p e R s m args below meth c H locs cells slots MC MS ls C r hS hL hR)
    · obtain ⟨cf, k9, i9, f9, cell, g1, g2, g3, g4, g5, g6⟩ := hf
      exact va_Wgetf C.1 C.2.1 C.2.2.2.2.1 (va_Nw.use rfl ((C.2.2.2.2.2.2.2.2.2.1).2.2.2.2.2.2.1 _ hw rfl)) g1 g2 (by rw [hS.2.1 _ (Array.getElem?_eq_some_iff.mp g3).1 g6]; exact g3) g4 g5 rfl rfl hd (kk p e R s m args below meth c H locs cells slots MC MS ls C r hS hL hR)
  · cases hlk2
/-- a static -/
theorem z_gets {idx f j : Nat} {v : Value} (hr : z_at mi pc = some (.getstatic idx, nx, [f, j])) (hv : ((z_stt.getD f ("", "", "")).1, (z_stt.getD f ("", "", "")).2.1, (z_stt.getD f ("", "", "")).2.2, v) ∈ z_stv) (hnn : z_nestS j = false) (kk : z_W G d mc ms mi nx L (v :: st) h Q) : z_W G d mc ms mi pc L st h Q := by
  obtain ⟨hd, rfl⟩ := z_dn (n := 3) hr rfl (by decide)
  have hlk2 : (match z_stt[f]? with
    | some q => z_is j (.fieldLink (z_y mi).cls idx q.1 q.2.1 q.2.2) || z_isFN j (z_y mi).cls idx q.1 q.2.1 q.2.2
    | none => false) = true := z_lkOf hr
  split at hlk2
  · rename_i q hq
    rw [List.getD_eq_getElem?_getD, hq] at hv
    intro p e R s m args below meth c H locs cells slots MC MS ls C r hS hL hR
    have hf := (C.2.2.2.2.2.2.2.2.2.1).2.1 _ hv
    rcases Bool.or_eq_true _ _ |>.mp hlk2 with hw | hw
    · exact va_gets C.1 C.2.1 hf hS C.2.2.2.2.1 (C.2.2.2.2.2.1 _ (z_gwOf (z_isOf hw) rfl)) (fun _ h9 => h9) hd (kk p e R s m args below meth c H locs cells slots MC MS ls C r hS hL hR)
    · unfold z_isFN at hw
      unfold z_nestS at hnn
      split at hw
      · rename_i e9
        rw [e9] at hnn
        cases hnn
      · cases hw
  · cases hlk2
theorem z_tableR {a N : Nat} {ty : FieldType} {vs : List Value} (hT : (a, ty, vs) ∈ z_roa) {s : State} {H : Heap} {locs : List Loc} (hK : z_K G s s.heap) : va_T ty (z_ad G a) vs.length (fun j => z_v G (vs.getD j .null)) (z_A G) s s.heap := hK.2.2.2.2.1 _ hT
/-- a place of a constant array -/
theorem z_ialdR {a : Nat} {vs : List Value} {i : Int32} {v : Value} (hr : z_at mi pc = some (.iaload, nx, info)) (hT : (a, FieldType.int, vs) ∈ z_roa) (hi : vp_in i vs.length) (hv : vs.getD i.toNatClampNeg .null = v) (kk : z_W G d mc ms mi nx L (v :: st) h Q) : z_W G d mc ms mi pc L (.int i :: .ref a :: st) h Q := by
  obtain ⟨hd, rfl⟩ := z_dn (n := 1) hr rfl (by decide)
  subst hv
  intro p e R s m args below meth c H locs cells slots MC MS ls C r hS hL hR
  exact va_ti C.1 C.2.1 ((C.2.2.2.2.2.2.2.2.2.1).2.2.2.2.1 _ hT) hS hi rfl hd (kk p e R s m args below meth c H locs cells slots MC MS ls C r hS hL hR)
theorem z_baldR {a : Nat} {vs : List Value} {i : Int32} {v : Value} (hr : z_at mi pc = some (.baload, nx, info)) (hT : (a, FieldType.byte, vs) ∈ z_roa) (hi : vp_in i vs.length) (hv : vs.getD i.toNatClampNeg .null = v) (kk : z_W G d mc ms mi nx L (v :: st) h Q) : z_W G d mc ms mi pc L (.int i :: .ref a :: st) h Q := by
  obtain ⟨hd, rfl⟩ := z_dn (n := 1) hr rfl (by decide)
  subst hv
  intro p e R s m args below meth c H locs cells slots MC MS ls C r hS hL hR
  obtain ⟨cell, h1, h2, h3, h4, h5, h6, h7⟩ := (C.2.2.2.2.2.2.2.2.2.1).2.2.2.2.1 _ hT
  have hlt : i.toNatClampNeg < vs.length := Nat.not_le.mp fun q => hi (Or.inr q)
  exact W.bald (v := z_v G (vs.getD i.toNatClampNeg .null)) C.1 C.2.1 (by rw [hS.2.1 _ (Array.getElem?_eq_some_iff.mp h1).1 h7]; exact h1) h2 h3 (fun q => hi (q.imp id fun q => Nat.le_trans h4 q)) (h6 _ hlt) rfl rfl hd (kk p e R s m args below meth c H locs cells slots MC MS ls C r hS hL hR)
theorem z_aaldR {a : Nat} {vs : List Value} {i : Int32} {v : Value} {ty : FieldType} (hr : z_at mi pc = some (.aaload, nx, info)) (hT : (a, ty, vs) ∈ z_roa) (hty : refKind ty = true) (hi : vp_in i vs.length) (hv : vs.getD i.toNatClampNeg .null = v) (kk : z_W G d mc ms mi nx L (v :: st) h Q) : z_W G d mc ms mi pc L (.int i :: .ref a :: st) h Q := by
  obtain ⟨hd, rfl⟩ := z_dn (n := 1) hr rfl (by decide)
  subst hv
  intro p e R s m args below meth c H locs cells slots MC MS ls C r hS hL hR
  obtain ⟨cell, h1, h2, h3, h4, h5, h6, h7⟩ := (C.2.2.2.2.2.2.2.2.2.1).2.2.2.2.1 _ hT
  have hlt : i.toNatClampNeg < vs.length := Nat.not_le.mp fun q => hi (Or.inr q)
  exact W.aald (v := z_v G (vs.getD i.toNatClampNeg .null)) (ty := ty) C.1 C.2.1 (by rw [hS.2.1 _ (Array.getElem?_eq_some_iff.mp h1).1 h7]; exact h1) h2 hty h3 (fun q => hi (q.imp id fun q => Nat.le_trans h4 q)) (h6 _ hlt) rfl rfl hd (kk p e R s m args below meth c H locs cells slots MC MS ls C r hS hL hR)
theorem z_alenR {a : Nat} {vs : List Value} {ty : FieldType} (hr : z_at mi pc = some (.arraylength, nx, info)) (hT : (a, ty, vs) ∈ z_roa) (kk : z_W G d mc ms mi nx L (.int (Int32.ofNat vs.length) :: st) h Q) : z_W G d mc ms mi pc L (.ref a :: st) h Q := by
  obtain ⟨hd, rfl⟩ := z_dn (n := 1) hr rfl (by decide)
  intro p e R s m args below meth c H locs cells slots MC MS ls C r hS hL hR
  exact va_tlen C.1 C.2.1 ((C.2.2.2.2.2.2.2.2.2.1).2.2.2.2.1 _ hT) hS rfl hd (kk p e R s m args below meth c H locs cells slots MC MS ls C r hS hL hR)
/-- the script -/
theorem z_sld {i : Int32} (hr : z_at mi pc = some (.iaload, nx, info)) (hi : vp_in i G.2.2.2.2.2.1) (kk : z_W G d mc ms mi nx L (.int (G.2.2.2.2.2.2 i.toNatClampNeg) :: st) h Q) : z_W G d mc ms mi pc L (.int i :: .ref 0 :: st) h Q := by
  obtain ⟨hd, rfl⟩ := z_dn (n := 1) hr rfl (by decide)
  intro p e R s m args below meth c H locs cells slots MC MS ls C r hS hL hR
  exact va_ti C.1 C.2.1 (C.2.2.2.2.2.2.2.2.2.1).2.2.2.2.2.1 hS hi rfl hd (kk p e R s m args below meth c H locs cells slots MC MS ls C r hS hL hR)
theorem z_slen (hr : z_at mi pc = some (.arraylength, nx, info)) (kk : z_W G d mc ms mi nx L (.int (Int32.ofNat G.2.2.2.2.2.1) :: st) h Q) : z_W G d mc ms mi pc L (.ref 0 :: st) h Q := by
  obtain ⟨hd, rfl⟩ := z_dn (n := 1) hr rfl (by decide)
  intro p e R s m args below meth c H locs cells slots MC MS ls C r hS hL hR
  exact va_tlen C.1 C.2.1 (C.2.2.2.2.2.2.2.2.2.1).2.2.2.2.2.1 hS rfl hd (kk p e R s m args below meth c H locs cells slots MC MS ls C r hS hL hR)
end ZN
end
section
theorem z_mnOf {own : String} {idx j : Nat} {y : MethodName} (h : z_isMN j own idx y = true) : ∃ host, Cond.methodLinkNest own idx y host ∈ lw_tbl := by
  unfold z_isMN at h
  split at h
  · rename_i o i y' hh e
    have e2 := of_decide_eq_true h
    exact ⟨hh, by rw [← e2]; exact z_wdOf e⟩
  · cases h
theorem z_oi1 : Cond.instanceMethod Lib.objectInit ∈ lw_tbl := z_isOf (j := 1044) (by decide +kernel)
theorem z_oi2 : Cond.code Lib.objectInit ⟨#[0xb1]⟩ 1 none ∈ lw_tbl := z_isOf (j := 1045) (by decide +kernel)
def z_exs : List (String × Nat) := [("java/lang/UnsupportedOperationException", 127), ("java/lang/IllegalArgumentException", 189), ("java/lang/IndexOutOfBoundsException", 219), ("java/lang/IllegalStateException", 320), ("java/lang/ArithmeticException", 407)]
def z_exChk (q : String × Nat × Nat × Nat × String × Bool) : Bool := decide (Cond.classLink "ClockParliament" q.2.1 q.1 ∈ lw_tbl) && decide (Cond.initialized q.1 ∈ lw_tbl) && Bundle.fit q.1 && (decide (q.1 = "java/util/NoSuchElementException") || decide ((q.1, q.2.2.2.1) ∈ z_exs))
theorem z_exC : z_ex.all z_exChk = true := by decide +kernel
theorem z_exW : (z_exs.all fun q => (vx_atS "ClockParliament" q.2 q.1 ["java/lang/RuntimeException", "java/lang/Exception"]).all fun w => decide (w ∈ lw_tbl) && (goodWord w || z_nw w)) = true := by decide +kernel
theorem z_exOk {f : Nat} {q : String × Nat × Nat × Nat × String × Bool} (h : z_ex[f]? = some q) (hne : q.1 ≠ "java/util/NoSuchElementException") : (Cond.classLink "ClockParliament" q.2.1 q.1 ∈ lw_tbl ∧ goodWord (Cond.classLink "ClockParliament" q.2.1 q.1) = true) ∧ (Cond.initialized q.1 ∈ lw_tbl ∧ goodWord (Cond.initialized q.1) = true) ∧ (∀ w ∈ vx_atS "ClockParliament" q.2.2.2.1 q.1 ["java/lang/RuntimeException", "java/lang/Exception"], w ∈ lw_tbl ∧ (goodWord w = true ∨ z_nw w = true)) ∧ Bundle.fit q.1 = true := by
  have h1 := List.all_eq_true.mp z_exC q (List.mem_of_getElem? h)
  unfold z_exChk at h1
  simp only [Bool.and_eq_true, decide_eq_true_eq, Bool.or_eq_true] at h1
  obtain ⟨⟨⟨a1, a2⟩, a3⟩, a4⟩ := h1
  replace a4 := a4.resolve_left hne
  refine ⟨⟨a1, rfl⟩, ⟨a2, rfl⟩, fun w hw => ?_, a3⟩
  have h2 := List.all_eq_true.mp (List.all_eq_true.mp z_exW _ a4) w hw
  simp only [Bool.and_eq_true, decide_eq_true_eq, Bool.or_eq_true] at h2
  exact h2
end
section
/-! Calls: a method's contract is z_W at its first instruction. -/
noncomputable def z_L0 (mj : Nat) (av : List Value) : List Value := av ++ List.replicate (z_nL mj - av.length) (.retAddr 0)
/-- thrown in this frame -/
def z_X (G : z_G) (d mc ms mi pc : Nat) (L : List Value) (E : String) (h : z_H) (Q : z_O → z_H → Prop) : Prop :=
  ∀ (p : Program) (e : Env) (R : Room) (s : State) (m : MethodId) (args : Array Value) (below : List Frame) (meth : Method) (c : Code) (H : Heap) (locs : List Loc) (cells slots MC MS : Nat) (ls : Array Slot) (rest : List Value) (q : Addr) (ce : Cell),
    z_C G mi p s m args meth c → d ≤ R.frames ∧ 60 * d + 200 ≤ R.locals ∧ MC ≤ R.cells ∧ MS ≤ R.slots ∧ cells + mc ≤ MC ∧ slots + ms ≤ MS → va_S (z_A G) s.heap H locs → z_Lo G (z_nL mi) ls L → z_R G h H → H[q]? = some ce → ce.vm = .none → s.vm.findClass E = some ce.cls →
    vx_W p G.1 e R s m args below meth c H locs cells slots (vx_MQ below (z_Qc G Q) (z_XC G Q) args s MC MS (z_A G)) (F0 m pc ls rest) q
/-- what a call's end goes on to -/
def z_K2 (G : z_G) (d mc ms mi pc nx : Nat) (L st : List Value) (Q : z_O → z_H → Prop) : z_O → z_H → Prop
  | .inl v, h' => z_W G d mc ms mi nx L (v.toList ++ st) h' Q
  | .inr E, h' => z_X G d mc ms mi pc L E h' Q
theorem z_sl1 (vs : List Value) (h : ∀ v ∈ vs, v.category = 1) : lg_sl vs = vs.map Slot.val := by
  induction vs with
  | nil => rfl
  | cons a t ih =>
    have h1 : a.category = 1 := h a List.mem_cons_self
    have h2 := ih fun v hv => h v (List.mem_cons_of_mem _ hv)
    show (if a.category = 2 then [Slot.val a, Slot.second] else [Slot.val a]) ++ lg_sl t = _
    rw [if_neg (by omega), h2]
    rfl
theorem z_catL {G : z_G} {av : List Value} (hc : (av.all fun v => v.category == 1) = true) : ∀ v ∈ av.map (z_v G), v.category = 1 := by
  intro v hv
  obtain ⟨u, hu, rfl⟩ := List.mem_map.mp hv
  rw [z_v_cat]
  have := List.all_eq_true.mp hc u hu
  simpa using this
theorem z_LoEntry {G : z_G} {av : List Value} {n : Nat} (hc : (av.all fun v => v.category == 1) = true) (hn : av.length ≤ n) : z_Lo G n ((lg_sl (av.map (z_v G)) ++ List.replicate (n - (lg_sl (av.map (z_v G))).length) Slot.unset).toArray) (av ++ List.replicate (n - av.length) (.retAddr 0)) := by
  have e := z_sl1 _ (z_catL (G := G) hc)
  obtain ⟨h1, h2, h3⟩ := lv_entry (av.map (z_v G)) (n := n) (by rw [e]; simpa using hn)
  refine ⟨h1, h2, fun i v hi hv => ?_⟩
  by_cases hlt : i < av.length
  · rw [List.getElem?_append_left hlt] at hi
    rw [e]
    have hlt2 : i < ((av.map (z_v G)).map Slot.val).length := by simpa using hlt
    rw [List.getElem?_toArray, List.getElem?_append_left hlt2]
    simp [hi]
  · rw [List.getElem?_append_right (by omega)] at hi
    have := List.mem_of_getElem? hi
    exact absurd (List.eq_of_mem_replicate this) hv
theorem z_ofW {l : Launch} {y : MethodName} {ws ws' : List Cond} {rm : Room} {Pc : Array Value → State → Prop} {Qc : Array Value → State → Outcome → State → Prop} {XC : String → State → State → Prop} {mc ms : Nat} {free : Addr → Prop} {cc : ByteArray} {maxL : Nat} {ret : Option FieldType}
    (hy : plainFor y = true) (hw : ws = Cond.code y cc maxL ret :: ws')
    (body : ∀ p e s m args below meth c s₁, BodyLoose p l y (headSpec ws rm) cc maxL ret e s m args below meth c s₁ → c.maxLocals = maxL → (∀ x ∈ c.exceptionTable.toList, False) → Pc args s →
      W p l e (headSpec ws rm).room s m args below meth c s.heap [] 0 0 (vx_MQ below Qc XC args s mc ms free) (entryFrame m args maxL)) : vx_Met l y ws rm Pc Qc XC mc ms free := by
  refine MetFree.of_bodySF (code := cc) (maxLocals := maxL) (ret := ret) hy ?_ ?_
  · intro args s m h hn
    obtain ⟨meth, c, h1, h2, h3, h4, h5, h6, -, -⟩ := Cond.code_spec hn (atoms_spec (ws := ws) h _ (by rw [hw]; exact List.mem_cons_self))
    exact ⟨meth, c, h1, h2, h3, h4, h5, h6⟩
  · intro p e s m args below meth c s₁ B hml hP _
    have hh0 : s₁.heap = s.heap := by rw [B.state]; rfl
    have ht : ∀ x ∈ c.exceptionTable.toList, False := by
      obtain ⟨meth9, c9, h1, h2, -, -, -, -, h7, -⟩ := Cond.code_spec B.named (atoms_spec (ws := ws) B.pre _ (by rw [hw]; exact List.mem_cons_self))
      cases Option.some.inj (h1.symm.trans B.method)
      cases Option.some.inj (h2.symm.trans (Stand.of_body B).code)
      intro x hx
      rw [Array.isEmpty_iff.mp h7] at hx
      cases hx
    obtain ⟨t, a1, o, b1, b2, b3⟩ := body p e s m args below meth c s₁ B hml ht hP s₁ hh0 (Stand.of_body B)
    exact ⟨t, o, a1, b1, b2, b3⟩
theorem z_ofWH {l : Launch} {y : MethodName} {ws ws' : List Cond} {rm : Room} {Pc : Array Value → State → Prop} {Qc : Array Value → State → Outcome → State → Prop} {XC : String → State → State → Prop} {mc ms : Nat} {free : Addr → Prop} {cc : ByteArray} {maxL : Nat} {ret : Option FieldType} {hh : List (Nat × Nat × Nat × Nat)}
    (hy : plainFor y = true) (hw : ws = Cond.codeWith y cc maxL ret hh :: ws')
    (body : ∀ p e s m args below meth c s₁, BodyLoose p l y (headSpec ws rm) cc maxL ret e s m args below meth c s₁ → c.maxLocals = maxL → Pc args s →
      W p l e (headSpec ws rm).room s m args below meth c s.heap [] 0 0 (vx_MQ below Qc XC args s mc ms free) (entryFrame m args maxL)) : vx_Met l y ws rm Pc Qc XC mc ms free := by
  refine MetFree.of_bodySF (code := cc) (maxLocals := maxL) (ret := ret) hy ?_ ?_
  · intro args s m h hn
    obtain ⟨m9, meth, c, hn9, h1, h2, h3, h4, -, h5, h6, -⟩ := Cond.codeWith_spec (atoms_spec (ws := ws) h _ (by rw [hw]; exact List.mem_cons_self))
    cases hn.symm.trans hn9
    exact ⟨meth, c, h1, h2, h3, h4, h5, h6⟩
  · intro p e s m args below meth c s₁ B hml hP _
    have hh0 : s₁.heap = s.heap := by rw [B.state]; rfl
    obtain ⟨t, a1, o, b1, b2, b3⟩ := body p e s m args below meth c s₁ B hml hP s₁ hh0 (Stand.of_body B)
    exact ⟨t, o, a1, b1, b2, b3⟩
theorem z_met {G : z_G} {mj d' mc' ms' : Nat} {av : List Value} {h : z_H} {Q' : z_O → z_H → Prop} (hst : G.1.stackTraces = false) (hpn : plainFor (z_y mj) = true) (hc : (av.all fun v => v.category == 1) = true) (hn : av.length ≤ z_nL mj) (k : z_W G d' mc' ms' mj 0 (z_L0 mj av) [] h Q') :
    vx_Met G.1 (z_y mj) (z_cw mj :: z_gw) { frames := d', cells := mc', slots := ms', locals := 60 * d' + 200 } (fun a U => a = (av.map (z_v G)).toArray ∧ z_R G h U.heap ∧ z_K G U U.heap ∧ G.2.1 ≤ U.heap.size) (z_Qc G Q') (z_XC G Q') mc' ms' (z_A G) := by
  by_cases hh : (z_hh mj).isEmpty = true
  · have ecw : z_cw mj = .code (z_y mj) (z_b mj) (z_nL mj) (z_rt mj) := by unfold z_cw; rw [if_pos hh]
    refine z_ofW (cc := z_b mj) (maxL := z_nL mj) (ret := z_rt mj) (ws' := z_gw) hpn (by rw [ecw]) ?_
    intro p e s m args below meth c s₁ B hml ht hP
    obtain ⟨rfl, hR, hK, hsz⟩ := hP
    have hts := atoms_spec (ws := z_cw mj :: z_gw) B.pre
    have htab : c.exceptionTable.toList = tableOf (z_hh mj) := by
      rw [List.isEmpty_iff.mp hh]
      exact List.eq_nil_iff_forall_not_mem.mpr fun x hx => ht x hx
    rw [lg_entry_eq]
    exact k p e _ s m _ below meth c s.heap [] 0 0 mc' ms' _ ⟨B.exec, B.bytes, hml, B.returns, findClass_of_methodNamed B.named, fun w hw => hts w (List.mem_cons_of_mem _ hw), B.notSynchronized, (name_of_methodNamed B.named B.method).1, htab, hK, hsz, hst⟩ ⟨Nat.le_refl _, Nat.le_refl _, Nat.le_refl _, Nat.le_refl _, by omega, by omega⟩ va_S.rf (z_LoEntry hc hn) hR
  · have ecw : z_cw mj = .codeWith (z_y mj) (z_b mj) (z_nL mj) (z_rt mj) (z_hh mj) := by unfold z_cw; rw [if_neg hh]
    refine z_ofWH (cc := z_b mj) (maxL := z_nL mj) (ret := z_rt mj) (hh := z_hh mj) (ws' := z_gw) hpn (by rw [ecw]) ?_
    intro p e s m args below meth c s₁ B hml hP
    obtain ⟨rfl, hR, hK, hsz⟩ := hP
    have hts := atoms_spec (ws := z_cw mj :: z_gw) B.pre
    have htab : c.exceptionTable.toList = tableOf (z_hh mj) := vx_table (x := z_y mj) B (y := z_y mj) (by rw [← ecw]; exact hts _ List.mem_cons_self)
    rw [lg_entry_eq]
    exact k p e _ s m _ below meth c s.heap [] 0 0 mc' ms' _ ⟨B.exec, B.bytes, hml, B.returns, findClass_of_methodNamed B.named, fun w hw => hts w (List.mem_cons_of_mem _ hw), B.notSynchronized, (name_of_methodNamed B.named B.method).1, htab, hK, hsz, hst⟩ ⟨Nat.le_refl _, Nat.le_refl _, Nat.le_refl _, Nat.le_refl _, by omega, by omega⟩ va_S.rf (z_LoEntry hc hn) hR
section ZC
variable {G : z_G} {d mc ms mi pc nx : Nat} {L st : List Value} {h : z_H} {Q : z_O → z_H → Prop} {info : List Nat}
theorem z_okWOf {mj : Nat} (h : z_okW mj = true) : z_cw mj ∈ lw_tbl ∧ goodWord (z_cw mj) = true ∧ Cond.initialized (z_y mj).cls ∈ z_gw ∧ (if z_pl mj 3 = 1 then Cond.static (z_y mj) else Cond.instanceMethod (z_y mj)) ∈ z_gw ∧ plainFor (z_y mj) = true ∧ (z_y mj).cls ≠ "java/lang/invoke/MethodHandle" ∧ (z_y mj).cls ≠ "java/lang/invoke/VarHandle" ∧ z_nL mj ≤ 30 := by
  unfold z_okW at h
  simp only [Bool.and_eq_true, decide_eq_true_eq] at h
  obtain ⟨⟨⟨⟨⟨⟨⟨h1, h2⟩, h3⟩, h4⟩, h5⟩, h6⟩, h7⟩, -⟩ := h
  refine ⟨z_isOf h1, ?_, z_gwOf (z_isOf h2) rfl, z_gwOf (z_isOf h3) ?_, h4, h5, h6, h7⟩
  · unfold z_cw
    split <;> rfl
  · split <;> rfl
theorem z_good {mj : Nat} (h : z_okW mj = true) : GoodIn z_gw (z_cw mj :: z_gw) := by
  obtain ⟨h1, h2, -⟩ := z_okWOf h
  intro w hw
  rcases List.mem_cons.mp hw with rfl | hw
  · exact ⟨z_gwOf h1 h2, good_of_word h2⟩
  · exact ⟨hw, good_of_word (List.mem_filter.mp hw).2⟩
theorem z_desc {mj n : Nat} (h1 : parseMethodDescriptor (z_y mj).desc ≠ none) (h2 : z_nps (z_y mj).desc = n) : (parseMethodDescriptor (z_y mj).desc).map (fun d => d.parameters.length) = some n := by
  unfold z_nps at h2
  cases e : parseMethodDescriptor (z_y mj).desc with
  | none => exact absurd e h1
  | some q =>
    rw [e] at h2
    simpa using h2
theorem z_blind {G : z_G} {av : List Value} {h : z_H} : FrameBlind (fun a U => a = (av.map (z_v G)).toArray ∧ z_R G h U.heap ∧ z_K G U U.heap ∧ G.2.1 ≤ U.heap.size) := fun a U g mk q => ⟨q.1, q.2.1, z_K.same (s := U) (U := U.calling g mk a) q.2.2.1 rfl, q.2.2.2⟩
theorem z_preS {s : State} {H : Heap} {locs : List Loc} {av : List Value} {h : z_H} (hK : z_K G s s.heap) (hsz : G.2.1 ≤ s.heap.size) (hS : va_S (z_A G) s.heap H locs) (hR : z_R G h H) : PreS s H (fun a U => a = (av.map (z_v G)).toArray ∧ z_R G h U.heap ∧ z_K G U U.heap ∧ G.2.1 ≤ U.heap.size) (av.map (z_v G)) :=
  ⟨z_blind, fun U hU hW => ⟨rfl, by rw [hU]; exact hR, by rw [hU]; exact z_K.to hK hW (fun a ha hA => hS.2.1 a ha hA), by rw [hU]; exact Nat.le_trans hsz hS.1⟩⟩
theorem z_fromRun {p : Program} {e : Env} {R : Room} {s : State} {m : MethodId} {args : Array Value} {below : List Frame} {meth : Method} {c : Code} {H : Heap} {locs : List Loc} {cells slots MC MS mc' ms' : Nat} {ls : Array Slot} {stk : List Value} {av : Array Value}
    (C : z_C G mi p s m args meth c) (r : d ≤ R.frames ∧ 60 * d + 200 ≤ R.locals ∧ MC ≤ R.cells ∧ MS ≤ R.slots ∧ cells + mc ≤ MC ∧ slots + ms ≤ MS) (hm : mc' ≤ mc) (hs : ms' ≤ ms) (hS : va_S (z_A G) s.heap H locs) (hL : z_Lo G (z_nL mi) ls L)
    (hrun : vx_Run p G.1 e R s m args below meth c H locs cells slots mc' ms' (F0 m pc ls stk) (st.map (z_v G)) (z_Qc G (z_K2 G d (mc - mc') (ms - ms') mi pc (pc + 3) L st Q) av) (z_XC G (z_K2 G d (mc - mc') (ms - ms') mi pc (pc + 3) L st Q)) (z_A G)) :
    W p G.1 e R s m args below meth c H locs cells slots (vx_MQ below (z_Qc G Q) (z_XC G Q) args s MC MS (z_A G)) (F0 m pc ls stk) := by
  intro T hT X
  rcases hrun T hT X with ⟨v, st₀, t, T', L', h0, X', hL', e1, e2, ⟨⟨v', h', hv, hQ, hR'⟩, hF⟩, hst⟩ | ⟨q, st₀, t, T', L', E, ce, h0, X', hL', e1, e2, ⟨⟨h', hQ, hR'⟩, hF⟩, hce, hcv, hcl, hst⟩
  · cases hv
    obtain ⟨-, -, k3⟩ := vx_keep h0 e1 hS (fun _ _ q => q) (fun _ q => q) hL' hF
    have w : z_W G d (mc - mc') (ms - ms') mi (pc + 3) L (v'.toList ++ st) h' Q := hQ
    obtain ⟨t2, a1, b1⟩ := w p e R s m args below meth c T'.heap (locs ++ L') (cells + mc') (slots + ms') MC MS ls C (by omega) k3 hL (by rw [e1]; exact hR') T' rfl X'
    have ev : (v'.toList ++ st).map (z_v G) = (v'.map (z_v G)).toList ++ st.map (z_v G) := by cases v' <;> rfl
    rw [ev] at a1
    exact ⟨t2, hst t2 a1, b1⟩
  · obtain ⟨-, -, k3⟩ := vx_keep h0 e1 hS (fun _ _ q => q) (fun _ q => q) hL' hF
    have w : z_X G d (mc - mc') (ms - ms') mi pc L E h' Q := hQ
    obtain ⟨t2, a1, b1⟩ := w p e R s m args below meth c T'.heap (locs ++ L') (cells + mc') (slots + ms') MC MS ls (st.map (z_v G)) q ce C (by omega) k3 hL (by rw [e1]; exact hR') (by rw [e1]; exact hce) hcv hcl T' rfl X'
    exact ⟨t2, hst.trans a1, b1⟩
theorem z_stL {stl : List Value} (hst : Nat.ble ((stl.map fun v => v.category).sum) 8 = true) : (((stl.map (z_v G)).map fun v => v.category).sum) ≤ 8 := by
  have e : ((stl.map (z_v G)).map fun v => v.category) = stl.map fun v => v.category := by
    rw [List.map_map]
    exact List.map_congr_left fun v _ => z_v_cat G v
  rw [e]
  exact Nat.le_of_ble_eq_true hst
theorem z_callS {idx mj n j d' mc' ms' : Nat} {av stk : List Value} (hr : z_at mi pc = some (.invokestatic idx, nx, [1, mj, n, j])) (hw : z_okW mj = true) (hstk : stk = av.reverse ++ st) (hav : av.length = n) (hcat : (av.all fun v => v.category == 1) = true) (hst : Nat.ble ((st.map fun v => v.category).sum) 8 = true) (hdd : d' + 1 ≤ d) (hm : mc' ≤ mc) (hs : ms' ≤ ms) (hnl : av.length ≤ z_nL mj) (k : z_W G d' mc' ms' mj 0 (z_L0 mj av) [] h (z_K2 G d (mc - mc') (ms - ms') mi pc nx L st Q)) : z_W G d mc ms mi pc L stk h Q := by
  obtain ⟨hd, rfl⟩ := z_dn (n := 3) hr rfl (by decide)
  have hlk := z_lkOf hr
  have hlk2 : (z_is j (.methodLink (z_y mi).cls idx (z_y mj)) && decide (parseMethodDescriptor (z_y mj).desc ≠ none) && decide (z_nps (z_y mj).desc = n) && decide (z_pl mj 3 = 1) && (z_hh mj).isEmpty) = true := hlk
  simp only [Bool.and_eq_true, decide_eq_true_eq] at hlk2
  obtain ⟨⟨⟨⟨w1, w2⟩, w3⟩, w4⟩, w5⟩ := hlk2
  obtain ⟨o1, o2, o3, o4, o5, o6, o7, o8⟩ := z_okWOf hw
  rw [if_pos w4] at o4
  subst hstk
  intro p e R s m args below meth c H locs cells slots MC MS ls C r hS hL hR
  have ecw : z_cw mj = .code (z_y mj) (z_b mj) (z_nL mj) (z_rt mj) := by unfold z_cw; rw [if_pos w5]
  have hts := C.2.2.2.2.2.1
  refine z_fromRun C r hm hs hS hL (vx_runS (Ts := z_gw) (As := av.map (z_v G)) ⟨C.1, C.2.1, C.2.2.1, C.2.2.2.2.1, hts⟩ (z_met C.2.2.2.2.2.2.2.2.2.2.2 o5 hcat hnl k) ⟨callB_of n hts (z_good hw) (by rw [ecw]) rfl rfl (hts _ o3) (hts _ (z_gwOf (z_isOf w1) rfl)) ⟨o6, o7, z_desc w2 w3⟩ ⟨?_, ?_⟩, hts _ o4⟩ (z_preS C.2.2.2.2.2.2.2.2.2.1 C.2.2.2.2.2.2.2.2.2.2.1 hS hR) rfl (by simpa using hav) hL.1 ?_ (lv_room (z_stL hst)) hd ⟨by omega, by omega⟩)
  · show d' + 1 ≤ _; omega
  · show 8 + (z_nL mj + 11) + (60 * d' + 200) ≤ _; omega
  · simp [List.map_append, List.map_reverse]
theorem z_callSX {idx mj n j d' mc' ms' : Nat} {av stk : List Value} (hr : z_at mi pc = some (.invokestatic idx, nx, [9, mj, n, j])) (hw : z_okW mj = true) (hstk : stk = av.reverse ++ st) (hav : av.length = n) (hcat : (av.all fun v => v.category == 1) = true) (hst : Nat.ble ((st.map fun v => v.category).sum) 8 = true) (hdd : d' + 1 ≤ d) (hm : mc' ≤ mc) (hs : ms' ≤ ms) (hnl : av.length ≤ z_nL mj) (k : z_W G d' mc' ms' mj 0 (z_L0 mj av) [] h (z_K2 G d (mc - mc') (ms - ms') mi pc nx L st Q)) : z_W G d mc ms mi pc L stk h Q := by
  obtain ⟨hd, rfl⟩ := z_dn (n := 3) hr rfl (by decide)
  have hlk := z_lkOf hr
  have hlk2 : (z_is j (.methodLink (z_y mi).cls idx (z_y mj)) && decide (parseMethodDescriptor (z_y mj).desc ≠ none) && decide (z_nps (z_y mj).desc = n) && decide (z_pl mj 3 = 1) && !(z_hh mj).isEmpty) = true := hlk
  simp only [Bool.and_eq_true, decide_eq_true_eq] at hlk2
  obtain ⟨⟨⟨⟨w1, w2⟩, w3⟩, w4⟩, w5⟩ := hlk2
  obtain ⟨o1, o2, o3, o4, o5, o6, o7, o8⟩ := z_okWOf hw
  rw [if_pos w4] at o4
  subst hstk
  intro p e R s m args below meth c H locs cells slots MC MS ls C r hS hL hR
  have ecw : z_cw mj = .codeWith (z_y mj) (z_b mj) (z_nL mj) (z_rt mj) (z_hh mj) := by
    unfold z_cw
    rw [if_neg]
    intro q
    rw [q] at w5
    cases w5
  have hts := C.2.2.2.2.2.1
  have hcm : Cond.codeWith (z_y mj) (z_b mj) (z_nL mj) (z_rt mj) (z_hh mj) ∈ z_gw := by rw [← ecw]; exact z_gwOf o1 o2
  refine z_fromRun C r hm hs hS hL (vx_runSX (hh := z_hh mj) (bytes := z_b mj) (maxL := z_nL mj) (ret := z_rt mj) (ws := z_cw mj :: z_gw) (n := n) (Ts := z_gw) (As := av.map (z_v G)) ⟨C.1, C.2.1, C.2.2.1, C.2.2.2.2.1, hts⟩ (z_met C.2.2.2.2.2.2.2.2.2.2.2 o5 hcat hnl k) ⟨⟨rfl, rfl, ?_, ?_, pay_in hts (z_good hw), by rw [ecw]; exact List.mem_cons_self⟩, hts _ hcm, hts _ o3, ⟨o6, o7⟩, fun sig hg => ?_, hts _ (z_gwOf (z_isOf w1) rfl), hts _ o4⟩ (z_preS C.2.2.2.2.2.2.2.2.2.1 C.2.2.2.2.2.2.2.2.2.2.1 hS hR) rfl (by simpa using hav) hL.1 ?_ (lv_room (z_stL hst)) hd ⟨by omega, by omega⟩)
  · show d' + 1 ≤ _; omega
  · show 8 + (z_nL mj + 11) + (60 * d' + 200) ≤ _; omega
  · have h2 := z_desc w2 w3
    rw [hg] at h2
    exact (Option.some.inj h2).symm
  · simp [List.map_append, List.map_reverse]
theorem z_callSN {idx mj n j d' mc' ms' : Nat} {av stk : List Value} (hr : z_at mi pc = some (.invokestatic idx, nx, [4, mj, n, j])) (hw : z_okW mj = true) (hstk : stk = av.reverse ++ st) (hav : av.length = n) (hcat : (av.all fun v => v.category == 1) = true) (hst : Nat.ble ((st.map fun v => v.category).sum) 8 = true) (hdd : d' + 1 ≤ d) (hm : mc' ≤ mc) (hs : ms' ≤ ms) (hnl : av.length ≤ z_nL mj) (k : z_W G d' mc' ms' mj 0 (z_L0 mj av) [] h (z_K2 G d (mc - mc') (ms - ms') mi pc nx L st Q)) : z_W G d mc ms mi pc L stk h Q := by
  obtain ⟨hd, rfl⟩ := z_dn (n := 3) hr rfl (by decide)
  have hlk := z_lkOf hr
  have hlk2 : (z_isMN j (z_y mi).cls idx (z_y mj) && decide (parseMethodDescriptor (z_y mj).desc ≠ none) && decide (z_nps (z_y mj).desc = n) && decide (z_pl mj 3 = 1) && (z_hh mj).isEmpty) = true := hlk
  simp only [Bool.and_eq_true, decide_eq_true_eq] at hlk2
  obtain ⟨⟨⟨⟨w1, w2⟩, w3⟩, w4⟩, w5⟩ := hlk2
  obtain ⟨o1, o2, o3, o4, o5, o6, o7, o8⟩ := z_okWOf hw
  obtain ⟨host, hwd⟩ := z_mnOf w1
  rw [if_pos w4] at o4
  subst hstk
  intro p e R s m args below meth c H locs cells slots MC MS ls C r hS hL hR
  have ecw : z_cw mj = .code (z_y mj) (z_b mj) (z_nL mj) (z_rt mj) := by unfold z_cw; rw [if_pos w5]
  have hts := C.2.2.2.2.2.1
  refine z_fromRun C r hm hs hS hL (vx_runSN (Ts := z_gw) (As := av.map (z_v G)) ⟨C.1, C.2.1, C.2.2.1, C.2.2.2.2.1, hts⟩ (z_met C.2.2.2.2.2.2.2.2.2.2.2 o5 hcat hnl k) ⟨va_cnB n hts (z_good hw) (by rw [ecw]) rfl rfl ((C.2.2.2.2.2.2.2.2.2.1).2.2.2.2.2.2.1 _ hwd rfl) (hts _ o3) ⟨o6, o7, z_desc w2 w3⟩ ⟨?_, ?_⟩, hts _ o4, trivial⟩ (z_preS C.2.2.2.2.2.2.2.2.2.1 C.2.2.2.2.2.2.2.2.2.2.1 hS hR) rfl (by simpa using hav) hL.1 ?_ (lv_room (z_stL hst)) hd ⟨by omega, by omega⟩)
  · show d' + 1 ≤ _; omega
  · show 8 + (z_nL mj + 11) + (60 * d' + 200) ≤ _; omega
  · simp [List.map_append, List.map_reverse]
theorem z_callI {idx mj n j d' mc' ms' : Nat} {av stk : List Value} {a : Nat} (hr : z_at mi pc = some (.invokespecial idx, nx, [2, mj, n, j])) (hw : z_okW mj = true) (hstk : stk = av.reverse ++ .ref a :: st) (hav : av.length = n) (hcat : (av.all fun v => v.category == 1) = true) (hst : Nat.ble ((st.map fun v => v.category).sum) 8 = true) (hdd : d' + 1 ≤ d) (hm : mc' ≤ mc) (hs : ms' ≤ ms) (hnl : av.length + 1 ≤ z_nL mj) (k : z_W G d' mc' ms' mj 0 (z_L0 mj (.ref a :: av)) [] h (z_K2 G d (mc - mc') (ms - ms') mi pc nx L st Q)) : z_W G d mc ms mi pc L stk h Q := by
  obtain ⟨hd, rfl⟩ := z_dn (n := 3) hr rfl (by decide)
  have hlk := z_lkOf hr
  have hlk2 : (z_is j (.methodLink (z_y mi).cls idx (z_y mj)) && decide (parseMethodDescriptor (z_y mj).desc ≠ none) && decide (z_nps (z_y mj).desc = n) && decide (z_pl mj 3 = 0) && (z_hh mj).isEmpty && decide ((z_y mj).name = "<init>") && decide (z_rt mj = none)) = true := hlk
  simp only [Bool.and_eq_true, decide_eq_true_eq] at hlk2
  obtain ⟨⟨⟨⟨⟨⟨w1, w2⟩, w3⟩, w4⟩, w5⟩, w6⟩, w7⟩ := hlk2
  obtain ⟨o1, o2, o3, o4, o5, o6, o7, o8⟩ := z_okWOf hw
  rw [if_neg (by omega)] at o4
  subst hstk
  intro p e R s m args below meth c H locs cells slots MC MS ls C r hS hL hR
  have ecw : z_cw mj = .code (z_y mj) (z_b mj) (z_nL mj) none := by unfold z_cw; rw [if_pos w5, w7]
  have hts := C.2.2.2.2.2.1
  have hc2 : ((Value.ref a :: av).all fun v => v.category == 1) = true := by simpa [Value.category] using hcat
  refine z_fromRun C r hm hs hS hL (vx_runI (Ts := z_gw) (b := z_ad G a) (As := av.map (z_v G)) ⟨C.1, C.2.1, C.2.2.1, C.2.2.2.2.1, hts⟩ (z_met (av := .ref a :: av) C.2.2.2.2.2.2.2.2.2.2.2 o5 hc2 hnl k) ⟨callB_of n hts (z_good hw) (by rw [ecw]) rfl rfl (hts _ o3) (hts _ (z_gwOf (z_isOf w1) rfl)) ⟨o6, o7, z_desc w2 w3⟩ ⟨?_, ?_⟩, w6, hts _ o4⟩ (z_preS (av := .ref a :: av) C.2.2.2.2.2.2.2.2.2.1 C.2.2.2.2.2.2.2.2.2.2.1 hS hR) rfl (by simpa using hav) hL.1 ?_ (lv_room (z_stL hst)) hd ⟨by omega, by omega⟩)
  · show d' + 1 ≤ _; omega
  · show 8 + (z_nL mj + 11) + (60 * d' + 200) ≤ _; omega
  · simp [List.map_append, List.map_reverse, z_v]
theorem z_callIN {idx mj n j d' mc' ms' : Nat} {av stk : List Value} {a : Nat} (hr : z_at mi pc = some (.invokespecial idx, nx, [3, mj, n, j])) (hw : z_okW mj = true) (hstk : stk = av.reverse ++ .ref a :: st) (hav : av.length = n) (hcat : (av.all fun v => v.category == 1) = true) (hst : Nat.ble ((st.map fun v => v.category).sum) 8 = true) (hdd : d' + 1 ≤ d) (hm : mc' ≤ mc) (hs : ms' ≤ ms) (hnl : av.length + 1 ≤ z_nL mj) (k : z_W G d' mc' ms' mj 0 (z_L0 mj (.ref a :: av)) [] h (z_K2 G d (mc - mc') (ms - ms') mi pc nx L st Q)) : z_W G d mc ms mi pc L stk h Q := by
  obtain ⟨hd, rfl⟩ := z_dn (n := 3) hr rfl (by decide)
  have hlk := z_lkOf hr
  have hlk2 : (z_isMN j (z_y mi).cls idx (z_y mj) && decide (parseMethodDescriptor (z_y mj).desc ≠ none) && decide (z_nps (z_y mj).desc = n) && decide (z_pl mj 3 = 0) && (z_hh mj).isEmpty && decide ((z_y mj).name = "<init>") && decide (z_rt mj = none)) = true := hlk
  simp only [Bool.and_eq_true, decide_eq_true_eq] at hlk2
  obtain ⟨⟨⟨⟨⟨⟨w1, w2⟩, w3⟩, w4⟩, w5⟩, w6⟩, w7⟩ := hlk2
  obtain ⟨o1, o2, o3, o4, o5, o6, o7, o8⟩ := z_okWOf hw
  obtain ⟨host, hwd⟩ := z_mnOf w1
  rw [if_neg (by omega)] at o4
  subst hstk
  intro p e R s m args below meth c H locs cells slots MC MS ls C r hS hL hR
  have ecw : z_cw mj = .code (z_y mj) (z_b mj) (z_nL mj) none := by unfold z_cw; rw [if_pos w5, w7]
  have hts := C.2.2.2.2.2.1
  have hc2 : ((Value.ref a :: av).all fun v => v.category == 1) = true := by simpa [Value.category] using hcat
  refine z_fromRun C r hm hs hS hL (vx_runIN (Ts := z_gw) (b := z_ad G a) (As := av.map (z_v G)) ⟨C.1, C.2.1, C.2.2.1, C.2.2.2.2.1, hts⟩ (z_met (av := .ref a :: av) C.2.2.2.2.2.2.2.2.2.2.2 o5 hc2 hnl k) ⟨va_cnB n hts (z_good hw) (by rw [ecw]) rfl rfl ((C.2.2.2.2.2.2.2.2.2.1).2.2.2.2.2.2.1 _ hwd rfl) (hts _ o3) ⟨o6, o7, z_desc w2 w3⟩ ⟨?_, ?_⟩, w6, hts _ o4⟩ (z_preS (av := .ref a :: av) C.2.2.2.2.2.2.2.2.2.1 C.2.2.2.2.2.2.2.2.2.2.1 hS hR) rfl (by simpa using hav) hL.1 ?_ (lv_room (z_stL hst)) hd ⟨by omega, by omega⟩)
  · show d' + 1 ≤ _; omega
  · show 8 + (z_nL mj + 11) + (60 * d' + 200) ≤ _; omega
  · simp [List.map_append, List.map_reverse, z_v]
theorem z_callV {idx mj n j d' mc' ms' : Nat} {av stk : List Value} {a ci : Nat} {fs : List Value} (hr : z_at mi pc = some (.invokevirtual idx, nx, [0, mj, n, j])) (hw : z_okW mj = true) (hrc : h.2 a = some (.inr (ci, fs))) (hcn : (z_cl[ci]?.map fun q => q.1) = some (z_y mj).cls) (hstk : stk = av.reverse ++ .ref a :: st) (hav : av.length = n) (hcat : (av.all fun v => v.category == 1) = true) (hst : Nat.ble ((st.map fun v => v.category).sum) 8 = true) (hdd : d' + 1 ≤ d) (hm : mc' ≤ mc) (hs : ms' ≤ ms) (hnl : av.length + 1 ≤ z_nL mj) (k : z_W G d' mc' ms' mj 0 (z_L0 mj (.ref a :: av)) [] h (z_K2 G d (mc - mc') (ms - ms') mi pc nx L st Q)) : z_W G d mc ms mi pc L stk h Q := by
  obtain ⟨hd, rfl⟩ := z_dn (n := 3) hr rfl (by decide)
  have hlk := z_lkOf hr
  have hlk2 : (z_is j (.methodLink (z_y mi).cls idx (z_y mj)) && decide (parseMethodDescriptor (z_y mj).desc ≠ none) && decide (z_nps (z_y mj).desc = n) && decide (z_pl mj 3 = 0) && (z_hh mj).isEmpty && z_is (z_pl mj 4) (.selects (z_y mj).cls (z_y mj) (z_y mj))) = true := hlk
  simp only [Bool.and_eq_true, decide_eq_true_eq] at hlk2
  obtain ⟨⟨⟨⟨⟨w1, w2⟩, w3⟩, w4⟩, w5⟩, w6⟩ := hlk2
  obtain ⟨o1, o2, o3, o4, o5, o6, o7, o8⟩ := z_okWOf hw
  rw [if_neg (by omega)] at o4
  subst hstk
  obtain ⟨q0, hq0, hqc⟩ := Option.map_eq_some_iff.mp hcn
  intro p e R s m args below meth c H locs cells slots MC MS ls C r hS hL hR
  have ecw : z_cw mj = .code (z_y mj) (z_b mj) (z_nL mj) (z_rt mj) := by unfold z_cw; rw [if_pos w5]
  have hts := C.2.2.2.2.2.1
  have hc2 : ((Value.ref a :: av).all fun v => v.category == 1) = true := by simpa [Value.category] using hcat
  have hpre := z_preS (av := .ref a :: av) C.2.2.2.2.2.2.2.2.2.1 C.2.2.2.2.2.2.2.2.2.2.1 hS hR
  have hrec := va_recv (C.2.2.2.2.2.2.2.2.2.1).1 (hR.one hrc) (ci := ci) (q0 := 0) hq0 rfl
  refine z_fromRun C r hm hs hS hL (vx_runV (Ts := z_gw) (C := (z_y mj).cls) (b := z_ad G a) (As := av.map (z_v G)) ⟨C.1, C.2.1, C.2.2.1, C.2.2.2.2.1, hts⟩ (z_met (av := .ref a :: av) C.2.2.2.2.2.2.2.2.2.2.2 o5 hc2 hnl k) ⟨callB_of n hts (z_good hw) (by rw [ecw]) rfl rfl (hts _ o3) (hts _ (z_gwOf (z_isOf w1) rfl)) ⟨o6, o7, z_desc w2 w3⟩ ⟨?_, ?_⟩, hts _ o4, hts _ (z_gwOf (z_isOf w6) rfl)⟩ ⟨hpre.1, by rw [hqc] at hrec; exact hrec, hpre.2⟩ rfl (by simpa using hav) hL.1 ?_ (lv_room (z_stL hst)) hd ⟨by omega, by omega⟩)
  · show d' + 1 ≤ _; omega
  · show 8 + (z_nL mj + 11) + (60 * d' + 200) ≤ _; omega
  · simp [List.map_append, List.map_reverse, z_v]
theorem z_objInit {idx n j a : Nat} (hr : z_at mi pc = some (.invokespecial idx, nx, [7, 0, n, j])) (hst : Nat.ble ((st.map fun v => v.category).sum) 8 = true) (hdd : 1 ≤ d) (k : z_W G d mc ms mi nx L st h Q) : z_W G d mc ms mi pc L (.ref a :: st) h Q := by
  obtain ⟨hd, rfl⟩ := z_dn (n := 3) hr rfl (by decide)
  have hlk2 : z_is j (.methodLink (z_y mi).cls idx Lib.objectInit) = true := z_lkOf hr
  intro p e R s m args below meth c H locs cells slots MC MS ls C r hS hL hR
  have hts := C.2.2.2.2.2.1
  have hsl := z_stL (G := G) hst
  exact W.objInit C.1 C.2.1 C.2.2.2.2.1 (hts _ (z_gwOf (z_isOf hlk2) rfl)) (hts _ (z_gwOf z_oi1 rfl)) (hts _ (z_gwOf z_oi2 rfl)) rfl (by rw [C.2.2.1]; exact hL.1) rfl hd (by omega) (by show 2 * 0 + _ + 12 ≤ _; omega) (k p e R s m args below meth c H locs cells slots MC MS ls C r hS hL hR)
/-- not caught -/
theorem z_Xout {E : String} (hh : z_hh mi = []) (q : Q (.inr E) h) : z_X G d mc ms mi pc L E h Q := by
  intro p e R s m args below meth c H locs cells slots MC MS ls rest q9 ce C r hS hL hR hce hcv hcl
  refine vx_out (fun x hx => ?_) C.2.2.2.2.2.2.1 hce hcv hcl (fun t ht hW => ⟨⟨h, q, by rw [ht]; exact hR⟩, hS.F ht⟩) hS.2.2 (by omega) (by omega)
  rw [C.2.2.2.2.2.2.2.2.1, hh] at hx
  cases hx
theorem z_prDrop {nL i : Nat} {v : Value} {ls : Array Slot} (hp : ∀ u, L[i - 1]? = some u → u.category = 1 ∨ i = 0) (h1 : lv_has ls nL ((i, v) :: (z_pr G L).filter (fun q => !(q.1 == i) && !(q.1 + 1 == i && q.2.category == 2)))) : z_Lo G nL ls (L.set i (.retAddr 0)) := by
  refine ⟨h1.1, h1.2.1, fun j u hj hu => ?_⟩
  by_cases e : j = i
  · subst e
    have hlt : j < (L.set j (Value.retAddr 0)).length := (List.getElem?_eq_some_iff.mp hj).1
    rw [List.length_set] at hlt
    rw [List.getElem?_set_self hlt] at hj
    cases hj
    exact absurd rfl hu
  · rw [List.getElem?_set_ne (Ne.symm e)] at hj
    refine h1.2.2 (j, z_v G u) (List.mem_cons_of_mem _ (List.mem_filter.mpr ⟨z_prIn.mpr ⟨u, hj, hu, rfl⟩, ?_⟩))
    have e1 : (j == i) = false := by simpa using e
    simp only [e1, Bool.not_false, Bool.true_and, Bool.not_eq_true', Bool.and_eq_false_iff, z_v_cat]
    by_cases e2 : j + 1 = i
    · right
      have := hp u (by rw [← e2]; simpa using hj)
      rcases this with h9 | h9
      · rw [h9]; rfl
      · omega
    · left
      simpa using e2
/-- caught by the first row of the table, or past one that names another class; the handler keeps the thing in a variable and asks it nothing -/
theorem z_catch {E nm : String} {pre suf : List (Nat × Nat × Nat × Nat)} {a b hp ct : Nat} {q : Nat} {i9 : Instr} (hsplit : z_hh mi = pre ++ (a, b, hp, ct) :: suf) (hpre : ∀ z ∈ pre, z.2.2.2 ≠ 0 ∧ ∃ nm2 : String, Cond.classLink (z_y mi).cls z.2.2.2 nm2 ∈ z_gw ∧ (E, nm2) ∈ z_ncl) (hcov : a ≤ pc ∧ pc < b) (h0 : ct ≠ 0) (hlink : Cond.classLink (z_y mi).cls ct nm ∈ z_gw) (hcast : Cond.castable E nm ∈ lw_tbl) (hr : z_at mi hp = some (i9, nx, info)) (hi9 : i9 = .astore q ∨ ∃ k : Fin 4, i9 = .astore_n k ∧ (k : Nat) = q) (hq : q < z_nL mi) (hpv0 : z_okp L q = true) (k : z_W G d mc ms mi nx (L.set q (.retAddr 0)) [] h Q) : z_X G d mc ms mi pc L E h Q := by
  intro p e R s m args below meth c H locs cells slots MC MS ls rest q9 ce C r hS hL hR hce hcv hcl
  have hpv := z_okpOf hpv0
  have hts := C.2.2.2.2.2.1
  have hK := C.2.2.2.2.2.2.2.2.2.1
  refine vx_catch C.2.2.2.2.1 (tableOf pre) ⟨a, b, hp, ct⟩ (tableOf suf) (by rw [C.2.2.2.2.2.2.2.2.1, hsplit]; simp [tableOf]) (fun z hz => ?_) ?_ h0 (hts _ hlink) (va_Nw.use rfl (hK.2.2.2.2.2.2.1 _ hcast rfl)) hce hcv hcl ?_
  · obtain ⟨z0, hz0, rfl⟩ := List.mem_map.mp hz
    obtain ⟨g1, nm2, g2, g3⟩ := hpre z0 hz0
    exact Or.inr ⟨g1, nm2, hts _ g2, hK.2.2.2.2.2.2.2.2.2.2 _ g3⟩
  · simp [covers, hcov.1, hcov.2]
  · rcases hi9 with rfl | ⟨k9, rfl, rfl⟩
    · obtain ⟨hd, rfl⟩ := z_dn (n := 2) hr rfl (by decide)
      exact lv_astore C.1 C.2.1 hd (z_prHas hL) hq rfl (fun ls2 hl2 => k p e R s m args below meth c H locs cells slots MC MS ls2 C r hS (z_prDrop hpv hl2) hR)
    · obtain ⟨hd, rfl⟩ := z_dn (n := 1) hr rfl (by decide)
      exact lv_astore_n C.1 C.2.1 hd rfl (z_prHas hL) hq rfl (fun ls2 hl2 => k p e R s m args below meth c H locs cells slots MC MS ls2 C r hS (z_prDrop hpv hl2) hR)
/-- throw new E("text") -/
theorem z_throw {ik is ic f n1 n2 n3 n4 n5 : Nat} {i1 i2 i3 i4 : List Nat} {cls text : String} (hr : z_at mi pc = some (.new ik, n5, [1, f])) (h3 : z_at mi (pc + 3) = some (.dup, n1, i1)) (h4 : z_at mi (pc + 4) = some (.ldc is, n2, i2)) (h6 : z_at mi (pc + 6) = some (.invokespecial ic, n3, i3)) (h9 : z_at mi (pc + 9) = some (.athrow, n4, i4)) (hx : z_ex[f]? = some (cls, ik, is, ic, text, false)) (hh : z_hh mi = []) (hdd : 6 ≤ d) (hm : 1 ≤ mc) (hs : 6 ≤ ms) (hst : Nat.ble ((st.map fun v => v.category).sum) 8 = true) (how : (z_y mi).cls = "ClockParliament") (hne : cls ≠ "java/util/NoSuchElementException") (q : ∀ n, h.1 ≤ n → Q (.inr cls) (n, h.2)) : z_W G d mc ms mi pc L st h Q := by
  obtain ⟨hd, -⟩ := z_dn (n := 3) hr rfl (by decide)
  obtain ⟨hd3, -⟩ := z_dn (n := 1) h3 rfl (by decide)
  obtain ⟨hd4, -⟩ := z_dn (n := 2) h4 rfl (by decide)
  obtain ⟨hd6, -⟩ := z_dn (n := 3) h6 rfl (by decide)
  obtain ⟨hd9, -⟩ := z_dn (n := 1) h9 rfl (by decide)
  intro p e R s m args below meth c H locs cells slots MC MS ls C r hS hL hR
  have hts := C.2.2.2.2.2.1
  have hK := C.2.2.2.2.2.2.2.2.2.1
  obtain ⟨f1, f2, f3, f4⟩ := z_exOk hx hne
  obtain ⟨sa, hsa⟩ := hK.2.2.2.2.2.2.2.1 _ (List.mem_of_getElem? hx)
  have hsl := z_stL (G := G) hst
  have hwd : ∀ w, w ∈ lw_tbl → (goodWord w = true ∨ z_nw w = true) → w.before args s = true := by
    intro w hw1 hw2
    rcases hw2 with hg | hg
    · exact hts _ (z_gwOf hw1 hg)
    · exact va_Nw.use (by cases w <;> first | (simp [z_nw] at hg; done) | rfl) (hK.2.2.2.2.2.2.1 _ hw1 hg)
  have hot : ∀ w, (goodWord w = true ∨ z_nw w = true) → vx_ot w = true := by
    intro w hw2
    rcases hw2 with hg | hg
    · unfold vx_ot; rw [hg]; simp
    · unfold vx_ot
      cases w <;> first | (simp [z_nw] at hg; done) | rfl
  refine vx_throwS (own := "ClockParliament") (cls := cls) (text := text) (names := ["java/lang/RuntimeException", "java/lang/Exception"]) (ik := ik) (is := is) (ic := ic) (sa := sa) (A := z_A G) C.1 C.2.1 C.2.2.2.2.2.2.2.2.2.2.2 (by rw [← how]; exact C.2.2.2.2.1) f4 (by decide) (hwd _ f1.1 (Or.inl f1.2)) (hwd _ f2.1 (Or.inl f2.2)) hsa (fun w hw => hwd w (f3 w hw).1 (f3 w hw).2) ?_ hK.2.2.2.2.2.2.2.2.1 hK.2.2.2.2.2.2.2.2.2.1 hS (by rw [C.2.2.1]; exact hL.1) hd hd3 hd4 hd6 hd9 ?_ (by show 2 + 3 < _; omega) (by show _ + (13 * (2 + 1) + 43) ≤ _; omega) (by omega) (by omega) C.2.2.2.2.2.2.1 ?_ hS.2.2 (by omega) (by omega)
  · intro w hw
    rcases List.mem_cons.mp hw with rfl | hw
    · exact hot _ (Or.inl f1.2)
    · rcases List.mem_cons.mp hw with rfl | hw
      · exact hot _ (Or.inl f2.2)
      · exact hot _ (f3 w hw).2
  · intro x hx9
    rw [C.2.2.2.2.2.2.2.2.1, hh] at hx9
    cases hx9
  · intro t hal hz hsame
    have hsz : G.2.1 ≤ H.size := by rw [hR.1]; omega
    refine ⟨⟨(t.heap.size - G.2.1, h.2), q _ (by rw [hR.1] at hz; omega), by show t.heap.size = G.2.1 + (t.heap.size - G.2.1); omega, fun k c0 hk => ?_⟩, Nat.le_trans hS.1 hz, fun q9 g1 g2 => (hsame q9 (Nat.lt_of_lt_of_le g1 hS.1)).trans (hS.2.1 q9 g1 g2)⟩
    obtain ⟨k1, k2, k3⟩ := hR.2 k c0 hk
    refine ⟨k1, by show k < 1000 + (t.heap.size - G.2.1); rw [hR.1] at hz; omega, k3.kept (hsame _ k3.lt)⟩
/-- throw new E("text") -/
theorem z_throwW {ik is ic f n1 n2 n3 n4 n5 : Nat} {i1 i2 i3 i4 : List Nat} {cls text : String} (hr : z_at mi pc = some (.new ik, n5, [1, f])) (h3 : z_at mi (pc + 3) = some (.dup, n1, i1)) (h4 : z_at mi (pc + 4) = some (.ldc_w is, n2, i2)) (h6 : z_at mi (pc + 7) = some (.invokespecial ic, n3, i3)) (h9 : z_at mi (pc + 10) = some (.athrow, n4, i4)) (hx : z_ex[f]? = some (cls, ik, is, ic, text, true)) (hh : z_hh mi = []) (hdd : 6 ≤ d) (hm : 1 ≤ mc) (hs : 6 ≤ ms) (hst : Nat.ble ((st.map fun v => v.category).sum) 8 = true) (how : (z_y mi).cls = "ClockParliament") (hne : cls ≠ "java/util/NoSuchElementException") (q : ∀ n, h.1 ≤ n → Q (.inr cls) (n, h.2)) : z_W G d mc ms mi pc L st h Q := by
  obtain ⟨hd, -⟩ := z_dn (n := 3) hr rfl (by decide)
  obtain ⟨hd3, -⟩ := z_dn (n := 1) h3 rfl (by decide)
  obtain ⟨hd4, -⟩ := z_dn (n := 3) h4 rfl (by decide)
  obtain ⟨hd6, -⟩ := z_dn (n := 3) h6 rfl (by decide)
  obtain ⟨hd9, -⟩ := z_dn (n := 1) h9 rfl (by decide)
  intro p e R s m args below meth c H locs cells slots MC MS ls C r hS hL hR
  have hts := C.2.2.2.2.2.1
  have hK := C.2.2.2.2.2.2.2.2.2.1
  obtain ⟨f1, f2, f3, f4⟩ := z_exOk hx hne
  obtain ⟨sa, hsa⟩ := hK.2.2.2.2.2.2.2.1 _ (List.mem_of_getElem? hx)
  have hsl := z_stL (G := G) hst
  have hwd : ∀ w, w ∈ lw_tbl → (goodWord w = true ∨ z_nw w = true) → w.before args s = true := by
    intro w hw1 hw2
    rcases hw2 with hg | hg
    · exact hts _ (z_gwOf hw1 hg)
    · exact va_Nw.use (by cases w <;> first | (simp [z_nw] at hg; done) | rfl) (hK.2.2.2.2.2.2.1 _ hw1 hg)
  have hot : ∀ w, (goodWord w = true ∨ z_nw w = true) → vx_ot w = true := by
    intro w hw2
    rcases hw2 with hg | hg
    · unfold vx_ot; rw [hg]; simp
    · unfold vx_ot
      cases w <;> first | (simp [z_nw] at hg; done) | rfl
  refine vx_throwSW (own := "ClockParliament") (cls := cls) (text := text) (names := ["java/lang/RuntimeException", "java/lang/Exception"]) (ik := ik) (is := is) (ic := ic) (sa := sa) (A := z_A G) C.1 C.2.1 C.2.2.2.2.2.2.2.2.2.2.2 (by rw [← how]; exact C.2.2.2.2.1) f4 (by decide) (hwd _ f1.1 (Or.inl f1.2)) (hwd _ f2.1 (Or.inl f2.2)) hsa (fun w hw => hwd w (f3 w hw).1 (f3 w hw).2) ?_ hK.2.2.2.2.2.2.2.2.1 hK.2.2.2.2.2.2.2.2.2.1 hS (by rw [C.2.2.1]; exact hL.1) hd hd3 hd4 hd6 hd9 ?_ (by show 2 + 3 < _; omega) (by show _ + (13 * (2 + 1) + 43) ≤ _; omega) (by omega) (by omega) C.2.2.2.2.2.2.1 ?_ hS.2.2 (by omega) (by omega)
  · intro w hw
    rcases List.mem_cons.mp hw with rfl | hw
    · exact hot _ (Or.inl f1.2)
    · rcases List.mem_cons.mp hw with rfl | hw
      · exact hot _ (Or.inl f2.2)
      · exact hot _ (f3 w hw).2
  · intro x hx9
    rw [C.2.2.2.2.2.2.2.2.1, hh] at hx9
    cases hx9
  · intro t hal hz hsame
    have hsz : G.2.1 ≤ H.size := by rw [hR.1]; omega
    refine ⟨⟨(t.heap.size - G.2.1, h.2), q _ (by rw [hR.1] at hz; omega), by show t.heap.size = G.2.1 + (t.heap.size - G.2.1); omega, fun k c0 hk => ?_⟩, Nat.le_trans hS.1 hz, fun q9 g1 g2 => (hsame q9 (Nat.lt_of_lt_of_le g1 hS.1)).trans (hS.2.1 q9 g1 g2)⟩
    obtain ⟨k1, k2, k3⟩ := hR.2 k c0 hk
    refine ⟨k1, by show k < 1000 + (t.heap.size - G.2.1); rw [hR.1] at hz; omega, k3.kept (hsame _ k3.lt)⟩
theorem z_W.mono {d' mc' ms' : Nat} (k : z_W G d mc ms mi pc L st h Q) (h1 : d ≤ d') (h2 : mc ≤ mc') (h3 : ms ≤ ms') : z_W G d' mc' ms' mi pc L st h Q :=
  fun p e R s m args below meth c H locs cells slots MC MS ls C r hS hL hR => k p e R s m args below meth c H locs cells slots MC MS ls C (by omega) hS hL hR
end ZC
end
section
/-! ClockParliament$Numbers: a list of numbers. -/
theorem z_ext {h1 h2 : z_H} (a : h1.1 = h2.1) (b : ∀ k, h1.2 k = h2.2 k) : h1 = h2 := by
  obtain ⟨x, f⟩ := h1
  obtain ⟨y, g⟩ := h2
  have e1 : x = y := a
  have e2 : f = g := funext b
  rw [e1, e2]
theorem z_set_eq (h : z_H) (k : Nat) (c : va_E) : (z_set h k c).2 k = some c := if_pos rfl
theorem z_set_ne (h : z_H) {k j : Nat} (c : va_E) (hn : j ≠ k) : (z_set h k c).2 j = h.2 j := if_neg hn
theorem z_set_1 (h : z_H) (k : Nat) (c : va_E) : (z_set h k c).1 = h.1 := rfl
theorem z_set_set (h : z_H) (k : Nat) (c c' : va_E) : z_set (z_set h k c) k c' = z_set h k c' := by
  refine z_ext rfl fun j => ?_
  show (if j = k then some c' else if j = k then some c else h.2 j) = if j = k then some c' else h.2 j
  split <;> rfl
theorem z_set_self {h : z_H} {k : Nat} {c : va_E} (hc : h.2 k = some c) : z_set h k c = h := by
  refine z_ext rfl fun j => ?_
  show (if j = k then some c else h.2 j) = h.2 j
  split
  · rename_i e; rw [e, hc]
  · rfl
theorem z_set_comm (h : z_H) {k j : Nat} (c d : va_E) (hn : k ≠ j) : z_set (z_set h k c) j d = z_set (z_set h j d) k c := by
  refine z_ext rfl fun i => ?_
  show (if i = j then some d else if i = k then some c else h.2 i) = if i = k then some c else if i = j then some d else h.2 i
  by_cases e1 : i = j
  · rw [if_pos e1, if_neg (by omega), if_pos e1]
  · rw [if_neg e1, if_neg e1]
/-- a list of numbers at a (its room at a + 1): room for cap, the first n are its own -/
def z_Num (h : z_H) (a cap n : Nat) (f : Nat → Int32) : Prop := h.2 a = some (.inr (4, [.ref (a + 1), .int (nI n)])) ∧ h.2 (a + 1) = some (.inl (0, cap, .inl f)) ∧ n ≤ cap ∧ cap ≤ 1000
def z_putN (h : z_H) (a cap n : Nat) (f : Nat → Int32) : z_H := z_set (z_set h (a + 1) (.inl (0, cap, .inl f))) a (.inr (4, [.ref (a + 1), .int (nI n)]))
theorem z_putN_num {h : z_H} {a cap n : Nat} {f : Nat → Int32} (h1 : n ≤ cap) (h2 : cap ≤ 1000) : z_Num (z_putN h a cap n f) a cap n f :=
  ⟨z_set_eq _ _ _, by unfold z_putN; rw [z_set_ne _ _ (by omega)]; exact z_set_eq _ _ _, h1, h2⟩
theorem z_putN_ne {h : z_H} {a cap n k : Nat} {f : Nat → Int32} (h1 : k ≠ a) (h2 : k ≠ a + 1) : (z_putN h a cap n f).2 k = h.2 k := by
  unfold z_putN
  rw [z_set_ne _ _ h1, z_set_ne _ _ h2]
theorem z_putN_1 {h : z_H} {a cap n : Nat} {f : Nat → Int32} : (z_putN h a cap n f).1 = h.1 := rfl
theorem z_putN_put {h : z_H} {a cap n n' : Nat} {f f' : Nat → Int32} : z_putN (z_putN h a cap n f) a cap n' f' = z_putN h a cap n' f' := by
  unfold z_putN
  rw [z_set_comm _ _ _ (by omega : a ≠ a + 1), z_set_set, z_set_set]
theorem z_putN_self {h : z_H} {a cap n : Nat} {f : Nat → Int32} (hN : z_Num h a cap n f) : z_putN h a cap n f = h := by
  unfold z_putN
  rw [z_set_self hN.2.1, z_set_self hN.1]
/-- only the room's numbers change -/
theorem z_putN_arr {h : z_H} {a cap n : Nat} {f f' : Nat → Int32} (hN : z_Num h a cap n f) : z_set h (a + 1) (.inl (0, cap, .inl f')) = z_putN h a cap n f' := by
  unfold z_putN
  exact (z_set_self (h := z_set h (a + 1) (.inl (0, cap, .inl f'))) (by rw [z_set_ne _ _ (by omega)]; exact hN.1)).symm
theorem z_putN_siz {h : z_H} {a cap n n' : Nat} {f : Nat → Int32} (hN : z_Num h a cap n f) : z_set h a (.inr (4, [.ref (a + 1), .int (nI n')])) = z_putN h a cap n' f := by
  unfold z_putN
  rw [z_set_self hN.2.1]
theorem z_Num.kept {h h' : z_H} {a cap n : Nat} {f : Nat → Int32} (hN : z_Num h a cap n f) (h1 : h'.2 a = h.2 a) (h2 : h'.2 (a + 1) = h.2 (a + 1)) : z_Num h' a cap n f := ⟨h1.trans hN.1, h2.trans hN.2.1, hN.2.2⟩
def z_has (q : Int32) (n : Nat) : Bool := decide (0 ≤ q.toInt ∧ q.toInt < n)
def z_ix (q : Int32) : Nat := q.toInt.toNat
def z_atV (f : Nat → Int32) (n : Nat) (q : Int32) : Int32 := if z_has q n then f (z_ix q) else 0
theorem z_hasI {q : Int32} {n : Nat} (h : z_has q n = true) : vp_in q n ∧ q.toNatClampNeg = z_ix q ∧ z_ix q < n ∧ q.toInt = z_ix q := by
  unfold z_has at h
  have h := of_decide_eq_true h
  refine ⟨vp_in_iff.mpr h, rfl, ?_, ?_⟩ <;> (unfold z_ix; omega)
theorem z_has_nI {j n : Nat} (hj : j < 2 ^ 31) : z_has (nI j) n = decide (j < n) := by
  unfold z_has
  rw [nI_toInt hj]
  simp
theorem z_ix_nI {j : Nat} (hj : j < 2 ^ 31) : z_ix (nI j) = j := by
  unfold z_ix
  rw [nI_toInt hj]
  simp
theorem z_atV_nI {f : Nat → Int32} {n j : Nat} (hj : j < 2 ^ 31) : z_atV f n (nI j) = if j < n then f j else 0 := by
  unfold z_atV
  rw [z_has_nI hj, z_ix_nI hj]
  simp
theorem vp_in.mono {i : Int32} {n m : Nat} (h : vp_in i n) (hm : n ≤ m) : vp_in i m := fun q => h (q.imp id fun q => Nat.le_trans hm q)
section ZNum
variable {G : z_G} {h : z_H} {Q : z_O → z_H → Prop} {a cap n : Nat} {f : Nat → Int32}
theorem c_count (hN : z_Num h a cap n f) (q : Q (.inl (some (.int (nI n)))) h) : z_W G 0 0 0 1 0 (z_L0 1 [.ref a]) [] h Q := by
  refine z_aload_n rfl rfl ?_
  refine z_get rfl hN.1 rfl ?_
  refine z_iret rfl rfl ?_
  exact q
theorem c_has {x : Int32} (hN : z_Num h a cap n f) (q : Q (.inl (some (.int (if z_has x n then 1 else 0)))) h) : z_W G 0 0 0 2 0 (z_L0 2 [.ref a, .int x]) [] h Q := by
  have hn : (nI n).toInt = n := nI_toInt (by have := hN.2.2; omega)
  refine z_iload_n rfl rfl ?_
  refine z_if_lt rfl (fun c1 => ?_) (fun c1 => ?_)
  · refine z_iconst (v := 0) rfl (by decide) ?_
    refine z_zret (ty := .boolean) rfl rfl (by decide) ?_
    have e : z_has x n = false := by unfold z_has; rw [Int32.lt_iff_toInt_lt, Int32.toInt_zero] at c1; simp; omega
    rw [e] at q; exact q
  · refine z_iload_n rfl rfl ?_
    refine z_aload_n rfl rfl ?_
    refine z_get rfl hN.1 rfl ?_
    refine z_icmp_ge rfl (fun c2 => ?_) (fun c2 => ?_)
    · refine z_iconst (v := 0) rfl (by decide) ?_
      refine z_zret (ty := .boolean) rfl rfl (by decide) ?_
      have e : z_has x n = false := by unfold z_has; rw [Int32.le_iff_toInt_le, hn] at c2; simp; omega
      rw [e] at q; exact q
    · refine z_iconst (v := 1) rfl (by decide) ?_
      refine z_goto rfl ?_
      refine z_zret (ty := .boolean) rfl rfl (by decide) ?_
      have e : z_has x n = true := by unfold z_has; rw [Int32.lt_iff_toInt_lt, Int32.toInt_zero] at c1; rw [Int32.le_iff_toInt_le, hn] at c2; simp; omega
      rw [e] at q; exact q
theorem z_bI (b : Bool) : ((if b = true then (1 : Int32) else 0) = 0) ↔ b = false := by cases b <;> decide
theorem c_at {x : Int32} (hN : z_Num h a cap n f) (q : Q (.inl (some (.int (z_atV f n x)))) h) : z_W G 1 0 0 3 0 (z_L0 3 [.ref a, .int x]) [] h Q := by
  refine z_aload_n rfl rfl ?_
  refine z_iload_n rfl rfl ?_
  refine z_callV (av := [_]) rfl z_w2 hN.1 rfl rfl rfl rfl rfl (Nat.le_of_ble_eq_true rfl) (Nat.le_of_ble_eq_true rfl) (Nat.le_of_ble_eq_true rfl) (Nat.le_of_ble_eq_true rfl) (c_has hN ?_)
  refine z_if_eq rfl (fun c1 => ?_) (fun c1 => ?_)
  · refine z_iconst (v := 0) rfl (by decide) ?_
    refine z_iret rfl rfl ?_
    have e : z_atV f n x = 0 := by unfold z_atV; rw [(z_bI _).mp c1]; rfl
    rw [e] at q; exact q
  · refine z_aload_n rfl rfl ?_
    refine z_get rfl hN.1 rfl ?_
    refine z_iload_n rfl rfl ?_
    have hb : z_has x n = true := by simpa [z_bI] using c1
    have hi := (z_hasI hb).1
    refine z_iald rfl hN.2.1 (hi.mono hN.2.2.1) ?_
    refine z_goto rfl ?_
    refine z_iret rfl rfl ?_
    have e : z_atV f n x = f x.toNatClampNeg := by unfold z_atV; rw [hb, (z_hasI hb).2.1]; rfl
    rw [e] at q; exact q
theorem c_put {x v : Int32} (hN : z_Num h a cap n f) (q : Q (.inl none) (if z_has x n = true then z_putN h a cap n (upd f (z_ix x) v) else h)) : z_W G 1 0 0 4 0 (z_L0 4 [.ref a, .int x, .int v]) [] h Q := by
  refine z_aload_n rfl rfl ?_
  refine z_iload_n rfl rfl ?_
  refine z_callV (av := [_]) rfl z_w2 hN.1 rfl rfl rfl rfl rfl (Nat.le_of_ble_eq_true rfl) (Nat.le_of_ble_eq_true rfl) (Nat.le_of_ble_eq_true rfl) (Nat.le_of_ble_eq_true rfl) (c_has hN ?_)
  refine z_if_eq rfl (fun c1 => ?_) (fun c1 => ?_)
  · refine z_vret rfl rfl ?_
    rw [(z_bI _).mp c1] at q; exact q
  · refine z_aload_n rfl rfl ?_
    refine z_get rfl hN.1 rfl ?_
    refine z_iload_n rfl rfl ?_
    refine z_iload_n rfl rfl ?_
    have hb : z_has x n = true := by simpa [z_bI] using c1
    have hi := (z_hasI hb).1
    refine z_iast rfl hN.2.1 (hi.mono hN.2.2.1) ?_
    refine z_vret rfl rfl ?_
    rw [if_pos hb, ← (z_hasI hb).2.1, ← z_putN_arr hN] at q; exact q
theorem c_addTo {x v : Int32} (hN : z_Num h a cap n f) (q : Q (.inl none) (if z_has x n = true then z_putN h a cap n (upd f (z_ix x) (z_atV f n x + v)) else h)) : z_W G 2 0 0 5 0 (z_L0 5 [.ref a, .int x, .int v]) [] h Q := by
  refine z_aload_n rfl rfl ?_
  refine z_iload_n rfl rfl ?_
  refine z_aload_n rfl rfl ?_
  refine z_iload_n rfl rfl ?_
  refine z_callV (av := [_]) rfl z_w3 hN.1 rfl rfl rfl rfl rfl (Nat.le_of_ble_eq_true rfl) (Nat.le_of_ble_eq_true rfl) (Nat.le_of_ble_eq_true rfl) (Nat.le_of_ble_eq_true rfl) (c_at hN ?_)
  refine z_iload_n rfl rfl ?_
  refine z_iadd rfl ?_
  refine z_callV (av := [_, _]) rfl z_w4 hN.1 rfl rfl rfl rfl rfl (Nat.le_of_ble_eq_true rfl) (Nat.le_of_ble_eq_true rfl) (Nat.le_of_ble_eq_true rfl) (Nat.le_of_ble_eq_true rfl) (c_put hN ?_)
  refine z_vret rfl rfl ?_
  exact q
def z_first (P : Nat → Bool) : Nat → Nat → Option Nat
  | 0, _ => none
  | k + 1, i => if P i then some i else z_first P k (i + 1)
/-- the first place of x, -1 for none -/
def z_plc (f : Nat → Int32) (n : Nat) (x : Int32) : Int32 := match z_first (fun i => decide (f i = x)) n 0 with
  | some i => nI i
  | none => -1
def z_cnt (P : Nat → Bool) : Nat → Nat
  | 0 => 0
  | n + 1 => z_cnt P n + if P n then 1 else 0
def z_sum (f : Nat → Int32) : Nat → Int32
  | 0 => 0
  | n + 1 => z_sum f n + f n
theorem z_cnt_le (P : Nat → Bool) (n : Nat) : z_cnt P n ≤ n := by
  induction n with
  | zero => exact Nat.le_refl _
  | succ n ih =>
    show z_cnt P n + (if P n then 1 else 0) ≤ n + 1
    split <;> omega
theorem c_placeOf {x : Int32} (hN : z_Num h a cap n f) (q : Q (.inl (some (.int (z_plc f n x)))) h) : z_W G 0 0 0 10 0 (z_L0 10 [.ref a, .int x]) [] h Q := by
  have hn1 := hN.2.2.1
  have hn2 := hN.2.2.2
  have loop : ∀ (k i : Nat), i + k = n → z_first (fun i => decide (f i = x)) n 0 = z_first (fun i => decide (f i = x)) k i → z_W G 0 0 0 10 2 [.ref a, .int x, .int (nI i)] [] h Q := by
    intro k
    induction k with
    | zero =>
      intro i hi he
      refine z_iload_n rfl rfl ?_
      refine z_aload_n rfl rfl ?_
      refine z_get rfl hN.1 rfl ?_
      refine z_icmp_ge rfl (fun c7 => ?_) (fun c7 => absurd (show nI n ≤ nI i from (nI_leI (by omega) (by omega)).mpr (by omega)) c7)
      refine z_iconst (v := (-1)) rfl (by decide) ?_
      refine z_iret rfl rfl ?_
      unfold z_plc at q; rw [he] at q; exact q
    | succ k ih =>
      intro i hi he
      refine z_iload_n rfl rfl ?_
      refine z_aload_n rfl rfl ?_
      refine z_get rfl hN.1 rfl ?_
      refine z_icmp_ge rfl (fun c7 => absurd c7 (show ¬ nI n ≤ nI i from fun q9 => absurd ((nI_leI (by omega) (by omega)).mp q9) (by omega))) (fun c7 => ?_)
      refine z_aload_n rfl rfl ?_
      refine z_get rfl hN.1 rfl ?_
      refine z_iload_n rfl rfl ?_
      refine z_iald rfl hN.2.1 (vp_in_nI (by omega) (by omega)) ?_
      rw [nI_clamp (by omega)]
      refine z_iload_n rfl rfl ?_
      refine z_icmp_ne rfl (fun c1 => ?_) (fun c1 => ?_)
      · refine z_iinc1 rfl rfl (by decide +kernel) rfl ?_
        refine z_goto rfl (ih (i + 1) (by omega) (he.trans ?_))
        conv => lhs; unfold z_first
        rw [if_neg (by simpa using c1)]
      · refine z_iload_n rfl rfl ?_
        refine z_iret rfl rfl ?_
        unfold z_plc at q; rw [he] at q; unfold z_first at q; rw [if_pos (by simpa using c1)] at q; exact q
  refine z_iconst (v := nI 0) rfl (by decide) ?_
  refine z_istore_n rfl (by decide +kernel) rfl ?_
  exact loop n 0 (by omega) rfl
theorem c_countOf {x : Int32} (hN : z_Num h a cap n f) (q : Q (.inl (some (.int (nI (z_cnt (fun i => decide (f i = x)) n))))) h) : z_W G 0 0 0 11 0 (z_L0 11 [.ref a, .int x]) [] h Q := by
  have hn1 := hN.2.2.1
  have hn2 := hN.2.2.2
  have loop : ∀ (k i : Nat), i + k = n → z_W G 0 0 0 11 4 [.ref a, .int x, .int (nI (z_cnt (fun i => decide (f i = x)) i)), .int (nI i)] [] h Q := by
    intro k
    induction k with
    | zero =>
      intro i hi
      refine z_iload_n rfl rfl ?_
      refine z_aload_n rfl rfl ?_
      refine z_get rfl hN.1 rfl ?_
      refine z_icmp_ge rfl (fun c9 => ?_) (fun c9 => absurd (show nI n ≤ nI i from (nI_leI (by omega) (by omega)).mpr (by omega)) c9)
      refine z_iload_n rfl rfl ?_
      refine z_iret rfl rfl ?_
      rw [show n = i by omega] at q; exact q
    | succ k ih =>
      intro i hi
      have hw := ih (i + 1) (by omega)
      refine z_iload_n rfl rfl ?_
      refine z_aload_n rfl rfl ?_
      refine z_get rfl hN.1 rfl ?_
      refine z_icmp_ge rfl (fun c9 => absurd c9 (show ¬ nI n ≤ nI i from fun q9 => absurd ((nI_leI (by omega) (by omega)).mp q9) (by omega))) (fun c9 => ?_)
      refine z_aload_n rfl rfl ?_
      refine z_get rfl hN.1 rfl ?_
      refine z_iload_n rfl rfl ?_
      refine z_iald rfl hN.2.1 (vp_in_nI (by omega) (by omega)) ?_
      rw [nI_clamp (by omega)]
      refine z_iload_n rfl rfl ?_
      refine z_icmp_ne rfl (fun c1 => ?_) (fun c1 => ?_)
      · refine z_iinc1 rfl rfl (by decide +kernel) rfl ?_
        refine z_goto rfl ?_
        rw [show z_cnt (fun i => decide (f i = x)) (i + 1) = z_cnt (fun i => decide (f i = x)) i from by show _ + (if _ then _ else _) = _; rw [if_neg (by simpa using c1)]; rfl] at hw
        exact hw
      · refine z_iinc1 rfl rfl (by decide +kernel) rfl ?_
        refine z_iinc1 rfl rfl (by decide +kernel) rfl ?_
        refine z_goto rfl ?_
        rw [show z_cnt (fun i => decide (f i = x)) (i + 1) = z_cnt (fun i => decide (f i = x)) i + 1 from by show _ + (if _ then _ else _) = _; rw [if_pos (by simpa using c1)]] at hw
        exact hw
  refine z_iconst (v := nI 0) rfl (by decide) ?_
  refine z_istore_n rfl (by decide +kernel) rfl ?_
  refine z_iconst (v := nI 0) rfl (by decide) ?_
  refine z_istore_n rfl (by decide +kernel) rfl ?_
  exact loop n 0 (by omega)
theorem c_sum (hN : z_Num h a cap n f) (q : Q (.inl (some (.int (z_sum f n)))) h) : z_W G 0 0 0 12 0 (z_L0 12 [.ref a]) [] h Q := by
  have hn1 := hN.2.2.1
  have hn2 := hN.2.2.2
  have loop : ∀ (k i : Nat), i + k = n → z_W G 0 0 0 12 4 [.ref a, .int (z_sum f i), .int (nI i)] [] h Q := by
    intro k
    induction k with
    | zero =>
      intro i hi
      refine z_iload_n rfl rfl ?_
      refine z_aload_n rfl rfl ?_
      refine z_get rfl hN.1 rfl ?_
      refine z_icmp_ge rfl (fun c9 => ?_) (fun c9 => absurd (show nI n ≤ nI i from (nI_leI (by omega) (by omega)).mpr (by omega)) c9)
      refine z_iload_n rfl rfl ?_
      refine z_iret rfl rfl ?_
      rw [show n = i by omega] at q; exact q
    | succ k ih =>
      intro i hi
      refine z_iload_n rfl rfl ?_
      refine z_aload_n rfl rfl ?_
      refine z_get rfl hN.1 rfl ?_
      refine z_icmp_ge rfl (fun c9 => absurd c9 (show ¬ nI n ≤ nI i from fun q9 => absurd ((nI_leI (by omega) (by omega)).mp q9) (by omega))) (fun c9 => ?_)
      refine z_iload_n rfl rfl ?_
      refine z_aload_n rfl rfl ?_
      refine z_get rfl hN.1 rfl ?_
      refine z_iload_n rfl rfl ?_
      refine z_iald rfl hN.2.1 (vp_in_nI (by omega) (by omega)) ?_
      rw [nI_clamp (by omega)]
      refine z_iadd rfl ?_
      refine z_istore_n rfl (by decide +kernel) rfl ?_
      refine z_iinc1 rfl rfl (by decide +kernel) rfl ?_
      exact z_goto rfl (ih (i + 1) (by omega))
  refine z_iconst (v := 0) rfl (by decide) ?_
  refine z_istore_n rfl (by decide +kernel) rfl ?_
  refine z_iconst (v := nI 0) rfl (by decide) ?_
  refine z_istore_n rfl (by decide +kernel) rfl ?_
  exact loop n 0 (by omega)
end ZNum
end
section
/-! java.lang.Math, Integer.bitCount's kin: ints alone. -/
section ZMa
variable {G : z_G} {h : z_H} {Q : z_O → z_H → Prop}
theorem c_max {x y : Int32} (q : Q (.inl (some (.int (if x < y then y else x)))) h) : z_W G 0 0 0 319 0 (z_L0 319 [.int x, .int y]) [] h Q := by
  refine z_iload_n rfl rfl ?_
  refine z_iload_n rfl rfl ?_
  refine z_icmp_lt rfl (fun c1 => ?_) (fun c1 => ?_)
  · refine z_iload_n rfl rfl ?_
    refine z_iret rfl rfl ?_
    rw [if_pos (by simpa using c1)] at q; exact q
  · refine z_iload_n rfl rfl ?_
    refine z_goto rfl ?_
    refine z_iret rfl rfl ?_
    rw [if_neg (by simpa using c1)] at q; exact q
theorem c_min {x y : Int32} (q : Q (.inl (some (.int (if y < x then y else x)))) h) : z_W G 0 0 0 318 0 (z_L0 318 [.int x, .int y]) [] h Q := by
  refine z_iload_n rfl rfl ?_
  refine z_iload_n rfl rfl ?_
  refine z_icmp_gt rfl (fun c1 => ?_) (fun c1 => ?_)
  · refine z_iload_n rfl rfl ?_
    refine z_iret rfl rfl ?_
    rw [if_pos (by simpa using c1)] at q; exact q
  · refine z_iload_n rfl rfl ?_
    refine z_goto rfl ?_
    refine z_iret rfl rfl ?_
    rw [if_neg (by simpa using c1)] at q; exact q
theorem c_abs {x : Int32} (q : Q (.inl (some (.int (if x < 0 then -x else x)))) h) : z_W G 0 0 0 320 0 (z_L0 320 [.int x]) [] h Q := by
  refine z_iload_n rfl rfl ?_
  refine z_if_ge rfl (fun c1 => ?_) (fun c1 => ?_)
  · refine z_iload_n rfl rfl ?_
    refine z_iret rfl rfl ?_
    rw [if_neg (by simpa using c1)] at q; exact q
  · refine z_iload_n rfl rfl ?_
    refine z_ineg rfl ?_
    refine z_goto rfl ?_
    refine z_iret rfl rfl ?_
    rw [if_pos (by simpa using c1)] at q; exact q
theorem c_floorMod8 {a : Nat} (ha : a < 16) (q : Q (.inl (some (.int (nI (a % 8))))) h) : z_W G 0 0 0 321 0 (z_L0 321 [.int (nI a), .int 8]) [] h Q := by
  have key : ∀ a, a < 16 → 0 ≤ (nI a ^^^ 8) ∧ nI a - nI a / 8 * 8 = nI (a % 8) := by decide +kernel
  obtain ⟨k1, k2⟩ := key a ha
  refine z_iload_n rfl rfl ?_
  refine z_iload_n rfl rfl ?_
  refine z_irem rfl (by decide) ?_
  rw [k2]
  refine z_istore_n rfl (by decide +kernel) rfl ?_
  refine z_iload_n rfl rfl ?_
  refine z_iload_n rfl rfl ?_
  refine z_ixor rfl ?_
  refine z_if_ge rfl (fun c7 => ?_) (fun c7 => absurd k1 c7)
  refine z_iload_n rfl rfl ?_
  refine z_iret rfl rfl ?_
  exact q
end ZMa
end
section
/-! ClockParliament$Numbers: what writes. -/
section ZNum2
variable {G : z_G} {h : z_H} {Q : z_O → z_H → Prop} {a cap n : Nat} {f : Nat → Int32}
def z_insF (f : Nat → Int32) (n p : Nat) (x : Int32) : Nat → Int32 := fun j => if j = p then x else if p < j ∧ j ≤ n then f (j - 1) else f j
theorem c_insert {p : Nat} {x : Int32} (hN : z_Num h a cap n f) (hp : p ≤ n) (hc : n < cap) (q : Q (.inl none) (z_putN h a cap (n + 1) (z_insF f n p x))) : z_W G 0 0 0 6 0 (z_L0 6 [.ref a, .int (nI p), .int x]) [] h Q := by
  have hn1 := hN.2.2.1
  have hn2 := hN.2.2.2
  have loop : ∀ (k : Nat) (g : Nat → Int32), p + k ≤ n → (∀ j, g j = if p + k < j ∧ j ≤ n then f (j - 1) else f j) → z_W G 0 0 0 6 30 [.ref a, .int (nI p), .int x, .int (nI (p + k))] [] (z_putN h a cap n g) Q := by
    intro k
    induction k with
    | zero =>
      intro g hk hg
      have hM := z_putN_num (h := h) (a := a) (f := g) hn1 hn2
      refine z_iload_n rfl rfl ?_
      refine z_iload_n rfl rfl ?_
      refine z_icmp_le rfl (fun c32 => ?_) (fun c32 => absurd (show nI (p + 0) ≤ nI p from (nI_leI (by omega) (by omega)).mpr (by omega)) c32)
      refine z_aload_n rfl rfl ?_
      refine z_get rfl hM.1 rfl ?_
      refine z_iload_n rfl rfl ?_
      refine z_iload_n rfl rfl ?_
      refine z_iast rfl hM.2.1 (vp_in_nI (by omega) (by omega)) ?_
      rw [z_putN_arr hM, z_putN_put, nI_clamp (by omega)]
      have hM2 := z_putN_num (h := h) (a := a) (f := upd g p x) hn1 hn2
      refine z_aload_n rfl rfl ?_
      refine z_dup rfl rfl ?_
      refine z_get rfl hM2.1 rfl ?_
      refine z_iconst (v := 1) rfl (by decide) ?_
      refine z_iadd rfl ?_
      rw [nI_1]
      refine z_put rfl hM2.1 (by simp) rfl rfl rfl ?_
      simp only [List.set]
      rw [z_putN_siz hM2, z_putN_put]
      refine z_vret rfl rfl ?_
      have e : upd g p x = z_insF f n p x := by
        funext j
        unfold upd z_insF
        split
        · rfl
        · rw [hg j]; simp only [Nat.add_zero]
      rw [e]; exact q
    | succ k ih =>
      intro g hk hg
      have hM := z_putN_num (h := h) (a := a) (f := g) hn1 hn2
      have es : nI (p + (k + 1)) - 1 = nI (p + k) := nI_pred (p + k)
      refine z_iload_n rfl rfl ?_
      refine z_iload_n rfl rfl ?_
      refine z_icmp_le rfl (fun c32 => absurd c32 (show ¬ nI (p + (k + 1)) ≤ nI p from fun q9 => absurd ((nI_leI (by omega) (by omega)).mp q9) (by omega))) (fun c32 => ?_)
      refine z_aload_n rfl rfl ?_
      refine z_get rfl hM.1 rfl ?_
      refine z_iload_n rfl rfl ?_
      refine z_aload_n rfl rfl ?_
      refine z_get rfl hM.1 rfl ?_
      refine z_iload_n rfl rfl ?_
      refine z_iconst (v := 1) rfl (by decide) ?_
      refine z_isub rfl ?_
      rw [es]
      refine z_iald rfl hM.2.1 (vp_in_nI (by omega) (by omega)) ?_
      refine z_iast rfl hM.2.1 (vp_in_nI (by omega) (by omega)) ?_
      rw [z_putN_arr hM, z_putN_put, nI_clamp (by omega), nI_clamp (by omega)]
      refine z_iinc rfl rfl (by decide +kernel) rfl ?_
      rw [show nI (p + (k + 1)) + Int32.ofInt (-1) = nI (p + k) from pk_m1 (p + k)]
      refine z_goto rfl (ih _ (by omega) (fun j => ?_))
      unfold upd
      by_cases ej : j = p + (k + 1)
      · subst ej
        rw [if_pos rfl, if_pos (by omega), hg, if_neg (by omega)]
        rfl
      · rw [if_neg ej, hg j]
        by_cases e2 : p + (k + 1) < j ∧ j ≤ n
        · rw [if_pos e2, if_pos (by omega)]
        · rw [if_neg e2, if_neg (by omega)]
  refine z_iload_n rfl rfl ?_
  refine z_if_lt rfl (fun c1 => absurd c1 (nI_pos (by omega))) (fun c1 => ?_)
  refine z_iload_n rfl rfl ?_
  refine z_aload_n rfl rfl ?_
  refine z_get rfl hN.1 rfl ?_
  refine z_icmp_gt rfl (fun c9 => absurd c9 (show ¬ nI n < nI p from nI_nlt hp (by omega))) (fun c9 => ?_)
  refine z_aload_n rfl rfl ?_
  refine z_get rfl hN.1 rfl ?_
  refine z_aload_n rfl rfl ?_
  refine z_get rfl hN.1 rfl ?_
  refine z_alen rfl hN.2.1 (by decide) ?_
  refine z_icmp_lt rfl (fun c21 => ?_) (fun c21 => absurd (show nI n < nI cap from nI_lt hc (by omega)) c21)
  refine z_aload_n rfl rfl ?_
  refine z_get rfl hN.1 rfl ?_
  refine z_istore_n rfl (by decide +kernel) rfl ?_
  have w := loop (n - p) f (by omega) (fun j => by rw [if_neg (by omega)])
  rw [show p + (n - p) = n by omega, z_putN_self hN] at w
  exact w
theorem c_add {x : Int32} (hN : z_Num h a cap n f) (hc : n < cap) (q : Q (.inl none) (z_putN h a cap (n + 1) (z_insF f n n x))) : z_W G 1 0 0 7 0 (z_L0 7 [.ref a, .int x]) [] h Q := by
  refine z_aload_n rfl rfl ?_
  refine z_aload_n rfl rfl ?_
  refine z_get rfl hN.1 rfl ?_
  refine z_iload_n rfl rfl ?_
  refine z_callV (av := [_, _]) rfl z_w6 hN.1 rfl rfl rfl rfl rfl (Nat.le_of_ble_eq_true rfl) (Nat.le_of_ble_eq_true rfl) (Nat.le_of_ble_eq_true rfl) (Nat.le_of_ble_eq_true rfl) (c_insert hN (Nat.le_refl _) hc ?_)
  refine z_vret rfl rfl ?_
  exact q
def z_remF (f : Nat → Int32) (n p : Nat) : Nat → Int32 := fun j => if p ≤ j ∧ j + 1 < n then f (j + 1) else f j
theorem c_removeAtL {p : Nat} (hN : z_Num h a cap n f) (hp : p < n) (q : Q (.inl none) (z_putN h a cap (n - 1) (z_remF f n p))) : z_W G 1 0 0 8 9 [.ref a, .int (nI p), .retAddr 0] [] h Q := by
  have hn1 := hN.2.2.1
  have hn2 := hN.2.2.2
  have loop : ∀ (k i : Nat) (g : Nat → Int32), i + k + 1 = n → p ≤ i → (∀ j, g j = if p ≤ j ∧ j < i then f (j + 1) else f j) → z_W G 1 0 0 8 11 [.ref a, .int (nI p), .int (nI i)] [] (z_putN h a cap n g) Q := by
    intro k
    induction k with
    | zero =>
      intro i g hk hpi hg
      have hM := z_putN_num (h := h) (a := a) (f := g) hn1 hn2
      refine z_iload_n rfl rfl ?_
      refine z_iconst (v := 1) rfl (by decide) ?_
      refine z_iadd rfl ?_
      refine z_aload_n rfl rfl ?_
      refine z_get rfl hM.1 rfl ?_
      rw [nI_1]
      refine z_icmp_ge rfl (fun c18 => ?_) (fun c18 => absurd (show nI n ≤ nI (i + 1) from (nI_leI (by omega) (by omega)).mpr (by omega)) c18)
      refine z_aload_n rfl rfl ?_
      refine z_dup rfl rfl ?_
      refine z_get rfl hM.1 rfl ?_
      refine z_iconst (v := 1) rfl (by decide) ?_
      refine z_isub rfl ?_
      rw [show nI n - 1 = nI (n - 1) from pk_sub (b := 1) (by omega)]
      refine z_put rfl hM.1 (by simp) rfl rfl rfl ?_
      simp only [List.set]
      rw [z_putN_siz hM, z_putN_put]
      refine z_vret rfl rfl ?_
      have e : g = z_remF f n p := by
        funext j
        unfold z_remF
        rw [hg j]
        by_cases e2 : p ≤ j ∧ j < i
        · rw [if_pos e2, if_pos (by omega)]
        · rw [if_neg e2, if_neg (by omega)]
      rw [e]; exact q
    | succ k ih =>
      intro i g hk hpi hg
      have hM := z_putN_num (h := h) (a := a) (f := g) hn1 hn2
      refine z_iload_n rfl rfl ?_
      refine z_iconst (v := 1) rfl (by decide) ?_
      refine z_iadd rfl ?_
      refine z_aload_n rfl rfl ?_
      refine z_get rfl hM.1 rfl ?_
      rw [nI_1]
      refine z_icmp_ge rfl (fun c18 => absurd c18 (show ¬ nI n ≤ nI (i + 1) from fun q9 => absurd ((nI_leI (by omega) (by omega)).mp q9) (by omega))) (fun c18 => ?_)
      refine z_aload_n rfl rfl ?_
      refine z_get rfl hM.1 rfl ?_
      refine z_iload_n rfl rfl ?_
      refine z_aload_n rfl rfl ?_
      refine z_get rfl hM.1 rfl ?_
      refine z_iload_n rfl rfl ?_
      refine z_iconst (v := 1) rfl (by decide) ?_
      refine z_iadd rfl ?_
      rw [nI_1]
      refine z_iald rfl hM.2.1 (vp_in_nI (by omega) (by omega)) ?_
      refine z_iast rfl hM.2.1 (vp_in_nI (by omega) (by omega)) ?_
      rw [z_putN_arr hM, z_putN_put, nI_clamp (by omega), nI_clamp (by omega)]
      refine z_iinc1 rfl rfl (by decide +kernel) rfl ?_
      refine z_goto rfl (ih (i + 1) _ (by omega) (by omega) (fun j => ?_))
      unfold upd
      by_cases ej : j = i
      · subst ej
        rw [if_pos rfl, if_pos (by omega), hg, if_neg (by omega)]
      · rw [if_neg ej, hg j]
        by_cases e2 : p ≤ j ∧ j < i
        · rw [if_pos e2, if_pos (by omega)]
        · rw [if_neg e2, if_neg (by omega)]
  refine z_iload_n rfl rfl ?_
  refine z_istore_n rfl (by decide +kernel) rfl ?_
  have w := loop (n - 1 - p) p f (by omega) (Nat.le_refl _) (fun j => by rw [if_neg (by omega)])
  rw [z_putN_self hN] at w
  exact w
theorem c_removeAt {x : Int32} (hN : z_Num h a cap n f) (q : Q (.inl none) (if z_has x n = true then z_putN h a cap (n - 1) (z_remF f n (z_ix x)) else h)) : z_W G 1 0 0 8 0 (z_L0 8 [.ref a, .int x]) [] h Q := by
  have hn1 := hN.2.2.1
  have hn2 := hN.2.2.2
  refine z_aload_n rfl rfl ?_
  refine z_iload_n rfl rfl ?_
  refine z_callV (av := [_]) rfl z_w2 hN.1 rfl rfl rfl rfl rfl (Nat.le_of_ble_eq_true rfl) (Nat.le_of_ble_eq_true rfl) (Nat.le_of_ble_eq_true rfl) (Nat.le_of_ble_eq_true rfl) (c_has hN ?_)
  refine z_if_ne rfl (fun c1 => ?_) (fun c1 => ?_)
  · have hb : z_has x n = true := by simpa [z_bI] using c1
    obtain ⟨hv, -, hlt, hti⟩ := z_hasI hb
    rw [if_pos hb] at q
    have ex : x = nI (z_ix x) := Int32.toInt_inj.mp (by rw [hti, nI_toInt (by omega)])
    generalize z_ix x = p at *
    subst ex
    exact c_removeAtL hN hlt q
  · refine z_vret rfl rfl ?_
    rw [(z_bI _).mp c1] at q; exact q
/-- numbers that the list refers to: x goes (-1), later ones are one less -/
def z_forV (x v : Int32) : Int32 := if v = x then -1 else if x < v then v - 1 else v
def z_forF (f : Nat → Int32) (n : Nat) (x : Int32) : Nat → Int32 := fun j => if j < n then z_forV x (f j) else f j
theorem c_forget {x : Int32} (hN : z_Num h a cap n f) (q : Q (.inl none) (z_putN h a cap n (z_forF f n x))) : z_W G 0 0 0 9 0 (z_L0 9 [.ref a, .int x]) [] h Q := by
  have hn1 := hN.2.2.1
  have hn2 := hN.2.2.2
  have loop : ∀ (k i : Nat) (g : Nat → Int32), i + k = n → (∀ j, g j = if j < i then z_forV x (f j) else f j) → z_W G 0 0 0 9 2 [.ref a, .int x, .int (nI i)] [] (z_putN h a cap n g) Q := by
    intro k
    induction k with
    | zero =>
      intro i g hk hg
      have hM := z_putN_num (h := h) (a := a) (f := g) hn1 hn2
      refine z_iload_n rfl rfl ?_
      refine z_aload_n rfl rfl ?_
      refine z_get rfl hM.1 rfl ?_
      refine z_icmp_ge rfl (fun c7 => ?_) (fun c7 => absurd (show nI n ≤ nI i from (nI_leI (by omega) (by omega)).mpr (by omega)) c7)
      refine z_vret rfl rfl ?_
      have e : g = z_forF f n x := by
        funext j
        unfold z_forF
        rw [hg j, show i = n by omega]
      rw [e]
      exact q
    | succ k ih =>
      intro i g hk hg
      have hM := z_putN_num (h := h) (a := a) (f := g) hn1 hn2
      have hgi : g i = f i := by rw [hg, if_neg (by omega)]
      have step : ∀ v, v = z_forV x (f i) → ∀ j, upd g i v j = if j < i + 1 then z_forV x (f j) else f j := by
        intro v hv j
        unfold upd
        by_cases ej : j = i
        · subst ej
          rw [if_pos rfl, if_pos (by omega), hv]
        · rw [if_neg ej, hg j]
          by_cases e2 : j < i
          · rw [if_pos e2, if_pos (by omega)]
          · rw [if_neg e2, if_neg (by omega)]
      refine z_iload_n rfl rfl ?_
      refine z_aload_n rfl rfl ?_
      refine z_get rfl hM.1 rfl ?_
      refine z_icmp_ge rfl (fun c7 => absurd c7 (show ¬ nI n ≤ nI i from fun q9 => absurd ((nI_leI (by omega) (by omega)).mp q9) (by omega))) (fun c7 => ?_)
      refine z_aload_n rfl rfl ?_
      refine z_get rfl hM.1 rfl ?_
      refine z_iload_n rfl rfl ?_
      refine z_iald rfl hM.2.1 (vp_in_nI (by omega) (by omega)) ?_
      rw [nI_clamp (by omega), hgi]
      refine z_iload_n rfl rfl ?_
      refine z_icmp_ne rfl (fun c1 => ?_) (fun c1 => ?_)
      · refine z_aload_n rfl rfl ?_
        refine z_get rfl hM.1 rfl ?_
        refine z_iload_n rfl rfl ?_
        refine z_iald rfl hM.2.1 (vp_in_nI (by omega) (by omega)) ?_
        rw [nI_clamp (by omega), hgi]
        refine z_iload_n rfl rfl ?_
        refine z_icmp_le rfl (fun c2 => ?_) (fun c2 => ?_)
        · refine z_iinc1 rfl rfl (by decide +kernel) rfl ?_
          have w := ih (i + 1) (upd g i (f i)) (by omega) (step _ (by unfold z_forV; rw [if_neg (by simpa using c1), if_neg (by rw [Int32.not_lt]; simpa using c2)]))
          rw [show upd g i (f i) = g from by funext j; unfold upd; split; rename_i e; rw [e, hgi]; rfl] at w
          exact z_goto rfl w
        · refine z_aload_n rfl rfl ?_
          refine z_get rfl hM.1 rfl ?_
          refine z_iload_n rfl rfl ?_
          refine z_dup2 rfl rfl rfl ?_
          refine z_iald rfl hM.2.1 (vp_in_nI (by omega) (by omega)) ?_
          rw [nI_clamp (by omega), hgi]
          refine z_iconst (v := 1) rfl (by decide) ?_
          refine z_isub rfl ?_
          refine z_iast rfl hM.2.1 (vp_in_nI (by omega) (by omega)) ?_
          rw [z_putN_arr hM, z_putN_put, nI_clamp (by omega)]
          refine z_iinc1 rfl rfl (by decide +kernel) rfl ?_
          exact z_goto rfl (ih (i + 1) _ (by omega) (step _ (by unfold z_forV; rw [if_neg (by simpa using c1), if_pos (by rw [← Int32.not_le]; simpa using c2)])))
      · refine z_aload_n rfl rfl ?_
        refine z_get rfl hM.1 rfl ?_
        refine z_iload_n rfl rfl ?_
        refine z_iconst (v := (-1)) rfl (by decide) ?_
        refine z_iast rfl hM.2.1 (vp_in_nI (by omega) (by omega)) ?_
        refine z_goto rfl ?_
        rw [z_putN_arr hM, z_putN_put, nI_clamp (by omega)]
        refine z_iinc1 rfl rfl (by decide +kernel) rfl ?_
        exact z_goto rfl (ih (i + 1) _ (by omega) (step _ (by unfold z_forV; rw [if_pos (by simpa using c1)])))
  refine z_iconst (v := nI 0) rfl (by decide) ?_
  refine z_istore_n rfl (by decide +kernel) rfl ?_
  have w := loop n 0 f (by omega) (fun j => by rw [if_neg (by omega)])
  rw [z_putN_self hN] at w
  exact w
def z_copF (f g : Nat → Int32) (n : Nat) : Nat → Int32 := fun j => if j < n then g j else f j
theorem c_copyFrom {b cap2 m : Nat} {f2 : Nat → Int32} (hN : z_Num h a cap n f) (hB : z_Num h b cap2 m f2) (ha : b ≠ a ∧ b ≠ a + 1 ∧ b + 1 ≠ a ∧ b + 1 ≠ a + 1) (hm : m ≤ cap) (q : Q (.inl none) (z_putN h a cap m (z_copF f f2 m))) : z_W G 0 0 0 13 0 (z_L0 13 [.ref a, .ref b]) [] h Q := by
  have hn2 := hN.2.2.2
  have loop : ∀ (k i : Nat) (g : Nat → Int32), i + k = m → (∀ j, g j = if j < i then f2 j else f j) → z_W G 0 0 0 13 7 [.ref a, .ref b, .int (nI i)] [] (z_putN h a cap i g) Q := by
    intro k
    induction k with
    | zero =>
      intro i g hk hg
      have hM := z_putN_num (h := h) (a := a) (n := i) (f := g) (by omega) hn2
      have hC : z_Num (z_putN h a cap i g) b cap2 m f2 := hB.kept (z_putN_ne ha.1 ha.2.1) (z_putN_ne ha.2.2.1 ha.2.2.2)
      refine z_iload_n rfl rfl ?_
      refine z_aload_n rfl rfl ?_
      refine z_get rfl hC.1 rfl ?_
      refine z_icmp_ge rfl (fun c12 => ?_) (fun c12 => absurd (show nI m ≤ nI i from (nI_leI (by omega) (by have := hB.2.2; omega)).mpr (by omega)) c12)
      refine z_vret rfl rfl ?_
      have e : g = z_copF f f2 m := by
        funext j
        unfold z_copF
        rw [hg j, show i = m by omega]
      rw [e, show i = m by omega]; exact q
    | succ k ih =>
      intro i g hk hg
      have hM := z_putN_num (h := h) (a := a) (n := i) (f := g) (by omega) hn2
      have hC : z_Num (z_putN h a cap i g) b cap2 m f2 := hB.kept (z_putN_ne ha.1 ha.2.1) (z_putN_ne ha.2.2.1 ha.2.2.2)
      have hb2 := hB.2.2
      refine z_iload_n rfl rfl ?_
      refine z_aload_n rfl rfl ?_
      refine z_get rfl hC.1 rfl ?_
      refine z_icmp_ge rfl (fun c12 => absurd c12 (show ¬ nI m ≤ nI i from fun q9 => absurd ((nI_leI (by omega) (by omega)).mp q9) (by omega))) (fun c12 => ?_)
      refine z_iload_n rfl rfl ?_
      refine z_aload_n rfl rfl ?_
      refine z_get rfl hM.1 rfl ?_
      refine z_alen rfl hM.2.1 (by decide) ?_
      refine z_icmp_ge rfl (fun c21 => absurd c21 (show ¬ nI cap ≤ nI i from fun q9 => absurd ((nI_leI (by omega) (by omega)).mp q9) (by omega))) (fun c21 => ?_)
      refine z_aload_n rfl rfl ?_
      refine z_get rfl hM.1 rfl ?_
      refine z_iload_n rfl rfl ?_
      refine z_aload_n rfl rfl ?_
      refine z_get rfl hC.1 rfl ?_
      refine z_iload_n rfl rfl ?_
      refine z_iald rfl hC.2.1 (vp_in_nI (by omega) (by omega)) ?_
      refine z_iast rfl hM.2.1 (vp_in_nI (by omega) (by omega)) ?_
      rw [z_putN_arr hM, z_putN_put, nI_clamp (by omega)]
      have hM2 := z_putN_num (h := h) (a := a) (n := i) (f := upd g i (f2 i)) (by omega) hn2
      refine z_aload_n rfl rfl ?_
      refine z_dup rfl rfl ?_
      refine z_get rfl hM2.1 rfl ?_
      refine z_iconst (v := 1) rfl (by decide) ?_
      refine z_iadd rfl ?_
      rw [nI_1]
      refine z_put rfl hM2.1 (by simp) rfl rfl rfl ?_
      simp only [List.set]
      rw [z_putN_siz hM2, z_putN_put]
      refine z_iinc1 rfl rfl (by decide +kernel) rfl ?_
      refine z_goto rfl (ih (i + 1) _ (by omega) (fun j => ?_))
      unfold upd
      by_cases ej : j = i
      · subst ej
        rw [if_pos rfl, if_pos (by omega)]
      · rw [if_neg ej, hg j]
        by_cases e2 : j < i
        · rw [if_pos e2, if_pos (by omega)]
        · rw [if_neg e2, if_neg (by omega)]
  refine z_aload_n rfl rfl ?_
  refine z_iconst (v := nI 0) rfl (by decide) ?_
  refine z_put rfl hN.1 (by simp) rfl rfl rfl ?_
  simp only [List.set]
  rw [z_putN_siz hN]
  refine z_iconst (v := nI 0) rfl (by decide) ?_
  refine z_istore_n rfl (by decide +kernel) rfl ?_
  exact loop m 0 f (by omega) (fun j => by rw [if_neg (by omega)])
/-- the constructor: the object just made, its room the next cell -/
theorem c_Num_init {c : Nat} (hc : c ≤ 1000) (ha : h.2 a = some (.inr (4, [.null, .int 0]))) (hl : a + 1 = 1000 + h.1) (q : ∀ h', h'.1 = h.1 + 1 → z_Num h' a c 0 (fun _ => 0) → (∀ k, k ≠ a → k ≠ a + 1 → h'.2 k = h.2 k) → Q (.inl none) h') : z_W G 1 1 c 0 0 (z_L0 0 [.ref a, .int (nI c)]) [] h Q := by
  have ea : (z_set h a (.inr (4, [.null, .int 0]))) = h := z_set_self ha
  refine z_aload_n rfl rfl ?_
  refine z_objInit rfl rfl (Nat.le_of_ble_eq_true rfl) ?_
  refine z_aload_n rfl rfl ?_
  refine z_iconst (v := 0) rfl (by decide) ?_
  refine z_put rfl ha (by simp) rfl rfl rfl ?_
  simp only [List.set]
  rw [ea]
  refine z_aload_n rfl rfl ?_
  refine z_iload_n rfl rfl ?_
  refine z_iconst (v := 0) rfl (by decide) ?_
  refine z_callS (av := [_, _]) rfl z_w319 rfl rfl rfl rfl (Nat.le_of_ble_eq_true rfl) (Nat.le_of_ble_eq_true rfl) (Nat.le_of_ble_eq_true rfl) (Nat.le_of_ble_eq_true rfl) (c_max ?_)
  rw [if_neg (nI_pos (by omega))]
  refine z_newA (mc2 := 0) (ms2 := 0) (N := c) rfl (nI_pos (by omega)) (nI_clamp (by omega)) (by omega) (by omega) (by omega) ?_
  have hnw : (z_new h (.inl (0, z_dfa 0 c))).2 a = some (.inr (4, [.null, .int 0])) := by
    show (if a = 1000 + h.1 then _ else h.2 a) = _
    rw [if_neg (by omega)]; exact ha
  refine z_putF rfl hnw (by simp) rfl rfl rfl rfl rfl ?_
  refine z_vret rfl rfl ?_
  refine q _ rfl ⟨?_, ?_, Nat.zero_le _, hc⟩ (fun k h1 h2 => ?_)
  · rw [z_set_eq, ← hl]; rfl
  · rw [z_set_ne _ _ (by omega)]
    show (if a + 1 = 1000 + h.1 then _ else h.2 (a + 1)) = _
    rw [if_pos hl]; rfl
  · rw [z_set_ne _ _ h1]
    show (if k = 1000 + h.1 then _ else h.2 k) = _
    rw [if_neg (by omega)]
end ZNum2
end
section
/-! Lists in a row of cells, by what they hold: contents count below the size alone. -/
/-- outside of m cells from a on nothing is changed -/
def z_Fr (a m : Nat) (h h' : z_H) : Prop := h'.1 = h.1 ∧ ∀ k, k < a ∨ a + m ≤ k → h'.2 k = h.2 k
theorem z_Fr.refl (a m : Nat) (h : z_H) : z_Fr a m h h := ⟨rfl, fun _ _ => rfl⟩
theorem z_Fr.trans {a m : Nat} {h h1 h2 : z_H} (x : z_Fr a m h h1) (y : z_Fr a m h1 h2) : z_Fr a m h h2 := ⟨y.1.trans x.1, fun k hk => (y.2 k hk).trans (x.2 k hk)⟩
theorem z_Fr.wide {a m b n : Nat} {h h' : z_H} (x : z_Fr a m h h') (h1 : b ≤ a) (h2 : a + m ≤ b + n) : z_Fr b n h h' := ⟨x.1, fun k hk => x.2 k (by omega)⟩
def z_Ns (h : z_H) (a cap n : Nat) (f : Nat → Int32) : Prop := h.2 a = some (.inr (4, [.ref (a + 1), .int (nI n)])) ∧ (∃ g, h.2 (a + 1) = some (.inl (0, cap, .inl g)) ∧ ∀ i, i < n → g i = f i) ∧ n ≤ cap ∧ cap ≤ 1000
theorem z_Ns.num {h : z_H} {a cap n : Nat} {f : Nat → Int32} (hN : z_Ns h a cap n f) : ∃ g, z_Num h a cap n g ∧ ∀ i, i < n → g i = f i := by
  obtain ⟨h1, ⟨g, h2, h3⟩, h4⟩ := hN
  exact ⟨g, ⟨h1, h2, h4⟩, h3⟩
theorem z_Num.ns {h : z_H} {a cap n : Nat} {g f : Nat → Int32} (hN : z_Num h a cap n g) (hf : ∀ i, i < n → g i = f i) : z_Ns h a cap n f := ⟨hN.1, ⟨g, hN.2.1, hf⟩, hN.2.2⟩
theorem z_Ns.kept {h h' : z_H} {a cap n : Nat} {f : Nat → Int32} (hN : z_Ns h a cap n f) (h1 : h'.2 a = h.2 a) (h2 : h'.2 (a + 1) = h.2 (a + 1)) : z_Ns h' a cap n f := by
  obtain ⟨g, a1, a2⟩ := hN.num
  exact (a1.kept h1 h2).ns a2
theorem z_Ns.fits {h : z_H} {a cap n : Nat} {f : Nat → Int32} (hN : z_Ns h a cap n f) : n ≤ cap ∧ cap ≤ 1000 := hN.2.2
def z_updV (f : Nat → Int32) (n : Nat) (p v : Int32) : Nat → Int32 := if z_has p n = true then upd f (z_ix p) v else f
theorem z_atV_c {f g : Nat → Int32} {n : Nat} (hf : ∀ i, i < n → g i = f i) (q : Int32) : z_atV g n q = z_atV f n q := by
  unfold z_atV
  split
  · rename_i hb
    exact hf _ (z_hasI hb).2.2.1
  · rfl
theorem z_first_c {P P' : Nat → Bool} {m : Nat} : ∀ k i, i + k ≤ m → (∀ j, j < m → P j = P' j) → z_first P k i = z_first P' k i := by
  intro k
  induction k with
  | zero => intro i _ _; rfl
  | succ k ih =>
    intro i hi hP
    unfold z_first
    rw [hP i (by omega), ih (i + 1) (by omega) hP]
theorem z_plc_c {f g : Nat → Int32} {n : Nat} (hf : ∀ i, i < n → g i = f i) (x : Int32) : z_plc g n x = z_plc f n x := by
  unfold z_plc
  rw [z_first_c (m := n) (P' := fun i => decide (f i = x)) n 0 (by omega) (fun j hj => by rw [hf j hj])]
theorem z_cnt_c {P P' : Nat → Bool} : ∀ n, (∀ j, j < n → P j = P' j) → z_cnt P n = z_cnt P' n := by
  intro n
  induction n with
  | zero => intro _; rfl
  | succ n ih =>
    intro hP
    unfold z_cnt
    rw [hP n (by omega), ih (fun j hj => hP j (by omega))]
theorem z_sum_c {f g : Nat → Int32} : ∀ n, (∀ i, i < n → g i = f i) → z_sum g n = z_sum f n := by
  intro n
  induction n with
  | zero => intro _; rfl
  | succ n ih =>
    intro hf
    unfold z_sum
    rw [hf n (by omega), ih (fun j hj => hf j (by omega))]
section ZNs
variable {G : z_G} {h : z_H} {Q : z_O → z_H → Prop} {a cap n : Nat} {f : Nat → Int32}
theorem cs_count (hN : z_Ns h a cap n f) (q : Q (.inl (some (.int (nI n)))) h) : z_W G 0 0 0 1 0 (z_L0 1 [.ref a]) [] h Q := by
  obtain ⟨g, h1, h2⟩ := hN.num
  exact c_count h1 q
theorem cs_has {x : Int32} (hN : z_Ns h a cap n f) (q : Q (.inl (some (.int (if z_has x n then 1 else 0)))) h) : z_W G 0 0 0 2 0 (z_L0 2 [.ref a, .int x]) [] h Q := by
  obtain ⟨g, h1, h2⟩ := hN.num
  exact c_has h1 q
theorem cs_at {x : Int32} (hN : z_Ns h a cap n f) (q : Q (.inl (some (.int (z_atV f n x)))) h) : z_W G 1 0 0 3 0 (z_L0 3 [.ref a, .int x]) [] h Q := by
  obtain ⟨g, h1, h2⟩ := hN.num
  exact c_at h1 (by rw [z_atV_c h2]; exact q)
theorem cs_placeOf {x : Int32} (hN : z_Ns h a cap n f) (q : Q (.inl (some (.int (z_plc f n x)))) h) : z_W G 0 0 0 10 0 (z_L0 10 [.ref a, .int x]) [] h Q := by
  obtain ⟨g, h1, h2⟩ := hN.num
  exact c_placeOf h1 (by rw [z_plc_c h2]; exact q)
theorem cs_countOf {x : Int32} (hN : z_Ns h a cap n f) (q : Q (.inl (some (.int (nI (z_cnt (fun i => decide (f i = x)) n))))) h) : z_W G 0 0 0 11 0 (z_L0 11 [.ref a, .int x]) [] h Q := by
  obtain ⟨g, h1, h2⟩ := hN.num
  exact c_countOf h1 (by rw [z_cnt_c (P' := fun i => decide (f i = x)) n (fun j hj => by rw [h2 j hj])]; exact q)
theorem cs_sum (hN : z_Ns h a cap n f) (q : Q (.inl (some (.int (z_sum f n)))) h) : z_W G 0 0 0 12 0 (z_L0 12 [.ref a]) [] h Q := by
  obtain ⟨g, h1, h2⟩ := hN.num
  exact c_sum h1 (by rw [z_sum_c n h2]; exact q)
end ZNs
theorem z_nb (b : Bool) : narrow .boolean (.int (if b = true then 1 else 0)) = .int (if b = true then 1 else 0) := by cases b <;> decide
/-- values of lists: sizes, contents -/
abbrev z_LV : Type := (Nat → Nat) × (Nat → Nat → Int32)
def z_upS (x : z_LV) (j n : Nat) (g : Nat → Int32) : z_LV := (fun i => if i = j then n else x.1 i, fun i => if i = j then g else x.2 i)
def z_upF (x : z_LV) (j : Nat) (g : Nat → Int32) : z_LV := (x.1, fun i => if i = j then g else x.2 i)
theorem z_upS_same (x : z_LV) (j : Nat) (g : Nat → Int32) : z_upS x j (x.1 j) g = z_upF x j g := by
  unfold z_upS z_upF
  rw [show (fun i => if i = j then x.1 j else x.1 i) = x.1 from by funext i; split <;> simp_all]
/-- an object of k lists at a, its lists behind it -/
def z_Li (ci k : Nat) (cap : Nat → Nat) (fs : List Value) (h : z_H) (a : Nat) (x : z_LV) : Prop := h.2 a = some (.inr (ci, fs)) ∧ ∀ j, j < k → z_Ns h (a + 1 + 2 * j) (cap j) (x.1 j) (x.2 j)
theorem z_Li.kept {ci k a b m : Nat} {cap : Nat → Nat} {fs : List Value} {h h' : z_H} {x : z_LV} (hL : z_Li ci k cap fs h a x) (hF : z_Fr b m h h') (hd : a + (2 * k + 1) ≤ b ∨ b + m ≤ a) : z_Li ci k cap fs h' a x :=
  ⟨(hF.2 a (by omega)).trans hL.1, fun j hj => (hL.2 j hj).kept (hF.2 _ (by omega)) (hF.2 _ (by omega))⟩
theorem z_Li.eqv {ci k a : Nat} {cap : Nat → Nat} {fs : List Value} {h : z_H} {x y : z_LV} (hL : z_Li ci k cap fs h a x) (he : ∀ j, j < k → x.1 j = y.1 j ∧ ∀ i, i < y.1 j → x.2 j i = y.2 j i) : z_Li ci k cap fs h a y :=
  ⟨hL.1, fun j hj => by
    obtain ⟨h1, ⟨g, h2, h3⟩, h4⟩ := hL.2 j hj
    obtain ⟨e1, e2⟩ := he j hj
    rw [e1] at h1 h3 h4
    exact ⟨h1, ⟨g, h2, fun i hi => (h3 i hi).trans (e2 i hi)⟩, h4⟩⟩
theorem z_Li.set {ci k a j n : Nat} {cap : Nat → Nat} {fs : List Value} {h : z_H} {x : z_LV} {g g' : Nat → Int32} (hL : z_Li ci k cap fs h a x) (hj : j < k) (hn : n ≤ cap j) (hg : ∀ i, i < n → g' i = g i) : z_Li ci k cap fs (z_putN h (a + 1 + 2 * j) (cap j) n g') a (z_upS x j n g) ∧ z_Fr a (2 * k + 1) h (z_putN h (a + 1 + 2 * j) (cap j) n g') := by
  have hc := (hL.2 j hj).fits.2
  refine ⟨⟨(z_putN_ne (by omega) (by omega)).trans hL.1, fun i hi => ?_⟩, ⟨rfl, fun q hq => z_putN_ne (by omega) (by omega)⟩⟩
  unfold z_upS
  by_cases e : i = j
  · subst e
    simp only [if_true]
    exact (z_putN_num hn hc).ns hg
  · simp only [if_neg e]
    exact (hL.2 i hi).kept (z_putN_ne (by omega) (by omega)) (z_putN_ne (by omega) (by omega))
def z_remL (x : z_LV) (j : Nat) (p : Int32) : z_LV := if z_has p (x.1 j) = true then z_upS x j (x.1 j - 1) (z_remF (x.2 j) (x.1 j) (z_ix p)) else x
def z_addL (x : z_LV) (j : Nat) (v : Int32) : z_LV := z_upS x j (x.1 j + 1) (upd (x.2 j) (x.1 j) v)
def z_insL (x : z_LV) (j p : Nat) (v : Int32) : z_LV := z_upS x j (x.1 j + 1) (z_insF (x.2 j) (x.1 j) p v)
def z_a (x : z_LV) (j : Nat) (q : Int32) : Int32 := z_atV (x.2 j) (x.1 j) q
section ZLi
variable {G : z_G} {h : z_H} {Q : z_O → z_H → Prop} {ci k a j : Nat} {cap : Nat → Nat} {fs : List Value} {x : z_LV}
theorem z_Li.at {p : Int32} (hL : z_Li ci k cap fs h a x) (hj : j < k) (q : Q (.inl (some (.int (z_a x j p)))) h) : z_W G 1 0 0 3 0 (z_L0 3 [.ref (a + 1 + 2 * j), .int p]) [] h Q := cs_at (hL.2 j hj) q
theorem z_Li.put {p v : Int32} (hL : z_Li ci k cap fs h a x) (hj : j < k) (q : ∀ h', z_Li ci k cap fs h' a (z_upF x j (z_updV (x.2 j) (x.1 j) p v)) → z_Fr a (2 * k + 1) h h' → Q (.inl none) h') : z_W G 1 0 0 4 0 (z_L0 4 [.ref (a + 1 + 2 * j), .int p, .int v]) [] h Q := by
  obtain ⟨g, h1, h2⟩ := (hL.2 j hj).num
  refine c_put h1 ?_
  split
  · rename_i hb
    have hi := (z_hasI hb).2.2.1
    obtain ⟨w1, w2⟩ := hL.set (g := z_updV (x.2 j) (x.1 j) p v) (g' := upd g (z_ix p) v) hj h1.2.2.1 (fun i hi => by
      unfold z_updV
      rw [if_pos hb]
      unfold upd
      split
      · rfl
      · exact h2 i hi)
    rw [z_upS_same] at w1
    exact q _ w1 w2
  · rename_i hb
    refine q _ (hL.eqv fun i hi => ⟨rfl, fun l _ => ?_⟩) (z_Fr.refl _ _ _)
    unfold z_upF z_updV
    rw [if_neg hb]
    by_cases e : i = j
    · subst e; simp
    · simp [e]
theorem z_Li.addTo {p v : Int32} (hL : z_Li ci k cap fs h a x) (hj : j < k) (q : ∀ h', z_Li ci k cap fs h' a (z_upF x j (z_updV (x.2 j) (x.1 j) p (z_a x j p + v))) → z_Fr a (2 * k + 1) h h' → Q (.inl none) h') : z_W G 2 0 0 5 0 (z_L0 5 [.ref (a + 1 + 2 * j), .int p, .int v]) [] h Q := by
  obtain ⟨g, h1, h2⟩ := (hL.2 j hj).num
  refine c_addTo h1 ?_
  rw [z_atV_c h2]
  split
  · rename_i hb
    have hi := (z_hasI hb).2.2.1
    obtain ⟨w1, w2⟩ := hL.set (g := z_updV (x.2 j) (x.1 j) p (z_a x j p + v)) (g' := upd g (z_ix p) (z_a x j p + v)) hj h1.2.2.1 (fun i hi => by
      unfold z_updV
      rw [if_pos hb]
      unfold upd
      split
      · rfl
      · exact h2 i hi)
    rw [z_upS_same] at w1
    exact q _ w1 w2
  · rename_i hb
    refine q _ (hL.eqv fun i hi => ⟨rfl, fun l _ => ?_⟩) (z_Fr.refl _ _ _)
    unfold z_upF z_updV
    rw [if_neg hb]
    by_cases e : i = j
    · subst e; simp
    · simp [e]
theorem z_Li.forget {p : Int32} (hL : z_Li ci k cap fs h a x) (hj : j < k) (q : ∀ h', z_Li ci k cap fs h' a (z_upF x j (z_forF (x.2 j) (x.1 j) p)) → z_Fr a (2 * k + 1) h h' → Q (.inl none) h') : z_W G 0 0 0 9 0 (z_L0 9 [.ref (a + 1 + 2 * j), .int p]) [] h Q := by
  obtain ⟨g, h1, h2⟩ := (hL.2 j hj).num
  refine c_forget h1 ?_
  obtain ⟨w1, w2⟩ := hL.set (g := z_forF (x.2 j) (x.1 j) p) (g' := z_forF g (x.1 j) p) hj h1.2.2.1 (fun i hi => by
    unfold z_forF
    rw [h2 i hi])
  rw [z_upS_same] at w1
  exact q _ w1 w2
theorem z_Li.removeAt {p : Int32} (hL : z_Li ci k cap fs h a x) (hj : j < k) (q : ∀ h', z_Li ci k cap fs h' a (z_remL x j p) → z_Fr a (2 * k + 1) h h' → Q (.inl none) h') : z_W G 1 0 0 8 0 (z_L0 8 [.ref (a + 1 + 2 * j), .int p]) [] h Q := by
  obtain ⟨g, h1, h2⟩ := (hL.2 j hj).num
  refine c_removeAt h1 ?_
  split
  · rename_i hb
    have hi := (z_hasI hb).2.2.1
    obtain ⟨w1, w2⟩ := hL.set (g := z_remF (x.2 j) (x.1 j) (z_ix p)) (g' := z_remF g (x.1 j) (z_ix p)) (n := x.1 j - 1) hj (by have := h1.2.2.1; omega) (fun i hi => by
      unfold z_remF
      split
      · exact h2 _ (by omega)
      · exact h2 i (by omega))
    refine q _ ?_ w2
    unfold z_remL
    rw [if_pos hb]
    exact w1
  · rename_i hb
    refine q _ ?_ (z_Fr.refl _ _ _)
    unfold z_remL
    rw [if_neg hb]
    exact hL
theorem z_Li.add {v : Int32} (hL : z_Li ci k cap fs h a x) (hj : j < k) (hc : x.1 j < cap j) (q : ∀ h', z_Li ci k cap fs h' a (z_addL x j v) → z_Fr a (2 * k + 1) h h' → Q (.inl none) h') : z_W G 1 0 0 7 0 (z_L0 7 [.ref (a + 1 + 2 * j), .int v]) [] h Q := by
  obtain ⟨g, h1, h2⟩ := (hL.2 j hj).num
  refine c_add h1 hc ?_
  obtain ⟨w1, w2⟩ := hL.set (n := x.1 j + 1) (g := upd (x.2 j) (x.1 j) v) (g' := z_insF g (x.1 j) (x.1 j) v) hj (by omega) (fun i hi => by
    unfold z_insF upd
    by_cases e : i = x.1 j
    · rw [if_pos e, if_pos e]
    · rw [if_neg e, if_neg e, if_neg (by omega)]
      exact h2 i (by omega))
  exact q _ w1 w2
theorem z_Li.insert {p : Nat} {v : Int32} (hL : z_Li ci k cap fs h a x) (hj : j < k) (hc : p ≤ x.1 j ∧ x.1 j < cap j) (q : ∀ h', z_Li ci k cap fs h' a (z_insL x j p v) → z_Fr a (2 * k + 1) h h' → Q (.inl none) h') : z_W G 0 0 0 6 0 (z_L0 6 [.ref (a + 1 + 2 * j), .int (nI p), .int v]) [] h Q := by
  obtain ⟨g, h1, h2⟩ := (hL.2 j hj).num
  refine c_insert h1 hc.1 hc.2 ?_
  obtain ⟨w1, w2⟩ := hL.set (n := x.1 j + 1) (g := z_insF (x.2 j) (x.1 j) p v) (g' := z_insF g (x.1 j) p v) hj (by omega) (fun i hi => by
    unfold z_insF
    split
    · rfl
    · split
      · exact h2 _ (by omega)
      · exact h2 i (by omega))
  exact q _ w1 w2
theorem z_Li.copy {b cap2 m : Nat} {f2 : Nat → Int32} (hL : z_Li ci k cap fs h a x) (hj : j < k) (hB : z_Ns h b cap2 m f2) (hd : b + 2 ≤ a ∨ a + (2 * k + 1) ≤ b) (hm : m ≤ cap j) (q : ∀ h', z_Li ci k cap fs h' a (z_upS x j m f2) → z_Fr a (2 * k + 1) h h' → Q (.inl none) h') : z_W G 0 0 0 13 0 (z_L0 13 [.ref (a + 1 + 2 * j), .ref b]) [] h Q := by
  obtain ⟨g, h1, h2⟩ := (hL.2 j hj).num
  obtain ⟨g2, h3, h4⟩ := hB.num
  refine c_copyFrom h1 h3 (by omega) hm ?_
  obtain ⟨w1, w2⟩ := hL.set (n := m) (g := f2) (g' := z_copF g g2 m) hj hm (fun i hi => by
    unfold z_copF
    rw [if_pos hi]
    exact h4 i hi)
  exact q _ w1 w2
end ZLi
/-- the general loop's value: step by step from 0 on -/
def z_fold {α : Type} (step : α → Nat → α) (a : α) : Nat → α
  | 0 => a
  | n + 1 => step (z_fold step a n) n
theorem z_fold_c {α : Type} {s s' : α → Nat → α} {a : α} : ∀ n, (∀ b i, i < n → s b i = s' b i) → z_fold s a n = z_fold s' a n := by
  intro n
  induction n with
  | zero => intro _; rfl
  | succ n ih =>
    intro hs
    show s _ n = s' _ n
    rw [ih fun b i hi => hs b i (by omega), hs _ n (by omega)]
def z_capC (j : Nat) : Nat := if j = 4 then 3 else 8
def z_capB (_ : Nat) : Nat := 10
abbrev z_Cl (h : z_H) (c : Nat) (x : z_LV) : Prop := z_Li 1 5 z_capC [.ref (c + 1 + 2 * 0), .ref (c + 1 + 2 * 1), .ref (c + 1 + 2 * 2), .ref (c + 1 + 2 * 3), .ref (c + 1 + 2 * 4)] h c x
abbrev z_Bi (h : z_H) (c : Nat) (x : z_LV) : Prop := z_Li 0 6 z_capB [.ref (c + 1 + 2 * 0), .ref (c + 1 + 2 * 1), .ref (c + 1 + 2 * 2), .ref (c + 1 + 2 * 3), .ref (c + 1 + 2 * 4), .ref (c + 1 + 2 * 5)] h c x
/-- clocks, bills, counters -/
abbrev z_HV : Type := z_LV × z_LV × (Nat → Int32)
def z_Hs (h : z_H) (b : Nat) (v : z_HV) : Prop := h.2 b = some (.inr (3, [.ref (b + 1), .ref (b + 12), .int (v.2.2 0), .int (v.2.2 1), .int (v.2.2 2), .int (v.2.2 3), .int (v.2.2 4), .int (v.2.2 5)])) ∧ z_Cl h (b + 1) v.1 ∧ z_Bi h (b + 12) v.2.1
theorem z_Hs.kept {h h' : z_H} {a b m : Nat} {v : z_HV} (hH : z_Hs h a v) (hF : z_Fr b m h h') (hd : a + 25 ≤ b ∨ b + m ≤ a) : z_Hs h' a v :=
  ⟨(hF.2 a (by omega)).trans hH.1, hH.2.1.kept hF (by omega), hH.2.2.kept hF (by omega)⟩
theorem z_Hs.cl {h h' : z_H} {b : Nat} {v : z_HV} {x : z_LV} (hH : z_Hs h b v) (hC : z_Cl h' (b + 1) x) (hF : z_Fr (b + 1) 11 h h') : z_Hs h' b (x, v.2.1, v.2.2) ∧ z_Fr b 25 h h' :=
  ⟨⟨(hF.2 b (by omega)).trans hH.1, hC, hH.2.2.kept hF (by omega)⟩, hF.wide (by omega) (by omega)⟩
theorem z_Hs.bi {h h' : z_H} {b : Nat} {v : z_HV} {x : z_LV} (hH : z_Hs h b v) (hC : z_Bi h' (b + 12) x) (hF : z_Fr (b + 12) 13 h h') : z_Hs h' b (v.1, x, v.2.2) ∧ z_Fr b 25 h h' :=
  ⟨⟨(hF.2 b (by omega)).trans hH.1, hH.2.1.kept hF (by omega), hC⟩, hF.wide (by omega) (by omega)⟩
/-- a counter takes a new value -/
def z_upW (v : z_HV) (j : Nat) (c : Int32) : z_HV := (v.1, v.2.1, fun i => if i = j then c else v.2.2 i)
theorem z_Hs.cnt {h : z_H} {b : Nat} {v : z_HV} {fs : List Value} (j : Nat) (c : Int32) (hH : z_Hs h b v) (he : fs = [.ref (b + 1), .ref (b + 12), .int ((z_upW v j c).2.2 0), .int ((z_upW v j c).2.2 1), .int ((z_upW v j c).2.2 2), .int ((z_upW v j c).2.2 3), .int ((z_upW v j c).2.2 4), .int ((z_upW v j c).2.2 5)]) : z_Hs (z_set h b (.inr (3, fs))) b (z_upW v j c) ∧ z_Fr b 25 h (z_set h b (.inr (3, fs))) := by
  have hF : z_Fr b 1 h (z_set h b (.inr (3, fs))) := ⟨rfl, fun k hk => z_set_ne _ _ (by omega)⟩
  subst he
  exact ⟨⟨z_set_eq _ _ _, hH.2.1.kept hF (by omega), hH.2.2.kept hF (by omega)⟩, hF.wide (by omega) (by omega)⟩
end
section
/-! ClockParliament$Clocks. -/
def z_way (a b : Int32) : Int32 := if a - b < 0 then -(a - b) else a - b
def z_sb (a b : Int32) : Int32 := if 60 - z_way a b < z_way a b then 60 - z_way a b else z_way a b
def z_agr (x : z_LV) (p q : Int32) : Bool := decide (z_sb (z_a x 0 p) (z_a x 0 q) ≤ 5)
def z_wv (x : z_LV) (c s : Int32) : Bool := decide (0 < z_a x 1 c) && decide (z_sb (z_a x 0 c) s ≤ 20)
def z_isIn (s q : Int32) : Bool := decide (¬ (s >>> (q &&& 31)) &&& 1 = 0)
def z_come (x : z_LV) (s l : Int32) : z_LV := z_addL (z_addL (z_addL (z_addL x 0 s) 1 24) 2 l) 3 0
def z_away (x : z_LV) (c : Int32) : z_LV := z_upF (z_remL (z_remL (z_remL (z_remL x 0 c) 1 c) 2 c) 3 c) 4 (z_forF ((z_remL (z_remL (z_remL (z_remL x 0 c) 1 c) 2 c) 3 c).2 4) ((z_remL (z_remL (z_remL (z_remL x 0 c) 1 c) 2 c) 3 c).1 4) c)
def z_putL (x : z_LV) (j : Nat) (p v : Int32) : z_LV := z_upF x j (z_updV (x.2 j) (x.1 j) p v)
def z_m60 (v : Int32) : Int32 := v - v / 60 * 60
def z_goL (x : z_LV) (c b : Int32) : z_LV := z_putL x 0 c (z_m60 (z_a x 0 c + b))
def z_moL (x : z_LV) (c b : Int32) : z_LV := z_goL (z_putL x 1 c (z_a x 1 c + -(b / 10 + 1))) c b
def z_gvL (x : z_LV) (c : Int32) : z_LV := z_putL (z_putL x 1 c (z_a x 1 c + -1)) 3 c (z_a (z_putL x 1 c (z_a x 1 c + -1)) 3 c + 1)
def z_dnL (x : z_LV) (c : Int32) : z_LV := z_putL x 1 c (z_a x 1 c + -1)
def z_phS (x : z_LV) (i : Nat) : z_LV := if z_a x 1 (nI i) = 0 then x else z_goL (z_dnL x (nI i)) (nI i) (if z_a (z_dnL x (nI i)) 1 (nI i) = 0 then 0 else 1)
def z_bits (P : Nat → Bool) (n : Nat) : Int32 := z_fold (fun s i => if P i = true then s ||| (1 <<< (nI i &&& 31)) else s) 0 n
def z_agw (x : z_LV) (c : Int32) : Int32 := z_bits (fun i => decide (¬ nI i = c) && z_agr x c (nI i)) (x.1 0)
def z_rch (x : z_LV) (s : Int32) : Int32 := z_fold (fun s o => if z_isIn s (nI o) = true then s ||| z_agw x (nI o) else s) s (x.1 0)
def z_rcd (x : z_LV) (c : Int32) : Int32 := z_fold (fun s _ => z_rch x s) (1 <<< (c &&& 31)) (x.1 0)
def z_wk (x : z_LV) : Int32 := z_fold (fun w i => if z_a x 1 (nI (i + 1)) < z_a x 1 w then nI (i + 1) else w) 0 (x.1 0 - 1)
def z_rnk (n m : Nat) (f : Nat → Int32) (c : Int32) : Nat := z_cnt (fun o => decide (0 < z_atV f m (nI o) - z_atV f m c) || (decide (z_atV f m (nI o) - z_atV f m c = 0) && decide (nI o < c))) n
theorem z_putL_1 (x : z_LV) (j : Nat) (p v : Int32) : (z_putL x j p v).1 = x.1 := rfl
theorem z_goL_1 (x : z_LV) (c b : Int32) : (z_goL x c b).1 = x.1 := rfl
theorem z_phS_1 (x : z_LV) (i : Nat) : (z_phS x i).1 = x.1 := by
  unfold z_phS
  split <;> rfl
theorem z_ph_1 (x : z_LV) (n : Nat) : (z_fold z_phS x n).1 = x.1 := by
  induction n with
  | zero => rfl
  | succ n ih => exact (z_phS_1 _ n).trans ih
theorem z_bIf (b : Bool) : (if b = true then (1 : Int32) else 0) = 0 ↔ b = false := by cases b <;> decide
theorem z_five {P : Nat → Prop} (h0 : P 0) (h1 : P 1) (h2 : P 2) (h3 : P 3) (h4 : P 4) : ∀ j, j < 5 → P j := by
  intro j hj
  match j, hj with
  | 0, _ => exact h0
  | 1, _ => exact h1
  | 2, _ => exact h2
  | 3, _ => exact h3
  | 4, _ => exact h4
  | n + 5, hj => exact absurd hj (by omega)
theorem z_six {P : Nat → Prop} (h0 : P 0) (h1 : P 1) (h2 : P 2) (h3 : P 3) (h4 : P 4) (h5 : P 5) : ∀ j, j < 6 → P j := by
  intro j hj
  by_cases e : j = 5
  · subst e; exact h5
  · exact z_five h0 h1 h2 h3 h4 j (by omega)
section ZCl
variable {G : z_G} {h : z_H} {Q : z_O → z_H → Prop} {c : Nat} {x : z_LV}
theorem c_secondsBetween {a b : Int32} (q : Q (.inl (some (.int (z_sb a b)))) h) : z_W G 1 0 0 49 0 (z_L0 49 [.int a, .int b]) [] h Q := by
  refine z_iload_n rfl rfl ?_
  refine z_iload_n rfl rfl ?_
  refine z_isub rfl ?_
  refine z_callS (av := [_]) rfl z_w320 rfl rfl rfl rfl (Nat.le_of_ble_eq_true rfl) (Nat.le_of_ble_eq_true rfl) (Nat.le_of_ble_eq_true rfl) (Nat.le_of_ble_eq_true rfl) (c_abs ?_)
  refine z_istore_n rfl (by decide +kernel) rfl ?_
  refine z_iload_n rfl rfl ?_
  refine z_bipush (v := 60) rfl (by decide) ?_
  refine z_iload_n rfl rfl ?_
  refine z_isub rfl ?_
  refine z_callS (av := [_, _]) rfl z_w318 rfl rfl rfl rfl (Nat.le_of_ble_eq_true rfl) (Nat.le_of_ble_eq_true rfl) (Nat.le_of_ble_eq_true rfl) (Nat.le_of_ble_eq_true rfl) (c_min ?_)
  refine z_iret rfl rfl ?_
  exact q
theorem c_springFor {a : Int32} (q : Q (.inl (some (.int (a / 10 + 1)))) h) : z_W G 0 0 0 48 0 (z_L0 48 [.int a]) [] h Q := by
  refine z_iload_n rfl rfl ?_
  refine z_bipush (v := 10) rfl (by decide) ?_
  refine z_idiv rfl (by decide) ?_
  refine z_iconst (v := 1) rfl (by decide) ?_
  refine z_iadd rfl ?_
  refine z_iret rfl rfl ?_
  exact q
theorem c_isIn {s p : Int32} (q : Q (.inl (some (.int (if z_isIn s p = true then 1 else 0)))) h) : z_W G 0 0 0 159 0 (z_L0 159 [.int s, .int p]) [] h Q := by
  refine z_iload_n rfl rfl ?_
  refine z_iload_n rfl rfl ?_
  refine z_ishr rfl ?_
  refine z_iconst (v := 1) rfl (by decide) ?_
  refine z_iand rfl ?_
  refine z_if_eq rfl (fun c1 => ?_) (fun c1 => ?_)
  · refine z_iconst (v := 0) rfl (by decide) ?_
    refine z_zret (ty := .boolean) rfl rfl (by first | decide | exact z_nb _) ?_
    have e : z_isIn s p = false := by unfold z_isIn; simp only [c1]; rfl
    rw [e] at q; exact q
  · refine z_iconst (v := 1) rfl (by decide) ?_
    refine z_goto rfl ?_
    refine z_zret (ty := .boolean) rfl rfl (by first | decide | exact z_nb _) ?_
    have e : z_isIn s p = true := by unfold z_isIn; simp only [c1]; rfl
    rw [e] at q; exact q
theorem cC_count (hC : z_Cl h c x) (q : Q (.inl (some (.int (nI (x.1 0))))) h) : z_W G 1 0 0 27 0 (z_L0 27 [.ref c]) [] h Q := by
  refine z_aload_n rfl rfl ?_
  refine z_get rfl hC.1 rfl ?_
  refine z_callV (av := []) rfl z_w1 (hC.2 0 (by decide)).1 rfl rfl rfl rfl rfl (Nat.le_of_ble_eq_true rfl) (Nat.le_of_ble_eq_true rfl) (Nat.le_of_ble_eq_true rfl) (Nat.le_of_ble_eq_true rfl) (cs_count (hC.2 0 (by decide)) ?_)
  refine z_iret rfl rfl ?_
  exact q
theorem cC_has {p : Int32} (hC : z_Cl h c x) (q : Q (.inl (some (.int (if z_has p (x.1 0) then 1 else 0)))) h) : z_W G 1 0 0 28 0 (z_L0 28 [.ref c, .int p]) [] h Q := by
  refine z_aload_n rfl rfl ?_
  refine z_get rfl hC.1 rfl ?_
  refine z_iload_n rfl rfl ?_
  refine z_callV (av := [_]) rfl z_w2 (hC.2 0 (by decide)).1 rfl rfl rfl rfl rfl (Nat.le_of_ble_eq_true rfl) (Nat.le_of_ble_eq_true rfl) (Nat.le_of_ble_eq_true rfl) (Nat.le_of_ble_eq_true rfl) (cs_has (hC.2 0 (by decide)) ?_)
  refine z_zret (ty := .boolean) rfl rfl (by first | decide | exact z_nb _) ?_
  exact q
theorem cC_isSilent {p : Int32} (hC : z_Cl h c x) (q : Q (.inl (some (.int (if z_a x 1 p = 0 then 1 else 0)))) h) : z_W G 2 0 0 29 0 (z_L0 29 [.ref c, .int p]) [] h Q := by
  refine z_aload_n rfl rfl ?_
  refine z_get rfl hC.1 rfl ?_
  refine z_iload_n rfl rfl ?_
  refine z_callV (av := [_]) rfl z_w3 (hC.2 1 (by decide)).1 rfl rfl rfl rfl rfl (Nat.le_of_ble_eq_true rfl) (Nat.le_of_ble_eq_true rfl) (Nat.le_of_ble_eq_true rfl) (Nat.le_of_ble_eq_true rfl) (z_Li.at hC (j := 1) (by decide) ?_)
  refine z_if_ne rfl (fun c8 => ?_) (fun c8 => ?_)
  · refine z_iconst (v := 0) rfl (by decide) ?_
    refine z_zret (ty := .boolean) rfl rfl (by first | decide | exact z_nb _) ?_
    rw [if_neg (by exact c8)] at q; exact q
  · refine z_iconst (v := 1) rfl (by decide) ?_
    refine z_goto rfl ?_
    refine z_zret (ty := .boolean) rfl rfl (by first | decide | exact z_nb _) ?_
    rw [if_pos (by exact c8)] at q; exact q
theorem cC_difference {p r : Int32} (hC : z_Cl h c x) (q : Q (.inl (some (.int (z_sb (z_a x 0 p) (z_a x 0 r))))) h) : z_W G 2 0 0 30 0 (z_L0 30 [.ref c, .int p, .int r]) [] h Q := by
  refine z_aload_n rfl rfl ?_
  refine z_get rfl hC.1 rfl ?_
  refine z_iload_n rfl rfl ?_
  refine z_callV (av := [_]) rfl z_w3 (hC.2 0 (by decide)).1 rfl rfl rfl rfl rfl (Nat.le_of_ble_eq_true rfl) (Nat.le_of_ble_eq_true rfl) (Nat.le_of_ble_eq_true rfl) (Nat.le_of_ble_eq_true rfl) (z_Li.at hC (j := 0) (by decide) ?_)
  refine z_aload_n rfl rfl ?_
  refine z_get rfl hC.1 rfl ?_
  refine z_iload_n rfl rfl ?_
  refine z_callV (av := [_]) rfl z_w3 (hC.2 0 (by decide)).1 rfl rfl rfl rfl rfl (Nat.le_of_ble_eq_true rfl) (Nat.le_of_ble_eq_true rfl) (Nat.le_of_ble_eq_true rfl) (Nat.le_of_ble_eq_true rfl) (z_Li.at hC (j := 0) (by decide) ?_)
  refine z_callS (av := [_, _]) rfl z_w49 rfl rfl rfl rfl (Nat.le_of_ble_eq_true rfl) (Nat.le_of_ble_eq_true rfl) (Nat.le_of_ble_eq_true rfl) (Nat.le_of_ble_eq_true rfl) (c_secondsBetween ?_)
  refine z_iret rfl rfl ?_
  exact q
theorem cC_areAgreed {p r : Int32} (hC : z_Cl h c x) (q : Q (.inl (some (.int (if z_agr x p r = true then 1 else 0)))) h) : z_W G 3 0 0 31 0 (z_L0 31 [.ref c, .int p, .int r]) [] h Q := by
  refine z_aload_n rfl rfl ?_
  refine z_iload_n rfl rfl ?_
  refine z_iload_n rfl rfl ?_
  refine z_callV (av := [_, _]) rfl z_w30 hC.1 rfl rfl rfl rfl rfl (Nat.le_of_ble_eq_true rfl) (Nat.le_of_ble_eq_true rfl) (Nat.le_of_ble_eq_true rfl) (Nat.le_of_ble_eq_true rfl) (cC_difference hC ?_)
  refine z_iconst (v := 5) rfl (by decide) ?_
  refine z_icmp_gt rfl (fun c7 => ?_) (fun c7 => ?_)
  · refine z_iconst (v := 0) rfl (by decide) ?_
    refine z_zret (ty := .boolean) rfl rfl (by first | decide | exact z_nb _) ?_
    have e : z_agr x p r = false := by unfold z_agr; rw [← Int32.not_le] at c7; simpa using c7
    rw [e] at q; exact q
  · refine z_iconst (v := 1) rfl (by decide) ?_
    refine z_goto rfl ?_
    refine z_zret (ty := .boolean) rfl rfl (by first | decide | exact z_nb _) ?_
    have e : z_agr x p r = true := by unfold z_agr; rw [Int32.not_lt] at c7; simpa using c7
    rw [e] at q; exact q
theorem cC_wouldVote {p s : Int32} (hC : z_Cl h c x) (q : Q (.inl (some (.int (if z_wv x p s = true then 1 else 0)))) h) : z_W G 2 0 0 32 0 (z_L0 32 [.ref c, .int p, .int s]) [] h Q := by
  refine z_aload_n rfl rfl ?_
  refine z_get rfl hC.1 rfl ?_
  refine z_iload_n rfl rfl ?_
  refine z_callV (av := [_]) rfl z_w3 (hC.2 1 (by decide)).1 rfl rfl rfl rfl rfl (Nat.le_of_ble_eq_true rfl) (Nat.le_of_ble_eq_true rfl) (Nat.le_of_ble_eq_true rfl) (Nat.le_of_ble_eq_true rfl) (z_Li.at hC (j := 1) (by decide) ?_)
  refine z_if_le rfl (fun c8 => ?_) (fun c8 => ?_)
  · refine z_iconst (v := 0) rfl (by decide) ?_
    refine z_zret (ty := .boolean) rfl rfl (by first | decide | exact z_nb _) ?_
    have e : z_wv x p s = false := by unfold z_wv; rw [← Int32.not_lt] at c8; simp [c8]
    rw [e] at q; exact q
  · refine z_aload_n rfl rfl ?_
    refine z_get rfl hC.1 rfl ?_
    refine z_iload_n rfl rfl ?_
    refine z_callV (av := [_]) rfl z_w3 (hC.2 0 (by decide)).1 rfl rfl rfl rfl rfl (Nat.le_of_ble_eq_true rfl) (Nat.le_of_ble_eq_true rfl) (Nat.le_of_ble_eq_true rfl) (Nat.le_of_ble_eq_true rfl) (z_Li.at hC (j := 0) (by decide) ?_)
    refine z_iload_n rfl rfl ?_
    refine z_callS (av := [_, _]) rfl z_w49 rfl rfl rfl rfl (Nat.le_of_ble_eq_true rfl) (Nat.le_of_ble_eq_true rfl) (Nat.le_of_ble_eq_true rfl) (Nat.le_of_ble_eq_true rfl) (c_secondsBetween ?_)
    refine z_bipush (v := 20) rfl (by decide) ?_
    refine z_icmp_gt rfl (fun c25 => ?_) (fun c25 => ?_)
    · refine z_iconst (v := 0) rfl (by decide) ?_
      refine z_zret (ty := .boolean) rfl rfl (by first | decide | exact z_nb _) ?_
      have e : z_wv x p s = false := by unfold z_wv; rw [← Int32.not_le] at c25; simp [c25]
      rw [e] at q; exact q
    · refine z_iconst (v := 1) rfl (by decide) ?_
      refine z_goto rfl ?_
      refine z_zret (ty := .boolean) rfl rfl (by first | decide | exact z_nb _) ?_
      have e : z_wv x p s = true := by unfold z_wv; rw [Int32.not_lt] at c25; rw [Int32.not_le] at c8; simp [c25, c8]
      rw [e] at q; exact q
theorem cC_come {s l : Int32} (hC : z_Cl h c x) (hs : x.1 0 < 8 ∧ x.1 1 < 8 ∧ x.1 2 < 8 ∧ x.1 3 < 8) (q : ∀ h', z_Cl h' c (z_come x s l) → z_Fr c 11 h h' → Q (.inl (some (.int (nI (x.1 0))))) h') : z_W G 2 0 0 33 0 (z_L0 33 [.ref c, .int s, .int l]) [] h Q := by
  refine z_aload_n rfl rfl ?_
  refine z_get rfl hC.1 rfl ?_
  refine z_iload_n rfl rfl ?_
  refine z_callV (av := [_]) rfl z_w7 (hC.2 0 (by decide)).1 rfl rfl rfl rfl rfl (Nat.le_of_ble_eq_true rfl) (Nat.le_of_ble_eq_true rfl) (Nat.le_of_ble_eq_true rfl) (Nat.le_of_ble_eq_true rfl) (z_Li.add hC (j := 0) (by decide) hs.1 (fun h1 hC1 hF1 => ?_))
  refine z_aload_n rfl rfl ?_
  refine z_get rfl hC1.1 rfl ?_
  refine z_bipush (v := 24) rfl (by decide) ?_
  refine z_callV (av := [_]) rfl z_w7 (hC1.2 1 (by decide)).1 rfl rfl rfl rfl rfl (Nat.le_of_ble_eq_true rfl) (Nat.le_of_ble_eq_true rfl) (Nat.le_of_ble_eq_true rfl) (Nat.le_of_ble_eq_true rfl) (z_Li.add hC1 (j := 1) (by decide) (show x.1 1 < 8 from hs.2.1) (fun h2 hC2 hF2 => ?_))
  refine z_aload_n rfl rfl ?_
  refine z_get rfl hC2.1 rfl ?_
  refine z_iload_n rfl rfl ?_
  refine z_callV (av := [_]) rfl z_w7 (hC2.2 2 (by decide)).1 rfl rfl rfl rfl rfl (Nat.le_of_ble_eq_true rfl) (Nat.le_of_ble_eq_true rfl) (Nat.le_of_ble_eq_true rfl) (Nat.le_of_ble_eq_true rfl) (z_Li.add hC2 (j := 2) (by decide) (show x.1 2 < 8 from hs.2.2.1) (fun h3 hC3 hF3 => ?_))
  refine z_aload_n rfl rfl ?_
  refine z_get rfl hC3.1 rfl ?_
  refine z_iconst (v := 0) rfl (by decide) ?_
  refine z_callV (av := [_]) rfl z_w7 (hC3.2 3 (by decide)).1 rfl rfl rfl rfl rfl (Nat.le_of_ble_eq_true rfl) (Nat.le_of_ble_eq_true rfl) (Nat.le_of_ble_eq_true rfl) (Nat.le_of_ble_eq_true rfl) (z_Li.add hC3 (j := 3) (by decide) (show x.1 3 < 8 from hs.2.2.2) (fun h4 hC4 hF4 => ?_))
  refine z_aload_n rfl rfl ?_
  refine z_callV (av := []) rfl z_w27 hC4.1 rfl rfl rfl rfl rfl (Nat.le_of_ble_eq_true rfl) (Nat.le_of_ble_eq_true rfl) (Nat.le_of_ble_eq_true rfl) (Nat.le_of_ble_eq_true rfl) (cC_count hC4 ?_)
  refine z_iconst (v := 1) rfl (by decide) ?_
  refine z_isub rfl ?_
  rw [show nI ((z_addL (z_addL (z_addL (z_addL x 0 s) 1 24) 2 l) 3 0).1 0) - 1 = nI (x.1 0) from nI_pred _]
  refine z_iret rfl rfl ?_
  exact q _ hC4 (((hF1.trans hF2).trans hF3).trans hF4)
theorem cC_remove {p : Int32} (hC : z_Cl h c x) (q : ∀ h', z_Cl h' c (z_away x p) → z_Fr c 11 h h' → Q (.inl none) h') : z_W G 2 0 0 34 0 (z_L0 34 [.ref c, .int p]) [] h Q := by
  refine z_aload_n rfl rfl ?_
  refine z_get rfl hC.1 rfl ?_
  refine z_iload_n rfl rfl ?_
  refine z_callV (av := [_]) rfl z_w8 (hC.2 0 (by decide)).1 rfl rfl rfl rfl rfl (Nat.le_of_ble_eq_true rfl) (Nat.le_of_ble_eq_true rfl) (Nat.le_of_ble_eq_true rfl) (Nat.le_of_ble_eq_true rfl) (z_Li.removeAt hC (j := 0) (by decide) (fun h1 hC1 hF1 => ?_))
  refine z_aload_n rfl rfl ?_
  refine z_get rfl hC1.1 rfl ?_
  refine z_iload_n rfl rfl ?_
  refine z_callV (av := [_]) rfl z_w8 (hC1.2 1 (by decide)).1 rfl rfl rfl rfl rfl (Nat.le_of_ble_eq_true rfl) (Nat.le_of_ble_eq_true rfl) (Nat.le_of_ble_eq_true rfl) (Nat.le_of_ble_eq_true rfl) (z_Li.removeAt hC1 (j := 1) (by decide) (fun h2 hC2 hF2 => ?_))
  refine z_aload_n rfl rfl ?_
  refine z_get rfl hC2.1 rfl ?_
  refine z_iload_n rfl rfl ?_
  refine z_callV (av := [_]) rfl z_w8 (hC2.2 2 (by decide)).1 rfl rfl rfl rfl rfl (Nat.le_of_ble_eq_true rfl) (Nat.le_of_ble_eq_true rfl) (Nat.le_of_ble_eq_true rfl) (Nat.le_of_ble_eq_true rfl) (z_Li.removeAt hC2 (j := 2) (by decide) (fun h3 hC3 hF3 => ?_))
  refine z_aload_n rfl rfl ?_
  refine z_get rfl hC3.1 rfl ?_
  refine z_iload_n rfl rfl ?_
  refine z_callV (av := [_]) rfl z_w8 (hC3.2 3 (by decide)).1 rfl rfl rfl rfl rfl (Nat.le_of_ble_eq_true rfl) (Nat.le_of_ble_eq_true rfl) (Nat.le_of_ble_eq_true rfl) (Nat.le_of_ble_eq_true rfl) (z_Li.removeAt hC3 (j := 3) (by decide) (fun h4 hC4 hF4 => ?_))
  refine z_aload_n rfl rfl ?_
  refine z_get rfl hC4.1 rfl ?_
  refine z_iload_n rfl rfl ?_
  refine z_callV (av := [_]) rfl z_w9 (hC4.2 4 (by decide)).1 rfl rfl rfl rfl rfl (Nat.le_of_ble_eq_true rfl) (Nat.le_of_ble_eq_true rfl) (Nat.le_of_ble_eq_true rfl) (Nat.le_of_ble_eq_true rfl) (z_Li.forget hC4 (j := 4) (by decide) (fun h5 hC5 hF5 => ?_))
  refine z_vret rfl rfl ?_
  exact q _ hC5 ((((hF1.trans hF2).trans hF3).trans hF4).trans hF5)
theorem cC_giveKey {p v : Int32} (hC : z_Cl h c x) (q : ∀ h', z_Cl h' c (z_putL x 4 p v) → z_Fr c 11 h h' → Q (.inl (some (.int (z_a x 4 p)))) h') : z_W G 2 0 0 35 0 (z_L0 35 [.ref c, .int p, .int v]) [] h Q := by
  refine z_aload_n rfl rfl ?_
  refine z_get rfl hC.1 rfl ?_
  refine z_iload_n rfl rfl ?_
  refine z_callV (av := [_]) rfl z_w3 (hC.2 4 (by decide)).1 rfl rfl rfl rfl rfl (Nat.le_of_ble_eq_true rfl) (Nat.le_of_ble_eq_true rfl) (Nat.le_of_ble_eq_true rfl) (Nat.le_of_ble_eq_true rfl) (z_Li.at hC (j := 4) (by decide) ?_)
  refine z_istore_n rfl (by decide +kernel) rfl ?_
  refine z_aload_n rfl rfl ?_
  refine z_get rfl hC.1 rfl ?_
  refine z_iload_n rfl rfl ?_
  refine z_iload_n rfl rfl ?_
  refine z_callV (av := [_, _]) rfl z_w4 (hC.2 4 (by decide)).1 rfl rfl rfl rfl rfl (Nat.le_of_ble_eq_true rfl) (Nat.le_of_ble_eq_true rfl) (Nat.le_of_ble_eq_true rfl) (Nat.le_of_ble_eq_true rfl) (z_Li.put hC (j := 4) (by decide) (fun h1 hC1 hF1 => ?_))
  refine z_iload_n rfl rfl ?_
  refine z_iret rfl rfl ?_
  exact q _ hC1 hF1
theorem cC_windUp {p : Int32} (hC : z_Cl h c x) (q : ∀ h', z_Cl h' c (z_putL x 1 p 24) → z_Fr c 11 h h' → Q (.inl (some (.int (z_a x 1 p)))) h') : z_W G 2 0 0 36 0 (z_L0 36 [.ref c, .int p]) [] h Q := by
  refine z_aload_n rfl rfl ?_
  refine z_get rfl hC.1 rfl ?_
  refine z_iload_n rfl rfl ?_
  refine z_callV (av := [_]) rfl z_w3 (hC.2 1 (by decide)).1 rfl rfl rfl rfl rfl (Nat.le_of_ble_eq_true rfl) (Nat.le_of_ble_eq_true rfl) (Nat.le_of_ble_eq_true rfl) (Nat.le_of_ble_eq_true rfl) (z_Li.at hC (j := 1) (by decide) ?_)
  refine z_istore_n rfl (by decide +kernel) rfl ?_
  refine z_aload_n rfl rfl ?_
  refine z_get rfl hC.1 rfl ?_
  refine z_iload_n rfl rfl ?_
  refine z_bipush (v := 24) rfl (by decide) ?_
  refine z_callV (av := [_, _]) rfl z_w4 (hC.2 1 (by decide)).1 rfl rfl rfl rfl rfl (Nat.le_of_ble_eq_true rfl) (Nat.le_of_ble_eq_true rfl) (Nat.le_of_ble_eq_true rfl) (Nat.le_of_ble_eq_true rfl) (z_Li.put hC (j := 1) (by decide) (fun h1 hC1 hF1 => ?_))
  refine z_iload_n rfl rfl ?_
  refine z_iret rfl rfl ?_
  exact q _ hC1 hF1
theorem cC_goOn {p b : Int32} (hC : z_Cl h c x) (q : ∀ h', z_Cl h' c (z_goL x p b) → z_Fr c 11 h h' → Q (.inl none) h') : z_W G 2 0 0 40 0 (z_L0 40 [.ref c, .int p, .int b]) [] h Q := by
  refine z_aload_n rfl rfl ?_
  refine z_get rfl hC.1 rfl ?_
  refine z_iload_n rfl rfl ?_
  refine z_aload_n rfl rfl ?_
  refine z_get rfl hC.1 rfl ?_
  refine z_iload_n rfl rfl ?_
  refine z_callV (av := [_]) rfl z_w3 (hC.2 0 (by decide)).1 rfl rfl rfl rfl rfl (Nat.le_of_ble_eq_true rfl) (Nat.le_of_ble_eq_true rfl) (Nat.le_of_ble_eq_true rfl) (Nat.le_of_ble_eq_true rfl) (z_Li.at hC (j := 0) (by decide) ?_)
  refine z_iload_n rfl rfl ?_
  refine z_iadd rfl ?_
  refine z_bipush (v := 60) rfl (by decide) ?_
  refine z_irem rfl (by decide) ?_
  refine z_callV (av := [_, _]) rfl z_w4 (hC.2 0 (by decide)).1 rfl rfl rfl rfl rfl (Nat.le_of_ble_eq_true rfl) (Nat.le_of_ble_eq_true rfl) (Nat.le_of_ble_eq_true rfl) (Nat.le_of_ble_eq_true rfl) (z_Li.put hC (j := 0) (by decide) (fun h1 hC1 hF1 => ?_))
  refine z_vret rfl rfl ?_
  exact q _ hC1 hF1
theorem cC_moveOn {p b : Int32} (hC : z_Cl h c x) (q : ∀ h', z_Cl h' c (z_moL x p b) → z_Fr c 11 h h' → Q (.inl (some (.int (z_a (z_moL x p b) 0 p)))) h') : z_W G 3 0 0 37 0 (z_L0 37 [.ref c, .int p, .int b]) [] h Q := by
  refine z_aload_n rfl rfl ?_
  refine z_get rfl hC.1 rfl ?_
  refine z_iload_n rfl rfl ?_
  refine z_iload_n rfl rfl ?_
  refine z_callS (av := [_]) rfl z_w48 rfl rfl rfl rfl (Nat.le_of_ble_eq_true rfl) (Nat.le_of_ble_eq_true rfl) (Nat.le_of_ble_eq_true rfl) (Nat.le_of_ble_eq_true rfl) (c_springFor ?_)
  refine z_ineg rfl ?_
  refine z_callV (av := [_, _]) rfl z_w5 (hC.2 1 (by decide)).1 rfl rfl rfl rfl rfl (Nat.le_of_ble_eq_true rfl) (Nat.le_of_ble_eq_true rfl) (Nat.le_of_ble_eq_true rfl) (Nat.le_of_ble_eq_true rfl) (z_Li.addTo hC (j := 1) (by decide) (fun h1 hC1 hF1 => ?_))
  refine z_aload_n rfl rfl ?_
  refine z_iload_n rfl rfl ?_
  refine z_iload_n rfl rfl ?_
  refine z_callV (av := [_, _]) rfl z_w40 hC1.1 rfl rfl rfl rfl rfl (Nat.le_of_ble_eq_true rfl) (Nat.le_of_ble_eq_true rfl) (Nat.le_of_ble_eq_true rfl) (Nat.le_of_ble_eq_true rfl) (cC_goOn hC1 (fun h2 hC2 hF2 => ?_))
  refine z_aload_n rfl rfl ?_
  refine z_get rfl hC2.1 rfl ?_
  refine z_iload_n rfl rfl ?_
  refine z_callV (av := [_]) rfl z_w3 (hC2.2 0 (by decide)).1 rfl rfl rfl rfl rfl (Nat.le_of_ble_eq_true rfl) (Nat.le_of_ble_eq_true rfl) (Nat.le_of_ble_eq_true rfl) (Nat.le_of_ble_eq_true rfl) (z_Li.at hC2 (j := 0) (by decide) ?_)
  refine z_iret rfl rfl ?_
  exact q _ hC2 (hF1.trans hF2)
theorem cC_giveVote {p : Int32} (hC : z_Cl h c x) (q : ∀ h', z_Cl h' c (z_gvL x p) → z_Fr c 11 h h' → Q (.inl none) h') : z_W G 3 0 0 38 0 (z_L0 38 [.ref c, .int p]) [] h Q := by
  refine z_aload_n rfl rfl ?_
  refine z_get rfl hC.1 rfl ?_
  refine z_iload_n rfl rfl ?_
  refine z_iconst (v := (-1)) rfl (by decide) ?_
  refine z_callV (av := [_, _]) rfl z_w5 (hC.2 1 (by decide)).1 rfl rfl rfl rfl rfl (Nat.le_of_ble_eq_true rfl) (Nat.le_of_ble_eq_true rfl) (Nat.le_of_ble_eq_true rfl) (Nat.le_of_ble_eq_true rfl) (z_Li.addTo hC (j := 1) (by decide) (fun h1 hC1 hF1 => ?_))
  refine z_aload_n rfl rfl ?_
  refine z_get rfl hC1.1 rfl ?_
  refine z_iload_n rfl rfl ?_
  refine z_iconst (v := 1) rfl (by decide) ?_
  refine z_callV (av := [_, _]) rfl z_w5 (hC1.2 3 (by decide)).1 rfl rfl rfl rfl rfl (Nat.le_of_ble_eq_true rfl) (Nat.le_of_ble_eq_true rfl) (Nat.le_of_ble_eq_true rfl) (Nat.le_of_ble_eq_true rfl) (z_Li.addTo hC1 (j := 3) (by decide) (fun h2 hC2 hF2 => ?_))
  refine z_vret rfl rfl ?_
  exact q _ hC2 (hF1.trans hF2)
theorem cC_passHour (hC : z_Cl h c x) (q : ∀ h', z_Cl h' c (z_fold z_phS x (x.1 0)) → z_Fr c 11 h h' → Q (.inl none) h') : z_W G 3 0 0 39 0 (z_L0 39 [.ref c]) [] h Q := by
  have hn : x.1 0 ≤ 8 := (hC.2 0 (by decide)).fits.1
  have loop : ∀ (k i : Nat) (hh : z_H), i + k = x.1 0 → z_Cl hh c (z_fold z_phS x i) → z_Fr c 11 h hh → z_W G 3 0 0 39 2 [.ref c, .int (nI i)] [] hh Q := by
    intro k
    induction k with
    | zero =>
      intro i hh hi hD hF
      have e1 : (z_fold z_phS x i).1 0 = x.1 0 := by rw [z_ph_1]
      refine z_iload_n rfl rfl ?_
      refine z_aload_n rfl rfl ?_
      refine z_callV (av := []) rfl z_w27 hD.1 rfl rfl rfl rfl rfl (Nat.le_of_ble_eq_true rfl) (Nat.le_of_ble_eq_true rfl) (Nat.le_of_ble_eq_true rfl) (Nat.le_of_ble_eq_true rfl) (cC_count hD ?_)
      rw [e1]
      refine z_icmp_ge rfl (fun c7 => ?_) (fun c7 => absurd (show nI (x.1 0) ≤ nI i from (nI_leI (by omega) (by omega)).mpr (by omega)) c7)
      refine z_vret rfl rfl ?_
      rw [show i = x.1 0 by omega] at hD; exact q _ hD hF
    | succ k ih =>
      intro i hh hi hD hF
      have e1 : (z_fold z_phS x i).1 0 = x.1 0 := by rw [z_ph_1]
      refine z_iload_n rfl rfl ?_
      refine z_aload_n rfl rfl ?_
      refine z_callV (av := []) rfl z_w27 hD.1 rfl rfl rfl rfl rfl (Nat.le_of_ble_eq_true rfl) (Nat.le_of_ble_eq_true rfl) (Nat.le_of_ble_eq_true rfl) (Nat.le_of_ble_eq_true rfl) (cC_count hD ?_)
      rw [e1]
      refine z_icmp_ge rfl (fun c7 => absurd c7 (show ¬ nI (x.1 0) ≤ nI i from fun q9 => absurd ((nI_leI (by omega) (by omega)).mp q9) (by omega))) (fun c7 => ?_)
      refine z_aload_n rfl rfl ?_
      refine z_iload_n rfl rfl ?_
      refine z_callV (av := [_]) rfl z_w29 hD.1 rfl rfl rfl rfl rfl (Nat.le_of_ble_eq_true rfl) (Nat.le_of_ble_eq_true rfl) (Nat.le_of_ble_eq_true rfl) (Nat.le_of_ble_eq_true rfl) (cC_isSilent hD ?_)
      refine z_if_ne rfl (fun c1 => ?_) (fun c1 => ?_)
      · refine z_iinc1 rfl rfl (by decide +kernel) rfl ?_
        refine z_goto rfl (ih (i + 1) _ (by omega) ?_ hF)
        have e : z_fold z_phS x (i + 1) = z_fold z_phS x i := if_pos (by by_cases e3 : z_a (z_fold z_phS x i) 1 (nI i) = 0; exact e3; rw [if_neg e3] at c1; exact absurd rfl c1)
        rw [e]; exact hD
      · refine z_aload_n rfl rfl ?_
        refine z_get rfl hD.1 rfl ?_
        refine z_iload_n rfl rfl ?_
        refine z_iconst (v := (-1)) rfl (by decide) ?_
        refine z_callV (av := [_, _]) rfl z_w5 (hD.2 1 (by decide)).1 rfl rfl rfl rfl rfl (Nat.le_of_ble_eq_true rfl) (Nat.le_of_ble_eq_true rfl) (Nat.le_of_ble_eq_true rfl) (Nat.le_of_ble_eq_true rfl) (z_Li.addTo hD (j := 1) (by decide) (fun h1 hC1 hF1 => ?_))
        refine z_aload_n rfl rfl ?_
        refine z_iload_n rfl rfl ?_
        refine z_aload_n rfl rfl ?_
        refine z_iload_n rfl rfl ?_
        refine z_callV (av := [_]) rfl z_w29 hC1.1 rfl rfl rfl rfl rfl (Nat.le_of_ble_eq_true rfl) (Nat.le_of_ble_eq_true rfl) (Nat.le_of_ble_eq_true rfl) (Nat.le_of_ble_eq_true rfl) (cC_isSilent hC1 ?_)
        refine z_if_eq rfl (fun c2 => ?_) (fun c2 => ?_)
        · refine z_iconst (v := 1) rfl (by decide) ?_
          refine z_callV (av := [_, _]) rfl z_w40 hC1.1 rfl rfl rfl rfl rfl (Nat.le_of_ble_eq_true rfl) (Nat.le_of_ble_eq_true rfl) (Nat.le_of_ble_eq_true rfl) (Nat.le_of_ble_eq_true rfl) (cC_goOn hC1 (fun h2 hC2 hF2 => ?_))
          refine z_iinc1 rfl rfl (by decide +kernel) rfl ?_
          refine z_goto rfl (ih (i + 1) _ (by omega) ?_ (hF.trans (hF1.trans hF2)))
          have e3 : ¬ z_a (z_fold z_phS x i) 1 (nI i) = 0 := fun e3 => by rw [if_pos e3] at c1; exact absurd c1 (by decide)
          have e4 : ¬ z_a (z_dnL (z_fold z_phS x i) (nI i)) 1 (nI i) = 0 := fun e3 => by
            unfold z_dnL z_putL at e3
            rw [if_pos e3] at c2; exact absurd c2 (by decide)
          have e : z_fold z_phS x (i + 1) = z_goL (z_dnL (z_fold z_phS x i) (nI i)) (nI i) 1 := (if_neg e3).trans (by rw [if_neg e4])
          rw [e]; exact hC2
        · refine z_iconst (v := 0) rfl (by decide) ?_
          refine z_goto rfl ?_
          refine z_callV (av := [_, _]) rfl z_w40 hC1.1 rfl rfl rfl rfl rfl (Nat.le_of_ble_eq_true rfl) (Nat.le_of_ble_eq_true rfl) (Nat.le_of_ble_eq_true rfl) (Nat.le_of_ble_eq_true rfl) (cC_goOn hC1 (fun h2 hC2 hF2 => ?_))
          refine z_iinc1 rfl rfl (by decide +kernel) rfl ?_
          refine z_goto rfl (ih (i + 1) _ (by omega) ?_ (hF.trans (hF1.trans hF2)))
          have e3 : ¬ z_a (z_fold z_phS x i) 1 (nI i) = 0 := fun e3 => by rw [if_pos e3] at c1; exact absurd c1 (by decide)
          have e4 : z_a (z_dnL (z_fold z_phS x i) (nI i)) 1 (nI i) = 0 := by
            unfold z_dnL z_putL
            exact Decidable.byContradiction fun e5 => by rw [if_neg e5] at c2; exact absurd rfl c2
          have e : z_fold z_phS x (i + 1) = z_goL (z_dnL (z_fold z_phS x i) (nI i)) (nI i) 0 := (if_neg e3).trans (by rw [if_pos e4])
          rw [e]; exact hC2
  refine z_iconst (v := nI 0) rfl (by decide) ?_
  refine z_istore_n rfl (by decide +kernel) rfl ?_
  exact loop (x.1 0) 0 h (by omega) hC (z_Fr.refl _ _ _)
theorem cC_agreeingWith {p : Int32} (hC : z_Cl h c x) (q : Q (.inl (some (.int (z_agw x p)))) h) : z_W G 4 0 0 41 0 (z_L0 41 [.ref c, .int p]) [] h Q := by
  have hn : x.1 0 ≤ 8 := (hC.2 0 (by decide)).fits.1
  have loop : ∀ (k i : Nat) (s : Int32), i + k = x.1 0 → s = z_bits (fun i => decide (¬ nI i = p) && z_agr x p (nI i)) i → z_W G 4 0 0 41 4 [.ref c, .int p, .int s, .int (nI i)] [] h Q := by
    intro k
    induction k with
    | zero =>
      intro i s hi hs
      refine z_iload_n rfl rfl ?_
      refine z_aload_n rfl rfl ?_
      refine z_callV (av := []) rfl z_w27 hC.1 rfl rfl rfl rfl rfl (Nat.le_of_ble_eq_true rfl) (Nat.le_of_ble_eq_true rfl) (Nat.le_of_ble_eq_true rfl) (Nat.le_of_ble_eq_true rfl) (cC_count hC ?_)
      refine z_icmp_ge rfl (fun c9 => ?_) (fun c9 => absurd (show nI (x.1 0) ≤ nI i from (nI_leI (by omega) (by omega)).mpr (by omega)) c9)
      refine z_iload_n rfl rfl ?_
      refine z_iret rfl rfl ?_
      subst hs; rw [show i = x.1 0 by omega]; exact q
    | succ k ih =>
      intro i s hi hs
      refine z_iload_n rfl rfl ?_
      refine z_aload_n rfl rfl ?_
      refine z_callV (av := []) rfl z_w27 hC.1 rfl rfl rfl rfl rfl (Nat.le_of_ble_eq_true rfl) (Nat.le_of_ble_eq_true rfl) (Nat.le_of_ble_eq_true rfl) (Nat.le_of_ble_eq_true rfl) (cC_count hC ?_)
      refine z_icmp_ge rfl (fun c9 => absurd c9 (show ¬ nI (x.1 0) ≤ nI i from fun q9 => absurd ((nI_leI (by omega) (by omega)).mp q9) (by omega))) (fun c9 => ?_)
      refine z_iload_n rfl rfl ?_
      refine z_iload_n rfl rfl ?_
      refine z_icmp_eq rfl (fun c14 => ?_) (fun c14 => ?_)
      · refine z_iinc1 rfl rfl (by decide +kernel) rfl ?_
        exact z_goto rfl (ih (i + 1) _ (by omega) (by subst hs; exact (if_neg (by simp [c14])).symm))
      · refine z_aload_n rfl rfl ?_
        refine z_iload_n rfl rfl ?_
        refine z_iload_n rfl rfl ?_
        refine z_callV (av := [_, _]) rfl z_w31 hC.1 rfl rfl rfl rfl rfl (Nat.le_of_ble_eq_true rfl) (Nat.le_of_ble_eq_true rfl) (Nat.le_of_ble_eq_true rfl) (Nat.le_of_ble_eq_true rfl) (cC_areAgreed hC ?_)
        refine z_if_eq rfl (fun c23 => ?_) (fun c23 => ?_)
        · refine z_iinc1 rfl rfl (by decide +kernel) rfl ?_
          exact z_goto rfl (ih (i + 1) _ (by omega) (by subst hs; exact (if_neg (by simp [(z_bI _).mp c23])).symm))
        · refine z_iload_n rfl rfl ?_
          refine z_iconst (v := 1) rfl (by decide) ?_
          refine z_iload_n rfl rfl ?_
          refine z_ishl rfl ?_
          refine z_ior rfl ?_
          refine z_istore_n rfl (by decide +kernel) rfl ?_
          refine z_iinc1 rfl rfl (by decide +kernel) rfl ?_
          exact z_goto rfl (ih (i + 1) _ (by omega) (by subst hs; exact (if_pos (by simp [c14, show z_agr x p (nI i) = true from by simpa [z_bI] using c23])).symm))
  refine z_iconst (v := 0) rfl (by decide) ?_
  refine z_istore_n rfl (by decide +kernel) rfl ?_
  refine z_iconst (v := nI 0) rfl (by decide) ?_
  refine z_istore_n rfl (by decide +kernel) rfl ?_
  exact loop (x.1 0) 0 0 (by omega) rfl
theorem cC_reachedFrom {p : Int32} (hC : z_Cl h c x) (q : Q (.inl (some (.int (z_rcd x p)))) h) : z_W G 5 0 0 42 0 (z_L0 42 [.ref c, .int p]) [] h Q := by
  have hn : x.1 0 ≤ 8 := (hC.2 0 (by decide)).fits.1
  have loop2 : ∀ (r : Nat) (s0 : Int32), (z_W G 5 0 0 42 50 [.ref c, .int p, .int (z_rch x s0), .int (nI r), .int (nI (x.1 0))] [] h Q) → ∀ (k i : Nat) (s : Int32), i + k = x.1 0 → s = z_fold (fun s o => if z_isIn s (nI o) = true then s ||| z_agw x (nI o) else s) s0 i → z_W G 5 0 0 42 17 [.ref c, .int p, .int s, .int (nI r), .int (nI i)] [] h Q := by
    intro r s0 w k
    induction k with
    | zero =>
      intro i s hi hs
      refine z_iload rfl rfl ?_
      refine z_aload_n rfl rfl ?_
      refine z_callV (av := []) rfl z_w27 hC.1 rfl rfl rfl rfl rfl (Nat.le_of_ble_eq_true rfl) (Nat.le_of_ble_eq_true rfl) (Nat.le_of_ble_eq_true rfl) (Nat.le_of_ble_eq_true rfl) (cC_count hC ?_)
      refine z_icmp_ge rfl (fun c23 => ?_) (fun c23 => absurd (show nI (x.1 0) ≤ nI i from (nI_leI (by omega) (by omega)).mpr (by omega)) c23)
      subst hs; rw [show i = x.1 0 by omega]; exact w
    | succ k ih =>
      intro i s hi hs
      refine z_iload rfl rfl ?_
      refine z_aload_n rfl rfl ?_
      refine z_callV (av := []) rfl z_w27 hC.1 rfl rfl rfl rfl rfl (Nat.le_of_ble_eq_true rfl) (Nat.le_of_ble_eq_true rfl) (Nat.le_of_ble_eq_true rfl) (Nat.le_of_ble_eq_true rfl) (cC_count hC ?_)
      refine z_icmp_ge rfl (fun c23 => absurd c23 (show ¬ nI (x.1 0) ≤ nI i from fun q9 => absurd ((nI_leI (by omega) (by omega)).mp q9) (by omega))) (fun c23 => ?_)
      refine z_iload_n rfl rfl ?_
      refine z_iload rfl rfl ?_
      refine z_callSN (av := [_, _]) rfl z_w159 rfl rfl rfl rfl (Nat.le_of_ble_eq_true rfl) (Nat.le_of_ble_eq_true rfl) (Nat.le_of_ble_eq_true rfl) (Nat.le_of_ble_eq_true rfl) (c_isIn ?_)
      refine z_if_eq rfl (fun c32 => ?_) (fun c32 => ?_)
      · refine z_iinc1 rfl rfl (by decide +kernel) rfl ?_
        exact z_goto rfl (ih (i + 1) _ (by omega) (by subst hs; exact (if_neg (by rw [(z_bI _).mp c32]; decide)).symm))
      · refine z_iload_n rfl rfl ?_
        refine z_aload_n rfl rfl ?_
        refine z_iload rfl rfl ?_
        refine z_callV (av := [_]) rfl z_w41 hC.1 rfl rfl rfl rfl rfl (Nat.le_of_ble_eq_true rfl) (Nat.le_of_ble_eq_true rfl) (Nat.le_of_ble_eq_true rfl) (Nat.le_of_ble_eq_true rfl) (cC_agreeingWith hC ?_)
        refine z_ior rfl ?_
        refine z_istore_n rfl (by decide +kernel) rfl ?_
        refine z_iinc1 rfl rfl (by decide +kernel) rfl ?_
        exact z_goto rfl (ih (i + 1) _ (by omega) (by subst hs; exact (if_pos (by simpa [z_bI] using c32)).symm))
  have loop : ∀ (k i : Nat) (s : Int32) (L4 : Value), i + k = x.1 0 → s = z_fold (fun s _ => z_rch x s) (1 <<< (p &&& 31)) i → z_W G 5 0 0 42 6 [.ref c, .int p, .int s, .int (nI i), L4] [] h Q := by
    intro k
    induction k with
    | zero =>
      intro i s L4 hi hs
      refine z_iload_n rfl rfl ?_
      refine z_aload_n rfl rfl ?_
      refine z_callV (av := []) rfl z_w27 hC.1 rfl rfl rfl rfl rfl (Nat.le_of_ble_eq_true rfl) (Nat.le_of_ble_eq_true rfl) (Nat.le_of_ble_eq_true rfl) (Nat.le_of_ble_eq_true rfl) (cC_count hC ?_)
      refine z_icmp_ge rfl (fun c11 => ?_) (fun c11 => absurd (show nI (x.1 0) ≤ nI i from (nI_leI (by omega) (by omega)).mpr (by omega)) c11)
      refine z_iload_n rfl rfl ?_
      refine z_iret rfl rfl ?_
      subst hs; rw [show i = x.1 0 by omega]; exact q
    | succ k ih =>
      intro i s L4 hi hs
      refine z_iload_n rfl rfl ?_
      refine z_aload_n rfl rfl ?_
      refine z_callV (av := []) rfl z_w27 hC.1 rfl rfl rfl rfl rfl (Nat.le_of_ble_eq_true rfl) (Nat.le_of_ble_eq_true rfl) (Nat.le_of_ble_eq_true rfl) (Nat.le_of_ble_eq_true rfl) (cC_count hC ?_)
      refine z_icmp_ge rfl (fun c11 => absurd c11 (show ¬ nI (x.1 0) ≤ nI i from fun q9 => absurd ((nI_leI (by omega) (by omega)).mp q9) (by omega))) (fun c11 => ?_)
      refine z_iconst (v := nI 0) rfl (by decide) ?_
      refine z_istore rfl (by decide +kernel) rfl ?_
      refine loop2 i s ?_ (x.1 0) 0 s (by omega) rfl
      refine z_iinc1 rfl rfl (by decide +kernel) rfl ?_
      exact z_goto rfl (ih (i + 1) _ _ (by omega) (by subst hs; rfl))
  refine z_iconst (v := 1) rfl (by decide) ?_
  refine z_iload_n rfl rfl ?_
  refine z_ishl rfl ?_
  refine z_istore_n rfl (by decide +kernel) rfl ?_
  refine z_iconst (v := nI 0) rfl (by decide) ?_
  refine z_istore_n rfl (by decide +kernel) rfl ?_
  exact loop (x.1 0) 0 _ _ (by omega) rfl
theorem cC_weakestOfAll (hC : z_Cl h c x) (q : Q (.inl (some (.int (z_wk x)))) h) : z_W G 2 0 0 43 0 (z_L0 43 [.ref c]) [] h Q := by
  have hn : x.1 0 ≤ 8 := (hC.2 0 (by decide)).fits.1
  have loop : ∀ (k i : Nat) (s : Int32), i + k = x.1 0 - 1 → s = z_fold (fun w i => if z_a x 1 (nI (i + 1)) < z_a x 1 w then nI (i + 1) else w) 0 i → z_W G 2 0 0 43 4 [.ref c, .int s, .int (nI (i + 1))] [] h Q := by
    intro k
    induction k with
    | zero =>
      intro i s hi hs
      refine z_iload_n rfl rfl ?_
      refine z_aload_n rfl rfl ?_
      refine z_callV (av := []) rfl z_w27 hC.1 rfl rfl rfl rfl rfl (Nat.le_of_ble_eq_true rfl) (Nat.le_of_ble_eq_true rfl) (Nat.le_of_ble_eq_true rfl) (Nat.le_of_ble_eq_true rfl) (cC_count hC ?_)
      refine z_icmp_ge rfl (fun c9 => ?_) (fun c9 => absurd (show nI (x.1 0) ≤ nI (i + 1) from (nI_leI (by omega) (by omega)).mpr (by omega)) c9)
      refine z_iload_n rfl rfl ?_
      refine z_iret rfl rfl ?_
      subst hs; rw [show i = x.1 0 - 1 by omega]; exact q
    | succ k ih =>
      intro i s hi hs
      refine z_iload_n rfl rfl ?_
      refine z_aload_n rfl rfl ?_
      refine z_callV (av := []) rfl z_w27 hC.1 rfl rfl rfl rfl rfl (Nat.le_of_ble_eq_true rfl) (Nat.le_of_ble_eq_true rfl) (Nat.le_of_ble_eq_true rfl) (Nat.le_of_ble_eq_true rfl) (cC_count hC ?_)
      refine z_icmp_ge rfl (fun c9 => absurd c9 (show ¬ nI (x.1 0) ≤ nI (i + 1) from fun q9 => absurd ((nI_leI (by omega) (by omega)).mp q9) (by omega))) (fun c9 => ?_)
      refine z_aload_n rfl rfl ?_
      refine z_get rfl hC.1 rfl ?_
      refine z_iload_n rfl rfl ?_
      refine z_callV (av := [_]) rfl z_w3 (hC.2 1 (by decide)).1 rfl rfl rfl rfl rfl (Nat.le_of_ble_eq_true rfl) (Nat.le_of_ble_eq_true rfl) (Nat.le_of_ble_eq_true rfl) (Nat.le_of_ble_eq_true rfl) (z_Li.at hC (j := 1) (by decide) ?_)
      refine z_aload_n rfl rfl ?_
      refine z_get rfl hC.1 rfl ?_
      refine z_iload_n rfl rfl ?_
      refine z_callV (av := [_]) rfl z_w3 (hC.2 1 (by decide)).1 rfl rfl rfl rfl rfl (Nat.le_of_ble_eq_true rfl) (Nat.le_of_ble_eq_true rfl) (Nat.le_of_ble_eq_true rfl) (Nat.le_of_ble_eq_true rfl) (z_Li.at hC (j := 1) (by decide) ?_)
      refine z_icmp_ge rfl (fun c28 => ?_) (fun c28 => ?_)
      · refine z_iinc1 rfl rfl (by decide +kernel) rfl ?_
        exact z_goto rfl (ih (i + 1) _ (by omega) (by subst hs; exact (if_neg (Int32.not_lt.mpr c28)).symm))
      · refine z_iload_n rfl rfl ?_
        refine z_istore_n rfl (by decide +kernel) rfl ?_
        refine z_iinc1 rfl rfl (by decide +kernel) rfl ?_
        exact z_goto rfl (ih (i + 1) _ (by omega) (by subst hs; exact (if_pos (Int32.not_le.mp c28)).symm))
  refine z_iconst (v := 0) rfl (by decide) ?_
  refine z_istore_n rfl (by decide +kernel) rfl ?_
  refine z_iconst (v := nI (0 + 1)) rfl (by decide) ?_
  refine z_istore_n rfl (by decide +kernel) rfl ?_
  exact loop (x.1 0 - 1) 0 0 (by omega) rfl
theorem cC_rankIn {a cap m : Nat} {f : Nat → Int32} {p : Int32} (hC : z_Cl h c x) (hV : z_Ns h a cap m f) (q : Q (.inl (some (.int (nI (z_rnk (x.1 0) m f p))))) h) : z_W G 2 0 0 46 0 (z_L0 46 [.ref c, .ref a, .int p]) [] h Q := by
  have hn : x.1 0 ≤ 8 := (hC.2 0 (by decide)).fits.1
  have loop : ∀ (k i : Nat) (s : Nat) (L5 : Value), i + k = x.1 0 → s = z_rnk i m f p → z_W G 2 0 0 46 5 [.ref c, .ref a, .int p, .int (nI s), .int (nI i), L5] [] h Q := by
    intro k
    induction k with
    | zero =>
      intro i s L5 hi hs
      refine z_iload rfl rfl ?_
      refine z_aload_n rfl rfl ?_
      refine z_callV (av := []) rfl z_w27 hC.1 rfl rfl rfl rfl rfl (Nat.le_of_ble_eq_true rfl) (Nat.le_of_ble_eq_true rfl) (Nat.le_of_ble_eq_true rfl) (Nat.le_of_ble_eq_true rfl) (cC_count hC ?_)
      refine z_icmp_ge rfl (fun c11 => ?_) (fun c11 => absurd (show nI (x.1 0) ≤ nI i from (nI_leI (by omega) (by omega)).mpr (by omega)) c11)
      refine z_iload_n rfl rfl ?_
      refine z_iret rfl rfl ?_
      subst hs; rw [show i = x.1 0 by omega]; exact q
    | succ k ih =>
      intro i s L5 hi hs
      have e0 : z_rnk (i + 1) m f p = z_rnk i m f p + if (decide (0 < z_atV f m (nI i) - z_atV f m p) || (decide (z_atV f m (nI i) - z_atV f m p = 0) && decide (nI i < p))) = true then 1 else 0 := rfl
      refine z_iload rfl rfl ?_
      refine z_aload_n rfl rfl ?_
      refine z_callV (av := []) rfl z_w27 hC.1 rfl rfl rfl rfl rfl (Nat.le_of_ble_eq_true rfl) (Nat.le_of_ble_eq_true rfl) (Nat.le_of_ble_eq_true rfl) (Nat.le_of_ble_eq_true rfl) (cC_count hC ?_)
      refine z_icmp_ge rfl (fun c11 => absurd c11 (show ¬ nI (x.1 0) ≤ nI i from fun q9 => absurd ((nI_leI (by omega) (by omega)).mp q9) (by omega))) (fun c11 => ?_)
      refine z_aload_n rfl rfl ?_
      refine z_iload rfl rfl ?_
      refine z_callV (av := [_]) rfl z_w3 hV.1 rfl rfl rfl rfl rfl (Nat.le_of_ble_eq_true rfl) (Nat.le_of_ble_eq_true rfl) (Nat.le_of_ble_eq_true rfl) (Nat.le_of_ble_eq_true rfl) (cs_at hV ?_)
      refine z_aload_n rfl rfl ?_
      refine z_iload_n rfl rfl ?_
      refine z_callV (av := [_]) rfl z_w3 hV.1 rfl rfl rfl rfl rfl (Nat.le_of_ble_eq_true rfl) (Nat.le_of_ble_eq_true rfl) (Nat.le_of_ble_eq_true rfl) (Nat.le_of_ble_eq_true rfl) (cs_at hV ?_)
      refine z_isub rfl ?_
      refine z_istore rfl (by decide +kernel) rfl ?_
      refine z_iload rfl rfl ?_
      refine z_if_gt rfl (fun c30 => ?_) (fun c30 => ?_)
      · refine z_iinc1 rfl rfl (by decide +kernel) rfl ?_
        refine z_iinc1 rfl rfl (by decide +kernel) rfl ?_
        exact z_goto rfl (ih (i + 1) _ _ (by omega) (by subst hs; rw [e0, if_pos (by simp [c30])]))
      · refine z_iload rfl rfl ?_
        refine z_if_ne rfl (fun c35 => ?_) (fun c35 => ?_)
        · refine z_iinc1 rfl rfl (by decide +kernel) rfl ?_
          exact z_goto rfl (ih (i + 1) _ _ (by omega) (by subst hs; rw [e0, if_neg (by rw [Int32.not_lt] at c30; simp [c30, c35])]; rfl))
        · refine z_iload rfl rfl ?_
          refine z_iload_n rfl rfl ?_
          refine z_icmp_ge rfl (fun c41 => ?_) (fun c41 => ?_)
          · refine z_iinc1 rfl rfl (by decide +kernel) rfl ?_
            exact z_goto rfl (ih (i + 1) _ _ (by omega) (by subst hs; rw [e0, if_neg (by simp [c35, c41])]; rfl))
          · refine z_iinc1 rfl rfl (by decide +kernel) rfl ?_
            refine z_iinc1 rfl rfl (by decide +kernel) rfl ?_
            exact z_goto rfl (ih (i + 1) _ _ (by omega) (by subst hs; rw [e0, if_pos (by rw [Int32.not_le] at c41; simp [c35, c41])]))
  refine z_iconst (v := nI 0) rfl (by decide) ?_
  refine z_istore_n rfl (by decide +kernel) rfl ?_
  refine z_iconst (v := nI 0) rfl (by decide) ?_
  refine z_istore rfl (by decide +kernel) rfl ?_
  exact loop (x.1 0) 0 0 _ (by omega) rfl
theorem cC_copyFrom {o : Nat} {y : z_LV} (hC : z_Cl h c x) (hO : z_Cl h o y) (hd : o + 11 ≤ c ∨ c + 11 ≤ o) (q : ∀ h', z_Cl h' c y → z_Fr c 11 h h' → Q (.inl none) h') : z_W G 1 0 0 47 0 (z_L0 47 [.ref c, .ref o]) [] h Q := by
  refine z_aload_n rfl rfl ?_
  refine z_get rfl hC.1 rfl ?_
  refine z_aload_n rfl rfl ?_
  refine z_get rfl hO.1 rfl ?_
  refine z_callV (av := [_]) rfl z_w13 (hC.2 0 (by decide)).1 rfl rfl rfl rfl rfl (Nat.le_of_ble_eq_true rfl) (Nat.le_of_ble_eq_true rfl) (Nat.le_of_ble_eq_true rfl) (Nat.le_of_ble_eq_true rfl) (z_Li.copy hC (j := 0) (by decide) (hO.2 0 (by decide)) (by omega) (hO.2 0 (by decide)).fits.1 (fun h1 hC1 hF1 => ?_))
  have kO1 := hO.kept hF1 (by omega)
  refine z_aload_n rfl rfl ?_
  refine z_get rfl hC1.1 rfl ?_
  refine z_aload_n rfl rfl ?_
  refine z_get rfl kO1.1 rfl ?_
  refine z_callV (av := [_]) rfl z_w13 (hC1.2 1 (by decide)).1 rfl rfl rfl rfl rfl (Nat.le_of_ble_eq_true rfl) (Nat.le_of_ble_eq_true rfl) (Nat.le_of_ble_eq_true rfl) (Nat.le_of_ble_eq_true rfl) (z_Li.copy hC1 (j := 1) (by decide) (kO1.2 1 (by decide)) (by omega) (kO1.2 1 (by decide)).fits.1 (fun h2 hC2 hF2 => ?_))
  have kO2 := kO1.kept hF2 (by omega)
  refine z_aload_n rfl rfl ?_
  refine z_get rfl hC2.1 rfl ?_
  refine z_aload_n rfl rfl ?_
  refine z_get rfl kO2.1 rfl ?_
  refine z_callV (av := [_]) rfl z_w13 (hC2.2 2 (by decide)).1 rfl rfl rfl rfl rfl (Nat.le_of_ble_eq_true rfl) (Nat.le_of_ble_eq_true rfl) (Nat.le_of_ble_eq_true rfl) (Nat.le_of_ble_eq_true rfl) (z_Li.copy hC2 (j := 2) (by decide) (kO2.2 2 (by decide)) (by omega) (kO2.2 2 (by decide)).fits.1 (fun h3 hC3 hF3 => ?_))
  have kO3 := kO2.kept hF3 (by omega)
  refine z_aload_n rfl rfl ?_
  refine z_get rfl hC3.1 rfl ?_
  refine z_aload_n rfl rfl ?_
  refine z_get rfl kO3.1 rfl ?_
  refine z_callV (av := [_]) rfl z_w13 (hC3.2 3 (by decide)).1 rfl rfl rfl rfl rfl (Nat.le_of_ble_eq_true rfl) (Nat.le_of_ble_eq_true rfl) (Nat.le_of_ble_eq_true rfl) (Nat.le_of_ble_eq_true rfl) (z_Li.copy hC3 (j := 3) (by decide) (kO3.2 3 (by decide)) (by omega) (kO3.2 3 (by decide)).fits.1 (fun h4 hC4 hF4 => ?_))
  have kO4 := kO3.kept hF4 (by omega)
  refine z_aload_n rfl rfl ?_
  refine z_get rfl hC4.1 rfl ?_
  refine z_aload_n rfl rfl ?_
  refine z_get rfl kO4.1 rfl ?_
  refine z_callV (av := [_]) rfl z_w13 (hC4.2 4 (by decide)).1 rfl rfl rfl rfl rfl (Nat.le_of_ble_eq_true rfl) (Nat.le_of_ble_eq_true rfl) (Nat.le_of_ble_eq_true rfl) (Nat.le_of_ble_eq_true rfl) (z_Li.copy hC4 (j := 4) (by decide) (kO4.2 4 (by decide)) (by omega) (kO4.2 4 (by decide)).fits.1 (fun h5 hC5 hF5 => ?_))
  have kO5 := kO4.kept hF5 (by omega)
  refine z_vret rfl rfl ?_
  exact q _ (hC5.eqv (z_five ⟨rfl, fun _ _ => rfl⟩ ⟨rfl, fun _ _ => rfl⟩ ⟨rfl, fun _ _ => rfl⟩ ⟨rfl, fun _ _ => rfl⟩ ⟨rfl, fun _ _ => rfl⟩)) ((((hF1.trans hF2).trans hF3).trans hF4).trans hF5)
end ZCl
end
