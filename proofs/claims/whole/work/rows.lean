section
-- ===== PART A: goes FIRST, ahead of the names: the tables' words, and 'selects' of the private methods out of them =====
/-- a private method of a class that the tables say can be made, by its rows of tables_1 -/
def lw_okq (q : MethodName × Nat) : Prop := (q.1.cls ≠ "java/lang/invoke/MethodHandle" ∧ q.1.cls ≠ "java/lang/invoke/VarHandle") ∧ Cond.instantiable q.1.cls q.2 ∈ tables_1 ∧ Cond.privateMethod q.1 ∈ tables_1 ∧ Cond.instanceMethod q.1 ∈ tables_1
theorem lw_p0 : lw_okq (⟨"BiscuitLocks$Lock", "turnUntilFitting", "(II)I"⟩, 4) := ⟨⟨by decide +kernel, by decide +kernel⟩, List.mem_of_getElem? (i := 50) (by decide +kernel), List.mem_of_getElem? (i := 314) (by decide +kernel), List.mem_of_getElem? (i := 315) (by decide +kernel)⟩
theorem lw_p1 : lw_okq (⟨"java/lang/Throwable", "fillInStackTrace", "(I)Ljava/lang/Throwable;"⟩, 6) := ⟨⟨by decide +kernel, by decide +kernel⟩, List.mem_of_getElem? (i := 564) (by decide +kernel), List.mem_of_getElem? (i := 562) (by decide +kernel), List.mem_of_getElem? (i := 563) (by decide +kernel)⟩
theorem lw_p2 : lw_okq (⟨"BiscuitLocks", "change", "(LBiscuitLocks$Command;IIII)I"⟩, 9) := ⟨⟨by decide +kernel, by decide +kernel⟩, List.mem_of_getElem? (i := 35) (by decide +kernel), List.mem_of_getElem? (i := 717) (by decide +kernel), List.mem_of_getElem? (i := 718) (by decide +kernel)⟩
theorem lw_p3 : lw_okq (⟨"BiscuitLocks$House", "refusalOfDoor", "(III)LBiscuitLocks$Refusal;"⟩, 14) := ⟨⟨by decide +kernel, by decide +kernel⟩, List.mem_of_getElem? (i := 43) (by decide +kernel), List.mem_of_getElem? (i := 733) (by decide +kernel), List.mem_of_getElem? (i := 734) (by decide +kernel)⟩
theorem lw_p4 : lw_okq (⟨"BiscuitLocks$House", "refusalOfTurn", "(III)LBiscuitLocks$Refusal;"⟩, 14) := ⟨⟨by decide +kernel, by decide +kernel⟩, List.mem_of_getElem? (i := 43) (by decide +kernel), List.mem_of_getElem? (i := 749) (by decide +kernel), List.mem_of_getElem? (i := 750) (by decide +kernel)⟩
theorem lw_p5 : lw_okq (⟨"BiscuitLocks$House", "refusalOfTry", "(I)LBiscuitLocks$Refusal;"⟩, 14) := ⟨⟨by decide +kernel, by decide +kernel⟩, List.mem_of_getElem? (i := 43) (by decide +kernel), List.mem_of_getElem? (i := 766) (by decide +kernel), List.mem_of_getElem? (i := 767) (by decide +kernel)⟩
theorem lw_p6 : lw_okq (⟨"BiscuitLocks$House", "refusalOfShut", "(I)LBiscuitLocks$Refusal;"⟩, 14) := ⟨⟨by decide +kernel, by decide +kernel⟩, List.mem_of_getElem? (i := 43) (by decide +kernel), List.mem_of_getElem? (i := 770) (by decide +kernel), List.mem_of_getElem? (i := 771) (by decide +kernel)⟩
theorem lw_p7 : lw_okq (⟨"BiscuitLocks$House", "refusalOfBake", "(II)LBiscuitLocks$Refusal;"⟩, 14) := ⟨⟨by decide +kernel, by decide +kernel⟩, List.mem_of_getElem? (i := 43) (by decide +kernel), List.mem_of_getElem? (i := 777) (by decide +kernel), List.mem_of_getElem? (i := 778) (by decide +kernel)⟩
theorem lw_p8 : lw_okq (⟨"BiscuitLocks$House", "refusalOfSet", "(IIII)LBiscuitLocks$Refusal;"⟩, 14) := ⟨⟨by decide +kernel, by decide +kernel⟩, List.mem_of_getElem? (i := 43) (by decide +kernel), List.mem_of_getElem? (i := 784) (by decide +kernel), List.mem_of_getElem? (i := 785) (by decide +kernel)⟩
theorem lw_p9 : lw_okq (⟨"BiscuitLocks$House", "addLock", "(III)I"⟩, 14) := ⟨⟨by decide +kernel, by decide +kernel⟩, List.mem_of_getElem? (i := 43) (by decide +kernel), List.mem_of_getElem? (i := 853) (by decide +kernel), List.mem_of_getElem? (i := 854) (by decide +kernel)⟩
theorem lw_p10 : lw_okq (⟨"BiscuitLocks$Lock", "setPosition", "(II)I"⟩, 4) := ⟨⟨by decide +kernel, by decide +kernel⟩, List.mem_of_getElem? (i := 50) (by decide +kernel), List.mem_of_getElem? (i := 861) (by decide +kernel), List.mem_of_getElem? (i := 862) (by decide +kernel)⟩
theorem lw_p11 : lw_okq (⟨"BiscuitLocks$House", "tryDoor", "(I)Z"⟩, 14) := ⟨⟨by decide +kernel, by decide +kernel⟩, List.mem_of_getElem? (i := 43) (by decide +kernel), List.mem_of_getElem? (i := 866) (by decide +kernel), List.mem_of_getElem? (i := 867) (by decide +kernel)⟩
theorem lw_p12 : lw_okq (⟨"BiscuitLocks$House", "replaceDamp", "(I)I"⟩, 14) := ⟨⟨by decide +kernel, by decide +kernel⟩, List.mem_of_getElem? (i := 43) (by decide +kernel), List.mem_of_getElem? (i := 880) (by decide +kernel), List.mem_of_getElem? (i := 881) (by decide +kernel)⟩
theorem lw_p13 : lw_okq (⟨"BiscuitLocks$House", "putIn", "(II)I"⟩, 14) := ⟨⟨by decide +kernel, by decide +kernel⟩, List.mem_of_getElem? (i := 43) (by decide +kernel), List.mem_of_getElem? (i := 884) (by decide +kernel), List.mem_of_getElem? (i := 885) (by decide +kernel)⟩
theorem lw_p14 : lw_okq (⟨"BiscuitLocks$House", "driftShutLocks", "(I)V"⟩, 14) := ⟨⟨by decide +kernel, by decide +kernel⟩, List.mem_of_getElem? (i := 43) (by decide +kernel), List.mem_of_getElem? (i := 896) (by decide +kernel), List.mem_of_getElem? (i := 897) (by decide +kernel)⟩
theorem lw_p15 : lw_okq (⟨"BiscuitLocks$House", "bakeOn", "(I)V"⟩, 14) := ⟨⟨by decide +kernel, by decide +kernel⟩, List.mem_of_getElem? (i := 43) (by decide +kernel), List.mem_of_getElem? (i := 900) (by decide +kernel), List.mem_of_getElem? (i := 901) (by decide +kernel)⟩
def lw_privs_1 : List (MethodName × Nat) := [(⟨"BiscuitLocks$Lock", "turnUntilFitting", "(II)I"⟩, 4), (⟨"java/lang/Throwable", "fillInStackTrace", "(I)Ljava/lang/Throwable;"⟩, 6), (⟨"BiscuitLocks", "change", "(LBiscuitLocks$Command;IIII)I"⟩, 9), (⟨"BiscuitLocks$House", "refusalOfDoor", "(III)LBiscuitLocks$Refusal;"⟩, 14), (⟨"BiscuitLocks$House", "refusalOfTurn", "(III)LBiscuitLocks$Refusal;"⟩, 14), (⟨"BiscuitLocks$House", "refusalOfTry", "(I)LBiscuitLocks$Refusal;"⟩, 14), (⟨"BiscuitLocks$House", "refusalOfShut", "(I)LBiscuitLocks$Refusal;"⟩, 14), (⟨"BiscuitLocks$House", "refusalOfBake", "(II)LBiscuitLocks$Refusal;"⟩, 14), (⟨"BiscuitLocks$House", "refusalOfSet", "(IIII)LBiscuitLocks$Refusal;"⟩, 14), (⟨"BiscuitLocks$House", "addLock", "(III)I"⟩, 14), (⟨"BiscuitLocks$Lock", "setPosition", "(II)I"⟩, 4), (⟨"BiscuitLocks$House", "tryDoor", "(I)Z"⟩, 14), (⟨"BiscuitLocks$House", "replaceDamp", "(I)I"⟩, 14), (⟨"BiscuitLocks$House", "putIn", "(II)I"⟩, 14), (⟨"BiscuitLocks$House", "driftShutLocks", "(I)V"⟩, 14), (⟨"BiscuitLocks$House", "bakeOn", "(I)V"⟩, 14)]
theorem lw_r1 : ∀ q ∈ lw_privs_1, lw_okq q := List.forall_mem_cons.mpr ⟨lw_p0, List.forall_mem_cons.mpr ⟨lw_p1, List.forall_mem_cons.mpr ⟨lw_p2, List.forall_mem_cons.mpr ⟨lw_p3, List.forall_mem_cons.mpr ⟨lw_p4, List.forall_mem_cons.mpr ⟨lw_p5, List.forall_mem_cons.mpr ⟨lw_p6, List.forall_mem_cons.mpr ⟨lw_p7, List.forall_mem_cons.mpr ⟨lw_p8, List.forall_mem_cons.mpr ⟨lw_p9, List.forall_mem_cons.mpr ⟨lw_p10, List.forall_mem_cons.mpr ⟨lw_p11, List.forall_mem_cons.mpr ⟨lw_p12, List.forall_mem_cons.mpr ⟨lw_p13, List.forall_mem_cons.mpr ⟨lw_p14, List.forall_mem_cons.mpr ⟨lw_p15, fun _ h => absurd h List.not_mem_nil⟩⟩⟩⟩⟩⟩⟩⟩⟩⟩⟩⟩⟩⟩⟩⟩
theorem lw_p16 : lw_okq (⟨"BiscuitLocks", "lockOf", "(I)LBiscuitLocks$Lock;"⟩, 9) := ⟨⟨by decide +kernel, by decide +kernel⟩, List.mem_of_getElem? (i := 35) (by decide +kernel), List.mem_of_getElem? (i := 982) (by decide +kernel), List.mem_of_getElem? (i := 983) (by decide +kernel)⟩
theorem lw_p17 : lw_okq (⟨"BiscuitLocks$House", "comesBefore", "(II)Z"⟩, 14) := ⟨⟨by decide +kernel, by decide +kernel⟩, List.mem_of_getElem? (i := 43) (by decide +kernel), List.mem_of_getElem? (i := 1141) (by decide +kernel), List.mem_of_getElem? (i := 1142) (by decide +kernel)⟩
theorem lw_p18 : lw_okq (⟨"BiscuitLocks", "requireRemembered", "(I)V"⟩, 9) := ⟨⟨by decide +kernel, by decide +kernel⟩, List.mem_of_getElem? (i := 35) (by decide +kernel), List.mem_of_getElem? (i := 1154) (by decide +kernel), List.mem_of_getElem? (i := 1155) (by decide +kernel)⟩
theorem lw_p19 : lw_okq (⟨"BiscuitLocks", "appendPositions", "([I)V"⟩, 9) := ⟨⟨by decide +kernel, by decide +kernel⟩, List.mem_of_getElem? (i := 35) (by decide +kernel), List.mem_of_getElem? (i := 1205) (by decide +kernel), List.mem_of_getElem? (i := 1206) (by decide +kernel)⟩
theorem lw_p20 : lw_okq (⟨"BiscuitLocks$Script", "countMatching", "(Ljava/lang/String;I)I"⟩, 3) := ⟨⟨by decide +kernel, by decide +kernel⟩, List.mem_of_getElem? (i := 151) (by decide +kernel), List.mem_of_getElem? (i := 1253) (by decide +kernel), List.mem_of_getElem? (i := 1254) (by decide +kernel)⟩
theorem lw_p21 : lw_okq (⟨"BiscuitLocks$Script", "canEndAt", "(I)Z"⟩, 3) := ⟨⟨by decide +kernel, by decide +kernel⟩, List.mem_of_getElem? (i := 151) (by decide +kernel), List.mem_of_getElem? (i := 1279) (by decide +kernel), List.mem_of_getElem? (i := 1280) (by decide +kernel)⟩
theorem lw_p22 : lw_okq (⟨"BiscuitLocks$Script", "readNumbers", "(Ljava/lang/String;I)V"⟩, 3) := ⟨⟨by decide +kernel, by decide +kernel⟩, List.mem_of_getElem? (i := 151) (by decide +kernel), List.mem_of_getElem? (i := 1283) (by decide +kernel), List.mem_of_getElem? (i := 1284) (by decide +kernel)⟩
theorem lw_p23 : lw_okq (⟨"BiscuitLocks", "carryOutCommands", "(I)I"⟩, 9) := ⟨⟨by decide +kernel, by decide +kernel⟩, List.mem_of_getElem? (i := 35) (by decide +kernel), List.mem_of_getElem? (i := 1289) (by decide +kernel), List.mem_of_getElem? (i := 1290) (by decide +kernel)⟩
theorem lw_p24 : lw_okq (⟨"BiscuitLocksModel", "keeps", "()V"⟩, 18) := ⟨⟨by decide +kernel, by decide +kernel⟩, List.mem_of_getElem? (i := 1332) (by decide +kernel), List.mem_of_getElem? (i := 1401) (by decide +kernel), List.mem_of_getElem? (i := 1402) (by decide +kernel)⟩
theorem lw_p25 : lw_okq (⟨"BiscuitLocksModel", "doors", "(III)I"⟩, 18) := ⟨⟨by decide +kernel, by decide +kernel⟩, List.mem_of_getElem? (i := 1332) (by decide +kernel), List.mem_of_getElem? (i := 1408) (by decide +kernel), List.mem_of_getElem? (i := 1409) (by decide +kernel)⟩
theorem lw_p26 : lw_okq (⟨"BiscuitLocksModel", "isThrown", "(ZI)Z"⟩, 18) := ⟨⟨by decide +kernel, by decide +kernel⟩, List.mem_of_getElem? (i := 1332) (by decide +kernel), List.mem_of_getElem? (i := 1418) (by decide +kernel), List.mem_of_getElem? (i := 1419) (by decide +kernel)⟩
theorem lw_p27 : lw_okq (⟨"BiscuitLocksModel", "combines", "(IIII)V"⟩, 18) := ⟨⟨by decide +kernel, by decide +kernel⟩, List.mem_of_getElem? (i := 1332) (by decide +kernel), List.mem_of_getElem? (i := 1422) (by decide +kernel), List.mem_of_getElem? (i := 1423) (by decide +kernel)⟩
theorem lw_p28 : lw_okq (⟨"BiscuitLocksModel", "sets", "(III)V"⟩, 18) := ⟨⟨by decide +kernel, by decide +kernel⟩, List.mem_of_getElem? (i := 1332) (by decide +kernel), List.mem_of_getElem? (i := 1426) (by decide +kernel), List.mem_of_getElem? (i := 1427) (by decide +kernel)⟩
theorem lw_p29 : lw_okq (⟨"BiscuitLocksModel", "ends", "(I)I"⟩, 18) := ⟨⟨by decide +kernel, by decide +kernel⟩, List.mem_of_getElem? (i := 1332) (by decide +kernel), List.mem_of_getElem? (i := 1430) (by decide +kernel), List.mem_of_getElem? (i := 1431) (by decide +kernel)⟩
theorem lw_p30 : lw_okq (⟨"BiscuitLocksModel", "turns", "(III)I"⟩, 18) := ⟨⟨by decide +kernel, by decide +kernel⟩, List.mem_of_getElem? (i := 1332) (by decide +kernel), List.mem_of_getElem? (i := 1438) (by decide +kernel), List.mem_of_getElem? (i := 1439) (by decide +kernel)⟩
theorem lw_p31 : lw_okq (⟨"BiscuitLocksModel", "isDoor", "(I)Z"⟩, 18) := ⟨⟨by decide +kernel, by decide +kernel⟩, List.mem_of_getElem? (i := 1332) (by decide +kernel), List.mem_of_getElem? (i := 1442) (by decide +kernel), List.mem_of_getElem? (i := 1443) (by decide +kernel)⟩
def lw_privs_2 : List (MethodName × Nat) := [(⟨"BiscuitLocks", "lockOf", "(I)LBiscuitLocks$Lock;"⟩, 9), (⟨"BiscuitLocks$House", "comesBefore", "(II)Z"⟩, 14), (⟨"BiscuitLocks", "requireRemembered", "(I)V"⟩, 9), (⟨"BiscuitLocks", "appendPositions", "([I)V"⟩, 9), (⟨"BiscuitLocks$Script", "countMatching", "(Ljava/lang/String;I)I"⟩, 3), (⟨"BiscuitLocks$Script", "canEndAt", "(I)Z"⟩, 3), (⟨"BiscuitLocks$Script", "readNumbers", "(Ljava/lang/String;I)V"⟩, 3), (⟨"BiscuitLocks", "carryOutCommands", "(I)I"⟩, 9), (⟨"BiscuitLocksModel", "keeps", "()V"⟩, 18), (⟨"BiscuitLocksModel", "doors", "(III)I"⟩, 18), (⟨"BiscuitLocksModel", "isThrown", "(ZI)Z"⟩, 18), (⟨"BiscuitLocksModel", "combines", "(IIII)V"⟩, 18), (⟨"BiscuitLocksModel", "sets", "(III)V"⟩, 18), (⟨"BiscuitLocksModel", "ends", "(I)I"⟩, 18), (⟨"BiscuitLocksModel", "turns", "(III)I"⟩, 18), (⟨"BiscuitLocksModel", "isDoor", "(I)Z"⟩, 18)]
theorem lw_r2 : ∀ q ∈ lw_privs_2, lw_okq q := List.forall_mem_cons.mpr ⟨lw_p16, List.forall_mem_cons.mpr ⟨lw_p17, List.forall_mem_cons.mpr ⟨lw_p18, List.forall_mem_cons.mpr ⟨lw_p19, List.forall_mem_cons.mpr ⟨lw_p20, List.forall_mem_cons.mpr ⟨lw_p21, List.forall_mem_cons.mpr ⟨lw_p22, List.forall_mem_cons.mpr ⟨lw_p23, List.forall_mem_cons.mpr ⟨lw_p24, List.forall_mem_cons.mpr ⟨lw_p25, List.forall_mem_cons.mpr ⟨lw_p26, List.forall_mem_cons.mpr ⟨lw_p27, List.forall_mem_cons.mpr ⟨lw_p28, List.forall_mem_cons.mpr ⟨lw_p29, List.forall_mem_cons.mpr ⟨lw_p30, List.forall_mem_cons.mpr ⟨lw_p31, fun _ h => absurd h List.not_mem_nil⟩⟩⟩⟩⟩⟩⟩⟩⟩⟩⟩⟩⟩⟩⟩⟩
theorem lw_p32 : lw_okq (⟨"BiscuitLocksModel", "bakes", "(I)Z"⟩, 18) := ⟨⟨by decide +kernel, by decide +kernel⟩, List.mem_of_getElem? (i := 1332) (by decide +kernel), List.mem_of_getElem? (i := 1449) (by decide +kernel), List.mem_of_getElem? (i := 1450) (by decide +kernel)⟩
theorem lw_p33 : lw_okq (⟨"BiscuitLocksModel", "of", "(II)I"⟩, 18) := ⟨⟨by decide +kernel, by decide +kernel⟩, List.mem_of_getElem? (i := 1332) (by decide +kernel), List.mem_of_getElem? (i := 1453) (by decide +kernel), List.mem_of_getElem? (i := 1454) (by decide +kernel)⟩
theorem lw_p34 : lw_okq (⟨"BiscuitLocksModel", "tries", "(I)I"⟩, 18) := ⟨⟨by decide +kernel, by decide +kernel⟩, List.mem_of_getElem? (i := 1332) (by decide +kernel), List.mem_of_getElem? (i := 1461) (by decide +kernel), List.mem_of_getElem? (i := 1462) (by decide +kernel)⟩
theorem lw_p35 : lw_okq (⟨"BiscuitLocksModel", "open", "(I)Z"⟩, 18) := ⟨⟨by decide +kernel, by decide +kernel⟩, List.mem_of_getElem? (i := 1332) (by decide +kernel), List.mem_of_getElem? (i := 1465) (by decide +kernel), List.mem_of_getElem? (i := 1466) (by decide +kernel)⟩
theorem lw_p36 : lw_okq (⟨"BiscuitLocksModel", "playOf", "(I)I"⟩, 18) := ⟨⟨by decide +kernel, by decide +kernel⟩, List.mem_of_getElem? (i := 1332) (by decide +kernel), List.mem_of_getElem? (i := 1469) (by decide +kernel), List.mem_of_getElem? (i := 1470) (by decide +kernel)⟩
theorem lw_p37 : lw_okq (⟨"BiscuitLocksModel", "misfits", "(II)I"⟩, 18) := ⟨⟨by decide +kernel, by decide +kernel⟩, List.mem_of_getElem? (i := 1332) (by decide +kernel), List.mem_of_getElem? (i := 1473) (by decide +kernel), List.mem_of_getElem? (i := 1474) (by decide +kernel)⟩
theorem lw_p38 : lw_okq (⟨"BiscuitLocksModel", "away", "(II)I"⟩, 18) := ⟨⟨by decide +kernel, by decide +kernel⟩, List.mem_of_getElem? (i := 1332) (by decide +kernel), List.mem_of_getElem? (i := 1477) (by decide +kernel), List.mem_of_getElem? (i := 1478) (by decide +kernel)⟩
theorem lw_p39 : lw_okq (⟨"BiscuitLocksModel", "records", "(II)V"⟩, 18) := ⟨⟨by decide +kernel, by decide +kernel⟩, List.mem_of_getElem? (i := 1332) (by decide +kernel), List.mem_of_getElem? (i := 1484) (by decide +kernel), List.mem_of_getElem? (i := 1485) (by decide +kernel)⟩
theorem lw_p40 : lw_okq (⟨"BiscuitLocksModel", "shuts", "(I)I"⟩, 18) := ⟨⟨by decide +kernel, by decide +kernel⟩, List.mem_of_getElem? (i := 1332) (by decide +kernel), List.mem_of_getElem? (i := 1492) (by decide +kernel), List.mem_of_getElem? (i := 1493) (by decide +kernel)⟩
theorem lw_p41 : lw_okq (⟨"BiscuitLocksModel", "manyShut", "()I"⟩, 18) := ⟨⟨by decide +kernel, by decide +kernel⟩, List.mem_of_getElem? (i := 1332) (by decide +kernel), List.mem_of_getElem? (i := 1496) (by decide +kernel), List.mem_of_getElem? (i := 1497) (by decide +kernel)⟩
theorem lw_p42 : lw_okq (⟨"BiscuitLocksModel", "combined", "(IIII)I"⟩, 18) := ⟨⟨by decide +kernel, by decide +kernel⟩, List.mem_of_getElem? (i := 1332) (by decide +kernel), List.mem_of_getElem? (i := 1504) (by decide +kernel), List.mem_of_getElem? (i := 1505) (by decide +kernel)⟩
theorem lw_p43 : lw_okq (⟨"BiscuitLocksModel", "damps", "(I)I"⟩, 18) := ⟨⟨by decide +kernel, by decide +kernel⟩, List.mem_of_getElem? (i := 1332) (by decide +kernel), List.mem_of_getElem? (i := 1512) (by decide +kernel), List.mem_of_getElem? (i := 1513) (by decide +kernel)⟩
theorem lw_p44 : lw_okq (⟨"BiscuitLocksModel", "bakings", "(II)I"⟩, 18) := ⟨⟨by decide +kernel, by decide +kernel⟩, List.mem_of_getElem? (i := 1332) (by decide +kernel), List.mem_of_getElem? (i := 1520) (by decide +kernel), List.mem_of_getElem? (i := 1521) (by decide +kernel)⟩
theorem lw_p45 : lw_okq (⟨"BiscuitLocksModel", "ofOven", "(II)I"⟩, 18) := ⟨⟨by decide +kernel, by decide +kernel⟩, List.mem_of_getElem? (i := 1332) (by decide +kernel), List.mem_of_getElem? (i := 1527) (by decide +kernel), List.mem_of_getElem? (i := 1528) (by decide +kernel)⟩
theorem lw_p46 : lw_okq (⟨"BiscuitLocksModel", "setsOven", "(III)V"⟩, 18) := ⟨⟨by decide +kernel, by decide +kernel⟩, List.mem_of_getElem? (i := 1332) (by decide +kernel), List.mem_of_getElem? (i := 1531) (by decide +kernel), List.mem_of_getElem? (i := 1532) (by decide +kernel)⟩
theorem lw_p47 : lw_okq (⟨"BiscuitLocksModel", "waits", "(I)I"⟩, 18) := ⟨⟨by decide +kernel, by decide +kernel⟩, List.mem_of_getElem? (i := 1332) (by decide +kernel), List.mem_of_getElem? (i := 1539) (by decide +kernel), List.mem_of_getElem? (i := 1540) (by decide +kernel)⟩
def lw_privs_3 : List (MethodName × Nat) := [(⟨"BiscuitLocksModel", "bakes", "(I)Z"⟩, 18), (⟨"BiscuitLocksModel", "of", "(II)I"⟩, 18), (⟨"BiscuitLocksModel", "tries", "(I)I"⟩, 18), (⟨"BiscuitLocksModel", "open", "(I)Z"⟩, 18), (⟨"BiscuitLocksModel", "playOf", "(I)I"⟩, 18), (⟨"BiscuitLocksModel", "misfits", "(II)I"⟩, 18), (⟨"BiscuitLocksModel", "away", "(II)I"⟩, 18), (⟨"BiscuitLocksModel", "records", "(II)V"⟩, 18), (⟨"BiscuitLocksModel", "shuts", "(I)I"⟩, 18), (⟨"BiscuitLocksModel", "manyShut", "()I"⟩, 18), (⟨"BiscuitLocksModel", "combined", "(IIII)I"⟩, 18), (⟨"BiscuitLocksModel", "damps", "(I)I"⟩, 18), (⟨"BiscuitLocksModel", "bakings", "(II)I"⟩, 18), (⟨"BiscuitLocksModel", "ofOven", "(II)I"⟩, 18), (⟨"BiscuitLocksModel", "setsOven", "(III)V"⟩, 18), (⟨"BiscuitLocksModel", "waits", "(I)I"⟩, 18)]
theorem lw_r3 : ∀ q ∈ lw_privs_3, lw_okq q := List.forall_mem_cons.mpr ⟨lw_p32, List.forall_mem_cons.mpr ⟨lw_p33, List.forall_mem_cons.mpr ⟨lw_p34, List.forall_mem_cons.mpr ⟨lw_p35, List.forall_mem_cons.mpr ⟨lw_p36, List.forall_mem_cons.mpr ⟨lw_p37, List.forall_mem_cons.mpr ⟨lw_p38, List.forall_mem_cons.mpr ⟨lw_p39, List.forall_mem_cons.mpr ⟨lw_p40, List.forall_mem_cons.mpr ⟨lw_p41, List.forall_mem_cons.mpr ⟨lw_p42, List.forall_mem_cons.mpr ⟨lw_p43, List.forall_mem_cons.mpr ⟨lw_p44, List.forall_mem_cons.mpr ⟨lw_p45, List.forall_mem_cons.mpr ⟨lw_p46, List.forall_mem_cons.mpr ⟨lw_p47, fun _ h => absurd h List.not_mem_nil⟩⟩⟩⟩⟩⟩⟩⟩⟩⟩⟩⟩⟩⟩⟩⟩
theorem lw_p48 : lw_okq (⟨"BiscuitLocksModel", "hourPasses", "()V"⟩, 18) := ⟨⟨by decide +kernel, by decide +kernel⟩, List.mem_of_getElem? (i := 1332) (by decide +kernel), List.mem_of_getElem? (i := 1543) (by decide +kernel), List.mem_of_getElem? (i := 1544) (by decide +kernel)⟩
theorem lw_p49 : lw_okq (⟨"BiscuitLocksModel", "drifts", "()V"⟩, 18) := ⟨⟨by decide +kernel, by decide +kernel⟩, List.mem_of_getElem? (i := 1332) (by decide +kernel), List.mem_of_getElem? (i := 1547) (by decide +kernel), List.mem_of_getElem? (i := 1548) (by decide +kernel)⟩
theorem lw_p50 : lw_okq (⟨"BiscuitLocksModel", "heats", "(I)V"⟩, 18) := ⟨⟨by decide +kernel, by decide +kernel⟩, List.mem_of_getElem? (i := 1332) (by decide +kernel), List.mem_of_getElem? (i := 1551) (by decide +kernel), List.mem_of_getElem? (i := 1552) (by decide +kernel)⟩
theorem lw_p51 : lw_okq (⟨"BiscuitLocksModel", "steps", "(I)I"⟩, 18) := ⟨⟨by decide +kernel, by decide +kernel⟩, List.mem_of_getElem? (i := 1332) (by decide +kernel), List.mem_of_getElem? (i := 1591) (by decide +kernel), List.mem_of_getElem? (i := 1592) (by decide +kernel)⟩
theorem lw_p52 : lw_okq (⟨"BiscuitLocksModel", "isAhead", "(II)Z"⟩, 18) := ⟨⟨by decide +kernel, by decide +kernel⟩, List.mem_of_getElem? (i := 1332) (by decide +kernel), List.mem_of_getElem? (i := 1632) (by decide +kernel), List.mem_of_getElem? (i := 1633) (by decide +kernel)⟩
theorem lw_p53 : lw_okq (⟨"BiscuitLocksModel", "ofTry", "(II)I"⟩, 18) := ⟨⟨by decide +kernel, by decide +kernel⟩, List.mem_of_getElem? (i := 1332) (by decide +kernel), List.mem_of_getElem? (i := 1644) (by decide +kernel), List.mem_of_getElem? (i := 1645) (by decide +kernel)⟩
theorem lw_p54 : lw_okq (⟨"BiscuitLocksModel", "number", "(I)V"⟩, 18) := ⟨⟨by decide +kernel, by decide +kernel⟩, List.mem_of_getElem? (i := 1332) (by decide +kernel), List.mem_of_getElem? (i := 1697) (by decide +kernel), List.mem_of_getElem? (i := 1698) (by decide +kernel)⟩
theorem lw_p55 : lw_okq (⟨"BiscuitLocksModel", "puts", "(I)V"⟩, 18) := ⟨⟨by decide +kernel, by decide +kernel⟩, List.mem_of_getElem? (i := 1332) (by decide +kernel), List.mem_of_getElem? (i := 1701) (by decide +kernel), List.mem_of_getElem? (i := 1702) (by decide +kernel)⟩
theorem lw_p56 : lw_okq (⟨"BiscuitLocksModel", "isScript", "()Z"⟩, 18) := ⟨⟨by decide +kernel, by decide +kernel⟩, List.mem_of_getElem? (i := 1332) (by decide +kernel), List.mem_of_getElem? (i := 1721) (by decide +kernel), List.mem_of_getElem? (i := 1722) (by decide +kernel)⟩
theorem lw_p57 : lw_okq (⟨"BiscuitLocksModel", "readsCommand", "()Z"⟩, 18) := ⟨⟨by decide +kernel, by decide +kernel⟩, List.mem_of_getElem? (i := 1332) (by decide +kernel), List.mem_of_getElem? (i := 1725) (by decide +kernel), List.mem_of_getElem? (i := 1726) (by decide +kernel)⟩
theorem lw_p58 : lw_okq (⟨"BiscuitLocksModel", "now", "()I"⟩, 18) := ⟨⟨by decide +kernel, by decide +kernel⟩, List.mem_of_getElem? (i := 1332) (by decide +kernel), List.mem_of_getElem? (i := 1729) (by decide +kernel), List.mem_of_getElem? (i := 1730) (by decide +kernel)⟩
theorem lw_p59 : lw_okq (⟨"BiscuitLocksModel", "readsRest", "(II)Z"⟩, 18) := ⟨⟨by decide +kernel, by decide +kernel⟩, List.mem_of_getElem? (i := 1332) (by decide +kernel), List.mem_of_getElem? (i := 1736) (by decide +kernel), List.mem_of_getElem? (i := 1737) (by decide +kernel)⟩
theorem lw_p60 : lw_okq (⟨"BiscuitLocksModel", "readsT", "(I)Z"⟩, 18) := ⟨⟨by decide +kernel, by decide +kernel⟩, List.mem_of_getElem? (i := 1332) (by decide +kernel), List.mem_of_getElem? (i := 1740) (by decide +kernel), List.mem_of_getElem? (i := 1741) (by decide +kernel)⟩
theorem lw_p61 : lw_okq (⟨"BiscuitLocksModel", "isSign", "(I)Z"⟩, 18) := ⟨⟨by decide +kernel, by decide +kernel⟩, List.mem_of_getElem? (i := 1332) (by decide +kernel), List.mem_of_getElem? (i := 1744) (by decide +kernel), List.mem_of_getElem? (i := 1745) (by decide +kernel)⟩
theorem lw_p62 : lw_okq (⟨"BiscuitLocksModel", "isWord", "(Ljava/lang/String;)Z"⟩, 18) := ⟨⟨by decide +kernel, by decide +kernel⟩, List.mem_of_getElem? (i := 1332) (by decide +kernel), List.mem_of_getElem? (i := 1749) (by decide +kernel), List.mem_of_getElem? (i := 1750) (by decide +kernel)⟩
theorem lw_p63 : lw_okq (⟨"BiscuitLocksModel", "isNumber", "(II)Z"⟩, 18) := ⟨⟨by decide +kernel, by decide +kernel⟩, List.mem_of_getElem? (i := 1332) (by decide +kernel), List.mem_of_getElem? (i := 1755) (by decide +kernel), List.mem_of_getElem? (i := 1756) (by decide +kernel)⟩
def lw_privs_4 : List (MethodName × Nat) := [(⟨"BiscuitLocksModel", "hourPasses", "()V"⟩, 18), (⟨"BiscuitLocksModel", "drifts", "()V"⟩, 18), (⟨"BiscuitLocksModel", "heats", "(I)V"⟩, 18), (⟨"BiscuitLocksModel", "steps", "(I)I"⟩, 18), (⟨"BiscuitLocksModel", "isAhead", "(II)Z"⟩, 18), (⟨"BiscuitLocksModel", "ofTry", "(II)I"⟩, 18), (⟨"BiscuitLocksModel", "number", "(I)V"⟩, 18), (⟨"BiscuitLocksModel", "puts", "(I)V"⟩, 18), (⟨"BiscuitLocksModel", "isScript", "()Z"⟩, 18), (⟨"BiscuitLocksModel", "readsCommand", "()Z"⟩, 18), (⟨"BiscuitLocksModel", "now", "()I"⟩, 18), (⟨"BiscuitLocksModel", "readsRest", "(II)Z"⟩, 18), (⟨"BiscuitLocksModel", "readsT", "(I)Z"⟩, 18), (⟨"BiscuitLocksModel", "isSign", "(I)Z"⟩, 18), (⟨"BiscuitLocksModel", "isWord", "(Ljava/lang/String;)Z"⟩, 18), (⟨"BiscuitLocksModel", "isNumber", "(II)Z"⟩, 18)]
theorem lw_r4 : ∀ q ∈ lw_privs_4, lw_okq q := List.forall_mem_cons.mpr ⟨lw_p48, List.forall_mem_cons.mpr ⟨lw_p49, List.forall_mem_cons.mpr ⟨lw_p50, List.forall_mem_cons.mpr ⟨lw_p51, List.forall_mem_cons.mpr ⟨lw_p52, List.forall_mem_cons.mpr ⟨lw_p53, List.forall_mem_cons.mpr ⟨lw_p54, List.forall_mem_cons.mpr ⟨lw_p55, List.forall_mem_cons.mpr ⟨lw_p56, List.forall_mem_cons.mpr ⟨lw_p57, List.forall_mem_cons.mpr ⟨lw_p58, List.forall_mem_cons.mpr ⟨lw_p59, List.forall_mem_cons.mpr ⟨lw_p60, List.forall_mem_cons.mpr ⟨lw_p61, List.forall_mem_cons.mpr ⟨lw_p62, List.forall_mem_cons.mpr ⟨lw_p63, fun _ h => absurd h List.not_mem_nil⟩⟩⟩⟩⟩⟩⟩⟩⟩⟩⟩⟩⟩⟩⟩⟩
theorem lw_p64 : lw_okq (⟨"BiscuitLocksModel", "isSteps", "(I)Z"⟩, 18) := ⟨⟨by decide +kernel, by decide +kernel⟩, List.mem_of_getElem? (i := 1332) (by decide +kernel), List.mem_of_getElem? (i := 1759) (by decide +kernel), List.mem_of_getElem? (i := 1760) (by decide +kernel)⟩
theorem lw_p65 : lw_okq (⟨"BiscuitLocksModel", "readsD", "(I)Z"⟩, 18) := ⟨⟨by decide +kernel, by decide +kernel⟩, List.mem_of_getElem? (i := 1332) (by decide +kernel), List.mem_of_getElem? (i := 1764) (by decide +kernel), List.mem_of_getElem? (i := 1765) (by decide +kernel)⟩
theorem lw_p66 : lw_okq (⟨"BiscuitLocksModel", "isThree", "(I)Z"⟩, 18) := ⟨⟨by decide +kernel, by decide +kernel⟩, List.mem_of_getElem? (i := 1332) (by decide +kernel), List.mem_of_getElem? (i := 1769) (by decide +kernel), List.mem_of_getElem? (i := 1770) (by decide +kernel)⟩
theorem lw_p67 : lw_okq (⟨"BiscuitLocksModel", "readsS", "(I)Z"⟩, 18) := ⟨⟨by decide +kernel, by decide +kernel⟩, List.mem_of_getElem? (i := 1332) (by decide +kernel), List.mem_of_getElem? (i := 1774) (by decide +kernel), List.mem_of_getElem? (i := 1775) (by decide +kernel)⟩
theorem lw_p68 : lw_okq (⟨"BiscuitLocksModel", "readsHour", "(I)Z"⟩, 18) := ⟨⟨by decide +kernel, by decide +kernel⟩, List.mem_of_getElem? (i := 1332) (by decide +kernel), List.mem_of_getElem? (i := 1781) (by decide +kernel), List.mem_of_getElem? (i := 1782) (by decide +kernel)⟩
theorem lw_p69 : lw_okq (⟨"BiscuitLocksModel", "does", "(I)I"⟩, 18) := ⟨⟨by decide +kernel, by decide +kernel⟩, List.mem_of_getElem? (i := 1332) (by decide +kernel), List.mem_of_getElem? (i := 1786) (by decide +kernel), List.mem_of_getElem? (i := 1787) (by decide +kernel)⟩
def lw_privs_5 : List (MethodName × Nat) := [(⟨"BiscuitLocksModel", "isSteps", "(I)Z"⟩, 18), (⟨"BiscuitLocksModel", "readsD", "(I)Z"⟩, 18), (⟨"BiscuitLocksModel", "isThree", "(I)Z"⟩, 18), (⟨"BiscuitLocksModel", "readsS", "(I)Z"⟩, 18), (⟨"BiscuitLocksModel", "readsHour", "(I)Z"⟩, 18), (⟨"BiscuitLocksModel", "does", "(I)I"⟩, 18)]
theorem lw_r5 : ∀ q ∈ lw_privs_5, lw_okq q := List.forall_mem_cons.mpr ⟨lw_p64, List.forall_mem_cons.mpr ⟨lw_p65, List.forall_mem_cons.mpr ⟨lw_p66, List.forall_mem_cons.mpr ⟨lw_p67, List.forall_mem_cons.mpr ⟨lw_p68, List.forall_mem_cons.mpr ⟨lw_p69, fun _ h => absurd h List.not_mem_nil⟩⟩⟩⟩⟩⟩
def lw_privs : List (MethodName × Nat) := lw_privs_1 ++ (lw_privs_2 ++ (lw_privs_3 ++ (lw_privs_4 ++ (lw_privs_5))))
def lw_tbl : List Cond := k2_sels lw_privs ++ tables_1
theorem lw_privs_ok : ∀ q ∈ lw_privs, lw_okq q := by
  show ∀ q ∈ lw_privs_1 ++ (lw_privs_2 ++ (lw_privs_3 ++ (lw_privs_4 ++ (lw_privs_5)))), lw_okq q
  exact List.forall_mem_append.mpr ⟨lw_r1, List.forall_mem_append.mpr ⟨lw_r2, List.forall_mem_append.mpr ⟨lw_r3, List.forall_mem_append.mpr ⟨lw_r4, lw_r5⟩⟩⟩⟩
/-- the streams that the claim lets the run draw from -/
abbrev lw_cs : List Choice := [Jvm.Choice.named "NaN.bits"]
theorem lw_bits : nanBits ∈ lw_cs := by first | decide | exact List.mem_cons_self | simp [lw_cs, nanBits]
-- ===== end of PART A; then your names; then what follows =====
/-! ===== BEGIN words of one list among another's, by their places ===== -/
theorem goodIn_r {big : List Cond} (ws : List Cond) (ps : List Nat) (hp : ws = ps.filterMap (fun i => big[i]?)) (h : ws.all goodWord = true) : GoodIn big ws := by
  intro w hw
  have h1 := List.all_eq_true.mp h w hw
  rw [hp] at hw
  obtain ⟨i, -, hi⟩ := List.mem_filterMap.mp hw
  have hm : w ∈ big := by first | exact List.mem_of_getElem? hi | exact List.getElem?_mem hi
  exact ⟨hm, good_of_word h1⟩
theorem goodIn_app {big a b : List Cond} (ha : GoodIn big a) (hb : GoodIn big b) : GoodIn big (a ++ b) := fun w h => (List.mem_append.mp h).elim (ha w) (hb w)
theorem goodIn_ca {big a b : List Cond} {c : Cond} (ha : GoodIn big (c :: a)) (hb : GoodIn big b) : GoodIn big (c :: (a ++ b)) := fun w h => (List.mem_cons.mp h).elim (fun e => ha w (List.mem_cons.mpr (Or.inl e))) (fun h => (List.mem_append.mp h).elim (fun h => ha w (List.mem_cons.mpr (Or.inr h))) (hb w))
theorem goodIn_sub {big ws : List Cond} (hm : ∀ w ∈ ws, w ∈ big) (h : ws.all goodWord = true) : GoodIn big ws := fun w hw => ⟨hm w hw, good_of_word (List.all_eq_true.mp h w hw)⟩
/-! ===== END ===== -/
/-! ===== BEGIN exceptions that leave a method, and their catching by the caller (launches without stack traces) ===== -/
section VXA
/-! The laws vx_back, vx_callV, vx_callS, vx_callSW, vx_throw0, vx_throwS follow proofs of the library, with one case more: JvmDerived/Free/Laws.lean (Back.of_free), Shelf42/LK1.lean (callV, callS), Shelf/KitTraced.lean (throwNew0V, throwNewS). -/
/-- where a method has thrown q: the class by its name, the cell, what was written, the world -/
def vx_T (XC : String → State → State → Prop) (st : State) (q : Addr) (t : State) (mc ms : Nat) (free : Addr → Prop) : Prop :=
  ∃ (E : String) (ce : Cell) (L : List Loc), XC E st t ∧ t.heap[q]? = some ce ∧ ce.vm = .none ∧ st.vm.findClass E = some ce.cls ∧ st.WarmedH t.vm ∧ st.sameButNew ({ t with vm := st.vm } : State) L mc ms ∧ ∀ z ∈ L, free z.base
def vx_Q (Qc : Array Value → State → Outcome → State → Prop) (XC : String → State → State → Prop) (mc ms : Nat) (free : Addr → Prop) : Array Value → State → Outcome → State → Prop := fun a st o t =>
  (Qc a st o t ∧ ∃ L, FrameEnd st o t L mc ms ∧ ∀ q ∈ L, free q.base) ∨ ∃ q, o = .threw q ∧ vx_T XC st q t mc ms free
/-- a callee that returns or throws -/
def vx_Met (l : Launch) (y : MethodName) (ws : List Cond) (rm : Room) (Pc : Array Value → State → Prop) (Qc : Array Value → State → Outcome → State → Prop) (XC : String → State → State → Prop) (mc ms : Nat) (free : Addr → Prop) : Prop :=
  MetFree l y (headSpec ws rm) Pc (fun _ _ _ _ _ => True) (vx_Q Qc XC mc ms free)
def vx_Post (XC : String → State → State → Prop) (mc ms : Nat) (free : Addr → Prop) : Pt → Array Value → Addr → Pt → Prop := fun A a q B =>
  ∃ (g : JFrame) (mk : MethodId) (t : State) (L : List Loc) (E : String) (ce : Cell), B.U.heap = t.heap ∧ B.U.vm = t.vm ∧ XC E (A.U.calling g mk a) t ∧ t.heap[q]? = some ce ∧ ce.vm = .none ∧ A.U.vm.findClass E = some ce.cls ∧ B.locs = A.locs ++ L ∧ (∀ z ∈ L, free z.base) ∧ B.cells = A.cells + mc ∧ B.slots = A.slots + ms
def vx_Back (l : Launch) (R : Room) (p : Program) (e : Env) (below : List Frame) (s : State) (sargs : Array Value) (y : MethodName) (len W9 : Nat)
    (Pre : Pt → Array Value → Prop) (Post : Pt → Array Value → Option Value → Pt → Prop) (PostX : Pt → Array Value → Addr → Pt → Prop) : Prop :=
  ∀ (m : MethodId) (meth : Method) (c : Code) (A : Pt) (g : JFrame) (ig : Instr) (mk : MethodId) (a : Array Value),
    Stand p l e R s m sargs below meth c A.U A.locs A.cells A.slots → g.method = m → g.locals.size = c.maxLocals → decode c.code g.pc = .ok (ig, len) →
    2 * g.monitorRoom + (g.stack.map fun v => v.category).sum ≤ W9 → A.U.methodNamed? y = some mk → Pre A a →
    (∃ (v : Option Value) (B : Pt), Stand p l e R s m sargs below meth c B.U B.locs B.cells B.slots ∧ Post A a v B ∧
      Steps p.tables e below (doInvoke e (A.U.setTop g) [] mk a).1 (B.U.setTop { g with pc := g.pc + len, stack := v.toList ++ g.stack })) ∨
    (∃ (q : Addr) (B : Pt), Stand p l e R s m sargs below meth c B.U B.locs B.cells B.slots ∧ PostX A a q B ∧
      Steps p.tables e below (doInvoke e (A.U.setTop g) [] mk a).1 ((B.U.setTop g).pushFrame (.throwing q)))
section Payer
variable {l : Launch} {R : Room} {p : Program} {e : Env} {below : List Frame} {s : State} {sargs : Array Value} {y : MethodName} {len W9 : Nat}
theorem vx_back {ws : List Cond} {rm : Room} {Pc : Array Value → State → Prop} {Qc : Array Value → State → Outcome → State → Prop} {XC : String → State → State → Prop} {mc ms : Nat} {free : Addr → Prop} {bytes : ByteArray} {maxL : Nat} {ret : Option FieldType}
    (hM : vx_Met l y ws rm Pc Qc XC mc ms free) (hblind : FrameBlind Pc) (hrc : rm.cells = mc) (hrs : rm.slots = ms)
    (hframes : rm.frames + 1 ≤ R.frames) (hlocals : W9 + (maxL + 11) + rm.locals ≤ R.locals)
    (hws : ∀ w ∈ ws, ∀ a' U, s.WarmedH U.vm → w.before a' U = true) (hcode : Cond.code y bytes maxL ret ∈ ws) (hinit : ∀ a' U, s.WarmedH U.vm → (Cond.initialized y.cls).before a' U = true) :
    vx_Back l R p e below s sargs y len W9 (PreOf R mc ms Pc) (PostOf Qc mc ms free) (vx_Post XC mc ms free) := by
  intro m meth c A g ig mk a X hg hsize hdg hW hn hp
  have h1 : (headSpec ws rm).pre.before a A.U = true := atoms_intro fun w hw => hws w hw _ _ X.warmed
  have h2 : (Cond.code y bytes maxL ret).before a A.U = true := hws _ hcode _ _ X.warmed
  have h3 : (Cond.initialized y.cls).before a A.U = true := hinit _ _ X.warmed
  have h4 : A.cells + (headSpec ws rm).room.cells ≤ R.cells := by rw [show (headSpec ws rm).room.cells = mc from hrc]; exact hp.1
  have h5 : A.slots + (headSpec ws rm).room.slots ≤ R.slots := by rw [show (headSpec ws rm).room.slots = ms from hrs]; exact hp.2.1
  have hPc : Pc a (A.U.calling g mk a) := hblind _ _ _ _ hp.2.2
  obtain ⟨U, Ls, c0, s0⟩ := A
  dsimp only [Pt.U, Pt.locs, Pt.cells, Pt.slots] at h1 h2 h3 h4 h5 X hn hPc ⊢
  obtain ⟨methY, cY, hmY, hcY, -, hlY, -, -, -, -⟩ := Cond.code_spec hn h2
  obtain ⟨kY, hkY, -⟩ := className_of_methodNamed hn
  have hinitY : kY.init = .initialized := Cond.initialized_spec (findClass_of_methodNamed hn) hkY h3
  have h : At U g.method c below := by rw [hg]; exact X.here
  have hlocals9 : W9 + (maxL + 11) + (headSpec ws rm).room.locals ≤ R.locals := hlocals
  have happ : (headSpec ws rm).appliesLoose y e.platform (U.calling g mk a) = true :=
    Spec.appliesLoose_calling (g := g) h hdg hn hkY hinitY
      (X.room_calling (g := g) (R' := (headSpec ws rm).room) hsize hmY hcY hframes (by rw [hlY]; omega) h4 h5) h1
  obtain ⟨mid, hmid⟩ := h.above
  have hfr : (U.setTop g).frames = (.java g :: mid) ++ below := by rw [State.frames_setTop' g h.top, hmid]; rfl
  obtain ⟨o, s₂, hsteps, -, hend, hq⟩ := Steps.callFree hM p X.admits X.cas X.clock (acts := []) hfr happ hPc trivial
  have hq' : vx_Q Qc XC mc ms free a (U.calling g mk a) o s₂ := hq
  rw [State.frames_setTop' g h.top] at hend
  obtain ⟨g₀, hg0⟩ := Option.isSome_iff_exists.mp h.top
  obtain ⟨r, hr⟩ := State.topJava?_eq_some.mp hg0
  have hr' : (({ U with heap := s₂.heap, slotsUsed := s₂.slotsUsed } : State).setVm s₂.vm).frames = .java g₀ :: r := hr
  rcases hq' with ⟨hqc, L, hfe, hL⟩ | ⟨q, rfl, E, ce, L, hx, hce, hcv, hcl, hW₂, hsm, hL⟩
  · obtain ⟨⟨v, rfl⟩, hW₂, e2, q2, q3, q4, q5, q6⟩ := id hfe
    have e3 : s₂ = ({ (U.calling g mk a).setFrames s₂.frames with heap := s₂.heap, slotsUsed := s₂.slotsUsed } : State).setVm s₂.vm := by
      have : s₂ = ({ s₂ with vm := (U.calling g mk a).vm } : State).setVm s₂.vm := rfl
      rw [e2] at this
      exact this
    obtain ⟨c₂, i₂, len₂, hc₂, hd₂, hf₂⟩ := hend
    have hW' : U.WarmedH s₂.vm := hW₂
    have hcc : c₂ = c := by
      have h1 : s₂.code? g.method = U.code? g.method := by
        rw [State.code?_eq, State.code?_eq, hW'.alike.method?]
      exact Option.some.inj (hc₂.symm.trans (h1.trans h.code))
    subst hcc
    have hlen : len₂ = len := by rw [hdg] at hd₂; cases hd₂; rfl
    subst hlen
    have hs₂ : s₂ = (({ U with heap := s₂.heap, slotsUsed := s₂.slotsUsed } : State).setVm s₂.vm).setTop { g with pc := g.pc + len₂, stack := v.toList ++ g.stack } := by
      refine e3.trans ?_
      rw [hf₂, State.calling_eq h.top, State.setFrames_setFrames, State.setTop_of_frames _ hr', hr]
      rfl
    have hsame : U.sameButNew ({ U with heap := s₂.heap, slotsUsed := s₂.slotsUsed } : State) L mc ms := by
      refine ⟨?_, q2, q3, q4, q5, q6⟩
      obtain ⟨t, ht, -⟩ := State.frames_cons hr
      show ({ U with heap := s₂.heap, slotsUsed := s₂.slotsUsed } : State) = { U.setFrames U.frames with heap := s₂.heap, slotsUsed := s₂.slotsUsed }
      rw [State.setFrames_self ht]
    subst hg
    refine Or.inl ⟨v, ⟨(({ U with heap := s₂.heap, slotsUsed := s₂.slotsUsed } : State).setVm s₂.vm), Ls ++ L, c0 + mc, s0 + ms⟩,
      ⟨X.admits, X.cas, X.clock, X.frames, X.room, X.hears, X.method, X.code, (X.here.setHeapUsed s₂.heap s₂.slotsUsed).setVm hW'.alike, X.tail, State.WarmedH.trans X.warmed hW', X.limits, X.bytes, X.same.trans (hsame.setVm s.vm)⟩,
      ⟨g, mk, s₂, L, rfl, rfl, hqc, rfl, hL, rfl, rfl⟩, ?_⟩
    show Steps p.tables e below _ ((({ U with heap := s₂.heap, slotsUsed := s₂.slotsUsed } : State).setVm s₂.vm).setTop { g with pc := g.pc + len₂, stack := v.toList ++ g.stack })
    rw [← hs₂]
    exact hsteps
  · obtain ⟨e2, q2, q3, q4, q5, q6⟩ := id hsm
    have e3 : s₂ = ({ (U.calling g mk a).setFrames s₂.frames with heap := s₂.heap, slotsUsed := s₂.slotsUsed } : State).setVm s₂.vm := by
      have : s₂ = ({ s₂ with vm := (U.calling g mk a).vm } : State).setVm s₂.vm := rfl
      rw [e2] at this
      exact this
    have hf₂ : s₂.frames = .throwing q :: .java g :: U.frames.tail := hend
    have hW' : U.WarmedH s₂.vm := hW₂
    have hs₂ : s₂ = ((({ U with heap := s₂.heap, slotsUsed := s₂.slotsUsed } : State).setVm s₂.vm).setTop g).pushFrame (.throwing q) := by
      refine e3.trans ?_
      rw [hf₂, State.calling_eq h.top, State.setFrames_setFrames, State.pushFrame, State.frames_setTop _ hr', State.setTop_of_frames _ hr', State.setFrames_setFrames, hr]
      rfl
    have hsame : U.sameButNew ({ U with heap := s₂.heap, slotsUsed := s₂.slotsUsed } : State) L mc ms := by
      refine ⟨?_, q2, q3, q4, q5, q6⟩
      obtain ⟨t, ht, -⟩ := State.frames_cons hr
      show ({ U with heap := s₂.heap, slotsUsed := s₂.slotsUsed } : State) = { U.setFrames U.frames with heap := s₂.heap, slotsUsed := s₂.slotsUsed }
      rw [State.setFrames_self ht]
    subst hg
    refine Or.inr ⟨q, ⟨(({ U with heap := s₂.heap, slotsUsed := s₂.slotsUsed } : State).setVm s₂.vm), Ls ++ L, c0 + mc, s0 + ms⟩,
      ⟨X.admits, X.cas, X.clock, X.frames, X.room, X.hears, X.method, X.code, (X.here.setHeapUsed s₂.heap s₂.slotsUsed).setVm hW'.alike, X.tail, State.WarmedH.trans X.warmed hW', X.limits, X.bytes, X.same.trans (hsame.setVm s.vm)⟩,
      ⟨g, mk, s₂, L, E, ce, rfl, rfl, hx, hce, hcv, hcl, rfl, hL, rfl, rfl⟩, ?_⟩
    show Steps p.tables e below _ (((({ U with heap := s₂.heap, slotsUsed := s₂.slotsUsed } : State).setVm s₂.vm).setTop g).pushFrame (.throwing q))
    rw [← hs₂]
    exact hsteps
end Payer
section Calls
variable {p : Program} {l : Launch} {e : Env} {R : Room} {s : State} {m : MethodId} {args : Array Value} {below : List Frame} {meth : Method} {c : Code} {T : State} {locs : List Loc} {cells slots : Nat}
theorem vx_callV (X : Stand p l e R s m args below meth c T locs cells slots) (hexec : p.tables.exec = Jvm.exec) {own C : String} {index : Nat} {y : MethodName} {bytes : ByteArray} {maxL : Nat} {ret : Option FieldType}
    (hown : s.vm.findClass own = some m.cls) (hlink : (Cond.methodLink own index y).before args s = true) (hinst : (Cond.instanceMethod y).before args s = true) (hsel : (Cond.selects C y y).before args s = true)
    (hcode : (Cond.code y bytes maxL ret).before args s = true) (hy : y.cls ≠ "java/lang/invoke/MethodHandle" ∧ y.cls ≠ "java/lang/invoke/VarHandle")
    {W9 : Nat} {Pre : Pt → Array Value → Prop} {Post : Pt → Array Value → Option Value → Pt → Prop} {PostX : Pt → Array Value → Addr → Pt → Prop} (hK : vx_Back l R p e below s args y 3 W9 Pre Post PostX)
    {b : Addr} {cellB : Cell} (hcell : T.heap[b]? = some cellB) (hobj : cellB.vm.isStatics = false) (hcls : s.vm.findClass C = some cellB.cls)
    {g : JFrame} (hg : g.method = m) (hsize : g.locals.size = c.maxLocals) {argsL rest : List Value} (hlen : ∀ sig, parseMethodDescriptor y.desc = some sig → argsL.length = sig.parameters.length)
    (hstack : g.stack = argsL.reverse ++ .ref b :: rest) (hW : 2 * g.monitorRoom + (rest.map fun v => v.category).sum ≤ W9) (hdg : decode c.code g.pc = .ok (.invokevirtual index, 3))
    (hpre : ∀ vm₁, s.WarmedH vm₁ → Pre ⟨T.setVm vm₁, locs, cells, slots⟩ (Value.ref b :: argsL).toArray) :
    (∃ (v : Option Value) (vm₁ : Vm) (B : Pt), s.WarmedH vm₁ ∧ Stand p l e R s m args below meth c B.U B.locs B.cells B.slots ∧ Post ⟨T.setVm vm₁, locs, cells, slots⟩ (Value.ref b :: argsL).toArray v B ∧
      ∀ target, Steps p.tables e below (B.U.setTop { g with pc := g.pc + 3, stack := v.toList ++ rest }) target → Steps p.tables e below (T.setTop g) target) ∨
    (∃ (q : Addr) (vm₁ : Vm) (B : Pt), s.WarmedH vm₁ ∧ Stand p l e R s m args below meth c B.U B.locs B.cells B.slots ∧ PostX ⟨T.setVm vm₁, locs, cells, slots⟩ (Value.ref b :: argsL).toArray q B ∧
      Steps p.tables e below (T.setTop g) ((B.U.setTop { g with stack := rest }).pushFrame (.throwing q))) := by
  obtain ⟨mk, methM, hnamed, hmethM, hstM, habM⟩ := Cond.instanceMethod_spec hinst
  obtain ⟨methM', cM, hmethM', -, -, -, -, -, -, hsigM⟩ := Cond.code_spec hnamed hcode
  cases hmethM.symm.trans hmethM'
  obtain ⟨c2, r2, m2, q1, q2, q3, q4, kP, hkP, hkPi⟩ := Cond.selects_spec hsel
  cases hcls.symm.trans q1
  cases (State.methodFound?_of_named hnamed hy).symm.trans q2
  cases hnamed.symm.trans q3
  have hselP : selectMethod e.platform s.vm cellB.cls mk = .method mk := by rw [Launch.admits_selectMethod X.admits]; exact q4
  obtain ⟨vm₁, X₁, hstep₁⟩ := X.invokevirtual hexec hown hlink hnamed hmethM hstM hkP hkPi hy (a := b) (cell := cellB) hcell
    (fun z h => by rw [h] at hobj; cases hobj) hselP hmethM habM hkP hkPi (g := g) hg (argsL := argsL) (rest := rest) (hlen _ hsigM) hstack hdg
  rcases hK m meth c ⟨T.setVm vm₁, locs, cells, slots⟩ { g with stack := rest } (.invokevirtual index) mk (Value.ref b :: argsL).toArray X₁ hg hsize hdg hW (X₁.named hnamed) (hpre vm₁ X₁.warmed) with ⟨v, B, X', hpost, hsteps⟩ | ⟨q, B, X', hpost, hsteps⟩
  · exact Or.inl ⟨v, vm₁, B, X₁.warmed, X', hpost, fun target h => hstep₁ _ fun acts => by rw [doInvoke_state]; exact hsteps.trans h⟩
  · exact Or.inr ⟨q, vm₁, B, X₁.warmed, X', hpost, hstep₁ _ fun acts => by rw [doInvoke_state]; exact hsteps⟩
theorem vx_callS (X : Stand p l e R s m args below meth c T locs cells slots) (hexec : p.tables.exec = Jvm.exec) {own : String} {index : Nat} {y : MethodName} {bytes : ByteArray} {maxL : Nat} {ret : Option FieldType}
    (hown : s.vm.findClass own = some m.cls) (hlink : (Cond.methodLink own index y).before args s = true) (hstat : (Cond.static y).before args s = true) (hinit : (Cond.initialized y.cls).before args s = true)
    (hcode : (Cond.code y bytes maxL ret).before args s = true) (hy : y.cls ≠ "java/lang/invoke/MethodHandle" ∧ y.cls ≠ "java/lang/invoke/VarHandle")
    {W9 : Nat} {Pre : Pt → Array Value → Prop} {Post : Pt → Array Value → Option Value → Pt → Prop} {PostX : Pt → Array Value → Addr → Pt → Prop} (hK : vx_Back l R p e below s args y 3 W9 Pre Post PostX)
    {g : JFrame} (hg : g.method = m) (hsize : g.locals.size = c.maxLocals) {argsL rest : List Value} (hlen : ∀ sig, parseMethodDescriptor y.desc = some sig → argsL.length = sig.parameters.length)
    (hstack : g.stack = argsL.reverse ++ rest) (hW : 2 * g.monitorRoom + (rest.map fun v => v.category).sum ≤ W9) (hdg : decode c.code g.pc = .ok (.invokestatic index, 3))
    (hpre : ∀ vm₁, s.WarmedH vm₁ → Pre ⟨T.setVm vm₁, locs, cells, slots⟩ argsL.toArray) :
    (∃ (v : Option Value) (vm₁ : Vm) (B : Pt), s.WarmedH vm₁ ∧ Stand p l e R s m args below meth c B.U B.locs B.cells B.slots ∧ Post ⟨T.setVm vm₁, locs, cells, slots⟩ argsL.toArray v B ∧
      ∀ target, Steps p.tables e below (B.U.setTop { g with pc := g.pc + 3, stack := v.toList ++ rest }) target → Steps p.tables e below (T.setTop g) target) ∨
    (∃ (q : Addr) (vm₁ : Vm) (B : Pt), s.WarmedH vm₁ ∧ Stand p l e R s m args below meth c B.U B.locs B.cells B.slots ∧ PostX ⟨T.setVm vm₁, locs, cells, slots⟩ argsL.toArray q B ∧
      Steps p.tables e below (T.setTop g) ((B.U.setTop { g with stack := rest }).pushFrame (.throwing q))) := by
  obtain ⟨mk, hnamed⟩ := Cond.code_named hcode
  obtain ⟨methM, cM, hmethM, -, -, -, -, -, -, hsigM⟩ := Cond.code_spec hnamed hcode
  have hstatic : methM.isStatic = true := Cond.static_spec hnamed hmethM hstat
  obtain ⟨kP, hkP, -⟩ := className_of_methodNamed hnamed
  have hinitP : kP.init = .initialized := Cond.initialized_spec (findClass_of_methodNamed hnamed) hkP hinit
  obtain ⟨vm₁, X₁, hstep₁⟩ := X.invokestatic hexec hown hlink hnamed hmethM hstatic hkP hinitP hy (g := g) hg (argsL := argsL) (rest := rest) (hlen _ hsigM) hstack hdg
  rcases hK m meth c ⟨T.setVm vm₁, locs, cells, slots⟩ { g with stack := rest } (.invokestatic index) mk argsL.toArray X₁ hg hsize hdg hW (X₁.named hnamed) (hpre vm₁ X₁.warmed) with ⟨v, B, X', hpost, hsteps⟩ | ⟨q, B, X', hpost, hsteps⟩
  · exact Or.inl ⟨v, vm₁, B, X₁.warmed, X', hpost, fun target h => hstep₁ _ fun acts => by rw [doInvoke_state]; exact hsteps.trans h⟩
  · exact Or.inr ⟨q, vm₁, B, X₁.warmed, X', hpost, hstep₁ _ fun acts => by rw [doInvoke_state]; exact hsteps⟩
end Calls
theorem vx_cls {s : State} {T : State} {vm₁ : Vm} {E : String} {k : ClassId} (hW : s.WarmedH vm₁) (h : (T.setVm vm₁).vm.findClass E = some k) : s.vm.findClass E = some k := by
  have h1 : vm₁.findClass E = some k := h
  rw [hW.alike.findClass] at h1
  exact h1
/-- the method's frame g, with q thrown over it -/
def vx_W (p : Program) (l : Launch) (e : Env) (R : Room) (s : State) (m : MethodId) (args : Array Value) (below : List Frame) (meth : Method) (c : Code) (H : Heap) (locs : List Loc) (cells slots : Nat) (Q : State → Prop) (g : JFrame) (q : Addr) : Prop :=
  ∀ T : State, T.heap = H → Stand p l e R s m args below meth c T locs cells slots → ∃ t, Steps p.tables e below ((T.setTop g).pushFrame (.throwing q)) t ∧ Q t
def vx_Run (p : Program) (l : Launch) (e : Env) (R : Room) (s : State) (m : MethodId) (args : Array Value) (below : List Frame) (meth : Method) (c : Code) (H : Heap) (locs : List Loc) (cells slots mc ms : Nat) (g : JFrame) (rest : List Value) (Qa : State → Outcome → State → Prop) (XC : String → State → State → Prop) (free : Addr → Prop) : Prop :=
  ∀ T : State, T.heap = H → Stand p l e R s m args below meth c T locs cells slots →
    (∃ (v : Option Value) (st₀ t T' : State) (L : List Loc), st₀.heap = H ∧ Stand p l e R s m args below meth c T' (locs ++ L) (cells + mc) (slots + ms) ∧ (∀ q ∈ L, free q.base) ∧ T'.heap = t.heap ∧ T'.vm = t.vm ∧ Qa st₀ (.returned v) t ∧
      Goes p e below T g T' { g with pc := g.pc + 3, stack := v.toList ++ rest }) ∨
    (∃ (q : Addr) (st₀ t T' : State) (L : List Loc) (E : String) (ce : Cell), st₀.heap = H ∧ Stand p l e R s m args below meth c T' (locs ++ L) (cells + mc) (slots + ms) ∧ (∀ z ∈ L, free z.base) ∧ T'.heap = t.heap ∧ T'.vm = t.vm ∧ XC E st₀ t ∧ t.heap[q]? = some ce ∧ ce.vm = .none ∧ s.vm.findClass E = some ce.cls ∧
      Steps p.tables e below (T.setTop g) ((T'.setTop { g with stack := rest }).pushFrame (.throwing q)))
def vx_X {S : Type} (px : S → Prop) (B : String → S → State → Prop) (A : Nat → Prop) : String → State → State → Prop := fun E st t => ∃ u : S, px u ∧ B E u t ∧ va_F A st t
section Runs
variable {p : Program} {l : Launch} {e : Env} {R : Room} {s : State} {m : MethodId} {args : Array Value} {below : List Frame} {meth : Method} {c : Code} {H : Heap} {locs : List Loc} {cells slots : Nat}
variable {y : MethodName} {bytes cc : ByteArray} {maxL nL mc ms n index : Nat} {ret : Option FieldType} {ws : List Cond} {rm : Room} {Pc : Array Value → State → Prop} {Qc : Array Value → State → Outcome → State → Prop} {XC : String → State → State → Prop} {free : Addr → Prop} {Ts : List Cond} {own C : String} {b : Addr} {As rest : List Value} {g : JFrame}
theorem vx_callBack (cb : CallB R s args own index y bytes maxL ret ws rm mc ms n) (hM : vx_Met l y ws rm Pc Qc XC mc ms free) (hbl : FrameBlind Pc) : vx_Back l R p e below s args y 3 8 (PreOf R mc ms Pc) (PostOf Qc mc ms free) (vx_Post XC mc ms free) := by
  obtain ⟨hrc, hrs, hfr, hlo, hws, hcw, -, hini, -⟩ := cb
  exact vx_back (bytes := bytes) (maxL := maxL) (ret := ret) hM hbl hrc hrs hfr hlo hws hcw (fun a' U hW => word_at hW (Or.inl (by first | rfl | simp [Cond.onTables, Cond.keeps, Cond.steady])) hini)
theorem vx_runV (S : CallFix p m c cc nL s args Ts own) (hM : vx_Met l y ws rm Pc Qc XC mc ms free) (cw : CallW R s args own C index y bytes maxL ret ws rm mc ms n) (hp : PreV s H C b Pc As)
    (hg : g.method = m) (hn : As.length = n) (hsize : g.locals.size = nL) (hstack : g.stack = As.reverse ++ .ref b :: rest) (hW : 2 * g.monitorRoom + (rest.map fun v => v.category).sum ≤ 8) (hdg : decode cc g.pc = .ok (.invokevirtual index, 3)) (hf : cells + mc ≤ R.cells ∧ slots + ms ≤ R.slots) :
    vx_Run p l e R s m args below meth c H locs cells slots mc ms g rest (Qc (Value.ref b :: As).toArray) XC free := by
  have hK : vx_Back l R p e below s args y 3 8 (PreOf R mc ms Pc) (PostOf Qc mc ms free) (vx_Post XC mc ms free) := vx_callBack cw.1 hM hp.1
  obtain ⟨⟨-, -, -, -, -, -, hcode, -, hy, hlen, hl⟩, hin, hse⟩ := cw
  obtain ⟨hx, hb, hml, ho, -⟩ := S
  obtain ⟨-, ⟨cellB, hcB, hoB, hclB⟩, hPc⟩ := hp
  intro T hT X
  rcases vx_callV X hx (C := C) (bytes := bytes) (maxL := maxL) (ret := ret) ho hl hin hse hcode hy hK (by rw [hT]; exact hcB) hoB hclB hg (hsize.trans hml.symm) (argsL := As) (rest := rest) (fun sig h => hn.trans (hlen sig h)) hstack hW (by rw [hb]; exact hdg)
    (fun vm₁ hW₁ => ⟨hf.1, hf.2, hPc (T.setVm vm₁) hT hW₁⟩) with ⟨v, vm₁, ⟨U', l2, c2, s2⟩, hW₁, X', ⟨g', mk, t, L, e1, e2, hq, h1, hL, h2, h3⟩, st⟩ | ⟨q, vm₁, ⟨U', l2, c2, s2⟩, hW₁, X', ⟨g', mk, t, L, E, ce, e1, e2, hq, hce, hcv, hcl, h1, hL, h2, h3⟩, st⟩
  · dsimp only [Pt.U, Pt.locs, Pt.cells, Pt.slots] at X' e1 e2 h1 h2 h3 st
    subst h1; subst h2; subst h3
    exact Or.inl ⟨v, (T.setVm vm₁).calling g' mk (Value.ref b :: As).toArray, t, U', L, hT, X', hL, e1, e2, hq, st⟩
  · dsimp only [Pt.U, Pt.locs, Pt.cells, Pt.slots] at X' e1 e2 h1 h2 h3 st hcl
    subst h1; subst h2; subst h3
    exact Or.inr ⟨q, (T.setVm vm₁).calling g' mk (Value.ref b :: As).toArray, t, U', L, E, ce, hT, X', hL, e1, e2, hq, hce, hcv, vx_cls hW₁ hcl, st⟩
theorem vx_runS (S : CallFix p m c cc nL s args Ts own) (hM : vx_Met l y ws rm Pc Qc XC mc ms free) (cw : CallB R s args own index y bytes maxL ret ws rm mc ms n ∧ (Cond.static y).before args s = true) (hp : PreS s H Pc As)
    (hg : g.method = m) (hn : As.length = n) (hsize : g.locals.size = nL) (hstack : g.stack = As.reverse ++ rest) (hW : 2 * g.monitorRoom + (rest.map fun v => v.category).sum ≤ 8) (hdg : decode cc g.pc = .ok (.invokestatic index, 3)) (hf : cells + mc ≤ R.cells ∧ slots + ms ≤ R.slots) :
    vx_Run p l e R s m args below meth c H locs cells slots mc ms g rest (Qc As.toArray) XC free := by
  have hK : vx_Back l R p e below s args y 3 8 (PreOf R mc ms Pc) (PostOf Qc mc ms free) (vx_Post XC mc ms free) := vx_callBack cw.1 hM hp.1
  obtain ⟨⟨-, -, -, -, -, -, hcode, hini, hy, hlen, hl⟩, hstt⟩ := cw
  obtain ⟨hx, hb, hml, ho, -⟩ := S
  intro T hT X
  rcases vx_callS X hx (bytes := bytes) (maxL := maxL) (ret := ret) ho hl hstt hini hcode hy hK hg (hsize.trans hml.symm) (argsL := As) (rest := rest) (fun sig h => hn.trans (hlen sig h)) hstack hW (by rw [hb]; exact hdg)
    (fun vm₁ hW₁ => ⟨hf.1, hf.2, hp.2 (T.setVm vm₁) hT hW₁⟩) with ⟨v, vm₁, ⟨U', l2, c2, s2⟩, hW₁, X', ⟨g', mk, t, L, e1, e2, hq, h1, hL, h2, h3⟩, st⟩ | ⟨q, vm₁, ⟨U', l2, c2, s2⟩, hW₁, X', ⟨g', mk, t, L, E, ce, e1, e2, hq, hce, hcv, hcl, h1, hL, h2, h3⟩, st⟩
  · dsimp only [Pt.U, Pt.locs, Pt.cells, Pt.slots] at X' e1 e2 h1 h2 h3 st
    subst h1; subst h2; subst h3
    exact Or.inl ⟨v, (T.setVm vm₁).calling g' mk As.toArray, t, U', L, hT, X', hL, e1, e2, hq, st⟩
  · dsimp only [Pt.U, Pt.locs, Pt.cells, Pt.slots] at X' e1 e2 h1 h2 h3 st hcl
    subst h1; subst h2; subst h3
    exact Or.inr ⟨q, (T.setVm vm₁).calling g' mk As.toArray, t, U', L, E, ce, hT, X', hL, e1, e2, hq, hce, hcv, vx_cls hW₁ hcl, st⟩
end Runs
section Rows
variable {p : Program} {l : Launch} {e : Env} {R : Room} {s : State} {m : MethodId} {args : Array Value} {below : List Frame} {meth : Method} {c : Code} {H : Heap} {locs : List Loc} {cells slots : Nat} {Q : State → Prop}
variable {mc ms : Nat} {free : Addr → Prop} {A0 A1 : Nat → Prop} {H0 : Heap} {a : Array Value} {pc : Nat} {ls : Array Slot} {st0 rest : List Value}
theorem vx_keep {st₀ t T' : State} {L : List Loc} (h0 : st₀.heap = H) (e1 : T'.heap = t.heap) (hS : va_S A0 H0 H locs) (hA : ∀ q, q < H.size → A1 q → A0 q) (hf : ∀ q, free q → A0 q) (hL : ∀ q ∈ L, free q.base) (hF : va_F A1 st₀ t) :
    H.size ≤ T'.heap.size ∧ (∀ q : Nat, q < H.size → ¬ A1 q → T'.heap[q]? = H[q]?) ∧ va_S A0 H0 T'.heap (locs ++ L) := by
  obtain ⟨hz, hk⟩ := hF
  rw [h0] at hz hk
  exact ⟨by rw [e1]; exact hz, fun q h1 h2 => by rw [e1]; exact hk q h1 h2,
    ⟨Nat.le_trans hS.1 (by rw [e1]; exact hz), fun q h1 h2 => by rw [e1, hk q (Nat.lt_of_lt_of_le h1 hS.1) (fun z => h2 (hA q (Nat.lt_of_lt_of_le h1 hS.1) z))]; exact hS.2.1 q h1 h2, fun q hq => by
      rcases List.mem_append.mp hq with h | h
      · exact hS.2.2 q h
      · exact hf _ (hL q h)⟩⟩
theorem vx_calli {S SX : Type} {post : Int32 → S → Prop} {px : SX → Prop} {B : S → State → Prop} {BX : String → SX → State → Prop} {AX : Nat → Prop} (hr : vx_Run p l e R s m args below meth c H locs cells slots mc ms (F0 m pc ls st0) rest (va_Qi post B A1 a) (vx_X px BX AX) free) (hS : va_S A0 H0 H locs) (hA : ∀ q, q < H.size → A1 q → A0 q) (hf : ∀ q, free q → A0 q) (hAX : ∀ q, q < H.size → AX q → A0 q)
    (kx : ∀ (E : String) (ce : Cell) (q9 : Addr) (u : SX) (t : State) (H1 : Heap) (locs1 : List Loc), t.heap = H1 → s.vm.Alike t.vm → px u → BX E u t → H.size ≤ H1.size → (∀ q : Nat, q < H.size → ¬ AX q → H1[q]? = H[q]?) → va_S A0 H0 H1 locs1 → H1[q9]? = some ce → ce.vm = .none → s.vm.findClass E = some ce.cls → vx_W p l e R s m args below meth c H1 locs1 (cells + mc) (slots + ms) Q (F0 m pc ls rest) q9)
    (kk : ∀ (r : Int32) (u : S) (t : State) (H1 : Heap) (locs1 : List Loc), t.heap = H1 → s.vm.Alike t.vm → post r u → B u t → H.size ≤ H1.size → (∀ q : Nat, q < H.size → ¬ A1 q → H1[q]? = H[q]?) → va_S A0 H0 H1 locs1 → W p l e R s m args below meth c H1 locs1 (cells + mc) (slots + ms) Q (F0 m (pc + 3) ls (.int r :: rest))) : W p l e R s m args below meth c H locs cells slots Q (F0 m pc ls st0) := by
  intro T hT X
  rcases hr T hT X with ⟨v, st₀, t, T', L, h0, X', hL, e1, e2, ⟨⟨r, u, hv, hp, hb⟩, hF⟩, st⟩ | ⟨q, st₀, t, T', L, E, ce, h0, X', hL, e1, e2, ⟨u, hp, hb, hF⟩, hce, hcv, hcl, st⟩
  · cases hv
    obtain ⟨k1, k2, k3⟩ := vx_keep h0 e1 hS hA hf hL hF
    obtain ⟨t2, a1, b1⟩ := kk r u t T'.heap (locs ++ L) e1.symm (by rw [← e2]; exact X'.warmed.alike) hp hb k1 k2 k3 T' rfl X'
    exact ⟨t2, st t2 a1, b1⟩
  · obtain ⟨k1, k2, k3⟩ := vx_keep h0 e1 hS hAX hf hL hF
    obtain ⟨t2, a1, b1⟩ := kx E ce q u t T'.heap (locs ++ L) e1.symm (by rw [← e2]; exact X'.warmed.alike) hp hb k1 k2 k3 (by rw [e1]; exact hce) hcv hcl T' rfl X'
    exact ⟨t2, st.trans a1, b1⟩
theorem vx_calll {S SX : Type} {post : Int64 → S → Prop} {px : SX → Prop} {B : S → State → Prop} {BX : String → SX → State → Prop} {AX : Nat → Prop} (hr : vx_Run p l e R s m args below meth c H locs cells slots mc ms (F0 m pc ls st0) rest (va_Ql post B A1 a) (vx_X px BX AX) free) (hS : va_S A0 H0 H locs) (hA : ∀ q, q < H.size → A1 q → A0 q) (hf : ∀ q, free q → A0 q) (hAX : ∀ q, q < H.size → AX q → A0 q)
    (kx : ∀ (E : String) (ce : Cell) (q9 : Addr) (u : SX) (t : State) (H1 : Heap) (locs1 : List Loc), t.heap = H1 → s.vm.Alike t.vm → px u → BX E u t → H.size ≤ H1.size → (∀ q : Nat, q < H.size → ¬ AX q → H1[q]? = H[q]?) → va_S A0 H0 H1 locs1 → H1[q9]? = some ce → ce.vm = .none → s.vm.findClass E = some ce.cls → vx_W p l e R s m args below meth c H1 locs1 (cells + mc) (slots + ms) Q (F0 m pc ls rest) q9)
    (kk : ∀ (r : Int64) (u : S) (t : State) (H1 : Heap) (locs1 : List Loc), t.heap = H1 → s.vm.Alike t.vm → post r u → B u t → H.size ≤ H1.size → (∀ q : Nat, q < H.size → ¬ A1 q → H1[q]? = H[q]?) → va_S A0 H0 H1 locs1 → W p l e R s m args below meth c H1 locs1 (cells + mc) (slots + ms) Q (F0 m (pc + 3) ls (.long r :: rest))) : W p l e R s m args below meth c H locs cells slots Q (F0 m pc ls st0) := by
  intro T hT X
  rcases hr T hT X with ⟨v, st₀, t, T', L, h0, X', hL, e1, e2, ⟨⟨r, u, hv, hp, hb⟩, hF⟩, st⟩ | ⟨q, st₀, t, T', L, E, ce, h0, X', hL, e1, e2, ⟨u, hp, hb, hF⟩, hce, hcv, hcl, st⟩
  · cases hv
    obtain ⟨k1, k2, k3⟩ := vx_keep h0 e1 hS hA hf hL hF
    obtain ⟨t2, a1, b1⟩ := kk r u t T'.heap (locs ++ L) e1.symm (by rw [← e2]; exact X'.warmed.alike) hp hb k1 k2 k3 T' rfl X'
    exact ⟨t2, st t2 a1, b1⟩
  · obtain ⟨k1, k2, k3⟩ := vx_keep h0 e1 hS hAX hf hL hF
    obtain ⟨t2, a1, b1⟩ := kx E ce q u t T'.heap (locs ++ L) e1.symm (by rw [← e2]; exact X'.warmed.alike) hp hb k1 k2 k3 (by rw [e1]; exact hce) hcv hcl T' rfl X'
    exact ⟨t2, st.trans a1, b1⟩
theorem vx_callf {S SX : Type} {post : UInt32 → S → Prop} {px : SX → Prop} {B : S → State → Prop} {BX : String → SX → State → Prop} {AX : Nat → Prop} (hr : vx_Run p l e R s m args below meth c H locs cells slots mc ms (F0 m pc ls st0) rest (va_Qf post B A1 a) (vx_X px BX AX) free) (hS : va_S A0 H0 H locs) (hA : ∀ q, q < H.size → A1 q → A0 q) (hf : ∀ q, free q → A0 q) (hAX : ∀ q, q < H.size → AX q → A0 q)
    (kx : ∀ (E : String) (ce : Cell) (q9 : Addr) (u : SX) (t : State) (H1 : Heap) (locs1 : List Loc), t.heap = H1 → s.vm.Alike t.vm → px u → BX E u t → H.size ≤ H1.size → (∀ q : Nat, q < H.size → ¬ AX q → H1[q]? = H[q]?) → va_S A0 H0 H1 locs1 → H1[q9]? = some ce → ce.vm = .none → s.vm.findClass E = some ce.cls → vx_W p l e R s m args below meth c H1 locs1 (cells + mc) (slots + ms) Q (F0 m pc ls rest) q9)
    (kk : ∀ (r : UInt32) (u : S) (t : State) (H1 : Heap) (locs1 : List Loc), t.heap = H1 → s.vm.Alike t.vm → post r u → B u t → H.size ≤ H1.size → (∀ q : Nat, q < H.size → ¬ A1 q → H1[q]? = H[q]?) → va_S A0 H0 H1 locs1 → W p l e R s m args below meth c H1 locs1 (cells + mc) (slots + ms) Q (F0 m (pc + 3) ls (.float r :: rest))) : W p l e R s m args below meth c H locs cells slots Q (F0 m pc ls st0) := by
  intro T hT X
  rcases hr T hT X with ⟨v, st₀, t, T', L, h0, X', hL, e1, e2, ⟨⟨r, u, hv, hp, hb⟩, hF⟩, st⟩ | ⟨q, st₀, t, T', L, E, ce, h0, X', hL, e1, e2, ⟨u, hp, hb, hF⟩, hce, hcv, hcl, st⟩
  · cases hv
    obtain ⟨k1, k2, k3⟩ := vx_keep h0 e1 hS hA hf hL hF
    obtain ⟨t2, a1, b1⟩ := kk r u t T'.heap (locs ++ L) e1.symm (by rw [← e2]; exact X'.warmed.alike) hp hb k1 k2 k3 T' rfl X'
    exact ⟨t2, st t2 a1, b1⟩
  · obtain ⟨k1, k2, k3⟩ := vx_keep h0 e1 hS hAX hf hL hF
    obtain ⟨t2, a1, b1⟩ := kx E ce q u t T'.heap (locs ++ L) e1.symm (by rw [← e2]; exact X'.warmed.alike) hp hb k1 k2 k3 (by rw [e1]; exact hce) hcv hcl T' rfl X'
    exact ⟨t2, st.trans a1, b1⟩
theorem vx_calld {S SX : Type} {post : UInt64 → S → Prop} {px : SX → Prop} {B : S → State → Prop} {BX : String → SX → State → Prop} {AX : Nat → Prop} (hr : vx_Run p l e R s m args below meth c H locs cells slots mc ms (F0 m pc ls st0) rest (va_Qd post B A1 a) (vx_X px BX AX) free) (hS : va_S A0 H0 H locs) (hA : ∀ q, q < H.size → A1 q → A0 q) (hf : ∀ q, free q → A0 q) (hAX : ∀ q, q < H.size → AX q → A0 q)
    (kx : ∀ (E : String) (ce : Cell) (q9 : Addr) (u : SX) (t : State) (H1 : Heap) (locs1 : List Loc), t.heap = H1 → s.vm.Alike t.vm → px u → BX E u t → H.size ≤ H1.size → (∀ q : Nat, q < H.size → ¬ AX q → H1[q]? = H[q]?) → va_S A0 H0 H1 locs1 → H1[q9]? = some ce → ce.vm = .none → s.vm.findClass E = some ce.cls → vx_W p l e R s m args below meth c H1 locs1 (cells + mc) (slots + ms) Q (F0 m pc ls rest) q9)
    (kk : ∀ (r : UInt64) (u : S) (t : State) (H1 : Heap) (locs1 : List Loc), t.heap = H1 → s.vm.Alike t.vm → post r u → B u t → H.size ≤ H1.size → (∀ q : Nat, q < H.size → ¬ A1 q → H1[q]? = H[q]?) → va_S A0 H0 H1 locs1 → W p l e R s m args below meth c H1 locs1 (cells + mc) (slots + ms) Q (F0 m (pc + 3) ls (.double r :: rest))) : W p l e R s m args below meth c H locs cells slots Q (F0 m pc ls st0) := by
  intro T hT X
  rcases hr T hT X with ⟨v, st₀, t, T', L, h0, X', hL, e1, e2, ⟨⟨r, u, hv, hp, hb⟩, hF⟩, st⟩ | ⟨q, st₀, t, T', L, E, ce, h0, X', hL, e1, e2, ⟨u, hp, hb, hF⟩, hce, hcv, hcl, st⟩
  · cases hv
    obtain ⟨k1, k2, k3⟩ := vx_keep h0 e1 hS hA hf hL hF
    obtain ⟨t2, a1, b1⟩ := kk r u t T'.heap (locs ++ L) e1.symm (by rw [← e2]; exact X'.warmed.alike) hp hb k1 k2 k3 T' rfl X'
    exact ⟨t2, st t2 a1, b1⟩
  · obtain ⟨k1, k2, k3⟩ := vx_keep h0 e1 hS hAX hf hL hF
    obtain ⟨t2, a1, b1⟩ := kx E ce q u t T'.heap (locs ++ L) e1.symm (by rw [← e2]; exact X'.warmed.alike) hp hb k1 k2 k3 (by rw [e1]; exact hce) hcv hcl T' rfl X'
    exact ⟨t2, st.trans a1, b1⟩
theorem vx_callv {S SX : Type} {post : S → Prop} {px : SX → Prop} {B : S → State → Prop} {BX : String → SX → State → Prop} {AX : Nat → Prop} (hr : vx_Run p l e R s m args below meth c H locs cells slots mc ms (F0 m pc ls st0) rest (va_Qv post B A1 a) (vx_X px BX AX) free) (hS : va_S A0 H0 H locs) (hA : ∀ q, q < H.size → A1 q → A0 q) (hf : ∀ q, free q → A0 q) (hAX : ∀ q, q < H.size → AX q → A0 q)
    (kx : ∀ (E : String) (ce : Cell) (q9 : Addr) (u : SX) (t : State) (H1 : Heap) (locs1 : List Loc), t.heap = H1 → s.vm.Alike t.vm → px u → BX E u t → H.size ≤ H1.size → (∀ q : Nat, q < H.size → ¬ AX q → H1[q]? = H[q]?) → va_S A0 H0 H1 locs1 → H1[q9]? = some ce → ce.vm = .none → s.vm.findClass E = some ce.cls → vx_W p l e R s m args below meth c H1 locs1 (cells + mc) (slots + ms) Q (F0 m pc ls rest) q9)
    (kk : ∀ (u : S) (t : State) (H1 : Heap) (locs1 : List Loc), t.heap = H1 → s.vm.Alike t.vm → post u → B u t → H.size ≤ H1.size → (∀ q : Nat, q < H.size → ¬ A1 q → H1[q]? = H[q]?) → va_S A0 H0 H1 locs1 → W p l e R s m args below meth c H1 locs1 (cells + mc) (slots + ms) Q (F0 m (pc + 3) ls (rest))) : W p l e R s m args below meth c H locs cells slots Q (F0 m pc ls st0) := by
  intro T hT X
  rcases hr T hT X with ⟨v, st₀, t, T', L, h0, X', hL, e1, e2, ⟨⟨u, hv, hp, hb⟩, hF⟩, st⟩ | ⟨q, st₀, t, T', L, E, ce, h0, X', hL, e1, e2, ⟨u, hp, hb, hF⟩, hce, hcv, hcl, st⟩
  · cases hv
    obtain ⟨k1, k2, k3⟩ := vx_keep h0 e1 hS hA hf hL hF
    obtain ⟨t2, a1, b1⟩ := kk u t T'.heap (locs ++ L) e1.symm (by rw [← e2]; exact X'.warmed.alike) hp hb k1 k2 k3 T' rfl X'
    exact ⟨t2, st t2 a1, b1⟩
  · obtain ⟨k1, k2, k3⟩ := vx_keep h0 e1 hS hAX hf hL hF
    obtain ⟨t2, a1, b1⟩ := kx E ce q u t T'.heap (locs ++ L) e1.symm (by rw [← e2]; exact X'.warmed.alike) hp hb k1 k2 k3 (by rw [e1]; exact hce) hcv hcl T' rfl X'
    exact ⟨t2, st.trans a1, b1⟩
/-- caught by the row x of this method's table; the rows ahead don't take it -/
theorem vx_catch {own name : String} {E : String} {ce : Cell} {q : Addr} (hown : s.vm.findClass own = some m.cls) (pre : List ExceptionTableEntry) (x : ExceptionTableEntry) (suf : List ExceptionTableEntry) (hsplit : c.exceptionTable.toList = pre ++ x :: suf)
    (hpass : ∀ z ∈ pre, covers z pc = false ∨ (z.catchType ≠ 0 ∧ ∃ nm : String, (Cond.classLink own z.catchType nm).before args s = true ∧ va_Nc E nm s)) (hx : covers x pc = true) (h0 : x.catchType ≠ 0)
    (hlink : (Cond.classLink own x.catchType name).before args s = true) (hcast : (Cond.castable E name).before args s = true) (hcell : H[q]? = some ce) (hv : ce.vm = .none) (hcl : s.vm.findClass E = some ce.cls)
    (kk : W p l e R s m args below meth c H locs cells slots Q (F0 m x.handlerPc ls [.ref q])) : vx_W p l e R s m args below meth c H locs cells slots Q (F0 m pc ls rest) q := by
  intro T hT X
  have hpl : e.platform.magicAccessors = ({} : Platform).magicAccessors := by rw [X.admits.platform]
  obtain ⟨c3, c4, hc3, hc4, hasg⟩ := Cond.castable_spec hcast
  cases Option.some.inj (hc3.symm.trans hcl)
  obtain ⟨c5, hc5, hcl5⟩ := Cond.classLink_spec hown hlink e.platform hpl
  cases Option.some.inj (hc4.symm.trans hc5)
  obtain ⟨vm', X', st⟩ := X.thenCaughtThrough q (g := F0 m pc ls rest) rfl (Steps.refl _) (by rw [hT]; exact hcell) (by rw [hv]; rfl) (by obtain ⟨k9, h9, -⟩ := Vm.findClass_spec hcl; exact ⟨k9, h9⟩) pre x suf hsplit
    (fun z hz => by
      rcases hpass z hz with h | ⟨hz0, nm, hl1, hn1⟩
      · exact Or.inl h
      · obtain ⟨c6, hc6, hcl6⟩ := Cond.classLink_spec hown hl1 e.platform hpl
        obtain ⟨a8, b8, h1, h2, h3⟩ := hn1
        cases Option.some.inj (h1.symm.trans hcl)
        cases Option.some.inj (h2.symm.trans hc6)
        exact Or.inr ⟨hz0, _, hcl6, h3⟩) hx (Or.inr ⟨h0, c4, hcl5, hasg⟩)
  obtain ⟨t, a1, b1⟩ := kk (T.setVm vm') hT X'
  exact ⟨t, st.trans a1, b1⟩
end Rows
section Ends
variable {p : Program} {l : Launch} {e : Env} {R : Room} {s : State} {m : MethodId} {args : Array Value} {below : List Frame} {meth : Method} {c : Code} {H : Heap} {locs : List Loc} {cells slots : Nat} {Q : State → Prop}
variable {mc ms : Nat} {free : Addr → Prop} {A0 A1 : Nat → Prop} {H0 : Heap} {a : Array Value} {ls : Array Slot} {st0 rest : List Value}
variable {Qc : Array Value → State → Outcome → State → Prop} {XC : String → State → State → Prop}
/-- what a body that may throw owes at its end -/
def vx_MQ (below : List Frame) (Qc : Array Value → State → Outcome → State → Prop) (XC : String → State → State → Prop) (a : Array Value) (s : State) (mc ms : Nat) (free : Addr → Prop) : State → Prop := fun t =>
  ∃ o, t.status = .running ∧ Ended t below o ∧ vx_Q Qc XC mc ms free a s o t
theorem vx_ret {g : JFrame} {mc ms : Nat} (k : W p l e R s m args below meth c H locs cells slots (MQ below Qc args s mc ms free) g) : W p l e R s m args below meth c H locs cells slots (vx_MQ below Qc XC args s mc ms free) g := by
  intro T hT X
  obtain ⟨t, a1, o, b1, b2, b3, b4⟩ := k T hT X
  exact ⟨t, a1, o, b1, b2, Or.inl ⟨b3, b4⟩⟩
/-- not caught here: it goes on to the caller -/
theorem vx_widen {g : JFrame} {q : Addr} {k n : Nat} (h1 : cells ≤ k) (h2 : slots ≤ n) (kk : vx_W p l e R s m args below meth c H locs k n Q g q) : vx_W p l e R s m args below meth c H locs cells slots Q g q := fun T hT X => kk T hT (stand_widen X h1 h2)
theorem vx_out {pc : Nat} {E : String} {ce : Cell} {q : Addr} {mc ms : Nat} (hout : ∀ x ∈ c.exceptionTable.toList, covers x pc = false) (hlocks : meth.locks = false) (hcell : H[q]? = some ce) (hv : ce.vm = .none) (hcl : s.vm.findClass E = some ce.cls)
    (hx : ∀ t : State, t.heap = H → s.vm.Alike t.vm → XC E s t) (hf : ∀ z ∈ locs, free z.base) (hc : cells ≤ mc) (hs : slots ≤ ms) :
    vx_W p l e R s m args below meth c H locs cells slots (vx_MQ below Qc XC args s mc ms free) (F0 m pc ls rest) q := by
  intro T hT X
  obtain ⟨st1, hrun, hend, hW, hsm⟩ := X.leaveThrown q (g := F0 m pc ls rest) rfl rfl rfl hout hlocks
  have hcell9 : (T.setFrames (.throwing q :: below)).heap[q]? = some ce := by
    show T.heap[q]? = some ce
    rw [hT]; exact hcell
  exact ⟨_, st1, .threw q, hrun, hend, Or.inr ⟨q, rfl, E, ce, locs, hx _ hT hW.alike, hcell9, hv, hcl, hW, hsm.mono hc hs, hf⟩⟩
theorem vx_frame {U : State} {k n : Nat} (h : s.sameButNew ({ U with vm := s.vm } : State) locs k n) : s.heap.size ≤ U.heap.size ∧ ∀ q : Nat, q < s.heap.size → (∀ z ∈ locs, z.base ≠ q) → U.heap[q]? = s.heap[q]? := by
  obtain ⟨-, h2, -, -, -, h6⟩ := h
  refine ⟨h2, fun q hq hz => ?_⟩
  obtain ⟨c9, e1, e2, e3, e4⟩ := h6 q _ (Array.getElem?_eq_getElem hq)
  have hs : c9.slots = (s.heap[q]).slots := Array.ext_getElem? fun i => e4 i fun hm => hz _ hm rfl
  have h9 : c9 = s.heap[q] := by
    rw [hs] at e2
    exact e2
  have e5 : U.heap[q]? = some c9 := e1
  rw [e5, h9, Array.getElem?_eq_getElem hq]
/-- the words of a throw but the four that speak of the heap -/
def vx_no (w : Cond) : Bool := decide (w ≠ .isRef (.static Bundle.tN "UNASSIGNED_STACK" Bundle.steD)) && decide (w ≠ .isRef (.static Bundle.tN "SUPPRESSED_SENTINEL" Bundle.listD)) && decide (w ≠ .laysStatic Bundle.tN "UNASSIGNED_STACK" Bundle.steD) && decide (w ≠ .laysStatic Bundle.tN "SUPPRESSED_SENTINEL" Bundle.listD)
def vx_at0 (own : String) (ic : Nat) (X : String) (names : List String) : List Cond := (Bundle.ownAtoms0 own ic X names).filter vx_no
def vx_atS (own : String) (ic : Nat) (X : String) (names : List String) : List Cond := (Bundle.ownAtoms own ic X names).filter vx_no
/-- a word that the tables alone decide, or a good one -/
def vx_ot (w : Cond) : Bool := w.onTables || goodWord w
theorem vx_ot_at {args a' : Array Value} {s U : State} {w : Cond} (hW : s.WarmedH U.vm) (hvm : s.vm = U.vm) (hg : vx_ot w = true) (h : w.before args s = true) : w.before a' U = true := by
  simp only [vx_ot, Bool.or_eq_true] at hg
  rcases hg with hg | hg
  · exact va_tabs hg hvm h
  · exact word_at hW (good_of_word hg) h
/-- a list's words: the good ones out of the method's own list, the others by premises of their own -/
theorem vx_hat {args : Array Value} {s : State} {L B : List Cond} (h1 : ∀ w ∈ L.filter goodWord, w.before args s = true) (h2 : ∀ w ∈ L.filter (fun w => !goodWord w), w ∈ B) (h3 : ∀ w ∈ B, w.before args s = true) : ∀ w ∈ L, w.before args s = true := by
  intro w hw
  by_cases g : goodWord w = true
  · exact h1 w (List.mem_filter.mpr ⟨hw, g⟩)
  · refine h3 w (h2 w (List.mem_filter.mpr ⟨hw, ?_⟩))
    show (!goodWord w) = true
    cases hgw : goodWord w
    · rfl
    · exact absurd hgw g
theorem vx_c {args : Array Value} {s : State} {w : Cond} {B : List Cond} (h : w.before args s = true) (t : ∀ w ∈ B, w.before args s = true) : ∀ w' ∈ w :: B, w'.before args s = true := fun w' h' => (List.mem_cons.mp h').elim (fun e => by rw [e]; exact h) (t w')
theorem vx_n {args : Array Value} {s : State} : ∀ w ∈ ([] : List Cond), w.before args s = true := fun _ h => nomatch h
theorem vx_own {args : Array Value} {s : State} {L : List Cond} (h1 : ∀ w ∈ L.filter vx_no, w.before args s = true)
    (hU : (Cond.isRef (.static Bundle.tN "UNASSIGNED_STACK" Bundle.steD)).before args s = true) (hN : (Cond.isRef (.static Bundle.tN "SUPPRESSED_SENTINEL" Bundle.listD)).before args s = true)
    (lU : (Cond.laysStatic Bundle.tN "UNASSIGNED_STACK" Bundle.steD).before args s = true) (lN : (Cond.laysStatic Bundle.tN "SUPPRESSED_SENTINEL" Bundle.listD).before args s = true) : ∀ w ∈ L, w.before args s = true := by
  intro w hw
  by_cases e1 : w = .isRef (.static Bundle.tN "UNASSIGNED_STACK" Bundle.steD)
  · rw [e1]; exact hU
  · by_cases e2 : w = .isRef (.static Bundle.tN "SUPPRESSED_SENTINEL" Bundle.listD)
    · rw [e2]; exact hN
    · by_cases e3 : w = .laysStatic Bundle.tN "UNASSIGNED_STACK" Bundle.steD
      · rw [e3]; exact lU
      · by_cases e4 : w = .laysStatic Bundle.tN "SUPPRESSED_SENTINEL" Bundle.listD
        · rw [e4]; exact lN
        · exact h1 w (List.mem_filter.mpr ⟨hw, by unfold vx_no; rw [decide_eq_true e1, decide_eq_true e2, decide_eq_true e3, decide_eq_true e4]; rfl⟩)
/-- where a static field lies, its class's statics cell in H -/
def vx_L (C n d : String) (A : Nat → Prop) (U : State) (H : Heap) : Prop := ∃ (c : ClassId) (k : Class) (i : Nat) (f : Field) (a : Nat) (cell : Cell), U.vm.findClass C = some c ∧ U.fieldFound? C n d = some (c, k, i, f) ∧ f.isStatic = true ∧ k.statics = some a ∧ H[a]? = some cell ∧ cell.vm.isStatics = true ∧ cell.cls = c ∧ f.slot < cell.slots.size ∧ k.staticTypes[f.slot]? = some f.type ∧ ¬ A a
theorem vx_L.moved {C n d : String} {A : Nat → Prop} {u U : State} {H : Heap} (hvm : u.vm.Alike U.vm) (h : vx_L C n d A u H) : vx_L C n d A U H := by
  obtain ⟨c, k, i, f, a, cell, h1, h2, h3, h4, h5, h6, h7, h8, h9, h10⟩ := h
  obtain ⟨k', hi', he⟩ := State.fieldFound?_setVm hvm h2
  exact ⟨c, k', i, f, a, cell, by rw [hvm.findClass]; exact h1, hi', h3, by rw [he]; exact h4, h5, h6, h7, h8, by rw [he]; exact h9, h10⟩
theorem vx_L.kept {C n d : String} {A : Nat → Prop} {U : State} {H H1 : Heap} (h : vx_L C n d A U H) (hq : ∀ a : Nat, a < H.size → ¬ A a → H1[a]? = H[a]?) : vx_L C n d A U H1 := by
  obtain ⟨c, k, i, f, a, cell, h1, h2, h3, h4, h5, h6, h7, h8, h9, h10⟩ := h
  exact ⟨c, k, i, f, a, cell, h1, h2, h3, h4, by rw [hq a (Array.getElem?_eq_some_iff.mp h5).1 h10]; exact h5, h6, h7, h8, h9, h10⟩
theorem vx_L.narrow {C n d : String} {A B : Nat → Prop} {U : State} {H : Heap} (h : vx_L C n d A U H) (hAB : ∀ q, B q → A q) : vx_L C n d B U H := by
  obtain ⟨c, k, i, f, a, cell, h1, h2, h3, h4, h5, h6, h7, h8, h9, h10⟩ := h
  exact ⟨c, k, i, f, a, cell, h1, h2, h3, h4, h5, h6, h7, h8, h9, fun z => h10 (hAB _ z)⟩
theorem vx_L.word {C n d : String} {A : Nat → Prop} {s : State} {args : Array Value} (h : vx_L C n d A s s.heap) : (Cond.laysStatic C n d).before args s = true := by
  obtain ⟨c, k, i, f, a, cell, h1, h2, h3, h4, h5, h6, h7, h8, h9, -⟩ := h
  show (Cond.laysStatic C n d).holds args s none s [] = true
  exact Cond.laysStatic_of h1 h2 h3 h4 h5 h6 h7 h8 h9
/-- .. and what it holds: null or some reference -/
def vx_Zq (C n d : String) (A : Nat → Prop) (U : State) (H : Heap) : Prop := va_Zq C n d A U H ∧ vx_L C n d A U H
theorem vx_Zq.moved {C n d : String} {A : Nat → Prop} {u U : State} {H : Heap} (hvm : u.vm.Alike U.vm) (h : vx_Zq C n d A u H) : vx_Zq C n d A U H := ⟨va_Zq.moved hvm h.1, vx_L.moved hvm h.2⟩
theorem vx_Zq.kept {C n d : String} {A : Nat → Prop} {U : State} {H H1 : Heap} (h : vx_Zq C n d A U H) (hq : ∀ a : Nat, a < H.size → ¬ A a → H1[a]? = H[a]?) : vx_Zq C n d A U H1 := ⟨va_Zq.kept h.1 hq, vx_L.kept h.2 hq⟩
theorem vx_Zq.narrow {C n d : String} {A B : Nat → Prop} {U : State} {H : Heap} (h : vx_Zq C n d A U H) (hAB : ∀ q, B q → A q) : vx_Zq C n d B U H := ⟨va_Zq.narrow h.1 hAB, vx_L.narrow h.2 hAB⟩
theorem vx_Zqof {args : Array Value} {s : State} {C n d : String} {A : Nat → Prop} (hl : (Cond.laysStatic C n d).before args s = true) (hini : (Cond.initialized C).before args s = true) (h : (Cond.isRef (.static C n d)).before args s = true) (hA : ∀ a : Nat, a < s.heap.size → ¬ A a) : vx_Zq C n d A s s.heap := by
  refine ⟨va_Zqof hl hini h hA, ?_⟩
  obtain ⟨c, k, i, f, a, cell, h1, h2, h3, h4, h5, h6, h7, h8, h9⟩ := Cond.laysStatic_spec hl
  exact ⟨c, k, i, f, a, cell, h1, h2, h3, h4, h5, h6, h7, h8, h9, hA a (Array.getElem?_eq_some_iff.mp h5).1⟩
theorem vx_isRef {C n d : String} {v : Value} {A : Nat → Prop} {s : State} {args : Array Value} (h : va_Z C n d v A s s.heap) (hv : v.isRef = true) : (Cond.isRef (.static C n d)).before args s = true := by
  obtain ⟨cf, kf, fi, f, a, cell, h1, h2, h3, h4, h5, h6, h7, -⟩ := h
  have he : (Term.static C n d).eval args s none [] s = some v := by
    simp [Term.eval, State.fieldNamed?, h1, h2, h4, h5, h6, h7]
  simp only [Cond.before, Cond.holds, Cond.value, he]
  cases v <;> simp_all [Value.isRef]
theorem vx_isRefq {C n d : String} {A : Nat → Prop} {s : State} {args : Array Value} (h : va_Zq C n d A s s.heap) : (Cond.isRef (.static C n d)).before args s = true := by
  rcases h with h | ⟨t, h⟩
  · exact vx_isRef h rfl
  · exact vx_isRef h rfl
/-- the same frame, seen from here: as if the method were called anew in this heap -/
theorem vx_rebase {T : State} (X : Stand p l e R s m args below meth c T locs cells slots) {R' : Room} (hf : R'.frames ≤ R.frames) (hl : R'.locals ≤ R.locals) (hc : cells + R'.cells ≤ R.cells) (hs : slots + R'.slots ≤ R.slots) :
    Stand p l e R' ((T.setVm s.vm).setFrames (.invoking m args :: below)) m args below meth c T [] 0 0 := by
  have htop : (T.setVm s.vm).topJava?.isSome := X.here.top
  have hF : ((T.setVm s.vm).setFrames (.invoking m args :: below)).frames = .invoking m args :: below := State.frames_setFrames _ (State.cur_lt_of_top htop)
  obtain ⟨g₀, hg0⟩ := Option.isSome_iff_exists.mp htop
  obtain ⟨r, hr⟩ := State.topJava?_eq_some.mp hg0
  have hl9 : e.platform.stackLimits (T.setVm s.vm).me = e.platform.stackLimits s.me := X.limits
  have hb9 : (T.setVm s.vm).me.stackBytes = s.me.stackBytes := X.bytes
  refine ⟨X.admits, X.cas, X.clock, hF, ?_, X.hears, X.method, X.code, X.here, X.tail, X.warmed, ?_, ?_, ?_⟩
  · have h := X.room
    have hU : ((T.setVm s.vm).setFrames (.invoking m args :: below)).localsInUse = s.localsInUse := by
      rw [State.localsInUse_invoking hF (meth := meth) (c := c) X.method X.code, State.localsInUse_invoking X.frames X.method X.code]
    simp only [State.hasRoom, Bool.and_eq_true, decide_eq_true_eq] at h ⊢
    obtain ⟨⟨⟨⟨h1, h2, h3, h4, h5, h6⟩, h7⟩, h8⟩, h9⟩ := h
    rw [X.frames, List.length_cons] at h2 h3
    have q1 := X.heapSize
    have q2 := X.used
    simp only [hF, hU, List.length_cons, State.stackLimits_setFrames, State.stackBytes_setFrames, hl9, hb9]
    refine ⟨⟨⟨⟨by omega, by omega, by omega, by omega, by omega, h6⟩, ?_⟩, ?_⟩, X.book⟩
    · show T.heap.size + R'.cells ≤ e.platform.maxCells
      omega
    · show T.slotsUsed + R'.slots ≤ e.platform.maxSlots
      omega
  · rw [State.stackLimits_setFrames]; rfl
  · rw [State.stackBytes_setFrames]; rfl
  · refine ⟨?_, Nat.le_refl _, Nat.le_refl _, ?_, ?_, fun a c9 h9 => ⟨c9, h9, rfl, rfl, fun _ _ => rfl⟩⟩
    · obtain ⟨t, ht, -⟩ := State.frames_cons hr
      show T.setVm s.vm = { ((T.setVm s.vm).setFrames (.invoking m args :: below)).setFrames (T.setVm s.vm).frames with heap := T.heap, slotsUsed := T.slotsUsed }
      rw [State.setFrames_setFrames, State.setFrames_self ht]
      rfl
    · show T.slotsUsed = T.slotsUsed + ((T.heap.toList.drop T.heap.size).map (·.slots.size)).sum
      rw [List.drop_eq_nil_of_le (Nat.le_of_eq Array.length_toList)]
      rfl
    · show ((T.heap.toList.drop T.heap.size).map (·.slots.size)).sum ≤ 0
      rw [List.drop_eq_nil_of_le (Nat.le_of_eq Array.length_toList)]
      exact Nat.le_refl _
/-- 'throw new E()': new; dup; invokespecial; athrow -/
theorem vx_throw0 {cc : ByteArray} {pc : Nat} (hexec : p.tables.exec = Jvm.exec) (hb : c.code = cc) (hl : l.stackTraces = false) {own cls : String} {names : List String} {ik ic mc ms : Nat} {A : Nat → Prop}
    (hown : s.vm.findClass own = some m.cls) (hcls : Bundle.fit cls = true) (hnames : ∀ n ∈ names, Bundle.fit n = true)
    (hk : (Cond.classLink own ik cls).before args s = true) (hini : (Cond.initialized cls).before args s = true) (hat : ∀ w ∈ vx_at0 own ic cls names, w.before args s = true)
    (hgood : ∀ w ∈ Cond.classLink own ik cls :: Cond.initialized cls :: vx_at0 own ic cls names, vx_ot w = true)
    (hU : vx_Zq Bundle.tN "UNASSIGNED_STACK" Bundle.steD A s s.heap) (hN : vx_Zq Bundle.tN "SUPPRESSED_SENTINEL" Bundle.listD A s s.heap) (hS : va_S A s.heap H locs) (hsize : ls.size = c.maxLocals)
    (d0 : decode cc pc = .ok (.new ik, 3)) (d3 : decode cc (pc + 3) = .ok (.dup, 1)) (d4 : decode cc (pc + 4) = .ok (.invokespecial ic, 3)) (d7 : decode cc (pc + 7) = .ok (.athrow, 1))
    (hout : ∀ x ∈ c.exceptionTable.toList, covers x (pc + 7) = false)
    (hRframes : names.length + 3 < R.frames) (hRlocals : (rest.map fun v => v.category).sum + (13 * (names.length + 1) + 42) ≤ R.locals) (hRcells : cells + 1 ≤ R.cells) (hRslots : slots + 6 ≤ R.slots) (hlocks : meth.locks = false)
    (hx : ∀ t : State, s.vm.Alike t.vm → H.size ≤ t.heap.size → (∀ q : Nat, q < H.size → t.heap[q]? = H[q]?) → XC cls s t)
    (hf : ∀ z ∈ locs, free z.base) (hc : cells + 1 ≤ mc) (hs : slots + 6 ≤ ms) :
    W p l e R s m args below meth c H locs cells slots (vx_MQ below Qc XC args s mc ms free) (F0 m pc ls rest) := by
  intro T hT X
  have htr : e.platform.stackTraces = false := (show e.platform.stackTraces = l.stackTraces by rw [X.admits.platform]).trans hl
  have Y := vx_rebase X (R' := { frames := R.frames, locals := R.locals, cells := 1, slots := 6 }) (Nat.le_refl _) (Nat.le_refl _) hRcells hRslots
  obtain ⟨s', hA⟩ : ∃ z, z = (T.setVm s.vm).setFrames (.invoking m args :: below) := ⟨_, rfl⟩
  rw [← hA] at Y
  have hvm : s'.vm = s.vm := by rw [hA]; rfl
  have hhp : s'.heap = H := by rw [hA]; exact hT
  have hW0 : s.WarmedH s'.vm := by rw [hvm]; exact State.WarmedH.refl s
  have hat' : ∀ w ∈ vx_at0 own ic cls names, w.before args s' = true := fun w hw => vx_ot_at hW0 hvm.symm (hgood w (List.mem_cons_of_mem _ (List.mem_cons_of_mem _ hw))) (hat w hw)
  have hk' : (Cond.classLink own ik cls).before args s' = true := vx_ot_at hW0 hvm.symm (hgood _ List.mem_cons_self) hk
  have hini' : (Cond.initialized cls).before args s' = true := vx_ot_at hW0 hvm.symm (hgood _ (List.mem_cons_of_mem _ List.mem_cons_self)) hini
  have hU' : vx_Zq Bundle.tN "UNASSIGNED_STACK" Bundle.steD A s' s'.heap := by rw [hhp]; exact vx_Zq.moved hW0.alike (hU.kept hS.2.1)
  have hN' : vx_Zq Bundle.tN "SUPPRESSED_SENTINEL" Bundle.listD A s' s'.heap := by rw [hhp]; exact vx_Zq.moved hW0.alike (hN.kept hS.2.1)
  have h : ∀ w ∈ Bundle.ownAtoms0 own ic cls names, w.before args s' = true := vx_own hat' (vx_isRefq hU'.1) (vx_isRefq hN'.1) hU'.2.word hN'.2.word
  have hown' : s'.vm.findClass own = some m.cls := by rw [hvm]; exact hown
  have hins : (Cond.instantiable cls 6).before args s' = true := h _ (by simp [Bundle.ownAtoms0])
  obtain ⟨vm₁, cX, kX, hfX, hkX, -, -, X₁, st1⟩ := Y.newCold hexec (own := own) (C := cls) (index := ik) (n := 6) hown' hk' hins hini'
    (g := F0 m pc ls rest) rfl (by rw [hb]; exact d0) (Nat.le_refl _) (Nat.le_refl _)
  generalize hT1 : (T.setVm vm₁).pushCell { cls := cX, slots := kX.instanceTypes.map defaultValue, vm := .none } = T1 at X₁ st1
  have hcat : (Value.ref T.heap.size).category = 1 := rfl
  have hcellA : T1.heap[T.heap.size]? = some (freshCell cX kX) := by rw [← hT1]; exact State.heap_pushCell_size _ _
  have d3' : decode c.code (pc + 3) = .ok (.dup, 1) := by rw [hb]; exact d3
  obtain ⟨U, hsteps, hrun, hend, hW, hsame, ce, hce, hO⟩ := X₁.ctorThrow0 hexec htr (own := own) (cls := cls) (names := names) (ic := ic) hown' hcls hnames h (fun x hx => nomatch hx) hfX hkX hcellA (by rw [hhp, hT]; exact Nat.le_refl _)
    (g := { method := m, pc := pc + 4, locals := ls, stack := .ref T.heap.size :: .ref T.heap.size :: rest, locked := none }) rfl hsize rfl rfl (rest := rest) rfl
    (by rw [hb]; exact d4) (by rw [hb]; exact d7) hout hRframes (by simp only [List.map_cons, List.sum_cons, hcat]; omega) hlocks
  obtain ⟨f1, f2⟩ := vx_frame hsame
  rw [hhp] at f1 f2
  have hWs : s.WarmedH U.vm := State.WarmedH.trans hW0 hW
  have hcl : s.vm.findClass cls = some ce.cls := by
    have h9 := hO.cls
    rw [hvm] at h9
    exact h9
  have hall : s.sameButNew ({ U with vm := s.vm } : State) locs mc ms := by
    subst hA
    obtain ⟨e1, e2⟩ := hsame
    rw [State.setFrames_setFrames] at e1
    have h2 : (T.setVm s.vm).sameButNew ({ U with vm := s.vm } : State) [] (0 + 1) (0 + 6) := ⟨e1, e2⟩
    have h3 := X.same.trans h2
    rw [List.append_nil] at h3
    exact h3.mono hc hs
  refine ⟨U, ?_, .threw T.heap.size, hrun, hend, Or.inr ⟨T.heap.size, rfl, cls, ce, locs, hx U hWs.alike f1 (fun q hq => f2 q hq (fun z hz => nomatch hz)), hce, hO.vm, hcl, hWs, hall, hf⟩⟩
  refine st1 _ ?_
  show Steps p.tables e below (T1.setTop { method := m, pc := pc + 3, locals := ls, stack := .ref T.heap.size :: rest, locked := none }) _
  jvm_step X₁.here [X₁.here.top, hexec, d3', Value.category]
  exact hsteps
/-- 'throw new E("text")': new; dup; ldc; invokespecial; athrow -/
theorem vx_throwS {cc : ByteArray} {pc : Nat} (hexec : p.tables.exec = Jvm.exec) (hb : c.code = cc) (hl : l.stackTraces = false) {own cls text : String} {names : List String} {ik is ic mc ms sa : Nat} {A : Nat → Prop}
    (hown : s.vm.findClass own = some m.cls) (hcls : Bundle.fit cls = true) (hnames : ∀ n ∈ names, Bundle.fit n = true)
    (hk : (Cond.classLink own ik cls).before args s = true) (hini : (Cond.initialized cls).before args s = true) (hstr : vk_R own is text sa s) (hat : ∀ w ∈ vx_atS own ic cls names, w.before args s = true)
    (hgood : ∀ w ∈ Cond.classLink own ik cls :: Cond.initialized cls :: vx_atS own ic cls names, vx_ot w = true)
    (hU : vx_Zq Bundle.tN "UNASSIGNED_STACK" Bundle.steD A s s.heap) (hN : vx_Zq Bundle.tN "SUPPRESSED_SENTINEL" Bundle.listD A s s.heap) (hS : va_S A s.heap H locs) (hsize : ls.size = c.maxLocals)
    (d0 : decode cc pc = .ok (.new ik, 3)) (d3 : decode cc (pc + 3) = .ok (.dup, 1)) (d4 : decode cc (pc + 4) = .ok (.ldc is, 2)) (d6 : decode cc (pc + 6) = .ok (.invokespecial ic, 3)) (d9 : decode cc (pc + 9) = .ok (.athrow, 1))
    (hout : ∀ x ∈ c.exceptionTable.toList, covers x (pc + 9) = false)
    (hRframes : names.length + 3 < R.frames) (hRlocals : (rest.map fun v => v.category).sum + (13 * (names.length + 1) + 43) ≤ R.locals) (hRcells : cells + 1 ≤ R.cells) (hRslots : slots + 6 ≤ R.slots) (hlocks : meth.locks = false)
    (hx : ∀ t : State, s.vm.Alike t.vm → H.size ≤ t.heap.size → (∀ q : Nat, q < H.size → t.heap[q]? = H[q]?) → XC cls s t)
    (hf : ∀ z ∈ locs, free z.base) (hc : cells + 1 ≤ mc) (hs : slots + 6 ≤ ms) :
    W p l e R s m args below meth c H locs cells slots (vx_MQ below Qc XC args s mc ms free) (F0 m pc ls rest) := by
  intro T hT X
  have htr : e.platform.stackTraces = false := (show e.platform.stackTraces = l.stackTraces by rw [X.admits.platform]).trans hl
  have Y := vx_rebase X (R' := { frames := R.frames, locals := R.locals, cells := 1, slots := 6 }) (Nat.le_refl _) (Nat.le_refl _) hRcells hRslots
  obtain ⟨s', hA⟩ : ∃ z, z = (T.setVm s.vm).setFrames (.invoking m args :: below) := ⟨_, rfl⟩
  rw [← hA] at Y
  have hvm : s'.vm = s.vm := by rw [hA]; rfl
  have hhp : s'.heap = H := by rw [hA]; exact hT
  have hW0 : s.WarmedH s'.vm := by rw [hvm]; exact State.WarmedH.refl s
  have hat' : ∀ w ∈ vx_atS own ic cls names, w.before args s' = true := fun w hw => vx_ot_at hW0 hvm.symm (hgood w (List.mem_cons_of_mem _ (List.mem_cons_of_mem _ hw))) (hat w hw)
  have hk' : (Cond.classLink own ik cls).before args s' = true := vx_ot_at hW0 hvm.symm (hgood _ List.mem_cons_self) hk
  have hini' : (Cond.initialized cls).before args s' = true := vx_ot_at hW0 hvm.symm (hgood _ (List.mem_cons_of_mem _ List.mem_cons_self)) hini
  have hU' : vx_Zq Bundle.tN "UNASSIGNED_STACK" Bundle.steD A s' s'.heap := by rw [hhp]; exact vx_Zq.moved hW0.alike (hU.kept hS.2.1)
  have hN' : vx_Zq Bundle.tN "SUPPRESSED_SENTINEL" Bundle.listD A s' s'.heap := by rw [hhp]; exact vx_Zq.moved hW0.alike (hN.kept hS.2.1)
  have h : ∀ w ∈ Bundle.ownAtoms own ic cls names, w.before args s' = true := vx_own hat' (vx_isRefq hU'.1) (vx_isRefq hN'.1) hU'.2.word hN'.2.word
  have hown' : s'.vm.findClass own = some m.cls := by rw [hvm]; exact hown
  have hins : (Cond.instantiable cls 6).before args s' = true := h _ (by simp [Bundle.ownAtoms])
  obtain ⟨vm₁, cX, kX, hfX, hkX, -, -, X₁, st1⟩ := Y.newCold hexec (own := own) (C := cls) (index := ik) (n := 6) hown' hk' hins hini'
    (g := F0 m pc ls rest) rfl (by rw [hb]; exact d0) (Nat.le_refl _) (Nat.le_refl _)
  generalize hT1 : (T.setVm vm₁).pushCell { cls := cX, slots := kX.instanceTypes.map defaultValue, vm := .none } = T1 at X₁ st1
  have hcat : (Value.ref T.heap.size).category = 1 := rfl
  have hcellA : T1.heap[T.heap.size]? = some (freshCell cX kX) := by rw [← hT1]; exact State.heap_pushCell_size _ _
  have d3' : decode c.code (pc + 3) = .ok (.dup, 1) := by rw [hb]; exact d3
  have d4' : decode c.code (pc + 4) = .ok (.ldc is, 2) := by rw [hb]; exact d4
  have hstr' : vk_R own is text sa s' := vk_R.warm hW0 hstr
  obtain ⟨U, hsteps, hrun, hend, hW, hsame, ce, hce, hO⟩ := X₁.ctorThrowS hexec htr (own := own) (cls := cls) (names := names) (ic := ic) hown' hcls hnames h (fun x hx => nomatch hx) hfX hkX hcellA (by rw [hhp, hT]; exact Nat.le_refl _) (msg := .ref sa) rfl
    (g := { method := m, pc := pc + 6, locals := ls, stack := .ref sa :: .ref T.heap.size :: .ref T.heap.size :: rest, locked := none }) rfl hsize rfl rfl (rest := rest) rfl
    (by rw [hb]; exact d6) (by rw [hb]; exact d9) hout hRframes (by simp only [List.map_cons, List.sum_cons, hcat]; omega) hlocks
  obtain ⟨f1, f2⟩ := vx_frame hsame
  rw [hhp] at f1 f2
  have hWs : s.WarmedH U.vm := State.WarmedH.trans hW0 hW
  have hcl : s.vm.findClass cls = some ce.cls := by
    have h9 := hO.cls
    rw [hvm] at h9
    exact h9
  have hall : s.sameButNew ({ U with vm := s.vm } : State) locs mc ms := by
    subst hA
    obtain ⟨e1, e2⟩ := hsame
    rw [State.setFrames_setFrames] at e1
    have h2 : (T.setVm s.vm).sameButNew ({ U with vm := s.vm } : State) [] (0 + 1) (0 + 6) := ⟨e1, e2⟩
    have h3 := X.same.trans h2
    rw [List.append_nil] at h3
    exact h3.mono hc hs
  refine ⟨U, ?_, .threw T.heap.size, hrun, hend, Or.inr ⟨T.heap.size, rfl, cls, ce, locs, hx U hWs.alike f1 (fun q hq => f2 q hq (fun z hz => nomatch hz)), hce, hO.vm, hcl, hWs, hall, hf⟩⟩
  refine st1 _ ?_
  show Steps p.tables e below (T1.setTop { method := m, pc := pc + 3, locals := ls, stack := .ref T.heap.size :: rest, locked := none }) _
  jvm_step X₁.here [X₁.here.top, hexec, d3', Value.category]
  exact X₁.ldcString hexec (own := own) (text := text) (index := is) (a := sa) hown' hstr'.1 hstr'.2
    (g := { method := m, pc := pc + 4, locals := ls, stack := .ref T.heap.size :: .ref T.heap.size :: rest, locked := none }) rfl d4' _ hsteps
/-- 'throw new E("text")', the text by a wide index -/
theorem vx_throwSW {cc : ByteArray} {pc : Nat} (hexec : p.tables.exec = Jvm.exec) (hb : c.code = cc) (hl : l.stackTraces = false) {own cls text : String} {names : List String} {ik is ic mc ms sa : Nat} {A : Nat → Prop}
    (hown : s.vm.findClass own = some m.cls) (hcls : Bundle.fit cls = true) (hnames : ∀ n ∈ names, Bundle.fit n = true)
    (hk : (Cond.classLink own ik cls).before args s = true) (hini : (Cond.initialized cls).before args s = true) (hstr : vk_R own is text sa s) (hat : ∀ w ∈ vx_atS own ic cls names, w.before args s = true)
    (hgood : ∀ w ∈ Cond.classLink own ik cls :: Cond.initialized cls :: vx_atS own ic cls names, vx_ot w = true)
    (hU : vx_Zq Bundle.tN "UNASSIGNED_STACK" Bundle.steD A s s.heap) (hN : vx_Zq Bundle.tN "SUPPRESSED_SENTINEL" Bundle.listD A s s.heap) (hS : va_S A s.heap H locs) (hsize : ls.size = c.maxLocals)
    (d0 : decode cc pc = .ok (.new ik, 3)) (d3 : decode cc (pc + 3) = .ok (.dup, 1)) (d4 : decode cc (pc + 4) = .ok (.ldc_w is, 3)) (d7 : decode cc (pc + 7) = .ok (.invokespecial ic, 3)) (d10 : decode cc (pc + 10) = .ok (.athrow, 1))
    (hout : ∀ x ∈ c.exceptionTable.toList, covers x (pc + 10) = false)
    (hRframes : names.length + 3 < R.frames) (hRlocals : (rest.map fun v => v.category).sum + (13 * (names.length + 1) + 43) ≤ R.locals) (hRcells : cells + 1 ≤ R.cells) (hRslots : slots + 6 ≤ R.slots) (hlocks : meth.locks = false)
    (hx : ∀ t : State, s.vm.Alike t.vm → H.size ≤ t.heap.size → (∀ q : Nat, q < H.size → t.heap[q]? = H[q]?) → XC cls s t)
    (hf : ∀ z ∈ locs, free z.base) (hc : cells + 1 ≤ mc) (hs : slots + 6 ≤ ms) :
    W p l e R s m args below meth c H locs cells slots (vx_MQ below Qc XC args s mc ms free) (F0 m pc ls rest) := by
  intro T hT X
  have htr : e.platform.stackTraces = false := (show e.platform.stackTraces = l.stackTraces by rw [X.admits.platform]).trans hl
  have Y := vx_rebase X (R' := { frames := R.frames, locals := R.locals, cells := 1, slots := 6 }) (Nat.le_refl _) (Nat.le_refl _) hRcells hRslots
  obtain ⟨s', hA⟩ : ∃ z, z = (T.setVm s.vm).setFrames (.invoking m args :: below) := ⟨_, rfl⟩
  rw [← hA] at Y
  have hvm : s'.vm = s.vm := by rw [hA]; rfl
  have hhp : s'.heap = H := by rw [hA]; exact hT
  have hW0 : s.WarmedH s'.vm := by rw [hvm]; exact State.WarmedH.refl s
  have hat' : ∀ w ∈ vx_atS own ic cls names, w.before args s' = true := fun w hw => vx_ot_at hW0 hvm.symm (hgood w (List.mem_cons_of_mem _ (List.mem_cons_of_mem _ hw))) (hat w hw)
  have hk' : (Cond.classLink own ik cls).before args s' = true := vx_ot_at hW0 hvm.symm (hgood _ List.mem_cons_self) hk
  have hini' : (Cond.initialized cls).before args s' = true := vx_ot_at hW0 hvm.symm (hgood _ (List.mem_cons_of_mem _ List.mem_cons_self)) hini
  have hU' : vx_Zq Bundle.tN "UNASSIGNED_STACK" Bundle.steD A s' s'.heap := by rw [hhp]; exact vx_Zq.moved hW0.alike (hU.kept hS.2.1)
  have hN' : vx_Zq Bundle.tN "SUPPRESSED_SENTINEL" Bundle.listD A s' s'.heap := by rw [hhp]; exact vx_Zq.moved hW0.alike (hN.kept hS.2.1)
  have h : ∀ w ∈ Bundle.ownAtoms own ic cls names, w.before args s' = true := vx_own hat' (vx_isRefq hU'.1) (vx_isRefq hN'.1) hU'.2.word hN'.2.word
  have hown' : s'.vm.findClass own = some m.cls := by rw [hvm]; exact hown
  have hins : (Cond.instantiable cls 6).before args s' = true := h _ (by simp [Bundle.ownAtoms])
  obtain ⟨vm₁, cX, kX, hfX, hkX, -, -, X₁, st1⟩ := Y.newCold hexec (own := own) (C := cls) (index := ik) (n := 6) hown' hk' hins hini'
    (g := F0 m pc ls rest) rfl (by rw [hb]; exact d0) (Nat.le_refl _) (Nat.le_refl _)
  generalize hT1 : (T.setVm vm₁).pushCell { cls := cX, slots := kX.instanceTypes.map defaultValue, vm := .none } = T1 at X₁ st1
  have hcat : (Value.ref T.heap.size).category = 1 := rfl
  have hcellA : T1.heap[T.heap.size]? = some (freshCell cX kX) := by rw [← hT1]; exact State.heap_pushCell_size _ _
  have d3' : decode c.code (pc + 3) = .ok (.dup, 1) := by rw [hb]; exact d3
  have d4' : decode c.code (pc + 4) = .ok (.ldc_w is, 3) := by rw [hb]; exact d4
  have hstr' : vk_R own is text sa s' := vk_R.warm hW0 hstr
  obtain ⟨U, hsteps, hrun, hend, hW, hsame, ce, hce, hO⟩ := X₁.ctorThrowS hexec htr (own := own) (cls := cls) (names := names) (ic := ic) hown' hcls hnames h (fun x hx => nomatch hx) hfX hkX hcellA (by rw [hhp, hT]; exact Nat.le_refl _) (msg := .ref sa) rfl
    (g := { method := m, pc := pc + 7, locals := ls, stack := .ref sa :: .ref T.heap.size :: .ref T.heap.size :: rest, locked := none }) rfl hsize rfl rfl (rest := rest) rfl
    (by rw [hb]; exact d7) (by rw [hb]; exact d10) hout hRframes (by simp only [List.map_cons, List.sum_cons, hcat]; omega) hlocks
  obtain ⟨f1, f2⟩ := vx_frame hsame
  rw [hhp] at f1 f2
  have hWs : s.WarmedH U.vm := State.WarmedH.trans hW0 hW
  have hcl : s.vm.findClass cls = some ce.cls := by
    have h9 := hO.cls
    rw [hvm] at h9
    exact h9
  have hall : s.sameButNew ({ U with vm := s.vm } : State) locs mc ms := by
    subst hA
    obtain ⟨e1, e2⟩ := hsame
    rw [State.setFrames_setFrames] at e1
    have h2 : (T.setVm s.vm).sameButNew ({ U with vm := s.vm } : State) [] (0 + 1) (0 + 6) := ⟨e1, e2⟩
    have h3 := X.same.trans h2
    rw [List.append_nil] at h3
    exact h3.mono hc hs
  refine ⟨U, ?_, .threw T.heap.size, hrun, hend, Or.inr ⟨T.heap.size, rfl, cls, ce, locs, hx U hWs.alike f1 (fun q hq => f2 q hq (fun z hz => nomatch hz)), hce, hO.vm, hcl, hWs, hall, hf⟩⟩
  refine st1 _ ?_
  show Steps p.tables e below (T1.setTop { method := m, pc := pc + 3, locals := ls, stack := .ref T.heap.size :: rest, locked := none }) _
  jvm_step X₁.here [X₁.here.top, hexec, d3', Value.category]
  exact X₁.ldcStringW hexec (own := own) (text := text) (index := is) (a := sa) hown' hstr'.1 hstr'.2
    (g := { method := m, pc := pc + 4, locals := ls, stack := .ref T.heap.size :: .ref T.heap.size :: rest, locked := none }) rfl d4' _ hsteps
end Ends
section Bodies
variable {l : Launch}
theorem vx_ofW {y : MethodName} {ws ws' : List Cond} {rm : Room} {Pc : Array Value → State → Prop} {Qc : Array Value → State → Outcome → State → Prop} {XC : String → State → State → Prop} {mc ms : Nat} {free : Addr → Prop} {cc : ByteArray} {maxL : Nat} {ret : Option FieldType}
    (hy : plainName y.cls = true) (hw : ws = Cond.code y cc maxL ret :: ws')
    (body : ∀ p e s m args below meth c s₁, BodyLoose p l y (headSpec ws rm) cc maxL ret e s m args below meth c s₁ → c.maxLocals = maxL → (∀ x ∈ c.exceptionTable.toList, False) → Pc args s →
      W p l e (headSpec ws rm).room s m args below meth c s.heap [] 0 0 (vx_MQ below Qc XC args s mc ms free) (entryFrame m args maxL)) : vx_Met l y ws rm Pc Qc XC mc ms free := by
  refine MetFree.of_bodyS (code := cc) (maxLocals := maxL) (ret := ret) hy ?_ ?_
  · intro args s m h hn
    obtain ⟨meth, c, h1, h2, h3, h4, h5, h6, -, -⟩ := Cond.code_spec hn (atoms_spec (ws := ws) h _ (by rw [hw]; exact List.mem_cons_self))
    exact ⟨meth, c, h1, h2, h3, h4, h5, h6⟩
  · intro p e s m args below meth c s₁ B hml hP _
    have hh0 : s₁.heap = s.heap := by rw [B.state]; rfl
    have ht : ∀ x ∈ c.exceptionTable.toList, False := by
      obtain ⟨meth9, c9, h1, h2, -, -, -, -, h7, -⟩ := Cond.code_spec B.named (atoms_spec (ws := ws) B.pre _ (by rw [hw]; exact List.mem_cons_self))
      cases Option.some.inj (h1.symm.trans B.method)
      cases Option.some.inj (h2.symm.trans (Stand.of_body B).code)
      intro x hx
      rw [Array.isEmpty_iff.mp h7] at hx
      cases hx
    obtain ⟨t, a1, o, b1, b2, b3⟩ := body p e s m args below meth c s₁ B hml ht hP s₁ hh0 (Stand.of_body B)
    exact ⟨t, o, a1, b1, b2, b3⟩
/-- the table of a body with handlers -/
theorem vx_table {p : Program} {x y : MethodName} {S : Spec} {cc bytes : ByteArray} {maxL maxL' : Nat} {ret ret' : Option FieldType} {e : Env} {s s₁ : State} {m : MethodId} {args : Array Value} {below : List Frame} {meth : Method} {c : Code} {hh : List (Nat × Nat × Nat × Nat)}
    (B : BodyLoose p l y S cc maxL ret e s m args below meth c s₁) (h : (Cond.codeWith y bytes maxL' ret' hh).before args s = true) : c.exceptionTable.toList = tableOf hh := by
  obtain ⟨m9, meth9, c9, hn9, h1, h2, -, -, h6, -⟩ := Cond.codeWith_spec h
  cases Option.some.inj (hn9.symm.trans B.named)
  cases Option.some.inj (h1.symm.trans B.method)
  cases Option.some.inj (h2.symm.trans (Stand.of_body B).code)
  rw [← h6, table_eq]
end Bodies
end VXA
/-! ===== END ===== -/
/-! ===== BEGIN a static call of a method with an exception table ===== -/
section VXS
variable {p : Program} {l : Launch} {e : Env} {R : Room} {s : State} {m : MethodId} {args : Array Value} {below : List Frame} {meth : Method} {c : Code} {T : State} {H : Heap} {locs : List Loc} {cells slots : Nat}
abbrev vx_CSW (R : Room) (s : State) (args : Array Value) (own : String) (index : Nat) (y : MethodName) (bytes : ByteArray) (maxL : Nat) (ret : Option FieldType) (hh : List (Nat × Nat × Nat × Nat)) (ws : List Cond) (rm : Room) (mc ms n : Nat) : Prop :=
  (rm.cells = mc ∧ rm.slots = ms ∧ rm.frames + 1 ≤ R.frames ∧ 8 + (maxL + 11) + rm.locals ≤ R.locals ∧ (∀ w ∈ ws, ∀ (a' : Array Value) (U : State), s.WarmedH U.vm → w.before a' U = true) ∧ Cond.codeWith y bytes maxL ret hh ∈ ws) ∧
  (Cond.codeWith y bytes maxL ret hh).before args s = true ∧ (Cond.initialized y.cls).before args s = true ∧ (y.cls ≠ "java/lang/invoke/MethodHandle" ∧ y.cls ≠ "java/lang/invoke/VarHandle") ∧
  (∀ sig, parseMethodDescriptor y.desc = some sig → n = sig.parameters.length) ∧ (Cond.methodLink own index y).before args s = true ∧ (Cond.static y).before args s = true
theorem vx_cwSW {own : String} {index maxL mc ms : Nat} {y : MethodName} {bytes : ByteArray} {ret : Option FieldType} {hh : List (Nat × Nat × Nat × Nat)} {Ts ws ws' : List Cond} {rm : Room} (n : Nat) (ht : ∀ w ∈ Ts, w.before args s = true) (hT : GoodIn Ts (va_wsS own index y ws)) (hw : ws = Cond.codeWith y bytes maxL ret hh :: ws') (hrc : rm.cells = mc) (hrs : rm.slots = ms)
    (hd : y.cls ≠ "java/lang/invoke/MethodHandle" ∧ y.cls ≠ "java/lang/invoke/VarHandle" ∧ (parseMethodDescriptor y.desc).map (fun d => d.parameters.length) = some n) (hR : rm.frames + 1 ≤ R.frames ∧ 8 + (maxL + 11) + rm.locals ≤ R.locals) :
    vx_CSW R s args own index y bytes maxL ret hh ws rm mc ms n := by
  have ok : ∀ w ∈ va_wsS own index y ws, w.before args s = true := fun w h => ht w (hT w h).1
  have hG : GoodIn Ts ws := fun w h => hT w (by unfold va_wsS; exact List.mem_append_right _ h)
  have hc : Cond.codeWith y bytes maxL ret hh ∈ ws := by rw [hw]; exact List.mem_cons_self
  refine ⟨⟨hrc, hrs, hR.1, hR.2, pay_in ht hG, hc⟩, ht _ (hG _ hc).1, ok _ (by simp [va_wsS]), ⟨hd.1, hd.2.1⟩, fun sig h => ?_, ok _ (by simp [va_wsS]), ok _ (by simp [va_wsS])⟩
  have h2 := hd.2.2
  rw [h] at h2
  exact (Option.some.inj h2).symm
theorem vx_callSW (X : Stand p l e R s m args below meth c T locs cells slots) (hexec : p.tables.exec = Jvm.exec) {own : String} {index : Nat} {y : MethodName} {bytes : ByteArray} {maxL : Nat} {ret : Option FieldType} {hh : List (Nat × Nat × Nat × Nat)}
    (hown : s.vm.findClass own = some m.cls) (hlink : (Cond.methodLink own index y).before args s = true) (hstat : (Cond.static y).before args s = true) (hinit : (Cond.initialized y.cls).before args s = true)
    (hcode : (Cond.codeWith y bytes maxL ret hh).before args s = true) (hy : y.cls ≠ "java/lang/invoke/MethodHandle" ∧ y.cls ≠ "java/lang/invoke/VarHandle")
    {W9 : Nat} {Pre : Pt → Array Value → Prop} {Post : Pt → Array Value → Option Value → Pt → Prop} (hK : Back l R p e below s args y 3 W9 Pre Post)
    {g : JFrame} (hg : g.method = m) (hsize : g.locals.size = c.maxLocals) {argsL rest : List Value} (hlen : ∀ sig, parseMethodDescriptor y.desc = some sig → argsL.length = sig.parameters.length)
    (hstack : g.stack = argsL.reverse ++ rest) (hW : 2 * g.monitorRoom + (rest.map fun v => v.category).sum ≤ W9) (hdg : decode c.code g.pc = .ok (.invokestatic index, 3))
    (hpre : ∀ vm₁, s.WarmedH vm₁ → Pre ⟨T.setVm vm₁, locs, cells, slots⟩ argsL.toArray) :
    ∃ (v : Option Value) (vm₁ : Vm) (B : Pt), s.WarmedH vm₁ ∧ Stand p l e R s m args below meth c B.U B.locs B.cells B.slots ∧ Post ⟨T.setVm vm₁, locs, cells, slots⟩ argsL.toArray v B ∧
      ∀ target, Steps p.tables e below (B.U.setTop { g with pc := g.pc + 3, stack := v.toList ++ rest }) target → Steps p.tables e below (T.setTop g) target := by
  obtain ⟨mk, methM, cM, hnamed, hmethM, -, -, -, -, -, -, hsigM⟩ := Cond.codeWith_spec hcode
  have hstatic : methM.isStatic = true := Cond.static_spec hnamed hmethM hstat
  obtain ⟨kP, hkP, -⟩ := className_of_methodNamed hnamed
  have hinitP : kP.init = .initialized := Cond.initialized_spec (findClass_of_methodNamed hnamed) hkP hinit
  obtain ⟨vm₁, X₁, hstep₁⟩ := X.invokestatic hexec hown hlink hnamed hmethM hstatic hkP hinitP hy (g := g) hg (argsL := argsL) (rest := rest) (hlen _ hsigM) hstack hdg
  obtain ⟨v, B, X', hpost, hsteps⟩ := hK m meth c ⟨T.setVm vm₁, locs, cells, slots⟩ { g with stack := rest } (.invokestatic index) mk argsL.toArray X₁ hg hsize hdg hW (X₁.named hnamed) (hpre vm₁ X₁.warmed)
  exact ⟨v, vm₁, B, X₁.warmed, X', hpost, fun target h => hstep₁ _ fun acts => by rw [doInvoke_state]; exact hsteps.trans h⟩
theorem vx_runSW {y : MethodName} {bytes cc : ByteArray} {maxL nL mc ms n index : Nat} {ret : Option FieldType} {hh : List (Nat × Nat × Nat × Nat)} {ws : List Cond} {rm : Room} {Pc : Array Value → State → Prop} {Qc : Array Value → State → Outcome → State → Prop} {free : Addr → Prop} {Ts : List Cond} {own : String} {As rest : List Value} {g : JFrame}
    (S : CallFix p m c cc nL s args Ts own) (hM : Met l y ws rm Pc Qc mc ms free) (cw : vx_CSW R s args own index y bytes maxL ret hh ws rm mc ms n) (hp : PreS s H Pc As)
    (hg : g.method = m) (hn : As.length = n) (hsize : g.locals.size = nL) (hstack : g.stack = As.reverse ++ rest) (hW : 2 * g.monitorRoom + (rest.map fun v => v.category).sum ≤ 8) (hdg : decode cc g.pc = .ok (.invokestatic index, 3)) (hf : cells + mc ≤ R.cells ∧ slots + ms ≤ R.slots) :
    va_Run p l e R s m args below meth c H locs cells slots mc ms g rest (Qc As.toArray) (free) := by
  obtain ⟨⟨hrc, hrs, hfr, hlo, hws, hcw⟩, hcode, hini, hy, hlen, hl, hstt⟩ := cw
  have hK : Back l R p e below s args y 3 8 (PreOf R mc ms Pc) (PostOf Qc mc ms free) := va_backW (hh := hh) (bytes := bytes) (maxL := maxL) (ret := ret) hM hp.1 hrc hrs hfr hlo hws hcw (fun a' U hW => word_at hW (Or.inl (by first | rfl | simp [Cond.onTables, Cond.keeps, Cond.steady])) hini)
  obtain ⟨hx, hb, hml, ho, -⟩ := S
  intro T hT X
  obtain ⟨v, vm₁, ⟨U', l2, c2, s2⟩, hW₁, X', ⟨g', mk, t, L, e1, e2, hq, h1, hL, h2, h3⟩, st⟩ := vx_callSW X hx (hh := hh) (bytes := bytes) (maxL := maxL) (ret := ret) ho hl hstt hini hcode hy hK hg (hsize.trans hml.symm) (argsL := As) (rest := rest) (fun sig h => hn.trans (hlen sig h)) hstack hW (by rw [hb]; exact hdg)
    (fun vm₁ hW₁ => ⟨hf.1, hf.2, hp.2 (T.setVm vm₁) hT hW₁⟩)
  dsimp only [Pt.U, Pt.locs, Pt.cells, Pt.slots] at X' e1 e2 h1 h2 h3 st
  subst h1; subst h2; subst h3
  exact ⟨v, (T.setVm vm₁).calling g' mk As.toArray, t, U', L, hT, X', hL, e1, e2, hq, st⟩
/-- not caught here, past rows that name other classes: it goes on to the caller -/
theorem vx_outP {p : Program} {l : Launch} {e : Env} {R : Room} {s : State} {m : MethodId} {args : Array Value} {below : List Frame} {meth : Method} {c : Code} {H : Heap} {locs : List Loc} {cells slots : Nat} {free : Addr → Prop} {ls : Array Slot} {rest : List Value} {Qc : Array Value → State → Outcome → State → Prop} {XC : String → State → State → Prop}
    {pc : Nat} {own E : String} {ce : Cell} {q : Addr} {mc ms : Nat} (hown : s.vm.findClass own = some m.cls) (hlocks : meth.locks = false)
    (hpass : ∀ z ∈ c.exceptionTable.toList, covers z pc = false ∨ (z.catchType ≠ 0 ∧ ∃ nm : String, (Cond.classLink own z.catchType nm).before args s = true ∧ va_Nc E nm s)) (hcell : H[q]? = some ce) (hv : ce.vm = .none) (hcl : s.vm.findClass E = some ce.cls)
    (hx : ∀ t : State, t.heap = H → s.vm.Alike t.vm → XC E s t) (hf : ∀ z ∈ locs, free z.base) (hc : cells ≤ mc) (hs : slots ≤ ms) :
    vx_W p l e R s m args below meth c H locs cells slots (vx_MQ below Qc XC args s mc ms free) (F0 m pc ls rest) q := by
  intro T hT X
  have hpl : e.platform.magicAccessors = ({} : Platform).magicAccessors := by rw [X.admits.platform]
  obtain ⟨vm', hW', X', st⟩ := X.outThrough hlocks q (g := F0 m pc ls rest) rfl rfl rfl (cell := ce) (by rw [hT]; exact hcell) (by rw [hv]; rfl)
    (by obtain ⟨k9, h9, -⟩ := Vm.findClass_spec hcl; exact ⟨k9, h9⟩) (fun z hz => by
      rcases hpass z hz with h | ⟨hz0, nm, hl1, hn1⟩
      · exact Or.inl h
      · obtain ⟨c6, hc6, hcl6⟩ := Cond.classLink_spec hown hl1 e.platform hpl
        obtain ⟨a8, b8, h1, h2, h3⟩ := hn1
        cases Option.some.inj (h1.symm.trans hcl)
        cases Option.some.inj (h2.symm.trans hc6)
        exact Or.inr ⟨hz0, _, hcl6, h3⟩)
  obtain ⟨g₀, hfr⟩ := X'.frames_eq
  have hcell9 : ((T.setVm vm').setFrames (.throwing q :: below)).heap[q]? = some ce := by
    show T.heap[q]? = some ce
    rw [hT]; exact hcell
  have hend : Ended ((T.setVm vm').setFrames (.throwing q :: below)) below (.threw q) := State.frames_setFrames _ (State.cur_lt_of_frames hfr)
  refine ⟨(T.setVm vm').setFrames (.throwing q :: below), ?_, .threw q, X'.here.running, hend, Or.inr ⟨q, rfl, E, ce, locs, hx _ hT (X'.ends _).1.alike, hcell9, hv, hcl, (X'.ends _).1, (X'.ends _).2.mono hc hs, hf⟩⟩
  rw [X.pushThrowing_eq]
  exact st
/-- a thing of a world lies in the heap -/
theorem vx_lt {D : va_G} {cl : List vw_C} {ws : va_W} {H1 : Heap} (h : va_P D cl ws H1) {k : Nat} {q : Nat × va_E} (hk : ws[k]? = some q) : q.1 < H1.size := (h k q hk).lt
end VXS
/-! ===== END ===== -/
/-! ===== BEGIN methods with a table of their own: called by a name, returning or throwing ===== -/
section VXH
/-! vx_backW, vx_callVX, vx_callSX, vx_callVW, vx_runVW, vx_runVX, vx_runSX, vx_ofWH follow the same proofs as their sisters above (Free/Laws.lean, Shelf42/LK1.lean); vx_outP calls Shelf42/NT130.lean (outThrough). -/
section
variable {l : Launch} {R : Room} {p : Program} {e : Env} {below : List Frame} {s : State} {sargs : Array Value} {y : MethodName} {len W9 : Nat}
theorem vx_backW {ws : List Cond} {rm : Room} {Pc : Array Value → State → Prop} {Qc : Array Value → State → Outcome → State → Prop} {XC : String → State → State → Prop} {mc ms : Nat} {free : Addr → Prop} {bytes : ByteArray} {maxL : Nat} {ret : Option FieldType} {hh : List (Nat × Nat × Nat × Nat)}
    (hM : vx_Met l y ws rm Pc Qc XC mc ms free) (hblind : FrameBlind Pc) (hrc : rm.cells = mc) (hrs : rm.slots = ms)
    (hframes : rm.frames + 1 ≤ R.frames) (hlocals : W9 + (maxL + 11) + rm.locals ≤ R.locals)
    (hws : ∀ w ∈ ws, ∀ a' U, s.WarmedH U.vm → w.before a' U = true) (hcode : Cond.codeWith y bytes maxL ret hh ∈ ws) (hinit : ∀ a' U, s.WarmedH U.vm → (Cond.initialized y.cls).before a' U = true) :
    vx_Back l R p e below s sargs y len W9 (PreOf R mc ms Pc) (PostOf Qc mc ms free) (vx_Post XC mc ms free) := by
  intro m meth c A g ig mk a X hg hsize hdg hW hn hp
  have h1 : (headSpec ws rm).pre.before a A.U = true := atoms_intro fun w hw => hws w hw _ _ X.warmed
  have h2 : (Cond.codeWith y bytes maxL ret hh).before a A.U = true := hws _ hcode _ _ X.warmed
  have h3 : (Cond.initialized y.cls).before a A.U = true := hinit _ _ X.warmed
  have h4 : A.cells + (headSpec ws rm).room.cells ≤ R.cells := by rw [show (headSpec ws rm).room.cells = mc from hrc]; exact hp.1
  have h5 : A.slots + (headSpec ws rm).room.slots ≤ R.slots := by rw [show (headSpec ws rm).room.slots = ms from hrs]; exact hp.2.1
  have hPc : Pc a (A.U.calling g mk a) := hblind _ _ _ _ hp.2.2
  obtain ⟨U, Ls, c0, s0⟩ := A
  dsimp only [Pt.U, Pt.locs, Pt.cells, Pt.slots] at h1 h2 h3 h4 h5 X hn hPc ⊢
  obtain ⟨m9, methY, cY, hn9, hmY, hcY, -, hlY, -⟩ := Cond.codeWith_spec h2
  cases Option.some.inj (hn9.symm.trans hn)
  obtain ⟨kY, hkY, -⟩ := className_of_methodNamed hn
  have hinitY : kY.init = .initialized := Cond.initialized_spec (findClass_of_methodNamed hn) hkY h3
  have h : At U g.method c below := by rw [hg]; exact X.here
  have hlocals9 : W9 + (maxL + 11) + (headSpec ws rm).room.locals ≤ R.locals := hlocals
  have happ : (headSpec ws rm).appliesLoose y e.platform (U.calling g mk a) = true :=
    Spec.appliesLoose_calling (g := g) h hdg hn hkY hinitY
      (X.room_calling (g := g) (R' := (headSpec ws rm).room) hsize hmY hcY hframes (by rw [hlY]; omega) h4 h5) h1
  obtain ⟨mid, hmid⟩ := h.above
  have hfr : (U.setTop g).frames = (.java g :: mid) ++ below := by rw [State.frames_setTop' g h.top, hmid]; rfl
  obtain ⟨o, s₂, hsteps, -, hend, hq⟩ := Steps.callFree hM p X.admits X.cas X.clock (acts := []) hfr happ hPc trivial
  have hq' : vx_Q Qc XC mc ms free a (U.calling g mk a) o s₂ := hq
  rw [State.frames_setTop' g h.top] at hend
  obtain ⟨g₀, hg0⟩ := Option.isSome_iff_exists.mp h.top
  obtain ⟨r, hr⟩ := State.topJava?_eq_some.mp hg0
  have hr' : (({ U with heap := s₂.heap, slotsUsed := s₂.slotsUsed } : State).setVm s₂.vm).frames = .java g₀ :: r := hr
  rcases hq' with ⟨hqc, L, hfe, hL⟩ | ⟨q, rfl, E, ce, L, hx, hce, hcv, hcl, hW₂, hsm, hL⟩
  · obtain ⟨⟨v, rfl⟩, hW₂, e2, q2, q3, q4, q5, q6⟩ := id hfe
    have e3 : s₂ = ({ (U.calling g mk a).setFrames s₂.frames with heap := s₂.heap, slotsUsed := s₂.slotsUsed } : State).setVm s₂.vm := by
      have : s₂ = ({ s₂ with vm := (U.calling g mk a).vm } : State).setVm s₂.vm := rfl
      rw [e2] at this
      exact this
    obtain ⟨c₂, i₂, len₂, hc₂, hd₂, hf₂⟩ := hend
    have hW' : U.WarmedH s₂.vm := hW₂
    have hcc : c₂ = c := by
      have h1 : s₂.code? g.method = U.code? g.method := by
        rw [State.code?_eq, State.code?_eq, hW'.alike.method?]
      exact Option.some.inj (hc₂.symm.trans (h1.trans h.code))
    subst hcc
    have hlen : len₂ = len := by rw [hdg] at hd₂; cases hd₂; rfl
    subst hlen
    have hs₂ : s₂ = (({ U with heap := s₂.heap, slotsUsed := s₂.slotsUsed } : State).setVm s₂.vm).setTop { g with pc := g.pc + len₂, stack := v.toList ++ g.stack } := by
      refine e3.trans ?_
      rw [hf₂, State.calling_eq h.top, State.setFrames_setFrames, State.setTop_of_frames _ hr', hr]
      rfl
    have hsame : U.sameButNew ({ U with heap := s₂.heap, slotsUsed := s₂.slotsUsed } : State) L mc ms := by
      refine ⟨?_, q2, q3, q4, q5, q6⟩
      obtain ⟨t, ht, -⟩ := State.frames_cons hr
      show ({ U with heap := s₂.heap, slotsUsed := s₂.slotsUsed } : State) = { U.setFrames U.frames with heap := s₂.heap, slotsUsed := s₂.slotsUsed }
      rw [State.setFrames_self ht]
    subst hg
    refine Or.inl ⟨v, ⟨(({ U with heap := s₂.heap, slotsUsed := s₂.slotsUsed } : State).setVm s₂.vm), Ls ++ L, c0 + mc, s0 + ms⟩,
      ⟨X.admits, X.cas, X.clock, X.frames, X.room, X.hears, X.method, X.code, (X.here.setHeapUsed s₂.heap s₂.slotsUsed).setVm hW'.alike, X.tail, State.WarmedH.trans X.warmed hW', X.limits, X.bytes, X.same.trans (hsame.setVm s.vm)⟩,
      ⟨g, mk, s₂, L, rfl, rfl, hqc, rfl, hL, rfl, rfl⟩, ?_⟩
    show Steps p.tables e below _ ((({ U with heap := s₂.heap, slotsUsed := s₂.slotsUsed } : State).setVm s₂.vm).setTop { g with pc := g.pc + len₂, stack := v.toList ++ g.stack })
    rw [← hs₂]
    exact hsteps
  · obtain ⟨e2, q2, q3, q4, q5, q6⟩ := id hsm
    have e3 : s₂ = ({ (U.calling g mk a).setFrames s₂.frames with heap := s₂.heap, slotsUsed := s₂.slotsUsed } : State).setVm s₂.vm := by
      have : s₂ = ({ s₂ with vm := (U.calling g mk a).vm } : State).setVm s₂.vm := rfl
      rw [e2] at this
      exact this
    have hf₂ : s₂.frames = .throwing q :: .java g :: U.frames.tail := hend
    have hW' : U.WarmedH s₂.vm := hW₂
    have hs₂ : s₂ = ((({ U with heap := s₂.heap, slotsUsed := s₂.slotsUsed } : State).setVm s₂.vm).setTop g).pushFrame (.throwing q) := by
      refine e3.trans ?_
      rw [hf₂, State.calling_eq h.top, State.setFrames_setFrames, State.pushFrame, State.frames_setTop _ hr', State.setTop_of_frames _ hr', State.setFrames_setFrames, hr]
      rfl
    have hsame : U.sameButNew ({ U with heap := s₂.heap, slotsUsed := s₂.slotsUsed } : State) L mc ms := by
      refine ⟨?_, q2, q3, q4, q5, q6⟩
      obtain ⟨t, ht, -⟩ := State.frames_cons hr
      show ({ U with heap := s₂.heap, slotsUsed := s₂.slotsUsed } : State) = { U.setFrames U.frames with heap := s₂.heap, slotsUsed := s₂.slotsUsed }
      rw [State.setFrames_self ht]
    subst hg
    refine Or.inr ⟨q, ⟨(({ U with heap := s₂.heap, slotsUsed := s₂.slotsUsed } : State).setVm s₂.vm), Ls ++ L, c0 + mc, s0 + ms⟩,
      ⟨X.admits, X.cas, X.clock, X.frames, X.room, X.hears, X.method, X.code, (X.here.setHeapUsed s₂.heap s₂.slotsUsed).setVm hW'.alike, X.tail, State.WarmedH.trans X.warmed hW', X.limits, X.bytes, X.same.trans (hsame.setVm s.vm)⟩,
      ⟨g, mk, s₂, L, E, ce, rfl, rfl, hx, hce, hcv, hcl, rfl, hL, rfl, rfl⟩, ?_⟩
    show Steps p.tables e below _ (((({ U with heap := s₂.heap, slotsUsed := s₂.slotsUsed } : State).setVm s₂.vm).setTop g).pushFrame (.throwing q))
    rw [← hs₂]
    exact hsteps
end
variable {p : Program} {l : Launch} {e : Env} {R : Room} {s : State} {m : MethodId} {args : Array Value} {below : List Frame} {meth : Method} {c : Code} {T : State} {H : Heap} {locs : List Loc} {cells slots : Nat}
theorem vx_callVX (X : Stand p l e R s m args below meth c T locs cells slots) (hexec : p.tables.exec = Jvm.exec) {own C : String} {index : Nat} {y : MethodName} {bytes : ByteArray} {maxL : Nat} {ret : Option FieldType} {hh : List (Nat × Nat × Nat × Nat)}
    (hown : s.vm.findClass own = some m.cls) (hlink : (Cond.methodLink own index y).before args s = true) (hinst : (Cond.instanceMethod y).before args s = true) (hsel : (Cond.selects C y y).before args s = true)
    (hcode : (Cond.codeWith y bytes maxL ret hh).before args s = true) (hy : y.cls ≠ "java/lang/invoke/MethodHandle" ∧ y.cls ≠ "java/lang/invoke/VarHandle")
    {W9 : Nat} {Pre : Pt → Array Value → Prop} {Post : Pt → Array Value → Option Value → Pt → Prop} {PostX : Pt → Array Value → Addr → Pt → Prop} (hK : vx_Back l R p e below s args y 3 W9 Pre Post PostX)
    {b : Addr} {cellB : Cell} (hcell : T.heap[b]? = some cellB) (hobj : cellB.vm.isStatics = false) (hcls : s.vm.findClass C = some cellB.cls)
    {g : JFrame} (hg : g.method = m) (hsize : g.locals.size = c.maxLocals) {argsL rest : List Value} (hlen : ∀ sig, parseMethodDescriptor y.desc = some sig → argsL.length = sig.parameters.length)
    (hstack : g.stack = argsL.reverse ++ .ref b :: rest) (hW : 2 * g.monitorRoom + (rest.map fun v => v.category).sum ≤ W9) (hdg : decode c.code g.pc = .ok (.invokevirtual index, 3))
    (hpre : ∀ vm₁, s.WarmedH vm₁ → Pre ⟨T.setVm vm₁, locs, cells, slots⟩ (Value.ref b :: argsL).toArray) :
    (∃ (v : Option Value) (vm₁ : Vm) (B : Pt), s.WarmedH vm₁ ∧ Stand p l e R s m args below meth c B.U B.locs B.cells B.slots ∧ Post ⟨T.setVm vm₁, locs, cells, slots⟩ (Value.ref b :: argsL).toArray v B ∧
      ∀ target, Steps p.tables e below (B.U.setTop { g with pc := g.pc + 3, stack := v.toList ++ rest }) target → Steps p.tables e below (T.setTop g) target) ∨
    (∃ (q : Addr) (vm₁ : Vm) (B : Pt), s.WarmedH vm₁ ∧ Stand p l e R s m args below meth c B.U B.locs B.cells B.slots ∧ PostX ⟨T.setVm vm₁, locs, cells, slots⟩ (Value.ref b :: argsL).toArray q B ∧
      Steps p.tables e below (T.setTop g) ((B.U.setTop { g with stack := rest }).pushFrame (.throwing q))) := by
  obtain ⟨mk, methM, hnamed, hmethM, hstM, habM⟩ := Cond.instanceMethod_spec hinst
  obtain ⟨m8, methM', cM, hn8, hmethM', -, -, -, -, -, -, hsigM⟩ := Cond.codeWith_spec hcode
  cases Option.some.inj (hn8.symm.trans hnamed)
  cases hmethM.symm.trans hmethM'
  obtain ⟨c2, r2, m2, q1, q2, q3, q4, kP, hkP, hkPi⟩ := Cond.selects_spec hsel
  cases hcls.symm.trans q1
  cases (State.methodFound?_of_named hnamed hy).symm.trans q2
  cases hnamed.symm.trans q3
  have hselP : selectMethod e.platform s.vm cellB.cls mk = .method mk := by rw [Launch.admits_selectMethod X.admits]; exact q4
  obtain ⟨vm₁, X₁, hstep₁⟩ := X.invokevirtual hexec hown hlink hnamed hmethM hstM hkP hkPi hy (a := b) (cell := cellB) hcell
    (fun z h => by rw [h] at hobj; cases hobj) hselP hmethM habM hkP hkPi (g := g) hg (argsL := argsL) (rest := rest) (hlen _ hsigM) hstack hdg
  rcases hK m meth c ⟨T.setVm vm₁, locs, cells, slots⟩ { g with stack := rest } (.invokevirtual index) mk (Value.ref b :: argsL).toArray X₁ hg hsize hdg hW (X₁.named hnamed) (hpre vm₁ X₁.warmed) with ⟨v, B, X', hpost, hsteps⟩ | ⟨q, B, X', hpost, hsteps⟩
  · exact Or.inl ⟨v, vm₁, B, X₁.warmed, X', hpost, fun target h => hstep₁ _ fun acts => by rw [doInvoke_state]; exact hsteps.trans h⟩
  · exact Or.inr ⟨q, vm₁, B, X₁.warmed, X', hpost, hstep₁ _ fun acts => by rw [doInvoke_state]; exact hsteps⟩
theorem vx_callSX (X : Stand p l e R s m args below meth c T locs cells slots) (hexec : p.tables.exec = Jvm.exec) {own : String} {index : Nat} {y : MethodName} {bytes : ByteArray} {maxL : Nat} {ret : Option FieldType} {hh : List (Nat × Nat × Nat × Nat)}
    (hown : s.vm.findClass own = some m.cls) (hlink : (Cond.methodLink own index y).before args s = true) (hstat : (Cond.static y).before args s = true) (hinit : (Cond.initialized y.cls).before args s = true)
    (hcode : (Cond.codeWith y bytes maxL ret hh).before args s = true) (hy : y.cls ≠ "java/lang/invoke/MethodHandle" ∧ y.cls ≠ "java/lang/invoke/VarHandle")
    {W9 : Nat} {Pre : Pt → Array Value → Prop} {Post : Pt → Array Value → Option Value → Pt → Prop} {PostX : Pt → Array Value → Addr → Pt → Prop} (hK : vx_Back l R p e below s args y 3 W9 Pre Post PostX)
    {g : JFrame} (hg : g.method = m) (hsize : g.locals.size = c.maxLocals) {argsL rest : List Value} (hlen : ∀ sig, parseMethodDescriptor y.desc = some sig → argsL.length = sig.parameters.length)
    (hstack : g.stack = argsL.reverse ++ rest) (hW : 2 * g.monitorRoom + (rest.map fun v => v.category).sum ≤ W9) (hdg : decode c.code g.pc = .ok (.invokestatic index, 3))
    (hpre : ∀ vm₁, s.WarmedH vm₁ → Pre ⟨T.setVm vm₁, locs, cells, slots⟩ argsL.toArray) :
    (∃ (v : Option Value) (vm₁ : Vm) (B : Pt), s.WarmedH vm₁ ∧ Stand p l e R s m args below meth c B.U B.locs B.cells B.slots ∧ Post ⟨T.setVm vm₁, locs, cells, slots⟩ argsL.toArray v B ∧
      ∀ target, Steps p.tables e below (B.U.setTop { g with pc := g.pc + 3, stack := v.toList ++ rest }) target → Steps p.tables e below (T.setTop g) target) ∨
    (∃ (q : Addr) (vm₁ : Vm) (B : Pt), s.WarmedH vm₁ ∧ Stand p l e R s m args below meth c B.U B.locs B.cells B.slots ∧ PostX ⟨T.setVm vm₁, locs, cells, slots⟩ argsL.toArray q B ∧
      Steps p.tables e below (T.setTop g) ((B.U.setTop { g with stack := rest }).pushFrame (.throwing q))) := by
  obtain ⟨mk, methM, cM, hnamed, hmethM, -, -, -, -, -, -, hsigM⟩ := Cond.codeWith_spec hcode
  have hstatic : methM.isStatic = true := Cond.static_spec hnamed hmethM hstat
  obtain ⟨kP, hkP, -⟩ := className_of_methodNamed hnamed
  have hinitP : kP.init = .initialized := Cond.initialized_spec (findClass_of_methodNamed hnamed) hkP hinit
  obtain ⟨vm₁, X₁, hstep₁⟩ := X.invokestatic hexec hown hlink hnamed hmethM hstatic hkP hinitP hy (g := g) hg (argsL := argsL) (rest := rest) (hlen _ hsigM) hstack hdg
  rcases hK m meth c ⟨T.setVm vm₁, locs, cells, slots⟩ { g with stack := rest } (.invokestatic index) mk argsL.toArray X₁ hg hsize hdg hW (X₁.named hnamed) (hpre vm₁ X₁.warmed) with ⟨v, B, X', hpost, hsteps⟩ | ⟨q, B, X', hpost, hsteps⟩
  · exact Or.inl ⟨v, vm₁, B, X₁.warmed, X', hpost, fun target h => hstep₁ _ fun acts => by rw [doInvoke_state]; exact hsteps.trans h⟩
  · exact Or.inr ⟨q, vm₁, B, X₁.warmed, X', hpost, hstep₁ _ fun acts => by rw [doInvoke_state]; exact hsteps⟩
theorem vx_callVW (X : Stand p l e R s m args below meth c T locs cells slots) (hexec : p.tables.exec = Jvm.exec) {own C : String} {index : Nat} {y : MethodName} {bytes : ByteArray} {maxL : Nat} {ret : Option FieldType} {hh : List (Nat × Nat × Nat × Nat)}
    (hown : s.vm.findClass own = some m.cls) (hlink : (Cond.methodLink own index y).before args s = true) (hinst : (Cond.instanceMethod y).before args s = true) (hsel : (Cond.selects C y y).before args s = true)
    (hcode : (Cond.codeWith y bytes maxL ret hh).before args s = true) (hy : y.cls ≠ "java/lang/invoke/MethodHandle" ∧ y.cls ≠ "java/lang/invoke/VarHandle")
    {W9 : Nat} {Pre : Pt → Array Value → Prop} {Post : Pt → Array Value → Option Value → Pt → Prop} (hK : Back l R p e below s args y 3 W9 Pre Post)
    {b : Addr} {cellB : Cell} (hcell : T.heap[b]? = some cellB) (hobj : cellB.vm.isStatics = false) (hcls : s.vm.findClass C = some cellB.cls)
    {g : JFrame} (hg : g.method = m) (hsize : g.locals.size = c.maxLocals) {argsL rest : List Value} (hlen : ∀ sig, parseMethodDescriptor y.desc = some sig → argsL.length = sig.parameters.length)
    (hstack : g.stack = argsL.reverse ++ .ref b :: rest) (hW : 2 * g.monitorRoom + (rest.map fun v => v.category).sum ≤ W9) (hdg : decode c.code g.pc = .ok (.invokevirtual index, 3))
    (hpre : ∀ vm₁, s.WarmedH vm₁ → Pre ⟨T.setVm vm₁, locs, cells, slots⟩ (Value.ref b :: argsL).toArray) :
    ∃ (v : Option Value) (vm₁ : Vm) (B : Pt), s.WarmedH vm₁ ∧ Stand p l e R s m args below meth c B.U B.locs B.cells B.slots ∧ Post ⟨T.setVm vm₁, locs, cells, slots⟩ (Value.ref b :: argsL).toArray v B ∧
      ∀ target, Steps p.tables e below (B.U.setTop { g with pc := g.pc + 3, stack := v.toList ++ rest }) target → Steps p.tables e below (T.setTop g) target := by
  obtain ⟨mk, methM, hnamed, hmethM, hstM, habM⟩ := Cond.instanceMethod_spec hinst
  obtain ⟨m8, methM', cM, hn8, hmethM', -, -, -, -, -, -, hsigM⟩ := Cond.codeWith_spec hcode
  cases Option.some.inj (hn8.symm.trans hnamed)
  cases hmethM.symm.trans hmethM'
  obtain ⟨c2, r2, m2, q1, q2, q3, q4, kP, hkP, hkPi⟩ := Cond.selects_spec hsel
  cases hcls.symm.trans q1
  cases (State.methodFound?_of_named hnamed hy).symm.trans q2
  cases hnamed.symm.trans q3
  have hselP : selectMethod e.platform s.vm cellB.cls mk = .method mk := by rw [Launch.admits_selectMethod X.admits]; exact q4
  obtain ⟨vm₁, X₁, hstep₁⟩ := X.invokevirtual hexec hown hlink hnamed hmethM hstM hkP hkPi hy (a := b) (cell := cellB) hcell
    (fun z h => by rw [h] at hobj; cases hobj) hselP hmethM habM hkP hkPi (g := g) hg (argsL := argsL) (rest := rest) (hlen _ hsigM) hstack hdg
  obtain ⟨v, B, X', hpost, hsteps⟩ := hK m meth c ⟨T.setVm vm₁, locs, cells, slots⟩ { g with stack := rest } (.invokevirtual index) mk (Value.ref b :: argsL).toArray X₁ hg hsize hdg hW (X₁.named hnamed) (hpre vm₁ X₁.warmed)
  exact ⟨v, vm₁, B, X₁.warmed, X', hpost, fun target h => hstep₁ _ fun acts => by rw [doInvoke_state]; exact hsteps.trans h⟩
abbrev vx_CVW (R : Room) (s : State) (args : Array Value) (own C : String) (index : Nat) (y : MethodName) (bytes : ByteArray) (maxL : Nat) (ret : Option FieldType) (hh : List (Nat × Nat × Nat × Nat)) (ws : List Cond) (rm : Room) (mc ms n : Nat) : Prop :=
  (rm.cells = mc ∧ rm.slots = ms ∧ rm.frames + 1 ≤ R.frames ∧ 8 + (maxL + 11) + rm.locals ≤ R.locals ∧ (∀ w ∈ ws, ∀ (a' : Array Value) (U : State), s.WarmedH U.vm → w.before a' U = true) ∧ Cond.codeWith y bytes maxL ret hh ∈ ws) ∧
  (Cond.codeWith y bytes maxL ret hh).before args s = true ∧ (Cond.initialized y.cls).before args s = true ∧ (y.cls ≠ "java/lang/invoke/MethodHandle" ∧ y.cls ≠ "java/lang/invoke/VarHandle") ∧
  (∀ sig, parseMethodDescriptor y.desc = some sig → n = sig.parameters.length) ∧ (Cond.methodLink own index y).before args s = true ∧ (Cond.instanceMethod y).before args s = true ∧ (Cond.selects C y y).before args s = true
theorem vx_cwVW {own C : String} {index maxL mc ms : Nat} {y : MethodName} {bytes : ByteArray} {ret : Option FieldType} {hh : List (Nat × Nat × Nat × Nat)} {Ts ws ws' : List Cond} {rm : Room} (n : Nat) (ht : ∀ w ∈ Ts, w.before args s = true) (hT : GoodIn Ts (wsV own index C y ws)) (hw : ws = Cond.codeWith y bytes maxL ret hh :: ws') (hrc : rm.cells = mc) (hrs : rm.slots = ms)
    (hd : y.cls = C ∧ y.cls ≠ "java/lang/invoke/MethodHandle" ∧ y.cls ≠ "java/lang/invoke/VarHandle" ∧ (parseMethodDescriptor y.desc).map (fun d => d.parameters.length) = some n) (hR : rm.frames + 1 ≤ R.frames ∧ 8 + (maxL + 11) + rm.locals ≤ R.locals) :
    vx_CVW R s args own C index y bytes maxL ret hh ws rm mc ms n := by
  obtain ⟨hC, hd⟩ := hd
  subst hC
  have ok : ∀ w ∈ wsV own index y.cls y ws, w.before args s = true := fun w h => ht w (hT w h).1
  have hG : GoodIn Ts ws := fun w h => hT w (by unfold wsV; exact List.mem_append_right _ h)
  have hc : Cond.codeWith y bytes maxL ret hh ∈ ws := by rw [hw]; exact List.mem_cons_self
  refine ⟨⟨hrc, hrs, hR.1, hR.2, pay_in ht hG, hc⟩, ht _ (hG _ hc).1, ok _ (by simp [wsV]), ⟨hd.1, hd.2.1⟩, fun sig h => ?_, ok _ (by simp [wsV]), ok _ (by simp [wsV]), ok _ (by simp [wsV])⟩
  have h2 := hd.2.2
  rw [h] at h2
  exact (Option.some.inj h2).symm
theorem vx_runVW {y : MethodName} {bytes cc : ByteArray} {maxL nL mc ms n index : Nat} {ret : Option FieldType} {hh : List (Nat × Nat × Nat × Nat)} {ws : List Cond} {rm : Room} {Pc : Array Value → State → Prop} {Qc : Array Value → State → Outcome → State → Prop} {free : Addr → Prop} {Ts : List Cond} {own C : String} {b : Addr} {As rest : List Value} {g : JFrame}
    (S : CallFix p m c cc nL s args Ts own) (hM : Met l y ws rm Pc Qc mc ms free) (cw : vx_CVW R s args own C index y bytes maxL ret hh ws rm mc ms n) (hp : PreV s H C b Pc As)
    (hg : g.method = m) (hn : As.length = n) (hsize : g.locals.size = nL) (hstack : g.stack = As.reverse ++ .ref b :: rest) (hW : 2 * g.monitorRoom + (rest.map fun v => v.category).sum ≤ 8) (hdg : decode cc g.pc = .ok (.invokevirtual index, 3)) (hf : cells + mc ≤ R.cells ∧ slots + ms ≤ R.slots) :
    va_Run p l e R s m args below meth c H locs cells slots mc ms g rest (Qc (Value.ref b :: As).toArray) free := by
  obtain ⟨⟨hrc, hrs, hfr, hlo, hws, hcw⟩, hcode, hini, hy, hlen, hl, hin, hse⟩ := cw
  have hK : Back l R p e below s args y 3 8 (PreOf R mc ms Pc) (PostOf Qc mc ms free) := va_backW (hh := hh) (bytes := bytes) (maxL := maxL) (ret := ret) hM hp.1 hrc hrs hfr hlo hws hcw (fun a' U hW => word_at hW (Or.inl (by first | rfl | simp [Cond.onTables, Cond.keeps, Cond.steady])) hini)
  obtain ⟨hx, hb, hml, ho, -⟩ := S
  obtain ⟨-, ⟨cellB, hcB, hoB, hclB⟩, hPc⟩ := hp
  intro T hT X
  obtain ⟨v, vm₁, ⟨U', l2, c2, s2⟩, hW₁, X', ⟨g', mk, t, L, e1, e2, hq, h1, hL, h2, h3⟩, st⟩ := vx_callVW X hx (C := C) (hh := hh) (bytes := bytes) (maxL := maxL) (ret := ret) ho hl hin hse hcode hy hK (by rw [hT]; exact hcB) hoB hclB hg (hsize.trans hml.symm) (argsL := As) (rest := rest) (fun sig h => hn.trans (hlen sig h)) hstack hW (by rw [hb]; exact hdg)
    (fun vm₁ hW₁ => ⟨hf.1, hf.2, hPc (T.setVm vm₁) hT hW₁⟩)
  dsimp only [Pt.U, Pt.locs, Pt.cells, Pt.slots] at X' e1 e2 h1 h2 h3 st
  subst h1; subst h2; subst h3
  exact ⟨v, (T.setVm vm₁).calling g' mk (Value.ref b :: As).toArray, t, U', L, hT, X', hL, e1, e2, hq, st⟩
section
variable {y : MethodName} {bytes cc : ByteArray} {maxL nL mc ms n index : Nat} {ret : Option FieldType} {ws : List Cond} {rm : Room} {Pc : Array Value → State → Prop} {Qc : Array Value → State → Outcome → State → Prop} {XC : String → State → State → Prop} {free : Addr → Prop} {Ts : List Cond} {own C : String} {b : Addr} {As rest : List Value} {g : JFrame}
theorem vx_runVX {hh : List (Nat × Nat × Nat × Nat)} (S : CallFix p m c cc nL s args Ts own) (hM : vx_Met l y ws rm Pc Qc XC mc ms free) (cw : vx_CVW R s args own C index y bytes maxL ret hh ws rm mc ms n) (hp : PreV s H C b Pc As)
    (hg : g.method = m) (hn : As.length = n) (hsize : g.locals.size = nL) (hstack : g.stack = As.reverse ++ .ref b :: rest) (hW : 2 * g.monitorRoom + (rest.map fun v => v.category).sum ≤ 8) (hdg : decode cc g.pc = .ok (.invokevirtual index, 3)) (hf : cells + mc ≤ R.cells ∧ slots + ms ≤ R.slots) :
    vx_Run p l e R s m args below meth c H locs cells slots mc ms g rest (Qc (Value.ref b :: As).toArray) XC free := by
  obtain ⟨⟨hrc, hrs, hfr, hlo, hws, hcw⟩, hcode, hini, hy, hlen, hl, hin, hse⟩ := cw
  have hK : vx_Back l R p e below s args y 3 8 (PreOf R mc ms Pc) (PostOf Qc mc ms free) (vx_Post XC mc ms free) := vx_backW (hh := hh) (bytes := bytes) (maxL := maxL) (ret := ret) hM hp.1 hrc hrs hfr hlo hws hcw (fun a' U hW => word_at hW (Or.inl (by first | rfl | simp [Cond.onTables, Cond.keeps, Cond.steady])) hini)
  obtain ⟨hx, hb, hml, ho, -⟩ := S
  obtain ⟨-, ⟨cellB, hcB, hoB, hclB⟩, hPc⟩ := hp
  intro T hT X
  rcases vx_callVX X hx (C := C) (hh := hh) (bytes := bytes) (maxL := maxL) (ret := ret) ho hl hin hse hcode hy hK (by rw [hT]; exact hcB) hoB hclB hg (hsize.trans hml.symm) (argsL := As) (rest := rest) (fun sig h => hn.trans (hlen sig h)) hstack hW (by rw [hb]; exact hdg)
    (fun vm₁ hW₁ => ⟨hf.1, hf.2, hPc (T.setVm vm₁) hT hW₁⟩) with ⟨v, vm₁, ⟨U', l2, c2, s2⟩, hW₁, X', ⟨g', mk, t, L, e1, e2, hq, h1, hL, h2, h3⟩, st⟩ | ⟨q, vm₁, ⟨U', l2, c2, s2⟩, hW₁, X', ⟨g', mk, t, L, E, ce, e1, e2, hq, hce, hcv, hcl, h1, hL, h2, h3⟩, st⟩
  · dsimp only [Pt.U, Pt.locs, Pt.cells, Pt.slots] at X' e1 e2 h1 h2 h3 st
    subst h1; subst h2; subst h3
    exact Or.inl ⟨v, (T.setVm vm₁).calling g' mk (Value.ref b :: As).toArray, t, U', L, hT, X', hL, e1, e2, hq, st⟩
  · dsimp only [Pt.U, Pt.locs, Pt.cells, Pt.slots] at X' e1 e2 h1 h2 h3 st hcl
    subst h1; subst h2; subst h3
    exact Or.inr ⟨q, (T.setVm vm₁).calling g' mk (Value.ref b :: As).toArray, t, U', L, E, ce, hT, X', hL, e1, e2, hq, hce, hcv, vx_cls hW₁ hcl, st⟩
theorem vx_runSX {hh : List (Nat × Nat × Nat × Nat)} (S : CallFix p m c cc nL s args Ts own) (hM : vx_Met l y ws rm Pc Qc XC mc ms free) (cw : vx_CSW R s args own index y bytes maxL ret hh ws rm mc ms n) (hp : PreS s H Pc As)
    (hg : g.method = m) (hn : As.length = n) (hsize : g.locals.size = nL) (hstack : g.stack = As.reverse ++ rest) (hW : 2 * g.monitorRoom + (rest.map fun v => v.category).sum ≤ 8) (hdg : decode cc g.pc = .ok (.invokestatic index, 3)) (hf : cells + mc ≤ R.cells ∧ slots + ms ≤ R.slots) :
    vx_Run p l e R s m args below meth c H locs cells slots mc ms g rest (Qc As.toArray) XC free := by
  obtain ⟨⟨hrc, hrs, hfr, hlo, hws, hcw⟩, hcode, hini, hy, hlen, hl, hstt⟩ := cw
  have hK : vx_Back l R p e below s args y 3 8 (PreOf R mc ms Pc) (PostOf Qc mc ms free) (vx_Post XC mc ms free) := vx_backW (hh := hh) (bytes := bytes) (maxL := maxL) (ret := ret) hM hp.1 hrc hrs hfr hlo hws hcw (fun a' U hW => word_at hW (Or.inl (by first | rfl | simp [Cond.onTables, Cond.keeps, Cond.steady])) hini)
  obtain ⟨hx, hb, hml, ho, -⟩ := S
  intro T hT X
  rcases vx_callSX X hx (hh := hh) (bytes := bytes) (maxL := maxL) (ret := ret) ho hl hstt hini hcode hy hK hg (hsize.trans hml.symm) (argsL := As) (rest := rest) (fun sig h => hn.trans (hlen sig h)) hstack hW (by rw [hb]; exact hdg)
    (fun vm₁ hW₁ => ⟨hf.1, hf.2, hp.2 (T.setVm vm₁) hT hW₁⟩) with ⟨v, vm₁, ⟨U', l2, c2, s2⟩, hW₁, X', ⟨g', mk, t, L, e1, e2, hq, h1, hL, h2, h3⟩, st⟩ | ⟨q, vm₁, ⟨U', l2, c2, s2⟩, hW₁, X', ⟨g', mk, t, L, E, ce, e1, e2, hq, hce, hcv, hcl, h1, hL, h2, h3⟩, st⟩
  · dsimp only [Pt.U, Pt.locs, Pt.cells, Pt.slots] at X' e1 e2 h1 h2 h3 st
    subst h1; subst h2; subst h3
    exact Or.inl ⟨v, (T.setVm vm₁).calling g' mk As.toArray, t, U', L, hT, X', hL, e1, e2, hq, st⟩
  · dsimp only [Pt.U, Pt.locs, Pt.cells, Pt.slots] at X' e1 e2 h1 h2 h3 st hcl
    subst h1; subst h2; subst h3
    exact Or.inr ⟨q, (T.setVm vm₁).calling g' mk As.toArray, t, U', L, E, ce, hT, X', hL, e1, e2, hq, hce, hcv, vx_cls hW₁ hcl, st⟩
end
end VXH
theorem vx_ofWH {l : Launch} {y : MethodName} {ws ws' : List Cond} {rm : Room} {Pc : Array Value → State → Prop} {Qc : Array Value → State → Outcome → State → Prop} {XC : String → State → State → Prop} {mc ms : Nat} {free : Addr → Prop} {cc : ByteArray} {maxL : Nat} {ret : Option FieldType} {hh : List (Nat × Nat × Nat × Nat)}
    (hy : plainName y.cls = true) (hw : ws = Cond.codeWith y cc maxL ret hh :: ws')
    (body : ∀ p e s m args below meth c s₁, BodyLoose p l y (headSpec ws rm) cc maxL ret e s m args below meth c s₁ → c.maxLocals = maxL → Pc args s →
      W p l e (headSpec ws rm).room s m args below meth c s.heap [] 0 0 (vx_MQ below Qc XC args s mc ms free) (entryFrame m args maxL)) : vx_Met l y ws rm Pc Qc XC mc ms free := by
  refine MetFree.of_bodyS (code := cc) (maxLocals := maxL) (ret := ret) hy ?_ ?_
  · intro args s m h hn
    obtain ⟨m9, meth, c, hn9, h1, h2, h3, h4, -, h5, h6, -⟩ := Cond.codeWith_spec (atoms_spec (ws := ws) h _ (by rw [hw]; exact List.mem_cons_self))
    cases hn.symm.trans hn9
    exact ⟨meth, c, h1, h2, h3, h4, h5, h6⟩
  · intro p e s m args below meth c s₁ B hml hP _
    have hh0 : s₁.heap = s.heap := by rw [B.state]; rfl
    obtain ⟨t, a1, o, b1, b2, b3⟩ := body p e s m args below meth c s₁ B hml hP s₁ hh0 (Stand.of_body B)
    exact ⟨t, o, a1, b1, b2, b3⟩
/-! ===== END ===== -/
/-! ===== BEGIN what the machine throws by itself, no traces kept ===== -/
section VXM
set_option maxHeartbeats 1000000 in
/-- the machine throws cls with the message text, no traces kept: from its note over the frame g to 'throwing' over the same frame (follows the proofs of Stand.vmThrowsMessage, Shelf/KitTracedVmS.lean, and Stand.throwsMessageColdBareV, StandMessageColdV.lean, without the step out of the frame) -/
theorem vx_vmAt {p : Program} {l : Launch} {e : Env} {R : Room} {s : State} {m₀ : MethodId} {args : Array Value} {below : List Frame} {meth : Method} {c : Code} {W : State} {locs : List Loc} {cells slots : Nat}
    (X : Stand p l e R s m₀ args below meth c W locs cells slots) (hexec : p.tables.exec = Jvm.exec) (htr : e.platform.stackTraces = false) {cls : String} {names : List String} {text : String}
    (hcls : Bundle.fit cls = true) (hnames : ∀ n ∈ names, Bundle.fit n = true) (hsoe : (cls == "java/lang/StackOverflowError") = false) (hoom : (cls == "java/lang/OutOfMemoryError") = false)
    (h : ∀ a ∈ Bundle.messageArmAtoms cls names, a.before args s = true)
    (hlocs : ∀ x ∈ locs, ∀ cell, s.heap[x.base]? = some cell → cell.vm.isStatics = false)
    (htext : (text == notModelled) = false) (hlimit : ¬ (stringBytes (stringToUtf16 text)).size > e.platform.arrayLengthLimit) (hheap : ¬ (stringBytes (stringToUtf16 text)).size * componentBytes .byte > e.platform.maxHeapBytes)
    {g : JFrame} (hg : g.method = m₀) (hsize : g.locals.size = c.maxLocals)
    (hRframes : names.length + 4 < R.frames) (hRlocals : 2 * g.monitorRoom + (g.stack.map fun v => v.category).sum + 10240 ≤ R.locals) (hshort : 13 * names.length + 55 ≤ 10240)
    (hRcells : cells + 3 ≤ R.cells) (hRslots : slots + ((stringBytes (stringToUtf16 text)).size + 4 + 6) ≤ R.slots) (hlocks : meth.locks = false) :
    ∃ (S : State) (q : Addr) (ce : Cell), (∀ target, Steps p.tables e below ((S.setTop g).pushFrame (.throwing q)) target → Steps p.tables e below ((W.setTop g).pushFrame (.throwNew cls (some text) none)) target) ∧
      Stand p l e R s m₀ args below meth c S locs (cells + 3) (slots + ((stringBytes (stringToUtf16 text)).size + 4 + 6)) ∧ S.heap[q]? = some ce ∧ s.vm.findClass cls = some ce.cls ∧ ce.vm = .none := by
  have howns : e.platform.frameOwnsMonitors = true := by rw [X.admits.platform]
  have hfin : e.platform.finalization = false := by rw [X.admits.platform]
  have hpl : e.platform.magicAccessors = ({} : Platform).magicAccessors := by rw [X.admits.platform]
  have a : ∀ x, x ∈ Bundle.messageArmAtoms cls names → x.holds args s none s [] = true := fun x hx => h x hx
  obtain ⟨T, Z0, L, -, Y⟩ := ThrowableC.of_atoms (args := args) howns hfin hpl (fun x hx => h x (by simp [Bundle.messageArmAtoms, hx]))
  obtain ⟨Z, M, LZ, LM, hnZ⟩ := Init0T.ofS_atoms (args := args) hpl L Y (fun x hx => h x (by simp [Bundle.messageArmAtoms, hx]))
  obtain ⟨P1, Ps, hlen, L1, hL, hP1m, hlink1, hlink⟩ := Bundle.chainS (args := args) hpl hnZ names cls hcls hnames (fun x hx => h x (by simp [Bundle.messageArmAtoms, hx]))
  obtain ⟨Zs, LZs, hn4, hfitv, hfitc⟩ := StringT.of_atoms (args := args) (fun x hx => h x (by simp [Bundle.messageArmAtoms, hx]))
  have hfound : s.vm.findClass cls = some P1.m.cls := findClass_of_methodNamed hP1m
  obtain ⟨c1, kX, hc1, hk, hord, -, -, hn6⟩ := Cond.instantiable_spec (a (.instantiable cls 6) (by simp [Bundle.messageArmAtoms]))
  cases Option.some.inj (hc1.symm.trans hfound)
  have hinit := Cond.initialized_spec hfound hk (a (.initialized cls) (by simp [Bundle.messageArmAtoms]))
  have hctor : kX.findMethod "<init>" "(Ljava/lang/String;)V" = some P1.m.idx := findMethod_of_methodNamed hP1m hk
  have hsel0 : selectMethod e.platform s.vm P1.m.cls T.fill0 = .method T.fill0 := by
    obtain ⟨c2, r2, m2, q1, q2, q3, q4, -⟩ := Cond.selects_spec (a (.selects cls Bundle.tFill0 Bundle.tFill0) (by simp [Bundle.messageArmAtoms]))
    cases Option.some.inj (q1.symm.trans hfound)
    cases Option.some.inj (q2.symm.trans (State.methodFound?_of_named Y.fill0 (by decide)))
    cases Option.some.inj (q3.symm.trans Y.fill0)
    rw [Launch.admits_selectMethod X.admits]; exact q4
  have hselF : selectMethod e.platform s.vm P1.m.cls T.fill = .method T.fill := by
    obtain ⟨c2, r2, m2, q1, q2, q3, q4, -⟩ := Cond.selects_spec (a (.selects cls Bundle.tFill Bundle.tFill) (by simp [Bundle.messageArmAtoms]))
    cases Option.some.inj (q1.symm.trans hfound)
    cases Option.some.inj (q2.symm.trans (State.methodFound?_of_named Y.fill (by decide)))
    cases Option.some.inj (q3.symm.trans Y.fill)
    rw [Launch.admits_selectMethod X.admits]; exact q4
  obtain ⟨cellS0, hcS0, hiss⟩ := Y.statics
  obtain ⟨u0, hu0⟩ := Cond.staticRefV Y.unassigned L.unassignedStatic L.statics hcS0 hiss (a (.isRef (.static Bundle.tN "UNASSIGNED_STACK" Bundle.steD)) (by simp [Bundle.messageArmAtoms]))
  obtain ⟨sen, hsen⟩ := Cond.staticRefV Y.sentinel L.sentinelStatic L.statics hcS0 hiss (a (.isRef (.static Bundle.tN "SUPPRESSED_SENTINEL" Bundle.listD)) (by simp [Bundle.messageArmAtoms]))
  obtain ⟨ci198, i198, fB, hk198, hg198, ha198, hsB, -, hnB, htB, hffB⟩ := Cond.ownField (t := .object "java/lang/Object") Y.found L.cls (by decide +kernel) (a (.fieldLink Bundle.tN 198 Bundle.tN "backtrace" "Ljava/lang/Object;") (by simp [Bundle.messageArmAtoms])) (a (.lays Bundle.tN Bundle.tN "backtrace" "Ljava/lang/Object;") (by simp [Bundle.messageArmAtoms])) e.platform hpl
  obtain ⟨cellS, hcS', heS, -, hkeep⟩ := X.same.2.2.2.2.2 T.aS cellS0 hcS0
  have hcellS : W.heap[T.aS]? = some cellS := hcS'
  have hout' : ∀ i, (⟨T.aS, i⟩ : Loc) ∉ locs := fun i hmem => by
    have := hlocs _ hmem cellS0 hcS0
    rw [hiss] at this; cases this
  have hknownS : cellS.vm ≠ .unknown := by
    rw [heS]; intro hu
    rw [show cellS0.vm = .unknown from hu] at hiss
    cases hiss
  have hvU : cellS.slots[T.fUnassigned.slot]? = some u0.v := by rw [hkeep _ (hout' _)]; exact hu0
  have hvSen : cellS.slots[T.fSentinel.slot]? = some sen.v := by rw [hkeep _ (hout' _)]; exact hsen
  obtain ⟨iM, hffM⟩ := Y.msg
  obtain ⟨tyC, dC, hdC, hdnC⟩ := Cond.laysAt hfound hk Y.cause (a (.lays cls Bundle.tN "cause" "Ljava/lang/Throwable;") (by simp [Bundle.messageArmAtoms]))
  obtain ⟨tyS, dS, hdS, hdnS⟩ := Cond.laysAt hfound hk Y.stack (a (.lays cls Bundle.tN "stackTrace" Bundle.steD) (by simp [Bundle.messageArmAtoms]))
  obtain ⟨tyP, dP, hdP, hdnP⟩ := Cond.laysAt hfound hk Y.supp (a (.lays cls Bundle.tN "suppressedExceptions" Bundle.listD) (by simp [Bundle.messageArmAtoms]))
  obtain ⟨tyM, dM, hdM, hdnM⟩ := Cond.laysAt hfound hk hffM (a (.lays cls Bundle.tN "detailMessage" "Ljava/lang/String;") (by simp [Bundle.messageArmAtoms]))
  obtain ⟨tyB, dB, hdB, hdnB⟩ := Cond.laysAt hfound hk hffB (a (.lays cls Bundle.tN "backtrace" "Ljava/lang/Object;") (by simp [Bundle.messageArmAtoms]))
  have bC := Cond.laysApart hdB hdC hdnB hdnC (by rw [hnB, Y.causeName]; decide)
  have bS := Cond.laysApart hdB hdS hdnB hdnS (by rw [hnB, Y.stackName]; decide)
  have bP := Cond.laysApart hdB hdP hdnB hdnP (by rw [hnB, Y.suppName]; decide)
  have hbk : ((preparedCellV T.toThrowableT (freshCell P1.m.cls kX) (W.heap.size + 2) u0 sen).withEntry W.cur).slots[fB.slot]? = some .null := by
    have := fresh_default (c := P1.m.cls) tyB
    rw [htB] at this
    simpa [preparedCellV, Cell.setSlot, Cell.withEntry, Array.getElem?_setIfInBounds, bC, bS, bP, bC.symm, bS.symm, bP.symm, defaultValue] using this
  have tkC := Takes.of_laid (v := .ref (W.heap.size + 2)) hk hord tyC (by rw [Y.causeType]; rfl)
  have tkS := Takes.of_laid (v := u0.v) hk hord tyS (by rw [Y.stackType]; exact fits_refV_array _ u0)
  have tkP := Takes.of_laid (v := sen.v) hk hord tyP (by rw [Y.suppType]; exact fits_refV_object _ sen)
  have tkM := Takes.of_laid (v := .ref (W.heap.size + 1)) hk hord tyM (by rw [Y.msgType]; rfl)
  have hskip : SkipFacts T e.platform s (fun u => u) u0 ((preparedCellV T.toThrowableT (freshCell P1.m.cls kX) (W.heap.size + 2) u0 sen).withEntry W.cur) := ⟨{ ci198 := ci198, i198 := i198, fBack := fB }, ⟨hk198, hg198, ha198, hsB⟩, hbk, fun _ _ => rfl⟩
  have h0 : At W g.method c below := by rw [hg]; exact X.here
  obtain ⟨hbeyond, hfreeW⟩ := X.vmMayThrow hsize (.throwNew cls (some text) none) (fun f hf => by cases hf) rfl hRlocals
  have hfr' : W.frames.length + Ps.length + 4 < (e.platform.stackLimits W.me).1 := by have := X.framesAbove hRframes; omega
  have hwd' : (stackUse (.java g :: W.frames.tail)).2 + 13 * Ps.length + 55 ≤ (e.platform.stackLimits W.me).2 := by have := X.stackAbove hsize (K := 13 * Ps.length + 55) (by omega); omega
  have hslots : W.slotsUsed + (stringBytes (stringToUtf16 text)).size + Zs.kS.instanceTypes.size + kX.instanceTypes.size ≤ e.platform.maxSlots := by
    have := X.slotsAbove hRslots
    rw [hn4, hn6]
    omega
  obtain ⟨vm', hW', st⟩ := Steps.vmThrowsMessageColdByV p (s₀ := s) (S := W) (g := g) h0 hexec T L Z LZ M LM X.warmed (t := W.cur) rfl Zs LZs P1 L1 Ps hL hlink1 hlink hsoe hoom hfound hk hinit hord hctor
    (Launch.admits_hotImplicitExceptions X.admits) hbeyond hfreeW htext hlimit hheap (X.cellsAbove hRcells) hslots (hfitv _) (hfitc _)
    (Nn := fun u => u) heapOnly_id (fun _ _ => rfl) (fun _ => rfl) (fun u x y => setCell_twice _ _ _ _) (fun _ => Nat.le_refl _) (cN := ((preparedCellV T.toThrowableT (freshCell P1.m.cls kX) (W.heap.size + 2) u0 sen).withEntry W.cur))
    hsel0 hcellS hknownS hvU tkS (fun _ hu => hu) (fun _ hu => hu) rfl rfl rfl (by simp [preparedCellV, Cell.setSlot, Cell.withEntry]) hskip (fun _ _ hA hW _ hroom _ hrest => L.nativeOff p htr hA hW hroom hrest) hselF hvSen tkC tkP tkM Y.objLocals rfl hfr' hwd'
  rw [plainBareV_eq T.toThrowableT (W.heap.size + 2) u0 sen (.ref (W.heap.size + 1)) W.cur rfl rfl] at st
  obtain ⟨-, -, w3, w4, -, -, -⟩ := withThrown_facts e.platform W Zs text P1.m.cls kX
  have X3 := ((X.pushed (bytesOf Zs.cB (stringToUtf16 text))).pushed (stringAt Zs.cS Zs.kS Zs.fv Zs.fc (stringToUtf16 text) W.heap.size)).pushed (freshCell P1.m.cls kX)
  rw [← withString_eq] at X3
  have X4 := X3.noted hW'
  have ha : (W.heap.size + 2) < ((withThrown W Zs text P1.m.cls kX).setVm vm').heap.size := by show _ < (withThrown W Zs text P1.m.cls kX).heap.size; rw [w3]; omega
  have hcell : ((withThrown W Zs text P1.m.cls kX).setVm vm').heap[(W.heap.size + 2)]? = some (freshCell P1.m.cls kX) := w4
  have X5 := ((((X4.stored hcell T.fCause.slot (.ref (W.heap.size + 2))).storedAgain ha T.fStack.slot u0.v).storedAgain ha T.fSupp.slot sen.v).storedAgain ha T.fStack.slot u0.v).storedAgain ha T.fMsg.slot (.ref (W.heap.size + 1))
  obtain ⟨g₁, hfrM⟩ := X5.frames_eq
  have hU : ((((withThrown W Zs text P1.m.cls kX).setVm vm').setCell (W.heap.size + 2) (plainBareV T.toThrowableT (freshCell P1.m.cls kX) (W.heap.size + 2) u0 sen (.ref (W.heap.size + 1)))).setTop g).pushFrame (.throwing (W.heap.size + 2)) = (((withThrown W Zs text P1.m.cls kX).setVm vm').setCell (W.heap.size + 2) (plainBareV T.toThrowableT (freshCell P1.m.cls kX) (W.heap.size + 2) u0 sen (.ref (W.heap.size + 1)))).setFrames (.throwing (W.heap.size + 2) :: .java g :: below) := by
    rw [State.pushFrame, State.frames_setTop _ hfrM, State.setTop_of_frames _ hfrM, State.setFrames_setFrames]
  have b1 : (bytesOf Zs.cB (stringToUtf16 text)).slots.size = (stringBytes (stringToUtf16 text)).size := by
    rw [(Cell.writeAll_facts _ _).2.2]; simp [bytes0]
  have b2 : (stringAt Zs.cS Zs.kS Zs.fv Zs.fc (stringToUtf16 text) W.heap.size).slots.size = 4 := by simp [string0, Cell.setSlot, hn4]
  have b3 : (freshCell P1.m.cls kX).slots.size = 6 := by simp [hn6]
  rw [b1, b2, b3] at X5
  have e9 : slots + (stringBytes (stringToUtf16 text)).size + 4 + 6 = slots + ((stringBytes (stringToUtf16 text)).size + 4 + 6) := by omega
  rw [e9] at X5
  simp only [List.append_assoc, List.cons_append, List.nil_append] at X5
  refine ⟨((withThrown W Zs text P1.m.cls kX).setVm vm').setCell (W.heap.size + 2) (plainBareV T.toThrowableT (freshCell P1.m.cls kX) (W.heap.size + 2) u0 sen (.ref (W.heap.size + 1))), W.heap.size + 2, _, fun target ht => st _ (by rw [X.tail, ← hU]; exact ht),
    X5.forget (fun y hy => ?_), heapAt_setCell_self _ ha, hfound, rfl⟩
  simp only [List.mem_cons, List.not_mem_nil, or_false] at hy
  have hge : s.heap.size ≤ W.heap.size := X.same.2.1
  rcases hy with rfl | rfl | rfl | rfl | rfl <;> exact Nat.le_trans hge (Nat.le_add_right _ 2)
set_option maxHeartbeats 1000000 in
/-- the machine throws NullPointerException, no traces kept: from its note over the frame g to 'throwing' over the same frame (follows the proof of Stand.vmThrowsNpe, Shelf42/KT2.lean; throwsNpeColdBareVAt, Shelf42/NT91.lean, called) -/
theorem vx_npeAt {p : Program} {l : Launch} {e : Env} {R : Room} {s : State} {m₀ : MethodId} {args : Array Value} {below : List Frame} {meth : Method} {c : Code} {W : State} {locs : List Loc} {cells slots : Nat}
    (X : Stand p l e R s m₀ args below meth c W locs cells slots) (hexec : p.tables.exec = Jvm.exec) (htr : e.platform.stackTraces = false) {n : Nat}
    (h : ∀ a ∈ Bundle.npeArmAtoms n, a.before args s = true)
    (hlocs : ∀ x ∈ locs, ∀ cell, s.heap[x.base]? = some cell → cell.vm.isStatics = false)
    {g : JFrame} (hg : g.method = m₀) (hsize : g.locals.size = c.maxLocals)
    (hRframes : 7 < R.frames) (hRlocals : 2 * g.monitorRoom + (g.stack.map fun v => v.category).sum + 10240 ≤ R.locals)
    (hRcells : cells + 1 ≤ R.cells) (hRslots : slots + n ≤ R.slots) (hlocks : meth.locks = false) :
    ∃ (S : State) (q : Addr) (ce : Cell), (∀ target, Steps p.tables e below ((S.setTop g).pushFrame (.throwing q)) target → Steps p.tables e below ((W.setTop g).pushFrame (.throwNew "java/lang/NullPointerException" none none)) target) ∧
      Stand p l e R s m₀ args below meth c S locs (cells + 1) (slots + n) ∧ S.heap[q]? = some ce ∧ s.vm.findClass "java/lang/NullPointerException" = some ce.cls ∧ ce.vm = .none := by
  have howns : e.platform.frameOwnsMonitors = true := by rw [X.admits.platform]
  have hfin : e.platform.finalization = false := by rw [X.admits.platform]
  have hpl : e.platform.magicAccessors = ({} : Platform).magicAccessors := by rw [X.admits.platform]
  have hpl2 : e.platform.arrayCloneIsPublic = true := by rw [X.admits.platform]
  have a' : ∀ x, x ∈ Bundle.npeArmAtoms n → x.holds args s none s [] = true := fun x hx => h x hx
  obtain ⟨T, Z, L, LZ, Y⟩ := ThrowableC.of_atoms (args := args) howns hfin hpl (fun x hx => h x (by simp [Bundle.npeArmAtoms, hx]))
  obtain ⟨N, LN, hcN, hnNF, hordN, hffS⟩ := NpeC.of_atoms (args := args) hpl hpl2 L Y (fun x hx => h x (by simp [Bundle.npeArmAtoms, hx]))
  obtain ⟨P1, L1, hP1m, hP1s⟩ := PassC.of_atoms (args := args) (s := s) hpl (X := Bundle.nN) (Y := Bundle.rN) (by decide) (by decide) LibCode.NullPointerException.Init0.at_0 LibCode.NullPointerException.Init0.at_1 LibCode.NullPointerException.Init0.at_4 (fun x hx => h x (by simp [Bundle.npeArmAtoms, hx]))
  obtain ⟨PR, LR, hPRm, hPRs⟩ := PassC.of_atoms (args := args) (s := s) hpl (X := Bundle.rN) (Y := Bundle.eN) (by decide) (by decide) LibCode.RuntimeException.Init0.at_0 LibCode.RuntimeException.Init0.at_1 LibCode.RuntimeException.Init0.at_4 (fun x hx => h x (by simp [Bundle.npeArmAtoms, hx]))
  obtain ⟨PE, LEx, hPEm, hPEs⟩ := PassC.of_atoms (args := args) (s := s) hpl (X := Bundle.eN) (Y := Bundle.tN) (by decide) (by decide) LibCode.Exception.Init0.at_0 LibCode.Exception.Init0.at_1 LibCode.Exception.Init0.at_4 (fun x hx => h x (by simp [Bundle.npeArmAtoms, hx]))
  have hfound : s.vm.findClass Bundle.nN = some P1.m.cls := findClass_of_methodNamed hP1m
  have ecls : N.cN = P1.m.cls := Option.some.inj (hcN.symm.trans hfound)
  have hk : s.vm.classes[P1.m.cls]? = some N.kN := by rw [← ecls]; exact LN.cls
  have hinit := Cond.initialized_spec hfound hk (a' (.initialized Bundle.nN) (by simp [Bundle.npeArmAtoms]))
  have hctor : N.kN.findMethod "<init>" "()V" = some P1.m.idx := findMethod_of_methodNamed hP1m hk
  obtain ⟨c1, k1, hc1, hk1, -, -, -, hn⟩ := Cond.instantiable_spec (a' (.instantiable Bundle.nN n) (by simp [Bundle.npeArmAtoms]))
  cases Option.some.inj (hc1.symm.trans hfound)
  cases Option.some.inj (hk1.symm.trans hk)
  have hfsz : (freshCell P1.m.cls N.kN).slots.size = n := by simp [hn]
  have hlink1 : P1.sup = PR.m := Option.some.inj (hP1s.symm.trans hPRm)
  have hlinkR : PR.sup = PE.m := Option.some.inj (hPRs.symm.trans hPEm)
  have hlinkE : PE.sup = Z.m T.toThrowableT := Option.some.inj (hPEs.symm.trans Y.init0)
  have hLs : ∀ P, P ∈ [PR, PE] → P.Links0 e.platform s := fun P hP => by
    simp only [List.mem_cons, List.not_mem_nil, or_false] at hP
    rcases hP with rfl | rfl
    · exact LR
    · exact LEx
  have hsel0 : selectMethod e.platform s.vm P1.m.cls T.fill0 = .method T.fill0 := by
    obtain ⟨c2, r2, m2, q1, q2, q3, q4, -⟩ := Cond.selects_spec (a' (.selects Bundle.nN Bundle.tFill0 Bundle.tFill0) (by simp [Bundle.npeArmAtoms]))
    cases Option.some.inj (q1.symm.trans hfound)
    cases Option.some.inj (q2.symm.trans (State.methodFound?_of_named Y.fill0 (by decide)))
    cases Option.some.inj (q3.symm.trans Y.fill0)
    rw [Launch.admits_selectMethod X.admits]; exact q4
  have hselF : selectMethod e.platform s.vm P1.m.cls T.fill = .method N.fill := by
    obtain ⟨c2, r2, m2, q1, q2, q3, q4, -⟩ := Cond.selects_spec (a' (.selects Bundle.nN Bundle.tFill Bundle.nFill) (by simp [Bundle.npeArmAtoms]))
    cases Option.some.inj (q1.symm.trans hfound)
    cases Option.some.inj (q2.symm.trans (State.methodFound?_of_named Y.fill (by decide)))
    cases Option.some.inj (q3.symm.trans hnNF)
    rw [Launch.admits_selectMethod X.admits]; exact q4
  obtain ⟨cellS0, hcS0, hiss⟩ := Y.statics
  obtain ⟨u0, hu0⟩ := Cond.staticRefV Y.unassigned L.unassignedStatic L.statics hcS0 hiss (a' (.isRef (.static Bundle.tN "UNASSIGNED_STACK" Bundle.steD)) (by simp [Bundle.npeArmAtoms]))
  obtain ⟨sen, hsen⟩ := Cond.staticRefV Y.sentinel L.sentinelStatic L.statics hcS0 hiss (a' (.isRef (.static Bundle.tN "SUPPRESSED_SENTINEL" Bundle.listD)) (by simp [Bundle.npeArmAtoms]))
  obtain ⟨ci198, i198, fB, hk198, hg198, ha198, hsB, -, hnB, htB, hffB⟩ := Cond.ownField (t := .object "java/lang/Object") Y.found L.cls (by decide +kernel) (a' (.fieldLink Bundle.tN 198 Bundle.tN "backtrace" Bundle.objD) (by simp [Bundle.npeArmAtoms])) (a' (.lays Bundle.tN Bundle.tN "backtrace" Bundle.objD) (by simp [Bundle.npeArmAtoms])) e.platform hpl
  obtain ⟨cellS, hcS', heS, -, hkeep⟩ := X.same.2.2.2.2.2 T.aS cellS0 hcS0
  have hcellS : W.heap[T.aS]? = some cellS := hcS'
  have hout' : ∀ i, (⟨T.aS, i⟩ : Loc) ∉ locs := fun i hmem => by
    have := hlocs _ hmem cellS0 hcS0
    rw [hiss] at this; cases this
  have hknownS : cellS.vm ≠ .unknown := by
    rw [heS]; intro hu
    rw [show cellS0.vm = .unknown from hu] at hiss
    cases hiss
  have hvU : cellS.slots[T.fUnassigned.slot]? = some u0.v := by rw [hkeep _ (hout' _)]; exact hu0
  have hvSen : cellS.slots[T.fSentinel.slot]? = some sen.v := by rw [hkeep _ (hout' _)]; exact hsen
  obtain ⟨tyC, dC, hdC, hdnC⟩ := Cond.laysAt hfound hk Y.cause (a' (.lays Bundle.nN Bundle.tN "cause" "Ljava/lang/Throwable;") (by simp [Bundle.npeArmAtoms]))
  obtain ⟨tyS, dS, hdS, hdnS⟩ := Cond.laysAt hfound hk Y.stack (a' (.lays Bundle.nN Bundle.tN "stackTrace" Bundle.steD) (by simp [Bundle.npeArmAtoms]))
  obtain ⟨tyP, dP, hdP, hdnP⟩ := Cond.laysAt hfound hk Y.supp (a' (.lays Bundle.nN Bundle.tN "suppressedExceptions" Bundle.listD) (by simp [Bundle.npeArmAtoms]))
  obtain ⟨tyX, dX, hdX, hdnX⟩ := Cond.laysAt hfound hk hffS (a' (.lays Bundle.nN Bundle.nN "extendedMessageState" "I") (by simp [Bundle.npeArmAtoms, Bundle.npeAtoms]))
  obtain ⟨hnX, htX⟩ := State.fieldFound?_type hffS (t := .int) (by decide +kernel)
  have xC := Cond.laysApart hdC hdX hdnC hdnX (by rw [hnX, Y.causeName]; decide)
  have xS := Cond.laysApart hdS hdX hdnS hdnX (by rw [hnX, Y.stackName]; decide)
  have xP := Cond.laysApart hdP hdX hdnP hdnX (by rw [hnX, Y.suppName]; decide)
  have hv0 : (freshCell P1.m.cls N.kN).slots[N.fState.slot]? = some (.int 0) := by
    have := fresh_default (c := P1.m.cls) tyX
    rw [htX] at this; exact this
  obtain ⟨tyB, dB, hdB, hdnB⟩ := Cond.laysAt hfound hk hffB (a' (.lays Bundle.nN Bundle.tN "backtrace" Bundle.objD) (by simp [Bundle.npeArmAtoms]))
  have bC := Cond.laysApart hdB hdC hdnB hdnC (by rw [hnB, Y.causeName]; decide)
  have bS := Cond.laysApart hdB hdS hdnB hdnS (by rw [hnB, Y.stackName]; decide)
  have bP := Cond.laysApart hdB hdP hdnB hdnP (by rw [hnB, Y.suppName]; decide)
  have bX := Cond.laysApart hdB hdX hdnB hdnX (by rw [hnB, hnX]; decide)
  have hbk : ((npeCell N.toNpeT (preparedCellV T.toThrowableT (freshCell P1.m.cls N.kN) W.heap.size u0 sen) W.cur).withEntry W.cur).slots[fB.slot]? = some .null := by
    have := fresh_default (c := P1.m.cls) tyB
    rw [htB] at this
    simpa [npeCell, preparedCellV, Cell.setSlot, Cell.withEntry, Array.getElem?_setIfInBounds, bC, bS, bP, bX, bC.symm, bS.symm, bP.symm, bX.symm, defaultValue] using this
  have tkC := Takes.of_laid (v := .ref W.heap.size) hk hordN tyC (by rw [Y.causeType]; rfl)
  have tkS := Takes.of_laid (v := u0.v) hk hordN tyS (by rw [Y.stackType]; exact fits_refV_array _ u0)
  have tkP := Takes.of_laid (v := sen.v) hk hordN tyP (by rw [Y.suppType]; exact fits_refV_object _ sen)
  have tkX := Takes.of_laid (v := .int 1) hk hordN tyX (by rw [htX]; rfl)
  have hskip : SkipFacts T e.platform s (fun u => u) u0 ((npeCell N.toNpeT (preparedCellV T.toThrowableT (freshCell P1.m.cls N.kN) W.heap.size u0 sen) W.cur).withEntry W.cur) := ⟨{ ci198 := ci198, i198 := i198, fBack := fB }, ⟨hk198, hg198, ha198, hsB⟩, hbk, fun _ _ => rfl⟩
  obtain ⟨vm', X3, st, -⟩ := X.throwsNpeColdBareVAt hexec hg hsize T L Z LZ N LN P1 L1 [PR, PE] hLs hlink1 ⟨hlinkR, hlinkE, trivial⟩ hfound hk hinit hordN hctor hsel0 hselF hcellS hknownS hvU hvSen
    hv0 xC xS xP tkC tkS tkP tkX Y.objLocals hskip (fun _ _ hA hW _ hroom _ hrest => L.nativeOff p htr hA hW hroom hrest) (by simpa using hRframes) hRlocals (by simp) hRcells (by rw [hn]; exact hRslots)
  have hlt : W.heap.size < ((W.pushCell (freshCell P1.m.cls N.kN)).setVm vm').heap.size := by
    show W.heap.size < (W.pushCell (freshCell P1.m.cls N.kN)).heap.size
    rw [State.heap_size_pushCell]; omega
  rw [hfsz] at X3
  obtain ⟨g₁, hfrM⟩ := X3.frames_eq
  have hU : ((((W.pushCell (freshCell P1.m.cls N.kN)).setVm vm').setCell W.heap.size (npeBareV T.toThrowableT N.toNpeT (freshCell P1.m.cls N.kN) W.heap.size u0 sen)).setTop g).pushFrame (.throwing W.heap.size) = (((W.pushCell (freshCell P1.m.cls N.kN)).setVm vm').setCell W.heap.size (npeBareV T.toThrowableT N.toNpeT (freshCell P1.m.cls N.kN) W.heap.size u0 sen)).setFrames (.throwing W.heap.size :: .java g :: below) := by
    rw [State.pushFrame, State.frames_setTop _ hfrM, State.setTop_of_frames _ hfrM, State.setFrames_setFrames]
  refine ⟨_, W.heap.size, _, fun target ht => st.trans (by rw [← hU]; exact ht), X3.forget (fun y hy => ?_), heapAt_setCell_self _ hlt, hfound, rfl⟩
  simp only [List.mem_cons, List.not_mem_nil, or_false] at hy
  have hge : s.heap.size ≤ W.heap.size := X.same.2.1
  rcases hy with rfl | rfl | rfl | rfl | rfl <;> exact hge
/-- the words of a machine's NullPointerException, but the four that speak of the heap -/
def vx_atN (n : Nat) : List Cond := (Bundle.npeArmAtoms n).filter vx_no
/-- the words of a machine's throw with a message, but the four that speak of the heap -/
def vx_atM (X : String) (names : List String) : List Cond := (Bundle.messageArmAtoms X names).filter vx_no
section
variable {p : Program} {l : Launch} {e : Env} {R : Room} {s : State} {m : MethodId} {args : Array Value} {below : List Frame} {meth : Method} {c : Code} {H : Heap} {locs : List Loc} {cells slots : Nat}
/-- a frame seen from a rebased start, seen from the first start again -/
theorem vx_back9 {T S : State} {R' : Room} {k n : Nat} (X : Stand p l e R s m args below meth c T locs cells slots) (Y : Stand p l e R' ((T.setVm s.vm).setFrames (.invoking m args :: below)) m args below meth c T [] 0 0) (Z : Stand p l e R' ((T.setVm s.vm).setFrames (.invoking m args :: below)) m args below meth c S [] k n) :
    Stand p l e R s m args below meth c S locs (cells + k) (slots + n) := by
  have hW0 : s.WarmedH ((T.setVm s.vm).setFrames (.invoking m args :: below)).vm := State.WarmedH.refl s
  refine { admits := X.admits, cas := X.cas, clock := X.clock, frames := X.frames, room := X.room, hears := X.hears, method := X.method, code := X.code, here := Z.here, tail := Z.tail, warmed := State.WarmedH.trans hW0 Z.warmed, limits := Z.limits.trans (Y.limits.symm.trans X.limits), bytes := Z.bytes.trans (Y.bytes.symm.trans X.bytes), same := ?_ }
  obtain ⟨e1, e2⟩ := Z.same
  rw [State.setFrames_setFrames] at e1
  have h2 : (T.setVm s.vm).sameButNew (S.setVm s.vm) [] k n := ⟨e1, e2⟩
  have h3 := X.same.trans h2
  rw [List.append_nil] at h3
  exact h3
/-- from the machine's note that E is thrown here with this text -/
def vx_Note (p : Program) (l : Launch) (e : Env) (R : Room) (s : State) (m : MethodId) (args : Array Value) (below : List Frame) (meth : Method) (c : Code) (H : Heap) (locs : List Loc) (cells slots : Nat) (Q : State → Prop) (g : JFrame) (E text : String) : Prop :=
  ∀ T : State, T.heap = H → Stand p l e R s m args below meth c T locs cells slots → ∃ t, Steps p.tables e below ((T.setTop g).pushFrame (.throwNew E (some text) none)) t ∧ Q t
theorem vx_vm {pc : Nat} {ls : Array Slot} {rest : List Value} {Q : State → Prop} (hexec : p.tables.exec = Jvm.exec) (hl : l.stackTraces = false) {cls text : String} {names : List String} {nb : Nat} {A : Nat → Prop}
    (hcls : Bundle.fit cls = true) (hnames : ∀ n ∈ names, Bundle.fit n = true) (hsoe : (cls == "java/lang/StackOverflowError") = false) (hoom : (cls == "java/lang/OutOfMemoryError") = false)
    (hat : ∀ w ∈ vx_atM cls names, w.before args s = true) (hgood : ∀ w ∈ vx_atM cls names, vx_ot w = true)
    (hU : vx_Zq Bundle.tN "UNASSIGNED_STACK" Bundle.steD A s s.heap) (hN : vx_Zq Bundle.tN "SUPPRESSED_SENTINEL" Bundle.listD A s s.heap) (hS : va_S A s.heap H locs) (hsize : ls.size = c.maxLocals)
    (htext : (text == notModelled) = false) (hnb : (stringBytes (stringToUtf16 text)).size ≤ nb) (hnb1 : nb ≤ 1000)
    (hRframes : names.length + 4 < R.frames) (hRlocals : (rest.map fun v => v.category).sum + 10240 ≤ R.locals) (hshort : 13 * names.length + 55 ≤ 10240) (hRcells : cells + 3 ≤ R.cells) (hRslots : slots + (nb + 10) ≤ R.slots) (hlocks : meth.locks = false)
    (k : ∀ (H1 : Heap) (q9 : Addr) (ce : Cell), H.size ≤ H1.size → (∀ q : Nat, q < H.size → H1[q]? = H[q]?) → va_S A s.heap H1 locs → H1[q9]? = some ce → ce.vm = .none → s.vm.findClass cls = some ce.cls → vx_W p l e R s m args below meth c H1 locs (cells + 3) (slots + (nb + 10)) Q (F0 m pc ls rest) q9) :
    vx_Note p l e R s m args below meth c H locs cells slots Q (F0 m pc ls rest) cls text := by
  intro T hT X
  have htr : e.platform.stackTraces = false := (show e.platform.stackTraces = l.stackTraces by rw [X.admits.platform]).trans hl
  have Y := vx_rebase X (R' := { frames := R.frames, locals := R.locals, cells := 3, slots := nb + 10 }) (Nat.le_refl _) (Nat.le_refl _) hRcells hRslots
  have hhp : ((T.setVm s.vm).setFrames (.invoking m args :: below)).heap = H := hT
  have hW0 : s.WarmedH ((T.setVm s.vm).setFrames (.invoking m args :: below)).vm := State.WarmedH.refl s
  have hat' : ∀ w ∈ vx_atM cls names, w.before args ((T.setVm s.vm).setFrames (.invoking m args :: below)) = true := fun w hw => vx_ot_at hW0 rfl (hgood w hw) (hat w hw)
  have hU' : vx_Zq Bundle.tN "UNASSIGNED_STACK" Bundle.steD A ((T.setVm s.vm).setFrames (.invoking m args :: below)) ((T.setVm s.vm).setFrames (.invoking m args :: below)).heap := by rw [hhp]; exact vx_Zq.moved hW0.alike (hU.kept hS.2.1)
  have hN' : vx_Zq Bundle.tN "SUPPRESSED_SENTINEL" Bundle.listD A ((T.setVm s.vm).setFrames (.invoking m args :: below)) ((T.setVm s.vm).setFrames (.invoking m args :: below)).heap := by rw [hhp]; exact vx_Zq.moved hW0.alike (hN.kept hS.2.1)
  obtain ⟨S, q, ce, st, Z, hce, hcl', hv⟩ := vx_vmAt Y hexec htr (cls := cls) (names := names) (text := text) hcls hnames hsoe hoom (vx_own hat' (vx_isRefq hU'.1) (vx_isRefq hN'.1) hU'.2.word hN'.2.word) (fun x hx => nomatch hx) htext
    (by rw [Launch.admits_arrayLengthLimit X.admits]; omega) (by rw [Launch.admits_maxHeapBytes X.admits]; simp only [componentBytes]; omega)
    (g := F0 m pc ls rest) rfl hsize hRframes (by show 2 * 0 + (rest.map fun v => v.category).sum + 10240 ≤ R.locals; omega) hshort (by show 0 + 3 ≤ 3; omega) (by show 0 + (_ + 4 + 6) ≤ nb + 10; omega) hlocks
  obtain ⟨f1, f2⟩ := vx_frame Z.same
  have f1' : H.size ≤ S.heap.size := by rw [← hT]; exact f1
  have f2' : ∀ q : Nat, q < H.size → S.heap[q]? = H[q]? := fun q hq => by
    rw [← hT]
    exact f2 q (by rw [← hT] at hq; exact hq) (fun z hz => nomatch hz)
  have X5 := vx_back9 X Y Z
  have X6 : Stand p l e R s m args below meth c S locs (cells + 3) (slots + (nb + 10)) := { X5 with same := X5.same.mono (by omega) (by omega) }
  obtain ⟨t, a1, b1⟩ := k S.heap q ce f1' f2' ⟨Nat.le_trans hS.1 f1', fun q h1 h2 => (f2' q (Nat.lt_of_lt_of_le h1 hS.1)).trans (hS.2.1 q h1 h2), hS.2.2⟩ hce hv hcl' S rfl X6
  exact ⟨t, st t a1, b1⟩
/-- from the machine's note that NullPointerException is thrown here -/
def vx_NoteN (p : Program) (l : Launch) (e : Env) (R : Room) (s : State) (m : MethodId) (args : Array Value) (below : List Frame) (meth : Method) (c : Code) (H : Heap) (locs : List Loc) (cells slots : Nat) (Q : State → Prop) (g : JFrame) : Prop :=
  ∀ T : State, T.heap = H → Stand p l e R s m args below meth c T locs cells slots → ∃ t, Steps p.tables e below ((T.setTop g).pushFrame (.throwNew "java/lang/NullPointerException" none none)) t ∧ Q t
theorem vx_npe {pc : Nat} {ls : Array Slot} {rest : List Value} {Q : State → Prop} (hexec : p.tables.exec = Jvm.exec) (hl : l.stackTraces = false) {nb : Nat} {A : Nat → Prop}
    (hat : ∀ w ∈ vx_atN nb, w.before args s = true) (hgood : ∀ w ∈ vx_atN nb, vx_ot w = true)
    (hU : vx_Zq Bundle.tN "UNASSIGNED_STACK" Bundle.steD A s s.heap) (hN : vx_Zq Bundle.tN "SUPPRESSED_SENTINEL" Bundle.listD A s s.heap) (hS : va_S A s.heap H locs) (hsize : ls.size = c.maxLocals)
    (hRframes : 7 < R.frames) (hRlocals : (rest.map fun v => v.category).sum + 10240 ≤ R.locals) (hRcells : cells + 1 ≤ R.cells) (hRslots : slots + nb ≤ R.slots) (hlocks : meth.locks = false)
    (k : ∀ (H1 : Heap) (q9 : Addr) (ce : Cell), H.size ≤ H1.size → (∀ q : Nat, q < H.size → H1[q]? = H[q]?) → va_S A s.heap H1 locs → H1[q9]? = some ce → ce.vm = .none → s.vm.findClass "java/lang/NullPointerException" = some ce.cls → vx_W p l e R s m args below meth c H1 locs (cells + 1) (slots + nb) Q (F0 m pc ls rest) q9) :
    vx_NoteN p l e R s m args below meth c H locs cells slots Q (F0 m pc ls rest) := by
  intro T hT X
  have htr : e.platform.stackTraces = false := (show e.platform.stackTraces = l.stackTraces by rw [X.admits.platform]).trans hl
  have Y := vx_rebase X (R' := { frames := R.frames, locals := R.locals, cells := 1, slots := nb }) (Nat.le_refl _) (Nat.le_refl _) hRcells hRslots
  have hhp : ((T.setVm s.vm).setFrames (.invoking m args :: below)).heap = H := hT
  have hW0 : s.WarmedH ((T.setVm s.vm).setFrames (.invoking m args :: below)).vm := State.WarmedH.refl s
  have hat' : ∀ w ∈ vx_atN nb, w.before args ((T.setVm s.vm).setFrames (.invoking m args :: below)) = true := fun w hw => vx_ot_at hW0 rfl (hgood w hw) (hat w hw)
  have hU' : vx_Zq Bundle.tN "UNASSIGNED_STACK" Bundle.steD A ((T.setVm s.vm).setFrames (.invoking m args :: below)) ((T.setVm s.vm).setFrames (.invoking m args :: below)).heap := by rw [hhp]; exact vx_Zq.moved hW0.alike (hU.kept hS.2.1)
  have hN' : vx_Zq Bundle.tN "SUPPRESSED_SENTINEL" Bundle.listD A ((T.setVm s.vm).setFrames (.invoking m args :: below)) ((T.setVm s.vm).setFrames (.invoking m args :: below)).heap := by rw [hhp]; exact vx_Zq.moved hW0.alike (hN.kept hS.2.1)
  obtain ⟨S, q, ce, st, Z, hce, hcl', hv⟩ := vx_npeAt Y hexec htr (n := nb) (vx_own hat' (vx_isRefq hU'.1) (vx_isRefq hN'.1) hU'.2.word hN'.2.word) (fun x hx => nomatch hx)
    (g := F0 m pc ls rest) rfl hsize hRframes (by show 2 * 0 + (rest.map fun v => v.category).sum + 10240 ≤ R.locals; omega) (by show 0 + 1 ≤ 1; omega) (by show 0 + nb ≤ nb; omega) hlocks
  obtain ⟨f1, f2⟩ := vx_frame Z.same
  have f1' : H.size ≤ S.heap.size := by rw [← hT]; exact f1
  have f2' : ∀ q : Nat, q < H.size → S.heap[q]? = H[q]? := fun q hq => by
    rw [← hT]
    exact f2 q (by rw [← hT] at hq; exact hq) (fun z hz => nomatch hz)
  have X5 := vx_back9 X Y Z
  have X6 : Stand p l e R s m args below meth c S locs (cells + 1) (slots + nb) := { X5 with same := X5.same.mono (by omega) (by omega) }
  obtain ⟨t, a1, b1⟩ := k S.heap q ce f1' f2' ⟨Nat.le_trans hS.1 f1', fun q h1 h2 => (f2' q (Nat.lt_of_lt_of_le h1 hS.1)).trans (hS.2.1 q h1 h2), hS.2.2⟩ hce hv hcl' S rfl X6
  exact ⟨t, st t a1, b1⟩
variable {Q : State → Prop} {cc : ByteArray} {pc : Nat} {ls : Array Slot} {rest : List Value}
theorem vx_idivZ (hexec : p.tables.exec = Jvm.exec) (hb : c.code = cc) {a b : Int32} (h0 : b = 0) (d : decode cc pc = .ok (.idiv, 1)) (k : vx_Note p l e R s m args below meth c H locs cells slots Q (F0 m pc ls rest) "java/lang/ArithmeticException" "/ by zero") :
    W p l e R s m args below meth c H locs cells slots Q (F0 m pc ls (.int b :: .int a :: rest)) := by
  intro T hT X
  obtain ⟨t, st, q⟩ := k T hT X
  exact ⟨t, X.idivZero hexec (g := F0 m pc ls (.int b :: .int a :: rest)) rfl (a := a) (rest := rest) (by rw [h0]) (by rw [hb]; exact d) t st, q⟩
theorem vx_iremZ (hexec : p.tables.exec = Jvm.exec) (hb : c.code = cc) {a b : Int32} (h0 : b = 0) (d : decode cc pc = .ok (.irem, 1)) (k : vx_Note p l e R s m args below meth c H locs cells slots Q (F0 m pc ls rest) "java/lang/ArithmeticException" "/ by zero") :
    W p l e R s m args below meth c H locs cells slots Q (F0 m pc ls (.int b :: .int a :: rest)) := by
  intro T hT X
  obtain ⟨t, st, q⟩ := k T hT X
  exact ⟨t, X.iremZero hexec (g := F0 m pc ls (.int b :: .int a :: rest)) rfl (a := a) (rest := rest) (by rw [h0]) (by rw [hb]; exact d) t st, q⟩
theorem vx_ldivZ (hexec : p.tables.exec = Jvm.exec) (hb : c.code = cc) {a b : Int64} (h0 : b = 0) (d : decode cc pc = .ok (.ldiv, 1)) (k : vx_Note p l e R s m args below meth c H locs cells slots Q (F0 m pc ls rest) "java/lang/ArithmeticException" "/ by zero") :
    W p l e R s m args below meth c H locs cells slots Q (F0 m pc ls (.long b :: .long a :: rest)) := by
  intro T hT X
  obtain ⟨t, st, q⟩ := k T hT X
  exact ⟨t, X.ldivZero hexec (g := F0 m pc ls (.long b :: .long a :: rest)) rfl (a := a) (rest := rest) (by rw [h0]) (by rw [hb]; exact d) t st, q⟩
theorem vx_lremZ (hexec : p.tables.exec = Jvm.exec) (hb : c.code = cc) {a b : Int64} (h0 : b = 0) (d : decode cc pc = .ok (.lrem, 1)) (k : vx_Note p l e R s m args below meth c H locs cells slots Q (F0 m pc ls rest) "java/lang/ArithmeticException" "/ by zero") :
    W p l e R s m args below meth c H locs cells slots Q (F0 m pc ls (.long b :: .long a :: rest)) := by
  intro T hT X
  obtain ⟨t, st, q⟩ := k T hT X
  exact ⟨t, X.lremZero hexec (g := F0 m pc ls (.long b :: .long a :: rest)) rfl (a := a) (rest := rest) (by rw [h0]) (by rw [hb]; exact d) t st, q⟩
theorem vx_ialdZ {D : va_G} {cl : List vw_C} {ws : va_W} {tys : List (ClassId × FieldType)} {a : Nat} (hexec : p.tables.exec = Jvm.exec) (hb : c.code = cc) (hK : va_K D cl tys s) (hP : va_P D cl ws H) (q0 t0 : Nat) {cA : ClassId} {n : Nat} {f : Nat → Int32} (ha : ws[q0]? = some (a, .inl (cA, n, .inl f))) (ht : tys[t0]? = some (cA, .int)) {i : Int32} (hout : ¬ vp_in i n) (hdg : decode cc pc = .ok (.iaload, 1))
    (k : ∀ tx : String, tx = (toString "Index " ++ toString i ++ toString " out of bounds for length " ++ toString n : String) → vx_Note p l e R s m args below meth c H locs cells slots Q (F0 m pc ls rest) "java/lang/ArrayIndexOutOfBoundsException" tx) : W p l e R s m args below meth c H locs cells slots Q (F0 m pc ls (.int i :: .ref a :: rest)) := by
  intro T hT X
  obtain ⟨t, st, q⟩ := k _ rfl T hT X
  refine ⟨t, ?_, q⟩
  have h1 := X.ialoadOut hexec (by rw [hT]; exact hP q0 _ ha) ((hK.2 t0 _ ht).1 n (fun j => .int (f j))) (j := i) (by show (i < 0 ∨ (arrV _ _ _).slots.size ≤ _); rw [arrV_size]; exact Classical.byContradiction hout) (g := F0 m pc ls (.int i :: .ref a :: rest)) rfl (rest := rest) rfl (by rw [hb]; exact hdg) t
  simp only [arrV_size] at h1
  exact h1 st
theorem vx_iastZ {D : va_G} {cl : List vw_C} {ws : va_W} {tys : List (ClassId × FieldType)} {a : Nat} (hexec : p.tables.exec = Jvm.exec) (hb : c.code = cc) (hK : va_K D cl tys s) (hP : va_P D cl ws H) (q0 t0 : Nat) {cA : ClassId} {n : Nat} {f : Nat → Int32} (ha : ws[q0]? = some (a, .inl (cA, n, .inl f))) (ht : tys[t0]? = some (cA, .int)) {i : Int32} {x : Int32} (hout : ¬ vp_in i n) (hdg : decode cc pc = .ok (.iastore, 1))
    (k : ∀ tx : String, tx = (toString "Index " ++ toString i ++ toString " out of bounds for length " ++ toString n : String) → vx_Note p l e R s m args below meth c H locs cells slots Q (F0 m pc ls rest) "java/lang/ArrayIndexOutOfBoundsException" tx) : W p l e R s m args below meth c H locs cells slots Q (F0 m pc ls (.int x :: .int i :: .ref a :: rest)) := by
  intro T hT X
  obtain ⟨t, st, q⟩ := k _ rfl T hT X
  refine ⟨t, ?_, q⟩
  have h1 := X.iastoreOut hexec (by rw [hT]; exact hP q0 _ ha) ((hK.2 t0 _ ht).1 n (fun j => .int (f j))) (j := i) (by show (i < 0 ∨ (arrV _ _ _).slots.size ≤ _); rw [arrV_size]; exact Classical.byContradiction hout) (g := F0 m pc ls (.int x :: .int i :: .ref a :: rest)) rfl (rest := rest) rfl (by rw [hb]; exact hdg) t
  simp only [arrV_size] at h1
  exact h1 st
theorem vx_baldZ {D : va_G} {cl : List vw_C} {ws : va_W} {tys : List (ClassId × FieldType)} {a : Nat} (hexec : p.tables.exec = Jvm.exec) (hb : c.code = cc) (hK : va_K D cl tys s) (hP : va_P D cl ws H) (q0 t0 : Nat) {cA : ClassId} {n : Nat} {f : Nat → Int32} (ha : ws[q0]? = some (a, .inl (cA, n, .inl f))) (ht : tys[t0]? = some (cA, .byte)) {i : Int32} (hout : ¬ vp_in i n) (hdg : decode cc pc = .ok (.baload, 1))
    (k : ∀ tx : String, tx = (toString "Index " ++ toString i ++ toString " out of bounds for length " ++ toString n : String) → vx_Note p l e R s m args below meth c H locs cells slots Q (F0 m pc ls rest) "java/lang/ArrayIndexOutOfBoundsException" tx) : W p l e R s m args below meth c H locs cells slots Q (F0 m pc ls (.int i :: .ref a :: rest)) := by
  intro T hT X
  obtain ⟨t, st, q⟩ := k _ rfl T hT X
  refine ⟨t, ?_, q⟩
  have h1 := X.baloadOut hexec (by rw [hT]; exact hP q0 _ ha) ((hK.2 t0 _ ht).1 n (fun j => .int (f j))) (j := i) (by show (i < 0 ∨ (arrV _ _ _).slots.size ≤ _); rw [arrV_size]; exact Classical.byContradiction hout) (g := F0 m pc ls (.int i :: .ref a :: rest)) rfl (rest := rest) rfl (by rw [hb]; exact hdg) t
  simp only [arrV_size] at h1
  exact h1 st
theorem vx_bastZ {D : va_G} {cl : List vw_C} {ws : va_W} {tys : List (ClassId × FieldType)} {a : Nat} (hexec : p.tables.exec = Jvm.exec) (hb : c.code = cc) (hK : va_K D cl tys s) (hP : va_P D cl ws H) (q0 t0 : Nat) {cA : ClassId} {n : Nat} {f : Nat → Int32} (ha : ws[q0]? = some (a, .inl (cA, n, .inl f))) (ht : tys[t0]? = some (cA, .byte)) {i : Int32} {x : Int32} (hout : ¬ vp_in i n) (hdg : decode cc pc = .ok (.bastore, 1))
    (k : ∀ tx : String, tx = (toString "Index " ++ toString i ++ toString " out of bounds for length " ++ toString n : String) → vx_Note p l e R s m args below meth c H locs cells slots Q (F0 m pc ls rest) "java/lang/ArrayIndexOutOfBoundsException" tx) : W p l e R s m args below meth c H locs cells slots Q (F0 m pc ls (.int x :: .int i :: .ref a :: rest)) := by
  intro T hT X
  obtain ⟨t, st, q⟩ := k _ rfl T hT X
  refine ⟨t, ?_, q⟩
  have h1 := X.bastoreOut hexec (by rw [hT]; exact hP q0 _ ha) ((hK.2 t0 _ ht).1 n (fun j => .int (f j))) (j := i) (by show (i < 0 ∨ (arrV _ _ _).slots.size ≤ _); rw [arrV_size]; exact Classical.byContradiction hout) (g := F0 m pc ls (.int x :: .int i :: .ref a :: rest)) rfl (rest := rest) rfl (by rw [hb]; exact hdg) t
  simp only [arrV_size] at h1
  exact h1 st
theorem vx_zaldZ {D : va_G} {cl : List vw_C} {ws : va_W} {tys : List (ClassId × FieldType)} {a : Nat} (hexec : p.tables.exec = Jvm.exec) (hb : c.code = cc) (hK : va_K D cl tys s) (hP : va_P D cl ws H) (q0 t0 : Nat) {cA : ClassId} {n : Nat} {f : Nat → Int32} (ha : ws[q0]? = some (a, .inl (cA, n, .inl f))) (ht : tys[t0]? = some (cA, .boolean)) {i : Int32} (hout : ¬ vp_in i n) (hdg : decode cc pc = .ok (.baload, 1))
    (k : ∀ tx : String, tx = (toString "Index " ++ toString i ++ toString " out of bounds for length " ++ toString n : String) → vx_Note p l e R s m args below meth c H locs cells slots Q (F0 m pc ls rest) "java/lang/ArrayIndexOutOfBoundsException" tx) : W p l e R s m args below meth c H locs cells slots Q (F0 m pc ls (.int i :: .ref a :: rest)) := by
  intro T hT X
  obtain ⟨t, st, q⟩ := k _ rfl T hT X
  refine ⟨t, ?_, q⟩
  have h1 := X.baloadOut hexec (by rw [hT]; exact hP q0 _ ha) ((hK.2 t0 _ ht).1 n (fun j => .int (f j))) (j := i) (by show (i < 0 ∨ (arrV _ _ _).slots.size ≤ _); rw [arrV_size]; exact Classical.byContradiction hout) (g := F0 m pc ls (.int i :: .ref a :: rest)) rfl (rest := rest) rfl (by rw [hb]; exact hdg) t
  simp only [arrV_size] at h1
  exact h1 st
theorem vx_zastZ {D : va_G} {cl : List vw_C} {ws : va_W} {tys : List (ClassId × FieldType)} {a : Nat} (hexec : p.tables.exec = Jvm.exec) (hb : c.code = cc) (hK : va_K D cl tys s) (hP : va_P D cl ws H) (q0 t0 : Nat) {cA : ClassId} {n : Nat} {f : Nat → Int32} (ha : ws[q0]? = some (a, .inl (cA, n, .inl f))) (ht : tys[t0]? = some (cA, .boolean)) {i : Int32} {x : Int32} (hout : ¬ vp_in i n) (hdg : decode cc pc = .ok (.bastore, 1))
    (k : ∀ tx : String, tx = (toString "Index " ++ toString i ++ toString " out of bounds for length " ++ toString n : String) → vx_Note p l e R s m args below meth c H locs cells slots Q (F0 m pc ls rest) "java/lang/ArrayIndexOutOfBoundsException" tx) : W p l e R s m args below meth c H locs cells slots Q (F0 m pc ls (.int x :: .int i :: .ref a :: rest)) := by
  intro T hT X
  obtain ⟨t, st, q⟩ := k _ rfl T hT X
  refine ⟨t, ?_, q⟩
  have h1 := X.bastoreOut hexec (by rw [hT]; exact hP q0 _ ha) ((hK.2 t0 _ ht).1 n (fun j => .int (f j))) (j := i) (by show (i < 0 ∨ (arrV _ _ _).slots.size ≤ _); rw [arrV_size]; exact Classical.byContradiction hout) (g := F0 m pc ls (.int x :: .int i :: .ref a :: rest)) rfl (rest := rest) rfl (by rw [hb]; exact hdg) t
  simp only [arrV_size] at h1
  exact h1 st
theorem vx_caldZ {D : va_G} {cl : List vw_C} {ws : va_W} {tys : List (ClassId × FieldType)} {a : Nat} (hexec : p.tables.exec = Jvm.exec) (hb : c.code = cc) (hK : va_K D cl tys s) (hP : va_P D cl ws H) (q0 t0 : Nat) {cA : ClassId} {n : Nat} {f : Nat → Int32} (ha : ws[q0]? = some (a, .inl (cA, n, .inl f))) (ht : tys[t0]? = some (cA, .char)) {i : Int32} (hout : ¬ vp_in i n) (hdg : decode cc pc = .ok (.caload, 1))
    (k : ∀ tx : String, tx = (toString "Index " ++ toString i ++ toString " out of bounds for length " ++ toString n : String) → vx_Note p l e R s m args below meth c H locs cells slots Q (F0 m pc ls rest) "java/lang/ArrayIndexOutOfBoundsException" tx) : W p l e R s m args below meth c H locs cells slots Q (F0 m pc ls (.int i :: .ref a :: rest)) := by
  intro T hT X
  obtain ⟨t, st, q⟩ := k _ rfl T hT X
  refine ⟨t, ?_, q⟩
  have h1 := X.caloadOut hexec (by rw [hT]; exact hP q0 _ ha) ((hK.2 t0 _ ht).1 n (fun j => .int (f j))) (j := i) (by show (i < 0 ∨ (arrV _ _ _).slots.size ≤ _); rw [arrV_size]; exact Classical.byContradiction hout) (g := F0 m pc ls (.int i :: .ref a :: rest)) rfl (rest := rest) rfl (by rw [hb]; exact hdg) t
  simp only [arrV_size] at h1
  exact h1 st
theorem vx_castZ {D : va_G} {cl : List vw_C} {ws : va_W} {tys : List (ClassId × FieldType)} {a : Nat} (hexec : p.tables.exec = Jvm.exec) (hb : c.code = cc) (hK : va_K D cl tys s) (hP : va_P D cl ws H) (q0 t0 : Nat) {cA : ClassId} {n : Nat} {f : Nat → Int32} (ha : ws[q0]? = some (a, .inl (cA, n, .inl f))) (ht : tys[t0]? = some (cA, .char)) {i : Int32} {x : Int32} (hout : ¬ vp_in i n) (hdg : decode cc pc = .ok (.castore, 1))
    (k : ∀ tx : String, tx = (toString "Index " ++ toString i ++ toString " out of bounds for length " ++ toString n : String) → vx_Note p l e R s m args below meth c H locs cells slots Q (F0 m pc ls rest) "java/lang/ArrayIndexOutOfBoundsException" tx) : W p l e R s m args below meth c H locs cells slots Q (F0 m pc ls (.int x :: .int i :: .ref a :: rest)) := by
  intro T hT X
  obtain ⟨t, st, q⟩ := k _ rfl T hT X
  refine ⟨t, ?_, q⟩
  have h1 := X.castoreOut hexec (by rw [hT]; exact hP q0 _ ha) ((hK.2 t0 _ ht).1 n (fun j => .int (f j))) (j := i) (by show (i < 0 ∨ (arrV _ _ _).slots.size ≤ _); rw [arrV_size]; exact Classical.byContradiction hout) (g := F0 m pc ls (.int x :: .int i :: .ref a :: rest)) rfl (rest := rest) rfl (by rw [hb]; exact hdg) t
  simp only [arrV_size] at h1
  exact h1 st
theorem vx_saldZ {D : va_G} {cl : List vw_C} {ws : va_W} {tys : List (ClassId × FieldType)} {a : Nat} (hexec : p.tables.exec = Jvm.exec) (hb : c.code = cc) (hK : va_K D cl tys s) (hP : va_P D cl ws H) (q0 t0 : Nat) {cA : ClassId} {n : Nat} {f : Nat → Int32} (ha : ws[q0]? = some (a, .inl (cA, n, .inl f))) (ht : tys[t0]? = some (cA, .short)) {i : Int32} (hout : ¬ vp_in i n) (hdg : decode cc pc = .ok (.saload, 1))
    (k : ∀ tx : String, tx = (toString "Index " ++ toString i ++ toString " out of bounds for length " ++ toString n : String) → vx_Note p l e R s m args below meth c H locs cells slots Q (F0 m pc ls rest) "java/lang/ArrayIndexOutOfBoundsException" tx) : W p l e R s m args below meth c H locs cells slots Q (F0 m pc ls (.int i :: .ref a :: rest)) := by
  intro T hT X
  obtain ⟨t, st, q⟩ := k _ rfl T hT X
  refine ⟨t, ?_, q⟩
  have h1 := X.saloadOut hexec (by rw [hT]; exact hP q0 _ ha) ((hK.2 t0 _ ht).1 n (fun j => .int (f j))) (j := i) (by show (i < 0 ∨ (arrV _ _ _).slots.size ≤ _); rw [arrV_size]; exact Classical.byContradiction hout) (g := F0 m pc ls (.int i :: .ref a :: rest)) rfl (rest := rest) rfl (by rw [hb]; exact hdg) t
  simp only [arrV_size] at h1
  exact h1 st
theorem vx_sastZ {D : va_G} {cl : List vw_C} {ws : va_W} {tys : List (ClassId × FieldType)} {a : Nat} (hexec : p.tables.exec = Jvm.exec) (hb : c.code = cc) (hK : va_K D cl tys s) (hP : va_P D cl ws H) (q0 t0 : Nat) {cA : ClassId} {n : Nat} {f : Nat → Int32} (ha : ws[q0]? = some (a, .inl (cA, n, .inl f))) (ht : tys[t0]? = some (cA, .short)) {i : Int32} {x : Int32} (hout : ¬ vp_in i n) (hdg : decode cc pc = .ok (.sastore, 1))
    (k : ∀ tx : String, tx = (toString "Index " ++ toString i ++ toString " out of bounds for length " ++ toString n : String) → vx_Note p l e R s m args below meth c H locs cells slots Q (F0 m pc ls rest) "java/lang/ArrayIndexOutOfBoundsException" tx) : W p l e R s m args below meth c H locs cells slots Q (F0 m pc ls (.int x :: .int i :: .ref a :: rest)) := by
  intro T hT X
  obtain ⟨t, st, q⟩ := k _ rfl T hT X
  refine ⟨t, ?_, q⟩
  have h1 := X.sastoreOut hexec (by rw [hT]; exact hP q0 _ ha) ((hK.2 t0 _ ht).1 n (fun j => .int (f j))) (j := i) (by show (i < 0 ∨ (arrV _ _ _).slots.size ≤ _); rw [arrV_size]; exact Classical.byContradiction hout) (g := F0 m pc ls (.int x :: .int i :: .ref a :: rest)) rfl (rest := rest) rfl (by rw [hb]; exact hdg) t
  simp only [arrV_size] at h1
  exact h1 st
theorem vx_laldZ {D : va_G} {cl : List vw_C} {ws : va_W} {tys : List (ClassId × FieldType)} {a : Nat} (hexec : p.tables.exec = Jvm.exec) (hb : c.code = cc) (hK : va_K D cl tys s) (hP : va_P D cl ws H) (q0 t0 : Nat) {cA : ClassId} {n : Nat} {f : Nat → Int64} (ha : ws[q0]? = some (a, .inl (cA, n, .inr (.inl f)))) (ht : tys[t0]? = some (cA, .long)) {i : Int32} (hout : ¬ vp_in i n) (hdg : decode cc pc = .ok (.laload, 1))
    (k : ∀ tx : String, tx = (toString "Index " ++ toString i ++ toString " out of bounds for length " ++ toString n : String) → vx_Note p l e R s m args below meth c H locs cells slots Q (F0 m pc ls rest) "java/lang/ArrayIndexOutOfBoundsException" tx) : W p l e R s m args below meth c H locs cells slots Q (F0 m pc ls (.int i :: .ref a :: rest)) := by
  intro T hT X
  obtain ⟨t, st, q⟩ := k _ rfl T hT X
  refine ⟨t, ?_, q⟩
  have h1 := X.laloadOut hexec (by rw [hT]; exact hP q0 _ ha) ((hK.2 t0 _ ht).1 n (fun j => .long (f j))) (j := i) (by show (i < 0 ∨ (arrV _ _ _).slots.size ≤ _); rw [arrV_size]; exact Classical.byContradiction hout) (g := F0 m pc ls (.int i :: .ref a :: rest)) rfl (rest := rest) rfl (by rw [hb]; exact hdg) t
  simp only [arrV_size] at h1
  exact h1 st
theorem vx_lastZ {D : va_G} {cl : List vw_C} {ws : va_W} {tys : List (ClassId × FieldType)} {a : Nat} (hexec : p.tables.exec = Jvm.exec) (hb : c.code = cc) (hK : va_K D cl tys s) (hP : va_P D cl ws H) (q0 t0 : Nat) {cA : ClassId} {n : Nat} {f : Nat → Int64} (ha : ws[q0]? = some (a, .inl (cA, n, .inr (.inl f)))) (ht : tys[t0]? = some (cA, .long)) {i : Int32} {x : Int64} (hout : ¬ vp_in i n) (hdg : decode cc pc = .ok (.lastore, 1))
    (k : ∀ tx : String, tx = (toString "Index " ++ toString i ++ toString " out of bounds for length " ++ toString n : String) → vx_Note p l e R s m args below meth c H locs cells slots Q (F0 m pc ls rest) "java/lang/ArrayIndexOutOfBoundsException" tx) : W p l e R s m args below meth c H locs cells slots Q (F0 m pc ls (.long x :: .int i :: .ref a :: rest)) := by
  intro T hT X
  obtain ⟨t, st, q⟩ := k _ rfl T hT X
  refine ⟨t, ?_, q⟩
  have h1 := X.lastoreOut hexec (by rw [hT]; exact hP q0 _ ha) ((hK.2 t0 _ ht).1 n (fun j => .long (f j))) (j := i) (by show (i < 0 ∨ (arrV _ _ _).slots.size ≤ _); rw [arrV_size]; exact Classical.byContradiction hout) (g := F0 m pc ls (.long x :: .int i :: .ref a :: rest)) rfl (rest := rest) rfl (by rw [hb]; exact hdg) t
  simp only [arrV_size] at h1
  exact h1 st
theorem vx_faldZ {D : va_G} {cl : List vw_C} {ws : va_W} {tys : List (ClassId × FieldType)} {a : Nat} (hexec : p.tables.exec = Jvm.exec) (hb : c.code = cc) (hK : va_K D cl tys s) (hP : va_P D cl ws H) (q0 t0 : Nat) {cA : ClassId} {n : Nat} {f : Nat → UInt32} (ha : ws[q0]? = some (a, .inl (cA, n, .inr (.inr (.inl f))))) (ht : tys[t0]? = some (cA, .float)) {i : Int32} (hout : ¬ vp_in i n) (hdg : decode cc pc = .ok (.faload, 1))
    (k : ∀ tx : String, tx = (toString "Index " ++ toString i ++ toString " out of bounds for length " ++ toString n : String) → vx_Note p l e R s m args below meth c H locs cells slots Q (F0 m pc ls rest) "java/lang/ArrayIndexOutOfBoundsException" tx) : W p l e R s m args below meth c H locs cells slots Q (F0 m pc ls (.int i :: .ref a :: rest)) := by
  intro T hT X
  obtain ⟨t, st, q⟩ := k _ rfl T hT X
  refine ⟨t, ?_, q⟩
  have h1 := X.faloadOut hexec (by rw [hT]; exact hP q0 _ ha) ((hK.2 t0 _ ht).1 n (fun j => .float (f j))) (j := i) (by show (i < 0 ∨ (arrV _ _ _).slots.size ≤ _); rw [arrV_size]; exact Classical.byContradiction hout) (g := F0 m pc ls (.int i :: .ref a :: rest)) rfl (rest := rest) rfl (by rw [hb]; exact hdg) t
  simp only [arrV_size] at h1
  exact h1 st
theorem vx_fastZ {D : va_G} {cl : List vw_C} {ws : va_W} {tys : List (ClassId × FieldType)} {a : Nat} (hexec : p.tables.exec = Jvm.exec) (hb : c.code = cc) (hK : va_K D cl tys s) (hP : va_P D cl ws H) (q0 t0 : Nat) {cA : ClassId} {n : Nat} {f : Nat → UInt32} (ha : ws[q0]? = some (a, .inl (cA, n, .inr (.inr (.inl f))))) (ht : tys[t0]? = some (cA, .float)) {i : Int32} {x : UInt32} (hout : ¬ vp_in i n) (hdg : decode cc pc = .ok (.fastore, 1))
    (k : ∀ tx : String, tx = (toString "Index " ++ toString i ++ toString " out of bounds for length " ++ toString n : String) → vx_Note p l e R s m args below meth c H locs cells slots Q (F0 m pc ls rest) "java/lang/ArrayIndexOutOfBoundsException" tx) : W p l e R s m args below meth c H locs cells slots Q (F0 m pc ls (.float x :: .int i :: .ref a :: rest)) := by
  intro T hT X
  obtain ⟨t, st, q⟩ := k _ rfl T hT X
  refine ⟨t, ?_, q⟩
  have h1 := X.fastoreOut hexec (by rw [hT]; exact hP q0 _ ha) ((hK.2 t0 _ ht).1 n (fun j => .float (f j))) (j := i) (by show (i < 0 ∨ (arrV _ _ _).slots.size ≤ _); rw [arrV_size]; exact Classical.byContradiction hout) (g := F0 m pc ls (.float x :: .int i :: .ref a :: rest)) rfl (rest := rest) rfl (by rw [hb]; exact hdg) t
  simp only [arrV_size] at h1
  exact h1 st
theorem vx_daldZ {D : va_G} {cl : List vw_C} {ws : va_W} {tys : List (ClassId × FieldType)} {a : Nat} (hexec : p.tables.exec = Jvm.exec) (hb : c.code = cc) (hK : va_K D cl tys s) (hP : va_P D cl ws H) (q0 t0 : Nat) {cA : ClassId} {n : Nat} {f : Nat → UInt64} (ha : ws[q0]? = some (a, .inl (cA, n, .inr (.inr (.inr (.inl f)))))) (ht : tys[t0]? = some (cA, .double)) {i : Int32} (hout : ¬ vp_in i n) (hdg : decode cc pc = .ok (.daload, 1))
    (k : ∀ tx : String, tx = (toString "Index " ++ toString i ++ toString " out of bounds for length " ++ toString n : String) → vx_Note p l e R s m args below meth c H locs cells slots Q (F0 m pc ls rest) "java/lang/ArrayIndexOutOfBoundsException" tx) : W p l e R s m args below meth c H locs cells slots Q (F0 m pc ls (.int i :: .ref a :: rest)) := by
  intro T hT X
  obtain ⟨t, st, q⟩ := k _ rfl T hT X
  refine ⟨t, ?_, q⟩
  have h1 := X.daloadOut hexec (by rw [hT]; exact hP q0 _ ha) ((hK.2 t0 _ ht).1 n (fun j => .double (f j))) (j := i) (by show (i < 0 ∨ (arrV _ _ _).slots.size ≤ _); rw [arrV_size]; exact Classical.byContradiction hout) (g := F0 m pc ls (.int i :: .ref a :: rest)) rfl (rest := rest) rfl (by rw [hb]; exact hdg) t
  simp only [arrV_size] at h1
  exact h1 st
theorem vx_dastZ {D : va_G} {cl : List vw_C} {ws : va_W} {tys : List (ClassId × FieldType)} {a : Nat} (hexec : p.tables.exec = Jvm.exec) (hb : c.code = cc) (hK : va_K D cl tys s) (hP : va_P D cl ws H) (q0 t0 : Nat) {cA : ClassId} {n : Nat} {f : Nat → UInt64} (ha : ws[q0]? = some (a, .inl (cA, n, .inr (.inr (.inr (.inl f)))))) (ht : tys[t0]? = some (cA, .double)) {i : Int32} {x : UInt64} (hout : ¬ vp_in i n) (hdg : decode cc pc = .ok (.dastore, 1))
    (k : ∀ tx : String, tx = (toString "Index " ++ toString i ++ toString " out of bounds for length " ++ toString n : String) → vx_Note p l e R s m args below meth c H locs cells slots Q (F0 m pc ls rest) "java/lang/ArrayIndexOutOfBoundsException" tx) : W p l e R s m args below meth c H locs cells slots Q (F0 m pc ls (.double x :: .int i :: .ref a :: rest)) := by
  intro T hT X
  obtain ⟨t, st, q⟩ := k _ rfl T hT X
  refine ⟨t, ?_, q⟩
  have h1 := X.dastoreOut hexec (by rw [hT]; exact hP q0 _ ha) ((hK.2 t0 _ ht).1 n (fun j => .double (f j))) (j := i) (by show (i < 0 ∨ (arrV _ _ _).slots.size ≤ _); rw [arrV_size]; exact Classical.byContradiction hout) (g := F0 m pc ls (.double x :: .int i :: .ref a :: rest)) rfl (rest := rest) rfl (by rw [hb]; exact hdg) t
  simp only [arrV_size] at h1
  exact h1 st
theorem vx_arraylengthN (hexec : p.tables.exec = Jvm.exec) (hb : c.code = cc) (hdg : decode cc pc = .ok (.arraylength, 1)) (k : vx_NoteN p l e R s m args below meth c H locs cells slots Q (F0 m pc ls rest)) : W p l e R s m args below meth c H locs cells slots Q (F0 m pc ls (.null :: rest)) := by
  intro T hT X
  obtain ⟨t, st, q⟩ := k T hT X
  exact ⟨t, X.arraylengthNull hexec (g := F0 m pc ls (.null :: rest)) rfl (rest := rest) rfl (by rw [hb]; exact hdg) t st, q⟩
theorem vx_ialoadN (hexec : p.tables.exec = Jvm.exec) (hb : c.code = cc) {i : Int32} (hdg : decode cc pc = .ok (.iaload, 1)) (k : vx_NoteN p l e R s m args below meth c H locs cells slots Q (F0 m pc ls rest)) : W p l e R s m args below meth c H locs cells slots Q (F0 m pc ls (.int i :: .null :: rest)) := by
  intro T hT X
  obtain ⟨t, st, q⟩ := k T hT X
  exact ⟨t, X.ialoadNull hexec (g := F0 m pc ls (.int i :: .null :: rest)) rfl (rest := rest) rfl (by rw [hb]; exact hdg) t st, q⟩
theorem vx_laloadN (hexec : p.tables.exec = Jvm.exec) (hb : c.code = cc) {i : Int32} (hdg : decode cc pc = .ok (.laload, 1)) (k : vx_NoteN p l e R s m args below meth c H locs cells slots Q (F0 m pc ls rest)) : W p l e R s m args below meth c H locs cells slots Q (F0 m pc ls (.int i :: .null :: rest)) := by
  intro T hT X
  obtain ⟨t, st, q⟩ := k T hT X
  exact ⟨t, X.laloadNull hexec (g := F0 m pc ls (.int i :: .null :: rest)) rfl (rest := rest) rfl (by rw [hb]; exact hdg) t st, q⟩
theorem vx_faloadN (hexec : p.tables.exec = Jvm.exec) (hb : c.code = cc) {i : Int32} (hdg : decode cc pc = .ok (.faload, 1)) (k : vx_NoteN p l e R s m args below meth c H locs cells slots Q (F0 m pc ls rest)) : W p l e R s m args below meth c H locs cells slots Q (F0 m pc ls (.int i :: .null :: rest)) := by
  intro T hT X
  obtain ⟨t, st, q⟩ := k T hT X
  exact ⟨t, X.faloadNull hexec (g := F0 m pc ls (.int i :: .null :: rest)) rfl (rest := rest) rfl (by rw [hb]; exact hdg) t st, q⟩
theorem vx_daloadN (hexec : p.tables.exec = Jvm.exec) (hb : c.code = cc) {i : Int32} (hdg : decode cc pc = .ok (.daload, 1)) (k : vx_NoteN p l e R s m args below meth c H locs cells slots Q (F0 m pc ls rest)) : W p l e R s m args below meth c H locs cells slots Q (F0 m pc ls (.int i :: .null :: rest)) := by
  intro T hT X
  obtain ⟨t, st, q⟩ := k T hT X
  exact ⟨t, X.daloadNull hexec (g := F0 m pc ls (.int i :: .null :: rest)) rfl (rest := rest) rfl (by rw [hb]; exact hdg) t st, q⟩
theorem vx_aaloadN (hexec : p.tables.exec = Jvm.exec) (hb : c.code = cc) {i : Int32} (hdg : decode cc pc = .ok (.aaload, 1)) (k : vx_NoteN p l e R s m args below meth c H locs cells slots Q (F0 m pc ls rest)) : W p l e R s m args below meth c H locs cells slots Q (F0 m pc ls (.int i :: .null :: rest)) := by
  intro T hT X
  obtain ⟨t, st, q⟩ := k T hT X
  exact ⟨t, X.aaloadNull hexec (g := F0 m pc ls (.int i :: .null :: rest)) rfl (rest := rest) rfl (by rw [hb]; exact hdg) t st, q⟩
theorem vx_baloadN (hexec : p.tables.exec = Jvm.exec) (hb : c.code = cc) {i : Int32} (hdg : decode cc pc = .ok (.baload, 1)) (k : vx_NoteN p l e R s m args below meth c H locs cells slots Q (F0 m pc ls rest)) : W p l e R s m args below meth c H locs cells slots Q (F0 m pc ls (.int i :: .null :: rest)) := by
  intro T hT X
  obtain ⟨t, st, q⟩ := k T hT X
  exact ⟨t, X.baloadNull hexec (g := F0 m pc ls (.int i :: .null :: rest)) rfl (rest := rest) rfl (by rw [hb]; exact hdg) t st, q⟩
theorem vx_caloadN (hexec : p.tables.exec = Jvm.exec) (hb : c.code = cc) {i : Int32} (hdg : decode cc pc = .ok (.caload, 1)) (k : vx_NoteN p l e R s m args below meth c H locs cells slots Q (F0 m pc ls rest)) : W p l e R s m args below meth c H locs cells slots Q (F0 m pc ls (.int i :: .null :: rest)) := by
  intro T hT X
  obtain ⟨t, st, q⟩ := k T hT X
  exact ⟨t, X.caloadNull hexec (g := F0 m pc ls (.int i :: .null :: rest)) rfl (rest := rest) rfl (by rw [hb]; exact hdg) t st, q⟩
theorem vx_saloadN (hexec : p.tables.exec = Jvm.exec) (hb : c.code = cc) {i : Int32} (hdg : decode cc pc = .ok (.saload, 1)) (k : vx_NoteN p l e R s m args below meth c H locs cells slots Q (F0 m pc ls rest)) : W p l e R s m args below meth c H locs cells slots Q (F0 m pc ls (.int i :: .null :: rest)) := by
  intro T hT X
  obtain ⟨t, st, q⟩ := k T hT X
  exact ⟨t, X.saloadNull hexec (g := F0 m pc ls (.int i :: .null :: rest)) rfl (rest := rest) rfl (by rw [hb]; exact hdg) t st, q⟩
theorem vx_iastoreN (hexec : p.tables.exec = Jvm.exec) (hb : c.code = cc) {x : Int32} {i : Int32} (hdg : decode cc pc = .ok (.iastore, 1)) (k : vx_NoteN p l e R s m args below meth c H locs cells slots Q (F0 m pc ls rest)) : W p l e R s m args below meth c H locs cells slots Q (F0 m pc ls (.int x :: .int i :: .null :: rest)) := by
  intro T hT X
  obtain ⟨t, st, q⟩ := k T hT X
  exact ⟨t, X.iastoreNull hexec (g := F0 m pc ls (.int x :: .int i :: .null :: rest)) rfl (rest := rest) rfl (by rw [hb]; exact hdg) t st, q⟩
theorem vx_lastoreN (hexec : p.tables.exec = Jvm.exec) (hb : c.code = cc) {x : Int64} {i : Int32} (hdg : decode cc pc = .ok (.lastore, 1)) (k : vx_NoteN p l e R s m args below meth c H locs cells slots Q (F0 m pc ls rest)) : W p l e R s m args below meth c H locs cells slots Q (F0 m pc ls (.long x :: .int i :: .null :: rest)) := by
  intro T hT X
  obtain ⟨t, st, q⟩ := k T hT X
  exact ⟨t, X.lastoreNull hexec (g := F0 m pc ls (.long x :: .int i :: .null :: rest)) rfl (rest := rest) rfl (by rw [hb]; exact hdg) t st, q⟩
theorem vx_fastoreN (hexec : p.tables.exec = Jvm.exec) (hb : c.code = cc) {x : UInt32} {i : Int32} (hdg : decode cc pc = .ok (.fastore, 1)) (k : vx_NoteN p l e R s m args below meth c H locs cells slots Q (F0 m pc ls rest)) : W p l e R s m args below meth c H locs cells slots Q (F0 m pc ls (.float x :: .int i :: .null :: rest)) := by
  intro T hT X
  obtain ⟨t, st, q⟩ := k T hT X
  exact ⟨t, X.fastoreNull hexec (g := F0 m pc ls (.float x :: .int i :: .null :: rest)) rfl (rest := rest) rfl (by rw [hb]; exact hdg) t st, q⟩
theorem vx_dastoreN (hexec : p.tables.exec = Jvm.exec) (hb : c.code = cc) {x : UInt64} {i : Int32} (hdg : decode cc pc = .ok (.dastore, 1)) (k : vx_NoteN p l e R s m args below meth c H locs cells slots Q (F0 m pc ls rest)) : W p l e R s m args below meth c H locs cells slots Q (F0 m pc ls (.double x :: .int i :: .null :: rest)) := by
  intro T hT X
  obtain ⟨t, st, q⟩ := k T hT X
  exact ⟨t, X.dastoreNull hexec (g := F0 m pc ls (.double x :: .int i :: .null :: rest)) rfl (rest := rest) rfl (by rw [hb]; exact hdg) t st, q⟩
theorem vx_bastoreN (hexec : p.tables.exec = Jvm.exec) (hb : c.code = cc) {x : Int32} {i : Int32} (hdg : decode cc pc = .ok (.bastore, 1)) (k : vx_NoteN p l e R s m args below meth c H locs cells slots Q (F0 m pc ls rest)) : W p l e R s m args below meth c H locs cells slots Q (F0 m pc ls (.int x :: .int i :: .null :: rest)) := by
  intro T hT X
  obtain ⟨t, st, q⟩ := k T hT X
  exact ⟨t, X.bastoreNull hexec (g := F0 m pc ls (.int x :: .int i :: .null :: rest)) rfl (rest := rest) rfl (by rw [hb]; exact hdg) t st, q⟩
theorem vx_castoreN (hexec : p.tables.exec = Jvm.exec) (hb : c.code = cc) {x : Int32} {i : Int32} (hdg : decode cc pc = .ok (.castore, 1)) (k : vx_NoteN p l e R s m args below meth c H locs cells slots Q (F0 m pc ls rest)) : W p l e R s m args below meth c H locs cells slots Q (F0 m pc ls (.int x :: .int i :: .null :: rest)) := by
  intro T hT X
  obtain ⟨t, st, q⟩ := k T hT X
  exact ⟨t, X.castoreNull hexec (g := F0 m pc ls (.int x :: .int i :: .null :: rest)) rfl (rest := rest) rfl (by rw [hb]; exact hdg) t st, q⟩
theorem vx_sastoreN (hexec : p.tables.exec = Jvm.exec) (hb : c.code = cc) {x : Int32} {i : Int32} (hdg : decode cc pc = .ok (.sastore, 1)) (k : vx_NoteN p l e R s m args below meth c H locs cells slots Q (F0 m pc ls rest)) : W p l e R s m args below meth c H locs cells slots Q (F0 m pc ls (.int x :: .int i :: .null :: rest)) := by
  intro T hT X
  obtain ⟨t, st, q⟩ := k T hT X
  exact ⟨t, X.sastoreNull hexec (g := F0 m pc ls (.int x :: .int i :: .null :: rest)) rfl (rest := rest) rfl (by rw [hb]; exact hdg) t st, q⟩
theorem vx_invokeN {own C : String} {index maxL : Nat} {y : MethodName} {bytes : ByteArray} {ret : Option FieldType} (hexec : p.tables.exec = Jvm.exec) (hb : c.code = cc) (hown : s.vm.findClass own = some m.cls) (hlink : (Cond.methodLink own index y).before args s = true) (hinst : (Cond.instanceMethod y).before args s = true) (hcode : (Cond.code y bytes maxL ret).before args s = true) (hsel : (Cond.selects C y y).before args s = true)
    (hx : y.cls ≠ "java/lang/invoke/MethodHandle" ∧ y.cls ≠ "java/lang/invoke/VarHandle") {As : List Value} (hlen : (parseMethodDescriptor y.desc).map (fun d => d.parameters.length) = some As.length) (hdg : decode cc pc = .ok (.invokevirtual index, 3))
    (k : vx_NoteN p l e R s m args below meth c H locs cells slots Q (F0 m pc ls rest)) {st0 : List Value} (hst : st0 = As.reverse ++ .null :: rest) : W p l e R s m args below meth c H locs cells slots Q (F0 m pc ls st0) := by
  intro T hT X
  obtain ⟨r0, r, hn, hrm, hstR, hsigR⟩ := va_Decl.of hinst hcode
  obtain ⟨c2, r2, m2, q1, q2, q3, q4, kP, hkP, hkPi⟩ := Cond.selects_spec hsel
  cases hn.symm.trans q3
  have hl9 : As.length = r.sig.parameters.length := by
    rw [hsigR] at hlen
    exact (Option.some.inj hlen).symm
  obtain ⟨vm', X1, st1⟩ := X.invokevirtualNull hexec hown hlink hn hrm hstR hkP hkPi hx (g := F0 m pc ls st0) rfl (argsL := As) (rest := rest) hl9 hst (by rw [hb]; exact hdg)
  obtain ⟨t, st, q⟩ := k (T.setVm vm') hT X1
  exact ⟨t, st1 t st, q⟩
theorem vx_newarrayZ {atype : ArrayType} (hexec : p.tables.exec = Jvm.exec) (hb : c.code = cc) {n : Int32} (h0 : n < 0) (hdg : decode cc pc = .ok (.newarray atype, 2)) (k : ∀ tx : String, tx = toString n → vx_Note p l e R s m args below meth c H locs cells slots Q (F0 m pc ls rest) "java/lang/NegativeArraySizeException" tx) : W p l e R s m args below meth c H locs cells slots Q (F0 m pc ls (.int n :: rest)) := by
  intro T hT X
  obtain ⟨t, st, q⟩ := k _ rfl T hT X
  exact ⟨t, X.newarrayNegative hexec (g := F0 m pc ls (.int n :: rest)) rfl h0 (rest := rest) rfl (by rw [hb]; exact hdg) t st, q⟩
end
end VXM
/-! ===== END ===== -/
/-! ===== BEGIN an exception as an object: made, kept, thrown later (no traces kept) ===== -/
section VXK
variable {p : Program} {l : Launch} {e : Env} {R : Room} {s : State} {m₀ : MethodId} {args : Array Value} {below : List Frame} {meth : Method} {c : Code} {W : State} {locs : List Loc} {cells slots : Nat}
set_option maxHeartbeats 1000000 in
theorem vx_ctorMadeS (X : Stand p l e R s m₀ args below meth c W locs cells slots) (hexec : p.tables.exec = Jvm.exec) (htr : e.platform.stackTraces = false) {own cls : String} {names : List String} {ic : Nat}
    (hown : s.vm.findClass own = some m₀.cls) (hcls : Bundle.fit cls = true) (hnames : ∀ n ∈ names, Bundle.fit n = true)
    (h : ∀ a ∈ Bundle.ownAtoms own ic cls names, a.before args s = true)
    (hlocs : ∀ x ∈ locs, ∀ cell, s.heap[x.base]? = some cell → cell.vm.isStatics = false)
    {a : Addr} {cX : ClassId} {kX : Class} (hfoundX : s.vm.findClass cls = some cX) (hkX : s.vm.classes[cX]? = some kX) (hcell : W.heap[a]? = some (freshCell cX kX)) (hnew : s.heap.size ≤ a)
    {msg : Value} (hmsg : msg.isRef = true)
    {g : JFrame} (hg : g.method = m₀) (hsize : g.locals.size = c.maxLocals) {rest : List Value} (hstack : g.stack = msg :: .ref a :: .ref a :: rest)
    (hd6 : decode c.code g.pc = .ok (.invokespecial ic, 3))
    (hRframes : names.length + 3 < R.frames) (hRlocals : 2 * g.monitorRoom + ((Value.ref a :: rest).map fun v => v.category).sum + (13 * (names.length + 1) + 42) ≤ R.locals) :
    ∃ (V : State) (ce : Cell) (L : List Loc), Stand p l e R s m₀ args below meth c (V.setCell a ce) (locs ++ L) cells slots ∧ (∀ y ∈ L, y.base = a) ∧ a < V.heap.size ∧ ce.cls = cX ∧ ce.vm = .none ∧
      ∀ target, Steps p.tables e below ((V.setCell a ce).setTop { g with stack := .ref a :: rest, pc := g.pc + 3 }) target → Steps p.tables e below (W.setTop g) target := by
  have howns : e.platform.frameOwnsMonitors = true := by rw [X.admits.platform]
  have hfin : e.platform.finalization = false := by rw [X.admits.platform]
  have hpl : e.platform.magicAccessors = ({} : Platform).magicAccessors := by rw [X.admits.platform]
  have a' : ∀ x, x ∈ Bundle.ownAtoms own ic cls names → x.holds args s none s [] = true := fun x hx => h x hx
  obtain ⟨T, Z0, L, -, Y⟩ := ThrowableC.of_atoms (args := args) howns hfin hpl (fun x hx => h x (by simp [Bundle.ownAtoms, hx]))
  obtain ⟨Z, M, LZ, LM, hnZ⟩ := Init0T.ofS_atoms (args := args) hpl L Y (fun x hx => h x (by simp [Bundle.ownAtoms, hx]))
  obtain ⟨P1, Ps, hlen, L1, hL, hP1m, hlink1, hlink⟩ := Bundle.chainS (args := args) hpl hnZ names cls hcls hnames (fun x hx => h x (by simp [Bundle.ownAtoms, hx]))
  have hfound : s.vm.findClass cls = some P1.m.cls := findClass_of_methodNamed hP1m
  cases Option.some.inj (hfoundX.symm.trans hfound)
  obtain ⟨c1, kX', hc1, hk, hord, -, -, hn6⟩ := Cond.instantiable_spec (a' (.instantiable cls 6) (by simp [Bundle.ownAtoms]))
  cases Option.some.inj (hc1.symm.trans hfound)
  cases Option.some.inj (hkX.symm.trans hk)
  have hsel0 : selectMethod e.platform s.vm P1.m.cls T.fill0 = .method T.fill0 := by
    obtain ⟨c2, r2, m2, q1, q2, q3, q4, -⟩ := Cond.selects_spec (a' (.selects cls Bundle.tFill0 Bundle.tFill0) (by simp [Bundle.ownAtoms]))
    cases Option.some.inj (q1.symm.trans hfound)
    cases Option.some.inj (q2.symm.trans (State.methodFound?_of_named Y.fill0 (by decide)))
    cases Option.some.inj (q3.symm.trans Y.fill0)
    rw [Launch.admits_selectMethod X.admits]; exact q4
  have hselF : selectMethod e.platform s.vm P1.m.cls T.fill = .method T.fill := by
    obtain ⟨c2, r2, m2, q1, q2, q3, q4, -⟩ := Cond.selects_spec (a' (.selects cls Bundle.tFill Bundle.tFill) (by simp [Bundle.ownAtoms]))
    cases Option.some.inj (q1.symm.trans hfound)
    cases Option.some.inj (q2.symm.trans (State.methodFound?_of_named Y.fill (by decide)))
    cases Option.some.inj (q3.symm.trans Y.fill)
    rw [Launch.admits_selectMethod X.admits]; exact q4
  obtain ⟨cellS0, hcS0, hiss⟩ := Y.statics
  obtain ⟨u0, hu0⟩ := Cond.staticRefV Y.unassigned L.unassignedStatic L.statics hcS0 hiss (a' (.isRef (.static Bundle.tN "UNASSIGNED_STACK" Bundle.steD)) (by simp [Bundle.ownAtoms]))
  obtain ⟨sen, hsen⟩ := Cond.staticRefV Y.sentinel L.sentinelStatic L.statics hcS0 hiss (a' (.isRef (.static Bundle.tN "SUPPRESSED_SENTINEL" Bundle.listD)) (by simp [Bundle.ownAtoms]))
  obtain ⟨ci198, i198, fB, hk198, hg198, ha198, hsB, -, hnB, htB, hffB⟩ := Cond.ownField (t := .object "java/lang/Object") Y.found L.cls (by decide +kernel) (a' (.fieldLink Bundle.tN 198 Bundle.tN "backtrace" "Ljava/lang/Object;") (by simp [Bundle.ownAtoms])) (a' (.lays Bundle.tN Bundle.tN "backtrace" "Ljava/lang/Object;") (by simp [Bundle.ownAtoms])) e.platform hpl
  obtain ⟨cellS, hcS', heS, -, hkeep⟩ := X.same.2.2.2.2.2 T.aS cellS0 hcS0
  have hcellS : W.heap[T.aS]? = some cellS := hcS'
  have hout' : ∀ i, (⟨T.aS, i⟩ : Loc) ∉ locs := fun i hmem => by
    have := hlocs _ hmem cellS0 hcS0
    rw [hiss] at this; cases this
  have hknownS : cellS.vm ≠ .unknown := by
    rw [heS]; intro hu
    rw [show cellS0.vm = .unknown from hu] at hiss
    cases hiss
  have hneS : T.aS ≠ a := Nat.ne_of_lt (Nat.lt_of_lt_of_le (Array.getElem?_eq_some_iff.mp hcS0).1 hnew)
  obtain ⟨iM, hffM⟩ := Y.msg
  obtain ⟨tyC, dC, hdC, hdnC⟩ := Cond.laysAt hfound hk Y.cause (a' (.lays cls Bundle.tN "cause" "Ljava/lang/Throwable;") (by simp [Bundle.ownAtoms]))
  obtain ⟨tyS, dS, hdS, hdnS⟩ := Cond.laysAt hfound hk Y.stack (a' (.lays cls Bundle.tN "stackTrace" Bundle.steD) (by simp [Bundle.ownAtoms]))
  obtain ⟨tyP, dP, hdP, hdnP⟩ := Cond.laysAt hfound hk Y.supp (a' (.lays cls Bundle.tN "suppressedExceptions" Bundle.listD) (by simp [Bundle.ownAtoms]))
  obtain ⟨tyM, dM, hdM, hdnM⟩ := Cond.laysAt hfound hk hffM (a' (.lays cls Bundle.tN "detailMessage" "Ljava/lang/String;") (by simp [Bundle.ownAtoms]))
  obtain ⟨tyB, dB, hdB, hdnB⟩ := Cond.laysAt hfound hk hffB (a' (.lays cls Bundle.tN "backtrace" "Ljava/lang/Object;") (by simp [Bundle.ownAtoms]))
  have bC := Cond.laysApart hdB hdC hdnB hdnC (by rw [hnB, Y.causeName]; decide)
  have bS := Cond.laysApart hdB hdS hdnB hdnS (by rw [hnB, Y.stackName]; decide)
  have bP := Cond.laysApart hdB hdP hdnB hdnP (by rw [hnB, Y.suppName]; decide)
  have hskip : SkipFacts T e.platform s (fun u => u) u0 ((preparedCellV T.toThrowableT (freshCell P1.m.cls kX) a u0 sen).withEntry W.cur) :=
    ⟨{ ci198 := ci198, i198 := i198, fBack := fB }, ⟨hk198, hg198, ha198, hsB⟩, by
      have := fresh_default (c := P1.m.cls) tyB
      rw [htB] at this
      simpa [preparedCellV, Cell.setSlot, Cell.withEntry, Array.getElem?_setIfInBounds, bC, bS, bP, bC.symm, bS.symm, bP.symm, defaultValue] using this, fun _ _ => rfl⟩
  obtain ⟨tm, methC, cdC, kC, vm₁, hnC, -, -, -, -, -, -, -, hW₁, st1⟩ := Steps.initColdS (tb := p.tables) (e := e) (below := below) (s := s) (U := W) X.here hexec X.warmed hpl hown (t := Bundle.initS cls) rfl rfl (Bundle.fit_spec hcls).2
    (a' (.methodLink own ic (Bundle.initS cls)) (by simp [Bundle.ownAtoms])) (h (.instanceMethod (Bundle.initS cls)) (by cases names <;> simp [Bundle.ownAtoms, Bundle.chainSAtoms, Bundle.passSAtoms])) (bytes := Bundle.six) (maxL := 2) (h (.code (Bundle.initS cls) Bundle.six 2 none) (by cases names <;> simp [Bundle.ownAtoms, Bundle.chainSAtoms, Bundle.passSAtoms]))
    (f := g) hg (a := a) (msg := msg) (rest := .ref a :: rest) hstack hd6
  cases Option.some.inj (hnC.symm.trans hP1m)
  have X₁ := X.noted hW₁
  obtain ⟨vm₂, X₂, st2⟩ := X₁.ctorMessageOffV hexec (g := { g with stack := .ref a :: rest }) hg hsize T L Z LZ M LM (P1 :: Ps)
    (fun P hP => by rcases List.mem_cons.mp hP with rfl | hP; exact L1; exact hL P hP) ⟨hlink1, hlink⟩ (u0 := u0) (sen := sen) (self := a) hmsg (cell := freshCell P1.m.cls kX) (cellS := cellS)
    hcell (fun _ => by simp) (by simp) rfl rfl hsel0 hselF hcellS hneS hknownS (by rw [hkeep _ (hout' _)]; exact hu0) (by rw [hkeep _ (hout' _)]; exact hsen)
    (Takes.of_laid hk hord tyC (by rw [Y.causeType]; rfl)) (Takes.of_laid hk hord tyS (by rw [Y.stackType]; exact fits_refV_array _ u0)) (Takes.of_laid hk hord tyP (by rw [Y.suppType]; exact fits_refV_object _ sen))
    (Takes.of_laid hk hord tyM (by rw [Y.msgType]; exact fits_refV_object _ ⟨msg, hmsg⟩)) Y.objLocals hskip htr [] hd6
    (by simp only [List.length_cons, hlen]; omega) (by simp only [List.length_cons, hlen]; exact hRlocals)
  have hlt : a < ((W.setVm vm₁).setVm vm₂).heap.size := (Array.getElem?_eq_some_iff.mp hcell).1
  refine ⟨(W.setVm vm₁).setVm vm₂, _, _, X₂, fun y hy => ?_, hlt, rfl, rfl, fun target hwalk => st1 _ (fun acts => ?_)⟩
  · simp only [List.mem_cons, List.not_mem_nil, or_false] at hy
    rcases hy with rfl | rfl | rfl | rfl | rfl <;> rfl
  · rw [doInvoke_state]
    exact st2 _ hwalk
set_option maxHeartbeats 1000000 in
theorem vx_ctorMade0 (X : Stand p l e R s m₀ args below meth c W locs cells slots) (hexec : p.tables.exec = Jvm.exec) (htr : e.platform.stackTraces = false) {own cls : String} {names : List String} {ic : Nat}
    (hown : s.vm.findClass own = some m₀.cls) (hcls : Bundle.fit cls = true) (hnames : ∀ n ∈ names, Bundle.fit n = true)
    (h : ∀ a ∈ Bundle.ownAtoms0 own ic cls names, a.before args s = true)
    (hlocs : ∀ x ∈ locs, ∀ cell, s.heap[x.base]? = some cell → cell.vm.isStatics = false)
    {a : Addr} {cX : ClassId} {kX : Class} (hfoundX : s.vm.findClass cls = some cX) (hkX : s.vm.classes[cX]? = some kX) (hcell : W.heap[a]? = some (freshCell cX kX)) (hnew : s.heap.size ≤ a)
    {g : JFrame} (hg : g.method = m₀) (hsize : g.locals.size = c.maxLocals) {rest : List Value} (hstack : g.stack = .ref a :: .ref a :: rest)
    (hd6 : decode c.code g.pc = .ok (.invokespecial ic, 3))
    (hRframes : names.length + 3 < R.frames) (hRlocals : 2 * g.monitorRoom + ((Value.ref a :: rest).map fun v => v.category).sum + (13 * (names.length + 1) + 41) ≤ R.locals) :
    ∃ (V : State) (ce : Cell) (L : List Loc), Stand p l e R s m₀ args below meth c (V.setCell a ce) (locs ++ L) cells slots ∧ (∀ y ∈ L, y.base = a) ∧ a < V.heap.size ∧ ce.cls = cX ∧ ce.vm = .none ∧
      ∀ target, Steps p.tables e below ((V.setCell a ce).setTop { g with stack := .ref a :: rest, pc := g.pc + 3 }) target → Steps p.tables e below (W.setTop g) target := by
  have howns : e.platform.frameOwnsMonitors = true := by rw [X.admits.platform]
  have hfin : e.platform.finalization = false := by rw [X.admits.platform]
  have hpl : e.platform.magicAccessors = ({} : Platform).magicAccessors := by rw [X.admits.platform]
  have a' : ∀ x, x ∈ Bundle.ownAtoms0 own ic cls names → x.holds args s none s [] = true := fun x hx => h x hx
  obtain ⟨T, Z, L, LZ, Y⟩ := ThrowableC.of_atoms (args := args) howns hfin hpl (fun x hx => h x (by simp [Bundle.ownAtoms0, hx]))
  obtain ⟨P1, Ps, hlen, L1, hL, hP1m, hlink1, hlink⟩ := Bundle.chain0 (args := args) hpl Y.init0 names cls hcls hnames (fun x hx => h x (by simp [Bundle.ownAtoms0, hx]))
  have hfound : s.vm.findClass cls = some P1.m.cls := findClass_of_methodNamed hP1m
  cases Option.some.inj (hfoundX.symm.trans hfound)
  obtain ⟨c1, kX', hc1, hk, hord, -, -, hn6⟩ := Cond.instantiable_spec (a' (.instantiable cls 6) (by simp [Bundle.ownAtoms0]))
  cases Option.some.inj (hc1.symm.trans hfound)
  cases Option.some.inj (hkX.symm.trans hk)
  have hsel0 : selectMethod e.platform s.vm P1.m.cls T.fill0 = .method T.fill0 := by
    obtain ⟨c2, r2, m2, q1, q2, q3, q4, -⟩ := Cond.selects_spec (a' (.selects cls Bundle.tFill0 Bundle.tFill0) (by simp [Bundle.ownAtoms0]))
    cases Option.some.inj (q1.symm.trans hfound)
    cases Option.some.inj (q2.symm.trans (State.methodFound?_of_named Y.fill0 (by decide)))
    cases Option.some.inj (q3.symm.trans Y.fill0)
    rw [Launch.admits_selectMethod X.admits]; exact q4
  have hselF : selectMethod e.platform s.vm P1.m.cls T.fill = .method T.fill := by
    obtain ⟨c2, r2, m2, q1, q2, q3, q4, -⟩ := Cond.selects_spec (a' (.selects cls Bundle.tFill Bundle.tFill) (by simp [Bundle.ownAtoms0]))
    cases Option.some.inj (q1.symm.trans hfound)
    cases Option.some.inj (q2.symm.trans (State.methodFound?_of_named Y.fill (by decide)))
    cases Option.some.inj (q3.symm.trans Y.fill)
    rw [Launch.admits_selectMethod X.admits]; exact q4
  obtain ⟨cellS0, hcS0, hiss⟩ := Y.statics
  obtain ⟨u0, hu0⟩ := Cond.staticRefV Y.unassigned L.unassignedStatic L.statics hcS0 hiss (a' (.isRef (.static Bundle.tN "UNASSIGNED_STACK" Bundle.steD)) (by simp [Bundle.ownAtoms0]))
  obtain ⟨sen, hsen⟩ := Cond.staticRefV Y.sentinel L.sentinelStatic L.statics hcS0 hiss (a' (.isRef (.static Bundle.tN "SUPPRESSED_SENTINEL" Bundle.listD)) (by simp [Bundle.ownAtoms0]))
  obtain ⟨ci198, i198, fB, hk198, hg198, ha198, hsB, -, hnB, htB, hffB⟩ := Cond.ownField (t := .object "java/lang/Object") Y.found L.cls (by decide +kernel) (a' (.fieldLink Bundle.tN 198 Bundle.tN "backtrace" "Ljava/lang/Object;") (by simp [Bundle.ownAtoms0])) (a' (.lays Bundle.tN Bundle.tN "backtrace" "Ljava/lang/Object;") (by simp [Bundle.ownAtoms0])) e.platform hpl
  obtain ⟨cellS, hcS', heS, -, hkeep⟩ := X.same.2.2.2.2.2 T.aS cellS0 hcS0
  have hcellS : W.heap[T.aS]? = some cellS := hcS'
  have hout' : ∀ i, (⟨T.aS, i⟩ : Loc) ∉ locs := fun i hmem => by
    have := hlocs _ hmem cellS0 hcS0
    rw [hiss] at this; cases this
  have hknownS : cellS.vm ≠ .unknown := by
    rw [heS]; intro hu
    rw [show cellS0.vm = .unknown from hu] at hiss
    cases hiss
  have hneS : T.aS ≠ a := Nat.ne_of_lt (Nat.lt_of_lt_of_le (Array.getElem?_eq_some_iff.mp hcS0).1 hnew)
  obtain ⟨iM, hffM⟩ := Y.msg
  obtain ⟨tyC, dC, hdC, hdnC⟩ := Cond.laysAt hfound hk Y.cause (a' (.lays cls Bundle.tN "cause" "Ljava/lang/Throwable;") (by simp [Bundle.ownAtoms0]))
  obtain ⟨tyS, dS, hdS, hdnS⟩ := Cond.laysAt hfound hk Y.stack (a' (.lays cls Bundle.tN "stackTrace" Bundle.steD) (by simp [Bundle.ownAtoms0]))
  obtain ⟨tyP, dP, hdP, hdnP⟩ := Cond.laysAt hfound hk Y.supp (a' (.lays cls Bundle.tN "suppressedExceptions" Bundle.listD) (by simp [Bundle.ownAtoms0]))
  obtain ⟨tyM, dM, hdM, hdnM⟩ := Cond.laysAt hfound hk hffM (a' (.lays cls Bundle.tN "detailMessage" "Ljava/lang/String;") (by simp [Bundle.ownAtoms0]))
  obtain ⟨tyB, dB, hdB, hdnB⟩ := Cond.laysAt hfound hk hffB (a' (.lays cls Bundle.tN "backtrace" "Ljava/lang/Object;") (by simp [Bundle.ownAtoms0]))
  have bC := Cond.laysApart hdB hdC hdnB hdnC (by rw [hnB, Y.causeName]; decide)
  have bS := Cond.laysApart hdB hdS hdnB hdnS (by rw [hnB, Y.stackName]; decide)
  have bP := Cond.laysApart hdB hdP hdnB hdnP (by rw [hnB, Y.suppName]; decide)
  have hskip : SkipFacts T e.platform s (fun u => u) u0 ((preparedCellV T.toThrowableT (freshCell P1.m.cls kX) a u0 sen).withEntry W.cur) :=
    ⟨{ ci198 := ci198, i198 := i198, fBack := fB }, ⟨hk198, hg198, ha198, hsB⟩, by
      have := fresh_default (c := P1.m.cls) tyB
      rw [htB] at this
      simpa [preparedCellV, Cell.setSlot, Cell.withEntry, Array.getElem?_setIfInBounds, bC, bS, bP, bC.symm, bS.symm, bP.symm, defaultValue] using this, fun _ _ => rfl⟩
  obtain ⟨tm, methC, cdC, kC, vm₁, hnC, -, -, -, -, -, -, -, hW₁, st1⟩ := Steps.initCold (tb := p.tables) (e := e) (below := below) (s := s) (U := W) X.here hexec X.warmed hpl hown (t := Bundle.init0 cls) rfl rfl (Bundle.fit_spec hcls).2
    (a' (.methodLink own ic (Bundle.init0 cls)) (by simp [Bundle.ownAtoms0])) (h (.instanceMethod (Bundle.init0 cls)) (by cases names <;> simp [Bundle.ownAtoms0, Bundle.chain0Atoms, Bundle.passAtoms])) (bytes := Bundle.five) (maxL := 1) (h (.code (Bundle.init0 cls) Bundle.five 1 none) (by cases names <;> simp [Bundle.ownAtoms0, Bundle.chain0Atoms, Bundle.passAtoms]))
    (f := g) hg (a := a) (rest := .ref a :: rest) hstack hd6
  cases Option.some.inj (hnC.symm.trans hP1m)
  have X₁ := X.noted hW₁
  obtain ⟨vm₂, X₂, st2⟩ := X₁.ctorPlainOffV hexec (g := { g with stack := .ref a :: rest }) hg hsize T L Z LZ (P1 :: Ps)
    (fun P hP => by rcases List.mem_cons.mp hP with rfl | hP; exact L1; exact hL P hP) ⟨hlink1, hlink⟩ (u0 := u0) (sen := sen) (self := a) (cell := freshCell P1.m.cls kX) (cellS := cellS)
    hcell (fun _ => by simp) (by simp) rfl rfl hsel0 hselF hcellS hneS hknownS (by rw [hkeep _ (hout' _)]; exact hu0) (by rw [hkeep _ (hout' _)]; exact hsen)
    (Takes.of_laid hk hord tyC (by rw [Y.causeType]; rfl)) (Takes.of_laid hk hord tyS (by rw [Y.stackType]; exact fits_refV_array _ u0)) (Takes.of_laid hk hord tyP (by rw [Y.suppType]; exact fits_refV_object _ sen)) Y.objLocals hskip htr [] hd6
    (by simp only [List.length_cons, hlen]; omega) (by simp only [List.length_cons, hlen]; exact hRlocals)
  have hlt : a < ((W.setVm vm₁).setVm vm₂).heap.size := (Array.getElem?_eq_some_iff.mp hcell).1
  refine ⟨(W.setVm vm₁).setVm vm₂, _, _, X₂, fun y hy => ?_, hlt, rfl, rfl, fun target hwalk => st1 _ (fun acts => ?_)⟩
  · simp only [List.mem_cons, List.not_mem_nil, or_false] at hy
    rcases hy with rfl | rfl | rfl | rfl <;> rfl
  · rw [doInvoke_state]
    exact st2 _ hwalk
end VXK
section VXK2
variable {p : Program} {l : Launch} {e : Env} {R : Room} {s : State} {m : MethodId} {args : Array Value} {below : List Frame} {meth : Method} {c : Code} {H : Heap} {locs : List Loc} {cells slots : Nat} {Q : State → Prop}
variable {ls : Array Slot} {rest : List Value} {D : va_G} {cl : List vw_C} {tys : List (ClassId × FieldType)} {ws : va_W}
/-- 'new E("text")' that isn't thrown at once: the object goes on the stack -/
theorem vx_makeS {cc : ByteArray} {pc : Nat} (hexec : p.tables.exec = Jvm.exec) (hb : c.code = cc) (hl : l.stackTraces = false) {own cls text : String} {names : List String} {ik is ic sa ci : Nat} {A : Nat → Prop} {T0 : u_T}
    (hown : s.vm.findClass own = some m.cls) (hcls : Bundle.fit cls = true) (hnames : ∀ n ∈ names, Bundle.fit n = true)
    (hk : (Cond.classLink own ik cls).before args s = true) (hini : (Cond.initialized cls).before args s = true) (hstr : vk_R own is text sa s) (hat : ∀ w ∈ vx_atS own ic cls names, w.before args s = true)
    (hgood : ∀ w ∈ Cond.classLink own ik cls :: Cond.initialized cls :: vx_atS own ic cls names, vx_ot w = true)
    (hU : vx_Zq Bundle.tN "UNASSIGNED_STACK" Bundle.steD A s s.heap) (hN : vx_Zq Bundle.tN "SUPPRESSED_SENTINEL" Bundle.listD A s s.heap) (hS : va_S A s.heap H locs) (hsize : ls.size = c.maxLocals)
    (d0 : decode cc pc = .ok (.new ik, 3)) (d3 : decode cc (pc + 3) = .ok (.dup, 1)) (d4 : decode cc (pc + 4) = .ok (.ldc is, 2)) (d6 : decode cc (pc + 6) = .ok (.invokespecial ic, 3))
    (hK : va_K D cl tys s) (hP : va_P D cl ws H) (hD : va_D A ws) (hA : ∀ q, s.heap.size ≤ q → A q) (hc : cl[ci]? = some (cls, T0, 0))
    (hRframes : names.length + 3 < R.frames) (hRlocals : (rest.map fun v => v.category).sum + (13 * (names.length + 1) + 43) ≤ R.locals) (hRcells : cells + 1 ≤ R.cells) (hRslots : slots + 6 ≤ R.slots)
    (kk : ∀ (q : Nat) (H1 : Heap), va_P D cl (ws ++ [(q, .inr (ci, []))]) H1 → va_D A (ws ++ [(q, .inr (ci, []))]) → va_S A s.heap H1 locs → W p l e R s m args below meth c H1 locs (cells + 1) (slots + 6) Q (F0 m (pc + 9) ls (.ref q :: rest))) :
    W p l e R s m args below meth c H locs cells slots Q (F0 m pc ls rest) := by
  intro T hT X
  subst hT
  have htr : e.platform.stackTraces = false := (show e.platform.stackTraces = l.stackTraces by rw [X.admits.platform]).trans hl
  have Y := vx_rebase X (R' := { frames := R.frames, locals := R.locals, cells := 1, slots := 6 }) (Nat.le_refl _) (Nat.le_refl _) hRcells hRslots
  obtain ⟨s', hA'⟩ : ∃ z, z = (T.setVm s.vm).setFrames (.invoking m args :: below) := ⟨_, rfl⟩
  rw [← hA'] at Y
  have hvm : s'.vm = s.vm := by rw [hA']; rfl
  have hhp : s'.heap = T.heap := by rw [hA']; rfl
  have hW0 : s.WarmedH s'.vm := by rw [hvm]; exact State.WarmedH.refl s
  have hat' : ∀ w ∈ vx_atS own ic cls names, w.before args s' = true := fun w hw => vx_ot_at hW0 hvm.symm (hgood w (List.mem_cons_of_mem _ (List.mem_cons_of_mem _ hw))) (hat w hw)
  have hk' : (Cond.classLink own ik cls).before args s' = true := vx_ot_at hW0 hvm.symm (hgood _ List.mem_cons_self) hk
  have hini' : (Cond.initialized cls).before args s' = true := vx_ot_at hW0 hvm.symm (hgood _ (List.mem_cons_of_mem _ List.mem_cons_self)) hini
  have hU' : vx_Zq Bundle.tN "UNASSIGNED_STACK" Bundle.steD A s' s'.heap := by rw [hhp]; exact vx_Zq.moved hW0.alike (hU.kept hS.2.1)
  have hN' : vx_Zq Bundle.tN "SUPPRESSED_SENTINEL" Bundle.listD A s' s'.heap := by rw [hhp]; exact vx_Zq.moved hW0.alike (hN.kept hS.2.1)
  have h : ∀ w ∈ Bundle.ownAtoms own ic cls names, w.before args s' = true := vx_own hat' (vx_isRefq hU'.1) (vx_isRefq hN'.1) hU'.2.word hN'.2.word
  have hown' : s'.vm.findClass own = some m.cls := by rw [hvm]; exact hown
  have hins : (Cond.instantiable cls 6).before args s' = true := h _ (by simp [Bundle.ownAtoms])
  obtain ⟨vm₁, cX, kX, hfX, hkX, -, -, X₁, st1⟩ := Y.newCold hexec (own := own) (C := cls) (index := ik) (n := 6) hown' hk' hins hini'
    (g := F0 m pc ls rest) rfl (by rw [hb]; exact d0) (Nat.le_refl _) (Nat.le_refl _)
  generalize hT1 : (T.setVm vm₁).pushCell { cls := cX, slots := kX.instanceTypes.map defaultValue, vm := .none } = T1 at X₁ st1
  have hcat : (Value.ref T.heap.size).category = 1 := rfl
  have hcellA : T1.heap[T.heap.size]? = some (freshCell cX kX) := by rw [← hT1]; exact State.heap_pushCell_size _ _
  have d3' : decode c.code (pc + 3) = .ok (.dup, 1) := by rw [hb]; exact d3
  have d4' : decode c.code (pc + 4) = .ok (.ldc is, 2) := by rw [hb]; exact d4
  have hstr' : vk_R own is text sa s' := vk_R.warm hW0 hstr
  obtain ⟨V, ce, L, Z, hL, hlt, hcl9, hvm9, st⟩ := vx_ctorMadeS X₁ hexec htr (own := own) (cls := cls) (names := names) (ic := ic) hown' hcls hnames h (fun x hx => nomatch hx) hfX hkX hcellA (by rw [hhp]; exact Nat.le_refl _) (msg := .ref sa) rfl
    (g := { method := m, pc := pc + 6, locals := ls, stack := .ref sa :: .ref T.heap.size :: .ref T.heap.size :: rest, locked := none }) rfl hsize (rest := rest) rfl
    (by rw [hb]; exact d6) hRframes (by simp only [List.map_cons, List.sum_cons, hcat]; omega)
  have Z0 := Stand.forget (locs := []) Z (fun y hy => by rw [hL y hy, hhp]; exact Nat.le_refl _)
  obtain ⟨f1, f2⟩ := vx_frame Z0.same
  rw [hhp] at f1 f2
  have hcid : ce.cls = D.1 ci := by
    rw [hcl9]
    have h1 := (hK.1 ci _ hc).2.1
    rw [hvm] at hfX
    exact Option.some.inj (hfX.symm.trans h1)
  have hh : (V.setCell T.heap.size ce).heap[T.heap.size]? = some ce := heapAt_setCell_self (s := V) ce hlt
  subst hA'
  have X5 := vx_back9 X Y Z0
  have X6 : Stand p l e R s m args below meth c (V.setCell T.heap.size ce) locs (cells + 1) (slots + 6) := { X5 with same := X5.same.mono (by omega) (by omega) }
  have hk9 : ∀ (k : Nat) (x : Nat × va_E), ws[k]? = some x → (V.setCell T.heap.size ce).heap[x.1]? = T.heap[x.1]? := fun k x hx => f2 x.1 ((hP k x hx).lt) (fun z hz => nomatch hz)
  obtain ⟨t, a1, b1⟩ := kk T.heap.size (V.setCell T.heap.size ce).heap ((hP.kept hk9).app (fun k x hx => by
      have hz : k < 1 := (List.getElem?_eq_some_iff.mp hx).1
      rw [show k = 0 by omega] at hx
      cases hx
      exact ⟨_, hc, ce, hh, hcid, hvm9, fun k hk => absurd hk (Nat.not_lt_zero k)⟩)) (hD.push hP rfl (hA _ hS.1)) ⟨Nat.le_trans hS.1 f1, fun q h1 h2 => (f2 q (Nat.lt_of_lt_of_le h1 hS.1) (fun z hz => nomatch hz)).trans (hS.2.1 q h1 h2), hS.2.2⟩ _ rfl X6
  refine ⟨t, st1 _ ?_, b1⟩
  show Steps p.tables e below (T1.setTop { method := m, pc := pc + 3, locals := ls, stack := .ref T.heap.size :: rest, locked := none }) _
  jvm_step X₁.here [X₁.here.top, hexec, d3', Value.category]
  exact X₁.ldcString hexec (own := own) (text := text) (index := is) (a := sa) hown' hstr'.1 hstr'.2
    (g := { method := m, pc := pc + 4, locals := ls, stack := .ref T.heap.size :: .ref T.heap.size :: rest, locked := none }) rfl d4' _ (st _ a1)
/-- 'new E()' that isn't thrown at once: the object goes on the stack -/
theorem vx_make0 {cc : ByteArray} {pc : Nat} (hexec : p.tables.exec = Jvm.exec) (hb : c.code = cc) (hl : l.stackTraces = false) {own cls : String} {names : List String} {ik ic ci : Nat} {A : Nat → Prop} {T0 : u_T}
    (hown : s.vm.findClass own = some m.cls) (hcls : Bundle.fit cls = true) (hnames : ∀ n ∈ names, Bundle.fit n = true)
    (hk : (Cond.classLink own ik cls).before args s = true) (hini : (Cond.initialized cls).before args s = true) (hat : ∀ w ∈ vx_at0 own ic cls names, w.before args s = true)
    (hgood : ∀ w ∈ Cond.classLink own ik cls :: Cond.initialized cls :: vx_at0 own ic cls names, vx_ot w = true)
    (hU : vx_Zq Bundle.tN "UNASSIGNED_STACK" Bundle.steD A s s.heap) (hN : vx_Zq Bundle.tN "SUPPRESSED_SENTINEL" Bundle.listD A s s.heap) (hS : va_S A s.heap H locs) (hsize : ls.size = c.maxLocals)
    (d0 : decode cc pc = .ok (.new ik, 3)) (d3 : decode cc (pc + 3) = .ok (.dup, 1)) (d4 : decode cc (pc + 4) = .ok (.invokespecial ic, 3))
    (hK : va_K D cl tys s) (hP : va_P D cl ws H) (hD : va_D A ws) (hA : ∀ q, s.heap.size ≤ q → A q) (hc : cl[ci]? = some (cls, T0, 0))
    (hRframes : names.length + 3 < R.frames) (hRlocals : (rest.map fun v => v.category).sum + (13 * (names.length + 1) + 42) ≤ R.locals) (hRcells : cells + 1 ≤ R.cells) (hRslots : slots + 6 ≤ R.slots)
    (kk : ∀ (q : Nat) (H1 : Heap), va_P D cl (ws ++ [(q, .inr (ci, []))]) H1 → va_D A (ws ++ [(q, .inr (ci, []))]) → va_S A s.heap H1 locs → W p l e R s m args below meth c H1 locs (cells + 1) (slots + 6) Q (F0 m (pc + 7) ls (.ref q :: rest))) :
    W p l e R s m args below meth c H locs cells slots Q (F0 m pc ls rest) := by
  intro T hT X
  subst hT
  have htr : e.platform.stackTraces = false := (show e.platform.stackTraces = l.stackTraces by rw [X.admits.platform]).trans hl
  have Y := vx_rebase X (R' := { frames := R.frames, locals := R.locals, cells := 1, slots := 6 }) (Nat.le_refl _) (Nat.le_refl _) hRcells hRslots
  obtain ⟨s', hA'⟩ : ∃ z, z = (T.setVm s.vm).setFrames (.invoking m args :: below) := ⟨_, rfl⟩
  rw [← hA'] at Y
  have hvm : s'.vm = s.vm := by rw [hA']; rfl
  have hhp : s'.heap = T.heap := by rw [hA']; rfl
  have hW0 : s.WarmedH s'.vm := by rw [hvm]; exact State.WarmedH.refl s
  have hat' : ∀ w ∈ vx_at0 own ic cls names, w.before args s' = true := fun w hw => vx_ot_at hW0 hvm.symm (hgood w (List.mem_cons_of_mem _ (List.mem_cons_of_mem _ hw))) (hat w hw)
  have hk' : (Cond.classLink own ik cls).before args s' = true := vx_ot_at hW0 hvm.symm (hgood _ List.mem_cons_self) hk
  have hini' : (Cond.initialized cls).before args s' = true := vx_ot_at hW0 hvm.symm (hgood _ (List.mem_cons_of_mem _ List.mem_cons_self)) hini
  have hU' : vx_Zq Bundle.tN "UNASSIGNED_STACK" Bundle.steD A s' s'.heap := by rw [hhp]; exact vx_Zq.moved hW0.alike (hU.kept hS.2.1)
  have hN' : vx_Zq Bundle.tN "SUPPRESSED_SENTINEL" Bundle.listD A s' s'.heap := by rw [hhp]; exact vx_Zq.moved hW0.alike (hN.kept hS.2.1)
  have h : ∀ w ∈ Bundle.ownAtoms0 own ic cls names, w.before args s' = true := vx_own hat' (vx_isRefq hU'.1) (vx_isRefq hN'.1) hU'.2.word hN'.2.word
  have hown' : s'.vm.findClass own = some m.cls := by rw [hvm]; exact hown
  have hins : (Cond.instantiable cls 6).before args s' = true := h _ (by simp [Bundle.ownAtoms0])
  obtain ⟨vm₁, cX, kX, hfX, hkX, -, -, X₁, st1⟩ := Y.newCold hexec (own := own) (C := cls) (index := ik) (n := 6) hown' hk' hins hini'
    (g := F0 m pc ls rest) rfl (by rw [hb]; exact d0) (Nat.le_refl _) (Nat.le_refl _)
  generalize hT1 : (T.setVm vm₁).pushCell { cls := cX, slots := kX.instanceTypes.map defaultValue, vm := .none } = T1 at X₁ st1
  have hcat : (Value.ref T.heap.size).category = 1 := rfl
  have hcellA : T1.heap[T.heap.size]? = some (freshCell cX kX) := by rw [← hT1]; exact State.heap_pushCell_size _ _
  have d3' : decode c.code (pc + 3) = .ok (.dup, 1) := by rw [hb]; exact d3
  obtain ⟨V, ce, L, Z, hL, hlt, hcl9, hvm9, st⟩ := vx_ctorMade0 X₁ hexec htr (own := own) (cls := cls) (names := names) (ic := ic) hown' hcls hnames h (fun x hx => nomatch hx) hfX hkX hcellA (by rw [hhp]; exact Nat.le_refl _)
    (g := { method := m, pc := pc + 4, locals := ls, stack := .ref T.heap.size :: .ref T.heap.size :: rest, locked := none }) rfl hsize (rest := rest) rfl
    (by rw [hb]; exact d4) hRframes (by simp only [List.map_cons, List.sum_cons, hcat]; omega)
  have Z0 := Stand.forget (locs := []) Z (fun y hy => by rw [hL y hy, hhp]; exact Nat.le_refl _)
  obtain ⟨f1, f2⟩ := vx_frame Z0.same
  rw [hhp] at f1 f2
  have hcid : ce.cls = D.1 ci := by
    rw [hcl9]
    have h1 := (hK.1 ci _ hc).2.1
    rw [hvm] at hfX
    exact Option.some.inj (hfX.symm.trans h1)
  have hh : (V.setCell T.heap.size ce).heap[T.heap.size]? = some ce := heapAt_setCell_self (s := V) ce hlt
  subst hA'
  have X5 := vx_back9 X Y Z0
  have X6 : Stand p l e R s m args below meth c (V.setCell T.heap.size ce) locs (cells + 1) (slots + 6) := { X5 with same := X5.same.mono (by omega) (by omega) }
  have hk9 : ∀ (k : Nat) (x : Nat × va_E), ws[k]? = some x → (V.setCell T.heap.size ce).heap[x.1]? = T.heap[x.1]? := fun k x hx => f2 x.1 ((hP k x hx).lt) (fun z hz => nomatch hz)
  obtain ⟨t, a1, b1⟩ := kk T.heap.size (V.setCell T.heap.size ce).heap ((hP.kept hk9).app (fun k x hx => by
      have hz : k < 1 := (List.getElem?_eq_some_iff.mp hx).1
      rw [show k = 0 by omega] at hx
      cases hx
      exact ⟨_, hc, ce, hh, hcid, hvm9, fun k hk => absurd hk (Nat.not_lt_zero k)⟩)) (hD.push hP rfl (hA _ hS.1)) ⟨Nat.le_trans hS.1 f1, fun q h1 h2 => (f2 q (Nat.lt_of_lt_of_le h1 hS.1) (fun z hz => nomatch hz)).trans (hS.2.1 q h1 h2), hS.2.2⟩ _ rfl X6
  refine ⟨t, st1 _ ?_, b1⟩
  show Steps p.tables e below (T1.setTop { method := m, pc := pc + 3, locals := ls, stack := .ref T.heap.size :: rest, locked := none }) _
  jvm_step X₁.here [X₁.here.top, hexec, d3', Value.category]
  exact st _ a1
/-- 'throw x' of an object that was made before -/
theorem vx_athrow {cc : ByteArray} {pc : Nat} (hexec : p.tables.exec = Jvm.exec) (hb : c.code = cc) {q : Addr} (hdg : decode cc pc = .ok (.athrow, 1)) (k : vx_W p l e R s m args below meth c H locs cells slots Q (F0 m pc ls rest) q) : W p l e R s m args below meth c H locs cells slots Q (F0 m pc ls (.ref q :: rest)) := by
  intro T hT X
  obtain ⟨t, st, hq⟩ := k T hT X
  refine ⟨t, ?_, hq⟩
  have hdg' : decode c.code pc = .ok (.athrow, 1) := by rw [hb]; exact hdg
  jvm_step X.here [X.here.top, hexec, hdg', athrow.wp_sem]
  exact st
end VXK2
/-! ===== END ===== -/
/-! ===== BEGIN a constructor that throws (launches without stack traces) ===== -/
section VXIA
variable {p : Program} {l : Launch} {e : Env} {R : Room} {s : State} {m : MethodId} {args : Array Value} {below : List Frame} {meth : Method} {c : Code} {T : State} {locs : List Loc} {cells slots : Nat}
theorem vx_callI (X : Stand p l e R s m args below meth c T locs cells slots) (hexec : p.tables.exec = Jvm.exec) {own : String} {index : Nat} {y : MethodName} {bytes : ByteArray} {maxL : Nat}
    (hown : s.vm.findClass own = some m.cls) (hy1 : y.name = "<init>") (hlink : (Cond.methodLink own index y).before args s = true) (hinst : (Cond.instanceMethod y).before args s = true)
    (hcode : (Cond.code y bytes maxL none).before args s = true) (hy : y.cls ≠ "java/lang/invoke/MethodHandle" ∧ y.cls ≠ "java/lang/invoke/VarHandle")
    {W9 : Nat} {Pre : Pt → Array Value → Prop} {Post : Pt → Array Value → Option Value → Pt → Prop} {PostX : Pt → Array Value → Addr → Pt → Prop} (hK : vx_Back l R p e below s args y 3 W9 Pre Post PostX)
    {g : JFrame} (hg : g.method = m) (hsize : g.locals.size = c.maxLocals) {a : Addr} {argsL rest : List Value} (hlen : ∀ sig, parseMethodDescriptor y.desc = some sig → argsL.length = sig.parameters.length)
    (hstack : g.stack = argsL.reverse ++ .ref a :: rest) (hW : 2 * g.monitorRoom + (rest.map fun v => v.category).sum ≤ W9) (hdg : decode c.code g.pc = .ok (.invokespecial index, 3))
    (hpre : ∀ vm₁, s.WarmedH vm₁ → Pre ⟨T.setVm vm₁, locs, cells, slots⟩ (Value.ref a :: argsL).toArray) :
    (∃ (v : Option Value) (vm₁ : Vm) (B : Pt), s.WarmedH vm₁ ∧ Stand p l e R s m args below meth c B.U B.locs B.cells B.slots ∧ Post ⟨T.setVm vm₁, locs, cells, slots⟩ (Value.ref a :: argsL).toArray v B ∧
      ∀ target, Steps p.tables e below (B.U.setTop { g with pc := g.pc + 3, stack := v.toList ++ rest }) target → Steps p.tables e below (T.setTop g) target) ∨
    (∃ (q : Addr) (vm₁ : Vm) (B : Pt), s.WarmedH vm₁ ∧ Stand p l e R s m args below meth c B.U B.locs B.cells B.slots ∧ PostX ⟨T.setVm vm₁, locs, cells, slots⟩ (Value.ref a :: argsL).toArray q B ∧
      Steps p.tables e below (T.setTop g) ((B.U.setTop { g with stack := rest }).pushFrame (.throwing q))) := by
  subst hg
  have hpl : e.platform.magicAccessors = ({} : Platform).magicAccessors := by rw [X.admits.platform]
  obtain ⟨mk, methM, cM, kP, vm₁, hnamed, hmethM, hcodeM, -, hlocalsM, -, hkP, -, hW₁, hstep₁⟩ := Steps.initColdArgs (e := e) X.here hexec X.warmed hpl hown hy1 hy hlink hinst hcode (f := g) rfl hlen hstack hdg
  have X₁ := X.noted hW₁
  rcases hK g.method meth c ⟨T.setVm vm₁, locs, cells, slots⟩ { g with stack := rest } (.invokespecial index) mk (Value.ref a :: argsL).toArray X₁ rfl hsize hdg hW (X₁.named hnamed) (hpre vm₁ X₁.warmed) with ⟨v, B, X', hpost, hsteps⟩ | ⟨q, B, X', hpost, hsteps⟩
  · exact Or.inl ⟨v, vm₁, B, X₁.warmed, X', hpost, fun target h => hstep₁ _ fun acts => by rw [doInvoke_state]; exact hsteps.trans h⟩
  · exact Or.inr ⟨q, vm₁, B, X₁.warmed, X', hpost, hstep₁ _ fun acts => by rw [doInvoke_state]; exact hsteps⟩
end VXIA
section VXIB
variable {p : Program} {l : Launch} {e : Env} {R : Room} {s : State} {m : MethodId} {args : Array Value} {below : List Frame} {meth : Method} {c : Code} {H : Heap} {locs : List Loc} {cells slots : Nat}
variable {y : MethodName} {bytes cc : ByteArray} {maxL nL mc ms n index : Nat} {ret : Option FieldType} {ws : List Cond} {rm : Room} {Pc : Array Value → State → Prop} {Qc : Array Value → State → Outcome → State → Prop} {XC : String → State → State → Prop} {free : Addr → Prop} {Ts : List Cond} {own C : String} {b : Addr} {As rest : List Value} {g : JFrame}
theorem vx_runI (S : CallFix p m c cc nL s args Ts own) (hM : vx_Met l y ws rm Pc Qc XC mc ms free) (cw : CallB R s args own index y bytes maxL none ws rm mc ms n ∧ y.name = "<init>" ∧ (Cond.instanceMethod y).before args s = true) (hp : PreS s H Pc (.ref b :: As))
    (hg : g.method = m) (hn : As.length = n) (hsize : g.locals.size = nL) (hstack : g.stack = As.reverse ++ .ref b :: rest) (hW : 2 * g.monitorRoom + (rest.map fun v => v.category).sum ≤ 8) (hdg : decode cc g.pc = .ok (.invokespecial index, 3)) (hf : cells + mc ≤ R.cells ∧ slots + ms ≤ R.slots) :
    vx_Run p l e R s m args below meth c H locs cells slots mc ms g rest (Qc (Value.ref b :: As).toArray) XC free := by
  have hK : vx_Back l R p e below s args y 3 8 (PreOf R mc ms Pc) (PostOf Qc mc ms free) (vx_Post XC mc ms free) := vx_callBack cw.1 hM hp.1
  obtain ⟨⟨-, -, -, -, -, -, hcode, -, hy, hlen, hl⟩, hy1, hin⟩ := cw
  obtain ⟨hx, hb, hml, ho, -⟩ := S
  have hPc := hp.2
  intro T hT X
  rcases vx_callI X hx (bytes := bytes) (maxL := maxL) ho hy1 hl hin hcode hy hK hg (hsize.trans hml.symm) (a := b) (argsL := As) (rest := rest) (fun sig h => hn.trans (hlen sig h)) hstack hW (by rw [hb]; exact hdg)
    (fun vm₁ hW₁ => ⟨hf.1, hf.2, hPc (T.setVm vm₁) hT hW₁⟩) with ⟨v, vm₁, ⟨U', l2, c2, s2⟩, hW₁, X', ⟨g', mk, t, L, e1, e2, hq, h1, hL, h2, h3⟩, st⟩ | ⟨q, vm₁, ⟨U', l2, c2, s2⟩, hW₁, X', ⟨g', mk, t, L, E, ce, e1, e2, hq, hce, hcv, hcl, h1, hL, h2, h3⟩, st⟩
  · dsimp only [Pt.U, Pt.locs, Pt.cells, Pt.slots] at X' e1 e2 h1 h2 h3 st
    subst h1; subst h2; subst h3
    exact Or.inl ⟨v, (T.setVm vm₁).calling g' mk (Value.ref b :: As).toArray, t, U', L, hT, X', hL, e1, e2, hq, st⟩
  · dsimp only [Pt.U, Pt.locs, Pt.cells, Pt.slots] at X' e1 e2 h1 h2 h3 st hcl
    subst h1; subst h2; subst h3
    exact Or.inr ⟨q, (T.setVm vm₁).calling g' mk (Value.ref b :: As).toArray, t, U', L, E, ce, hT, X', hL, e1, e2, hq, hce, hcv, vx_cls hW₁ hcl, st⟩
end VXIB
/-! ===== END ===== -/
/-! ===== BEGIN a private constructor of a nest mate that throws ===== -/
section VXIC
variable {p : Program} {l : Launch} {e : Env} {R : Room} {s : State} {m : MethodId} {args : Array Value} {below : List Frame} {meth : Method} {c : Code} {T : State} {locs : List Loc} {cells slots : Nat}
theorem vx_callIN (X : Stand p l e R s m args below meth c T locs cells slots) (hexec : p.tables.exec = Jvm.exec) {own : String} {index : Nat} {host : String} {y : MethodName} {bytes : ByteArray} {maxL : Nat}
    (hown : s.vm.findClass own = some m.cls) (hy1 : y.name = "<init>") (hlink : (Cond.methodLinkNest own index y host).before args s = true) (hinst : (Cond.instanceMethod y).before args s = true)
    (hcode : (Cond.code y bytes maxL none).before args s = true) (hy : y.cls ≠ "java/lang/invoke/MethodHandle" ∧ y.cls ≠ "java/lang/invoke/VarHandle")
    {W9 : Nat} {Pre : Pt → Array Value → Prop} {Post : Pt → Array Value → Option Value → Pt → Prop} {PostX : Pt → Array Value → Addr → Pt → Prop} (hK : vx_Back l R p e below s args y 3 W9 Pre Post PostX)
    {g : JFrame} (hg : g.method = m) (hsize : g.locals.size = c.maxLocals) {a : Addr} {argsL rest : List Value} (hlen : ∀ sig, parseMethodDescriptor y.desc = some sig → argsL.length = sig.parameters.length)
    (hstack : g.stack = argsL.reverse ++ .ref a :: rest) (hW : 2 * g.monitorRoom + (rest.map fun v => v.category).sum ≤ W9) (hdg : decode c.code g.pc = .ok (.invokespecial index, 3))
    (hpre : ∀ vm₁, s.WarmedH vm₁ → Pre ⟨T.setVm vm₁, locs, cells, slots⟩ (Value.ref a :: argsL).toArray) :
    (∃ (v : Option Value) (vm₁ : Vm) (B : Pt), s.WarmedH vm₁ ∧ Stand p l e R s m args below meth c B.U B.locs B.cells B.slots ∧ Post ⟨T.setVm vm₁, locs, cells, slots⟩ (Value.ref a :: argsL).toArray v B ∧
      ∀ target, Steps p.tables e below (B.U.setTop { g with pc := g.pc + 3, stack := v.toList ++ rest }) target → Steps p.tables e below (T.setTop g) target) ∨
    (∃ (q : Addr) (vm₁ : Vm) (B : Pt), s.WarmedH vm₁ ∧ Stand p l e R s m args below meth c B.U B.locs B.cells B.slots ∧ PostX ⟨T.setVm vm₁, locs, cells, slots⟩ (Value.ref a :: argsL).toArray q B ∧
      Steps p.tables e below (T.setTop g) ((B.U.setTop { g with stack := rest }).pushFrame (.throwing q))) := by
  subst hg
  have hpl : e.platform.magicAccessors = ({} : Platform).magicAccessors := by rw [X.admits.platform]
  obtain ⟨mk, methM, cM, kP, vm₁, hnamed, hmethM, hcodeM, -, hlocalsM, -, hkP, -, hW₁, hstep₁⟩ := Steps.initColdArgsNest (e := e) X.here hexec X.warmed hpl hown hy1 hy hlink hinst hcode (f := g) rfl hlen hstack hdg
  have X₁ := X.noted hW₁
  rcases hK g.method meth c ⟨T.setVm vm₁, locs, cells, slots⟩ { g with stack := rest } (.invokespecial index) mk (Value.ref a :: argsL).toArray X₁ rfl hsize hdg hW (X₁.named hnamed) (hpre vm₁ X₁.warmed) with ⟨v, B, X', hpost, hsteps⟩ | ⟨q, B, X', hpost, hsteps⟩
  · exact Or.inl ⟨v, vm₁, B, X₁.warmed, X', hpost, fun target h => hstep₁ _ fun acts => by rw [doInvoke_state]; exact hsteps.trans h⟩
  · exact Or.inr ⟨q, vm₁, B, X₁.warmed, X', hpost, hstep₁ _ fun acts => by rw [doInvoke_state]; exact hsteps⟩
end VXIC
section VXID
variable {p : Program} {l : Launch} {e : Env} {R : Room} {s : State} {m : MethodId} {args : Array Value} {below : List Frame} {meth : Method} {c : Code} {H : Heap} {locs : List Loc} {cells slots : Nat}
theorem vx_runIN {y : MethodName} {bytes cc : ByteArray} {maxL nL mc ms n index : Nat} {ws : List Cond} {rm : Room} {Pc : Array Value → State → Prop} {Qc : Array Value → State → Outcome → State → Prop} {XC : String → State → State → Prop} {free : Addr → Prop} {Ts : List Cond} {own host : String} {b : Addr} {As rest : List Value} {g : JFrame}
    (S : CallFix p m c cc nL s args Ts own) (hM : vx_Met l y ws rm Pc Qc XC mc ms free) (cw : va_CN R s args own index y host bytes maxL none ws rm mc ms n ∧ y.name = "<init>" ∧ (Cond.instanceMethod y).before args s = true) (hp : PreS s H Pc (.ref b :: As))
    (hg : g.method = m) (hn : As.length = n) (hsize : g.locals.size = nL) (hstack : g.stack = As.reverse ++ .ref b :: rest) (hW : 2 * g.monitorRoom + (rest.map fun v => v.category).sum ≤ 8) (hdg : decode cc g.pc = .ok (.invokespecial index, 3)) (hf : cells + mc ≤ R.cells ∧ slots + ms ≤ R.slots) :
    vx_Run p l e R s m args below meth c H locs cells slots mc ms g rest (Qc (Value.ref b :: As).toArray) XC free := by
  obtain ⟨⟨⟨hrc, hrs, hfr, hlo, hws, hcw⟩, hcode, hini, hy, hlen, hl⟩, hx1, hx2⟩ := cw
  have hK : vx_Back l R p e below s args y 3 8 (PreOf R mc ms Pc) (PostOf Qc mc ms free) (vx_Post XC mc ms free) := vx_back (bytes := bytes) (maxL := maxL) (ret := none) hM hp.1 hrc hrs hfr hlo hws hcw (fun a' U hW => word_at hW (Or.inl (by first | rfl | simp [Cond.onTables, Cond.keeps, Cond.steady])) hini)
  obtain ⟨hx, hb, hml, ho, -⟩ := S
  have hPc := hp.2
  intro T hT X
  rcases vx_callIN X hx (bytes := bytes) (maxL := maxL) ho hx1 hl hx2 hcode hy hK hg (hsize.trans hml.symm) (a := b) (argsL := As) (rest := rest) (fun sig h => hn.trans (hlen sig h)) hstack hW (by rw [hb]; exact hdg)
    (fun vm₁ hW₁ => ⟨hf.1, hf.2, hPc (T.setVm vm₁) hT hW₁⟩) with ⟨v, vm₁, ⟨U', l2, c2, s2⟩, hW₁, X', ⟨g', mk, t, L, e1, e2, hq, h1, hL, h2, h3⟩, st⟩ | ⟨q, vm₁, ⟨U', l2, c2, s2⟩, hW₁, X', ⟨g', mk, t, L, E, ce, e1, e2, hq, hce, hcv, hcl, h1, hL, h2, h3⟩, st⟩
  · dsimp only [Pt.U, Pt.locs, Pt.cells, Pt.slots] at X' e1 e2 h1 h2 h3 st
    subst h1; subst h2; subst h3
    exact Or.inl ⟨v, (T.setVm vm₁).calling g' mk (Value.ref b :: As).toArray, t, U', L, hT, X', hL, e1, e2, hq, st⟩
  · dsimp only [Pt.U, Pt.locs, Pt.cells, Pt.slots] at X' e1 e2 h1 h2 h3 st hcl
    subst h1; subst h2; subst h3
    exact Or.inr ⟨q, (T.setVm vm₁).calling g' mk (Value.ref b :: As).toArray, t, U', L, E, ce, hT, X', hL, e1, e2, hq, hce, hcv, vx_cls hW₁ hcl, st⟩
end VXID
/-! ===== END ===== -/
/-! ===== BEGIN a method of a class above, found by the receiver, that may throw (follows va_callVU, va_runU of this kit) ===== -/
section
variable {p : Program} {l : Launch} {e : Env} {R : Room} {s : State} {m : MethodId} {args : Array Value} {below : List Frame} {meth : Method} {c : Code} {H : Heap} {locs : List Loc} {cells slots : Nat}
theorem vx_callVU {T : State} {locs : List Loc} {cells slots : Nat} (X : Stand p l e R s m args below meth c T locs cells slots) (hexec : p.tables.exec = Jvm.exec) {own C owner : String} {index : Nat} {x y : MethodName} {bytes : ByteArray} {maxL : Nat} {ret : Option FieldType}
    (hown : s.vm.findClass own = some m.cls) (hlink : (Cond.methodLink own index x).before args s = true) (hsame : (Cond.sameMethod x.cls owner x.name x.desc).before args s = true)
    (hd0 : va_Decl s ⟨owner, x.name, x.desc⟩) (howner : owner ≠ "java/lang/invoke/MethodHandle" ∧ owner ≠ "java/lang/invoke/VarHandle")
    (hsel : (Cond.selects C x y).before args s = true) (hinst : (Cond.instanceMethod y).before args s = true) (hcode : (Cond.code y bytes maxL ret).before args s = true)
    {W : Nat} {Pre : Pt → Array Value → Prop} {Post : Pt → Array Value → Option Value → Pt → Prop} {PostX : Pt → Array Value → Addr → Pt → Prop} (hK : vx_Back l R p e below s args y 3 W Pre Post PostX)
    {b : Addr} {cellB : Cell} (hcell : T.heap[b]? = some cellB) (hobj : cellB.vm.isStatics = false) (hcls : s.vm.findClass C = some cellB.cls)
    {g : JFrame} (hg : g.method = m) (hsize : g.locals.size = c.maxLocals) {argsL rest : List Value} (hlen : ∀ sig, parseMethodDescriptor x.desc = some sig → argsL.length = sig.parameters.length)
    (hstack : g.stack = argsL.reverse ++ .ref b :: rest) (hW : 2 * g.monitorRoom + (rest.map fun v => v.category).sum ≤ W) (hdg : decode c.code g.pc = .ok (.invokevirtual index, 3))
    (hpre : ∀ vm₁, s.WarmedH vm₁ → Pre ⟨T.setVm vm₁, locs, cells, slots⟩ (Value.ref b :: argsL).toArray) :
    (∃ (v : Option Value) (vm₁ : Vm) (B : Pt), s.WarmedH vm₁ ∧ Stand p l e R s m args below meth c B.U B.locs B.cells B.slots ∧ Post ⟨T.setVm vm₁, locs, cells, slots⟩ (Value.ref b :: argsL).toArray v B ∧
      ∀ target, Steps p.tables e below (B.U.setTop { g with pc := g.pc + 3, stack := v.toList ++ rest }) target → Steps p.tables e below (T.setTop g) target) ∨
    (∃ (q : Addr) (vm₁ : Vm) (B : Pt), s.WarmedH vm₁ ∧ Stand p l e R s m args below meth c B.U B.locs B.cells B.slots ∧ PostX ⟨T.setVm vm₁, locs, cells, slots⟩ (Value.ref b :: argsL).toArray q B ∧
      Steps p.tables e below (T.setTop g) ((B.U.setTop { g with stack := rest }).pushFrame (.throwing q))) := by
  obtain ⟨r0, r, hn, hrm, hstR, hsigR⟩ := hd0
  obtain ⟨cn, ck, r1, hcn, hck, hni, hf, hn1⟩ := Cond.sameMethod_found hsame
  cases hn.symm.trans hn1
  obtain ⟨mk, methM, hnamed, hmethM, -, habM⟩ := Cond.instanceMethod_spec hinst
  obtain ⟨c2, r2, m2, q1, q2, q3, q4, kP, hkP, hkPi⟩ := Cond.selects_spec hsel
  cases hcls.symm.trans q1
  cases hf.symm.trans q2
  cases hnamed.symm.trans q3
  have hselP : selectMethod e.platform s.vm cellB.cls r0 = .method mk := by rw [Launch.admits_selectMethod X.admits]; exact q4
  obtain ⟨vm₁, X₁, hstep₁⟩ := X.invokevirtualUp hexec hown hlink hsame howner hn hrm hstR (a := b) (cell := cellB) hcell
    (fun z h => by rw [h] at hobj; cases hobj) hselP hmethM habM hkP hkPi (g := g) hg (argsL := argsL) (rest := rest) (hlen _ hsigR) hstack hdg
  rcases hK m meth c ⟨T.setVm vm₁, locs, cells, slots⟩ { g with stack := rest } (.invokevirtual index) mk (Value.ref b :: argsL).toArray X₁ hg hsize hdg hW (X₁.named hnamed) (hpre vm₁ X₁.warmed) with ⟨v, B, X', hpost, hsteps⟩ | ⟨q, B, X', hpost, hsteps⟩
  · exact Or.inl ⟨v, vm₁, B, X₁.warmed, X', hpost, fun target h => hstep₁ _ fun acts => by rw [doInvoke_state]; exact hsteps.trans h⟩
  · exact Or.inr ⟨q, vm₁, B, X₁.warmed, X', hpost, hstep₁ _ fun acts => by rw [doInvoke_state]; exact hsteps⟩
theorem vx_runU {x y : MethodName} {bytes cc : ByteArray} {maxL nL mc ms n index : Nat} {ret : Option FieldType} {ws : List Cond} {rm : Room} {Pc : Array Value → State → Prop} {Qc : Array Value → State → Outcome → State → Prop} {XC : String → State → State → Prop} {free : Addr → Prop} {Ts : List Cond} {own C owner : String} {b : Addr} {As rest : List Value} {g : JFrame}
    (S : CallFix p m c cc nL s args Ts own) (hM : vx_Met l y ws rm Pc Qc XC mc ms free) (cw : va_CU R s args own C owner index x y bytes maxL ret ws rm mc ms n) (hp : PreV s H C b Pc As)
    (hg : g.method = m) (hn : As.length = n) (hsize : g.locals.size = nL) (hstack : g.stack = As.reverse ++ .ref b :: rest) (hW : 2 * g.monitorRoom + (rest.map fun v => v.category).sum ≤ 8) (hdg : decode cc g.pc = .ok (.invokevirtual index, 3)) (hf : cells + mc ≤ R.cells ∧ slots + ms ≤ R.slots) :
    vx_Run p l e R s m args below meth c H locs cells slots mc ms g rest (Qc (Value.ref b :: As).toArray) XC free := by
  obtain ⟨hrc, hrs, hfr, hlo, hws, hcw⟩ := cw.back
  have hini := cw.init
  have hK : vx_Back l R p e below s args y 3 8 (PreOf R mc ms Pc) (PostOf Qc mc ms free) (vx_Post XC mc ms free) := vx_back (bytes := bytes) (maxL := maxL) (ret := ret) hM hp.1 hrc hrs hfr hlo hws hcw (fun a' U hW => word_at hW (Or.inl (by first | rfl | simp [Cond.onTables, Cond.keeps, Cond.steady])) hini)
  obtain ⟨hx, hb, hml, ho, -⟩ := S
  obtain ⟨-, ⟨cellB, hcB, hoB, hclB⟩, hPc⟩ := hp
  intro T hT X
  rcases vx_callVU X hx (C := C) (owner := owner) (bytes := bytes) (maxL := maxL) (ret := ret) ho cw.link cw.same cw.decl cw.notMH cw.sel cw.inst cw.code hK (by rw [hT]; exact hcB) hoB hclB hg (hsize.trans hml.symm) (argsL := As) (rest := rest) (fun sig h => hn.trans (cw.len sig h)) hstack hW (by rw [hb]; exact hdg)
    (fun vm₁ hW₁ => ⟨hf.1, hf.2, hPc (T.setVm vm₁) hT hW₁⟩) with ⟨v, vm₁, ⟨U', l2, c2, s2⟩, hW₁, X', ⟨g', mk, t, L, e1, e2, hq, h1, hL, h2, h3⟩, st⟩ | ⟨q, vm₁, ⟨U', l2, c2, s2⟩, hW₁, X', ⟨g', mk, t, L, E, ce, e1, e2, hq, hce, hcv, hcl, h1, hL, h2, h3⟩, st⟩
  · dsimp only [Pt.U, Pt.locs, Pt.cells, Pt.slots] at X' e1 e2 h1 h2 h3 st
    subst h1; subst h2; subst h3
    exact Or.inl ⟨v, (T.setVm vm₁).calling g' mk (Value.ref b :: As).toArray, t, U', L, hT, X', hL, e1, e2, hq, st⟩
  · dsimp only [Pt.U, Pt.locs, Pt.cells, Pt.slots] at X' e1 e2 h1 h2 h3 st hcl
    subst h1; subst h2; subst h3
    exact Or.inr ⟨q, (T.setVm vm₁).calling g' mk (Value.ref b :: As).toArray, t, U', L, E, ce, hT, X', hL, e1, e2, hq, hce, hcv, vx_cls hW₁ hcl, st⟩
end
/-! ===== END ===== -/
/-! ===== BEGIN super.m(..) that may throw (follows va_callSU, va_runSU) ===== -/
section
variable {p : Program} {l : Launch} {e : Env} {R : Room} {s : State} {m : MethodId} {args : Array Value} {below : List Frame} {meth : Method} {c : Code} {H : Heap} {locs : List Loc} {cells slots : Nat}
theorem vx_callSU {T : State} {locs : List Loc} {cells slots : Nat} (X : Stand p l e R s m args below meth c T locs cells slots) (hexec : p.tables.exec = Jvm.exec) {own : String} {index : Nat} {y : MethodName} {bytes : ByteArray} {maxL : Nat} {ret : Option FieldType}
    (hown : s.vm.findClass own = some m.cls) (hlink : (Cond.methodLink own index y).before args s = true) (hsame : (Cond.sameMethod y.cls y.cls y.name y.desc).before args s = true) (hsup : (Cond.superclass own y.cls).before args s = true)
    (hinst : (Cond.instanceMethod y).before args s = true) (hcode : (Cond.code y bytes maxL ret).before args s = true) (hno : y.name ≠ "<init>")
    {W : Nat} {Pre : Pt → Array Value → Prop} {Post : Pt → Array Value → Option Value → Pt → Prop} {PostX : Pt → Array Value → Addr → Pt → Prop} (hK : vx_Back l R p e below s args y 3 W Pre Post PostX)
    {b : Addr} {cellB : Cell} {kB : Class} (hcell : T.heap[b]? = some cellB) (hobj : cellB.vm.isStatics = false) (hkB : s.vm.classes[cellB.cls]? = some kB)
    {g : JFrame} (hg : g.method = m) (hsize : g.locals.size = c.maxLocals) {argsL rest : List Value} (hlen : ∀ sig, parseMethodDescriptor y.desc = some sig → argsL.length = sig.parameters.length)
    (hstack : g.stack = argsL.reverse ++ .ref b :: rest) (hW : 2 * g.monitorRoom + (rest.map fun v => v.category).sum ≤ W) (hdg : decode c.code g.pc = .ok (.invokespecial index, 3))
    (hpre : ∀ vm₁, s.WarmedH vm₁ → Pre ⟨T.setVm vm₁, locs, cells, slots⟩ (Value.ref b :: argsL).toArray) :
    (∃ (v : Option Value) (vm₁ : Vm) (B : Pt), s.WarmedH vm₁ ∧ Stand p l e R s m args below meth c B.U B.locs B.cells B.slots ∧ Post ⟨T.setVm vm₁, locs, cells, slots⟩ (Value.ref b :: argsL).toArray v B ∧
      ∀ target, Steps p.tables e below (B.U.setTop { g with pc := g.pc + 3, stack := v.toList ++ rest }) target → Steps p.tables e below (T.setTop g) target) ∨
    (∃ (q : Addr) (vm₁ : Vm) (B : Pt), s.WarmedH vm₁ ∧ Stand p l e R s m args below meth c B.U B.locs B.cells B.slots ∧ PostX ⟨T.setVm vm₁, locs, cells, slots⟩ (Value.ref b :: argsL).toArray q B ∧
      Steps p.tables e below (T.setTop g) ((B.U.setTop { g with stack := rest }).pushFrame (.throwing q))) := by
  obtain ⟨mk, methM, hnamed, hmethM, hstM, habM⟩ := Cond.instanceMethod_spec hinst
  obtain ⟨methM', cM, hmethM', -, -, -, -, -, -, hsigM⟩ := Cond.code_spec hnamed hcode
  cases hmethM.symm.trans hmethM'
  obtain ⟨ps, dk, kp, hps, hdk, hkp, hsuper, -, -, hnid⟩ := Cond.superclass_spec hown hsup
  have hn : s.methodNamed? ⟨y.cls, y.name, y.desc⟩ = some mk := hnamed
  have hpm : ps = mk.cls := Option.some.inj (hps.symm.trans (findClass_of_methodNamed hnamed))
  have hsub : s.vm.isSubclass ps mk.cls = true := by rw [hpm]; simp [Vm.isSubclass, Vm.isSubclassAux]
  obtain ⟨vm₁, X₁, hstep₁⟩ := X.invokespecialUp hexec hown hlink hsame hn hmethM hstM habM hno hdk hnid hps hsuper hsub (a := b) (cell := cellB) hcell
    (fun z h => by rw [h] at hobj; cases hobj) hkB (g := g) hg (argsL := argsL) (rest := rest) (hlen _ hsigM) hstack hdg
  rcases hK m meth c ⟨T.setVm vm₁, locs, cells, slots⟩ { g with stack := rest } (.invokespecial index) mk (Value.ref b :: argsL).toArray X₁ hg hsize hdg hW (X₁.named hnamed) (hpre vm₁ X₁.warmed) with ⟨v, B, X', hpost, hsteps⟩ | ⟨q, B, X', hpost, hsteps⟩
  · exact Or.inl ⟨v, vm₁, B, X₁.warmed, X', hpost, fun target h => hstep₁ _ (by rw [doInvoke_state]; exact hsteps.trans h)⟩
  · exact Or.inr ⟨q, vm₁, B, X₁.warmed, X', hpost, hstep₁ _ (by rw [doInvoke_state]; exact hsteps)⟩
theorem vx_runSU {y : MethodName} {bytes cc : ByteArray} {maxL nL mc ms n index : Nat} {ret : Option FieldType} {ws : List Cond} {rm : Room} {Pc : Array Value → State → Prop} {Qc : Array Value → State → Outcome → State → Prop} {XC : String → State → State → Prop} {free : Addr → Prop} {Ts : List Cond} {own C : String} {cC : ClassId} {b : Addr} {As rest : List Value} {g : JFrame}
    (hat : ClassAt s C cC) (S : CallFix p m c cc nL s args Ts own) (hM : vx_Met l y ws rm Pc Qc XC mc ms free) (cw : va_CS R s args own index y bytes maxL ret ws rm mc ms n) (hp : PreV s H C b Pc As)
    (hg : g.method = m) (hn : As.length = n) (hsize : g.locals.size = nL) (hstack : g.stack = As.reverse ++ .ref b :: rest) (hW : 2 * g.monitorRoom + (rest.map fun v => v.category).sum ≤ 8) (hdg : decode cc g.pc = .ok (.invokespecial index, 3)) (hf : cells + mc ≤ R.cells ∧ slots + ms ≤ R.slots) :
    vx_Run p l e R s m args below meth c H locs cells slots mc ms g rest (Qc (Value.ref b :: As).toArray) XC free := by
  obtain ⟨⟨hrc, hrs, hfr, hlo, hws, hcw⟩, hl1, hl2, hl3, hl4, hini, hcode, hno, hlen⟩ := cw
  have hK : vx_Back l R p e below s args y 3 8 (PreOf R mc ms Pc) (PostOf Qc mc ms free) (vx_Post XC mc ms free) := vx_back (bytes := bytes) (maxL := maxL) (ret := ret) hM hp.1 hrc hrs hfr hlo hws hcw (fun a' U hW => word_at hW (Or.inl (by first | rfl | simp [Cond.onTables, Cond.keeps, Cond.steady])) hini)
  obtain ⟨hx, hb, hml, ho, -⟩ := S
  obtain ⟨-, ⟨cellB, hcB, hoB, hclB⟩, hPc⟩ := hp
  obtain ⟨hfc, kB, hkB, -⟩ := hat
  cases hfc.symm.trans hclB
  intro T hT X
  rcases vx_callSU X hx (bytes := bytes) (maxL := maxL) (ret := ret) ho hl1 hl2 hl3 hl4 hcode hno hK (by rw [hT]; exact hcB) hoB hkB hg (hsize.trans hml.symm) (argsL := As) (rest := rest) (fun sig h => hn.trans (hlen sig h)) hstack hW (by rw [hb]; exact hdg)
    (fun vm₁ hW₁ => ⟨hf.1, hf.2, hPc (T.setVm vm₁) hT hW₁⟩) with ⟨v, vm₁, ⟨U', l2, c2, s2⟩, hW₁, X', ⟨g', mk, t, L, e1, e2, hq, h1, hL, h2, h3⟩, st⟩ | ⟨q, vm₁, ⟨U', l2, c2, s2⟩, hW₁, X', ⟨g', mk, t, L, E, ce, e1, e2, hq, hce, hcv, hcl, h1, hL, h2, h3⟩, st⟩
  · dsimp only [Pt.U, Pt.locs, Pt.cells, Pt.slots] at X' e1 e2 h1 h2 h3 st
    subst h1; subst h2; subst h3
    exact Or.inl ⟨v, (T.setVm vm₁).calling g' mk (Value.ref b :: As).toArray, t, U', L, hT, X', hL, e1, e2, hq, st⟩
  · dsimp only [Pt.U, Pt.locs, Pt.cells, Pt.slots] at X' e1 e2 h1 h2 h3 st hcl
    subst h1; subst h2; subst h3
    exact Or.inr ⟨q, (T.setVm vm₁).calling g' mk (Value.ref b :: As).toArray, t, U', L, E, ce, hT, X', hL, e1, e2, hq, hce, hcv, vx_cls hW₁ hcl, st⟩
end
/-! ===== END ===== -/
/-! ===== BEGIN a private method of a nest mate that may throw (follows va_callVN, va_callSN, va_runVN, va_runSN) ===== -/
section
variable {p : Program} {l : Launch} {e : Env} {R : Room} {s : State} {m : MethodId} {args : Array Value} {below : List Frame} {meth : Method} {c : Code} {H : Heap} {locs : List Loc} {cells slots : Nat}
variable {T : State}
theorem vx_callVN (X : Stand p l e R s m args below meth c T locs cells slots) (hexec : p.tables.exec = Jvm.exec) {own C : String} {index : Nat} {host : String} {y : MethodName} {bytes : ByteArray} {maxL : Nat} {ret : Option FieldType}
    (hown : s.vm.findClass own = some m.cls) (hlink : (Cond.methodLinkNest own index y host).before args s = true) (hinst : (Cond.instanceMethod y).before args s = true) (hsel : (Cond.selects C y y).before args s = true)
    (hcode : (Cond.code y bytes maxL ret).before args s = true) (hy : y.cls ≠ "java/lang/invoke/MethodHandle" ∧ y.cls ≠ "java/lang/invoke/VarHandle")
    {W : Nat} {Pre : Pt → Array Value → Prop} {Post : Pt → Array Value → Option Value → Pt → Prop} {PostX : Pt → Array Value → Addr → Pt → Prop} (hK : vx_Back l R p e below s args y 3 W Pre Post PostX)
    {b : Addr} {cellB : Cell} (hcell : T.heap[b]? = some cellB) (hobj : cellB.vm.isStatics = false) (hcls : s.vm.findClass C = some cellB.cls)
    {g : JFrame} (hg : g.method = m) (hsize : g.locals.size = c.maxLocals) {argsL rest : List Value} (hlen : ∀ sig, parseMethodDescriptor y.desc = some sig → argsL.length = sig.parameters.length)
    (hstack : g.stack = argsL.reverse ++ .ref b :: rest) (hW : 2 * g.monitorRoom + (rest.map fun v => v.category).sum ≤ W) (hdg : decode c.code g.pc = .ok (.invokevirtual index, 3))
    (hpre : ∀ vm₁, s.WarmedH vm₁ → Pre ⟨T.setVm vm₁, locs, cells, slots⟩ (Value.ref b :: argsL).toArray) :
    (∃ (v : Option Value) (vm₁ : Vm) (B : Pt), s.WarmedH vm₁ ∧ Stand p l e R s m args below meth c B.U B.locs B.cells B.slots ∧ Post ⟨T.setVm vm₁, locs, cells, slots⟩ (Value.ref b :: argsL).toArray v B ∧
      ∀ target, Steps p.tables e below (B.U.setTop { g with pc := g.pc + 3, stack := v.toList ++ rest }) target → Steps p.tables e below (T.setTop g) target) ∨
    (∃ (q : Addr) (vm₁ : Vm) (B : Pt), s.WarmedH vm₁ ∧ Stand p l e R s m args below meth c B.U B.locs B.cells B.slots ∧ PostX ⟨T.setVm vm₁, locs, cells, slots⟩ (Value.ref b :: argsL).toArray q B ∧
      Steps p.tables e below (T.setTop g) ((B.U.setTop { g with stack := rest }).pushFrame (.throwing q))) := by
  obtain ⟨mk, methM, hnamed, hmethM, hstM, habM⟩ := Cond.instanceMethod_spec hinst
  obtain ⟨methM', cM, hmethM', -, -, -, -, -, -, hsigM⟩ := Cond.code_spec hnamed hcode
  cases hmethM.symm.trans hmethM'
  obtain ⟨c2, r2, m2, q1, q2, q3, q4, kP, hkP, hkPi⟩ := Cond.selects_spec hsel
  cases hcls.symm.trans q1
  cases (State.methodFound?_of_named hnamed hy).symm.trans q2
  cases hnamed.symm.trans q3
  have hselP : selectMethod e.platform s.vm cellB.cls mk = .method mk := by rw [Launch.admits_selectMethod X.admits]; exact q4
  obtain ⟨vm₁, X₁, hstep₁⟩ := X.invokevirtualNest hexec hown hlink hnamed hmethM hstM hkP hkPi hy (a := b) (cell := cellB) hcell
    (fun z h => by rw [h] at hobj; cases hobj) hselP hmethM habM hkP hkPi (g := g) hg (argsL := argsL) (rest := rest) (hlen _ hsigM) hstack hdg
  rcases hK m meth c ⟨T.setVm vm₁, locs, cells, slots⟩ { g with stack := rest } (.invokevirtual index) mk (Value.ref b :: argsL).toArray X₁ hg hsize hdg hW (X₁.named hnamed) (hpre vm₁ X₁.warmed) with ⟨v, B, X', hpost, hsteps⟩ | ⟨q, B, X', hpost, hsteps⟩
  · exact Or.inl ⟨v, vm₁, B, X₁.warmed, X', hpost, fun target h => hstep₁ _ fun acts => by rw [doInvoke_state]; exact hsteps.trans h⟩
  · exact Or.inr ⟨q, vm₁, B, X₁.warmed, X', hpost, hstep₁ _ fun acts => by rw [doInvoke_state]; exact hsteps⟩
theorem vx_callSN (X : Stand p l e R s m args below meth c T locs cells slots) (hexec : p.tables.exec = Jvm.exec) {own : String} {index : Nat} {host : String} {y : MethodName} {bytes : ByteArray} {maxL : Nat} {ret : Option FieldType}
    (hown : s.vm.findClass own = some m.cls) (hlink : (Cond.methodLinkNest own index y host).before args s = true) (hstat : (Cond.static y).before args s = true) (hinit : (Cond.initialized y.cls).before args s = true)
    (hcode : (Cond.code y bytes maxL ret).before args s = true) (hy : y.cls ≠ "java/lang/invoke/MethodHandle" ∧ y.cls ≠ "java/lang/invoke/VarHandle")
    {W : Nat} {Pre : Pt → Array Value → Prop} {Post : Pt → Array Value → Option Value → Pt → Prop} {PostX : Pt → Array Value → Addr → Pt → Prop} (hK : vx_Back l R p e below s args y 3 W Pre Post PostX)
    {g : JFrame} (hg : g.method = m) (hsize : g.locals.size = c.maxLocals) {argsL rest : List Value} (hlen : ∀ sig, parseMethodDescriptor y.desc = some sig → argsL.length = sig.parameters.length)
    (hstack : g.stack = argsL.reverse ++ rest) (hW : 2 * g.monitorRoom + (rest.map fun v => v.category).sum ≤ W) (hdg : decode c.code g.pc = .ok (.invokestatic index, 3))
    (hpre : ∀ vm₁, s.WarmedH vm₁ → Pre ⟨T.setVm vm₁, locs, cells, slots⟩ argsL.toArray) :
    (∃ (v : Option Value) (vm₁ : Vm) (B : Pt), s.WarmedH vm₁ ∧ Stand p l e R s m args below meth c B.U B.locs B.cells B.slots ∧ Post ⟨T.setVm vm₁, locs, cells, slots⟩ argsL.toArray v B ∧
      ∀ target, Steps p.tables e below (B.U.setTop { g with pc := g.pc + 3, stack := v.toList ++ rest }) target → Steps p.tables e below (T.setTop g) target) ∨
    (∃ (q : Addr) (vm₁ : Vm) (B : Pt), s.WarmedH vm₁ ∧ Stand p l e R s m args below meth c B.U B.locs B.cells B.slots ∧ PostX ⟨T.setVm vm₁, locs, cells, slots⟩ argsL.toArray q B ∧
      Steps p.tables e below (T.setTop g) ((B.U.setTop { g with stack := rest }).pushFrame (.throwing q))) := by
  obtain ⟨mk, hnamed⟩ := Cond.code_named hcode
  obtain ⟨methM, cM, hmethM, -, -, -, -, -, -, hsigM⟩ := Cond.code_spec hnamed hcode
  have hstatic : methM.isStatic = true := Cond.static_spec hnamed hmethM hstat
  obtain ⟨kP, hkP, -⟩ := className_of_methodNamed hnamed
  have hinitP : kP.init = .initialized := Cond.initialized_spec (findClass_of_methodNamed hnamed) hkP hinit
  obtain ⟨vm₁, X₁, hstep₁⟩ := X.invokestaticNest hexec hown hlink hnamed hmethM hstatic hkP hinitP hy (g := g) hg (argsL := argsL) (rest := rest) (hlen _ hsigM) hstack hdg
  rcases hK m meth c ⟨T.setVm vm₁, locs, cells, slots⟩ { g with stack := rest } (.invokestatic index) mk argsL.toArray X₁ hg hsize hdg hW (X₁.named hnamed) (hpre vm₁ X₁.warmed) with ⟨v, B, X', hpost, hsteps⟩ | ⟨q, B, X', hpost, hsteps⟩
  · exact Or.inl ⟨v, vm₁, B, X₁.warmed, X', hpost, fun target h => hstep₁ _ fun acts => by rw [doInvoke_state]; exact hsteps.trans h⟩
  · exact Or.inr ⟨q, vm₁, B, X₁.warmed, X', hpost, hstep₁ _ fun acts => by rw [doInvoke_state]; exact hsteps⟩
theorem vx_runVN {y : MethodName} {bytes cc : ByteArray} {maxL nL mc ms n index : Nat} {ret : Option FieldType} {ws : List Cond} {rm : Room} {Pc : Array Value → State → Prop} {Qc : Array Value → State → Outcome → State → Prop} {XC : String → State → State → Prop} {free : Addr → Prop} {Ts : List Cond} {own C host : String} {b : Addr} {As rest : List Value} {g : JFrame}
    (S : CallFix p m c cc nL s args Ts own) (hM : vx_Met l y ws rm Pc Qc XC mc ms free) (cw : va_CN R s args own index y host bytes maxL ret ws rm mc ms n ∧ (Cond.instanceMethod y).before args s = true ∧ (Cond.selects C y y).before args s = true) (hp : PreV s H C b Pc As)
    (hg : g.method = m) (hn : As.length = n) (hsize : g.locals.size = nL) (hstack : g.stack = As.reverse ++ .ref b :: rest) (hW : 2 * g.monitorRoom + (rest.map fun v => v.category).sum ≤ 8) (hdg : decode cc g.pc = .ok (.invokevirtual index, 3)) (hf : cells + mc ≤ R.cells ∧ slots + ms ≤ R.slots) :
    vx_Run p l e R s m args below meth c H locs cells slots mc ms g rest (Qc (Value.ref b :: As).toArray) XC free := by
  obtain ⟨⟨⟨hrc, hrs, hfr, hlo, hws, hcw⟩, hcode, hini, hy, hlen, hl⟩, hx1, hx2⟩ := cw
  have hK : vx_Back l R p e below s args y 3 8 (PreOf R mc ms Pc) (PostOf Qc mc ms free) (vx_Post XC mc ms free) := vx_back (bytes := bytes) (maxL := maxL) (ret := ret) hM hp.1 hrc hrs hfr hlo hws hcw (fun a' U hW => word_at hW (Or.inl (by first | rfl | simp [Cond.onTables, Cond.keeps, Cond.steady])) hini)
  obtain ⟨hx, hb, hml, ho, -⟩ := S
  obtain ⟨-, ⟨cellB, hcB, hoB, hclB⟩, hPc⟩ := hp
  intro T hT X
  rcases vx_callVN X hx (C := C) (bytes := bytes) (maxL := maxL) (ret := ret) ho hl hx1 hx2 hcode hy hK (by rw [hT]; exact hcB) hoB hclB hg (hsize.trans hml.symm) (argsL := As) (rest := rest) (fun sig h => hn.trans (hlen sig h)) hstack hW (by rw [hb]; exact hdg)
    (fun vm₁ hW₁ => ⟨hf.1, hf.2, hPc (T.setVm vm₁) hT hW₁⟩) with ⟨v, vm₁, ⟨U', l2, c2, s2⟩, hW₁, X', ⟨g', mk, t, L, e1, e2, hq, h1, hL, h2, h3⟩, st⟩ | ⟨q, vm₁, ⟨U', l2, c2, s2⟩, hW₁, X', ⟨g', mk, t, L, E, ce, e1, e2, hq, hce, hcv, hcl, h1, hL, h2, h3⟩, st⟩
  · dsimp only [Pt.U, Pt.locs, Pt.cells, Pt.slots] at X' e1 e2 h1 h2 h3 st
    subst h1; subst h2; subst h3
    exact Or.inl ⟨v, (T.setVm vm₁).calling g' mk (Value.ref b :: As).toArray, t, U', L, hT, X', hL, e1, e2, hq, st⟩
  · dsimp only [Pt.U, Pt.locs, Pt.cells, Pt.slots] at X' e1 e2 h1 h2 h3 st hcl
    subst h1; subst h2; subst h3
    exact Or.inr ⟨q, (T.setVm vm₁).calling g' mk (Value.ref b :: As).toArray, t, U', L, E, ce, hT, X', hL, e1, e2, hq, hce, hcv, vx_cls hW₁ hcl, st⟩
theorem vx_runSN {y : MethodName} {bytes cc : ByteArray} {maxL nL mc ms n index : Nat} {ret : Option FieldType} {ws : List Cond} {rm : Room} {Pc : Array Value → State → Prop} {Qc : Array Value → State → Outcome → State → Prop} {XC : String → State → State → Prop} {free : Addr → Prop} {Ts : List Cond} {own host : String} {As rest : List Value} {g : JFrame}
    (S : CallFix p m c cc nL s args Ts own) (hM : vx_Met l y ws rm Pc Qc XC mc ms free) (cw : va_CN R s args own index y host bytes maxL ret ws rm mc ms n ∧ (Cond.static y).before args s = true ∧ True) (hp : PreS s H Pc As)
    (hg : g.method = m) (hn : As.length = n) (hsize : g.locals.size = nL) (hstack : g.stack = As.reverse ++ rest) (hW : 2 * g.monitorRoom + (rest.map fun v => v.category).sum ≤ 8) (hdg : decode cc g.pc = .ok (.invokestatic index, 3)) (hf : cells + mc ≤ R.cells ∧ slots + ms ≤ R.slots) :
    vx_Run p l e R s m args below meth c H locs cells slots mc ms g rest (Qc As.toArray) XC free := by
  obtain ⟨⟨⟨hrc, hrs, hfr, hlo, hws, hcw⟩, hcode, hini, hy, hlen, hl⟩, hx1, hx2⟩ := cw
  have hK : vx_Back l R p e below s args y 3 8 (PreOf R mc ms Pc) (PostOf Qc mc ms free) (vx_Post XC mc ms free) := vx_back (bytes := bytes) (maxL := maxL) (ret := ret) hM hp.1 hrc hrs hfr hlo hws hcw (fun a' U hW => word_at hW (Or.inl (by first | rfl | simp [Cond.onTables, Cond.keeps, Cond.steady])) hini)
  obtain ⟨hx, hb, hml, ho, -⟩ := S
  have hPc := hp.2
  intro T hT X
  rcases vx_callSN X hx (bytes := bytes) (maxL := maxL) (ret := ret) ho hl hx1 hini hcode hy hK hg (hsize.trans hml.symm) (argsL := As) (rest := rest) (fun sig h => hn.trans (hlen sig h)) hstack hW (by rw [hb]; exact hdg)
    (fun vm₁ hW₁ => ⟨hf.1, hf.2, hPc (T.setVm vm₁) hT hW₁⟩) with ⟨v, vm₁, ⟨U', l2, c2, s2⟩, hW₁, X', ⟨g', mk, t, L, e1, e2, hq, h1, hL, h2, h3⟩, st⟩ | ⟨q, vm₁, ⟨U', l2, c2, s2⟩, hW₁, X', ⟨g', mk, t, L, E, ce, e1, e2, hq, hce, hcv, hcl, h1, hL, h2, h3⟩, st⟩
  · dsimp only [Pt.U, Pt.locs, Pt.cells, Pt.slots] at X' e1 e2 h1 h2 h3 st
    subst h1; subst h2; subst h3
    exact Or.inl ⟨v, (T.setVm vm₁).calling g' mk As.toArray, t, U', L, hT, X', hL, e1, e2, hq, st⟩
  · dsimp only [Pt.U, Pt.locs, Pt.cells, Pt.slots] at X' e1 e2 h1 h2 h3 st hcl
    subst h1; subst h2; subst h3
    exact Or.inr ⟨q, (T.setVm vm₁).calling g' mk As.toArray, t, U', L, E, ce, hT, X', hL, e1, e2, hq, hce, hcv, vx_cls hW₁ hcl, st⟩
end
/-! ===== END ===== -/
/-! ===== BEGIN calls by an interface of methods that may throw (vx_callIF, vx_runF follow va_callIF, va_runF of this kit) ===== -/
section
variable {p : Program} {l : Launch} {e : Env} {R : Room} {s : State} {m : MethodId} {args : Array Value} {below : List Frame} {meth : Method} {c : Code} {H : Heap} {locs : List Loc} {cells slots : Nat} {Q : State → Prop}
variable {mc ms : Nat} {free : Addr → Prop} {A0 A1 : Nat → Prop} {H0 : Heap} {a : Array Value} {pc : Nat} {ls : Array Slot} {st0 rest : List Value}
def vx_Run5 (p : Program) (l : Launch) (e : Env) (R : Room) (s : State) (m : MethodId) (args : Array Value) (below : List Frame) (meth : Method) (c : Code) (H : Heap) (locs : List Loc) (cells slots mc ms : Nat) (g : JFrame) (rest : List Value) (Qa : State → Outcome → State → Prop) (XC : String → State → State → Prop) (free : Addr → Prop) : Prop :=
  ∀ T : State, T.heap = H → Stand p l e R s m args below meth c T locs cells slots →
    (∃ (v : Option Value) (st₀ t T' : State) (L : List Loc), st₀.heap = H ∧ Stand p l e R s m args below meth c T' (locs ++ L) (cells + mc) (slots + ms) ∧ (∀ q ∈ L, free q.base) ∧ T'.heap = t.heap ∧ T'.vm = t.vm ∧ Qa st₀ (.returned v) t ∧
      Goes p e below T g T' { g with pc := g.pc + 5, stack := v.toList ++ rest }) ∨
    (∃ (q : Addr) (st₀ t T' : State) (L : List Loc) (E : String) (ce : Cell), st₀.heap = H ∧ Stand p l e R s m args below meth c T' (locs ++ L) (cells + mc) (slots + ms) ∧ (∀ z ∈ L, free z.base) ∧ T'.heap = t.heap ∧ T'.vm = t.vm ∧ XC E st₀ t ∧ t.heap[q]? = some ce ∧ ce.vm = .none ∧ s.vm.findClass E = some ce.cls ∧
      Steps p.tables e below (T.setTop g) ((T'.setTop { g with stack := rest }).pushFrame (.throwing q)))
theorem vx_callIF {T : State} (X : Stand p l e R s m args below meth c T locs cells slots) (hexec : p.tables.exec = Jvm.exec) {own C : String} {index count : Nat} {x y : MethodName} {bytes : ByteArray} {maxL : Nat} {ret : Option FieldType}
    (hown : s.vm.findClass own = some m.cls) (hlink : (Cond.methodLink own index x).before args s = true) (hdecl : (Cond.declares x).before args s = true) (hface : (Cond.interfaceMethod x.cls x.cls x.name x.desc).before args s = true)
    (hsel : (Cond.selects C x y).before args s = true) (hinst : (Cond.instanceMethod y).before args s = true) (hpub : (Cond.publicMethod y).before args s = true) (hunh : (Cond.unhidden C x.name x.desc).before args s = true)
    (hcast : (Cond.castable C x.cls).before args s = true) (hcode : (Cond.code y bytes maxL ret).before args s = true) (hx : x.cls ≠ "java/lang/invoke/MethodHandle" ∧ x.cls ≠ "java/lang/invoke/VarHandle")
    {W9 : Nat} {Pre : Pt → Array Value → Prop} {Post : Pt → Array Value → Option Value → Pt → Prop} {PostX : Pt → Array Value → Addr → Pt → Prop} (hK : vx_Back l R p e below s args y 5 W9 Pre Post PostX)
    {b : Addr} {cellB : Cell} {kB : Class} (hcell : T.heap[b]? = some cellB) (hobj : cellB.vm.isStatics = false) (hcls : s.vm.findClass C = some cellB.cls) (hkB : s.vm.classes[cellB.cls]? = some kB)
    {g : JFrame} (hg : g.method = m) (hsize : g.locals.size = c.maxLocals) {argsL rest : List Value} (hlen : ∀ sig, parseMethodDescriptor x.desc = some sig → argsL.length = sig.parameters.length)
    (hstack : g.stack = argsL.reverse ++ .ref b :: rest) (hW : 2 * g.monitorRoom + (rest.map fun v => v.category).sum ≤ W9) (hdg : decode c.code g.pc = .ok (.invokeinterface index count, 5))
    (hpre : ∀ vm₁, s.WarmedH vm₁ → Pre ⟨T.setVm vm₁, locs, cells, slots⟩ (Value.ref b :: argsL).toArray) :
    (∃ (v : Option Value) (vm₁ : Vm) (B : Pt), s.WarmedH vm₁ ∧ Stand p l e R s m args below meth c B.U B.locs B.cells B.slots ∧ Post ⟨T.setVm vm₁, locs, cells, slots⟩ (Value.ref b :: argsL).toArray v B ∧
      ∀ target, Steps p.tables e below (B.U.setTop { g with pc := g.pc + 5, stack := v.toList ++ rest }) target → Steps p.tables e below (T.setTop g) target) ∨
    (∃ (q : Addr) (vm₁ : Vm) (B : Pt), s.WarmedH vm₁ ∧ Stand p l e R s m args below meth c B.U B.locs B.cells B.slots ∧ PostX ⟨T.setVm vm₁, locs, cells, slots⟩ (Value.ref b :: argsL).toArray q B ∧
      Steps p.tables e below (T.setTop g) ((B.U.setTop { g with stack := rest }).pushFrame (.throwing q))) := by
  obtain ⟨r0, r, hn, hrm, hstR, hsigR⟩ := Cond.declares_spec hdecl
  obtain ⟨cL, kL, r1, hcL, hkL, hiL, hfoundL, hn1⟩ := Cond.interfaceMethod_spec hface
  cases hn.symm.trans hn1
  have hr0cls : r0.cls = cL := Option.some.inj ((findClass_of_methodNamed hn).symm.trans hcL)
  obtain ⟨hnameR, hdescR⟩ := name_of_methodNamed hn hrm
  obtain ⟨mk, methM, hnamed, hmethM, -, habM⟩ := Cond.instanceMethod_spec hinst
  obtain ⟨c2, r2, m2, q1, q2, q3, q4, -⟩ := Cond.selects_spec hsel
  cases hcls.symm.trans q1
  cases hfoundL.symm.trans q2
  cases hnamed.symm.trans q3
  have hselP : selectMethod e.platform s.vm cellB.cls r0 = .method mk := by rw [Launch.admits_selectMethod X.admits]; exact q4
  have hpubM : hasFlag methM.accessFlags Acc.public_ = true := Cond.publicMethod_spec hnamed hmethM hpub
  have hway : ((cellB.cls :: s.vm.superclasses cellB.cls).any fun k => (declaredIn s.vm r.name r.desc k).any fun (_, z) => z.isPrivate || z.isStatic) = false := by
    rw [hnameR, hdescR]; exact Cond.unhidden_spec hcls hunh
  obtain ⟨c3, t3, w1, w2, w3⟩ := Cond.castable_spec hcast
  cases hcls.symm.trans w1
  cases hcL.symm.trans w2
  obtain ⟨vm₁, X₁, hstep₁⟩ := X.invokeinterface hexec hown hlink hn hrm hstR (by rw [hr0cls]; exact hkL) hiL hx (a := b) (cell := cellB) (kcell := kB) hcell
    (fun z h => by rw [h] at hobj; cases hobj) hkB (by rw [hr0cls]; exact w3) hselP hmethM hway hpubM habM (g := g) hg (argsL := argsL) (rest := rest) (hlen _ hsigR) hstack hdg
  rcases hK m meth c ⟨T.setVm vm₁, locs, cells, slots⟩ { g with stack := rest } (.invokeinterface index count) mk (Value.ref b :: argsL).toArray X₁ hg hsize hdg hW (X₁.named hnamed) (hpre vm₁ X₁.warmed) with ⟨v, B, X', hpost, hsteps⟩ | ⟨q, B, X', hpost, hsteps⟩
  · exact Or.inl ⟨v, vm₁, B, X₁.warmed, X', hpost, fun target h => hstep₁ _ fun acts => by rw [doInvoke_state]; exact hsteps.trans h⟩
  · exact Or.inr ⟨q, vm₁, B, X₁.warmed, X', hpost, hstep₁ _ fun acts => by rw [doInvoke_state]; exact hsteps⟩
theorem vx_runF {x y : MethodName} {bytes cc : ByteArray} {maxL nL mc ms n index count : Nat} {ret : Option FieldType} {ws : List Cond} {rm : Room} {Pc : Array Value → State → Prop} {Qc : Array Value → State → Outcome → State → Prop} {XC : String → State → State → Prop} {free : Addr → Prop} {Ts : List Cond} {own C : String} {cC : ClassId} {b : Addr} {As rest : List Value} {g : JFrame}
    (hat : ClassAt s C cC) (S : CallFix p m c cc nL s args Ts own) (hM : vx_Met l y ws rm Pc Qc XC mc ms free) (cw : va_CI R s args own C index x y bytes maxL ret ws rm mc ms n) (hp : PreV s H C b Pc As)
    (hg : g.method = m) (hn : As.length = n) (hsize : g.locals.size = nL) (hstack : g.stack = As.reverse ++ .ref b :: rest) (hW : 2 * g.monitorRoom + (rest.map fun v => v.category).sum ≤ 8) (hdg : decode cc g.pc = .ok (.invokeinterface index count, 5)) (hf : cells + mc ≤ R.cells ∧ slots + ms ≤ R.slots) :
    vx_Run5 p l e R s m args below meth c H locs cells slots mc ms g rest (Qc (Value.ref b :: As).toArray) XC free := by
  obtain ⟨hrc, hrs, hfr, hlo, hws, hcw⟩ := cw.back
  have hini := cw.init
  have hK : vx_Back l R p e below s args y 5 8 (PreOf R mc ms Pc) (PostOf Qc mc ms free) (vx_Post XC mc ms free) := vx_back (bytes := bytes) (maxL := maxL) (ret := ret) hM hp.1 hrc hrs hfr hlo hws hcw (fun a' U hW => word_at hW (Or.inl (by first | rfl | simp [Cond.onTables, Cond.keeps, Cond.steady])) hini)
  obtain ⟨hx, hb, hml, ho, -⟩ := S
  obtain ⟨-, ⟨cellB, hcB, hoB, hclB⟩, hPc⟩ := hp
  obtain ⟨hfc, kB, hkB, -⟩ := hat
  cases hfc.symm.trans hclB
  intro T hT X
  rcases vx_callIF X hx (C := C) (bytes := bytes) (maxL := maxL) (ret := ret) ho cw.link cw.decl cw.face cw.sel cw.inst cw.pub cw.unh cw.cast cw.code cw.notMH hK (by rw [hT]; exact hcB) hoB hclB hkB hg (hsize.trans hml.symm) (argsL := As) (rest := rest) (fun sig h => hn.trans (cw.len sig h)) hstack hW (by rw [hb]; exact hdg)
    (fun vm₁ hW₁ => ⟨hf.1, hf.2, hPc (T.setVm vm₁) hT hW₁⟩) with ⟨v, vm₁, ⟨U', l2, c2, s2⟩, hW₁, X', ⟨g', mk, t, L, e1, e2, hq, h1, hL, h2, h3⟩, st⟩ | ⟨q, vm₁, ⟨U', l2, c2, s2⟩, hW₁, X', ⟨g', mk, t, L, E, ce, e1, e2, hq, hce, hcv, hcl, h1, hL, h2, h3⟩, st⟩
  · dsimp only [Pt.U, Pt.locs, Pt.cells, Pt.slots] at X' e1 e2 h1 h2 h3 st
    subst h1; subst h2; subst h3
    exact Or.inl ⟨v, (T.setVm vm₁).calling g' mk (Value.ref b :: As).toArray, t, U', L, hT, X', hL, e1, e2, hq, st⟩
  · dsimp only [Pt.U, Pt.locs, Pt.cells, Pt.slots] at X' e1 e2 h1 h2 h3 st hcl
    subst h1; subst h2; subst h3
    exact Or.inr ⟨q, (T.setVm vm₁).calling g' mk (Value.ref b :: As).toArray, t, U', L, E, ce, hT, X', hL, e1, e2, hq, hce, hcv, vx_cls hW₁ hcl, st⟩
theorem vx_callFv {S SX : Type} {post : S → Prop} {px : SX → Prop} {B : S → State → Prop} {BX : String → SX → State → Prop} {AX : Nat → Prop} (hr : vx_Run5 p l e R s m args below meth c H locs cells slots mc ms (F0 m pc ls st0) rest (va_Qv post B A1 a) (vx_X px BX AX) free) (hS : va_S A0 H0 H locs) (hA : ∀ q, q < H.size → A1 q → A0 q) (hf : ∀ q, free q → A0 q) (hAX : ∀ q, q < H.size → AX q → A0 q)
    (kx : ∀ (E : String) (ce : Cell) (q9 : Addr) (u : SX) (t : State) (H1 : Heap) (locs1 : List Loc), t.heap = H1 → s.vm.Alike t.vm → px u → BX E u t → H.size ≤ H1.size → (∀ q : Nat, q < H.size → ¬ AX q → H1[q]? = H[q]?) → va_S A0 H0 H1 locs1 → H1[q9]? = some ce → ce.vm = .none → s.vm.findClass E = some ce.cls → vx_W p l e R s m args below meth c H1 locs1 (cells + mc) (slots + ms) Q (F0 m pc ls rest) q9)
    (kk : ∀ (u : S) (t : State) (H1 : Heap) (locs1 : List Loc), t.heap = H1 → s.vm.Alike t.vm → post u → B u t → H.size ≤ H1.size → (∀ q : Nat, q < H.size → ¬ A1 q → H1[q]? = H[q]?) → va_S A0 H0 H1 locs1 → W p l e R s m args below meth c H1 locs1 (cells + mc) (slots + ms) Q (F0 m (pc + 5) ls (rest))) : W p l e R s m args below meth c H locs cells slots Q (F0 m pc ls st0) := by
  intro T hT X
  rcases hr T hT X with ⟨v, st₀, t, T', L, h0, X', hL, e1, e2, ⟨⟨u, hv, hp, hb⟩, hF⟩, st⟩ | ⟨q, st₀, t, T', L, E, ce, h0, X', hL, e1, e2, ⟨u, hp, hb, hF⟩, hce, hcv, hcl, st⟩
  · cases hv
    obtain ⟨k1, k2, k3⟩ := vx_keep h0 e1 hS hA hf hL hF
    obtain ⟨t2, a1, b1⟩ := kk u t T'.heap (locs ++ L) e1.symm (by rw [← e2]; exact X'.warmed.alike) hp hb k1 k2 k3 T' rfl X'
    exact ⟨t2, st t2 a1, b1⟩
  · obtain ⟨k1, k2, k3⟩ := vx_keep h0 e1 hS hAX hf hL hF
    obtain ⟨t2, a1, b1⟩ := kx E ce q u t T'.heap (locs ++ L) e1.symm (by rw [← e2]; exact X'.warmed.alike) hp hb k1 k2 k3 (by rw [e1]; exact hce) hcv hcl T' rfl X'
    exact ⟨t2, st.trans a1, b1⟩
theorem vx_callFi {S SX : Type} {post : Int32 → S → Prop} {px : SX → Prop} {B : S → State → Prop} {BX : String → SX → State → Prop} {AX : Nat → Prop} (hr : vx_Run5 p l e R s m args below meth c H locs cells slots mc ms (F0 m pc ls st0) rest (va_Qi post B A1 a) (vx_X px BX AX) free) (hS : va_S A0 H0 H locs) (hA : ∀ q, q < H.size → A1 q → A0 q) (hf : ∀ q, free q → A0 q) (hAX : ∀ q, q < H.size → AX q → A0 q)
    (kx : ∀ (E : String) (ce : Cell) (q9 : Addr) (u : SX) (t : State) (H1 : Heap) (locs1 : List Loc), t.heap = H1 → s.vm.Alike t.vm → px u → BX E u t → H.size ≤ H1.size → (∀ q : Nat, q < H.size → ¬ AX q → H1[q]? = H[q]?) → va_S A0 H0 H1 locs1 → H1[q9]? = some ce → ce.vm = .none → s.vm.findClass E = some ce.cls → vx_W p l e R s m args below meth c H1 locs1 (cells + mc) (slots + ms) Q (F0 m pc ls rest) q9)
    (kk : ∀ (r : Int32) (u : S) (t : State) (H1 : Heap) (locs1 : List Loc), t.heap = H1 → s.vm.Alike t.vm → post r u → B u t → H.size ≤ H1.size → (∀ q : Nat, q < H.size → ¬ A1 q → H1[q]? = H[q]?) → va_S A0 H0 H1 locs1 → W p l e R s m args below meth c H1 locs1 (cells + mc) (slots + ms) Q (F0 m (pc + 5) ls (.int r :: rest))) : W p l e R s m args below meth c H locs cells slots Q (F0 m pc ls st0) := by
  intro T hT X
  rcases hr T hT X with ⟨v, st₀, t, T', L, h0, X', hL, e1, e2, ⟨⟨r, u, hv, hp, hb⟩, hF⟩, st⟩ | ⟨q, st₀, t, T', L, E, ce, h0, X', hL, e1, e2, ⟨u, hp, hb, hF⟩, hce, hcv, hcl, st⟩
  · cases hv
    obtain ⟨k1, k2, k3⟩ := vx_keep h0 e1 hS hA hf hL hF
    obtain ⟨t2, a1, b1⟩ := kk r u t T'.heap (locs ++ L) e1.symm (by rw [← e2]; exact X'.warmed.alike) hp hb k1 k2 k3 T' rfl X'
    exact ⟨t2, st t2 a1, b1⟩
  · obtain ⟨k1, k2, k3⟩ := vx_keep h0 e1 hS hAX hf hL hF
    obtain ⟨t2, a1, b1⟩ := kx E ce q u t T'.heap (locs ++ L) e1.symm (by rw [← e2]; exact X'.warmed.alike) hp hb k1 k2 k3 (by rw [e1]; exact hce) hcv hcl T' rfl X'
    exact ⟨t2, st.trans a1, b1⟩
theorem vx_callFl {S SX : Type} {post : Int64 → S → Prop} {px : SX → Prop} {B : S → State → Prop} {BX : String → SX → State → Prop} {AX : Nat → Prop} (hr : vx_Run5 p l e R s m args below meth c H locs cells slots mc ms (F0 m pc ls st0) rest (va_Ql post B A1 a) (vx_X px BX AX) free) (hS : va_S A0 H0 H locs) (hA : ∀ q, q < H.size → A1 q → A0 q) (hf : ∀ q, free q → A0 q) (hAX : ∀ q, q < H.size → AX q → A0 q)
    (kx : ∀ (E : String) (ce : Cell) (q9 : Addr) (u : SX) (t : State) (H1 : Heap) (locs1 : List Loc), t.heap = H1 → s.vm.Alike t.vm → px u → BX E u t → H.size ≤ H1.size → (∀ q : Nat, q < H.size → ¬ AX q → H1[q]? = H[q]?) → va_S A0 H0 H1 locs1 → H1[q9]? = some ce → ce.vm = .none → s.vm.findClass E = some ce.cls → vx_W p l e R s m args below meth c H1 locs1 (cells + mc) (slots + ms) Q (F0 m pc ls rest) q9)
    (kk : ∀ (r : Int64) (u : S) (t : State) (H1 : Heap) (locs1 : List Loc), t.heap = H1 → s.vm.Alike t.vm → post r u → B u t → H.size ≤ H1.size → (∀ q : Nat, q < H.size → ¬ A1 q → H1[q]? = H[q]?) → va_S A0 H0 H1 locs1 → W p l e R s m args below meth c H1 locs1 (cells + mc) (slots + ms) Q (F0 m (pc + 5) ls (.long r :: rest))) : W p l e R s m args below meth c H locs cells slots Q (F0 m pc ls st0) := by
  intro T hT X
  rcases hr T hT X with ⟨v, st₀, t, T', L, h0, X', hL, e1, e2, ⟨⟨r, u, hv, hp, hb⟩, hF⟩, st⟩ | ⟨q, st₀, t, T', L, E, ce, h0, X', hL, e1, e2, ⟨u, hp, hb, hF⟩, hce, hcv, hcl, st⟩
  · cases hv
    obtain ⟨k1, k2, k3⟩ := vx_keep h0 e1 hS hA hf hL hF
    obtain ⟨t2, a1, b1⟩ := kk r u t T'.heap (locs ++ L) e1.symm (by rw [← e2]; exact X'.warmed.alike) hp hb k1 k2 k3 T' rfl X'
    exact ⟨t2, st t2 a1, b1⟩
  · obtain ⟨k1, k2, k3⟩ := vx_keep h0 e1 hS hAX hf hL hF
    obtain ⟨t2, a1, b1⟩ := kx E ce q u t T'.heap (locs ++ L) e1.symm (by rw [← e2]; exact X'.warmed.alike) hp hb k1 k2 k3 (by rw [e1]; exact hce) hcv hcl T' rfl X'
    exact ⟨t2, st.trans a1, b1⟩
theorem vx_callFf {S SX : Type} {post : UInt32 → S → Prop} {px : SX → Prop} {B : S → State → Prop} {BX : String → SX → State → Prop} {AX : Nat → Prop} (hr : vx_Run5 p l e R s m args below meth c H locs cells slots mc ms (F0 m pc ls st0) rest (va_Qf post B A1 a) (vx_X px BX AX) free) (hS : va_S A0 H0 H locs) (hA : ∀ q, q < H.size → A1 q → A0 q) (hf : ∀ q, free q → A0 q) (hAX : ∀ q, q < H.size → AX q → A0 q)
    (kx : ∀ (E : String) (ce : Cell) (q9 : Addr) (u : SX) (t : State) (H1 : Heap) (locs1 : List Loc), t.heap = H1 → s.vm.Alike t.vm → px u → BX E u t → H.size ≤ H1.size → (∀ q : Nat, q < H.size → ¬ AX q → H1[q]? = H[q]?) → va_S A0 H0 H1 locs1 → H1[q9]? = some ce → ce.vm = .none → s.vm.findClass E = some ce.cls → vx_W p l e R s m args below meth c H1 locs1 (cells + mc) (slots + ms) Q (F0 m pc ls rest) q9)
    (kk : ∀ (r : UInt32) (u : S) (t : State) (H1 : Heap) (locs1 : List Loc), t.heap = H1 → s.vm.Alike t.vm → post r u → B u t → H.size ≤ H1.size → (∀ q : Nat, q < H.size → ¬ A1 q → H1[q]? = H[q]?) → va_S A0 H0 H1 locs1 → W p l e R s m args below meth c H1 locs1 (cells + mc) (slots + ms) Q (F0 m (pc + 5) ls (.float r :: rest))) : W p l e R s m args below meth c H locs cells slots Q (F0 m pc ls st0) := by
  intro T hT X
  rcases hr T hT X with ⟨v, st₀, t, T', L, h0, X', hL, e1, e2, ⟨⟨r, u, hv, hp, hb⟩, hF⟩, st⟩ | ⟨q, st₀, t, T', L, E, ce, h0, X', hL, e1, e2, ⟨u, hp, hb, hF⟩, hce, hcv, hcl, st⟩
  · cases hv
    obtain ⟨k1, k2, k3⟩ := vx_keep h0 e1 hS hA hf hL hF
    obtain ⟨t2, a1, b1⟩ := kk r u t T'.heap (locs ++ L) e1.symm (by rw [← e2]; exact X'.warmed.alike) hp hb k1 k2 k3 T' rfl X'
    exact ⟨t2, st t2 a1, b1⟩
  · obtain ⟨k1, k2, k3⟩ := vx_keep h0 e1 hS hAX hf hL hF
    obtain ⟨t2, a1, b1⟩ := kx E ce q u t T'.heap (locs ++ L) e1.symm (by rw [← e2]; exact X'.warmed.alike) hp hb k1 k2 k3 (by rw [e1]; exact hce) hcv hcl T' rfl X'
    exact ⟨t2, st.trans a1, b1⟩
theorem vx_callFd {S SX : Type} {post : UInt64 → S → Prop} {px : SX → Prop} {B : S → State → Prop} {BX : String → SX → State → Prop} {AX : Nat → Prop} (hr : vx_Run5 p l e R s m args below meth c H locs cells slots mc ms (F0 m pc ls st0) rest (va_Qd post B A1 a) (vx_X px BX AX) free) (hS : va_S A0 H0 H locs) (hA : ∀ q, q < H.size → A1 q → A0 q) (hf : ∀ q, free q → A0 q) (hAX : ∀ q, q < H.size → AX q → A0 q)
    (kx : ∀ (E : String) (ce : Cell) (q9 : Addr) (u : SX) (t : State) (H1 : Heap) (locs1 : List Loc), t.heap = H1 → s.vm.Alike t.vm → px u → BX E u t → H.size ≤ H1.size → (∀ q : Nat, q < H.size → ¬ AX q → H1[q]? = H[q]?) → va_S A0 H0 H1 locs1 → H1[q9]? = some ce → ce.vm = .none → s.vm.findClass E = some ce.cls → vx_W p l e R s m args below meth c H1 locs1 (cells + mc) (slots + ms) Q (F0 m pc ls rest) q9)
    (kk : ∀ (r : UInt64) (u : S) (t : State) (H1 : Heap) (locs1 : List Loc), t.heap = H1 → s.vm.Alike t.vm → post r u → B u t → H.size ≤ H1.size → (∀ q : Nat, q < H.size → ¬ A1 q → H1[q]? = H[q]?) → va_S A0 H0 H1 locs1 → W p l e R s m args below meth c H1 locs1 (cells + mc) (slots + ms) Q (F0 m (pc + 5) ls (.double r :: rest))) : W p l e R s m args below meth c H locs cells slots Q (F0 m pc ls st0) := by
  intro T hT X
  rcases hr T hT X with ⟨v, st₀, t, T', L, h0, X', hL, e1, e2, ⟨⟨r, u, hv, hp, hb⟩, hF⟩, st⟩ | ⟨q, st₀, t, T', L, E, ce, h0, X', hL, e1, e2, ⟨u, hp, hb, hF⟩, hce, hcv, hcl, st⟩
  · cases hv
    obtain ⟨k1, k2, k3⟩ := vx_keep h0 e1 hS hA hf hL hF
    obtain ⟨t2, a1, b1⟩ := kk r u t T'.heap (locs ++ L) e1.symm (by rw [← e2]; exact X'.warmed.alike) hp hb k1 k2 k3 T' rfl X'
    exact ⟨t2, st t2 a1, b1⟩
  · obtain ⟨k1, k2, k3⟩ := vx_keep h0 e1 hS hAX hf hL hF
    obtain ⟨t2, a1, b1⟩ := kx E ce q u t T'.heap (locs ++ L) e1.symm (by rw [← e2]; exact X'.warmed.alike) hp hb k1 k2 k3 (by rw [e1]; exact hce) hcv hcl T' rfl X'
    exact ⟨t2, st.trans a1, b1⟩
end
/-! ===== END ===== -/
/-! ===== BEGIN by an interface, a method with a table of its own that may throw (follows va_callIFW, va_runFW) ===== -/
section
variable {p : Program} {l : Launch} {e : Env} {R : Room} {s : State} {m : MethodId} {args : Array Value} {below : List Frame} {meth : Method} {c : Code} {H : Heap} {locs : List Loc} {cells slots : Nat}
theorem vx_callIFW {T : State} (X : Stand p l e R s m args below meth c T locs cells slots) (hexec : p.tables.exec = Jvm.exec) {own C : String} {index count : Nat} {x y : MethodName} {bytes : ByteArray} {maxL : Nat} {ret : Option FieldType} {hh : List (Nat × Nat × Nat × Nat)}
    (hown : s.vm.findClass own = some m.cls) (hlink : (Cond.methodLink own index x).before args s = true) (hdecl : (Cond.declares x).before args s = true) (hface : (Cond.interfaceMethod x.cls x.cls x.name x.desc).before args s = true)
    (hsel : (Cond.selects C x y).before args s = true) (hinst : (Cond.instanceMethod y).before args s = true) (hpub : (Cond.publicMethod y).before args s = true) (hunh : (Cond.unhidden C x.name x.desc).before args s = true)
    (hcast : (Cond.castable C x.cls).before args s = true) (hcode : (Cond.codeWith y bytes maxL ret hh).before args s = true) (hx : x.cls ≠ "java/lang/invoke/MethodHandle" ∧ x.cls ≠ "java/lang/invoke/VarHandle")
    {W : Nat} {Pre : Pt → Array Value → Prop} {Post : Pt → Array Value → Option Value → Pt → Prop} {PostX : Pt → Array Value → Addr → Pt → Prop} (hK : vx_Back l R p e below s args y 5 W Pre Post PostX)
    {b : Addr} {cellB : Cell} {kB : Class} (hcell : T.heap[b]? = some cellB) (hobj : cellB.vm.isStatics = false) (hcls : s.vm.findClass C = some cellB.cls) (hkB : s.vm.classes[cellB.cls]? = some kB)
    {g : JFrame} (hg : g.method = m) (hsize : g.locals.size = c.maxLocals) {argsL rest : List Value} (hlen : ∀ sig, parseMethodDescriptor x.desc = some sig → argsL.length = sig.parameters.length)
    (hstack : g.stack = argsL.reverse ++ .ref b :: rest) (hW : 2 * g.monitorRoom + (rest.map fun v => v.category).sum ≤ W) (hdg : decode c.code g.pc = .ok (.invokeinterface index count, 5))
    (hpre : ∀ vm₁, s.WarmedH vm₁ → Pre ⟨T.setVm vm₁, locs, cells, slots⟩ (Value.ref b :: argsL).toArray) :
    (∃ (v : Option Value) (vm₁ : Vm) (B : Pt), s.WarmedH vm₁ ∧ Stand p l e R s m args below meth c B.U B.locs B.cells B.slots ∧ Post ⟨T.setVm vm₁, locs, cells, slots⟩ (Value.ref b :: argsL).toArray v B ∧
      ∀ target, Steps p.tables e below (B.U.setTop { g with pc := g.pc + 5, stack := v.toList ++ rest }) target → Steps p.tables e below (T.setTop g) target) ∨
    (∃ (q : Addr) (vm₁ : Vm) (B : Pt), s.WarmedH vm₁ ∧ Stand p l e R s m args below meth c B.U B.locs B.cells B.slots ∧ PostX ⟨T.setVm vm₁, locs, cells, slots⟩ (Value.ref b :: argsL).toArray q B ∧
      Steps p.tables e below (T.setTop g) ((B.U.setTop { g with stack := rest }).pushFrame (.throwing q))) := by
  obtain ⟨r0, r, hn, hrm, hstR, hsigR⟩ := Cond.declares_spec hdecl
  obtain ⟨cL, kL, r1, hcL, hkL, hiL, hfoundL, hn1⟩ := Cond.interfaceMethod_spec hface
  cases hn.symm.trans hn1
  have hr0cls : r0.cls = cL := Option.some.inj ((findClass_of_methodNamed hn).symm.trans hcL)
  obtain ⟨hnameR, hdescR⟩ := name_of_methodNamed hn hrm
  obtain ⟨mk, methM, hnamed, hmethM, -, habM⟩ := Cond.instanceMethod_spec hinst
  obtain ⟨c2, r2, m2, q1, q2, q3, q4, -⟩ := Cond.selects_spec hsel
  cases hcls.symm.trans q1
  cases hfoundL.symm.trans q2
  cases hnamed.symm.trans q3
  have hselP : selectMethod e.platform s.vm cellB.cls r0 = .method mk := by rw [Launch.admits_selectMethod X.admits]; exact q4
  have hpubM : hasFlag methM.accessFlags Acc.public_ = true := Cond.publicMethod_spec hnamed hmethM hpub
  have hway : ((cellB.cls :: s.vm.superclasses cellB.cls).any fun k => (declaredIn s.vm r.name r.desc k).any fun (_, z) => z.isPrivate || z.isStatic) = false := by
    rw [hnameR, hdescR]; exact Cond.unhidden_spec hcls hunh
  obtain ⟨c3, t3, w1, w2, w3⟩ := Cond.castable_spec hcast
  cases hcls.symm.trans w1
  cases hcL.symm.trans w2
  obtain ⟨vm₁, X₁, hstep₁⟩ := X.invokeinterface hexec hown hlink hn hrm hstR (by rw [hr0cls]; exact hkL) hiL hx (a := b) (cell := cellB) (kcell := kB) hcell
    (fun z h => by rw [h] at hobj; cases hobj) hkB (by rw [hr0cls]; exact w3) hselP hmethM hway hpubM habM (g := g) hg (argsL := argsL) (rest := rest) (hlen _ hsigR) hstack hdg
  rcases hK m meth c ⟨T.setVm vm₁, locs, cells, slots⟩ { g with stack := rest } (.invokeinterface index count) mk (Value.ref b :: argsL).toArray X₁ hg hsize hdg hW (X₁.named hnamed) (hpre vm₁ X₁.warmed) with ⟨v, B, X', hpost, hsteps⟩ | ⟨q, B, X', hpost, hsteps⟩
  · exact Or.inl ⟨v, vm₁, B, X₁.warmed, X', hpost, fun target h => hstep₁ _ fun acts => by rw [doInvoke_state]; exact hsteps.trans h⟩
  · exact Or.inr ⟨q, vm₁, B, X₁.warmed, X', hpost, hstep₁ _ fun acts => by rw [doInvoke_state]; exact hsteps⟩
theorem vx_runFW {x y : MethodName} {bytes cc : ByteArray} {maxL nL mc ms n index count : Nat} {ret : Option FieldType} {hh : List (Nat × Nat × Nat × Nat)} {ws : List Cond} {rm : Room} {Pc : Array Value → State → Prop} {Qc : Array Value → State → Outcome → State → Prop} {XC : String → State → State → Prop} {free : Addr → Prop} {Ts : List Cond} {own C : String} {cC : ClassId} {b : Addr} {As rest : List Value} {g : JFrame}
    (hat : ClassAt s C cC) (S : CallFix p m c cc nL s args Ts own) (hM : vx_Met l y ws rm Pc Qc XC mc ms free) (cw : va_CIW R s args own C index x y bytes maxL ret hh ws rm mc ms n) (hp : PreV s H C b Pc As)
    (hg : g.method = m) (hn : As.length = n) (hsize : g.locals.size = nL) (hstack : g.stack = As.reverse ++ .ref b :: rest) (hW : 2 * g.monitorRoom + (rest.map fun v => v.category).sum ≤ 8) (hdg : decode cc g.pc = .ok (.invokeinterface index count, 5)) (hf : cells + mc ≤ R.cells ∧ slots + ms ≤ R.slots) :
    vx_Run5 p l e R s m args below meth c H locs cells slots mc ms g rest (Qc (Value.ref b :: As).toArray) XC free := by
  obtain ⟨hrc, hrs, hfr, hlo, hws, hcw⟩ := cw.back
  have hini := cw.init
  have hK : vx_Back l R p e below s args y 5 8 (PreOf R mc ms Pc) (PostOf Qc mc ms free) (vx_Post XC mc ms free) := vx_backW (hh := hh) (bytes := bytes) (maxL := maxL) (ret := ret) hM hp.1 hrc hrs hfr hlo hws hcw (fun a' U hW => word_at hW (Or.inl (by first | rfl | simp [Cond.onTables, Cond.keeps, Cond.steady])) hini)
  obtain ⟨hx, hb, hml, ho, -⟩ := S
  obtain ⟨-, ⟨cellB, hcB, hoB, hclB⟩, hPc⟩ := hp
  obtain ⟨hfc, kB, hkB, -⟩ := hat
  cases hfc.symm.trans hclB
  intro T hT X
  rcases vx_callIFW X hx (C := C) (hh := hh) (bytes := bytes) (maxL := maxL) (ret := ret) ho cw.link cw.decl cw.face cw.sel cw.inst cw.pub cw.unh cw.cast cw.code cw.notMH hK (by rw [hT]; exact hcB) hoB hclB hkB hg (hsize.trans hml.symm) (argsL := As) (rest := rest) (fun sig h => hn.trans (cw.len sig h)) hstack hW (by rw [hb]; exact hdg)
    (fun vm₁ hW₁ => ⟨hf.1, hf.2, hPc (T.setVm vm₁) hT hW₁⟩) with ⟨v, vm₁, ⟨U', l2, c2, s2⟩, hW₁, X', ⟨g', mk, t, L, e1, e2, hq, h1, hL, h2, h3⟩, st⟩ | ⟨q, vm₁, ⟨U', l2, c2, s2⟩, hW₁, X', ⟨g', mk, t, L, E, ce, e1, e2, hq, hce, hcv, hcl, h1, hL, h2, h3⟩, st⟩
  · dsimp only [Pt.U, Pt.locs, Pt.cells, Pt.slots] at X' e1 e2 h1 h2 h3 st
    subst h1; subst h2; subst h3
    exact Or.inl ⟨v, (T.setVm vm₁).calling g' mk (Value.ref b :: As).toArray, t, U', L, hT, X', hL, e1, e2, hq, st⟩
  · dsimp only [Pt.U, Pt.locs, Pt.cells, Pt.slots] at X' e1 e2 h1 h2 h3 st hcl
    subst h1; subst h2; subst h3
    exact Or.inr ⟨q, (T.setVm vm₁).calling g' mk (Value.ref b :: As).toArray, t, U', L, E, ce, hT, X', hL, e1, e2, hq, hce, hcv, vx_cls hW₁ hcl, st⟩
end
/-! ===== END ===== -/
/-! ===== BEGIN .. of methods that hand back an object of the pool ===== -/
section
variable {p : Program} {l : Launch} {e : Env} {R : Room} {s : State} {m : MethodId} {args : Array Value} {below : List Frame} {meth : Method} {c : Code} {H : Heap} {locs : List Loc} {cells slots : Nat} {Q : State → Prop}
variable {mc ms : Nat} {free : Addr → Prop} {A0 A1 : Nat → Prop} {H0 : Heap} {a : Array Value} {pc : Nat} {ls : Array Slot} {st0 rest : List Value}
theorem vx_callq {S SX : Type} {post : Option Nat → S → Prop} {px : SX → Prop} {B : S → State → Prop} {BX : String → SX → State → Prop} {AX : Nat → Prop} (hr : vx_Run p l e R s m args below meth c H locs cells slots mc ms (F0 m pc ls st0) rest (va_Qq post B A1 a) (vx_X px BX AX) free) (hS : va_S A0 H0 H locs) (hA : ∀ q, q < H.size → A1 q → A0 q) (hf : ∀ q, free q → A0 q) (hAX : ∀ q, q < H.size → AX q → A0 q)
    (kx : ∀ (E : String) (ce : Cell) (q9 : Addr) (u : SX) (t : State) (H1 : Heap) (locs1 : List Loc), t.heap = H1 → s.vm.Alike t.vm → px u → BX E u t → H.size ≤ H1.size → (∀ q : Nat, q < H.size → ¬ AX q → H1[q]? = H[q]?) → va_S A0 H0 H1 locs1 → H1[q9]? = some ce → ce.vm = .none → s.vm.findClass E = some ce.cls → vx_W p l e R s m args below meth c H1 locs1 (cells + mc) (slots + ms) Q (F0 m pc ls rest) q9)
    (kk : ∀ (r : Option Nat) (u : S) (t : State) (H1 : Heap) (locs1 : List Loc), t.heap = H1 → s.vm.Alike t.vm → post r u → B u t → H.size ≤ H1.size → (∀ q : Nat, q < H.size → ¬ A1 q → H1[q]? = H[q]?) → va_S A0 H0 H1 locs1 → W p l e R s m args below meth c H1 locs1 (cells + mc) (slots + ms) Q (F0 m (pc + 3) ls (va_rf r :: rest))) : W p l e R s m args below meth c H locs cells slots Q (F0 m pc ls st0) := by
  intro T hT X
  rcases hr T hT X with ⟨v, st₀, t, T', L, h0, X', hL, e1, e2, ⟨⟨r, u, hv, hp, hb⟩, hF⟩, st⟩ | ⟨q, st₀, t, T', L, E, ce, h0, X', hL, e1, e2, ⟨u, hp, hb, hF⟩, hce, hcv, hcl, st⟩
  · cases hv
    obtain ⟨k1, k2, k3⟩ := vx_keep h0 e1 hS hA hf hL hF
    obtain ⟨t2, a1, b1⟩ := kk r u t T'.heap (locs ++ L) e1.symm (by rw [← e2]; exact X'.warmed.alike) hp hb k1 k2 k3 T' rfl X'
    exact ⟨t2, st t2 a1, b1⟩
  · obtain ⟨k1, k2, k3⟩ := vx_keep h0 e1 hS hAX hf hL hF
    obtain ⟨t2, a1, b1⟩ := kx E ce q u t T'.heap (locs ++ L) e1.symm (by rw [← e2]; exact X'.warmed.alike) hp hb k1 k2 k3 (by rw [e1]; exact hce) hcv hcl T' rfl X'
    exact ⟨t2, st.trans a1, b1⟩
end
/-! ===== END ===== -/
/-! ===== BEGIN .. a constant ===== -/
section
variable {p : Program} {l : Launch} {e : Env} {R : Room} {s : State} {m : MethodId} {args : Array Value} {below : List Frame} {meth : Method} {c : Code} {H : Heap} {locs : List Loc} {cells slots : Nat} {Q : State → Prop}
variable {mc ms : Nat} {free : Addr → Prop} {A0 A1 : Nat → Prop} {H0 : Heap} {a : Array Value} {pc : Nat} {ls : Array Slot} {st0 rest : List Value}
theorem vx_calle {ad : Nat → Nat} {S SX : Type} {post : Option Nat → S → Prop} {px : SX → Prop} {B : S → State → Prop} {BX : String → SX → State → Prop} {AX : Nat → Prop} (hr : vx_Run p l e R s m args below meth c H locs cells slots mc ms (F0 m pc ls st0) rest (va_Qe ad post B A1 a) (vx_X px BX AX) free) (hS : va_S A0 H0 H locs) (hA : ∀ q, q < H.size → A1 q → A0 q) (hf : ∀ q, free q → A0 q) (hAX : ∀ q, q < H.size → AX q → A0 q)
    (kx : ∀ (E : String) (ce : Cell) (q9 : Addr) (u : SX) (t : State) (H1 : Heap) (locs1 : List Loc), t.heap = H1 → s.vm.Alike t.vm → px u → BX E u t → H.size ≤ H1.size → (∀ q : Nat, q < H.size → ¬ AX q → H1[q]? = H[q]?) → va_S A0 H0 H1 locs1 → H1[q9]? = some ce → ce.vm = .none → s.vm.findClass E = some ce.cls → vx_W p l e R s m args below meth c H1 locs1 (cells + mc) (slots + ms) Q (F0 m pc ls rest) q9)
    (kk : ∀ (r : Option Nat) (u : S) (t : State) (H1 : Heap) (locs1 : List Loc), t.heap = H1 → s.vm.Alike t.vm → post r u → B u t → H.size ≤ H1.size → (∀ q : Nat, q < H.size → ¬ A1 q → H1[q]? = H[q]?) → va_S A0 H0 H1 locs1 → W p l e R s m args below meth c H1 locs1 (cells + mc) (slots + ms) Q (F0 m (pc + 3) ls (va_re ad r :: rest))) : W p l e R s m args below meth c H locs cells slots Q (F0 m pc ls st0) := by
  intro T hT X
  rcases hr T hT X with ⟨v, st₀, t, T', L, h0, X', hL, e1, e2, ⟨⟨r, u, hv, hp, hb⟩, hF⟩, st⟩ | ⟨q, st₀, t, T', L, E, ce, h0, X', hL, e1, e2, ⟨u, hp, hb, hF⟩, hce, hcv, hcl, st⟩
  · cases hv
    obtain ⟨k1, k2, k3⟩ := vx_keep h0 e1 hS hA hf hL hF
    obtain ⟨t2, a1, b1⟩ := kk r u t T'.heap (locs ++ L) e1.symm (by rw [← e2]; exact X'.warmed.alike) hp hb k1 k2 k3 T' rfl X'
    exact ⟨t2, st t2 a1, b1⟩
  · obtain ⟨k1, k2, k3⟩ := vx_keep h0 e1 hS hAX hf hL hF
    obtain ⟨t2, a1, b1⟩ := kx E ce q u t T'.heap (locs ++ L) e1.symm (by rw [← e2]; exact X'.warmed.alike) hp hb k1 k2 k3 (by rw [e1]; exact hce) hcv hcl T' rfl X'
    exact ⟨t2, st.trans a1, b1⟩
end
/-! ===== END ===== -/
/-! ===== BEGIN .. by an interface, an object ===== -/
section
variable {p : Program} {l : Launch} {e : Env} {R : Room} {s : State} {m : MethodId} {args : Array Value} {below : List Frame} {meth : Method} {c : Code} {H : Heap} {locs : List Loc} {cells slots : Nat} {Q : State → Prop}
variable {mc ms : Nat} {free : Addr → Prop} {A0 A1 : Nat → Prop} {H0 : Heap} {a : Array Value} {pc : Nat} {ls : Array Slot} {st0 rest : List Value}
theorem vx_callFq {S SX : Type} {post : Option Nat → S → Prop} {px : SX → Prop} {B : S → State → Prop} {BX : String → SX → State → Prop} {AX : Nat → Prop} (hr : vx_Run5 p l e R s m args below meth c H locs cells slots mc ms (F0 m pc ls st0) rest (va_Qq post B A1 a) (vx_X px BX AX) free) (hS : va_S A0 H0 H locs) (hA : ∀ q, q < H.size → A1 q → A0 q) (hf : ∀ q, free q → A0 q) (hAX : ∀ q, q < H.size → AX q → A0 q)
    (kx : ∀ (E : String) (ce : Cell) (q9 : Addr) (u : SX) (t : State) (H1 : Heap) (locs1 : List Loc), t.heap = H1 → s.vm.Alike t.vm → px u → BX E u t → H.size ≤ H1.size → (∀ q : Nat, q < H.size → ¬ AX q → H1[q]? = H[q]?) → va_S A0 H0 H1 locs1 → H1[q9]? = some ce → ce.vm = .none → s.vm.findClass E = some ce.cls → vx_W p l e R s m args below meth c H1 locs1 (cells + mc) (slots + ms) Q (F0 m pc ls rest) q9)
    (kk : ∀ (r : Option Nat) (u : S) (t : State) (H1 : Heap) (locs1 : List Loc), t.heap = H1 → s.vm.Alike t.vm → post r u → B u t → H.size ≤ H1.size → (∀ q : Nat, q < H.size → ¬ A1 q → H1[q]? = H[q]?) → va_S A0 H0 H1 locs1 → W p l e R s m args below meth c H1 locs1 (cells + mc) (slots + ms) Q (F0 m (pc + 5) ls (va_rf r :: rest))) : W p l e R s m args below meth c H locs cells slots Q (F0 m pc ls st0) := by
  intro T hT X
  rcases hr T hT X with ⟨v, st₀, t, T', L, h0, X', hL, e1, e2, ⟨⟨r, u, hv, hp, hb⟩, hF⟩, st⟩ | ⟨q, st₀, t, T', L, E, ce, h0, X', hL, e1, e2, ⟨u, hp, hb, hF⟩, hce, hcv, hcl, st⟩
  · cases hv
    obtain ⟨k1, k2, k3⟩ := vx_keep h0 e1 hS hA hf hL hF
    obtain ⟨t2, a1, b1⟩ := kk r u t T'.heap (locs ++ L) e1.symm (by rw [← e2]; exact X'.warmed.alike) hp hb k1 k2 k3 T' rfl X'
    exact ⟨t2, st t2 a1, b1⟩
  · obtain ⟨k1, k2, k3⟩ := vx_keep h0 e1 hS hAX hf hL hF
    obtain ⟨t2, a1, b1⟩ := kx E ce q u t T'.heap (locs ++ L) e1.symm (by rw [← e2]; exact X'.warmed.alike) hp hb k1 k2 k3 (by rw [e1]; exact hce) hcv hcl T' rfl X'
    exact ⟨t2, st.trans a1, b1⟩
end
/-! ===== END ===== -/
/-! ===== BEGIN .. by an interface, a constant ===== -/
section
variable {p : Program} {l : Launch} {e : Env} {R : Room} {s : State} {m : MethodId} {args : Array Value} {below : List Frame} {meth : Method} {c : Code} {H : Heap} {locs : List Loc} {cells slots : Nat} {Q : State → Prop}
variable {mc ms : Nat} {free : Addr → Prop} {A0 A1 : Nat → Prop} {H0 : Heap} {a : Array Value} {pc : Nat} {ls : Array Slot} {st0 rest : List Value}
theorem vx_callFe {ad : Nat → Nat} {S SX : Type} {post : Option Nat → S → Prop} {px : SX → Prop} {B : S → State → Prop} {BX : String → SX → State → Prop} {AX : Nat → Prop} (hr : vx_Run5 p l e R s m args below meth c H locs cells slots mc ms (F0 m pc ls st0) rest (va_Qe ad post B A1 a) (vx_X px BX AX) free) (hS : va_S A0 H0 H locs) (hA : ∀ q, q < H.size → A1 q → A0 q) (hf : ∀ q, free q → A0 q) (hAX : ∀ q, q < H.size → AX q → A0 q)
    (kx : ∀ (E : String) (ce : Cell) (q9 : Addr) (u : SX) (t : State) (H1 : Heap) (locs1 : List Loc), t.heap = H1 → s.vm.Alike t.vm → px u → BX E u t → H.size ≤ H1.size → (∀ q : Nat, q < H.size → ¬ AX q → H1[q]? = H[q]?) → va_S A0 H0 H1 locs1 → H1[q9]? = some ce → ce.vm = .none → s.vm.findClass E = some ce.cls → vx_W p l e R s m args below meth c H1 locs1 (cells + mc) (slots + ms) Q (F0 m pc ls rest) q9)
    (kk : ∀ (r : Option Nat) (u : S) (t : State) (H1 : Heap) (locs1 : List Loc), t.heap = H1 → s.vm.Alike t.vm → post r u → B u t → H.size ≤ H1.size → (∀ q : Nat, q < H.size → ¬ A1 q → H1[q]? = H[q]?) → va_S A0 H0 H1 locs1 → W p l e R s m args below meth c H1 locs1 (cells + mc) (slots + ms) Q (F0 m (pc + 5) ls (va_re ad r :: rest))) : W p l e R s m args below meth c H locs cells slots Q (F0 m pc ls st0) := by
  intro T hT X
  rcases hr T hT X with ⟨v, st₀, t, T', L, h0, X', hL, e1, e2, ⟨⟨r, u, hv, hp, hb⟩, hF⟩, st⟩ | ⟨q, st₀, t, T', L, E, ce, h0, X', hL, e1, e2, ⟨u, hp, hb, hF⟩, hce, hcv, hcl, st⟩
  · cases hv
    obtain ⟨k1, k2, k3⟩ := vx_keep h0 e1 hS hA hf hL hF
    obtain ⟨t2, a1, b1⟩ := kk r u t T'.heap (locs ++ L) e1.symm (by rw [← e2]; exact X'.warmed.alike) hp hb k1 k2 k3 T' rfl X'
    exact ⟨t2, st t2 a1, b1⟩
  · obtain ⟨k1, k2, k3⟩ := vx_keep h0 e1 hS hAX hf hL hF
    obtain ⟨t2, a1, b1⟩ := kx E ce q u t T'.heap (locs ++ L) e1.symm (by rw [← e2]; exact X'.warmed.alike) hp hb k1 k2 k3 (by rw [e1]; exact hce) hcv hcl T' rfl X'
    exact ⟨t2, st.trans a1, b1⟩
end
/-! ===== END ===== -/
/-! ===== BEGIN what the machine throws by itself: null at a field, at athrow ===== -/
section VXM2
variable {p : Program} {l : Launch} {e : Env} {R : Room} {s : State} {m : MethodId} {args : Array Value} {below : List Frame} {meth : Method} {c : Code} {H : Heap} {locs : List Loc} {cells slots : Nat}
variable {Q : State → Prop} {cc : ByteArray} {pc : Nat} {ls : Array Slot} {rest : List Value}
theorem vx_getfN {D cl tys} {own ref C : String} {T : u_T} {N ci index : Nat} {Ts : List Cond} (hexec : p.tables.exec = Jvm.exec) (hb : c.code = cc) (hts : ∀ w ∈ Ts, w.before args s = true) (hin : ∀ w ∈ u_ws C T N, w ∈ Ts) (hown : s.vm.findClass own = some m.cls) (hK : va_K D cl tys s) (hc : cl[ci]? = some (C, T, N)) (k : Nat) (hk : k < N) (hlink : (Cond.fieldLink own index ref (T k).2.1 (T k).2.2.1).before args s = true) (hsame : ∀ x, s.fieldFound? (T k).1 (T k).2.1 (T k).2.2.1 = some x → s.fieldFound? ref (T k).2.1 (T k).2.2.1 = some x) (hdg : decode cc pc = .ok (.getfield index, 3)) (kk : vx_NoteN p l e R s m args below meth c H locs cells slots Q (F0 m pc ls rest)) : W p l e R s m args below meth c H locs cells slots Q (F0 m pc ls (.null :: rest)) := by
  obtain ⟨hS, hfc, kC, hkC, -⟩ := hK.1 ci _ hc
  obtain ⟨cf, kf, fi, f, hi, -⟩ := hS k hk
  intro U hU X
  obtain ⟨vm', X1, st1⟩ := X.getfieldNull hexec hown hlink (hsame _ hi) (u_facts hfc hkC (u_lays hts hin hk) hi).1 (g := F0 m pc ls (.null :: rest)) rfl (rest := rest) rfl (by rw [hb]; exact hdg)
  obtain ⟨t, st, q⟩ := kk (U.setVm vm') hU X1
  exact ⟨t, st1 t st, q⟩
theorem vx_getfNN {D cl tys} {own ref C host : String} {T : u_T} {N ci index : Nat} {Ts : List Cond} (hexec : p.tables.exec = Jvm.exec) (hb : c.code = cc) (hts : ∀ w ∈ Ts, w.before args s = true) (hin : ∀ w ∈ u_ws C T N, w ∈ Ts) (hown : s.vm.findClass own = some m.cls) (hK : va_K D cl tys s) (hc : cl[ci]? = some (C, T, N)) (k : Nat) (hk : k < N) (hlink : (Cond.fieldLinkNest own index ref (T k).2.1 (T k).2.2.1 host).before args s = true) (hsame : ∀ x, s.fieldFound? (T k).1 (T k).2.1 (T k).2.2.1 = some x → s.fieldFound? ref (T k).2.1 (T k).2.2.1 = some x) (hdg : decode cc pc = .ok (.getfield index, 3)) (kk : vx_NoteN p l e R s m args below meth c H locs cells slots Q (F0 m pc ls rest)) : W p l e R s m args below meth c H locs cells slots Q (F0 m pc ls (.null :: rest)) := by
  obtain ⟨hS, hfc, kC, hkC, -⟩ := hK.1 ci _ hc
  obtain ⟨cf, kf, fi, f, hi, -⟩ := hS k hk
  intro U hU X
  obtain ⟨vm', X1, st1⟩ := X.getfieldNullNest hexec hown hlink (hsame _ hi) (u_facts hfc hkC (u_lays hts hin hk) hi).1 (g := F0 m pc ls (.null :: rest)) rfl (rest := rest) rfl (by rw [hb]; exact hdg)
  obtain ⟨t, st, q⟩ := kk (U.setVm vm') hU X1
  exact ⟨t, st1 t st, q⟩
theorem vx_putfN {D cl tys} {own ref C : String} {T : u_T} {N ci index : Nat} {Ts : List Cond} (hexec : p.tables.exec = Jvm.exec) (hb : c.code = cc) (hts : ∀ w ∈ Ts, w.before args s = true) (hin : ∀ w ∈ u_ws C T N, w ∈ Ts) (hown : s.vm.findClass own = some m.cls) (hK : va_K D cl tys s) (hc : cl[ci]? = some (C, T, N)) (k : Nat) (hk : k < N) (hlink : (Cond.fieldLink own index ref (T k).2.1 (T k).2.2.1).before args s = true) (hsame : ∀ x, s.fieldFound? (T k).1 (T k).2.1 (T k).2.2.1 = some x → s.fieldFound? ref (T k).2.1 (T k).2.2.1 = some x) (hfin : (T k).2.2.2 = false) {v : Value} (hdg : decode cc pc = .ok (.putfield index, 3)) (kk : vx_NoteN p l e R s m args below meth c H locs cells slots Q (F0 m pc ls rest)) : W p l e R s m args below meth c H locs cells slots Q (F0 m pc ls (v :: .null :: rest)) := by
  obtain ⟨hS, hfc, kC, hkC, -⟩ := hK.1 ci _ hc
  obtain ⟨cf, kf, fi, f, hi, -⟩ := hS k hk
  have hlay := hts _ (hin _ (u_in_lay hk))
  unfold u_lay at hlay
  rw [if_neg (by rw [hfin]; decide)] at hlay
  obtain ⟨c9, k9, cf9, kf9, fi9, f9, -, -, hi9, hst9, hnf9, -⟩ := Cond.lays_spec hlay
  cases hi.symm.trans hi9
  intro U hU X
  obtain ⟨vm', X1, st1⟩ := X.putfieldNull hexec hown hlink (hsame _ hi) hst9 hnf9 (g := F0 m pc ls (v :: .null :: rest)) rfl (v := v) (rest := rest) rfl (by rw [hb]; exact hdg)
  obtain ⟨t, st, q⟩ := kk (U.setVm vm') hU X1
  exact ⟨t, st1 t st, q⟩
theorem vx_putfNN {D cl tys} {own ref C host : String} {T : u_T} {N ci index : Nat} {Ts : List Cond} (hexec : p.tables.exec = Jvm.exec) (hb : c.code = cc) (hts : ∀ w ∈ Ts, w.before args s = true) (hin : ∀ w ∈ u_ws C T N, w ∈ Ts) (hown : s.vm.findClass own = some m.cls) (hK : va_K D cl tys s) (hc : cl[ci]? = some (C, T, N)) (k : Nat) (hk : k < N) (hlink : (Cond.fieldLinkNest own index ref (T k).2.1 (T k).2.2.1 host).before args s = true) (hsame : ∀ x, s.fieldFound? (T k).1 (T k).2.1 (T k).2.2.1 = some x → s.fieldFound? ref (T k).2.1 (T k).2.2.1 = some x) (hfin : (T k).2.2.2 = false) {v : Value} (hdg : decode cc pc = .ok (.putfield index, 3)) (kk : vx_NoteN p l e R s m args below meth c H locs cells slots Q (F0 m pc ls rest)) : W p l e R s m args below meth c H locs cells slots Q (F0 m pc ls (v :: .null :: rest)) := by
  obtain ⟨hS, hfc, kC, hkC, -⟩ := hK.1 ci _ hc
  obtain ⟨cf, kf, fi, f, hi, -⟩ := hS k hk
  have hlay := hts _ (hin _ (u_in_lay hk))
  unfold u_lay at hlay
  rw [if_neg (by rw [hfin]; decide)] at hlay
  obtain ⟨c9, k9, cf9, kf9, fi9, f9, -, -, hi9, hst9, hnf9, -⟩ := Cond.lays_spec hlay
  cases hi.symm.trans hi9
  intro U hU X
  obtain ⟨vm', X1, st1⟩ := X.putfieldNullNest hexec hown hlink (hsame _ hi) hst9 hnf9 (g := F0 m pc ls (v :: .null :: rest)) rfl (v := v) (rest := rest) rfl (by rw [hb]; exact hdg)
  obtain ⟨t, st, q⟩ := kk (U.setVm vm') hU X1
  exact ⟨t, st1 t st, q⟩
theorem vx_athrowN (hexec : p.tables.exec = Jvm.exec) (hb : c.code = cc) (hdg : decode cc pc = .ok (.athrow, 1)) (k : vx_NoteN p l e R s m args below meth c H locs cells slots Q (F0 m pc ls rest)) : W p l e R s m args below meth c H locs cells slots Q (F0 m pc ls (.null :: rest)) := by
  intro T hT X
  obtain ⟨t, st, q⟩ := k T hT X
  exact ⟨t, X.athrowNull hexec (g := F0 m pc ls (.null :: rest)) rfl (rest := rest) rfl (by rw [hb]; exact hdg) t st, q⟩
end VXM2
/-! ===== END ===== -/
end
section
def RX0 : String := "BiscuitLocks$1"
def TX0 : u_T := fun k => match k with
  | _ => ("", "", "", false)
def tyX0 : Nat → FieldType := fun k => match k with
  | _ => .int
abbrev wsX00 : List Cond := u_ws RX0 TX0 0
theorem nmX0 : ∀ a, a < 0 → ∀ b, b < 0 → a ≠ b → (TX0 a).2.1 ≠ (TX0 b).2.1 := by decide +kernel
theorem tyX0_ok : ∀ k, k < 0 → parseFieldDescriptor (TX0 k).2.2.1 = some (tyX0 k) := by decide +kernel
def RX1 : String := "BiscuitLocks$Command"
def TX1 : u_T := fun k => match k with
  | _ => ("", "", "", false)
def tyX1 : Nat → FieldType := fun k => match k with
  | _ => .int
abbrev wsX10 : List Cond := u_ws RX1 TX1 0
theorem nmX1 : ∀ a, a < 0 → ∀ b, b < 0 → a ≠ b → (TX1 a).2.1 ≠ (TX1 b).2.1 := by decide +kernel
theorem tyX1_ok : ∀ k, k < 0 → parseFieldDescriptor (TX1 k).2.2.1 = some (tyX1 k) := by decide +kernel
def RX2 : String := "BiscuitLocks$History"
def TX2 : u_T := fun k => match k with
  | 0 => ("BiscuitLocks$History", "states", "[LBiscuitLocks$House;", true)
  | 1 => ("BiscuitLocks$History", "first", "I", false)
  | _ => ("BiscuitLocks$History", "count", "I", false)
def tyX2 : Nat → FieldType := fun k => match k with
  | 0 => .array (.object "BiscuitLocks$House")
  | 1 => .int
  | _ => .int
abbrev wsX20 : List Cond := u_ws RX2 TX2 3
theorem nmX2 : ∀ a, a < 3 → ∀ b, b < 3 → a ≠ b → (TX2 a).2.1 ≠ (TX2 b).2.1 := by decide +kernel
theorem tyX2_ok : ∀ k, k < 3 → parseFieldDescriptor (TX2 k).2.2.1 = some (tyX2 k) := by decide +kernel
abbrev cX2_init : ByteArray := prog_4_method_1_code
def yX2_init : MethodName := ⟨RX2, "<init>", "()V"⟩
abbrev cX2_push : ByteArray := prog_4_method_2_code
def yX2_push : MethodName := ⟨RX2, "push", "(LBiscuitLocks$House;)V"⟩
abbrev cX2_popInto : ByteArray := prog_4_method_3_code
def yX2_popInto : MethodName := ⟨RX2, "popInto", "(LBiscuitLocks$House;)V"⟩
def RX3 : String := "BiscuitLocks$House"
def TX3 : u_T := fun k => match k with
  | 0 => ("BiscuitLocks$House", "locks", "[LBiscuitLocks$Lock;", true)
  | 1 => ("BiscuitLocks$House", "ovenDoors", "[I", true)
  | 2 => ("BiscuitLocks$House", "ovenHours", "[I", true)
  | 3 => ("BiscuitLocks$House", "triedDoors", "[I", true)
  | 4 => ("BiscuitLocks$House", "triesOpened", "[Z", true)
  | 5 => ("BiscuitLocks$House", "doors", "I", false)
  | 6 => ("BiscuitLocks$House", "damp", "I", false)
  | 7 => ("BiscuitLocks$House", "hour", "I", false)
  | 8 => ("BiscuitLocks$House", "tries", "I", false)
  | 9 => ("BiscuitLocks$House", "opened", "I", false)
  | 10 => ("BiscuitLocks$House", "brokenByTry", "I", false)
  | 11 => ("BiscuitLocks$House", "shutAgain", "I", false)
  | 12 => ("BiscuitLocks$House", "putInWhileShut", "I", false)
  | _ => ("BiscuitLocks$House", "baked", "I", false)
def tyX3 : Nat → FieldType := fun k => match k with
  | 0 => .array (.object "BiscuitLocks$Lock")
  | 1 => .array .int
  | 2 => .array .int
  | 3 => .array .int
  | 4 => .array .boolean
  | 5 => .int
  | 6 => .int
  | 7 => .int
  | 8 => .int
  | 9 => .int
  | 10 => .int
  | 11 => .int
  | 12 => .int
  | _ => .int
abbrev wsX30 : List Cond := u_ws RX3 TX3 14
theorem nmX3 : ∀ a, a < 14 → ∀ b, b < 14 → a ≠ b → (TX3 a).2.1 ≠ (TX3 b).2.1 := by decide +kernel
theorem tyX3_ok : ∀ k, k < 14 → parseFieldDescriptor (TX3 k).2.2.1 = some (tyX3 k) := by decide +kernel
abbrev cX3_init : ByteArray := prog_5_method_1_code
def yX3_init : MethodName := ⟨RX3, "<init>", "()V"⟩
abbrev cX3_copyFrom : ByteArray := prog_5_method_2_code
def yX3_copyFrom : MethodName := ⟨RX3, "copyFrom", "(LBiscuitLocks$House;)V"⟩
abbrev cX3_hasDoor : ByteArray := prog_5_method_3_code
def yX3_hasDoor : MethodName := ⟨RX3, "hasDoor", "(I)Z"⟩
abbrev cX3_isInOven : ByteArray := prog_5_method_4_code
def yX3_isInOven : MethodName := ⟨RX3, "isInOven", "(I)Z"⟩
abbrev cX3_refusalOf : ByteArray := prog_5_method_5_code
def yX3_refusalOf : MethodName := ⟨RX3, "refusalOf", "(LBiscuitLocks$Command;IIII)LBiscuitLocks$Refusal;"⟩
abbrev cX3_refusalOfDoor : ByteArray := prog_5_method_6_code
def yX3_refusalOfDoor : MethodName := ⟨RX3, "refusalOfDoor", "(III)LBiscuitLocks$Refusal;"⟩
abbrev cX3_refusalOfTurn : ByteArray := prog_5_method_7_code
def yX3_refusalOfTurn : MethodName := ⟨RX3, "refusalOfTurn", "(III)LBiscuitLocks$Refusal;"⟩
abbrev cX3_refusalOfTry : ByteArray := prog_5_method_8_code
def yX3_refusalOfTry : MethodName := ⟨RX3, "refusalOfTry", "(I)LBiscuitLocks$Refusal;"⟩
abbrev cX3_refusalOfShut : ByteArray := prog_5_method_9_code
def yX3_refusalOfShut : MethodName := ⟨RX3, "refusalOfShut", "(I)LBiscuitLocks$Refusal;"⟩
abbrev cX3_refusalOfBake : ByteArray := prog_5_method_10_code
def yX3_refusalOfBake : MethodName := ⟨RX3, "refusalOfBake", "(II)LBiscuitLocks$Refusal;"⟩
abbrev cX3_refusalOfSet : ByteArray := prog_5_method_11_code
def yX3_refusalOfSet : MethodName := ⟨RX3, "refusalOfSet", "(IIII)LBiscuitLocks$Refusal;"⟩
abbrev cX3_carryOut : ByteArray := prog_5_method_12_code
def yX3_carryOut : MethodName := ⟨RX3, "carryOut", "(LBiscuitLocks$Command;IIII)I"⟩
abbrev cX3_addLock : ByteArray := prog_5_method_13_code
def yX3_addLock : MethodName := ⟨RX3, "addLock", "(III)I"⟩
abbrev cX3_tryDoor : ByteArray := prog_5_method_14_code
def yX3_tryDoor : MethodName := ⟨RX3, "tryDoor", "(I)Z"⟩
abbrev cX3_replaceDamp : ByteArray := prog_5_method_15_code
def yX3_replaceDamp : MethodName := ⟨RX3, "replaceDamp", "(I)I"⟩
abbrev cX3_putIn : ByteArray := prog_5_method_16_code
def yX3_putIn : MethodName := ⟨RX3, "putIn", "(II)I"⟩
abbrev cX3_letHoursPass : ByteArray := prog_5_method_17_code
def yX3_letHoursPass : MethodName := ⟨RX3, "letHoursPass", "(I)I"⟩
abbrev cX3_letHourPass : ByteArray := prog_5_method_18_code
def yX3_letHourPass : MethodName := ⟨RX3, "letHourPass", "()V"⟩
abbrev cX3_driftShutLocks : ByteArray := prog_5_method_19_code
def yX3_driftShutLocks : MethodName := ⟨RX3, "driftShutLocks", "(I)V"⟩
abbrev cX3_bakeOn : ByteArray := prog_5_method_20_code
def yX3_bakeOn : MethodName := ⟨RX3, "bakeOn", "(I)V"⟩
abbrev cX3_countRemembered : ByteArray := prog_5_method_21_code
def yX3_countRemembered : MethodName := ⟨RX3, "countRemembered", "()I"⟩
abbrev cX3_countShut : ByteArray := prog_5_method_22_code
def yX3_countShut : MethodName := ⟨RX3, "countShut", "()I"⟩
abbrev cX3_countShutByAccounts : ByteArray := prog_5_method_23_code
def yX3_countShutByAccounts : MethodName := ⟨RX3, "countShutByAccounts", "()I"⟩
abbrev cX3_rankByCrumbs : ByteArray := prog_5_method_24_code
def yX3_rankByCrumbs : MethodName := ⟨RX3, "rankByCrumbs", "(I)I"⟩
abbrev cX3_comesBefore : ByteArray := prog_5_method_25_code
def yX3_comesBefore : MethodName := ⟨RX3, "comesBefore", "(II)Z"⟩
def RX4 : String := "BiscuitLocks$Lock"
def TX4 : u_T := fun k => match k with
  | 0 => ("BiscuitLocks$Lock", "dials", "[I", true)
  | 1 => ("BiscuitLocks$Lock", "combination", "[I", true)
  | 2 => ("BiscuitLocks$Lock", "open", "Z", false)
  | _ => ("BiscuitLocks$Lock", "crumbs", "I", false)
def tyX4 : Nat → FieldType := fun k => match k with
  | 0 => .array .int
  | 1 => .array .int
  | 2 => .boolean
  | _ => .int
abbrev wsX40 : List Cond := u_ws RX4 TX4 4
theorem nmX4 : ∀ a, a < 4 → ∀ b, b < 4 → a ≠ b → (TX4 a).2.1 ≠ (TX4 b).2.1 := by decide +kernel
theorem tyX4_ok : ∀ k, k < 4 → parseFieldDescriptor (TX4 k).2.2.1 = some (tyX4 k) := by decide +kernel
abbrev cX4_init : ByteArray := prog_6_method_1_code
def yX4_init : MethodName := ⟨RX4, "<init>", "()V"⟩
abbrev cX4_copyFrom : ByteArray := prog_6_method_2_code
def yX4_copyFrom : MethodName := ⟨RX4, "copyFrom", "(LBiscuitLocks$Lock;)V"⟩
abbrev cX4_hasMostCrumbs : ByteArray := prog_6_method_3_code
def yX4_hasMostCrumbs : MethodName := ⟨RX4, "hasMostCrumbs", "()Z"⟩
abbrev cX4_playNow : ByteArray := prog_6_method_4_code
def yX4_playNow : MethodName := ⟨RX4, "playNow", "()I"⟩
abbrev cX4_distanceOf : ByteArray := prog_6_method_5_code
def yX4_distanceOf : MethodName := ⟨RX4, "distanceOf", "(I)I"⟩
abbrev cX4_countFitting : ByteArray := prog_6_method_6_code
def yX4_countFitting : MethodName := ⟨RX4, "countFitting", "()I"⟩
abbrev cX4_stepsByDistances : ByteArray := prog_6_method_7_code
def yX4_stepsByDistances : MethodName := ⟨RX4, "stepsByDistances", "()I"⟩
abbrev cX4_stepsByTurning : ByteArray := prog_6_method_8_code
def yX4_stepsByTurning : MethodName := ⟨RX4, "stepsByTurning", "(LBiscuitLocks$Lock;)I"⟩
abbrev cX4_turnUntilFitting : ByteArray := prog_6_method_9_code
def yX4_turnUntilFitting : MethodName := ⟨RX4, "turnUntilFitting", "(II)I"⟩
abbrev cX4_turnBy : ByteArray := prog_6_method_10_code
def yX4_turnBy : MethodName := ⟨RX4, "turnBy", "(II)I"⟩
abbrev cX4_takeTry : ByteArray := prog_6_method_11_code
def yX4_takeTry : MethodName := ⟨RX4, "takeTry", "()Z"⟩
abbrev cX4_setPositions : ByteArray := prog_6_method_12_code
def yX4_setPositions : MethodName := ⟨RX4, "setPositions", "(III)I"⟩
abbrev cX4_setPosition : ByteArray := prog_6_method_13_code
def yX4_setPosition : MethodName := ⟨RX4, "setPosition", "(II)I"⟩
abbrev cX4_renew : ByteArray := prog_6_method_14_code
def yX4_renew : MethodName := ⟨RX4, "renew", "()V"⟩
def RX5 : String := "BiscuitLocks$Refusal"
def TX5 : u_T := fun k => match k with
  | _ => ("", "", "", false)
def tyX5 : Nat → FieldType := fun k => match k with
  | _ => .int
abbrev wsX50 : List Cond := u_ws RX5 TX5 0
theorem nmX5 : ∀ a, a < 0 → ∀ b, b < 0 → a ≠ b → (TX5 a).2.1 ≠ (TX5 b).2.1 := by decide +kernel
theorem tyX5_ok : ∀ k, k < 0 → parseFieldDescriptor (TX5 k).2.2.1 = some (tyX5 k) := by decide +kernel
def RX6 : String := "BiscuitLocks$Script"
def TX6 : u_T := fun k => match k with
  | 0 => ("BiscuitLocks$Script", "text", "Ljava/lang/StringBuilder;", true)
  | 1 => ("BiscuitLocks$Script", "numbers", "[I", true)
  | _ => ("BiscuitLocks$Script", "place", "I", false)
def tyX6 : Nat → FieldType := fun k => match k with
  | 0 => .object "java/lang/StringBuilder"
  | 1 => .array .int
  | _ => .int
abbrev wsX60 : List Cond := u_ws RX6 TX6 3
theorem nmX6 : ∀ a, a < 3 → ∀ b, b < 3 → a ≠ b → (TX6 a).2.1 ≠ (TX6 b).2.1 := by decide +kernel
theorem tyX6_ok : ∀ k, k < 3 → parseFieldDescriptor (TX6 k).2.2.1 = some (tyX6 k) := by decide +kernel
abbrev cX6_init : ByteArray := prog_8_method_1_code
def yX6_init : MethodName := ⟨RX6, "<init>", "()V"⟩
abbrev cX6_countCommands : ByteArray := prog_8_method_2_code
def yX6_countCommands : MethodName := ⟨RX6, "countCommands", "()I"⟩
abbrev cX6_read : ByteArray := prog_8_method_3_code
def yX6_read : MethodName := ⟨RX6, "read", "(I)LBiscuitLocks$Command;"⟩
abbrev cX6_canEndAt : ByteArray := prog_8_method_4_code
def yX6_canEndAt : MethodName := ⟨RX6, "canEndAt", "(I)Z"⟩
abbrev cX6_countMatching : ByteArray := prog_8_method_5_code
def yX6_countMatching : MethodName := ⟨RX6, "countMatching", "(Ljava/lang/String;I)I"⟩
abbrev cX6_isOf : ByteArray := prog_8_method_6_code
def yX6_isOf : MethodName := ⟨RX6, "isOf", "(CC)Z"⟩
abbrev cX6_readNumbers : ByteArray := prog_8_method_7_code
def yX6_readNumbers : MethodName := ⟨RX6, "readNumbers", "(Ljava/lang/String;I)V"⟩
def RX7 : String := "BiscuitLocks"
def TX7 : u_T := fun k => match k with
  | 0 => ("BiscuitLocks", "house", "LBiscuitLocks$House;", true)
  | 1 => ("BiscuitLocks", "spare", "LBiscuitLocks$House;", true)
  | 2 => ("BiscuitLocks", "snapshot", "LBiscuitLocks$House;", true)
  | 3 => ("BiscuitLocks", "history", "LBiscuitLocks$History;", true)
  | 4 => ("BiscuitLocks", "script", "LBiscuitLocks$Script;", true)
  | 5 => ("BiscuitLocks", "output", "Ljava/lang/StringBuilder;", true)
  | 6 => ("BiscuitLocks", "saved", "Z", false)
  | 7 => ("BiscuitLocks", "errorPlace", "I", false)
  | _ => ("BiscuitLocks", "failedPlace", "I", false)
def tyX7 : Nat → FieldType := fun k => match k with
  | 0 => .object "BiscuitLocks$House"
  | 1 => .object "BiscuitLocks$House"
  | 2 => .object "BiscuitLocks$House"
  | 3 => .object "BiscuitLocks$History"
  | 4 => .object "BiscuitLocks$Script"
  | 5 => .object "java/lang/StringBuilder"
  | 6 => .boolean
  | 7 => .int
  | _ => .int
abbrev wsX70 : List Cond := u_ws RX7 TX7 9
theorem nmX7 : ∀ a, a < 9 → ∀ b, b < 9 → a ≠ b → (TX7 a).2.1 ≠ (TX7 b).2.1 := by decide +kernel
theorem tyX7_ok : ∀ k, k < 9 → parseFieldDescriptor (TX7 k).2.2.1 = some (tyX7 k) := by decide +kernel
abbrev cX7_init : ByteArray := prog_1_method_1_code
def yX7_init : MethodName := ⟨RX7, "<init>", "()V"⟩
abbrev cX7_addDoor : ByteArray := prog_1_method_2_code
def yX7_addDoor : MethodName := ⟨RX7, "addDoor", "(III)I"⟩
abbrev cX7_turn : ByteArray := prog_1_method_3_code
def yX7_turn : MethodName := ⟨RX7, "turn", "(III)I"⟩
abbrev cX7_tryLock : ByteArray := prog_1_method_4_code
def yX7_tryLock : MethodName := ⟨RX7, "tryLock", "(I)Z"⟩
abbrev cX7_shut : ByteArray := prog_1_method_5_code
def yX7_shut : MethodName := ⟨RX7, "shut", "(I)I"⟩
abbrev cX7_setCombination : ByteArray := prog_1_method_6_code
def yX7_setCombination : MethodName := ⟨RX7, "setCombination", "(IIII)I"⟩
abbrev cX7_setDamp : ByteArray := prog_1_method_7_code
def yX7_setDamp : MethodName := ⟨RX7, "setDamp", "(I)I"⟩
abbrev cX7_bake : ByteArray := prog_1_method_8_code
def yX7_bake : MethodName := ⟨RX7, "bake", "(II)I"⟩
abbrev cX7_passHours : ByteArray := prog_1_method_9_code
def yX7_passHours : MethodName := ⟨RX7, "passHours", "(I)I"⟩
abbrev cX7_change : ByteArray := prog_1_method_10_code
def yX7_change : MethodName := ⟨RX7, "change", "(LBiscuitLocks$Command;IIII)I"⟩
abbrev cX7_throwFor : ByteArray := prog_1_method_11_code
def yX7_throwFor : MethodName := ⟨RX7, "throwFor", "(LBiscuitLocks$Refusal;)V"⟩
abbrev cX7_doorCount : ByteArray := prog_1_method_12_code
def yX7_doorCount : MethodName := ⟨RX7, "doorCount", "()I"⟩
abbrev cX7_dial : ByteArray := prog_1_method_13_code
def yX7_dial : MethodName := ⟨RX7, "dial", "(II)I"⟩
abbrev cX7_combination : ByteArray := prog_1_method_14_code
def yX7_combination : MethodName := ⟨RX7, "combination", "(II)I"⟩
abbrev cX7_isOpen : ByteArray := prog_1_method_15_code
def yX7_isOpen : MethodName := ⟨RX7, "isOpen", "(I)Z"⟩
abbrev cX7_isBroken : ByteArray := prog_1_method_16_code
def yX7_isBroken : MethodName := ⟨RX7, "isBroken", "(I)Z"⟩
abbrev cX7_crumbs : ByteArray := prog_1_method_17_code
def yX7_crumbs : MethodName := ⟨RX7, "crumbs", "(I)I"⟩
abbrev cX7_play : ByteArray := prog_1_method_18_code
def yX7_play : MethodName := ⟨RX7, "play", "(I)I"⟩
abbrev cX7_fittingDials : ByteArray := prog_1_method_19_code
def yX7_fittingDials : MethodName := ⟨RX7, "fittingDials", "(I)I"⟩
abbrev cX7_stepsToOpen : ByteArray := prog_1_method_20_code
def yX7_stepsToOpen : MethodName := ⟨RX7, "stepsToOpen", "(I)I"⟩
abbrev cX7_stepsToOpenByTurning : ByteArray := prog_1_method_21_code
def yX7_stepsToOpenByTurning : MethodName := ⟨RX7, "stepsToOpenByTurning", "(I)I"⟩
abbrev cX7_openingSettings : ByteArray := prog_1_method_22_code
def yX7_openingSettings : MethodName := ⟨RX7, "openingSettings", "(I)I"⟩
abbrev cX7_lockOf : ByteArray := prog_1_method_23_code
def yX7_lockOf : MethodName := ⟨RX7, "lockOf", "(I)LBiscuitLocks$Lock;"⟩
abbrev cX7_requireDial : ByteArray := prog_1_method_24_code
def yX7_requireDial : MethodName := ⟨RX7, "requireDial", "(I)V"⟩
abbrev cX7_triesUntilBroken : ByteArray := prog_1_method_25_code
def yX7_triesUntilBroken : MethodName := ⟨RX7, "triesUntilBroken", "(I)I"⟩
abbrev cX7_dialAfter : ByteArray := prog_1_method_26_code
def yX7_dialAfter : MethodName := ⟨RX7, "dialAfter", "(III)I"⟩
abbrev cX7_hoursUntilFitting : ByteArray := prog_1_method_27_code
def yX7_hoursUntilFitting : MethodName := ⟨RX7, "hoursUntilFitting", "(I)I"⟩
abbrev cX7_bakedDoor : ByteArray := prog_1_method_28_code
def yX7_bakedDoor : MethodName := ⟨RX7, "bakedDoor", "(I)I"⟩
abbrev cX7_bakingHours : ByteArray := prog_1_method_29_code
def yX7_bakingHours : MethodName := ⟨RX7, "bakingHours", "(I)I"⟩
abbrev cX7_isBaking : ByteArray := prog_1_method_30_code
def yX7_isBaking : MethodName := ⟨RX7, "isBaking", "(I)Z"⟩
abbrev cX7_requireOven : ByteArray := prog_1_method_31_code
def yX7_requireOven : MethodName := ⟨RX7, "requireOven", "(I)V"⟩
abbrev cX7_doorByCrumbs : ByteArray := prog_1_method_32_code
def yX7_doorByCrumbs : MethodName := ⟨RX7, "doorByCrumbs", "(I)I"⟩
abbrev cX7_rememberedTries : ByteArray := prog_1_method_33_code
def yX7_rememberedTries : MethodName := ⟨RX7, "rememberedTries", "()I"⟩
abbrev cX7_triedDoor : ByteArray := prog_1_method_34_code
def yX7_triedDoor : MethodName := ⟨RX7, "triedDoor", "(I)I"⟩
abbrev cX7_didOpen : ByteArray := prog_1_method_35_code
def yX7_didOpen : MethodName := ⟨RX7, "didOpen", "(I)Z"⟩
abbrev cX7_requireRemembered : ByteArray := prog_1_method_36_code
def yX7_requireRemembered : MethodName := ⟨RX7, "requireRemembered", "(I)V"⟩
abbrev cX7_shutLocks : ByteArray := prog_1_method_37_code
def yX7_shutLocks : MethodName := ⟨RX7, "shutLocks", "()I"⟩
abbrev cX7_shutLocksByAccounts : ByteArray := prog_1_method_38_code
def yX7_shutLocksByAccounts : MethodName := ⟨RX7, "shutLocksByAccounts", "()I"⟩
abbrev cX7_damp : ByteArray := prog_1_method_39_code
def yX7_damp : MethodName := ⟨RX7, "damp", "()I"⟩
abbrev cX7_hour : ByteArray := prog_1_method_40_code
def yX7_hour : MethodName := ⟨RX7, "hour", "()I"⟩
abbrev cX7_tryTotal : ByteArray := prog_1_method_41_code
def yX7_tryTotal : MethodName := ⟨RX7, "tryTotal", "()I"⟩
abbrev cX7_openedTotal : ByteArray := prog_1_method_42_code
def yX7_openedTotal : MethodName := ⟨RX7, "openedTotal", "()I"⟩
abbrev cX7_bakedTotal : ByteArray := prog_1_method_43_code
def yX7_bakedTotal : MethodName := ⟨RX7, "bakedTotal", "()I"⟩
abbrev cX7_meanCrumbs : ByteArray := prog_1_method_44_code
def yX7_meanCrumbs : MethodName := ⟨RX7, "meanCrumbs", "()D"⟩
abbrev cX7_openedShare : ByteArray := prog_1_method_45_code
def yX7_openedShare : MethodName := ⟨RX7, "openedShare", "()F"⟩
abbrev cX7_isConsistent : ByteArray := prog_1_method_46_code
def yX7_isConsistent : MethodName := ⟨RX7, "isConsistent", "()Z"⟩
abbrev cX7_renderLock : ByteArray := prog_1_method_47_code
def yX7_renderLock : MethodName := ⟨RX7, "renderLock", "(I)I"⟩
abbrev cX7_appendPositions : ByteArray := prog_1_method_48_code
def yX7_appendPositions : MethodName := ⟨RX7, "appendPositions", "([I)V"⟩
abbrev cX7_renderOvens : ByteArray := prog_1_method_49_code
def yX7_renderOvens : MethodName := ⟨RX7, "renderOvens", "()I"⟩
abbrev cX7_outputAt : ByteArray := prog_1_method_50_code
def yX7_outputAt : MethodName := ⟨RX7, "outputAt", "(I)C"⟩
abbrev cX7_type : ByteArray := prog_1_method_51_code
def yX7_type : MethodName := ⟨RX7, "type", "(C)I"⟩
abbrev cX7_runScript : ByteArray := prog_1_method_52_code
def yX7_runScript : MethodName := ⟨RX7, "runScript", "()I"⟩
abbrev cX7_carryOutCommands : ByteArray := prog_1_method_53_code
def yX7_carryOutCommands : MethodName := ⟨RX7, "carryOutCommands", "(I)I"⟩
abbrev cX7_errorPosition : ByteArray := prog_1_method_54_code
def yX7_errorPosition : MethodName := ⟨RX7, "errorPosition", "()I"⟩
abbrev cX7_failedCommand : ByteArray := prog_1_method_55_code
def yX7_failedCommand : MethodName := ⟨RX7, "failedCommand", "()I"⟩
abbrev cX7_undo : ByteArray := prog_1_method_56_code
def yX7_undo : MethodName := ⟨RX7, "undo", "()I"⟩
abbrev cX7_save : ByteArray := prog_1_method_57_code
def yX7_save : MethodName := ⟨RX7, "save", "()I"⟩
abbrev cX7_restore : ByteArray := prog_1_method_58_code
def yX7_restore : MethodName := ⟨RX7, "restore", "()I"⟩
abbrev cX7_isDial : ByteArray := prog_1_method_59_code
def yX7_isDial : MethodName := ⟨RX7, "isDial", "(I)Z"⟩
abbrev cX7_isOven : ByteArray := prog_1_method_60_code
def yX7_isOven : MethodName := ⟨RX7, "isOven", "(I)Z"⟩
abbrev cX7_isPosition : ByteArray := prog_1_method_61_code
def yX7_isPosition : MethodName := ⟨RX7, "isPosition", "(I)Z"⟩
abbrev cX7_areNoPositions : ByteArray := prog_1_method_62_code
def yX7_areNoPositions : MethodName := ⟨RX7, "areNoPositions", "(III)Z"⟩
def RX8 : String := "BiscuitLocksModel"
def TX8 : u_T := fun k => match k with
  | 0 => ("BiscuitLocksModel", "s", "[I", true)
  | 1 => ("BiscuitLocksModel", "was", "[I", true)
  | 2 => ("BiscuitLocksModel", "tried", "[I", true)
  | 3 => ("BiscuitLocksModel", "saved", "[I", true)
  | 4 => ("BiscuitLocksModel", "past", "[I", true)
  | 5 => ("BiscuitLocksModel", "changes", "I", false)
  | 6 => ("BiscuitLocksModel", "thrown", "I", false)
  | 7 => ("BiscuitLocksModel", "errorAt", "I", false)
  | 8 => ("BiscuitLocksModel", "failedAt", "I", false)
  | 9 => ("BiscuitLocksModel", "answer", "I", false)
  | 10 => ("BiscuitLocksModel", "isSaved", "Z", false)
  | 11 => ("BiscuitLocksModel", "line", "[I", true)
  | 12 => ("BiscuitLocksModel", "lined", "I", false)
  | 13 => ("BiscuitLocksModel", "tape", "[I", true)
  | 14 => ("BiscuitLocksModel", "commands", "[I", true)
  | 15 => ("BiscuitLocksModel", "taped", "I", false)
  | 16 => ("BiscuitLocksModel", "here", "I", false)
  | _ => ("BiscuitLocksModel", "commandMany", "I", false)
def tyX8 : Nat → FieldType := fun k => match k with
  | 0 => .array .int
  | 1 => .array .int
  | 2 => .array .int
  | 3 => .array .int
  | 4 => .array .int
  | 5 => .int
  | 6 => .int
  | 7 => .int
  | 8 => .int
  | 9 => .int
  | 10 => .boolean
  | 11 => .array .int
  | 12 => .int
  | 13 => .array .int
  | 14 => .array .int
  | 15 => .int
  | 16 => .int
  | _ => .int
abbrev wsX80 : List Cond := u_ws RX8 TX8 18
theorem nmX8 : ∀ a, a < 18 → ∀ b, b < 18 → a ≠ b → (TX8 a).2.1 ≠ (TX8 b).2.1 := by decide +kernel
theorem tyX8_ok : ∀ k, k < 18 → parseFieldDescriptor (TX8 k).2.2.1 = some (tyX8 k) := by decide +kernel
abbrev cX8_init : ByteArray := prog_10_method_1_code
def yX8_init : MethodName := ⟨RX8, "<init>", "()V"⟩
abbrev cX8_thrown : ByteArray := prog_10_method_2_code
def yX8_thrown : MethodName := ⟨RX8, "thrown", "()I"⟩
abbrev cX8_isIn : ByteArray := prog_10_method_3_code
def yX8_isIn : MethodName := ⟨RX8, "isIn", "(III)Z"⟩
abbrev cX8_copies : ByteArray := prog_10_method_4_code
def yX8_copies : MethodName := ⟨RX8, "copies", "([II[II)V"⟩
abbrev cX8_keeps : ByteArray := prog_10_method_5_code
def yX8_keeps : MethodName := ⟨RX8, "keeps", "()V"⟩
abbrev cX8_ends : ByteArray := prog_10_method_6_code
def yX8_ends : MethodName := ⟨RX8, "ends", "(I)I"⟩
abbrev cX8_isThrown : ByteArray := prog_10_method_7_code
def yX8_isThrown : MethodName := ⟨RX8, "isThrown", "(ZI)Z"⟩
abbrev cX8_of : ByteArray := prog_10_method_8_code
def yX8_of : MethodName := ⟨RX8, "of", "(II)I"⟩
abbrev cX8_sets : ByteArray := prog_10_method_9_code
def yX8_sets : MethodName := ⟨RX8, "sets", "(III)V"⟩
abbrev cX8_ofOven : ByteArray := prog_10_method_10_code
def yX8_ofOven : MethodName := ⟨RX8, "ofOven", "(II)I"⟩
abbrev cX8_setsOven : ByteArray := prog_10_method_11_code
def yX8_setsOven : MethodName := ⟨RX8, "setsOven", "(III)V"⟩
abbrev cX8_isDoor : ByteArray := prog_10_method_12_code
def yX8_isDoor : MethodName := ⟨RX8, "isDoor", "(I)Z"⟩
abbrev cX8_isDial : ByteArray := prog_10_method_13_code
def yX8_isDial : MethodName := ⟨RX8, "isDial", "(I)Z"⟩
abbrev cX8_isOven : ByteArray := prog_10_method_14_code
def yX8_isOven : MethodName := ⟨RX8, "isOven", "(I)Z"⟩
abbrev cX8_isSetting : ByteArray := prog_10_method_15_code
def yX8_isSetting : MethodName := ⟨RX8, "isSetting", "(III)Z"⟩
abbrev cX8_bakes : ByteArray := prog_10_method_16_code
def yX8_bakes : MethodName := ⟨RX8, "bakes", "(I)Z"⟩
abbrev cX8_open : ByteArray := prog_10_method_17_code
def yX8_open : MethodName := ⟨RX8, "open", "(I)Z"⟩
abbrev cX8_away : ByteArray := prog_10_method_18_code
def yX8_away : MethodName := ⟨RX8, "away", "(II)I"⟩
abbrev cX8_misfits : ByteArray := prog_10_method_19_code
def yX8_misfits : MethodName := ⟨RX8, "misfits", "(II)I"⟩
abbrev cX8_playOf : ByteArray := prog_10_method_20_code
def yX8_playOf : MethodName := ⟨RX8, "playOf", "(I)I"⟩
abbrev cX8_combines : ByteArray := prog_10_method_21_code
def yX8_combines : MethodName := ⟨RX8, "combines", "(IIII)V"⟩
abbrev cX8_doors : ByteArray := prog_10_method_22_code
def yX8_doors : MethodName := ⟨RX8, "doors", "(III)I"⟩
abbrev cX8_addDoor : ByteArray := prog_10_method_23_code
def yX8_addDoor : MethodName := ⟨RX8, "addDoor", "(III)I"⟩
abbrev cX8_turns : ByteArray := prog_10_method_24_code
def yX8_turns : MethodName := ⟨RX8, "turns", "(III)I"⟩
abbrev cX8_turn : ByteArray := prog_10_method_25_code
def yX8_turn : MethodName := ⟨RX8, "turn", "(III)I"⟩
abbrev cX8_records : ByteArray := prog_10_method_26_code
def yX8_records : MethodName := ⟨RX8, "records", "(II)V"⟩
abbrev cX8_crumbled : ByteArray := prog_10_method_27_code
def yX8_crumbled : MethodName := ⟨RX8, "crumbled", "(II)I"⟩
abbrev cX8_tries : ByteArray := prog_10_method_28_code
def yX8_tries : MethodName := ⟨RX8, "tries", "(I)I"⟩
abbrev cX8_tryLock : ByteArray := prog_10_method_29_code
def yX8_tryLock : MethodName := ⟨RX8, "tryLock", "(I)Z"⟩
abbrev cX8_manyShut : ByteArray := prog_10_method_30_code
def yX8_manyShut : MethodName := ⟨RX8, "manyShut", "()I"⟩
abbrev cX8_shuts : ByteArray := prog_10_method_31_code
def yX8_shuts : MethodName := ⟨RX8, "shuts", "(I)I"⟩
abbrev cX8_shut : ByteArray := prog_10_method_32_code
def yX8_shut : MethodName := ⟨RX8, "shut", "(I)I"⟩
abbrev cX8_combined : ByteArray := prog_10_method_33_code
def yX8_combined : MethodName := ⟨RX8, "combined", "(IIII)I"⟩
abbrev cX8_setCombination : ByteArray := prog_10_method_34_code
def yX8_setCombination : MethodName := ⟨RX8, "setCombination", "(IIII)I"⟩
abbrev cX8_damps : ByteArray := prog_10_method_35_code
def yX8_damps : MethodName := ⟨RX8, "damps", "(I)I"⟩
abbrev cX8_setDamp : ByteArray := prog_10_method_36_code
def yX8_setDamp : MethodName := ⟨RX8, "setDamp", "(I)I"⟩
abbrev cX8_bakings : ByteArray := prog_10_method_37_code
def yX8_bakings : MethodName := ⟨RX8, "bakings", "(II)I"⟩
abbrev cX8_bake : ByteArray := prog_10_method_38_code
def yX8_bake : MethodName := ⟨RX8, "bake", "(II)I"⟩
abbrev cX8_drifts : ByteArray := prog_10_method_39_code
def yX8_drifts : MethodName := ⟨RX8, "drifts", "()V"⟩
abbrev cX8_heats : ByteArray := prog_10_method_40_code
def yX8_heats : MethodName := ⟨RX8, "heats", "(I)V"⟩
abbrev cX8_hourPasses : ByteArray := prog_10_method_41_code
def yX8_hourPasses : MethodName := ⟨RX8, "hourPasses", "()V"⟩
abbrev cX8_waits : ByteArray := prog_10_method_42_code
def yX8_waits : MethodName := ⟨RX8, "waits", "(I)I"⟩
abbrev cX8_passHours : ByteArray := prog_10_method_43_code
def yX8_passHours : MethodName := ⟨RX8, "passHours", "(I)I"⟩
abbrev cX8_doorCount : ByteArray := prog_10_method_44_code
def yX8_doorCount : MethodName := ⟨RX8, "doorCount", "()I"⟩
abbrev cX8_dial : ByteArray := prog_10_method_45_code
def yX8_dial : MethodName := ⟨RX8, "dial", "(II)I"⟩
abbrev cX8_combination : ByteArray := prog_10_method_46_code
def yX8_combination : MethodName := ⟨RX8, "combination", "(II)I"⟩
abbrev cX8_isOpen : ByteArray := prog_10_method_47_code
def yX8_isOpen : MethodName := ⟨RX8, "isOpen", "(I)Z"⟩
abbrev cX8_isBroken : ByteArray := prog_10_method_48_code
def yX8_isBroken : MethodName := ⟨RX8, "isBroken", "(I)Z"⟩
abbrev cX8_crumbs : ByteArray := prog_10_method_49_code
def yX8_crumbs : MethodName := ⟨RX8, "crumbs", "(I)I"⟩
abbrev cX8_play : ByteArray := prog_10_method_50_code
def yX8_play : MethodName := ⟨RX8, "play", "(I)I"⟩
abbrev cX8_fittingDials : ByteArray := prog_10_method_51_code
def yX8_fittingDials : MethodName := ⟨RX8, "fittingDials", "(I)I"⟩
abbrev cX8_steps : ByteArray := prog_10_method_52_code
def yX8_steps : MethodName := ⟨RX8, "steps", "(I)I"⟩
abbrev cX8_stepsToOpen : ByteArray := prog_10_method_53_code
def yX8_stepsToOpen : MethodName := ⟨RX8, "stepsToOpen", "(I)I"⟩
abbrev cX8_stepsToOpenByTurning : ByteArray := prog_10_method_54_code
def yX8_stepsToOpenByTurning : MethodName := ⟨RX8, "stepsToOpenByTurning", "(I)I"⟩
abbrev cX8_openingSettings : ByteArray := prog_10_method_55_code
def yX8_openingSettings : MethodName := ⟨RX8, "openingSettings", "(I)I"⟩
abbrev cX8_triesUntilBroken : ByteArray := prog_10_method_56_code
def yX8_triesUntilBroken : MethodName := ⟨RX8, "triesUntilBroken", "(I)I"⟩
abbrev cX8_dialAfter : ByteArray := prog_10_method_57_code
def yX8_dialAfter : MethodName := ⟨RX8, "dialAfter", "(III)I"⟩
abbrev cX8_hoursUntilFitting : ByteArray := prog_10_method_58_code
def yX8_hoursUntilFitting : MethodName := ⟨RX8, "hoursUntilFitting", "(I)I"⟩
abbrev cX8_bakedDoor : ByteArray := prog_10_method_59_code
def yX8_bakedDoor : MethodName := ⟨RX8, "bakedDoor", "(I)I"⟩
abbrev cX8_bakingHours : ByteArray := prog_10_method_60_code
def yX8_bakingHours : MethodName := ⟨RX8, "bakingHours", "(I)I"⟩
abbrev cX8_isBaking : ByteArray := prog_10_method_61_code
def yX8_isBaking : MethodName := ⟨RX8, "isBaking", "(I)Z"⟩
abbrev cX8_isAhead : ByteArray := prog_10_method_62_code
def yX8_isAhead : MethodName := ⟨RX8, "isAhead", "(II)Z"⟩
abbrev cX8_doorByCrumbs : ByteArray := prog_10_method_63_code
def yX8_doorByCrumbs : MethodName := ⟨RX8, "doorByCrumbs", "(I)I"⟩
abbrev cX8_rememberedTries : ByteArray := prog_10_method_64_code
def yX8_rememberedTries : MethodName := ⟨RX8, "rememberedTries", "()I"⟩
abbrev cX8_ofTry : ByteArray := prog_10_method_65_code
def yX8_ofTry : MethodName := ⟨RX8, "ofTry", "(II)I"⟩
abbrev cX8_triedDoor : ByteArray := prog_10_method_66_code
def yX8_triedDoor : MethodName := ⟨RX8, "triedDoor", "(I)I"⟩
abbrev cX8_didOpen : ByteArray := prog_10_method_67_code
def yX8_didOpen : MethodName := ⟨RX8, "didOpen", "(I)Z"⟩
abbrev cX8_shutLocks : ByteArray := prog_10_method_68_code
def yX8_shutLocks : MethodName := ⟨RX8, "shutLocks", "()I"⟩
abbrev cX8_shutLocksByAccounts : ByteArray := prog_10_method_69_code
def yX8_shutLocksByAccounts : MethodName := ⟨RX8, "shutLocksByAccounts", "()I"⟩
abbrev cX8_damp : ByteArray := prog_10_method_70_code
def yX8_damp : MethodName := ⟨RX8, "damp", "()I"⟩
abbrev cX8_hour : ByteArray := prog_10_method_71_code
def yX8_hour : MethodName := ⟨RX8, "hour", "()I"⟩
abbrev cX8_tryTotal : ByteArray := prog_10_method_72_code
def yX8_tryTotal : MethodName := ⟨RX8, "tryTotal", "()I"⟩
abbrev cX8_openedTotal : ByteArray := prog_10_method_73_code
def yX8_openedTotal : MethodName := ⟨RX8, "openedTotal", "()I"⟩
abbrev cX8_bakedTotal : ByteArray := prog_10_method_74_code
def yX8_bakedTotal : MethodName := ⟨RX8, "bakedTotal", "()I"⟩
abbrev cX8_meanCrumbs : ByteArray := prog_10_method_75_code
def yX8_meanCrumbs : MethodName := ⟨RX8, "meanCrumbs", "()D"⟩
abbrev cX8_openedShare : ByteArray := prog_10_method_76_code
def yX8_openedShare : MethodName := ⟨RX8, "openedShare", "()F"⟩
abbrev cX8_isConsistent : ByteArray := prog_10_method_77_code
def yX8_isConsistent : MethodName := ⟨RX8, "isConsistent", "()Z"⟩
abbrev cX8_puts : ByteArray := prog_10_method_78_code
def yX8_puts : MethodName := ⟨RX8, "puts", "(I)V"⟩
abbrev cX8_number : ByteArray := prog_10_method_79_code
def yX8_number : MethodName := ⟨RX8, "number", "(I)V"⟩
abbrev cX8_renderLock : ByteArray := prog_10_method_80_code
def yX8_renderLock : MethodName := ⟨RX8, "renderLock", "(I)I"⟩
abbrev cX8_renderOvens : ByteArray := prog_10_method_81_code
def yX8_renderOvens : MethodName := ⟨RX8, "renderOvens", "()I"⟩
abbrev cX8_outputAt : ByteArray := prog_10_method_82_code
def yX8_outputAt : MethodName := ⟨RX8, "outputAt", "(I)C"⟩
abbrev cX8_type : ByteArray := prog_10_method_83_code
def yX8_type : MethodName := ⟨RX8, "type", "(C)I"⟩
abbrev cX8_now : ByteArray := prog_10_method_84_code
def yX8_now : MethodName := ⟨RX8, "now", "()I"⟩
abbrev cX8_isSign : ByteArray := prog_10_method_85_code
def yX8_isSign : MethodName := ⟨RX8, "isSign", "(I)Z"⟩
abbrev cX8_isNumber : ByteArray := prog_10_method_86_code
def yX8_isNumber : MethodName := ⟨RX8, "isNumber", "(II)Z"⟩
abbrev cX8_isWord : ByteArray := prog_10_method_87_code
def yX8_isWord : MethodName := ⟨RX8, "isWord", "(Ljava/lang/String;)Z"⟩
abbrev cX8_isThree : ByteArray := prog_10_method_88_code
def yX8_isThree : MethodName := ⟨RX8, "isThree", "(I)Z"⟩
abbrev cX8_isSteps : ByteArray := prog_10_method_89_code
def yX8_isSteps : MethodName := ⟨RX8, "isSteps", "(I)Z"⟩
abbrev cX8_readsT : ByteArray := prog_10_method_90_code
def yX8_readsT : MethodName := ⟨RX8, "readsT", "(I)Z"⟩
abbrev cX8_readsD : ByteArray := prog_10_method_91_code
def yX8_readsD : MethodName := ⟨RX8, "readsD", "(I)Z"⟩
abbrev cX8_readsS : ByteArray := prog_10_method_92_code
def yX8_readsS : MethodName := ⟨RX8, "readsS", "(I)Z"⟩
abbrev cX8_readsHour : ByteArray := prog_10_method_93_code
def yX8_readsHour : MethodName := ⟨RX8, "readsHour", "(I)Z"⟩
abbrev cX8_readsRest : ByteArray := prog_10_method_94_code
def yX8_readsRest : MethodName := ⟨RX8, "readsRest", "(II)Z"⟩
abbrev cX8_isFirst : ByteArray := prog_10_method_95_code
def yX8_isFirst : MethodName := ⟨RX8, "isFirst", "(I)Z"⟩
abbrev cX8_readsCommand : ByteArray := prog_10_method_96_code
def yX8_readsCommand : MethodName := ⟨RX8, "readsCommand", "()Z"⟩
abbrev cX8_isScript : ByteArray := prog_10_method_97_code
def yX8_isScript : MethodName := ⟨RX8, "isScript", "()Z"⟩
abbrev cX8_does : ByteArray := prog_10_method_98_code
def yX8_does : MethodName := ⟨RX8, "does", "(I)I"⟩
abbrev cX8_runScript : ByteArray := prog_10_method_99_code
def yX8_runScript : MethodName := ⟨RX8, "runScript", "()I"⟩
abbrev cX8_errorPosition : ByteArray := prog_10_method_100_code
def yX8_errorPosition : MethodName := ⟨RX8, "errorPosition", "()I"⟩
abbrev cX8_failedCommand : ByteArray := prog_10_method_101_code
def yX8_failedCommand : MethodName := ⟨RX8, "failedCommand", "()I"⟩
abbrev cX8_undo : ByteArray := prog_10_method_102_code
def yX8_undo : MethodName := ⟨RX8, "undo", "()I"⟩
abbrev cX8_save : ByteArray := prog_10_method_103_code
def yX8_save : MethodName := ⟨RX8, "save", "()I"⟩
abbrev cX8_restore : ByteArray := prog_10_method_104_code
def yX8_restore : MethodName := ⟨RX8, "restore", "()I"⟩
def RJx145de : String := "java/io/Serializable"
def TJx145de : u_T := fun k => match k with
  | _ => ("", "", "", false)
def tyJx145de : Nat → FieldType := fun k => match k with
  | _ => .int
abbrev wsJx145de0 : List Cond := u_ws RJx145de TJx145de 0
theorem nmJx145de : ∀ a, a < 0 → ∀ b, b < 0 → a ≠ b → (TJx145de a).2.1 ≠ (TJx145de b).2.1 := by decide +kernel
theorem tyJx145de_ok : ∀ k, k < 0 → parseFieldDescriptor (TJx145de k).2.2.1 = some (tyJx145de k) := by decide +kernel
def RJ5 : String := "java/lang/AbstractStringBuilder"
def TJ5 : u_T := fun k => match k with
  | _ => ("", "", "", false)
def tyJ5 : Nat → FieldType := fun k => match k with
  | _ => .int
abbrev wsJ50 : List Cond := u_ws RJ5 TJ5 0
theorem nmJ5 : ∀ a, a < 0 → ∀ b, b < 0 → a ≠ b → (TJ5 a).2.1 ≠ (TJ5 b).2.1 := by decide +kernel
theorem tyJ5_ok : ∀ k, k < 0 → parseFieldDescriptor (TJ5 k).2.2.1 = some (tyJ5 k) := by decide +kernel
abbrev cJ5_init_d00df : ByteArray := prog_12_method_2_code
def yJ5_init_d00df : MethodName := ⟨RJ5, "<init>", "(I)V"⟩
abbrev cJ5_length_8abf5 : ByteArray := prog_12_method_6_code
def yJ5_length_8abf5 : MethodName := ⟨RJ5, "length", "()I"⟩
abbrev cJ5_ensureCapacityInternal_d00df : ByteArray := prog_12_method_9_code
def yJ5_ensureCapacityInternal_d00df : MethodName := ⟨RJ5, "ensureCapacityInternal", "(I)V"⟩
abbrev cJ5_newCapacity_0f7a4 : ByteArray := prog_12_method_10_code
def yJ5_newCapacity_0f7a4 : MethodName := ⟨RJ5, "newCapacity", "(I)I"⟩
abbrev cJ5_inflate_da8c8 : ByteArray := prog_12_method_11_code
def yJ5_inflate_da8c8 : MethodName := ⟨RJ5, "inflate", "()V"⟩
abbrev cJ5_setLength_d00df : ByteArray := prog_12_method_13_code
def yJ5_setLength_d00df : MethodName := ⟨RJ5, "setLength", "(I)V"⟩
abbrev cJ5_charAt_5068e : ByteArray := prog_12_method_14_code
def yJ5_charAt_5068e : MethodName := ⟨RJ5, "charAt", "(I)C"⟩
abbrev cJ5_append_cf1ce : ByteArray := prog_12_method_22_code
def yJ5_append_cf1ce : MethodName := ⟨RJ5, "append", "(Ljava/lang/String;)Ljava/lang/AbstractStringBuilder;"⟩
abbrev cJ5_appendNull_278bc : ByteArray := prog_12_method_26_code
def yJ5_appendNull_278bc : MethodName := ⟨RJ5, "appendNull", "()Ljava/lang/AbstractStringBuilder;"⟩
abbrev cJ5_append_3fe6f : ByteArray := prog_12_method_31_code
def yJ5_append_3fe6f : MethodName := ⟨RJ5, "append", "(C)Ljava/lang/AbstractStringBuilder;"⟩
abbrev cJ5_append_c97b9 : ByteArray := prog_12_method_32_code
def yJ5_append_c97b9 : MethodName := ⟨RJ5, "append", "(I)Ljava/lang/AbstractStringBuilder;"⟩
abbrev cJ5_getValue_6d5f1 : ByteArray := prog_12_method_64_code
def yJ5_getValue_6d5f1 : MethodName := ⟨RJ5, "getValue", "()[B"⟩
abbrev cJ5_isLatin1_aae02 : ByteArray := prog_12_method_68_code
def yJ5_isLatin1_aae02 : MethodName := ⟨RJ5, "isLatin1", "()Z"⟩
abbrev cJ5_inflateIfNeededFor_a7421 : ByteArray := prog_12_method_71_code
def yJ5_inflateIfNeededFor_a7421 : MethodName := ⟨RJ5, "inflateIfNeededFor", "(Ljava/lang/String;)V"⟩
abbrev cJ5_putStringAt_47b60 : ByteArray := prog_12_method_73_code
def yJ5_putStringAt_47b60 : MethodName := ⟨RJ5, "putStringAt", "(ILjava/lang/String;)V"⟩
def RJx2cfe8 : String := "java/lang/Appendable"
def TJx2cfe8 : u_T := fun k => match k with
  | _ => ("", "", "", false)
def tyJx2cfe8 : Nat → FieldType := fun k => match k with
  | _ => .int
abbrev wsJx2cfe80 : List Cond := u_ws RJx2cfe8 TJx2cfe8 0
theorem nmJx2cfe8 : ∀ a, a < 0 → ∀ b, b < 0 → a ≠ b → (TJx2cfe8 a).2.1 ≠ (TJx2cfe8 b).2.1 := by decide +kernel
theorem tyJx2cfe8_ok : ∀ k, k < 0 → parseFieldDescriptor (TJx2cfe8 k).2.2.1 = some (tyJx2cfe8 k) := by decide +kernel
def RJx00060 : String := "java/lang/ArrayIndexOutOfBoundsException"
def TJx00060 : u_T := fun k => match k with
  | 0 => ("java/lang/Throwable", "cause", "Ljava/lang/Throwable;", false)
  | 1 => ("java/lang/Throwable", "stackTrace", "[Ljava/lang/StackTraceElement;", false)
  | 2 => ("java/lang/Throwable", "suppressedExceptions", "Ljava/util/List;", false)
  | 3 => ("java/lang/Throwable", "detailMessage", "Ljava/lang/String;", false)
  | 4 => ("java/lang/Throwable", "backtrace", "Ljava/lang/Object;", false)
  | _ => ("java/lang/Throwable", "depth", "I", false)
def tyJx00060 : Nat → FieldType := fun k => match k with
  | 0 => .object "java/lang/Throwable"
  | 1 => .array (.object "java/lang/StackTraceElement")
  | 2 => .object "java/util/List"
  | 3 => .object "java/lang/String"
  | 4 => .object "java/lang/Object"
  | _ => .int
abbrev wsJx000600 : List Cond := u_ws RJx00060 TJx00060 6
theorem nmJx00060 : ∀ a, a < 6 → ∀ b, b < 6 → a ≠ b → (TJx00060 a).2.1 ≠ (TJx00060 b).2.1 := by decide +kernel
theorem tyJx00060_ok : ∀ k, k < 6 → parseFieldDescriptor (TJx00060 k).2.2.1 = some (tyJx00060 k) := by decide +kernel
abbrev cJx00060_init_a7421 : ByteArray := prog_15_method_2_code
def yJx00060_init_a7421 : MethodName := ⟨RJx00060, "<init>", "(Ljava/lang/String;)V"⟩
abbrev cJx00060_init_d00df : ByteArray := prog_15_method_3_code
def yJx00060_init_d00df : MethodName := ⟨RJx00060, "<init>", "(I)V"⟩
def RJx9f9b0 : String := "java/lang/CharSequence"
def TJx9f9b0 : u_T := fun k => match k with
  | _ => ("", "", "", false)
def tyJx9f9b0 : Nat → FieldType := fun k => match k with
  | _ => .int
abbrev wsJx9f9b00 : List Cond := u_ws RJx9f9b0 TJx9f9b0 0
theorem nmJx9f9b0 : ∀ a, a < 0 → ∀ b, b < 0 → a ≠ b → (TJx9f9b0 a).2.1 ≠ (TJx9f9b0 b).2.1 := by decide +kernel
theorem tyJx9f9b0_ok : ∀ k, k < 0 → parseFieldDescriptor (TJx9f9b0 k).2.2.1 = some (tyJx9f9b0 k) := by decide +kernel
def RJx8e188 : String := "java/lang/Cloneable"
def TJx8e188 : u_T := fun k => match k with
  | _ => ("", "", "", false)
def tyJx8e188 : Nat → FieldType := fun k => match k with
  | _ => .int
abbrev wsJx8e1880 : List Cond := u_ws RJx8e188 TJx8e188 0
theorem nmJx8e188 : ∀ a, a < 0 → ∀ b, b < 0 → a ≠ b → (TJx8e188 a).2.1 ≠ (TJx8e188 b).2.1 := by decide +kernel
theorem tyJx8e188_ok : ∀ k, k < 0 → parseFieldDescriptor (TJx8e188 k).2.2.1 = some (tyJx8e188 k) := by decide +kernel
def RJxb160c : String := "java/lang/Comparable"
def TJxb160c : u_T := fun k => match k with
  | _ => ("", "", "", false)
def tyJxb160c : Nat → FieldType := fun k => match k with
  | _ => .int
abbrev wsJxb160c0 : List Cond := u_ws RJxb160c TJxb160c 0
theorem nmJxb160c : ∀ a, a < 0 → ∀ b, b < 0 → a ≠ b → (TJxb160c a).2.1 ≠ (TJxb160c b).2.1 := by decide +kernel
theorem tyJxb160c_ok : ∀ k, k < 0 → parseFieldDescriptor (TJxb160c k).2.2.1 = some (tyJxb160c k) := by decide +kernel
def RJx29ce0 : String := "java/lang/Enum"
def TJx29ce0 : u_T := fun k => match k with
  | _ => ("", "", "", false)
def tyJx29ce0 : Nat → FieldType := fun k => match k with
  | _ => .int
abbrev wsJx29ce00 : List Cond := u_ws RJx29ce0 TJx29ce0 0
theorem nmJx29ce0 : ∀ a, a < 0 → ∀ b, b < 0 → a ≠ b → (TJx29ce0 a).2.1 ≠ (TJx29ce0 b).2.1 := by decide +kernel
theorem tyJx29ce0_ok : ∀ k, k < 0 → parseFieldDescriptor (TJx29ce0 k).2.2.1 = some (tyJx29ce0 k) := by decide +kernel
abbrev cJx29ce0_ordinal_8abf5 : ByteArray := prog_19_method_2_code
def yJx29ce0_ordinal_8abf5 : MethodName := ⟨RJx29ce0, "ordinal", "()I"⟩
def RJ6 : String := "java/lang/Integer"
def TJ6 : u_T := fun k => match k with
  | _ => ("", "", "", false)
def tyJ6 : Nat → FieldType := fun k => match k with
  | _ => .int
abbrev wsJ60 : List Cond := u_ws RJ6 TJ6 0
theorem nmJ6 : ∀ a, a < 0 → ∀ b, b < 0 → a ≠ b → (TJ6 a).2.1 ≠ (TJ6 b).2.1 := by decide +kernel
theorem tyJ6_ok : ∀ k, k < 0 → parseFieldDescriptor (TJ6 k).2.2.1 = some (tyJ6 k) := by decide +kernel
abbrev cJ6_getChars_ba4f3 : ByteArray := prog_24_method_12_code
def yJ6_getChars_ba4f3 : MethodName := ⟨RJ6, "getChars", "(II[B)I"⟩
abbrev cJ6_stringSize_0f7a4 : ByteArray := prog_24_method_13_code
def yJ6_stringSize_0f7a4 : MethodName := ⟨RJ6, "stringSize", "(I)I"⟩
def RJ9 : String := "java/lang/Math"
def TJ9 : u_T := fun k => match k with
  | _ => ("", "", "", false)
def tyJ9 : Nat → FieldType := fun k => match k with
  | _ => .int
abbrev wsJ90 : List Cond := u_ws RJ9 TJ9 0
theorem nmJ9 : ∀ a, a < 0 → ∀ b, b < 0 → a ≠ b → (TJ9 a).2.1 ≠ (TJ9 b).2.1 := by decide +kernel
theorem tyJ9_ok : ∀ k, k < 0 → parseFieldDescriptor (TJ9 k).2.2.1 = some (tyJ9 k) := by decide +kernel
abbrev cJ9_max_7cf53 : ByteArray := prog_25_method_65_code
def yJ9_max_7cf53 : MethodName := ⟨RJ9, "max", "(II)I"⟩
abbrev cJ9_min_7cf53 : ByteArray := prog_25_method_69_code
def yJ9_min_7cf53 : MethodName := ⟨RJ9, "min", "(II)I"⟩
def RJxd2413 : String := "java/lang/Number"
def TJxd2413 : u_T := fun k => match k with
  | _ => ("", "", "", false)
def tyJxd2413 : Nat → FieldType := fun k => match k with
  | _ => .int
abbrev wsJxd24130 : List Cond := u_ws RJxd2413 TJxd2413 0
theorem nmJxd2413 : ∀ a, a < 0 → ∀ b, b < 0 → a ≠ b → (TJxd2413 a).2.1 ≠ (TJxd2413 b).2.1 := by decide +kernel
theorem tyJxd2413_ok : ∀ k, k < 0 → parseFieldDescriptor (TJxd2413 k).2.2.1 = some (tyJxd2413 k) := by decide +kernel
def RJ0 : String := "java/lang/String"
def TJ0 : u_T := fun k => match k with
  | 0 => ("java/lang/String", "value", "[B", true)
  | 1 => ("java/lang/String", "coder", "B", true)
  | 2 => ("java/lang/String", "hash", "I", false)
  | _ => ("java/lang/String", "hashIsZero", "Z", false)
def tyJ0 : Nat → FieldType := fun k => match k with
  | 0 => .array .byte
  | 1 => .byte
  | 2 => .int
  | _ => .boolean
abbrev wsJ00 : List Cond := u_ws RJ0 TJ0 4
theorem nmJ0 : ∀ a, a < 4 → ∀ b, b < 4 → a ≠ b → (TJ0 a).2.1 ≠ (TJ0 b).2.1 := by decide +kernel
theorem tyJ0_ok : ∀ k, k < 4 → parseFieldDescriptor (TJ0 k).2.2.1 = some (tyJ0 k) := by decide +kernel
abbrev cJ0_init_81219 : ByteArray := prog_28_method_53_code
def yJ0_init_81219 : MethodName := ⟨RJ0, "<init>", "(Ljava/lang/StringBuilder;)V"⟩
abbrev cJ0_length_8abf5 : ByteArray := prog_28_method_54_code
def yJ0_length_8abf5 : MethodName := ⟨RJ0, "length", "()I"⟩
abbrev cJ0_charAt_5068e : ByteArray := prog_28_method_56_code
def yJ0_charAt_5068e : MethodName := ⟨RJ0, "charAt", "(I)C"⟩
abbrev cJ0_getBytes_840e7 : ByteArray := prog_28_method_147_code
def yJ0_getBytes_840e7 : MethodName := ⟨RJ0, "getBytes", "([BIB)V"⟩
abbrev cJ0_init_db425 : ByteArray := prog_28_method_150_code
def yJ0_init_db425 : MethodName := ⟨RJ0, "<init>", "(Ljava/lang/AbstractStringBuilder;Ljava/lang/Void;)V"⟩
abbrev cJ0_coder_7d493 : ByteArray := prog_28_method_152_code
def yJ0_coder_7d493 : MethodName := ⟨RJ0, "coder", "()B"⟩
abbrev cJ0_isLatin1_aae02 : ByteArray := prog_28_method_154_code
def yJ0_isLatin1_aae02 : MethodName := ⟨RJ0, "isLatin1", "()Z"⟩
abbrev cJ0_checkIndex_df160 : ByteArray := prog_28_method_155_code
def yJ0_checkIndex_df160 : MethodName := ⟨RJ0, "checkIndex", "(II)V"⟩
abbrev cJ0_checkBoundsOffCount_cabcc : ByteArray := prog_28_method_157_code
def yJ0_checkBoundsOffCount_cabcc : MethodName := ⟨RJ0, "checkBoundsOffCount", "(III)I"⟩
abbrev cJ0_checkBoundsBeginEnd_23922 : ByteArray := prog_28_method_158_code
def yJ0_checkBoundsBeginEnd_23922 : MethodName := ⟨RJ0, "checkBoundsBeginEnd", "(III)V"⟩
def RJ4 : String := "java/lang/StringBuilder"
def TJ4 : u_T := fun k => match k with
  | 0 => ("java/lang/AbstractStringBuilder", "value", "[B", false)
  | 1 => ("java/lang/AbstractStringBuilder", "coder", "B", false)
  | 2 => ("java/lang/AbstractStringBuilder", "maybeLatin1", "Z", false)
  | _ => ("java/lang/AbstractStringBuilder", "count", "I", false)
def tyJ4 : Nat → FieldType := fun k => match k with
  | 0 => .array .byte
  | 1 => .byte
  | 2 => .boolean
  | _ => .int
abbrev wsJ40 : List Cond := u_ws RJ4 TJ4 4
theorem nmJ4 : ∀ a, a < 4 → ∀ b, b < 4 → a ≠ b → (TJ4 a).2.1 ≠ (TJ4 b).2.1 := by decide +kernel
theorem tyJ4_ok : ∀ k, k < 4 → parseFieldDescriptor (TJ4 k).2.2.1 = some (tyJ4 k) := by decide +kernel
abbrev cJ4_init_da8c8 : ByteArray := prog_29_method_1_code
def yJ4_init_da8c8 : MethodName := ⟨RJ4, "<init>", "()V"⟩
abbrev cJ4_append_15ec4 : ByteArray := prog_29_method_7_code
def yJ4_append_15ec4 : MethodName := ⟨RJ4, "append", "(Ljava/lang/String;)Ljava/lang/StringBuilder;"⟩
abbrev cJ4_append_cf468 : ByteArray := prog_29_method_14_code
def yJ4_append_cf468 : MethodName := ⟨RJ4, "append", "(C)Ljava/lang/StringBuilder;"⟩
abbrev cJ4_append_bf812 : ByteArray := prog_29_method_15_code
def yJ4_append_bf812 : MethodName := ⟨RJ4, "append", "(I)Ljava/lang/StringBuilder;"⟩
abbrev cJ4_toString_0e30d : ByteArray := prog_29_method_42_code
def yJ4_toString_0e30d : MethodName := ⟨RJ4, "toString", "()Ljava/lang/String;"⟩
abbrev cJ4_charAt_5068e : ByteArray := prog_29_method_88_code
def yJ4_charAt_5068e : MethodName := ⟨RJ4, "charAt", "(I)C"⟩
abbrev cJ4_setLength_d00df : ByteArray := prog_29_method_89_code
def yJ4_setLength_d00df : MethodName := ⟨RJ4, "setLength", "(I)V"⟩
abbrev cJ4_length_8abf5 : ByteArray := prog_29_method_93_code
def yJ4_length_8abf5 : MethodName := ⟨RJ4, "length", "()I"⟩
def RJx7c733 : String := "java/lang/StringIndexOutOfBoundsException"
def TJx7c733 : u_T := fun k => match k with
  | 0 => ("java/lang/Throwable", "backtrace", "Ljava/lang/Object;", false)
  | 1 => ("java/lang/Throwable", "detailMessage", "Ljava/lang/String;", false)
  | 2 => ("java/lang/Throwable", "cause", "Ljava/lang/Throwable;", false)
  | 3 => ("java/lang/Throwable", "stackTrace", "[Ljava/lang/StackTraceElement;", false)
  | 4 => ("java/lang/Throwable", "depth", "I", false)
  | _ => ("java/lang/Throwable", "suppressedExceptions", "Ljava/util/List;", false)
def tyJx7c733 : Nat → FieldType := fun k => match k with
  | 0 => .object "java/lang/Object"
  | 1 => .object "java/lang/String"
  | 2 => .object "java/lang/Throwable"
  | 3 => .array (.object "java/lang/StackTraceElement")
  | 4 => .int
  | _ => .object "java/util/List"
abbrev wsJx7c7330 : List Cond := u_ws RJx7c733 TJx7c733 6
theorem nmJx7c733 : ∀ a, a < 6 → ∀ b, b < 6 → a ≠ b → (TJx7c733 a).2.1 ≠ (TJx7c733 b).2.1 := by decide +kernel
theorem tyJx7c733_ok : ∀ k, k < 6 → parseFieldDescriptor (TJx7c733 k).2.2.1 = some (tyJx7c733 k) := by decide +kernel
abbrev cJx7c733_init_d00df : ByteArray := prog_30_method_3_code
def yJx7c733_init_d00df : MethodName := ⟨RJx7c733, "<init>", "(I)V"⟩
def RJ1 : String := "java/lang/StringLatin1"
def TJ1 : u_T := fun k => match k with
  | _ => ("", "", "", false)
def tyJ1 : Nat → FieldType := fun k => match k with
  | _ => .int
abbrev wsJ10 : List Cond := u_ws RJ1 TJ1 0
theorem nmJ1 : ∀ a, a < 0 → ∀ b, b < 0 → a ≠ b → (TJ1 a).2.1 ≠ (TJ1 b).2.1 := by decide +kernel
theorem tyJ1_ok : ∀ k, k < 0 → parseFieldDescriptor (TJ1 k).2.2.1 = some (tyJ1 k) := by decide +kernel
abbrev cJ1_charAt_3b067 : ByteArray := prog_31_method_2_code
def yJ1_charAt_3b067 : MethodName := ⟨RJ1, "charAt", "([BI)C"⟩
abbrev cJ1_canEncode_fc78d : ByteArray := prog_31_method_3_code
def yJ1_canEncode_fc78d : MethodName := ⟨RJ1, "canEncode", "(C)Z"⟩
abbrev cJ1_fillNull_b72d1 : ByteArray := prog_31_method_48_code
def yJ1_fillNull_b72d1 : MethodName := ⟨RJ1, "fillNull", "([BII)V"⟩
abbrev cJ1_inflate_0e8fd : ByteArray := prog_31_method_50_code
def yJ1_inflate_0e8fd : MethodName := ⟨RJ1, "inflate", "([BI[BII)V"⟩
def RJ2 : String := "java/lang/StringUTF16"
def TJ2 : u_T := fun k => match k with
  | _ => ("", "", "", false)
def tyJ2 : Nat → FieldType := fun k => match k with
  | _ => .int
abbrev wsJ20 : List Cond := u_ws RJ2 TJ2 0
theorem nmJ2 : ∀ a, a < 0 → ∀ b, b < 0 → a ≠ b → (TJ2 a).2.1 ≠ (TJ2 b).2.1 := by decide +kernel
theorem tyJ2_ok : ∀ k, k < 0 → parseFieldDescriptor (TJ2 k).2.2.1 = some (tyJ2 k) := by decide +kernel
abbrev cJ2_newBytesFor_77867 : ByteArray := prog_32_method_2_code
def yJ2_newBytesFor_77867 : MethodName := ⟨RJ2, "newBytesFor", "(I)[B"⟩
abbrev cJ2_newBytesLength_0f7a4 : ByteArray := prog_32_method_3_code
def yJ2_newBytesLength_0f7a4 : MethodName := ⟨RJ2, "newBytesLength", "(I)I"⟩
abbrev cJ2_putChar_b72d1 : ByteArray := prog_32_method_4_code
def yJ2_putChar_b72d1 : MethodName := ⟨RJ2, "putChar", "([BII)V"⟩
abbrev cJ2_getChar_3b067 : ByteArray := prog_32_method_5_code
def yJ2_getChar_3b067 : MethodName := ⟨RJ2, "getChar", "([BI)C"⟩
abbrev cJ2_length_9d52b : ByteArray := prog_32_method_6_code
def yJ2_length_9d52b : MethodName := ⟨RJ2, "length", "([B)I"⟩
abbrev cJ2_coderFromArrayLen_85cad : ByteArray := prog_32_method_15_code
def yJ2_coderFromArrayLen_85cad : MethodName := ⟨RJ2, "coderFromArrayLen", "([BI)B"⟩
abbrev cJ2_compress_39247 : ByteArray := prog_32_method_17_code
def yJ2_compress_39247 : MethodName := ⟨RJ2, "compress", "([BII)[B"⟩
abbrev cJ2_compress_5af95 : ByteArray := prog_32_method_22_code
def yJ2_compress_5af95 : MethodName := ⟨RJ2, "compress", "([BI[BII)I"⟩
abbrev cJ2_fillNull_b72d1 : ByteArray := prog_32_method_70_code
def yJ2_fillNull_b72d1 : MethodName := ⟨RJ2, "fillNull", "([BII)V"⟩
abbrev cJ2_putCharSB_b72d1 : ByteArray := prog_32_method_71_code
def yJ2_putCharSB_b72d1 : MethodName := ⟨RJ2, "putCharSB", "([BII)V"⟩
abbrev cJ2_getChars_46870 : ByteArray := prog_32_method_77_code
def yJ2_getChars_46870 : MethodName := ⟨RJ2, "getChars", "(III[B)I"⟩
abbrev cJ2_putCharsAt_cd4e5 : ByteArray := prog_32_method_81_code
def yJ2_putCharsAt_cd4e5 : MethodName := ⟨RJ2, "putCharsAt", "([BICCCC)I"⟩
abbrev cJ2_charAt_3b067 : ByteArray := prog_32_method_83_code
def yJ2_charAt_3b067 : MethodName := ⟨RJ2, "charAt", "([BI)C"⟩
abbrev cJ2_inflate_0e8fd : ByteArray := prog_32_method_86_code
def yJ2_inflate_0e8fd : MethodName := ⟨RJ2, "inflate", "([BI[BII)V"⟩
abbrev cJ2_getChars_ba4f3 : ByteArray := prog_32_method_89_code
def yJ2_getChars_ba4f3 : MethodName := ⟨RJ2, "getChars", "(II[B)I"⟩
abbrev cJ2_checkIndex_2214a : ByteArray := prog_32_method_91_code
def yJ2_checkIndex_2214a : MethodName := ⟨RJ2, "checkIndex", "(I[B)V"⟩
abbrev cJ2_checkBoundsBeginEnd_d044e : ByteArray := prog_32_method_93_code
def yJ2_checkBoundsBeginEnd_d044e : MethodName := ⟨RJ2, "checkBoundsBeginEnd", "(II[B)V"⟩
abbrev cJ2_checkBoundsOffCount_d044e : ByteArray := prog_32_method_94_code
def yJ2_checkBoundsOffCount_d044e : MethodName := ⟨RJ2, "checkBoundsOffCount", "(II[B)V"⟩
def RJ10 : String := "java/lang/System"
def TJ10 : u_T := fun k => match k with
  | _ => ("", "", "", false)
def tyJ10 : Nat → FieldType := fun k => match k with
  | _ => .int
abbrev wsJ100 : List Cond := u_ws RJ10 TJ10 0
theorem nmJ10 : ∀ a, a < 0 → ∀ b, b < 0 → a ≠ b → (TJ10 a).2.1 ≠ (TJ10 b).2.1 := by decide +kernel
theorem tyJ10_ok : ∀ k, k < 0 → parseFieldDescriptor (TJ10 k).2.2.1 = some (tyJ10 k) := by decide +kernel
def RJxfd54e : String := "java/lang/constant/Constable"
def TJxfd54e : u_T := fun k => match k with
  | _ => ("", "", "", false)
def tyJxfd54e : Nat → FieldType := fun k => match k with
  | _ => .int
abbrev wsJxfd54e0 : List Cond := u_ws RJxfd54e TJxfd54e 0
theorem nmJxfd54e : ∀ a, a < 0 → ∀ b, b < 0 → a ≠ b → (TJxfd54e a).2.1 ≠ (TJxfd54e b).2.1 := by decide +kernel
theorem tyJxfd54e_ok : ∀ k, k < 0 → parseFieldDescriptor (TJxfd54e k).2.2.1 = some (tyJxfd54e k) := by decide +kernel
def RJx3cf43 : String := "java/lang/constant/ConstantDesc"
def TJx3cf43 : u_T := fun k => match k with
  | _ => ("", "", "", false)
def tyJx3cf43 : Nat → FieldType := fun k => match k with
  | _ => .int
abbrev wsJx3cf430 : List Cond := u_ws RJx3cf43 TJx3cf43 0
theorem nmJx3cf43 : ∀ a, a < 0 → ∀ b, b < 0 → a ≠ b → (TJx3cf43 a).2.1 ≠ (TJx3cf43 b).2.1 := by decide +kernel
theorem tyJx3cf43_ok : ∀ k, k < 0 → parseFieldDescriptor (TJx3cf43 k).2.2.1 = some (tyJx3cf43 k) := by decide +kernel
def RJ7 : String := "java/util/Arrays"
def TJ7 : u_T := fun k => match k with
  | _ => ("", "", "", false)
def tyJ7 : Nat → FieldType := fun k => match k with
  | _ => .int
abbrev wsJ70 : List Cond := u_ws RJ7 TJ7 0
theorem nmJ7 : ∀ a, a < 0 → ∀ b, b < 0 → a ≠ b → (TJ7 a).2.1 ≠ (TJ7 b).2.1 := by decide +kernel
theorem tyJ7_ok : ∀ k, k < 0 → parseFieldDescriptor (TJ7 k).2.2.1 = some (tyJ7 k) := by decide +kernel
abbrev cJ7_rangeCheck_23922 : ByteArray := prog_38_method_30_code
def yJ7_rangeCheck_23922 : MethodName := ⟨RJ7, "rangeCheck", "(III)V"⟩
abbrev cJ7_fill_eb02e : ByteArray := prog_38_method_110_code
def yJ7_fill_eb02e : MethodName := ⟨RJ7, "fill", "([BIIB)V"⟩
abbrev cJ7_copyOf_9075b : ByteArray := prog_38_method_121_code
def yJ7_copyOf_9075b : MethodName := ⟨RJ7, "copyOf", "([BI)[B"⟩
abbrev cJ7_checkLength_df160 : ByteArray := prog_38_method_131_code
def yJ7_checkLength_df160 : MethodName := ⟨RJ7, "checkLength", "(II)V"⟩
abbrev cJ7_copyOfRange_39247 : ByteArray := prog_38_method_132_code
def yJ7_copyOfRange_39247 : MethodName := ⟨RJ7, "copyOfRange", "([BII)[B"⟩
abbrev cJ7_copyOfRangeByte_39247 : ByteArray := prog_38_method_133_code
def yJ7_copyOfRangeByte_39247 : MethodName := ⟨RJ7, "copyOfRangeByte", "([BII)[B"⟩
def RJ8 : String := "jdk/internal/util/ArraysSupport"
def TJ8 : u_T := fun k => match k with
  | _ => ("", "", "", false)
def tyJ8 : Nat → FieldType := fun k => match k with
  | _ => .int
abbrev wsJ80 : List Cond := u_ws RJ8 TJ8 0
theorem nmJ8 : ∀ a, a < 0 → ∀ b, b < 0 → a ≠ b → (TJ8 a).2.1 ≠ (TJ8 b).2.1 := by decide +kernel
theorem tyJ8_ok : ∀ k, k < 0 → parseFieldDescriptor (TJ8 k).2.2.1 = some (tyJ8 k) := by decide +kernel
abbrev cJ8_newLength_cabcc : ByteArray := prog_40_method_27_code
def yJ8_newLength_cabcc : MethodName := ⟨RJ8, "newLength", "(III)I"⟩
abbrev cJ8_hugeLength_7cf53 : ByteArray := prog_40_method_28_code
def yJ8_hugeLength_7cf53 : MethodName := ⟨RJ8, "hugeLength", "(II)I"⟩
def RJ3 : String := "jdk/internal/util/Preconditions"
def TJ3 : u_T := fun k => match k with
  | _ => ("", "", "", false)
def tyJ3 : Nat → FieldType := fun k => match k with
  | _ => .int
abbrev wsJ30 : List Cond := u_ws RJ3 TJ3 0
theorem nmJ3 : ∀ a, a < 0 → ∀ b, b < 0 → a ≠ b → (TJ3 a).2.1 ≠ (TJ3 b).2.1 := by decide +kernel
theorem tyJ3_ok : ∀ k, k < 0 → parseFieldDescriptor (TJ3 k).2.2.1 = some (tyJ3 k) := by decide +kernel
abbrev cJ3_checkIndex_8e157 : ByteArray := prog_41_method_11_code
def yJ3_checkIndex_8e157 : MethodName := ⟨RJ3, "checkIndex", "(IILjava/util/function/BiFunction;)I"⟩
abbrev cJ3_checkFromToIndex_8c36e : ByteArray := prog_41_method_12_code
def yJ3_checkFromToIndex_8c36e : MethodName := ⟨RJ3, "checkFromToIndex", "(IIILjava/util/function/BiFunction;)I"⟩
abbrev cJ3_checkFromIndexSize_8c36e : ByteArray := prog_41_method_13_code
def yJ3_checkFromIndexSize_8c36e : MethodName := ⟨RJ3, "checkFromIndexSize", "(IIILjava/util/function/BiFunction;)I"⟩
def RL : String := "BiscuitLocksLaw"
abbrev cL_addDoor : ByteArray := method_3_code
def yL_addDoor : MethodName := ⟨RL, "addDoor", "(LBiscuitLocks;III[J)I"⟩
abbrev cL_turn : ByteArray := method_4_code
def yL_turn : MethodName := ⟨RL, "turn", "(LBiscuitLocks;III[J)I"⟩
abbrev cL_tryLock : ByteArray := method_5_code
def yL_tryLock : MethodName := ⟨RL, "tryLock", "(LBiscuitLocks;I[J)I"⟩
abbrev cL_shut : ByteArray := method_6_code
def yL_shut : MethodName := ⟨RL, "shut", "(LBiscuitLocks;I[J)I"⟩
abbrev cL_setCombination : ByteArray := method_7_code
def yL_setCombination : MethodName := ⟨RL, "setCombination", "(LBiscuitLocks;IIII[J)I"⟩
abbrev cL_setDamp : ByteArray := method_8_code
def yL_setDamp : MethodName := ⟨RL, "setDamp", "(LBiscuitLocks;I[J)I"⟩
abbrev cL_bake : ByteArray := method_9_code
def yL_bake : MethodName := ⟨RL, "bake", "(LBiscuitLocks;II[J)I"⟩
abbrev cL_passHours : ByteArray := method_10_code
def yL_passHours : MethodName := ⟨RL, "passHours", "(LBiscuitLocks;I[J)I"⟩
abbrev cL_dial : ByteArray := method_11_code
def yL_dial : MethodName := ⟨RL, "dial", "(LBiscuitLocks;II[J)I"⟩
abbrev cL_combination : ByteArray := method_12_code
def yL_combination : MethodName := ⟨RL, "combination", "(LBiscuitLocks;II[J)I"⟩
abbrev cL_isOpen : ByteArray := method_13_code
def yL_isOpen : MethodName := ⟨RL, "isOpen", "(LBiscuitLocks;I[J)I"⟩
abbrev cL_isBroken : ByteArray := method_14_code
def yL_isBroken : MethodName := ⟨RL, "isBroken", "(LBiscuitLocks;I[J)I"⟩
abbrev cL_crumbs : ByteArray := method_15_code
def yL_crumbs : MethodName := ⟨RL, "crumbs", "(LBiscuitLocks;I[J)I"⟩
abbrev cL_play : ByteArray := method_16_code
def yL_play : MethodName := ⟨RL, "play", "(LBiscuitLocks;I[J)I"⟩
abbrev cL_fittingDials : ByteArray := method_17_code
def yL_fittingDials : MethodName := ⟨RL, "fittingDials", "(LBiscuitLocks;I[J)I"⟩
abbrev cL_stepsToOpen : ByteArray := method_18_code
def yL_stepsToOpen : MethodName := ⟨RL, "stepsToOpen", "(LBiscuitLocks;I[J)I"⟩
abbrev cL_stepsToOpenByTurning : ByteArray := method_19_code
def yL_stepsToOpenByTurning : MethodName := ⟨RL, "stepsToOpenByTurning", "(LBiscuitLocks;I[J)I"⟩
abbrev cL_openingSettings : ByteArray := method_20_code
def yL_openingSettings : MethodName := ⟨RL, "openingSettings", "(LBiscuitLocks;I[J)I"⟩
abbrev cL_triesUntilBroken : ByteArray := method_21_code
def yL_triesUntilBroken : MethodName := ⟨RL, "triesUntilBroken", "(LBiscuitLocks;I[J)I"⟩
abbrev cL_dialAfter : ByteArray := method_22_code
def yL_dialAfter : MethodName := ⟨RL, "dialAfter", "(LBiscuitLocks;III[J)I"⟩
abbrev cL_hoursUntilFitting : ByteArray := method_23_code
def yL_hoursUntilFitting : MethodName := ⟨RL, "hoursUntilFitting", "(LBiscuitLocks;I[J)I"⟩
abbrev cL_bakedDoor : ByteArray := method_24_code
def yL_bakedDoor : MethodName := ⟨RL, "bakedDoor", "(LBiscuitLocks;I[J)I"⟩
abbrev cL_bakingHours : ByteArray := method_25_code
def yL_bakingHours : MethodName := ⟨RL, "bakingHours", "(LBiscuitLocks;I[J)I"⟩
abbrev cL_isBaking : ByteArray := method_26_code
def yL_isBaking : MethodName := ⟨RL, "isBaking", "(LBiscuitLocks;I[J)I"⟩
abbrev cL_doorByCrumbs : ByteArray := method_27_code
def yL_doorByCrumbs : MethodName := ⟨RL, "doorByCrumbs", "(LBiscuitLocks;I[J)I"⟩
abbrev cL_triedDoor : ByteArray := method_28_code
def yL_triedDoor : MethodName := ⟨RL, "triedDoor", "(LBiscuitLocks;I[J)I"⟩
abbrev cL_didOpen : ByteArray := method_29_code
def yL_didOpen : MethodName := ⟨RL, "didOpen", "(LBiscuitLocks;I[J)I"⟩
abbrev cL_meanCrumbs : ByteArray := method_30_code
def yL_meanCrumbs : MethodName := ⟨RL, "meanCrumbs", "(LBiscuitLocks;[D)I"⟩
abbrev cL_openedShare : ByteArray := method_31_code
def yL_openedShare : MethodName := ⟨RL, "openedShare", "(LBiscuitLocks;[D)I"⟩
abbrev cL_renderLock : ByteArray := method_32_code
def yL_renderLock : MethodName := ⟨RL, "renderLock", "(LBiscuitLocks;I[J)I"⟩
abbrev cL_outputAt : ByteArray := method_33_code
def yL_outputAt : MethodName := ⟨RL, "outputAt", "(LBiscuitLocks;I[J)I"⟩
abbrev cL_type : ByteArray := method_34_code
def yL_type : MethodName := ⟨RL, "type", "(LBiscuitLocks;C[J)I"⟩
abbrev cL_runScript : ByteArray := method_35_code
def yL_runScript : MethodName := ⟨RL, "runScript", "(LBiscuitLocks;[J)I"⟩
abbrev cL_errorPosition : ByteArray := method_36_code
def yL_errorPosition : MethodName := ⟨RL, "errorPosition", "(LBiscuitLocks;[J)I"⟩
abbrev cL_failedCommand : ByteArray := method_37_code
def yL_failedCommand : MethodName := ⟨RL, "failedCommand", "(LBiscuitLocks;[J)I"⟩
abbrev cL_undo : ByteArray := method_38_code
def yL_undo : MethodName := ⟨RL, "undo", "(LBiscuitLocks;[J)I"⟩
abbrev cL_restore : ByteArray := method_39_code
def yL_restore : MethodName := ⟨RL, "restore", "(LBiscuitLocks;[J)I"⟩
abbrev cL_law : ByteArray := code
def yL_law : MethodName := ⟨RL, "law", "([I)Z"⟩
abbrev vwCl : List vw_C := [(RJ0, TJ0, 4), (RJ4, TJ4, 4), (RJx00060, TJx00060, 6), (RJx7c733, TJx7c733, 6), (RX2, TX2, 3), (RX3, TX3, 14), (RX4, TX4, 4), (RX6, TX6, 3), (RX7, TX7, 9), (RX8, TX8, 18)]
end
section
/-! ENGINE 1: numbers -/
def iI (z : Int) : Int32 := Int32.ofInt z
theorem iI_add (a b : Int) : iI (a + b) = iI a + iI b := Int32.ofInt_add a b
theorem iI_sub (a b : Int) : iI (a - b) = iI a - iI b := Int32.ofInt_sub a b
theorem iI_mul (a b : Int) : iI (a * b) = iI a * iI b := Int32.ofInt_mul a b
theorem iI_neg (a : Int) : iI (-a) = -iI a := Int32.ofInt_neg a
theorem iI_of (x : Int32) : x = iI x.toInt := (Int32.ofInt_toInt x).symm
theorem iI_toInt {z : Int} (h : -2147483648 ≤ z ∧ z ≤ 2147483647) : (iI z).toInt = z := Int32.toInt_ofInt_of_le (by omega) (by omega)
theorem iI_eq {a b : Int} (ha : -2147483648 ≤ a ∧ a ≤ 2147483647) (hb : -2147483648 ≤ b ∧ b ≤ 2147483647) : iI a = iI b ↔ a = b :=
  ⟨fun h => by rw [← iI_toInt ha, ← iI_toInt hb, h], fun h => by rw [h]⟩
theorem iI_lt {a b : Int} (ha : -2147483648 ≤ a ∧ a ≤ 2147483647) (hb : -2147483648 ≤ b ∧ b ≤ 2147483647) : iI a < iI b ↔ a < b := by
  rw [Int32.lt_iff_toInt_lt, iI_toInt ha, iI_toInt hb]
theorem iI_le {a b : Int} (ha : -2147483648 ≤ a ∧ a ≤ 2147483647) (hb : -2147483648 ≤ b ∧ b ≤ 2147483647) : iI a ≤ iI b ↔ a ≤ b := by
  rw [Int32.le_iff_toInt_le, iI_toInt ha, iI_toInt hb]
theorem iI_0 : iI 0 = 0 := rfl
theorem iI_cl {z : Int} (h0 : 0 ≤ z) (h1 : z < 2147483648) : (iI z).toNatClampNeg = z.toNat := Int32.toNatClampNeg_ofInt_of_le (by omega) (by omega)
theorem iI_nat (k : Nat) : iI (k : Int) = Int32.ofNat k := Int32.ofInt_eq_ofNat
theorem iI_vp {z : Int} {n : Nat} (h0 : 0 ≤ z) (h1 : z < n) (hn : n < 2147483648) : vp_in (iI z) n := by
  rw [vp_in_iff, iI_toInt (by omega)]; omega
theorem iI_ne0 {b : Int} (h0 : 0 < b) (h1 : b ≤ 2147483647) : ¬ iI b = 0 := by
  rw [← iI_0, iI_eq (by omega) (by omega)]; omega
theorem iI_div {a b : Int} (ha : 0 ≤ a ∧ a ≤ 2147483647) (hb : 0 < b ∧ b ≤ 2147483647) : iI a / iI b = iI (a / b) := by
  apply Int32.toInt_inj.mp
  have hq : a / b ≤ a := Int.ediv_le_self b ha.1
  have hq0 : 0 ≤ a / b := Int.ediv_nonneg ha.1 (by omega)
  rw [Int32.toInt_div_of_ne_right _ _ (fun h => by have h2 : (iI b).toInt = (-1 : Int32).toInt := by rw [h]
                                                   rw [iI_toInt (by omega)] at h2; rw [show ((-1 : Int32).toInt) = -1 by decide] at h2; omega),
    iI_toInt (by omega), iI_toInt (by omega), iI_toInt (by omega), Int.tdiv_eq_ediv_of_nonneg ha.1]
theorem iI_rem {a b : Int} (ha : 0 ≤ a ∧ a ≤ 2147483647) (hb : 0 < b ∧ b ≤ 2147483647) : iI a - iI a / iI b * iI b = iI (a % b) := by
  rw [iI_div ha hb, ← iI_mul, ← iI_sub]
  congr 1
  rw [Int.emod_def, Int.mul_comm]
theorem iI_bip : ∀ k : Nat, k < 256 → (Int8.ofInt ((k : Int) - 128)).toInt32 = iI ((k : Int) - 128) := by decide +kernel
theorem iI_bipush {z : Int} (h : -128 ≤ z ∧ z ≤ 127) : (Int8.ofInt z).toInt32 = iI z := by
  have h1 := iI_bip (z + 128).toNat (by omega)
  rwa [show (((z + 128).toNat : Nat) : Int) - 128 = z by omega] at h1
theorem iI_sipush {z : Int} (h : -32768 ≤ z ∧ z ≤ 32767) : (Int16.ofInt z).toInt32 = iI z := by
  apply Int32.toInt_inj.mp
  rw [Int16.toInt_toInt32, Int16.toInt_ofInt_of_le (by omega) (by omega), iI_toInt (by omega)]
theorem iI_long {z : Int} (h : -2147483648 ≤ z ∧ z ≤ 2147483647) : (iI z).toInt64 = Int64.ofInt z := by
  apply Int64.toInt_inj.mp
  rw [Int32.toInt_toInt64, iI_toInt h, Int64.toInt_ofInt_of_le (by omega) (by omega)]
/-! ENGINE 2: abstract values, cells, memory. A cell is called by a number; numbers below e_NC are constants (old cells), the others are the cells made since the law began, in their order -/
abbrev aV : Type := Int ⊕ (Option Nat ⊕ (Int64 ⊕ (UInt32 ⊕ UInt64)))
abbrev vI (z : Int) : aV := Sum.inl z
abbrev vO (r : Option Nat) : aV := Sum.inr (Sum.inl r)
abbrev vR (k : Nat) : aV := Sum.inr (Sum.inl (some k))
abbrev vN : aV := Sum.inr (Sum.inl none)
abbrev vL (z : Int64) : aV := Sum.inr (Sum.inr (Sum.inl z))
abbrev vF (z : UInt32) : aV := Sum.inr (Sum.inr (Sum.inr (Sum.inl z)))
abbrev vD (z : UInt64) : aV := Sum.inr (Sum.inr (Sum.inr (Sum.inr z)))
abbrev aA : Type := Nat × ((Nat → Int) ⊕ ((Nat → Int64) ⊕ ((Nat → UInt64) ⊕ (Nat → Option Nat))))
abbrev aE : Type := (Nat × aA) ⊕ (Nat × List aV)
abbrev Mem : Type := Nat → aE
abbrev cI (kd len : Nat) (f : Nat → Int) : aE := Sum.inl (kd, (len, Sum.inl f))
abbrev cL (kd len : Nat) (f : Nat → Int64) : aE := Sum.inl (kd, (len, Sum.inr (Sum.inl f)))
abbrev cD (kd len : Nat) (f : Nat → UInt64) : aE := Sum.inl (kd, (len, Sum.inr (Sum.inr (Sum.inl f))))
abbrev cR (kd len : Nat) (f : Nat → Option Nat) : aE := Sum.inl (kd, (len, Sum.inr (Sum.inr (Sum.inr f))))
abbrev cO (ci : Nat) (fs : List aV) : aE := Sum.inr (ci, fs)
abbrev e_NC : Nat := 100
def e_cv (ad : Nat → Nat) (v : aV) : Value := match v with
  | .inl z => .int (iI z)
  | .inr (.inl none) => .null
  | .inr (.inl (some k)) => .ref (ad k)
  | .inr (.inr (.inl z)) => .long z
  | .inr (.inr (.inr (.inl z))) => .float z
  | .inr (.inr (.inr (.inr z))) => .double z
def e_wfV (n : Nat) (v : aV) : Prop := match v with
  | .inr (.inl (some k)) => k < n
  | _ => True
def e_wfS (n : Nat) (st : List aV) : Prop := match st with
  | [] => True
  | v :: r => e_wfV n v ∧ e_wfS n r
theorem e_cv_ext {ad ad' : Nat → Nat} {n : Nat} (h : ∀ k, k < n → ad' k = ad k) {v : aV} (hv : e_wfV n v) : e_cv ad' v = e_cv ad v := by
  match v, hv with
  | .inl z, _ => rfl
  | .inr (.inl none), _ => rfl
  | .inr (.inl (some k)), hv => show Value.ref (ad' k) = Value.ref (ad k); rw [h k hv]
  | .inr (.inr (.inl z)), _ => rfl
  | .inr (.inr (.inr (.inl z))), _ => rfl
  | .inr (.inr (.inr (.inr z))), _ => rfl
theorem e_wfV_mono {n n' : Nat} (h : n ≤ n') {v : aV} (hv : e_wfV n v) : e_wfV n' v := by
  match v, hv with
  | .inl z, _ => trivial
  | .inr (.inl none), _ => trivial
  | .inr (.inl (some k)), hv => exact Nat.lt_of_lt_of_le hv h
  | .inr (.inr (.inl z)), _ => trivial
  | .inr (.inr (.inr (.inl z))), _ => trivial
  | .inr (.inr (.inr (.inr z))), _ => trivial
theorem e_wfS_mono {n n' : Nat} (h : n ≤ n') : ∀ {st : List aV}, e_wfS n st → e_wfS n' st
  | [], _ => trivial
  | _ :: _, hs => ⟨e_wfV_mono h hs.1, e_wfS_mono h hs.2⟩
theorem e_wfS_app {n : Nat} : ∀ {a b : List aV}, e_wfS n (a ++ b) ↔ e_wfS n a ∧ e_wfS n b
  | [], b => ⟨fun h => ⟨trivial, h⟩, fun h => h.2⟩
  | v :: a, b => ⟨fun h => ⟨⟨h.1, (e_wfS_app.mp h.2).1⟩, (e_wfS_app.mp h.2).2⟩, fun h => ⟨h.1.1, e_wfS_app.mpr ⟨h.1.2, h.2⟩⟩⟩
theorem e_wfS_rev {n : Nat} : ∀ {a : List aV}, e_wfS n a.reverse → e_wfS n a
  | [], _ => trivial
  | v :: a, h => by
    rw [List.reverse_cons] at h
    have h2 := e_wfS_app.mp h
    exact ⟨h2.2.1, e_wfS_rev h2.1⟩
theorem e_wfS_mem {n : Nat} : ∀ {a : List aV}, e_wfS n a → ∀ v ∈ a, e_wfV n v
  | [], _, v, h => nomatch h
  | _ :: a, hs, v, h => by
    rcases List.mem_cons.mp h with rfl | h
    · exact hs.1
    · exact e_wfS_mem hs.2 v h
theorem e_wfS_of {n : Nat} : ∀ {a : List aV}, (∀ v ∈ a, e_wfV n v) → e_wfS n a
  | [], _ => trivial
  | _ :: _, h => ⟨h _ List.mem_cons_self, e_wfS_of fun v hv => h v (List.mem_cons_of_mem _ hv)⟩
theorem e_map_ext {ad ad' : Nat → Nat} {n : Nat} (h : ∀ k, k < n → ad' k = ad k) : ∀ {st : List aV}, e_wfS n st → st.map (e_cv ad') = st.map (e_cv ad)
  | [], _ => rfl
  | v :: r, hs => by
    show e_cv ad' v :: r.map (e_cv ad') = e_cv ad v :: r.map (e_cv ad)
    rw [e_cv_ext h hs.1, e_map_ext h hs.2]
def e_ca (ad : Nat → Nat) (a : aA) : vp_A := (a.1, match a.2 with
  | .inl f => .inl (fun j => iI (f j))
  | .inr (.inl f) => .inr (.inl f)
  | .inr (.inr (.inl f)) => .inr (.inr (.inr (.inl f)))
  | .inr (.inr (.inr g)) => .inr (.inr (.inr (.inr (fun j => (g j).map ad)))))
def e_ce (tys : List (ClassId × FieldType)) (ad : Nat → Nat) (c : aE) : va_E := match c with
  | .inl (k, a) => .inl ((tys.getD k (0, .int)).1, e_ca ad a)
  | .inr (ci, fs) => .inr (ci, fs.map (e_cv ad))
def e_wfE (n : Nat) (c : aE) : Prop := match c with
  | .inl (kd, (_, .inr (.inr (.inr g)))) => kd < 7 ∧ ∀ j r, g j = some r → r < n
  | .inl (kd, _) => kd < 7
  | .inr (_, fs) => e_wfS n fs
theorem e_wfE_kd {n kd : Nat} {a : aA} (h : e_wfE n (.inl (kd, a))) : kd < 7 := by
  match a, h with
  | (_, .inr (.inr (.inr g))), h => exact h.1
  | (_, .inl f), h => exact h
  | (_, .inr (.inl f)), h => exact h
  | (_, .inr (.inr (.inl f))), h => exact h
theorem e_wfE_mono {n n' : Nat} (h : n ≤ n') {c : aE} (hc : e_wfE n c) : e_wfE n' c := by
  match c, hc with
  | .inl (_, (_, .inr (.inr (.inr g)))), hc => exact ⟨hc.1, fun j r hj => Nat.lt_of_lt_of_le (hc.2 j r hj) h⟩
  | .inl (_, (_, .inl f)), hc => exact hc
  | .inl (_, (_, .inr (.inl f))), hc => exact hc
  | .inl (_, (_, .inr (.inr (.inl f)))), hc => exact hc
  | .inr (_, fs), hc => exact e_wfS_mono h (show e_wfS n fs from hc)
theorem e_ce_ext {tys : List (ClassId × FieldType)} {ad ad' : Nat → Nat} {n : Nat} (h : ∀ k, k < n → ad' k = ad k) {c : aE} (hc : e_wfE n c) : e_ce tys ad' c = e_ce tys ad c := by
  match c, hc with
  | .inl (k, (len, .inr (.inr (.inr g)))), hc =>
    have e : (fun j => (g j).map ad') = (fun j => (g j).map ad) := by
      funext j
      cases hj : g j with
      | none => rfl
      | some r => show some (ad' r) = some (ad r); rw [h r (hc.2 j r hj)]
    show (Sum.inl (_, (len, Sum.inr (Sum.inr (Sum.inr (Sum.inr (fun j => (g j).map ad')))))) : va_E) = _
    rw [e]; rfl
  | .inl (_, (_, .inl f)), _ => rfl
  | .inl (_, (_, .inr (.inl f))), _ => rfl
  | .inl (_, (_, .inr (.inr (.inl f)))), _ => rfl
  | .inr (ci, fs), hc =>
    show (Sum.inr (ci, fs.map (e_cv ad')) : va_E) = Sum.inr (ci, fs.map (e_cv ad))
    rw [e_map_ext h (show e_wfS n fs from hc)]
/-- the list of all new cells, as the kit's rows want it -/
def e_ws (tys : List (ClassId × FieldType)) (ad : Nat → Nat) (M : Mem) (n : Nat) : va_W := (List.range (n - e_NC)).map (fun j => (ad (e_NC + j), e_ce tys ad (M (e_NC + j))))
theorem e_ws_get {tys : List (ClassId × FieldType)} {ad : Nat → Nat} {M : Mem} {n k : Nat} (h1 : e_NC ≤ k) (h2 : k < n) : (e_ws tys ad M n)[k - e_NC]? = some (ad k, e_ce tys ad (M k)) := by
  unfold e_ws
  rw [List.getElem?_map, List.getElem?_range (by omega), Option.map_some]
  have e : e_NC + (k - e_NC) = k := by omega
  rw [e]
theorem e_ws_at {tys : List (ClassId × FieldType)} {ad : Nat → Nat} {M : Mem} {n i : Nat} {q : Nat × va_E} (h : (e_ws tys ad M n)[i]? = some q) : e_NC + i < n ∧ q = (ad (e_NC + i), e_ce tys ad (M (e_NC + i))) := by
  unfold e_ws at h
  rw [List.getElem?_map] at h
  by_cases hi : i < n - e_NC
  · rw [List.getElem?_range hi, Option.map_some] at h
    exact ⟨by omega, (Option.some.inj h).symm⟩
  · rw [List.getElem?_eq_none (by simp; omega)] at h
    cases h
theorem e_ws_len {tys : List (ClassId × FieldType)} {ad : Nat → Nat} {M : Mem} {n : Nat} : (e_ws tys ad M n).length = n - e_NC := by simp [e_ws]
theorem e_ws_set {tys : List (ClassId × FieldType)} {ad : Nat → Nat} {M : Mem} {n k : Nat} {c : aE} (h1 : e_NC ≤ k) (h2 : k < n) : (e_ws tys ad M n).set (k - e_NC) (ad k, e_ce tys ad c) = e_ws tys ad (va_up M k c) n := by
  apply List.ext_getElem?
  intro i
  by_cases hi : i = k - e_NC
  · subst hi
    rw [List.getElem?_set_self (by rw [e_ws_len]; omega), e_ws_get h1 h2, va_up_self]
  · rw [List.getElem?_set_ne (fun h => hi h.symm)]
    unfold e_ws
    rw [List.getElem?_map, List.getElem?_map]
    by_cases h3 : i < n - e_NC
    · rw [List.getElem?_range h3, Option.map_some, Option.map_some, va_up_ne _ _ (by omega)]
    · rw [List.getElem?_eq_none (by simp; omega)]; rfl
theorem e_ws_push {tys : List (ClassId × FieldType)} {ad : Nat → Nat} {M : Mem} {n q : Nat} {c : aE} (h1 : e_NC ≤ n) (hw : ∀ k, e_NC ≤ k → k < n → e_wfE n (M k)) : e_ws tys (va_up ad n q) (va_up M n c) (n + 1) = e_ws tys ad M n ++ [(q, e_ce tys (va_up ad n q) c)] := by
  unfold e_ws
  rw [show n + 1 - e_NC = (n - e_NC) + 1 by omega, List.range_succ, List.map_append]
  congr 1
  · apply List.map_congr_left
    intro j hj
    have hj2 : j < n - e_NC := List.mem_range.mp hj
    rw [va_up_ne _ _ (by omega : e_NC + j ≠ n), va_up_ne _ _ (by omega : e_NC + j ≠ n), e_ce_ext (n := n) (ad := ad) (fun k hk => va_up_ne _ _ (by omega)) (hw _ (by omega) (by omega))]
  · show [(va_up ad n q (e_NC + (n - e_NC)), e_ce tys (va_up ad n q) (va_up M n c (e_NC + (n - e_NC))))] = [(q, e_ce tys (va_up ad n q) c)]
    rw [show e_NC + (n - e_NC) = n by omega, va_up_self, va_up_self]
end
section
/-! ENGINE 3: the words, the surroundings, a frame at a pc (G), a method's contract (Ct) -/
def e_WS : List Cond := lw_tbl.filter goodWord
theorem e_WS_good : ∀ w ∈ e_WS, goodWord w = true := fun w h => (List.mem_filter.mp h).2
theorem e_WS_in {w : Cond} (h : w ∈ lw_tbl) (g : goodWord w = true) : w ∈ e_WS := List.mem_filter.mpr ⟨h, g⟩
theorem e_WS_tbl {args : Array Value} {s : State} (h : ∀ w ∈ lw_tbl, w.before args s = true) : ∀ w ∈ e_WS, w.before args s = true := fun w hw => h w (List.mem_filter.mp hw).1
/-- own class, name, bytes, locals, return type, handlers, instructions (pc, instruction, next pc) -/
abbrev MD : Type := String × (MethodName × (ByteArray × (Nat × (Option FieldType × (List (Nat × Nat × Nat × Nat) × List (Nat × Instr × Nat))))))
abbrev MD.own (X : MD) : String := X.1
abbrev MD.y (X : MD) : MethodName := X.2.1
abbrev MD.cc (X : MD) : ByteArray := X.2.2.1
abbrev MD.mL (X : MD) : Nat := X.2.2.2.1
abbrev MD.rt (X : MD) : Option FieldType := X.2.2.2.2.1
abbrev MD.hh (X : MD) : List (Nat × Nat × Nat × Nat) := X.2.2.2.2.2.1
abbrev MD.tb (X : MD) : List (Nat × Instr × Nat) := X.2.2.2.2.2.2
def ilen : Instr → Nat
  | .aload _ => 2 | .astore _ => 2 | .iload _ => 2 | .istore _ => 2 | .dload _ => 2 | .dstore _ => 2 | .fload _ => 2 | .fstore _ => 2 | .bipush _ => 2 | .ldc _ => 2 | .newarray _ => 2
  | .sipush _ => 3 | .getfield _ => 3 | .putfield _ => 3 | .getstatic _ => 3 | .goto _ => 3 | .if_icmp _ _ => 3 | .ifCond _ _ => 3 | .if_acmp _ _ => 3 | .ifnull _ => 3 | .ifnonnull _ => 3 | .iinc _ _ => 3
  | .invokevirtual _ => 3 | .invokespecial _ => 3 | .invokestatic _ => 3 | .new _ => 3 | .anewarray _ => 3 | .ldc_w _ => 3 | .ldc2_w _ => 3 | .checkcast _ => 3
  | _ => 1
def e_tb (cc : ByteArray) (tb : List (Nat × Instr × Nat)) : Bool := tb.all (fun q => decide (decode cc q.1 = .ok (q.2.1, ilen q.2.1)) && decide (q.2.2 = q.1 + ilen q.2.1))
theorem e_tb_at {cc : ByteArray} {tb : List (Nat × Instr × Nat)} (h : e_tb cc tb = true) {i pc pc' : Nat} {ins : Instr} (hi : tb[i]? = some (pc, ins, pc')) : decode cc pc = .ok (ins, ilen ins) ∧ pc' = pc + ilen ins := by
  have h1 := List.all_eq_true.mp h _ (List.mem_of_getElem? hi)
  simp only [Bool.and_eq_true, decide_eq_true_eq] at h1
  exact h1
theorem e_tb_mem {cc : ByteArray} {tb : List (Nat × Instr × Nat)} (h : e_tb cc tb = true) {q : Nat × Instr × Nat} (hi : q ∈ tb) : decode cc q.1 = .ok (q.2.1, ilen q.2.1) ∧ q.2.2 = q.1 + ilen q.2.1 := by
  have h1 := List.all_eq_true.mp h _ hi
  simp only [Bool.and_eq_true, decide_eq_true_eq] at h1
  exact h1
/-- launch, the state at the law's start, classes and slots, array classes, where the constants lie, what they hold -/
abbrev Cx : Type := Launch × (State × (va_G × (List (ClassId × FieldType) × ((Nat → Nat) × (Nat → aE)))))
abbrev Cx.l (Γ : Cx) : Launch := Γ.1
abbrev Cx.s0 (Γ : Cx) : State := Γ.2.1
abbrev Cx.D (Γ : Cx) : va_G := Γ.2.2.1
abbrev Cx.tys (Γ : Cx) : List (ClassId × FieldType) := Γ.2.2.2.1
abbrev Cx.ac (Γ : Cx) : Nat → Nat := Γ.2.2.2.2.1
abbrev Cx.cM (Γ : Cx) : Nat → aE := Γ.2.2.2.2.2
def e_FR (Γ : Cx) : Nat → Prop := fun q => Γ.s0.heap.size ≤ q
/-- the kinds of arrays: new ones below 10, constant ones from 10 on -/
def e_TY (k : Nat) : FieldType := match k with
  | 0 => .int | 1 => .boolean | 2 => .byte | 3 => .long | 4 => .double | 5 => .object "BiscuitLocks$Lock" | 6 => .object "BiscuitLocks$House"
  | 10 => .int | 11 => .byte | _ => .object "BiscuitLocks$Command"
/-- the constant objects' classes, from 20 on: the fields that are read -/
def e_KT (ci : Nat) : String × List (String × String × String) := match ci with
  | 20 => ("BiscuitLocks$Command", [("java/lang/Enum", "ordinal", "I"), ("BiscuitLocks$Command", "form", "Ljava/lang/String;")])
  | 21 => ("BiscuitLocks$Refusal", [("java/lang/Enum", "ordinal", "I")])
  | _ => ("java/lang/String", [("java/lang/String", "value", "[B"), ("java/lang/String", "coder", "B")])
def e_cst (Γ : Cx) (k : Nat) : Prop := match Γ.cM k with
  | .inl (kd, (len, .inl f)) => 10 ≤ kd ∧ va_T (e_TY kd) (Γ.ac k) len (fun j => .int (iI (f j))) (e_FR Γ) Γ.s0 Γ.s0.heap
  | .inl (kd, (len, .inr (.inr (.inr g)))) => 10 ≤ kd ∧ va_T (e_TY kd) (Γ.ac k) len (fun j => va_rf ((g j).map Γ.ac)) (e_FR Γ) Γ.s0 Γ.s0.heap ∧ ∀ j r, g j = some r → r < e_NC
  | .inl _ => False
  | .inr (ci, fs) => 20 ≤ ci ∧ va_O (e_KT ci).1 (Γ.ac k) (e_FR Γ) Γ.s0 Γ.s0.heap ∧ e_wfS e_NC fs ∧ ∀ (j : Nat) (v : aV), fs[j]? = some v → ∃ q : String × String × String, (e_KT ci).2[j]? = some q ∧ va_OF q.1 q.2.1 q.2.2 (e_cv Γ.ac v) (Γ.ac k) (e_FR Γ) Γ.s0 Γ.s0.heap
def e_dum : aE := cO 99 []
def e_Env (Γ : Cx) (ST : List (String × String × String × aV)) (SR : List (String × Nat × String × Nat)) (WN : List Cond) (NN : List (String × String)) : Prop :=
  Γ.l.stackTraces = false ∧ va_K Γ.D vwCl Γ.tys Γ.s0 ∧ Γ.tys.map (fun q => q.2) = [e_TY 0, e_TY 1, e_TY 2, e_TY 3, e_TY 4, e_TY 5, e_TY 6] ∧
  (∀ k, k < e_NC → Γ.cM k = e_dum ∨ e_cst Γ k) ∧
  (∀ q ∈ ST, e_wfV e_NC q.2.2.2 ∧ va_Z q.1 q.2.1 q.2.2.1 (e_cv Γ.ac q.2.2.2) (e_FR Γ) Γ.s0 Γ.s0.heap) ∧
  (∀ q ∈ SR, q.2.2.2 < e_NC ∧ vk_R q.1 q.2.1 q.2.2.1 (Γ.ac q.2.2.2) Γ.s0) ∧
  (∀ w ∈ WN, va_Nw w Γ.s0) ∧
  (∀ q ∈ NN, va_Nc q.1 q.2 Γ.s0) ∧
  vx_Zq Bundle.tN "UNASSIGNED_STACK" Bundle.steD (e_FR Γ) Γ.s0 Γ.s0.heap ∧ vx_Zq Bundle.tN "SUPPRESSED_SENTINEL" Bundle.listD (e_FR Γ) Γ.s0 Γ.s0.heap ∧
  (∀ i j, i < e_NC → j < e_NC → Γ.cM i ≠ e_dum → Γ.cM j ≠ e_dum → Γ.ac i = Γ.ac j → i = j)
/-- the memory M of n cells lies in the heap H -/
def e_Wp (Γ : Cx) (ad : Nat → Nat) (M : Mem) (n : Nat) (H : Heap) : Prop :=
  e_NC ≤ n ∧ (∀ k, k < e_NC → M k = Γ.cM k ∧ ad k = Γ.ac k) ∧ (∀ k, e_NC ≤ k → k < n → e_wfE n (M k)) ∧ va_P Γ.D vwCl (e_ws Γ.tys ad M n) H ∧ va_D (e_FR Γ) (e_ws Γ.tys ad M n) ∧
  Γ.s0.heap.size ≤ H.size ∧ ∀ q : Nat, q < Γ.s0.heap.size → H[q]? = Γ.s0.heap[q]?
def e_Ex (ad : Nat → Nat) (n : Nat) (ad' : Nat → Nat) (n' : Nat) : Prop := n ≤ n' ∧ ∀ k, k < n → ad' k = ad k
abbrev Rv : Type := Option aV ⊕ String
def e_wfO (n : Nat) (v : Option aV) : Prop := match v with
  | none => True
  | some v => e_wfV n v
def e_Qc (Γ : Cx) (Q : Rv → Mem → Nat → Prop) (ad0 : Nat → Nat) (n0 : Nat) : Array Value → State → Outcome → State → Prop := fun _ _ o t =>
  ∃ (v : Option aV) (M : Mem) (n : Nat) (ad : Nat → Nat), o = .returned (v.map (e_cv ad)) ∧ Q (.inl v) M n ∧ e_Ex ad0 n0 ad n ∧ e_wfO n v ∧ e_Wp Γ ad M n t.heap
def e_XC (Γ : Cx) (Q : Rv → Mem → Nat → Prop) (ad0 : Nat → Nat) (n0 : Nat) : String → State → State → Prop := fun E _ t =>
  ∃ (M : Mem) (n : Nat) (ad : Nat → Nat), Q (.inr E) M n ∧ e_Ex ad0 n0 ad n ∧ e_Wp Γ ad M n t.heap
def e_Pc (Γ : Cx) (ad : Nat → Nat) (as : List aV) (M : Mem) (n : Nat) : Array Value → State → Prop := fun a U =>
  a = (as.map (e_cv ad)).toArray ∧ e_wfS n as ∧ Γ.s0.WarmedH U.vm ∧ e_Wp Γ ad M n U.heap
def e_cw (X : MD) : Cond := match X.hh with
  | [] => .code X.y X.cc X.mL X.rt
  | _ => .codeWith X.y X.cc X.mL X.rt X.hh
def e_wsM (X : MD) : List Cond := e_cw X :: e_WS
abbrev e_rm (d mc ms : Nat) : Room := { frames := d + 16, cells := mc, slots := ms, locals := 64 * d + 400 }
/-- the lists of the surroundings: statics, texts, words, pairs not castable -/
abbrev Ls : Type := List (String × String × String × aV) × (List (String × Nat × String × Nat) × (List Cond × List (String × String)))
/-- a method's contract -/
def Ct (Λ : Ls) (Γ : Cx) (X : MD) (d mc ms : Nat) (as : List aV) (M : Mem) (n : Nat) (Q : Rv → Mem → Nat → Prop) : Prop :=
  e_Env Γ Λ.1 Λ.2.1 Λ.2.2.1 Λ.2.2.2 → ∀ ad : Nat → Nat, vx_Met Γ.l X.y (e_wsM X) (e_rm d mc ms) (e_Pc Γ ad as M n) (e_Qc Γ Q ad n) (e_XC Γ Q ad n) mc ms (e_FR Γ)
def e_Mf (X : MD) (p : Program) (s : State) (m : MethodId) (args : Array Value) (meth : Method) (c : Code) : Prop :=
  p.tables.exec = Jvm.exec ∧ c.code = X.cc ∧ c.maxLocals = X.mL ∧ meth.sig.returnType = X.rt ∧ meth.locks = false ∧ s.vm.findClass X.own = some m.cls ∧ (∀ w ∈ e_WS, w.before args s = true) ∧
  c.exceptionTable.toList = tableOf X.hh ∧ meth.name = X.y.name ∧ e_tb X.cc X.tb = true
def e_LR (ad : Nat → Nat) (n : Nat) (ls : List (Option aV)) (lsA : Array Slot) (nL : Nat) : Prop :=
  ls.length = nL ∧ lv_has lsA nL [] ∧ ∀ (j : Nat) (v : aV), ls[j]? = some (some v) → e_wfV n v ∧ lsA[j]? = some (.val (e_cv ad v))
/-- what stands fast for a frame: the method, the room, the heap at its start -/
def e_Fx (Γ : Cx) (X : MD) (d mc ms : Nat) (p : Program) (R : Room) (s : State) (m : MethodId) (args : Array Value) (meth : Method) (c : Code) : Prop :=
  e_Mf X p s m args meth c ∧ Γ.s0.WarmedH s.vm ∧ (d + 16 ≤ R.frames ∧ 64 * d + 400 ≤ R.locals ∧ mc ≤ R.cells ∧ ms ≤ R.slots) ∧ Γ.s0.heap.size ≤ s.heap.size ∧ ∀ q : Nat, q < Γ.s0.heap.size → s.heap[q]? = Γ.s0.heap[q]?
/-- a frame of the method X at pc, locals ls, stack st, memory M of n cells, kc cells and ks slots made: it comes to an end as Q says -/
def G (Λ : Ls) (Γ : Cx) (X : MD) (d mc ms : Nat) (Q : Rv → Mem → Nat → Prop) (pc : Nat) (ls : List (Option aV)) (st : List aV) (M : Mem) (n kc ks : Nat) : Prop :=
  e_Env Γ Λ.1 Λ.2.1 Λ.2.2.1 Λ.2.2.2 → ∀ (p : Program) (e : Env) (R : Room) (s : State) (m : MethodId) (args : Array Value) (below : List Frame) (meth : Method) (c : Code) (H : Heap) (locs : List Loc) (ad ad0 : Nat → Nat) (n0 : Nat) (lsA : Array Slot),
    e_Fx Γ X d mc ms p R s m args meth c → kc ≤ mc → ks ≤ ms → e_Ex ad0 n0 ad n → e_Wp Γ ad M n H → va_S (e_FR Γ) s.heap H locs → e_LR ad n ls lsA X.mL → e_wfS n st →
    W p Γ.l e R s m args below meth c H locs kc ks (vx_MQ below (e_Qc Γ Q ad0 n0) (e_XC Γ Q ad0 n0) args s mc ms (e_FR Γ)) (F0 m pc lsA (st.map (e_cv ad)))
/-- .. and with an exception of class E thrown at pc -/
def GX (Λ : Ls) (Γ : Cx) (X : MD) (d mc ms : Nat) (Q : Rv → Mem → Nat → Prop) (E : String) (pc : Nat) (ls : List (Option aV)) (M : Mem) (n kc ks : Nat) : Prop :=
  e_Env Γ Λ.1 Λ.2.1 Λ.2.2.1 Λ.2.2.2 → ∀ (p : Program) (e : Env) (R : Room) (s : State) (m : MethodId) (args : Array Value) (below : List Frame) (meth : Method) (c : Code) (H : Heap) (locs : List Loc) (ad ad0 : Nat → Nat) (n0 : Nat) (lsA : Array Slot) (rest : List Value) (q : Addr) (ce : Cell),
    e_Fx Γ X d mc ms p R s m args meth c → kc ≤ mc → ks ≤ ms → e_Ex ad0 n0 ad n → e_Wp Γ ad M n H → va_S (e_FR Γ) s.heap H locs → e_LR ad n ls lsA X.mL → H[q]? = some ce → ce.vm = .none → s.vm.findClass E = some ce.cls →
    vx_W p Γ.l e R s m args below meth c H locs kc ks (vx_MQ below (e_Qc Γ Q ad0 n0) (e_XC Γ Q ad0 n0) args s mc ms (e_FR Γ)) (F0 m pc lsA rest) q
/-! what the surroundings give at a frame -/
section F1
variable {Γ : Cx} {X : MD} {d mc ms : Nat} {p : Program} {R : Room} {s : State} {m : MethodId} {args : Array Value} {meth : Method} {c : Code}
theorem e_K (hE : va_K Γ.D vwCl Γ.tys Γ.s0) (hF : e_Fx Γ X d mc ms p R s m args meth c) : va_K Γ.D vwCl Γ.tys s := va_K.moved hF.2.1.alike hE
theorem e_old (hF : e_Fx Γ X d mc ms p R s m args meth c) : ∀ a : Nat, a < Γ.s0.heap.size → ¬ e_FR Γ a → s.heap[a]? = Γ.s0.heap[a]? := fun a h _ => hF.2.2.2.2 a h
theorem e_A (hF : e_Fx Γ X d mc ms p R s m args meth c) : ∀ q : Nat, s.heap.size ≤ q → e_FR Γ q := fun q h => Nat.le_trans hF.2.2.2.1 h
theorem e_w (hF : e_Fx Γ X d mc ms p R s m args meth c) {w : Cond} (h : w ∈ e_WS) : w.before args s = true := hF.1.2.2.2.2.2.2.1 w h
theorem e_Wp_old {ad : Nat → Nat} {M : Mem} {n : Nat} {H : Heap} (h : e_Wp Γ ad M n H) : ∀ q : Nat, q < Γ.s0.heap.size → H[q]? = Γ.s0.heap[q]? := h.2.2.2.2.2.2
end F1
end
section
/-! ENGINE 4: a run of instructions on locals and stack alone, computed -/
def c2v (o : Option aV) : Bool := match o with
  | some (.inr (.inr (.inl _))) => true
  | some (.inr (.inr (.inr (.inr _)))) => true
  | _ => false
theorem c2v_cat {ad : Nat → Nat} {v : aV} (h : c2v (some v) = false) : (e_cv ad v).category = 1 := by
  match v, h with
  | .inl z, _ => rfl
  | .inr (.inl none), _ => rfl
  | .inr (.inl (some k)), _ => rfl
  | .inr (.inr (.inl z)), h => cases h
  | .inr (.inr (.inr (.inl z))), _ => rfl
  | .inr (.inr (.inr (.inr z))), h => cases h
def lset {α : Type} (ls : List (Option aV)) (i : Nat) (v : aV) (k : List (Option aV) → Option α) : Option α := match ls, i with
  | _ :: r, 0 => k (some v :: r)
  | x :: _ :: r, 1 => match c2v x with
    | true => none
    | false => k (x :: some v :: r)
  | x :: r, i + 2 => lset r (i + 1) v (fun r' => k (x :: r'))
  | _, _ => none
theorem lset_ok {α : Type} : ∀ (ls : List (Option aV)) (i : Nat) (v : aV) (k : List (Option aV) → Option α) (r : α), lset ls i v k = some r →
    ∃ ls', k ls' = some r ∧ ls'.length = ls.length ∧ i < ls.length ∧ ls'[i]? = some (some v) ∧ (∀ j, j ≠ i → ls'[j]? = ls[j]?) ∧ ∀ (j : Nat) (x : Option aV), j + 1 = i → ls[j]? = some x → c2v x = false
  | x :: t, 0, v, k, r, h => ⟨some v :: t, h, rfl, Nat.succ_pos _, rfl, fun j hj => by
      cases j with
      | zero => exact absurd rfl hj
      | succ j => rfl, fun j x hj => by omega⟩
  | x :: y :: t, 1, v, k, r, h => by
    unfold lset at h
    split at h
    · cases h
    · next hc =>
      refine ⟨x :: some v :: t, h, rfl, by simp, rfl, fun j hj => ?_, fun j z hj hz => ?_⟩
      · match j, hj with
        | 0, _ => rfl
        | j + 2, _ => rfl
      · obtain rfl : j = 0 := by omega
        cases hz
        exact hc
  | [x], 1, v, k, r, h => by cases h
  | x :: t, i + 2, v, k, r, h => by
    have h' : lset t (i + 1) v (fun r' => k (x :: r')) = some r := by
      cases t with
      | nil => exact h
      | cons y t => exact h
    obtain ⟨l', h1, h2, h3, h4, h5, h6⟩ := lset_ok t (i + 1) v _ r h'
    refine ⟨x :: l', h1, by simp [h2], by simp; omega, h4, fun j hj => ?_, fun j z hj hz => ?_⟩
    · cases j with
      | zero => rfl
      | succ j => exact h5 j (by omega)
    · cases j with
      | zero => omega
      | succ j => exact h6 j z (by omega) hz
  | [], 0, v, k, r, h => by cases h
  | [], 1, v, k, r, h => by cases h
def e_all (ls : Array Slot) : List (Nat × Value) := (List.range ls.size).filterMap (fun j => match ls[j]? with
  | some (Slot.val u) => some (j, u)
  | _ => none)
theorem e_all_mem {ls : Array Slot} {j : Nat} {u : Value} : (j, u) ∈ e_all ls ↔ ls[j]? = some (.val u) := by
  unfold e_all
  rw [List.mem_filterMap]
  constructor
  · rintro ⟨i, -, hi⟩
    split at hi
    · next w hw => cases hi; exact hw
    · cases hi
  · intro h
    refine ⟨j, List.mem_range.mpr (lv_lt h), ?_⟩
    rw [h]
theorem e_all_has {ls : Array Slot} {nL : Nat} (h : lv_has ls nL []) : lv_has ls nL (e_all ls) := ⟨h.1, h.2.1, fun q hq => e_all_mem.mp hq⟩
/-- the locals behind a store of one slot -/
theorem e_LR_store {ad : Nat → Nat} {n nL i : Nat} {ls ls' : List (Option aV)} {lsA lsB : Array Slot} {v : aV} (hL : e_LR ad n ls lsA nL) (hv : e_wfV n v)
    (hB : lv_has lsB nL ((i, e_cv ad v) :: (e_all lsA).filter (fun q => !(q.1 == i) && !(q.1 + 1 == i && q.2.category == 2))))
    (h2 : ls'.length = ls.length) (h4 : ls'[i]? = some (some v)) (h5 : ∀ j, j ≠ i → ls'[j]? = ls[j]?) (h6 : ∀ (j : Nat) (x : Option aV), j + 1 = i → ls[j]? = some x → c2v x = false) : e_LR ad n ls' lsB nL := by
  refine ⟨h2.trans hL.1, ⟨hB.1, hB.2.1, fun q hq => nomatch hq⟩, fun j w hw => ?_⟩
  by_cases hj : j = i
  · subst hj
    rw [h4] at hw
    cases hw
    exact ⟨hv, hB.2.2 _ List.mem_cons_self⟩
  · rw [h5 j hj] at hw
    obtain ⟨hw1, hw2⟩ := hL.2.2 j w hw
    refine ⟨hw1, hB.2.2 (j, e_cv ad w) (List.mem_cons_of_mem _ (List.mem_filter.mpr ⟨e_all_mem.mpr hw2, ?_⟩))⟩
    simp only [Bool.and_eq_true, Bool.not_eq_true', beq_eq_false_iff_ne, ne_eq, Bool.and_eq_false_iff]
    refine ⟨hj, ?_⟩
    by_cases hj1 : j + 1 = i
    · right
      rw [c2v_cat (h6 j _ hj1 hw)]
      decide
    · exact Or.inl hj1
def pstep {α : Type} (ins : Instr) (pc pc' : Nat) (ls : List (Option aV)) (st : List aV) (k : Nat → List (Option aV) → List aV → Option α) : Option α := match ins, st with
  | .iconst z, st => k pc' ls (vI z :: st)
  | .bipush z, st => match decide (-128 ≤ z ∧ z ≤ 127) with
    | true => k pc' ls (vI z :: st)
    | false => none
  | .sipush z, st => match decide (-32768 ≤ z ∧ z ≤ 32767) with
    | true => k pc' ls (vI z :: st)
    | false => none
  | .aconst_null, st => k pc' ls (vN :: st)
  | .iload i, st => match ls[i]? with
    | some (some (.inl z)) => k pc' ls (vI z :: st)
    | _ => none
  | .iload_n i, st => match ls[i.val]? with
    | some (some (.inl z)) => k pc' ls (vI z :: st)
    | _ => none
  | .aload i, st => match ls[i]? with
    | some (some (.inr (.inl z))) => k pc' ls (vO z :: st)
    | _ => none
  | .aload_n i, st => match ls[i.val]? with
    | some (some (.inr (.inl z))) => k pc' ls (vO z :: st)
    | _ => none
  | .istore i, .inl z :: st => lset ls i (vI z) (fun ls => k pc' ls st)
  | .istore_n i, .inl z :: st => lset ls i.val (vI z) (fun ls => k pc' ls st)
  | .astore i, .inr (.inl z) :: st => lset ls i (vO z) (fun ls => k pc' ls st)
  | .astore_n i, .inr (.inl z) :: st => lset ls i.val (vO z) (fun ls => k pc' ls st)
  | .iinc i c, st => match ls[i]? with
    | some (some (.inl z)) => lset ls i (vI (z + c)) (fun ls => k pc' ls st)
    | _ => none
  | .iadd, .inl b :: .inl a :: st => k pc' ls (vI (a + b) :: st)
  | .isub, .inl b :: .inl a :: st => k pc' ls (vI (a - b) :: st)
  | .imul, .inl b :: .inl a :: st => k pc' ls (vI (a * b) :: st)
  | .ineg, .inl a :: st => k pc' ls (vI (-a) :: st)
  | .dup, .inl a :: st => k pc' ls (vI a :: vI a :: st)
  | .dup, .inr (.inl a) :: st => k pc' ls (vO a :: vO a :: st)
  | .pop, .inl _ :: st => k pc' ls st
  | .pop, .inr (.inl _) :: st => k pc' ls st
  | .dup2, .inl b :: .inr (.inl a) :: st => k pc' ls (vI b :: vO a :: vI b :: vO a :: st)
  | .dup_x1, .inl b :: .inr (.inl a) :: st => k pc' ls (vI b :: vO a :: vI b :: st)
  | .goto off, st => match (pc : Int) + off with
    | .ofNat t => k t ls st
    | .negSucc _ => none
  | _, _ => none
section PS
variable {Λ : Ls} {Γ : Cx} {X : MD} {d mc ms : Nat} {Q : Rv → Mem → Nat → Prop} {M : Mem} {n kc ks : Nat}
set_option maxHeartbeats 4000000 in
theorem pstep_ok {α : Type} {ins : Instr} {pc pc' : Nat} {ls : List (Option aV)} {st : List aV} {k : Nat → List (Option aV) → List aV → Option α} {r : α}
    (hd : decode X.cc pc = .ok (ins, ilen ins)) (hp : pc' = pc + ilen ins) (h : pstep ins pc pc' ls st k = some r)
    (kk : ∀ pc1 ls1 st1, k pc1 ls1 st1 = some r → G Λ Γ X d mc ms Q pc1 ls1 st1 M n kc ks) : G Λ Γ X d mc ms Q pc ls st M n kc ks := by
  subst hp
  intro hE p e R s m args below meth c H locs ad ad0 n0 lsA hF h1 h2 hX hW hS hL hs
  have hx := hF.1.1
  have hb := hF.1.2.1
  unfold pstep at h
  split at h
  · exact lv_iconst hx hb hd rfl (kk _ _ _ h hE p e R s m args below meth c H locs ad ad0 n0 lsA hF h1 h2 hX hW hS hL ⟨trivial, hs⟩)
  · split at h
    · next hz => exact lv_bipush hx hb hd (iI_bipush (of_decide_eq_true hz)) (kk _ _ _ h hE p e R s m args below meth c H locs ad ad0 n0 lsA hF h1 h2 hX hW hS hL ⟨trivial, hs⟩)
    · cases h
  · split at h
    · next hz => exact lv_sipush hx hb hd (iI_sipush (of_decide_eq_true hz)) (kk _ _ _ h hE p e R s m args below meth c H locs ad ad0 n0 lsA hF h1 h2 hX hW hS hL ⟨trivial, hs⟩)
    · cases h
  · exact lv_null hx hb hd (kk _ _ _ h hE p e R s m args below meth c H locs ad ad0 n0 lsA hF h1 h2 hX hW hS hL ⟨trivial, hs⟩)
  · split at h
    · next hz => exact lv_iload hx hb hd (hL.2.2 _ _ hz).2 (kk _ _ _ h hE p e R s m args below meth c H locs ad ad0 n0 lsA hF h1 h2 hX hW hS hL ⟨trivial, hs⟩)
    · cases h
  · split at h
    · next hz => exact lv_iload_n hx hb hd rfl (hL.2.2 _ _ hz).2 (kk _ _ _ h hE p e R s m args below meth c H locs ad ad0 n0 lsA hF h1 h2 hX hW hS hL ⟨trivial, hs⟩)
    · cases h
  · split at h
    · next z hz =>
      have q := hL.2.2 _ _ hz
      have kk' := kk _ _ _ h hE p e R s m args below meth c H locs ad ad0 n0 lsA hF h1 h2 hX hW hS hL ⟨q.1, hs⟩
      cases z with
      | none => exact lv_aloadN hx hb hd q.2 kk'
      | some z => exact lv_aload hx hb hd q.2 kk'
    · cases h
  · split at h
    · next z hz =>
      have q := hL.2.2 _ _ hz
      have kk' := kk _ _ _ h hE p e R s m args below meth c H locs ad ad0 n0 lsA hF h1 h2 hX hW hS hL ⟨q.1, hs⟩
      cases z with
      | none => exact lv_aload_nN hx hb hd rfl q.2 kk'
      | some z => exact lv_aload_n hx hb hd rfl q.2 kk'
    · cases h
  · obtain ⟨l', q1, q2, q3, q4, q5, q6⟩ := lset_ok _ _ _ _ _ h
    exact lv_istore hx hb hd (e_all_has hL.2.1) (by rw [← hL.1]; exact q3) rfl (fun lsB hB => kk _ _ _ q1 hE p e R s m args below meth c H locs ad ad0 n0 lsB hF h1 h2 hX hW hS (e_LR_store (v := vI _) hL trivial hB q2 q4 q5 q6) hs.2)
  · obtain ⟨l', q1, q2, q3, q4, q5, q6⟩ := lset_ok _ _ _ _ _ h
    exact lv_istore_n hx hb hd rfl (e_all_has hL.2.1) (by rw [← hL.1]; exact q3) rfl (fun lsB hB => kk _ _ _ q1 hE p e R s m args below meth c H locs ad ad0 n0 lsB hF h1 h2 hX hW hS (e_LR_store (v := vI _) hL trivial hB q2 q4 q5 q6) hs.2)
  · next z st =>
    obtain ⟨l', q1, q2, q3, q4, q5, q6⟩ := lset_ok _ _ _ _ _ h
    cases z with
    | none => exact lv_astoreN hx hb hd (e_all_has hL.2.1) (by rw [← hL.1]; exact q3) rfl (fun lsB hB => kk _ _ _ q1 hE p e R s m args below meth c H locs ad ad0 n0 lsB hF h1 h2 hX hW hS (e_LR_store (v := vN) hL hs.1 hB q2 q4 q5 q6) hs.2)
    | some z => exact lv_astore hx hb hd (e_all_has hL.2.1) (by rw [← hL.1]; exact q3) rfl (fun lsB hB => kk _ _ _ q1 hE p e R s m args below meth c H locs ad ad0 n0 lsB hF h1 h2 hX hW hS (e_LR_store (v := vR z) hL hs.1 hB q2 q4 q5 q6) hs.2)
  · next z st =>
    obtain ⟨l', q1, q2, q3, q4, q5, q6⟩ := lset_ok _ _ _ _ _ h
    cases z with
    | none => exact lv_astore_nN hx hb hd rfl (e_all_has hL.2.1) (by rw [← hL.1]; exact q3) rfl (fun lsB hB => kk _ _ _ q1 hE p e R s m args below meth c H locs ad ad0 n0 lsB hF h1 h2 hX hW hS (e_LR_store (v := vN) hL hs.1 hB q2 q4 q5 q6) hs.2)
    | some z => exact lv_astore_n hx hb hd rfl (e_all_has hL.2.1) (by rw [← hL.1]; exact q3) rfl (fun lsB hB => kk _ _ _ q1 hE p e R s m args below meth c H locs ad ad0 n0 lsB hF h1 h2 hX hW hS (e_LR_store (v := vR z) hL hs.1 hB q2 q4 q5 q6) hs.2)
  · next st i cst =>
    split at h
    · next z hz =>
      have q := (hL.2.2 _ _ hz).2
      obtain ⟨l', q1, q2, q3, q4, q5, q6⟩ := lset_ok _ _ _ _ _ h
      obtain ⟨kq, hk⟩ := List.getElem?_of_mem (e_all_mem.mpr q)
      exact lv_iinc hx hb hd (e_all_has hL.2.1) hk (v := iI (z + cst)) (iI_add _ _).symm (by rw [← hL.1]; exact q3) rfl (fun lsB hB => kk _ _ _ q1 hE p e R s m args below meth c H locs ad ad0 n0 lsB hF h1 h2 hX hW hS (e_LR_store (v := vI _) hL trivial hB q2 q4 q5 q6) hs)
    · cases h
  · next b a st => exact lv_iadd hx hb hd (W.eq (g2 := F0 m (pc + 1) lsA (.int (iI (a + b)) :: st.map (e_cv ad))) (by rw [iI_add]) (kk _ _ _ h hE p e R s m args below meth c H locs ad ad0 n0 lsA hF h1 h2 hX hW hS hL ⟨trivial, hs.2.2⟩))
  · next b a st => exact lv_isub hx hb hd (W.eq (g2 := F0 m (pc + 1) lsA (.int (iI (a - b)) :: st.map (e_cv ad))) (by rw [iI_sub]) (kk _ _ _ h hE p e R s m args below meth c H locs ad ad0 n0 lsA hF h1 h2 hX hW hS hL ⟨trivial, hs.2.2⟩))
  · next b a st => exact lv_imul hx hb hd (W.eq (g2 := F0 m (pc + 1) lsA (.int (iI (a * b)) :: st.map (e_cv ad))) (by rw [iI_mul]) (kk _ _ _ h hE p e R s m args below meth c H locs ad ad0 n0 lsA hF h1 h2 hX hW hS hL ⟨trivial, hs.2.2⟩))
  · next a st => exact lv_ineg hx hb hd (W.eq (g2 := F0 m (pc + 1) lsA (.int (iI (-a)) :: st.map (e_cv ad))) (by rw [iI_neg]) (kk _ _ _ h hE p e R s m args below meth c H locs ad ad0 n0 lsA hF h1 h2 hX hW hS hL ⟨trivial, hs.2⟩))
  · exact lv_dup hx hb hd rfl (kk _ _ _ h hE p e R s m args below meth c H locs ad ad0 n0 lsA hF h1 h2 hX hW hS hL ⟨trivial, hs⟩)
  · next a st =>
    have kk' := kk _ _ _ h hE p e R s m args below meth c H locs ad ad0 n0 lsA hF h1 h2 hX hW hS hL ⟨hs.1, hs⟩
    cases a with
    | none => exact lv_dup hx hb hd rfl kk'
    | some a => exact lv_dup hx hb hd rfl kk'
  · exact lv_pop hx hb hd rfl (kk _ _ _ h hE p e R s m args below meth c H locs ad ad0 n0 lsA hF h1 h2 hX hW hS hL hs.2)
  · next a st =>
    have kk' := kk _ _ _ h hE p e R s m args below meth c H locs ad ad0 n0 lsA hF h1 h2 hX hW hS hL hs.2
    cases a with
    | none => exact lv_pop hx hb hd rfl kk'
    | some a => exact lv_pop hx hb hd rfl kk'
  · next b a st =>
    have kk' := kk _ _ _ h hE p e R s m args below meth c H locs ad ad0 n0 lsA hF h1 h2 hX hW hS hL ⟨trivial, hs.2.1, hs⟩
    cases a with
    | none => exact lv_dup2_11 hx hb hd rfl rfl kk'
    | some a => exact lv_dup2_11 hx hb hd rfl rfl kk'
  · next b a st =>
    have kk' := kk _ _ _ h hE p e R s m args below meth c H locs ad ad0 n0 lsA hF h1 h2 hX hW hS hL ⟨trivial, hs.2.1, trivial, hs.2.2⟩
    cases a with
    | none => exact lv_dup_x1 hx hb hd rfl rfl kk'
    | some a => exact lv_dup_x1 hx hb hd rfl rfl kk'
  · split at h
    · next t ht => exact lv_goto hx hb hd ht (kk _ _ _ h hE p e R s m args below meth c H locs ad ad0 n0 lsA hF h1 h2 hX hW hS hL hs)
    · cases h
  · cases h
def prun {α : Type} (L : List (Nat × Instr × Nat)) (pc : Nat) (ls : List (Option aV)) (st : List aV) (k : Nat → List (Option aV) → List aV → Option α) : Option α := match L with
  | [] => k pc ls st
  | (q, i, q') :: r => match Nat.beq q pc with
    | true => pstep i q q' ls st (fun pc ls st => prun r pc ls st k)
    | false => none
theorem prun_ok {α : Type} {L0 : List (Nat × Instr × Nat)} (ht : e_tb X.cc L0 = true) {k : Nat → List (Option aV) → List aV → Option α} {r : α} : ∀ (L : List (Nat × Instr × Nat)), (∀ q ∈ L, q ∈ L0) → ∀ (pc : Nat) (ls : List (Option aV)) (st : List aV), prun L pc ls st k = some r →
    (∀ pc1 ls1 st1, k pc1 ls1 st1 = some r → G Λ Γ X d mc ms Q pc1 ls1 st1 M n kc ks) → G Λ Γ X d mc ms Q pc ls st M n kc ks
  | [], _, pc, ls, st, h, kk => kk _ _ _ h
  | (q, i, q') :: t, hL, pc, ls, st, h, kk => by
    unfold prun at h
    split at h
    · next hq =>
      obtain rfl : q = pc := Nat.eq_of_beq_eq_true hq
      obtain ⟨e1, e2⟩ := e_tb_mem ht (hL _ List.mem_cons_self)
      exact pstep_ok e1 e2 h (fun pc1 ls1 st1 h1 => prun_ok ht t (fun z hz => hL z (List.mem_cons_of_mem _ hz)) pc1 ls1 st1 h1 kk)
    · cases h
/-- m instructions from the i-th on, computed -/
theorem g_run (i m : Nat) {pc pc' : Nat} {ls ls' : List (Option aV)} {st st' : List aV} (h : prun ((X.tb.drop i).take m) pc ls st (fun a b c => some (a, b, c)) = some (pc', ls', st')) (kk : G Λ Γ X d mc ms Q pc' ls' st' M n kc ks) : G Λ Γ X d mc ms Q pc ls st M n kc ks := by
  intro hE p e R s mm args below meth c H locs ad ad0 n0 lsA hF
  refine prun_ok (X := X) hF.1.2.2.2.2.2.2.2.2.2 ((X.tb.drop i).take m) (fun q hq => List.mem_of_mem_drop (List.mem_of_mem_take hq)) pc ls st h (fun pc1 ls1 st1 h1 => ?_) hE p e R s mm args below meth c H locs ad ad0 n0 lsA hF
  cases h1
  exact kk
end PS
end
section
/-! ENGINE 5: rules, an opcode each: branches, numbers, fields, arrays, new cells -/
def e_fit (ty : FieldType) (v : aV) : Prop := match ty, v with
  | .int, .inl _ => True
  | .boolean, .inl z => z = 0 ∨ z = 1
  | .byte, .inl z => -128 ≤ z ∧ z ≤ 127
  | .object _, .inr (.inl _) => True
  | .array _, .inr (.inl _) => True
  | _, _ => False
theorem e_nb : ∀ k : Nat, k < 256 → (iI ((k : Int) - 128)).toInt8.toInt32 = iI ((k : Int) - 128) ∧ fits .byte (.int (iI ((k : Int) - 128))) = true := by decide +kernel
theorem e_nbz {z : Int} (h : -128 ≤ z ∧ z ≤ 127) : (iI z).toInt8.toInt32 = iI z ∧ fits .byte (.int (iI z)) = true := by
  have h1 := e_nb (z + 128).toNat (by omega)
  rwa [show (((z + 128).toNat : Nat) : Int) - 128 = z by omega] at h1
theorem e_fit_ok {ad : Nat → Nat} {ty : FieldType} {v : aV} (h : e_fit ty v) : narrow ty (e_cv ad v) = e_cv ad v ∧ fits ty (e_cv ad v) = true := by
  unfold e_fit at h
  split at h
  · exact ⟨rfl, rfl⟩
  · rcases h with rfl | rfl
    · exact ⟨(by decide : narrow .boolean (.int (iI 0)) = .int (iI 0)), (by decide : fits .boolean (.int (iI 0)) = true)⟩
    · exact ⟨(by decide : narrow .boolean (.int (iI 1)) = .int (iI 1)), (by decide : fits .boolean (.int (iI 1)) = true)⟩
  · next z =>
    obtain ⟨h1, h2⟩ := e_nbz h
    exact ⟨by show Value.int _ = Value.int _; rw [h1], h2⟩
  · next z => cases z <;> exact ⟨rfl, rfl⟩
  · next z => cases z <;> exact ⟨rfl, rfl⟩
  · exact h.elim
def e_ls {α : Type} (fs : List aV) (j : Nat) (v : aV) (k : List aV → Option α) : Option α := match fs, j with
  | _ :: r, 0 => k (v :: r)
  | x :: r, j + 1 => e_ls r j v (fun r' => k (x :: r'))
  | [], _ => none
theorem e_ls_ok {α : Type} : ∀ (fs : List aV) (j : Nat) (v : aV) (k : List aV → Option α) (r : α), e_ls fs j v k = some r → j < fs.length ∧ k (fs.set j v) = some r
  | _ :: t, 0, v, k, r, h => ⟨by simp, h⟩
  | x :: t, j + 1, v, k, r, h => by
    obtain ⟨h1, h2⟩ := e_ls_ok t j v _ r h
    exact ⟨by simp; omega, h2⟩
  | [], _, v, k, r, h => by cases h
theorem e_wfS_set {n : Nat} : ∀ {fs : List aV} {j : Nat} {v : aV}, e_wfS n fs → e_wfV n v → e_wfS n (fs.set j v)
  | [], _, _, h, _ => h
  | _ :: _, 0, _, h, hv => ⟨hv, h.2⟩
  | _ :: _, j + 1, _, h, hv => ⟨h.1, e_wfS_set h.2 hv⟩
theorem e_map_set {f : aV → Value} : ∀ {fs : List aV} {j : Nat} {v : aV}, (fs.set j v).map f = (fs.map f).set j (f v)
  | [], _, _ => rfl
  | _ :: _, 0, _ => rfl
  | x :: t, j + 1, v => by
    show f x :: (t.set j v).map f = f x :: (t.map f).set j (f v)
    rw [e_map_set]
/-- a field of the class number ci, the j-th, reached by the entry idx of own -/
def e_FL (own : String) (idx ci j : Nat) : Prop := ∃ (C : String) (T : u_T) (N : Nat), ci < 20 ∧ vwCl[ci]? = some (C, T, N) ∧ j < N ∧ Cond.fieldLink own idx (T j).1 (T j).2.1 (T j).2.2.1 ∈ e_WS ∧ ∀ w ∈ u_ws C T N, w ∈ e_WS
def e_FP (own : String) (idx ci j : Nat) (ty : FieldType) (fin : Bool) : Prop := ∃ (C : String) (T : u_T) (N : Nat), ci < 20 ∧ vwCl[ci]? = some (C, T, N) ∧ j < N ∧ Cond.fieldLink own idx (T j).1 (T j).2.1 (T j).2.2.1 ∈ e_WS ∧ (∀ w ∈ u_ws C T N, w ∈ e_WS) ∧
  parseFieldDescriptor (T j).2.2.1 = some ty ∧ (T j).2.2.2 = fin ∧ (∃ ty0 : Nat → FieldType, ∀ k, k < N → parseFieldDescriptor (T k).2.2.1 = some (ty0 k)) ∧ (∀ a, a < N → ∀ b, b < N → a ≠ b → (T a).2.1 ≠ (T b).2.1) ∧ (fin = true → own = (T j).1)
/-- the same of a constant object -/
def e_FC (own : String) (idx ci j : Nat) : Prop := ∃ q : String × String × String, (e_KT ci).2[j]? = some q ∧ Cond.fieldLink own idx q.1 q.2.1 q.2.2 ∈ e_WS
section R1
variable {Λ : Ls} {Γ : Cx} {X : MD} {d mc ms : Nat} {Q : Rv → Mem → Nat → Prop} {pc pc' : Nat} {ls : List (Option aV)} {st : List aV} {M : Mem} {n kc ks : Nat}
theorem e_dec {p : Program} {s : State} {m : MethodId} {args : Array Value} {meth : Method} {c : Code} (hM : e_Mf X p s m args meth c) {i : Nat} {ins : Instr} (hd : X.tb[i]? = some (pc, ins, pc')) : decode X.cc pc = .ok (ins, ilen ins) ∧ pc' = pc + ilen ins := e_tb_at hM.2.2.2.2.2.2.2.2.2 hd
theorem e_newO {ST SR WN NN} (hE : e_Env Γ ST SR WN NN) {ad : Nat → Nat} {H : Heap} (hW : e_Wp Γ ad M n H) {k ci : Nat} {fs : List aV} (hM : M k = cO ci fs) (hci : ci < 20) : e_NC ≤ k := by
  apply Nat.le_of_not_lt
  intro hk
  rw [(hW.2.1 k hk).1] at hM
  rcases hE.2.2.2.1 k hk with h | h
  · rw [h] at hM; cases hM; omega
  · unfold e_cst at h; rw [hM] at h; have := h.1; omega
theorem e_newA {ST SR WN NN} (hE : e_Env Γ ST SR WN NN) {ad : Nat → Nat} {H : Heap} (hW : e_Wp Γ ad M n H) {k kd : Nat} {a : aA} (hM : M k = .inl (kd, a)) (hkd : kd < 10) : e_NC ≤ k := by
  apply Nat.le_of_not_lt
  intro hk
  rw [(hW.2.1 k hk).1] at hM
  rcases hE.2.2.2.1 k hk with h | h
  · rw [h] at hM; cases hM
  · unfold e_cst at h; rw [hM] at h
    match a, h with
    | (_, .inl f), h => have := h.1; omega
    | (_, .inr (.inr (.inr g))), h => have := h.1; omega
    | (_, .inr (.inl f)), h => exact h
    | (_, .inr (.inr (.inl f))), h => exact h
theorem e_old_arr {ST SR WN NN} (hE : e_Env Γ ST SR WN NN) {ad : Nat → Nat} {H : Heap} (hW : e_Wp Γ ad M n H) {k kd len : Nat} {f : Nat → Int} (hM : M k = cI kd len f) (hk : k < e_NC) : ad k = Γ.ac k ∧ va_T (e_TY kd) (Γ.ac k) len (fun j => .int (iI (f j))) (e_FR Γ) Γ.s0 Γ.s0.heap := by
  refine ⟨(hW.2.1 k hk).2, ?_⟩
  rw [(hW.2.1 k hk).1] at hM
  rcases hE.2.2.2.1 k hk with h | h
  · rw [h] at hM; cases hM
  · unfold e_cst at h; rw [hM] at h; exact h.2
theorem e_old_arrR {ST SR WN NN} (hE : e_Env Γ ST SR WN NN) {ad : Nat → Nat} {H : Heap} (hW : e_Wp Γ ad M n H) {k kd len : Nat} {g : Nat → Option Nat} (hM : M k = cR kd len g) (hk : k < e_NC) : ad k = Γ.ac k ∧ va_T (e_TY kd) (Γ.ac k) len (fun j => va_rf ((g j).map Γ.ac)) (e_FR Γ) Γ.s0 Γ.s0.heap ∧ ∀ j r, g j = some r → r < e_NC := by
  refine ⟨(hW.2.1 k hk).2, ?_⟩
  rw [(hW.2.1 k hk).1] at hM
  rcases hE.2.2.2.1 k hk with h | h
  · rw [h] at hM; cases hM
  · unfold e_cst at h; rw [hM] at h; exact h.2
theorem e_tys {ST SR WN NN} (hE : e_Env Γ ST SR WN NN) {kd : Nat} (h : kd < 7) : Γ.tys[kd]? = some ((Γ.tys.getD kd (0, .int)).1, e_TY kd) := by
  have e := hE.2.2.1
  have hl : Γ.tys.length = 7 := by rw [← List.length_map (f := fun q : ClassId × FieldType => q.2), e]; rfl
  have h1 : Γ.tys[kd]? = some (Γ.tys[kd]'(by omega)) := List.getElem?_eq_getElem (by omega)
  have h2 : (Γ.tys.map (fun q => q.2))[kd]? = some (e_TY kd) := by
    rw [e]
    match kd, h with
    | 0, _ => rfl
    | 1, _ => rfl
    | 2, _ => rfl
    | 3, _ => rfl
    | 4, _ => rfl
    | 5, _ => rfl
    | 6, _ => rfl
  rw [List.getElem?_map, h1] at h2
  rw [List.getD_eq_getElem?_getD, h1]
  have h3 := Option.some.inj h2
  show some (Γ.tys[kd]'(by omega)) = some ((Γ.tys[kd]'(by omega)).1, e_TY kd)
  rw [← h3]
theorem e_Wp_set {ad : Nat → Nat} {H H1 : Heap} {c : aE} {k : Nat} (hW : e_Wp Γ ad M n H) (h1 : e_NC ≤ k) (h2 : k < n) (hc : e_wfE n c) (hP : va_P Γ.D vwCl ((e_ws Γ.tys ad M n).set (k - e_NC) (ad k, e_ce Γ.tys ad c)) H1) (hD : va_D (e_FR Γ) ((e_ws Γ.tys ad M n).set (k - e_NC) (ad k, e_ce Γ.tys ad c)))
    {A0 : Heap} {locs : List Loc} (hb : Γ.s0.heap.size ≤ A0.size) (hA : ∀ q : Nat, q < Γ.s0.heap.size → A0[q]? = Γ.s0.heap[q]?) (hS : va_S (e_FR Γ) A0 H1 locs) : e_Wp Γ ad (va_up M k c) n H1 := by
  rw [e_ws_set h1 h2] at hP hD
  refine ⟨hW.1, fun j hj => ⟨(va_up_ne _ _ (by omega)).trans (hW.2.1 j hj).1, (hW.2.1 j hj).2⟩, fun j a b => ?_, hP, hD, Nat.le_trans hb hS.1, fun q hq => ?_⟩
  · by_cases hj : j = k
    · subst hj; rw [va_up_self]; exact hc
    · rw [va_up_ne _ _ hj]; exact hW.2.2.1 j a b
  · rw [hS.2.1 q (Nat.lt_of_lt_of_le hq hb) (Nat.not_le.mpr hq)]; exact hA q hq
theorem e_Wp_push {ad : Nat → Nat} {H H1 : Heap} {c : aE} {q : Nat} (hW : e_Wp Γ ad M n H) (hc : e_wfE (n + 1) c) (hP : va_P Γ.D vwCl (e_ws Γ.tys ad M n ++ [(q, e_ce Γ.tys (va_up ad n q) c)]) H1) (hD : va_D (e_FR Γ) (e_ws Γ.tys ad M n ++ [(q, e_ce Γ.tys (va_up ad n q) c)]))
    {A0 : Heap} {locs : List Loc} (hb : Γ.s0.heap.size ≤ A0.size) (hA : ∀ q : Nat, q < Γ.s0.heap.size → A0[q]? = Γ.s0.heap[q]?) (hS : va_S (e_FR Γ) A0 H1 locs) : e_Wp Γ (va_up ad n q) (va_up M n c) (n + 1) H1 := by
  rw [← e_ws_push hW.1 hW.2.2.1] at hP hD
  refine ⟨Nat.le_succ_of_le hW.1, fun j hj => ⟨(va_up_ne _ _ (by have := hW.1; omega)).trans (hW.2.1 j hj).1, (va_up_ne _ _ (by have := hW.1; omega)).trans (hW.2.1 j hj).2⟩, fun j a b => ?_, hP, hD, Nat.le_trans hb hS.1, fun q hq => ?_⟩
  · by_cases hj : j = n
    · subst hj; rw [va_up_self]; exact hc
    · rw [va_up_ne _ _ hj]; exact e_wfE_mono (Nat.le_succ n) (hW.2.2.1 j a (by omega))
  · rw [hS.2.1 q (Nat.lt_of_lt_of_le hq hb) (Nat.not_le.mpr hq)]; exact hA q hq
theorem e_LR_ext {ad ad' : Nat → Nat} {n' nL : Nat} {lsA : Array Slot} (h : ∀ k, k < n → ad' k = ad k) (hn : n ≤ n') (hL : e_LR ad n ls lsA nL) : e_LR ad' n' ls lsA nL :=
  ⟨hL.1, hL.2.1, fun j v hj => ⟨e_wfV_mono hn (hL.2.2 j v hj).1, by rw [e_cv_ext h (hL.2.2 j v hj).1]; exact (hL.2.2 j v hj).2⟩⟩
theorem e_Ex_trans {ad ad' ad'' : Nat → Nat} {n' n'' : Nat} (h : e_Ex ad n ad' n') (h' : e_Ex ad' n' ad'' n'') : e_Ex ad n ad'' n'' := ⟨Nat.le_trans h.1 h'.1, fun k hk => (h'.2 k (Nat.lt_of_lt_of_le hk h.1)).trans (h.2 k hk)⟩

theorem g_icmp_eq (i tgt : Nat) {off a b : Int} (hd : X.tb[i]? = some (pc, .if_icmp .eq off, pc')) (ht : (pc : Int) + off = (tgt : Int)) (ha : -2147483648 ≤ a ∧ a ≤ 2147483647) (hb : -2147483648 ≤ b ∧ b ≤ 2147483647) (kt : a = b → G Λ Γ X d mc ms Q tgt ls st M n kc ks) (kf : ¬ a = b → G Λ Γ X d mc ms Q pc' ls st M n kc ks) : G Λ Γ X d mc ms Q pc ls (vI b :: vI a :: st) M n kc ks := by
  intro hE p e R s m args below meth c H locs ad ad0 n0 lsA hF h1 h2 hX hW hS hL hs
  obtain ⟨hdd, rfl⟩ := e_dec hF.1 hd
  exact lv_icmp_eq hF.1.1 hF.1.2.1 hdd ht (fun h => kt ((iI_eq ha hb).mp h) hE p e R s m args below meth c H locs ad ad0 n0 lsA hF h1 h2 hX hW hS hL hs.2.2) (fun h => kf (fun z => h ((iI_eq ha hb).mpr z)) hE p e R s m args below meth c H locs ad ad0 n0 lsA hF h1 h2 hX hW hS hL hs.2.2)

theorem g_icmp_ne (i tgt : Nat) {off a b : Int} (hd : X.tb[i]? = some (pc, .if_icmp .ne off, pc')) (ht : (pc : Int) + off = (tgt : Int)) (ha : -2147483648 ≤ a ∧ a ≤ 2147483647) (hb : -2147483648 ≤ b ∧ b ≤ 2147483647) (kt : ¬ a = b → G Λ Γ X d mc ms Q tgt ls st M n kc ks) (kf : a = b → G Λ Γ X d mc ms Q pc' ls st M n kc ks) : G Λ Γ X d mc ms Q pc ls (vI b :: vI a :: st) M n kc ks := by
  intro hE p e R s m args below meth c H locs ad ad0 n0 lsA hF h1 h2 hX hW hS hL hs
  obtain ⟨hdd, rfl⟩ := e_dec hF.1 hd
  exact lv_icmp_ne hF.1.1 hF.1.2.1 hdd ht (fun h => kt ((not_congr (iI_eq ha hb)).mp h) hE p e R s m args below meth c H locs ad ad0 n0 lsA hF h1 h2 hX hW hS hL hs.2.2) (fun h => kf ((iI_eq ha hb).mp h) hE p e R s m args below meth c H locs ad ad0 n0 lsA hF h1 h2 hX hW hS hL hs.2.2)

theorem g_icmp_lt (i tgt : Nat) {off a b : Int} (hd : X.tb[i]? = some (pc, .if_icmp .lt off, pc')) (ht : (pc : Int) + off = (tgt : Int)) (ha : -2147483648 ≤ a ∧ a ≤ 2147483647) (hb : -2147483648 ≤ b ∧ b ≤ 2147483647) (kt : a < b → G Λ Γ X d mc ms Q tgt ls st M n kc ks) (kf : ¬ a < b → G Λ Γ X d mc ms Q pc' ls st M n kc ks) : G Λ Γ X d mc ms Q pc ls (vI b :: vI a :: st) M n kc ks := by
  intro hE p e R s m args below meth c H locs ad ad0 n0 lsA hF h1 h2 hX hW hS hL hs
  obtain ⟨hdd, rfl⟩ := e_dec hF.1 hd
  exact lv_icmp_lt hF.1.1 hF.1.2.1 hdd ht (fun h => kt ((iI_lt ha hb).mp h) hE p e R s m args below meth c H locs ad ad0 n0 lsA hF h1 h2 hX hW hS hL hs.2.2) (fun h => kf (fun z => h ((iI_lt ha hb).mpr z)) hE p e R s m args below meth c H locs ad ad0 n0 lsA hF h1 h2 hX hW hS hL hs.2.2)

theorem g_icmp_ge (i tgt : Nat) {off a b : Int} (hd : X.tb[i]? = some (pc, .if_icmp .ge off, pc')) (ht : (pc : Int) + off = (tgt : Int)) (ha : -2147483648 ≤ a ∧ a ≤ 2147483647) (hb : -2147483648 ≤ b ∧ b ≤ 2147483647) (kt : b ≤ a → G Λ Γ X d mc ms Q tgt ls st M n kc ks) (kf : ¬ b ≤ a → G Λ Γ X d mc ms Q pc' ls st M n kc ks) : G Λ Γ X d mc ms Q pc ls (vI b :: vI a :: st) M n kc ks := by
  intro hE p e R s m args below meth c H locs ad ad0 n0 lsA hF h1 h2 hX hW hS hL hs
  obtain ⟨hdd, rfl⟩ := e_dec hF.1 hd
  exact lv_icmp_ge hF.1.1 hF.1.2.1 hdd ht (fun h => kt ((iI_le hb ha).mp h) hE p e R s m args below meth c H locs ad ad0 n0 lsA hF h1 h2 hX hW hS hL hs.2.2) (fun h => kf (fun z => h ((iI_le hb ha).mpr z)) hE p e R s m args below meth c H locs ad ad0 n0 lsA hF h1 h2 hX hW hS hL hs.2.2)

theorem g_icmp_gt (i tgt : Nat) {off a b : Int} (hd : X.tb[i]? = some (pc, .if_icmp .gt off, pc')) (ht : (pc : Int) + off = (tgt : Int)) (ha : -2147483648 ≤ a ∧ a ≤ 2147483647) (hb : -2147483648 ≤ b ∧ b ≤ 2147483647) (kt : b < a → G Λ Γ X d mc ms Q tgt ls st M n kc ks) (kf : ¬ b < a → G Λ Γ X d mc ms Q pc' ls st M n kc ks) : G Λ Γ X d mc ms Q pc ls (vI b :: vI a :: st) M n kc ks := by
  intro hE p e R s m args below meth c H locs ad ad0 n0 lsA hF h1 h2 hX hW hS hL hs
  obtain ⟨hdd, rfl⟩ := e_dec hF.1 hd
  exact lv_icmp_gt hF.1.1 hF.1.2.1 hdd ht (fun h => kt ((iI_lt hb ha).mp h) hE p e R s m args below meth c H locs ad ad0 n0 lsA hF h1 h2 hX hW hS hL hs.2.2) (fun h => kf (fun z => h ((iI_lt hb ha).mpr z)) hE p e R s m args below meth c H locs ad ad0 n0 lsA hF h1 h2 hX hW hS hL hs.2.2)

theorem g_icmp_le (i tgt : Nat) {off a b : Int} (hd : X.tb[i]? = some (pc, .if_icmp .le off, pc')) (ht : (pc : Int) + off = (tgt : Int)) (ha : -2147483648 ≤ a ∧ a ≤ 2147483647) (hb : -2147483648 ≤ b ∧ b ≤ 2147483647) (kt : a ≤ b → G Λ Γ X d mc ms Q tgt ls st M n kc ks) (kf : ¬ a ≤ b → G Λ Γ X d mc ms Q pc' ls st M n kc ks) : G Λ Γ X d mc ms Q pc ls (vI b :: vI a :: st) M n kc ks := by
  intro hE p e R s m args below meth c H locs ad ad0 n0 lsA hF h1 h2 hX hW hS hL hs
  obtain ⟨hdd, rfl⟩ := e_dec hF.1 hd
  exact lv_icmp_le hF.1.1 hF.1.2.1 hdd ht (fun h => kt ((iI_le ha hb).mp h) hE p e R s m args below meth c H locs ad ad0 n0 lsA hF h1 h2 hX hW hS hL hs.2.2) (fun h => kf (fun z => h ((iI_le ha hb).mpr z)) hE p e R s m args below meth c H locs ad ad0 n0 lsA hF h1 h2 hX hW hS hL hs.2.2)

theorem g_if_eq (i tgt : Nat) {off a : Int} (hd : X.tb[i]? = some (pc, .ifCond .eq off, pc')) (ht : (pc : Int) + off = (tgt : Int)) (ha : -2147483648 ≤ a ∧ a ≤ 2147483647) (kt : a = 0 → G Λ Γ X d mc ms Q tgt ls st M n kc ks) (kf : ¬ a = 0 → G Λ Γ X d mc ms Q pc' ls st M n kc ks) : G Λ Γ X d mc ms Q pc ls (vI a :: st) M n kc ks := by
  intro hE p e R s m args below meth c H locs ad ad0 n0 lsA hF h1 h2 hX hW hS hL hs
  obtain ⟨hdd, rfl⟩ := e_dec hF.1 hd
  exact lv_if_eq hF.1.1 hF.1.2.1 hdd ht (fun h => kt ((iI_eq ha (by decide : -2147483648 ≤ (0 : Int) ∧ (0 : Int) ≤ 2147483647)).mp h) hE p e R s m args below meth c H locs ad ad0 n0 lsA hF h1 h2 hX hW hS hL hs.2) (fun h => kf (fun z => h ((iI_eq ha (by decide : -2147483648 ≤ (0 : Int) ∧ (0 : Int) ≤ 2147483647)).mpr z)) hE p e R s m args below meth c H locs ad ad0 n0 lsA hF h1 h2 hX hW hS hL hs.2)

theorem g_if_ne (i tgt : Nat) {off a : Int} (hd : X.tb[i]? = some (pc, .ifCond .ne off, pc')) (ht : (pc : Int) + off = (tgt : Int)) (ha : -2147483648 ≤ a ∧ a ≤ 2147483647) (kt : ¬ a = 0 → G Λ Γ X d mc ms Q tgt ls st M n kc ks) (kf : a = 0 → G Λ Γ X d mc ms Q pc' ls st M n kc ks) : G Λ Γ X d mc ms Q pc ls (vI a :: st) M n kc ks := by
  intro hE p e R s m args below meth c H locs ad ad0 n0 lsA hF h1 h2 hX hW hS hL hs
  obtain ⟨hdd, rfl⟩ := e_dec hF.1 hd
  exact lv_if_ne hF.1.1 hF.1.2.1 hdd ht (fun h => kt ((not_congr (iI_eq ha (by decide : -2147483648 ≤ (0 : Int) ∧ (0 : Int) ≤ 2147483647))).mp h) hE p e R s m args below meth c H locs ad ad0 n0 lsA hF h1 h2 hX hW hS hL hs.2) (fun h => kf ((iI_eq ha (by decide : -2147483648 ≤ (0 : Int) ∧ (0 : Int) ≤ 2147483647)).mp h) hE p e R s m args below meth c H locs ad ad0 n0 lsA hF h1 h2 hX hW hS hL hs.2)

theorem g_if_lt (i tgt : Nat) {off a : Int} (hd : X.tb[i]? = some (pc, .ifCond .lt off, pc')) (ht : (pc : Int) + off = (tgt : Int)) (ha : -2147483648 ≤ a ∧ a ≤ 2147483647) (kt : a < 0 → G Λ Γ X d mc ms Q tgt ls st M n kc ks) (kf : ¬ a < 0 → G Λ Γ X d mc ms Q pc' ls st M n kc ks) : G Λ Γ X d mc ms Q pc ls (vI a :: st) M n kc ks := by
  intro hE p e R s m args below meth c H locs ad ad0 n0 lsA hF h1 h2 hX hW hS hL hs
  obtain ⟨hdd, rfl⟩ := e_dec hF.1 hd
  exact lv_if_lt hF.1.1 hF.1.2.1 hdd ht (fun h => kt ((iI_lt ha (by decide : -2147483648 ≤ (0 : Int) ∧ (0 : Int) ≤ 2147483647)).mp h) hE p e R s m args below meth c H locs ad ad0 n0 lsA hF h1 h2 hX hW hS hL hs.2) (fun h => kf (fun z => h ((iI_lt ha (by decide : -2147483648 ≤ (0 : Int) ∧ (0 : Int) ≤ 2147483647)).mpr z)) hE p e R s m args below meth c H locs ad ad0 n0 lsA hF h1 h2 hX hW hS hL hs.2)

theorem g_if_ge (i tgt : Nat) {off a : Int} (hd : X.tb[i]? = some (pc, .ifCond .ge off, pc')) (ht : (pc : Int) + off = (tgt : Int)) (ha : -2147483648 ≤ a ∧ a ≤ 2147483647) (kt : 0 ≤ a → G Λ Γ X d mc ms Q tgt ls st M n kc ks) (kf : ¬ 0 ≤ a → G Λ Γ X d mc ms Q pc' ls st M n kc ks) : G Λ Γ X d mc ms Q pc ls (vI a :: st) M n kc ks := by
  intro hE p e R s m args below meth c H locs ad ad0 n0 lsA hF h1 h2 hX hW hS hL hs
  obtain ⟨hdd, rfl⟩ := e_dec hF.1 hd
  exact lv_if_ge hF.1.1 hF.1.2.1 hdd ht (fun h => kt ((iI_le (by decide : -2147483648 ≤ (0 : Int) ∧ (0 : Int) ≤ 2147483647) ha).mp h) hE p e R s m args below meth c H locs ad ad0 n0 lsA hF h1 h2 hX hW hS hL hs.2) (fun h => kf (fun z => h ((iI_le (by decide : -2147483648 ≤ (0 : Int) ∧ (0 : Int) ≤ 2147483647) ha).mpr z)) hE p e R s m args below meth c H locs ad ad0 n0 lsA hF h1 h2 hX hW hS hL hs.2)

theorem g_if_gt (i tgt : Nat) {off a : Int} (hd : X.tb[i]? = some (pc, .ifCond .gt off, pc')) (ht : (pc : Int) + off = (tgt : Int)) (ha : -2147483648 ≤ a ∧ a ≤ 2147483647) (kt : 0 < a → G Λ Γ X d mc ms Q tgt ls st M n kc ks) (kf : ¬ 0 < a → G Λ Γ X d mc ms Q pc' ls st M n kc ks) : G Λ Γ X d mc ms Q pc ls (vI a :: st) M n kc ks := by
  intro hE p e R s m args below meth c H locs ad ad0 n0 lsA hF h1 h2 hX hW hS hL hs
  obtain ⟨hdd, rfl⟩ := e_dec hF.1 hd
  exact lv_if_gt hF.1.1 hF.1.2.1 hdd ht (fun h => kt ((iI_lt (by decide : -2147483648 ≤ (0 : Int) ∧ (0 : Int) ≤ 2147483647) ha).mp h) hE p e R s m args below meth c H locs ad ad0 n0 lsA hF h1 h2 hX hW hS hL hs.2) (fun h => kf (fun z => h ((iI_lt (by decide : -2147483648 ≤ (0 : Int) ∧ (0 : Int) ≤ 2147483647) ha).mpr z)) hE p e R s m args below meth c H locs ad ad0 n0 lsA hF h1 h2 hX hW hS hL hs.2)

theorem g_if_le (i tgt : Nat) {off a : Int} (hd : X.tb[i]? = some (pc, .ifCond .le off, pc')) (ht : (pc : Int) + off = (tgt : Int)) (ha : -2147483648 ≤ a ∧ a ≤ 2147483647) (kt : a ≤ 0 → G Λ Γ X d mc ms Q tgt ls st M n kc ks) (kf : ¬ a ≤ 0 → G Λ Γ X d mc ms Q pc' ls st M n kc ks) : G Λ Γ X d mc ms Q pc ls (vI a :: st) M n kc ks := by
  intro hE p e R s m args below meth c H locs ad ad0 n0 lsA hF h1 h2 hX hW hS hL hs
  obtain ⟨hdd, rfl⟩ := e_dec hF.1 hd
  exact lv_if_le hF.1.1 hF.1.2.1 hdd ht (fun h => kt ((iI_le ha (by decide : -2147483648 ≤ (0 : Int) ∧ (0 : Int) ≤ 2147483647)).mp h) hE p e R s m args below meth c H locs ad ad0 n0 lsA hF h1 h2 hX hW hS hL hs.2) (fun h => kf (fun z => h ((iI_le ha (by decide : -2147483648 ≤ (0 : Int) ∧ (0 : Int) ≤ 2147483647)).mpr z)) hE p e R s m args below meth c H locs ad ad0 n0 lsA hF h1 h2 hX hW hS hL hs.2)

theorem g_ifnull (i tgt : Nat) {off : Int} {r : Option Nat} (hd : X.tb[i]? = some (pc, .ifnull off, pc')) (ht : (pc : Int) + off = (tgt : Int)) (kt : r = none → G Λ Γ X d mc ms Q tgt ls st M n kc ks) (kf : ∀ k, r = some k → G Λ Γ X d mc ms Q pc' ls st M n kc ks) : G Λ Γ X d mc ms Q pc ls (vO r :: st) M n kc ks := by
  intro hE p e R s m args below meth c H locs ad ad0 n0 lsA hF h1 h2 hX hW hS hL hs
  obtain ⟨hdd, rfl⟩ := e_dec hF.1 hd
  cases r with
  | none => exact lv_ifnullN hF.1.1 hF.1.2.1 hdd ht (kt rfl hE p e R s m args below meth c H locs ad ad0 n0 lsA hF h1 h2 hX hW hS hL hs.2)
  | some k => exact lv_ifnull hF.1.1 hF.1.2.1 hdd (kf k rfl hE p e R s m args below meth c H locs ad ad0 n0 lsA hF h1 h2 hX hW hS hL hs.2)
theorem g_ifnonnull (i tgt : Nat) {off : Int} {r : Option Nat} (hd : X.tb[i]? = some (pc, .ifnonnull off, pc')) (ht : (pc : Int) + off = (tgt : Int)) (kt : ∀ k, r = some k → G Λ Γ X d mc ms Q tgt ls st M n kc ks) (kf : r = none → G Λ Γ X d mc ms Q pc' ls st M n kc ks) : G Λ Γ X d mc ms Q pc ls (vO r :: st) M n kc ks := by
  intro hE p e R s m args below meth c H locs ad ad0 n0 lsA hF h1 h2 hX hW hS hL hs
  obtain ⟨hdd, rfl⟩ := e_dec hF.1 hd
  cases r with
  | none => exact lv_ifnonnullN hF.1.1 hF.1.2.1 hdd (kf rfl hE p e R s m args below meth c H locs ad ad0 n0 lsA hF h1 h2 hX hW hS hL hs.2)
  | some k => exact lv_ifnonnull hF.1.1 hF.1.2.1 hdd ht (kt k rfl hE p e R s m args below meth c H locs ad ad0 n0 lsA hF h1 h2 hX hW hS hL hs.2)
theorem g_idiv (i : Nat) {a b : Int} (hd : X.tb[i]? = some (pc, .idiv, pc')) (ha : 0 ≤ a ∧ a ≤ 2147483647) (hb : 0 < b ∧ b ≤ 2147483647) (kk : G Λ Γ X d mc ms Q pc' ls (vI (a / b) :: st) M n kc ks) : G Λ Γ X d mc ms Q pc ls (vI b :: vI a :: st) M n kc ks := by
  intro hE p e R s m args below meth c H locs ad ad0 n0 lsA hF h1 h2 hX hW hS hL hs
  obtain ⟨hdd, rfl⟩ := e_dec hF.1 hd
  exact lv_idiv hF.1.1 hF.1.2.1 hdd (iI_ne0 hb.1 hb.2) (W.eq (g2 := F0 m (pc + 1) lsA (.int (iI (a / b)) :: st.map (e_cv ad))) (by rw [iI_div ha hb]) (kk hE p e R s m args below meth c H locs ad ad0 n0 lsA hF h1 h2 hX hW hS hL ⟨trivial, hs.2.2⟩))
theorem g_irem (i : Nat) {a b : Int} (hd : X.tb[i]? = some (pc, .irem, pc')) (ha : 0 ≤ a ∧ a ≤ 2147483647) (hb : 0 < b ∧ b ≤ 2147483647) (kk : G Λ Γ X d mc ms Q pc' ls (vI (a % b) :: st) M n kc ks) : G Λ Γ X d mc ms Q pc ls (vI b :: vI a :: st) M n kc ks := by
  intro hE p e R s m args below meth c H locs ad ad0 n0 lsA hF h1 h2 hX hW hS hL hs
  obtain ⟨hdd, rfl⟩ := e_dec hF.1 hd
  exact lv_irem hF.1.1 hF.1.2.1 hdd (iI_ne0 hb.1 hb.2) (W.eq (g2 := F0 m (pc + 1) lsA (.int (iI (a % b)) :: st.map (e_cv ad))) (by rw [iI_rem ha hb]) (kk hE p e R s m args below meth c H locs ad ad0 n0 lsA hF h1 h2 hX hW hS hL ⟨trivial, hs.2.2⟩))
theorem g_i2l (i : Nat) {a : Int} (hd : X.tb[i]? = some (pc, .i2l, pc')) (ha : -2147483648 ≤ a ∧ a ≤ 2147483647) (kk : G Λ Γ X d mc ms Q pc' ls (vL (Int64.ofInt a) :: st) M n kc ks) : G Λ Γ X d mc ms Q pc ls (vI a :: st) M n kc ks := by
  intro hE p e R s m args below meth c H locs ad ad0 n0 lsA hF h1 h2 hX hW hS hL hs
  obtain ⟨hdd, rfl⟩ := e_dec hF.1 hd
  exact lv_i2l hF.1.1 hF.1.2.1 hdd (iI_long ha) (kk hE p e R s m args below meth c H locs ad ad0 n0 lsA hF h1 h2 hX hW hS hL ⟨trivial, hs.2⟩)
/-- an int operation with its outcome told by a row of its own -/
theorem g_iand (i : Nat) {a b z : Int} (hd : X.tb[i]? = some (pc, .iand, pc')) (hz : iI a &&& iI b = iI z) (kk : G Λ Γ X d mc ms Q pc' ls (vI z :: st) M n kc ks) : G Λ Γ X d mc ms Q pc ls (vI b :: vI a :: st) M n kc ks := by
  intro hE p e R s m args below meth c H locs ad ad0 n0 lsA hF h1 h2 hX hW hS hL hs
  obtain ⟨hdd, rfl⟩ := e_dec hF.1 hd
  exact lv_iand hF.1.1 hF.1.2.1 hdd (W.eq (g2 := F0 m (pc + 1) lsA (.int (iI z) :: st.map (e_cv ad))) (by rw [hz]) (kk hE p e R s m args below meth c H locs ad ad0 n0 lsA hF h1 h2 hX hW hS hL ⟨trivial, hs.2.2⟩))
theorem g_ishl (i : Nat) {a b z : Int} (hd : X.tb[i]? = some (pc, .ishl, pc')) (hz : iI a <<< (iI b &&& 31) = iI z) (kk : G Λ Γ X d mc ms Q pc' ls (vI z :: st) M n kc ks) : G Λ Γ X d mc ms Q pc ls (vI b :: vI a :: st) M n kc ks := by
  intro hE p e R s m args below meth c H locs ad ad0 n0 lsA hF h1 h2 hX hW hS hL hs
  obtain ⟨hdd, rfl⟩ := e_dec hF.1 hd
  exact lv_ishl hF.1.1 hF.1.2.1 hdd (W.eq (g2 := F0 m (pc + 1) lsA (.int (iI z) :: st.map (e_cv ad))) (by rw [hz]) (kk hE p e R s m args below meth c H locs ad ad0 n0 lsA hF h1 h2 hX hW hS hL ⟨trivial, hs.2.2⟩))
theorem g_ishr (i : Nat) {a b z : Int} (hd : X.tb[i]? = some (pc, .ishr, pc')) (hz : iI a >>> (iI b &&& 31) = iI z) (kk : G Λ Γ X d mc ms Q pc' ls (vI z :: st) M n kc ks) : G Λ Γ X d mc ms Q pc ls (vI b :: vI a :: st) M n kc ks := by
  intro hE p e R s m args below meth c H locs ad ad0 n0 lsA hF h1 h2 hX hW hS hL hs
  obtain ⟨hdd, rfl⟩ := e_dec hF.1 hd
  exact lv_ishr hF.1.1 hF.1.2.1 hdd (W.eq (g2 := F0 m (pc + 1) lsA (.int (iI z) :: st.map (e_cv ad))) (by rw [hz]) (kk hE p e R s m args below meth c H locs ad ad0 n0 lsA hF h1 h2 hX hW hS hL ⟨trivial, hs.2.2⟩))
theorem g_i2c (i : Nat) {a z : Int} (hd : X.tb[i]? = some (pc, .i2c, pc')) (hz : ((iI a).toUInt32 % 65536).toInt32 = iI z) (kk : G Λ Γ X d mc ms Q pc' ls (vI z :: st) M n kc ks) : G Λ Γ X d mc ms Q pc ls (vI a :: st) M n kc ks := by
  intro hE p e R s m args below meth c H locs ad ad0 n0 lsA hF h1 h2 hX hW hS hL hs
  obtain ⟨hdd, rfl⟩ := e_dec hF.1 hd
  exact lv_i2c hF.1.1 hF.1.2.1 hdd hz (kk hE p e R s m args below meth c H locs ad ad0 n0 lsA hF h1 h2 hX hW hS hL ⟨trivial, hs.2⟩)
theorem g_i2b (i : Nat) {a z : Int} (hd : X.tb[i]? = some (pc, .i2b, pc')) (hz : (iI a).toInt8.toInt32 = iI z) (kk : G Λ Γ X d mc ms Q pc' ls (vI z :: st) M n kc ks) : G Λ Γ X d mc ms Q pc ls (vI a :: st) M n kc ks := by
  intro hE p e R s m args below meth c H locs ad ad0 n0 lsA hF h1 h2 hX hW hS hL hs
  obtain ⟨hdd, rfl⟩ := e_dec hF.1 hd
  exact lv_i2b hF.1.1 hF.1.2.1 hdd hz (kk hE p e R s m args below meth c H locs ad ad0 n0 lsA hF h1 h2 hX hW hS hL ⟨trivial, hs.2⟩)
theorem g_lcmp (i : Nat) {a b : Int64} {z : Int} (hd : X.tb[i]? = some (pc, .lcmp, pc')) (hz : lg_cmp a b = iI z) (kk : G Λ Γ X d mc ms Q pc' ls (vI z :: st) M n kc ks) : G Λ Γ X d mc ms Q pc ls (vL b :: vL a :: st) M n kc ks := by
  intro hE p e R s m args below meth c H locs ad ad0 n0 lsA hF h1 h2 hX hW hS hL hs
  obtain ⟨hdd, rfl⟩ := e_dec hF.1 hd
  exact W.lcmp hF.1.1 hF.1.2.1 hdd (W.eq (g2 := F0 m (pc + 1) lsA (.int (iI z) :: st.map (e_cv ad))) (by rw [hz]) (kk hE p e R s m args below meth c H locs ad ad0 n0 lsA hF h1 h2 hX hW hS hL ⟨trivial, hs.2.2⟩))
theorem g_lconst (i : Nat) {q : Fin 2} (hd : X.tb[i]? = some (pc, .lconst q, pc')) (kk : G Λ Γ X d mc ms Q pc' ls (vL (Int64.ofNat (q : Nat)) :: st) M n kc ks) : G Λ Γ X d mc ms Q pc ls st M n kc ks := by
  intro hE p e R s m args below meth c H locs ad ad0 n0 lsA hF h1 h2 hX hW hS hL hs
  obtain ⟨hdd, rfl⟩ := e_dec hF.1 hd
  exact lv_lconst hF.1.1 hF.1.2.1 hdd rfl (kk hE p e R s m args below meth c H locs ad ad0 n0 lsA hF h1 h2 hX hW hS hL ⟨trivial, hs⟩)

theorem g_get (i : Nat) {idx ci j k : Nat} {fs : List aV} {v : aV} (hd : X.tb[i]? = some (pc, .getfield idx, pc')) (hl : e_FL X.own idx ci j) (hM : M k = cO ci fs) (hf : fs[j]? = some v) (kk : G Λ Γ X d mc ms Q pc' ls (v :: st) M n kc ks) : G Λ Γ X d mc ms Q pc ls (vR k :: st) M n kc ks := by
  intro hE p e R s m args below meth c H locs ad ad0 n0 lsA hF h1 h2 hX hW hS hL hs
  obtain ⟨hdd, rfl⟩ := e_dec hF.1 hd
  obtain ⟨C, T, N, hci, hc, hj, hlk, hin⟩ := hl
  have hk := e_newO hE hW hM hci
  have hwf : e_wfE n (M k) := hW.2.2.1 k hk hs.1
  rw [hM] at hwf
  exact va_get hF.1.1 hF.1.2.1 (Ts := e_WS) hF.1.2.2.2.2.2.2.1 hin hF.1.2.2.2.2.2.1 (e_K hE.2.1 hF) hW.2.2.2.1 (k - e_NC) (fs := fs.map (e_cv ad)) ((e_ws_get hk hs.1).trans (by rw [hM]; rfl)) hc j hj (e_w hF hlk) (fun _ h => h) (v := e_cv ad v) (by rw [List.getElem?_map, hf]; rfl) hdd (kk hE p e R s m args below meth c H locs ad ad0 n0 lsA hF h1 h2 hX hW hS hL ⟨e_wfS_mem hwf v (List.mem_of_getElem? hf), hs.2⟩)
theorem g_getC (i : Nat) {idx ci j k : Nat} {fs : List aV} {v : aV} (hd : X.tb[i]? = some (pc, .getfield idx, pc')) (hl : e_FC X.own idx ci j) (hk : k < e_NC) (hM : M k = cO ci fs) (hf : fs[j]? = some v) (kk : G Λ Γ X d mc ms Q pc' ls (v :: st) M n kc ks) : G Λ Γ X d mc ms Q pc ls (vR k :: st) M n kc ks := by
  intro hE p e R s m args below meth c H locs ad ad0 n0 lsA hF h1 h2 hX hW hS hL hs
  obtain ⟨hdd, rfl⟩ := e_dec hF.1 hd
  obtain ⟨q, hq, hlk⟩ := hl
  rw [(hW.2.1 k hk).1] at hM
  have hcs : e_cst Γ k := by
    rcases hE.2.2.2.1 k hk with h | h
    · rw [h] at hM; cases hM; cases hf
    · exact h
  unfold e_cst at hcs
  rw [hM] at hcs
  obtain ⟨-, -, hw, hv⟩ := hcs
  obtain ⟨q', hq', hO⟩ := hv j v hf
  cases hq.symm.trans hq'
  have hO' := (va_OF.moved hF.2.1.alike hO).kept (e_old hF)
  have hvw : e_wfV e_NC v := e_wfS_mem hw v (List.mem_of_getElem? hf)
  rw [← (hW.2.1 k hk).2, ← e_cv_ext (fun j hj => (hW.2.1 j hj).2) hvw] at hO'
  exact vk_getf hF.1.1 hF.1.2.1 hO' hS hF.1.2.2.2.2.2.1 (e_w hF hlk) (fun _ h => h) hdd (kk hE p e R s m args below meth c H locs ad ad0 n0 lsA hF h1 h2 hX hW hS hL ⟨e_wfV_mono hW.1 hvw, hs.2⟩)
theorem g_put (i : Nat) {idx ci j k : Nat} {ty : FieldType} {fs fs' : List aV} {v : aV} (hd : X.tb[i]? = some (pc, .putfield idx, pc')) (hl : e_FP X.own idx ci j ty false) (hM : M k = cO ci fs) (hf : e_ls fs j v (fun r => some r) = some fs') (hv : e_fit ty v) (kk : ∀ M', M' = va_up M k (cO ci fs') → G Λ Γ X d mc ms Q pc' ls st M' n kc ks) : G Λ Γ X d mc ms Q pc ls (v :: vR k :: st) M n kc ks := by
  intro hE p e R s m args below meth c H locs ad ad0 n0 lsA hF h1 h2 hX hW hS hL hs
  obtain ⟨hdd, rfl⟩ := e_dec hF.1 hd
  obtain ⟨C, T, N, hci, hc, hj, hlk, hin, hty, hfin, ⟨ty0, hty0⟩, hnm, -⟩ := hl
  have hk := e_newO hE hW hM hci
  obtain ⟨hlt, he⟩ := e_ls_ok _ _ _ _ _ hf
  cases he
  have hwf : e_wfE n (M k) := hW.2.2.1 k hk hs.2.1
  rw [hM] at hwf
  have hw2 : e_wfE n (cO ci (fs.set j v)) := e_wfS_set hwf hs.1
  refine va_put hF.1.1 hF.1.2.1 (Ts := e_WS) hF.1.2.2.2.2.2.2.1 hin ty0 hty0 hnm hF.1.2.2.2.2.2.1 (e_K hE.2.1 hF) hW.2.2.2.1 hW.2.2.2.2.1 hS (k - e_NC) (fs := fs.map (e_cv ad)) ((e_ws_get hk hs.2.1).trans (by rw [hM]; rfl)) hc j hj (e_w hF hlk) (fun _ h => h) hfin hty (v := e_cv ad v) (e_fit_ok hv).1 (e_fit_ok hv).2 (by rw [List.length_map]; exact hlt) hdd (fun H1 locs1 hP hD hS1 => ?_)
  rw [← e_map_set] at hP hD
  exact kk _ rfl hE p e R s m args below meth c H1 locs1 ad ad0 n0 lsA hF h1 h2 hX (e_Wp_set hW hk hs.2.1 hw2 hP hD hF.2.2.2.1 hF.2.2.2.2 hS1) hS1 hL hs.2.2
theorem g_putF (i : Nat) {idx ci j k : Nat} {ty : FieldType} {fs fs' : List aV} {v : aV} (hd : X.tb[i]? = some (pc, .putfield idx, pc')) (hl : e_FP X.own idx ci j ty true) (hy : X.y.name = "<init>") (hM : M k = cO ci fs) (hf : e_ls fs j v (fun r => some r) = some fs') (hv : e_fit ty v) (kk : ∀ M', M' = va_up M k (cO ci fs') → G Λ Γ X d mc ms Q pc' ls st M' n kc ks) : G Λ Γ X d mc ms Q pc ls (v :: vR k :: st) M n kc ks := by
  intro hE p e R s m args below meth c H locs ad ad0 n0 lsA hF h1 h2 hX hW hS hL hs
  obtain ⟨hdd, rfl⟩ := e_dec hF.1 hd
  obtain ⟨C, T, N, hci, hc, hj, hlk, hin, hty, hfin, ⟨ty0, hty0⟩, hnm, hown⟩ := hl
  have hk := e_newO hE hW hM hci
  obtain ⟨hlt, he⟩ := e_ls_ok _ _ _ _ _ hf
  cases he
  have hwf : e_wfE n (M k) := hW.2.2.1 k hk hs.2.1
  rw [hM] at hwf
  have hw2 : e_wfE n (cO ci (fs.set j v)) := e_wfS_set hwf hs.1
  refine va_putF hF.1.1 hF.1.2.1 (Ts := e_WS) hF.1.2.2.2.2.2.2.1 hin ty0 hty0 hnm hF.1.2.2.2.2.2.1 (e_K hE.2.1 hF) hW.2.2.2.1 hW.2.2.2.2.1 hS (k - e_NC) (fs := fs.map (e_cv ad)) ((e_ws_get hk hs.2.1).trans (by rw [hM]; rfl)) hc j hj (e_w hF hlk) (fun _ h => h) hfin (hF.1.2.2.2.2.2.2.2.2.1.trans hy) (hown rfl).symm hty (v := e_cv ad v) (e_fit_ok hv).1 (e_fit_ok hv).2 (by rw [List.length_map]; exact hlt) hdd (fun H1 locs1 hP hD hS1 => ?_)
  rw [← e_map_set] at hP hD
  exact kk _ rfl hE p e R s m args below meth c H1 locs1 ad ad0 n0 lsA hF h1 h2 hX (e_Wp_set hW hk hs.2.1 hw2 hP hD hF.2.2.2.1 hF.2.2.2.2 hS1) hS1 hL hs.2.2

theorem g_iald (i j : Nat) {kd len k : Nat} {f : Nat → Int} {z : Int} (hd : X.tb[i]? = some (pc, .iaload, pc')) (hkd : e_TY kd = .int) (hM : M k = cI kd len f) (hz : z = (j : Int)) (hj : j < len) (hn : len ≤ 2147483647) (kk : G Λ Γ X d mc ms Q pc' ls (vI (f j) :: st) M n kc ks) : G Λ Γ X d mc ms Q pc ls (vI z :: vR k :: st) M n kc ks := by
  intro hE p e R s m args below meth c H locs ad ad0 n0 lsA hF h1 h2 hX hW hS hL hs
  obtain ⟨hdd, rfl⟩ := e_dec hF.1 hd
  subst hz
  have hin : vp_in (iI (j : Int)) len := iI_vp (by omega) (by omega) (by omega)
  have hcl : (iI (j : Int)).toNatClampNeg = j := by rw [iI_cl (by omega) (by omega)]; rfl
  have kk' := kk hE p e R s m args below meth c H locs ad ad0 n0 lsA hF h1 h2 hX hW hS hL ⟨trivial, hs.2.2⟩
  by_cases hk : k < e_NC
  · obtain ⟨e1, hT⟩ := e_old_arr hE hW hM hk
    rw [hkd, ← e1] at hT
    exact va_ti hF.1.1 hF.1.2.1 ((va_T.moved hF.2.1.alike hT).kept (e_old hF)) hS hin (v := .int (iI (f j))) (by rw [hcl]) hdd kk'
  · have hk : e_NC ≤ k := Nat.le_of_not_lt hk
    have hwf : e_wfE n (M k) := hW.2.2.1 k hk hs.2.1
    rw [hM] at hwf
    have hty := e_tys hE (e_wfE_kd hwf)
    rw [hkd] at hty
    refine va_iald hF.1.1 hF.1.2.1 (e_K hE.2.1 hF) hW.2.2.2.1 (k - e_NC) kd (f := fun j => iI (f j)) ((e_ws_get hk hs.2.1).trans (by rw [hM]; rfl)) hty hin hdd (W.eq (g2 := F0 m (pc + 1) lsA (.int (iI (f j)) :: st.map (e_cv ad))) (by rw [hcl]) kk')

theorem g_bald (i j : Nat) {kd len k : Nat} {f : Nat → Int} {z : Int} (hd : X.tb[i]? = some (pc, .baload, pc')) (hkd : e_TY kd = .byte) (hM : M k = cI kd len f) (hz : z = (j : Int)) (hj : j < len) (hn : len ≤ 2147483647) (kk : G Λ Γ X d mc ms Q pc' ls (vI (f j) :: st) M n kc ks) : G Λ Γ X d mc ms Q pc ls (vI z :: vR k :: st) M n kc ks := by
  intro hE p e R s m args below meth c H locs ad ad0 n0 lsA hF h1 h2 hX hW hS hL hs
  obtain ⟨hdd, rfl⟩ := e_dec hF.1 hd
  subst hz
  have hin : vp_in (iI (j : Int)) len := iI_vp (by omega) (by omega) (by omega)
  have hcl : (iI (j : Int)).toNatClampNeg = j := by rw [iI_cl (by omega) (by omega)]; rfl
  have kk' := kk hE p e R s m args below meth c H locs ad ad0 n0 lsA hF h1 h2 hX hW hS hL ⟨trivial, hs.2.2⟩
  by_cases hk : k < e_NC
  · obtain ⟨e1, hT⟩ := e_old_arr hE hW hM hk
    rw [hkd, ← e1] at hT
    exact va_tb hF.1.1 hF.1.2.1 ((va_T.moved hF.2.1.alike hT).kept (e_old hF)) hS hin (v := .int (iI (f j))) (by rw [hcl]) hdd kk'
  · have hk : e_NC ≤ k := Nat.le_of_not_lt hk
    have hwf : e_wfE n (M k) := hW.2.2.1 k hk hs.2.1
    rw [hM] at hwf
    have hty := e_tys hE (e_wfE_kd hwf)
    rw [hkd] at hty
    refine va_bald hF.1.1 hF.1.2.1 (e_K hE.2.1 hF) hW.2.2.2.1 (k - e_NC) kd (f := fun j => iI (f j)) ((e_ws_get hk hs.2.1).trans (by rw [hM]; rfl)) hty hin hdd (W.eq (g2 := F0 m (pc + 1) lsA (.int (iI (f j)) :: st.map (e_cv ad))) (by rw [hcl]) kk')

theorem g_zald (i j : Nat) {kd len k : Nat} {f : Nat → Int} {z : Int} (hd : X.tb[i]? = some (pc, .baload, pc')) (hkd : e_TY kd = .boolean) (hM : M k = cI kd len f) (hz : z = (j : Int)) (hj : j < len) (hn : len ≤ 2147483647) (kk : G Λ Γ X d mc ms Q pc' ls (vI (f j) :: st) M n kc ks) : G Λ Γ X d mc ms Q pc ls (vI z :: vR k :: st) M n kc ks := by
  intro hE p e R s m args below meth c H locs ad ad0 n0 lsA hF h1 h2 hX hW hS hL hs
  obtain ⟨hdd, rfl⟩ := e_dec hF.1 hd
  subst hz
  have hin : vp_in (iI (j : Int)) len := iI_vp (by omega) (by omega) (by omega)
  have hcl : (iI (j : Int)).toNatClampNeg = j := by rw [iI_cl (by omega) (by omega)]; rfl
  have kk' := kk hE p e R s m args below meth c H locs ad ad0 n0 lsA hF h1 h2 hX hW hS hL ⟨trivial, hs.2.2⟩
  by_cases hk : k < e_NC
  · obtain ⟨e1, hT⟩ := e_old_arr hE hW hM hk
    rw [hkd, ← e1] at hT
    exact va_tz hF.1.1 hF.1.2.1 ((va_T.moved hF.2.1.alike hT).kept (e_old hF)) hS hin (v := .int (iI (f j))) (by rw [hcl]) hdd kk'
  · have hk : e_NC ≤ k := Nat.le_of_not_lt hk
    have hwf : e_wfE n (M k) := hW.2.2.1 k hk hs.2.1
    rw [hM] at hwf
    have hty := e_tys hE (e_wfE_kd hwf)
    rw [hkd] at hty
    refine va_zald hF.1.1 hF.1.2.1 (e_K hE.2.1 hF) hW.2.2.2.1 (k - e_NC) kd (f := fun j => iI (f j)) ((e_ws_get hk hs.2.1).trans (by rw [hM]; rfl)) hty hin hdd (W.eq (g2 := F0 m (pc + 1) lsA (.int (iI (f j)) :: st.map (e_cv ad))) (by rw [hcl]) kk')

theorem g_aald (i j : Nat) {kd len k : Nat} {C : String} {g : Nat → Option Nat} {z : Int} (hd : X.tb[i]? = some (pc, .aaload, pc')) (hkd : e_TY kd = .object C) (hM : M k = cR kd len g) (hz : z = (j : Int)) (hj : j < len) (hn : len ≤ 2147483647) (kk : G Λ Γ X d mc ms Q pc' ls (vO (g j) :: st) M n kc ks) : G Λ Γ X d mc ms Q pc ls (vI z :: vR k :: st) M n kc ks := by
  intro hE p e R s m args below meth c H locs ad ad0 n0 lsA hF h1 h2 hX hW hS hL hs
  obtain ⟨hdd, rfl⟩ := e_dec hF.1 hd
  subst hz
  have hin : vp_in (iI (j : Int)) len := iI_vp (by omega) (by omega) (by omega)
  have hcl : (iI (j : Int)).toNatClampNeg = j := by rw [iI_cl (by omega) (by omega)]; rfl
  by_cases hk : k < e_NC
  · obtain ⟨e1, hT, hw⟩ := e_old_arrR hE hW hM hk
    rw [hkd, ← e1] at hT
    have hv : e_wfV n (vO (g j)) := by
      cases hg : g j with
      | none => trivial
      | some r => exact Nat.lt_of_lt_of_le (hw j r hg) hW.1
    refine vb_tq hF.1.1 hF.1.2.1 ((va_T.moved hF.2.1.alike hT).kept (e_old hF)) hS hin (v := e_cv ad (vO (g j))) ?_ hdd (kk hE p e R s m args below meth c H locs ad ad0 n0 lsA hF h1 h2 hX hW hS hL ⟨hv, hs.2.2⟩)
    rw [hcl]
    cases hg : g j with
    | none => rfl
    | some r => show Value.ref (Γ.ac r) = Value.ref (ad r); rw [(hW.2.1 r (hw j r hg)).2]
  · have hk : e_NC ≤ k := Nat.le_of_not_lt hk
    have hwf : e_wfE n (M k) := hW.2.2.1 k hk hs.2.1
    rw [hM] at hwf
    have hty := e_tys hE (e_wfE_kd hwf)
    rw [hkd] at hty
    have hv : e_wfV n (vO (g j)) := by
      cases hg : g j with
      | none => trivial
      | some r => exact hwf.2 j r hg
    have e2 : va_rf ((g j).map ad) = e_cv ad (vO (g j)) := by cases g j <;> rfl
    exact va_aldq hF.1.1 hF.1.2.1 (e_K hE.2.1 hF) hW.2.2.2.1 (k - e_NC) kd (f := fun j => (g j).map ad) ((e_ws_get hk hs.2.1).trans (by rw [hM]; rfl)) hty hin hdd (W.eq (g2 := F0 m (pc + 1) lsA (e_cv ad (vO (g j)) :: st.map (e_cv ad))) (by rw [hcl, e2]) (kk hE p e R s m args below meth c H locs ad ad0 n0 lsA hF h1 h2 hX hW hS hL ⟨hv, hs.2.2⟩))

theorem g_lald (i j : Nat) {kd len k : Nat} {f : Nat → Int64} {z : Int} (hd : X.tb[i]? = some (pc, .laload, pc')) (hkd : e_TY kd = .long) (hM : M k = cL kd len f) (hk : e_NC ≤ k) (hz : z = (j : Int)) (hj : j < len) (hn : len ≤ 2147483647) (kk : G Λ Γ X d mc ms Q pc' ls (vL (f j) :: st) M n kc ks) : G Λ Γ X d mc ms Q pc ls (vI z :: vR k :: st) M n kc ks := by
  intro hE p e R s m args below meth c H locs ad ad0 n0 lsA hF h1 h2 hX hW hS hL hs
  obtain ⟨hdd, rfl⟩ := e_dec hF.1 hd
  subst hz
  have hin : vp_in (iI (j : Int)) len := iI_vp (by omega) (by omega) (by omega)
  have hcl : (iI (j : Int)).toNatClampNeg = j := by rw [iI_cl (by omega) (by omega)]; rfl
  have kk' := kk hE p e R s m args below meth c H locs ad ad0 n0 lsA hF h1 h2 hX hW hS hL ⟨trivial, hs.2.2⟩
  have hwf : e_wfE n (M k) := hW.2.2.1 k hk hs.2.1
  rw [hM] at hwf
  have hty := e_tys hE (e_wfE_kd hwf)
  rw [hkd] at hty
  exact va_lald hF.1.1 hF.1.2.1 (e_K hE.2.1 hF) hW.2.2.2.1 (k - e_NC) kd (f := f) ((e_ws_get hk hs.2.1).trans (by rw [hM]; rfl)) hty hin hdd (W.eq (g2 := F0 m (pc + 1) lsA (e_cv ad (vL (f j)) :: st.map (e_cv ad))) (by rw [hcl]; rfl) kk')

theorem g_dald (i j : Nat) {kd len k : Nat} {f : Nat → UInt64} {z : Int} (hd : X.tb[i]? = some (pc, .daload, pc')) (hkd : e_TY kd = .double) (hM : M k = cD kd len f) (hk : e_NC ≤ k) (hz : z = (j : Int)) (hj : j < len) (hn : len ≤ 2147483647) (kk : G Λ Γ X d mc ms Q pc' ls (vD (f j) :: st) M n kc ks) : G Λ Γ X d mc ms Q pc ls (vI z :: vR k :: st) M n kc ks := by
  intro hE p e R s m args below meth c H locs ad ad0 n0 lsA hF h1 h2 hX hW hS hL hs
  obtain ⟨hdd, rfl⟩ := e_dec hF.1 hd
  subst hz
  have hin : vp_in (iI (j : Int)) len := iI_vp (by omega) (by omega) (by omega)
  have hcl : (iI (j : Int)).toNatClampNeg = j := by rw [iI_cl (by omega) (by omega)]; rfl
  have kk' := kk hE p e R s m args below meth c H locs ad ad0 n0 lsA hF h1 h2 hX hW hS hL ⟨trivial, hs.2.2⟩
  have hwf : e_wfE n (M k) := hW.2.2.1 k hk hs.2.1
  rw [hM] at hwf
  have hty := e_tys hE (e_wfE_kd hwf)
  rw [hkd] at hty
  exact va_dald hF.1.1 hF.1.2.1 (e_K hE.2.1 hF) hW.2.2.2.1 (k - e_NC) kd (f := f) ((e_ws_get hk hs.2.1).trans (by rw [hM]; rfl)) hty hin hdd (W.eq (g2 := F0 m (pc + 1) lsA (e_cv ad (vD (f j)) :: st.map (e_cv ad))) (by rw [hcl]; rfl) kk')

theorem e_upd {f : Nat → Int} {j : Nat} {x : Int} : upd (fun j => iI (f j)) j (iI x) = fun i => iI (va_up f j x i) := by
  funext i
  by_cases h : i = j
  · subst h; rw [pk_us, va_up_self]
  · rw [pk_un h, va_up_ne _ _ h]
theorem e_updL {f : Nat → Int64} {j : Nat} {x : Int64} : vp_updL f j x = va_up f j x := by
  funext i
  by_cases h : i = j
  · subst h; rw [pk_uLs, va_up_self]
  · rw [pk_uLn h, va_up_ne _ _ h]
theorem e_updD {f : Nat → UInt64} {j : Nat} {x : UInt64} : vf_upd f j x = va_up f j x := by
  funext i
  by_cases h : i = j
  · subst h; simp [vf_upd, va_up]
  · simp [vf_upd, va_up, h]

theorem g_iast (i j : Nat) {kd len k : Nat} {f : Nat → Int} {z x : Int} (hd : X.tb[i]? = some (pc, .iastore, pc')) (hkd : e_TY kd = .int) (hk10 : kd < 10) (hM : M k = cI kd len f) (hz : z = (j : Int)) (hj : j < len) (hn : len ≤ 2147483647) (kk : ∀ M', M' = va_up M k (cI kd len (va_up f j x)) → G Λ Γ X d mc ms Q pc' ls st M' n kc ks) : G Λ Γ X d mc ms Q pc ls (vI x :: vI z :: vR k :: st) M n kc ks := by
  intro hE p e R s m args below meth c H locs ad ad0 n0 lsA hF h1 h2 hX hW hS hL hs
  obtain ⟨hdd, rfl⟩ := e_dec hF.1 hd
  subst hz
  have hin : vp_in (iI (j : Int)) len := iI_vp (by omega) (by omega) (by omega)
  have hcl : (iI (j : Int)).toNatClampNeg = j := by rw [iI_cl (by omega) (by omega)]; rfl
  have hk := e_newA hE hW hM hk10
  have hwf : e_wfE n (M k) := hW.2.2.1 k hk hs.2.2.1
  rw [hM] at hwf
  have hty := e_tys hE (e_wfE_kd hwf)
  rw [hkd] at hty
  
  refine va_iast hF.1.1 hF.1.2.1 (e_K hE.2.1 hF) hW.2.2.2.1 hW.2.2.2.2.1 hS (k - e_NC) kd (f := fun j => iI (f j)) (x := iI x) ((e_ws_get hk hs.2.2.1).trans (by rw [hM]; rfl)) hty hin hdd (fun H1 locs1 hP hD hS1 => ?_)
  rw [hcl, e_upd] at hP hD
  exact kk _ rfl hE p e R s m args below meth c H1 locs1 ad ad0 n0 lsA hF h1 h2 hX (e_Wp_set (c := cI kd len (va_up f j x)) hW hk hs.2.2.1 hwf hP hD hF.2.2.2.1 hF.2.2.2.2 hS1) hS1 hL hs.2.2.2

theorem g_bast (i j : Nat) {kd len k : Nat} {f : Nat → Int} {z x : Int} (hd : X.tb[i]? = some (pc, .bastore, pc')) (hkd : e_TY kd = .byte) (hk10 : kd < 10) (hM : M k = cI kd len f) (hz : z = (j : Int)) (hj : j < len) (hn : len ≤ 2147483647) (hx : -128 ≤ x ∧ x ≤ 127) (kk : ∀ M', M' = va_up M k (cI kd len (va_up f j x)) → G Λ Γ X d mc ms Q pc' ls st M' n kc ks) : G Λ Γ X d mc ms Q pc ls (vI x :: vI z :: vR k :: st) M n kc ks := by
  intro hE p e R s m args below meth c H locs ad ad0 n0 lsA hF h1 h2 hX hW hS hL hs
  obtain ⟨hdd, rfl⟩ := e_dec hF.1 hd
  subst hz
  have hin : vp_in (iI (j : Int)) len := iI_vp (by omega) (by omega) (by omega)
  have hcl : (iI (j : Int)).toNatClampNeg = j := by rw [iI_cl (by omega) (by omega)]; rfl
  have hk := e_newA hE hW hM hk10
  have hwf : e_wfE n (M k) := hW.2.2.1 k hk hs.2.2.1
  rw [hM] at hwf
  have hty := e_tys hE (e_wfE_kd hwf)
  rw [hkd] at hty
  have hnr : vp_nar .byte (iI x) = iI x := by rw [vp_nar_byte]; exact (e_nbz hx).1
  refine va_bast hF.1.1 hF.1.2.1 (e_K hE.2.1 hF) hW.2.2.2.1 hW.2.2.2.2.1 hS (k - e_NC) kd (f := fun j => iI (f j)) (x := iI x) ((e_ws_get hk hs.2.2.1).trans (by rw [hM]; rfl)) hty hin hdd (fun H1 locs1 hP hD hS1 => ?_)
  rw [hnr] at hP hD
  rw [hcl, e_upd] at hP hD
  exact kk _ rfl hE p e R s m args below meth c H1 locs1 ad ad0 n0 lsA hF h1 h2 hX (e_Wp_set (c := cI kd len (va_up f j x)) hW hk hs.2.2.1 hwf hP hD hF.2.2.2.1 hF.2.2.2.2 hS1) hS1 hL hs.2.2.2

theorem g_zast (i j : Nat) {kd len k : Nat} {f : Nat → Int} {z x : Int} (hd : X.tb[i]? = some (pc, .bastore, pc')) (hkd : e_TY kd = .boolean) (hk10 : kd < 10) (hM : M k = cI kd len f) (hz : z = (j : Int)) (hj : j < len) (hn : len ≤ 2147483647) (hx : x = 0 ∨ x = 1) (kk : ∀ M', M' = va_up M k (cI kd len (va_up f j x)) → G Λ Γ X d mc ms Q pc' ls st M' n kc ks) : G Λ Γ X d mc ms Q pc ls (vI x :: vI z :: vR k :: st) M n kc ks := by
  intro hE p e R s m args below meth c H locs ad ad0 n0 lsA hF h1 h2 hX hW hS hL hs
  obtain ⟨hdd, rfl⟩ := e_dec hF.1 hd
  subst hz
  have hin : vp_in (iI (j : Int)) len := iI_vp (by omega) (by omega) (by omega)
  have hcl : (iI (j : Int)).toNatClampNeg = j := by rw [iI_cl (by omega) (by omega)]; rfl
  have hk := e_newA hE hW hM hk10
  have hwf : e_wfE n (M k) := hW.2.2.1 k hk hs.2.2.1
  rw [hM] at hwf
  have hty := e_tys hE (e_wfE_kd hwf)
  rw [hkd] at hty
  have hnr : vp_nar .boolean (iI x) = iI x := by rcases hx with rfl | rfl <;> decide
  refine va_zast hF.1.1 hF.1.2.1 (e_K hE.2.1 hF) hW.2.2.2.1 hW.2.2.2.2.1 hS (k - e_NC) kd (f := fun j => iI (f j)) (x := iI x) ((e_ws_get hk hs.2.2.1).trans (by rw [hM]; rfl)) hty hin hdd (fun H1 locs1 hP hD hS1 => ?_)
  rw [hnr] at hP hD
  rw [hcl, e_upd] at hP hD
  exact kk _ rfl hE p e R s m args below meth c H1 locs1 ad ad0 n0 lsA hF h1 h2 hX (e_Wp_set (c := cI kd len (va_up f j x)) hW hk hs.2.2.1 hwf hP hD hF.2.2.2.1 hF.2.2.2.2 hS1) hS1 hL hs.2.2.2

theorem g_last (i j : Nat) {kd len k : Nat} {f : Nat → Int64} {z : Int} {x : Int64} (hd : X.tb[i]? = some (pc, .lastore, pc')) (hkd : e_TY kd = .long) (hM : M k = cL kd len f) (hk : e_NC ≤ k) (hz : z = (j : Int)) (hj : j < len) (hn : len ≤ 2147483647) (kk : ∀ M', M' = va_up M k (cL kd len (va_up f j x)) → G Λ Γ X d mc ms Q pc' ls st M' n kc ks) : G Λ Γ X d mc ms Q pc ls (vL x :: vI z :: vR k :: st) M n kc ks := by
  intro hE p e R s m args below meth c H locs ad ad0 n0 lsA hF h1 h2 hX hW hS hL hs
  obtain ⟨hdd, rfl⟩ := e_dec hF.1 hd
  subst hz
  have hin : vp_in (iI (j : Int)) len := iI_vp (by omega) (by omega) (by omega)
  have hcl : (iI (j : Int)).toNatClampNeg = j := by rw [iI_cl (by omega) (by omega)]; rfl
  have hwf : e_wfE n (M k) := hW.2.2.1 k hk hs.2.2.1
  rw [hM] at hwf
  have hty := e_tys hE (e_wfE_kd hwf)
  rw [hkd] at hty
  refine va_last hF.1.1 hF.1.2.1 (e_K hE.2.1 hF) hW.2.2.2.1 hW.2.2.2.2.1 hS (k - e_NC) kd (f := f) (x := x) ((e_ws_get hk hs.2.2.1).trans (by rw [hM]; rfl)) hty hin hdd (fun H1 locs1 hP hD hS1 => ?_)
  rw [hcl, e_updL] at hP hD
  exact kk _ rfl hE p e R s m args below meth c H1 locs1 ad ad0 n0 lsA hF h1 h2 hX (e_Wp_set (c := cL kd len (va_up f j x)) hW hk hs.2.2.1 hwf hP hD hF.2.2.2.1 hF.2.2.2.2 hS1) hS1 hL hs.2.2.2

theorem g_dast (i j : Nat) {kd len k : Nat} {f : Nat → UInt64} {z : Int} {x : UInt64} (hd : X.tb[i]? = some (pc, .dastore, pc')) (hkd : e_TY kd = .double) (hM : M k = cD kd len f) (hk : e_NC ≤ k) (hz : z = (j : Int)) (hj : j < len) (hn : len ≤ 2147483647) (kk : ∀ M', M' = va_up M k (cD kd len (va_up f j x)) → G Λ Γ X d mc ms Q pc' ls st M' n kc ks) : G Λ Γ X d mc ms Q pc ls (vD x :: vI z :: vR k :: st) M n kc ks := by
  intro hE p e R s m args below meth c H locs ad ad0 n0 lsA hF h1 h2 hX hW hS hL hs
  obtain ⟨hdd, rfl⟩ := e_dec hF.1 hd
  subst hz
  have hin : vp_in (iI (j : Int)) len := iI_vp (by omega) (by omega) (by omega)
  have hcl : (iI (j : Int)).toNatClampNeg = j := by rw [iI_cl (by omega) (by omega)]; rfl
  have hwf : e_wfE n (M k) := hW.2.2.1 k hk hs.2.2.1
  rw [hM] at hwf
  have hty := e_tys hE (e_wfE_kd hwf)
  rw [hkd] at hty
  refine va_dast hF.1.1 hF.1.2.1 (e_K hE.2.1 hF) hW.2.2.2.1 hW.2.2.2.2.1 hS (k - e_NC) kd (f := f) (x := x) ((e_ws_get hk hs.2.2.1).trans (by rw [hM]; rfl)) hty hin hdd (fun H1 locs1 hP hD hS1 => ?_)
  rw [hcl, e_updD] at hP hD
  exact kk _ rfl hE p e R s m args below meth c H1 locs1 ad ad0 n0 lsA hF h1 h2 hX (e_Wp_set (c := cD kd len (va_up f j x)) hW hk hs.2.2.1 hwf hP hD hF.2.2.2.1 hF.2.2.2.2 hS1) hS1 hL hs.2.2.2

theorem g_aast (i j : Nat) {kd len k v ci : Nat} {r : vw_C} {g : Nat → Option Nat} {vs : List aV} {z : Int} (hd : X.tb[i]? = some (pc, .aastore, pc')) (hkd : e_TY kd = .object r.1) (hk10 : kd < 10) (hc : vwCl[ci]? = some r) (hci : ci < 20) (hM : M k = cR kd len g) (hV : M v = cO ci vs) (hz : z = (j : Int)) (hj : j < len) (hn : len ≤ 2147483647) (kk : ∀ M', M' = va_up M k (cR kd len (va_up g j (some v))) → G Λ Γ X d mc ms Q pc' ls st M' n kc ks) : G Λ Γ X d mc ms Q pc ls (vR v :: vI z :: vR k :: st) M n kc ks := by
  intro hE p e R s m args below meth c H locs ad ad0 n0 lsA hF h1 h2 hX hW hS hL hs
  obtain ⟨hdd, rfl⟩ := e_dec hF.1 hd
  subst hz
  have hin : vp_in (iI (j : Int)) len := iI_vp (by omega) (by omega) (by omega)
  have hcl : (iI (j : Int)).toNatClampNeg = j := by rw [iI_cl (by omega) (by omega)]; rfl
  have hk := e_newA hE hW hM hk10
  have hkv := e_newO hE hW hV hci
  have hwf : e_wfE n (M k) := hW.2.2.1 k hk hs.2.2.1
  rw [hM] at hwf
  have hty := e_tys hE (e_wfE_kd hwf)
  rw [hkd] at hty
  have hw2 : e_wfE n (cR kd len (va_up g j (some v))) := ⟨hwf.1, fun i r hi => by
    by_cases h : i = j
    · subst h; rw [va_up_self] at hi; cases hi; exact hs.1
    · rw [va_up_ne _ _ h] at hi; exact hwf.2 i r hi⟩
  have eg : va_up (fun j => (g j).map ad) j (some (ad v)) = fun i => (va_up g j (some v) i).map ad := by
    funext i
    by_cases h : i = j
    · subst h; rw [va_up_self, va_up_self]; rfl
    · rw [va_up_ne _ _ h, va_up_ne _ _ h]
  refine va_astq hF.1.1 hF.1.2.1 (e_K hE.2.1 hF) hW.2.2.2.1 hW.2.2.2.2.1 hS (k - e_NC) kd (v - e_NC) ci (f := fun j => (g j).map ad) ((e_ws_get hk hs.2.2.1).trans (by rw [hM]; rfl)) hty ((e_ws_get hkv hs.1).trans (by rw [hV]; rfl)) hc hin hdd (fun H1 locs1 hP hD hS1 => ?_)
  rw [hcl, eg] at hP hD
  exact kk _ rfl hE p e R s m args below meth c H1 locs1 ad ad0 n0 lsA hF h1 h2 hX (e_Wp_set (c := cR kd len (va_up g j (some v))) hW hk hs.2.2.1 hw2 hP hD hF.2.2.2.1 hF.2.2.2.2 hS1) hS1 hL hs.2.2.2
theorem g_alen (i : Nat) {kd k : Nat} {a : aA} (hd : X.tb[i]? = some (pc, .arraylength, pc')) (hM : M k = .inl (kd, a)) (kk : G Λ Γ X d mc ms Q pc' ls (vI (a.1 : Int) :: st) M n kc ks) : G Λ Γ X d mc ms Q pc ls (vR k :: st) M n kc ks := by
  intro hE p e R s m args below meth c H locs ad ad0 n0 lsA hF h1 h2 hX hW hS hL hs
  obtain ⟨hdd, rfl⟩ := e_dec hF.1 hd
  have kk' := kk hE p e R s m args below meth c H locs ad ad0 n0 lsA hF h1 h2 hX hW hS hL ⟨trivial, hs.2⟩
  by_cases hk : k < e_NC
  · match a, hM, kk' with
    | (len, .inl f), hM, kk' =>
      obtain ⟨e1, hT⟩ := e_old_arr hE hW hM hk
      rw [← e1] at hT
      exact va_tlen hF.1.1 hF.1.2.1 ((va_T.moved hF.2.1.alike hT).kept (e_old hF)) hS (iI_nat _).symm hdd kk'
    | (len, .inr (.inr (.inr g))), hM, kk' =>
      obtain ⟨e1, hT, -⟩ := e_old_arrR hE hW hM hk
      rw [← e1] at hT
      exact va_tlen hF.1.1 hF.1.2.1 ((va_T.moved hF.2.1.alike hT).kept (e_old hF)) hS (iI_nat _).symm hdd kk'
    | (len, .inr (.inl f)), hM, _ =>
      rw [(hW.2.1 k hk).1] at hM
      rcases hE.2.2.2.1 k hk with h | h
      · rw [h] at hM; cases hM
      · unfold e_cst at h; rw [hM] at h; exact h.elim
    | (len, .inr (.inr (.inl f))), hM, _ =>
      rw [(hW.2.1 k hk).1] at hM
      rcases hE.2.2.2.1 k hk with h | h
      · rw [h] at hM; cases hM
      · unfold e_cst at h; rw [hM] at h; exact h.elim
  · have hk : e_NC ≤ k := Nat.le_of_not_lt hk
    have hwf : e_wfE n (M k) := hW.2.2.1 k hk hs.1
    rw [hM] at hwf
    have hty := e_tys hE (e_wfE_kd hwf)
    exact va_alen hF.1.1 hF.1.2.1 (e_K hE.2.1 hF) hW.2.2.2.1 (k - e_NC) kd (x := e_ca ad a) ((e_ws_get hk hs.1).trans (by rw [hM]; rfl)) hty (iI_nat _).symm hdd kk'

end R1
end
section
/-! ENGINE 6: rules: new cells, calls, ends, throws, the start -/
def e_cN (own : String) (idx ci N : Nat) (fs : List aV) : Prop := ∃ (C : String) (T : u_T), ci < 20 ∧ vwCl[ci]? = some (C, T, N) ∧ Cond.classLink own idx C ∈ e_WS ∧ Cond.instantiable C N ∈ e_WS ∧ Cond.initialized C ∈ e_WS ∧ (∀ w ∈ u_ws C T N, w ∈ e_WS) ∧ e_wfS 0 fs ∧
  ∃ ty : Nat → FieldType, (∀ k, k < N → parseFieldDescriptor (T k).2.2.1 = some (ty k)) ∧ ∀ j, j < N → defaultValue (ty j) = vp_V (fs.map (e_cv (fun _ => 0))) j
def e_ct (v : aV) : Nat := match v with
  | .inr (.inr (.inl _)) => 2
  | .inr (.inr (.inr (.inr _))) => 2
  | _ => 1
def e_sum (st : List aV) : Nat := match st with
  | [] => 0
  | v :: r => e_ct v + e_sum r
theorem e_ct_eq {ad : Nat → Nat} (v : aV) : (e_cv ad v).category = e_ct v := by
  match v with
  | .inl z => rfl
  | .inr (.inl none) => rfl
  | .inr (.inl (some k)) => rfl
  | .inr (.inr (.inl z)) => rfl
  | .inr (.inr (.inr (.inl z))) => rfl
  | .inr (.inr (.inr (.inr z))) => rfl
theorem e_sum_eq {ad : Nat → Nat} : ∀ st : List aV, ((st.map (e_cv ad)).map fun v => v.category).sum = e_sum st
  | [] => rfl
  | v :: r => by
    show (e_cv ad v).category + ((r.map (e_cv ad)).map fun v => v.category).sum = e_ct v + e_sum r
    rw [e_ct_eq, e_sum_eq r]
/-- the receiver's class, by its number -/
def e_rc (ci : Nat) (C : String) : Prop := (∃ (T : u_T) (N : Nat), ci < 20 ∧ vwCl[ci]? = some (C, T, N)) ∨ (20 ≤ ci ∧ ci < 99 ∧ (e_KT ci).1 = C)
def e_cY (Y : MD) (np : Nat) : Prop := Cond.initialized Y.y.cls ∈ e_WS ∧ e_cw Y ∈ e_WS ∧ (Y.y.cls ≠ "java/lang/invoke/MethodHandle" ∧ Y.y.cls ≠ "java/lang/invoke/VarHandle" ∧ (parseMethodDescriptor Y.y.desc).map (fun d => d.parameters.length) = some np) ∧ Y.mL ≤ 45
def e_cV (own : String) (idx ci : Nat) (Y : MD) (np : Nat) : Prop := ∃ C : String, e_rc ci C ∧ Y.hh = [] ∧ Cond.methodLink own idx Y.y ∈ e_WS ∧ Cond.instanceMethod Y.y ∈ e_WS ∧ Cond.selects C Y.y Y.y ∈ e_WS ∧ e_cY Y np
def e_cU (own : String) (idx ci : Nat) (x : MethodName) (Y : MD) (np : Nat) : Prop := ∃ C : String, e_rc ci C ∧ Y.hh = [] ∧ Cond.methodLink own idx x ∈ e_WS ∧ Cond.sameMethod x.cls Y.y.cls x.name x.desc ∈ e_WS ∧ Cond.instanceMethod Y.y ∈ e_WS ∧ Cond.selects C x Y.y ∈ e_WS ∧ Y.y = ⟨Y.y.cls, x.name, x.desc⟩ ∧ e_cY Y np
def e_cS (own : String) (idx : Nat) (Y : MD) (np : Nat) : Prop := Y.hh = [] ∧ Cond.methodLink own idx Y.y ∈ e_WS ∧ Cond.static Y.y ∈ e_WS ∧ e_cY Y np
def e_cSX (own : String) (idx : Nat) (Y : MD) (np : Nat) : Prop := Y.hh ≠ [] ∧ Cond.methodLink own idx Y.y ∈ e_WS ∧ Cond.static Y.y ∈ e_WS ∧ e_cY Y np
def e_cI (own : String) (idx : Nat) (Y : MD) (np : Nat) : Prop := Y.hh = [] ∧ Y.rt = none ∧ Y.y.name = "<init>" ∧ Cond.methodLink own idx Y.y ∈ e_WS ∧ Cond.instanceMethod Y.y ∈ e_WS ∧ e_cY Y np
def e_cIN (WN : List Cond) (own : String) (idx : Nat) (Y : MD) (np : Nat) : Prop := Y.hh = [] ∧ Y.rt = none ∧ Y.y.name = "<init>" ∧ (∃ host, Cond.methodLinkNest own idx Y.y host ∈ WN) ∧ Cond.instanceMethod Y.y ∈ e_WS ∧ e_cY Y np
def e_cSN (WN : List Cond) (own : String) (idx : Nat) (Y : MD) (np : Nat) : Prop := Y.hh = [] ∧ (∃ host, Cond.methodLinkNest own idx Y.y host ∈ WN) ∧ Cond.static Y.y ∈ e_WS ∧ e_cY Y np
theorem e_good_M (Y : MD) (h : e_cw Y ∈ e_WS) : GoodIn e_WS (e_wsM Y) := by
  intro w hw
  rcases List.mem_cons.mp hw with rfl | hw
  · exact ⟨h, good_of_word (e_WS_good _ h)⟩
  · exact ⟨hw, good_of_word (e_WS_good _ hw)⟩
section R2
variable {Λ : Ls} {Γ : Cx} {X Y : MD} {d d' mc ms mc' ms' : Nat} {Q Q' : Rv → Mem → Nat → Prop} {pc pc' : Nat} {ls : List (Option aV)} {st st0 : List aV} {M : Mem} {n kc ks : Nat}
theorem e_blind {ad : Nat → Nat} {as : List aV} : FrameBlind (e_Pc Γ ad as M n) := fun _ _ _ _ h => h
theorem e_Pc_of {ad : Nat → Nat} {as : List aV} {H : Heap} {s : State} (hw : e_wfS n as) (hs0 : Γ.s0.WarmedH s.vm) (hW : e_Wp Γ ad M n H) : ∀ U : State, U.heap = H → s.WarmedH U.vm → e_Pc Γ ad as M n (as.map (e_cv ad)).toArray U :=
  fun U hU hv => ⟨rfl, hw, State.WarmedH.trans hs0 hv, by rw [hU]; exact hW⟩
theorem e_recv {ST SR WN NN} (hE : e_Env Γ ST SR WN NN) {p : Program} {R : Room} {s : State} {m : MethodId} {args : Array Value} {meth : Method} {c : Code} (hF : e_Fx Γ X d mc ms p R s m args meth c) {ad : Nat → Nat} {H : Heap} {locs : List Loc} (hW : e_Wp Γ ad M n H) (hS : va_S (e_FR Γ) s.heap H locs) {k ci : Nat} {fs : List aV} {C : String} (hk : k < n) (hM : M k = cO ci fs) (hr : e_rc ci C) :
    ∃ cell : Cell, H[ad k]? = some cell ∧ cell.vm.isStatics = false ∧ s.vm.findClass C = some cell.cls := by
  rcases hr with ⟨T, N, hci, hc⟩ | ⟨hci, hci2, hc⟩
  · have hk0 := e_newO hE hW hM hci
    exact va_recv (e_K hE.2.1 hF) hW.2.2.2.1 hc ((e_ws_get hk0 hk).trans (by rw [hM]; rfl))
  · by_cases hk0 : k < e_NC
    · rw [(hW.2.1 k hk0).1] at hM
      rcases hE.2.2.2.1 k hk0 with h | h
      · rw [h] at hM
        cases hM
        omega
      · unfold e_cst at h
        rw [hM] at h
        have hO := (va_O.moved hF.2.1.alike h.2.1).kept (e_old hF)
        rw [hc, ← (hW.2.1 k hk0).2] at hO
        exact va_Orecv hO hS
    · have h := hW.2.2.2.1 _ _ (e_ws_get (tys := Γ.tys) (ad := ad) (M := M) (Nat.le_of_not_lt hk0) hk)
      rw [hM] at h
      obtain ⟨r, h1, -⟩ := h
      have : ci < vwCl.length := (List.getElem?_eq_some_iff.mp h1).1
      have h10 : vwCl.length = 10 := rfl
      omega
/-- behind a call -/
theorem e_core {p : Program} {e : Env} {R : Room} {s : State} {m : MethodId} {args a : Array Value} {below : List Frame} {meth : Method} {c : Code} {H : Heap} {locs : List Loc} {ad ad0 : Nat → Nat} {n0 : Nat} {lsA : Array Slot} {stA : List Value}
    (hE : e_Env Γ Λ.1 Λ.2.1 Λ.2.2.1 Λ.2.2.2) (hF : e_Fx Γ X d mc ms p R s m args meth c) (hX : e_Ex ad0 n0 ad n) (hL : e_LR ad n ls lsA X.mL) (hs : e_wfS n st) (hmc : kc + mc' ≤ mc) (hms : ks + ms' ≤ ms) (hS : va_S (e_FR Γ) s.heap H locs)
    (hr : vx_Run p Γ.l e R s m args below meth c H locs kc ks mc' ms' (F0 m pc lsA stA) (st.map (e_cv ad)) (e_Qc Γ Q' ad n a) (e_XC Γ Q' ad n) (e_FR Γ))
    (kr : ∀ v M' n', Q' (.inl v) M' n' → n ≤ n' → G Λ Γ X d mc ms Q (pc + 3) ls (v.toList ++ st) M' n' (kc + mc') (ks + ms'))
    (kx : ∀ E M' n', Q' (.inr E) M' n' → n ≤ n' → GX Λ Γ X d mc ms Q E pc ls M' n' (kc + mc') (ks + ms')) :
    W p Γ.l e R s m args below meth c H locs kc ks (vx_MQ below (e_Qc Γ Q ad0 n0) (e_XC Γ Q ad0 n0) args s mc ms (e_FR Γ)) (F0 m pc lsA stA) := by
  intro T hT XT
  have hSS : ∀ {T' : State} {L : List Loc} {kc ks : Nat} {M' : Mem} {n' : Nat} {ad' : Nat → Nat}, Stand p Γ.l e R s m args below meth c T' (locs ++ L) kc ks → (∀ q ∈ L, e_FR Γ q.base) → e_Wp Γ ad' M' n' T'.heap → va_S (e_FR Γ) s.heap T'.heap (locs ++ L) := by
    intro T' L kc ks M' n' ad' X' hL hW'
    refine ⟨(vx_frame X'.same).1, fun q _ hA => ?_, fun q hq => ?_⟩
    · have hq : q < Γ.s0.heap.size := Nat.lt_of_not_le hA
      rw [e_Wp_old hW' q hq, hF.2.2.2.2 q hq]
    · rcases List.mem_append.mp hq with h | h
      · exact hS.2.2 q h
      · exact hL q h
  rcases hr T hT XT with ⟨v, st₀, t, T', L, h0, X', hL', e1, e2, hq, go⟩ | ⟨q, st₀, t, T', L, E, ce, h0, X', hL', e1, e2, hq, hce, hcv, hcl, go⟩
  · obtain ⟨v', M', n', ad', hv, hQ', hX', hwo, hW'⟩ := hq
    cases hv
    rw [← e1] at hW'
    have ks' := kr v' M' n' hQ' hX'.1 hE p e R s m args below meth c T'.heap (locs ++ L) ad' ad0 n0 lsA hF hmc hms (e_Ex_trans hX hX') hW' (hSS X' hL' hW') (e_LR_ext hX'.2 hX'.1 hL)
      (e_wfS_app.mpr ⟨by cases v' with
        | none => trivial
        | some v => exact ⟨hwo, trivial⟩, e_wfS_mono hX'.1 hs⟩)
    obtain ⟨t2, a1, b1⟩ := ks' T' rfl X'
    refine ⟨t2, go t2 ?_, b1⟩
    have e3 : (v'.toList ++ st).map (e_cv ad') = (v'.map (e_cv ad')).toList ++ st.map (e_cv ad) := by
      rw [List.map_append, e_map_ext hX'.2 hs]
      cases v' <;> rfl
    rw [e3] at a1
    exact a1
  · obtain ⟨M', n', ad', hQ', hX', hW'⟩ := hq
    rw [← e1] at hW'
    have ks' := kx E M' n' hQ' hX'.1 hE p e R s m args below meth c T'.heap (locs ++ L) ad' ad0 n0 lsA (st.map (e_cv ad)) q ce hF hmc hms (e_Ex_trans hX hX') hW' (hSS X' hL' hW') (e_LR_ext hX'.2 hX'.1 hL) (by rw [e1]; exact hce) hcv hcl
    obtain ⟨t2, a1, b1⟩ := ks' T' rfl X'
    exact ⟨t2, go.trans a1, b1⟩
theorem e_rm_le {d d' mL : Nat} (hd' : d' + 1 ≤ d) (hm : mL ≤ 45) : 8 + (mL + 11) + (64 * d' + 400) ≤ 64 * d + 400 := by omega
theorem e_room {p : Program} {R : Room} {s : State} {m : MethodId} {args : Array Value} {meth : Method} {c : Code} (hF : e_Fx Γ X d mc ms p R s m args meth c) (hd' : d' + 1 ≤ d) {mL : Nat} (hm : mL ≤ 45) : (e_rm d' mc' ms').frames + 1 ≤ R.frames ∧ 8 + (mL + 11) + (e_rm d' mc' ms').locals ≤ R.locals := by
  obtain ⟨-, -, ⟨a, b, -, -⟩, -⟩ := hF
  have e1 : (e_rm d' mc' ms').frames = d' + 16 := rfl
  have e2 : (e_rm d' mc' ms').locals = 64 * d' + 400 := rfl
  rw [e1, e2]
  exact ⟨by omega, Nat.le_trans (e_rm_le hd' hm) b⟩
theorem e_fit2 {p : Program} {R : Room} {s : State} {m : MethodId} {args : Array Value} {meth : Method} {c : Code} (hF : e_Fx Γ X d mc ms p R s m args meth c) (hmc : kc + mc' ≤ mc) (hms : ks + ms' ≤ ms) : kc + mc' ≤ R.cells ∧ ks + ms' ≤ R.slots := by
  obtain ⟨-, -, ⟨-, -, a, b⟩, -⟩ := hF
  omega
theorem e_wk {p : Program} {R : Room} {s : State} {m : MethodId} {args : Array Value} {meth : Method} {c : Code} (hF : e_Fx Γ X d mc ms p R s m args meth c) {ad : Nat → Nat} {pc : Nat} {ls : Array Slot} {sx : List Value} (hst : e_sum st ≤ 8) : 2 * (F0 m pc ls sx).monitorRoom + ((st.map (e_cv ad)).map fun v => v.category).sum ≤ 8 := by
  rw [e_sum_eq]
  show 2 * 0 + e_sum st ≤ 8
  omega
theorem e_fixT {p : Program} {R : Room} {s : State} {m : MethodId} {args : Array Value} {meth : Method} {c : Code} (hF : e_Fx Γ X d mc ms p R s m args meth c) {ad : Nat → Nat} {lsA : Array Slot} (hL : e_LR ad n ls lsA X.mL) : CallFix p m c X.cc X.mL s args e_WS X.own ∧ lsA.size = X.mL := ⟨⟨hF.1.1, hF.1.2.1, hF.1.2.2.1, hF.1.2.2.2.2.2.1, hF.1.2.2.2.2.2.2.1⟩, hL.2.1.1⟩
theorem e_code (h : Y.hh = []) : e_cw Y = .code Y.y Y.cc Y.mL Y.rt := by unfold e_cw; rw [h]
theorem e_rev {ad : Nat → Nat} (as : List aV) : (as.reverse ++ st).map (e_cv ad) = (as.map (e_cv ad)).reverse ++ st.map (e_cv ad) := by rw [List.map_append, List.map_reverse]

theorem g_callV (i : Nat) {idx ci k np : Nat} {fs as : List aV} (hd : X.tb[i]? = some (pc, .invokevirtual idx, pc')) (hc : e_cV X.own idx ci Y np) (hM : M k = cO ci fs) (hC : Ct Λ Γ Y d' mc' ms' (vR k :: as) M n Q') (hst0 : st0 = as.reverse ++ vR k :: st) (hnp : as.length = np) (hd' : d' + 1 ≤ d) (hmc : kc + mc' ≤ mc) (hms : ks + ms' ≤ ms) (hst : e_sum st ≤ 8)
    (kr : ∀ v M' n', Q' (.inl v) M' n' → n ≤ n' → G Λ Γ X d mc ms Q pc' ls (v.toList ++ st) M' n' (kc + mc') (ks + ms')) (kx : ∀ E M' n', Q' (.inr E) M' n' → n ≤ n' → GX Λ Γ X d mc ms Q E pc ls M' n' (kc + mc') (ks + ms')) : G Λ Γ X d mc ms Q pc ls st0 M n kc ks := by
  subst hst0
  intro hE p e R s m args below meth c H locs ad ad0 n0 lsA hF h1 h2 hX hW hS hL hs
  obtain ⟨hdd, rfl⟩ := e_dec hF.1 hd
  obtain ⟨C, hrc, hh, hlk, hin, hse, hY⟩ := hc
  have hsw := e_wfS_app.mp hs
  have has : e_wfS n (vR k :: as) := ⟨hsw.2.1, e_wfS_rev hsw.1⟩
  obtain ⟨hfix, hsz⟩ := e_fixT hF hL
  rw [e_rev]
  exact e_core hE hF hX hL hsw.2.2 hmc hms hS
    (vx_runV (As := as.map (e_cv ad)) (rest := st.map (e_cv ad)) (b := ad k) (n := np) (C := C) hfix (hC hE ad)
      ⟨callB_of np hF.1.2.2.2.2.2.2.1 (e_good_M Y hY.2.1) (ws' := e_WS) (by rw [e_wsM, e_code hh]) rfl rfl (e_w hF hY.1) (e_w hF hlk) hY.2.2.1 (e_room hF hd' hY.2.2.2), e_w hF hin, e_w hF hse⟩
      ⟨e_blind, e_recv hE hF hW hS hsw.2.1 hM hrc, e_Pc_of has hF.2.1 hW⟩ rfl (by rw [List.length_map]; exact hnp) hsz rfl (e_wk hF hst) hdd (e_fit2 hF hmc hms)) kr kx
theorem g_callU (i : Nat) {idx ci k np : Nat} {x : MethodName} {fs as : List aV} (hd : X.tb[i]? = some (pc, .invokevirtual idx, pc')) (hc : e_cU X.own idx ci x Y np) (hM : M k = cO ci fs) (hC : Ct Λ Γ Y d' mc' ms' (vR k :: as) M n Q') (hst0 : st0 = as.reverse ++ vR k :: st) (hnp : as.length = np) (hd' : d' + 1 ≤ d) (hmc : kc + mc' ≤ mc) (hms : ks + ms' ≤ ms) (hst : e_sum st ≤ 8)
    (kr : ∀ v M' n', Q' (.inl v) M' n' → n ≤ n' → G Λ Γ X d mc ms Q pc' ls (v.toList ++ st) M' n' (kc + mc') (ks + ms')) (kx : ∀ E M' n', Q' (.inr E) M' n' → n ≤ n' → GX Λ Γ X d mc ms Q E pc ls M' n' (kc + mc') (ks + ms')) : G Λ Γ X d mc ms Q pc ls st0 M n kc ks := by
  subst hst0
  intro hE p e R s m args below meth c H locs ad ad0 n0 lsA hF h1 h2 hX hW hS hL hs
  obtain ⟨hdd, rfl⟩ := e_dec hF.1 hd
  obtain ⟨C, hrc, hh, hlk, hsm, hin, hse, hyx, hY⟩ := hc
  have hsw := e_wfS_app.mp hs
  have has : e_wfS n (vR k :: as) := ⟨hsw.2.1, e_wfS_rev hsw.1⟩
  obtain ⟨hfix, hsz⟩ := e_fixT hF hL
  rw [e_rev]
  have hG : GoodIn e_WS (va_wsU X.own idx C Y.y.cls x Y.y (e_wsM Y)) := by
    intro w hw
    have hg : w ∈ e_WS := by
      rcases List.mem_append.mp hw with h | h
      · simp only [List.mem_cons, List.not_mem_nil, or_false] at h
        rcases h with rfl | rfl | rfl | rfl | rfl
        · exact hlk
        · exact hsm
        · exact hse
        · exact hin
        · exact hY.1
      · exact (e_good_M Y hY.2.1 w h).1
    exact ⟨hg, good_of_word (e_WS_good _ hg)⟩
  exact e_core hE hF hX hL hsw.2.2 hmc hms hS
    (vx_runU (As := as.map (e_cv ad)) (rest := st.map (e_cv ad)) (b := ad k) (n := np) (C := C) hfix (hC hE ad)
      (va_cwU np hF.1.2.2.2.2.2.2.1 hG (ws' := e_WS) (by rw [e_wsM, e_code hh]) rfl rfl hyx ⟨hY.2.2.1.1, hY.2.2.1.2.1, by have h9 := hY.2.2.1.2.2; rw [hyx] at h9; exact h9⟩ (e_room hF hd' hY.2.2.2))
      ⟨e_blind, e_recv hE hF hW hS hsw.2.1 hM hrc, e_Pc_of has hF.2.1 hW⟩ rfl (by rw [List.length_map]; exact hnp) hsz rfl (e_wk hF hst) hdd (e_fit2 hF hmc hms)) kr kx
theorem g_callS (i : Nat) {idx np : Nat} {as : List aV} (hd : X.tb[i]? = some (pc, .invokestatic idx, pc')) (hc : e_cS X.own idx Y np) (hC : Ct Λ Γ Y d' mc' ms' as M n Q') (hst0 : st0 = as.reverse ++ st) (hnp : as.length = np) (hd' : d' + 1 ≤ d) (hmc : kc + mc' ≤ mc) (hms : ks + ms' ≤ ms) (hst : e_sum st ≤ 8)
    (kr : ∀ v M' n', Q' (.inl v) M' n' → n ≤ n' → G Λ Γ X d mc ms Q pc' ls (v.toList ++ st) M' n' (kc + mc') (ks + ms')) (kx : ∀ E M' n', Q' (.inr E) M' n' → n ≤ n' → GX Λ Γ X d mc ms Q E pc ls M' n' (kc + mc') (ks + ms')) : G Λ Γ X d mc ms Q pc ls st0 M n kc ks := by
  subst hst0
  intro hE p e R s m args below meth c H locs ad ad0 n0 lsA hF h1 h2 hX hW hS hL hs
  obtain ⟨hdd, rfl⟩ := e_dec hF.1 hd
  obtain ⟨hh, hlk, hsta, hY⟩ := hc
  have hsw := e_wfS_app.mp hs
  have has : e_wfS n as := e_wfS_rev hsw.1
  obtain ⟨hfix, hsz⟩ := e_fixT hF hL
  rw [e_rev]
  exact e_core hE hF hX hL hsw.2 hmc hms hS
    (vx_runS (As := as.map (e_cv ad)) (rest := st.map (e_cv ad)) (n := np) hfix (hC hE ad)
      ⟨callB_of np hF.1.2.2.2.2.2.2.1 (e_good_M Y hY.2.1) (ws' := e_WS) (by rw [e_wsM, e_code hh]) rfl rfl (e_w hF hY.1) (e_w hF hlk) hY.2.2.1 (e_room hF hd' hY.2.2.2), e_w hF hsta⟩
      ⟨e_blind, e_Pc_of has hF.2.1 hW⟩ rfl (by rw [List.length_map]; exact hnp) hsz rfl (e_wk hF hst) hdd (e_fit2 hF hmc hms)) kr kx
theorem g_callSX (i : Nat) {idx np : Nat} {as : List aV} (hd : X.tb[i]? = some (pc, .invokestatic idx, pc')) (hc : e_cSX X.own idx Y np) (hC : Ct Λ Γ Y d' mc' ms' as M n Q') (hst0 : st0 = as.reverse ++ st) (hnp : as.length = np) (hd' : d' + 1 ≤ d) (hmc : kc + mc' ≤ mc) (hms : ks + ms' ≤ ms) (hst : e_sum st ≤ 8)
    (kr : ∀ v M' n', Q' (.inl v) M' n' → n ≤ n' → G Λ Γ X d mc ms Q pc' ls (v.toList ++ st) M' n' (kc + mc') (ks + ms')) (kx : ∀ E M' n', Q' (.inr E) M' n' → n ≤ n' → GX Λ Γ X d mc ms Q E pc ls M' n' (kc + mc') (ks + ms')) : G Λ Γ X d mc ms Q pc ls st0 M n kc ks := by
  subst hst0
  intro hE p e R s m args below meth c H locs ad ad0 n0 lsA hF h1 h2 hX hW hS hL hs
  obtain ⟨hdd, rfl⟩ := e_dec hF.1 hd
  obtain ⟨hh, hlk, hsta, hY⟩ := hc
  have hsw := e_wfS_app.mp hs
  have has : e_wfS n as := e_wfS_rev hsw.1
  obtain ⟨hfix, hsz⟩ := e_fixT hF hL
  rw [e_rev]
  have ecw : e_cw Y = .codeWith Y.y Y.cc Y.mL Y.rt Y.hh := by
    unfold e_cw
    split
    · next h => exact absurd h hh
    · rfl
  have hG : GoodIn e_WS (va_wsS X.own idx Y.y (e_wsM Y)) := by
    intro w hw
    have hg : w ∈ e_WS := by
      rcases List.mem_append.mp hw with h | h
      · simp only [List.mem_cons, List.not_mem_nil, or_false] at h
        rcases h with rfl | rfl | rfl
        · exact hlk
        · exact hsta
        · exact hY.1
      · exact (e_good_M Y hY.2.1 w h).1
    exact ⟨hg, good_of_word (e_WS_good _ hg)⟩
  exact e_core hE hF hX hL hsw.2 hmc hms hS
    (vx_runSX (As := as.map (e_cv ad)) (rest := st.map (e_cv ad)) (n := np) hfix (hC hE ad)
      (vx_cwSW np hF.1.2.2.2.2.2.2.1 hG (ws' := e_WS) (by rw [e_wsM, ecw]) rfl rfl hY.2.2.1 (e_room hF hd' hY.2.2.2))
      ⟨e_blind, e_Pc_of has hF.2.1 hW⟩ rfl (by rw [List.length_map]; exact hnp) hsz rfl (e_wk hF hst) hdd (e_fit2 hF hmc hms)) kr kx
theorem g_callI (i : Nat) {idx k np : Nat} {as : List aV} (hd : X.tb[i]? = some (pc, .invokespecial idx, pc')) (hc : e_cI X.own idx Y np) (hC : Ct Λ Γ Y d' mc' ms' (vR k :: as) M n Q') (hst0 : st0 = as.reverse ++ vR k :: st) (hnp : as.length = np) (hd' : d' + 1 ≤ d) (hmc : kc + mc' ≤ mc) (hms : ks + ms' ≤ ms) (hst : e_sum st ≤ 8)
    (kr : ∀ v M' n', Q' (.inl v) M' n' → n ≤ n' → G Λ Γ X d mc ms Q pc' ls (v.toList ++ st) M' n' (kc + mc') (ks + ms')) (kx : ∀ E M' n', Q' (.inr E) M' n' → n ≤ n' → GX Λ Γ X d mc ms Q E pc ls M' n' (kc + mc') (ks + ms')) : G Λ Γ X d mc ms Q pc ls st0 M n kc ks := by
  subst hst0
  intro hE p e R s m args below meth c H locs ad ad0 n0 lsA hF h1 h2 hX hW hS hL hs
  obtain ⟨hdd, rfl⟩ := e_dec hF.1 hd
  obtain ⟨hh, hrt, hnm, hlk, hin, hY⟩ := hc
  have hsw := e_wfS_app.mp hs
  have has : e_wfS n (vR k :: as) := ⟨hsw.2.1, e_wfS_rev hsw.1⟩
  obtain ⟨hfix, hsz⟩ := e_fixT hF hL
  rw [e_rev]
  exact e_core hE hF hX hL hsw.2.2 hmc hms hS
    (vx_runI (As := as.map (e_cv ad)) (rest := st.map (e_cv ad)) (b := ad k) (n := np) hfix (hC hE ad)
      ⟨callB_of np hF.1.2.2.2.2.2.2.1 (e_good_M Y hY.2.1) (ws' := e_WS) (by rw [e_wsM, e_code hh, hrt]) rfl rfl (e_w hF hY.1) (e_w hF hlk) hY.2.2.1 (e_room hF hd' hY.2.2.2), hnm, e_w hF hin⟩
      ⟨e_blind, e_Pc_of has hF.2.1 hW⟩ rfl (by rw [List.length_map]; exact hnp) hsz rfl (e_wk hF hst) hdd (e_fit2 hF hmc hms)) kr kx
theorem g_callIN (i : Nat) {idx k np : Nat} {as : List aV} (hd : X.tb[i]? = some (pc, .invokespecial idx, pc')) (hc : e_cIN Λ.2.2.1 X.own idx Y np) (hC : Ct Λ Γ Y d' mc' ms' (vR k :: as) M n Q') (hst0 : st0 = as.reverse ++ vR k :: st) (hnp : as.length = np) (hd' : d' + 1 ≤ d) (hmc : kc + mc' ≤ mc) (hms : ks + ms' ≤ ms) (hst : e_sum st ≤ 8)
    (kr : ∀ v M' n', Q' (.inl v) M' n' → n ≤ n' → G Λ Γ X d mc ms Q pc' ls (v.toList ++ st) M' n' (kc + mc') (ks + ms')) (kx : ∀ E M' n', Q' (.inr E) M' n' → n ≤ n' → GX Λ Γ X d mc ms Q E pc ls M' n' (kc + mc') (ks + ms')) : G Λ Γ X d mc ms Q pc ls st0 M n kc ks := by
  subst hst0
  intro hE p e R s m args below meth c H locs ad ad0 n0 lsA hF h1 h2 hX hW hS hL hs
  obtain ⟨hdd, rfl⟩ := e_dec hF.1 hd
  obtain ⟨hh, hrt, hnm, ⟨host, hlk⟩, hin, hY⟩ := hc
  have hsw := e_wfS_app.mp hs
  have has : e_wfS n (vR k :: as) := ⟨hsw.2.1, e_wfS_rev hsw.1⟩
  obtain ⟨hfix, hsz⟩ := e_fixT hF hL
  rw [e_rev]
  exact e_core hE hF hX hL hsw.2.2 hmc hms hS
    (vx_runIN (As := as.map (e_cv ad)) (rest := st.map (e_cv ad)) (b := ad k) (n := np) (host := host) hfix (hC hE ad)
      ⟨va_cnB np hF.1.2.2.2.2.2.2.1 (e_good_M Y hY.2.1) (ws' := e_WS) (by rw [e_wsM, e_code hh, hrt]) rfl rfl (va_Nw.warmM hF.2.1 (hE.2.2.2.2.2.2.1 _ hlk)) (e_w hF hY.1) hY.2.2.1 (e_room hF hd' hY.2.2.2), hnm, e_w hF hin⟩
      ⟨e_blind, e_Pc_of has hF.2.1 hW⟩ rfl (by rw [List.length_map]; exact hnp) hsz rfl (e_wk hF hst) hdd (e_fit2 hF hmc hms)) kr kx
theorem g_callSN (i : Nat) {idx np : Nat} {as : List aV} (hd : X.tb[i]? = some (pc, .invokestatic idx, pc')) (hc : e_cSN Λ.2.2.1 X.own idx Y np) (hC : Ct Λ Γ Y d' mc' ms' as M n Q') (hst0 : st0 = as.reverse ++ st) (hnp : as.length = np) (hd' : d' + 1 ≤ d) (hmc : kc + mc' ≤ mc) (hms : ks + ms' ≤ ms) (hst : e_sum st ≤ 8)
    (kr : ∀ v M' n', Q' (.inl v) M' n' → n ≤ n' → G Λ Γ X d mc ms Q pc' ls (v.toList ++ st) M' n' (kc + mc') (ks + ms')) (kx : ∀ E M' n', Q' (.inr E) M' n' → n ≤ n' → GX Λ Γ X d mc ms Q E pc ls M' n' (kc + mc') (ks + ms')) : G Λ Γ X d mc ms Q pc ls st0 M n kc ks := by
  subst hst0
  intro hE p e R s m args below meth c H locs ad ad0 n0 lsA hF h1 h2 hX hW hS hL hs
  obtain ⟨hdd, rfl⟩ := e_dec hF.1 hd
  obtain ⟨hh, ⟨host, hlk⟩, hsta, hY⟩ := hc
  have hsw := e_wfS_app.mp hs
  have has : e_wfS n as := e_wfS_rev hsw.1
  obtain ⟨hfix, hsz⟩ := e_fixT hF hL
  rw [e_rev]
  exact e_core hE hF hX hL hsw.2 hmc hms hS
    (vx_runSN (As := as.map (e_cv ad)) (rest := st.map (e_cv ad)) (n := np) (host := host) hfix (hC hE ad)
      ⟨va_cnB np hF.1.2.2.2.2.2.2.1 (e_good_M Y hY.2.1) (ws' := e_WS) (by rw [e_wsM, e_code hh]) rfl rfl (va_Nw.warmM hF.2.1 (hE.2.2.2.2.2.2.1 _ hlk)) (e_w hF hY.1) hY.2.2.1 (e_room hF hd' hY.2.2.2), e_w hF hsta, trivial⟩
      ⟨e_blind, e_Pc_of has hF.2.1 hW⟩ rfl (by rw [List.length_map]; exact hnp) hsz rfl (e_wk hF hst) hdd (e_fit2 hF hmc hms)) kr kx

end R2
end
section
/-! ENGINE 7: rules: statics, texts, new cells, copies, switches, ends, throws, the start -/
section R3
variable {Λ : Ls} {Γ : Cx} {X Y : MD} {d d' mc ms mc' ms' : Nat} {Q Q' : Rv → Mem → Nat → Prop} {pc pc' : Nat} {ls : List (Option aV)} {st st0 : List aV} {M : Mem} {n kc ks : Nat}
theorem e_cv_id {ad : Nat → Nat} {fs : List aV} (h : e_wfS 0 fs) : fs.map (e_cv ad) = fs.map (e_cv (fun _ => 0)) := e_map_ext (fun _ h => absurd h (Nat.not_lt_zero _)) h

theorem g_gets (i : Nat) {idx : Nat} {C f ty : String} {v : aV} (hd : X.tb[i]? = some (pc, .getstatic idx, pc')) (hq : (C, f, ty, v) ∈ Λ.1) (hl : Cond.fieldLink X.own idx C f ty ∈ e_WS) (kk : G Λ Γ X d mc ms Q pc' ls (v :: st) M n kc ks) : G Λ Γ X d mc ms Q pc ls st M n kc ks := by
  intro hE p e R s m args below meth c H locs ad ad0 n0 lsA hF h1 h2 hX hW hS hL hs
  obtain ⟨hdd, rfl⟩ := e_dec hF.1 hd
  obtain ⟨hw, hZ⟩ := hE.2.2.2.2.1 _ hq
  have hZ' := (va_Z.moved hF.2.1.alike hZ).kept (e_old hF)
  have e1 : e_cv Γ.ac v = e_cv ad v := (e_cv_ext (fun j hj => (hW.2.1 j hj).2) hw).symm
  refine va_gets hF.1.1 hF.1.2.1 hZ' hS hF.1.2.2.2.2.2.1 (e_w hF hl) (fun _ h => h) hdd ?_
  show W p Γ.l e R s m args below meth c H locs kc ks _ (F0 m (pc + 3) lsA (e_cv Γ.ac v :: st.map (e_cv ad)))
  rw [e1]
  exact kk hE p e R s m args below meth c H locs ad ad0 n0 lsA hF h1 h2 hX hW hS hL ⟨e_wfV_mono hW.1 hw, hs⟩
theorem g_getsN (i : Nat) {idx : Nat} {C f ty host : String} {v : aV} (hd : X.tb[i]? = some (pc, .getstatic idx, pc')) (hq : (C, f, ty, v) ∈ Λ.1) (hl : Cond.fieldLinkNest X.own idx C f ty host ∈ Λ.2.2.1) (kk : G Λ Γ X d mc ms Q pc' ls (v :: st) M n kc ks) : G Λ Γ X d mc ms Q pc ls st M n kc ks := by
  intro hE p e R s m args below meth c H locs ad ad0 n0 lsA hF h1 h2 hX hW hS hL hs
  obtain ⟨hdd, rfl⟩ := e_dec hF.1 hd
  obtain ⟨hw, hZ⟩ := hE.2.2.2.2.1 _ hq
  have hZ' := (va_Z.moved hF.2.1.alike hZ).kept (e_old hF)
  have e1 : e_cv Γ.ac v = e_cv ad v := (e_cv_ext (fun j hj => (hW.2.1 j hj).2) hw).symm
  refine va_getsN hF.1.1 hF.1.2.1 hZ' hS hF.1.2.2.2.2.2.1 (va_Nw.use rfl (va_Nw.warmF hF.2.1 (hE.2.2.2.2.2.2.1 _ hl))) (fun _ h => h) hdd ?_
  show W p Γ.l e R s m args below meth c H locs kc ks _ (F0 m (pc + 3) lsA (e_cv Γ.ac v :: st.map (e_cv ad)))
  rw [e1]
  exact kk hE p e R s m args below meth c H locs ad ad0 n0 lsA hF h1 h2 hX hW hS hL ⟨e_wfV_mono hW.1 hw, hs⟩
theorem g_ldcS (i : Nat) {idx k : Nat} {tx : String} (hd : X.tb[i]? = some (pc, .ldc idx, pc')) (hq : (X.own, idx, tx, k) ∈ Λ.2.1) (kk : G Λ Γ X d mc ms Q pc' ls (vR k :: st) M n kc ks) : G Λ Γ X d mc ms Q pc ls st M n kc ks := by
  intro hE p e R s m args below meth c H locs ad ad0 n0 lsA hF h1 h2 hX hW hS hL hs
  obtain ⟨hdd, rfl⟩ := e_dec hF.1 hd
  obtain ⟨hk, hR⟩ := hE.2.2.2.2.2.1 _ hq
  refine va_ldcS hF.1.1 hF.1.2.1 hF.1.2.2.2.2.2.1 (vk_R.warm hF.2.1 hR) hdd ?_
  have kk' := kk hE p e R s m args below meth c H locs ad ad0 n0 lsA hF h1 h2 hX hW hS hL ⟨Nat.lt_of_lt_of_le hk hW.1, hs⟩
  have e1 : Γ.ac k = ad k := (hW.2.1 k hk).2.symm
  show W p Γ.l e R s m args below meth c H locs kc ks _ (F0 m (pc + 2) lsA (.ref (Γ.ac k) :: st.map (e_cv ad)))
  rw [e1]
  exact kk'
theorem g_ldcI (i : Nat) {idx : Nat} {z : Int} (hd : X.tb[i]? = some (pc, .ldc idx, pc')) (hl : Cond.constant X.own idx (iI z) ∈ e_WS) (kk : G Λ Γ X d mc ms Q pc' ls (vI z :: st) M n kc ks) : G Λ Γ X d mc ms Q pc ls st M n kc ks := by
  intro hE p e R s m args below meth c H locs ad ad0 n0 lsA hF h1 h2 hX hW hS hL hs
  obtain ⟨hdd, rfl⟩ := e_dec hF.1 hd
  exact lv_ldc hF.1.1 hF.1.2.1 hF.1.2.2.2.2.2.1 (e_w hF hl) hdd (kk hE p e R s m args below meth c H locs ad ad0 n0 lsA hF h1 h2 hX hW hS hL ⟨trivial, hs⟩)
theorem g_new (i : Nat) {idx ci N : Nat} {fs : List aV} (hd : X.tb[i]? = some (pc, .new idx, pc')) (hl : e_cN X.own idx ci N fs) (hkc : kc + 1 ≤ mc) (hks : ks + N ≤ ms) (kk : ∀ M', M' = va_up M n (cO ci fs) → G Λ Γ X d mc ms Q pc' ls (vR n :: st) M' (n + 1) (kc + 1) (ks + N)) : G Λ Γ X d mc ms Q pc ls st M n kc ks := by
  intro hE p e R s m args below meth c H locs ad ad0 n0 lsA hF h1 h2 hX hW hS hL hs
  obtain ⟨hdd, rfl⟩ := e_dec hF.1 hd
  obtain ⟨C, T, hci, hc, hcl, hin, hini, hu, hw0, ty, hty, hdf⟩ := hl
  refine va_new (fs := fs.map (e_cv (fun _ => 0))) hF.1.1 hF.1.2.1 (Ts := e_WS) hF.1.2.2.2.2.2.2.1 hu ty hty hF.1.2.2.2.2.2.1 (e_w hF hcl) (e_w hF hin) (e_w hF hini) (e_K hE.2.1 hF) hW.2.2.2.1 hW.2.2.2.2.1 hS (e_A hF) hc hdf (Nat.le_trans hkc hF.2.2.1.2.2.1) (Nat.le_trans hks hF.2.2.1.2.2.2) hdd (fun q H1 hP hD hS1 => ?_)
  have e1 : e_ce Γ.tys (va_up ad n q) (cO ci fs) = .inr (ci, fs.map (e_cv (fun _ => 0))) := by show Sum.inr (ci, fs.map (e_cv (va_up ad n q))) = _; rw [e_cv_id hw0]
  rw [← e1] at hP hD
  have hW' := e_Wp_push (c := cO ci fs) hW (e_wfS_mono (Nat.zero_le _) hw0) hP hD hF.2.2.2.1 hF.2.2.2.2 hS1
  have hext : ∀ k, k < n → va_up ad n q k = ad k := fun k hk => va_up_ne _ _ (by omega)
  have kk' := kk _ rfl hE p e R s m args below meth c H1 locs (va_up ad n q) ad0 n0 lsA hF hkc hks (e_Ex_trans hX ⟨Nat.le_succ n, hext⟩) hW' hS1 (e_LR_ext hext (Nat.le_succ n) hL) ⟨Nat.lt_succ_self n, e_wfS_mono (Nat.le_succ n) hs⟩
  have e2 : (vR n :: st).map (e_cv (va_up ad n q)) = .ref q :: st.map (e_cv ad) := by
    show Value.ref (va_up ad n q n) :: st.map (e_cv (va_up ad n q)) = _
    rw [va_up_self, e_map_ext hext hs]
  rw [e2] at kk'
  exact kk'

theorem g_newaI (i len : Nat) {at9 : ArrayType} {kd : Nat} {z : Int} (hd : X.tb[i]? = some (pc, .newarray at9, pc')) (hkd : kd < 3) (hat : newarray.typeOf at9 = e_TY kd) (hl : Cond.arrayClass (e_TY kd) ∈ e_WS) (hz : z = (len : Int)) (hlen : len ≤ 100000) (hkc : kc + 1 ≤ mc) (hks : ks + len ≤ ms) (kk : ∀ M', M' = va_up M n (cI kd len (fun _ => 0)) → G Λ Γ X d mc ms Q pc' ls (vR n :: st) M' (n + 1) (kc + 1) (ks + len)) : G Λ Γ X d mc ms Q pc ls (vI z :: st) M n kc ks := by
  intro hE p e R s m args below meth c H locs ad ad0 n0 lsA hF h1 h2 hX hW hS hL hs
  obtain ⟨hdd, rfl⟩ := e_dec hF.1 hd
  subst hz
  have hk7 : kd < 7 := by omega
  have hcb : componentBytes (e_TY kd) ≤ 8 := by
    match kd, hk7 with
    | 0, _ => decide
    | 1, _ => decide
    | 2, _ => decide
    | 3, _ => decide
    | 4, _ => decide
    | 5, _ => decide
    | 6, _ => decide
  have hcell : ∀ cA : ClassId, vp_cell cA ((len, .inl (fun j => iI 0)) : vp_A) = arrV cA len (fun _ => defaultValue (e_TY kd)) := match kd, hkd with
      | 0, _ => fun _ => rfl
      | 1, _ => fun _ => rfl
      | 2, _ => fun _ => rfl
  have hlen2 : len * componentBytes (e_TY kd) ≤ 536870912 := Nat.le_trans (Nat.mul_le_mul hlen hcb) (by decide)
  refine va_newa hF.1.1 hF.1.2.1 (by rw [hat]; exact e_w hF hl) hat (e_K hE.2.1 hF) hW.2.2.2.1 hW.2.2.2.2.1 hS (e_A hF) (N' := len) hcell (by rw [← iI_0, iI_lt (by omega) (by omega)]; omega) (by rw [iI_cl (by omega) (by omega)]; rfl) hlen2 (Nat.le_trans hkc hF.2.2.1.2.2.1) (Nat.le_trans hks hF.2.2.1.2.2.2) hdd (fun q cA H1 hK1 hP hD hS1 => ?_)
  have h7 : Γ.tys.length = 7 := by rw [← List.length_map (f := fun q : ClassId × FieldType => q.2), hE.2.2.1]; rfl
  have ecA : cA = (Γ.tys.getD kd (0, .int)).1 := by
    have r1 := (hK1.2 Γ.tys.length (cA, e_TY kd) (by rw [List.getElem?_append_right (Nat.le_refl _), Nat.sub_self]; rfl)).2
    have r2 := ((e_K hE.2.1 hF).2 kd _ (e_tys hE hk7)).2
    match kd, hkd, r1, r2 with
    | 0, _, r1, r2 => exact Option.some.inj (r1.symm.trans r2)
    | 1, _, r1, r2 => exact Option.some.inj (r1.symm.trans r2)
    | 2, _, r1, r2 => exact Option.some.inj (r1.symm.trans r2)
    
    
  subst ecA
  have hext : ∀ k, k < n → va_up ad n q k = ad k := fun k hk => va_up_ne _ _ (by omega)
  have hW' := e_Wp_push (c := cI kd len (fun _ => 0)) hW hk7 hP hD hF.2.2.2.1 hF.2.2.2.2 hS1
  have kk' := kk _ rfl hE p e R s m args below meth c H1 locs (va_up ad n q) ad0 n0 lsA hF hkc hks (e_Ex_trans hX ⟨Nat.le_succ n, hext⟩) hW' hS1 (e_LR_ext hext (Nat.le_succ n) hL) ⟨Nat.lt_succ_self n, e_wfS_mono (Nat.le_succ n) hs.2⟩
  have e2 : (vR n :: st).map (e_cv (va_up ad n q)) = .ref q :: st.map (e_cv ad) := by
    show Value.ref (va_up ad n q n) :: st.map (e_cv (va_up ad n q)) = _
    rw [va_up_self, e_map_ext hext hs.2]
  rw [e2] at kk'
  exact kk'

theorem g_newaL (i len : Nat) {at9 : ArrayType} {kd : Nat} {z : Int} (hd : X.tb[i]? = some (pc, .newarray at9, pc')) (hkd : kd = 3) (hat : newarray.typeOf at9 = e_TY kd) (hl : Cond.arrayClass (e_TY kd) ∈ e_WS) (hz : z = (len : Int)) (hlen : len ≤ 100000) (hkc : kc + 1 ≤ mc) (hks : ks + len ≤ ms) (kk : ∀ M', M' = va_up M n (cL kd len (fun _ => 0)) → G Λ Γ X d mc ms Q pc' ls (vR n :: st) M' (n + 1) (kc + 1) (ks + len)) : G Λ Γ X d mc ms Q pc ls (vI z :: st) M n kc ks := by
  intro hE p e R s m args below meth c H locs ad ad0 n0 lsA hF h1 h2 hX hW hS hL hs
  obtain ⟨hdd, rfl⟩ := e_dec hF.1 hd
  subst hz
  have hk7 : kd < 7 := by omega
  have hcb : componentBytes (e_TY kd) ≤ 8 := by
    match kd, hk7 with
    | 0, _ => decide
    | 1, _ => decide
    | 2, _ => decide
    | 3, _ => decide
    | 4, _ => decide
    | 5, _ => decide
    | 6, _ => decide
  have hcell : ∀ cA : ClassId, vp_cell cA ((len, .inr (.inl (fun _ => 0))) : vp_A) = arrV cA len (fun _ => defaultValue (e_TY kd)) := by subst hkd; exact fun _ => rfl
  have hlen2 : len * componentBytes (e_TY kd) ≤ 536870912 := Nat.le_trans (Nat.mul_le_mul hlen hcb) (by decide)
  refine va_newa hF.1.1 hF.1.2.1 (by rw [hat]; exact e_w hF hl) hat (e_K hE.2.1 hF) hW.2.2.2.1 hW.2.2.2.2.1 hS (e_A hF) (N' := len) hcell (by rw [← iI_0, iI_lt (by omega) (by omega)]; omega) (by rw [iI_cl (by omega) (by omega)]; rfl) hlen2 (Nat.le_trans hkc hF.2.2.1.2.2.1) (Nat.le_trans hks hF.2.2.1.2.2.2) hdd (fun q cA H1 hK1 hP hD hS1 => ?_)
  have h7 : Γ.tys.length = 7 := by rw [← List.length_map (f := fun q : ClassId × FieldType => q.2), hE.2.2.1]; rfl
  have ecA : cA = (Γ.tys.getD kd (0, .int)).1 := by
    have r1 := (hK1.2 Γ.tys.length (cA, e_TY kd) (by rw [List.getElem?_append_right (Nat.le_refl _), Nat.sub_self]; rfl)).2
    have r2 := ((e_K hE.2.1 hF).2 kd _ (e_tys hE hk7)).2
    match kd, hkd, r1, r2 with
    
    
    
    | 3, _, r1, r2 => exact Option.some.inj (r1.symm.trans r2)
    
  subst ecA
  have hext : ∀ k, k < n → va_up ad n q k = ad k := fun k hk => va_up_ne _ _ (by omega)
  have hW' := e_Wp_push (c := cL kd len (fun _ => 0)) hW hk7 hP hD hF.2.2.2.1 hF.2.2.2.2 hS1
  have kk' := kk _ rfl hE p e R s m args below meth c H1 locs (va_up ad n q) ad0 n0 lsA hF hkc hks (e_Ex_trans hX ⟨Nat.le_succ n, hext⟩) hW' hS1 (e_LR_ext hext (Nat.le_succ n) hL) ⟨Nat.lt_succ_self n, e_wfS_mono (Nat.le_succ n) hs.2⟩
  have e2 : (vR n :: st).map (e_cv (va_up ad n q)) = .ref q :: st.map (e_cv ad) := by
    show Value.ref (va_up ad n q n) :: st.map (e_cv (va_up ad n q)) = _
    rw [va_up_self, e_map_ext hext hs.2]
  rw [e2] at kk'
  exact kk'

theorem g_newaD (i len : Nat) {at9 : ArrayType} {kd : Nat} {z : Int} (hd : X.tb[i]? = some (pc, .newarray at9, pc')) (hkd : kd = 4) (hat : newarray.typeOf at9 = e_TY kd) (hl : Cond.arrayClass (e_TY kd) ∈ e_WS) (hz : z = (len : Int)) (hlen : len ≤ 100000) (hkc : kc + 1 ≤ mc) (hks : ks + len ≤ ms) (kk : ∀ M', M' = va_up M n (cD kd len (fun _ => 0)) → G Λ Γ X d mc ms Q pc' ls (vR n :: st) M' (n + 1) (kc + 1) (ks + len)) : G Λ Γ X d mc ms Q pc ls (vI z :: st) M n kc ks := by
  intro hE p e R s m args below meth c H locs ad ad0 n0 lsA hF h1 h2 hX hW hS hL hs
  obtain ⟨hdd, rfl⟩ := e_dec hF.1 hd
  subst hz
  have hk7 : kd < 7 := by omega
  have hcb : componentBytes (e_TY kd) ≤ 8 := by
    match kd, hk7 with
    | 0, _ => decide
    | 1, _ => decide
    | 2, _ => decide
    | 3, _ => decide
    | 4, _ => decide
    | 5, _ => decide
    | 6, _ => decide
  have hcell : ∀ cA : ClassId, vp_cell cA ((len, .inr (.inr (.inr (.inl (fun _ => 0))))) : vp_A) = arrV cA len (fun _ => defaultValue (e_TY kd)) := by subst hkd; exact fun _ => rfl
  have hlen2 : len * componentBytes (e_TY kd) ≤ 536870912 := Nat.le_trans (Nat.mul_le_mul hlen hcb) (by decide)
  refine va_newa hF.1.1 hF.1.2.1 (by rw [hat]; exact e_w hF hl) hat (e_K hE.2.1 hF) hW.2.2.2.1 hW.2.2.2.2.1 hS (e_A hF) (N' := len) hcell (by rw [← iI_0, iI_lt (by omega) (by omega)]; omega) (by rw [iI_cl (by omega) (by omega)]; rfl) hlen2 (Nat.le_trans hkc hF.2.2.1.2.2.1) (Nat.le_trans hks hF.2.2.1.2.2.2) hdd (fun q cA H1 hK1 hP hD hS1 => ?_)
  have h7 : Γ.tys.length = 7 := by rw [← List.length_map (f := fun q : ClassId × FieldType => q.2), hE.2.2.1]; rfl
  have ecA : cA = (Γ.tys.getD kd (0, .int)).1 := by
    have r1 := (hK1.2 Γ.tys.length (cA, e_TY kd) (by rw [List.getElem?_append_right (Nat.le_refl _), Nat.sub_self]; rfl)).2
    have r2 := ((e_K hE.2.1 hF).2 kd _ (e_tys hE hk7)).2
    match kd, hkd, r1, r2 with
    
    
    
    
    | 4, _, r1, r2 => exact Option.some.inj (r1.symm.trans r2)
  subst ecA
  have hext : ∀ k, k < n → va_up ad n q k = ad k := fun k hk => va_up_ne _ _ (by omega)
  have hW' := e_Wp_push (c := cD kd len (fun _ => 0)) hW hk7 hP hD hF.2.2.2.1 hF.2.2.2.2 hS1
  have kk' := kk _ rfl hE p e R s m args below meth c H1 locs (va_up ad n q) ad0 n0 lsA hF hkc hks (e_Ex_trans hX ⟨Nat.le_succ n, hext⟩) hW' hS1 (e_LR_ext hext (Nat.le_succ n) hL) ⟨Nat.lt_succ_self n, e_wfS_mono (Nat.le_succ n) hs.2⟩
  have e2 : (vR n :: st).map (e_cv (va_up ad n q)) = .ref q :: st.map (e_cv ad) := by
    show Value.ref (va_up ad n q n) :: st.map (e_cv (va_up ad n q)) = _
    rw [va_up_self, e_map_ext hext hs.2]
  rw [e2] at kk'
  exact kk'

theorem g_newq (i len : Nat) {idx kd : Nat} {C : String} {z : Int} (hd : X.tb[i]? = some (pc, .anewarray idx, pc')) (hkd : kd = 5 ∨ kd = 6) (hat : e_TY kd = .object C) (hl : Cond.classLink X.own idx C ∈ e_WS) (hov : Cond.arrayOver (.object C) ∈ Λ.2.2.1) (hz : z = (len : Int)) (hlen : len ≤ 100000) (hkc : kc + 1 ≤ mc) (hks : ks + len ≤ ms) (kk : ∀ M', M' = va_up M n (cR kd len (fun _ => none)) → G Λ Γ X d mc ms Q pc' ls (vR n :: st) M' (n + 1) (kc + 1) (ks + len)) : G Λ Γ X d mc ms Q pc ls (vI z :: st) M n kc ks := by
  intro hE p e R s m args below meth c H locs ad ad0 n0 lsA hF h1 h2 hX hW hS hL hs
  obtain ⟨hdd, rfl⟩ := e_dec hF.1 hd
  subst hz
  have hk7 : kd < 7 := by omega
  refine va_newq hF.1.1 hF.1.2.1 hF.1.2.2.2.2.2.1 (e_w hF hl) (va_AO.moved hF.2.1.alike (hE.2.2.2.2.2.2.1 _ hov)) (e_K hE.2.1 hF) hW.2.2.2.1 hW.2.2.2.2.1 hS (e_A hF) (N' := len) (by rw [← iI_0, iI_lt (by omega) (by omega)]; omega) (by rw [iI_cl (by omega) (by omega)]; rfl) (by omega) (Nat.le_trans hkc hF.2.2.1.2.2.1) (Nat.le_trans hks hF.2.2.1.2.2.2) hdd (fun q cA H1 hK1 hP hD hS1 => ?_)
  have ecA : cA = (Γ.tys.getD kd (0, .int)).1 := by
    have r1 := (hK1.2 Γ.tys.length (cA, .object C) (by rw [List.getElem?_append_right (Nat.le_refl _), Nat.sub_self]; rfl)).2
    have r2 := ((e_K hE.2.1 hF).2 kd _ (e_tys hE hk7)).2
    rw [hat] at r2
    obtain ⟨-, -, -, -, -, r1⟩ := r1
    obtain ⟨-, -, -, -, -, r2⟩ := r2
    exact Option.some.inj (r1.symm.trans r2)
  subst ecA
  have hext : ∀ k, k < n → va_up ad n q k = ad k := fun k hk => va_up_ne _ _ (by omega)
  have hW' := e_Wp_push (c := cR kd len (fun _ => none)) hW ⟨hk7, fun _ _ h => nomatch h⟩ hP hD hF.2.2.2.1 hF.2.2.2.2 hS1
  have kk' := kk _ rfl hE p e R s m args below meth c H1 locs (va_up ad n q) ad0 n0 lsA hF hkc hks (e_Ex_trans hX ⟨Nat.le_succ n, hext⟩) hW' hS1 (e_LR_ext hext (Nat.le_succ n) hL) ⟨Nat.lt_succ_self n, e_wfS_mono (Nat.le_succ n) hs.2⟩
  have e2 : (vR n :: st).map (e_cv (va_up ad n q)) = .ref q :: st.map (e_cv ad) := by
    show Value.ref (va_up ad n q n) :: st.map (e_cv (va_up ad n q)) = _
    rw [va_up_self, e_map_ext hext hs.2]
  rw [e2] at kk'
  exact kk'
/-- Object.<init> -/
def e_cO (own : String) (idx : Nat) : Prop := Cond.methodLink own idx objectInit ∈ e_WS ∧ Cond.instanceMethod objectInit ∈ e_WS ∧ Cond.code objectInit ⟨#[0xb1]⟩ 1 none ∈ e_WS
theorem g_obj (i : Nat) {idx k : Nat} (hd : X.tb[i]? = some (pc, .invokespecial idx, pc')) (hl : e_cO X.own idx) (hst : e_sum st ≤ 8) (kk : G Λ Γ X d mc ms Q pc' ls st M n kc ks) : G Λ Γ X d mc ms Q pc ls (vR k :: st) M n kc ks := by
  intro hE p e R s m args below meth c H locs ad ad0 n0 lsA hF h1 h2 hX hW hS hL hs
  obtain ⟨hdd, rfl⟩ := e_dec hF.1 hd
  refine W.objInit hF.1.1 hF.1.2.1 hF.1.2.2.2.2.2.1 (e_w hF hl.1) (e_w hF hl.2.1) (e_w hF hl.2.2) rfl (by rw [hF.1.2.2.1]; exact hL.2.1.1) rfl hdd (Nat.le_trans (by omega) hF.2.2.1.1) ?_ (W.eq (g2 := F0 m (pc + 3) lsA (st.map (e_cv ad))) rfl (kk hE p e R s m args below meth c H locs ad ad0 n0 lsA hF h1 h2 hX hW hS hL hs.2))
  have := hF.2.2.1.2.1
  rw [e_sum_eq]
  show 2 * 0 + e_sum st + 12 ≤ R.locals
  omega
/-- System.arraycopy of whole numbers -/
def e_cSY (own : String) (idx : Nat) : Prop := Cond.methodLink own idx arraycopyName ∈ e_WS ∧ Cond.native arraycopyName ∈ e_WS ∧ Cond.static arraycopyName ∈ e_WS ∧ Cond.initialized "java/lang/System" ∈ e_WS
theorem e_cpy {f g : Nat → Int} {sp dp len : Nat} : va_cpy (fun j => iI (f j)) (fun j => iI (g j)) sp dp len = fun j => iI (va_cpy f g sp dp len j) := by
  funext j
  unfold va_cpy
  split <;> rfl
theorem g_copy (i sp dp len : Nat) {idx kd n0' n1 k0 k1 : Nat} {f g : Nat → Int} {zs zd zl : Int} (hd : X.tb[i]? = some (pc, .invokestatic idx, pc')) (hl : e_cSY X.own idx) (hkd : kd < 3) (hM0 : M k0 = cI kd n0' f) (hM1 : M k1 = cI kd n1 g) (h0 : zs = (sp : Int)) (h1' : zd = (dp : Int)) (h2' : zl = (len : Int)) (h3 : sp + len ≤ n0') (h4 : dp + len ≤ n1) (hn0 : n0' ≤ 2147483647) (hn1 : n1 ≤ 2147483647) (hfit : ∀ j, j < len → e_fit (e_TY kd) (vI (f (sp + j)))) (hst : e_sum st ≤ 8)
    (kk : ∀ M', M' = va_up M k1 (cI kd n1 (va_cpy f g sp dp len)) → G Λ Γ X d mc ms Q pc' ls st M' n kc ks) : G Λ Γ X d mc ms Q pc ls (vI zl :: vI zd :: vR k1 :: vI zs :: vR k0 :: st) M n kc ks := by
  intro hE p e R s m args below meth c H locs ad ad0 n0 lsA hF h1 h2 hX hW hS hL hs
  obtain ⟨hdd, rfl⟩ := e_dec hF.1 hd
  subst h0; subst h1'; subst h2'
  have hk0 := e_newA hE hW hM0 (by omega)
  have hk1 := e_newA hE hW hM1 (by omega)
  have hwf : e_wfE n (M k1) := hW.2.2.1 k1 hk1 hs.2.2.1
  rw [hM1] at hwf
  have hty := e_tys hE (show kd < 7 by omega)
  have ecl : ∀ x : Nat, x ≤ 2147483647 → (iI (x : Int)).toNatClampNeg = x := fun x hx => by rw [iI_cl (by omega) (by omega)]; rfl
  have eng : ∀ x : Nat, x ≤ 2147483647 → ¬ iI (x : Int) < 0 := fun x hx => by rw [← iI_0, iI_lt (by omega) (by omega)]; omega
  have hpr : refKind (e_TY kd) = false := by
    match kd, hkd with
    | 0, _ => rfl
    | 1, _ => rfl
    | 2, _ => rfl
  refine va_copyi hF.1.1 hF.1.2.1 (by rw [hF.1.2.2.1]; exact hL.2.1.1.symm) hF.1.2.2.2.2.2.1 (e_w hF hl.1) (e_w hF hl.2.1) (e_w hF hl.2.2.1) (e_w hF hl.2.2.2) (e_K hE.2.1 hF) hW.2.2.2.1 hW.2.2.2.2.1 hS (k0 - e_NC) (k1 - e_NC) kd kd (f := fun j => iI (f j)) (g := fun j => iI (g j)) ((e_ws_get hk0 hs.2.2.2.2.1).trans (by rw [hM0]; rfl)) ((e_ws_get hk1 hs.2.2.1).trans (by rw [hM1]; rfl)) hty hty hpr (eng sp (by omega)) (eng dp (by omega)) (eng len (by omega)) (by rw [ecl sp (by omega), ecl len (by omega)]; exact h3) (by rw [ecl dp (by omega), ecl len (by omega)]; exact h4)
    (fun j hj => by rw [ecl len (by omega)] at hj; rw [ecl sp (by omega)]; exact (e_fit_ok (ad := ad) (hfit j hj)).2) (Nat.le_trans (by omega) hF.2.2.1.1) ?_ hdd (fun H1 locs1 hP hD hS1 => ?_)
  · have := hF.2.2.1.2.1
    rw [e_sum_eq]
    have e9 : nativeFrameWords "java/lang/System" "arraycopy" 5 = 7 := by decide
    rw [e9]
    omega
  · rw [ecl sp (by omega), ecl dp (by omega), ecl len (by omega), e_cpy] at hP hD
    exact kk _ rfl hE p e R s m args below meth c H1 locs1 ad ad0 n0 lsA hF h1 h2 hX (e_Wp_set (c := cI kd n1 (va_cpy f g sp dp len)) hW hk1 hs.2.2.1 hwf hP hD hF.2.2.2.1 hF.2.2.2.2 hS1) hS1 hL hs.2.2.2.2.2
/-- Math.max, Math.min -/
def e_cMa (own : String) (idx : Nat) (z : MethodName) (cc : ByteArray) : Prop := Cond.methodLink own idx z ∈ e_WS ∧ Cond.static z ∈ e_WS ∧ Cond.initialized "java/lang/Math" ∈ e_WS ∧ Cond.code z cc 2 (some .int) ∈ e_WS
theorem e_13 {p : Program} {R : Room} {s : State} {m : MethodId} {args : Array Value} {meth : Method} {c : Code} (hF : e_Fx Γ X d mc ms p R s m args meth c) {ad : Nat → Nat} (hst : e_sum st ≤ 8) : ((st.map (e_cv ad)).map fun v => v.category).sum + 13 ≤ R.locals := by
  have := hF.2.2.1.2.1
  rw [e_sum_eq]
  omega
theorem g_max (i : Nat) {idx : Nat} {a b : Int} (hd : X.tb[i]? = some (pc, .invokestatic idx, pc')) (hl : e_cMa X.own idx Lib.Math.max.name Lib.Math.max.code) (ha : -2147483648 ≤ a ∧ a ≤ 2147483647) (hb : -2147483648 ≤ b ∧ b ≤ 2147483647) (hst : e_sum st ≤ 8) (kk : G Λ Γ X d mc ms Q pc' ls (vI (if a < b then b else a) :: st) M n kc ks) : G Λ Γ X d mc ms Q pc ls (vI b :: vI a :: st) M n kc ks := by
  intro hE p e R s m args below meth c H locs ad ad0 n0 lsA hF h1 h2 hX hW hS hL hs
  obtain ⟨hdd, rfl⟩ := e_dec hF.1 hd
  refine va_mmax hF.1.1 hF.1.2.1 (by rw [hF.1.2.2.1]; exact hL.2.1.1.symm) hF.1.2.2.2.2.2.1 (e_w hF hl.1) (e_w hF hl.2.1) (e_w hF hl.2.2.1) (e_w hF hl.2.2.2) (Nat.le_trans (by omega) hF.2.2.1.1) (e_13 hF hst) (Nat.le_trans h1 hF.2.2.1.2.2.1) (Nat.le_trans h2 hF.2.2.1.2.2.2) hdd (W.eq (g2 := F0 m (pc + 3) lsA (.int (iI (if a < b then b else a)) :: st.map (e_cv ad))) ?_ (kk hE p e R s m args below meth c H locs ad ad0 n0 lsA hF h1 h2 hX hW hS hL ⟨trivial, hs.2.2⟩))
  by_cases h : a < b
  · rw [if_pos h, if_pos ((iI_lt ha hb).mpr h)]
  · rw [if_neg h, if_neg (fun z => h ((iI_lt ha hb).mp z))]
theorem g_min (i : Nat) {idx : Nat} {a b : Int} (hd : X.tb[i]? = some (pc, .invokestatic idx, pc')) (hl : e_cMa X.own idx Lib.Math.min.name Lib.Math.min.code) (ha : -2147483648 ≤ a ∧ a ≤ 2147483647) (hb : -2147483648 ≤ b ∧ b ≤ 2147483647) (hst : e_sum st ≤ 8) (kk : G Λ Γ X d mc ms Q pc' ls (vI (if b < a then b else a) :: st) M n kc ks) : G Λ Γ X d mc ms Q pc ls (vI b :: vI a :: st) M n kc ks := by
  intro hE p e R s m args below meth c H locs ad ad0 n0 lsA hF h1 h2 hX hW hS hL hs
  obtain ⟨hdd, rfl⟩ := e_dec hF.1 hd
  refine va_mmin hF.1.1 hF.1.2.1 (by rw [hF.1.2.2.1]; exact hL.2.1.1.symm) hF.1.2.2.2.2.2.1 (e_w hF hl.1) (e_w hF hl.2.1) (e_w hF hl.2.2.1) (e_w hF hl.2.2.2) (Nat.le_trans (by omega) hF.2.2.1.1) (e_13 hF hst) (Nat.le_trans h1 hF.2.2.1.2.2.1) (Nat.le_trans h2 hF.2.2.1.2.2.2) hdd (W.eq (g2 := F0 m (pc + 3) lsA (.int (iI (if b < a then b else a)) :: st.map (e_cv ad))) ?_ (kk hE p e R s m args below meth c H locs ad ad0 n0 lsA hF h1 h2 hX hW hS hL ⟨trivial, hs.2.2⟩))
  by_cases h : b < a
  · rw [if_pos h, if_pos ((iI_lt hb ha).mpr h)]
  · rw [if_neg h, if_neg (fun z => h ((iI_lt hb ha).mp z))]
/-- switches -/
theorem g_tsw (tgt j : Nat) {dflt lo hi : Int} {offs : Array Int} {len : Nat} {z off : Int} (hd : decode X.cc pc = .ok (.tableswitch dflt lo hi offs, len)) (hz : z = lo + (j : Int)) (hh : lo + (j : Int) ≤ hi) (hr : -2147483648 ≤ z ∧ z ≤ 2147483647) (ho : offs[j]? = some off) (ht : (pc : Int) + off = (tgt : Int)) (kk : G Λ Γ X d mc ms Q tgt ls st M n kc ks) : G Λ Γ X d mc ms Q pc ls (vI z :: st) M n kc ks := by
  intro hE p e R s m args below meth c H locs ad ad0 n0 lsA hF h1 h2 hX hW hS hL hs
  subst hz
  refine lv_tableIn hF.1.1 hF.1.2.1 hd (x := iI (lo + j)) (by rw [iI_toInt hr]; omega) (by rw [iI_toInt hr]; omega) (by rw [iI_toInt hr, show (lo + (j : Int) - lo).toNat = j by omega]; exact ho) ht (kk hE p e R s m args below meth c H locs ad ad0 n0 lsA hF h1 h2 hX hW hS hL hs.2)
theorem g_tswD (tgt : Nat) {dflt lo hi : Int} {offs : Array Int} {len : Nat} {z : Int} (hd : decode X.cc pc = .ok (.tableswitch dflt lo hi offs, len)) (hz : z < lo ∨ hi < z) (hr : -2147483648 ≤ z ∧ z ≤ 2147483647) (ht : (pc : Int) + dflt = (tgt : Int)) (kk : G Λ Γ X d mc ms Q tgt ls st M n kc ks) : G Λ Γ X d mc ms Q pc ls (vI z :: st) M n kc ks := by
  intro hE p e R s m args below meth c H locs ad ad0 n0 lsA hF h1 h2 hX hW hS hL hs
  exact lv_tableOut hF.1.1 hF.1.2.1 hd (x := iI z) (by rw [iI_toInt hr]; exact hz) ht (kk hE p e R s m args below meth c H locs ad ad0 n0 lsA hF h1 h2 hX hW hS hL hs.2)
theorem g_lsw (tgt : Nat) {dflt off : Int} {ps : Array (Int × Int)} {len : Nat} {z : Int} (hd : decode X.cc pc = .ok (.lookupswitch dflt ps, len)) (hp : (ps.toList.zip (ps.toList.drop 1)).all (fun (a, next) => a.1 < next.1) = true) (hr : -2147483648 ≤ z ∧ z ≤ 2147483647) (ho : Op.lookupswitch.offset ps.toList dflt z = off) (ht : (pc : Int) + off = (tgt : Int)) (kk : G Λ Γ X d mc ms Q tgt ls st M n kc ks) : G Λ Γ X d mc ms Q pc ls (vI z :: st) M n kc ks := by
  intro hE p e R s m args below meth c H locs ad ad0 n0 lsA hF h1 h2 hX hW hS hL hs
  exact lv_lookup hF.1.1 hF.1.2.1 hd (x := iI z) hp (by rw [iI_toInt hr]; exact ho) ht (kk hE p e R s m args below meth c H locs ad ad0 n0 lsA hF h1 h2 hX hW hS hL hs.2)
/-- ends -/
theorem g_iret (i : Nat) {z : Int} {ty : FieldType} (hd : X.tb[i]? = some (pc, .ireturn, pc')) (hr : X.rt = some ty) (hf : e_fit ty (vI z)) (hQ : Q (.inl (some (vI z))) M n) : G Λ Γ X d mc ms Q pc ls [vI z] M n kc ks := by
  intro hE p e R s m args below meth c H locs ad ad0 n0 lsA hF h1 h2 hX hW hS hL hs
  obtain ⟨hdd, rfl⟩ := e_dec hF.1 hd
  exact vx_ret (W.widen h1 h2 (W.zret hF.1.1 hF.1.2.1 (hF.1.2.2.2.1.trans hr) (e_fit_ok (ad := ad) hf).1 (fun t ht _ => ⟨some (vI z), M, n, ad, rfl, hQ, hX, trivial, by rw [ht]; exact hW⟩) hS.2.2 hdd hF.1.2.2.2.2.1))
theorem g_vret (i : Nat) (hd : X.tb[i]? = some (pc, .return_, pc')) (hr : X.rt = none) (hQ : Q (.inl none) M n) : G Λ Γ X d mc ms Q pc ls [] M n kc ks := by
  intro hE p e R s m args below meth c H locs ad ad0 n0 lsA hF h1 h2 hX hW hS hL hs
  obtain ⟨hdd, rfl⟩ := e_dec hF.1 hd
  exact vx_ret (W.widen h1 h2 (W.vret hF.1.1 hF.1.2.1 (hF.1.2.2.2.1.trans hr) (fun t ht _ => ⟨none, M, n, ad, rfl, hQ, hX, trivial, by rw [ht]; exact hW⟩) hS.2.2 hdd hF.1.2.2.2.2.1))
theorem g_aret (i : Nat) {r : Option Nat} {ty : FieldType} (hd : X.tb[i]? = some (pc, .areturn, pc')) (hr : X.rt = some ty) (hty : (∃ n, ty = .object n) ∨ ∃ t, ty = .array t) (hQ : Q (.inl (some (vO r))) M n) : G Λ Γ X d mc ms Q pc ls [vO r] M n kc ks := by
  intro hE p e R s m args below meth c H locs ad ad0 n0 lsA hF h1 h2 hX hW hS hL hs
  obtain ⟨hdd, rfl⟩ := e_dec hF.1 hd
  exact vx_ret (W.widen h1 h2 (W.aret (v := e_cv ad (vO r)) hF.1.1 hF.1.2.1 (hF.1.2.2.2.1.trans hr) hty (by cases r with
    | none => exact Or.inl rfl
    | some r => exact Or.inr ⟨_, rfl⟩) (fun t ht _ => ⟨some (vO r), M, n, ad, rfl, hQ, hX, hs.1, by rw [ht]; exact hW⟩) hS.2.2 hdd hF.1.2.2.2.2.1))
theorem g_dret (i : Nat) {z : UInt64} (hd : X.tb[i]? = some (pc, .dreturn, pc')) (hr : X.rt = some .double) (hQ : Q (.inl (some (vD z))) M n) : G Λ Γ X d mc ms Q pc ls [vD z] M n kc ks := by
  intro hE p e R s m args below meth c H locs ad ad0 n0 lsA hF h1 h2 hX hW hS hL hs
  obtain ⟨hdd, rfl⟩ := e_dec hF.1 hd
  exact vx_ret (W.widen h1 h2 (W.dret hF.1.1 hF.1.2.1 (hF.1.2.2.2.1.trans hr) (fun t ht _ => ⟨some (vD z), M, n, ad, rfl, hQ, hX, trivial, by rw [ht]; exact hW⟩) hS.2.2 hdd hF.1.2.2.2.2.1))
theorem g_fret (i : Nat) {z : UInt32} (hd : X.tb[i]? = some (pc, .freturn, pc')) (hr : X.rt = some .float) (hQ : Q (.inl (some (vF z))) M n) : G Λ Γ X d mc ms Q pc ls [vF z] M n kc ks := by
  intro hE p e R s m args below meth c H locs ad ad0 n0 lsA hF h1 h2 hX hW hS hL hs
  obtain ⟨hdd, rfl⟩ := e_dec hF.1 hd
  exact vx_ret (W.widen h1 h2 (W.fret hF.1.1 hF.1.2.1 (hF.1.2.2.2.1.trans hr) (fun t ht _ => ⟨some (vF z), M, n, ad, rfl, hQ, hX, trivial, by rw [ht]; exact hW⟩) hS.2.2 hdd hF.1.2.2.2.2.1))
/-- an exception leaves: no handlers; handlers of other classes are passed in gx_catch -/
theorem gx_out {E : String} (hh : X.hh = []) (hQ : Q (.inr E) M n) : GX Λ Γ X d mc ms Q E pc ls M n kc ks := by
  intro hE p e R s m args below meth c H locs ad ad0 n0 lsA rest q ce hF h1 h2 hX hW hS hL hce hcv hcl
  refine vx_out (fun x hx => ?_) hF.1.2.2.2.2.1 hce hcv hcl (fun t ht _ => ⟨M, n, ad, hQ, hX, by rw [ht]; exact hW⟩) hS.2.2 h1 h2
  rw [hF.1.2.2.2.2.2.2.2.1, hh] at hx
  cases hx
def e_ent (q : Nat × Nat × Nat × Nat) : ExceptionTableEntry := ⟨q.1, q.2.1, q.2.2.1, q.2.2.2⟩
/-- caught by the handler x behind the handlers pre, which pass; the handler begins with astore -/
theorem gx_catch {E name : String} (pre : List (Nat × Nat × Nat × Nat)) (x : Nat × Nat × Nat × Nat) (suf : List (Nat × Nat × Nat × Nat)) (i j : Nat) {ins : Instr} (hsp : X.hh = pre ++ x :: suf) (hpass : ∀ z ∈ pre, z.2.2.2 ≠ 0 ∧ ∃ nm : String, Cond.classLink X.own z.2.2.2 nm ∈ e_WS ∧ (E, nm) ∈ Λ.2.2.2) (hcov : covers (e_ent x) pc = true) (h0 : x.2.2.2 ≠ 0)
    (hlk : Cond.classLink X.own x.2.2.2 name ∈ e_WS) (hcast : Cond.castable E name ∈ Λ.2.2.1) (hd : X.tb[i]? = some (x.2.2.1, ins, pc')) (hins : (∃ j' : Fin 4, ins = .astore_n j' ∧ (j' : Nat) = j) ∨ ins = .astore j) (hj : j < X.mL) (hc2 : ls.all (fun v => !c2v v) = true)
    (kk : G Λ Γ X d mc ms Q pc' (ls.set j none) [] M n kc ks) : GX Λ Γ X d mc ms Q E pc ls M n kc ks := by
  intro hE p e R s m args below meth c H locs ad ad0 n0 lsA rest q ce hF h1 h2 hX hW hS hL hce hcv hcl
  obtain ⟨hdd, hpc⟩ := e_dec hF.1 hd
  refine vx_catch hF.1.2.2.2.2.2.1 (pre.map e_ent) (e_ent x) (suf.map e_ent) (by rw [hF.1.2.2.2.2.2.2.2.1, hsp, tableOf, List.map_append]; rfl) (fun z hz => ?_) hcov h0 (e_w hF hlk) (va_Nw.use rfl (va_Nw.warmC hF.2.1 (hE.2.2.2.2.2.2.1 _ hcast))) hce hcv hcl ?_
  · obtain ⟨z', hz', rfl⟩ := List.mem_map.mp hz
    obtain ⟨a1, nm, a2, a3⟩ := hpass z' hz'
    exact Or.inr ⟨a1, nm, e_w hF a2, va_Nc.moved hF.2.1.alike (hE.2.2.2.2.2.2.2.1 _ a3)⟩
  · have hkk : ∀ lsB : Array Slot, lv_has lsB X.mL ((j, .ref q) :: (e_all lsA).filter (fun r => !(r.1 == j) && !(r.1 + 1 == j && r.2.category == 2))) → W p Γ.l e R s m args below meth c H locs kc ks (vx_MQ below (e_Qc Γ Q ad0 n0) (e_XC Γ Q ad0 n0) args s mc ms (e_FR Γ)) (F0 m pc' lsB []) := by
      intro lsB hB
      refine kk hE p e R s m args below meth c H locs ad ad0 n0 lsB hF h1 h2 hX hW hS ⟨by rw [List.length_set]; exact hL.1, ⟨hB.1, hB.2.1, fun q hq => nomatch hq⟩, fun i v hv => ?_⟩ trivial
      by_cases hij : i = j
      · subst hij
        rw [List.getElem?_set_self (by rw [hL.1]; exact hj)] at hv
        cases hv
      · rw [List.getElem?_set_ne (fun h => hij h.symm)] at hv
        obtain ⟨w1, w2⟩ := hL.2.2 i v hv
        refine ⟨w1, hB.2.2 (i, e_cv ad v) (List.mem_cons_of_mem _ (List.mem_filter.mpr ⟨e_all_mem.mpr w2, ?_⟩))⟩
        have hcv2 : c2v (some v) = false := by
          have := List.all_eq_true.mp hc2 _ (List.mem_of_getElem? hv)
          simpa using this
        simp only [Bool.and_eq_true, Bool.not_eq_true', beq_eq_false_iff_ne, ne_eq, Bool.and_eq_false_iff]
        exact ⟨hij, Or.inr (by rw [c2v_cat hcv2]; decide)⟩
    subst hpc
    rcases hins with ⟨j', rfl, rfl⟩ | rfl
    · exact lv_astore_n hF.1.1 hF.1.2.1 hdd rfl (e_all_has hL.2.1) hj rfl hkk
    · exact lv_astore hF.1.1 hF.1.2.1 hdd (e_all_has hL.2.1) hj rfl hkk
def e_mv : Cond → Bool
  | .castable _ _ => true
  | .declares _ => true
  | _ => false
theorem e_mv_ok {w : Cond} {s0 s : State} {args : Array Value} (h : e_mv w = true) (hW : s0.WarmedH s.vm) (hw : va_Nw w s0) : w.before args s = true := by
  unfold e_mv at h
  split at h
  · exact va_Nw.use rfl (va_Nw.warmC hW hw)
  · exact va_Nw.use rfl (va_Nw.warmD hW hw)
  · cases h
/-- throw new E("text") -/
def e_cT (Λ : Ls) (own : String) (ik is ic : Nat) (cls : String) (names : List String) : Prop := ∃ (text : String) (sa : Nat), Bundle.fit cls = true ∧ (∀ n ∈ names, Bundle.fit n = true) ∧ names.length ≤ 5 ∧ Cond.classLink own ik cls ∈ e_WS ∧ Cond.initialized cls ∈ e_WS ∧ (own, is, text, sa) ∈ Λ.2.1 ∧
  (∀ w ∈ vx_atS own ic cls names, w ∈ e_WS ∨ (w ∈ Λ.2.2.1 ∧ e_mv w = true)) ∧ ∀ w ∈ Cond.classLink own ik cls :: Cond.initialized cls :: vx_atS own ic cls names, vx_ot w = true

theorem g_throw (i : Nat) {ik is ic : Nat} {cls : String} {names : List String} {p1 p2 p3 p4 p5 : Nat} (hl : e_cT Λ X.own ik is ic cls names) (hd0 : X.tb[i]? = some (pc, .new ik, p1)) (hd1 : X.tb[i + 1]? = some (p1, .dup, p2)) (hd2 : X.tb[i + 2]? = some (p2, .ldc is, p3)) (hd3 : X.tb[i + 3]? = some (p3, .invokespecial ic, p4)) (hd4 : X.tb[i + 4]? = some (p4, .athrow, p5)) (hh : X.hh = []) (hst : e_sum st ≤ 8) (hkc : kc + 1 ≤ mc) (hks : ks + 6 ≤ ms) (hQ : Q (.inr cls) M n) : G Λ Γ X d mc ms Q pc ls st M n kc ks := by
  intro hE p e R s m args below meth c H locs ad ad0 n0 lsA hF h1 h2 hX hW hS hL hs
  obtain ⟨text, sa, hft, hfn, hnl, hcl, hini, hstr, hat, hgood⟩ := hl
  obtain ⟨e0, rfl⟩ := e_dec hF.1 hd0
  obtain ⟨e1, rfl⟩ := e_dec hF.1 hd1
  obtain ⟨e2, rfl⟩ := e_dec hF.1 hd2
  obtain ⟨e3, rfl⟩ := e_dec hF.1 hd3
  obtain ⟨e4, rfl⟩ := e_dec hF.1 hd4
  obtain ⟨-, hR⟩ := hE.2.2.2.2.2.1 _ hstr
  have hU := hE.2.2.2.2.2.2.2.2.1
  have hN := hE.2.2.2.2.2.2.2.2.2.1
  refine vx_throwS hF.1.1 hF.1.2.1 hE.1 hF.1.2.2.2.2.2.1 hft hfn (e_w hF hcl) (e_w hF hini) (vk_R.warm hF.2.1 hR) (fun w hw => ?_) hgood ((vx_Zq.moved hF.2.1.alike hU).kept (e_old hF)) ((vx_Zq.moved hF.2.1.alike hN).kept (e_old hF)) hS (hL.2.1.1.trans hF.1.2.2.1.symm) e0 e1 e2 e3 e4 (fun x hx => ?_) ?_ ?_ (Nat.le_trans hkc hF.2.2.1.2.2.1) (Nat.le_trans hks hF.2.2.1.2.2.2) hF.1.2.2.2.2.1 (fun t _ hsz hk => ?_) hS.2.2 hkc hks
  · rcases hat w hw with h | ⟨h, h9⟩
    · exact e_w hF h
    · exact e_mv_ok h9 hF.2.1 (hE.2.2.2.2.2.2.1 _ h)
  · rw [hF.1.2.2.2.2.2.2.2.1, hh] at hx
    cases hx
  · have := hF.2.2.1.1
    omega
  · have := hF.2.2.1.2.1
    rw [e_sum_eq]
    omega
  · refine ⟨M, n, ad, hQ, hX, hW.1, hW.2.1, hW.2.2.1, va_P.kept hW.2.2.2.1 (fun k q hq => hk _ ((hW.2.2.2.1 k q hq).lt)), hW.2.2.2.2.1, Nat.le_trans hW.2.2.2.2.2.1 hsz, fun q hq => ?_⟩
    rw [hk q (Nat.lt_of_lt_of_le hq hW.2.2.2.2.2.1), e_Wp_old hW q hq]

theorem g_throwW (i : Nat) {ik is ic : Nat} {cls : String} {names : List String} {p1 p2 p3 p4 p5 : Nat} (hl : e_cT Λ X.own ik is ic cls names) (hd0 : X.tb[i]? = some (pc, .new ik, p1)) (hd1 : X.tb[i + 1]? = some (p1, .dup, p2)) (hd2 : X.tb[i + 2]? = some (p2, .ldc_w is, p3)) (hd3 : X.tb[i + 3]? = some (p3, .invokespecial ic, p4)) (hd4 : X.tb[i + 4]? = some (p4, .athrow, p5)) (hh : X.hh = []) (hst : e_sum st ≤ 8) (hkc : kc + 1 ≤ mc) (hks : ks + 6 ≤ ms) (hQ : Q (.inr cls) M n) : G Λ Γ X d mc ms Q pc ls st M n kc ks := by
  intro hE p e R s m args below meth c H locs ad ad0 n0 lsA hF h1 h2 hX hW hS hL hs
  obtain ⟨text, sa, hft, hfn, hnl, hcl, hini, hstr, hat, hgood⟩ := hl
  obtain ⟨e0, rfl⟩ := e_dec hF.1 hd0
  obtain ⟨e1, rfl⟩ := e_dec hF.1 hd1
  obtain ⟨e2, rfl⟩ := e_dec hF.1 hd2
  obtain ⟨e3, rfl⟩ := e_dec hF.1 hd3
  obtain ⟨e4, rfl⟩ := e_dec hF.1 hd4
  obtain ⟨-, hR⟩ := hE.2.2.2.2.2.1 _ hstr
  have hU := hE.2.2.2.2.2.2.2.2.1
  have hN := hE.2.2.2.2.2.2.2.2.2.1
  refine vx_throwSW hF.1.1 hF.1.2.1 hE.1 hF.1.2.2.2.2.2.1 hft hfn (e_w hF hcl) (e_w hF hini) (vk_R.warm hF.2.1 hR) (fun w hw => ?_) hgood ((vx_Zq.moved hF.2.1.alike hU).kept (e_old hF)) ((vx_Zq.moved hF.2.1.alike hN).kept (e_old hF)) hS (hL.2.1.1.trans hF.1.2.2.1.symm) e0 e1 e2 e3 e4 (fun x hx => ?_) ?_ ?_ (Nat.le_trans hkc hF.2.2.1.2.2.1) (Nat.le_trans hks hF.2.2.1.2.2.2) hF.1.2.2.2.2.1 (fun t _ hsz hk => ?_) hS.2.2 hkc hks
  · rcases hat w hw with h | ⟨h, h9⟩
    · exact e_w hF h
    · exact e_mv_ok h9 hF.2.1 (hE.2.2.2.2.2.2.1 _ h)
  · rw [hF.1.2.2.2.2.2.2.2.1, hh] at hx
    cases hx
  · have := hF.2.2.1.1
    omega
  · have := hF.2.2.1.2.1
    rw [e_sum_eq]
    omega
  · refine ⟨M, n, ad, hQ, hX, hW.1, hW.2.1, hW.2.2.1, va_P.kept hW.2.2.2.1 (fun k q hq => hk _ ((hW.2.2.2.1 k q hq).lt)), hW.2.2.2.2.1, Nat.le_trans hW.2.2.2.2.2.1 hsz, fun q hq => ?_⟩
    rw [hk q (Nat.lt_of_lt_of_le hq hW.2.2.2.2.2.1), e_Wp_old hW q hq]

/-- the start -/
def e_ini {α : Type} (nL : Nat) (as : List aV) (k : List (Option aV) → Option α) : Option α := match nL, as with
  | 0, [] => k []
  | 0, _ :: _ => none
  | m + 1, [] => e_ini m [] (fun r => k (none :: r))
  | m + 1, v :: t => match c2v (some v) with
    | true => none
    | false => e_ini m t (fun r => k (some v :: r))
theorem e_ini_ok {α : Type} : ∀ (nL : Nat) (as : List aV) (k : List (Option aV) → Option α) (r : α), e_ini nL as k = some r → as.length ≤ nL ∧ (∀ v ∈ as, c2v (some v) = false) ∧ k (as.map some ++ List.replicate (nL - as.length) none) = some r
  | 0, [], k, r, h => ⟨Nat.le_refl _, (fun _ h => nomatch h), h⟩
  | 0, _ :: _, k, r, h => by cases h
  | m + 1, [], k, r, h => by
    obtain ⟨h1, h2, h3⟩ := e_ini_ok m [] _ r h
    exact ⟨Nat.zero_le _, h2, h3⟩
  | m + 1, v :: t, k, r, h => by
    unfold e_ini at h
    split at h
    · cases h
    · next hc =>
      obtain ⟨h1, h2, h3⟩ := e_ini_ok m t _ r h
      refine ⟨by simp; omega, fun w hw => ?_, ?_⟩
      · rcases List.mem_cons.mp hw with rfl | hw
        · exact hc
        · exact h2 w hw
      · rw [show m + 1 - (v :: t).length = m - t.length by simp]
        exact h3
theorem e_sl {ad : Nat → Nat} : ∀ {as : List aV}, (∀ v ∈ as, c2v (some v) = false) → lg_sl (as.map (e_cv ad)) = as.map (fun v => Slot.val (e_cv ad v))
  | [], _ => rfl
  | v :: t, h => by
    have h1 : (e_cv ad v).category = 1 := c2v_cat (h v List.mem_cons_self)
    have h2 := e_sl (ad := ad) (fun w hw => h w (List.mem_cons_of_mem _ hw) : ∀ w ∈ t, c2v (some w) = false)
    show (if (e_cv ad v).category = 2 then [Slot.val (e_cv ad v), .second] else [Slot.val (e_cv ad v)]) ++ lg_sl (t.map (e_cv ad)) = _
    rw [if_neg (by omega), h2]
    rfl
def e_ok (X : MD) : Prop := plainName X.y.cls = true ∧ X.own = X.y.cls ∧ e_tb X.cc X.tb = true
theorem e_entry {ad : Nat → Nat} {as : List aV} {nL : Nat} (h1 : as.length ≤ nL) (h2 : ∀ v ∈ as, c2v (some v) = false) (hw : e_wfS n as) : e_LR ad n (as.map some ++ List.replicate (nL - as.length) none) ((lg_sl (as.map (e_cv ad)) ++ List.replicate (nL - (lg_sl (as.map (e_cv ad))).length) Slot.unset).toArray) nL := by
  have hsl := e_sl (ad := ad) h2
  have hlen : (lg_sl (as.map (e_cv ad))).length = as.length := by rw [hsl, List.length_map]
  have hh := lv_entry (as.map (e_cv ad)) (n := nL) (by rw [hlen]; exact h1)
  refine ⟨by simp; omega, ⟨hh.1, hh.2.1, fun q hq => nomatch hq⟩, fun j v hj => ?_⟩
  have hj' : as[j]? = some v := by
    by_cases h : j < as.length
    · rw [List.getElem?_append_left (by rw [List.length_map]; exact h), List.getElem?_map] at hj
      cases hx : as[j]? with
      | none => rw [hx] at hj; cases hj
      | some w => rw [hx] at hj; cases hj; rfl
    · rw [List.getElem?_append_right (by rw [List.length_map]; omega), List.getElem?_replicate] at hj
      split at hj <;> cases hj
  refine ⟨e_wfS_mem hw v (List.mem_of_getElem? hj'), ?_⟩
  rw [List.getElem?_toArray, hsl, List.getElem?_append_left (by rw [List.length_map]; exact (List.getElem?_eq_some_iff.mp hj').1), List.getElem?_map, hj']
  rfl
theorem g_start {as : List aV} (hX : e_ok X) (hh : X.hh = []) {ls : List (Option aV)} (hi : e_ini X.mL as (fun l => some l) = some ls) (kk : G Λ Γ X d mc ms Q 0 ls [] M n 0 0) : Ct Λ Γ X d mc ms as M n Q := by
  intro hE ad
  obtain ⟨i1, i2, i3⟩ := e_ini_ok _ _ _ _ hi
  cases i3
  refine vx_ofW (cc := X.cc) (maxL := X.mL) (ret := X.rt) (ws' := e_WS) hX.1 (by rw [e_wsM, e_code hh]) ?_
  intro p e s m args below meth c s₁ B hml htab hv
  obtain ⟨rfl, hw, hs0, hW⟩ := hv
  have hts := atoms_spec (ws := e_wsM X) B.pre
  rw [lg_entry_eq]
  exact kk hE p e _ s m _ below meth c s.heap [] ad ad n _ ⟨⟨B.exec, B.bytes, hml, B.returns, B.notSynchronized, by rw [hX.2.1]; exact findClass_of_methodNamed B.named, fun w hw => hts w (List.mem_cons_of_mem _ hw), by
      rw [hh]
      cases ht : c.exceptionTable.toList with
      | nil => rfl
      | cons x t => exact (htab x (by rw [ht]; exact List.mem_cons_self)).elim, (name_of_methodNamed B.named B.method).1, hX.2.2⟩, hs0, ⟨Nat.le_refl _, Nat.le_refl _, Nat.le_refl _, Nat.le_refl _⟩, hW.2.2.2.2.2.1, hW.2.2.2.2.2.2⟩ (Nat.zero_le _) (Nat.zero_le _) ⟨Nat.le_refl _, fun _ _ => rfl⟩ hW va_S.rf (e_entry i1 i2 hw) trivial
theorem g_startX {as : List aV} (hX : e_ok X) (hh : X.hh ≠ []) {ls : List (Option aV)} (hi : e_ini X.mL as (fun l => some l) = some ls) (kk : G Λ Γ X d mc ms Q 0 ls [] M n 0 0) : Ct Λ Γ X d mc ms as M n Q := by
  intro hE ad
  obtain ⟨i1, i2, i3⟩ := e_ini_ok _ _ _ _ hi
  cases i3
  have ecw : e_cw X = .codeWith X.y X.cc X.mL X.rt X.hh := by
    unfold e_cw
    split
    · next h => exact absurd h hh
    · rfl
  refine vx_ofWH (cc := X.cc) (maxL := X.mL) (ret := X.rt) (ws' := e_WS) (hh := X.hh) hX.1 (by rw [e_wsM, ecw]) ?_
  intro p e s m args below meth c s₁ B hml hv
  obtain ⟨rfl, hw, hs0, hW⟩ := hv
  have hts := atoms_spec (ws := e_wsM X) B.pre
  rw [lg_entry_eq]
  exact kk hE p e _ s m _ below meth c s.heap [] ad ad n _ ⟨⟨B.exec, B.bytes, hml, B.returns, B.notSynchronized, by rw [hX.2.1]; exact findClass_of_methodNamed B.named, fun w hw => hts w (List.mem_cons_of_mem _ hw),
      vx_table (x := X.y) B (by rw [← ecw]; exact hts _ List.mem_cons_self), (name_of_methodNamed B.named B.method).1, hX.2.2⟩, hs0, ⟨Nat.le_refl _, Nat.le_refl _, Nat.le_refl _, Nat.le_refl _⟩, hW.2.2.2.2.2.1, hW.2.2.2.2.2.2⟩ (Nat.zero_le _) (Nat.zero_le _) ⟨Nat.le_refl _, fun _ _ => rfl⟩ hW va_S.rf (e_entry i1 i2 hw) trivial

end R3
end
section
/-! NoSuchElementException: its constructor calls its super's by another entry than the kit's rows know; the throw is walked here from the library's steps (as vx_throwS is in the kit's pasted text) -/
def nx_tail (own : String) (ic : Nat) (X : String) : List Cond :=
  [.methodLink own ic (Bundle.initS X), .instantiable X 6, .castable X X, .selects X Bundle.tFill0 Bundle.tFill0, .selects X Bundle.tFill Bundle.tFill,
   .lays X Bundle.tN "cause" "Ljava/lang/Throwable;", .lays X Bundle.tN "stackTrace" Bundle.steD, .lays X Bundle.tN "suppressedExceptions" Bundle.listD, .lays X Bundle.tN "detailMessage" "Ljava/lang/String;",
   .isRef (.static Bundle.tN "UNASSIGNED_STACK" Bundle.steD), .isRef (.static Bundle.tN "SUPPRESSED_SENTINEL" Bundle.listD),
   .fieldLink Bundle.tN 198 Bundle.tN "backtrace" "Ljava/lang/Object;", .lays Bundle.tN Bundle.tN "backtrace" "Ljava/lang/Object;", .lays X Bundle.tN "backtrace" "Ljava/lang/Object;"]
def nx_at (own : String) (ic : Nat) (X Y : String) (ix : Nat) (rx : ByteArray) (names : List String) : List Cond :=
  Bundle.throwableAtoms ++ (Bundle.throwableSAtoms ++ (Bundle.passSAtoms X Y ix rx ++ (Bundle.chainSAtoms Y names ++ nx_tail own ic X)))
section NX
variable {p : Program} {l : Launch} {e : Env} {R : Room} {s : State} {m : MethodId} {args : Array Value} {below : List Frame} {meth : Method} {c : Code} {U : State} {locs : List Loc} {cells slots : Nat}
set_option maxHeartbeats 2000000 in
theorem nx_ctor (X : Stand p l e R s m args below meth c U locs cells slots) (hexec : p.tables.exec = Jvm.exec) (htr : e.platform.stackTraces = false) {own cls Y : String} {names : List String} {ic ix : Nat} {rx : ByteArray}
    (x0 : decode rx 0 = .ok (.aload_n 0, 1)) (x1 : decode rx 1 = .ok (.aload_n 1, 1)) (x2 : decode rx 2 = .ok (.invokespecial ix, 3)) (x5 : decode rx 5 = .ok (.return_, 1))
    (hown : s.vm.findClass own = some m.cls) (hcls : Bundle.fit cls = true) (hY : Bundle.fit Y = true) (hnames : ∀ n ∈ names, Bundle.fit n = true) (h : ∀ a ∈ nx_at own ic cls Y ix rx names, a.before args s = true)
    (hlocs : ∀ x ∈ locs, ∀ cell, s.heap[x.base]? = some cell → cell.vm.isStatics = false) {a : Addr} {cX : ClassId} {kX : Class} (hfoundX : s.vm.findClass cls = some cX) (hkX : s.vm.classes[cX]? = some kX) (hcell : U.heap[a]? = some (freshCell cX kX)) (hnew : s.heap.size ≤ a) {msg : Value} (hmsg : msg.isRef = true)
    {g : JFrame} (hg : g.method = m) (hsize : g.locals.size = c.maxLocals) (hlocked : g.locked = none) (hentered : g.entered = []) {rest : List Value} (hstack : g.stack = msg :: .ref a :: .ref a :: rest)
    (hd6 : decode c.code g.pc = .ok (.invokespecial ic, 3)) (hd9 : decode c.code (g.pc + 3) = .ok (.athrow, 1)) (hout : ∀ x ∈ c.exceptionTable.toList, covers x (g.pc + 3) = false)
    (hRframes : names.length + 4 < R.frames) (hRlocals : 2 * g.monitorRoom + ((Value.ref a :: rest).map fun v => v.category).sum + (13 * (names.length + 2) + 42) ≤ R.locals) (hlocks : meth.locks = false) :
    ∃ V : State, Steps p.tables e below (U.setTop g) V ∧ V.status = .running ∧ Ended V below (.threw a) ∧ s.WarmedH V.vm ∧ s.sameButNew ({ V with vm := s.vm } : State) locs cells slots ∧ ∃ ce, V.heap[a]? = some ce ∧ ce.vm = .none ∧ s.vm.findClass cls = some ce.cls := by
  have howns : e.platform.frameOwnsMonitors = true := by rw [X.admits.platform]
  have hfin : e.platform.finalization = false := by rw [X.admits.platform]
  have hpl : e.platform.magicAccessors = ({} : Platform).magicAccessors := by rw [X.admits.platform]
  have hA1 : ∀ x ∈ Bundle.throwableAtoms, x.before args s = true := fun x hx => h x (List.mem_append_left _ hx)
  have hA2 : ∀ x ∈ Bundle.throwableSAtoms, x.before args s = true := fun x hx => h x (List.mem_append_right _ (List.mem_append_left _ hx))
  have hA3 : ∀ x ∈ Bundle.passSAtoms cls Y ix rx, x.before args s = true := fun x hx => h x (List.mem_append_right _ (List.mem_append_right _ (List.mem_append_left _ hx)))
  have hA4 : ∀ x ∈ Bundle.chainSAtoms Y names, x.before args s = true := fun x hx => h x (List.mem_append_right _ (List.mem_append_right _ (List.mem_append_right _ (List.mem_append_left _ hx))))
  have hA5 : ∀ x ∈ nx_tail own ic cls, x.before args s = true := fun x hx => h x (List.mem_append_right _ (List.mem_append_right _ (List.mem_append_right _ (List.mem_append_right _ hx))))
  have a' : ∀ x, x ∈ nx_tail own ic cls → x.holds args s none s [] = true := fun x hx => hA5 x hx
  obtain ⟨T, Z0, L, -, Yt⟩ := ThrowableC.of_atoms (args := args) howns hfin hpl hA1
  obtain ⟨Z, M, LZ, LM, hnZ⟩ := Init0T.ofS_atoms (args := args) hpl L Yt hA2
  obtain ⟨P1, L1, hP1m, hs1⟩ := PassC.ofS_atoms (args := args) (s := s) hpl (X := cls) (Y := Y) (Bundle.fit_spec hcls).1 (Bundle.fit_spec hY).2 x0 x1 x2 x5 hA3
  obtain ⟨P2, Ps, hlen, L2, hL, hP2m, hlink2, hlink⟩ := Bundle.chainS (args := args) hpl hnZ names Y hY hnames hA4
  have hlink1 : P1.sup = P2.m := Option.some.inj (hs1.symm.trans hP2m)
  have hfound : s.vm.findClass cls = some P1.m.cls := findClass_of_methodNamed hP1m
  cases Option.some.inj (hfoundX.symm.trans hfound)
  obtain ⟨c1, kX', hc1, hk, hord, -, -, hn6⟩ := Cond.instantiable_spec (a' (.instantiable cls 6) (by simp [nx_tail]))
  cases Option.some.inj (hc1.symm.trans hfound)
  cases Option.some.inj (hkX.symm.trans hk)
  have hsel0 : selectMethod e.platform s.vm P1.m.cls T.fill0 = .method T.fill0 := by
    obtain ⟨c2, r2, m2, q1, q2, q3, q4, -⟩ := Cond.selects_spec (a' (.selects cls Bundle.tFill0 Bundle.tFill0) (by simp [nx_tail]))
    cases Option.some.inj (q1.symm.trans hfound)
    cases Option.some.inj (q2.symm.trans (State.methodFound?_of_named Yt.fill0 (by decide)))
    cases Option.some.inj (q3.symm.trans Yt.fill0)
    rw [Launch.admits_selectMethod X.admits]; exact q4
  have hselF : selectMethod e.platform s.vm P1.m.cls T.fill = .method T.fill := by
    obtain ⟨c2, r2, m2, q1, q2, q3, q4, -⟩ := Cond.selects_spec (a' (.selects cls Bundle.tFill Bundle.tFill) (by simp [nx_tail]))
    cases Option.some.inj (q1.symm.trans hfound)
    cases Option.some.inj (q2.symm.trans (State.methodFound?_of_named Yt.fill (by decide)))
    cases Option.some.inj (q3.symm.trans Yt.fill)
    rw [Launch.admits_selectMethod X.admits]; exact q4
  obtain ⟨cellS0, hcS0, hiss⟩ := Yt.statics
  obtain ⟨u0, hu0⟩ := Cond.staticRefV Yt.unassigned L.unassignedStatic L.statics hcS0 hiss (a' (.isRef (.static Bundle.tN "UNASSIGNED_STACK" Bundle.steD)) (by simp [nx_tail]))
  obtain ⟨sen, hsen⟩ := Cond.staticRefV Yt.sentinel L.sentinelStatic L.statics hcS0 hiss (a' (.isRef (.static Bundle.tN "SUPPRESSED_SENTINEL" Bundle.listD)) (by simp [nx_tail]))
  obtain ⟨ci198, i198, fB, hk198, hg198, ha198, hsB, -, hnB, htB, hffB⟩ := Cond.ownField (t := .object "java/lang/Object") Yt.found L.cls (by decide +kernel) (a' (.fieldLink Bundle.tN 198 Bundle.tN "backtrace" "Ljava/lang/Object;") (by simp [nx_tail])) (a' (.lays Bundle.tN Bundle.tN "backtrace" "Ljava/lang/Object;") (by simp [nx_tail])) e.platform hpl
  obtain ⟨cellS, hcS', heS, -, hkeep⟩ := X.same.2.2.2.2.2 T.aS cellS0 hcS0
  have hcellS : U.heap[T.aS]? = some cellS := hcS'
  have hout' : ∀ i, (⟨T.aS, i⟩ : Loc) ∉ locs := fun i hmem => by
    have := hlocs _ hmem cellS0 hcS0
    rw [hiss] at this; cases this
  have hknownS : cellS.vm ≠ .unknown := by
    rw [heS]; intro hu
    rw [show cellS0.vm = .unknown from hu] at hiss
    cases hiss
  have hneS : T.aS ≠ a := Nat.ne_of_lt (Nat.lt_of_lt_of_le (Array.getElem?_eq_some_iff.mp hcS0).1 hnew)
  obtain ⟨iM, hffM⟩ := Yt.msg
  obtain ⟨tyC, dC, hdC, hdnC⟩ := Cond.laysAt hfound hk Yt.cause (a' (.lays cls Bundle.tN "cause" "Ljava/lang/Throwable;") (by simp [nx_tail]))
  obtain ⟨tyS, dS, hdS, hdnS⟩ := Cond.laysAt hfound hk Yt.stack (a' (.lays cls Bundle.tN "stackTrace" Bundle.steD) (by simp [nx_tail]))
  obtain ⟨tyP, dP, hdP, hdnP⟩ := Cond.laysAt hfound hk Yt.supp (a' (.lays cls Bundle.tN "suppressedExceptions" Bundle.listD) (by simp [nx_tail]))
  obtain ⟨tyM, dM, hdM, hdnM⟩ := Cond.laysAt hfound hk hffM (a' (.lays cls Bundle.tN "detailMessage" "Ljava/lang/String;") (by simp [nx_tail]))
  obtain ⟨tyB, dB, hdB, hdnB⟩ := Cond.laysAt hfound hk hffB (a' (.lays cls Bundle.tN "backtrace" "Ljava/lang/Object;") (by simp [nx_tail]))
  have bC := Cond.laysApart hdB hdC hdnB hdnC (by rw [hnB, Yt.causeName]; decide)
  have bS := Cond.laysApart hdB hdS hdnB hdnS (by rw [hnB, Yt.stackName]; decide)
  have bP := Cond.laysApart hdB hdP hdnB hdnP (by rw [hnB, Yt.suppName]; decide)
  have hskip : SkipFacts T e.platform s (fun u => u) u0 ((preparedCellV T.toThrowableT (freshCell P1.m.cls kX) a u0 sen).withEntry U.cur) :=
    ⟨{ ci198 := ci198, i198 := i198, fBack := fB }, ⟨hk198, hg198, ha198, hsB⟩, by
      have := fresh_default (c := P1.m.cls) tyB
      rw [htB] at this
      simpa [preparedCellV, Cell.setSlot, Cell.withEntry, Array.getElem?_setIfInBounds, bC, bS, bP, bC.symm, bS.symm, bP.symm, defaultValue] using this, fun _ _ => rfl⟩
  obtain ⟨tm, methC, cdC, kC, vm₁, hnC, -, -, -, -, -, -, -, hW₁, st1⟩ := Steps.initColdS (tb := p.tables) (e := e) (below := below) (s := s) (U := U) X.here hexec X.warmed hpl hown (t := Bundle.initS cls) rfl rfl (Bundle.fit_spec hcls).2
    (a' (.methodLink own ic (Bundle.initS cls)) (by simp [nx_tail])) (hA3 (.instanceMethod (Bundle.initS cls)) (by simp [Bundle.passSAtoms])) (bytes := rx) (maxL := 2) (hA3 (.code (Bundle.initS cls) rx 2 none) (by simp [Bundle.passSAtoms]))
    (f := g) hg (a := a) (msg := msg) (rest := .ref a :: rest) hstack hd6
  cases Option.some.inj (hnC.symm.trans hP1m)
  have X₁ := X.noted hW₁
  obtain ⟨vm₂, X₂, st2⟩ := X₁.ctorMessageOffV hexec (g := { g with stack := .ref a :: rest }) hg hsize T L Z LZ M LM (P1 :: P2 :: Ps)
    (fun P hP => by
      rcases List.mem_cons.mp hP with rfl | hP
      · exact L1
      · rcases List.mem_cons.mp hP with rfl | hP
        · exact L2
        · exact hL P hP) ⟨hlink1, hlink2, hlink⟩ (u0 := u0) (sen := sen) (self := a) hmsg (cell := freshCell P1.m.cls kX) (cellS := cellS)
    hcell (fun _ => by simp) (by simp) rfl rfl hsel0 hselF hcellS hneS hknownS (by rw [hkeep _ (hout' _)]; exact hu0) (by rw [hkeep _ (hout' _)]; exact hsen)
    (Takes.of_laid hk hord tyC (by rw [Yt.causeType]; rfl)) (Takes.of_laid hk hord tyS (by rw [Yt.stackType]; exact fits_refV_array _ u0)) (Takes.of_laid hk hord tyP (by rw [Yt.suppType]; exact fits_refV_object _ sen))
    (Takes.of_laid hk hord tyM (by rw [Yt.msgType]; exact fits_refV_object _ ⟨msg, hmsg⟩)) Yt.objLocals hskip htr [] hd6
    (by simp only [List.length_cons, hlen]; omega) (by simp only [List.length_cons, hlen]; exact hRlocals)
  obtain ⟨hwalk, hrun, hended, hWU, hsame⟩ := X₂.athrowLeaves hexec (g := { g with stack := .ref a :: rest, pc := g.pc + 3 }) hg hlocked hentered hout (a := a) (rest := rest) rfl hd9
  have hlt : a < ((U.setVm vm₁).setVm vm₂).heap.size := (Array.getElem?_eq_some_iff.mp hcell).1
  have hU := heapAt_setCell_self (s := (U.setVm vm₁).setVm vm₂) (plainBareV T.toThrowableT (freshCell P1.m.cls kX) a u0 sen msg) hlt
  refine ⟨_, st1 _ (fun acts => ?_), hrun, hended, hWU, hsame.weaken (fun y hy hlt' => ?_) (Nat.le_refl _) (Nat.le_refl _), _, hU, rfl, hfound⟩
  · rw [doInvoke_state]
    exact st2 _ hwalk
  · rcases List.mem_append.mp hy with h1 | h1
    · exact h1
    · exfalso
      have hb : y.base = a := by
        simp only [List.mem_cons, List.not_mem_nil, or_false] at h1
        rcases h1 with rfl | rfl | rfl | rfl | rfl <;> rfl
      rw [hb] at hlt'
      exact Nat.not_lt.mpr hnew hlt'
end NX
section NX2
variable {p : Program} {l : Launch} {e : Env} {R : Room} {s : State} {m : MethodId} {args : Array Value} {below : List Frame} {meth : Method} {c : Code} {H : Heap} {locs : List Loc} {cells slots : Nat}
variable {mc ms : Nat} {free : Addr → Prop} {ls : Array Slot} {rest : List Value} {Qc : Array Value → State → Outcome → State → Prop} {XC : String → State → State → Prop}

set_option maxHeartbeats 2000000 in
theorem nx_throwS {cc : ByteArray} {pc : Nat} (hexec : p.tables.exec = Jvm.exec) (hb : c.code = cc) (hl : l.stackTraces = false) {own cls Y text : String} {names : List String} {ik is ic ix sa : Nat} {rx : ByteArray} {A : Nat → Prop}
    (x0 : decode rx 0 = .ok (.aload_n 0, 1)) (x1 : decode rx 1 = .ok (.aload_n 1, 1)) (x2 : decode rx 2 = .ok (.invokespecial ix, 3)) (x5 : decode rx 5 = .ok (.return_, 1))
    (hown : s.vm.findClass own = some m.cls) (hcls : Bundle.fit cls = true) (hY : Bundle.fit Y = true) (hnames : ∀ n ∈ names, Bundle.fit n = true) (hk : (Cond.classLink own ik cls).before args s = true) (hini : (Cond.initialized cls).before args s = true) (hstr : vk_R own is text sa s)
    (hat : ∀ w ∈ (nx_at own ic cls Y ix rx names).filter vx_no, w.before args s = true) (hgood : ∀ w ∈ Cond.classLink own ik cls :: Cond.initialized cls :: (nx_at own ic cls Y ix rx names).filter vx_no, vx_ot w = true)
    (hU : vx_Zq Bundle.tN "UNASSIGNED_STACK" Bundle.steD A s s.heap) (hN : vx_Zq Bundle.tN "SUPPRESSED_SENTINEL" Bundle.listD A s s.heap) (hS : va_S A s.heap H locs) (hsize : ls.size = c.maxLocals)
    (d0 : decode cc pc = .ok (.new ik, 3)) (d3 : decode cc (pc + 3) = .ok (.dup, 1)) (d4 : decode cc (pc + 4) = .ok (.ldc is, 2)) (d6 : decode cc (pc + 6) = .ok (.invokespecial ic, 3)) (d9 : decode cc (pc + 9) = .ok (.athrow, 1)) (hout : ∀ x ∈ c.exceptionTable.toList, covers x (pc + 9) = false)
    (hRframes : names.length + 4 < R.frames) (hRlocals : (rest.map fun v => v.category).sum + (13 * (names.length + 2) + 43) ≤ R.locals) (hRcells : cells + 1 ≤ R.cells) (hRslots : slots + 6 ≤ R.slots) (hlocks : meth.locks = false)
    (hx : ∀ t : State, s.vm.Alike t.vm → H.size ≤ t.heap.size → (∀ q : Nat, q < H.size → t.heap[q]? = H[q]?) → XC cls s t) (hf : ∀ z ∈ locs, free z.base) (hc : cells + 1 ≤ mc) (hs : slots + 6 ≤ ms) :
    W p l e R s m args below meth c H locs cells slots (vx_MQ below Qc XC args s mc ms free) (F0 m pc ls rest) := by
  intro T hT X
  have htr : e.platform.stackTraces = false := (show e.platform.stackTraces = l.stackTraces by rw [X.admits.platform]).trans hl
  have Y0 := vx_rebase X (R' := { frames := R.frames, locals := R.locals, cells := 1, slots := 6 }) (Nat.le_refl _) (Nat.le_refl _) hRcells hRslots
  obtain ⟨s', hA⟩ : ∃ z, z = (T.setVm s.vm).setFrames (.invoking m args :: below) := ⟨_, rfl⟩
  rw [← hA] at Y0
  have hvm : s'.vm = s.vm := by rw [hA]; rfl
  have hhp : s'.heap = H := by rw [hA]; exact hT
  have hW0 : s.WarmedH s'.vm := by rw [hvm]; exact State.WarmedH.refl s
  have hat' : ∀ w ∈ (nx_at own ic cls Y ix rx names).filter vx_no, w.before args s' = true := fun w hw => vx_ot_at hW0 hvm.symm (hgood w (List.mem_cons_of_mem _ (List.mem_cons_of_mem _ hw))) (hat w hw)
  have hk' : (Cond.classLink own ik cls).before args s' = true := vx_ot_at hW0 hvm.symm (hgood _ List.mem_cons_self) hk
  have hini' : (Cond.initialized cls).before args s' = true := vx_ot_at hW0 hvm.symm (hgood _ (List.mem_cons_of_mem _ List.mem_cons_self)) hini
  have hU' : vx_Zq Bundle.tN "UNASSIGNED_STACK" Bundle.steD A s' s'.heap := by rw [hhp]; exact vx_Zq.moved hW0.alike (hU.kept hS.2.1)
  have hN' : vx_Zq Bundle.tN "SUPPRESSED_SENTINEL" Bundle.listD A s' s'.heap := by rw [hhp]; exact vx_Zq.moved hW0.alike (hN.kept hS.2.1)
  have h : ∀ w ∈ nx_at own ic cls Y ix rx names, w.before args s' = true := vx_own hat' (vx_isRefq hU'.1) (vx_isRefq hN'.1) hU'.2.word hN'.2.word
  have hown' : s'.vm.findClass own = some m.cls := by rw [hvm]; exact hown
  have hins : (Cond.instantiable cls 6).before args s' = true := h _ (List.mem_append_right _ (List.mem_append_right _ (List.mem_append_right _ (List.mem_append_right _ (by simp [nx_tail])))))
  obtain ⟨vm₁, cX, kX, hfX, hkX, -, -, X₁, st1⟩ := Y0.newCold hexec (own := own) (C := cls) (index := ik) (n := 6) hown' hk' hins hini' (g := F0 m pc ls rest) rfl (by rw [hb]; exact d0) (Nat.le_refl _) (Nat.le_refl _)
  generalize hT1 : (T.setVm vm₁).pushCell { cls := cX, slots := kX.instanceTypes.map defaultValue, vm := .none } = T1 at X₁ st1
  have hcat : (Value.ref T.heap.size).category = 1 := rfl
  have hcellA : T1.heap[T.heap.size]? = some (freshCell cX kX) := by rw [← hT1]; exact State.heap_pushCell_size _ _
  have d3' : decode c.code (pc + 3) = .ok (.dup, 1) := by rw [hb]; exact d3
  have d4' : decode c.code (pc + 4) = .ok (.ldc is, 2) := by rw [hb]; exact d4
  have hstr' : vk_R own is text sa s' := vk_R.warm hW0 hstr
  obtain ⟨V, hsteps, hrun, hend, hWv, hsame, ce, hce, hcev, hcec⟩ := nx_ctor X₁ hexec htr (own := own) (cls := cls) (Y := Y) (names := names) (ic := ic) x0 x1 x2 x5 hown' hcls hY hnames h (fun x hx => nomatch hx) hfX hkX hcellA (by rw [hhp, hT]; exact Nat.le_refl _) (msg := .ref sa) rfl
    (g := { method := m, pc := pc + 6, locals := ls, stack := .ref sa :: .ref T.heap.size :: .ref T.heap.size :: rest, locked := none }) rfl hsize rfl rfl (rest := rest) rfl (by rw [hb]; exact d6) (by rw [hb]; exact d9) hout hRframes (by
      simp only [List.map_cons, List.sum_cons, hcat]
      show 2 * 0 + _ + _ ≤ R.locals
      omega) hlocks
  obtain ⟨f1, f2⟩ := vx_frame hsame
  rw [hhp] at f1 f2
  have hWs : s.WarmedH V.vm := State.WarmedH.trans hW0 hWv
  have hcl : s.vm.findClass cls = some ce.cls := by rw [hvm] at hcec; exact hcec
  have hall : s.sameButNew ({ V with vm := s.vm } : State) locs mc ms := by
    subst hA
    obtain ⟨e1, e2⟩ := hsame
    rw [State.setFrames_setFrames] at e1
    have h2 : (T.setVm s.vm).sameButNew ({ V with vm := s.vm } : State) [] (0 + 1) (0 + 6) := ⟨e1, e2⟩
    have h3 := X.same.trans h2
    rw [List.append_nil] at h3
    exact h3.mono hc hs
  refine ⟨V, ?_, .threw T.heap.size, hrun, hend, Or.inr ⟨T.heap.size, rfl, cls, ce, locs, hx V hWs.alike f1 (fun q hq => f2 q hq (fun z hz => nomatch hz)), hce, hcev, hcl, hWs, hall, hf⟩⟩
  refine st1 _ ?_
  show Steps p.tables e below (T1.setTop { method := m, pc := pc + 3, locals := ls, stack := .ref T.heap.size :: rest, locked := none }) _
  jvm_step X₁.here [X₁.here.top, hexec, d3', Value.category]
  exact X₁.ldcString hexec (own := own) (text := text) (index := is) (a := sa) hown' hstr'.1 hstr'.2 (g := { method := m, pc := pc + 4, locals := ls, stack := .ref T.heap.size :: .ref T.heap.size :: rest, locked := none }) rfl d4' _ hsteps

set_option maxHeartbeats 2000000 in
theorem nx_throwSW {cc : ByteArray} {pc : Nat} (hexec : p.tables.exec = Jvm.exec) (hb : c.code = cc) (hl : l.stackTraces = false) {own cls Y text : String} {names : List String} {ik is ic ix sa : Nat} {rx : ByteArray} {A : Nat → Prop}
    (x0 : decode rx 0 = .ok (.aload_n 0, 1)) (x1 : decode rx 1 = .ok (.aload_n 1, 1)) (x2 : decode rx 2 = .ok (.invokespecial ix, 3)) (x5 : decode rx 5 = .ok (.return_, 1))
    (hown : s.vm.findClass own = some m.cls) (hcls : Bundle.fit cls = true) (hY : Bundle.fit Y = true) (hnames : ∀ n ∈ names, Bundle.fit n = true) (hk : (Cond.classLink own ik cls).before args s = true) (hini : (Cond.initialized cls).before args s = true) (hstr : vk_R own is text sa s)
    (hat : ∀ w ∈ (nx_at own ic cls Y ix rx names).filter vx_no, w.before args s = true) (hgood : ∀ w ∈ Cond.classLink own ik cls :: Cond.initialized cls :: (nx_at own ic cls Y ix rx names).filter vx_no, vx_ot w = true)
    (hU : vx_Zq Bundle.tN "UNASSIGNED_STACK" Bundle.steD A s s.heap) (hN : vx_Zq Bundle.tN "SUPPRESSED_SENTINEL" Bundle.listD A s s.heap) (hS : va_S A s.heap H locs) (hsize : ls.size = c.maxLocals)
    (d0 : decode cc pc = .ok (.new ik, 3)) (d3 : decode cc (pc + 3) = .ok (.dup, 1)) (d4 : decode cc (pc + 4) = .ok (.ldc_w is, 3)) (d6 : decode cc (pc + 7) = .ok (.invokespecial ic, 3)) (d9 : decode cc (pc + 10) = .ok (.athrow, 1)) (hout : ∀ x ∈ c.exceptionTable.toList, covers x (pc + 10) = false)
    (hRframes : names.length + 4 < R.frames) (hRlocals : (rest.map fun v => v.category).sum + (13 * (names.length + 2) + 43) ≤ R.locals) (hRcells : cells + 1 ≤ R.cells) (hRslots : slots + 6 ≤ R.slots) (hlocks : meth.locks = false)
    (hx : ∀ t : State, s.vm.Alike t.vm → H.size ≤ t.heap.size → (∀ q : Nat, q < H.size → t.heap[q]? = H[q]?) → XC cls s t) (hf : ∀ z ∈ locs, free z.base) (hc : cells + 1 ≤ mc) (hs : slots + 6 ≤ ms) :
    W p l e R s m args below meth c H locs cells slots (vx_MQ below Qc XC args s mc ms free) (F0 m pc ls rest) := by
  intro T hT X
  have htr : e.platform.stackTraces = false := (show e.platform.stackTraces = l.stackTraces by rw [X.admits.platform]).trans hl
  have Y0 := vx_rebase X (R' := { frames := R.frames, locals := R.locals, cells := 1, slots := 6 }) (Nat.le_refl _) (Nat.le_refl _) hRcells hRslots
  obtain ⟨s', hA⟩ : ∃ z, z = (T.setVm s.vm).setFrames (.invoking m args :: below) := ⟨_, rfl⟩
  rw [← hA] at Y0
  have hvm : s'.vm = s.vm := by rw [hA]; rfl
  have hhp : s'.heap = H := by rw [hA]; exact hT
  have hW0 : s.WarmedH s'.vm := by rw [hvm]; exact State.WarmedH.refl s
  have hat' : ∀ w ∈ (nx_at own ic cls Y ix rx names).filter vx_no, w.before args s' = true := fun w hw => vx_ot_at hW0 hvm.symm (hgood w (List.mem_cons_of_mem _ (List.mem_cons_of_mem _ hw))) (hat w hw)
  have hk' : (Cond.classLink own ik cls).before args s' = true := vx_ot_at hW0 hvm.symm (hgood _ List.mem_cons_self) hk
  have hini' : (Cond.initialized cls).before args s' = true := vx_ot_at hW0 hvm.symm (hgood _ (List.mem_cons_of_mem _ List.mem_cons_self)) hini
  have hU' : vx_Zq Bundle.tN "UNASSIGNED_STACK" Bundle.steD A s' s'.heap := by rw [hhp]; exact vx_Zq.moved hW0.alike (hU.kept hS.2.1)
  have hN' : vx_Zq Bundle.tN "SUPPRESSED_SENTINEL" Bundle.listD A s' s'.heap := by rw [hhp]; exact vx_Zq.moved hW0.alike (hN.kept hS.2.1)
  have h : ∀ w ∈ nx_at own ic cls Y ix rx names, w.before args s' = true := vx_own hat' (vx_isRefq hU'.1) (vx_isRefq hN'.1) hU'.2.word hN'.2.word
  have hown' : s'.vm.findClass own = some m.cls := by rw [hvm]; exact hown
  have hins : (Cond.instantiable cls 6).before args s' = true := h _ (List.mem_append_right _ (List.mem_append_right _ (List.mem_append_right _ (List.mem_append_right _ (by simp [nx_tail])))))
  obtain ⟨vm₁, cX, kX, hfX, hkX, -, -, X₁, st1⟩ := Y0.newCold hexec (own := own) (C := cls) (index := ik) (n := 6) hown' hk' hins hini' (g := F0 m pc ls rest) rfl (by rw [hb]; exact d0) (Nat.le_refl _) (Nat.le_refl _)
  generalize hT1 : (T.setVm vm₁).pushCell { cls := cX, slots := kX.instanceTypes.map defaultValue, vm := .none } = T1 at X₁ st1
  have hcat : (Value.ref T.heap.size).category = 1 := rfl
  have hcellA : T1.heap[T.heap.size]? = some (freshCell cX kX) := by rw [← hT1]; exact State.heap_pushCell_size _ _
  have d3' : decode c.code (pc + 3) = .ok (.dup, 1) := by rw [hb]; exact d3
  have d4' : decode c.code (pc + 4) = .ok (.ldc_w is, 3) := by rw [hb]; exact d4
  have hstr' : vk_R own is text sa s' := vk_R.warm hW0 hstr
  obtain ⟨V, hsteps, hrun, hend, hWv, hsame, ce, hce, hcev, hcec⟩ := nx_ctor X₁ hexec htr (own := own) (cls := cls) (Y := Y) (names := names) (ic := ic) x0 x1 x2 x5 hown' hcls hY hnames h (fun x hx => nomatch hx) hfX hkX hcellA (by rw [hhp, hT]; exact Nat.le_refl _) (msg := .ref sa) rfl
    (g := { method := m, pc := pc + 7, locals := ls, stack := .ref sa :: .ref T.heap.size :: .ref T.heap.size :: rest, locked := none }) rfl hsize rfl rfl (rest := rest) rfl (by rw [hb]; exact d6) (by rw [hb]; exact d9) hout hRframes (by
      simp only [List.map_cons, List.sum_cons, hcat]
      show 2 * 0 + _ + _ ≤ R.locals
      omega) hlocks
  obtain ⟨f1, f2⟩ := vx_frame hsame
  rw [hhp] at f1 f2
  have hWs : s.WarmedH V.vm := State.WarmedH.trans hW0 hWv
  have hcl : s.vm.findClass cls = some ce.cls := by rw [hvm] at hcec; exact hcec
  have hall : s.sameButNew ({ V with vm := s.vm } : State) locs mc ms := by
    subst hA
    obtain ⟨e1, e2⟩ := hsame
    rw [State.setFrames_setFrames] at e1
    have h2 : (T.setVm s.vm).sameButNew ({ V with vm := s.vm } : State) [] (0 + 1) (0 + 6) := ⟨e1, e2⟩
    have h3 := X.same.trans h2
    rw [List.append_nil] at h3
    exact h3.mono hc hs
  refine ⟨V, ?_, .threw T.heap.size, hrun, hend, Or.inr ⟨T.heap.size, rfl, cls, ce, locs, hx V hWs.alike f1 (fun q hq => f2 q hq (fun z hz => nomatch hz)), hce, hcev, hcl, hWs, hall, hf⟩⟩
  refine st1 _ ?_
  show Steps p.tables e below (T1.setTop { method := m, pc := pc + 3, locals := ls, stack := .ref T.heap.size :: rest, locked := none }) _
  jvm_step X₁.here [X₁.here.top, hexec, d3', Value.category]
  exact X₁.ldcStringW hexec (own := own) (text := text) (index := is) (a := sa) hown' hstr'.1 hstr'.2 (g := { method := m, pc := pc + 4, locals := ls, stack := .ref T.heap.size :: .ref T.heap.size :: rest, locked := none }) rfl d4' _ hsteps

end NX2
section NX3
variable {Λ : Ls} {Γ : Cx} {X : MD} {d mc ms : Nat} {Q : Rv → Mem → Nat → Prop} {pc : Nat} {ls : List (Option aV)} {st : List aV} {M : Mem} {n kc ks : Nat}
def e_cTX (Λ : Ls) (own : String) (ik is ic : Nat) (cls : String) (names : List String) : Prop := ∃ (text : String) (sa : Nat) (Y : String) (ix : Nat) (rx : ByteArray), (decode rx 0 = .ok (.aload_n 0, 1) ∧ decode rx 1 = .ok (.aload_n 1, 1) ∧ decode rx 2 = .ok (.invokespecial ix, 3) ∧ decode rx 5 = .ok (.return_, 1)) ∧ Bundle.fit cls = true ∧ Bundle.fit Y = true ∧ (∀ n ∈ names, Bundle.fit n = true) ∧ names.length ≤ 5 ∧ Cond.classLink own ik cls ∈ e_WS ∧ Cond.initialized cls ∈ e_WS ∧ (own, is, text, sa) ∈ Λ.2.1 ∧
  (∀ w ∈ (nx_at own ic cls Y ix rx names).filter vx_no, w ∈ e_WS ∨ (w ∈ Λ.2.2.1 ∧ e_mv w = true)) ∧ ∀ w ∈ Cond.classLink own ik cls :: Cond.initialized cls :: (nx_at own ic cls Y ix rx names).filter vx_no, vx_ot w = true

theorem g_throwX (i : Nat) {ik is ic : Nat} {cls : String} {names : List String} {p1 p2 p3 p4 p5 : Nat} (hl : e_cTX Λ X.own ik is ic cls names) (hd0 : X.tb[i]? = some (pc, .new ik, p1)) (hd1 : X.tb[i + 1]? = some (p1, .dup, p2)) (hd2 : X.tb[i + 2]? = some (p2, .ldc is, p3)) (hd3 : X.tb[i + 3]? = some (p3, .invokespecial ic, p4)) (hd4 : X.tb[i + 4]? = some (p4, .athrow, p5)) (hh : X.hh = []) (hst : e_sum st ≤ 8) (hkc : kc + 1 ≤ mc) (hks : ks + 6 ≤ ms) (hQ : Q (.inr cls) M n) : G Λ Γ X d mc ms Q pc ls st M n kc ks := by
  intro hE p e R s m args below meth c H locs ad ad0 n0 lsA hF h1 h2 hX hW hS hL hs
  obtain ⟨text, sa, Y, ix, rx, ⟨x0, x1, x2, x5⟩, hft, hfY, hfn, hnl, hcl, hini, hstr, hat, hgood⟩ := hl
  obtain ⟨e0, rfl⟩ := e_dec hF.1 hd0
  obtain ⟨e1, rfl⟩ := e_dec hF.1 hd1
  obtain ⟨e2, rfl⟩ := e_dec hF.1 hd2
  obtain ⟨e3, rfl⟩ := e_dec hF.1 hd3
  obtain ⟨e4, rfl⟩ := e_dec hF.1 hd4
  obtain ⟨-, hR⟩ := hE.2.2.2.2.2.1 _ hstr
  have hU := hE.2.2.2.2.2.2.2.2.1
  have hN := hE.2.2.2.2.2.2.2.2.2.1
  refine nx_throwS hF.1.1 hF.1.2.1 hE.1 x0 x1 x2 x5 hF.1.2.2.2.2.2.1 hft hfY hfn (e_w hF hcl) (e_w hF hini) (vk_R.warm hF.2.1 hR) (fun w hw => ?_) hgood ((vx_Zq.moved hF.2.1.alike hU).kept (e_old hF)) ((vx_Zq.moved hF.2.1.alike hN).kept (e_old hF)) hS (hL.2.1.1.trans hF.1.2.2.1.symm) e0 e1 e2 e3 e4 (fun x hx => ?_) ?_ ?_ (Nat.le_trans hkc hF.2.2.1.2.2.1) (Nat.le_trans hks hF.2.2.1.2.2.2) hF.1.2.2.2.2.1 (fun t _ hsz hk => ?_) hS.2.2 hkc hks
  · rcases hat w hw with h | ⟨h, h9⟩
    · exact e_w hF h
    · exact e_mv_ok h9 hF.2.1 (hE.2.2.2.2.2.2.1 _ h)
  · rw [hF.1.2.2.2.2.2.2.2.1, hh] at hx
    cases hx
  · have := hF.2.2.1.1
    omega
  · have := hF.2.2.1.2.1
    rw [e_sum_eq]
    omega
  · refine ⟨M, n, ad, hQ, hX, hW.1, hW.2.1, hW.2.2.1, va_P.kept hW.2.2.2.1 (fun k q hq => hk _ ((hW.2.2.2.1 k q hq).lt)), hW.2.2.2.2.1, Nat.le_trans hW.2.2.2.2.2.1 hsz, fun q hq => ?_⟩
    rw [hk q (Nat.lt_of_lt_of_le hq hW.2.2.2.2.2.1), e_Wp_old hW q hq]

theorem g_throwXW (i : Nat) {ik is ic : Nat} {cls : String} {names : List String} {p1 p2 p3 p4 p5 : Nat} (hl : e_cTX Λ X.own ik is ic cls names) (hd0 : X.tb[i]? = some (pc, .new ik, p1)) (hd1 : X.tb[i + 1]? = some (p1, .dup, p2)) (hd2 : X.tb[i + 2]? = some (p2, .ldc_w is, p3)) (hd3 : X.tb[i + 3]? = some (p3, .invokespecial ic, p4)) (hd4 : X.tb[i + 4]? = some (p4, .athrow, p5)) (hh : X.hh = []) (hst : e_sum st ≤ 8) (hkc : kc + 1 ≤ mc) (hks : ks + 6 ≤ ms) (hQ : Q (.inr cls) M n) : G Λ Γ X d mc ms Q pc ls st M n kc ks := by
  intro hE p e R s m args below meth c H locs ad ad0 n0 lsA hF h1 h2 hX hW hS hL hs
  obtain ⟨text, sa, Y, ix, rx, ⟨x0, x1, x2, x5⟩, hft, hfY, hfn, hnl, hcl, hini, hstr, hat, hgood⟩ := hl
  obtain ⟨e0, rfl⟩ := e_dec hF.1 hd0
  obtain ⟨e1, rfl⟩ := e_dec hF.1 hd1
  obtain ⟨e2, rfl⟩ := e_dec hF.1 hd2
  obtain ⟨e3, rfl⟩ := e_dec hF.1 hd3
  obtain ⟨e4, rfl⟩ := e_dec hF.1 hd4
  obtain ⟨-, hR⟩ := hE.2.2.2.2.2.1 _ hstr
  have hU := hE.2.2.2.2.2.2.2.2.1
  have hN := hE.2.2.2.2.2.2.2.2.2.1
  refine nx_throwSW hF.1.1 hF.1.2.1 hE.1 x0 x1 x2 x5 hF.1.2.2.2.2.2.1 hft hfY hfn (e_w hF hcl) (e_w hF hini) (vk_R.warm hF.2.1 hR) (fun w hw => ?_) hgood ((vx_Zq.moved hF.2.1.alike hU).kept (e_old hF)) ((vx_Zq.moved hF.2.1.alike hN).kept (e_old hF)) hS (hL.2.1.1.trans hF.1.2.2.1.symm) e0 e1 e2 e3 e4 (fun x hx => ?_) ?_ ?_ (Nat.le_trans hkc hF.2.2.1.2.2.1) (Nat.le_trans hks hF.2.2.1.2.2.2) hF.1.2.2.2.2.1 (fun t _ hsz hk => ?_) hS.2.2 hkc hks
  · rcases hat w hw with h | ⟨h, h9⟩
    · exact e_w hF h
    · exact e_mv_ok h9 hF.2.1 (hE.2.2.2.2.2.2.1 _ h)
  · rw [hF.1.2.2.2.2.2.2.2.1, hh] at hx
    cases hx
  · have := hF.2.2.1.1
    omega
  · have := hF.2.2.1.2.1
    rw [e_sum_eq]
    omega
  · refine ⟨M, n, ad, hQ, hX, hW.1, hW.2.1, hW.2.2.1, va_P.kept hW.2.2.2.1 (fun k q hq => hk _ ((hW.2.2.2.1 k q hq).lt)), hW.2.2.2.2.1, Nat.le_trans hW.2.2.2.2.2.1 hsz, fun q hq => ?_⟩
    rw [hk q (Nat.lt_of_lt_of_le hq hW.2.2.2.2.2.1), e_Wp_old hW q hq]

end NX3
end
section
/-! PRINTED by wip/whole/gen/mk_tabs.py: the methods, their instructions -/
def mX2_init : MD := (RX2, (yX2_init, (cX2_init, (2, (none, ([], [(0, .aload_n 0, 1), (1, .invokespecial 3, 4), (4, .aload_n 0, 5), (5, .bipush 8, 7), (7, .anewarray 9, 10), (10, .putfield 11, 13), (13, .aload_n 0, 14), (14, .iconst 0, 15), (15, .putfield 17, 18), (18, .aload_n 0, 19), (19, .iconst 0, 20), (20, .putfield 21, 23), (23, .iconst 0, 24), (24, .istore_n 1, 25), (25, .iload_n 1, 26), (26, .bipush 8, 28), (28, .if_icmp .ge 22, 31), (31, .aload_n 0, 32), (32, .getfield 11, 35), (35, .iload_n 1, 36), (36, .new 9, 39), (39, .dup, 40), (40, .invokespecial 24, 43), (43, .aastore, 44), (44, .iinc 1 1, 47), (47, .goto (-22), 50), (50, .return_, 51)]))))))
theorem ok_X2_init : e_ok mX2_init := ⟨by decide +kernel, rfl, by decide +kernel⟩
def mX2_push : MD := (RX2, (yX2_push, (cX2_push, (2, (none, ([], [(0, .aload_n 0, 1), (1, .getfield 21, 4), (4, .bipush 8, 6), (6, .if_icmp .ne 26, 9), (9, .aload_n 0, 10), (10, .aload_n 0, 11), (11, .getfield 17, 14), (14, .iconst 1, 15), (15, .iadd, 16), (16, .bipush 8, 18), (18, .irem, 19), (19, .putfield 17, 22), (22, .aload_n 0, 23), (23, .dup, 24), (24, .getfield 21, 27), (27, .iconst 1, 28), (28, .isub, 29), (29, .putfield 21, 32), (32, .aload_n 0, 33), (33, .getfield 11, 36), (36, .aload_n 0, 37), (37, .getfield 17, 40), (40, .aload_n 0, 41), (41, .getfield 21, 44), (44, .iadd, 45), (45, .bipush 8, 47), (47, .irem, 48), (48, .aaload, 49), (49, .aload_n 1, 50), (50, .invokevirtual 25, 53), (53, .aload_n 0, 54), (54, .dup, 55), (55, .getfield 21, 58), (58, .iconst 1, 59), (59, .iadd, 60), (60, .putfield 21, 63), (63, .return_, 64)]))))))
theorem ok_X2_push : e_ok mX2_push := ⟨by decide +kernel, rfl, by decide +kernel⟩
def mX2_popInto : MD := (RX2, (yX2_popInto, (cX2_popInto, (2, (none, ([], [(0, .aload_n 0, 1), (1, .getfield 21, 4), (4, .ifCond .le 34, 7), (7, .aload_n 0, 8), (8, .dup, 9), (9, .getfield 21, 12), (12, .iconst 1, 13), (13, .isub, 14), (14, .putfield 21, 17), (17, .aload_n 1, 18), (18, .aload_n 0, 19), (19, .getfield 11, 22), (22, .aload_n 0, 23), (23, .getfield 17, 26), (26, .aload_n 0, 27), (27, .getfield 21, 30), (30, .iadd, 31), (31, .bipush 8, 33), (33, .irem, 34), (34, .aaload, 35), (35, .invokevirtual 25, 38), (38, .return_, 39)]))))))
theorem ok_X2_popInto : e_ok mX2_popInto := ⟨by decide +kernel, rfl, by decide +kernel⟩
def mX3_init : MD := (RX3, (yX3_init, (cX3_init, (2, (none, ([], [(0, .aload_n 0, 1), (1, .invokespecial 3, 4), (4, .aload_n 0, 5), (5, .bipush 6, 7), (7, .anewarray 9, 10), (10, .putfield 11, 13), (13, .aload_n 0, 14), (14, .iconst 2, 15), (15, .newarray .int, 17), (17, .putfield 17, 20), (20, .aload_n 0, 21), (21, .iconst 2, 22), (22, .newarray .int, 24), (24, .putfield 21, 27), (27, .aload_n 0, 28), (28, .bipush 10, 30), (30, .newarray .int, 32), (32, .putfield 24, 35), (35, .aload_n 0, 36), (36, .bipush 10, 38), (38, .newarray .boolean, 40), (40, .putfield 27, 43), (43, .aload_n 0, 44), (44, .iconst 0, 45), (45, .putfield 31, 48), (48, .aload_n 0, 49), (49, .iconst 0, 50), (50, .putfield 35, 53), (53, .aload_n 0, 54), (54, .iconst 0, 55), (55, .putfield 38, 58), (58, .aload_n 0, 59), (59, .iconst 0, 60), (60, .putfield 41, 63), (63, .aload_n 0, 64), (64, .iconst 0, 65), (65, .putfield 44, 68), (68, .aload_n 0, 69), (69, .iconst 0, 70), (70, .putfield 47, 73), (73, .aload_n 0, 74), (74, .iconst 0, 75), (75, .putfield 50, 78), (78, .aload_n 0, 79), (79, .iconst 0, 80), (80, .putfield 53, 83), (83, .aload_n 0, 84), (84, .iconst 0, 85), (85, .putfield 56, 88), (88, .iconst 0, 89), (89, .istore_n 1, 90), (90, .iload_n 1, 91), (91, .bipush 6, 93), (93, .if_icmp .ge 22, 96), (96, .aload_n 0, 97), (97, .getfield 11, 100), (100, .iload_n 1, 101), (101, .new 9, 104), (104, .dup, 105), (105, .invokespecial 59, 108), (108, .aastore, 109), (109, .iinc 1 1, 112), (112, .goto (-22), 115), (115, .iconst 0, 116), (116, .istore_n 1, 117), (117, .iload_n 1, 118), (118, .iconst 2, 119), (119, .if_icmp .ge 16, 122), (122, .aload_n 0, 123), (123, .getfield 17, 126), (126, .iload_n 1, 127), (127, .iconst (-1), 128), (128, .iastore, 129), (129, .iinc 1 1, 132), (132, .goto (-15), 135), (135, .return_, 136)]))))))
theorem ok_X3_init : e_ok mX3_init := ⟨by decide +kernel, rfl, by decide +kernel⟩
def mX3_copyFrom : MD := (RX3, (yX3_copyFrom, (cX3_copyFrom, (3, (none, ([], [(0, .iconst 0, 1), (1, .istore_n 2, 2), (2, .iload_n 2, 3), (3, .bipush 6, 5), (5, .if_icmp .ge 24, 8), (8, .aload_n 0, 9), (9, .getfield 11, 12), (12, .iload_n 2, 13), (13, .aaload, 14), (14, .aload_n 1, 15), (15, .getfield 11, 18), (18, .iload_n 2, 19), (19, .aaload, 20), (20, .invokevirtual 60, 23), (23, .iinc 2 1, 26), (26, .goto (-24), 29), (29, .aload_n 1, 30), (30, .getfield 17, 33), (33, .iconst 0, 34), (34, .aload_n 0, 35), (35, .getfield 17, 38), (38, .iconst 0, 39), (39, .iconst 2, 40), (40, .invokestatic 64, 43), (43, .aload_n 1, 44), (44, .getfield 21, 47), (47, .iconst 0, 48), (48, .aload_n 0, 49), (49, .getfield 21, 52), (52, .iconst 0, 53), (53, .iconst 2, 54), (54, .invokestatic 64, 57), (57, .iconst 0, 58), (58, .istore_n 2, 59), (59, .iload_n 2, 60), (60, .bipush 10, 62), (62, .if_icmp .ge 33, 65), (65, .aload_n 0, 66), (66, .getfield 24, 69), (69, .iload_n 2, 70), (70, .aload_n 1, 71), (71, .getfield 24, 74), (74, .iload_n 2, 75), (75, .iaload, 76), (76, .iastore, 77), (77, .aload_n 0, 78), (78, .getfield 27, 81), (81, .iload_n 2, 82), (82, .aload_n 1, 83), (83, .getfield 27, 86), (86, .iload_n 2, 87), (87, .baload, 88), (88, .bastore, 89), (89, .iinc 2 1, 92), (92, .goto (-33), 95), (95, .aload_n 0, 96), (96, .aload_n 1, 97), (97, .getfield 31, 100), (100, .putfield 31, 103), (103, .aload_n 0, 104), (104, .aload_n 1, 105), (105, .getfield 35, 108), (108, .putfield 35, 111), (111, .aload_n 0, 112), (112, .aload_n 1, 113), (113, .getfield 38, 116), (116, .putfield 38, 119), (119, .aload_n 0, 120), (120, .aload_n 1, 121), (121, .getfield 41, 124), (124, .putfield 41, 127), (127, .aload_n 0, 128), (128, .aload_n 1, 129), (129, .getfield 44, 132), (132, .putfield 44, 135), (135, .aload_n 0, 136), (136, .aload_n 1, 137), (137, .getfield 47, 140), (140, .putfield 47, 143), (143, .aload_n 0, 144), (144, .aload_n 1, 145), (145, .getfield 50, 148), (148, .putfield 50, 151), (151, .aload_n 0, 152), (152, .aload_n 1, 153), (153, .getfield 53, 156), (156, .putfield 53, 159), (159, .aload_n 0, 160), (160, .aload_n 1, 161), (161, .getfield 56, 164), (164, .putfield 56, 167), (167, .return_, 168)]))))))
theorem ok_X3_copyFrom : e_ok mX3_copyFrom := ⟨by decide +kernel, rfl, by decide +kernel⟩
def mX3_hasDoor : MD := (RX3, (yX3_hasDoor, (cX3_hasDoor, (2, (some .boolean, ([], [(0, .iload_n 1, 1), (1, .ifCond .lt 15, 4), (4, .iload_n 1, 5), (5, .aload_n 0, 6), (6, .getfield 31, 9), (9, .if_icmp .ge 7, 12), (12, .iconst 1, 13), (13, .goto 4, 16), (16, .iconst 0, 17), (17, .ireturn, 18)]))))))
theorem ok_X3_hasDoor : e_ok mX3_hasDoor := ⟨by decide +kernel, rfl, by decide +kernel⟩
def mX3_isInOven : MD := (RX3, (yX3_isInOven, (cX3_isInOven, (3, (some .boolean, ([], [(0, .iconst 0, 1), (1, .istore_n 2, 2), (2, .iload_n 2, 3), (3, .iconst 2, 4), (4, .if_icmp .ge 21, 7), (7, .aload_n 0, 8), (8, .getfield 17, 11), (11, .iload_n 2, 12), (12, .iaload, 13), (13, .iload_n 1, 14), (14, .if_icmp .ne 5, 17), (17, .iconst 1, 18), (18, .ireturn, 19), (19, .iinc 2 1, 22), (22, .goto (-20), 25), (25, .iconst 0, 26), (26, .ireturn, 27)]))))))
theorem ok_X3_isInOven : e_ok mX3_isInOven := ⟨by decide +kernel, rfl, by decide +kernel⟩
theorem dw_X3_refusalOf_8 : decode cX3_refusalOf 8 = .ok (.tableswitch 112 1 7 #[44, 53, 62, 68, 74, 94, 101], 44) := by decide +kernel
def mX3_refusalOf : MD := (RX3, (yX3_refusalOf, (cX3_refusalOf, (6, (some (.object "BiscuitLocks$Refusal"), ([], [(0, .getstatic 70, 3), (3, .aload_n 1, 4), (4, .invokevirtual 75, 7), (7, .iaload, 8), (52, .aload_n 0, 53), (53, .iload_n 2, 54), (54, .iload_n 3, 55), (55, .iload 4, 57), (57, .invokevirtual 81, 60), (60, .areturn, 61), (61, .aload_n 0, 62), (62, .iload_n 2, 63), (63, .iload_n 3, 64), (64, .iload 4, 66), (66, .invokevirtual 85, 69), (69, .areturn, 70), (70, .aload_n 0, 71), (71, .iload_n 2, 72), (72, .invokevirtual 88, 75), (75, .areturn, 76), (76, .aload_n 0, 77), (77, .iload_n 2, 78), (78, .invokevirtual 92, 81), (81, .areturn, 82), (82, .iload_n 2, 83), (83, .ifCond .lt 9, 86), (86, .iload_n 2, 87), (87, .bipush 9, 89), (89, .if_icmp .le 9, 92), (92, .getstatic 95, 95), (95, .goto 6, 98), (98, .getstatic 101, 101), (101, .areturn, 102), (102, .aload_n 0, 103), (103, .iload_n 2, 104), (104, .iload_n 3, 105), (105, .invokevirtual 104, 108), (108, .areturn, 109), (109, .aload_n 0, 110), (110, .iload_n 2, 111), (111, .iload_n 3, 112), (112, .iload 4, 114), (114, .iload 5, 116), (116, .invokevirtual 108, 119), (119, .areturn, 120), (120, .iload_n 2, 121), (121, .iconst 1, 122), (122, .if_icmp .lt 9, 125), (125, .iload_n 2, 126), (126, .bipush 60, 128), (128, .if_icmp .le 9, 131), (131, .getstatic 95, 134), (134, .goto 6, 137), (137, .getstatic 101, 140), (140, .areturn, 141)]))))))
theorem ok_X3_refusalOf : e_ok mX3_refusalOf := ⟨by decide +kernel, rfl, by decide +kernel⟩
def mX3_refusalOfDoor : MD := (RX3, (yX3_refusalOfDoor, (cX3_refusalOfDoor, (4, (some (.object "BiscuitLocks$Refusal"), ([], [(0, .iload_n 1, 1), (1, .iload_n 2, 2), (2, .iload_n 3, 3), (3, .invokestatic 112, 6), (6, .ifCond .eq 7, 9), (9, .getstatic 95, 12), (12, .areturn, 13), (13, .aload_n 0, 14), (14, .getfield 31, 17), (17, .bipush 6, 19), (19, .if_icmp .lt 9, 22), (22, .getstatic 116, 25), (25, .goto 6, 28), (28, .getstatic 101, 31), (31, .areturn, 32)]))))))
theorem ok_X3_refusalOfDoor : e_ok mX3_refusalOfDoor := ⟨by decide +kernel, rfl, by decide +kernel⟩
def mX3_refusalOfTurn : MD := (RX3, (yX3_refusalOfTurn, (cX3_refusalOfTurn, (4, (some (.object "BiscuitLocks$Refusal"), ([], [(0, .aload_n 0, 1), (1, .iload_n 1, 2), (2, .invokevirtual 119, 5), (5, .ifCond .eq 10, 8), (8, .iload_n 2, 9), (9, .invokestatic 123, 12), (12, .ifCond .ne 7, 15), (15, .getstatic 126, 18), (18, .areturn, 19), (19, .iload_n 3, 20), (20, .bipush (-9), 22), (22, .if_icmp .lt 9, 25), (25, .iload_n 3, 26), (26, .bipush 9, 28), (28, .if_icmp .le 7, 31), (31, .getstatic 95, 34), (34, .areturn, 35), (35, .aload_n 0, 36), (36, .iload_n 1, 37), (37, .invokevirtual 129, 40), (40, .ifCond .eq 9, 43), (43, .getstatic 116, 46), (46, .goto 6, 49), (49, .getstatic 101, 52), (52, .areturn, 53)]))))))
theorem ok_X3_refusalOfTurn : e_ok mX3_refusalOfTurn := ⟨by decide +kernel, rfl, by decide +kernel⟩
def mX3_refusalOfTry : MD := (RX3, (yX3_refusalOfTry, (cX3_refusalOfTry, (2, (some (.object "BiscuitLocks$Refusal"), ([], [(0, .aload_n 0, 1), (1, .iload_n 1, 2), (2, .invokevirtual 119, 5), (5, .ifCond .ne 7, 8), (8, .getstatic 126, 11), (11, .areturn, 12), (12, .aload_n 0, 13), (13, .getfield 11, 16), (16, .iload_n 1, 17), (17, .aaload, 18), (18, .getfield 132, 21), (21, .ifCond .eq 9, 24), (24, .getstatic 116, 27), (27, .goto 6, 30), (30, .getstatic 101, 33), (33, .areturn, 34)]))))))
theorem ok_X3_refusalOfTry : e_ok mX3_refusalOfTry := ⟨by decide +kernel, rfl, by decide +kernel⟩
def mX3_refusalOfShut : MD := (RX3, (yX3_refusalOfShut, (cX3_refusalOfShut, (2, (some (.object "BiscuitLocks$Refusal"), ([], [(0, .aload_n 0, 1), (1, .iload_n 1, 2), (2, .invokevirtual 119, 5), (5, .ifCond .ne 7, 8), (8, .getstatic 126, 11), (11, .areturn, 12), (12, .aload_n 0, 13), (13, .getfield 11, 16), (16, .iload_n 1, 17), (17, .aaload, 18), (18, .getfield 132, 21), (21, .ifCond .eq 11, 24), (24, .aload_n 0, 25), (25, .iload_n 1, 26), (26, .invokevirtual 129, 29), (29, .ifCond .eq 7, 32), (32, .getstatic 116, 35), (35, .areturn, 36), (36, .aload_n 0, 37), (37, .getfield 11, 40), (40, .iload_n 1, 41), (41, .aaload, 42), (42, .invokevirtual 136, 45), (45, .ifCond .eq 9, 48), (48, .getstatic 140, 51), (51, .goto 6, 54), (54, .getstatic 101, 57), (57, .areturn, 58)]))))))
theorem ok_X3_refusalOfShut : e_ok mX3_refusalOfShut := ⟨by decide +kernel, rfl, by decide +kernel⟩
def mX3_refusalOfBake : MD := (RX3, (yX3_refusalOfBake, (cX3_refusalOfBake, (3, (some (.object "BiscuitLocks$Refusal"), ([], [(0, .aload_n 0, 1), (1, .iload_n 1, 2), (2, .invokevirtual 119, 5), (5, .ifCond .eq 10, 8), (8, .iload_n 2, 9), (9, .invokestatic 143, 12), (12, .ifCond .ne 7, 15), (15, .getstatic 126, 18), (18, .areturn, 19), (19, .aload_n 0, 20), (20, .iload_n 1, 21), (21, .invokevirtual 129, 24), (24, .ifCond .eq 7, 27), (27, .getstatic 116, 30), (30, .areturn, 31), (31, .aload_n 0, 32), (32, .getfield 17, 35), (35, .iload_n 2, 36), (36, .iaload, 37), (37, .iconst (-1), 38), (38, .if_icmp .ne 9, 41), (41, .getstatic 101, 44), (44, .goto 6, 47), (47, .getstatic 140, 50), (50, .areturn, 51)]))))))
theorem ok_X3_refusalOfBake : e_ok mX3_refusalOfBake := ⟨by decide +kernel, rfl, by decide +kernel⟩
def mX3_refusalOfSet : MD := (RX3, (yX3_refusalOfSet, (cX3_refusalOfSet, (5, (some (.object "BiscuitLocks$Refusal"), ([], [(0, .aload_n 0, 1), (1, .iload_n 1, 2), (2, .invokevirtual 119, 5), (5, .ifCond .ne 7, 8), (8, .getstatic 126, 11), (11, .areturn, 12), (12, .iload_n 2, 13), (13, .iload_n 3, 14), (14, .iload 4, 16), (16, .invokestatic 112, 19), (19, .ifCond .eq 7, 22), (22, .getstatic 95, 25), (25, .areturn, 26), (26, .aload_n 0, 27), (27, .getfield 11, 30), (30, .iload_n 1, 31), (31, .aaload, 32), (32, .getfield 132, 35), (35, .ifCond .eq 11, 38), (38, .aload_n 0, 39), (39, .iload_n 1, 40), (40, .invokevirtual 129, 43), (43, .ifCond .eq 9, 46), (46, .getstatic 116, 49), (49, .goto 6, 52), (52, .getstatic 101, 55), (55, .areturn, 56)]))))))
theorem ok_X3_refusalOfSet : e_ok mX3_refusalOfSet := ⟨by decide +kernel, rfl, by decide +kernel⟩
theorem dw_X3_carryOut_8 : decode cX3_carryOut 8 = .ok (.tableswitch 133 1 7 #[44, 53, 66, 80, 105, 111, 118], 44) := by decide +kernel
def mX3_carryOut : MD := (RX3, (yX3_carryOut, (cX3_carryOut, (6, (some .int, ([], [(0, .getstatic 70, 3), (3, .aload_n 1, 4), (4, .invokevirtual 75, 7), (7, .iaload, 8), (52, .aload_n 0, 53), (53, .iload_n 2, 54), (54, .iload_n 3, 55), (55, .iload 4, 57), (57, .invokevirtual 146, 60), (60, .ireturn, 61), (61, .aload_n 0, 62), (62, .getfield 11, 65), (65, .iload_n 2, 66), (66, .aaload, 67), (67, .iload_n 3, 68), (68, .iload 4, 70), (70, .invokevirtual 150, 73), (73, .ireturn, 74), (74, .aload_n 0, 75), (75, .iload_n 2, 76), (76, .invokevirtual 154, 79), (79, .ifCond .eq 7, 82), (82, .iconst 1, 83), (83, .goto 4, 86), (86, .iconst 0, 87), (87, .ireturn, 88), (88, .aload_n 0, 89), (89, .getfield 11, 92), (92, .iload_n 2, 93), (93, .aaload, 94), (94, .iconst 0, 95), (95, .putfield 132, 98), (98, .aload_n 0, 99), (99, .dup, 100), (100, .getfield 50, 103), (103, .iconst 1, 104), (104, .iadd, 105), (105, .putfield 50, 108), (108, .aload_n 0, 109), (109, .invokevirtual 157, 112), (112, .ireturn, 113), (113, .aload_n 0, 114), (114, .iload_n 2, 115), (115, .invokevirtual 160, 118), (118, .ireturn, 119), (119, .aload_n 0, 120), (120, .iload_n 2, 121), (121, .iload_n 3, 122), (122, .invokevirtual 164, 125), (125, .ireturn, 126), (126, .aload_n 0, 127), (127, .getfield 11, 130), (130, .iload_n 2, 131), (131, .aaload, 132), (132, .iload_n 3, 133), (133, .iload 4, 135), (135, .iload 5, 137), (137, .invokevirtual 167, 140), (140, .ireturn, 141), (141, .aload_n 0, 142), (142, .iload_n 2, 143), (143, .invokevirtual 170, 146), (146, .ireturn, 147)]))))))
theorem ok_X3_carryOut : e_ok mX3_carryOut := ⟨by decide +kernel, rfl, by decide +kernel⟩
def mX3_addLock : MD := (RX3, (yX3_addLock, (cX3_addLock, (4, (some .int, ([], [(0, .aload_n 0, 1), (1, .getfield 11, 4), (4, .aload_n 0, 5), (5, .getfield 31, 8), (8, .aaload, 9), (9, .iload_n 1, 10), (10, .iload_n 2, 11), (11, .iload_n 3, 12), (12, .invokevirtual 167, 15), (15, .pop, 16), (16, .aload_n 0, 17), (17, .dup, 18), (18, .getfield 31, 21), (21, .iconst 1, 22), (22, .iadd, 23), (23, .putfield 31, 26), (26, .aload_n 0, 27), (27, .getfield 31, 30), (30, .iconst 1, 31), (31, .isub, 32), (32, .ireturn, 33)]))))))
theorem ok_X3_addLock : e_ok mX3_addLock := ⟨by decide +kernel, rfl, by decide +kernel⟩
def mX3_tryDoor : MD := (RX3, (yX3_tryDoor, (cX3_tryDoor, (4, (some .boolean, ([], [(0, .aload_n 0, 1), (1, .getfield 11, 4), (4, .iload_n 1, 5), (5, .aaload, 6), (6, .invokevirtual 173, 9), (9, .istore_n 2, 10), (10, .aload_n 0, 11), (11, .dup, 12), (12, .getfield 41, 15), (15, .iconst 1, 16), (16, .iadd, 17), (17, .putfield 41, 20), (20, .iload_n 2, 21), (21, .ifCond .eq 16, 24), (24, .aload_n 0, 25), (25, .dup, 26), (26, .getfield 44, 29), (29, .iconst 1, 30), (30, .iadd, 31), (31, .putfield 44, 34), (34, .goto 25, 37), (37, .aload_n 0, 38), (38, .getfield 11, 41), (41, .iload_n 1, 42), (42, .aaload, 43), (43, .getfield 132, 46), (46, .ifCond .eq 13, 49), (49, .aload_n 0, 50), (50, .dup, 51), (51, .getfield 47, 54), (54, .iconst 1, 55), (55, .iadd, 56), (56, .putfield 47, 59), (59, .bipush 9, 61), (61, .istore_n 3, 62), (62, .iload_n 3, 63), (63, .ifCond .le 37, 66), (66, .aload_n 0, 67), (67, .getfield 24, 70), (70, .iload_n 3, 71), (71, .aload_n 0, 72), (72, .getfield 24, 75), (75, .iload_n 3, 76), (76, .iconst 1, 77), (77, .isub, 78), (78, .iaload, 79), (79, .iastore, 80), (80, .aload_n 0, 81), (81, .getfield 27, 84), (84, .iload_n 3, 85), (85, .aload_n 0, 86), (86, .getfield 27, 89), (89, .iload_n 3, 90), (90, .iconst 1, 91), (91, .isub, 92), (92, .baload, 93), (93, .bastore, 94), (94, .iinc 3 (-1), 97), (97, .goto (-35), 100), (100, .aload_n 0, 101), (101, .getfield 24, 104), (104, .iconst 0, 105), (105, .iload_n 1, 106), (106, .iastore, 107), (107, .aload_n 0, 108), (108, .getfield 27, 111), (111, .iconst 0, 112), (112, .iload_n 2, 113), (113, .bastore, 114), (114, .iload_n 2, 115), (115, .ireturn, 116)]))))))
theorem ok_X3_tryDoor : e_ok mX3_tryDoor := ⟨by decide +kernel, rfl, by decide +kernel⟩
def mX3_replaceDamp : MD := (RX3, (yX3_replaceDamp, (cX3_replaceDamp, (3, (some .int, ([], [(0, .aload_n 0, 1), (1, .getfield 35, 4), (4, .istore_n 2, 5), (5, .aload_n 0, 6), (6, .iload_n 1, 7), (7, .putfield 35, 10), (10, .iload_n 2, 11), (11, .ireturn, 12)]))))))
theorem ok_X3_replaceDamp : e_ok mX3_replaceDamp := ⟨by decide +kernel, rfl, by decide +kernel⟩
def mX3_putIn : MD := (RX3, (yX3_putIn, (cX3_putIn, (3, (some .int, ([], [(0, .aload_n 0, 1), (1, .getfield 11, 4), (4, .iload_n 1, 5), (5, .aaload, 6), (6, .getfield 132, 9), (9, .ifCond .ne 13, 12), (12, .aload_n 0, 13), (13, .dup, 14), (14, .getfield 53, 17), (17, .iconst 1, 18), (18, .iadd, 19), (19, .putfield 53, 22), (22, .aload_n 0, 23), (23, .getfield 11, 26), (26, .iload_n 1, 27), (27, .aaload, 28), (28, .iconst 1, 29), (29, .putfield 132, 32), (32, .aload_n 0, 33), (33, .getfield 17, 36), (36, .iload_n 2, 37), (37, .iload_n 1, 38), (38, .iastore, 39), (39, .aload_n 0, 40), (40, .getfield 21, 43), (43, .iload_n 2, 44), (44, .iconst 1, 45), (45, .aload_n 0, 46), (46, .getfield 11, 49), (49, .iload_n 1, 50), (50, .aaload, 51), (51, .getfield 176, 54), (54, .iconst 4, 55), (55, .idiv, 56), (56, .iadd, 57), (57, .iastore, 58), (58, .aload_n 0, 59), (59, .getfield 21, 62), (62, .iload_n 2, 63), (63, .iaload, 64), (64, .ireturn, 65)]))))))
theorem ok_X3_putIn : e_ok mX3_putIn := ⟨by decide +kernel, rfl, by decide +kernel⟩
def mX3_letHoursPass : MD := (RX3, (yX3_letHoursPass, (cX3_letHoursPass, (4, (some .int, ([], [(0, .aload_n 0, 1), (1, .getfield 56, 4), (4, .istore_n 2, 5), (5, .iconst 0, 6), (6, .istore_n 3, 7), (7, .iload_n 3, 8), (8, .iload_n 1, 9), (9, .if_icmp .ge 13, 12), (12, .aload_n 0, 13), (13, .invokevirtual 179, 16), (16, .iinc 3 1, 19), (19, .goto (-12), 22), (22, .aload_n 0, 23), (23, .getfield 56, 26), (26, .iload_n 2, 27), (27, .isub, 28), (28, .ireturn, 29)]))))))
theorem ok_X3_letHoursPass : e_ok mX3_letHoursPass := ⟨by decide +kernel, rfl, by decide +kernel⟩
def mX3_letHourPass : MD := (RX3, (yX3_letHourPass, (cX3_letHourPass, (2, (none, ([], [(0, .aload_n 0, 1), (1, .dup, 2), (2, .getfield 38, 5), (5, .iconst 1, 6), (6, .iadd, 7), (7, .putfield 38, 10), (10, .aload_n 0, 11), (11, .getfield 38, 14), (14, .bipush 10, 16), (16, .aload_n 0, 17), (17, .getfield 35, 20), (20, .isub, 21), (21, .irem, 22), (22, .ifCond .ne 13, 25), (25, .aload_n 0, 26), (26, .aload_n 0, 27), (27, .getfield 38, 30), (30, .iconst 3, 31), (31, .irem, 32), (32, .invokevirtual 182, 35), (35, .iconst 0, 36), (36, .istore_n 1, 37), (37, .iload_n 1, 38), (38, .iconst 2, 39), (39, .if_icmp .ge 14, 42), (42, .aload_n 0, 43), (43, .iload_n 1, 44), (44, .invokevirtual 186, 47), (47, .iinc 1 1, 50), (50, .goto (-13), 53), (53, .return_, 54)]))))))
theorem ok_X3_letHourPass : e_ok mX3_letHourPass := ⟨by decide +kernel, rfl, by decide +kernel⟩
def mX3_driftShutLocks : MD := (RX3, (yX3_driftShutLocks, (cX3_driftShutLocks, (3, (none, ([], [(0, .iconst 0, 1), (1, .istore_n 2, 2), (2, .iload_n 2, 3), (3, .aload_n 0, 4), (4, .getfield 31, 7), (7, .if_icmp .ge 33, 10), (10, .aload_n 0, 11), (11, .getfield 11, 14), (14, .iload_n 2, 15), (15, .aaload, 16), (16, .getfield 132, 19), (19, .ifCond .ne 15, 22), (22, .aload_n 0, 23), (23, .getfield 11, 26), (26, .iload_n 2, 27), (27, .aaload, 28), (28, .iload_n 1, 29), (29, .iconst 1, 30), (30, .invokevirtual 150, 33), (33, .pop, 34), (34, .iinc 2 1, 37), (37, .goto (-35), 40), (40, .return_, 41)]))))))
theorem ok_X3_driftShutLocks : e_ok mX3_driftShutLocks := ⟨by decide +kernel, rfl, by decide +kernel⟩
def mX3_bakeOn : MD := (RX3, (yX3_bakeOn, (cX3_bakeOn, (3, (none, ([], [(0, .aload_n 0, 1), (1, .getfield 17, 4), (4, .iload_n 1, 5), (5, .iaload, 6), (6, .istore_n 2, 7), (7, .iload_n 2, 8), (8, .iconst (-1), 9), (9, .if_icmp .ne 4, 12), (12, .return_, 13), (13, .aload_n 0, 14), (14, .getfield 21, 17), (17, .iload_n 1, 18), (18, .dup2, 19), (19, .iaload, 20), (20, .iconst 1, 21), (21, .isub, 22), (22, .iastore, 23), (23, .aload_n 0, 24), (24, .getfield 21, 27), (27, .iload_n 1, 28), (28, .iaload, 29), (29, .ifCond .ne 29, 32), (32, .aload_n 0, 33), (33, .getfield 11, 36), (36, .iload_n 2, 37), (37, .aaload, 38), (38, .invokevirtual 189, 41), (41, .aload_n 0, 42), (42, .getfield 17, 45), (45, .iload_n 1, 46), (46, .iconst (-1), 47), (47, .iastore, 48), (48, .aload_n 0, 49), (49, .dup, 50), (50, .getfield 56, 53), (53, .iconst 1, 54), (54, .iadd, 55), (55, .putfield 56, 58), (58, .return_, 59)]))))))
theorem ok_X3_bakeOn : e_ok mX3_bakeOn := ⟨by decide +kernel, rfl, by decide +kernel⟩
def mX3_countRemembered : MD := (RX3, (yX3_countRemembered, (cX3_countRemembered, (1, (some .int, ([], [(0, .aload_n 0, 1), (1, .getfield 41, 4), (4, .bipush 10, 6), (6, .invokestatic 192, 9), (9, .ireturn, 10)]))))))
theorem ok_X3_countRemembered : e_ok mX3_countRemembered := ⟨by decide +kernel, rfl, by decide +kernel⟩
def mX3_countShut : MD := (RX3, (yX3_countShut, (cX3_countShut, (3, (some .int, ([], [(0, .iconst 0, 1), (1, .istore_n 1, 2), (2, .iconst 0, 3), (3, .istore_n 2, 4), (4, .iload_n 2, 5), (5, .aload_n 0, 6), (6, .getfield 31, 9), (9, .if_icmp .ge 24, 12), (12, .aload_n 0, 13), (13, .getfield 11, 16), (16, .iload_n 2, 17), (17, .aaload, 18), (18, .getfield 132, 21), (21, .ifCond .ne 6, 24), (24, .iinc 1 1, 27), (27, .iinc 2 1, 30), (30, .goto (-26), 33), (33, .iload_n 1, 34), (34, .ireturn, 35)]))))))
theorem ok_X3_countShut : e_ok mX3_countShut := ⟨by decide +kernel, rfl, by decide +kernel⟩
def mX3_countShutByAccounts : MD := (RX3, (yX3_countShutByAccounts, (cX3_countShutByAccounts, (1, (some .int, ([], [(0, .aload_n 0, 1), (1, .getfield 31, 4), (4, .aload_n 0, 5), (5, .getfield 56, 8), (8, .iadd, 9), (9, .aload_n 0, 10), (10, .getfield 50, 13), (13, .iadd, 14), (14, .aload_n 0, 15), (15, .getfield 44, 18), (18, .isub, 19), (19, .aload_n 0, 20), (20, .getfield 47, 23), (23, .isub, 24), (24, .aload_n 0, 25), (25, .getfield 53, 28), (28, .isub, 29), (29, .ireturn, 30)]))))))
theorem ok_X3_countShutByAccounts : e_ok mX3_countShutByAccounts := ⟨by decide +kernel, rfl, by decide +kernel⟩
def mX3_rankByCrumbs : MD := (RX3, (yX3_rankByCrumbs, (cX3_rankByCrumbs, (4, (some .int, ([], [(0, .iconst 0, 1), (1, .istore_n 2, 2), (2, .iconst 0, 3), (3, .istore_n 3, 4), (4, .iload_n 3, 5), (5, .aload_n 0, 6), (6, .getfield 31, 9), (9, .if_icmp .ge 26, 12), (12, .iload_n 3, 13), (13, .iload_n 1, 14), (14, .if_icmp .eq 15, 17), (17, .aload_n 0, 18), (18, .iload_n 3, 19), (19, .iload_n 1, 20), (20, .invokevirtual 197, 23), (23, .ifCond .eq 6, 26), (26, .iinc 2 1, 29), (29, .iinc 3 1, 32), (32, .goto (-28), 35), (35, .iload_n 2, 36), (36, .ireturn, 37)]))))))
theorem ok_X3_rankByCrumbs : e_ok mX3_rankByCrumbs := ⟨by decide +kernel, rfl, by decide +kernel⟩
def mX3_comesBefore : MD := (RX3, (yX3_comesBefore, (cX3_comesBefore, (5, (some .boolean, ([], [(0, .aload_n 0, 1), (1, .getfield 11, 4), (4, .iload_n 1, 5), (5, .aaload, 6), (6, .getfield 176, 9), (9, .aload_n 0, 10), (10, .getfield 11, 13), (13, .iload_n 2, 14), (14, .aaload, 15), (15, .getfield 176, 18), (18, .if_icmp .eq 30, 21), (21, .aload_n 0, 22), (22, .getfield 11, 25), (25, .iload_n 1, 26), (26, .aaload, 27), (27, .getfield 176, 30), (30, .aload_n 0, 31), (31, .getfield 11, 34), (34, .iload_n 2, 35), (35, .aaload, 36), (36, .getfield 176, 39), (39, .if_icmp .le 7, 42), (42, .iconst 1, 43), (43, .goto 4, 46), (46, .iconst 0, 47), (47, .ireturn, 48), (48, .aload_n 0, 49), (49, .getfield 11, 52), (52, .iload_n 1, 53), (53, .aaload, 54), (54, .invokevirtual 201, 57), (57, .istore_n 3, 58), (58, .aload_n 0, 59), (59, .getfield 11, 62), (62, .iload_n 2, 63), (63, .aaload, 64), (64, .invokevirtual 201, 67), (67, .istore 4, 69), (69, .iload_n 3, 70), (70, .iload 4, 72), (72, .if_icmp .eq 17, 75), (75, .iload_n 3, 76), (76, .iload 4, 78), (78, .if_icmp .ge 7, 81), (81, .iconst 1, 82), (82, .goto 17, 85), (85, .iconst 0, 86), (86, .goto 13, 89), (89, .iload_n 1, 90), (90, .iload_n 2, 91), (91, .if_icmp .ge 7, 94), (94, .iconst 1, 95), (95, .goto 4, 98), (98, .iconst 0, 99), (99, .ireturn, 100)]))))))
theorem ok_X3_comesBefore : e_ok mX3_comesBefore := ⟨by decide +kernel, rfl, by decide +kernel⟩
def mX4_init : MD := (RX4, (yX4_init, (cX4_init, (1, (none, ([], [(0, .aload_n 0, 1), (1, .invokespecial 3, 4), (4, .aload_n 0, 5), (5, .iconst 3, 6), (6, .newarray .int, 8), (8, .putfield 9, 11), (11, .aload_n 0, 12), (12, .iconst 3, 13), (13, .newarray .int, 15), (15, .putfield 15, 18), (18, .aload_n 0, 19), (19, .iconst 0, 20), (20, .putfield 18, 23), (23, .aload_n 0, 24), (24, .iconst 0, 25), (25, .putfield 22, 28), (28, .return_, 29)]))))))
theorem ok_X4_init : e_ok mX4_init := ⟨by decide +kernel, rfl, by decide +kernel⟩
def mX4_copyFrom : MD := (RX4, (yX4_copyFrom, (cX4_copyFrom, (2, (none, ([], [(0, .aload_n 1, 1), (1, .getfield 9, 4), (4, .iconst 0, 5), (5, .aload_n 0, 6), (6, .getfield 9, 9), (9, .iconst 0, 10), (10, .iconst 3, 11), (11, .invokestatic 26, 14), (14, .aload_n 1, 15), (15, .getfield 15, 18), (18, .iconst 0, 19), (19, .aload_n 0, 20), (20, .getfield 15, 23), (23, .iconst 0, 24), (24, .iconst 3, 25), (25, .invokestatic 26, 28), (28, .aload_n 0, 29), (29, .aload_n 1, 30), (30, .getfield 18, 33), (33, .putfield 18, 36), (36, .aload_n 0, 37), (37, .aload_n 1, 38), (38, .getfield 22, 41), (41, .putfield 22, 44), (44, .return_, 45)]))))))
theorem ok_X4_copyFrom : e_ok mX4_copyFrom := ⟨by decide +kernel, rfl, by decide +kernel⟩
def mX4_hasMostCrumbs : MD := (RX4, (yX4_hasMostCrumbs, (cX4_hasMostCrumbs, (1, (some .boolean, ([], [(0, .aload_n 0, 1), (1, .getfield 22, 4), (4, .bipush 20, 6), (6, .if_icmp .ne 7, 9), (9, .iconst 1, 10), (10, .goto 4, 13), (13, .iconst 0, 14), (14, .ireturn, 15)]))))))
theorem ok_X4_hasMostCrumbs : e_ok mX4_hasMostCrumbs := ⟨by decide +kernel, rfl, by decide +kernel⟩
def mX4_playNow : MD := (RX4, (yX4_playNow, (cX4_playNow, (1, (some .int, ([], [(0, .aload_n 0, 1), (1, .getfield 22, 4), (4, .iconst 5, 5), (5, .idiv, 6), (6, .ireturn, 7)]))))))
theorem ok_X4_playNow : e_ok mX4_playNow := ⟨by decide +kernel, rfl, by decide +kernel⟩
def mX4_distanceOf : MD := (RX4, (yX4_distanceOf, (cX4_distanceOf, (4, (some .int, ([], [(0, .aload_n 0, 1), (1, .getfield 15, 4), (4, .iload_n 1, 5), (5, .iaload, 6), (6, .aload_n 0, 7), (7, .getfield 9, 10), (10, .iload_n 1, 11), (11, .iaload, 12), (12, .isub, 13), (13, .bipush 10, 15), (15, .iadd, 16), (16, .bipush 10, 18), (18, .irem, 19), (19, .istore_n 2, 20), (20, .bipush 10, 22), (22, .iload_n 2, 23), (23, .isub, 24), (24, .istore_n 3, 25), (25, .iload_n 2, 26), (26, .iload_n 3, 27), (27, .if_icmp .ge 7, 30), (30, .iload_n 2, 31), (31, .goto 4, 34), (34, .iload_n 3, 35), (35, .ireturn, 36)]))))))
theorem ok_X4_distanceOf : e_ok mX4_distanceOf := ⟨by decide +kernel, rfl, by decide +kernel⟩
def mX4_countFitting : MD := (RX4, (yX4_countFitting, (cX4_countFitting, (4, (some .int, ([], [(0, .iconst 0, 1), (1, .istore_n 1, 2), (2, .aload_n 0, 3), (3, .invokevirtual 32, 6), (6, .istore_n 2, 7), (7, .iconst 0, 8), (8, .istore_n 3, 9), (9, .iload_n 3, 10), (10, .iconst 3, 11), (11, .if_icmp .ge 21, 14), (14, .aload_n 0, 15), (15, .iload_n 3, 16), (16, .invokevirtual 36, 19), (19, .iload_n 2, 20), (20, .if_icmp .gt 6, 23), (23, .iinc 1 1, 26), (26, .iinc 3 1, 29), (29, .goto (-20), 32), (32, .iload_n 1, 33), (33, .ireturn, 34)]))))))
theorem ok_X4_countFitting : e_ok mX4_countFitting := ⟨by decide +kernel, rfl, by decide +kernel⟩
def mX4_stepsByDistances : MD := (RX4, (yX4_stepsByDistances, (cX4_stepsByDistances, (3, (some .int, ([], [(0, .iconst 0, 1), (1, .istore_n 1, 2), (2, .iconst 0, 3), (3, .istore_n 2, 4), (4, .iload_n 2, 5), (5, .iconst 3, 6), (6, .if_icmp .ge 26, 9), (9, .iload_n 1, 10), (10, .iconst 0, 11), (11, .aload_n 0, 12), (12, .iload_n 2, 13), (13, .invokevirtual 36, 16), (16, .aload_n 0, 17), (17, .invokevirtual 32, 20), (20, .isub, 21), (21, .invokestatic 40, 24), (24, .iadd, 25), (25, .istore_n 1, 26), (26, .iinc 2 1, 29), (29, .goto (-25), 32), (32, .iload_n 1, 33), (33, .ireturn, 34)]))))))
theorem ok_X4_stepsByDistances : e_ok mX4_stepsByDistances := ⟨by decide +kernel, rfl, by decide +kernel⟩
def mX4_stepsByTurning : MD := (RX4, (yX4_stepsByTurning, (cX4_stepsByTurning, (6, (some .int, ([], [(0, .iconst 0, 1), (1, .istore_n 2, 2), (2, .iconst 0, 3), (3, .istore_n 3, 4), (4, .iload_n 3, 5), (5, .iconst 3, 6), (6, .if_icmp .ge 45, 9), (9, .aload_n 1, 10), (10, .aload_n 0, 11), (11, .invokevirtual 46, 14), (14, .aload_n 1, 15), (15, .iload_n 3, 16), (16, .iconst 1, 17), (17, .invokevirtual 50, 20), (20, .istore 4, 22), (22, .aload_n 1, 23), (23, .aload_n 0, 24), (24, .invokevirtual 46, 27), (27, .aload_n 1, 28), (28, .iload_n 3, 29), (29, .iconst (-1), 30), (30, .invokevirtual 50, 33), (33, .istore 5, 35), (35, .iload_n 2, 36), (36, .iload 4, 38), (38, .iload 5, 40), (40, .invokestatic 53, 43), (43, .iadd, 44), (44, .istore_n 2, 45), (45, .iinc 3 1, 48), (48, .goto (-44), 51), (51, .iload_n 2, 52), (52, .ireturn, 53)]))))))
theorem ok_X4_stepsByTurning : e_ok mX4_stepsByTurning := ⟨by decide +kernel, rfl, by decide +kernel⟩
def mX4_turnUntilFitting : MD := (RX4, (yX4_turnUntilFitting, (cX4_turnUntilFitting, (5, (some .int, ([], [(0, .iconst 0, 1), (1, .istore_n 3, 2), (2, .aload_n 0, 3), (3, .invokevirtual 32, 6), (6, .istore 4, 8), (8, .iload_n 3, 9), (9, .bipush 10, 11), (11, .if_icmp .ge 26, 14), (14, .aload_n 0, 15), (15, .iload_n 1, 16), (16, .invokevirtual 36, 19), (19, .iload 4, 21), (21, .if_icmp .le 16, 24), (24, .aload_n 0, 25), (25, .iload_n 1, 26), (26, .iload_n 2, 27), (27, .invokevirtual 56, 30), (30, .pop, 31), (31, .iinc 3 1, 34), (34, .goto (-26), 37), (37, .iload_n 3, 38), (38, .ireturn, 39)]))))))
theorem ok_X4_turnUntilFitting : e_ok mX4_turnUntilFitting := ⟨by decide +kernel, rfl, by decide +kernel⟩
def mX4_turnBy : MD := (RX4, (yX4_turnBy, (cX4_turnBy, (3, (some .int, ([], [(0, .aload_n 0, 1), (1, .getfield 9, 4), (4, .iload_n 1, 5), (5, .aload_n 0, 6), (6, .getfield 9, 9), (9, .iload_n 1, 10), (10, .iaload, 11), (11, .iload_n 2, 12), (12, .iadd, 13), (13, .bipush 10, 15), (15, .iadd, 16), (16, .bipush 10, 18), (18, .irem, 19), (19, .iastore, 20), (20, .aload_n 0, 21), (21, .getfield 9, 24), (24, .iload_n 1, 25), (25, .iaload, 26), (26, .ireturn, 27)]))))))
theorem ok_X4_turnBy : e_ok mX4_turnBy := ⟨by decide +kernel, rfl, by decide +kernel⟩
def mX4_takeTry : MD := (RX4, (yX4_takeTry, (cX4_takeTry, (2, (some .boolean, ([], [(0, .aload_n 0, 1), (1, .invokevirtual 59, 4), (4, .istore_n 1, 5), (5, .iload_n 1, 6), (6, .iconst 3, 7), (7, .if_icmp .ne 10, 10), (10, .aload_n 0, 11), (11, .iconst 1, 12), (12, .putfield 18, 15), (15, .iconst 1, 16), (16, .ireturn, 17), (17, .aload_n 0, 18), (18, .bipush 20, 20), (20, .aload_n 0, 21), (21, .getfield 22, 24), (24, .iconst 3, 25), (25, .iadd, 26), (26, .iload_n 1, 27), (27, .isub, 28), (28, .invokestatic 53, 31), (31, .putfield 22, 34), (34, .aload_n 0, 35), (35, .aload_n 0, 36), (36, .invokevirtual 62, 39), (39, .putfield 18, 42), (42, .iconst 0, 43), (43, .ireturn, 44)]))))))
theorem ok_X4_takeTry : e_ok mX4_takeTry := ⟨by decide +kernel, rfl, by decide +kernel⟩
def mX4_setPositions : MD := (RX4, (yX4_setPositions, (cX4_setPositions, (5, (some .int, ([], [(0, .iconst 0, 1), (1, .istore 4, 3), (3, .iload 4, 5), (5, .aload_n 0, 6), (6, .iconst 0, 7), (7, .iload_n 1, 8), (8, .invokevirtual 66, 11), (11, .iadd, 12), (12, .istore 4, 14), (14, .iload 4, 16), (16, .aload_n 0, 17), (17, .iconst 1, 18), (18, .iload_n 2, 19), (19, .invokevirtual 66, 22), (22, .iadd, 23), (23, .istore 4, 25), (25, .iload 4, 27), (27, .aload_n 0, 28), (28, .iconst 2, 29), (29, .iload_n 3, 30), (30, .invokevirtual 66, 33), (33, .iadd, 34), (34, .istore 4, 36), (36, .iload 4, 38), (38, .ireturn, 39)]))))))
theorem ok_X4_setPositions : e_ok mX4_setPositions := ⟨by decide +kernel, rfl, by decide +kernel⟩
def mX4_setPosition : MD := (RX4, (yX4_setPosition, (cX4_setPosition, (4, (some .int, ([], [(0, .aload_n 0, 1), (1, .getfield 15, 4), (4, .iload_n 1, 5), (5, .iaload, 6), (6, .iload_n 2, 7), (7, .if_icmp .ne 7, 10), (10, .iconst 0, 11), (11, .goto 4, 14), (14, .iconst 1, 15), (15, .istore_n 3, 16), (16, .aload_n 0, 17), (17, .getfield 15, 20), (20, .iload_n 1, 21), (21, .iload_n 2, 22), (22, .iastore, 23), (23, .iload_n 3, 24), (24, .ireturn, 25)]))))))
theorem ok_X4_setPosition : e_ok mX4_setPosition := ⟨by decide +kernel, rfl, by decide +kernel⟩
def mX4_renew : MD := (RX4, (yX4_renew, (cX4_renew, (2, (none, ([], [(0, .iconst 0, 1), (1, .istore_n 1, 2), (2, .iload_n 1, 3), (3, .iconst 3, 4), (4, .if_icmp .ge 16, 7), (7, .aload_n 0, 8), (8, .getfield 9, 11), (11, .iload_n 1, 12), (12, .iconst 0, 13), (13, .iastore, 14), (14, .iinc 1 1, 17), (17, .goto (-15), 20), (20, .aload_n 0, 21), (21, .iconst 0, 22), (22, .putfield 18, 25), (25, .aload_n 0, 26), (26, .iconst 0, 27), (27, .putfield 22, 30), (30, .return_, 31)]))))))
theorem ok_X4_renew : e_ok mX4_renew := ⟨by decide +kernel, rfl, by decide +kernel⟩
def mX6_init : MD := (RX6, (yX6_init, (cX6_init, (1, (none, ([], [(0, .aload_n 0, 1), (1, .invokespecial 3, 4), (4, .aload_n 0, 5), (5, .new 9, 8), (8, .dup, 9), (9, .invokespecial 11, 12), (12, .putfield 12, 15), (15, .aload_n 0, 16), (16, .iconst 4, 17), (17, .newarray .int, 19), (19, .putfield 18, 22), (22, .aload_n 0, 23), (23, .iconst 0, 24), (24, .putfield 22, 27), (27, .return_, 28)]))))))
theorem ok_X6_init : e_ok mX6_init := ⟨by decide +kernel, rfl, by decide +kernel⟩
def mX6_countCommands : MD := (RX6, (yX6_countCommands, (cX6_countCommands, (3, (some .int, ([], [(0, .iconst 0, 1), (1, .istore_n 1, 2), (2, .iconst 1, 3), (3, .istore_n 2, 4), (4, .iload_n 2, 5), (5, .bipush 60, 7), (7, .if_icmp .gt 42, 10), (10, .aload_n 0, 11), (11, .iload_n 1, 12), (12, .invokevirtual 26, 15), (15, .ifnonnull 5, 18), (18, .iconst (-1), 19), (19, .ireturn, 20), (20, .aload_n 0, 21), (21, .getfield 22, 24), (24, .aload_n 0, 25), (25, .getfield 12, 28), (28, .invokevirtual 30, 31), (31, .if_icmp .ne 5, 34), (34, .iload_n 2, 35), (35, .ireturn, 36), (36, .aload_n 0, 37), (37, .getfield 22, 40), (40, .iconst 1, 41), (41, .iadd, 42), (42, .istore_n 1, 43), (43, .iinc 2 1, 46), (46, .goto (-42), 49), (49, .iconst (-1), 50), (50, .ireturn, 51)]))))))
theorem ok_X6_countCommands : e_ok mX6_countCommands := ⟨by decide +kernel, rfl, by decide +kernel⟩
def mX6_read : MD := (RX6, (yX6_read, (cX6_read, (7, (some (.object "BiscuitLocks$Command"), ([], [(0, .aload_n 0, 1), (1, .iload_n 1, 2), (2, .putfield 22, 5), (5, .getstatic 34, 8), (8, .astore_n 2, 9), (9, .aload_n 2, 10), (10, .arraylength, 11), (11, .istore_n 3, 12), (12, .iconst 0, 13), (13, .istore 4, 15), (15, .iload 4, 17), (17, .iload_n 3, 18), (18, .if_icmp .ge 85, 21), (21, .aload_n 2, 22), (22, .iload 4, 24), (24, .aaload, 25), (25, .astore 5, 27), (27, .iload_n 1, 28), (28, .aload_n 0, 29), (29, .aload 5, 31), (31, .getfield 38, 34), (34, .iload_n 1, 35), (35, .invokevirtual 44, 38), (38, .iadd, 39), (39, .istore 6, 41), (41, .iload 6, 43), (43, .iload_n 1, 44), (44, .aload 5, 46), (46, .getfield 38, 49), (49, .invokevirtual 48, 52), (52, .iadd, 53), (53, .if_icmp .ne 31, 56), (56, .aload_n 0, 57), (57, .iload 6, 59), (59, .invokevirtual 51, 62), (62, .ifCond .eq 22, 65), (65, .aload_n 0, 66), (66, .iload 6, 68), (68, .putfield 22, 71), (71, .aload_n 0, 72), (72, .aload 5, 74), (74, .getfield 38, 77), (77, .iload_n 1, 78), (78, .invokevirtual 55, 81), (81, .aload 5, 83), (83, .areturn, 84), (84, .aload_n 0, 85), (85, .aload_n 0, 86), (86, .getfield 22, 89), (89, .iload 6, 91), (91, .invokestatic 59, 94), (94, .putfield 22, 97), (97, .iinc 4 1, 100), (100, .goto (-85), 103), (103, .aconst_null, 104), (104, .areturn, 105)]))))))
theorem ok_X6_read : e_ok mX6_read := ⟨by decide +kernel, rfl, by decide +kernel⟩
def mX6_canEndAt : MD := (RX6, (yX6_canEndAt, (cX6_canEndAt, (2, (some .boolean, ([], [(0, .iload_n 1, 1), (1, .aload_n 0, 2), (2, .getfield 12, 5), (5, .invokevirtual 30, 8), (8, .if_icmp .ge 16, 11), (11, .aload_n 0, 12), (12, .getfield 12, 15), (15, .iload_n 1, 16), (16, .invokevirtual 65, 19), (19, .bipush 59, 21), (21, .if_icmp .ne 7, 24), (24, .iconst 1, 25), (25, .goto 4, 28), (28, .iconst 0, 29), (29, .ireturn, 30)]))))))
theorem ok_X6_canEndAt : e_ok mX6_canEndAt := ⟨by decide +kernel, rfl, by decide +kernel⟩
def mX6_countMatching : MD := (RX6, (yX6_countMatching, (cX6_countMatching, (5, (some .int, ([], [(0, .aload_n 1, 1), (1, .invokevirtual 48, 4), (4, .aload_n 0, 5), (5, .getfield 12, 8), (8, .invokevirtual 30, 11), (11, .iload_n 2, 12), (12, .isub, 13), (13, .invokestatic 69, 16), (16, .istore_n 3, 17), (17, .iconst 0, 18), (18, .istore 4, 20), (20, .iload 4, 22), (22, .iload_n 3, 23), (23, .if_icmp .ge 32, 26), (26, .aload_n 1, 27), (27, .iload 4, 29), (29, .invokevirtual 72, 32), (32, .aload_n 0, 33), (33, .getfield 12, 36), (36, .iload_n 2, 37), (37, .iload 4, 39), (39, .iadd, 40), (40, .invokevirtual 65, 43), (43, .invokestatic 73, 46), (46, .ifCond .eq 9, 49), (49, .iinc 4 1, 52), (52, .goto (-32), 55), (55, .iload 4, 57), (57, .ireturn, 58)]))))))
theorem ok_X6_countMatching : e_ok mX6_countMatching := ⟨by decide +kernel, rfl, by decide +kernel⟩
theorem dw_X6_isOf_1 : decode cX6_isOf 1 = .ok (.lookupswitch 71 #[(35, 35), (38, 35), (126, 53)], 35) := by decide +kernel
def mX6_isOf : MD := (RX6, (yX6_isOf, (cX6_isOf, (2, (some .boolean, ([], [(0, .iload_n 0, 1), (36, .iload_n 1, 37), (37, .bipush 48, 39), (39, .if_icmp .lt 13, 42), (42, .iload_n 1, 43), (43, .bipush 57, 45), (45, .if_icmp .gt 7, 48), (48, .iconst 1, 49), (49, .goto 4, 52), (52, .iconst 0, 53), (53, .ireturn, 54), (54, .iload_n 1, 55), (55, .bipush 43, 57), (57, .if_icmp .eq 9, 60), (60, .iload_n 1, 61), (61, .bipush 45, 63), (63, .if_icmp .ne 7, 66), (66, .iconst 1, 67), (67, .goto 4, 70), (70, .iconst 0, 71), (71, .ireturn, 72), (72, .iload_n 1, 73), (73, .iload_n 0, 74), (74, .if_icmp .ne 7, 77), (77, .iconst 1, 78), (78, .goto 4, 81), (81, .iconst 0, 82), (82, .ireturn, 83)]))))))
theorem ok_X6_isOf : e_ok mX6_isOf := ⟨by decide +kernel, rfl, by decide +kernel⟩
def mX6_readNumbers : MD := (RX6, (yX6_readNumbers, (cX6_readNumbers, (8, (none, ([], [(0, .aload_n 0, 1), (1, .getfield 18, 4), (4, .iconst 0, 5), (5, .iconst 1, 6), (6, .iastore, 7), (7, .iconst 0, 8), (8, .istore_n 3, 9), (9, .iconst 1, 10), (10, .istore 4, 12), (12, .iconst 0, 13), (13, .istore 5, 15), (15, .iload 5, 17), (17, .aload_n 1, 18), (18, .invokevirtual 48, 21), (21, .if_icmp .ge 122, 24), (24, .aload_n 1, 25), (25, .iload 5, 27), (27, .invokevirtual 72, 30), (30, .istore 6, 32), (32, .aload_n 0, 33), (33, .getfield 12, 36), (36, .iload_n 2, 37), (37, .iload 5, 39), (39, .iadd, 40), (40, .invokevirtual 65, 43), (43, .istore 7, 45), (45, .iload 6, 47), (47, .bipush 126, 49), (49, .if_icmp .ne 20, 52), (52, .iload 7, 54), (54, .bipush 45, 56), (56, .if_icmp .ne 7, 59), (59, .iconst (-1), 60), (60, .goto 4, 63), (63, .iconst 1, 64), (64, .istore 4, 66), (66, .goto 71, 69), (69, .iload 6, 71), (71, .bipush 35, 73), (73, .if_icmp .ne 28, 76), (76, .iload_n 3, 77), (77, .iconst 4, 78), (78, .if_icmp .ge 23, 81), (81, .aload_n 0, 82), (82, .getfield 18, 85), (85, .iload_n 3, 86), (86, .iload 4, 88), (88, .iload 7, 90), (90, .bipush 48, 92), (92, .isub, 93), (93, .imul, 94), (94, .iastore, 95), (95, .iinc 3 1, 98), (98, .goto 39, 101), (101, .iload 6, 103), (103, .bipush 38, 105), (105, .if_icmp .ne 32, 108), (108, .iload_n 3, 109), (109, .ifCond .le 28, 112), (112, .aload_n 0, 113), (113, .getfield 18, 116), (116, .iload_n 3, 117), (117, .iconst 1, 118), (118, .isub, 119), (119, .aload_n 0, 120), (120, .getfield 18, 123), (123, .iload_n 3, 124), (124, .iconst 1, 125), (125, .isub, 126), (126, .iaload, 127), (127, .bipush 10, 129), (129, .imul, 130), (130, .iload 7, 132), (132, .iadd, 133), (133, .bipush 48, 135), (135, .isub, 136), (136, .iastore, 137), (137, .iinc 5 1, 140), (140, .goto (-125), 143), (143, .return_, 144)]))))))
theorem ok_X6_readNumbers : e_ok mX6_readNumbers := ⟨by decide +kernel, rfl, by decide +kernel⟩
def mX7_init : MD := (RX7, (yX7_init, (cX7_init, (1, (none, ([], [(0, .aload_n 0, 1), (1, .invokespecial 1, 4), (4, .aload_n 0, 5), (5, .new 7, 8), (8, .dup, 9), (9, .invokespecial 9, 12), (12, .putfield 10, 15), (15, .aload_n 0, 16), (16, .new 7, 19), (19, .dup, 20), (20, .invokespecial 9, 23), (23, .putfield 16, 26), (26, .aload_n 0, 27), (27, .new 7, 30), (30, .dup, 31), (31, .invokespecial 9, 34), (34, .putfield 19, 37), (37, .aload_n 0, 38), (38, .new 22, 41), (41, .dup, 42), (42, .invokespecial 24, 45), (45, .putfield 25, 48), (48, .aload_n 0, 49), (49, .new 29, 52), (52, .dup, 53), (53, .invokespecial 31, 56), (56, .putfield 32, 59), (59, .aload_n 0, 60), (60, .new 36, 63), (63, .dup, 64), (64, .invokespecial 38, 67), (67, .putfield 39, 70), (70, .aload_n 0, 71), (71, .iconst 0, 72), (72, .putfield 43, 75), (75, .aload_n 0, 76), (76, .iconst (-1), 77), (77, .putfield 47, 80), (80, .aload_n 0, 81), (81, .iconst (-1), 82), (82, .putfield 51, 85), (85, .return_, 86)]))))))
theorem ok_X7_init : e_ok mX7_init := ⟨by decide +kernel, rfl, by decide +kernel⟩
def mX7_addDoor : MD := (RX7, (yX7_addDoor, (cX7_addDoor, (4, (some .int, ([], [(0, .aload_n 0, 1), (1, .getstatic 54, 4), (4, .iload_n 1, 5), (5, .iload_n 2, 6), (6, .iload_n 3, 7), (7, .iconst 0, 8), (8, .invokevirtual 60, 11), (11, .ireturn, 12)]))))))
theorem ok_X7_addDoor : e_ok mX7_addDoor := ⟨by decide +kernel, rfl, by decide +kernel⟩
def mX7_turn : MD := (RX7, (yX7_turn, (cX7_turn, (4, (some .int, ([], [(0, .aload_n 0, 1), (1, .getstatic 64, 4), (4, .iload_n 1, 5), (5, .iload_n 2, 6), (6, .iload_n 3, 7), (7, .iconst 0, 8), (8, .invokevirtual 60, 11), (11, .ireturn, 12)]))))))
theorem ok_X7_turn : e_ok mX7_turn := ⟨by decide +kernel, rfl, by decide +kernel⟩
def mX7_tryLock : MD := (RX7, (yX7_tryLock, (cX7_tryLock, (2, (some .boolean, ([], [(0, .aload_n 0, 1), (1, .getstatic 67, 4), (4, .iload_n 1, 5), (5, .iconst 0, 6), (6, .iconst 0, 7), (7, .iconst 0, 8), (8, .invokevirtual 60, 11), (11, .iconst 1, 12), (12, .if_icmp .ne 7, 15), (15, .iconst 1, 16), (16, .goto 4, 19), (19, .iconst 0, 20), (20, .ireturn, 21)]))))))
theorem ok_X7_tryLock : e_ok mX7_tryLock := ⟨by decide +kernel, rfl, by decide +kernel⟩
def mX7_shut : MD := (RX7, (yX7_shut, (cX7_shut, (2, (some .int, ([], [(0, .aload_n 0, 1), (1, .getstatic 70, 4), (4, .iload_n 1, 5), (5, .iconst 0, 6), (6, .iconst 0, 7), (7, .iconst 0, 8), (8, .invokevirtual 60, 11), (11, .ireturn, 12)]))))))
theorem ok_X7_shut : e_ok mX7_shut := ⟨by decide +kernel, rfl, by decide +kernel⟩
def mX7_setCombination : MD := (RX7, (yX7_setCombination, (cX7_setCombination, (5, (some .int, ([], [(0, .aload_n 0, 1), (1, .getstatic 73, 4), (4, .iload_n 1, 5), (5, .iload_n 2, 6), (6, .iload_n 3, 7), (7, .iload 4, 9), (9, .invokevirtual 60, 12), (12, .ireturn, 13)]))))))
theorem ok_X7_setCombination : e_ok mX7_setCombination := ⟨by decide +kernel, rfl, by decide +kernel⟩
def mX7_setDamp : MD := (RX7, (yX7_setDamp, (cX7_setDamp, (2, (some .int, ([], [(0, .aload_n 0, 1), (1, .getstatic 76, 4), (4, .iload_n 1, 5), (5, .iconst 0, 6), (6, .iconst 0, 7), (7, .iconst 0, 8), (8, .invokevirtual 60, 11), (11, .ireturn, 12)]))))))
theorem ok_X7_setDamp : e_ok mX7_setDamp := ⟨by decide +kernel, rfl, by decide +kernel⟩
def mX7_bake : MD := (RX7, (yX7_bake, (cX7_bake, (3, (some .int, ([], [(0, .aload_n 0, 1), (1, .getstatic 79, 4), (4, .iload_n 1, 5), (5, .iload_n 2, 6), (6, .iconst 0, 7), (7, .iconst 0, 8), (8, .invokevirtual 60, 11), (11, .ireturn, 12)]))))))
theorem ok_X7_bake : e_ok mX7_bake := ⟨by decide +kernel, rfl, by decide +kernel⟩
def mX7_passHours : MD := (RX7, (yX7_passHours, (cX7_passHours, (2, (some .int, ([], [(0, .aload_n 0, 1), (1, .getstatic 82, 4), (4, .iload_n 1, 5), (5, .iconst 0, 6), (6, .iconst 0, 7), (7, .iconst 0, 8), (8, .invokevirtual 60, 11), (11, .ireturn, 12)]))))))
theorem ok_X7_passHours : e_ok mX7_passHours := ⟨by decide +kernel, rfl, by decide +kernel⟩
def mX7_change : MD := (RX7, (yX7_change, (cX7_change, (6, (some .int, ([], [(0, .aload_n 0, 1), (1, .getfield 10, 4), (4, .aload_n 1, 5), (5, .iload_n 2, 6), (6, .iload_n 3, 7), (7, .iload 4, 9), (9, .iload 5, 11), (11, .invokevirtual 85, 14), (14, .invokestatic 89, 17), (17, .aload_n 0, 18), (18, .getfield 25, 21), (21, .aload_n 0, 22), (22, .getfield 10, 25), (25, .invokevirtual 93, 28), (28, .aload_n 0, 29), (29, .getfield 10, 32), (32, .aload_n 1, 33), (33, .iload_n 2, 34), (34, .iload_n 3, 35), (35, .iload 4, 37), (37, .iload 5, 39), (39, .invokevirtual 97, 42), (42, .ireturn, 43)]))))))
theorem ok_X7_change : e_ok mX7_change := ⟨by decide +kernel, rfl, by decide +kernel⟩
theorem dw_X7_throwFor_8 : decode cX7_throwFor 8 = .ok (.tableswitch 72 1 4 #[32, 42, 52, 62], 32) := by decide +kernel
def mX7_throwFor : MD := (RX7, (yX7_throwFor, (cX7_throwFor, (1, (none, ([], [(0, .getstatic 100, 3), (3, .aload_n 0, 4), (4, .invokevirtual 106, 7), (7, .iaload, 8), (40, .new 112, 43), (43, .dup, 44), (44, .ldc 114, 46), (46, .invokespecial 116, 49), (49, .athrow, 50), (50, .new 119, 53), (53, .dup, 54), (54, .ldc 121, 56), (56, .invokespecial 123, 59), (59, .athrow, 60), (60, .new 124, 63), (63, .dup, 64), (64, .ldc 126, 66), (66, .invokespecial 128, 69), (69, .athrow, 70), (70, .new 129, 73), (73, .dup, 74), (74, .ldc 131, 76), (76, .invokespecial 133, 79), (79, .athrow, 80), (80, .return_, 81)]))))))
theorem ok_X7_throwFor : e_ok mX7_throwFor := ⟨by decide +kernel, rfl, by decide +kernel⟩
def mX7_doorCount : MD := (RX7, (yX7_doorCount, (cX7_doorCount, (1, (some .int, ([], [(0, .aload_n 0, 1), (1, .getfield 10, 4), (4, .getfield 134, 7), (7, .ireturn, 8)]))))))
theorem ok_X7_doorCount : e_ok mX7_doorCount := ⟨by decide +kernel, rfl, by decide +kernel⟩
def mX7_dial : MD := (RX7, (yX7_dial, (cX7_dial, (4, (some .int, ([], [(0, .aload_n 0, 1), (1, .iload_n 1, 2), (2, .invokevirtual 137, 5), (5, .astore_n 3, 6), (6, .iload_n 2, 7), (7, .invokestatic 141, 10), (10, .aload_n 3, 11), (11, .getfield 145, 14), (14, .iload_n 2, 15), (15, .iaload, 16), (16, .ireturn, 17)]))))))
theorem ok_X7_dial : e_ok mX7_dial := ⟨by decide +kernel, rfl, by decide +kernel⟩
def mX7_combination : MD := (RX7, (yX7_combination, (cX7_combination, (4, (some .int, ([], [(0, .aload_n 0, 1), (1, .iload_n 1, 2), (2, .invokevirtual 137, 5), (5, .astore_n 3, 6), (6, .iload_n 2, 7), (7, .invokestatic 141, 10), (10, .aload_n 3, 11), (11, .getfield 150, 14), (14, .iload_n 2, 15), (15, .iaload, 16), (16, .ireturn, 17)]))))))
theorem ok_X7_combination : e_ok mX7_combination := ⟨by decide +kernel, rfl, by decide +kernel⟩
def mX7_isOpen : MD := (RX7, (yX7_isOpen, (cX7_isOpen, (2, (some .boolean, ([], [(0, .aload_n 0, 1), (1, .iload_n 1, 2), (2, .invokevirtual 137, 5), (5, .getfield 153, 8), (8, .ireturn, 9)]))))))
theorem ok_X7_isOpen : e_ok mX7_isOpen := ⟨by decide +kernel, rfl, by decide +kernel⟩
def mX7_isBroken : MD := (RX7, (yX7_isBroken, (cX7_isBroken, (2, (some .boolean, ([], [(0, .aload_n 0, 1), (1, .iload_n 1, 2), (2, .invokevirtual 137, 5), (5, .invokevirtual 156, 8), (8, .ireturn, 9)]))))))
theorem ok_X7_isBroken : e_ok mX7_isBroken := ⟨by decide +kernel, rfl, by decide +kernel⟩
def mX7_crumbs : MD := (RX7, (yX7_crumbs, (cX7_crumbs, (2, (some .int, ([], [(0, .aload_n 0, 1), (1, .iload_n 1, 2), (2, .invokevirtual 137, 5), (5, .getfield 160, 8), (8, .ireturn, 9)]))))))
theorem ok_X7_crumbs : e_ok mX7_crumbs := ⟨by decide +kernel, rfl, by decide +kernel⟩
def mX7_play : MD := (RX7, (yX7_play, (cX7_play, (2, (some .int, ([], [(0, .aload_n 0, 1), (1, .iload_n 1, 2), (2, .invokevirtual 137, 5), (5, .invokevirtual 163, 8), (8, .ireturn, 9)]))))))
theorem ok_X7_play : e_ok mX7_play := ⟨by decide +kernel, rfl, by decide +kernel⟩
def mX7_fittingDials : MD := (RX7, (yX7_fittingDials, (cX7_fittingDials, (2, (some .int, ([], [(0, .aload_n 0, 1), (1, .iload_n 1, 2), (2, .invokevirtual 137, 5), (5, .invokevirtual 166, 8), (8, .ireturn, 9)]))))))
theorem ok_X7_fittingDials : e_ok mX7_fittingDials := ⟨by decide +kernel, rfl, by decide +kernel⟩
def mX7_stepsToOpen : MD := (RX7, (yX7_stepsToOpen, (cX7_stepsToOpen, (2, (some .int, ([], [(0, .aload_n 0, 1), (1, .iload_n 1, 2), (2, .invokevirtual 137, 5), (5, .invokevirtual 169, 8), (8, .ireturn, 9)]))))))
theorem ok_X7_stepsToOpen : e_ok mX7_stepsToOpen := ⟨by decide +kernel, rfl, by decide +kernel⟩
def mX7_stepsToOpenByTurning : MD := (RX7, (yX7_stepsToOpenByTurning, (cX7_stepsToOpenByTurning, (2, (some .int, ([], [(0, .aload_n 0, 1), (1, .iload_n 1, 2), (2, .invokevirtual 137, 5), (5, .aload_n 0, 6), (6, .getfield 16, 9), (9, .getfield 172, 12), (12, .iconst 0, 13), (13, .aaload, 14), (14, .invokevirtual 176, 17), (17, .ireturn, 18)]))))))
theorem ok_X7_stepsToOpenByTurning : e_ok mX7_stepsToOpenByTurning := ⟨by decide +kernel, rfl, by decide +kernel⟩
def mX7_openingSettings : MD := (RX7, (yX7_openingSettings, (cX7_openingSettings, (3, (some .int, ([], [(0, .iconst 2, 1), (1, .aload_n 0, 2), (2, .iload_n 1, 3), (3, .invokevirtual 137, 6), (6, .invokevirtual 163, 9), (9, .imul, 10), (10, .iconst 1, 11), (11, .iadd, 12), (12, .istore_n 2, 13), (13, .iload_n 2, 14), (14, .iload_n 2, 15), (15, .imul, 16), (16, .iload_n 2, 17), (17, .imul, 18), (18, .ireturn, 19)]))))))
theorem ok_X7_openingSettings : e_ok mX7_openingSettings := ⟨by decide +kernel, rfl, by decide +kernel⟩
def mX7_lockOf : MD := (RX7, (yX7_lockOf, (cX7_lockOf, (2, (some (.object "BiscuitLocks$Lock"), ([], [(0, .aload_n 0, 1), (1, .getfield 10, 4), (4, .iload_n 1, 5), (5, .invokevirtual 180, 8), (8, .ifCond .ne 13, 11), (11, .new 112, 14), (14, .dup, 15), (15, .ldc 184, 17), (17, .invokespecial 116, 20), (20, .athrow, 21), (21, .aload_n 0, 22), (22, .getfield 10, 25), (25, .getfield 172, 28), (28, .iload_n 1, 29), (29, .aaload, 30), (30, .areturn, 31)]))))))
theorem ok_X7_lockOf : e_ok mX7_lockOf := ⟨by decide +kernel, rfl, by decide +kernel⟩
def mX7_requireDial : MD := (RX7, (yX7_requireDial, (cX7_requireDial, (1, (none, ([], [(0, .iload_n 0, 1), (1, .invokestatic 186, 4), (4, .ifCond .ne 13, 7), (7, .new 112, 10), (10, .dup, 11), (11, .ldc 189, 13), (13, .invokespecial 116, 16), (16, .athrow, 17), (17, .return_, 18)]))))))
theorem ok_X7_requireDial : e_ok mX7_requireDial := ⟨by decide +kernel, rfl, by decide +kernel⟩
def mX7_triesUntilBroken : MD := (RX7, (yX7_triesUntilBroken, (cX7_triesUntilBroken, (5, (some .int, ([], [(0, .aload_n 0, 1), (1, .iload_n 1, 2), (2, .invokevirtual 137, 5), (5, .astore_n 2, 6), (6, .aload_n 0, 7), (7, .getfield 16, 10), (10, .getfield 172, 13), (13, .iconst 0, 14), (14, .aaload, 15), (15, .astore_n 3, 16), (16, .aload_n 3, 17), (17, .aload_n 2, 18), (18, .invokevirtual 191, 21), (21, .iconst 0, 22), (22, .istore 4, 24), (24, .iload 4, 26), (26, .bipush 20, 28), (28, .if_icmp .gt 29, 31), (31, .aload_n 3, 32), (32, .invokevirtual 156, 35), (35, .ifCond .eq 6, 38), (38, .iload 4, 40), (40, .ireturn, 41), (41, .aload_n 3, 42), (42, .invokevirtual 195, 45), (45, .ifCond .eq 6, 48), (48, .goto 9, 51), (51, .iinc 4 1, 54), (54, .goto (-30), 57), (57, .new 198, 60), (60, .dup, 61), (61, .ldc 200, 63), (63, .invokespecial 202, 66), (66, .athrow, 67)]))))))
theorem ok_X7_triesUntilBroken : e_ok mX7_triesUntilBroken := ⟨by decide +kernel, rfl, by decide +kernel⟩
def mX7_dialAfter : MD := (RX7, (yX7_dialAfter, (cX7_dialAfter, (4, (some .int, ([], [(0, .aload_n 0, 1), (1, .iload_n 1, 2), (2, .invokevirtual 137, 5), (5, .pop, 6), (6, .iload_n 2, 7), (7, .invokestatic 141, 10), (10, .iload_n 3, 11), (11, .ifCond .lt 9, 14), (14, .iload_n 3, 15), (15, .bipush 60, 17), (17, .if_icmp .le 13, 20), (20, .new 119, 23), (23, .dup, 24), (24, .ldc 203, 26), (26, .invokespecial 123, 29), (29, .athrow, 30), (30, .aload_n 0, 31), (31, .getfield 16, 34), (34, .aload_n 0, 35), (35, .getfield 10, 38), (38, .invokevirtual 205, 41), (41, .aload_n 0, 42), (42, .getfield 16, 45), (45, .iload_n 3, 46), (46, .invokevirtual 207, 49), (49, .pop, 50), (50, .aload_n 0, 51), (51, .getfield 16, 54), (54, .getfield 172, 57), (57, .iload_n 1, 58), (58, .aaload, 59), (59, .getfield 145, 62), (62, .iload_n 2, 63), (63, .iaload, 64), (64, .ireturn, 65)]))))))
theorem ok_X7_dialAfter : e_ok mX7_dialAfter := ⟨by decide +kernel, rfl, by decide +kernel⟩
def mX7_hoursUntilFitting : MD := (RX7, (yX7_hoursUntilFitting, (cX7_hoursUntilFitting, (4, (some .int, ([], [(0, .aload_n 0, 1), (1, .iload_n 1, 2), (2, .invokevirtual 137, 5), (5, .pop, 6), (6, .aload_n 0, 7), (7, .getfield 16, 10), (10, .aload_n 0, 11), (11, .getfield 10, 14), (14, .invokevirtual 205, 17), (17, .aload_n 0, 18), (18, .getfield 16, 21), (21, .getfield 172, 24), (24, .iload_n 1, 25), (25, .aaload, 26), (26, .astore_n 2, 27), (27, .iconst 0, 28), (28, .istore_n 3, 29), (29, .iload_n 3, 30), (30, .bipush 60, 32), (32, .if_icmp .gt 26, 35), (35, .aload_n 2, 36), (36, .invokevirtual 166, 39), (39, .iconst 3, 40), (40, .if_icmp .ne 5, 43), (43, .iload_n 3, 44), (44, .ireturn, 45), (45, .aload_n 0, 46), (46, .getfield 16, 49), (49, .invokevirtual 211, 52), (52, .iinc 3 1, 55), (55, .goto (-26), 58), (58, .new 198, 61), (61, .dup, 62), (62, .ldc 214, 64), (64, .invokespecial 202, 67), (67, .athrow, 68)]))))))
theorem ok_X7_hoursUntilFitting : e_ok mX7_hoursUntilFitting := ⟨by decide +kernel, rfl, by decide +kernel⟩
def mX7_bakedDoor : MD := (RX7, (yX7_bakedDoor, (cX7_bakedDoor, (3, (some .int, ([], [(0, .iload_n 1, 1), (1, .invokestatic 216, 4), (4, .aload_n 0, 5), (5, .getfield 10, 8), (8, .getfield 219, 11), (11, .iload_n 1, 12), (12, .iaload, 13), (13, .istore_n 2, 14), (14, .iload_n 2, 15), (15, .iconst (-1), 16), (16, .if_icmp .ne 13, 19), (19, .new 198, 22), (22, .dup, 23), (23, .ldc 222, 25), (25, .invokespecial 202, 28), (28, .athrow, 29), (29, .iload_n 2, 30), (30, .ireturn, 31)]))))))
theorem ok_X7_bakedDoor : e_ok mX7_bakedDoor := ⟨by decide +kernel, rfl, by decide +kernel⟩
def mX7_bakingHours : MD := (RX7, (yX7_bakingHours, (cX7_bakingHours, (2, (some .int, ([], [(0, .iload_n 1, 1), (1, .invokestatic 216, 4), (4, .aload_n 0, 5), (5, .getfield 10, 8), (8, .getfield 224, 11), (11, .iload_n 1, 12), (12, .iaload, 13), (13, .ireturn, 14)]))))))
theorem ok_X7_bakingHours : e_ok mX7_bakingHours := ⟨by decide +kernel, rfl, by decide +kernel⟩
def mX7_isBaking : MD := (RX7, (yX7_isBaking, (cX7_isBaking, (2, (some .boolean, ([], [(0, .aload_n 0, 1), (1, .iload_n 1, 2), (2, .invokevirtual 137, 5), (5, .pop, 6), (6, .aload_n 0, 7), (7, .getfield 10, 10), (10, .iload_n 1, 11), (11, .invokevirtual 227, 14), (14, .ireturn, 15)]))))))
theorem ok_X7_isBaking : e_ok mX7_isBaking := ⟨by decide +kernel, rfl, by decide +kernel⟩
def mX7_requireOven : MD := (RX7, (yX7_requireOven, (cX7_requireOven, (1, (none, ([], [(0, .iload_n 0, 1), (1, .invokestatic 230, 4), (4, .ifCond .ne 13, 7), (7, .new 112, 10), (10, .dup, 11), (11, .ldc 233, 13), (13, .invokespecial 116, 16), (16, .athrow, 17), (17, .return_, 18)]))))))
theorem ok_X7_requireOven : e_ok mX7_requireOven := ⟨by decide +kernel, rfl, by decide +kernel⟩
def mX7_doorByCrumbs : MD := (RX7, (yX7_doorByCrumbs, (cX7_doorByCrumbs, (3, (some .int, ([], [(0, .iconst 0, 1), (1, .istore_n 2, 2), (2, .iload_n 2, 3), (3, .aload_n 0, 4), (4, .getfield 10, 7), (7, .getfield 134, 10), (10, .if_icmp .ge 23, 13), (13, .aload_n 0, 14), (14, .getfield 10, 17), (17, .iload_n 2, 18), (18, .invokevirtual 235, 21), (21, .iload_n 1, 22), (22, .if_icmp .ne 5, 25), (25, .iload_n 2, 26), (26, .ireturn, 27), (27, .iinc 2 1, 30), (30, .goto (-28), 33), (33, .new 198, 36), (36, .dup, 37), (37, .ldc 238, 39), (39, .invokespecial 202, 42), (42, .athrow, 43)]))))))
theorem ok_X7_doorByCrumbs : e_ok mX7_doorByCrumbs := ⟨by decide +kernel, rfl, by decide +kernel⟩
def mX7_rememberedTries : MD := (RX7, (yX7_rememberedTries, (cX7_rememberedTries, (1, (some .int, ([], [(0, .aload_n 0, 1), (1, .getfield 10, 4), (4, .invokevirtual 240, 7), (7, .ireturn, 8)]))))))
theorem ok_X7_rememberedTries : e_ok mX7_rememberedTries := ⟨by decide +kernel, rfl, by decide +kernel⟩
def mX7_triedDoor : MD := (RX7, (yX7_triedDoor, (cX7_triedDoor, (2, (some .int, ([], [(0, .aload_n 0, 1), (1, .iload_n 1, 2), (2, .invokevirtual 243, 5), (5, .aload_n 0, 6), (6, .getfield 10, 9), (9, .getfield 246, 12), (12, .iload_n 1, 13), (13, .iaload, 14), (14, .ireturn, 15)]))))))
theorem ok_X7_triedDoor : e_ok mX7_triedDoor := ⟨by decide +kernel, rfl, by decide +kernel⟩
def mX7_didOpen : MD := (RX7, (yX7_didOpen, (cX7_didOpen, (2, (some .boolean, ([], [(0, .aload_n 0, 1), (1, .iload_n 1, 2), (2, .invokevirtual 243, 5), (5, .aload_n 0, 6), (6, .getfield 10, 9), (9, .getfield 249, 12), (12, .iload_n 1, 13), (13, .baload, 14), (14, .ireturn, 15)]))))))
theorem ok_X7_didOpen : e_ok mX7_didOpen := ⟨by decide +kernel, rfl, by decide +kernel⟩
def mX7_requireRemembered : MD := (RX7, (yX7_requireRemembered, (cX7_requireRemembered, (2, (none, ([], [(0, .iload_n 1, 1), (1, .ifCond .lt 14, 4), (4, .iload_n 1, 5), (5, .aload_n 0, 6), (6, .getfield 10, 9), (9, .invokevirtual 240, 12), (12, .if_icmp .lt 13, 15), (15, .new 198, 18), (18, .dup, 19), (19, .ldc 253, 21), (21, .invokespecial 202, 24), (24, .athrow, 25), (25, .return_, 26)]))))))
theorem ok_X7_requireRemembered : e_ok mX7_requireRemembered := ⟨by decide +kernel, rfl, by decide +kernel⟩
def mX7_shutLocks : MD := (RX7, (yX7_shutLocks, (cX7_shutLocks, (1, (some .int, ([], [(0, .aload_n 0, 1), (1, .getfield 10, 4), (4, .invokevirtual 255, 7), (7, .ireturn, 8)]))))))
theorem ok_X7_shutLocks : e_ok mX7_shutLocks := ⟨by decide +kernel, rfl, by decide +kernel⟩
def mX7_shutLocksByAccounts : MD := (RX7, (yX7_shutLocksByAccounts, (cX7_shutLocksByAccounts, (1, (some .int, ([], [(0, .aload_n 0, 1), (1, .getfield 10, 4), (4, .invokevirtual 258, 7), (7, .ireturn, 8)]))))))
theorem ok_X7_shutLocksByAccounts : e_ok mX7_shutLocksByAccounts := ⟨by decide +kernel, rfl, by decide +kernel⟩
def mX7_damp : MD := (RX7, (yX7_damp, (cX7_damp, (1, (some .int, ([], [(0, .aload_n 0, 1), (1, .getfield 10, 4), (4, .getfield 261, 7), (7, .ireturn, 8)]))))))
theorem ok_X7_damp : e_ok mX7_damp := ⟨by decide +kernel, rfl, by decide +kernel⟩
def mX7_hour : MD := (RX7, (yX7_hour, (cX7_hour, (1, (some .int, ([], [(0, .aload_n 0, 1), (1, .getfield 10, 4), (4, .getfield 264, 7), (7, .ireturn, 8)]))))))
theorem ok_X7_hour : e_ok mX7_hour := ⟨by decide +kernel, rfl, by decide +kernel⟩
def mX7_tryTotal : MD := (RX7, (yX7_tryTotal, (cX7_tryTotal, (1, (some .int, ([], [(0, .aload_n 0, 1), (1, .getfield 10, 4), (4, .getfield 267, 7), (7, .ireturn, 8)]))))))
theorem ok_X7_tryTotal : e_ok mX7_tryTotal := ⟨by decide +kernel, rfl, by decide +kernel⟩
def mX7_openedTotal : MD := (RX7, (yX7_openedTotal, (cX7_openedTotal, (1, (some .int, ([], [(0, .aload_n 0, 1), (1, .getfield 10, 4), (4, .getfield 270, 7), (7, .ireturn, 8)]))))))
theorem ok_X7_openedTotal : e_ok mX7_openedTotal := ⟨by decide +kernel, rfl, by decide +kernel⟩
def mX7_bakedTotal : MD := (RX7, (yX7_bakedTotal, (cX7_bakedTotal, (1, (some .int, ([], [(0, .aload_n 0, 1), (1, .getfield 10, 4), (4, .getfield 273, 7), (7, .ireturn, 8)]))))))
theorem ok_X7_bakedTotal : e_ok mX7_bakedTotal := ⟨by decide +kernel, rfl, by decide +kernel⟩
def mX7_meanCrumbs : MD := (RX7, (yX7_meanCrumbs, (cX7_meanCrumbs, (3, (some .double, ([], [(0, .aload_n 0, 1), (1, .getfield 10, 4), (4, .getfield 134, 7), (7, .ifCond .ne 14, 10), (10, .new 276, 13), (13, .dup, 14), (14, .ldc_w 278, 17), (17, .invokespecial 280, 20), (20, .athrow, 21), (21, .iconst 0, 22), (22, .istore_n 1, 23), (23, .iconst 0, 24), (24, .istore_n 2, 25), (25, .iload_n 2, 26), (26, .aload_n 0, 27), (27, .getfield 10, 30), (30, .getfield 134, 33), (33, .if_icmp .ge 24, 36), (36, .iload_n 1, 37), (37, .aload_n 0, 38), (38, .getfield 10, 41), (41, .getfield 172, 44), (44, .iload_n 2, 45), (45, .aaload, 46), (46, .getfield 160, 49), (49, .iadd, 50), (50, .istore_n 1, 51), (51, .iinc 2 1, 54), (54, .goto (-29), 57), (57, .iload_n 1, 58), (58, .i2d, 59), (59, .aload_n 0, 60), (60, .getfield 10, 63), (63, .getfield 134, 66), (66, .i2d, 67), (67, .ddiv, 68), (68, .dreturn, 69)]))))))
theorem ok_X7_meanCrumbs : e_ok mX7_meanCrumbs := ⟨by decide +kernel, rfl, by decide +kernel⟩
def mX7_openedShare : MD := (RX7, (yX7_openedShare, (cX7_openedShare, (1, (some .float, ([], [(0, .aload_n 0, 1), (1, .getfield 10, 4), (4, .getfield 267, 7), (7, .ifCond .ne 14, 10), (10, .new 276, 13), (13, .dup, 14), (14, .ldc_w 281, 17), (17, .invokespecial 280, 20), (20, .athrow, 21), (21, .aload_n 0, 22), (22, .getfield 10, 25), (25, .getfield 270, 28), (28, .i2f, 29), (29, .aload_n 0, 30), (30, .getfield 10, 33), (33, .getfield 267, 36), (36, .i2f, 37), (37, .fdiv, 38), (38, .freturn, 39)]))))))
theorem ok_X7_openedShare : e_ok mX7_openedShare := ⟨by decide +kernel, rfl, by decide +kernel⟩
def mX7_isConsistent : MD := (RX7, (yX7_isConsistent, (cX7_isConsistent, (3, (some .boolean, ([], [(0, .iconst 0, 1), (1, .istore_n 1, 2), (2, .iload_n 1, 3), (3, .aload_n 0, 4), (4, .getfield 10, 7), (7, .getfield 134, 10), (10, .if_icmp .ge 57, 13), (13, .aload_n 0, 14), (14, .getfield 10, 17), (17, .getfield 172, 20), (20, .iload_n 1, 21), (21, .aaload, 22), (22, .astore_n 2, 23), (23, .aload_n 2, 24), (24, .invokevirtual 169, 27), (27, .aload_n 2, 28), (28, .aload_n 0, 29), (29, .getfield 16, 32), (32, .getfield 172, 35), (35, .iconst 0, 36), (36, .aaload, 37), (37, .invokevirtual 176, 40), (40, .if_icmp .eq 5, 43), (43, .iconst 0, 44), (44, .ireturn, 45), (45, .aload_n 2, 46), (46, .invokevirtual 156, 49), (49, .ifCond .eq 12, 52), (52, .aload_n 2, 53), (53, .getfield 153, 56), (56, .ifCond .ne 5, 59), (59, .iconst 0, 60), (60, .ireturn, 61), (61, .iinc 1 1, 64), (64, .goto (-62), 67), (67, .aload_n 0, 68), (68, .getfield 10, 71), (71, .invokevirtual 255, 74), (74, .aload_n 0, 75), (75, .getfield 10, 78), (78, .invokevirtual 258, 81), (81, .if_icmp .ne 7, 84), (84, .iconst 1, 85), (85, .goto 4, 88), (88, .iconst 0, 89), (89, .ireturn, 90)]))))))
theorem ok_X7_isConsistent : e_ok mX7_isConsistent := ⟨by decide +kernel, rfl, by decide +kernel⟩
def mX7_renderLock : MD := (RX7, (yX7_renderLock, (cX7_renderLock, (3, (some .int, ([], [(0, .aload_n 0, 1), (1, .iload_n 1, 2), (2, .invokevirtual 137, 5), (5, .astore_n 2, 6), (6, .aload_n 0, 7), (7, .getfield 39, 10), (10, .iconst 0, 11), (11, .invokevirtual 283, 14), (14, .aload_n 0, 15), (15, .aload_n 2, 16), (16, .getfield 145, 19), (19, .invokevirtual 286, 22), (22, .aload_n 0, 23), (23, .getfield 39, 26), (26, .bipush 47, 28), (28, .invokevirtual 290, 31), (31, .pop, 32), (32, .aload_n 0, 33), (33, .aload_n 2, 34), (34, .getfield 150, 37), (37, .invokevirtual 286, 40), (40, .aload_n 0, 41), (41, .getfield 39, 44), (44, .bipush 99, 46), (46, .invokevirtual 290, 49), (49, .aload_n 2, 50), (50, .getfield 160, 53), (53, .invokevirtual 294, 56), (56, .pop, 57), (57, .aload_n 0, 58), (58, .getfield 10, 61), (61, .iload_n 1, 62), (62, .invokevirtual 227, 65), (65, .ifCond .eq 16, 68), (68, .aload_n 0, 69), (69, .getfield 39, 72), (72, .bipush 98, 74), (74, .invokevirtual 290, 77), (77, .pop, 78), (78, .goto 25, 81), (81, .aload_n 0, 82), (82, .getfield 39, 85), (85, .aload_n 2, 86), (86, .getfield 153, 89), (89, .ifCond .eq 8, 92), (92, .bipush 111, 94), (94, .goto 5, 97), (97, .bipush 115, 99), (99, .invokevirtual 290, 102), (102, .pop, 103), (103, .aload_n 0, 104), (104, .getfield 39, 107), (107, .invokevirtual 297, 110), (110, .ireturn, 111)]))))))
theorem ok_X7_renderLock : e_ok mX7_renderLock := ⟨by decide +kernel, rfl, by decide +kernel⟩
def mX7_appendPositions : MD := (RX7, (yX7_appendPositions, (cX7_appendPositions, (3, (none, ([], [(0, .iconst 0, 1), (1, .istore_n 2, 2), (2, .iload_n 2, 3), (3, .iconst 3, 4), (4, .if_icmp .ge 20, 7), (7, .aload_n 0, 8), (8, .getfield 39, 11), (11, .aload_n 1, 12), (12, .iload_n 2, 13), (13, .iaload, 14), (14, .invokevirtual 294, 17), (17, .pop, 18), (18, .iinc 2 1, 21), (21, .goto (-19), 24), (24, .return_, 25)]))))))
theorem ok_X7_appendPositions : e_ok mX7_appendPositions := ⟨by decide +kernel, rfl, by decide +kernel⟩
def mX7_renderOvens : MD := (RX7, (yX7_renderOvens, (cX7_renderOvens, (2, (some .int, ([], [(0, .aload_n 0, 1), (1, .getfield 39, 4), (4, .iconst 0, 5), (5, .invokevirtual 283, 8), (8, .iconst 0, 9), (9, .istore_n 1, 10), (10, .iload_n 1, 11), (11, .iconst 2, 12), (12, .if_icmp .ge 97, 15), (15, .iload_n 1, 16), (16, .ifCond .le 13, 19), (19, .aload_n 0, 20), (20, .getfield 39, 23), (23, .bipush 32, 25), (25, .invokevirtual 290, 28), (28, .pop, 29), (29, .aload_n 0, 30), (30, .getfield 39, 33), (33, .iload_n 1, 34), (34, .invokevirtual 294, 37), (37, .bipush 58, 39), (39, .invokevirtual 290, 42), (42, .pop, 43), (43, .aload_n 0, 44), (44, .getfield 10, 47), (47, .getfield 219, 50), (50, .iload_n 1, 51), (51, .iaload, 52), (52, .iconst (-1), 53), (53, .if_icmp .ne 16, 56), (56, .aload_n 0, 57), (57, .getfield 39, 60), (60, .bipush 45, 62), (62, .invokevirtual 290, 65), (65, .pop, 66), (66, .goto 37, 69), (69, .aload_n 0, 70), (70, .getfield 39, 73), (73, .aload_n 0, 74), (74, .getfield 10, 77), (77, .getfield 219, 80), (80, .iload_n 1, 81), (81, .iaload, 82), (82, .invokevirtual 294, 85), (85, .bipush 120, 87), (87, .invokevirtual 290, 90), (90, .aload_n 0, 91), (91, .getfield 10, 94), (94, .getfield 224, 97), (97, .iload_n 1, 98), (98, .iaload, 99), (99, .invokevirtual 294, 102), (102, .pop, 103), (103, .iinc 1 1, 106), (106, .goto (-96), 109), (109, .aload_n 0, 110), (110, .getfield 39, 113), (113, .invokevirtual 297, 116), (116, .ireturn, 117)]))))))
theorem ok_X7_renderOvens : e_ok mX7_renderOvens := ⟨by decide +kernel, rfl, by decide +kernel⟩
def mX7_outputAt : MD := (RX7, (yX7_outputAt, (cX7_outputAt, (2, (some .char, ([], [(0, .iload_n 1, 1), (1, .ifCond .lt 14, 4), (4, .iload_n 1, 5), (5, .aload_n 0, 6), (6, .getfield 39, 9), (9, .invokevirtual 297, 12), (12, .if_icmp .lt 14, 15), (15, .new 112, 18), (18, .dup, 19), (19, .ldc_w 300, 22), (22, .invokespecial 116, 25), (25, .athrow, 26), (26, .aload_n 0, 27), (27, .getfield 39, 30), (30, .iload_n 1, 31), (31, .invokevirtual 302, 34), (34, .ireturn, 35)]))))))
theorem ok_X7_outputAt : e_ok mX7_outputAt := ⟨by decide +kernel, rfl, by decide +kernel⟩
def mX7_type : MD := (RX7, (yX7_type, (cX7_type, (2, (some .int, ([], [(0, .iload_n 1, 1), (1, .bipush 32, 3), (3, .if_icmp .lt 9, 6), (6, .iload_n 1, 7), (7, .bipush 126, 9), (9, .if_icmp .le 14, 12), (12, .new 119, 15), (15, .dup, 16), (16, .ldc_w 306, 19), (19, .invokespecial 123, 22), (22, .athrow, 23), (23, .aload_n 0, 24), (24, .getfield 32, 27), (27, .getfield 308, 30), (30, .invokevirtual 297, 33), (33, .bipush 60, 35), (35, .if_icmp .lt 14, 38), (38, .new 124, 41), (41, .dup, 42), (42, .ldc_w 311, 45), (45, .invokespecial 128, 48), (48, .athrow, 49), (49, .aload_n 0, 50), (50, .getfield 32, 53), (53, .getfield 308, 56), (56, .iload_n 1, 57), (57, .invokevirtual 290, 60), (60, .pop, 61), (61, .aload_n 0, 62), (62, .getfield 32, 65), (65, .getfield 308, 68), (68, .invokevirtual 297, 71), (71, .ireturn, 72)]))))))
theorem ok_X7_type : e_ok mX7_type := ⟨by decide +kernel, rfl, by decide +kernel⟩
def mX7_runScript : MD := (RX7, (yX7_runScript, (cX7_runScript, (3, (some .int, ([], [(0, .aload_n 0, 1), (1, .getfield 32, 4), (4, .invokevirtual 313, 7), (7, .istore_n 1, 8), (8, .iload_n 1, 9), (9, .iconst (-1), 10), (10, .if_icmp .ne 36, 13), (13, .aload_n 0, 14), (14, .aload_n 0, 15), (15, .getfield 32, 18), (18, .getfield 316, 21), (21, .putfield 47, 24), (24, .aload_n 0, 25), (25, .getfield 32, 28), (28, .getfield 308, 31), (31, .iconst 0, 32), (32, .invokevirtual 283, 35), (35, .new 119, 38), (38, .dup, 39), (39, .ldc_w 319, 42), (42, .invokespecial 123, 45), (45, .athrow, 46), (46, .aload_n 0, 47), (47, .getfield 16, 50), (50, .aload_n 0, 51), (51, .getfield 10, 54), (54, .invokevirtual 205, 57), (57, .aload_n 0, 58), (58, .iload_n 1, 59), (59, .invokevirtual 321, 62), (62, .istore_n 2, 63), (63, .aload_n 0, 64), (64, .getfield 32, 67), (67, .getfield 308, 70), (70, .iconst 0, 71), (71, .invokevirtual 283, 74), (74, .iload_n 2, 75), (75, .iload_n 1, 76), (76, .if_icmp .ge 30, 79), (79, .aload_n 0, 80), (80, .getfield 10, 83), (83, .aload_n 0, 84), (84, .getfield 16, 87), (87, .invokevirtual 205, 90), (90, .aload_n 0, 91), (91, .iload_n 2, 92), (92, .putfield 51, 95), (95, .new 124, 98), (98, .dup, 99), (99, .ldc_w 324, 102), (102, .invokespecial 128, 105), (105, .athrow, 106), (106, .aload_n 0, 107), (107, .getfield 25, 110), (110, .aload_n 0, 111), (111, .getfield 16, 114), (114, .invokevirtual 93, 117), (117, .iload_n 1, 118), (118, .ireturn, 119)]))))))
theorem ok_X7_runScript : e_ok mX7_runScript := ⟨by decide +kernel, rfl, by decide +kernel⟩
def mX7_carryOutCommands : MD := (RX7, (yX7_carryOutCommands, (cX7_carryOutCommands, (7, (some .int, ([], [(0, .aload_n 0, 1), (1, .getfield 32, 4), (4, .getfield 326, 7), (7, .astore_n 2, 8), (8, .iconst 0, 9), (9, .istore_n 3, 10), (10, .iconst 0, 11), (11, .istore 4, 13), (13, .iload 4, 15), (15, .iload_n 1, 16), (16, .if_icmp .ge 93, 19), (19, .aload_n 0, 20), (20, .getfield 32, 23), (23, .iload_n 3, 24), (24, .invokevirtual 329, 27), (27, .astore 5, 29), (29, .aload 5, 31), (31, .ifnonnull 6, 34), (34, .iload 4, 36), (36, .ireturn, 37), (37, .aload_n 0, 38), (38, .getfield 10, 41), (41, .aload 5, 43), (43, .aload_n 2, 44), (44, .iconst 0, 45), (45, .iaload, 46), (46, .aload_n 2, 47), (47, .iconst 1, 48), (48, .iaload, 49), (49, .aload_n 2, 50), (50, .iconst 2, 51), (51, .iaload, 52), (52, .aload_n 2, 53), (53, .iconst 3, 54), (54, .iaload, 55), (55, .invokevirtual 85, 58), (58, .astore 6, 60), (60, .aload 6, 62), (62, .getstatic 333, 65), (65, .if_acmp .eq 6, 68), (68, .iload 4, 70), (70, .ireturn, 71), (71, .aload_n 0, 72), (72, .getfield 10, 75), (75, .aload 5, 77), (77, .aload_n 2, 78), (78, .iconst 0, 79), (79, .iaload, 80), (80, .aload_n 2, 81), (81, .iconst 1, 82), (82, .iaload, 83), (83, .aload_n 2, 84), (84, .iconst 2, 85), (85, .iaload, 86), (86, .aload_n 2, 87), (87, .iconst 3, 88), (88, .iaload, 89), (89, .invokevirtual 97, 92), (92, .pop, 93), (93, .aload_n 0, 94), (94, .getfield 32, 97), (97, .getfield 316, 100), (100, .iconst 1, 101), (101, .iadd, 102), (102, .istore_n 3, 103), (103, .iinc 4 1, 106), (106, .goto (-93), 109), (109, .iload_n 1, 110), (110, .ireturn, 111)]))))))
theorem ok_X7_carryOutCommands : e_ok mX7_carryOutCommands := ⟨by decide +kernel, rfl, by decide +kernel⟩
def mX7_errorPosition : MD := (RX7, (yX7_errorPosition, (cX7_errorPosition, (1, (some .int, ([], [(0, .aload_n 0, 1), (1, .getfield 47, 4), (4, .iconst (-1), 5), (5, .if_icmp .ne 14, 8), (8, .new 198, 11), (11, .dup, 12), (12, .ldc_w 337, 15), (15, .invokespecial 202, 18), (18, .athrow, 19), (19, .aload_n 0, 20), (20, .getfield 47, 23), (23, .ireturn, 24)]))))))
theorem ok_X7_errorPosition : e_ok mX7_errorPosition := ⟨by decide +kernel, rfl, by decide +kernel⟩
def mX7_failedCommand : MD := (RX7, (yX7_failedCommand, (cX7_failedCommand, (1, (some .int, ([], [(0, .aload_n 0, 1), (1, .getfield 51, 4), (4, .iconst (-1), 5), (5, .if_icmp .ne 14, 8), (8, .new 198, 11), (11, .dup, 12), (12, .ldc_w 339, 15), (15, .invokespecial 202, 18), (18, .athrow, 19), (19, .aload_n 0, 20), (20, .getfield 51, 23), (23, .ireturn, 24)]))))))
theorem ok_X7_failedCommand : e_ok mX7_failedCommand := ⟨by decide +kernel, rfl, by decide +kernel⟩
def mX7_undo : MD := (RX7, (yX7_undo, (cX7_undo, (1, (some .int, ([], [(0, .aload_n 0, 1), (1, .getfield 25, 4), (4, .getfield 341, 7), (7, .ifCond .ne 14, 10), (10, .new 198, 13), (13, .dup, 14), (14, .ldc_w 344, 17), (17, .invokespecial 202, 20), (20, .athrow, 21), (21, .aload_n 0, 22), (22, .getfield 25, 25), (25, .aload_n 0, 26), (26, .getfield 10, 29), (29, .invokevirtual 346, 32), (32, .aload_n 0, 33), (33, .getfield 25, 36), (36, .getfield 341, 39), (39, .ireturn, 40)]))))))
theorem ok_X7_undo : e_ok mX7_undo := ⟨by decide +kernel, rfl, by decide +kernel⟩
def mX7_save : MD := (RX7, (yX7_save, (cX7_save, (1, (some .int, ([], [(0, .aload_n 0, 1), (1, .getfield 19, 4), (4, .aload_n 0, 5), (5, .getfield 10, 8), (8, .invokevirtual 205, 11), (11, .aload_n 0, 12), (12, .iconst 1, 13), (13, .putfield 43, 16), (16, .aload_n 0, 17), (17, .getfield 10, 20), (20, .getfield 134, 23), (23, .ireturn, 24)]))))))
theorem ok_X7_save : e_ok mX7_save := ⟨by decide +kernel, rfl, by decide +kernel⟩
def mX7_restore : MD := (RX7, (yX7_restore, (cX7_restore, (1, (some .int, ([], [(0, .aload_n 0, 1), (1, .getfield 43, 4), (4, .ifCond .ne 14, 7), (7, .new 124, 10), (10, .dup, 11), (11, .ldc_w 349, 14), (14, .invokespecial 128, 17), (17, .athrow, 18), (18, .aload_n 0, 19), (19, .getfield 10, 22), (22, .aload_n 0, 23), (23, .getfield 19, 26), (26, .invokevirtual 205, 29), (29, .aload_n 0, 30), (30, .getfield 25, 33), (33, .iconst 0, 34), (34, .putfield 341, 37), (37, .aload_n 0, 38), (38, .getfield 10, 41), (41, .getfield 134, 44), (44, .ireturn, 45)]))))))
theorem ok_X7_restore : e_ok mX7_restore := ⟨by decide +kernel, rfl, by decide +kernel⟩
def mX7_isDial : MD := (RX7, (yX7_isDial, (cX7_isDial, (1, (some .boolean, ([], [(0, .iload_n 0, 1), (1, .ifCond .lt 12, 4), (4, .iload_n 0, 5), (5, .iconst 3, 6), (6, .if_icmp .ge 7, 9), (9, .iconst 1, 10), (10, .goto 4, 13), (13, .iconst 0, 14), (14, .ireturn, 15)]))))))
theorem ok_X7_isDial : e_ok mX7_isDial := ⟨by decide +kernel, rfl, by decide +kernel⟩
def mX7_isOven : MD := (RX7, (yX7_isOven, (cX7_isOven, (1, (some .boolean, ([], [(0, .iload_n 0, 1), (1, .ifCond .lt 12, 4), (4, .iload_n 0, 5), (5, .iconst 2, 6), (6, .if_icmp .ge 7, 9), (9, .iconst 1, 10), (10, .goto 4, 13), (13, .iconst 0, 14), (14, .ireturn, 15)]))))))
theorem ok_X7_isOven : e_ok mX7_isOven := ⟨by decide +kernel, rfl, by decide +kernel⟩
def mX7_isPosition : MD := (RX7, (yX7_isPosition, (cX7_isPosition, (1, (some .boolean, ([], [(0, .iload_n 0, 1), (1, .ifCond .lt 13, 4), (4, .iload_n 0, 5), (5, .bipush 10, 7), (7, .if_icmp .ge 7, 10), (10, .iconst 1, 11), (11, .goto 4, 14), (14, .iconst 0, 15), (15, .ireturn, 16)]))))))
theorem ok_X7_isPosition : e_ok mX7_isPosition := ⟨by decide +kernel, rfl, by decide +kernel⟩
def mX7_areNoPositions : MD := (RX7, (yX7_areNoPositions, (cX7_areNoPositions, (3, (some .boolean, ([], [(0, .iload_n 0, 1), (1, .invokestatic 351, 4), (4, .ifCond .eq 17, 7), (7, .iload_n 1, 8), (8, .invokestatic 351, 11), (11, .ifCond .eq 10, 14), (14, .iload_n 2, 15), (15, .invokestatic 351, 18), (18, .ifCond .ne 7, 21), (21, .iconst 1, 22), (22, .goto 4, 25), (25, .iconst 0, 26), (26, .ireturn, 27)]))))))
theorem ok_X7_areNoPositions : e_ok mX7_areNoPositions := ⟨by decide +kernel, rfl, by decide +kernel⟩
def mX8_init : MD := (RX8, (yX8_init, (cX8_init, (1, (none, ([], [(0, .aload_n 0, 1), (1, .invokespecial 3, 4), (4, .aload_n 0, 5), (5, .bipush 85, 7), (7, .newarray .int, 9), (9, .putfield 9, 12), (12, .aload_n 0, 13), (13, .bipush 85, 15), (15, .newarray .int, 17), (17, .putfield 13, 20), (20, .aload_n 0, 21), (21, .bipush 85, 23), (23, .newarray .int, 25), (25, .putfield 16, 28), (28, .aload_n 0, 29), (29, .bipush 85, 31), (31, .newarray .int, 33), (33, .putfield 19, 36), (36, .aload_n 0, 37), (37, .sipush 680, 40), (40, .newarray .int, 42), (42, .putfield 22, 45), (45, .aload_n 0, 46), (46, .iconst (-1), 47), (47, .putfield 25, 50), (50, .aload_n 0, 51), (51, .iconst (-1), 52), (52, .putfield 29, 55), (55, .aload_n 0, 56), (56, .bipush 30, 58), (58, .newarray .int, 60), (60, .putfield 32, 63), (63, .aload_n 0, 64), (64, .bipush 60, 66), (66, .newarray .int, 68), (68, .putfield 35, 71), (71, .aload_n 0, 72), (72, .sipush 155, 75), (75, .newarray .int, 77), (77, .putfield 38, 80), (80, .return_, 81)]))))))
theorem ok_X8_init : e_ok mX8_init := ⟨by decide +kernel, rfl, by decide +kernel⟩
def mX8_thrown : MD := (RX8, (yX8_thrown, (cX8_thrown, (1, (some .int, ([], [(0, .aload_n 0, 1), (1, .getfield 41, 4), (4, .ireturn, 5)]))))))
theorem ok_X8_thrown : e_ok mX8_thrown := ⟨by decide +kernel, rfl, by decide +kernel⟩
def mX8_isIn : MD := (RX8, (yX8_isIn, (cX8_isIn, (3, (some .boolean, ([], [(0, .iload_n 0, 1), (1, .iload_n 1, 2), (2, .if_icmp .lt 12, 5), (5, .iload_n 0, 6), (6, .iload_n 2, 7), (7, .if_icmp .gt 7, 10), (10, .iconst 1, 11), (11, .goto 4, 14), (14, .iconst 0, 15), (15, .ireturn, 16)]))))))
theorem ok_X8_isIn : e_ok mX8_isIn := ⟨by decide +kernel, rfl, by decide +kernel⟩
def mX8_copies : MD := (RX8, (yX8_copies, (cX8_copies, (5, (none, ([], [(0, .iconst 0, 1), (1, .istore 4, 3), (3, .iload 4, 5), (5, .bipush 85, 7), (7, .if_icmp .ge 21, 10), (10, .aload_n 2, 11), (11, .iload_n 3, 12), (12, .iload 4, 14), (14, .iadd, 15), (15, .aload_n 0, 16), (16, .iload_n 1, 17), (17, .iload 4, 19), (19, .iadd, 20), (20, .iaload, 21), (21, .iastore, 22), (22, .iinc 4 1, 25), (25, .goto (-22), 28), (28, .return_, 29)]))))))
theorem ok_X8_copies : e_ok mX8_copies := ⟨by decide +kernel, rfl, by decide +kernel⟩
def mX8_keeps : MD := (RX8, (yX8_keeps, (cX8_keeps, (1, (none, ([], [(0, .aload_n 0, 1), (1, .getfield 9, 4), (4, .iconst 0, 5), (5, .aload_n 0, 6), (6, .getfield 13, 9), (9, .iconst 0, 10), (10, .invokestatic 44, 13), (13, .aload_n 0, 14), (14, .iconst 0, 15), (15, .putfield 41, 18), (18, .return_, 19)]))))))
theorem ok_X8_keeps : e_ok mX8_keeps := ⟨by decide +kernel, rfl, by decide +kernel⟩
def mX8_ends : MD := (RX8, (yX8_ends, (cX8_ends, (3, (some .int, ([], [(0, .aload_n 0, 1), (1, .getfield 41, 4), (4, .ifCond .eq 5, 7), (7, .iconst 0, 8), (8, .ireturn, 9), (9, .aload_n 0, 10), (10, .getfield 48, 13), (13, .bipush 8, 15), (15, .if_icmp .ne 48, 18), (18, .iconst 1, 19), (19, .istore_n 2, 20), (20, .iload_n 2, 21), (21, .bipush 8, 23), (23, .if_icmp .ge 30, 26), (26, .aload_n 0, 27), (27, .getfield 22, 30), (30, .bipush 85, 32), (32, .iload_n 2, 33), (33, .imul, 34), (34, .aload_n 0, 35), (35, .getfield 22, 38), (38, .bipush 85, 40), (40, .iload_n 2, 41), (41, .iconst 1, 42), (42, .isub, 43), (43, .imul, 44), (44, .invokestatic 44, 47), (47, .iinc 2 1, 50), (50, .goto (-30), 53), (53, .aload_n 0, 54), (54, .dup, 55), (55, .getfield 48, 58), (58, .iconst 1, 59), (59, .isub, 60), (60, .putfield 48, 63), (63, .aload_n 0, 64), (64, .getfield 13, 67), (67, .iconst 0, 68), (68, .aload_n 0, 69), (69, .getfield 22, 72), (72, .bipush 85, 74), (74, .aload_n 0, 75), (75, .getfield 48, 78), (78, .imul, 79), (79, .invokestatic 44, 82), (82, .aload_n 0, 83), (83, .dup, 84), (84, .getfield 48, 87), (87, .iconst 1, 88), (88, .iadd, 89), (89, .putfield 48, 92), (92, .iload_n 1, 93), (93, .ireturn, 94)]))))))
theorem ok_X8_ends : e_ok mX8_ends := ⟨by decide +kernel, rfl, by decide +kernel⟩
def mX8_isThrown : MD := (RX8, (yX8_isThrown, (cX8_isThrown, (3, (some .boolean, ([], [(0, .aload_n 0, 1), (1, .iload_n 1, 2), (2, .ifCond .eq 7, 5), (5, .iload_n 2, 6), (6, .goto 4, 9), (9, .iconst 0, 10), (10, .putfield 41, 13), (13, .iload_n 1, 14), (14, .ireturn, 15)]))))))
theorem ok_X8_isThrown : e_ok mX8_isThrown := ⟨by decide +kernel, rfl, by decide +kernel⟩
def mX8_of : MD := (RX8, (yX8_of, (cX8_of, (3, (some .int, ([], [(0, .aload_n 0, 1), (1, .getfield 9, 4), (4, .bipush 7, 6), (6, .bipush 9, 8), (8, .iload_n 1, 9), (9, .imul, 10), (10, .iadd, 11), (11, .iload_n 2, 12), (12, .iadd, 13), (13, .iaload, 14), (14, .ireturn, 15)]))))))
theorem ok_X8_of : e_ok mX8_of := ⟨by decide +kernel, rfl, by decide +kernel⟩
def mX8_sets : MD := (RX8, (yX8_sets, (cX8_sets, (4, (none, ([], [(0, .aload_n 0, 1), (1, .getfield 9, 4), (4, .bipush 7, 6), (6, .bipush 9, 8), (8, .iload_n 1, 9), (9, .imul, 10), (10, .iadd, 11), (11, .iload_n 2, 12), (12, .iadd, 13), (13, .iload_n 3, 14), (14, .iastore, 15), (15, .return_, 16)]))))))
theorem ok_X8_sets : e_ok mX8_sets := ⟨by decide +kernel, rfl, by decide +kernel⟩
def mX8_ofOven : MD := (RX8, (yX8_ofOven, (cX8_ofOven, (3, (some .int, ([], [(0, .aload_n 0, 1), (1, .getfield 9, 4), (4, .bipush 61, 6), (6, .iconst 2, 7), (7, .iload_n 1, 8), (8, .imul, 9), (9, .iadd, 10), (10, .iload_n 2, 11), (11, .iadd, 12), (12, .iaload, 13), (13, .ireturn, 14)]))))))
theorem ok_X8_ofOven : e_ok mX8_ofOven := ⟨by decide +kernel, rfl, by decide +kernel⟩
def mX8_setsOven : MD := (RX8, (yX8_setsOven, (cX8_setsOven, (4, (none, ([], [(0, .aload_n 0, 1), (1, .getfield 9, 4), (4, .bipush 61, 6), (6, .iconst 2, 7), (7, .iload_n 1, 8), (8, .imul, 9), (9, .iadd, 10), (10, .iload_n 2, 11), (11, .iadd, 12), (12, .iload_n 3, 13), (13, .iastore, 14), (14, .return_, 15)]))))))
theorem ok_X8_setsOven : e_ok mX8_setsOven := ⟨by decide +kernel, rfl, by decide +kernel⟩
def mX8_isDoor : MD := (RX8, (yX8_isDoor, (cX8_isDoor, (2, (some .boolean, ([], [(0, .iload_n 1, 1), (1, .iconst 0, 2), (2, .aload_n 0, 3), (3, .getfield 9, 6), (6, .iconst 2, 7), (7, .iaload, 8), (8, .iconst 1, 9), (9, .isub, 10), (10, .invokestatic 51, 13), (13, .ireturn, 14)]))))))
theorem ok_X8_isDoor : e_ok mX8_isDoor := ⟨by decide +kernel, rfl, by decide +kernel⟩
def mX8_isDial : MD := (RX8, (yX8_isDial, (cX8_isDial, (1, (some .boolean, ([], [(0, .iload_n 0, 1), (1, .iconst 0, 2), (2, .iconst 2, 3), (3, .invokestatic 51, 6), (6, .ireturn, 7)]))))))
theorem ok_X8_isDial : e_ok mX8_isDial := ⟨by decide +kernel, rfl, by decide +kernel⟩
def mX8_isOven : MD := (RX8, (yX8_isOven, (cX8_isOven, (1, (some .boolean, ([], [(0, .iload_n 0, 1), (1, .iconst 0, 2), (2, .iconst 1, 3), (3, .invokestatic 51, 6), (6, .ireturn, 7)]))))))
theorem ok_X8_isOven : e_ok mX8_isOven := ⟨by decide +kernel, rfl, by decide +kernel⟩
def mX8_isSetting : MD := (RX8, (yX8_isSetting, (cX8_isSetting, (3, (some .boolean, ([], [(0, .iload_n 0, 1), (1, .iconst 0, 2), (2, .bipush 9, 4), (4, .invokestatic 51, 7), (7, .ifCond .eq 27, 10), (10, .iload_n 1, 11), (11, .iconst 0, 12), (12, .bipush 9, 14), (14, .invokestatic 51, 17), (17, .ifCond .eq 17, 20), (20, .iload_n 2, 21), (21, .iconst 0, 22), (22, .bipush 9, 24), (24, .invokestatic 51, 27), (27, .ifCond .eq 7, 30), (30, .iconst 1, 31), (31, .goto 4, 34), (34, .iconst 0, 35), (35, .ireturn, 36)]))))))
theorem ok_X8_isSetting : e_ok mX8_isSetting := ⟨by decide +kernel, rfl, by decide +kernel⟩
def mX8_bakes : MD := (RX8, (yX8_bakes, (cX8_bakes, (2, (some .boolean, ([], [(0, .aload_n 0, 1), (1, .iload_n 1, 2), (2, .bipush 8, 4), (4, .invokevirtual 55, 7), (7, .ifCond .le 7, 10), (10, .iconst 1, 11), (11, .goto 4, 14), (14, .iconst 0, 15), (15, .ireturn, 16)]))))))
theorem ok_X8_bakes : e_ok mX8_bakes := ⟨by decide +kernel, rfl, by decide +kernel⟩
def mX8_open : MD := (RX8, (yX8_open, (cX8_open, (2, (some .boolean, ([], [(0, .aload_n 0, 1), (1, .iload_n 1, 2), (2, .bipush 6, 4), (4, .invokevirtual 55, 7), (7, .iconst 1, 8), (8, .if_icmp .eq 11, 11), (11, .aload_n 0, 12), (12, .iload_n 1, 13), (13, .invokevirtual 59, 16), (16, .ifCond .eq 7, 19), (19, .iconst 1, 20), (20, .goto 4, 23), (23, .iconst 0, 24), (24, .ireturn, 25)]))))))
theorem ok_X8_open : e_ok mX8_open := ⟨by decide +kernel, rfl, by decide +kernel⟩
def mX8_away : MD := (RX8, (yX8_away, (cX8_away, (4, (some .int, ([], [(0, .aload_n 0, 1), (1, .iload_n 1, 2), (2, .iconst 0, 3), (3, .iload_n 2, 4), (4, .iadd, 5), (5, .invokevirtual 55, 8), (8, .aload_n 0, 9), (9, .iload_n 1, 10), (10, .iconst 3, 11), (11, .iload_n 2, 12), (12, .iadd, 13), (13, .invokevirtual 55, 16), (16, .isub, 17), (17, .istore_n 3, 18), (18, .iload_n 3, 19), (19, .ifCond .ge 8, 22), (22, .iload_n 3, 23), (23, .ineg, 24), (24, .goto 4, 27), (27, .iload_n 3, 28), (28, .istore_n 3, 29), (29, .iload_n 3, 30), (30, .iconst 5, 31), (31, .if_icmp .le 10, 34), (34, .bipush 10, 36), (36, .iload_n 3, 37), (37, .isub, 38), (38, .goto 4, 41), (41, .iload_n 3, 42), (42, .ireturn, 43)]))))))
theorem ok_X8_away : e_ok mX8_away := ⟨by decide +kernel, rfl, by decide +kernel⟩
def mX8_misfits : MD := (RX8, (yX8_misfits, (cX8_misfits, (5, (some .int, ([], [(0, .iconst 0, 1), (1, .istore_n 3, 2), (2, .iconst 0, 3), (3, .istore 4, 5), (5, .iload 4, 7), (7, .iconst 3, 8), (8, .if_icmp .ge 28, 11), (11, .iload_n 3, 12), (12, .aload_n 0, 13), (13, .iload_n 1, 14), (14, .iload 4, 16), (16, .invokevirtual 63, 19), (19, .iload_n 2, 20), (20, .if_icmp .le 7, 23), (23, .iconst 1, 24), (24, .goto 4, 27), (27, .iconst 0, 28), (28, .iadd, 29), (29, .istore_n 3, 30), (30, .iinc 4 1, 33), (33, .goto (-28), 36), (36, .iload_n 3, 37), (37, .ireturn, 38)]))))))
theorem ok_X8_misfits : e_ok mX8_misfits := ⟨by decide +kernel, rfl, by decide +kernel⟩
def mX8_playOf : MD := (RX8, (yX8_playOf, (cX8_playOf, (2, (some .int, ([], [(0, .aload_n 0, 1), (1, .iload_n 1, 2), (2, .bipush 7, 4), (4, .invokevirtual 55, 7), (7, .iconst 5, 8), (8, .idiv, 9), (9, .ireturn, 10)]))))))
theorem ok_X8_playOf : e_ok mX8_playOf := ⟨by decide +kernel, rfl, by decide +kernel⟩
def mX8_combines : MD := (RX8, (yX8_combines, (cX8_combines, (5, (none, ([], [(0, .aload_n 0, 1), (1, .iload_n 1, 2), (2, .iconst 3, 3), (3, .iload_n 2, 4), (4, .invokevirtual 66, 7), (7, .aload_n 0, 8), (8, .iload_n 1, 9), (9, .iconst 4, 10), (10, .iload_n 3, 11), (11, .invokevirtual 66, 14), (14, .aload_n 0, 15), (15, .iload_n 1, 16), (16, .iconst 5, 17), (17, .iload 4, 19), (19, .invokevirtual 66, 22), (22, .return_, 23)]))))))
theorem ok_X8_combines : e_ok mX8_combines := ⟨by decide +kernel, rfl, by decide +kernel⟩
def mX8_doors : MD := (RX8, (yX8_doors, (cX8_doors, (4, (some .int, ([], [(0, .aload_n 0, 1), (1, .iload_n 1, 2), (2, .iload_n 2, 3), (3, .iload_n 3, 4), (4, .invokestatic 70, 7), (7, .ifCond .ne 7, 10), (10, .iconst 1, 11), (11, .goto 4, 14), (14, .iconst 0, 15), (15, .iconst 1, 16), (16, .invokevirtual 73, 19), (19, .ifCond .ne 27, 22), (22, .aload_n 0, 23), (23, .aload_n 0, 24), (24, .getfield 9, 27), (27, .iconst 2, 28), (28, .iaload, 29), (29, .bipush 6, 31), (31, .if_icmp .ne 7, 34), (34, .iconst 1, 35), (35, .goto 4, 38), (38, .iconst 0, 39), (39, .iconst 2, 40), (40, .invokevirtual 73, 43), (43, .ifCond .eq 5, 46), (46, .iconst 0, 47), (47, .ireturn, 48), (48, .aload_n 0, 49), (49, .aload_n 0, 50), (50, .getfield 9, 53), (53, .iconst 2, 54), (54, .iaload, 55), (55, .iload_n 1, 56), (56, .iload_n 2, 57), (57, .iload_n 3, 58), (58, .invokevirtual 77, 61), (61, .aload_n 0, 62), (62, .getfield 9, 65), (65, .iconst 2, 66), (66, .dup2, 67), (67, .iaload, 68), (68, .iconst 1, 69), (69, .iadd, 70), (70, .iastore, 71), (71, .aload_n 0, 72), (72, .getfield 9, 75), (75, .iconst 2, 76), (76, .iaload, 77), (77, .iconst 1, 78), (78, .isub, 79), (79, .ireturn, 80)]))))))
theorem ok_X8_doors : e_ok mX8_doors := ⟨by decide +kernel, rfl, by decide +kernel⟩
def mX8_addDoor : MD := (RX8, (yX8_addDoor, (cX8_addDoor, (4, (some .int, ([], [(0, .aload_n 0, 1), (1, .invokevirtual 81, 4), (4, .aload_n 0, 5), (5, .aload_n 0, 6), (6, .iload_n 1, 7), (7, .iload_n 2, 8), (8, .iload_n 3, 9), (9, .invokevirtual 84, 12), (12, .invokevirtual 88, 15), (15, .ireturn, 16)]))))))
theorem ok_X8_addDoor : e_ok mX8_addDoor := ⟨by decide +kernel, rfl, by decide +kernel⟩
def mX8_turns : MD := (RX8, (yX8_turns, (cX8_turns, (5, (some .int, ([], [(0, .aload_n 0, 1), (1, .aload_n 0, 2), (2, .iload_n 1, 3), (3, .invokevirtual 92, 6), (6, .ifCond .eq 10, 9), (9, .iload_n 2, 10), (10, .invokestatic 95, 13), (13, .ifCond .ne 7, 16), (16, .iconst 1, 17), (17, .goto 4, 20), (20, .iconst 0, 21), (21, .iconst 1, 22), (22, .invokevirtual 73, 25), (25, .ifCond .ne 40, 28), (28, .aload_n 0, 29), (29, .iload_n 3, 30), (30, .bipush (-9), 32), (32, .bipush 9, 34), (34, .invokestatic 51, 37), (37, .ifCond .ne 7, 40), (40, .iconst 1, 41), (41, .goto 4, 44), (44, .iconst 0, 45), (45, .iconst 2, 46), (46, .invokevirtual 73, 49), (49, .ifCond .ne 16, 52), (52, .aload_n 0, 53), (53, .aload_n 0, 54), (54, .iload_n 1, 55), (55, .invokevirtual 59, 58), (58, .iconst 3, 59), (59, .invokevirtual 73, 62), (62, .ifCond .eq 5, 65), (65, .iconst 0, 66), (66, .ireturn, 67), (67, .aload_n 0, 68), (68, .iload_n 1, 69), (69, .iconst 0, 70), (70, .iload_n 2, 71), (71, .iadd, 72), (72, .invokevirtual 55, 75), (75, .iload_n 3, 76), (76, .iadd, 77), (77, .bipush 10, 79), (79, .iadd, 80), (80, .bipush 10, 82), (82, .irem, 83), (83, .istore 4, 85), (85, .aload_n 0, 86), (86, .iload_n 1, 87), (87, .iconst 0, 88), (88, .iload_n 2, 89), (89, .iadd, 90), (90, .iload 4, 92), (92, .invokevirtual 66, 95), (95, .iload 4, 97), (97, .ireturn, 98)]))))))
theorem ok_X8_turns : e_ok mX8_turns := ⟨by decide +kernel, rfl, by decide +kernel⟩
def mX8_turn : MD := (RX8, (yX8_turn, (cX8_turn, (4, (some .int, ([], [(0, .aload_n 0, 1), (1, .invokevirtual 81, 4), (4, .aload_n 0, 5), (5, .aload_n 0, 6), (6, .iload_n 1, 7), (7, .iload_n 2, 8), (8, .iload_n 3, 9), (9, .invokevirtual 98, 12), (12, .invokevirtual 88, 15), (15, .ireturn, 16)]))))))
theorem ok_X8_turn : e_ok mX8_turn := ⟨by decide +kernel, rfl, by decide +kernel⟩
def mX8_records : MD := (RX8, (yX8_records, (cX8_records, (4, (none, ([], [(0, .bipush 84, 2), (2, .istore_n 3, 3), (3, .iload_n 3, 4), (4, .bipush 67, 6), (6, .if_icmp .lt 23, 9), (9, .aload_n 0, 10), (10, .getfield 9, 13), (13, .iload_n 3, 14), (14, .aload_n 0, 15), (15, .getfield 9, 18), (18, .iload_n 3, 19), (19, .iconst 2, 20), (20, .isub, 21), (21, .iaload, 22), (22, .iastore, 23), (23, .iinc 3 (-1), 26), (26, .goto (-23), 29), (29, .aload_n 0, 30), (30, .getfield 9, 33), (33, .bipush 65, 35), (35, .iload_n 1, 36), (36, .iastore, 37), (37, .aload_n 0, 38), (38, .getfield 9, 41), (41, .bipush 66, 43), (43, .iload_n 2, 44), (44, .iastore, 45), (45, .aload_n 0, 46), (46, .getfield 9, 49), (49, .bipush 6, 51), (51, .dup2, 52), (52, .iaload, 53), (53, .aload_n 0, 54), (54, .getfield 9, 57), (57, .bipush 6, 59), (59, .iaload, 60), (60, .bipush 10, 62), (62, .if_icmp .ge 7, 65), (65, .iconst 1, 66), (66, .goto 4, 69), (69, .iconst 0, 70), (70, .iadd, 71), (71, .iastore, 72), (72, .aload_n 0, 73), (73, .getfield 9, 76), (76, .iconst 3, 77), (77, .dup2, 78), (78, .iaload, 79), (79, .iconst 1, 80), (80, .iadd, 81), (81, .iastore, 82), (82, .aload_n 0, 83), (83, .getfield 9, 86), (86, .iconst 4, 87), (87, .dup2, 88), (88, .iaload, 89), (89, .iload_n 2, 90), (90, .iadd, 91), (91, .iastore, 92), (92, .return_, 93)]))))))
theorem ok_X8_records : e_ok mX8_records := ⟨by decide +kernel, rfl, by decide +kernel⟩
def mX8_crumbled : MD := (RX8, (yX8_crumbled, (cX8_crumbled, (2, (some .int, ([], [(0, .iload_n 0, 1), (1, .iload_n 1, 2), (2, .iadd, 3), (3, .bipush 20, 5), (5, .if_icmp .le 8, 8), (8, .bipush 20, 10), (10, .goto 6, 13), (13, .iload_n 0, 14), (14, .iload_n 1, 15), (15, .iadd, 16), (16, .ireturn, 17)]))))))
theorem ok_X8_crumbled : e_ok mX8_crumbled := ⟨by decide +kernel, rfl, by decide +kernel⟩
def mX8_tries : MD := (RX8, (yX8_tries, (cX8_tries, (3, (some .int, ([], [(0, .aload_n 0, 1), (1, .aload_n 0, 2), (2, .iload_n 1, 3), (3, .invokevirtual 92, 6), (6, .ifCond .ne 7, 9), (9, .iconst 1, 10), (10, .goto 4, 13), (13, .iconst 0, 14), (14, .iconst 1, 15), (15, .invokevirtual 73, 18), (18, .ifCond .ne 16, 21), (21, .aload_n 0, 22), (22, .aload_n 0, 23), (23, .iload_n 1, 24), (24, .invokevirtual 101, 27), (27, .iconst 2, 28), (28, .invokevirtual 73, 31), (31, .ifCond .eq 5, 34), (34, .iconst 0, 35), (35, .ireturn, 36), (36, .aload_n 0, 37), (37, .iload_n 1, 38), (38, .aload_n 0, 39), (39, .iload_n 1, 40), (40, .invokevirtual 104, 43), (43, .invokevirtual 107, 46), (46, .istore_n 2, 47), (47, .aload_n 0, 48), (48, .iload_n 1, 49), (49, .bipush 7, 51), (51, .aload_n 0, 52), (52, .iload_n 1, 53), (53, .bipush 7, 55), (55, .invokevirtual 55, 58), (58, .iload_n 2, 59), (59, .invokestatic 110, 62), (62, .invokevirtual 66, 65), (65, .aload_n 0, 66), (66, .iload_n 1, 67), (67, .bipush 6, 69), (69, .iload_n 2, 70), (70, .ifCond .eq 15, 73), (73, .aload_n 0, 74), (74, .iload_n 1, 75), (75, .bipush 7, 77), (77, .invokevirtual 55, 80), (80, .bipush 20, 82), (82, .if_icmp .ne 7, 85), (85, .iconst 1, 86), (86, .goto 4, 89), (89, .iconst 0, 90), (90, .invokevirtual 66, 93), (93, .aload_n 0, 94), (94, .iload_n 1, 95), (95, .iload_n 2, 96), (96, .ifCond .ne 7, 99), (99, .iconst 1, 100), (100, .goto 4, 103), (103, .iconst 0, 104), (104, .invokevirtual 113, 107), (107, .iload_n 2, 108), (108, .ifCond .ne 7, 111), (111, .iconst 1, 112), (112, .goto 4, 115), (115, .iconst 0, 116), (116, .ireturn, 117)]))))))
theorem ok_X8_tries : e_ok mX8_tries := ⟨by decide +kernel, rfl, by decide +kernel⟩
def mX8_tryLock : MD := (RX8, (yX8_tryLock, (cX8_tryLock, (2, (some .boolean, ([], [(0, .aload_n 0, 1), (1, .invokevirtual 81, 4), (4, .aload_n 0, 5), (5, .aload_n 0, 6), (6, .iload_n 1, 7), (7, .invokevirtual 117, 10), (10, .invokevirtual 88, 13), (13, .iconst 1, 14), (14, .if_icmp .ne 7, 17), (17, .iconst 1, 18), (18, .goto 4, 21), (21, .iconst 0, 22), (22, .ireturn, 23)]))))))
theorem ok_X8_tryLock : e_ok mX8_tryLock := ⟨by decide +kernel, rfl, by decide +kernel⟩
def mX8_manyShut : MD := (RX8, (yX8_manyShut, (cX8_manyShut, (3, (some .int, ([], [(0, .iconst 0, 1), (1, .istore_n 1, 2), (2, .iconst 0, 3), (3, .istore_n 2, 4), (4, .iload_n 2, 5), (5, .aload_n 0, 6), (6, .getfield 9, 9), (9, .iconst 2, 10), (10, .iaload, 11), (11, .if_icmp .ge 25, 14), (14, .iload_n 1, 15), (15, .aload_n 0, 16), (16, .iload_n 2, 17), (17, .invokevirtual 101, 20), (20, .ifCond .eq 7, 23), (23, .iconst 0, 24), (24, .goto 4, 27), (27, .iconst 1, 28), (28, .iadd, 29), (29, .istore_n 1, 30), (30, .iinc 2 1, 33), (33, .goto (-29), 36), (36, .iload_n 1, 37), (37, .ireturn, 38)]))))))
theorem ok_X8_manyShut : e_ok mX8_manyShut := ⟨by decide +kernel, rfl, by decide +kernel⟩
def mX8_shuts : MD := (RX8, (yX8_shuts, (cX8_shuts, (2, (some .int, ([], [(0, .aload_n 0, 1), (1, .aload_n 0, 2), (2, .iload_n 1, 3), (3, .invokevirtual 92, 6), (6, .ifCond .ne 7, 9), (9, .iconst 1, 10), (10, .goto 4, 13), (13, .iconst 0, 14), (14, .iconst 1, 15), (15, .invokevirtual 73, 18), (18, .ifCond .ne 57, 21), (21, .aload_n 0, 22), (22, .aload_n 0, 23), (23, .iload_n 1, 24), (24, .invokevirtual 101, 27), (27, .ifCond .eq 11, 30), (30, .aload_n 0, 31), (31, .iload_n 1, 32), (32, .invokevirtual 59, 35), (35, .ifCond .eq 7, 38), (38, .iconst 1, 39), (39, .goto 4, 42), (42, .iconst 0, 43), (43, .iconst 2, 44), (44, .invokevirtual 73, 47), (47, .ifCond .ne 28, 50), (50, .aload_n 0, 51), (51, .aload_n 0, 52), (52, .iload_n 1, 53), (53, .bipush 7, 55), (55, .invokevirtual 55, 58), (58, .bipush 20, 60), (60, .if_icmp .ne 7, 63), (63, .iconst 1, 64), (64, .goto 4, 67), (67, .iconst 0, 68), (68, .iconst 3, 69), (69, .invokevirtual 73, 72), (72, .ifCond .eq 5, 75), (75, .iconst 0, 76), (76, .ireturn, 77), (77, .aload_n 0, 78), (78, .iload_n 1, 79), (79, .bipush 6, 81), (81, .iconst 0, 82), (82, .invokevirtual 66, 85), (85, .aload_n 0, 86), (86, .invokevirtual 120, 89), (89, .ireturn, 90)]))))))
theorem ok_X8_shuts : e_ok mX8_shuts := ⟨by decide +kernel, rfl, by decide +kernel⟩
def mX8_shut : MD := (RX8, (yX8_shut, (cX8_shut, (2, (some .int, ([], [(0, .aload_n 0, 1), (1, .invokevirtual 81, 4), (4, .aload_n 0, 5), (5, .aload_n 0, 6), (6, .iload_n 1, 7), (7, .invokevirtual 124, 10), (10, .invokevirtual 88, 13), (13, .ireturn, 14)]))))))
theorem ok_X8_shut : e_ok mX8_shut := ⟨by decide +kernel, rfl, by decide +kernel⟩
def mX8_combined : MD := (RX8, (yX8_combined, (cX8_combined, (6, (some .int, ([], [(0, .aload_n 0, 1), (1, .aload_n 0, 2), (2, .iload_n 1, 3), (3, .invokevirtual 92, 6), (6, .ifCond .ne 7, 9), (9, .iconst 1, 10), (10, .goto 4, 13), (13, .iconst 0, 14), (14, .iconst 1, 15), (15, .invokevirtual 73, 18), (18, .ifCond .ne 55, 21), (21, .aload_n 0, 22), (22, .iload_n 2, 23), (23, .iload_n 3, 24), (24, .iload 4, 26), (26, .invokestatic 70, 29), (29, .ifCond .ne 7, 32), (32, .iconst 1, 33), (33, .goto 4, 36), (36, .iconst 0, 37), (37, .iconst 2, 38), (38, .invokevirtual 73, 41), (41, .ifCond .ne 32, 44), (44, .aload_n 0, 45), (45, .aload_n 0, 46), (46, .iload_n 1, 47), (47, .invokevirtual 101, 50), (50, .ifCond .eq 11, 53), (53, .aload_n 0, 54), (54, .iload_n 1, 55), (55, .invokevirtual 59, 58), (58, .ifCond .eq 7, 61), (61, .iconst 1, 62), (62, .goto 4, 65), (65, .iconst 0, 66), (66, .iconst 3, 67), (67, .invokevirtual 73, 70), (70, .ifCond .eq 5, 73), (73, .iconst 0, 74), (74, .ireturn, 75), (75, .aload_n 0, 76), (76, .iload_n 1, 77), (77, .iconst 3, 78), (78, .invokevirtual 55, 81), (81, .iload_n 2, 82), (82, .if_icmp .eq 7, 85), (85, .iconst 1, 86), (86, .goto 4, 89), (89, .iconst 0, 90), (90, .istore 5, 92), (92, .iload 5, 94), (94, .aload_n 0, 95), (95, .iload_n 1, 96), (96, .iconst 4, 97), (97, .invokevirtual 55, 100), (100, .iload_n 3, 101), (101, .if_icmp .eq 7, 104), (104, .iconst 1, 105), (105, .goto 4, 108), (108, .iconst 0, 109), (109, .iadd, 110), (110, .istore 5, 112), (112, .iload 5, 114), (114, .aload_n 0, 115), (115, .iload_n 1, 116), (116, .iconst 5, 117), (117, .invokevirtual 55, 120), (120, .iload 4, 122), (122, .if_icmp .eq 7, 125), (125, .iconst 1, 126), (126, .goto 4, 129), (129, .iconst 0, 130), (130, .iadd, 131), (131, .istore 5, 133), (133, .aload_n 0, 134), (134, .iload_n 1, 135), (135, .iload_n 2, 136), (136, .iload_n 3, 137), (137, .iload 4, 139), (139, .invokevirtual 77, 142), (142, .iload 5, 144), (144, .ireturn, 145)]))))))
theorem ok_X8_combined : e_ok mX8_combined := ⟨by decide +kernel, rfl, by decide +kernel⟩
def mX8_setCombination : MD := (RX8, (yX8_setCombination, (cX8_setCombination, (5, (some .int, ([], [(0, .aload_n 0, 1), (1, .invokevirtual 81, 4), (4, .aload_n 0, 5), (5, .aload_n 0, 6), (6, .iload_n 1, 7), (7, .iload_n 2, 8), (8, .iload_n 3, 9), (9, .iload 4, 11), (11, .invokevirtual 127, 14), (14, .invokevirtual 88, 17), (17, .ireturn, 18)]))))))
theorem ok_X8_setCombination : e_ok mX8_setCombination := ⟨by decide +kernel, rfl, by decide +kernel⟩
def mX8_damps : MD := (RX8, (yX8_damps, (cX8_damps, (3, (some .int, ([], [(0, .aload_n 0, 1), (1, .iload_n 1, 2), (2, .iconst 0, 3), (3, .bipush 9, 5), (5, .invokestatic 51, 8), (8, .ifCond .ne 7, 11), (11, .iconst 1, 12), (12, .goto 4, 15), (15, .iconst 0, 16), (16, .iconst 1, 17), (17, .invokevirtual 73, 20), (20, .ifCond .eq 5, 23), (23, .iconst 0, 24), (24, .ireturn, 25), (25, .aload_n 0, 26), (26, .getfield 9, 29), (29, .iconst 1, 30), (30, .iaload, 31), (31, .istore_n 2, 32), (32, .aload_n 0, 33), (33, .getfield 9, 36), (36, .iconst 1, 37), (37, .iload_n 1, 38), (38, .iastore, 39), (39, .iload_n 2, 40), (40, .ireturn, 41)]))))))
theorem ok_X8_damps : e_ok mX8_damps := ⟨by decide +kernel, rfl, by decide +kernel⟩
def mX8_setDamp : MD := (RX8, (yX8_setDamp, (cX8_setDamp, (2, (some .int, ([], [(0, .aload_n 0, 1), (1, .invokevirtual 81, 4), (4, .aload_n 0, 5), (5, .aload_n 0, 6), (6, .iload_n 1, 7), (7, .invokevirtual 131, 10), (10, .invokevirtual 88, 13), (13, .ireturn, 14)]))))))
theorem ok_X8_setDamp : e_ok mX8_setDamp := ⟨by decide +kernel, rfl, by decide +kernel⟩
def mX8_bakings : MD := (RX8, (yX8_bakings, (cX8_bakings, (4, (some .int, ([], [(0, .aload_n 0, 1), (1, .aload_n 0, 2), (2, .iload_n 1, 3), (3, .invokevirtual 92, 6), (6, .ifCond .eq 10, 9), (9, .iload_n 2, 10), (10, .invokestatic 134, 13), (13, .ifCond .ne 7, 16), (16, .iconst 1, 17), (17, .goto 4, 20), (20, .iconst 0, 21), (21, .iconst 1, 22), (22, .invokevirtual 73, 25), (25, .ifCond .ne 38, 28), (28, .aload_n 0, 29), (29, .aload_n 0, 30), (30, .iload_n 1, 31), (31, .invokevirtual 59, 34), (34, .iconst 2, 35), (35, .invokevirtual 73, 38), (38, .ifCond .ne 25, 41), (41, .aload_n 0, 42), (42, .aload_n 0, 43), (43, .iload_n 2, 44), (44, .iconst 0, 45), (45, .invokevirtual 137, 48), (48, .ifCond .le 7, 51), (51, .iconst 1, 52), (52, .goto 4, 55), (55, .iconst 0, 56), (56, .iconst 3, 57), (57, .invokevirtual 73, 60), (60, .ifCond .eq 5, 63), (63, .iconst 0, 64), (64, .ireturn, 65), (65, .iconst 1, 66), (66, .aload_n 0, 67), (67, .iload_n 1, 68), (68, .bipush 7, 70), (70, .invokevirtual 55, 73), (73, .iconst 4, 74), (74, .idiv, 75), (75, .iadd, 76), (76, .istore_n 3, 77), (77, .aload_n 0, 78), (78, .iload_n 1, 79), (79, .bipush 8, 81), (81, .iload_n 2, 82), (82, .iconst 1, 83), (83, .iadd, 84), (84, .invokevirtual 66, 87), (87, .aload_n 0, 88), (88, .iload_n 2, 89), (89, .iconst 0, 90), (90, .iload_n 1, 91), (91, .iconst 1, 92), (92, .iadd, 93), (93, .invokevirtual 140, 96), (96, .aload_n 0, 97), (97, .iload_n 2, 98), (98, .iconst 1, 99), (99, .iload_n 3, 100), (100, .invokevirtual 140, 103), (103, .iload_n 3, 104), (104, .ireturn, 105)]))))))
theorem ok_X8_bakings : e_ok mX8_bakings := ⟨by decide +kernel, rfl, by decide +kernel⟩
def mX8_bake : MD := (RX8, (yX8_bake, (cX8_bake, (3, (some .int, ([], [(0, .aload_n 0, 1), (1, .invokevirtual 81, 4), (4, .aload_n 0, 5), (5, .aload_n 0, 6), (6, .iload_n 1, 7), (7, .iload_n 2, 8), (8, .invokevirtual 143, 11), (11, .invokevirtual 88, 14), (14, .ireturn, 15)]))))))
theorem ok_X8_bake : e_ok mX8_bake := ⟨by decide +kernel, rfl, by decide +kernel⟩
def mX8_drifts : MD := (RX8, (yX8_drifts, (cX8_drifts, (3, (none, ([], [(0, .aload_n 0, 1), (1, .getfield 9, 4), (4, .iconst 0, 5), (5, .iaload, 6), (6, .iconst 3, 7), (7, .irem, 8), (8, .istore_n 1, 9), (9, .iconst 0, 10), (10, .istore_n 2, 11), (11, .iload_n 2, 12), (12, .aload_n 0, 13), (13, .getfield 9, 16), (16, .iconst 2, 17), (17, .iaload, 18), (18, .if_icmp .ge 38, 21), (21, .aload_n 0, 22), (22, .iload_n 2, 23), (23, .invokevirtual 101, 26), (26, .ifCond .ne 24, 29), (29, .aload_n 0, 30), (30, .iload_n 2, 31), (31, .iconst 0, 32), (32, .iload_n 1, 33), (33, .iadd, 34), (34, .aload_n 0, 35), (35, .iload_n 2, 36), (36, .iconst 0, 37), (37, .iload_n 1, 38), (38, .iadd, 39), (39, .invokevirtual 55, 42), (42, .iconst 1, 43), (43, .iadd, 44), (44, .bipush 10, 46), (46, .irem, 47), (47, .invokevirtual 66, 50), (50, .iinc 2 1, 53), (53, .goto (-42), 56), (56, .return_, 57)]))))))
theorem ok_X8_drifts : e_ok mX8_drifts := ⟨by decide +kernel, rfl, by decide +kernel⟩
def mX8_heats : MD := (RX8, (yX8_heats, (cX8_heats, (4, (none, ([], [(0, .aload_n 0, 1), (1, .iload_n 1, 2), (2, .iconst 0, 3), (3, .invokevirtual 137, 6), (6, .ifCond .ne 4, 9), (9, .return_, 10), (10, .aload_n 0, 11), (11, .iload_n 1, 12), (12, .iconst 1, 13), (13, .aload_n 0, 14), (14, .iload_n 1, 15), (15, .iconst 1, 16), (16, .invokevirtual 137, 19), (19, .iconst 1, 20), (20, .isub, 21), (21, .invokevirtual 140, 24), (24, .aload_n 0, 25), (25, .iload_n 1, 26), (26, .iconst 1, 27), (27, .invokevirtual 137, 30), (30, .ifCond .le 4, 33), (33, .return_, 34), (34, .aload_n 0, 35), (35, .iload_n 1, 36), (36, .iconst 0, 37), (37, .invokevirtual 137, 40), (40, .iconst 1, 41), (41, .isub, 42), (42, .istore_n 2, 43), (43, .iconst 0, 44), (44, .istore_n 3, 45), (45, .iload_n 3, 46), (46, .iconst 3, 47), (47, .if_icmp .ge 18, 50), (50, .aload_n 0, 51), (51, .iload_n 2, 52), (52, .iconst 0, 53), (53, .iload_n 3, 54), (54, .iadd, 55), (55, .iconst 0, 56), (56, .invokevirtual 66, 59), (59, .iinc 3 1, 62), (62, .goto (-17), 65), (65, .aload_n 0, 66), (66, .iload_n 2, 67), (67, .bipush 6, 69), (69, .iconst 0, 70), (70, .invokevirtual 66, 73), (73, .aload_n 0, 74), (74, .iload_n 2, 75), (75, .bipush 7, 77), (77, .iconst 0, 78), (78, .invokevirtual 66, 81), (81, .aload_n 0, 82), (82, .iload_n 2, 83), (83, .bipush 8, 85), (85, .iconst 0, 86), (86, .invokevirtual 66, 89), (89, .aload_n 0, 90), (90, .iload_n 1, 91), (91, .iconst 0, 92), (92, .iconst 0, 93), (93, .invokevirtual 140, 96), (96, .aload_n 0, 97), (97, .getfield 9, 100), (100, .iconst 5, 101), (101, .dup2, 102), (102, .iaload, 103), (103, .iconst 1, 104), (104, .iadd, 105), (105, .iastore, 106), (106, .return_, 107)]))))))
theorem ok_X8_heats : e_ok mX8_heats := ⟨by decide +kernel, rfl, by decide +kernel⟩
def mX8_hourPasses : MD := (RX8, (yX8_hourPasses, (cX8_hourPasses, (2, (none, ([], [(0, .aload_n 0, 1), (1, .getfield 9, 4), (4, .iconst 0, 5), (5, .dup2, 6), (6, .iaload, 7), (7, .iconst 1, 8), (8, .iadd, 9), (9, .iastore, 10), (10, .aload_n 0, 11), (11, .getfield 9, 14), (14, .iconst 0, 15), (15, .iaload, 16), (16, .bipush 10, 18), (18, .aload_n 0, 19), (19, .getfield 9, 22), (22, .iconst 1, 23), (23, .iaload, 24), (24, .isub, 25), (25, .irem, 26), (26, .ifCond .ne 7, 29), (29, .aload_n 0, 30), (30, .invokevirtual 146, 33), (33, .iconst 0, 34), (34, .istore_n 1, 35), (35, .iload_n 1, 36), (36, .iconst 2, 37), (37, .if_icmp .ge 14, 40), (40, .aload_n 0, 41), (41, .iload_n 1, 42), (42, .invokevirtual 149, 45), (45, .iinc 1 1, 48), (48, .goto (-13), 51), (51, .return_, 52)]))))))
theorem ok_X8_hourPasses : e_ok mX8_hourPasses := ⟨by decide +kernel, rfl, by decide +kernel⟩
def mX8_waits : MD := (RX8, (yX8_waits, (cX8_waits, (4, (some .int, ([], [(0, .aload_n 0, 1), (1, .iload_n 1, 2), (2, .iconst 1, 3), (3, .bipush 60, 5), (5, .invokestatic 51, 8), (8, .ifCond .ne 7, 11), (11, .iconst 1, 12), (12, .goto 4, 15), (15, .iconst 0, 16), (16, .iconst 1, 17), (17, .invokevirtual 73, 20), (20, .ifCond .eq 5, 23), (23, .iconst 0, 24), (24, .ireturn, 25), (25, .aload_n 0, 26), (26, .getfield 9, 29), (29, .iconst 5, 30), (30, .iaload, 31), (31, .istore_n 2, 32), (32, .iconst 0, 33), (33, .istore_n 3, 34), (34, .iload_n 3, 35), (35, .iload_n 1, 36), (36, .if_icmp .ge 13, 39), (39, .aload_n 0, 40), (40, .invokevirtual 153, 43), (43, .iinc 3 1, 46), (46, .goto (-12), 49), (49, .aload_n 0, 50), (50, .getfield 9, 53), (53, .iconst 5, 54), (54, .iaload, 55), (55, .iload_n 2, 56), (56, .isub, 57), (57, .ireturn, 58)]))))))
theorem ok_X8_waits : e_ok mX8_waits := ⟨by decide +kernel, rfl, by decide +kernel⟩
def mX8_passHours : MD := (RX8, (yX8_passHours, (cX8_passHours, (2, (some .int, ([], [(0, .aload_n 0, 1), (1, .invokevirtual 81, 4), (4, .aload_n 0, 5), (5, .aload_n 0, 6), (6, .iload_n 1, 7), (7, .invokevirtual 156, 10), (10, .invokevirtual 88, 13), (13, .ireturn, 14)]))))))
theorem ok_X8_passHours : e_ok mX8_passHours := ⟨by decide +kernel, rfl, by decide +kernel⟩
def mX8_doorCount : MD := (RX8, (yX8_doorCount, (cX8_doorCount, (1, (some .int, ([], [(0, .aload_n 0, 1), (1, .iconst 0, 2), (2, .putfield 41, 5), (5, .aload_n 0, 6), (6, .getfield 9, 9), (9, .iconst 2, 10), (10, .iaload, 11), (11, .ireturn, 12)]))))))
theorem ok_X8_doorCount : e_ok mX8_doorCount := ⟨by decide +kernel, rfl, by decide +kernel⟩
def mX8_dial : MD := (RX8, (yX8_dial, (cX8_dial, (3, (some .int, ([], [(0, .aload_n 0, 1), (1, .aload_n 0, 2), (2, .iload_n 1, 3), (3, .invokevirtual 92, 6), (6, .ifCond .eq 10, 9), (9, .iload_n 2, 10), (10, .invokestatic 95, 13), (13, .ifCond .ne 7, 16), (16, .iconst 1, 17), (17, .goto 4, 20), (20, .iconst 0, 21), (21, .iconst 1, 22), (22, .invokevirtual 73, 25), (25, .ifCond .eq 7, 28), (28, .iconst 0, 29), (29, .goto 11, 32), (32, .aload_n 0, 33), (33, .iload_n 1, 34), (34, .iconst 0, 35), (35, .iload_n 2, 36), (36, .iadd, 37), (37, .invokevirtual 55, 40), (40, .ireturn, 41)]))))))
theorem ok_X8_dial : e_ok mX8_dial := ⟨by decide +kernel, rfl, by decide +kernel⟩
def mX8_combination : MD := (RX8, (yX8_combination, (cX8_combination, (3, (some .int, ([], [(0, .aload_n 0, 1), (1, .aload_n 0, 2), (2, .iload_n 1, 3), (3, .invokevirtual 92, 6), (6, .ifCond .eq 10, 9), (9, .iload_n 2, 10), (10, .invokestatic 95, 13), (13, .ifCond .ne 7, 16), (16, .iconst 1, 17), (17, .goto 4, 20), (20, .iconst 0, 21), (21, .iconst 1, 22), (22, .invokevirtual 73, 25), (25, .ifCond .eq 7, 28), (28, .iconst 0, 29), (29, .goto 11, 32), (32, .aload_n 0, 33), (33, .iload_n 1, 34), (34, .iconst 3, 35), (35, .iload_n 2, 36), (36, .iadd, 37), (37, .invokevirtual 55, 40), (40, .ireturn, 41)]))))))
theorem ok_X8_combination : e_ok mX8_combination := ⟨by decide +kernel, rfl, by decide +kernel⟩
def mX8_isOpen : MD := (RX8, (yX8_isOpen, (cX8_isOpen, (2, (some .boolean, ([], [(0, .aload_n 0, 1), (1, .aload_n 0, 2), (2, .iload_n 1, 3), (3, .invokevirtual 92, 6), (6, .ifCond .ne 7, 9), (9, .iconst 1, 10), (10, .goto 4, 13), (13, .iconst 0, 14), (14, .iconst 1, 15), (15, .invokevirtual 73, 18), (18, .ifCond .ne 15, 21), (21, .aload_n 0, 22), (22, .iload_n 1, 23), (23, .invokevirtual 101, 26), (26, .ifCond .eq 7, 29), (29, .iconst 1, 30), (30, .goto 4, 33), (33, .iconst 0, 34), (34, .ireturn, 35)]))))))
theorem ok_X8_isOpen : e_ok mX8_isOpen := ⟨by decide +kernel, rfl, by decide +kernel⟩
def mX8_isBroken : MD := (RX8, (yX8_isBroken, (cX8_isBroken, (2, (some .boolean, ([], [(0, .aload_n 0, 1), (1, .aload_n 0, 2), (2, .iload_n 1, 3), (3, .invokevirtual 92, 6), (6, .ifCond .ne 7, 9), (9, .iconst 1, 10), (10, .goto 4, 13), (13, .iconst 0, 14), (14, .iconst 1, 15), (15, .invokevirtual 73, 18), (18, .ifCond .ne 19, 21), (21, .aload_n 0, 22), (22, .iload_n 1, 23), (23, .bipush 7, 25), (25, .invokevirtual 55, 28), (28, .bipush 20, 30), (30, .if_icmp .ne 7, 33), (33, .iconst 1, 34), (34, .goto 4, 37), (37, .iconst 0, 38), (38, .ireturn, 39)]))))))
theorem ok_X8_isBroken : e_ok mX8_isBroken := ⟨by decide +kernel, rfl, by decide +kernel⟩
def mX8_crumbs : MD := (RX8, (yX8_crumbs, (cX8_crumbs, (2, (some .int, ([], [(0, .aload_n 0, 1), (1, .aload_n 0, 2), (2, .iload_n 1, 3), (3, .invokevirtual 92, 6), (6, .ifCond .ne 7, 9), (9, .iconst 1, 10), (10, .goto 4, 13), (13, .iconst 0, 14), (14, .iconst 1, 15), (15, .invokevirtual 73, 18), (18, .ifCond .eq 7, 21), (21, .iconst 0, 22), (22, .goto 10, 25), (25, .aload_n 0, 26), (26, .iload_n 1, 27), (27, .bipush 7, 29), (29, .invokevirtual 55, 32), (32, .ireturn, 33)]))))))
theorem ok_X8_crumbs : e_ok mX8_crumbs := ⟨by decide +kernel, rfl, by decide +kernel⟩
def mX8_play : MD := (RX8, (yX8_play, (cX8_play, (2, (some .int, ([], [(0, .aload_n 0, 1), (1, .aload_n 0, 2), (2, .iload_n 1, 3), (3, .invokevirtual 92, 6), (6, .ifCond .ne 7, 9), (9, .iconst 1, 10), (10, .goto 4, 13), (13, .iconst 0, 14), (14, .iconst 1, 15), (15, .invokevirtual 73, 18), (18, .ifCond .eq 7, 21), (21, .iconst 0, 22), (22, .goto 8, 25), (25, .aload_n 0, 26), (26, .iload_n 1, 27), (27, .invokevirtual 104, 30), (30, .ireturn, 31)]))))))
theorem ok_X8_play : e_ok mX8_play := ⟨by decide +kernel, rfl, by decide +kernel⟩
def mX8_fittingDials : MD := (RX8, (yX8_fittingDials, (cX8_fittingDials, (2, (some .int, ([], [(0, .aload_n 0, 1), (1, .aload_n 0, 2), (2, .iload_n 1, 3), (3, .invokevirtual 92, 6), (6, .ifCond .ne 7, 9), (9, .iconst 1, 10), (10, .goto 4, 13), (13, .iconst 0, 14), (14, .iconst 1, 15), (15, .invokevirtual 73, 18), (18, .ifCond .eq 7, 21), (21, .iconst 0, 22), (22, .goto 15, 25), (25, .iconst 3, 26), (26, .aload_n 0, 27), (27, .iload_n 1, 28), (28, .aload_n 0, 29), (29, .iload_n 1, 30), (30, .invokevirtual 104, 33), (33, .invokevirtual 107, 36), (36, .isub, 37), (37, .ireturn, 38)]))))))
theorem ok_X8_fittingDials : e_ok mX8_fittingDials := ⟨by decide +kernel, rfl, by decide +kernel⟩
def mX8_steps : MD := (RX8, (yX8_steps, (cX8_steps, (5, (some .int, ([], [(0, .iconst 0, 1), (1, .istore_n 2, 2), (2, .iconst 0, 3), (3, .istore_n 3, 4), (4, .iload_n 3, 5), (5, .iconst 3, 6), (6, .if_icmp .ge 37, 9), (9, .aload_n 0, 10), (10, .iload_n 1, 11), (11, .iload_n 3, 12), (12, .invokevirtual 63, 15), (15, .aload_n 0, 16), (16, .iload_n 1, 17), (17, .invokevirtual 104, 20), (20, .isub, 21), (21, .istore 4, 23), (23, .iload_n 2, 24), (24, .iload 4, 26), (26, .ifCond .le 8, 29), (29, .iload 4, 31), (31, .goto 4, 34), (34, .iconst 0, 35), (35, .iadd, 36), (36, .istore_n 2, 37), (37, .iinc 3 1, 40), (40, .goto (-36), 43), (43, .iload_n 2, 44), (44, .ireturn, 45)]))))))
theorem ok_X8_steps : e_ok mX8_steps := ⟨by decide +kernel, rfl, by decide +kernel⟩
def mX8_stepsToOpen : MD := (RX8, (yX8_stepsToOpen, (cX8_stepsToOpen, (2, (some .int, ([], [(0, .aload_n 0, 1), (1, .aload_n 0, 2), (2, .iload_n 1, 3), (3, .invokevirtual 92, 6), (6, .ifCond .ne 7, 9), (9, .iconst 1, 10), (10, .goto 4, 13), (13, .iconst 0, 14), (14, .iconst 1, 15), (15, .invokevirtual 73, 18), (18, .ifCond .eq 7, 21), (21, .iconst 0, 22), (22, .goto 8, 25), (25, .aload_n 0, 26), (26, .iload_n 1, 27), (27, .invokevirtual 159, 30), (30, .ireturn, 31)]))))))
theorem ok_X8_stepsToOpen : e_ok mX8_stepsToOpen := ⟨by decide +kernel, rfl, by decide +kernel⟩
def mX8_stepsToOpenByTurning : MD := (RX8, (yX8_stepsToOpenByTurning, (cX8_stepsToOpenByTurning, (2, (some .int, ([], [(0, .aload_n 0, 1), (1, .iload_n 1, 2), (2, .invokevirtual 162, 5), (5, .ireturn, 6)]))))))
theorem ok_X8_stepsToOpenByTurning : e_ok mX8_stepsToOpenByTurning := ⟨by decide +kernel, rfl, by decide +kernel⟩
def mX8_openingSettings : MD := (RX8, (yX8_openingSettings, (cX8_openingSettings, (3, (some .int, ([], [(0, .aload_n 0, 1), (1, .aload_n 0, 2), (2, .iload_n 1, 3), (3, .invokevirtual 92, 6), (6, .ifCond .ne 7, 9), (9, .iconst 1, 10), (10, .goto 4, 13), (13, .iconst 0, 14), (14, .iconst 1, 15), (15, .invokevirtual 73, 18), (18, .ifCond .eq 5, 21), (21, .iconst 0, 22), (22, .ireturn, 23), (23, .iconst 2, 24), (24, .aload_n 0, 25), (25, .iload_n 1, 26), (26, .invokevirtual 104, 29), (29, .imul, 30), (30, .iconst 1, 31), (31, .iadd, 32), (32, .istore_n 2, 33), (33, .iload_n 2, 34), (34, .iload_n 2, 35), (35, .imul, 36), (36, .iload_n 2, 37), (37, .imul, 38), (38, .ireturn, 39)]))))))
theorem ok_X8_openingSettings : e_ok mX8_openingSettings := ⟨by decide +kernel, rfl, by decide +kernel⟩
def mX8_triesUntilBroken : MD := (RX8, (yX8_triesUntilBroken, (cX8_triesUntilBroken, (5, (some .int, ([], [(0, .aload_n 0, 1), (1, .aload_n 0, 2), (2, .iload_n 1, 3), (3, .invokevirtual 92, 6), (6, .ifCond .ne 7, 9), (9, .iconst 1, 10), (10, .goto 4, 13), (13, .iconst 0, 14), (14, .iconst 1, 15), (15, .invokevirtual 73, 18), (18, .ifCond .eq 5, 21), (21, .iconst 0, 22), (22, .ireturn, 23), (23, .aload_n 0, 24), (24, .iload_n 1, 25), (25, .bipush 7, 27), (27, .invokevirtual 55, 30), (30, .istore_n 2, 31), (31, .iconst 0, 32), (32, .istore_n 3, 33), (33, .iload_n 2, 34), (34, .bipush 20, 36), (36, .if_icmp .ge 46, 39), (39, .aload_n 0, 40), (40, .iload_n 1, 41), (41, .iload_n 2, 42), (42, .iconst 5, 43), (43, .idiv, 44), (44, .invokevirtual 107, 47), (47, .istore 4, 49), (49, .aload_n 0, 50), (50, .iload 4, 52), (52, .ifCond .ne 7, 55), (55, .iconst 1, 56), (56, .goto 4, 59), (59, .iconst 0, 60), (60, .iconst 2, 61), (61, .invokevirtual 73, 64), (64, .ifCond .eq 5, 67), (67, .iconst 0, 68), (68, .ireturn, 69), (69, .iload_n 2, 70), (70, .iload 4, 72), (72, .invokestatic 110, 75), (75, .istore_n 2, 76), (76, .iinc 3 1, 79), (79, .goto (-46), 82), (82, .iload_n 3, 83), (83, .ireturn, 84)]))))))
theorem ok_X8_triesUntilBroken : e_ok mX8_triesUntilBroken := ⟨by decide +kernel, rfl, by decide +kernel⟩
def mX8_dialAfter : MD := (RX8, (yX8_dialAfter, (cX8_dialAfter, (5, (some .int, ([], [(0, .aload_n 0, 1), (1, .aload_n 0, 2), (2, .iload_n 1, 3), (3, .invokevirtual 92, 6), (6, .ifCond .eq 10, 9), (9, .iload_n 2, 10), (10, .invokestatic 95, 13), (13, .ifCond .ne 7, 16), (16, .iconst 1, 17), (17, .goto 4, 20), (20, .iconst 0, 21), (21, .iconst 1, 22), (22, .invokevirtual 73, 25), (25, .ifCond .ne 26, 28), (28, .aload_n 0, 29), (29, .iload_n 3, 30), (30, .iconst 0, 31), (31, .bipush 60, 33), (33, .invokestatic 51, 36), (36, .ifCond .ne 7, 39), (39, .iconst 1, 40), (40, .goto 4, 43), (43, .iconst 0, 44), (44, .iconst 2, 45), (45, .invokevirtual 73, 48), (48, .ifCond .eq 5, 51), (51, .iconst 0, 52), (52, .ireturn, 53), (53, .aload_n 0, 54), (54, .getfield 9, 57), (57, .iconst 0, 58), (58, .aload_n 0, 59), (59, .getfield 16, 62), (62, .iconst 0, 63), (63, .invokestatic 44, 66), (66, .iconst 0, 67), (67, .istore 4, 69), (69, .iload 4, 71), (71, .iload_n 3, 72), (72, .if_icmp .ge 13, 75), (75, .aload_n 0, 76), (76, .invokevirtual 153, 79), (79, .iinc 4 1, 82), (82, .goto (-13), 85), (85, .aload_n 0, 86), (86, .iload_n 1, 87), (87, .iconst 0, 88), (88, .iload_n 2, 89), (89, .iadd, 90), (90, .invokevirtual 55, 93), (93, .istore 4, 95), (95, .aload_n 0, 96), (96, .getfield 16, 99), (99, .iconst 0, 100), (100, .aload_n 0, 101), (101, .getfield 9, 104), (104, .iconst 0, 105), (105, .invokestatic 44, 108), (108, .iload 4, 110), (110, .ireturn, 111)]))))))
theorem ok_X8_dialAfter : e_ok mX8_dialAfter := ⟨by decide +kernel, rfl, by decide +kernel⟩
def mX8_hoursUntilFitting : MD := (RX8, (yX8_hoursUntilFitting, (cX8_hoursUntilFitting, (3, (some .int, ([], [(0, .aload_n 0, 1), (1, .aload_n 0, 2), (2, .iload_n 1, 3), (3, .invokevirtual 92, 6), (6, .ifCond .ne 7, 9), (9, .iconst 1, 10), (10, .goto 4, 13), (13, .iconst 0, 14), (14, .iconst 1, 15), (15, .invokevirtual 73, 18), (18, .ifCond .eq 5, 21), (21, .iconst 0, 22), (22, .ireturn, 23), (23, .aload_n 0, 24), (24, .getfield 9, 27), (27, .iconst 0, 28), (28, .aload_n 0, 29), (29, .getfield 16, 32), (32, .iconst 0, 33), (33, .invokestatic 44, 36), (36, .iconst 0, 37), (37, .istore_n 2, 38), (38, .iload_n 2, 39), (39, .bipush 60, 41), (41, .if_icmp .gt 26, 44), (44, .aload_n 0, 45), (45, .iload_n 1, 46), (46, .aload_n 0, 47), (47, .iload_n 1, 48), (48, .invokevirtual 104, 51), (51, .invokevirtual 107, 54), (54, .ifCond .le 13, 57), (57, .aload_n 0, 58), (58, .invokevirtual 153, 61), (61, .iinc 2 1, 64), (64, .goto (-26), 67), (67, .aload_n 0, 68), (68, .getfield 16, 71), (71, .iconst 0, 72), (72, .aload_n 0, 73), (73, .getfield 9, 76), (76, .iconst 0, 77), (77, .invokestatic 44, 80), (80, .aload_n 0, 81), (81, .iload_n 2, 82), (82, .bipush 60, 84), (84, .if_icmp .le 7, 87), (87, .iconst 1, 88), (88, .goto 4, 91), (91, .iconst 0, 92), (92, .iconst 2, 93), (93, .invokevirtual 73, 96), (96, .ifCond .eq 7, 99), (99, .iconst 0, 100), (100, .goto 4, 103), (103, .iload_n 2, 104), (104, .ireturn, 105)]))))))
theorem ok_X8_hoursUntilFitting : e_ok mX8_hoursUntilFitting := ⟨by decide +kernel, rfl, by decide +kernel⟩
def mX8_bakedDoor : MD := (RX8, (yX8_bakedDoor, (cX8_bakedDoor, (2, (some .int, ([], [(0, .aload_n 0, 1), (1, .iload_n 1, 2), (2, .invokestatic 134, 5), (5, .ifCond .ne 7, 8), (8, .iconst 1, 9), (9, .goto 4, 12), (12, .iconst 0, 13), (13, .iconst 1, 14), (14, .invokevirtual 73, 17), (17, .ifCond .ne 25, 20), (20, .aload_n 0, 21), (21, .aload_n 0, 22), (22, .iload_n 1, 23), (23, .iconst 0, 24), (24, .invokevirtual 137, 27), (27, .ifCond .ne 7, 30), (30, .iconst 1, 31), (31, .goto 4, 34), (34, .iconst 0, 35), (35, .iconst 2, 36), (36, .invokevirtual 73, 39), (39, .ifCond .eq 7, 42), (42, .iconst 0, 43), (43, .goto 11, 46), (46, .aload_n 0, 47), (47, .iload_n 1, 48), (48, .iconst 0, 49), (49, .invokevirtual 137, 52), (52, .iconst 1, 53), (53, .isub, 54), (54, .ireturn, 55)]))))))
theorem ok_X8_bakedDoor : e_ok mX8_bakedDoor := ⟨by decide +kernel, rfl, by decide +kernel⟩
def mX8_bakingHours : MD := (RX8, (yX8_bakingHours, (cX8_bakingHours, (2, (some .int, ([], [(0, .aload_n 0, 1), (1, .iload_n 1, 2), (2, .invokestatic 134, 5), (5, .ifCond .ne 7, 8), (8, .iconst 1, 9), (9, .goto 4, 12), (12, .iconst 0, 13), (13, .iconst 1, 14), (14, .invokevirtual 73, 17), (17, .ifCond .eq 7, 20), (20, .iconst 0, 21), (21, .goto 9, 24), (24, .aload_n 0, 25), (25, .iload_n 1, 26), (26, .iconst 1, 27), (27, .invokevirtual 137, 30), (30, .ireturn, 31)]))))))
theorem ok_X8_bakingHours : e_ok mX8_bakingHours := ⟨by decide +kernel, rfl, by decide +kernel⟩
def mX8_isBaking : MD := (RX8, (yX8_isBaking, (cX8_isBaking, (2, (some .boolean, ([], [(0, .aload_n 0, 1), (1, .aload_n 0, 2), (2, .iload_n 1, 3), (3, .invokevirtual 92, 6), (6, .ifCond .ne 7, 9), (9, .iconst 1, 10), (10, .goto 4, 13), (13, .iconst 0, 14), (14, .iconst 1, 15), (15, .invokevirtual 73, 18), (18, .ifCond .ne 15, 21), (21, .aload_n 0, 22), (22, .iload_n 1, 23), (23, .invokevirtual 59, 26), (26, .ifCond .eq 7, 29), (29, .iconst 1, 30), (30, .goto 4, 33), (33, .iconst 0, 34), (34, .ireturn, 35)]))))))
theorem ok_X8_isBaking : e_ok mX8_isBaking := ⟨by decide +kernel, rfl, by decide +kernel⟩
def mX8_isAhead : MD := (RX8, (yX8_isAhead, (cX8_isAhead, (5, (some .boolean, ([], [(0, .aload_n 0, 1), (1, .iload_n 1, 2), (2, .bipush 7, 4), (4, .invokevirtual 55, 7), (7, .aload_n 0, 8), (8, .iload_n 2, 9), (9, .bipush 7, 11), (11, .invokevirtual 55, 14), (14, .isub, 15), (15, .istore_n 3, 16), (16, .iload_n 3, 17), (17, .ifCond .eq 13, 20), (20, .iload_n 3, 21), (21, .ifCond .le 7, 24), (24, .iconst 1, 25), (25, .goto 4, 28), (28, .iconst 0, 29), (29, .ireturn, 30), (30, .aload_n 0, 31), (31, .iload_n 2, 32), (32, .invokevirtual 159, 35), (35, .aload_n 0, 36), (36, .iload_n 1, 37), (37, .invokevirtual 159, 40), (40, .isub, 41), (41, .istore 4, 43), (43, .iload 4, 45), (45, .ifCond .eq 16, 48), (48, .iload 4, 50), (50, .ifCond .le 7, 53), (53, .iconst 1, 54), (54, .goto 17, 57), (57, .iconst 0, 58), (58, .goto 13, 61), (61, .iload_n 1, 62), (62, .iload_n 2, 63), (63, .if_icmp .ge 7, 66), (66, .iconst 1, 67), (67, .goto 4, 70), (70, .iconst 0, 71), (71, .ireturn, 72)]))))))
theorem ok_X8_isAhead : e_ok mX8_isAhead := ⟨by decide +kernel, rfl, by decide +kernel⟩
def mX8_doorByCrumbs : MD := (RX8, (yX8_doorByCrumbs, (cX8_doorByCrumbs, (5, (some .int, ([], [(0, .iconst 0, 1), (1, .istore_n 2, 2), (2, .iload_n 2, 3), (3, .aload_n 0, 4), (4, .getfield 9, 7), (7, .iconst 2, 8), (8, .iaload, 9), (9, .if_icmp .ge 67, 12), (12, .iconst 0, 13), (13, .istore_n 3, 14), (14, .iconst 0, 15), (15, .istore 4, 17), (17, .iload 4, 19), (19, .aload_n 0, 20), (20, .getfield 9, 23), (23, .iconst 2, 24), (24, .iaload, 25), (25, .if_icmp .ge 33, 28), (28, .iload_n 3, 29), (29, .iload 4, 31), (31, .iload_n 2, 32), (32, .if_icmp .eq 17, 35), (35, .aload_n 0, 36), (36, .iload 4, 38), (38, .iload_n 2, 39), (39, .invokevirtual 165, 42), (42, .ifCond .eq 7, 45), (45, .iconst 1, 46), (46, .goto 4, 49), (49, .iconst 0, 50), (50, .iadd, 51), (51, .istore_n 3, 52), (52, .iinc 4 1, 55), (55, .goto (-38), 58), (58, .iload_n 3, 59), (59, .iload_n 1, 60), (60, .if_icmp .ne 10, 63), (63, .aload_n 0, 64), (64, .iconst 0, 65), (65, .putfield 41, 68), (68, .iload_n 2, 69), (69, .ireturn, 70), (70, .iinc 2 1, 73), (73, .goto (-71), 76), (76, .aload_n 0, 77), (77, .iconst 1, 78), (78, .putfield 41, 81), (81, .iconst 0, 82), (82, .ireturn, 83)]))))))
theorem ok_X8_doorByCrumbs : e_ok mX8_doorByCrumbs := ⟨by decide +kernel, rfl, by decide +kernel⟩
def mX8_rememberedTries : MD := (RX8, (yX8_rememberedTries, (cX8_rememberedTries, (1, (some .int, ([], [(0, .aload_n 0, 1), (1, .iconst 0, 2), (2, .putfield 41, 5), (5, .aload_n 0, 6), (6, .getfield 9, 9), (9, .bipush 6, 11), (11, .iaload, 12), (12, .ireturn, 13)]))))))
theorem ok_X8_rememberedTries : e_ok mX8_rememberedTries := ⟨by decide +kernel, rfl, by decide +kernel⟩
def mX8_ofTry : MD := (RX8, (yX8_ofTry, (cX8_ofTry, (3, (some .int, ([], [(0, .aload_n 0, 1), (1, .iload_n 1, 2), (2, .iconst 0, 3), (3, .aload_n 0, 4), (4, .getfield 9, 7), (7, .bipush 6, 9), (9, .iaload, 10), (10, .iconst 1, 11), (11, .isub, 12), (12, .invokestatic 51, 15), (15, .ifCond .ne 7, 18), (18, .iconst 1, 19), (19, .goto 4, 22), (22, .iconst 0, 23), (23, .iconst 1, 24), (24, .invokevirtual 73, 27), (27, .ifCond .eq 7, 30), (30, .iconst 0, 31), (31, .goto 16, 34), (34, .aload_n 0, 35), (35, .getfield 9, 38), (38, .bipush 65, 40), (40, .iconst 2, 41), (41, .iload_n 1, 42), (42, .imul, 43), (43, .iadd, 44), (44, .iload_n 2, 45), (45, .iadd, 46), (46, .iaload, 47), (47, .ireturn, 48)]))))))
theorem ok_X8_ofTry : e_ok mX8_ofTry := ⟨by decide +kernel, rfl, by decide +kernel⟩
def mX8_triedDoor : MD := (RX8, (yX8_triedDoor, (cX8_triedDoor, (2, (some .int, ([], [(0, .aload_n 0, 1), (1, .iload_n 1, 2), (2, .iconst 0, 3), (3, .invokevirtual 169, 6), (6, .ireturn, 7)]))))))
theorem ok_X8_triedDoor : e_ok mX8_triedDoor := ⟨by decide +kernel, rfl, by decide +kernel⟩
def mX8_didOpen : MD := (RX8, (yX8_didOpen, (cX8_didOpen, (2, (some .boolean, ([], [(0, .aload_n 0, 1), (1, .iload_n 1, 2), (2, .iconst 1, 3), (3, .invokevirtual 169, 6), (6, .iconst 1, 7), (7, .if_icmp .ne 7, 10), (10, .iconst 1, 11), (11, .goto 4, 14), (14, .iconst 0, 15), (15, .ireturn, 16)]))))))
theorem ok_X8_didOpen : e_ok mX8_didOpen := ⟨by decide +kernel, rfl, by decide +kernel⟩
def mX8_shutLocks : MD := (RX8, (yX8_shutLocks, (cX8_shutLocks, (1, (some .int, ([], [(0, .aload_n 0, 1), (1, .iconst 0, 2), (2, .putfield 41, 5), (5, .aload_n 0, 6), (6, .invokevirtual 120, 9), (9, .ireturn, 10)]))))))
theorem ok_X8_shutLocks : e_ok mX8_shutLocks := ⟨by decide +kernel, rfl, by decide +kernel⟩
def mX8_shutLocksByAccounts : MD := (RX8, (yX8_shutLocksByAccounts, (cX8_shutLocksByAccounts, (1, (some .int, ([], [(0, .aload_n 0, 1), (1, .invokevirtual 172, 4), (4, .ireturn, 5)]))))))
theorem ok_X8_shutLocksByAccounts : e_ok mX8_shutLocksByAccounts := ⟨by decide +kernel, rfl, by decide +kernel⟩
def mX8_damp : MD := (RX8, (yX8_damp, (cX8_damp, (1, (some .int, ([], [(0, .aload_n 0, 1), (1, .iconst 0, 2), (2, .putfield 41, 5), (5, .aload_n 0, 6), (6, .getfield 9, 9), (9, .iconst 1, 10), (10, .iaload, 11), (11, .ireturn, 12)]))))))
theorem ok_X8_damp : e_ok mX8_damp := ⟨by decide +kernel, rfl, by decide +kernel⟩
def mX8_hour : MD := (RX8, (yX8_hour, (cX8_hour, (1, (some .int, ([], [(0, .aload_n 0, 1), (1, .iconst 0, 2), (2, .putfield 41, 5), (5, .aload_n 0, 6), (6, .getfield 9, 9), (9, .iconst 0, 10), (10, .iaload, 11), (11, .ireturn, 12)]))))))
theorem ok_X8_hour : e_ok mX8_hour := ⟨by decide +kernel, rfl, by decide +kernel⟩
def mX8_tryTotal : MD := (RX8, (yX8_tryTotal, (cX8_tryTotal, (1, (some .int, ([], [(0, .aload_n 0, 1), (1, .iconst 0, 2), (2, .putfield 41, 5), (5, .aload_n 0, 6), (6, .getfield 9, 9), (9, .iconst 3, 10), (10, .iaload, 11), (11, .ireturn, 12)]))))))
theorem ok_X8_tryTotal : e_ok mX8_tryTotal := ⟨by decide +kernel, rfl, by decide +kernel⟩
def mX8_openedTotal : MD := (RX8, (yX8_openedTotal, (cX8_openedTotal, (1, (some .int, ([], [(0, .aload_n 0, 1), (1, .iconst 0, 2), (2, .putfield 41, 5), (5, .aload_n 0, 6), (6, .getfield 9, 9), (9, .iconst 4, 10), (10, .iaload, 11), (11, .ireturn, 12)]))))))
theorem ok_X8_openedTotal : e_ok mX8_openedTotal := ⟨by decide +kernel, rfl, by decide +kernel⟩
def mX8_bakedTotal : MD := (RX8, (yX8_bakedTotal, (cX8_bakedTotal, (1, (some .int, ([], [(0, .aload_n 0, 1), (1, .iconst 0, 2), (2, .putfield 41, 5), (5, .aload_n 0, 6), (6, .getfield 9, 9), (9, .iconst 5, 10), (10, .iaload, 11), (11, .ireturn, 12)]))))))
theorem ok_X8_bakedTotal : e_ok mX8_bakedTotal := ⟨by decide +kernel, rfl, by decide +kernel⟩
def mX8_meanCrumbs : MD := (RX8, (yX8_meanCrumbs, (cX8_meanCrumbs, (3, (some .double, ([], [(0, .iconst 0, 1), (1, .istore_n 1, 2), (2, .iconst 0, 3), (3, .istore_n 2, 4), (4, .iload_n 2, 5), (5, .aload_n 0, 6), (6, .getfield 9, 9), (9, .iconst 2, 10), (10, .iaload, 11), (11, .if_icmp .ge 19, 14), (14, .iload_n 1, 15), (15, .aload_n 0, 16), (16, .iload_n 2, 17), (17, .bipush 7, 19), (19, .invokevirtual 55, 22), (22, .iadd, 23), (23, .istore_n 1, 24), (24, .iinc 2 1, 27), (27, .goto (-23), 30), (30, .aload_n 0, 31), (31, .aload_n 0, 32), (32, .getfield 9, 35), (35, .iconst 2, 36), (36, .iaload, 37), (37, .ifCond .ne 7, 40), (40, .iconst 1, 41), (41, .goto 4, 44), (44, .iconst 0, 45), (45, .iconst 1, 46), (46, .invokevirtual 73, 49), (49, .ifCond .eq 7, 52), (52, .dconst 0, 53), (53, .goto 13, 56), (56, .iload_n 1, 57), (57, .i2d, 58), (58, .aload_n 0, 59), (59, .getfield 9, 62), (62, .iconst 2, 63), (63, .iaload, 64), (64, .i2d, 65), (65, .ddiv, 66), (66, .dreturn, 67)]))))))
theorem ok_X8_meanCrumbs : e_ok mX8_meanCrumbs := ⟨by decide +kernel, rfl, by decide +kernel⟩
def mX8_openedShare : MD := (RX8, (yX8_openedShare, (cX8_openedShare, (1, (some .float, ([], [(0, .aload_n 0, 1), (1, .aload_n 0, 2), (2, .getfield 9, 5), (5, .iconst 3, 6), (6, .iaload, 7), (7, .ifCond .ne 7, 10), (10, .iconst 1, 11), (11, .goto 4, 14), (14, .iconst 0, 15), (15, .iconst 1, 16), (16, .invokevirtual 73, 19), (19, .ifCond .eq 7, 22), (22, .fconst 0, 23), (23, .goto 18, 26), (26, .aload_n 0, 27), (27, .getfield 9, 30), (30, .iconst 4, 31), (31, .iaload, 32), (32, .i2f, 33), (33, .aload_n 0, 34), (34, .getfield 9, 37), (37, .iconst 3, 38), (38, .iaload, 39), (39, .i2f, 40), (40, .fdiv, 41), (41, .freturn, 42)]))))))
theorem ok_X8_openedShare : e_ok mX8_openedShare := ⟨by decide +kernel, rfl, by decide +kernel⟩
def mX8_isConsistent : MD := (RX8, (yX8_isConsistent, (cX8_isConsistent, (3, (some .boolean, ([], [(0, .aload_n 0, 1), (1, .iconst 0, 2), (2, .putfield 41, 5), (5, .iconst 1, 6), (6, .istore_n 1, 7), (7, .iconst 0, 8), (8, .istore_n 2, 9), (9, .iload_n 2, 10), (10, .aload_n 0, 11), (11, .getfield 9, 14), (14, .iconst 2, 15), (15, .iaload, 16), (16, .if_icmp .ge 37, 19), (19, .iload_n 1, 20), (20, .aload_n 0, 21), (21, .iload_n 2, 22), (22, .bipush 7, 24), (24, .invokevirtual 55, 27), (27, .bipush 20, 29), (29, .if_icmp .lt 11, 32), (32, .aload_n 0, 33), (33, .iload_n 2, 34), (34, .invokevirtual 101, 37), (37, .ifCond .eq 7, 40), (40, .iconst 1, 41), (41, .goto 4, 44), (44, .iconst 0, 45), (45, .iand, 46), (46, .istore_n 1, 47), (47, .iinc 2 1, 50), (50, .goto (-41), 53), (53, .iload_n 1, 54), (54, .ireturn, 55)]))))))
theorem ok_X8_isConsistent : e_ok mX8_isConsistent := ⟨by decide +kernel, rfl, by decide +kernel⟩
def mX8_puts : MD := (RX8, (yX8_puts, (cX8_puts, (2, (none, ([], [(0, .aload_n 0, 1), (1, .getfield 32, 4), (4, .aload_n 0, 5), (5, .getfield 175, 8), (8, .iload_n 1, 9), (9, .iastore, 10), (10, .aload_n 0, 11), (11, .dup, 12), (12, .getfield 175, 15), (15, .iconst 1, 16), (16, .iadd, 17), (17, .putfield 175, 20), (20, .return_, 21)]))))))
theorem ok_X8_puts : e_ok mX8_puts := ⟨by decide +kernel, rfl, by decide +kernel⟩
def mX8_number : MD := (RX8, (yX8_number, (cX8_number, (2, (none, ([], [(0, .iload_n 1, 1), (1, .bipush 10, 3), (3, .if_icmp .lt 11, 6), (6, .aload_n 0, 7), (7, .iload_n 1, 8), (8, .bipush 10, 10), (10, .idiv, 11), (11, .invokevirtual 178, 14), (14, .aload_n 0, 15), (15, .bipush 48, 17), (17, .iload_n 1, 18), (18, .bipush 10, 20), (20, .irem, 21), (21, .iadd, 22), (22, .invokevirtual 181, 25), (25, .return_, 26)]))))))
theorem ok_X8_number : e_ok mX8_number := ⟨by decide +kernel, rfl, by decide +kernel⟩
def mX8_renderLock : MD := (RX8, (yX8_renderLock, (cX8_renderLock, (3, (some .int, ([], [(0, .aload_n 0, 1), (1, .aload_n 0, 2), (2, .iload_n 1, 3), (3, .invokevirtual 92, 6), (6, .ifCond .ne 7, 9), (9, .iconst 1, 10), (10, .goto 4, 13), (13, .iconst 0, 14), (14, .iconst 1, 15), (15, .invokevirtual 73, 18), (18, .ifCond .eq 5, 21), (21, .iconst 0, 22), (22, .ireturn, 23), (23, .aload_n 0, 24), (24, .iconst 0, 25), (25, .putfield 175, 28), (28, .iconst 0, 29), (29, .istore_n 2, 30), (30, .iload_n 2, 31), (31, .iconst 3, 32), (32, .if_icmp .ge 21, 35), (35, .aload_n 0, 36), (36, .aload_n 0, 37), (37, .iload_n 1, 38), (38, .iconst 0, 39), (39, .iload_n 2, 40), (40, .iadd, 41), (41, .invokevirtual 55, 44), (44, .invokevirtual 178, 47), (47, .iinc 2 1, 50), (50, .goto (-20), 53), (53, .aload_n 0, 54), (54, .bipush 47, 56), (56, .invokevirtual 181, 59), (59, .iconst 0, 60), (60, .istore_n 2, 61), (61, .iload_n 2, 62), (62, .iconst 3, 63), (63, .if_icmp .ge 21, 66), (66, .aload_n 0, 67), (67, .aload_n 0, 68), (68, .iload_n 1, 69), (69, .iconst 3, 70), (70, .iload_n 2, 71), (71, .iadd, 72), (72, .invokevirtual 55, 75), (75, .invokevirtual 178, 78), (78, .iinc 2 1, 81), (81, .goto (-20), 84), (84, .aload_n 0, 85), (85, .bipush 99, 87), (87, .invokevirtual 181, 90), (90, .aload_n 0, 91), (91, .aload_n 0, 92), (92, .iload_n 1, 93), (93, .bipush 7, 95), (95, .invokevirtual 55, 98), (98, .invokevirtual 178, 101), (101, .aload_n 0, 102), (102, .aload_n 0, 103), (103, .iload_n 1, 104), (104, .invokevirtual 59, 107), (107, .ifCond .eq 8, 110), (110, .bipush 98, 112), (112, .goto 18, 115), (115, .aload_n 0, 116), (116, .iload_n 1, 117), (117, .invokevirtual 101, 120), (120, .ifCond .eq 8, 123), (123, .bipush 111, 125), (125, .goto 5, 128), (128, .bipush 115, 130), (130, .invokevirtual 181, 133), (133, .aload_n 0, 134), (134, .getfield 175, 137), (137, .ireturn, 138)]))))))
theorem ok_X8_renderLock : e_ok mX8_renderLock := ⟨by decide +kernel, rfl, by decide +kernel⟩
def mX8_renderOvens : MD := (RX8, (yX8_renderOvens, (cX8_renderOvens, (2, (some .int, ([], [(0, .aload_n 0, 1), (1, .iconst 0, 2), (2, .putfield 41, 5), (5, .aload_n 0, 6), (6, .iconst 0, 7), (7, .putfield 175, 10), (10, .iconst 0, 11), (11, .istore_n 1, 12), (12, .iload_n 1, 13), (13, .iconst 2, 14), (14, .if_icmp .ge 76, 17), (17, .iload_n 1, 18), (18, .ifCond .le 9, 21), (21, .aload_n 0, 22), (22, .bipush 32, 24), (24, .invokevirtual 181, 27), (27, .aload_n 0, 28), (28, .iload_n 1, 29), (29, .invokevirtual 178, 32), (32, .aload_n 0, 33), (33, .bipush 58, 35), (35, .invokevirtual 181, 38), (38, .aload_n 0, 39), (39, .iload_n 1, 40), (40, .iconst 0, 41), (41, .invokevirtual 137, 44), (44, .ifCond .ne 12, 47), (47, .aload_n 0, 48), (48, .bipush 45, 50), (50, .invokevirtual 181, 53), (53, .goto 31, 56), (56, .aload_n 0, 57), (57, .aload_n 0, 58), (58, .iload_n 1, 59), (59, .iconst 0, 60), (60, .invokevirtual 137, 63), (63, .iconst 1, 64), (64, .isub, 65), (65, .invokevirtual 178, 68), (68, .aload_n 0, 69), (69, .bipush 120, 71), (71, .invokevirtual 181, 74), (74, .aload_n 0, 75), (75, .aload_n 0, 76), (76, .iload_n 1, 77), (77, .iconst 1, 78), (78, .invokevirtual 137, 81), (81, .invokevirtual 178, 84), (84, .iinc 1 1, 87), (87, .goto (-75), 90), (90, .aload_n 0, 91), (91, .getfield 175, 94), (94, .ireturn, 95)]))))))
theorem ok_X8_renderOvens : e_ok mX8_renderOvens := ⟨by decide +kernel, rfl, by decide +kernel⟩
def mX8_outputAt : MD := (RX8, (yX8_outputAt, (cX8_outputAt, (2, (some .char, ([], [(0, .aload_n 0, 1), (1, .iload_n 1, 2), (2, .iconst 0, 3), (3, .aload_n 0, 4), (4, .getfield 175, 7), (7, .iconst 1, 8), (8, .isub, 9), (9, .invokestatic 51, 12), (12, .ifCond .ne 7, 15), (15, .iconst 1, 16), (16, .goto 4, 19), (19, .iconst 0, 20), (20, .iconst 1, 21), (21, .invokevirtual 73, 24), (24, .ifCond .eq 7, 27), (27, .iconst 0, 28), (28, .goto 10, 31), (31, .aload_n 0, 32), (32, .getfield 32, 35), (35, .iload_n 1, 36), (36, .iaload, 37), (37, .i2c, 38), (38, .ireturn, 39)]))))))
theorem ok_X8_outputAt : e_ok mX8_outputAt := ⟨by decide +kernel, rfl, by decide +kernel⟩
def mX8_type : MD := (RX8, (yX8_type, (cX8_type, (2, (some .int, ([], [(0, .aload_n 0, 1), (1, .iload_n 1, 2), (2, .bipush 32, 4), (4, .bipush 126, 6), (6, .invokestatic 51, 9), (9, .ifCond .ne 7, 12), (12, .iconst 1, 13), (13, .goto 4, 16), (16, .iconst 0, 17), (17, .iconst 1, 18), (18, .invokevirtual 73, 21), (21, .ifCond .ne 25, 24), (24, .aload_n 0, 25), (25, .aload_n 0, 26), (26, .getfield 184, 29), (29, .bipush 60, 31), (31, .if_icmp .ne 7, 34), (34, .iconst 1, 35), (35, .goto 4, 38), (38, .iconst 0, 39), (39, .iconst 2, 40), (40, .invokevirtual 73, 43), (43, .ifCond .eq 5, 46), (46, .iconst 0, 47), (47, .ireturn, 48), (48, .aload_n 0, 49), (49, .getfield 35, 52), (52, .aload_n 0, 53), (53, .getfield 184, 56), (56, .iload_n 1, 57), (57, .iastore, 58), (58, .aload_n 0, 59), (59, .dup, 60), (60, .getfield 184, 63), (63, .iconst 1, 64), (64, .iadd, 65), (65, .putfield 184, 68), (68, .aload_n 0, 69), (69, .getfield 184, 72), (72, .ireturn, 73)]))))))
theorem ok_X8_type : e_ok mX8_type := ⟨by decide +kernel, rfl, by decide +kernel⟩
def mX8_now : MD := (RX8, (yX8_now, (cX8_now, (1, (some .int, ([], [(0, .aload_n 0, 1), (1, .getfield 187, 4), (4, .aload_n 0, 5), (5, .getfield 184, 8), (8, .if_icmp .ge 15, 11), (11, .aload_n 0, 12), (12, .getfield 35, 15), (15, .aload_n 0, 16), (16, .getfield 187, 19), (19, .iaload, 20), (20, .goto 4, 23), (23, .iconst (-1), 24), (24, .ireturn, 25)]))))))
theorem ok_X8_now : e_ok mX8_now := ⟨by decide +kernel, rfl, by decide +kernel⟩
def mX8_isSign : MD := (RX8, (yX8_isSign, (cX8_isSign, (3, (some .boolean, ([], [(0, .aload_n 0, 1), (1, .invokevirtual 190, 4), (4, .iload_n 1, 5), (5, .if_icmp .ne 7, 8), (8, .iconst 1, 9), (9, .goto 4, 12), (12, .iconst 0, 13), (13, .istore_n 2, 14), (14, .aload_n 0, 15), (15, .dup, 16), (16, .getfield 187, 19), (19, .iload_n 2, 20), (20, .ifCond .eq 7, 23), (23, .iconst 1, 24), (24, .goto 4, 27), (27, .iconst 0, 28), (28, .iadd, 29), (29, .putfield 187, 32), (32, .iload_n 2, 33), (33, .ireturn, 34)]))))))
theorem ok_X8_isSign : e_ok mX8_isSign := ⟨by decide +kernel, rfl, by decide +kernel⟩
def mX8_isNumber : MD := (RX8, (yX8_isNumber, (cX8_isNumber, (5, (some .boolean, ([], [(0, .iconst 0, 1), (1, .istore_n 3, 2), (2, .iconst 0, 3), (3, .istore 4, 5), (5, .iload 4, 7), (7, .iload_n 1, 8), (8, .if_icmp .ge 46, 11), (11, .aload_n 0, 12), (12, .invokevirtual 190, 15), (15, .bipush 48, 17), (17, .bipush 57, 19), (19, .invokestatic 51, 22), (22, .ifCond .eq 32, 25), (25, .bipush 10, 27), (27, .iload_n 3, 28), (28, .imul, 29), (29, .aload_n 0, 30), (30, .invokevirtual 190, 33), (33, .iadd, 34), (34, .bipush 48, 36), (36, .isub, 37), (37, .istore_n 3, 38), (38, .aload_n 0, 39), (39, .dup, 40), (40, .getfield 187, 43), (43, .iconst 1, 44), (44, .iadd, 45), (45, .putfield 187, 48), (48, .iinc 4 1, 51), (51, .goto (-46), 54), (54, .aload_n 0, 55), (55, .getfield 38, 58), (58, .iload_n 2, 59), (59, .iload_n 3, 60), (60, .iastore, 61), (61, .iload 4, 63), (63, .ifCond .le 7, 66), (66, .iconst 1, 67), (67, .goto 4, 70), (70, .iconst 0, 71), (71, .ireturn, 72)]))))))
theorem ok_X8_isNumber : e_ok mX8_isNumber := ⟨by decide +kernel, rfl, by decide +kernel⟩
def mX8_isWord : MD := (RX8, (yX8_isWord, (cX8_isWord, (3, (some .boolean, ([], [(0, .iconst 0, 1), (1, .istore_n 2, 2), (2, .iload_n 2, 3), (3, .aload_n 1, 4), (4, .invokevirtual 193, 7), (7, .if_icmp .ge 23, 10), (10, .aload_n 0, 11), (11, .aload_n 1, 12), (12, .iload_n 2, 13), (13, .invokevirtual 198, 16), (16, .invokevirtual 202, 19), (19, .ifCond .ne 5, 22), (22, .iconst 0, 23), (23, .ireturn, 24), (24, .iinc 2 1, 27), (27, .goto (-25), 30), (30, .iconst 1, 31), (31, .ireturn, 32)]))))))
theorem ok_X8_isWord : e_ok mX8_isWord := ⟨by decide +kernel, rfl, by decide +kernel⟩
def mX8_isThree : MD := (RX8, (yX8_isThree, (cX8_isThree, (2, (some .boolean, ([], [(0, .aload_n 0, 1), (1, .iconst 1, 2), (2, .iload_n 1, 3), (3, .invokevirtual 205, 6), (6, .ifCond .eq 29, 9), (9, .aload_n 0, 10), (10, .iconst 1, 11), (11, .iload_n 1, 12), (12, .iconst 1, 13), (13, .iadd, 14), (14, .invokevirtual 205, 17), (17, .ifCond .eq 18, 20), (20, .aload_n 0, 21), (21, .iconst 1, 22), (22, .iload_n 1, 23), (23, .iconst 2, 24), (24, .iadd, 25), (25, .invokevirtual 205, 28), (28, .ifCond .eq 7, 31), (31, .iconst 1, 32), (32, .goto 4, 35), (35, .iconst 0, 36), (36, .ireturn, 37)]))))))
theorem ok_X8_isThree : e_ok mX8_isThree := ⟨by decide +kernel, rfl, by decide +kernel⟩
def mX8_isSteps : MD := (RX8, (yX8_isSteps, (cX8_isSteps, (3, (some .boolean, ([], [(0, .aload_n 0, 1), (1, .invokevirtual 190, 4), (4, .bipush 45, 6), (6, .if_icmp .ne 7, 9), (9, .iconst 1, 10), (10, .goto 4, 13), (13, .iconst 0, 14), (14, .istore_n 2, 15), (15, .aload_n 0, 16), (16, .bipush 43, 18), (18, .invokevirtual 202, 21), (21, .ifCond .ne 12, 24), (24, .aload_n 0, 25), (25, .bipush 45, 27), (27, .invokevirtual 202, 30), (30, .ifCond .eq 12, 33), (33, .aload_n 0, 34), (34, .iconst 1, 35), (35, .iload_n 1, 36), (36, .invokevirtual 205, 39), (39, .ifCond .ne 5, 42), (42, .iconst 0, 43), (43, .ireturn, 44), (44, .aload_n 0, 45), (45, .getfield 38, 48), (48, .iload_n 1, 49), (49, .iload_n 2, 50), (50, .ifCond .eq 13, 53), (53, .aload_n 0, 54), (54, .getfield 38, 57), (57, .iload_n 1, 58), (58, .iaload, 59), (59, .ineg, 60), (60, .goto 9, 63), (63, .aload_n 0, 64), (64, .getfield 38, 67), (67, .iload_n 1, 68), (68, .iaload, 69), (69, .iastore, 70), (70, .iconst 1, 71), (71, .ireturn, 72)]))))))
theorem ok_X8_isSteps : e_ok mX8_isSteps := ⟨by decide +kernel, rfl, by decide +kernel⟩
def mX8_readsT : MD := (RX8, (yX8_readsT, (cX8_readsT, (2, (some .boolean, ([], [(0, .aload_n 0, 1), (1, .bipush 117, 3), (3, .invokevirtual 202, 6), (6, .ifCond .eq 50, 9), (9, .aload_n 0, 10), (10, .ldc 208, 12), (12, .invokevirtual 210, 15), (15, .ifCond .eq 39, 18), (18, .aload_n 0, 19), (19, .iconst 1, 20), (20, .iload_n 1, 21), (21, .iconst 1, 22), (22, .iadd, 23), (23, .invokevirtual 205, 26), (26, .ifCond .eq 28, 29), (29, .aload_n 0, 30), (30, .iconst 1, 31), (31, .iload_n 1, 32), (32, .iconst 2, 33), (33, .iadd, 34), (34, .invokevirtual 205, 37), (37, .ifCond .eq 17, 40), (40, .aload_n 0, 41), (41, .iload_n 1, 42), (42, .iconst 3, 43), (43, .iadd, 44), (44, .invokevirtual 214, 47), (47, .ifCond .eq 7, 50), (50, .iconst 1, 51), (51, .goto 4, 54), (54, .iconst 0, 55), (55, .ireturn, 56), (56, .aload_n 0, 57), (57, .getfield 38, 60), (60, .iload_n 1, 61), (61, .bipush 114, 63), (63, .iastore, 64), (64, .aload_n 0, 65), (65, .ldc 217, 67), (67, .invokevirtual 210, 70), (70, .ifCond .eq 18, 73), (73, .aload_n 0, 74), (74, .iconst 1, 75), (75, .iload_n 1, 76), (76, .iconst 1, 77), (77, .iadd, 78), (78, .invokevirtual 205, 81), (81, .ifCond .eq 7, 84), (84, .iconst 1, 85), (85, .goto 4, 88), (88, .iconst 0, 89), (89, .ireturn, 90)]))))))
theorem ok_X8_readsT : e_ok mX8_readsT := ⟨by decide +kernel, rfl, by decide +kernel⟩
def mX8_readsD : MD := (RX8, (yX8_readsD, (cX8_readsD, (2, (some .boolean, ([], [(0, .aload_n 0, 1), (1, .bipush 111, 3), (3, .invokevirtual 202, 6), (6, .ifCond .eq 28, 9), (9, .aload_n 0, 10), (10, .ldc 219, 12), (12, .invokevirtual 210, 15), (15, .ifCond .eq 17, 18), (18, .aload_n 0, 19), (19, .iload_n 1, 20), (20, .iconst 1, 21), (21, .iadd, 22), (22, .invokevirtual 221, 25), (25, .ifCond .eq 7, 28), (28, .iconst 1, 29), (29, .goto 4, 32), (32, .iconst 0, 33), (33, .ireturn, 34), (34, .aload_n 0, 35), (35, .getfield 38, 38), (38, .iload_n 1, 39), (39, .bipush 97, 41), (41, .iastore, 42), (42, .aload_n 0, 43), (43, .ldc 224, 45), (45, .invokevirtual 210, 48), (48, .ifCond .eq 18, 51), (51, .aload_n 0, 52), (52, .iconst 1, 53), (53, .iload_n 1, 54), (54, .iconst 1, 55), (55, .iadd, 56), (56, .invokevirtual 205, 59), (59, .ifCond .eq 7, 62), (62, .iconst 1, 63), (63, .goto 4, 66), (66, .iconst 0, 67), (67, .ireturn, 68)]))))))
theorem ok_X8_readsD : e_ok mX8_readsD := ⟨by decide +kernel, rfl, by decide +kernel⟩
def mX8_readsS : MD := (RX8, (yX8_readsS, (cX8_readsS, (2, (some .boolean, ([], [(0, .aload_n 0, 1), (1, .bipush 104, 3), (3, .invokevirtual 202, 6), (6, .ifCond .eq 29, 9), (9, .aload_n 0, 10), (10, .ldc 226, 12), (12, .invokevirtual 210, 15), (15, .ifCond .eq 18, 18), (18, .aload_n 0, 19), (19, .iconst 1, 20), (20, .iload_n 1, 21), (21, .iconst 1, 22), (22, .iadd, 23), (23, .invokevirtual 205, 26), (26, .ifCond .eq 7, 29), (29, .iconst 1, 30), (30, .goto 4, 33), (33, .iconst 0, 34), (34, .ireturn, 35), (35, .aload_n 0, 36), (36, .getfield 38, 39), (39, .iload_n 1, 40), (40, .bipush 101, 42), (42, .iastore, 43), (43, .aload_n 0, 44), (44, .ldc 228, 46), (46, .invokevirtual 210, 49), (49, .ifCond .eq 37, 52), (52, .aload_n 0, 53), (53, .iconst 1, 54), (54, .iload_n 1, 55), (55, .iconst 1, 56), (56, .iadd, 57), (57, .invokevirtual 205, 60), (60, .ifCond .eq 26, 63), (63, .aload_n 0, 64), (64, .bipush 32, 66), (66, .invokevirtual 202, 69), (69, .ifCond .eq 17, 72), (72, .aload_n 0, 73), (73, .iload_n 1, 74), (74, .iconst 2, 75), (75, .iadd, 76), (76, .invokevirtual 221, 79), (79, .ifCond .eq 7, 82), (82, .iconst 1, 83), (83, .goto 4, 86), (86, .iconst 0, 87), (87, .ireturn, 88)]))))))
theorem ok_X8_readsS : e_ok mX8_readsS := ⟨by decide +kernel, rfl, by decide +kernel⟩
def mX8_readsHour : MD := (RX8, (yX8_readsHour, (cX8_readsHour, (2, (some .boolean, ([], [(0, .aload_n 0, 1), (1, .getfield 38, 4), (4, .iload_n 1, 5), (5, .iconst 1, 6), (6, .iadd, 7), (7, .iconst 1, 8), (8, .iastore, 9), (9, .aload_n 0, 10), (10, .ldc 230, 12), (12, .invokevirtual 210, 15), (15, .ifCond .eq 27, 18), (18, .aload_n 0, 19), (19, .bipush 32, 21), (21, .invokevirtual 202, 24), (24, .ifCond .eq 14, 27), (27, .aload_n 0, 28), (28, .iconst 2, 29), (29, .iload_n 1, 30), (30, .iconst 1, 31), (31, .iadd, 32), (32, .invokevirtual 205, 35), (35, .ifCond .eq 7, 38), (38, .iconst 1, 39), (39, .goto 4, 42), (42, .iconst 0, 43), (43, .ireturn, 44)]))))))
theorem ok_X8_readsHour : e_ok mX8_readsHour := ⟨by decide +kernel, rfl, by decide +kernel⟩
theorem dw_X8_readsRest_1 : decode cX8_readsRest 1 = .ok (.lookupswitch 107 #[(98, 61), (100, 49), (115, 55), (116, 43)], 43) := by decide +kernel
def mX8_readsRest : MD := (RX8, (yX8_readsRest, (cX8_readsRest, (3, (some .boolean, ([], [(0, .iload_n 1, 1), (44, .aload_n 0, 45), (45, .iload_n 2, 46), (46, .invokevirtual 232, 49), (49, .ireturn, 50), (50, .aload_n 0, 51), (51, .iload_n 2, 52), (52, .invokevirtual 235, 55), (55, .ireturn, 56), (56, .aload_n 0, 57), (57, .iload_n 2, 58), (58, .invokevirtual 238, 61), (61, .ireturn, 62), (62, .aload_n 0, 63), (63, .ldc 241, 65), (65, .invokevirtual 210, 68), (68, .ifCond .eq 38, 71), (71, .aload_n 0, 72), (72, .iconst 1, 73), (73, .iload_n 2, 74), (74, .iconst 1, 75), (75, .iadd, 76), (76, .invokevirtual 205, 79), (79, .ifCond .eq 27, 82), (82, .aload_n 0, 83), (83, .bipush 32, 85), (85, .invokevirtual 202, 88), (88, .ifCond .eq 18, 91), (91, .aload_n 0, 92), (92, .iconst 1, 93), (93, .iload_n 2, 94), (94, .iconst 2, 95), (95, .iadd, 96), (96, .invokevirtual 205, 99), (99, .ifCond .eq 7, 102), (102, .iconst 1, 103), (103, .goto 4, 106), (106, .iconst 0, 107), (107, .ireturn, 108), (108, .aload_n 0, 109), (109, .iload_n 2, 110), (110, .invokevirtual 243, 113), (113, .ireturn, 114)]))))))
theorem ok_X8_readsRest : e_ok mX8_readsRest := ⟨by decide +kernel, rfl, by decide +kernel⟩
def mX8_isFirst : MD := (RX8, (yX8_isFirst, (cX8_isFirst, (1, (some .boolean, ([], [(0, .iload_n 0, 1), (1, .bipush 116, 3), (3, .if_icmp .eq 27, 6), (6, .iload_n 0, 7), (7, .bipush 100, 9), (9, .if_icmp .eq 21, 12), (12, .iload_n 0, 13), (13, .bipush 115, 15), (15, .if_icmp .eq 15, 18), (18, .iload_n 0, 19), (19, .bipush 98, 21), (21, .if_icmp .eq 9, 24), (24, .iload_n 0, 25), (25, .bipush 104, 27), (27, .if_icmp .ne 7, 30), (30, .iconst 1, 31), (31, .goto 4, 34), (34, .iconst 0, 35), (35, .ireturn, 36)]))))))
theorem ok_X8_isFirst : e_ok mX8_isFirst := ⟨by decide +kernel, rfl, by decide +kernel⟩
def mX8_readsCommand : MD := (RX8, (yX8_readsCommand, (cX8_readsCommand, (3, (some .boolean, ([], [(0, .iconst 5, 1), (1, .aload_n 0, 2), (2, .getfield 246, 5), (5, .imul, 6), (6, .istore_n 1, 7), (7, .aload_n 0, 8), (8, .invokevirtual 190, 11), (11, .istore_n 2, 12), (12, .iload_n 2, 13), (13, .invokestatic 249, 16), (16, .ifCond .ne 5, 19), (19, .iconst 0, 20), (20, .ireturn, 21), (21, .aload_n 0, 22), (22, .getfield 38, 25), (25, .iload_n 1, 26), (26, .iload_n 2, 27), (27, .iastore, 28), (28, .aload_n 0, 29), (29, .dup, 30), (30, .getfield 187, 33), (33, .iconst 1, 34), (34, .iadd, 35), (35, .putfield 187, 38), (38, .aload_n 0, 39), (39, .dup, 40), (40, .getfield 246, 43), (43, .iconst 1, 44), (44, .iadd, 45), (45, .putfield 246, 48), (48, .aload_n 0, 49), (49, .iload_n 2, 50), (50, .iload_n 1, 51), (51, .invokevirtual 252, 54), (54, .ireturn, 55)]))))))
theorem ok_X8_readsCommand : e_ok mX8_readsCommand := ⟨by decide +kernel, rfl, by decide +kernel⟩
def mX8_isScript : MD := (RX8, (yX8_isScript, (cX8_isScript, (2, (some .boolean, ([], [(0, .aload_n 0, 1), (1, .iconst 0, 2), (2, .putfield 187, 5), (5, .aload_n 0, 6), (6, .iconst 0, 7), (7, .putfield 246, 10), (10, .aload_n 0, 11), (11, .invokevirtual 255, 14), (14, .istore_n 1, 15), (15, .iload_n 1, 16), (16, .ifCond .eq 20, 19), (19, .aload_n 0, 20), (20, .bipush 59, 22), (22, .invokevirtual 202, 25), (25, .ifCond .eq 11, 28), (28, .aload_n 0, 29), (29, .invokevirtual 255, 32), (32, .istore_n 1, 33), (33, .goto (-18), 36), (36, .iload_n 1, 37), (37, .ifCond .eq 18, 40), (40, .aload_n 0, 41), (41, .getfield 187, 44), (44, .aload_n 0, 45), (45, .getfield 184, 48), (48, .if_icmp .ne 7, 51), (51, .iconst 1, 52), (52, .goto 4, 55), (55, .iconst 0, 56), (56, .ireturn, 57)]))))))
theorem ok_X8_isScript : e_ok mX8_isScript := ⟨by decide +kernel, rfl, by decide +kernel⟩
theorem dw_X8_does_34 : decode cX8_does 34 = .ok (.tableswitch 154 97 116 #[118, 147, 154, 109, 130, 154, 154, 154, 154, 154, 154, 154, 154, 154, 154, 154, 154, 103, 124, 94], 94) := by decide +kernel
def mX8_does : MD := (RX8, (yX8_does, (cX8_does, (5, (some .int, ([], [(0, .aload_n 0, 1), (1, .getfield 38, 4), (4, .iload_n 1, 5), (5, .iconst 1, 6), (6, .iadd, 7), (7, .iaload, 8), (8, .istore_n 2, 9), (9, .aload_n 0, 10), (10, .getfield 38, 13), (13, .iload_n 1, 14), (14, .iconst 2, 15), (15, .iadd, 16), (16, .iaload, 17), (17, .istore_n 3, 18), (18, .aload_n 0, 19), (19, .getfield 38, 22), (22, .iload_n 1, 23), (23, .iconst 3, 24), (24, .iadd, 25), (25, .iaload, 26), (26, .istore 4, 28), (28, .aload_n 0, 29), (29, .getfield 38, 32), (32, .iload_n 1, 33), (33, .iaload, 34), (128, .aload_n 0, 129), (129, .iload_n 2, 130), (130, .iload_n 3, 131), (131, .iload 4, 133), (133, .invokevirtual 98, 136), (136, .ireturn, 137), (137, .aload_n 0, 138), (138, .iload_n 2, 139), (139, .invokevirtual 117, 142), (142, .ireturn, 143), (143, .aload_n 0, 144), (144, .iload_n 2, 145), (145, .iload_n 3, 146), (146, .iload 4, 148), (148, .invokevirtual 84, 151), (151, .ireturn, 152), (152, .aload_n 0, 153), (153, .iload_n 2, 154), (154, .invokevirtual 131, 157), (157, .ireturn, 158), (158, .aload_n 0, 159), (159, .iload_n 2, 160), (160, .invokevirtual 124, 163), (163, .ireturn, 164), (164, .aload_n 0, 165), (165, .iload_n 2, 166), (166, .iload_n 3, 167), (167, .iload 4, 169), (169, .aload_n 0, 170), (170, .getfield 38, 173), (173, .iload_n 1, 174), (174, .iconst 4, 175), (175, .iadd, 176), (176, .iaload, 177), (177, .invokevirtual 127, 180), (180, .ireturn, 181), (181, .aload_n 0, 182), (182, .iload_n 2, 183), (183, .iload_n 3, 184), (184, .invokevirtual 143, 187), (187, .ireturn, 188), (188, .aload_n 0, 189), (189, .iload_n 2, 190), (190, .invokevirtual 156, 193), (193, .ireturn, 194)]))))))
theorem ok_X8_does : e_ok mX8_does := ⟨by decide +kernel, rfl, by decide +kernel⟩
def mX8_runScript : MD := (RX8, (yX8_runScript, (cX8_runScript, (3, (some .int, ([], [(0, .aload_n 0, 1), (1, .invokevirtual 259, 4), (4, .istore_n 1, 5), (5, .aload_n 0, 6), (6, .iconst 0, 7), (7, .putfield 184, 10), (10, .aload_n 0, 11), (11, .iload_n 1, 12), (12, .ifCond .ne 7, 15), (15, .iconst 1, 16), (16, .goto 4, 19), (19, .iconst 0, 20), (20, .iconst 1, 21), (21, .invokevirtual 73, 24), (24, .ifCond .eq 13, 27), (27, .aload_n 0, 28), (28, .aload_n 0, 29), (29, .getfield 187, 32), (32, .putfield 25, 35), (35, .iconst 0, 36), (36, .ireturn, 37), (37, .aload_n 0, 38), (38, .invokevirtual 81, 41), (41, .iconst 0, 42), (42, .istore_n 2, 43), (43, .iload_n 2, 44), (44, .aload_n 0, 45), (45, .getfield 246, 48), (48, .if_icmp .ge 57, 51), (51, .aload_n 0, 52), (52, .iconst 0, 53), (53, .putfield 41, 56), (56, .aload_n 0, 57), (57, .aload_n 0, 58), (58, .iconst 5, 59), (59, .iload_n 2, 60), (60, .imul, 61), (61, .invokevirtual 262, 64), (64, .putfield 265, 67), (67, .aload_n 0, 68), (68, .getfield 41, 71), (71, .ifCond .eq 28, 74), (74, .aload_n 0, 75), (75, .getfield 13, 78), (78, .iconst 0, 79), (79, .aload_n 0, 80), (80, .getfield 9, 83), (83, .iconst 0, 84), (84, .invokestatic 44, 87), (87, .aload_n 0, 88), (88, .iload_n 2, 89), (89, .putfield 29, 92), (92, .aload_n 0, 93), (93, .iconst 2, 94), (94, .putfield 41, 97), (97, .iconst 0, 98), (98, .ireturn, 99), (99, .iinc 2 1, 102), (102, .goto (-59), 105), (105, .aload_n 0, 106), (106, .aload_n 0, 107), (107, .getfield 246, 110), (110, .invokevirtual 88, 113), (113, .ireturn, 114)]))))))
theorem ok_X8_runScript : e_ok mX8_runScript := ⟨by decide +kernel, rfl, by decide +kernel⟩
def mX8_errorPosition : MD := (RX8, (yX8_errorPosition, (cX8_errorPosition, (1, (some .int, ([], [(0, .aload_n 0, 1), (1, .aload_n 0, 2), (2, .getfield 25, 5), (5, .ifCond .ge 7, 8), (8, .iconst 1, 9), (9, .goto 4, 12), (12, .iconst 0, 13), (13, .iconst 1, 14), (14, .invokevirtual 73, 17), (17, .ifCond .eq 7, 20), (20, .iconst 0, 21), (21, .goto 7, 24), (24, .aload_n 0, 25), (25, .getfield 25, 28), (28, .ireturn, 29)]))))))
theorem ok_X8_errorPosition : e_ok mX8_errorPosition := ⟨by decide +kernel, rfl, by decide +kernel⟩
def mX8_failedCommand : MD := (RX8, (yX8_failedCommand, (cX8_failedCommand, (1, (some .int, ([], [(0, .aload_n 0, 1), (1, .aload_n 0, 2), (2, .getfield 29, 5), (5, .ifCond .ge 7, 8), (8, .iconst 1, 9), (9, .goto 4, 12), (12, .iconst 0, 13), (13, .iconst 1, 14), (14, .invokevirtual 73, 17), (17, .ifCond .eq 7, 20), (20, .iconst 0, 21), (21, .goto 7, 24), (24, .aload_n 0, 25), (25, .getfield 29, 28), (28, .ireturn, 29)]))))))
theorem ok_X8_failedCommand : e_ok mX8_failedCommand := ⟨by decide +kernel, rfl, by decide +kernel⟩
def mX8_undo : MD := (RX8, (yX8_undo, (cX8_undo, (1, (some .int, ([], [(0, .aload_n 0, 1), (1, .aload_n 0, 2), (2, .getfield 48, 5), (5, .ifCond .ne 7, 8), (8, .iconst 1, 9), (9, .goto 4, 12), (12, .iconst 0, 13), (13, .iconst 1, 14), (14, .invokevirtual 73, 17), (17, .ifCond .eq 5, 20), (20, .iconst 0, 21), (21, .ireturn, 22), (22, .aload_n 0, 23), (23, .dup, 24), (24, .getfield 48, 27), (27, .iconst 1, 28), (28, .isub, 29), (29, .putfield 48, 32), (32, .aload_n 0, 33), (33, .getfield 22, 36), (36, .bipush 85, 38), (38, .aload_n 0, 39), (39, .getfield 48, 42), (42, .imul, 43), (43, .aload_n 0, 44), (44, .getfield 9, 47), (47, .iconst 0, 48), (48, .invokestatic 44, 51), (51, .aload_n 0, 52), (52, .getfield 48, 55), (55, .ireturn, 56)]))))))
theorem ok_X8_undo : e_ok mX8_undo := ⟨by decide +kernel, rfl, by decide +kernel⟩
def mX8_save : MD := (RX8, (yX8_save, (cX8_save, (1, (some .int, ([], [(0, .aload_n 0, 1), (1, .iconst 0, 2), (2, .putfield 41, 5), (5, .aload_n 0, 6), (6, .getfield 9, 9), (9, .iconst 0, 10), (10, .aload_n 0, 11), (11, .getfield 19, 14), (14, .iconst 0, 15), (15, .invokestatic 44, 18), (18, .aload_n 0, 19), (19, .iconst 1, 20), (20, .putfield 268, 23), (23, .aload_n 0, 24), (24, .getfield 9, 27), (27, .iconst 2, 28), (28, .iaload, 29), (29, .ireturn, 30)]))))))
theorem ok_X8_save : e_ok mX8_save := ⟨by decide +kernel, rfl, by decide +kernel⟩
def mX8_restore : MD := (RX8, (yX8_restore, (cX8_restore, (1, (some .int, ([], [(0, .aload_n 0, 1), (1, .aload_n 0, 2), (2, .getfield 268, 5), (5, .ifCond .ne 7, 8), (8, .iconst 1, 9), (9, .goto 4, 12), (12, .iconst 0, 13), (13, .iconst 1, 14), (14, .invokevirtual 73, 17), (17, .ifCond .eq 5, 20), (20, .iconst 0, 21), (21, .ireturn, 22), (22, .aload_n 0, 23), (23, .getfield 19, 26), (26, .iconst 0, 27), (27, .aload_n 0, 28), (28, .getfield 9, 31), (31, .iconst 0, 32), (32, .invokestatic 44, 35), (35, .aload_n 0, 36), (36, .iconst 0, 37), (37, .putfield 48, 40), (40, .aload_n 0, 41), (41, .getfield 9, 44), (44, .iconst 2, 45), (45, .iaload, 46), (46, .ireturn, 47)]))))))
theorem ok_X8_restore : e_ok mX8_restore := ⟨by decide +kernel, rfl, by decide +kernel⟩
def mL_addDoor : MD := (RL, (yL_addDoor, (cL_addDoor, (6, (some .int, ([(0, 12, 15, 13), (0, 12, 19, 15)], [(0, .aload 4, 2), (2, .iconst 0, 3), (3, .aload_n 0, 4), (4, .iload_n 1, 5), (5, .iload_n 2, 6), (6, .iload_n 3, 7), (7, .invokevirtual 7, 10), (10, .i2l, 11), (11, .lastore, 12), (12, .goto 11, 15), (15, .astore 5, 17), (17, .iconst 1, 18), (18, .ireturn, 19), (19, .astore 5, 21), (21, .iconst 2, 22), (22, .ireturn, 23), (23, .iconst 0, 24), (24, .ireturn, 25)]))))))
theorem ok_L_addDoor : e_ok mL_addDoor := ⟨by decide +kernel, rfl, by decide +kernel⟩
def mL_turn : MD := (RL, (yL_turn, (cL_turn, (6, (some .int, ([(0, 12, 15, 20), (0, 12, 19, 13), (0, 12, 23, 15)], [(0, .aload 4, 2), (2, .iconst 0, 3), (3, .aload_n 0, 4), (4, .iload_n 1, 5), (5, .iload_n 2, 6), (6, .iload_n 3, 7), (7, .invokevirtual 17, 10), (10, .i2l, 11), (11, .lastore, 12), (12, .goto 15, 15), (15, .astore 5, 17), (17, .iconst 1, 18), (18, .ireturn, 19), (19, .astore 5, 21), (21, .iconst 2, 22), (22, .ireturn, 23), (23, .astore 5, 25), (25, .iconst 3, 26), (26, .ireturn, 27), (27, .iconst 0, 28), (28, .ireturn, 29)]))))))
theorem ok_L_turn : e_ok mL_turn := ⟨by decide +kernel, rfl, by decide +kernel⟩
def mL_tryLock : MD := (RL, (yL_tryLock, (cL_tryLock, (4, (some .int, ([(0, 16, 19, 20), (0, 16, 22, 15)], [(0, .aload_n 2, 1), (1, .iconst 0, 2), (2, .aload_n 0, 3), (3, .iload_n 1, 4), (4, .invokevirtual 22, 7), (7, .ifCond .eq 7, 10), (10, .lconst 1, 11), (11, .goto 4, 14), (14, .lconst 0, 15), (15, .lastore, 16), (16, .goto 9, 19), (19, .astore_n 3, 20), (20, .iconst 1, 21), (21, .ireturn, 22), (22, .astore_n 3, 23), (23, .iconst 2, 24), (24, .ireturn, 25), (25, .iconst 0, 26), (26, .ireturn, 27)]))))))
theorem ok_L_tryLock : e_ok mL_tryLock := ⟨by decide +kernel, rfl, by decide +kernel⟩
def mL_shut : MD := (RL, (yL_shut, (cL_shut, (4, (some .int, ([(0, 9, 12, 20), (0, 9, 15, 15), (0, 9, 18, 30)], [(0, .aload_n 2, 1), (1, .iconst 0, 2), (2, .aload_n 0, 3), (3, .iload_n 1, 4), (4, .invokevirtual 26, 7), (7, .i2l, 8), (8, .lastore, 9), (9, .goto 12, 12), (12, .astore_n 3, 13), (13, .iconst 1, 14), (14, .ireturn, 15), (15, .astore_n 3, 16), (16, .iconst 2, 17), (17, .ireturn, 18), (18, .astore_n 3, 19), (19, .iconst 3, 20), (20, .ireturn, 21), (21, .iconst 0, 22), (22, .ireturn, 23)]))))))
theorem ok_L_shut : e_ok mL_shut := ⟨by decide +kernel, rfl, by decide +kernel⟩
def mL_setCombination : MD := (RL, (yL_setCombination, (cL_setCombination, (7, (some .int, ([(0, 14, 17, 20), (0, 14, 21, 13), (0, 14, 25, 15)], [(0, .aload 5, 2), (2, .iconst 0, 3), (3, .aload_n 0, 4), (4, .iload_n 1, 5), (5, .iload_n 2, 6), (6, .iload_n 3, 7), (7, .iload 4, 9), (9, .invokevirtual 32, 12), (12, .i2l, 13), (13, .lastore, 14), (14, .goto 15, 17), (17, .astore 6, 19), (19, .iconst 1, 20), (20, .ireturn, 21), (21, .astore 6, 23), (23, .iconst 2, 24), (24, .ireturn, 25), (25, .astore 6, 27), (27, .iconst 3, 28), (28, .ireturn, 29), (29, .iconst 0, 30), (30, .ireturn, 31)]))))))
theorem ok_L_setCombination : e_ok mL_setCombination := ⟨by decide +kernel, rfl, by decide +kernel⟩
def mL_setDamp : MD := (RL, (yL_setDamp, (cL_setDamp, (4, (some .int, ([(0, 9, 12, 13)], [(0, .aload_n 2, 1), (1, .iconst 0, 2), (2, .aload_n 0, 3), (3, .iload_n 1, 4), (4, .invokevirtual 36, 7), (7, .i2l, 8), (8, .lastore, 9), (9, .goto 6, 12), (12, .astore_n 3, 13), (13, .iconst 1, 14), (14, .ireturn, 15), (15, .iconst 0, 16), (16, .ireturn, 17)]))))))
theorem ok_L_setDamp : e_ok mL_setDamp := ⟨by decide +kernel, rfl, by decide +kernel⟩
def mL_bake : MD := (RL, (yL_bake, (cL_bake, (5, (some .int, ([(0, 10, 13, 20), (0, 10, 17, 15), (0, 10, 21, 30)], [(0, .aload_n 3, 1), (1, .iconst 0, 2), (2, .aload_n 0, 3), (3, .iload_n 1, 4), (4, .iload_n 2, 5), (5, .invokevirtual 39, 8), (8, .i2l, 9), (9, .lastore, 10), (10, .goto 15, 13), (13, .astore 4, 15), (15, .iconst 1, 16), (16, .ireturn, 17), (17, .astore 4, 19), (19, .iconst 2, 20), (20, .ireturn, 21), (21, .astore 4, 23), (23, .iconst 3, 24), (24, .ireturn, 25), (25, .iconst 0, 26), (26, .ireturn, 27)]))))))
theorem ok_L_bake : e_ok mL_bake := ⟨by decide +kernel, rfl, by decide +kernel⟩
def mL_passHours : MD := (RL, (yL_passHours, (cL_passHours, (4, (some .int, ([(0, 9, 12, 13)], [(0, .aload_n 2, 1), (1, .iconst 0, 2), (2, .aload_n 0, 3), (3, .iload_n 1, 4), (4, .invokevirtual 43, 7), (7, .i2l, 8), (8, .lastore, 9), (9, .goto 6, 12), (12, .astore_n 3, 13), (13, .iconst 1, 14), (14, .ireturn, 15), (15, .iconst 0, 16), (16, .ireturn, 17)]))))))
theorem ok_L_passHours : e_ok mL_passHours := ⟨by decide +kernel, rfl, by decide +kernel⟩
def mL_dial : MD := (RL, (yL_dial, (cL_dial, (5, (some .int, ([(0, 10, 13, 20)], [(0, .aload_n 3, 1), (1, .iconst 0, 2), (2, .aload_n 0, 3), (3, .iload_n 1, 4), (4, .iload_n 2, 5), (5, .invokevirtual 46, 8), (8, .i2l, 9), (9, .lastore, 10), (10, .goto 7, 13), (13, .astore 4, 15), (15, .iconst 1, 16), (16, .ireturn, 17), (17, .iconst 0, 18), (18, .ireturn, 19)]))))))
theorem ok_L_dial : e_ok mL_dial := ⟨by decide +kernel, rfl, by decide +kernel⟩
def mL_combination : MD := (RL, (yL_combination, (cL_combination, (5, (some .int, ([(0, 10, 13, 20)], [(0, .aload_n 3, 1), (1, .iconst 0, 2), (2, .aload_n 0, 3), (3, .iload_n 1, 4), (4, .iload_n 2, 5), (5, .invokevirtual 49, 8), (8, .i2l, 9), (9, .lastore, 10), (10, .goto 7, 13), (13, .astore 4, 15), (15, .iconst 1, 16), (16, .ireturn, 17), (17, .iconst 0, 18), (18, .ireturn, 19)]))))))
theorem ok_L_combination : e_ok mL_combination := ⟨by decide +kernel, rfl, by decide +kernel⟩
def mL_isOpen : MD := (RL, (yL_isOpen, (cL_isOpen, (4, (some .int, ([(0, 16, 19, 20)], [(0, .aload_n 2, 1), (1, .iconst 0, 2), (2, .aload_n 0, 3), (3, .iload_n 1, 4), (4, .invokevirtual 52, 7), (7, .ifCond .eq 7, 10), (10, .lconst 1, 11), (11, .goto 4, 14), (14, .lconst 0, 15), (15, .lastore, 16), (16, .goto 6, 19), (19, .astore_n 3, 20), (20, .iconst 1, 21), (21, .ireturn, 22), (22, .iconst 0, 23), (23, .ireturn, 24)]))))))
theorem ok_L_isOpen : e_ok mL_isOpen := ⟨by decide +kernel, rfl, by decide +kernel⟩
def mL_isBroken : MD := (RL, (yL_isBroken, (cL_isBroken, (4, (some .int, ([(0, 16, 19, 20)], [(0, .aload_n 2, 1), (1, .iconst 0, 2), (2, .aload_n 0, 3), (3, .iload_n 1, 4), (4, .invokevirtual 55, 7), (7, .ifCond .eq 7, 10), (10, .lconst 1, 11), (11, .goto 4, 14), (14, .lconst 0, 15), (15, .lastore, 16), (16, .goto 6, 19), (19, .astore_n 3, 20), (20, .iconst 1, 21), (21, .ireturn, 22), (22, .iconst 0, 23), (23, .ireturn, 24)]))))))
theorem ok_L_isBroken : e_ok mL_isBroken := ⟨by decide +kernel, rfl, by decide +kernel⟩
def mL_crumbs : MD := (RL, (yL_crumbs, (cL_crumbs, (4, (some .int, ([(0, 9, 12, 20)], [(0, .aload_n 2, 1), (1, .iconst 0, 2), (2, .aload_n 0, 3), (3, .iload_n 1, 4), (4, .invokevirtual 58, 7), (7, .i2l, 8), (8, .lastore, 9), (9, .goto 6, 12), (12, .astore_n 3, 13), (13, .iconst 1, 14), (14, .ireturn, 15), (15, .iconst 0, 16), (16, .ireturn, 17)]))))))
theorem ok_L_crumbs : e_ok mL_crumbs := ⟨by decide +kernel, rfl, by decide +kernel⟩
def mL_play : MD := (RL, (yL_play, (cL_play, (4, (some .int, ([(0, 9, 12, 20)], [(0, .aload_n 2, 1), (1, .iconst 0, 2), (2, .aload_n 0, 3), (3, .iload_n 1, 4), (4, .invokevirtual 61, 7), (7, .i2l, 8), (8, .lastore, 9), (9, .goto 6, 12), (12, .astore_n 3, 13), (13, .iconst 1, 14), (14, .ireturn, 15), (15, .iconst 0, 16), (16, .ireturn, 17)]))))))
theorem ok_L_play : e_ok mL_play := ⟨by decide +kernel, rfl, by decide +kernel⟩
def mL_fittingDials : MD := (RL, (yL_fittingDials, (cL_fittingDials, (4, (some .int, ([(0, 9, 12, 20)], [(0, .aload_n 2, 1), (1, .iconst 0, 2), (2, .aload_n 0, 3), (3, .iload_n 1, 4), (4, .invokevirtual 64, 7), (7, .i2l, 8), (8, .lastore, 9), (9, .goto 6, 12), (12, .astore_n 3, 13), (13, .iconst 1, 14), (14, .ireturn, 15), (15, .iconst 0, 16), (16, .ireturn, 17)]))))))
theorem ok_L_fittingDials : e_ok mL_fittingDials := ⟨by decide +kernel, rfl, by decide +kernel⟩
def mL_stepsToOpen : MD := (RL, (yL_stepsToOpen, (cL_stepsToOpen, (4, (some .int, ([(0, 9, 12, 20)], [(0, .aload_n 2, 1), (1, .iconst 0, 2), (2, .aload_n 0, 3), (3, .iload_n 1, 4), (4, .invokevirtual 67, 7), (7, .i2l, 8), (8, .lastore, 9), (9, .goto 6, 12), (12, .astore_n 3, 13), (13, .iconst 1, 14), (14, .ireturn, 15), (15, .iconst 0, 16), (16, .ireturn, 17)]))))))
theorem ok_L_stepsToOpen : e_ok mL_stepsToOpen := ⟨by decide +kernel, rfl, by decide +kernel⟩
def mL_stepsToOpenByTurning : MD := (RL, (yL_stepsToOpenByTurning, (cL_stepsToOpenByTurning, (4, (some .int, ([(0, 9, 12, 20)], [(0, .aload_n 2, 1), (1, .iconst 0, 2), (2, .aload_n 0, 3), (3, .iload_n 1, 4), (4, .invokevirtual 70, 7), (7, .i2l, 8), (8, .lastore, 9), (9, .goto 6, 12), (12, .astore_n 3, 13), (13, .iconst 1, 14), (14, .ireturn, 15), (15, .iconst 0, 16), (16, .ireturn, 17)]))))))
theorem ok_L_stepsToOpenByTurning : e_ok mL_stepsToOpenByTurning := ⟨by decide +kernel, rfl, by decide +kernel⟩
def mL_openingSettings : MD := (RL, (yL_openingSettings, (cL_openingSettings, (4, (some .int, ([(0, 9, 12, 20)], [(0, .aload_n 2, 1), (1, .iconst 0, 2), (2, .aload_n 0, 3), (3, .iload_n 1, 4), (4, .invokevirtual 73, 7), (7, .i2l, 8), (8, .lastore, 9), (9, .goto 6, 12), (12, .astore_n 3, 13), (13, .iconst 1, 14), (14, .ireturn, 15), (15, .iconst 0, 16), (16, .ireturn, 17)]))))))
theorem ok_L_openingSettings : e_ok mL_openingSettings := ⟨by decide +kernel, rfl, by decide +kernel⟩
def mL_triesUntilBroken : MD := (RL, (yL_triesUntilBroken, (cL_triesUntilBroken, (4, (some .int, ([(0, 9, 12, 20), (0, 9, 15, 79)], [(0, .aload_n 2, 1), (1, .iconst 0, 2), (2, .aload_n 0, 3), (3, .iload_n 1, 4), (4, .invokevirtual 76, 7), (7, .i2l, 8), (8, .lastore, 9), (9, .goto 9, 12), (12, .astore_n 3, 13), (13, .iconst 1, 14), (14, .ireturn, 15), (15, .astore_n 3, 16), (16, .iconst 2, 17), (17, .ireturn, 18), (18, .iconst 0, 19), (19, .ireturn, 20)]))))))
theorem ok_L_triesUntilBroken : e_ok mL_triesUntilBroken := ⟨by decide +kernel, rfl, by decide +kernel⟩
def mL_dialAfter : MD := (RL, (yL_dialAfter, (cL_dialAfter, (6, (some .int, ([(0, 12, 15, 20), (0, 12, 19, 13)], [(0, .aload 4, 2), (2, .iconst 0, 3), (3, .aload_n 0, 4), (4, .iload_n 1, 5), (5, .iload_n 2, 6), (6, .iload_n 3, 7), (7, .invokevirtual 81, 10), (10, .i2l, 11), (11, .lastore, 12), (12, .goto 11, 15), (15, .astore 5, 17), (17, .iconst 1, 18), (18, .ireturn, 19), (19, .astore 5, 21), (21, .iconst 2, 22), (22, .ireturn, 23), (23, .iconst 0, 24), (24, .ireturn, 25)]))))))
theorem ok_L_dialAfter : e_ok mL_dialAfter := ⟨by decide +kernel, rfl, by decide +kernel⟩
def mL_hoursUntilFitting : MD := (RL, (yL_hoursUntilFitting, (cL_hoursUntilFitting, (4, (some .int, ([(0, 9, 12, 20), (0, 9, 15, 79)], [(0, .aload_n 2, 1), (1, .iconst 0, 2), (2, .aload_n 0, 3), (3, .iload_n 1, 4), (4, .invokevirtual 84, 7), (7, .i2l, 8), (8, .lastore, 9), (9, .goto 9, 12), (12, .astore_n 3, 13), (13, .iconst 1, 14), (14, .ireturn, 15), (15, .astore_n 3, 16), (16, .iconst 2, 17), (17, .ireturn, 18), (18, .iconst 0, 19), (19, .ireturn, 20)]))))))
theorem ok_L_hoursUntilFitting : e_ok mL_hoursUntilFitting := ⟨by decide +kernel, rfl, by decide +kernel⟩
def mL_bakedDoor : MD := (RL, (yL_bakedDoor, (cL_bakedDoor, (4, (some .int, ([(0, 9, 12, 20), (0, 9, 15, 79)], [(0, .aload_n 2, 1), (1, .iconst 0, 2), (2, .aload_n 0, 3), (3, .iload_n 1, 4), (4, .invokevirtual 87, 7), (7, .i2l, 8), (8, .lastore, 9), (9, .goto 9, 12), (12, .astore_n 3, 13), (13, .iconst 1, 14), (14, .ireturn, 15), (15, .astore_n 3, 16), (16, .iconst 2, 17), (17, .ireturn, 18), (18, .iconst 0, 19), (19, .ireturn, 20)]))))))
theorem ok_L_bakedDoor : e_ok mL_bakedDoor := ⟨by decide +kernel, rfl, by decide +kernel⟩
def mL_bakingHours : MD := (RL, (yL_bakingHours, (cL_bakingHours, (4, (some .int, ([(0, 9, 12, 20)], [(0, .aload_n 2, 1), (1, .iconst 0, 2), (2, .aload_n 0, 3), (3, .iload_n 1, 4), (4, .invokevirtual 90, 7), (7, .i2l, 8), (8, .lastore, 9), (9, .goto 6, 12), (12, .astore_n 3, 13), (13, .iconst 1, 14), (14, .ireturn, 15), (15, .iconst 0, 16), (16, .ireturn, 17)]))))))
theorem ok_L_bakingHours : e_ok mL_bakingHours := ⟨by decide +kernel, rfl, by decide +kernel⟩
def mL_isBaking : MD := (RL, (yL_isBaking, (cL_isBaking, (4, (some .int, ([(0, 16, 19, 20)], [(0, .aload_n 2, 1), (1, .iconst 0, 2), (2, .aload_n 0, 3), (3, .iload_n 1, 4), (4, .invokevirtual 93, 7), (7, .ifCond .eq 7, 10), (10, .lconst 1, 11), (11, .goto 4, 14), (14, .lconst 0, 15), (15, .lastore, 16), (16, .goto 6, 19), (19, .astore_n 3, 20), (20, .iconst 1, 21), (21, .ireturn, 22), (22, .iconst 0, 23), (23, .ireturn, 24)]))))))
theorem ok_L_isBaking : e_ok mL_isBaking := ⟨by decide +kernel, rfl, by decide +kernel⟩
def mL_doorByCrumbs : MD := (RL, (yL_doorByCrumbs, (cL_doorByCrumbs, (4, (some .int, ([(0, 9, 12, 79)], [(0, .aload_n 2, 1), (1, .iconst 0, 2), (2, .aload_n 0, 3), (3, .iload_n 1, 4), (4, .invokevirtual 96, 7), (7, .i2l, 8), (8, .lastore, 9), (9, .goto 6, 12), (12, .astore_n 3, 13), (13, .iconst 1, 14), (14, .ireturn, 15), (15, .iconst 0, 16), (16, .ireturn, 17)]))))))
theorem ok_L_doorByCrumbs : e_ok mL_doorByCrumbs := ⟨by decide +kernel, rfl, by decide +kernel⟩
def mL_triedDoor : MD := (RL, (yL_triedDoor, (cL_triedDoor, (4, (some .int, ([(0, 9, 12, 79)], [(0, .aload_n 2, 1), (1, .iconst 0, 2), (2, .aload_n 0, 3), (3, .iload_n 1, 4), (4, .invokevirtual 99, 7), (7, .i2l, 8), (8, .lastore, 9), (9, .goto 6, 12), (12, .astore_n 3, 13), (13, .iconst 1, 14), (14, .ireturn, 15), (15, .iconst 0, 16), (16, .ireturn, 17)]))))))
theorem ok_L_triedDoor : e_ok mL_triedDoor := ⟨by decide +kernel, rfl, by decide +kernel⟩
def mL_didOpen : MD := (RL, (yL_didOpen, (cL_didOpen, (4, (some .int, ([(0, 16, 19, 79)], [(0, .aload_n 2, 1), (1, .iconst 0, 2), (2, .aload_n 0, 3), (3, .iload_n 1, 4), (4, .invokevirtual 102, 7), (7, .ifCond .eq 7, 10), (10, .lconst 1, 11), (11, .goto 4, 14), (14, .lconst 0, 15), (15, .lastore, 16), (16, .goto 6, 19), (19, .astore_n 3, 20), (20, .iconst 1, 21), (21, .ireturn, 22), (22, .iconst 0, 23), (23, .ireturn, 24)]))))))
theorem ok_L_didOpen : e_ok mL_didOpen := ⟨by decide +kernel, rfl, by decide +kernel⟩
def mL_meanCrumbs : MD := (RL, (yL_meanCrumbs, (cL_meanCrumbs, (3, (some .int, ([(0, 7, 10, 109)], [(0, .aload_n 1, 1), (1, .iconst 0, 2), (2, .aload_n 0, 3), (3, .invokevirtual 105, 6), (6, .dastore, 7), (7, .goto 6, 10), (10, .astore_n 2, 11), (11, .iconst 1, 12), (12, .ireturn, 13), (13, .iconst 0, 14), (14, .ireturn, 15)]))))))
theorem ok_L_meanCrumbs : e_ok mL_meanCrumbs := ⟨by decide +kernel, rfl, by decide +kernel⟩
def mL_openedShare : MD := (RL, (yL_openedShare, (cL_openedShare, (3, (some .int, ([(0, 8, 11, 109)], [(0, .aload_n 1, 1), (1, .iconst 0, 2), (2, .aload_n 0, 3), (3, .invokevirtual 111, 6), (6, .f2d, 7), (7, .dastore, 8), (8, .goto 6, 11), (11, .astore_n 2, 12), (12, .iconst 1, 13), (13, .ireturn, 14), (14, .iconst 0, 15), (15, .ireturn, 16)]))))))
theorem ok_L_openedShare : e_ok mL_openedShare := ⟨by decide +kernel, rfl, by decide +kernel⟩
def mL_renderLock : MD := (RL, (yL_renderLock, (cL_renderLock, (4, (some .int, ([(0, 9, 12, 20)], [(0, .aload_n 2, 1), (1, .iconst 0, 2), (2, .aload_n 0, 3), (3, .iload_n 1, 4), (4, .invokevirtual 115, 7), (7, .i2l, 8), (8, .lastore, 9), (9, .goto 6, 12), (12, .astore_n 3, 13), (13, .iconst 1, 14), (14, .ireturn, 15), (15, .iconst 0, 16), (16, .ireturn, 17)]))))))
theorem ok_L_renderLock : e_ok mL_renderLock := ⟨by decide +kernel, rfl, by decide +kernel⟩
def mL_outputAt : MD := (RL, (yL_outputAt, (cL_outputAt, (4, (some .int, ([(0, 9, 12, 20)], [(0, .aload_n 2, 1), (1, .iconst 0, 2), (2, .aload_n 0, 3), (3, .iload_n 1, 4), (4, .invokevirtual 118, 7), (7, .i2l, 8), (8, .lastore, 9), (9, .goto 6, 12), (12, .astore_n 3, 13), (13, .iconst 1, 14), (14, .ireturn, 15), (15, .iconst 0, 16), (16, .ireturn, 17)]))))))
theorem ok_L_outputAt : e_ok mL_outputAt := ⟨by decide +kernel, rfl, by decide +kernel⟩
def mL_type : MD := (RL, (yL_type, (cL_type, (4, (some .int, ([(0, 9, 12, 13), (0, 9, 15, 15)], [(0, .aload_n 2, 1), (1, .iconst 0, 2), (2, .aload_n 0, 3), (3, .iload_n 1, 4), (4, .invokevirtual 122, 7), (7, .i2l, 8), (8, .lastore, 9), (9, .goto 9, 12), (12, .astore_n 3, 13), (13, .iconst 1, 14), (14, .ireturn, 15), (15, .astore_n 3, 16), (16, .iconst 2, 17), (17, .ireturn, 18), (18, .iconst 0, 19), (19, .ireturn, 20)]))))))
theorem ok_L_type : e_ok mL_type := ⟨by decide +kernel, rfl, by decide +kernel⟩
def mL_runScript : MD := (RL, (yL_runScript, (cL_runScript, (3, (some .int, ([(0, 8, 11, 13), (0, 8, 14, 15)], [(0, .aload_n 1, 1), (1, .iconst 0, 2), (2, .aload_n 0, 3), (3, .invokevirtual 126, 6), (6, .i2l, 7), (7, .lastore, 8), (8, .goto 9, 11), (11, .astore_n 2, 12), (12, .iconst 1, 13), (13, .ireturn, 14), (14, .astore_n 2, 15), (15, .iconst 2, 16), (16, .ireturn, 17), (17, .iconst 0, 18), (18, .ireturn, 19)]))))))
theorem ok_L_runScript : e_ok mL_runScript := ⟨by decide +kernel, rfl, by decide +kernel⟩
def mL_errorPosition : MD := (RL, (yL_errorPosition, (cL_errorPosition, (3, (some .int, ([(0, 8, 11, 79)], [(0, .aload_n 1, 1), (1, .iconst 0, 2), (2, .aload_n 0, 3), (3, .invokevirtual 130, 6), (6, .i2l, 7), (7, .lastore, 8), (8, .goto 6, 11), (11, .astore_n 2, 12), (12, .iconst 1, 13), (13, .ireturn, 14), (14, .iconst 0, 15), (15, .ireturn, 16)]))))))
theorem ok_L_errorPosition : e_ok mL_errorPosition := ⟨by decide +kernel, rfl, by decide +kernel⟩
def mL_failedCommand : MD := (RL, (yL_failedCommand, (cL_failedCommand, (3, (some .int, ([(0, 8, 11, 79)], [(0, .aload_n 1, 1), (1, .iconst 0, 2), (2, .aload_n 0, 3), (3, .invokevirtual 133, 6), (6, .i2l, 7), (7, .lastore, 8), (8, .goto 6, 11), (11, .astore_n 2, 12), (12, .iconst 1, 13), (13, .ireturn, 14), (14, .iconst 0, 15), (15, .ireturn, 16)]))))))
theorem ok_L_failedCommand : e_ok mL_failedCommand := ⟨by decide +kernel, rfl, by decide +kernel⟩
def mL_undo : MD := (RL, (yL_undo, (cL_undo, (3, (some .int, ([(0, 8, 11, 79)], [(0, .aload_n 1, 1), (1, .iconst 0, 2), (2, .aload_n 0, 3), (3, .invokevirtual 136, 6), (6, .i2l, 7), (7, .lastore, 8), (8, .goto 6, 11), (11, .astore_n 2, 12), (12, .iconst 1, 13), (13, .ireturn, 14), (14, .iconst 0, 15), (15, .ireturn, 16)]))))))
theorem ok_L_undo : e_ok mL_undo := ⟨by decide +kernel, rfl, by decide +kernel⟩
def mL_restore : MD := (RL, (yL_restore, (cL_restore, (3, (some .int, ([(0, 8, 11, 15)], [(0, .aload_n 1, 1), (1, .iconst 0, 2), (2, .aload_n 0, 3), (3, .invokevirtual 139, 6), (6, .i2l, 7), (7, .lastore, 8), (8, .goto 6, 11), (11, .astore_n 2, 12), (12, .iconst 1, 13), (13, .ireturn, 14), (14, .iconst 0, 15), (15, .ireturn, 16)]))))))
theorem ok_L_restore : e_ok mL_restore := ⟨by decide +kernel, rfl, by decide +kernel⟩
theorem dw_L_law_44 : decode cL_law 44 = .ok (.tableswitch 2580 0 48 #[212, 292, 372, 435, 491, 583, 639, 707, 763, 776, 844, 912, 975, 1038, 1094, 1150, 1206, 1262, 1318, 1374, 1430, 1510, 1566, 1622, 1678, 1741, 1797, 1810, 1866, 1929, 1942, 1955, 1968, 1981, 1994, 2007, 2020, 2085, 2151, 2164, 2220, 2233, 2289, 2347, 2391, 2435, 2479, 2523, 2536], 212) := by decide +kernel
def mJ5_init_d00df : MD := (RJ5, (yJ5_init_d00df, (cJ5_init_d00df, (2, (none, ([], [(0, .aload_n 0, 1), (1, .invokespecial 3, 4), (4, .getstatic 18, 7), (7, .ifCond .eq 18, 10), (10, .aload_n 0, 11), (11, .iload_n 1, 12), (12, .newarray .byte, 14), (14, .putfield 15, 17), (17, .aload_n 0, 18), (18, .iconst 0, 19), (19, .putfield 22, 22), (22, .goto 16, 25), (25, .aload_n 0, 26), (26, .iload_n 1, 27), (27, .invokestatic 26, 30), (30, .putfield 15, 33), (33, .aload_n 0, 34), (34, .iconst 1, 35), (35, .putfield 22, 38), (38, .return_, 39)]))))))
theorem ok_J5_init_d00df : e_ok mJ5_init_d00df := ⟨by decide +kernel, rfl, by decide +kernel⟩
def mJ5_length_8abf5 : MD := (RJ5, (yJ5_length_8abf5, (cJ5_length_8abf5, (1, (some .int, ([], [(0, .aload_n 0, 1), (1, .getfield 79, 4), (4, .ireturn, 5)]))))))
theorem ok_J5_length_8abf5 : e_ok mJ5_length_8abf5 := ⟨by decide +kernel, rfl, by decide +kernel⟩
def mJ5_ensureCapacityInternal_d00df : MD := (RJ5, (yJ5_ensureCapacityInternal_d00df, (cJ5_ensureCapacityInternal_d00df, (3, (none, ([], [(0, .aload_n 0, 1), (1, .getfield 15, 4), (4, .arraylength, 5), (5, .aload_n 0, 6), (6, .getfield 22, 9), (9, .ishr, 10), (10, .istore_n 2, 11), (11, .iload_n 1, 12), (12, .iload_n 2, 13), (13, .isub, 14), (14, .ifCond .le 24, 17), (17, .aload_n 0, 18), (18, .aload_n 0, 19), (19, .getfield 15, 22), (22, .aload_n 0, 23), (23, .iload_n 1, 24), (24, .invokevirtual 104, 27), (27, .aload_n 0, 28), (28, .getfield 22, 31), (31, .ishl, 32), (32, .invokestatic 108, 35), (35, .putfield 15, 38), (38, .return_, 39)]))))))
theorem ok_J5_ensureCapacityInternal_d00df : e_ok mJ5_ensureCapacityInternal_d00df := ⟨by decide +kernel, rfl, by decide +kernel⟩
def mJ5_newCapacity_0f7a4 : MD := (RJ5, (yJ5_newCapacity_0f7a4, (cJ5_newCapacity_0f7a4, (6, (some .int, ([], [(0, .aload_n 0, 1), (1, .getfield 15, 4), (4, .arraylength, 5), (5, .istore_n 2, 6), (6, .iload_n 1, 7), (7, .aload_n 0, 8), (8, .getfield 22, 11), (11, .ishl, 12), (12, .istore_n 3, 13), (13, .iload_n 3, 14), (14, .iload_n 2, 15), (15, .isub, 16), (16, .istore 4, 18), (18, .iload_n 2, 19), (19, .iload 4, 21), (21, .iload_n 2, 22), (22, .iconst 2, 23), (23, .aload_n 0, 24), (24, .getfield 22, 27), (27, .ishl, 28), (28, .iadd, 29), (29, .invokestatic 114, 32), (32, .istore 5, 34), (34, .iload 5, 36), (36, .ldc 39, 38), (38, .if_icmp .ne 13, 41), (41, .new 120, 44), (44, .dup, 45), (45, .ldc 122, 47), (47, .invokespecial 124, 50), (50, .athrow, 51), (51, .iload 5, 53), (53, .aload_n 0, 54), (54, .getfield 22, 57), (57, .ishr, 58), (58, .ireturn, 59)]))))))
theorem ok_J5_newCapacity_0f7a4 : e_ok mJ5_newCapacity_0f7a4 := ⟨by decide +kernel, rfl, by decide +kernel⟩
def mJ5_inflate_da8c8 : MD := (RJ5, (yJ5_inflate_da8c8, (cJ5_inflate_da8c8, (2, (none, ([], [(0, .aload_n 0, 1), (1, .invokevirtual 83, 4), (4, .ifCond .ne 4, 7), (7, .return_, 8), (8, .aload_n 0, 9), (9, .getfield 15, 12), (12, .arraylength, 13), (13, .invokestatic 26, 16), (16, .astore_n 1, 17), (17, .aload_n 0, 18), (18, .getfield 15, 21), (21, .iconst 0, 22), (22, .aload_n 1, 23), (23, .iconst 0, 24), (24, .aload_n 0, 25), (25, .getfield 79, 28), (28, .invokestatic 125, 31), (31, .aload_n 0, 32), (32, .aload_n 1, 33), (33, .putfield 15, 36), (36, .aload_n 0, 37), (37, .iconst 1, 38), (38, .putfield 22, 41), (41, .return_, 42)]))))))
theorem ok_J5_inflate_da8c8 : e_ok mJ5_inflate_da8c8 := ⟨by decide +kernel, rfl, by decide +kernel⟩
def mJ5_setLength_d00df : MD := (RJ5, (yJ5_setLength_d00df, (cJ5_setLength_d00df, (2, (none, ([], [(0, .iload_n 1, 1), (1, .ifCond .ge 12, 4), (4, .new 129, 7), (7, .dup, 8), (8, .iload_n 1, 9), (9, .invokespecial 131, 12), (12, .athrow, 13), (13, .aload_n 0, 14), (14, .iload_n 1, 15), (15, .invokevirtual 100, 18), (18, .aload_n 0, 19), (19, .getfield 79, 22), (22, .iload_n 1, 23), (23, .if_icmp .ge 40, 26), (26, .aload_n 0, 27), (27, .invokevirtual 83, 30), (30, .ifCond .eq 18, 33), (33, .aload_n 0, 34), (34, .getfield 15, 37), (37, .aload_n 0, 38), (38, .getfield 79, 41), (41, .iload_n 1, 42), (42, .invokestatic 133, 45), (45, .goto 31, 48), (48, .aload_n 0, 49), (49, .getfield 15, 52), (52, .aload_n 0, 53), (53, .getfield 79, 56), (56, .iload_n 1, 57), (57, .invokestatic 137, 60), (60, .goto 16, 63), (63, .aload_n 0, 64), (64, .getfield 79, 67), (67, .iload_n 1, 68), (68, .if_icmp .le 8, 71), (71, .aload_n 0, 72), (72, .iconst 1, 73), (73, .putfield 73, 76), (76, .aload_n 0, 77), (77, .iload_n 1, 78), (78, .putfield 79, 81), (81, .return_, 82)]))))))
theorem ok_J5_setLength_d00df : e_ok mJ5_setLength_d00df := ⟨by decide +kernel, rfl, by decide +kernel⟩
def mJ5_charAt_5068e : MD := (RJ5, (yJ5_charAt_5068e, (cJ5_charAt_5068e, (5, (some .char, ([], [(0, .aload_n 0, 1), (1, .getfield 22, 4), (4, .istore_n 2, 5), (5, .aload_n 0, 6), (6, .getfield 15, 9), (9, .astore_n 3, 10), (10, .aload_n 0, 11), (11, .getfield 79, 14), (14, .aload_n 3, 15), (15, .arraylength, 16), (16, .iload_n 2, 17), (17, .ishr, 18), (18, .invokestatic 138, 21), (21, .istore 4, 23), (23, .iload_n 1, 24), (24, .iload 4, 26), (26, .invokestatic 144, 29), (29, .iload_n 2, 30), (30, .ifCond .ne 12, 33), (33, .aload_n 3, 34), (34, .iload_n 1, 35), (35, .baload, 36), (36, .sipush 255, 39), (39, .iand, 40), (40, .i2c, 41), (41, .ireturn, 42), (42, .aload_n 3, 43), (43, .iload_n 1, 44), (44, .invokestatic 148, 47), (47, .ireturn, 48)]))))))
theorem ok_J5_charAt_5068e : e_ok mJ5_charAt_5068e := ⟨by decide +kernel, rfl, by decide +kernel⟩
def mJ5_append_cf1ce : MD := (RJ5, (yJ5_append_cf1ce, (cJ5_append_cf1ce, (3, (some (.object "java/lang/AbstractStringBuilder"), ([], [(0, .aload_n 1, 1), (1, .ifnonnull 8, 4), (4, .aload_n 0, 5), (5, .invokevirtual 204, 8), (8, .areturn, 9), (9, .aload_n 1, 10), (10, .invokevirtual 32, 13), (13, .istore_n 2, 14), (14, .aload_n 0, 15), (15, .aload_n 0, 16), (16, .getfield 79, 19), (19, .iload_n 2, 20), (20, .iadd, 21), (21, .invokevirtual 100, 24), (24, .aload_n 0, 25), (25, .aload_n 0, 26), (26, .getfield 79, 29), (29, .aload_n 1, 30), (30, .invokevirtual 208, 33), (33, .aload_n 0, 34), (34, .dup, 35), (35, .getfield 79, 38), (38, .iload_n 2, 39), (39, .iadd, 40), (40, .putfield 79, 43), (43, .aload_n 0, 44), (44, .areturn, 45)]))))))
theorem ok_J5_append_cf1ce : e_ok mJ5_append_cf1ce := ⟨by decide +kernel, rfl, by decide +kernel⟩
def mJ5_appendNull_278bc : MD := (RJ5, (yJ5_appendNull_278bc, (cJ5_appendNull_278bc, (3, (some (.object "java/lang/AbstractStringBuilder"), ([], [(0, .aload_n 0, 1), (1, .aload_n 0, 2), (2, .getfield 79, 5), (5, .iconst 4, 6), (6, .iadd, 7), (7, .invokevirtual 100, 10), (10, .aload_n 0, 11), (11, .getfield 79, 14), (14, .istore_n 1, 15), (15, .aload_n 0, 16), (16, .getfield 15, 19), (19, .astore_n 2, 20), (20, .aload_n 0, 21), (21, .invokevirtual 83, 24), (24, .ifCond .eq 38, 27), (27, .aload_n 2, 28), (28, .iload_n 1, 29), (29, .iinc 1 1, 32), (32, .bipush 110, 34), (34, .bastore, 35), (35, .aload_n 2, 36), (36, .iload_n 1, 37), (37, .iinc 1 1, 40), (40, .bipush 117, 42), (42, .bastore, 43), (43, .aload_n 2, 44), (44, .iload_n 1, 45), (45, .iinc 1 1, 48), (48, .bipush 108, 50), (50, .bastore, 51), (51, .aload_n 2, 52), (52, .iload_n 1, 53), (53, .iinc 1 1, 56), (56, .bipush 108, 58), (58, .bastore, 59), (59, .goto 17, 62), (62, .aload_n 2, 63), (63, .iload_n 1, 64), (64, .bipush 110, 66), (66, .bipush 117, 68), (68, .bipush 108, 70), (70, .bipush 108, 72), (72, .invokestatic 226, 75), (75, .istore_n 1, 76), (76, .aload_n 0, 77), (77, .iload_n 1, 78), (78, .putfield 79, 81), (81, .aload_n 0, 82), (82, .areturn, 83)]))))))
theorem ok_J5_appendNull_278bc : e_ok mJ5_appendNull_278bc := ⟨by decide +kernel, rfl, by decide +kernel⟩
def mJ5_append_3fe6f : MD := (RJ5, (yJ5_append_3fe6f, (cJ5_append_3fe6f, (2, (some (.object "java/lang/AbstractStringBuilder"), ([], [(0, .aload_n 0, 1), (1, .aload_n 0, 2), (2, .getfield 79, 5), (5, .iconst 1, 6), (6, .iadd, 7), (7, .invokevirtual 100, 10), (10, .aload_n 0, 11), (11, .invokevirtual 83, 14), (14, .ifCond .eq 31, 17), (17, .iload_n 1, 18), (18, .invokestatic 191, 21), (21, .ifCond .eq 24, 24), (24, .aload_n 0, 25), (25, .getfield 15, 28), (28, .aload_n 0, 29), (29, .dup, 30), (30, .getfield 79, 33), (33, .dup_x1, 34), (34, .iconst 1, 35), (35, .iadd, 36), (36, .putfield 79, 39), (39, .iload_n 1, 40), (40, .i2b, 41), (41, .bastore, 42), (42, .goto 33, 45), (45, .aload_n 0, 46), (46, .invokevirtual 83, 49), (49, .ifCond .eq 7, 52), (52, .aload_n 0, 53), (53, .invokevirtual 195, 56), (56, .aload_n 0, 57), (57, .getfield 15, 60), (60, .aload_n 0, 61), (61, .dup, 62), (62, .getfield 79, 65), (65, .dup_x1, 66), (66, .iconst 1, 67), (67, .iadd, 68), (68, .putfield 79, 71), (71, .iload_n 1, 72), (72, .invokestatic 197, 75), (75, .aload_n 0, 76), (76, .areturn, 77)]))))))
theorem ok_J5_append_3fe6f : e_ok mJ5_append_3fe6f := ⟨by decide +kernel, rfl, by decide +kernel⟩
def mJ5_append_c97b9 : MD := (RJ5, (yJ5_append_c97b9, (cJ5_append_c97b9, (4, (some (.object "java/lang/AbstractStringBuilder"), ([], [(0, .aload_n 0, 1), (1, .getfield 79, 4), (4, .istore_n 2, 5), (5, .iload_n 2, 6), (6, .iload_n 1, 7), (7, .invokestatic 245, 10), (10, .iadd, 11), (11, .istore_n 3, 12), (12, .aload_n 0, 13), (13, .iload_n 3, 14), (14, .invokevirtual 100, 17), (17, .aload_n 0, 18), (18, .invokevirtual 83, 21), (21, .ifCond .eq 16, 24), (24, .iload_n 1, 25), (25, .iload_n 3, 26), (26, .aload_n 0, 27), (27, .getfield 15, 30), (30, .invokestatic 248, 33), (33, .pop, 34), (34, .goto 14, 37), (37, .iload_n 1, 38), (38, .iload_n 2, 39), (39, .iload_n 3, 40), (40, .aload_n 0, 41), (41, .getfield 15, 44), (44, .invokestatic 251, 47), (47, .pop, 48), (48, .aload_n 0, 49), (49, .iload_n 3, 50), (50, .putfield 79, 53), (53, .aload_n 0, 54), (54, .areturn, 55)]))))))
theorem ok_J5_append_c97b9 : e_ok mJ5_append_c97b9 := ⟨by decide +kernel, rfl, by decide +kernel⟩
def mJ5_getValue_6d5f1 : MD := (RJ5, (yJ5_getValue_6d5f1, (cJ5_getValue_6d5f1, (1, (some (.array .byte), ([], [(0, .aload_n 0, 1), (1, .getfield 15, 4), (4, .areturn, 5)]))))))
theorem ok_J5_getValue_6d5f1 : e_ok mJ5_getValue_6d5f1 := ⟨by decide +kernel, rfl, by decide +kernel⟩
def mJ5_isLatin1_aae02 : MD := (RJ5, (yJ5_isLatin1_aae02, (cJ5_isLatin1_aae02, (1, (some .boolean, ([], [(0, .getstatic 18, 3), (3, .ifCond .eq 14, 6), (6, .aload_n 0, 7), (7, .getfield 22, 10), (10, .ifCond .ne 7, 13), (13, .iconst 1, 14), (14, .goto 4, 17), (17, .iconst 0, 18), (18, .ireturn, 19)]))))))
theorem ok_J5_isLatin1_aae02 : e_ok mJ5_isLatin1_aae02 := ⟨by decide +kernel, rfl, by decide +kernel⟩
def mJ5_inflateIfNeededFor_a7421 : MD := (RJ5, (yJ5_inflateIfNeededFor_a7421, (cJ5_inflateIfNeededFor_a7421, (2, (none, ([], [(0, .getstatic 18, 3), (3, .ifCond .eq 18, 6), (6, .aload_n 0, 7), (7, .getfield 22, 10), (10, .aload_n 1, 11), (11, .invokevirtual 40, 14), (14, .if_icmp .eq 7, 17), (17, .aload_n 0, 18), (18, .invokevirtual 195, 21), (21, .return_, 22)]))))))
theorem ok_J5_inflateIfNeededFor_a7421 : e_ok mJ5_inflateIfNeededFor_a7421 := ⟨by decide +kernel, rfl, by decide +kernel⟩
def mJ5_putStringAt_47b60 : MD := (RJ5, (yJ5_putStringAt_47b60, (cJ5_putStringAt_47b60, (3, (none, ([], [(0, .aload_n 0, 1), (1, .aload_n 2, 2), (2, .invokevirtual 397, 5), (5, .aload_n 2, 6), (6, .aload_n 0, 7), (7, .getfield 15, 10), (10, .iload_n 1, 11), (11, .aload_n 0, 12), (12, .getfield 22, 15), (15, .invokevirtual 399, 18), (18, .return_, 19)]))))))
theorem ok_J5_putStringAt_47b60 : e_ok mJ5_putStringAt_47b60 := ⟨by decide +kernel, rfl, by decide +kernel⟩
def mJx00060_init_a7421 : MD := (RJx00060, (yJx00060_init_a7421, (cJx00060_init_a7421, (2, (none, ([], [(0, .aload_n 0, 1), (1, .aload_n 1, 2), (2, .invokespecial 7, 5), (5, .return_, 6)]))))))
theorem ok_Jx00060_init_a7421 : e_ok mJx00060_init_a7421 := ⟨by decide +kernel, rfl, by decide +kernel⟩
def mJx00060_init_d00df : MD := (RJx00060, (yJx00060_init_d00df, (cJx00060_init_d00df, (2, (none, ([], [(0, .aload_n 0, 1), (1, .new 10, 4), (4, .dup, 5), (5, .invokespecial 12, 8), (8, .ldc 13, 10), (10, .invokevirtual 15, 13), (13, .iload_n 1, 14), (14, .invokevirtual 19, 17), (17, .invokevirtual 22, 20), (20, .invokespecial 7, 23), (23, .return_, 24)]))))))
theorem ok_Jx00060_init_d00df : e_ok mJx00060_init_d00df := ⟨by decide +kernel, rfl, by decide +kernel⟩
def mJx29ce0_ordinal_8abf5 : MD := (RJx29ce0, (yJx29ce0_ordinal_8abf5, (cJx29ce0_ordinal_8abf5, (1, (some .int, ([], [(0, .aload_n 0, 1), (1, .getfield 7, 4), (4, .ireturn, 5)]))))))
theorem ok_Jx29ce0_ordinal_8abf5 : e_ok mJx29ce0_ordinal_8abf5 := ⟨by decide +kernel, rfl, by decide +kernel⟩
def mJ6_getChars_ba4f3 : MD := (RJ6, (yJ6_getChars_ba4f3, (cJ6_getChars_ba4f3, (7, (some .int, ([], [(0, .iload_n 1, 1), (1, .istore 5, 3), (3, .iload_n 0, 4), (4, .ifCond .ge 7, 7), (7, .iconst 1, 8), (8, .goto 4, 11), (11, .iconst 0, 12), (12, .istore 6, 14), (14, .iload 6, 16), (16, .ifCond .ne 6, 19), (19, .iload_n 0, 20), (20, .ineg, 21), (21, .istore_n 0, 22), (22, .iload_n 0, 23), (23, .bipush (-100), 25), (25, .if_icmp .gt 47, 28), (28, .iload_n 0, 29), (29, .bipush 100, 31), (31, .idiv, 32), (32, .istore_n 3, 33), (33, .iload_n 3, 34), (34, .bipush 100, 36), (36, .imul, 37), (37, .iload_n 0, 38), (38, .isub, 39), (39, .istore 4, 41), (41, .iload_n 3, 42), (42, .istore_n 0, 43), (43, .aload_n 2, 44), (44, .iinc 5 (-1), 47), (47, .iload 5, 49), (49, .getstatic 83, 52), (52, .iload 4, 54), (54, .baload, 55), (55, .bastore, 56), (56, .aload_n 2, 57), (57, .iinc 5 (-1), 60), (60, .iload 5, 62), (62, .getstatic 87, 65), (65, .iload 4, 67), (67, .baload, 68), (68, .bastore, 69), (69, .goto (-47), 72), (72, .aload_n 2, 73), (73, .iinc 5 (-1), 76), (76, .iload 5, 78), (78, .getstatic 83, 81), (81, .iload_n 0, 82), (82, .ineg, 83), (83, .baload, 84), (84, .bastore, 85), (85, .iload_n 0, 86), (86, .bipush (-9), 88), (88, .if_icmp .ge 16, 91), (91, .aload_n 2, 92), (92, .iinc 5 (-1), 95), (95, .iload 5, 97), (97, .getstatic 87, 100), (100, .iload_n 0, 101), (101, .ineg, 102), (102, .baload, 103), (103, .bastore, 104), (104, .iload 6, 106), (106, .ifCond .eq 12, 109), (109, .aload_n 2, 110), (110, .iinc 5 (-1), 113), (113, .iload 5, 115), (115, .bipush 45, 117), (117, .bastore, 118), (118, .iload 5, 120), (120, .ireturn, 121)]))))))
theorem ok_J6_getChars_ba4f3 : e_ok mJ6_getChars_ba4f3 := ⟨by decide +kernel, rfl, by decide +kernel⟩
def mJ6_stringSize_0f7a4 : MD := (RJ6, (yJ6_stringSize_0f7a4, (cJ6_stringSize_0f7a4, (4, (some .int, ([], [(0, .iconst 1, 1), (1, .istore_n 1, 2), (2, .iload_n 0, 3), (3, .ifCond .lt 8, 6), (6, .iconst 0, 7), (7, .istore_n 1, 8), (8, .iload_n 0, 9), (9, .ineg, 10), (10, .istore_n 0, 11), (11, .bipush (-10), 13), (13, .istore_n 2, 14), (14, .iconst 1, 15), (15, .istore_n 3, 16), (16, .iload_n 3, 17), (17, .bipush 10, 19), (19, .if_icmp .ge 23, 22), (22, .iload_n 0, 23), (23, .iload_n 2, 24), (24, .if_icmp .le 7, 27), (27, .iload_n 3, 28), (28, .iload_n 1, 29), (29, .iadd, 30), (30, .ireturn, 31), (31, .bipush 10, 33), (33, .iload_n 2, 34), (34, .imul, 35), (35, .istore_n 2, 36), (36, .iinc 3 1, 39), (39, .goto (-23), 42), (42, .bipush 10, 44), (44, .iload_n 1, 45), (45, .iadd, 46), (46, .ireturn, 47)]))))))
theorem ok_J6_stringSize_0f7a4 : e_ok mJ6_stringSize_0f7a4 := ⟨by decide +kernel, rfl, by decide +kernel⟩
def mJ0_init_81219 : MD := (RJ0, (yJ0_init_81219, (cJ0_init_81219, (2, (none, ([], [(0, .aload_n 0, 1), (1, .aload_n 1, 2), (2, .aconst_null, 3), (3, .invokespecial 489, 6), (6, .return_, 7)]))))))
theorem ok_J0_init_81219 : e_ok mJ0_init_81219 := ⟨by decide +kernel, rfl, by decide +kernel⟩
def mJ0_length_8abf5 : MD := (RJ0, (yJ0_length_8abf5, (cJ0_length_8abf5, (1, (some .int, ([], [(0, .aload_n 0, 1), (1, .getfield 9, 4), (4, .arraylength, 5), (5, .aload_n 0, 6), (6, .invokevirtual 335, 9), (9, .ishr, 10), (10, .ireturn, 11)]))))))
theorem ok_J0_length_8abf5 : e_ok mJ0_length_8abf5 := ⟨by decide +kernel, rfl, by decide +kernel⟩
def mJ0_charAt_5068e : MD := (RJ0, (yJ0_charAt_5068e, (cJ0_charAt_5068e, (2, (some .char, ([], [(0, .aload_n 0, 1), (1, .invokevirtual 492, 4), (4, .ifCond .eq 12, 7), (7, .aload_n 0, 8), (8, .getfield 9, 11), (11, .iload_n 1, 12), (12, .invokestatic 495, 15), (15, .ireturn, 16), (16, .aload_n 0, 17), (17, .getfield 9, 20), (20, .iload_n 1, 21), (21, .invokestatic 498, 24), (24, .ireturn, 25)]))))))
theorem ok_J0_charAt_5068e : e_ok mJ0_charAt_5068e := ⟨by decide +kernel, rfl, by decide +kernel⟩
def mJ0_getBytes_840e7 : MD := (RJ0, (yJ0_getBytes_840e7, (cJ0_getBytes_840e7, (4, (none, ([], [(0, .aload_n 0, 1), (1, .invokevirtual 335, 4), (4, .iload_n 3, 5), (5, .if_icmp .ne 23, 8), (8, .aload_n 0, 9), (9, .getfield 9, 12), (12, .iconst 0, 13), (13, .aload_n 1, 14), (14, .iload_n 2, 15), (15, .iload_n 3, 16), (16, .ishl, 17), (17, .aload_n 0, 18), (18, .getfield 9, 21), (21, .arraylength, 22), (22, .invokestatic 212, 25), (25, .goto 18, 28), (28, .aload_n 0, 29), (29, .getfield 9, 32), (32, .iconst 0, 33), (33, .aload_n 1, 34), (34, .iload_n 2, 35), (35, .aload_n 0, 36), (36, .getfield 9, 39), (39, .arraylength, 40), (40, .invokestatic 106, 43), (43, .return_, 44)]))))))
theorem ok_J0_getBytes_840e7 : e_ok mJ0_getBytes_840e7 := ⟨by decide +kernel, rfl, by decide +kernel⟩
def mJ0_init_db425 : MD := (RJ0, (yJ0_init_db425, (cJ0_init_db425, (5, (none, ([], [(0, .aload_n 0, 1), (1, .invokespecial 1, 4), (4, .aload_n 1, 5), (5, .invokevirtual 552, 8), (8, .astore_n 3, 9), (9, .aload_n 1, 10), (10, .invokevirtual 549, 13), (13, .istore 4, 15), (15, .aload_n 1, 16), (16, .invokevirtual 1047, 19), (19, .ifCond .eq 22, 22), (22, .aload_n 0, 23), (23, .iconst 0, 24), (24, .putfield 15, 27), (27, .aload_n 0, 28), (28, .aload_n 3, 29), (29, .iconst 0, 30), (30, .iload 4, 32), (32, .invokestatic 54, 35), (35, .putfield 9, 38), (38, .goto 59, 41), (41, .getstatic 38, 44), (44, .ifCond .eq 35, 47), (47, .aload_n 1, 48), (48, .getfield 1048, 51), (51, .ifCond .eq 28, 54), (54, .aload_n 0, 55), (55, .aload_n 3, 56), (56, .iconst 0, 57), (57, .iload 4, 59), (59, .invokestatic 1051, 62), (62, .putfield 9, 65), (65, .aload_n 0, 66), (66, .aload_n 0, 67), (67, .getfield 9, 70), (70, .iload 4, 72), (72, .invokestatic 47, 75), (75, .putfield 15, 78), (78, .return_, 79), (79, .aload_n 0, 80), (80, .iconst 1, 81), (81, .putfield 15, 84), (84, .aload_n 0, 85), (85, .aload_n 3, 86), (86, .iconst 0, 87), (87, .iload 4, 89), (89, .iconst 1, 90), (90, .ishl, 91), (91, .invokestatic 54, 94), (94, .putfield 9, 97), (97, .return_, 98)]))))))
theorem ok_J0_init_db425 : e_ok mJ0_init_db425 := ⟨by decide +kernel, rfl, by decide +kernel⟩
def mJ0_coder_7d493 : MD := (RJ0, (yJ0_coder_7d493, (cJ0_coder_7d493, (1, (some .byte, ([], [(0, .getstatic 38, 3), (3, .ifCond .eq 10, 6), (6, .aload_n 0, 7), (7, .getfield 15, 10), (10, .goto 4, 13), (13, .iconst 1, 14), (14, .ireturn, 15)]))))))
theorem ok_J0_coder_7d493 : e_ok mJ0_coder_7d493 := ⟨by decide +kernel, rfl, by decide +kernel⟩
def mJ0_isLatin1_aae02 : MD := (RJ0, (yJ0_isLatin1_aae02, (cJ0_isLatin1_aae02, (1, (some .boolean, ([], [(0, .getstatic 38, 3), (3, .ifCond .eq 14, 6), (6, .aload_n 0, 7), (7, .getfield 15, 10), (10, .ifCond .ne 7, 13), (13, .iconst 1, 14), (14, .goto 4, 17), (17, .iconst 0, 18), (18, .ireturn, 19)]))))))
theorem ok_J0_isLatin1_aae02 : e_ok mJ0_isLatin1_aae02 := ⟨by decide +kernel, rfl, by decide +kernel⟩
def mJ0_checkIndex_df160 : MD := (RJ0, (yJ0_checkIndex_df160, (cJ0_checkIndex_df160, (2, (none, ([], [(0, .iload_n 0, 1), (1, .iload_n 1, 2), (2, .getstatic 1053, 5), (5, .invokestatic 1059, 8), (8, .pop, 9), (9, .return_, 10)]))))))
theorem ok_J0_checkIndex_df160 : e_ok mJ0_checkIndex_df160 := ⟨by decide +kernel, rfl, by decide +kernel⟩
def mJ0_checkBoundsOffCount_cabcc : MD := (RJ0, (yJ0_checkBoundsOffCount_cabcc, (cJ0_checkBoundsOffCount_cabcc, (3, (some .int, ([], [(0, .iload_n 0, 1), (1, .iload_n 1, 2), (2, .iload_n 2, 3), (3, .getstatic 1053, 6), (6, .invokestatic 1065, 9), (9, .ireturn, 10)]))))))
theorem ok_J0_checkBoundsOffCount_cabcc : e_ok mJ0_checkBoundsOffCount_cabcc := ⟨by decide +kernel, rfl, by decide +kernel⟩
def mJ0_checkBoundsBeginEnd_23922 : MD := (RJ0, (yJ0_checkBoundsBeginEnd_23922, (cJ0_checkBoundsBeginEnd_23922, (3, (none, ([], [(0, .iload_n 0, 1), (1, .iload_n 1, 2), (2, .iload_n 2, 3), (3, .getstatic 1053, 6), (6, .invokestatic 1062, 9), (9, .pop, 10), (10, .return_, 11)]))))))
theorem ok_J0_checkBoundsBeginEnd_23922 : e_ok mJ0_checkBoundsBeginEnd_23922 := ⟨by decide +kernel, rfl, by decide +kernel⟩
def mJ4_init_da8c8 : MD := (RJ4, (yJ4_init_da8c8, (cJ4_init_da8c8, (1, (none, ([], [(0, .aload_n 0, 1), (1, .bipush 16, 3), (3, .invokespecial 1, 6), (6, .return_, 7)]))))))
theorem ok_J4_init_da8c8 : e_ok mJ4_init_da8c8 := ⟨by decide +kernel, rfl, by decide +kernel⟩
def mJ4_append_15ec4 : MD := (RJ4, (yJ4_append_15ec4, (cJ4_append_15ec4, (2, (some (.object "java/lang/StringBuilder"), ([], [(0, .aload_n 0, 1), (1, .aload_n 1, 2), (2, .invokespecial 29, 5), (5, .pop, 6), (6, .aload_n 0, 7), (7, .areturn, 8)]))))))
theorem ok_J4_append_15ec4 : e_ok mJ4_append_15ec4 := ⟨by decide +kernel, rfl, by decide +kernel⟩
def mJ4_append_cf468 : MD := (RJ4, (yJ4_append_cf468, (cJ4_append_cf468, (2, (some (.object "java/lang/StringBuilder"), ([], [(0, .aload_n 0, 1), (1, .iload_n 1, 2), (2, .invokespecial 50, 5), (5, .pop, 6), (6, .aload_n 0, 7), (7, .areturn, 8)]))))))
theorem ok_J4_append_cf468 : e_ok mJ4_append_cf468 := ⟨by decide +kernel, rfl, by decide +kernel⟩
def mJ4_append_bf812 : MD := (RJ4, (yJ4_append_bf812, (cJ4_append_bf812, (2, (some (.object "java/lang/StringBuilder"), ([], [(0, .aload_n 0, 1), (1, .iload_n 1, 2), (2, .invokespecial 53, 5), (5, .pop, 6), (6, .aload_n 0, 7), (7, .areturn, 8)]))))))
theorem ok_J4_append_bf812 : e_ok mJ4_append_bf812 := ⟨by decide +kernel, rfl, by decide +kernel⟩
def mJ4_toString_0e30d : MD := (RJ4, (yJ4_toString_0e30d, (cJ4_toString_0e30d, (1, (some (.object "java/lang/String"), ([], [(0, .new 18, 3), (3, .dup, 4), (4, .aload_n 0, 5), (5, .invokespecial 137, 8), (8, .areturn, 9)]))))))
theorem ok_J4_toString_0e30d : e_ok mJ4_toString_0e30d := ⟨by decide +kernel, rfl, by decide +kernel⟩
def mJ4_charAt_5068e : MD := (RJ4, (yJ4_charAt_5068e, (cJ4_charAt_5068e, (2, (some .char, ([], [(0, .aload_n 0, 1), (1, .iload_n 1, 2), (2, .invokespecial 329, 5), (5, .ireturn, 6)]))))))
theorem ok_J4_charAt_5068e : e_ok mJ4_charAt_5068e := ⟨by decide +kernel, rfl, by decide +kernel⟩
def mJ4_setLength_d00df : MD := (RJ4, (yJ4_setLength_d00df, (cJ4_setLength_d00df, (2, (none, ([], [(0, .aload_n 0, 1), (1, .iload_n 1, 2), (2, .invokespecial 333, 5), (5, .return_, 6)]))))))
theorem ok_J4_setLength_d00df : e_ok mJ4_setLength_d00df := ⟨by decide +kernel, rfl, by decide +kernel⟩
def mJ4_length_8abf5 : MD := (RJ4, (yJ4_length_8abf5, (cJ4_length_8abf5, (1, (some .int, ([], [(0, .aload_n 0, 1), (1, .invokespecial 343, 4), (4, .ireturn, 5)]))))))
theorem ok_J4_length_8abf5 : e_ok mJ4_length_8abf5 := ⟨by decide +kernel, rfl, by decide +kernel⟩
def mJx7c733_init_d00df : MD := (RJx7c733, (yJx7c733_init_d00df, (cJx7c733_init_d00df, (2, (none, ([], [(0, .aload_n 0, 1), (1, .new 10, 4), (4, .dup, 5), (5, .invokespecial 12, 8), (8, .ldc 13, 10), (10, .invokevirtual 15, 13), (13, .iload_n 1, 14), (14, .invokevirtual 19, 17), (17, .invokevirtual 22, 20), (20, .invokespecial 7, 23), (23, .return_, 24)]))))))
theorem ok_Jx7c733_init_d00df : e_ok mJx7c733_init_d00df := ⟨by decide +kernel, rfl, by decide +kernel⟩
def mJ1_charAt_3b067 : MD := (RJ1, (yJ1_charAt_3b067, (cJ1_charAt_3b067, (2, (some .char, ([], [(0, .iload_n 1, 1), (1, .aload_n 0, 2), (2, .arraylength, 3), (3, .invokestatic 9, 6), (6, .aload_n 0, 7), (7, .iload_n 1, 8), (8, .baload, 9), (9, .sipush 255, 12), (12, .iand, 13), (13, .i2c, 14), (14, .ireturn, 15)]))))))
theorem ok_J1_charAt_3b067 : e_ok mJ1_charAt_3b067 := ⟨by decide +kernel, rfl, by decide +kernel⟩
def mJ1_canEncode_fc78d : MD := (RJ1, (yJ1_canEncode_fc78d, (cJ1_canEncode_fc78d, (1, (some .boolean, ([], [(0, .iload_n 0, 1), (1, .sipush 255, 4), (4, .if_icmp .gt 7, 7), (7, .iconst 1, 8), (8, .goto 4, 11), (11, .iconst 0, 12), (12, .ireturn, 13)]))))))
theorem ok_J1_canEncode_fc78d : e_ok mJ1_canEncode_fc78d := ⟨by decide +kernel, rfl, by decide +kernel⟩
def mJ1_fillNull_b72d1 : MD := (RJ1, (yJ1_fillNull_b72d1, (cJ1_fillNull_b72d1, (3, (none, ([], [(0, .aload_n 0, 1), (1, .iload_n 1, 2), (2, .iload_n 2, 3), (3, .iconst 0, 4), (4, .invokestatic 236, 7), (7, .return_, 8)]))))))
theorem ok_J1_fillNull_b72d1 : e_ok mJ1_fillNull_b72d1 := ⟨by decide +kernel, rfl, by decide +kernel⟩
def mJ1_inflate_0e8fd : MD := (RJ1, (yJ1_inflate_0e8fd, (cJ1_inflate_0e8fd, (5, (none, ([], [(0, .aload_n 0, 1), (1, .iload_n 1, 2), (2, .aload_n 2, 3), (3, .iload_n 3, 4), (4, .iload 4, 6), (6, .invokestatic 240, 9), (9, .return_, 10)]))))))
theorem ok_J1_inflate_0e8fd : e_ok mJ1_inflate_0e8fd := ⟨by decide +kernel, rfl, by decide +kernel⟩
def mJ2_newBytesFor_77867 : MD := (RJ2, (yJ2_newBytesFor_77867, (cJ2_newBytesFor_77867, (1, (some (.array .byte), ([], [(0, .iload_n 0, 1), (1, .invokestatic 11, 4), (4, .newarray .byte, 6), (6, .areturn, 7)]))))))
theorem ok_J2_newBytesFor_77867 : e_ok mJ2_newBytesFor_77867 := ⟨by decide +kernel, rfl, by decide +kernel⟩
def mJ2_newBytesLength_0f7a4 : MD := (RJ2, (yJ2_newBytesLength_0f7a4, (cJ2_newBytesLength_0f7a4, (1, (some .int, ([], [(0, .iload_n 0, 1), (1, .ifCond .ge 11, 4), (4, .new 17, 7), (7, .dup, 8), (8, .invokespecial 19, 11), (11, .athrow, 12), (12, .iload_n 0, 13), (13, .ldc 20, 15), (15, .if_icmp .lt 40, 18), (18, .new 21, 21), (21, .dup, 22), (22, .new 23, 25), (25, .dup, 26), (26, .invokespecial 25, 29), (29, .ldc 26, 31), (31, .invokevirtual 28, 34), (34, .iload_n 0, 35), (35, .invokevirtual 32, 38), (38, .ldc 35, 40), (40, .invokevirtual 28, 43), (43, .ldc 20, 45), (45, .invokevirtual 32, 48), (48, .invokevirtual 37, 51), (51, .invokespecial 41, 54), (54, .athrow, 55), (55, .iload_n 0, 56), (56, .iconst 1, 57), (57, .ishl, 58), (58, .ireturn, 59)]))))))
theorem ok_J2_newBytesLength_0f7a4 : e_ok mJ2_newBytesLength_0f7a4 := ⟨by decide +kernel, rfl, by decide +kernel⟩
def mJ2_putChar_b72d1 : MD := (RJ2, (yJ2_putChar_b72d1, (cJ2_putChar_b72d1, (3, (none, ([], [(0, .getstatic 44, 3), (3, .ifCond .ne 25, 6), (6, .iload_n 1, 7), (7, .ifCond .lt 11, 10), (10, .iload_n 1, 11), (11, .aload_n 0, 12), (12, .invokestatic 48, 15), (15, .if_icmp .lt 13, 18), (18, .new 52, 21), (21, .dup, 22), (22, .ldc 54, 24), (24, .invokespecial 56, 27), (27, .athrow, 28), (28, .iload_n 1, 29), (29, .iconst 1, 30), (30, .ishl, 31), (31, .istore_n 1, 32), (32, .aload_n 0, 33), (33, .iload_n 1, 34), (34, .iinc 1 1, 37), (37, .iload_n 2, 38), (38, .getstatic 59, 41), (41, .ishr, 42), (42, .i2b, 43), (43, .bastore, 44), (44, .aload_n 0, 45), (45, .iload_n 1, 46), (46, .iload_n 2, 47), (47, .getstatic 63, 50), (50, .ishr, 51), (51, .i2b, 52), (52, .bastore, 53), (53, .return_, 54)]))))))
theorem ok_J2_putChar_b72d1 : e_ok mJ2_putChar_b72d1 := ⟨by decide +kernel, rfl, by decide +kernel⟩
def mJ2_getChar_3b067 : MD := (RJ2, (yJ2_getChar_3b067, (cJ2_getChar_3b067, (2, (some .char, ([], [(0, .getstatic 44, 3), (3, .ifCond .ne 25, 6), (6, .iload_n 1, 7), (7, .ifCond .lt 11, 10), (10, .iload_n 1, 11), (11, .aload_n 0, 12), (12, .invokestatic 48, 15), (15, .if_icmp .lt 13, 18), (18, .new 52, 21), (21, .dup, 22), (22, .ldc 54, 24), (24, .invokespecial 56, 27), (27, .athrow, 28), (28, .iload_n 1, 29), (29, .iconst 1, 30), (30, .ishl, 31), (31, .istore_n 1, 32), (32, .aload_n 0, 33), (33, .iload_n 1, 34), (34, .iinc 1 1, 37), (37, .baload, 38), (38, .sipush 255, 41), (41, .iand, 42), (42, .getstatic 59, 45), (45, .ishl, 46), (46, .aload_n 0, 47), (47, .iload_n 1, 48), (48, .baload, 49), (49, .sipush 255, 52), (52, .iand, 53), (53, .getstatic 63, 56), (56, .ishl, 57), (57, .ior, 58), (58, .i2c, 59), (59, .ireturn, 60)]))))))
theorem ok_J2_getChar_3b067 : e_ok mJ2_getChar_3b067 := ⟨by decide +kernel, rfl, by decide +kernel⟩
def mJ2_length_9d52b : MD := (RJ2, (yJ2_length_9d52b, (cJ2_length_9d52b, (1, (some .int, ([], [(0, .aload_n 0, 1), (1, .arraylength, 2), (2, .iconst 1, 3), (3, .ishr, 4), (4, .ireturn, 5)]))))))
theorem ok_J2_length_9d52b : e_ok mJ2_length_9d52b := ⟨by decide +kernel, rfl, by decide +kernel⟩
def mJ2_coderFromArrayLen_85cad : MD := (RJ2, (yJ2_coderFromArrayLen_85cad, (cJ2_coderFromArrayLen_85cad, (2, (some .byte, ([], [(0, .iload_n 1, 1), (1, .aload_n 0, 2), (2, .arraylength, 3), (3, .isub, 4), (4, .bipush 31, 6), (6, .iushr, 7), (7, .i2b, 8), (8, .ireturn, 9)]))))))
theorem ok_J2_coderFromArrayLen_85cad : e_ok mJ2_coderFromArrayLen_85cad := ⟨by decide +kernel, rfl, by decide +kernel⟩
def mJ2_compress_39247 : MD := (RJ2, (yJ2_compress_39247, (cJ2_compress_39247, (6, (some (.array .byte), ([], [(0, .iload_n 2, 1), (1, .newarray .byte, 3), (3, .astore_n 3, 4), (4, .aload_n 0, 5), (5, .iload_n 1, 6), (6, .aload_n 3, 7), (7, .iconst 0, 8), (8, .iload_n 2, 9), (9, .invokestatic 123, 12), (12, .istore 4, 14), (14, .iload 4, 16), (16, .iload_n 2, 17), (17, .if_icmp .eq 47, 20), (20, .aload_n 0, 21), (21, .iload_n 1, 22), (22, .iconst 1, 23), (23, .ishl, 24), (24, .iload_n 1, 25), (25, .iload_n 2, 26), (26, .iadd, 27), (27, .invokestatic 11, 30), (30, .invokestatic 126, 33), (33, .astore 5, 35), (35, .aload 5, 37), (37, .iload 4, 39), (39, .invokestatic 71, 42), (42, .sipush 255, 45), (45, .if_icmp .gt 16, 48), (48, .aload 5, 50), (50, .iconst 0, 51), (51, .aload_n 3, 52), (52, .iconst 0, 53), (53, .iload_n 2, 54), (54, .invokestatic 123, 57), (57, .iload_n 2, 58), (58, .if_icmp .eq 6, 61), (61, .aload 5, 63), (63, .areturn, 64), (64, .aload_n 3, 65), (65, .areturn, 66)]))))))
theorem ok_J2_compress_39247 : e_ok mJ2_compress_39247 := ⟨by decide +kernel, rfl, by decide +kernel⟩
def mJ2_compress_5af95 : MD := (RJ2, (yJ2_compress_5af95, (cJ2_compress_5af95, (7, (some .int, ([], [(0, .iload_n 1, 1), (1, .iload 4, 3), (3, .aload_n 0, 4), (4, .invokestatic 173, 7), (7, .iconst 0, 8), (8, .istore 5, 10), (10, .iload 5, 12), (12, .iload 4, 14), (14, .if_icmp .ge 39, 17), (17, .aload_n 0, 18), (18, .iload_n 1, 19), (19, .invokestatic 71, 22), (22, .istore 6, 24), (24, .iload 6, 26), (26, .sipush 255, 29), (29, .if_icmp .le 6, 32), (32, .iload 5, 34), (34, .ireturn, 35), (35, .aload_n 2, 36), (36, .iload_n 3, 37), (37, .iload 6, 39), (39, .i2b, 40), (40, .bastore, 41), (41, .iinc 1 1, 44), (44, .iinc 3 1, 47), (47, .iinc 5 1, 50), (50, .goto (-40), 53), (53, .iload 4, 55), (55, .ireturn, 56)]))))))
theorem ok_J2_compress_5af95 : e_ok mJ2_compress_5af95 := ⟨by decide +kernel, rfl, by decide +kernel⟩
def mJ2_fillNull_b72d1 : MD := (RJ2, (yJ2_fillNull_b72d1, (cJ2_fillNull_b72d1, (3, (none, ([], [(0, .aload_n 0, 1), (1, .iload_n 1, 2), (2, .iconst 1, 3), (3, .ishl, 4), (4, .iload_n 2, 5), (5, .iconst 1, 6), (6, .ishl, 7), (7, .iconst 0, 8), (8, .invokestatic 380, 11), (11, .return_, 12)]))))))
theorem ok_J2_fillNull_b72d1 : e_ok mJ2_fillNull_b72d1 := ⟨by decide +kernel, rfl, by decide +kernel⟩
def mJ2_putCharSB_b72d1 : MD := (RJ2, (yJ2_putCharSB_b72d1, (cJ2_putCharSB_b72d1, (3, (none, ([], [(0, .iload_n 1, 1), (1, .aload_n 0, 2), (2, .invokestatic 67, 5), (5, .aload_n 0, 6), (6, .iload_n 1, 7), (7, .iload_n 2, 8), (8, .invokestatic 111, 11), (11, .return_, 12)]))))))
theorem ok_J2_putCharSB_b72d1 : e_ok mJ2_putCharSB_b72d1 := ⟨by decide +kernel, rfl, by decide +kernel⟩
def mJ2_getChars_46870 : MD := (RJ2, (yJ2_getChars_46870, (cJ2_getChars_46870, (5, (some .int, ([], [(0, .iload_n 1, 1), (1, .iload_n 2, 2), (2, .aload_n 3, 3), (3, .invokestatic 96, 6), (6, .iload_n 0, 7), (7, .iload_n 2, 8), (8, .aload_n 3, 9), (9, .invokestatic 393, 12), (12, .istore 4, 14), (14, .getstatic 44, 17), (17, .ifCond .ne 17, 20), (20, .iload_n 1, 21), (21, .iload 4, 23), (23, .if_icmp .eq 11, 26), (26, .new 52, 29), (29, .dup, 30), (30, .invokespecial 66, 33), (33, .athrow, 34), (34, .iload 4, 36), (36, .ireturn, 37)]))))))
theorem ok_J2_getChars_46870 : e_ok mJ2_getChars_46870 := ⟨by decide +kernel, rfl, by decide +kernel⟩
def mJ2_putCharsAt_cd4e5 : MD := (RJ2, (yJ2_putCharsAt_cd4e5, (cJ2_putCharsAt_cd4e5, (7, (some .int, ([], [(0, .iload_n 1, 1), (1, .iconst 4, 2), (2, .iadd, 3), (3, .istore 6, 5), (5, .iload_n 1, 6), (6, .iload 6, 8), (8, .aload_n 0, 9), (9, .invokestatic 96, 12), (12, .aload_n 0, 13), (13, .iload_n 1, 14), (14, .iinc 1 1, 17), (17, .iload_n 2, 18), (18, .invokestatic 111, 21), (21, .aload_n 0, 22), (22, .iload_n 1, 23), (23, .iinc 1 1, 26), (26, .iload_n 3, 27), (27, .invokestatic 111, 30), (30, .aload_n 0, 31), (31, .iload_n 1, 32), (32, .iinc 1 1, 35), (35, .iload 4, 37), (37, .invokestatic 111, 40), (40, .aload_n 0, 41), (41, .iload_n 1, 42), (42, .iinc 1 1, 45), (45, .iload 5, 47), (47, .invokestatic 111, 50), (50, .getstatic 44, 53), (53, .ifCond .ne 17, 56), (56, .iload_n 1, 57), (57, .iload 6, 59), (59, .if_icmp .eq 11, 62), (62, .new 52, 65), (65, .dup, 66), (66, .invokespecial 66, 69), (69, .athrow, 70), (70, .iload 6, 72), (72, .ireturn, 73)]))))))
theorem ok_J2_putCharsAt_cd4e5 : e_ok mJ2_putCharsAt_cd4e5 := ⟨by decide +kernel, rfl, by decide +kernel⟩
def mJ2_charAt_3b067 : MD := (RJ2, (yJ2_charAt_3b067, (cJ2_charAt_3b067, (2, (some .char, ([], [(0, .iload_n 1, 1), (1, .aload_n 0, 2), (2, .invokestatic 67, 5), (5, .aload_n 0, 6), (6, .iload_n 1, 7), (7, .invokestatic 71, 10), (10, .ireturn, 11)]))))))
theorem ok_J2_charAt_3b067 : e_ok mJ2_charAt_3b067 := ⟨by decide +kernel, rfl, by decide +kernel⟩
def mJ2_inflate_0e8fd : MD := (RJ2, (yJ2_inflate_0e8fd, (cJ2_inflate_0e8fd, (6, (none, ([], [(0, .iload_n 3, 1), (1, .iload 4, 3), (3, .aload_n 2, 4), (4, .invokestatic 173, 7), (7, .iconst 0, 8), (8, .istore 5, 10), (10, .iload 5, 12), (12, .iload 4, 14), (14, .if_icmp .ge 27, 17), (17, .aload_n 2, 18), (18, .iload_n 3, 19), (19, .iinc 3 1, 22), (22, .aload_n 0, 23), (23, .iload_n 1, 24), (24, .iinc 1 1, 27), (27, .baload, 28), (28, .sipush 255, 31), (31, .iand, 32), (32, .invokestatic 111, 35), (35, .iinc 5 1, 38), (38, .goto (-28), 41), (41, .return_, 42)]))))))
theorem ok_J2_inflate_0e8fd : e_ok mJ2_inflate_0e8fd := ⟨by decide +kernel, rfl, by decide +kernel⟩
def mJ2_getChars_ba4f3 : MD := (RJ2, (yJ2_getChars_ba4f3, (cJ2_getChars_ba4f3, (7, (some .int, ([], [(0, .iload_n 1, 1), (1, .istore 5, 3), (3, .iload_n 0, 4), (4, .ifCond .ge 7, 7), (7, .iconst 1, 8), (8, .goto 4, 11), (11, .iconst 0, 12), (12, .istore 6, 14), (14, .iload 6, 16), (16, .ifCond .ne 6, 19), (19, .iload_n 0, 20), (20, .ineg, 21), (21, .istore_n 0, 22), (22, .iload_n 0, 23), (23, .bipush (-100), 25), (25, .if_icmp .gt 51, 28), (28, .iload_n 0, 29), (29, .bipush 100, 31), (31, .idiv, 32), (32, .istore_n 3, 33), (33, .iload_n 3, 34), (34, .bipush 100, 36), (36, .imul, 37), (37, .iload_n 0, 38), (38, .isub, 39), (39, .istore 4, 41), (41, .iload_n 3, 42), (42, .istore_n 0, 43), (43, .aload_n 2, 44), (44, .iinc 5 (-1), 47), (47, .iload 5, 49), (49, .getstatic 403, 52), (52, .iload 4, 54), (54, .baload, 55), (55, .invokestatic 111, 58), (58, .aload_n 2, 59), (59, .iinc 5 (-1), 62), (62, .iload 5, 64), (64, .getstatic 407, 67), (67, .iload 4, 69), (69, .baload, 70), (70, .invokestatic 111, 73), (73, .goto (-51), 76), (76, .aload_n 2, 77), (77, .iinc 5 (-1), 80), (80, .iload 5, 82), (82, .getstatic 403, 85), (85, .iload_n 0, 86), (86, .ineg, 87), (87, .baload, 88), (88, .invokestatic 111, 91), (91, .iload_n 0, 92), (92, .bipush (-9), 94), (94, .if_icmp .ge 18, 97), (97, .aload_n 2, 98), (98, .iinc 5 (-1), 101), (101, .iload 5, 103), (103, .getstatic 407, 106), (106, .iload_n 0, 107), (107, .ineg, 108), (108, .baload, 109), (109, .invokestatic 111, 112), (112, .iload 6, 114), (114, .ifCond .eq 14, 117), (117, .aload_n 2, 118), (118, .iinc 5 (-1), 121), (121, .iload 5, 123), (123, .bipush 45, 125), (125, .invokestatic 111, 128), (128, .iload 5, 130), (130, .ireturn, 131)]))))))
theorem ok_J2_getChars_ba4f3 : e_ok mJ2_getChars_ba4f3 := ⟨by decide +kernel, rfl, by decide +kernel⟩
def mJ2_checkIndex_2214a : MD := (RJ2, (yJ2_checkIndex_2214a, (cJ2_checkIndex_2214a, (2, (none, ([], [(0, .iload_n 0, 1), (1, .aload_n 1, 2), (2, .invokestatic 48, 5), (5, .invokestatic 414, 8), (8, .return_, 9)]))))))
theorem ok_J2_checkIndex_2214a : e_ok mJ2_checkIndex_2214a := ⟨by decide +kernel, rfl, by decide +kernel⟩
def mJ2_checkBoundsBeginEnd_d044e : MD := (RJ2, (yJ2_checkBoundsBeginEnd_d044e, (cJ2_checkBoundsBeginEnd_d044e, (3, (none, ([], [(0, .iload_n 0, 1), (1, .iload_n 1, 2), (2, .aload_n 2, 3), (3, .invokestatic 48, 6), (6, .invokestatic 241, 9), (9, .return_, 10)]))))))
theorem ok_J2_checkBoundsBeginEnd_d044e : e_ok mJ2_checkBoundsBeginEnd_d044e := ⟨by decide +kernel, rfl, by decide +kernel⟩
def mJ2_checkBoundsOffCount_d044e : MD := (RJ2, (yJ2_checkBoundsOffCount_d044e, (cJ2_checkBoundsOffCount_d044e, (3, (none, ([], [(0, .iload_n 0, 1), (1, .iload_n 1, 2), (2, .aload_n 2, 3), (3, .invokestatic 48, 6), (6, .invokestatic 419, 9), (9, .pop, 10), (10, .return_, 11)]))))))
theorem ok_J2_checkBoundsOffCount_d044e : e_ok mJ2_checkBoundsOffCount_d044e := ⟨by decide +kernel, rfl, by decide +kernel⟩
def mJ7_rangeCheck_23922 : MD := (RJ7, (yJ7_rangeCheck_23922, (cJ7_rangeCheck_23922, (3, (none, ([], [(0, .iload_n 1, 1), (1, .iload_n 2, 2), (2, .if_icmp .le 44, 5), (5, .new 43, 8), (8, .dup, 9), (9, .new 45, 12), (12, .dup, 13), (13, .invokespecial 47, 16), (16, .ldc 48, 18), (18, .invokevirtual 50, 21), (21, .iload_n 1, 22), (22, .invokevirtual 54, 25), (25, .ldc 57, 27), (27, .invokevirtual 50, 30), (30, .iload_n 2, 31), (31, .invokevirtual 54, 34), (34, .ldc 59, 36), (36, .invokevirtual 50, 39), (39, .invokevirtual 61, 42), (42, .invokespecial 65, 45), (45, .athrow, 46), (46, .iload_n 1, 47), (47, .ifCond .ge 12, 50), (50, .new 68, 53), (53, .dup, 54), (54, .iload_n 1, 55), (55, .invokespecial 70, 58), (58, .athrow, 59), (59, .iload_n 2, 60), (60, .iload_n 0, 61), (61, .if_icmp .le 12, 64), (64, .new 68, 67), (67, .dup, 68), (68, .iload_n 2, 69), (69, .invokespecial 70, 72), (72, .athrow, 73), (73, .return_, 74)]))))))
theorem ok_J7_rangeCheck_23922 : e_ok mJ7_rangeCheck_23922 := ⟨by decide +kernel, rfl, by decide +kernel⟩
def mJ7_fill_eb02e : MD := (RJ7, (yJ7_fill_eb02e, (cJ7_fill_eb02e, (5, (none, ([], [(0, .aload_n 0, 1), (1, .arraylength, 2), (2, .iload_n 1, 3), (3, .iload_n 2, 4), (4, .invokestatic 13, 7), (7, .iload_n 1, 8), (8, .istore 4, 10), (10, .iload 4, 12), (12, .iload_n 2, 13), (13, .if_icmp .ge 14, 16), (16, .aload_n 0, 17), (17, .iload 4, 19), (19, .iload_n 3, 20), (20, .bastore, 21), (21, .iinc 4 1, 24), (24, .goto (-14), 27), (27, .return_, 28)]))))))
theorem ok_J7_fill_eb02e : e_ok mJ7_fill_eb02e := ⟨by decide +kernel, rfl, by decide +kernel⟩
def mJ7_copyOf_9075b : MD := (RJ7, (yJ7_copyOf_9075b, (cJ7_copyOf_9075b, (3, (some (.array .byte), ([], [(0, .iload_n 1, 1), (1, .aload_n 0, 2), (2, .arraylength, 3), (3, .if_icmp .ne 11, 6), (6, .aload_n 0, 7), (7, .invokevirtual 310, 10), (10, .checkcast 311, 13), (13, .areturn, 14), (14, .iload_n 1, 15), (15, .newarray .byte, 17), (17, .astore_n 2, 18), (18, .aload_n 0, 19), (19, .iconst 0, 20), (20, .aload_n 2, 21), (21, .iconst 0, 22), (22, .aload_n 0, 23), (23, .arraylength, 24), (24, .iload_n 1, 25), (25, .invokestatic 304, 28), (28, .invokestatic 150, 31), (31, .aload_n 2, 32), (32, .areturn, 33)]))))))
theorem ok_J7_copyOf_9075b : e_ok mJ7_copyOf_9075b := ⟨by decide +kernel, rfl, by decide +kernel⟩
def mJ7_checkLength_df160 : MD := (RJ7, (yJ7_checkLength_df160, (cJ7_checkLength_df160, (2, (none, ([], [(0, .iload_n 1, 1), (1, .iload_n 0, 2), (2, .if_icmp .ge 35, 5), (5, .new 43, 8), (8, .dup, 9), (9, .new 45, 12), (12, .dup, 13), (13, .invokespecial 47, 16), (16, .iload_n 0, 17), (17, .invokevirtual 54, 20), (20, .ldc_w 337, 23), (23, .invokevirtual 50, 26), (26, .iload_n 1, 27), (27, .invokevirtual 54, 30), (30, .invokevirtual 61, 33), (33, .invokespecial 65, 36), (36, .athrow, 37), (37, .return_, 38)]))))))
theorem ok_J7_checkLength_df160 : e_ok mJ7_checkLength_df160 := ⟨by decide +kernel, rfl, by decide +kernel⟩
def mJ7_copyOfRange_39247 : MD := (RJ7, (yJ7_copyOfRange_39247, (cJ7_copyOfRange_39247, (3, (some (.array .byte), ([], [(0, .iload_n 1, 1), (1, .ifCond .ne 9, 4), (4, .iload_n 2, 5), (5, .aload_n 0, 6), (6, .arraylength, 7), (7, .if_icmp .eq 10, 10), (10, .aload_n 0, 11), (11, .iload_n 1, 12), (12, .iload_n 2, 13), (13, .invokestatic 339, 16), (16, .areturn, 17), (17, .aload_n 0, 18), (18, .invokevirtual 310, 21), (21, .checkcast 311, 24), (24, .areturn, 25)]))))))
theorem ok_J7_copyOfRange_39247 : e_ok mJ7_copyOfRange_39247 := ⟨by decide +kernel, rfl, by decide +kernel⟩
def mJ7_copyOfRangeByte_39247 : MD := (RJ7, (yJ7_copyOfRangeByte_39247, (cJ7_copyOfRangeByte_39247, (5, (some (.array .byte), ([], [(0, .iload_n 1, 1), (1, .iload_n 2, 2), (2, .invokestatic 343, 5), (5, .iload_n 2, 6), (6, .iload_n 1, 7), (7, .isub, 8), (8, .istore_n 3, 9), (9, .iload_n 3, 10), (10, .newarray .byte, 12), (12, .astore 4, 14), (14, .aload_n 0, 15), (15, .iload_n 1, 16), (16, .aload 4, 18), (18, .iconst 0, 19), (19, .aload_n 0, 20), (20, .arraylength, 21), (21, .iload_n 1, 22), (22, .isub, 23), (23, .iload_n 3, 24), (24, .invokestatic 304, 27), (27, .invokestatic 150, 30), (30, .aload 4, 32), (32, .areturn, 33)]))))))
theorem ok_J7_copyOfRangeByte_39247 : e_ok mJ7_copyOfRangeByte_39247 := ⟨by decide +kernel, rfl, by decide +kernel⟩
def mJ8_newLength_cabcc : MD := (RJ8, (yJ8_newLength_cabcc, (cJ8_newLength_cabcc, (4, (some .int, ([], [(0, .iload_n 0, 1), (1, .iload_n 1, 2), (2, .iload_n 2, 3), (3, .invokestatic 194, 6), (6, .iadd, 7), (7, .istore_n 3, 8), (8, .iconst 0, 9), (9, .iload_n 3, 10), (10, .if_icmp .ge 11, 13), (13, .iload_n 3, 14), (14, .ldc 200, 16), (16, .if_icmp .gt 5, 19), (19, .iload_n 3, 20), (20, .ireturn, 21), (21, .iload_n 0, 22), (22, .iload_n 1, 23), (23, .invokestatic 201, 26), (26, .ireturn, 27)]))))))
theorem ok_J8_newLength_cabcc : e_ok mJ8_newLength_cabcc := ⟨by decide +kernel, rfl, by decide +kernel⟩
def mJ8_hugeLength_7cf53 : MD := (RJ8, (yJ8_hugeLength_7cf53, (cJ8_hugeLength_7cf53, (3, (some .int, ([], [(0, .iload_n 0, 1), (1, .iload_n 1, 2), (2, .iadd, 3), (3, .istore_n 2, 4), (4, .iload_n 2, 5), (5, .ifCond .ge 44, 8), (8, .new 204, 11), (11, .dup, 12), (12, .new 89, 15), (15, .dup, 16), (16, .invokespecial 91, 19), (19, .ldc 206, 21), (21, .invokevirtual 94, 24), (24, .iload_n 0, 25), (25, .invokevirtual 98, 28), (28, .ldc 208, 30), (30, .invokevirtual 94, 33), (33, .iload_n 1, 34), (34, .invokevirtual 98, 37), (37, .ldc 210, 39), (39, .invokevirtual 94, 42), (42, .invokevirtual 101, 45), (45, .invokespecial 212, 48), (48, .athrow, 49), (49, .iload_n 2, 50), (50, .ldc 200, 52), (52, .if_icmp .gt 6, 55), (55, .ldc 200, 57), (57, .ireturn, 58), (58, .iload_n 2, 59), (59, .ireturn, 60)]))))))
theorem ok_J8_hugeLength_7cf53 : e_ok mJ8_hugeLength_7cf53 := ⟨by decide +kernel, rfl, by decide +kernel⟩
def mJ3_checkIndex_8e157 : MD := (RJ3, (yJ3_checkIndex_8e157, (cJ3_checkIndex_8e157, (3, (some .int, ([], [(0, .iload_n 0, 1), (1, .ifCond .lt 8, 4), (4, .iload_n 0, 5), (5, .iload_n 1, 6), (6, .if_icmp .lt 10, 9), (9, .aload_n 2, 10), (10, .iload_n 0, 11), (11, .iload_n 1, 12), (12, .invokestatic 95, 15), (15, .athrow, 16), (16, .iload_n 0, 17), (17, .ireturn, 18)]))))))
theorem ok_J3_checkIndex_8e157 : e_ok mJ3_checkIndex_8e157 := ⟨by decide +kernel, rfl, by decide +kernel⟩
def mJ3_checkFromToIndex_8c36e : MD := (RJ3, (yJ3_checkFromToIndex_8c36e, (cJ3_checkFromToIndex_8c36e, (4, (some .int, ([], [(0, .iload_n 0, 1), (1, .ifCond .lt 13, 4), (4, .iload_n 0, 5), (5, .iload_n 1, 6), (6, .if_icmp .gt 8, 9), (9, .iload_n 1, 10), (10, .iload_n 2, 11), (11, .if_icmp .le 11, 14), (14, .aload_n 3, 15), (15, .iload_n 0, 16), (16, .iload_n 1, 17), (17, .iload_n 2, 18), (18, .invokestatic 99, 21), (21, .athrow, 22), (22, .iload_n 0, 23), (23, .ireturn, 24)]))))))
theorem ok_J3_checkFromToIndex_8c36e : e_ok mJ3_checkFromToIndex_8c36e := ⟨by decide +kernel, rfl, by decide +kernel⟩
def mJ3_checkFromIndexSize_8c36e : MD := (RJ3, (yJ3_checkFromIndexSize_8c36e, (cJ3_checkFromIndexSize_8c36e, (4, (some .int, ([], [(0, .iload_n 2, 1), (1, .iload_n 0, 2), (2, .ior, 3), (3, .iload_n 1, 4), (4, .ior, 5), (5, .ifCond .lt 10, 8), (8, .iload_n 1, 9), (9, .iload_n 2, 10), (10, .iload_n 0, 11), (11, .isub, 12), (12, .if_icmp .le 11, 15), (15, .aload_n 3, 16), (16, .iload_n 0, 17), (17, .iload_n 1, 18), (18, .iload_n 2, 19), (19, .invokestatic 103, 22), (22, .athrow, 23), (23, .iload_n 0, 24), (24, .ireturn, 25)]))))))
theorem ok_J3_checkFromIndexSize_8c36e : e_ok mJ3_checkFromIndexSize_8c36e := ⟨by decide +kernel, rfl, by decide +kernel⟩
end
section
/-! PRINTED by wip/whole/gen/mk_links.py: fields and calls, by the words' places -/
/-- the words that are no good words: they are carried from the law's start -/
def e_WN : List Cond := [49, 51, 137, 152, 381, 522, 523, 524, 525, 526, 527, 528, 646, 647, 648, 728, 736, 756, 780, 797, 813, 829, 1069, 1180, 1250, 1824, 1825, 1826, 1827, 1828, 1829, 1830, 1831, 1832, 1833, 1834, 1835, 1836, 1837, 1838, 1839, 1840, 1841, 1842, 1843, 1844].filterMap (fun i => tables_1[i]?)
theorem e_w1 (k : Nat) {w : Cond} (h : tables_1[k]? = some w) (g : goodWord w = true) : w ∈ e_WS := e_WS_in (List.mem_append_right _ (List.mem_of_getElem? h)) g
theorem e_w0 (k : Nat) {w : Cond} (h : (k2_sels lw_privs)[k]? = some w) (g : goodWord w = true) : w ∈ e_WS := e_WS_in (List.mem_append_left _ (List.mem_of_getElem? h)) g
theorem e_uw {ws : List Cond} (ps : List Nat) (hp : ws = ps.filterMap (fun i => tables_1[i]?)) (hg : ws.all goodWord = true) : ∀ w ∈ ws, w ∈ e_WS := by
  intro w hw
  have h1 := List.all_eq_true.mp hg w hw
  rw [hp] at hw
  obtain ⟨i, -, hi⟩ := List.mem_filterMap.mp hw
  exact e_w1 i hi h1
theorem u_RJ0 : ∀ w ∈ u_ws RJ0 TJ0 4, w ∈ e_WS := e_uw [612, 614, 616, 618] (by decide +kernel) (by decide +kernel)
theorem u_RJ4 : ∀ w ∈ u_ws RJ4 TJ4 4, w ∈ e_WS := e_uw [179, 181, 183, 185] (by decide +kernel) (by decide +kernel)
theorem u_RX2 : ∀ w ∈ u_ws RX2 TX2 3, w ∈ e_WS := e_uw [143, 145, 147] (by decide +kernel) (by decide +kernel)
theorem u_RX3 : ∀ w ∈ u_ws RX3 TX3 14, w ∈ e_WS := e_uw [101, 103, 105, 107, 109, 111, 113, 115, 117, 119, 121, 123, 125, 127] (by decide +kernel) (by decide +kernel)
theorem u_RX4 : ∀ w ∈ u_ws RX4 TX4 4, w ∈ e_WS := e_uw [65, 67, 69, 71] (by decide +kernel) (by decide +kernel)
theorem u_RX6 : ∀ w ∈ u_ws RX6 TX6 3, w ∈ e_WS := e_uw [195, 197, 199] (by decide +kernel) (by decide +kernel)
theorem u_RX7 : ∀ w ∈ u_ws RX7 TX7 9, w ∈ e_WS := e_uw [213, 215, 217, 219, 221, 223, 225, 227, 229] (by decide +kernel) (by decide +kernel)
theorem u_RX8 : ∀ w ∈ u_ws RX8 TX8 18, w ∈ e_WS := e_uw [1355, 1357, 1359, 1361, 1363, 1365, 1367, 1369, 1371, 1373, 1375, 1377, 1379, 1381, 1383, 1385, 1387, 1389] (by decide +kernel) (by decide +kernel)
theorem co_RX2_3 : e_cO RX2 3 := ⟨(e_w1 135 (by decide +kernel) rfl), (e_w1 40 (by decide +kernel) rfl), (e_w1 41 (by decide +kernel) rfl)⟩
theorem cl_RX2_9 : Cond.classLink RX2 9 "BiscuitLocks$House" ∈ e_WS := (e_w1 136 (by decide +kernel) rfl)
theorem fp_RX2_11 : e_FP RX2 11 4 0 (.array (.object "BiscuitLocks$House")) true := ⟨RX2, TX2, 3, by decide, rfl, by decide, (e_w1 139 (by decide +kernel) rfl), u_RX2, by decide +kernel, rfl, ⟨tyX2, tyX2_ok⟩, nmX2, fun h => by first | rfl | cases h⟩
theorem fp_RX2_17 : e_FP RX2 17 4 1 (.int) false := ⟨RX2, TX2, 3, by decide, rfl, by decide, (e_w1 140 (by decide +kernel) rfl), u_RX2, by decide +kernel, rfl, ⟨tyX2, tyX2_ok⟩, nmX2, fun h => by first | rfl | cases h⟩
theorem fp_RX2_21 : e_FP RX2 21 4 2 (.int) false := ⟨RX2, TX2, 3, by decide, rfl, by decide, (e_w1 141 (by decide +kernel) rfl), u_RX2, by decide +kernel, rfl, ⟨tyX2, tyX2_ok⟩, nmX2, fun h => by first | rfl | cases h⟩
theorem fl_RX2_11 : e_FL RX2 11 4 0 := ⟨RX2, TX2, 3, by decide, rfl, by decide, (e_w1 139 (by decide +kernel) rfl), u_RX2⟩
theorem nw_RX2_9 : e_cN RX2 9 5 14 [vN, vN, vN, vN, vN, vI 0, vI 0, vI 0, vI 0, vI 0, vI 0, vI 0, vI 0, vI 0] := ⟨RX3, TX3, by decide, rfl, (e_w1 136 (by decide +kernel) rfl), (e_w1 43 (by decide +kernel) rfl), (e_w1 2 (by decide +kernel) rfl), u_RX3, by simp [e_wfS, e_wfV], tyX3, tyX3_ok, by decide +kernel⟩
theorem cy_X3_init : e_cY mX3_init 0 := ⟨(e_w1 2 (by decide +kernel) rfl), (e_w1 46 (by decide +kernel) rfl), ⟨by decide, by decide, by decide +kernel⟩, by decide⟩
theorem ci_RX2_24 : e_cI RX2 24 mX3_init 0 := ⟨rfl, rfl, rfl, (e_w1 138 (by decide +kernel) rfl), (e_w1 45 (by decide +kernel) rfl), cy_X3_init⟩
theorem fl_RX2_21 : e_FL RX2 21 4 2 := ⟨RX2, TX2, 3, by decide, rfl, by decide, (e_w1 141 (by decide +kernel) rfl), u_RX2⟩
theorem fl_RX2_17 : e_FL RX2 17 4 1 := ⟨RX2, TX2, 3, by decide, rfl, by decide, (e_w1 140 (by decide +kernel) rfl), u_RX2⟩
theorem cy_X3_copyFrom : e_cY mX3_copyFrom 1 := ⟨(e_w1 2 (by decide +kernel) rfl), (e_w1 702 (by decide +kernel) rfl), ⟨by decide, by decide, by decide +kernel⟩, by decide⟩
theorem cv_RX2_25 : e_cV RX2 25 5 mX3_copyFrom 1 := ⟨"BiscuitLocks$House", Or.inl ⟨TX3, 14, by decide, rfl⟩, rfl, (e_w1 847 (by decide +kernel) rfl), (e_w1 700 (by decide +kernel) rfl), (e_w1 701 (by decide +kernel) rfl), cy_X3_copyFrom⟩
theorem co_RX3_3 : e_cO RX3 3 := ⟨(e_w1 47 (by decide +kernel) rfl), (e_w1 40 (by decide +kernel) rfl), (e_w1 41 (by decide +kernel) rfl)⟩
theorem cl_RX3_9 : Cond.classLink RX3 9 "BiscuitLocks$Lock" ∈ e_WS := (e_w1 48 (by decide +kernel) rfl)
theorem fp_RX3_11 : e_FP RX3 11 5 0 (.array (.object "BiscuitLocks$Lock")) true := ⟨RX3, TX3, 14, by decide, rfl, by decide, (e_w1 76 (by decide +kernel) rfl), u_RX3, by decide +kernel, rfl, ⟨tyX3, tyX3_ok⟩, nmX3, fun h => by first | rfl | cases h⟩
theorem fp_RX3_17 : e_FP RX3 17 5 1 (.array .int) true := ⟨RX3, TX3, 14, by decide, rfl, by decide, (e_w1 78 (by decide +kernel) rfl), u_RX3, by decide +kernel, rfl, ⟨tyX3, tyX3_ok⟩, nmX3, fun h => by first | rfl | cases h⟩
theorem fp_RX3_21 : e_FP RX3 21 5 2 (.array .int) true := ⟨RX3, TX3, 14, by decide, rfl, by decide, (e_w1 80 (by decide +kernel) rfl), u_RX3, by decide +kernel, rfl, ⟨tyX3, tyX3_ok⟩, nmX3, fun h => by first | rfl | cases h⟩
theorem fp_RX3_24 : e_FP RX3 24 5 3 (.array .int) true := ⟨RX3, TX3, 14, by decide, rfl, by decide, (e_w1 82 (by decide +kernel) rfl), u_RX3, by decide +kernel, rfl, ⟨tyX3, tyX3_ok⟩, nmX3, fun h => by first | rfl | cases h⟩
theorem fp_RX3_27 : e_FP RX3 27 5 4 (.array .boolean) true := ⟨RX3, TX3, 14, by decide, rfl, by decide, (e_w1 84 (by decide +kernel) rfl), u_RX3, by decide +kernel, rfl, ⟨tyX3, tyX3_ok⟩, nmX3, fun h => by first | rfl | cases h⟩
theorem fp_RX3_31 : e_FP RX3 31 5 5 (.int) false := ⟨RX3, TX3, 14, by decide, rfl, by decide, (e_w1 86 (by decide +kernel) rfl), u_RX3, by decide +kernel, rfl, ⟨tyX3, tyX3_ok⟩, nmX3, fun h => by first | rfl | cases h⟩
theorem fp_RX3_35 : e_FP RX3 35 5 6 (.int) false := ⟨RX3, TX3, 14, by decide, rfl, by decide, (e_w1 88 (by decide +kernel) rfl), u_RX3, by decide +kernel, rfl, ⟨tyX3, tyX3_ok⟩, nmX3, fun h => by first | rfl | cases h⟩
theorem fp_RX3_38 : e_FP RX3 38 5 7 (.int) false := ⟨RX3, TX3, 14, by decide, rfl, by decide, (e_w1 90 (by decide +kernel) rfl), u_RX3, by decide +kernel, rfl, ⟨tyX3, tyX3_ok⟩, nmX3, fun h => by first | rfl | cases h⟩
theorem fp_RX3_41 : e_FP RX3 41 5 8 (.int) false := ⟨RX3, TX3, 14, by decide, rfl, by decide, (e_w1 92 (by decide +kernel) rfl), u_RX3, by decide +kernel, rfl, ⟨tyX3, tyX3_ok⟩, nmX3, fun h => by first | rfl | cases h⟩
theorem fp_RX3_44 : e_FP RX3 44 5 9 (.int) false := ⟨RX3, TX3, 14, by decide, rfl, by decide, (e_w1 94 (by decide +kernel) rfl), u_RX3, by decide +kernel, rfl, ⟨tyX3, tyX3_ok⟩, nmX3, fun h => by first | rfl | cases h⟩
theorem fp_RX3_47 : e_FP RX3 47 5 10 (.int) false := ⟨RX3, TX3, 14, by decide, rfl, by decide, (e_w1 96 (by decide +kernel) rfl), u_RX3, by decide +kernel, rfl, ⟨tyX3, tyX3_ok⟩, nmX3, fun h => by first | rfl | cases h⟩
theorem fp_RX3_50 : e_FP RX3 50 5 11 (.int) false := ⟨RX3, TX3, 14, by decide, rfl, by decide, (e_w1 97 (by decide +kernel) rfl), u_RX3, by decide +kernel, rfl, ⟨tyX3, tyX3_ok⟩, nmX3, fun h => by first | rfl | cases h⟩
theorem fp_RX3_53 : e_FP RX3 53 5 12 (.int) false := ⟨RX3, TX3, 14, by decide, rfl, by decide, (e_w1 98 (by decide +kernel) rfl), u_RX3, by decide +kernel, rfl, ⟨tyX3, tyX3_ok⟩, nmX3, fun h => by first | rfl | cases h⟩
theorem fp_RX3_56 : e_FP RX3 56 5 13 (.int) false := ⟨RX3, TX3, 14, by decide, rfl, by decide, (e_w1 99 (by decide +kernel) rfl), u_RX3, by decide +kernel, rfl, ⟨tyX3, tyX3_ok⟩, nmX3, fun h => by first | rfl | cases h⟩
theorem fl_RX3_11 : e_FL RX3 11 5 0 := ⟨RX3, TX3, 14, by decide, rfl, by decide, (e_w1 76 (by decide +kernel) rfl), u_RX3⟩
theorem nw_RX3_9 : e_cN RX3 9 6 4 [vN, vN, vI 0, vI 0] := ⟨RX4, TX4, by decide, rfl, (e_w1 48 (by decide +kernel) rfl), (e_w1 50 (by decide +kernel) rfl), (e_w1 3 (by decide +kernel) rfl), u_RX4, by simp [e_wfS, e_wfV], tyX4, tyX4_ok, by decide +kernel⟩
theorem cy_X4_init : e_cY mX4_init 0 := ⟨(e_w1 3 (by decide +kernel) rfl), (e_w1 53 (by decide +kernel) rfl), ⟨by decide, by decide, by decide +kernel⟩, by decide⟩
theorem cn_RX3_59 : e_cIN e_WN RX3 59 mX4_init 0 := ⟨rfl, rfl, rfl, ⟨"BiscuitLocks", by decide +kernel⟩, (e_w1 52 (by decide +kernel) rfl), cy_X4_init⟩
theorem fl_RX3_17 : e_FL RX3 17 5 1 := ⟨RX3, TX3, 14, by decide, rfl, by decide, (e_w1 78 (by decide +kernel) rfl), u_RX3⟩
theorem cy_X4_copyFrom : e_cY mX4_copyFrom 1 := ⟨(e_w1 3 (by decide +kernel) rfl), (e_w1 309 (by decide +kernel) rfl), ⟨by decide, by decide, by decide +kernel⟩, by decide⟩
theorem cv_RX3_60 : e_cV RX3 60 6 mX4_copyFrom 1 := ⟨"BiscuitLocks$Lock", Or.inl ⟨TX4, 4, by decide, rfl⟩, rfl, (e_w1 703 (by decide +kernel) rfl), (e_w1 307 (by decide +kernel) rfl), (e_w1 308 (by decide +kernel) rfl), cy_X4_copyFrom⟩
theorem cy9_RX3_64 : e_cSY RX3 64 := ⟨(e_w1 704 (by decide +kernel) rfl), (e_w1 312 (by decide +kernel) rfl), (e_w1 311 (by decide +kernel) rfl), (e_w1 22 (by decide +kernel) rfl)⟩
theorem fl_RX3_21 : e_FL RX3 21 5 2 := ⟨RX3, TX3, 14, by decide, rfl, by decide, (e_w1 80 (by decide +kernel) rfl), u_RX3⟩
theorem fl_RX3_24 : e_FL RX3 24 5 3 := ⟨RX3, TX3, 14, by decide, rfl, by decide, (e_w1 82 (by decide +kernel) rfl), u_RX3⟩
theorem fl_RX3_27 : e_FL RX3 27 5 4 := ⟨RX3, TX3, 14, by decide, rfl, by decide, (e_w1 84 (by decide +kernel) rfl), u_RX3⟩
theorem fl_RX3_31 : e_FL RX3 31 5 5 := ⟨RX3, TX3, 14, by decide, rfl, by decide, (e_w1 86 (by decide +kernel) rfl), u_RX3⟩
theorem fl_RX3_35 : e_FL RX3 35 5 6 := ⟨RX3, TX3, 14, by decide, rfl, by decide, (e_w1 88 (by decide +kernel) rfl), u_RX3⟩
theorem fl_RX3_38 : e_FL RX3 38 5 7 := ⟨RX3, TX3, 14, by decide, rfl, by decide, (e_w1 90 (by decide +kernel) rfl), u_RX3⟩
theorem fl_RX3_41 : e_FL RX3 41 5 8 := ⟨RX3, TX3, 14, by decide, rfl, by decide, (e_w1 92 (by decide +kernel) rfl), u_RX3⟩
theorem fl_RX3_44 : e_FL RX3 44 5 9 := ⟨RX3, TX3, 14, by decide, rfl, by decide, (e_w1 94 (by decide +kernel) rfl), u_RX3⟩
theorem fl_RX3_47 : e_FL RX3 47 5 10 := ⟨RX3, TX3, 14, by decide, rfl, by decide, (e_w1 96 (by decide +kernel) rfl), u_RX3⟩
theorem fl_RX3_50 : e_FL RX3 50 5 11 := ⟨RX3, TX3, 14, by decide, rfl, by decide, (e_w1 97 (by decide +kernel) rfl), u_RX3⟩
theorem fl_RX3_53 : e_FL RX3 53 5 12 := ⟨RX3, TX3, 14, by decide, rfl, by decide, (e_w1 98 (by decide +kernel) rfl), u_RX3⟩
theorem fl_RX3_56 : e_FL RX3 56 5 13 := ⟨RX3, TX3, 14, by decide, rfl, by decide, (e_w1 99 (by decide +kernel) rfl), u_RX3⟩
theorem fs_RX3_70 : Cond.fieldLink RX3 70 "BiscuitLocks$1" "$SwitchMap$BiscuitLocks$Command" "[I" ∈ e_WS := (e_w1 724 (by decide +kernel) rfl)
theorem cy_Jx29ce0_ordinal_8abf5 : e_cY mJx29ce0_ordinal_8abf5 0 := ⟨(e_w1 11 (by decide +kernel) rfl), (e_w1 731 (by decide +kernel) rfl), ⟨by decide, by decide, by decide +kernel⟩, by decide⟩
theorem cu_RX3_75 : e_cU RX3 75 20 ⟨"BiscuitLocks$Command", "ordinal", "()I"⟩ mJx29ce0_ordinal_8abf5 0 := ⟨"BiscuitLocks$Command", Or.inr ⟨by decide, by decide, rfl⟩, rfl, (e_w1 726 (by decide +kernel) rfl), (e_w1 727 (by decide +kernel) rfl), (e_w1 730 (by decide +kernel) rfl), (e_w1 729 (by decide +kernel) rfl), rfl, cy_Jx29ce0_ordinal_8abf5⟩
theorem cy_X3_refusalOfDoor : e_cY mX3_refusalOfDoor 3 := ⟨(e_w1 2 (by decide +kernel) rfl), (e_w1 735 (by decide +kernel) rfl), ⟨by decide, by decide, by decide +kernel⟩, by decide⟩
theorem cv_RX3_81 : e_cV RX3 81 5 mX3_refusalOfDoor 3 := ⟨"BiscuitLocks$House", Or.inl ⟨TX3, 14, by decide, rfl⟩, rfl, (e_w1 732 (by decide +kernel) rfl), (e_w1 734 (by decide +kernel) rfl), (e_w0 3 (by decide +kernel) rfl), cy_X3_refusalOfDoor⟩
theorem cy_X3_refusalOfTurn : e_cY mX3_refusalOfTurn 3 := ⟨(e_w1 2 (by decide +kernel) rfl), (e_w1 751 (by decide +kernel) rfl), ⟨by decide, by decide, by decide +kernel⟩, by decide⟩
theorem cv_RX3_85 : e_cV RX3 85 5 mX3_refusalOfTurn 3 := ⟨"BiscuitLocks$House", Or.inl ⟨TX3, 14, by decide, rfl⟩, rfl, (e_w1 748 (by decide +kernel) rfl), (e_w1 750 (by decide +kernel) rfl), (e_w0 4 (by decide +kernel) rfl), cy_X3_refusalOfTurn⟩
theorem cy_X3_refusalOfTry : e_cY mX3_refusalOfTry 1 := ⟨(e_w1 2 (by decide +kernel) rfl), (e_w1 768 (by decide +kernel) rfl), ⟨by decide, by decide, by decide +kernel⟩, by decide⟩
theorem cv_RX3_88 : e_cV RX3 88 5 mX3_refusalOfTry 1 := ⟨"BiscuitLocks$House", Or.inl ⟨TX3, 14, by decide, rfl⟩, rfl, (e_w1 765 (by decide +kernel) rfl), (e_w1 767 (by decide +kernel) rfl), (e_w0 5 (by decide +kernel) rfl), cy_X3_refusalOfTry⟩
theorem cy_X3_refusalOfShut : e_cY mX3_refusalOfShut 1 := ⟨(e_w1 2 (by decide +kernel) rfl), (e_w1 772 (by decide +kernel) rfl), ⟨by decide, by decide, by decide +kernel⟩, by decide⟩
theorem cv_RX3_92 : e_cV RX3 92 5 mX3_refusalOfShut 1 := ⟨"BiscuitLocks$House", Or.inl ⟨TX3, 14, by decide, rfl⟩, rfl, (e_w1 769 (by decide +kernel) rfl), (e_w1 771 (by decide +kernel) rfl), (e_w0 6 (by decide +kernel) rfl), cy_X3_refusalOfShut⟩
theorem fs_RX3_95 : Cond.fieldLink RX3 95 "BiscuitLocks$Refusal" "BAD_ARGUMENT" "LBiscuitLocks$Refusal;" ∈ e_WS := (e_w1 742 (by decide +kernel) rfl)
theorem fs_RX3_101 : Cond.fieldLink RX3 101 "BiscuitLocks$Refusal" "NOTHING" "LBiscuitLocks$Refusal;" ∈ e_WS := (e_w1 746 (by decide +kernel) rfl)
theorem cy_X3_refusalOfBake : e_cY mX3_refusalOfBake 2 := ⟨(e_w1 2 (by decide +kernel) rfl), (e_w1 779 (by decide +kernel) rfl), ⟨by decide, by decide, by decide +kernel⟩, by decide⟩
theorem cv_RX3_104 : e_cV RX3 104 5 mX3_refusalOfBake 2 := ⟨"BiscuitLocks$House", Or.inl ⟨TX3, 14, by decide, rfl⟩, rfl, (e_w1 776 (by decide +kernel) rfl), (e_w1 778 (by decide +kernel) rfl), (e_w0 7 (by decide +kernel) rfl), cy_X3_refusalOfBake⟩
theorem cy_X3_refusalOfSet : e_cY mX3_refusalOfSet 4 := ⟨(e_w1 2 (by decide +kernel) rfl), (e_w1 786 (by decide +kernel) rfl), ⟨by decide, by decide, by decide +kernel⟩, by decide⟩
theorem cv_RX3_108 : e_cV RX3 108 5 mX3_refusalOfSet 4 := ⟨"BiscuitLocks$House", Or.inl ⟨TX3, 14, by decide, rfl⟩, rfl, (e_w1 783 (by decide +kernel) rfl), (e_w1 785 (by decide +kernel) rfl), (e_w0 8 (by decide +kernel) rfl), cy_X3_refusalOfSet⟩
theorem cy_X7_areNoPositions : e_cY mX7_areNoPositions 3 := ⟨(e_w1 1 (by decide +kernel) rfl), (e_w1 738 (by decide +kernel) rfl), ⟨by decide, by decide, by decide +kernel⟩, by decide⟩
theorem cn_RX3_112 : e_cSN e_WN RX3 112 mX7_areNoPositions 3 := ⟨rfl, ⟨"BiscuitLocks", by decide +kernel⟩, (e_w1 737 (by decide +kernel) rfl), cy_X7_areNoPositions⟩
theorem fs_RX3_116 : Cond.fieldLink RX3 116 "BiscuitLocks$Refusal" "WRONG_STATE" "LBiscuitLocks$Refusal;" ∈ e_WS := (e_w1 744 (by decide +kernel) rfl)
theorem cy_X3_hasDoor : e_cY mX3_hasDoor 1 := ⟨(e_w1 2 (by decide +kernel) rfl), (e_w1 755 (by decide +kernel) rfl), ⟨by decide, by decide, by decide +kernel⟩, by decide⟩
theorem cv_RX3_119 : e_cV RX3 119 5 mX3_hasDoor 1 := ⟨"BiscuitLocks$House", Or.inl ⟨TX3, 14, by decide, rfl⟩, rfl, (e_w1 752 (by decide +kernel) rfl), (e_w1 753 (by decide +kernel) rfl), (e_w1 754 (by decide +kernel) rfl), cy_X3_hasDoor⟩
theorem cy_X7_isDial : e_cY mX7_isDial 1 := ⟨(e_w1 1 (by decide +kernel) rfl), (e_w1 758 (by decide +kernel) rfl), ⟨by decide, by decide, by decide +kernel⟩, by decide⟩
theorem cn_RX3_123 : e_cSN e_WN RX3 123 mX7_isDial 1 := ⟨rfl, ⟨"BiscuitLocks", by decide +kernel⟩, (e_w1 757 (by decide +kernel) rfl), cy_X7_isDial⟩
theorem fs_RX3_126 : Cond.fieldLink RX3 126 "BiscuitLocks$Refusal" "NO_SUCH_INDEX" "LBiscuitLocks$Refusal;" ∈ e_WS := (e_w1 759 (by decide +kernel) rfl)
theorem cy_X3_isInOven : e_cY mX3_isInOven 1 := ⟨(e_w1 2 (by decide +kernel) rfl), (e_w1 764 (by decide +kernel) rfl), ⟨by decide, by decide, by decide +kernel⟩, by decide⟩
theorem cv_RX3_129 : e_cV RX3 129 5 mX3_isInOven 1 := ⟨"BiscuitLocks$House", Or.inl ⟨TX3, 14, by decide, rfl⟩, rfl, (e_w1 761 (by decide +kernel) rfl), (e_w1 762 (by decide +kernel) rfl), (e_w1 763 (by decide +kernel) rfl), cy_X3_isInOven⟩
theorem fl_RX3_132 : e_FL RX3 132 6 2 := ⟨RX4, TX4, 4, by decide, rfl, by decide, (e_w1 60 (by decide +kernel) rfl), u_RX4⟩
theorem cy_X4_hasMostCrumbs : e_cY mX4_hasMostCrumbs 0 := ⟨(e_w1 3 (by decide +kernel) rfl), (e_w1 325 (by decide +kernel) rfl), ⟨by decide, by decide, by decide +kernel⟩, by decide⟩
theorem cv_RX3_136 : e_cV RX3 136 6 mX4_hasMostCrumbs 0 := ⟨"BiscuitLocks$Lock", Or.inl ⟨TX4, 4, by decide, rfl⟩, rfl, (e_w1 773 (by decide +kernel) rfl), (e_w1 323 (by decide +kernel) rfl), (e_w1 324 (by decide +kernel) rfl), cy_X4_hasMostCrumbs⟩
theorem fs_RX3_140 : Cond.fieldLink RX3 140 "BiscuitLocks$Refusal" "NOT_SUPPORTED" "LBiscuitLocks$Refusal;" ∈ e_WS := (e_w1 774 (by decide +kernel) rfl)
theorem cy_X7_isOven : e_cY mX7_isOven 1 := ⟨(e_w1 1 (by decide +kernel) rfl), (e_w1 782 (by decide +kernel) rfl), ⟨by decide, by decide, by decide +kernel⟩, by decide⟩
theorem cn_RX3_143 : e_cSN e_WN RX3 143 mX7_isOven 1 := ⟨rfl, ⟨"BiscuitLocks", by decide +kernel⟩, (e_w1 781 (by decide +kernel) rfl), cy_X7_isOven⟩
theorem cy_X3_addLock : e_cY mX3_addLock 3 := ⟨(e_w1 2 (by decide +kernel) rfl), (e_w1 855 (by decide +kernel) rfl), ⟨by decide, by decide, by decide +kernel⟩, by decide⟩
theorem cv_RX3_146 : e_cV RX3 146 5 mX3_addLock 3 := ⟨"BiscuitLocks$House", Or.inl ⟨TX3, 14, by decide, rfl⟩, rfl, (e_w1 852 (by decide +kernel) rfl), (e_w1 854 (by decide +kernel) rfl), (e_w0 9 (by decide +kernel) rfl), cy_X3_addLock⟩
theorem cy_X4_turnBy : e_cY mX4_turnBy 2 := ⟨(e_w1 3 (by decide +kernel) rfl), (e_w1 320 (by decide +kernel) rfl), ⟨by decide, by decide, by decide +kernel⟩, by decide⟩
theorem cv_RX3_150 : e_cV RX3 150 6 mX4_turnBy 2 := ⟨"BiscuitLocks$Lock", Or.inl ⟨TX4, 4, by decide, rfl⟩, rfl, (e_w1 864 (by decide +kernel) rfl), (e_w1 318 (by decide +kernel) rfl), (e_w1 319 (by decide +kernel) rfl), cy_X4_turnBy⟩
theorem cy_X3_tryDoor : e_cY mX3_tryDoor 1 := ⟨(e_w1 2 (by decide +kernel) rfl), (e_w1 868 (by decide +kernel) rfl), ⟨by decide, by decide, by decide +kernel⟩, by decide⟩
theorem cv_RX3_154 : e_cV RX3 154 5 mX3_tryDoor 1 := ⟨"BiscuitLocks$House", Or.inl ⟨TX3, 14, by decide, rfl⟩, rfl, (e_w1 865 (by decide +kernel) rfl), (e_w1 867 (by decide +kernel) rfl), (e_w0 11 (by decide +kernel) rfl), cy_X3_tryDoor⟩
theorem fp_RX3_132 : e_FP RX3 132 6 2 (.boolean) false := ⟨RX4, TX4, 4, by decide, rfl, by decide, (e_w1 60 (by decide +kernel) rfl), u_RX4, by decide +kernel, rfl, ⟨tyX4, tyX4_ok⟩, nmX4, fun h => by first | rfl | cases h⟩
theorem cy_X3_countShut : e_cY mX3_countShut 0 := ⟨(e_w1 2 (by decide +kernel) rfl), (e_w1 254 (by decide +kernel) rfl), ⟨by decide, by decide, by decide +kernel⟩, by decide⟩
theorem cv_RX3_157 : e_cV RX3 157 5 mX3_countShut 0 := ⟨"BiscuitLocks$House", Or.inl ⟨TX3, 14, by decide, rfl⟩, rfl, (e_w1 878 (by decide +kernel) rfl), (e_w1 252 (by decide +kernel) rfl), (e_w1 253 (by decide +kernel) rfl), cy_X3_countShut⟩
theorem cy_X3_replaceDamp : e_cY mX3_replaceDamp 1 := ⟨(e_w1 2 (by decide +kernel) rfl), (e_w1 882 (by decide +kernel) rfl), ⟨by decide, by decide, by decide +kernel⟩, by decide⟩
theorem cv_RX3_160 : e_cV RX3 160 5 mX3_replaceDamp 1 := ⟨"BiscuitLocks$House", Or.inl ⟨TX3, 14, by decide, rfl⟩, rfl, (e_w1 879 (by decide +kernel) rfl), (e_w1 881 (by decide +kernel) rfl), (e_w0 12 (by decide +kernel) rfl), cy_X3_replaceDamp⟩
theorem cy_X3_putIn : e_cY mX3_putIn 2 := ⟨(e_w1 2 (by decide +kernel) rfl), (e_w1 886 (by decide +kernel) rfl), ⟨by decide, by decide, by decide +kernel⟩, by decide⟩
theorem cv_RX3_164 : e_cV RX3 164 5 mX3_putIn 2 := ⟨"BiscuitLocks$House", Or.inl ⟨TX3, 14, by decide, rfl⟩, rfl, (e_w1 883 (by decide +kernel) rfl), (e_w1 885 (by decide +kernel) rfl), (e_w0 13 (by decide +kernel) rfl), cy_X3_putIn⟩
theorem cy_X4_setPositions : e_cY mX4_setPositions 3 := ⟨(e_w1 3 (by decide +kernel) rfl), (e_w1 859 (by decide +kernel) rfl), ⟨by decide, by decide, by decide +kernel⟩, by decide⟩
theorem cv_RX3_167 : e_cV RX3 167 6 mX4_setPositions 3 := ⟨"BiscuitLocks$Lock", Or.inl ⟨TX4, 4, by decide, rfl⟩, rfl, (e_w1 856 (by decide +kernel) rfl), (e_w1 857 (by decide +kernel) rfl), (e_w1 858 (by decide +kernel) rfl), cy_X4_setPositions⟩
theorem cy_X3_letHoursPass : e_cY mX3_letHoursPass 1 := ⟨(e_w1 2 (by decide +kernel) rfl), (e_w1 890 (by decide +kernel) rfl), ⟨by decide, by decide, by decide +kernel⟩, by decide⟩
theorem cv_RX3_170 : e_cV RX3 170 5 mX3_letHoursPass 1 := ⟨"BiscuitLocks$House", Or.inl ⟨TX3, 14, by decide, rfl⟩, rfl, (e_w1 887 (by decide +kernel) rfl), (e_w1 888 (by decide +kernel) rfl), (e_w1 889 (by decide +kernel) rfl), cy_X3_letHoursPass⟩
theorem cy_X4_takeTry : e_cY mX4_takeTry 0 := ⟨(e_w1 3 (by decide +kernel) rfl), (e_w1 872 (by decide +kernel) rfl), ⟨by decide, by decide, by decide +kernel⟩, by decide⟩
theorem cv_RX3_173 : e_cV RX3 173 6 mX4_takeTry 0 := ⟨"BiscuitLocks$Lock", Or.inl ⟨TX4, 4, by decide, rfl⟩, rfl, (e_w1 869 (by decide +kernel) rfl), (e_w1 870 (by decide +kernel) rfl), (e_w1 871 (by decide +kernel) rfl), cy_X4_takeTry⟩
theorem fl_RX3_176 : e_FL RX3 176 6 3 := ⟨RX4, TX4, 4, by decide, rfl, by decide, (e_w1 63 (by decide +kernel) rfl), u_RX4⟩
theorem cy_X3_letHourPass : e_cY mX3_letHourPass 0 := ⟨(e_w1 2 (by decide +kernel) rfl), (e_w1 894 (by decide +kernel) rfl), ⟨by decide, by decide, by decide +kernel⟩, by decide⟩
theorem cv_RX3_179 : e_cV RX3 179 5 mX3_letHourPass 0 := ⟨"BiscuitLocks$House", Or.inl ⟨TX3, 14, by decide, rfl⟩, rfl, (e_w1 891 (by decide +kernel) rfl), (e_w1 892 (by decide +kernel) rfl), (e_w1 893 (by decide +kernel) rfl), cy_X3_letHourPass⟩
theorem cy_X3_driftShutLocks : e_cY mX3_driftShutLocks 1 := ⟨(e_w1 2 (by decide +kernel) rfl), (e_w1 898 (by decide +kernel) rfl), ⟨by decide, by decide, by decide +kernel⟩, by decide⟩
theorem cv_RX3_182 : e_cV RX3 182 5 mX3_driftShutLocks 1 := ⟨"BiscuitLocks$House", Or.inl ⟨TX3, 14, by decide, rfl⟩, rfl, (e_w1 895 (by decide +kernel) rfl), (e_w1 897 (by decide +kernel) rfl), (e_w0 14 (by decide +kernel) rfl), cy_X3_driftShutLocks⟩
theorem cy_X3_bakeOn : e_cY mX3_bakeOn 1 := ⟨(e_w1 2 (by decide +kernel) rfl), (e_w1 902 (by decide +kernel) rfl), ⟨by decide, by decide, by decide +kernel⟩, by decide⟩
theorem cv_RX3_186 : e_cV RX3 186 5 mX3_bakeOn 1 := ⟨"BiscuitLocks$House", Or.inl ⟨TX3, 14, by decide, rfl⟩, rfl, (e_w1 899 (by decide +kernel) rfl), (e_w1 901 (by decide +kernel) rfl), (e_w0 15 (by decide +kernel) rfl), cy_X3_bakeOn⟩
theorem cy_X4_renew : e_cY mX4_renew 0 := ⟨(e_w1 3 (by decide +kernel) rfl), (e_w1 906 (by decide +kernel) rfl), ⟨by decide, by decide, by decide +kernel⟩, by decide⟩
theorem cv_RX3_189 : e_cV RX3 189 6 mX4_renew 0 := ⟨"BiscuitLocks$Lock", Or.inl ⟨TX4, 4, by decide, rfl⟩, rfl, (e_w1 903 (by decide +kernel) rfl), (e_w1 904 (by decide +kernel) rfl), (e_w1 905 (by decide +kernel) rfl), cy_X4_renew⟩
theorem cm_RX3_192 : e_cMa RX3 192 Lib.Math.min.name Lib.Math.min.code := ⟨(e_w1 244 (by decide +kernel) rfl), (e_w1 245 (by decide +kernel) rfl), (e_w1 23 (by decide +kernel) rfl), (e_w1 246 (by decide +kernel) rfl)⟩
theorem cy_X3_comesBefore : e_cY mX3_comesBefore 2 := ⟨(e_w1 2 (by decide +kernel) rfl), (e_w1 1143 (by decide +kernel) rfl), ⟨by decide, by decide, by decide +kernel⟩, by decide⟩
theorem cv_RX3_197 : e_cV RX3 197 5 mX3_comesBefore 2 := ⟨"BiscuitLocks$House", Or.inl ⟨TX3, 14, by decide, rfl⟩, rfl, (e_w1 1140 (by decide +kernel) rfl), (e_w1 1142 (by decide +kernel) rfl), (e_w0 17 (by decide +kernel) rfl), cy_X3_comesBefore⟩
theorem cy_X4_stepsByDistances : e_cY mX4_stepsByDistances 0 := ⟨(e_w1 3 (by decide +kernel) rfl), (e_w1 290 (by decide +kernel) rfl), ⟨by decide, by decide, by decide +kernel⟩, by decide⟩
theorem cv_RX3_201 : e_cV RX3 201 6 mX4_stepsByDistances 0 := ⟨"BiscuitLocks$Lock", Or.inl ⟨TX4, 4, by decide, rfl⟩, rfl, (e_w1 1144 (by decide +kernel) rfl), (e_w1 288 (by decide +kernel) rfl), (e_w1 289 (by decide +kernel) rfl), cy_X4_stepsByDistances⟩
theorem co_RX4_3 : e_cO RX4 3 := ⟨(e_w1 54 (by decide +kernel) rfl), (e_w1 40 (by decide +kernel) rfl), (e_w1 41 (by decide +kernel) rfl)⟩
theorem fp_RX4_9 : e_FP RX4 9 6 0 (.array .int) true := ⟨RX4, TX4, 4, by decide, rfl, by decide, (e_w1 55 (by decide +kernel) rfl), u_RX4, by decide +kernel, rfl, ⟨tyX4, tyX4_ok⟩, nmX4, fun h => by first | rfl | cases h⟩
theorem fp_RX4_15 : e_FP RX4 15 6 1 (.array .int) true := ⟨RX4, TX4, 4, by decide, rfl, by decide, (e_w1 57 (by decide +kernel) rfl), u_RX4, by decide +kernel, rfl, ⟨tyX4, tyX4_ok⟩, nmX4, fun h => by first | rfl | cases h⟩
theorem fp_RX4_18 : e_FP RX4 18 6 2 (.boolean) false := ⟨RX4, TX4, 4, by decide, rfl, by decide, (e_w1 59 (by decide +kernel) rfl), u_RX4, by decide +kernel, rfl, ⟨tyX4, tyX4_ok⟩, nmX4, fun h => by first | rfl | cases h⟩
theorem fp_RX4_22 : e_FP RX4 22 6 3 (.int) false := ⟨RX4, TX4, 4, by decide, rfl, by decide, (e_w1 62 (by decide +kernel) rfl), u_RX4, by decide +kernel, rfl, ⟨tyX4, tyX4_ok⟩, nmX4, fun h => by first | rfl | cases h⟩
theorem fl_RX4_9 : e_FL RX4 9 6 0 := ⟨RX4, TX4, 4, by decide, rfl, by decide, (e_w1 55 (by decide +kernel) rfl), u_RX4⟩
theorem cy9_RX4_26 : e_cSY RX4 26 := ⟨(e_w1 310 (by decide +kernel) rfl), (e_w1 312 (by decide +kernel) rfl), (e_w1 311 (by decide +kernel) rfl), (e_w1 22 (by decide +kernel) rfl)⟩
theorem fl_RX4_15 : e_FL RX4 15 6 1 := ⟨RX4, TX4, 4, by decide, rfl, by decide, (e_w1 57 (by decide +kernel) rfl), u_RX4⟩
theorem fl_RX4_18 : e_FL RX4 18 6 2 := ⟨RX4, TX4, 4, by decide, rfl, by decide, (e_w1 59 (by decide +kernel) rfl), u_RX4⟩
theorem fl_RX4_22 : e_FL RX4 22 6 3 := ⟨RX4, TX4, 4, by decide, rfl, by decide, (e_w1 62 (by decide +kernel) rfl), u_RX4⟩
theorem cy_X4_playNow : e_cY mX4_playNow 0 := ⟨(e_w1 3 (by decide +kernel) rfl), (e_w1 298 (by decide +kernel) rfl), ⟨by decide, by decide, by decide +kernel⟩, by decide⟩
theorem cv_RX4_32 : e_cV RX4 32 6 mX4_playNow 0 := ⟨"BiscuitLocks$Lock", Or.inl ⟨TX4, 4, by decide, rfl⟩, rfl, (e_w1 295 (by decide +kernel) rfl), (e_w1 296 (by decide +kernel) rfl), (e_w1 297 (by decide +kernel) rfl), cy_X4_playNow⟩
theorem cy_X4_distanceOf : e_cY mX4_distanceOf 1 := ⟨(e_w1 3 (by decide +kernel) rfl), (e_w1 294 (by decide +kernel) rfl), ⟨by decide, by decide, by decide +kernel⟩, by decide⟩
theorem cv_RX4_36 : e_cV RX4 36 6 mX4_distanceOf 1 := ⟨"BiscuitLocks$Lock", Or.inl ⟨TX4, 4, by decide, rfl⟩, rfl, (e_w1 291 (by decide +kernel) rfl), (e_w1 292 (by decide +kernel) rfl), (e_w1 293 (by decide +kernel) rfl), cy_X4_distanceOf⟩
theorem cm_RX4_40 : e_cMa RX4 40 Lib.Math.max.name Lib.Math.max.code := ⟨(e_w1 299 (by decide +kernel) rfl), (e_w1 300 (by decide +kernel) rfl), (e_w1 23 (by decide +kernel) rfl), (e_w1 301 (by decide +kernel) rfl)⟩
theorem cv_RX4_46 : e_cV RX4 46 6 mX4_copyFrom 1 := ⟨"BiscuitLocks$Lock", Or.inl ⟨TX4, 4, by decide, rfl⟩, rfl, (e_w1 306 (by decide +kernel) rfl), (e_w1 307 (by decide +kernel) rfl), (e_w1 308 (by decide +kernel) rfl), cy_X4_copyFrom⟩
theorem cy_X4_turnUntilFitting : e_cY mX4_turnUntilFitting 2 := ⟨(e_w1 3 (by decide +kernel) rfl), (e_w1 316 (by decide +kernel) rfl), ⟨by decide, by decide, by decide +kernel⟩, by decide⟩
theorem cv_RX4_50 : e_cV RX4 50 6 mX4_turnUntilFitting 2 := ⟨"BiscuitLocks$Lock", Or.inl ⟨TX4, 4, by decide, rfl⟩, rfl, (e_w1 313 (by decide +kernel) rfl), (e_w1 315 (by decide +kernel) rfl), (e_w0 0 (by decide +kernel) rfl), cy_X4_turnUntilFitting⟩
theorem cm_RX4_53 : e_cMa RX4 53 Lib.Math.min.name Lib.Math.min.code := ⟨(e_w1 321 (by decide +kernel) rfl), (e_w1 245 (by decide +kernel) rfl), (e_w1 23 (by decide +kernel) rfl), (e_w1 246 (by decide +kernel) rfl)⟩
theorem cv_RX4_56 : e_cV RX4 56 6 mX4_turnBy 2 := ⟨"BiscuitLocks$Lock", Or.inl ⟨TX4, 4, by decide, rfl⟩, rfl, (e_w1 317 (by decide +kernel) rfl), (e_w1 318 (by decide +kernel) rfl), (e_w1 319 (by decide +kernel) rfl), cy_X4_turnBy⟩
theorem cy_X4_countFitting : e_cY mX4_countFitting 0 := ⟨(e_w1 3 (by decide +kernel) rfl), (e_w1 876 (by decide +kernel) rfl), ⟨by decide, by decide, by decide +kernel⟩, by decide⟩
theorem cv_RX4_59 : e_cV RX4 59 6 mX4_countFitting 0 := ⟨"BiscuitLocks$Lock", Or.inl ⟨TX4, 4, by decide, rfl⟩, rfl, (e_w1 873 (by decide +kernel) rfl), (e_w1 874 (by decide +kernel) rfl), (e_w1 875 (by decide +kernel) rfl), cy_X4_countFitting⟩
theorem cv_RX4_62 : e_cV RX4 62 6 mX4_hasMostCrumbs 0 := ⟨"BiscuitLocks$Lock", Or.inl ⟨TX4, 4, by decide, rfl⟩, rfl, (e_w1 877 (by decide +kernel) rfl), (e_w1 323 (by decide +kernel) rfl), (e_w1 324 (by decide +kernel) rfl), cy_X4_hasMostCrumbs⟩
theorem cy_X4_setPosition : e_cY mX4_setPosition 2 := ⟨(e_w1 3 (by decide +kernel) rfl), (e_w1 863 (by decide +kernel) rfl), ⟨by decide, by decide, by decide +kernel⟩, by decide⟩
theorem cv_RX4_66 : e_cV RX4 66 6 mX4_setPosition 2 := ⟨"BiscuitLocks$Lock", Or.inl ⟨TX4, 4, by decide, rfl⟩, rfl, (e_w1 860 (by decide +kernel) rfl), (e_w1 862 (by decide +kernel) rfl), (e_w0 10 (by decide +kernel) rfl), cy_X4_setPosition⟩
theorem co_RX6_3 : e_cO RX6 3 := ⟨(e_w1 155 (by decide +kernel) rfl), (e_w1 40 (by decide +kernel) rfl), (e_w1 41 (by decide +kernel) rfl)⟩
theorem nw_RX6_9 : e_cN RX6 9 1 4 [vN, vI 0, vI 0, vI 0] := ⟨RJ4, TJ4, by decide, rfl, (e_w1 156 (by decide +kernel) rfl), (e_w1 157 (by decide +kernel) rfl), (e_w1 7 (by decide +kernel) rfl), u_RJ4, by simp [e_wfS, e_wfV], tyJ4, tyJ4_ok, by decide +kernel⟩
theorem cy_J4_init_da8c8 : e_cY mJ4_init_da8c8 0 := ⟨(e_w1 7 (by decide +kernel) rfl), (e_w1 160 (by decide +kernel) rfl), ⟨by decide, by decide, by decide +kernel⟩, by decide⟩
theorem ci_RX6_11 : e_cI RX6 11 mJ4_init_da8c8 0 := ⟨rfl, rfl, rfl, (e_w1 158 (by decide +kernel) rfl), (e_w1 159 (by decide +kernel) rfl), cy_J4_init_da8c8⟩
theorem fp_RX6_12 : e_FP RX6 12 7 0 (.object "java/lang/StringBuilder") true := ⟨RX6, TX6, 3, by decide, rfl, by decide, (e_w1 189 (by decide +kernel) rfl), u_RX6, by decide +kernel, rfl, ⟨tyX6, tyX6_ok⟩, nmX6, fun h => by first | rfl | cases h⟩
theorem fp_RX6_18 : e_FP RX6 18 7 1 (.array .int) true := ⟨RX6, TX6, 3, by decide, rfl, by decide, (e_w1 191 (by decide +kernel) rfl), u_RX6, by decide +kernel, rfl, ⟨tyX6, tyX6_ok⟩, nmX6, fun h => by first | rfl | cases h⟩
theorem fp_RX6_22 : e_FP RX6 22 7 2 (.int) false := ⟨RX6, TX6, 3, by decide, rfl, by decide, (e_w1 193 (by decide +kernel) rfl), u_RX6, by decide +kernel, rfl, ⟨tyX6, tyX6_ok⟩, nmX6, fun h => by first | rfl | cases h⟩
theorem cy_X6_read : e_cY mX6_read 1 := ⟨(e_w1 5 (by decide +kernel) rfl), (e_w1 1249 (by decide +kernel) rfl), ⟨by decide, by decide, by decide +kernel⟩, by decide⟩
theorem cv_RX6_26 : e_cV RX6 26 7 mX6_read 1 := ⟨"BiscuitLocks$Script", Or.inl ⟨TX6, 3, by decide, rfl⟩, rfl, (e_w1 1246 (by decide +kernel) rfl), (e_w1 1247 (by decide +kernel) rfl), (e_w1 1248 (by decide +kernel) rfl), cy_X6_read⟩
theorem fl_RX6_22 : e_FL RX6 22 7 2 := ⟨RX6, TX6, 3, by decide, rfl, by decide, (e_w1 193 (by decide +kernel) rfl), u_RX6⟩
theorem fl_RX6_12 : e_FL RX6 12 7 0 := ⟨RX6, TX6, 3, by decide, rfl, by decide, (e_w1 189 (by decide +kernel) rfl), u_RX6⟩
theorem cy_J4_length_8abf5 : e_cY mJ4_length_8abf5 0 := ⟨(e_w1 7 (by decide +kernel) rfl), (e_w1 507 (by decide +kernel) rfl), ⟨by decide, by decide, by decide +kernel⟩, by decide⟩
theorem cv_RX6_30 : e_cV RX6 30 1 mJ4_length_8abf5 0 := ⟨"java/lang/StringBuilder", Or.inl ⟨TJ4, 4, by decide, rfl⟩, rfl, (e_w1 1257 (by decide +kernel) rfl), (e_w1 506 (by decide +kernel) rfl), (e_w1 1822 (by decide +kernel) rfl), cy_J4_length_8abf5⟩
theorem fc20_RX6_38 : e_FC RX6 38 20 1 := ⟨_, rfl, (e_w1 1846 (by decide +kernel) rfl)⟩
theorem cy_X6_countMatching : e_cY mX6_countMatching 2 := ⟨(e_w1 5 (by decide +kernel) rfl), (e_w1 1255 (by decide +kernel) rfl), ⟨by decide, by decide, by decide +kernel⟩, by decide⟩
theorem cv_RX6_44 : e_cV RX6 44 7 mX6_countMatching 2 := ⟨"BiscuitLocks$Script", Or.inl ⟨TX6, 3, by decide, rfl⟩, rfl, (e_w1 1252 (by decide +kernel) rfl), (e_w1 1254 (by decide +kernel) rfl), (e_w0 20 (by decide +kernel) rfl), cy_X6_countMatching⟩
theorem cy_J0_length_8abf5 : e_cY mJ0_length_8abf5 0 := ⟨(e_w1 8 (by decide +kernel) rfl), (e_w1 419 (by decide +kernel) rfl), ⟨by decide, by decide, by decide +kernel⟩, by decide⟩
theorem cv_RX6_48 : e_cV RX6 48 22 mJ0_length_8abf5 0 := ⟨"java/lang/String", Or.inr ⟨by decide, by decide, rfl⟩, rfl, (e_w1 1256 (by decide +kernel) rfl), (e_w1 417 (by decide +kernel) rfl), (e_w1 418 (by decide +kernel) rfl), cy_J0_length_8abf5⟩
theorem cy_X6_canEndAt : e_cY mX6_canEndAt 1 := ⟨(e_w1 5 (by decide +kernel) rfl), (e_w1 1281 (by decide +kernel) rfl), ⟨by decide, by decide, by decide +kernel⟩, by decide⟩
theorem cv_RX6_51 : e_cV RX6 51 7 mX6_canEndAt 1 := ⟨"BiscuitLocks$Script", Or.inl ⟨TX6, 3, by decide, rfl⟩, rfl, (e_w1 1278 (by decide +kernel) rfl), (e_w1 1280 (by decide +kernel) rfl), (e_w0 21 (by decide +kernel) rfl), cy_X6_canEndAt⟩
theorem cy_X6_readNumbers : e_cY mX6_readNumbers 2 := ⟨(e_w1 5 (by decide +kernel) rfl), (e_w1 1285 (by decide +kernel) rfl), ⟨by decide, by decide, by decide +kernel⟩, by decide⟩
theorem cv_RX6_55 : e_cV RX6 55 7 mX6_readNumbers 2 := ⟨"BiscuitLocks$Script", Or.inl ⟨TX6, 3, by decide, rfl⟩, rfl, (e_w1 1282 (by decide +kernel) rfl), (e_w1 1284 (by decide +kernel) rfl), (e_w0 22 (by decide +kernel) rfl), cy_X6_readNumbers⟩
theorem cm_RX6_59 : e_cMa RX6 59 Lib.Math.max.name Lib.Math.max.code := ⟨(e_w1 1286 (by decide +kernel) rfl), (e_w1 300 (by decide +kernel) rfl), (e_w1 23 (by decide +kernel) rfl), (e_w1 301 (by decide +kernel) rfl)⟩
theorem cy_J4_charAt_5068e : e_cY mJ4_charAt_5068e 1 := ⟨(e_w1 7 (by decide +kernel) rfl), (e_w1 1219 (by decide +kernel) rfl), ⟨by decide, by decide, by decide +kernel⟩, by decide⟩
theorem cv_RX6_65 : e_cV RX6 65 1 mJ4_charAt_5068e 1 := ⟨"java/lang/StringBuilder", Or.inl ⟨TJ4, 4, by decide, rfl⟩, rfl, (e_w1 1274 (by decide +kernel) rfl), (e_w1 1217 (by decide +kernel) rfl), (e_w1 1218 (by decide +kernel) rfl), cy_J4_charAt_5068e⟩
theorem cm_RX6_69 : e_cMa RX6 69 Lib.Math.min.name Lib.Math.min.code := ⟨(e_w1 1258 (by decide +kernel) rfl), (e_w1 245 (by decide +kernel) rfl), (e_w1 23 (by decide +kernel) rfl), (e_w1 246 (by decide +kernel) rfl)⟩
theorem cy_J0_charAt_5068e : e_cY mJ0_charAt_5068e 1 := ⟨(e_w1 8 (by decide +kernel) rfl), (e_w1 1262 (by decide +kernel) rfl), ⟨by decide, by decide, by decide +kernel⟩, by decide⟩
theorem cv_RX6_72 : e_cV RX6 72 22 mJ0_charAt_5068e 1 := ⟨"java/lang/String", Or.inr ⟨by decide, by decide, rfl⟩, rfl, (e_w1 1259 (by decide +kernel) rfl), (e_w1 1260 (by decide +kernel) rfl), (e_w1 1261 (by decide +kernel) rfl), cy_J0_charAt_5068e⟩
theorem cy_X6_isOf : e_cY mX6_isOf 2 := ⟨(e_w1 5 (by decide +kernel) rfl), (e_w1 1277 (by decide +kernel) rfl), ⟨by decide, by decide, by decide +kernel⟩, by decide⟩
theorem cs_RX6_73 : e_cS RX6 73 mX6_isOf 2 := ⟨rfl, (e_w1 1275 (by decide +kernel) rfl), (e_w1 1276 (by decide +kernel) rfl), cy_X6_isOf⟩
theorem fl_RX6_18 : e_FL RX6 18 7 1 := ⟨RX6, TX6, 3, by decide, rfl, by decide, (e_w1 191 (by decide +kernel) rfl), u_RX6⟩
theorem co_RX7_1 : e_cO RX7 1 := ⟨(e_w1 39 (by decide +kernel) rfl), (e_w1 40 (by decide +kernel) rfl), (e_w1 41 (by decide +kernel) rfl)⟩
theorem nw_RX7_7 : e_cN RX7 7 5 14 [vN, vN, vN, vN, vN, vI 0, vI 0, vI 0, vI 0, vI 0, vI 0, vI 0, vI 0, vI 0] := ⟨RX3, TX3, by decide, rfl, (e_w1 42 (by decide +kernel) rfl), (e_w1 43 (by decide +kernel) rfl), (e_w1 2 (by decide +kernel) rfl), u_RX3, by simp [e_wfS, e_wfV], tyX3, tyX3_ok, by decide +kernel⟩
theorem ci_RX7_9 : e_cI RX7 9 mX3_init 0 := ⟨rfl, rfl, rfl, (e_w1 44 (by decide +kernel) rfl), (e_w1 45 (by decide +kernel) rfl), cy_X3_init⟩
theorem fp_RX7_10 : e_FP RX7 10 8 0 (.object "BiscuitLocks$House") true := ⟨RX7, TX7, 9, by decide, rfl, by decide, (e_w1 204 (by decide +kernel) rfl), u_RX7, by decide +kernel, rfl, ⟨tyX7, tyX7_ok⟩, nmX7, fun h => by first | rfl | cases h⟩
theorem fp_RX7_16 : e_FP RX7 16 8 1 (.object "BiscuitLocks$House") true := ⟨RX7, TX7, 9, by decide, rfl, by decide, (e_w1 205 (by decide +kernel) rfl), u_RX7, by decide +kernel, rfl, ⟨tyX7, tyX7_ok⟩, nmX7, fun h => by first | rfl | cases h⟩
theorem fp_RX7_19 : e_FP RX7 19 8 2 (.object "BiscuitLocks$House") true := ⟨RX7, TX7, 9, by decide, rfl, by decide, (e_w1 206 (by decide +kernel) rfl), u_RX7, by decide +kernel, rfl, ⟨tyX7, tyX7_ok⟩, nmX7, fun h => by first | rfl | cases h⟩
theorem nw_RX7_22 : e_cN RX7 22 4 3 [vN, vI 0, vI 0] := ⟨RX2, TX2, by decide, rfl, (e_w1 130 (by decide +kernel) rfl), (e_w1 131 (by decide +kernel) rfl), (e_w1 4 (by decide +kernel) rfl), u_RX2, by simp [e_wfS, e_wfV], tyX2, tyX2_ok, by decide +kernel⟩
theorem cy_X2_init : e_cY mX2_init 0 := ⟨(e_w1 4 (by decide +kernel) rfl), (e_w1 134 (by decide +kernel) rfl), ⟨by decide, by decide, by decide +kernel⟩, by decide⟩
theorem ci_RX7_24 : e_cI RX7 24 mX2_init 0 := ⟨rfl, rfl, rfl, (e_w1 132 (by decide +kernel) rfl), (e_w1 133 (by decide +kernel) rfl), cy_X2_init⟩
theorem fp_RX7_25 : e_FP RX7 25 8 3 (.object "BiscuitLocks$History") true := ⟨RX7, TX7, 9, by decide, rfl, by decide, (e_w1 207 (by decide +kernel) rfl), u_RX7, by decide +kernel, rfl, ⟨tyX7, tyX7_ok⟩, nmX7, fun h => by first | rfl | cases h⟩
theorem nw_RX7_29 : e_cN RX7 29 7 3 [vN, vN, vI 0] := ⟨RX6, TX6, by decide, rfl, (e_w1 150 (by decide +kernel) rfl), (e_w1 151 (by decide +kernel) rfl), (e_w1 5 (by decide +kernel) rfl), u_RX6, by simp [e_wfS, e_wfV], tyX6, tyX6_ok, by decide +kernel⟩
theorem cy_X6_init : e_cY mX6_init 0 := ⟨(e_w1 5 (by decide +kernel) rfl), (e_w1 154 (by decide +kernel) rfl), ⟨by decide, by decide, by decide +kernel⟩, by decide⟩
theorem cn_RX7_31 : e_cIN e_WN RX7 31 mX6_init 0 := ⟨rfl, rfl, rfl, ⟨"BiscuitLocks", by decide +kernel⟩, (e_w1 153 (by decide +kernel) rfl), cy_X6_init⟩
theorem fp_RX7_32 : e_FP RX7 32 8 4 (.object "BiscuitLocks$Script") true := ⟨RX7, TX7, 9, by decide, rfl, by decide, (e_w1 208 (by decide +kernel) rfl), u_RX7, by decide +kernel, rfl, ⟨tyX7, tyX7_ok⟩, nmX7, fun h => by first | rfl | cases h⟩
theorem nw_RX7_36 : e_cN RX7 36 1 4 [vN, vI 0, vI 0, vI 0] := ⟨RJ4, TJ4, by decide, rfl, (e_w1 202 (by decide +kernel) rfl), (e_w1 157 (by decide +kernel) rfl), (e_w1 7 (by decide +kernel) rfl), u_RJ4, by simp [e_wfS, e_wfV], tyJ4, tyJ4_ok, by decide +kernel⟩
theorem ci_RX7_38 : e_cI RX7 38 mJ4_init_da8c8 0 := ⟨rfl, rfl, rfl, (e_w1 203 (by decide +kernel) rfl), (e_w1 159 (by decide +kernel) rfl), cy_J4_init_da8c8⟩
theorem fp_RX7_39 : e_FP RX7 39 8 5 (.object "java/lang/StringBuilder") true := ⟨RX7, TX7, 9, by decide, rfl, by decide, (e_w1 209 (by decide +kernel) rfl), u_RX7, by decide +kernel, rfl, ⟨tyX7, tyX7_ok⟩, nmX7, fun h => by first | rfl | cases h⟩
theorem fp_RX7_43 : e_FP RX7 43 8 6 (.boolean) false := ⟨RX7, TX7, 9, by decide, rfl, by decide, (e_w1 210 (by decide +kernel) rfl), u_RX7, by decide +kernel, rfl, ⟨tyX7, tyX7_ok⟩, nmX7, fun h => by first | rfl | cases h⟩
theorem fp_RX7_47 : e_FP RX7 47 8 7 (.int) false := ⟨RX7, TX7, 9, by decide, rfl, by decide, (e_w1 211 (by decide +kernel) rfl), u_RX7, by decide +kernel, rfl, ⟨tyX7, tyX7_ok⟩, nmX7, fun h => by first | rfl | cases h⟩
theorem fp_RX7_51 : e_FP RX7 51 8 8 (.int) false := ⟨RX7, TX7, 9, by decide, rfl, by decide, (e_w1 212 (by decide +kernel) rfl), u_RX7, by decide +kernel, rfl, ⟨tyX7, tyX7_ok⟩, nmX7, fun h => by first | rfl | cases h⟩
theorem fs_RX7_54 : Cond.fieldLink RX7 54 "BiscuitLocks$Command" "DOOR" "LBiscuitLocks$Command;" ∈ e_WS := (e_w1 714 (by decide +kernel) rfl)
theorem cy_X7_change : e_cY mX7_change 5 := ⟨(e_w1 1 (by decide +kernel) rfl), (e_w1 719 (by decide +kernel) rfl), ⟨by decide, by decide, by decide +kernel⟩, by decide⟩
theorem cv_RX7_60 : e_cV RX7 60 8 mX7_change 5 := ⟨"BiscuitLocks", Or.inl ⟨TX7, 9, by decide, rfl⟩, rfl, (e_w1 716 (by decide +kernel) rfl), (e_w1 718 (by decide +kernel) rfl), (e_w0 2 (by decide +kernel) rfl), cy_X7_change⟩
theorem fs_RX7_64 : Cond.fieldLink RX7 64 "BiscuitLocks$Command" "TURN" "LBiscuitLocks$Command;" ∈ e_WS := (e_w1 917 (by decide +kernel) rfl)
theorem fs_RX7_67 : Cond.fieldLink RX7 67 "BiscuitLocks$Command" "TRY" "LBiscuitLocks$Command;" ∈ e_WS := (e_w1 926 (by decide +kernel) rfl)
theorem fs_RX7_70 : Cond.fieldLink RX7 70 "BiscuitLocks$Command" "SHUT" "LBiscuitLocks$Command;" ∈ e_WS := (e_w1 936 (by decide +kernel) rfl)
theorem fs_RX7_73 : Cond.fieldLink RX7 73 "BiscuitLocks$Command" "SET" "LBiscuitLocks$Command;" ∈ e_WS := (e_w1 945 (by decide +kernel) rfl)
theorem fs_RX7_76 : Cond.fieldLink RX7 76 "BiscuitLocks$Command" "DAMP" "LBiscuitLocks$Command;" ∈ e_WS := (e_w1 954 (by decide +kernel) rfl)
theorem fs_RX7_79 : Cond.fieldLink RX7 79 "BiscuitLocks$Command" "BAKE" "LBiscuitLocks$Command;" ∈ e_WS := (e_w1 963 (by decide +kernel) rfl)
theorem fs_RX7_82 : Cond.fieldLink RX7 82 "BiscuitLocks$Command" "HOURS" "LBiscuitLocks$Command;" ∈ e_WS := (e_w1 972 (by decide +kernel) rfl)
theorem fl_RX7_10 : e_FL RX7 10 8 0 := ⟨RX7, TX7, 9, by decide, rfl, by decide, (e_w1 204 (by decide +kernel) rfl), u_RX7⟩
theorem cy_X3_refusalOf : e_cY mX3_refusalOf 5 := ⟨(e_w1 2 (by decide +kernel) rfl), (e_w1 723 (by decide +kernel) rfl), ⟨by decide, by decide, by decide +kernel⟩, by decide⟩
theorem cv_RX7_85 : e_cV RX7 85 5 mX3_refusalOf 5 := ⟨"BiscuitLocks$House", Or.inl ⟨TX3, 14, by decide, rfl⟩, rfl, (e_w1 720 (by decide +kernel) rfl), (e_w1 721 (by decide +kernel) rfl), (e_w1 722 (by decide +kernel) rfl), cy_X3_refusalOf⟩
theorem cy_X7_throwFor : e_cY mX7_throwFor 1 := ⟨(e_w1 1 (by decide +kernel) rfl), (e_w1 789 (by decide +kernel) rfl), ⟨by decide, by decide, by decide +kernel⟩, by decide⟩
theorem cs_RX7_89 : e_cS RX7 89 mX7_throwFor 1 := ⟨rfl, (e_w1 787 (by decide +kernel) rfl), (e_w1 788 (by decide +kernel) rfl), cy_X7_throwFor⟩
theorem fl_RX7_25 : e_FL RX7 25 8 3 := ⟨RX7, TX7, 9, by decide, rfl, by decide, (e_w1 207 (by decide +kernel) rfl), u_RX7⟩
theorem cy_X2_push : e_cY mX2_push 1 := ⟨(e_w1 4 (by decide +kernel) rfl), (e_w1 846 (by decide +kernel) rfl), ⟨by decide, by decide, by decide +kernel⟩, by decide⟩
theorem cv_RX7_93 : e_cV RX7 93 4 mX2_push 1 := ⟨"BiscuitLocks$History", Or.inl ⟨TX2, 3, by decide, rfl⟩, rfl, (e_w1 843 (by decide +kernel) rfl), (e_w1 844 (by decide +kernel) rfl), (e_w1 845 (by decide +kernel) rfl), cy_X2_push⟩
theorem cy_X3_carryOut : e_cY mX3_carryOut 5 := ⟨(e_w1 2 (by decide +kernel) rfl), (e_w1 851 (by decide +kernel) rfl), ⟨by decide, by decide, by decide +kernel⟩, by decide⟩
theorem cv_RX7_97 : e_cV RX7 97 5 mX3_carryOut 5 := ⟨"BiscuitLocks$House", Or.inl ⟨TX3, 14, by decide, rfl⟩, rfl, (e_w1 848 (by decide +kernel) rfl), (e_w1 849 (by decide +kernel) rfl), (e_w1 850 (by decide +kernel) rfl), cy_X3_carryOut⟩
theorem fs_RX7_100 : Cond.fieldLink RX7 100 "BiscuitLocks$1" "$SwitchMap$BiscuitLocks$Refusal" "[I" ∈ e_WS := (e_w1 790 (by decide +kernel) rfl)
theorem cu_RX7_106 : e_cU RX7 106 21 ⟨"BiscuitLocks$Refusal", "ordinal", "()I"⟩ mJx29ce0_ordinal_8abf5 0 := ⟨"BiscuitLocks$Refusal", Or.inr ⟨by decide, by decide, rfl⟩, rfl, (e_w1 792 (by decide +kernel) rfl), (e_w1 793 (by decide +kernel) rfl), (e_w1 730 (by decide +kernel) rfl), (e_w1 794 (by decide +kernel) rfl), rfl, cy_Jx29ce0_ordinal_8abf5⟩
theorem fl_RX7_134 : e_FL RX7 134 5 5 := ⟨RX3, TX3, 14, by decide, rfl, by decide, (e_w1 87 (by decide +kernel) rfl), u_RX3⟩
theorem cy_X7_lockOf : e_cY mX7_lockOf 1 := ⟨(e_w1 1 (by decide +kernel) rfl), (e_w1 984 (by decide +kernel) rfl), ⟨by decide, by decide, by decide +kernel⟩, by decide⟩
theorem cv_RX7_137 : e_cV RX7 137 8 mX7_lockOf 1 := ⟨"BiscuitLocks", Or.inl ⟨TX7, 9, by decide, rfl⟩, rfl, (e_w1 981 (by decide +kernel) rfl), (e_w1 983 (by decide +kernel) rfl), (e_w0 16 (by decide +kernel) rfl), cy_X7_lockOf⟩
theorem cy_X7_requireDial : e_cY mX7_requireDial 1 := ⟨(e_w1 1 (by decide +kernel) rfl), (e_w1 989 (by decide +kernel) rfl), ⟨by decide, by decide, by decide +kernel⟩, by decide⟩
theorem cs_RX7_141 : e_cS RX7 141 mX7_requireDial 1 := ⟨rfl, (e_w1 987 (by decide +kernel) rfl), (e_w1 988 (by decide +kernel) rfl), cy_X7_requireDial⟩
theorem fl_RX7_145 : e_FL RX7 145 6 0 := ⟨RX4, TX4, 4, by decide, rfl, by decide, (e_w1 56 (by decide +kernel) rfl), u_RX4⟩
theorem fl_RX7_150 : e_FL RX7 150 6 1 := ⟨RX4, TX4, 4, by decide, rfl, by decide, (e_w1 58 (by decide +kernel) rfl), u_RX4⟩
theorem fl_RX7_153 : e_FL RX7 153 6 2 := ⟨RX4, TX4, 4, by decide, rfl, by decide, (e_w1 61 (by decide +kernel) rfl), u_RX4⟩
theorem cv_RX7_156 : e_cV RX7 156 6 mX4_hasMostCrumbs 0 := ⟨"BiscuitLocks$Lock", Or.inl ⟨TX4, 4, by decide, rfl⟩, rfl, (e_w1 322 (by decide +kernel) rfl), (e_w1 323 (by decide +kernel) rfl), (e_w1 324 (by decide +kernel) rfl), cy_X4_hasMostCrumbs⟩
theorem fl_RX7_160 : e_FL RX7 160 6 3 := ⟨RX4, TX4, 4, by decide, rfl, by decide, (e_w1 64 (by decide +kernel) rfl), u_RX4⟩
theorem cv_RX7_163 : e_cV RX7 163 6 mX4_playNow 0 := ⟨"BiscuitLocks$Lock", Or.inl ⟨TX4, 4, by decide, rfl⟩, rfl, (e_w1 1027 (by decide +kernel) rfl), (e_w1 296 (by decide +kernel) rfl), (e_w1 297 (by decide +kernel) rfl), cy_X4_playNow⟩
theorem cv_RX7_166 : e_cV RX7 166 6 mX4_countFitting 0 := ⟨"BiscuitLocks$Lock", Or.inl ⟨TX4, 4, by decide, rfl⟩, rfl, (e_w1 1035 (by decide +kernel) rfl), (e_w1 874 (by decide +kernel) rfl), (e_w1 875 (by decide +kernel) rfl), cy_X4_countFitting⟩
theorem cv_RX7_169 : e_cV RX7 169 6 mX4_stepsByDistances 0 := ⟨"BiscuitLocks$Lock", Or.inl ⟨TX4, 4, by decide, rfl⟩, rfl, (e_w1 287 (by decide +kernel) rfl), (e_w1 288 (by decide +kernel) rfl), (e_w1 289 (by decide +kernel) rfl), cy_X4_stepsByDistances⟩
theorem fl_RX7_16 : e_FL RX7 16 8 1 := ⟨RX7, TX7, 9, by decide, rfl, by decide, (e_w1 205 (by decide +kernel) rfl), u_RX7⟩
theorem fl_RX7_172 : e_FL RX7 172 5 0 := ⟨RX3, TX3, 14, by decide, rfl, by decide, (e_w1 77 (by decide +kernel) rfl), u_RX3⟩
theorem cy_X4_stepsByTurning : e_cY mX4_stepsByTurning 1 := ⟨(e_w1 3 (by decide +kernel) rfl), (e_w1 305 (by decide +kernel) rfl), ⟨by decide, by decide, by decide +kernel⟩, by decide⟩
theorem cv_RX7_176 : e_cV RX7 176 6 mX4_stepsByTurning 1 := ⟨"BiscuitLocks$Lock", Or.inl ⟨TX4, 4, by decide, rfl⟩, rfl, (e_w1 302 (by decide +kernel) rfl), (e_w1 303 (by decide +kernel) rfl), (e_w1 304 (by decide +kernel) rfl), cy_X4_stepsByTurning⟩
theorem cv_RX7_180 : e_cV RX7 180 5 mX3_hasDoor 1 := ⟨"BiscuitLocks$House", Or.inl ⟨TX3, 14, by decide, rfl⟩, rfl, (e_w1 985 (by decide +kernel) rfl), (e_w1 753 (by decide +kernel) rfl), (e_w1 754 (by decide +kernel) rfl), cy_X3_hasDoor⟩
theorem cs_RX7_186 : e_cS RX7 186 mX7_isDial 1 := ⟨rfl, (e_w1 990 (by decide +kernel) rfl), (e_w1 757 (by decide +kernel) rfl), cy_X7_isDial⟩
theorem cv_RX7_191 : e_cV RX7 191 6 mX4_copyFrom 1 := ⟨"BiscuitLocks$Lock", Or.inl ⟨TX4, 4, by decide, rfl⟩, rfl, (e_w1 1065 (by decide +kernel) rfl), (e_w1 307 (by decide +kernel) rfl), (e_w1 308 (by decide +kernel) rfl), cy_X4_copyFrom⟩
theorem cv_RX7_195 : e_cV RX7 195 6 mX4_takeTry 0 := ⟨"BiscuitLocks$Lock", Or.inl ⟨TX4, 4, by decide, rfl⟩, rfl, (e_w1 1066 (by decide +kernel) rfl), (e_w1 870 (by decide +kernel) rfl), (e_w1 871 (by decide +kernel) rfl), cy_X4_takeTry⟩
theorem cv_RX7_205 : e_cV RX7 205 5 mX3_copyFrom 1 := ⟨"BiscuitLocks$House", Or.inl ⟨TX3, 14, by decide, rfl⟩, rfl, (e_w1 699 (by decide +kernel) rfl), (e_w1 700 (by decide +kernel) rfl), (e_w1 701 (by decide +kernel) rfl), cy_X3_copyFrom⟩
theorem cv_RX7_207 : e_cV RX7 207 5 mX3_letHoursPass 1 := ⟨"BiscuitLocks$House", Or.inl ⟨TX3, 14, by decide, rfl⟩, rfl, (e_w1 1091 (by decide +kernel) rfl), (e_w1 888 (by decide +kernel) rfl), (e_w1 889 (by decide +kernel) rfl), cy_X3_letHoursPass⟩
theorem cv_RX7_211 : e_cV RX7 211 5 mX3_letHourPass 0 := ⟨"BiscuitLocks$House", Or.inl ⟨TX3, 14, by decide, rfl⟩, rfl, (e_w1 1099 (by decide +kernel) rfl), (e_w1 892 (by decide +kernel) rfl), (e_w1 893 (by decide +kernel) rfl), cy_X3_letHourPass⟩
theorem cy_X7_requireOven : e_cY mX7_requireOven 1 := ⟨(e_w1 1 (by decide +kernel) rfl), (e_w1 1110 (by decide +kernel) rfl), ⟨by decide, by decide, by decide +kernel⟩, by decide⟩
theorem cs_RX7_216 : e_cS RX7 216 mX7_requireOven 1 := ⟨rfl, (e_w1 1108 (by decide +kernel) rfl), (e_w1 1109 (by decide +kernel) rfl), cy_X7_requireOven⟩
theorem fl_RX7_219 : e_FL RX7 219 5 1 := ⟨RX3, TX3, 14, by decide, rfl, by decide, (e_w1 79 (by decide +kernel) rfl), u_RX3⟩
theorem fl_RX7_224 : e_FL RX7 224 5 2 := ⟨RX3, TX3, 14, by decide, rfl, by decide, (e_w1 81 (by decide +kernel) rfl), u_RX3⟩
theorem cv_RX7_227 : e_cV RX7 227 5 mX3_isInOven 1 := ⟨"BiscuitLocks$House", Or.inl ⟨TX3, 14, by decide, rfl⟩, rfl, (e_w1 1128 (by decide +kernel) rfl), (e_w1 762 (by decide +kernel) rfl), (e_w1 763 (by decide +kernel) rfl), cy_X3_isInOven⟩
theorem cs_RX7_230 : e_cS RX7 230 mX7_isOven 1 := ⟨rfl, (e_w1 1111 (by decide +kernel) rfl), (e_w1 781 (by decide +kernel) rfl), cy_X7_isOven⟩
theorem cy_X3_rankByCrumbs : e_cY mX3_rankByCrumbs 1 := ⟨(e_w1 2 (by decide +kernel) rfl), (e_w1 1139 (by decide +kernel) rfl), ⟨by decide, by decide, by decide +kernel⟩, by decide⟩
theorem cv_RX7_235 : e_cV RX7 235 5 mX3_rankByCrumbs 1 := ⟨"BiscuitLocks$House", Or.inl ⟨TX3, 14, by decide, rfl⟩, rfl, (e_w1 1136 (by decide +kernel) rfl), (e_w1 1137 (by decide +kernel) rfl), (e_w1 1138 (by decide +kernel) rfl), cy_X3_rankByCrumbs⟩
theorem cy_X3_countRemembered : e_cY mX3_countRemembered 0 := ⟨(e_w1 2 (by decide +kernel) rfl), (e_w1 243 (by decide +kernel) rfl), ⟨by decide, by decide, by decide +kernel⟩, by decide⟩
theorem cv_RX7_240 : e_cV RX7 240 5 mX3_countRemembered 0 := ⟨"BiscuitLocks$House", Or.inl ⟨TX3, 14, by decide, rfl⟩, rfl, (e_w1 240 (by decide +kernel) rfl), (e_w1 241 (by decide +kernel) rfl), (e_w1 242 (by decide +kernel) rfl), cy_X3_countRemembered⟩
theorem cy_X7_requireRemembered : e_cY mX7_requireRemembered 1 := ⟨(e_w1 1 (by decide +kernel) rfl), (e_w1 1156 (by decide +kernel) rfl), ⟨by decide, by decide, by decide +kernel⟩, by decide⟩
theorem cv_RX7_243 : e_cV RX7 243 8 mX7_requireRemembered 1 := ⟨"BiscuitLocks", Or.inl ⟨TX7, 9, by decide, rfl⟩, rfl, (e_w1 1153 (by decide +kernel) rfl), (e_w1 1155 (by decide +kernel) rfl), (e_w0 18 (by decide +kernel) rfl), cy_X7_requireRemembered⟩
theorem fl_RX7_246 : e_FL RX7 246 5 3 := ⟨RX3, TX3, 14, by decide, rfl, by decide, (e_w1 83 (by decide +kernel) rfl), u_RX3⟩
theorem fl_RX7_249 : e_FL RX7 249 5 4 := ⟨RX3, TX3, 14, by decide, rfl, by decide, (e_w1 85 (by decide +kernel) rfl), u_RX3⟩
theorem cv_RX7_255 : e_cV RX7 255 5 mX3_countShut 0 := ⟨"BiscuitLocks$House", Or.inl ⟨TX3, 14, by decide, rfl⟩, rfl, (e_w1 251 (by decide +kernel) rfl), (e_w1 252 (by decide +kernel) rfl), (e_w1 253 (by decide +kernel) rfl), cy_X3_countShut⟩
theorem cy_X3_countShutByAccounts : e_cY mX3_countShutByAccounts 0 := ⟨(e_w1 2 (by decide +kernel) rfl), (e_w1 262 (by decide +kernel) rfl), ⟨by decide, by decide, by decide +kernel⟩, by decide⟩
theorem cv_RX7_258 : e_cV RX7 258 5 mX3_countShutByAccounts 0 := ⟨"BiscuitLocks$House", Or.inl ⟨TX3, 14, by decide, rfl⟩, rfl, (e_w1 259 (by decide +kernel) rfl), (e_w1 260 (by decide +kernel) rfl), (e_w1 261 (by decide +kernel) rfl), cy_X3_countShutByAccounts⟩
theorem fl_RX7_261 : e_FL RX7 261 5 6 := ⟨RX3, TX3, 14, by decide, rfl, by decide, (e_w1 89 (by decide +kernel) rfl), u_RX3⟩
theorem fl_RX7_264 : e_FL RX7 264 5 7 := ⟨RX3, TX3, 14, by decide, rfl, by decide, (e_w1 91 (by decide +kernel) rfl), u_RX3⟩
theorem fl_RX7_267 : e_FL RX7 267 5 8 := ⟨RX3, TX3, 14, by decide, rfl, by decide, (e_w1 93 (by decide +kernel) rfl), u_RX3⟩
theorem fl_RX7_270 : e_FL RX7 270 5 9 := ⟨RX3, TX3, 14, by decide, rfl, by decide, (e_w1 95 (by decide +kernel) rfl), u_RX3⟩
theorem fl_RX7_273 : e_FL RX7 273 5 13 := ⟨RX3, TX3, 14, by decide, rfl, by decide, (e_w1 100 (by decide +kernel) rfl), u_RX3⟩
theorem fl_RX7_39 : e_FL RX7 39 8 5 := ⟨RX7, TX7, 9, by decide, rfl, by decide, (e_w1 209 (by decide +kernel) rfl), u_RX7⟩
theorem cy_J4_setLength_d00df : e_cY mJ4_setLength_d00df 1 := ⟨(e_w1 7 (by decide +kernel) rfl), (e_w1 333 (by decide +kernel) rfl), ⟨by decide, by decide, by decide +kernel⟩, by decide⟩
theorem cv_RX7_283 : e_cV RX7 283 1 mJ4_setLength_d00df 1 := ⟨"java/lang/StringBuilder", Or.inl ⟨TJ4, 4, by decide, rfl⟩, rfl, (e_w1 330 (by decide +kernel) rfl), (e_w1 331 (by decide +kernel) rfl), (e_w1 332 (by decide +kernel) rfl), cy_J4_setLength_d00df⟩
theorem cy_X7_appendPositions : e_cY mX7_appendPositions 1 := ⟨(e_w1 1 (by decide +kernel) rfl), (e_w1 1207 (by decide +kernel) rfl), ⟨by decide, by decide, by decide +kernel⟩, by decide⟩
theorem cv_RX7_286 : e_cV RX7 286 8 mX7_appendPositions 1 := ⟨"BiscuitLocks", Or.inl ⟨TX7, 9, by decide, rfl⟩, rfl, (e_w1 1204 (by decide +kernel) rfl), (e_w1 1206 (by decide +kernel) rfl), (e_w0 19 (by decide +kernel) rfl), cy_X7_appendPositions⟩
theorem cy_J4_append_cf468 : e_cY mJ4_append_cf468 1 := ⟨(e_w1 7 (by decide +kernel) rfl), (e_w1 674 (by decide +kernel) rfl), ⟨by decide, by decide, by decide +kernel⟩, by decide⟩
theorem cv_RX7_290 : e_cV RX7 290 1 mJ4_append_cf468 1 := ⟨"java/lang/StringBuilder", Or.inl ⟨TJ4, 4, by decide, rfl⟩, rfl, (e_w1 671 (by decide +kernel) rfl), (e_w1 672 (by decide +kernel) rfl), (e_w1 673 (by decide +kernel) rfl), cy_J4_append_cf468⟩
theorem cy_J4_append_bf812 : e_cY mJ4_append_bf812 1 := ⟨(e_w1 7 (by decide +kernel) rfl), (e_w1 462 (by decide +kernel) rfl), ⟨by decide, by decide, by decide +kernel⟩, by decide⟩
theorem cv_RX7_294 : e_cV RX7 294 1 mJ4_append_bf812 1 := ⟨"java/lang/StringBuilder", Or.inl ⟨TJ4, 4, by decide, rfl⟩, rfl, (e_w1 693 (by decide +kernel) rfl), (e_w1 460 (by decide +kernel) rfl), (e_w1 461 (by decide +kernel) rfl), cy_J4_append_bf812⟩
theorem cv_RX7_297 : e_cV RX7 297 1 mJ4_length_8abf5 0 := ⟨"java/lang/StringBuilder", Or.inl ⟨TJ4, 4, by decide, rfl⟩, rfl, (e_w1 694 (by decide +kernel) rfl), (e_w1 506 (by decide +kernel) rfl), (e_w1 1822 (by decide +kernel) rfl), cy_J4_length_8abf5⟩
theorem cv_RX7_302 : e_cV RX7 302 1 mJ4_charAt_5068e 1 := ⟨"java/lang/StringBuilder", Or.inl ⟨TJ4, 4, by decide, rfl⟩, rfl, (e_w1 1216 (by decide +kernel) rfl), (e_w1 1217 (by decide +kernel) rfl), (e_w1 1218 (by decide +kernel) rfl), cy_J4_charAt_5068e⟩
theorem fl_RX7_32 : e_FL RX7 32 8 4 := ⟨RX7, TX7, 9, by decide, rfl, by decide, (e_w1 208 (by decide +kernel) rfl), u_RX7⟩
theorem fl_RX7_308 : e_FL RX7 308 7 0 := ⟨RX6, TX6, 3, by decide, rfl, by decide, (e_w1 190 (by decide +kernel) rfl), u_RX6⟩
theorem cy_X6_countCommands : e_cY mX6_countCommands 0 := ⟨(e_w1 5 (by decide +kernel) rfl), (e_w1 1245 (by decide +kernel) rfl), ⟨by decide, by decide, by decide +kernel⟩, by decide⟩
theorem cv_RX7_313 : e_cV RX7 313 7 mX6_countCommands 0 := ⟨"BiscuitLocks$Script", Or.inl ⟨TX6, 3, by decide, rfl⟩, rfl, (e_w1 1242 (by decide +kernel) rfl), (e_w1 1243 (by decide +kernel) rfl), (e_w1 1244 (by decide +kernel) rfl), cy_X6_countCommands⟩
theorem fl_RX7_316 : e_FL RX7 316 7 2 := ⟨RX6, TX6, 3, by decide, rfl, by decide, (e_w1 194 (by decide +kernel) rfl), u_RX6⟩
theorem cy_X7_carryOutCommands : e_cY mX7_carryOutCommands 1 := ⟨(e_w1 1 (by decide +kernel) rfl), (e_w1 1291 (by decide +kernel) rfl), ⟨by decide, by decide, by decide +kernel⟩, by decide⟩
theorem cv_RX7_321 : e_cV RX7 321 8 mX7_carryOutCommands 1 := ⟨"BiscuitLocks", Or.inl ⟨TX7, 9, by decide, rfl⟩, rfl, (e_w1 1288 (by decide +kernel) rfl), (e_w1 1290 (by decide +kernel) rfl), (e_w0 23 (by decide +kernel) rfl), cy_X7_carryOutCommands⟩
theorem fl_RX7_326 : e_FL RX7 326 7 1 := ⟨RX6, TX6, 3, by decide, rfl, by decide, (e_w1 192 (by decide +kernel) rfl), u_RX6⟩
theorem cv_RX7_329 : e_cV RX7 329 7 mX6_read 1 := ⟨"BiscuitLocks$Script", Or.inl ⟨TX6, 3, by decide, rfl⟩, rfl, (e_w1 1292 (by decide +kernel) rfl), (e_w1 1247 (by decide +kernel) rfl), (e_w1 1248 (by decide +kernel) rfl), cy_X6_read⟩
theorem fs_RX7_333 : Cond.fieldLink RX7 333 "BiscuitLocks$Refusal" "NOTHING" "LBiscuitLocks$Refusal;" ∈ e_WS := (e_w1 1293 (by decide +kernel) rfl)
theorem fl_RX7_47 : e_FL RX7 47 8 7 := ⟨RX7, TX7, 9, by decide, rfl, by decide, (e_w1 211 (by decide +kernel) rfl), u_RX7⟩
theorem fl_RX7_51 : e_FL RX7 51 8 8 := ⟨RX7, TX7, 9, by decide, rfl, by decide, (e_w1 212 (by decide +kernel) rfl), u_RX7⟩
theorem fl_RX7_341 : e_FL RX7 341 4 2 := ⟨RX2, TX2, 3, by decide, rfl, by decide, (e_w1 142 (by decide +kernel) rfl), u_RX2⟩
theorem cy_X2_popInto : e_cY mX2_popInto 1 := ⟨(e_w1 4 (by decide +kernel) rfl), (e_w1 1322 (by decide +kernel) rfl), ⟨by decide, by decide, by decide +kernel⟩, by decide⟩
theorem cv_RX7_346 : e_cV RX7 346 4 mX2_popInto 1 := ⟨"BiscuitLocks$History", Or.inl ⟨TX2, 3, by decide, rfl⟩, rfl, (e_w1 1319 (by decide +kernel) rfl), (e_w1 1320 (by decide +kernel) rfl), (e_w1 1321 (by decide +kernel) rfl), cy_X2_popInto⟩
theorem fl_RX7_19 : e_FL RX7 19 8 2 := ⟨RX7, TX7, 9, by decide, rfl, by decide, (e_w1 206 (by decide +kernel) rfl), u_RX7⟩
theorem fl_RX7_43 : e_FL RX7 43 8 6 := ⟨RX7, TX7, 9, by decide, rfl, by decide, (e_w1 210 (by decide +kernel) rfl), u_RX7⟩
theorem fp_RX7_341 : e_FP RX7 341 4 2 (.int) false := ⟨RX2, TX2, 3, by decide, rfl, by decide, (e_w1 142 (by decide +kernel) rfl), u_RX2, by decide +kernel, rfl, ⟨tyX2, tyX2_ok⟩, nmX2, fun h => by first | rfl | cases h⟩
theorem cy_X7_isPosition : e_cY mX7_isPosition 1 := ⟨(e_w1 1 (by decide +kernel) rfl), (e_w1 741 (by decide +kernel) rfl), ⟨by decide, by decide, by decide +kernel⟩, by decide⟩
theorem cs_RX7_351 : e_cS RX7 351 mX7_isPosition 1 := ⟨rfl, (e_w1 739 (by decide +kernel) rfl), (e_w1 740 (by decide +kernel) rfl), cy_X7_isPosition⟩
theorem co_RX8_3 : e_cO RX8 3 := ⟨(e_w1 1336 (by decide +kernel) rfl), (e_w1 40 (by decide +kernel) rfl), (e_w1 41 (by decide +kernel) rfl)⟩
theorem fp_RX8_9 : e_FP RX8 9 9 0 (.array .int) true := ⟨RX8, TX8, 18, by decide, rfl, by decide, (e_w1 1337 (by decide +kernel) rfl), u_RX8, by decide +kernel, rfl, ⟨tyX8, tyX8_ok⟩, nmX8, fun h => by first | rfl | cases h⟩
theorem fp_RX8_13 : e_FP RX8 13 9 1 (.array .int) true := ⟨RX8, TX8, 18, by decide, rfl, by decide, (e_w1 1338 (by decide +kernel) rfl), u_RX8, by decide +kernel, rfl, ⟨tyX8, tyX8_ok⟩, nmX8, fun h => by first | rfl | cases h⟩
theorem fp_RX8_16 : e_FP RX8 16 9 2 (.array .int) true := ⟨RX8, TX8, 18, by decide, rfl, by decide, (e_w1 1339 (by decide +kernel) rfl), u_RX8, by decide +kernel, rfl, ⟨tyX8, tyX8_ok⟩, nmX8, fun h => by first | rfl | cases h⟩
theorem fp_RX8_19 : e_FP RX8 19 9 3 (.array .int) true := ⟨RX8, TX8, 18, by decide, rfl, by decide, (e_w1 1340 (by decide +kernel) rfl), u_RX8, by decide +kernel, rfl, ⟨tyX8, tyX8_ok⟩, nmX8, fun h => by first | rfl | cases h⟩
theorem fp_RX8_22 : e_FP RX8 22 9 4 (.array .int) true := ⟨RX8, TX8, 18, by decide, rfl, by decide, (e_w1 1341 (by decide +kernel) rfl), u_RX8, by decide +kernel, rfl, ⟨tyX8, tyX8_ok⟩, nmX8, fun h => by first | rfl | cases h⟩
theorem fp_RX8_25 : e_FP RX8 25 9 7 (.int) false := ⟨RX8, TX8, 18, by decide, rfl, by decide, (e_w1 1344 (by decide +kernel) rfl), u_RX8, by decide +kernel, rfl, ⟨tyX8, tyX8_ok⟩, nmX8, fun h => by first | rfl | cases h⟩
theorem fp_RX8_29 : e_FP RX8 29 9 8 (.int) false := ⟨RX8, TX8, 18, by decide, rfl, by decide, (e_w1 1345 (by decide +kernel) rfl), u_RX8, by decide +kernel, rfl, ⟨tyX8, tyX8_ok⟩, nmX8, fun h => by first | rfl | cases h⟩
theorem fp_RX8_32 : e_FP RX8 32 9 11 (.array .int) true := ⟨RX8, TX8, 18, by decide, rfl, by decide, (e_w1 1348 (by decide +kernel) rfl), u_RX8, by decide +kernel, rfl, ⟨tyX8, tyX8_ok⟩, nmX8, fun h => by first | rfl | cases h⟩
theorem fp_RX8_35 : e_FP RX8 35 9 13 (.array .int) true := ⟨RX8, TX8, 18, by decide, rfl, by decide, (e_w1 1350 (by decide +kernel) rfl), u_RX8, by decide +kernel, rfl, ⟨tyX8, tyX8_ok⟩, nmX8, fun h => by first | rfl | cases h⟩
theorem fp_RX8_38 : e_FP RX8 38 9 14 (.array .int) true := ⟨RX8, TX8, 18, by decide, rfl, by decide, (e_w1 1351 (by decide +kernel) rfl), u_RX8, by decide +kernel, rfl, ⟨tyX8, tyX8_ok⟩, nmX8, fun h => by first | rfl | cases h⟩
theorem fl_RX8_41 : e_FL RX8 41 9 6 := ⟨RX8, TX8, 18, by decide, rfl, by decide, (e_w1 1343 (by decide +kernel) rfl), u_RX8⟩
theorem fl_RX8_9 : e_FL RX8 9 9 0 := ⟨RX8, TX8, 18, by decide, rfl, by decide, (e_w1 1337 (by decide +kernel) rfl), u_RX8⟩
theorem fl_RX8_13 : e_FL RX8 13 9 1 := ⟨RX8, TX8, 18, by decide, rfl, by decide, (e_w1 1338 (by decide +kernel) rfl), u_RX8⟩
theorem cy_X8_copies : e_cY mX8_copies 4 := ⟨(e_w1 10 (by decide +kernel) rfl), (e_w1 1406 (by decide +kernel) rfl), ⟨by decide, by decide, by decide +kernel⟩, by decide⟩
theorem cs_RX8_44 : e_cS RX8 44 mX8_copies 4 := ⟨rfl, (e_w1 1404 (by decide +kernel) rfl), (e_w1 1405 (by decide +kernel) rfl), cy_X8_copies⟩
theorem fp_RX8_41 : e_FP RX8 41 9 6 (.int) false := ⟨RX8, TX8, 18, by decide, rfl, by decide, (e_w1 1343 (by decide +kernel) rfl), u_RX8, by decide +kernel, rfl, ⟨tyX8, tyX8_ok⟩, nmX8, fun h => by first | rfl | cases h⟩
theorem fl_RX8_48 : e_FL RX8 48 9 5 := ⟨RX8, TX8, 18, by decide, rfl, by decide, (e_w1 1342 (by decide +kernel) rfl), u_RX8⟩
theorem fl_RX8_22 : e_FL RX8 22 9 4 := ⟨RX8, TX8, 18, by decide, rfl, by decide, (e_w1 1341 (by decide +kernel) rfl), u_RX8⟩
theorem fp_RX8_48 : e_FP RX8 48 9 5 (.int) false := ⟨RX8, TX8, 18, by decide, rfl, by decide, (e_w1 1342 (by decide +kernel) rfl), u_RX8, by decide +kernel, rfl, ⟨tyX8, tyX8_ok⟩, nmX8, fun h => by first | rfl | cases h⟩
theorem cy_X8_isIn : e_cY mX8_isIn 3 := ⟨(e_w1 10 (by decide +kernel) rfl), (e_w1 1416 (by decide +kernel) rfl), ⟨by decide, by decide, by decide +kernel⟩, by decide⟩
theorem cs_RX8_51 : e_cS RX8 51 mX8_isIn 3 := ⟨rfl, (e_w1 1414 (by decide +kernel) rfl), (e_w1 1415 (by decide +kernel) rfl), cy_X8_isIn⟩
theorem cy_X8_of : e_cY mX8_of 2 := ⟨(e_w1 10 (by decide +kernel) rfl), (e_w1 1455 (by decide +kernel) rfl), ⟨by decide, by decide, by decide +kernel⟩, by decide⟩
theorem cv_RX8_55 : e_cV RX8 55 9 mX8_of 2 := ⟨"BiscuitLocksModel", Or.inl ⟨TX8, 18, by decide, rfl⟩, rfl, (e_w1 1452 (by decide +kernel) rfl), (e_w1 1454 (by decide +kernel) rfl), (e_w0 33 (by decide +kernel) rfl), cy_X8_of⟩
theorem cy_X8_bakes : e_cY mX8_bakes 1 := ⟨(e_w1 10 (by decide +kernel) rfl), (e_w1 1451 (by decide +kernel) rfl), ⟨by decide, by decide, by decide +kernel⟩, by decide⟩
theorem cv_RX8_59 : e_cV RX8 59 9 mX8_bakes 1 := ⟨"BiscuitLocksModel", Or.inl ⟨TX8, 18, by decide, rfl⟩, rfl, (e_w1 1448 (by decide +kernel) rfl), (e_w1 1450 (by decide +kernel) rfl), (e_w0 32 (by decide +kernel) rfl), cy_X8_bakes⟩
theorem cy_X8_away : e_cY mX8_away 2 := ⟨(e_w1 10 (by decide +kernel) rfl), (e_w1 1479 (by decide +kernel) rfl), ⟨by decide, by decide, by decide +kernel⟩, by decide⟩
theorem cv_RX8_63 : e_cV RX8 63 9 mX8_away 2 := ⟨"BiscuitLocksModel", Or.inl ⟨TX8, 18, by decide, rfl⟩, rfl, (e_w1 1476 (by decide +kernel) rfl), (e_w1 1478 (by decide +kernel) rfl), (e_w0 38 (by decide +kernel) rfl), cy_X8_away⟩
theorem cy_X8_sets : e_cY mX8_sets 3 := ⟨(e_w1 10 (by decide +kernel) rfl), (e_w1 1428 (by decide +kernel) rfl), ⟨by decide, by decide, by decide +kernel⟩, by decide⟩
theorem cv_RX8_66 : e_cV RX8 66 9 mX8_sets 3 := ⟨"BiscuitLocksModel", Or.inl ⟨TX8, 18, by decide, rfl⟩, rfl, (e_w1 1425 (by decide +kernel) rfl), (e_w1 1427 (by decide +kernel) rfl), (e_w0 28 (by decide +kernel) rfl), cy_X8_sets⟩
theorem cy_X8_isSetting : e_cY mX8_isSetting 3 := ⟨(e_w1 10 (by decide +kernel) rfl), (e_w1 1413 (by decide +kernel) rfl), ⟨by decide, by decide, by decide +kernel⟩, by decide⟩
theorem cs_RX8_70 : e_cS RX8 70 mX8_isSetting 3 := ⟨rfl, (e_w1 1411 (by decide +kernel) rfl), (e_w1 1412 (by decide +kernel) rfl), cy_X8_isSetting⟩
theorem cy_X8_isThrown : e_cY mX8_isThrown 2 := ⟨(e_w1 10 (by decide +kernel) rfl), (e_w1 1420 (by decide +kernel) rfl), ⟨by decide, by decide, by decide +kernel⟩, by decide⟩
theorem cv_RX8_73 : e_cV RX8 73 9 mX8_isThrown 2 := ⟨"BiscuitLocksModel", Or.inl ⟨TX8, 18, by decide, rfl⟩, rfl, (e_w1 1417 (by decide +kernel) rfl), (e_w1 1419 (by decide +kernel) rfl), (e_w0 26 (by decide +kernel) rfl), cy_X8_isThrown⟩
theorem cy_X8_combines : e_cY mX8_combines 4 := ⟨(e_w1 10 (by decide +kernel) rfl), (e_w1 1424 (by decide +kernel) rfl), ⟨by decide, by decide, by decide +kernel⟩, by decide⟩
theorem cv_RX8_77 : e_cV RX8 77 9 mX8_combines 4 := ⟨"BiscuitLocksModel", Or.inl ⟨TX8, 18, by decide, rfl⟩, rfl, (e_w1 1421 (by decide +kernel) rfl), (e_w1 1423 (by decide +kernel) rfl), (e_w0 27 (by decide +kernel) rfl), cy_X8_combines⟩
theorem cy_X8_keeps : e_cY mX8_keeps 0 := ⟨(e_w1 10 (by decide +kernel) rfl), (e_w1 1403 (by decide +kernel) rfl), ⟨by decide, by decide, by decide +kernel⟩, by decide⟩
theorem cv_RX8_81 : e_cV RX8 81 9 mX8_keeps 0 := ⟨"BiscuitLocksModel", Or.inl ⟨TX8, 18, by decide, rfl⟩, rfl, (e_w1 1400 (by decide +kernel) rfl), (e_w1 1402 (by decide +kernel) rfl), (e_w0 24 (by decide +kernel) rfl), cy_X8_keeps⟩
theorem cy_X8_doors : e_cY mX8_doors 3 := ⟨(e_w1 10 (by decide +kernel) rfl), (e_w1 1410 (by decide +kernel) rfl), ⟨by decide, by decide, by decide +kernel⟩, by decide⟩
theorem cv_RX8_84 : e_cV RX8 84 9 mX8_doors 3 := ⟨"BiscuitLocksModel", Or.inl ⟨TX8, 18, by decide, rfl⟩, rfl, (e_w1 1407 (by decide +kernel) rfl), (e_w1 1409 (by decide +kernel) rfl), (e_w0 25 (by decide +kernel) rfl), cy_X8_doors⟩
theorem cy_X8_ends : e_cY mX8_ends 1 := ⟨(e_w1 10 (by decide +kernel) rfl), (e_w1 1432 (by decide +kernel) rfl), ⟨by decide, by decide, by decide +kernel⟩, by decide⟩
theorem cv_RX8_88 : e_cV RX8 88 9 mX8_ends 1 := ⟨"BiscuitLocksModel", Or.inl ⟨TX8, 18, by decide, rfl⟩, rfl, (e_w1 1429 (by decide +kernel) rfl), (e_w1 1431 (by decide +kernel) rfl), (e_w0 29 (by decide +kernel) rfl), cy_X8_ends⟩
theorem cy_X8_isDoor : e_cY mX8_isDoor 1 := ⟨(e_w1 10 (by decide +kernel) rfl), (e_w1 1444 (by decide +kernel) rfl), ⟨by decide, by decide, by decide +kernel⟩, by decide⟩
theorem cv_RX8_92 : e_cV RX8 92 9 mX8_isDoor 1 := ⟨"BiscuitLocksModel", Or.inl ⟨TX8, 18, by decide, rfl⟩, rfl, (e_w1 1441 (by decide +kernel) rfl), (e_w1 1443 (by decide +kernel) rfl), (e_w0 31 (by decide +kernel) rfl), cy_X8_isDoor⟩
theorem cy_X8_isDial : e_cY mX8_isDial 1 := ⟨(e_w1 10 (by decide +kernel) rfl), (e_w1 1447 (by decide +kernel) rfl), ⟨by decide, by decide, by decide +kernel⟩, by decide⟩
theorem cs_RX8_95 : e_cS RX8 95 mX8_isDial 1 := ⟨rfl, (e_w1 1445 (by decide +kernel) rfl), (e_w1 1446 (by decide +kernel) rfl), cy_X8_isDial⟩
theorem cy_X8_turns : e_cY mX8_turns 3 := ⟨(e_w1 10 (by decide +kernel) rfl), (e_w1 1440 (by decide +kernel) rfl), ⟨by decide, by decide, by decide +kernel⟩, by decide⟩
theorem cv_RX8_98 : e_cV RX8 98 9 mX8_turns 3 := ⟨"BiscuitLocksModel", Or.inl ⟨TX8, 18, by decide, rfl⟩, rfl, (e_w1 1437 (by decide +kernel) rfl), (e_w1 1439 (by decide +kernel) rfl), (e_w0 30 (by decide +kernel) rfl), cy_X8_turns⟩
theorem cy_X8_open : e_cY mX8_open 1 := ⟨(e_w1 10 (by decide +kernel) rfl), (e_w1 1467 (by decide +kernel) rfl), ⟨by decide, by decide, by decide +kernel⟩, by decide⟩
theorem cv_RX8_101 : e_cV RX8 101 9 mX8_open 1 := ⟨"BiscuitLocksModel", Or.inl ⟨TX8, 18, by decide, rfl⟩, rfl, (e_w1 1464 (by decide +kernel) rfl), (e_w1 1466 (by decide +kernel) rfl), (e_w0 35 (by decide +kernel) rfl), cy_X8_open⟩
theorem cy_X8_playOf : e_cY mX8_playOf 1 := ⟨(e_w1 10 (by decide +kernel) rfl), (e_w1 1471 (by decide +kernel) rfl), ⟨by decide, by decide, by decide +kernel⟩, by decide⟩
theorem cv_RX8_104 : e_cV RX8 104 9 mX8_playOf 1 := ⟨"BiscuitLocksModel", Or.inl ⟨TX8, 18, by decide, rfl⟩, rfl, (e_w1 1468 (by decide +kernel) rfl), (e_w1 1470 (by decide +kernel) rfl), (e_w0 36 (by decide +kernel) rfl), cy_X8_playOf⟩
theorem cy_X8_misfits : e_cY mX8_misfits 2 := ⟨(e_w1 10 (by decide +kernel) rfl), (e_w1 1475 (by decide +kernel) rfl), ⟨by decide, by decide, by decide +kernel⟩, by decide⟩
theorem cv_RX8_107 : e_cV RX8 107 9 mX8_misfits 2 := ⟨"BiscuitLocksModel", Or.inl ⟨TX8, 18, by decide, rfl⟩, rfl, (e_w1 1472 (by decide +kernel) rfl), (e_w1 1474 (by decide +kernel) rfl), (e_w0 37 (by decide +kernel) rfl), cy_X8_misfits⟩
theorem cy_X8_crumbled : e_cY mX8_crumbled 2 := ⟨(e_w1 10 (by decide +kernel) rfl), (e_w1 1482 (by decide +kernel) rfl), ⟨by decide, by decide, by decide +kernel⟩, by decide⟩
theorem cs_RX8_110 : e_cS RX8 110 mX8_crumbled 2 := ⟨rfl, (e_w1 1480 (by decide +kernel) rfl), (e_w1 1481 (by decide +kernel) rfl), cy_X8_crumbled⟩
theorem cy_X8_records : e_cY mX8_records 2 := ⟨(e_w1 10 (by decide +kernel) rfl), (e_w1 1486 (by decide +kernel) rfl), ⟨by decide, by decide, by decide +kernel⟩, by decide⟩
theorem cv_RX8_113 : e_cV RX8 113 9 mX8_records 2 := ⟨"BiscuitLocksModel", Or.inl ⟨TX8, 18, by decide, rfl⟩, rfl, (e_w1 1483 (by decide +kernel) rfl), (e_w1 1485 (by decide +kernel) rfl), (e_w0 39 (by decide +kernel) rfl), cy_X8_records⟩
theorem cy_X8_tries : e_cY mX8_tries 1 := ⟨(e_w1 10 (by decide +kernel) rfl), (e_w1 1463 (by decide +kernel) rfl), ⟨by decide, by decide, by decide +kernel⟩, by decide⟩
theorem cv_RX8_117 : e_cV RX8 117 9 mX8_tries 1 := ⟨"BiscuitLocksModel", Or.inl ⟨TX8, 18, by decide, rfl⟩, rfl, (e_w1 1460 (by decide +kernel) rfl), (e_w1 1462 (by decide +kernel) rfl), (e_w0 34 (by decide +kernel) rfl), cy_X8_tries⟩
theorem cy_X8_manyShut : e_cY mX8_manyShut 0 := ⟨(e_w1 10 (by decide +kernel) rfl), (e_w1 1498 (by decide +kernel) rfl), ⟨by decide, by decide, by decide +kernel⟩, by decide⟩
theorem cv_RX8_120 : e_cV RX8 120 9 mX8_manyShut 0 := ⟨"BiscuitLocksModel", Or.inl ⟨TX8, 18, by decide, rfl⟩, rfl, (e_w1 1495 (by decide +kernel) rfl), (e_w1 1497 (by decide +kernel) rfl), (e_w0 41 (by decide +kernel) rfl), cy_X8_manyShut⟩
theorem cy_X8_shuts : e_cY mX8_shuts 1 := ⟨(e_w1 10 (by decide +kernel) rfl), (e_w1 1494 (by decide +kernel) rfl), ⟨by decide, by decide, by decide +kernel⟩, by decide⟩
theorem cv_RX8_124 : e_cV RX8 124 9 mX8_shuts 1 := ⟨"BiscuitLocksModel", Or.inl ⟨TX8, 18, by decide, rfl⟩, rfl, (e_w1 1491 (by decide +kernel) rfl), (e_w1 1493 (by decide +kernel) rfl), (e_w0 40 (by decide +kernel) rfl), cy_X8_shuts⟩
theorem cy_X8_combined : e_cY mX8_combined 4 := ⟨(e_w1 10 (by decide +kernel) rfl), (e_w1 1506 (by decide +kernel) rfl), ⟨by decide, by decide, by decide +kernel⟩, by decide⟩
theorem cv_RX8_127 : e_cV RX8 127 9 mX8_combined 4 := ⟨"BiscuitLocksModel", Or.inl ⟨TX8, 18, by decide, rfl⟩, rfl, (e_w1 1503 (by decide +kernel) rfl), (e_w1 1505 (by decide +kernel) rfl), (e_w0 42 (by decide +kernel) rfl), cy_X8_combined⟩
theorem cy_X8_damps : e_cY mX8_damps 1 := ⟨(e_w1 10 (by decide +kernel) rfl), (e_w1 1514 (by decide +kernel) rfl), ⟨by decide, by decide, by decide +kernel⟩, by decide⟩
theorem cv_RX8_131 : e_cV RX8 131 9 mX8_damps 1 := ⟨"BiscuitLocksModel", Or.inl ⟨TX8, 18, by decide, rfl⟩, rfl, (e_w1 1511 (by decide +kernel) rfl), (e_w1 1513 (by decide +kernel) rfl), (e_w0 43 (by decide +kernel) rfl), cy_X8_damps⟩
theorem cy_X8_isOven : e_cY mX8_isOven 1 := ⟨(e_w1 10 (by decide +kernel) rfl), (e_w1 1525 (by decide +kernel) rfl), ⟨by decide, by decide, by decide +kernel⟩, by decide⟩
theorem cs_RX8_134 : e_cS RX8 134 mX8_isOven 1 := ⟨rfl, (e_w1 1523 (by decide +kernel) rfl), (e_w1 1524 (by decide +kernel) rfl), cy_X8_isOven⟩
theorem cy_X8_ofOven : e_cY mX8_ofOven 2 := ⟨(e_w1 10 (by decide +kernel) rfl), (e_w1 1529 (by decide +kernel) rfl), ⟨by decide, by decide, by decide +kernel⟩, by decide⟩
theorem cv_RX8_137 : e_cV RX8 137 9 mX8_ofOven 2 := ⟨"BiscuitLocksModel", Or.inl ⟨TX8, 18, by decide, rfl⟩, rfl, (e_w1 1526 (by decide +kernel) rfl), (e_w1 1528 (by decide +kernel) rfl), (e_w0 45 (by decide +kernel) rfl), cy_X8_ofOven⟩
theorem cy_X8_setsOven : e_cY mX8_setsOven 3 := ⟨(e_w1 10 (by decide +kernel) rfl), (e_w1 1533 (by decide +kernel) rfl), ⟨by decide, by decide, by decide +kernel⟩, by decide⟩
theorem cv_RX8_140 : e_cV RX8 140 9 mX8_setsOven 3 := ⟨"BiscuitLocksModel", Or.inl ⟨TX8, 18, by decide, rfl⟩, rfl, (e_w1 1530 (by decide +kernel) rfl), (e_w1 1532 (by decide +kernel) rfl), (e_w0 46 (by decide +kernel) rfl), cy_X8_setsOven⟩
theorem cy_X8_bakings : e_cY mX8_bakings 2 := ⟨(e_w1 10 (by decide +kernel) rfl), (e_w1 1522 (by decide +kernel) rfl), ⟨by decide, by decide, by decide +kernel⟩, by decide⟩
theorem cv_RX8_143 : e_cV RX8 143 9 mX8_bakings 2 := ⟨"BiscuitLocksModel", Or.inl ⟨TX8, 18, by decide, rfl⟩, rfl, (e_w1 1519 (by decide +kernel) rfl), (e_w1 1521 (by decide +kernel) rfl), (e_w0 44 (by decide +kernel) rfl), cy_X8_bakings⟩
theorem cy_X8_drifts : e_cY mX8_drifts 0 := ⟨(e_w1 10 (by decide +kernel) rfl), (e_w1 1549 (by decide +kernel) rfl), ⟨by decide, by decide, by decide +kernel⟩, by decide⟩
theorem cv_RX8_146 : e_cV RX8 146 9 mX8_drifts 0 := ⟨"BiscuitLocksModel", Or.inl ⟨TX8, 18, by decide, rfl⟩, rfl, (e_w1 1546 (by decide +kernel) rfl), (e_w1 1548 (by decide +kernel) rfl), (e_w0 49 (by decide +kernel) rfl), cy_X8_drifts⟩
theorem cy_X8_heats : e_cY mX8_heats 1 := ⟨(e_w1 10 (by decide +kernel) rfl), (e_w1 1553 (by decide +kernel) rfl), ⟨by decide, by decide, by decide +kernel⟩, by decide⟩
theorem cv_RX8_149 : e_cV RX8 149 9 mX8_heats 1 := ⟨"BiscuitLocksModel", Or.inl ⟨TX8, 18, by decide, rfl⟩, rfl, (e_w1 1550 (by decide +kernel) rfl), (e_w1 1552 (by decide +kernel) rfl), (e_w0 50 (by decide +kernel) rfl), cy_X8_heats⟩
theorem cy_X8_hourPasses : e_cY mX8_hourPasses 0 := ⟨(e_w1 10 (by decide +kernel) rfl), (e_w1 1545 (by decide +kernel) rfl), ⟨by decide, by decide, by decide +kernel⟩, by decide⟩
theorem cv_RX8_153 : e_cV RX8 153 9 mX8_hourPasses 0 := ⟨"BiscuitLocksModel", Or.inl ⟨TX8, 18, by decide, rfl⟩, rfl, (e_w1 1542 (by decide +kernel) rfl), (e_w1 1544 (by decide +kernel) rfl), (e_w0 48 (by decide +kernel) rfl), cy_X8_hourPasses⟩
theorem cy_X8_waits : e_cY mX8_waits 1 := ⟨(e_w1 10 (by decide +kernel) rfl), (e_w1 1541 (by decide +kernel) rfl), ⟨by decide, by decide, by decide +kernel⟩, by decide⟩
theorem cv_RX8_156 : e_cV RX8 156 9 mX8_waits 1 := ⟨"BiscuitLocksModel", Or.inl ⟨TX8, 18, by decide, rfl⟩, rfl, (e_w1 1538 (by decide +kernel) rfl), (e_w1 1540 (by decide +kernel) rfl), (e_w0 47 (by decide +kernel) rfl), cy_X8_waits⟩
theorem cy_X8_steps : e_cY mX8_steps 1 := ⟨(e_w1 10 (by decide +kernel) rfl), (e_w1 1593 (by decide +kernel) rfl), ⟨by decide, by decide, by decide +kernel⟩, by decide⟩
theorem cv_RX8_159 : e_cV RX8 159 9 mX8_steps 1 := ⟨"BiscuitLocksModel", Or.inl ⟨TX8, 18, by decide, rfl⟩, rfl, (e_w1 1590 (by decide +kernel) rfl), (e_w1 1592 (by decide +kernel) rfl), (e_w0 51 (by decide +kernel) rfl), cy_X8_steps⟩
theorem cy_X8_stepsToOpen : e_cY mX8_stepsToOpen 1 := ⟨(e_w1 10 (by decide +kernel) rfl), (e_w1 1589 (by decide +kernel) rfl), ⟨by decide, by decide, by decide +kernel⟩, by decide⟩
theorem cv_RX8_162 : e_cV RX8 162 9 mX8_stepsToOpen 1 := ⟨"BiscuitLocksModel", Or.inl ⟨TX8, 18, by decide, rfl⟩, rfl, (e_w1 1598 (by decide +kernel) rfl), (e_w1 1587 (by decide +kernel) rfl), (e_w1 1588 (by decide +kernel) rfl), cy_X8_stepsToOpen⟩
theorem fl_RX8_16 : e_FL RX8 16 9 2 := ⟨RX8, TX8, 18, by decide, rfl, by decide, (e_w1 1339 (by decide +kernel) rfl), u_RX8⟩
theorem cy_X8_isAhead : e_cY mX8_isAhead 2 := ⟨(e_w1 10 (by decide +kernel) rfl), (e_w1 1634 (by decide +kernel) rfl), ⟨by decide, by decide, by decide +kernel⟩, by decide⟩
theorem cv_RX8_165 : e_cV RX8 165 9 mX8_isAhead 2 := ⟨"BiscuitLocksModel", Or.inl ⟨TX8, 18, by decide, rfl⟩, rfl, (e_w1 1631 (by decide +kernel) rfl), (e_w1 1633 (by decide +kernel) rfl), (e_w0 52 (by decide +kernel) rfl), cy_X8_isAhead⟩
theorem cy_X8_ofTry : e_cY mX8_ofTry 2 := ⟨(e_w1 10 (by decide +kernel) rfl), (e_w1 1646 (by decide +kernel) rfl), ⟨by decide, by decide, by decide +kernel⟩, by decide⟩
theorem cv_RX8_169 : e_cV RX8 169 9 mX8_ofTry 2 := ⟨"BiscuitLocksModel", Or.inl ⟨TX8, 18, by decide, rfl⟩, rfl, (e_w1 1643 (by decide +kernel) rfl), (e_w1 1645 (by decide +kernel) rfl), (e_w0 53 (by decide +kernel) rfl), cy_X8_ofTry⟩
theorem cy_X8_shutLocks : e_cY mX8_shutLocks 0 := ⟨(e_w1 10 (by decide +kernel) rfl), (e_w1 1654 (by decide +kernel) rfl), ⟨by decide, by decide, by decide +kernel⟩, by decide⟩
theorem cv_RX8_172 : e_cV RX8 172 9 mX8_shutLocks 0 := ⟨"BiscuitLocksModel", Or.inl ⟨TX8, 18, by decide, rfl⟩, rfl, (e_w1 1659 (by decide +kernel) rfl), (e_w1 1652 (by decide +kernel) rfl), (e_w1 1653 (by decide +kernel) rfl), cy_X8_shutLocks⟩
theorem fl_RX8_32 : e_FL RX8 32 9 11 := ⟨RX8, TX8, 18, by decide, rfl, by decide, (e_w1 1348 (by decide +kernel) rfl), u_RX8⟩
theorem fl_RX8_175 : e_FL RX8 175 9 12 := ⟨RX8, TX8, 18, by decide, rfl, by decide, (e_w1 1349 (by decide +kernel) rfl), u_RX8⟩
theorem fp_RX8_175 : e_FP RX8 175 9 12 (.int) false := ⟨RX8, TX8, 18, by decide, rfl, by decide, (e_w1 1349 (by decide +kernel) rfl), u_RX8, by decide +kernel, rfl, ⟨tyX8, tyX8_ok⟩, nmX8, fun h => by first | rfl | cases h⟩
theorem cy_X8_number : e_cY mX8_number 1 := ⟨(e_w1 10 (by decide +kernel) rfl), (e_w1 1699 (by decide +kernel) rfl), ⟨by decide, by decide, by decide +kernel⟩, by decide⟩
theorem cv_RX8_178 : e_cV RX8 178 9 mX8_number 1 := ⟨"BiscuitLocksModel", Or.inl ⟨TX8, 18, by decide, rfl⟩, rfl, (e_w1 1696 (by decide +kernel) rfl), (e_w1 1698 (by decide +kernel) rfl), (e_w0 54 (by decide +kernel) rfl), cy_X8_number⟩
theorem cy_X8_puts : e_cY mX8_puts 1 := ⟨(e_w1 10 (by decide +kernel) rfl), (e_w1 1703 (by decide +kernel) rfl), ⟨by decide, by decide, by decide +kernel⟩, by decide⟩
theorem cv_RX8_181 : e_cV RX8 181 9 mX8_puts 1 := ⟨"BiscuitLocksModel", Or.inl ⟨TX8, 18, by decide, rfl⟩, rfl, (e_w1 1700 (by decide +kernel) rfl), (e_w1 1702 (by decide +kernel) rfl), (e_w0 55 (by decide +kernel) rfl), cy_X8_puts⟩
theorem fl_RX8_184 : e_FL RX8 184 9 15 := ⟨RX8, TX8, 18, by decide, rfl, by decide, (e_w1 1352 (by decide +kernel) rfl), u_RX8⟩
theorem fl_RX8_35 : e_FL RX8 35 9 13 := ⟨RX8, TX8, 18, by decide, rfl, by decide, (e_w1 1350 (by decide +kernel) rfl), u_RX8⟩
theorem fp_RX8_184 : e_FP RX8 184 9 15 (.int) false := ⟨RX8, TX8, 18, by decide, rfl, by decide, (e_w1 1352 (by decide +kernel) rfl), u_RX8, by decide +kernel, rfl, ⟨tyX8, tyX8_ok⟩, nmX8, fun h => by first | rfl | cases h⟩
theorem fl_RX8_187 : e_FL RX8 187 9 16 := ⟨RX8, TX8, 18, by decide, rfl, by decide, (e_w1 1353 (by decide +kernel) rfl), u_RX8⟩
theorem cy_X8_now : e_cY mX8_now 0 := ⟨(e_w1 10 (by decide +kernel) rfl), (e_w1 1731 (by decide +kernel) rfl), ⟨by decide, by decide, by decide +kernel⟩, by decide⟩
theorem cv_RX8_190 : e_cV RX8 190 9 mX8_now 0 := ⟨"BiscuitLocksModel", Or.inl ⟨TX8, 18, by decide, rfl⟩, rfl, (e_w1 1728 (by decide +kernel) rfl), (e_w1 1730 (by decide +kernel) rfl), (e_w0 58 (by decide +kernel) rfl), cy_X8_now⟩
theorem fp_RX8_187 : e_FP RX8 187 9 16 (.int) false := ⟨RX8, TX8, 18, by decide, rfl, by decide, (e_w1 1353 (by decide +kernel) rfl), u_RX8, by decide +kernel, rfl, ⟨tyX8, tyX8_ok⟩, nmX8, fun h => by first | rfl | cases h⟩
theorem fl_RX8_38 : e_FL RX8 38 9 14 := ⟨RX8, TX8, 18, by decide, rfl, by decide, (e_w1 1351 (by decide +kernel) rfl), u_RX8⟩
theorem cv_RX8_193 : e_cV RX8 193 22 mJ0_length_8abf5 0 := ⟨"java/lang/String", Or.inr ⟨by decide, by decide, rfl⟩, rfl, (e_w1 1752 (by decide +kernel) rfl), (e_w1 417 (by decide +kernel) rfl), (e_w1 418 (by decide +kernel) rfl), cy_J0_length_8abf5⟩
theorem cv_RX8_198 : e_cV RX8 198 22 mJ0_charAt_5068e 1 := ⟨"java/lang/String", Or.inr ⟨by decide, by decide, rfl⟩, rfl, (e_w1 1753 (by decide +kernel) rfl), (e_w1 1260 (by decide +kernel) rfl), (e_w1 1261 (by decide +kernel) rfl), cy_J0_charAt_5068e⟩
theorem cy_X8_isSign : e_cY mX8_isSign 1 := ⟨(e_w1 10 (by decide +kernel) rfl), (e_w1 1746 (by decide +kernel) rfl), ⟨by decide, by decide, by decide +kernel⟩, by decide⟩
theorem cv_RX8_202 : e_cV RX8 202 9 mX8_isSign 1 := ⟨"BiscuitLocksModel", Or.inl ⟨TX8, 18, by decide, rfl⟩, rfl, (e_w1 1743 (by decide +kernel) rfl), (e_w1 1745 (by decide +kernel) rfl), (e_w0 61 (by decide +kernel) rfl), cy_X8_isSign⟩
theorem cy_X8_isNumber : e_cY mX8_isNumber 2 := ⟨(e_w1 10 (by decide +kernel) rfl), (e_w1 1757 (by decide +kernel) rfl), ⟨by decide, by decide, by decide +kernel⟩, by decide⟩
theorem cv_RX8_205 : e_cV RX8 205 9 mX8_isNumber 2 := ⟨"BiscuitLocksModel", Or.inl ⟨TX8, 18, by decide, rfl⟩, rfl, (e_w1 1754 (by decide +kernel) rfl), (e_w1 1756 (by decide +kernel) rfl), (e_w0 63 (by decide +kernel) rfl), cy_X8_isNumber⟩
theorem cy_X8_isWord : e_cY mX8_isWord 1 := ⟨(e_w1 10 (by decide +kernel) rfl), (e_w1 1751 (by decide +kernel) rfl), ⟨by decide, by decide, by decide +kernel⟩, by decide⟩
theorem cv_RX8_210 : e_cV RX8 210 9 mX8_isWord 1 := ⟨"BiscuitLocksModel", Or.inl ⟨TX8, 18, by decide, rfl⟩, rfl, (e_w1 1748 (by decide +kernel) rfl), (e_w1 1750 (by decide +kernel) rfl), (e_w0 62 (by decide +kernel) rfl), cy_X8_isWord⟩
theorem cy_X8_isSteps : e_cY mX8_isSteps 1 := ⟨(e_w1 10 (by decide +kernel) rfl), (e_w1 1761 (by decide +kernel) rfl), ⟨by decide, by decide, by decide +kernel⟩, by decide⟩
theorem cv_RX8_214 : e_cV RX8 214 9 mX8_isSteps 1 := ⟨"BiscuitLocksModel", Or.inl ⟨TX8, 18, by decide, rfl⟩, rfl, (e_w1 1758 (by decide +kernel) rfl), (e_w1 1760 (by decide +kernel) rfl), (e_w0 64 (by decide +kernel) rfl), cy_X8_isSteps⟩
theorem cy_X8_isThree : e_cY mX8_isThree 1 := ⟨(e_w1 10 (by decide +kernel) rfl), (e_w1 1771 (by decide +kernel) rfl), ⟨by decide, by decide, by decide +kernel⟩, by decide⟩
theorem cv_RX8_221 : e_cV RX8 221 9 mX8_isThree 1 := ⟨"BiscuitLocksModel", Or.inl ⟨TX8, 18, by decide, rfl⟩, rfl, (e_w1 1768 (by decide +kernel) rfl), (e_w1 1770 (by decide +kernel) rfl), (e_w0 66 (by decide +kernel) rfl), cy_X8_isThree⟩
theorem cy_X8_readsT : e_cY mX8_readsT 1 := ⟨(e_w1 10 (by decide +kernel) rfl), (e_w1 1742 (by decide +kernel) rfl), ⟨by decide, by decide, by decide +kernel⟩, by decide⟩
theorem cv_RX8_232 : e_cV RX8 232 9 mX8_readsT 1 := ⟨"BiscuitLocksModel", Or.inl ⟨TX8, 18, by decide, rfl⟩, rfl, (e_w1 1739 (by decide +kernel) rfl), (e_w1 1741 (by decide +kernel) rfl), (e_w0 60 (by decide +kernel) rfl), cy_X8_readsT⟩
theorem cy_X8_readsD : e_cY mX8_readsD 1 := ⟨(e_w1 10 (by decide +kernel) rfl), (e_w1 1766 (by decide +kernel) rfl), ⟨by decide, by decide, by decide +kernel⟩, by decide⟩
theorem cv_RX8_235 : e_cV RX8 235 9 mX8_readsD 1 := ⟨"BiscuitLocksModel", Or.inl ⟨TX8, 18, by decide, rfl⟩, rfl, (e_w1 1763 (by decide +kernel) rfl), (e_w1 1765 (by decide +kernel) rfl), (e_w0 65 (by decide +kernel) rfl), cy_X8_readsD⟩
theorem cy_X8_readsS : e_cY mX8_readsS 1 := ⟨(e_w1 10 (by decide +kernel) rfl), (e_w1 1776 (by decide +kernel) rfl), ⟨by decide, by decide, by decide +kernel⟩, by decide⟩
theorem cv_RX8_238 : e_cV RX8 238 9 mX8_readsS 1 := ⟨"BiscuitLocksModel", Or.inl ⟨TX8, 18, by decide, rfl⟩, rfl, (e_w1 1773 (by decide +kernel) rfl), (e_w1 1775 (by decide +kernel) rfl), (e_w0 67 (by decide +kernel) rfl), cy_X8_readsS⟩
theorem cy_X8_readsHour : e_cY mX8_readsHour 1 := ⟨(e_w1 10 (by decide +kernel) rfl), (e_w1 1783 (by decide +kernel) rfl), ⟨by decide, by decide, by decide +kernel⟩, by decide⟩
theorem cv_RX8_243 : e_cV RX8 243 9 mX8_readsHour 1 := ⟨"BiscuitLocksModel", Or.inl ⟨TX8, 18, by decide, rfl⟩, rfl, (e_w1 1780 (by decide +kernel) rfl), (e_w1 1782 (by decide +kernel) rfl), (e_w0 68 (by decide +kernel) rfl), cy_X8_readsHour⟩
theorem fl_RX8_246 : e_FL RX8 246 9 17 := ⟨RX8, TX8, 18, by decide, rfl, by decide, (e_w1 1354 (by decide +kernel) rfl), u_RX8⟩
theorem cy_X8_isFirst : e_cY mX8_isFirst 1 := ⟨(e_w1 10 (by decide +kernel) rfl), (e_w1 1734 (by decide +kernel) rfl), ⟨by decide, by decide, by decide +kernel⟩, by decide⟩
theorem cs_RX8_249 : e_cS RX8 249 mX8_isFirst 1 := ⟨rfl, (e_w1 1732 (by decide +kernel) rfl), (e_w1 1733 (by decide +kernel) rfl), cy_X8_isFirst⟩
theorem fp_RX8_246 : e_FP RX8 246 9 17 (.int) false := ⟨RX8, TX8, 18, by decide, rfl, by decide, (e_w1 1354 (by decide +kernel) rfl), u_RX8, by decide +kernel, rfl, ⟨tyX8, tyX8_ok⟩, nmX8, fun h => by first | rfl | cases h⟩
theorem cy_X8_readsRest : e_cY mX8_readsRest 2 := ⟨(e_w1 10 (by decide +kernel) rfl), (e_w1 1738 (by decide +kernel) rfl), ⟨by decide, by decide, by decide +kernel⟩, by decide⟩
theorem cv_RX8_252 : e_cV RX8 252 9 mX8_readsRest 2 := ⟨"BiscuitLocksModel", Or.inl ⟨TX8, 18, by decide, rfl⟩, rfl, (e_w1 1735 (by decide +kernel) rfl), (e_w1 1737 (by decide +kernel) rfl), (e_w0 59 (by decide +kernel) rfl), cy_X8_readsRest⟩
theorem cy_X8_readsCommand : e_cY mX8_readsCommand 0 := ⟨(e_w1 10 (by decide +kernel) rfl), (e_w1 1727 (by decide +kernel) rfl), ⟨by decide, by decide, by decide +kernel⟩, by decide⟩
theorem cv_RX8_255 : e_cV RX8 255 9 mX8_readsCommand 0 := ⟨"BiscuitLocksModel", Or.inl ⟨TX8, 18, by decide, rfl⟩, rfl, (e_w1 1724 (by decide +kernel) rfl), (e_w1 1726 (by decide +kernel) rfl), (e_w0 57 (by decide +kernel) rfl), cy_X8_readsCommand⟩
theorem cy_X8_isScript : e_cY mX8_isScript 0 := ⟨(e_w1 10 (by decide +kernel) rfl), (e_w1 1723 (by decide +kernel) rfl), ⟨by decide, by decide, by decide +kernel⟩, by decide⟩
theorem cv_RX8_259 : e_cV RX8 259 9 mX8_isScript 0 := ⟨"BiscuitLocksModel", Or.inl ⟨TX8, 18, by decide, rfl⟩, rfl, (e_w1 1720 (by decide +kernel) rfl), (e_w1 1722 (by decide +kernel) rfl), (e_w0 56 (by decide +kernel) rfl), cy_X8_isScript⟩
theorem cy_X8_does : e_cY mX8_does 1 := ⟨(e_w1 10 (by decide +kernel) rfl), (e_w1 1788 (by decide +kernel) rfl), ⟨by decide, by decide, by decide +kernel⟩, by decide⟩
theorem cv_RX8_262 : e_cV RX8 262 9 mX8_does 1 := ⟨"BiscuitLocksModel", Or.inl ⟨TX8, 18, by decide, rfl⟩, rfl, (e_w1 1785 (by decide +kernel) rfl), (e_w1 1787 (by decide +kernel) rfl), (e_w0 69 (by decide +kernel) rfl), cy_X8_does⟩
theorem fp_RX8_265 : e_FP RX8 265 9 9 (.int) false := ⟨RX8, TX8, 18, by decide, rfl, by decide, (e_w1 1346 (by decide +kernel) rfl), u_RX8, by decide +kernel, rfl, ⟨tyX8, tyX8_ok⟩, nmX8, fun h => by first | rfl | cases h⟩
theorem fl_RX8_25 : e_FL RX8 25 9 7 := ⟨RX8, TX8, 18, by decide, rfl, by decide, (e_w1 1344 (by decide +kernel) rfl), u_RX8⟩
theorem fl_RX8_29 : e_FL RX8 29 9 8 := ⟨RX8, TX8, 18, by decide, rfl, by decide, (e_w1 1345 (by decide +kernel) rfl), u_RX8⟩
theorem fl_RX8_19 : e_FL RX8 19 9 3 := ⟨RX8, TX8, 18, by decide, rfl, by decide, (e_w1 1340 (by decide +kernel) rfl), u_RX8⟩
theorem fp_RX8_268 : e_FP RX8 268 9 10 (.boolean) false := ⟨RX8, TX8, 18, by decide, rfl, by decide, (e_w1 1347 (by decide +kernel) rfl), u_RX8, by decide +kernel, rfl, ⟨tyX8, tyX8_ok⟩, nmX8, fun h => by first | rfl | cases h⟩
theorem fl_RX8_268 : e_FL RX8 268 9 10 := ⟨RX8, TX8, 18, by decide, rfl, by decide, (e_w1 1347 (by decide +kernel) rfl), u_RX8⟩
theorem cy_X7_addDoor : e_cY mX7_addDoor 3 := ⟨(e_w1 1 (by decide +kernel) rfl), (e_w1 713 (by decide +kernel) rfl), ⟨by decide, by decide, by decide +kernel⟩, by decide⟩
theorem cv_RL_7 : e_cV RL 7 8 mX7_addDoor 3 := ⟨"BiscuitLocks", Or.inl ⟨TX7, 9, by decide, rfl⟩, rfl, (e_w1 710 (by decide +kernel) rfl), (e_w1 711 (by decide +kernel) rfl), (e_w1 712 (by decide +kernel) rfl), cy_X7_addDoor⟩
theorem cy_X7_turn : e_cY mX7_turn 3 := ⟨(e_w1 1 (by decide +kernel) rfl), (e_w1 916 (by decide +kernel) rfl), ⟨by decide, by decide, by decide +kernel⟩, by decide⟩
theorem cv_RL_17 : e_cV RL 17 8 mX7_turn 3 := ⟨"BiscuitLocks", Or.inl ⟨TX7, 9, by decide, rfl⟩, rfl, (e_w1 913 (by decide +kernel) rfl), (e_w1 914 (by decide +kernel) rfl), (e_w1 915 (by decide +kernel) rfl), cy_X7_turn⟩
theorem cy_X7_tryLock : e_cY mX7_tryLock 1 := ⟨(e_w1 1 (by decide +kernel) rfl), (e_w1 925 (by decide +kernel) rfl), ⟨by decide, by decide, by decide +kernel⟩, by decide⟩
theorem cv_RL_22 : e_cV RL 22 8 mX7_tryLock 1 := ⟨"BiscuitLocks", Or.inl ⟨TX7, 9, by decide, rfl⟩, rfl, (e_w1 922 (by decide +kernel) rfl), (e_w1 923 (by decide +kernel) rfl), (e_w1 924 (by decide +kernel) rfl), cy_X7_tryLock⟩
theorem cy_X7_shut : e_cY mX7_shut 1 := ⟨(e_w1 1 (by decide +kernel) rfl), (e_w1 935 (by decide +kernel) rfl), ⟨by decide, by decide, by decide +kernel⟩, by decide⟩
theorem cv_RL_26 : e_cV RL 26 8 mX7_shut 1 := ⟨"BiscuitLocks", Or.inl ⟨TX7, 9, by decide, rfl⟩, rfl, (e_w1 932 (by decide +kernel) rfl), (e_w1 933 (by decide +kernel) rfl), (e_w1 934 (by decide +kernel) rfl), cy_X7_shut⟩
theorem cy_X7_setCombination : e_cY mX7_setCombination 4 := ⟨(e_w1 1 (by decide +kernel) rfl), (e_w1 944 (by decide +kernel) rfl), ⟨by decide, by decide, by decide +kernel⟩, by decide⟩
theorem cv_RL_32 : e_cV RL 32 8 mX7_setCombination 4 := ⟨"BiscuitLocks", Or.inl ⟨TX7, 9, by decide, rfl⟩, rfl, (e_w1 941 (by decide +kernel) rfl), (e_w1 942 (by decide +kernel) rfl), (e_w1 943 (by decide +kernel) rfl), cy_X7_setCombination⟩
theorem cy_X7_setDamp : e_cY mX7_setDamp 1 := ⟨(e_w1 1 (by decide +kernel) rfl), (e_w1 953 (by decide +kernel) rfl), ⟨by decide, by decide, by decide +kernel⟩, by decide⟩
theorem cv_RL_36 : e_cV RL 36 8 mX7_setDamp 1 := ⟨"BiscuitLocks", Or.inl ⟨TX7, 9, by decide, rfl⟩, rfl, (e_w1 950 (by decide +kernel) rfl), (e_w1 951 (by decide +kernel) rfl), (e_w1 952 (by decide +kernel) rfl), cy_X7_setDamp⟩
theorem cy_X7_bake : e_cY mX7_bake 2 := ⟨(e_w1 1 (by decide +kernel) rfl), (e_w1 962 (by decide +kernel) rfl), ⟨by decide, by decide, by decide +kernel⟩, by decide⟩
theorem cv_RL_39 : e_cV RL 39 8 mX7_bake 2 := ⟨"BiscuitLocks", Or.inl ⟨TX7, 9, by decide, rfl⟩, rfl, (e_w1 959 (by decide +kernel) rfl), (e_w1 960 (by decide +kernel) rfl), (e_w1 961 (by decide +kernel) rfl), cy_X7_bake⟩
theorem cy_X7_passHours : e_cY mX7_passHours 1 := ⟨(e_w1 1 (by decide +kernel) rfl), (e_w1 971 (by decide +kernel) rfl), ⟨by decide, by decide, by decide +kernel⟩, by decide⟩
theorem cv_RL_43 : e_cV RL 43 8 mX7_passHours 1 := ⟨"BiscuitLocks", Or.inl ⟨TX7, 9, by decide, rfl⟩, rfl, (e_w1 968 (by decide +kernel) rfl), (e_w1 969 (by decide +kernel) rfl), (e_w1 970 (by decide +kernel) rfl), cy_X7_passHours⟩
theorem cy_X7_dial : e_cY mX7_dial 2 := ⟨(e_w1 1 (by decide +kernel) rfl), (e_w1 980 (by decide +kernel) rfl), ⟨by decide, by decide, by decide +kernel⟩, by decide⟩
theorem cv_RL_46 : e_cV RL 46 8 mX7_dial 2 := ⟨"BiscuitLocks", Or.inl ⟨TX7, 9, by decide, rfl⟩, rfl, (e_w1 977 (by decide +kernel) rfl), (e_w1 978 (by decide +kernel) rfl), (e_w1 979 (by decide +kernel) rfl), cy_X7_dial⟩
theorem cy_X7_combination : e_cY mX7_combination 2 := ⟨(e_w1 1 (by decide +kernel) rfl), (e_w1 998 (by decide +kernel) rfl), ⟨by decide, by decide, by decide +kernel⟩, by decide⟩
theorem cv_RL_49 : e_cV RL 49 8 mX7_combination 2 := ⟨"BiscuitLocks", Or.inl ⟨TX7, 9, by decide, rfl⟩, rfl, (e_w1 995 (by decide +kernel) rfl), (e_w1 996 (by decide +kernel) rfl), (e_w1 997 (by decide +kernel) rfl), cy_X7_combination⟩
theorem cy_X7_isOpen : e_cY mX7_isOpen 1 := ⟨(e_w1 1 (by decide +kernel) rfl), (e_w1 1005 (by decide +kernel) rfl), ⟨by decide, by decide, by decide +kernel⟩, by decide⟩
theorem cv_RL_52 : e_cV RL 52 8 mX7_isOpen 1 := ⟨"BiscuitLocks", Or.inl ⟨TX7, 9, by decide, rfl⟩, rfl, (e_w1 1002 (by decide +kernel) rfl), (e_w1 1003 (by decide +kernel) rfl), (e_w1 1004 (by decide +kernel) rfl), cy_X7_isOpen⟩
theorem cy_X7_isBroken : e_cY mX7_isBroken 1 := ⟨(e_w1 1 (by decide +kernel) rfl), (e_w1 1012 (by decide +kernel) rfl), ⟨by decide, by decide, by decide +kernel⟩, by decide⟩
theorem cv_RL_55 : e_cV RL 55 8 mX7_isBroken 1 := ⟨"BiscuitLocks", Or.inl ⟨TX7, 9, by decide, rfl⟩, rfl, (e_w1 1009 (by decide +kernel) rfl), (e_w1 1010 (by decide +kernel) rfl), (e_w1 1011 (by decide +kernel) rfl), cy_X7_isBroken⟩
theorem cy_X7_crumbs : e_cY mX7_crumbs 1 := ⟨(e_w1 1 (by decide +kernel) rfl), (e_w1 1019 (by decide +kernel) rfl), ⟨by decide, by decide, by decide +kernel⟩, by decide⟩
theorem cv_RL_58 : e_cV RL 58 8 mX7_crumbs 1 := ⟨"BiscuitLocks", Or.inl ⟨TX7, 9, by decide, rfl⟩, rfl, (e_w1 1016 (by decide +kernel) rfl), (e_w1 1017 (by decide +kernel) rfl), (e_w1 1018 (by decide +kernel) rfl), cy_X7_crumbs⟩
theorem cy_X7_play : e_cY mX7_play 1 := ⟨(e_w1 1 (by decide +kernel) rfl), (e_w1 1026 (by decide +kernel) rfl), ⟨by decide, by decide, by decide +kernel⟩, by decide⟩
theorem cv_RL_61 : e_cV RL 61 8 mX7_play 1 := ⟨"BiscuitLocks", Or.inl ⟨TX7, 9, by decide, rfl⟩, rfl, (e_w1 1023 (by decide +kernel) rfl), (e_w1 1024 (by decide +kernel) rfl), (e_w1 1025 (by decide +kernel) rfl), cy_X7_play⟩
theorem cy_X7_fittingDials : e_cY mX7_fittingDials 1 := ⟨(e_w1 1 (by decide +kernel) rfl), (e_w1 1034 (by decide +kernel) rfl), ⟨by decide, by decide, by decide +kernel⟩, by decide⟩
theorem cv_RL_64 : e_cV RL 64 8 mX7_fittingDials 1 := ⟨"BiscuitLocks", Or.inl ⟨TX7, 9, by decide, rfl⟩, rfl, (e_w1 1031 (by decide +kernel) rfl), (e_w1 1032 (by decide +kernel) rfl), (e_w1 1033 (by decide +kernel) rfl), cy_X7_fittingDials⟩
theorem cy_X7_stepsToOpen : e_cY mX7_stepsToOpen 1 := ⟨(e_w1 1 (by decide +kernel) rfl), (e_w1 1042 (by decide +kernel) rfl), ⟨by decide, by decide, by decide +kernel⟩, by decide⟩
theorem cv_RL_67 : e_cV RL 67 8 mX7_stepsToOpen 1 := ⟨"BiscuitLocks", Or.inl ⟨TX7, 9, by decide, rfl⟩, rfl, (e_w1 1039 (by decide +kernel) rfl), (e_w1 1040 (by decide +kernel) rfl), (e_w1 1041 (by decide +kernel) rfl), cy_X7_stepsToOpen⟩
theorem cy_X7_stepsToOpenByTurning : e_cY mX7_stepsToOpenByTurning 1 := ⟨(e_w1 1 (by decide +kernel) rfl), (e_w1 1049 (by decide +kernel) rfl), ⟨by decide, by decide, by decide +kernel⟩, by decide⟩
theorem cv_RL_70 : e_cV RL 70 8 mX7_stepsToOpenByTurning 1 := ⟨"BiscuitLocks", Or.inl ⟨TX7, 9, by decide, rfl⟩, rfl, (e_w1 1046 (by decide +kernel) rfl), (e_w1 1047 (by decide +kernel) rfl), (e_w1 1048 (by decide +kernel) rfl), cy_X7_stepsToOpenByTurning⟩
theorem cy_X7_openingSettings : e_cY mX7_openingSettings 1 := ⟨(e_w1 1 (by decide +kernel) rfl), (e_w1 1056 (by decide +kernel) rfl), ⟨by decide, by decide, by decide +kernel⟩, by decide⟩
theorem cv_RL_73 : e_cV RL 73 8 mX7_openingSettings 1 := ⟨"BiscuitLocks", Or.inl ⟨TX7, 9, by decide, rfl⟩, rfl, (e_w1 1053 (by decide +kernel) rfl), (e_w1 1054 (by decide +kernel) rfl), (e_w1 1055 (by decide +kernel) rfl), cy_X7_openingSettings⟩
theorem cy_X7_triesUntilBroken : e_cY mX7_triesUntilBroken 1 := ⟨(e_w1 1 (by decide +kernel) rfl), (e_w1 1064 (by decide +kernel) rfl), ⟨by decide, by decide, by decide +kernel⟩, by decide⟩
theorem cv_RL_76 : e_cV RL 76 8 mX7_triesUntilBroken 1 := ⟨"BiscuitLocks", Or.inl ⟨TX7, 9, by decide, rfl⟩, rfl, (e_w1 1061 (by decide +kernel) rfl), (e_w1 1062 (by decide +kernel) rfl), (e_w1 1063 (by decide +kernel) rfl), cy_X7_triesUntilBroken⟩
theorem cy_X7_dialAfter : e_cY mX7_dialAfter 3 := ⟨(e_w1 1 (by decide +kernel) rfl), (e_w1 1089 (by decide +kernel) rfl), ⟨by decide, by decide, by decide +kernel⟩, by decide⟩
theorem cv_RL_81 : e_cV RL 81 8 mX7_dialAfter 3 := ⟨"BiscuitLocks", Or.inl ⟨TX7, 9, by decide, rfl⟩, rfl, (e_w1 1086 (by decide +kernel) rfl), (e_w1 1087 (by decide +kernel) rfl), (e_w1 1088 (by decide +kernel) rfl), cy_X7_dialAfter⟩
theorem cy_X7_hoursUntilFitting : e_cY mX7_hoursUntilFitting 1 := ⟨(e_w1 1 (by decide +kernel) rfl), (e_w1 1098 (by decide +kernel) rfl), ⟨by decide, by decide, by decide +kernel⟩, by decide⟩
theorem cv_RL_84 : e_cV RL 84 8 mX7_hoursUntilFitting 1 := ⟨"BiscuitLocks", Or.inl ⟨TX7, 9, by decide, rfl⟩, rfl, (e_w1 1095 (by decide +kernel) rfl), (e_w1 1096 (by decide +kernel) rfl), (e_w1 1097 (by decide +kernel) rfl), cy_X7_hoursUntilFitting⟩
theorem cy_X7_bakedDoor : e_cY mX7_bakedDoor 1 := ⟨(e_w1 1 (by decide +kernel) rfl), (e_w1 1107 (by decide +kernel) rfl), ⟨by decide, by decide, by decide +kernel⟩, by decide⟩
theorem cv_RL_87 : e_cV RL 87 8 mX7_bakedDoor 1 := ⟨"BiscuitLocks", Or.inl ⟨TX7, 9, by decide, rfl⟩, rfl, (e_w1 1104 (by decide +kernel) rfl), (e_w1 1105 (by decide +kernel) rfl), (e_w1 1106 (by decide +kernel) rfl), cy_X7_bakedDoor⟩
theorem cy_X7_bakingHours : e_cY mX7_bakingHours 1 := ⟨(e_w1 1 (by decide +kernel) rfl), (e_w1 1120 (by decide +kernel) rfl), ⟨by decide, by decide, by decide +kernel⟩, by decide⟩
theorem cv_RL_90 : e_cV RL 90 8 mX7_bakingHours 1 := ⟨"BiscuitLocks", Or.inl ⟨TX7, 9, by decide, rfl⟩, rfl, (e_w1 1117 (by decide +kernel) rfl), (e_w1 1118 (by decide +kernel) rfl), (e_w1 1119 (by decide +kernel) rfl), cy_X7_bakingHours⟩
theorem cy_X7_isBaking : e_cY mX7_isBaking 1 := ⟨(e_w1 1 (by decide +kernel) rfl), (e_w1 1127 (by decide +kernel) rfl), ⟨by decide, by decide, by decide +kernel⟩, by decide⟩
theorem cv_RL_93 : e_cV RL 93 8 mX7_isBaking 1 := ⟨"BiscuitLocks", Or.inl ⟨TX7, 9, by decide, rfl⟩, rfl, (e_w1 1124 (by decide +kernel) rfl), (e_w1 1125 (by decide +kernel) rfl), (e_w1 1126 (by decide +kernel) rfl), cy_X7_isBaking⟩
theorem cy_X7_doorByCrumbs : e_cY mX7_doorByCrumbs 1 := ⟨(e_w1 1 (by decide +kernel) rfl), (e_w1 1135 (by decide +kernel) rfl), ⟨by decide, by decide, by decide +kernel⟩, by decide⟩
theorem cv_RL_96 : e_cV RL 96 8 mX7_doorByCrumbs 1 := ⟨"BiscuitLocks", Or.inl ⟨TX7, 9, by decide, rfl⟩, rfl, (e_w1 1132 (by decide +kernel) rfl), (e_w1 1133 (by decide +kernel) rfl), (e_w1 1134 (by decide +kernel) rfl), cy_X7_doorByCrumbs⟩
theorem cy_X7_triedDoor : e_cY mX7_triedDoor 1 := ⟨(e_w1 1 (by decide +kernel) rfl), (e_w1 1152 (by decide +kernel) rfl), ⟨by decide, by decide, by decide +kernel⟩, by decide⟩
theorem cv_RL_99 : e_cV RL 99 8 mX7_triedDoor 1 := ⟨"BiscuitLocks", Or.inl ⟨TX7, 9, by decide, rfl⟩, rfl, (e_w1 1149 (by decide +kernel) rfl), (e_w1 1150 (by decide +kernel) rfl), (e_w1 1151 (by decide +kernel) rfl), cy_X7_triedDoor⟩
theorem cy_X7_didOpen : e_cY mX7_didOpen 1 := ⟨(e_w1 1 (by decide +kernel) rfl), (e_w1 1164 (by decide +kernel) rfl), ⟨by decide, by decide, by decide +kernel⟩, by decide⟩
theorem cv_RL_102 : e_cV RL 102 8 mX7_didOpen 1 := ⟨"BiscuitLocks", Or.inl ⟨TX7, 9, by decide, rfl⟩, rfl, (e_w1 1161 (by decide +kernel) rfl), (e_w1 1162 (by decide +kernel) rfl), (e_w1 1163 (by decide +kernel) rfl), cy_X7_didOpen⟩
theorem cy_X7_meanCrumbs : e_cY mX7_meanCrumbs 0 := ⟨(e_w1 1 (by decide +kernel) rfl), (e_w1 1185 (by decide +kernel) rfl), ⟨by decide, by decide, by decide +kernel⟩, by decide⟩
theorem cv_RL_105 : e_cV RL 105 8 mX7_meanCrumbs 0 := ⟨"BiscuitLocks", Or.inl ⟨TX7, 9, by decide, rfl⟩, rfl, (e_w1 1182 (by decide +kernel) rfl), (e_w1 1183 (by decide +kernel) rfl), (e_w1 1184 (by decide +kernel) rfl), cy_X7_meanCrumbs⟩
theorem cy_X7_openedShare : e_cY mX7_openedShare 0 := ⟨(e_w1 1 (by decide +kernel) rfl), (e_w1 1195 (by decide +kernel) rfl), ⟨by decide, by decide, by decide +kernel⟩, by decide⟩
theorem cv_RL_111 : e_cV RL 111 8 mX7_openedShare 0 := ⟨"BiscuitLocks", Or.inl ⟨TX7, 9, by decide, rfl⟩, rfl, (e_w1 1192 (by decide +kernel) rfl), (e_w1 1193 (by decide +kernel) rfl), (e_w1 1194 (by decide +kernel) rfl), cy_X7_openedShare⟩
theorem cy_X7_renderLock : e_cY mX7_renderLock 1 := ⟨(e_w1 1 (by decide +kernel) rfl), (e_w1 1203 (by decide +kernel) rfl), ⟨by decide, by decide, by decide +kernel⟩, by decide⟩
theorem cv_RL_115 : e_cV RL 115 8 mX7_renderLock 1 := ⟨"BiscuitLocks", Or.inl ⟨TX7, 9, by decide, rfl⟩, rfl, (e_w1 1200 (by decide +kernel) rfl), (e_w1 1201 (by decide +kernel) rfl), (e_w1 1202 (by decide +kernel) rfl), cy_X7_renderLock⟩
theorem cy_X7_outputAt : e_cY mX7_outputAt 1 := ⟨(e_w1 1 (by decide +kernel) rfl), (e_w1 1214 (by decide +kernel) rfl), ⟨by decide, by decide, by decide +kernel⟩, by decide⟩
theorem cv_RL_118 : e_cV RL 118 8 mX7_outputAt 1 := ⟨"BiscuitLocks", Or.inl ⟨TX7, 9, by decide, rfl⟩, rfl, (e_w1 1211 (by decide +kernel) rfl), (e_w1 1212 (by decide +kernel) rfl), (e_w1 1213 (by decide +kernel) rfl), cy_X7_outputAt⟩
theorem cy_X7_type : e_cY mX7_type 1 := ⟨(e_w1 1 (by decide +kernel) rfl), (e_w1 1232 (by decide +kernel) rfl), ⟨by decide, by decide, by decide +kernel⟩, by decide⟩
theorem cv_RL_122 : e_cV RL 122 8 mX7_type 1 := ⟨"BiscuitLocks", Or.inl ⟨TX7, 9, by decide, rfl⟩, rfl, (e_w1 1229 (by decide +kernel) rfl), (e_w1 1230 (by decide +kernel) rfl), (e_w1 1231 (by decide +kernel) rfl), cy_X7_type⟩
theorem cy_X7_runScript : e_cY mX7_runScript 0 := ⟨(e_w1 1 (by decide +kernel) rfl), (e_w1 1241 (by decide +kernel) rfl), ⟨by decide, by decide, by decide +kernel⟩, by decide⟩
theorem cv_RL_126 : e_cV RL 126 8 mX7_runScript 0 := ⟨"BiscuitLocks", Or.inl ⟨TX7, 9, by decide, rfl⟩, rfl, (e_w1 1238 (by decide +kernel) rfl), (e_w1 1239 (by decide +kernel) rfl), (e_w1 1240 (by decide +kernel) rfl), cy_X7_runScript⟩
theorem cy_X7_errorPosition : e_cY mX7_errorPosition 0 := ⟨(e_w1 1 (by decide +kernel) rfl), (e_w1 1301 (by decide +kernel) rfl), ⟨by decide, by decide, by decide +kernel⟩, by decide⟩
theorem cv_RL_130 : e_cV RL 130 8 mX7_errorPosition 0 := ⟨"BiscuitLocks", Or.inl ⟨TX7, 9, by decide, rfl⟩, rfl, (e_w1 1298 (by decide +kernel) rfl), (e_w1 1299 (by decide +kernel) rfl), (e_w1 1300 (by decide +kernel) rfl), cy_X7_errorPosition⟩
theorem cy_X7_failedCommand : e_cY mX7_failedCommand 0 := ⟨(e_w1 1 (by decide +kernel) rfl), (e_w1 1309 (by decide +kernel) rfl), ⟨by decide, by decide, by decide +kernel⟩, by decide⟩
theorem cv_RL_133 : e_cV RL 133 8 mX7_failedCommand 0 := ⟨"BiscuitLocks", Or.inl ⟨TX7, 9, by decide, rfl⟩, rfl, (e_w1 1306 (by decide +kernel) rfl), (e_w1 1307 (by decide +kernel) rfl), (e_w1 1308 (by decide +kernel) rfl), cy_X7_failedCommand⟩
theorem cy_X7_undo : e_cY mX7_undo 0 := ⟨(e_w1 1 (by decide +kernel) rfl), (e_w1 1317 (by decide +kernel) rfl), ⟨by decide, by decide, by decide +kernel⟩, by decide⟩
theorem cv_RL_136 : e_cV RL 136 8 mX7_undo 0 := ⟨"BiscuitLocks", Or.inl ⟨TX7, 9, by decide, rfl⟩, rfl, (e_w1 1314 (by decide +kernel) rfl), (e_w1 1315 (by decide +kernel) rfl), (e_w1 1316 (by decide +kernel) rfl), cy_X7_undo⟩
theorem cy_X7_restore : e_cY mX7_restore 0 := ⟨(e_w1 1 (by decide +kernel) rfl), (e_w1 1329 (by decide +kernel) rfl), ⟨by decide, by decide, by decide +kernel⟩, by decide⟩
theorem cv_RL_139 : e_cV RL 139 8 mX7_restore 0 := ⟨"BiscuitLocks", Or.inl ⟨TX7, 9, by decide, rfl⟩, rfl, (e_w1 1326 (by decide +kernel) rfl), (e_w1 1327 (by decide +kernel) rfl), (e_w1 1328 (by decide +kernel) rfl), cy_X7_restore⟩
theorem nw_RL_8 : e_cN RL 8 8 9 [vN, vN, vN, vN, vN, vN, vI 0, vI 0, vI 0] := ⟨RX7, TX7, by decide, rfl, (e_w1 34 (by decide +kernel) rfl), (e_w1 35 (by decide +kernel) rfl), (e_w1 1 (by decide +kernel) rfl), u_RX7, by simp [e_wfS, e_wfV], tyX7, tyX7_ok, by decide +kernel⟩
theorem cy_X7_init : e_cY mX7_init 0 := ⟨(e_w1 1 (by decide +kernel) rfl), (e_w1 38 (by decide +kernel) rfl), ⟨by decide, by decide, by decide +kernel⟩, by decide⟩
theorem ci_RL_142 : e_cI RL 142 mX7_init 0 := ⟨rfl, rfl, rfl, (e_w1 36 (by decide +kernel) rfl), (e_w1 37 (by decide +kernel) rfl), cy_X7_init⟩
theorem nw_RL_143 : e_cN RL 143 9 18 [vN, vN, vN, vN, vN, vI 0, vI 0, vI 0, vI 0, vI 0, vI 0, vN, vI 0, vN, vN, vI 0, vI 0, vI 0] := ⟨RX8, TX8, by decide, rfl, (e_w1 1331 (by decide +kernel) rfl), (e_w1 1332 (by decide +kernel) rfl), (e_w1 10 (by decide +kernel) rfl), u_RX8, by simp [e_wfS, e_wfV], tyX8, tyX8_ok, by decide +kernel⟩
theorem cy_X8_init : e_cY mX8_init 0 := ⟨(e_w1 10 (by decide +kernel) rfl), (e_w1 1335 (by decide +kernel) rfl), ⟨by decide, by decide, by decide +kernel⟩, by decide⟩
theorem ci_RL_145 : e_cI RL 145 mX8_init 0 := ⟨rfl, rfl, rfl, (e_w1 1333 (by decide +kernel) rfl), (e_w1 1334 (by decide +kernel) rfl), cy_X8_init⟩
theorem cy_L_addDoor : e_cY mL_addDoor 5 := ⟨(e_w1 0 (by decide +kernel) rfl), (e_w1 707 (by decide +kernel) rfl), ⟨by decide, by decide, by decide +kernel⟩, by decide⟩
theorem cs_RL_146 : e_cSX RL 146 mL_addDoor 5 := ⟨by decide, (e_w1 705 (by decide +kernel) rfl), (e_w1 706 (by decide +kernel) rfl), cy_L_addDoor⟩
theorem cy_X8_addDoor : e_cY mX8_addDoor 3 := ⟨(e_w1 10 (by decide +kernel) rfl), (e_w1 1399 (by decide +kernel) rfl), ⟨by decide, by decide, by decide +kernel⟩, by decide⟩
theorem cv_RL_151 : e_cV RL 151 9 mX8_addDoor 3 := ⟨"BiscuitLocksModel", Or.inl ⟨TX8, 18, by decide, rfl⟩, rfl, (e_w1 1396 (by decide +kernel) rfl), (e_w1 1397 (by decide +kernel) rfl), (e_w1 1398 (by decide +kernel) rfl), cy_X8_addDoor⟩
theorem cy_X8_thrown : e_cY mX8_thrown 0 := ⟨(e_w1 10 (by decide +kernel) rfl), (e_w1 1395 (by decide +kernel) rfl), ⟨by decide, by decide, by decide +kernel⟩, by decide⟩
theorem cv_RL_152 : e_cV RL 152 9 mX8_thrown 0 := ⟨"BiscuitLocksModel", Or.inl ⟨TX8, 18, by decide, rfl⟩, rfl, (e_w1 1392 (by decide +kernel) rfl), (e_w1 1393 (by decide +kernel) rfl), (e_w1 1394 (by decide +kernel) rfl), cy_X8_thrown⟩
theorem cy_L_turn : e_cY mL_turn 5 := ⟨(e_w1 0 (by decide +kernel) rfl), (e_w1 909 (by decide +kernel) rfl), ⟨by decide, by decide, by decide +kernel⟩, by decide⟩
theorem cs_RL_155 : e_cSX RL 155 mL_turn 5 := ⟨by decide, (e_w1 907 (by decide +kernel) rfl), (e_w1 908 (by decide +kernel) rfl), cy_L_turn⟩
theorem cy_X8_turn : e_cY mX8_turn 3 := ⟨(e_w1 10 (by decide +kernel) rfl), (e_w1 1436 (by decide +kernel) rfl), ⟨by decide, by decide, by decide +kernel⟩, by decide⟩
theorem cv_RL_157 : e_cV RL 157 9 mX8_turn 3 := ⟨"BiscuitLocksModel", Or.inl ⟨TX8, 18, by decide, rfl⟩, rfl, (e_w1 1433 (by decide +kernel) rfl), (e_w1 1434 (by decide +kernel) rfl), (e_w1 1435 (by decide +kernel) rfl), cy_X8_turn⟩
theorem cy_L_tryLock : e_cY mL_tryLock 3 := ⟨(e_w1 0 (by decide +kernel) rfl), (e_w1 921 (by decide +kernel) rfl), ⟨by decide, by decide, by decide +kernel⟩, by decide⟩
theorem cs_RL_158 : e_cSX RL 158 mL_tryLock 3 := ⟨by decide, (e_w1 919 (by decide +kernel) rfl), (e_w1 920 (by decide +kernel) rfl), cy_L_tryLock⟩
theorem cy_X8_tryLock : e_cY mX8_tryLock 1 := ⟨(e_w1 10 (by decide +kernel) rfl), (e_w1 1459 (by decide +kernel) rfl), ⟨by decide, by decide, by decide +kernel⟩, by decide⟩
theorem cv_RL_161 : e_cV RL 161 9 mX8_tryLock 1 := ⟨"BiscuitLocksModel", Or.inl ⟨TX8, 18, by decide, rfl⟩, rfl, (e_w1 1456 (by decide +kernel) rfl), (e_w1 1457 (by decide +kernel) rfl), (e_w1 1458 (by decide +kernel) rfl), cy_X8_tryLock⟩
theorem cy_L_shut : e_cY mL_shut 3 := ⟨(e_w1 0 (by decide +kernel) rfl), (e_w1 930 (by decide +kernel) rfl), ⟨by decide, by decide, by decide +kernel⟩, by decide⟩
theorem cs_RL_162 : e_cSX RL 162 mL_shut 3 := ⟨by decide, (e_w1 928 (by decide +kernel) rfl), (e_w1 929 (by decide +kernel) rfl), cy_L_shut⟩
theorem cy_X8_shut : e_cY mX8_shut 1 := ⟨(e_w1 10 (by decide +kernel) rfl), (e_w1 1490 (by decide +kernel) rfl), ⟨by decide, by decide, by decide +kernel⟩, by decide⟩
theorem cv_RL_164 : e_cV RL 164 9 mX8_shut 1 := ⟨"BiscuitLocksModel", Or.inl ⟨TX8, 18, by decide, rfl⟩, rfl, (e_w1 1487 (by decide +kernel) rfl), (e_w1 1488 (by decide +kernel) rfl), (e_w1 1489 (by decide +kernel) rfl), cy_X8_shut⟩
theorem cy_L_setCombination : e_cY mL_setCombination 6 := ⟨(e_w1 0 (by decide +kernel) rfl), (e_w1 940 (by decide +kernel) rfl), ⟨by decide, by decide, by decide +kernel⟩, by decide⟩
theorem cs_RL_165 : e_cSX RL 165 mL_setCombination 6 := ⟨by decide, (e_w1 938 (by decide +kernel) rfl), (e_w1 939 (by decide +kernel) rfl), cy_L_setCombination⟩
theorem cy_X8_setCombination : e_cY mX8_setCombination 4 := ⟨(e_w1 10 (by decide +kernel) rfl), (e_w1 1502 (by decide +kernel) rfl), ⟨by decide, by decide, by decide +kernel⟩, by decide⟩
theorem cv_RL_168 : e_cV RL 168 9 mX8_setCombination 4 := ⟨"BiscuitLocksModel", Or.inl ⟨TX8, 18, by decide, rfl⟩, rfl, (e_w1 1499 (by decide +kernel) rfl), (e_w1 1500 (by decide +kernel) rfl), (e_w1 1501 (by decide +kernel) rfl), cy_X8_setCombination⟩
theorem cy_L_setDamp : e_cY mL_setDamp 3 := ⟨(e_w1 0 (by decide +kernel) rfl), (e_w1 949 (by decide +kernel) rfl), ⟨by decide, by decide, by decide +kernel⟩, by decide⟩
theorem cs_RL_169 : e_cSX RL 169 mL_setDamp 3 := ⟨by decide, (e_w1 947 (by decide +kernel) rfl), (e_w1 948 (by decide +kernel) rfl), cy_L_setDamp⟩
theorem cy_X8_setDamp : e_cY mX8_setDamp 1 := ⟨(e_w1 10 (by decide +kernel) rfl), (e_w1 1510 (by decide +kernel) rfl), ⟨by decide, by decide, by decide +kernel⟩, by decide⟩
theorem cv_RL_171 : e_cV RL 171 9 mX8_setDamp 1 := ⟨"BiscuitLocksModel", Or.inl ⟨TX8, 18, by decide, rfl⟩, rfl, (e_w1 1507 (by decide +kernel) rfl), (e_w1 1508 (by decide +kernel) rfl), (e_w1 1509 (by decide +kernel) rfl), cy_X8_setDamp⟩
theorem cy_L_bake : e_cY mL_bake 4 := ⟨(e_w1 0 (by decide +kernel) rfl), (e_w1 958 (by decide +kernel) rfl), ⟨by decide, by decide, by decide +kernel⟩, by decide⟩
theorem cs_RL_172 : e_cSX RL 172 mL_bake 4 := ⟨by decide, (e_w1 956 (by decide +kernel) rfl), (e_w1 957 (by decide +kernel) rfl), cy_L_bake⟩
theorem cy_X8_bake : e_cY mX8_bake 2 := ⟨(e_w1 10 (by decide +kernel) rfl), (e_w1 1518 (by decide +kernel) rfl), ⟨by decide, by decide, by decide +kernel⟩, by decide⟩
theorem cv_RL_175 : e_cV RL 175 9 mX8_bake 2 := ⟨"BiscuitLocksModel", Or.inl ⟨TX8, 18, by decide, rfl⟩, rfl, (e_w1 1515 (by decide +kernel) rfl), (e_w1 1516 (by decide +kernel) rfl), (e_w1 1517 (by decide +kernel) rfl), cy_X8_bake⟩
theorem cy_L_passHours : e_cY mL_passHours 3 := ⟨(e_w1 0 (by decide +kernel) rfl), (e_w1 967 (by decide +kernel) rfl), ⟨by decide, by decide, by decide +kernel⟩, by decide⟩
theorem cs_RL_176 : e_cSX RL 176 mL_passHours 3 := ⟨by decide, (e_w1 965 (by decide +kernel) rfl), (e_w1 966 (by decide +kernel) rfl), cy_L_passHours⟩
theorem cy_X8_passHours : e_cY mX8_passHours 1 := ⟨(e_w1 10 (by decide +kernel) rfl), (e_w1 1537 (by decide +kernel) rfl), ⟨by decide, by decide, by decide +kernel⟩, by decide⟩
theorem cv_RL_178 : e_cV RL 178 9 mX8_passHours 1 := ⟨"BiscuitLocksModel", Or.inl ⟨TX8, 18, by decide, rfl⟩, rfl, (e_w1 1534 (by decide +kernel) rfl), (e_w1 1535 (by decide +kernel) rfl), (e_w1 1536 (by decide +kernel) rfl), cy_X8_passHours⟩
theorem cy_X7_doorCount : e_cY mX7_doorCount 0 := ⟨(e_w1 1 (by decide +kernel) rfl), (e_w1 235 (by decide +kernel) rfl), ⟨by decide, by decide, by decide +kernel⟩, by decide⟩
theorem cv_RL_179 : e_cV RL 179 8 mX7_doorCount 0 := ⟨"BiscuitLocks", Or.inl ⟨TX7, 9, by decide, rfl⟩, rfl, (e_w1 232 (by decide +kernel) rfl), (e_w1 233 (by decide +kernel) rfl), (e_w1 234 (by decide +kernel) rfl), cy_X7_doorCount⟩
theorem cy_X8_doorCount : e_cY mX8_doorCount 0 := ⟨(e_w1 10 (by decide +kernel) rfl), (e_w1 1557 (by decide +kernel) rfl), ⟨by decide, by decide, by decide +kernel⟩, by decide⟩
theorem cv_RL_182 : e_cV RL 182 9 mX8_doorCount 0 := ⟨"BiscuitLocksModel", Or.inl ⟨TX8, 18, by decide, rfl⟩, rfl, (e_w1 1554 (by decide +kernel) rfl), (e_w1 1555 (by decide +kernel) rfl), (e_w1 1556 (by decide +kernel) rfl), cy_X8_doorCount⟩
theorem cy_L_dial : e_cY mL_dial 4 := ⟨(e_w1 0 (by decide +kernel) rfl), (e_w1 976 (by decide +kernel) rfl), ⟨by decide, by decide, by decide +kernel⟩, by decide⟩
theorem cs_RL_183 : e_cSX RL 183 mL_dial 4 := ⟨by decide, (e_w1 974 (by decide +kernel) rfl), (e_w1 975 (by decide +kernel) rfl), cy_L_dial⟩
theorem cy_X8_dial : e_cY mX8_dial 2 := ⟨(e_w1 10 (by decide +kernel) rfl), (e_w1 1561 (by decide +kernel) rfl), ⟨by decide, by decide, by decide +kernel⟩, by decide⟩
theorem cv_RL_185 : e_cV RL 185 9 mX8_dial 2 := ⟨"BiscuitLocksModel", Or.inl ⟨TX8, 18, by decide, rfl⟩, rfl, (e_w1 1558 (by decide +kernel) rfl), (e_w1 1559 (by decide +kernel) rfl), (e_w1 1560 (by decide +kernel) rfl), cy_X8_dial⟩
theorem cy_L_combination : e_cY mL_combination 4 := ⟨(e_w1 0 (by decide +kernel) rfl), (e_w1 994 (by decide +kernel) rfl), ⟨by decide, by decide, by decide +kernel⟩, by decide⟩
theorem cs_RL_186 : e_cSX RL 186 mL_combination 4 := ⟨by decide, (e_w1 992 (by decide +kernel) rfl), (e_w1 993 (by decide +kernel) rfl), cy_L_combination⟩
theorem cy_X8_combination : e_cY mX8_combination 2 := ⟨(e_w1 10 (by decide +kernel) rfl), (e_w1 1565 (by decide +kernel) rfl), ⟨by decide, by decide, by decide +kernel⟩, by decide⟩
theorem cv_RL_188 : e_cV RL 188 9 mX8_combination 2 := ⟨"BiscuitLocksModel", Or.inl ⟨TX8, 18, by decide, rfl⟩, rfl, (e_w1 1562 (by decide +kernel) rfl), (e_w1 1563 (by decide +kernel) rfl), (e_w1 1564 (by decide +kernel) rfl), cy_X8_combination⟩
theorem cy_L_isOpen : e_cY mL_isOpen 3 := ⟨(e_w1 0 (by decide +kernel) rfl), (e_w1 1001 (by decide +kernel) rfl), ⟨by decide, by decide, by decide +kernel⟩, by decide⟩
theorem cs_RL_189 : e_cSX RL 189 mL_isOpen 3 := ⟨by decide, (e_w1 999 (by decide +kernel) rfl), (e_w1 1000 (by decide +kernel) rfl), cy_L_isOpen⟩
theorem cy_X8_isOpen : e_cY mX8_isOpen 1 := ⟨(e_w1 10 (by decide +kernel) rfl), (e_w1 1569 (by decide +kernel) rfl), ⟨by decide, by decide, by decide +kernel⟩, by decide⟩
theorem cv_RL_191 : e_cV RL 191 9 mX8_isOpen 1 := ⟨"BiscuitLocksModel", Or.inl ⟨TX8, 18, by decide, rfl⟩, rfl, (e_w1 1566 (by decide +kernel) rfl), (e_w1 1567 (by decide +kernel) rfl), (e_w1 1568 (by decide +kernel) rfl), cy_X8_isOpen⟩
theorem cy_L_isBroken : e_cY mL_isBroken 3 := ⟨(e_w1 0 (by decide +kernel) rfl), (e_w1 1008 (by decide +kernel) rfl), ⟨by decide, by decide, by decide +kernel⟩, by decide⟩
theorem cs_RL_192 : e_cSX RL 192 mL_isBroken 3 := ⟨by decide, (e_w1 1006 (by decide +kernel) rfl), (e_w1 1007 (by decide +kernel) rfl), cy_L_isBroken⟩
theorem cy_X8_isBroken : e_cY mX8_isBroken 1 := ⟨(e_w1 10 (by decide +kernel) rfl), (e_w1 1573 (by decide +kernel) rfl), ⟨by decide, by decide, by decide +kernel⟩, by decide⟩
theorem cv_RL_194 : e_cV RL 194 9 mX8_isBroken 1 := ⟨"BiscuitLocksModel", Or.inl ⟨TX8, 18, by decide, rfl⟩, rfl, (e_w1 1570 (by decide +kernel) rfl), (e_w1 1571 (by decide +kernel) rfl), (e_w1 1572 (by decide +kernel) rfl), cy_X8_isBroken⟩
theorem cy_L_crumbs : e_cY mL_crumbs 3 := ⟨(e_w1 0 (by decide +kernel) rfl), (e_w1 1015 (by decide +kernel) rfl), ⟨by decide, by decide, by decide +kernel⟩, by decide⟩
theorem cs_RL_195 : e_cSX RL 195 mL_crumbs 3 := ⟨by decide, (e_w1 1013 (by decide +kernel) rfl), (e_w1 1014 (by decide +kernel) rfl), cy_L_crumbs⟩
theorem cy_X8_crumbs : e_cY mX8_crumbs 1 := ⟨(e_w1 10 (by decide +kernel) rfl), (e_w1 1577 (by decide +kernel) rfl), ⟨by decide, by decide, by decide +kernel⟩, by decide⟩
theorem cv_RL_197 : e_cV RL 197 9 mX8_crumbs 1 := ⟨"BiscuitLocksModel", Or.inl ⟨TX8, 18, by decide, rfl⟩, rfl, (e_w1 1574 (by decide +kernel) rfl), (e_w1 1575 (by decide +kernel) rfl), (e_w1 1576 (by decide +kernel) rfl), cy_X8_crumbs⟩
theorem cy_L_play : e_cY mL_play 3 := ⟨(e_w1 0 (by decide +kernel) rfl), (e_w1 1022 (by decide +kernel) rfl), ⟨by decide, by decide, by decide +kernel⟩, by decide⟩
theorem cs_RL_198 : e_cSX RL 198 mL_play 3 := ⟨by decide, (e_w1 1020 (by decide +kernel) rfl), (e_w1 1021 (by decide +kernel) rfl), cy_L_play⟩
theorem cy_X8_play : e_cY mX8_play 1 := ⟨(e_w1 10 (by decide +kernel) rfl), (e_w1 1581 (by decide +kernel) rfl), ⟨by decide, by decide, by decide +kernel⟩, by decide⟩
theorem cv_RL_200 : e_cV RL 200 9 mX8_play 1 := ⟨"BiscuitLocksModel", Or.inl ⟨TX8, 18, by decide, rfl⟩, rfl, (e_w1 1578 (by decide +kernel) rfl), (e_w1 1579 (by decide +kernel) rfl), (e_w1 1580 (by decide +kernel) rfl), cy_X8_play⟩
theorem cy_L_fittingDials : e_cY mL_fittingDials 3 := ⟨(e_w1 0 (by decide +kernel) rfl), (e_w1 1030 (by decide +kernel) rfl), ⟨by decide, by decide, by decide +kernel⟩, by decide⟩
theorem cs_RL_201 : e_cSX RL 201 mL_fittingDials 3 := ⟨by decide, (e_w1 1028 (by decide +kernel) rfl), (e_w1 1029 (by decide +kernel) rfl), cy_L_fittingDials⟩
theorem cy_X8_fittingDials : e_cY mX8_fittingDials 1 := ⟨(e_w1 10 (by decide +kernel) rfl), (e_w1 1585 (by decide +kernel) rfl), ⟨by decide, by decide, by decide +kernel⟩, by decide⟩
theorem cv_RL_203 : e_cV RL 203 9 mX8_fittingDials 1 := ⟨"BiscuitLocksModel", Or.inl ⟨TX8, 18, by decide, rfl⟩, rfl, (e_w1 1582 (by decide +kernel) rfl), (e_w1 1583 (by decide +kernel) rfl), (e_w1 1584 (by decide +kernel) rfl), cy_X8_fittingDials⟩
theorem cy_L_stepsToOpen : e_cY mL_stepsToOpen 3 := ⟨(e_w1 0 (by decide +kernel) rfl), (e_w1 1038 (by decide +kernel) rfl), ⟨by decide, by decide, by decide +kernel⟩, by decide⟩
theorem cs_RL_204 : e_cSX RL 204 mL_stepsToOpen 3 := ⟨by decide, (e_w1 1036 (by decide +kernel) rfl), (e_w1 1037 (by decide +kernel) rfl), cy_L_stepsToOpen⟩
theorem cv_RL_206 : e_cV RL 206 9 mX8_stepsToOpen 1 := ⟨"BiscuitLocksModel", Or.inl ⟨TX8, 18, by decide, rfl⟩, rfl, (e_w1 1586 (by decide +kernel) rfl), (e_w1 1587 (by decide +kernel) rfl), (e_w1 1588 (by decide +kernel) rfl), cy_X8_stepsToOpen⟩
theorem cy_L_stepsToOpenByTurning : e_cY mL_stepsToOpenByTurning 3 := ⟨(e_w1 0 (by decide +kernel) rfl), (e_w1 1045 (by decide +kernel) rfl), ⟨by decide, by decide, by decide +kernel⟩, by decide⟩
theorem cs_RL_207 : e_cSX RL 207 mL_stepsToOpenByTurning 3 := ⟨by decide, (e_w1 1043 (by decide +kernel) rfl), (e_w1 1044 (by decide +kernel) rfl), cy_L_stepsToOpenByTurning⟩
theorem cy_X8_stepsToOpenByTurning : e_cY mX8_stepsToOpenByTurning 1 := ⟨(e_w1 10 (by decide +kernel) rfl), (e_w1 1597 (by decide +kernel) rfl), ⟨by decide, by decide, by decide +kernel⟩, by decide⟩
theorem cv_RL_209 : e_cV RL 209 9 mX8_stepsToOpenByTurning 1 := ⟨"BiscuitLocksModel", Or.inl ⟨TX8, 18, by decide, rfl⟩, rfl, (e_w1 1594 (by decide +kernel) rfl), (e_w1 1595 (by decide +kernel) rfl), (e_w1 1596 (by decide +kernel) rfl), cy_X8_stepsToOpenByTurning⟩
theorem cy_L_openingSettings : e_cY mL_openingSettings 3 := ⟨(e_w1 0 (by decide +kernel) rfl), (e_w1 1052 (by decide +kernel) rfl), ⟨by decide, by decide, by decide +kernel⟩, by decide⟩
theorem cs_RL_210 : e_cSX RL 210 mL_openingSettings 3 := ⟨by decide, (e_w1 1050 (by decide +kernel) rfl), (e_w1 1051 (by decide +kernel) rfl), cy_L_openingSettings⟩
theorem cy_X8_openingSettings : e_cY mX8_openingSettings 1 := ⟨(e_w1 10 (by decide +kernel) rfl), (e_w1 1602 (by decide +kernel) rfl), ⟨by decide, by decide, by decide +kernel⟩, by decide⟩
theorem cv_RL_212 : e_cV RL 212 9 mX8_openingSettings 1 := ⟨"BiscuitLocksModel", Or.inl ⟨TX8, 18, by decide, rfl⟩, rfl, (e_w1 1599 (by decide +kernel) rfl), (e_w1 1600 (by decide +kernel) rfl), (e_w1 1601 (by decide +kernel) rfl), cy_X8_openingSettings⟩
theorem cy_L_triesUntilBroken : e_cY mL_triesUntilBroken 3 := ⟨(e_w1 0 (by decide +kernel) rfl), (e_w1 1059 (by decide +kernel) rfl), ⟨by decide, by decide, by decide +kernel⟩, by decide⟩
theorem cs_RL_213 : e_cSX RL 213 mL_triesUntilBroken 3 := ⟨by decide, (e_w1 1057 (by decide +kernel) rfl), (e_w1 1058 (by decide +kernel) rfl), cy_L_triesUntilBroken⟩
theorem cy_X8_triesUntilBroken : e_cY mX8_triesUntilBroken 1 := ⟨(e_w1 10 (by decide +kernel) rfl), (e_w1 1606 (by decide +kernel) rfl), ⟨by decide, by decide, by decide +kernel⟩, by decide⟩
theorem cv_RL_215 : e_cV RL 215 9 mX8_triesUntilBroken 1 := ⟨"BiscuitLocksModel", Or.inl ⟨TX8, 18, by decide, rfl⟩, rfl, (e_w1 1603 (by decide +kernel) rfl), (e_w1 1604 (by decide +kernel) rfl), (e_w1 1605 (by decide +kernel) rfl), cy_X8_triesUntilBroken⟩
theorem cy_L_dialAfter : e_cY mL_dialAfter 5 := ⟨(e_w1 0 (by decide +kernel) rfl), (e_w1 1085 (by decide +kernel) rfl), ⟨by decide, by decide, by decide +kernel⟩, by decide⟩
theorem cs_RL_216 : e_cSX RL 216 mL_dialAfter 5 := ⟨by decide, (e_w1 1083 (by decide +kernel) rfl), (e_w1 1084 (by decide +kernel) rfl), cy_L_dialAfter⟩
theorem cy_X8_dialAfter : e_cY mX8_dialAfter 3 := ⟨(e_w1 10 (by decide +kernel) rfl), (e_w1 1610 (by decide +kernel) rfl), ⟨by decide, by decide, by decide +kernel⟩, by decide⟩
theorem cv_RL_218 : e_cV RL 218 9 mX8_dialAfter 3 := ⟨"BiscuitLocksModel", Or.inl ⟨TX8, 18, by decide, rfl⟩, rfl, (e_w1 1607 (by decide +kernel) rfl), (e_w1 1608 (by decide +kernel) rfl), (e_w1 1609 (by decide +kernel) rfl), cy_X8_dialAfter⟩
theorem cy_L_hoursUntilFitting : e_cY mL_hoursUntilFitting 3 := ⟨(e_w1 0 (by decide +kernel) rfl), (e_w1 1094 (by decide +kernel) rfl), ⟨by decide, by decide, by decide +kernel⟩, by decide⟩
theorem cs_RL_219 : e_cSX RL 219 mL_hoursUntilFitting 3 := ⟨by decide, (e_w1 1092 (by decide +kernel) rfl), (e_w1 1093 (by decide +kernel) rfl), cy_L_hoursUntilFitting⟩
theorem cy_X8_hoursUntilFitting : e_cY mX8_hoursUntilFitting 1 := ⟨(e_w1 10 (by decide +kernel) rfl), (e_w1 1614 (by decide +kernel) rfl), ⟨by decide, by decide, by decide +kernel⟩, by decide⟩
theorem cv_RL_221 : e_cV RL 221 9 mX8_hoursUntilFitting 1 := ⟨"BiscuitLocksModel", Or.inl ⟨TX8, 18, by decide, rfl⟩, rfl, (e_w1 1611 (by decide +kernel) rfl), (e_w1 1612 (by decide +kernel) rfl), (e_w1 1613 (by decide +kernel) rfl), cy_X8_hoursUntilFitting⟩
theorem cy_L_bakedDoor : e_cY mL_bakedDoor 3 := ⟨(e_w1 0 (by decide +kernel) rfl), (e_w1 1103 (by decide +kernel) rfl), ⟨by decide, by decide, by decide +kernel⟩, by decide⟩
theorem cs_RL_222 : e_cSX RL 222 mL_bakedDoor 3 := ⟨by decide, (e_w1 1101 (by decide +kernel) rfl), (e_w1 1102 (by decide +kernel) rfl), cy_L_bakedDoor⟩
theorem cy_X8_bakedDoor : e_cY mX8_bakedDoor 1 := ⟨(e_w1 10 (by decide +kernel) rfl), (e_w1 1618 (by decide +kernel) rfl), ⟨by decide, by decide, by decide +kernel⟩, by decide⟩
theorem cv_RL_224 : e_cV RL 224 9 mX8_bakedDoor 1 := ⟨"BiscuitLocksModel", Or.inl ⟨TX8, 18, by decide, rfl⟩, rfl, (e_w1 1615 (by decide +kernel) rfl), (e_w1 1616 (by decide +kernel) rfl), (e_w1 1617 (by decide +kernel) rfl), cy_X8_bakedDoor⟩
theorem cy_L_bakingHours : e_cY mL_bakingHours 3 := ⟨(e_w1 0 (by decide +kernel) rfl), (e_w1 1116 (by decide +kernel) rfl), ⟨by decide, by decide, by decide +kernel⟩, by decide⟩
theorem cs_RL_225 : e_cSX RL 225 mL_bakingHours 3 := ⟨by decide, (e_w1 1114 (by decide +kernel) rfl), (e_w1 1115 (by decide +kernel) rfl), cy_L_bakingHours⟩
theorem cy_X8_bakingHours : e_cY mX8_bakingHours 1 := ⟨(e_w1 10 (by decide +kernel) rfl), (e_w1 1622 (by decide +kernel) rfl), ⟨by decide, by decide, by decide +kernel⟩, by decide⟩
theorem cv_RL_227 : e_cV RL 227 9 mX8_bakingHours 1 := ⟨"BiscuitLocksModel", Or.inl ⟨TX8, 18, by decide, rfl⟩, rfl, (e_w1 1619 (by decide +kernel) rfl), (e_w1 1620 (by decide +kernel) rfl), (e_w1 1621 (by decide +kernel) rfl), cy_X8_bakingHours⟩
theorem cy_L_isBaking : e_cY mL_isBaking 3 := ⟨(e_w1 0 (by decide +kernel) rfl), (e_w1 1123 (by decide +kernel) rfl), ⟨by decide, by decide, by decide +kernel⟩, by decide⟩
theorem cs_RL_228 : e_cSX RL 228 mL_isBaking 3 := ⟨by decide, (e_w1 1121 (by decide +kernel) rfl), (e_w1 1122 (by decide +kernel) rfl), cy_L_isBaking⟩
theorem cy_X8_isBaking : e_cY mX8_isBaking 1 := ⟨(e_w1 10 (by decide +kernel) rfl), (e_w1 1626 (by decide +kernel) rfl), ⟨by decide, by decide, by decide +kernel⟩, by decide⟩
theorem cv_RL_230 : e_cV RL 230 9 mX8_isBaking 1 := ⟨"BiscuitLocksModel", Or.inl ⟨TX8, 18, by decide, rfl⟩, rfl, (e_w1 1623 (by decide +kernel) rfl), (e_w1 1624 (by decide +kernel) rfl), (e_w1 1625 (by decide +kernel) rfl), cy_X8_isBaking⟩
theorem cy_L_doorByCrumbs : e_cY mL_doorByCrumbs 3 := ⟨(e_w1 0 (by decide +kernel) rfl), (e_w1 1131 (by decide +kernel) rfl), ⟨by decide, by decide, by decide +kernel⟩, by decide⟩
theorem cs_RL_231 : e_cSX RL 231 mL_doorByCrumbs 3 := ⟨by decide, (e_w1 1129 (by decide +kernel) rfl), (e_w1 1130 (by decide +kernel) rfl), cy_L_doorByCrumbs⟩
theorem cy_X8_doorByCrumbs : e_cY mX8_doorByCrumbs 1 := ⟨(e_w1 10 (by decide +kernel) rfl), (e_w1 1630 (by decide +kernel) rfl), ⟨by decide, by decide, by decide +kernel⟩, by decide⟩
theorem cv_RL_233 : e_cV RL 233 9 mX8_doorByCrumbs 1 := ⟨"BiscuitLocksModel", Or.inl ⟨TX8, 18, by decide, rfl⟩, rfl, (e_w1 1627 (by decide +kernel) rfl), (e_w1 1628 (by decide +kernel) rfl), (e_w1 1629 (by decide +kernel) rfl), cy_X8_doorByCrumbs⟩
theorem cy_X7_rememberedTries : e_cY mX7_rememberedTries 0 := ⟨(e_w1 1 (by decide +kernel) rfl), (e_w1 239 (by decide +kernel) rfl), ⟨by decide, by decide, by decide +kernel⟩, by decide⟩
theorem cv_RL_234 : e_cV RL 234 8 mX7_rememberedTries 0 := ⟨"BiscuitLocks", Or.inl ⟨TX7, 9, by decide, rfl⟩, rfl, (e_w1 236 (by decide +kernel) rfl), (e_w1 237 (by decide +kernel) rfl), (e_w1 238 (by decide +kernel) rfl), cy_X7_rememberedTries⟩
theorem cy_X8_rememberedTries : e_cY mX8_rememberedTries 0 := ⟨(e_w1 10 (by decide +kernel) rfl), (e_w1 1638 (by decide +kernel) rfl), ⟨by decide, by decide, by decide +kernel⟩, by decide⟩
theorem cv_RL_237 : e_cV RL 237 9 mX8_rememberedTries 0 := ⟨"BiscuitLocksModel", Or.inl ⟨TX8, 18, by decide, rfl⟩, rfl, (e_w1 1635 (by decide +kernel) rfl), (e_w1 1636 (by decide +kernel) rfl), (e_w1 1637 (by decide +kernel) rfl), cy_X8_rememberedTries⟩
theorem cy_L_triedDoor : e_cY mL_triedDoor 3 := ⟨(e_w1 0 (by decide +kernel) rfl), (e_w1 1148 (by decide +kernel) rfl), ⟨by decide, by decide, by decide +kernel⟩, by decide⟩
theorem cs_RL_238 : e_cSX RL 238 mL_triedDoor 3 := ⟨by decide, (e_w1 1146 (by decide +kernel) rfl), (e_w1 1147 (by decide +kernel) rfl), cy_L_triedDoor⟩
theorem cy_X8_triedDoor : e_cY mX8_triedDoor 1 := ⟨(e_w1 10 (by decide +kernel) rfl), (e_w1 1642 (by decide +kernel) rfl), ⟨by decide, by decide, by decide +kernel⟩, by decide⟩
theorem cv_RL_240 : e_cV RL 240 9 mX8_triedDoor 1 := ⟨"BiscuitLocksModel", Or.inl ⟨TX8, 18, by decide, rfl⟩, rfl, (e_w1 1639 (by decide +kernel) rfl), (e_w1 1640 (by decide +kernel) rfl), (e_w1 1641 (by decide +kernel) rfl), cy_X8_triedDoor⟩
theorem cy_L_didOpen : e_cY mL_didOpen 3 := ⟨(e_w1 0 (by decide +kernel) rfl), (e_w1 1160 (by decide +kernel) rfl), ⟨by decide, by decide, by decide +kernel⟩, by decide⟩
theorem cs_RL_241 : e_cSX RL 241 mL_didOpen 3 := ⟨by decide, (e_w1 1158 (by decide +kernel) rfl), (e_w1 1159 (by decide +kernel) rfl), cy_L_didOpen⟩
theorem cy_X8_didOpen : e_cY mX8_didOpen 1 := ⟨(e_w1 10 (by decide +kernel) rfl), (e_w1 1650 (by decide +kernel) rfl), ⟨by decide, by decide, by decide +kernel⟩, by decide⟩
theorem cv_RL_243 : e_cV RL 243 9 mX8_didOpen 1 := ⟨"BiscuitLocksModel", Or.inl ⟨TX8, 18, by decide, rfl⟩, rfl, (e_w1 1647 (by decide +kernel) rfl), (e_w1 1648 (by decide +kernel) rfl), (e_w1 1649 (by decide +kernel) rfl), cy_X8_didOpen⟩
theorem cy_X7_shutLocks : e_cY mX7_shutLocks 0 := ⟨(e_w1 1 (by decide +kernel) rfl), (e_w1 250 (by decide +kernel) rfl), ⟨by decide, by decide, by decide +kernel⟩, by decide⟩
theorem cv_RL_244 : e_cV RL 244 8 mX7_shutLocks 0 := ⟨"BiscuitLocks", Or.inl ⟨TX7, 9, by decide, rfl⟩, rfl, (e_w1 247 (by decide +kernel) rfl), (e_w1 248 (by decide +kernel) rfl), (e_w1 249 (by decide +kernel) rfl), cy_X7_shutLocks⟩
theorem cv_RL_247 : e_cV RL 247 9 mX8_shutLocks 0 := ⟨"BiscuitLocksModel", Or.inl ⟨TX8, 18, by decide, rfl⟩, rfl, (e_w1 1651 (by decide +kernel) rfl), (e_w1 1652 (by decide +kernel) rfl), (e_w1 1653 (by decide +kernel) rfl), cy_X8_shutLocks⟩
theorem cy_X7_shutLocksByAccounts : e_cY mX7_shutLocksByAccounts 0 := ⟨(e_w1 1 (by decide +kernel) rfl), (e_w1 258 (by decide +kernel) rfl), ⟨by decide, by decide, by decide +kernel⟩, by decide⟩
theorem cv_RL_248 : e_cV RL 248 8 mX7_shutLocksByAccounts 0 := ⟨"BiscuitLocks", Or.inl ⟨TX7, 9, by decide, rfl⟩, rfl, (e_w1 255 (by decide +kernel) rfl), (e_w1 256 (by decide +kernel) rfl), (e_w1 257 (by decide +kernel) rfl), cy_X7_shutLocksByAccounts⟩
theorem cy_X8_shutLocksByAccounts : e_cY mX8_shutLocksByAccounts 0 := ⟨(e_w1 10 (by decide +kernel) rfl), (e_w1 1658 (by decide +kernel) rfl), ⟨by decide, by decide, by decide +kernel⟩, by decide⟩
theorem cv_RL_251 : e_cV RL 251 9 mX8_shutLocksByAccounts 0 := ⟨"BiscuitLocksModel", Or.inl ⟨TX8, 18, by decide, rfl⟩, rfl, (e_w1 1655 (by decide +kernel) rfl), (e_w1 1656 (by decide +kernel) rfl), (e_w1 1657 (by decide +kernel) rfl), cy_X8_shutLocksByAccounts⟩
theorem cy_X7_damp : e_cY mX7_damp 0 := ⟨(e_w1 1 (by decide +kernel) rfl), (e_w1 266 (by decide +kernel) rfl), ⟨by decide, by decide, by decide +kernel⟩, by decide⟩
theorem cv_RL_252 : e_cV RL 252 8 mX7_damp 0 := ⟨"BiscuitLocks", Or.inl ⟨TX7, 9, by decide, rfl⟩, rfl, (e_w1 263 (by decide +kernel) rfl), (e_w1 264 (by decide +kernel) rfl), (e_w1 265 (by decide +kernel) rfl), cy_X7_damp⟩
theorem cy_X8_damp : e_cY mX8_damp 0 := ⟨(e_w1 10 (by decide +kernel) rfl), (e_w1 1663 (by decide +kernel) rfl), ⟨by decide, by decide, by decide +kernel⟩, by decide⟩
theorem cv_RL_255 : e_cV RL 255 9 mX8_damp 0 := ⟨"BiscuitLocksModel", Or.inl ⟨TX8, 18, by decide, rfl⟩, rfl, (e_w1 1660 (by decide +kernel) rfl), (e_w1 1661 (by decide +kernel) rfl), (e_w1 1662 (by decide +kernel) rfl), cy_X8_damp⟩
theorem cy_X7_hour : e_cY mX7_hour 0 := ⟨(e_w1 1 (by decide +kernel) rfl), (e_w1 270 (by decide +kernel) rfl), ⟨by decide, by decide, by decide +kernel⟩, by decide⟩
theorem cv_RL_256 : e_cV RL 256 8 mX7_hour 0 := ⟨"BiscuitLocks", Or.inl ⟨TX7, 9, by decide, rfl⟩, rfl, (e_w1 267 (by decide +kernel) rfl), (e_w1 268 (by decide +kernel) rfl), (e_w1 269 (by decide +kernel) rfl), cy_X7_hour⟩
theorem cy_X8_hour : e_cY mX8_hour 0 := ⟨(e_w1 10 (by decide +kernel) rfl), (e_w1 1667 (by decide +kernel) rfl), ⟨by decide, by decide, by decide +kernel⟩, by decide⟩
theorem cv_RL_259 : e_cV RL 259 9 mX8_hour 0 := ⟨"BiscuitLocksModel", Or.inl ⟨TX8, 18, by decide, rfl⟩, rfl, (e_w1 1664 (by decide +kernel) rfl), (e_w1 1665 (by decide +kernel) rfl), (e_w1 1666 (by decide +kernel) rfl), cy_X8_hour⟩
theorem cy_X7_tryTotal : e_cY mX7_tryTotal 0 := ⟨(e_w1 1 (by decide +kernel) rfl), (e_w1 274 (by decide +kernel) rfl), ⟨by decide, by decide, by decide +kernel⟩, by decide⟩
theorem cv_RL_260 : e_cV RL 260 8 mX7_tryTotal 0 := ⟨"BiscuitLocks", Or.inl ⟨TX7, 9, by decide, rfl⟩, rfl, (e_w1 271 (by decide +kernel) rfl), (e_w1 272 (by decide +kernel) rfl), (e_w1 273 (by decide +kernel) rfl), cy_X7_tryTotal⟩
theorem cy_X8_tryTotal : e_cY mX8_tryTotal 0 := ⟨(e_w1 10 (by decide +kernel) rfl), (e_w1 1671 (by decide +kernel) rfl), ⟨by decide, by decide, by decide +kernel⟩, by decide⟩
theorem cv_RL_263 : e_cV RL 263 9 mX8_tryTotal 0 := ⟨"BiscuitLocksModel", Or.inl ⟨TX8, 18, by decide, rfl⟩, rfl, (e_w1 1668 (by decide +kernel) rfl), (e_w1 1669 (by decide +kernel) rfl), (e_w1 1670 (by decide +kernel) rfl), cy_X8_tryTotal⟩
theorem cy_X7_openedTotal : e_cY mX7_openedTotal 0 := ⟨(e_w1 1 (by decide +kernel) rfl), (e_w1 278 (by decide +kernel) rfl), ⟨by decide, by decide, by decide +kernel⟩, by decide⟩
theorem cv_RL_264 : e_cV RL 264 8 mX7_openedTotal 0 := ⟨"BiscuitLocks", Or.inl ⟨TX7, 9, by decide, rfl⟩, rfl, (e_w1 275 (by decide +kernel) rfl), (e_w1 276 (by decide +kernel) rfl), (e_w1 277 (by decide +kernel) rfl), cy_X7_openedTotal⟩
theorem cy_X8_openedTotal : e_cY mX8_openedTotal 0 := ⟨(e_w1 10 (by decide +kernel) rfl), (e_w1 1675 (by decide +kernel) rfl), ⟨by decide, by decide, by decide +kernel⟩, by decide⟩
theorem cv_RL_267 : e_cV RL 267 9 mX8_openedTotal 0 := ⟨"BiscuitLocksModel", Or.inl ⟨TX8, 18, by decide, rfl⟩, rfl, (e_w1 1672 (by decide +kernel) rfl), (e_w1 1673 (by decide +kernel) rfl), (e_w1 1674 (by decide +kernel) rfl), cy_X8_openedTotal⟩
theorem cy_X7_bakedTotal : e_cY mX7_bakedTotal 0 := ⟨(e_w1 1 (by decide +kernel) rfl), (e_w1 282 (by decide +kernel) rfl), ⟨by decide, by decide, by decide +kernel⟩, by decide⟩
theorem cv_RL_268 : e_cV RL 268 8 mX7_bakedTotal 0 := ⟨"BiscuitLocks", Or.inl ⟨TX7, 9, by decide, rfl⟩, rfl, (e_w1 279 (by decide +kernel) rfl), (e_w1 280 (by decide +kernel) rfl), (e_w1 281 (by decide +kernel) rfl), cy_X7_bakedTotal⟩
theorem cy_X8_bakedTotal : e_cY mX8_bakedTotal 0 := ⟨(e_w1 10 (by decide +kernel) rfl), (e_w1 1679 (by decide +kernel) rfl), ⟨by decide, by decide, by decide +kernel⟩, by decide⟩
theorem cv_RL_271 : e_cV RL 271 9 mX8_bakedTotal 0 := ⟨"BiscuitLocksModel", Or.inl ⟨TX8, 18, by decide, rfl⟩, rfl, (e_w1 1676 (by decide +kernel) rfl), (e_w1 1677 (by decide +kernel) rfl), (e_w1 1678 (by decide +kernel) rfl), cy_X8_bakedTotal⟩
theorem cy_L_meanCrumbs : e_cY mL_meanCrumbs 2 := ⟨(e_w1 0 (by decide +kernel) rfl), (e_w1 1167 (by decide +kernel) rfl), ⟨by decide, by decide, by decide +kernel⟩, by decide⟩
theorem cs_RL_272 : e_cSX RL 272 mL_meanCrumbs 2 := ⟨by decide, (e_w1 1165 (by decide +kernel) rfl), (e_w1 1166 (by decide +kernel) rfl), cy_L_meanCrumbs⟩
theorem cy_X8_meanCrumbs : e_cY mX8_meanCrumbs 0 := ⟨(e_w1 10 (by decide +kernel) rfl), (e_w1 1683 (by decide +kernel) rfl), ⟨by decide, by decide, by decide +kernel⟩, by decide⟩
theorem cv_RL_275 : e_cV RL 275 9 mX8_meanCrumbs 0 := ⟨"BiscuitLocksModel", Or.inl ⟨TX8, 18, by decide, rfl⟩, rfl, (e_w1 1680 (by decide +kernel) rfl), (e_w1 1681 (by decide +kernel) rfl), (e_w1 1682 (by decide +kernel) rfl), cy_X8_meanCrumbs⟩
theorem cy_L_openedShare : e_cY mL_openedShare 2 := ⟨(e_w1 0 (by decide +kernel) rfl), (e_w1 1191 (by decide +kernel) rfl), ⟨by decide, by decide, by decide +kernel⟩, by decide⟩
theorem cs_RL_276 : e_cSX RL 276 mL_openedShare 2 := ⟨by decide, (e_w1 1189 (by decide +kernel) rfl), (e_w1 1190 (by decide +kernel) rfl), cy_L_openedShare⟩
theorem cy_X8_openedShare : e_cY mX8_openedShare 0 := ⟨(e_w1 10 (by decide +kernel) rfl), (e_w1 1687 (by decide +kernel) rfl), ⟨by decide, by decide, by decide +kernel⟩, by decide⟩
theorem cv_RL_278 : e_cV RL 278 9 mX8_openedShare 0 := ⟨"BiscuitLocksModel", Or.inl ⟨TX8, 18, by decide, rfl⟩, rfl, (e_w1 1684 (by decide +kernel) rfl), (e_w1 1685 (by decide +kernel) rfl), (e_w1 1686 (by decide +kernel) rfl), cy_X8_openedShare⟩
theorem cy_X7_isConsistent : e_cY mX7_isConsistent 0 := ⟨(e_w1 1 (by decide +kernel) rfl), (e_w1 286 (by decide +kernel) rfl), ⟨by decide, by decide, by decide +kernel⟩, by decide⟩
theorem cv_RL_279 : e_cV RL 279 8 mX7_isConsistent 0 := ⟨"BiscuitLocks", Or.inl ⟨TX7, 9, by decide, rfl⟩, rfl, (e_w1 283 (by decide +kernel) rfl), (e_w1 284 (by decide +kernel) rfl), (e_w1 285 (by decide +kernel) rfl), cy_X7_isConsistent⟩
theorem cy_X8_isConsistent : e_cY mX8_isConsistent 0 := ⟨(e_w1 10 (by decide +kernel) rfl), (e_w1 1691 (by decide +kernel) rfl), ⟨by decide, by decide, by decide +kernel⟩, by decide⟩
theorem cv_RL_283 : e_cV RL 283 9 mX8_isConsistent 0 := ⟨"BiscuitLocksModel", Or.inl ⟨TX8, 18, by decide, rfl⟩, rfl, (e_w1 1688 (by decide +kernel) rfl), (e_w1 1689 (by decide +kernel) rfl), (e_w1 1690 (by decide +kernel) rfl), cy_X8_isConsistent⟩
theorem cy_L_renderLock : e_cY mL_renderLock 3 := ⟨(e_w1 0 (by decide +kernel) rfl), (e_w1 1199 (by decide +kernel) rfl), ⟨by decide, by decide, by decide +kernel⟩, by decide⟩
theorem cs_RL_284 : e_cSX RL 284 mL_renderLock 3 := ⟨by decide, (e_w1 1197 (by decide +kernel) rfl), (e_w1 1198 (by decide +kernel) rfl), cy_L_renderLock⟩
theorem cy_X8_renderLock : e_cY mX8_renderLock 1 := ⟨(e_w1 10 (by decide +kernel) rfl), (e_w1 1695 (by decide +kernel) rfl), ⟨by decide, by decide, by decide +kernel⟩, by decide⟩
theorem cv_RL_286 : e_cV RL 286 9 mX8_renderLock 1 := ⟨"BiscuitLocksModel", Or.inl ⟨TX8, 18, by decide, rfl⟩, rfl, (e_w1 1692 (by decide +kernel) rfl), (e_w1 1693 (by decide +kernel) rfl), (e_w1 1694 (by decide +kernel) rfl), cy_X8_renderLock⟩
theorem cy_X7_renderOvens : e_cY mX7_renderOvens 0 := ⟨(e_w1 1 (by decide +kernel) rfl), (e_w1 329 (by decide +kernel) rfl), ⟨by decide, by decide, by decide +kernel⟩, by decide⟩
theorem cv_RL_287 : e_cV RL 287 8 mX7_renderOvens 0 := ⟨"BiscuitLocks", Or.inl ⟨TX7, 9, by decide, rfl⟩, rfl, (e_w1 326 (by decide +kernel) rfl), (e_w1 327 (by decide +kernel) rfl), (e_w1 328 (by decide +kernel) rfl), cy_X7_renderOvens⟩
theorem cy_X8_renderOvens : e_cY mX8_renderOvens 0 := ⟨(e_w1 10 (by decide +kernel) rfl), (e_w1 1707 (by decide +kernel) rfl), ⟨by decide, by decide, by decide +kernel⟩, by decide⟩
theorem cv_RL_290 : e_cV RL 290 9 mX8_renderOvens 0 := ⟨"BiscuitLocksModel", Or.inl ⟨TX8, 18, by decide, rfl⟩, rfl, (e_w1 1704 (by decide +kernel) rfl), (e_w1 1705 (by decide +kernel) rfl), (e_w1 1706 (by decide +kernel) rfl), cy_X8_renderOvens⟩
theorem cy_L_outputAt : e_cY mL_outputAt 3 := ⟨(e_w1 0 (by decide +kernel) rfl), (e_w1 1210 (by decide +kernel) rfl), ⟨by decide, by decide, by decide +kernel⟩, by decide⟩
theorem cs_RL_291 : e_cSX RL 291 mL_outputAt 3 := ⟨by decide, (e_w1 1208 (by decide +kernel) rfl), (e_w1 1209 (by decide +kernel) rfl), cy_L_outputAt⟩
theorem cy_X8_outputAt : e_cY mX8_outputAt 1 := ⟨(e_w1 10 (by decide +kernel) rfl), (e_w1 1711 (by decide +kernel) rfl), ⟨by decide, by decide, by decide +kernel⟩, by decide⟩
theorem cv_RL_293 : e_cV RL 293 9 mX8_outputAt 1 := ⟨"BiscuitLocksModel", Or.inl ⟨TX8, 18, by decide, rfl⟩, rfl, (e_w1 1708 (by decide +kernel) rfl), (e_w1 1709 (by decide +kernel) rfl), (e_w1 1710 (by decide +kernel) rfl), cy_X8_outputAt⟩
theorem cy_L_type : e_cY mL_type 3 := ⟨(e_w1 0 (by decide +kernel) rfl), (e_w1 1228 (by decide +kernel) rfl), ⟨by decide, by decide, by decide +kernel⟩, by decide⟩
theorem cs_RL_294 : e_cSX RL 294 mL_type 3 := ⟨by decide, (e_w1 1226 (by decide +kernel) rfl), (e_w1 1227 (by decide +kernel) rfl), cy_L_type⟩
theorem cy_X8_type : e_cY mX8_type 1 := ⟨(e_w1 10 (by decide +kernel) rfl), (e_w1 1715 (by decide +kernel) rfl), ⟨by decide, by decide, by decide +kernel⟩, by decide⟩
theorem cv_RL_297 : e_cV RL 297 9 mX8_type 1 := ⟨"BiscuitLocksModel", Or.inl ⟨TX8, 18, by decide, rfl⟩, rfl, (e_w1 1712 (by decide +kernel) rfl), (e_w1 1713 (by decide +kernel) rfl), (e_w1 1714 (by decide +kernel) rfl), cy_X8_type⟩
theorem cy_L_runScript : e_cY mL_runScript 2 := ⟨(e_w1 0 (by decide +kernel) rfl), (e_w1 1237 (by decide +kernel) rfl), ⟨by decide, by decide, by decide +kernel⟩, by decide⟩
theorem cs_RL_298 : e_cSX RL 298 mL_runScript 2 := ⟨by decide, (e_w1 1235 (by decide +kernel) rfl), (e_w1 1236 (by decide +kernel) rfl), cy_L_runScript⟩
theorem cy_X8_runScript : e_cY mX8_runScript 0 := ⟨(e_w1 10 (by decide +kernel) rfl), (e_w1 1719 (by decide +kernel) rfl), ⟨by decide, by decide, by decide +kernel⟩, by decide⟩
theorem cv_RL_301 : e_cV RL 301 9 mX8_runScript 0 := ⟨"BiscuitLocksModel", Or.inl ⟨TX8, 18, by decide, rfl⟩, rfl, (e_w1 1716 (by decide +kernel) rfl), (e_w1 1717 (by decide +kernel) rfl), (e_w1 1718 (by decide +kernel) rfl), cy_X8_runScript⟩
theorem cy_L_errorPosition : e_cY mL_errorPosition 2 := ⟨(e_w1 0 (by decide +kernel) rfl), (e_w1 1297 (by decide +kernel) rfl), ⟨by decide, by decide, by decide +kernel⟩, by decide⟩
theorem cs_RL_302 : e_cSX RL 302 mL_errorPosition 2 := ⟨by decide, (e_w1 1295 (by decide +kernel) rfl), (e_w1 1296 (by decide +kernel) rfl), cy_L_errorPosition⟩
theorem cy_X8_errorPosition : e_cY mX8_errorPosition 0 := ⟨(e_w1 10 (by decide +kernel) rfl), (e_w1 1792 (by decide +kernel) rfl), ⟨by decide, by decide, by decide +kernel⟩, by decide⟩
theorem cv_RL_304 : e_cV RL 304 9 mX8_errorPosition 0 := ⟨"BiscuitLocksModel", Or.inl ⟨TX8, 18, by decide, rfl⟩, rfl, (e_w1 1789 (by decide +kernel) rfl), (e_w1 1790 (by decide +kernel) rfl), (e_w1 1791 (by decide +kernel) rfl), cy_X8_errorPosition⟩
theorem cy_L_failedCommand : e_cY mL_failedCommand 2 := ⟨(e_w1 0 (by decide +kernel) rfl), (e_w1 1305 (by decide +kernel) rfl), ⟨by decide, by decide, by decide +kernel⟩, by decide⟩
theorem cs_RL_305 : e_cSX RL 305 mL_failedCommand 2 := ⟨by decide, (e_w1 1303 (by decide +kernel) rfl), (e_w1 1304 (by decide +kernel) rfl), cy_L_failedCommand⟩
theorem cy_X8_failedCommand : e_cY mX8_failedCommand 0 := ⟨(e_w1 10 (by decide +kernel) rfl), (e_w1 1796 (by decide +kernel) rfl), ⟨by decide, by decide, by decide +kernel⟩, by decide⟩
theorem cv_RL_307 : e_cV RL 307 9 mX8_failedCommand 0 := ⟨"BiscuitLocksModel", Or.inl ⟨TX8, 18, by decide, rfl⟩, rfl, (e_w1 1793 (by decide +kernel) rfl), (e_w1 1794 (by decide +kernel) rfl), (e_w1 1795 (by decide +kernel) rfl), cy_X8_failedCommand⟩
theorem cy_L_undo : e_cY mL_undo 2 := ⟨(e_w1 0 (by decide +kernel) rfl), (e_w1 1313 (by decide +kernel) rfl), ⟨by decide, by decide, by decide +kernel⟩, by decide⟩
theorem cs_RL_308 : e_cSX RL 308 mL_undo 2 := ⟨by decide, (e_w1 1311 (by decide +kernel) rfl), (e_w1 1312 (by decide +kernel) rfl), cy_L_undo⟩
theorem cy_X8_undo : e_cY mX8_undo 0 := ⟨(e_w1 10 (by decide +kernel) rfl), (e_w1 1800 (by decide +kernel) rfl), ⟨by decide, by decide, by decide +kernel⟩, by decide⟩
theorem cv_RL_310 : e_cV RL 310 9 mX8_undo 0 := ⟨"BiscuitLocksModel", Or.inl ⟨TX8, 18, by decide, rfl⟩, rfl, (e_w1 1797 (by decide +kernel) rfl), (e_w1 1798 (by decide +kernel) rfl), (e_w1 1799 (by decide +kernel) rfl), cy_X8_undo⟩
theorem cy_X7_save : e_cY mX7_save 0 := ⟨(e_w1 1 (by decide +kernel) rfl), (e_w1 698 (by decide +kernel) rfl), ⟨by decide, by decide, by decide +kernel⟩, by decide⟩
theorem cv_RL_311 : e_cV RL 311 8 mX7_save 0 := ⟨"BiscuitLocks", Or.inl ⟨TX7, 9, by decide, rfl⟩, rfl, (e_w1 695 (by decide +kernel) rfl), (e_w1 696 (by decide +kernel) rfl), (e_w1 697 (by decide +kernel) rfl), cy_X7_save⟩
theorem cy_X8_save : e_cY mX8_save 0 := ⟨(e_w1 10 (by decide +kernel) rfl), (e_w1 1804 (by decide +kernel) rfl), ⟨by decide, by decide, by decide +kernel⟩, by decide⟩
theorem cv_RL_314 : e_cV RL 314 9 mX8_save 0 := ⟨"BiscuitLocksModel", Or.inl ⟨TX8, 18, by decide, rfl⟩, rfl, (e_w1 1801 (by decide +kernel) rfl), (e_w1 1802 (by decide +kernel) rfl), (e_w1 1803 (by decide +kernel) rfl), cy_X8_save⟩
theorem cy_L_restore : e_cY mL_restore 2 := ⟨(e_w1 0 (by decide +kernel) rfl), (e_w1 1325 (by decide +kernel) rfl), ⟨by decide, by decide, by decide +kernel⟩, by decide⟩
theorem cs_RL_315 : e_cSX RL 315 mL_restore 2 := ⟨by decide, (e_w1 1323 (by decide +kernel) rfl), (e_w1 1324 (by decide +kernel) rfl), cy_L_restore⟩
theorem cy_X8_restore : e_cY mX8_restore 0 := ⟨(e_w1 10 (by decide +kernel) rfl), (e_w1 1808 (by decide +kernel) rfl), ⟨by decide, by decide, by decide +kernel⟩, by decide⟩
theorem cv_RL_317 : e_cV RL 317 9 mX8_restore 0 := ⟨"BiscuitLocksModel", Or.inl ⟨TX8, 18, by decide, rfl⟩, rfl, (e_w1 1805 (by decide +kernel) rfl), (e_w1 1806 (by decide +kernel) rfl), (e_w1 1807 (by decide +kernel) rfl), cy_X8_restore⟩
theorem ac_I : Cond.arrayClass .int ∈ e_WS := (e_w1 74 (by decide +kernel) rfl)
theorem ac_Z : Cond.arrayClass .boolean ∈ e_WS := (e_w1 75 (by decide +kernel) rfl)
theorem ac_B : Cond.arrayClass .byte ∈ e_WS := (e_w1 188 (by decide +kernel) rfl)
theorem ac_J : Cond.arrayClass .long ∈ e_WS := (e_w1 1809 (by decide +kernel) rfl)
theorem ac_D : Cond.arrayClass .double ∈ e_WS := (e_w1 1810 (by decide +kernel) rfl)
end
section
/-! PRINTED by wip/whole/gen/mk_consts.py: the constants (cells 0 to 99): 0-9 Command, 10-14 Refusal, 15 COMMANDS, 16 and 17 the switch tables, 20-29 the forms and 30-39 their bytes, 40-47 the reference's words and 50-57 their bytes, 60 the script, 61 on the messages, 88 and 89 the digits -/
def e_forms : List (List Int) := [[100, 111, 111, 114, 32, 35, 35, 35], [116, 117, 114, 110, 32, 35, 35, 126, 35], [116, 114, 121, 32, 35], [115, 104, 117, 116, 32, 35], [100, 97, 109, 112, 32, 35], [98, 97, 107, 101, 32, 35, 32, 35], [104, 111, 117, 114], [104, 111, 117, 114, 32, 35], [104, 111, 117, 114, 32, 35, 38], [115, 101, 116, 32, 35, 32, 35, 35, 35]]
def e_words : List (List Int) := [[114, 110, 32], [114, 121, 32], [111, 114, 32], [97, 109, 112, 32], [117, 116, 32], [101, 116, 32], [97, 107, 101, 32], [111, 117, 114]]
def e_swC : List Int := [1, 2, 3, 4, 5, 6, 0, 0, 0, 7]
def e_swR : List Int := [0, 1, 2, 3, 4]
def e_cMem (L : Nat) (xs : Nat → Int) (k : Nat) : aE :=
  if k < 10 then cO 20 [vI (k : Int), vR (k + 20)]
  else if k < 15 then cO 21 [vI ((k : Int) - 10)]
  else if k = 15 then cR 12 10 (fun j => if j < 10 then some j else none)
  else if k = 16 then cI 10 10 (fun j => e_swC.getD j 0)
  else if k = 17 then cI 10 5 (fun j => e_swR.getD j 0)
  else if k < 20 then e_dum
  else if k < 30 then cO 22 [vR (k + 10), vI 0]
  else if k < 40 then cI 11 (e_forms.getD (k - 30) []).length (fun j => (e_forms.getD (k - 30) []).getD j 0)
  else if k < 48 then cO 22 [vR (k + 10), vI 0]
  else if k < 50 then e_dum
  else if k < 58 then cI 11 (e_words.getD (k - 50) []).length (fun j => (e_words.getD (k - 50) []).getD j 0)
  else if k = 60 then cI 10 L xs
  else if k = 88 then cI 11 100 (fun j => 48 + (j : Int) % 10)
  else if k = 89 then cI 11 100 (fun j => 48 + (j : Int) / 10)
  else e_dum
def e_ST (r0 : Option Nat) : List (String × String × String × aV) := [("BiscuitLocks$Command", "DOOR", "LBiscuitLocks$Command;", vR 0), ("BiscuitLocks$Command", "TURN", "LBiscuitLocks$Command;", vR 1), ("BiscuitLocks$Command", "TRY", "LBiscuitLocks$Command;", vR 2), ("BiscuitLocks$Command", "SHUT", "LBiscuitLocks$Command;", vR 3), ("BiscuitLocks$Command", "DAMP", "LBiscuitLocks$Command;", vR 4), ("BiscuitLocks$Command", "BAKE", "LBiscuitLocks$Command;", vR 5), ("BiscuitLocks$Command", "ONE_HOUR", "LBiscuitLocks$Command;", vR 6), ("BiscuitLocks$Command", "HOURS", "LBiscuitLocks$Command;", vR 7), ("BiscuitLocks$Command", "MANY_HOURS", "LBiscuitLocks$Command;", vR 8), ("BiscuitLocks$Command", "SET", "LBiscuitLocks$Command;", vR 9), ("BiscuitLocks$Refusal", "NOTHING", "LBiscuitLocks$Refusal;", vR 10), ("BiscuitLocks$Refusal", "NO_SUCH_INDEX", "LBiscuitLocks$Refusal;", vR 11), ("BiscuitLocks$Refusal", "BAD_ARGUMENT", "LBiscuitLocks$Refusal;", vR 12), ("BiscuitLocks$Refusal", "WRONG_STATE", "LBiscuitLocks$Refusal;", vR 13), ("BiscuitLocks$Refusal", "NOT_SUPPORTED", "LBiscuitLocks$Refusal;", vR 14), ("BiscuitLocks", "COMMANDS", "[LBiscuitLocks$Command;", vR 15), ("BiscuitLocks$1", "$SwitchMap$BiscuitLocks$Command", "[I", vR 16), ("BiscuitLocks$1", "$SwitchMap$BiscuitLocks$Refusal", "[I", vR 17), ("java/lang/String", "COMPACT_STRINGS", "Z", vI 1), ("java/lang/Integer", "DigitOnes", "[B", vR 88), ("java/lang/Integer", "DigitTens", "[B", vR 89), ("jdk/internal/util/Preconditions", "SIOOBE_FORMATTER", "Ljava/util/function/BiFunction;", vO r0)]
def e_SR : List (String × Nat × String × Nat) := [("BiscuitLocks", 114, "no such door, dial or oven", 61), ("BiscuitLocks", 121, "a number is out of its range", 62), ("BiscuitLocks", 126, "the state does not allow this", 63), ("BiscuitLocks", 131, "the lock is broken, or the oven is in use", 64), ("BiscuitLocks", 184, "no such door", 65), ("BiscuitLocks", 189, "no such dial", 66), ("BiscuitLocks", 200, "the lock opens before it is broken", 67), ("BiscuitLocks", 203, "hours are not between 0 and 60", 68), ("BiscuitLocks", 214, "the dials do not all fit within 60 hours", 69), ("BiscuitLocks", 233, "no such oven", 70), ("BiscuitLocks", 222, "the oven bakes no lock", 71), ("BiscuitLocks", 238, "no such rank", 72), ("BiscuitLocks", 253, "no such try is remembered", 73), ("BiscuitLocks", 278, "there are no doors", 74), ("BiscuitLocks", 281, "there was no try", 75), ("BiscuitLocks", 300, "the output text has no such index", 76), ("BiscuitLocks", 306, "the character code is not between 32 and 126", 77), ("BiscuitLocks", 311, "the script buffer is full", 78), ("BiscuitLocks", 319, "the script does not have the required form", 79), ("BiscuitLocks", 324, "a command of the script failed", 80), ("BiscuitLocks", 337, "no script had a wrong form", 81), ("BiscuitLocks", 339, "no script had a command that failed", 82), ("BiscuitLocks", 344, "there is nothing to undo", 83), ("BiscuitLocks", 349, "there is no snapshot", 84), ("BiscuitLocksModel", 208, "rn ", 40), ("BiscuitLocksModel", 217, "ry ", 41), ("BiscuitLocksModel", 219, "or ", 42), ("BiscuitLocksModel", 224, "amp ", 43), ("BiscuitLocksModel", 226, "ut ", 44), ("BiscuitLocksModel", 228, "et ", 45), ("BiscuitLocksModel", 241, "ake ", 46), ("BiscuitLocksModel", 230, "our", 47)]
def e_NN : List (String × String) := [("java/lang/IndexOutOfBoundsException", "java/lang/IllegalArgumentException"), ("java/lang/IllegalStateException", "java/lang/IllegalArgumentException"), ("java/lang/UnsupportedOperationException", "java/lang/IllegalArgumentException"), ("java/lang/ArrayIndexOutOfBoundsException", "java/lang/IllegalArgumentException"), ("java/util/NoSuchElementException", "java/lang/IllegalArgumentException"), ("java/lang/ArithmeticException", "java/lang/IllegalArgumentException"), ("java/lang/StringIndexOutOfBoundsException", "java/lang/IllegalArgumentException"), ("java/lang/IndexOutOfBoundsException", "java/lang/IllegalStateException"), ("java/lang/IllegalArgumentException", "java/lang/IllegalStateException"), ("java/lang/UnsupportedOperationException", "java/lang/IllegalStateException"), ("java/lang/ArrayIndexOutOfBoundsException", "java/lang/IllegalStateException"), ("java/util/NoSuchElementException", "java/lang/IllegalStateException"), ("java/lang/ArithmeticException", "java/lang/IllegalStateException"), ("java/lang/StringIndexOutOfBoundsException", "java/lang/IllegalStateException"), ("java/lang/IllegalArgumentException", "java/lang/IndexOutOfBoundsException"), ("java/lang/IllegalStateException", "java/lang/IndexOutOfBoundsException"), ("java/lang/UnsupportedOperationException", "java/lang/IndexOutOfBoundsException"), ("java/util/NoSuchElementException", "java/lang/IndexOutOfBoundsException"), ("java/lang/ArithmeticException", "java/lang/IndexOutOfBoundsException"), ("java/lang/IndexOutOfBoundsException", "java/lang/UnsupportedOperationException"), ("java/lang/IllegalArgumentException", "java/lang/UnsupportedOperationException"), ("java/lang/IllegalStateException", "java/lang/UnsupportedOperationException"), ("java/lang/ArrayIndexOutOfBoundsException", "java/lang/UnsupportedOperationException"), ("java/util/NoSuchElementException", "java/lang/UnsupportedOperationException"), ("java/lang/ArithmeticException", "java/lang/UnsupportedOperationException"), ("java/lang/StringIndexOutOfBoundsException", "java/lang/UnsupportedOperationException"), ("java/lang/IndexOutOfBoundsException", "java/util/NoSuchElementException"), ("java/lang/IllegalArgumentException", "java/util/NoSuchElementException"), ("java/lang/IllegalStateException", "java/util/NoSuchElementException"), ("java/lang/UnsupportedOperationException", "java/util/NoSuchElementException"), ("java/lang/ArrayIndexOutOfBoundsException", "java/util/NoSuchElementException"), ("java/lang/ArithmeticException", "java/util/NoSuchElementException"), ("java/lang/StringIndexOutOfBoundsException", "java/util/NoSuchElementException"), ("java/lang/IndexOutOfBoundsException", "java/lang/ArithmeticException"), ("java/lang/IllegalArgumentException", "java/lang/ArithmeticException"), ("java/lang/IllegalStateException", "java/lang/ArithmeticException"), ("java/lang/UnsupportedOperationException", "java/lang/ArithmeticException"), ("java/lang/ArrayIndexOutOfBoundsException", "java/lang/ArithmeticException"), ("java/util/NoSuchElementException", "java/lang/ArithmeticException"), ("java/lang/StringIndexOutOfBoundsException", "java/lang/ArithmeticException"), ("java/lang/IndexOutOfBoundsException", "BiscuitLocks$Lock"), ("java/lang/IllegalArgumentException", "BiscuitLocks$Lock"), ("java/lang/IllegalStateException", "BiscuitLocks$Lock"), ("java/lang/UnsupportedOperationException", "BiscuitLocks$Lock"), ("java/lang/ArrayIndexOutOfBoundsException", "BiscuitLocks$Lock"), ("java/util/NoSuchElementException", "BiscuitLocks$Lock"), ("java/lang/ArithmeticException", "BiscuitLocks$Lock"), ("java/lang/StringIndexOutOfBoundsException", "BiscuitLocks$Lock"), ("java/lang/IndexOutOfBoundsException", "BiscuitLocks$House"), ("java/lang/IllegalArgumentException", "BiscuitLocks$House"), ("java/lang/IllegalStateException", "BiscuitLocks$House"), ("java/lang/UnsupportedOperationException", "BiscuitLocks$House"), ("java/lang/ArrayIndexOutOfBoundsException", "BiscuitLocks$House"), ("java/util/NoSuchElementException", "BiscuitLocks$House"), ("java/lang/ArithmeticException", "BiscuitLocks$House"), ("java/lang/StringIndexOutOfBoundsException", "BiscuitLocks$House")]
def e_L (r0 : Option Nat) : Ls := (e_ST r0, (e_SR, (e_WN, e_NN)))
theorem at_RX7_116_a : ∀ w ∈ (vx_atS RX7 116 "java/lang/IndexOutOfBoundsException" ["java/lang/RuntimeException", "java/lang/Exception"]).filter (fun w => !goodWord w), w ∈ e_WN ∧ e_mv w = true := by decide +kernel
theorem at_RX7_116_b : ∀ w ∈ (vx_atS RX7 116 "java/lang/IndexOutOfBoundsException" ["java/lang/RuntimeException", "java/lang/Exception"]).filter goodWord, w ∈ lw_tbl := by decide +kernel
theorem at_RX7_116 : ∀ w ∈ (vx_atS RX7 116 "java/lang/IndexOutOfBoundsException" ["java/lang/RuntimeException", "java/lang/Exception"]), w ∈ e_WS ∨ (w ∈ e_WN ∧ e_mv w = true) := by
  intro w hw
  cases hg : goodWord w with
  | true => exact Or.inl (e_WS_in (at_RX7_116_b w (List.mem_filter.mpr ⟨hw, hg⟩)) hg)
  | false => exact Or.inr (at_RX7_116_a w (List.mem_filter.mpr ⟨hw, by rw [hg]; rfl⟩))
theorem at_RX7_123_a : ∀ w ∈ (vx_atS RX7 123 "java/lang/IllegalArgumentException" ["java/lang/RuntimeException", "java/lang/Exception"]).filter (fun w => !goodWord w), w ∈ e_WN ∧ e_mv w = true := by decide +kernel
theorem at_RX7_123_b : ∀ w ∈ (vx_atS RX7 123 "java/lang/IllegalArgumentException" ["java/lang/RuntimeException", "java/lang/Exception"]).filter goodWord, w ∈ lw_tbl := by decide +kernel
theorem at_RX7_123 : ∀ w ∈ (vx_atS RX7 123 "java/lang/IllegalArgumentException" ["java/lang/RuntimeException", "java/lang/Exception"]), w ∈ e_WS ∨ (w ∈ e_WN ∧ e_mv w = true) := by
  intro w hw
  cases hg : goodWord w with
  | true => exact Or.inl (e_WS_in (at_RX7_123_b w (List.mem_filter.mpr ⟨hw, hg⟩)) hg)
  | false => exact Or.inr (at_RX7_123_a w (List.mem_filter.mpr ⟨hw, by rw [hg]; rfl⟩))
theorem at_RX7_128_a : ∀ w ∈ (vx_atS RX7 128 "java/lang/IllegalStateException" ["java/lang/RuntimeException", "java/lang/Exception"]).filter (fun w => !goodWord w), w ∈ e_WN ∧ e_mv w = true := by decide +kernel
theorem at_RX7_128_b : ∀ w ∈ (vx_atS RX7 128 "java/lang/IllegalStateException" ["java/lang/RuntimeException", "java/lang/Exception"]).filter goodWord, w ∈ lw_tbl := by decide +kernel
theorem at_RX7_128 : ∀ w ∈ (vx_atS RX7 128 "java/lang/IllegalStateException" ["java/lang/RuntimeException", "java/lang/Exception"]), w ∈ e_WS ∨ (w ∈ e_WN ∧ e_mv w = true) := by
  intro w hw
  cases hg : goodWord w with
  | true => exact Or.inl (e_WS_in (at_RX7_128_b w (List.mem_filter.mpr ⟨hw, hg⟩)) hg)
  | false => exact Or.inr (at_RX7_128_a w (List.mem_filter.mpr ⟨hw, by rw [hg]; rfl⟩))
theorem at_RX7_133_a : ∀ w ∈ (vx_atS RX7 133 "java/lang/UnsupportedOperationException" ["java/lang/RuntimeException", "java/lang/Exception"]).filter (fun w => !goodWord w), w ∈ e_WN ∧ e_mv w = true := by decide +kernel
theorem at_RX7_133_b : ∀ w ∈ (vx_atS RX7 133 "java/lang/UnsupportedOperationException" ["java/lang/RuntimeException", "java/lang/Exception"]).filter goodWord, w ∈ lw_tbl := by decide +kernel
theorem at_RX7_133 : ∀ w ∈ (vx_atS RX7 133 "java/lang/UnsupportedOperationException" ["java/lang/RuntimeException", "java/lang/Exception"]), w ∈ e_WS ∨ (w ∈ e_WN ∧ e_mv w = true) := by
  intro w hw
  cases hg : goodWord w with
  | true => exact Or.inl (e_WS_in (at_RX7_133_b w (List.mem_filter.mpr ⟨hw, hg⟩)) hg)
  | false => exact Or.inr (at_RX7_133_a w (List.mem_filter.mpr ⟨hw, by rw [hg]; rfl⟩))
theorem at_RX7_202_a : ∀ w ∈ ((nx_at RX7 202 "java/util/NoSuchElementException" "java/lang/RuntimeException" 13 prog_39_method_4_code ["java/lang/Exception"]).filter vx_no).filter (fun w => !goodWord w), w ∈ e_WN ∧ e_mv w = true := by decide +kernel
theorem at_RX7_202_b : ∀ w ∈ ((nx_at RX7 202 "java/util/NoSuchElementException" "java/lang/RuntimeException" 13 prog_39_method_4_code ["java/lang/Exception"]).filter vx_no).filter goodWord, w ∈ lw_tbl := by decide +kernel
theorem at_RX7_202 : ∀ w ∈ ((nx_at RX7 202 "java/util/NoSuchElementException" "java/lang/RuntimeException" 13 prog_39_method_4_code ["java/lang/Exception"]).filter vx_no), w ∈ e_WS ∨ (w ∈ e_WN ∧ e_mv w = true) := by
  intro w hw
  cases hg : goodWord w with
  | true => exact Or.inl (e_WS_in (at_RX7_202_b w (List.mem_filter.mpr ⟨hw, hg⟩)) hg)
  | false => exact Or.inr (at_RX7_202_a w (List.mem_filter.mpr ⟨hw, by rw [hg]; rfl⟩))
theorem at_RX7_280_a : ∀ w ∈ (vx_atS RX7 280 "java/lang/ArithmeticException" ["java/lang/RuntimeException", "java/lang/Exception"]).filter (fun w => !goodWord w), w ∈ e_WN ∧ e_mv w = true := by decide +kernel
theorem at_RX7_280_b : ∀ w ∈ (vx_atS RX7 280 "java/lang/ArithmeticException" ["java/lang/RuntimeException", "java/lang/Exception"]).filter goodWord, w ∈ lw_tbl := by decide +kernel
theorem at_RX7_280 : ∀ w ∈ (vx_atS RX7 280 "java/lang/ArithmeticException" ["java/lang/RuntimeException", "java/lang/Exception"]), w ∈ e_WS ∨ (w ∈ e_WN ∧ e_mv w = true) := by
  intro w hw
  cases hg : goodWord w with
  | true => exact Or.inl (e_WS_in (at_RX7_280_b w (List.mem_filter.mpr ⟨hw, hg⟩)) hg)
  | false => exact Or.inr (at_RX7_280_a w (List.mem_filter.mpr ⟨hw, by rw [hg]; rfl⟩))
theorem th_RX7_112_114_116 (r0 : Option Nat) : e_cT (e_L r0) RX7 112 114 116 "java/lang/IndexOutOfBoundsException" ["java/lang/RuntimeException", "java/lang/Exception"] := ⟨"no such door, dial or oven", 61, by decide +kernel, by decide +kernel, by decide, (e_w1 795 (by decide +kernel) rfl), (e_w1 18 (by decide +kernel) rfl), (by decide +kernel : ("BiscuitLocks", 114, "no such door, dial or oven", 61) ∈ e_SR), at_RX7_116, by decide +kernel⟩
theorem th_RX7_119_121_123 (r0 : Option Nat) : e_cT (e_L r0) RX7 119 121 123 "java/lang/IllegalArgumentException" ["java/lang/RuntimeException", "java/lang/Exception"] := ⟨"a number is out of its range", 62, by decide +kernel, by decide +kernel, by decide, (e_w1 808 (by decide +kernel) rfl), (e_w1 19 (by decide +kernel) rfl), (by decide +kernel : ("BiscuitLocks", 121, "a number is out of its range", 62) ∈ e_SR), at_RX7_123, by decide +kernel⟩
theorem th_RX7_124_126_128 (r0 : Option Nat) : e_cT (e_L r0) RX7 124 126 128 "java/lang/IllegalStateException" ["java/lang/RuntimeException", "java/lang/Exception"] := ⟨"the state does not allow this", 63, by decide +kernel, by decide +kernel, by decide, (e_w1 811 (by decide +kernel) rfl), (e_w1 20 (by decide +kernel) rfl), (by decide +kernel : ("BiscuitLocks", 126, "the state does not allow this", 63) ∈ e_SR), at_RX7_128, by decide +kernel⟩
theorem th_RX7_129_131_133 (r0 : Option Nat) : e_cT (e_L r0) RX7 129 131 133 "java/lang/UnsupportedOperationException" ["java/lang/RuntimeException", "java/lang/Exception"] := ⟨"the lock is broken, or the oven is in use", 64, by decide +kernel, by decide +kernel, by decide, (e_w1 827 (by decide +kernel) rfl), (e_w1 21 (by decide +kernel) rfl), (by decide +kernel : ("BiscuitLocks", 131, "the lock is broken, or the oven is in use", 64) ∈ e_SR), at_RX7_133, by decide +kernel⟩
theorem th_RX7_112_184_116 (r0 : Option Nat) : e_cT (e_L r0) RX7 112 184 116 "java/lang/IndexOutOfBoundsException" ["java/lang/RuntimeException", "java/lang/Exception"] := ⟨"no such door", 65, by decide +kernel, by decide +kernel, by decide, (e_w1 795 (by decide +kernel) rfl), (e_w1 18 (by decide +kernel) rfl), (by decide +kernel : ("BiscuitLocks", 184, "no such door", 65) ∈ e_SR), at_RX7_116, by decide +kernel⟩
theorem th_RX7_112_189_116 (r0 : Option Nat) : e_cT (e_L r0) RX7 112 189 116 "java/lang/IndexOutOfBoundsException" ["java/lang/RuntimeException", "java/lang/Exception"] := ⟨"no such dial", 66, by decide +kernel, by decide +kernel, by decide, (e_w1 795 (by decide +kernel) rfl), (e_w1 18 (by decide +kernel) rfl), (by decide +kernel : ("BiscuitLocks", 189, "no such dial", 66) ∈ e_SR), at_RX7_116, by decide +kernel⟩
theorem th_RX7_198_200_202 (r0 : Option Nat) : e_cTX (e_L r0) RX7 198 200 202 "java/util/NoSuchElementException" ["java/lang/Exception"] := ⟨"the lock opens before it is broken", 67, "java/lang/RuntimeException", 13, prog_39_method_4_code, ⟨by decide +kernel, by decide +kernel, by decide +kernel, by decide +kernel⟩, by decide +kernel, by decide +kernel, by decide +kernel, by decide, (e_w1 1067 (by decide +kernel) rfl), (e_w1 25 (by decide +kernel) rfl), (by decide +kernel : ("BiscuitLocks", 200, "the lock opens before it is broken", 67) ∈ e_SR), at_RX7_202, by decide +kernel⟩
theorem th_RX7_119_203_123 (r0 : Option Nat) : e_cT (e_L r0) RX7 119 203 123 "java/lang/IllegalArgumentException" ["java/lang/RuntimeException", "java/lang/Exception"] := ⟨"hours are not between 0 and 60", 68, by decide +kernel, by decide +kernel, by decide, (e_w1 808 (by decide +kernel) rfl), (e_w1 19 (by decide +kernel) rfl), (by decide +kernel : ("BiscuitLocks", 203, "hours are not between 0 and 60", 68) ∈ e_SR), at_RX7_123, by decide +kernel⟩
theorem th_RX7_198_214_202 (r0 : Option Nat) : e_cTX (e_L r0) RX7 198 214 202 "java/util/NoSuchElementException" ["java/lang/Exception"] := ⟨"the dials do not all fit within 60 hours", 69, "java/lang/RuntimeException", 13, prog_39_method_4_code, ⟨by decide +kernel, by decide +kernel, by decide +kernel, by decide +kernel⟩, by decide +kernel, by decide +kernel, by decide +kernel, by decide, (e_w1 1067 (by decide +kernel) rfl), (e_w1 25 (by decide +kernel) rfl), (by decide +kernel : ("BiscuitLocks", 214, "the dials do not all fit within 60 hours", 69) ∈ e_SR), at_RX7_202, by decide +kernel⟩
theorem th_RX7_198_222_202 (r0 : Option Nat) : e_cTX (e_L r0) RX7 198 222 202 "java/util/NoSuchElementException" ["java/lang/Exception"] := ⟨"the oven bakes no lock", 71, "java/lang/RuntimeException", 13, prog_39_method_4_code, ⟨by decide +kernel, by decide +kernel, by decide +kernel, by decide +kernel⟩, by decide +kernel, by decide +kernel, by decide +kernel, by decide, (e_w1 1067 (by decide +kernel) rfl), (e_w1 25 (by decide +kernel) rfl), (by decide +kernel : ("BiscuitLocks", 222, "the oven bakes no lock", 71) ∈ e_SR), at_RX7_202, by decide +kernel⟩
theorem th_RX7_112_233_116 (r0 : Option Nat) : e_cT (e_L r0) RX7 112 233 116 "java/lang/IndexOutOfBoundsException" ["java/lang/RuntimeException", "java/lang/Exception"] := ⟨"no such oven", 70, by decide +kernel, by decide +kernel, by decide, (e_w1 795 (by decide +kernel) rfl), (e_w1 18 (by decide +kernel) rfl), (by decide +kernel : ("BiscuitLocks", 233, "no such oven", 70) ∈ e_SR), at_RX7_116, by decide +kernel⟩
theorem th_RX7_198_238_202 (r0 : Option Nat) : e_cTX (e_L r0) RX7 198 238 202 "java/util/NoSuchElementException" ["java/lang/Exception"] := ⟨"no such rank", 72, "java/lang/RuntimeException", 13, prog_39_method_4_code, ⟨by decide +kernel, by decide +kernel, by decide +kernel, by decide +kernel⟩, by decide +kernel, by decide +kernel, by decide +kernel, by decide, (e_w1 1067 (by decide +kernel) rfl), (e_w1 25 (by decide +kernel) rfl), (by decide +kernel : ("BiscuitLocks", 238, "no such rank", 72) ∈ e_SR), at_RX7_202, by decide +kernel⟩
theorem th_RX7_198_253_202 (r0 : Option Nat) : e_cTX (e_L r0) RX7 198 253 202 "java/util/NoSuchElementException" ["java/lang/Exception"] := ⟨"no such try is remembered", 73, "java/lang/RuntimeException", 13, prog_39_method_4_code, ⟨by decide +kernel, by decide +kernel, by decide +kernel, by decide +kernel⟩, by decide +kernel, by decide +kernel, by decide +kernel, by decide, (e_w1 1067 (by decide +kernel) rfl), (e_w1 25 (by decide +kernel) rfl), (by decide +kernel : ("BiscuitLocks", 253, "no such try is remembered", 73) ∈ e_SR), at_RX7_202, by decide +kernel⟩
theorem th_RX7_276_278_280 (r0 : Option Nat) : e_cT (e_L r0) RX7 276 278 280 "java/lang/ArithmeticException" ["java/lang/RuntimeException", "java/lang/Exception"] := ⟨"there are no doors", 74, by decide +kernel, by decide +kernel, by decide, (e_w1 1186 (by decide +kernel) rfl), (e_w1 26 (by decide +kernel) rfl), (by decide +kernel : ("BiscuitLocks", 278, "there are no doors", 74) ∈ e_SR), at_RX7_280, by decide +kernel⟩
theorem th_RX7_276_281_280 (r0 : Option Nat) : e_cT (e_L r0) RX7 276 281 280 "java/lang/ArithmeticException" ["java/lang/RuntimeException", "java/lang/Exception"] := ⟨"there was no try", 75, by decide +kernel, by decide +kernel, by decide, (e_w1 1186 (by decide +kernel) rfl), (e_w1 26 (by decide +kernel) rfl), (by decide +kernel : ("BiscuitLocks", 281, "there was no try", 75) ∈ e_SR), at_RX7_280, by decide +kernel⟩
theorem th_RX7_112_300_116 (r0 : Option Nat) : e_cT (e_L r0) RX7 112 300 116 "java/lang/IndexOutOfBoundsException" ["java/lang/RuntimeException", "java/lang/Exception"] := ⟨"the output text has no such index", 76, by decide +kernel, by decide +kernel, by decide, (e_w1 795 (by decide +kernel) rfl), (e_w1 18 (by decide +kernel) rfl), (by decide +kernel : ("BiscuitLocks", 300, "the output text has no such index", 76) ∈ e_SR), at_RX7_116, by decide +kernel⟩
theorem th_RX7_119_306_123 (r0 : Option Nat) : e_cT (e_L r0) RX7 119 306 123 "java/lang/IllegalArgumentException" ["java/lang/RuntimeException", "java/lang/Exception"] := ⟨"the character code is not between 32 and 126", 77, by decide +kernel, by decide +kernel, by decide, (e_w1 808 (by decide +kernel) rfl), (e_w1 19 (by decide +kernel) rfl), (by decide +kernel : ("BiscuitLocks", 306, "the character code is not between 32 and 126", 77) ∈ e_SR), at_RX7_123, by decide +kernel⟩
theorem th_RX7_124_311_128 (r0 : Option Nat) : e_cT (e_L r0) RX7 124 311 128 "java/lang/IllegalStateException" ["java/lang/RuntimeException", "java/lang/Exception"] := ⟨"the script buffer is full", 78, by decide +kernel, by decide +kernel, by decide, (e_w1 811 (by decide +kernel) rfl), (e_w1 20 (by decide +kernel) rfl), (by decide +kernel : ("BiscuitLocks", 311, "the script buffer is full", 78) ∈ e_SR), at_RX7_128, by decide +kernel⟩
theorem th_RX7_119_319_123 (r0 : Option Nat) : e_cT (e_L r0) RX7 119 319 123 "java/lang/IllegalArgumentException" ["java/lang/RuntimeException", "java/lang/Exception"] := ⟨"the script does not have the required form", 79, by decide +kernel, by decide +kernel, by decide, (e_w1 808 (by decide +kernel) rfl), (e_w1 19 (by decide +kernel) rfl), (by decide +kernel : ("BiscuitLocks", 319, "the script does not have the required form", 79) ∈ e_SR), at_RX7_123, by decide +kernel⟩
theorem th_RX7_124_324_128 (r0 : Option Nat) : e_cT (e_L r0) RX7 124 324 128 "java/lang/IllegalStateException" ["java/lang/RuntimeException", "java/lang/Exception"] := ⟨"a command of the script failed", 80, by decide +kernel, by decide +kernel, by decide, (e_w1 811 (by decide +kernel) rfl), (e_w1 20 (by decide +kernel) rfl), (by decide +kernel : ("BiscuitLocks", 324, "a command of the script failed", 80) ∈ e_SR), at_RX7_128, by decide +kernel⟩
theorem th_RX7_198_337_202 (r0 : Option Nat) : e_cTX (e_L r0) RX7 198 337 202 "java/util/NoSuchElementException" ["java/lang/Exception"] := ⟨"no script had a wrong form", 81, "java/lang/RuntimeException", 13, prog_39_method_4_code, ⟨by decide +kernel, by decide +kernel, by decide +kernel, by decide +kernel⟩, by decide +kernel, by decide +kernel, by decide +kernel, by decide, (e_w1 1067 (by decide +kernel) rfl), (e_w1 25 (by decide +kernel) rfl), (by decide +kernel : ("BiscuitLocks", 337, "no script had a wrong form", 81) ∈ e_SR), at_RX7_202, by decide +kernel⟩
theorem th_RX7_198_339_202 (r0 : Option Nat) : e_cTX (e_L r0) RX7 198 339 202 "java/util/NoSuchElementException" ["java/lang/Exception"] := ⟨"no script had a command that failed", 82, "java/lang/RuntimeException", 13, prog_39_method_4_code, ⟨by decide +kernel, by decide +kernel, by decide +kernel, by decide +kernel⟩, by decide +kernel, by decide +kernel, by decide +kernel, by decide, (e_w1 1067 (by decide +kernel) rfl), (e_w1 25 (by decide +kernel) rfl), (by decide +kernel : ("BiscuitLocks", 339, "no script had a command that failed", 82) ∈ e_SR), at_RX7_202, by decide +kernel⟩
theorem th_RX7_198_344_202 (r0 : Option Nat) : e_cTX (e_L r0) RX7 198 344 202 "java/util/NoSuchElementException" ["java/lang/Exception"] := ⟨"there is nothing to undo", 83, "java/lang/RuntimeException", 13, prog_39_method_4_code, ⟨by decide +kernel, by decide +kernel, by decide +kernel, by decide +kernel⟩, by decide +kernel, by decide +kernel, by decide +kernel, by decide, (e_w1 1067 (by decide +kernel) rfl), (e_w1 25 (by decide +kernel) rfl), (by decide +kernel : ("BiscuitLocks", 344, "there is nothing to undo", 83) ∈ e_SR), at_RX7_202, by decide +kernel⟩
theorem th_RX7_124_349_128 (r0 : Option Nat) : e_cT (e_L r0) RX7 124 349 128 "java/lang/IllegalStateException" ["java/lang/RuntimeException", "java/lang/Exception"] := ⟨"there is no snapshot", 84, by decide +kernel, by decide +kernel, by decide, (e_w1 811 (by decide +kernel) rfl), (e_w1 20 (by decide +kernel) rfl), (by decide +kernel : ("BiscuitLocks", 349, "there is no snapshot", 84) ∈ e_SR), at_RX7_128, by decide +kernel⟩
end
section
/-! contracts: words that all of them use -/
/-- the method ends with r, the memory as it was -/
def e_rt (r : Rv) (M : Mem) (n : Nat) : Rv → Mem → Nat → Prop := fun r' M' n' => r' = r ∧ M' = M ∧ n' = n
/-- the method returns v, no cell comes, the memory behind it is as P says -/
def e_wr (v : Option aV) (n : Nat) (P : Mem → Prop) : Rv → Mem → Nat → Prop := fun r' M' n' => r' = .inl v ∧ n' = n ∧ P M'
section BS
variable {Λ : Ls} {Γ : Cx} {X : MD} {d mc ms : Nat} {Q : Rv → Mem → Nat → Prop} {pc : Nat} {ls : List (Option aV)} {st : List aV} {M : Mem} {n kc ks : Nat}
theorem e_kr {v : Option aV} (kk : G Λ Γ X d mc ms Q pc ls (v.toList ++ st) M n kc ks) : ∀ v' M' n', e_rt (.inl v) M n (.inl v') M' n' → n ≤ n' → G Λ Γ X d mc ms Q pc ls (v'.toList ++ st) M' n' (kc + 0) (ks + 0) := by
  rintro v' M' n' ⟨h1, rfl, rfl⟩ -
  cases h1
  exact kk
theorem e_kx {v : Option aV} : ∀ E M' n', e_rt (.inl v) M n (.inr E) M' n' → n ≤ n' → GX Λ Γ X d mc ms Q E pc ls M' n' (kc + 0) (ks + 0) := by
  rintro E M' n' ⟨h1, -, -⟩
  cases h1
theorem e_kw {v : Option aV} {P : Mem → Prop} {mc' ms' : Nat} (kk : ∀ M', P M' → G Λ Γ X d mc ms Q pc ls (v.toList ++ st) M' n (kc + mc') (ks + ms')) : ∀ v' M' n', e_wr v n P (.inl v') M' n' → n ≤ n' → G Λ Γ X d mc ms Q pc ls (v'.toList ++ st) M' n' (kc + mc') (ks + ms') := by
  rintro v' M' n' ⟨h1, rfl, h2⟩ -
  cases h1
  exact kk M' h2
theorem e_kwx {v : Option aV} {P : Mem → Prop} {mc' ms' : Nat} : ∀ E M' n', e_wr v n P (.inr E) M' n' → n ≤ n' → GX Λ Γ X d mc ms Q E pc ls M' n' (kc + mc') (ks + ms') := by
  rintro E M' n' ⟨h1, -, -⟩
  cases h1
end BS
theorem e_down {P : Nat → Prop} (N : Nat) (h : ∀ k, k ≤ N → (k < N → P (k + 1)) → P k) : ∀ k, k ≤ N → P k := by
  have H : ∀ t k, k + t = N → P k := by
    intro t
    induction t with
    | zero => intro k hk; exact h k (by omega) (fun h9 => absurd h9 (by omega))
    | succ t ih => intro k hk; exact h k (by omega) (fun _ => ih (k + 1) (by omega))
  intro k hk
  exact H (N - k) k (by omega)
theorem e_mem {α : Type} {l : List α} {a : α} (i : Nat) (h : l[i]? = some a) : a ∈ l := List.mem_of_getElem? h
/-! cells that agree on their length are the same cell -/
theorem e_arr {cI : ClassId} {N : Nat} {f g : Nat → Value} (h : ∀ j, j < N → f j = g j) : arrV cI N f = arrV cI N g := by
  unfold arrV
  have e : (fun j : Fin N => f j.val) = fun j : Fin N => g j.val := funext fun j => h j.val j.isLt
  rw [e]
theorem e_Wx {Γ : Cx} {ad : Nat → Nat} {M : Mem} {n k : Nat} {H : Heap} {c c' : aE} (hW : e_Wp Γ ad M n H) (hk : e_NC ≤ k) (hM : M k = c) (hat : ∀ a : Nat, va_at Γ.D vwCl (a, e_ce Γ.tys ad c) H → va_at Γ.D vwCl (a, e_ce Γ.tys ad c') H) (hwf : e_wfE n c → e_wfE n c') : e_Wp Γ ad (va_up M k c') n H := by
  by_cases hkn : k < n
  · have hp := e_ws_get (tys := Γ.tys) (ad := ad) (M := M) hk hkn
    rw [hM] at hp
    refine ⟨hW.1, fun j hj => ?_, fun j h1 h2 => ?_, ?_, ?_, hW.2.2.2.2.2⟩
    · rw [va_up_ne _ _ (by omega)]; exact hW.2.1 j hj
    · by_cases e : j = k
      · subst e
        rw [va_up_self]
        exact hwf (hM ▸ hW.2.2.1 j h1 h2)
      · rw [va_up_ne _ _ e]; exact hW.2.2.1 j h1 h2
    · rw [← e_ws_set hk hkn]
      exact hW.2.2.2.1.set hW.2.2.2.2.1 hp (hat _ (hW.2.2.2.1 _ _ hp)) (fun q _ => rfl)
    · rw [← e_ws_set hk hkn]
      exact hW.2.2.2.2.1.set hp
  · have e0 : e_ws Γ.tys ad (va_up M k c') n = e_ws Γ.tys ad M n := by
      unfold e_ws
      refine List.map_congr_left fun j hj => ?_
      have hj2 := List.mem_range.mp hj
      rw [va_up_ne _ _ (by omega)]
    refine ⟨hW.1, fun j hj => ?_, fun j h1 h2 => ?_, ?_, ?_, hW.2.2.2.2.2⟩
    · rw [va_up_ne _ _ (by omega)]; exact hW.2.1 j hj
    · rw [va_up_ne _ _ (by omega)]; exact hW.2.2.1 j h1 h2
    · rw [e0]; exact hW.2.2.2.1
    · rw [e0]; exact hW.2.2.2.2.1
section NX
variable {Λ : Ls} {Γ : Cx} {X : MD} {d mc ms : Nat} {Q : Rv → Mem → Nat → Prop} {pc : Nat} {ls : List (Option aV)} {st : List aV} {M : Mem} {n kc ks : Nat}
theorem g_nI {k kd len : Nat} {f : Nat → Int} (g : Nat → Int) (hk : 100 ≤ k) (hM : M k = cI kd len f) (hfg : ∀ j, j < len → f j = g j) (kk : ∀ M', M' = va_up M k (cI kd len g) → G Λ Γ X d mc ms Q pc ls st M' n kc ks) : G Λ Γ X d mc ms Q pc ls st M n kc ks := by
  intro hE p e R s m args below meth c H locs ad ad0 n0 lsA hF h1 h2 hX hW hS hL hs
  refine kk _ rfl hE p e R s m args below meth c H locs ad ad0 n0 lsA hF h1 h2 hX (e_Wx hW hk hM (fun a h0 => ?_) (fun h => h)) hS hL hs
  have h3 : H[a]? = some (vp_cell (Γ.tys.getD kd (0, .int)).1 (len, .inl fun j => iI (f j))) := h0
  show H[a]? = some (vp_cell (Γ.tys.getD kd (0, .int)).1 (len, .inl fun j => iI (g j)))
  exact h3.trans (congrArg some (e_arr (f := fun j => Value.int (iI (f j))) (g := fun j => Value.int (iI (g j))) fun j hj => congrArg (fun z => Value.int (iI z)) (hfg j hj)))
theorem g_nR {k kd len : Nat} {f : Nat → Option Nat} (g : Nat → Option Nat) (hk : 100 ≤ k) (hM : M k = cR kd len f) (hfg : ∀ j, j < len → f j = g j) (hg : ∀ j, len ≤ j → g j = none) (kk : ∀ M', M' = va_up M k (cR kd len g) → G Λ Γ X d mc ms Q pc ls st M' n kc ks) : G Λ Γ X d mc ms Q pc ls st M n kc ks := by
  intro hE p e R s m args below meth c H locs ad ad0 n0 lsA hF h1 h2 hX hW hS hL hs
  refine kk _ rfl hE p e R s m args below meth c H locs ad ad0 n0 lsA hF h1 h2 hX (e_Wx hW hk hM (fun a h0 => ?_) (fun h => ⟨h.1, fun j r hj => ?_⟩)) hS hL hs
  · have h3 : H[a]? = some (vp_cell (Γ.tys.getD kd (0, .int)).1 (len, .inr (.inr (.inr (.inr fun j => (f j).map ad))))) := h0
    show H[a]? = some (vp_cell (Γ.tys.getD kd (0, .int)).1 (len, .inr (.inr (.inr (.inr fun j => (g j).map ad)))))
    exact h3.trans (congrArg some (e_arr (f := fun j => va_rf ((f j).map ad)) (g := fun j => va_rf ((g j).map ad)) fun j hj => congrArg (fun z => va_rf (Option.map ad z)) (hfg j hj)))
  · by_cases hj2 : j < len
    · exact h.2 j r ((hfg j hj2).trans hj)
    · rw [hg j (by omega)] at hj; cases hj
end NX
/-- outside the cells a .. b-1 nothing changed -/
def e_fr (a b : Nat) (M M' : Mem) : Prop := ∀ k, (k < a ∨ b ≤ k) → M' k = M k
theorem e_fr_refl {a b : Nat} {M : Mem} : e_fr a b M M := fun _ _ => rfl
theorem e_fr_tr {a b : Nat} {M M1 M2 : Mem} (h1 : e_fr a b M M1) (h2 : e_fr a b M1 M2) : e_fr a b M M2 := fun k h => (h2 k h).trans (h1 k h)
theorem e_fr_w {a b c d : Nat} {M M1 : Mem} (h1 : e_fr a b M M1) (h : c ≤ a ∧ b ≤ d) : e_fr c d M M1 := fun k h2 => h1 k (by omega)
theorem e_fr_up {a b k : Nat} {M M' : Mem} {v : aE} (h : M' = va_up M k v) (h1 : a ≤ k ∧ k < b) : e_fr a b M M' := fun j hj => by rw [h, va_up_ne _ _ (by omega)]
theorem e_cpy0 {f g : Nat → Int} {len j : Nat} (hj : j < len) : va_cpy f g 0 0 len j = f j := by
  unfold va_cpy
  rw [if_pos ⟨by omega, by omega⟩, Nat.zero_add, Nat.sub_zero]
end
section
/-! Lock: contracts (wip/whole/gen/c_lock.py prints this part) -/
/-- a lock: open, crumbs, dials, combination -/
abbrev LkS : Type := Int × Int × (Nat → Int) × (Nat → Int)
abbrev LkS.op (L : LkS) : Int := L.1
abbrev LkS.cr (L : LkS) : Int := L.2.1
abbrev LkS.dl (L : LkS) : Nat → Int := L.2.2.1
abbrev LkS.cb (L : LkS) : Nat → Int := L.2.2.2
/-- the lock L lies at a -/
def LM (M : Mem) (a : Nat) (L : LkS) : Prop := 100 ≤ a ∧ M a = cO 6 [vR (a + 1), vR (a + 2), vI L.op, vI L.cr] ∧ M (a + 1) = cI 0 3 L.dl ∧ M (a + 2) = cI 0 3 L.cb
def Lok (L : LkS) : Prop := (L.op = 0 ∨ L.op = 1) ∧ (0 ≤ L.cr ∧ L.cr ≤ 20) ∧ ∀ j, j < 3 → 0 ≤ L.dl j ∧ L.dl j ≤ 9 ∧ 0 ≤ L.cb j ∧ L.cb j ≤ 9
theorem LM_fr {a b x : Nat} {M M' : Mem} {L : LkS} (hf : e_fr a b M M') (hx : x + 3 ≤ a ∨ b ≤ x) (h : LM M x L) : LM M' x L := ⟨h.1, (hf _ (by omega)).trans h.2.1, (hf _ (by omega)).trans h.2.2.1, (hf _ (by omega)).trans h.2.2.2⟩
def p_up (c d : Int) : Int := (c - d + 10) % 10
def p_dist (c d : Int) : Int := if p_up c d < 10 - p_up c d then p_up c d else 10 - p_up c d
theorem p_dist_rng (c d : Int) : 0 ≤ p_dist c d ∧ p_dist c d ≤ 10 := by
  unfold p_dist p_up
  split <;> omega
def p_fitN (dl cb : Nat → Int) (pl : Int) : Nat → Int
  | 0 => 0
  | k + 1 => p_fitN dl cb pl k + (if p_dist (cb k) (dl k) ≤ pl then 1 else 0)
theorem p_fitN_rng (dl cb : Nat → Int) (pl : Int) : ∀ k : Nat, 0 ≤ p_fitN dl cb pl k ∧ p_fitN dl cb pl k ≤ k
  | 0 => by simp [p_fitN]
  | k + 1 => by
    have := p_fitN_rng dl cb pl k
    unfold p_fitN
    split <;> omega
def p_stepN (dl cb : Nat → Int) (pl : Int) : Nat → Int
  | 0 => 0
  | k + 1 => p_stepN dl cb pl k + (if 0 < p_dist (cb k) (dl k) - pl then p_dist (cb k) (dl k) - pl else 0)
theorem p_stepN_rng (dl cb : Nat → Int) (pl : Int) (hp : 0 ≤ pl) : ∀ k : Nat, 0 ≤ p_stepN dl cb pl k ∧ p_stepN dl cb pl k ≤ 10 * k
  | 0 => by simp [p_stepN]
  | k + 1 => by
    have := p_stepN_rng dl cb pl hp k
    have := p_dist_rng (cb k) (dl k)
    unfold p_stepN
    split <;> omega
def p_turn (z x : Int) : Int := (z + x + 10) % 10
def p_tu (c p dir : Int) : Int → Nat → Int
  | _, 0 => 0
  | z, k + 1 => if p_dist c z ≤ p then 0 else 1 + p_tu c p dir (p_turn z dir) k
theorem p_tu_rng (c p dir : Int) : ∀ (k : Nat) (z : Int), 0 ≤ p_tu c p dir z k ∧ p_tu c p dir z k ≤ k
  | 0, z => by simp [p_tu]
  | k + 1, z => by
    have := p_tu_rng c p dir k (p_turn z dir)
    unfold p_tu
    split <;> omega
theorem p_tu_fin : ∀ c : Fin 10, ∀ z : Fin 10, ∀ p : Fin 5, (if p_tu c.val p.val (-1) z.val 10 < p_tu c.val p.val 1 z.val 10 then p_tu c.val p.val (-1) z.val 10 else p_tu c.val p.val 1 z.val 10) = (if 0 < p_dist c.val z.val - p.val then p_dist c.val z.val - p.val else 0) := by decide +kernel
theorem p_tu_eq {c z p : Int} (hc : 0 ≤ c ∧ c ≤ 9) (hz : 0 ≤ z ∧ z ≤ 9) (hp : 0 ≤ p ∧ p ≤ 4) : (if p_tu c p (-1) z 10 < p_tu c p 1 z 10 then p_tu c p (-1) z 10 else p_tu c p 1 z 10) = (if 0 < p_dist c z - p then p_dist c z - p else 0) := by
  have h := p_tu_fin ⟨c.toNat, by omega⟩ ⟨z.toNat, by omega⟩ ⟨p.toNat, by omega⟩
  simp only [Int.toNat_of_nonneg hc.1, Int.toNat_of_nonneg hz.1, Int.toNat_of_nonneg hp.1] at h
  exact h
def lFit (L : LkS) : Int := p_fitN L.dl L.cb (L.cr / 5) 3
def lSteps (L : LkS) : Int := p_stepN L.dl L.cb (L.cr / 5) 3
def lTurn (L : LkS) (d : Nat) (x : Int) : LkS := (L.op, L.cr, va_up L.dl d (p_turn (L.dl d) x), L.cb)
def lTry (L : LkS) : LkS := if lFit L = 3 then (1, L.cr, L.dl, L.cb) else (if (if L.cr + 3 - lFit L < 20 then L.cr + 3 - lFit L else 20) = 20 then 1 else 0, if L.cr + 3 - lFit L < 20 then L.cr + 3 - lFit L else 20, L.dl, L.cb)
def lPut (L : LkS) (d : Nat) (x : Int) : LkS := (L.op, L.cr, L.dl, va_up L.cb d x)
def lSet (L : LkS) (a b c : Int) : LkS := lPut (lPut (lPut L 0 a) 1 b) 2 c
def lDiff (L : LkS) (a b c : Int) : Int := 0 + (if L.cb 0 = a then 0 else 1) + (if L.cb 1 = b then 0 else 1) + (if L.cb 2 = c then 0 else 1)
def lNew (L : LkS) : LkS := (0, 0, fun _ => 0, L.cb)
def L0 : LkS := (0, 0, fun _ => 0, fun _ => 0)
theorem Lok_turn {L : LkS} (h : Lok L) (d : Nat) (x : Int) : Lok (lTurn L d x) := by
  refine ⟨h.1, h.2.1, fun j hj => ?_⟩
  have q := h.2.2 j hj
  show 0 ≤ va_up L.dl d _ j ∧ va_up L.dl d _ j ≤ 9 ∧ 0 ≤ L.cb j ∧ L.cb j ≤ 9
  by_cases e : j = d
  · subst e; rw [va_up_self]; unfold p_turn; omega
  · rw [va_up_ne _ _ e]; exact q
theorem Lok_put {L : LkS} (h : Lok L) (d : Nat) {x : Int} (hx : 0 ≤ x ∧ x ≤ 9) : Lok (lPut L d x) := by
  refine ⟨h.1, h.2.1, fun j hj => ?_⟩
  have q := h.2.2 j hj
  show 0 ≤ L.dl j ∧ L.dl j ≤ 9 ∧ 0 ≤ va_up L.cb d _ j ∧ va_up L.cb d _ j ≤ 9
  by_cases e : j = d
  · subst e; rw [va_up_self]; omega
  · rw [va_up_ne _ _ e]; exact q
theorem Lok_set {L : LkS} (h : Lok L) {a b c : Int} (ha : 0 ≤ a ∧ a ≤ 9) (hb : 0 ≤ b ∧ b ≤ 9) (hc : 0 ≤ c ∧ c ≤ 9) : Lok (lSet L a b c) := Lok_put (Lok_put (Lok_put h 0 ha) 1 hb) 2 hc
theorem Lok_new {L : LkS} (h : Lok L) : Lok (lNew L) := ⟨Or.inl rfl, ⟨by show (0 : Int) ≤ 0; omega, by show (0 : Int) ≤ 20; omega⟩, fun j hj => by have q := h.2.2 j hj; show (0 : Int) ≤ 0 ∧ (0 : Int) ≤ 9 ∧ 0 ≤ L.cb j ∧ L.cb j ≤ 9; omega⟩
theorem Lok_0 : Lok L0 := ⟨Or.inl rfl, ⟨by show (0 : Int) ≤ 0; omega, by show (0 : Int) ≤ 20; omega⟩, fun j hj => by show (0 : Int) ≤ 0 ∧ (0 : Int) ≤ 9 ∧ (0 : Int) ≤ 0 ∧ (0 : Int) ≤ 9; omega⟩
theorem lFit_rng (L : LkS) : 0 ≤ lFit L ∧ lFit L ≤ 3 := p_fitN_rng _ _ _ 3
theorem Lok_try {L : LkS} (h : Lok L) : Lok (lTry L) := by
  have q := lFit_rng L
  have h1 := h.2.1
  unfold lTry
  split
  · exact ⟨Or.inr rfl, h.2.1, h.2.2⟩
  · refine ⟨?_, ?_, h.2.2⟩
    · generalize (if L.cr + 3 - lFit L < 20 then L.cr + 3 - lFit L else 20) = y
      show (if y = 20 then (1 : Int) else 0) = 0 ∨ (if y = 20 then (1 : Int) else 0) = 1
      split
      · exact Or.inr rfl
      · exact Or.inl rfl
    · show 0 ≤ (if L.cr + 3 - lFit L < 20 then L.cr + 3 - lFit L else 20) ∧ (if L.cr + 3 - lFit L < 20 then L.cr + 3 - lFit L else 20) ≤ 20
      split <;> omega
section CL
variable {r0 : Option Nat} {Γ : Cx} {M : Mem} {n a : Nat} {L : LkS}
theorem c_hasMostCrumbs (h : LM M a L) (hr : 0 ≤ L.cr ∧ L.cr ≤ 20) : Ct (e_L r0) Γ mX4_hasMostCrumbs 0 0 0 [vR a] M n (e_rt (.inl (some (vI (if L.cr = 20 then 1 else 0)))) M n) := by
  refine g_start ok_X4_hasMostCrumbs rfl rfl ?_
  refine g_run 0 1 rfl ?_
  refine g_get 1 rfl fl_RX4_22 h.2.1 rfl ?_
  refine g_run 2 1 rfl ?_
  refine g_icmp_ne 3 13 rfl rfl (by omega) (by omega) (fun c6 => ?_) (fun c6 => ?_)
  · rw [if_neg c6]
    refine g_run 6 1 rfl ?_
    exact g_iret 7 rfl rfl (by first | exact trivial | exact Or.inl rfl | exact Or.inr rfl | (show _ ∨ _; omega)) ⟨rfl, rfl, rfl⟩
  · rw [if_pos c6]
    refine g_run 4 2 rfl ?_
    exact g_iret 7 rfl rfl (by first | exact trivial | exact Or.inl rfl | exact Or.inr rfl | (show _ ∨ _; omega)) ⟨rfl, rfl, rfl⟩
theorem c_playNow (h : LM M a L) (hr : 0 ≤ L.cr ∧ L.cr ≤ 20) : Ct (e_L r0) Γ mX4_playNow 0 0 0 [vR a] M n (e_rt (.inl (some (vI (L.cr / 5)))) M n) := by
  refine g_start ok_X4_playNow rfl rfl ?_
  refine g_run 0 1 rfl ?_
  refine g_get 1 rfl fl_RX4_22 h.2.1 rfl ?_
  refine g_run 2 1 rfl ?_
  refine g_idiv 3 rfl (by omega) (by omega) ?_
  exact g_iret 4 rfl rfl (by first | exact trivial | exact Or.inl rfl | exact Or.inr rfl | (show _ ∨ _; omega)) ⟨rfl, rfl, rfl⟩
theorem c_distanceOf (h : LM M a L) (hr : Lok L) (d : Nat) (hd : d < 3) : Ct (e_L r0) Γ mX4_distanceOf 0 0 0 [vR a, vI (d : Int)] M n (e_rt (.inl (some (vI (p_dist (L.cb d) (L.dl d))))) M n) := by
  have q := hr.2.2 d hd
  refine g_start ok_X4_distanceOf rfl rfl ?_
  refine g_run 0 1 rfl ?_
  refine g_get 1 rfl fl_RX4_15 h.2.1 rfl ?_
  refine g_run 2 1 rfl ?_
  refine g_iald 3 d rfl rfl h.2.2.2 rfl (by omega) (by decide) ?_
  refine g_run 4 1 rfl ?_
  refine g_get 5 rfl fl_RX4_9 h.2.1 rfl ?_
  refine g_run 6 1 rfl ?_
  refine g_iald 7 d rfl rfl h.2.2.1 rfl (by omega) (by decide) ?_
  refine g_run 8 4 rfl ?_
  refine g_irem 12 rfl (by omega) (by omega) ?_
  refine g_run 13 7 rfl ?_
  refine g_icmp_ge 20 34 rfl rfl (by omega) (by omega) (fun c27 => ?_) (fun c27 => ?_)
  · rw [show p_dist (L.cb d) (L.dl d) = 10 - (L.cb d - L.dl d + 10) % 10 from if_neg (by unfold p_up; omega)]
    refine g_run 23 1 rfl ?_
    exact g_iret 24 rfl rfl (by first | exact trivial | exact Or.inl rfl | exact Or.inr rfl | (show _ ∨ _; omega)) ⟨rfl, rfl, rfl⟩
  · rw [show p_dist (L.cb d) (L.dl d) = (L.cb d - L.dl d + 10) % 10 from if_pos (by unfold p_up; omega)]
    refine g_run 21 2 rfl ?_
    exact g_iret 24 rfl rfl (by first | exact trivial | exact Or.inl rfl | exact Or.inr rfl | (show _ ∨ _; omega)) ⟨rfl, rfl, rfl⟩
theorem c_countFitting (h : LM M a L) (hr : Lok L) : Ct (e_L r0) Γ mX4_countFitting 1 0 0 [vR a] M n (e_rt (.inl (some (vI (lFit L)))) M n) := by
  have q := hr.2.1
  refine g_start ok_X4_countFitting rfl rfl ?_
  refine g_run 0 3 rfl ?_
  refine g_callV 3 rfl cv_RX4_32 h.2.1 (c_playNow h hr.2.1) rfl rfl (by decide) (by omega) (by omega) (Nat.le_of_ble_eq_true rfl) (e_kr ?_) e_kx
  refine g_run 4 3 rfl ?_
  refine e_down (P := fun k => G (e_L r0) Γ mX4_countFitting 1 0 0 _ 9 [some (vR a), some (vI (p_fitN L.dl L.cb (L.cr / 5) k)), some (vI (L.cr / 5)), some (vI (k : Int))] [] M n 0 0) 3 ?_ 0 (by omega)
  intro k hk ih
  have qk := p_fitN_rng L.dl L.cb (L.cr / 5) k
  refine g_run 7 2 rfl ?_
  refine g_icmp_ge 9 32 rfl rfl (by omega) (by omega) (fun c11 => ?_) (fun c11 => ?_)
  · obtain rfl : k = 3 := by omega
    refine g_run 18 1 rfl ?_
    exact g_iret 19 rfl rfl (by first | exact trivial | exact Or.inl rfl | exact Or.inr rfl | (show _ ∨ _; omega)) ⟨rfl, rfl, rfl⟩
  · refine g_run 10 2 rfl ?_
    refine g_callV 12 rfl cv_RX4_36 h.2.1 (c_distanceOf h hr k (by omega)) rfl rfl (by decide) (by omega) (by omega) (Nat.le_of_ble_eq_true rfl) (e_kr ?_) e_kx
    have qd := p_dist_rng (L.cb k) (L.dl k)
    refine g_run 13 1 rfl ?_
    refine g_icmp_gt 14 26 rfl rfl (by omega) (by omega) (fun c20 => ?_) (fun c20 => ?_)
    · have ih9 := ih (by omega)
      rw [show p_fitN L.dl L.cb (L.cr / 5) (k + 1) = p_fitN L.dl L.cb (L.cr / 5) k from by rw [p_fitN, if_neg (by omega)]; omega] at ih9
      refine g_run 16 2 rfl ?_
      exact ih9
    · have ih9 := ih (by omega)
      rw [show p_fitN L.dl L.cb (L.cr / 5) (k + 1) = p_fitN L.dl L.cb (L.cr / 5) k + 1 from by rw [p_fitN, if_pos (by omega)]] at ih9
      refine g_run 15 3 rfl ?_
      exact ih9
theorem c_stepsByDistances (h : LM M a L) (hr : Lok L) : Ct (e_L r0) Γ mX4_stepsByDistances 1 0 0 [vR a] M n (e_rt (.inl (some (vI (lSteps L)))) M n) := by
  have q := hr.2.1
  refine g_start ok_X4_stepsByDistances rfl rfl ?_
  refine g_run 0 4 rfl ?_
  refine e_down (P := fun k => G (e_L r0) Γ mX4_stepsByDistances 1 0 0 _ 4 [some (vR a), some (vI (p_stepN L.dl L.cb (L.cr / 5) k)), some (vI (k : Int))] [] M n 0 0) 3 ?_ 0 (by omega)
  intro k hk ih
  refine g_run 4 2 rfl ?_
  refine g_icmp_ge 6 32 rfl rfl (by omega) (by omega) (fun c6 => ?_) (fun c6 => ?_)
  · obtain rfl : k = 3 := by omega
    refine g_run 20 1 rfl ?_
    exact g_iret 21 rfl rfl (by first | exact trivial | exact Or.inl rfl | exact Or.inr rfl | (show _ ∨ _; omega)) ⟨rfl, rfl, rfl⟩
  · refine g_run 7 4 rfl ?_
    refine g_callV 11 rfl cv_RX4_36 h.2.1 (c_distanceOf h hr k (by omega)) rfl rfl (by decide) (by omega) (by omega) (Nat.le_of_ble_eq_true rfl) (e_kr ?_) e_kx
    have qd := p_dist_rng (L.cb k) (L.dl k)
    refine g_run 12 1 rfl ?_
    refine g_callV 13 rfl cv_RX4_32 h.2.1 (c_playNow h hr.2.1) rfl rfl (by decide) (by omega) (by omega) (Nat.le_of_ble_eq_true rfl) (e_kr ?_) e_kx
    refine g_run 14 1 rfl ?_
    refine g_max 15 rfl cm_RX4_40 (by omega) (by omega) (Nat.le_of_ble_eq_true rfl) ?_
    refine g_run 16 4 rfl ?_
    exact ih (by omega)
theorem c_lockInit (ha : 100 ≤ a) (hn : n = a + 1) (h : M a = cO 6 [vN, vN, vI 0, vI 0]) : Ct (e_L r0) Γ mX4_init 0 2 6 [vR a] M n (e_wr none (n + 2) fun M' => LM M' a L0 ∧ e_fr a (a + 3) M M') := by
  refine g_start ok_X4_init rfl rfl ?_
  refine g_run 0 1 rfl ?_
  refine g_obj 1 rfl co_RX4_3 (Nat.le_of_ble_eq_true rfl) ?_
  refine g_run 2 2 rfl ?_
  refine g_newaI (kd := 0) 4 3 rfl (by decide) rfl ac_I rfl (by omega) (by omega) (by omega) (fun M6 hM6 => ?_)
  have k6 := (congrFun hM6 a).trans ((va_up_ne _ _ (by omega)).trans h)
  have k6d := (congrFun hM6 n).trans (va_up_self _ _ _)
  have fr6 : e_fr a (a + 3) M M6 := e_fr_up hM6 (by omega)
  refine g_putF 5 rfl fp_RX4_9 rfl k6 rfl trivial (fun M8 hM8 => ?_)
  have k8_this := (congrFun hM8 a).trans (va_up_self _ _ _)
  have fr8 := e_fr_tr fr6 (e_fr_up hM8 (by omega))
  have k8_this_dials := (congrFun hM8 n).trans ((va_up_ne _ _ (by omega)).trans k6d)
  refine g_run 6 2 rfl ?_
  refine g_newaI (kd := 0) 8 3 rfl (by decide) rfl ac_I rfl (by omega) (by omega) (by omega) (fun M13 hM13 => ?_)
  have k13 := (congrFun hM13 a).trans ((va_up_ne _ _ (by omega)).trans k8_this)
  have k13d := (congrFun hM13 n).trans ((va_up_ne _ _ (by omega)).trans k8_this_dials)
  have k13c := (congrFun hM13 (n + 1)).trans (va_up_self _ _ _)
  have fr13 := e_fr_tr fr8 (e_fr_up hM13 (by omega))
  refine g_putF 9 rfl fp_RX4_15 rfl k13 rfl trivial (fun M15 hM15 => ?_)
  have k15_this := (congrFun hM15 a).trans (va_up_self _ _ _)
  have fr15 := e_fr_tr fr13 (e_fr_up hM15 (by omega))
  have k15_this_dials := (congrFun hM15 n).trans ((va_up_ne _ _ (by omega)).trans k13d)
  have k15_this_combination := (congrFun hM15 (n + 1)).trans ((va_up_ne _ _ (by omega)).trans k13c)
  refine g_run 10 2 rfl ?_
  refine g_put 12 rfl fp_RX4_18 k15_this rfl (by show _ ∨ _; first | exact Or.inl rfl | exact Or.inr rfl | omega) (fun M20 hM20 => ?_)
  have k20_this := (congrFun hM20 a).trans (va_up_self _ _ _)
  have fr20 := e_fr_tr fr15 (e_fr_up hM20 (by omega))
  have k20_this_dials := (congrFun hM20 n).trans ((va_up_ne _ _ (by omega)).trans k15_this_dials)
  have k20_this_combination := (congrFun hM20 (n + 1)).trans ((va_up_ne _ _ (by omega)).trans k15_this_combination)
  refine g_run 13 2 rfl ?_
  refine g_put 15 rfl fp_RX4_22 k20_this rfl trivial (fun M25 hM25 => ?_)
  have k25_this := (congrFun hM25 a).trans (va_up_self _ _ _)
  have fr25 := e_fr_tr fr20 (e_fr_up hM25 (by omega))
  have k25_this_dials := (congrFun hM25 n).trans ((va_up_ne _ _ (by omega)).trans k20_this_dials)
  have k25_this_combination := (congrFun hM25 (n + 1)).trans ((va_up_ne _ _ (by omega)).trans k20_this_combination)
  subst hn
  exact g_vret 16 rfl rfl ⟨rfl, rfl, ⟨ha, k25_this, k25_this_dials, k25_this_combination⟩, fr25⟩
theorem c_lockCopy {b : Nat} {B : LkS} (h : LM M a L) (hb : LM M b B) (hab : a + 3 ≤ b ∨ b + 3 ≤ a) (hop : B.op = 0 ∨ B.op = 1) : Ct (e_L r0) Γ mX4_copyFrom 0 0 0 [vR a, vR b] M n (e_wr none n fun M' => LM M' a B ∧ e_fr a (a + 3) M M') := by
  have fr0 : e_fr a (a + 3) M M := e_fr_refl
  refine g_start ok_X4_copyFrom rfl rfl ?_
  refine g_run 0 1 rfl ?_
  refine g_get 1 rfl fl_RX4_9 hb.2.1 rfl ?_
  refine g_run 2 2 rfl ?_
  refine g_get 4 rfl fl_RX4_9 h.2.1 rfl ?_
  refine g_run 5 2 rfl ?_
  refine g_copy 7 0 0 3 rfl cy9_RX4_26 (by decide) hb.2.2.1 h.2.2.1 rfl rfl rfl (by decide) (by decide) (by decide) (by decide) (fun _ _ => trivial) (Nat.le_of_ble_eq_true rfl) (fun M11 hM11 => ?_)
  have k11_this := (congrFun hM11 a).trans ((va_up_ne _ _ (by omega)).trans h.2.1)
  have k11_this_dials := (congrFun hM11 (a + 1)).trans (va_up_self _ _ _)
  have k11_this_combination := (congrFun hM11 (a + 2)).trans ((va_up_ne _ _ (by omega)).trans h.2.2.2)
  have k11_other := (congrFun hM11 b).trans ((va_up_ne _ _ (by omega)).trans hb.2.1)
  have k11_other_dials := (congrFun hM11 (b + 1)).trans ((va_up_ne _ _ (by omega)).trans hb.2.2.1)
  have k11_other_combination := (congrFun hM11 (b + 2)).trans ((va_up_ne _ _ (by omega)).trans hb.2.2.2)
  have fr11 := e_fr_tr fr0 (e_fr_up hM11 (by omega))
  refine g_nI B.dl (by have := h.1; omega) k11_this_dials (fun _ => e_cpy0) (fun M12 hM12 => ?_)
  have k12_this := (congrFun hM12 a).trans ((va_up_ne _ _ (by omega)).trans k11_this)
  have k12_this_dials := (congrFun hM12 (a + 1)).trans (va_up_self _ _ _)
  have k12_this_combination := (congrFun hM12 (a + 2)).trans ((va_up_ne _ _ (by omega)).trans k11_this_combination)
  have k12_other := (congrFun hM12 b).trans ((va_up_ne _ _ (by omega)).trans k11_other)
  have k12_other_dials := (congrFun hM12 (b + 1)).trans ((va_up_ne _ _ (by omega)).trans k11_other_dials)
  have k12_other_combination := (congrFun hM12 (b + 2)).trans ((va_up_ne _ _ (by omega)).trans k11_other_combination)
  have fr12 := e_fr_tr fr11 (e_fr_up hM12 (by omega))
  refine g_run 8 1 rfl ?_
  refine g_get 9 rfl fl_RX4_15 k12_other rfl ?_
  refine g_run 10 2 rfl ?_
  refine g_get 12 rfl fl_RX4_15 k12_this rfl ?_
  refine g_run 13 2 rfl ?_
  refine g_copy 15 0 0 3 rfl cy9_RX4_26 (by decide) k12_other_combination k12_this_combination rfl rfl rfl (by decide) (by decide) (by decide) (by decide) (fun _ _ => trivial) (Nat.le_of_ble_eq_true rfl) (fun M25 hM25 => ?_)
  have k25_this := (congrFun hM25 a).trans ((va_up_ne _ _ (by omega)).trans k12_this)
  have k25_this_dials := (congrFun hM25 (a + 1)).trans ((va_up_ne _ _ (by omega)).trans k12_this_dials)
  have k25_this_combination := (congrFun hM25 (a + 2)).trans (va_up_self _ _ _)
  have k25_other := (congrFun hM25 b).trans ((va_up_ne _ _ (by omega)).trans k12_other)
  have k25_other_dials := (congrFun hM25 (b + 1)).trans ((va_up_ne _ _ (by omega)).trans k12_other_dials)
  have k25_other_combination := (congrFun hM25 (b + 2)).trans ((va_up_ne _ _ (by omega)).trans k12_other_combination)
  have fr25 := e_fr_tr fr12 (e_fr_up hM25 (by omega))
  refine g_nI B.cb (by have := h.1; omega) k25_this_combination (fun _ => e_cpy0) (fun M26 hM26 => ?_)
  have k26_this := (congrFun hM26 a).trans ((va_up_ne _ _ (by omega)).trans k25_this)
  have k26_this_dials := (congrFun hM26 (a + 1)).trans ((va_up_ne _ _ (by omega)).trans k25_this_dials)
  have k26_this_combination := (congrFun hM26 (a + 2)).trans (va_up_self _ _ _)
  have k26_other := (congrFun hM26 b).trans ((va_up_ne _ _ (by omega)).trans k25_other)
  have k26_other_dials := (congrFun hM26 (b + 1)).trans ((va_up_ne _ _ (by omega)).trans k25_other_dials)
  have k26_other_combination := (congrFun hM26 (b + 2)).trans ((va_up_ne _ _ (by omega)).trans k25_other_combination)
  have fr26 := e_fr_tr fr25 (e_fr_up hM26 (by omega))
  refine g_run 16 2 rfl ?_
  refine g_get 18 rfl fl_RX4_18 k26_other rfl ?_
  refine g_put 19 rfl fp_RX4_18 k26_this rfl hop (fun M33 hM33 => ?_)
  have k33_this := (congrFun hM33 a).trans (va_up_self _ _ _)
  have k33_this_dials := (congrFun hM33 (a + 1)).trans ((va_up_ne _ _ (by omega)).trans k26_this_dials)
  have k33_this_combination := (congrFun hM33 (a + 2)).trans ((va_up_ne _ _ (by omega)).trans k26_this_combination)
  have k33_other := (congrFun hM33 b).trans ((va_up_ne _ _ (by omega)).trans k26_other)
  have k33_other_dials := (congrFun hM33 (b + 1)).trans ((va_up_ne _ _ (by omega)).trans k26_other_dials)
  have k33_other_combination := (congrFun hM33 (b + 2)).trans ((va_up_ne _ _ (by omega)).trans k26_other_combination)
  have fr33 := e_fr_tr fr26 (e_fr_up hM33 (by omega))
  refine g_run 20 2 rfl ?_
  refine g_get 22 rfl fl_RX4_22 k33_other rfl ?_
  refine g_put 23 rfl fp_RX4_22 k33_this rfl trivial (fun M41 hM41 => ?_)
  have k41_this := (congrFun hM41 a).trans (va_up_self _ _ _)
  have k41_this_dials := (congrFun hM41 (a + 1)).trans ((va_up_ne _ _ (by omega)).trans k33_this_dials)
  have k41_this_combination := (congrFun hM41 (a + 2)).trans ((va_up_ne _ _ (by omega)).trans k33_this_combination)
  have k41_other := (congrFun hM41 b).trans ((va_up_ne _ _ (by omega)).trans k33_other)
  have k41_other_dials := (congrFun hM41 (b + 1)).trans ((va_up_ne _ _ (by omega)).trans k33_other_dials)
  have k41_other_combination := (congrFun hM41 (b + 2)).trans ((va_up_ne _ _ (by omega)).trans k33_other_combination)
  have fr41 := e_fr_tr fr33 (e_fr_up hM41 (by omega))
  exact g_vret 24 rfl rfl ⟨rfl, rfl, ⟨h.1, k41_this, k41_this_dials, k41_this_combination⟩, fr41⟩
theorem c_turnBy (h : LM M a L) (hr : Lok L) (d : Nat) (hd : d < 3) (x : Int) (hx : -9 ≤ x ∧ x ≤ 9) : Ct (e_L r0) Γ mX4_turnBy 0 0 0 [vR a, vI (d : Int), vI x] M n (e_wr (some (vI (p_turn (L.dl d) x))) n fun M' => LM M' a (lTurn L d x) ∧ e_fr a (a + 3) M M') := by
  have fr0 : e_fr a (a + 3) M M := e_fr_refl
  have q := hr.2.2 d hd
  refine g_start ok_X4_turnBy rfl rfl ?_
  refine g_run 0 1 rfl ?_
  refine g_get 1 rfl fl_RX4_9 h.2.1 rfl ?_
  refine g_run 2 2 rfl ?_
  refine g_get 4 rfl fl_RX4_9 h.2.1 rfl ?_
  refine g_run 5 1 rfl ?_
  refine g_iald 6 d rfl rfl h.2.2.1 rfl (by omega) (by decide) ?_
  refine g_run 7 5 rfl ?_
  refine g_irem 12 rfl (by omega) (by omega) ?_
  refine g_iast 13 d rfl rfl (by decide) h.2.2.1 rfl (by omega) (by decide) (fun M19 hM19 => ?_)
  have k19_this := (congrFun hM19 a).trans ((va_up_ne _ _ (by omega)).trans h.2.1)
  have k19_this_dials := (congrFun hM19 (a + 1)).trans (va_up_self _ _ _)
  have k19_this_combination := (congrFun hM19 (a + 2)).trans ((va_up_ne _ _ (by omega)).trans h.2.2.2)
  have fr19 := e_fr_tr fr0 (e_fr_up hM19 (by omega))
  refine g_run 14 1 rfl ?_
  refine g_get 15 rfl fl_RX4_9 k19_this rfl ?_
  refine g_run 16 1 rfl ?_
  refine g_iald 17 d rfl rfl k19_this_dials rfl (by omega) (by decide) ?_
  rw [va_up_self]
  exact g_iret 18 rfl rfl (by first | exact trivial | exact Or.inl rfl | exact Or.inr rfl | (show _ ∨ _; omega)) ⟨rfl, rfl, ⟨h.1, k19_this, k19_this_dials, k19_this_combination⟩, fr19⟩
theorem c_setPosition (h : LM M a L) (hr : Lok L) (d : Nat) (hd : d < 3) (x : Int) (hx : 0 ≤ x ∧ x ≤ 9) : Ct (e_L r0) Γ mX4_setPosition 0 0 0 [vR a, vI (d : Int), vI x] M n (e_wr (some (vI (if L.cb d = x then 0 else 1))) n fun M' => LM M' a (lPut L d x) ∧ e_fr a (a + 3) M M') := by
  have fr0 : e_fr a (a + 3) M M := e_fr_refl
  have q := hr.2.2 d hd
  refine g_start ok_X4_setPosition rfl rfl ?_
  refine g_run 0 1 rfl ?_
  refine g_get 1 rfl fl_RX4_15 h.2.1 rfl ?_
  refine g_run 2 1 rfl ?_
  refine g_iald 3 d rfl rfl h.2.2.2 rfl (by omega) (by decide) ?_
  refine g_run 4 1 rfl ?_
  refine g_icmp_ne 5 14 rfl rfl (by omega) (by omega) (fun c7 => ?_) (fun c7 => ?_)
  · rw [if_neg c7]
    refine g_run 8 3 rfl ?_
    refine g_get 11 rfl fl_RX4_15 h.2.1 rfl ?_
    refine g_run 12 2 rfl ?_
    refine g_iast 14 d rfl rfl (by decide) h.2.2.2 rfl (by omega) (by decide) (fun M22 hM22 => ?_)
    have k22_this := (congrFun hM22 a).trans ((va_up_ne _ _ (by omega)).trans h.2.1)
    have k22_this_dials := (congrFun hM22 (a + 1)).trans ((va_up_ne _ _ (by omega)).trans h.2.2.1)
    have k22_this_combination := (congrFun hM22 (a + 2)).trans (va_up_self _ _ _)
    have fr22 := e_fr_tr fr0 (e_fr_up hM22 (by omega))
    refine g_run 15 1 rfl ?_
    exact g_iret 16 rfl rfl (by first | exact trivial | exact Or.inl rfl | exact Or.inr rfl | (show _ ∨ _; omega)) ⟨rfl, rfl, ⟨h.1, k22_this, k22_this_dials, k22_this_combination⟩, fr22⟩
  · rw [if_pos c7]
    refine g_run 6 2 rfl ?_
    refine g_run 9 2 rfl ?_
    refine g_get 11 rfl fl_RX4_15 h.2.1 rfl ?_
    refine g_run 12 2 rfl ?_
    refine g_iast 14 d rfl rfl (by decide) h.2.2.2 rfl (by omega) (by decide) (fun M22 hM22 => ?_)
    have k22_this := (congrFun hM22 a).trans ((va_up_ne _ _ (by omega)).trans h.2.1)
    have k22_this_dials := (congrFun hM22 (a + 1)).trans ((va_up_ne _ _ (by omega)).trans h.2.2.1)
    have k22_this_combination := (congrFun hM22 (a + 2)).trans (va_up_self _ _ _)
    have fr22 := e_fr_tr fr0 (e_fr_up hM22 (by omega))
    refine g_run 15 1 rfl ?_
    exact g_iret 16 rfl rfl (by first | exact trivial | exact Or.inl rfl | exact Or.inr rfl | (show _ ∨ _; omega)) ⟨rfl, rfl, ⟨h.1, k22_this, k22_this_dials, k22_this_combination⟩, fr22⟩
theorem c_setPositions (h : LM M a L) (hr : Lok L) (f s t : Int) (hf : 0 ≤ f ∧ f ≤ 9) (hs : 0 ≤ s ∧ s ≤ 9) (ht : 0 ≤ t ∧ t ≤ 9) : Ct (e_L r0) Γ mX4_setPositions 1 0 0 [vR a, vI f, vI s, vI t] M n (e_wr (some (vI (lDiff L f s t))) n fun M' => LM M' a (lSet L f s t) ∧ e_fr a (a + 3) M M') := by
  have fr0 : e_fr a (a + 3) M M := e_fr_refl
  refine g_start ok_X4_setPositions rfl rfl ?_
  refine g_run 0 6 rfl ?_
  refine g_callV 6 rfl cv_RX4_66 h.2.1 (c_setPosition h hr 0 (by decide) f hf) rfl rfl (by decide) (by omega) (by omega) (Nat.le_of_ble_eq_true rfl) (e_kw fun M8 hq8 => ?_) e_kwx
  have fr8 := e_fr_tr fr0 (e_fr_w hq8.2 (by omega))
  refine g_run 7 6 rfl ?_
  refine g_callV 13 rfl cv_RX4_66 hq8.1.2.1 (c_setPosition hq8.1 (Lok_put hr 0 hf) 1 (by decide) s hs) rfl rfl (by decide) (by omega) (by omega) (Nat.le_of_ble_eq_true rfl) (e_kw fun M19 hq19 => ?_) e_kwx
  have fr19 := e_fr_tr fr8 (e_fr_w hq19.2 (by omega))
  refine g_run 14 6 rfl ?_
  refine g_callV 20 rfl cv_RX4_66 hq19.1.2.1 (c_setPosition hq19.1 (Lok_put (Lok_put hr 0 hf) 1 hs) 2 (by decide) t ht) rfl rfl (by decide) (by omega) (by omega) (Nat.le_of_ble_eq_true rfl) (e_kw fun M30 hq30 => ?_) e_kwx
  have fr30 := e_fr_tr fr19 (e_fr_w hq30.2 (by omega))
  refine g_run 21 3 rfl ?_
  rw [show (lPut L 0 f).cb 1 = L.cb 1 from rfl, show (lPut (lPut L 0 f) 1 s).cb 2 = L.cb 2 from rfl, show 0 + (if L.cb 0 = f then 0 else 1) + (if L.cb 1 = s then 0 else 1) + (if L.cb 2 = t then 0 else 1) = lDiff L f s t from rfl]
  exact g_iret 24 rfl rfl (by first | exact trivial | exact Or.inl rfl | exact Or.inr rfl | (show _ ∨ _; omega)) ⟨rfl, rfl, hq30.1, fr30⟩
end CL
theorem lTurn_self {L : LkS} {d : Nat} {x : Int} : (lTurn L d x).dl d = p_turn (L.dl d) x := va_up_self _ _ _
section CL2
variable {r0 : Option Nat} {Γ : Cx} {n a : Nat}
/-- turning until it fits, from the state at hand: k turns are left -/
theorem c_tuf9 {Q : Rv → Mem → Nat → Prop} (d : Nat) (hd : d < 3) (dir pl : Int) (hdir : dir = 1 ∨ dir = -1) (hpl : 0 ≤ pl ∧ pl ≤ 4) : ∀ (k : Nat) (M : Mem) (L : LkS), k ≤ 10 → LM M a L → Lok L →
    (∀ M' L', LM M' a L' → e_fr a (a + 3) M M' → Q (.inl (some (vI (10 - k + p_tu (L.cb d) pl dir (L.dl d) k)))) M' n) →
    G (e_L r0) Γ mX4_turnUntilFitting 1 0 0 Q 8 [some (vR a), some (vI (d : Int)), some (vI dir), some (vI (10 - k)), some (vI pl)] [] M n 0 0 := by
  intro k
  induction k with
  | zero =>
    intro M L hk h hr hQ
    have hQ := hQ M L h e_fr_refl
    rw [show (10 : Int) - ((0 : Nat) : Int) + p_tu (L.cb d) pl dir (L.dl d) 0 = 10 - ((0 : Nat) : Int) from by show (10 : Int) - 0 + 0 = 10 - 0; omega] at hQ
    refine g_run 5 2 rfl ?_
    refine g_icmp_ge 7 37 rfl rfl (by omega) (by omega) (fun c11 => ?_) (fun c11 => ?_)
    · refine g_run 20 1 rfl ?_
      exact g_iret 21 rfl rfl (by first | exact trivial | exact Or.inl rfl | exact Or.inr rfl | (show _ ∨ _; omega)) hQ
    · exact absurd c11 (by omega)
  | succ k ih =>
    intro M L hk h hr hQ
    refine g_run 5 2 rfl ?_
    refine g_icmp_ge 7 37 rfl rfl (by omega) (by omega) (fun c11 => ?_) (fun c11 => ?_)
    · exact absurd c11 (by omega)
    · refine g_run 8 2 rfl ?_
      refine g_callV 10 rfl cv_RX4_36 h.2.1 (c_distanceOf h hr d hd) rfl rfl (by decide) (by omega) (by omega) (Nat.le_of_ble_eq_true rfl) (e_kr ?_) e_kx
      have qd := p_dist_rng (L.cb d) (L.dl d)
      refine g_run 11 1 rfl ?_
      refine g_icmp_le 12 37 rfl rfl (by omega) (by omega) (fun c21 => ?_) (fun c21 => ?_)
      · have hQ9 := hQ M L h e_fr_refl
        rw [p_tu, if_pos (by omega), Int.add_zero] at hQ9
        refine g_run 20 1 rfl ?_
        exact g_iret 21 rfl rfl (by first | exact trivial | exact Or.inl rfl | exact Or.inr rfl | (show _ ∨ _; omega)) hQ9
      · refine g_run 13 3 rfl ?_
        refine g_callV 16 rfl cv_RX4_56 h.2.1 (c_turnBy h hr d hd dir (by omega)) rfl rfl (by decide) (by omega) (by omega) (Nat.le_of_ble_eq_true rfl) (e_kw fun M27 hq27 => ?_) e_kwx
        refine g_run 17 3 rfl ?_
        have e9 : (10 : Int) - ((k + 1 : Nat) : Int) + 1 = 10 - (k : Int) := by omega
        rw [e9]
        refine ih M27 (lTurn L d dir) (by omega) hq27.1 (Lok_turn hr d dir) (fun M' L' h1 h2 => ?_)
        have hQ9 := hQ M' L' h1 (e_fr_tr hq27.2 h2)
        rw [show (10 : Int) - ((k + 1 : Nat) : Int) + p_tu (L.cb d) pl dir (L.dl d) (k + 1) = 10 - (k : Int) + p_tu ((lTurn L d dir).cb d) pl dir ((lTurn L d dir).dl d) k from by rw [lTurn_self, show (lTurn L d dir).cb d = L.cb d from rfl, p_tu, if_neg (by omega)]; omega] at hQ9
        exact hQ9
variable {M : Mem} {L : LkS}
theorem c_turnUntilFitting (h : LM M a L) (hr : Lok L) (d : Nat) (hd : d < 3) (dir : Int) (hdir : dir = 1 ∨ dir = -1) : Ct (e_L r0) Γ mX4_turnUntilFitting 1 0 0 [vR a, vI (d : Int), vI dir] M n (e_wr (some (vI (p_tu (L.cb d) (L.cr / 5) dir (L.dl d) 10))) n fun M' => (∃ L', LM M' a L') ∧ e_fr a (a + 3) M M') := by
  have q := hr.2.1
  refine g_start ok_X4_turnUntilFitting rfl rfl ?_
  refine g_run 0 3 rfl ?_
  refine g_callV 3 rfl cv_RX4_32 h.2.1 (c_playNow h hr.2.1) rfl rfl (by decide) (by omega) (by omega) (Nat.le_of_ble_eq_true rfl) (e_kr ?_) e_kx
  refine g_run 4 1 rfl ?_
  have e9 := c_tuf9 (r0 := r0) (Γ := Γ) (n := n) (Q := e_wr (some (vI (p_tu (L.cb d) (L.cr / 5) dir (L.dl d) 10))) n fun M' => (∃ L', LM M' a L') ∧ e_fr a (a + 3) M M') d hd dir (L.cr / 5) hdir (by omega) 10 M L (by omega) h hr (fun M' L' h1 h2 => ⟨by rw [show (10 : Int) - ((10 : Nat) : Int) + p_tu (L.cb d) (L.cr / 5) dir (L.dl d) 10 = p_tu (L.cb d) (L.cr / 5) dir (L.dl d) 10 from by omega], rfl, ⟨L', h1⟩, h2⟩)
  exact e9
theorem c_takeTry (h : LM M a L) (hr : Lok L) : Ct (e_L r0) Γ mX4_takeTry 2 0 0 [vR a] M n (e_wr (some (vI (if lFit L = 3 then 1 else 0))) n fun M' => LM M' a (lTry L) ∧ e_fr a (a + 3) M M') := by
  have fr0 : e_fr a (a + 3) M M := e_fr_refl
  have q := hr.2.1
  refine g_start ok_X4_takeTry rfl rfl ?_
  refine g_run 0 1 rfl ?_
  refine g_callV 1 rfl cv_RX4_59 h.2.1 (c_countFitting h hr) rfl rfl (by decide) (by omega) (by omega) (Nat.le_of_ble_eq_true rfl) (e_kr ?_) e_kx
  have qf := lFit_rng L
  refine g_run 2 3 rfl ?_
  refine g_icmp_ne 5 17 rfl rfl (by omega) (by omega) (fun c7 => ?_) (fun c7 => ?_)
  · rw [show lTry L = _ from if_neg c7, if_neg c7]
    refine g_run 11 3 rfl ?_
    refine g_get 14 rfl fl_RX4_22 h.2.1 rfl ?_
    refine g_run 15 4 rfl ?_
    refine g_min 19 rfl cm_RX4_53 (by omega) (by omega) (Nat.le_of_ble_eq_true rfl) ?_
    refine g_put 20 rfl fp_RX4_22 h.2.1 rfl trivial (fun M31 hM31 => ?_)
    have k31_this := (congrFun hM31 a).trans (va_up_self _ _ _)
    have k31_this_dials := (congrFun hM31 (a + 1)).trans ((va_up_ne _ _ (by omega)).trans h.2.2.1)
    have k31_this_combination := (congrFun hM31 (a + 2)).trans ((va_up_ne _ _ (by omega)).trans h.2.2.2)
    have fr31 := e_fr_tr fr0 (e_fr_up hM31 (by omega))
    refine g_run 21 2 rfl ?_
    have h36 : LM M31 a (L.op, if L.cr + 3 - lFit L < 20 then L.cr + 3 - lFit L else 20, L.dl, L.cb) := ⟨h.1, k31_this, k31_this_dials, k31_this_combination⟩
    have q36 : 0 ≤ (if L.cr + 3 - lFit L < 20 then L.cr + 3 - lFit L else 20) ∧ (if L.cr + 3 - lFit L < 20 then L.cr + 3 - lFit L else 20) ≤ 20 := by split <;> omega
    refine g_callV 23 rfl cv_RX4_62 k31_this (c_hasMostCrumbs h36 q36) rfl rfl (by decide) (by omega) (by omega) (Nat.le_of_ble_eq_true rfl) (e_kr ?_) e_kx
    refine g_put 24 rfl fp_RX4_18 k31_this rfl (by show _ ∨ _; generalize (if L.cr + 3 - lFit L < 20 then L.cr + 3 - lFit L else 20) = y; show (if y = 20 then (1 : Int) else 0) = 0 ∨ (if y = 20 then (1 : Int) else 0) = 1; split; exact Or.inr rfl; exact Or.inl rfl) (fun M39 hM39 => ?_)
    have k39_this := (congrFun hM39 a).trans (va_up_self _ _ _)
    have k39_this_dials := (congrFun hM39 (a + 1)).trans ((va_up_ne _ _ (by omega)).trans k31_this_dials)
    have k39_this_combination := (congrFun hM39 (a + 2)).trans ((va_up_ne _ _ (by omega)).trans k31_this_combination)
    have fr39 := e_fr_tr fr31 (e_fr_up hM39 (by omega))
    refine g_run 25 1 rfl ?_
    exact g_iret 26 rfl rfl (by first | exact trivial | exact Or.inl rfl | exact Or.inr rfl | (show _ ∨ _; omega)) ⟨rfl, rfl, ⟨h.1, k39_this, k39_this_dials, k39_this_combination⟩, fr39⟩
  · rw [show lTry L = _ from if_pos c7, if_pos c7]
    refine g_run 6 2 rfl ?_
    refine g_put 8 rfl fp_RX4_18 h.2.1 rfl (by show _ ∨ _; first | exact Or.inl rfl | exact Or.inr rfl | omega) (fun M12 hM12 => ?_)
    have k12_this := (congrFun hM12 a).trans (va_up_self _ _ _)
    have k12_this_dials := (congrFun hM12 (a + 1)).trans ((va_up_ne _ _ (by omega)).trans h.2.2.1)
    have k12_this_combination := (congrFun hM12 (a + 2)).trans ((va_up_ne _ _ (by omega)).trans h.2.2.2)
    have fr12 := e_fr_tr fr0 (e_fr_up hM12 (by omega))
    refine g_run 9 1 rfl ?_
    exact g_iret 10 rfl rfl (by first | exact trivial | exact Or.inl rfl | exact Or.inr rfl | (show _ ∨ _; omega)) ⟨rfl, rfl, ⟨h.1, k12_this, k12_this_dials, k12_this_combination⟩, fr12⟩
theorem c_renew (h : LM M a L) (hr : Lok L) : Ct (e_L r0) Γ mX4_renew 0 0 0 [vR a] M n (e_wr none n fun M' => LM M' a (lNew L) ∧ e_fr a (a + 3) M M') := by
  have fr0 : e_fr a (a + 3) M M := e_fr_refl
  refine g_start ok_X4_renew rfl rfl ?_
  refine g_run 0 2 rfl ?_
  refine e_down (P := fun k => ∀ M', LM M' a (L.op, L.cr, (fun j => if j < k then 0 else L.dl j), L.cb) → e_fr a (a + 3) M M' → G (e_L r0) Γ mX4_renew 0 0 0 _ 2 [some (vR a), some (vI (k : Int))] [] M' n 0 0) 3 ?_ 0 (by omega) M h fr0
  intro k hk ih M2 h2 fr2
  refine g_run 2 2 rfl ?_
  refine g_icmp_ge 4 20 rfl rfl (by omega) (by omega) (fun c4 => ?_) (fun c4 => ?_)
  · obtain rfl : k = 3 := by omega
    refine g_nI (fun _ => 0) (by have := h.1; omega) h2.2.2.1 (fun j hj => if_pos hj) (fun M19 hM19 => ?_)
    have k19_this := (congrFun hM19 a).trans ((va_up_ne _ _ (by omega)).trans h2.2.1)
    have k19_this_dials := (congrFun hM19 (a + 1)).trans (va_up_self _ _ _)
    have k19_this_combination := (congrFun hM19 (a + 2)).trans ((va_up_ne _ _ (by omega)).trans h2.2.2.2)
    have fr19 := e_fr_tr fr2 (e_fr_up hM19 (by omega))
    refine g_run 12 2 rfl ?_
    refine g_put 14 rfl fp_RX4_18 k19_this rfl (by show _ ∨ _; first | exact Or.inl rfl | exact Or.inr rfl | omega) (fun M22 hM22 => ?_)
    have k22_this := (congrFun hM22 a).trans (va_up_self _ _ _)
    have k22_this_dials := (congrFun hM22 (a + 1)).trans ((va_up_ne _ _ (by omega)).trans k19_this_dials)
    have k22_this_combination := (congrFun hM22 (a + 2)).trans ((va_up_ne _ _ (by omega)).trans k19_this_combination)
    have fr22 := e_fr_tr fr19 (e_fr_up hM22 (by omega))
    refine g_run 15 2 rfl ?_
    refine g_put 17 rfl fp_RX4_22 k22_this rfl trivial (fun M27 hM27 => ?_)
    have k27_this := (congrFun hM27 a).trans (va_up_self _ _ _)
    have k27_this_dials := (congrFun hM27 (a + 1)).trans ((va_up_ne _ _ (by omega)).trans k22_this_dials)
    have k27_this_combination := (congrFun hM27 (a + 2)).trans ((va_up_ne _ _ (by omega)).trans k22_this_combination)
    have fr27 := e_fr_tr fr22 (e_fr_up hM27 (by omega))
    exact g_vret 18 rfl rfl ⟨rfl, rfl, ⟨h.1, k27_this, k27_this_dials, k27_this_combination⟩, fr27⟩
  · refine g_run 5 1 rfl ?_
    refine g_get 6 rfl fl_RX4_9 h2.2.1 rfl ?_
    refine g_run 7 2 rfl ?_
    refine g_iast 9 k rfl rfl (by decide) h2.2.2.1 rfl (by omega) (by decide) (fun M13 hM13 => ?_)
    have k13_this := (congrFun hM13 a).trans ((va_up_ne _ _ (by omega)).trans h2.2.1)
    have k13_this_dials := (congrFun hM13 (a + 1)).trans (va_up_self _ _ _)
    have k13_this_combination := (congrFun hM13 (a + 2)).trans ((va_up_ne _ _ (by omega)).trans h2.2.2.2)
    have fr13 := e_fr_tr fr2 (e_fr_up hM13 (by omega))
    refine g_run 10 2 rfl ?_
    refine g_nI (fun j => if j < k + 1 then 0 else L.dl j) (by have := h.1; omega) k13_this_dials (fun j hj => ?_) (fun M14 hM14 => ?_)
    · by_cases e : j = k
      · subst e; rw [va_up_self, if_pos (by omega)]
      · rw [va_up_ne _ _ e]
        show (if j < k then 0 else L.dl j) = _
        by_cases e2 : j < k
        · rw [if_pos e2, if_pos (by omega)]
        · rw [if_neg e2, if_neg (by omega)]
    have k14_this := (congrFun hM14 a).trans ((va_up_ne _ _ (by omega)).trans k13_this)
    have k14_this_dials := (congrFun hM14 (a + 1)).trans (va_up_self _ _ _)
    have k14_this_combination := (congrFun hM14 (a + 2)).trans ((va_up_ne _ _ (by omega)).trans k13_this_combination)
    have fr14 := e_fr_tr fr13 (e_fr_up hM14 (by omega))
    exact ih (by omega) M14 ⟨h.1, k14_this, k14_this_dials, k14_this_combination⟩ fr14
theorem c_stepsByTurning {b : Nat} {B : LkS} (h : LM M a L) (hb : LM M b B) (hr : Lok L) (hab : a + 3 ≤ b ∨ b + 3 ≤ a) : Ct (e_L r0) Γ mX4_stepsByTurning 2 0 0 [vR a, vR b] M n (e_wr (some (vI (lSteps L))) n fun M' => (∃ B', LM M' b B') ∧ e_fr b (b + 3) M M') := by
  have fr0 : e_fr b (b + 3) M M := e_fr_refl
  refine g_start ok_X4_stepsByTurning rfl rfl ?_
  refine g_run 0 4 rfl ?_
  refine e_down (P := fun k => ∀ M', LM M' a L → (∃ B', LM M' b B') → e_fr b (b + 3) M M' → ∀ x y : Option aV, G (e_L r0) Γ mX4_stepsByTurning 2 0 0 _ 4 [some (vR a), some (vR b), some (vI (p_stepN L.dl L.cb (L.cr / 5) k)), some (vI (k : Int)), x, y] [] M' n 0 0) 3 ?_ 0 (by omega) M h ⟨B, hb⟩ fr0 _ _
  intro k hk ih M2 h2 hB fr2 x y
  obtain ⟨B2, hB⟩ := hB
  refine g_run 4 2 rfl ?_
  refine g_icmp_ge 6 51 rfl rfl (by omega) (by omega) (fun c6 => ?_) (fun c6 => ?_)
  · obtain rfl : k = 3 := by omega
    refine g_run 31 1 rfl ?_
    exact g_iret 32 rfl rfl (by first | exact trivial | exact Or.inl rfl | exact Or.inr rfl | (show _ ∨ _; omega)) ⟨rfl, rfl, ⟨_, hB⟩, fr2⟩
  · have qk := hr.2.2 k (by omega)
    have qc := hr.2.1
    refine g_run 7 2 rfl ?_
    refine g_callV 9 rfl cv_RX4_46 hB.2.1 (c_lockCopy hB h2 (by omega) hr.1) rfl rfl (by decide) (by omega) (by omega) (Nat.le_of_ble_eq_true rfl) (e_kw fun M11 hq11 => ?_) e_kwx
    have k11_this := (hq11.2 a (by omega)).trans h2.2.1
    have k11_this_dials := (hq11.2 (a + 1) (by omega)).trans h2.2.2.1
    have k11_this_combination := (hq11.2 (a + 2) (by omega)).trans h2.2.2.2
    have k11_L := LM_fr hq11.2 (by omega) h2
    have fr11 := e_fr_tr fr2 (e_fr_w hq11.2 (by omega))
    refine g_run 10 3 rfl ?_
    refine g_callV 13 rfl cv_RX4_50 hq11.1.2.1 (c_turnUntilFitting hq11.1 hr k (by omega) 1 (Or.inl rfl)) rfl rfl (by decide) (by omega) (by omega) (Nat.le_of_ble_eq_true rfl) (e_kw fun M17 hq17 => ?_) e_kwx
    have k17_this := (hq17.2 a (by omega)).trans k11_this
    have k17_this_dials := (hq17.2 (a + 1) (by omega)).trans k11_this_dials
    have k17_this_combination := (hq17.2 (a + 2) (by omega)).trans k11_this_combination
    have k17_L := LM_fr hq17.2 (by omega) k11_L
    have fr17 := e_fr_tr fr11 (e_fr_w hq17.2 (by omega))
    obtain ⟨B17, q17⟩ := hq17.1
    refine g_run 14 3 rfl ?_
    refine g_callV 17 rfl cv_RX4_46 q17.2.1 (c_lockCopy q17 k17_L (by omega) hr.1) rfl rfl (by decide) (by omega) (by omega) (Nat.le_of_ble_eq_true rfl) (e_kw fun M24 hq24 => ?_) e_kwx
    have k24_this := (hq24.2 a (by omega)).trans k17_this
    have k24_this_dials := (hq24.2 (a + 1) (by omega)).trans k17_this_dials
    have k24_this_combination := (hq24.2 (a + 2) (by omega)).trans k17_this_combination
    have k24_L := LM_fr hq24.2 (by omega) k17_L
    have fr24 := e_fr_tr fr17 (e_fr_w hq24.2 (by omega))
    refine g_run 18 3 rfl ?_
    refine g_callV 21 rfl cv_RX4_50 hq24.1.2.1 (c_turnUntilFitting hq24.1 hr k (by omega) (-1) (Or.inr rfl)) rfl rfl (by decide) (by omega) (by omega) (Nat.le_of_ble_eq_true rfl) (e_kw fun M30 hq30 => ?_) e_kwx
    have k30_this := (hq30.2 a (by omega)).trans k24_this
    have k30_this_dials := (hq30.2 (a + 1) (by omega)).trans k24_this_dials
    have k30_this_combination := (hq30.2 (a + 2) (by omega)).trans k24_this_combination
    have k30_L := LM_fr hq30.2 (by omega) k24_L
    have fr30 := e_fr_tr fr24 (e_fr_w hq30.2 (by omega))
    obtain ⟨B30, q30⟩ := hq30.1
    have t1 := p_tu_rng (L.cb k) (L.cr / 5) 1 10 (L.dl k)
    have t2 := p_tu_rng (L.cb k) (L.cr / 5) (-1) 10 (L.dl k)
    refine g_run 22 4 rfl ?_
    refine g_min 26 rfl cm_RX4_53 (by omega) (by omega) (Nat.le_of_ble_eq_true rfl) ?_
    refine g_run 27 4 rfl ?_
    have e9 : ∀ x y : Int, p_stepN L.dl L.cb (L.cr / 5) (k + 1) = p_stepN L.dl L.cb (L.cr / 5) k + (if p_tu (L.cb k) (L.cr / 5) (-1) (L.dl k) 10 < p_tu (L.cb k) (L.cr / 5) 1 (L.dl k) 10 then p_tu (L.cb k) (L.cr / 5) (-1) (L.dl k) 10 else p_tu (L.cb k) (L.cr / 5) 1 (L.dl k) 10) := fun _ _ => by rw [p_tu_eq (by omega) (by omega) (by omega)]; rfl
    rw [← e9 0 0]
    exact ih (by omega) _ k30_L ⟨_, q30⟩ fr30 _ _
end CL2
end
section
theorem zz_test : (2:Nat) = 2 := rfl
end
