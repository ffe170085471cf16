section
-- ===== PART A: goes FIRST, ahead of the names: the tables' words, and 'selects' of the private methods out of them =====
/-- a private method of a class that the tables say can be made, by its rows of tables_1 -/
def lw_okq (q : MethodName × Nat) : Prop := (q.1.cls ≠ "java/lang/invoke/MethodHandle" ∧ q.1.cls ≠ "java/lang/invoke/VarHandle") ∧ Cond.instantiable q.1.cls q.2 ∈ tables_1 ∧ Cond.privateMethod q.1 ∈ tables_1 ∧ Cond.instanceMethod q.1 ∈ tables_1
theorem lw_p0 : lw_okq (⟨"TypeCopier", "judgeAnew", "()V"⟩, 12) := ⟨⟨by decide +kernel, by decide +kernel⟩, List.mem_of_getElem? (i := 17) (by decide +kernel), List.mem_of_getElem? (i := 287) (by decide +kernel), List.mem_of_getElem? (i := 288) (by decide +kernel)⟩
theorem lw_p1 : lw_okq (⟨"TypeCopier$Judge", "allHaveBodies", "(I)Z"⟩, 4) := ⟨⟨by decide +kernel, by decide +kernel⟩, List.mem_of_getElem? (i := 99) (by decide +kernel), List.mem_of_getElem? (i := 308) (by decide +kernel), List.mem_of_getElem? (i := 309) (by decide +kernel)⟩
theorem lw_p2 : lw_okq (⟨"TypeCopier$Judge", "allAreRight", "(I)Z"⟩, 4) := ⟨⟨by decide +kernel, by decide +kernel⟩, List.mem_of_getElem? (i := 99) (by decide +kernel), List.mem_of_getElem? (i := 316) (by decide +kernel), List.mem_of_getElem? (i := 317) (by decide +kernel)⟩
theorem lw_p3 : lw_okq (⟨"TypeCopier$Judge", "allAreRegular", "(I)Z"⟩, 4) := ⟨⟨by decide +kernel, by decide +kernel⟩, List.mem_of_getElem? (i := 99) (by decide +kernel), List.mem_of_getElem? (i := 334) (by decide +kernel), List.mem_of_getElem? (i := 335) (by decide +kernel)⟩
theorem lw_p4 : lw_okq (⟨"TypeCopier$Nodes", "meet", "(II)V"⟩, 7) := ⟨⟨by decide +kernel, by decide +kernel⟩, List.mem_of_getElem? (i := 39) (by decide +kernel), List.mem_of_getElem? (i := 345) (by decide +kernel), List.mem_of_getElem? (i := 346) (by decide +kernel)⟩
theorem lw_p5 : lw_okq (⟨"TypeCopier$Judge", "isRegular", "(II)Z"⟩, 4) := ⟨⟨by decide +kernel, by decide +kernel⟩, List.mem_of_getElem? (i := 99) (by decide +kernel), List.mem_of_getElem? (i := 372) (by decide +kernel), List.mem_of_getElem? (i := 373) (by decide +kernel)⟩
theorem lw_p6 : lw_okq (⟨"TypeCopier$Copies", "findOrAdd", "(IJJ)I"⟩, 13) := ⟨⟨by decide +kernel, by decide +kernel⟩, List.mem_of_getElem? (i := 120) (by decide +kernel), List.mem_of_getElem? (i := 385) (by decide +kernel), List.mem_of_getElem? (i := 386) (by decide +kernel)⟩
theorem lw_p7 : lw_okq (⟨"TypeCopier$Copies", "makeOne", "(I)Z"⟩, 13) := ⟨⟨by decide +kernel, by decide +kernel⟩, List.mem_of_getElem? (i := 120) (by decide +kernel), List.mem_of_getElem? (i := 389) (by decide +kernel), List.mem_of_getElem? (i := 390) (by decide +kernel)⟩
theorem lw_p8 : lw_okq (⟨"TypeCopier$Copies", "has", "(I)Z"⟩, 13) := ⟨⟨by decide +kernel, by decide +kernel⟩, List.mem_of_getElem? (i := 120) (by decide +kernel), List.mem_of_getElem? (i := 393) (by decide +kernel), List.mem_of_getElem? (i := 394) (by decide +kernel)⟩
theorem lw_p9 : lw_okq (⟨"TypeCopier$Copies", "copyForCall", "(IJJ)I"⟩, 13) := ⟨⟨by decide +kernel, by decide +kernel⟩, List.mem_of_getElem? (i := 120) (by decide +kernel), List.mem_of_getElem? (i := 452) (by decide +kernel), List.mem_of_getElem? (i := 453) (by decide +kernel)⟩
theorem lw_p10 : lw_okq (⟨"TypeCopier", "wantedStands", "(IIIII)Z"⟩, 12) := ⟨⟨by decide +kernel, by decide +kernel⟩, List.mem_of_getElem? (i := 17) (by decide +kernel), List.mem_of_getElem? (i := 544) (by decide +kernel), List.mem_of_getElem? (i := 545) (by decide +kernel)⟩
theorem lw_p11 : lw_okq (⟨"TypeCopier", "callTypesStand", "(II)Z"⟩, 12) := ⟨⟨by decide +kernel, by decide +kernel⟩, List.mem_of_getElem? (i := 17) (by decide +kernel), List.mem_of_getElem? (i := 549) (by decide +kernel), List.mem_of_getElem? (i := 550) (by decide +kernel)⟩
theorem lw_p12 : lw_okq (⟨"TypeCopier$Nodes", "depthOf", "(I)I"⟩, 7) := ⟨⟨by decide +kernel, by decide +kernel⟩, List.mem_of_getElem? (i := 39) (by decide +kernel), List.mem_of_getElem? (i := 565) (by decide +kernel), List.mem_of_getElem? (i := 566) (by decide +kernel)⟩
theorem lw_p13 : lw_okq (⟨"TypeCopier$Judge", "findShape", "(II)J"⟩, 4) := ⟨⟨by decide +kernel, by decide +kernel⟩, List.mem_of_getElem? (i := 99) (by decide +kernel), List.mem_of_getElem? (i := 585) (by decide +kernel), List.mem_of_getElem? (i := 586) (by decide +kernel)⟩
theorem lw_p14 : lw_okq (⟨"TypeCopier$Judge", "partShape", "(III)J"⟩, 4) := ⟨⟨by decide +kernel, by decide +kernel⟩, List.mem_of_getElem? (i := 99) (by decide +kernel), List.mem_of_getElem? (i := 589) (by decide +kernel), List.mem_of_getElem? (i := 590) (by decide +kernel)⟩
theorem lw_p15 : lw_okq (⟨"TypeCopier$Judge", "nilShape", "(IJ)J"⟩, 4) := ⟨⟨by decide +kernel, by decide +kernel⟩, List.mem_of_getElem? (i := 99) (by decide +kernel), List.mem_of_getElem? (i := 600) (by decide +kernel), List.mem_of_getElem? (i := 601) (by decide +kernel)⟩
def lw_privs_1 : List (MethodName × Nat) := [(⟨"TypeCopier", "judgeAnew", "()V"⟩, 12), (⟨"TypeCopier$Judge", "allHaveBodies", "(I)Z"⟩, 4), (⟨"TypeCopier$Judge", "allAreRight", "(I)Z"⟩, 4), (⟨"TypeCopier$Judge", "allAreRegular", "(I)Z"⟩, 4), (⟨"TypeCopier$Nodes", "meet", "(II)V"⟩, 7), (⟨"TypeCopier$Judge", "isRegular", "(II)Z"⟩, 4), (⟨"TypeCopier$Copies", "findOrAdd", "(IJJ)I"⟩, 13), (⟨"TypeCopier$Copies", "makeOne", "(I)Z"⟩, 13), (⟨"TypeCopier$Copies", "has", "(I)Z"⟩, 13), (⟨"TypeCopier$Copies", "copyForCall", "(IJJ)I"⟩, 13), (⟨"TypeCopier", "wantedStands", "(IIIII)Z"⟩, 12), (⟨"TypeCopier", "callTypesStand", "(II)Z"⟩, 12), (⟨"TypeCopier$Nodes", "depthOf", "(I)I"⟩, 7), (⟨"TypeCopier$Judge", "findShape", "(II)J"⟩, 4), (⟨"TypeCopier$Judge", "partShape", "(III)J"⟩, 4), (⟨"TypeCopier$Judge", "nilShape", "(IJ)J"⟩, 4)]
theorem lw_r1 : ∀ q ∈ lw_privs_1, lw_okq q := List.forall_mem_cons.mpr ⟨lw_p0, List.forall_mem_cons.mpr ⟨lw_p1, List.forall_mem_cons.mpr ⟨lw_p2, List.forall_mem_cons.mpr ⟨lw_p3, List.forall_mem_cons.mpr ⟨lw_p4, List.forall_mem_cons.mpr ⟨lw_p5, List.forall_mem_cons.mpr ⟨lw_p6, List.forall_mem_cons.mpr ⟨lw_p7, List.forall_mem_cons.mpr ⟨lw_p8, List.forall_mem_cons.mpr ⟨lw_p9, List.forall_mem_cons.mpr ⟨lw_p10, List.forall_mem_cons.mpr ⟨lw_p11, List.forall_mem_cons.mpr ⟨lw_p12, List.forall_mem_cons.mpr ⟨lw_p13, List.forall_mem_cons.mpr ⟨lw_p14, List.forall_mem_cons.mpr ⟨lw_p15, fun _ h => absurd h List.not_mem_nil⟩⟩⟩⟩⟩⟩⟩⟩⟩⟩⟩⟩⟩⟩⟩⟩
theorem lw_p16 : lw_okq (⟨"TypeCopier$Judge", "callShape", "(IIJ)J"⟩, 4) := ⟨⟨by decide +kernel, by decide +kernel⟩, List.mem_of_getElem? (i := 99) (by decide +kernel), List.mem_of_getElem? (i := 609) (by decide +kernel), List.mem_of_getElem? (i := 610) (by decide +kernel)⟩
theorem lw_p17 : lw_okq (⟨"TypeCopier$Judge", "shapeOverList", "(IJ)J"⟩, 4) := ⟨⟨by decide +kernel, by decide +kernel⟩, List.mem_of_getElem? (i := 99) (by decide +kernel), List.mem_of_getElem? (i := 614) (by decide +kernel), List.mem_of_getElem? (i := 615) (by decide +kernel)⟩
theorem lw_p18 : lw_okq (⟨"TypeCopier$Judge", "setShape", "(IIJ)V"⟩, 4) := ⟨⟨by decide +kernel, by decide +kernel⟩, List.mem_of_getElem? (i := 99) (by decide +kernel), List.mem_of_getElem? (i := 618) (by decide +kernel), List.mem_of_getElem? (i := 619) (by decide +kernel)⟩
theorem lw_p19 : lw_okq (⟨"TypeCopierModel", "isType", "(I)Z"⟩, 67) := ⟨⟨by decide +kernel, by decide +kernel⟩, List.mem_of_getElem? (i := 1053) (by decide +kernel), List.mem_of_getElem? (i := 1266) (by decide +kernel), List.mem_of_getElem? (i := 1267) (by decide +kernel)⟩
theorem lw_p20 : lw_okq (⟨"TypeCopierModel", "numbers", "(III)I"⟩, 67) := ⟨⟨by decide +kernel, by decide +kernel⟩, List.mem_of_getElem? (i := 1053) (by decide +kernel), List.mem_of_getElem? (i := 1273) (by decide +kernel), List.mem_of_getElem? (i := 1274) (by decide +kernel)⟩
theorem lw_p21 : lw_okq (⟨"TypeCopierModel", "forgets", "()V"⟩, 67) := ⟨⟨by decide +kernel, by decide +kernel⟩, List.mem_of_getElem? (i := 1053) (by decide +kernel), List.mem_of_getElem? (i := 1277) (by decide +kernel), List.mem_of_getElem? (i := 1278) (by decide +kernel)⟩
theorem lw_p22 : lw_okq (⟨"TypeCopierModel", "notes", "(I)V"⟩, 67) := ⟨⟨by decide +kernel, by decide +kernel⟩, List.mem_of_getElem? (i := 1053) (by decide +kernel), List.mem_of_getElem? (i := 1281) (by decide +kernel), List.mem_of_getElem? (i := 1282) (by decide +kernel)⟩
theorem lw_p23 : lw_okq (⟨"TypeCopierModel", "known", "(III)I"⟩, 67) := ⟨⟨by decide +kernel, by decide +kernel⟩, List.mem_of_getElem? (i := 1053) (by decide +kernel), List.mem_of_getElem? (i := 1290) (by decide +kernel), List.mem_of_getElem? (i := 1291) (by decide +kernel)⟩
theorem lw_p24 : lw_okq (⟨"TypeCopierModel", "lays", "(IIII)V"⟩, 67) := ⟨⟨by decide +kernel, by decide +kernel⟩, List.mem_of_getElem? (i := 1053) (by decide +kernel), List.mem_of_getElem? (i := 1297) (by decide +kernel), List.mem_of_getElem? (i := 1298) (by decide +kernel)⟩
theorem lw_p25 : lw_okq (⟨"TypeCopierModel", "typeOf", "(II)I"⟩, 67) := ⟨⟨by decide +kernel, by decide +kernel⟩, List.mem_of_getElem? (i := 1053) (by decide +kernel), List.mem_of_getElem? (i := 1312) (by decide +kernel), List.mem_of_getElem? (i := 1313) (by decide +kernel)⟩
theorem lw_p26 : lw_okq (⟨"TypeCopierModel", "mayBe", "(IIIII)Z"⟩, 67) := ⟨⟨by decide +kernel, by decide +kernel⟩, List.mem_of_getElem? (i := 1053) (by decide +kernel), List.mem_of_getElem? (i := 1320) (by decide +kernel), List.mem_of_getElem? (i := 1321) (by decide +kernel)⟩
theorem lw_p27 : lw_okq (⟨"TypeCopierModel", "isNode", "(I)Z"⟩, 67) := ⟨⟨by decide +kernel, by decide +kernel⟩, List.mem_of_getElem? (i := 1053) (by decide +kernel), List.mem_of_getElem? (i := 1324) (by decide +kernel), List.mem_of_getElem? (i := 1325) (by decide +kernel)⟩
theorem lw_p28 : lw_okq (⟨"TypeCopierModel", "isTypeOrNone", "(I)Z"⟩, 67) := ⟨⟨by decide +kernel, by decide +kernel⟩, List.mem_of_getElem? (i := 1053) (by decide +kernel), List.mem_of_getElem? (i := 1328) (by decide +kernel), List.mem_of_getElem? (i := 1329) (by decide +kernel)⟩
theorem lw_p29 : lw_okq (⟨"TypeCopierModel", "isWithin", "(II)Z"⟩, 67) := ⟨⟨by decide +kernel, by decide +kernel⟩, List.mem_of_getElem? (i := 1053) (by decide +kernel), List.mem_of_getElem? (i := 1339) (by decide +kernel), List.mem_of_getElem? (i := 1340) (by decide +kernel)⟩
theorem lw_p30 : lw_okq (⟨"TypeCopierModel", "isFunction", "(I)Z"⟩, 67) := ⟨⟨by decide +kernel, by decide +kernel⟩, List.mem_of_getElem? (i := 1053) (by decide +kernel), List.mem_of_getElem? (i := 1347) (by decide +kernel), List.mem_of_getElem? (i := 1348) (by decide +kernel)⟩
theorem lw_p31 : lw_okq (⟨"TypeCopierModel", "goThrough", "(I)V"⟩, 67) := ⟨⟨by decide +kernel, by decide +kernel⟩, List.mem_of_getElem? (i := 1053) (by decide +kernel), List.mem_of_getElem? (i := 1355) (by decide +kernel), List.mem_of_getElem? (i := 1356) (by decide +kernel)⟩
def lw_privs_2 : List (MethodName × Nat) := [(⟨"TypeCopier$Judge", "callShape", "(IIJ)J"⟩, 4), (⟨"TypeCopier$Judge", "shapeOverList", "(IJ)J"⟩, 4), (⟨"TypeCopier$Judge", "setShape", "(IIJ)V"⟩, 4), (⟨"TypeCopierModel", "isType", "(I)Z"⟩, 67), (⟨"TypeCopierModel", "numbers", "(III)I"⟩, 67), (⟨"TypeCopierModel", "forgets", "()V"⟩, 67), (⟨"TypeCopierModel", "notes", "(I)V"⟩, 67), (⟨"TypeCopierModel", "known", "(III)I"⟩, 67), (⟨"TypeCopierModel", "lays", "(IIII)V"⟩, 67), (⟨"TypeCopierModel", "typeOf", "(II)I"⟩, 67), (⟨"TypeCopierModel", "mayBe", "(IIIII)Z"⟩, 67), (⟨"TypeCopierModel", "isNode", "(I)Z"⟩, 67), (⟨"TypeCopierModel", "isTypeOrNone", "(I)Z"⟩, 67), (⟨"TypeCopierModel", "isWithin", "(II)Z"⟩, 67), (⟨"TypeCopierModel", "isFunction", "(I)Z"⟩, 67), (⟨"TypeCopierModel", "goThrough", "(I)V"⟩, 67)]
theorem lw_r2 : ∀ q ∈ lw_privs_2, lw_okq q := List.forall_mem_cons.mpr ⟨lw_p16, List.forall_mem_cons.mpr ⟨lw_p17, List.forall_mem_cons.mpr ⟨lw_p18, List.forall_mem_cons.mpr ⟨lw_p19, List.forall_mem_cons.mpr ⟨lw_p20, List.forall_mem_cons.mpr ⟨lw_p21, List.forall_mem_cons.mpr ⟨lw_p22, List.forall_mem_cons.mpr ⟨lw_p23, List.forall_mem_cons.mpr ⟨lw_p24, List.forall_mem_cons.mpr ⟨lw_p25, List.forall_mem_cons.mpr ⟨lw_p26, List.forall_mem_cons.mpr ⟨lw_p27, List.forall_mem_cons.mpr ⟨lw_p28, List.forall_mem_cons.mpr ⟨lw_p29, List.forall_mem_cons.mpr ⟨lw_p30, List.forall_mem_cons.mpr ⟨lw_p31, fun _ h => absurd h List.not_mem_nil⟩⟩⟩⟩⟩⟩⟩⟩⟩⟩⟩⟩⟩⟩⟩⟩
theorem lw_p32 : lw_okq (⟨"TypeCopierModel", "partOf", "(II)I"⟩, 67) := ⟨⟨by decide +kernel, by decide +kernel⟩, List.mem_of_getElem? (i := 1053) (by decide +kernel), List.mem_of_getElem? (i := 1359) (by decide +kernel), List.mem_of_getElem? (i := 1360) (by decide +kernel)⟩
theorem lw_p33 : lw_okq (⟨"TypeCopierModel", "typeAs", "(IIIII)I"⟩, 67) := ⟨⟨by decide +kernel, by decide +kernel⟩, List.mem_of_getElem? (i := 1053) (by decide +kernel), List.mem_of_getElem? (i := 1363) (by decide +kernel), List.mem_of_getElem? (i := 1364) (by decide +kernel)⟩
theorem lw_p34 : lw_okq (⟨"TypeCopierModel", "made", "(III)I"⟩, 67) := ⟨⟨by decide +kernel, by decide +kernel⟩, List.mem_of_getElem? (i := 1053) (by decide +kernel), List.mem_of_getElem? (i := 1367) (by decide +kernel), List.mem_of_getElem? (i := 1368) (by decide +kernel)⟩
theorem lw_p35 : lw_okq (⟨"TypeCopierModel", "callType", "(II)I"⟩, 67) := ⟨⟨by decide +kernel, by decide +kernel⟩, List.mem_of_getElem? (i := 1053) (by decide +kernel), List.mem_of_getElem? (i := 1371) (by decide +kernel), List.mem_of_getElem? (i := 1372) (by decide +kernel)⟩
theorem lw_p36 : lw_okq (⟨"TypeCopierModel", "put", "(III)I"⟩, 67) := ⟨⟨by decide +kernel, by decide +kernel⟩, List.mem_of_getElem? (i := 1053) (by decide +kernel), List.mem_of_getElem? (i := 1375) (by decide +kernel), List.mem_of_getElem? (i := 1376) (by decide +kernel)⟩
theorem lw_p37 : lw_okq (⟨"TypeCopierModel", "named", "(IZ)I"⟩, 67) := ⟨⟨by decide +kernel, by decide +kernel⟩, List.mem_of_getElem? (i := 1053) (by decide +kernel), List.mem_of_getElem? (i := 1379) (by decide +kernel), List.mem_of_getElem? (i := 1380) (by decide +kernel)⟩
theorem lw_p38 : lw_okq (⟨"TypeCopierModel", "mark", "(I)V"⟩, 67) := ⟨⟨by decide +kernel, by decide +kernel⟩, List.mem_of_getElem? (i := 1053) (by decide +kernel), List.mem_of_getElem? (i := 1387) (by decide +kernel), List.mem_of_getElem? (i := 1388) (by decide +kernel)⟩
theorem lw_p39 : lw_okq (⟨"TypeCopierModel", "findReach", "()V"⟩, 67) := ⟨⟨by decide +kernel, by decide +kernel⟩, List.mem_of_getElem? (i := 1053) (by decide +kernel), List.mem_of_getElem? (i := 1395) (by decide +kernel), List.mem_of_getElem? (i := 1396) (by decide +kernel)⟩
theorem lw_p40 : lw_okq (⟨"TypeCopierModel", "isUsed", "(I)Z"⟩, 67) := ⟨⟨by decide +kernel, by decide +kernel⟩, List.mem_of_getElem? (i := 1053) (by decide +kernel), List.mem_of_getElem? (i := 1403) (by decide +kernel), List.mem_of_getElem? (i := 1404) (by decide +kernel)⟩
theorem lw_p41 : lw_okq (⟨"TypeCopierModel", "isRegular", "(I)Z"⟩, 67) := ⟨⟨by decide +kernel, by decide +kernel⟩, List.mem_of_getElem? (i := 1053) (by decide +kernel), List.mem_of_getElem? (i := 1407) (by decide +kernel), List.mem_of_getElem? (i := 1408) (by decide +kernel)⟩
theorem lw_p42 : lw_okq (⟨"TypeCopierModel", "findCopies", "()I"⟩, 67) := ⟨⟨by decide +kernel, by decide +kernel⟩, List.mem_of_getElem? (i := 1053) (by decide +kernel), List.mem_of_getElem? (i := 1415) (by decide +kernel), List.mem_of_getElem? (i := 1416) (by decide +kernel)⟩
theorem lw_p43 : lw_okq (⟨"TypeCopierModel", "copied", "(III)Z"⟩, 67) := ⟨⟨by decide +kernel, by decide +kernel⟩, List.mem_of_getElem? (i := 1053) (by decide +kernel), List.mem_of_getElem? (i := 1420) (by decide +kernel), List.mem_of_getElem? (i := 1421) (by decide +kernel)⟩
theorem lw_p44 : lw_okq (⟨"TypeCopierModel", "follows", "(I)Z"⟩, 67) := ⟨⟨by decide +kernel, by decide +kernel⟩, List.mem_of_getElem? (i := 1053) (by decide +kernel), List.mem_of_getElem? (i := 1424) (by decide +kernel), List.mem_of_getElem? (i := 1425) (by decide +kernel)⟩
theorem lw_p45 : lw_okq (⟨"TypeCopierModel", "isTooDeep", "(II)Z"⟩, 67) := ⟨⟨by decide +kernel, by decide +kernel⟩, List.mem_of_getElem? (i := 1053) (by decide +kernel), List.mem_of_getElem? (i := 1428) (by decide +kernel), List.mem_of_getElem? (i := 1429) (by decide +kernel)⟩
theorem lw_p46 : lw_okq (⟨"TypeCopierModel", "deepIn", "(IIII)I"⟩, 67) := ⟨⟨by decide +kernel, by decide +kernel⟩, List.mem_of_getElem? (i := 1053) (by decide +kernel), List.mem_of_getElem? (i := 1432) (by decide +kernel), List.mem_of_getElem? (i := 1433) (by decide +kernel)⟩
theorem lw_p47 : lw_okq (⟨"TypeCopierModel", "findOrder", "(I)V"⟩, 67) := ⟨⟨by decide +kernel, by decide +kernel⟩, List.mem_of_getElem? (i := 1053) (by decide +kernel), List.mem_of_getElem? (i := 1436) (by decide +kernel), List.mem_of_getElem? (i := 1437) (by decide +kernel)⟩
def lw_privs_3 : List (MethodName × Nat) := [(⟨"TypeCopierModel", "partOf", "(II)I"⟩, 67), (⟨"TypeCopierModel", "typeAs", "(IIIII)I"⟩, 67), (⟨"TypeCopierModel", "made", "(III)I"⟩, 67), (⟨"TypeCopierModel", "callType", "(II)I"⟩, 67), (⟨"TypeCopierModel", "put", "(III)I"⟩, 67), (⟨"TypeCopierModel", "named", "(IZ)I"⟩, 67), (⟨"TypeCopierModel", "mark", "(I)V"⟩, 67), (⟨"TypeCopierModel", "findReach", "()V"⟩, 67), (⟨"TypeCopierModel", "isUsed", "(I)Z"⟩, 67), (⟨"TypeCopierModel", "isRegular", "(I)Z"⟩, 67), (⟨"TypeCopierModel", "findCopies", "()I"⟩, 67), (⟨"TypeCopierModel", "copied", "(III)Z"⟩, 67), (⟨"TypeCopierModel", "follows", "(I)Z"⟩, 67), (⟨"TypeCopierModel", "isTooDeep", "(II)Z"⟩, 67), (⟨"TypeCopierModel", "deepIn", "(IIII)I"⟩, 67), (⟨"TypeCopierModel", "findOrder", "(I)V"⟩, 67)]
theorem lw_r3 : ∀ q ∈ lw_privs_3, lw_okq q := List.forall_mem_cons.mpr ⟨lw_p32, List.forall_mem_cons.mpr ⟨lw_p33, List.forall_mem_cons.mpr ⟨lw_p34, List.forall_mem_cons.mpr ⟨lw_p35, List.forall_mem_cons.mpr ⟨lw_p36, List.forall_mem_cons.mpr ⟨lw_p37, List.forall_mem_cons.mpr ⟨lw_p38, List.forall_mem_cons.mpr ⟨lw_p39, List.forall_mem_cons.mpr ⟨lw_p40, List.forall_mem_cons.mpr ⟨lw_p41, List.forall_mem_cons.mpr ⟨lw_p42, List.forall_mem_cons.mpr ⟨lw_p43, List.forall_mem_cons.mpr ⟨lw_p44, List.forall_mem_cons.mpr ⟨lw_p45, List.forall_mem_cons.mpr ⟨lw_p46, List.forall_mem_cons.mpr ⟨lw_p47, fun _ h => absurd h List.not_mem_nil⟩⟩⟩⟩⟩⟩⟩⟩⟩⟩⟩⟩⟩⟩⟩⟩
theorem lw_p48 : lw_okq (⟨"TypeCopierModel", "runs", "()I"⟩, 67) := ⟨⟨by decide +kernel, by decide +kernel⟩, List.mem_of_getElem? (i := 1053) (by decide +kernel), List.mem_of_getElem? (i := 1456) (by decide +kernel), List.mem_of_getElem? (i := 1457) (by decide +kernel)⟩
theorem lw_p49 : lw_okq (⟨"TypeCopierModel", "reads", "(I)I"⟩, 67) := ⟨⟨by decide +kernel, by decide +kernel⟩, List.mem_of_getElem? (i := 1053) (by decide +kernel), List.mem_of_getElem? (i := 1460) (by decide +kernel), List.mem_of_getElem? (i := 1461) (by decide +kernel)⟩
theorem lw_p50 : lw_okq (⟨"TypeCopierModel", "beginRead", "(II)V"⟩, 67) := ⟨⟨by decide +kernel, by decide +kernel⟩, List.mem_of_getElem? (i := 1053) (by decide +kernel), List.mem_of_getElem? (i := 1464) (by decide +kernel), List.mem_of_getElem? (i := 1465) (by decide +kernel)⟩
theorem lw_p51 : lw_okq (⟨"TypeCopierModel", "nextInput", "()I"⟩, 67) := ⟨⟨by decide +kernel, by decide +kernel⟩, List.mem_of_getElem? (i := 1053) (by decide +kernel), List.mem_of_getElem? (i := 1468) (by decide +kernel), List.mem_of_getElem? (i := 1469) (by decide +kernel)⟩
theorem lw_p52 : lw_okq (⟨"TypeCopierModel", "endRead", "(I)I"⟩, 67) := ⟨⟨by decide +kernel, by decide +kernel⟩, List.mem_of_getElem? (i := 1053) (by decide +kernel), List.mem_of_getElem? (i := 1472) (by decide +kernel), List.mem_of_getElem? (i := 1473) (by decide +kernel)⟩
theorem lw_p53 : lw_okq (⟨"TypeCopierModel", "cell", "(II)I"⟩, 67) := ⟨⟨by decide +kernel, by decide +kernel⟩, List.mem_of_getElem? (i := 1053) (by decide +kernel), List.mem_of_getElem? (i := 1476) (by decide +kernel), List.mem_of_getElem? (i := 1477) (by decide +kernel)⟩
theorem lw_p54 : lw_okq (⟨"TypeCopierModel", "calls", "(II)Z"⟩, 67) := ⟨⟨by decide +kernel, by decide +kernel⟩, List.mem_of_getElem? (i := 1053) (by decide +kernel), List.mem_of_getElem? (i := 1480) (by decide +kernel), List.mem_of_getElem? (i := 1481) (by decide +kernel)⟩
theorem lw_p55 : lw_okq (⟨"TypeCopierModel", "begin", "(I)V"⟩, 67) := ⟨⟨by decide +kernel, by decide +kernel⟩, List.mem_of_getElem? (i := 1053) (by decide +kernel), List.mem_of_getElem? (i := 1484) (by decide +kernel), List.mem_of_getElem? (i := 1485) (by decide +kernel)⟩
theorem lw_p56 : lw_okq (⟨"TypeCopierModel", "begins", "(I)I"⟩, 67) := ⟨⟨by decide +kernel, by decide +kernel⟩, List.mem_of_getElem? (i := 1053) (by decide +kernel), List.mem_of_getElem? (i := 1488) (by decide +kernel), List.mem_of_getElem? (i := 1489) (by decide +kernel)⟩
theorem lw_p57 : lw_okq (⟨"TypeCopierModel", "gives", "(I)V"⟩, 67) := ⟨⟨by decide +kernel, by decide +kernel⟩, List.mem_of_getElem? (i := 1053) (by decide +kernel), List.mem_of_getElem? (i := 1492) (by decide +kernel), List.mem_of_getElem? (i := 1493) (by decide +kernel)⟩
theorem lw_p58 : lw_okq (⟨"TypeCopierModel", "goesOn", "(I)I"⟩, 67) := ⟨⟨by decide +kernel, by decide +kernel⟩, List.mem_of_getElem? (i := 1053) (by decide +kernel), List.mem_of_getElem? (i := 1496) (by decide +kernel), List.mem_of_getElem? (i := 1497) (by decide +kernel)⟩
theorem lw_p59 : lw_okq (⟨"TypeCopierModel", "takes", "()I"⟩, 67) := ⟨⟨by decide +kernel, by decide +kernel⟩, List.mem_of_getElem? (i := 1053) (by decide +kernel), List.mem_of_getElem? (i := 1500) (by decide +kernel), List.mem_of_getElem? (i := 1501) (by decide +kernel)⟩
theorem lw_p60 : lw_okq (⟨"TypeCopierModel", "both", "(I)I"⟩, 67) := ⟨⟨by decide +kernel, by decide +kernel⟩, List.mem_of_getElem? (i := 1053) (by decide +kernel), List.mem_of_getElem? (i := 1504) (by decide +kernel), List.mem_of_getElem? (i := 1505) (by decide +kernel)⟩
theorem lw_p61 : lw_okq (⟨"TypeCopierModel", "tellsAll", "(II)V"⟩, 67) := ⟨⟨by decide +kernel, by decide +kernel⟩, List.mem_of_getElem? (i := 1053) (by decide +kernel), List.mem_of_getElem? (i := 1508) (by decide +kernel), List.mem_of_getElem? (i := 1509) (by decide +kernel)⟩
theorem lw_p62 : lw_okq (⟨"TypeCopierModel", "tells", "(I)V"⟩, 67) := ⟨⟨by decide +kernel, by decide +kernel⟩, List.mem_of_getElem? (i := 1053) (by decide +kernel), List.mem_of_getElem? (i := 1512) (by decide +kernel), List.mem_of_getElem? (i := 1513) (by decide +kernel)⟩
theorem lw_p63 : lw_okq (⟨"TypeCopierModel", "lengthOf", "(I)I"⟩, 67) := ⟨⟨by decide +kernel, by decide +kernel⟩, List.mem_of_getElem? (i := 1053) (by decide +kernel), List.mem_of_getElem? (i := 1516) (by decide +kernel), List.mem_of_getElem? (i := 1517) (by decide +kernel)⟩
def lw_privs_4 : List (MethodName × Nat) := [(⟨"TypeCopierModel", "runs", "()I"⟩, 67), (⟨"TypeCopierModel", "reads", "(I)I"⟩, 67), (⟨"TypeCopierModel", "beginRead", "(II)V"⟩, 67), (⟨"TypeCopierModel", "nextInput", "()I"⟩, 67), (⟨"TypeCopierModel", "endRead", "(I)I"⟩, 67), (⟨"TypeCopierModel", "cell", "(II)I"⟩, 67), (⟨"TypeCopierModel", "calls", "(II)Z"⟩, 67), (⟨"TypeCopierModel", "begin", "(I)V"⟩, 67), (⟨"TypeCopierModel", "begins", "(I)I"⟩, 67), (⟨"TypeCopierModel", "gives", "(I)V"⟩, 67), (⟨"TypeCopierModel", "goesOn", "(I)I"⟩, 67), (⟨"TypeCopierModel", "takes", "()I"⟩, 67), (⟨"TypeCopierModel", "both", "(I)I"⟩, 67), (⟨"TypeCopierModel", "tellsAll", "(II)V"⟩, 67), (⟨"TypeCopierModel", "tells", "(I)V"⟩, 67), (⟨"TypeCopierModel", "lengthOf", "(I)I"⟩, 67)]
theorem lw_r4 : ∀ q ∈ lw_privs_4, lw_okq q := List.forall_mem_cons.mpr ⟨lw_p48, List.forall_mem_cons.mpr ⟨lw_p49, List.forall_mem_cons.mpr ⟨lw_p50, List.forall_mem_cons.mpr ⟨lw_p51, List.forall_mem_cons.mpr ⟨lw_p52, List.forall_mem_cons.mpr ⟨lw_p53, List.forall_mem_cons.mpr ⟨lw_p54, List.forall_mem_cons.mpr ⟨lw_p55, List.forall_mem_cons.mpr ⟨lw_p56, List.forall_mem_cons.mpr ⟨lw_p57, List.forall_mem_cons.mpr ⟨lw_p58, List.forall_mem_cons.mpr ⟨lw_p59, List.forall_mem_cons.mpr ⟨lw_p60, List.forall_mem_cons.mpr ⟨lw_p61, List.forall_mem_cons.mpr ⟨lw_p62, List.forall_mem_cons.mpr ⟨lw_p63, fun _ h => absurd h List.not_mem_nil⟩⟩⟩⟩⟩⟩⟩⟩⟩⟩⟩⟩⟩⟩⟩⟩
theorem lw_p64 : lw_okq (⟨"TypeCopierModel", "mixedNode", "(JI)J"⟩, 67) := ⟨⟨by decide +kernel, by decide +kernel⟩, List.mem_of_getElem? (i := 1053) (by decide +kernel), List.mem_of_getElem? (i := 1542) (by decide +kernel), List.mem_of_getElem? (i := 1543) (by decide +kernel)⟩
def lw_privs_5 : List (MethodName × Nat) := [(⟨"TypeCopierModel", "mixedNode", "(JI)J"⟩, 67)]
theorem lw_r5 : ∀ q ∈ lw_privs_5, lw_okq q := List.forall_mem_cons.mpr ⟨lw_p64, fun _ h => absurd h List.not_mem_nil⟩
def lw_privs : List (MethodName × Nat) := lw_privs_1 ++ (lw_privs_2 ++ (lw_privs_3 ++ (lw_privs_4 ++ (lw_privs_5))))
def lw_tbl : List Cond := k2_sels lw_privs ++ tables_1
theorem lw_privs_ok : ∀ q ∈ lw_privs, lw_okq q := by
  show ∀ q ∈ lw_privs_1 ++ (lw_privs_2 ++ (lw_privs_3 ++ (lw_privs_4 ++ (lw_privs_5)))), lw_okq q
  exact List.forall_mem_append.mpr ⟨lw_r1, List.forall_mem_append.mpr ⟨lw_r2, List.forall_mem_append.mpr ⟨lw_r3, List.forall_mem_append.mpr ⟨lw_r4, lw_r5⟩⟩⟩⟩
end
section
/-! ===== BEGIN words of one list among another's, by their places ===== -/
theorem goodIn_r {big : List Cond} (ws : List Cond) (ps : List Nat) (hp : ws = ps.filterMap (fun i => big[i]?)) (h : ws.all goodWord = true) : GoodIn big ws := by
  intro w hw
  have h1 := List.all_eq_true.mp h w hw
  rw [hp] at hw
  obtain ⟨i, -, hi⟩ := List.mem_filterMap.mp hw
  have hm : w ∈ big := by first | exact List.mem_of_getElem? hi | exact List.getElem?_mem hi
  exact ⟨hm, good_of_word h1⟩
theorem goodIn_app {big a b : List Cond} (ha : GoodIn big a) (hb : GoodIn big b) : GoodIn big (a ++ b) := fun w h => (List.mem_append.mp h).elim (ha w) (hb w)
theorem goodIn_ca {big a b : List Cond} {c : Cond} (ha : GoodIn big (c :: a)) (hb : GoodIn big b) : GoodIn big (c :: (a ++ b)) := fun w h => (List.mem_cons.mp h).elim (fun e => ha w (List.mem_cons.mpr (Or.inl e))) (fun h => (List.mem_append.mp h).elim (fun h => ha w (List.mem_cons.mpr (Or.inr h))) (hb w))
theorem goodIn_sub {big ws : List Cond} (hm : ∀ w ∈ ws, w ∈ big) (h : ws.all goodWord = true) : GoodIn big ws := fun w hw => ⟨hm w hw, good_of_word (List.all_eq_true.mp h w hw)⟩
/-! ===== END ===== -/
/-! ===== BEGIN printed: names, fields, word lists, decode rows ===== -/
def RX0 : String := "TypeCopier$Copies"
def TX0 : u_T := fun k => match k with
  | 0 => ("TypeCopier$Copies", "numbered", "LTypeCopier$Numbered;", true)
  | 1 => ("TypeCopier$Copies", "nodes", "LTypeCopier$Nodes;", true)
  | 2 => ("TypeCopier$Copies", "functions", "LTypeCopier$Functions;", true)
  | 3 => ("TypeCopier$Copies", "judge", "LTypeCopier$Judge;", true)
  | 4 => ("TypeCopier$Copies", "copied", "[I", true)
  | 5 => ("TypeCopier$Copies", "forA", "[J", true)
  | 6 => ("TypeCopier$Copies", "forB", "[J", true)
  | 7 => ("TypeCopier$Copies", "arguments", "[J", true)
  | 8 => ("TypeCopier$Copies", "argumentWidths", "[I", true)
  | 9 => ("TypeCopier$Copies", "resultWidths", "[I", true)
  | 10 => ("TypeCopier$Copies", "widths", "[[I", true)
  | 11 => ("TypeCopier$Copies", "called", "[[I", true)
  | _ => ("TypeCopier$Copies", "size", "I", false)
def tyX0 : Nat → FieldType := fun k => match k with
  | 0 => .object "TypeCopier$Numbered"
  | 1 => .object "TypeCopier$Nodes"
  | 2 => .object "TypeCopier$Functions"
  | 3 => .object "TypeCopier$Judge"
  | 4 => .array .int
  | 5 => .array .long
  | 6 => .array .long
  | 7 => .array .long
  | 8 => .array .int
  | 9 => .array .int
  | 10 => .array (.array .int)
  | 11 => .array (.array .int)
  | _ => .int
abbrev wsX00 : List Cond := u_ws RX0 TX0 13
theorem nmX0 : ∀ a, a < 13 → ∀ b, b < 13 → a ≠ b → (TX0 a).2.1 ≠ (TX0 b).2.1 := by decide +kernel
theorem tyX0_ok : ∀ k, k < 13 → parseFieldDescriptor (TX0 k).2.2.1 = some (tyX0 k) := by decide +kernel
abbrev cX0_init : ByteArray := prog_2_method_1_code
def yX0_init : MethodName := ⟨RX0, "<init>", "(LTypeCopier$Numbered;LTypeCopier$Nodes;LTypeCopier$Functions;LTypeCopier$Judge;)V"⟩
abbrev cX0_makeAll : ByteArray := prog_2_method_2_code
def yX0_makeAll : MethodName := ⟨RX0, "makeAll", "()I"⟩
abbrev cX0_findOrAdd : ByteArray := prog_2_method_3_code
def yX0_findOrAdd : MethodName := ⟨RX0, "findOrAdd", "(IJJ)I"⟩
abbrev cX0_makeOne : ByteArray := prog_2_method_4_code
def yX0_makeOne : MethodName := ⟨RX0, "makeOne", "(I)Z"⟩
abbrev cX0_copyForCall : ByteArray := prog_2_method_5_code
def yX0_copyForCall : MethodName := ⟨RX0, "copyForCall", "(IJJ)I"⟩
abbrev cX0_has : ByteArray := prog_2_method_6_code
def yX0_has : MethodName := ⟨RX0, "has", "(I)Z"⟩
abbrev cX0_functionOf : ByteArray := prog_2_method_7_code
def yX0_functionOf : MethodName := ⟨RX0, "functionOf", "(I)I"⟩
abbrev cX0_argumentWidth : ByteArray := prog_2_method_8_code
def yX0_argumentWidth : MethodName := ⟨RX0, "argumentWidth", "(I)I"⟩
abbrev cX0_resultWidth : ByteArray := prog_2_method_9_code
def yX0_resultWidth : MethodName := ⟨RX0, "resultWidth", "(I)I"⟩
abbrev cX0_widthAt : ByteArray := prog_2_method_10_code
def yX0_widthAt : MethodName := ⟨RX0, "widthAt", "(II)I"⟩
abbrev cX0_calledAt : ByteArray := prog_2_method_11_code
def yX0_calledAt : MethodName := ⟨RX0, "calledAt", "(II)I"⟩
abbrev cX0_factOf : ByteArray := prog_2_method_12_code
def yX0_factOf : MethodName := ⟨RX0, "factOf", "(II)I"⟩
def RX1 : String := "TypeCopier$CopyMachine"
def TX1 : u_T := fun k => match k with
  | 0 => ("TypeCopier$Machine", "nodes", "LTypeCopier$Nodes;", true)
  | 1 => ("TypeCopier$Machine", "input", "LTypeCopier$Input;", true)
  | 2 => ("TypeCopier$Machine", "report", "LTypeCopier$Report;", true)
  | 3 => ("TypeCopier$Machine", "cells", "[I", true)
  | 4 => ("TypeCopier$Machine", "workedNode", "[I", true)
  | 5 => ("TypeCopier$Machine", "workedTurns", "[I", true)
  | 6 => ("TypeCopier$Machine", "openUnit", "[I", true)
  | 7 => ("TypeCopier$Machine", "openArgument", "[I", true)
  | 8 => ("TypeCopier$Machine", "top", "I", false)
  | 9 => ("TypeCopier$Machine", "heap", "I", false)
  | 10 => ("TypeCopier$Machine", "worked", "I", false)
  | 11 => ("TypeCopier$Machine", "open", "I", false)
  | 12 => ("TypeCopier$CopyMachine", "functions", "LTypeCopier$Functions;", true)
  | _ => ("TypeCopier$CopyMachine", "copyRows", "LTypeCopier$Copies;", true)
def tyX1 : Nat → FieldType := fun k => match k with
  | 0 => .object "TypeCopier$Nodes"
  | 1 => .object "TypeCopier$Input"
  | 2 => .object "TypeCopier$Report"
  | 3 => .array .int
  | 4 => .array .int
  | 5 => .array .int
  | 6 => .array .int
  | 7 => .array .int
  | 8 => .int
  | 9 => .int
  | 10 => .int
  | 11 => .int
  | 12 => .object "TypeCopier$Functions"
  | _ => .object "TypeCopier$Copies"
abbrev wsX10 : List Cond := u_ws RX1 TX1 14
theorem nmX1 : ∀ a, a < 14 → ∀ b, b < 14 → a ≠ b → (TX1 a).2.1 ≠ (TX1 b).2.1 := by decide +kernel
theorem tyX1_ok : ∀ k, k < 14 → parseFieldDescriptor (TX1 k).2.2.1 = some (tyX1 k) := by decide +kernel
abbrev cX1_init : ByteArray := prog_3_method_1_code
def yX1_init : MethodName := ⟨RX1, "<init>", "(LTypeCopier$Nodes;LTypeCopier$Input;LTypeCopier$Report;LTypeCopier$Functions;LTypeCopier$Copies;)V"⟩
abbrev cX1_bodyOf : ByteArray := prog_3_method_2_code
def yX1_bodyOf : MethodName := ⟨RX1, "bodyOf", "(I)I"⟩
abbrev cX1_calledAt : ByteArray := prog_3_method_3_code
def yX1_calledAt : MethodName := ⟨RX1, "calledAt", "(II)I"⟩
abbrev cX1_argumentWidth : ByteArray := prog_3_method_4_code
def yX1_argumentWidth : MethodName := ⟨RX1, "argumentWidth", "(I)I"⟩
abbrev cX1_resultWidth : ByteArray := prog_3_method_5_code
def yX1_resultWidth : MethodName := ⟨RX1, "resultWidth", "(I)I"⟩
abbrev cX1_nodeWidth : ByteArray := prog_3_method_6_code
def yX1_nodeWidth : MethodName := ⟨RX1, "nodeWidth", "(II)I"⟩
abbrev cX1_shapeWidth : ByteArray := prog_3_method_7_code
def yX1_shapeWidth : MethodName := ⟨RX1, "shapeWidth", "(J)I"⟩
abbrev cX1_join : ByteArray := prog_3_method_8_code
def yX1_join : MethodName := ⟨RX1, "join", "()V"⟩
abbrev cX1_takePart : ByteArray := prog_3_method_9_code
def yX1_takePart : MethodName := ⟨RX1, "takePart", "(IIZ)V"⟩
abbrev cX1_partAddress : ByteArray := prog_3_method_10_code
def yX1_partAddress : MethodName := ⟨RX1, "partAddress", "(JIZ)I"⟩
def RX2 : String := "TypeCopier$Functions"
def TX2 : u_T := fun k => match k with
  | 0 => ("TypeCopier$Functions", "letters", "[I", true)
  | 1 => ("TypeCopier$Functions", "arguments", "[I", true)
  | 2 => ("TypeCopier$Functions", "results", "[I", true)
  | 3 => ("TypeCopier$Functions", "argumentShapes", "[J", true)
  | 4 => ("TypeCopier$Functions", "resultShapes", "[J", true)
  | 5 => ("TypeCopier$Functions", "bodies", "[I", true)
  | 6 => ("TypeCopier$Functions", "uses", "[I", true)
  | _ => ("TypeCopier$Functions", "size", "I", false)
def tyX2 : Nat → FieldType := fun k => match k with
  | 0 => .array .int
  | 1 => .array .int
  | 2 => .array .int
  | 3 => .array .long
  | 4 => .array .long
  | 5 => .array .int
  | 6 => .array .int
  | _ => .int
abbrev wsX20 : List Cond := u_ws RX2 TX2 8
theorem nmX2 : ∀ a, a < 8 → ∀ b, b < 8 → a ≠ b → (TX2 a).2.1 ≠ (TX2 b).2.1 := by decide +kernel
theorem tyX2_ok : ∀ k, k < 8 → parseFieldDescriptor (TX2 k).2.2.1 = some (tyX2 k) := by decide +kernel
abbrev cX2_init : ByteArray := prog_4_method_1_code
def yX2_init : MethodName := ⟨RX2, "<init>", "()V"⟩
abbrev cX2_size : ByteArray := prog_4_method_2_code
def yX2_size : MethodName := ⟨RX2, "size", "()I"⟩
abbrev cX2_has : ByteArray := prog_4_method_3_code
def yX2_has : MethodName := ⟨RX2, "has", "(I)Z"⟩
abbrev cX2_lettersOf : ByteArray := prog_4_method_4_code
def yX2_lettersOf : MethodName := ⟨RX2, "lettersOf", "(I)I"⟩
abbrev cX2_argumentShape : ByteArray := prog_4_method_5_code
def yX2_argumentShape : MethodName := ⟨RX2, "argumentShape", "(I)J"⟩
abbrev cX2_resultShape : ByteArray := prog_4_method_6_code
def yX2_resultShape : MethodName := ⟨RX2, "resultShape", "(I)J"⟩
abbrev cX2_bodyOf : ByteArray := prog_4_method_7_code
def yX2_bodyOf : MethodName := ⟨RX2, "bodyOf", "(I)I"⟩
abbrev cX2_lettersAllow : ByteArray := prog_4_method_8_code
def yX2_lettersAllow : MethodName := ⟨RX2, "lettersAllow", "(IJ)Z"⟩
abbrev cX2_add : ByteArray := prog_4_method_9_code
def yX2_add : MethodName := ⟨RX2, "add", "(IIIJJ)I"⟩
abbrev cX2_giveBody : ByteArray := prog_4_method_10_code
def yX2_giveBody : MethodName := ⟨RX2, "giveBody", "(III)V"⟩
abbrev cX2_reachedBy : ByteArray := prog_4_method_11_code
def yX2_reachedBy : MethodName := ⟨RX2, "reachedBy", "(I)I"⟩
abbrev cX2_digestFrom : ByteArray := prog_4_method_12_code
def yX2_digestFrom : MethodName := ⟨RX2, "digestFrom", "(J)J"⟩
def RX3 : String := "TypeCopier$Input"
def TX3 : u_T := fun k => match k with
  | 0 => ("TypeCopier$Input", "row", "[I", true)
  | 1 => ("TypeCopier$Input", "size", "I", false)
  | _ => ("TypeCopier$Input", "taken", "I", false)
def tyX3 : Nat → FieldType := fun k => match k with
  | 0 => .array .int
  | 1 => .int
  | _ => .int
abbrev wsX30 : List Cond := u_ws RX3 TX3 3
theorem nmX3 : ∀ a, a < 3 → ∀ b, b < 3 → a ≠ b → (TX3 a).2.1 ≠ (TX3 b).2.1 := by decide +kernel
theorem tyX3_ok : ∀ k, k < 3 → parseFieldDescriptor (TX3 k).2.2.1 = some (tyX3 k) := by decide +kernel
abbrev cX3_init : ByteArray := prog_5_method_1_code
def yX3_init : MethodName := ⟨RX3, "<init>", "()V"⟩
abbrev cX3_size : ByteArray := prog_5_method_2_code
def yX3_size : MethodName := ⟨RX3, "size", "()I"⟩
abbrev cX3_add : ByteArray := prog_5_method_3_code
def yX3_add : MethodName := ⟨RX3, "add", "(I)I"⟩
abbrev cX3_clear : ByteArray := prog_5_method_4_code
def yX3_clear : MethodName := ⟨RX3, "clear", "()I"⟩
abbrev cX3_rewind : ByteArray := prog_5_method_5_code
def yX3_rewind : MethodName := ⟨RX3, "rewind", "()V"⟩
abbrev cX3_next : ByteArray := prog_5_method_6_code
def yX3_next : MethodName := ⟨RX3, "next", "()I"⟩
def RX4 : String := "TypeCopier$Judge"
def TX4 : u_T := fun k => match k with
  | 0 => ("TypeCopier$Judge", "numbered", "LTypeCopier$Numbered;", true)
  | 1 => ("TypeCopier$Judge", "nodes", "LTypeCopier$Nodes;", true)
  | 2 => ("TypeCopier$Judge", "functions", "LTypeCopier$Functions;", true)
  | _ => ("TypeCopier$Judge", "shapes", "[[J", true)
def tyX4 : Nat → FieldType := fun k => match k with
  | 0 => .object "TypeCopier$Numbered"
  | 1 => .object "TypeCopier$Nodes"
  | 2 => .object "TypeCopier$Functions"
  | _ => .array (.array .long)
abbrev wsX40 : List Cond := u_ws RX4 TX4 4
theorem nmX4 : ∀ a, a < 4 → ∀ b, b < 4 → a ≠ b → (TX4 a).2.1 ≠ (TX4 b).2.1 := by decide +kernel
theorem tyX4_ok : ∀ k, k < 4 → parseFieldDescriptor (TX4 k).2.2.1 = some (tyX4 k) := by decide +kernel
abbrev cX4_init : ByteArray := prog_6_method_1_code
def yX4_init : MethodName := ⟨RX4, "<init>", "(LTypeCopier$Numbered;LTypeCopier$Nodes;LTypeCopier$Functions;)V"⟩
abbrev cX4_fillNode : ByteArray := prog_6_method_2_code
def yX4_fillNode : MethodName := ⟨RX4, "fillNode", "(I)V"⟩
abbrev cX4_setShape : ByteArray := prog_6_method_3_code
def yX4_setShape : MethodName := ⟨RX4, "setShape", "(IIJ)V"⟩
abbrev cX4_shapeIn : ByteArray := prog_6_method_4_code
def yX4_shapeIn : MethodName := ⟨RX4, "shapeIn", "(II)J"⟩
abbrev cX4_partShape : ByteArray := prog_6_method_5_code
def yX4_partShape : MethodName := ⟨RX4, "partShape", "(III)J"⟩
abbrev cX4_findShape : ByteArray := prog_6_method_6_code
def yX4_findShape : MethodName := ⟨RX4, "findShape", "(II)J"⟩
abbrev cX4_shapeOverList : ByteArray := prog_6_method_7_code
def yX4_shapeOverList : MethodName := ⟨RX4, "shapeOverList", "(IJ)J"⟩
abbrev cX4_nilShape : ByteArray := prog_6_method_8_code
def yX4_nilShape : MethodName := ⟨RX4, "nilShape", "(IJ)J"⟩
abbrev cX4_callShape : ByteArray := prog_6_method_9_code
def yX4_callShape : MethodName := ⟨RX4, "callShape", "(IIJ)J"⟩
abbrev cX4_leastWrong : ByteArray := prog_6_method_10_code
def yX4_leastWrong : MethodName := ⟨RX4, "leastWrong", "(I)I"⟩
abbrev cX4_judgeProgram : ByteArray := prog_6_method_11_code
def yX4_judgeProgram : MethodName := ⟨RX4, "judgeProgram", "()I"⟩
abbrev cX4_allHaveBodies : ByteArray := prog_6_method_12_code
def yX4_allHaveBodies : MethodName := ⟨RX4, "allHaveBodies", "(I)Z"⟩
abbrev cX4_allAreRight : ByteArray := prog_6_method_13_code
def yX4_allAreRight : MethodName := ⟨RX4, "allAreRight", "(I)Z"⟩
abbrev cX4_allAreRegular : ByteArray := prog_6_method_14_code
def yX4_allAreRegular : MethodName := ⟨RX4, "allAreRegular", "(I)Z"⟩
abbrev cX4_isRegular : ByteArray := prog_6_method_15_code
def yX4_isRegular : MethodName := ⟨RX4, "isRegular", "(II)Z"⟩
def RX5 : String := "TypeCopier$LetterMachine"
def TX5 : u_T := fun k => match k with
  | 0 => ("TypeCopier$Machine", "nodes", "LTypeCopier$Nodes;", true)
  | 1 => ("TypeCopier$Machine", "input", "LTypeCopier$Input;", true)
  | 2 => ("TypeCopier$Machine", "report", "LTypeCopier$Report;", true)
  | 3 => ("TypeCopier$Machine", "cells", "[I", true)
  | 4 => ("TypeCopier$Machine", "workedNode", "[I", true)
  | 5 => ("TypeCopier$Machine", "workedTurns", "[I", true)
  | 6 => ("TypeCopier$Machine", "openUnit", "[I", true)
  | 7 => ("TypeCopier$Machine", "openArgument", "[I", true)
  | 8 => ("TypeCopier$Machine", "top", "I", false)
  | 9 => ("TypeCopier$Machine", "heap", "I", false)
  | 10 => ("TypeCopier$Machine", "worked", "I", false)
  | 11 => ("TypeCopier$Machine", "open", "I", false)
  | _ => ("TypeCopier$LetterMachine", "functions", "LTypeCopier$Functions;", true)
def tyX5 : Nat → FieldType := fun k => match k with
  | 0 => .object "TypeCopier$Nodes"
  | 1 => .object "TypeCopier$Input"
  | 2 => .object "TypeCopier$Report"
  | 3 => .array .int
  | 4 => .array .int
  | 5 => .array .int
  | 6 => .array .int
  | 7 => .array .int
  | 8 => .int
  | 9 => .int
  | 10 => .int
  | 11 => .int
  | _ => .object "TypeCopier$Functions"
abbrev wsX50 : List Cond := u_ws RX5 TX5 13
theorem nmX5 : ∀ a, a < 13 → ∀ b, b < 13 → a ≠ b → (TX5 a).2.1 ≠ (TX5 b).2.1 := by decide +kernel
theorem tyX5_ok : ∀ k, k < 13 → parseFieldDescriptor (TX5 k).2.2.1 = some (tyX5 k) := by decide +kernel
abbrev cX5_init : ByteArray := prog_7_method_1_code
def yX5_init : MethodName := ⟨RX5, "<init>", "(LTypeCopier$Nodes;LTypeCopier$Input;LTypeCopier$Report;LTypeCopier$Functions;)V"⟩
abbrev cX5_bodyOf : ByteArray := prog_7_method_2_code
def yX5_bodyOf : MethodName := ⟨RX5, "bodyOf", "(I)I"⟩
abbrev cX5_calledAt : ByteArray := prog_7_method_3_code
def yX5_calledAt : MethodName := ⟨RX5, "calledAt", "(II)I"⟩
abbrev cX5_argumentWidth : ByteArray := prog_7_method_4_code
def yX5_argumentWidth : MethodName := ⟨RX5, "argumentWidth", "(I)I"⟩
abbrev cX5_resultWidth : ByteArray := prog_7_method_5_code
def yX5_resultWidth : MethodName := ⟨RX5, "resultWidth", "(I)I"⟩
abbrev cX5_nodeWidth : ByteArray := prog_7_method_6_code
def yX5_nodeWidth : MethodName := ⟨RX5, "nodeWidth", "(II)I"⟩
abbrev cX5_shapeWidth : ByteArray := prog_7_method_7_code
def yX5_shapeWidth : MethodName := ⟨RX5, "shapeWidth", "(J)I"⟩
abbrev cX5_join : ByteArray := prog_7_method_8_code
def yX5_join : MethodName := ⟨RX5, "join", "()V"⟩
abbrev cX5_takePart : ByteArray := prog_7_method_9_code
def yX5_takePart : MethodName := ⟨RX5, "takePart", "(IIZ)V"⟩
abbrev cX5_partAddress : ByteArray := prog_7_method_10_code
def yX5_partAddress : MethodName := ⟨RX5, "partAddress", "(JIZ)I"⟩
def RX6 : String := "TypeCopier$Machine"
def TX6 : u_T := fun k => match k with
  | _ => ("", "", "", false)
def tyX6 : Nat → FieldType := fun k => match k with
  | _ => .int
abbrev wsX60 : List Cond := u_ws RX6 TX6 0
theorem nmX6 : ∀ a, a < 0 → ∀ b, b < 0 → a ≠ b → (TX6 a).2.1 ≠ (TX6 b).2.1 := by decide +kernel
theorem tyX6_ok : ∀ k, k < 0 → parseFieldDescriptor (TX6 k).2.2.1 = some (tyX6 k) := by decide +kernel
abbrev cX6_init : ByteArray := prog_8_method_1_code
def yX6_init : MethodName := ⟨RX6, "<init>", "(LTypeCopier$Nodes;LTypeCopier$Input;LTypeCopier$Report;)V"⟩
abbrev cX6_work : ByteArray := prog_8_method_11_code
def yX6_work : MethodName := ⟨RX6, "work", "(JJ)I"⟩
abbrev cX6_openFunction : ByteArray := prog_8_method_12_code
def yX6_openFunction : MethodName := ⟨RX6, "openFunction", "(I)V"⟩
abbrev cX6_beginNode : ByteArray := prog_8_method_13_code
def yX6_beginNode : MethodName := ⟨RX6, "beginNode", "(I)V"⟩
abbrev cX6_takeTurn : ByteArray := prog_8_method_14_code
def yX6_takeTurn : MethodName := ⟨RX6, "takeTurn", "()V"⟩
abbrev cX6_takeTurnOfIf : ByteArray := prog_8_method_15_code
def yX6_takeTurnOfIf : MethodName := ⟨RX6, "takeTurnOfIf", "(II)V"⟩
abbrev cX6_takeTurnOfCall : ByteArray := prog_8_method_16_code
def yX6_takeTurnOfCall : MethodName := ⟨RX6, "takeTurnOfCall", "(II)V"⟩
abbrev cX6_unit : ByteArray := prog_8_method_17_code
def yX6_unit : MethodName := ⟨RX6, "unit", "()I"⟩
abbrev cX6_closeFunction : ByteArray := prog_8_method_18_code
def yX6_closeFunction : MethodName := ⟨RX6, "closeFunction", "()V"⟩
abbrev cX6_finishNode : ByteArray := prog_8_method_19_code
def yX6_finishNode : MethodName := ⟨RX6, "finishNode", "(II)V"⟩
abbrev cX6_pushArgument : ByteArray := prog_8_method_20_code
def yX6_pushArgument : MethodName := ⟨RX6, "pushArgument", "()V"⟩
abbrev cX6_makeLink : ByteArray := prog_8_method_21_code
def yX6_makeLink : MethodName := ⟨RX6, "makeLink", "(I)V"⟩
abbrev cX6_takeHead : ByteArray := prog_8_method_22_code
def yX6_takeHead : MethodName := ⟨RX6, "takeHead", "(I)V"⟩
abbrev cX6_takeTail : ByteArray := prog_8_method_23_code
def yX6_takeTail : MethodName := ⟨RX6, "takeTail", "()V"⟩
abbrev cX6_storeLink : ByteArray := prog_8_method_24_code
def yX6_storeLink : MethodName := ⟨RX6, "storeLink", "(II)I"⟩
abbrev cX6_readValue : ByteArray := prog_8_method_25_code
def yX6_readValue : MethodName := ⟨RX6, "readValue", "(J)V"⟩
abbrev cX6_tellValue : ByteArray := prog_8_method_26_code
def yX6_tellValue : MethodName := ⟨RX6, "tellValue", "(JI)V"⟩
abbrev cX6_chainLength : ByteArray := prog_8_method_27_code
def yX6_chainLength : MethodName := ⟨RX6, "chainLength", "(I)I"⟩
abbrev cX6_cell : ByteArray := prog_8_method_28_code
def yX6_cell : MethodName := ⟨RX6, "cell", "(I)I"⟩
abbrev cX6_setCell : ByteArray := prog_8_method_29_code
def yX6_setCell : MethodName := ⟨RX6, "setCell", "(II)V"⟩
abbrev cX6_push : ByteArray := prog_8_method_30_code
def yX6_push : MethodName := ⟨RX6, "push", "(I)V"⟩
abbrev cX6_pop : ByteArray := prog_8_method_31_code
def yX6_pop : MethodName := ⟨RX6, "pop", "()I"⟩
abbrev cX6_pushFrom : ByteArray := prog_8_method_32_code
def yX6_pushFrom : MethodName := ⟨RX6, "pushFrom", "(II)V"⟩
abbrev cX6_keep : ByteArray := prog_8_method_33_code
def yX6_keep : MethodName := ⟨RX6, "keep", "(III)V"⟩
abbrev cX6_storeTwo : ByteArray := prog_8_method_34_code
def yX6_storeTwo : MethodName := ⟨RX6, "storeTwo", "(II)I"⟩
def RX7 : String := "TypeCopier$Nodes"
def TX7 : u_T := fun k => match k with
  | 0 => ("TypeCopier$Nodes", "kinds", "[I", true)
  | 1 => ("TypeCopier$Nodes", "depths", "[I", true)
  | 2 => ("TypeCopier$Nodes", "wanted", "[I", true)
  | 3 => ("TypeCopier$Nodes", "seen", "[I", true)
  | 4 => ("TypeCopier$Nodes", "met", "[I", true)
  | 5 => ("TypeCopier$Nodes", "size", "I", false)
  | _ => ("TypeCopier$Nodes", "metSize", "I", false)
def tyX7 : Nat → FieldType := fun k => match k with
  | 0 => .array .int
  | 1 => .array .int
  | 2 => .array .int
  | 3 => .array .int
  | 4 => .array .int
  | 5 => .int
  | _ => .int
abbrev wsX70 : List Cond := u_ws RX7 TX7 7
theorem nmX7 : ∀ a, a < 7 → ∀ b, b < 7 → a ≠ b → (TX7 a).2.1 ≠ (TX7 b).2.1 := by decide +kernel
theorem tyX7_ok : ∀ k, k < 7 → parseFieldDescriptor (TX7 k).2.2.1 = some (tyX7 k) := by decide +kernel
abbrev cX7_init : ByteArray := prog_9_method_1_code
def yX7_init : MethodName := ⟨RX7, "<init>", "()V"⟩
abbrev cX7_size : ByteArray := prog_9_method_2_code
def yX7_size : MethodName := ⟨RX7, "size", "()I"⟩
abbrev cX7_has : ByteArray := prog_9_method_3_code
def yX7_has : MethodName := ⟨RX7, "has", "(I)Z"⟩
abbrev cX7_isKind : ByteArray := prog_9_method_4_code
def yX7_isKind : MethodName := ⟨RX7, "isKind", "(I)Z"⟩
abbrev cX7_kindOf : ByteArray := prog_9_method_5_code
def yX7_kindOf : MethodName := ⟨RX7, "kindOf", "(I)I"⟩
abbrev cX7_wantsOf : ByteArray := prog_9_method_6_code
def yX7_wantsOf : MethodName := ⟨RX7, "wantsOf", "(I)I"⟩
abbrev cX7_partsOf : ByteArray := prog_9_method_7_code
def yX7_partsOf : MethodName := ⟨RX7, "partsOf", "(I)I"⟩
abbrev cX7_wantedAt : ByteArray := prog_9_method_8_code
def yX7_wantedAt : MethodName := ⟨RX7, "wantedAt", "(II)I"⟩
abbrev cX7_partOf : ByteArray := prog_9_method_9_code
def yX7_partOf : MethodName := ⟨RX7, "partOf", "(II)I"⟩
abbrev cX7_partsStand : ByteArray := prog_9_method_10_code
def yX7_partsStand : MethodName := ⟨RX7, "partsStand", "(IIII)Z"⟩
abbrev cX7_depthOver : ByteArray := prog_9_method_11_code
def yX7_depthOver : MethodName := ⟨RX7, "depthOver", "(IIII)I"⟩
abbrev cX7_depthOf : ByteArray := prog_9_method_12_code
def yX7_depthOf : MethodName := ⟨RX7, "depthOf", "(I)I"⟩
abbrev cX7_add : ByteArray := prog_9_method_13_code
def yX7_add : MethodName := ⟨RX7, "add", "(IIIII)I"⟩
abbrev cX7_meetUnder : ByteArray := prog_9_method_14_code
def yX7_meetUnder : MethodName := ⟨RX7, "meetUnder", "(I)V"⟩
abbrev cX7_meet : ByteArray := prog_9_method_15_code
def yX7_meet : MethodName := ⟨RX7, "meet", "(II)V"⟩
abbrev cX7_usesUnder : ByteArray := prog_9_method_16_code
def yX7_usesUnder : MethodName := ⟨RX7, "usesUnder", "(I)I"⟩
abbrev cX7_metSize : ByteArray := prog_9_method_17_code
def yX7_metSize : MethodName := ⟨RX7, "metSize", "()I"⟩
abbrev cX7_metAt : ByteArray := prog_9_method_18_code
def yX7_metAt : MethodName := ⟨RX7, "metAt", "(I)I"⟩
abbrev cX7_digestFrom : ByteArray := prog_9_method_19_code
def yX7_digestFrom : MethodName := ⟨RX7, "digestFrom", "(J)J"⟩
def RX8 : String := "TypeCopier$Numbered"
def TX8 : u_T := fun k => match k with
  | 0 => ("TypeCopier$Numbered", "shapes", "[J", true)
  | _ => ("TypeCopier$Numbered", "size", "I", false)
def tyX8 : Nat → FieldType := fun k => match k with
  | 0 => .array .long
  | _ => .int
abbrev wsX80 : List Cond := u_ws RX8 TX8 2
theorem nmX8 : ∀ a, a < 2 → ∀ b, b < 2 → a ≠ b → (TX8 a).2.1 ≠ (TX8 b).2.1 := by decide +kernel
theorem tyX8_ok : ∀ k, k < 2 → parseFieldDescriptor (TX8 k).2.2.1 = some (tyX8 k) := by decide +kernel
abbrev cX8_init : ByteArray := prog_10_method_1_code
def yX8_init : MethodName := ⟨RX8, "<init>", "()V"⟩
abbrev cX8_size : ByteArray := prog_10_method_2_code
def yX8_size : MethodName := ⟨RX8, "size", "()I"⟩
abbrev cX8_has : ByteArray := prog_10_method_3_code
def yX8_has : MethodName := ⟨RX8, "has", "(I)Z"⟩
abbrev cX8_shapeOf : ByteArray := prog_10_method_4_code
def yX8_shapeOf : MethodName := ⟨RX8, "shapeOf", "(I)J"⟩
abbrev cX8_tell : ByteArray := prog_10_method_5_code
def yX8_tell : MethodName := ⟨RX8, "tell", "(J)I"⟩
abbrev cX8_take : ByteArray := prog_10_method_6_code
def yX8_take : MethodName := ⟨RX8, "take", "(J)I"⟩
abbrev cX8_factOf : ByteArray := prog_10_method_7_code
def yX8_factOf : MethodName := ⟨RX8, "factOf", "(II)I"⟩
def RX9 : String := "TypeCopier$Report"
def TX9 : u_T := fun k => match k with
  | 0 => ("TypeCopier$Report", "row", "[I", true)
  | 1 => ("TypeCopier$Report", "size", "I", false)
  | 2 => ("TypeCopier$Report", "steps", "I", false)
  | 3 => ("TypeCopier$Report", "links", "I", false)
  | 4 => ("TypeCopier$Report", "mostOpen", "I", false)
  | _ => ("TypeCopier$Report", "outcome", "I", false)
def tyX9 : Nat → FieldType := fun k => match k with
  | 0 => .array .int
  | 1 => .int
  | 2 => .int
  | 3 => .int
  | 4 => .int
  | _ => .int
abbrev wsX90 : List Cond := u_ws RX9 TX9 6
theorem nmX9 : ∀ a, a < 6 → ∀ b, b < 6 → a ≠ b → (TX9 a).2.1 ≠ (TX9 b).2.1 := by decide +kernel
theorem tyX9_ok : ∀ k, k < 6 → parseFieldDescriptor (TX9 k).2.2.1 = some (tyX9 k) := by decide +kernel
abbrev cX9_init : ByteArray := prog_11_method_1_code
def yX9_init : MethodName := ⟨RX9, "<init>", "()V"⟩
abbrev cX9_begin : ByteArray := prog_11_method_2_code
def yX9_begin : MethodName := ⟨RX9, "begin", "()V"⟩
abbrev cX9_goesOn : ByteArray := prog_11_method_3_code
def yX9_goesOn : MethodName := ⟨RX9, "goesOn", "()Z"⟩
abbrev cX9_end : ByteArray := prog_11_method_4_code
def yX9_end : MethodName := ⟨RX9, "end", "(I)V"⟩
abbrev cX9_outcome : ByteArray := prog_11_method_5_code
def yX9_outcome : MethodName := ⟨RX9, "outcome", "()I"⟩
abbrev cX9_countStep : ByteArray := prog_11_method_6_code
def yX9_countStep : MethodName := ⟨RX9, "countStep", "()I"⟩
abbrev cX9_countLink : ByteArray := prog_11_method_7_code
def yX9_countLink : MethodName := ⟨RX9, "countLink", "()I"⟩
abbrev cX9_noteOpen : ByteArray := prog_11_method_8_code
def yX9_noteOpen : MethodName := ⟨RX9, "noteOpen", "(I)V"⟩
abbrev cX9_isFull : ByteArray := prog_11_method_9_code
def yX9_isFull : MethodName := ⟨RX9, "isFull", "()Z"⟩
abbrev cX9_add : ByteArray := prog_11_method_10_code
def yX9_add : MethodName := ⟨RX9, "add", "(I)V"⟩
abbrev cX9_entry : ByteArray := prog_11_method_11_code
def yX9_entry : MethodName := ⟨RX9, "entry", "(I)I"⟩
abbrev cX9_factOf : ByteArray := prog_11_method_12_code
def yX9_factOf : MethodName := ⟨RX9, "factOf", "(I)I"⟩
def RX10 : String := "TypeCopier$Shape"
def TX10 : u_T := fun k => match k with
  | _ => ("", "", "", false)
def tyX10 : Nat → FieldType := fun k => match k with
  | _ => .int
abbrev wsX100 : List Cond := u_ws RX10 TX10 0
theorem nmX10 : ∀ a, a < 0 → ∀ b, b < 0 → a ≠ b → (TX10 a).2.1 ≠ (TX10 b).2.1 := by decide +kernel
theorem tyX10_ok : ∀ k, k < 0 → parseFieldDescriptor (TX10 k).2.2.1 = some (tyX10 k) := by decide +kernel
abbrev cX10_depthOf : ByteArray := prog_12_method_2_code
def yX10_depthOf : MethodName := ⟨RX10, "depthOf", "(J)I"⟩
abbrev cX10_roomWith : ByteArray := prog_12_method_3_code
def yX10_roomWith : MethodName := ⟨RX10, "roomWith", "(J)J"⟩
abbrev cX10_roomBelow : ByteArray := prog_12_method_4_code
def yX10_roomBelow : MethodName := ⟨RX10, "roomBelow", "(J)J"⟩
abbrev cX10_listOf : ByteArray := prog_12_method_5_code
def yX10_listOf : MethodName := ⟨RX10, "listOf", "(J)J"⟩
abbrev cX10_pairOf : ByteArray := prog_12_method_6_code
def yX10_pairOf : MethodName := ⟨RX10, "pairOf", "(JJ)J"⟩
abbrev cX10_kindOf : ByteArray := prog_12_method_7_code
def yX10_kindOf : MethodName := ⟨RX10, "kindOf", "(J)I"⟩
abbrev cX10_firstOf : ByteArray := prog_12_method_8_code
def yX10_firstOf : MethodName := ⟨RX10, "firstOf", "(J)J"⟩
abbrev cX10_secondOf : ByteArray := prog_12_method_9_code
def yX10_secondOf : MethodName := ⟨RX10, "secondOf", "(J)J"⟩
abbrev cX10_withLetters : ByteArray := prog_12_method_10_code
def yX10_withLetters : MethodName := ⟨RX10, "withLetters", "(JJJ)J"⟩
abbrev cX10_lettersOf : ByteArray := prog_12_method_11_code
def yX10_lettersOf : MethodName := ⟨RX10, "lettersOf", "(J)I"⟩
abbrev cX10_widthOf : ByteArray := prog_12_method_12_code
def yX10_widthOf : MethodName := ⟨RX10, "widthOf", "(J)I"⟩
abbrev cX10_leavesOf : ByteArray := prog_12_method_13_code
def yX10_leavesOf : MethodName := ⟨RX10, "leavesOf", "(J)I"⟩
def RX11 : String := "TypeCopier"
def TX11 : u_T := fun k => match k with
  | 0 => ("TypeCopier", "numbered", "LTypeCopier$Numbered;", true)
  | 1 => ("TypeCopier", "nodes", "LTypeCopier$Nodes;", true)
  | 2 => ("TypeCopier", "functions", "LTypeCopier$Functions;", true)
  | 3 => ("TypeCopier", "typeJudge", "LTypeCopier$Judge;", true)
  | 4 => ("TypeCopier", "copyRows", "LTypeCopier$Copies;", true)
  | 5 => ("TypeCopier", "inputRow", "LTypeCopier$Input;", true)
  | 6 => ("TypeCopier", "report", "LTypeCopier$Report;", true)
  | 7 => ("TypeCopier", "letterMachine", "LTypeCopier$Machine;", true)
  | 8 => ("TypeCopier", "copyMachine", "LTypeCopier$Machine;", true)
  | 9 => ("TypeCopier", "verdict", "I", false)
  | 10 => ("TypeCopier", "copyCount", "I", false)
  | _ => ("TypeCopier", "runs", "I", false)
def tyX11 : Nat → FieldType := fun k => match k with
  | 0 => .object "TypeCopier$Numbered"
  | 1 => .object "TypeCopier$Nodes"
  | 2 => .object "TypeCopier$Functions"
  | 3 => .object "TypeCopier$Judge"
  | 4 => .object "TypeCopier$Copies"
  | 5 => .object "TypeCopier$Input"
  | 6 => .object "TypeCopier$Report"
  | 7 => .object "TypeCopier$Machine"
  | 8 => .object "TypeCopier$Machine"
  | 9 => .int
  | 10 => .int
  | _ => .int
abbrev wsX110 : List Cond := u_ws RX11 TX11 12
theorem nmX11 : ∀ a, a < 12 → ∀ b, b < 12 → a ≠ b → (TX11 a).2.1 ≠ (TX11 b).2.1 := by decide +kernel
theorem tyX11_ok : ∀ k, k < 12 → parseFieldDescriptor (TX11 k).2.2.1 = some (tyX11 k) := by decide +kernel
abbrev cX11_init : ByteArray := prog_1_method_1_code
def yX11_init : MethodName := ⟨RX11, "<init>", "()V"⟩
abbrev cX11_pair : ByteArray := prog_1_method_2_code
def yX11_pair : MethodName := ⟨RX11, "pair", "(II)I"⟩
abbrev cX11_list : ByteArray := prog_1_method_3_code
def yX11_list : MethodName := ⟨RX11, "list", "(I)I"⟩
abbrev cX11_type : ByteArray := prog_1_method_4_code
def yX11_type : MethodName := ⟨RX11, "type", "(II)I"⟩
abbrev cX11_node : ByteArray := prog_1_method_5_code
def yX11_node : MethodName := ⟨RX11, "node", "(IIIII)I"⟩
abbrev cX11_wantedStands : ByteArray := prog_1_method_6_code
def yX11_wantedStands : MethodName := ⟨RX11, "wantedStands", "(IIIII)Z"⟩
abbrev cX11_callTypesStand : ByteArray := prog_1_method_7_code
def yX11_callTypesStand : MethodName := ⟨RX11, "callTypesStand", "(II)Z"⟩
abbrev cX11_function : ByteArray := prog_1_method_8_code
def yX11_function : MethodName := ⟨RX11, "function", "(III)I"⟩
abbrev cX11_body : ByteArray := prog_1_method_9_code
def yX11_body : MethodName := ⟨RX11, "body", "(II)I"⟩
abbrev cX11_judgeAnew : ByteArray := prog_1_method_10_code
def yX11_judgeAnew : MethodName := ⟨RX11, "judgeAnew", "()V"⟩
abbrev cX11_typeIn : ByteArray := prog_1_method_11_code
def yX11_typeIn : MethodName := ⟨RX11, "typeIn", "(II)I"⟩
abbrev cX11_wrong : ByteArray := prog_1_method_12_code
def yX11_wrong : MethodName := ⟨RX11, "wrong", "(I)I"⟩
abbrev cX11_reaches : ByteArray := prog_1_method_13_code
def yX11_reaches : MethodName := ⟨RX11, "reaches", "(II)I"⟩
abbrev cX11_judge : ByteArray := prog_1_method_14_code
def yX11_judge : MethodName := ⟨RX11, "judge", "()I"⟩
abbrev cX11_copies : ByteArray := prog_1_method_15_code
def yX11_copies : MethodName := ⟨RX11, "copies", "()I"⟩
abbrev cX11_copy : ByteArray := prog_1_method_16_code
def yX11_copy : MethodName := ⟨RX11, "copy", "(II)I"⟩
abbrev cX11_input : ByteArray := prog_1_method_17_code
def yX11_input : MethodName := ⟨RX11, "input", "(I)I"⟩
abbrev cX11_empty : ByteArray := prog_1_method_18_code
def yX11_empty : MethodName := ⟨RX11, "empty", "()I"⟩
abbrev cX11_run : ByteArray := prog_1_method_19_code
def yX11_run : MethodName := ⟨RX11, "run", "()I"⟩
abbrev cX11_runCopies : ByteArray := prog_1_method_20_code
def yX11_runCopies : MethodName := ⟨RX11, "runCopies", "()I"⟩
abbrev cX11_result : ByteArray := prog_1_method_21_code
def yX11_result : MethodName := ⟨RX11, "result", "(I)I"⟩
abbrev cX11_told : ByteArray := prog_1_method_22_code
def yX11_told : MethodName := ⟨RX11, "told", "(I)I"⟩
abbrev cX11_count : ByteArray := prog_1_method_23_code
def yX11_count : MethodName := ⟨RX11, "count", "(I)I"⟩
abbrev cX11_digest : ByteArray := prog_1_method_24_code
def yX11_digest : MethodName := ⟨RX11, "digest", "()J"⟩
def RX12 : String := "TypeCopierModel"
def TX12 : u_T := fun k => match k with
  | 0 => ("TypeCopierModel", "numbered", "I", false)
  | 1 => ("TypeCopierModel", "types", "I", false)
  | 2 => ("TypeCopierModel", "sortOf", "[I", true)
  | 3 => ("TypeCopierModel", "partA", "[I", true)
  | 4 => ("TypeCopierModel", "partB", "[I", true)
  | 5 => ("TypeCopierModel", "deep", "[I", true)
  | 6 => ("TypeCopierModel", "deepA", "[I", true)
  | 7 => ("TypeCopierModel", "deepB", "[I", true)
  | 8 => ("TypeCopierModel", "widthOf", "[I", true)
  | 9 => ("TypeCopierModel", "table", "[I", true)
  | 10 => ("TypeCopierModel", "todo", "[I", true)
  | 11 => ("TypeCopierModel", "isBack", "[Z", true)
  | 12 => ("TypeCopierModel", "came", "[I", true)
  | 13 => ("TypeCopierModel", "nodes", "I", false)
  | 14 => ("TypeCopierModel", "kind", "[I", true)
  | 15 => ("TypeCopierModel", "wantA", "[I", true)
  | 16 => ("TypeCopierModel", "wantB", "[I", true)
  | 17 => ("TypeCopierModel", "wantC", "[I", true)
  | 18 => ("TypeCopierModel", "wantD", "[I", true)
  | 19 => ("TypeCopierModel", "nodeDeep", "[I", true)
  | 20 => ("TypeCopierModel", "functions", "I", false)
  | 21 => ("TypeCopierModel", "letters", "[I", true)
  | 22 => ("TypeCopierModel", "argument", "[I", true)
  | 23 => ("TypeCopierModel", "result", "[I", true)
  | 24 => ("TypeCopierModel", "body", "[I", true)
  | 25 => ("TypeCopierModel", "typ", "[I", true)
  | 26 => ("TypeCopierModel", "isIn", "[Z", true)
  | 27 => ("TypeCopierModel", "reach", "[Z", true)
  | 28 => ("TypeCopierModel", "nodeType", "[I", true)
  | 29 => ("TypeCopierModel", "nodeA", "[I", true)
  | 30 => ("TypeCopierModel", "nodeB", "[I", true)
  | 31 => ("TypeCopierModel", "copyMany", "I", false)
  | 32 => ("TypeCopierModel", "copyOf", "[I", true)
  | 33 => ("TypeCopierModel", "copyA", "[I", true)
  | 34 => ("TypeCopierModel", "copyB", "[I", true)
  | 35 => ("TypeCopierModel", "order", "[I", true)
  | 36 => ("TypeCopierModel", "ordered", "I", false)
  | 37 => ("TypeCopierModel", "path", "[I", true)
  | 38 => ("TypeCopierModel", "partAt", "[I", true)
  | 39 => ("TypeCopierModel", "isMet", "[Z", true)
  | 40 => ("TypeCopierModel", "input", "[I", true)
  | 41 => ("TypeCopierModel", "inputs", "I", false)
  | 42 => ("TypeCopierModel", "inputAt", "I", false)
  | 43 => ("TypeCopierModel", "heap", "I", false)
  | 44 => ("TypeCopierModel", "heapA", "[I", true)
  | 45 => ("TypeCopierModel", "heapB", "[I", true)
  | 46 => ("TypeCopierModel", "ran", "I", false)
  | 47 => ("TypeCopierModel", "outcome", "I", false)
  | 48 => ("TypeCopierModel", "steps", "I", false)
  | 49 => ("TypeCopierModel", "links", "I", false)
  | 50 => ("TypeCopierModel", "mostOpen", "I", false)
  | 51 => ("TypeCopierModel", "rowLong", "I", false)
  | 52 => ("TypeCopierModel", "row", "[I", true)
  | 53 => ("TypeCopierModel", "readType", "[I", true)
  | 54 => ("TypeCopierModel", "readMany", "[I", true)
  | 55 => ("TypeCopierModel", "readCame", "[I", true)
  | 56 => ("TypeCopierModel", "readValue", "[I", true)
  | 57 => ("TypeCopierModel", "tellType", "[I", true)
  | 58 => ("TypeCopierModel", "tellValue", "[I", true)
  | 59 => ("TypeCopierModel", "tellRest", "[Z", true)
  | 60 => ("TypeCopierModel", "workNode", "[I", true)
  | 61 => ("TypeCopierModel", "workState", "[I", true)
  | 62 => ("TypeCopierModel", "works", "I", false)
  | 63 => ("TypeCopierModel", "value", "[I", true)
  | 64 => ("TypeCopierModel", "valued", "I", false)
  | 65 => ("TypeCopierModel", "argumentOf", "[I", true)
  | _ => ("TypeCopierModel", "open", "I", false)
def tyX12 : Nat → FieldType := fun k => match k with
  | 0 => .int
  | 1 => .int
  | 2 => .array .int
  | 3 => .array .int
  | 4 => .array .int
  | 5 => .array .int
  | 6 => .array .int
  | 7 => .array .int
  | 8 => .array .int
  | 9 => .array .int
  | 10 => .array .int
  | 11 => .array .boolean
  | 12 => .array .int
  | 13 => .int
  | 14 => .array .int
  | 15 => .array .int
  | 16 => .array .int
  | 17 => .array .int
  | 18 => .array .int
  | 19 => .array .int
  | 20 => .int
  | 21 => .array .int
  | 22 => .array .int
  | 23 => .array .int
  | 24 => .array .int
  | 25 => .array .int
  | 26 => .array .boolean
  | 27 => .array .boolean
  | 28 => .array .int
  | 29 => .array .int
  | 30 => .array .int
  | 31 => .int
  | 32 => .array .int
  | 33 => .array .int
  | 34 => .array .int
  | 35 => .array .int
  | 36 => .int
  | 37 => .array .int
  | 38 => .array .int
  | 39 => .array .boolean
  | 40 => .array .int
  | 41 => .int
  | 42 => .int
  | 43 => .int
  | 44 => .array .int
  | 45 => .array .int
  | 46 => .int
  | 47 => .int
  | 48 => .int
  | 49 => .int
  | 50 => .int
  | 51 => .int
  | 52 => .array .int
  | 53 => .array .int
  | 54 => .array .int
  | 55 => .array .int
  | 56 => .array .int
  | 57 => .array .int
  | 58 => .array .int
  | 59 => .array .boolean
  | 60 => .array .int
  | 61 => .array .int
  | 62 => .int
  | 63 => .array .int
  | 64 => .int
  | 65 => .array .int
  | _ => .int
abbrev wsX120 : List Cond := u_ws RX12 TX12 67
theorem nmX12 : ∀ a, a < 67 → ∀ b, b < 67 → a ≠ b → (TX12 a).2.1 ≠ (TX12 b).2.1 := by decide +kernel
theorem tyX12_ok : ∀ k, k < 67 → parseFieldDescriptor (TX12 k).2.2.1 = some (tyX12 k) := by decide +kernel
abbrev cX12_in : ByteArray := prog_14_method_2_code
def yX12_in : MethodName := ⟨RX12, "in", "(III)Z"⟩
abbrev cX12_init : ByteArray := prog_14_method_3_code
def yX12_init : MethodName := ⟨RX12, "<init>", "()V"⟩
abbrev cX12_mixed : ByteArray := prog_14_method_4_code
def yX12_mixed : MethodName := ⟨RX12, "mixed", "(III)I"⟩
abbrev cX12_forgets : ByteArray := prog_14_method_5_code
def yX12_forgets : MethodName := ⟨RX12, "forgets", "()V"⟩
abbrev cX12_notes : ByteArray := prog_14_method_6_code
def yX12_notes : MethodName := ⟨RX12, "notes", "(I)V"⟩
abbrev cX12_known : ByteArray := prog_14_method_7_code
def yX12_known : MethodName := ⟨RX12, "known", "(III)I"⟩
abbrev cX12_most : ByteArray := prog_14_method_8_code
def yX12_most : MethodName := ⟨RX12, "most", "(II)I"⟩
abbrev cX12_under : ByteArray := prog_14_method_9_code
def yX12_under : MethodName := ⟨RX12, "under", "(I)I"⟩
abbrev cX12_lays : ByteArray := prog_14_method_10_code
def yX12_lays : MethodName := ⟨RX12, "lays", "(IIII)V"⟩
abbrev cX12_made : ByteArray := prog_14_method_11_code
def yX12_made : MethodName := ⟨RX12, "made", "(III)I"⟩
abbrev cX12_isType : ByteArray := prog_14_method_12_code
def yX12_isType : MethodName := ⟨RX12, "isType", "(I)Z"⟩
abbrev cX12_numbers : ByteArray := prog_14_method_13_code
def yX12_numbers : MethodName := ⟨RX12, "numbers", "(III)I"⟩
abbrev cX12_pair : ByteArray := prog_14_method_14_code
def yX12_pair : MethodName := ⟨RX12, "pair", "(II)I"⟩
abbrev cX12_list : ByteArray := prog_14_method_15_code
def yX12_list : MethodName := ⟨RX12, "list", "(I)I"⟩
abbrev cX12_typeOf : ByteArray := prog_14_method_16_code
def yX12_typeOf : MethodName := ⟨RX12, "typeOf", "(II)I"⟩
abbrev cX12_type : ByteArray := prog_14_method_17_code
def yX12_type : MethodName := ⟨RX12, "type", "(II)I"⟩
abbrev cX12_isWithin : ByteArray := prog_14_method_18_code
def yX12_isWithin : MethodName := ⟨RX12, "isWithin", "(II)Z"⟩
abbrev cX12_put : ByteArray := prog_14_method_19_code
def yX12_put : MethodName := ⟨RX12, "put", "(III)I"⟩
abbrev cX12_named : ByteArray := prog_14_method_20_code
def yX12_named : MethodName := ⟨RX12, "named", "(IZ)I"⟩
abbrev cX12_isNode : ByteArray := prog_14_method_21_code
def yX12_isNode : MethodName := ⟨RX12, "isNode", "(I)Z"⟩
abbrev cX12_isFunction : ByteArray := prog_14_method_22_code
def yX12_isFunction : MethodName := ⟨RX12, "isFunction", "(I)Z"⟩
abbrev cX12_partsOf : ByteArray := prog_14_method_23_code
def yX12_partsOf : MethodName := ⟨RX12, "partsOf", "(I)I"⟩
abbrev cX12_partOf : ByteArray := prog_14_method_24_code
def yX12_partOf : MethodName := ⟨RX12, "partOf", "(II)I"⟩
abbrev cX12_isTypeOrNone : ByteArray := prog_14_method_25_code
def yX12_isTypeOrNone : MethodName := ⟨RX12, "isTypeOrNone", "(I)Z"⟩
abbrev cX12_mayBe : ByteArray := prog_14_method_26_code
def yX12_mayBe : MethodName := ⟨RX12, "mayBe", "(IIIII)Z"⟩
abbrev cX12_node : ByteArray := prog_14_method_27_code
def yX12_node : MethodName := ⟨RX12, "node", "(IIIII)I"⟩
abbrev cX12_function : ByteArray := prog_14_method_28_code
def yX12_function : MethodName := ⟨RX12, "function", "(III)I"⟩
abbrev cX12_body : ByteArray := prog_14_method_29_code
def yX12_body : MethodName := ⟨RX12, "body", "(II)I"⟩
abbrev cX12_callType : ByteArray := prog_14_method_30_code
def yX12_callType : MethodName := ⟨RX12, "callType", "(II)I"⟩
abbrev cX12_typeAs : ByteArray := prog_14_method_31_code
def yX12_typeAs : MethodName := ⟨RX12, "typeAs", "(IIIII)I"⟩
abbrev cX12_goThrough : ByteArray := prog_14_method_32_code
def yX12_goThrough : MethodName := ⟨RX12, "goThrough", "(I)V"⟩
abbrev cX12_typeIn : ByteArray := prog_14_method_33_code
def yX12_typeIn : MethodName := ⟨RX12, "typeIn", "(II)I"⟩
abbrev cX12_mark : ByteArray := prog_14_method_34_code
def yX12_mark : MethodName := ⟨RX12, "mark", "(I)V"⟩
abbrev cX12_wrong : ByteArray := prog_14_method_35_code
def yX12_wrong : MethodName := ⟨RX12, "wrong", "(I)I"⟩
abbrev cX12_findReach : ByteArray := prog_14_method_36_code
def yX12_findReach : MethodName := ⟨RX12, "findReach", "()V"⟩
abbrev cX12_reaches : ByteArray := prog_14_method_37_code
def yX12_reaches : MethodName := ⟨RX12, "reaches", "(II)I"⟩
abbrev cX12_isUsed : ByteArray := prog_14_method_38_code
def yX12_isUsed : MethodName := ⟨RX12, "isUsed", "(I)Z"⟩
abbrev cX12_isRegular : ByteArray := prog_14_method_39_code
def yX12_isRegular : MethodName := ⟨RX12, "isRegular", "(I)Z"⟩
abbrev cX12_judge : ByteArray := prog_14_method_40_code
def yX12_judge : MethodName := ⟨RX12, "judge", "()I"⟩
abbrev cX12_findOrder : ByteArray := prog_14_method_41_code
def yX12_findOrder : MethodName := ⟨RX12, "findOrder", "(I)V"⟩
abbrev cX12_deepIn : ByteArray := prog_14_method_42_code
def yX12_deepIn : MethodName := ⟨RX12, "deepIn", "(IIII)I"⟩
abbrev cX12_isTooDeep : ByteArray := prog_14_method_43_code
def yX12_isTooDeep : MethodName := ⟨RX12, "isTooDeep", "(II)Z"⟩
abbrev cX12_copied : ByteArray := prog_14_method_44_code
def yX12_copied : MethodName := ⟨RX12, "copied", "(III)Z"⟩
abbrev cX12_follows : ByteArray := prog_14_method_45_code
def yX12_follows : MethodName := ⟨RX12, "follows", "(I)Z"⟩
abbrev cX12_findCopies : ByteArray := prog_14_method_46_code
def yX12_findCopies : MethodName := ⟨RX12, "findCopies", "()I"⟩
abbrev cX12_copies : ByteArray := prog_14_method_47_code
def yX12_copies : MethodName := ⟨RX12, "copies", "()I"⟩
abbrev cX12_copy : ByteArray := prog_14_method_48_code
def yX12_copy : MethodName := ⟨RX12, "copy", "(II)I"⟩
abbrev cX12_input : ByteArray := prog_14_method_49_code
def yX12_input : MethodName := ⟨RX12, "input", "(I)I"⟩
abbrev cX12_empty : ByteArray := prog_14_method_50_code
def yX12_empty : MethodName := ⟨RX12, "empty", "()I"⟩
abbrev cX12_cell : ByteArray := prog_14_method_51_code
def yX12_cell : MethodName := ⟨RX12, "cell", "(II)I"⟩
abbrev cX12_nextInput : ByteArray := prog_14_method_52_code
def yX12_nextInput : MethodName := ⟨RX12, "nextInput", "()I"⟩
abbrev cX12_beginRead : ByteArray := prog_14_method_53_code
def yX12_beginRead : MethodName := ⟨RX12, "beginRead", "(II)V"⟩
abbrev cX12_endRead : ByteArray := prog_14_method_54_code
def yX12_endRead : MethodName := ⟨RX12, "endRead", "(I)I"⟩
abbrev cX12_reads : ByteArray := prog_14_method_55_code
def yX12_reads : MethodName := ⟨RX12, "reads", "(I)I"⟩
abbrev cX12_tells : ByteArray := prog_14_method_56_code
def yX12_tells : MethodName := ⟨RX12, "tells", "(I)V"⟩
abbrev cX12_lengthOf : ByteArray := prog_14_method_57_code
def yX12_lengthOf : MethodName := ⟨RX12, "lengthOf", "(I)I"⟩
abbrev cX12_tellsAll : ByteArray := prog_14_method_58_code
def yX12_tellsAll : MethodName := ⟨RX12, "tellsAll", "(II)V"⟩
abbrev cX12_begin : ByteArray := prog_14_method_59_code
def yX12_begin : MethodName := ⟨RX12, "begin", "(I)V"⟩
abbrev cX12_gives : ByteArray := prog_14_method_60_code
def yX12_gives : MethodName := ⟨RX12, "gives", "(I)V"⟩
abbrev cX12_takes : ByteArray := prog_14_method_61_code
def yX12_takes : MethodName := ⟨RX12, "takes", "()I"⟩
abbrev cX12_calls : ByteArray := prog_14_method_62_code
def yX12_calls : MethodName := ⟨RX12, "calls", "(II)Z"⟩
abbrev cX12_begins : ByteArray := prog_14_method_63_code
def yX12_begins : MethodName := ⟨RX12, "begins", "(I)I"⟩
abbrev cX12_goesOn : ByteArray := prog_14_method_64_code
def yX12_goesOn : MethodName := ⟨RX12, "goesOn", "(I)I"⟩
abbrev cX12_both : ByteArray := prog_14_method_65_code
def yX12_both : MethodName := ⟨RX12, "both", "(I)I"⟩
abbrev cX12_runs : ByteArray := prog_14_method_66_code
def yX12_runs : MethodName := ⟨RX12, "runs", "()I"⟩
abbrev cX12_run : ByteArray := prog_14_method_67_code
def yX12_run : MethodName := ⟨RX12, "run", "()I"⟩
abbrev cX12_runCopies : ByteArray := prog_14_method_68_code
def yX12_runCopies : MethodName := ⟨RX12, "runCopies", "()I"⟩
abbrev cX12_result : ByteArray := prog_14_method_69_code
def yX12_result : MethodName := ⟨RX12, "result", "(I)I"⟩
abbrev cX12_told : ByteArray := prog_14_method_70_code
def yX12_told : MethodName := ⟨RX12, "told", "(I)I"⟩
abbrev cX12_count : ByteArray := prog_14_method_71_code
def yX12_count : MethodName := ⟨RX12, "count", "(I)I"⟩
abbrev cX12_mixedNode : ByteArray := prog_14_method_72_code
def yX12_mixedNode : MethodName := ⟨RX12, "mixedNode", "(JI)J"⟩
abbrev cX12_digest : ByteArray := prog_14_method_73_code
def yX12_digest : MethodName := ⟨RX12, "digest", "()J"⟩
def RJ9 : String := "java/lang/Math"
def TJ9 : u_T := fun k => match k with
  | _ => ("", "", "", false)
def tyJ9 : Nat → FieldType := fun k => match k with
  | _ => .int
abbrev wsJ90 : List Cond := u_ws RJ9 TJ9 0
theorem nmJ9 : ∀ a, a < 0 → ∀ b, b < 0 → a ≠ b → (TJ9 a).2.1 ≠ (TJ9 b).2.1 := by decide +kernel
theorem tyJ9_ok : ∀ k, k < 0 → parseFieldDescriptor (TJ9 k).2.2.1 = some (tyJ9 k) := by decide +kernel
abbrev cJ9_max_7cf53 : ByteArray := prog_15_method_65_code
def yJ9_max_7cf53 : MethodName := ⟨RJ9, "max", "(II)I"⟩
abbrev cJ9_max_f86c9 : ByteArray := prog_15_method_66_code
def yJ9_max_f86c9 : MethodName := ⟨RJ9, "max", "(JJ)J"⟩
abbrev cJ9_min_7cf53 : ByteArray := prog_15_method_69_code
def yJ9_min_7cf53 : MethodName := ⟨RJ9, "min", "(II)I"⟩
def RJ7 : String := "java/util/Arrays"
def TJ7 : u_T := fun k => match k with
  | _ => ("", "", "", false)
def tyJ7 : Nat → FieldType := fun k => match k with
  | _ => .int
abbrev wsJ70 : List Cond := u_ws RJ7 TJ7 0
theorem nmJ7 : ∀ a, a < 0 → ∀ b, b < 0 → a ≠ b → (TJ7 a).2.1 ≠ (TJ7 b).2.1 := by decide +kernel
theorem tyJ7_ok : ∀ k, k < 0 → parseFieldDescriptor (TJ7 k).2.2.1 = some (tyJ7 k) := by decide +kernel
abbrev cJ7_fill_53178 : ByteArray := prog_16_method_103_code
def yJ7_fill_53178 : MethodName := ⟨RJ7, "fill", "([II)V"⟩
def RL : String := "TypeCopierLaw"
abbrev cL_law : ByteArray := code
def yL_law : MethodName := ⟨RL, "law", "([I)Z"⟩
end
section
/-! ===== the abstract machine: values, cells, worlds ===== -/
abbrev mm_V : Type := Int32 ⊕ Int64 ⊕ Nat ⊕ Nat ⊕ Unit
abbrev mm_I (x : Int32) : mm_V := .inl x
abbrev mm_L (x : Int64) : mm_V := .inr (.inl x)
abbrev mm_R (k : Nat) : mm_V := .inr (.inr (.inl k))
abbrev mm_S (k : Nat) : mm_V := .inr (.inr (.inr (.inl k)))
abbrev mm_N : mm_V := .inr (.inr (.inr (.inr ())))
/-- a cell: an object (class, fields: none an int, some a reference), a row of numbers (tag, length), a row of rows (tag, length, first row) -/
abbrev mm_C : Type := (Nat × List (Option (Option Nat))) ⊕ (Nat × Nat) ⊕ (Nat × Nat × Nat)
abbrev mm_W : Type := List mm_C × (Nat → Nat → Int32) × (Nat → Nat → Int64)
/-- an entry of a code table: instruction, length, pairs, places of words, a number, an int, a long, its own place -/
abbrev mm_E : Type := Jvm.ClassFile.Instr × Nat × List (Nat × Nat) × List (List Nat) × Nat × Int32 × Int64 × Nat
/-- a method: name, bytes, locals, what it returns, code, arguments (without this), cells and slots that it makes, the place of its word -/
abbrev mm_M : Type := MethodName × ByteArray × Nat × Option FieldType × List mm_E × Nat × Nat × Nat × Nat
abbrev mm_T : Type := Nat → Nat × ((Nat → Int32) ⊕ (Nat → Int64))
abbrev mm_My (M : mm_M) : MethodName := M.1
abbrev mm_Mb (M : mm_M) : ByteArray := M.2.1
abbrev mm_Ml (M : mm_M) : Nat := M.2.2.1
abbrev mm_Mr (M : mm_M) : Option FieldType := M.2.2.2.1
abbrev mm_Mc (M : mm_M) : List mm_E := M.2.2.2.2.1
abbrev mm_Mn (M : mm_M) : Nat := M.2.2.2.2.2.1
abbrev mm_Mk (M : mm_M) : Nat := M.2.2.2.2.2.2.1
abbrev mm_Ms (M : mm_M) : Nat := M.2.2.2.2.2.2.2.1
abbrev mm_Mp (M : mm_M) : Nat := M.2.2.2.2.2.2.2.2
def mm_nop : mm_E := (.nop, 0, [], [], 0, 0, 0, 0)
def mm_u {α : Type} (f : Nat → Nat → α) (k i : Nat) (x : α) : Nat → Nat → α := fun a b => if a = k then (if b = i then x else f a b) else f a b
/-- zeros in n cells from lo on -/
def mm_z {α : Type} [OfNat α 0] (f : Nat → Nat → α) (lo n : Nat) : Nat → Nat → α := fun a b => if lo ≤ a ∧ a < lo + n then 0 else f a b
def mm_c1 : mm_C → Nat
  | .inl (_, fs) => fs.length
  | .inr (.inl (_, n)) => n
  | .inr (.inr (_, n, _)) => n
def mm_sl (l : List mm_C) : Nat := (l.map mm_c1).sum
def mm_cat : mm_V → Nat
  | .inr (.inl _) => 2
  | _ => 1
def mm_cs (l : List mm_V) : Nat := (l.map mm_cat).sum
/-- all references are to cells below n -/
def mm_lo (n : Nat) : mm_V → Bool
  | .inr (.inr (.inl k)) => Nat.blt k n
  | _ => true
def mm_loO (n : Nat) : Option mm_V → Bool
  | some v => mm_lo n v
  | none => true
def mm_loC (n : Nat) : mm_C → Bool
  | .inl (_, fs) => fs.all (fun o => match o with | some (some k) => Nat.blt k n | _ => true)
  | .inr (.inl _) => true
  | .inr (.inr (_, len, b)) => Nat.ble (b + len) n
def mm_chk (ls : List (Option mm_V)) (st : List mm_V) (l : List mm_C) : Bool := ls.all (mm_loO l.length) && st.all (mm_lo l.length) && l.all (mm_loC l.length)
/-! locals -/
def mm_kl (ls : List (Option mm_V)) : Nat → List (Option mm_V)
  | 0 => ls
  | j + 1 => match ls.getD j none with
    | some (.inr (.inl _)) => ls.set j none
    | _ => ls
def mm_s1 (ls : List (Option mm_V)) (g : Nat) (v : mm_V) : List (Option mm_V) := (mm_kl ls g).set g (some v)
def mm_s2 (ls : List (Option mm_V)) (g : Nat) (v : mm_V) : List (Option mm_V) := ((mm_kl ls g).set (g + 1) none).set g (some v)
def mm_ar : List mm_V → List (Option mm_V)
  | [] => []
  | .inr (.inl x) :: r => some (.inr (.inl x)) :: none :: mm_ar r
  | v :: r => some v :: mm_ar r
def mm_ini (nL : Nat) (As : List mm_V) : List (Option mm_V) := mm_ar As ++ List.replicate (nL - (mm_ar As).length) none
def mm_sp : Nat → List mm_V → List mm_V → Option (List mm_V × List mm_V)
  | 0, acc, r => some (acc, r)
  | _ + 1, _, [] => none
  | n + 1, acc, v :: r => mm_sp n (v :: acc) r
def mm_fi : List (Nat × Nat) → Nat → Option Nat
  | [], _ => none
  | (a, b) :: r, c => if a = c then some b else mm_fi r c
/-! ops: what an instruction does to the stack, and where it goes on -/
abbrev mm_K : Type := Nat → List (Option mm_V) → List mm_V → mm_W → Prop
abbrev mm_F : Type := Nat → List mm_V → mm_W → (Option mm_V → mm_W → Prop) → Prop
def mm_oI (o : Option mm_V) (k : Int32 → Prop) : Prop := match o with
  | some (.inl x) => k x
  | _ => False
def mm_oL (o : Option mm_V) (k : Int64 → Prop) : Prop := match o with
  | some (.inr (.inl x)) => k x
  | _ => False
def mm_oA (o : Option mm_V) (k : mm_V → Prop) : Prop := match o with
  | some (.inr (.inr v)) => k (.inr (.inr v))
  | _ => False
def mm_1i (st : List mm_V) (k : Int32 → List mm_V → Prop) : Prop := match st with
  | .inl x :: r => k x r
  | _ => False
def mm_1l (st : List mm_V) (k : Int64 → List mm_V → Prop) : Prop := match st with
  | .inr (.inl x) :: r => k x r
  | _ => False
def mm_1a (st : List mm_V) (k : mm_V → List mm_V → Prop) : Prop := match st with
  | .inr (.inr v) :: r => k (.inr (.inr v)) r
  | _ => False
def mm_1c (st : List mm_V) (k : mm_V → List mm_V → Prop) : Prop := match st with
  | .inl x :: r => k (.inl x) r
  | .inr (.inr v) :: r => k (.inr (.inr v)) r
  | _ => False
def mm_1r (st : List mm_V) (k : Nat → List mm_V → Prop) : Prop := match st with
  | .inr (.inr (.inl x)) :: r => k x r
  | _ => False
def mm_2i (st : List mm_V) (k : Int32 → Int32 → List mm_V → Prop) : Prop := match st with
  | .inl y :: .inl x :: r => k x y r
  | _ => False
def mm_2l (st : List mm_V) (k : Int64 → Int64 → List mm_V → Prop) : Prop := match st with
  | .inr (.inl y) :: .inr (.inl x) :: r => k x y r
  | _ => False
def mm_t1 (ax : List (Nat × Nat)) (k : Nat → Prop) : Prop := match ax with
  | (_, t) :: _ => k t
  | _ => False
def mm_if (c : Jvm.ClassFile.Cond) (x : Int32) (a b : Prop) : Prop := match c with
  | .eq => (x = 0 → a) ∧ (¬ x = 0 → b)
  | .ne => (¬ x = 0 → a) ∧ (x = 0 → b)
  | .lt => (x < 0 → a) ∧ (¬ x < 0 → b)
  | .ge => (0 ≤ x → a) ∧ (¬ 0 ≤ x → b)
  | .gt => (0 < x → a) ∧ (¬ 0 < x → b)
  | .le => (x ≤ 0 → a) ∧ (¬ x ≤ 0 → b)
def mm_ic (c : Jvm.ClassFile.Cond) (x y : Int32) (a b : Prop) : Prop := match c with
  | .eq => (x = y → a) ∧ (¬ x = y → b)
  | .ne => (¬ x = y → a) ∧ (x = y → b)
  | .lt => (x < y → a) ∧ (¬ x < y → b)
  | .ge => (y ≤ x → a) ∧ (¬ y ≤ x → b)
  | .gt => (y < x → a) ∧ (¬ y < x → b)
  | .le => (x ≤ y → a) ∧ (¬ x ≤ y → b)
def mm_sw (x : Int32) (k : Nat → Prop) : List (Nat × Nat) → Prop
  | [] => True
  | (a, t) :: r => (x = nI a → k t) ∧ mm_sw x k r
def mm_df (x : Int32) (P : Prop) : List (Nat × Nat) → Prop
  | [] => P
  | (a, _) :: r => ¬ x = nI a → mm_df x P r
def mm_cas (x : Int32) (k : Nat → Prop) (ax : List (Nat × Nat)) : Prop := match ax with
  | (_, d) :: ts => mm_sw x k ts ∧ mm_df x (k d) ts
  | _ => False
def mm_gf (w : mm_W) (ax : List (Nat × Nat)) (r : Nat) (k : mm_V → Prop) : Prop := match w.1[r]? with
  | some (.inl (ci, fs)) => (match mm_fi ax ci with
    | some j => (match fs[j]? with
      | some none => k (mm_I (w.2.1 r j))
      | some (some none) => k mm_N
      | some (some (some a)) => k (mm_R a)
      | none => False)
    | none => False)
  | _ => False
def mm_pf (w : mm_W) (ax : List (Nat × Nat)) (g r : Nat) (v : mm_V) (k : mm_W → Prop) : Prop := match w.1[r]? with
  | some (.inl (ci, fs)) => (match mm_fi ax ci with
    | some j => (match g, fs[j]?, v with
      | 0, some none, .inl x => k (w.1, mm_u w.2.1 r j x, w.2.2)
      | 1, some (some _), .inr (.inr (.inl a)) => k (w.1.set r (.inl (ci, fs.set j (some (some a)))), w.2.1, w.2.2)
      | _, _, _ => False)
    | none => False)
  | _ => False
/-- a row of numbers with a tag: own, or of the tables -/
def mm_ald (w : mm_W) (t r : Nat) (i : Int32) (k : Prop) : Prop := match w.1[r]? with
  | some (.inr (.inl (t', n))) => (match Nat.beq t' t with
    | true => vp_in i n ∧ k
    | false => False)
  | _ => False
def mm_ild (tb : mm_T) (w : mm_W) (st : List mm_V) (k : Int32 → List mm_V → Prop) : Prop := match st with
  | .inl i :: .inr (.inr (.inl r)) :: s => mm_ald w 0 r i (k (w.2.1 r i.toNatClampNeg) s)
  | .inl i :: .inr (.inr (.inr (.inl j))) :: s => (match tb j with
    | (n, .inl f) => vp_in i n ∧ k (f i.toNatClampNeg) s
    | _ => False)
  | _ => False
def mm_lld (tb : mm_T) (w : mm_W) (st : List mm_V) (k : Int64 → List mm_V → Prop) : Prop := match st with
  | .inl i :: .inr (.inr (.inl r)) :: s => mm_ald w 1 r i (k (w.2.2 r i.toNatClampNeg) s)
  | .inl i :: .inr (.inr (.inr (.inl j))) :: s => (match tb j with
    | (n, .inr f) => vp_in i n ∧ k (f i.toNatClampNeg) s
    | _ => False)
  | _ => False
def mm_bld (w : mm_W) (st : List mm_V) (k : Int32 → List mm_V → Prop) : Prop := match st with
  | .inl i :: .inr (.inr (.inl r)) :: s => mm_ald w 2 r i (k (w.2.1 r i.toNatClampNeg) s)
  | _ => False
def mm_qld (w : mm_W) (st : List mm_V) (k : Nat → List mm_V → Prop) : Prop := match st with
  | .inl i :: .inr (.inr (.inl r)) :: s => (match w.1[r]? with
    | some (.inr (.inr (_, n, b))) => vp_in i n ∧ k (b + i.toNatClampNeg) s
    | _ => False)
  | _ => False
def mm_ist (w : mm_W) (t : Nat) (st : List mm_V) (k : mm_W → List mm_V → Prop) : Prop := match st with
  | .inl x :: .inl i :: .inr (.inr (.inl r)) :: s => mm_ald w t r i (k (w.1, mm_u w.2.1 r i.toNatClampNeg (if t = 0 then x else vp_nar .boolean x), w.2.2) s)
  | _ => False
def mm_lst (w : mm_W) (st : List mm_V) (k : mm_W → List mm_V → Prop) : Prop := match st with
  | .inr (.inl x) :: .inl i :: .inr (.inr (.inl r)) :: s => mm_ald w 1 r i (k (w.1, w.2.1, mm_u w.2.2 r i.toNatClampNeg x) s)
  | _ => False
def mm_len (tb : mm_T) (w : mm_W) (st : List mm_V) (k : Int32 → List mm_V → Prop) : Prop := match st with
  | .inr (.inr (.inl r)) :: s => (match w.1[r]? with
    | some (.inr (.inl (_, n))) => k (nI n) s
    | _ => False)
  | .inr (.inr (.inr (.inl j))) :: s => k (nI (tb j).1) s
  | _ => False
/-- the fields of a new object -/
def mm_nf (tys : Nat → FieldType) (n : Nat) : List (Option (Option Nat)) := (List.range n).map (fun j => match tys j with | .int => none | _ => some none)
abbrev mm_cl : List vw_C := [(RX0, TX0, 13), (RX1, TX1, 14), (RX2, TX2, 8), (RX3, TX3, 3), (RX4, TX4, 4), (RX5, TX5, 13), (RX7, TX7, 7), (RX8, TX8, 2), (RX9, TX9, 6), (RX11, TX11, 12), (RX12, TX12, 67)]
def mm_tys : Nat → Nat → FieldType := fun ci => match ci with
  | 0 => tyX0
  | 1 => tyX1
  | 2 => tyX2
  | 3 => tyX3
  | 4 => tyX4
  | 5 => tyX5
  | 6 => tyX7
  | 7 => tyX8
  | 8 => tyX9
  | 9 => tyX11
  | _ => tyX12
def mm_cn : Nat → Nat := fun ci => match ci with
  | 0 => 13
  | 1 => 14
  | 2 => 8
  | 3 => 3
  | 4 => 4
  | 5 => 13
  | 6 => 7
  | 7 => 2
  | 8 => 6
  | 9 => 12
  | _ => 67
/-- room for a more cells of b more slots -/
def mm_rm (lim : Nat × Nat) (w : mm_W) (a b : Nat) : Prop := w.1.length + a ≤ lim.1 ∧ mm_sl w.1 + b ≤ lim.2
def mm_new (lim : Nat × Nat) (ax : List (Nat × Nat)) (ls : List (Option mm_V)) (st : List mm_V) (w : mm_W) (k : mm_V → mm_W → Prop) : Prop := match ax with
  | (_, ci) :: _ => mm_chk ls st w.1 = true ∧ mm_rm lim w 1 (mm_cn ci) ∧ k (mm_R w.1.length) (w.1 ++ [.inl (ci, mm_nf (mm_tys ci) (mm_cn ci))], mm_z w.2.1 w.1.length 1, mm_z w.2.2 w.1.length 1)
  | _ => False
def mm_nar (lim : Nat × Nat) (ax : List (Nat × Nat)) (ls : List (Option mm_V)) (st : List mm_V) (w : mm_W) (k : mm_V → List mm_V → mm_W → Prop) : Prop := match ax, st with
  | (t, n) :: _, .inl x :: r => x = nI n ∧ n < 536870912 / 8 ∧ mm_chk ls r w.1 = true ∧ mm_rm lim w 1 n ∧ k (mm_R w.1.length) r (w.1 ++ [.inr (.inl (t, n))], mm_z w.2.1 w.1.length 1, mm_z w.2.2 w.1.length 1)
  | _, _ => False
def mm_nmu (lim : Nat × Nat) (ax : List (Nat × Nat)) (ls : List (Option mm_V)) (st : List mm_V) (w : mm_W) (k : mm_V → List mm_V → mm_W → Prop) : Prop := match ax, st with
  | (t, n) :: (_, m) :: _, .inl y :: .inl x :: r => x = nI n ∧ y = nI m ∧ n < 536870912 / 8 ∧ m < 536870912 / 8 ∧ mm_chk ls r w.1 = true ∧ mm_rm lim w (1 + n) (n + n * m) ∧ k (mm_R w.1.length) r (w.1 ++ .inr (.inr (t, n, w.1.length + 1)) :: List.replicate n (.inr (.inl (t, m))), mm_z w.2.1 w.1.length (1 + n), mm_z w.2.2 w.1.length (1 + n))
  | _, _ => False
/-- a call of method mi: one that makes nothing leaves the cells as they are, of a kind -/
def mm_inv (call : mm_F) (ms : List mm_M) (lim : Nat × Nat) (mi : Nat) (ls : List (Option mm_V)) (As rest : List mm_V) (w : mm_W) (k : List mm_V → mm_W → Prop) : Prop := match Nat.ble (mm_cs rest) 8, ms[mi]? with
  | true, some M => (match mm_Mk M with
    | 0 => call mi As w (fun o w' => w'.1 = w.1 ∧ k (o.toList ++ rest) w')
    | n + 1 => mm_chk ls rest w.1 = true ∧ mm_rm lim w (n + 1) (mm_Ms M) ∧ call mi As w (fun o w' => w'.1.length = w.1.length + (n + 1) ∧ mm_sl w'.1 = mm_sl w.1 + mm_Ms M ∧ k (o.toList ++ rest) w'))
  | _, _ => False
def mm_b8 (rest : List mm_V) (k : Prop) : Prop := match Nat.ble (mm_cs rest) 8 with
  | true => k
  | false => False
def mm_ivo (call : mm_F) (ms : List mm_M) (lim : Nat × Nat) (mi g : Nat) (ls : List (Option mm_V)) (st : List mm_V) (w : mm_W) (k : List mm_V → mm_W → Prop) : Prop := match mm_sp g [] st with
  | some (As, rest) => mm_inv call ms lim mi ls As rest w k
  | none => False
/-- 0: a method of ours, 1: of a nest mate, 2, 3, 4: Math's max, min of ints, max of longs -/
def mm_ivs (call : mm_F) (ms : List mm_M) (lim : Nat × Nat) (ax : List (Nat × Nat)) (g : Nat) (ls : List (Option mm_V)) (st : List mm_V) (w : mm_W) (k : List mm_V → mm_W → Prop) : Prop := match ax with
  | (0, mi) :: _ => mm_ivo call ms lim mi g ls st w k
  | (1, mi) :: _ => mm_ivo call ms lim mi g ls st w k
  | (2, _) :: _ => mm_2i st (fun x y r => mm_b8 r (k (mm_I (if x < y then y else x) :: r) w))
  | (3, _) :: _ => mm_2i st (fun x y r => mm_b8 r (k (mm_I (if y < x then y else x) :: r) w))
  | (4, _) :: _ => mm_2l st (fun x y r => mm_b8 r (k (mm_L (if y < x then x else y) :: r) w))
  | _ => False
def mm_ivv (call : mm_F) (ms : List mm_M) (lim : Nat × Nat) (ax : List (Nat × Nat)) (g : Nat) (ls : List (Option mm_V)) (st : List mm_V) (w : mm_W) (k : List mm_V → mm_W → Prop) : Prop := match mm_sp g [] st with
  | some (As, .inr (.inr (.inl r)) :: rest) => (match w.1[r]? with
    | some (.inl (ci, _)) => (match mm_fi ax ci with
      | some mi => mm_inv call ms lim mi ls (mm_R r :: As) rest w k
      | none => False)
    | _ => False)
  | _ => False
def mm_ivi (call : mm_F) (ms : List mm_M) (lim : Nat × Nat) (ax : List (Nat × Nat)) (g : Nat) (ls : List (Option mm_V)) (st : List mm_V) (w : mm_W) (k : List mm_V → mm_W → Prop) : Prop := match ax, mm_sp g [] st with
  | (_, mi) :: _, some (As, .inr (.inr (.inl r)) :: rest) => mm_inv call ms lim mi ls (mm_R r :: As) rest w k
  | [], some (_, .inr (.inr (.inl _)) :: rest) => (match Nat.ble (mm_cs rest) 8 with
    | true => k rest w
    | false => False)
  | _, _ => False
def mm_irt (ret : Option FieldType) (st : List mm_V) (k : Int32 → Prop) : Prop := match ret, st with
  | some .int, [.inl x] => k x
  | some .boolean, [.inl x] => (x = 0 ∨ x = 1) ∧ k x
  | _, _ => False
def mm_lrt (ret : Option FieldType) (st : List mm_V) (k : Int64 → Prop) : Prop := match ret, st with
  | some .long, [.inr (.inl x)] => k x
  | _, _ => False
def mm_vrt (ret : Option FieldType) (st : List mm_V) (k : Prop) : Prop := match ret, st with
  | none, [] => k
  | _, _ => False
/-- one instruction -/
def mm_stp (call : mm_F) (ms : List mm_M) (tb : mm_T) (M : mm_M) (lim : Nat × Nat) (Q : Option mm_V → mm_W → Prop) (K : mm_K) (pc : Nat) (ls : List (Option mm_V)) (st : List mm_V) (w : mm_W) : Prop :=
  match (mm_Mc M).getD pc mm_nop with
  | (i, len, ax, _, g, c, c8, _) =>
    match i with
    | .iconst _ => K (pc + len) ls (mm_I c :: st) w
    | .bipush _ => K (pc + len) ls (mm_I c :: st) w
    | .sipush _ => K (pc + len) ls (mm_I c :: st) w
    | .ldc _ => K (pc + len) ls (mm_I c :: st) w
    | .lconst _ => K (pc + len) ls (mm_L c8 :: st) w
    | .ldc2_w _ => K (pc + len) ls (mm_L c8 :: st) w
    | .iload _ => mm_oI (ls.getD g none) (fun x => K (pc + len) ls (mm_I x :: st) w)
    | .iload_n _ => mm_oI (ls.getD g none) (fun x => K (pc + len) ls (mm_I x :: st) w)
    | .lload _ => mm_oL (ls.getD g none) (fun x => K (pc + len) ls (mm_L x :: st) w)
    | .lload_n _ => mm_oL (ls.getD g none) (fun x => K (pc + len) ls (mm_L x :: st) w)
    | .aload _ => mm_oA (ls.getD g none) (fun x => K (pc + len) ls (x :: st) w)
    | .aload_n _ => mm_oA (ls.getD g none) (fun x => K (pc + len) ls (x :: st) w)
    | .istore _ => mm_1i st (fun x r => K (pc + len) (mm_s1 ls g (mm_I x)) r w)
    | .istore_n _ => mm_1i st (fun x r => K (pc + len) (mm_s1 ls g (mm_I x)) r w)
    | .lstore _ => mm_1l st (fun x r => K (pc + len) (mm_s2 ls g (mm_L x)) r w)
    | .lstore_n _ => mm_1l st (fun x r => K (pc + len) (mm_s2 ls g (mm_L x)) r w)
    | .astore_n _ => mm_1r st (fun x r => K (pc + len) (mm_s1 ls g (mm_R x)) r w)
    | .astore _ => mm_1r st (fun x r => K (pc + len) (mm_s1 ls g (mm_R x)) r w)
    | .iinc _ _ => mm_oI (ls.getD g none) (fun x => K (pc + len) (mm_s1 ls g (mm_I (x + c))) st w)
    | .iadd => mm_2i st (fun x y r => K (pc + len) ls (mm_I (x + y) :: r) w)
    | .isub => mm_2i st (fun x y r => K (pc + len) ls (mm_I (x - y) :: r) w)
    | .imul => mm_2i st (fun x y r => K (pc + len) ls (mm_I (x * y) :: r) w)
    | .irem => mm_2i st (fun x y r => ¬ y = 0 ∧ K (pc + len) ls (mm_I (x - x / y * y) :: r) w)
    | .iand => mm_2i st (fun x y r => K (pc + len) ls (mm_I (x &&& y) :: r) w)
    | .ior => mm_2i st (fun x y r => K (pc + len) ls (mm_I (x ||| y) :: r) w)
    | .ixor => mm_2i st (fun x y r => K (pc + len) ls (mm_I (x ^^^ y) :: r) w)
    | .ishl => mm_2i st (fun x y r => K (pc + len) ls (mm_I (x <<< (y &&& 31)) :: r) w)
    | .ishr => mm_2i st (fun x y r => K (pc + len) ls (mm_I (x >>> (y &&& 31)) :: r) w)
    | .ladd => mm_2l st (fun x y r => K (pc + len) ls (mm_L (x + y) :: r) w)
    | .lsub => mm_2l st (fun x y r => K (pc + len) ls (mm_L (x - y) :: r) w)
    | .lmul => mm_2l st (fun x y r => K (pc + len) ls (mm_L (x * y) :: r) w)
    | .ldiv => mm_2l st (fun x y r => ¬ y = 0 ∧ K (pc + len) ls (mm_L (x / y) :: r) w)
    | .lrem => mm_2l st (fun x y r => ¬ y = 0 ∧ K (pc + len) ls (mm_L (x - x / y * y) :: r) w)
    | .lcmp => mm_2l st (fun x y r => K (pc + len) ls (mm_I (lg_cmp x y) :: r) w)
    | .i2l => mm_1i st (fun x r => K (pc + len) ls (mm_L x.toInt64 :: r) w)
    | .l2i => mm_1l st (fun x r => K (pc + len) ls (mm_I x.toInt32 :: r) w)
    | .dup => mm_1c st (fun v r => K (pc + len) ls (v :: v :: r) w)
    | .pop => mm_1c st (fun _ r => K (pc + len) ls r w)
    | .dup_x1 => mm_1c st (fun v r => mm_1c r (fun u q => K (pc + len) ls (v :: u :: v :: q) w))
    | .dup2 => mm_1c st (fun v r => mm_1c r (fun u q => K (pc + len) ls (v :: u :: v :: u :: q) w))
    | .goto _ => mm_t1 ax (fun t => K t ls st w)
    | .ifCond cd _ => mm_t1 ax (fun t => mm_1i st (fun x r => mm_if cd x (K t ls r w) (K (pc + len) ls r w)))
    | .if_icmp cd _ => mm_t1 ax (fun t => mm_2i st (fun x y r => mm_ic cd x y (K t ls r w) (K (pc + len) ls r w)))
    | .tableswitch _ _ _ _ => mm_1i st (fun x r => mm_cas x (fun t => K t ls r w) ax)
    | .lookupswitch _ _ => mm_1i st (fun x r => mm_cas x (fun t => K t ls r w) ax)
    | .getfield _ => mm_1r st (fun r q => mm_gf w ax r (fun v => K (pc + len) ls (v :: q) w))
    | .putfield _ => (match st with
      | v :: .inr (.inr (.inl r)) :: q => mm_pf w ax g r v (fun w' => K (pc + len) ls q w')
      | _ => False)
    | .getstatic _ => mm_t1 ax (fun j => K (pc + len) ls (mm_S j :: st) w)
    | .iaload => mm_ild tb w st (fun x r => K (pc + len) ls (mm_I x :: r) w)
    | .laload => mm_lld tb w st (fun x r => K (pc + len) ls (mm_L x :: r) w)
    | .baload => mm_bld w st (fun x r => K (pc + len) ls (mm_I x :: r) w)
    | .aaload => mm_qld w st (fun x r => K (pc + len) ls (mm_R x :: r) w)
    | .iastore => mm_ist w 0 st (fun w' r => K (pc + len) ls r w')
    | .bastore => mm_ist w 2 st (fun w' r => K (pc + len) ls r w')
    | .lastore => mm_lst w st (fun w' r => K (pc + len) ls r w')
    | .arraylength => mm_len tb w st (fun x r => K (pc + len) ls (mm_I x :: r) w)
    | .new _ => mm_new lim ax ls st w (fun v w' => K (pc + len) ls (v :: st) w')
    | .newarray _ => mm_nar lim ax ls st w (fun v r w' => K (pc + len) ls (v :: r) w')
    | .multianewarray _ _ => mm_nmu lim ax ls st w (fun v r w' => K (pc + len) ls (v :: r) w')
    | .invokestatic _ => mm_ivs call ms lim ax g ls st w (fun r w' => K (pc + len) ls r w')
    | .invokevirtual _ => mm_ivv call ms lim ax g ls st w (fun r w' => K (pc + len) ls r w')
    | .invokespecial _ => mm_ivi call ms lim ax g ls st w (fun r w' => K (pc + len) ls r w')
    | .ireturn => mm_irt (mm_Mr M) st (fun x => Q (some (mm_I x)) w)
    | .lreturn => mm_lrt (mm_Mr M) st (fun x => Q (some (mm_L x)) w)
    | .return_ => mm_vrt (mm_Mr M) st (Q none w)
    | _ => False
/-- from here the method ends with Q: the least such predicate -/
def mm_WP (call : mm_F) (ms : List mm_M) (tb : mm_T) (M : mm_M) (lim : Nat × Nat) (Q : Option mm_V → mm_W → Prop) (pc : Nat) (ls : List (Option mm_V)) (st : List mm_V) (w : mm_W) : Prop :=
  ∀ R : mm_K, (∀ pc ls st w, mm_stp call ms tb M lim Q R pc ls st w → R pc ls st w) → R pc ls st w
def mm_run (call : mm_F) (ms : List mm_M) (tb : mm_T) (M : mm_M) (As : List mm_V) (w : mm_W) (Q : Option mm_V → mm_W → Prop) : Prop :=
  match Nat.ble (mm_ar As).length (mm_Ml M) with
  | true => mm_WP call ms tb M (w.1.length + mm_Mk M, mm_sl w.1 + mm_Ms M) Q 0 (mm_ini (mm_Ml M) As) [] w
  | false => False
def mm_call (ms : List mm_M) (tb : mm_T) : Nat → mm_F
  | 0 => fun _ _ _ _ => False
  | d + 1 => fun mi As w Q => match ms[mi]? with
    | some M => mm_run (mm_call ms tb d) ms tb M As w Q
    | none => False
end
section
/-! ===== private methods of a class, chosen on objects of classes below it (list by program) ===== -/
def mm_pq : List (String × Nat × MethodName × Nat × Nat × Nat × Nat) := [
  ("TypeCopier$LetterMachine", 13, ⟨"TypeCopier$Machine", "readValue", "(J)V"⟩, 274, 790, 791, 1610),
  ("TypeCopier$CopyMachine", 14, ⟨"TypeCopier$Machine", "readValue", "(J)V"⟩, 327, 790, 791, 1610),
  ("TypeCopier$LetterMachine", 13, ⟨"TypeCopier$Machine", "setCell", "(II)V"⟩, 274, 805, 806, 1611),
  ("TypeCopier$CopyMachine", 14, ⟨"TypeCopier$Machine", "setCell", "(II)V"⟩, 327, 805, 806, 1611),
  ("TypeCopier$LetterMachine", 13, ⟨"TypeCopier$Machine", "storeLink", "(II)I"⟩, 274, 856, 857, 1612),
  ("TypeCopier$CopyMachine", 14, ⟨"TypeCopier$Machine", "storeLink", "(II)I"⟩, 327, 856, 857, 1612),
  ("TypeCopier$LetterMachine", 13, ⟨"TypeCopier$Machine", "openFunction", "(I)V"⟩, 274, 860, 861, 1613),
  ("TypeCopier$CopyMachine", 14, ⟨"TypeCopier$Machine", "openFunction", "(I)V"⟩, 327, 860, 861, 1613),
  ("TypeCopier$LetterMachine", 13, ⟨"TypeCopier$Machine", "beginNode", "(I)V"⟩, 274, 901, 902, 1614),
  ("TypeCopier$CopyMachine", 14, ⟨"TypeCopier$Machine", "beginNode", "(I)V"⟩, 327, 901, 902, 1614),
  ("TypeCopier$LetterMachine", 13, ⟨"TypeCopier$Machine", "takeTurn", "()V"⟩, 274, 914, 915, 1615),
  ("TypeCopier$CopyMachine", 14, ⟨"TypeCopier$Machine", "takeTurn", "()V"⟩, 327, 914, 915, 1615),
  ("TypeCopier$LetterMachine", 13, ⟨"TypeCopier$Machine", "takeTurnOfIf", "(II)V"⟩, 274, 919, 920, 1616),
  ("TypeCopier$CopyMachine", 14, ⟨"TypeCopier$Machine", "takeTurnOfIf", "(II)V"⟩, 327, 919, 920, 1616),
  ("TypeCopier$LetterMachine", 13, ⟨"TypeCopier$Machine", "takeTurnOfCall", "(II)V"⟩, 274, 925, 926, 1620),
  ("TypeCopier$CopyMachine", 14, ⟨"TypeCopier$Machine", "takeTurnOfCall", "(II)V"⟩, 327, 925, 926, 1620),
  ("TypeCopier$LetterMachine", 13, ⟨"TypeCopier$Machine", "unit", "()I"⟩, 274, 929, 930, 1621),
  ("TypeCopier$CopyMachine", 14, ⟨"TypeCopier$Machine", "unit", "()I"⟩, 327, 929, 930, 1621),
  ("TypeCopier$LetterMachine", 13, ⟨"TypeCopier$Machine", "closeFunction", "()V"⟩, 274, 947, 948, 1622),
  ("TypeCopier$CopyMachine", 14, ⟨"TypeCopier$Machine", "closeFunction", "()V"⟩, 327, 947, 948, 1622),
  ("TypeCopier$LetterMachine", 13, ⟨"TypeCopier$Machine", "finishNode", "(II)V"⟩, 274, 971, 972, 1623),
  ("TypeCopier$CopyMachine", 14, ⟨"TypeCopier$Machine", "finishNode", "(II)V"⟩, 327, 971, 972, 1623),
  ("TypeCopier$LetterMachine", 13, ⟨"TypeCopier$Machine", "pushArgument", "()V"⟩, 274, 976, 977, 1624),
  ("TypeCopier$CopyMachine", 14, ⟨"TypeCopier$Machine", "pushArgument", "()V"⟩, 327, 976, 977, 1624),
  ("TypeCopier$LetterMachine", 13, ⟨"TypeCopier$Machine", "pushFrom", "(II)V"⟩, 274, 980, 981, 1625),
  ("TypeCopier$CopyMachine", 14, ⟨"TypeCopier$Machine", "pushFrom", "(II)V"⟩, 327, 980, 981, 1625),
  ("TypeCopier$LetterMachine", 13, ⟨"TypeCopier$Machine", "makeLink", "(I)V"⟩, 274, 1010, 1011, 1626),
  ("TypeCopier$CopyMachine", 14, ⟨"TypeCopier$Machine", "makeLink", "(I)V"⟩, 327, 1010, 1011, 1626),
  ("TypeCopier$LetterMachine", 13, ⟨"TypeCopier$Machine", "takeHead", "(I)V"⟩, 274, 1025, 1026, 1627),
  ("TypeCopier$CopyMachine", 14, ⟨"TypeCopier$Machine", "takeHead", "(I)V"⟩, 327, 1025, 1026, 1627),
  ("TypeCopier$LetterMachine", 13, ⟨"TypeCopier$Machine", "takeTail", "()V"⟩, 274, 1029, 1030, 1628),
  ("TypeCopier$CopyMachine", 14, ⟨"TypeCopier$Machine", "takeTail", "()V"⟩, 327, 1029, 1030, 1628),
  ("TypeCopier$LetterMachine", 13, ⟨"TypeCopier$Machine", "tellValue", "(JI)V"⟩, 274, 1033, 1034, 1629),
  ("TypeCopier$CopyMachine", 14, ⟨"TypeCopier$Machine", "tellValue", "(JI)V"⟩, 327, 1033, 1034, 1629),
  ("TypeCopier$LetterMachine", 13, ⟨"TypeCopier$Machine", "chainLength", "(I)I"⟩, 274, 1047, 1048, 1630),
  ("TypeCopier$CopyMachine", 14, ⟨"TypeCopier$Machine", "chainLength", "(I)I"⟩, 327, 1047, 1048, 1630)]
def mm_psel : List Cond := mm_pq.map (fun q => Cond.selects q.1 q.2.2.1 q.2.2.1)
def mm_tbl : List Cond := mm_psel ++ lw_tbl
theorem mm_pq_ok : mm_pq.all (fun q => decide (q.2.2.1.cls ≠ "java/lang/invoke/MethodHandle") && decide (q.2.2.1.cls ≠ "java/lang/invoke/VarHandle") && decide (lw_tbl[q.2.2.2.1]? = some (Cond.instantiable q.1 q.2.1)) && decide (lw_tbl[q.2.2.2.2.1]? = some (Cond.privateMethod q.2.2.1)) && decide (lw_tbl[q.2.2.2.2.2.1]? = some (Cond.instanceMethod q.2.2.1)) && decide (lw_tbl[q.2.2.2.2.2.2]? = some (Cond.sameMethod q.2.2.1.cls q.2.2.1.cls q.2.2.1.name q.2.2.1.desc))) = true := by decide +kernel
theorem mm_selp {C : String} {y : MethodName} {s : State} {args : Array Value} {n : Nat} (hy : y.cls ≠ "java/lang/invoke/MethodHandle" ∧ y.cls ≠ "java/lang/invoke/VarHandle")
    (hins : (Cond.instantiable C n).before args s = true) (hpriv : (Cond.privateMethod y).before args s = true) (hinst : (Cond.instanceMethod y).before args s = true) (hsame : (Cond.sameMethod y.cls y.cls y.name y.desc).before args s = true) :
    (Cond.selects C y y).before args s = true := by
  obtain ⟨c, k, hc, hk, -⟩ := Cond.instantiable_spec hins
  obtain ⟨cn, ck, r1, hcn, hck, hni, hf, hn1⟩ := Cond.sameMethod_found hsame
  obtain ⟨mk, methM, hnamed, hmethM, -, -⟩ := Cond.instanceMethod_spec hinst
  have hfound : s.methodFound? y.cls y.name y.desc = some mk := State.methodFound?_of_named hnamed hy
  have hcls : mk.cls = cn := Option.some.inj ((findClass_of_methodNamed hnamed).symm.trans hcn)
  have hsel : selectMethod {} s.vm c mk = .method mk := selectMethod_private hmethM (Cond.privateMethod_at hpriv mk methM hnamed hmethM)
  simp only [Cond.before, Cond.holds, Cond.value, hc, hfound, hnamed, hsel, hcls, hck]
  simp; exact hni
theorem mm_tbl_ok {args : Array Value} {s : State} (hts : ∀ w ∈ lw_tbl, w.before args s = true) : ∀ w ∈ mm_tbl, w.before args s = true := by
  intro w hw
  rcases List.mem_append.mp hw with hw | hw
  · obtain ⟨q, hq, rfl⟩ := List.mem_map.mp hw
    have h := List.all_eq_true.mp mm_pq_ok q hq
    simp only [Bool.and_eq_true, decide_eq_true_eq] at h
    obtain ⟨⟨⟨⟨⟨h1, h2⟩, h3⟩, h4⟩, h5⟩, h6⟩ := h
    exact mm_selp ⟨h1, h2⟩ (hts _ (List.mem_of_getElem? h3)) (hts _ (List.mem_of_getElem? h4)) (hts _ (List.mem_of_getElem? h5)) (hts _ (List.mem_of_getElem? h6))
  · exact hts w hw
def mm_sec : Nat → List Cond
  | 0 => mm_psel
  | 1 => k2_sels lw_privs
  | 2 => tables_1_1
  | 3 => tables_1_2
  | 4 => tables_1_3
  | 5 => tables_1_4
  | 6 => tables_1_5
  | 7 => tables_1_6
  | 8 => tables_1_7
  | _ => []
def mm_g (p : Nat) : Option Cond := (mm_sec (p / 1000))[p % 1000]?
theorem mm_sec_in : ∀ (j : Nat) (w : Cond), w ∈ mm_sec j → w ∈ mm_tbl
  | 0, w, h => List.mem_append_left _ h
  | 1, w, h => List.mem_append_right _ (List.mem_append_left _ h)
  | 2, w, h => List.mem_append_right _ (List.mem_append_right _ (List.mem_append_left _ h))
  | 3, w, h => List.mem_append_right _ (List.mem_append_right _ (List.mem_append_right _ (List.mem_append_left _ h)))
  | 4, w, h => List.mem_append_right _ (List.mem_append_right _ (List.mem_append_right _ (List.mem_append_right _ (List.mem_append_left _ h))))
  | 5, w, h => List.mem_append_right _ (List.mem_append_right _ (List.mem_append_right _ (List.mem_append_right _ (List.mem_append_right _ (List.mem_append_left _ h)))))
  | 6, w, h => List.mem_append_right _ (List.mem_append_right _ (List.mem_append_right _ (List.mem_append_right _ (List.mem_append_right _ (List.mem_append_right _ (List.mem_append_left _ h))))))
  | 7, w, h => List.mem_append_right _ (List.mem_append_right _ (List.mem_append_right _ (List.mem_append_right _ (List.mem_append_right _ (List.mem_append_right _ (List.mem_append_right _ (List.mem_append_left _ h)))))))
  | 8, w, h => List.mem_append_right _ (List.mem_append_right _ (List.mem_append_right _ (List.mem_append_right _ (List.mem_append_right _ (List.mem_append_right _ (List.mem_append_right _ (List.mem_append_right _ (h))))))))
  | _ + 9, w, h => absurd h List.not_mem_nil
theorem mm_g_in {p : Nat} {w : Cond} (h : mm_g p = some w) : w ∈ mm_tbl := mm_sec_in _ w (List.mem_of_getElem? h)
end
section
/-! ===== what a code table must keep to: a check that the kernel runs ===== -/
def mm_ty : Nat → FieldType
  | 0 => .int
  | 1 => .long
  | _ => .boolean
/-- static rows: 0 the script, then those of the classes -/
def mm_sn : Nat → Option (String × String × String)
  | 1 => some ("TypeCopier$Shape", "ROOMS", "[J")
  | 2 => some ("TypeCopier$Nodes", "WANTS", "[I")
  | 3 => some ("TypeCopier$Nodes", "PARTS", "[I")
  | _ => none
def mm_at (p : Nat) (w : Cond) : Bool := decide (mm_g p = some w) && goodWord w
def mm_nzk : Cond → Bool
  | .methodLinkNest _ _ _ _ => true
  | .declares _ => true
  | .arrayOver (.array _) => true
  | _ => false
/-- words that don't ride in contracts: they are carried -/
def mm_az (p : Nat) (w : Cond) : Bool := decide (mm_g p = some w) && mm_nzk w
def mm_ckt (pc : Nat) : Int → List Int → List (Nat × Nat) → Bool
  | _, [], [] => true
  | lo, o :: os, (a, t) :: ts => decide ((a : Int) = lo) && decide (a < 2 ^ 31) && decide ((pc : Int) + o = (t : Int)) && mm_ckt pc (lo + 1) os ts
  | _, _, _ => false
def mm_ckl (pc : Nat) : List (Int × Int) → List (Nat × Nat) → Bool
  | [], [] => true
  | (k, o) :: os, (a, t) :: ts => decide ((a : Int) = k) && decide (a < 2 ^ 31) && decide ((pc : Int) + o = (t : Int)) && mm_ckl pc os ts
  | _, _ => false
def mm_ckf (y : MethodName) (idx : Nat) (ps : List Nat) (q : Nat × Nat) : Bool := match mm_cl[q.1]? with
  | some (_, T, N) => decide (q.2 < N) && (match ps with
    | [p] => mm_at p (.fieldLink y.cls idx (T q.2).1 (T q.2).2.1 (T q.2).2.2.1)
    | [p, p2] => mm_at p (.fieldLink y.cls idx y.cls (T q.2).2.1 (T q.2).2.2.1) && mm_at p2 (.sameField y.cls (T q.2).1 (T q.2).2.1 (T q.2).2.2.1)
    | _ => false)
  | none => false
def mm_rfT : FieldType → Bool
  | .object _ => true
  | .array _ => true
  | _ => false
def mm_ckp (y : MethodName) (g : Nat) (q : Nat × Nat) : Bool := match mm_cl[q.1]? with
  | some (_, T, _) => (match g with
    | 0 => decide (mm_tys q.1 q.2 = .int)
    | 1 => mm_rfT (mm_tys q.1 q.2)
    | _ => false) && (!(T q.2).2.2.2 || (decide (y.name = "<init>") && decide ((T q.2).1 = y.cls)))
  | none => false
def mm_nMH (c : String) : Bool := decide (c ≠ "java/lang/invoke/MethodHandle") && decide (c ≠ "java/lang/invoke/VarHandle")
/-- a virtual call: the receiver's class, the method that it comes to -/
def mm_ckv (ms : List mm_M) (y : MethodName) (idx g : Nat) (q : Nat × Nat) (ps : List Nat) : Bool := match mm_cl[q.1]?, ms[q.2]? with
  | some (C, _, _), some M => decide (mm_Mn M = g) && (match ps with
    | [p0, p1, p2, p3] => decide ((mm_My M).cls = C) && mm_at p0 (.methodLink y.cls idx (mm_My M)) && mm_at p1 (.instanceMethod (mm_My M)) && mm_at p2 (.selects C (mm_My M) (mm_My M)) && mm_at p3 (.initialized C)
    | [p0, p1, p2, p3, p4] => (match mm_g p0, mm_g p1 with
      | some (.methodLink _ _ x), some (.sameMethod _ o _ _) => mm_at p0 (.methodLink y.cls idx x) && mm_at p1 (.sameMethod x.cls o x.name x.desc) && mm_at p2 (.selects C x (mm_My M)) && mm_at p3 (.instanceMethod (mm_My M)) && mm_at p4 (.initialized (mm_My M).cls) && decide (mm_My M = ⟨o, x.name, x.desc⟩) && mm_nMH o
      | _, _ => false)
    | [p0, p1, p2, p3, p4, p5] => (match mm_g p0, mm_g p1 with
      | some (.methodLink _ _ x), some (.sameMethod _ o _ _) => mm_at p0 (.methodLink y.cls idx x) && mm_at p1 (.sameMethod x.cls o x.name x.desc) && mm_at p2 (.selects C x (mm_My M)) && mm_at p3 (.instanceMethod (mm_My M)) && mm_at p4 (.initialized (mm_My M).cls) && mm_az p5 (.declares ⟨o, x.name, x.desc⟩) && decide ((mm_My M).desc = x.desc) && mm_nMH o
      | _, _ => false)
    | _ => false)
  | _, _ => false
def mm_ckvs (ms : List mm_M) (y : MethodName) (idx g : Nat) : List (Nat × Nat) → List (List Nat) → Bool
  | [], _ => true
  | q :: qs, p :: ps => mm_ckv ms y idx g q p && mm_ckvs ms y idx g qs ps
  | _, _ => false
/-- a static call: the method mi, of a class that the link names, or of a nest mate -/
def mm_ckS0 (ms : List mm_M) (g mi p1 p2 : Nat) (lk : MethodName → Bool) : Bool := match ms[mi]? with
  | some M => decide (mm_Mn M = g) && mm_at p1 (.static (mm_My M)) && mm_at p2 (.initialized (mm_My M).cls) && lk (mm_My M)
  | none => false
def mm_ckS (ms : List mm_M) (y : MethodName) (idx g k mi : Nat) (ps : List (List Nat)) : Bool := match k with
  | 0 => (match ps with
    | [[p0, p1, p2]] => mm_ckS0 ms g mi p1 p2 (fun z => mm_at p0 (.methodLink y.cls idx z))
    | _ => false)
  | 1 => (match ps with
    | [[p0, p1, p2]] => mm_ckS0 ms g mi p1 p2 (fun z => match mm_g p0 with | some (.methodLinkNest _ _ _ h) => mm_az p0 (.methodLinkNest y.cls idx z h) | _ => false)
    | _ => false)
  | 2 => (match ps with
    | [[p0, p1, p2, p3]] => mm_at p0 (.methodLink y.cls idx Lib.Math.max.name) && mm_at p1 (.static Lib.Math.max.name) && mm_at p2 (.initialized "java/lang/Math") && mm_at p3 (.code Lib.Math.max.name Lib.Math.max.code 2 (some .int))
    | _ => false)
  | 3 => (match ps with
    | [[p0, p1, p2, p3]] => mm_at p0 (.methodLink y.cls idx Lib.Math.min.name) && mm_at p1 (.static Lib.Math.min.name) && mm_at p2 (.initialized "java/lang/Math") && mm_at p3 (.code Lib.Math.min.name Lib.Math.min.code 2 (some .int))
    | _ => false)
  | 4 => (match ps with
    | [[p0, p1, p2, p3]] => mm_at p0 (.methodLink y.cls idx Lib.MathLoose.max_long.x) && mm_at p1 (.static Lib.MathLoose.max_long.x) && mm_at p2 (.initialized "java/lang/Math") && mm_at p3 (.code Lib.MathLoose.max_long.x Lib.MathLoose.max_long.code 4 (some .long))
    | _ => false)
  | _ => false
def mm_ck1 (ms : List mm_M) (y : MethodName) (nL pc : Nat) (i : Jvm.ClassFile.Instr) (len : Nat) (ax : List (Nat × Nat)) (ps : List (List Nat)) (g : Nat) (c : Int32) (c8 : Int64) : Bool := match i with
  | .iconst n => decide (len = 1) && decide (Int32.ofInt n = c)
  | .bipush n => decide (len = 2) && decide ((Int8.ofInt n).toInt32 = c)
  | .sipush n => decide (len = 3) && decide ((Int16.ofInt n).toInt32 = c)
  | .ldc idx => decide (len = 2) && (match ps with | [[p]] => mm_at p (.constant y.cls idx c) | _ => false)
  | .lconst n => decide (len = 1) && decide (Int64.ofNat (n : Nat) = c8)
  | .ldc2_w idx => decide (len = 3) && (match ps with | [[p]] => mm_at p (.constantLong y.cls idx c8) | _ => false)
  | .iload k => decide (len = 2) && decide (k = g)
  | .iload_n k => decide (len = 1) && decide ((k : Nat) = g)
  | .lload k => decide (len = 2) && decide (k = g)
  | .lload_n k => decide (len = 1) && decide ((k : Nat) = g)
  | .aload k => decide (len = 2) && decide (k = g)
  | .aload_n k => decide (len = 1) && decide ((k : Nat) = g)
  | .istore k => decide (len = 2) && decide (k = g) && decide (g < nL)
  | .istore_n k => decide (len = 1) && decide ((k : Nat) = g) && decide (g < nL)
  | .lstore k => decide (len = 2) && decide (k = g) && decide (g + 1 < nL)
  | .lstore_n k => decide (len = 1) && decide ((k : Nat) = g) && decide (g + 1 < nL)
  | .astore k => decide (len = 2) && decide (k = g) && decide (g < nL)
  | .astore_n k => decide (len = 1) && decide ((k : Nat) = g) && decide (g < nL)
  | .iinc k n => decide (len = 3) && decide (k = g) && decide (g < nL) && decide (Int32.ofInt n = c)
  | .iadd | .isub | .imul | .irem | .iand | .ior | .ixor | .ishl | .ishr | .ladd | .lsub | .lmul | .ldiv | .lrem | .lcmp | .i2l | .l2i => decide (len = 1)
  | .dup | .pop | .dup_x1 | .dup2 | .iaload | .laload | .baload | .aaload | .iastore | .bastore | .lastore | .arraylength | .ireturn | .lreturn | .return_ => decide (len = 1)
  | .goto o => decide (len = 3) && (match ax with | (_, t) :: _ => decide ((pc : Int) + o = (t : Int)) | _ => false)
  | .ifCond _ o => decide (len = 3) && (match ax with | (_, t) :: _ => decide ((pc : Int) + o = (t : Int)) | _ => false)
  | .if_icmp _ o => decide (len = 3) && (match ax with | (_, t) :: _ => decide ((pc : Int) + o = (t : Int)) | _ => false)
  | .tableswitch d lo hi os => (match ax with | (_, t) :: ts => decide ((pc : Int) + d = (t : Int)) && mm_ckt pc lo os.toList ts && decide ((os.size : Int) = hi - lo + 1) | _ => false)
  | .lookupswitch d os => (match ax with | (_, t) :: ts => decide ((pc : Int) + d = (t : Int)) && mm_ckl pc os.toList ts && (os.toList.zip (os.toList.drop 1)).all (fun (a, next) => a.1 < next.1) | _ => false)
  | .getfield idx => decide (len = 3) && (match ps with | [p] => ax.all (mm_ckf y idx p) | _ => false)
  | .putfield idx => decide (len = 3) && (match ps with | [p] => ax.all (fun q => mm_ckf y idx p q && mm_ckp y g q) | _ => false)
  | .getstatic idx => decide (len = 3) && (match ax, ps with | (_, j) :: _, [[p]] => (match mm_sn j with | some (C, n, d) => mm_at p (.fieldLink y.cls idx C n d) | none => false) | _, _ => false)
  | .new idx => decide (len = 3) && (match ax, ps with | (_, ci) :: _, [[p0, p1, p2]] => (match mm_cl[ci]? with | some (C, _, N) => mm_at p0 (.classLink y.cls idx C) && mm_at p1 (.instantiable C N) && mm_at p2 (.initialized C) | none => false) | _, _ => false)
  | .newarray a => decide (len = 2) && (match ax, ps with | (t, _) :: _, [[p]] => mm_at p (.arrayClass (mm_ty t)) && decide (newarray.typeOf a = mm_ty t) | _, _ => false)
  | .multianewarray idx n => decide (len = 4) && decide (n = 2) && (match ax, ps with | (t, _) :: _, [[p0, p1, p2]] => mm_at p0 (.classLink y.cls idx ("[" ++ (FieldType.array (mm_ty t)).toString)) && mm_at p1 (.arrayClass (mm_ty t)) && mm_az p2 (.arrayOver (.array (mm_ty t))) && decide (t < 2) | _, _ => false)
  | .invokestatic idx => decide (len = 3) && (match ax with
    | (k, mi) :: _ => mm_ckS ms y idx g k mi ps
    | [] => false)
  | .invokevirtual idx => decide (len = 3) && mm_ckvs ms y idx g ax ps
  | .invokespecial idx => decide (len = 3) && (match ax, ps with
    | [], [[p0, p1, p2]] => decide (g = 0) && mm_at p0 (.methodLink y.cls idx Lib.objectInit) && mm_at p1 (.instanceMethod Lib.objectInit) && mm_at p2 (.code Lib.objectInit ⟨#[0xb1]⟩ 1 none)
    | (k, mi) :: _, [[p0, p1, p2]] => (match ms[mi]? with
      | some M => decide (mm_Mn M = g) && decide ((mm_My M).name = "<init>") && decide (mm_Mr M = none) && mm_at p1 (.instanceMethod (mm_My M)) && mm_at p2 (.initialized (mm_My M).cls) && (match k with
        | 0 => mm_at p0 (.methodLink y.cls idx (mm_My M))
        | _ => (match mm_g p0 with | some (.methodLinkNest _ _ _ h) => mm_az p0 (.methodLinkNest y.cls idx (mm_My M) h) | _ => false))
      | none => false)
    | _, _ => false)
  | _ => false
def mm_ck (ms : List mm_M) (y : MethodName) (bytes : ByteArray) (nL pc : Nat) (e : mm_E) : Bool := match e with
  | (i, len, ax, ps, g, c, c8, q) => (match i with
    | .nop => true
    | _ => decide (q = pc) && (decide (decode bytes q = .ok (i, len)) && mm_ck1 ms y nL q i len ax ps g c c8))
def mm_cks (ms : List mm_M) (y : MethodName) (bytes : ByteArray) (nL : Nat) : Nat → List mm_E → Bool
  | _, [] => true
  | pc, e :: r => mm_ck ms y bytes nL pc e && mm_cks ms y bytes nL (pc + 1) r
theorem mm_cks_at {ms : List mm_M} {y : MethodName} {bytes : ByteArray} {nL : Nat} : ∀ (l : List mm_E) (p k : Nat), mm_cks ms y bytes nL p l = true → mm_ck ms y bytes nL (p + k) (l.getD k mm_nop) = true
  | [], p, k, _ => by simp [mm_ck, mm_nop]
  | e :: r, p, 0, h => by
    simp only [mm_cks, Bool.and_eq_true] at h
    simpa using h.1
  | e :: r, p, k + 1, h => by
    simp only [mm_cks, Bool.and_eq_true] at h
    have := mm_cks_at r (p + 1) k h.2
    rw [show p + (k + 1) = p + 1 + k by omega]
    simpa using this
theorem mm_cks_ap {ms : List mm_M} {y : MethodName} {bytes : ByteArray} {nL : Nat} : ∀ (n p : Nat) (l : List mm_E), mm_cks ms y bytes nL p (l.take n) = true → mm_cks ms y bytes nL (p + n) (l.drop n) = true → mm_cks ms y bytes nL p l = true
  | 0, p, l, _, h => by simpa using h
  | n + 1, p, [], _, _ => rfl
  | n + 1, p, e :: r, h1, h2 => by
    simp only [List.take_succ_cons, mm_cks, Bool.and_eq_true] at h1
    simp only [mm_cks, Bool.and_eq_true]
    refine ⟨h1.1, mm_cks_ap n (p + 1) r h1.2 ?_⟩
    rw [List.drop_succ_cons] at h2
    rw [show p + 1 + n = p + (n + 1) by omega]
    exact h2
theorem mm_cks_seg {ms : List mm_M} {y : MethodName} {bytes : ByteArray} {nL : Nat} {l : List mm_E} (n p q : Nat) (hq : p + n = q) (h1 : mm_cks ms y bytes nL p ((l.drop p).take n) = true) (h2 : mm_cks ms y bytes nL q (l.drop q) = true) : mm_cks ms y bytes nL p (l.drop p) = true := by
  subst hq
  refine mm_cks_ap n p _ h1 ?_
  rw [List.drop_drop]
  exact h2
/-- a method's head: its word, its arguments -/
def mm_ckh (M : mm_M) : Bool := plainName (mm_My M).cls && mm_nMH (mm_My M).cls && mm_at (mm_Mp M) (.code (mm_My M) (mm_Mb M) (mm_Ml M) (mm_Mr M)) && decide (mm_Ml M ≤ 20) && decide (mm_Mk M = 0 → mm_Ms M = 0) && decide ((parseMethodDescriptor (mm_My M).desc).map (fun d => d.parameters.length) = some (mm_Mn M))
def mm_ckm (ms : List mm_M) (M : mm_M) : Bool := mm_ckh M && mm_cks ms (mm_My M) (mm_Mb M) (mm_Ml M) 0 (mm_Mc M)
theorem mm_ckm_of {ms : List mm_M} {M : mm_M} (h1 : mm_ckh M = true) (h2 : mm_cks ms (mm_My M) (mm_Mb M) (mm_Ml M) 0 ((mm_Mc M).drop 0) = true) : mm_ckm ms M = true := by
  rw [List.drop_zero] at h2
  simp only [mm_ckm, Bool.and_eq_true]
  exact ⟨h1, h2⟩
end
section
/-! ===== how the abstract machine's world lies in the heap ===== -/
def mm_GW : List Cond := mm_tbl.filter goodWord
theorem mm_at_in {p : Nat} {w : Cond} (h : mm_at p w = true) : w ∈ mm_GW := by
  simp only [mm_at, Bool.and_eq_true, decide_eq_true_eq] at h
  exact List.mem_filter.mpr ⟨mm_g_in h.1, h.2⟩
theorem mm_GW_g : GoodIn mm_GW mm_GW := fun w h => ⟨h, good_of_word (List.mem_filter.mp h).2⟩
def mm_cv (ad sad : Nat → Nat) : mm_V → Value
  | .inl x => .int x
  | .inr (.inl x) => .long x
  | .inr (.inr (.inl k)) => .ref (ad k)
  | .inr (.inr (.inr (.inl k))) => .ref (sad k)
  | .inr (.inr (.inr (.inr _))) => .null
theorem mm_cv_cat (ad sad : Nat → Nat) (v : mm_V) : (mm_cv ad sad v).category = mm_cat v := by
  rcases v with x | x | x | x | x <;> rfl
theorem mm_cs_cat (ad sad : Nat → Nat) (l : List mm_V) : ((l.map (mm_cv ad sad)).map fun v => v.category).sum = mm_cs l := by
  simp only [List.map_map, mm_cs]
  congr 1
  apply List.map_congr_left
  intro v _
  exact mm_cv_cat ad sad v
/-! locals -/
def mm_lv (ad sad : Nat → Nat) (ls : List (Option mm_V)) : List (Nat × Value) := ls.zipIdx.filterMap (fun q => q.1.map (fun v => (q.2, mm_cv ad sad v)))
theorem mm_lv_mem {ad sad : Nat → Nat} {ls : List (Option mm_V)} {q : Nat × Value} : q ∈ mm_lv ad sad ls ↔ ∃ v, ls[q.1]? = some (some v) ∧ q.2 = mm_cv ad sad v := by
  unfold mm_lv
  rw [List.mem_filterMap]
  constructor
  · rintro ⟨⟨o, i⟩, h1, h2⟩
    rw [List.mem_zipIdx_iff_getElem?] at h1
    cases o with
    | none => cases h2
    | some v =>
      cases h2
      exact ⟨v, h1, rfl⟩
  · rintro ⟨v, h1, h2⟩
    refine ⟨(some v, q.1), ?_, ?_⟩
    · rw [List.mem_zipIdx_iff_getElem?]
      exact h1
    · show some (q.1, mm_cv ad sad v) = some q
      rw [← h2]
def mm_Lr (ad sad : Nat → Nat) (nL : Nat) (ls : List (Option mm_V)) (la : Array Slot) : Prop := lv_has la nL (mm_lv ad sad ls)
theorem mm_getD {ls : List (Option mm_V)} {g : Nat} {v : mm_V} (h : ls.getD g none = some v) : ls[g]? = some (some v) := by
  rw [List.getD_eq_getElem?_getD] at h
  cases hq : ls[g]? with
  | none => rw [hq] at h; cases h
  | some o => rw [hq] at h; exact congrArg some h
theorem mm_Lr_at {ad sad : Nat → Nat} {nL g : Nat} {ls : List (Option mm_V)} {la : Array Slot} {v : mm_V} (h : mm_Lr ad sad nL ls la) (hg : ls.getD g none = some v) : la[g]? = some (.val (mm_cv ad sad v)) :=
  h.2.2 (g, mm_cv ad sad v) (mm_lv_mem.mpr ⟨v, mm_getD hg, rfl⟩)
theorem mm_lv_weak {la : Array Slot} {n : Nat} {l l' : List (Nat × Value)} (h : lv_has la n l') (hs : ∀ q ∈ l, q ∈ l') : lv_has la n l := ⟨h.1, h.2.1, fun q hq => h.2.2 q (hs q hq)⟩
theorem mm_kl_at {ls : List (Option mm_V)} {g i : Nat} {u : mm_V} (h : (mm_kl ls g)[i]? = some (some u)) : ls[i]? = some (some u) ∧ ¬ (i + 1 = g ∧ mm_cat u = 2) := by
  cases g with
  | zero => exact ⟨h, fun q => by omega⟩
  | succ j =>
    simp only [mm_kl] at h
    split at h
    · rename_i x hx
      by_cases e : i = j
      · subst e
        rw [List.getElem?_set] at h
        simp only [if_true] at h
        split at h <;> simp at h
      · rw [List.getElem?_set_ne (fun q => e q.symm)] at h
        exact ⟨h, fun q => by omega⟩
    · rename_i hx
      refine ⟨h, fun q => ?_⟩
      obtain ⟨q1, q2⟩ := q
      have e : i = j := by omega
      subst e
      rcases u with x | x | x | x | x <;> simp [mm_cat] at q2
      exact hx x (by rw [List.getD_eq_getElem?_getD, h]; rfl)
theorem mm_s1_lv (ad sad : Nat → Nat) (ls : List (Option mm_V)) (g : Nat) (v : mm_V) : ∀ q ∈ mm_lv ad sad (mm_s1 ls g v), q ∈ (g, mm_cv ad sad v) :: (mm_lv ad sad ls).filter (fun q => !(q.1 == g) && !(q.1 + 1 == g && q.2.category == 2)) := by
  intro q hq
  obtain ⟨u, h1, h2⟩ := mm_lv_mem.mp hq
  by_cases e : q.1 = g
  · unfold mm_s1 at h1
    rw [e, List.getElem?_set] at h1
    simp only [if_true] at h1
    split at h1
    · have h3 : v = u := by simpa using h1
      rw [List.mem_cons]
      left
      apply Prod.ext
      · exact e
      · rw [h2, h3]
    · cases h1
  · unfold mm_s1 at h1
    rw [List.getElem?_set_ne (fun z => e z.symm)] at h1
    obtain ⟨h3, h4⟩ := mm_kl_at h1
    refine List.mem_cons_of_mem _ (List.mem_filter.mpr ⟨mm_lv_mem.mpr ⟨u, h3, h2⟩, ?_⟩)
    rw [h2, mm_cv_cat]
    simp only [Bool.and_eq_true, Bool.not_eq_true', Bool.and_eq_false_iff, beq_eq_false_iff_ne]
    refine ⟨e, ?_⟩
    by_cases e2 : q.1 + 1 = g
    · right
      exact fun z => h4 ⟨e2, z⟩
    · left
      exact e2
theorem mm_s2_lv (ad sad : Nat → Nat) (ls : List (Option mm_V)) (g : Nat) (v : mm_V) : ∀ q ∈ mm_lv ad sad (mm_s2 ls g v), q ∈ (g, mm_cv ad sad v) :: (mm_lv ad sad ls).filter (fun q => !(q.1 == g) && (!(q.1 == g + 1) && !(q.1 + 1 == g && q.2.category == 2))) := by
  intro q hq
  obtain ⟨u, h1, h2⟩ := mm_lv_mem.mp hq
  by_cases e : q.1 = g
  · unfold mm_s2 at h1
    rw [e, List.getElem?_set] at h1
    simp only [if_true] at h1
    split at h1
    · have h3 : v = u := by simpa using h1
      rw [List.mem_cons]
      left
      apply Prod.ext
      · exact e
      · rw [h2, h3]
    · cases h1
  · unfold mm_s2 at h1
    rw [List.getElem?_set_ne (fun z => e z.symm)] at h1
    have e1 : q.1 ≠ g + 1 := by
      intro z
      rw [z, List.getElem?_set] at h1
      simp only [if_true] at h1
      split at h1 <;> simp at h1
    rw [List.getElem?_set_ne (fun z => e1 z.symm)] at h1
    obtain ⟨h3, h4⟩ := mm_kl_at h1
    refine List.mem_cons_of_mem _ (List.mem_filter.mpr ⟨mm_lv_mem.mpr ⟨u, h3, h2⟩, ?_⟩)
    rw [h2, mm_cv_cat]
    simp only [Bool.and_eq_true, Bool.not_eq_true', Bool.and_eq_false_iff, beq_eq_false_iff_ne]
    refine ⟨e, e1, ?_⟩
    by_cases e2 : q.1 + 1 = g
    · right
      exact fun z => h4 ⟨e2, z⟩
    · left
      exact e2
theorem mm_ar_len (ad sad : Nat → Nat) : ∀ As : List mm_V, (mm_ar As).length = (lg_sl (As.map (mm_cv ad sad))).length
  | [] => rfl
  | .inl x :: r => by
    show (mm_ar r).length + 1 = _
    rw [mm_ar_len ad sad r]
    simp [lg_sl, mm_cv, Value.category]
  | .inr (.inl x) :: r => by
    show (mm_ar r).length + 1 + 1 = _
    rw [mm_ar_len ad sad r]
    simp [lg_sl, mm_cv, Value.category]
  | .inr (.inr v) :: r => by
    show (mm_ar r).length + 1 = _
    rw [mm_ar_len ad sad r]
    rcases v with x | x | x <;> simp [lg_sl, mm_cv, Value.category]
theorem mm_ar_in (ad sad : Nat → Nat) : ∀ (As : List mm_V) (n i : Nat) (v : mm_V), (mm_ar As)[i]? = some (some v) → (n + i, mm_cv ad sad v) ∈ lv_args n (As.map (mm_cv ad sad))
  | [], _, i, v, h => by simp [mm_ar] at h
  | .inl x :: r, n, 0, v, h => by
    have e : v = .inl x := by simpa [mm_ar] using h.symm
    subst e
    simp [lv_args, mm_cv]
  | .inl x :: r, n, i + 1, v, h => by
    have h1 : (mm_ar r)[i]? = some (some v) := by simpa [mm_ar] using h
    have := mm_ar_in ad sad r (n + 1) i v h1
    rw [show n + (i + 1) = n + 1 + i by omega]
    simp [lv_args, mm_cv, Value.category]
    exact Or.inr this
  | .inr (.inl x) :: r, n, 0, v, h => by
    have e : v = .inr (.inl x) := by simpa [mm_ar] using h.symm
    subst e
    simp [lv_args, mm_cv]
  | .inr (.inl x) :: r, n, 1, v, h => by simp [mm_ar] at h
  | .inr (.inl x) :: r, n, i + 2, v, h => by
    have h1 : (mm_ar r)[i]? = some (some v) := by simpa [mm_ar] using h
    have := mm_ar_in ad sad r (n + 2) i v h1
    rw [show n + (i + 2) = n + 2 + i by omega]
    simp [lv_args, mm_cv, Value.category]
    exact Or.inr this
  | .inr (.inr y) :: r, n, 0, v, h => by
    have e : v = .inr (.inr y) := by simpa [mm_ar] using h.symm
    subst e
    simp [lv_args]
  | .inr (.inr y) :: r, n, i + 1, v, h => by
    have h1 : (mm_ar r)[i]? = some (some v) := by simpa [mm_ar] using h
    have := mm_ar_in ad sad r (n + 1) i v h1
    rw [show n + (i + 1) = n + 1 + i by omega]
    have hc : (mm_cv ad sad (.inr (.inr y))).category ≠ 2 := by
      rw [mm_cv_cat]
      simp [mm_cat]
    simp [lv_args, hc]
    exact Or.inr this
theorem mm_ini_lv (ad sad : Nat → Nat) (As : List mm_V) (nL : Nat) : ∀ q ∈ mm_lv ad sad (mm_ini nL As), q ∈ lv_args 0 (As.map (mm_cv ad sad)) := by
  intro q hq
  obtain ⟨v, h1, h2⟩ := mm_lv_mem.mp hq
  unfold mm_ini at h1
  have hl : (mm_ar As)[q.1]? = some (some v) := by
    by_cases hi : q.1 < (mm_ar As).length
    · rwa [List.getElem?_append_left hi] at h1
    · rw [List.getElem?_append_right (by omega)] at h1
      have := List.eq_of_mem_replicate (List.mem_of_getElem? h1)
      cases this
  have := mm_ar_in ad sad As 0 q.1 v hl
  rw [Nat.zero_add, ← h2] at this
  exact this
theorem mm_sp_e : ∀ (n : Nat) (acc st As rest : List mm_V), mm_sp n acc st = some (As, rest) → ∃ l : List mm_V, st = l ++ rest ∧ As = l.reverse ++ acc ∧ l.length = n
  | 0, acc, st, As, rest, h => by
    simp only [mm_sp, Option.some.injEq, Prod.mk.injEq] at h
    exact ⟨[], h.2, h.1.symm, rfl⟩
  | n + 1, acc, [], As, rest, h => by simp [mm_sp] at h
  | n + 1, acc, v :: r, As, rest, h => by
    obtain ⟨l, h1, h2, h3⟩ := mm_sp_e n (v :: acc) r As rest h
    refine ⟨v :: l, by rw [h1]; rfl, by rw [h2]; simp, by simp [h3]⟩
theorem mm_sp_st {n : Nat} {st As rest : List mm_V} (h : mm_sp n [] st = some (As, rest)) : st = As.reverse ++ rest ∧ As.length = n := by
  obtain ⟨l, h1, h2, h3⟩ := mm_sp_e n [] st As rest h
  rw [List.append_nil] at h2
  exact ⟨by rw [h1, h2, List.reverse_reverse], by rw [h2, List.length_reverse, h3]⟩
/-! cells -/
def mm_fv (ad : Nat → Nat) (x : Int32) : Option (Option Nat) → Value
  | none => .int x
  | some none => .null
  | some (some k) => .ref (ad k)
def mm_ce (ad : Nat → Nat) (ca : Nat → ClassId) (w : mm_W) (k : Nat) : mm_C → va_E
  | .inl (ci, fs) => .inr (ci, fs.mapIdx (fun j o => mm_fv ad (w.2.1 k j) o))
  | .inr (.inl (1, n)) => .inl (ca k, n, .inr (.inl (w.2.2 k)))
  | .inr (.inl (_, n)) => .inl (ca k, n, .inl (w.2.1 k))
  | .inr (.inr (_, n, b)) => .inl (ca k, n, .inr (.inr (.inr (.inr (fun i => if i < n then some (ad (b + i)) else none)))))
def mm_ws (ad : Nat → Nat) (ca : Nat → ClassId) (w : mm_W) : va_W := w.1.mapIdx (fun k c => (ad k, mm_ce ad ca w k c))
theorem mm_ws_at {ad : Nat → Nat} {ca : Nat → ClassId} {w : mm_W} {k : Nat} {c : mm_C} (h : w.1[k]? = some c) : (mm_ws ad ca w)[k]? = some (ad k, mm_ce ad ca w k c) := by
  unfold mm_ws
  rw [List.getElem?_mapIdx, h]
  rfl
theorem mm_ws_set {ad : Nat → Nat} {ca : Nat → ClassId} {w w' : mm_W} {k : Nat} {c c' : mm_C} {x : va_E} (hk : w.1[k]? = some c) (hl : w'.1 = w.1.set k c') (hx : mm_ce ad ca w' k c' = x) (ho : ∀ (j : Nat) (cj : mm_C), j ≠ k → mm_ce ad ca w' j cj = mm_ce ad ca w j cj) : (mm_ws ad ca w).set k (ad k, x) = mm_ws ad ca w' := by
  apply List.ext_getElem?
  intro j
  have hlt := (List.getElem?_eq_some_iff.mp hk).1
  unfold mm_ws
  rw [List.getElem?_mapIdx, hl]
  by_cases e : j = k
  · subst e
    rw [List.getElem?_set_self (by rw [List.length_mapIdx]; exact hlt), List.getElem?_set_self hlt]
    simp [hx]
  · rw [List.getElem?_set_ne (fun z => e z.symm), List.getElem?_set_ne (fun z => e z.symm), List.getElem?_mapIdx]
    cases w.1[j]? with
    | none => rfl
    | some cj => simp [ho j cj e]
def mm_ct (ca : Nat → ClassId) (tys : List (ClassId × FieldType)) (k : Nat) : mm_C → Prop
  | .inl _ => True
  | .inr (.inl (t, _)) => (ca k, mm_ty t) ∈ tys
  | .inr (.inr (t, _, _)) => (ca k, .array (mm_ty t)) ∈ tys
def mm_H (D : va_G) (B0 : Nat) (ad : Nat → Nat) (w : mm_W) (s : State) (H : Heap) : Prop := ∃ (ca : Nat → ClassId) (tys : List (ClassId × FieldType)), va_K D mm_cl tys s ∧ va_P D mm_cl (mm_ws ad ca w) H ∧ va_D (fun q => B0 ≤ q) (mm_ws ad ca w) ∧ ∀ (k : Nat) (c : mm_C), w.1[k]? = some c → mm_ct ca tys k c
theorem mm_H.moved {D : va_G} {B0 : Nat} {ad : Nat → Nat} {w : mm_W} {s U : State} {H : Heap} (hvm : s.vm.Alike U.vm) (h : mm_H D B0 ad w s H) : mm_H D B0 ad w U H := by
  obtain ⟨ca, tys, h1, h2, h3, h4⟩ := h
  exact ⟨ca, tys, h1.moved hvm, h2, h3, h4⟩
/-! what nobody writes: static rows, words that are carried -/
def mm_Tb (tb : mm_T) (sad : Nat → Nat) (B0 : Nat) (U : State) (H : Heap) (j : Nat) : Prop := match tb j with
  | (n, .inl f) => va_T .int (sad j) n (fun i => .int (f i)) (fun q => B0 ≤ q) U H
  | (n, .inr f) => va_T .long (sad j) n (fun i => .long (f i)) (fun q => B0 ≤ q) U H
def mm_Sx (tb : mm_T) (sad : Nat → Nat) (B0 : Nat) (U : State) (H : Heap) : Prop := (∀ j, mm_Tb tb sad B0 U H j) ∧ (∀ (j : Nat) (C n d : String), mm_sn j = some (C, n, d) → va_Z C n d (.ref (sad j)) (fun q => B0 ≤ q) U H) ∧ ∀ (p : Nat) (w : Cond), mm_az p w = true → va_Nw w U
theorem mm_AOA_moved {t : FieldType} {u U : State} (hvm : u.vm.Alike U.vm) (h : va_Nw (.arrayOver (.array t)) u) : va_Nw (.arrayOver (.array t)) U := by
  obtain ⟨comp, c, k, h1, h2, h3, h4, h5⟩ := arrayOverA_spec h
  obtain ⟨k', hk', he⟩ := hvm.2.2 _ _ h3
  have hb : U.vm.bare = u.vm.bare := by first | exact hvm.bare_eq.symm | exact hvm.bare_eq
  have hi := (va_idx_bare U.vm comp).symm.trans ((congrArg (fun v : Vm => v.classes.findIdx? _) hb).trans ((va_idx_bare u.vm comp).trans h2))
  have hkind : k'.kind = .array comp (.array t) := by rw [he]; exact h4
  have f1 : U.vm.findClass (FieldType.array t).toString = some comp := by rw [hvm.findClass]; exact h1
  have f2 : U.vm.findClass ("[" ++ (FieldType.array t).toString) = some c := by rw [hvm.findClass]; exact h5
  unfold va_Nw Cond.before Cond.holds
  simp only [Cond.value]
  rw [f1, Option.bind_some]
  refine (congrArg (fun o : Option Nat => (o.bind (fun c => (U.vm.classes[c]?).map fun (k : Class) => match k.kind with | .array _ ty => decide (ty = FieldType.array t) && decide (U.vm.findClass ("[" ++ (FieldType.array t).toString) = some c) | _ => false) == some true)) hi).trans ?_
  simp [hk', hkind, f2]
theorem mm_nz_moved {w : Cond} {s U : State} (hW : s.WarmedH U.vm) (hw : mm_nzk w = true) (h : va_Nw w s) : va_Nw w U := by
  unfold mm_nzk at hw
  split at hw
  · exact va_Nw.warmM hW h
  · exact va_Nw.warmD hW h
  · exact mm_AOA_moved hW.alike h
  · cases hw
theorem mm_Sx.moved {tb : mm_T} {sad : Nat → Nat} {B0 : Nat} {s U : State} {H : Heap} {locs : List Loc} (h : mm_Sx tb sad B0 s s.heap) (hS : va_S (fun q => B0 ≤ q) s.heap H locs) (hU : U.heap = H) (hW : s.WarmedH U.vm) : mm_Sx tb sad B0 U U.heap := by
  obtain ⟨h1, h2, h3⟩ := h
  have hk : ∀ a : Nat, a < s.heap.size → ¬ B0 ≤ a → U.heap[a]? = s.heap[a]? := fun a ha hb => by rw [hU]; exact hS.2.1 a ha hb
  refine ⟨fun j => ?_, fun j C n d hj => ((h2 j C n d hj).moved hW.alike).kept hk, fun p w hw => ?_⟩
  · have := h1 j
    unfold mm_Tb at this ⊢
    split
    · rename_i n f e
      rw [e] at this
      exact (va_T.moved hW.alike this).kept hk
    · rename_i n f e
      rw [e] at this
      exact (va_T.moved hW.alike this).kept hk
  · have hz : mm_nzk w = true := by
      simp only [mm_az, Bool.and_eq_true] at hw
      exact hw.2
    exact mm_nz_moved hW hz (h3 p w hw)
end
section
/-! ===== what a step of the abstract machine says of the machine ===== -/
abbrev mm_A (B0 : Nat) : Nat → Prop := fun q => B0 ≤ q
def mm_Ok (D : va_G) (B0 : Nat) (sad : Nat → Nat) (n0 : Nat) (ad0 : Nat → Nat) (lim : Nat × Nat) (R : Room) (s : State) (nL : Nat) (ad : Nat → Nat) (H : Heap) (locs : List Loc) (cells slots : Nat) (la : Array Slot) (ls : List (Option mm_V)) (w : mm_W) : Prop :=
  (∀ k, k < n0 ∨ w.1.length ≤ k → ad k = ad0 k) ∧ n0 ≤ w.1.length ∧ w.1.length ≤ lim.1 ∧ mm_sl w.1 ≤ lim.2 ∧ mm_H D B0 ad w s H ∧ va_S (mm_A B0) s.heap H locs ∧ mm_Lr ad sad nL ls la ∧ cells + (lim.1 - w.1.length) ≤ R.cells ∧ slots + (lim.2 - mm_sl w.1) ≤ R.slots
section MMS
variable {p : Program} {l : Launch} {e : Env} {R : Room} {s : State} {m : MethodId} {args : Array Value} {below : List Frame} {meth : Method} {c : Code} {Qf : State → Prop}
variable {D : va_G} {B0 : Nat} {sad : Nat → Nat} {n0 : Nat} {ad0 : Nat → Nat} {lim : Nat × Nat} {M : mm_M} {ms : List mm_M} {tb : mm_T} {call : mm_F} {Q : Option mm_V → mm_W → Prop}
def mm_Rel (p : Program) (l : Launch) (e : Env) (R : Room) (s : State) (m : MethodId) (args : Array Value) (below : List Frame) (meth : Method) (c : Code) (Qf : State → Prop) (D : va_G) (B0 : Nat) (sad : Nat → Nat) (n0 : Nat) (ad0 : Nat → Nat) (lim : Nat × Nat) (nL : Nat) : mm_K := fun pc ls st w =>
  ∀ (ad : Nat → Nat) (H : Heap) (locs : List Loc) (cells slots : Nat) (la : Array Slot), mm_Ok D B0 sad n0 ad0 lim R s nL ad H locs cells slots la ls w → W p l e R s m args below meth c H locs cells slots Qf (F0 m pc la (st.map (mm_cv ad sad)))
/-- a return: what is asked of the frame around -/
def mm_rti (M : mm_M) (pc : Nat) (o : Option mm_V) : Prop := match o with
  | some (.inl x) => decode (mm_Mb M) pc = .ok (.ireturn, 1) ∧ (mm_Mr M = some .int ∨ (mm_Mr M = some .boolean ∧ (x = 0 ∨ x = 1)))
  | some (.inr (.inl _)) => decode (mm_Mb M) pc = .ok (.lreturn, 1) ∧ mm_Mr M = some .long
  | none => decode (mm_Mb M) pc = .ok (.return_, 1) ∧ mm_Mr M = none
  | _ => False
/-! elimination of the ops -/
theorem mm_oI_e {o : Option mm_V} {k : Int32 → Prop} (h : mm_oI o k) : ∃ x, o = some (.inl x) ∧ k x := by
  unfold mm_oI at h
  split at h
  · exact ⟨_, rfl, h⟩
  · exact h.elim
theorem mm_oL_e {o : Option mm_V} {k : Int64 → Prop} (h : mm_oL o k) : ∃ x, o = some (.inr (.inl x)) ∧ k x := by
  unfold mm_oL at h
  split at h
  · exact ⟨_, rfl, h⟩
  · exact h.elim
theorem mm_oA_e {o : Option mm_V} {k : mm_V → Prop} (h : mm_oA o k) : ∃ v, o = some (.inr (.inr v)) ∧ k (.inr (.inr v)) := by
  unfold mm_oA at h
  split at h
  · exact ⟨_, rfl, h⟩
  · exact h.elim
theorem mm_1i_e {st : List mm_V} {k : Int32 → List mm_V → Prop} (h : mm_1i st k) : ∃ x r, st = .inl x :: r ∧ k x r := by
  unfold mm_1i at h
  split at h
  · exact ⟨_, _, rfl, h⟩
  · exact h.elim
theorem mm_1l_e {st : List mm_V} {k : Int64 → List mm_V → Prop} (h : mm_1l st k) : ∃ x r, st = .inr (.inl x) :: r ∧ k x r := by
  unfold mm_1l at h
  split at h
  · exact ⟨_, _, rfl, h⟩
  · exact h.elim
theorem mm_1r_e {st : List mm_V} {k : Nat → List mm_V → Prop} (h : mm_1r st k) : ∃ x r, st = .inr (.inr (.inl x)) :: r ∧ k x r := by
  unfold mm_1r at h
  split at h
  · exact ⟨_, _, rfl, h⟩
  · exact h.elim
theorem mm_1c_e {st : List mm_V} {k : mm_V → List mm_V → Prop} (h : mm_1c st k) : ∃ v r, st = v :: r ∧ mm_cat v = 1 ∧ k v r := by
  unfold mm_1c at h
  split at h
  · exact ⟨_, _, rfl, rfl, h⟩
  · exact ⟨_, _, rfl, rfl, h⟩
  · exact h.elim
theorem mm_2i_e {st : List mm_V} {k : Int32 → Int32 → List mm_V → Prop} (h : mm_2i st k) : ∃ x y r, st = .inl y :: .inl x :: r ∧ k x y r := by
  unfold mm_2i at h
  split at h
  · exact ⟨_, _, _, rfl, h⟩
  · exact h.elim
theorem mm_2l_e {st : List mm_V} {k : Int64 → Int64 → List mm_V → Prop} (h : mm_2l st k) : ∃ x y r, st = .inr (.inl y) :: .inr (.inl x) :: r ∧ k x y r := by
  unfold mm_2l at h
  split at h
  · exact ⟨_, _, _, rfl, h⟩
  · exact h.elim
theorem mm_t1_e {ax : List (Nat × Nat)} {k : Nat → Prop} (h : mm_t1 ax k) : ∃ a t r, ax = (a, t) :: r ∧ k t := by
  unfold mm_t1 at h
  split at h
  · exact ⟨_, _, _, rfl, h⟩
  · exact h.elim
theorem mm_cas_e {x : Int32} {k : Nat → Prop} {ax : List (Nat × Nat)} (h : mm_cas x k ax) : ∃ a d ts, ax = (a, d) :: ts ∧ mm_sw x k ts ∧ mm_df x (k d) ts := by
  unfold mm_cas at h
  split at h
  · exact ⟨_, _, _, rfl, h⟩
  · exact h.elim
theorem mm_vcat {ad sad : Nat → Nat} {v : mm_V} (h : mm_cat v = 1) : (mm_cv ad sad v).category = 1 := by rw [mm_cv_cat, h]
/-- switches -/
theorem mm_sw_t {x : Int32} {k : Nat → Prop} {pc : Nat} : ∀ (os : List Int) (ts : List (Nat × Nat)) (lo : Int) (j : Nat) (o : Int), mm_ckt pc lo os ts = true → mm_sw x k ts → os[j]? = some o → x.toInt = lo + j → ∃ t : Nat, (pc : Int) + o = (t : Int) ∧ k t
  | [], ts, lo, j, o, _, _, ho, _ => by simp at ho
  | o1 :: os, [], lo, j, o, hc, _, _, _ => by simp [mm_ckt] at hc
  | o1 :: os, (a, t) :: ts, lo, 0, o, hc, hs, ho, hx => by
    simp only [mm_ckt, Bool.and_eq_true, decide_eq_true_eq] at hc
    obtain ⟨⟨⟨h1, h2⟩, h3⟩, -⟩ := hc
    have e : o1 = o := by simpa using ho
    subst e
    refine ⟨t, h3, hs.1 ?_⟩
    apply Int32.toInt_inj.mp
    rw [nI_toInt h2, hx, h1]
    simp
  | o1 :: os, (a, t) :: ts, lo, j + 1, o, hc, hs, ho, hx => by
    simp only [mm_ckt, Bool.and_eq_true] at hc
    refine mm_sw_t os ts (lo + 1) j o hc.2 hs.2 (by simpa using ho) ?_
    rw [hx]
    push_cast
    omega
theorem mm_df_t {x : Int32} {P : Prop} {pc : Nat} : ∀ (os : List Int) (ts : List (Nat × Nat)) (lo : Int), mm_ckt pc lo os ts = true → mm_df x P ts → (x.toInt < lo ∨ lo + os.length ≤ x.toInt) → P
  | [], [], lo, _, h, _ => h
  | [], _ :: _, lo, hc, _, _ => by simp [mm_ckt] at hc
  | _ :: _, [], lo, hc, _, _ => by simp [mm_ckt] at hc
  | o1 :: os, (a, t) :: ts, lo, hc, h, hx => by
    simp only [mm_ckt, Bool.and_eq_true, decide_eq_true_eq] at hc
    obtain ⟨⟨⟨h1, h2⟩, h3⟩, h4⟩ := hc
    refine mm_df_t os ts (lo + 1) h4 (h ?_) ?_
    · intro q
      rw [q, nI_toInt h2] at hx
      simp only [List.length_cons] at hx
      omega
    · simp only [List.length_cons] at hx
      rcases hx with hx | hx
      · left; omega
      · right; push_cast at hx; omega
theorem mm_lk {x : Int32} {k : Nat → Prop} {pc d : Nat} {dflt : Int} (hd : (pc : Int) + dflt = (d : Int)) : ∀ (os : List (Int × Int)) (ts : List (Nat × Nat)), mm_ckl pc os ts = true → mm_sw x k ts → mm_df x (k d) ts → ∃ t : Nat, (pc : Int) + Op.lookupswitch.offset os dflt x.toInt = (t : Int) ∧ k t
  | [], [], _, _, h => ⟨d, by simpa [Op.lookupswitch.offset] using hd, h⟩
  | [], _ :: _, hc, _, _ => by simp [mm_ckl] at hc
  | _ :: _, [], hc, _, _ => by simp [mm_ckl] at hc
  | (b, o) :: os, (a, t) :: ts, hc, hs, hf => by
    simp only [mm_ckl, Bool.and_eq_true, decide_eq_true_eq] at hc
    obtain ⟨⟨⟨h1, h2⟩, h3⟩, h4⟩ := hc
    rw [Op.lookupswitch.offset_cons]
    by_cases q : x = nI a
    · refine ⟨t, ?_, hs.1 q⟩
      rw [if_pos (by rw [q, nI_toInt h2, h1])]
      exact h3
    · rw [if_neg (fun z => q (Int32.toInt_inj.mp (by rw [nI_toInt h2, h1]; exact z.symm)))]
      exact mm_lk hd os ts h4 hs.2 (hf q)
/-! the classes -/
theorem mm_cls {ci : Nat} {q : vw_C} (h : mm_cl[ci]? = some q) : (∀ k, k < q.2.2 → parseFieldDescriptor (q.2.1 k).2.2.1 = some (mm_tys ci k)) ∧ (∀ a, a < q.2.2 → ∀ b, b < q.2.2 → a ≠ b → (q.2.1 a).2.1 ≠ (q.2.1 b).2.1) ∧ q.2.2 = mm_cn ci := by
  match ci, h with
  | 0, h => cases h; exact ⟨tyX0_ok, nmX0, rfl⟩
  | 1, h => cases h; exact ⟨tyX1_ok, nmX1, rfl⟩
  | 2, h => cases h; exact ⟨tyX2_ok, nmX2, rfl⟩
  | 3, h => cases h; exact ⟨tyX3_ok, nmX3, rfl⟩
  | 4, h => cases h; exact ⟨tyX4_ok, nmX4, rfl⟩
  | 5, h => cases h; exact ⟨tyX5_ok, nmX5, rfl⟩
  | 6, h => cases h; exact ⟨tyX7_ok, nmX7, rfl⟩
  | 7, h => cases h; exact ⟨tyX8_ok, nmX8, rfl⟩
  | 8, h => cases h; exact ⟨tyX9_ok, nmX9, rfl⟩
  | 9, h => cases h; exact ⟨tyX11_ok, nmX11, rfl⟩
  | 10, h => cases h; exact ⟨tyX12_ok, nmX12, rfl⟩
  | k + 11, h => simp [mm_cl] at h
/-! frames of the ops that leave the world -/
theorem mm_Ok.st1 {nL : Nat} {ad : Nat → Nat} {H : Heap} {locs : List Loc} {cells slots : Nat} {la la' : Array Slot} {ls ls' : List (Option mm_V)} {w : mm_W} (O : mm_Ok D B0 sad n0 ad0 lim R s nL ad H locs cells slots la ls w) (h : mm_Lr ad sad nL ls' la') : mm_Ok D B0 sad n0 ad0 lim R s nL ad H locs cells slots la' ls' w := by
  obtain ⟨h1, h2, h3, h4, h5, h6, h7, h8, h9⟩ := O
  exact ⟨h1, h2, h3, h4, h5, h6, h, h8, h9⟩
/-- a write in the world: cells stay as many -/
theorem mm_Ok.wr {nL : Nat} {ad : Nat → Nat} {H H1 : Heap} {locs locs1 : List Loc} {cells slots : Nat} {la : Array Slot} {ls : List (Option mm_V)} {w w' : mm_W} (O : mm_Ok D B0 sad n0 ad0 lim R s nL ad H locs cells slots la ls w) (hl : w'.1.length = w.1.length) (hs : mm_sl w'.1 = mm_sl w.1) (hH : mm_H D B0 ad w' s H1) (hS : va_S (mm_A B0) s.heap H1 locs1) : mm_Ok D B0 sad n0 ad0 lim R s nL ad H1 locs1 cells slots la ls w' := by
  obtain ⟨h1, h2, h3, h4, h5, h6, h7, h8, h9⟩ := O
  unfold mm_Ok
  rw [hl, hs]
  exact ⟨h1, h2, h3, h4, hH, hS, h7, h8, h9⟩
theorem mm_sl_set {l : List mm_C} {k : Nat} {c c' : mm_C} (h : l[k]? = some c) (hc : mm_c1 c' = mm_c1 c) : mm_sl (l.set k c') = mm_sl l := by
  unfold mm_sl
  congr 1
  rw [List.map_set, hc]
  apply List.ext_getElem?
  intro i
  by_cases e : i = k
  · subst e
    have hlt := (List.getElem?_eq_some_iff.mp h).1
    rw [List.getElem?_set_self (by rw [List.length_map]; exact hlt), List.getElem?_map, h]
    rfl
  · rw [List.getElem?_set_ne (fun z => e z.symm)]
theorem mm_u_ne {α : Type} {f : Nat → Nat → α} {k i j : Nat} {x : α} (h : j ≠ k) : mm_u f k i x j = f j := by
  funext b
  simp [mm_u, h]
theorem mm_u_eq {f : Nat → Nat → Int32} {k i : Nat} {x : Int32} : mm_u f k i x k = upd (f k) i x := by
  funext b
  simp [mm_u, upd]
theorem mm_u_eqL {f : Nat → Nat → Int64} {k i : Nat} {x : Int64} : mm_u f k i x k = vp_updL (f k) i x := by
  funext b
  simp [mm_u, vp_updL]
theorem mm_ct_same {ca : Nat → ClassId} {tys : List (ClassId × FieldType)} {l : List mm_C} {k : Nat} {c c' : mm_C} (hct : ∀ (k : Nat) (c : mm_C), l[k]? = some c → mm_ct ca tys k c) (hk : l[k]? = some c) (h : mm_ct ca tys k c → mm_ct ca tys k c') : ∀ (j : Nat) (cj : mm_C), (l.set k c')[j]? = some cj → mm_ct ca tys j cj := by
  intro j cj hj
  by_cases e : j = k
  · subst e
    rw [List.getElem?_set_self (List.getElem?_eq_some_iff.mp hk).1] at hj
    cases hj
    exact h (hct _ _ hk)
  · rw [List.getElem?_set_ne (fun z => e z.symm)] at hj
    exact hct j cj hj
end MMS
end
section
/-! ===== ops that read and write the world ===== -/
section MMM
variable {p : Program} {l : Launch} {e : Env} {R : Room} {s : State} {m : MethodId} {args : Array Value} {below : List Frame} {meth : Method} {c : Code} {Qf : State → Prop}
variable {D : va_G} {B0 : Nat} {sad : Nat → Nat} {n0 : Nat} {ad0 : Nat → Nat} {lim : Nat × Nat} {M : mm_M} {ms : List mm_M} {tb : mm_T} {call : mm_F} {Q : Option mm_V → mm_W → Prop}
variable {nL : Nat} {ad : Nat → Nat} {H : Heap} {locs : List Loc} {cells slots : Nat} {la : Array Slot} {ls : List (Option mm_V)} {w : mm_W}
theorem mm_hb (hB : B0 ≤ s.heap.size) : ∀ q, s.heap.size ≤ q → mm_A B0 q := fun _ h => Nat.le_trans hB h
theorem mm_fi_in : ∀ {ax : List (Nat × Nat)} {ci j : Nat}, mm_fi ax ci = some j → (ci, j) ∈ ax
  | [], _, _, h => by simp [mm_fi] at h
  | (a, b) :: r, ci, j, h => by
    unfold mm_fi at h
    split at h
    · rename_i q
      cases h
      rw [q]
      exact List.mem_cons_self
    · exact List.mem_cons_of_mem _ (mm_fi_in h)
theorem mm_get (hx : p.tables.exec = Jvm.exec) (hb : c.code = mm_Mb M) (hown : s.vm.findClass (mm_My M).cls = some m.cls) (hts : ∀ w ∈ mm_GW, w.before args s = true) (hcw : ∀ (ci : Nat) (q : vw_C), mm_cl[ci]? = some q → ∀ w ∈ u_ws q.1 q.2.1 q.2.2, w ∈ mm_GW)
    {pc idx r : Nat} {ax : List (Nat × Nat)} {ps : List Nat} {st : List mm_V} {K : mm_V → Prop} (hd : decode (mm_Mb M) pc = .ok (.getfield idx, 3)) (hck : ax.all (mm_ckf (mm_My M) idx ps) = true) (hg : mm_gf w ax r K) (hH : mm_H D B0 ad w s H)
    (hk : ∀ v, K v → W p l e R s m args below meth c H locs cells slots Qf (F0 m (pc + 3) la ((v :: st).map (mm_cv ad sad)))) : W p l e R s m args below meth c H locs cells slots Qf (F0 m pc la ((mm_R r :: st).map (mm_cv ad sad))) := by
  obtain ⟨ca, tys, hK, hP, hD, hct⟩ := hH
  unfold mm_gf at hg
  split at hg
  · rename_i ci fs hr
    split at hg
    · rename_i j hj
      have hq := List.all_eq_true.mp hck _ (mm_fi_in hj)
      unfold mm_ckf at hq
      split at hq
      · rename_i C T N hC
        simp only [Bool.and_eq_true, decide_eq_true_eq] at hq
        obtain ⟨hjN, hq⟩ := hq
        have hws := mm_ws_at (ad := ad) (ca := ca) hr
        have key : ∀ (v : mm_V) (o : Option (Option Nat)), fs[j]? = some o → mm_fv ad (w.2.1 r j) o = mm_cv ad sad v → K v → W p l e R s m args below meth c H locs cells slots Qf (F0 m pc la ((mm_R r :: st).map (mm_cv ad sad))) := by
          intro v o ho hv hKv
          have hkv := hk v hKv
          have hfv : (fs.mapIdx (fun j o => mm_fv ad (w.2.1 r j) o))[j]? = some (mm_cv ad sad v) := by
            rw [List.getElem?_mapIdx, ho]
            exact congrArg some hv
          split at hq
          · exact va_get (D := D) (C := C) (T := T) (N := N) (ref := (T j).1) hx hb hts (hcw ci _ hC) hown hK hP r hws hC j hjN (hts _ (mm_at_in hq)) (fun _ h => h) hfv hd hkv
          · simp only [Bool.and_eq_true] at hq
            exact va_get (D := D) (C := C) (T := T) (N := N) (ref := (mm_My M).cls) hx hb hts (hcw ci _ hC) hown hK hP r hws hC j hjN (hts _ (mm_at_in hq.1)) (fun x h => u_same (hts _ (mm_at_in hq.2)) x h) hfv hd hkv
          · cases hq
        split at hg
        · rename_i ho
          exact key _ _ ho rfl hg
        · rename_i ho
          exact key _ _ ho rfl hg
        · rename_i a ho
          exact key _ _ ho rfl hg
        · exact hg.elim
      · cases hq
    · exact hg.elim
  · exact hg.elim
theorem mm_fv_int {ty : FieldType} {v : Value} (hi : ty = .int) (x : Int32) (hv : v = .int x) : narrow ty v = v ∧ fits ty v = true := by
  subst hi
  subst hv
  exact ⟨rfl, rfl⟩
theorem mm_fv_ref {ty : FieldType} (hi : mm_rfT ty = true) (a : Nat) : narrow ty (.ref a) = .ref a ∧ fits ty (.ref a) = true := by
  cases ty <;> first | exact ⟨rfl, rfl⟩ | (simp [mm_rfT] at hi)
theorem mm_set_same {l : List mm_C} {r : Nat} {c : mm_C} (h : l[r]? = some c) : l = l.set r c := by
  apply List.ext_getElem?
  intro i
  by_cases e : i = r
  · subst e
    rw [List.getElem?_set_self (List.getElem?_eq_some_iff.mp h).1, h]
  · rw [List.getElem?_set_ne (fun z => e z.symm)]
theorem mm_ce_i {ca : Nat → ClassId} {w : mm_W} {k : Nat} {lx : List mm_C} {f : Nat → Nat → Int32} (h : f k = w.2.1 k) (ck : mm_C) : mm_ce ad ca (lx, f, w.2.2) k ck = mm_ce ad ca w k ck := by
  unfold mm_ce
  rw [show ((lx, f, w.2.2) : mm_W).2.1 k = w.2.1 k from h]
theorem mm_ce_l {ca : Nat → ClassId} {w : mm_W} {k : Nat} {lx : List mm_C} {f : Nat → Nat → Int64} (h : f k = w.2.2 k) (ck : mm_C) : mm_ce ad ca (lx, w.2.1, f) k ck = mm_ce ad ca w k ck := by
  unfold mm_ce
  rw [show ((lx, w.2.1, f) : mm_W).2.2 k = w.2.2 k from h]
theorem mm_ce_ne {ca : Nat → ClassId} {w' : mm_W} {k : Nat} (h1 : w'.2.1 k = w.2.1 k) (h2 : w'.2.2 k = w.2.2 k) (ck : mm_C) : mm_ce ad ca w' k ck = mm_ce ad ca w k ck := by
  unfold mm_ce
  rw [h1, h2]
theorem mm_map_u {fs : List (Option (Option Nat))} {f : Nat → Nat → Int32} {r j : Nat} {x : Int32} (ho : fs[j]? = some none) : fs.mapIdx (fun i o => mm_fv ad (mm_u f r j x r i) o) = (fs.mapIdx (fun i o => mm_fv ad (f r i) o)).set j (.int x) := by
  apply List.ext_getElem?
  intro i
  have hjl := (List.getElem?_eq_some_iff.mp ho).1
  by_cases e : i = j
  · subst e
    rw [List.getElem?_set_self (by rw [List.length_mapIdx]; exact hjl), List.getElem?_mapIdx, ho]
    simp [mm_fv, mm_u]
  · rw [List.getElem?_set_ne (fun z => e z.symm), List.getElem?_mapIdx, List.getElem?_mapIdx]
    simp [mm_u, e]
theorem mm_map_s {fs : List (Option (Option Nat))} {f : Nat → Int32} {j a : Nat} (hjl : j < fs.length) : (fs.set j (some (some a))).mapIdx (fun i o => mm_fv ad (f i) o) = (fs.mapIdx (fun i o => mm_fv ad (f i) o)).set j (.ref (ad a)) := by
  apply List.ext_getElem?
  intro i
  by_cases e : i = j
  · subst e
    rw [List.getElem?_set_self (by rw [List.length_mapIdx]; exact hjl), List.getElem?_mapIdx, List.getElem?_set_self hjl]
    rfl
  · rw [List.getElem?_set_ne (fun z => e z.symm), List.getElem?_mapIdx, List.getElem?_mapIdx, List.getElem?_set_ne (fun z => e z.symm)]
theorem mm_put (hx : p.tables.exec = Jvm.exec) (hb : c.code = mm_Mb M) (hown : s.vm.findClass (mm_My M).cls = some m.cls) (hts : ∀ w ∈ mm_GW, w.before args s = true) (hcw : ∀ (ci : Nat) (q : vw_C), mm_cl[ci]? = some q → ∀ w ∈ u_ws q.1 q.2.1 q.2.2, w ∈ mm_GW) (hinit : (mm_My M).name = "<init>" → meth.name = "<init>")
    {pc idx g r : Nat} {v : mm_V} {ax : List (Nat × Nat)} {ps : List Nat} {st : List mm_V} {K : mm_W → Prop} (hd : decode (mm_Mb M) pc = .ok (.putfield idx, 3)) (hck : ax.all (fun q => mm_ckf (mm_My M) idx ps q && mm_ckp (mm_My M) g q) = true) (hg : mm_pf w ax g r v K) (O : mm_Ok D B0 sad n0 ad0 lim R s nL ad H locs cells slots la ls w)
    (hk : ∀ w' H1 locs1, K w' → mm_Ok D B0 sad n0 ad0 lim R s nL ad H1 locs1 cells slots la ls w' → W p l e R s m args below meth c H1 locs1 cells slots Qf (F0 m (pc + 3) la (st.map (mm_cv ad sad)))) : W p l e R s m args below meth c H locs cells slots Qf (F0 m pc la ((v :: mm_R r :: st).map (mm_cv ad sad))) := by
  have O' := O
  obtain ⟨o1, o2, o3, o4, hH, hS, oL, o8, o9⟩ := O
  obtain ⟨ca, tys, hK, hP, hD, hct⟩ := hH
  unfold mm_pf at hg
  split at hg
  · rename_i ci fs hr
    split at hg
    · rename_i j hj
      have hq := List.all_eq_true.mp hck _ (mm_fi_in hj)
      rw [Bool.and_eq_true] at hq
      obtain ⟨hq, hq2⟩ := hq
      unfold mm_ckf at hq
      split at hq
      · rename_i C T N hC
        simp only [Bool.and_eq_true, decide_eq_true_eq] at hq
        obtain ⟨hjN, hq⟩ := hq
        obtain ⟨hty, hnm, -⟩ := mm_cls hC
        have hws := mm_ws_at (ad := ad) (ca := ca) hr
        have key : ∀ (w' : mm_W) (c' : mm_C), j < fs.length → w'.1 = w.1.set r c' → mm_c1 c' = fs.length → (mm_ct ca tys r (.inl (ci, fs)) → mm_ct ca tys r c') → mm_ce ad ca w' r c' = .inr (ci, (fs.mapIdx (fun j o => mm_fv ad (w.2.1 r j) o)).set j (mm_cv ad sad v)) → (∀ (k : Nat) (ck : mm_C), k ≠ r → mm_ce ad ca w' k ck = mm_ce ad ca w k ck) → narrow (mm_tys ci j) (mm_cv ad sad v) = mm_cv ad sad v ∧ fits (mm_tys ci j) (mm_cv ad sad v) = true → K w' → W p l e R s m args below meth c H locs cells slots Qf (F0 m pc la ((v :: mm_R r :: st).map (mm_cv ad sad))) := by
          intro w' c' hjl hw' hc1 hctc hce hne hnf hKw
          have hl : w'.1.length = w.1.length := by rw [hw', List.length_set]
          have hsl : mm_sl w'.1 = mm_sl w.1 := by rw [hw']; exact mm_sl_set hr (by rw [hc1]; rfl)
          have hgo : ∀ (H1 : Heap) (locs1 : List Loc), va_P D mm_cl ((mm_ws ad ca w).set r (ad r, .inr (ci, (fs.mapIdx (fun j o => mm_fv ad (w.2.1 r j) o)).set j (mm_cv ad sad v)))) H1 → va_D (mm_A B0) ((mm_ws ad ca w).set r (ad r, .inr (ci, (fs.mapIdx (fun j o => mm_fv ad (w.2.1 r j) o)).set j (mm_cv ad sad v)))) → va_S (mm_A B0) s.heap H1 locs1 → W p l e R s m args below meth c H1 locs1 cells slots Qf (F0 m (pc + 3) la (st.map (mm_cv ad sad))) := by
            intro H1 locs1 hP1 hD1 hS1
            rw [mm_ws_set hr hw' hce hne] at hP1 hD1
            exact hk w' H1 locs1 hKw (O'.wr hl hsl ⟨ca, tys, hK, hP1, hD1, by rw [hw']; exact mm_ct_same hct hr hctc⟩ hS1)
          have hlen : j < (fs.mapIdx (fun j o => mm_fv ad (w.2.1 r j) o)).length := by rw [List.length_mapIdx]; exact hjl
          have hfin : (T j).2.2.2 = true → (mm_My M).name = "<init>" ∧ (T j).1 = (mm_My M).cls := by
            intro hT
            unfold mm_ckp at hq2
            rw [hC] at hq2
            simp only [Bool.and_eq_true, hT, Bool.not_true, Bool.false_or, decide_eq_true_eq] at hq2
            exact hq2.2
          cases hT : (T j).2.2.2 with
          | false =>
            split at hq
            · exact va_put (D := D) (C := C) (T := T) (N := N) (ref := (T j).1) hx hb hts (hcw ci _ hC) (mm_tys ci) hty hnm hown hK hP hD hS r hws hC j hjN (hts _ (mm_at_in hq)) (fun _ h => h) hT (hty j hjN) hnf.1 hnf.2 hlen hd hgo
            · simp only [Bool.and_eq_true] at hq
              exact va_put (D := D) (C := C) (T := T) (N := N) (ref := (mm_My M).cls) hx hb hts (hcw ci _ hC) (mm_tys ci) hty hnm hown hK hP hD hS r hws hC j hjN (hts _ (mm_at_in hq.1)) (fun x h => u_same (hts _ (mm_at_in hq.2)) x h) hT (hty j hjN) hnf.1 hnf.2 hlen hd hgo
            · cases hq
          | true =>
            obtain ⟨f1, f2⟩ := hfin hT
            split at hq
            · exact va_putF (D := D) (C := C) (T := T) (N := N) (ref := (T j).1) hx hb hts (hcw ci _ hC) (mm_tys ci) hty hnm hown hK hP hD hS r hws hC j hjN (hts _ (mm_at_in hq)) (fun _ h => h) hT (hinit f1) f2 (hty j hjN) hnf.1 hnf.2 hlen hd hgo
            · simp only [Bool.and_eq_true] at hq
              exact va_putF (D := D) (C := C) (T := T) (N := N) (ref := (mm_My M).cls) hx hb hts (hcw ci _ hC) (mm_tys ci) hty hnm hown hK hP hD hS r hws hC j hjN (hts _ (mm_at_in hq.1)) (fun x h => u_same (hts _ (mm_at_in hq.2)) x h) hT (hinit f1) f2 (hty j hjN) hnf.1 hnf.2 hlen hd hgo
            · cases hq
        unfold mm_ckp at hq2
        rw [hC] at hq2
        simp only [Bool.and_eq_true] at hq2
        split at hg
        · rename_i x ho
          have hjl := (List.getElem?_eq_some_iff.mp ho).1
          simp only [decide_eq_true_eq] at hq2
          refine key _ (.inl (ci, fs)) hjl ?_ rfl (fun h => h) ?_ ?_ (mm_fv_int hq2.1 x rfl) hg
          · show w.1 = w.1.set r (.inl (ci, fs))
            exact mm_set_same hr
          · exact congrArg (fun z => Sum.inr (ci, z)) (mm_map_u ho)
          · exact fun k ck h => mm_ce_i (mm_u_ne h) ck
        · rename_i b a ho
          have hjl := (List.getElem?_eq_some_iff.mp ho).1
          refine key _ (.inl (ci, fs.set j (some (some a)))) hjl rfl (by simp [mm_c1]) (fun _ => trivial) ?_ ?_ (mm_fv_ref hq2.1 (ad a)) hg
          · exact congrArg (fun z => Sum.inr (ci, z)) (mm_map_s hjl)
          · exact fun k ck _ => mm_ce_i rfl ck
        · exact hg.elim
      · cases hq
    · exact hg.elim
  · exact hg.elim
/-! rows -/
theorem mm_ald_e {t r : Nat} {i : Int32} {k : Prop} (h : mm_ald w t r i k) : ∃ n, w.1[r]? = some (.inr (.inl (t, n))) ∧ vp_in i n ∧ k := by
  unfold mm_ald at h
  split at h
  · rename_i t' n hr
    split at h
    · rename_i hb
      have : t' = t := Nat.eq_of_beq_eq_true hb
      subst this
      exact ⟨n, hr, h.1, h.2⟩
    · exact h.elim
  · exact h.elim
theorem mm_Tb_i {j n : Nat} {f : Nat → Int32} (h : mm_Tb tb sad B0 s H j) (e : tb j = (n, .inl f)) : va_T .int (sad j) n (fun i => .int (f i)) (mm_A B0) s H := by
  unfold mm_Tb at h
  rw [e] at h
  exact h
theorem mm_Tb_l {j n : Nat} {f : Nat → Int64} (h : mm_Tb tb sad B0 s H j) (e : tb j = (n, .inr f)) : va_T .long (sad j) n (fun i => .long (f i)) (mm_A B0) s H := by
  unfold mm_Tb at h
  rw [e] at h
  exact h
theorem mm_iald (hx : p.tables.exec = Jvm.exec) (hb : c.code = mm_Mb M) (hSx : mm_Sx tb sad B0 s s.heap) (hS : va_S (mm_A B0) s.heap H locs) {pc : Nat} {st : List mm_V} {K : Int32 → List mm_V → Prop} (hd : decode (mm_Mb M) pc = .ok (.iaload, 1)) (hg : mm_ild tb w st K) (hH : mm_H D B0 ad w s H)
    (hk : ∀ v q, K v q → W p l e R s m args below meth c H locs cells slots Qf (F0 m (pc + 1) la ((mm_I v :: q).map (mm_cv ad sad)))) : W p l e R s m args below meth c H locs cells slots Qf (F0 m pc la (st.map (mm_cv ad sad))) := by
  unfold mm_ild at hg
  split at hg
  · rename_i i r q
    obtain ⟨ca, tys, hK, hP, hD, hct⟩ := hH
    obtain ⟨n, hr, hin, hKv⟩ := mm_ald_e hg
    obtain ⟨t0, ht0⟩ := List.getElem?_of_mem (hct _ _ hr)
    exact va_iald (D := D) hx hb hK hP r t0 (mm_ws_at (ad := ad) (ca := ca) hr) ht0 hin hd (hk _ _ hKv)
  · rename_i i j q
    split at hg
    · rename_i n f e
      exact va_ti hx hb (mm_Tb_i (hSx.1 j) e) hS hg.1 rfl hd (hk _ _ hg.2)
    · exact hg.elim
  · exact hg.elim
theorem mm_lald (hx : p.tables.exec = Jvm.exec) (hb : c.code = mm_Mb M) (hSx : mm_Sx tb sad B0 s s.heap) (hS : va_S (mm_A B0) s.heap H locs) {pc : Nat} {st : List mm_V} {K : Int64 → List mm_V → Prop} (hd : decode (mm_Mb M) pc = .ok (.laload, 1)) (hg : mm_lld tb w st K) (hH : mm_H D B0 ad w s H)
    (hk : ∀ v q, K v q → W p l e R s m args below meth c H locs cells slots Qf (F0 m (pc + 1) la ((mm_L v :: q).map (mm_cv ad sad)))) : W p l e R s m args below meth c H locs cells slots Qf (F0 m pc la (st.map (mm_cv ad sad))) := by
  unfold mm_lld at hg
  split at hg
  · rename_i i r q
    obtain ⟨ca, tys, hK, hP, hD, hct⟩ := hH
    obtain ⟨n, hr, hin, hKv⟩ := mm_ald_e hg
    obtain ⟨t0, ht0⟩ := List.getElem?_of_mem (hct _ _ hr)
    exact va_lald (D := D) hx hb hK hP r t0 (mm_ws_at (ad := ad) (ca := ca) hr) ht0 hin hd (hk _ _ hKv)
  · rename_i i j q
    split at hg
    · rename_i n f e
      exact va_tl hx hb (mm_Tb_l (hSx.1 j) e) hS hg.1 rfl hd (hk _ _ hg.2)
    · exact hg.elim
  · exact hg.elim
theorem mm_zald (hx : p.tables.exec = Jvm.exec) (hb : c.code = mm_Mb M) {pc : Nat} {st : List mm_V} {K : Int32 → List mm_V → Prop} (hd : decode (mm_Mb M) pc = .ok (.baload, 1)) (hg : mm_bld w st K) (hH : mm_H D B0 ad w s H)
    (hk : ∀ v q, K v q → W p l e R s m args below meth c H locs cells slots Qf (F0 m (pc + 1) la ((mm_I v :: q).map (mm_cv ad sad)))) : W p l e R s m args below meth c H locs cells slots Qf (F0 m pc la (st.map (mm_cv ad sad))) := by
  unfold mm_bld at hg
  split at hg
  · rename_i i r q
    obtain ⟨ca, tys, hK, hP, hD, hct⟩ := hH
    obtain ⟨n, hr, hin, hKv⟩ := mm_ald_e hg
    obtain ⟨t0, ht0⟩ := List.getElem?_of_mem (hct _ _ hr)
    exact va_zald (D := D) hx hb hK hP r t0 (mm_ws_at (ad := ad) (ca := ca) hr) ht0 hin hd (hk _ _ hKv)
  · exact hg.elim
theorem mm_aald (hx : p.tables.exec = Jvm.exec) (hb : c.code = mm_Mb M) {pc : Nat} {st : List mm_V} {K : Nat → List mm_V → Prop} (hd : decode (mm_Mb M) pc = .ok (.aaload, 1)) (hg : mm_qld w st K) (hH : mm_H D B0 ad w s H)
    (hk : ∀ v q, K v q → W p l e R s m args below meth c H locs cells slots Qf (F0 m (pc + 1) la ((mm_R v :: q).map (mm_cv ad sad)))) : W p l e R s m args below meth c H locs cells slots Qf (F0 m pc la (st.map (mm_cv ad sad))) := by
  unfold mm_qld at hg
  split at hg
  · rename_i i r q
    split at hg
    · rename_i t n b hr
      obtain ⟨ca, tys, hK, hP, hD, hct⟩ := hH
      obtain ⟨hin, hKv⟩ := hg
      obtain ⟨t0, ht0⟩ := List.getElem?_of_mem (hct _ _ hr)
      have hlt : i.toNatClampNeg < n := Nat.not_le.mp fun q => hin (Or.inr q)
      have ha := mm_ws_at (ad := ad) (ca := ca) hr
      refine W.aald (v := .ref (ad (b + i.toNatClampNeg))) (ty := .array (mm_ty t)) hx hb (hP r _ ha) ((hK.2 t0 _ ht0).1 n (fun j => va_rf (if j < n then some (ad (b + j)) else none))) rfl (fun q => by cases q) (by show ¬ (i < 0 ∨ (arrV _ _ _).slots.size ≤ _); rw [arrV_size]; exact hin) (by show (arrV _ _ _).slots[_]? = _; rw [arrV_read _ _ hlt]; show some (va_rf (if i.toNatClampNeg < n then some (ad (b + i.toNatClampNeg)) else none)) = _; rw [if_pos hlt]; rfl) rfl rfl hd (hk _ _ hKv)
    · exact hg.elim
  · exact hg.elim
theorem mm_alen (hx : p.tables.exec = Jvm.exec) (hb : c.code = mm_Mb M) (hSx : mm_Sx tb sad B0 s s.heap) (hS : va_S (mm_A B0) s.heap H locs) {pc : Nat} {st : List mm_V} {K : Int32 → List mm_V → Prop} (hd : decode (mm_Mb M) pc = .ok (.arraylength, 1)) (hg : mm_len tb w st K) (hH : mm_H D B0 ad w s H)
    (hk : ∀ v q, K v q → W p l e R s m args below meth c H locs cells slots Qf (F0 m (pc + 1) la ((mm_I v :: q).map (mm_cv ad sad)))) : W p l e R s m args below meth c H locs cells slots Qf (F0 m pc la (st.map (mm_cv ad sad))) := by
  unfold mm_len at hg
  split at hg
  · rename_i r q
    split at hg
    · rename_i t n hr
      obtain ⟨ca, tys, hK, hP, hD, hct⟩ := hH
      obtain ⟨t0, ht0⟩ := List.getElem?_of_mem (hct _ _ hr)
      have ha := mm_ws_at (ad := ad) (ca := ca) hr
      unfold mm_ce at ha
      split at ha
      · rename_i e; cases e
      · rename_i e; cases e
        exact va_alen (D := D) hx hb hK hP r t0 ha ht0 rfl hd (hk _ _ hg)
      · rename_i e; cases e
        exact va_alen (D := D) hx hb hK hP r t0 ha ht0 rfl hd (hk _ _ hg)
      · rename_i e; cases e
    · exact hg.elim
  · rename_i j q
    cases e : tb j with
    | mk n f =>
      rw [e] at hg
      cases f with
      | inl f => exact va_tlen hx hb (mm_Tb_i (hSx.1 j) e) hS rfl hd (hk _ _ hg)
      | inr f => exact va_tlen hx hb (mm_Tb_l (hSx.1 j) e) hS rfl hd (hk _ _ hg)
  · exact hg.elim
/-- a row's place is written -/
theorem mm_awr {w' : mm_W} {r n t : Nat} {ca : Nat → ClassId} {tys : List (ClassId × FieldType)} {H1 : Heap} {locs1 : List Loc} {x : va_E} (O : mm_Ok D B0 sad n0 ad0 lim R s nL ad H locs cells slots la ls w) (hK : va_K D mm_cl tys s) (hct : ∀ (k : Nat) (c : mm_C), w.1[k]? = some c → mm_ct ca tys k c) (hr : w.1[r]? = some (.inr (.inl (t, n)))) (hl : w'.1 = w.1) (hx : mm_ce ad ca w' r (.inr (.inl (t, n))) = x) (hne : ∀ (k : Nat) (ck : mm_C), k ≠ r → mm_ce ad ca w' k ck = mm_ce ad ca w k ck) (hP : va_P D mm_cl ((mm_ws ad ca w).set r (ad r, x)) H1) (hD : va_D (mm_A B0) ((mm_ws ad ca w).set r (ad r, x))) (hS : va_S (mm_A B0) s.heap H1 locs1) : mm_Ok D B0 sad n0 ad0 lim R s nL ad H1 locs1 cells slots la ls w' := by
  rw [mm_ws_set (w' := w') hr (by rw [hl]; exact mm_set_same hr) hx hne] at hP hD
  exact O.wr (by rw [hl]) (by rw [hl]) ⟨ca, tys, hK, hP, hD, by rw [hl]; exact hct⟩ hS
theorem mm_iast (hx : p.tables.exec = Jvm.exec) (hb : c.code = mm_Mb M) {pc : Nat} {st : List mm_V} {K : mm_W → List mm_V → Prop} (hd : decode (mm_Mb M) pc = .ok (.iastore, 1)) (hg : mm_ist w 0 st K) (O : mm_Ok D B0 sad n0 ad0 lim R s nL ad H locs cells slots la ls w)
    (hk : ∀ w' q H1 locs1, K w' q → mm_Ok D B0 sad n0 ad0 lim R s nL ad H1 locs1 cells slots la ls w' → W p l e R s m args below meth c H1 locs1 cells slots Qf (F0 m (pc + 1) la (q.map (mm_cv ad sad)))) : W p l e R s m args below meth c H locs cells slots Qf (F0 m pc la (st.map (mm_cv ad sad))) := by
  have O' := O
  obtain ⟨o1, o2, o3, o4, hH, hS, oL, o8, o9⟩ := O
  obtain ⟨ca, tys, hK, hP, hD, hct⟩ := hH
  unfold mm_ist at hg
  split at hg
  · rename_i x i r q
    obtain ⟨n, hr, hin, hKv⟩ := mm_ald_e hg
    obtain ⟨t0, ht0⟩ := List.getElem?_of_mem (hct _ _ hr)
    refine va_iast (D := D) hx hb hK hP hD hS r t0 (mm_ws_at (ad := ad) (ca := ca) hr) ht0 hin hd (fun H1 locs1 hP1 hD1 hS1 => ?_)
    refine hk _ _ H1 locs1 hKv (mm_awr O' hK hct hr rfl ?_ (fun k ck h => mm_ce_i (mm_u_ne h) ck) hP1 hD1 hS1)
    show Sum.inl (ca r, n, Sum.inl (mm_u w.2.1 r i.toNatClampNeg x r)) = _
    rw [mm_u_eq]
  · exact hg.elim
theorem mm_zast (hx : p.tables.exec = Jvm.exec) (hb : c.code = mm_Mb M) {pc : Nat} {st : List mm_V} {K : mm_W → List mm_V → Prop} (hd : decode (mm_Mb M) pc = .ok (.bastore, 1)) (hg : mm_ist w 2 st K) (O : mm_Ok D B0 sad n0 ad0 lim R s nL ad H locs cells slots la ls w)
    (hk : ∀ w' q H1 locs1, K w' q → mm_Ok D B0 sad n0 ad0 lim R s nL ad H1 locs1 cells slots la ls w' → W p l e R s m args below meth c H1 locs1 cells slots Qf (F0 m (pc + 1) la (q.map (mm_cv ad sad)))) : W p l e R s m args below meth c H locs cells slots Qf (F0 m pc la (st.map (mm_cv ad sad))) := by
  have O' := O
  obtain ⟨o1, o2, o3, o4, hH, hS, oL, o8, o9⟩ := O
  obtain ⟨ca, tys, hK, hP, hD, hct⟩ := hH
  unfold mm_ist at hg
  split at hg
  · rename_i x i r q
    obtain ⟨n, hr, hin, hKv⟩ := mm_ald_e hg
    obtain ⟨t0, ht0⟩ := List.getElem?_of_mem (hct _ _ hr)
    refine va_zast (D := D) hx hb hK hP hD hS r t0 (mm_ws_at (ad := ad) (ca := ca) hr) ht0 hin hd (fun H1 locs1 hP1 hD1 hS1 => ?_)
    refine hk _ _ H1 locs1 hKv (mm_awr O' hK hct hr rfl ?_ (fun k ck h => mm_ce_i (mm_u_ne h) ck) hP1 hD1 hS1)
    show Sum.inl (ca r, n, Sum.inl (mm_u w.2.1 r i.toNatClampNeg (vp_nar .boolean x) r)) = _
    rw [mm_u_eq]
  · exact hg.elim
theorem mm_last (hx : p.tables.exec = Jvm.exec) (hb : c.code = mm_Mb M) {pc : Nat} {st : List mm_V} {K : mm_W → List mm_V → Prop} (hd : decode (mm_Mb M) pc = .ok (.lastore, 1)) (hg : mm_lst w st K) (O : mm_Ok D B0 sad n0 ad0 lim R s nL ad H locs cells slots la ls w)
    (hk : ∀ w' q H1 locs1, K w' q → mm_Ok D B0 sad n0 ad0 lim R s nL ad H1 locs1 cells slots la ls w' → W p l e R s m args below meth c H1 locs1 cells slots Qf (F0 m (pc + 1) la (q.map (mm_cv ad sad)))) : W p l e R s m args below meth c H locs cells slots Qf (F0 m pc la (st.map (mm_cv ad sad))) := by
  have O' := O
  obtain ⟨o1, o2, o3, o4, hH, hS, oL, o8, o9⟩ := O
  obtain ⟨ca, tys, hK, hP, hD, hct⟩ := hH
  unfold mm_lst at hg
  split at hg
  · rename_i x i r q
    obtain ⟨n, hr, hin, hKv⟩ := mm_ald_e hg
    obtain ⟨t0, ht0⟩ := List.getElem?_of_mem (hct _ _ hr)
    refine va_last (D := D) hx hb hK hP hD hS r t0 (mm_ws_at (ad := ad) (ca := ca) hr) ht0 hin hd (fun H1 locs1 hP1 hD1 hS1 => ?_)
    refine hk _ _ H1 locs1 hKv (mm_awr O' hK hct hr rfl ?_ (fun k ck h => mm_ce_l (mm_u_ne h) ck) hP1 hD1 hS1)
    show Sum.inl (ca r, n, Sum.inr (Sum.inl (mm_u w.2.2 r i.toNatClampNeg x r))) = _
    rw [mm_u_eqL]
  · exact hg.elim
end MMM
end
section
/-! ===== new cells ===== -/
theorem mm_ce_old {ad ad' : Nat → Nat} {ca ca' : Nat → ClassId} {w w' : mm_W} {n k : Nat} {c : mm_C} (hc : mm_loC n c = true) (had : ∀ j, j < n → ad' j = ad j) (hca : ca' k = ca k) (h1 : w'.2.1 k = w.2.1 k) (h2 : w'.2.2 k = w.2.2 k) : mm_ce ad' ca' w' k c = mm_ce ad ca w k c := by
  unfold mm_ce
  rw [h1, h2, hca]
  split
  · rename_i ci fs
    congr 2
    apply List.ext_getElem?
    intro j
    rw [List.getElem?_mapIdx, List.getElem?_mapIdx]
    cases ho : fs[j]? with
    | none => rfl
    | some o =>
      have hm := List.all_eq_true.mp (show fs.all _ = true from hc) o (List.mem_of_getElem? ho)
      rcases o with _ | _ | r
      · rfl
      · rfl
      · have hr : r < n := by simpa [Nat.blt_eq] using hm
        simp [mm_fv, had r hr]
  · rfl
  · rfl
  · rename_i t len b
    have hb : b + len ≤ n := by simpa [mm_loC, Nat.ble_eq] using hc
    have hf : (fun i => if i < len then some (ad' (b + i)) else none) = (fun i => if i < len then some (ad (b + i)) else none) := by
      funext i
      by_cases h : i < len
      · rw [if_pos h, if_pos h, had (b + i) (by omega)]
      · rw [if_neg h, if_neg h]
    rw [hf]
theorem mm_ws_app {ad ad' : Nat → Nat} {ca ca' : Nat → ClassId} {w w' : mm_W} {cs : List mm_C} (hl : w'.1 = w.1 ++ cs) (hold : ∀ (k : Nat) (c : mm_C), w.1[k]? = some c → (ad' k, mm_ce ad' ca' w' k c) = (ad k, mm_ce ad ca w k c)) : mm_ws ad' ca' w' = mm_ws ad ca w ++ cs.mapIdx (fun i c => (ad' (i + w.1.length), mm_ce ad' ca' w' (i + w.1.length) c)) := by
  unfold mm_ws
  rw [hl, List.mapIdx_append]
  congr 1
  apply List.ext_getElem?
  intro k
  rw [List.getElem?_mapIdx, List.getElem?_mapIdx]
  cases hk : w.1[k]? with
  | none => rfl
  | some c => exact congrArg some (hold k c hk)
theorem mm_cv_old {ad ad' sad : Nat → Nat} {n : Nat} {v : mm_V} (hv : mm_lo n v = true) (had : ∀ j, j < n → ad' j = ad j) : mm_cv ad' sad v = mm_cv ad sad v := by
  rcases v with x | x | x | x | x
  · rfl
  · rfl
  · have : x < n := by simpa [mm_lo, Nat.blt_eq] using hv
    simp [mm_cv, had x this]
  · rfl
  · rfl
theorem mm_st_old {ad ad' sad : Nat → Nat} {n : Nat} {st : List mm_V} (hv : st.all (mm_lo n) = true) (had : ∀ j, j < n → ad' j = ad j) : st.map (mm_cv ad' sad) = st.map (mm_cv ad sad) :=
  List.map_congr_left fun v hm => mm_cv_old (List.all_eq_true.mp hv v hm) had
theorem mm_Lr_old {ad ad' sad : Nat → Nat} {n nL : Nat} {ls : List (Option mm_V)} {la : Array Slot} (hv : ls.all (mm_loO n) = true) (had : ∀ j, j < n → ad' j = ad j) (h : mm_Lr ad sad nL ls la) : mm_Lr ad' sad nL ls la := by
  refine mm_lv_weak h fun q hq => ?_
  obtain ⟨v, h1, h2⟩ := mm_lv_mem.mp hq
  have := List.all_eq_true.mp hv _ (List.mem_of_getElem? h1)
  exact mm_lv_mem.mpr ⟨v, h1, by rw [h2]; exact mm_cv_old this had⟩
theorem mm_chk_e {ls : List (Option mm_V)} {st : List mm_V} {l : List mm_C} (h : mm_chk ls st l = true) : ls.all (mm_loO l.length) = true ∧ st.all (mm_lo l.length) = true ∧ l.all (mm_loC l.length) = true := by
  simp only [mm_chk, Bool.and_eq_true] at h
  exact ⟨h.1.1, h.1.2, h.2⟩
theorem mm_cls2 {ci : Nat} {q : vw_C} (h : mm_cl[ci]? = some q) : ∀ j, j < q.2.2 → mm_tys ci j = .int ∨ mm_rfT (mm_tys ci j) = true := by
  match ci, h with
  | 0, h => cases h; decide +kernel
  | 1, h => cases h; decide +kernel
  | 2, h => cases h; decide +kernel
  | 3, h => cases h; decide +kernel
  | 4, h => cases h; decide +kernel
  | 5, h => cases h; decide +kernel
  | 6, h => cases h; decide +kernel
  | 7, h => cases h; decide +kernel
  | 8, h => cases h; decide +kernel
  | 9, h => cases h; decide +kernel
  | 10, h => cases h; decide +kernel
  | k + 11, h => simp [mm_cl] at h
section MMN
variable {p : Program} {l : Launch} {e : Env} {R : Room} {s : State} {m : MethodId} {args : Array Value} {below : List Frame} {meth : Method} {c : Code} {Qf : State → Prop}
variable {D : va_G} {B0 : Nat} {sad : Nat → Nat} {n0 : Nat} {ad0 : Nat → Nat} {lim : Nat × Nat} {M : mm_M} {ms : List mm_M} {tb : mm_T} {call : mm_F} {Q : Option mm_V → mm_W → Prop}
variable {nL : Nat} {ad : Nat → Nat} {H : Heap} {locs : List Loc} {cells slots : Nat} {la : Array Slot} {ls : List (Option mm_V)} {w : mm_W}
theorem mm_Ok.al {ad' : Nat → Nat} {w' : mm_W} {H1 : Heap} {cnt sc : Nat} (O : mm_Ok D B0 sad n0 ad0 lim R s nL ad H locs cells slots la ls w) (hlen : w'.1.length = w.1.length + cnt) (hsl : mm_sl w'.1 = mm_sl w.1 + sc) (hrm : mm_rm lim w cnt sc) (had : ∀ k, k < w.1.length ∨ w.1.length + cnt ≤ k → ad' k = ad k) (hH : mm_H D B0 ad' w' s H1) (hS : va_S (mm_A B0) s.heap H1 locs) (hls : ls.all (mm_loO w.1.length) = true) : mm_Ok D B0 sad n0 ad0 lim R s nL ad' H1 locs (cells + cnt) (slots + sc) la ls w' := by
  obtain ⟨h1, h2, h3, h4, h5, h6, h7, h8, h9⟩ := O
  obtain ⟨r1, r2⟩ := hrm
  refine ⟨fun k hk => ?_, by omega, by omega, by omega, hH, hS, mm_Lr_old hls (fun j hj => had j (Or.inl hj)) h7, by omega, by omega⟩
  rw [hlen] at hk
  rw [had k (by omega), h1 k (by omega)]
theorem mm_sl_app (l cs : List mm_C) : mm_sl (l ++ cs) = mm_sl l + mm_sl cs := by simp [mm_sl]
theorem mm_z_old {α : Type} [OfNat α 0] {f : Nat → Nat → α} {lo n k : Nat} (h : k < lo) : mm_z f lo n k = f k := by
  funext b
  have : ¬ (lo ≤ k ∧ k < lo + n) := by omega
  simp [mm_z, this]
theorem mm_z_new {α : Type} [OfNat α 0] {f : Nat → Nat → α} {lo n k : Nat} (h : lo ≤ k) (h2 : k < lo + n) : mm_z f lo n k = fun _ => 0 := by
  funext b
  simp [mm_z, h, h2]
theorem mm_lo_at {w : mm_W} (h : w.1.all (mm_loC w.1.length) = true) {k : Nat} {c : mm_C} (hk : w.1[k]? = some c) : mm_loC w.1.length c = true ∧ k < w.1.length := ⟨List.all_eq_true.mp h c (List.mem_of_getElem? hk), (List.getElem?_eq_some_iff.mp hk).1⟩
theorem mm_newc (hx : p.tables.exec = Jvm.exec) (hb : c.code = mm_Mb M) (hown : s.vm.findClass (mm_My M).cls = some m.cls) (hts : ∀ w ∈ mm_GW, w.before args s = true) (hcw : ∀ (ci : Nat) (q : vw_C), mm_cl[ci]? = some q → ∀ w ∈ u_ws q.1 q.2.1 q.2.2, w ∈ mm_GW) (hB : B0 ≤ s.heap.size)
    {pc idx p0 p1 p2 a ci : Nat} {ax : List (Nat × Nat)} {st : List mm_V} {C : String} {T : u_T} {N : Nat} {K : mm_V → mm_W → Prop} (hd : decode (mm_Mb M) pc = .ok (.new idx, 3)) (hC : mm_cl[ci]? = some (C, T, N)) (h0 : mm_at p0 (.classLink (mm_My M).cls idx C) = true) (h1 : mm_at p1 (.instantiable C N) = true) (h2 : mm_at p2 (.initialized C) = true) (hg : mm_new lim ((a, ci) :: ax) ls st w K) (O : mm_Ok D B0 sad n0 ad0 lim R s nL ad H locs cells slots la ls w)
    (hk : ∀ v w' ad' H1 cells1 slots1, K v w' → mm_Ok D B0 sad n0 ad0 lim R s nL ad' H1 locs cells1 slots1 la ls w' → W p l e R s m args below meth c H1 locs cells1 slots1 Qf (F0 m (pc + 3) la ((v :: st).map (mm_cv ad' sad)))) : W p l e R s m args below meth c H locs cells slots Qf (F0 m pc la (st.map (mm_cv ad sad))) := by
  have O' := O
  obtain ⟨o1, o2, o3, o4, hH, hS, oL, o8, o9⟩ := O
  obtain ⟨ca, tys, hK, hP, hD, hct⟩ := hH
  obtain ⟨hty, -, hN⟩ := mm_cls hC
  dsimp only at hN hty
  unfold mm_new at hg
  obtain ⟨hck, hrm, hKv⟩ := hg
  obtain ⟨c1, c2, c3⟩ := mm_chk_e hck
  have hn := w.1.length
  have hfs : ∀ j, j < N → defaultValue (mm_tys ci j) = vp_V ((mm_nf (mm_tys ci) (mm_cn ci)).mapIdx (fun _ o => mm_fv ad 0 o)) j := by
    intro j hj
    have hj' : j < mm_cn ci := by rw [← hN]; exact hj
    unfold vp_V mm_nf
    rw [List.getD_eq_getElem?_getD, List.getElem?_mapIdx, List.getElem?_map, List.getElem?_range hj']
    show _ = mm_fv ad 0 (match mm_tys ci j with | .int => none | _ => some none)
    have hcase : mm_tys ci j = .int ∨ mm_rfT (mm_tys ci j) = true := mm_cls2 hC j hj
    rcases hcase with h | h
    · rw [h]; rfl
    · cases hq : mm_tys ci j <;> rw [hq] at h <;> first | rfl | (simp [mm_rfT] at h)
  have r1 := hrm.1
  have r2 := hrm.2
  refine va_new (D := D) (C := C) (T := T) (N := N) hx hb hts (hcw ci _ hC) (mm_tys ci) hty hown (hts _ (mm_at_in h0)) (hts _ (mm_at_in h1)) (hts _ (mm_at_in h2)) hK hP hD hS (mm_hb hB) hC hfs (by omega) (by rw [← hN] at r2; omega) hd (fun q H1 hP1 hD1 hS1 => ?_)
  have had : ∀ k, k < w.1.length ∨ w.1.length + 1 ≤ k → (fun k => if k = w.1.length then q else ad k) k = ad k := fun k hk => by
    show (if k = w.1.length then q else ad k) = ad k
    rw [if_neg (by omega)]
  have hold : ∀ j, j < w.1.length → (fun k => if k = w.1.length then q else ad k) j = ad j := fun j hj => had j (Or.inl hj)
  generalize hw' : ((w.1 ++ [.inl (ci, mm_nf (mm_tys ci) (mm_cn ci))], mm_z w.2.1 w.1.length 1, mm_z w.2.2 w.1.length 1) : mm_W) = w' at hKv
  have e1 : w'.1 = w.1 ++ [.inl (ci, mm_nf (mm_tys ci) (mm_cn ci))] := by rw [← hw']
  have e2 : w'.2.1 = mm_z w.2.1 w.1.length 1 := by rw [← hw']
  have e3 : w'.2.2 = mm_z w.2.2 w.1.length 1 := by rw [← hw']
  have hws : mm_ws (fun k => if k = w.1.length then q else ad k) ca w' = mm_ws ad ca w ++ [(q, .inr (ci, (mm_nf (mm_tys ci) (mm_cn ci)).mapIdx (fun _ o => mm_fv ad 0 o)))] := by
    rw [mm_ws_app e1 (ad := ad) (ca := ca)]
    · congr 1
      simp only [List.mapIdx_cons, List.mapIdx_nil, Nat.zero_add, if_true]
      unfold mm_ce
      rw [e2, mm_z_new (Nat.le_refl _) (by omega)]
      dsimp only
      congr 4
      apply List.ext_getElem?
      intro j
      rw [List.getElem?_mapIdx, List.getElem?_mapIdx]
      cases ho : (mm_nf (mm_tys ci) (mm_cn ci))[j]? with
      | none => rfl
      | some o =>
        have hm := List.mem_of_getElem? ho
        unfold mm_nf at hm
        obtain ⟨i, -, hi⟩ := List.mem_map.mp hm
        have : o = none ∨ o = some none := by
          rw [← hi]
          split
          · exact Or.inl rfl
          · exact Or.inr rfl
        rcases this with rfl | rfl <;> rfl
    · intro k ck hk
      obtain ⟨g1, g2⟩ := mm_lo_at c3 hk
      exact Prod.ext (hold k g2) (mm_ce_old g1 hold rfl (by rw [e2]; exact mm_z_old g2) (by rw [e3]; exact mm_z_old g2))
  have hres := hk (mm_R w.1.length) w' (fun k => if k = w.1.length then q else ad k) H1 (cells + 1) (slots + N) hKv (O'.al (by rw [e1]; simp) (by rw [e1, mm_sl_app]; simp [mm_sl, mm_c1, mm_nf, hN]) (by rw [← hN] at hrm; exact hrm) had ⟨ca, tys, hK, by rw [hws]; exact hP1, by rw [hws]; exact hD1, fun k ck hkc => by
    rw [e1] at hkc
    by_cases hl : k < w.1.length
    · rw [List.getElem?_append_left hl] at hkc
      exact hct k ck hkc
    · rw [List.getElem?_append_right (by omega)] at hkc
      have : ck = .inl (ci, mm_nf (mm_tys ci) (mm_cn ci)) := by
        have := List.mem_of_getElem? hkc
        simpa using this
      rw [this]
      trivial⟩ hS1 c1)
  rw [List.map_cons, mm_st_old c2 hold] at hres
  have hq : mm_cv (fun k => if k = w.1.length then q else ad k) sad (mm_R w.1.length) = .ref q := by simp [mm_cv]
  rw [hq] at hres
  exact hres
theorem mm_newar (hx : p.tables.exec = Jvm.exec) (hb : c.code = mm_Mb M) (hts : ∀ w ∈ mm_GW, w.before args s = true) (hB : B0 ≤ s.heap.size)
    {pc p0 t n : Nat} {a : Jvm.ClassFile.ArrayType} {ax : List (Nat × Nat)} {st : List mm_V} {K : mm_V → List mm_V → mm_W → Prop} (hd : decode (mm_Mb M) pc = .ok (.newarray a, 2)) (h0 : mm_at p0 (.arrayClass (mm_ty t)) = true) (hty : newarray.typeOf a = mm_ty t) (hg : mm_nar lim ((t, n) :: ax) ls st w K) (O : mm_Ok D B0 sad n0 ad0 lim R s nL ad H locs cells slots la ls w)
    (hk : ∀ v q w' ad' H1 cells1 slots1, K v q w' → mm_Ok D B0 sad n0 ad0 lim R s nL ad' H1 locs cells1 slots1 la ls w' → W p l e R s m args below meth c H1 locs cells1 slots1 Qf (F0 m (pc + 2) la ((v :: q).map (mm_cv ad' sad)))) : W p l e R s m args below meth c H locs cells slots Qf (F0 m pc la (st.map (mm_cv ad sad))) := by
  have O' := O
  obtain ⟨o1, o2, o3, o4, hH, hS, oL, o8, o9⟩ := O
  obtain ⟨ca, tys, hK, hP, hD, hct⟩ := hH
  unfold mm_nar at hg
  split at hg
  · rename_i x1 x2 t1 n1 r1 x r e1 
    cases e1
    obtain ⟨hxn, hn, hck, hrm, hKv⟩ := hg
    subst hxn
    obtain ⟨c1, c2, c3⟩ := mm_chk_e hck
    have r1 := hrm.1
    have r2 := hrm.2
    have hn31 : n < 2 ^ 31 := by omega
    have hcb : componentBytes (mm_ty t) ≤ 8 := by
      unfold mm_ty
      split <;> decide
    have hbytes : n * componentBytes (mm_ty t) ≤ 536870912 := by
      have := Nat.mul_le_mul (Nat.le_of_lt hn) hcb
      omega
    generalize hw' : ((w.1 ++ [.inr (.inl (t, n))], mm_z w.2.1 w.1.length 1, mm_z w.2.2 w.1.length 1) : mm_W) = w' at hKv
    have e1 : w'.1 = w.1 ++ [.inr (.inl (t, n))] := by rw [← hw']
    have e2 : w'.2.1 = mm_z w.2.1 w.1.length 1 := by rw [← hw']
    have e3 : w'.2.2 = mm_z w.2.2 w.1.length 1 := by rw [← hw']
    have ha0 : ∃ a0 : vp_A, (∀ cA : ClassId, vp_cell cA a0 = arrV cA n (fun _ => defaultValue (mm_ty t))) ∧ ∀ (ad9 : Nat → Nat) (ca9 : Nat → ClassId), mm_ce ad9 ca9 w' w.1.length (.inr (.inl (t, n))) = .inl (ca9 w.1.length, a0) := by
      by_cases ht : t = 1
      · subst ht
        exact ⟨(n, .inr (.inl (fun _ => 0))), fun cA => rfl, fun ad9 ca9 => by
          show Sum.inl (ca9 w.1.length, n, Sum.inr (Sum.inl (w'.2.2 w.1.length))) = _
          rw [e3, mm_z_new (Nat.le_refl _) (by omega)]⟩
      · refine ⟨(n, .inl (fun _ => 0)), fun cA => ?_, fun ad9 ca9 => ?_⟩
        · have hdv : defaultValue (mm_ty t) = .int 0 := by
            unfold mm_ty
            split
            · rfl
            · exact absurd rfl ht
            · rfl
          rw [hdv]
          rfl
        · have : mm_ce ad9 ca9 w' w.1.length (.inr (.inl (t, n))) = .inl (ca9 w.1.length, n, .inl (w'.2.1 w.1.length)) := by
            unfold mm_ce
            split
            · rename_i e; cases e
            · rename_i e; cases e; exact absurd rfl ht
            · rename_i e; cases e; rfl
            · rename_i e; cases e
          rw [this, e2, mm_z_new (Nat.le_refl _) (by omega)]
    obtain ⟨a0, ha0, hce⟩ := ha0
    refine va_newa (D := D) hx hb (atype := a) (by rw [hty]; exact hts _ (mm_at_in h0)) hty hK hP hD hS (mm_hb hB) ha0 (nI_pos hn31) (nI_clamp hn31) hbytes (by omega) (by omega) hd (fun q cA H1 hK1 hP1 hD1 hS1 => ?_)
    have had : ∀ k, k < w.1.length ∨ w.1.length + 1 ≤ k → (fun k => if k = w.1.length then q else ad k) k = ad k := fun k hk => by
      show (if k = w.1.length then q else ad k) = ad k
      rw [if_neg (by omega)]
    have hold : ∀ j, j < w.1.length → (fun k => if k = w.1.length then q else ad k) j = ad j := fun j hj => had j (Or.inl hj)
    have hcold : ∀ j, j < w.1.length → (fun k => if k = w.1.length then cA else ca k) j = ca j := fun j hj => by
      show (if j = w.1.length then cA else ca j) = ca j
      rw [if_neg (by omega)]
    have hws : mm_ws (fun k => if k = w.1.length then q else ad k) (fun k => if k = w.1.length then cA else ca k) w' = mm_ws ad ca w ++ [(q, .inl (cA, a0))] := by
      rw [mm_ws_app e1 (ad := ad) (ca := ca)]
      · congr 1
        simp only [List.mapIdx_cons, List.mapIdx_nil, Nat.zero_add, if_true]
        rw [hce]
        simp
      · intro k ck hk
        obtain ⟨g1, g2⟩ := mm_lo_at c3 hk
        exact Prod.ext (hold k g2) (mm_ce_old (ca := ca) (ca' := fun k => if k = w.1.length then cA else ca k) g1 hold (hcold k g2) ((congrFun e2 k).trans (mm_z_old g2)) ((congrFun e3 k).trans (mm_z_old g2)))
    have hres := hk (mm_R w.1.length) r w' (fun k => if k = w.1.length then q else ad k) H1 (cells + 1) (slots + n) hKv (O'.al (by rw [e1]; simp) (by rw [e1, mm_sl_app]; simp [mm_sl, mm_c1]) hrm had ⟨_, _, hK1, by rw [hws]; exact hP1, by rw [hws]; exact hD1, fun k ck hkc => by
      rw [e1] at hkc
      by_cases hl : k < w.1.length
      · rw [List.getElem?_append_left hl] at hkc
        have h9 := hct k ck hkc
        unfold mm_ct at h9 ⊢
        split
        · trivial
        · dsimp only at h9
          rw [hcold k hl]
          exact List.mem_append_left _ h9
        · dsimp only at h9
          rw [hcold k hl]
          exact List.mem_append_left _ h9
      · have hk0 : k = w.1.length := by
          have := (List.getElem?_eq_some_iff.mp hkc).1
          simp at this
          omega
        rw [List.getElem?_append_right (by omega), hk0, Nat.sub_self] at hkc
        cases hkc
        show ((if k = w.1.length then cA else ca k), mm_ty t) ∈ _
        rw [if_pos hk0]
        exact List.mem_append_right _ List.mem_cons_self⟩ hS1 c1)
    rw [List.map_cons, mm_st_old c2 hold] at hres
    have hq : mm_cv (fun k => if k = w.1.length then q else ad k) sad (mm_R w.1.length) = .ref q := by simp [mm_cv]
    rw [hq] at hres
    exact hres
  · exact hg.elim
end MMN
end
section
/-! ===== calls ===== -/
def mm_wd (M : mm_M) : List Cond := Cond.code (mm_My M) (mm_Mb M) (mm_Ml M) (mm_Mr M) :: mm_GW
def mm_rmd (d : Nat) (M : mm_M) : Room := { frames := d, cells := mm_Mk M, slots := mm_Ms M, locals := 40 * d }
def mm_Pc (D : va_G) (B0 : Nat) (sad : Nat → Nat) (tb : mm_T) (ad : Nat → Nat) (As : List mm_V) (w : mm_W) : Array Value → State → Prop := va_Pc (As.map (mm_cv ad sad)) (fun U => B0 ≤ U.heap.size ∧ mm_H D B0 ad w U U.heap ∧ mm_Sx tb sad B0 U U.heap)
def mm_Qc (D : va_G) (B0 : Nat) (sad : Nat → Nat) (ad : Nat → Nat) (w : mm_W) (Q : Option mm_V → mm_W → Prop) : Array Value → State → Outcome → State → Prop := fun _ st oc t =>
  (∃ (o : Option mm_V) (w' : mm_W) (ad' : Nat → Nat), oc = .returned (o.map (mm_cv ad' sad)) ∧ Q o w' ∧ (∀ k, k < w.1.length ∨ w'.1.length ≤ k → ad' k = ad k) ∧ mm_H D B0 ad' w' t t.heap) ∧ va_F (mm_A B0) st t
def mm_callOk (l : Launch) (D : va_G) (B0 : Nat) (sad : Nat → Nat) (tb : mm_T) (ms : List mm_M) (d : Nat) (call : mm_F) : Prop :=
  ∀ (mi : Nat) (M : mm_M), ms[mi]? = some M → ∀ (As : List mm_V) (w : mm_W) (Q : Option mm_V → mm_W → Prop), call mi As w Q → ∀ ad : Nat → Nat, Met l (mm_My M) (mm_wd M) (mm_rmd d M) (mm_Pc D B0 sad tb ad As w) (mm_Qc D B0 sad ad w Q) (mm_Mk M) (mm_Ms M) (mm_A B0)
theorem mm_Pc_blind (D : va_G) (B0 : Nat) (sad : Nat → Nat) (tb : mm_T) (ad : Nat → Nat) (As : List mm_V) (w : mm_W) : FrameBlind (mm_Pc D B0 sad tb ad As w) := by
  intro a U g mk h
  obtain ⟨h1, h2, h3, h4, h5, h6⟩ := h
  refine ⟨h1, h2, h3.moved (U := U.calling g mk a) (Vm.Alike.refl U.vm), fun j => ?_, fun j C n d hj => (h5 j C n d hj).moved (U := U.calling g mk a) (Vm.Alike.refl U.vm), fun p w hw => ?_⟩
  · have := h4 j
    unfold mm_Tb at this ⊢
    split
    · rename_i n f e
      rw [e] at this
      exact va_T.moved (U := U.calling g mk a) (Vm.Alike.refl U.vm) this
    · rename_i n f e
      rw [e] at this
      exact va_T.moved (U := U.calling g mk a) (Vm.Alike.refl U.vm) this
  · have hz : mm_nzk w = true := by
      simp only [mm_az, Bool.and_eq_true] at hw
      exact hw.2
    have h9 := h6 p w hw
    unfold mm_nzk at hz
    split at hz
    · exact va_Nw.same (u := U) (U := U.calling g mk a) rfl rfl h9
    · exact va_Nw.same (u := U) (U := U.calling g mk a) rfl rfl h9
    · exact mm_AOA_moved (u := U) (U := U.calling g mk a) (Vm.Alike.refl U.vm) h9
    · cases hz
section MMC
variable {p : Program} {l : Launch} {e : Env} {R : Room} {s : State} {m : MethodId} {args : Array Value} {below : List Frame} {meth : Method} {c : Code} {Qf : State → Prop}
variable {D : va_G} {B0 : Nat} {sad : Nat → Nat} {n0 : Nat} {ad0 : Nat → Nat} {lim : Nat × Nat} {M M' : mm_M} {ms : List mm_M} {tb : mm_T} {call : mm_F} {Q : Option mm_V → mm_W → Prop} {d : Nat}
variable {nL : Nat} {ad : Nat → Nat} {H : Heap} {locs : List Loc} {cells slots : Nat} {la : Array Slot} {ls : List (Option mm_V)} {w : mm_W}
theorem mm_after {mc msl pc : Nat} {st0 rest : List Value} {Qa : State → Outcome → State → Prop} (hr : va_Run p l e R s m args below meth c H locs cells slots mc msl (F0 m pc la st0) rest Qa (mm_A B0)) (hS : va_S (mm_A B0) s.heap H locs) (hF : ∀ st₀ t oc, Qa st₀ oc t → va_F (mm_A B0) st₀ t)
    (kk : ∀ (v : Option Value) (st₀ t : State) (H1 : Heap) (locs1 : List Loc), t.heap = H1 → s.vm.Alike t.vm → Qa st₀ (.returned v) t → va_S (mm_A B0) s.heap H1 locs1 → W p l e R s m args below meth c H1 locs1 (cells + mc) (slots + msl) Qf (F0 m (pc + 3) la (v.toList ++ rest))) : W p l e R s m args below meth c H locs cells slots Qf (F0 m pc la st0) := by
  intro T hT X
  obtain ⟨v, st₀, t, T', L, h0, X', hL, e1, e2, hq, st⟩ := hr T hT X
  obtain ⟨hz, hk⟩ := hF st₀ t _ hq
  rw [h0] at hz hk
  obtain ⟨t2, a1, b1⟩ := kk v st₀ t T'.heap (locs ++ L) e1.symm (by rw [← e2]; exact X'.warmed.alike) hq
    ⟨Nat.le_trans hS.1 (by rw [e1]; exact hz), fun q h1 h2 => by rw [e1, hk q (Nat.lt_of_lt_of_le h1 hS.1) h2]; exact hS.2.1 q h1 h2, fun q hq => by
      rcases List.mem_append.mp hq with h | h
      · exact hS.2.2 q h
      · exact hL q h⟩ T' rfl X'
  exact ⟨t2, st t2 a1, b1⟩
/-- what all kinds of calls share: 'run' says how the machine comes into the callee -/
theorem mm_invk (hml : c.maxLocals = nL) (hSx : mm_Sx tb sad B0 s s.heap) (hB : B0 ≤ s.heap.size) (hcall : mm_callOk l D B0 sad tb ms d call)
    {pc mi : Nat} {As rest : List mm_V} {st : List Value} {K : List mm_V → mm_W → Prop} (hg : mm_inv call ms lim mi ls As rest w K) (O : mm_Ok D B0 sad n0 ad0 lim R s nL ad H locs cells slots la ls w)
    (hM : ∀ M', ms[mi]? = some M' → mm_ckh M' = true)
    (run : ∀ (M' : mm_M) (Pc : Array Value → State → Prop) (Qc : Array Value → State → Outcome → State → Prop), ms[mi]? = some M' → Met l (mm_My M') (mm_wd M') (mm_rmd d M') Pc Qc (mm_Mk M') (mm_Ms M') (mm_A B0) → FrameBlind Pc → (∀ U : State, U.heap = H → s.WarmedH U.vm → Pc (As.map (mm_cv ad sad)).toArray U) → mm_cs rest ≤ 8 → cells + mm_Mk M' ≤ R.cells → slots + mm_Ms M' ≤ R.slots → va_Run p l e R s m args below meth c H locs cells slots (mm_Mk M') (mm_Ms M') (F0 m pc la st) (rest.map (mm_cv ad sad)) (Qc (As.map (mm_cv ad sad)).toArray) (mm_A B0))
    (hk : ∀ q w' ad' H1 locs1 cells1 slots1, K q w' → mm_Ok D B0 sad n0 ad0 lim R s nL ad' H1 locs1 cells1 slots1 la ls w' → W p l e R s m args below meth c H1 locs1 cells1 slots1 Qf (F0 m (pc + 3) la (q.map (mm_cv ad' sad)))) : W p l e R s m args below meth c H locs cells slots Qf (F0 m pc la st) := by
  have O' := O
  obtain ⟨o1, o2, o3, o4, hH, hS, oL, o8, o9⟩ := O
  have hPc : ∀ U : State, U.heap = H → s.WarmedH U.vm → mm_Pc D B0 sad tb ad As w (As.map (mm_cv ad sad)).toArray U := fun U hU hW =>
    ⟨rfl, by rw [hU]; exact Nat.le_trans hB hS.1, by rw [hU]; exact hH.moved hW.alike, hSx.moved hS hU hW⟩
  unfold mm_inv at hg
  split at hg
  · rename_i x1 x2 M1 hble hM1
    have h8 : mm_cs rest ≤ 8 := Nat.le_of_ble_eq_true hble
    have hs0 : mm_Mk M1 = 0 → mm_Ms M1 = 0 := by
      have := hM M1 hM1
      simp only [mm_ckh, Bool.and_eq_true, decide_eq_true_eq] at this
      exact this.1.2
    split at hg
    · rename_i hk0
      have hs0 := hs0 hk0
      have hm := hcall mi M1 hM1 As w _ hg ad
      refine mm_after (run M1 _ _ hM1 hm (mm_Pc_blind D B0 sad tb ad As w) hPc h8 (by omega) (by omega)) hS (fun st₀ t oc h => h.2) (fun v st₀ t H1 locs1 ht hvm hq hS1 => ?_)
      obtain ⟨⟨o, w', ad', hv, ⟨hww, hKq⟩, had, hH1⟩, -⟩ := hq
      cases hv
      have e : ad' = ad := funext fun k => had k (by rw [hww]; omega)
      subst e
      rw [ht] at hH1
      have hres := hk _ w' ad' H1 locs1 (cells + mm_Mk M1) (slots + mm_Ms M1) hKq (by
        refine ⟨by rw [hww]; exact o1, by rw [hww]; exact o2, by rw [hww]; exact o3, by rw [hww]; exact o4, hH1.moved hvm.symm, hS1, oL, ?_, ?_⟩
        · rw [hk0, hww]; exact o8
        · rw [hs0, hww]; exact o9)
      rw [List.map_append] at hres
      cases o <;> exact hres
    · rename_i n hk1
      obtain ⟨hck, hrm, hg⟩ := hg
      obtain ⟨c1, c2, c3⟩ := mm_chk_e hck
      obtain ⟨r1, r2⟩ := hrm
      have hm := hcall mi M1 hM1 As w _ hg ad
      refine mm_after (run M1 _ _ hM1 hm (mm_Pc_blind D B0 sad tb ad As w) hPc h8 (by omega) (by omega)) hS (fun st₀ t oc h => h.2) (fun v st₀ t H1 locs1 ht hvm hq hS1 => ?_)
      obtain ⟨⟨o, w', ad', hv, ⟨hww, hsl, hKq⟩, had, hH1⟩, -⟩ := hq
      cases hv
      rw [ht] at hH1
      have hold : ∀ j, j < w.1.length → ad' j = ad j := fun j hj => had j (Or.inl hj)
      have hres := hk _ w' ad' H1 locs1 (cells + mm_Mk M1) (slots + mm_Ms M1) hKq (by
        refine ⟨fun k hk => ?_, by omega, by omega, by omega, hH1.moved hvm.symm, hS1, mm_Lr_old c1 hold oL, by omega, by omega⟩
        rw [hww] at hk
        rw [had k (by omega), o1 k (by omega)])
      rw [List.map_append, mm_st_old c2 hold] at hres
      cases o <;> exact hres
  · exact hg.elim
end MMC
end
section
/-! ===== the three kinds of calls ===== -/
theorem mm_good {ws : List Cond} (h : ∀ w ∈ ws, w ∈ mm_GW) : GoodIn mm_GW ws := fun w hw => mm_GW_g w (h w hw)
theorem mm_wd_in {M : mm_M} (h : mm_ckh M = true) : ∀ w ∈ mm_wd M, w ∈ mm_GW := by
  intro w hw
  simp only [mm_ckh, Bool.and_eq_true] at h
  rcases List.mem_cons.mp hw with rfl | hw
  · exact mm_at_in h.1.1.1.2
  · exact hw
theorem mm_nMH_e {c : String} (h : mm_nMH c = true) : c ≠ "java/lang/invoke/MethodHandle" ∧ c ≠ "java/lang/invoke/VarHandle" := by
  simp only [mm_nMH, Bool.and_eq_true, decide_eq_true_eq] at h
  exact h
theorem mm_ckh_e {M : mm_M} (h : mm_ckh M = true) : plainName (mm_My M).cls = true ∧ ((mm_My M).cls ≠ "java/lang/invoke/MethodHandle" ∧ (mm_My M).cls ≠ "java/lang/invoke/VarHandle") ∧ mm_Ml M ≤ 20 ∧ (parseMethodDescriptor (mm_My M).desc).map (fun d => d.parameters.length) = some (mm_Mn M) := by
  simp only [mm_ckh, Bool.and_eq_true, decide_eq_true_eq] at h
  exact ⟨h.1.1.1.1.1, mm_nMH_e h.1.1.1.1.2, h.1.1.2, h.2⟩
section MMI
variable {p : Program} {l : Launch} {e : Env} {R : Room} {s : State} {m : MethodId} {args : Array Value} {below : List Frame} {meth : Method} {c : Code} {Qf : State → Prop}
variable {D : va_G} {B0 : Nat} {sad : Nat → Nat} {n0 : Nat} {ad0 : Nat → Nat} {lim : Nat × Nat} {M M' : mm_M} {ms : List mm_M} {tb : mm_T} {call : mm_F} {Q : Option mm_V → mm_W → Prop} {d : Nat}
variable {nL : Nat} {ad : Nat → Nat} {H : Heap} {locs : List Loc} {cells slots : Nat} {la : Array Slot} {ls : List (Option mm_V)} {w : mm_W}
theorem mm_room {pc : Nat} {rest : List mm_V} {st : List Value} (h : mm_cs rest ≤ 8) : 2 * (F0 m pc la st).monitorRoom + ((rest.map (mm_cv ad sad)).map fun v => v.category).sum ≤ 8 := lv_room (by rw [mm_cs_cat]; exact h)
theorem mm_b8_e {rest : List mm_V} {k : Prop} (h : mm_b8 rest k) : mm_cs rest ≤ 8 ∧ k := by
  unfold mm_b8 at h
  split at h
  · rename_i hble
    exact ⟨Nat.le_of_ble_eq_true hble, h⟩
  · exact h.elim
theorem mm_ivo_s (hx : p.tables.exec = Jvm.exec) (hb : c.code = mm_Mb M) (hml : c.maxLocals = nL) (hown : s.vm.findClass (mm_My M).cls = some m.cls) (hts : ∀ w ∈ mm_GW, w.before args s = true) (hSx : mm_Sx tb sad B0 s s.heap) (hB : B0 ≤ s.heap.size) (hcall : mm_callOk l D B0 sad tb ms d call) (hM : ∀ (mi : Nat) (M' : mm_M), ms[mi]? = some M' → mm_ckh M' = true) (hfr : d + 1 ≤ R.frames) (hlo : 40 * (d + 1) ≤ R.locals)
    {pc idx g mi p1 p2 : Nat} {st : List mm_V} {K : List mm_V → mm_W → Prop} {lk : MethodName → Bool} (hd : decode (mm_Mb M) pc = .ok (.invokestatic idx, 3)) (hck : mm_ckS0 ms g mi p1 p2 lk = true) (hlk : ∀ z, lk z = true → (∃ p0, mm_at p0 (.methodLink (mm_My M).cls idx z) = true) ∨ ∃ p0 h, mm_az p0 (.methodLinkNest (mm_My M).cls idx z h) = true) (hg : mm_ivo call ms lim mi g ls st w K) (O : mm_Ok D B0 sad n0 ad0 lim R s nL ad H locs cells slots la ls w)
    (hk : ∀ q w' ad' H1 locs1 cells1 slots1, K q w' → mm_Ok D B0 sad n0 ad0 lim R s nL ad' H1 locs1 cells1 slots1 la ls w' → W p l e R s m args below meth c H1 locs1 cells1 slots1 Qf (F0 m (pc + 3) la (q.map (mm_cv ad' sad)))) : W p l e R s m args below meth c H locs cells slots Qf (F0 m pc la (st.map (mm_cv ad sad))) := by
  unfold mm_ivo at hg
  split at hg
  · rename_i As rest hsp
    obtain ⟨hst, hlen⟩ := mm_sp_st hsp
    refine mm_invk hml hSx hB hcall hg O (hM _) (fun M1 Pc Qc hM1 hmet hbl hpc h8 hc1 hc2 => ?_) hk
    unfold mm_ckS0 at hck
    rw [hM1] at hck
    simp only [Bool.and_eq_true, decide_eq_true_eq] at hck
    obtain ⟨⟨⟨hn, w1⟩, w2⟩, w0⟩ := hck
    have hh := hM _ _ hM1
    obtain ⟨k1, k2, k3, k4⟩ := mm_ckh_e hh
    have hsk : st.map (mm_cv ad sad) = (As.map (mm_cv ad sad)).reverse ++ rest.map (mm_cv ad sad) := by rw [hst, List.map_append, List.map_reverse]
    have hR : d + 1 ≤ R.frames ∧ 8 + (mm_Ml M1 + 11) + 40 * d ≤ R.locals := ⟨hfr, by omega⟩
    rcases hlk _ w0 with ⟨p0, w0⟩ | ⟨p0, h, w0⟩
    · have hG : GoodIn mm_GW (va_wsS (mm_My M).cls idx (mm_My M1) (mm_wd M1)) := mm_good (by
        intro w hw
        unfold va_wsS at hw
        simp only [List.cons_append, List.nil_append, List.mem_cons] at hw
        rcases hw with rfl | rfl | rfl | hw
        · exact mm_at_in w0
        · exact mm_at_in w1
        · exact mm_at_in w2
        · exact mm_wd_in hh _ hw)
      exact va_runS (As := As.map (mm_cv ad sad)) (rest := rest.map (mm_cv ad sad)) ⟨hx, hb, hml, hown, hts⟩ hmet (va_cwS g hts hG rfl rfl rfl ⟨k2.1, k2.2, by rw [k4, hn]⟩ hR) ⟨hbl, hpc⟩ rfl (by rw [List.length_map, hlen]) O.2.2.2.2.2.2.1.1 hsk (mm_room h8) hd ⟨hc1, hc2⟩
    · exact va_runSN (As := As.map (mm_cv ad sad)) (rest := rest.map (mm_cv ad sad)) ⟨hx, hb, hml, hown, hts⟩ hmet ⟨va_cnB g hts (mm_good (mm_wd_in hh)) rfl rfl rfl (hSx.2.2 p0 _ w0) (hts _ (mm_at_in w2)) ⟨k2.1, k2.2, by rw [k4, hn]⟩ hR, hts _ (mm_at_in w1), trivial⟩ ⟨hbl, hpc⟩ rfl (by rw [List.length_map, hlen]) O.2.2.2.2.2.2.1.1 hsk (mm_room h8) hd ⟨hc1, hc2⟩
  · exact hg.elim
theorem mm_ivs_s (hx : p.tables.exec = Jvm.exec) (hb : c.code = mm_Mb M) (hml : c.maxLocals = nL) (hown : s.vm.findClass (mm_My M).cls = some m.cls) (hts : ∀ w ∈ mm_GW, w.before args s = true) (hSx : mm_Sx tb sad B0 s s.heap) (hB : B0 ≤ s.heap.size) (hcall : mm_callOk l D B0 sad tb ms d call) (hM : ∀ (mi : Nat) (M' : mm_M), ms[mi]? = some M' → mm_ckh M' = true) (hfr : d + 1 ≤ R.frames) (hlo : 40 * (d + 1) ≤ R.locals)
    {pc idx g : Nat} {ax : List (Nat × Nat)} {ps : List (List Nat)} {st : List mm_V} {K : List mm_V → mm_W → Prop} (hd : decode (mm_Mb M) pc = .ok (.invokestatic idx, 3)) (hck : mm_ck1 ms (mm_My M) nL pc (.invokestatic idx) 3 ax ps g 0 0 = true) (hg : mm_ivs call ms lim ax g ls st w K) (O : mm_Ok D B0 sad n0 ad0 lim R s nL ad H locs cells slots la ls w)
    (hk : ∀ q w' ad' H1 locs1 cells1 slots1, K q w' → mm_Ok D B0 sad n0 ad0 lim R s nL ad' H1 locs1 cells1 slots1 la ls w' → W p l e R s m args below meth c H1 locs1 cells1 slots1 Qf (F0 m (pc + 3) la (q.map (mm_cv ad' sad)))) : W p l e R s m args below meth c H locs cells slots Qf (F0 m pc la (st.map (mm_cv ad sad))) := by
  simp only [mm_ck1, Bool.and_eq_true] at hck
  obtain ⟨-, hck⟩ := hck
  have hlm : c.maxLocals = la.size := by rw [hml]; exact O.2.2.2.2.2.2.1.1.symm
  have hcl : cells ≤ R.cells := by have := O.2.2.2.2.2.2.2.1; omega
  have hsl : slots ≤ R.slots := by have := O.2.2.2.2.2.2.2.2; omega
  unfold mm_ivs at hg
  split at hg
  · simp only [mm_ckS] at hck
    split at hck
    · rename_i p0 p1 p2
      exact mm_ivo_s (M := M) hx hb hml hown hts hSx hB hcall hM hfr hlo hd hck (fun z hz => Or.inl ⟨p0, hz⟩) hg O hk
    · cases hck
  · simp only [mm_ckS] at hck
    split at hck
    · rename_i p0 p1 p2
      refine mm_ivo_s (M := M) hx hb hml hown hts hSx hB hcall hM hfr hlo hd hck (fun z hz => Or.inr ?_) hg O hk
      split at hz
      · exact ⟨p0, _, hz⟩
      · cases hz
    · cases hck
  · obtain ⟨x, y, r, rfl, hg⟩ := mm_2i_e hg
    obtain ⟨h8, hg⟩ := mm_b8_e hg
    simp only [mm_ckS] at hck
    split at hck
    · simp only [Bool.and_eq_true] at hck
      exact va_mmax hx hb hlm hown (hts _ (mm_at_in hck.1.1.1)) (hts _ (mm_at_in hck.1.1.2)) (hts _ (mm_at_in hck.1.2)) (hts _ (mm_at_in hck.2)) (by omega) (by rw [mm_cs_cat]; omega) hcl hsl hd (hk _ _ _ _ _ _ _ hg O)
    · cases hck
  · obtain ⟨x, y, r, rfl, hg⟩ := mm_2i_e hg
    obtain ⟨h8, hg⟩ := mm_b8_e hg
    simp only [mm_ckS] at hck
    split at hck
    · simp only [Bool.and_eq_true] at hck
      exact va_mmin hx hb hlm hown (hts _ (mm_at_in hck.1.1.1)) (hts _ (mm_at_in hck.1.1.2)) (hts _ (mm_at_in hck.1.2)) (hts _ (mm_at_in hck.2)) (by omega) (by rw [mm_cs_cat]; omega) hcl hsl hd (hk _ _ _ _ _ _ _ hg O)
    · cases hck
  · obtain ⟨x, y, r, rfl, hg⟩ := mm_2l_e hg
    obtain ⟨h8, hg⟩ := mm_b8_e hg
    simp only [mm_ckS] at hck
    split at hck
    · simp only [Bool.and_eq_true] at hck
      exact va_mmax_long hx hb hlm hown (hts _ (mm_at_in hck.1.1.1)) (hts _ (mm_at_in hck.1.1.2)) (hts _ (mm_at_in hck.1.2)) (hts _ (mm_at_in hck.2)) (by omega) (by rw [mm_cs_cat]; omega) hcl hsl hd (hk _ _ _ _ _ _ _ hg O)
    · cases hck
  · exact hg.elim
theorem mm_ivi_s (hx : p.tables.exec = Jvm.exec) (hb : c.code = mm_Mb M) (hml : c.maxLocals = nL) (hown : s.vm.findClass (mm_My M).cls = some m.cls) (hts : ∀ w ∈ mm_GW, w.before args s = true) (hSx : mm_Sx tb sad B0 s s.heap) (hB : B0 ≤ s.heap.size) (hcall : mm_callOk l D B0 sad tb ms d call) (hM : ∀ (mi : Nat) (M' : mm_M), ms[mi]? = some M' → mm_ckh M' = true) (hfr : d + 1 ≤ R.frames) (hlo : 40 * (d + 1) ≤ R.locals)
    {pc idx g : Nat} {ax : List (Nat × Nat)} {ps : List (List Nat)} {st : List mm_V} {K : List mm_V → mm_W → Prop} (hd : decode (mm_Mb M) pc = .ok (.invokespecial idx, 3)) (hck : mm_ck1 ms (mm_My M) nL pc (.invokespecial idx) 3 ax ps g 0 0 = true) (hg : mm_ivi call ms lim ax g ls st w K) (O : mm_Ok D B0 sad n0 ad0 lim R s nL ad H locs cells slots la ls w)
    (hk : ∀ q w' ad' H1 locs1 cells1 slots1, K q w' → mm_Ok D B0 sad n0 ad0 lim R s nL ad' H1 locs1 cells1 slots1 la ls w' → W p l e R s m args below meth c H1 locs1 cells1 slots1 Qf (F0 m (pc + 3) la (q.map (mm_cv ad' sad)))) : W p l e R s m args below meth c H locs cells slots Qf (F0 m pc la (st.map (mm_cv ad sad))) := by
  unfold mm_ivi at hg
  split at hg
  · rename_i a mi axr x1 As r rest hsp
    obtain ⟨hst, hlen⟩ := mm_sp_st hsp
    refine mm_invk hml hSx hB hcall hg O (hM _) (fun M1 Pc Qc hM1 hmet hbl hpc h8 hc1 hc2 => ?_) hk
    simp only [mm_ck1, Bool.and_eq_true] at hck
    obtain ⟨-, hck⟩ := hck
    split at hck
    · rename_i e1
      cases e1
    · rename_i a2 mi2 axr2 p0 p1 p2 e1
      cases e1
      rw [hM1] at hck
      simp only [Bool.and_eq_true, decide_eq_true_eq] at hck
      obtain ⟨⟨⟨⟨⟨hn, hnm⟩, hrt⟩, w1⟩, w2⟩, w0⟩ := hck
      have hh := hM _ _ hM1
      obtain ⟨k1, k2, k3, k4⟩ := mm_ckh_e hh
      have hG : GoodIn mm_GW (mm_wd M1) := mm_good (mm_wd_in hh)
      have hw : mm_wd M1 = Cond.code (mm_My M1) (mm_Mb M1) (mm_Ml M1) none :: mm_GW := by rw [← hrt]; rfl
      have hstk : st.map (mm_cv ad sad) = (As.map (mm_cv ad sad)).reverse ++ Value.ref (ad r) :: rest.map (mm_cv ad sad) := by
        rw [hst, List.map_append, List.map_reverse]
        rfl
      have hR : d + 1 ≤ R.frames ∧ 8 + (mm_Ml M1 + 11) + 40 * d ≤ R.locals := ⟨hfr, by omega⟩
      split at w0
      · exact va_runI (As := As.map (mm_cv ad sad)) (b := ad r) (rest := rest.map (mm_cv ad sad)) ⟨hx, hb, hml, hown, hts⟩ hmet (cwI g hts hG hw rfl rfl (hts _ (mm_at_in w2)) (hts _ (mm_at_in w0)) (hts _ (mm_at_in w1)) hnm ⟨k2.1, k2.2, by rw [k4, hn]⟩ hR) ⟨hbl, hpc⟩ rfl (by rw [List.length_map, hlen]) O.2.2.2.2.2.2.1.1 hstk (mm_room h8) hd ⟨hc1, hc2⟩
      · split at w0
        · rename_i h hp0
          have hz := hSx.2.2 p0 _ w0
          exact va_runIN (As := As.map (mm_cv ad sad)) (b := ad r) (rest := rest.map (mm_cv ad sad)) ⟨hx, hb, hml, hown, hts⟩ hmet ⟨va_cnB g hts hG hw rfl rfl hz (hts _ (mm_at_in w2)) ⟨k2.1, k2.2, by rw [k4, hn]⟩ hR, hnm, hts _ (mm_at_in w1)⟩ ⟨hbl, hpc⟩ rfl (by rw [List.length_map, hlen]) O.2.2.2.2.2.2.1.1 hstk (mm_room h8) hd ⟨hc1, hc2⟩
        · cases w0
    · cases hck
  · rename_i x1 As r rest hsp
    obtain ⟨hst, hlen⟩ := mm_sp_st hsp
    split at hg
    · rename_i hble
      have h8 : mm_cs rest ≤ 8 := Nat.le_of_ble_eq_true hble
      simp only [mm_ck1, Bool.and_eq_true] at hck
      obtain ⟨-, hck⟩ := hck
      split at hck
      · rename_i p0 p1 p2 e1
        simp only [Bool.and_eq_true, decide_eq_true_eq] at hck
        obtain ⟨⟨⟨hg0, w0⟩, w1⟩, w2⟩ := hck
        have hAs : As = [] := List.length_eq_zero_iff.mp (by rw [hlen, hg0])
        have hst2 : st.map (mm_cv ad sad) = Value.ref (ad r) :: rest.map (mm_cv ad sad) := by
          rw [hst, hAs]
          rfl
        rw [hst2]
        have h12 := mm_room (m := m) (pc := pc) (la := la) (ad := ad) (sad := sad) (st := Value.ref (ad r) :: rest.map (mm_cv ad sad)) h8
        refine W.objInit hx hb hown (hts _ (mm_at_in w0)) (hts _ (mm_at_in w1)) (hts _ (mm_at_in w2)) rfl (by rw [hml]; exact O.2.2.2.2.2.2.1.1) rfl hd (by omega) (by omega) ?_
        exact hk rest w ad H locs cells slots hg O
      · rename_i e1
        cases e1
      · cases hck
    · exact hg.elim
  · exact hg.elim
theorem mm_ckvs_in {y : MethodName} {idx g : Nat} : ∀ {qs : List (Nat × Nat)} {ps : List (List Nat)} {q : Nat × Nat}, mm_ckvs ms y idx g qs ps = true → q ∈ qs → ∃ pl, mm_ckv ms y idx g q pl = true
  | [], _, _, _, hq => by cases hq
  | q :: qs, [], _, h, _ => by simp [mm_ckvs] at h
  | q :: qs, pl :: ps, q1, h, hq => by
    simp only [mm_ckvs, Bool.and_eq_true] at h
    rcases List.mem_cons.mp hq with rfl | hq
    · exact ⟨pl, h.1⟩
    · exact mm_ckvs_in h.2 hq
theorem mm_ivv_s (hx : p.tables.exec = Jvm.exec) (hb : c.code = mm_Mb M) (hml : c.maxLocals = nL) (hown : s.vm.findClass (mm_My M).cls = some m.cls) (hts : ∀ w ∈ mm_GW, w.before args s = true) (hSx : mm_Sx tb sad B0 s s.heap) (hB : B0 ≤ s.heap.size) (hcall : mm_callOk l D B0 sad tb ms d call) (hM : ∀ (mi : Nat) (M' : mm_M), ms[mi]? = some M' → mm_ckh M' = true) (hfr : d + 1 ≤ R.frames) (hlo : 40 * (d + 1) ≤ R.locals)
    {pc idx g : Nat} {ax : List (Nat × Nat)} {ps : List (List Nat)} {st : List mm_V} {K : List mm_V → mm_W → Prop} (hd : decode (mm_Mb M) pc = .ok (.invokevirtual idx, 3)) (hck : mm_ckvs ms (mm_My M) idx g ax ps = true) (hg : mm_ivv call ms lim ax g ls st w K) (O : mm_Ok D B0 sad n0 ad0 lim R s nL ad H locs cells slots la ls w)
    (hk : ∀ q w' ad' H1 locs1 cells1 slots1, K q w' → mm_Ok D B0 sad n0 ad0 lim R s nL ad' H1 locs1 cells1 slots1 la ls w' → W p l e R s m args below meth c H1 locs1 cells1 slots1 Qf (F0 m (pc + 3) la (q.map (mm_cv ad' sad)))) : W p l e R s m args below meth c H locs cells slots Qf (F0 m pc la (st.map (mm_cv ad sad))) := by
  unfold mm_ivv at hg
  split at hg
  · rename_i As r rest hsp
    obtain ⟨hst, hlen⟩ := mm_sp_st hsp
    split at hg
    · rename_i ci fs hr
      split at hg
      · rename_i mi hmi
        obtain ⟨pl, hq⟩ := mm_ckvs_in hck (mm_fi_in hmi)
        refine mm_invk hml hSx hB hcall hg O (hM _) (fun M1 Pc Qc hM1 hmet hbl hpc h8 hc1 hc2 => ?_) hk
        obtain ⟨ca, tys, hK, hP, hD, hct⟩ := O.2.2.2.2.1
        have hh := hM _ _ hM1
        obtain ⟨k1, k2, k3, k4⟩ := mm_ckh_e hh
        have hG : ∀ w ∈ mm_wd M1, w ∈ mm_GW := mm_wd_in hh
        have hstk : st.map (mm_cv ad sad) = (As.map (mm_cv ad sad)).reverse ++ Value.ref (ad r) :: rest.map (mm_cv ad sad) := by
          rw [hst, List.map_append, List.map_reverse]
          rfl
        have hR : d + 1 ≤ R.frames ∧ 8 + (mm_Ml M1 + 11) + 40 * d ≤ R.locals := ⟨hfr, by omega⟩
        have hsz : la.size = nL := O.2.2.2.2.2.2.1.1
        unfold mm_ckv at hq
        split at hq
        · rename_i C T N M2 hC hM2
          dsimp only at hC hM2
          have : M2 = M1 := Option.some.inj (hM2.symm.trans hM1)
          subst this
          have hrecv := va_recv hK hP hC (mm_ws_at (ad := ad) (ca := ca) hr)
          simp only [Bool.and_eq_true, decide_eq_true_eq] at hq
          obtain ⟨hn, hq⟩ := hq
          have h4 : (parseMethodDescriptor (mm_My M2).desc).map (fun d => d.parameters.length) = some g := by rw [k4, hn]
          split at hq
          · rename_i p0 p1 p2 p3
            simp only [Bool.and_eq_true, decide_eq_true_eq] at hq
            obtain ⟨⟨⟨⟨hyC, w0⟩, w1⟩, w2⟩, w3⟩ := hq
            have hGI : GoodIn mm_GW (wsV (mm_My M).cls idx C (mm_My M2) (mm_wd M2)) := mm_good (by
              intro w hw
              unfold wsV at hw
              simp only [List.cons_append, List.nil_append, List.mem_cons] at hw
              rcases hw with rfl | rfl | rfl | rfl | hw
              · exact mm_at_in w0
              · exact mm_at_in w1
              · exact mm_at_in w2
              · exact mm_at_in w3
              · exact hG _ hw)
            exact va_runV (As := As.map (mm_cv ad sad)) (b := ad r) (C := C) (rest := rest.map (mm_cv ad sad)) ⟨hx, hb, hml, hown, hts⟩ hmet (cwV g hts hGI rfl rfl rfl ⟨hyC, k2.1, k2.2, h4⟩ hR) ⟨hbl, hrecv, hpc⟩ rfl (by rw [List.length_map, hlen]) hsz hstk (mm_room h8) hd ⟨hc1, hc2⟩
          · rename_i p0 p1 p2 p3 p4
            split at hq
            · rename_i o1 o2 x o3 o o4 o5 e0 e1
              simp only [Bool.and_eq_true, decide_eq_true_eq] at hq
              obtain ⟨⟨⟨⟨⟨⟨w0, w1⟩, w2⟩, w3⟩, w4⟩, hy⟩, hnM⟩ := hq
              have hGI : GoodIn mm_GW (va_wsU (mm_My M).cls idx C o x (mm_My M2) (mm_wd M2)) := mm_good (by
                intro w hw
                unfold va_wsU at hw
                simp only [List.cons_append, List.nil_append, List.mem_cons] at hw
                rcases hw with rfl | rfl | rfl | rfl | rfl | hw
                · exact mm_at_in w0
                · exact mm_at_in w1
                · exact mm_at_in w2
                · exact mm_at_in w3
                · exact mm_at_in w4
                · exact hG _ hw)
              have hxd : x.desc = (mm_My M2).desc := by rw [hy]
              exact va_runU (As := As.map (mm_cv ad sad)) (b := ad r) (C := C) (owner := o) (rest := rest.map (mm_cv ad sad)) ⟨hx, hb, hml, hown, hts⟩ hmet (va_cwU g hts hGI rfl rfl rfl hy ⟨(mm_nMH_e hnM).1, (mm_nMH_e hnM).2, by rw [hxd]; exact h4⟩ hR) ⟨hbl, hrecv, hpc⟩ rfl (by rw [List.length_map, hlen]) hsz hstk (mm_room h8) hd ⟨hc1, hc2⟩
            · cases hq
          · rename_i p0 p1 p2 p3 p4 p5
            split at hq
            · rename_i o1 o2 x o3 o o4 o5 e0 e1
              simp only [Bool.and_eq_true, decide_eq_true_eq] at hq
              obtain ⟨⟨⟨⟨⟨⟨⟨w0, w1⟩, w2⟩, w3⟩, w4⟩, w5⟩, hy⟩, hnM⟩ := hq
              have hGI : GoodIn mm_GW (va_wsU (mm_My M).cls idx C o x (mm_My M2) (mm_wd M2)) := mm_good (by
                intro w hw
                unfold va_wsU at hw
                simp only [List.cons_append, List.nil_append, List.mem_cons] at hw
                rcases hw with rfl | rfl | rfl | rfl | rfl | hw
                · exact mm_at_in w0
                · exact mm_at_in w1
                · exact mm_at_in w2
                · exact mm_at_in w3
                · exact mm_at_in w4
                · exact hG _ hw)
              exact va_runU (As := As.map (mm_cv ad sad)) (b := ad r) (C := C) (owner := o) (rest := rest.map (mm_cv ad sad)) ⟨hx, hb, hml, hown, hts⟩ hmet (va_cwA g hts hGI rfl rfl rfl (hSx.2.2 p5 _ w5) ⟨(mm_nMH_e hnM).1, (mm_nMH_e hnM).2, by rw [← hy]; exact h4⟩ hR) ⟨hbl, hrecv, hpc⟩ rfl (by rw [List.length_map, hlen]) hsz hstk (mm_room h8) hd ⟨hc1, hc2⟩
            · cases hq
          · cases hq
        · cases hq
      · exact hg.elim
    · exact hg.elim
  · exact hg.elim
end MMI
end
section
/-! ===== a step of the abstract machine is a step of the machine ===== -/
/-- multianewarray, as the rest of the rows want it (shown further on) -/
def mm_mnaL (p : Program) (l : Launch) (e : Env) (R : Room) (s : State) (m : MethodId) (args : Array Value) (below : List Frame) (meth : Method) (c : Code) (Qf : State → Prop) (D : va_G) (B0 : Nat) (sad : Nat → Nat) (n0 : Nat) (ad0 : Nat → Nat) (lim : Nat × Nat) (nL : Nat) (y : MethodName) (bytes : ByteArray) : Prop :=
  ∀ (pc idx t p0 p1 p2 : Nat) (a : Nat) (axr : List (Nat × Nat)) (ad : Nat → Nat) (H : Heap) (locs : List Loc) (cells slots : Nat) (la : Array Slot) (ls : List (Option mm_V)) (st : List mm_V) (w : mm_W) (K : mm_V → List mm_V → mm_W → Prop), decode bytes pc = .ok (.multianewarray idx 2, 4) → mm_at p0 (.classLink y.cls idx ("[" ++ (FieldType.array (mm_ty t)).toString)) = true → mm_at p1 (.arrayClass (mm_ty t)) = true → mm_az p2 (.arrayOver (.array (mm_ty t))) = true → t < 2 → mm_nmu lim ((t, a) :: axr) ls st w K → mm_Ok D B0 sad n0 ad0 lim R s nL ad H locs cells slots la ls w →
    (∀ v q w' ad' H1 cells1 slots1, K v q w' → mm_Ok D B0 sad n0 ad0 lim R s nL ad' H1 locs cells1 slots1 la ls w' → W p l e R s m args below meth c H1 locs cells1 slots1 Qf (F0 m (pc + 4) la ((v :: q).map (mm_cv ad' sad)))) → W p l e R s m args below meth c H locs cells slots Qf (F0 m pc la (st.map (mm_cv ad sad)))
section MMT
variable {p : Program} {l : Launch} {e : Env} {R : Room} {s : State} {m : MethodId} {args : Array Value} {below : List Frame} {meth : Method} {c : Code} {Qf : State → Prop}
variable {D : va_G} {B0 : Nat} {sad : Nat → Nat} {n0 : Nat} {ad0 : Nat → Nat} {lim : Nat × Nat} {M : mm_M} {ms : List mm_M} {tb : mm_T} {call : mm_F} {Q : Option mm_V → mm_W → Prop} {d : Nat}
set_option maxHeartbeats 4000000 in
theorem mm_step (hx : p.tables.exec = Jvm.exec) (hb : c.code = mm_Mb M) (hml : c.maxLocals = mm_Ml M) (hown : s.vm.findClass (mm_My M).cls = some m.cls) (hts : ∀ w ∈ mm_GW, w.before args s = true) (hcw : ∀ (ci : Nat) (q : vw_C), mm_cl[ci]? = some q → ∀ w ∈ u_ws q.1 q.2.1 q.2.2, w ∈ mm_GW) (hinit : (mm_My M).name = "<init>" → meth.name = "<init>") (hSx : mm_Sx tb sad B0 s s.heap) (hB : B0 ≤ s.heap.size) (hcall : mm_callOk l D B0 sad tb ms d call) (hM : ∀ (mi : Nat) (M' : mm_M), ms[mi]? = some M' → mm_ckh M' = true) (hfr : d + 1 ≤ R.frames) (hlo : 40 * (d + 1) ≤ R.locals) (hck0 : mm_cks ms (mm_My M) (mm_Mb M) (mm_Ml M) 0 (mm_Mc M) = true)
    (hmna : mm_mnaL p l e R s m args below meth c Qf D B0 sad n0 ad0 lim (mm_Ml M) (mm_My M) (mm_Mb M))
    (hret : ∀ (pc : Nat) (o : Option mm_V) (w : mm_W) (ad : Nat → Nat) (H : Heap) (locs : List Loc) (cells slots : Nat) (la : Array Slot) (ls : List (Option mm_V)), mm_rti M pc o → Q o w → mm_Ok D B0 sad n0 ad0 lim R s (mm_Ml M) ad H locs cells slots la ls w → W p l e R s m args below meth c H locs cells slots Qf (F0 m pc la (o.toList.map (mm_cv ad sad))))
    (pc : Nat) (ls : List (Option mm_V)) (st : List mm_V) (w : mm_W) (h : mm_stp call ms tb M lim Q (mm_Rel p l e R s m args below meth c Qf D B0 sad n0 ad0 lim (mm_Ml M)) pc ls st w) : mm_Rel p l e R s m args below meth c Qf D B0 sad n0 ad0 lim (mm_Ml M) pc ls st w := by
  intro ad H locs cells slots la O
  have hck := mm_cks_at (mm_Mc M) 0 pc hck0
  rw [Nat.zero_add] at hck
  unfold mm_stp at h
  have hL := O.2.2.2.2.2.2.1
  have hH := O.2.2.2.2.1
  have hS := O.2.2.2.2.2.1
  generalize (mm_Mc M).getD pc mm_nop = e0 at h hck
  obtain ⟨i, len, ax, ps, g, c1, c8, q0⟩ := e0
  dsimp only at h
  cases i with
  | iconst n =>
    simp only [mm_ck, mm_ck1, Bool.and_eq_true, decide_eq_true_eq] at hck
    obtain ⟨rfl, hd, rfl, hc⟩ := hck
    exact lv_iconst hx hb hd hc (h ad H locs cells slots la O)
  | bipush n =>
    simp only [mm_ck, mm_ck1, Bool.and_eq_true, decide_eq_true_eq] at hck
    obtain ⟨rfl, hd, rfl, hc⟩ := hck
    exact lv_bipush hx hb hd hc (h ad H locs cells slots la O)
  | sipush n =>
    simp only [mm_ck, mm_ck1, Bool.and_eq_true, decide_eq_true_eq] at hck
    obtain ⟨rfl, hd, rfl, hc⟩ := hck
    exact lv_sipush hx hb hd hc (h ad H locs cells slots la O)
  | ldc n =>
    simp only [mm_ck, mm_ck1, Bool.and_eq_true, decide_eq_true_eq] at hck
    obtain ⟨rfl, hd, rfl, hc⟩ := hck
    split at hc
    · exact lv_ldc hx hb hown (hts _ (mm_at_in hc)) hd (h ad H locs cells slots la O)
    · cases hc
  | lconst n =>
    simp only [mm_ck, mm_ck1, Bool.and_eq_true, decide_eq_true_eq] at hck
    obtain ⟨rfl, hd, rfl, hc⟩ := hck
    exact lv_lconst hx hb hd hc (h ad H locs cells slots la O)
  | ldc2_w n =>
    simp only [mm_ck, mm_ck1, Bool.and_eq_true, decide_eq_true_eq] at hck
    obtain ⟨rfl, hd, rfl, hc⟩ := hck
    split at hc
    · exact lv_ldc2 hx hb hown (hts _ (mm_at_in hc)) hd (h ad H locs cells slots la O)
    · cases hc
  | iload k =>
    simp only [mm_ck, mm_ck1, Bool.and_eq_true, decide_eq_true_eq] at hck
    obtain ⟨rfl, hd, rfl, rfl⟩ := hck
    obtain ⟨x, hv, hk⟩ := mm_oI_e h
    exact lv_iload hx hb hd (mm_Lr_at hL hv) (hk ad H locs cells slots la O)
  | iload_n k =>
    simp only [mm_ck, mm_ck1, Bool.and_eq_true, decide_eq_true_eq] at hck
    obtain ⟨rfl, hd, rfl, hg⟩ := hck
    obtain ⟨x, hv, hk⟩ := mm_oI_e h
    exact lv_iload_n hx hb hd hg (mm_Lr_at hL hv) (hk ad H locs cells slots la O)
  | lload k =>
    simp only [mm_ck, mm_ck1, Bool.and_eq_true, decide_eq_true_eq] at hck
    obtain ⟨rfl, hd, rfl, rfl⟩ := hck
    obtain ⟨x, hv, hk⟩ := mm_oL_e h
    exact lv_lload hx hb hd (mm_Lr_at hL hv) (hk ad H locs cells slots la O)
  | lload_n k =>
    simp only [mm_ck, mm_ck1, Bool.and_eq_true, decide_eq_true_eq] at hck
    obtain ⟨rfl, hd, rfl, hg⟩ := hck
    obtain ⟨x, hv, hk⟩ := mm_oL_e h
    exact lv_lload_n hx hb hd hg (mm_Lr_at hL hv) (hk ad H locs cells slots la O)
  | aload k =>
    simp only [mm_ck, mm_ck1, Bool.and_eq_true, decide_eq_true_eq] at hck
    obtain ⟨rfl, hd, rfl, rfl⟩ := hck
    obtain ⟨v, hv, hk⟩ := mm_oA_e h
    have hl := mm_Lr_at hL hv
    have hkk := hk ad H locs cells slots la O
    rcases v with x | x | x
    · exact lv_aload hx hb hd hl hkk
    · exact lv_aload hx hb hd hl hkk
    · exact lv_aloadN hx hb hd hl hkk
  | aload_n k =>
    simp only [mm_ck, mm_ck1, Bool.and_eq_true, decide_eq_true_eq] at hck
    obtain ⟨rfl, hd, rfl, hg⟩ := hck
    obtain ⟨v, hv, hk⟩ := mm_oA_e h
    have hl := mm_Lr_at hL hv
    have hkk := hk ad H locs cells slots la O
    rcases v with x | x | x
    · exact lv_aload_n hx hb hd hg hl hkk
    · exact lv_aload_n hx hb hd hg hl hkk
    · exact lv_aload_nN hx hb hd hg hl hkk
  | istore k =>
    simp only [mm_ck, mm_ck1, Bool.and_eq_true, decide_eq_true_eq] at hck
    obtain ⟨rfl, hd, ⟨rfl, rfl⟩, hn⟩ := hck
    obtain ⟨x, r, rfl, hk⟩ := mm_1i_e h
    exact lv_istore hx hb hd hL hn rfl (fun la' hl' => hk ad H locs cells slots la' (O.st1 (mm_lv_weak hl' (mm_s1_lv ad sad ls k (mm_I x)))))
  | istore_n k =>
    simp only [mm_ck, mm_ck1, Bool.and_eq_true, decide_eq_true_eq] at hck
    obtain ⟨rfl, hd, ⟨rfl, hg⟩, hn⟩ := hck
    obtain ⟨x, r, rfl, hk⟩ := mm_1i_e h
    exact lv_istore_n hx hb hd hg hL hn rfl (fun la' hl' => hk ad H locs cells slots la' (O.st1 (mm_lv_weak hl' (mm_s1_lv ad sad ls g (mm_I x)))))
  | lstore k =>
    simp only [mm_ck, mm_ck1, Bool.and_eq_true, decide_eq_true_eq] at hck
    obtain ⟨rfl, hd, ⟨rfl, rfl⟩, hn⟩ := hck
    obtain ⟨x, r, rfl, hk⟩ := mm_1l_e h
    exact lv_lstore hx hb hd hL hn rfl (fun la' hl' => hk ad H locs cells slots la' (O.st1 (mm_lv_weak hl' (mm_s2_lv ad sad ls k (mm_L x)))))
  | lstore_n k =>
    simp only [mm_ck, mm_ck1, Bool.and_eq_true, decide_eq_true_eq] at hck
    obtain ⟨rfl, hd, ⟨rfl, hg⟩, hn⟩ := hck
    obtain ⟨x, r, rfl, hk⟩ := mm_1l_e h
    exact lv_lstore_n hx hb hd hg hL hn rfl (fun la' hl' => hk ad H locs cells slots la' (O.st1 (mm_lv_weak hl' (mm_s2_lv ad sad ls g (mm_L x)))))
  | astore k =>
    simp only [mm_ck, mm_ck1, Bool.and_eq_true, decide_eq_true_eq] at hck
    obtain ⟨rfl, hd, ⟨rfl, rfl⟩, hn⟩ := hck
    obtain ⟨x, r, rfl, hk⟩ := mm_1r_e h
    exact lv_astore hx hb hd hL hn rfl (fun la' hl' => hk ad H locs cells slots la' (O.st1 (mm_lv_weak hl' (mm_s1_lv ad sad ls k (mm_R x)))))
  | astore_n k =>
    simp only [mm_ck, mm_ck1, Bool.and_eq_true, decide_eq_true_eq] at hck
    obtain ⟨rfl, hd, ⟨rfl, hg⟩, hn⟩ := hck
    obtain ⟨x, r, rfl, hk⟩ := mm_1r_e h
    exact lv_astore_n hx hb hd hg hL hn rfl (fun la' hl' => hk ad H locs cells slots la' (O.st1 (mm_lv_weak hl' (mm_s1_lv ad sad ls g (mm_R x)))))
  | iinc k n =>
    simp only [mm_ck, mm_ck1, Bool.and_eq_true, decide_eq_true_eq] at hck
    obtain ⟨rfl, hd, ⟨⟨rfl, rfl⟩, hn⟩, hc⟩ := hck
    obtain ⟨x, hv, hk⟩ := mm_oI_e h
    obtain ⟨k9, hk9⟩ := List.getElem?_of_mem (mm_lv_mem.mpr ⟨_, mm_getD hv, rfl⟩ : (k, Value.int x) ∈ mm_lv ad sad ls)
    exact lv_iinc (v := x + c1) hx hb hd hL hk9 (by rw [hc]) hn rfl (fun la' hl' => hk ad H locs cells slots la' (O.st1 (mm_lv_weak hl' (mm_s1_lv ad sad ls k (mm_I (x + c1))))))
  | iadd =>
    simp only [mm_ck, mm_ck1, Bool.and_eq_true, decide_eq_true_eq] at hck
    obtain ⟨rfl, hd, rfl⟩ := hck
    obtain ⟨x, y, r, rfl, hk⟩ := mm_2i_e h
    exact lv_iadd hx hb hd (hk ad H locs cells slots la O)
  | isub =>
    simp only [mm_ck, mm_ck1, Bool.and_eq_true, decide_eq_true_eq] at hck
    obtain ⟨rfl, hd, rfl⟩ := hck
    obtain ⟨x, y, r, rfl, hk⟩ := mm_2i_e h
    exact lv_isub hx hb hd (hk ad H locs cells slots la O)
  | imul =>
    simp only [mm_ck, mm_ck1, Bool.and_eq_true, decide_eq_true_eq] at hck
    obtain ⟨rfl, hd, rfl⟩ := hck
    obtain ⟨x, y, r, rfl, hk⟩ := mm_2i_e h
    exact lv_imul hx hb hd (hk ad H locs cells slots la O)
  | irem =>
    simp only [mm_ck, mm_ck1, Bool.and_eq_true, decide_eq_true_eq] at hck
    obtain ⟨rfl, hd, rfl⟩ := hck
    obtain ⟨x, y, r, rfl, hne, hk⟩ := mm_2i_e h
    exact lv_irem hx hb hd hne (hk ad H locs cells slots la O)
  | iand =>
    simp only [mm_ck, mm_ck1, Bool.and_eq_true, decide_eq_true_eq] at hck
    obtain ⟨rfl, hd, rfl⟩ := hck
    obtain ⟨x, y, r, rfl, hk⟩ := mm_2i_e h
    exact lv_iand hx hb hd (hk ad H locs cells slots la O)
  | ior =>
    simp only [mm_ck, mm_ck1, Bool.and_eq_true, decide_eq_true_eq] at hck
    obtain ⟨rfl, hd, rfl⟩ := hck
    obtain ⟨x, y, r, rfl, hk⟩ := mm_2i_e h
    exact lv_ior hx hb hd (hk ad H locs cells slots la O)
  | ixor =>
    simp only [mm_ck, mm_ck1, Bool.and_eq_true, decide_eq_true_eq] at hck
    obtain ⟨rfl, hd, rfl⟩ := hck
    obtain ⟨x, y, r, rfl, hk⟩ := mm_2i_e h
    exact lv_ixor hx hb hd (hk ad H locs cells slots la O)
  | ishl =>
    simp only [mm_ck, mm_ck1, Bool.and_eq_true, decide_eq_true_eq] at hck
    obtain ⟨rfl, hd, rfl⟩ := hck
    obtain ⟨x, y, r, rfl, hk⟩ := mm_2i_e h
    exact lv_ishl hx hb hd (hk ad H locs cells slots la O)
  | ishr =>
    simp only [mm_ck, mm_ck1, Bool.and_eq_true, decide_eq_true_eq] at hck
    obtain ⟨rfl, hd, rfl⟩ := hck
    obtain ⟨x, y, r, rfl, hk⟩ := mm_2i_e h
    exact lv_ishr hx hb hd (hk ad H locs cells slots la O)
  | ladd =>
    simp only [mm_ck, mm_ck1, Bool.and_eq_true, decide_eq_true_eq] at hck
    obtain ⟨rfl, hd, rfl⟩ := hck
    obtain ⟨x, y, r, rfl, hk⟩ := mm_2l_e h
    exact lv_ladd hx hb hd (hk ad H locs cells slots la O)
  | lsub =>
    simp only [mm_ck, mm_ck1, Bool.and_eq_true, decide_eq_true_eq] at hck
    obtain ⟨rfl, hd, rfl⟩ := hck
    obtain ⟨x, y, r, rfl, hk⟩ := mm_2l_e h
    exact lv_lsub hx hb hd (hk ad H locs cells slots la O)
  | lmul =>
    simp only [mm_ck, mm_ck1, Bool.and_eq_true, decide_eq_true_eq] at hck
    obtain ⟨rfl, hd, rfl⟩ := hck
    obtain ⟨x, y, r, rfl, hk⟩ := mm_2l_e h
    exact lv_lmul hx hb hd (hk ad H locs cells slots la O)
  | ldiv =>
    simp only [mm_ck, mm_ck1, Bool.and_eq_true, decide_eq_true_eq] at hck
    obtain ⟨rfl, hd, rfl⟩ := hck
    obtain ⟨x, y, r, rfl, hne, hk⟩ := mm_2l_e h
    exact lv_ldiv hx hb hd hne (hk ad H locs cells slots la O)
  | lrem =>
    simp only [mm_ck, mm_ck1, Bool.and_eq_true, decide_eq_true_eq] at hck
    obtain ⟨rfl, hd, rfl⟩ := hck
    obtain ⟨x, y, r, rfl, hne, hk⟩ := mm_2l_e h
    exact lv_lrem hx hb hd hne (hk ad H locs cells slots la O)
  | lcmp =>
    simp only [mm_ck, mm_ck1, Bool.and_eq_true, decide_eq_true_eq] at hck
    obtain ⟨rfl, hd, rfl⟩ := hck
    obtain ⟨x, y, r, rfl, hk⟩ := mm_2l_e h
    exact W.lcmp hx hb hd (hk ad H locs cells slots la O)
  | i2l =>
    simp only [mm_ck, mm_ck1, Bool.and_eq_true, decide_eq_true_eq] at hck
    obtain ⟨rfl, hd, rfl⟩ := hck
    obtain ⟨x, r, rfl, hk⟩ := mm_1i_e h
    exact lv_i2l hx hb hd rfl (hk ad H locs cells slots la O)
  | l2i =>
    simp only [mm_ck, mm_ck1, Bool.and_eq_true, decide_eq_true_eq] at hck
    obtain ⟨rfl, hd, rfl⟩ := hck
    obtain ⟨x, r, rfl, hk⟩ := mm_1l_e h
    exact lv_l2i hx hb hd rfl (hk ad H locs cells slots la O)
  | dup =>
    simp only [mm_ck, mm_ck1, Bool.and_eq_true, decide_eq_true_eq] at hck
    obtain ⟨rfl, hd, rfl⟩ := hck
    obtain ⟨v, r, rfl, hc, hk⟩ := mm_1c_e h
    exact lv_dup hx hb hd (mm_vcat hc) (hk ad H locs cells slots la O)
  | pop =>
    simp only [mm_ck, mm_ck1, Bool.and_eq_true, decide_eq_true_eq] at hck
    obtain ⟨rfl, hd, rfl⟩ := hck
    obtain ⟨v, r, rfl, hc, hk⟩ := mm_1c_e h
    exact lv_pop hx hb hd (mm_vcat hc) (hk ad H locs cells slots la O)
  | dup_x1 =>
    simp only [mm_ck, mm_ck1, Bool.and_eq_true, decide_eq_true_eq] at hck
    obtain ⟨rfl, hd, rfl⟩ := hck
    obtain ⟨v, r, rfl, hc, hk⟩ := mm_1c_e h
    obtain ⟨u, q, rfl, hc2, hk⟩ := mm_1c_e hk
    exact lv_dup_x1 hx hb hd (mm_vcat hc) (mm_vcat hc2) (hk ad H locs cells slots la O)
  | dup2 =>
    simp only [mm_ck, mm_ck1, Bool.and_eq_true, decide_eq_true_eq] at hck
    obtain ⟨rfl, hd, rfl⟩ := hck
    obtain ⟨v, r, rfl, hc, hk⟩ := mm_1c_e h
    obtain ⟨u, q, rfl, hc2, hk⟩ := mm_1c_e hk
    exact lv_dup2_11 hx hb hd (mm_vcat hc) (mm_vcat hc2) (hk ad H locs cells slots la O)
  | goto o =>
    simp only [mm_ck, mm_ck1, Bool.and_eq_true, decide_eq_true_eq] at hck
    obtain ⟨rfl, hd, rfl, hc⟩ := hck
    obtain ⟨a, t, r, rfl, hk⟩ := mm_t1_e h
    simp only [decide_eq_true_eq] at hc
    exact lv_goto hx hb hd hc (hk ad H locs cells slots la O)
  | ifCond cd o =>
    simp only [mm_ck, mm_ck1, Bool.and_eq_true, decide_eq_true_eq] at hck
    obtain ⟨rfl, hd, rfl, hc⟩ := hck
    obtain ⟨a, t, r, rfl, hk⟩ := mm_t1_e h
    obtain ⟨x, q, rfl, hk⟩ := mm_1i_e hk
    simp only [decide_eq_true_eq] at hc
    cases cd with
    | eq => exact lv_if_eq hx hb hd hc (fun z => hk.1 z ad H locs cells slots la O) (fun z => hk.2 z ad H locs cells slots la O)
    | ne => exact lv_if_ne hx hb hd hc (fun z => hk.1 z ad H locs cells slots la O) (fun z => hk.2 z ad H locs cells slots la O)
    | lt => exact lv_if_lt hx hb hd hc (fun z => hk.1 z ad H locs cells slots la O) (fun z => hk.2 z ad H locs cells slots la O)
    | ge => exact lv_if_ge hx hb hd hc (fun z => hk.1 z ad H locs cells slots la O) (fun z => hk.2 z ad H locs cells slots la O)
    | gt => exact lv_if_gt hx hb hd hc (fun z => hk.1 z ad H locs cells slots la O) (fun z => hk.2 z ad H locs cells slots la O)
    | le => exact lv_if_le hx hb hd hc (fun z => hk.1 z ad H locs cells slots la O) (fun z => hk.2 z ad H locs cells slots la O)
  | if_icmp cd o =>
    simp only [mm_ck, mm_ck1, Bool.and_eq_true, decide_eq_true_eq] at hck
    obtain ⟨rfl, hd, rfl, hc⟩ := hck
    obtain ⟨a, t, r, rfl, hk⟩ := mm_t1_e h
    obtain ⟨x, y, q, rfl, hk⟩ := mm_2i_e hk
    simp only [decide_eq_true_eq] at hc
    cases cd with
    | eq => exact lv_icmp_eq hx hb hd hc (fun z => hk.1 z ad H locs cells slots la O) (fun z => hk.2 z ad H locs cells slots la O)
    | ne => exact lv_icmp_ne hx hb hd hc (fun z => hk.1 z ad H locs cells slots la O) (fun z => hk.2 z ad H locs cells slots la O)
    | lt => exact lv_icmp_lt hx hb hd hc (fun z => hk.1 z ad H locs cells slots la O) (fun z => hk.2 z ad H locs cells slots la O)
    | ge => exact lv_icmp_ge hx hb hd hc (fun z => hk.1 z ad H locs cells slots la O) (fun z => hk.2 z ad H locs cells slots la O)
    | gt => exact lv_icmp_gt hx hb hd hc (fun z => hk.1 z ad H locs cells slots la O) (fun z => hk.2 z ad H locs cells slots la O)
    | le => exact lv_icmp_le hx hb hd hc (fun z => hk.1 z ad H locs cells slots la O) (fun z => hk.2 z ad H locs cells slots la O)
  | tableswitch df lo hi os =>
    simp only [mm_ck, mm_ck1, Bool.and_eq_true, decide_eq_true_eq] at hck
    obtain ⟨rfl, hd, hc⟩ := hck
    obtain ⟨x, q, rfl, hk⟩ := mm_1i_e h
    obtain ⟨a, t, ts, rfl, hs, hdf⟩ := mm_cas_e hk
    simp only [Bool.and_eq_true, decide_eq_true_eq] at hc
    obtain ⟨⟨hc1, hc2⟩, hc3⟩ := hc
    by_cases h1 : x.toInt < lo
    · exact lv_tableOut hx hb hd (Or.inl h1) hc1 (mm_df_t os.toList ts lo hc2 hdf (Or.inl h1) ad H locs cells slots la O)
    · by_cases h2 : hi < x.toInt
      · refine lv_tableOut hx hb hd (Or.inr h2) hc1 (mm_df_t os.toList ts lo hc2 hdf (Or.inr ?_) ad H locs cells slots la O)
        rw [Array.length_toList]
        omega
      · obtain ⟨j, hj⟩ : ∃ j : Nat, x.toInt = lo + j := ⟨(x.toInt - lo).toNat, by omega⟩
        have hjl : j < os.size := by omega
        have ho : os.toList[j]? = some os[j] := by rw [Array.getElem?_toList]; exact Array.getElem?_eq_getElem hjl
        obtain ⟨tg, ht, hkk⟩ := mm_sw_t os.toList ts lo j _ hc2 hs ho hj
        exact lv_tableIn hx hb hd h1 h2 (by rw [show (x.toInt - lo).toNat = j by omega]; exact Array.getElem?_eq_getElem hjl) ht (hkk ad H locs cells slots la O)
  | lookupswitch df os =>
    simp only [mm_ck, mm_ck1, Bool.and_eq_true, decide_eq_true_eq] at hck
    obtain ⟨rfl, hd, hc⟩ := hck
    obtain ⟨x, q, rfl, hk⟩ := mm_1i_e h
    obtain ⟨a, t, ts, rfl, hs, hdf⟩ := mm_cas_e hk
    simp only [Bool.and_eq_true, decide_eq_true_eq] at hc
    obtain ⟨⟨hc1, hc2⟩, hc3⟩ := hc
    obtain ⟨tg, ht, hkk⟩ := mm_lk hc1 os.toList ts hc2 hs hdf
    exact lv_lookup hx hb hd hc3 rfl ht (hkk ad H locs cells slots la O)
  | getfield idx =>
    simp only [mm_ck, mm_ck1, Bool.and_eq_true, decide_eq_true_eq] at hck
    obtain ⟨rfl, hd, rfl, hc⟩ := hck
    obtain ⟨r, q, rfl, hk⟩ := mm_1r_e h
    split at hc
    · exact mm_get (M := M) hx hb hown hts hcw hd hc hk hH (fun v hv => hv ad H locs cells slots la O)
    · cases hc
  | putfield idx =>
    simp only [mm_ck, mm_ck1, Bool.and_eq_true, decide_eq_true_eq] at hck
    obtain ⟨rfl, hd, rfl, hc⟩ := hck
    dsimp only at h
    split at h
    · split at hc
      · exact mm_put (M := M) hx hb hown hts hcw hinit hd hc h O (fun w' H1 locs1 hv O1 => hv ad H1 locs1 cells slots la O1)
      · cases hc
    · exact h.elim
  | getstatic idx =>
    simp only [mm_ck, mm_ck1, Bool.and_eq_true, decide_eq_true_eq] at hck
    obtain ⟨rfl, hd, rfl, hc⟩ := hck
    obtain ⟨a, j, r, rfl, hk⟩ := mm_t1_e h
    split at hc
    · rename_i a2 j2 ax2 p0 e1
      cases e1
      split at hc
      · rename_i C n ds hj
        exact va_gets hx hb (hSx.2.1 j C n ds hj) hS hown (hts _ (mm_at_in hc)) (fun _ z => z) hd (hk ad H locs cells slots la O)
      · cases hc
    · cases hc
  | iaload =>
    simp only [mm_ck, mm_ck1, Bool.and_eq_true, decide_eq_true_eq] at hck
    obtain ⟨rfl, hd, rfl⟩ := hck
    exact mm_iald (M := M) hx hb hSx hS hd h hH (fun v q hv => hv ad H locs cells slots la O)
  | laload =>
    simp only [mm_ck, mm_ck1, Bool.and_eq_true, decide_eq_true_eq] at hck
    obtain ⟨rfl, hd, rfl⟩ := hck
    exact mm_lald (M := M) hx hb hSx hS hd h hH (fun v q hv => hv ad H locs cells slots la O)
  | baload =>
    simp only [mm_ck, mm_ck1, Bool.and_eq_true, decide_eq_true_eq] at hck
    obtain ⟨rfl, hd, rfl⟩ := hck
    exact mm_zald (M := M) hx hb hd h hH (fun v q hv => hv ad H locs cells slots la O)
  | aaload =>
    simp only [mm_ck, mm_ck1, Bool.and_eq_true, decide_eq_true_eq] at hck
    obtain ⟨rfl, hd, rfl⟩ := hck
    exact mm_aald (M := M) hx hb hd h hH (fun v q hv => hv ad H locs cells slots la O)
  | arraylength =>
    simp only [mm_ck, mm_ck1, Bool.and_eq_true, decide_eq_true_eq] at hck
    obtain ⟨rfl, hd, rfl⟩ := hck
    exact mm_alen (M := M) hx hb hSx hS hd h hH (fun v q hv => hv ad H locs cells slots la O)
  | iastore =>
    simp only [mm_ck, mm_ck1, Bool.and_eq_true, decide_eq_true_eq] at hck
    obtain ⟨rfl, hd, rfl⟩ := hck
    exact mm_iast (M := M) hx hb hd h O (fun w' q H1 locs1 hv O1 => hv ad H1 locs1 cells slots la O1)
  | bastore =>
    simp only [mm_ck, mm_ck1, Bool.and_eq_true, decide_eq_true_eq] at hck
    obtain ⟨rfl, hd, rfl⟩ := hck
    exact mm_zast (M := M) hx hb hd h O (fun w' q H1 locs1 hv O1 => hv ad H1 locs1 cells slots la O1)
  | lastore =>
    simp only [mm_ck, mm_ck1, Bool.and_eq_true, decide_eq_true_eq] at hck
    obtain ⟨rfl, hd, rfl⟩ := hck
    exact mm_last (M := M) hx hb hd h O (fun w' q H1 locs1 hv O1 => hv ad H1 locs1 cells slots la O1)
  | new idx =>
    simp only [mm_ck, mm_ck1, Bool.and_eq_true, decide_eq_true_eq] at hck
    obtain ⟨rfl, hd, rfl, hc⟩ := hck
    split at hc
    · rename_i a ci axr p0 p1 p2
      split at hc
      · rename_i C T N hC
        simp only [Bool.and_eq_true] at hc
        exact mm_newc (M := M) hx hb hown hts hcw hB hd hC hc.1.1 hc.1.2 hc.2 h O (fun v w' ad' H1 cells1 slots1 hv O1 => hv ad' H1 locs cells1 slots1 la O1)
      · cases hc
    · cases hc
  | newarray a =>
    simp only [mm_ck, mm_ck1, Bool.and_eq_true, decide_eq_true_eq] at hck
    obtain ⟨rfl, hd, rfl, hc⟩ := hck
    split at hc
    · simp only [Bool.and_eq_true, decide_eq_true_eq] at hc
      exact mm_newar (M := M) hx hb hts hB hd hc.1 hc.2 h O (fun v q w' ad' H1 cells1 slots1 hv O1 => hv ad' H1 locs cells1 slots1 la O1)
    · cases hc
  | multianewarray idx n =>
    simp only [mm_ck, mm_ck1, Bool.and_eq_true, decide_eq_true_eq] at hck
    obtain ⟨rfl, hd, ⟨rfl, rfl⟩, hc⟩ := hck
    split at hc
    · simp only [Bool.and_eq_true, decide_eq_true_eq] at hc
      exact hmna _ idx _ _ _ _ _ _ ad H locs cells slots la ls st w _ hd hc.1.1.1 hc.1.1.2 hc.1.2 hc.2 h O (fun v q w' ad' H1 cells1 slots1 hv O1 => hv ad' H1 locs cells1 slots1 la O1)
    · cases hc
  | invokestatic idx =>
    have hck2 := hck
    simp only [mm_ck, Bool.and_eq_true, decide_eq_true_eq] at hck
    obtain ⟨rfl, hd, hc⟩ := hck
    have hlen : len = 3 := by
      simp only [mm_ck1, Bool.and_eq_true, decide_eq_true_eq] at hc
      exact hc.1
    subst hlen
    exact mm_ivs_s (M := M) hx hb hml hown hts hSx hB hcall hM hfr hlo hd hc h O (fun q w' ad' H1 locs1 cells1 slots1 hv O1 => hv ad' H1 locs1 cells1 slots1 la O1)
  | invokespecial idx =>
    simp only [mm_ck, Bool.and_eq_true, decide_eq_true_eq] at hck
    obtain ⟨rfl, hd, hc⟩ := hck
    have hlen : len = 3 := by
      simp only [mm_ck1, Bool.and_eq_true, decide_eq_true_eq] at hc
      exact hc.1
    subst hlen
    exact mm_ivi_s (M := M) hx hb hml hown hts hSx hB hcall hM hfr hlo hd hc h O (fun q w' ad' H1 locs1 cells1 slots1 hv O1 => hv ad' H1 locs1 cells1 slots1 la O1)
  | invokevirtual idx =>
    simp only [mm_ck, mm_ck1, Bool.and_eq_true, decide_eq_true_eq] at hck
    obtain ⟨rfl, hd, rfl, hc⟩ := hck
    exact mm_ivv_s (M := M) hx hb hml hown hts hSx hB hcall hM hfr hlo hd hc h O (fun q w' ad' H1 locs1 cells1 slots1 hv O1 => hv ad' H1 locs1 cells1 slots1 la O1)
  | ireturn =>
    simp only [mm_ck, mm_ck1, Bool.and_eq_true, decide_eq_true_eq] at hck
    obtain ⟨rfl, hd, rfl⟩ := hck
    dsimp only at h
    unfold mm_irt at h
    split at h
    · rename_i x hr
      exact hret _ (some (mm_I x)) w ad H locs cells slots la ls ⟨hd, Or.inl hr⟩ h O
    · rename_i x hr
      exact hret _ (some (mm_I x)) w ad H locs cells slots la ls ⟨hd, Or.inr ⟨hr, h.1⟩⟩ h.2 O
    · exact h.elim
  | lreturn =>
    simp only [mm_ck, mm_ck1, Bool.and_eq_true, decide_eq_true_eq] at hck
    obtain ⟨rfl, hd, rfl⟩ := hck
    dsimp only at h
    unfold mm_lrt at h
    split at h
    · rename_i x hr
      exact hret _ (some (mm_L x)) w ad H locs cells slots la ls ⟨hd, hr⟩ h O
    · exact h.elim
  | return_ =>
    simp only [mm_ck, mm_ck1, Bool.and_eq_true, decide_eq_true_eq] at hck
    obtain ⟨rfl, hd, rfl⟩ := hck
    dsimp only at h
    unfold mm_vrt at h
    split at h
    · rename_i hr
      exact hret _ none w ad H locs cells slots la ls ⟨hd, hr⟩ h O
    · exact h.elim
  | _ => exact h.elim
end MMT
end
section
/-! ===== a method that the abstract machine ends keeps its contract; the law's own walk ===== -/
theorem mm_class_ok (ps : List (List Nat)) (h : (List.range 11).all (fun ci => match mm_cl[ci]?, ps[ci]? with
  | some q, some p => decide (u_ws q.1 q.2.1 q.2.2 = p.filterMap mm_g) && (u_ws q.1 q.2.1 q.2.2).all goodWord
  | _, _ => false) = true) : ∀ (ci : Nat) (q : vw_C), mm_cl[ci]? = some q → ∀ w ∈ u_ws q.1 q.2.1 q.2.2, w ∈ mm_GW := by
  intro ci q hq w hw
  have hlt : ci < 11 := (List.getElem?_eq_some_iff.mp hq).1
  have h1 := List.all_eq_true.mp h ci (List.mem_range.mpr hlt)
  rw [hq] at h1
  split at h1
  · rename_i q1 p1 e1 e2
    cases e1
    simp only [Bool.and_eq_true, decide_eq_true_eq] at h1
    have hg := List.all_eq_true.mp h1.2 w hw
    have hm : w ∈ mm_tbl := by
      have h2 := hw
      rw [h1.1] at h2
      obtain ⟨i, -, hi⟩ := List.mem_filterMap.mp h2
      exact mm_g_in hi
    exact List.mem_filter.mpr ⟨hm, hg⟩
  · cases h1
/-- multianewarray at any frame -/
def mm_mnaA : Prop := ∀ (p : Program) (l : Launch) (e : Env) (R : Room) (s : State) (m : MethodId) (args : Array Value) (below : List Frame) (meth : Method) (c : Code) (Qf : State → Prop) (D : va_G) (B0 : Nat) (sad : Nat → Nat) (n0 : Nat) (ad0 : Nat → Nat) (lim : Nat × Nat) (nL : Nat) (y : MethodName) (bytes : ByteArray) (tb : mm_T), p.tables.exec = Jvm.exec → c.code = bytes → s.vm.findClass y.cls = some m.cls → (∀ w ∈ mm_GW, w.before args s = true) → mm_Sx tb sad B0 s s.heap → B0 ≤ s.heap.size → mm_mnaL p l e R s m args below meth c Qf D B0 sad n0 ad0 lim nL y bytes
section MMR
variable {l : Launch} {D : va_G} {B0 : Nat} {sad : Nat → Nat} {ms : List mm_M} {tb : mm_T}
theorem mm_retOk {p : Program} {e : Env} {s : State} {m : MethodId} {args : Array Value} {below : List Frame} {meth : Method} {c : Code} {M : mm_M} {d n0 : Nat} {ad0 : Nat → Nat} {Q : Option mm_V → mm_W → Prop} {w0 : mm_W} (hx : p.tables.exec = Jvm.exec) (hb : c.code = mm_Mb M) (hr : meth.sig.returnType = mm_Mr M) (hlocks : meth.locks = false) (hn : n0 = w0.1.length)
    (pc : Nat) (o : Option mm_V) (w : mm_W) (ad : Nat → Nat) (H : Heap) (locs : List Loc) (cells slots : Nat) (la : Array Slot) (ls : List (Option mm_V)) (hrt : mm_rti M pc o) (hQ : Q o w) (O : mm_Ok D B0 sad n0 ad0 (w0.1.length + mm_Mk M, mm_sl w0.1 + mm_Ms M) (mm_rmd d M) s (mm_Ml M) ad H locs cells slots la ls w) :
    W p l e (mm_rmd d M) s m args below meth c H locs cells slots (MQ below (mm_Qc D B0 sad ad0 w0 Q) args s (mm_Mk M) (mm_Ms M) (mm_A B0)) (F0 m pc la (o.toList.map (mm_cv ad sad))) := by
  obtain ⟨h1, h2, h3, h4, h5, h6, h7, h8, h9⟩ := O
  have k1 : cells ≤ mm_Mk M := by
    have : (mm_rmd d M).cells = mm_Mk M := rfl
    omega
  have k2 : slots ≤ mm_Ms M := by
    have : (mm_rmd d M).slots = mm_Ms M := rfl
    omega
  refine W.widen k1 k2 ?_
  have key : ∀ t : State, t.heap = H → s.WarmedH t.vm → mm_Qc D B0 sad ad0 w0 Q args s (.returned (o.map (mm_cv ad sad))) t := fun t ht hW => ⟨⟨o, w, ad, rfl, hQ, by rw [← hn]; exact h1, by rw [ht]; exact h5.moved hW.alike⟩, h6.F ht⟩
  unfold mm_rti at hrt
  split at hrt
  · rename_i x
    obtain ⟨hd, hty | ⟨hty, hx01⟩⟩ := hrt
    · exact W.zret (ty := .int) hx hb (by rw [hr, hty]) rfl key h6.2.2 hd hlocks
    · refine W.zret (ty := .boolean) hx hb (by rw [hr, hty]) ?_ key h6.2.2 hd hlocks
      rcases hx01 with rfl | rfl <;> rfl
  · rename_i x
    obtain ⟨hd, hty⟩ := hrt
    exact W.lret hx hb (by rw [hr, hty]) key h6.2.2 hd hlocks
  · obtain ⟨hd, hty⟩ := hrt
    exact W.vret hx hb (by rw [hr, hty]) key h6.2.2 hd hlocks
  · exact hrt.elim
theorem mm_met (hmna : mm_mnaA) (hcw : ∀ (ci : Nat) (q : vw_C), mm_cl[ci]? = some q → ∀ w ∈ u_ws q.1 q.2.1 q.2.2, w ∈ mm_GW) (hM : ∀ (mi : Nat) (M' : mm_M), ms[mi]? = some M' → mm_ckm ms M' = true) : ∀ d : Nat, mm_callOk l D B0 sad tb ms d (mm_call ms tb d)
  | 0 => fun mi M hmi As w Q h => h.elim
  | d + 1 => by
    have ih := mm_met hmna hcw hM d
    intro mi M hmi As w Q h ad
    have hh : ∀ (mi : Nat) (M' : mm_M), ms[mi]? = some M' → mm_ckh M' = true := fun mi M' q => by
      have := hM mi M' q
      simp only [mm_ckm, Bool.and_eq_true] at this
      exact this.1
    have hck := hM mi M hmi
    simp only [mm_ckm, Bool.and_eq_true] at hck
    obtain ⟨k1, k2, k3, k4⟩ := mm_ckh_e (hh mi M hmi)
    unfold mm_call at h
    rw [hmi] at h
    dsimp only at h
    unfold mm_run at h
    split at h
    · rename_i hble
      have hlen : (mm_ar As).length ≤ mm_Ml M := Nat.le_of_ble_eq_true hble
      refine Met.ofW (cc := mm_Mb M) (maxL := mm_Ml M) (ret := mm_Mr M) k1 rfl ?_
      intro p e s m args below meth c s₁ B hml hv
      obtain ⟨rfl, hB, hH, hSx⟩ := hv
      have hx := B.exec
      have hts0 := atoms_spec (ws := mm_wd M) B.pre
      have hts : ∀ w ∈ mm_GW, w.before (As.map (mm_cv ad sad)).toArray s = true := fun w hw => hts0 w (List.mem_cons_of_mem _ hw)
      have hown : s.vm.findClass (mm_My M).cls = some m.cls := findClass_of_methodNamed B.named
      have hin : meth.name = (mm_My M).name := (name_of_methodNamed B.named B.method).1
      rw [lg_entry_eq]
      have hl := lv_entry (As.map (mm_cv ad sad)) (n := mm_Ml M) (by rw [← mm_ar_len ad sad As]; exact hlen)
      generalize (lg_sl (As.map (mm_cv ad sad)) ++ List.replicate (mm_Ml M - (lg_sl (As.map (mm_cv ad sad))).length) Slot.unset).toArray = la at hl ⊢
      refine h (mm_Rel p l e (mm_rmd (d + 1) M) s m (As.map (mm_cv ad sad)).toArray below meth c (MQ below (mm_Qc D B0 sad ad w Q) (As.map (mm_cv ad sad)).toArray s (mm_Mk M) (mm_Ms M) (mm_A B0)) D B0 sad w.1.length ad (w.1.length + mm_Mk M, mm_sl w.1 + mm_Ms M) (mm_Ml M)) ?_ ad s.heap [] 0 0 la ?_
      · exact mm_step hx B.bytes hml hown hts hcw (fun q => by rw [hin, q]) hSx hB ih hh (by show d + 1 ≤ d + 1; exact Nat.le_refl _) (by show 40 * (d + 1) ≤ 40 * (d + 1); exact Nat.le_refl _) hck.2 (hmna _ _ _ _ _ _ _ _ _ _ _ _ _ _ _ _ _ _ _ _ tb hx B.bytes hown hts hSx hB) (fun pc o w' ad' H locs cells slots la ls => mm_retOk hx B.bytes B.returns B.notSynchronized rfl pc o w' ad' H locs cells slots la ls)
      · refine ⟨fun _ _ => rfl, Nat.le_refl _, Nat.le_add_right _ _, Nat.le_add_right _ _, hH, va_S.rf, mm_lv_weak hl (mm_ini_lv ad sad As (mm_Ml M)), ?_, ?_⟩
        · show 0 + (w.1.length + mm_Mk M - w.1.length) ≤ mm_Mk M
          omega
        · show 0 + (mm_sl w.1 + mm_Ms M - mm_sl w.1) ≤ mm_Ms M
          omega
    · exact h.elim
end MMR
end
section
/-! ===== code tables (by program) ===== -/
/-- TypeCopier$Copies.<init>.(LTypeCopier$Numbered;LTypeCopier$Nodes;LTypeCopier$Functions;LTypeCopier$Judge;)V -/
def mm_k0 : List mm_E := [
  (.aload_n 0, 1, [], [], 0, 0, 0, 0),
  (.invokespecial 3, 3, [], [[2124, 2022, 2023]], 0, 0, 0, 1), mm_nop, mm_nop,
  (.aload_n 0, 1, [], [], 0, 0, 0, 4),
  (.bipush 60, 2, [], [], 0, 60, 0, 5), mm_nop,
  (.newarray .int, 2, [(0, 60)], [[2066]], 0, 0, 0, 7), mm_nop,
  (.putfield 11, 3, [(0, 4)], [[2131]], 1, 0, 0, 9), mm_nop, mm_nop,
  (.aload_n 0, 1, [], [], 0, 0, 0, 12),
  (.bipush 60, 2, [], [], 0, 60, 0, 13), mm_nop,
  (.newarray .long, 2, [(1, 60)], [[2037]], 0, 0, 0, 15), mm_nop,
  (.putfield 15, 3, [(0, 5)], [[2132]], 1, 0, 0, 17), mm_nop, mm_nop,
  (.aload_n 0, 1, [], [], 0, 0, 0, 20),
  (.bipush 60, 2, [], [], 0, 60, 0, 21), mm_nop,
  (.newarray .long, 2, [(1, 60)], [[2037]], 0, 0, 0, 23), mm_nop,
  (.putfield 19, 3, [(0, 6)], [[2133]], 1, 0, 0, 25), mm_nop, mm_nop,
  (.aload_n 0, 1, [], [], 0, 0, 0, 28),
  (.bipush 60, 2, [], [], 0, 60, 0, 29), mm_nop,
  (.newarray .long, 2, [(1, 60)], [[2037]], 0, 0, 0, 31), mm_nop,
  (.putfield 22, 3, [(0, 7)], [[2134]], 1, 0, 0, 33), mm_nop, mm_nop,
  (.aload_n 0, 1, [], [], 0, 0, 0, 36),
  (.bipush 60, 2, [], [], 0, 60, 0, 37), mm_nop,
  (.newarray .int, 2, [(0, 60)], [[2066]], 0, 0, 0, 39), mm_nop,
  (.putfield 25, 3, [(0, 8)], [[2135]], 1, 0, 0, 41), mm_nop, mm_nop,
  (.aload_n 0, 1, [], [], 0, 0, 0, 44),
  (.bipush 60, 2, [], [], 0, 60, 0, 45), mm_nop,
  (.newarray .int, 2, [(0, 60)], [[2066]], 0, 0, 0, 47), mm_nop,
  (.putfield 28, 3, [(0, 9)], [[2136]], 1, 0, 0, 49), mm_nop, mm_nop,
  (.aload_n 0, 1, [], [], 0, 0, 0, 52),
  (.bipush 60, 2, [], [], 0, 60, 0, 53), mm_nop,
  (.sipush 200, 3, [], [], 0, 200, 0, 55), mm_nop, mm_nop,
  (.multianewarray 33 2, 4, [(0, 60), (0, 200)], [[2125, 2066, 2126]], 0, 0, 0, 58), mm_nop, mm_nop, mm_nop,
  (.putfield 35, 3, [(0, 10)], [[2137]], 1, 0, 0, 62), mm_nop, mm_nop,
  (.aload_n 0, 1, [], [], 0, 0, 0, 65),
  (.bipush 60, 2, [], [], 0, 60, 0, 66), mm_nop,
  (.sipush 200, 3, [], [], 0, 200, 0, 68), mm_nop, mm_nop,
  (.multianewarray 33 2, 4, [(0, 60), (0, 200)], [[2125, 2066, 2126]], 0, 0, 0, 71), mm_nop, mm_nop, mm_nop,
  (.putfield 38, 3, [(0, 11)], [[2138]], 1, 0, 0, 75), mm_nop, mm_nop,
  (.aload_n 0, 1, [], [], 0, 0, 0, 78),
  (.aload_n 1, 1, [], [], 1, 0, 0, 79),
  (.putfield 41, 3, [(0, 0)], [[2127]], 1, 0, 0, 80), mm_nop, mm_nop,
  (.aload_n 0, 1, [], [], 0, 0, 0, 83),
  (.aload_n 2, 1, [], [], 2, 0, 0, 84),
  (.putfield 45, 3, [(0, 1)], [[2128]], 1, 0, 0, 85), mm_nop, mm_nop,
  (.aload_n 0, 1, [], [], 0, 0, 0, 88),
  (.aload_n 3, 1, [], [], 3, 0, 0, 89),
  (.putfield 49, 3, [(0, 2)], [[2129]], 1, 0, 0, 90), mm_nop, mm_nop,
  (.aload_n 0, 1, [], [], 0, 0, 0, 93),
  (.aload 4, 2, [], [], 4, 0, 0, 94), mm_nop,
  (.putfield 53, 3, [(0, 3)], [[2130]], 1, 0, 0, 96), mm_nop, mm_nop,
  (.return_, 1, [], [], 0, 0, 0, 99)]
def mm_m0 : mm_M := (yX0_init, cX0_init, 5, none, mm_k0, 4, 128, 24480, 2123)
/-- TypeCopier$Copies.makeAll.()I -/
def mm_k1 : List mm_E := [
  (.aload_n 0, 1, [], [], 0, 0, 0, 0),
  (.iconst 0, 1, [], [], 0, 0, 0, 1),
  (.putfield 57, 3, [(0, 12)], [[2139]], 0, 0, 0, 2), mm_nop, mm_nop,
  (.aload_n 0, 1, [], [], 0, 0, 0, 5),
  (.iconst 0, 1, [], [], 0, 0, 0, 6),
  (.ldc2_w 63, 3, [], [[3143]], 0, 0, (-1), 7), mm_nop, mm_nop,
  (.ldc2_w 63, 3, [], [[3143]], 0, 0, (-1), 10), mm_nop, mm_nop,
  (.invokevirtual 65, 3, [(0, 2)], [[3144, 3146, 1006, 2006]], 3, 0, 0, 13), mm_nop, mm_nop,
  (.pop, 1, [], [], 0, 0, 0, 16),
  (.iconst 0, 1, [], [], 0, 0, 0, 17),
  (.istore_n 1, 1, [], [], 1, 0, 0, 18),
  (.iload_n 1, 1, [], [], 1, 0, 0, 19),
  (.aload_n 0, 1, [], [], 0, 0, 0, 20),
  (.getfield 57, 3, [(0, 12)], [[2139]], 0, 0, 0, 21), mm_nop, mm_nop,
  (.if_icmp .ge 26, 3, [(0, 50)], [], 0, 0, 0, 24), mm_nop, mm_nop,
  (.iload_n 1, 1, [], [], 1, 0, 0, 27),
  (.bipush 60, 2, [], [], 0, 60, 0, 28), mm_nop,
  (.if_icmp .ge 20, 3, [(0, 50)], [], 0, 0, 0, 30), mm_nop, mm_nop,
  (.aload_n 0, 1, [], [], 0, 0, 0, 33),
  (.iload_n 1, 1, [], [], 1, 0, 0, 34),
  (.invokevirtual 69, 3, [(0, 3)], [[3148, 3150, 1007, 2006]], 1, 0, 0, 35), mm_nop, mm_nop,
  (.ifCond .ne 6, 3, [(0, 44)], [], 0, 0, 0, 38), mm_nop, mm_nop,
  (.bipush (-4), 2, [], [], 0, (-4), 0, 41), mm_nop,
  (.ireturn, 1, [], [], 0, 0, 0, 43),
  (.iinc 1 1, 3, [], [], 1, 1, 0, 44), mm_nop, mm_nop,
  (.goto (-28), 3, [(0, 19)], [], 0, 0, 0, 47), mm_nop, mm_nop,
  (.aload_n 0, 1, [], [], 0, 0, 0, 50),
  (.getfield 57, 3, [(0, 12)], [[2139]], 0, 0, 0, 51), mm_nop, mm_nop,
  (.ireturn, 1, [], [], 0, 0, 0, 54)]
def mm_m1 : mm_M := (yX0_makeAll, cX0_makeAll, 2, (some .int), mm_k1, 0, 0, 0, 3142)
/-- TypeCopier$Copies.findOrAdd.(IJJ)I -/
def mm_k2 : List mm_E := [
  (.iconst 0, 1, [], [], 0, 0, 0, 0),
  (.istore 6, 2, [], [], 6, 0, 0, 1), mm_nop,
  (.iload 6, 2, [], [], 6, 0, 0, 3), mm_nop,
  (.aload_n 0, 1, [], [], 0, 0, 0, 5),
  (.getfield 57, 3, [(0, 12)], [[2139]], 0, 0, 0, 6), mm_nop, mm_nop,
  (.if_icmp .ge 55, 3, [(0, 64)], [], 0, 0, 0, 9), mm_nop, mm_nop,
  (.iload 6, 2, [], [], 6, 0, 0, 12), mm_nop,
  (.bipush 60, 2, [], [], 0, 60, 0, 14), mm_nop,
  (.if_icmp .ge 48, 3, [(0, 64)], [], 0, 0, 0, 16), mm_nop, mm_nop,
  (.aload_n 0, 1, [], [], 0, 0, 0, 19),
  (.getfield 11, 3, [(0, 4)], [[2131]], 0, 0, 0, 20), mm_nop, mm_nop,
  (.iload 6, 2, [], [], 6, 0, 0, 23), mm_nop,
  (.iaload, 1, [], [], 0, 0, 0, 25),
  (.iload_n 1, 1, [], [], 1, 0, 0, 26),
  (.if_icmp .ne 31, 3, [(0, 58)], [], 0, 0, 0, 27), mm_nop, mm_nop,
  (.aload_n 0, 1, [], [], 0, 0, 0, 30),
  (.getfield 15, 3, [(0, 5)], [[2132]], 0, 0, 0, 31), mm_nop, mm_nop,
  (.iload 6, 2, [], [], 6, 0, 0, 34), mm_nop,
  (.laload, 1, [], [], 0, 0, 0, 36),
  (.lload_n 2, 1, [], [], 2, 0, 0, 37),
  (.lcmp, 1, [], [], 0, 0, 0, 38),
  (.ifCond .ne 19, 3, [(0, 58)], [], 0, 0, 0, 39), mm_nop, mm_nop,
  (.aload_n 0, 1, [], [], 0, 0, 0, 42),
  (.getfield 19, 3, [(0, 6)], [[2133]], 0, 0, 0, 43), mm_nop, mm_nop,
  (.iload 6, 2, [], [], 6, 0, 0, 46), mm_nop,
  (.laload, 1, [], [], 0, 0, 0, 48),
  (.lload 4, 2, [], [], 4, 0, 0, 49), mm_nop,
  (.lcmp, 1, [], [], 0, 0, 0, 51),
  (.ifCond .ne 6, 3, [(0, 58)], [], 0, 0, 0, 52), mm_nop, mm_nop,
  (.iload 6, 2, [], [], 6, 0, 0, 55), mm_nop,
  (.ireturn, 1, [], [], 0, 0, 0, 57),
  (.iinc 6 1, 3, [], [], 6, 1, 0, 58), mm_nop, mm_nop,
  (.goto (-58), 3, [(0, 3)], [], 0, 0, 0, 61), mm_nop, mm_nop,
  (.aload_n 0, 1, [], [], 0, 0, 0, 64),
  (.getfield 57, 3, [(0, 12)], [[2139]], 0, 0, 0, 65), mm_nop, mm_nop,
  (.bipush 60, 2, [], [], 0, 60, 0, 68), mm_nop,
  (.if_icmp .lt 6, 3, [(0, 76)], [], 0, 0, 0, 70), mm_nop, mm_nop,
  (.bipush (-4), 2, [], [], 0, (-4), 0, 73), mm_nop,
  (.ireturn, 1, [], [], 0, 0, 0, 75),
  (.aload_n 0, 1, [], [], 0, 0, 0, 76),
  (.getfield 11, 3, [(0, 4)], [[2131]], 0, 0, 0, 77), mm_nop, mm_nop,
  (.aload_n 0, 1, [], [], 0, 0, 0, 80),
  (.getfield 57, 3, [(0, 12)], [[2139]], 0, 0, 0, 81), mm_nop, mm_nop,
  (.iload_n 1, 1, [], [], 1, 0, 0, 84),
  (.iastore, 1, [], [], 0, 0, 0, 85),
  (.aload_n 0, 1, [], [], 0, 0, 0, 86),
  (.getfield 15, 3, [(0, 5)], [[2132]], 0, 0, 0, 87), mm_nop, mm_nop,
  (.aload_n 0, 1, [], [], 0, 0, 0, 90),
  (.getfield 57, 3, [(0, 12)], [[2139]], 0, 0, 0, 91), mm_nop, mm_nop,
  (.lload_n 2, 1, [], [], 2, 0, 0, 94),
  (.lastore, 1, [], [], 0, 0, 0, 95),
  (.aload_n 0, 1, [], [], 0, 0, 0, 96),
  (.getfield 19, 3, [(0, 6)], [[2133]], 0, 0, 0, 97), mm_nop, mm_nop,
  (.aload_n 0, 1, [], [], 0, 0, 0, 100),
  (.getfield 57, 3, [(0, 12)], [[2139]], 0, 0, 0, 101), mm_nop, mm_nop,
  (.lload 4, 2, [], [], 4, 0, 0, 104), mm_nop,
  (.lastore, 1, [], [], 0, 0, 0, 106),
  (.aload_n 0, 1, [], [], 0, 0, 0, 107),
  (.dup, 1, [], [], 0, 0, 0, 108),
  (.getfield 57, 3, [(0, 12)], [[2139]], 0, 0, 0, 109), mm_nop, mm_nop,
  (.dup_x1, 1, [], [], 0, 0, 0, 112),
  (.iconst 1, 1, [], [], 0, 1, 0, 113),
  (.iadd, 1, [], [], 0, 0, 0, 114),
  (.putfield 57, 3, [(0, 12)], [[2139]], 0, 0, 0, 115), mm_nop, mm_nop,
  (.ireturn, 1, [], [], 0, 0, 0, 118)]
def mm_m2 : mm_M := (yX0_findOrAdd, cX0_findOrAdd, 7, (some .int), mm_k2, 3, 0, 0, 3147)
/-- TypeCopier$Copies.makeOne.(I)Z -/
def mm_k3 : List mm_E := [
  (.aload_n 0, 1, [], [], 0, 0, 0, 0),
  (.iload_n 1, 1, [], [], 1, 0, 0, 1),
  (.invokevirtual 73, 3, [(0, 5)], [[3152, 3154, 1008, 2006]], 1, 0, 0, 2), mm_nop, mm_nop,
  (.ifCond .ne 5, 3, [(0, 10)], [], 0, 0, 0, 5), mm_nop, mm_nop,
  (.iconst 0, 1, [], [], 0, 0, 0, 8),
  (.ireturn, 1, [], [], 0, 0, 0, 9),
  (.aload_n 0, 1, [], [], 0, 0, 0, 10),
  (.getfield 11, 3, [(0, 4)], [[2131]], 0, 0, 0, 11), mm_nop, mm_nop,
  (.iload_n 1, 1, [], [], 1, 0, 0, 14),
  (.iaload, 1, [], [], 0, 0, 0, 15),
  (.istore_n 2, 1, [], [], 2, 0, 0, 16),
  (.aload_n 0, 1, [], [], 0, 0, 0, 17),
  (.getfield 49, 3, [(0, 2)], [[2129]], 0, 0, 0, 18), mm_nop, mm_nop,
  (.iload_n 2, 1, [], [], 2, 0, 0, 21),
  (.invokevirtual 76, 3, [(2, 26)], [[3156, 3157, 3158, 2004]], 1, 0, 0, 22), mm_nop, mm_nop,
  (.aload_n 0, 1, [], [], 0, 0, 0, 25),
  (.getfield 15, 3, [(0, 5)], [[2132]], 0, 0, 0, 26), mm_nop, mm_nop,
  (.iload_n 1, 1, [], [], 1, 0, 0, 29),
  (.laload, 1, [], [], 0, 0, 0, 30),
  (.aload_n 0, 1, [], [], 0, 0, 0, 31),
  (.getfield 19, 3, [(0, 6)], [[2133]], 0, 0, 0, 32), mm_nop, mm_nop,
  (.iload_n 1, 1, [], [], 1, 0, 0, 35),
  (.laload, 1, [], [], 0, 0, 0, 36),
  (.invokestatic 82, 3, [(1, 136)], [[3160, 3161, 2013]], 3, 0, 0, 37), mm_nop, mm_nop,
  (.lstore_n 3, 1, [], [], 3, 0, 0, 40),
  (.aload_n 0, 1, [], [], 0, 0, 0, 41),
  (.getfield 49, 3, [(0, 2)], [[2129]], 0, 0, 0, 42), mm_nop, mm_nop,
  (.iload_n 2, 1, [], [], 2, 0, 0, 45),
  (.invokevirtual 86, 3, [(2, 27)], [[3192, 3089, 3090, 2004]], 1, 0, 0, 46), mm_nop, mm_nop,
  (.aload_n 0, 1, [], [], 0, 0, 0, 49),
  (.getfield 15, 3, [(0, 5)], [[2132]], 0, 0, 0, 50), mm_nop, mm_nop,
  (.iload_n 1, 1, [], [], 1, 0, 0, 53),
  (.laload, 1, [], [], 0, 0, 0, 54),
  (.aload_n 0, 1, [], [], 0, 0, 0, 55),
  (.getfield 19, 3, [(0, 6)], [[2133]], 0, 0, 0, 56), mm_nop, mm_nop,
  (.iload_n 1, 1, [], [], 1, 0, 0, 59),
  (.laload, 1, [], [], 0, 0, 0, 60),
  (.invokestatic 82, 3, [(1, 136)], [[3160, 3161, 2013]], 3, 0, 0, 61), mm_nop, mm_nop,
  (.lstore 5, 2, [], [], 5, 0, 0, 64), mm_nop,
  (.lload_n 3, 1, [], [], 3, 0, 0, 66),
  (.ldc2_w 63, 3, [], [[3143]], 0, 0, (-1), 67), mm_nop, mm_nop,
  (.lcmp, 1, [], [], 0, 0, 0, 70),
  (.ifCond .eq 12, 3, [(0, 83)], [], 0, 0, 0, 71), mm_nop, mm_nop,
  (.lload 5, 2, [], [], 5, 0, 0, 74), mm_nop,
  (.ldc2_w 63, 3, [], [[3143]], 0, 0, (-1), 76), mm_nop, mm_nop,
  (.lcmp, 1, [], [], 0, 0, 0, 79),
  (.ifCond .ne 5, 3, [(0, 85)], [], 0, 0, 0, 80), mm_nop, mm_nop,
  (.iconst 0, 1, [], [], 0, 0, 0, 83),
  (.ireturn, 1, [], [], 0, 0, 0, 84),
  (.aload_n 0, 1, [], [], 0, 0, 0, 85),
  (.getfield 22, 3, [(0, 7)], [[2134]], 0, 0, 0, 86), mm_nop, mm_nop,
  (.iload_n 1, 1, [], [], 1, 0, 0, 89),
  (.lload_n 3, 1, [], [], 3, 0, 0, 90),
  (.lastore, 1, [], [], 0, 0, 0, 91),
  (.aload_n 0, 1, [], [], 0, 0, 0, 92),
  (.getfield 25, 3, [(0, 8)], [[2135]], 0, 0, 0, 93), mm_nop, mm_nop,
  (.iload_n 1, 1, [], [], 1, 0, 0, 96),
  (.lload_n 3, 1, [], [], 3, 0, 0, 97),
  (.invokestatic 89, 3, [(0, 138)], [[3193, 3194, 2013]], 1, 0, 0, 98), mm_nop, mm_nop,
  (.iastore, 1, [], [], 0, 0, 0, 101),
  (.aload_n 0, 1, [], [], 0, 0, 0, 102),
  (.getfield 28, 3, [(0, 9)], [[2136]], 0, 0, 0, 103), mm_nop, mm_nop,
  (.iload_n 1, 1, [], [], 1, 0, 0, 106),
  (.lload 5, 2, [], [], 5, 0, 0, 107), mm_nop,
  (.invokestatic 89, 3, [(0, 138)], [[3193, 3194, 2013]], 1, 0, 0, 109), mm_nop, mm_nop,
  (.iastore, 1, [], [], 0, 0, 0, 112),
  (.aload_n 0, 1, [], [], 0, 0, 0, 113),
  (.getfield 45, 3, [(0, 1)], [[2128]], 0, 0, 0, 114), mm_nop, mm_nop,
  (.aload_n 0, 1, [], [], 0, 0, 0, 117),
  (.getfield 49, 3, [(0, 2)], [[2129]], 0, 0, 0, 118), mm_nop, mm_nop,
  (.iload_n 2, 1, [], [], 2, 0, 0, 121),
  (.invokevirtual 93, 3, [(2, 28)], [[3205, 3072, 3073, 2004]], 1, 0, 0, 122), mm_nop, mm_nop,
  (.invokevirtual 97, 3, [(6, 103)], [[3206, 3098, 3099, 2003]], 1, 0, 0, 125), mm_nop, mm_nop,
  (.iconst 0, 1, [], [], 0, 0, 0, 128),
  (.istore 7, 2, [], [], 7, 0, 0, 129), mm_nop,
  (.iload 7, 2, [], [], 7, 0, 0, 131), mm_nop,
  (.aload_n 0, 1, [], [], 0, 0, 0, 133),
  (.getfield 45, 3, [(0, 1)], [[2128]], 0, 0, 0, 134), mm_nop, mm_nop,
  (.invokevirtual 101, 3, [(6, 106)], [[3207, 3120, 3121, 2003]], 0, 0, 0, 137), mm_nop, mm_nop,
  (.if_icmp .ge 140, 3, [(0, 280)], [], 0, 0, 0, 140), mm_nop, mm_nop,
  (.aload_n 0, 1, [], [], 0, 0, 0, 143),
  (.getfield 45, 3, [(0, 1)], [[2128]], 0, 0, 0, 144), mm_nop, mm_nop,
  (.iload 7, 2, [], [], 7, 0, 0, 147), mm_nop,
  (.invokevirtual 105, 3, [(6, 107)], [[3208, 3124, 3125, 2003]], 1, 0, 0, 149), mm_nop, mm_nop,
  (.istore 8, 2, [], [], 8, 0, 0, 152), mm_nop,
  (.aload_n 0, 1, [], [], 0, 0, 0, 154),
  (.getfield 53, 3, [(0, 3)], [[2130]], 0, 0, 0, 155), mm_nop, mm_nop,
  (.iload_n 2, 1, [], [], 2, 0, 0, 158),
  (.iload 8, 2, [], [], 8, 0, 0, 159), mm_nop,
  (.invokevirtual 108, 3, [(4, 43)], [[3209, 3080, 3081, 2005]], 2, 0, 0, 161), mm_nop, mm_nop,
  (.aload_n 0, 1, [], [], 0, 0, 0, 164),
  (.getfield 15, 3, [(0, 5)], [[2132]], 0, 0, 0, 165), mm_nop, mm_nop,
  (.iload_n 1, 1, [], [], 1, 0, 0, 168),
  (.laload, 1, [], [], 0, 0, 0, 169),
  (.aload_n 0, 1, [], [], 0, 0, 0, 170),
  (.getfield 19, 3, [(0, 6)], [[2133]], 0, 0, 0, 171), mm_nop, mm_nop,
  (.iload_n 1, 1, [], [], 1, 0, 0, 174),
  (.laload, 1, [], [], 0, 0, 0, 175),
  (.invokestatic 82, 3, [(1, 136)], [[3160, 3161, 2013]], 3, 0, 0, 176), mm_nop, mm_nop,
  (.lstore 9, 2, [], [], 9, 0, 0, 179), mm_nop,
  (.aload_n 0, 1, [], [], 0, 0, 0, 181),
  (.getfield 45, 3, [(0, 1)], [[2128]], 0, 0, 0, 182), mm_nop, mm_nop,
  (.iload 8, 2, [], [], 8, 0, 0, 185), mm_nop,
  (.invokevirtual 114, 3, [(6, 94)], [[3210, 3128, 3129, 2003]], 1, 0, 0, 187), mm_nop, mm_nop,
  (.bipush 14, 2, [], [], 0, 14, 0, 190), mm_nop,
  (.if_icmp .ne 24, 3, [(0, 216)], [], 0, 0, 0, 192), mm_nop, mm_nop,
  (.aload_n 0, 1, [], [], 0, 0, 0, 195),
  (.iload 8, 2, [], [], 8, 0, 0, 196), mm_nop,
  (.aload_n 0, 1, [], [], 0, 0, 0, 198),
  (.getfield 15, 3, [(0, 5)], [[2132]], 0, 0, 0, 199), mm_nop, mm_nop,
  (.iload_n 1, 1, [], [], 1, 0, 0, 202),
  (.laload, 1, [], [], 0, 0, 0, 203),
  (.aload_n 0, 1, [], [], 0, 0, 0, 204),
  (.getfield 19, 3, [(0, 6)], [[2133]], 0, 0, 0, 205), mm_nop, mm_nop,
  (.iload_n 1, 1, [], [], 1, 0, 0, 208),
  (.laload, 1, [], [], 0, 0, 0, 209),
  (.invokevirtual 117, 3, [(0, 4)], [[3211, 3213, 1009, 2006]], 3, 0, 0, 210), mm_nop, mm_nop,
  (.goto 4, 3, [(0, 217)], [], 0, 0, 0, 213), mm_nop, mm_nop,
  (.iconst 0, 1, [], [], 0, 0, 0, 216),
  (.istore 11, 2, [], [], 11, 0, 0, 217), mm_nop,
  (.lload 9, 2, [], [], 9, 0, 0, 219), mm_nop,
  (.ldc2_w 63, 3, [], [[3143]], 0, 0, (-1), 221), mm_nop, mm_nop,
  (.lcmp, 1, [], [], 0, 0, 0, 224),
  (.ifCond .eq 22, 3, [(0, 247)], [], 0, 0, 0, 225), mm_nop, mm_nop,
  (.iload 11, 2, [], [], 11, 0, 0, 228), mm_nop,
  (.bipush (-4), 2, [], [], 0, (-4), 0, 230), mm_nop,
  (.if_icmp .eq 15, 3, [(0, 247)], [], 0, 0, 0, 232), mm_nop, mm_nop,
  (.aload_n 0, 1, [], [], 0, 0, 0, 235),
  (.getfield 45, 3, [(0, 1)], [[2128]], 0, 0, 0, 236), mm_nop, mm_nop,
  (.iload 8, 2, [], [], 8, 0, 0, 239), mm_nop,
  (.invokevirtual 120, 3, [(6, 92)], [[3226, 3084, 3085, 2003]], 1, 0, 0, 241), mm_nop, mm_nop,
  (.ifCond .ne 5, 3, [(0, 249)], [], 0, 0, 0, 244), mm_nop, mm_nop,
  (.iconst 0, 1, [], [], 0, 0, 0, 247),
  (.ireturn, 1, [], [], 0, 0, 0, 248),
  (.aload_n 0, 1, [], [], 0, 0, 0, 249),
  (.getfield 35, 3, [(0, 10)], [[2137]], 0, 0, 0, 250), mm_nop, mm_nop,
  (.iload_n 1, 1, [], [], 1, 0, 0, 253),
  (.aaload, 1, [], [], 0, 0, 0, 254),
  (.iload 8, 2, [], [], 8, 0, 0, 255), mm_nop,
  (.lload 9, 2, [], [], 9, 0, 0, 257), mm_nop,
  (.invokestatic 89, 3, [(0, 138)], [[3193, 3194, 2013]], 1, 0, 0, 259), mm_nop, mm_nop,
  (.iastore, 1, [], [], 0, 0, 0, 262),
  (.aload_n 0, 1, [], [], 0, 0, 0, 263),
  (.getfield 38, 3, [(0, 11)], [[2138]], 0, 0, 0, 264), mm_nop, mm_nop,
  (.iload_n 1, 1, [], [], 1, 0, 0, 267),
  (.aaload, 1, [], [], 0, 0, 0, 268),
  (.iload 8, 2, [], [], 8, 0, 0, 269), mm_nop,
  (.iload 11, 2, [], [], 11, 0, 0, 271), mm_nop,
  (.iastore, 1, [], [], 0, 0, 0, 273),
  (.iinc 7 1, 3, [], [], 7, 1, 0, 274), mm_nop, mm_nop,
  (.goto (-146), 3, [(0, 131)], [], 0, 0, 0, 277), mm_nop, mm_nop,
  (.iconst 1, 1, [], [], 0, 1, 0, 280),
  (.ireturn, 1, [], [], 0, 0, 0, 281)]
def mm_m3 : mm_M := (yX0_makeOne, cX0_makeOne, 12, (some .boolean), mm_k3, 1, 0, 0, 3151)
/-- TypeCopier$Copies.copyForCall.(IJJ)I -/
def mm_k4 : List mm_E := [
  (.aload_n 0, 1, [], [], 0, 0, 0, 0),
  (.getfield 45, 3, [(0, 1)], [[2128]], 0, 0, 0, 1), mm_nop, mm_nop,
  (.iload_n 1, 1, [], [], 1, 0, 0, 4),
  (.iconst 0, 1, [], [], 0, 0, 0, 5),
  (.invokevirtual 121, 3, [(6, 97)], [[3215, 3136, 3137, 2003]], 2, 0, 0, 6), mm_nop, mm_nop,
  (.istore 6, 2, [], [], 6, 0, 0, 9), mm_nop,
  (.aload_n 0, 1, [], [], 0, 0, 0, 11),
  (.getfield 49, 3, [(0, 2)], [[2129]], 0, 0, 0, 12), mm_nop, mm_nop,
  (.iload 6, 2, [], [], 6, 0, 0, 15), mm_nop,
  (.invokevirtual 125, 3, [(2, 25)], [[3216, 3059, 3060, 2004]], 1, 0, 0, 17), mm_nop, mm_nop,
  (.istore 7, 2, [], [], 7, 0, 0, 20), mm_nop,
  (.aload_n 0, 1, [], [], 0, 0, 0, 22),
  (.getfield 41, 3, [(0, 0)], [[2127]], 0, 0, 0, 23), mm_nop, mm_nop,
  (.aload_n 0, 1, [], [], 0, 0, 0, 26),
  (.getfield 45, 3, [(0, 1)], [[2128]], 0, 0, 0, 27), mm_nop, mm_nop,
  (.iload_n 1, 1, [], [], 1, 0, 0, 30),
  (.iconst 2, 1, [], [], 0, 2, 0, 31),
  (.invokevirtual 121, 3, [(6, 97)], [[3215, 3136, 3137, 2003]], 2, 0, 0, 32), mm_nop, mm_nop,
  (.invokevirtual 128, 3, [(7, 112)], [[3217, 3218, 3219, 2002]], 1, 0, 0, 35), mm_nop, mm_nop,
  (.lload_n 2, 1, [], [], 2, 0, 0, 38),
  (.lload 4, 2, [], [], 4, 0, 0, 39), mm_nop,
  (.invokestatic 82, 3, [(1, 136)], [[3160, 3161, 2013]], 3, 0, 0, 41), mm_nop, mm_nop,
  (.lstore 8, 2, [], [], 8, 0, 0, 44), mm_nop,
  (.aload_n 0, 1, [], [], 0, 0, 0, 46),
  (.getfield 41, 3, [(0, 0)], [[2127]], 0, 0, 0, 47), mm_nop, mm_nop,
  (.aload_n 0, 1, [], [], 0, 0, 0, 50),
  (.getfield 45, 3, [(0, 1)], [[2128]], 0, 0, 0, 51), mm_nop, mm_nop,
  (.iload_n 1, 1, [], [], 1, 0, 0, 54),
  (.iconst 3, 1, [], [], 0, 3, 0, 55),
  (.invokevirtual 121, 3, [(6, 97)], [[3215, 3136, 3137, 2003]], 2, 0, 0, 56), mm_nop, mm_nop,
  (.invokevirtual 128, 3, [(7, 112)], [[3217, 3218, 3219, 2002]], 1, 0, 0, 59), mm_nop, mm_nop,
  (.lload_n 2, 1, [], [], 2, 0, 0, 62),
  (.lload 4, 2, [], [], 4, 0, 0, 63), mm_nop,
  (.invokestatic 82, 3, [(1, 136)], [[3160, 3161, 2013]], 3, 0, 0, 65), mm_nop, mm_nop,
  (.lstore 10, 2, [], [], 10, 0, 0, 68), mm_nop,
  (.iload 7, 2, [], [], 7, 0, 0, 70), mm_nop,
  (.ifCond .le 12, 3, [(0, 84)], [], 0, 0, 0, 72), mm_nop, mm_nop,
  (.lload 8, 2, [], [], 8, 0, 0, 75), mm_nop,
  (.ldc2_w 63, 3, [], [[3143]], 0, 0, (-1), 77), mm_nop, mm_nop,
  (.lcmp, 1, [], [], 0, 0, 0, 80),
  (.ifCond .eq 18, 3, [(0, 99)], [], 0, 0, 0, 81), mm_nop, mm_nop,
  (.iload 7, 2, [], [], 7, 0, 0, 84), mm_nop,
  (.iconst 1, 1, [], [], 0, 1, 0, 86),
  (.if_icmp .le 15, 3, [(0, 102)], [], 0, 0, 0, 87), mm_nop, mm_nop,
  (.lload 10, 2, [], [], 10, 0, 0, 90), mm_nop,
  (.ldc2_w 63, 3, [], [[3143]], 0, 0, (-1), 92), mm_nop, mm_nop,
  (.lcmp, 1, [], [], 0, 0, 0, 95),
  (.ifCond .ne 6, 3, [(0, 102)], [], 0, 0, 0, 96), mm_nop, mm_nop,
  (.bipush (-4), 2, [], [], 0, (-4), 0, 99), mm_nop,
  (.ireturn, 1, [], [], 0, 0, 0, 101),
  (.aload_n 0, 1, [], [], 0, 0, 0, 102),
  (.iload 6, 2, [], [], 6, 0, 0, 103), mm_nop,
  (.lload 8, 2, [], [], 8, 0, 0, 105), mm_nop,
  (.lload 10, 2, [], [], 10, 0, 0, 107), mm_nop,
  (.invokevirtual 65, 3, [(0, 2)], [[3144, 3146, 1006, 2006]], 3, 0, 0, 109), mm_nop, mm_nop,
  (.ireturn, 1, [], [], 0, 0, 0, 112)]
def mm_m4 : mm_M := (yX0_copyForCall, cX0_copyForCall, 12, (some .int), mm_k4, 3, 0, 0, 3214)
/-- TypeCopier$Copies.has.(I)Z -/
def mm_k5 : List mm_E := [
  (.iload_n 1, 1, [], [], 1, 0, 0, 0),
  (.ifCond .lt 21, 3, [(0, 22)], [], 0, 0, 0, 1), mm_nop, mm_nop,
  (.iload_n 1, 1, [], [], 1, 0, 0, 4),
  (.aload_n 0, 1, [], [], 0, 0, 0, 5),
  (.getfield 57, 3, [(0, 12)], [[2139]], 0, 0, 0, 6), mm_nop, mm_nop,
  (.if_icmp .ge 13, 3, [(0, 22)], [], 0, 0, 0, 9), mm_nop, mm_nop,
  (.iload_n 1, 1, [], [], 1, 0, 0, 12),
  (.bipush 60, 2, [], [], 0, 60, 0, 13), mm_nop,
  (.if_icmp .ge 7, 3, [(0, 22)], [], 0, 0, 0, 15), mm_nop, mm_nop,
  (.iconst 1, 1, [], [], 0, 1, 0, 18),
  (.goto 4, 3, [(0, 23)], [], 0, 0, 0, 19), mm_nop, mm_nop,
  (.iconst 0, 1, [], [], 0, 0, 0, 22),
  (.ireturn, 1, [], [], 0, 0, 0, 23)]
def mm_m5 : mm_M := (yX0_has, cX0_has, 2, (some .boolean), mm_k5, 1, 0, 0, 3155)
/-- TypeCopier$Copies.functionOf.(I)I -/
def mm_k6 : List mm_E := [
  (.aload_n 0, 1, [], [], 0, 0, 0, 0),
  (.iload_n 1, 1, [], [], 1, 0, 0, 1),
  (.invokevirtual 73, 3, [(0, 5)], [[3152, 3154, 1008, 2006]], 1, 0, 0, 2), mm_nop, mm_nop,
  (.ifCond .eq 12, 3, [(0, 17)], [], 0, 0, 0, 5), mm_nop, mm_nop,
  (.aload_n 0, 1, [], [], 0, 0, 0, 8),
  (.getfield 11, 3, [(0, 4)], [[2131]], 0, 0, 0, 9), mm_nop, mm_nop,
  (.iload_n 1, 1, [], [], 1, 0, 0, 12),
  (.iaload, 1, [], [], 0, 0, 0, 13),
  (.goto 4, 3, [(0, 18)], [], 0, 0, 0, 14), mm_nop, mm_nop,
  (.iconst (-1), 1, [], [], 0, (-1), 0, 17),
  (.ireturn, 1, [], [], 0, 0, 0, 18)]
def mm_m6 : mm_M := (yX0_functionOf, cX0_functionOf, 2, (some .int), mm_k6, 1, 0, 0, 5109)
/-- TypeCopier$Copies.argumentWidth.(I)I -/
def mm_k7 : List mm_E := [
  (.aload_n 0, 1, [], [], 0, 0, 0, 0),
  (.iload_n 1, 1, [], [], 1, 0, 0, 1),
  (.invokevirtual 73, 3, [(0, 5)], [[3152, 3154, 1008, 2006]], 1, 0, 0, 2), mm_nop, mm_nop,
  (.ifCond .eq 12, 3, [(0, 17)], [], 0, 0, 0, 5), mm_nop, mm_nop,
  (.aload_n 0, 1, [], [], 0, 0, 0, 8),
  (.getfield 25, 3, [(0, 8)], [[2135]], 0, 0, 0, 9), mm_nop, mm_nop,
  (.iload_n 1, 1, [], [], 1, 0, 0, 12),
  (.iaload, 1, [], [], 0, 0, 0, 13),
  (.goto 4, 3, [(0, 18)], [], 0, 0, 0, 14), mm_nop, mm_nop,
  (.iconst 0, 1, [], [], 0, 0, 0, 17),
  (.ireturn, 1, [], [], 0, 0, 0, 18)]
def mm_m7 : mm_M := (yX0_argumentWidth, cX0_argumentWidth, 2, (some .int), mm_k7, 1, 0, 0, 5091)
/-- TypeCopier$Copies.resultWidth.(I)I -/
def mm_k8 : List mm_E := [
  (.aload_n 0, 1, [], [], 0, 0, 0, 0),
  (.iload_n 1, 1, [], [], 1, 0, 0, 1),
  (.invokevirtual 73, 3, [(0, 5)], [[3152, 3154, 1008, 2006]], 1, 0, 0, 2), mm_nop, mm_nop,
  (.ifCond .eq 12, 3, [(0, 17)], [], 0, 0, 0, 5), mm_nop, mm_nop,
  (.aload_n 0, 1, [], [], 0, 0, 0, 8),
  (.getfield 28, 3, [(0, 9)], [[2136]], 0, 0, 0, 9), mm_nop, mm_nop,
  (.iload_n 1, 1, [], [], 1, 0, 0, 12),
  (.iaload, 1, [], [], 0, 0, 0, 13),
  (.goto 4, 3, [(0, 18)], [], 0, 0, 0, 14), mm_nop, mm_nop,
  (.iconst 0, 1, [], [], 0, 0, 0, 17),
  (.ireturn, 1, [], [], 0, 0, 0, 18)]
def mm_m8 : mm_M := (yX0_resultWidth, cX0_resultWidth, 2, (some .int), mm_k8, 1, 0, 0, 5174)
/-- TypeCopier$Copies.widthAt.(II)I -/
def mm_k9 : List mm_E := [
  (.aload_n 0, 1, [], [], 0, 0, 0, 0),
  (.iload_n 1, 1, [], [], 1, 0, 0, 1),
  (.invokevirtual 73, 3, [(0, 5)], [[3152, 3154, 1008, 2006]], 1, 0, 0, 2), mm_nop, mm_nop,
  (.ifCond .eq 25, 3, [(0, 30)], [], 0, 0, 0, 5), mm_nop, mm_nop,
  (.aload_n 0, 1, [], [], 0, 0, 0, 8),
  (.getfield 45, 3, [(0, 1)], [[2128]], 0, 0, 0, 9), mm_nop, mm_nop,
  (.iload_n 2, 1, [], [], 2, 0, 0, 12),
  (.invokevirtual 120, 3, [(6, 92)], [[3226, 3084, 3085, 2003]], 1, 0, 0, 13), mm_nop, mm_nop,
  (.ifCond .eq 14, 3, [(0, 30)], [], 0, 0, 0, 16), mm_nop, mm_nop,
  (.aload_n 0, 1, [], [], 0, 0, 0, 19),
  (.getfield 35, 3, [(0, 10)], [[2137]], 0, 0, 0, 20), mm_nop, mm_nop,
  (.iload_n 1, 1, [], [], 1, 0, 0, 23),
  (.aaload, 1, [], [], 0, 0, 0, 24),
  (.iload_n 2, 1, [], [], 2, 0, 0, 25),
  (.iaload, 1, [], [], 0, 0, 0, 26),
  (.goto 4, 3, [(0, 31)], [], 0, 0, 0, 27), mm_nop, mm_nop,
  (.iconst 0, 1, [], [], 0, 0, 0, 30),
  (.ireturn, 1, [], [], 0, 0, 0, 31)]
def mm_m9 : mm_M := (yX0_widthAt, cX0_widthAt, 3, (some .int), mm_k9, 2, 0, 0, 5212)
/-- TypeCopier$Copies.calledAt.(II)I -/
def mm_k10 : List mm_E := [
  (.aload_n 0, 1, [], [], 0, 0, 0, 0),
  (.iload_n 1, 1, [], [], 1, 0, 0, 1),
  (.invokevirtual 73, 3, [(0, 5)], [[3152, 3154, 1008, 2006]], 1, 0, 0, 2), mm_nop, mm_nop,
  (.ifCond .eq 25, 3, [(0, 30)], [], 0, 0, 0, 5), mm_nop, mm_nop,
  (.aload_n 0, 1, [], [], 0, 0, 0, 8),
  (.getfield 45, 3, [(0, 1)], [[2128]], 0, 0, 0, 9), mm_nop, mm_nop,
  (.iload_n 2, 1, [], [], 2, 0, 0, 12),
  (.invokevirtual 120, 3, [(6, 92)], [[3226, 3084, 3085, 2003]], 1, 0, 0, 13), mm_nop, mm_nop,
  (.ifCond .eq 14, 3, [(0, 30)], [], 0, 0, 0, 16), mm_nop, mm_nop,
  (.aload_n 0, 1, [], [], 0, 0, 0, 19),
  (.getfield 38, 3, [(0, 11)], [[2138]], 0, 0, 0, 20), mm_nop, mm_nop,
  (.iload_n 1, 1, [], [], 1, 0, 0, 23),
  (.aaload, 1, [], [], 0, 0, 0, 24),
  (.iload_n 2, 1, [], [], 2, 0, 0, 25),
  (.iaload, 1, [], [], 0, 0, 0, 26),
  (.goto 4, 3, [(0, 31)], [], 0, 0, 0, 27), mm_nop, mm_nop,
  (.iconst (-1), 1, [], [], 0, (-1), 0, 30),
  (.ireturn, 1, [], [], 0, 0, 0, 31)]
def mm_m10 : mm_M := (yX0_calledAt, cX0_calledAt, 3, (some .int), mm_k10, 2, 0, 0, 5156)
/-- TypeCopier$Copies.factOf.(II)I -/
def mm_k11 : List mm_E := [
  (.aload_n 0, 1, [], [], 0, 0, 0, 0),
  (.iload_n 1, 1, [], [], 1, 0, 0, 1),
  (.invokevirtual 73, 3, [(0, 5)], [[3152, 3154, 1008, 2006]], 1, 0, 0, 2), mm_nop, mm_nop,
  (.ifCond .ne 5, 3, [(0, 10)], [], 0, 0, 0, 5), mm_nop, mm_nop,
  (.iconst (-1), 1, [], [], 0, (-1), 0, 8),
  (.ireturn, 1, [], [], 0, 0, 0, 9),
  (.iload_n 2, 1, [], [], 2, 0, 0, 10),
  (.tableswitch 100 0 5 #[37, 44, 58, 72, 79, 86], 37, [(0, 111), (0, 48), (1, 55), (2, 69), (3, 83), (4, 90), (5, 97)], [], 0, 0, 0, 11), mm_nop, mm_nop, mm_nop, mm_nop, mm_nop, mm_nop, mm_nop, mm_nop, mm_nop, mm_nop, mm_nop, mm_nop, mm_nop, mm_nop, mm_nop, mm_nop, mm_nop, mm_nop, mm_nop, mm_nop, mm_nop, mm_nop, mm_nop, mm_nop, mm_nop, mm_nop, mm_nop, mm_nop, mm_nop, mm_nop, mm_nop, mm_nop, mm_nop, mm_nop, mm_nop, mm_nop,
  (.aload_n 0, 1, [], [], 0, 0, 0, 48),
  (.getfield 11, 3, [(0, 4)], [[2131]], 0, 0, 0, 49), mm_nop, mm_nop,
  (.iload_n 1, 1, [], [], 1, 0, 0, 52),
  (.iaload, 1, [], [], 0, 0, 0, 53),
  (.ireturn, 1, [], [], 0, 0, 0, 54),
  (.aload_n 0, 1, [], [], 0, 0, 0, 55),
  (.getfield 41, 3, [(0, 0)], [[2127]], 0, 0, 0, 56), mm_nop, mm_nop,
  (.aload_n 0, 1, [], [], 0, 0, 0, 59),
  (.getfield 15, 3, [(0, 5)], [[2132]], 0, 0, 0, 60), mm_nop, mm_nop,
  (.iload_n 1, 1, [], [], 1, 0, 0, 63),
  (.laload, 1, [], [], 0, 0, 0, 64),
  (.invokevirtual 133, 3, [(7, 113)], [[4207, 4036, 4037, 2002]], 1, 0, 0, 65), mm_nop, mm_nop,
  (.ireturn, 1, [], [], 0, 0, 0, 68),
  (.aload_n 0, 1, [], [], 0, 0, 0, 69),
  (.getfield 41, 3, [(0, 0)], [[2127]], 0, 0, 0, 70), mm_nop, mm_nop,
  (.aload_n 0, 1, [], [], 0, 0, 0, 73),
  (.getfield 19, 3, [(0, 6)], [[2133]], 0, 0, 0, 74), mm_nop, mm_nop,
  (.iload_n 1, 1, [], [], 1, 0, 0, 77),
  (.laload, 1, [], [], 0, 0, 0, 78),
  (.invokevirtual 133, 3, [(7, 113)], [[4207, 4036, 4037, 2002]], 1, 0, 0, 79), mm_nop, mm_nop,
  (.ireturn, 1, [], [], 0, 0, 0, 82),
  (.aload_n 0, 1, [], [], 0, 0, 0, 83),
  (.getfield 25, 3, [(0, 8)], [[2135]], 0, 0, 0, 84), mm_nop, mm_nop,
  (.iload_n 1, 1, [], [], 1, 0, 0, 87),
  (.iaload, 1, [], [], 0, 0, 0, 88),
  (.ireturn, 1, [], [], 0, 0, 0, 89),
  (.aload_n 0, 1, [], [], 0, 0, 0, 90),
  (.getfield 28, 3, [(0, 9)], [[2136]], 0, 0, 0, 91), mm_nop, mm_nop,
  (.iload_n 1, 1, [], [], 1, 0, 0, 94),
  (.iaload, 1, [], [], 0, 0, 0, 95),
  (.ireturn, 1, [], [], 0, 0, 0, 96),
  (.aload_n 0, 1, [], [], 0, 0, 0, 97),
  (.getfield 41, 3, [(0, 0)], [[2127]], 0, 0, 0, 98), mm_nop, mm_nop,
  (.aload_n 0, 1, [], [], 0, 0, 0, 101),
  (.getfield 22, 3, [(0, 7)], [[2134]], 0, 0, 0, 102), mm_nop, mm_nop,
  (.iload_n 1, 1, [], [], 1, 0, 0, 105),
  (.laload, 1, [], [], 0, 0, 0, 106),
  (.invokevirtual 133, 3, [(7, 113)], [[4207, 4036, 4037, 2002]], 1, 0, 0, 107), mm_nop, mm_nop,
  (.ireturn, 1, [], [], 0, 0, 0, 110),
  (.bipush (-2), 2, [], [], 0, (-2), 0, 111), mm_nop,
  (.ireturn, 1, [], [], 0, 0, 0, 113)]
def mm_m11 : mm_M := (yX0_factOf, cX0_factOf, 3, (some .int), mm_k11, 2, 0, 0, 4206)
/-- TypeCopier$CopyMachine.<init>.(LTypeCopier$Nodes;LTypeCopier$Input;LTypeCopier$Report;LTypeCopier$Functions;LTypeCopier$Copies;)V -/
def mm_k12 : List mm_E := [
  (.aload_n 0, 1, [], [], 0, 0, 0, 0),
  (.aload_n 1, 1, [], [], 1, 0, 0, 1),
  (.aload_n 2, 1, [], [], 2, 0, 0, 2),
  (.aload_n 3, 1, [], [], 3, 0, 0, 3),
  (.invokespecial 1, 3, [(0, 65)], [[3026, 2214, 2009]], 3, 0, 0, 4), mm_nop, mm_nop,
  (.aload_n 0, 1, [], [], 0, 0, 0, 7),
  (.aload 4, 2, [], [], 4, 0, 0, 8), mm_nop,
  (.putfield 7, 3, [(1, 12)], [[3027]], 1, 0, 0, 10), mm_nop, mm_nop,
  (.aload_n 0, 1, [], [], 0, 0, 0, 13),
  (.aload 5, 2, [], [], 5, 0, 0, 14), mm_nop,
  (.putfield 13, 3, [(1, 13)], [[3028]], 1, 0, 0, 16), mm_nop, mm_nop,
  (.return_, 1, [], [], 0, 0, 0, 19)]
def mm_m12 : mm_M := (yX1_init, cX1_init, 6, none, mm_k12, 5, 5, 9452, 3025)
/-- TypeCopier$CopyMachine.bodyOf.(I)I -/
def mm_k13 : List mm_E := [
  (.aload_n 0, 1, [], [], 0, 0, 0, 0),
  (.getfield 7, 3, [(1, 12)], [[3027]], 0, 0, 0, 1), mm_nop, mm_nop,
  (.aload_n 0, 1, [], [], 0, 0, 0, 4),
  (.getfield 13, 3, [(1, 13)], [[3028]], 0, 0, 0, 5), mm_nop, mm_nop,
  (.iload_n 1, 1, [], [], 1, 0, 0, 8),
  (.invokevirtual 17, 3, [(0, 6)], [[5106, 5107, 5108, 2006]], 1, 0, 0, 9), mm_nop, mm_nop,
  (.invokevirtual 23, 3, [(2, 28)], [[5110, 3072, 3073, 2004]], 1, 0, 0, 12), mm_nop, mm_nop,
  (.ireturn, 1, [], [], 0, 0, 0, 15)]
def mm_m13 : mm_M := (yX1_bodyOf, cX1_bodyOf, 2, (some .int), mm_k13, 1, 0, 0, 5105)
/-- TypeCopier$CopyMachine.calledAt.(II)I -/
def mm_k14 : List mm_E := [
  (.aload_n 0, 1, [], [], 0, 0, 0, 0),
  (.getfield 13, 3, [(1, 13)], [[3028]], 0, 0, 0, 1), mm_nop, mm_nop,
  (.iload_n 1, 1, [], [], 1, 0, 0, 4),
  (.iload_n 2, 1, [], [], 2, 0, 0, 5),
  (.invokevirtual 28, 3, [(0, 10)], [[5153, 5154, 5155, 2006]], 2, 0, 0, 6), mm_nop, mm_nop,
  (.ireturn, 1, [], [], 0, 0, 0, 9)]
def mm_m14 : mm_M := (yX1_calledAt, cX1_calledAt, 3, (some .int), mm_k14, 2, 0, 0, 5152)
/-- TypeCopier$CopyMachine.argumentWidth.(I)I -/
def mm_k15 : List mm_E := [
  (.aload_n 0, 1, [], [], 0, 0, 0, 0),
  (.getfield 13, 3, [(1, 13)], [[3028]], 0, 0, 0, 1), mm_nop, mm_nop,
  (.iload_n 1, 1, [], [], 1, 0, 0, 4),
  (.invokevirtual 32, 3, [(0, 7)], [[5088, 5089, 5090, 2006]], 1, 0, 0, 5), mm_nop, mm_nop,
  (.ireturn, 1, [], [], 0, 0, 0, 8)]
def mm_m15 : mm_M := (yX1_argumentWidth, cX1_argumentWidth, 2, (some .int), mm_k15, 1, 0, 0, 5087)
/-- TypeCopier$CopyMachine.resultWidth.(I)I -/
def mm_k16 : List mm_E := [
  (.aload_n 0, 1, [], [], 0, 0, 0, 0),
  (.getfield 13, 3, [(1, 13)], [[3028]], 0, 0, 0, 1), mm_nop, mm_nop,
  (.iload_n 1, 1, [], [], 1, 0, 0, 4),
  (.invokevirtual 35, 3, [(0, 8)], [[5171, 5172, 5173, 2006]], 1, 0, 0, 5), mm_nop, mm_nop,
  (.ireturn, 1, [], [], 0, 0, 0, 8)]
def mm_m16 : mm_M := (yX1_resultWidth, cX1_resultWidth, 2, (some .int), mm_k16, 1, 0, 0, 5170)
/-- TypeCopier$CopyMachine.nodeWidth.(II)I -/
def mm_k17 : List mm_E := [
  (.aload_n 0, 1, [], [], 0, 0, 0, 0),
  (.getfield 13, 3, [(1, 13)], [[3028]], 0, 0, 0, 1), mm_nop, mm_nop,
  (.iload_n 1, 1, [], [], 1, 0, 0, 4),
  (.iload_n 2, 1, [], [], 2, 0, 0, 5),
  (.invokevirtual 38, 3, [(0, 9)], [[5209, 5210, 5211, 2006]], 2, 0, 0, 6), mm_nop, mm_nop,
  (.ireturn, 1, [], [], 0, 0, 0, 9)]
def mm_m17 : mm_M := (yX1_nodeWidth, cX1_nodeWidth, 3, (some .int), mm_k17, 2, 0, 0, 5208)
/-- TypeCopier$CopyMachine.shapeWidth.(J)I -/
def mm_k18 : List mm_E := [
  (.lload_n 1, 1, [], [], 1, 0, 0, 0),
  (.invokestatic 41, 3, [(0, 138)], [[5066, 3194, 2013]], 1, 0, 0, 1), mm_nop, mm_nop,
  (.ireturn, 1, [], [], 0, 0, 0, 4)]
def mm_m18 : mm_M := (yX1_shapeWidth, cX1_shapeWidth, 3, (some .int), mm_k18, 1, 0, 0, 5065)
/-- TypeCopier$CopyMachine.join.()V -/
def mm_k19 : List mm_E := [
  (.return_, 1, [], [], 0, 0, 0, 0)]
def mm_m19 : mm_M := (yX1_join, cX1_join, 1, none, mm_k19, 0, 0, 0, 5030)
/-- TypeCopier$CopyMachine.takePart.(IIZ)V -/
def mm_k20 : List mm_E := [
  (.aload_n 0, 1, [], [], 0, 0, 0, 0),
  (.iload_n 1, 1, [], [], 1, 0, 0, 1),
  (.aload_n 0, 1, [], [], 0, 0, 0, 2),
  (.getfield 47, 3, [(1, 0)], [[2221, 2222]], 0, 0, 0, 3), mm_nop, mm_nop,
  (.iload_n 2, 1, [], [], 2, 0, 0, 6),
  (.iconst 0, 1, [], [], 0, 0, 0, 7),
  (.invokevirtual 51, 3, [(6, 98)], [[5204, 3116, 3117, 2003]], 2, 0, 0, 8), mm_nop, mm_nop,
  (.invokevirtual 56, 3, [(1, 17)], [[5205, 5206, 5207, 2011]], 2, 0, 0, 11), mm_nop, mm_nop,
  (.istore 4, 2, [], [], 4, 0, 0, 14), mm_nop,
  (.aload_n 0, 1, [], [], 0, 0, 0, 16),
  (.iload_n 1, 1, [], [], 1, 0, 0, 17),
  (.iload_n 2, 1, [], [], 2, 0, 0, 18),
  (.invokevirtual 56, 3, [(1, 17)], [[5205, 5206, 5207, 2011]], 2, 0, 0, 19), mm_nop, mm_nop,
  (.istore 5, 2, [], [], 5, 0, 0, 22), mm_nop,
  (.aload_n 0, 1, [], [], 0, 0, 0, 24),
  (.iload 4, 2, [], [], 4, 0, 0, 25), mm_nop,
  (.iload_n 3, 1, [], [], 3, 0, 0, 27),
  (.ifCond .eq 11, 3, [(0, 39)], [], 0, 0, 0, 28), mm_nop, mm_nop,
  (.iload 4, 2, [], [], 4, 0, 0, 31), mm_nop,
  (.iload 5, 2, [], [], 5, 0, 0, 33), mm_nop,
  (.isub, 1, [], [], 0, 0, 0, 35),
  (.goto 4, 3, [(0, 40)], [], 0, 0, 0, 36), mm_nop, mm_nop,
  (.iconst 0, 1, [], [], 0, 0, 0, 39),
  (.iload 5, 2, [], [], 5, 0, 0, 40), mm_nop,
  (.invokevirtual 59, 3, [(1, 88)], [[5213, 5214, 5216, 5179, 2009]], 3, 0, 0, 42), mm_nop, mm_nop,
  (.return_, 1, [], [], 0, 0, 0, 45)]
def mm_m20 : mm_M := (yX1_takePart, cX1_takePart, 6, none, mm_k20, 3, 0, 0, 5203)
/-- TypeCopier$CopyMachine.partAddress.(JIZ)I -/
def mm_k21 : List mm_E := [
  (.iload 4, 2, [], [], 4, 0, 0, 0), mm_nop,
  (.ifCond .eq 15, 3, [(0, 17)], [], 0, 0, 0, 2), mm_nop, mm_nop,
  (.iload_n 3, 1, [], [], 3, 0, 0, 5),
  (.lload_n 1, 1, [], [], 1, 0, 0, 6),
  (.invokestatic 63, 3, [(0, 134)], [[6017, 3173, 2013]], 1, 0, 0, 7), mm_nop, mm_nop,
  (.invokestatic 41, 3, [(0, 138)], [[5066, 3194, 2013]], 1, 0, 0, 10), mm_nop, mm_nop,
  (.iadd, 1, [], [], 0, 0, 0, 13),
  (.goto 4, 3, [(0, 18)], [], 0, 0, 0, 14), mm_nop, mm_nop,
  (.iload_n 3, 1, [], [], 3, 0, 0, 17),
  (.ireturn, 1, [], [], 0, 0, 0, 18)]
def mm_m21 : mm_M := (yX1_partAddress, cX1_partAddress, 5, (some .int), mm_k21, 3, 0, 0, 6016)
/-- TypeCopier$Functions.<init>.()V -/
def mm_k22 : List mm_E := [
  (.aload_n 0, 1, [], [], 0, 0, 0, 0),
  (.invokespecial 3, 3, [], [[2072, 2022, 2023]], 0, 0, 0, 1), mm_nop, mm_nop,
  (.aload_n 0, 1, [], [], 0, 0, 0, 4),
  (.bipush 12, 2, [], [], 0, 12, 0, 5), mm_nop,
  (.newarray .int, 2, [(0, 12)], [[2066]], 0, 0, 0, 7), mm_nop,
  (.putfield 11, 3, [(2, 0)], [[2073]], 1, 0, 0, 9), mm_nop, mm_nop,
  (.aload_n 0, 1, [], [], 0, 0, 0, 12),
  (.bipush 12, 2, [], [], 0, 12, 0, 13), mm_nop,
  (.newarray .int, 2, [(0, 12)], [[2066]], 0, 0, 0, 15), mm_nop,
  (.putfield 15, 3, [(2, 1)], [[2074]], 1, 0, 0, 17), mm_nop, mm_nop,
  (.aload_n 0, 1, [], [], 0, 0, 0, 20),
  (.bipush 12, 2, [], [], 0, 12, 0, 21), mm_nop,
  (.newarray .int, 2, [(0, 12)], [[2066]], 0, 0, 0, 23), mm_nop,
  (.putfield 18, 3, [(2, 2)], [[2075]], 1, 0, 0, 25), mm_nop, mm_nop,
  (.aload_n 0, 1, [], [], 0, 0, 0, 28),
  (.bipush 12, 2, [], [], 0, 12, 0, 29), mm_nop,
  (.newarray .long, 2, [(1, 12)], [[2037]], 0, 0, 0, 31), mm_nop,
  (.putfield 21, 3, [(2, 3)], [[2076]], 1, 0, 0, 33), mm_nop, mm_nop,
  (.aload_n 0, 1, [], [], 0, 0, 0, 36),
  (.bipush 12, 2, [], [], 0, 12, 0, 37), mm_nop,
  (.newarray .long, 2, [(1, 12)], [[2037]], 0, 0, 0, 39), mm_nop,
  (.putfield 25, 3, [(2, 4)], [[2077]], 1, 0, 0, 41), mm_nop, mm_nop,
  (.aload_n 0, 1, [], [], 0, 0, 0, 44),
  (.bipush 12, 2, [], [], 0, 12, 0, 45), mm_nop,
  (.newarray .int, 2, [(0, 12)], [[2066]], 0, 0, 0, 47), mm_nop,
  (.putfield 28, 3, [(2, 5)], [[2078]], 1, 0, 0, 49), mm_nop, mm_nop,
  (.aload_n 0, 1, [], [], 0, 0, 0, 52),
  (.bipush 12, 2, [], [], 0, 12, 0, 53), mm_nop,
  (.newarray .int, 2, [(0, 12)], [[2066]], 0, 0, 0, 55), mm_nop,
  (.putfield 31, 3, [(2, 6)], [[2079]], 1, 0, 0, 57), mm_nop, mm_nop,
  (.return_, 1, [], [], 0, 0, 0, 60)]
def mm_m22 : mm_M := (yX2_init, cX2_init, 1, none, mm_k22, 0, 7, 84, 2071)
/-- TypeCopier$Functions.size.()I -/
def mm_k23 : List mm_E := [
  (.aload_n 0, 1, [], [], 0, 0, 0, 0),
  (.getfield 34, 3, [(2, 7)], [[2080]], 0, 0, 0, 1), mm_nop, mm_nop,
  (.ireturn, 1, [], [], 0, 0, 0, 4)]
def mm_m23 : mm_M := (yX2_size, cX2_size, 1, (some .int), mm_k23, 0, 0, 0, 4103)
/-- TypeCopier$Functions.has.(I)Z -/
def mm_k24 : List mm_E := [
  (.iload_n 1, 1, [], [], 1, 0, 0, 0),
  (.ifCond .lt 21, 3, [(0, 22)], [], 0, 0, 0, 1), mm_nop, mm_nop,
  (.iload_n 1, 1, [], [], 1, 0, 0, 4),
  (.aload_n 0, 1, [], [], 0, 0, 0, 5),
  (.getfield 34, 3, [(2, 7)], [[2080]], 0, 0, 0, 6), mm_nop, mm_nop,
  (.if_icmp .ge 13, 3, [(0, 22)], [], 0, 0, 0, 9), mm_nop, mm_nop,
  (.iload_n 1, 1, [], [], 1, 0, 0, 12),
  (.bipush 12, 2, [], [], 0, 12, 0, 13), mm_nop,
  (.if_icmp .ge 7, 3, [(0, 22)], [], 0, 0, 0, 15), mm_nop, mm_nop,
  (.iconst 1, 1, [], [], 0, 1, 0, 18),
  (.goto 4, 3, [(0, 23)], [], 0, 0, 0, 19), mm_nop, mm_nop,
  (.iconst 0, 1, [], [], 0, 0, 0, 22),
  (.ireturn, 1, [], [], 0, 0, 0, 23)]
def mm_m24 : mm_M := (yX2_has, cX2_has, 2, (some .boolean), mm_k24, 1, 0, 0, 3057)
/-- TypeCopier$Functions.lettersOf.(I)I -/
def mm_k25 : List mm_E := [
  (.aload_n 0, 1, [], [], 0, 0, 0, 0),
  (.iload_n 1, 1, [], [], 1, 0, 0, 1),
  (.invokevirtual 38, 3, [(2, 24)], [[3062, 3055, 3056, 2004]], 1, 0, 0, 2), mm_nop, mm_nop,
  (.ifCond .eq 12, 3, [(0, 17)], [], 0, 0, 0, 5), mm_nop, mm_nop,
  (.aload_n 0, 1, [], [], 0, 0, 0, 8),
  (.getfield 11, 3, [(2, 0)], [[2073]], 0, 0, 0, 9), mm_nop, mm_nop,
  (.iload_n 1, 1, [], [], 1, 0, 0, 12),
  (.iaload, 1, [], [], 0, 0, 0, 13),
  (.goto 4, 3, [(0, 18)], [], 0, 0, 0, 14), mm_nop, mm_nop,
  (.iconst 0, 1, [], [], 0, 0, 0, 17),
  (.ireturn, 1, [], [], 0, 0, 0, 18)]
def mm_m25 : mm_M := (yX2_lettersOf, cX2_lettersOf, 2, (some .int), mm_k25, 1, 0, 0, 3061)
/-- TypeCopier$Functions.argumentShape.(I)J -/
def mm_k26 : List mm_E := [
  (.aload_n 0, 1, [], [], 0, 0, 0, 0),
  (.iload_n 1, 1, [], [], 1, 0, 0, 1),
  (.invokevirtual 38, 3, [(2, 24)], [[3062, 3055, 3056, 2004]], 1, 0, 0, 2), mm_nop, mm_nop,
  (.ifCond .eq 12, 3, [(0, 17)], [], 0, 0, 0, 5), mm_nop, mm_nop,
  (.aload_n 0, 1, [], [], 0, 0, 0, 8),
  (.getfield 21, 3, [(2, 3)], [[2076]], 0, 0, 0, 9), mm_nop, mm_nop,
  (.iload_n 1, 1, [], [], 1, 0, 0, 12),
  (.laload, 1, [], [], 0, 0, 0, 13),
  (.goto 6, 3, [(0, 20)], [], 0, 0, 0, 14), mm_nop, mm_nop,
  (.ldc2_w 44, 3, [], [[3092]], 0, 0, (-1), 17), mm_nop, mm_nop,
  (.lreturn, 1, [], [], 0, 0, 0, 20)]
def mm_m26 : mm_M := (yX2_argumentShape, cX2_argumentShape, 2, (some .long), mm_k26, 1, 0, 0, 3159)
/-- TypeCopier$Functions.resultShape.(I)J -/
def mm_k27 : List mm_E := [
  (.aload_n 0, 1, [], [], 0, 0, 0, 0),
  (.iload_n 1, 1, [], [], 1, 0, 0, 1),
  (.invokevirtual 38, 3, [(2, 24)], [[3062, 3055, 3056, 2004]], 1, 0, 0, 2), mm_nop, mm_nop,
  (.ifCond .eq 12, 3, [(0, 17)], [], 0, 0, 0, 5), mm_nop, mm_nop,
  (.aload_n 0, 1, [], [], 0, 0, 0, 8),
  (.getfield 25, 3, [(2, 4)], [[2077]], 0, 0, 0, 9), mm_nop, mm_nop,
  (.iload_n 1, 1, [], [], 1, 0, 0, 12),
  (.laload, 1, [], [], 0, 0, 0, 13),
  (.goto 6, 3, [(0, 20)], [], 0, 0, 0, 14), mm_nop, mm_nop,
  (.ldc2_w 44, 3, [], [[3092]], 0, 0, (-1), 17), mm_nop, mm_nop,
  (.lreturn, 1, [], [], 0, 0, 0, 20)]
def mm_m27 : mm_M := (yX2_resultShape, cX2_resultShape, 2, (some .long), mm_k27, 1, 0, 0, 3091)
/-- TypeCopier$Functions.bodyOf.(I)I -/
def mm_k28 : List mm_E := [
  (.aload_n 0, 1, [], [], 0, 0, 0, 0),
  (.iload_n 1, 1, [], [], 1, 0, 0, 1),
  (.invokevirtual 38, 3, [(2, 24)], [[3062, 3055, 3056, 2004]], 1, 0, 0, 2), mm_nop, mm_nop,
  (.ifCond .eq 12, 3, [(0, 17)], [], 0, 0, 0, 5), mm_nop, mm_nop,
  (.aload_n 0, 1, [], [], 0, 0, 0, 8),
  (.getfield 28, 3, [(2, 5)], [[2078]], 0, 0, 0, 9), mm_nop, mm_nop,
  (.iload_n 1, 1, [], [], 1, 0, 0, 12),
  (.iaload, 1, [], [], 0, 0, 0, 13),
  (.goto 4, 3, [(0, 18)], [], 0, 0, 0, 14), mm_nop, mm_nop,
  (.iconst (-1), 1, [], [], 0, (-1), 0, 17),
  (.ireturn, 1, [], [], 0, 0, 0, 18)]
def mm_m28 : mm_M := (yX2_bodyOf, cX2_bodyOf, 2, (some .int), mm_k28, 1, 0, 0, 3074)
/-- TypeCopier$Functions.lettersAllow.(IJ)Z -/
def mm_k29 : List mm_E := [
  (.iload_n 0, 1, [], [], 0, 0, 0, 0),
  (.iconst 2, 1, [], [], 0, 2, 0, 1),
  (.if_icmp .ne 7, 3, [(0, 9)], [], 0, 0, 0, 2), mm_nop, mm_nop,
  (.iconst 3, 1, [], [], 0, 3, 0, 5),
  (.goto 4, 3, [(0, 10)], [], 0, 0, 0, 6), mm_nop, mm_nop,
  (.iload_n 0, 1, [], [], 0, 0, 0, 9),
  (.istore_n 3, 1, [], [], 3, 0, 0, 10),
  (.lload_n 1, 1, [], [], 1, 0, 0, 11),
  (.invokestatic 46, 3, [(1, 137)], [[4126, 3200, 2013]], 1, 0, 0, 12), mm_nop, mm_nop,
  (.iload_n 3, 1, [], [], 3, 0, 0, 15),
  (.iconst (-1), 1, [], [], 0, (-1), 0, 16),
  (.ixor, 1, [], [], 0, 0, 0, 17),
  (.iand, 1, [], [], 0, 0, 0, 18),
  (.ifCond .ne 7, 3, [(0, 26)], [], 0, 0, 0, 19), mm_nop, mm_nop,
  (.iconst 1, 1, [], [], 0, 1, 0, 22),
  (.goto 4, 3, [(0, 27)], [], 0, 0, 0, 23), mm_nop, mm_nop,
  (.iconst 0, 1, [], [], 0, 0, 0, 26),
  (.ireturn, 1, [], [], 0, 0, 0, 27)]
def mm_m29 : mm_M := (yX2_lettersAllow, cX2_lettersAllow, 4, (some .boolean), mm_k29, 2, 0, 0, 4125)
/-- TypeCopier$Functions.add.(IIIJJ)I -/
def mm_k30 : List mm_E := [
  (.aload_n 0, 1, [], [], 0, 0, 0, 0),
  (.getfield 34, 3, [(2, 7)], [[2080]], 0, 0, 0, 1), mm_nop, mm_nop,
  (.bipush 12, 2, [], [], 0, 12, 0, 4), mm_nop,
  (.if_icmp .lt 6, 3, [(0, 12)], [], 0, 0, 0, 6), mm_nop, mm_nop,
  (.bipush (-4), 2, [], [], 0, (-4), 0, 9), mm_nop,
  (.ireturn, 1, [], [], 0, 0, 0, 11),
  (.aload_n 0, 1, [], [], 0, 0, 0, 12),
  (.getfield 11, 3, [(2, 0)], [[2073]], 0, 0, 0, 13), mm_nop, mm_nop,
  (.aload_n 0, 1, [], [], 0, 0, 0, 16),
  (.getfield 34, 3, [(2, 7)], [[2080]], 0, 0, 0, 17), mm_nop, mm_nop,
  (.iload_n 1, 1, [], [], 1, 0, 0, 20),
  (.iastore, 1, [], [], 0, 0, 0, 21),
  (.aload_n 0, 1, [], [], 0, 0, 0, 22),
  (.getfield 15, 3, [(2, 1)], [[2074]], 0, 0, 0, 23), mm_nop, mm_nop,
  (.aload_n 0, 1, [], [], 0, 0, 0, 26),
  (.getfield 34, 3, [(2, 7)], [[2080]], 0, 0, 0, 27), mm_nop, mm_nop,
  (.iload_n 2, 1, [], [], 2, 0, 0, 30),
  (.iastore, 1, [], [], 0, 0, 0, 31),
  (.aload_n 0, 1, [], [], 0, 0, 0, 32),
  (.getfield 18, 3, [(2, 2)], [[2075]], 0, 0, 0, 33), mm_nop, mm_nop,
  (.aload_n 0, 1, [], [], 0, 0, 0, 36),
  (.getfield 34, 3, [(2, 7)], [[2080]], 0, 0, 0, 37), mm_nop, mm_nop,
  (.iload_n 3, 1, [], [], 3, 0, 0, 40),
  (.iastore, 1, [], [], 0, 0, 0, 41),
  (.aload_n 0, 1, [], [], 0, 0, 0, 42),
  (.getfield 21, 3, [(2, 3)], [[2076]], 0, 0, 0, 43), mm_nop, mm_nop,
  (.aload_n 0, 1, [], [], 0, 0, 0, 46),
  (.getfield 34, 3, [(2, 7)], [[2080]], 0, 0, 0, 47), mm_nop, mm_nop,
  (.lload 4, 2, [], [], 4, 0, 0, 50), mm_nop,
  (.lastore, 1, [], [], 0, 0, 0, 52),
  (.aload_n 0, 1, [], [], 0, 0, 0, 53),
  (.getfield 25, 3, [(2, 4)], [[2077]], 0, 0, 0, 54), mm_nop, mm_nop,
  (.aload_n 0, 1, [], [], 0, 0, 0, 57),
  (.getfield 34, 3, [(2, 7)], [[2080]], 0, 0, 0, 58), mm_nop, mm_nop,
  (.lload 6, 2, [], [], 6, 0, 0, 61), mm_nop,
  (.lastore, 1, [], [], 0, 0, 0, 63),
  (.aload_n 0, 1, [], [], 0, 0, 0, 64),
  (.getfield 28, 3, [(2, 5)], [[2078]], 0, 0, 0, 65), mm_nop, mm_nop,
  (.aload_n 0, 1, [], [], 0, 0, 0, 68),
  (.getfield 34, 3, [(2, 7)], [[2080]], 0, 0, 0, 69), mm_nop, mm_nop,
  (.iconst (-1), 1, [], [], 0, (-1), 0, 72),
  (.iastore, 1, [], [], 0, 0, 0, 73),
  (.aload_n 0, 1, [], [], 0, 0, 0, 74),
  (.dup, 1, [], [], 0, 0, 0, 75),
  (.getfield 34, 3, [(2, 7)], [[2080]], 0, 0, 0, 76), mm_nop, mm_nop,
  (.dup_x1, 1, [], [], 0, 0, 0, 79),
  (.iconst 1, 1, [], [], 0, 1, 0, 80),
  (.iadd, 1, [], [], 0, 0, 0, 81),
  (.putfield 34, 3, [(2, 7)], [[2080]], 0, 0, 0, 82), mm_nop, mm_nop,
  (.ireturn, 1, [], [], 0, 0, 0, 85)]
def mm_m30 : mm_M := (yX2_add, cX2_add, 8, (some .int), mm_k30, 5, 0, 0, 4149)
/-- TypeCopier$Functions.giveBody.(III)V -/
def mm_k31 : List mm_E := [
  (.aload_n 0, 1, [], [], 0, 0, 0, 0),
  (.iload_n 1, 1, [], [], 1, 0, 0, 1),
  (.invokevirtual 38, 3, [(2, 24)], [[3062, 3055, 3056, 2004]], 1, 0, 0, 2), mm_nop, mm_nop,
  (.ifCond .eq 17, 3, [(0, 22)], [], 0, 0, 0, 5), mm_nop, mm_nop,
  (.aload_n 0, 1, [], [], 0, 0, 0, 8),
  (.getfield 28, 3, [(2, 5)], [[2078]], 0, 0, 0, 9), mm_nop, mm_nop,
  (.iload_n 1, 1, [], [], 1, 0, 0, 12),
  (.iload_n 2, 1, [], [], 2, 0, 0, 13),
  (.iastore, 1, [], [], 0, 0, 0, 14),
  (.aload_n 0, 1, [], [], 0, 0, 0, 15),
  (.getfield 31, 3, [(2, 6)], [[2079]], 0, 0, 0, 16), mm_nop, mm_nop,
  (.iload_n 1, 1, [], [], 1, 0, 0, 19),
  (.iload_n 3, 1, [], [], 3, 0, 0, 20),
  (.iastore, 1, [], [], 0, 0, 0, 21),
  (.return_, 1, [], [], 0, 0, 0, 22)]
def mm_m31 : mm_M := (yX2_giveBody, cX2_giveBody, 4, none, mm_k31, 3, 0, 0, 4170)
/-- TypeCopier$Functions.reachedBy.(I)I -/
def mm_k32 : List mm_E := [
  (.aload_n 0, 1, [], [], 0, 0, 0, 0),
  (.iload_n 1, 1, [], [], 1, 0, 0, 1),
  (.invokevirtual 38, 3, [(2, 24)], [[3062, 3055, 3056, 2004]], 1, 0, 0, 2), mm_nop, mm_nop,
  (.ifCond .eq 12, 3, [(0, 17)], [], 0, 0, 0, 5), mm_nop, mm_nop,
  (.aload_n 0, 1, [], [], 0, 0, 0, 8),
  (.getfield 31, 3, [(2, 6)], [[2079]], 0, 0, 0, 9), mm_nop, mm_nop,
  (.iload_n 1, 1, [], [], 1, 0, 0, 12),
  (.iaload, 1, [], [], 0, 0, 0, 13),
  (.goto 4, 3, [(0, 18)], [], 0, 0, 0, 14), mm_nop, mm_nop,
  (.iconst 0, 1, [], [], 0, 0, 0, 17),
  (.istore_n 2, 1, [], [], 2, 0, 0, 18),
  (.iconst 0, 1, [], [], 0, 0, 0, 19),
  (.istore_n 3, 1, [], [], 3, 0, 0, 20),
  (.iload_n 3, 1, [], [], 3, 0, 0, 21),
  (.bipush 12, 2, [], [], 0, 12, 0, 22), mm_nop,
  (.if_icmp .ge 44, 3, [(0, 68)], [], 0, 0, 0, 24), mm_nop, mm_nop,
  (.iconst 0, 1, [], [], 0, 0, 0, 27),
  (.istore 4, 2, [], [], 4, 0, 0, 28), mm_nop,
  (.iload 4, 2, [], [], 4, 0, 0, 30), mm_nop,
  (.bipush 12, 2, [], [], 0, 12, 0, 32), mm_nop,
  (.if_icmp .ge 28, 3, [(0, 62)], [], 0, 0, 0, 34), mm_nop, mm_nop,
  (.iload_n 2, 1, [], [], 2, 0, 0, 37),
  (.iload 4, 2, [], [], 4, 0, 0, 38), mm_nop,
  (.ishr, 1, [], [], 0, 0, 0, 40),
  (.iconst 1, 1, [], [], 0, 1, 0, 41),
  (.iand, 1, [], [], 0, 0, 0, 42),
  (.ifCond .eq 13, 3, [(0, 56)], [], 0, 0, 0, 43), mm_nop, mm_nop,
  (.iload_n 2, 1, [], [], 2, 0, 0, 46),
  (.aload_n 0, 1, [], [], 0, 0, 0, 47),
  (.getfield 31, 3, [(2, 6)], [[2079]], 0, 0, 0, 48), mm_nop, mm_nop,
  (.iload 4, 2, [], [], 4, 0, 0, 51), mm_nop,
  (.iaload, 1, [], [], 0, 0, 0, 53),
  (.ior, 1, [], [], 0, 0, 0, 54),
  (.istore_n 2, 1, [], [], 2, 0, 0, 55),
  (.iinc 4 1, 3, [], [], 4, 1, 0, 56), mm_nop, mm_nop,
  (.goto (-29), 3, [(0, 30)], [], 0, 0, 0, 59), mm_nop, mm_nop,
  (.iinc 3 1, 3, [], [], 3, 1, 0, 62), mm_nop, mm_nop,
  (.goto (-44), 3, [(0, 21)], [], 0, 0, 0, 65), mm_nop, mm_nop,
  (.iload_n 2, 1, [], [], 2, 0, 0, 68),
  (.ireturn, 1, [], [], 0, 0, 0, 69)]
def mm_m32 : mm_M := (yX2_reachedBy, cX2_reachedBy, 5, (some .int), mm_k32, 1, 0, 0, 3066)
/-- TypeCopier$Functions.digestFrom.(J)J -/
def mm_k33 : List mm_E := [
  (.lload_n 1, 1, [], [], 1, 0, 0, 0),
  (.lstore_n 3, 1, [], [], 3, 0, 0, 1),
  (.iconst 0, 1, [], [], 0, 0, 0, 2),
  (.istore 5, 2, [], [], 5, 0, 0, 3), mm_nop,
  (.iload 5, 2, [], [], 5, 0, 0, 5), mm_nop,
  (.aload_n 0, 1, [], [], 0, 0, 0, 7),
  (.getfield 34, 3, [(2, 7)], [[2080]], 0, 0, 0, 8), mm_nop, mm_nop,
  (.if_icmp .ge 76, 3, [(0, 87)], [], 0, 0, 0, 11), mm_nop, mm_nop,
  (.iload 5, 2, [], [], 5, 0, 0, 14), mm_nop,
  (.bipush 12, 2, [], [], 0, 12, 0, 16), mm_nop,
  (.if_icmp .ge 69, 3, [(0, 87)], [], 0, 0, 0, 18), mm_nop, mm_nop,
  (.ldc2_w 50, 3, [], [[6091]], 0, 0, 31, 21), mm_nop, mm_nop,
  (.lload_n 3, 1, [], [], 3, 0, 0, 24),
  (.lmul, 1, [], [], 0, 0, 0, 25),
  (.aload_n 0, 1, [], [], 0, 0, 0, 26),
  (.getfield 11, 3, [(2, 0)], [[2073]], 0, 0, 0, 27), mm_nop, mm_nop,
  (.iload 5, 2, [], [], 5, 0, 0, 30), mm_nop,
  (.iaload, 1, [], [], 0, 0, 0, 32),
  (.i2l, 1, [], [], 0, 0, 0, 33),
  (.ladd, 1, [], [], 0, 0, 0, 34),
  (.lstore_n 3, 1, [], [], 3, 0, 0, 35),
  (.ldc2_w 50, 3, [], [[6091]], 0, 0, 31, 36), mm_nop, mm_nop,
  (.lload_n 3, 1, [], [], 3, 0, 0, 39),
  (.lmul, 1, [], [], 0, 0, 0, 40),
  (.aload_n 0, 1, [], [], 0, 0, 0, 41),
  (.getfield 15, 3, [(2, 1)], [[2074]], 0, 0, 0, 42), mm_nop, mm_nop,
  (.iload 5, 2, [], [], 5, 0, 0, 45), mm_nop,
  (.iaload, 1, [], [], 0, 0, 0, 47),
  (.i2l, 1, [], [], 0, 0, 0, 48),
  (.ladd, 1, [], [], 0, 0, 0, 49),
  (.lstore_n 3, 1, [], [], 3, 0, 0, 50),
  (.ldc2_w 50, 3, [], [[6091]], 0, 0, 31, 51), mm_nop, mm_nop,
  (.lload_n 3, 1, [], [], 3, 0, 0, 54),
  (.lmul, 1, [], [], 0, 0, 0, 55),
  (.aload_n 0, 1, [], [], 0, 0, 0, 56),
  (.getfield 18, 3, [(2, 2)], [[2075]], 0, 0, 0, 57), mm_nop, mm_nop,
  (.iload 5, 2, [], [], 5, 0, 0, 60), mm_nop,
  (.iaload, 1, [], [], 0, 0, 0, 62),
  (.i2l, 1, [], [], 0, 0, 0, 63),
  (.ladd, 1, [], [], 0, 0, 0, 64),
  (.lstore_n 3, 1, [], [], 3, 0, 0, 65),
  (.ldc2_w 50, 3, [], [[6091]], 0, 0, 31, 66), mm_nop, mm_nop,
  (.lload_n 3, 1, [], [], 3, 0, 0, 69),
  (.lmul, 1, [], [], 0, 0, 0, 70),
  (.aload_n 0, 1, [], [], 0, 0, 0, 71),
  (.getfield 28, 3, [(2, 5)], [[2078]], 0, 0, 0, 72), mm_nop, mm_nop,
  (.iload 5, 2, [], [], 5, 0, 0, 75), mm_nop,
  (.iaload, 1, [], [], 0, 0, 0, 77),
  (.i2l, 1, [], [], 0, 0, 0, 78),
  (.ladd, 1, [], [], 0, 0, 0, 79),
  (.lstore_n 3, 1, [], [], 3, 0, 0, 80),
  (.iinc 5 1, 3, [], [], 5, 1, 0, 81), mm_nop, mm_nop,
  (.goto (-79), 3, [(0, 5)], [], 0, 0, 0, 84), mm_nop, mm_nop,
  (.lload_n 3, 1, [], [], 3, 0, 0, 87),
  (.lreturn, 1, [], [], 0, 0, 0, 88)]
def mm_m33 : mm_M := (yX2_digestFrom, cX2_digestFrom, 6, (some .long), mm_k33, 1, 0, 0, 6090)
/-- TypeCopier$Input.<init>.()V -/
def mm_k34 : List mm_E := [
  (.aload_n 0, 1, [], [], 0, 0, 0, 0),
  (.invokespecial 3, 3, [], [[2172, 2022, 2023]], 0, 0, 0, 1), mm_nop, mm_nop,
  (.aload_n 0, 1, [], [], 0, 0, 0, 4),
  (.bipush 16, 2, [], [], 0, 16, 0, 5), mm_nop,
  (.newarray .int, 2, [(0, 16)], [[2066]], 0, 0, 0, 7), mm_nop,
  (.putfield 11, 3, [(3, 0)], [[2173]], 1, 0, 0, 9), mm_nop, mm_nop,
  (.return_, 1, [], [], 0, 0, 0, 12)]
def mm_m34 : mm_M := (yX3_init, cX3_init, 1, none, mm_k34, 0, 1, 16, 2171)
/-- TypeCopier$Input.size.()I -/
def mm_k35 : List mm_E := [
  (.aload_n 0, 1, [], [], 0, 0, 0, 0),
  (.getfield 15, 3, [(3, 1)], [[2174]], 0, 0, 0, 1), mm_nop, mm_nop,
  (.ireturn, 1, [], [], 0, 0, 0, 4)]
def mm_m35 : mm_M := (yX3_size, cX3_size, 1, (some .int), mm_k35, 0, 0, 0, 6069)
/-- TypeCopier$Input.add.(I)I -/
def mm_k36 : List mm_E := [
  (.aload_n 0, 1, [], [], 0, 0, 0, 0),
  (.getfield 15, 3, [(3, 1)], [[2174]], 0, 0, 0, 1), mm_nop, mm_nop,
  (.bipush 16, 2, [], [], 0, 16, 0, 4), mm_nop,
  (.if_icmp .lt 6, 3, [(0, 12)], [], 0, 0, 0, 6), mm_nop, mm_nop,
  (.bipush (-4), 2, [], [], 0, (-4), 0, 9), mm_nop,
  (.ireturn, 1, [], [], 0, 0, 0, 11),
  (.aload_n 0, 1, [], [], 0, 0, 0, 12),
  (.getfield 11, 3, [(3, 0)], [[2173]], 0, 0, 0, 13), mm_nop, mm_nop,
  (.aload_n 0, 1, [], [], 0, 0, 0, 16),
  (.getfield 15, 3, [(3, 1)], [[2174]], 0, 0, 0, 17), mm_nop, mm_nop,
  (.iload_n 1, 1, [], [], 1, 0, 0, 20),
  (.iastore, 1, [], [], 0, 0, 0, 21),
  (.aload_n 0, 1, [], [], 0, 0, 0, 22),
  (.dup, 1, [], [], 0, 0, 0, 23),
  (.getfield 15, 3, [(3, 1)], [[2174]], 0, 0, 0, 24), mm_nop, mm_nop,
  (.iconst 1, 1, [], [], 0, 1, 0, 27),
  (.iadd, 1, [], [], 0, 0, 0, 28),
  (.putfield 15, 3, [(3, 1)], [[2174]], 0, 0, 0, 29), mm_nop, mm_nop,
  (.aload_n 0, 1, [], [], 0, 0, 0, 32),
  (.getfield 15, 3, [(3, 1)], [[2174]], 0, 0, 0, 33), mm_nop, mm_nop,
  (.ireturn, 1, [], [], 0, 0, 0, 36)]
def mm_m36 : mm_M := (yX3_add, cX3_add, 2, (some .int), mm_k36, 1, 0, 0, 4215)
/-- TypeCopier$Input.clear.()I -/
def mm_k37 : List mm_E := [
  (.aload_n 0, 1, [], [], 0, 0, 0, 0),
  (.getfield 15, 3, [(3, 1)], [[2174]], 0, 0, 0, 1), mm_nop, mm_nop,
  (.istore_n 1, 1, [], [], 1, 0, 0, 4),
  (.aload_n 0, 1, [], [], 0, 0, 0, 5),
  (.iconst 0, 1, [], [], 0, 0, 0, 6),
  (.putfield 15, 3, [(3, 1)], [[2174]], 0, 0, 0, 7), mm_nop, mm_nop,
  (.iload_n 1, 1, [], [], 1, 0, 0, 10),
  (.ireturn, 1, [], [], 0, 0, 0, 11)]
def mm_m37 : mm_M := (yX3_clear, cX3_clear, 2, (some .int), mm_k37, 0, 0, 0, 4223)
/-- TypeCopier$Input.rewind.()V -/
def mm_k38 : List mm_E := [
  (.aload_n 0, 1, [], [], 0, 0, 0, 0),
  (.iconst 0, 1, [], [], 0, 0, 0, 1),
  (.putfield 19, 3, [(3, 2)], [[2175]], 0, 0, 0, 2), mm_nop, mm_nop,
  (.return_, 1, [], [], 0, 0, 0, 5)]
def mm_m38 : mm_M := (yX3_rewind, cX3_rewind, 1, none, mm_k38, 0, 0, 0, 5003)
/-- TypeCopier$Input.next.()I -/
def mm_k39 : List mm_E := [
  (.aload_n 0, 1, [], [], 0, 0, 0, 0),
  (.getfield 19, 3, [(3, 2)], [[2175]], 0, 0, 0, 1), mm_nop, mm_nop,
  (.ifCond .lt 23, 3, [(0, 27)], [], 0, 0, 0, 4), mm_nop, mm_nop,
  (.aload_n 0, 1, [], [], 0, 0, 0, 7),
  (.getfield 19, 3, [(3, 2)], [[2175]], 0, 0, 0, 8), mm_nop, mm_nop,
  (.aload_n 0, 1, [], [], 0, 0, 0, 11),
  (.getfield 15, 3, [(3, 1)], [[2174]], 0, 0, 0, 12), mm_nop, mm_nop,
  (.if_icmp .ge 12, 3, [(0, 27)], [], 0, 0, 0, 15), mm_nop, mm_nop,
  (.aload_n 0, 1, [], [], 0, 0, 0, 18),
  (.getfield 19, 3, [(3, 2)], [[2175]], 0, 0, 0, 19), mm_nop, mm_nop,
  (.bipush 16, 2, [], [], 0, 16, 0, 22), mm_nop,
  (.if_icmp .lt 5, 3, [(0, 29)], [], 0, 0, 0, 24), mm_nop, mm_nop,
  (.iconst 0, 1, [], [], 0, 0, 0, 27),
  (.ireturn, 1, [], [], 0, 0, 0, 28),
  (.aload_n 0, 1, [], [], 0, 0, 0, 29),
  (.getfield 11, 3, [(3, 0)], [[2173]], 0, 0, 0, 30), mm_nop, mm_nop,
  (.aload_n 0, 1, [], [], 0, 0, 0, 33),
  (.dup, 1, [], [], 0, 0, 0, 34),
  (.getfield 19, 3, [(3, 2)], [[2175]], 0, 0, 0, 35), mm_nop, mm_nop,
  (.dup_x1, 1, [], [], 0, 0, 0, 38),
  (.iconst 1, 1, [], [], 0, 1, 0, 39),
  (.iadd, 1, [], [], 0, 0, 0, 40),
  (.putfield 19, 3, [(3, 2)], [[2175]], 0, 0, 0, 41), mm_nop, mm_nop,
  (.iaload, 1, [], [], 0, 0, 0, 44),
  (.ireturn, 1, [], [], 0, 0, 0, 45)]
def mm_m39 : mm_M := (yX3_next, cX3_next, 1, (some .int), mm_k39, 0, 0, 0, 5012)
/-- TypeCopier$Judge.<init>.(LTypeCopier$Numbered;LTypeCopier$Nodes;LTypeCopier$Functions;)V -/
def mm_k40 : List mm_E := [
  (.aload_n 0, 1, [], [], 0, 0, 0, 0),
  (.invokespecial 3, 3, [], [[2103, 2022, 2023]], 0, 0, 0, 1), mm_nop, mm_nop,
  (.aload_n 0, 1, [], [], 0, 0, 0, 4),
  (.bipush 12, 2, [], [], 0, 12, 0, 5), mm_nop,
  (.sipush 200, 3, [], [], 0, 200, 0, 7), mm_nop, mm_nop,
  (.multianewarray 13 2, 4, [(1, 12), (0, 200)], [[2104, 2037, 2105]], 0, 0, 0, 10), mm_nop, mm_nop, mm_nop,
  (.putfield 15, 3, [(4, 3)], [[2109]], 1, 0, 0, 14), mm_nop, mm_nop,
  (.aload_n 0, 1, [], [], 0, 0, 0, 17),
  (.aload_n 1, 1, [], [], 1, 0, 0, 18),
  (.putfield 20, 3, [(4, 0)], [[2106]], 1, 0, 0, 19), mm_nop, mm_nop,
  (.aload_n 0, 1, [], [], 0, 0, 0, 22),
  (.aload_n 2, 1, [], [], 2, 0, 0, 23),
  (.putfield 24, 3, [(4, 1)], [[2107]], 1, 0, 0, 24), mm_nop, mm_nop,
  (.aload_n 0, 1, [], [], 0, 0, 0, 27),
  (.aload_n 3, 1, [], [], 3, 0, 0, 28),
  (.putfield 28, 3, [(4, 2)], [[2108]], 1, 0, 0, 29), mm_nop, mm_nop,
  (.return_, 1, [], [], 0, 0, 0, 32)]
def mm_m40 : mm_M := (yX4_init, cX4_init, 4, none, mm_k40, 3, 13, 2412, 2102)
/-- TypeCopier$Judge.fillNode.(I)V -/
def mm_k41 : List mm_E := [
  (.iconst 0, 1, [], [], 0, 0, 0, 0),
  (.istore_n 2, 1, [], [], 2, 0, 0, 1),
  (.iload_n 2, 1, [], [], 2, 0, 0, 2),
  (.aload_n 0, 1, [], [], 0, 0, 0, 3),
  (.getfield 28, 3, [(4, 2)], [[2108]], 0, 0, 0, 4), mm_nop, mm_nop,
  (.invokevirtual 32, 3, [(2, 23)], [[4100, 4101, 4102, 2004]], 0, 0, 0, 7), mm_nop, mm_nop,
  (.if_icmp .ge 21, 3, [(0, 31)], [], 0, 0, 0, 10), mm_nop, mm_nop,
  (.aload_n 0, 1, [], [], 0, 0, 0, 13),
  (.iload_n 2, 1, [], [], 2, 0, 0, 14),
  (.iload_n 1, 1, [], [], 1, 0, 0, 15),
  (.aload_n 0, 1, [], [], 0, 0, 0, 16),
  (.iload_n 2, 1, [], [], 2, 0, 0, 17),
  (.iload_n 1, 1, [], [], 1, 0, 0, 18),
  (.invokevirtual 36, 3, [(4, 45)], [[4104, 4106, 1013, 2005]], 2, 0, 0, 19), mm_nop, mm_nop,
  (.invokevirtual 40, 3, [(4, 42)], [[4137, 4139, 1018, 2005]], 3, 0, 0, 22), mm_nop, mm_nop,
  (.iinc 2 1, 3, [], [], 2, 1, 0, 25), mm_nop, mm_nop,
  (.goto (-26), 3, [(0, 2)], [], 0, 0, 0, 28), mm_nop, mm_nop,
  (.return_, 1, [], [], 0, 0, 0, 31)]
def mm_m41 : mm_M := (yX4_fillNode, cX4_fillNode, 3, none, mm_k41, 1, 0, 0, 4099)
/-- TypeCopier$Judge.setShape.(IIJ)V -/
def mm_k42 : List mm_E := [
  (.iload_n 1, 1, [], [], 1, 0, 0, 0),
  (.ifCond .lt 29, 3, [(0, 30)], [], 0, 0, 0, 1), mm_nop, mm_nop,
  (.iload_n 1, 1, [], [], 1, 0, 0, 4),
  (.bipush 12, 2, [], [], 0, 12, 0, 5), mm_nop,
  (.if_icmp .ge 23, 3, [(0, 30)], [], 0, 0, 0, 7), mm_nop, mm_nop,
  (.iload_n 2, 1, [], [], 2, 0, 0, 10),
  (.ifCond .lt 19, 3, [(0, 30)], [], 0, 0, 0, 11), mm_nop, mm_nop,
  (.iload_n 2, 1, [], [], 2, 0, 0, 14),
  (.sipush 200, 3, [], [], 0, 200, 0, 15), mm_nop, mm_nop,
  (.if_icmp .ge 12, 3, [(0, 30)], [], 0, 0, 0, 18), mm_nop, mm_nop,
  (.aload_n 0, 1, [], [], 0, 0, 0, 21),
  (.getfield 15, 3, [(4, 3)], [[2109]], 0, 0, 0, 22), mm_nop, mm_nop,
  (.iload_n 1, 1, [], [], 1, 0, 0, 25),
  (.aaload, 1, [], [], 0, 0, 0, 26),
  (.iload_n 2, 1, [], [], 2, 0, 0, 27),
  (.lload_n 3, 1, [], [], 3, 0, 0, 28),
  (.lastore, 1, [], [], 0, 0, 0, 29),
  (.return_, 1, [], [], 0, 0, 0, 30)]
def mm_m42 : mm_M := (yX4_setShape, cX4_setShape, 5, none, mm_k42, 3, 0, 0, 4140)
/-- TypeCopier$Judge.shapeIn.(II)J -/
def mm_k43 : List mm_E := [
  (.aload_n 0, 1, [], [], 0, 0, 0, 0),
  (.getfield 28, 3, [(4, 2)], [[2108]], 0, 0, 0, 1), mm_nop, mm_nop,
  (.iload_n 1, 1, [], [], 1, 0, 0, 4),
  (.invokevirtual 44, 3, [(2, 24)], [[3054, 3055, 3056, 2004]], 1, 0, 0, 5), mm_nop, mm_nop,
  (.ifCond .eq 25, 3, [(0, 33)], [], 0, 0, 0, 8), mm_nop, mm_nop,
  (.aload_n 0, 1, [], [], 0, 0, 0, 11),
  (.getfield 24, 3, [(4, 1)], [[2107]], 0, 0, 0, 12), mm_nop, mm_nop,
  (.iload_n 2, 1, [], [], 2, 0, 0, 15),
  (.invokevirtual 48, 3, [(6, 92)], [[3083, 3084, 3085, 2003]], 1, 0, 0, 16), mm_nop, mm_nop,
  (.ifCond .eq 14, 3, [(0, 33)], [], 0, 0, 0, 19), mm_nop, mm_nop,
  (.aload_n 0, 1, [], [], 0, 0, 0, 22),
  (.getfield 15, 3, [(4, 3)], [[2109]], 0, 0, 0, 23), mm_nop, mm_nop,
  (.iload_n 1, 1, [], [], 1, 0, 0, 26),
  (.aaload, 1, [], [], 0, 0, 0, 27),
  (.iload_n 2, 1, [], [], 2, 0, 0, 28),
  (.laload, 1, [], [], 0, 0, 0, 29),
  (.goto 6, 3, [(0, 36)], [], 0, 0, 0, 30), mm_nop, mm_nop,
  (.ldc2_w 51, 3, [], [[3087]], 0, 0, (-1), 33), mm_nop, mm_nop,
  (.lreturn, 1, [], [], 0, 0, 0, 36)]
def mm_m43 : mm_M := (yX4_shapeIn, cX4_shapeIn, 3, (some .long), mm_k43, 2, 0, 0, 3082)
/-- TypeCopier$Judge.partShape.(III)J -/
def mm_k44 : List mm_E := [
  (.aload_n 0, 1, [], [], 0, 0, 0, 0),
  (.iload_n 1, 1, [], [], 1, 0, 0, 1),
  (.aload_n 0, 1, [], [], 0, 0, 0, 2),
  (.getfield 24, 3, [(4, 1)], [[2107]], 0, 0, 0, 3), mm_nop, mm_nop,
  (.iload_n 2, 1, [], [], 2, 0, 0, 6),
  (.iload_n 3, 1, [], [], 3, 0, 0, 7),
  (.invokevirtual 53, 3, [(6, 98)], [[4112, 3116, 3117, 2003]], 2, 0, 0, 8), mm_nop, mm_nop,
  (.invokevirtual 57, 3, [(4, 43)], [[3079, 3080, 3081, 2005]], 2, 0, 0, 11), mm_nop, mm_nop,
  (.lreturn, 1, [], [], 0, 0, 0, 14)]
def mm_m44 : mm_M := (yX4_partShape, cX4_partShape, 4, (some .long), mm_k44, 3, 0, 0, 4111)
/-- TypeCopier$Judge.findShape.(II)J -/
def mm_k45 : List mm_E := [
  (.aload_n 0, 1, [], [], 0, 0, 0, 0),
  (.iload_n 1, 1, [], [], 1, 0, 0, 1),
  (.iload_n 2, 1, [], [], 2, 0, 0, 2),
  (.iconst 0, 1, [], [], 0, 0, 0, 3),
  (.invokevirtual 60, 3, [(4, 44)], [[4108, 4110, 1014, 2005]], 3, 0, 0, 4), mm_nop, mm_nop,
  (.lstore_n 3, 1, [], [], 3, 0, 0, 7),
  (.aload_n 0, 1, [], [], 0, 0, 0, 8),
  (.iload_n 1, 1, [], [], 1, 0, 0, 9),
  (.iload_n 2, 1, [], [], 2, 0, 0, 10),
  (.iconst 1, 1, [], [], 0, 1, 0, 11),
  (.invokevirtual 60, 3, [(4, 44)], [[4108, 4110, 1014, 2005]], 3, 0, 0, 12), mm_nop, mm_nop,
  (.lstore 5, 2, [], [], 5, 0, 0, 15), mm_nop,
  (.aload_n 0, 1, [], [], 0, 0, 0, 17),
  (.getfield 24, 3, [(4, 1)], [[2107]], 0, 0, 0, 18), mm_nop, mm_nop,
  (.iload_n 2, 1, [], [], 2, 0, 0, 21),
  (.invokevirtual 64, 3, [(6, 94)], [[3127, 3128, 3129, 2003]], 1, 0, 0, 22), mm_nop, mm_nop,
  (.tableswitch 252 0 14 #[75, 77, 79, 88, 109, 130, 158, 165, 184, 203, 225, 252, 252, 252, 244], 75, [(0, 277), (0, 100), (1, 102), (2, 104), (3, 113), (4, 134), (5, 155), (6, 183), (7, 190), (8, 209), (9, 228), (10, 250), (11, 277), (12, 277), (13, 277), (14, 269)], [], 0, 0, 0, 25), mm_nop, mm_nop, mm_nop, mm_nop, mm_nop, mm_nop, mm_nop, mm_nop, mm_nop, mm_nop, mm_nop, mm_nop, mm_nop, mm_nop, mm_nop, mm_nop, mm_nop, mm_nop, mm_nop, mm_nop, mm_nop, mm_nop, mm_nop, mm_nop, mm_nop, mm_nop, mm_nop, mm_nop, mm_nop, mm_nop, mm_nop, mm_nop, mm_nop, mm_nop, mm_nop, mm_nop, mm_nop, mm_nop, mm_nop, mm_nop, mm_nop, mm_nop, mm_nop, mm_nop, mm_nop, mm_nop, mm_nop, mm_nop, mm_nop, mm_nop, mm_nop, mm_nop, mm_nop, mm_nop, mm_nop, mm_nop, mm_nop, mm_nop, mm_nop, mm_nop, mm_nop, mm_nop, mm_nop, mm_nop, mm_nop, mm_nop, mm_nop, mm_nop, mm_nop, mm_nop, mm_nop, mm_nop, mm_nop, mm_nop,
  (.lconst 0, 1, [], [], 0, 0, 0, 100),
  (.lreturn, 1, [], [], 0, 0, 0, 101),
  (.lconst 1, 1, [], [], 0, 0, 1, 102),
  (.lreturn, 1, [], [], 0, 0, 0, 103),
  (.aload_n 0, 1, [], [], 0, 0, 0, 104),
  (.getfield 28, 3, [(4, 2)], [[2108]], 0, 0, 0, 105), mm_nop, mm_nop,
  (.iload_n 1, 1, [], [], 1, 0, 0, 108),
  (.invokevirtual 68, 3, [(2, 26)], [[4113, 3157, 3158, 2004]], 1, 0, 0, 109), mm_nop, mm_nop,
  (.lreturn, 1, [], [], 0, 0, 0, 112),
  (.lload_n 3, 1, [], [], 3, 0, 0, 113),
  (.lconst 0, 1, [], [], 0, 0, 0, 114),
  (.lcmp, 1, [], [], 0, 0, 0, 115),
  (.ifCond .ne 14, 3, [(0, 130)], [], 0, 0, 0, 116), mm_nop, mm_nop,
  (.lload 5, 2, [], [], 5, 0, 0, 119), mm_nop,
  (.lconst 0, 1, [], [], 0, 0, 0, 121),
  (.lcmp, 1, [], [], 0, 0, 0, 122),
  (.ifCond .ne 7, 3, [(0, 130)], [], 0, 0, 0, 123), mm_nop, mm_nop,
  (.lconst 0, 1, [], [], 0, 0, 0, 126),
  (.goto 6, 3, [(0, 133)], [], 0, 0, 0, 127), mm_nop, mm_nop,
  (.ldc2_w 51, 3, [], [[3087]], 0, 0, (-1), 130), mm_nop, mm_nop,
  (.lreturn, 1, [], [], 0, 0, 0, 133),
  (.lload_n 3, 1, [], [], 3, 0, 0, 134),
  (.lconst 0, 1, [], [], 0, 0, 0, 135),
  (.lcmp, 1, [], [], 0, 0, 0, 136),
  (.ifCond .ne 14, 3, [(0, 151)], [], 0, 0, 0, 137), mm_nop, mm_nop,
  (.lload 5, 2, [], [], 5, 0, 0, 140), mm_nop,
  (.lconst 0, 1, [], [], 0, 0, 0, 142),
  (.lcmp, 1, [], [], 0, 0, 0, 143),
  (.ifCond .ne 7, 3, [(0, 151)], [], 0, 0, 0, 144), mm_nop, mm_nop,
  (.lconst 1, 1, [], [], 0, 0, 1, 147),
  (.goto 6, 3, [(0, 154)], [], 0, 0, 0, 148), mm_nop, mm_nop,
  (.ldc2_w 51, 3, [], [[3087]], 0, 0, (-1), 151), mm_nop, mm_nop,
  (.lreturn, 1, [], [], 0, 0, 0, 154),
  (.lload_n 3, 1, [], [], 3, 0, 0, 155),
  (.lconst 1, 1, [], [], 0, 0, 1, 156),
  (.lcmp, 1, [], [], 0, 0, 0, 157),
  (.ifCond .ne 21, 3, [(0, 179)], [], 0, 0, 0, 158), mm_nop, mm_nop,
  (.lload 5, 2, [], [], 5, 0, 0, 161), mm_nop,
  (.aload_n 0, 1, [], [], 0, 0, 0, 163),
  (.iload_n 1, 1, [], [], 1, 0, 0, 164),
  (.iload_n 2, 1, [], [], 2, 0, 0, 165),
  (.iconst 2, 1, [], [], 0, 2, 0, 166),
  (.invokevirtual 60, 3, [(4, 44)], [[4108, 4110, 1014, 2005]], 3, 0, 0, 167), mm_nop, mm_nop,
  (.lcmp, 1, [], [], 0, 0, 0, 170),
  (.ifCond .ne 8, 3, [(0, 179)], [], 0, 0, 0, 171), mm_nop, mm_nop,
  (.lload 5, 2, [], [], 5, 0, 0, 174), mm_nop,
  (.goto 6, 3, [(0, 182)], [], 0, 0, 0, 176), mm_nop, mm_nop,
  (.ldc2_w 51, 3, [], [[3087]], 0, 0, (-1), 179), mm_nop, mm_nop,
  (.lreturn, 1, [], [], 0, 0, 0, 182),
  (.lload_n 3, 1, [], [], 3, 0, 0, 183),
  (.lload 5, 2, [], [], 5, 0, 0, 184), mm_nop,
  (.invokestatic 72, 3, [(0, 132)], [[4114, 3187, 2013]], 2, 0, 0, 186), mm_nop, mm_nop,
  (.lreturn, 1, [], [], 0, 0, 0, 189),
  (.lload_n 3, 1, [], [], 3, 0, 0, 190),
  (.invokestatic 76, 3, [(0, 133)], [[4115, 3164, 2013]], 1, 0, 0, 191), mm_nop, mm_nop,
  (.iconst 4, 1, [], [], 0, 4, 0, 194),
  (.if_icmp .ne 10, 3, [(0, 205)], [], 0, 0, 0, 195), mm_nop, mm_nop,
  (.lload_n 3, 1, [], [], 3, 0, 0, 198),
  (.invokestatic 79, 3, [(0, 134)], [[4116, 3173, 2013]], 1, 0, 0, 199), mm_nop, mm_nop,
  (.goto 6, 3, [(0, 208)], [], 0, 0, 0, 202), mm_nop, mm_nop,
  (.ldc2_w 51, 3, [], [[3087]], 0, 0, (-1), 205), mm_nop, mm_nop,
  (.lreturn, 1, [], [], 0, 0, 0, 208),
  (.lload_n 3, 1, [], [], 3, 0, 0, 209),
  (.invokestatic 76, 3, [(0, 133)], [[4115, 3164, 2013]], 1, 0, 0, 210), mm_nop, mm_nop,
  (.iconst 4, 1, [], [], 0, 4, 0, 213),
  (.if_icmp .ne 10, 3, [(0, 224)], [], 0, 0, 0, 214), mm_nop, mm_nop,
  (.lload_n 3, 1, [], [], 3, 0, 0, 217),
  (.invokestatic 83, 3, [(0, 135)], [[4117, 3184, 2013]], 1, 0, 0, 218), mm_nop, mm_nop,
  (.goto 6, 3, [(0, 227)], [], 0, 0, 0, 221), mm_nop, mm_nop,
  (.ldc2_w 51, 3, [], [[3087]], 0, 0, (-1), 224), mm_nop, mm_nop,
  (.lreturn, 1, [], [], 0, 0, 0, 227),
  (.aload_n 0, 1, [], [], 0, 0, 0, 228),
  (.iload_n 1, 1, [], [], 1, 0, 0, 229),
  (.aload_n 0, 1, [], [], 0, 0, 0, 230),
  (.getfield 20, 3, [(4, 0)], [[2106]], 0, 0, 0, 231), mm_nop, mm_nop,
  (.aload_n 0, 1, [], [], 0, 0, 0, 234),
  (.getfield 24, 3, [(4, 1)], [[2107]], 0, 0, 0, 235), mm_nop, mm_nop,
  (.iload_n 2, 1, [], [], 2, 0, 0, 238),
  (.iconst 0, 1, [], [], 0, 0, 0, 239),
  (.invokevirtual 86, 3, [(6, 97)], [[3135, 3136, 3137, 2003]], 2, 0, 0, 240), mm_nop, mm_nop,
  (.invokevirtual 89, 3, [(7, 112)], [[4118, 3218, 3219, 2002]], 1, 0, 0, 243), mm_nop, mm_nop,
  (.invokevirtual 94, 3, [(4, 47)], [[4119, 4121, 1015, 2005]], 2, 0, 0, 246), mm_nop, mm_nop,
  (.lreturn, 1, [], [], 0, 0, 0, 249),
  (.lload 5, 2, [], [], 5, 0, 0, 250), mm_nop,
  (.lload_n 3, 1, [], [], 3, 0, 0, 252),
  (.invokestatic 98, 3, [(0, 131)], [[4127, 3178, 2013]], 1, 0, 0, 253), mm_nop, mm_nop,
  (.lcmp, 1, [], [], 0, 0, 0, 256),
  (.ifCond .ne 8, 3, [(0, 265)], [], 0, 0, 0, 257), mm_nop, mm_nop,
  (.lload 5, 2, [], [], 5, 0, 0, 260), mm_nop,
  (.goto 6, 3, [(0, 268)], [], 0, 0, 0, 262), mm_nop, mm_nop,
  (.ldc2_w 51, 3, [], [[3087]], 0, 0, (-1), 265), mm_nop, mm_nop,
  (.lreturn, 1, [], [], 0, 0, 0, 268),
  (.aload_n 0, 1, [], [], 0, 0, 0, 269),
  (.iload_n 1, 1, [], [], 1, 0, 0, 270),
  (.iload_n 2, 1, [], [], 2, 0, 0, 271),
  (.lload_n 3, 1, [], [], 3, 0, 0, 272),
  (.invokevirtual 101, 3, [(4, 48)], [[4128, 4130, 1016, 2005]], 3, 0, 0, 273), mm_nop, mm_nop,
  (.lreturn, 1, [], [], 0, 0, 0, 276),
  (.aload_n 0, 1, [], [], 0, 0, 0, 277),
  (.aload_n 0, 1, [], [], 0, 0, 0, 278),
  (.getfield 24, 3, [(4, 1)], [[2107]], 0, 0, 0, 279), mm_nop, mm_nop,
  (.iload_n 2, 1, [], [], 2, 0, 0, 282),
  (.invokevirtual 64, 3, [(6, 94)], [[3127, 3128, 3129, 2003]], 1, 0, 0, 283), mm_nop, mm_nop,
  (.lload_n 3, 1, [], [], 3, 0, 0, 286),
  (.invokevirtual 105, 3, [(4, 46)], [[4133, 4135, 1017, 2005]], 2, 0, 0, 287), mm_nop, mm_nop,
  (.lreturn, 1, [], [], 0, 0, 0, 290)]
def mm_m45 : mm_M := (yX4_findShape, cX4_findShape, 7, (some .long), mm_k45, 2, 0, 0, 4107)
/-- TypeCopier$Judge.shapeOverList.(IJ)J -/
def mm_k46 : List mm_E := [
  (.lload_n 2, 1, [], [], 2, 0, 0, 0),
  (.invokestatic 76, 3, [(0, 133)], [[4115, 3164, 2013]], 1, 0, 0, 1), mm_nop, mm_nop,
  (.iconst 5, 1, [], [], 0, 5, 0, 4),
  (.if_icmp .eq 7, 3, [(0, 12)], [], 0, 0, 0, 5), mm_nop, mm_nop,
  (.ldc2_w 51, 3, [], [[3087]], 0, 0, (-1), 8), mm_nop, mm_nop,
  (.lreturn, 1, [], [], 0, 0, 0, 11),
  (.iload_n 1, 1, [], [], 1, 0, 0, 12),
  (.tableswitch 36 11 13 #[27, 29, 34], 27, [(0, 49), (11, 40), (12, 42), (13, 47)], [], 0, 0, 0, 13), mm_nop, mm_nop, mm_nop, mm_nop, mm_nop, mm_nop, mm_nop, mm_nop, mm_nop, mm_nop, mm_nop, mm_nop, mm_nop, mm_nop, mm_nop, mm_nop, mm_nop, mm_nop, mm_nop, mm_nop, mm_nop, mm_nop, mm_nop, mm_nop, mm_nop, mm_nop,
  (.lconst 1, 1, [], [], 0, 0, 1, 40),
  (.lreturn, 1, [], [], 0, 0, 0, 41),
  (.lload_n 2, 1, [], [], 2, 0, 0, 42),
  (.invokestatic 79, 3, [(0, 134)], [[4116, 3173, 2013]], 1, 0, 0, 43), mm_nop, mm_nop,
  (.lreturn, 1, [], [], 0, 0, 0, 46),
  (.lload_n 2, 1, [], [], 2, 0, 0, 47),
  (.lreturn, 1, [], [], 0, 0, 0, 48),
  (.ldc2_w 51, 3, [], [[3087]], 0, 0, (-1), 49), mm_nop, mm_nop,
  (.lreturn, 1, [], [], 0, 0, 0, 52)]
def mm_m46 : mm_M := (yX4_shapeOverList, cX4_shapeOverList, 4, (some .long), mm_k46, 2, 0, 0, 4136)
/-- TypeCopier$Judge.nilShape.(IJ)J -/
def mm_k47 : List mm_E := [
  (.aload_n 0, 1, [], [], 0, 0, 0, 0),
  (.getfield 28, 3, [(4, 2)], [[2108]], 0, 0, 0, 1), mm_nop, mm_nop,
  (.iload_n 1, 1, [], [], 1, 0, 0, 4),
  (.invokevirtual 108, 3, [(2, 25)], [[3058, 3059, 3060, 2004]], 1, 0, 0, 5), mm_nop, mm_nop,
  (.lload_n 2, 1, [], [], 2, 0, 0, 8),
  (.invokestatic 111, 3, [(0, 29)], [[4123, 4124, 2004]], 2, 0, 0, 9), mm_nop, mm_nop,
  (.ifCond .eq 10, 3, [(0, 22)], [], 0, 0, 0, 12), mm_nop, mm_nop,
  (.lload_n 2, 1, [], [], 2, 0, 0, 15),
  (.invokestatic 98, 3, [(0, 131)], [[4127, 3178, 2013]], 1, 0, 0, 16), mm_nop, mm_nop,
  (.goto 6, 3, [(0, 25)], [], 0, 0, 0, 19), mm_nop, mm_nop,
  (.ldc2_w 51, 3, [], [[3087]], 0, 0, (-1), 22), mm_nop, mm_nop,
  (.lreturn, 1, [], [], 0, 0, 0, 25)]
def mm_m47 : mm_M := (yX4_nilShape, cX4_nilShape, 4, (some .long), mm_k47, 2, 0, 0, 4122)
/-- TypeCopier$Judge.callShape.(IIJ)J -/
def mm_k48 : List mm_E := [
  (.aload_n 0, 1, [], [], 0, 0, 0, 0),
  (.getfield 24, 3, [(4, 1)], [[2107]], 0, 0, 0, 1), mm_nop, mm_nop,
  (.iload_n 2, 1, [], [], 2, 0, 0, 4),
  (.iconst 0, 1, [], [], 0, 0, 0, 5),
  (.invokevirtual 86, 3, [(6, 97)], [[3135, 3136, 3137, 2003]], 2, 0, 0, 6), mm_nop, mm_nop,
  (.istore 5, 2, [], [], 5, 0, 0, 9), mm_nop,
  (.aload_n 0, 1, [], [], 0, 0, 0, 11),
  (.getfield 20, 3, [(4, 0)], [[2106]], 0, 0, 0, 12), mm_nop, mm_nop,
  (.aload_n 0, 1, [], [], 0, 0, 0, 15),
  (.getfield 24, 3, [(4, 1)], [[2107]], 0, 0, 0, 16), mm_nop, mm_nop,
  (.iload_n 2, 1, [], [], 2, 0, 0, 19),
  (.iconst 2, 1, [], [], 0, 2, 0, 20),
  (.invokevirtual 86, 3, [(6, 97)], [[3135, 3136, 3137, 2003]], 2, 0, 0, 21), mm_nop, mm_nop,
  (.invokevirtual 89, 3, [(7, 112)], [[4118, 3218, 3219, 2002]], 1, 0, 0, 24), mm_nop, mm_nop,
  (.lstore 6, 2, [], [], 6, 0, 0, 27), mm_nop,
  (.aload_n 0, 1, [], [], 0, 0, 0, 29),
  (.getfield 20, 3, [(4, 0)], [[2106]], 0, 0, 0, 30), mm_nop, mm_nop,
  (.aload_n 0, 1, [], [], 0, 0, 0, 33),
  (.getfield 24, 3, [(4, 1)], [[2107]], 0, 0, 0, 34), mm_nop, mm_nop,
  (.iload_n 2, 1, [], [], 2, 0, 0, 37),
  (.iconst 3, 1, [], [], 0, 3, 0, 38),
  (.invokevirtual 86, 3, [(6, 97)], [[3135, 3136, 3137, 2003]], 2, 0, 0, 39), mm_nop, mm_nop,
  (.invokevirtual 89, 3, [(7, 112)], [[4118, 3218, 3219, 2002]], 1, 0, 0, 42), mm_nop, mm_nop,
  (.lstore 8, 2, [], [], 8, 0, 0, 45), mm_nop,
  (.lload 6, 2, [], [], 6, 0, 0, 47), mm_nop,
  (.ldc2_w 51, 3, [], [[3087]], 0, 0, (-1), 49), mm_nop, mm_nop,
  (.lcmp, 1, [], [], 0, 0, 0, 52),
  (.ifCond .ne 7, 3, [(0, 60)], [], 0, 0, 0, 53), mm_nop, mm_nop,
  (.iconst 0, 1, [], [], 0, 0, 0, 56),
  (.goto 17, 3, [(0, 74)], [], 0, 0, 0, 57), mm_nop, mm_nop,
  (.lload 8, 2, [], [], 8, 0, 0, 60), mm_nop,
  (.ldc2_w 51, 3, [], [[3087]], 0, 0, (-1), 62), mm_nop, mm_nop,
  (.lcmp, 1, [], [], 0, 0, 0, 65),
  (.ifCond .ne 7, 3, [(0, 73)], [], 0, 0, 0, 66), mm_nop, mm_nop,
  (.iconst 1, 1, [], [], 0, 1, 0, 69),
  (.goto 4, 3, [(0, 74)], [], 0, 0, 0, 70), mm_nop, mm_nop,
  (.iconst 2, 1, [], [], 0, 2, 0, 73),
  (.istore 10, 2, [], [], 10, 0, 0, 74), mm_nop,
  (.aload_n 0, 1, [], [], 0, 0, 0, 76),
  (.getfield 28, 3, [(4, 2)], [[2108]], 0, 0, 0, 77), mm_nop, mm_nop,
  (.iload 5, 2, [], [], 5, 0, 0, 80), mm_nop,
  (.invokevirtual 44, 3, [(2, 24)], [[3054, 3055, 3056, 2004]], 1, 0, 0, 82), mm_nop, mm_nop,
  (.ifCond .eq 25, 3, [(0, 110)], [], 0, 0, 0, 85), mm_nop, mm_nop,
  (.aload_n 0, 1, [], [], 0, 0, 0, 88),
  (.getfield 28, 3, [(4, 2)], [[2108]], 0, 0, 0, 89), mm_nop, mm_nop,
  (.iload 5, 2, [], [], 5, 0, 0, 92), mm_nop,
  (.invokevirtual 108, 3, [(2, 25)], [[3058, 3059, 3060, 2004]], 1, 0, 0, 94), mm_nop, mm_nop,
  (.iload 10, 2, [], [], 10, 0, 0, 97), mm_nop,
  (.if_icmp .ne 11, 3, [(0, 110)], [], 0, 0, 0, 99), mm_nop, mm_nop,
  (.lload_n 3, 1, [], [], 3, 0, 0, 102),
  (.ldc2_w 51, 3, [], [[3087]], 0, 0, (-1), 103), mm_nop, mm_nop,
  (.lcmp, 1, [], [], 0, 0, 0, 106),
  (.ifCond .ne 7, 3, [(0, 114)], [], 0, 0, 0, 107), mm_nop, mm_nop,
  (.ldc2_w 51, 3, [], [[3087]], 0, 0, (-1), 110), mm_nop, mm_nop,
  (.lreturn, 1, [], [], 0, 0, 0, 113),
  (.aload_n 0, 1, [], [], 0, 0, 0, 114),
  (.getfield 28, 3, [(4, 2)], [[2108]], 0, 0, 0, 115), mm_nop, mm_nop,
  (.iload_n 1, 1, [], [], 1, 0, 0, 118),
  (.invokevirtual 108, 3, [(2, 25)], [[3058, 3059, 3060, 2004]], 1, 0, 0, 119), mm_nop, mm_nop,
  (.istore 11, 2, [], [], 11, 0, 0, 122), mm_nop,
  (.iload 11, 2, [], [], 11, 0, 0, 124), mm_nop,
  (.lload 6, 2, [], [], 6, 0, 0, 126), mm_nop,
  (.invokestatic 111, 3, [(0, 29)], [[4123, 4124, 2004]], 2, 0, 0, 128), mm_nop, mm_nop,
  (.ifCond .eq 13, 3, [(0, 144)], [], 0, 0, 0, 131), mm_nop, mm_nop,
  (.iload 11, 2, [], [], 11, 0, 0, 134), mm_nop,
  (.lload 8, 2, [], [], 8, 0, 0, 136), mm_nop,
  (.invokestatic 111, 3, [(0, 29)], [[4123, 4124, 2004]], 2, 0, 0, 138), mm_nop, mm_nop,
  (.ifCond .ne 7, 3, [(0, 148)], [], 0, 0, 0, 141), mm_nop, mm_nop,
  (.ldc2_w 51, 3, [], [[3087]], 0, 0, (-1), 144), mm_nop, mm_nop,
  (.lreturn, 1, [], [], 0, 0, 0, 147),
  (.lload_n 3, 1, [], [], 3, 0, 0, 148),
  (.aload_n 0, 1, [], [], 0, 0, 0, 149),
  (.getfield 28, 3, [(4, 2)], [[2108]], 0, 0, 0, 150), mm_nop, mm_nop,
  (.iload 5, 2, [], [], 5, 0, 0, 153), mm_nop,
  (.invokevirtual 68, 3, [(2, 26)], [[4113, 3157, 3158, 2004]], 1, 0, 0, 155), mm_nop, mm_nop,
  (.lload 6, 2, [], [], 6, 0, 0, 158), mm_nop,
  (.lload 8, 2, [], [], 8, 0, 0, 160), mm_nop,
  (.invokestatic 115, 3, [(1, 136)], [[4132, 3161, 2013]], 3, 0, 0, 162), mm_nop, mm_nop,
  (.lcmp, 1, [], [], 0, 0, 0, 165),
  (.ifCond .eq 7, 3, [(0, 173)], [], 0, 0, 0, 166), mm_nop, mm_nop,
  (.ldc2_w 51, 3, [], [[3087]], 0, 0, (-1), 169), mm_nop, mm_nop,
  (.lreturn, 1, [], [], 0, 0, 0, 172),
  (.aload_n 0, 1, [], [], 0, 0, 0, 173),
  (.getfield 28, 3, [(4, 2)], [[2108]], 0, 0, 0, 174), mm_nop, mm_nop,
  (.iload 5, 2, [], [], 5, 0, 0, 177), mm_nop,
  (.invokevirtual 119, 3, [(2, 27)], [[3088, 3089, 3090, 2004]], 1, 0, 0, 179), mm_nop, mm_nop,
  (.lload 6, 2, [], [], 6, 0, 0, 182), mm_nop,
  (.lload 8, 2, [], [], 8, 0, 0, 184), mm_nop,
  (.invokestatic 115, 3, [(1, 136)], [[4132, 3161, 2013]], 3, 0, 0, 186), mm_nop, mm_nop,
  (.lreturn, 1, [], [], 0, 0, 0, 189)]
def mm_m48 : mm_M := (yX4_callShape, cX4_callShape, 12, (some .long), mm_k48, 3, 0, 0, 4131)
/-- TypeCopier$Judge.leastWrong.(I)I -/
def mm_k49 : List mm_E := [
  (.aload_n 0, 1, [], [], 0, 0, 0, 0),
  (.getfield 24, 3, [(4, 1)], [[2107]], 0, 0, 0, 1), mm_nop, mm_nop,
  (.aload_n 0, 1, [], [], 0, 0, 0, 4),
  (.getfield 28, 3, [(4, 2)], [[2108]], 0, 0, 0, 5), mm_nop, mm_nop,
  (.iload_n 1, 1, [], [], 1, 0, 0, 8),
  (.invokevirtual 122, 3, [(2, 28)], [[3071, 3072, 3073, 2004]], 1, 0, 0, 9), mm_nop, mm_nop,
  (.invokevirtual 125, 3, [(6, 103)], [[3097, 3098, 3099, 2003]], 1, 0, 0, 12), mm_nop, mm_nop,
  (.iconst (-1), 1, [], [], 0, (-1), 0, 15),
  (.istore_n 2, 1, [], [], 2, 0, 0, 16),
  (.iconst 0, 1, [], [], 0, 0, 0, 17),
  (.istore_n 3, 1, [], [], 3, 0, 0, 18),
  (.iload_n 3, 1, [], [], 3, 0, 0, 19),
  (.aload_n 0, 1, [], [], 0, 0, 0, 20),
  (.getfield 24, 3, [(4, 1)], [[2107]], 0, 0, 0, 21), mm_nop, mm_nop,
  (.invokevirtual 129, 3, [(6, 106)], [[3119, 3120, 3121, 2003]], 0, 0, 0, 24), mm_nop, mm_nop,
  (.if_icmp .ge 47, 3, [(0, 74)], [], 0, 0, 0, 27), mm_nop, mm_nop,
  (.aload_n 0, 1, [], [], 0, 0, 0, 30),
  (.getfield 24, 3, [(4, 1)], [[2107]], 0, 0, 0, 31), mm_nop, mm_nop,
  (.iload_n 3, 1, [], [], 3, 0, 0, 34),
  (.invokevirtual 132, 3, [(6, 107)], [[3123, 3124, 3125, 2003]], 1, 0, 0, 35), mm_nop, mm_nop,
  (.istore 4, 2, [], [], 4, 0, 0, 38), mm_nop,
  (.aload_n 0, 1, [], [], 0, 0, 0, 40),
  (.iload_n 1, 1, [], [], 1, 0, 0, 41),
  (.iload 4, 2, [], [], 4, 0, 0, 42), mm_nop,
  (.invokevirtual 57, 3, [(4, 43)], [[3079, 3080, 3081, 2005]], 2, 0, 0, 44), mm_nop, mm_nop,
  (.ldc2_w 51, 3, [], [[3087]], 0, 0, (-1), 47), mm_nop, mm_nop,
  (.lcmp, 1, [], [], 0, 0, 0, 50),
  (.ifCond .ne 17, 3, [(0, 68)], [], 0, 0, 0, 51), mm_nop, mm_nop,
  (.iload_n 2, 1, [], [], 2, 0, 0, 54),
  (.iconst (-1), 1, [], [], 0, (-1), 0, 55),
  (.if_icmp .eq 9, 3, [(0, 65)], [], 0, 0, 0, 56), mm_nop, mm_nop,
  (.iload 4, 2, [], [], 4, 0, 0, 59), mm_nop,
  (.iload_n 2, 1, [], [], 2, 0, 0, 61),
  (.if_icmp .ge 6, 3, [(0, 68)], [], 0, 0, 0, 62), mm_nop, mm_nop,
  (.iload 4, 2, [], [], 4, 0, 0, 65), mm_nop,
  (.istore_n 2, 1, [], [], 2, 0, 0, 67),
  (.iinc 3 1, 3, [], [], 3, 1, 0, 68), mm_nop, mm_nop,
  (.goto (-52), 3, [(0, 19)], [], 0, 0, 0, 71), mm_nop, mm_nop,
  (.iload_n 2, 1, [], [], 2, 0, 0, 74),
  (.ireturn, 1, [], [], 0, 0, 0, 75)]
def mm_m49 : mm_M := (yX4_leastWrong, cX4_leastWrong, 5, (some .int), mm_k49, 1, 0, 0, 4185)
/-- TypeCopier$Judge.judgeProgram.()I -/
def mm_k50 : List mm_E := [
  (.aload_n 0, 1, [], [], 0, 0, 0, 0),
  (.getfield 28, 3, [(4, 2)], [[2108]], 0, 0, 0, 1), mm_nop, mm_nop,
  (.iconst 0, 1, [], [], 0, 0, 0, 4),
  (.invokevirtual 44, 3, [(2, 24)], [[3054, 3055, 3056, 2004]], 1, 0, 0, 5), mm_nop, mm_nop,
  (.ifCond .eq 14, 3, [(0, 22)], [], 0, 0, 0, 8), mm_nop, mm_nop,
  (.aload_n 0, 1, [], [], 0, 0, 0, 11),
  (.getfield 28, 3, [(4, 2)], [[2108]], 0, 0, 0, 12), mm_nop, mm_nop,
  (.iconst 0, 1, [], [], 0, 0, 0, 15),
  (.invokevirtual 108, 3, [(2, 25)], [[3058, 3059, 3060, 2004]], 1, 0, 0, 16), mm_nop, mm_nop,
  (.ifCond .eq 5, 3, [(0, 24)], [], 0, 0, 0, 19), mm_nop, mm_nop,
  (.iconst 1, 1, [], [], 0, 1, 0, 22),
  (.ireturn, 1, [], [], 0, 0, 0, 23),
  (.aload_n 0, 1, [], [], 0, 0, 0, 24),
  (.getfield 28, 3, [(4, 2)], [[2108]], 0, 0, 0, 25), mm_nop, mm_nop,
  (.iconst 0, 1, [], [], 0, 0, 0, 28),
  (.invokevirtual 135, 3, [(2, 32)], [[3063, 3064, 3065, 2004]], 1, 0, 0, 29), mm_nop, mm_nop,
  (.iconst 1, 1, [], [], 0, 1, 0, 32),
  (.ior, 1, [], [], 0, 0, 0, 33),
  (.istore_n 1, 1, [], [], 1, 0, 0, 34),
  (.aload_n 0, 1, [], [], 0, 0, 0, 35),
  (.iload_n 1, 1, [], [], 1, 0, 0, 36),
  (.invokevirtual 138, 3, [(4, 51)], [[3067, 3069, 1001, 2005]], 1, 0, 0, 37), mm_nop, mm_nop,
  (.ifCond .ne 5, 3, [(0, 45)], [], 0, 0, 0, 40), mm_nop, mm_nop,
  (.iconst 2, 1, [], [], 0, 2, 0, 43),
  (.ireturn, 1, [], [], 0, 0, 0, 44),
  (.aload_n 0, 1, [], [], 0, 0, 0, 45),
  (.iload_n 1, 1, [], [], 1, 0, 0, 46),
  (.invokevirtual 141, 3, [(4, 52)], [[3075, 3077, 1002, 2005]], 1, 0, 0, 47), mm_nop, mm_nop,
  (.ifCond .ne 5, 3, [(0, 55)], [], 0, 0, 0, 50), mm_nop, mm_nop,
  (.iconst 3, 1, [], [], 0, 3, 0, 53),
  (.ireturn, 1, [], [], 0, 0, 0, 54),
  (.aload_n 0, 1, [], [], 0, 0, 0, 55),
  (.iload_n 1, 1, [], [], 1, 0, 0, 56),
  (.invokevirtual 144, 3, [(4, 53)], [[3093, 3095, 1003, 2005]], 1, 0, 0, 57), mm_nop, mm_nop,
  (.ifCond .eq 7, 3, [(0, 67)], [], 0, 0, 0, 60), mm_nop, mm_nop,
  (.iconst 0, 1, [], [], 0, 0, 0, 63),
  (.goto 4, 3, [(0, 68)], [], 0, 0, 0, 64), mm_nop, mm_nop,
  (.iconst 4, 1, [], [], 0, 4, 0, 67),
  (.ireturn, 1, [], [], 0, 0, 0, 68)]
def mm_m50 : mm_M := (yX4_judgeProgram, cX4_judgeProgram, 2, (some .int), mm_k50, 0, 0, 0, 3053)
/-- TypeCopier$Judge.allHaveBodies.(I)Z -/
def mm_k51 : List mm_E := [
  (.iconst 0, 1, [], [], 0, 0, 0, 0),
  (.istore_n 2, 1, [], [], 2, 0, 0, 1),
  (.iload_n 2, 1, [], [], 2, 0, 0, 2),
  (.bipush 12, 2, [], [], 0, 12, 0, 3), mm_nop,
  (.if_icmp .ge 31, 3, [(0, 36)], [], 0, 0, 0, 5), mm_nop, mm_nop,
  (.iload_n 1, 1, [], [], 1, 0, 0, 8),
  (.iload_n 2, 1, [], [], 2, 0, 0, 9),
  (.ishr, 1, [], [], 0, 0, 0, 10),
  (.iconst 1, 1, [], [], 0, 1, 0, 11),
  (.iand, 1, [], [], 0, 0, 0, 12),
  (.ifCond .eq 17, 3, [(0, 30)], [], 0, 0, 0, 13), mm_nop, mm_nop,
  (.aload_n 0, 1, [], [], 0, 0, 0, 16),
  (.getfield 28, 3, [(4, 2)], [[2108]], 0, 0, 0, 17), mm_nop, mm_nop,
  (.iload_n 2, 1, [], [], 2, 0, 0, 20),
  (.invokevirtual 122, 3, [(2, 28)], [[3071, 3072, 3073, 2004]], 1, 0, 0, 21), mm_nop, mm_nop,
  (.iconst (-1), 1, [], [], 0, (-1), 0, 24),
  (.if_icmp .ne 5, 3, [(0, 30)], [], 0, 0, 0, 25), mm_nop, mm_nop,
  (.iconst 0, 1, [], [], 0, 0, 0, 28),
  (.ireturn, 1, [], [], 0, 0, 0, 29),
  (.iinc 2 1, 3, [], [], 2, 1, 0, 30), mm_nop, mm_nop,
  (.goto (-31), 3, [(0, 2)], [], 0, 0, 0, 33), mm_nop, mm_nop,
  (.iconst 1, 1, [], [], 0, 1, 0, 36),
  (.ireturn, 1, [], [], 0, 0, 0, 37)]
def mm_m51 : mm_M := (yX4_allHaveBodies, cX4_allHaveBodies, 3, (some .boolean), mm_k51, 1, 0, 0, 3070)
/-- TypeCopier$Judge.allAreRight.(I)Z -/
def mm_k52 : List mm_E := [
  (.iconst 0, 1, [], [], 0, 0, 0, 0),
  (.istore_n 2, 1, [], [], 2, 0, 0, 1),
  (.iload_n 2, 1, [], [], 2, 0, 0, 2),
  (.bipush 12, 2, [], [], 0, 12, 0, 3), mm_nop,
  (.if_icmp .ge 44, 3, [(0, 49)], [], 0, 0, 0, 5), mm_nop, mm_nop,
  (.iload_n 1, 1, [], [], 1, 0, 0, 8),
  (.iload_n 2, 1, [], [], 2, 0, 0, 9),
  (.ishr, 1, [], [], 0, 0, 0, 10),
  (.iconst 1, 1, [], [], 0, 1, 0, 11),
  (.iand, 1, [], [], 0, 0, 0, 12),
  (.ifCond .eq 30, 3, [(0, 43)], [], 0, 0, 0, 13), mm_nop, mm_nop,
  (.aload_n 0, 1, [], [], 0, 0, 0, 16),
  (.iload_n 2, 1, [], [], 2, 0, 0, 17),
  (.aload_n 0, 1, [], [], 0, 0, 0, 18),
  (.getfield 28, 3, [(4, 2)], [[2108]], 0, 0, 0, 19), mm_nop, mm_nop,
  (.iload_n 2, 1, [], [], 2, 0, 0, 22),
  (.invokevirtual 122, 3, [(2, 28)], [[3071, 3072, 3073, 2004]], 1, 0, 0, 23), mm_nop, mm_nop,
  (.invokevirtual 57, 3, [(4, 43)], [[3079, 3080, 3081, 2005]], 2, 0, 0, 26), mm_nop, mm_nop,
  (.aload_n 0, 1, [], [], 0, 0, 0, 29),
  (.getfield 28, 3, [(4, 2)], [[2108]], 0, 0, 0, 30), mm_nop, mm_nop,
  (.iload_n 2, 1, [], [], 2, 0, 0, 33),
  (.invokevirtual 119, 3, [(2, 27)], [[3088, 3089, 3090, 2004]], 1, 0, 0, 34), mm_nop, mm_nop,
  (.lcmp, 1, [], [], 0, 0, 0, 37),
  (.ifCond .eq 5, 3, [(0, 43)], [], 0, 0, 0, 38), mm_nop, mm_nop,
  (.iconst 0, 1, [], [], 0, 0, 0, 41),
  (.ireturn, 1, [], [], 0, 0, 0, 42),
  (.iinc 2 1, 3, [], [], 2, 1, 0, 43), mm_nop, mm_nop,
  (.goto (-44), 3, [(0, 2)], [], 0, 0, 0, 46), mm_nop, mm_nop,
  (.iconst 1, 1, [], [], 0, 1, 0, 49),
  (.ireturn, 1, [], [], 0, 0, 0, 50)]
def mm_m52 : mm_M := (yX4_allAreRight, cX4_allAreRight, 3, (some .boolean), mm_k52, 1, 0, 0, 3078)
/-- TypeCopier$Judge.allAreRegular.(I)Z -/
def mm_k53 : List mm_E := [
  (.iconst 0, 1, [], [], 0, 0, 0, 0),
  (.istore_n 2, 1, [], [], 2, 0, 0, 1),
  (.iload_n 2, 1, [], [], 2, 0, 0, 2),
  (.bipush 12, 2, [], [], 0, 12, 0, 3), mm_nop,
  (.if_icmp .ge 90, 3, [(0, 95)], [], 0, 0, 0, 5), mm_nop, mm_nop,
  (.iload_n 1, 1, [], [], 1, 0, 0, 8),
  (.iload_n 2, 1, [], [], 2, 0, 0, 9),
  (.ishr, 1, [], [], 0, 0, 0, 10),
  (.iconst 1, 1, [], [], 0, 1, 0, 11),
  (.iand, 1, [], [], 0, 0, 0, 12),
  (.ifCond .ne 6, 3, [(0, 19)], [], 0, 0, 0, 13), mm_nop, mm_nop,
  (.goto 73, 3, [(0, 89)], [], 0, 0, 0, 16), mm_nop, mm_nop,
  (.aload_n 0, 1, [], [], 0, 0, 0, 19),
  (.getfield 24, 3, [(4, 1)], [[2107]], 0, 0, 0, 20), mm_nop, mm_nop,
  (.aload_n 0, 1, [], [], 0, 0, 0, 23),
  (.getfield 28, 3, [(4, 2)], [[2108]], 0, 0, 0, 24), mm_nop, mm_nop,
  (.iload_n 2, 1, [], [], 2, 0, 0, 27),
  (.invokevirtual 122, 3, [(2, 28)], [[3071, 3072, 3073, 2004]], 1, 0, 0, 28), mm_nop, mm_nop,
  (.invokevirtual 125, 3, [(6, 103)], [[3097, 3098, 3099, 2003]], 1, 0, 0, 31), mm_nop, mm_nop,
  (.iconst 0, 1, [], [], 0, 0, 0, 34),
  (.istore_n 3, 1, [], [], 3, 0, 0, 35),
  (.iload_n 3, 1, [], [], 3, 0, 0, 36),
  (.aload_n 0, 1, [], [], 0, 0, 0, 37),
  (.getfield 24, 3, [(4, 1)], [[2107]], 0, 0, 0, 38), mm_nop, mm_nop,
  (.invokevirtual 129, 3, [(6, 106)], [[3119, 3120, 3121, 2003]], 0, 0, 0, 41), mm_nop, mm_nop,
  (.if_icmp .ge 45, 3, [(0, 89)], [], 0, 0, 0, 44), mm_nop, mm_nop,
  (.aload_n 0, 1, [], [], 0, 0, 0, 47),
  (.getfield 24, 3, [(4, 1)], [[2107]], 0, 0, 0, 48), mm_nop, mm_nop,
  (.iload_n 3, 1, [], [], 3, 0, 0, 51),
  (.invokevirtual 132, 3, [(6, 107)], [[3123, 3124, 3125, 2003]], 1, 0, 0, 52), mm_nop, mm_nop,
  (.istore 4, 2, [], [], 4, 0, 0, 55), mm_nop,
  (.aload_n 0, 1, [], [], 0, 0, 0, 57),
  (.getfield 24, 3, [(4, 1)], [[2107]], 0, 0, 0, 58), mm_nop, mm_nop,
  (.iload 4, 2, [], [], 4, 0, 0, 61), mm_nop,
  (.invokevirtual 64, 3, [(6, 94)], [[3127, 3128, 3129, 2003]], 1, 0, 0, 63), mm_nop, mm_nop,
  (.bipush 14, 2, [], [], 0, 14, 0, 66), mm_nop,
  (.if_icmp .ne 15, 3, [(0, 83)], [], 0, 0, 0, 68), mm_nop, mm_nop,
  (.aload_n 0, 1, [], [], 0, 0, 0, 71),
  (.iload_n 2, 1, [], [], 2, 0, 0, 72),
  (.iload 4, 2, [], [], 4, 0, 0, 73), mm_nop,
  (.invokevirtual 147, 3, [(4, 54)], [[3131, 3133, 1005, 2005]], 2, 0, 0, 75), mm_nop, mm_nop,
  (.ifCond .ne 5, 3, [(0, 83)], [], 0, 0, 0, 78), mm_nop, mm_nop,
  (.iconst 0, 1, [], [], 0, 0, 0, 81),
  (.ireturn, 1, [], [], 0, 0, 0, 82),
  (.iinc 3 1, 3, [], [], 3, 1, 0, 83), mm_nop, mm_nop,
  (.goto (-50), 3, [(0, 36)], [], 0, 0, 0, 86), mm_nop, mm_nop,
  (.iinc 2 1, 3, [], [], 2, 1, 0, 89), mm_nop, mm_nop,
  (.goto (-90), 3, [(0, 2)], [], 0, 0, 0, 92), mm_nop, mm_nop,
  (.iconst 1, 1, [], [], 0, 1, 0, 95),
  (.ireturn, 1, [], [], 0, 0, 0, 96)]
def mm_m53 : mm_M := (yX4_allAreRegular, cX4_allAreRegular, 5, (some .boolean), mm_k53, 1, 0, 0, 3096)
/-- TypeCopier$Judge.isRegular.(II)Z -/
def mm_k54 : List mm_E := [
  (.aload_n 0, 1, [], [], 0, 0, 0, 0),
  (.getfield 24, 3, [(4, 1)], [[2107]], 0, 0, 0, 1), mm_nop, mm_nop,
  (.iload_n 2, 1, [], [], 2, 0, 0, 4),
  (.iconst 0, 1, [], [], 0, 0, 0, 5),
  (.invokevirtual 86, 3, [(6, 97)], [[3135, 3136, 3137, 2003]], 2, 0, 0, 6), mm_nop, mm_nop,
  (.istore_n 3, 1, [], [], 3, 0, 0, 9),
  (.iload_n 3, 1, [], [], 3, 0, 0, 10),
  (.iload_n 1, 1, [], [], 1, 0, 0, 11),
  (.if_icmp .eq 20, 3, [(0, 32)], [], 0, 0, 0, 12), mm_nop, mm_nop,
  (.aload_n 0, 1, [], [], 0, 0, 0, 15),
  (.getfield 28, 3, [(4, 2)], [[2108]], 0, 0, 0, 16), mm_nop, mm_nop,
  (.iload_n 3, 1, [], [], 3, 0, 0, 19),
  (.invokevirtual 135, 3, [(2, 32)], [[3063, 3064, 3065, 2004]], 1, 0, 0, 20), mm_nop, mm_nop,
  (.iload_n 1, 1, [], [], 1, 0, 0, 23),
  (.ishr, 1, [], [], 0, 0, 0, 24),
  (.iconst 1, 1, [], [], 0, 1, 0, 25),
  (.iand, 1, [], [], 0, 0, 0, 26),
  (.ifCond .ne 5, 3, [(0, 32)], [], 0, 0, 0, 27), mm_nop, mm_nop,
  (.iconst 1, 1, [], [], 0, 1, 0, 30),
  (.ireturn, 1, [], [], 0, 0, 0, 31),
  (.aload_n 0, 1, [], [], 0, 0, 0, 32),
  (.getfield 28, 3, [(4, 2)], [[2108]], 0, 0, 0, 33), mm_nop, mm_nop,
  (.iload_n 3, 1, [], [], 3, 0, 0, 36),
  (.invokevirtual 108, 3, [(2, 25)], [[3058, 3059, 3060, 2004]], 1, 0, 0, 37), mm_nop, mm_nop,
  (.istore 4, 2, [], [], 4, 0, 0, 40), mm_nop,
  (.iload 4, 2, [], [], 4, 0, 0, 42), mm_nop,
  (.iconst 1, 1, [], [], 0, 1, 0, 44),
  (.if_icmp .lt 16, 3, [(0, 61)], [], 0, 0, 0, 45), mm_nop, mm_nop,
  (.aload_n 0, 1, [], [], 0, 0, 0, 48),
  (.getfield 24, 3, [(4, 1)], [[2107]], 0, 0, 0, 49), mm_nop, mm_nop,
  (.iload_n 2, 1, [], [], 2, 0, 0, 52),
  (.iconst 2, 1, [], [], 0, 2, 0, 53),
  (.invokevirtual 86, 3, [(6, 97)], [[3135, 3136, 3137, 2003]], 2, 0, 0, 54), mm_nop, mm_nop,
  (.iconst 2, 1, [], [], 0, 2, 0, 57),
  (.if_icmp .ne 7, 3, [(0, 65)], [], 0, 0, 0, 58), mm_nop, mm_nop,
  (.iconst 1, 1, [], [], 0, 1, 0, 61),
  (.goto 4, 3, [(0, 66)], [], 0, 0, 0, 62), mm_nop, mm_nop,
  (.iconst 0, 1, [], [], 0, 0, 0, 65),
  (.istore 5, 2, [], [], 5, 0, 0, 66), mm_nop,
  (.iload 4, 2, [], [], 4, 0, 0, 68), mm_nop,
  (.iconst 2, 1, [], [], 0, 2, 0, 70),
  (.if_icmp .lt 16, 3, [(0, 87)], [], 0, 0, 0, 71), mm_nop, mm_nop,
  (.aload_n 0, 1, [], [], 0, 0, 0, 74),
  (.getfield 24, 3, [(4, 1)], [[2107]], 0, 0, 0, 75), mm_nop, mm_nop,
  (.iload_n 2, 1, [], [], 2, 0, 0, 78),
  (.iconst 3, 1, [], [], 0, 3, 0, 79),
  (.invokevirtual 86, 3, [(6, 97)], [[3135, 3136, 3137, 2003]], 2, 0, 0, 80), mm_nop, mm_nop,
  (.iconst 3, 1, [], [], 0, 3, 0, 83),
  (.if_icmp .ne 7, 3, [(0, 91)], [], 0, 0, 0, 84), mm_nop, mm_nop,
  (.iconst 1, 1, [], [], 0, 1, 0, 87),
  (.goto 4, 3, [(0, 92)], [], 0, 0, 0, 88), mm_nop, mm_nop,
  (.iconst 0, 1, [], [], 0, 0, 0, 91),
  (.istore 6, 2, [], [], 6, 0, 0, 92), mm_nop,
  (.iload 4, 2, [], [], 4, 0, 0, 94), mm_nop,
  (.aload_n 0, 1, [], [], 0, 0, 0, 96),
  (.getfield 28, 3, [(4, 2)], [[2108]], 0, 0, 0, 97), mm_nop, mm_nop,
  (.iload_n 1, 1, [], [], 1, 0, 0, 100),
  (.invokevirtual 108, 3, [(2, 25)], [[3058, 3059, 3060, 2004]], 1, 0, 0, 101), mm_nop, mm_nop,
  (.if_icmp .gt 17, 3, [(0, 121)], [], 0, 0, 0, 104), mm_nop, mm_nop,
  (.iload 5, 2, [], [], 5, 0, 0, 107), mm_nop,
  (.ifCond .eq 12, 3, [(0, 121)], [], 0, 0, 0, 109), mm_nop, mm_nop,
  (.iload 6, 2, [], [], 6, 0, 0, 112), mm_nop,
  (.ifCond .eq 7, 3, [(0, 121)], [], 0, 0, 0, 114), mm_nop, mm_nop,
  (.iconst 1, 1, [], [], 0, 1, 0, 117),
  (.goto 4, 3, [(0, 122)], [], 0, 0, 0, 118), mm_nop, mm_nop,
  (.iconst 0, 1, [], [], 0, 0, 0, 121),
  (.ireturn, 1, [], [], 0, 0, 0, 122)]
def mm_m54 : mm_M := (yX4_isRegular, cX4_isRegular, 7, (some .boolean), mm_k54, 2, 0, 0, 3134)
/-- TypeCopier$LetterMachine.<init>.(LTypeCopier$Nodes;LTypeCopier$Input;LTypeCopier$Report;LTypeCopier$Functions;)V -/
def mm_k55 : List mm_E := [
  (.aload_n 0, 1, [], [], 0, 0, 0, 0),
  (.aload_n 1, 1, [], [], 1, 0, 0, 1),
  (.aload_n 2, 1, [], [], 2, 0, 0, 2),
  (.aload_n 3, 1, [], [], 3, 0, 0, 3),
  (.invokespecial 1, 3, [(0, 65)], [[2213, 2214, 2009]], 3, 0, 0, 4), mm_nop, mm_nop,
  (.aload_n 0, 1, [], [], 0, 0, 0, 7),
  (.aload 4, 2, [], [], 4, 0, 0, 8), mm_nop,
  (.putfield 7, 3, [(5, 12)], [[2217]], 1, 0, 0, 10), mm_nop, mm_nop,
  (.return_, 1, [], [], 0, 0, 0, 13)]
def mm_m55 : mm_M := (yX5_init, cX5_init, 5, none, mm_k55, 4, 5, 9452, 2212)
/-- TypeCopier$LetterMachine.bodyOf.(I)I -/
def mm_k56 : List mm_E := [
  (.aload_n 0, 1, [], [], 0, 0, 0, 0),
  (.getfield 7, 3, [(5, 12)], [[2217]], 0, 0, 0, 1), mm_nop, mm_nop,
  (.iload_n 1, 1, [], [], 1, 0, 0, 4),
  (.invokevirtual 13, 3, [(2, 28)], [[5114, 3072, 3073, 2004]], 1, 0, 0, 5), mm_nop, mm_nop,
  (.ireturn, 1, [], [], 0, 0, 0, 8)]
def mm_m56 : mm_M := (yX5_bodyOf, cX5_bodyOf, 2, (some .int), mm_k56, 1, 0, 0, 5113)
/-- TypeCopier$LetterMachine.calledAt.(II)I -/
def mm_k57 : List mm_E := [
  (.aload_n 0, 1, [], [], 0, 0, 0, 0),
  (.getfield 19, 3, [(5, 0)], [[2219, 2220]], 0, 0, 0, 1), mm_nop, mm_nop,
  (.iload_n 2, 1, [], [], 2, 0, 0, 4),
  (.iconst 0, 1, [], [], 0, 0, 0, 5),
  (.invokevirtual 23, 3, [(6, 97)], [[5160, 3136, 3137, 2003]], 2, 0, 0, 6), mm_nop, mm_nop,
  (.ireturn, 1, [], [], 0, 0, 0, 9)]
def mm_m57 : mm_M := (yX5_calledAt, cX5_calledAt, 3, (some .int), mm_k57, 2, 0, 0, 5159)
/-- TypeCopier$LetterMachine.argumentWidth.(I)I -/
def mm_k58 : List mm_E := [
  (.iconst 1, 1, [], [], 0, 1, 0, 0),
  (.ireturn, 1, [], [], 0, 0, 0, 1)]
def mm_m58 : mm_M := (yX5_argumentWidth, cX5_argumentWidth, 2, (some .int), mm_k58, 1, 0, 0, 5094)
/-- TypeCopier$LetterMachine.resultWidth.(I)I -/
def mm_k59 : List mm_E := [
  (.iconst 1, 1, [], [], 0, 1, 0, 0),
  (.ireturn, 1, [], [], 0, 0, 0, 1)]
def mm_m59 : mm_M := (yX5_resultWidth, cX5_resultWidth, 2, (some .int), mm_k59, 1, 0, 0, 5177)
/-- TypeCopier$LetterMachine.nodeWidth.(II)I -/
def mm_k60 : List mm_E := [
  (.iconst 1, 1, [], [], 0, 1, 0, 0),
  (.ireturn, 1, [], [], 0, 0, 0, 1)]
def mm_m60 : mm_M := (yX5_nodeWidth, cX5_nodeWidth, 3, (some .int), mm_k60, 2, 0, 0, 5238)
/-- TypeCopier$LetterMachine.shapeWidth.(J)I -/
def mm_k61 : List mm_E := [
  (.iconst 1, 1, [], [], 0, 1, 0, 0),
  (.ireturn, 1, [], [], 0, 0, 0, 1)]
def mm_m61 : mm_M := (yX5_shapeWidth, cX5_shapeWidth, 3, (some .int), mm_k61, 1, 0, 0, 5069)
/-- TypeCopier$LetterMachine.join.()V -/
def mm_k62 : List mm_E := [
  (.aload_n 0, 1, [], [], 0, 0, 0, 0),
  (.invokevirtual 29, 3, [(5, 86)], [[5034, 5035, 5037, 5038, 2009]], 0, 0, 0, 1), mm_nop, mm_nop,
  (.istore_n 1, 1, [], [], 1, 0, 0, 4),
  (.aload_n 0, 1, [], [], 0, 0, 0, 5),
  (.invokevirtual 29, 3, [(5, 86)], [[5034, 5035, 5037, 5038, 2009]], 0, 0, 0, 6), mm_nop, mm_nop,
  (.istore_n 2, 1, [], [], 2, 0, 0, 9),
  (.aload_n 0, 1, [], [], 0, 0, 0, 10),
  (.aload_n 0, 1, [], [], 0, 0, 0, 11),
  (.iload_n 2, 1, [], [], 2, 0, 0, 12),
  (.iload_n 1, 1, [], [], 1, 0, 0, 13),
  (.invokevirtual 33, 3, [(5, 89)], [[5046, 5047, 5049, 5050, 2009]], 2, 0, 0, 14), mm_nop, mm_nop,
  (.invokevirtual 36, 3, [(5, 85)], [[5052, 5053, 5055, 5014, 2009]], 1, 0, 0, 17), mm_nop, mm_nop,
  (.return_, 1, [], [], 0, 0, 0, 20)]
def mm_m62 : mm_M := (yX5_join, cX5_join, 3, none, mm_k62, 0, 0, 0, 5033)
/-- TypeCopier$LetterMachine.takePart.(IIZ)V -/
def mm_k63 : List mm_E := [
  (.aload_n 0, 1, [], [], 0, 0, 0, 0),
  (.invokevirtual 29, 3, [(5, 86)], [[5034, 5035, 5037, 5038, 2009]], 0, 0, 0, 1), mm_nop, mm_nop,
  (.istore 4, 2, [], [], 4, 0, 0, 4), mm_nop,
  (.aload_n 0, 1, [], [], 0, 0, 0, 6),
  (.aload_n 0, 1, [], [], 0, 0, 0, 7),
  (.iload_n 3, 1, [], [], 3, 0, 0, 8),
  (.ifCond .eq 10, 3, [(0, 19)], [], 0, 0, 0, 9), mm_nop, mm_nop,
  (.iload 4, 2, [], [], 4, 0, 0, 12), mm_nop,
  (.iconst 1, 1, [], [], 0, 1, 0, 14),
  (.iadd, 1, [], [], 0, 0, 0, 15),
  (.goto 5, 3, [(0, 21)], [], 0, 0, 0, 16), mm_nop, mm_nop,
  (.iload 4, 2, [], [], 4, 0, 0, 19), mm_nop,
  (.invokevirtual 40, 3, [(5, 83)], [[5220, 5221, 5223, 5041, 2009]], 1, 0, 0, 21), mm_nop, mm_nop,
  (.invokevirtual 36, 3, [(5, 85)], [[5052, 5053, 5055, 5014, 2009]], 1, 0, 0, 24), mm_nop, mm_nop,
  (.return_, 1, [], [], 0, 0, 0, 27)]
def mm_m63 : mm_M := (yX5_takePart, cX5_takePart, 5, none, mm_k63, 3, 0, 0, 5219)
/-- TypeCopier$LetterMachine.partAddress.(JIZ)I -/
def mm_k64 : List mm_E := [
  (.iload 4, 2, [], [], 4, 0, 0, 0), mm_nop,
  (.ifCond .eq 13, 3, [(0, 15)], [], 0, 0, 0, 2), mm_nop, mm_nop,
  (.aload_n 0, 1, [], [], 0, 0, 0, 5),
  (.iload_n 3, 1, [], [], 3, 0, 0, 6),
  (.invokevirtual 40, 3, [(5, 83)], [[5220, 5221, 5223, 5041, 2009]], 1, 0, 0, 7), mm_nop, mm_nop,
  (.iconst 1, 1, [], [], 0, 1, 0, 10),
  (.iadd, 1, [], [], 0, 0, 0, 11),
  (.goto 8, 3, [(0, 20)], [], 0, 0, 0, 12), mm_nop, mm_nop,
  (.aload_n 0, 1, [], [], 0, 0, 0, 15),
  (.iload_n 3, 1, [], [], 3, 0, 0, 16),
  (.invokevirtual 40, 3, [(5, 83)], [[5220, 5221, 5223, 5041, 2009]], 1, 0, 0, 17), mm_nop, mm_nop,
  (.ireturn, 1, [], [], 0, 0, 0, 20)]
def mm_m64 : mm_M := (yX5_partAddress, cX5_partAddress, 5, (some .int), mm_k64, 3, 0, 0, 6020)
/-- TypeCopier$Machine.<init>.(LTypeCopier$Nodes;LTypeCopier$Input;LTypeCopier$Report;)V -/
def mm_k65 : List mm_E := [
  (.aload_n 0, 1, [], [], 0, 0, 0, 0),
  (.invokespecial 3, 3, [], [[2216, 2022, 2023]], 0, 0, 0, 1), mm_nop, mm_nop,
  (.aload_n 0, 1, [], [], 0, 0, 0, 4),
  (.sipush 8192, 3, [], [], 0, 8192, 0, 5), mm_nop, mm_nop,
  (.newarray .int, 2, [(0, 8192)], [[2066]], 0, 0, 0, 8), mm_nop,
  (.putfield 11, 3, [(5, 3), (1, 3)], [[2225]], 1, 0, 0, 10), mm_nop, mm_nop,
  (.aload_n 0, 1, [], [], 0, 0, 0, 13),
  (.sipush 600, 3, [], [], 0, 600, 0, 14), mm_nop, mm_nop,
  (.newarray .int, 2, [(0, 600)], [[2066]], 0, 0, 0, 17), mm_nop,
  (.putfield 15, 3, [(5, 4), (1, 4)], [[2226]], 1, 0, 0, 19), mm_nop, mm_nop,
  (.aload_n 0, 1, [], [], 0, 0, 0, 22),
  (.sipush 600, 3, [], [], 0, 600, 0, 23), mm_nop, mm_nop,
  (.newarray .int, 2, [(0, 600)], [[2066]], 0, 0, 0, 26), mm_nop,
  (.putfield 18, 3, [(5, 5), (1, 5)], [[2227]], 1, 0, 0, 28), mm_nop, mm_nop,
  (.aload_n 0, 1, [], [], 0, 0, 0, 31),
  (.bipush 30, 2, [], [], 0, 30, 0, 32), mm_nop,
  (.newarray .int, 2, [(0, 30)], [[2066]], 0, 0, 0, 34), mm_nop,
  (.putfield 21, 3, [(5, 6), (1, 6)], [[2228]], 1, 0, 0, 36), mm_nop, mm_nop,
  (.aload_n 0, 1, [], [], 0, 0, 0, 39),
  (.bipush 30, 2, [], [], 0, 30, 0, 40), mm_nop,
  (.newarray .int, 2, [(0, 30)], [[2066]], 0, 0, 0, 42), mm_nop,
  (.putfield 24, 3, [(5, 7), (1, 7)], [[2229]], 1, 0, 0, 44), mm_nop, mm_nop,
  (.aload_n 0, 1, [], [], 0, 0, 0, 47),
  (.aload_n 1, 1, [], [], 1, 0, 0, 48),
  (.putfield 27, 3, [(5, 0), (1, 0)], [[2218]], 1, 0, 0, 49), mm_nop, mm_nop,
  (.aload_n 0, 1, [], [], 0, 0, 0, 52),
  (.aload_n 2, 1, [], [], 2, 0, 0, 53),
  (.putfield 31, 3, [(5, 1), (1, 1)], [[2223]], 1, 0, 0, 54), mm_nop, mm_nop,
  (.aload_n 0, 1, [], [], 0, 0, 0, 57),
  (.aload_n 3, 1, [], [], 3, 0, 0, 58),
  (.putfield 35, 3, [(5, 2), (1, 2)], [[2224]], 1, 0, 0, 59), mm_nop, mm_nop,
  (.return_, 1, [], [], 0, 0, 0, 62)]
def mm_m65 : mm_M := (yX6_init, cX6_init, 4, none, mm_k65, 3, 5, 9452, 2215)
/-- TypeCopier$Machine.work.(JJ)I -/
def mm_k66 : List mm_E := [
  (.aload_n 0, 1, [], [], 0, 0, 0, 0),
  (.iconst 0, 1, [], [], 0, 0, 0, 1),
  (.putfield 39, 3, [(5, 8), (1, 8)], [[2230]], 0, 0, 0, 2), mm_nop, mm_nop,
  (.aload_n 0, 1, [], [], 0, 0, 0, 5),
  (.sipush 4096, 3, [], [], 0, 4096, 0, 6), mm_nop, mm_nop,
  (.putfield 43, 3, [(5, 9), (1, 9)], [[2231]], 0, 0, 0, 9), mm_nop, mm_nop,
  (.aload_n 0, 1, [], [], 0, 0, 0, 12),
  (.iconst 0, 1, [], [], 0, 0, 0, 13),
  (.putfield 46, 3, [(5, 10), (1, 10)], [[2232]], 0, 0, 0, 14), mm_nop, mm_nop,
  (.aload_n 0, 1, [], [], 0, 0, 0, 17),
  (.iconst 0, 1, [], [], 0, 0, 0, 18),
  (.putfield 49, 3, [(5, 11), (1, 11)], [[2233]], 0, 0, 0, 19), mm_nop, mm_nop,
  (.aload_n 0, 1, [], [], 0, 0, 0, 22),
  (.getfield 35, 3, [(5, 2), (1, 2)], [[2224]], 0, 0, 0, 23), mm_nop, mm_nop,
  (.invokevirtual 52, 3, [(8, 117)], [[4236, 4237, 4238, 2008]], 0, 0, 0, 26), mm_nop, mm_nop,
  (.aload_n 0, 1, [], [], 0, 0, 0, 29),
  (.getfield 31, 3, [(5, 1), (1, 1)], [[2223]], 0, 0, 0, 30), mm_nop, mm_nop,
  (.invokevirtual 57, 3, [(3, 38)], [[5000, 5001, 5002, 2007]], 0, 0, 0, 33), mm_nop, mm_nop,
  (.aload_n 0, 1, [], [], 0, 0, 0, 36),
  (.lload_n 1, 1, [], [], 1, 0, 0, 37),
  (.invokevirtual 62, 3, [(5, 80), (1, 80)], [[5004, 8105, 0, 5006, 2009], [5004, 8105, 1, 5006, 2009]], 1, 0, 0, 38), mm_nop, mm_nop,
  (.aload_n 0, 1, [], [], 0, 0, 0, 41),
  (.iconst 0, 1, [], [], 0, 0, 0, 42),
  (.invokevirtual 66, 3, [(5, 67), (1, 67)], [[5074, 8108, 6, 5076, 2009], [5074, 8108, 7, 5076, 2009]], 1, 0, 0, 43), mm_nop, mm_nop,
  (.aload_n 0, 1, [], [], 0, 0, 0, 46),
  (.aload_n 0, 1, [], [], 0, 0, 0, 47),
  (.iconst 0, 1, [], [], 0, 0, 0, 48),
  (.invokevirtual 70, 3, [(5, 56), (1, 13)], [[5100, 5102, 5111, 5112, 2010, 5101], [5100, 5102, 5103, 5104, 2011, 5101]], 1, 0, 0, 49), mm_nop, mm_nop,
  (.invokevirtual 74, 3, [(5, 68), (1, 68)], [[5115, 8109, 8, 5117, 2009], [5115, 8109, 9, 5117, 2009]], 1, 0, 0, 52), mm_nop, mm_nop,
  (.iconst 0, 1, [], [], 0, 0, 0, 55),
  (.istore 5, 2, [], [], 5, 0, 0, 56), mm_nop,
  (.iload 5, 2, [], [], 5, 0, 0, 58), mm_nop,
  (.ldc 77, 2, [], [[5123]], 0, 100000, 0, 60), mm_nop,
  (.if_icmp .ge 30, 3, [(0, 92)], [], 0, 0, 0, 62), mm_nop, mm_nop,
  (.aload_n 0, 1, [], [], 0, 0, 0, 65),
  (.getfield 46, 3, [(5, 10), (1, 10)], [[2232]], 0, 0, 0, 66), mm_nop, mm_nop,
  (.ifCond .le 23, 3, [(0, 92)], [], 0, 0, 0, 69), mm_nop, mm_nop,
  (.aload_n 0, 1, [], [], 0, 0, 0, 72),
  (.getfield 35, 3, [(5, 2), (1, 2)], [[2224]], 0, 0, 0, 73), mm_nop, mm_nop,
  (.invokevirtual 78, 3, [(8, 118)], [[5124, 5125, 5126, 2008]], 0, 0, 0, 76), mm_nop, mm_nop,
  (.ifCond .eq 13, 3, [(0, 92)], [], 0, 0, 0, 79), mm_nop, mm_nop,
  (.aload_n 0, 1, [], [], 0, 0, 0, 82),
  (.invokevirtual 82, 3, [(5, 69), (1, 69)], [[5128, 8110, 10, 5130, 2009], [5128, 8110, 11, 5130, 2009]], 0, 0, 0, 83), mm_nop, mm_nop,
  (.iinc 5 1, 3, [], [], 5, 1, 0, 86), mm_nop, mm_nop,
  (.goto (-31), 3, [(0, 58)], [], 0, 0, 0, 89), mm_nop, mm_nop,
  (.aload_n 0, 1, [], [], 0, 0, 0, 92),
  (.getfield 35, 3, [(5, 2), (1, 2)], [[2224]], 0, 0, 0, 93), mm_nop, mm_nop,
  (.invokevirtual 78, 3, [(8, 118)], [[5124, 5125, 5126, 2008]], 0, 0, 0, 96), mm_nop, mm_nop,
  (.ifCond .eq 18, 3, [(0, 117)], [], 0, 0, 0, 99), mm_nop, mm_nop,
  (.aload_n 0, 1, [], [], 0, 0, 0, 102),
  (.lload_n 3, 1, [], [], 3, 0, 0, 103),
  (.aload_n 0, 1, [], [], 0, 0, 0, 104),
  (.getfield 39, 3, [(5, 8), (1, 8)], [[2230]], 0, 0, 0, 105), mm_nop, mm_nop,
  (.aload_n 0, 1, [], [], 0, 0, 0, 108),
  (.lload_n 3, 1, [], [], 3, 0, 0, 109),
  (.invokevirtual 85, 3, [(5, 61), (1, 18)], [[5060, 5062, 5067, 5068, 2010, 5061], [5060, 5062, 5063, 5064, 2011, 5061]], 1, 0, 0, 110), mm_nop, mm_nop,
  (.isub, 1, [], [], 0, 0, 0, 113),
  (.invokevirtual 89, 3, [(5, 81), (1, 81)], [[6007, 8124, 32, 6009, 2009], [6007, 8124, 33, 6009, 2009]], 2, 0, 0, 114), mm_nop, mm_nop,
  (.aload_n 0, 1, [], [], 0, 0, 0, 117),
  (.getfield 35, 3, [(5, 2), (1, 2)], [[2224]], 0, 0, 0, 118), mm_nop, mm_nop,
  (.invokevirtual 93, 3, [(8, 120)], [[6033, 6034, 6035, 2008]], 0, 0, 0, 121), mm_nop, mm_nop,
  (.ireturn, 1, [], [], 0, 0, 0, 124)]
def mm_m66 : mm_M := (yX6_work, cX6_work, 6, (some .int), mm_k66, 2, 0, 0, 4235)
/-- TypeCopier$Machine.openFunction.(I)V -/
def mm_k67 : List mm_E := [
  (.aload_n 0, 1, [], [], 0, 0, 0, 0),
  (.getfield 49, 3, [(5, 11), (1, 11)], [[2233]], 0, 0, 0, 1), mm_nop, mm_nop,
  (.ifCond .lt 12, 3, [(0, 16)], [], 0, 0, 0, 4), mm_nop, mm_nop,
  (.aload_n 0, 1, [], [], 0, 0, 0, 7),
  (.getfield 49, 3, [(5, 11), (1, 11)], [[2233]], 0, 0, 0, 8), mm_nop, mm_nop,
  (.bipush 30, 2, [], [], 0, 30, 0, 11), mm_nop,
  (.if_icmp .lt 12, 3, [(0, 25)], [], 0, 0, 0, 13), mm_nop, mm_nop,
  (.aload_n 0, 1, [], [], 0, 0, 0, 16),
  (.getfield 35, 3, [(5, 2), (1, 2)], [[2224]], 0, 0, 0, 17), mm_nop, mm_nop,
  (.iconst 3, 1, [], [], 0, 3, 0, 20),
  (.invokevirtual 97, 3, [(8, 119)], [[5078, 5079, 5080, 2008]], 1, 0, 0, 21), mm_nop, mm_nop,
  (.return_, 1, [], [], 0, 0, 0, 24),
  (.aload_n 0, 1, [], [], 0, 0, 0, 25),
  (.getfield 21, 3, [(5, 6), (1, 6)], [[2228]], 0, 0, 0, 26), mm_nop, mm_nop,
  (.aload_n 0, 1, [], [], 0, 0, 0, 29),
  (.getfield 49, 3, [(5, 11), (1, 11)], [[2233]], 0, 0, 0, 30), mm_nop, mm_nop,
  (.iload_n 1, 1, [], [], 1, 0, 0, 33),
  (.iastore, 1, [], [], 0, 0, 0, 34),
  (.aload_n 0, 1, [], [], 0, 0, 0, 35),
  (.getfield 24, 3, [(5, 7), (1, 7)], [[2229]], 0, 0, 0, 36), mm_nop, mm_nop,
  (.aload_n 0, 1, [], [], 0, 0, 0, 39),
  (.getfield 49, 3, [(5, 11), (1, 11)], [[2233]], 0, 0, 0, 40), mm_nop, mm_nop,
  (.aload_n 0, 1, [], [], 0, 0, 0, 43),
  (.getfield 39, 3, [(5, 8), (1, 8)], [[2230]], 0, 0, 0, 44), mm_nop, mm_nop,
  (.aload_n 0, 1, [], [], 0, 0, 0, 47),
  (.iload_n 1, 1, [], [], 1, 0, 0, 48),
  (.invokevirtual 100, 3, [(5, 58), (1, 15)], [[5082, 5084, 5092, 5093, 2010, 5083], [5082, 5084, 5085, 5086, 2011, 5083]], 1, 0, 0, 49), mm_nop, mm_nop,
  (.isub, 1, [], [], 0, 0, 0, 52),
  (.iastore, 1, [], [], 0, 0, 0, 53),
  (.aload_n 0, 1, [], [], 0, 0, 0, 54),
  (.dup, 1, [], [], 0, 0, 0, 55),
  (.getfield 49, 3, [(5, 11), (1, 11)], [[2233]], 0, 0, 0, 56), mm_nop, mm_nop,
  (.iconst 1, 1, [], [], 0, 1, 0, 59),
  (.iadd, 1, [], [], 0, 0, 0, 60),
  (.putfield 49, 3, [(5, 11), (1, 11)], [[2233]], 0, 0, 0, 61), mm_nop, mm_nop,
  (.aload_n 0, 1, [], [], 0, 0, 0, 64),
  (.getfield 35, 3, [(5, 2), (1, 2)], [[2224]], 0, 0, 0, 65), mm_nop, mm_nop,
  (.aload_n 0, 1, [], [], 0, 0, 0, 68),
  (.getfield 49, 3, [(5, 11), (1, 11)], [[2233]], 0, 0, 0, 69), mm_nop, mm_nop,
  (.invokevirtual 103, 3, [(8, 123)], [[5095, 5096, 5097, 2008]], 1, 0, 0, 72), mm_nop, mm_nop,
  (.return_, 1, [], [], 0, 0, 0, 75)]
def mm_m67 : mm_M := (yX6_openFunction, cX6_openFunction, 2, none, mm_k67, 1, 0, 0, 5077)
/-- TypeCopier$Machine.beginNode.(I)V -/
def mm_k68 : List mm_E := [
  (.aload_n 0, 1, [], [], 0, 0, 0, 0),
  (.getfield 35, 3, [(5, 2), (1, 2)], [[2224]], 0, 0, 0, 1), mm_nop, mm_nop,
  (.invokevirtual 106, 3, [(8, 121)], [[5119, 5120, 5121, 2008]], 0, 0, 0, 4), mm_nop, mm_nop,
  (.sipush 600, 3, [], [], 0, 600, 0, 7), mm_nop, mm_nop,
  (.if_icmp .gt 20, 3, [(0, 30)], [], 0, 0, 0, 10), mm_nop, mm_nop,
  (.aload_n 0, 1, [], [], 0, 0, 0, 13),
  (.getfield 46, 3, [(5, 10), (1, 10)], [[2232]], 0, 0, 0, 14), mm_nop, mm_nop,
  (.ifCond .lt 13, 3, [(0, 30)], [], 0, 0, 0, 17), mm_nop, mm_nop,
  (.aload_n 0, 1, [], [], 0, 0, 0, 20),
  (.getfield 46, 3, [(5, 10), (1, 10)], [[2232]], 0, 0, 0, 21), mm_nop, mm_nop,
  (.sipush 600, 3, [], [], 0, 600, 0, 24), mm_nop, mm_nop,
  (.if_icmp .lt 12, 3, [(0, 39)], [], 0, 0, 0, 27), mm_nop, mm_nop,
  (.aload_n 0, 1, [], [], 0, 0, 0, 30),
  (.getfield 35, 3, [(5, 2), (1, 2)], [[2224]], 0, 0, 0, 31), mm_nop, mm_nop,
  (.iconst 2, 1, [], [], 0, 2, 0, 34),
  (.invokevirtual 97, 3, [(8, 119)], [[5078, 5079, 5080, 2008]], 1, 0, 0, 35), mm_nop, mm_nop,
  (.return_, 1, [], [], 0, 0, 0, 38),
  (.aload_n 0, 1, [], [], 0, 0, 0, 39),
  (.getfield 15, 3, [(5, 4), (1, 4)], [[2226]], 0, 0, 0, 40), mm_nop, mm_nop,
  (.aload_n 0, 1, [], [], 0, 0, 0, 43),
  (.getfield 46, 3, [(5, 10), (1, 10)], [[2232]], 0, 0, 0, 44), mm_nop, mm_nop,
  (.iload_n 1, 1, [], [], 1, 0, 0, 47),
  (.iastore, 1, [], [], 0, 0, 0, 48),
  (.aload_n 0, 1, [], [], 0, 0, 0, 49),
  (.getfield 18, 3, [(5, 5), (1, 5)], [[2227]], 0, 0, 0, 50), mm_nop, mm_nop,
  (.aload_n 0, 1, [], [], 0, 0, 0, 53),
  (.getfield 46, 3, [(5, 10), (1, 10)], [[2232]], 0, 0, 0, 54), mm_nop, mm_nop,
  (.iconst 0, 1, [], [], 0, 0, 0, 57),
  (.iastore, 1, [], [], 0, 0, 0, 58),
  (.aload_n 0, 1, [], [], 0, 0, 0, 59),
  (.dup, 1, [], [], 0, 0, 0, 60),
  (.getfield 46, 3, [(5, 10), (1, 10)], [[2232]], 0, 0, 0, 61), mm_nop, mm_nop,
  (.iconst 1, 1, [], [], 0, 1, 0, 64),
  (.iadd, 1, [], [], 0, 0, 0, 65),
  (.putfield 46, 3, [(5, 10), (1, 10)], [[2232]], 0, 0, 0, 66), mm_nop, mm_nop,
  (.return_, 1, [], [], 0, 0, 0, 69)]
def mm_m68 : mm_M := (yX6_beginNode, cX6_beginNode, 2, none, mm_k68, 1, 0, 0, 5118)
/-- TypeCopier$Machine.takeTurn.()V -/
def mm_k69 : List mm_E := [
  (.aload_n 0, 1, [], [], 0, 0, 0, 0),
  (.getfield 46, 3, [(5, 10), (1, 10)], [[2232]], 0, 0, 0, 1), mm_nop, mm_nop,
  (.iconst 1, 1, [], [], 0, 1, 0, 4),
  (.isub, 1, [], [], 0, 0, 0, 5),
  (.istore_n 1, 1, [], [], 1, 0, 0, 6),
  (.iload_n 1, 1, [], [], 1, 0, 0, 7),
  (.ifCond .lt 10, 3, [(0, 18)], [], 0, 0, 0, 8), mm_nop, mm_nop,
  (.iload_n 1, 1, [], [], 1, 0, 0, 11),
  (.sipush 600, 3, [], [], 0, 600, 0, 12), mm_nop, mm_nop,
  (.if_icmp .lt 4, 3, [(0, 19)], [], 0, 0, 0, 15), mm_nop, mm_nop,
  (.return_, 1, [], [], 0, 0, 0, 18),
  (.aload_n 0, 1, [], [], 0, 0, 0, 19),
  (.getfield 15, 3, [(5, 4), (1, 4)], [[2226]], 0, 0, 0, 20), mm_nop, mm_nop,
  (.iload_n 1, 1, [], [], 1, 0, 0, 23),
  (.iaload, 1, [], [], 0, 0, 0, 24),
  (.istore_n 2, 1, [], [], 2, 0, 0, 25),
  (.aload_n 0, 1, [], [], 0, 0, 0, 26),
  (.getfield 18, 3, [(5, 5), (1, 5)], [[2227]], 0, 0, 0, 27), mm_nop, mm_nop,
  (.iload_n 1, 1, [], [], 1, 0, 0, 30),
  (.iaload, 1, [], [], 0, 0, 0, 31),
  (.istore_n 3, 1, [], [], 3, 0, 0, 32),
  (.aload_n 0, 1, [], [], 0, 0, 0, 33),
  (.getfield 18, 3, [(5, 5), (1, 5)], [[2227]], 0, 0, 0, 34), mm_nop, mm_nop,
  (.iload_n 1, 1, [], [], 1, 0, 0, 37),
  (.iload_n 3, 1, [], [], 3, 0, 0, 38),
  (.iconst 1, 1, [], [], 0, 1, 0, 39),
  (.iadd, 1, [], [], 0, 0, 0, 40),
  (.iastore, 1, [], [], 0, 0, 0, 41),
  (.aload_n 0, 1, [], [], 0, 0, 0, 42),
  (.getfield 27, 3, [(5, 0), (1, 0)], [[2218]], 0, 0, 0, 43), mm_nop, mm_nop,
  (.iload_n 2, 1, [], [], 2, 0, 0, 46),
  (.invokevirtual 109, 3, [(6, 94)], [[5132, 3128, 3129, 2003]], 1, 0, 0, 47), mm_nop, mm_nop,
  (.istore 4, 2, [], [], 4, 0, 0, 50), mm_nop,
  (.iload 4, 2, [], [], 4, 0, 0, 52), mm_nop,
  (.iconst 5, 1, [], [], 0, 5, 0, 54),
  (.if_icmp .ne 12, 3, [(0, 67)], [], 0, 0, 0, 55), mm_nop, mm_nop,
  (.aload_n 0, 1, [], [], 0, 0, 0, 58),
  (.iload_n 2, 1, [], [], 2, 0, 0, 59),
  (.iload_n 3, 1, [], [], 3, 0, 0, 60),
  (.invokevirtual 114, 3, [(5, 70), (1, 70)], [[5133, 8111, 12, 5135, 2009], [5133, 8111, 13, 5135, 2009]], 2, 0, 0, 61), mm_nop, mm_nop,
  (.goto 65, 3, [(0, 129)], [], 0, 0, 0, 64), mm_nop, mm_nop,
  (.iload 4, 2, [], [], 4, 0, 0, 67), mm_nop,
  (.bipush 14, 2, [], [], 0, 14, 0, 69), mm_nop,
  (.if_icmp .ne 12, 3, [(0, 83)], [], 0, 0, 0, 71), mm_nop, mm_nop,
  (.aload_n 0, 1, [], [], 0, 0, 0, 74),
  (.iload_n 2, 1, [], [], 2, 0, 0, 75),
  (.iload_n 3, 1, [], [], 3, 0, 0, 76),
  (.invokevirtual 118, 3, [(5, 71), (1, 71)], [[5139, 8115, 14, 5141, 2009], [5139, 8115, 15, 5141, 2009]], 2, 0, 0, 77), mm_nop, mm_nop,
  (.goto 49, 3, [(0, 129)], [], 0, 0, 0, 80), mm_nop, mm_nop,
  (.iload_n 3, 1, [], [], 3, 0, 0, 83),
  (.aload_n 0, 1, [], [], 0, 0, 0, 84),
  (.getfield 27, 3, [(5, 0), (1, 0)], [[2218]], 0, 0, 0, 85), mm_nop, mm_nop,
  (.iload 4, 2, [], [], 4, 0, 0, 88), mm_nop,
  (.invokevirtual 121, 3, [(6, 96)], [[5184, 3110, 3111, 2003]], 1, 0, 0, 90), mm_nop, mm_nop,
  (.if_icmp .ge 19, 3, [(0, 112)], [], 0, 0, 0, 93), mm_nop, mm_nop,
  (.aload_n 0, 1, [], [], 0, 0, 0, 96),
  (.aload_n 0, 1, [], [], 0, 0, 0, 97),
  (.getfield 27, 3, [(5, 0), (1, 0)], [[2218]], 0, 0, 0, 98), mm_nop, mm_nop,
  (.iload_n 2, 1, [], [], 2, 0, 0, 101),
  (.iload_n 3, 1, [], [], 3, 0, 0, 102),
  (.invokevirtual 124, 3, [(6, 98)], [[5137, 3116, 3117, 2003]], 2, 0, 0, 103), mm_nop, mm_nop,
  (.invokevirtual 74, 3, [(5, 68), (1, 68)], [[5115, 8109, 8, 5117, 2009], [5115, 8109, 9, 5117, 2009]], 1, 0, 0, 106), mm_nop, mm_nop,
  (.goto 20, 3, [(0, 129)], [], 0, 0, 0, 109), mm_nop, mm_nop,
  (.aload_n 0, 1, [], [], 0, 0, 0, 112),
  (.dup, 1, [], [], 0, 0, 0, 113),
  (.getfield 46, 3, [(5, 10), (1, 10)], [[2232]], 0, 0, 0, 114), mm_nop, mm_nop,
  (.iconst 1, 1, [], [], 0, 1, 0, 117),
  (.isub, 1, [], [], 0, 0, 0, 118),
  (.putfield 46, 3, [(5, 10), (1, 10)], [[2232]], 0, 0, 0, 119), mm_nop, mm_nop,
  (.aload_n 0, 1, [], [], 0, 0, 0, 122),
  (.iload_n 2, 1, [], [], 2, 0, 0, 123),
  (.iload 4, 2, [], [], 4, 0, 0, 124), mm_nop,
  (.invokevirtual 128, 3, [(5, 74), (1, 74)], [[5185, 8118, 20, 5187, 2009], [5185, 8118, 21, 5187, 2009]], 2, 0, 0, 126), mm_nop, mm_nop,
  (.return_, 1, [], [], 0, 0, 0, 129)]
def mm_m69 : mm_M := (yX6_takeTurn, cX6_takeTurn, 5, none, mm_k69, 0, 0, 0, 5131)
/-- TypeCopier$Machine.takeTurnOfIf.(II)V -/
def mm_k70 : List mm_E := [
  (.iload_n 2, 1, [], [], 2, 0, 0, 0),
  (.ifCond .ne 19, 3, [(0, 20)], [], 0, 0, 0, 1), mm_nop, mm_nop,
  (.aload_n 0, 1, [], [], 0, 0, 0, 4),
  (.aload_n 0, 1, [], [], 0, 0, 0, 5),
  (.getfield 27, 3, [(5, 0), (1, 0)], [[2218]], 0, 0, 0, 6), mm_nop, mm_nop,
  (.iload_n 1, 1, [], [], 1, 0, 0, 9),
  (.iconst 0, 1, [], [], 0, 0, 0, 10),
  (.invokevirtual 124, 3, [(6, 98)], [[5137, 3116, 3117, 2003]], 2, 0, 0, 11), mm_nop, mm_nop,
  (.invokevirtual 74, 3, [(5, 68), (1, 68)], [[5115, 8109, 8, 5117, 2009], [5115, 8109, 9, 5117, 2009]], 1, 0, 0, 14), mm_nop, mm_nop,
  (.goto 45, 3, [(0, 62)], [], 0, 0, 0, 17), mm_nop, mm_nop,
  (.iload_n 2, 1, [], [], 2, 0, 0, 20),
  (.iconst 1, 1, [], [], 0, 1, 0, 21),
  (.if_icmp .ne 30, 3, [(0, 52)], [], 0, 0, 0, 22), mm_nop, mm_nop,
  (.aload_n 0, 1, [], [], 0, 0, 0, 25),
  (.aload_n 0, 1, [], [], 0, 0, 0, 26),
  (.getfield 27, 3, [(5, 0), (1, 0)], [[2218]], 0, 0, 0, 27), mm_nop, mm_nop,
  (.iload_n 1, 1, [], [], 1, 0, 0, 30),
  (.aload_n 0, 1, [], [], 0, 0, 0, 31),
  (.invokevirtual 131, 3, [(5, 86), (1, 86)], [[5138, 8112, 8114, 5038, 2009], [5138, 8112, 8113, 5038, 2009]], 0, 0, 0, 32), mm_nop, mm_nop,
  (.ifCond .eq 7, 3, [(0, 42)], [], 0, 0, 0, 35), mm_nop, mm_nop,
  (.iconst 1, 1, [], [], 0, 1, 0, 38),
  (.goto 4, 3, [(0, 43)], [], 0, 0, 0, 39), mm_nop, mm_nop,
  (.iconst 2, 1, [], [], 0, 2, 0, 42),
  (.invokevirtual 124, 3, [(6, 98)], [[5137, 3116, 3117, 2003]], 2, 0, 0, 43), mm_nop, mm_nop,
  (.invokevirtual 74, 3, [(5, 68), (1, 68)], [[5115, 8109, 8, 5117, 2009], [5115, 8109, 9, 5117, 2009]], 1, 0, 0, 46), mm_nop, mm_nop,
  (.goto 13, 3, [(0, 62)], [], 0, 0, 0, 49), mm_nop, mm_nop,
  (.aload_n 0, 1, [], [], 0, 0, 0, 52),
  (.dup, 1, [], [], 0, 0, 0, 53),
  (.getfield 46, 3, [(5, 10), (1, 10)], [[2232]], 0, 0, 0, 54), mm_nop, mm_nop,
  (.iconst 1, 1, [], [], 0, 1, 0, 57),
  (.isub, 1, [], [], 0, 0, 0, 58),
  (.putfield 46, 3, [(5, 10), (1, 10)], [[2232]], 0, 0, 0, 59), mm_nop, mm_nop,
  (.return_, 1, [], [], 0, 0, 0, 62)]
def mm_m70 : mm_M := (yX6_takeTurnOfIf, cX6_takeTurnOfIf, 3, none, mm_k70, 2, 0, 0, 5136)
/-- TypeCopier$Machine.takeTurnOfCall.(II)V -/
def mm_k71 : List mm_E := [
  (.iload_n 2, 1, [], [], 2, 0, 0, 0),
  (.ifCond .ne 19, 3, [(0, 20)], [], 0, 0, 0, 1), mm_nop, mm_nop,
  (.aload_n 0, 1, [], [], 0, 0, 0, 4),
  (.aload_n 0, 1, [], [], 0, 0, 0, 5),
  (.getfield 27, 3, [(5, 0), (1, 0)], [[2218]], 0, 0, 0, 6), mm_nop, mm_nop,
  (.iload_n 1, 1, [], [], 1, 0, 0, 9),
  (.iconst 0, 1, [], [], 0, 0, 0, 10),
  (.invokevirtual 124, 3, [(6, 98)], [[5137, 3116, 3117, 2003]], 2, 0, 0, 11), mm_nop, mm_nop,
  (.invokevirtual 74, 3, [(5, 68), (1, 68)], [[5115, 8109, 8, 5117, 2009], [5115, 8109, 9, 5117, 2009]], 1, 0, 0, 14), mm_nop, mm_nop,
  (.goto 60, 3, [(0, 77)], [], 0, 0, 0, 17), mm_nop, mm_nop,
  (.iload_n 2, 1, [], [], 2, 0, 0, 20),
  (.iconst 1, 1, [], [], 0, 1, 0, 21),
  (.if_icmp .ne 41, 3, [(0, 63)], [], 0, 0, 0, 22), mm_nop, mm_nop,
  (.aload_n 0, 1, [], [], 0, 0, 0, 25),
  (.aload_n 0, 1, [], [], 0, 0, 0, 26),
  (.aload_n 0, 1, [], [], 0, 0, 0, 27),
  (.invokevirtual 134, 3, [(5, 72), (1, 72)], [[5143, 8116, 16, 5145, 2009], [5143, 8116, 17, 5145, 2009]], 0, 0, 0, 28), mm_nop, mm_nop,
  (.iload_n 1, 1, [], [], 1, 0, 0, 31),
  (.invokevirtual 137, 3, [(5, 57), (1, 14)], [[5147, 5149, 5157, 5158, 2010, 5148], [5147, 5149, 5150, 5151, 2011, 5148]], 2, 0, 0, 32), mm_nop, mm_nop,
  (.invokevirtual 66, 3, [(5, 67), (1, 67)], [[5074, 8108, 6, 5076, 2009], [5074, 8108, 7, 5076, 2009]], 1, 0, 0, 35), mm_nop, mm_nop,
  (.aload_n 0, 1, [], [], 0, 0, 0, 38),
  (.getfield 35, 3, [(5, 2), (1, 2)], [[2224]], 0, 0, 0, 39), mm_nop, mm_nop,
  (.invokevirtual 78, 3, [(8, 118)], [[5124, 5125, 5126, 2008]], 0, 0, 0, 42), mm_nop, mm_nop,
  (.ifCond .eq 32, 3, [(0, 77)], [], 0, 0, 0, 45), mm_nop, mm_nop,
  (.aload_n 0, 1, [], [], 0, 0, 0, 48),
  (.aload_n 0, 1, [], [], 0, 0, 0, 49),
  (.aload_n 0, 1, [], [], 0, 0, 0, 50),
  (.invokevirtual 134, 3, [(5, 72), (1, 72)], [[5143, 8116, 16, 5145, 2009], [5143, 8116, 17, 5145, 2009]], 0, 0, 0, 51), mm_nop, mm_nop,
  (.invokevirtual 70, 3, [(5, 56), (1, 13)], [[5100, 5102, 5111, 5112, 2010, 5101], [5100, 5102, 5103, 5104, 2011, 5101]], 1, 0, 0, 54), mm_nop, mm_nop,
  (.invokevirtual 74, 3, [(5, 68), (1, 68)], [[5115, 8109, 8, 5117, 2009], [5115, 8109, 9, 5117, 2009]], 1, 0, 0, 57), mm_nop, mm_nop,
  (.goto 17, 3, [(0, 77)], [], 0, 0, 0, 60), mm_nop, mm_nop,
  (.aload_n 0, 1, [], [], 0, 0, 0, 63),
  (.invokevirtual 140, 3, [(5, 73), (1, 73)], [[5161, 8117, 18, 5163, 2009], [5161, 8117, 19, 5163, 2009]], 0, 0, 0, 64), mm_nop, mm_nop,
  (.aload_n 0, 1, [], [], 0, 0, 0, 67),
  (.dup, 1, [], [], 0, 0, 0, 68),
  (.getfield 46, 3, [(5, 10), (1, 10)], [[2232]], 0, 0, 0, 69), mm_nop, mm_nop,
  (.iconst 1, 1, [], [], 0, 1, 0, 72),
  (.isub, 1, [], [], 0, 0, 0, 73),
  (.putfield 46, 3, [(5, 10), (1, 10)], [[2232]], 0, 0, 0, 74), mm_nop, mm_nop,
  (.return_, 1, [], [], 0, 0, 0, 77)]
def mm_m71 : mm_M := (yX6_takeTurnOfCall, cX6_takeTurnOfCall, 3, none, mm_k71, 2, 0, 0, 5142)
/-- TypeCopier$Machine.unit.()I -/
def mm_k72 : List mm_E := [
  (.aload_n 0, 1, [], [], 0, 0, 0, 0),
  (.getfield 49, 3, [(5, 11), (1, 11)], [[2233]], 0, 0, 0, 1), mm_nop, mm_nop,
  (.iconst 1, 1, [], [], 0, 1, 0, 4),
  (.isub, 1, [], [], 0, 0, 0, 5),
  (.istore_n 1, 1, [], [], 1, 0, 0, 6),
  (.iload_n 1, 1, [], [], 1, 0, 0, 7),
  (.ifCond .lt 18, 3, [(0, 26)], [], 0, 0, 0, 8), mm_nop, mm_nop,
  (.iload_n 1, 1, [], [], 1, 0, 0, 11),
  (.bipush 30, 2, [], [], 0, 30, 0, 12), mm_nop,
  (.if_icmp .ge 12, 3, [(0, 26)], [], 0, 0, 0, 14), mm_nop, mm_nop,
  (.aload_n 0, 1, [], [], 0, 0, 0, 17),
  (.getfield 21, 3, [(5, 6), (1, 6)], [[2228]], 0, 0, 0, 18), mm_nop, mm_nop,
  (.iload_n 1, 1, [], [], 1, 0, 0, 21),
  (.iaload, 1, [], [], 0, 0, 0, 22),
  (.goto 4, 3, [(0, 27)], [], 0, 0, 0, 23), mm_nop, mm_nop,
  (.iconst (-1), 1, [], [], 0, (-1), 0, 26),
  (.ireturn, 1, [], [], 0, 0, 0, 27)]
def mm_m72 : mm_M := (yX6_unit, cX6_unit, 2, (some .int), mm_k72, 0, 0, 0, 5146)
/-- TypeCopier$Machine.closeFunction.()V -/
def mm_k73 : List mm_E := [
  (.aload_n 0, 1, [], [], 0, 0, 0, 0),
  (.aload_n 0, 1, [], [], 0, 0, 0, 1),
  (.invokevirtual 134, 3, [(5, 72), (1, 72)], [[5143, 8116, 16, 5145, 2009], [5143, 8116, 17, 5145, 2009]], 0, 0, 0, 2), mm_nop, mm_nop,
  (.invokevirtual 100, 3, [(5, 58), (1, 15)], [[5082, 5084, 5092, 5093, 2010, 5083], [5082, 5084, 5085, 5086, 2011, 5083]], 1, 0, 0, 5), mm_nop, mm_nop,
  (.istore_n 1, 1, [], [], 1, 0, 0, 8),
  (.aload_n 0, 1, [], [], 0, 0, 0, 9),
  (.aload_n 0, 1, [], [], 0, 0, 0, 10),
  (.invokevirtual 134, 3, [(5, 72), (1, 72)], [[5143, 8116, 16, 5145, 2009], [5143, 8116, 17, 5145, 2009]], 0, 0, 0, 11), mm_nop, mm_nop,
  (.invokevirtual 143, 3, [(5, 59), (1, 16)], [[5165, 5167, 5175, 5176, 2010, 5166], [5165, 5167, 5168, 5169, 2011, 5166]], 1, 0, 0, 14), mm_nop, mm_nop,
  (.istore_n 2, 1, [], [], 2, 0, 0, 17),
  (.aload_n 0, 1, [], [], 0, 0, 0, 18),
  (.iload_n 1, 1, [], [], 1, 0, 0, 19),
  (.iload_n 2, 1, [], [], 2, 0, 0, 20),
  (.iadd, 1, [], [], 0, 0, 0, 21),
  (.iload_n 1, 1, [], [], 1, 0, 0, 22),
  (.iload_n 2, 1, [], [], 2, 0, 0, 23),
  (.invokevirtual 146, 3, [(5, 88), (1, 88)], [[5178, 5180, 5182, 5179, 2009], [5178, 5180, 5181, 5179, 2009]], 3, 0, 0, 24), mm_nop, mm_nop,
  (.aload_n 0, 1, [], [], 0, 0, 0, 27),
  (.dup, 1, [], [], 0, 0, 0, 28),
  (.getfield 49, 3, [(5, 11), (1, 11)], [[2233]], 0, 0, 0, 29), mm_nop, mm_nop,
  (.iconst 1, 1, [], [], 0, 1, 0, 32),
  (.isub, 1, [], [], 0, 0, 0, 33),
  (.putfield 49, 3, [(5, 11), (1, 11)], [[2233]], 0, 0, 0, 34), mm_nop, mm_nop,
  (.return_, 1, [], [], 0, 0, 0, 37)]
def mm_m73 : mm_M := (yX6_closeFunction, cX6_closeFunction, 3, none, mm_k73, 0, 0, 0, 5164)
/-- TypeCopier$Machine.finishNode.(II)V -/
def mm_k74 : List mm_E := [
  (.iload_n 2, 1, [], [], 2, 0, 0, 0),
  (.tableswitch 216 0 13 #[71, 71, 87, 94, 110, 216, 133, 140, 153, 166, 174, 182, 201, 209], 71, [(0, 217), (0, 72), (1, 72), (2, 88), (3, 95), (4, 111), (5, 217), (6, 134), (7, 141), (8, 154), (9, 167), (10, 175), (11, 183), (12, 202), (13, 210)], [], 0, 0, 0, 1), mm_nop, mm_nop, mm_nop, mm_nop, mm_nop, mm_nop, mm_nop, mm_nop, mm_nop, mm_nop, mm_nop, mm_nop, mm_nop, mm_nop, mm_nop, mm_nop, mm_nop, mm_nop, mm_nop, mm_nop, mm_nop, mm_nop, mm_nop, mm_nop, mm_nop, mm_nop, mm_nop, mm_nop, mm_nop, mm_nop, mm_nop, mm_nop, mm_nop, mm_nop, mm_nop, mm_nop, mm_nop, mm_nop, mm_nop, mm_nop, mm_nop, mm_nop, mm_nop, mm_nop, mm_nop, mm_nop, mm_nop, mm_nop, mm_nop, mm_nop, mm_nop, mm_nop, mm_nop, mm_nop, mm_nop, mm_nop, mm_nop, mm_nop, mm_nop, mm_nop, mm_nop, mm_nop, mm_nop, mm_nop, mm_nop, mm_nop, mm_nop, mm_nop, mm_nop, mm_nop,
  (.aload_n 0, 1, [], [], 0, 0, 0, 72),
  (.aload_n 0, 1, [], [], 0, 0, 0, 73),
  (.getfield 27, 3, [(5, 0), (1, 0)], [[2218]], 0, 0, 0, 74), mm_nop, mm_nop,
  (.iload_n 1, 1, [], [], 1, 0, 0, 77),
  (.iconst 0, 1, [], [], 0, 0, 0, 78),
  (.invokevirtual 150, 3, [(6, 97)], [[5189, 3136, 3137, 2003]], 2, 0, 0, 79), mm_nop, mm_nop,
  (.invokevirtual 153, 3, [(5, 85), (1, 85)], [[5013, 5015, 5017, 5014, 2009], [5013, 5015, 5016, 5014, 2009]], 1, 0, 0, 82), mm_nop, mm_nop,
  (.goto 132, 3, [(0, 217)], [], 0, 0, 0, 85), mm_nop, mm_nop,
  (.aload_n 0, 1, [], [], 0, 0, 0, 88),
  (.invokevirtual 156, 3, [(5, 75), (1, 75)], [[5190, 8119, 22, 5192, 2009], [5190, 8119, 23, 5192, 2009]], 0, 0, 0, 89), mm_nop, mm_nop,
  (.goto 125, 3, [(0, 217)], [], 0, 0, 0, 92), mm_nop, mm_nop,
  (.aload_n 0, 1, [], [], 0, 0, 0, 95),
  (.aload_n 0, 1, [], [], 0, 0, 0, 96),
  (.invokevirtual 131, 3, [(5, 86), (1, 86)], [[5138, 8112, 8114, 5038, 2009], [5138, 8112, 8113, 5038, 2009]], 0, 0, 0, 97), mm_nop, mm_nop,
  (.aload_n 0, 1, [], [], 0, 0, 0, 100),
  (.invokevirtual 131, 3, [(5, 86), (1, 86)], [[5138, 8112, 8114, 5038, 2009], [5138, 8112, 8113, 5038, 2009]], 0, 0, 0, 101), mm_nop, mm_nop,
  (.iadd, 1, [], [], 0, 0, 0, 104),
  (.invokevirtual 153, 3, [(5, 85), (1, 85)], [[5013, 5015, 5017, 5014, 2009], [5013, 5015, 5016, 5014, 2009]], 1, 0, 0, 105), mm_nop, mm_nop,
  (.goto 109, 3, [(0, 217)], [], 0, 0, 0, 108), mm_nop, mm_nop,
  (.aload_n 0, 1, [], [], 0, 0, 0, 111),
  (.aload_n 0, 1, [], [], 0, 0, 0, 112),
  (.invokevirtual 131, 3, [(5, 86), (1, 86)], [[5138, 8112, 8114, 5038, 2009], [5138, 8112, 8113, 5038, 2009]], 0, 0, 0, 113), mm_nop, mm_nop,
  (.aload_n 0, 1, [], [], 0, 0, 0, 116),
  (.invokevirtual 131, 3, [(5, 86), (1, 86)], [[5138, 8112, 8114, 5038, 2009], [5138, 8112, 8113, 5038, 2009]], 0, 0, 0, 117), mm_nop, mm_nop,
  (.if_icmp .le 7, 3, [(0, 127)], [], 0, 0, 0, 120), mm_nop, mm_nop,
  (.iconst 1, 1, [], [], 0, 1, 0, 123),
  (.goto 4, 3, [(0, 128)], [], 0, 0, 0, 124), mm_nop, mm_nop,
  (.iconst 0, 1, [], [], 0, 0, 0, 127),
  (.invokevirtual 153, 3, [(5, 85), (1, 85)], [[5013, 5015, 5017, 5014, 2009], [5013, 5015, 5016, 5014, 2009]], 1, 0, 0, 128), mm_nop, mm_nop,
  (.goto 86, 3, [(0, 217)], [], 0, 0, 0, 131), mm_nop, mm_nop,
  (.aload_n 0, 1, [], [], 0, 0, 0, 134),
  (.invokevirtual 159, 3, [(5, 62), (1, 19)], [[5025, 5027, 5031, 5032, 2010, 5026], [5025, 5027, 5028, 5029, 2011, 5026]], 0, 0, 0, 135), mm_nop, mm_nop,
  (.goto 79, 3, [(0, 217)], [], 0, 0, 0, 138), mm_nop, mm_nop,
  (.aload_n 0, 1, [], [], 0, 0, 0, 141),
  (.aload_n 0, 1, [], [], 0, 0, 0, 142),
  (.invokevirtual 134, 3, [(5, 72), (1, 72)], [[5143, 8116, 16, 5145, 2009], [5143, 8116, 17, 5145, 2009]], 0, 0, 0, 143), mm_nop, mm_nop,
  (.iload_n 1, 1, [], [], 1, 0, 0, 146),
  (.iconst 0, 1, [], [], 0, 0, 0, 147),
  (.invokevirtual 162, 3, [(5, 63), (1, 20)], [[5198, 5200, 5217, 5218, 2010, 5199], [5198, 5200, 5201, 5202, 2011, 5199]], 3, 0, 0, 148), mm_nop, mm_nop,
  (.goto 66, 3, [(0, 217)], [], 0, 0, 0, 151), mm_nop, mm_nop,
  (.aload_n 0, 1, [], [], 0, 0, 0, 154),
  (.aload_n 0, 1, [], [], 0, 0, 0, 155),
  (.invokevirtual 134, 3, [(5, 72), (1, 72)], [[5143, 8116, 16, 5145, 2009], [5143, 8116, 17, 5145, 2009]], 0, 0, 0, 156), mm_nop, mm_nop,
  (.iload_n 1, 1, [], [], 1, 0, 0, 159),
  (.iconst 1, 1, [], [], 0, 1, 0, 160),
  (.invokevirtual 162, 3, [(5, 63), (1, 20)], [[5198, 5200, 5217, 5218, 2010, 5199], [5198, 5200, 5201, 5202, 2011, 5199]], 3, 0, 0, 161), mm_nop, mm_nop,
  (.goto 53, 3, [(0, 217)], [], 0, 0, 0, 164), mm_nop, mm_nop,
  (.aload_n 0, 1, [], [], 0, 0, 0, 167),
  (.iconst 0, 1, [], [], 0, 0, 0, 168),
  (.invokevirtual 153, 3, [(5, 85), (1, 85)], [[5013, 5015, 5017, 5014, 2009], [5013, 5015, 5016, 5014, 2009]], 1, 0, 0, 169), mm_nop, mm_nop,
  (.goto 45, 3, [(0, 217)], [], 0, 0, 0, 172), mm_nop, mm_nop,
  (.aload_n 0, 1, [], [], 0, 0, 0, 175),
  (.iload_n 1, 1, [], [], 1, 0, 0, 176),
  (.invokevirtual 166, 3, [(5, 76), (1, 76)], [[5224, 8121, 26, 5226, 2009], [5224, 8121, 27, 5226, 2009]], 1, 0, 0, 177), mm_nop, mm_nop,
  (.goto 37, 3, [(0, 217)], [], 0, 0, 0, 180), mm_nop, mm_nop,
  (.aload_n 0, 1, [], [], 0, 0, 0, 183),
  (.aload_n 0, 1, [], [], 0, 0, 0, 184),
  (.invokevirtual 131, 3, [(5, 86), (1, 86)], [[5138, 8112, 8114, 5038, 2009], [5138, 8112, 8113, 5038, 2009]], 0, 0, 0, 185), mm_nop, mm_nop,
  (.ifCond .ne 7, 3, [(0, 195)], [], 0, 0, 0, 188), mm_nop, mm_nop,
  (.iconst 1, 1, [], [], 0, 1, 0, 191),
  (.goto 4, 3, [(0, 196)], [], 0, 0, 0, 192), mm_nop, mm_nop,
  (.iconst 0, 1, [], [], 0, 0, 0, 195),
  (.invokevirtual 153, 3, [(5, 85), (1, 85)], [[5013, 5015, 5017, 5014, 2009], [5013, 5015, 5016, 5014, 2009]], 1, 0, 0, 196), mm_nop, mm_nop,
  (.goto 18, 3, [(0, 217)], [], 0, 0, 0, 199), mm_nop, mm_nop,
  (.aload_n 0, 1, [], [], 0, 0, 0, 202),
  (.iload_n 1, 1, [], [], 1, 0, 0, 203),
  (.invokevirtual 169, 3, [(5, 77), (1, 77)], [[5239, 8122, 28, 6001, 2009], [5239, 8122, 29, 6001, 2009]], 1, 0, 0, 204), mm_nop, mm_nop,
  (.goto 10, 3, [(0, 217)], [], 0, 0, 0, 207), mm_nop, mm_nop,
  (.aload_n 0, 1, [], [], 0, 0, 0, 210),
  (.invokevirtual 172, 3, [(5, 78), (1, 78)], [[6003, 8123, 30, 6005, 2009], [6003, 8123, 31, 6005, 2009]], 0, 0, 0, 211), mm_nop, mm_nop,
  (.goto 3, 3, [(0, 217)], [], 0, 0, 0, 214), mm_nop, mm_nop,
  (.return_, 1, [], [], 0, 0, 0, 217)]
def mm_m74 : mm_M := (yX6_finishNode, cX6_finishNode, 3, none, mm_k74, 2, 0, 0, 5188)
/-- TypeCopier$Machine.pushArgument.()V -/
def mm_k75 : List mm_E := [
  (.aload_n 0, 1, [], [], 0, 0, 0, 0),
  (.getfield 49, 3, [(5, 11), (1, 11)], [[2233]], 0, 0, 0, 1), mm_nop, mm_nop,
  (.iconst 1, 1, [], [], 0, 1, 0, 4),
  (.isub, 1, [], [], 0, 0, 0, 5),
  (.istore_n 1, 1, [], [], 1, 0, 0, 6),
  (.iload_n 1, 1, [], [], 1, 0, 0, 7),
  (.ifCond .lt 29, 3, [(0, 37)], [], 0, 0, 0, 8), mm_nop, mm_nop,
  (.iload_n 1, 1, [], [], 1, 0, 0, 11),
  (.bipush 30, 2, [], [], 0, 30, 0, 12), mm_nop,
  (.if_icmp .ge 23, 3, [(0, 37)], [], 0, 0, 0, 14), mm_nop, mm_nop,
  (.aload_n 0, 1, [], [], 0, 0, 0, 17),
  (.aload_n 0, 1, [], [], 0, 0, 0, 18),
  (.getfield 24, 3, [(5, 7), (1, 7)], [[2229]], 0, 0, 0, 19), mm_nop, mm_nop,
  (.iload_n 1, 1, [], [], 1, 0, 0, 22),
  (.iaload, 1, [], [], 0, 0, 0, 23),
  (.aload_n 0, 1, [], [], 0, 0, 0, 24),
  (.aload_n 0, 1, [], [], 0, 0, 0, 25),
  (.getfield 21, 3, [(5, 6), (1, 6)], [[2228]], 0, 0, 0, 26), mm_nop, mm_nop,
  (.iload_n 1, 1, [], [], 1, 0, 0, 29),
  (.iaload, 1, [], [], 0, 0, 0, 30),
  (.invokevirtual 100, 3, [(5, 58), (1, 15)], [[5082, 5084, 5092, 5093, 2010, 5083], [5082, 5084, 5085, 5086, 2011, 5083]], 1, 0, 0, 31), mm_nop, mm_nop,
  (.invokevirtual 175, 3, [(5, 87), (1, 87)], [[5194, 8120, 24, 5196, 2009], [5194, 8120, 25, 5196, 2009]], 2, 0, 0, 34), mm_nop, mm_nop,
  (.return_, 1, [], [], 0, 0, 0, 37)]
def mm_m75 : mm_M := (yX6_pushArgument, cX6_pushArgument, 2, none, mm_k75, 0, 0, 0, 5193)
/-- TypeCopier$Machine.makeLink.(I)V -/
def mm_k76 : List mm_E := [
  (.aload_n 0, 1, [], [], 0, 0, 0, 0),
  (.getfield 35, 3, [(5, 2), (1, 2)], [[2224]], 0, 0, 0, 1), mm_nop, mm_nop,
  (.invokevirtual 178, 3, [(8, 122)], [[5228, 5229, 5230, 2008]], 0, 0, 0, 4), mm_nop, mm_nop,
  (.bipush 100, 2, [], [], 0, 100, 0, 7), mm_nop,
  (.if_icmp .le 12, 3, [(0, 21)], [], 0, 0, 0, 9), mm_nop, mm_nop,
  (.aload_n 0, 1, [], [], 0, 0, 0, 12),
  (.getfield 35, 3, [(5, 2), (1, 2)], [[2224]], 0, 0, 0, 13), mm_nop, mm_nop,
  (.iconst 4, 1, [], [], 0, 4, 0, 16),
  (.invokevirtual 97, 3, [(8, 119)], [[5078, 5079, 5080, 2008]], 1, 0, 0, 17), mm_nop, mm_nop,
  (.return_, 1, [], [], 0, 0, 0, 20),
  (.aload_n 0, 1, [], [], 0, 0, 0, 21),
  (.invokevirtual 131, 3, [(5, 86), (1, 86)], [[5138, 8112, 8114, 5038, 2009], [5138, 8112, 8113, 5038, 2009]], 0, 0, 0, 22), mm_nop, mm_nop,
  (.istore_n 2, 1, [], [], 2, 0, 0, 25),
  (.aload_n 0, 1, [], [], 0, 0, 0, 26),
  (.aload_n 0, 1, [], [], 0, 0, 0, 27),
  (.aload_n 0, 1, [], [], 0, 0, 0, 28),
  (.aload_n 0, 1, [], [], 0, 0, 0, 29),
  (.invokevirtual 134, 3, [(5, 72), (1, 72)], [[5143, 8116, 16, 5145, 2009], [5143, 8116, 17, 5145, 2009]], 0, 0, 0, 30), mm_nop, mm_nop,
  (.aload_n 0, 1, [], [], 0, 0, 0, 33),
  (.getfield 27, 3, [(5, 0), (1, 0)], [[2218]], 0, 0, 0, 34), mm_nop, mm_nop,
  (.iload_n 1, 1, [], [], 1, 0, 0, 37),
  (.iconst 0, 1, [], [], 0, 0, 0, 38),
  (.invokevirtual 124, 3, [(6, 98)], [[5137, 3116, 3117, 2003]], 2, 0, 0, 39), mm_nop, mm_nop,
  (.invokevirtual 181, 3, [(5, 60), (1, 17)], [[5232, 5234, 5236, 5237, 2010, 5233], [5232, 5234, 5235, 5206, 2011, 5233]], 2, 0, 0, 42), mm_nop, mm_nop,
  (.iload_n 2, 1, [], [], 2, 0, 0, 45),
  (.invokevirtual 184, 3, [(5, 79), (1, 79)], [[5070, 8107, 4, 5072, 2009], [5070, 8107, 5, 5072, 2009]], 2, 0, 0, 46), mm_nop, mm_nop,
  (.invokevirtual 153, 3, [(5, 85), (1, 85)], [[5013, 5015, 5017, 5014, 2009], [5013, 5015, 5016, 5014, 2009]], 1, 0, 0, 49), mm_nop, mm_nop,
  (.return_, 1, [], [], 0, 0, 0, 52)]
def mm_m76 : mm_M := (yX6_makeLink, cX6_makeLink, 3, none, mm_k76, 1, 0, 0, 5227)
/-- TypeCopier$Machine.takeHead.(I)V -/
def mm_k77 : List mm_E := [
  (.aload_n 0, 1, [], [], 0, 0, 0, 0),
  (.invokevirtual 131, 3, [(5, 86), (1, 86)], [[5138, 8112, 8114, 5038, 2009], [5138, 8112, 8113, 5038, 2009]], 0, 0, 0, 1), mm_nop, mm_nop,
  (.istore_n 2, 1, [], [], 2, 0, 0, 4),
  (.iload_n 2, 1, [], [], 2, 0, 0, 5),
  (.ifCond .ne 12, 3, [(0, 18)], [], 0, 0, 0, 6), mm_nop, mm_nop,
  (.aload_n 0, 1, [], [], 0, 0, 0, 9),
  (.getfield 35, 3, [(5, 2), (1, 2)], [[2224]], 0, 0, 0, 10), mm_nop, mm_nop,
  (.iconst 1, 1, [], [], 0, 1, 0, 13),
  (.invokevirtual 97, 3, [(8, 119)], [[5078, 5079, 5080, 2008]], 1, 0, 0, 14), mm_nop, mm_nop,
  (.return_, 1, [], [], 0, 0, 0, 17),
  (.aload_n 0, 1, [], [], 0, 0, 0, 18),
  (.iload_n 2, 1, [], [], 2, 0, 0, 19),
  (.iconst 1, 1, [], [], 0, 1, 0, 20),
  (.iadd, 1, [], [], 0, 0, 0, 21),
  (.aload_n 0, 1, [], [], 0, 0, 0, 22),
  (.aload_n 0, 1, [], [], 0, 0, 0, 23),
  (.invokevirtual 134, 3, [(5, 72), (1, 72)], [[5143, 8116, 16, 5145, 2009], [5143, 8116, 17, 5145, 2009]], 0, 0, 0, 24), mm_nop, mm_nop,
  (.iload_n 1, 1, [], [], 1, 0, 0, 27),
  (.invokevirtual 181, 3, [(5, 60), (1, 17)], [[5232, 5234, 5236, 5237, 2010, 5233], [5232, 5234, 5235, 5206, 2011, 5233]], 2, 0, 0, 28), mm_nop, mm_nop,
  (.invokevirtual 175, 3, [(5, 87), (1, 87)], [[5194, 8120, 24, 5196, 2009], [5194, 8120, 25, 5196, 2009]], 2, 0, 0, 31), mm_nop, mm_nop,
  (.return_, 1, [], [], 0, 0, 0, 34)]
def mm_m77 : mm_M := (yX6_takeHead, cX6_takeHead, 3, none, mm_k77, 1, 0, 0, 6002)
/-- TypeCopier$Machine.takeTail.()V -/
def mm_k78 : List mm_E := [
  (.aload_n 0, 1, [], [], 0, 0, 0, 0),
  (.invokevirtual 131, 3, [(5, 86), (1, 86)], [[5138, 8112, 8114, 5038, 2009], [5138, 8112, 8113, 5038, 2009]], 0, 0, 0, 1), mm_nop, mm_nop,
  (.istore_n 1, 1, [], [], 1, 0, 0, 4),
  (.iload_n 1, 1, [], [], 1, 0, 0, 5),
  (.ifCond .ne 12, 3, [(0, 18)], [], 0, 0, 0, 6), mm_nop, mm_nop,
  (.aload_n 0, 1, [], [], 0, 0, 0, 9),
  (.getfield 35, 3, [(5, 2), (1, 2)], [[2224]], 0, 0, 0, 10), mm_nop, mm_nop,
  (.iconst 1, 1, [], [], 0, 1, 0, 13),
  (.invokevirtual 97, 3, [(8, 119)], [[5078, 5079, 5080, 2008]], 1, 0, 0, 14), mm_nop, mm_nop,
  (.return_, 1, [], [], 0, 0, 0, 17),
  (.aload_n 0, 1, [], [], 0, 0, 0, 18),
  (.aload_n 0, 1, [], [], 0, 0, 0, 19),
  (.iload_n 1, 1, [], [], 1, 0, 0, 20),
  (.invokevirtual 187, 3, [(5, 83), (1, 83)], [[5040, 5042, 5044, 5041, 2009], [5040, 5042, 5043, 5041, 2009]], 1, 0, 0, 21), mm_nop, mm_nop,
  (.invokevirtual 153, 3, [(5, 85), (1, 85)], [[5013, 5015, 5017, 5014, 2009], [5013, 5015, 5016, 5014, 2009]], 1, 0, 0, 24), mm_nop, mm_nop,
  (.return_, 1, [], [], 0, 0, 0, 27)]
def mm_m78 : mm_M := (yX6_takeTail, cX6_takeTail, 2, none, mm_k78, 0, 0, 0, 6006)
/-- TypeCopier$Machine.storeLink.(II)I -/
def mm_k79 : List mm_E := [
  (.aload_n 0, 1, [], [], 0, 0, 0, 0),
  (.getfield 43, 3, [(5, 9), (1, 9)], [[2231]], 0, 0, 0, 1), mm_nop, mm_nop,
  (.istore_n 3, 1, [], [], 3, 0, 0, 4),
  (.aload_n 0, 1, [], [], 0, 0, 0, 5),
  (.dup, 1, [], [], 0, 0, 0, 6),
  (.getfield 43, 3, [(5, 9), (1, 9)], [[2231]], 0, 0, 0, 7), mm_nop, mm_nop,
  (.iconst 1, 1, [], [], 0, 1, 0, 10),
  (.iload_n 1, 1, [], [], 1, 0, 0, 11),
  (.iadd, 1, [], [], 0, 0, 0, 12),
  (.iadd, 1, [], [], 0, 0, 0, 13),
  (.putfield 43, 3, [(5, 9), (1, 9)], [[2231]], 0, 0, 0, 14), mm_nop, mm_nop,
  (.aload_n 0, 1, [], [], 0, 0, 0, 17),
  (.iload_n 3, 1, [], [], 3, 0, 0, 18),
  (.iload_n 2, 1, [], [], 2, 0, 0, 19),
  (.invokevirtual 190, 3, [(5, 84), (1, 84)], [[5019, 8106, 2, 5021, 2009], [5019, 8106, 3, 5021, 2009]], 2, 0, 0, 20), mm_nop, mm_nop,
  (.iconst 0, 1, [], [], 0, 0, 0, 23),
  (.istore 4, 2, [], [], 4, 0, 0, 24), mm_nop,
  (.iload 4, 2, [], [], 4, 0, 0, 26), mm_nop,
  (.iload_n 1, 1, [], [], 1, 0, 0, 28),
  (.if_icmp .ge 32, 3, [(0, 61)], [], 0, 0, 0, 29), mm_nop, mm_nop,
  (.aload_n 0, 1, [], [], 0, 0, 0, 32),
  (.iload_n 3, 1, [], [], 3, 0, 0, 33),
  (.iconst 1, 1, [], [], 0, 1, 0, 34),
  (.iadd, 1, [], [], 0, 0, 0, 35),
  (.iload 4, 2, [], [], 4, 0, 0, 36), mm_nop,
  (.iadd, 1, [], [], 0, 0, 0, 38),
  (.aload_n 0, 1, [], [], 0, 0, 0, 39),
  (.aload_n 0, 1, [], [], 0, 0, 0, 40),
  (.getfield 39, 3, [(5, 8), (1, 8)], [[2230]], 0, 0, 0, 41), mm_nop, mm_nop,
  (.iload_n 1, 1, [], [], 1, 0, 0, 44),
  (.isub, 1, [], [], 0, 0, 0, 45),
  (.iload 4, 2, [], [], 4, 0, 0, 46), mm_nop,
  (.iadd, 1, [], [], 0, 0, 0, 48),
  (.invokevirtual 187, 3, [(5, 83), (1, 83)], [[5040, 5042, 5044, 5041, 2009], [5040, 5042, 5043, 5041, 2009]], 1, 0, 0, 49), mm_nop, mm_nop,
  (.invokevirtual 190, 3, [(5, 84), (1, 84)], [[5019, 8106, 2, 5021, 2009], [5019, 8106, 3, 5021, 2009]], 2, 0, 0, 52), mm_nop, mm_nop,
  (.iinc 4 1, 3, [], [], 4, 1, 0, 55), mm_nop, mm_nop,
  (.goto (-32), 3, [(0, 26)], [], 0, 0, 0, 58), mm_nop, mm_nop,
  (.aload_n 0, 1, [], [], 0, 0, 0, 61),
  (.dup, 1, [], [], 0, 0, 0, 62),
  (.getfield 39, 3, [(5, 8), (1, 8)], [[2230]], 0, 0, 0, 63), mm_nop, mm_nop,
  (.iload_n 1, 1, [], [], 1, 0, 0, 66),
  (.isub, 1, [], [], 0, 0, 0, 67),
  (.putfield 39, 3, [(5, 8), (1, 8)], [[2230]], 0, 0, 0, 68), mm_nop, mm_nop,
  (.iload_n 3, 1, [], [], 3, 0, 0, 71),
  (.ireturn, 1, [], [], 0, 0, 0, 72)]
def mm_m79 : mm_M := (yX6_storeLink, cX6_storeLink, 5, (some .int), mm_k79, 2, 0, 0, 5073)
/-- TypeCopier$Machine.readValue.(J)V -/
def mm_k80 : List mm_E := [
  (.lload_n 1, 1, [], [], 1, 0, 0, 0),
  (.invokestatic 193, 3, [(0, 133)], [[5008, 3164, 2013]], 1, 0, 0, 1), mm_nop, mm_nop,
  (.tableswitch 176 1 5 #[36, 176, 176, 58, 81], 36, [(0, 180), (1, 40), (2, 180), (3, 180), (4, 62), (5, 85)], [], 0, 0, 0, 4), mm_nop, mm_nop, mm_nop, mm_nop, mm_nop, mm_nop, mm_nop, mm_nop, mm_nop, mm_nop, mm_nop, mm_nop, mm_nop, mm_nop, mm_nop, mm_nop, mm_nop, mm_nop, mm_nop, mm_nop, mm_nop, mm_nop, mm_nop, mm_nop, mm_nop, mm_nop, mm_nop, mm_nop, mm_nop, mm_nop, mm_nop, mm_nop, mm_nop, mm_nop, mm_nop,
  (.aload_n 0, 1, [], [], 0, 0, 0, 40),
  (.aload_n 0, 1, [], [], 0, 0, 0, 41),
  (.getfield 31, 3, [(5, 1), (1, 1)], [[2223]], 0, 0, 0, 42), mm_nop, mm_nop,
  (.invokevirtual 197, 3, [(3, 39)], [[5009, 5010, 5011, 2007]], 0, 0, 0, 45), mm_nop, mm_nop,
  (.ifCond .eq 7, 3, [(0, 55)], [], 0, 0, 0, 48), mm_nop, mm_nop,
  (.iconst 1, 1, [], [], 0, 1, 0, 51),
  (.goto 4, 3, [(0, 56)], [], 0, 0, 0, 52), mm_nop, mm_nop,
  (.iconst 0, 1, [], [], 0, 0, 0, 55),
  (.invokevirtual 153, 3, [(5, 85), (1, 85)], [[5013, 5015, 5017, 5014, 2009], [5013, 5015, 5016, 5014, 2009]], 1, 0, 0, 56), mm_nop, mm_nop,
  (.goto 132, 3, [(0, 191)], [], 0, 0, 0, 59), mm_nop, mm_nop,
  (.aload_n 0, 1, [], [], 0, 0, 0, 62),
  (.lload_n 1, 1, [], [], 1, 0, 0, 63),
  (.invokestatic 200, 3, [(0, 134)], [[5023, 3173, 2013]], 1, 0, 0, 64), mm_nop, mm_nop,
  (.invokevirtual 62, 3, [(5, 80), (1, 80)], [[5004, 8105, 0, 5006, 2009], [5004, 8105, 1, 5006, 2009]], 1, 0, 0, 67), mm_nop, mm_nop,
  (.aload_n 0, 1, [], [], 0, 0, 0, 70),
  (.lload_n 1, 1, [], [], 1, 0, 0, 71),
  (.invokestatic 204, 3, [(0, 135)], [[5024, 3184, 2013]], 1, 0, 0, 72), mm_nop, mm_nop,
  (.invokevirtual 62, 3, [(5, 80), (1, 80)], [[5004, 8105, 0, 5006, 2009], [5004, 8105, 1, 5006, 2009]], 1, 0, 0, 75), mm_nop, mm_nop,
  (.aload_n 0, 1, [], [], 0, 0, 0, 78),
  (.invokevirtual 159, 3, [(5, 62), (1, 19)], [[5025, 5027, 5031, 5032, 2010, 5026], [5025, 5027, 5028, 5029, 2011, 5026]], 0, 0, 0, 79), mm_nop, mm_nop,
  (.goto 109, 3, [(0, 191)], [], 0, 0, 0, 82), mm_nop, mm_nop,
  (.iconst 0, 1, [], [], 0, 0, 0, 85),
  (.iconst 4, 1, [], [], 0, 4, 0, 86),
  (.aload_n 0, 1, [], [], 0, 0, 0, 87),
  (.getfield 31, 3, [(5, 1), (1, 1)], [[2223]], 0, 0, 0, 88), mm_nop, mm_nop,
  (.invokevirtual 197, 3, [(3, 39)], [[5009, 5010, 5011, 2007]], 0, 0, 0, 91), mm_nop, mm_nop,
  (.invokestatic 207, 3, [(3, 0)], [[5056, 5057, 2014, 5058]], 2, 0, 0, 94), mm_nop, mm_nop,
  (.invokestatic 212, 3, [(2, 0)], [[5059, 4089, 2014, 4090]], 2, 0, 0, 97), mm_nop, mm_nop,
  (.istore_n 3, 1, [], [], 3, 0, 0, 100),
  (.lload_n 1, 1, [], [], 1, 0, 0, 101),
  (.invokestatic 200, 3, [(0, 134)], [[5023, 3173, 2013]], 1, 0, 0, 102), mm_nop, mm_nop,
  (.lstore 4, 2, [], [], 4, 0, 0, 105), mm_nop,
  (.iconst 0, 1, [], [], 0, 0, 0, 107),
  (.istore 6, 2, [], [], 6, 0, 0, 108), mm_nop,
  (.iconst 0, 1, [], [], 0, 0, 0, 110),
  (.istore 7, 2, [], [], 7, 0, 0, 111), mm_nop,
  (.iconst 0, 1, [], [], 0, 0, 0, 113),
  (.istore 8, 2, [], [], 8, 0, 0, 114), mm_nop,
  (.iload 8, 2, [], [], 8, 0, 0, 116), mm_nop,
  (.iload_n 3, 1, [], [], 3, 0, 0, 118),
  (.if_icmp .ge 52, 3, [(0, 171)], [], 0, 0, 0, 119), mm_nop, mm_nop,
  (.aload_n 0, 1, [], [], 0, 0, 0, 122),
  (.lload 4, 2, [], [], 4, 0, 0, 123), mm_nop,
  (.invokevirtual 62, 3, [(5, 80), (1, 80)], [[5004, 8105, 0, 5006, 2009], [5004, 8105, 1, 5006, 2009]], 1, 0, 0, 125), mm_nop, mm_nop,
  (.aload_n 0, 1, [], [], 0, 0, 0, 128),
  (.aload_n 0, 1, [], [], 0, 0, 0, 129),
  (.lload 4, 2, [], [], 4, 0, 0, 130), mm_nop,
  (.invokevirtual 85, 3, [(5, 61), (1, 18)], [[5060, 5062, 5067, 5068, 2010, 5061], [5060, 5062, 5063, 5064, 2011, 5061]], 1, 0, 0, 132), mm_nop, mm_nop,
  (.iconst 0, 1, [], [], 0, 0, 0, 135),
  (.invokevirtual 184, 3, [(5, 79), (1, 79)], [[5070, 8107, 4, 5072, 2009], [5070, 8107, 5, 5072, 2009]], 2, 0, 0, 136), mm_nop, mm_nop,
  (.istore 9, 2, [], [], 9, 0, 0, 139), mm_nop,
  (.iload 8, 2, [], [], 8, 0, 0, 141), mm_nop,
  (.ifCond .ne 10, 3, [(0, 153)], [], 0, 0, 0, 143), mm_nop, mm_nop,
  (.iload 9, 2, [], [], 9, 0, 0, 146), mm_nop,
  (.istore 6, 2, [], [], 6, 0, 0, 148), mm_nop,
  (.goto 11, 3, [(0, 161)], [], 0, 0, 0, 150), mm_nop, mm_nop,
  (.aload_n 0, 1, [], [], 0, 0, 0, 153),
  (.iload 7, 2, [], [], 7, 0, 0, 154), mm_nop,
  (.iload 9, 2, [], [], 9, 0, 0, 156), mm_nop,
  (.invokevirtual 190, 3, [(5, 84), (1, 84)], [[5019, 8106, 2, 5021, 2009], [5019, 8106, 3, 5021, 2009]], 2, 0, 0, 158), mm_nop, mm_nop,
  (.iload 9, 2, [], [], 9, 0, 0, 161), mm_nop,
  (.istore 7, 2, [], [], 7, 0, 0, 163), mm_nop,
  (.iinc 8 1, 3, [], [], 8, 1, 0, 165), mm_nop, mm_nop,
  (.goto (-52), 3, [(0, 116)], [], 0, 0, 0, 168), mm_nop, mm_nop,
  (.aload_n 0, 1, [], [], 0, 0, 0, 171),
  (.iload 6, 2, [], [], 6, 0, 0, 172), mm_nop,
  (.invokevirtual 153, 3, [(5, 85), (1, 85)], [[5013, 5015, 5017, 5014, 2009], [5013, 5015, 5016, 5014, 2009]], 1, 0, 0, 174), mm_nop, mm_nop,
  (.goto 14, 3, [(0, 191)], [], 0, 0, 0, 177), mm_nop, mm_nop,
  (.aload_n 0, 1, [], [], 0, 0, 0, 180),
  (.aload_n 0, 1, [], [], 0, 0, 0, 181),
  (.getfield 31, 3, [(5, 1), (1, 1)], [[2223]], 0, 0, 0, 182), mm_nop, mm_nop,
  (.invokevirtual 197, 3, [(3, 39)], [[5009, 5010, 5011, 2007]], 0, 0, 0, 185), mm_nop, mm_nop,
  (.invokevirtual 153, 3, [(5, 85), (1, 85)], [[5013, 5015, 5017, 5014, 2009], [5013, 5015, 5016, 5014, 2009]], 1, 0, 0, 188), mm_nop, mm_nop,
  (.return_, 1, [], [], 0, 0, 0, 191)]
def mm_m80 : mm_M := (yX6_readValue, cX6_readValue, 10, none, mm_k80, 1, 0, 0, 5007)
/-- TypeCopier$Machine.tellValue.(JI)V -/
def mm_k81 : List mm_E := [
  (.lload_n 1, 1, [], [], 1, 0, 0, 0),
  (.invokestatic 193, 3, [(0, 133)], [[5008, 3164, 2013]], 1, 0, 0, 1), mm_nop, mm_nop,
  (.lookupswitch 138 #[(4, 28), (5, 61)], 28, [(0, 142), (4, 32), (5, 65)], [], 0, 0, 0, 4), mm_nop, mm_nop, mm_nop, mm_nop, mm_nop, mm_nop, mm_nop, mm_nop, mm_nop, mm_nop, mm_nop, mm_nop, mm_nop, mm_nop, mm_nop, mm_nop, mm_nop, mm_nop, mm_nop, mm_nop, mm_nop, mm_nop, mm_nop, mm_nop, mm_nop, mm_nop, mm_nop,
  (.aload_n 0, 1, [], [], 0, 0, 0, 32),
  (.lload_n 1, 1, [], [], 1, 0, 0, 33),
  (.invokestatic 200, 3, [(0, 134)], [[5023, 3173, 2013]], 1, 0, 0, 34), mm_nop, mm_nop,
  (.aload_n 0, 1, [], [], 0, 0, 0, 37),
  (.lload_n 1, 1, [], [], 1, 0, 0, 38),
  (.iload_n 3, 1, [], [], 3, 0, 0, 39),
  (.iconst 0, 1, [], [], 0, 0, 0, 40),
  (.invokevirtual 215, 3, [(5, 64), (1, 21)], [[6011, 6013, 6018, 6019, 2010, 6012], [6011, 6013, 6014, 6015, 2011, 6012]], 3, 0, 0, 41), mm_nop, mm_nop,
  (.invokevirtual 89, 3, [(5, 81), (1, 81)], [[6007, 8124, 32, 6009, 2009], [6007, 8124, 33, 6009, 2009]], 2, 0, 0, 44), mm_nop, mm_nop,
  (.aload_n 0, 1, [], [], 0, 0, 0, 47),
  (.lload_n 1, 1, [], [], 1, 0, 0, 48),
  (.invokestatic 204, 3, [(0, 135)], [[5024, 3184, 2013]], 1, 0, 0, 49), mm_nop, mm_nop,
  (.aload_n 0, 1, [], [], 0, 0, 0, 52),
  (.lload_n 1, 1, [], [], 1, 0, 0, 53),
  (.iload_n 3, 1, [], [], 3, 0, 0, 54),
  (.iconst 1, 1, [], [], 0, 1, 0, 55),
  (.invokevirtual 215, 3, [(5, 64), (1, 21)], [[6011, 6013, 6018, 6019, 2010, 6012], [6011, 6013, 6014, 6015, 2011, 6012]], 3, 0, 0, 56), mm_nop, mm_nop,
  (.invokevirtual 89, 3, [(5, 81), (1, 81)], [[6007, 8124, 32, 6009, 2009], [6007, 8124, 33, 6009, 2009]], 2, 0, 0, 59), mm_nop, mm_nop,
  (.goto 92, 3, [(0, 154)], [], 0, 0, 0, 62), mm_nop, mm_nop,
  (.aload_n 0, 1, [], [], 0, 0, 0, 65),
  (.iload_n 3, 1, [], [], 3, 0, 0, 66),
  (.invokevirtual 187, 3, [(5, 83), (1, 83)], [[5040, 5042, 5044, 5041, 2009], [5040, 5042, 5043, 5041, 2009]], 1, 0, 0, 67), mm_nop, mm_nop,
  (.istore 4, 2, [], [], 4, 0, 0, 70), mm_nop,
  (.aload_n 0, 1, [], [], 0, 0, 0, 72),
  (.iload 4, 2, [], [], 4, 0, 0, 73), mm_nop,
  (.invokevirtual 219, 3, [(5, 82), (1, 82)], [[6021, 8125, 34, 6023, 2009], [6021, 8125, 35, 6023, 2009]], 1, 0, 0, 75), mm_nop, mm_nop,
  (.istore 5, 2, [], [], 5, 0, 0, 78), mm_nop,
  (.aload_n 0, 1, [], [], 0, 0, 0, 80),
  (.getfield 35, 3, [(5, 2), (1, 2)], [[2224]], 0, 0, 0, 81), mm_nop, mm_nop,
  (.iload 5, 2, [], [], 5, 0, 0, 84), mm_nop,
  (.invokevirtual 222, 3, [(8, 125)], [[6025, 6026, 6027, 2008]], 1, 0, 0, 86), mm_nop, mm_nop,
  (.iload 4, 2, [], [], 4, 0, 0, 89), mm_nop,
  (.istore 6, 2, [], [], 6, 0, 0, 91), mm_nop,
  (.iconst 0, 1, [], [], 0, 0, 0, 93),
  (.istore 7, 2, [], [], 7, 0, 0, 94), mm_nop,
  (.iload 7, 2, [], [], 7, 0, 0, 96), mm_nop,
  (.iload 5, 2, [], [], 5, 0, 0, 98), mm_nop,
  (.if_icmp .ge 39, 3, [(0, 139)], [], 0, 0, 0, 100), mm_nop, mm_nop,
  (.aload_n 0, 1, [], [], 0, 0, 0, 103),
  (.getfield 35, 3, [(5, 2), (1, 2)], [[2224]], 0, 0, 0, 104), mm_nop, mm_nop,
  (.invokevirtual 225, 3, [(8, 124)], [[6029, 6030, 6031, 2008]], 0, 0, 0, 107), mm_nop, mm_nop,
  (.ifCond .ne 29, 3, [(0, 139)], [], 0, 0, 0, 110), mm_nop, mm_nop,
  (.aload_n 0, 1, [], [], 0, 0, 0, 113),
  (.lload_n 1, 1, [], [], 1, 0, 0, 114),
  (.invokestatic 200, 3, [(0, 134)], [[5023, 3173, 2013]], 1, 0, 0, 115), mm_nop, mm_nop,
  (.iload 6, 2, [], [], 6, 0, 0, 118), mm_nop,
  (.iconst 1, 1, [], [], 0, 1, 0, 120),
  (.iadd, 1, [], [], 0, 0, 0, 121),
  (.invokevirtual 89, 3, [(5, 81), (1, 81)], [[6007, 8124, 32, 6009, 2009], [6007, 8124, 33, 6009, 2009]], 2, 0, 0, 122), mm_nop, mm_nop,
  (.aload_n 0, 1, [], [], 0, 0, 0, 125),
  (.iload 6, 2, [], [], 6, 0, 0, 126), mm_nop,
  (.invokevirtual 187, 3, [(5, 83), (1, 83)], [[5040, 5042, 5044, 5041, 2009], [5040, 5042, 5043, 5041, 2009]], 1, 0, 0, 128), mm_nop, mm_nop,
  (.istore 6, 2, [], [], 6, 0, 0, 131), mm_nop,
  (.iinc 7 1, 3, [], [], 7, 1, 0, 133), mm_nop, mm_nop,
  (.goto (-40), 3, [(0, 96)], [], 0, 0, 0, 136), mm_nop, mm_nop,
  (.goto 15, 3, [(0, 154)], [], 0, 0, 0, 139), mm_nop, mm_nop,
  (.aload_n 0, 1, [], [], 0, 0, 0, 142),
  (.getfield 35, 3, [(5, 2), (1, 2)], [[2224]], 0, 0, 0, 143), mm_nop, mm_nop,
  (.aload_n 0, 1, [], [], 0, 0, 0, 146),
  (.iload_n 3, 1, [], [], 3, 0, 0, 147),
  (.invokevirtual 187, 3, [(5, 83), (1, 83)], [[5040, 5042, 5044, 5041, 2009], [5040, 5042, 5043, 5041, 2009]], 1, 0, 0, 148), mm_nop, mm_nop,
  (.invokevirtual 222, 3, [(8, 125)], [[6025, 6026, 6027, 2008]], 1, 0, 0, 151), mm_nop, mm_nop,
  (.return_, 1, [], [], 0, 0, 0, 154)]
def mm_m81 : mm_M := (yX6_tellValue, cX6_tellValue, 8, none, mm_k81, 2, 0, 0, 6010)
/-- TypeCopier$Machine.chainLength.(I)I -/
def mm_k82 : List mm_E := [
  (.iconst 0, 1, [], [], 0, 0, 0, 0),
  (.istore_n 2, 1, [], [], 2, 0, 0, 1),
  (.iload_n 1, 1, [], [], 1, 0, 0, 2),
  (.istore_n 3, 1, [], [], 3, 0, 0, 3),
  (.iload_n 3, 1, [], [], 3, 0, 0, 4),
  (.ifCond .eq 22, 3, [(0, 27)], [], 0, 0, 0, 5), mm_nop, mm_nop,
  (.iload_n 2, 1, [], [], 2, 0, 0, 8),
  (.sipush 1000, 3, [], [], 0, 1000, 0, 9), mm_nop, mm_nop,
  (.if_icmp .ge 15, 3, [(0, 27)], [], 0, 0, 0, 12), mm_nop, mm_nop,
  (.iinc 2 1, 3, [], [], 2, 1, 0, 15), mm_nop, mm_nop,
  (.aload_n 0, 1, [], [], 0, 0, 0, 18),
  (.iload_n 3, 1, [], [], 3, 0, 0, 19),
  (.invokevirtual 187, 3, [(5, 83), (1, 83)], [[5040, 5042, 5044, 5041, 2009], [5040, 5042, 5043, 5041, 2009]], 1, 0, 0, 20), mm_nop, mm_nop,
  (.istore_n 3, 1, [], [], 3, 0, 0, 23),
  (.goto (-20), 3, [(0, 4)], [], 0, 0, 0, 24), mm_nop, mm_nop,
  (.iload_n 2, 1, [], [], 2, 0, 0, 27),
  (.ireturn, 1, [], [], 0, 0, 0, 28)]
def mm_m82 : mm_M := (yX6_chainLength, cX6_chainLength, 4, (some .int), mm_k82, 1, 0, 0, 6024)
/-- TypeCopier$Machine.cell.(I)I -/
def mm_k83 : List mm_E := [
  (.iload_n 1, 1, [], [], 1, 0, 0, 0),
  (.ifCond .lt 19, 3, [(0, 20)], [], 0, 0, 0, 1), mm_nop, mm_nop,
  (.iload_n 1, 1, [], [], 1, 0, 0, 4),
  (.sipush 8192, 3, [], [], 0, 8192, 0, 5), mm_nop, mm_nop,
  (.if_icmp .ge 12, 3, [(0, 20)], [], 0, 0, 0, 8), mm_nop, mm_nop,
  (.aload_n 0, 1, [], [], 0, 0, 0, 11),
  (.getfield 11, 3, [(5, 3), (1, 3)], [[2225]], 0, 0, 0, 12), mm_nop, mm_nop,
  (.iload_n 1, 1, [], [], 1, 0, 0, 15),
  (.iaload, 1, [], [], 0, 0, 0, 16),
  (.goto 4, 3, [(0, 21)], [], 0, 0, 0, 17), mm_nop, mm_nop,
  (.iconst 0, 1, [], [], 0, 0, 0, 20),
  (.ireturn, 1, [], [], 0, 0, 0, 21)]
def mm_m83 : mm_M := (yX6_cell, cX6_cell, 2, (some .int), mm_k83, 1, 0, 0, 5045)
/-- TypeCopier$Machine.setCell.(II)V -/
def mm_k84 : List mm_E := [
  (.iload_n 1, 1, [], [], 1, 0, 0, 0),
  (.ifCond .lt 17, 3, [(0, 18)], [], 0, 0, 0, 1), mm_nop, mm_nop,
  (.iload_n 1, 1, [], [], 1, 0, 0, 4),
  (.sipush 8192, 3, [], [], 0, 8192, 0, 5), mm_nop, mm_nop,
  (.if_icmp .ge 10, 3, [(0, 18)], [], 0, 0, 0, 8), mm_nop, mm_nop,
  (.aload_n 0, 1, [], [], 0, 0, 0, 11),
  (.getfield 11, 3, [(5, 3), (1, 3)], [[2225]], 0, 0, 0, 12), mm_nop, mm_nop,
  (.iload_n 1, 1, [], [], 1, 0, 0, 15),
  (.iload_n 2, 1, [], [], 2, 0, 0, 16),
  (.iastore, 1, [], [], 0, 0, 0, 17),
  (.return_, 1, [], [], 0, 0, 0, 18)]
def mm_m84 : mm_M := (yX6_setCell, cX6_setCell, 3, none, mm_k84, 2, 0, 0, 5022)
/-- TypeCopier$Machine.push.(I)V -/
def mm_k85 : List mm_E := [
  (.aload_n 0, 1, [], [], 0, 0, 0, 0),
  (.aload_n 0, 1, [], [], 0, 0, 0, 1),
  (.getfield 39, 3, [(5, 8), (1, 8)], [[2230]], 0, 0, 0, 2), mm_nop, mm_nop,
  (.iload_n 1, 1, [], [], 1, 0, 0, 5),
  (.invokevirtual 190, 3, [(5, 84), (1, 84)], [[5019, 8106, 2, 5021, 2009], [5019, 8106, 3, 5021, 2009]], 2, 0, 0, 6), mm_nop, mm_nop,
  (.aload_n 0, 1, [], [], 0, 0, 0, 9),
  (.dup, 1, [], [], 0, 0, 0, 10),
  (.getfield 39, 3, [(5, 8), (1, 8)], [[2230]], 0, 0, 0, 11), mm_nop, mm_nop,
  (.iconst 1, 1, [], [], 0, 1, 0, 14),
  (.iadd, 1, [], [], 0, 0, 0, 15),
  (.putfield 39, 3, [(5, 8), (1, 8)], [[2230]], 0, 0, 0, 16), mm_nop, mm_nop,
  (.return_, 1, [], [], 0, 0, 0, 19)]
def mm_m85 : mm_M := (yX6_push, cX6_push, 2, none, mm_k85, 1, 0, 0, 5018)
/-- TypeCopier$Machine.pop.()I -/
def mm_k86 : List mm_E := [
  (.aload_n 0, 1, [], [], 0, 0, 0, 0),
  (.dup, 1, [], [], 0, 0, 0, 1),
  (.getfield 39, 3, [(5, 8), (1, 8)], [[2230]], 0, 0, 0, 2), mm_nop, mm_nop,
  (.iconst 1, 1, [], [], 0, 1, 0, 5),
  (.isub, 1, [], [], 0, 0, 0, 6),
  (.putfield 39, 3, [(5, 8), (1, 8)], [[2230]], 0, 0, 0, 7), mm_nop, mm_nop,
  (.aload_n 0, 1, [], [], 0, 0, 0, 10),
  (.aload_n 0, 1, [], [], 0, 0, 0, 11),
  (.getfield 39, 3, [(5, 8), (1, 8)], [[2230]], 0, 0, 0, 12), mm_nop, mm_nop,
  (.invokevirtual 187, 3, [(5, 83), (1, 83)], [[5040, 5042, 5044, 5041, 2009], [5040, 5042, 5043, 5041, 2009]], 1, 0, 0, 15), mm_nop, mm_nop,
  (.ireturn, 1, [], [], 0, 0, 0, 18)]
def mm_m86 : mm_M := (yX6_pop, cX6_pop, 1, (some .int), mm_k86, 0, 0, 0, 5039)
/-- TypeCopier$Machine.pushFrom.(II)V -/
def mm_k87 : List mm_E := [
  (.iconst 0, 1, [], [], 0, 0, 0, 0),
  (.istore_n 3, 1, [], [], 3, 0, 0, 1),
  (.iload_n 3, 1, [], [], 3, 0, 0, 2),
  (.iload_n 2, 1, [], [], 2, 0, 0, 3),
  (.if_icmp .ge 20, 3, [(0, 24)], [], 0, 0, 0, 4), mm_nop, mm_nop,
  (.aload_n 0, 1, [], [], 0, 0, 0, 7),
  (.aload_n 0, 1, [], [], 0, 0, 0, 8),
  (.iload_n 1, 1, [], [], 1, 0, 0, 9),
  (.iload_n 3, 1, [], [], 3, 0, 0, 10),
  (.iadd, 1, [], [], 0, 0, 0, 11),
  (.invokevirtual 187, 3, [(5, 83), (1, 83)], [[5040, 5042, 5044, 5041, 2009], [5040, 5042, 5043, 5041, 2009]], 1, 0, 0, 12), mm_nop, mm_nop,
  (.invokevirtual 153, 3, [(5, 85), (1, 85)], [[5013, 5015, 5017, 5014, 2009], [5013, 5015, 5016, 5014, 2009]], 1, 0, 0, 15), mm_nop, mm_nop,
  (.iinc 3 1, 3, [], [], 3, 1, 0, 18), mm_nop, mm_nop,
  (.goto (-19), 3, [(0, 2)], [], 0, 0, 0, 21), mm_nop, mm_nop,
  (.return_, 1, [], [], 0, 0, 0, 24)]
def mm_m87 : mm_M := (yX6_pushFrom, cX6_pushFrom, 4, none, mm_k87, 2, 0, 0, 5197)
/-- TypeCopier$Machine.keep.(III)V -/
def mm_k88 : List mm_E := [
  (.aload_n 0, 1, [], [], 0, 0, 0, 0),
  (.getfield 39, 3, [(5, 8), (1, 8)], [[2230]], 0, 0, 0, 1), mm_nop, mm_nop,
  (.iload_n 1, 1, [], [], 1, 0, 0, 4),
  (.isub, 1, [], [], 0, 0, 0, 5),
  (.istore 4, 2, [], [], 4, 0, 0, 6), mm_nop,
  (.iconst 0, 1, [], [], 0, 0, 0, 8),
  (.istore 5, 2, [], [], 5, 0, 0, 9), mm_nop,
  (.iload 5, 2, [], [], 5, 0, 0, 11), mm_nop,
  (.iload_n 3, 1, [], [], 3, 0, 0, 13),
  (.if_icmp .ge 29, 3, [(0, 43)], [], 0, 0, 0, 14), mm_nop, mm_nop,
  (.aload_n 0, 1, [], [], 0, 0, 0, 17),
  (.iload 4, 2, [], [], 4, 0, 0, 18), mm_nop,
  (.iload 5, 2, [], [], 5, 0, 0, 20), mm_nop,
  (.iadd, 1, [], [], 0, 0, 0, 22),
  (.aload_n 0, 1, [], [], 0, 0, 0, 23),
  (.iload 4, 2, [], [], 4, 0, 0, 24), mm_nop,
  (.iload_n 2, 1, [], [], 2, 0, 0, 26),
  (.iadd, 1, [], [], 0, 0, 0, 27),
  (.iload 5, 2, [], [], 5, 0, 0, 28), mm_nop,
  (.iadd, 1, [], [], 0, 0, 0, 30),
  (.invokevirtual 187, 3, [(5, 83), (1, 83)], [[5040, 5042, 5044, 5041, 2009], [5040, 5042, 5043, 5041, 2009]], 1, 0, 0, 31), mm_nop, mm_nop,
  (.invokevirtual 190, 3, [(5, 84), (1, 84)], [[5019, 8106, 2, 5021, 2009], [5019, 8106, 3, 5021, 2009]], 2, 0, 0, 34), mm_nop, mm_nop,
  (.iinc 5 1, 3, [], [], 5, 1, 0, 37), mm_nop, mm_nop,
  (.goto (-29), 3, [(0, 11)], [], 0, 0, 0, 40), mm_nop, mm_nop,
  (.aload_n 0, 1, [], [], 0, 0, 0, 43),
  (.iload 4, 2, [], [], 4, 0, 0, 44), mm_nop,
  (.iload_n 3, 1, [], [], 3, 0, 0, 46),
  (.iadd, 1, [], [], 0, 0, 0, 47),
  (.putfield 39, 3, [(5, 8), (1, 8)], [[2230]], 0, 0, 0, 48), mm_nop, mm_nop,
  (.return_, 1, [], [], 0, 0, 0, 51)]
def mm_m88 : mm_M := (yX6_keep, cX6_keep, 6, none, mm_k88, 3, 0, 0, 5183)
/-- TypeCopier$Machine.storeTwo.(II)I -/
def mm_k89 : List mm_E := [
  (.aload_n 0, 1, [], [], 0, 0, 0, 0),
  (.getfield 43, 3, [(5, 9), (1, 9)], [[2231]], 0, 0, 0, 1), mm_nop, mm_nop,
  (.istore_n 3, 1, [], [], 3, 0, 0, 4),
  (.aload_n 0, 1, [], [], 0, 0, 0, 5),
  (.dup, 1, [], [], 0, 0, 0, 6),
  (.getfield 43, 3, [(5, 9), (1, 9)], [[2231]], 0, 0, 0, 7), mm_nop, mm_nop,
  (.iconst 2, 1, [], [], 0, 2, 0, 10),
  (.iadd, 1, [], [], 0, 0, 0, 11),
  (.putfield 43, 3, [(5, 9), (1, 9)], [[2231]], 0, 0, 0, 12), mm_nop, mm_nop,
  (.aload_n 0, 1, [], [], 0, 0, 0, 15),
  (.iload_n 3, 1, [], [], 3, 0, 0, 16),
  (.iload_n 1, 1, [], [], 1, 0, 0, 17),
  (.invokevirtual 190, 3, [(5, 84), (1, 84)], [[5019, 8106, 2, 5021, 2009], [5019, 8106, 3, 5021, 2009]], 2, 0, 0, 18), mm_nop, mm_nop,
  (.aload_n 0, 1, [], [], 0, 0, 0, 21),
  (.iload_n 3, 1, [], [], 3, 0, 0, 22),
  (.iconst 1, 1, [], [], 0, 1, 0, 23),
  (.iadd, 1, [], [], 0, 0, 0, 24),
  (.iload_n 2, 1, [], [], 2, 0, 0, 25),
  (.invokevirtual 190, 3, [(5, 84), (1, 84)], [[5019, 8106, 2, 5021, 2009], [5019, 8106, 3, 5021, 2009]], 2, 0, 0, 26), mm_nop, mm_nop,
  (.iload_n 3, 1, [], [], 3, 0, 0, 29),
  (.ireturn, 1, [], [], 0, 0, 0, 30)]
def mm_m89 : mm_M := (yX6_storeTwo, cX6_storeTwo, 4, (some .int), mm_k89, 2, 0, 0, 5051)
/-- TypeCopier$Nodes.<init>.()V -/
def mm_k90 : List mm_E := [
  (.aload_n 0, 1, [], [], 0, 0, 0, 0),
  (.invokespecial 3, 3, [], [[2043, 2022, 2023]], 0, 0, 0, 1), mm_nop, mm_nop,
  (.aload_n 0, 1, [], [], 0, 0, 0, 4),
  (.sipush 200, 3, [], [], 0, 200, 0, 5), mm_nop, mm_nop,
  (.newarray .int, 2, [(0, 200)], [[2066]], 0, 0, 0, 8), mm_nop,
  (.putfield 11, 3, [(6, 0)], [[2044]], 1, 0, 0, 10), mm_nop, mm_nop,
  (.aload_n 0, 1, [], [], 0, 0, 0, 13),
  (.sipush 200, 3, [], [], 0, 200, 0, 14), mm_nop, mm_nop,
  (.newarray .int, 2, [(0, 200)], [[2066]], 0, 0, 0, 17), mm_nop,
  (.putfield 15, 3, [(6, 1)], [[2045]], 1, 0, 0, 19), mm_nop, mm_nop,
  (.aload_n 0, 1, [], [], 0, 0, 0, 22),
  (.sipush 800, 3, [], [], 0, 800, 0, 23), mm_nop, mm_nop,
  (.newarray .int, 2, [(0, 800)], [[2066]], 0, 0, 0, 26), mm_nop,
  (.putfield 18, 3, [(6, 2)], [[2046]], 1, 0, 0, 28), mm_nop, mm_nop,
  (.aload_n 0, 1, [], [], 0, 0, 0, 31),
  (.sipush 200, 3, [], [], 0, 200, 0, 32), mm_nop, mm_nop,
  (.newarray .int, 2, [(0, 200)], [[2066]], 0, 0, 0, 35), mm_nop,
  (.putfield 21, 3, [(6, 3)], [[2047]], 1, 0, 0, 37), mm_nop, mm_nop,
  (.aload_n 0, 1, [], [], 0, 0, 0, 40),
  (.sipush 200, 3, [], [], 0, 200, 0, 41), mm_nop, mm_nop,
  (.newarray .int, 2, [(0, 200)], [[2066]], 0, 0, 0, 44), mm_nop,
  (.putfield 24, 3, [(6, 4)], [[2048]], 1, 0, 0, 46), mm_nop, mm_nop,
  (.return_, 1, [], [], 0, 0, 0, 49)]
def mm_m90 : mm_M := (yX7_init, cX7_init, 1, none, mm_k90, 0, 5, 1600, 2042)
end
section
/-! ===== code tables (by program), further ===== -/
/-- TypeCopier$Nodes.size.()I -/
def mm_k91 : List mm_E := [
  (.aload_n 0, 1, [], [], 0, 0, 0, 0),
  (.getfield 27, 3, [(6, 5)], [[2049]], 0, 0, 0, 1), mm_nop, mm_nop,
  (.ireturn, 1, [], [], 0, 0, 0, 4)]
def mm_m91 : mm_M := (yX7_size, cX7_size, 1, (some .int), mm_k91, 0, 0, 0, 4153)
/-- TypeCopier$Nodes.has.(I)Z -/
def mm_k92 : List mm_E := [
  (.iload_n 1, 1, [], [], 1, 0, 0, 0),
  (.ifCond .lt 22, 3, [(0, 23)], [], 0, 0, 0, 1), mm_nop, mm_nop,
  (.iload_n 1, 1, [], [], 1, 0, 0, 4),
  (.aload_n 0, 1, [], [], 0, 0, 0, 5),
  (.getfield 27, 3, [(6, 5)], [[2049]], 0, 0, 0, 6), mm_nop, mm_nop,
  (.if_icmp .ge 14, 3, [(0, 23)], [], 0, 0, 0, 9), mm_nop, mm_nop,
  (.iload_n 1, 1, [], [], 1, 0, 0, 12),
  (.sipush 200, 3, [], [], 0, 200, 0, 13), mm_nop, mm_nop,
  (.if_icmp .ge 7, 3, [(0, 23)], [], 0, 0, 0, 16), mm_nop, mm_nop,
  (.iconst 1, 1, [], [], 0, 1, 0, 19),
  (.goto 4, 3, [(0, 24)], [], 0, 0, 0, 20), mm_nop, mm_nop,
  (.iconst 0, 1, [], [], 0, 0, 0, 23),
  (.ireturn, 1, [], [], 0, 0, 0, 24)]
def mm_m92 : mm_M := (yX7_has, cX7_has, 2, (some .boolean), mm_k92, 1, 0, 0, 3086)
/-- TypeCopier$Nodes.isKind.(I)Z -/
def mm_k93 : List mm_E := [
  (.iload_n 1, 1, [], [], 1, 0, 0, 0),
  (.ifCond .lt 13, 3, [(0, 14)], [], 0, 0, 0, 1), mm_nop, mm_nop,
  (.iload_n 1, 1, [], [], 1, 0, 0, 4),
  (.bipush 14, 2, [], [], 0, 14, 0, 5), mm_nop,
  (.if_icmp .gt 7, 3, [(0, 14)], [], 0, 0, 0, 7), mm_nop, mm_nop,
  (.iconst 1, 1, [], [], 0, 1, 0, 10),
  (.goto 4, 3, [(0, 15)], [], 0, 0, 0, 11), mm_nop, mm_nop,
  (.iconst 0, 1, [], [], 0, 0, 0, 14),
  (.ireturn, 1, [], [], 0, 0, 0, 15)]
def mm_m93 : mm_M := (yX7_isKind, cX7_isKind, 2, (some .boolean), mm_k93, 1, 0, 0, 4075)
/-- TypeCopier$Nodes.kindOf.(I)I -/
def mm_k94 : List mm_E := [
  (.aload_n 0, 1, [], [], 0, 0, 0, 0),
  (.iload_n 1, 1, [], [], 1, 0, 0, 1),
  (.invokevirtual 31, 3, [(6, 92)], [[3108, 3084, 3085, 2003]], 1, 0, 0, 2), mm_nop, mm_nop,
  (.ifCond .eq 12, 3, [(0, 17)], [], 0, 0, 0, 5), mm_nop, mm_nop,
  (.aload_n 0, 1, [], [], 0, 0, 0, 8),
  (.getfield 11, 3, [(6, 0)], [[2044]], 0, 0, 0, 9), mm_nop, mm_nop,
  (.iload_n 1, 1, [], [], 1, 0, 0, 12),
  (.iaload, 1, [], [], 0, 0, 0, 13),
  (.goto 4, 3, [(0, 18)], [], 0, 0, 0, 14), mm_nop, mm_nop,
  (.iconst (-1), 1, [], [], 0, (-1), 0, 17),
  (.ireturn, 1, [], [], 0, 0, 0, 18)]
def mm_m94 : mm_M := (yX7_kindOf, cX7_kindOf, 2, (some .int), mm_k94, 1, 0, 0, 3130)
/-- TypeCopier$Nodes.wantsOf.(I)I -/
def mm_k95 : List mm_E := [
  (.iload_n 1, 1, [], [], 1, 0, 0, 0),
  (.ifCond .lt 19, 3, [(0, 20)], [], 0, 0, 0, 1), mm_nop, mm_nop,
  (.iload_n 1, 1, [], [], 1, 0, 0, 4),
  (.getstatic 35, 3, [(0, 2)], [[6085]], 0, 0, 0, 5), mm_nop, mm_nop,
  (.arraylength, 1, [], [], 0, 0, 0, 8),
  (.if_icmp .ge 11, 3, [(0, 20)], [], 0, 0, 0, 9), mm_nop, mm_nop,
  (.getstatic 35, 3, [(0, 2)], [[6085]], 0, 0, 0, 12), mm_nop, mm_nop,
  (.iload_n 1, 1, [], [], 1, 0, 0, 15),
  (.iaload, 1, [], [], 0, 0, 0, 16),
  (.goto 4, 3, [(0, 21)], [], 0, 0, 0, 17), mm_nop, mm_nop,
  (.iconst 0, 1, [], [], 0, 0, 0, 20),
  (.ireturn, 1, [], [], 0, 0, 0, 21)]
def mm_m95 : mm_M := (yX7_wantsOf, cX7_wantsOf, 2, (some .int), mm_k95, 1, 0, 0, 6084)
/-- TypeCopier$Nodes.partsOf.(I)I -/
def mm_k96 : List mm_E := [
  (.iload_n 1, 1, [], [], 1, 0, 0, 0),
  (.ifCond .lt 19, 3, [(0, 20)], [], 0, 0, 0, 1), mm_nop, mm_nop,
  (.iload_n 1, 1, [], [], 1, 0, 0, 4),
  (.getstatic 38, 3, [(0, 3)], [[3113]], 0, 0, 0, 5), mm_nop, mm_nop,
  (.arraylength, 1, [], [], 0, 0, 0, 8),
  (.if_icmp .ge 11, 3, [(0, 20)], [], 0, 0, 0, 9), mm_nop, mm_nop,
  (.getstatic 38, 3, [(0, 3)], [[3113]], 0, 0, 0, 12), mm_nop, mm_nop,
  (.iload_n 1, 1, [], [], 1, 0, 0, 15),
  (.iaload, 1, [], [], 0, 0, 0, 16),
  (.goto 4, 3, [(0, 21)], [], 0, 0, 0, 17), mm_nop, mm_nop,
  (.iconst 0, 1, [], [], 0, 0, 0, 20),
  (.ireturn, 1, [], [], 0, 0, 0, 21)]
def mm_m96 : mm_M := (yX7_partsOf, cX7_partsOf, 2, (some .int), mm_k96, 1, 0, 0, 3112)
/-- TypeCopier$Nodes.wantedAt.(II)I -/
def mm_k97 : List mm_E := [
  (.aload_n 0, 1, [], [], 0, 0, 0, 0),
  (.iload_n 1, 1, [], [], 1, 0, 0, 1),
  (.invokevirtual 31, 3, [(6, 92)], [[3108, 3084, 3085, 2003]], 1, 0, 0, 2), mm_nop, mm_nop,
  (.ifCond .eq 25, 3, [(0, 30)], [], 0, 0, 0, 5), mm_nop, mm_nop,
  (.iload_n 2, 1, [], [], 2, 0, 0, 8),
  (.ifCond .lt 21, 3, [(0, 30)], [], 0, 0, 0, 9), mm_nop, mm_nop,
  (.iload_n 2, 1, [], [], 2, 0, 0, 12),
  (.iconst 4, 1, [], [], 0, 4, 0, 13),
  (.if_icmp .ge 16, 3, [(0, 30)], [], 0, 0, 0, 14), mm_nop, mm_nop,
  (.aload_n 0, 1, [], [], 0, 0, 0, 17),
  (.getfield 18, 3, [(6, 2)], [[2046]], 0, 0, 0, 18), mm_nop, mm_nop,
  (.iload_n 1, 1, [], [], 1, 0, 0, 21),
  (.iconst 4, 1, [], [], 0, 4, 0, 22),
  (.imul, 1, [], [], 0, 0, 0, 23),
  (.iload_n 2, 1, [], [], 2, 0, 0, 24),
  (.iadd, 1, [], [], 0, 0, 0, 25),
  (.iaload, 1, [], [], 0, 0, 0, 26),
  (.goto 4, 3, [(0, 31)], [], 0, 0, 0, 27), mm_nop, mm_nop,
  (.iconst (-1), 1, [], [], 0, (-1), 0, 30),
  (.ireturn, 1, [], [], 0, 0, 0, 31)]
def mm_m97 : mm_M := (yX7_wantedAt, cX7_wantedAt, 3, (some .int), mm_k97, 2, 0, 0, 3138)
/-- TypeCopier$Nodes.partOf.(II)I -/
def mm_k98 : List mm_E := [
  (.aload_n 0, 1, [], [], 0, 0, 0, 0),
  (.iload_n 1, 1, [], [], 1, 0, 0, 1),
  (.invokevirtual 31, 3, [(6, 92)], [[3108, 3084, 3085, 2003]], 1, 0, 0, 2), mm_nop, mm_nop,
  (.ifCond .eq 12, 3, [(0, 17)], [], 0, 0, 0, 5), mm_nop, mm_nop,
  (.iload_n 2, 1, [], [], 2, 0, 0, 8),
  (.ifCond .lt 8, 3, [(0, 17)], [], 0, 0, 0, 9), mm_nop, mm_nop,
  (.iload_n 2, 1, [], [], 2, 0, 0, 12),
  (.iconst 4, 1, [], [], 0, 4, 0, 13),
  (.if_icmp .lt 5, 3, [(0, 19)], [], 0, 0, 0, 14), mm_nop, mm_nop,
  (.iconst (-1), 1, [], [], 0, (-1), 0, 17),
  (.ireturn, 1, [], [], 0, 0, 0, 18),
  (.aload_n 0, 1, [], [], 0, 0, 0, 19),
  (.getfield 11, 3, [(6, 0)], [[2044]], 0, 0, 0, 20), mm_nop, mm_nop,
  (.iload_n 1, 1, [], [], 1, 0, 0, 23),
  (.iaload, 1, [], [], 0, 0, 0, 24),
  (.istore_n 3, 1, [], [], 3, 0, 0, 25),
  (.iload_n 3, 1, [], [], 3, 0, 0, 26),
  (.ifCond .lt 20, 3, [(0, 47)], [], 0, 0, 0, 27), mm_nop, mm_nop,
  (.iload_n 3, 1, [], [], 3, 0, 0, 30),
  (.getstatic 38, 3, [(0, 3)], [[3113]], 0, 0, 0, 31), mm_nop, mm_nop,
  (.arraylength, 1, [], [], 0, 0, 0, 34),
  (.if_icmp .ge 12, 3, [(0, 47)], [], 0, 0, 0, 35), mm_nop, mm_nop,
  (.iload_n 2, 1, [], [], 2, 0, 0, 38),
  (.getstatic 38, 3, [(0, 3)], [[3113]], 0, 0, 0, 39), mm_nop, mm_nop,
  (.iload_n 3, 1, [], [], 3, 0, 0, 42),
  (.iaload, 1, [], [], 0, 0, 0, 43),
  (.if_icmp .lt 5, 3, [(0, 49)], [], 0, 0, 0, 44), mm_nop, mm_nop,
  (.iconst (-1), 1, [], [], 0, (-1), 0, 47),
  (.ireturn, 1, [], [], 0, 0, 0, 48),
  (.aload_n 0, 1, [], [], 0, 0, 0, 49),
  (.getfield 18, 3, [(6, 2)], [[2046]], 0, 0, 0, 50), mm_nop, mm_nop,
  (.iload_n 1, 1, [], [], 1, 0, 0, 53),
  (.iconst 4, 1, [], [], 0, 4, 0, 54),
  (.imul, 1, [], [], 0, 0, 0, 55),
  (.iload_n 3, 1, [], [], 3, 0, 0, 56),
  (.bipush 14, 2, [], [], 0, 14, 0, 57), mm_nop,
  (.if_icmp .ne 7, 3, [(0, 66)], [], 0, 0, 0, 59), mm_nop, mm_nop,
  (.iconst 1, 1, [], [], 0, 1, 0, 62),
  (.goto 4, 3, [(0, 67)], [], 0, 0, 0, 63), mm_nop, mm_nop,
  (.iload_n 2, 1, [], [], 2, 0, 0, 66),
  (.iadd, 1, [], [], 0, 0, 0, 67),
  (.iaload, 1, [], [], 0, 0, 0, 68),
  (.ireturn, 1, [], [], 0, 0, 0, 69)]
def mm_m98 : mm_M := (yX7_partOf, cX7_partOf, 4, (some .int), mm_k98, 2, 0, 0, 3118)
/-- TypeCopier$Nodes.partsStand.(IIII)Z -/
def mm_k99 : List mm_E := [
  (.aload_n 0, 1, [], [], 0, 0, 0, 0),
  (.iload_n 1, 1, [], [], 1, 0, 0, 1),
  (.invokevirtual 41, 3, [(6, 96)], [[3109, 3110, 3111, 2003]], 1, 0, 0, 2), mm_nop, mm_nop,
  (.istore 5, 2, [], [], 5, 0, 0, 5), mm_nop,
  (.iload 5, 2, [], [], 5, 0, 0, 7), mm_nop,
  (.iconst 1, 1, [], [], 0, 1, 0, 9),
  (.if_icmp .lt 11, 3, [(0, 21)], [], 0, 0, 0, 10), mm_nop, mm_nop,
  (.aload_n 0, 1, [], [], 0, 0, 0, 13),
  (.iload_n 2, 1, [], [], 2, 0, 0, 14),
  (.invokevirtual 31, 3, [(6, 92)], [[3108, 3084, 3085, 2003]], 1, 0, 0, 15), mm_nop, mm_nop,
  (.ifCond .eq 36, 3, [(0, 54)], [], 0, 0, 0, 18), mm_nop, mm_nop,
  (.iload 5, 2, [], [], 5, 0, 0, 21), mm_nop,
  (.iconst 2, 1, [], [], 0, 2, 0, 23),
  (.if_icmp .lt 11, 3, [(0, 35)], [], 0, 0, 0, 24), mm_nop, mm_nop,
  (.aload_n 0, 1, [], [], 0, 0, 0, 27),
  (.iload_n 3, 1, [], [], 3, 0, 0, 28),
  (.invokevirtual 31, 3, [(6, 92)], [[3108, 3084, 3085, 2003]], 1, 0, 0, 29), mm_nop, mm_nop,
  (.ifCond .eq 22, 3, [(0, 54)], [], 0, 0, 0, 32), mm_nop, mm_nop,
  (.iload 5, 2, [], [], 5, 0, 0, 35), mm_nop,
  (.iconst 3, 1, [], [], 0, 3, 0, 37),
  (.if_icmp .lt 12, 3, [(0, 50)], [], 0, 0, 0, 38), mm_nop, mm_nop,
  (.aload_n 0, 1, [], [], 0, 0, 0, 41),
  (.iload 4, 2, [], [], 4, 0, 0, 42), mm_nop,
  (.invokevirtual 31, 3, [(6, 92)], [[3108, 3084, 3085, 2003]], 1, 0, 0, 44), mm_nop, mm_nop,
  (.ifCond .eq 7, 3, [(0, 54)], [], 0, 0, 0, 47), mm_nop, mm_nop,
  (.iconst 1, 1, [], [], 0, 1, 0, 50),
  (.goto 4, 3, [(0, 55)], [], 0, 0, 0, 51), mm_nop, mm_nop,
  (.iconst 0, 1, [], [], 0, 0, 0, 54),
  (.ireturn, 1, [], [], 0, 0, 0, 55)]
def mm_m99 : mm_M := (yX7_partsStand, cX7_partsStand, 6, (some .boolean), mm_k99, 4, 0, 0, 4079)
/-- TypeCopier$Nodes.depthOver.(IIII)I -/
def mm_k100 : List mm_E := [
  (.iload_n 1, 1, [], [], 1, 0, 0, 0),
  (.bipush 14, 2, [], [], 0, 14, 0, 1), mm_nop,
  (.if_icmp .ne 11, 3, [(0, 14)], [], 0, 0, 0, 3), mm_nop, mm_nop,
  (.iconst 1, 1, [], [], 0, 1, 0, 6),
  (.aload_n 0, 1, [], [], 0, 0, 0, 7),
  (.iload_n 3, 1, [], [], 3, 0, 0, 8),
  (.invokevirtual 45, 3, [(6, 101)], [[4084, 4086, 1012, 2003]], 1, 0, 0, 9), mm_nop, mm_nop,
  (.iadd, 1, [], [], 0, 0, 0, 12),
  (.ireturn, 1, [], [], 0, 0, 0, 13),
  (.aload_n 0, 1, [], [], 0, 0, 0, 14),
  (.iload_n 1, 1, [], [], 1, 0, 0, 15),
  (.invokevirtual 41, 3, [(6, 96)], [[3109, 3110, 3111, 2003]], 1, 0, 0, 16), mm_nop, mm_nop,
  (.istore 5, 2, [], [], 5, 0, 0, 19), mm_nop,
  (.iconst 0, 1, [], [], 0, 0, 0, 21),
  (.istore 6, 2, [], [], 6, 0, 0, 22), mm_nop,
  (.iload 5, 2, [], [], 5, 0, 0, 24), mm_nop,
  (.ifCond .le 10, 3, [(0, 36)], [], 0, 0, 0, 26), mm_nop, mm_nop,
  (.aload_n 0, 1, [], [], 0, 0, 0, 29),
  (.iload_n 2, 1, [], [], 2, 0, 0, 30),
  (.invokevirtual 45, 3, [(6, 101)], [[4084, 4086, 1012, 2003]], 1, 0, 0, 31), mm_nop, mm_nop,
  (.istore 6, 2, [], [], 6, 0, 0, 34), mm_nop,
  (.iload 5, 2, [], [], 5, 0, 0, 36), mm_nop,
  (.iconst 1, 1, [], [], 0, 1, 0, 38),
  (.if_icmp .le 15, 3, [(0, 54)], [], 0, 0, 0, 39), mm_nop, mm_nop,
  (.iload 6, 2, [], [], 6, 0, 0, 42), mm_nop,
  (.aload_n 0, 1, [], [], 0, 0, 0, 44),
  (.iload_n 3, 1, [], [], 3, 0, 0, 45),
  (.invokevirtual 45, 3, [(6, 101)], [[4084, 4086, 1012, 2003]], 1, 0, 0, 46), mm_nop, mm_nop,
  (.invokestatic 48, 3, [(2, 0)], [[4088, 4089, 2014, 4090]], 2, 0, 0, 49), mm_nop, mm_nop,
  (.istore 6, 2, [], [], 6, 0, 0, 52), mm_nop,
  (.iload 5, 2, [], [], 5, 0, 0, 54), mm_nop,
  (.iconst 2, 1, [], [], 0, 2, 0, 56),
  (.if_icmp .le 16, 3, [(0, 73)], [], 0, 0, 0, 57), mm_nop, mm_nop,
  (.iload 6, 2, [], [], 6, 0, 0, 60), mm_nop,
  (.aload_n 0, 1, [], [], 0, 0, 0, 62),
  (.iload 4, 2, [], [], 4, 0, 0, 63), mm_nop,
  (.invokevirtual 45, 3, [(6, 101)], [[4084, 4086, 1012, 2003]], 1, 0, 0, 65), mm_nop, mm_nop,
  (.invokestatic 48, 3, [(2, 0)], [[4088, 4089, 2014, 4090]], 2, 0, 0, 68), mm_nop, mm_nop,
  (.istore 6, 2, [], [], 6, 0, 0, 71), mm_nop,
  (.iconst 1, 1, [], [], 0, 1, 0, 73),
  (.iload 6, 2, [], [], 6, 0, 0, 74), mm_nop,
  (.iadd, 1, [], [], 0, 0, 0, 76),
  (.ireturn, 1, [], [], 0, 0, 0, 77)]
def mm_m100 : mm_M := (yX7_depthOver, cX7_depthOver, 7, (some .int), mm_k100, 4, 0, 0, 4083)
/-- TypeCopier$Nodes.depthOf.(I)I -/
def mm_k101 : List mm_E := [
  (.aload_n 0, 1, [], [], 0, 0, 0, 0),
  (.iload_n 1, 1, [], [], 1, 0, 0, 1),
  (.invokevirtual 31, 3, [(6, 92)], [[3108, 3084, 3085, 2003]], 1, 0, 0, 2), mm_nop, mm_nop,
  (.ifCond .eq 12, 3, [(0, 17)], [], 0, 0, 0, 5), mm_nop, mm_nop,
  (.aload_n 0, 1, [], [], 0, 0, 0, 8),
  (.getfield 15, 3, [(6, 1)], [[2045]], 0, 0, 0, 9), mm_nop, mm_nop,
  (.iload_n 1, 1, [], [], 1, 0, 0, 12),
  (.iaload, 1, [], [], 0, 0, 0, 13),
  (.goto 4, 3, [(0, 18)], [], 0, 0, 0, 14), mm_nop, mm_nop,
  (.iconst 0, 1, [], [], 0, 0, 0, 17),
  (.ireturn, 1, [], [], 0, 0, 0, 18)]
def mm_m101 : mm_M := (yX7_depthOf, cX7_depthOf, 2, (some .int), mm_k101, 1, 0, 0, 4087)
/-- TypeCopier$Nodes.add.(IIIII)I -/
def mm_k102 : List mm_E := [
  (.aload_n 0, 1, [], [], 0, 0, 0, 0),
  (.getfield 27, 3, [(6, 5)], [[2049]], 0, 0, 0, 1), mm_nop, mm_nop,
  (.sipush 200, 3, [], [], 0, 200, 0, 4), mm_nop, mm_nop,
  (.if_icmp .lt 6, 3, [(0, 13)], [], 0, 0, 0, 7), mm_nop, mm_nop,
  (.bipush (-4), 2, [], [], 0, (-4), 0, 10), mm_nop,
  (.ireturn, 1, [], [], 0, 0, 0, 12),
  (.aload_n 0, 1, [], [], 0, 0, 0, 13),
  (.getfield 27, 3, [(6, 5)], [[2049]], 0, 0, 0, 14), mm_nop, mm_nop,
  (.iconst 4, 1, [], [], 0, 4, 0, 17),
  (.imul, 1, [], [], 0, 0, 0, 18),
  (.istore 6, 2, [], [], 6, 0, 0, 19), mm_nop,
  (.iload 6, 2, [], [], 6, 0, 0, 21), mm_nop,
  (.iconst 3, 1, [], [], 0, 3, 0, 23),
  (.iadd, 1, [], [], 0, 0, 0, 24),
  (.aload_n 0, 1, [], [], 0, 0, 0, 25),
  (.getfield 18, 3, [(6, 2)], [[2046]], 0, 0, 0, 26), mm_nop, mm_nop,
  (.arraylength, 1, [], [], 0, 0, 0, 29),
  (.if_icmp .lt 6, 3, [(0, 36)], [], 0, 0, 0, 30), mm_nop, mm_nop,
  (.bipush (-4), 2, [], [], 0, (-4), 0, 33), mm_nop,
  (.ireturn, 1, [], [], 0, 0, 0, 35),
  (.aload_n 0, 1, [], [], 0, 0, 0, 36),
  (.getfield 11, 3, [(6, 0)], [[2044]], 0, 0, 0, 37), mm_nop, mm_nop,
  (.aload_n 0, 1, [], [], 0, 0, 0, 40),
  (.getfield 27, 3, [(6, 5)], [[2049]], 0, 0, 0, 41), mm_nop, mm_nop,
  (.iload_n 1, 1, [], [], 1, 0, 0, 44),
  (.iastore, 1, [], [], 0, 0, 0, 45),
  (.aload_n 0, 1, [], [], 0, 0, 0, 46),
  (.getfield 15, 3, [(6, 1)], [[2045]], 0, 0, 0, 47), mm_nop, mm_nop,
  (.aload_n 0, 1, [], [], 0, 0, 0, 50),
  (.getfield 27, 3, [(6, 5)], [[2049]], 0, 0, 0, 51), mm_nop, mm_nop,
  (.aload_n 0, 1, [], [], 0, 0, 0, 54),
  (.iload_n 1, 1, [], [], 1, 0, 0, 55),
  (.iload_n 2, 1, [], [], 2, 0, 0, 56),
  (.iload_n 3, 1, [], [], 3, 0, 0, 57),
  (.iload 4, 2, [], [], 4, 0, 0, 58), mm_nop,
  (.invokevirtual 54, 3, [(6, 100)], [[4095, 4081, 4082, 2003]], 4, 0, 0, 60), mm_nop, mm_nop,
  (.iastore, 1, [], [], 0, 0, 0, 63),
  (.aload_n 0, 1, [], [], 0, 0, 0, 64),
  (.getfield 18, 3, [(6, 2)], [[2046]], 0, 0, 0, 65), mm_nop, mm_nop,
  (.iload 6, 2, [], [], 6, 0, 0, 68), mm_nop,
  (.iload_n 2, 1, [], [], 2, 0, 0, 70),
  (.iastore, 1, [], [], 0, 0, 0, 71),
  (.aload_n 0, 1, [], [], 0, 0, 0, 72),
  (.getfield 18, 3, [(6, 2)], [[2046]], 0, 0, 0, 73), mm_nop, mm_nop,
  (.iload 6, 2, [], [], 6, 0, 0, 76), mm_nop,
  (.iconst 1, 1, [], [], 0, 1, 0, 78),
  (.iadd, 1, [], [], 0, 0, 0, 79),
  (.iload_n 3, 1, [], [], 3, 0, 0, 80),
  (.iastore, 1, [], [], 0, 0, 0, 81),
  (.aload_n 0, 1, [], [], 0, 0, 0, 82),
  (.getfield 18, 3, [(6, 2)], [[2046]], 0, 0, 0, 83), mm_nop, mm_nop,
  (.iload 6, 2, [], [], 6, 0, 0, 86), mm_nop,
  (.iconst 2, 1, [], [], 0, 2, 0, 88),
  (.iadd, 1, [], [], 0, 0, 0, 89),
  (.iload 4, 2, [], [], 4, 0, 0, 90), mm_nop,
  (.iastore, 1, [], [], 0, 0, 0, 92),
  (.aload_n 0, 1, [], [], 0, 0, 0, 93),
  (.getfield 18, 3, [(6, 2)], [[2046]], 0, 0, 0, 94), mm_nop, mm_nop,
  (.iload 6, 2, [], [], 6, 0, 0, 97), mm_nop,
  (.iconst 3, 1, [], [], 0, 3, 0, 99),
  (.iadd, 1, [], [], 0, 0, 0, 100),
  (.iload 5, 2, [], [], 5, 0, 0, 101), mm_nop,
  (.iastore, 1, [], [], 0, 0, 0, 103),
  (.aload_n 0, 1, [], [], 0, 0, 0, 104),
  (.dup, 1, [], [], 0, 0, 0, 105),
  (.getfield 27, 3, [(6, 5)], [[2049]], 0, 0, 0, 106), mm_nop, mm_nop,
  (.dup_x1, 1, [], [], 0, 0, 0, 109),
  (.iconst 1, 1, [], [], 0, 1, 0, 110),
  (.iadd, 1, [], [], 0, 0, 0, 111),
  (.putfield 27, 3, [(6, 5)], [[2049]], 0, 0, 0, 112), mm_nop, mm_nop,
  (.ireturn, 1, [], [], 0, 0, 0, 115)]
def mm_m102 : mm_M := (yX7_add, cX7_add, 7, (some .int), mm_k102, 5, 0, 0, 4094)
/-- TypeCopier$Nodes.meetUnder.(I)V -/
def mm_k103 : List mm_E := [
  (.aload_n 0, 1, [], [], 0, 0, 0, 0),
  (.getfield 21, 3, [(6, 3)], [[2047]], 0, 0, 0, 1), mm_nop, mm_nop,
  (.iconst 0, 1, [], [], 0, 0, 0, 4),
  (.invokestatic 58, 3, [(0, 236)], [[3101, 3102, 2012]], 2, 0, 0, 5), mm_nop, mm_nop,
  (.aload_n 0, 1, [], [], 0, 0, 0, 8),
  (.iconst 0, 1, [], [], 0, 0, 0, 9),
  (.putfield 64, 3, [(6, 6)], [[2050]], 0, 0, 0, 10), mm_nop, mm_nop,
  (.aload_n 0, 1, [], [], 0, 0, 0, 13),
  (.iload_n 1, 1, [], [], 1, 0, 0, 14),
  (.iconst 1, 1, [], [], 0, 1, 0, 15),
  (.invokevirtual 67, 3, [(6, 104)], [[3104, 3106, 1004, 2003]], 2, 0, 0, 16), mm_nop, mm_nop,
  (.return_, 1, [], [], 0, 0, 0, 19)]
def mm_m103 : mm_M := (yX7_meetUnder, cX7_meetUnder, 2, none, mm_k103, 1, 0, 0, 3100)
/-- TypeCopier$Nodes.meet.(II)V -/
def mm_k104 : List mm_E := [
  (.aload_n 0, 1, [], [], 0, 0, 0, 0),
  (.iload_n 1, 1, [], [], 1, 0, 0, 1),
  (.invokevirtual 31, 3, [(6, 92)], [[3108, 3084, 3085, 2003]], 1, 0, 0, 2), mm_nop, mm_nop,
  (.ifCond .eq 18, 3, [(0, 23)], [], 0, 0, 0, 5), mm_nop, mm_nop,
  (.iload_n 2, 1, [], [], 2, 0, 0, 8),
  (.bipush 12, 2, [], [], 0, 12, 0, 9), mm_nop,
  (.if_icmp .gt 12, 3, [(0, 23)], [], 0, 0, 0, 11), mm_nop, mm_nop,
  (.aload_n 0, 1, [], [], 0, 0, 0, 14),
  (.getfield 21, 3, [(6, 3)], [[2047]], 0, 0, 0, 15), mm_nop, mm_nop,
  (.iload_n 1, 1, [], [], 1, 0, 0, 18),
  (.iaload, 1, [], [], 0, 0, 0, 19),
  (.ifCond .eq 4, 3, [(0, 24)], [], 0, 0, 0, 20), mm_nop, mm_nop,
  (.return_, 1, [], [], 0, 0, 0, 23),
  (.aload_n 0, 1, [], [], 0, 0, 0, 24),
  (.getfield 21, 3, [(6, 3)], [[2047]], 0, 0, 0, 25), mm_nop, mm_nop,
  (.iload_n 1, 1, [], [], 1, 0, 0, 28),
  (.iconst 1, 1, [], [], 0, 1, 0, 29),
  (.iastore, 1, [], [], 0, 0, 0, 30),
  (.aload_n 0, 1, [], [], 0, 0, 0, 31),
  (.aload_n 0, 1, [], [], 0, 0, 0, 32),
  (.getfield 11, 3, [(6, 0)], [[2044]], 0, 0, 0, 33), mm_nop, mm_nop,
  (.iload_n 1, 1, [], [], 1, 0, 0, 36),
  (.iaload, 1, [], [], 0, 0, 0, 37),
  (.invokevirtual 41, 3, [(6, 96)], [[3109, 3110, 3111, 2003]], 1, 0, 0, 38), mm_nop, mm_nop,
  (.istore_n 3, 1, [], [], 3, 0, 0, 41),
  (.iconst 0, 1, [], [], 0, 0, 0, 42),
  (.istore 4, 2, [], [], 4, 0, 0, 43), mm_nop,
  (.iload 4, 2, [], [], 4, 0, 0, 45), mm_nop,
  (.iload_n 3, 1, [], [], 3, 0, 0, 47),
  (.if_icmp .ge 23, 3, [(0, 71)], [], 0, 0, 0, 48), mm_nop, mm_nop,
  (.aload_n 0, 1, [], [], 0, 0, 0, 51),
  (.aload_n 0, 1, [], [], 0, 0, 0, 52),
  (.iload_n 1, 1, [], [], 1, 0, 0, 53),
  (.iload 4, 2, [], [], 4, 0, 0, 54), mm_nop,
  (.invokevirtual 71, 3, [(6, 98)], [[3115, 3116, 3117, 2003]], 2, 0, 0, 56), mm_nop, mm_nop,
  (.iload_n 2, 1, [], [], 2, 0, 0, 59),
  (.iconst 1, 1, [], [], 0, 1, 0, 60),
  (.iadd, 1, [], [], 0, 0, 0, 61),
  (.invokevirtual 67, 3, [(6, 104)], [[3104, 3106, 1004, 2003]], 2, 0, 0, 62), mm_nop, mm_nop,
  (.iinc 4 1, 3, [], [], 4, 1, 0, 65), mm_nop, mm_nop,
  (.goto (-23), 3, [(0, 45)], [], 0, 0, 0, 68), mm_nop, mm_nop,
  (.aload_n 0, 1, [], [], 0, 0, 0, 71),
  (.getfield 64, 3, [(6, 6)], [[2050]], 0, 0, 0, 72), mm_nop, mm_nop,
  (.sipush 200, 3, [], [], 0, 200, 0, 75), mm_nop, mm_nop,
  (.if_icmp .ge 20, 3, [(0, 98)], [], 0, 0, 0, 78), mm_nop, mm_nop,
  (.aload_n 0, 1, [], [], 0, 0, 0, 81),
  (.getfield 24, 3, [(6, 4)], [[2048]], 0, 0, 0, 82), mm_nop, mm_nop,
  (.aload_n 0, 1, [], [], 0, 0, 0, 85),
  (.dup, 1, [], [], 0, 0, 0, 86),
  (.getfield 64, 3, [(6, 6)], [[2050]], 0, 0, 0, 87), mm_nop, mm_nop,
  (.dup_x1, 1, [], [], 0, 0, 0, 90),
  (.iconst 1, 1, [], [], 0, 1, 0, 91),
  (.iadd, 1, [], [], 0, 0, 0, 92),
  (.putfield 64, 3, [(6, 6)], [[2050]], 0, 0, 0, 93), mm_nop, mm_nop,
  (.iload_n 1, 1, [], [], 1, 0, 0, 96),
  (.iastore, 1, [], [], 0, 0, 0, 97),
  (.return_, 1, [], [], 0, 0, 0, 98)]
def mm_m104 : mm_M := (yX7_meet, cX7_meet, 5, none, mm_k104, 2, 0, 0, 3107)
/-- TypeCopier$Nodes.usesUnder.(I)I -/
def mm_k105 : List mm_E := [
  (.aload_n 0, 1, [], [], 0, 0, 0, 0),
  (.iload_n 1, 1, [], [], 1, 0, 0, 1),
  (.invokevirtual 74, 3, [(6, 103)], [[4163, 3098, 3099, 2003]], 1, 0, 0, 2), mm_nop, mm_nop,
  (.iconst 0, 1, [], [], 0, 0, 0, 5),
  (.istore_n 2, 1, [], [], 2, 0, 0, 6),
  (.iconst 0, 1, [], [], 0, 0, 0, 7),
  (.istore_n 3, 1, [], [], 3, 0, 0, 8),
  (.iload_n 3, 1, [], [], 3, 0, 0, 9),
  (.aload_n 0, 1, [], [], 0, 0, 0, 10),
  (.getfield 64, 3, [(6, 6)], [[2050]], 0, 0, 0, 11), mm_nop, mm_nop,
  (.if_icmp .ge 39, 3, [(0, 53)], [], 0, 0, 0, 14), mm_nop, mm_nop,
  (.aload_n 0, 1, [], [], 0, 0, 0, 17),
  (.iload_n 3, 1, [], [], 3, 0, 0, 18),
  (.invokevirtual 78, 3, [(6, 107)], [[4164, 3124, 3125, 2003]], 1, 0, 0, 19), mm_nop, mm_nop,
  (.istore 4, 2, [], [], 4, 0, 0, 22), mm_nop,
  (.aload_n 0, 1, [], [], 0, 0, 0, 24),
  (.iload 4, 2, [], [], 4, 0, 0, 25), mm_nop,
  (.invokevirtual 81, 3, [(6, 94)], [[4165, 3128, 3129, 2003]], 1, 0, 0, 27), mm_nop, mm_nop,
  (.bipush 14, 2, [], [], 0, 14, 0, 30), mm_nop,
  (.if_icmp .ne 15, 3, [(0, 47)], [], 0, 0, 0, 32), mm_nop, mm_nop,
  (.iload_n 2, 1, [], [], 2, 0, 0, 35),
  (.iconst 1, 1, [], [], 0, 1, 0, 36),
  (.aload_n 0, 1, [], [], 0, 0, 0, 37),
  (.iload 4, 2, [], [], 4, 0, 0, 38), mm_nop,
  (.iconst 0, 1, [], [], 0, 0, 0, 40),
  (.invokevirtual 84, 3, [(6, 97)], [[4166, 3136, 3137, 2003]], 2, 0, 0, 41), mm_nop, mm_nop,
  (.ishl, 1, [], [], 0, 0, 0, 44),
  (.ior, 1, [], [], 0, 0, 0, 45),
  (.istore_n 2, 1, [], [], 2, 0, 0, 46),
  (.iinc 3 1, 3, [], [], 3, 1, 0, 47), mm_nop, mm_nop,
  (.goto (-41), 3, [(0, 9)], [], 0, 0, 0, 50), mm_nop, mm_nop,
  (.iload_n 2, 1, [], [], 2, 0, 0, 53),
  (.ireturn, 1, [], [], 0, 0, 0, 54)]
def mm_m105 : mm_M := (yX7_usesUnder, cX7_usesUnder, 5, (some .int), mm_k105, 1, 0, 0, 4162)
/-- TypeCopier$Nodes.metSize.()I -/
def mm_k106 : List mm_E := [
  (.aload_n 0, 1, [], [], 0, 0, 0, 0),
  (.getfield 64, 3, [(6, 6)], [[2050]], 0, 0, 0, 1), mm_nop, mm_nop,
  (.ireturn, 1, [], [], 0, 0, 0, 4)]
def mm_m106 : mm_M := (yX7_metSize, cX7_metSize, 1, (some .int), mm_k106, 0, 0, 0, 3122)
/-- TypeCopier$Nodes.metAt.(I)I -/
def mm_k107 : List mm_E := [
  (.iload_n 1, 1, [], [], 1, 0, 0, 0),
  (.ifCond .lt 27, 3, [(0, 28)], [], 0, 0, 0, 1), mm_nop, mm_nop,
  (.iload_n 1, 1, [], [], 1, 0, 0, 4),
  (.aload_n 0, 1, [], [], 0, 0, 0, 5),
  (.getfield 64, 3, [(6, 6)], [[2050]], 0, 0, 0, 6), mm_nop, mm_nop,
  (.if_icmp .ge 19, 3, [(0, 28)], [], 0, 0, 0, 9), mm_nop, mm_nop,
  (.iload_n 1, 1, [], [], 1, 0, 0, 12),
  (.sipush 200, 3, [], [], 0, 200, 0, 13), mm_nop, mm_nop,
  (.if_icmp .ge 12, 3, [(0, 28)], [], 0, 0, 0, 16), mm_nop, mm_nop,
  (.aload_n 0, 1, [], [], 0, 0, 0, 19),
  (.getfield 24, 3, [(6, 4)], [[2048]], 0, 0, 0, 20), mm_nop, mm_nop,
  (.iload_n 1, 1, [], [], 1, 0, 0, 23),
  (.iaload, 1, [], [], 0, 0, 0, 24),
  (.goto 4, 3, [(0, 29)], [], 0, 0, 0, 25), mm_nop, mm_nop,
  (.iconst (-1), 1, [], [], 0, (-1), 0, 28),
  (.ireturn, 1, [], [], 0, 0, 0, 29)]
def mm_m107 : mm_M := (yX7_metAt, cX7_metAt, 2, (some .int), mm_k107, 1, 0, 0, 3126)
/-- TypeCopier$Nodes.digestFrom.(J)J -/
def mm_k108 : List mm_E := [
  (.lload_n 1, 1, [], [], 1, 0, 0, 0),
  (.lstore_n 3, 1, [], [], 3, 0, 0, 1),
  (.iconst 0, 1, [], [], 0, 0, 0, 2),
  (.istore 5, 2, [], [], 5, 0, 0, 3), mm_nop,
  (.iload 5, 2, [], [], 5, 0, 0, 5), mm_nop,
  (.aload_n 0, 1, [], [], 0, 0, 0, 7),
  (.getfield 27, 3, [(6, 5)], [[2049]], 0, 0, 0, 8), mm_nop, mm_nop,
  (.if_icmp .ge 67, 3, [(0, 78)], [], 0, 0, 0, 11), mm_nop, mm_nop,
  (.aload_n 0, 1, [], [], 0, 0, 0, 14),
  (.iload 5, 2, [], [], 5, 0, 0, 15), mm_nop,
  (.invokevirtual 81, 3, [(6, 94)], [[4165, 3128, 3129, 2003]], 1, 0, 0, 17), mm_nop, mm_nop,
  (.istore 6, 2, [], [], 6, 0, 0, 20), mm_nop,
  (.ldc2_w 87, 3, [], [[6080]], 0, 0, 31, 22), mm_nop, mm_nop,
  (.lload_n 3, 1, [], [], 3, 0, 0, 25),
  (.lmul, 1, [], [], 0, 0, 0, 26),
  (.iload 6, 2, [], [], 6, 0, 0, 27), mm_nop,
  (.i2l, 1, [], [], 0, 0, 0, 29),
  (.ladd, 1, [], [], 0, 0, 0, 30),
  (.lstore_n 3, 1, [], [], 3, 0, 0, 31),
  (.aload_n 0, 1, [], [], 0, 0, 0, 32),
  (.iload 6, 2, [], [], 6, 0, 0, 33), mm_nop,
  (.invokevirtual 89, 3, [(6, 95)], [[6081, 6082, 6083, 2003]], 1, 0, 0, 35), mm_nop, mm_nop,
  (.istore 7, 2, [], [], 7, 0, 0, 38), mm_nop,
  (.iconst 0, 1, [], [], 0, 0, 0, 40),
  (.istore 8, 2, [], [], 8, 0, 0, 41), mm_nop,
  (.iload 8, 2, [], [], 8, 0, 0, 43), mm_nop,
  (.iload 7, 2, [], [], 7, 0, 0, 45), mm_nop,
  (.if_icmp .ge 25, 3, [(0, 72)], [], 0, 0, 0, 47), mm_nop, mm_nop,
  (.ldc2_w 87, 3, [], [[6080]], 0, 0, 31, 50), mm_nop, mm_nop,
  (.lload_n 3, 1, [], [], 3, 0, 0, 53),
  (.lmul, 1, [], [], 0, 0, 0, 54),
  (.aload_n 0, 1, [], [], 0, 0, 0, 55),
  (.iload 5, 2, [], [], 5, 0, 0, 56), mm_nop,
  (.iload 8, 2, [], [], 8, 0, 0, 58), mm_nop,
  (.invokevirtual 84, 3, [(6, 97)], [[4166, 3136, 3137, 2003]], 2, 0, 0, 60), mm_nop, mm_nop,
  (.i2l, 1, [], [], 0, 0, 0, 63),
  (.ladd, 1, [], [], 0, 0, 0, 64),
  (.lstore_n 3, 1, [], [], 3, 0, 0, 65),
  (.iinc 8 1, 3, [], [], 8, 1, 0, 66), mm_nop, mm_nop,
  (.goto (-26), 3, [(0, 43)], [], 0, 0, 0, 69), mm_nop, mm_nop,
  (.iinc 5 1, 3, [], [], 5, 1, 0, 72), mm_nop, mm_nop,
  (.goto (-70), 3, [(0, 5)], [], 0, 0, 0, 75), mm_nop, mm_nop,
  (.lload_n 3, 1, [], [], 3, 0, 0, 78),
  (.lreturn, 1, [], [], 0, 0, 0, 79)]
def mm_m108 : mm_M := (yX7_digestFrom, cX7_digestFrom, 9, (some .long), mm_k108, 1, 0, 0, 6079)
/-- TypeCopier$Numbered.<init>.()V -/
def mm_k109 : List mm_E := [
  (.aload_n 0, 1, [], [], 0, 0, 0, 0),
  (.invokespecial 3, 3, [], [[2029, 2022, 2023]], 0, 0, 0, 1), mm_nop, mm_nop,
  (.aload_n 0, 1, [], [], 0, 0, 0, 4),
  (.sipush 200, 3, [], [], 0, 200, 0, 5), mm_nop, mm_nop,
  (.newarray .long, 2, [(1, 200)], [[2037]], 0, 0, 0, 8), mm_nop,
  (.putfield 11, 3, [(7, 0)], [[2030]], 1, 0, 0, 10), mm_nop, mm_nop,
  (.iconst 0, 1, [], [], 0, 0, 0, 13),
  (.istore_n 1, 1, [], [], 1, 0, 0, 14),
  (.iload_n 1, 1, [], [], 1, 0, 0, 15),
  (.iconst 4, 1, [], [], 0, 4, 0, 16),
  (.if_icmp .ge 17, 3, [(0, 34)], [], 0, 0, 0, 17), mm_nop, mm_nop,
  (.aload_n 0, 1, [], [], 0, 0, 0, 20),
  (.getfield 11, 3, [(7, 0)], [[2030]], 0, 0, 0, 21), mm_nop, mm_nop,
  (.iload_n 1, 1, [], [], 1, 0, 0, 24),
  (.iload_n 1, 1, [], [], 1, 0, 0, 25),
  (.i2l, 1, [], [], 0, 0, 0, 26),
  (.lastore, 1, [], [], 0, 0, 0, 27),
  (.iinc 1 1, 3, [], [], 1, 1, 0, 28), mm_nop, mm_nop,
  (.goto (-16), 3, [(0, 15)], [], 0, 0, 0, 31), mm_nop, mm_nop,
  (.aload_n 0, 1, [], [], 0, 0, 0, 34),
  (.iconst 4, 1, [], [], 0, 4, 0, 35),
  (.putfield 15, 3, [(7, 1)], [[2031]], 0, 0, 0, 36), mm_nop, mm_nop,
  (.return_, 1, [], [], 0, 0, 0, 39)]
def mm_m109 : mm_M := (yX8_init, cX8_init, 2, none, mm_k109, 0, 1, 200, 2028)
/-- TypeCopier$Numbered.size.()I -/
def mm_k110 : List mm_E := [
  (.aload_n 0, 1, [], [], 0, 0, 0, 0),
  (.getfield 15, 3, [(7, 1)], [[2031]], 0, 0, 0, 1), mm_nop, mm_nop,
  (.ireturn, 1, [], [], 0, 0, 0, 4)]
def mm_m110 : mm_M := (yX8_size, cX8_size, 1, (some .int), mm_k110, 0, 0, 0, 6064)
/-- TypeCopier$Numbered.has.(I)Z -/
def mm_k111 : List mm_E := [
  (.iload_n 1, 1, [], [], 1, 0, 0, 0),
  (.ifCond .lt 22, 3, [(0, 23)], [], 0, 0, 0, 1), mm_nop, mm_nop,
  (.iload_n 1, 1, [], [], 1, 0, 0, 4),
  (.aload_n 0, 1, [], [], 0, 0, 0, 5),
  (.getfield 15, 3, [(7, 1)], [[2031]], 0, 0, 0, 6), mm_nop, mm_nop,
  (.if_icmp .ge 14, 3, [(0, 23)], [], 0, 0, 0, 9), mm_nop, mm_nop,
  (.iload_n 1, 1, [], [], 1, 0, 0, 12),
  (.sipush 200, 3, [], [], 0, 200, 0, 13), mm_nop, mm_nop,
  (.if_icmp .ge 7, 3, [(0, 23)], [], 0, 0, 0, 16), mm_nop, mm_nop,
  (.iconst 1, 1, [], [], 0, 1, 0, 19),
  (.goto 4, 3, [(0, 24)], [], 0, 0, 0, 20), mm_nop, mm_nop,
  (.iconst 0, 1, [], [], 0, 0, 0, 23),
  (.ireturn, 1, [], [], 0, 0, 0, 24)]
def mm_m111 : mm_M := (yX8_has, cX8_has, 2, (some .boolean), mm_k111, 1, 0, 0, 3224)
/-- TypeCopier$Numbered.shapeOf.(I)J -/
def mm_k112 : List mm_E := [
  (.aload_n 0, 1, [], [], 0, 0, 0, 0),
  (.iload_n 1, 1, [], [], 1, 0, 0, 1),
  (.invokevirtual 19, 3, [(7, 111)], [[3221, 3222, 3223, 2002]], 1, 0, 0, 2), mm_nop, mm_nop,
  (.ifCond .eq 12, 3, [(0, 17)], [], 0, 0, 0, 5), mm_nop, mm_nop,
  (.aload_n 0, 1, [], [], 0, 0, 0, 8),
  (.getfield 11, 3, [(7, 0)], [[2030]], 0, 0, 0, 9), mm_nop, mm_nop,
  (.iload_n 1, 1, [], [], 1, 0, 0, 12),
  (.laload, 1, [], [], 0, 0, 0, 13),
  (.goto 6, 3, [(0, 20)], [], 0, 0, 0, 14), mm_nop, mm_nop,
  (.ldc2_w 25, 3, [], [[3225]], 0, 0, (-1), 17), mm_nop, mm_nop,
  (.lreturn, 1, [], [], 0, 0, 0, 20)]
def mm_m112 : mm_M := (yX8_shapeOf, cX8_shapeOf, 2, (some .long), mm_k112, 1, 0, 0, 3220)
/-- TypeCopier$Numbered.tell.(J)I -/
def mm_k113 : List mm_E := [
  (.lload_n 1, 1, [], [], 1, 0, 0, 0),
  (.lconst 0, 1, [], [], 0, 0, 0, 1),
  (.lcmp, 1, [], [], 0, 0, 0, 2),
  (.ifCond .ge 5, 3, [(0, 8)], [], 0, 0, 0, 3), mm_nop, mm_nop,
  (.iconst (-1), 1, [], [], 0, (-1), 0, 6),
  (.ireturn, 1, [], [], 0, 0, 0, 7),
  (.iconst 0, 1, [], [], 0, 0, 0, 8),
  (.istore_n 3, 1, [], [], 3, 0, 0, 9),
  (.iload_n 3, 1, [], [], 3, 0, 0, 10),
  (.aload_n 0, 1, [], [], 0, 0, 0, 11),
  (.getfield 15, 3, [(7, 1)], [[2031]], 0, 0, 0, 12), mm_nop, mm_nop,
  (.if_icmp .ge 29, 3, [(0, 44)], [], 0, 0, 0, 15), mm_nop, mm_nop,
  (.iload_n 3, 1, [], [], 3, 0, 0, 18),
  (.sipush 200, 3, [], [], 0, 200, 0, 19), mm_nop, mm_nop,
  (.if_icmp .ge 22, 3, [(0, 44)], [], 0, 0, 0, 22), mm_nop, mm_nop,
  (.aload_n 0, 1, [], [], 0, 0, 0, 25),
  (.getfield 11, 3, [(7, 0)], [[2030]], 0, 0, 0, 26), mm_nop, mm_nop,
  (.iload_n 3, 1, [], [], 3, 0, 0, 29),
  (.laload, 1, [], [], 0, 0, 0, 30),
  (.lload_n 1, 1, [], [], 1, 0, 0, 31),
  (.lcmp, 1, [], [], 0, 0, 0, 32),
  (.ifCond .ne 5, 3, [(0, 38)], [], 0, 0, 0, 33), mm_nop, mm_nop,
  (.iload_n 3, 1, [], [], 3, 0, 0, 36),
  (.ireturn, 1, [], [], 0, 0, 0, 37),
  (.iinc 3 1, 3, [], [], 3, 1, 0, 38), mm_nop, mm_nop,
  (.goto (-31), 3, [(0, 10)], [], 0, 0, 0, 41), mm_nop, mm_nop,
  (.bipush (-5), 2, [], [], 0, (-5), 0, 44), mm_nop,
  (.ireturn, 1, [], [], 0, 0, 0, 46)]
def mm_m113 : mm_M := (yX8_tell, cX8_tell, 4, (some .int), mm_k113, 1, 0, 0, 4038)
/-- TypeCopier$Numbered.take.(J)I -/
def mm_k114 : List mm_E := [
  (.lload_n 1, 1, [], [], 1, 0, 0, 0),
  (.lconst 0, 1, [], [], 0, 0, 0, 1),
  (.lcmp, 1, [], [], 0, 0, 0, 2),
  (.ifCond .ge 6, 3, [(0, 9)], [], 0, 0, 0, 3), mm_nop, mm_nop,
  (.bipush (-3), 2, [], [], 0, (-3), 0, 6), mm_nop,
  (.ireturn, 1, [], [], 0, 0, 0, 8),
  (.aload_n 0, 1, [], [], 0, 0, 0, 9),
  (.lload_n 1, 1, [], [], 1, 0, 0, 10),
  (.invokevirtual 27, 3, [(7, 113)], [[4035, 4036, 4037, 2002]], 1, 0, 0, 11), mm_nop, mm_nop,
  (.istore_n 3, 1, [], [], 3, 0, 0, 14),
  (.iload_n 3, 1, [], [], 3, 0, 0, 15),
  (.bipush (-5), 2, [], [], 0, (-5), 0, 16), mm_nop,
  (.if_icmp .eq 5, 3, [(0, 23)], [], 0, 0, 0, 18), mm_nop, mm_nop,
  (.iload_n 3, 1, [], [], 3, 0, 0, 21),
  (.ireturn, 1, [], [], 0, 0, 0, 22),
  (.aload_n 0, 1, [], [], 0, 0, 0, 23),
  (.getfield 15, 3, [(7, 1)], [[2031]], 0, 0, 0, 24), mm_nop, mm_nop,
  (.sipush 200, 3, [], [], 0, 200, 0, 27), mm_nop, mm_nop,
  (.if_icmp .lt 6, 3, [(0, 36)], [], 0, 0, 0, 30), mm_nop, mm_nop,
  (.bipush (-4), 2, [], [], 0, (-4), 0, 33), mm_nop,
  (.ireturn, 1, [], [], 0, 0, 0, 35),
  (.aload_n 0, 1, [], [], 0, 0, 0, 36),
  (.getfield 11, 3, [(7, 0)], [[2030]], 0, 0, 0, 37), mm_nop, mm_nop,
  (.aload_n 0, 1, [], [], 0, 0, 0, 40),
  (.getfield 15, 3, [(7, 1)], [[2031]], 0, 0, 0, 41), mm_nop, mm_nop,
  (.lload_n 1, 1, [], [], 1, 0, 0, 44),
  (.lastore, 1, [], [], 0, 0, 0, 45),
  (.aload_n 0, 1, [], [], 0, 0, 0, 46),
  (.dup, 1, [], [], 0, 0, 0, 47),
  (.getfield 15, 3, [(7, 1)], [[2031]], 0, 0, 0, 48), mm_nop, mm_nop,
  (.dup_x1, 1, [], [], 0, 0, 0, 51),
  (.iconst 1, 1, [], [], 0, 1, 0, 52),
  (.iadd, 1, [], [], 0, 0, 0, 53),
  (.putfield 15, 3, [(7, 1)], [[2031]], 0, 0, 0, 54), mm_nop, mm_nop,
  (.ireturn, 1, [], [], 0, 0, 0, 57)]
def mm_m114 : mm_M := (yX8_take, cX8_take, 4, (some .int), mm_k114, 1, 0, 0, 4034)
/-- TypeCopier$Numbered.factOf.(II)I -/
def mm_k115 : List mm_E := [
  (.aload_n 0, 1, [], [], 0, 0, 0, 0),
  (.iload_n 1, 1, [], [], 1, 0, 0, 1),
  (.invokevirtual 31, 3, [(7, 112)], [[4052, 3218, 3219, 2002]], 1, 0, 0, 2), mm_nop, mm_nop,
  (.lstore_n 3, 1, [], [], 3, 0, 0, 5),
  (.iload_n 2, 1, [], [], 2, 0, 0, 6),
  (.tableswitch 75 0 5 #[37, 42, 51, 60, 65, 70], 37, [(0, 82), (0, 44), (1, 49), (2, 58), (3, 67), (4, 72), (5, 77)], [], 0, 0, 0, 7), mm_nop, mm_nop, mm_nop, mm_nop, mm_nop, mm_nop, mm_nop, mm_nop, mm_nop, mm_nop, mm_nop, mm_nop, mm_nop, mm_nop, mm_nop, mm_nop, mm_nop, mm_nop, mm_nop, mm_nop, mm_nop, mm_nop, mm_nop, mm_nop, mm_nop, mm_nop, mm_nop, mm_nop, mm_nop, mm_nop, mm_nop, mm_nop, mm_nop, mm_nop, mm_nop, mm_nop,
  (.lload_n 3, 1, [], [], 3, 0, 0, 44),
  (.invokestatic 35, 3, [(0, 133)], [[4053, 3164, 2013]], 1, 0, 0, 45), mm_nop, mm_nop,
  (.ireturn, 1, [], [], 0, 0, 0, 48),
  (.aload_n 0, 1, [], [], 0, 0, 0, 49),
  (.lload_n 3, 1, [], [], 3, 0, 0, 50),
  (.invokestatic 38, 3, [(0, 134)], [[4054, 3173, 2013]], 1, 0, 0, 51), mm_nop, mm_nop,
  (.invokevirtual 27, 3, [(7, 113)], [[4035, 4036, 4037, 2002]], 1, 0, 0, 54), mm_nop, mm_nop,
  (.ireturn, 1, [], [], 0, 0, 0, 57),
  (.aload_n 0, 1, [], [], 0, 0, 0, 58),
  (.lload_n 3, 1, [], [], 3, 0, 0, 59),
  (.invokestatic 42, 3, [(0, 135)], [[4055, 3184, 2013]], 1, 0, 0, 60), mm_nop, mm_nop,
  (.invokevirtual 27, 3, [(7, 113)], [[4035, 4036, 4037, 2002]], 1, 0, 0, 63), mm_nop, mm_nop,
  (.ireturn, 1, [], [], 0, 0, 0, 66),
  (.lload_n 3, 1, [], [], 3, 0, 0, 67),
  (.invokestatic 45, 3, [(0, 128)], [[4056, 3197, 2013]], 1, 0, 0, 68), mm_nop, mm_nop,
  (.ireturn, 1, [], [], 0, 0, 0, 71),
  (.lload_n 3, 1, [], [], 3, 0, 0, 72),
  (.invokestatic 48, 3, [(0, 138)], [[4057, 3194, 2013]], 1, 0, 0, 73), mm_nop, mm_nop,
  (.ireturn, 1, [], [], 0, 0, 0, 76),
  (.lload_n 3, 1, [], [], 3, 0, 0, 77),
  (.invokestatic 51, 3, [(1, 137)], [[4058, 3200, 2013]], 1, 0, 0, 78), mm_nop, mm_nop,
  (.ireturn, 1, [], [], 0, 0, 0, 81),
  (.bipush (-2), 2, [], [], 0, (-2), 0, 82), mm_nop,
  (.ireturn, 1, [], [], 0, 0, 0, 84)]
def mm_m115 : mm_M := (yX8_factOf, cX8_factOf, 5, (some .int), mm_k115, 2, 0, 0, 4051)
/-- TypeCopier$Report.<init>.()V -/
def mm_k116 : List mm_E := [
  (.aload_n 0, 1, [], [], 0, 0, 0, 0),
  (.invokespecial 3, 3, [], [[2188, 2022, 2023]], 0, 0, 0, 1), mm_nop, mm_nop,
  (.aload_n 0, 1, [], [], 0, 0, 0, 4),
  (.bipush 100, 2, [], [], 0, 100, 0, 5), mm_nop,
  (.newarray .int, 2, [(0, 100)], [[2066]], 0, 0, 0, 7), mm_nop,
  (.putfield 11, 3, [(8, 0)], [[2189]], 1, 0, 0, 9), mm_nop, mm_nop,
  (.aload_n 0, 1, [], [], 0, 0, 0, 12),
  (.iconst (-1), 1, [], [], 0, (-1), 0, 13),
  (.putfield 15, 3, [(8, 5)], [[2194]], 0, 0, 0, 14), mm_nop, mm_nop,
  (.return_, 1, [], [], 0, 0, 0, 17)]
def mm_m116 : mm_M := (yX9_init, cX9_init, 1, none, mm_k116, 0, 1, 100, 2187)
/-- TypeCopier$Report.begin.()V -/
def mm_k117 : List mm_E := [
  (.aload_n 0, 1, [], [], 0, 0, 0, 0),
  (.iconst 0, 1, [], [], 0, 0, 0, 1),
  (.putfield 19, 3, [(8, 1)], [[2190]], 0, 0, 0, 2), mm_nop, mm_nop,
  (.aload_n 0, 1, [], [], 0, 0, 0, 5),
  (.iconst 0, 1, [], [], 0, 0, 0, 6),
  (.putfield 22, 3, [(8, 2)], [[2191]], 0, 0, 0, 7), mm_nop, mm_nop,
  (.aload_n 0, 1, [], [], 0, 0, 0, 10),
  (.iconst 0, 1, [], [], 0, 0, 0, 11),
  (.putfield 25, 3, [(8, 3)], [[2192]], 0, 0, 0, 12), mm_nop, mm_nop,
  (.aload_n 0, 1, [], [], 0, 0, 0, 15),
  (.iconst 0, 1, [], [], 0, 0, 0, 16),
  (.putfield 28, 3, [(8, 4)], [[2193]], 0, 0, 0, 17), mm_nop, mm_nop,
  (.aload_n 0, 1, [], [], 0, 0, 0, 20),
  (.iconst 0, 1, [], [], 0, 0, 0, 21),
  (.putfield 15, 3, [(8, 5)], [[2194]], 0, 0, 0, 22), mm_nop, mm_nop,
  (.return_, 1, [], [], 0, 0, 0, 25)]
def mm_m117 : mm_M := (yX9_begin, cX9_begin, 1, none, mm_k117, 0, 0, 0, 4239)
/-- TypeCopier$Report.goesOn.()Z -/
def mm_k118 : List mm_E := [
  (.aload_n 0, 1, [], [], 0, 0, 0, 0),
  (.getfield 15, 3, [(8, 5)], [[2194]], 0, 0, 0, 1), mm_nop, mm_nop,
  (.ifCond .ne 7, 3, [(0, 11)], [], 0, 0, 0, 4), mm_nop, mm_nop,
  (.iconst 1, 1, [], [], 0, 1, 0, 7),
  (.goto 4, 3, [(0, 12)], [], 0, 0, 0, 8), mm_nop, mm_nop,
  (.iconst 0, 1, [], [], 0, 0, 0, 11),
  (.ireturn, 1, [], [], 0, 0, 0, 12)]
def mm_m118 : mm_M := (yX9_goesOn, cX9_goesOn, 1, (some .boolean), mm_k118, 0, 0, 0, 5127)
/-- TypeCopier$Report.end.(I)V -/
def mm_k119 : List mm_E := [
  (.aload_n 0, 1, [], [], 0, 0, 0, 0),
  (.iload_n 1, 1, [], [], 1, 0, 0, 1),
  (.putfield 15, 3, [(8, 5)], [[2194]], 0, 0, 0, 2), mm_nop, mm_nop,
  (.return_, 1, [], [], 0, 0, 0, 5)]
def mm_m119 : mm_M := (yX9_end, cX9_end, 2, none, mm_k119, 1, 0, 0, 5081)
/-- TypeCopier$Report.outcome.()I -/
def mm_k120 : List mm_E := [
  (.aload_n 0, 1, [], [], 0, 0, 0, 0),
  (.getfield 15, 3, [(8, 5)], [[2194]], 0, 0, 0, 1), mm_nop, mm_nop,
  (.ireturn, 1, [], [], 0, 0, 0, 4)]
def mm_m120 : mm_M := (yX9_outcome, cX9_outcome, 1, (some .int), mm_k120, 0, 0, 0, 6036)
/-- TypeCopier$Report.countStep.()I -/
def mm_k121 : List mm_E := [
  (.aload_n 0, 1, [], [], 0, 0, 0, 0),
  (.dup, 1, [], [], 0, 0, 0, 1),
  (.getfield 22, 3, [(8, 2)], [[2191]], 0, 0, 0, 2), mm_nop, mm_nop,
  (.iconst 1, 1, [], [], 0, 1, 0, 5),
  (.iadd, 1, [], [], 0, 0, 0, 6),
  (.putfield 22, 3, [(8, 2)], [[2191]], 0, 0, 0, 7), mm_nop, mm_nop,
  (.aload_n 0, 1, [], [], 0, 0, 0, 10),
  (.getfield 22, 3, [(8, 2)], [[2191]], 0, 0, 0, 11), mm_nop, mm_nop,
  (.ireturn, 1, [], [], 0, 0, 0, 14)]
def mm_m121 : mm_M := (yX9_countStep, cX9_countStep, 1, (some .int), mm_k121, 0, 0, 0, 5122)
/-- TypeCopier$Report.countLink.()I -/
def mm_k122 : List mm_E := [
  (.aload_n 0, 1, [], [], 0, 0, 0, 0),
  (.dup, 1, [], [], 0, 0, 0, 1),
  (.getfield 25, 3, [(8, 3)], [[2192]], 0, 0, 0, 2), mm_nop, mm_nop,
  (.iconst 1, 1, [], [], 0, 1, 0, 5),
  (.iadd, 1, [], [], 0, 0, 0, 6),
  (.putfield 25, 3, [(8, 3)], [[2192]], 0, 0, 0, 7), mm_nop, mm_nop,
  (.aload_n 0, 1, [], [], 0, 0, 0, 10),
  (.getfield 25, 3, [(8, 3)], [[2192]], 0, 0, 0, 11), mm_nop, mm_nop,
  (.ireturn, 1, [], [], 0, 0, 0, 14)]
def mm_m122 : mm_M := (yX9_countLink, cX9_countLink, 1, (some .int), mm_k122, 0, 0, 0, 5231)
/-- TypeCopier$Report.noteOpen.(I)V -/
def mm_k123 : List mm_E := [
  (.aload_n 0, 1, [], [], 0, 0, 0, 0),
  (.aload_n 0, 1, [], [], 0, 0, 0, 1),
  (.getfield 28, 3, [(8, 4)], [[2193]], 0, 0, 0, 2), mm_nop, mm_nop,
  (.iload_n 1, 1, [], [], 1, 0, 0, 5),
  (.invokestatic 31, 3, [(2, 0)], [[5099, 4089, 2014, 4090]], 2, 0, 0, 6), mm_nop, mm_nop,
  (.putfield 28, 3, [(8, 4)], [[2193]], 0, 0, 0, 9), mm_nop, mm_nop,
  (.return_, 1, [], [], 0, 0, 0, 12)]
def mm_m123 : mm_M := (yX9_noteOpen, cX9_noteOpen, 2, none, mm_k123, 1, 0, 0, 5098)
/-- TypeCopier$Report.isFull.()Z -/
def mm_k124 : List mm_E := [
  (.aload_n 0, 1, [], [], 0, 0, 0, 0),
  (.getfield 19, 3, [(8, 1)], [[2190]], 0, 0, 0, 1), mm_nop, mm_nop,
  (.bipush 100, 2, [], [], 0, 100, 0, 4), mm_nop,
  (.if_icmp .lt 7, 3, [(0, 13)], [], 0, 0, 0, 6), mm_nop, mm_nop,
  (.iconst 1, 1, [], [], 0, 1, 0, 9),
  (.goto 4, 3, [(0, 14)], [], 0, 0, 0, 10), mm_nop, mm_nop,
  (.iconst 0, 1, [], [], 0, 0, 0, 13),
  (.ireturn, 1, [], [], 0, 0, 0, 14)]
def mm_m124 : mm_M := (yX9_isFull, cX9_isFull, 1, (some .boolean), mm_k124, 0, 0, 0, 6032)
/-- TypeCopier$Report.add.(I)V -/
def mm_k125 : List mm_E := [
  (.aload_n 0, 1, [], [], 0, 0, 0, 0),
  (.getfield 19, 3, [(8, 1)], [[2190]], 0, 0, 0, 1), mm_nop, mm_nop,
  (.ifCond .lt 29, 3, [(0, 33)], [], 0, 0, 0, 4), mm_nop, mm_nop,
  (.aload_n 0, 1, [], [], 0, 0, 0, 7),
  (.getfield 19, 3, [(8, 1)], [[2190]], 0, 0, 0, 8), mm_nop, mm_nop,
  (.bipush 100, 2, [], [], 0, 100, 0, 11), mm_nop,
  (.if_icmp .ge 20, 3, [(0, 33)], [], 0, 0, 0, 13), mm_nop, mm_nop,
  (.aload_n 0, 1, [], [], 0, 0, 0, 16),
  (.getfield 11, 3, [(8, 0)], [[2189]], 0, 0, 0, 17), mm_nop, mm_nop,
  (.aload_n 0, 1, [], [], 0, 0, 0, 20),
  (.dup, 1, [], [], 0, 0, 0, 21),
  (.getfield 19, 3, [(8, 1)], [[2190]], 0, 0, 0, 22), mm_nop, mm_nop,
  (.dup_x1, 1, [], [], 0, 0, 0, 25),
  (.iconst 1, 1, [], [], 0, 1, 0, 26),
  (.iadd, 1, [], [], 0, 0, 0, 27),
  (.putfield 19, 3, [(8, 1)], [[2190]], 0, 0, 0, 28), mm_nop, mm_nop,
  (.iload_n 1, 1, [], [], 1, 0, 0, 31),
  (.iastore, 1, [], [], 0, 0, 0, 32),
  (.return_, 1, [], [], 0, 0, 0, 33)]
def mm_m125 : mm_M := (yX9_add, cX9_add, 2, none, mm_k125, 1, 0, 0, 6028)
/-- TypeCopier$Report.entry.(I)I -/
def mm_k126 : List mm_E := [
  (.iload_n 1, 1, [], [], 1, 0, 0, 0),
  (.ifCond .lt 26, 3, [(0, 27)], [], 0, 0, 0, 1), mm_nop, mm_nop,
  (.iload_n 1, 1, [], [], 1, 0, 0, 4),
  (.aload_n 0, 1, [], [], 0, 0, 0, 5),
  (.getfield 19, 3, [(8, 1)], [[2190]], 0, 0, 0, 6), mm_nop, mm_nop,
  (.if_icmp .ge 18, 3, [(0, 27)], [], 0, 0, 0, 9), mm_nop, mm_nop,
  (.iload_n 1, 1, [], [], 1, 0, 0, 12),
  (.bipush 100, 2, [], [], 0, 100, 0, 13), mm_nop,
  (.if_icmp .ge 12, 3, [(0, 27)], [], 0, 0, 0, 15), mm_nop, mm_nop,
  (.aload_n 0, 1, [], [], 0, 0, 0, 18),
  (.getfield 11, 3, [(8, 0)], [[2189]], 0, 0, 0, 19), mm_nop, mm_nop,
  (.iload_n 1, 1, [], [], 1, 0, 0, 22),
  (.iaload, 1, [], [], 0, 0, 0, 23),
  (.goto 4, 3, [(0, 28)], [], 0, 0, 0, 24), mm_nop, mm_nop,
  (.iconst 0, 1, [], [], 0, 0, 0, 27),
  (.ireturn, 1, [], [], 0, 0, 0, 28)]
def mm_m126 : mm_M := (yX9_entry, cX9_entry, 2, (some .int), mm_k126, 1, 0, 0, 6048)
/-- TypeCopier$Report.factOf.(I)I -/
def mm_k127 : List mm_E := [
  (.iload_n 1, 1, [], [], 1, 0, 0, 0),
  (.tableswitch 60 0 4 #[35, 40, 45, 50, 55], 35, [(0, 61), (0, 36), (1, 41), (2, 46), (3, 51), (4, 56)], [], 0, 0, 0, 1), mm_nop, mm_nop, mm_nop, mm_nop, mm_nop, mm_nop, mm_nop, mm_nop, mm_nop, mm_nop, mm_nop, mm_nop, mm_nop, mm_nop, mm_nop, mm_nop, mm_nop, mm_nop, mm_nop, mm_nop, mm_nop, mm_nop, mm_nop, mm_nop, mm_nop, mm_nop, mm_nop, mm_nop, mm_nop, mm_nop, mm_nop, mm_nop, mm_nop, mm_nop,
  (.aload_n 0, 1, [], [], 0, 0, 0, 36),
  (.getfield 19, 3, [(8, 1)], [[2190]], 0, 0, 0, 37), mm_nop, mm_nop,
  (.ireturn, 1, [], [], 0, 0, 0, 40),
  (.aload_n 0, 1, [], [], 0, 0, 0, 41),
  (.getfield 22, 3, [(8, 2)], [[2191]], 0, 0, 0, 42), mm_nop, mm_nop,
  (.ireturn, 1, [], [], 0, 0, 0, 45),
  (.aload_n 0, 1, [], [], 0, 0, 0, 46),
  (.getfield 25, 3, [(8, 3)], [[2192]], 0, 0, 0, 47), mm_nop, mm_nop,
  (.ireturn, 1, [], [], 0, 0, 0, 50),
  (.aload_n 0, 1, [], [], 0, 0, 0, 51),
  (.getfield 28, 3, [(8, 4)], [[2193]], 0, 0, 0, 52), mm_nop, mm_nop,
  (.ireturn, 1, [], [], 0, 0, 0, 55),
  (.aload_n 0, 1, [], [], 0, 0, 0, 56),
  (.getfield 15, 3, [(8, 5)], [[2194]], 0, 0, 0, 57), mm_nop, mm_nop,
  (.ireturn, 1, [], [], 0, 0, 0, 60),
  (.bipush (-2), 2, [], [], 0, (-2), 0, 61), mm_nop,
  (.ireturn, 1, [], [], 0, 0, 0, 63)]
def mm_m127 : mm_M := (yX9_factOf, cX9_factOf, 2, (some .int), mm_k127, 1, 0, 0, 6056)
/-- TypeCopier$Shape.depthOf.(J)I -/
def mm_k128 : List mm_E := [
  (.lload_n 0, 1, [], [], 0, 0, 0, 0),
  (.lconst 0, 1, [], [], 0, 0, 0, 1),
  (.lcmp, 1, [], [], 0, 0, 0, 2),
  (.ifCond .ge 5, 3, [(0, 8)], [], 0, 0, 0, 3), mm_nop, mm_nop,
  (.iconst 0, 1, [], [], 0, 0, 0, 6),
  (.ireturn, 1, [], [], 0, 0, 0, 7),
  (.iconst 1, 1, [], [], 0, 1, 0, 8),
  (.istore_n 2, 1, [], [], 2, 0, 0, 9),
  (.iload_n 2, 1, [], [], 2, 0, 0, 10),
  (.getstatic 9, 3, [(0, 1)], [[3170]], 0, 0, 0, 11), mm_nop, mm_nop,
  (.arraylength, 1, [], [], 0, 0, 0, 14),
  (.if_icmp .gt 23, 3, [(0, 38)], [], 0, 0, 0, 15), mm_nop, mm_nop,
  (.lload_n 0, 1, [], [], 0, 0, 0, 18),
  (.getstatic 9, 3, [(0, 1)], [[3170]], 0, 0, 0, 19), mm_nop, mm_nop,
  (.iload_n 2, 1, [], [], 2, 0, 0, 22),
  (.iconst 1, 1, [], [], 0, 1, 0, 23),
  (.isub, 1, [], [], 0, 0, 0, 24),
  (.laload, 1, [], [], 0, 0, 0, 25),
  (.lcmp, 1, [], [], 0, 0, 0, 26),
  (.ifCond .ge 5, 3, [(0, 32)], [], 0, 0, 0, 27), mm_nop, mm_nop,
  (.iload_n 2, 1, [], [], 2, 0, 0, 30),
  (.ireturn, 1, [], [], 0, 0, 0, 31),
  (.iinc 2 1, 3, [], [], 2, 1, 0, 32), mm_nop, mm_nop,
  (.goto (-25), 3, [(0, 10)], [], 0, 0, 0, 35), mm_nop, mm_nop,
  (.iconst 0, 1, [], [], 0, 0, 0, 38),
  (.ireturn, 1, [], [], 0, 0, 0, 39)]
def mm_m128 : mm_M := (yX10_depthOf, cX10_depthOf, 3, (some .int), mm_k128, 1, 0, 0, 3198)
/-- TypeCopier$Shape.roomWith.(J)J -/
def mm_k129 : List mm_E := [
  (.lload_n 0, 1, [], [], 0, 0, 0, 0),
  (.lconst 0, 1, [], [], 0, 0, 0, 1),
  (.lcmp, 1, [], [], 0, 0, 0, 2),
  (.ifCond .ge 5, 3, [(0, 8)], [], 0, 0, 0, 3), mm_nop, mm_nop,
  (.lconst 0, 1, [], [], 0, 0, 0, 6),
  (.lreturn, 1, [], [], 0, 0, 0, 7),
  (.iconst 0, 1, [], [], 0, 0, 0, 8),
  (.istore_n 2, 1, [], [], 2, 0, 0, 9),
  (.iload_n 2, 1, [], [], 2, 0, 0, 10),
  (.getstatic 9, 3, [(0, 1)], [[3170]], 0, 0, 0, 11), mm_nop, mm_nop,
  (.arraylength, 1, [], [], 0, 0, 0, 14),
  (.iconst 1, 1, [], [], 0, 1, 0, 15),
  (.isub, 1, [], [], 0, 0, 0, 16),
  (.if_icmp .ge 25, 3, [(0, 42)], [], 0, 0, 0, 17), mm_nop, mm_nop,
  (.lload_n 0, 1, [], [], 0, 0, 0, 20),
  (.getstatic 9, 3, [(0, 1)], [[3170]], 0, 0, 0, 21), mm_nop, mm_nop,
  (.iload_n 2, 1, [], [], 2, 0, 0, 24),
  (.laload, 1, [], [], 0, 0, 0, 25),
  (.lcmp, 1, [], [], 0, 0, 0, 26),
  (.ifCond .ge 9, 3, [(0, 36)], [], 0, 0, 0, 27), mm_nop, mm_nop,
  (.getstatic 9, 3, [(0, 1)], [[3170]], 0, 0, 0, 30), mm_nop, mm_nop,
  (.iload_n 2, 1, [], [], 2, 0, 0, 33),
  (.laload, 1, [], [], 0, 0, 0, 34),
  (.lreturn, 1, [], [], 0, 0, 0, 35),
  (.iinc 2 1, 3, [], [], 2, 1, 0, 36), mm_nop, mm_nop,
  (.goto (-29), 3, [(0, 10)], [], 0, 0, 0, 39), mm_nop, mm_nop,
  (.lconst 0, 1, [], [], 0, 0, 0, 42),
  (.lreturn, 1, [], [], 0, 0, 0, 43)]
def mm_m129 : mm_M := (yX10_roomWith, cX10_roomWith, 3, (some .long), mm_k129, 1, 0, 0, 3182)
/-- TypeCopier$Shape.roomBelow.(J)J -/
def mm_k130 : List mm_E := [
  (.lconst 0, 1, [], [], 0, 0, 0, 0),
  (.lstore_n 2, 1, [], [], 2, 0, 0, 1),
  (.iconst 0, 1, [], [], 0, 0, 0, 2),
  (.istore 4, 2, [], [], 4, 0, 0, 3), mm_nop,
  (.iload 4, 2, [], [], 4, 0, 0, 5), mm_nop,
  (.getstatic 9, 3, [(0, 1)], [[3170]], 0, 0, 0, 7), mm_nop, mm_nop,
  (.arraylength, 1, [], [], 0, 0, 0, 10),
  (.iconst 1, 1, [], [], 0, 1, 0, 11),
  (.isub, 1, [], [], 0, 0, 0, 12),
  (.if_icmp .ge 27, 3, [(0, 40)], [], 0, 0, 0, 13), mm_nop, mm_nop,
  (.lload_n 0, 1, [], [], 0, 0, 0, 16),
  (.getstatic 9, 3, [(0, 1)], [[3170]], 0, 0, 0, 17), mm_nop, mm_nop,
  (.iload 4, 2, [], [], 4, 0, 0, 20), mm_nop,
  (.laload, 1, [], [], 0, 0, 0, 22),
  (.lcmp, 1, [], [], 0, 0, 0, 23),
  (.ifCond .lt 10, 3, [(0, 34)], [], 0, 0, 0, 24), mm_nop, mm_nop,
  (.getstatic 9, 3, [(0, 1)], [[3170]], 0, 0, 0, 27), mm_nop, mm_nop,
  (.iload 4, 2, [], [], 4, 0, 0, 30), mm_nop,
  (.laload, 1, [], [], 0, 0, 0, 32),
  (.lstore_n 2, 1, [], [], 2, 0, 0, 33),
  (.iinc 4 1, 3, [], [], 4, 1, 0, 34), mm_nop, mm_nop,
  (.goto (-32), 3, [(0, 5)], [], 0, 0, 0, 37), mm_nop, mm_nop,
  (.lload_n 2, 1, [], [], 2, 0, 0, 40),
  (.lreturn, 1, [], [], 0, 0, 0, 41)]
def mm_m130 : mm_M := (yX10_roomBelow, cX10_roomBelow, 5, (some .long), mm_k130, 1, 0, 0, 3169)
/-- TypeCopier$Shape.listOf.(J)J -/
def mm_k131 : List mm_E := [
  (.lload_n 0, 1, [], [], 0, 0, 0, 0),
  (.invokestatic 15, 3, [(0, 129)], [[3180, 3181, 2013]], 1, 0, 0, 1), mm_nop, mm_nop,
  (.lstore_n 2, 1, [], [], 2, 0, 0, 4),
  (.lload_n 2, 1, [], [], 2, 0, 0, 5),
  (.lconst 1, 1, [], [], 0, 0, 1, 6),
  (.lcmp, 1, [], [], 0, 0, 0, 7),
  (.ifCond .ge 9, 3, [(0, 17)], [], 0, 0, 0, 8), mm_nop, mm_nop,
  (.ldc2_w 19, 3, [], [[3175]], 0, 0, (-1), 11), mm_nop, mm_nop,
  (.goto 6, 3, [(0, 20)], [], 0, 0, 0, 14), mm_nop, mm_nop,
  (.lload_n 2, 1, [], [], 2, 0, 0, 17),
  (.lload_n 0, 1, [], [], 0, 0, 0, 18),
  (.ladd, 1, [], [], 0, 0, 0, 19),
  (.lreturn, 1, [], [], 0, 0, 0, 20)]
def mm_m131 : mm_M := (yX10_listOf, cX10_listOf, 4, (some .long), mm_k131, 1, 0, 0, 3179)
/-- TypeCopier$Shape.pairOf.(JJ)J -/
def mm_k132 : List mm_E := [
  (.lload_n 0, 1, [], [], 0, 0, 0, 0),
  (.invokestatic 15, 3, [(0, 129)], [[3180, 3181, 2013]], 1, 0, 0, 1), mm_nop, mm_nop,
  (.lstore 4, 2, [], [], 4, 0, 0, 4), mm_nop,
  (.lload_n 2, 1, [], [], 2, 0, 0, 6),
  (.invokestatic 15, 3, [(0, 129)], [[3180, 3181, 2013]], 1, 0, 0, 7), mm_nop, mm_nop,
  (.lstore 6, 2, [], [], 6, 0, 0, 10), mm_nop,
  (.lload 4, 2, [], [], 4, 0, 0, 12), mm_nop,
  (.lconst 1, 1, [], [], 0, 0, 1, 14),
  (.lcmp, 1, [], [], 0, 0, 0, 15),
  (.ifCond .lt 10, 3, [(0, 26)], [], 0, 0, 0, 16), mm_nop, mm_nop,
  (.lload 6, 2, [], [], 6, 0, 0, 19), mm_nop,
  (.lconst 1, 1, [], [], 0, 0, 1, 21),
  (.lcmp, 1, [], [], 0, 0, 0, 22),
  (.ifCond .ge 7, 3, [(0, 30)], [], 0, 0, 0, 23), mm_nop, mm_nop,
  (.ldc2_w 19, 3, [], [[3175]], 0, 0, (-1), 26), mm_nop, mm_nop,
  (.lreturn, 1, [], [], 0, 0, 0, 29),
  (.lload 4, 2, [], [], 4, 0, 0, 30), mm_nop,
  (.lload 6, 2, [], [], 6, 0, 0, 32), mm_nop,
  (.invokestatic 21, 3, [(4, 0)], [[3189, 3190, 2014, 3191]], 2, 0, 0, 34), mm_nop, mm_nop,
  (.lstore 8, 2, [], [], 8, 0, 0, 37), mm_nop,
  (.lload 8, 2, [], [], 8, 0, 0, 39), mm_nop,
  (.lload_n 0, 1, [], [], 0, 0, 0, 41),
  (.lconst 1, 1, [], [], 0, 0, 1, 42),
  (.ladd, 1, [], [], 0, 0, 0, 43),
  (.lload 8, 2, [], [], 8, 0, 0, 44), mm_nop,
  (.lmul, 1, [], [], 0, 0, 0, 46),
  (.ladd, 1, [], [], 0, 0, 0, 47),
  (.lload_n 2, 1, [], [], 2, 0, 0, 48),
  (.ladd, 1, [], [], 0, 0, 0, 49),
  (.lreturn, 1, [], [], 0, 0, 0, 50)]
def mm_m132 : mm_M := (yX10_pairOf, cX10_pairOf, 10, (some .long), mm_k132, 2, 0, 0, 3188)
/-- TypeCopier$Shape.kindOf.(J)I -/
def mm_k133 : List mm_E := [
  (.lload_n 0, 1, [], [], 0, 0, 0, 0),
  (.lconst 0, 1, [], [], 0, 0, 0, 1),
  (.lcmp, 1, [], [], 0, 0, 0, 2),
  (.ifCond .ge 5, 3, [(0, 8)], [], 0, 0, 0, 3), mm_nop, mm_nop,
  (.iconst (-1), 1, [], [], 0, (-1), 0, 6),
  (.ireturn, 1, [], [], 0, 0, 0, 7),
  (.lload_n 0, 1, [], [], 0, 0, 0, 8),
  (.ldc2_w 27, 3, [], [[3166]], 0, 0, 4, 9), mm_nop, mm_nop,
  (.lcmp, 1, [], [], 0, 0, 0, 12),
  (.ifCond .ge 6, 3, [(0, 19)], [], 0, 0, 0, 13), mm_nop, mm_nop,
  (.lload_n 0, 1, [], [], 0, 0, 0, 16),
  (.l2i, 1, [], [], 0, 0, 0, 17),
  (.ireturn, 1, [], [], 0, 0, 0, 18),
  (.lload_n 0, 1, [], [], 0, 0, 0, 19),
  (.invokestatic 29, 3, [(0, 130)], [[3167, 3168, 2013]], 1, 0, 0, 20), mm_nop, mm_nop,
  (.lstore_n 2, 1, [], [], 2, 0, 0, 23),
  (.lload_n 0, 1, [], [], 0, 0, 0, 24),
  (.lload_n 2, 1, [], [], 2, 0, 0, 25),
  (.lsub, 1, [], [], 0, 0, 0, 26),
  (.lload_n 2, 1, [], [], 2, 0, 0, 27),
  (.lcmp, 1, [], [], 0, 0, 0, 28),
  (.ifCond .ge 7, 3, [(0, 36)], [], 0, 0, 0, 29), mm_nop, mm_nop,
  (.iconst 5, 1, [], [], 0, 5, 0, 32),
  (.goto 4, 3, [(0, 37)], [], 0, 0, 0, 33), mm_nop, mm_nop,
  (.iconst 4, 1, [], [], 0, 4, 0, 36),
  (.ireturn, 1, [], [], 0, 0, 0, 37)]
def mm_m133 : mm_M := (yX10_kindOf, cX10_kindOf, 4, (some .int), mm_k133, 1, 0, 0, 3165)
/-- TypeCopier$Shape.firstOf.(J)J -/
def mm_k134 : List mm_E := [
  (.lload_n 0, 1, [], [], 0, 0, 0, 0),
  (.invokestatic 29, 3, [(0, 130)], [[3167, 3168, 2013]], 1, 0, 0, 1), mm_nop, mm_nop,
  (.lstore_n 2, 1, [], [], 2, 0, 0, 4),
  (.lload_n 2, 1, [], [], 2, 0, 0, 5),
  (.lconst 1, 1, [], [], 0, 0, 1, 6),
  (.lcmp, 1, [], [], 0, 0, 0, 7),
  (.ifCond .ge 7, 3, [(0, 15)], [], 0, 0, 0, 8), mm_nop, mm_nop,
  (.ldc2_w 19, 3, [], [[3175]], 0, 0, (-1), 11), mm_nop, mm_nop,
  (.lreturn, 1, [], [], 0, 0, 0, 14),
  (.lload_n 0, 1, [], [], 0, 0, 0, 15),
  (.lload_n 2, 1, [], [], 2, 0, 0, 16),
  (.lsub, 1, [], [], 0, 0, 0, 17),
  (.lstore 4, 2, [], [], 4, 0, 0, 18), mm_nop,
  (.lload 4, 2, [], [], 4, 0, 0, 20), mm_nop,
  (.lload_n 2, 1, [], [], 2, 0, 0, 22),
  (.lcmp, 1, [], [], 0, 0, 0, 23),
  (.ifCond .ge 8, 3, [(0, 32)], [], 0, 0, 0, 24), mm_nop, mm_nop,
  (.lload 4, 2, [], [], 4, 0, 0, 27), mm_nop,
  (.goto 9, 3, [(0, 38)], [], 0, 0, 0, 29), mm_nop, mm_nop,
  (.lload 4, 2, [], [], 4, 0, 0, 32), mm_nop,
  (.lload_n 2, 1, [], [], 2, 0, 0, 34),
  (.ldiv, 1, [], [], 0, 0, 0, 35),
  (.lconst 1, 1, [], [], 0, 0, 1, 36),
  (.lsub, 1, [], [], 0, 0, 0, 37),
  (.lreturn, 1, [], [], 0, 0, 0, 38)]
def mm_m134 : mm_M := (yX10_firstOf, cX10_firstOf, 6, (some .long), mm_k134, 1, 0, 0, 3174)
/-- TypeCopier$Shape.secondOf.(J)J -/
def mm_k135 : List mm_E := [
  (.lload_n 0, 1, [], [], 0, 0, 0, 0),
  (.invokestatic 29, 3, [(0, 130)], [[3167, 3168, 2013]], 1, 0, 0, 1), mm_nop, mm_nop,
  (.lstore_n 2, 1, [], [], 2, 0, 0, 4),
  (.lload_n 2, 1, [], [], 2, 0, 0, 5),
  (.lconst 1, 1, [], [], 0, 0, 1, 6),
  (.lcmp, 1, [], [], 0, 0, 0, 7),
  (.ifCond .lt 11, 3, [(0, 19)], [], 0, 0, 0, 8), mm_nop, mm_nop,
  (.lload_n 0, 1, [], [], 0, 0, 0, 11),
  (.lload_n 2, 1, [], [], 2, 0, 0, 12),
  (.lsub, 1, [], [], 0, 0, 0, 13),
  (.lload_n 2, 1, [], [], 2, 0, 0, 14),
  (.lcmp, 1, [], [], 0, 0, 0, 15),
  (.ifCond .ge 7, 3, [(0, 23)], [], 0, 0, 0, 16), mm_nop, mm_nop,
  (.ldc2_w 19, 3, [], [[3175]], 0, 0, (-1), 19), mm_nop, mm_nop,
  (.lreturn, 1, [], [], 0, 0, 0, 22),
  (.lload_n 0, 1, [], [], 0, 0, 0, 23),
  (.lload_n 2, 1, [], [], 2, 0, 0, 24),
  (.lsub, 1, [], [], 0, 0, 0, 25),
  (.lload_n 2, 1, [], [], 2, 0, 0, 26),
  (.lrem, 1, [], [], 0, 0, 0, 27),
  (.lreturn, 1, [], [], 0, 0, 0, 28)]
def mm_m135 : mm_M := (yX10_secondOf, cX10_secondOf, 4, (some .long), mm_k135, 1, 0, 0, 3185)
/-- TypeCopier$Shape.withLetters.(JJJ)J -/
def mm_k136 : List mm_E := [
  (.lload_n 0, 1, [], [], 0, 0, 0, 0),
  (.invokestatic 32, 3, [(0, 133)], [[3163, 3164, 2013]], 1, 0, 0, 1), mm_nop, mm_nop,
  (.tableswitch 75 2 5 #[32, 34, 51, 37], 32, [(0, 79), (2, 36), (3, 38), (4, 55), (5, 41)], [], 0, 0, 0, 4), mm_nop, mm_nop, mm_nop, mm_nop, mm_nop, mm_nop, mm_nop, mm_nop, mm_nop, mm_nop, mm_nop, mm_nop, mm_nop, mm_nop, mm_nop, mm_nop, mm_nop, mm_nop, mm_nop, mm_nop, mm_nop, mm_nop, mm_nop, mm_nop, mm_nop, mm_nop, mm_nop, mm_nop, mm_nop, mm_nop, mm_nop,
  (.lload_n 2, 1, [], [], 2, 0, 0, 36),
  (.lreturn, 1, [], [], 0, 0, 0, 37),
  (.lload 4, 2, [], [], 4, 0, 0, 38), mm_nop,
  (.lreturn, 1, [], [], 0, 0, 0, 40),
  (.lload_n 0, 1, [], [], 0, 0, 0, 41),
  (.invokestatic 36, 3, [(0, 134)], [[3172, 3173, 2013]], 1, 0, 0, 42), mm_nop, mm_nop,
  (.lload_n 2, 1, [], [], 2, 0, 0, 45),
  (.lload 4, 2, [], [], 4, 0, 0, 46), mm_nop,
  (.invokestatic 39, 3, [(0, 136)], [[3176, 3161, 2013]], 3, 0, 0, 48), mm_nop, mm_nop,
  (.invokestatic 43, 3, [(0, 131)], [[3177, 3178, 2013]], 1, 0, 0, 51), mm_nop, mm_nop,
  (.lreturn, 1, [], [], 0, 0, 0, 54),
  (.lload_n 0, 1, [], [], 0, 0, 0, 55),
  (.invokestatic 36, 3, [(0, 134)], [[3172, 3173, 2013]], 1, 0, 0, 56), mm_nop, mm_nop,
  (.lload_n 2, 1, [], [], 2, 0, 0, 59),
  (.lload 4, 2, [], [], 4, 0, 0, 60), mm_nop,
  (.invokestatic 39, 3, [(0, 136)], [[3176, 3161, 2013]], 3, 0, 0, 62), mm_nop, mm_nop,
  (.lload_n 0, 1, [], [], 0, 0, 0, 65),
  (.invokestatic 46, 3, [(0, 135)], [[3183, 3184, 2013]], 1, 0, 0, 66), mm_nop, mm_nop,
  (.lload_n 2, 1, [], [], 2, 0, 0, 69),
  (.lload 4, 2, [], [], 4, 0, 0, 70), mm_nop,
  (.invokestatic 39, 3, [(0, 136)], [[3176, 3161, 2013]], 3, 0, 0, 72), mm_nop, mm_nop,
  (.invokestatic 49, 3, [(0, 132)], [[3186, 3187, 2013]], 2, 0, 0, 75), mm_nop, mm_nop,
  (.lreturn, 1, [], [], 0, 0, 0, 78),
  (.lload_n 0, 1, [], [], 0, 0, 0, 79),
  (.lreturn, 1, [], [], 0, 0, 0, 80)]
def mm_m136 : mm_M := (yX10_withLetters, cX10_withLetters, 6, (some .long), mm_k136, 3, 0, 0, 3162)
/-- TypeCopier$Shape.lettersOf.(J)I -/
def mm_k137 : List mm_E := [
  (.lload_n 0, 1, [], [], 0, 0, 0, 0),
  (.invokestatic 32, 3, [(0, 133)], [[3163, 3164, 2013]], 1, 0, 0, 1), mm_nop, mm_nop,
  (.tableswitch 60 2 5 #[32, 34, 44, 36], 32, [(0, 64), (2, 36), (3, 38), (4, 48), (5, 40)], [], 0, 0, 0, 4), mm_nop, mm_nop, mm_nop, mm_nop, mm_nop, mm_nop, mm_nop, mm_nop, mm_nop, mm_nop, mm_nop, mm_nop, mm_nop, mm_nop, mm_nop, mm_nop, mm_nop, mm_nop, mm_nop, mm_nop, mm_nop, mm_nop, mm_nop, mm_nop, mm_nop, mm_nop, mm_nop, mm_nop, mm_nop, mm_nop, mm_nop,
  (.iconst 1, 1, [], [], 0, 1, 0, 36),
  (.ireturn, 1, [], [], 0, 0, 0, 37),
  (.iconst 2, 1, [], [], 0, 2, 0, 38),
  (.ireturn, 1, [], [], 0, 0, 0, 39),
  (.lload_n 0, 1, [], [], 0, 0, 0, 40),
  (.invokestatic 36, 3, [(0, 134)], [[3172, 3173, 2013]], 1, 0, 0, 41), mm_nop, mm_nop,
  (.invokestatic 52, 3, [(0, 137)], [[3199, 3200, 2013]], 1, 0, 0, 44), mm_nop, mm_nop,
  (.ireturn, 1, [], [], 0, 0, 0, 47),
  (.lload_n 0, 1, [], [], 0, 0, 0, 48),
  (.invokestatic 36, 3, [(0, 134)], [[3172, 3173, 2013]], 1, 0, 0, 49), mm_nop, mm_nop,
  (.invokestatic 52, 3, [(0, 137)], [[3199, 3200, 2013]], 1, 0, 0, 52), mm_nop, mm_nop,
  (.lload_n 0, 1, [], [], 0, 0, 0, 55),
  (.invokestatic 46, 3, [(0, 135)], [[3183, 3184, 2013]], 1, 0, 0, 56), mm_nop, mm_nop,
  (.invokestatic 52, 3, [(0, 137)], [[3199, 3200, 2013]], 1, 0, 0, 59), mm_nop, mm_nop,
  (.ior, 1, [], [], 0, 0, 0, 62),
  (.ireturn, 1, [], [], 0, 0, 0, 63),
  (.iconst 0, 1, [], [], 0, 0, 0, 64),
  (.ireturn, 1, [], [], 0, 0, 0, 65)]
def mm_m137 : mm_M := (yX10_lettersOf, cX10_lettersOf, 2, (some .int), mm_k137, 1, 0, 0, 3201)
/-- TypeCopier$Shape.widthOf.(J)I -/
def mm_k138 : List mm_E := [
  (.lload_n 0, 1, [], [], 0, 0, 0, 0),
  (.invokestatic 55, 3, [(0, 128)], [[3196, 3197, 2013]], 1, 0, 0, 1), mm_nop, mm_nop,
  (.iconst 1, 1, [], [], 0, 1, 0, 4),
  (.if_icmp .lt 10, 3, [(0, 15)], [], 0, 0, 0, 5), mm_nop, mm_nop,
  (.lload_n 0, 1, [], [], 0, 0, 0, 8),
  (.invokestatic 52, 3, [(0, 137)], [[3199, 3200, 2013]], 1, 0, 0, 9), mm_nop, mm_nop,
  (.ifCond .eq 7, 3, [(0, 19)], [], 0, 0, 0, 12), mm_nop, mm_nop,
  (.iconst (-1), 1, [], [], 0, (-1), 0, 15),
  (.goto 7, 3, [(0, 23)], [], 0, 0, 0, 16), mm_nop, mm_nop,
  (.lload_n 0, 1, [], [], 0, 0, 0, 19),
  (.invokestatic 58, 3, [(0, 139)], [[3202, 3203, 2013]], 1, 0, 0, 20), mm_nop, mm_nop,
  (.ireturn, 1, [], [], 0, 0, 0, 23)]
def mm_m138 : mm_M := (yX10_widthOf, cX10_widthOf, 2, (some .int), mm_k138, 1, 0, 0, 3195)
/-- TypeCopier$Shape.leavesOf.(J)I -/
def mm_k139 : List mm_E := [
  (.lload_n 0, 1, [], [], 0, 0, 0, 0),
  (.invokestatic 32, 3, [(0, 133)], [[3163, 3164, 2013]], 1, 0, 0, 1), mm_nop, mm_nop,
  (.iconst 4, 1, [], [], 0, 4, 0, 4),
  (.if_icmp .ne 21, 3, [(0, 26)], [], 0, 0, 0, 5), mm_nop, mm_nop,
  (.lload_n 0, 1, [], [], 0, 0, 0, 8),
  (.invokestatic 36, 3, [(0, 134)], [[3172, 3173, 2013]], 1, 0, 0, 9), mm_nop, mm_nop,
  (.invokestatic 58, 3, [(0, 139)], [[3202, 3203, 2013]], 1, 0, 0, 12), mm_nop, mm_nop,
  (.lload_n 0, 1, [], [], 0, 0, 0, 15),
  (.invokestatic 46, 3, [(0, 135)], [[3183, 3184, 2013]], 1, 0, 0, 16), mm_nop, mm_nop,
  (.invokestatic 58, 3, [(0, 139)], [[3202, 3203, 2013]], 1, 0, 0, 19), mm_nop, mm_nop,
  (.iadd, 1, [], [], 0, 0, 0, 22),
  (.goto 4, 3, [(0, 27)], [], 0, 0, 0, 23), mm_nop, mm_nop,
  (.iconst 1, 1, [], [], 0, 1, 0, 26),
  (.ireturn, 1, [], [], 0, 0, 0, 27)]
def mm_m139 : mm_M := (yX10_leavesOf, cX10_leavesOf, 2, (some .int), mm_k139, 1, 0, 0, 3204)
/-- TypeCopier.<init>.()V -/
def mm_k140 : List mm_E := [
  (.aload_n 0, 1, [], [], 0, 0, 0, 0),
  (.invokespecial 1, 3, [], [[2021, 2022, 2023]], 0, 0, 0, 1), mm_nop, mm_nop,
  (.aload_n 0, 1, [], [], 0, 0, 0, 4),
  (.new 7, 3, [(0, 7)], [[2024, 2025, 2002]], 0, 0, 0, 5), mm_nop, mm_nop,
  (.dup, 1, [], [], 0, 0, 0, 8),
  (.invokespecial 9, 3, [(0, 109)], [[2026, 2027, 2002]], 0, 0, 0, 9), mm_nop, mm_nop,
  (.putfield 10, 3, [(9, 0)], [[3227]], 1, 0, 0, 12), mm_nop, mm_nop,
  (.aload_n 0, 1, [], [], 0, 0, 0, 15),
  (.new 16, 3, [(0, 6)], [[2038, 2039, 2003]], 0, 0, 0, 16), mm_nop, mm_nop,
  (.dup, 1, [], [], 0, 0, 0, 19),
  (.invokespecial 18, 3, [(1, 90)], [[2040, 2041, 2003]], 0, 0, 0, 20), mm_nop, mm_nop,
  (.putfield 19, 3, [(9, 1)], [[3228]], 1, 0, 0, 23), mm_nop, mm_nop,
  (.aload_n 0, 1, [], [], 0, 0, 0, 26),
  (.new 23, 3, [(0, 2)], [[2067, 2068, 2004]], 0, 0, 0, 27), mm_nop, mm_nop,
  (.dup, 1, [], [], 0, 0, 0, 30),
  (.invokespecial 25, 3, [(1, 22)], [[2069, 2070, 2004]], 0, 0, 0, 31), mm_nop, mm_nop,
  (.putfield 26, 3, [(9, 2)], [[3229]], 1, 0, 0, 34), mm_nop, mm_nop,
  (.aload_n 0, 1, [], [], 0, 0, 0, 37),
  (.new 30, 3, [(0, 4)], [[2098, 2099, 2005]], 0, 0, 0, 38), mm_nop, mm_nop,
  (.dup, 1, [], [], 0, 0, 0, 41),
  (.aload_n 0, 1, [], [], 0, 0, 0, 42),
  (.getfield 10, 3, [(9, 0)], [[3227]], 0, 0, 0, 43), mm_nop, mm_nop,
  (.aload_n 0, 1, [], [], 0, 0, 0, 46),
  (.getfield 19, 3, [(9, 1)], [[3228]], 0, 0, 0, 47), mm_nop, mm_nop,
  (.aload_n 0, 1, [], [], 0, 0, 0, 50),
  (.getfield 26, 3, [(9, 2)], [[3229]], 0, 0, 0, 51), mm_nop, mm_nop,
  (.invokespecial 32, 3, [(0, 40)], [[2100, 2101, 2005]], 3, 0, 0, 54), mm_nop, mm_nop,
  (.putfield 35, 3, [(9, 3)], [[3230]], 1, 0, 0, 57), mm_nop, mm_nop,
  (.aload_n 0, 1, [], [], 0, 0, 0, 60),
  (.new 39, 3, [(0, 0)], [[2119, 2120, 2006]], 0, 0, 0, 61), mm_nop, mm_nop,
  (.dup, 1, [], [], 0, 0, 0, 64),
  (.aload_n 0, 1, [], [], 0, 0, 0, 65),
  (.getfield 10, 3, [(9, 0)], [[3227]], 0, 0, 0, 66), mm_nop, mm_nop,
  (.aload_n 0, 1, [], [], 0, 0, 0, 69),
  (.getfield 19, 3, [(9, 1)], [[3228]], 0, 0, 0, 70), mm_nop, mm_nop,
  (.aload_n 0, 1, [], [], 0, 0, 0, 73),
  (.getfield 26, 3, [(9, 2)], [[3229]], 0, 0, 0, 74), mm_nop, mm_nop,
  (.aload_n 0, 1, [], [], 0, 0, 0, 77),
  (.getfield 35, 3, [(9, 3)], [[3230]], 0, 0, 0, 78), mm_nop, mm_nop,
  (.invokespecial 41, 3, [(0, 0)], [[2121, 2122, 2006]], 4, 0, 0, 81), mm_nop, mm_nop,
  (.putfield 44, 3, [(9, 4)], [[3231]], 1, 0, 0, 84), mm_nop, mm_nop,
  (.aload_n 0, 1, [], [], 0, 0, 0, 87),
  (.new 48, 3, [(0, 3)], [[2167, 2168, 2007]], 0, 0, 0, 88), mm_nop, mm_nop,
  (.dup, 1, [], [], 0, 0, 0, 91),
  (.invokespecial 50, 3, [(1, 34)], [[2169, 2170, 2007]], 0, 0, 0, 92), mm_nop, mm_nop,
  (.putfield 51, 3, [(9, 5)], [[3232]], 1, 0, 0, 95), mm_nop, mm_nop,
  (.aload_n 0, 1, [], [], 0, 0, 0, 98),
  (.new 55, 3, [(0, 8)], [[2183, 2184, 2008]], 0, 0, 0, 99), mm_nop, mm_nop,
  (.dup, 1, [], [], 0, 0, 0, 102),
  (.invokespecial 57, 3, [(1, 116)], [[2185, 2186, 2008]], 0, 0, 0, 103), mm_nop, mm_nop,
  (.putfield 58, 3, [(9, 6)], [[3233]], 1, 0, 0, 106), mm_nop, mm_nop,
  (.aload_n 0, 1, [], [], 0, 0, 0, 109),
  (.new 62, 3, [(0, 5)], [[2208, 2209, 2010]], 0, 0, 0, 110), mm_nop, mm_nop,
  (.dup, 1, [], [], 0, 0, 0, 113),
  (.aload_n 0, 1, [], [], 0, 0, 0, 114),
  (.getfield 19, 3, [(9, 1)], [[3228]], 0, 0, 0, 115), mm_nop, mm_nop,
  (.aload_n 0, 1, [], [], 0, 0, 0, 118),
  (.getfield 51, 3, [(9, 5)], [[3232]], 0, 0, 0, 119), mm_nop, mm_nop,
  (.aload_n 0, 1, [], [], 0, 0, 0, 122),
  (.getfield 58, 3, [(9, 6)], [[3233]], 0, 0, 0, 123), mm_nop, mm_nop,
  (.aload_n 0, 1, [], [], 0, 0, 0, 126),
  (.getfield 26, 3, [(9, 2)], [[3229]], 0, 0, 0, 127), mm_nop, mm_nop,
  (.invokespecial 64, 3, [(0, 55)], [[2210, 2211, 2010]], 4, 0, 0, 130), mm_nop, mm_nop,
  (.putfield 67, 3, [(9, 7)], [[3234]], 1, 0, 0, 133), mm_nop, mm_nop,
  (.aload_n 0, 1, [], [], 0, 0, 0, 136),
  (.new 71, 3, [(0, 1)], [[3021, 3022, 2011]], 0, 0, 0, 137), mm_nop, mm_nop,
  (.dup, 1, [], [], 0, 0, 0, 140),
  (.aload_n 0, 1, [], [], 0, 0, 0, 141),
  (.getfield 19, 3, [(9, 1)], [[3228]], 0, 0, 0, 142), mm_nop, mm_nop,
  (.aload_n 0, 1, [], [], 0, 0, 0, 145),
  (.getfield 51, 3, [(9, 5)], [[3232]], 0, 0, 0, 146), mm_nop, mm_nop,
  (.aload_n 0, 1, [], [], 0, 0, 0, 149),
  (.getfield 58, 3, [(9, 6)], [[3233]], 0, 0, 0, 150), mm_nop, mm_nop,
  (.aload_n 0, 1, [], [], 0, 0, 0, 153),
  (.getfield 26, 3, [(9, 2)], [[3229]], 0, 0, 0, 154), mm_nop, mm_nop,
  (.aload_n 0, 1, [], [], 0, 0, 0, 157),
  (.getfield 44, 3, [(9, 4)], [[3231]], 0, 0, 0, 158), mm_nop, mm_nop,
  (.invokespecial 73, 3, [(0, 12)], [[3023, 3024, 2011]], 5, 0, 0, 161), mm_nop, mm_nop,
  (.putfield 76, 3, [(9, 8)], [[3235]], 1, 0, 0, 164), mm_nop, mm_nop,
  (.aload_n 0, 1, [], [], 0, 0, 0, 167),
  (.invokevirtual 79, 3, [(9, 149)], [[3046, 3048, 1000, 2001]], 0, 0, 0, 168), mm_nop, mm_nop,
  (.return_, 1, [], [], 0, 0, 0, 171)]
def mm_m140 : mm_M := (yX11_init, cX11_init, 1, none, mm_k140, 0, 175, 47866, 2020)
/-- TypeCopier.pair.(II)I -/
def mm_k141 : List mm_E := [
  (.aload_n 0, 1, [], [], 0, 0, 0, 0),
  (.getfield 10, 3, [(9, 0)], [[3227]], 0, 0, 0, 1), mm_nop, mm_nop,
  (.iload_n 1, 1, [], [], 1, 0, 0, 4),
  (.invokevirtual 82, 3, [(7, 111)], [[4028, 3222, 3223, 2002]], 1, 0, 0, 5), mm_nop, mm_nop,
  (.ifCond .eq 14, 3, [(0, 22)], [], 0, 0, 0, 8), mm_nop, mm_nop,
  (.aload_n 0, 1, [], [], 0, 0, 0, 11),
  (.getfield 10, 3, [(9, 0)], [[3227]], 0, 0, 0, 12), mm_nop, mm_nop,
  (.iload_n 2, 1, [], [], 2, 0, 0, 15),
  (.invokevirtual 82, 3, [(7, 111)], [[4028, 3222, 3223, 2002]], 1, 0, 0, 16), mm_nop, mm_nop,
  (.ifCond .ne 6, 3, [(0, 25)], [], 0, 0, 0, 19), mm_nop, mm_nop,
  (.bipush (-2), 2, [], [], 0, (-2), 0, 22), mm_nop,
  (.ireturn, 1, [], [], 0, 0, 0, 24),
  (.aload_n 0, 1, [], [], 0, 0, 0, 25),
  (.getfield 10, 3, [(9, 0)], [[3227]], 0, 0, 0, 26), mm_nop, mm_nop,
  (.aload_n 0, 1, [], [], 0, 0, 0, 29),
  (.getfield 10, 3, [(9, 0)], [[3227]], 0, 0, 0, 30), mm_nop, mm_nop,
  (.iload_n 1, 1, [], [], 1, 0, 0, 33),
  (.invokevirtual 86, 3, [(7, 112)], [[4029, 3218, 3219, 2002]], 1, 0, 0, 34), mm_nop, mm_nop,
  (.aload_n 0, 1, [], [], 0, 0, 0, 37),
  (.getfield 10, 3, [(9, 0)], [[3227]], 0, 0, 0, 38), mm_nop, mm_nop,
  (.iload_n 2, 1, [], [], 2, 0, 0, 41),
  (.invokevirtual 86, 3, [(7, 112)], [[4029, 3218, 3219, 2002]], 1, 0, 0, 42), mm_nop, mm_nop,
  (.invokestatic 90, 3, [(0, 132)], [[4030, 3187, 2013]], 2, 0, 0, 45), mm_nop, mm_nop,
  (.invokevirtual 96, 3, [(7, 114)], [[4031, 4032, 4033, 2002]], 1, 0, 0, 48), mm_nop, mm_nop,
  (.ireturn, 1, [], [], 0, 0, 0, 51)]
def mm_m141 : mm_M := (yX11_pair, cX11_pair, 3, (some .int), mm_k141, 2, 0, 0, 4027)
/-- TypeCopier.list.(I)I -/
def mm_k142 : List mm_E := [
  (.aload_n 0, 1, [], [], 0, 0, 0, 0),
  (.getfield 10, 3, [(9, 0)], [[3227]], 0, 0, 0, 1), mm_nop, mm_nop,
  (.iload_n 1, 1, [], [], 1, 0, 0, 4),
  (.invokevirtual 82, 3, [(7, 111)], [[4028, 3222, 3223, 2002]], 1, 0, 0, 5), mm_nop, mm_nop,
  (.ifCond .ne 6, 3, [(0, 14)], [], 0, 0, 0, 8), mm_nop, mm_nop,
  (.bipush (-2), 2, [], [], 0, (-2), 0, 11), mm_nop,
  (.ireturn, 1, [], [], 0, 0, 0, 13),
  (.aload_n 0, 1, [], [], 0, 0, 0, 14),
  (.getfield 10, 3, [(9, 0)], [[3227]], 0, 0, 0, 15), mm_nop, mm_nop,
  (.aload_n 0, 1, [], [], 0, 0, 0, 18),
  (.getfield 10, 3, [(9, 0)], [[3227]], 0, 0, 0, 19), mm_nop, mm_nop,
  (.iload_n 1, 1, [], [], 1, 0, 0, 22),
  (.invokevirtual 86, 3, [(7, 112)], [[4029, 3218, 3219, 2002]], 1, 0, 0, 23), mm_nop, mm_nop,
  (.invokestatic 100, 3, [(0, 131)], [[4043, 3178, 2013]], 1, 0, 0, 26), mm_nop, mm_nop,
  (.invokevirtual 96, 3, [(7, 114)], [[4031, 4032, 4033, 2002]], 1, 0, 0, 29), mm_nop, mm_nop,
  (.ireturn, 1, [], [], 0, 0, 0, 32)]
def mm_m142 : mm_M := (yX11_list, cX11_list, 2, (some .int), mm_k142, 1, 0, 0, 4042)
/-- TypeCopier.type.(II)I -/
def mm_k143 : List mm_E := [
  (.aload_n 0, 1, [], [], 0, 0, 0, 0),
  (.getfield 10, 3, [(9, 0)], [[3227]], 0, 0, 0, 1), mm_nop, mm_nop,
  (.iload_n 1, 1, [], [], 1, 0, 0, 4),
  (.invokevirtual 82, 3, [(7, 111)], [[4028, 3222, 3223, 2002]], 1, 0, 0, 5), mm_nop, mm_nop,
  (.ifCond .ne 6, 3, [(0, 14)], [], 0, 0, 0, 8), mm_nop, mm_nop,
  (.bipush (-2), 2, [], [], 0, (-2), 0, 11), mm_nop,
  (.ireturn, 1, [], [], 0, 0, 0, 13),
  (.aload_n 0, 1, [], [], 0, 0, 0, 14),
  (.getfield 10, 3, [(9, 0)], [[3227]], 0, 0, 0, 15), mm_nop, mm_nop,
  (.iload_n 1, 1, [], [], 1, 0, 0, 18),
  (.iload_n 2, 1, [], [], 2, 0, 0, 19),
  (.invokevirtual 104, 3, [(7, 115)], [[4048, 4049, 4050, 2002]], 2, 0, 0, 20), mm_nop, mm_nop,
  (.ireturn, 1, [], [], 0, 0, 0, 23)]
def mm_m143 : mm_M := (yX11_type, cX11_type, 3, (some .int), mm_k143, 2, 0, 0, 4047)
/-- TypeCopier.node.(IIIII)I -/
def mm_k144 : List mm_E := [
  (.aload_n 0, 1, [], [], 0, 0, 0, 0),
  (.iload_n 1, 1, [], [], 1, 0, 0, 1),
  (.iload_n 2, 1, [], [], 2, 0, 0, 2),
  (.iload_n 3, 1, [], [], 3, 0, 0, 3),
  (.iload 4, 2, [], [], 4, 0, 0, 4), mm_nop,
  (.iload 5, 2, [], [], 5, 0, 0, 6), mm_nop,
  (.invokevirtual 108, 3, [(9, 145)], [[4063, 4065, 1010, 2001]], 5, 0, 0, 8), mm_nop, mm_nop,
  (.ifCond .ne 6, 3, [(0, 17)], [], 0, 0, 0, 11), mm_nop, mm_nop,
  (.bipush (-2), 2, [], [], 0, (-2), 0, 14), mm_nop,
  (.ireturn, 1, [], [], 0, 0, 0, 16),
  (.aload_n 0, 1, [], [], 0, 0, 0, 17),
  (.getfield 19, 3, [(9, 1)], [[3228]], 0, 0, 0, 18), mm_nop, mm_nop,
  (.iload_n 1, 1, [], [], 1, 0, 0, 21),
  (.iload_n 2, 1, [], [], 2, 0, 0, 22),
  (.iload_n 3, 1, [], [], 3, 0, 0, 23),
  (.iload 4, 2, [], [], 4, 0, 0, 24), mm_nop,
  (.invokevirtual 112, 3, [(6, 100)], [[4080, 4081, 4082, 2003]], 4, 0, 0, 26), mm_nop, mm_nop,
  (.bipush 12, 2, [], [], 0, 12, 0, 29), mm_nop,
  (.if_icmp .le 6, 3, [(0, 37)], [], 0, 0, 0, 31), mm_nop, mm_nop,
  (.bipush (-3), 2, [], [], 0, (-3), 0, 34), mm_nop,
  (.ireturn, 1, [], [], 0, 0, 0, 36),
  (.aload_n 0, 1, [], [], 0, 0, 0, 37),
  (.getfield 19, 3, [(9, 1)], [[3228]], 0, 0, 0, 38), mm_nop, mm_nop,
  (.iload_n 1, 1, [], [], 1, 0, 0, 41),
  (.iload_n 2, 1, [], [], 2, 0, 0, 42),
  (.iload_n 3, 1, [], [], 3, 0, 0, 43),
  (.iload 4, 2, [], [], 4, 0, 0, 44), mm_nop,
  (.iload 5, 2, [], [], 5, 0, 0, 46), mm_nop,
  (.invokevirtual 116, 3, [(6, 102)], [[4091, 4092, 4093, 2003]], 5, 0, 0, 48), mm_nop, mm_nop,
  (.istore 6, 2, [], [], 6, 0, 0, 51), mm_nop,
  (.iload 6, 2, [], [], 6, 0, 0, 53), mm_nop,
  (.bipush (-4), 2, [], [], 0, (-4), 0, 55), mm_nop,
  (.if_icmp .eq 12, 3, [(0, 69)], [], 0, 0, 0, 57), mm_nop, mm_nop,
  (.aload_n 0, 1, [], [], 0, 0, 0, 60),
  (.getfield 35, 3, [(9, 3)], [[3230]], 0, 0, 0, 61), mm_nop, mm_nop,
  (.iload 6, 2, [], [], 6, 0, 0, 64), mm_nop,
  (.invokevirtual 120, 3, [(4, 41)], [[4096, 4097, 4098, 2005]], 1, 0, 0, 66), mm_nop, mm_nop,
  (.iload 6, 2, [], [], 6, 0, 0, 69), mm_nop,
  (.ireturn, 1, [], [], 0, 0, 0, 71)]
def mm_m144 : mm_M := (yX11_node, cX11_node, 7, (some .int), mm_k144, 5, 0, 0, 4062)
/-- TypeCopier.wantedStands.(IIIII)Z -/
def mm_k145 : List mm_E := [
  (.iload_n 1, 1, [], [], 1, 0, 0, 0),
  (.lookupswitch 97 #[(1, 35), (9, 50), (14, 59)], 35, [(0, 98), (1, 36), (9, 51), (14, 60)], [], 0, 0, 0, 1), mm_nop, mm_nop, mm_nop, mm_nop, mm_nop, mm_nop, mm_nop, mm_nop, mm_nop, mm_nop, mm_nop, mm_nop, mm_nop, mm_nop, mm_nop, mm_nop, mm_nop, mm_nop, mm_nop, mm_nop, mm_nop, mm_nop, mm_nop, mm_nop, mm_nop, mm_nop, mm_nop, mm_nop, mm_nop, mm_nop, mm_nop, mm_nop, mm_nop, mm_nop,
  (.iload_n 2, 1, [], [], 2, 0, 0, 36),
  (.ifCond .eq 8, 3, [(0, 45)], [], 0, 0, 0, 37), mm_nop, mm_nop,
  (.iload_n 2, 1, [], [], 2, 0, 0, 40),
  (.iconst 1, 1, [], [], 0, 1, 0, 41),
  (.if_icmp .ne 7, 3, [(0, 49)], [], 0, 0, 0, 42), mm_nop, mm_nop,
  (.iconst 1, 1, [], [], 0, 1, 0, 45),
  (.goto 4, 3, [(0, 50)], [], 0, 0, 0, 46), mm_nop, mm_nop,
  (.iconst 0, 1, [], [], 0, 0, 0, 49),
  (.ireturn, 1, [], [], 0, 0, 0, 50),
  (.aload_n 0, 1, [], [], 0, 0, 0, 51),
  (.getfield 10, 3, [(9, 0)], [[3227]], 0, 0, 0, 52), mm_nop, mm_nop,
  (.iload_n 2, 1, [], [], 2, 0, 0, 55),
  (.invokevirtual 82, 3, [(7, 111)], [[4028, 3222, 3223, 2002]], 1, 0, 0, 56), mm_nop, mm_nop,
  (.ireturn, 1, [], [], 0, 0, 0, 59),
  (.iload_n 2, 1, [], [], 2, 0, 0, 60),
  (.ifCond .lt 35, 3, [(0, 96)], [], 0, 0, 0, 61), mm_nop, mm_nop,
  (.iload_n 2, 1, [], [], 2, 0, 0, 64),
  (.bipush 12, 2, [], [], 0, 12, 0, 65), mm_nop,
  (.if_icmp .ge 29, 3, [(0, 96)], [], 0, 0, 0, 67), mm_nop, mm_nop,
  (.aload_n 0, 1, [], [], 0, 0, 0, 70),
  (.getfield 19, 3, [(9, 1)], [[3228]], 0, 0, 0, 71), mm_nop, mm_nop,
  (.iload_n 3, 1, [], [], 3, 0, 0, 74),
  (.invokevirtual 124, 3, [(6, 92)], [[4067, 3084, 3085, 2003]], 1, 0, 0, 75), mm_nop, mm_nop,
  (.ifCond .eq 18, 3, [(0, 96)], [], 0, 0, 0, 78), mm_nop, mm_nop,
  (.aload_n 0, 1, [], [], 0, 0, 0, 81),
  (.iload 4, 2, [], [], 4, 0, 0, 82), mm_nop,
  (.iload 5, 2, [], [], 5, 0, 0, 84), mm_nop,
  (.invokevirtual 125, 3, [(9, 146)], [[4068, 4070, 1011, 2001]], 2, 0, 0, 86), mm_nop, mm_nop,
  (.ifCond .eq 7, 3, [(0, 96)], [], 0, 0, 0, 89), mm_nop, mm_nop,
  (.iconst 1, 1, [], [], 0, 1, 0, 92),
  (.goto 4, 3, [(0, 97)], [], 0, 0, 0, 93), mm_nop, mm_nop,
  (.iconst 0, 1, [], [], 0, 0, 0, 96),
  (.ireturn, 1, [], [], 0, 0, 0, 97),
  (.aload_n 0, 1, [], [], 0, 0, 0, 98),
  (.getfield 19, 3, [(9, 1)], [[3228]], 0, 0, 0, 99), mm_nop, mm_nop,
  (.iload_n 1, 1, [], [], 1, 0, 0, 102),
  (.invokevirtual 129, 3, [(6, 93)], [[4072, 4073, 4074, 2003]], 1, 0, 0, 103), mm_nop, mm_nop,
  (.ifCond .eq 22, 3, [(0, 128)], [], 0, 0, 0, 106), mm_nop, mm_nop,
  (.aload_n 0, 1, [], [], 0, 0, 0, 109),
  (.getfield 19, 3, [(9, 1)], [[3228]], 0, 0, 0, 110), mm_nop, mm_nop,
  (.iload_n 1, 1, [], [], 1, 0, 0, 113),
  (.iload_n 2, 1, [], [], 2, 0, 0, 114),
  (.iload_n 3, 1, [], [], 3, 0, 0, 115),
  (.iload 4, 2, [], [], 4, 0, 0, 116), mm_nop,
  (.invokevirtual 132, 3, [(6, 99)], [[4076, 4077, 4078, 2003]], 4, 0, 0, 118), mm_nop, mm_nop,
  (.ifCond .eq 7, 3, [(0, 128)], [], 0, 0, 0, 121), mm_nop, mm_nop,
  (.iconst 1, 1, [], [], 0, 1, 0, 124),
  (.goto 4, 3, [(0, 129)], [], 0, 0, 0, 125), mm_nop, mm_nop,
  (.iconst 0, 1, [], [], 0, 0, 0, 128),
  (.ireturn, 1, [], [], 0, 0, 0, 129)]
def mm_m145 : mm_M := (yX11_wantedStands, cX11_wantedStands, 6, (some .boolean), mm_k145, 5, 0, 0, 4066)
/-- TypeCopier.callTypesStand.(II)Z -/
def mm_k146 : List mm_E := [
  (.iload_n 1, 1, [], [], 1, 0, 0, 0),
  (.iconst (-1), 1, [], [], 0, (-1), 0, 1),
  (.if_icmp .ne 14, 3, [(0, 16)], [], 0, 0, 0, 2), mm_nop, mm_nop,
  (.iload_n 2, 1, [], [], 2, 0, 0, 5),
  (.iconst (-1), 1, [], [], 0, (-1), 0, 6),
  (.if_icmp .ne 7, 3, [(0, 14)], [], 0, 0, 0, 7), mm_nop, mm_nop,
  (.iconst 1, 1, [], [], 0, 1, 0, 10),
  (.goto 4, 3, [(0, 15)], [], 0, 0, 0, 11), mm_nop, mm_nop,
  (.iconst 0, 1, [], [], 0, 0, 0, 14),
  (.ireturn, 1, [], [], 0, 0, 0, 15),
  (.aload_n 0, 1, [], [], 0, 0, 0, 16),
  (.getfield 10, 3, [(9, 0)], [[3227]], 0, 0, 0, 17), mm_nop, mm_nop,
  (.iload_n 1, 1, [], [], 1, 0, 0, 20),
  (.invokevirtual 82, 3, [(7, 111)], [[4028, 3222, 3223, 2002]], 1, 0, 0, 21), mm_nop, mm_nop,
  (.ifCond .eq 23, 3, [(0, 47)], [], 0, 0, 0, 24), mm_nop, mm_nop,
  (.iload_n 2, 1, [], [], 2, 0, 0, 27),
  (.iconst (-1), 1, [], [], 0, (-1), 0, 28),
  (.if_icmp .eq 14, 3, [(0, 43)], [], 0, 0, 0, 29), mm_nop, mm_nop,
  (.aload_n 0, 1, [], [], 0, 0, 0, 32),
  (.getfield 10, 3, [(9, 0)], [[3227]], 0, 0, 0, 33), mm_nop, mm_nop,
  (.iload_n 2, 1, [], [], 2, 0, 0, 36),
  (.invokevirtual 82, 3, [(7, 111)], [[4028, 3222, 3223, 2002]], 1, 0, 0, 37), mm_nop, mm_nop,
  (.ifCond .eq 7, 3, [(0, 47)], [], 0, 0, 0, 40), mm_nop, mm_nop,
  (.iconst 1, 1, [], [], 0, 1, 0, 43),
  (.goto 4, 3, [(0, 48)], [], 0, 0, 0, 44), mm_nop, mm_nop,
  (.iconst 0, 1, [], [], 0, 0, 0, 47),
  (.ireturn, 1, [], [], 0, 0, 0, 48)]
def mm_m146 : mm_M := (yX11_callTypesStand, cX11_callTypesStand, 3, (some .boolean), mm_k146, 2, 0, 0, 4071)
/-- TypeCopier.function.(III)I -/
def mm_k147 : List mm_E := [
  (.iload_n 1, 1, [], [], 1, 0, 0, 0),
  (.ifCond .lt 30, 3, [(0, 31)], [], 0, 0, 0, 1), mm_nop, mm_nop,
  (.iload_n 1, 1, [], [], 1, 0, 0, 4),
  (.iconst 2, 1, [], [], 0, 2, 0, 5),
  (.if_icmp .gt 25, 3, [(0, 31)], [], 0, 0, 0, 6), mm_nop, mm_nop,
  (.aload_n 0, 1, [], [], 0, 0, 0, 9),
  (.getfield 10, 3, [(9, 0)], [[3227]], 0, 0, 0, 10), mm_nop, mm_nop,
  (.iload_n 2, 1, [], [], 2, 0, 0, 13),
  (.invokevirtual 82, 3, [(7, 111)], [[4028, 3222, 3223, 2002]], 1, 0, 0, 14), mm_nop, mm_nop,
  (.ifCond .eq 14, 3, [(0, 31)], [], 0, 0, 0, 17), mm_nop, mm_nop,
  (.aload_n 0, 1, [], [], 0, 0, 0, 20),
  (.getfield 10, 3, [(9, 0)], [[3227]], 0, 0, 0, 21), mm_nop, mm_nop,
  (.iload_n 3, 1, [], [], 3, 0, 0, 24),
  (.invokevirtual 82, 3, [(7, 111)], [[4028, 3222, 3223, 2002]], 1, 0, 0, 25), mm_nop, mm_nop,
  (.ifCond .ne 6, 3, [(0, 34)], [], 0, 0, 0, 28), mm_nop, mm_nop,
  (.bipush (-2), 2, [], [], 0, (-2), 0, 31), mm_nop,
  (.ireturn, 1, [], [], 0, 0, 0, 33),
  (.aload_n 0, 1, [], [], 0, 0, 0, 34),
  (.getfield 10, 3, [(9, 0)], [[3227]], 0, 0, 0, 35), mm_nop, mm_nop,
  (.iload_n 2, 1, [], [], 2, 0, 0, 38),
  (.invokevirtual 86, 3, [(7, 112)], [[4029, 3218, 3219, 2002]], 1, 0, 0, 39), mm_nop, mm_nop,
  (.lstore 4, 2, [], [], 4, 0, 0, 42), mm_nop,
  (.aload_n 0, 1, [], [], 0, 0, 0, 44),
  (.getfield 10, 3, [(9, 0)], [[3227]], 0, 0, 0, 45), mm_nop, mm_nop,
  (.iload_n 3, 1, [], [], 3, 0, 0, 48),
  (.invokevirtual 86, 3, [(7, 112)], [[4029, 3218, 3219, 2002]], 1, 0, 0, 49), mm_nop, mm_nop,
  (.lstore 6, 2, [], [], 6, 0, 0, 52), mm_nop,
  (.iload_n 1, 1, [], [], 1, 0, 0, 54),
  (.lload 4, 2, [], [], 4, 0, 0, 55), mm_nop,
  (.invokestatic 136, 3, [(0, 29)], [[4145, 4124, 2004]], 2, 0, 0, 57), mm_nop, mm_nop,
  (.ifCond .eq 12, 3, [(0, 72)], [], 0, 0, 0, 60), mm_nop, mm_nop,
  (.iload_n 1, 1, [], [], 1, 0, 0, 63),
  (.lload 6, 2, [], [], 6, 0, 0, 64), mm_nop,
  (.invokestatic 136, 3, [(0, 29)], [[4145, 4124, 2004]], 2, 0, 0, 66), mm_nop, mm_nop,
  (.ifCond .ne 6, 3, [(0, 75)], [], 0, 0, 0, 69), mm_nop, mm_nop,
  (.bipush (-2), 2, [], [], 0, (-2), 0, 72), mm_nop,
  (.ireturn, 1, [], [], 0, 0, 0, 74),
  (.aload_n 0, 1, [], [], 0, 0, 0, 75),
  (.getfield 26, 3, [(9, 2)], [[3229]], 0, 0, 0, 76), mm_nop, mm_nop,
  (.iload_n 1, 1, [], [], 1, 0, 0, 79),
  (.iload_n 2, 1, [], [], 2, 0, 0, 80),
  (.iload_n 3, 1, [], [], 3, 0, 0, 81),
  (.lload 4, 2, [], [], 4, 0, 0, 82), mm_nop,
  (.lload 6, 2, [], [], 6, 0, 0, 84), mm_nop,
  (.invokevirtual 140, 3, [(2, 30)], [[4146, 4147, 4148, 2004]], 5, 0, 0, 86), mm_nop, mm_nop,
  (.istore 8, 2, [], [], 8, 0, 0, 89), mm_nop,
  (.iload 8, 2, [], [], 8, 0, 0, 91), mm_nop,
  (.bipush (-4), 2, [], [], 0, (-4), 0, 93), mm_nop,
  (.if_icmp .eq 37, 3, [(0, 132)], [], 0, 0, 0, 95), mm_nop, mm_nop,
  (.iconst 0, 1, [], [], 0, 0, 0, 98),
  (.istore 9, 2, [], [], 9, 0, 0, 99), mm_nop,
  (.iload 9, 2, [], [], 9, 0, 0, 101), mm_nop,
  (.aload_n 0, 1, [], [], 0, 0, 0, 103),
  (.getfield 19, 3, [(9, 1)], [[3228]], 0, 0, 0, 104), mm_nop, mm_nop,
  (.invokevirtual 143, 3, [(6, 91)], [[4150, 4151, 4152, 2003]], 0, 0, 0, 107), mm_nop, mm_nop,
  (.if_icmp .ge 18, 3, [(0, 128)], [], 0, 0, 0, 110), mm_nop, mm_nop,
  (.aload_n 0, 1, [], [], 0, 0, 0, 113),
  (.getfield 35, 3, [(9, 3)], [[3230]], 0, 0, 0, 114), mm_nop, mm_nop,
  (.iload 9, 2, [], [], 9, 0, 0, 117), mm_nop,
  (.invokevirtual 120, 3, [(4, 41)], [[4096, 4097, 4098, 2005]], 1, 0, 0, 119), mm_nop, mm_nop,
  (.iinc 9 1, 3, [], [], 9, 1, 0, 122), mm_nop, mm_nop,
  (.goto (-24), 3, [(0, 101)], [], 0, 0, 0, 125), mm_nop, mm_nop,
  (.aload_n 0, 1, [], [], 0, 0, 0, 128),
  (.invokevirtual 79, 3, [(9, 149)], [[3046, 3048, 1000, 2001]], 0, 0, 0, 129), mm_nop, mm_nop,
  (.iload 8, 2, [], [], 8, 0, 0, 132), mm_nop,
  (.ireturn, 1, [], [], 0, 0, 0, 134)]
def mm_m147 : mm_M := (yX11_function, cX11_function, 10, (some .int), mm_k147, 3, 0, 0, 4144)
/-- TypeCopier.body.(II)I -/
def mm_k148 : List mm_E := [
  (.aload_n 0, 1, [], [], 0, 0, 0, 0),
  (.getfield 26, 3, [(9, 2)], [[3229]], 0, 0, 0, 1), mm_nop, mm_nop,
  (.iload_n 1, 1, [], [], 1, 0, 0, 4),
  (.invokevirtual 147, 3, [(2, 24)], [[4158, 3055, 3056, 2004]], 1, 0, 0, 5), mm_nop, mm_nop,
  (.ifCond .eq 14, 3, [(0, 22)], [], 0, 0, 0, 8), mm_nop, mm_nop,
  (.aload_n 0, 1, [], [], 0, 0, 0, 11),
  (.getfield 19, 3, [(9, 1)], [[3228]], 0, 0, 0, 12), mm_nop, mm_nop,
  (.iload_n 2, 1, [], [], 2, 0, 0, 15),
  (.invokevirtual 124, 3, [(6, 92)], [[4067, 3084, 3085, 2003]], 1, 0, 0, 16), mm_nop, mm_nop,
  (.ifCond .ne 6, 3, [(0, 25)], [], 0, 0, 0, 19), mm_nop, mm_nop,
  (.bipush (-2), 2, [], [], 0, (-2), 0, 22), mm_nop,
  (.ireturn, 1, [], [], 0, 0, 0, 24),
  (.aload_n 0, 1, [], [], 0, 0, 0, 25),
  (.getfield 26, 3, [(9, 2)], [[3229]], 0, 0, 0, 26), mm_nop, mm_nop,
  (.iload_n 1, 1, [], [], 1, 0, 0, 29),
  (.iload_n 2, 1, [], [], 2, 0, 0, 30),
  (.aload_n 0, 1, [], [], 0, 0, 0, 31),
  (.getfield 19, 3, [(9, 1)], [[3228]], 0, 0, 0, 32), mm_nop, mm_nop,
  (.iload_n 2, 1, [], [], 2, 0, 0, 35),
  (.invokevirtual 148, 3, [(6, 105)], [[4159, 4160, 4161, 2003]], 1, 0, 0, 36), mm_nop, mm_nop,
  (.invokevirtual 152, 3, [(2, 31)], [[4167, 4168, 4169, 2004]], 3, 0, 0, 39), mm_nop, mm_nop,
  (.aload_n 0, 1, [], [], 0, 0, 0, 42),
  (.invokevirtual 79, 3, [(9, 149)], [[3046, 3048, 1000, 2001]], 0, 0, 0, 43), mm_nop, mm_nop,
  (.iconst 1, 1, [], [], 0, 1, 0, 46),
  (.ireturn, 1, [], [], 0, 0, 0, 47)]
def mm_m148 : mm_M := (yX11_body, cX11_body, 3, (some .int), mm_k148, 2, 0, 0, 4157)
/-- TypeCopier.judgeAnew.()V -/
def mm_k149 : List mm_E := [
  (.aload_n 0, 1, [], [], 0, 0, 0, 0),
  (.aload_n 0, 1, [], [], 0, 0, 0, 1),
  (.getfield 35, 3, [(9, 3)], [[3230]], 0, 0, 0, 2), mm_nop, mm_nop,
  (.invokevirtual 156, 3, [(4, 50)], [[3050, 3051, 3052, 2005]], 0, 0, 0, 5), mm_nop, mm_nop,
  (.putfield 159, 3, [(9, 9)], [[3236]], 0, 0, 0, 8), mm_nop, mm_nop,
  (.aload_n 0, 1, [], [], 0, 0, 0, 11),
  (.aload_n 0, 1, [], [], 0, 0, 0, 12),
  (.getfield 159, 3, [(9, 9)], [[3236]], 0, 0, 0, 13), mm_nop, mm_nop,
  (.ifCond .ne 13, 3, [(0, 29)], [], 0, 0, 0, 16), mm_nop, mm_nop,
  (.aload_n 0, 1, [], [], 0, 0, 0, 19),
  (.getfield 44, 3, [(9, 4)], [[3231]], 0, 0, 0, 20), mm_nop, mm_nop,
  (.invokevirtual 163, 3, [(0, 1)], [[3139, 3140, 3141, 2006]], 0, 0, 0, 23), mm_nop, mm_nop,
  (.goto 5, 3, [(0, 31)], [], 0, 0, 0, 26), mm_nop, mm_nop,
  (.bipush (-3), 2, [], [], 0, (-3), 0, 29), mm_nop,
  (.putfield 166, 3, [(9, 10)], [[3237]], 0, 0, 0, 31), mm_nop, mm_nop,
  (.return_, 1, [], [], 0, 0, 0, 34)]
def mm_m149 : mm_M := (yX11_judgeAnew, cX11_judgeAnew, 1, none, mm_k149, 0, 0, 0, 3049)
/-- TypeCopier.typeIn.(II)I -/
def mm_k150 : List mm_E := [
  (.aload_n 0, 1, [], [], 0, 0, 0, 0),
  (.getfield 26, 3, [(9, 2)], [[3229]], 0, 0, 0, 1), mm_nop, mm_nop,
  (.iload_n 1, 1, [], [], 1, 0, 0, 4),
  (.invokevirtual 147, 3, [(2, 24)], [[4158, 3055, 3056, 2004]], 1, 0, 0, 5), mm_nop, mm_nop,
  (.ifCond .eq 14, 3, [(0, 22)], [], 0, 0, 0, 8), mm_nop, mm_nop,
  (.aload_n 0, 1, [], [], 0, 0, 0, 11),
  (.getfield 19, 3, [(9, 1)], [[3228]], 0, 0, 0, 12), mm_nop, mm_nop,
  (.iload_n 2, 1, [], [], 2, 0, 0, 15),
  (.invokevirtual 124, 3, [(6, 92)], [[4067, 3084, 3085, 2003]], 1, 0, 0, 16), mm_nop, mm_nop,
  (.ifCond .ne 6, 3, [(0, 25)], [], 0, 0, 0, 19), mm_nop, mm_nop,
  (.bipush (-2), 2, [], [], 0, (-2), 0, 22), mm_nop,
  (.ireturn, 1, [], [], 0, 0, 0, 24),
  (.aload_n 0, 1, [], [], 0, 0, 0, 25),
  (.getfield 10, 3, [(9, 0)], [[3227]], 0, 0, 0, 26), mm_nop, mm_nop,
  (.aload_n 0, 1, [], [], 0, 0, 0, 29),
  (.getfield 35, 3, [(9, 3)], [[3230]], 0, 0, 0, 30), mm_nop, mm_nop,
  (.iload_n 1, 1, [], [], 1, 0, 0, 33),
  (.iload_n 2, 1, [], [], 2, 0, 0, 34),
  (.invokevirtual 169, 3, [(4, 43)], [[4175, 3080, 3081, 2005]], 2, 0, 0, 35), mm_nop, mm_nop,
  (.invokevirtual 173, 3, [(7, 113)], [[4176, 4036, 4037, 2002]], 1, 0, 0, 38), mm_nop, mm_nop,
  (.ireturn, 1, [], [], 0, 0, 0, 41)]
def mm_m150 : mm_M := (yX11_typeIn, cX11_typeIn, 3, (some .int), mm_k150, 2, 0, 0, 4174)
/-- TypeCopier.wrong.(I)I -/
def mm_k151 : List mm_E := [
  (.aload_n 0, 1, [], [], 0, 0, 0, 0),
  (.getfield 26, 3, [(9, 2)], [[3229]], 0, 0, 0, 1), mm_nop, mm_nop,
  (.iload_n 1, 1, [], [], 1, 0, 0, 4),
  (.invokevirtual 147, 3, [(2, 24)], [[4158, 3055, 3056, 2004]], 1, 0, 0, 5), mm_nop, mm_nop,
  (.ifCond .ne 6, 3, [(0, 14)], [], 0, 0, 0, 8), mm_nop, mm_nop,
  (.bipush (-2), 2, [], [], 0, (-2), 0, 11), mm_nop,
  (.ireturn, 1, [], [], 0, 0, 0, 13),
  (.aload_n 0, 1, [], [], 0, 0, 0, 14),
  (.getfield 26, 3, [(9, 2)], [[3229]], 0, 0, 0, 15), mm_nop, mm_nop,
  (.iload_n 1, 1, [], [], 1, 0, 0, 18),
  (.invokevirtual 176, 3, [(2, 28)], [[4181, 3072, 3073, 2004]], 1, 0, 0, 19), mm_nop, mm_nop,
  (.iconst (-1), 1, [], [], 0, (-1), 0, 22),
  (.if_icmp .ne 6, 3, [(0, 29)], [], 0, 0, 0, 23), mm_nop, mm_nop,
  (.bipush (-3), 2, [], [], 0, (-3), 0, 26), mm_nop,
  (.ireturn, 1, [], [], 0, 0, 0, 28),
  (.aload_n 0, 1, [], [], 0, 0, 0, 29),
  (.getfield 35, 3, [(9, 3)], [[3230]], 0, 0, 0, 30), mm_nop, mm_nop,
  (.iload_n 1, 1, [], [], 1, 0, 0, 33),
  (.invokevirtual 179, 3, [(4, 49)], [[4182, 4183, 4184, 2005]], 1, 0, 0, 34), mm_nop, mm_nop,
  (.ireturn, 1, [], [], 0, 0, 0, 37)]
def mm_m151 : mm_M := (yX11_wrong, cX11_wrong, 2, (some .int), mm_k151, 1, 0, 0, 4180)
/-- TypeCopier.reaches.(II)I -/
def mm_k152 : List mm_E := [
  (.aload_n 0, 1, [], [], 0, 0, 0, 0),
  (.getfield 26, 3, [(9, 2)], [[3229]], 0, 0, 0, 1), mm_nop, mm_nop,
  (.iload_n 1, 1, [], [], 1, 0, 0, 4),
  (.invokevirtual 147, 3, [(2, 24)], [[4158, 3055, 3056, 2004]], 1, 0, 0, 5), mm_nop, mm_nop,
  (.ifCond .eq 14, 3, [(0, 22)], [], 0, 0, 0, 8), mm_nop, mm_nop,
  (.aload_n 0, 1, [], [], 0, 0, 0, 11),
  (.getfield 26, 3, [(9, 2)], [[3229]], 0, 0, 0, 12), mm_nop, mm_nop,
  (.iload_n 2, 1, [], [], 2, 0, 0, 15),
  (.invokevirtual 147, 3, [(2, 24)], [[4158, 3055, 3056, 2004]], 1, 0, 0, 16), mm_nop, mm_nop,
  (.ifCond .ne 6, 3, [(0, 25)], [], 0, 0, 0, 19), mm_nop, mm_nop,
  (.bipush (-2), 2, [], [], 0, (-2), 0, 22), mm_nop,
  (.ireturn, 1, [], [], 0, 0, 0, 24),
  (.aload_n 0, 1, [], [], 0, 0, 0, 25),
  (.getfield 26, 3, [(9, 2)], [[3229]], 0, 0, 0, 26), mm_nop, mm_nop,
  (.iload_n 1, 1, [], [], 1, 0, 0, 29),
  (.invokevirtual 182, 3, [(2, 32)], [[4190, 3064, 3065, 2004]], 1, 0, 0, 30), mm_nop, mm_nop,
  (.iload_n 2, 1, [], [], 2, 0, 0, 33),
  (.ishr, 1, [], [], 0, 0, 0, 34),
  (.iconst 1, 1, [], [], 0, 1, 0, 35),
  (.iand, 1, [], [], 0, 0, 0, 36),
  (.ireturn, 1, [], [], 0, 0, 0, 37)]
def mm_m152 : mm_M := (yX11_reaches, cX11_reaches, 3, (some .int), mm_k152, 2, 0, 0, 4189)
/-- TypeCopier.judge.()I -/
def mm_k153 : List mm_E := [
  (.aload_n 0, 1, [], [], 0, 0, 0, 0),
  (.getfield 159, 3, [(9, 9)], [[3236]], 0, 0, 0, 1), mm_nop, mm_nop,
  (.ireturn, 1, [], [], 0, 0, 0, 4)]
def mm_m153 : mm_M := (yX11_judge, cX11_judge, 1, (some .int), mm_k153, 0, 0, 0, 4194)
/-- TypeCopier.copies.()I -/
def mm_k154 : List mm_E := [
  (.aload_n 0, 1, [], [], 0, 0, 0, 0),
  (.getfield 166, 3, [(9, 10)], [[3237]], 0, 0, 0, 1), mm_nop, mm_nop,
  (.ireturn, 1, [], [], 0, 0, 0, 4)]
def mm_m154 : mm_M := (yX11_copies, cX11_copies, 1, (some .int), mm_k154, 0, 0, 0, 4198)
/-- TypeCopier.copy.(II)I -/
def mm_k155 : List mm_E := [
  (.iload_n 2, 1, [], [], 2, 0, 0, 0),
  (.ifCond .lt 8, 3, [(0, 9)], [], 0, 0, 0, 1), mm_nop, mm_nop,
  (.iload_n 2, 1, [], [], 2, 0, 0, 4),
  (.iconst 5, 1, [], [], 0, 5, 0, 5),
  (.if_icmp .le 6, 3, [(0, 12)], [], 0, 0, 0, 6), mm_nop, mm_nop,
  (.bipush (-2), 2, [], [], 0, (-2), 0, 9), mm_nop,
  (.ireturn, 1, [], [], 0, 0, 0, 11),
  (.iload_n 1, 1, [], [], 1, 0, 0, 12),
  (.ifCond .lt 11, 3, [(0, 24)], [], 0, 0, 0, 13), mm_nop, mm_nop,
  (.iload_n 1, 1, [], [], 1, 0, 0, 16),
  (.aload_n 0, 1, [], [], 0, 0, 0, 17),
  (.getfield 166, 3, [(9, 10)], [[3237]], 0, 0, 0, 18), mm_nop, mm_nop,
  (.if_icmp .lt 5, 3, [(0, 26)], [], 0, 0, 0, 21), mm_nop, mm_nop,
  (.iconst (-1), 1, [], [], 0, (-1), 0, 24),
  (.ireturn, 1, [], [], 0, 0, 0, 25),
  (.aload_n 0, 1, [], [], 0, 0, 0, 26),
  (.getfield 44, 3, [(9, 4)], [[3231]], 0, 0, 0, 27), mm_nop, mm_nop,
  (.iload_n 1, 1, [], [], 1, 0, 0, 30),
  (.iload_n 2, 1, [], [], 2, 0, 0, 31),
  (.invokevirtual 185, 3, [(0, 11)], [[4203, 4204, 4205, 2006]], 2, 0, 0, 32), mm_nop, mm_nop,
  (.ireturn, 1, [], [], 0, 0, 0, 35)]
def mm_m155 : mm_M := (yX11_copy, cX11_copy, 3, (some .int), mm_k155, 2, 0, 0, 4202)
/-- TypeCopier.input.(I)I -/
def mm_k156 : List mm_E := [
  (.aload_n 0, 1, [], [], 0, 0, 0, 0),
  (.getfield 51, 3, [(9, 5)], [[3232]], 0, 0, 0, 1), mm_nop, mm_nop,
  (.iload_n 1, 1, [], [], 1, 0, 0, 4),
  (.invokevirtual 186, 3, [(3, 36)], [[4212, 4213, 4214, 2007]], 1, 0, 0, 5), mm_nop, mm_nop,
  (.ireturn, 1, [], [], 0, 0, 0, 8)]
def mm_m156 : mm_M := (yX11_input, cX11_input, 2, (some .int), mm_k156, 1, 0, 0, 4211)
/-- TypeCopier.empty.()I -/
def mm_k157 : List mm_E := [
  (.aload_n 0, 1, [], [], 0, 0, 0, 0),
  (.getfield 51, 3, [(9, 5)], [[3232]], 0, 0, 0, 1), mm_nop, mm_nop,
  (.invokevirtual 188, 3, [(3, 37)], [[4220, 4221, 4222, 2007]], 0, 0, 0, 4), mm_nop, mm_nop,
  (.ireturn, 1, [], [], 0, 0, 0, 7)]
def mm_m157 : mm_M := (yX11_empty, cX11_empty, 1, (some .int), mm_k157, 0, 0, 0, 4219)
/-- TypeCopier.run.()I -/
def mm_k158 : List mm_E := [
  (.aload_n 0, 1, [], [], 0, 0, 0, 0),
  (.getfield 159, 3, [(9, 9)], [[3236]], 0, 0, 0, 1), mm_nop, mm_nop,
  (.ifCond .eq 6, 3, [(0, 10)], [], 0, 0, 0, 4), mm_nop, mm_nop,
  (.bipush (-3), 2, [], [], 0, (-3), 0, 7), mm_nop,
  (.ireturn, 1, [], [], 0, 0, 0, 9),
  (.aload_n 0, 1, [], [], 0, 0, 0, 10),
  (.getfield 191, 3, [(9, 11)], [[3238]], 0, 0, 0, 11), mm_nop, mm_nop,
  (.sipush 160, 3, [], [], 0, 160, 0, 14), mm_nop, mm_nop,
  (.if_icmp .lt 6, 3, [(0, 23)], [], 0, 0, 0, 17), mm_nop, mm_nop,
  (.bipush (-4), 2, [], [], 0, (-4), 0, 20), mm_nop,
  (.ireturn, 1, [], [], 0, 0, 0, 22),
  (.aload_n 0, 1, [], [], 0, 0, 0, 23),
  (.dup, 1, [], [], 0, 0, 0, 24),
  (.getfield 191, 3, [(9, 11)], [[3238]], 0, 0, 0, 25), mm_nop, mm_nop,
  (.iconst 1, 1, [], [], 0, 1, 0, 28),
  (.iadd, 1, [], [], 0, 0, 0, 29),
  (.putfield 191, 3, [(9, 11)], [[3238]], 0, 0, 0, 30), mm_nop, mm_nop,
  (.aload_n 0, 1, [], [], 0, 0, 0, 33),
  (.getfield 67, 3, [(9, 7)], [[3234]], 0, 0, 0, 34), mm_nop, mm_nop,
  (.aload_n 0, 1, [], [], 0, 0, 0, 37),
  (.getfield 26, 3, [(9, 2)], [[3229]], 0, 0, 0, 38), mm_nop, mm_nop,
  (.iconst 0, 1, [], [], 0, 0, 0, 41),
  (.invokevirtual 194, 3, [(2, 26)], [[4228, 3157, 3158, 2004]], 1, 0, 0, 42), mm_nop, mm_nop,
  (.aload_n 0, 1, [], [], 0, 0, 0, 45),
  (.getfield 26, 3, [(9, 2)], [[3229]], 0, 0, 0, 46), mm_nop, mm_nop,
  (.iconst 0, 1, [], [], 0, 0, 0, 49),
  (.invokevirtual 197, 3, [(2, 27)], [[4229, 3089, 3090, 2004]], 1, 0, 0, 50), mm_nop, mm_nop,
  (.invokevirtual 200, 3, [(5, 66), (1, 66)], [[4230, 4232, 4234, 4231, 2009], [4230, 4232, 4233, 4231, 2009]], 2, 0, 0, 53), mm_nop, mm_nop,
  (.ireturn, 1, [], [], 0, 0, 0, 56)]
def mm_m158 : mm_M := (yX11_run, cX11_run, 1, (some .int), mm_k158, 0, 0, 0, 4227)
/-- TypeCopier.runCopies.()I -/
def mm_k159 : List mm_E := [
  (.aload_n 0, 1, [], [], 0, 0, 0, 0),
  (.getfield 166, 3, [(9, 10)], [[3237]], 0, 0, 0, 1), mm_nop, mm_nop,
  (.ifCond .ge 8, 3, [(0, 12)], [], 0, 0, 0, 4), mm_nop, mm_nop,
  (.aload_n 0, 1, [], [], 0, 0, 0, 7),
  (.getfield 166, 3, [(9, 10)], [[3237]], 0, 0, 0, 8), mm_nop, mm_nop,
  (.ireturn, 1, [], [], 0, 0, 0, 11),
  (.aload_n 0, 1, [], [], 0, 0, 0, 12),
  (.getfield 76, 3, [(9, 8)], [[3235]], 0, 0, 0, 13), mm_nop, mm_nop,
  (.aload_n 0, 1, [], [], 0, 0, 0, 16),
  (.getfield 26, 3, [(9, 2)], [[3229]], 0, 0, 0, 17), mm_nop, mm_nop,
  (.iconst 0, 1, [], [], 0, 0, 0, 20),
  (.invokevirtual 194, 3, [(2, 26)], [[4228, 3157, 3158, 2004]], 1, 0, 0, 21), mm_nop, mm_nop,
  (.aload_n 0, 1, [], [], 0, 0, 0, 24),
  (.getfield 26, 3, [(9, 2)], [[3229]], 0, 0, 0, 25), mm_nop, mm_nop,
  (.iconst 0, 1, [], [], 0, 0, 0, 28),
  (.invokevirtual 197, 3, [(2, 27)], [[4229, 3089, 3090, 2004]], 1, 0, 0, 29), mm_nop, mm_nop,
  (.invokevirtual 200, 3, [(5, 66), (1, 66)], [[4230, 4232, 4234, 4231, 2009], [4230, 4232, 4233, 4231, 2009]], 2, 0, 0, 32), mm_nop, mm_nop,
  (.ireturn, 1, [], [], 0, 0, 0, 35)]
def mm_m159 : mm_M := (yX11_runCopies, cX11_runCopies, 1, (some .int), mm_k159, 0, 0, 0, 6040)
/-- TypeCopier.result.(I)I -/
def mm_k160 : List mm_E := [
  (.aload_n 0, 1, [], [], 0, 0, 0, 0),
  (.getfield 58, 3, [(9, 6)], [[3233]], 0, 0, 0, 1), mm_nop, mm_nop,
  (.iload_n 1, 1, [], [], 1, 0, 0, 4),
  (.invokevirtual 206, 3, [(8, 126)], [[6045, 6046, 6047, 2008]], 1, 0, 0, 5), mm_nop, mm_nop,
  (.ireturn, 1, [], [], 0, 0, 0, 8)]
def mm_m160 : mm_M := (yX11_result, cX11_result, 2, (some .int), mm_k160, 1, 0, 0, 6044)
/-- TypeCopier.told.(I)I -/
def mm_k161 : List mm_E := [
  (.aload_n 0, 1, [], [], 0, 0, 0, 0),
  (.getfield 58, 3, [(9, 6)], [[3233]], 0, 0, 0, 1), mm_nop, mm_nop,
  (.iload_n 1, 1, [], [], 1, 0, 0, 4),
  (.invokevirtual 209, 3, [(8, 127)], [[6053, 6054, 6055, 2008]], 1, 0, 0, 5), mm_nop, mm_nop,
  (.ireturn, 1, [], [], 0, 0, 0, 8)]
def mm_m161 : mm_M := (yX11_told, cX11_told, 2, (some .int), mm_k161, 1, 0, 0, 6052)
/-- TypeCopier.count.(I)I -/
def mm_k162 : List mm_E := [
  (.iload_n 1, 1, [], [], 1, 0, 0, 0),
  (.tableswitch 63 0 3 #[31, 39, 47, 55], 31, [(0, 64), (0, 32), (1, 40), (2, 48), (3, 56)], [], 0, 0, 0, 1), mm_nop, mm_nop, mm_nop, mm_nop, mm_nop, mm_nop, mm_nop, mm_nop, mm_nop, mm_nop, mm_nop, mm_nop, mm_nop, mm_nop, mm_nop, mm_nop, mm_nop, mm_nop, mm_nop, mm_nop, mm_nop, mm_nop, mm_nop, mm_nop, mm_nop, mm_nop, mm_nop, mm_nop, mm_nop, mm_nop,
  (.aload_n 0, 1, [], [], 0, 0, 0, 32),
  (.getfield 10, 3, [(9, 0)], [[3227]], 0, 0, 0, 33), mm_nop, mm_nop,
  (.invokevirtual 211, 3, [(7, 110)], [[6061, 6062, 6063, 2002]], 0, 0, 0, 36), mm_nop, mm_nop,
  (.ireturn, 1, [], [], 0, 0, 0, 39),
  (.aload_n 0, 1, [], [], 0, 0, 0, 40),
  (.getfield 19, 3, [(9, 1)], [[3228]], 0, 0, 0, 41), mm_nop, mm_nop,
  (.invokevirtual 143, 3, [(6, 91)], [[4150, 4151, 4152, 2003]], 0, 0, 0, 44), mm_nop, mm_nop,
  (.ireturn, 1, [], [], 0, 0, 0, 47),
  (.aload_n 0, 1, [], [], 0, 0, 0, 48),
  (.getfield 26, 3, [(9, 2)], [[3229]], 0, 0, 0, 49), mm_nop, mm_nop,
  (.invokevirtual 212, 3, [(2, 23)], [[6065, 4101, 4102, 2004]], 0, 0, 0, 52), mm_nop, mm_nop,
  (.ireturn, 1, [], [], 0, 0, 0, 55),
  (.aload_n 0, 1, [], [], 0, 0, 0, 56),
  (.getfield 51, 3, [(9, 5)], [[3232]], 0, 0, 0, 57), mm_nop, mm_nop,
  (.invokevirtual 213, 3, [(3, 35)], [[6066, 6067, 6068, 2007]], 0, 0, 0, 60), mm_nop, mm_nop,
  (.ireturn, 1, [], [], 0, 0, 0, 63),
  (.bipush (-2), 2, [], [], 0, (-2), 0, 64), mm_nop,
  (.ireturn, 1, [], [], 0, 0, 0, 66)]
def mm_m162 : mm_M := (yX11_count, cX11_count, 2, (some .int), mm_k162, 1, 0, 0, 6060)
/-- TypeCopier.digest.()J -/
def mm_k163 : List mm_E := [
  (.ldc2_w 214, 3, [], [[6074]], 0, 0, 61, 0), mm_nop, mm_nop,
  (.lstore_n 1, 1, [], [], 1, 0, 0, 3),
  (.iconst 0, 1, [], [], 0, 0, 0, 4),
  (.istore_n 3, 1, [], [], 3, 0, 0, 5),
  (.iload_n 3, 1, [], [], 3, 0, 0, 6),
  (.aload_n 0, 1, [], [], 0, 0, 0, 7),
  (.getfield 10, 3, [(9, 0)], [[3227]], 0, 0, 0, 8), mm_nop, mm_nop,
  (.invokevirtual 211, 3, [(7, 110)], [[6061, 6062, 6063, 2002]], 0, 0, 0, 11), mm_nop, mm_nop,
  (.if_icmp .ge 42, 3, [(0, 56)], [], 0, 0, 0, 14), mm_nop, mm_nop,
  (.iconst 0, 1, [], [], 0, 0, 0, 17),
  (.istore 4, 2, [], [], 4, 0, 0, 18), mm_nop,
  (.iload 4, 2, [], [], 4, 0, 0, 20), mm_nop,
  (.iconst 3, 1, [], [], 0, 3, 0, 22),
  (.if_icmp .gt 27, 3, [(0, 50)], [], 0, 0, 0, 23), mm_nop, mm_nop,
  (.ldc2_w 216, 3, [], [[6075]], 0, 0, 31, 26), mm_nop, mm_nop,
  (.lload_n 1, 1, [], [], 1, 0, 0, 29),
  (.lmul, 1, [], [], 0, 0, 0, 30),
  (.aload_n 0, 1, [], [], 0, 0, 0, 31),
  (.getfield 10, 3, [(9, 0)], [[3227]], 0, 0, 0, 32), mm_nop, mm_nop,
  (.iload_n 3, 1, [], [], 3, 0, 0, 35),
  (.iload 4, 2, [], [], 4, 0, 0, 36), mm_nop,
  (.invokevirtual 104, 3, [(7, 115)], [[4048, 4049, 4050, 2002]], 2, 0, 0, 38), mm_nop, mm_nop,
  (.i2l, 1, [], [], 0, 0, 0, 41),
  (.ladd, 1, [], [], 0, 0, 0, 42),
  (.lstore_n 1, 1, [], [], 1, 0, 0, 43),
  (.iinc 4 1, 3, [], [], 4, 1, 0, 44), mm_nop, mm_nop,
  (.goto (-27), 3, [(0, 20)], [], 0, 0, 0, 47), mm_nop, mm_nop,
  (.iinc 3 1, 3, [], [], 3, 1, 0, 50), mm_nop, mm_nop,
  (.goto (-47), 3, [(0, 6)], [], 0, 0, 0, 53), mm_nop, mm_nop,
  (.aload_n 0, 1, [], [], 0, 0, 0, 56),
  (.getfield 26, 3, [(9, 2)], [[3229]], 0, 0, 0, 57), mm_nop, mm_nop,
  (.aload_n 0, 1, [], [], 0, 0, 0, 60),
  (.getfield 19, 3, [(9, 1)], [[3228]], 0, 0, 0, 61), mm_nop, mm_nop,
  (.lload_n 1, 1, [], [], 1, 0, 0, 64),
  (.invokevirtual 218, 3, [(6, 108)], [[6076, 6077, 6078, 2003]], 1, 0, 0, 65), mm_nop, mm_nop,
  (.invokevirtual 221, 3, [(2, 33)], [[6087, 6088, 6089, 2004]], 1, 0, 0, 68), mm_nop, mm_nop,
  (.lreturn, 1, [], [], 0, 0, 0, 71)]
def mm_m163 : mm_M := (yX11_digest, cX11_digest, 5, (some .long), mm_k163, 0, 0, 0, 6073)
/-- TypeCopierModel.in.(III)Z -/
def mm_k164 : List mm_E := [
  (.iload_n 0, 1, [], [], 0, 0, 0, 0),
  (.iload_n 1, 1, [], [], 1, 0, 0, 1),
  (.if_icmp .lt 12, 3, [(0, 14)], [], 0, 0, 0, 2), mm_nop, mm_nop,
  (.iload_n 0, 1, [], [], 0, 0, 0, 5),
  (.iload_n 2, 1, [], [], 2, 0, 0, 6),
  (.if_icmp .gt 7, 3, [(0, 14)], [], 0, 0, 0, 7), mm_nop, mm_nop,
  (.iconst 1, 1, [], [], 0, 1, 0, 10),
  (.goto 4, 3, [(0, 15)], [], 0, 0, 0, 11), mm_nop, mm_nop,
  (.iconst 0, 1, [], [], 0, 0, 0, 14),
  (.ireturn, 1, [], [], 0, 0, 0, 15)]
def mm_m164 : mm_M := (yX12_in, cX12_in, 3, (some .boolean), mm_k164, 3, 0, 0, 7071)
/-- TypeCopierModel.<init>.()V -/
def mm_k165 : List mm_E := [
  (.aload_n 0, 1, [], [], 0, 0, 0, 0),
  (.invokespecial 1, 3, [], [[6097, 2022, 2023]], 0, 0, 0, 1), mm_nop, mm_nop,
  (.aload_n 0, 1, [], [], 0, 0, 0, 4),
  (.iconst 4, 1, [], [], 0, 4, 0, 5),
  (.putfield 7, 3, [(10, 0)], [[6098]], 0, 0, 0, 6), mm_nop, mm_nop,
  (.aload_n 0, 1, [], [], 0, 0, 0, 9),
  (.sipush 200, 3, [], [], 0, 200, 0, 10), mm_nop, mm_nop,
  (.putfield 13, 3, [(10, 1)], [[6099]], 0, 0, 0, 13), mm_nop, mm_nop,
  (.aload_n 0, 1, [], [], 0, 0, 0, 16),
  (.sipush 8000, 3, [], [], 0, 8000, 0, 17), mm_nop, mm_nop,
  (.newarray .int, 2, [(0, 8000)], [[2066]], 0, 0, 0, 20), mm_nop,
  (.putfield 16, 3, [(10, 2)], [[6100]], 1, 0, 0, 22), mm_nop, mm_nop,
  (.aload_n 0, 1, [], [], 0, 0, 0, 25),
  (.sipush 8000, 3, [], [], 0, 8000, 0, 26), mm_nop, mm_nop,
  (.newarray .int, 2, [(0, 8000)], [[2066]], 0, 0, 0, 29), mm_nop,
  (.putfield 20, 3, [(10, 3)], [[6101]], 1, 0, 0, 31), mm_nop, mm_nop,
  (.aload_n 0, 1, [], [], 0, 0, 0, 34),
  (.sipush 8000, 3, [], [], 0, 8000, 0, 35), mm_nop, mm_nop,
  (.newarray .int, 2, [(0, 8000)], [[2066]], 0, 0, 0, 38), mm_nop,
  (.putfield 23, 3, [(10, 4)], [[6102]], 1, 0, 0, 40), mm_nop, mm_nop,
  (.aload_n 0, 1, [], [], 0, 0, 0, 43),
  (.sipush 8000, 3, [], [], 0, 8000, 0, 44), mm_nop, mm_nop,
  (.newarray .int, 2, [(0, 8000)], [[2066]], 0, 0, 0, 47), mm_nop,
  (.putfield 26, 3, [(10, 5)], [[6103]], 1, 0, 0, 49), mm_nop, mm_nop,
  (.aload_n 0, 1, [], [], 0, 0, 0, 52),
  (.sipush 8000, 3, [], [], 0, 8000, 0, 53), mm_nop, mm_nop,
  (.newarray .int, 2, [(0, 8000)], [[2066]], 0, 0, 0, 56), mm_nop,
  (.putfield 29, 3, [(10, 6)], [[6104]], 1, 0, 0, 58), mm_nop, mm_nop,
  (.aload_n 0, 1, [], [], 0, 0, 0, 61),
  (.sipush 8000, 3, [], [], 0, 8000, 0, 62), mm_nop, mm_nop,
  (.newarray .int, 2, [(0, 8000)], [[2066]], 0, 0, 0, 65), mm_nop,
  (.putfield 32, 3, [(10, 7)], [[6105]], 1, 0, 0, 67), mm_nop, mm_nop,
  (.aload_n 0, 1, [], [], 0, 0, 0, 70),
  (.sipush 8000, 3, [], [], 0, 8000, 0, 71), mm_nop, mm_nop,
  (.newarray .int, 2, [(0, 8000)], [[2066]], 0, 0, 0, 74), mm_nop,
  (.putfield 35, 3, [(10, 8)], [[6106]], 1, 0, 0, 76), mm_nop, mm_nop,
  (.aload_n 0, 1, [], [], 0, 0, 0, 79),
  (.sipush 16384, 3, [], [], 0, 16384, 0, 80), mm_nop, mm_nop,
  (.newarray .int, 2, [(0, 16384)], [[2066]], 0, 0, 0, 83), mm_nop,
  (.putfield 38, 3, [(10, 9)], [[6107]], 1, 0, 0, 85), mm_nop, mm_nop,
  (.aload_n 0, 1, [], [], 0, 0, 0, 88),
  (.bipush 64, 2, [], [], 0, 64, 0, 89), mm_nop,
  (.newarray .int, 2, [(0, 64)], [[2066]], 0, 0, 0, 91), mm_nop,
  (.putfield 41, 3, [(10, 10)], [[6108]], 1, 0, 0, 93), mm_nop, mm_nop,
  (.aload_n 0, 1, [], [], 0, 0, 0, 96),
  (.bipush 64, 2, [], [], 0, 64, 0, 97), mm_nop,
  (.newarray .boolean, 2, [(2, 64)], [[7060]], 0, 0, 0, 99), mm_nop,
  (.putfield 44, 3, [(10, 11)], [[6109]], 1, 0, 0, 101), mm_nop, mm_nop,
  (.aload_n 0, 1, [], [], 0, 0, 0, 104),
  (.bipush 64, 2, [], [], 0, 64, 0, 105), mm_nop,
  (.newarray .int, 2, [(0, 64)], [[2066]], 0, 0, 0, 107), mm_nop,
  (.putfield 48, 3, [(10, 12)], [[6110]], 1, 0, 0, 109), mm_nop, mm_nop,
  (.aload_n 0, 1, [], [], 0, 0, 0, 112),
  (.sipush 200, 3, [], [], 0, 200, 0, 113), mm_nop, mm_nop,
  (.newarray .int, 2, [(0, 200)], [[2066]], 0, 0, 0, 116), mm_nop,
  (.putfield 51, 3, [(10, 14)], [[6112]], 1, 0, 0, 118), mm_nop, mm_nop,
  (.aload_n 0, 1, [], [], 0, 0, 0, 121),
  (.sipush 200, 3, [], [], 0, 200, 0, 122), mm_nop, mm_nop,
  (.newarray .int, 2, [(0, 200)], [[2066]], 0, 0, 0, 125), mm_nop,
  (.putfield 54, 3, [(10, 15)], [[6113]], 1, 0, 0, 127), mm_nop, mm_nop,
  (.aload_n 0, 1, [], [], 0, 0, 0, 130),
  (.sipush 200, 3, [], [], 0, 200, 0, 131), mm_nop, mm_nop,
  (.newarray .int, 2, [(0, 200)], [[2066]], 0, 0, 0, 134), mm_nop,
  (.putfield 57, 3, [(10, 16)], [[6114]], 1, 0, 0, 136), mm_nop, mm_nop,
  (.aload_n 0, 1, [], [], 0, 0, 0, 139),
  (.sipush 200, 3, [], [], 0, 200, 0, 140), mm_nop, mm_nop,
  (.newarray .int, 2, [(0, 200)], [[2066]], 0, 0, 0, 143), mm_nop,
  (.putfield 60, 3, [(10, 17)], [[6115]], 1, 0, 0, 145), mm_nop, mm_nop,
  (.aload_n 0, 1, [], [], 0, 0, 0, 148),
  (.sipush 200, 3, [], [], 0, 200, 0, 149), mm_nop, mm_nop,
  (.newarray .int, 2, [(0, 200)], [[2066]], 0, 0, 0, 152), mm_nop,
  (.putfield 63, 3, [(10, 18)], [[6116]], 1, 0, 0, 154), mm_nop, mm_nop,
  (.aload_n 0, 1, [], [], 0, 0, 0, 157),
  (.sipush 200, 3, [], [], 0, 200, 0, 158), mm_nop, mm_nop,
  (.newarray .int, 2, [(0, 200)], [[2066]], 0, 0, 0, 161), mm_nop,
  (.putfield 66, 3, [(10, 19)], [[6117]], 1, 0, 0, 163), mm_nop, mm_nop,
  (.aload_n 0, 1, [], [], 0, 0, 0, 166),
  (.bipush 12, 2, [], [], 0, 12, 0, 167), mm_nop,
  (.newarray .int, 2, [(0, 12)], [[2066]], 0, 0, 0, 169), mm_nop,
  (.putfield 69, 3, [(10, 21)], [[6119]], 1, 0, 0, 171), mm_nop, mm_nop,
  (.aload_n 0, 1, [], [], 0, 0, 0, 174),
  (.bipush 12, 2, [], [], 0, 12, 0, 175), mm_nop,
  (.newarray .int, 2, [(0, 12)], [[2066]], 0, 0, 0, 177), mm_nop,
  (.putfield 72, 3, [(10, 22)], [[6120]], 1, 0, 0, 179), mm_nop, mm_nop,
  (.aload_n 0, 1, [], [], 0, 0, 0, 182),
  (.bipush 12, 2, [], [], 0, 12, 0, 183), mm_nop,
  (.newarray .int, 2, [(0, 12)], [[2066]], 0, 0, 0, 185), mm_nop,
  (.putfield 75, 3, [(10, 23)], [[6121]], 1, 0, 0, 187), mm_nop, mm_nop,
  (.aload_n 0, 1, [], [], 0, 0, 0, 190),
  (.bipush 12, 2, [], [], 0, 12, 0, 191), mm_nop,
  (.newarray .int, 2, [(0, 12)], [[2066]], 0, 0, 0, 193), mm_nop,
  (.putfield 78, 3, [(10, 24)], [[6122]], 1, 0, 0, 195), mm_nop, mm_nop,
  (.aload_n 0, 1, [], [], 0, 0, 0, 198),
  (.sipush 200, 3, [], [], 0, 200, 0, 199), mm_nop, mm_nop,
  (.newarray .int, 2, [(0, 200)], [[2066]], 0, 0, 0, 202), mm_nop,
  (.putfield 81, 3, [(10, 25)], [[6123]], 1, 0, 0, 204), mm_nop, mm_nop,
  (.aload_n 0, 1, [], [], 0, 0, 0, 207),
  (.sipush 200, 3, [], [], 0, 200, 0, 208), mm_nop, mm_nop,
  (.newarray .boolean, 2, [(2, 200)], [[7060]], 0, 0, 0, 211), mm_nop,
  (.putfield 84, 3, [(10, 26)], [[6124]], 1, 0, 0, 213), mm_nop, mm_nop,
  (.aload_n 0, 1, [], [], 0, 0, 0, 216),
  (.sipush 144, 3, [], [], 0, 144, 0, 217), mm_nop, mm_nop,
  (.newarray .boolean, 2, [(2, 144)], [[7060]], 0, 0, 0, 220), mm_nop,
  (.putfield 87, 3, [(10, 27)], [[6125]], 1, 0, 0, 222), mm_nop, mm_nop,
  (.aload_n 0, 1, [], [], 0, 0, 0, 225),
  (.sipush 2400, 3, [], [], 0, 2400, 0, 226), mm_nop, mm_nop,
  (.newarray .int, 2, [(0, 2400)], [[2066]], 0, 0, 0, 229), mm_nop,
  (.putfield 90, 3, [(10, 28)], [[6126]], 1, 0, 0, 231), mm_nop, mm_nop,
  (.aload_n 0, 1, [], [], 0, 0, 0, 234),
  (.sipush 2400, 3, [], [], 0, 2400, 0, 235), mm_nop, mm_nop,
  (.newarray .int, 2, [(0, 2400)], [[2066]], 0, 0, 0, 238), mm_nop,
  (.putfield 93, 3, [(10, 29)], [[6127]], 1, 0, 0, 240), mm_nop, mm_nop,
  (.aload_n 0, 1, [], [], 0, 0, 0, 243),
  (.sipush 2400, 3, [], [], 0, 2400, 0, 244), mm_nop, mm_nop,
  (.newarray .int, 2, [(0, 2400)], [[2066]], 0, 0, 0, 247), mm_nop,
  (.putfield 96, 3, [(10, 30)], [[6128]], 1, 0, 0, 249), mm_nop, mm_nop,
  (.aload_n 0, 1, [], [], 0, 0, 0, 252),
  (.bipush 60, 2, [], [], 0, 60, 0, 253), mm_nop,
  (.newarray .int, 2, [(0, 60)], [[2066]], 0, 0, 0, 255), mm_nop,
  (.putfield 99, 3, [(10, 32)], [[6130]], 1, 0, 0, 257), mm_nop, mm_nop,
  (.aload_n 0, 1, [], [], 0, 0, 0, 260),
  (.bipush 60, 2, [], [], 0, 60, 0, 261), mm_nop,
  (.newarray .int, 2, [(0, 60)], [[2066]], 0, 0, 0, 263), mm_nop,
  (.putfield 102, 3, [(10, 33)], [[6131]], 1, 0, 0, 265), mm_nop, mm_nop,
  (.aload_n 0, 1, [], [], 0, 0, 0, 268),
  (.bipush 60, 2, [], [], 0, 60, 0, 269), mm_nop,
  (.newarray .int, 2, [(0, 60)], [[2066]], 0, 0, 0, 271), mm_nop,
  (.putfield 105, 3, [(10, 34)], [[6132]], 1, 0, 0, 273), mm_nop, mm_nop,
  (.aload_n 0, 1, [], [], 0, 0, 0, 276),
  (.sipush 200, 3, [], [], 0, 200, 0, 277), mm_nop, mm_nop,
  (.newarray .int, 2, [(0, 200)], [[2066]], 0, 0, 0, 280), mm_nop,
  (.putfield 108, 3, [(10, 35)], [[6133]], 1, 0, 0, 282), mm_nop, mm_nop,
  (.aload_n 0, 1, [], [], 0, 0, 0, 285),
  (.bipush 16, 2, [], [], 0, 16, 0, 286), mm_nop,
  (.newarray .int, 2, [(0, 16)], [[2066]], 0, 0, 0, 288), mm_nop,
  (.putfield 111, 3, [(10, 37)], [[6135]], 1, 0, 0, 290), mm_nop, mm_nop,
  (.aload_n 0, 1, [], [], 0, 0, 0, 293),
  (.bipush 16, 2, [], [], 0, 16, 0, 294), mm_nop,
  (.newarray .int, 2, [(0, 16)], [[2066]], 0, 0, 0, 296), mm_nop,
  (.putfield 114, 3, [(10, 38)], [[6136]], 1, 0, 0, 298), mm_nop, mm_nop,
  (.aload_n 0, 1, [], [], 0, 0, 0, 301),
  (.sipush 200, 3, [], [], 0, 200, 0, 302), mm_nop, mm_nop,
  (.newarray .boolean, 2, [(2, 200)], [[7060]], 0, 0, 0, 305), mm_nop,
  (.putfield 117, 3, [(10, 39)], [[6137]], 1, 0, 0, 307), mm_nop, mm_nop,
  (.aload_n 0, 1, [], [], 0, 0, 0, 310),
  (.bipush 16, 2, [], [], 0, 16, 0, 311), mm_nop,
  (.newarray .int, 2, [(0, 16)], [[2066]], 0, 0, 0, 313), mm_nop,
  (.putfield 120, 3, [(10, 40)], [[6138]], 1, 0, 0, 315), mm_nop, mm_nop,
  (.aload_n 0, 1, [], [], 0, 0, 0, 318),
  (.sipush 6000, 3, [], [], 0, 6000, 0, 319), mm_nop, mm_nop,
  (.newarray .int, 2, [(0, 6000)], [[2066]], 0, 0, 0, 322), mm_nop,
  (.putfield 123, 3, [(10, 44)], [[6142]], 1, 0, 0, 324), mm_nop, mm_nop,
  (.aload_n 0, 1, [], [], 0, 0, 0, 327),
  (.sipush 6000, 3, [], [], 0, 6000, 0, 328), mm_nop, mm_nop,
  (.newarray .int, 2, [(0, 6000)], [[2066]], 0, 0, 0, 331), mm_nop,
  (.putfield 126, 3, [(10, 45)], [[6143]], 1, 0, 0, 333), mm_nop, mm_nop,
  (.aload_n 0, 1, [], [], 0, 0, 0, 336),
  (.iconst (-1), 1, [], [], 0, (-1), 0, 337),
  (.putfield 129, 3, [(10, 47)], [[6145]], 0, 0, 0, 338), mm_nop, mm_nop,
  (.aload_n 0, 1, [], [], 0, 0, 0, 341),
  (.bipush 100, 2, [], [], 0, 100, 0, 342), mm_nop,
  (.newarray .int, 2, [(0, 100)], [[2066]], 0, 0, 0, 344), mm_nop,
  (.putfield 132, 3, [(10, 52)], [[6150]], 1, 0, 0, 346), mm_nop, mm_nop,
  (.aload_n 0, 1, [], [], 0, 0, 0, 349),
  (.bipush 8, 2, [], [], 0, 8, 0, 350), mm_nop,
  (.newarray .int, 2, [(0, 8)], [[2066]], 0, 0, 0, 352), mm_nop,
  (.putfield 135, 3, [(10, 53)], [[6151]], 1, 0, 0, 354), mm_nop, mm_nop,
  (.aload_n 0, 1, [], [], 0, 0, 0, 357),
  (.bipush 8, 2, [], [], 0, 8, 0, 358), mm_nop,
  (.newarray .int, 2, [(0, 8)], [[2066]], 0, 0, 0, 360), mm_nop,
  (.putfield 138, 3, [(10, 54)], [[6152]], 1, 0, 0, 362), mm_nop, mm_nop,
  (.aload_n 0, 1, [], [], 0, 0, 0, 365),
  (.bipush 8, 2, [], [], 0, 8, 0, 366), mm_nop,
  (.newarray .int, 2, [(0, 8)], [[2066]], 0, 0, 0, 368), mm_nop,
  (.putfield 141, 3, [(10, 55)], [[6153]], 1, 0, 0, 370), mm_nop, mm_nop,
  (.aload_n 0, 1, [], [], 0, 0, 0, 373),
  (.bipush 40, 2, [], [], 0, 40, 0, 374), mm_nop,
  (.newarray .int, 2, [(0, 40)], [[2066]], 0, 0, 0, 376), mm_nop,
  (.putfield 144, 3, [(10, 56)], [[6154]], 1, 0, 0, 378), mm_nop, mm_nop,
  (.aload_n 0, 1, [], [], 0, 0, 0, 381),
  (.bipush 16, 2, [], [], 0, 16, 0, 382), mm_nop,
  (.newarray .int, 2, [(0, 16)], [[2066]], 0, 0, 0, 384), mm_nop,
  (.putfield 147, 3, [(10, 57)], [[6155]], 1, 0, 0, 386), mm_nop, mm_nop,
  (.aload_n 0, 1, [], [], 0, 0, 0, 389),
  (.bipush 16, 2, [], [], 0, 16, 0, 390), mm_nop,
  (.newarray .int, 2, [(0, 16)], [[2066]], 0, 0, 0, 392), mm_nop,
  (.putfield 150, 3, [(10, 58)], [[6156]], 1, 0, 0, 394), mm_nop, mm_nop,
  (.aload_n 0, 1, [], [], 0, 0, 0, 397),
  (.bipush 16, 2, [], [], 0, 16, 0, 398), mm_nop,
  (.newarray .boolean, 2, [(2, 16)], [[7060]], 0, 0, 0, 400), mm_nop,
  (.putfield 153, 3, [(10, 59)], [[6157]], 1, 0, 0, 402), mm_nop, mm_nop,
  (.aload_n 0, 1, [], [], 0, 0, 0, 405),
  (.sipush 400, 3, [], [], 0, 400, 0, 406), mm_nop, mm_nop,
  (.newarray .int, 2, [(0, 400)], [[2066]], 0, 0, 0, 409), mm_nop,
  (.putfield 156, 3, [(10, 60)], [[6158]], 1, 0, 0, 411), mm_nop, mm_nop,
  (.aload_n 0, 1, [], [], 0, 0, 0, 414),
  (.sipush 400, 3, [], [], 0, 400, 0, 415), mm_nop, mm_nop,
  (.newarray .int, 2, [(0, 400)], [[2066]], 0, 0, 0, 418), mm_nop,
  (.putfield 159, 3, [(10, 61)], [[6159]], 1, 0, 0, 420), mm_nop, mm_nop,
  (.aload_n 0, 1, [], [], 0, 0, 0, 423),
  (.sipush 800, 3, [], [], 0, 800, 0, 424), mm_nop, mm_nop,
  (.newarray .int, 2, [(0, 800)], [[2066]], 0, 0, 0, 427), mm_nop,
  (.putfield 162, 3, [(10, 63)], [[6161]], 1, 0, 0, 429), mm_nop, mm_nop,
  (.aload_n 0, 1, [], [], 0, 0, 0, 432),
  (.bipush 30, 2, [], [], 0, 30, 0, 433), mm_nop,
  (.newarray .int, 2, [(0, 30)], [[2066]], 0, 0, 0, 435), mm_nop,
  (.putfield 165, 3, [(10, 65)], [[6163]], 1, 0, 0, 437), mm_nop, mm_nop,
  (.iconst 0, 1, [], [], 0, 0, 0, 440),
  (.istore_n 1, 1, [], [], 1, 0, 0, 441),
  (.iload_n 1, 1, [], [], 1, 0, 0, 442),
  (.iconst 4, 1, [], [], 0, 4, 0, 443),
  (.if_icmp .ge 85, 3, [(0, 529)], [], 0, 0, 0, 444), mm_nop, mm_nop,
  (.aload_n 0, 1, [], [], 0, 0, 0, 447),
  (.getfield 16, 3, [(10, 2)], [[6100]], 0, 0, 0, 448), mm_nop, mm_nop,
  (.iload_n 1, 1, [], [], 1, 0, 0, 451),
  (.iload_n 1, 1, [], [], 1, 0, 0, 452),
  (.iastore, 1, [], [], 0, 0, 0, 453),
  (.aload_n 0, 1, [], [], 0, 0, 0, 454),
  (.getfield 20, 3, [(10, 3)], [[6101]], 0, 0, 0, 455), mm_nop, mm_nop,
  (.iload_n 1, 1, [], [], 1, 0, 0, 458),
  (.iconst (-1), 1, [], [], 0, (-1), 0, 459),
  (.iastore, 1, [], [], 0, 0, 0, 460),
  (.aload_n 0, 1, [], [], 0, 0, 0, 461),
  (.getfield 23, 3, [(10, 4)], [[6102]], 0, 0, 0, 462), mm_nop, mm_nop,
  (.iload_n 1, 1, [], [], 1, 0, 0, 465),
  (.iconst (-1), 1, [], [], 0, (-1), 0, 466),
  (.iastore, 1, [], [], 0, 0, 0, 467),
  (.aload_n 0, 1, [], [], 0, 0, 0, 468),
  (.getfield 26, 3, [(10, 5)], [[6103]], 0, 0, 0, 469), mm_nop, mm_nop,
  (.iload_n 1, 1, [], [], 1, 0, 0, 472),
  (.iconst 1, 1, [], [], 0, 1, 0, 473),
  (.iastore, 1, [], [], 0, 0, 0, 474),
  (.aload_n 0, 1, [], [], 0, 0, 0, 475),
  (.getfield 29, 3, [(10, 6)], [[6104]], 0, 0, 0, 476), mm_nop, mm_nop,
  (.iload_n 1, 1, [], [], 1, 0, 0, 479),
  (.iload_n 1, 1, [], [], 1, 0, 0, 480),
  (.iconst 2, 1, [], [], 0, 2, 0, 481),
  (.if_icmp .ne 7, 3, [(0, 489)], [], 0, 0, 0, 482), mm_nop, mm_nop,
  (.iconst 1, 1, [], [], 0, 1, 0, 485),
  (.goto 4, 3, [(0, 490)], [], 0, 0, 0, 486), mm_nop, mm_nop,
  (.iconst 0, 1, [], [], 0, 0, 0, 489),
  (.iastore, 1, [], [], 0, 0, 0, 490),
  (.aload_n 0, 1, [], [], 0, 0, 0, 491),
  (.getfield 32, 3, [(10, 7)], [[6105]], 0, 0, 0, 492), mm_nop, mm_nop,
  (.iload_n 1, 1, [], [], 1, 0, 0, 495),
  (.iload_n 1, 1, [], [], 1, 0, 0, 496),
  (.iconst 3, 1, [], [], 0, 3, 0, 497),
  (.if_icmp .ne 7, 3, [(0, 505)], [], 0, 0, 0, 498), mm_nop, mm_nop,
  (.iconst 1, 1, [], [], 0, 1, 0, 501),
  (.goto 4, 3, [(0, 506)], [], 0, 0, 0, 502), mm_nop, mm_nop,
  (.iconst 0, 1, [], [], 0, 0, 0, 505),
  (.iastore, 1, [], [], 0, 0, 0, 506),
  (.aload_n 0, 1, [], [], 0, 0, 0, 507),
  (.getfield 35, 3, [(10, 8)], [[6106]], 0, 0, 0, 508), mm_nop, mm_nop,
  (.iload_n 1, 1, [], [], 1, 0, 0, 511),
  (.iload_n 1, 1, [], [], 1, 0, 0, 512),
  (.iconst 2, 1, [], [], 0, 2, 0, 513),
  (.if_icmp .ge 7, 3, [(0, 521)], [], 0, 0, 0, 514), mm_nop, mm_nop,
  (.iconst 1, 1, [], [], 0, 1, 0, 517),
  (.goto 4, 3, [(0, 522)], [], 0, 0, 0, 518), mm_nop, mm_nop,
  (.iconst (-1), 1, [], [], 0, (-1), 0, 521),
  (.iastore, 1, [], [], 0, 0, 0, 522),
  (.iinc 1 1, 3, [], [], 1, 1, 0, 523), mm_nop, mm_nop,
  (.goto (-84), 3, [(0, 442)], [], 0, 0, 0, 526), mm_nop, mm_nop,
  (.return_, 1, [], [], 0, 0, 0, 529)]
def mm_m165 : mm_M := (yX12_init, cX12_init, 2, none, mm_k165, 0, 49, 96038, 6096)
/-- TypeCopierModel.mixed.(III)I -/
def mm_k166 : List mm_E := [
  (.iload_n 0, 1, [], [], 0, 0, 0, 0),
  (.bipush 31, 2, [], [], 0, 31, 0, 1), mm_nop,
  (.imul, 1, [], [], 0, 0, 0, 3),
  (.iload_n 1, 1, [], [], 1, 0, 0, 4),
  (.sipush 7919, 3, [], [], 0, 7919, 0, 5), mm_nop, mm_nop,
  (.imul, 1, [], [], 0, 0, 0, 8),
  (.iadd, 1, [], [], 0, 0, 0, 9),
  (.iload_n 2, 1, [], [], 2, 0, 0, 10),
  (.ldc 168, 2, [], [[7087]], 0, 104729, 0, 11), mm_nop,
  (.imul, 1, [], [], 0, 0, 0, 13),
  (.iadd, 1, [], [], 0, 0, 0, 14),
  (.ldc 169, 2, [], [[7088]], 0, 2147483647, 0, 15), mm_nop,
  (.iand, 1, [], [], 0, 0, 0, 17),
  (.sipush 16384, 3, [], [], 0, 16384, 0, 18), mm_nop, mm_nop,
  (.irem, 1, [], [], 0, 0, 0, 21),
  (.ireturn, 1, [], [], 0, 0, 0, 22)]
def mm_m166 : mm_M := (yX12_mixed, cX12_mixed, 3, (some .int), mm_k166, 3, 0, 0, 7086)
/-- TypeCopierModel.forgets.()V -/
def mm_k167 : List mm_E := [
  (.aload_n 0, 1, [], [], 0, 0, 0, 0),
  (.sipush 200, 3, [], [], 0, 200, 0, 1), mm_nop, mm_nop,
  (.putfield 13, 3, [(10, 1)], [[6099]], 0, 0, 0, 4), mm_nop, mm_nop,
  (.iconst 0, 1, [], [], 0, 0, 0, 7),
  (.istore_n 1, 1, [], [], 1, 0, 0, 8),
  (.iload_n 1, 1, [], [], 1, 0, 0, 9),
  (.sipush 16384, 3, [], [], 0, 16384, 0, 10), mm_nop, mm_nop,
  (.if_icmp .ge 16, 3, [(0, 29)], [], 0, 0, 0, 13), mm_nop, mm_nop,
  (.aload_n 0, 1, [], [], 0, 0, 0, 16),
  (.getfield 38, 3, [(10, 9)], [[6107]], 0, 0, 0, 17), mm_nop, mm_nop,
  (.iload_n 1, 1, [], [], 1, 0, 0, 20),
  (.iconst 0, 1, [], [], 0, 0, 0, 21),
  (.iastore, 1, [], [], 0, 0, 0, 22),
  (.iinc 1 1, 3, [], [], 1, 1, 0, 23), mm_nop, mm_nop,
  (.goto (-17), 3, [(0, 9)], [], 0, 0, 0, 26), mm_nop, mm_nop,
  (.iconst 0, 1, [], [], 0, 0, 0, 29),
  (.istore_n 1, 1, [], [], 1, 0, 0, 30),
  (.iload_n 1, 1, [], [], 1, 0, 0, 31),
  (.aload_n 0, 1, [], [], 0, 0, 0, 32),
  (.getfield 7, 3, [(10, 0)], [[6098]], 0, 0, 0, 33), mm_nop, mm_nop,
  (.if_icmp .ge 14, 3, [(0, 50)], [], 0, 0, 0, 36), mm_nop, mm_nop,
  (.aload_n 0, 1, [], [], 0, 0, 0, 39),
  (.iload_n 1, 1, [], [], 1, 0, 0, 40),
  (.invokevirtual 170, 3, [(10, 168)], [[7080, 7082, 1022, 2015]], 1, 0, 0, 41), mm_nop, mm_nop,
  (.iinc 1 1, 3, [], [], 1, 1, 0, 44), mm_nop, mm_nop,
  (.goto (-16), 3, [(0, 31)], [], 0, 0, 0, 47), mm_nop, mm_nop,
  (.return_, 1, [], [], 0, 0, 0, 50)]
def mm_m167 : mm_M := (yX12_forgets, cX12_forgets, 2, none, mm_k167, 0, 0, 0, 7079)
/-- TypeCopierModel.notes.(I)V -/
def mm_k168 : List mm_E := [
  (.aload_n 0, 1, [], [], 0, 0, 0, 0),
  (.getfield 16, 3, [(10, 2)], [[6100]], 0, 0, 0, 1), mm_nop, mm_nop,
  (.iload_n 1, 1, [], [], 1, 0, 0, 4),
  (.iaload, 1, [], [], 0, 0, 0, 5),
  (.aload_n 0, 1, [], [], 0, 0, 0, 6),
  (.getfield 20, 3, [(10, 3)], [[6101]], 0, 0, 0, 7), mm_nop, mm_nop,
  (.iload_n 1, 1, [], [], 1, 0, 0, 10),
  (.iaload, 1, [], [], 0, 0, 0, 11),
  (.aload_n 0, 1, [], [], 0, 0, 0, 12),
  (.getfield 23, 3, [(10, 4)], [[6102]], 0, 0, 0, 13), mm_nop, mm_nop,
  (.iload_n 1, 1, [], [], 1, 0, 0, 16),
  (.iaload, 1, [], [], 0, 0, 0, 17),
  (.invokestatic 174, 3, [(0, 166)], [[7084, 7085, 2015]], 3, 0, 0, 18), mm_nop, mm_nop,
  (.istore_n 2, 1, [], [], 2, 0, 0, 21),
  (.aload_n 0, 1, [], [], 0, 0, 0, 22),
  (.getfield 38, 3, [(10, 9)], [[6107]], 0, 0, 0, 23), mm_nop, mm_nop,
  (.iload_n 2, 1, [], [], 2, 0, 0, 26),
  (.iaload, 1, [], [], 0, 0, 0, 27),
  (.ifCond .eq 14, 3, [(0, 42)], [], 0, 0, 0, 28), mm_nop, mm_nop,
  (.iload_n 2, 1, [], [], 2, 0, 0, 31),
  (.iconst 1, 1, [], [], 0, 1, 0, 32),
  (.iadd, 1, [], [], 0, 0, 0, 33),
  (.sipush 16383, 3, [], [], 0, 16383, 0, 34), mm_nop, mm_nop,
  (.iand, 1, [], [], 0, 0, 0, 37),
  (.istore_n 2, 1, [], [], 2, 0, 0, 38),
  (.goto (-17), 3, [(0, 22)], [], 0, 0, 0, 39), mm_nop, mm_nop,
  (.aload_n 0, 1, [], [], 0, 0, 0, 42),
  (.getfield 38, 3, [(10, 9)], [[6107]], 0, 0, 0, 43), mm_nop, mm_nop,
  (.iload_n 2, 1, [], [], 2, 0, 0, 46),
  (.iload_n 1, 1, [], [], 1, 0, 0, 47),
  (.iconst 1, 1, [], [], 0, 1, 0, 48),
  (.iadd, 1, [], [], 0, 0, 0, 49),
  (.iastore, 1, [], [], 0, 0, 0, 50),
  (.return_, 1, [], [], 0, 0, 0, 51)]
def mm_m168 : mm_M := (yX12_notes, cX12_notes, 3, none, mm_k168, 1, 0, 0, 7083)
/-- TypeCopierModel.known.(III)I -/
def mm_k169 : List mm_E := [
  (.iload_n 1, 1, [], [], 1, 0, 0, 0),
  (.iload_n 2, 1, [], [], 2, 0, 0, 1),
  (.iload_n 3, 1, [], [], 3, 0, 0, 2),
  (.invokestatic 174, 3, [(0, 166)], [[7084, 7085, 2015]], 3, 0, 0, 3), mm_nop, mm_nop,
  (.istore 4, 2, [], [], 4, 0, 0, 6), mm_nop,
  (.aload_n 0, 1, [], [], 0, 0, 0, 8),
  (.getfield 38, 3, [(10, 9)], [[6107]], 0, 0, 0, 9), mm_nop, mm_nop,
  (.iload 4, 2, [], [], 4, 0, 0, 12), mm_nop,
  (.iaload, 1, [], [], 0, 0, 0, 14),
  (.ifCond .eq 63, 3, [(0, 78)], [], 0, 0, 0, 15), mm_nop, mm_nop,
  (.aload_n 0, 1, [], [], 0, 0, 0, 18),
  (.getfield 38, 3, [(10, 9)], [[6107]], 0, 0, 0, 19), mm_nop, mm_nop,
  (.iload 4, 2, [], [], 4, 0, 0, 22), mm_nop,
  (.iaload, 1, [], [], 0, 0, 0, 24),
  (.iconst 1, 1, [], [], 0, 1, 0, 25),
  (.isub, 1, [], [], 0, 0, 0, 26),
  (.istore 5, 2, [], [], 5, 0, 0, 27), mm_nop,
  (.aload_n 0, 1, [], [], 0, 0, 0, 29),
  (.getfield 16, 3, [(10, 2)], [[6100]], 0, 0, 0, 30), mm_nop, mm_nop,
  (.iload 5, 2, [], [], 5, 0, 0, 33), mm_nop,
  (.iaload, 1, [], [], 0, 0, 0, 35),
  (.iload_n 1, 1, [], [], 1, 0, 0, 36),
  (.if_icmp .ne 28, 3, [(0, 65)], [], 0, 0, 0, 37), mm_nop, mm_nop,
  (.aload_n 0, 1, [], [], 0, 0, 0, 40),
  (.getfield 20, 3, [(10, 3)], [[6101]], 0, 0, 0, 41), mm_nop, mm_nop,
  (.iload 5, 2, [], [], 5, 0, 0, 44), mm_nop,
  (.iaload, 1, [], [], 0, 0, 0, 46),
  (.iload_n 2, 1, [], [], 2, 0, 0, 47),
  (.if_icmp .ne 17, 3, [(0, 65)], [], 0, 0, 0, 48), mm_nop, mm_nop,
  (.aload_n 0, 1, [], [], 0, 0, 0, 51),
  (.getfield 23, 3, [(10, 4)], [[6102]], 0, 0, 0, 52), mm_nop, mm_nop,
  (.iload 5, 2, [], [], 5, 0, 0, 55), mm_nop,
  (.iaload, 1, [], [], 0, 0, 0, 57),
  (.iload_n 3, 1, [], [], 3, 0, 0, 58),
  (.if_icmp .ne 6, 3, [(0, 65)], [], 0, 0, 0, 59), mm_nop, mm_nop,
  (.iload 5, 2, [], [], 5, 0, 0, 62), mm_nop,
  (.ireturn, 1, [], [], 0, 0, 0, 64),
  (.iload 4, 2, [], [], 4, 0, 0, 65), mm_nop,
  (.iconst 1, 1, [], [], 0, 1, 0, 67),
  (.iadd, 1, [], [], 0, 0, 0, 68),
  (.sipush 16383, 3, [], [], 0, 16383, 0, 69), mm_nop, mm_nop,
  (.iand, 1, [], [], 0, 0, 0, 72),
  (.istore 4, 2, [], [], 4, 0, 0, 73), mm_nop,
  (.goto (-67), 3, [(0, 8)], [], 0, 0, 0, 75), mm_nop, mm_nop,
  (.iconst (-1), 1, [], [], 0, (-1), 0, 78),
  (.ireturn, 1, [], [], 0, 0, 0, 79)]
def mm_m169 : mm_M := (yX12_known, cX12_known, 6, (some .int), mm_k169, 3, 0, 0, 7092)
/-- TypeCopierModel.most.(II)I -/
def mm_k170 : List mm_E := [
  (.iload_n 0, 1, [], [], 0, 0, 0, 0),
  (.iload_n 1, 1, [], [], 1, 0, 0, 1),
  (.if_icmp .le 7, 3, [(0, 9)], [], 0, 0, 0, 2), mm_nop, mm_nop,
  (.iload_n 0, 1, [], [], 0, 0, 0, 5),
  (.goto 4, 3, [(0, 10)], [], 0, 0, 0, 6), mm_nop, mm_nop,
  (.iload_n 1, 1, [], [], 1, 0, 0, 9),
  (.ireturn, 1, [], [], 0, 0, 0, 10)]
def mm_m170 : mm_M := (yX12_most, cX12_most, 2, (some .int), mm_k170, 2, 0, 0, 7095)
/-- TypeCopierModel.under.(I)I -/
def mm_k171 : List mm_E := [
  (.iload_n 0, 1, [], [], 0, 0, 0, 0),
  (.ifCond .ne 7, 3, [(0, 8)], [], 0, 0, 0, 1), mm_nop, mm_nop,
  (.iconst 0, 1, [], [], 0, 0, 0, 4),
  (.goto 6, 3, [(0, 11)], [], 0, 0, 0, 5), mm_nop, mm_nop,
  (.iload_n 0, 1, [], [], 0, 0, 0, 8),
  (.iconst 1, 1, [], [], 0, 1, 0, 9),
  (.iadd, 1, [], [], 0, 0, 0, 10),
  (.ireturn, 1, [], [], 0, 0, 0, 11)]
def mm_m171 : mm_M := (yX12_under, cX12_under, 1, (some .int), mm_k171, 1, 0, 0, 7102)
/-- TypeCopierModel.lays.(IIII)V -/
def mm_k172 : List mm_E := [
  (.aload_n 0, 1, [], [], 0, 0, 0, 0),
  (.getfield 16, 3, [(10, 2)], [[6100]], 0, 0, 0, 1), mm_nop, mm_nop,
  (.iload_n 1, 1, [], [], 1, 0, 0, 4),
  (.iload_n 2, 1, [], [], 2, 0, 0, 5),
  (.iastore, 1, [], [], 0, 0, 0, 6),
  (.aload_n 0, 1, [], [], 0, 0, 0, 7),
  (.getfield 20, 3, [(10, 3)], [[6101]], 0, 0, 0, 8), mm_nop, mm_nop,
  (.iload_n 1, 1, [], [], 1, 0, 0, 11),
  (.iload_n 3, 1, [], [], 3, 0, 0, 12),
  (.iastore, 1, [], [], 0, 0, 0, 13),
  (.aload_n 0, 1, [], [], 0, 0, 0, 14),
  (.getfield 23, 3, [(10, 4)], [[6102]], 0, 0, 0, 15), mm_nop, mm_nop,
  (.iload_n 1, 1, [], [], 1, 0, 0, 18),
  (.iload 4, 2, [], [], 4, 0, 0, 19), mm_nop,
  (.iastore, 1, [], [], 0, 0, 0, 21),
  (.iload_n 2, 1, [], [], 2, 0, 0, 22),
  (.iconst 4, 1, [], [], 0, 4, 0, 23),
  (.if_icmp .ne 7, 3, [(0, 31)], [], 0, 0, 0, 24), mm_nop, mm_nop,
  (.iconst 1, 1, [], [], 0, 1, 0, 27),
  (.goto 4, 3, [(0, 32)], [], 0, 0, 0, 28), mm_nop, mm_nop,
  (.iconst 0, 1, [], [], 0, 0, 0, 31),
  (.istore 5, 2, [], [], 5, 0, 0, 32), mm_nop,
  (.aload_n 0, 1, [], [], 0, 0, 0, 34),
  (.getfield 26, 3, [(10, 5)], [[6103]], 0, 0, 0, 35), mm_nop, mm_nop,
  (.iload_n 1, 1, [], [], 1, 0, 0, 38),
  (.iconst 1, 1, [], [], 0, 1, 0, 39),
  (.iload 5, 2, [], [], 5, 0, 0, 40), mm_nop,
  (.ifCond .eq 22, 3, [(0, 64)], [], 0, 0, 0, 42), mm_nop, mm_nop,
  (.aload_n 0, 1, [], [], 0, 0, 0, 45),
  (.getfield 26, 3, [(10, 5)], [[6103]], 0, 0, 0, 46), mm_nop, mm_nop,
  (.iload_n 3, 1, [], [], 3, 0, 0, 49),
  (.iaload, 1, [], [], 0, 0, 0, 50),
  (.aload_n 0, 1, [], [], 0, 0, 0, 51),
  (.getfield 26, 3, [(10, 5)], [[6103]], 0, 0, 0, 52), mm_nop, mm_nop,
  (.iload 4, 2, [], [], 4, 0, 0, 55), mm_nop,
  (.iaload, 1, [], [], 0, 0, 0, 57),
  (.invokestatic 178, 3, [(0, 170)], [[7093, 7094, 2015]], 2, 0, 0, 58), mm_nop, mm_nop,
  (.goto 9, 3, [(0, 70)], [], 0, 0, 0, 61), mm_nop, mm_nop,
  (.aload_n 0, 1, [], [], 0, 0, 0, 64),
  (.getfield 26, 3, [(10, 5)], [[6103]], 0, 0, 0, 65), mm_nop, mm_nop,
  (.iload_n 3, 1, [], [], 3, 0, 0, 68),
  (.iaload, 1, [], [], 0, 0, 0, 69),
  (.iadd, 1, [], [], 0, 0, 0, 70),
  (.iastore, 1, [], [], 0, 0, 0, 71),
  (.aload_n 0, 1, [], [], 0, 0, 0, 72),
  (.getfield 29, 3, [(10, 6)], [[6104]], 0, 0, 0, 73), mm_nop, mm_nop,
  (.iload_n 1, 1, [], [], 1, 0, 0, 76),
  (.iload 5, 2, [], [], 5, 0, 0, 77), mm_nop,
  (.ifCond .eq 22, 3, [(0, 101)], [], 0, 0, 0, 79), mm_nop, mm_nop,
  (.aload_n 0, 1, [], [], 0, 0, 0, 82),
  (.getfield 29, 3, [(10, 6)], [[6104]], 0, 0, 0, 83), mm_nop, mm_nop,
  (.iload_n 3, 1, [], [], 3, 0, 0, 86),
  (.iaload, 1, [], [], 0, 0, 0, 87),
  (.aload_n 0, 1, [], [], 0, 0, 0, 88),
  (.getfield 29, 3, [(10, 6)], [[6104]], 0, 0, 0, 89), mm_nop, mm_nop,
  (.iload 4, 2, [], [], 4, 0, 0, 92), mm_nop,
  (.iaload, 1, [], [], 0, 0, 0, 94),
  (.invokestatic 178, 3, [(0, 170)], [[7093, 7094, 2015]], 2, 0, 0, 95), mm_nop, mm_nop,
  (.goto 9, 3, [(0, 107)], [], 0, 0, 0, 98), mm_nop, mm_nop,
  (.aload_n 0, 1, [], [], 0, 0, 0, 101),
  (.getfield 29, 3, [(10, 6)], [[6104]], 0, 0, 0, 102), mm_nop, mm_nop,
  (.iload_n 3, 1, [], [], 3, 0, 0, 105),
  (.iaload, 1, [], [], 0, 0, 0, 106),
  (.invokestatic 182, 3, [(0, 171)], [[7100, 7101, 2015]], 1, 0, 0, 107), mm_nop, mm_nop,
  (.iastore, 1, [], [], 0, 0, 0, 110),
  (.aload_n 0, 1, [], [], 0, 0, 0, 111),
  (.getfield 32, 3, [(10, 7)], [[6105]], 0, 0, 0, 112), mm_nop, mm_nop,
  (.iload_n 1, 1, [], [], 1, 0, 0, 115),
  (.iload 5, 2, [], [], 5, 0, 0, 116), mm_nop,
  (.ifCond .eq 22, 3, [(0, 140)], [], 0, 0, 0, 118), mm_nop, mm_nop,
  (.aload_n 0, 1, [], [], 0, 0, 0, 121),
  (.getfield 32, 3, [(10, 7)], [[6105]], 0, 0, 0, 122), mm_nop, mm_nop,
  (.iload_n 3, 1, [], [], 3, 0, 0, 125),
  (.iaload, 1, [], [], 0, 0, 0, 126),
  (.aload_n 0, 1, [], [], 0, 0, 0, 127),
  (.getfield 32, 3, [(10, 7)], [[6105]], 0, 0, 0, 128), mm_nop, mm_nop,
  (.iload 4, 2, [], [], 4, 0, 0, 131), mm_nop,
  (.iaload, 1, [], [], 0, 0, 0, 133),
  (.invokestatic 178, 3, [(0, 170)], [[7093, 7094, 2015]], 2, 0, 0, 134), mm_nop, mm_nop,
  (.goto 9, 3, [(0, 146)], [], 0, 0, 0, 137), mm_nop, mm_nop,
  (.aload_n 0, 1, [], [], 0, 0, 0, 140),
  (.getfield 32, 3, [(10, 7)], [[6105]], 0, 0, 0, 141), mm_nop, mm_nop,
  (.iload_n 3, 1, [], [], 3, 0, 0, 144),
  (.iaload, 1, [], [], 0, 0, 0, 145),
  (.invokestatic 182, 3, [(0, 171)], [[7100, 7101, 2015]], 1, 0, 0, 146), mm_nop, mm_nop,
  (.iastore, 1, [], [], 0, 0, 0, 149),
  (.aload_n 0, 1, [], [], 0, 0, 0, 150),
  (.getfield 29, 3, [(10, 6)], [[6104]], 0, 0, 0, 151), mm_nop, mm_nop,
  (.iload_n 1, 1, [], [], 1, 0, 0, 154),
  (.iaload, 1, [], [], 0, 0, 0, 155),
  (.aload_n 0, 1, [], [], 0, 0, 0, 156),
  (.getfield 32, 3, [(10, 7)], [[6105]], 0, 0, 0, 157), mm_nop, mm_nop,
  (.iload_n 1, 1, [], [], 1, 0, 0, 160),
  (.iaload, 1, [], [], 0, 0, 0, 161),
  (.iadd, 1, [], [], 0, 0, 0, 162),
  (.ifCond .le 7, 3, [(0, 170)], [], 0, 0, 0, 163), mm_nop, mm_nop,
  (.iconst 1, 1, [], [], 0, 1, 0, 166),
  (.goto 4, 3, [(0, 171)], [], 0, 0, 0, 167), mm_nop, mm_nop,
  (.iconst 0, 1, [], [], 0, 0, 0, 170),
  (.istore 6, 2, [], [], 6, 0, 0, 171), mm_nop,
  (.aload_n 0, 1, [], [], 0, 0, 0, 173),
  (.getfield 35, 3, [(10, 8)], [[6106]], 0, 0, 0, 174), mm_nop, mm_nop,
  (.iload_n 1, 1, [], [], 1, 0, 0, 177),
  (.iload 6, 2, [], [], 6, 0, 0, 178), mm_nop,
  (.ifCond .eq 7, 3, [(0, 187)], [], 0, 0, 0, 180), mm_nop, mm_nop,
  (.iconst (-1), 1, [], [], 0, (-1), 0, 183),
  (.goto 26, 3, [(0, 210)], [], 0, 0, 0, 184), mm_nop, mm_nop,
  (.iload 5, 2, [], [], 5, 0, 0, 187), mm_nop,
  (.ifCond .eq 20, 3, [(0, 209)], [], 0, 0, 0, 189), mm_nop, mm_nop,
  (.aload_n 0, 1, [], [], 0, 0, 0, 192),
  (.getfield 35, 3, [(10, 8)], [[6106]], 0, 0, 0, 193), mm_nop, mm_nop,
  (.iload_n 3, 1, [], [], 3, 0, 0, 196),
  (.iaload, 1, [], [], 0, 0, 0, 197),
  (.aload_n 0, 1, [], [], 0, 0, 0, 198),
  (.getfield 35, 3, [(10, 8)], [[6106]], 0, 0, 0, 199), mm_nop, mm_nop,
  (.iload 4, 2, [], [], 4, 0, 0, 202), mm_nop,
  (.iaload, 1, [], [], 0, 0, 0, 204),
  (.iadd, 1, [], [], 0, 0, 0, 205),
  (.goto 4, 3, [(0, 210)], [], 0, 0, 0, 206), mm_nop, mm_nop,
  (.iconst 1, 1, [], [], 0, 1, 0, 209),
  (.iastore, 1, [], [], 0, 0, 0, 210),
  (.aload_n 0, 1, [], [], 0, 0, 0, 211),
  (.iload_n 1, 1, [], [], 1, 0, 0, 212),
  (.invokevirtual 170, 3, [(10, 168)], [[7080, 7082, 1022, 2015]], 1, 0, 0, 213), mm_nop, mm_nop,
  (.return_, 1, [], [], 0, 0, 0, 216)]
def mm_m172 : mm_M := (yX12_lays, cX12_lays, 7, none, mm_k172, 4, 0, 0, 7099)
/-- TypeCopierModel.made.(III)I -/
def mm_k173 : List mm_E := [
  (.aload_n 0, 1, [], [], 0, 0, 0, 0),
  (.iload_n 1, 1, [], [], 1, 0, 0, 1),
  (.iload_n 2, 1, [], [], 2, 0, 0, 2),
  (.iload_n 3, 1, [], [], 3, 0, 0, 3),
  (.invokevirtual 186, 3, [(10, 169)], [[7089, 7091, 1023, 2015]], 3, 0, 0, 4), mm_nop, mm_nop,
  (.istore 4, 2, [], [], 4, 0, 0, 7), mm_nop,
  (.iload 4, 2, [], [], 4, 0, 0, 9), mm_nop,
  (.iconst (-1), 1, [], [], 0, (-1), 0, 11),
  (.if_icmp .ne 28, 3, [(0, 40)], [], 0, 0, 0, 12), mm_nop, mm_nop,
  (.aload_n 0, 1, [], [], 0, 0, 0, 15),
  (.getfield 13, 3, [(10, 1)], [[6099]], 0, 0, 0, 16), mm_nop, mm_nop,
  (.istore 4, 2, [], [], 4, 0, 0, 19), mm_nop,
  (.aload_n 0, 1, [], [], 0, 0, 0, 21),
  (.dup, 1, [], [], 0, 0, 0, 22),
  (.getfield 13, 3, [(10, 1)], [[6099]], 0, 0, 0, 23), mm_nop, mm_nop,
  (.iconst 1, 1, [], [], 0, 1, 0, 26),
  (.iadd, 1, [], [], 0, 0, 0, 27),
  (.putfield 13, 3, [(10, 1)], [[6099]], 0, 0, 0, 28), mm_nop, mm_nop,
  (.aload_n 0, 1, [], [], 0, 0, 0, 31),
  (.iload 4, 2, [], [], 4, 0, 0, 32), mm_nop,
  (.iload_n 1, 1, [], [], 1, 0, 0, 34),
  (.iload_n 2, 1, [], [], 2, 0, 0, 35),
  (.iload_n 3, 1, [], [], 3, 0, 0, 36),
  (.invokevirtual 189, 3, [(10, 172)], [[7096, 7098, 1024, 2015]], 4, 0, 0, 37), mm_nop, mm_nop,
  (.iload 4, 2, [], [], 4, 0, 0, 40), mm_nop,
  (.ireturn, 1, [], [], 0, 0, 0, 42)]
def mm_m173 : mm_M := (yX12_made, cX12_made, 5, (some .int), mm_k173, 3, 0, 0, 7169)
/-- TypeCopierModel.isType.(I)Z -/
def mm_k174 : List mm_E := [
  (.iload_n 1, 1, [], [], 1, 0, 0, 0),
  (.iconst 0, 1, [], [], 0, 0, 0, 1),
  (.aload_n 0, 1, [], [], 0, 0, 0, 2),
  (.getfield 7, 3, [(10, 0)], [[6098]], 0, 0, 0, 3), mm_nop, mm_nop,
  (.iconst 1, 1, [], [], 0, 1, 0, 6),
  (.isub, 1, [], [], 0, 0, 0, 7),
  (.invokestatic 193, 3, [(0, 164)], [[7069, 7070, 2015]], 3, 0, 0, 8), mm_nop, mm_nop,
  (.ireturn, 1, [], [], 0, 0, 0, 11)]
def mm_m174 : mm_M := (yX12_isType, cX12_isType, 2, (some .boolean), mm_k174, 1, 0, 0, 7068)
/-- TypeCopierModel.numbers.(III)I -/
def mm_k175 : List mm_E := [
  (.aload_n 0, 1, [], [], 0, 0, 0, 0),
  (.invokevirtual 197, 3, [(10, 167)], [[7076, 7078, 1021, 2015]], 0, 0, 0, 1), mm_nop, mm_nop,
  (.aload_n 0, 1, [], [], 0, 0, 0, 4),
  (.iload_n 1, 1, [], [], 1, 0, 0, 5),
  (.iload_n 2, 1, [], [], 2, 0, 0, 6),
  (.iload_n 3, 1, [], [], 3, 0, 0, 7),
  (.invokevirtual 186, 3, [(10, 169)], [[7089, 7091, 1023, 2015]], 3, 0, 0, 8), mm_nop, mm_nop,
  (.istore 4, 2, [], [], 4, 0, 0, 11), mm_nop,
  (.iload 4, 2, [], [], 4, 0, 0, 13), mm_nop,
  (.iconst (-1), 1, [], [], 0, (-1), 0, 15),
  (.if_icmp .eq 6, 3, [(0, 22)], [], 0, 0, 0, 16), mm_nop, mm_nop,
  (.iload 4, 2, [], [], 4, 0, 0, 19), mm_nop,
  (.ireturn, 1, [], [], 0, 0, 0, 21),
  (.iconst 1, 1, [], [], 0, 1, 0, 22),
  (.iload_n 1, 1, [], [], 1, 0, 0, 23),
  (.iconst 4, 1, [], [], 0, 4, 0, 24),
  (.if_icmp .ne 21, 3, [(0, 46)], [], 0, 0, 0, 25), mm_nop, mm_nop,
  (.aload_n 0, 1, [], [], 0, 0, 0, 28),
  (.getfield 26, 3, [(10, 5)], [[6103]], 0, 0, 0, 29), mm_nop, mm_nop,
  (.iload_n 2, 1, [], [], 2, 0, 0, 32),
  (.iaload, 1, [], [], 0, 0, 0, 33),
  (.aload_n 0, 1, [], [], 0, 0, 0, 34),
  (.getfield 26, 3, [(10, 5)], [[6103]], 0, 0, 0, 35), mm_nop, mm_nop,
  (.iload_n 3, 1, [], [], 3, 0, 0, 38),
  (.iaload, 1, [], [], 0, 0, 0, 39),
  (.invokestatic 178, 3, [(0, 170)], [[7093, 7094, 2015]], 2, 0, 0, 40), mm_nop, mm_nop,
  (.goto 9, 3, [(0, 52)], [], 0, 0, 0, 43), mm_nop, mm_nop,
  (.aload_n 0, 1, [], [], 0, 0, 0, 46),
  (.getfield 26, 3, [(10, 5)], [[6103]], 0, 0, 0, 47), mm_nop, mm_nop,
  (.iload_n 2, 1, [], [], 2, 0, 0, 50),
  (.iaload, 1, [], [], 0, 0, 0, 51),
  (.iadd, 1, [], [], 0, 0, 0, 52),
  (.iconst 5, 1, [], [], 0, 5, 0, 53),
  (.if_icmp .le 6, 3, [(0, 60)], [], 0, 0, 0, 54), mm_nop, mm_nop,
  (.bipush (-3), 2, [], [], 0, (-3), 0, 57), mm_nop,
  (.ireturn, 1, [], [], 0, 0, 0, 59),
  (.aload_n 0, 1, [], [], 0, 0, 0, 60),
  (.getfield 7, 3, [(10, 0)], [[6098]], 0, 0, 0, 61), mm_nop, mm_nop,
  (.sipush 200, 3, [], [], 0, 200, 0, 64), mm_nop, mm_nop,
  (.if_icmp .ne 6, 3, [(0, 73)], [], 0, 0, 0, 67), mm_nop, mm_nop,
  (.bipush (-4), 2, [], [], 0, (-4), 0, 70), mm_nop,
  (.ireturn, 1, [], [], 0, 0, 0, 72),
  (.aload_n 0, 1, [], [], 0, 0, 0, 73),
  (.aload_n 0, 1, [], [], 0, 0, 0, 74),
  (.getfield 7, 3, [(10, 0)], [[6098]], 0, 0, 0, 75), mm_nop, mm_nop,
  (.iload_n 1, 1, [], [], 1, 0, 0, 78),
  (.iload_n 2, 1, [], [], 2, 0, 0, 79),
  (.iload_n 3, 1, [], [], 3, 0, 0, 80),
  (.invokevirtual 189, 3, [(10, 172)], [[7096, 7098, 1024, 2015]], 4, 0, 0, 81), mm_nop, mm_nop,
  (.aload_n 0, 1, [], [], 0, 0, 0, 84),
  (.dup, 1, [], [], 0, 0, 0, 85),
  (.getfield 7, 3, [(10, 0)], [[6098]], 0, 0, 0, 86), mm_nop, mm_nop,
  (.iconst 1, 1, [], [], 0, 1, 0, 89),
  (.iadd, 1, [], [], 0, 0, 0, 90),
  (.putfield 7, 3, [(10, 0)], [[6098]], 0, 0, 0, 91), mm_nop, mm_nop,
  (.aload_n 0, 1, [], [], 0, 0, 0, 94),
  (.getfield 7, 3, [(10, 0)], [[6098]], 0, 0, 0, 95), mm_nop, mm_nop,
  (.iconst 1, 1, [], [], 0, 1, 0, 98),
  (.isub, 1, [], [], 0, 0, 0, 99),
  (.ireturn, 1, [], [], 0, 0, 0, 100)]
def mm_m175 : mm_M := (yX12_numbers, cX12_numbers, 5, (some .int), mm_k175, 3, 0, 0, 7075)
/-- TypeCopierModel.pair.(II)I -/
def mm_k176 : List mm_E := [
  (.aload_n 0, 1, [], [], 0, 0, 0, 0),
  (.iload_n 1, 1, [], [], 1, 0, 0, 1),
  (.invokevirtual 200, 3, [(10, 174)], [[7065, 7067, 1019, 2015]], 1, 0, 0, 2), mm_nop, mm_nop,
  (.ifCond .eq 21, 3, [(0, 26)], [], 0, 0, 0, 5), mm_nop, mm_nop,
  (.aload_n 0, 1, [], [], 0, 0, 0, 8),
  (.iload_n 2, 1, [], [], 2, 0, 0, 9),
  (.invokevirtual 200, 3, [(10, 174)], [[7065, 7067, 1019, 2015]], 1, 0, 0, 10), mm_nop, mm_nop,
  (.ifCond .eq 13, 3, [(0, 26)], [], 0, 0, 0, 13), mm_nop, mm_nop,
  (.aload_n 0, 1, [], [], 0, 0, 0, 16),
  (.iconst 4, 1, [], [], 0, 4, 0, 17),
  (.iload_n 1, 1, [], [], 1, 0, 0, 18),
  (.iload_n 2, 1, [], [], 2, 0, 0, 19),
  (.invokevirtual 204, 3, [(10, 175)], [[7072, 7074, 1020, 2015]], 3, 0, 0, 20), mm_nop, mm_nop,
  (.goto 5, 3, [(0, 28)], [], 0, 0, 0, 23), mm_nop, mm_nop,
  (.bipush (-2), 2, [], [], 0, (-2), 0, 26), mm_nop,
  (.ireturn, 1, [], [], 0, 0, 0, 28)]
def mm_m176 : mm_M := (yX12_pair, cX12_pair, 3, (some .int), mm_k176, 2, 0, 0, 7064)
/-- TypeCopierModel.list.(I)I -/
def mm_k177 : List mm_E := [
  (.aload_n 0, 1, [], [], 0, 0, 0, 0),
  (.iload_n 1, 1, [], [], 1, 0, 0, 1),
  (.invokevirtual 200, 3, [(10, 174)], [[7065, 7067, 1019, 2015]], 1, 0, 0, 2), mm_nop, mm_nop,
  (.ifCond .eq 13, 3, [(0, 18)], [], 0, 0, 0, 5), mm_nop, mm_nop,
  (.aload_n 0, 1, [], [], 0, 0, 0, 8),
  (.iconst 5, 1, [], [], 0, 5, 0, 9),
  (.iload_n 1, 1, [], [], 1, 0, 0, 10),
  (.iconst (-1), 1, [], [], 0, (-1), 0, 11),
  (.invokevirtual 204, 3, [(10, 175)], [[7072, 7074, 1020, 2015]], 3, 0, 0, 12), mm_nop, mm_nop,
  (.goto 5, 3, [(0, 20)], [], 0, 0, 0, 15), mm_nop, mm_nop,
  (.bipush (-2), 2, [], [], 0, (-2), 0, 18), mm_nop,
  (.ireturn, 1, [], [], 0, 0, 0, 20)]
def mm_m177 : mm_M := (yX12_list, cX12_list, 2, (some .int), mm_k177, 1, 0, 0, 7106)
/-- TypeCopierModel.typeOf.(II)I -/
def mm_k178 : List mm_E := [
  (.iload_n 2, 1, [], [], 2, 0, 0, 0),
  (.tableswitch 70 0 4 #[35, 42, 49, 56, 63], 35, [(0, 71), (0, 36), (1, 43), (2, 50), (3, 57), (4, 64)], [], 0, 0, 0, 1), mm_nop, mm_nop, mm_nop, mm_nop, mm_nop, mm_nop, mm_nop, mm_nop, mm_nop, mm_nop, mm_nop, mm_nop, mm_nop, mm_nop, mm_nop, mm_nop, mm_nop, mm_nop, mm_nop, mm_nop, mm_nop, mm_nop, mm_nop, mm_nop, mm_nop, mm_nop, mm_nop, mm_nop, mm_nop, mm_nop, mm_nop, mm_nop, mm_nop, mm_nop,
  (.aload_n 0, 1, [], [], 0, 0, 0, 36),
  (.getfield 16, 3, [(10, 2)], [[6100]], 0, 0, 0, 37), mm_nop, mm_nop,
  (.iload_n 1, 1, [], [], 1, 0, 0, 40),
  (.iaload, 1, [], [], 0, 0, 0, 41),
  (.ireturn, 1, [], [], 0, 0, 0, 42),
  (.aload_n 0, 1, [], [], 0, 0, 0, 43),
  (.getfield 20, 3, [(10, 3)], [[6101]], 0, 0, 0, 44), mm_nop, mm_nop,
  (.iload_n 1, 1, [], [], 1, 0, 0, 47),
  (.iaload, 1, [], [], 0, 0, 0, 48),
  (.ireturn, 1, [], [], 0, 0, 0, 49),
  (.aload_n 0, 1, [], [], 0, 0, 0, 50),
  (.getfield 23, 3, [(10, 4)], [[6102]], 0, 0, 0, 51), mm_nop, mm_nop,
  (.iload_n 1, 1, [], [], 1, 0, 0, 54),
  (.iaload, 1, [], [], 0, 0, 0, 55),
  (.ireturn, 1, [], [], 0, 0, 0, 56),
  (.aload_n 0, 1, [], [], 0, 0, 0, 57),
  (.getfield 26, 3, [(10, 5)], [[6103]], 0, 0, 0, 58), mm_nop, mm_nop,
  (.iload_n 1, 1, [], [], 1, 0, 0, 61),
  (.iaload, 1, [], [], 0, 0, 0, 62),
  (.ireturn, 1, [], [], 0, 0, 0, 63),
  (.aload_n 0, 1, [], [], 0, 0, 0, 64),
  (.getfield 35, 3, [(10, 8)], [[6106]], 0, 0, 0, 65), mm_nop, mm_nop,
  (.iload_n 1, 1, [], [], 1, 0, 0, 68),
  (.iaload, 1, [], [], 0, 0, 0, 69),
  (.ireturn, 1, [], [], 0, 0, 0, 70),
  (.aload_n 0, 1, [], [], 0, 0, 0, 71),
  (.getfield 29, 3, [(10, 6)], [[6104]], 0, 0, 0, 72), mm_nop, mm_nop,
  (.iload_n 1, 1, [], [], 1, 0, 0, 75),
  (.iaload, 1, [], [], 0, 0, 0, 76),
  (.ifCond .le 7, 3, [(0, 84)], [], 0, 0, 0, 77), mm_nop, mm_nop,
  (.iconst 1, 1, [], [], 0, 1, 0, 80),
  (.goto 4, 3, [(0, 85)], [], 0, 0, 0, 81), mm_nop, mm_nop,
  (.iconst 0, 1, [], [], 0, 0, 0, 84),
  (.aload_n 0, 1, [], [], 0, 0, 0, 85),
  (.getfield 32, 3, [(10, 7)], [[6105]], 0, 0, 0, 86), mm_nop, mm_nop,
  (.iload_n 1, 1, [], [], 1, 0, 0, 89),
  (.iaload, 1, [], [], 0, 0, 0, 90),
  (.ifCond .le 7, 3, [(0, 98)], [], 0, 0, 0, 91), mm_nop, mm_nop,
  (.iconst 2, 1, [], [], 0, 2, 0, 94),
  (.goto 4, 3, [(0, 99)], [], 0, 0, 0, 95), mm_nop, mm_nop,
  (.iconst 0, 1, [], [], 0, 0, 0, 98),
  (.iadd, 1, [], [], 0, 0, 0, 99),
  (.ireturn, 1, [], [], 0, 0, 0, 100)]
def mm_m178 : mm_M := (yX12_typeOf, cX12_typeOf, 3, (some .int), mm_k178, 2, 0, 0, 7114)
/-- TypeCopierModel.type.(II)I -/
def mm_k179 : List mm_E := [
  (.aload_n 0, 1, [], [], 0, 0, 0, 0),
  (.iload_n 1, 1, [], [], 1, 0, 0, 1),
  (.invokevirtual 200, 3, [(10, 174)], [[7065, 7067, 1019, 2015]], 1, 0, 0, 2), mm_nop, mm_nop,
  (.ifCond .eq 21, 3, [(0, 26)], [], 0, 0, 0, 5), mm_nop, mm_nop,
  (.iload_n 2, 1, [], [], 2, 0, 0, 8),
  (.iconst 0, 1, [], [], 0, 0, 0, 9),
  (.iconst 5, 1, [], [], 0, 5, 0, 10),
  (.invokestatic 193, 3, [(0, 164)], [[7069, 7070, 2015]], 3, 0, 0, 11), mm_nop, mm_nop,
  (.ifCond .eq 12, 3, [(0, 26)], [], 0, 0, 0, 14), mm_nop, mm_nop,
  (.aload_n 0, 1, [], [], 0, 0, 0, 17),
  (.iload_n 1, 1, [], [], 1, 0, 0, 18),
  (.iload_n 2, 1, [], [], 2, 0, 0, 19),
  (.invokevirtual 207, 3, [(10, 178)], [[7111, 7113, 1025, 2015]], 2, 0, 0, 20), mm_nop, mm_nop,
  (.goto 5, 3, [(0, 28)], [], 0, 0, 0, 23), mm_nop, mm_nop,
  (.bipush (-2), 2, [], [], 0, (-2), 0, 26), mm_nop,
  (.ireturn, 1, [], [], 0, 0, 0, 28)]
def mm_m179 : mm_M := (yX12_type, cX12_type, 3, (some .int), mm_k179, 2, 0, 0, 7110)
/-- TypeCopierModel.isWithin.(II)Z -/
def mm_k180 : List mm_E := [
  (.aload_n 0, 1, [], [], 0, 0, 0, 0),
  (.getfield 29, 3, [(10, 6)], [[6104]], 0, 0, 0, 1), mm_nop, mm_nop,
  (.iload_n 1, 1, [], [], 1, 0, 0, 4),
  (.iaload, 1, [], [], 0, 0, 0, 5),
  (.ifCond .eq 7, 3, [(0, 13)], [], 0, 0, 0, 6), mm_nop, mm_nop,
  (.iload_n 2, 1, [], [], 2, 0, 0, 9),
  (.ifCond .le 21, 3, [(0, 31)], [], 0, 0, 0, 10), mm_nop, mm_nop,
  (.aload_n 0, 1, [], [], 0, 0, 0, 13),
  (.getfield 32, 3, [(10, 7)], [[6105]], 0, 0, 0, 14), mm_nop, mm_nop,
  (.iload_n 1, 1, [], [], 1, 0, 0, 17),
  (.iaload, 1, [], [], 0, 0, 0, 18),
  (.ifCond .eq 8, 3, [(0, 27)], [], 0, 0, 0, 19), mm_nop, mm_nop,
  (.iload_n 2, 1, [], [], 2, 0, 0, 22),
  (.iconst 1, 1, [], [], 0, 1, 0, 23),
  (.if_icmp .le 7, 3, [(0, 31)], [], 0, 0, 0, 24), mm_nop, mm_nop,
  (.iconst 1, 1, [], [], 0, 1, 0, 27),
  (.goto 4, 3, [(0, 32)], [], 0, 0, 0, 28), mm_nop, mm_nop,
  (.iconst 0, 1, [], [], 0, 0, 0, 31),
  (.ireturn, 1, [], [], 0, 0, 0, 32)]
def mm_m180 : mm_M := (yX12_isWithin, cX12_isWithin, 3, (some .boolean), mm_k180, 2, 0, 0, 7141)
/-- TypeCopierModel.put.(III)I -/
def mm_k181 : List mm_E := [
  (.iconst 1, 1, [], [], 0, 1, 0, 0),
  (.istore 4, 2, [], [], 4, 0, 0, 1), mm_nop,
  (.iconst 0, 1, [], [], 0, 0, 0, 3),
  (.istore 5, 2, [], [], 5, 0, 0, 4), mm_nop,
  (.aload_n 0, 1, [], [], 0, 0, 0, 6),
  (.getfield 41, 3, [(10, 10)], [[6108]], 0, 0, 0, 7), mm_nop, mm_nop,
  (.iconst 0, 1, [], [], 0, 0, 0, 10),
  (.iload_n 1, 1, [], [], 1, 0, 0, 11),
  (.iastore, 1, [], [], 0, 0, 0, 12),
  (.aload_n 0, 1, [], [], 0, 0, 0, 13),
  (.getfield 44, 3, [(10, 11)], [[6109]], 0, 0, 0, 14), mm_nop, mm_nop,
  (.iconst 0, 1, [], [], 0, 0, 0, 17),
  (.iconst 0, 1, [], [], 0, 0, 0, 18),
  (.bastore, 1, [], [], 0, 0, 0, 19),
  (.iload 4, 2, [], [], 4, 0, 0, 20), mm_nop,
  (.ifCond .le 258, 3, [(0, 280)], [], 0, 0, 0, 22), mm_nop, mm_nop,
  (.iinc 4 (-1), 3, [], [], 4, (-1), 0, 25), mm_nop, mm_nop,
  (.aload_n 0, 1, [], [], 0, 0, 0, 28),
  (.getfield 41, 3, [(10, 10)], [[6108]], 0, 0, 0, 29), mm_nop, mm_nop,
  (.iload 4, 2, [], [], 4, 0, 0, 32), mm_nop,
  (.iaload, 1, [], [], 0, 0, 0, 34),
  (.istore 6, 2, [], [], 6, 0, 0, 35), mm_nop,
  (.aload_n 0, 1, [], [], 0, 0, 0, 37),
  (.getfield 29, 3, [(10, 6)], [[6104]], 0, 0, 0, 38), mm_nop, mm_nop,
  (.iload 6, 2, [], [], 6, 0, 0, 41), mm_nop,
  (.iaload, 1, [], [], 0, 0, 0, 43),
  (.aload_n 0, 1, [], [], 0, 0, 0, 44),
  (.getfield 32, 3, [(10, 7)], [[6105]], 0, 0, 0, 45), mm_nop, mm_nop,
  (.iload 6, 2, [], [], 6, 0, 0, 48), mm_nop,
  (.iaload, 1, [], [], 0, 0, 0, 50),
  (.iadd, 1, [], [], 0, 0, 0, 51),
  (.ifCond .ne 18, 3, [(0, 70)], [], 0, 0, 0, 52), mm_nop, mm_nop,
  (.aload_n 0, 1, [], [], 0, 0, 0, 55),
  (.getfield 48, 3, [(10, 12)], [[6110]], 0, 0, 0, 56), mm_nop, mm_nop,
  (.iload 5, 2, [], [], 5, 0, 0, 59), mm_nop,
  (.iload 6, 2, [], [], 6, 0, 0, 61), mm_nop,
  (.iastore, 1, [], [], 0, 0, 0, 63),
  (.iinc 5 1, 3, [], [], 5, 1, 0, 64), mm_nop, mm_nop,
  (.goto 210, 3, [(0, 277)], [], 0, 0, 0, 67), mm_nop, mm_nop,
  (.aload_n 0, 1, [], [], 0, 0, 0, 70),
  (.getfield 16, 3, [(10, 2)], [[6100]], 0, 0, 0, 71), mm_nop, mm_nop,
  (.iload 6, 2, [], [], 6, 0, 0, 74), mm_nop,
  (.iaload, 1, [], [], 0, 0, 0, 76),
  (.iconst 2, 1, [], [], 0, 2, 0, 77),
  (.if_icmp .eq 14, 3, [(0, 92)], [], 0, 0, 0, 78), mm_nop, mm_nop,
  (.aload_n 0, 1, [], [], 0, 0, 0, 81),
  (.getfield 16, 3, [(10, 2)], [[6100]], 0, 0, 0, 82), mm_nop, mm_nop,
  (.iload 6, 2, [], [], 6, 0, 0, 85), mm_nop,
  (.iaload, 1, [], [], 0, 0, 0, 87),
  (.iconst 3, 1, [], [], 0, 3, 0, 88),
  (.if_icmp .ne 32, 3, [(0, 121)], [], 0, 0, 0, 89), mm_nop, mm_nop,
  (.aload_n 0, 1, [], [], 0, 0, 0, 92),
  (.getfield 48, 3, [(10, 12)], [[6110]], 0, 0, 0, 93), mm_nop, mm_nop,
  (.iload 5, 2, [], [], 5, 0, 0, 96), mm_nop,
  (.aload_n 0, 1, [], [], 0, 0, 0, 98),
  (.getfield 16, 3, [(10, 2)], [[6100]], 0, 0, 0, 99), mm_nop, mm_nop,
  (.iload 6, 2, [], [], 6, 0, 0, 102), mm_nop,
  (.iaload, 1, [], [], 0, 0, 0, 104),
  (.iconst 2, 1, [], [], 0, 2, 0, 105),
  (.if_icmp .ne 7, 3, [(0, 113)], [], 0, 0, 0, 106), mm_nop, mm_nop,
  (.iload_n 2, 1, [], [], 2, 0, 0, 109),
  (.goto 4, 3, [(0, 114)], [], 0, 0, 0, 110), mm_nop, mm_nop,
  (.iload_n 3, 1, [], [], 3, 0, 0, 113),
  (.iastore, 1, [], [], 0, 0, 0, 114),
  (.iinc 5 1, 3, [], [], 5, 1, 0, 115), mm_nop, mm_nop,
  (.goto 159, 3, [(0, 277)], [], 0, 0, 0, 118), mm_nop, mm_nop,
  (.aload_n 0, 1, [], [], 0, 0, 0, 121),
  (.getfield 44, 3, [(10, 11)], [[6109]], 0, 0, 0, 122), mm_nop, mm_nop,
  (.iload 4, 2, [], [], 4, 0, 0, 125), mm_nop,
  (.baload, 1, [], [], 0, 0, 0, 127),
  (.ifCond .ne 78, 3, [(0, 206)], [], 0, 0, 0, 128), mm_nop, mm_nop,
  (.aload_n 0, 1, [], [], 0, 0, 0, 131),
  (.getfield 44, 3, [(10, 11)], [[6109]], 0, 0, 0, 132), mm_nop, mm_nop,
  (.iload 4, 2, [], [], 4, 0, 0, 135), mm_nop,
  (.iconst 1, 1, [], [], 0, 1, 0, 137),
  (.bastore, 1, [], [], 0, 0, 0, 138),
  (.iinc 4 1, 3, [], [], 4, 1, 0, 139), mm_nop, mm_nop,
  (.aload_n 0, 1, [], [], 0, 0, 0, 142),
  (.getfield 41, 3, [(10, 10)], [[6108]], 0, 0, 0, 143), mm_nop, mm_nop,
  (.iload 4, 2, [], [], 4, 0, 0, 146), mm_nop,
  (.aload_n 0, 1, [], [], 0, 0, 0, 148),
  (.getfield 20, 3, [(10, 3)], [[6101]], 0, 0, 0, 149), mm_nop, mm_nop,
  (.iload 6, 2, [], [], 6, 0, 0, 152), mm_nop,
  (.iaload, 1, [], [], 0, 0, 0, 154),
  (.iastore, 1, [], [], 0, 0, 0, 155),
  (.aload_n 0, 1, [], [], 0, 0, 0, 156),
  (.getfield 44, 3, [(10, 11)], [[6109]], 0, 0, 0, 157), mm_nop, mm_nop,
  (.iload 4, 2, [], [], 4, 0, 0, 160), mm_nop,
  (.iconst 0, 1, [], [], 0, 0, 0, 162),
  (.bastore, 1, [], [], 0, 0, 0, 163),
  (.iinc 4 1, 3, [], [], 4, 1, 0, 164), mm_nop, mm_nop,
  (.aload_n 0, 1, [], [], 0, 0, 0, 167),
  (.getfield 16, 3, [(10, 2)], [[6100]], 0, 0, 0, 168), mm_nop, mm_nop,
  (.iload 6, 2, [], [], 6, 0, 0, 171), mm_nop,
  (.iaload, 1, [], [], 0, 0, 0, 173),
  (.iconst 4, 1, [], [], 0, 4, 0, 174),
  (.if_icmp .ne 102, 3, [(0, 277)], [], 0, 0, 0, 175), mm_nop, mm_nop,
  (.aload_n 0, 1, [], [], 0, 0, 0, 178),
  (.getfield 41, 3, [(10, 10)], [[6108]], 0, 0, 0, 179), mm_nop, mm_nop,
  (.iload 4, 2, [], [], 4, 0, 0, 182), mm_nop,
  (.aload_n 0, 1, [], [], 0, 0, 0, 184),
  (.getfield 23, 3, [(10, 4)], [[6102]], 0, 0, 0, 185), mm_nop, mm_nop,
  (.iload 6, 2, [], [], 6, 0, 0, 188), mm_nop,
  (.iaload, 1, [], [], 0, 0, 0, 190),
  (.iastore, 1, [], [], 0, 0, 0, 191),
  (.aload_n 0, 1, [], [], 0, 0, 0, 192),
  (.getfield 44, 3, [(10, 11)], [[6109]], 0, 0, 0, 193), mm_nop, mm_nop,
  (.iload 4, 2, [], [], 4, 0, 0, 196), mm_nop,
  (.iconst 0, 1, [], [], 0, 0, 0, 198),
  (.bastore, 1, [], [], 0, 0, 0, 199),
  (.iinc 4 1, 3, [], [], 4, 1, 0, 200), mm_nop, mm_nop,
  (.goto 74, 3, [(0, 277)], [], 0, 0, 0, 203), mm_nop, mm_nop,
  (.aload_n 0, 1, [], [], 0, 0, 0, 206),
  (.getfield 16, 3, [(10, 2)], [[6100]], 0, 0, 0, 207), mm_nop, mm_nop,
  (.iload 6, 2, [], [], 6, 0, 0, 210), mm_nop,
  (.iaload, 1, [], [], 0, 0, 0, 212),
  (.iconst 5, 1, [], [], 0, 5, 0, 213),
  (.if_icmp .ne 30, 3, [(0, 244)], [], 0, 0, 0, 214), mm_nop, mm_nop,
  (.aload_n 0, 1, [], [], 0, 0, 0, 217),
  (.getfield 48, 3, [(10, 12)], [[6110]], 0, 0, 0, 218), mm_nop, mm_nop,
  (.iload 5, 2, [], [], 5, 0, 0, 221), mm_nop,
  (.iconst 1, 1, [], [], 0, 1, 0, 223),
  (.isub, 1, [], [], 0, 0, 0, 224),
  (.aload_n 0, 1, [], [], 0, 0, 0, 225),
  (.iconst 5, 1, [], [], 0, 5, 0, 226),
  (.aload_n 0, 1, [], [], 0, 0, 0, 227),
  (.getfield 48, 3, [(10, 12)], [[6110]], 0, 0, 0, 228), mm_nop, mm_nop,
  (.iload 5, 2, [], [], 5, 0, 0, 231), mm_nop,
  (.iconst 1, 1, [], [], 0, 1, 0, 233),
  (.isub, 1, [], [], 0, 0, 0, 234),
  (.iaload, 1, [], [], 0, 0, 0, 235),
  (.iconst (-1), 1, [], [], 0, (-1), 0, 236),
  (.invokevirtual 210, 3, [(10, 173)], [[7166, 7168, 1034, 2015]], 3, 0, 0, 237), mm_nop, mm_nop,
  (.iastore, 1, [], [], 0, 0, 0, 240),
  (.goto 36, 3, [(0, 277)], [], 0, 0, 0, 241), mm_nop, mm_nop,
  (.iinc 5 (-1), 3, [], [], 5, (-1), 0, 244), mm_nop, mm_nop,
  (.aload_n 0, 1, [], [], 0, 0, 0, 247),
  (.getfield 48, 3, [(10, 12)], [[6110]], 0, 0, 0, 248), mm_nop, mm_nop,
  (.iload 5, 2, [], [], 5, 0, 0, 251), mm_nop,
  (.iconst 1, 1, [], [], 0, 1, 0, 253),
  (.isub, 1, [], [], 0, 0, 0, 254),
  (.aload_n 0, 1, [], [], 0, 0, 0, 255),
  (.iconst 4, 1, [], [], 0, 4, 0, 256),
  (.aload_n 0, 1, [], [], 0, 0, 0, 257),
  (.getfield 48, 3, [(10, 12)], [[6110]], 0, 0, 0, 258), mm_nop, mm_nop,
  (.iload 5, 2, [], [], 5, 0, 0, 261), mm_nop,
  (.iaload, 1, [], [], 0, 0, 0, 263),
  (.aload_n 0, 1, [], [], 0, 0, 0, 264),
  (.getfield 48, 3, [(10, 12)], [[6110]], 0, 0, 0, 265), mm_nop, mm_nop,
  (.iload 5, 2, [], [], 5, 0, 0, 268), mm_nop,
  (.iconst 1, 1, [], [], 0, 1, 0, 270),
  (.isub, 1, [], [], 0, 0, 0, 271),
  (.iaload, 1, [], [], 0, 0, 0, 272),
  (.invokevirtual 210, 3, [(10, 173)], [[7166, 7168, 1034, 2015]], 3, 0, 0, 273), mm_nop, mm_nop,
  (.iastore, 1, [], [], 0, 0, 0, 276),
  (.goto (-257), 3, [(0, 20)], [], 0, 0, 0, 277), mm_nop, mm_nop,
  (.aload_n 0, 1, [], [], 0, 0, 0, 280),
  (.getfield 48, 3, [(10, 12)], [[6110]], 0, 0, 0, 281), mm_nop, mm_nop,
  (.iconst 0, 1, [], [], 0, 0, 0, 284),
  (.iaload, 1, [], [], 0, 0, 0, 285),
  (.ireturn, 1, [], [], 0, 0, 0, 286)]
def mm_m181 : mm_M := (yX12_put, cX12_put, 7, (some .int), mm_k181, 3, 0, 0, 7177)
/-- TypeCopierModel.named.(IZ)I -/
def mm_k182 : List mm_E := [
  (.iload_n 2, 1, [], [], 2, 0, 0, 0),
  (.ifCond .ne 7, 3, [(0, 8)], [], 0, 0, 0, 1), mm_nop, mm_nop,
  (.iconst (-1), 1, [], [], 0, (-1), 0, 4),
  (.goto 16, 3, [(0, 21)], [], 0, 0, 0, 5), mm_nop, mm_nop,
  (.iload_n 1, 1, [], [], 1, 0, 0, 8),
  (.sipush 200, 3, [], [], 0, 200, 0, 9), mm_nop, mm_nop,
  (.if_icmp .ge 7, 3, [(0, 19)], [], 0, 0, 0, 12), mm_nop, mm_nop,
  (.iload_n 1, 1, [], [], 1, 0, 0, 15),
  (.goto 5, 3, [(0, 21)], [], 0, 0, 0, 16), mm_nop, mm_nop,
  (.bipush (-5), 2, [], [], 0, (-5), 0, 19), mm_nop,
  (.ireturn, 1, [], [], 0, 0, 0, 21)]
def mm_m182 : mm_M := (yX12_named, cX12_named, 3, (some .int), mm_k182, 2, 0, 0, 7181)
/-- TypeCopierModel.isNode.(I)Z -/
def mm_k183 : List mm_E := [
  (.iload_n 1, 1, [], [], 1, 0, 0, 0),
  (.iconst 0, 1, [], [], 0, 0, 0, 1),
  (.aload_n 0, 1, [], [], 0, 0, 0, 2),
  (.getfield 213, 3, [(10, 13)], [[6111]], 0, 0, 0, 3), mm_nop, mm_nop,
  (.iconst 1, 1, [], [], 0, 1, 0, 6),
  (.isub, 1, [], [], 0, 0, 0, 7),
  (.invokestatic 193, 3, [(0, 164)], [[7069, 7070, 2015]], 3, 0, 0, 8), mm_nop, mm_nop,
  (.ireturn, 1, [], [], 0, 0, 0, 11)]
def mm_m183 : mm_M := (yX12_isNode, cX12_isNode, 2, (some .boolean), mm_k183, 1, 0, 0, 7126)
/-- TypeCopierModel.isFunction.(I)Z -/
def mm_k184 : List mm_E := [
  (.iload_n 1, 1, [], [], 1, 0, 0, 0),
  (.iconst 0, 1, [], [], 0, 0, 0, 1),
  (.aload_n 0, 1, [], [], 0, 0, 0, 2),
  (.getfield 216, 3, [(10, 20)], [[6118]], 0, 0, 0, 3), mm_nop, mm_nop,
  (.iconst 1, 1, [], [], 0, 1, 0, 6),
  (.isub, 1, [], [], 0, 0, 0, 7),
  (.invokestatic 193, 3, [(0, 164)], [[7069, 7070, 2015]], 3, 0, 0, 8), mm_nop, mm_nop,
  (.ireturn, 1, [], [], 0, 0, 0, 11)]
def mm_m184 : mm_M := (yX12_isFunction, cX12_isFunction, 2, (some .boolean), mm_k184, 1, 0, 0, 7149)
/-- TypeCopierModel.partsOf.(I)I -/
def mm_k185 : List mm_E := [
  (.iload_n 0, 1, [], [], 0, 0, 0, 0),
  (.iconst 3, 1, [], [], 0, 3, 0, 1),
  (.if_icmp .lt 9, 3, [(0, 11)], [], 0, 0, 0, 2), mm_nop, mm_nop,
  (.iload_n 0, 1, [], [], 0, 0, 0, 5),
  (.bipush 9, 2, [], [], 0, 9, 0, 6), mm_nop,
  (.if_icmp .ne 7, 3, [(0, 15)], [], 0, 0, 0, 8), mm_nop, mm_nop,
  (.iconst 0, 1, [], [], 0, 0, 0, 11),
  (.goto 39, 3, [(0, 51)], [], 0, 0, 0, 12), mm_nop, mm_nop,
  (.iload_n 0, 1, [], [], 0, 0, 0, 15),
  (.iconst 5, 1, [], [], 0, 5, 0, 16),
  (.if_icmp .ne 7, 3, [(0, 24)], [], 0, 0, 0, 17), mm_nop, mm_nop,
  (.iconst 3, 1, [], [], 0, 3, 0, 20),
  (.goto 30, 3, [(0, 51)], [], 0, 0, 0, 21), mm_nop, mm_nop,
  (.iload_n 0, 1, [], [], 0, 0, 0, 24),
  (.iconst 3, 1, [], [], 0, 3, 0, 25),
  (.if_icmp .eq 20, 3, [(0, 46)], [], 0, 0, 0, 26), mm_nop, mm_nop,
  (.iload_n 0, 1, [], [], 0, 0, 0, 29),
  (.iconst 4, 1, [], [], 0, 4, 0, 30),
  (.if_icmp .eq 15, 3, [(0, 46)], [], 0, 0, 0, 31), mm_nop, mm_nop,
  (.iload_n 0, 1, [], [], 0, 0, 0, 34),
  (.bipush 6, 2, [], [], 0, 6, 0, 35), mm_nop,
  (.if_icmp .eq 9, 3, [(0, 46)], [], 0, 0, 0, 37), mm_nop, mm_nop,
  (.iload_n 0, 1, [], [], 0, 0, 0, 40),
  (.bipush 10, 2, [], [], 0, 10, 0, 41), mm_nop,
  (.if_icmp .ne 7, 3, [(0, 50)], [], 0, 0, 0, 43), mm_nop, mm_nop,
  (.iconst 2, 1, [], [], 0, 2, 0, 46),
  (.goto 4, 3, [(0, 51)], [], 0, 0, 0, 47), mm_nop, mm_nop,
  (.iconst 1, 1, [], [], 0, 1, 0, 50),
  (.ireturn, 1, [], [], 0, 0, 0, 51)]
def mm_m185 : mm_M := (yX12_partsOf, cX12_partsOf, 1, (some .int), mm_k185, 1, 0, 0, 7133)
/-- TypeCopierModel.partOf.(II)I -/
def mm_k186 : List mm_E := [
  (.aload_n 0, 1, [], [], 0, 0, 0, 0),
  (.getfield 51, 3, [(10, 14)], [[6112]], 0, 0, 0, 1), mm_nop, mm_nop,
  (.iload_n 1, 1, [], [], 1, 0, 0, 4),
  (.iaload, 1, [], [], 0, 0, 0, 5),
  (.bipush 14, 2, [], [], 0, 14, 0, 6), mm_nop,
  (.if_icmp .ne 12, 3, [(0, 20)], [], 0, 0, 0, 8), mm_nop, mm_nop,
  (.aload_n 0, 1, [], [], 0, 0, 0, 11),
  (.getfield 57, 3, [(10, 16)], [[6114]], 0, 0, 0, 12), mm_nop, mm_nop,
  (.iload_n 1, 1, [], [], 1, 0, 0, 15),
  (.iaload, 1, [], [], 0, 0, 0, 16),
  (.goto 36, 3, [(0, 53)], [], 0, 0, 0, 17), mm_nop, mm_nop,
  (.iload_n 2, 1, [], [], 2, 0, 0, 20),
  (.ifCond .ne 12, 3, [(0, 33)], [], 0, 0, 0, 21), mm_nop, mm_nop,
  (.aload_n 0, 1, [], [], 0, 0, 0, 24),
  (.getfield 54, 3, [(10, 15)], [[6113]], 0, 0, 0, 25), mm_nop, mm_nop,
  (.iload_n 1, 1, [], [], 1, 0, 0, 28),
  (.iaload, 1, [], [], 0, 0, 0, 29),
  (.goto 23, 3, [(0, 53)], [], 0, 0, 0, 30), mm_nop, mm_nop,
  (.iload_n 2, 1, [], [], 2, 0, 0, 33),
  (.iconst 1, 1, [], [], 0, 1, 0, 34),
  (.if_icmp .ne 12, 3, [(0, 47)], [], 0, 0, 0, 35), mm_nop, mm_nop,
  (.aload_n 0, 1, [], [], 0, 0, 0, 38),
  (.getfield 57, 3, [(10, 16)], [[6114]], 0, 0, 0, 39), mm_nop, mm_nop,
  (.iload_n 1, 1, [], [], 1, 0, 0, 42),
  (.iaload, 1, [], [], 0, 0, 0, 43),
  (.goto 9, 3, [(0, 53)], [], 0, 0, 0, 44), mm_nop, mm_nop,
  (.aload_n 0, 1, [], [], 0, 0, 0, 47),
  (.getfield 60, 3, [(10, 17)], [[6115]], 0, 0, 0, 48), mm_nop, mm_nop,
  (.iload_n 1, 1, [], [], 1, 0, 0, 51),
  (.iaload, 1, [], [], 0, 0, 0, 52),
  (.ireturn, 1, [], [], 0, 0, 0, 53)]
def mm_m186 : mm_M := (yX12_partOf, cX12_partOf, 3, (some .int), mm_k186, 2, 0, 0, 7161)
/-- TypeCopierModel.isTypeOrNone.(I)Z -/
def mm_k187 : List mm_E := [
  (.iload_n 1, 1, [], [], 1, 0, 0, 0),
  (.iconst (-1), 1, [], [], 0, (-1), 0, 1),
  (.if_icmp .eq 11, 3, [(0, 13)], [], 0, 0, 0, 2), mm_nop, mm_nop,
  (.aload_n 0, 1, [], [], 0, 0, 0, 5),
  (.iload_n 1, 1, [], [], 1, 0, 0, 6),
  (.invokevirtual 200, 3, [(10, 174)], [[7065, 7067, 1019, 2015]], 1, 0, 0, 7), mm_nop, mm_nop,
  (.ifCond .eq 7, 3, [(0, 17)], [], 0, 0, 0, 10), mm_nop, mm_nop,
  (.iconst 1, 1, [], [], 0, 1, 0, 13),
  (.goto 4, 3, [(0, 18)], [], 0, 0, 0, 14), mm_nop, mm_nop,
  (.iconst 0, 1, [], [], 0, 0, 0, 17),
  (.ireturn, 1, [], [], 0, 0, 0, 18)]
def mm_m187 : mm_M := (yX12_isTypeOrNone, cX12_isTypeOrNone, 2, (some .boolean), mm_k187, 1, 0, 0, 7130)
/-- TypeCopierModel.mayBe.(IIIII)Z -/
def mm_k188 : List mm_E := [
  (.iload_n 1, 1, [], [], 1, 0, 0, 0),
  (.tableswitch 144 0 14 #[75, 77, 75, 144, 144, 144, 144, 144, 144, 84, 144, 144, 144, 144, 90], 75, [(0, 145), (0, 76), (1, 78), (2, 76), (3, 145), (4, 145), (5, 145), (6, 145), (7, 145), (8, 145), (9, 85), (10, 145), (11, 145), (12, 145), (13, 145), (14, 91)], [], 0, 0, 0, 1), mm_nop, mm_nop, mm_nop, mm_nop, mm_nop, mm_nop, mm_nop, mm_nop, mm_nop, mm_nop, mm_nop, mm_nop, mm_nop, mm_nop, mm_nop, mm_nop, mm_nop, mm_nop, mm_nop, mm_nop, mm_nop, mm_nop, mm_nop, mm_nop, mm_nop, mm_nop, mm_nop, mm_nop, mm_nop, mm_nop, mm_nop, mm_nop, mm_nop, mm_nop, mm_nop, mm_nop, mm_nop, mm_nop, mm_nop, mm_nop, mm_nop, mm_nop, mm_nop, mm_nop, mm_nop, mm_nop, mm_nop, mm_nop, mm_nop, mm_nop, mm_nop, mm_nop, mm_nop, mm_nop, mm_nop, mm_nop, mm_nop, mm_nop, mm_nop, mm_nop, mm_nop, mm_nop, mm_nop, mm_nop, mm_nop, mm_nop, mm_nop, mm_nop, mm_nop, mm_nop, mm_nop, mm_nop, mm_nop, mm_nop,
  (.iconst 1, 1, [], [], 0, 1, 0, 76),
  (.ireturn, 1, [], [], 0, 0, 0, 77),
  (.iload_n 2, 1, [], [], 2, 0, 0, 78),
  (.iconst 0, 1, [], [], 0, 0, 0, 79),
  (.iconst 1, 1, [], [], 0, 1, 0, 80),
  (.invokestatic 193, 3, [(0, 164)], [[7069, 7070, 2015]], 3, 0, 0, 81), mm_nop, mm_nop,
  (.ireturn, 1, [], [], 0, 0, 0, 84),
  (.aload_n 0, 1, [], [], 0, 0, 0, 85),
  (.iload_n 2, 1, [], [], 2, 0, 0, 86),
  (.invokevirtual 200, 3, [(10, 174)], [[7065, 7067, 1019, 2015]], 1, 0, 0, 87), mm_nop, mm_nop,
  (.ireturn, 1, [], [], 0, 0, 0, 90),
  (.iload_n 2, 1, [], [], 2, 0, 0, 91),
  (.iconst 0, 1, [], [], 0, 0, 0, 92),
  (.bipush 11, 2, [], [], 0, 11, 0, 93), mm_nop,
  (.invokestatic 193, 3, [(0, 164)], [[7069, 7070, 2015]], 3, 0, 0, 95), mm_nop, mm_nop,
  (.ifCond .eq 45, 3, [(0, 143)], [], 0, 0, 0, 98), mm_nop, mm_nop,
  (.aload_n 0, 1, [], [], 0, 0, 0, 101),
  (.iload_n 3, 1, [], [], 3, 0, 0, 102),
  (.invokevirtual 219, 3, [(10, 183)], [[7123, 7125, 1027, 2015]], 1, 0, 0, 103), mm_nop, mm_nop,
  (.ifCond .eq 37, 3, [(0, 143)], [], 0, 0, 0, 106), mm_nop, mm_nop,
  (.aload_n 0, 1, [], [], 0, 0, 0, 109),
  (.iload 4, 2, [], [], 4, 0, 0, 110), mm_nop,
  (.invokevirtual 222, 3, [(10, 187)], [[7127, 7129, 1028, 2015]], 1, 0, 0, 112), mm_nop, mm_nop,
  (.ifCond .eq 28, 3, [(0, 143)], [], 0, 0, 0, 115), mm_nop, mm_nop,
  (.aload_n 0, 1, [], [], 0, 0, 0, 118),
  (.iload 5, 2, [], [], 5, 0, 0, 119), mm_nop,
  (.invokevirtual 222, 3, [(10, 187)], [[7127, 7129, 1028, 2015]], 1, 0, 0, 121), mm_nop, mm_nop,
  (.ifCond .eq 19, 3, [(0, 143)], [], 0, 0, 0, 124), mm_nop, mm_nop,
  (.iload 4, 2, [], [], 4, 0, 0, 127), mm_nop,
  (.iconst (-1), 1, [], [], 0, (-1), 0, 129),
  (.if_icmp .ne 9, 3, [(0, 139)], [], 0, 0, 0, 130), mm_nop, mm_nop,
  (.iload 5, 2, [], [], 5, 0, 0, 133), mm_nop,
  (.iconst (-1), 1, [], [], 0, (-1), 0, 135),
  (.if_icmp .ne 7, 3, [(0, 143)], [], 0, 0, 0, 136), mm_nop, mm_nop,
  (.iconst 1, 1, [], [], 0, 1, 0, 139),
  (.goto 4, 3, [(0, 144)], [], 0, 0, 0, 140), mm_nop, mm_nop,
  (.iconst 0, 1, [], [], 0, 0, 0, 143),
  (.ireturn, 1, [], [], 0, 0, 0, 144),
  (.iload_n 1, 1, [], [], 1, 0, 0, 145),
  (.invokestatic 225, 3, [(0, 185)], [[7131, 7132, 2015]], 1, 0, 0, 146), mm_nop, mm_nop,
  (.istore 6, 2, [], [], 6, 0, 0, 149), mm_nop,
  (.aload_n 0, 1, [], [], 0, 0, 0, 151),
  (.iload_n 2, 1, [], [], 2, 0, 0, 152),
  (.invokevirtual 219, 3, [(10, 183)], [[7123, 7125, 1027, 2015]], 1, 0, 0, 153), mm_nop, mm_nop,
  (.ifCond .eq 36, 3, [(0, 192)], [], 0, 0, 0, 156), mm_nop, mm_nop,
  (.iload 6, 2, [], [], 6, 0, 0, 159), mm_nop,
  (.iconst 2, 1, [], [], 0, 2, 0, 161),
  (.if_icmp .lt 11, 3, [(0, 173)], [], 0, 0, 0, 162), mm_nop, mm_nop,
  (.aload_n 0, 1, [], [], 0, 0, 0, 165),
  (.iload_n 3, 1, [], [], 3, 0, 0, 166),
  (.invokevirtual 219, 3, [(10, 183)], [[7123, 7125, 1027, 2015]], 1, 0, 0, 167), mm_nop, mm_nop,
  (.ifCond .eq 22, 3, [(0, 192)], [], 0, 0, 0, 170), mm_nop, mm_nop,
  (.iload 6, 2, [], [], 6, 0, 0, 173), mm_nop,
  (.iconst 3, 1, [], [], 0, 3, 0, 175),
  (.if_icmp .lt 12, 3, [(0, 188)], [], 0, 0, 0, 176), mm_nop, mm_nop,
  (.aload_n 0, 1, [], [], 0, 0, 0, 179),
  (.iload 4, 2, [], [], 4, 0, 0, 180), mm_nop,
  (.invokevirtual 219, 3, [(10, 183)], [[7123, 7125, 1027, 2015]], 1, 0, 0, 182), mm_nop, mm_nop,
  (.ifCond .eq 7, 3, [(0, 192)], [], 0, 0, 0, 185), mm_nop, mm_nop,
  (.iconst 1, 1, [], [], 0, 1, 0, 188),
  (.goto 4, 3, [(0, 193)], [], 0, 0, 0, 189), mm_nop, mm_nop,
  (.iconst 0, 1, [], [], 0, 0, 0, 192),
  (.ireturn, 1, [], [], 0, 0, 0, 193)]
def mm_m188 : mm_M := (yX12_mayBe, cX12_mayBe, 7, (some .boolean), mm_k188, 5, 0, 0, 7122)
end
section
/-! ===== code tables (by program), further ===== -/
/-- TypeCopierModel.node.(IIIII)I -/
def mm_k189 : List mm_E := [
  (.iload_n 1, 1, [], [], 1, 0, 0, 0),
  (.iconst 0, 1, [], [], 0, 0, 0, 1),
  (.bipush 14, 2, [], [], 0, 14, 0, 2), mm_nop,
  (.invokestatic 193, 3, [(0, 164)], [[7069, 7070, 2015]], 3, 0, 0, 4), mm_nop, mm_nop,
  (.ifCond .eq 17, 3, [(0, 24)], [], 0, 0, 0, 7), mm_nop, mm_nop,
  (.aload_n 0, 1, [], [], 0, 0, 0, 10),
  (.iload_n 1, 1, [], [], 1, 0, 0, 11),
  (.iload_n 2, 1, [], [], 2, 0, 0, 12),
  (.iload_n 3, 1, [], [], 3, 0, 0, 13),
  (.iload 4, 2, [], [], 4, 0, 0, 14), mm_nop,
  (.iload 5, 2, [], [], 5, 0, 0, 16), mm_nop,
  (.invokevirtual 228, 3, [(10, 188)], [[7119, 7121, 1026, 2015]], 5, 0, 0, 18), mm_nop, mm_nop,
  (.ifCond .ne 6, 3, [(0, 27)], [], 0, 0, 0, 21), mm_nop, mm_nop,
  (.bipush (-2), 2, [], [], 0, (-2), 0, 24), mm_nop,
  (.ireturn, 1, [], [], 0, 0, 0, 26),
  (.iload_n 1, 1, [], [], 1, 0, 0, 27),
  (.bipush 14, 2, [], [], 0, 14, 0, 28), mm_nop,
  (.if_icmp .ne 7, 3, [(0, 37)], [], 0, 0, 0, 30), mm_nop, mm_nop,
  (.iconst 1, 1, [], [], 0, 1, 0, 33),
  (.goto 4, 3, [(0, 38)], [], 0, 0, 0, 34), mm_nop, mm_nop,
  (.iconst 0, 1, [], [], 0, 0, 0, 37),
  (.istore 6, 2, [], [], 6, 0, 0, 38), mm_nop,
  (.iload_n 1, 1, [], [], 1, 0, 0, 40),
  (.invokestatic 225, 3, [(0, 185)], [[7131, 7132, 2015]], 1, 0, 0, 41), mm_nop, mm_nop,
  (.istore 7, 2, [], [], 7, 0, 0, 44), mm_nop,
  (.iload 7, 2, [], [], 7, 0, 0, 46), mm_nop,
  (.ifCond .ne 7, 3, [(0, 55)], [], 0, 0, 0, 48), mm_nop, mm_nop,
  (.iconst 1, 1, [], [], 0, 1, 0, 51),
  (.goto 20, 3, [(0, 72)], [], 0, 0, 0, 52), mm_nop, mm_nop,
  (.iconst 1, 1, [], [], 0, 1, 0, 55),
  (.aload_n 0, 1, [], [], 0, 0, 0, 56),
  (.getfield 66, 3, [(10, 19)], [[6117]], 0, 0, 0, 57), mm_nop, mm_nop,
  (.iload 6, 2, [], [], 6, 0, 0, 60), mm_nop,
  (.ifCond .eq 7, 3, [(0, 69)], [], 0, 0, 0, 62), mm_nop, mm_nop,
  (.iload_n 3, 1, [], [], 3, 0, 0, 65),
  (.goto 4, 3, [(0, 70)], [], 0, 0, 0, 66), mm_nop, mm_nop,
  (.iload_n 2, 1, [], [], 2, 0, 0, 69),
  (.iaload, 1, [], [], 0, 0, 0, 70),
  (.iadd, 1, [], [], 0, 0, 0, 71),
  (.istore 8, 2, [], [], 8, 0, 0, 72), mm_nop,
  (.iload 7, 2, [], [], 7, 0, 0, 74), mm_nop,
  (.iconst 1, 1, [], [], 0, 1, 0, 76),
  (.if_icmp .le 19, 3, [(0, 96)], [], 0, 0, 0, 77), mm_nop, mm_nop,
  (.iload 8, 2, [], [], 8, 0, 0, 80), mm_nop,
  (.iconst 1, 1, [], [], 0, 1, 0, 82),
  (.aload_n 0, 1, [], [], 0, 0, 0, 83),
  (.getfield 66, 3, [(10, 19)], [[6117]], 0, 0, 0, 84), mm_nop, mm_nop,
  (.iload_n 3, 1, [], [], 3, 0, 0, 87),
  (.iaload, 1, [], [], 0, 0, 0, 88),
  (.iadd, 1, [], [], 0, 0, 0, 89),
  (.invokestatic 178, 3, [(0, 170)], [[7093, 7094, 2015]], 2, 0, 0, 90), mm_nop, mm_nop,
  (.goto 5, 3, [(0, 98)], [], 0, 0, 0, 93), mm_nop, mm_nop,
  (.iload 8, 2, [], [], 8, 0, 0, 96), mm_nop,
  (.istore 8, 2, [], [], 8, 0, 0, 98), mm_nop,
  (.iload 7, 2, [], [], 7, 0, 0, 100), mm_nop,
  (.iconst 2, 1, [], [], 0, 2, 0, 102),
  (.if_icmp .le 20, 3, [(0, 123)], [], 0, 0, 0, 103), mm_nop, mm_nop,
  (.iload 8, 2, [], [], 8, 0, 0, 106), mm_nop,
  (.iconst 1, 1, [], [], 0, 1, 0, 108),
  (.aload_n 0, 1, [], [], 0, 0, 0, 109),
  (.getfield 66, 3, [(10, 19)], [[6117]], 0, 0, 0, 110), mm_nop, mm_nop,
  (.iload 4, 2, [], [], 4, 0, 0, 113), mm_nop,
  (.iaload, 1, [], [], 0, 0, 0, 115),
  (.iadd, 1, [], [], 0, 0, 0, 116),
  (.invokestatic 178, 3, [(0, 170)], [[7093, 7094, 2015]], 2, 0, 0, 117), mm_nop, mm_nop,
  (.goto 5, 3, [(0, 125)], [], 0, 0, 0, 120), mm_nop, mm_nop,
  (.iload 8, 2, [], [], 8, 0, 0, 123), mm_nop,
  (.istore 8, 2, [], [], 8, 0, 0, 125), mm_nop,
  (.iload 8, 2, [], [], 8, 0, 0, 127), mm_nop,
  (.bipush 12, 2, [], [], 0, 12, 0, 129), mm_nop,
  (.if_icmp .le 6, 3, [(0, 137)], [], 0, 0, 0, 131), mm_nop, mm_nop,
  (.bipush (-3), 2, [], [], 0, (-3), 0, 134), mm_nop,
  (.ireturn, 1, [], [], 0, 0, 0, 136),
  (.aload_n 0, 1, [], [], 0, 0, 0, 137),
  (.getfield 213, 3, [(10, 13)], [[6111]], 0, 0, 0, 138), mm_nop, mm_nop,
  (.sipush 200, 3, [], [], 0, 200, 0, 141), mm_nop, mm_nop,
  (.if_icmp .ne 6, 3, [(0, 150)], [], 0, 0, 0, 144), mm_nop, mm_nop,
  (.bipush (-4), 2, [], [], 0, (-4), 0, 147), mm_nop,
  (.ireturn, 1, [], [], 0, 0, 0, 149),
  (.aload_n 0, 1, [], [], 0, 0, 0, 150),
  (.getfield 51, 3, [(10, 14)], [[6112]], 0, 0, 0, 151), mm_nop, mm_nop,
  (.aload_n 0, 1, [], [], 0, 0, 0, 154),
  (.getfield 213, 3, [(10, 13)], [[6111]], 0, 0, 0, 155), mm_nop, mm_nop,
  (.iload_n 1, 1, [], [], 1, 0, 0, 158),
  (.iastore, 1, [], [], 0, 0, 0, 159),
  (.aload_n 0, 1, [], [], 0, 0, 0, 160),
  (.getfield 54, 3, [(10, 15)], [[6113]], 0, 0, 0, 161), mm_nop, mm_nop,
  (.aload_n 0, 1, [], [], 0, 0, 0, 164),
  (.getfield 213, 3, [(10, 13)], [[6111]], 0, 0, 0, 165), mm_nop, mm_nop,
  (.iload_n 1, 1, [], [], 1, 0, 0, 168),
  (.iconst 2, 1, [], [], 0, 2, 0, 169),
  (.if_icmp .ne 7, 3, [(0, 177)], [], 0, 0, 0, 170), mm_nop, mm_nop,
  (.iconst 0, 1, [], [], 0, 0, 0, 173),
  (.goto 4, 3, [(0, 178)], [], 0, 0, 0, 174), mm_nop, mm_nop,
  (.iload_n 2, 1, [], [], 2, 0, 0, 177),
  (.iastore, 1, [], [], 0, 0, 0, 178),
  (.aload_n 0, 1, [], [], 0, 0, 0, 179),
  (.getfield 57, 3, [(10, 16)], [[6114]], 0, 0, 0, 180), mm_nop, mm_nop,
  (.aload_n 0, 1, [], [], 0, 0, 0, 183),
  (.getfield 213, 3, [(10, 13)], [[6111]], 0, 0, 0, 184), mm_nop, mm_nop,
  (.iload 7, 2, [], [], 7, 0, 0, 187), mm_nop,
  (.iconst 1, 1, [], [], 0, 1, 0, 189),
  (.if_icmp .gt 8, 3, [(0, 198)], [], 0, 0, 0, 190), mm_nop, mm_nop,
  (.iload 6, 2, [], [], 6, 0, 0, 193), mm_nop,
  (.ifCond .eq 7, 3, [(0, 202)], [], 0, 0, 0, 195), mm_nop, mm_nop,
  (.iload_n 3, 1, [], [], 3, 0, 0, 198),
  (.goto 4, 3, [(0, 203)], [], 0, 0, 0, 199), mm_nop, mm_nop,
  (.iconst 0, 1, [], [], 0, 0, 0, 202),
  (.iastore, 1, [], [], 0, 0, 0, 203),
  (.aload_n 0, 1, [], [], 0, 0, 0, 204),
  (.getfield 60, 3, [(10, 17)], [[6115]], 0, 0, 0, 205), mm_nop, mm_nop,
  (.aload_n 0, 1, [], [], 0, 0, 0, 208),
  (.getfield 213, 3, [(10, 13)], [[6111]], 0, 0, 0, 209), mm_nop, mm_nop,
  (.iload 7, 2, [], [], 7, 0, 0, 212), mm_nop,
  (.iconst 2, 1, [], [], 0, 2, 0, 214),
  (.if_icmp .gt 8, 3, [(0, 223)], [], 0, 0, 0, 215), mm_nop, mm_nop,
  (.iload 6, 2, [], [], 6, 0, 0, 218), mm_nop,
  (.ifCond .eq 8, 3, [(0, 228)], [], 0, 0, 0, 220), mm_nop, mm_nop,
  (.iload 4, 2, [], [], 4, 0, 0, 223), mm_nop,
  (.goto 4, 3, [(0, 229)], [], 0, 0, 0, 225), mm_nop, mm_nop,
  (.iconst 0, 1, [], [], 0, 0, 0, 228),
  (.iastore, 1, [], [], 0, 0, 0, 229),
  (.aload_n 0, 1, [], [], 0, 0, 0, 230),
  (.getfield 63, 3, [(10, 18)], [[6116]], 0, 0, 0, 231), mm_nop, mm_nop,
  (.aload_n 0, 1, [], [], 0, 0, 0, 234),
  (.getfield 213, 3, [(10, 13)], [[6111]], 0, 0, 0, 235), mm_nop, mm_nop,
  (.iload 6, 2, [], [], 6, 0, 0, 238), mm_nop,
  (.ifCond .eq 8, 3, [(0, 248)], [], 0, 0, 0, 240), mm_nop, mm_nop,
  (.iload 5, 2, [], [], 5, 0, 0, 243), mm_nop,
  (.goto 4, 3, [(0, 249)], [], 0, 0, 0, 245), mm_nop, mm_nop,
  (.iconst 0, 1, [], [], 0, 0, 0, 248),
  (.iastore, 1, [], [], 0, 0, 0, 249),
  (.aload_n 0, 1, [], [], 0, 0, 0, 250),
  (.getfield 66, 3, [(10, 19)], [[6117]], 0, 0, 0, 251), mm_nop, mm_nop,
  (.aload_n 0, 1, [], [], 0, 0, 0, 254),
  (.getfield 213, 3, [(10, 13)], [[6111]], 0, 0, 0, 255), mm_nop, mm_nop,
  (.iload 8, 2, [], [], 8, 0, 0, 258), mm_nop,
  (.iastore, 1, [], [], 0, 0, 0, 260),
  (.aload_n 0, 1, [], [], 0, 0, 0, 261),
  (.dup, 1, [], [], 0, 0, 0, 262),
  (.getfield 213, 3, [(10, 13)], [[6111]], 0, 0, 0, 263), mm_nop, mm_nop,
  (.iconst 1, 1, [], [], 0, 1, 0, 266),
  (.iadd, 1, [], [], 0, 0, 0, 267),
  (.putfield 213, 3, [(10, 13)], [[6111]], 0, 0, 0, 268), mm_nop, mm_nop,
  (.aload_n 0, 1, [], [], 0, 0, 0, 271),
  (.getfield 213, 3, [(10, 13)], [[6111]], 0, 0, 0, 272), mm_nop, mm_nop,
  (.iconst 1, 1, [], [], 0, 1, 0, 275),
  (.isub, 1, [], [], 0, 0, 0, 276),
  (.ireturn, 1, [], [], 0, 0, 0, 277)]
def mm_m189 : mm_M := (yX12_node, cX12_node, 9, (some .int), mm_k189, 5, 0, 0, 7118)
/-- TypeCopierModel.function.(III)I -/
def mm_k190 : List mm_E := [
  (.iload_n 1, 1, [], [], 1, 0, 0, 0),
  (.iconst 0, 1, [], [], 0, 0, 0, 1),
  (.iconst 2, 1, [], [], 0, 2, 0, 2),
  (.invokestatic 193, 3, [(0, 164)], [[7069, 7070, 2015]], 3, 0, 0, 3), mm_nop, mm_nop,
  (.ifCond .eq 37, 3, [(0, 43)], [], 0, 0, 0, 6), mm_nop, mm_nop,
  (.aload_n 0, 1, [], [], 0, 0, 0, 9),
  (.iload_n 2, 1, [], [], 2, 0, 0, 10),
  (.invokevirtual 200, 3, [(10, 174)], [[7065, 7067, 1019, 2015]], 1, 0, 0, 11), mm_nop, mm_nop,
  (.ifCond .eq 29, 3, [(0, 43)], [], 0, 0, 0, 14), mm_nop, mm_nop,
  (.aload_n 0, 1, [], [], 0, 0, 0, 17),
  (.iload_n 3, 1, [], [], 3, 0, 0, 18),
  (.invokevirtual 200, 3, [(10, 174)], [[7065, 7067, 1019, 2015]], 1, 0, 0, 19), mm_nop, mm_nop,
  (.ifCond .eq 21, 3, [(0, 43)], [], 0, 0, 0, 22), mm_nop, mm_nop,
  (.aload_n 0, 1, [], [], 0, 0, 0, 25),
  (.iload_n 2, 1, [], [], 2, 0, 0, 26),
  (.iload_n 1, 1, [], [], 1, 0, 0, 27),
  (.invokevirtual 232, 3, [(10, 180)], [[7138, 7140, 1029, 2015]], 2, 0, 0, 28), mm_nop, mm_nop,
  (.ifCond .eq 12, 3, [(0, 43)], [], 0, 0, 0, 31), mm_nop, mm_nop,
  (.aload_n 0, 1, [], [], 0, 0, 0, 34),
  (.iload_n 3, 1, [], [], 3, 0, 0, 35),
  (.iload_n 1, 1, [], [], 1, 0, 0, 36),
  (.invokevirtual 232, 3, [(10, 180)], [[7138, 7140, 1029, 2015]], 2, 0, 0, 37), mm_nop, mm_nop,
  (.ifCond .ne 6, 3, [(0, 46)], [], 0, 0, 0, 40), mm_nop, mm_nop,
  (.bipush (-2), 2, [], [], 0, (-2), 0, 43), mm_nop,
  (.ireturn, 1, [], [], 0, 0, 0, 45),
  (.aload_n 0, 1, [], [], 0, 0, 0, 46),
  (.getfield 216, 3, [(10, 20)], [[6118]], 0, 0, 0, 47), mm_nop, mm_nop,
  (.bipush 12, 2, [], [], 0, 12, 0, 50), mm_nop,
  (.if_icmp .ne 6, 3, [(0, 58)], [], 0, 0, 0, 52), mm_nop, mm_nop,
  (.bipush (-4), 2, [], [], 0, (-4), 0, 55), mm_nop,
  (.ireturn, 1, [], [], 0, 0, 0, 57),
  (.aload_n 0, 1, [], [], 0, 0, 0, 58),
  (.getfield 69, 3, [(10, 21)], [[6119]], 0, 0, 0, 59), mm_nop, mm_nop,
  (.aload_n 0, 1, [], [], 0, 0, 0, 62),
  (.getfield 216, 3, [(10, 20)], [[6118]], 0, 0, 0, 63), mm_nop, mm_nop,
  (.iload_n 1, 1, [], [], 1, 0, 0, 66),
  (.iastore, 1, [], [], 0, 0, 0, 67),
  (.aload_n 0, 1, [], [], 0, 0, 0, 68),
  (.getfield 72, 3, [(10, 22)], [[6120]], 0, 0, 0, 69), mm_nop, mm_nop,
  (.aload_n 0, 1, [], [], 0, 0, 0, 72),
  (.getfield 216, 3, [(10, 20)], [[6118]], 0, 0, 0, 73), mm_nop, mm_nop,
  (.iload_n 2, 1, [], [], 2, 0, 0, 76),
  (.iastore, 1, [], [], 0, 0, 0, 77),
  (.aload_n 0, 1, [], [], 0, 0, 0, 78),
  (.getfield 75, 3, [(10, 23)], [[6121]], 0, 0, 0, 79), mm_nop, mm_nop,
  (.aload_n 0, 1, [], [], 0, 0, 0, 82),
  (.getfield 216, 3, [(10, 20)], [[6118]], 0, 0, 0, 83), mm_nop, mm_nop,
  (.iload_n 3, 1, [], [], 3, 0, 0, 86),
  (.iastore, 1, [], [], 0, 0, 0, 87),
  (.aload_n 0, 1, [], [], 0, 0, 0, 88),
  (.getfield 78, 3, [(10, 24)], [[6122]], 0, 0, 0, 89), mm_nop, mm_nop,
  (.aload_n 0, 1, [], [], 0, 0, 0, 92),
  (.getfield 216, 3, [(10, 20)], [[6118]], 0, 0, 0, 93), mm_nop, mm_nop,
  (.iconst (-1), 1, [], [], 0, (-1), 0, 96),
  (.iastore, 1, [], [], 0, 0, 0, 97),
  (.aload_n 0, 1, [], [], 0, 0, 0, 98),
  (.dup, 1, [], [], 0, 0, 0, 99),
  (.getfield 216, 3, [(10, 20)], [[6118]], 0, 0, 0, 100), mm_nop, mm_nop,
  (.iconst 1, 1, [], [], 0, 1, 0, 103),
  (.iadd, 1, [], [], 0, 0, 0, 104),
  (.putfield 216, 3, [(10, 20)], [[6118]], 0, 0, 0, 105), mm_nop, mm_nop,
  (.aload_n 0, 1, [], [], 0, 0, 0, 108),
  (.getfield 216, 3, [(10, 20)], [[6118]], 0, 0, 0, 109), mm_nop, mm_nop,
  (.iconst 1, 1, [], [], 0, 1, 0, 112),
  (.isub, 1, [], [], 0, 0, 0, 113),
  (.ireturn, 1, [], [], 0, 0, 0, 114)]
def mm_m190 : mm_M := (yX12_function, cX12_function, 4, (some .int), mm_k190, 3, 0, 0, 7137)
/-- TypeCopierModel.body.(II)I -/
def mm_k191 : List mm_E := [
  (.aload_n 0, 1, [], [], 0, 0, 0, 0),
  (.iload_n 1, 1, [], [], 1, 0, 0, 1),
  (.invokevirtual 236, 3, [(10, 184)], [[7146, 7148, 1030, 2015]], 1, 0, 0, 2), mm_nop, mm_nop,
  (.ifCond .eq 11, 3, [(0, 16)], [], 0, 0, 0, 5), mm_nop, mm_nop,
  (.aload_n 0, 1, [], [], 0, 0, 0, 8),
  (.iload_n 2, 1, [], [], 2, 0, 0, 9),
  (.invokevirtual 219, 3, [(10, 183)], [[7123, 7125, 1027, 2015]], 1, 0, 0, 10), mm_nop, mm_nop,
  (.ifCond .ne 6, 3, [(0, 19)], [], 0, 0, 0, 13), mm_nop, mm_nop,
  (.bipush (-2), 2, [], [], 0, (-2), 0, 16), mm_nop,
  (.ireturn, 1, [], [], 0, 0, 0, 18),
  (.aload_n 0, 1, [], [], 0, 0, 0, 19),
  (.getfield 78, 3, [(10, 24)], [[6122]], 0, 0, 0, 20), mm_nop, mm_nop,
  (.iload_n 1, 1, [], [], 1, 0, 0, 23),
  (.iload_n 2, 1, [], [], 2, 0, 0, 24),
  (.iastore, 1, [], [], 0, 0, 0, 25),
  (.iconst 1, 1, [], [], 0, 1, 0, 26),
  (.ireturn, 1, [], [], 0, 0, 0, 27)]
def mm_m191 : mm_M := (yX12_body, cX12_body, 3, (some .int), mm_k191, 2, 0, 0, 7145)
/-- TypeCopierModel.callType.(II)I -/
def mm_k192 : List mm_E := [
  (.aload_n 0, 1, [], [], 0, 0, 0, 0),
  (.getfield 54, 3, [(10, 15)], [[6113]], 0, 0, 0, 1), mm_nop, mm_nop,
  (.iload_n 2, 1, [], [], 2, 0, 0, 4),
  (.iaload, 1, [], [], 0, 0, 0, 5),
  (.istore_n 3, 1, [], [], 3, 0, 0, 6),
  (.aload_n 0, 1, [], [], 0, 0, 0, 7),
  (.getfield 60, 3, [(10, 17)], [[6115]], 0, 0, 0, 8), mm_nop, mm_nop,
  (.iload_n 2, 1, [], [], 2, 0, 0, 11),
  (.iaload, 1, [], [], 0, 0, 0, 12),
  (.istore 4, 2, [], [], 4, 0, 0, 13), mm_nop,
  (.aload_n 0, 1, [], [], 0, 0, 0, 15),
  (.getfield 63, 3, [(10, 18)], [[6116]], 0, 0, 0, 16), mm_nop, mm_nop,
  (.iload_n 2, 1, [], [], 2, 0, 0, 19),
  (.iaload, 1, [], [], 0, 0, 0, 20),
  (.istore 5, 2, [], [], 5, 0, 0, 21), mm_nop,
  (.iload 4, 2, [], [], 4, 0, 0, 23), mm_nop,
  (.iconst (-1), 1, [], [], 0, (-1), 0, 25),
  (.if_icmp .ne 7, 3, [(0, 33)], [], 0, 0, 0, 26), mm_nop, mm_nop,
  (.iconst 0, 1, [], [], 0, 0, 0, 29),
  (.goto 14, 3, [(0, 44)], [], 0, 0, 0, 30), mm_nop, mm_nop,
  (.iload 5, 2, [], [], 5, 0, 0, 33), mm_nop,
  (.iconst (-1), 1, [], [], 0, (-1), 0, 35),
  (.if_icmp .ne 7, 3, [(0, 43)], [], 0, 0, 0, 36), mm_nop, mm_nop,
  (.iconst 1, 1, [], [], 0, 1, 0, 39),
  (.goto 4, 3, [(0, 44)], [], 0, 0, 0, 40), mm_nop, mm_nop,
  (.iconst 2, 1, [], [], 0, 2, 0, 43),
  (.istore 6, 2, [], [], 6, 0, 0, 44), mm_nop,
  (.aload_n 0, 1, [], [], 0, 0, 0, 46),
  (.iload_n 3, 1, [], [], 3, 0, 0, 47),
  (.invokevirtual 236, 3, [(10, 184)], [[7146, 7148, 1030, 2015]], 1, 0, 0, 48), mm_nop, mm_nop,
  (.ifCond .eq 55, 3, [(0, 106)], [], 0, 0, 0, 51), mm_nop, mm_nop,
  (.aload_n 0, 1, [], [], 0, 0, 0, 54),
  (.getfield 69, 3, [(10, 21)], [[6119]], 0, 0, 0, 55), mm_nop, mm_nop,
  (.iload_n 3, 1, [], [], 3, 0, 0, 58),
  (.iaload, 1, [], [], 0, 0, 0, 59),
  (.iload 6, 2, [], [], 6, 0, 0, 60), mm_nop,
  (.if_icmp .ne 44, 3, [(0, 106)], [], 0, 0, 0, 62), mm_nop, mm_nop,
  (.iload 6, 2, [], [], 6, 0, 0, 65), mm_nop,
  (.ifCond .le 18, 3, [(0, 85)], [], 0, 0, 0, 67), mm_nop, mm_nop,
  (.aload_n 0, 1, [], [], 0, 0, 0, 70),
  (.iload 4, 2, [], [], 4, 0, 0, 71), mm_nop,
  (.aload_n 0, 1, [], [], 0, 0, 0, 73),
  (.getfield 69, 3, [(10, 21)], [[6119]], 0, 0, 0, 74), mm_nop, mm_nop,
  (.iload_n 1, 1, [], [], 1, 0, 0, 77),
  (.iaload, 1, [], [], 0, 0, 0, 78),
  (.invokevirtual 232, 3, [(10, 180)], [[7138, 7140, 1029, 2015]], 2, 0, 0, 79), mm_nop, mm_nop,
  (.ifCond .eq 24, 3, [(0, 106)], [], 0, 0, 0, 82), mm_nop, mm_nop,
  (.iload 6, 2, [], [], 6, 0, 0, 85), mm_nop,
  (.iconst 1, 1, [], [], 0, 1, 0, 87),
  (.if_icmp .le 20, 3, [(0, 108)], [], 0, 0, 0, 88), mm_nop, mm_nop,
  (.aload_n 0, 1, [], [], 0, 0, 0, 91),
  (.iload 5, 2, [], [], 5, 0, 0, 92), mm_nop,
  (.aload_n 0, 1, [], [], 0, 0, 0, 94),
  (.getfield 69, 3, [(10, 21)], [[6119]], 0, 0, 0, 95), mm_nop, mm_nop,
  (.iload_n 1, 1, [], [], 1, 0, 0, 98),
  (.iaload, 1, [], [], 0, 0, 0, 99),
  (.invokevirtual 232, 3, [(10, 180)], [[7138, 7140, 1029, 2015]], 2, 0, 0, 100), mm_nop, mm_nop,
  (.ifCond .ne 5, 3, [(0, 108)], [], 0, 0, 0, 103), mm_nop, mm_nop,
  (.iconst (-1), 1, [], [], 0, (-1), 0, 106),
  (.ireturn, 1, [], [], 0, 0, 0, 107),
  (.aload_n 0, 1, [], [], 0, 0, 0, 108),
  (.getfield 81, 3, [(10, 25)], [[6123]], 0, 0, 0, 109), mm_nop, mm_nop,
  (.aload_n 0, 1, [], [], 0, 0, 0, 112),
  (.getfield 57, 3, [(10, 16)], [[6114]], 0, 0, 0, 113), mm_nop, mm_nop,
  (.iload_n 2, 1, [], [], 2, 0, 0, 116),
  (.iaload, 1, [], [], 0, 0, 0, 117),
  (.iaload, 1, [], [], 0, 0, 0, 118),
  (.aload_n 0, 1, [], [], 0, 0, 0, 119),
  (.aload_n 0, 1, [], [], 0, 0, 0, 120),
  (.getfield 72, 3, [(10, 22)], [[6120]], 0, 0, 0, 121), mm_nop, mm_nop,
  (.iload_n 3, 1, [], [], 3, 0, 0, 124),
  (.iaload, 1, [], [], 0, 0, 0, 125),
  (.iload 4, 2, [], [], 4, 0, 0, 126), mm_nop,
  (.iload 5, 2, [], [], 5, 0, 0, 128), mm_nop,
  (.invokevirtual 239, 3, [(10, 181)], [[7174, 7176, 1036, 2015]], 3, 0, 0, 130), mm_nop, mm_nop,
  (.if_icmp .eq 5, 3, [(0, 138)], [], 0, 0, 0, 133), mm_nop, mm_nop,
  (.iconst (-1), 1, [], [], 0, (-1), 0, 136),
  (.ireturn, 1, [], [], 0, 0, 0, 137),
  (.aload_n 0, 1, [], [], 0, 0, 0, 138),
  (.aload_n 0, 1, [], [], 0, 0, 0, 139),
  (.getfield 75, 3, [(10, 23)], [[6121]], 0, 0, 0, 140), mm_nop, mm_nop,
  (.iload_n 3, 1, [], [], 3, 0, 0, 143),
  (.iaload, 1, [], [], 0, 0, 0, 144),
  (.iload 4, 2, [], [], 4, 0, 0, 145), mm_nop,
  (.iload 5, 2, [], [], 5, 0, 0, 147), mm_nop,
  (.invokevirtual 239, 3, [(10, 181)], [[7174, 7176, 1036, 2015]], 3, 0, 0, 149), mm_nop, mm_nop,
  (.ireturn, 1, [], [], 0, 0, 0, 152)]
def mm_m192 : mm_M := (yX12_callType, cX12_callType, 7, (some .int), mm_k192, 2, 0, 0, 7173)
/-- TypeCopierModel.typeAs.(IIIII)I -/
def mm_k193 : List mm_E := [
  (.aload_n 0, 1, [], [], 0, 0, 0, 0),
  (.getfield 51, 3, [(10, 14)], [[6112]], 0, 0, 0, 1), mm_nop, mm_nop,
  (.iload_n 2, 1, [], [], 2, 0, 0, 4),
  (.iaload, 1, [], [], 0, 0, 0, 5),
  (.tableswitch 299 0 13 #[70, 72, 74, 81, 96, 111, 130, 139, 160, 181, 217, 246, 262, 283], 70, [(0, 305), (0, 76), (1, 78), (2, 80), (3, 87), (4, 102), (5, 117), (6, 136), (7, 145), (8, 166), (9, 187), (10, 223), (11, 252), (12, 268), (13, 289)], [], 0, 0, 0, 6), mm_nop, mm_nop, mm_nop, mm_nop, mm_nop, mm_nop, mm_nop, mm_nop, mm_nop, mm_nop, mm_nop, mm_nop, mm_nop, mm_nop, mm_nop, mm_nop, mm_nop, mm_nop, mm_nop, mm_nop, mm_nop, mm_nop, mm_nop, mm_nop, mm_nop, mm_nop, mm_nop, mm_nop, mm_nop, mm_nop, mm_nop, mm_nop, mm_nop, mm_nop, mm_nop, mm_nop, mm_nop, mm_nop, mm_nop, mm_nop, mm_nop, mm_nop, mm_nop, mm_nop, mm_nop, mm_nop, mm_nop, mm_nop, mm_nop, mm_nop, mm_nop, mm_nop, mm_nop, mm_nop, mm_nop, mm_nop, mm_nop, mm_nop, mm_nop, mm_nop, mm_nop, mm_nop, mm_nop, mm_nop, mm_nop, mm_nop, mm_nop, mm_nop, mm_nop,
  (.iconst 0, 1, [], [], 0, 0, 0, 76),
  (.ireturn, 1, [], [], 0, 0, 0, 77),
  (.iconst 1, 1, [], [], 0, 1, 0, 78),
  (.ireturn, 1, [], [], 0, 0, 0, 79),
  (.aload_n 0, 1, [], [], 0, 0, 0, 80),
  (.getfield 72, 3, [(10, 22)], [[6120]], 0, 0, 0, 81), mm_nop, mm_nop,
  (.iload_n 1, 1, [], [], 1, 0, 0, 84),
  (.iaload, 1, [], [], 0, 0, 0, 85),
  (.ireturn, 1, [], [], 0, 0, 0, 86),
  (.iload_n 3, 1, [], [], 3, 0, 0, 87),
  (.ifCond .ne 12, 3, [(0, 100)], [], 0, 0, 0, 88), mm_nop, mm_nop,
  (.iload 4, 2, [], [], 4, 0, 0, 91), mm_nop,
  (.ifCond .ne 7, 3, [(0, 100)], [], 0, 0, 0, 93), mm_nop, mm_nop,
  (.iconst 0, 1, [], [], 0, 0, 0, 96),
  (.goto 4, 3, [(0, 101)], [], 0, 0, 0, 97), mm_nop, mm_nop,
  (.iconst (-1), 1, [], [], 0, (-1), 0, 100),
  (.ireturn, 1, [], [], 0, 0, 0, 101),
  (.iload_n 3, 1, [], [], 3, 0, 0, 102),
  (.ifCond .ne 12, 3, [(0, 115)], [], 0, 0, 0, 103), mm_nop, mm_nop,
  (.iload 4, 2, [], [], 4, 0, 0, 106), mm_nop,
  (.ifCond .ne 7, 3, [(0, 115)], [], 0, 0, 0, 108), mm_nop, mm_nop,
  (.iconst 1, 1, [], [], 0, 1, 0, 111),
  (.goto 4, 3, [(0, 116)], [], 0, 0, 0, 112), mm_nop, mm_nop,
  (.iconst (-1), 1, [], [], 0, (-1), 0, 115),
  (.ireturn, 1, [], [], 0, 0, 0, 116),
  (.iload_n 3, 1, [], [], 3, 0, 0, 117),
  (.iconst 1, 1, [], [], 0, 1, 0, 118),
  (.if_icmp .ne 15, 3, [(0, 134)], [], 0, 0, 0, 119), mm_nop, mm_nop,
  (.iload 4, 2, [], [], 4, 0, 0, 122), mm_nop,
  (.iload 5, 2, [], [], 5, 0, 0, 124), mm_nop,
  (.if_icmp .ne 8, 3, [(0, 134)], [], 0, 0, 0, 126), mm_nop, mm_nop,
  (.iload 4, 2, [], [], 4, 0, 0, 129), mm_nop,
  (.goto 4, 3, [(0, 135)], [], 0, 0, 0, 131), mm_nop, mm_nop,
  (.iconst (-1), 1, [], [], 0, (-1), 0, 134),
  (.ireturn, 1, [], [], 0, 0, 0, 135),
  (.aload_n 0, 1, [], [], 0, 0, 0, 136),
  (.iconst 4, 1, [], [], 0, 4, 0, 137),
  (.iload_n 3, 1, [], [], 3, 0, 0, 138),
  (.iload 4, 2, [], [], 4, 0, 0, 139), mm_nop,
  (.invokevirtual 210, 3, [(10, 173)], [[7166, 7168, 1034, 2015]], 3, 0, 0, 141), mm_nop, mm_nop,
  (.ireturn, 1, [], [], 0, 0, 0, 144),
  (.aload_n 0, 1, [], [], 0, 0, 0, 145),
  (.getfield 16, 3, [(10, 2)], [[6100]], 0, 0, 0, 146), mm_nop, mm_nop,
  (.iload_n 3, 1, [], [], 3, 0, 0, 149),
  (.iaload, 1, [], [], 0, 0, 0, 150),
  (.iconst 4, 1, [], [], 0, 4, 0, 151),
  (.if_icmp .ne 12, 3, [(0, 164)], [], 0, 0, 0, 152), mm_nop, mm_nop,
  (.aload_n 0, 1, [], [], 0, 0, 0, 155),
  (.getfield 20, 3, [(10, 3)], [[6101]], 0, 0, 0, 156), mm_nop, mm_nop,
  (.iload_n 3, 1, [], [], 3, 0, 0, 159),
  (.iaload, 1, [], [], 0, 0, 0, 160),
  (.goto 4, 3, [(0, 165)], [], 0, 0, 0, 161), mm_nop, mm_nop,
  (.iconst (-1), 1, [], [], 0, (-1), 0, 164),
  (.ireturn, 1, [], [], 0, 0, 0, 165),
  (.aload_n 0, 1, [], [], 0, 0, 0, 166),
  (.getfield 16, 3, [(10, 2)], [[6100]], 0, 0, 0, 167), mm_nop, mm_nop,
  (.iload_n 3, 1, [], [], 3, 0, 0, 170),
  (.iaload, 1, [], [], 0, 0, 0, 171),
  (.iconst 4, 1, [], [], 0, 4, 0, 172),
  (.if_icmp .ne 12, 3, [(0, 185)], [], 0, 0, 0, 173), mm_nop, mm_nop,
  (.aload_n 0, 1, [], [], 0, 0, 0, 176),
  (.getfield 23, 3, [(10, 4)], [[6102]], 0, 0, 0, 177), mm_nop, mm_nop,
  (.iload_n 3, 1, [], [], 3, 0, 0, 180),
  (.iaload, 1, [], [], 0, 0, 0, 181),
  (.goto 4, 3, [(0, 186)], [], 0, 0, 0, 182), mm_nop, mm_nop,
  (.iconst (-1), 1, [], [], 0, (-1), 0, 185),
  (.ireturn, 1, [], [], 0, 0, 0, 186),
  (.aload_n 0, 1, [], [], 0, 0, 0, 187),
  (.aload_n 0, 1, [], [], 0, 0, 0, 188),
  (.getfield 54, 3, [(10, 15)], [[6113]], 0, 0, 0, 189), mm_nop, mm_nop,
  (.iload_n 2, 1, [], [], 2, 0, 0, 192),
  (.iaload, 1, [], [], 0, 0, 0, 193),
  (.aload_n 0, 1, [], [], 0, 0, 0, 194),
  (.getfield 69, 3, [(10, 21)], [[6119]], 0, 0, 0, 195), mm_nop, mm_nop,
  (.iload_n 1, 1, [], [], 1, 0, 0, 198),
  (.iaload, 1, [], [], 0, 0, 0, 199),
  (.invokevirtual 232, 3, [(10, 180)], [[7138, 7140, 1029, 2015]], 2, 0, 0, 200), mm_nop, mm_nop,
  (.ifCond .eq 18, 3, [(0, 221)], [], 0, 0, 0, 203), mm_nop, mm_nop,
  (.aload_n 0, 1, [], [], 0, 0, 0, 206),
  (.iconst 5, 1, [], [], 0, 5, 0, 207),
  (.aload_n 0, 1, [], [], 0, 0, 0, 208),
  (.getfield 54, 3, [(10, 15)], [[6113]], 0, 0, 0, 209), mm_nop, mm_nop,
  (.iload_n 2, 1, [], [], 2, 0, 0, 212),
  (.iaload, 1, [], [], 0, 0, 0, 213),
  (.iconst (-1), 1, [], [], 0, (-1), 0, 214),
  (.invokevirtual 210, 3, [(10, 173)], [[7166, 7168, 1034, 2015]], 3, 0, 0, 215), mm_nop, mm_nop,
  (.goto 4, 3, [(0, 222)], [], 0, 0, 0, 218), mm_nop, mm_nop,
  (.iconst (-1), 1, [], [], 0, (-1), 0, 221),
  (.ireturn, 1, [], [], 0, 0, 0, 222),
  (.aload_n 0, 1, [], [], 0, 0, 0, 223),
  (.getfield 16, 3, [(10, 2)], [[6100]], 0, 0, 0, 224), mm_nop, mm_nop,
  (.iload 4, 2, [], [], 4, 0, 0, 227), mm_nop,
  (.iaload, 1, [], [], 0, 0, 0, 229),
  (.iconst 5, 1, [], [], 0, 5, 0, 230),
  (.if_icmp .ne 19, 3, [(0, 250)], [], 0, 0, 0, 231), mm_nop, mm_nop,
  (.aload_n 0, 1, [], [], 0, 0, 0, 234),
  (.getfield 20, 3, [(10, 3)], [[6101]], 0, 0, 0, 235), mm_nop, mm_nop,
  (.iload 4, 2, [], [], 4, 0, 0, 238), mm_nop,
  (.iaload, 1, [], [], 0, 0, 0, 240),
  (.iload_n 3, 1, [], [], 3, 0, 0, 241),
  (.if_icmp .ne 8, 3, [(0, 250)], [], 0, 0, 0, 242), mm_nop, mm_nop,
  (.iload 4, 2, [], [], 4, 0, 0, 245), mm_nop,
  (.goto 4, 3, [(0, 251)], [], 0, 0, 0, 247), mm_nop, mm_nop,
  (.iconst (-1), 1, [], [], 0, (-1), 0, 250),
  (.ireturn, 1, [], [], 0, 0, 0, 251),
  (.aload_n 0, 1, [], [], 0, 0, 0, 252),
  (.getfield 16, 3, [(10, 2)], [[6100]], 0, 0, 0, 253), mm_nop, mm_nop,
  (.iload_n 3, 1, [], [], 3, 0, 0, 256),
  (.iaload, 1, [], [], 0, 0, 0, 257),
  (.iconst 5, 1, [], [], 0, 5, 0, 258),
  (.if_icmp .ne 7, 3, [(0, 266)], [], 0, 0, 0, 259), mm_nop, mm_nop,
  (.iconst 1, 1, [], [], 0, 1, 0, 262),
  (.goto 4, 3, [(0, 267)], [], 0, 0, 0, 263), mm_nop, mm_nop,
  (.iconst (-1), 1, [], [], 0, (-1), 0, 266),
  (.ireturn, 1, [], [], 0, 0, 0, 267),
  (.aload_n 0, 1, [], [], 0, 0, 0, 268),
  (.getfield 16, 3, [(10, 2)], [[6100]], 0, 0, 0, 269), mm_nop, mm_nop,
  (.iload_n 3, 1, [], [], 3, 0, 0, 272),
  (.iaload, 1, [], [], 0, 0, 0, 273),
  (.iconst 5, 1, [], [], 0, 5, 0, 274),
  (.if_icmp .ne 12, 3, [(0, 287)], [], 0, 0, 0, 275), mm_nop, mm_nop,
  (.aload_n 0, 1, [], [], 0, 0, 0, 278),
  (.getfield 20, 3, [(10, 3)], [[6101]], 0, 0, 0, 279), mm_nop, mm_nop,
  (.iload_n 3, 1, [], [], 3, 0, 0, 282),
  (.iaload, 1, [], [], 0, 0, 0, 283),
  (.goto 4, 3, [(0, 288)], [], 0, 0, 0, 284), mm_nop, mm_nop,
  (.iconst (-1), 1, [], [], 0, (-1), 0, 287),
  (.ireturn, 1, [], [], 0, 0, 0, 288),
  (.aload_n 0, 1, [], [], 0, 0, 0, 289),
  (.getfield 16, 3, [(10, 2)], [[6100]], 0, 0, 0, 290), mm_nop, mm_nop,
  (.iload_n 3, 1, [], [], 3, 0, 0, 293),
  (.iaload, 1, [], [], 0, 0, 0, 294),
  (.iconst 5, 1, [], [], 0, 5, 0, 295),
  (.if_icmp .ne 7, 3, [(0, 303)], [], 0, 0, 0, 296), mm_nop, mm_nop,
  (.iload_n 3, 1, [], [], 3, 0, 0, 299),
  (.goto 4, 3, [(0, 304)], [], 0, 0, 0, 300), mm_nop, mm_nop,
  (.iconst (-1), 1, [], [], 0, (-1), 0, 303),
  (.ireturn, 1, [], [], 0, 0, 0, 304),
  (.aload_n 0, 1, [], [], 0, 0, 0, 305),
  (.iload_n 1, 1, [], [], 1, 0, 0, 306),
  (.iload_n 2, 1, [], [], 2, 0, 0, 307),
  (.invokevirtual 242, 3, [(10, 192)], [[7170, 7172, 1035, 2015]], 2, 0, 0, 308), mm_nop, mm_nop,
  (.ireturn, 1, [], [], 0, 0, 0, 311)]
def mm_m193 : mm_M := (yX12_typeAs, cX12_typeAs, 6, (some .int), mm_k193, 5, 0, 0, 7165)
/-- TypeCopierModel.goThrough.(I)V -/
def mm_k194 : List mm_E := [
  (.aload_n 0, 1, [], [], 0, 0, 0, 0),
  (.invokevirtual 197, 3, [(10, 167)], [[7076, 7078, 1021, 2015]], 0, 0, 0, 1), mm_nop, mm_nop,
  (.iconst 0, 1, [], [], 0, 0, 0, 4),
  (.istore_n 2, 1, [], [], 2, 0, 0, 5),
  (.iload_n 2, 1, [], [], 2, 0, 0, 6),
  (.aload_n 0, 1, [], [], 0, 0, 0, 7),
  (.getfield 213, 3, [(10, 13)], [[6111]], 0, 0, 0, 8), mm_nop, mm_nop,
  (.if_icmp .ge 183, 3, [(0, 194)], [], 0, 0, 0, 11), mm_nop, mm_nop,
  (.iconst 1, 1, [], [], 0, 1, 0, 14),
  (.istore_n 3, 1, [], [], 3, 0, 0, 15),
  (.aload_n 0, 1, [], [], 0, 0, 0, 16),
  (.getfield 51, 3, [(10, 14)], [[6112]], 0, 0, 0, 17), mm_nop, mm_nop,
  (.iload_n 2, 1, [], [], 2, 0, 0, 20),
  (.iaload, 1, [], [], 0, 0, 0, 21),
  (.invokestatic 225, 3, [(0, 185)], [[7131, 7132, 2015]], 1, 0, 0, 22), mm_nop, mm_nop,
  (.istore 4, 2, [], [], 4, 0, 0, 25), mm_nop,
  (.iconst 0, 1, [], [], 0, 0, 0, 27),
  (.istore 5, 2, [], [], 5, 0, 0, 28), mm_nop,
  (.iload 5, 2, [], [], 5, 0, 0, 30), mm_nop,
  (.iload 4, 2, [], [], 4, 0, 0, 32), mm_nop,
  (.if_icmp .ge 35, 3, [(0, 69)], [], 0, 0, 0, 34), mm_nop, mm_nop,
  (.iload_n 3, 1, [], [], 3, 0, 0, 37),
  (.ifCond .eq 23, 3, [(0, 61)], [], 0, 0, 0, 38), mm_nop, mm_nop,
  (.aload_n 0, 1, [], [], 0, 0, 0, 41),
  (.getfield 81, 3, [(10, 25)], [[6123]], 0, 0, 0, 42), mm_nop, mm_nop,
  (.aload_n 0, 1, [], [], 0, 0, 0, 45),
  (.iload_n 2, 1, [], [], 2, 0, 0, 46),
  (.iload 5, 2, [], [], 5, 0, 0, 47), mm_nop,
  (.invokevirtual 245, 3, [(10, 186)], [[7158, 7160, 1032, 2015]], 2, 0, 0, 49), mm_nop, mm_nop,
  (.iaload, 1, [], [], 0, 0, 0, 52),
  (.iconst (-1), 1, [], [], 0, (-1), 0, 53),
  (.if_icmp .eq 7, 3, [(0, 61)], [], 0, 0, 0, 54), mm_nop, mm_nop,
  (.iconst 1, 1, [], [], 0, 1, 0, 57),
  (.goto 4, 3, [(0, 62)], [], 0, 0, 0, 58), mm_nop, mm_nop,
  (.iconst 0, 1, [], [], 0, 0, 0, 61),
  (.istore_n 3, 1, [], [], 3, 0, 0, 62),
  (.iinc 5 1, 3, [], [], 5, 1, 0, 63), mm_nop, mm_nop,
  (.goto (-36), 3, [(0, 30)], [], 0, 0, 0, 66), mm_nop, mm_nop,
  (.iload 4, 2, [], [], 4, 0, 0, 69), mm_nop,
  (.ifCond .le 17, 3, [(0, 88)], [], 0, 0, 0, 71), mm_nop, mm_nop,
  (.aload_n 0, 1, [], [], 0, 0, 0, 74),
  (.getfield 81, 3, [(10, 25)], [[6123]], 0, 0, 0, 75), mm_nop, mm_nop,
  (.aload_n 0, 1, [], [], 0, 0, 0, 78),
  (.iload_n 2, 1, [], [], 2, 0, 0, 79),
  (.iconst 0, 1, [], [], 0, 0, 0, 80),
  (.invokevirtual 245, 3, [(10, 186)], [[7158, 7160, 1032, 2015]], 2, 0, 0, 81), mm_nop, mm_nop,
  (.iaload, 1, [], [], 0, 0, 0, 84),
  (.goto 4, 3, [(0, 89)], [], 0, 0, 0, 85), mm_nop, mm_nop,
  (.iconst (-1), 1, [], [], 0, (-1), 0, 88),
  (.istore 5, 2, [], [], 5, 0, 0, 89), mm_nop,
  (.iload 4, 2, [], [], 4, 0, 0, 91), mm_nop,
  (.iconst 1, 1, [], [], 0, 1, 0, 93),
  (.if_icmp .le 17, 3, [(0, 111)], [], 0, 0, 0, 94), mm_nop, mm_nop,
  (.aload_n 0, 1, [], [], 0, 0, 0, 97),
  (.getfield 81, 3, [(10, 25)], [[6123]], 0, 0, 0, 98), mm_nop, mm_nop,
  (.aload_n 0, 1, [], [], 0, 0, 0, 101),
  (.iload_n 2, 1, [], [], 2, 0, 0, 102),
  (.iconst 1, 1, [], [], 0, 1, 0, 103),
  (.invokevirtual 245, 3, [(10, 186)], [[7158, 7160, 1032, 2015]], 2, 0, 0, 104), mm_nop, mm_nop,
  (.iaload, 1, [], [], 0, 0, 0, 107),
  (.goto 4, 3, [(0, 112)], [], 0, 0, 0, 108), mm_nop, mm_nop,
  (.iconst (-1), 1, [], [], 0, (-1), 0, 111),
  (.istore 6, 2, [], [], 6, 0, 0, 112), mm_nop,
  (.iload 4, 2, [], [], 4, 0, 0, 114), mm_nop,
  (.iconst 2, 1, [], [], 0, 2, 0, 116),
  (.if_icmp .le 17, 3, [(0, 134)], [], 0, 0, 0, 117), mm_nop, mm_nop,
  (.aload_n 0, 1, [], [], 0, 0, 0, 120),
  (.getfield 81, 3, [(10, 25)], [[6123]], 0, 0, 0, 121), mm_nop, mm_nop,
  (.aload_n 0, 1, [], [], 0, 0, 0, 124),
  (.iload_n 2, 1, [], [], 2, 0, 0, 125),
  (.iconst 2, 1, [], [], 0, 2, 0, 126),
  (.invokevirtual 245, 3, [(10, 186)], [[7158, 7160, 1032, 2015]], 2, 0, 0, 127), mm_nop, mm_nop,
  (.iaload, 1, [], [], 0, 0, 0, 130),
  (.goto 4, 3, [(0, 135)], [], 0, 0, 0, 131), mm_nop, mm_nop,
  (.iconst (-1), 1, [], [], 0, (-1), 0, 134),
  (.istore 7, 2, [], [], 7, 0, 0, 135), mm_nop,
  (.iload_n 3, 1, [], [], 3, 0, 0, 137),
  (.ifCond .eq 18, 3, [(0, 156)], [], 0, 0, 0, 138), mm_nop, mm_nop,
  (.aload_n 0, 1, [], [], 0, 0, 0, 141),
  (.iload_n 1, 1, [], [], 1, 0, 0, 142),
  (.iload_n 2, 1, [], [], 2, 0, 0, 143),
  (.iload 5, 2, [], [], 5, 0, 0, 144), mm_nop,
  (.iload 6, 2, [], [], 6, 0, 0, 146), mm_nop,
  (.iload 7, 2, [], [], 7, 0, 0, 148), mm_nop,
  (.invokevirtual 248, 3, [(10, 193)], [[7162, 7164, 1033, 2015]], 5, 0, 0, 150), mm_nop, mm_nop,
  (.goto 4, 3, [(0, 157)], [], 0, 0, 0, 153), mm_nop, mm_nop,
  (.iconst (-1), 1, [], [], 0, (-1), 0, 156),
  (.istore 8, 2, [], [], 8, 0, 0, 157), mm_nop,
  (.aload_n 0, 1, [], [], 0, 0, 0, 159),
  (.getfield 81, 3, [(10, 25)], [[6123]], 0, 0, 0, 160), mm_nop, mm_nop,
  (.iload_n 2, 1, [], [], 2, 0, 0, 163),
  (.iload 8, 2, [], [], 8, 0, 0, 164), mm_nop,
  (.iconst (-1), 1, [], [], 0, (-1), 0, 166),
  (.if_icmp .eq 18, 3, [(0, 185)], [], 0, 0, 0, 167), mm_nop, mm_nop,
  (.aload_n 0, 1, [], [], 0, 0, 0, 170),
  (.getfield 26, 3, [(10, 5)], [[6103]], 0, 0, 0, 171), mm_nop, mm_nop,
  (.iload 8, 2, [], [], 8, 0, 0, 174), mm_nop,
  (.iaload, 1, [], [], 0, 0, 0, 176),
  (.iconst 5, 1, [], [], 0, 5, 0, 177),
  (.if_icmp .le 7, 3, [(0, 185)], [], 0, 0, 0, 178), mm_nop, mm_nop,
  (.iconst (-1), 1, [], [], 0, (-1), 0, 181),
  (.goto 5, 3, [(0, 187)], [], 0, 0, 0, 182), mm_nop, mm_nop,
  (.iload 8, 2, [], [], 8, 0, 0, 185), mm_nop,
  (.iastore, 1, [], [], 0, 0, 0, 187),
  (.iinc 2 1, 3, [], [], 2, 1, 0, 188), mm_nop, mm_nop,
  (.goto (-185), 3, [(0, 6)], [], 0, 0, 0, 191), mm_nop, mm_nop,
  (.return_, 1, [], [], 0, 0, 0, 194)]
def mm_m194 : mm_M := (yX12_goThrough, cX12_goThrough, 9, none, mm_k194, 1, 0, 0, 7157)
/-- TypeCopierModel.typeIn.(II)I -/
def mm_k195 : List mm_E := [
  (.aload_n 0, 1, [], [], 0, 0, 0, 0),
  (.iload_n 1, 1, [], [], 1, 0, 0, 1),
  (.invokevirtual 236, 3, [(10, 184)], [[7146, 7148, 1030, 2015]], 1, 0, 0, 2), mm_nop, mm_nop,
  (.ifCond .eq 11, 3, [(0, 16)], [], 0, 0, 0, 5), mm_nop, mm_nop,
  (.aload_n 0, 1, [], [], 0, 0, 0, 8),
  (.iload_n 2, 1, [], [], 2, 0, 0, 9),
  (.invokevirtual 219, 3, [(10, 183)], [[7123, 7125, 1027, 2015]], 1, 0, 0, 10), mm_nop, mm_nop,
  (.ifCond .ne 6, 3, [(0, 19)], [], 0, 0, 0, 13), mm_nop, mm_nop,
  (.bipush (-2), 2, [], [], 0, (-2), 0, 16), mm_nop,
  (.ireturn, 1, [], [], 0, 0, 0, 18),
  (.aload_n 0, 1, [], [], 0, 0, 0, 19),
  (.iload_n 1, 1, [], [], 1, 0, 0, 20),
  (.invokevirtual 252, 3, [(10, 194)], [[7154, 7156, 1031, 2015]], 1, 0, 0, 21), mm_nop, mm_nop,
  (.aload_n 0, 1, [], [], 0, 0, 0, 24),
  (.aload_n 0, 1, [], [], 0, 0, 0, 25),
  (.getfield 81, 3, [(10, 25)], [[6123]], 0, 0, 0, 26), mm_nop, mm_nop,
  (.iload_n 2, 1, [], [], 2, 0, 0, 29),
  (.iaload, 1, [], [], 0, 0, 0, 30),
  (.aload_n 0, 1, [], [], 0, 0, 0, 31),
  (.getfield 81, 3, [(10, 25)], [[6123]], 0, 0, 0, 32), mm_nop, mm_nop,
  (.iload_n 2, 1, [], [], 2, 0, 0, 35),
  (.iaload, 1, [], [], 0, 0, 0, 36),
  (.iconst (-1), 1, [], [], 0, (-1), 0, 37),
  (.if_icmp .eq 7, 3, [(0, 45)], [], 0, 0, 0, 38), mm_nop, mm_nop,
  (.iconst 1, 1, [], [], 0, 1, 0, 41),
  (.goto 4, 3, [(0, 46)], [], 0, 0, 0, 42), mm_nop, mm_nop,
  (.iconst 0, 1, [], [], 0, 0, 0, 45),
  (.invokevirtual 255, 3, [(10, 182)], [[7178, 7180, 1037, 2015]], 2, 0, 0, 46), mm_nop, mm_nop,
  (.ireturn, 1, [], [], 0, 0, 0, 49)]
def mm_m195 : mm_M := (yX12_typeIn, cX12_typeIn, 3, (some .int), mm_k195, 2, 0, 0, 7153)
/-- TypeCopierModel.mark.(I)V -/
def mm_k196 : List mm_E := [
  (.iconst 0, 1, [], [], 0, 0, 0, 0),
  (.istore_n 2, 1, [], [], 2, 0, 0, 1),
  (.iload_n 2, 1, [], [], 2, 0, 0, 2),
  (.aload_n 0, 1, [], [], 0, 0, 0, 3),
  (.getfield 213, 3, [(10, 13)], [[6111]], 0, 0, 0, 4), mm_nop, mm_nop,
  (.if_icmp .ge 30, 3, [(0, 37)], [], 0, 0, 0, 7), mm_nop, mm_nop,
  (.aload_n 0, 1, [], [], 0, 0, 0, 10),
  (.getfield 84, 3, [(10, 26)], [[6124]], 0, 0, 0, 11), mm_nop, mm_nop,
  (.iload_n 2, 1, [], [], 2, 0, 0, 14),
  (.iload_n 2, 1, [], [], 2, 0, 0, 15),
  (.aload_n 0, 1, [], [], 0, 0, 0, 16),
  (.getfield 78, 3, [(10, 24)], [[6122]], 0, 0, 0, 17), mm_nop, mm_nop,
  (.iload_n 1, 1, [], [], 1, 0, 0, 20),
  (.iaload, 1, [], [], 0, 0, 0, 21),
  (.if_icmp .ne 7, 3, [(0, 29)], [], 0, 0, 0, 22), mm_nop, mm_nop,
  (.iconst 1, 1, [], [], 0, 1, 0, 25),
  (.goto 4, 3, [(0, 30)], [], 0, 0, 0, 26), mm_nop, mm_nop,
  (.iconst 0, 1, [], [], 0, 0, 0, 29),
  (.bastore, 1, [], [], 0, 0, 0, 30),
  (.iinc 2 1, 3, [], [], 2, 1, 0, 31), mm_nop, mm_nop,
  (.goto (-32), 3, [(0, 2)], [], 0, 0, 0, 34), mm_nop, mm_nop,
  (.aload_n 0, 1, [], [], 0, 0, 0, 37),
  (.getfield 213, 3, [(10, 13)], [[6111]], 0, 0, 0, 38), mm_nop, mm_nop,
  (.iconst 1, 1, [], [], 0, 1, 0, 41),
  (.isub, 1, [], [], 0, 0, 0, 42),
  (.istore_n 2, 1, [], [], 2, 0, 0, 43),
  (.iload_n 2, 1, [], [], 2, 0, 0, 44),
  (.ifCond .lt 51, 3, [(0, 96)], [], 0, 0, 0, 45), mm_nop, mm_nop,
  (.iconst 0, 1, [], [], 0, 0, 0, 48),
  (.istore_n 3, 1, [], [], 3, 0, 0, 49),
  (.iload_n 3, 1, [], [], 3, 0, 0, 50),
  (.aload_n 0, 1, [], [], 0, 0, 0, 51),
  (.getfield 51, 3, [(10, 14)], [[6112]], 0, 0, 0, 52), mm_nop, mm_nop,
  (.iload_n 2, 1, [], [], 2, 0, 0, 55),
  (.iaload, 1, [], [], 0, 0, 0, 56),
  (.invokestatic 225, 3, [(0, 185)], [[7131, 7132, 2015]], 1, 0, 0, 57), mm_nop, mm_nop,
  (.if_icmp .ge 30, 3, [(0, 90)], [], 0, 0, 0, 60), mm_nop, mm_nop,
  (.aload_n 0, 1, [], [], 0, 0, 0, 63),
  (.getfield 84, 3, [(10, 26)], [[6124]], 0, 0, 0, 64), mm_nop, mm_nop,
  (.iload_n 2, 1, [], [], 2, 0, 0, 67),
  (.baload, 1, [], [], 0, 0, 0, 68),
  (.ifCond .eq 21, 3, [(0, 90)], [], 0, 0, 0, 69), mm_nop, mm_nop,
  (.aload_n 0, 1, [], [], 0, 0, 0, 72),
  (.getfield 84, 3, [(10, 26)], [[6124]], 0, 0, 0, 73), mm_nop, mm_nop,
  (.aload_n 0, 1, [], [], 0, 0, 0, 76),
  (.iload_n 2, 1, [], [], 2, 0, 0, 77),
  (.iload_n 3, 1, [], [], 3, 0, 0, 78),
  (.invokevirtual 245, 3, [(10, 186)], [[7158, 7160, 1032, 2015]], 2, 0, 0, 79), mm_nop, mm_nop,
  (.iconst 1, 1, [], [], 0, 1, 0, 82),
  (.bastore, 1, [], [], 0, 0, 0, 83),
  (.iinc 3 1, 3, [], [], 3, 1, 0, 84), mm_nop, mm_nop,
  (.goto (-37), 3, [(0, 50)], [], 0, 0, 0, 87), mm_nop, mm_nop,
  (.iinc 2 (-1), 3, [], [], 2, (-1), 0, 90), mm_nop, mm_nop,
  (.goto (-49), 3, [(0, 44)], [], 0, 0, 0, 93), mm_nop, mm_nop,
  (.return_, 1, [], [], 0, 0, 0, 96)]
def mm_m196 : mm_M := (yX12_mark, cX12_mark, 4, none, mm_k196, 1, 0, 0, 7189)
/-- TypeCopierModel.wrong.(I)I -/
def mm_k197 : List mm_E := [
  (.aload_n 0, 1, [], [], 0, 0, 0, 0),
  (.iload_n 1, 1, [], [], 1, 0, 0, 1),
  (.invokevirtual 236, 3, [(10, 184)], [[7146, 7148, 1030, 2015]], 1, 0, 0, 2), mm_nop, mm_nop,
  (.ifCond .ne 6, 3, [(0, 11)], [], 0, 0, 0, 5), mm_nop, mm_nop,
  (.bipush (-2), 2, [], [], 0, (-2), 0, 8), mm_nop,
  (.ireturn, 1, [], [], 0, 0, 0, 10),
  (.aload_n 0, 1, [], [], 0, 0, 0, 11),
  (.getfield 78, 3, [(10, 24)], [[6122]], 0, 0, 0, 12), mm_nop, mm_nop,
  (.iload_n 1, 1, [], [], 1, 0, 0, 15),
  (.iaload, 1, [], [], 0, 0, 0, 16),
  (.iconst (-1), 1, [], [], 0, (-1), 0, 17),
  (.if_icmp .ne 6, 3, [(0, 24)], [], 0, 0, 0, 18), mm_nop, mm_nop,
  (.bipush (-3), 2, [], [], 0, (-3), 0, 21), mm_nop,
  (.ireturn, 1, [], [], 0, 0, 0, 23),
  (.aload_n 0, 1, [], [], 0, 0, 0, 24),
  (.iload_n 1, 1, [], [], 1, 0, 0, 25),
  (.invokevirtual 252, 3, [(10, 194)], [[7154, 7156, 1031, 2015]], 1, 0, 0, 26), mm_nop, mm_nop,
  (.aload_n 0, 1, [], [], 0, 0, 0, 29),
  (.iload_n 1, 1, [], [], 1, 0, 0, 30),
  (.invokevirtual 259, 3, [(10, 196)], [[7186, 7188, 1038, 2015]], 1, 0, 0, 31), mm_nop, mm_nop,
  (.iconst 0, 1, [], [], 0, 0, 0, 34),
  (.istore_n 2, 1, [], [], 2, 0, 0, 35),
  (.iload_n 2, 1, [], [], 2, 0, 0, 36),
  (.aload_n 0, 1, [], [], 0, 0, 0, 37),
  (.getfield 213, 3, [(10, 13)], [[6111]], 0, 0, 0, 38), mm_nop, mm_nop,
  (.if_icmp .ge 89, 3, [(0, 130)], [], 0, 0, 0, 41), mm_nop, mm_nop,
  (.aload_n 0, 1, [], [], 0, 0, 0, 44),
  (.getfield 84, 3, [(10, 26)], [[6124]], 0, 0, 0, 45), mm_nop, mm_nop,
  (.iload_n 2, 1, [], [], 2, 0, 0, 48),
  (.baload, 1, [], [], 0, 0, 0, 49),
  (.ifCond .eq 17, 3, [(0, 67)], [], 0, 0, 0, 50), mm_nop, mm_nop,
  (.aload_n 0, 1, [], [], 0, 0, 0, 53),
  (.getfield 81, 3, [(10, 25)], [[6123]], 0, 0, 0, 54), mm_nop, mm_nop,
  (.iload_n 2, 1, [], [], 2, 0, 0, 57),
  (.iaload, 1, [], [], 0, 0, 0, 58),
  (.iconst (-1), 1, [], [], 0, (-1), 0, 59),
  (.if_icmp .ne 7, 3, [(0, 67)], [], 0, 0, 0, 60), mm_nop, mm_nop,
  (.iconst 1, 1, [], [], 0, 1, 0, 63),
  (.goto 4, 3, [(0, 68)], [], 0, 0, 0, 64), mm_nop, mm_nop,
  (.iconst 0, 1, [], [], 0, 0, 0, 67),
  (.istore_n 3, 1, [], [], 3, 0, 0, 68),
  (.iconst 0, 1, [], [], 0, 0, 0, 69),
  (.istore 4, 2, [], [], 4, 0, 0, 70), mm_nop,
  (.iload 4, 2, [], [], 4, 0, 0, 72), mm_nop,
  (.aload_n 0, 1, [], [], 0, 0, 0, 74),
  (.getfield 51, 3, [(10, 14)], [[6112]], 0, 0, 0, 75), mm_nop, mm_nop,
  (.iload_n 2, 1, [], [], 2, 0, 0, 78),
  (.iaload, 1, [], [], 0, 0, 0, 79),
  (.invokestatic 225, 3, [(0, 185)], [[7131, 7132, 2015]], 1, 0, 0, 80), mm_nop, mm_nop,
  (.if_icmp .ge 35, 3, [(0, 118)], [], 0, 0, 0, 83), mm_nop, mm_nop,
  (.iload_n 3, 1, [], [], 3, 0, 0, 86),
  (.ifCond .eq 23, 3, [(0, 110)], [], 0, 0, 0, 87), mm_nop, mm_nop,
  (.aload_n 0, 1, [], [], 0, 0, 0, 90),
  (.getfield 81, 3, [(10, 25)], [[6123]], 0, 0, 0, 91), mm_nop, mm_nop,
  (.aload_n 0, 1, [], [], 0, 0, 0, 94),
  (.iload_n 2, 1, [], [], 2, 0, 0, 95),
  (.iload 4, 2, [], [], 4, 0, 0, 96), mm_nop,
  (.invokevirtual 245, 3, [(10, 186)], [[7158, 7160, 1032, 2015]], 2, 0, 0, 98), mm_nop, mm_nop,
  (.iaload, 1, [], [], 0, 0, 0, 101),
  (.iconst (-1), 1, [], [], 0, (-1), 0, 102),
  (.if_icmp .eq 7, 3, [(0, 110)], [], 0, 0, 0, 103), mm_nop, mm_nop,
  (.iconst 1, 1, [], [], 0, 1, 0, 106),
  (.goto 4, 3, [(0, 111)], [], 0, 0, 0, 107), mm_nop, mm_nop,
  (.iconst 0, 1, [], [], 0, 0, 0, 110),
  (.istore_n 3, 1, [], [], 3, 0, 0, 111),
  (.iinc 4 1, 3, [], [], 4, 1, 0, 112), mm_nop, mm_nop,
  (.goto (-43), 3, [(0, 72)], [], 0, 0, 0, 115), mm_nop, mm_nop,
  (.iload_n 3, 1, [], [], 3, 0, 0, 118),
  (.ifCond .eq 5, 3, [(0, 124)], [], 0, 0, 0, 119), mm_nop, mm_nop,
  (.iload_n 2, 1, [], [], 2, 0, 0, 122),
  (.ireturn, 1, [], [], 0, 0, 0, 123),
  (.iinc 2 1, 3, [], [], 2, 1, 0, 124), mm_nop, mm_nop,
  (.goto (-91), 3, [(0, 36)], [], 0, 0, 0, 127), mm_nop, mm_nop,
  (.iconst (-1), 1, [], [], 0, (-1), 0, 130),
  (.ireturn, 1, [], [], 0, 0, 0, 131)]
def mm_m197 : mm_M := (yX12_wrong, cX12_wrong, 5, (some .int), mm_k197, 1, 0, 0, 7185)
/-- TypeCopierModel.findReach.()V -/
def mm_k198 : List mm_E := [
  (.iconst 0, 1, [], [], 0, 0, 0, 0),
  (.istore_n 1, 1, [], [], 1, 0, 0, 1),
  (.iload_n 1, 1, [], [], 1, 0, 0, 2),
  (.bipush 12, 2, [], [], 0, 12, 0, 3), mm_nop,
  (.if_icmp .ge 111, 3, [(0, 116)], [], 0, 0, 0, 5), mm_nop, mm_nop,
  (.iconst 0, 1, [], [], 0, 0, 0, 8),
  (.istore_n 2, 1, [], [], 2, 0, 0, 9),
  (.iload_n 2, 1, [], [], 2, 0, 0, 10),
  (.bipush 12, 2, [], [], 0, 12, 0, 11), mm_nop,
  (.if_icmp .ge 21, 3, [(0, 34)], [], 0, 0, 0, 13), mm_nop, mm_nop,
  (.aload_n 0, 1, [], [], 0, 0, 0, 16),
  (.getfield 87, 3, [(10, 27)], [[6125]], 0, 0, 0, 17), mm_nop, mm_nop,
  (.bipush 12, 2, [], [], 0, 12, 0, 20), mm_nop,
  (.iload_n 1, 1, [], [], 1, 0, 0, 22),
  (.imul, 1, [], [], 0, 0, 0, 23),
  (.iload_n 2, 1, [], [], 2, 0, 0, 24),
  (.iadd, 1, [], [], 0, 0, 0, 25),
  (.iconst 0, 1, [], [], 0, 0, 0, 26),
  (.bastore, 1, [], [], 0, 0, 0, 27),
  (.iinc 2 1, 3, [], [], 2, 1, 0, 28), mm_nop, mm_nop,
  (.goto (-21), 3, [(0, 10)], [], 0, 0, 0, 31), mm_nop, mm_nop,
  (.aload_n 0, 1, [], [], 0, 0, 0, 34),
  (.iload_n 1, 1, [], [], 1, 0, 0, 35),
  (.invokevirtual 236, 3, [(10, 184)], [[7146, 7148, 1030, 2015]], 1, 0, 0, 36), mm_nop, mm_nop,
  (.ifCond .eq 71, 3, [(0, 110)], [], 0, 0, 0, 39), mm_nop, mm_nop,
  (.aload_n 0, 1, [], [], 0, 0, 0, 42),
  (.getfield 78, 3, [(10, 24)], [[6122]], 0, 0, 0, 43), mm_nop, mm_nop,
  (.iload_n 1, 1, [], [], 1, 0, 0, 46),
  (.iaload, 1, [], [], 0, 0, 0, 47),
  (.iconst (-1), 1, [], [], 0, (-1), 0, 48),
  (.if_icmp .eq 61, 3, [(0, 110)], [], 0, 0, 0, 49), mm_nop, mm_nop,
  (.aload_n 0, 1, [], [], 0, 0, 0, 52),
  (.iload_n 1, 1, [], [], 1, 0, 0, 53),
  (.invokevirtual 259, 3, [(10, 196)], [[7186, 7188, 1038, 2015]], 1, 0, 0, 54), mm_nop, mm_nop,
  (.iconst 0, 1, [], [], 0, 0, 0, 57),
  (.istore_n 2, 1, [], [], 2, 0, 0, 58),
  (.iload_n 2, 1, [], [], 2, 0, 0, 59),
  (.aload_n 0, 1, [], [], 0, 0, 0, 60),
  (.getfield 213, 3, [(10, 13)], [[6111]], 0, 0, 0, 61), mm_nop, mm_nop,
  (.if_icmp .ge 46, 3, [(0, 110)], [], 0, 0, 0, 64), mm_nop, mm_nop,
  (.aload_n 0, 1, [], [], 0, 0, 0, 67),
  (.getfield 84, 3, [(10, 26)], [[6124]], 0, 0, 0, 68), mm_nop, mm_nop,
  (.iload_n 2, 1, [], [], 2, 0, 0, 71),
  (.baload, 1, [], [], 0, 0, 0, 72),
  (.ifCond .eq 31, 3, [(0, 104)], [], 0, 0, 0, 73), mm_nop, mm_nop,
  (.aload_n 0, 1, [], [], 0, 0, 0, 76),
  (.getfield 51, 3, [(10, 14)], [[6112]], 0, 0, 0, 77), mm_nop, mm_nop,
  (.iload_n 2, 1, [], [], 2, 0, 0, 80),
  (.iaload, 1, [], [], 0, 0, 0, 81),
  (.bipush 14, 2, [], [], 0, 14, 0, 82), mm_nop,
  (.if_icmp .ne 20, 3, [(0, 104)], [], 0, 0, 0, 84), mm_nop, mm_nop,
  (.aload_n 0, 1, [], [], 0, 0, 0, 87),
  (.getfield 87, 3, [(10, 27)], [[6125]], 0, 0, 0, 88), mm_nop, mm_nop,
  (.bipush 12, 2, [], [], 0, 12, 0, 91), mm_nop,
  (.iload_n 1, 1, [], [], 1, 0, 0, 93),
  (.imul, 1, [], [], 0, 0, 0, 94),
  (.aload_n 0, 1, [], [], 0, 0, 0, 95),
  (.getfield 54, 3, [(10, 15)], [[6113]], 0, 0, 0, 96), mm_nop, mm_nop,
  (.iload_n 2, 1, [], [], 2, 0, 0, 99),
  (.iaload, 1, [], [], 0, 0, 0, 100),
  (.iadd, 1, [], [], 0, 0, 0, 101),
  (.iconst 1, 1, [], [], 0, 1, 0, 102),
  (.bastore, 1, [], [], 0, 0, 0, 103),
  (.iinc 2 1, 3, [], [], 2, 1, 0, 104), mm_nop, mm_nop,
  (.goto (-48), 3, [(0, 59)], [], 0, 0, 0, 107), mm_nop, mm_nop,
  (.iinc 1 1, 3, [], [], 1, 1, 0, 110), mm_nop, mm_nop,
  (.goto (-111), 3, [(0, 2)], [], 0, 0, 0, 113), mm_nop, mm_nop,
  (.iconst 0, 1, [], [], 0, 0, 0, 116),
  (.istore_n 1, 1, [], [], 1, 0, 0, 117),
  (.iload_n 1, 1, [], [], 1, 0, 0, 118),
  (.bipush 12, 2, [], [], 0, 12, 0, 119), mm_nop,
  (.if_icmp .ge 95, 3, [(0, 216)], [], 0, 0, 0, 121), mm_nop, mm_nop,
  (.iconst 0, 1, [], [], 0, 0, 0, 124),
  (.istore_n 2, 1, [], [], 2, 0, 0, 125),
  (.iload_n 2, 1, [], [], 2, 0, 0, 126),
  (.bipush 12, 2, [], [], 0, 12, 0, 127), mm_nop,
  (.if_icmp .ge 81, 3, [(0, 210)], [], 0, 0, 0, 129), mm_nop, mm_nop,
  (.iconst 0, 1, [], [], 0, 0, 0, 132),
  (.istore_n 3, 1, [], [], 3, 0, 0, 133),
  (.iload_n 3, 1, [], [], 3, 0, 0, 134),
  (.bipush 12, 2, [], [], 0, 12, 0, 135), mm_nop,
  (.if_icmp .ge 67, 3, [(0, 204)], [], 0, 0, 0, 137), mm_nop, mm_nop,
  (.aload_n 0, 1, [], [], 0, 0, 0, 140),
  (.getfield 87, 3, [(10, 27)], [[6125]], 0, 0, 0, 141), mm_nop, mm_nop,
  (.bipush 12, 2, [], [], 0, 12, 0, 144), mm_nop,
  (.iload_n 2, 1, [], [], 2, 0, 0, 146),
  (.imul, 1, [], [], 0, 0, 0, 147),
  (.iload_n 3, 1, [], [], 3, 0, 0, 148),
  (.iadd, 1, [], [], 0, 0, 0, 149),
  (.aload_n 0, 1, [], [], 0, 0, 0, 150),
  (.getfield 87, 3, [(10, 27)], [[6125]], 0, 0, 0, 151), mm_nop, mm_nop,
  (.bipush 12, 2, [], [], 0, 12, 0, 154), mm_nop,
  (.iload_n 2, 1, [], [], 2, 0, 0, 156),
  (.imul, 1, [], [], 0, 0, 0, 157),
  (.iload_n 3, 1, [], [], 3, 0, 0, 158),
  (.iadd, 1, [], [], 0, 0, 0, 159),
  (.baload, 1, [], [], 0, 0, 0, 160),
  (.ifCond .ne 31, 3, [(0, 192)], [], 0, 0, 0, 161), mm_nop, mm_nop,
  (.aload_n 0, 1, [], [], 0, 0, 0, 164),
  (.getfield 87, 3, [(10, 27)], [[6125]], 0, 0, 0, 165), mm_nop, mm_nop,
  (.bipush 12, 2, [], [], 0, 12, 0, 168), mm_nop,
  (.iload_n 2, 1, [], [], 2, 0, 0, 170),
  (.imul, 1, [], [], 0, 0, 0, 171),
  (.iload_n 1, 1, [], [], 1, 0, 0, 172),
  (.iadd, 1, [], [], 0, 0, 0, 173),
  (.baload, 1, [], [], 0, 0, 0, 174),
  (.ifCond .eq 21, 3, [(0, 196)], [], 0, 0, 0, 175), mm_nop, mm_nop,
  (.aload_n 0, 1, [], [], 0, 0, 0, 178),
  (.getfield 87, 3, [(10, 27)], [[6125]], 0, 0, 0, 179), mm_nop, mm_nop,
  (.bipush 12, 2, [], [], 0, 12, 0, 182), mm_nop,
  (.iload_n 1, 1, [], [], 1, 0, 0, 184),
  (.imul, 1, [], [], 0, 0, 0, 185),
  (.iload_n 3, 1, [], [], 3, 0, 0, 186),
  (.iadd, 1, [], [], 0, 0, 0, 187),
  (.baload, 1, [], [], 0, 0, 0, 188),
  (.ifCond .eq 7, 3, [(0, 196)], [], 0, 0, 0, 189), mm_nop, mm_nop,
  (.iconst 1, 1, [], [], 0, 1, 0, 192),
  (.goto 4, 3, [(0, 197)], [], 0, 0, 0, 193), mm_nop, mm_nop,
  (.iconst 0, 1, [], [], 0, 0, 0, 196),
  (.bastore, 1, [], [], 0, 0, 0, 197),
  (.iinc 3 1, 3, [], [], 3, 1, 0, 198), mm_nop, mm_nop,
  (.goto (-67), 3, [(0, 134)], [], 0, 0, 0, 201), mm_nop, mm_nop,
  (.iinc 2 1, 3, [], [], 2, 1, 0, 204), mm_nop, mm_nop,
  (.goto (-81), 3, [(0, 126)], [], 0, 0, 0, 207), mm_nop, mm_nop,
  (.iinc 1 1, 3, [], [], 1, 1, 0, 210), mm_nop, mm_nop,
  (.goto (-95), 3, [(0, 118)], [], 0, 0, 0, 213), mm_nop, mm_nop,
  (.return_, 1, [], [], 0, 0, 0, 216)]
def mm_m198 : mm_M := (yX12_findReach, cX12_findReach, 4, none, mm_k198, 0, 0, 0, 7197)
/-- TypeCopierModel.reaches.(II)I -/
def mm_k199 : List mm_E := [
  (.aload_n 0, 1, [], [], 0, 0, 0, 0),
  (.iload_n 1, 1, [], [], 1, 0, 0, 1),
  (.invokevirtual 236, 3, [(10, 184)], [[7146, 7148, 1030, 2015]], 1, 0, 0, 2), mm_nop, mm_nop,
  (.ifCond .eq 11, 3, [(0, 16)], [], 0, 0, 0, 5), mm_nop, mm_nop,
  (.aload_n 0, 1, [], [], 0, 0, 0, 8),
  (.iload_n 2, 1, [], [], 2, 0, 0, 9),
  (.invokevirtual 236, 3, [(10, 184)], [[7146, 7148, 1030, 2015]], 1, 0, 0, 10), mm_nop, mm_nop,
  (.ifCond .ne 6, 3, [(0, 19)], [], 0, 0, 0, 13), mm_nop, mm_nop,
  (.bipush (-2), 2, [], [], 0, (-2), 0, 16), mm_nop,
  (.ireturn, 1, [], [], 0, 0, 0, 18),
  (.aload_n 0, 1, [], [], 0, 0, 0, 19),
  (.invokevirtual 262, 3, [(10, 198)], [[7194, 7196, 1039, 2015]], 0, 0, 0, 20), mm_nop, mm_nop,
  (.aload_n 0, 1, [], [], 0, 0, 0, 23),
  (.getfield 87, 3, [(10, 27)], [[6125]], 0, 0, 0, 24), mm_nop, mm_nop,
  (.bipush 12, 2, [], [], 0, 12, 0, 27), mm_nop,
  (.iload_n 1, 1, [], [], 1, 0, 0, 29),
  (.imul, 1, [], [], 0, 0, 0, 30),
  (.iload_n 2, 1, [], [], 2, 0, 0, 31),
  (.iadd, 1, [], [], 0, 0, 0, 32),
  (.baload, 1, [], [], 0, 0, 0, 33),
  (.ifCond .eq 7, 3, [(0, 41)], [], 0, 0, 0, 34), mm_nop, mm_nop,
  (.iconst 1, 1, [], [], 0, 1, 0, 37),
  (.goto 4, 3, [(0, 42)], [], 0, 0, 0, 38), mm_nop, mm_nop,
  (.iconst 0, 1, [], [], 0, 0, 0, 41),
  (.ireturn, 1, [], [], 0, 0, 0, 42)]
def mm_m199 : mm_M := (yX12_reaches, cX12_reaches, 3, (some .int), mm_k199, 2, 0, 0, 7193)
/-- TypeCopierModel.isUsed.(I)Z -/
def mm_k200 : List mm_E := [
  (.iload_n 1, 1, [], [], 1, 0, 0, 0),
  (.ifCond .eq 12, 3, [(0, 13)], [], 0, 0, 0, 1), mm_nop, mm_nop,
  (.aload_n 0, 1, [], [], 0, 0, 0, 4),
  (.getfield 87, 3, [(10, 27)], [[6125]], 0, 0, 0, 5), mm_nop, mm_nop,
  (.iload_n 1, 1, [], [], 1, 0, 0, 8),
  (.baload, 1, [], [], 0, 0, 0, 9),
  (.ifCond .eq 7, 3, [(0, 17)], [], 0, 0, 0, 10), mm_nop, mm_nop,
  (.iconst 1, 1, [], [], 0, 1, 0, 13),
  (.goto 4, 3, [(0, 18)], [], 0, 0, 0, 14), mm_nop, mm_nop,
  (.iconst 0, 1, [], [], 0, 0, 0, 17),
  (.ireturn, 1, [], [], 0, 0, 0, 18)]
def mm_m200 : mm_M := (yX12_isUsed, cX12_isUsed, 2, (some .boolean), mm_k200, 1, 0, 0, 7205)
/-- TypeCopierModel.isRegular.(I)Z -/
def mm_k201 : List mm_E := [
  (.aload_n 0, 1, [], [], 0, 0, 0, 0),
  (.iload_n 1, 1, [], [], 1, 0, 0, 1),
  (.invokevirtual 259, 3, [(10, 196)], [[7186, 7188, 1038, 2015]], 1, 0, 0, 2), mm_nop, mm_nop,
  (.iconst 0, 1, [], [], 0, 0, 0, 5),
  (.istore_n 2, 1, [], [], 2, 0, 0, 6),
  (.iload_n 2, 1, [], [], 2, 0, 0, 7),
  (.aload_n 0, 1, [], [], 0, 0, 0, 8),
  (.getfield 213, 3, [(10, 13)], [[6111]], 0, 0, 0, 9), mm_nop, mm_nop,
  (.if_icmp .ge 123, 3, [(0, 135)], [], 0, 0, 0, 12), mm_nop, mm_nop,
  (.aload_n 0, 1, [], [], 0, 0, 0, 15),
  (.getfield 84, 3, [(10, 26)], [[6124]], 0, 0, 0, 16), mm_nop, mm_nop,
  (.iload_n 2, 1, [], [], 2, 0, 0, 19),
  (.baload, 1, [], [], 0, 0, 0, 20),
  (.ifCond .eq 108, 3, [(0, 129)], [], 0, 0, 0, 21), mm_nop, mm_nop,
  (.aload_n 0, 1, [], [], 0, 0, 0, 24),
  (.getfield 51, 3, [(10, 14)], [[6112]], 0, 0, 0, 25), mm_nop, mm_nop,
  (.iload_n 2, 1, [], [], 2, 0, 0, 28),
  (.iaload, 1, [], [], 0, 0, 0, 29),
  (.bipush 14, 2, [], [], 0, 14, 0, 30), mm_nop,
  (.if_icmp .ne 97, 3, [(0, 129)], [], 0, 0, 0, 32), mm_nop, mm_nop,
  (.aload_n 0, 1, [], [], 0, 0, 0, 35),
  (.getfield 54, 3, [(10, 15)], [[6113]], 0, 0, 0, 36), mm_nop, mm_nop,
  (.iload_n 2, 1, [], [], 2, 0, 0, 39),
  (.iaload, 1, [], [], 0, 0, 0, 40),
  (.istore_n 3, 1, [], [], 3, 0, 0, 41),
  (.iload_n 3, 1, [], [], 3, 0, 0, 42),
  (.iload_n 1, 1, [], [], 1, 0, 0, 43),
  (.if_icmp .eq 17, 3, [(0, 61)], [], 0, 0, 0, 44), mm_nop, mm_nop,
  (.aload_n 0, 1, [], [], 0, 0, 0, 47),
  (.getfield 87, 3, [(10, 27)], [[6125]], 0, 0, 0, 48), mm_nop, mm_nop,
  (.bipush 12, 2, [], [], 0, 12, 0, 51), mm_nop,
  (.iload_n 3, 1, [], [], 3, 0, 0, 53),
  (.imul, 1, [], [], 0, 0, 0, 54),
  (.iload_n 1, 1, [], [], 1, 0, 0, 55),
  (.iadd, 1, [], [], 0, 0, 0, 56),
  (.baload, 1, [], [], 0, 0, 0, 57),
  (.ifCond .eq 7, 3, [(0, 65)], [], 0, 0, 0, 58), mm_nop, mm_nop,
  (.iconst 1, 1, [], [], 0, 1, 0, 61),
  (.goto 4, 3, [(0, 66)], [], 0, 0, 0, 62), mm_nop, mm_nop,
  (.iconst 0, 1, [], [], 0, 0, 0, 65),
  (.istore 4, 2, [], [], 4, 0, 0, 66), mm_nop,
  (.iload 4, 2, [], [], 4, 0, 0, 68), mm_nop,
  (.ifCond .eq 59, 3, [(0, 129)], [], 0, 0, 0, 70), mm_nop, mm_nop,
  (.aload_n 0, 1, [], [], 0, 0, 0, 73),
  (.getfield 69, 3, [(10, 21)], [[6119]], 0, 0, 0, 74), mm_nop, mm_nop,
  (.iload_n 3, 1, [], [], 3, 0, 0, 77),
  (.iaload, 1, [], [], 0, 0, 0, 78),
  (.aload_n 0, 1, [], [], 0, 0, 0, 79),
  (.getfield 69, 3, [(10, 21)], [[6119]], 0, 0, 0, 80), mm_nop, mm_nop,
  (.iload_n 1, 1, [], [], 1, 0, 0, 83),
  (.iaload, 1, [], [], 0, 0, 0, 84),
  (.if_icmp .gt 42, 3, [(0, 127)], [], 0, 0, 0, 85), mm_nop, mm_nop,
  (.aload_n 0, 1, [], [], 0, 0, 0, 88),
  (.getfield 69, 3, [(10, 21)], [[6119]], 0, 0, 0, 89), mm_nop, mm_nop,
  (.iload_n 3, 1, [], [], 3, 0, 0, 92),
  (.iaload, 1, [], [], 0, 0, 0, 93),
  (.ifCond .le 13, 3, [(0, 107)], [], 0, 0, 0, 94), mm_nop, mm_nop,
  (.aload_n 0, 1, [], [], 0, 0, 0, 97),
  (.getfield 60, 3, [(10, 17)], [[6115]], 0, 0, 0, 98), mm_nop, mm_nop,
  (.iload_n 2, 1, [], [], 2, 0, 0, 101),
  (.iaload, 1, [], [], 0, 0, 0, 102),
  (.iconst 2, 1, [], [], 0, 2, 0, 103),
  (.if_icmp .ne 23, 3, [(0, 127)], [], 0, 0, 0, 104), mm_nop, mm_nop,
  (.aload_n 0, 1, [], [], 0, 0, 0, 107),
  (.getfield 69, 3, [(10, 21)], [[6119]], 0, 0, 0, 108), mm_nop, mm_nop,
  (.iload_n 3, 1, [], [], 3, 0, 0, 111),
  (.iaload, 1, [], [], 0, 0, 0, 112),
  (.iconst 1, 1, [], [], 0, 1, 0, 113),
  (.if_icmp .le 15, 3, [(0, 129)], [], 0, 0, 0, 114), mm_nop, mm_nop,
  (.aload_n 0, 1, [], [], 0, 0, 0, 117),
  (.getfield 63, 3, [(10, 18)], [[6116]], 0, 0, 0, 118), mm_nop, mm_nop,
  (.iload_n 2, 1, [], [], 2, 0, 0, 121),
  (.iaload, 1, [], [], 0, 0, 0, 122),
  (.iconst 3, 1, [], [], 0, 3, 0, 123),
  (.if_icmp .eq 5, 3, [(0, 129)], [], 0, 0, 0, 124), mm_nop, mm_nop,
  (.iconst 0, 1, [], [], 0, 0, 0, 127),
  (.ireturn, 1, [], [], 0, 0, 0, 128),
  (.iinc 2 1, 3, [], [], 2, 1, 0, 129), mm_nop, mm_nop,
  (.goto (-125), 3, [(0, 7)], [], 0, 0, 0, 132), mm_nop, mm_nop,
  (.iconst 1, 1, [], [], 0, 1, 0, 135),
  (.ireturn, 1, [], [], 0, 0, 0, 136)]
def mm_m201 : mm_M := (yX12_isRegular, cX12_isRegular, 5, (some .boolean), mm_k201, 1, 0, 0, 7209)
/-- TypeCopierModel.judge.()I -/
def mm_k202 : List mm_E := [
  (.aload_n 0, 1, [], [], 0, 0, 0, 0),
  (.getfield 216, 3, [(10, 20)], [[6118]], 0, 0, 0, 1), mm_nop, mm_nop,
  (.ifCond .eq 12, 3, [(0, 16)], [], 0, 0, 0, 4), mm_nop, mm_nop,
  (.aload_n 0, 1, [], [], 0, 0, 0, 7),
  (.getfield 69, 3, [(10, 21)], [[6119]], 0, 0, 0, 8), mm_nop, mm_nop,
  (.iconst 0, 1, [], [], 0, 0, 0, 11),
  (.iaload, 1, [], [], 0, 0, 0, 12),
  (.ifCond .le 5, 3, [(0, 18)], [], 0, 0, 0, 13), mm_nop, mm_nop,
  (.iconst 1, 1, [], [], 0, 1, 0, 16),
  (.ireturn, 1, [], [], 0, 0, 0, 17),
  (.aload_n 0, 1, [], [], 0, 0, 0, 18),
  (.invokevirtual 262, 3, [(10, 198)], [[7194, 7196, 1039, 2015]], 0, 0, 0, 19), mm_nop, mm_nop,
  (.iconst 0, 1, [], [], 0, 0, 0, 22),
  (.istore_n 1, 1, [], [], 1, 0, 0, 23),
  (.iload_n 1, 1, [], [], 1, 0, 0, 24),
  (.bipush 12, 2, [], [], 0, 12, 0, 25), mm_nop,
  (.if_icmp .ge 37, 3, [(0, 64)], [], 0, 0, 0, 27), mm_nop, mm_nop,
  (.aload_n 0, 1, [], [], 0, 0, 0, 30),
  (.iload_n 1, 1, [], [], 1, 0, 0, 31),
  (.invokevirtual 265, 3, [(10, 200)], [[7202, 7204, 1040, 2015]], 1, 0, 0, 32), mm_nop, mm_nop,
  (.ifCond .eq 23, 3, [(0, 58)], [], 0, 0, 0, 35), mm_nop, mm_nop,
  (.aload_n 0, 1, [], [], 0, 0, 0, 38),
  (.iload_n 1, 1, [], [], 1, 0, 0, 39),
  (.invokevirtual 236, 3, [(10, 184)], [[7146, 7148, 1030, 2015]], 1, 0, 0, 40), mm_nop, mm_nop,
  (.ifCond .eq 13, 3, [(0, 56)], [], 0, 0, 0, 43), mm_nop, mm_nop,
  (.aload_n 0, 1, [], [], 0, 0, 0, 46),
  (.getfield 78, 3, [(10, 24)], [[6122]], 0, 0, 0, 47), mm_nop, mm_nop,
  (.iload_n 1, 1, [], [], 1, 0, 0, 50),
  (.iaload, 1, [], [], 0, 0, 0, 51),
  (.iconst (-1), 1, [], [], 0, (-1), 0, 52),
  (.if_icmp .ne 5, 3, [(0, 58)], [], 0, 0, 0, 53), mm_nop, mm_nop,
  (.iconst 2, 1, [], [], 0, 2, 0, 56),
  (.ireturn, 1, [], [], 0, 0, 0, 57),
  (.iinc 1 1, 3, [], [], 1, 1, 0, 58), mm_nop, mm_nop,
  (.goto (-37), 3, [(0, 24)], [], 0, 0, 0, 61), mm_nop, mm_nop,
  (.iconst 0, 1, [], [], 0, 0, 0, 64),
  (.istore_n 1, 1, [], [], 1, 0, 0, 65),
  (.iload_n 1, 1, [], [], 1, 0, 0, 66),
  (.aload_n 0, 1, [], [], 0, 0, 0, 67),
  (.getfield 216, 3, [(10, 20)], [[6118]], 0, 0, 0, 68), mm_nop, mm_nop,
  (.if_icmp .ge 44, 3, [(0, 115)], [], 0, 0, 0, 71), mm_nop, mm_nop,
  (.aload_n 0, 1, [], [], 0, 0, 0, 74),
  (.iload_n 1, 1, [], [], 1, 0, 0, 75),
  (.invokevirtual 265, 3, [(10, 200)], [[7202, 7204, 1040, 2015]], 1, 0, 0, 76), mm_nop, mm_nop,
  (.ifCond .eq 30, 3, [(0, 109)], [], 0, 0, 0, 79), mm_nop, mm_nop,
  (.aload_n 0, 1, [], [], 0, 0, 0, 82),
  (.iload_n 1, 1, [], [], 1, 0, 0, 83),
  (.invokevirtual 252, 3, [(10, 194)], [[7154, 7156, 1031, 2015]], 1, 0, 0, 84), mm_nop, mm_nop,
  (.aload_n 0, 1, [], [], 0, 0, 0, 87),
  (.getfield 81, 3, [(10, 25)], [[6123]], 0, 0, 0, 88), mm_nop, mm_nop,
  (.aload_n 0, 1, [], [], 0, 0, 0, 91),
  (.getfield 78, 3, [(10, 24)], [[6122]], 0, 0, 0, 92), mm_nop, mm_nop,
  (.iload_n 1, 1, [], [], 1, 0, 0, 95),
  (.iaload, 1, [], [], 0, 0, 0, 96),
  (.iaload, 1, [], [], 0, 0, 0, 97),
  (.aload_n 0, 1, [], [], 0, 0, 0, 98),
  (.getfield 75, 3, [(10, 23)], [[6121]], 0, 0, 0, 99), mm_nop, mm_nop,
  (.iload_n 1, 1, [], [], 1, 0, 0, 102),
  (.iaload, 1, [], [], 0, 0, 0, 103),
  (.if_icmp .eq 5, 3, [(0, 109)], [], 0, 0, 0, 104), mm_nop, mm_nop,
  (.iconst 3, 1, [], [], 0, 3, 0, 107),
  (.ireturn, 1, [], [], 0, 0, 0, 108),
  (.iinc 1 1, 3, [], [], 1, 1, 0, 109), mm_nop, mm_nop,
  (.goto (-46), 3, [(0, 66)], [], 0, 0, 0, 112), mm_nop, mm_nop,
  (.iconst 0, 1, [], [], 0, 0, 0, 115),
  (.istore_n 1, 1, [], [], 1, 0, 0, 116),
  (.iload_n 1, 1, [], [], 1, 0, 0, 117),
  (.aload_n 0, 1, [], [], 0, 0, 0, 118),
  (.getfield 216, 3, [(10, 20)], [[6118]], 0, 0, 0, 119), mm_nop, mm_nop,
  (.if_icmp .ge 27, 3, [(0, 149)], [], 0, 0, 0, 122), mm_nop, mm_nop,
  (.aload_n 0, 1, [], [], 0, 0, 0, 125),
  (.iload_n 1, 1, [], [], 1, 0, 0, 126),
  (.invokevirtual 265, 3, [(10, 200)], [[7202, 7204, 1040, 2015]], 1, 0, 0, 127), mm_nop, mm_nop,
  (.ifCond .eq 13, 3, [(0, 143)], [], 0, 0, 0, 130), mm_nop, mm_nop,
  (.aload_n 0, 1, [], [], 0, 0, 0, 133),
  (.iload_n 1, 1, [], [], 1, 0, 0, 134),
  (.invokevirtual 268, 3, [(10, 201)], [[7206, 7208, 1041, 2015]], 1, 0, 0, 135), mm_nop, mm_nop,
  (.ifCond .ne 5, 3, [(0, 143)], [], 0, 0, 0, 138), mm_nop, mm_nop,
  (.iconst 4, 1, [], [], 0, 4, 0, 141),
  (.ireturn, 1, [], [], 0, 0, 0, 142),
  (.iinc 1 1, 3, [], [], 1, 1, 0, 143), mm_nop, mm_nop,
  (.goto (-29), 3, [(0, 117)], [], 0, 0, 0, 146), mm_nop, mm_nop,
  (.iconst 0, 1, [], [], 0, 0, 0, 149),
  (.ireturn, 1, [], [], 0, 0, 0, 150)]
def mm_m202 : mm_M := (yX12_judge, cX12_judge, 2, (some .int), mm_k202, 0, 0, 0, 7201)
/-- TypeCopierModel.findOrder.(I)V -/
def mm_k203 : List mm_E := [
  (.aload_n 0, 1, [], [], 0, 0, 0, 0),
  (.iconst 0, 1, [], [], 0, 0, 0, 1),
  (.putfield 271, 3, [(10, 36)], [[6134]], 0, 0, 0, 2), mm_nop, mm_nop,
  (.iconst 0, 1, [], [], 0, 0, 0, 5),
  (.istore_n 2, 1, [], [], 2, 0, 0, 6),
  (.iload_n 2, 1, [], [], 2, 0, 0, 7),
  (.aload_n 0, 1, [], [], 0, 0, 0, 8),
  (.getfield 213, 3, [(10, 13)], [[6111]], 0, 0, 0, 9), mm_nop, mm_nop,
  (.if_icmp .ge 16, 3, [(0, 28)], [], 0, 0, 0, 12), mm_nop, mm_nop,
  (.aload_n 0, 1, [], [], 0, 0, 0, 15),
  (.getfield 117, 3, [(10, 39)], [[6137]], 0, 0, 0, 16), mm_nop, mm_nop,
  (.iload_n 2, 1, [], [], 2, 0, 0, 19),
  (.iconst 0, 1, [], [], 0, 0, 0, 20),
  (.bastore, 1, [], [], 0, 0, 0, 21),
  (.iinc 2 1, 3, [], [], 2, 1, 0, 22), mm_nop, mm_nop,
  (.goto (-18), 3, [(0, 7)], [], 0, 0, 0, 25), mm_nop, mm_nop,
  (.iconst 0, 1, [], [], 0, 0, 0, 28),
  (.istore_n 2, 1, [], [], 2, 0, 0, 29),
  (.aload_n 0, 1, [], [], 0, 0, 0, 30),
  (.getfield 111, 3, [(10, 37)], [[6135]], 0, 0, 0, 31), mm_nop, mm_nop,
  (.iconst 0, 1, [], [], 0, 0, 0, 34),
  (.aload_n 0, 1, [], [], 0, 0, 0, 35),
  (.getfield 78, 3, [(10, 24)], [[6122]], 0, 0, 0, 36), mm_nop, mm_nop,
  (.iload_n 1, 1, [], [], 1, 0, 0, 39),
  (.iaload, 1, [], [], 0, 0, 0, 40),
  (.iastore, 1, [], [], 0, 0, 0, 41),
  (.aload_n 0, 1, [], [], 0, 0, 0, 42),
  (.getfield 114, 3, [(10, 38)], [[6136]], 0, 0, 0, 43), mm_nop, mm_nop,
  (.iconst 0, 1, [], [], 0, 0, 0, 46),
  (.iconst 0, 1, [], [], 0, 0, 0, 47),
  (.iastore, 1, [], [], 0, 0, 0, 48),
  (.aload_n 0, 1, [], [], 0, 0, 0, 49),
  (.getfield 117, 3, [(10, 39)], [[6137]], 0, 0, 0, 50), mm_nop, mm_nop,
  (.aload_n 0, 1, [], [], 0, 0, 0, 53),
  (.getfield 78, 3, [(10, 24)], [[6122]], 0, 0, 0, 54), mm_nop, mm_nop,
  (.iload_n 1, 1, [], [], 1, 0, 0, 57),
  (.iaload, 1, [], [], 0, 0, 0, 58),
  (.iconst 1, 1, [], [], 0, 1, 0, 59),
  (.bastore, 1, [], [], 0, 0, 0, 60),
  (.iload_n 2, 1, [], [], 2, 0, 0, 61),
  (.ifCond .lt 116, 3, [(0, 178)], [], 0, 0, 0, 62), mm_nop, mm_nop,
  (.aload_n 0, 1, [], [], 0, 0, 0, 65),
  (.getfield 111, 3, [(10, 37)], [[6135]], 0, 0, 0, 66), mm_nop, mm_nop,
  (.iload_n 2, 1, [], [], 2, 0, 0, 69),
  (.iaload, 1, [], [], 0, 0, 0, 70),
  (.istore_n 3, 1, [], [], 3, 0, 0, 71),
  (.aload_n 0, 1, [], [], 0, 0, 0, 72),
  (.getfield 114, 3, [(10, 38)], [[6136]], 0, 0, 0, 73), mm_nop, mm_nop,
  (.iload_n 2, 1, [], [], 2, 0, 0, 76),
  (.iaload, 1, [], [], 0, 0, 0, 77),
  (.aload_n 0, 1, [], [], 0, 0, 0, 78),
  (.getfield 51, 3, [(10, 14)], [[6112]], 0, 0, 0, 79), mm_nop, mm_nop,
  (.iload_n 3, 1, [], [], 3, 0, 0, 82),
  (.iaload, 1, [], [], 0, 0, 0, 83),
  (.invokestatic 225, 3, [(0, 185)], [[7131, 7132, 2015]], 1, 0, 0, 84), mm_nop, mm_nop,
  (.if_icmp .ge 65, 3, [(0, 152)], [], 0, 0, 0, 87), mm_nop, mm_nop,
  (.aload_n 0, 1, [], [], 0, 0, 0, 90),
  (.iload_n 3, 1, [], [], 3, 0, 0, 91),
  (.aload_n 0, 1, [], [], 0, 0, 0, 92),
  (.getfield 114, 3, [(10, 38)], [[6136]], 0, 0, 0, 93), mm_nop, mm_nop,
  (.iload_n 2, 1, [], [], 2, 0, 0, 96),
  (.iaload, 1, [], [], 0, 0, 0, 97),
  (.invokevirtual 245, 3, [(10, 186)], [[7158, 7160, 1032, 2015]], 2, 0, 0, 98), mm_nop, mm_nop,
  (.istore 4, 2, [], [], 4, 0, 0, 101), mm_nop,
  (.aload_n 0, 1, [], [], 0, 0, 0, 103),
  (.getfield 114, 3, [(10, 38)], [[6136]], 0, 0, 0, 104), mm_nop, mm_nop,
  (.iload_n 2, 1, [], [], 2, 0, 0, 107),
  (.dup2, 1, [], [], 0, 0, 0, 108),
  (.iaload, 1, [], [], 0, 0, 0, 109),
  (.iconst 1, 1, [], [], 0, 1, 0, 110),
  (.iadd, 1, [], [], 0, 0, 0, 111),
  (.iastore, 1, [], [], 0, 0, 0, 112),
  (.aload_n 0, 1, [], [], 0, 0, 0, 113),
  (.getfield 117, 3, [(10, 39)], [[6137]], 0, 0, 0, 114), mm_nop, mm_nop,
  (.iload 4, 2, [], [], 4, 0, 0, 117), mm_nop,
  (.baload, 1, [], [], 0, 0, 0, 119),
  (.ifCond .ne 29, 3, [(0, 149)], [], 0, 0, 0, 120), mm_nop, mm_nop,
  (.aload_n 0, 1, [], [], 0, 0, 0, 123),
  (.getfield 117, 3, [(10, 39)], [[6137]], 0, 0, 0, 124), mm_nop, mm_nop,
  (.iload 4, 2, [], [], 4, 0, 0, 127), mm_nop,
  (.iconst 1, 1, [], [], 0, 1, 0, 129),
  (.bastore, 1, [], [], 0, 0, 0, 130),
  (.iinc 2 1, 3, [], [], 2, 1, 0, 131), mm_nop, mm_nop,
  (.aload_n 0, 1, [], [], 0, 0, 0, 134),
  (.getfield 111, 3, [(10, 37)], [[6135]], 0, 0, 0, 135), mm_nop, mm_nop,
  (.iload_n 2, 1, [], [], 2, 0, 0, 138),
  (.iload 4, 2, [], [], 4, 0, 0, 139), mm_nop,
  (.iastore, 1, [], [], 0, 0, 0, 141),
  (.aload_n 0, 1, [], [], 0, 0, 0, 142),
  (.getfield 114, 3, [(10, 38)], [[6136]], 0, 0, 0, 143), mm_nop, mm_nop,
  (.iload_n 2, 1, [], [], 2, 0, 0, 146),
  (.iconst 0, 1, [], [], 0, 0, 0, 147),
  (.iastore, 1, [], [], 0, 0, 0, 148),
  (.goto 26, 3, [(0, 175)], [], 0, 0, 0, 149), mm_nop, mm_nop,
  (.aload_n 0, 1, [], [], 0, 0, 0, 152),
  (.getfield 108, 3, [(10, 35)], [[6133]], 0, 0, 0, 153), mm_nop, mm_nop,
  (.aload_n 0, 1, [], [], 0, 0, 0, 156),
  (.getfield 271, 3, [(10, 36)], [[6134]], 0, 0, 0, 157), mm_nop, mm_nop,
  (.iload_n 3, 1, [], [], 3, 0, 0, 160),
  (.iastore, 1, [], [], 0, 0, 0, 161),
  (.aload_n 0, 1, [], [], 0, 0, 0, 162),
  (.dup, 1, [], [], 0, 0, 0, 163),
  (.getfield 271, 3, [(10, 36)], [[6134]], 0, 0, 0, 164), mm_nop, mm_nop,
  (.iconst 1, 1, [], [], 0, 1, 0, 167),
  (.iadd, 1, [], [], 0, 0, 0, 168),
  (.putfield 271, 3, [(10, 36)], [[6134]], 0, 0, 0, 169), mm_nop, mm_nop,
  (.iinc 2 (-1), 3, [], [], 2, (-1), 0, 172), mm_nop, mm_nop,
  (.goto (-114), 3, [(0, 61)], [], 0, 0, 0, 175), mm_nop, mm_nop,
  (.return_, 1, [], [], 0, 0, 0, 178)]
def mm_m203 : mm_M := (yX12_findOrder, cX12_findOrder, 5, none, mm_k203, 1, 0, 0, 7238)
/-- TypeCopierModel.deepIn.(IIII)I -/
def mm_k204 : List mm_E := [
  (.iload_n 1, 1, [], [], 1, 0, 0, 0),
  (.istore 5, 2, [], [], 5, 0, 0, 1), mm_nop,
  (.iload_n 2, 1, [], [], 2, 0, 0, 3),
  (.ifCond .le 27, 3, [(0, 31)], [], 0, 0, 0, 4), mm_nop, mm_nop,
  (.iload 5, 2, [], [], 5, 0, 0, 7), mm_nop,
  (.iload_n 2, 1, [], [], 2, 0, 0, 9),
  (.iconst 1, 1, [], [], 0, 1, 0, 10),
  (.isub, 1, [], [], 0, 0, 0, 11),
  (.aload_n 0, 1, [], [], 0, 0, 0, 12),
  (.getfield 26, 3, [(10, 5)], [[6103]], 0, 0, 0, 13), mm_nop, mm_nop,
  (.aload_n 0, 1, [], [], 0, 0, 0, 16),
  (.getfield 102, 3, [(10, 33)], [[6131]], 0, 0, 0, 17), mm_nop, mm_nop,
  (.iload 4, 2, [], [], 4, 0, 0, 20), mm_nop,
  (.iaload, 1, [], [], 0, 0, 0, 22),
  (.iaload, 1, [], [], 0, 0, 0, 23),
  (.iadd, 1, [], [], 0, 0, 0, 24),
  (.invokestatic 178, 3, [(0, 170)], [[7093, 7094, 2015]], 2, 0, 0, 25), mm_nop, mm_nop,
  (.goto 5, 3, [(0, 33)], [], 0, 0, 0, 28), mm_nop, mm_nop,
  (.iload 5, 2, [], [], 5, 0, 0, 31), mm_nop,
  (.istore 5, 2, [], [], 5, 0, 0, 33), mm_nop,
  (.iload_n 3, 1, [], [], 3, 0, 0, 35),
  (.ifCond .le 27, 3, [(0, 63)], [], 0, 0, 0, 36), mm_nop, mm_nop,
  (.iload 5, 2, [], [], 5, 0, 0, 39), mm_nop,
  (.iload_n 3, 1, [], [], 3, 0, 0, 41),
  (.iconst 1, 1, [], [], 0, 1, 0, 42),
  (.isub, 1, [], [], 0, 0, 0, 43),
  (.aload_n 0, 1, [], [], 0, 0, 0, 44),
  (.getfield 26, 3, [(10, 5)], [[6103]], 0, 0, 0, 45), mm_nop, mm_nop,
  (.aload_n 0, 1, [], [], 0, 0, 0, 48),
  (.getfield 105, 3, [(10, 34)], [[6132]], 0, 0, 0, 49), mm_nop, mm_nop,
  (.iload 4, 2, [], [], 4, 0, 0, 52), mm_nop,
  (.iaload, 1, [], [], 0, 0, 0, 54),
  (.iaload, 1, [], [], 0, 0, 0, 55),
  (.iadd, 1, [], [], 0, 0, 0, 56),
  (.invokestatic 178, 3, [(0, 170)], [[7093, 7094, 2015]], 2, 0, 0, 57), mm_nop, mm_nop,
  (.goto 5, 3, [(0, 65)], [], 0, 0, 0, 60), mm_nop, mm_nop,
  (.iload 5, 2, [], [], 5, 0, 0, 63), mm_nop,
  (.ireturn, 1, [], [], 0, 0, 0, 65)]
def mm_m204 : mm_M := (yX12_deepIn, cX12_deepIn, 6, (some .int), mm_k204, 4, 0, 0, 7234)
/-- TypeCopierModel.isTooDeep.(II)Z -/
def mm_k205 : List mm_E := [
  (.aload_n 0, 1, [], [], 0, 0, 0, 0),
  (.aload_n 0, 1, [], [], 0, 0, 0, 1),
  (.getfield 26, 3, [(10, 5)], [[6103]], 0, 0, 0, 2), mm_nop, mm_nop,
  (.iload_n 1, 1, [], [], 1, 0, 0, 5),
  (.iaload, 1, [], [], 0, 0, 0, 6),
  (.aload_n 0, 1, [], [], 0, 0, 0, 7),
  (.getfield 29, 3, [(10, 6)], [[6104]], 0, 0, 0, 8), mm_nop, mm_nop,
  (.iload_n 1, 1, [], [], 1, 0, 0, 11),
  (.iaload, 1, [], [], 0, 0, 0, 12),
  (.aload_n 0, 1, [], [], 0, 0, 0, 13),
  (.getfield 32, 3, [(10, 7)], [[6105]], 0, 0, 0, 14), mm_nop, mm_nop,
  (.iload_n 1, 1, [], [], 1, 0, 0, 17),
  (.iaload, 1, [], [], 0, 0, 0, 18),
  (.iload_n 2, 1, [], [], 2, 0, 0, 19),
  (.invokevirtual 274, 3, [(10, 204)], [[7231, 7233, 1046, 2015]], 4, 0, 0, 20), mm_nop, mm_nop,
  (.iconst 5, 1, [], [], 0, 5, 0, 23),
  (.if_icmp .le 7, 3, [(0, 31)], [], 0, 0, 0, 24), mm_nop, mm_nop,
  (.iconst 1, 1, [], [], 0, 1, 0, 27),
  (.goto 4, 3, [(0, 32)], [], 0, 0, 0, 28), mm_nop, mm_nop,
  (.iconst 0, 1, [], [], 0, 0, 0, 31),
  (.ireturn, 1, [], [], 0, 0, 0, 32)]
def mm_m205 : mm_M := (yX12_isTooDeep, cX12_isTooDeep, 3, (some .boolean), mm_k205, 2, 0, 0, 7230)
/-- TypeCopierModel.copied.(III)Z -/
def mm_k206 : List mm_E := [
  (.iconst 0, 1, [], [], 0, 0, 0, 0),
  (.istore 4, 2, [], [], 4, 0, 0, 1), mm_nop,
  (.iload 4, 2, [], [], 4, 0, 0, 3), mm_nop,
  (.aload_n 0, 1, [], [], 0, 0, 0, 5),
  (.getfield 278, 3, [(10, 31)], [[6129]], 0, 0, 0, 6), mm_nop, mm_nop,
  (.if_icmp .ge 44, 3, [(0, 53)], [], 0, 0, 0, 9), mm_nop, mm_nop,
  (.aload_n 0, 1, [], [], 0, 0, 0, 12),
  (.getfield 99, 3, [(10, 32)], [[6130]], 0, 0, 0, 13), mm_nop, mm_nop,
  (.iload 4, 2, [], [], 4, 0, 0, 16), mm_nop,
  (.iaload, 1, [], [], 0, 0, 0, 18),
  (.iload_n 1, 1, [], [], 1, 0, 0, 19),
  (.if_icmp .ne 27, 3, [(0, 47)], [], 0, 0, 0, 20), mm_nop, mm_nop,
  (.aload_n 0, 1, [], [], 0, 0, 0, 23),
  (.getfield 102, 3, [(10, 33)], [[6131]], 0, 0, 0, 24), mm_nop, mm_nop,
  (.iload 4, 2, [], [], 4, 0, 0, 27), mm_nop,
  (.iaload, 1, [], [], 0, 0, 0, 29),
  (.iload_n 2, 1, [], [], 2, 0, 0, 30),
  (.if_icmp .ne 16, 3, [(0, 47)], [], 0, 0, 0, 31), mm_nop, mm_nop,
  (.aload_n 0, 1, [], [], 0, 0, 0, 34),
  (.getfield 105, 3, [(10, 34)], [[6132]], 0, 0, 0, 35), mm_nop, mm_nop,
  (.iload 4, 2, [], [], 4, 0, 0, 38), mm_nop,
  (.iaload, 1, [], [], 0, 0, 0, 40),
  (.iload_n 3, 1, [], [], 3, 0, 0, 41),
  (.if_icmp .ne 5, 3, [(0, 47)], [], 0, 0, 0, 42), mm_nop, mm_nop,
  (.iconst 1, 1, [], [], 0, 1, 0, 45),
  (.ireturn, 1, [], [], 0, 0, 0, 46),
  (.iinc 4 1, 3, [], [], 4, 1, 0, 47), mm_nop, mm_nop,
  (.goto (-47), 3, [(0, 3)], [], 0, 0, 0, 50), mm_nop, mm_nop,
  (.aload_n 0, 1, [], [], 0, 0, 0, 53),
  (.getfield 278, 3, [(10, 31)], [[6129]], 0, 0, 0, 54), mm_nop, mm_nop,
  (.bipush 60, 2, [], [], 0, 60, 0, 57), mm_nop,
  (.if_icmp .eq 33, 3, [(0, 92)], [], 0, 0, 0, 59), mm_nop, mm_nop,
  (.iload_n 2, 1, [], [], 2, 0, 0, 62),
  (.iconst (-1), 1, [], [], 0, (-1), 0, 63),
  (.if_icmp .eq 13, 3, [(0, 77)], [], 0, 0, 0, 64), mm_nop, mm_nop,
  (.aload_n 0, 1, [], [], 0, 0, 0, 67),
  (.getfield 26, 3, [(10, 5)], [[6103]], 0, 0, 0, 68), mm_nop, mm_nop,
  (.iload_n 2, 1, [], [], 2, 0, 0, 71),
  (.iaload, 1, [], [], 0, 0, 0, 72),
  (.iconst 5, 1, [], [], 0, 5, 0, 73),
  (.if_icmp .gt 18, 3, [(0, 92)], [], 0, 0, 0, 74), mm_nop, mm_nop,
  (.iload_n 3, 1, [], [], 3, 0, 0, 77),
  (.iconst (-1), 1, [], [], 0, (-1), 0, 78),
  (.if_icmp .eq 15, 3, [(0, 94)], [], 0, 0, 0, 79), mm_nop, mm_nop,
  (.aload_n 0, 1, [], [], 0, 0, 0, 82),
  (.getfield 26, 3, [(10, 5)], [[6103]], 0, 0, 0, 83), mm_nop, mm_nop,
  (.iload_n 3, 1, [], [], 3, 0, 0, 86),
  (.iaload, 1, [], [], 0, 0, 0, 87),
  (.iconst 5, 1, [], [], 0, 5, 0, 88),
  (.if_icmp .le 5, 3, [(0, 94)], [], 0, 0, 0, 89), mm_nop, mm_nop,
  (.iconst 0, 1, [], [], 0, 0, 0, 92),
  (.ireturn, 1, [], [], 0, 0, 0, 93),
  (.aload_n 0, 1, [], [], 0, 0, 0, 94),
  (.getfield 99, 3, [(10, 32)], [[6130]], 0, 0, 0, 95), mm_nop, mm_nop,
  (.aload_n 0, 1, [], [], 0, 0, 0, 98),
  (.getfield 278, 3, [(10, 31)], [[6129]], 0, 0, 0, 99), mm_nop, mm_nop,
  (.iload_n 1, 1, [], [], 1, 0, 0, 102),
  (.iastore, 1, [], [], 0, 0, 0, 103),
  (.aload_n 0, 1, [], [], 0, 0, 0, 104),
  (.getfield 102, 3, [(10, 33)], [[6131]], 0, 0, 0, 105), mm_nop, mm_nop,
  (.aload_n 0, 1, [], [], 0, 0, 0, 108),
  (.getfield 278, 3, [(10, 31)], [[6129]], 0, 0, 0, 109), mm_nop, mm_nop,
  (.iload_n 2, 1, [], [], 2, 0, 0, 112),
  (.iastore, 1, [], [], 0, 0, 0, 113),
  (.aload_n 0, 1, [], [], 0, 0, 0, 114),
  (.getfield 105, 3, [(10, 34)], [[6132]], 0, 0, 0, 115), mm_nop, mm_nop,
  (.aload_n 0, 1, [], [], 0, 0, 0, 118),
  (.getfield 278, 3, [(10, 31)], [[6129]], 0, 0, 0, 119), mm_nop, mm_nop,
  (.iload_n 3, 1, [], [], 3, 0, 0, 122),
  (.iastore, 1, [], [], 0, 0, 0, 123),
  (.aload_n 0, 1, [], [], 0, 0, 0, 124),
  (.dup, 1, [], [], 0, 0, 0, 125),
  (.getfield 278, 3, [(10, 31)], [[6129]], 0, 0, 0, 126), mm_nop, mm_nop,
  (.iconst 1, 1, [], [], 0, 1, 0, 129),
  (.iadd, 1, [], [], 0, 0, 0, 130),
  (.putfield 278, 3, [(10, 31)], [[6129]], 0, 0, 0, 131), mm_nop, mm_nop,
  (.iconst 1, 1, [], [], 0, 1, 0, 134),
  (.ireturn, 1, [], [], 0, 0, 0, 135)]
def mm_m206 : mm_M := (yX12_copied, cX12_copied, 5, (some .boolean), mm_k206, 3, 0, 0, 7222)
/-- TypeCopierModel.follows.(I)Z -/
def mm_k207 : List mm_E := [
  (.aload_n 0, 1, [], [], 0, 0, 0, 0),
  (.getfield 99, 3, [(10, 32)], [[6130]], 0, 0, 0, 1), mm_nop, mm_nop,
  (.iload_n 1, 1, [], [], 1, 0, 0, 4),
  (.iaload, 1, [], [], 0, 0, 0, 5),
  (.istore_n 2, 1, [], [], 2, 0, 0, 6),
  (.aload_n 0, 1, [], [], 0, 0, 0, 7),
  (.aload_n 0, 1, [], [], 0, 0, 0, 8),
  (.getfield 72, 3, [(10, 22)], [[6120]], 0, 0, 0, 9), mm_nop, mm_nop,
  (.iload_n 2, 1, [], [], 2, 0, 0, 12),
  (.iaload, 1, [], [], 0, 0, 0, 13),
  (.iload_n 1, 1, [], [], 1, 0, 0, 14),
  (.invokevirtual 281, 3, [(10, 205)], [[7227, 7229, 1045, 2015]], 2, 0, 0, 15), mm_nop, mm_nop,
  (.ifCond .ne 17, 3, [(0, 35)], [], 0, 0, 0, 18), mm_nop, mm_nop,
  (.aload_n 0, 1, [], [], 0, 0, 0, 21),
  (.aload_n 0, 1, [], [], 0, 0, 0, 22),
  (.getfield 75, 3, [(10, 23)], [[6121]], 0, 0, 0, 23), mm_nop, mm_nop,
  (.iload_n 2, 1, [], [], 2, 0, 0, 26),
  (.iaload, 1, [], [], 0, 0, 0, 27),
  (.iload_n 1, 1, [], [], 1, 0, 0, 28),
  (.invokevirtual 281, 3, [(10, 205)], [[7227, 7229, 1045, 2015]], 2, 0, 0, 29), mm_nop, mm_nop,
  (.ifCond .eq 5, 3, [(0, 37)], [], 0, 0, 0, 32), mm_nop, mm_nop,
  (.iconst 0, 1, [], [], 0, 0, 0, 35),
  (.ireturn, 1, [], [], 0, 0, 0, 36),
  (.aload_n 0, 1, [], [], 0, 0, 0, 37),
  (.iload_n 2, 1, [], [], 2, 0, 0, 38),
  (.invokevirtual 284, 3, [(10, 203)], [[7235, 7237, 1047, 2015]], 1, 0, 0, 39), mm_nop, mm_nop,
  (.iconst 0, 1, [], [], 0, 0, 0, 42),
  (.istore_n 3, 1, [], [], 3, 0, 0, 43),
  (.iload_n 3, 1, [], [], 3, 0, 0, 44),
  (.aload_n 0, 1, [], [], 0, 0, 0, 45),
  (.getfield 271, 3, [(10, 36)], [[6134]], 0, 0, 0, 46), mm_nop, mm_nop,
  (.if_icmp .ge 171, 3, [(0, 220)], [], 0, 0, 0, 49), mm_nop, mm_nop,
  (.aload_n 0, 1, [], [], 0, 0, 0, 52),
  (.getfield 108, 3, [(10, 35)], [[6133]], 0, 0, 0, 53), mm_nop, mm_nop,
  (.iload_n 3, 1, [], [], 3, 0, 0, 56),
  (.iaload, 1, [], [], 0, 0, 0, 57),
  (.istore 4, 2, [], [], 4, 0, 0, 58), mm_nop,
  (.sipush 200, 3, [], [], 0, 200, 0, 60), mm_nop, mm_nop,
  (.iload_n 2, 1, [], [], 2, 0, 0, 63),
  (.imul, 1, [], [], 0, 0, 0, 64),
  (.iload 4, 2, [], [], 4, 0, 0, 65), mm_nop,
  (.iadd, 1, [], [], 0, 0, 0, 67),
  (.istore 5, 2, [], [], 5, 0, 0, 68), mm_nop,
  (.aload_n 0, 1, [], [], 0, 0, 0, 70),
  (.aload_n 0, 1, [], [], 0, 0, 0, 71),
  (.getfield 90, 3, [(10, 28)], [[6126]], 0, 0, 0, 72), mm_nop, mm_nop,
  (.iload 5, 2, [], [], 5, 0, 0, 75), mm_nop,
  (.iaload, 1, [], [], 0, 0, 0, 77),
  (.aload_n 0, 1, [], [], 0, 0, 0, 78),
  (.getfield 93, 3, [(10, 29)], [[6127]], 0, 0, 0, 79), mm_nop, mm_nop,
  (.iload 5, 2, [], [], 5, 0, 0, 82), mm_nop,
  (.iaload, 1, [], [], 0, 0, 0, 84),
  (.aload_n 0, 1, [], [], 0, 0, 0, 85),
  (.getfield 96, 3, [(10, 30)], [[6128]], 0, 0, 0, 86), mm_nop, mm_nop,
  (.iload 5, 2, [], [], 5, 0, 0, 89), mm_nop,
  (.iaload, 1, [], [], 0, 0, 0, 91),
  (.iload_n 1, 1, [], [], 1, 0, 0, 92),
  (.invokevirtual 274, 3, [(10, 204)], [[7231, 7233, 1046, 2015]], 4, 0, 0, 93), mm_nop, mm_nop,
  (.iconst 5, 1, [], [], 0, 5, 0, 96),
  (.if_icmp .le 5, 3, [(0, 102)], [], 0, 0, 0, 97), mm_nop, mm_nop,
  (.iconst 0, 1, [], [], 0, 0, 0, 100),
  (.ireturn, 1, [], [], 0, 0, 0, 101),
  (.aload_n 0, 1, [], [], 0, 0, 0, 102),
  (.getfield 51, 3, [(10, 14)], [[6112]], 0, 0, 0, 103), mm_nop, mm_nop,
  (.iload 4, 2, [], [], 4, 0, 0, 106), mm_nop,
  (.iaload, 1, [], [], 0, 0, 0, 108),
  (.bipush 14, 2, [], [], 0, 14, 0, 109), mm_nop,
  (.if_icmp .ne 103, 3, [(0, 214)], [], 0, 0, 0, 111), mm_nop, mm_nop,
  (.aload_n 0, 1, [], [], 0, 0, 0, 114),
  (.getfield 60, 3, [(10, 17)], [[6115]], 0, 0, 0, 115), mm_nop, mm_nop,
  (.iload 4, 2, [], [], 4, 0, 0, 118), mm_nop,
  (.iaload, 1, [], [], 0, 0, 0, 120),
  (.iconst (-1), 1, [], [], 0, (-1), 0, 121),
  (.if_icmp .ne 7, 3, [(0, 129)], [], 0, 0, 0, 122), mm_nop, mm_nop,
  (.iconst (-1), 1, [], [], 0, (-1), 0, 125),
  (.goto 26, 3, [(0, 152)], [], 0, 0, 0, 126), mm_nop, mm_nop,
  (.aload_n 0, 1, [], [], 0, 0, 0, 129),
  (.aload_n 0, 1, [], [], 0, 0, 0, 130),
  (.getfield 60, 3, [(10, 17)], [[6115]], 0, 0, 0, 131), mm_nop, mm_nop,
  (.iload 4, 2, [], [], 4, 0, 0, 134), mm_nop,
  (.iaload, 1, [], [], 0, 0, 0, 136),
  (.aload_n 0, 1, [], [], 0, 0, 0, 137),
  (.getfield 102, 3, [(10, 33)], [[6131]], 0, 0, 0, 138), mm_nop, mm_nop,
  (.iload_n 1, 1, [], [], 1, 0, 0, 141),
  (.iaload, 1, [], [], 0, 0, 0, 142),
  (.aload_n 0, 1, [], [], 0, 0, 0, 143),
  (.getfield 105, 3, [(10, 34)], [[6132]], 0, 0, 0, 144), mm_nop, mm_nop,
  (.iload_n 1, 1, [], [], 1, 0, 0, 147),
  (.iaload, 1, [], [], 0, 0, 0, 148),
  (.invokevirtual 239, 3, [(10, 181)], [[7174, 7176, 1036, 2015]], 3, 0, 0, 149), mm_nop, mm_nop,
  (.istore 6, 2, [], [], 6, 0, 0, 152), mm_nop,
  (.aload_n 0, 1, [], [], 0, 0, 0, 154),
  (.getfield 63, 3, [(10, 18)], [[6116]], 0, 0, 0, 155), mm_nop, mm_nop,
  (.iload 4, 2, [], [], 4, 0, 0, 158), mm_nop,
  (.iaload, 1, [], [], 0, 0, 0, 160),
  (.iconst (-1), 1, [], [], 0, (-1), 0, 161),
  (.if_icmp .ne 7, 3, [(0, 169)], [], 0, 0, 0, 162), mm_nop, mm_nop,
  (.iconst (-1), 1, [], [], 0, (-1), 0, 165),
  (.goto 26, 3, [(0, 192)], [], 0, 0, 0, 166), mm_nop, mm_nop,
  (.aload_n 0, 1, [], [], 0, 0, 0, 169),
  (.aload_n 0, 1, [], [], 0, 0, 0, 170),
  (.getfield 63, 3, [(10, 18)], [[6116]], 0, 0, 0, 171), mm_nop, mm_nop,
  (.iload 4, 2, [], [], 4, 0, 0, 174), mm_nop,
  (.iaload, 1, [], [], 0, 0, 0, 176),
  (.aload_n 0, 1, [], [], 0, 0, 0, 177),
  (.getfield 102, 3, [(10, 33)], [[6131]], 0, 0, 0, 178), mm_nop, mm_nop,
  (.iload_n 1, 1, [], [], 1, 0, 0, 181),
  (.iaload, 1, [], [], 0, 0, 0, 182),
  (.aload_n 0, 1, [], [], 0, 0, 0, 183),
  (.getfield 105, 3, [(10, 34)], [[6132]], 0, 0, 0, 184), mm_nop, mm_nop,
  (.iload_n 1, 1, [], [], 1, 0, 0, 187),
  (.iaload, 1, [], [], 0, 0, 0, 188),
  (.invokevirtual 239, 3, [(10, 181)], [[7174, 7176, 1036, 2015]], 3, 0, 0, 189), mm_nop, mm_nop,
  (.istore 7, 2, [], [], 7, 0, 0, 192), mm_nop,
  (.aload_n 0, 1, [], [], 0, 0, 0, 194),
  (.aload_n 0, 1, [], [], 0, 0, 0, 195),
  (.getfield 54, 3, [(10, 15)], [[6113]], 0, 0, 0, 196), mm_nop, mm_nop,
  (.iload 4, 2, [], [], 4, 0, 0, 199), mm_nop,
  (.iaload, 1, [], [], 0, 0, 0, 201),
  (.iload 6, 2, [], [], 6, 0, 0, 202), mm_nop,
  (.iload 7, 2, [], [], 7, 0, 0, 204), mm_nop,
  (.invokevirtual 287, 3, [(10, 206)], [[7219, 7221, 1043, 2015]], 3, 0, 0, 206), mm_nop, mm_nop,
  (.ifCond .ne 5, 3, [(0, 214)], [], 0, 0, 0, 209), mm_nop, mm_nop,
  (.iconst 0, 1, [], [], 0, 0, 0, 212),
  (.ireturn, 1, [], [], 0, 0, 0, 213),
  (.iinc 3 1, 3, [], [], 3, 1, 0, 214), mm_nop, mm_nop,
  (.goto (-173), 3, [(0, 44)], [], 0, 0, 0, 217), mm_nop, mm_nop,
  (.iconst 1, 1, [], [], 0, 1, 0, 220),
  (.ireturn, 1, [], [], 0, 0, 0, 221)]
def mm_m207 : mm_M := (yX12_follows, cX12_follows, 8, (some .boolean), mm_k207, 1, 0, 0, 7226)
/-- TypeCopierModel.findCopies.()I -/
def mm_k208 : List mm_E := [
  (.aload_n 0, 1, [], [], 0, 0, 0, 0),
  (.invokevirtual 290, 3, [(10, 202)], [[7218, 7199, 7200, 2015]], 0, 0, 0, 1), mm_nop, mm_nop,
  (.ifCond .eq 6, 3, [(0, 10)], [], 0, 0, 0, 4), mm_nop, mm_nop,
  (.bipush (-3), 2, [], [], 0, (-3), 0, 7), mm_nop,
  (.ireturn, 1, [], [], 0, 0, 0, 9),
  (.iconst 0, 1, [], [], 0, 0, 0, 10),
  (.istore_n 1, 1, [], [], 1, 0, 0, 11),
  (.iload_n 1, 1, [], [], 1, 0, 0, 12),
  (.aload_n 0, 1, [], [], 0, 0, 0, 13),
  (.getfield 216, 3, [(10, 20)], [[6118]], 0, 0, 0, 14), mm_nop, mm_nop,
  (.if_icmp .ge 126, 3, [(0, 143)], [], 0, 0, 0, 17), mm_nop, mm_nop,
  (.aload_n 0, 1, [], [], 0, 0, 0, 20),
  (.iload_n 1, 1, [], [], 1, 0, 0, 21),
  (.invokevirtual 265, 3, [(10, 200)], [[7202, 7204, 1040, 2015]], 1, 0, 0, 22), mm_nop, mm_nop,
  (.ifCond .eq 112, 3, [(0, 137)], [], 0, 0, 0, 25), mm_nop, mm_nop,
  (.aload_n 0, 1, [], [], 0, 0, 0, 28),
  (.iload_n 1, 1, [], [], 1, 0, 0, 29),
  (.invokevirtual 252, 3, [(10, 194)], [[7154, 7156, 1031, 2015]], 1, 0, 0, 30), mm_nop, mm_nop,
  (.iconst 0, 1, [], [], 0, 0, 0, 33),
  (.istore_n 2, 1, [], [], 2, 0, 0, 34),
  (.iload_n 2, 1, [], [], 2, 0, 0, 35),
  (.aload_n 0, 1, [], [], 0, 0, 0, 36),
  (.getfield 213, 3, [(10, 13)], [[6111]], 0, 0, 0, 37), mm_nop, mm_nop,
  (.if_icmp .ge 97, 3, [(0, 137)], [], 0, 0, 0, 40), mm_nop, mm_nop,
  (.aload_n 0, 1, [], [], 0, 0, 0, 43),
  (.getfield 81, 3, [(10, 25)], [[6123]], 0, 0, 0, 44), mm_nop, mm_nop,
  (.iload_n 2, 1, [], [], 2, 0, 0, 47),
  (.iaload, 1, [], [], 0, 0, 0, 48),
  (.istore_n 3, 1, [], [], 3, 0, 0, 49),
  (.aload_n 0, 1, [], [], 0, 0, 0, 50),
  (.getfield 90, 3, [(10, 28)], [[6126]], 0, 0, 0, 51), mm_nop, mm_nop,
  (.sipush 200, 3, [], [], 0, 200, 0, 54), mm_nop, mm_nop,
  (.iload_n 1, 1, [], [], 1, 0, 0, 57),
  (.imul, 1, [], [], 0, 0, 0, 58),
  (.iload_n 2, 1, [], [], 2, 0, 0, 59),
  (.iadd, 1, [], [], 0, 0, 0, 60),
  (.iload_n 3, 1, [], [], 3, 0, 0, 61),
  (.iconst (-1), 1, [], [], 0, (-1), 0, 62),
  (.if_icmp .ne 7, 3, [(0, 70)], [], 0, 0, 0, 63), mm_nop, mm_nop,
  (.iconst 0, 1, [], [], 0, 0, 0, 66),
  (.goto 9, 3, [(0, 76)], [], 0, 0, 0, 67), mm_nop, mm_nop,
  (.aload_n 0, 1, [], [], 0, 0, 0, 70),
  (.getfield 26, 3, [(10, 5)], [[6103]], 0, 0, 0, 71), mm_nop, mm_nop,
  (.iload_n 3, 1, [], [], 3, 0, 0, 74),
  (.iaload, 1, [], [], 0, 0, 0, 75),
  (.iastore, 1, [], [], 0, 0, 0, 76),
  (.aload_n 0, 1, [], [], 0, 0, 0, 77),
  (.getfield 93, 3, [(10, 29)], [[6127]], 0, 0, 0, 78), mm_nop, mm_nop,
  (.sipush 200, 3, [], [], 0, 200, 0, 81), mm_nop, mm_nop,
  (.iload_n 1, 1, [], [], 1, 0, 0, 84),
  (.imul, 1, [], [], 0, 0, 0, 85),
  (.iload_n 2, 1, [], [], 2, 0, 0, 86),
  (.iadd, 1, [], [], 0, 0, 0, 87),
  (.iload_n 3, 1, [], [], 3, 0, 0, 88),
  (.iconst (-1), 1, [], [], 0, (-1), 0, 89),
  (.if_icmp .ne 7, 3, [(0, 97)], [], 0, 0, 0, 90), mm_nop, mm_nop,
  (.iconst 0, 1, [], [], 0, 0, 0, 93),
  (.goto 9, 3, [(0, 103)], [], 0, 0, 0, 94), mm_nop, mm_nop,
  (.aload_n 0, 1, [], [], 0, 0, 0, 97),
  (.getfield 29, 3, [(10, 6)], [[6104]], 0, 0, 0, 98), mm_nop, mm_nop,
  (.iload_n 3, 1, [], [], 3, 0, 0, 101),
  (.iaload, 1, [], [], 0, 0, 0, 102),
  (.iastore, 1, [], [], 0, 0, 0, 103),
  (.aload_n 0, 1, [], [], 0, 0, 0, 104),
  (.getfield 96, 3, [(10, 30)], [[6128]], 0, 0, 0, 105), mm_nop, mm_nop,
  (.sipush 200, 3, [], [], 0, 200, 0, 108), mm_nop, mm_nop,
  (.iload_n 1, 1, [], [], 1, 0, 0, 111),
  (.imul, 1, [], [], 0, 0, 0, 112),
  (.iload_n 2, 1, [], [], 2, 0, 0, 113),
  (.iadd, 1, [], [], 0, 0, 0, 114),
  (.iload_n 3, 1, [], [], 3, 0, 0, 115),
  (.iconst (-1), 1, [], [], 0, (-1), 0, 116),
  (.if_icmp .ne 7, 3, [(0, 124)], [], 0, 0, 0, 117), mm_nop, mm_nop,
  (.iconst 0, 1, [], [], 0, 0, 0, 120),
  (.goto 9, 3, [(0, 130)], [], 0, 0, 0, 121), mm_nop, mm_nop,
  (.aload_n 0, 1, [], [], 0, 0, 0, 124),
  (.getfield 32, 3, [(10, 7)], [[6105]], 0, 0, 0, 125), mm_nop, mm_nop,
  (.iload_n 3, 1, [], [], 3, 0, 0, 128),
  (.iaload, 1, [], [], 0, 0, 0, 129),
  (.iastore, 1, [], [], 0, 0, 0, 130),
  (.iinc 2 1, 3, [], [], 2, 1, 0, 131), mm_nop, mm_nop,
  (.goto (-99), 3, [(0, 35)], [], 0, 0, 0, 134), mm_nop, mm_nop,
  (.iinc 1 1, 3, [], [], 1, 1, 0, 137), mm_nop, mm_nop,
  (.goto (-128), 3, [(0, 12)], [], 0, 0, 0, 140), mm_nop, mm_nop,
  (.aload_n 0, 1, [], [], 0, 0, 0, 143),
  (.invokevirtual 197, 3, [(10, 167)], [[7076, 7078, 1021, 2015]], 0, 0, 0, 144), mm_nop, mm_nop,
  (.aload_n 0, 1, [], [], 0, 0, 0, 147),
  (.iconst 0, 1, [], [], 0, 0, 0, 148),
  (.putfield 278, 3, [(10, 31)], [[6129]], 0, 0, 0, 149), mm_nop, mm_nop,
  (.aload_n 0, 1, [], [], 0, 0, 0, 152),
  (.iconst 0, 1, [], [], 0, 0, 0, 153),
  (.iconst (-1), 1, [], [], 0, (-1), 0, 154),
  (.iconst (-1), 1, [], [], 0, (-1), 0, 155),
  (.invokevirtual 287, 3, [(10, 206)], [[7219, 7221, 1043, 2015]], 3, 0, 0, 156), mm_nop, mm_nop,
  (.pop, 1, [], [], 0, 0, 0, 159),
  (.iconst 0, 1, [], [], 0, 0, 0, 160),
  (.istore_n 1, 1, [], [], 1, 0, 0, 161),
  (.iload_n 1, 1, [], [], 1, 0, 0, 162),
  (.aload_n 0, 1, [], [], 0, 0, 0, 163),
  (.getfield 278, 3, [(10, 31)], [[6129]], 0, 0, 0, 164), mm_nop, mm_nop,
  (.if_icmp .ge 20, 3, [(0, 187)], [], 0, 0, 0, 167), mm_nop, mm_nop,
  (.aload_n 0, 1, [], [], 0, 0, 0, 170),
  (.iload_n 1, 1, [], [], 1, 0, 0, 171),
  (.invokevirtual 294, 3, [(10, 207)], [[7223, 7225, 1044, 2015]], 1, 0, 0, 172), mm_nop, mm_nop,
  (.ifCond .ne 6, 3, [(0, 181)], [], 0, 0, 0, 175), mm_nop, mm_nop,
  (.bipush (-4), 2, [], [], 0, (-4), 0, 178), mm_nop,
  (.ireturn, 1, [], [], 0, 0, 0, 180),
  (.iinc 1 1, 3, [], [], 1, 1, 0, 181), mm_nop, mm_nop,
  (.goto (-22), 3, [(0, 162)], [], 0, 0, 0, 184), mm_nop, mm_nop,
  (.aload_n 0, 1, [], [], 0, 0, 0, 187),
  (.getfield 278, 3, [(10, 31)], [[6129]], 0, 0, 0, 188), mm_nop, mm_nop,
  (.ireturn, 1, [], [], 0, 0, 0, 191)]
def mm_m208 : mm_M := (yX12_findCopies, cX12_findCopies, 4, (some .int), mm_k208, 0, 0, 0, 7217)
/-- TypeCopierModel.copies.()I -/
def mm_k209 : List mm_E := [
  (.aload_n 0, 1, [], [], 0, 0, 0, 0),
  (.invokevirtual 297, 3, [(10, 208)], [[7214, 7216, 1042, 2015]], 0, 0, 0, 1), mm_nop, mm_nop,
  (.ireturn, 1, [], [], 0, 0, 0, 4)]
def mm_m209 : mm_M := (yX12_copies, cX12_copies, 1, (some .int), mm_k209, 0, 0, 0, 7213)
/-- TypeCopierModel.copy.(II)I -/
def mm_k210 : List mm_E := [
  (.iload_n 2, 1, [], [], 2, 0, 0, 0),
  (.iconst 0, 1, [], [], 0, 0, 0, 1),
  (.iconst 5, 1, [], [], 0, 5, 0, 2),
  (.invokestatic 193, 3, [(0, 164)], [[7069, 7070, 2015]], 3, 0, 0, 3), mm_nop, mm_nop,
  (.ifCond .ne 6, 3, [(0, 12)], [], 0, 0, 0, 6), mm_nop, mm_nop,
  (.bipush (-2), 2, [], [], 0, (-2), 0, 9), mm_nop,
  (.ireturn, 1, [], [], 0, 0, 0, 11),
  (.aload_n 0, 1, [], [], 0, 0, 0, 12),
  (.invokevirtual 297, 3, [(10, 208)], [[7214, 7216, 1042, 2015]], 0, 0, 0, 13), mm_nop, mm_nop,
  (.ifCond .lt 17, 3, [(0, 33)], [], 0, 0, 0, 16), mm_nop, mm_nop,
  (.iload_n 1, 1, [], [], 1, 0, 0, 19),
  (.iconst 0, 1, [], [], 0, 0, 0, 20),
  (.aload_n 0, 1, [], [], 0, 0, 0, 21),
  (.getfield 278, 3, [(10, 31)], [[6129]], 0, 0, 0, 22), mm_nop, mm_nop,
  (.iconst 1, 1, [], [], 0, 1, 0, 25),
  (.isub, 1, [], [], 0, 0, 0, 26),
  (.invokestatic 193, 3, [(0, 164)], [[7069, 7070, 2015]], 3, 0, 0, 27), mm_nop, mm_nop,
  (.ifCond .ne 5, 3, [(0, 35)], [], 0, 0, 0, 30), mm_nop, mm_nop,
  (.iconst (-1), 1, [], [], 0, (-1), 0, 33),
  (.ireturn, 1, [], [], 0, 0, 0, 34),
  (.aload_n 0, 1, [], [], 0, 0, 0, 35),
  (.getfield 99, 3, [(10, 32)], [[6130]], 0, 0, 0, 36), mm_nop, mm_nop,
  (.iload_n 1, 1, [], [], 1, 0, 0, 39),
  (.iaload, 1, [], [], 0, 0, 0, 40),
  (.istore_n 3, 1, [], [], 3, 0, 0, 41),
  (.iload_n 2, 1, [], [], 2, 0, 0, 42),
  (.tableswitch 143 0 4 #[33, 35, 61, 87, 115], 33, [(0, 186), (0, 76), (1, 78), (2, 104), (3, 130), (4, 158)], [], 0, 0, 0, 43), mm_nop, mm_nop, mm_nop, mm_nop, mm_nop, mm_nop, mm_nop, mm_nop, mm_nop, mm_nop, mm_nop, mm_nop, mm_nop, mm_nop, mm_nop, mm_nop, mm_nop, mm_nop, mm_nop, mm_nop, mm_nop, mm_nop, mm_nop, mm_nop, mm_nop, mm_nop, mm_nop, mm_nop, mm_nop, mm_nop, mm_nop, mm_nop,
  (.iload_n 3, 1, [], [], 3, 0, 0, 76),
  (.ireturn, 1, [], [], 0, 0, 0, 77),
  (.aload_n 0, 1, [], [], 0, 0, 0, 78),
  (.aload_n 0, 1, [], [], 0, 0, 0, 79),
  (.getfield 102, 3, [(10, 33)], [[6131]], 0, 0, 0, 80), mm_nop, mm_nop,
  (.iload_n 1, 1, [], [], 1, 0, 0, 83),
  (.iaload, 1, [], [], 0, 0, 0, 84),
  (.aload_n 0, 1, [], [], 0, 0, 0, 85),
  (.getfield 102, 3, [(10, 33)], [[6131]], 0, 0, 0, 86), mm_nop, mm_nop,
  (.iload_n 1, 1, [], [], 1, 0, 0, 89),
  (.iaload, 1, [], [], 0, 0, 0, 90),
  (.iconst (-1), 1, [], [], 0, (-1), 0, 91),
  (.if_icmp .eq 7, 3, [(0, 99)], [], 0, 0, 0, 92), mm_nop, mm_nop,
  (.iconst 1, 1, [], [], 0, 1, 0, 95),
  (.goto 4, 3, [(0, 100)], [], 0, 0, 0, 96), mm_nop, mm_nop,
  (.iconst 0, 1, [], [], 0, 0, 0, 99),
  (.invokevirtual 255, 3, [(10, 182)], [[7178, 7180, 1037, 2015]], 2, 0, 0, 100), mm_nop, mm_nop,
  (.ireturn, 1, [], [], 0, 0, 0, 103),
  (.aload_n 0, 1, [], [], 0, 0, 0, 104),
  (.aload_n 0, 1, [], [], 0, 0, 0, 105),
  (.getfield 105, 3, [(10, 34)], [[6132]], 0, 0, 0, 106), mm_nop, mm_nop,
  (.iload_n 1, 1, [], [], 1, 0, 0, 109),
  (.iaload, 1, [], [], 0, 0, 0, 110),
  (.aload_n 0, 1, [], [], 0, 0, 0, 111),
  (.getfield 105, 3, [(10, 34)], [[6132]], 0, 0, 0, 112), mm_nop, mm_nop,
  (.iload_n 1, 1, [], [], 1, 0, 0, 115),
  (.iaload, 1, [], [], 0, 0, 0, 116),
  (.iconst (-1), 1, [], [], 0, (-1), 0, 117),
  (.if_icmp .eq 7, 3, [(0, 125)], [], 0, 0, 0, 118), mm_nop, mm_nop,
  (.iconst 1, 1, [], [], 0, 1, 0, 121),
  (.goto 4, 3, [(0, 126)], [], 0, 0, 0, 122), mm_nop, mm_nop,
  (.iconst 0, 1, [], [], 0, 0, 0, 125),
  (.invokevirtual 255, 3, [(10, 182)], [[7178, 7180, 1037, 2015]], 2, 0, 0, 126), mm_nop, mm_nop,
  (.ireturn, 1, [], [], 0, 0, 0, 129),
  (.aload_n 0, 1, [], [], 0, 0, 0, 130),
  (.getfield 35, 3, [(10, 8)], [[6106]], 0, 0, 0, 131), mm_nop, mm_nop,
  (.aload_n 0, 1, [], [], 0, 0, 0, 134),
  (.aload_n 0, 1, [], [], 0, 0, 0, 135),
  (.getfield 72, 3, [(10, 22)], [[6120]], 0, 0, 0, 136), mm_nop, mm_nop,
  (.iload_n 3, 1, [], [], 3, 0, 0, 139),
  (.iaload, 1, [], [], 0, 0, 0, 140),
  (.aload_n 0, 1, [], [], 0, 0, 0, 141),
  (.getfield 102, 3, [(10, 33)], [[6131]], 0, 0, 0, 142), mm_nop, mm_nop,
  (.iload_n 1, 1, [], [], 1, 0, 0, 145),
  (.iaload, 1, [], [], 0, 0, 0, 146),
  (.aload_n 0, 1, [], [], 0, 0, 0, 147),
  (.getfield 105, 3, [(10, 34)], [[6132]], 0, 0, 0, 148), mm_nop, mm_nop,
  (.iload_n 1, 1, [], [], 1, 0, 0, 151),
  (.iaload, 1, [], [], 0, 0, 0, 152),
  (.invokevirtual 239, 3, [(10, 181)], [[7174, 7176, 1036, 2015]], 3, 0, 0, 153), mm_nop, mm_nop,
  (.iaload, 1, [], [], 0, 0, 0, 156),
  (.ireturn, 1, [], [], 0, 0, 0, 157),
  (.aload_n 0, 1, [], [], 0, 0, 0, 158),
  (.getfield 35, 3, [(10, 8)], [[6106]], 0, 0, 0, 159), mm_nop, mm_nop,
  (.aload_n 0, 1, [], [], 0, 0, 0, 162),
  (.aload_n 0, 1, [], [], 0, 0, 0, 163),
  (.getfield 75, 3, [(10, 23)], [[6121]], 0, 0, 0, 164), mm_nop, mm_nop,
  (.iload_n 3, 1, [], [], 3, 0, 0, 167),
  (.iaload, 1, [], [], 0, 0, 0, 168),
  (.aload_n 0, 1, [], [], 0, 0, 0, 169),
  (.getfield 102, 3, [(10, 33)], [[6131]], 0, 0, 0, 170), mm_nop, mm_nop,
  (.iload_n 1, 1, [], [], 1, 0, 0, 173),
  (.iaload, 1, [], [], 0, 0, 0, 174),
  (.aload_n 0, 1, [], [], 0, 0, 0, 175),
  (.getfield 105, 3, [(10, 34)], [[6132]], 0, 0, 0, 176), mm_nop, mm_nop,
  (.iload_n 1, 1, [], [], 1, 0, 0, 179),
  (.iaload, 1, [], [], 0, 0, 0, 180),
  (.invokevirtual 239, 3, [(10, 181)], [[7174, 7176, 1036, 2015]], 3, 0, 0, 181), mm_nop, mm_nop,
  (.iaload, 1, [], [], 0, 0, 0, 184),
  (.ireturn, 1, [], [], 0, 0, 0, 185),
  (.aload_n 0, 1, [], [], 0, 0, 0, 186),
  (.aload_n 0, 1, [], [], 0, 0, 0, 187),
  (.aload_n 0, 1, [], [], 0, 0, 0, 188),
  (.getfield 72, 3, [(10, 22)], [[6120]], 0, 0, 0, 189), mm_nop, mm_nop,
  (.iload_n 3, 1, [], [], 3, 0, 0, 192),
  (.iaload, 1, [], [], 0, 0, 0, 193),
  (.aload_n 0, 1, [], [], 0, 0, 0, 194),
  (.getfield 102, 3, [(10, 33)], [[6131]], 0, 0, 0, 195), mm_nop, mm_nop,
  (.iload_n 1, 1, [], [], 1, 0, 0, 198),
  (.iaload, 1, [], [], 0, 0, 0, 199),
  (.aload_n 0, 1, [], [], 0, 0, 0, 200),
  (.getfield 105, 3, [(10, 34)], [[6132]], 0, 0, 0, 201), mm_nop, mm_nop,
  (.iload_n 1, 1, [], [], 1, 0, 0, 204),
  (.iaload, 1, [], [], 0, 0, 0, 205),
  (.invokevirtual 239, 3, [(10, 181)], [[7174, 7176, 1036, 2015]], 3, 0, 0, 206), mm_nop, mm_nop,
  (.iconst 1, 1, [], [], 0, 1, 0, 209),
  (.invokevirtual 255, 3, [(10, 182)], [[7178, 7180, 1037, 2015]], 2, 0, 0, 210), mm_nop, mm_nop,
  (.ireturn, 1, [], [], 0, 0, 0, 213)]
def mm_m210 : mm_M := (yX12_copy, cX12_copy, 4, (some .int), mm_k210, 2, 0, 0, 8002)
/-- TypeCopierModel.input.(I)I -/
def mm_k211 : List mm_E := [
  (.aload_n 0, 1, [], [], 0, 0, 0, 0),
  (.getfield 300, 3, [(10, 41)], [[6139]], 0, 0, 0, 1), mm_nop, mm_nop,
  (.bipush 16, 2, [], [], 0, 16, 0, 4), mm_nop,
  (.if_icmp .ne 6, 3, [(0, 12)], [], 0, 0, 0, 6), mm_nop, mm_nop,
  (.bipush (-4), 2, [], [], 0, (-4), 0, 9), mm_nop,
  (.ireturn, 1, [], [], 0, 0, 0, 11),
  (.aload_n 0, 1, [], [], 0, 0, 0, 12),
  (.getfield 120, 3, [(10, 40)], [[6138]], 0, 0, 0, 13), mm_nop, mm_nop,
  (.aload_n 0, 1, [], [], 0, 0, 0, 16),
  (.getfield 300, 3, [(10, 41)], [[6139]], 0, 0, 0, 17), mm_nop, mm_nop,
  (.iload_n 1, 1, [], [], 1, 0, 0, 20),
  (.iastore, 1, [], [], 0, 0, 0, 21),
  (.aload_n 0, 1, [], [], 0, 0, 0, 22),
  (.dup, 1, [], [], 0, 0, 0, 23),
  (.getfield 300, 3, [(10, 41)], [[6139]], 0, 0, 0, 24), mm_nop, mm_nop,
  (.iconst 1, 1, [], [], 0, 1, 0, 27),
  (.iadd, 1, [], [], 0, 0, 0, 28),
  (.putfield 300, 3, [(10, 41)], [[6139]], 0, 0, 0, 29), mm_nop, mm_nop,
  (.aload_n 0, 1, [], [], 0, 0, 0, 32),
  (.getfield 300, 3, [(10, 41)], [[6139]], 0, 0, 0, 33), mm_nop, mm_nop,
  (.ireturn, 1, [], [], 0, 0, 0, 36)]
def mm_m211 : mm_M := (yX12_input, cX12_input, 2, (some .int), mm_k211, 1, 0, 0, 8006)
/-- TypeCopierModel.empty.()I -/
def mm_k212 : List mm_E := [
  (.aload_n 0, 1, [], [], 0, 0, 0, 0),
  (.getfield 300, 3, [(10, 41)], [[6139]], 0, 0, 0, 1), mm_nop, mm_nop,
  (.istore_n 1, 1, [], [], 1, 0, 0, 4),
  (.aload_n 0, 1, [], [], 0, 0, 0, 5),
  (.iconst 0, 1, [], [], 0, 0, 0, 6),
  (.putfield 300, 3, [(10, 41)], [[6139]], 0, 0, 0, 7), mm_nop, mm_nop,
  (.iload_n 1, 1, [], [], 1, 0, 0, 10),
  (.ireturn, 1, [], [], 0, 0, 0, 11)]
def mm_m212 : mm_M := (yX12_empty, cX12_empty, 2, (some .int), mm_k212, 0, 0, 0, 8010)
/-- TypeCopierModel.cell.(II)I -/
def mm_k213 : List mm_E := [
  (.aload_n 0, 1, [], [], 0, 0, 0, 0),
  (.getfield 123, 3, [(10, 44)], [[6142]], 0, 0, 0, 1), mm_nop, mm_nop,
  (.aload_n 0, 1, [], [], 0, 0, 0, 4),
  (.getfield 303, 3, [(10, 43)], [[6141]], 0, 0, 0, 5), mm_nop, mm_nop,
  (.iload_n 1, 1, [], [], 1, 0, 0, 8),
  (.iastore, 1, [], [], 0, 0, 0, 9),
  (.aload_n 0, 1, [], [], 0, 0, 0, 10),
  (.getfield 126, 3, [(10, 45)], [[6143]], 0, 0, 0, 11), mm_nop, mm_nop,
  (.aload_n 0, 1, [], [], 0, 0, 0, 14),
  (.getfield 303, 3, [(10, 43)], [[6141]], 0, 0, 0, 15), mm_nop, mm_nop,
  (.iload_n 2, 1, [], [], 2, 0, 0, 18),
  (.iastore, 1, [], [], 0, 0, 0, 19),
  (.aload_n 0, 1, [], [], 0, 0, 0, 20),
  (.dup, 1, [], [], 0, 0, 0, 21),
  (.getfield 303, 3, [(10, 43)], [[6141]], 0, 0, 0, 22), mm_nop, mm_nop,
  (.iconst 1, 1, [], [], 0, 1, 0, 25),
  (.iadd, 1, [], [], 0, 0, 0, 26),
  (.putfield 303, 3, [(10, 43)], [[6141]], 0, 0, 0, 27), mm_nop, mm_nop,
  (.aload_n 0, 1, [], [], 0, 0, 0, 30),
  (.getfield 303, 3, [(10, 43)], [[6141]], 0, 0, 0, 31), mm_nop, mm_nop,
  (.iconst 1, 1, [], [], 0, 1, 0, 34),
  (.isub, 1, [], [], 0, 0, 0, 35),
  (.ireturn, 1, [], [], 0, 0, 0, 36)]
def mm_m213 : mm_M := (yX12_cell, cX12_cell, 3, (some .int), mm_k213, 2, 0, 0, 8038)
/-- TypeCopierModel.nextInput.()I -/
def mm_k214 : List mm_E := [
  (.aload_n 0, 1, [], [], 0, 0, 0, 0),
  (.getfield 306, 3, [(10, 42)], [[6140]], 0, 0, 0, 1), mm_nop, mm_nop,
  (.aload_n 0, 1, [], [], 0, 0, 0, 4),
  (.getfield 300, 3, [(10, 41)], [[6139]], 0, 0, 0, 5), mm_nop, mm_nop,
  (.if_icmp .ge 15, 3, [(0, 23)], [], 0, 0, 0, 8), mm_nop, mm_nop,
  (.aload_n 0, 1, [], [], 0, 0, 0, 11),
  (.getfield 120, 3, [(10, 40)], [[6138]], 0, 0, 0, 12), mm_nop, mm_nop,
  (.aload_n 0, 1, [], [], 0, 0, 0, 15),
  (.getfield 306, 3, [(10, 42)], [[6140]], 0, 0, 0, 16), mm_nop, mm_nop,
  (.iaload, 1, [], [], 0, 0, 0, 19),
  (.goto 4, 3, [(0, 24)], [], 0, 0, 0, 20), mm_nop, mm_nop,
  (.iconst 0, 1, [], [], 0, 0, 0, 23),
  (.istore_n 1, 1, [], [], 1, 0, 0, 24),
  (.aload_n 0, 1, [], [], 0, 0, 0, 25),
  (.dup, 1, [], [], 0, 0, 0, 26),
  (.getfield 306, 3, [(10, 42)], [[6140]], 0, 0, 0, 27), mm_nop, mm_nop,
  (.iconst 1, 1, [], [], 0, 1, 0, 30),
  (.iadd, 1, [], [], 0, 0, 0, 31),
  (.putfield 306, 3, [(10, 42)], [[6140]], 0, 0, 0, 32), mm_nop, mm_nop,
  (.iload_n 1, 1, [], [], 1, 0, 0, 35),
  (.ireturn, 1, [], [], 0, 0, 0, 36)]
def mm_m214 : mm_M := (yX12_nextInput, cX12_nextInput, 2, (some .int), mm_k214, 0, 0, 0, 8030)
/-- TypeCopierModel.beginRead.(II)V -/
def mm_k215 : List mm_E := [
  (.aload_n 0, 1, [], [], 0, 0, 0, 0),
  (.getfield 135, 3, [(10, 53)], [[6151]], 0, 0, 0, 1), mm_nop, mm_nop,
  (.iload_n 1, 1, [], [], 1, 0, 0, 4),
  (.iload_n 2, 1, [], [], 2, 0, 0, 5),
  (.iastore, 1, [], [], 0, 0, 0, 6),
  (.aload_n 0, 1, [], [], 0, 0, 0, 7),
  (.getfield 141, 3, [(10, 55)], [[6153]], 0, 0, 0, 8), mm_nop, mm_nop,
  (.iload_n 1, 1, [], [], 1, 0, 0, 11),
  (.iconst 0, 1, [], [], 0, 0, 0, 12),
  (.iastore, 1, [], [], 0, 0, 0, 13),
  (.aload_n 0, 1, [], [], 0, 0, 0, 14),
  (.getfield 16, 3, [(10, 2)], [[6100]], 0, 0, 0, 15), mm_nop, mm_nop,
  (.iload_n 2, 1, [], [], 2, 0, 0, 18),
  (.iaload, 1, [], [], 0, 0, 0, 19),
  (.iconst 4, 1, [], [], 0, 4, 0, 20),
  (.if_icmp .ne 7, 3, [(0, 28)], [], 0, 0, 0, 21), mm_nop, mm_nop,
  (.iconst 2, 1, [], [], 0, 2, 0, 24),
  (.goto 21, 3, [(0, 46)], [], 0, 0, 0, 25), mm_nop, mm_nop,
  (.aload_n 0, 1, [], [], 0, 0, 0, 28),
  (.getfield 16, 3, [(10, 2)], [[6100]], 0, 0, 0, 29), mm_nop, mm_nop,
  (.iload_n 2, 1, [], [], 2, 0, 0, 32),
  (.iaload, 1, [], [], 0, 0, 0, 33),
  (.iconst 5, 1, [], [], 0, 5, 0, 34),
  (.if_icmp .ne 10, 3, [(0, 45)], [], 0, 0, 0, 35), mm_nop, mm_nop,
  (.aload_n 0, 1, [], [], 0, 0, 0, 38),
  (.invokevirtual 309, 3, [(10, 214)], [[8027, 8029, 1051, 2015]], 0, 0, 0, 39), mm_nop, mm_nop,
  (.goto 4, 3, [(0, 46)], [], 0, 0, 0, 42), mm_nop, mm_nop,
  (.iconst 0, 1, [], [], 0, 0, 0, 45),
  (.istore_n 3, 1, [], [], 3, 0, 0, 46),
  (.aload_n 0, 1, [], [], 0, 0, 0, 47),
  (.getfield 138, 3, [(10, 54)], [[6152]], 0, 0, 0, 48), mm_nop, mm_nop,
  (.iload_n 1, 1, [], [], 1, 0, 0, 51),
  (.iload_n 3, 1, [], [], 3, 0, 0, 52),
  (.ifCond .ge 7, 3, [(0, 60)], [], 0, 0, 0, 53), mm_nop, mm_nop,
  (.iconst 0, 1, [], [], 0, 0, 0, 56),
  (.goto 13, 3, [(0, 70)], [], 0, 0, 0, 57), mm_nop, mm_nop,
  (.iload_n 3, 1, [], [], 3, 0, 0, 60),
  (.iconst 4, 1, [], [], 0, 4, 0, 61),
  (.if_icmp .le 7, 3, [(0, 69)], [], 0, 0, 0, 62), mm_nop, mm_nop,
  (.iconst 4, 1, [], [], 0, 4, 0, 65),
  (.goto 4, 3, [(0, 70)], [], 0, 0, 0, 66), mm_nop, mm_nop,
  (.iload_n 3, 1, [], [], 3, 0, 0, 69),
  (.iastore, 1, [], [], 0, 0, 0, 70),
  (.return_, 1, [], [], 0, 0, 0, 71)]
def mm_m215 : mm_M := (yX12_beginRead, cX12_beginRead, 4, none, mm_k215, 2, 0, 0, 8026)
/-- TypeCopierModel.endRead.(I)I -/
def mm_k216 : List mm_E := [
  (.aload_n 0, 1, [], [], 0, 0, 0, 0),
  (.getfield 135, 3, [(10, 53)], [[6151]], 0, 0, 0, 1), mm_nop, mm_nop,
  (.iload_n 1, 1, [], [], 1, 0, 0, 4),
  (.iaload, 1, [], [], 0, 0, 0, 5),
  (.istore_n 2, 1, [], [], 2, 0, 0, 6),
  (.aload_n 0, 1, [], [], 0, 0, 0, 7),
  (.getfield 16, 3, [(10, 2)], [[6100]], 0, 0, 0, 8), mm_nop, mm_nop,
  (.iload_n 2, 1, [], [], 2, 0, 0, 11),
  (.iaload, 1, [], [], 0, 0, 0, 12),
  (.ifCond .ne 8, 3, [(0, 21)], [], 0, 0, 0, 13), mm_nop, mm_nop,
  (.aload_n 0, 1, [], [], 0, 0, 0, 16),
  (.invokevirtual 309, 3, [(10, 214)], [[8027, 8029, 1051, 2015]], 0, 0, 0, 17), mm_nop, mm_nop,
  (.ireturn, 1, [], [], 0, 0, 0, 20),
  (.aload_n 0, 1, [], [], 0, 0, 0, 21),
  (.getfield 16, 3, [(10, 2)], [[6100]], 0, 0, 0, 22), mm_nop, mm_nop,
  (.iload_n 2, 1, [], [], 2, 0, 0, 25),
  (.iaload, 1, [], [], 0, 0, 0, 26),
  (.iconst 1, 1, [], [], 0, 1, 0, 27),
  (.if_icmp .ne 16, 3, [(0, 44)], [], 0, 0, 0, 28), mm_nop, mm_nop,
  (.aload_n 0, 1, [], [], 0, 0, 0, 31),
  (.invokevirtual 309, 3, [(10, 214)], [[8027, 8029, 1051, 2015]], 0, 0, 0, 32), mm_nop, mm_nop,
  (.ifCond .eq 7, 3, [(0, 42)], [], 0, 0, 0, 35), mm_nop, mm_nop,
  (.iconst 1, 1, [], [], 0, 1, 0, 38),
  (.goto 4, 3, [(0, 43)], [], 0, 0, 0, 39), mm_nop, mm_nop,
  (.iconst 0, 1, [], [], 0, 0, 0, 42),
  (.ireturn, 1, [], [], 0, 0, 0, 43),
  (.aload_n 0, 1, [], [], 0, 0, 0, 44),
  (.getfield 16, 3, [(10, 2)], [[6100]], 0, 0, 0, 45), mm_nop, mm_nop,
  (.iload_n 2, 1, [], [], 2, 0, 0, 48),
  (.iaload, 1, [], [], 0, 0, 0, 49),
  (.iconst 4, 1, [], [], 0, 4, 0, 50),
  (.if_icmp .ne 26, 3, [(0, 77)], [], 0, 0, 0, 51), mm_nop, mm_nop,
  (.aload_n 0, 1, [], [], 0, 0, 0, 54),
  (.aload_n 0, 1, [], [], 0, 0, 0, 55),
  (.getfield 144, 3, [(10, 56)], [[6154]], 0, 0, 0, 56), mm_nop, mm_nop,
  (.iconst 5, 1, [], [], 0, 5, 0, 59),
  (.iload_n 1, 1, [], [], 1, 0, 0, 60),
  (.imul, 1, [], [], 0, 0, 0, 61),
  (.iaload, 1, [], [], 0, 0, 0, 62),
  (.aload_n 0, 1, [], [], 0, 0, 0, 63),
  (.getfield 144, 3, [(10, 56)], [[6154]], 0, 0, 0, 64), mm_nop, mm_nop,
  (.iconst 5, 1, [], [], 0, 5, 0, 67),
  (.iload_n 1, 1, [], [], 1, 0, 0, 68),
  (.imul, 1, [], [], 0, 0, 0, 69),
  (.iconst 1, 1, [], [], 0, 1, 0, 70),
  (.iadd, 1, [], [], 0, 0, 0, 71),
  (.iaload, 1, [], [], 0, 0, 0, 72),
  (.invokevirtual 312, 3, [(10, 213)], [[8035, 8037, 1053, 2015]], 2, 0, 0, 73), mm_nop, mm_nop,
  (.ireturn, 1, [], [], 0, 0, 0, 76),
  (.iconst (-1), 1, [], [], 0, (-1), 0, 77),
  (.istore_n 3, 1, [], [], 3, 0, 0, 78),
  (.aload_n 0, 1, [], [], 0, 0, 0, 79),
  (.getfield 138, 3, [(10, 54)], [[6152]], 0, 0, 0, 80), mm_nop, mm_nop,
  (.iload_n 1, 1, [], [], 1, 0, 0, 83),
  (.iaload, 1, [], [], 0, 0, 0, 84),
  (.iconst 1, 1, [], [], 0, 1, 0, 85),
  (.isub, 1, [], [], 0, 0, 0, 86),
  (.istore 4, 2, [], [], 4, 0, 0, 87), mm_nop,
  (.iload 4, 2, [], [], 4, 0, 0, 89), mm_nop,
  (.ifCond .lt 26, 3, [(0, 117)], [], 0, 0, 0, 91), mm_nop, mm_nop,
  (.aload_n 0, 1, [], [], 0, 0, 0, 94),
  (.aload_n 0, 1, [], [], 0, 0, 0, 95),
  (.getfield 144, 3, [(10, 56)], [[6154]], 0, 0, 0, 96), mm_nop, mm_nop,
  (.iconst 5, 1, [], [], 0, 5, 0, 99),
  (.iload_n 1, 1, [], [], 1, 0, 0, 100),
  (.imul, 1, [], [], 0, 0, 0, 101),
  (.iload 4, 2, [], [], 4, 0, 0, 102), mm_nop,
  (.iadd, 1, [], [], 0, 0, 0, 104),
  (.iaload, 1, [], [], 0, 0, 0, 105),
  (.iload_n 3, 1, [], [], 3, 0, 0, 106),
  (.invokevirtual 312, 3, [(10, 213)], [[8035, 8037, 1053, 2015]], 2, 0, 0, 107), mm_nop, mm_nop,
  (.istore_n 3, 1, [], [], 3, 0, 0, 110),
  (.iinc 4 (-1), 3, [], [], 4, (-1), 0, 111), mm_nop, mm_nop,
  (.goto (-25), 3, [(0, 89)], [], 0, 0, 0, 114), mm_nop, mm_nop,
  (.iload_n 3, 1, [], [], 3, 0, 0, 117),
  (.ireturn, 1, [], [], 0, 0, 0, 118)]
def mm_m216 : mm_M := (yX12_endRead, cX12_endRead, 5, (some .int), mm_k216, 1, 0, 0, 8034)
/-- TypeCopierModel.reads.(I)I -/
def mm_k217 : List mm_E := [
  (.aload_n 0, 1, [], [], 0, 0, 0, 0),
  (.iconst 0, 1, [], [], 0, 0, 0, 1),
  (.putfield 306, 3, [(10, 42)], [[6140]], 0, 0, 0, 2), mm_nop, mm_nop,
  (.iconst 0, 1, [], [], 0, 0, 0, 5),
  (.istore_n 2, 1, [], [], 2, 0, 0, 6),
  (.iconst 0, 1, [], [], 0, 0, 0, 7),
  (.istore_n 3, 1, [], [], 3, 0, 0, 8),
  (.aload_n 0, 1, [], [], 0, 0, 0, 9),
  (.iconst 0, 1, [], [], 0, 0, 0, 10),
  (.iload_n 1, 1, [], [], 1, 0, 0, 11),
  (.invokevirtual 315, 3, [(10, 215)], [[8023, 8025, 1050, 2015]], 2, 0, 0, 12), mm_nop, mm_nop,
  (.iload_n 2, 1, [], [], 2, 0, 0, 15),
  (.ifCond .lt 121, 3, [(0, 137)], [], 0, 0, 0, 16), mm_nop, mm_nop,
  (.aload_n 0, 1, [], [], 0, 0, 0, 19),
  (.getfield 141, 3, [(10, 55)], [[6153]], 0, 0, 0, 20), mm_nop, mm_nop,
  (.iload_n 2, 1, [], [], 2, 0, 0, 23),
  (.iaload, 1, [], [], 0, 0, 0, 24),
  (.aload_n 0, 1, [], [], 0, 0, 0, 25),
  (.getfield 138, 3, [(10, 54)], [[6152]], 0, 0, 0, 26), mm_nop, mm_nop,
  (.iload_n 2, 1, [], [], 2, 0, 0, 29),
  (.iaload, 1, [], [], 0, 0, 0, 30),
  (.if_icmp .ge 64, 3, [(0, 95)], [], 0, 0, 0, 31), mm_nop, mm_nop,
  (.aload_n 0, 1, [], [], 0, 0, 0, 34),
  (.getfield 135, 3, [(10, 53)], [[6151]], 0, 0, 0, 35), mm_nop, mm_nop,
  (.iload_n 2, 1, [], [], 2, 0, 0, 38),
  (.iaload, 1, [], [], 0, 0, 0, 39),
  (.istore 4, 2, [], [], 4, 0, 0, 40), mm_nop,
  (.aload_n 0, 1, [], [], 0, 0, 0, 42),
  (.getfield 16, 3, [(10, 2)], [[6100]], 0, 0, 0, 43), mm_nop, mm_nop,
  (.iload 4, 2, [], [], 4, 0, 0, 46), mm_nop,
  (.iaload, 1, [], [], 0, 0, 0, 48),
  (.iconst 4, 1, [], [], 0, 4, 0, 49),
  (.if_icmp .ne 23, 3, [(0, 73)], [], 0, 0, 0, 50), mm_nop, mm_nop,
  (.aload_n 0, 1, [], [], 0, 0, 0, 53),
  (.getfield 141, 3, [(10, 55)], [[6153]], 0, 0, 0, 54), mm_nop, mm_nop,
  (.iload_n 2, 1, [], [], 2, 0, 0, 57),
  (.iaload, 1, [], [], 0, 0, 0, 58),
  (.iconst 1, 1, [], [], 0, 1, 0, 59),
  (.if_icmp .ne 13, 3, [(0, 73)], [], 0, 0, 0, 60), mm_nop, mm_nop,
  (.aload_n 0, 1, [], [], 0, 0, 0, 63),
  (.getfield 23, 3, [(10, 4)], [[6102]], 0, 0, 0, 64), mm_nop, mm_nop,
  (.iload 4, 2, [], [], 4, 0, 0, 67), mm_nop,
  (.iaload, 1, [], [], 0, 0, 0, 69),
  (.goto 10, 3, [(0, 80)], [], 0, 0, 0, 70), mm_nop, mm_nop,
  (.aload_n 0, 1, [], [], 0, 0, 0, 73),
  (.getfield 20, 3, [(10, 3)], [[6101]], 0, 0, 0, 74), mm_nop, mm_nop,
  (.iload 4, 2, [], [], 4, 0, 0, 77), mm_nop,
  (.iaload, 1, [], [], 0, 0, 0, 79),
  (.istore 5, 2, [], [], 5, 0, 0, 80), mm_nop,
  (.iinc 2 1, 3, [], [], 2, 1, 0, 82), mm_nop, mm_nop,
  (.aload_n 0, 1, [], [], 0, 0, 0, 85),
  (.iload_n 2, 1, [], [], 2, 0, 0, 86),
  (.iload 5, 2, [], [], 5, 0, 0, 87), mm_nop,
  (.invokevirtual 315, 3, [(10, 215)], [[8023, 8025, 1050, 2015]], 2, 0, 0, 89), mm_nop, mm_nop,
  (.goto (-77), 3, [(0, 15)], [], 0, 0, 0, 92), mm_nop, mm_nop,
  (.aload_n 0, 1, [], [], 0, 0, 0, 95),
  (.iload_n 2, 1, [], [], 2, 0, 0, 96),
  (.invokevirtual 319, 3, [(10, 216)], [[8031, 8033, 1052, 2015]], 1, 0, 0, 97), mm_nop, mm_nop,
  (.istore_n 3, 1, [], [], 3, 0, 0, 100),
  (.iinc 2 (-1), 3, [], [], 2, (-1), 0, 101), mm_nop, mm_nop,
  (.iload_n 2, 1, [], [], 2, 0, 0, 104),
  (.ifCond .lt (-90), 3, [(0, 15)], [], 0, 0, 0, 105), mm_nop, mm_nop,
  (.aload_n 0, 1, [], [], 0, 0, 0, 108),
  (.getfield 144, 3, [(10, 56)], [[6154]], 0, 0, 0, 109), mm_nop, mm_nop,
  (.iconst 5, 1, [], [], 0, 5, 0, 112),
  (.iload_n 2, 1, [], [], 2, 0, 0, 113),
  (.imul, 1, [], [], 0, 0, 0, 114),
  (.aload_n 0, 1, [], [], 0, 0, 0, 115),
  (.getfield 141, 3, [(10, 55)], [[6153]], 0, 0, 0, 116), mm_nop, mm_nop,
  (.iload_n 2, 1, [], [], 2, 0, 0, 119),
  (.iaload, 1, [], [], 0, 0, 0, 120),
  (.iadd, 1, [], [], 0, 0, 0, 121),
  (.iload_n 3, 1, [], [], 3, 0, 0, 122),
  (.iastore, 1, [], [], 0, 0, 0, 123),
  (.aload_n 0, 1, [], [], 0, 0, 0, 124),
  (.getfield 141, 3, [(10, 55)], [[6153]], 0, 0, 0, 125), mm_nop, mm_nop,
  (.iload_n 2, 1, [], [], 2, 0, 0, 128),
  (.dup2, 1, [], [], 0, 0, 0, 129),
  (.iaload, 1, [], [], 0, 0, 0, 130),
  (.iconst 1, 1, [], [], 0, 1, 0, 131),
  (.iadd, 1, [], [], 0, 0, 0, 132),
  (.iastore, 1, [], [], 0, 0, 0, 133),
  (.goto (-119), 3, [(0, 15)], [], 0, 0, 0, 134), mm_nop, mm_nop,
  (.iload_n 3, 1, [], [], 3, 0, 0, 137),
  (.ireturn, 1, [], [], 0, 0, 0, 138)]
def mm_m217 : mm_M := (yX12_reads, cX12_reads, 6, (some .int), mm_k217, 1, 0, 0, 8022)
/-- TypeCopierModel.tells.(I)V -/
def mm_k218 : List mm_E := [
  (.aload_n 0, 1, [], [], 0, 0, 0, 0),
  (.getfield 322, 3, [(10, 51)], [[6149]], 0, 0, 0, 1), mm_nop, mm_nop,
  (.bipush 100, 2, [], [], 0, 100, 0, 4), mm_nop,
  (.if_icmp .ge 23, 3, [(0, 29)], [], 0, 0, 0, 6), mm_nop, mm_nop,
  (.aload_n 0, 1, [], [], 0, 0, 0, 9),
  (.getfield 132, 3, [(10, 52)], [[6150]], 0, 0, 0, 10), mm_nop, mm_nop,
  (.aload_n 0, 1, [], [], 0, 0, 0, 13),
  (.getfield 322, 3, [(10, 51)], [[6149]], 0, 0, 0, 14), mm_nop, mm_nop,
  (.iload_n 1, 1, [], [], 1, 0, 0, 17),
  (.iastore, 1, [], [], 0, 0, 0, 18),
  (.aload_n 0, 1, [], [], 0, 0, 0, 19),
  (.dup, 1, [], [], 0, 0, 0, 20),
  (.getfield 322, 3, [(10, 51)], [[6149]], 0, 0, 0, 21), mm_nop, mm_nop,
  (.iconst 1, 1, [], [], 0, 1, 0, 24),
  (.iadd, 1, [], [], 0, 0, 0, 25),
  (.putfield 322, 3, [(10, 51)], [[6149]], 0, 0, 0, 26), mm_nop, mm_nop,
  (.return_, 1, [], [], 0, 0, 0, 29)]
def mm_m218 : mm_M := (yX12_tells, cX12_tells, 2, none, mm_k218, 1, 0, 0, 8074)
/-- TypeCopierModel.lengthOf.(I)I -/
def mm_k219 : List mm_E := [
  (.iconst 0, 1, [], [], 0, 0, 0, 0),
  (.istore_n 2, 1, [], [], 2, 0, 0, 1),
  (.iload_n 1, 1, [], [], 1, 0, 0, 2),
  (.istore_n 3, 1, [], [], 3, 0, 0, 3),
  (.iload_n 3, 1, [], [], 3, 0, 0, 4),
  (.iconst (-1), 1, [], [], 0, (-1), 0, 5),
  (.if_icmp .eq 16, 3, [(0, 22)], [], 0, 0, 0, 6), mm_nop, mm_nop,
  (.iinc 2 1, 3, [], [], 2, 1, 0, 9), mm_nop, mm_nop,
  (.aload_n 0, 1, [], [], 0, 0, 0, 12),
  (.getfield 126, 3, [(10, 45)], [[6143]], 0, 0, 0, 13), mm_nop, mm_nop,
  (.iload_n 3, 1, [], [], 3, 0, 0, 16),
  (.iaload, 1, [], [], 0, 0, 0, 17),
  (.istore_n 3, 1, [], [], 3, 0, 0, 18),
  (.goto (-15), 3, [(0, 4)], [], 0, 0, 0, 19), mm_nop, mm_nop,
  (.iload_n 2, 1, [], [], 2, 0, 0, 22),
  (.ireturn, 1, [], [], 0, 0, 0, 23)]
def mm_m219 : mm_M := (yX12_lengthOf, cX12_lengthOf, 4, (some .int), mm_k219, 1, 0, 0, 8078)
/-- TypeCopierModel.tellsAll.(II)V -/
def mm_k220 : List mm_E := [
  (.aload_n 0, 1, [], [], 0, 0, 0, 0),
  (.iconst 0, 1, [], [], 0, 0, 0, 1),
  (.putfield 322, 3, [(10, 51)], [[6149]], 0, 0, 0, 2), mm_nop, mm_nop,
  (.iconst 1, 1, [], [], 0, 1, 0, 5),
  (.istore_n 3, 1, [], [], 3, 0, 0, 6),
  (.aload_n 0, 1, [], [], 0, 0, 0, 7),
  (.getfield 147, 3, [(10, 57)], [[6155]], 0, 0, 0, 8), mm_nop, mm_nop,
  (.iconst 0, 1, [], [], 0, 0, 0, 11),
  (.iload_n 1, 1, [], [], 1, 0, 0, 12),
  (.iastore, 1, [], [], 0, 0, 0, 13),
  (.aload_n 0, 1, [], [], 0, 0, 0, 14),
  (.getfield 150, 3, [(10, 58)], [[6156]], 0, 0, 0, 15), mm_nop, mm_nop,
  (.iconst 0, 1, [], [], 0, 0, 0, 18),
  (.iload_n 2, 1, [], [], 2, 0, 0, 19),
  (.iastore, 1, [], [], 0, 0, 0, 20),
  (.aload_n 0, 1, [], [], 0, 0, 0, 21),
  (.getfield 153, 3, [(10, 59)], [[6157]], 0, 0, 0, 22), mm_nop, mm_nop,
  (.iconst 0, 1, [], [], 0, 0, 0, 25),
  (.iconst 0, 1, [], [], 0, 0, 0, 26),
  (.bastore, 1, [], [], 0, 0, 0, 27),
  (.iload_n 3, 1, [], [], 3, 0, 0, 28),
  (.ifCond .le 224, 3, [(0, 253)], [], 0, 0, 0, 29), mm_nop, mm_nop,
  (.aload_n 0, 1, [], [], 0, 0, 0, 32),
  (.getfield 322, 3, [(10, 51)], [[6149]], 0, 0, 0, 33), mm_nop, mm_nop,
  (.bipush 100, 2, [], [], 0, 100, 0, 36), mm_nop,
  (.if_icmp .ge 215, 3, [(0, 253)], [], 0, 0, 0, 38), mm_nop, mm_nop,
  (.iinc 3 (-1), 3, [], [], 3, (-1), 0, 41), mm_nop, mm_nop,
  (.aload_n 0, 1, [], [], 0, 0, 0, 44),
  (.getfield 147, 3, [(10, 57)], [[6155]], 0, 0, 0, 45), mm_nop, mm_nop,
  (.iload_n 3, 1, [], [], 3, 0, 0, 48),
  (.iaload, 1, [], [], 0, 0, 0, 49),
  (.istore 4, 2, [], [], 4, 0, 0, 50), mm_nop,
  (.aload_n 0, 1, [], [], 0, 0, 0, 52),
  (.getfield 150, 3, [(10, 58)], [[6156]], 0, 0, 0, 53), mm_nop, mm_nop,
  (.iload_n 3, 1, [], [], 3, 0, 0, 56),
  (.iaload, 1, [], [], 0, 0, 0, 57),
  (.istore 5, 2, [], [], 5, 0, 0, 58), mm_nop,
  (.aload_n 0, 1, [], [], 0, 0, 0, 60),
  (.getfield 16, 3, [(10, 2)], [[6100]], 0, 0, 0, 61), mm_nop, mm_nop,
  (.iload 4, 2, [], [], 4, 0, 0, 64), mm_nop,
  (.iaload, 1, [], [], 0, 0, 0, 66),
  (.iconst 2, 1, [], [], 0, 2, 0, 67),
  (.if_icmp .ge 12, 3, [(0, 80)], [], 0, 0, 0, 68), mm_nop, mm_nop,
  (.aload_n 0, 1, [], [], 0, 0, 0, 71),
  (.iload 5, 2, [], [], 5, 0, 0, 72), mm_nop,
  (.invokevirtual 325, 3, [(10, 218)], [[8071, 8073, 1062, 2015]], 1, 0, 0, 74), mm_nop, mm_nop,
  (.goto 173, 3, [(0, 250)], [], 0, 0, 0, 77), mm_nop, mm_nop,
  (.aload_n 0, 1, [], [], 0, 0, 0, 80),
  (.getfield 16, 3, [(10, 2)], [[6100]], 0, 0, 0, 81), mm_nop, mm_nop,
  (.iload 4, 2, [], [], 4, 0, 0, 84), mm_nop,
  (.iaload, 1, [], [], 0, 0, 0, 86),
  (.iconst 4, 1, [], [], 0, 4, 0, 87),
  (.if_icmp .ne 78, 3, [(0, 166)], [], 0, 0, 0, 88), mm_nop, mm_nop,
  (.aload_n 0, 1, [], [], 0, 0, 0, 91),
  (.getfield 147, 3, [(10, 57)], [[6155]], 0, 0, 0, 92), mm_nop, mm_nop,
  (.iload_n 3, 1, [], [], 3, 0, 0, 95),
  (.aload_n 0, 1, [], [], 0, 0, 0, 96),
  (.getfield 23, 3, [(10, 4)], [[6102]], 0, 0, 0, 97), mm_nop, mm_nop,
  (.iload 4, 2, [], [], 4, 0, 0, 100), mm_nop,
  (.iaload, 1, [], [], 0, 0, 0, 102),
  (.iastore, 1, [], [], 0, 0, 0, 103),
  (.aload_n 0, 1, [], [], 0, 0, 0, 104),
  (.getfield 150, 3, [(10, 58)], [[6156]], 0, 0, 0, 105), mm_nop, mm_nop,
  (.iload_n 3, 1, [], [], 3, 0, 0, 108),
  (.aload_n 0, 1, [], [], 0, 0, 0, 109),
  (.getfield 126, 3, [(10, 45)], [[6143]], 0, 0, 0, 110), mm_nop, mm_nop,
  (.iload 5, 2, [], [], 5, 0, 0, 113), mm_nop,
  (.iaload, 1, [], [], 0, 0, 0, 115),
  (.iastore, 1, [], [], 0, 0, 0, 116),
  (.aload_n 0, 1, [], [], 0, 0, 0, 117),
  (.getfield 153, 3, [(10, 59)], [[6157]], 0, 0, 0, 118), mm_nop, mm_nop,
  (.iload_n 3, 1, [], [], 3, 0, 0, 121),
  (.iconst 0, 1, [], [], 0, 0, 0, 122),
  (.bastore, 1, [], [], 0, 0, 0, 123),
  (.iinc 3 1, 3, [], [], 3, 1, 0, 124), mm_nop, mm_nop,
  (.aload_n 0, 1, [], [], 0, 0, 0, 127),
  (.getfield 147, 3, [(10, 57)], [[6155]], 0, 0, 0, 128), mm_nop, mm_nop,
  (.iload_n 3, 1, [], [], 3, 0, 0, 131),
  (.aload_n 0, 1, [], [], 0, 0, 0, 132),
  (.getfield 20, 3, [(10, 3)], [[6101]], 0, 0, 0, 133), mm_nop, mm_nop,
  (.iload 4, 2, [], [], 4, 0, 0, 136), mm_nop,
  (.iaload, 1, [], [], 0, 0, 0, 138),
  (.iastore, 1, [], [], 0, 0, 0, 139),
  (.aload_n 0, 1, [], [], 0, 0, 0, 140),
  (.getfield 150, 3, [(10, 58)], [[6156]], 0, 0, 0, 141), mm_nop, mm_nop,
  (.iload_n 3, 1, [], [], 3, 0, 0, 144),
  (.aload_n 0, 1, [], [], 0, 0, 0, 145),
  (.getfield 123, 3, [(10, 44)], [[6142]], 0, 0, 0, 146), mm_nop, mm_nop,
  (.iload 5, 2, [], [], 5, 0, 0, 149), mm_nop,
  (.iaload, 1, [], [], 0, 0, 0, 151),
  (.iastore, 1, [], [], 0, 0, 0, 152),
  (.aload_n 0, 1, [], [], 0, 0, 0, 153),
  (.getfield 153, 3, [(10, 59)], [[6157]], 0, 0, 0, 154), mm_nop, mm_nop,
  (.iload_n 3, 1, [], [], 3, 0, 0, 157),
  (.iconst 0, 1, [], [], 0, 0, 0, 158),
  (.bastore, 1, [], [], 0, 0, 0, 159),
  (.iinc 3 1, 3, [], [], 3, 1, 0, 160), mm_nop, mm_nop,
  (.goto 87, 3, [(0, 250)], [], 0, 0, 0, 163), mm_nop, mm_nop,
  (.aload_n 0, 1, [], [], 0, 0, 0, 166),
  (.getfield 153, 3, [(10, 59)], [[6157]], 0, 0, 0, 167), mm_nop, mm_nop,
  (.iload_n 3, 1, [], [], 3, 0, 0, 170),
  (.baload, 1, [], [], 0, 0, 0, 171),
  (.ifCond .ne 13, 3, [(0, 185)], [], 0, 0, 0, 172), mm_nop, mm_nop,
  (.aload_n 0, 1, [], [], 0, 0, 0, 175),
  (.aload_n 0, 1, [], [], 0, 0, 0, 176),
  (.iload 5, 2, [], [], 5, 0, 0, 177), mm_nop,
  (.invokevirtual 328, 3, [(10, 219)], [[8075, 8077, 1063, 2015]], 1, 0, 0, 179), mm_nop, mm_nop,
  (.invokevirtual 325, 3, [(10, 218)], [[8071, 8073, 1062, 2015]], 1, 0, 0, 182), mm_nop, mm_nop,
  (.iload 5, 2, [], [], 5, 0, 0, 185), mm_nop,
  (.iconst (-1), 1, [], [], 0, (-1), 0, 187),
  (.if_icmp .eq 62, 3, [(0, 250)], [], 0, 0, 0, 188), mm_nop, mm_nop,
  (.aload_n 0, 1, [], [], 0, 0, 0, 191),
  (.getfield 150, 3, [(10, 58)], [[6156]], 0, 0, 0, 192), mm_nop, mm_nop,
  (.iload_n 3, 1, [], [], 3, 0, 0, 195),
  (.aload_n 0, 1, [], [], 0, 0, 0, 196),
  (.getfield 126, 3, [(10, 45)], [[6143]], 0, 0, 0, 197), mm_nop, mm_nop,
  (.iload 5, 2, [], [], 5, 0, 0, 200), mm_nop,
  (.iaload, 1, [], [], 0, 0, 0, 202),
  (.iastore, 1, [], [], 0, 0, 0, 203),
  (.aload_n 0, 1, [], [], 0, 0, 0, 204),
  (.getfield 153, 3, [(10, 59)], [[6157]], 0, 0, 0, 205), mm_nop, mm_nop,
  (.iload_n 3, 1, [], [], 3, 0, 0, 208),
  (.iconst 1, 1, [], [], 0, 1, 0, 209),
  (.bastore, 1, [], [], 0, 0, 0, 210),
  (.iinc 3 1, 3, [], [], 3, 1, 0, 211), mm_nop, mm_nop,
  (.aload_n 0, 1, [], [], 0, 0, 0, 214),
  (.getfield 147, 3, [(10, 57)], [[6155]], 0, 0, 0, 215), mm_nop, mm_nop,
  (.iload_n 3, 1, [], [], 3, 0, 0, 218),
  (.aload_n 0, 1, [], [], 0, 0, 0, 219),
  (.getfield 20, 3, [(10, 3)], [[6101]], 0, 0, 0, 220), mm_nop, mm_nop,
  (.iload 4, 2, [], [], 4, 0, 0, 223), mm_nop,
  (.iaload, 1, [], [], 0, 0, 0, 225),
  (.iastore, 1, [], [], 0, 0, 0, 226),
  (.aload_n 0, 1, [], [], 0, 0, 0, 227),
  (.getfield 150, 3, [(10, 58)], [[6156]], 0, 0, 0, 228), mm_nop, mm_nop,
  (.iload_n 3, 1, [], [], 3, 0, 0, 231),
  (.aload_n 0, 1, [], [], 0, 0, 0, 232),
  (.getfield 123, 3, [(10, 44)], [[6142]], 0, 0, 0, 233), mm_nop, mm_nop,
  (.iload 5, 2, [], [], 5, 0, 0, 236), mm_nop,
  (.iaload, 1, [], [], 0, 0, 0, 238),
  (.iastore, 1, [], [], 0, 0, 0, 239),
  (.aload_n 0, 1, [], [], 0, 0, 0, 240),
  (.getfield 153, 3, [(10, 59)], [[6157]], 0, 0, 0, 241), mm_nop, mm_nop,
  (.iload_n 3, 1, [], [], 3, 0, 0, 244),
  (.iconst 0, 1, [], [], 0, 0, 0, 245),
  (.bastore, 1, [], [], 0, 0, 0, 246),
  (.iinc 3 1, 3, [], [], 3, 1, 0, 247), mm_nop, mm_nop,
  (.goto (-222), 3, [(0, 28)], [], 0, 0, 0, 250), mm_nop, mm_nop,
  (.return_, 1, [], [], 0, 0, 0, 253)]
def mm_m220 : mm_M := (yX12_tellsAll, cX12_tellsAll, 6, none, mm_k220, 2, 0, 0, 8070)
/-- TypeCopierModel.begin.(I)V -/
def mm_k221 : List mm_E := [
  (.aload_n 0, 1, [], [], 0, 0, 0, 0),
  (.getfield 156, 3, [(10, 60)], [[6158]], 0, 0, 0, 1), mm_nop, mm_nop,
  (.aload_n 0, 1, [], [], 0, 0, 0, 4),
  (.getfield 331, 3, [(10, 62)], [[6160]], 0, 0, 0, 5), mm_nop, mm_nop,
  (.iload_n 1, 1, [], [], 1, 0, 0, 8),
  (.iastore, 1, [], [], 0, 0, 0, 9),
  (.aload_n 0, 1, [], [], 0, 0, 0, 10),
  (.getfield 159, 3, [(10, 61)], [[6159]], 0, 0, 0, 11), mm_nop, mm_nop,
  (.aload_n 0, 1, [], [], 0, 0, 0, 14),
  (.getfield 331, 3, [(10, 62)], [[6160]], 0, 0, 0, 15), mm_nop, mm_nop,
  (.iconst 0, 1, [], [], 0, 0, 0, 18),
  (.iastore, 1, [], [], 0, 0, 0, 19),
  (.aload_n 0, 1, [], [], 0, 0, 0, 20),
  (.dup, 1, [], [], 0, 0, 0, 21),
  (.getfield 331, 3, [(10, 62)], [[6160]], 0, 0, 0, 22), mm_nop, mm_nop,
  (.iconst 1, 1, [], [], 0, 1, 0, 25),
  (.iadd, 1, [], [], 0, 0, 0, 26),
  (.putfield 331, 3, [(10, 62)], [[6160]], 0, 0, 0, 27), mm_nop, mm_nop,
  (.return_, 1, [], [], 0, 0, 0, 30)]
def mm_m221 : mm_M := (yX12_begin, cX12_begin, 2, none, mm_k221, 1, 0, 0, 8046)
/-- TypeCopierModel.gives.(I)V -/
def mm_k222 : List mm_E := [
  (.aload_n 0, 1, [], [], 0, 0, 0, 0),
  (.getfield 162, 3, [(10, 63)], [[6161]], 0, 0, 0, 1), mm_nop, mm_nop,
  (.aload_n 0, 1, [], [], 0, 0, 0, 4),
  (.getfield 334, 3, [(10, 64)], [[6162]], 0, 0, 0, 5), mm_nop, mm_nop,
  (.iload_n 1, 1, [], [], 1, 0, 0, 8),
  (.iastore, 1, [], [], 0, 0, 0, 9),
  (.aload_n 0, 1, [], [], 0, 0, 0, 10),
  (.dup, 1, [], [], 0, 0, 0, 11),
  (.getfield 334, 3, [(10, 64)], [[6162]], 0, 0, 0, 12), mm_nop, mm_nop,
  (.iconst 1, 1, [], [], 0, 1, 0, 15),
  (.iadd, 1, [], [], 0, 0, 0, 16),
  (.putfield 334, 3, [(10, 64)], [[6162]], 0, 0, 0, 17), mm_nop, mm_nop,
  (.aload_n 0, 1, [], [], 0, 0, 0, 20),
  (.dup, 1, [], [], 0, 0, 0, 21),
  (.getfield 331, 3, [(10, 62)], [[6160]], 0, 0, 0, 22), mm_nop, mm_nop,
  (.iconst 1, 1, [], [], 0, 1, 0, 25),
  (.isub, 1, [], [], 0, 0, 0, 26),
  (.putfield 331, 3, [(10, 62)], [[6160]], 0, 0, 0, 27), mm_nop, mm_nop,
  (.return_, 1, [], [], 0, 0, 0, 30)]
def mm_m222 : mm_M := (yX12_gives, cX12_gives, 2, none, mm_k222, 1, 0, 0, 8054)
/-- TypeCopierModel.takes.()I -/
def mm_k223 : List mm_E := [
  (.aload_n 0, 1, [], [], 0, 0, 0, 0),
  (.dup, 1, [], [], 0, 0, 0, 1),
  (.getfield 334, 3, [(10, 64)], [[6162]], 0, 0, 0, 2), mm_nop, mm_nop,
  (.iconst 1, 1, [], [], 0, 1, 0, 5),
  (.isub, 1, [], [], 0, 0, 0, 6),
  (.putfield 334, 3, [(10, 64)], [[6162]], 0, 0, 0, 7), mm_nop, mm_nop,
  (.aload_n 0, 1, [], [], 0, 0, 0, 10),
  (.getfield 162, 3, [(10, 63)], [[6161]], 0, 0, 0, 11), mm_nop, mm_nop,
  (.aload_n 0, 1, [], [], 0, 0, 0, 14),
  (.getfield 334, 3, [(10, 64)], [[6162]], 0, 0, 0, 15), mm_nop, mm_nop,
  (.iaload, 1, [], [], 0, 0, 0, 18),
  (.ireturn, 1, [], [], 0, 0, 0, 19)]
def mm_m223 : mm_M := (yX12_takes, cX12_takes, 1, (some .int), mm_k223, 0, 0, 0, 8062)
/-- TypeCopierModel.calls.(II)Z -/
def mm_k224 : List mm_E := [
  (.aload_n 0, 1, [], [], 0, 0, 0, 0),
  (.getfield 337, 3, [(10, 66)], [[6164]], 0, 0, 0, 1), mm_nop, mm_nop,
  (.bipush 30, 2, [], [], 0, 30, 0, 4), mm_nop,
  (.if_icmp .ne 5, 3, [(0, 11)], [], 0, 0, 0, 6), mm_nop, mm_nop,
  (.iconst 0, 1, [], [], 0, 0, 0, 9),
  (.ireturn, 1, [], [], 0, 0, 0, 10),
  (.aload_n 0, 1, [], [], 0, 0, 0, 11),
  (.getfield 165, 3, [(10, 65)], [[6163]], 0, 0, 0, 12), mm_nop, mm_nop,
  (.aload_n 0, 1, [], [], 0, 0, 0, 15),
  (.getfield 337, 3, [(10, 66)], [[6164]], 0, 0, 0, 16), mm_nop, mm_nop,
  (.iload_n 2, 1, [], [], 2, 0, 0, 19),
  (.iastore, 1, [], [], 0, 0, 0, 20),
  (.aload_n 0, 1, [], [], 0, 0, 0, 21),
  (.dup, 1, [], [], 0, 0, 0, 22),
  (.getfield 337, 3, [(10, 66)], [[6164]], 0, 0, 0, 23), mm_nop, mm_nop,
  (.iconst 1, 1, [], [], 0, 1, 0, 26),
  (.iadd, 1, [], [], 0, 0, 0, 27),
  (.putfield 337, 3, [(10, 66)], [[6164]], 0, 0, 0, 28), mm_nop, mm_nop,
  (.aload_n 0, 1, [], [], 0, 0, 0, 31),
  (.aload_n 0, 1, [], [], 0, 0, 0, 32),
  (.getfield 337, 3, [(10, 66)], [[6164]], 0, 0, 0, 33), mm_nop, mm_nop,
  (.aload_n 0, 1, [], [], 0, 0, 0, 36),
  (.getfield 340, 3, [(10, 50)], [[6148]], 0, 0, 0, 37), mm_nop, mm_nop,
  (.invokestatic 178, 3, [(0, 170)], [[7093, 7094, 2015]], 2, 0, 0, 40), mm_nop, mm_nop,
  (.putfield 340, 3, [(10, 50)], [[6148]], 0, 0, 0, 43), mm_nop, mm_nop,
  (.aload_n 0, 1, [], [], 0, 0, 0, 46),
  (.aload_n 0, 1, [], [], 0, 0, 0, 47),
  (.getfield 78, 3, [(10, 24)], [[6122]], 0, 0, 0, 48), mm_nop, mm_nop,
  (.iload_n 1, 1, [], [], 1, 0, 0, 51),
  (.iaload, 1, [], [], 0, 0, 0, 52),
  (.invokevirtual 343, 3, [(10, 221)], [[8043, 8045, 1055, 2015]], 1, 0, 0, 53), mm_nop, mm_nop,
  (.iconst 1, 1, [], [], 0, 1, 0, 56),
  (.ireturn, 1, [], [], 0, 0, 0, 57)]
def mm_m224 : mm_M := (yX12_calls, cX12_calls, 3, (some .boolean), mm_k224, 2, 0, 0, 8042)
/-- TypeCopierModel.begins.(I)I -/
def mm_k225 : List mm_E := [
  (.aload_n 0, 1, [], [], 0, 0, 0, 0),
  (.getfield 346, 3, [(10, 48)], [[6146]], 0, 0, 0, 1), mm_nop, mm_nop,
  (.sipush 600, 3, [], [], 0, 600, 0, 4), mm_nop, mm_nop,
  (.if_icmp .ne 5, 3, [(0, 12)], [], 0, 0, 0, 7), mm_nop, mm_nop,
  (.iconst 2, 1, [], [], 0, 2, 0, 10),
  (.ireturn, 1, [], [], 0, 0, 0, 11),
  (.aload_n 0, 1, [], [], 0, 0, 0, 12),
  (.dup, 1, [], [], 0, 0, 0, 13),
  (.getfield 346, 3, [(10, 48)], [[6146]], 0, 0, 0, 14), mm_nop, mm_nop,
  (.iconst 1, 1, [], [], 0, 1, 0, 17),
  (.iadd, 1, [], [], 0, 0, 0, 18),
  (.putfield 346, 3, [(10, 48)], [[6146]], 0, 0, 0, 19), mm_nop, mm_nop,
  (.aload_n 0, 1, [], [], 0, 0, 0, 22),
  (.getfield 51, 3, [(10, 14)], [[6112]], 0, 0, 0, 23), mm_nop, mm_nop,
  (.iload_n 1, 1, [], [], 1, 0, 0, 26),
  (.iaload, 1, [], [], 0, 0, 0, 27),
  (.tableswitch 95 0 9 #[56, 56, 69, 95, 95, 95, 95, 95, 95, 87], 56, [(0, 123), (0, 84), (1, 84), (2, 97), (3, 123), (4, 123), (5, 123), (6, 123), (7, 123), (8, 123), (9, 115)], [], 0, 0, 0, 28), mm_nop, mm_nop, mm_nop, mm_nop, mm_nop, mm_nop, mm_nop, mm_nop, mm_nop, mm_nop, mm_nop, mm_nop, mm_nop, mm_nop, mm_nop, mm_nop, mm_nop, mm_nop, mm_nop, mm_nop, mm_nop, mm_nop, mm_nop, mm_nop, mm_nop, mm_nop, mm_nop, mm_nop, mm_nop, mm_nop, mm_nop, mm_nop, mm_nop, mm_nop, mm_nop, mm_nop, mm_nop, mm_nop, mm_nop, mm_nop, mm_nop, mm_nop, mm_nop, mm_nop, mm_nop, mm_nop, mm_nop, mm_nop, mm_nop, mm_nop, mm_nop, mm_nop, mm_nop, mm_nop, mm_nop,
  (.aload_n 0, 1, [], [], 0, 0, 0, 84),
  (.aload_n 0, 1, [], [], 0, 0, 0, 85),
  (.getfield 54, 3, [(10, 15)], [[6113]], 0, 0, 0, 86), mm_nop, mm_nop,
  (.iload_n 1, 1, [], [], 1, 0, 0, 89),
  (.iaload, 1, [], [], 0, 0, 0, 90),
  (.invokevirtual 349, 3, [(10, 222)], [[8051, 8053, 1057, 2015]], 1, 0, 0, 91), mm_nop, mm_nop,
  (.goto 51, 3, [(0, 145)], [], 0, 0, 0, 94), mm_nop, mm_nop,
  (.aload_n 0, 1, [], [], 0, 0, 0, 97),
  (.aload_n 0, 1, [], [], 0, 0, 0, 98),
  (.getfield 165, 3, [(10, 65)], [[6163]], 0, 0, 0, 99), mm_nop, mm_nop,
  (.aload_n 0, 1, [], [], 0, 0, 0, 102),
  (.getfield 337, 3, [(10, 66)], [[6164]], 0, 0, 0, 103), mm_nop, mm_nop,
  (.iconst 1, 1, [], [], 0, 1, 0, 106),
  (.isub, 1, [], [], 0, 0, 0, 107),
  (.iaload, 1, [], [], 0, 0, 0, 108),
  (.invokevirtual 349, 3, [(10, 222)], [[8051, 8053, 1057, 2015]], 1, 0, 0, 109), mm_nop, mm_nop,
  (.goto 33, 3, [(0, 145)], [], 0, 0, 0, 112), mm_nop, mm_nop,
  (.aload_n 0, 1, [], [], 0, 0, 0, 115),
  (.iconst (-1), 1, [], [], 0, (-1), 0, 116),
  (.invokevirtual 349, 3, [(10, 222)], [[8051, 8053, 1057, 2015]], 1, 0, 0, 117), mm_nop, mm_nop,
  (.goto 25, 3, [(0, 145)], [], 0, 0, 0, 120), mm_nop, mm_nop,
  (.aload_n 0, 1, [], [], 0, 0, 0, 123),
  (.getfield 159, 3, [(10, 61)], [[6159]], 0, 0, 0, 124), mm_nop, mm_nop,
  (.aload_n 0, 1, [], [], 0, 0, 0, 127),
  (.getfield 331, 3, [(10, 62)], [[6160]], 0, 0, 0, 128), mm_nop, mm_nop,
  (.iconst 1, 1, [], [], 0, 1, 0, 131),
  (.isub, 1, [], [], 0, 0, 0, 132),
  (.iconst 1, 1, [], [], 0, 1, 0, 133),
  (.iastore, 1, [], [], 0, 0, 0, 134),
  (.aload_n 0, 1, [], [], 0, 0, 0, 135),
  (.aload_n 0, 1, [], [], 0, 0, 0, 136),
  (.iload_n 1, 1, [], [], 1, 0, 0, 137),
  (.iconst 0, 1, [], [], 0, 0, 0, 138),
  (.invokevirtual 245, 3, [(10, 186)], [[7158, 7160, 1032, 2015]], 2, 0, 0, 139), mm_nop, mm_nop,
  (.invokevirtual 343, 3, [(10, 221)], [[8043, 8045, 1055, 2015]], 1, 0, 0, 142), mm_nop, mm_nop,
  (.iconst 0, 1, [], [], 0, 0, 0, 145),
  (.ireturn, 1, [], [], 0, 0, 0, 146)]
def mm_m225 : mm_M := (yX12_begins, cX12_begins, 2, (some .int), mm_k225, 1, 0, 0, 8050)
/-- TypeCopierModel.goesOn.(I)I -/
def mm_k226 : List mm_E := [
  (.aload_n 0, 1, [], [], 0, 0, 0, 0),
  (.getfield 51, 3, [(10, 14)], [[6112]], 0, 0, 0, 1), mm_nop, mm_nop,
  (.iload_n 1, 1, [], [], 1, 0, 0, 4),
  (.iaload, 1, [], [], 0, 0, 0, 5),
  (.istore_n 2, 1, [], [], 2, 0, 0, 6),
  (.iload_n 2, 1, [], [], 2, 0, 0, 7),
  (.invokestatic 225, 3, [(0, 185)], [[7131, 7132, 2015]], 1, 0, 0, 8), mm_nop, mm_nop,
  (.iconst 2, 1, [], [], 0, 2, 0, 11),
  (.if_icmp .ne 27, 3, [(0, 39)], [], 0, 0, 0, 12), mm_nop, mm_nop,
  (.aload_n 0, 1, [], [], 0, 0, 0, 15),
  (.getfield 159, 3, [(10, 61)], [[6159]], 0, 0, 0, 16), mm_nop, mm_nop,
  (.aload_n 0, 1, [], [], 0, 0, 0, 19),
  (.getfield 331, 3, [(10, 62)], [[6160]], 0, 0, 0, 20), mm_nop, mm_nop,
  (.iconst 1, 1, [], [], 0, 1, 0, 23),
  (.isub, 1, [], [], 0, 0, 0, 24),
  (.iconst 2, 1, [], [], 0, 2, 0, 25),
  (.iastore, 1, [], [], 0, 0, 0, 26),
  (.aload_n 0, 1, [], [], 0, 0, 0, 27),
  (.aload_n 0, 1, [], [], 0, 0, 0, 28),
  (.getfield 57, 3, [(10, 16)], [[6114]], 0, 0, 0, 29), mm_nop, mm_nop,
  (.iload_n 1, 1, [], [], 1, 0, 0, 32),
  (.iaload, 1, [], [], 0, 0, 0, 33),
  (.invokevirtual 343, 3, [(10, 221)], [[8043, 8045, 1055, 2015]], 1, 0, 0, 34), mm_nop, mm_nop,
  (.iconst 0, 1, [], [], 0, 0, 0, 37),
  (.ireturn, 1, [], [], 0, 0, 0, 38),
  (.aload_n 0, 1, [], [], 0, 0, 0, 39),
  (.invokevirtual 352, 3, [(10, 223)], [[8059, 8061, 1059, 2015]], 0, 0, 0, 40), mm_nop, mm_nop,
  (.istore_n 3, 1, [], [], 3, 0, 0, 43),
  (.iload_n 2, 1, [], [], 2, 0, 0, 44),
  (.tableswitch 163 5 13 #[51, 163, 89, 101, 163, 163, 113, 129, 129], 51, [(0, 208), (5, 96), (6, 208), (7, 134), (8, 146), (9, 208), (10, 208), (11, 158), (12, 174), (13, 174)], [], 0, 0, 0, 45), mm_nop, mm_nop, mm_nop, mm_nop, mm_nop, mm_nop, mm_nop, mm_nop, mm_nop, mm_nop, mm_nop, mm_nop, mm_nop, mm_nop, mm_nop, mm_nop, mm_nop, mm_nop, mm_nop, mm_nop, mm_nop, mm_nop, mm_nop, mm_nop, mm_nop, mm_nop, mm_nop, mm_nop, mm_nop, mm_nop, mm_nop, mm_nop, mm_nop, mm_nop, mm_nop, mm_nop, mm_nop, mm_nop, mm_nop, mm_nop, mm_nop, mm_nop, mm_nop, mm_nop, mm_nop, mm_nop, mm_nop, mm_nop, mm_nop, mm_nop,
  (.aload_n 0, 1, [], [], 0, 0, 0, 96),
  (.getfield 159, 3, [(10, 61)], [[6159]], 0, 0, 0, 97), mm_nop, mm_nop,
  (.aload_n 0, 1, [], [], 0, 0, 0, 100),
  (.getfield 331, 3, [(10, 62)], [[6160]], 0, 0, 0, 101), mm_nop, mm_nop,
  (.iconst 1, 1, [], [], 0, 1, 0, 104),
  (.isub, 1, [], [], 0, 0, 0, 105),
  (.iconst 3, 1, [], [], 0, 3, 0, 106),
  (.iastore, 1, [], [], 0, 0, 0, 107),
  (.aload_n 0, 1, [], [], 0, 0, 0, 108),
  (.iload_n 3, 1, [], [], 3, 0, 0, 109),
  (.iconst 1, 1, [], [], 0, 1, 0, 110),
  (.if_icmp .ne 12, 3, [(0, 123)], [], 0, 0, 0, 111), mm_nop, mm_nop,
  (.aload_n 0, 1, [], [], 0, 0, 0, 114),
  (.getfield 57, 3, [(10, 16)], [[6114]], 0, 0, 0, 115), mm_nop, mm_nop,
  (.iload_n 1, 1, [], [], 1, 0, 0, 118),
  (.iaload, 1, [], [], 0, 0, 0, 119),
  (.goto 9, 3, [(0, 129)], [], 0, 0, 0, 120), mm_nop, mm_nop,
  (.aload_n 0, 1, [], [], 0, 0, 0, 123),
  (.getfield 60, 3, [(10, 17)], [[6115]], 0, 0, 0, 124), mm_nop, mm_nop,
  (.iload_n 1, 1, [], [], 1, 0, 0, 127),
  (.iaload, 1, [], [], 0, 0, 0, 128),
  (.invokevirtual 343, 3, [(10, 221)], [[8043, 8045, 1055, 2015]], 1, 0, 0, 129), mm_nop, mm_nop,
  (.iconst 0, 1, [], [], 0, 0, 0, 132),
  (.ireturn, 1, [], [], 0, 0, 0, 133),
  (.aload_n 0, 1, [], [], 0, 0, 0, 134),
  (.aload_n 0, 1, [], [], 0, 0, 0, 135),
  (.getfield 123, 3, [(10, 44)], [[6142]], 0, 0, 0, 136), mm_nop, mm_nop,
  (.iload_n 3, 1, [], [], 3, 0, 0, 139),
  (.iaload, 1, [], [], 0, 0, 0, 140),
  (.invokevirtual 349, 3, [(10, 222)], [[8051, 8053, 1057, 2015]], 1, 0, 0, 141), mm_nop, mm_nop,
  (.iconst 0, 1, [], [], 0, 0, 0, 144),
  (.ireturn, 1, [], [], 0, 0, 0, 145),
  (.aload_n 0, 1, [], [], 0, 0, 0, 146),
  (.aload_n 0, 1, [], [], 0, 0, 0, 147),
  (.getfield 126, 3, [(10, 45)], [[6143]], 0, 0, 0, 148), mm_nop, mm_nop,
  (.iload_n 3, 1, [], [], 3, 0, 0, 151),
  (.iaload, 1, [], [], 0, 0, 0, 152),
  (.invokevirtual 349, 3, [(10, 222)], [[8051, 8053, 1057, 2015]], 1, 0, 0, 153), mm_nop, mm_nop,
  (.iconst 0, 1, [], [], 0, 0, 0, 156),
  (.ireturn, 1, [], [], 0, 0, 0, 157),
  (.aload_n 0, 1, [], [], 0, 0, 0, 158),
  (.iload_n 3, 1, [], [], 3, 0, 0, 159),
  (.iconst (-1), 1, [], [], 0, (-1), 0, 160),
  (.if_icmp .ne 7, 3, [(0, 168)], [], 0, 0, 0, 161), mm_nop, mm_nop,
  (.iconst 1, 1, [], [], 0, 1, 0, 164),
  (.goto 4, 3, [(0, 169)], [], 0, 0, 0, 165), mm_nop, mm_nop,
  (.iconst 0, 1, [], [], 0, 0, 0, 168),
  (.invokevirtual 349, 3, [(10, 222)], [[8051, 8053, 1057, 2015]], 1, 0, 0, 169), mm_nop, mm_nop,
  (.iconst 0, 1, [], [], 0, 0, 0, 172),
  (.ireturn, 1, [], [], 0, 0, 0, 173),
  (.iload_n 3, 1, [], [], 3, 0, 0, 174),
  (.iconst (-1), 1, [], [], 0, (-1), 0, 175),
  (.if_icmp .ne 5, 3, [(0, 181)], [], 0, 0, 0, 176), mm_nop, mm_nop,
  (.iconst 1, 1, [], [], 0, 1, 0, 179),
  (.ireturn, 1, [], [], 0, 0, 0, 180),
  (.aload_n 0, 1, [], [], 0, 0, 0, 181),
  (.iload_n 2, 1, [], [], 2, 0, 0, 182),
  (.bipush 12, 2, [], [], 0, 12, 0, 183), mm_nop,
  (.if_icmp .ne 12, 3, [(0, 197)], [], 0, 0, 0, 185), mm_nop, mm_nop,
  (.aload_n 0, 1, [], [], 0, 0, 0, 188),
  (.getfield 123, 3, [(10, 44)], [[6142]], 0, 0, 0, 189), mm_nop, mm_nop,
  (.iload_n 3, 1, [], [], 3, 0, 0, 192),
  (.iaload, 1, [], [], 0, 0, 0, 193),
  (.goto 9, 3, [(0, 203)], [], 0, 0, 0, 194), mm_nop, mm_nop,
  (.aload_n 0, 1, [], [], 0, 0, 0, 197),
  (.getfield 126, 3, [(10, 45)], [[6143]], 0, 0, 0, 198), mm_nop, mm_nop,
  (.iload_n 3, 1, [], [], 3, 0, 0, 201),
  (.iaload, 1, [], [], 0, 0, 0, 202),
  (.invokevirtual 349, 3, [(10, 222)], [[8051, 8053, 1057, 2015]], 1, 0, 0, 203), mm_nop, mm_nop,
  (.iconst 0, 1, [], [], 0, 0, 0, 206),
  (.ireturn, 1, [], [], 0, 0, 0, 207),
  (.aload_n 0, 1, [], [], 0, 0, 0, 208),
  (.getfield 159, 3, [(10, 61)], [[6159]], 0, 0, 0, 209), mm_nop, mm_nop,
  (.aload_n 0, 1, [], [], 0, 0, 0, 212),
  (.getfield 331, 3, [(10, 62)], [[6160]], 0, 0, 0, 213), mm_nop, mm_nop,
  (.iconst 1, 1, [], [], 0, 1, 0, 216),
  (.isub, 1, [], [], 0, 0, 0, 217),
  (.iconst 4, 1, [], [], 0, 4, 0, 218),
  (.iastore, 1, [], [], 0, 0, 0, 219),
  (.aload_n 0, 1, [], [], 0, 0, 0, 220),
  (.aload_n 0, 1, [], [], 0, 0, 0, 221),
  (.getfield 54, 3, [(10, 15)], [[6113]], 0, 0, 0, 222), mm_nop, mm_nop,
  (.iload_n 1, 1, [], [], 1, 0, 0, 225),
  (.iaload, 1, [], [], 0, 0, 0, 226),
  (.iload_n 3, 1, [], [], 3, 0, 0, 227),
  (.invokevirtual 355, 3, [(10, 224)], [[8039, 8041, 1054, 2015]], 2, 0, 0, 228), mm_nop, mm_nop,
  (.ifCond .eq 7, 3, [(0, 238)], [], 0, 0, 0, 231), mm_nop, mm_nop,
  (.iconst 0, 1, [], [], 0, 0, 0, 234),
  (.goto 4, 3, [(0, 239)], [], 0, 0, 0, 235), mm_nop, mm_nop,
  (.iconst 3, 1, [], [], 0, 3, 0, 238),
  (.ireturn, 1, [], [], 0, 0, 0, 239)]
def mm_m226 : mm_M := (yX12_goesOn, cX12_goesOn, 4, (some .int), mm_k226, 1, 0, 0, 8058)
/-- TypeCopierModel.both.(I)I -/
def mm_k227 : List mm_E := [
  (.aload_n 0, 1, [], [], 0, 0, 0, 0),
  (.invokevirtual 352, 3, [(10, 223)], [[8059, 8061, 1059, 2015]], 0, 0, 0, 1), mm_nop, mm_nop,
  (.istore_n 2, 1, [], [], 2, 0, 0, 4),
  (.aload_n 0, 1, [], [], 0, 0, 0, 5),
  (.invokevirtual 352, 3, [(10, 223)], [[8059, 8061, 1059, 2015]], 0, 0, 0, 6), mm_nop, mm_nop,
  (.istore_n 3, 1, [], [], 3, 0, 0, 9),
  (.aload_n 0, 1, [], [], 0, 0, 0, 10),
  (.getfield 51, 3, [(10, 14)], [[6112]], 0, 0, 0, 11), mm_nop, mm_nop,
  (.iload_n 1, 1, [], [], 1, 0, 0, 14),
  (.iaload, 1, [], [], 0, 0, 0, 15),
  (.tableswitch 69 3 6 #[32, 41, 69, 57], 32, [(0, 85), (3, 48), (4, 57), (5, 85), (6, 73)], [], 0, 0, 0, 16), mm_nop, mm_nop, mm_nop, mm_nop, mm_nop, mm_nop, mm_nop, mm_nop, mm_nop, mm_nop, mm_nop, mm_nop, mm_nop, mm_nop, mm_nop, mm_nop, mm_nop, mm_nop, mm_nop, mm_nop, mm_nop, mm_nop, mm_nop, mm_nop, mm_nop, mm_nop, mm_nop, mm_nop, mm_nop, mm_nop, mm_nop,
  (.aload_n 0, 1, [], [], 0, 0, 0, 48),
  (.iload_n 3, 1, [], [], 3, 0, 0, 49),
  (.iload_n 2, 1, [], [], 2, 0, 0, 50),
  (.iadd, 1, [], [], 0, 0, 0, 51),
  (.invokevirtual 349, 3, [(10, 222)], [[8051, 8053, 1057, 2015]], 1, 0, 0, 52), mm_nop, mm_nop,
  (.iconst 0, 1, [], [], 0, 0, 0, 55),
  (.ireturn, 1, [], [], 0, 0, 0, 56),
  (.aload_n 0, 1, [], [], 0, 0, 0, 57),
  (.iload_n 3, 1, [], [], 3, 0, 0, 58),
  (.iload_n 2, 1, [], [], 2, 0, 0, 59),
  (.if_icmp .ge 7, 3, [(0, 67)], [], 0, 0, 0, 60), mm_nop, mm_nop,
  (.iconst 1, 1, [], [], 0, 1, 0, 63),
  (.goto 4, 3, [(0, 68)], [], 0, 0, 0, 64), mm_nop, mm_nop,
  (.iconst 0, 1, [], [], 0, 0, 0, 67),
  (.invokevirtual 349, 3, [(10, 222)], [[8051, 8053, 1057, 2015]], 1, 0, 0, 68), mm_nop, mm_nop,
  (.iconst 0, 1, [], [], 0, 0, 0, 71),
  (.ireturn, 1, [], [], 0, 0, 0, 72),
  (.aload_n 0, 1, [], [], 0, 0, 0, 73),
  (.aload_n 0, 1, [], [], 0, 0, 0, 74),
  (.iload_n 3, 1, [], [], 3, 0, 0, 75),
  (.iload_n 2, 1, [], [], 2, 0, 0, 76),
  (.invokevirtual 312, 3, [(10, 213)], [[8035, 8037, 1053, 2015]], 2, 0, 0, 77), mm_nop, mm_nop,
  (.invokevirtual 349, 3, [(10, 222)], [[8051, 8053, 1057, 2015]], 1, 0, 0, 80), mm_nop, mm_nop,
  (.iconst 0, 1, [], [], 0, 0, 0, 83),
  (.ireturn, 1, [], [], 0, 0, 0, 84),
  (.aload_n 0, 1, [], [], 0, 0, 0, 85),
  (.getfield 358, 3, [(10, 49)], [[6147]], 0, 0, 0, 86), mm_nop, mm_nop,
  (.bipush 100, 2, [], [], 0, 100, 0, 89), mm_nop,
  (.if_icmp .ne 5, 3, [(0, 96)], [], 0, 0, 0, 91), mm_nop, mm_nop,
  (.iconst 4, 1, [], [], 0, 4, 0, 94),
  (.ireturn, 1, [], [], 0, 0, 0, 95),
  (.aload_n 0, 1, [], [], 0, 0, 0, 96),
  (.dup, 1, [], [], 0, 0, 0, 97),
  (.getfield 358, 3, [(10, 49)], [[6147]], 0, 0, 0, 98), mm_nop, mm_nop,
  (.iconst 1, 1, [], [], 0, 1, 0, 101),
  (.iadd, 1, [], [], 0, 0, 0, 102),
  (.putfield 358, 3, [(10, 49)], [[6147]], 0, 0, 0, 103), mm_nop, mm_nop,
  (.aload_n 0, 1, [], [], 0, 0, 0, 106),
  (.aload_n 0, 1, [], [], 0, 0, 0, 107),
  (.iload_n 3, 1, [], [], 3, 0, 0, 108),
  (.iload_n 2, 1, [], [], 2, 0, 0, 109),
  (.invokevirtual 312, 3, [(10, 213)], [[8035, 8037, 1053, 2015]], 2, 0, 0, 110), mm_nop, mm_nop,
  (.invokevirtual 349, 3, [(10, 222)], [[8051, 8053, 1057, 2015]], 1, 0, 0, 113), mm_nop, mm_nop,
  (.iconst 0, 1, [], [], 0, 0, 0, 116),
  (.ireturn, 1, [], [], 0, 0, 0, 117)]
def mm_m227 : mm_M := (yX12_both, cX12_both, 4, (some .int), mm_k227, 1, 0, 0, 8066)
/-- TypeCopierModel.runs.()I -/
def mm_k228 : List mm_E := [
  (.aload_n 0, 1, [], [], 0, 0, 0, 0),
  (.iconst 0, 1, [], [], 0, 0, 0, 1),
  (.putfield 303, 3, [(10, 43)], [[6141]], 0, 0, 0, 2), mm_nop, mm_nop,
  (.aload_n 0, 1, [], [], 0, 0, 0, 5),
  (.iconst 0, 1, [], [], 0, 0, 0, 6),
  (.putfield 346, 3, [(10, 48)], [[6146]], 0, 0, 0, 7), mm_nop, mm_nop,
  (.aload_n 0, 1, [], [], 0, 0, 0, 10),
  (.iconst 0, 1, [], [], 0, 0, 0, 11),
  (.putfield 358, 3, [(10, 49)], [[6147]], 0, 0, 0, 12), mm_nop, mm_nop,
  (.aload_n 0, 1, [], [], 0, 0, 0, 15),
  (.iconst 0, 1, [], [], 0, 0, 0, 16),
  (.putfield 340, 3, [(10, 50)], [[6148]], 0, 0, 0, 17), mm_nop, mm_nop,
  (.aload_n 0, 1, [], [], 0, 0, 0, 20),
  (.iconst 0, 1, [], [], 0, 0, 0, 21),
  (.putfield 331, 3, [(10, 62)], [[6160]], 0, 0, 0, 22), mm_nop, mm_nop,
  (.aload_n 0, 1, [], [], 0, 0, 0, 25),
  (.iconst 0, 1, [], [], 0, 0, 0, 26),
  (.putfield 334, 3, [(10, 64)], [[6162]], 0, 0, 0, 27), mm_nop, mm_nop,
  (.aload_n 0, 1, [], [], 0, 0, 0, 30),
  (.iconst 0, 1, [], [], 0, 0, 0, 31),
  (.putfield 337, 3, [(10, 66)], [[6164]], 0, 0, 0, 32), mm_nop, mm_nop,
  (.aload_n 0, 1, [], [], 0, 0, 0, 35),
  (.iconst 0, 1, [], [], 0, 0, 0, 36),
  (.putfield 322, 3, [(10, 51)], [[6149]], 0, 0, 0, 37), mm_nop, mm_nop,
  (.aload_n 0, 1, [], [], 0, 0, 0, 40),
  (.iconst 0, 1, [], [], 0, 0, 0, 41),
  (.aload_n 0, 1, [], [], 0, 0, 0, 42),
  (.aload_n 0, 1, [], [], 0, 0, 0, 43),
  (.getfield 72, 3, [(10, 22)], [[6120]], 0, 0, 0, 44), mm_nop, mm_nop,
  (.iconst 0, 1, [], [], 0, 0, 0, 47),
  (.iaload, 1, [], [], 0, 0, 0, 48),
  (.invokevirtual 361, 3, [(10, 217)], [[8019, 8021, 1049, 2015]], 1, 0, 0, 49), mm_nop, mm_nop,
  (.invokevirtual 355, 3, [(10, 224)], [[8039, 8041, 1054, 2015]], 2, 0, 0, 52), mm_nop, mm_nop,
  (.pop, 1, [], [], 0, 0, 0, 55),
  (.iconst 0, 1, [], [], 0, 0, 0, 56),
  (.istore_n 1, 1, [], [], 1, 0, 0, 57),
  (.aload_n 0, 1, [], [], 0, 0, 0, 58),
  (.getfield 331, 3, [(10, 62)], [[6160]], 0, 0, 0, 59), mm_nop, mm_nop,
  (.ifCond .le 125, 3, [(0, 187)], [], 0, 0, 0, 62), mm_nop, mm_nop,
  (.iload_n 1, 1, [], [], 1, 0, 0, 65),
  (.ifCond .ne 121, 3, [(0, 187)], [], 0, 0, 0, 66), mm_nop, mm_nop,
  (.aload_n 0, 1, [], [], 0, 0, 0, 69),
  (.getfield 156, 3, [(10, 60)], [[6158]], 0, 0, 0, 70), mm_nop, mm_nop,
  (.aload_n 0, 1, [], [], 0, 0, 0, 73),
  (.getfield 331, 3, [(10, 62)], [[6160]], 0, 0, 0, 74), mm_nop, mm_nop,
  (.iconst 1, 1, [], [], 0, 1, 0, 77),
  (.isub, 1, [], [], 0, 0, 0, 78),
  (.iaload, 1, [], [], 0, 0, 0, 79),
  (.istore_n 2, 1, [], [], 2, 0, 0, 80),
  (.aload_n 0, 1, [], [], 0, 0, 0, 81),
  (.getfield 159, 3, [(10, 61)], [[6159]], 0, 0, 0, 82), mm_nop, mm_nop,
  (.aload_n 0, 1, [], [], 0, 0, 0, 85),
  (.getfield 331, 3, [(10, 62)], [[6160]], 0, 0, 0, 86), mm_nop, mm_nop,
  (.iconst 1, 1, [], [], 0, 1, 0, 89),
  (.isub, 1, [], [], 0, 0, 0, 90),
  (.iaload, 1, [], [], 0, 0, 0, 91),
  (.tableswitch 72 0 3 #[32, 41, 50, 59], 32, [(0, 164), (0, 124), (1, 133), (2, 142), (3, 151)], [], 0, 0, 0, 92), mm_nop, mm_nop, mm_nop, mm_nop, mm_nop, mm_nop, mm_nop, mm_nop, mm_nop, mm_nop, mm_nop, mm_nop, mm_nop, mm_nop, mm_nop, mm_nop, mm_nop, mm_nop, mm_nop, mm_nop, mm_nop, mm_nop, mm_nop, mm_nop, mm_nop, mm_nop, mm_nop, mm_nop, mm_nop, mm_nop, mm_nop,
  (.aload_n 0, 1, [], [], 0, 0, 0, 124),
  (.iload_n 2, 1, [], [], 2, 0, 0, 125),
  (.invokevirtual 364, 3, [(10, 225)], [[8047, 8049, 1056, 2015]], 1, 0, 0, 126), mm_nop, mm_nop,
  (.istore_n 1, 1, [], [], 1, 0, 0, 129),
  (.goto 54, 3, [(0, 184)], [], 0, 0, 0, 130), mm_nop, mm_nop,
  (.aload_n 0, 1, [], [], 0, 0, 0, 133),
  (.iload_n 2, 1, [], [], 2, 0, 0, 134),
  (.invokevirtual 367, 3, [(10, 226)], [[8055, 8057, 1058, 2015]], 1, 0, 0, 135), mm_nop, mm_nop,
  (.istore_n 1, 1, [], [], 1, 0, 0, 138),
  (.goto 45, 3, [(0, 184)], [], 0, 0, 0, 139), mm_nop, mm_nop,
  (.aload_n 0, 1, [], [], 0, 0, 0, 142),
  (.iload_n 2, 1, [], [], 2, 0, 0, 143),
  (.invokevirtual 370, 3, [(10, 227)], [[8063, 8065, 1060, 2015]], 1, 0, 0, 144), mm_nop, mm_nop,
  (.istore_n 1, 1, [], [], 1, 0, 0, 147),
  (.goto 36, 3, [(0, 184)], [], 0, 0, 0, 148), mm_nop, mm_nop,
  (.aload_n 0, 1, [], [], 0, 0, 0, 151),
  (.dup, 1, [], [], 0, 0, 0, 152),
  (.getfield 331, 3, [(10, 62)], [[6160]], 0, 0, 0, 153), mm_nop, mm_nop,
  (.iconst 1, 1, [], [], 0, 1, 0, 156),
  (.isub, 1, [], [], 0, 0, 0, 157),
  (.putfield 331, 3, [(10, 62)], [[6160]], 0, 0, 0, 158), mm_nop, mm_nop,
  (.goto 23, 3, [(0, 184)], [], 0, 0, 0, 161), mm_nop, mm_nop,
  (.aload_n 0, 1, [], [], 0, 0, 0, 164),
  (.dup, 1, [], [], 0, 0, 0, 165),
  (.getfield 337, 3, [(10, 66)], [[6164]], 0, 0, 0, 166), mm_nop, mm_nop,
  (.iconst 1, 1, [], [], 0, 1, 0, 169),
  (.isub, 1, [], [], 0, 0, 0, 170),
  (.putfield 337, 3, [(10, 66)], [[6164]], 0, 0, 0, 171), mm_nop, mm_nop,
  (.aload_n 0, 1, [], [], 0, 0, 0, 174),
  (.dup, 1, [], [], 0, 0, 0, 175),
  (.getfield 331, 3, [(10, 62)], [[6160]], 0, 0, 0, 176), mm_nop, mm_nop,
  (.iconst 1, 1, [], [], 0, 1, 0, 179),
  (.isub, 1, [], [], 0, 0, 0, 180),
  (.putfield 331, 3, [(10, 62)], [[6160]], 0, 0, 0, 181), mm_nop, mm_nop,
  (.goto (-126), 3, [(0, 58)], [], 0, 0, 0, 184), mm_nop, mm_nop,
  (.aload_n 0, 1, [], [], 0, 0, 0, 187),
  (.iload_n 1, 1, [], [], 1, 0, 0, 188),
  (.putfield 129, 3, [(10, 47)], [[6145]], 0, 0, 0, 189), mm_nop, mm_nop,
  (.iload_n 1, 1, [], [], 1, 0, 0, 192),
  (.ifCond .ne 19, 3, [(0, 212)], [], 0, 0, 0, 193), mm_nop, mm_nop,
  (.aload_n 0, 1, [], [], 0, 0, 0, 196),
  (.aload_n 0, 1, [], [], 0, 0, 0, 197),
  (.getfield 75, 3, [(10, 23)], [[6121]], 0, 0, 0, 198), mm_nop, mm_nop,
  (.iconst 0, 1, [], [], 0, 0, 0, 201),
  (.iaload, 1, [], [], 0, 0, 0, 202),
  (.aload_n 0, 1, [], [], 0, 0, 0, 203),
  (.getfield 162, 3, [(10, 63)], [[6161]], 0, 0, 0, 204), mm_nop, mm_nop,
  (.iconst 0, 1, [], [], 0, 0, 0, 207),
  (.iaload, 1, [], [], 0, 0, 0, 208),
  (.invokevirtual 373, 3, [(10, 220)], [[8067, 8069, 1061, 2015]], 2, 0, 0, 209), mm_nop, mm_nop,
  (.iload_n 1, 1, [], [], 1, 0, 0, 212),
  (.ireturn, 1, [], [], 0, 0, 0, 213)]
def mm_m228 : mm_M := (yX12_runs, cX12_runs, 3, (some .int), mm_k228, 0, 0, 0, 8018)
/-- TypeCopierModel.run.()I -/
def mm_k229 : List mm_E := [
  (.aload_n 0, 1, [], [], 0, 0, 0, 0),
  (.invokevirtual 290, 3, [(10, 202)], [[7218, 7199, 7200, 2015]], 0, 0, 0, 1), mm_nop, mm_nop,
  (.ifCond .eq 6, 3, [(0, 10)], [], 0, 0, 0, 4), mm_nop, mm_nop,
  (.bipush (-3), 2, [], [], 0, (-3), 0, 7), mm_nop,
  (.ireturn, 1, [], [], 0, 0, 0, 9),
  (.aload_n 0, 1, [], [], 0, 0, 0, 10),
  (.getfield 376, 3, [(10, 46)], [[6144]], 0, 0, 0, 11), mm_nop, mm_nop,
  (.sipush 160, 3, [], [], 0, 160, 0, 14), mm_nop, mm_nop,
  (.if_icmp .ne 6, 3, [(0, 23)], [], 0, 0, 0, 17), mm_nop, mm_nop,
  (.bipush (-4), 2, [], [], 0, (-4), 0, 20), mm_nop,
  (.ireturn, 1, [], [], 0, 0, 0, 22),
  (.aload_n 0, 1, [], [], 0, 0, 0, 23),
  (.dup, 1, [], [], 0, 0, 0, 24),
  (.getfield 376, 3, [(10, 46)], [[6144]], 0, 0, 0, 25), mm_nop, mm_nop,
  (.iconst 1, 1, [], [], 0, 1, 0, 28),
  (.iadd, 1, [], [], 0, 0, 0, 29),
  (.putfield 376, 3, [(10, 46)], [[6144]], 0, 0, 0, 30), mm_nop, mm_nop,
  (.aload_n 0, 1, [], [], 0, 0, 0, 33),
  (.invokevirtual 379, 3, [(10, 228)], [[8015, 8017, 1048, 2015]], 0, 0, 0, 34), mm_nop, mm_nop,
  (.ireturn, 1, [], [], 0, 0, 0, 37)]
def mm_m229 : mm_M := (yX12_run, cX12_run, 1, (some .int), mm_k229, 0, 0, 0, 8014)
/-- TypeCopierModel.runCopies.()I -/
def mm_k230 : List mm_E := [
  (.aload_n 0, 1, [], [], 0, 0, 0, 0),
  (.invokevirtual 297, 3, [(10, 208)], [[7214, 7216, 1042, 2015]], 0, 0, 0, 1), mm_nop, mm_nop,
  (.istore_n 1, 1, [], [], 1, 0, 0, 4),
  (.iload_n 1, 1, [], [], 1, 0, 0, 5),
  (.ifCond .ge 7, 3, [(0, 13)], [], 0, 0, 0, 6), mm_nop, mm_nop,
  (.iload_n 1, 1, [], [], 1, 0, 0, 9),
  (.goto 7, 3, [(0, 17)], [], 0, 0, 0, 10), mm_nop, mm_nop,
  (.aload_n 0, 1, [], [], 0, 0, 0, 13),
  (.invokevirtual 379, 3, [(10, 228)], [[8015, 8017, 1048, 2015]], 0, 0, 0, 14), mm_nop, mm_nop,
  (.ireturn, 1, [], [], 0, 0, 0, 17)]
def mm_m230 : mm_M := (yX12_runCopies, cX12_runCopies, 2, (some .int), mm_k230, 0, 0, 0, 8082)
/-- TypeCopierModel.result.(I)I -/
def mm_k231 : List mm_E := [
  (.aload_n 0, 1, [], [], 0, 0, 0, 0),
  (.getfield 129, 3, [(10, 47)], [[6145]], 0, 0, 0, 1), mm_nop, mm_nop,
  (.ifCond .ne 26, 3, [(0, 30)], [], 0, 0, 0, 4), mm_nop, mm_nop,
  (.iload_n 1, 1, [], [], 1, 0, 0, 7),
  (.iconst 0, 1, [], [], 0, 0, 0, 8),
  (.aload_n 0, 1, [], [], 0, 0, 0, 9),
  (.getfield 322, 3, [(10, 51)], [[6149]], 0, 0, 0, 10), mm_nop, mm_nop,
  (.iconst 1, 1, [], [], 0, 1, 0, 13),
  (.isub, 1, [], [], 0, 0, 0, 14),
  (.invokestatic 193, 3, [(0, 164)], [[7069, 7070, 2015]], 3, 0, 0, 15), mm_nop, mm_nop,
  (.ifCond .eq 12, 3, [(0, 30)], [], 0, 0, 0, 18), mm_nop, mm_nop,
  (.aload_n 0, 1, [], [], 0, 0, 0, 21),
  (.getfield 132, 3, [(10, 52)], [[6150]], 0, 0, 0, 22), mm_nop, mm_nop,
  (.iload_n 1, 1, [], [], 1, 0, 0, 25),
  (.iaload, 1, [], [], 0, 0, 0, 26),
  (.goto 4, 3, [(0, 31)], [], 0, 0, 0, 27), mm_nop, mm_nop,
  (.iconst 0, 1, [], [], 0, 0, 0, 30),
  (.ireturn, 1, [], [], 0, 0, 0, 31)]
def mm_m231 : mm_M := (yX12_result, cX12_result, 2, (some .int), mm_k231, 1, 0, 0, 8086)
/-- TypeCopierModel.told.(I)I -/
def mm_k232 : List mm_E := [
  (.iload_n 1, 1, [], [], 1, 0, 0, 0),
  (.tableswitch 71 0 4 #[35, 51, 56, 61, 66], 35, [(0, 72), (0, 36), (1, 52), (2, 57), (3, 62), (4, 67)], [], 0, 0, 0, 1), mm_nop, mm_nop, mm_nop, mm_nop, mm_nop, mm_nop, mm_nop, mm_nop, mm_nop, mm_nop, mm_nop, mm_nop, mm_nop, mm_nop, mm_nop, mm_nop, mm_nop, mm_nop, mm_nop, mm_nop, mm_nop, mm_nop, mm_nop, mm_nop, mm_nop, mm_nop, mm_nop, mm_nop, mm_nop, mm_nop, mm_nop, mm_nop, mm_nop, mm_nop,
  (.aload_n 0, 1, [], [], 0, 0, 0, 36),
  (.getfield 129, 3, [(10, 47)], [[6145]], 0, 0, 0, 37), mm_nop, mm_nop,
  (.ifCond .ne 10, 3, [(0, 50)], [], 0, 0, 0, 40), mm_nop, mm_nop,
  (.aload_n 0, 1, [], [], 0, 0, 0, 43),
  (.getfield 322, 3, [(10, 51)], [[6149]], 0, 0, 0, 44), mm_nop, mm_nop,
  (.goto 4, 3, [(0, 51)], [], 0, 0, 0, 47), mm_nop, mm_nop,
  (.iconst 0, 1, [], [], 0, 0, 0, 50),
  (.ireturn, 1, [], [], 0, 0, 0, 51),
  (.aload_n 0, 1, [], [], 0, 0, 0, 52),
  (.getfield 346, 3, [(10, 48)], [[6146]], 0, 0, 0, 53), mm_nop, mm_nop,
  (.ireturn, 1, [], [], 0, 0, 0, 56),
  (.aload_n 0, 1, [], [], 0, 0, 0, 57),
  (.getfield 358, 3, [(10, 49)], [[6147]], 0, 0, 0, 58), mm_nop, mm_nop,
  (.ireturn, 1, [], [], 0, 0, 0, 61),
  (.aload_n 0, 1, [], [], 0, 0, 0, 62),
  (.getfield 340, 3, [(10, 50)], [[6148]], 0, 0, 0, 63), mm_nop, mm_nop,
  (.ireturn, 1, [], [], 0, 0, 0, 66),
  (.aload_n 0, 1, [], [], 0, 0, 0, 67),
  (.getfield 129, 3, [(10, 47)], [[6145]], 0, 0, 0, 68), mm_nop, mm_nop,
  (.ireturn, 1, [], [], 0, 0, 0, 71),
  (.bipush (-2), 2, [], [], 0, (-2), 0, 72), mm_nop,
  (.ireturn, 1, [], [], 0, 0, 0, 74)]
def mm_m232 : mm_M := (yX12_told, cX12_told, 2, (some .int), mm_k232, 1, 0, 0, 8090)
/-- TypeCopierModel.count.(I)I -/
def mm_k233 : List mm_E := [
  (.iload_n 1, 1, [], [], 1, 0, 0, 0),
  (.ifCond .ne 10, 3, [(0, 11)], [], 0, 0, 0, 1), mm_nop, mm_nop,
  (.aload_n 0, 1, [], [], 0, 0, 0, 4),
  (.getfield 7, 3, [(10, 0)], [[6098]], 0, 0, 0, 5), mm_nop, mm_nop,
  (.goto 41, 3, [(0, 49)], [], 0, 0, 0, 8), mm_nop, mm_nop,
  (.iload_n 1, 1, [], [], 1, 0, 0, 11),
  (.iconst 1, 1, [], [], 0, 1, 0, 12),
  (.if_icmp .ne 10, 3, [(0, 23)], [], 0, 0, 0, 13), mm_nop, mm_nop,
  (.aload_n 0, 1, [], [], 0, 0, 0, 16),
  (.getfield 213, 3, [(10, 13)], [[6111]], 0, 0, 0, 17), mm_nop, mm_nop,
  (.goto 29, 3, [(0, 49)], [], 0, 0, 0, 20), mm_nop, mm_nop,
  (.iload_n 1, 1, [], [], 1, 0, 0, 23),
  (.iconst 2, 1, [], [], 0, 2, 0, 24),
  (.if_icmp .ne 10, 3, [(0, 35)], [], 0, 0, 0, 25), mm_nop, mm_nop,
  (.aload_n 0, 1, [], [], 0, 0, 0, 28),
  (.getfield 216, 3, [(10, 20)], [[6118]], 0, 0, 0, 29), mm_nop, mm_nop,
  (.goto 17, 3, [(0, 49)], [], 0, 0, 0, 32), mm_nop, mm_nop,
  (.iload_n 1, 1, [], [], 1, 0, 0, 35),
  (.iconst 3, 1, [], [], 0, 3, 0, 36),
  (.if_icmp .ne 10, 3, [(0, 47)], [], 0, 0, 0, 37), mm_nop, mm_nop,
  (.aload_n 0, 1, [], [], 0, 0, 0, 40),
  (.getfield 300, 3, [(10, 41)], [[6139]], 0, 0, 0, 41), mm_nop, mm_nop,
  (.goto 5, 3, [(0, 49)], [], 0, 0, 0, 44), mm_nop, mm_nop,
  (.bipush (-2), 2, [], [], 0, (-2), 0, 47), mm_nop,
  (.ireturn, 1, [], [], 0, 0, 0, 49)]
def mm_m233 : mm_M := (yX12_count, cX12_count, 2, (some .int), mm_k233, 1, 0, 0, 8094)
/-- TypeCopierModel.mixedNode.(JI)J -/
def mm_k234 : List mm_E := [
  (.ldc2_w 382, 3, [], [[8100]], 0, 0, 31, 0), mm_nop, mm_nop,
  (.lload_n 1, 1, [], [], 1, 0, 0, 3),
  (.lmul, 1, [], [], 0, 0, 0, 4),
  (.aload_n 0, 1, [], [], 0, 0, 0, 5),
  (.getfield 51, 3, [(10, 14)], [[6112]], 0, 0, 0, 6), mm_nop, mm_nop,
  (.iload_n 3, 1, [], [], 3, 0, 0, 9),
  (.iaload, 1, [], [], 0, 0, 0, 10),
  (.i2l, 1, [], [], 0, 0, 0, 11),
  (.ladd, 1, [], [], 0, 0, 0, 12),
  (.lstore 4, 2, [], [], 4, 0, 0, 13), mm_nop,
  (.aload_n 0, 1, [], [], 0, 0, 0, 15),
  (.getfield 51, 3, [(10, 14)], [[6112]], 0, 0, 0, 16), mm_nop, mm_nop,
  (.iload_n 3, 1, [], [], 3, 0, 0, 19),
  (.iaload, 1, [], [], 0, 0, 0, 20),
  (.istore 6, 2, [], [], 6, 0, 0, 21), mm_nop,
  (.iload 6, 2, [], [], 6, 0, 0, 23), mm_nop,
  (.iconst 2, 1, [], [], 0, 2, 0, 25),
  (.if_icmp .ne 6, 3, [(0, 32)], [], 0, 0, 0, 26), mm_nop, mm_nop,
  (.lload 4, 2, [], [], 4, 0, 0, 29), mm_nop,
  (.lreturn, 1, [], [], 0, 0, 0, 31),
  (.ldc2_w 382, 3, [], [[8100]], 0, 0, 31, 32), mm_nop, mm_nop,
  (.lload 4, 2, [], [], 4, 0, 0, 35), mm_nop,
  (.lmul, 1, [], [], 0, 0, 0, 37),
  (.aload_n 0, 1, [], [], 0, 0, 0, 38),
  (.getfield 54, 3, [(10, 15)], [[6113]], 0, 0, 0, 39), mm_nop, mm_nop,
  (.iload_n 3, 1, [], [], 3, 0, 0, 42),
  (.iaload, 1, [], [], 0, 0, 0, 43),
  (.i2l, 1, [], [], 0, 0, 0, 44),
  (.ladd, 1, [], [], 0, 0, 0, 45),
  (.lstore 4, 2, [], [], 4, 0, 0, 46), mm_nop,
  (.iload 6, 2, [], [], 6, 0, 0, 48), mm_nop,
  (.bipush 14, 2, [], [], 0, 14, 0, 50), mm_nop,
  (.if_icmp .eq 12, 3, [(0, 64)], [], 0, 0, 0, 52), mm_nop, mm_nop,
  (.iload 6, 2, [], [], 6, 0, 0, 55), mm_nop,
  (.invokestatic 225, 3, [(0, 185)], [[7131, 7132, 2015]], 1, 0, 0, 57), mm_nop, mm_nop,
  (.iconst 1, 1, [], [], 0, 1, 0, 60),
  (.if_icmp .le 19, 3, [(0, 80)], [], 0, 0, 0, 61), mm_nop, mm_nop,
  (.ldc2_w 382, 3, [], [[8100]], 0, 0, 31, 64), mm_nop, mm_nop,
  (.lload 4, 2, [], [], 4, 0, 0, 67), mm_nop,
  (.lmul, 1, [], [], 0, 0, 0, 69),
  (.aload_n 0, 1, [], [], 0, 0, 0, 70),
  (.getfield 57, 3, [(10, 16)], [[6114]], 0, 0, 0, 71), mm_nop, mm_nop,
  (.iload_n 3, 1, [], [], 3, 0, 0, 74),
  (.iaload, 1, [], [], 0, 0, 0, 75),
  (.i2l, 1, [], [], 0, 0, 0, 76),
  (.ladd, 1, [], [], 0, 0, 0, 77),
  (.lstore 4, 2, [], [], 4, 0, 0, 78), mm_nop,
  (.iload 6, 2, [], [], 6, 0, 0, 80), mm_nop,
  (.bipush 14, 2, [], [], 0, 14, 0, 82), mm_nop,
  (.if_icmp .eq 12, 3, [(0, 96)], [], 0, 0, 0, 84), mm_nop, mm_nop,
  (.iload 6, 2, [], [], 6, 0, 0, 87), mm_nop,
  (.invokestatic 225, 3, [(0, 185)], [[7131, 7132, 2015]], 1, 0, 0, 89), mm_nop, mm_nop,
  (.iconst 2, 1, [], [], 0, 2, 0, 92),
  (.if_icmp .le 19, 3, [(0, 112)], [], 0, 0, 0, 93), mm_nop, mm_nop,
  (.ldc2_w 382, 3, [], [[8100]], 0, 0, 31, 96), mm_nop, mm_nop,
  (.lload 4, 2, [], [], 4, 0, 0, 99), mm_nop,
  (.lmul, 1, [], [], 0, 0, 0, 101),
  (.aload_n 0, 1, [], [], 0, 0, 0, 102),
  (.getfield 60, 3, [(10, 17)], [[6115]], 0, 0, 0, 103), mm_nop, mm_nop,
  (.iload_n 3, 1, [], [], 3, 0, 0, 106),
  (.iaload, 1, [], [], 0, 0, 0, 107),
  (.i2l, 1, [], [], 0, 0, 0, 108),
  (.ladd, 1, [], [], 0, 0, 0, 109),
  (.lstore 4, 2, [], [], 4, 0, 0, 110), mm_nop,
  (.iload 6, 2, [], [], 6, 0, 0, 112), mm_nop,
  (.bipush 14, 2, [], [], 0, 14, 0, 114), mm_nop,
  (.if_icmp .ne 20, 3, [(0, 136)], [], 0, 0, 0, 116), mm_nop, mm_nop,
  (.ldc2_w 382, 3, [], [[8100]], 0, 0, 31, 119), mm_nop, mm_nop,
  (.lload 4, 2, [], [], 4, 0, 0, 122), mm_nop,
  (.lmul, 1, [], [], 0, 0, 0, 124),
  (.aload_n 0, 1, [], [], 0, 0, 0, 125),
  (.getfield 63, 3, [(10, 18)], [[6116]], 0, 0, 0, 126), mm_nop, mm_nop,
  (.iload_n 3, 1, [], [], 3, 0, 0, 129),
  (.iaload, 1, [], [], 0, 0, 0, 130),
  (.i2l, 1, [], [], 0, 0, 0, 131),
  (.ladd, 1, [], [], 0, 0, 0, 132),
  (.goto 5, 3, [(0, 138)], [], 0, 0, 0, 133), mm_nop, mm_nop,
  (.lload 4, 2, [], [], 4, 0, 0, 136), mm_nop,
  (.lreturn, 1, [], [], 0, 0, 0, 138)]
def mm_m234 : mm_M := (yX12_mixedNode, cX12_mixedNode, 7, (some .long), mm_k234, 2, 0, 0, 8104)
/-- TypeCopierModel.digest.()J -/
def mm_k235 : List mm_E := [
  (.ldc2_w 384, 3, [], [[8099]], 0, 0, 61, 0), mm_nop, mm_nop,
  (.lstore_n 1, 1, [], [], 1, 0, 0, 3),
  (.iconst 0, 1, [], [], 0, 0, 0, 4),
  (.istore_n 3, 1, [], [], 3, 0, 0, 5),
  (.iload_n 3, 1, [], [], 3, 0, 0, 6),
  (.aload_n 0, 1, [], [], 0, 0, 0, 7),
  (.getfield 7, 3, [(10, 0)], [[6098]], 0, 0, 0, 8), mm_nop, mm_nop,
  (.if_icmp .ge 39, 3, [(0, 50)], [], 0, 0, 0, 11), mm_nop, mm_nop,
  (.iconst 0, 1, [], [], 0, 0, 0, 14),
  (.istore 4, 2, [], [], 4, 0, 0, 15), mm_nop,
  (.iload 4, 2, [], [], 4, 0, 0, 17), mm_nop,
  (.iconst 4, 1, [], [], 0, 4, 0, 19),
  (.if_icmp .ge 24, 3, [(0, 44)], [], 0, 0, 0, 20), mm_nop, mm_nop,
  (.ldc2_w 382, 3, [], [[8100]], 0, 0, 31, 23), mm_nop, mm_nop,
  (.lload_n 1, 1, [], [], 1, 0, 0, 26),
  (.lmul, 1, [], [], 0, 0, 0, 27),
  (.aload_n 0, 1, [], [], 0, 0, 0, 28),
  (.iload_n 3, 1, [], [], 3, 0, 0, 29),
  (.iload 4, 2, [], [], 4, 0, 0, 30), mm_nop,
  (.invokevirtual 207, 3, [(10, 178)], [[7111, 7113, 1025, 2015]], 2, 0, 0, 32), mm_nop, mm_nop,
  (.i2l, 1, [], [], 0, 0, 0, 35),
  (.ladd, 1, [], [], 0, 0, 0, 36),
  (.lstore_n 1, 1, [], [], 1, 0, 0, 37),
  (.iinc 4 1, 3, [], [], 4, 1, 0, 38), mm_nop, mm_nop,
  (.goto (-24), 3, [(0, 17)], [], 0, 0, 0, 41), mm_nop, mm_nop,
  (.iinc 3 1, 3, [], [], 3, 1, 0, 44), mm_nop, mm_nop,
  (.goto (-41), 3, [(0, 6)], [], 0, 0, 0, 47), mm_nop, mm_nop,
  (.iconst 0, 1, [], [], 0, 0, 0, 50),
  (.istore_n 3, 1, [], [], 3, 0, 0, 51),
  (.iload_n 3, 1, [], [], 3, 0, 0, 52),
  (.aload_n 0, 1, [], [], 0, 0, 0, 53),
  (.getfield 213, 3, [(10, 13)], [[6111]], 0, 0, 0, 54), mm_nop, mm_nop,
  (.if_icmp .ge 16, 3, [(0, 73)], [], 0, 0, 0, 57), mm_nop, mm_nop,
  (.aload_n 0, 1, [], [], 0, 0, 0, 60),
  (.lload_n 1, 1, [], [], 1, 0, 0, 61),
  (.iload_n 3, 1, [], [], 3, 0, 0, 62),
  (.invokevirtual 386, 3, [(10, 234)], [[8101, 8103, 1064, 2015]], 2, 0, 0, 63), mm_nop, mm_nop,
  (.lstore_n 1, 1, [], [], 1, 0, 0, 66),
  (.iinc 3 1, 3, [], [], 3, 1, 0, 67), mm_nop, mm_nop,
  (.goto (-18), 3, [(0, 52)], [], 0, 0, 0, 70), mm_nop, mm_nop,
  (.iconst 0, 1, [], [], 0, 0, 0, 73),
  (.istore_n 3, 1, [], [], 3, 0, 0, 74),
  (.iload_n 3, 1, [], [], 3, 0, 0, 75),
  (.aload_n 0, 1, [], [], 0, 0, 0, 76),
  (.getfield 216, 3, [(10, 20)], [[6118]], 0, 0, 0, 77), mm_nop, mm_nop,
  (.if_icmp .ge 59, 3, [(0, 139)], [], 0, 0, 0, 80), mm_nop, mm_nop,
  (.ldc2_w 382, 3, [], [[8100]], 0, 0, 31, 83), mm_nop, mm_nop,
  (.ldc2_w 382, 3, [], [[8100]], 0, 0, 31, 86), mm_nop, mm_nop,
  (.ldc2_w 382, 3, [], [[8100]], 0, 0, 31, 89), mm_nop, mm_nop,
  (.ldc2_w 382, 3, [], [[8100]], 0, 0, 31, 92), mm_nop, mm_nop,
  (.lload_n 1, 1, [], [], 1, 0, 0, 95),
  (.lmul, 1, [], [], 0, 0, 0, 96),
  (.aload_n 0, 1, [], [], 0, 0, 0, 97),
  (.getfield 69, 3, [(10, 21)], [[6119]], 0, 0, 0, 98), mm_nop, mm_nop,
  (.iload_n 3, 1, [], [], 3, 0, 0, 101),
  (.iaload, 1, [], [], 0, 0, 0, 102),
  (.i2l, 1, [], [], 0, 0, 0, 103),
  (.ladd, 1, [], [], 0, 0, 0, 104),
  (.lmul, 1, [], [], 0, 0, 0, 105),
  (.aload_n 0, 1, [], [], 0, 0, 0, 106),
  (.getfield 72, 3, [(10, 22)], [[6120]], 0, 0, 0, 107), mm_nop, mm_nop,
  (.iload_n 3, 1, [], [], 3, 0, 0, 110),
  (.iaload, 1, [], [], 0, 0, 0, 111),
  (.i2l, 1, [], [], 0, 0, 0, 112),
  (.ladd, 1, [], [], 0, 0, 0, 113),
  (.lmul, 1, [], [], 0, 0, 0, 114),
  (.aload_n 0, 1, [], [], 0, 0, 0, 115),
  (.getfield 75, 3, [(10, 23)], [[6121]], 0, 0, 0, 116), mm_nop, mm_nop,
  (.iload_n 3, 1, [], [], 3, 0, 0, 119),
  (.iaload, 1, [], [], 0, 0, 0, 120),
  (.i2l, 1, [], [], 0, 0, 0, 121),
  (.ladd, 1, [], [], 0, 0, 0, 122),
  (.lmul, 1, [], [], 0, 0, 0, 123),
  (.aload_n 0, 1, [], [], 0, 0, 0, 124),
  (.getfield 78, 3, [(10, 24)], [[6122]], 0, 0, 0, 125), mm_nop, mm_nop,
  (.iload_n 3, 1, [], [], 3, 0, 0, 128),
  (.iaload, 1, [], [], 0, 0, 0, 129),
  (.i2l, 1, [], [], 0, 0, 0, 130),
  (.ladd, 1, [], [], 0, 0, 0, 131),
  (.lstore_n 1, 1, [], [], 1, 0, 0, 132),
  (.iinc 3 1, 3, [], [], 3, 1, 0, 133), mm_nop, mm_nop,
  (.goto (-61), 3, [(0, 75)], [], 0, 0, 0, 136), mm_nop, mm_nop,
  (.lload_n 1, 1, [], [], 1, 0, 0, 139),
  (.lreturn, 1, [], [], 0, 0, 0, 140)]
def mm_m235 : mm_M := (yX12_digest, cX12_digest, 5, (some .long), mm_k235, 0, 0, 0, 8098)
end
section
/-! ===== code tables (by program), further ===== -/
/-- java/util/Arrays.fill.([II)V -/
def mm_k236 : List mm_E := [
  (.iconst 0, 1, [], [], 0, 0, 0, 0),
  (.istore_n 2, 1, [], [], 2, 0, 0, 1),
  (.aload_n 0, 1, [], [], 0, 0, 0, 2),
  (.arraylength, 1, [], [], 0, 0, 0, 3),
  (.istore_n 3, 1, [], [], 3, 0, 0, 4),
  (.iload_n 2, 1, [], [], 2, 0, 0, 5),
  (.iload_n 3, 1, [], [], 3, 0, 0, 6),
  (.if_icmp .ge 13, 3, [(0, 20)], [], 0, 0, 0, 7), mm_nop, mm_nop,
  (.aload_n 0, 1, [], [], 0, 0, 0, 10),
  (.iload_n 2, 1, [], [], 2, 0, 0, 11),
  (.iload_n 1, 1, [], [], 1, 0, 0, 12),
  (.iastore, 1, [], [], 0, 0, 0, 13),
  (.iinc 2 1, 3, [], [], 2, 1, 0, 14), mm_nop, mm_nop,
  (.goto (-12), 3, [(0, 5)], [], 0, 0, 0, 17), mm_nop, mm_nop,
  (.return_, 1, [], [], 0, 0, 0, 20)]
def mm_m236 : mm_M := (yJ7_fill_53178, cJ7_fill_53178, 4, none, mm_k236, 2, 0, 0, 3103)
def mm_kL : List mm_E := [
  (.new 7, 3, [(0, 9)], [[2016, 2017, 2001]], 0, 0, 0, 0), mm_nop, mm_nop,
  (.dup, 1, [], [], 0, 0, 0, 3),
  (.invokespecial 9, 3, [(0, 140)], [[2018, 2019, 2001]], 0, 0, 0, 4), mm_nop, mm_nop,
  (.astore_n 1, 1, [], [], 1, 0, 0, 7),
  (.new 10, 3, [(0, 10)], [[6092, 6093, 2015]], 0, 0, 0, 8), mm_nop, mm_nop,
  (.dup, 1, [], [], 0, 0, 0, 11),
  (.invokespecial 12, 3, [(0, 165)], [[6094, 6095, 2015]], 0, 0, 0, 12), mm_nop, mm_nop,
  (.astore_n 2, 1, [], [], 2, 0, 0, 15),
  (.iconst 0, 1, [], [], 0, 0, 0, 16),
  (.istore_n 3, 1, [], [], 3, 0, 0, 17),
  (.iload_n 3, 1, [], [], 3, 0, 0, 18),
  (.aload_n 0, 1, [], [], 0, 0, 0, 19),
  (.arraylength, 1, [], [], 0, 0, 0, 20),
  (.bipush 6, 2, [], [], 0, 6, 0, 21), mm_nop,
  (.isub, 1, [], [], 0, 0, 0, 23),
  (.if_icmp .gt 631, 3, [(0, 655)], [], 0, 0, 0, 24), mm_nop, mm_nop,
  (.aload_n 0, 1, [], [], 0, 0, 0, 27),
  (.iload_n 3, 1, [], [], 3, 0, 0, 28),
  (.iaload, 1, [], [], 0, 0, 0, 29),
  (.bipush 31, 2, [], [], 0, 31, 0, 30), mm_nop,
  (.iand, 1, [], [], 0, 0, 0, 32),
  (.tableswitch 616 0 19 #[95, 128, 151, 184, 247, 290, 323, 356, 379, 412, 425, 438, 471, 494, 507, 520, 533, 556, 579, 602], 95, [(0, 649), (0, 128), (1, 161), (2, 184), (3, 217), (4, 280), (5, 323), (6, 356), (7, 389), (8, 412), (9, 445), (10, 458), (11, 471), (12, 504), (13, 527), (14, 540), (15, 553), (16, 566), (17, 589), (18, 612), (19, 635)], [], 0, 0, 0, 33), mm_nop, mm_nop, mm_nop, mm_nop, mm_nop, mm_nop, mm_nop, mm_nop, mm_nop, mm_nop, mm_nop, mm_nop, mm_nop, mm_nop, mm_nop, mm_nop, mm_nop, mm_nop, mm_nop, mm_nop, mm_nop, mm_nop, mm_nop, mm_nop, mm_nop, mm_nop, mm_nop, mm_nop, mm_nop, mm_nop, mm_nop, mm_nop, mm_nop, mm_nop, mm_nop, mm_nop, mm_nop, mm_nop, mm_nop, mm_nop, mm_nop, mm_nop, mm_nop, mm_nop, mm_nop, mm_nop, mm_nop, mm_nop, mm_nop, mm_nop, mm_nop, mm_nop, mm_nop, mm_nop, mm_nop, mm_nop, mm_nop, mm_nop, mm_nop, mm_nop, mm_nop, mm_nop, mm_nop, mm_nop, mm_nop, mm_nop, mm_nop, mm_nop, mm_nop, mm_nop, mm_nop, mm_nop, mm_nop, mm_nop, mm_nop, mm_nop, mm_nop, mm_nop, mm_nop, mm_nop, mm_nop, mm_nop, mm_nop, mm_nop, mm_nop, mm_nop, mm_nop, mm_nop, mm_nop, mm_nop, mm_nop, mm_nop, mm_nop, mm_nop,
  (.aload_n 1, 1, [], [], 1, 0, 0, 128),
  (.aload_n 0, 1, [], [], 0, 0, 0, 129),
  (.iload_n 3, 1, [], [], 3, 0, 0, 130),
  (.iconst 1, 1, [], [], 0, 1, 0, 131),
  (.iadd, 1, [], [], 0, 0, 0, 132),
  (.iaload, 1, [], [], 0, 0, 0, 133),
  (.aload_n 0, 1, [], [], 0, 0, 0, 134),
  (.iload_n 3, 1, [], [], 3, 0, 0, 135),
  (.iconst 2, 1, [], [], 0, 2, 0, 136),
  (.iadd, 1, [], [], 0, 0, 0, 137),
  (.iaload, 1, [], [], 0, 0, 0, 138),
  (.invokevirtual 13, 3, [(9, 141)], [[4024, 4025, 4026, 2001]], 2, 0, 0, 139), mm_nop, mm_nop,
  (.aload_n 2, 1, [], [], 2, 0, 0, 142),
  (.aload_n 0, 1, [], [], 0, 0, 0, 143),
  (.iload_n 3, 1, [], [], 3, 0, 0, 144),
  (.iconst 1, 1, [], [], 0, 1, 0, 145),
  (.iadd, 1, [], [], 0, 0, 0, 146),
  (.iaload, 1, [], [], 0, 0, 0, 147),
  (.aload_n 0, 1, [], [], 0, 0, 0, 148),
  (.iload_n 3, 1, [], [], 3, 0, 0, 149),
  (.iconst 2, 1, [], [], 0, 2, 0, 150),
  (.iadd, 1, [], [], 0, 0, 0, 151),
  (.iaload, 1, [], [], 0, 0, 0, 152),
  (.invokevirtual 17, 3, [(10, 176)], [[7061, 7062, 7063, 2015]], 2, 0, 0, 153), mm_nop, mm_nop,
  (.if_icmp .eq 493, 3, [(0, 649)], [], 0, 0, 0, 156), mm_nop, mm_nop,
  (.iconst 0, 1, [], [], 0, 0, 0, 159),
  (.ireturn, 1, [], [], 0, 0, 0, 160),
  (.aload_n 1, 1, [], [], 1, 0, 0, 161),
  (.aload_n 0, 1, [], [], 0, 0, 0, 162),
  (.iload_n 3, 1, [], [], 3, 0, 0, 163),
  (.iconst 1, 1, [], [], 0, 1, 0, 164),
  (.iadd, 1, [], [], 0, 0, 0, 165),
  (.iaload, 1, [], [], 0, 0, 0, 166),
  (.invokevirtual 18, 3, [(9, 142)], [[4039, 4040, 4041, 2001]], 1, 0, 0, 167), mm_nop, mm_nop,
  (.aload_n 2, 1, [], [], 2, 0, 0, 170),
  (.aload_n 0, 1, [], [], 0, 0, 0, 171),
  (.iload_n 3, 1, [], [], 3, 0, 0, 172),
  (.iconst 1, 1, [], [], 0, 1, 0, 173),
  (.iadd, 1, [], [], 0, 0, 0, 174),
  (.iaload, 1, [], [], 0, 0, 0, 175),
  (.invokevirtual 22, 3, [(10, 177)], [[7103, 7104, 7105, 2015]], 1, 0, 0, 176), mm_nop, mm_nop,
  (.if_icmp .eq 470, 3, [(0, 649)], [], 0, 0, 0, 179), mm_nop, mm_nop,
  (.iconst 0, 1, [], [], 0, 0, 0, 182),
  (.ireturn, 1, [], [], 0, 0, 0, 183),
  (.aload_n 1, 1, [], [], 1, 0, 0, 184),
  (.aload_n 0, 1, [], [], 0, 0, 0, 185),
  (.iload_n 3, 1, [], [], 3, 0, 0, 186),
  (.iconst 1, 1, [], [], 0, 1, 0, 187),
  (.iadd, 1, [], [], 0, 0, 0, 188),
  (.iaload, 1, [], [], 0, 0, 0, 189),
  (.aload_n 0, 1, [], [], 0, 0, 0, 190),
  (.iload_n 3, 1, [], [], 3, 0, 0, 191),
  (.iconst 2, 1, [], [], 0, 2, 0, 192),
  (.iadd, 1, [], [], 0, 0, 0, 193),
  (.iaload, 1, [], [], 0, 0, 0, 194),
  (.invokevirtual 23, 3, [(9, 143)], [[4044, 4045, 4046, 2001]], 2, 0, 0, 195), mm_nop, mm_nop,
  (.aload_n 2, 1, [], [], 2, 0, 0, 198),
  (.aload_n 0, 1, [], [], 0, 0, 0, 199),
  (.iload_n 3, 1, [], [], 3, 0, 0, 200),
  (.iconst 1, 1, [], [], 0, 1, 0, 201),
  (.iadd, 1, [], [], 0, 0, 0, 202),
  (.iaload, 1, [], [], 0, 0, 0, 203),
  (.aload_n 0, 1, [], [], 0, 0, 0, 204),
  (.iload_n 3, 1, [], [], 3, 0, 0, 205),
  (.iconst 2, 1, [], [], 0, 2, 0, 206),
  (.iadd, 1, [], [], 0, 0, 0, 207),
  (.iaload, 1, [], [], 0, 0, 0, 208),
  (.invokevirtual 26, 3, [(10, 179)], [[7107, 7108, 7109, 2015]], 2, 0, 0, 209), mm_nop, mm_nop,
  (.if_icmp .eq 437, 3, [(0, 649)], [], 0, 0, 0, 212), mm_nop, mm_nop,
  (.iconst 0, 1, [], [], 0, 0, 0, 215),
  (.ireturn, 1, [], [], 0, 0, 0, 216),
  (.aload_n 1, 1, [], [], 1, 0, 0, 217),
  (.aload_n 0, 1, [], [], 0, 0, 0, 218),
  (.iload_n 3, 1, [], [], 3, 0, 0, 219),
  (.iconst 1, 1, [], [], 0, 1, 0, 220),
  (.iadd, 1, [], [], 0, 0, 0, 221),
  (.iaload, 1, [], [], 0, 0, 0, 222),
  (.aload_n 0, 1, [], [], 0, 0, 0, 223),
  (.iload_n 3, 1, [], [], 3, 0, 0, 224),
  (.iconst 2, 1, [], [], 0, 2, 0, 225),
  (.iadd, 1, [], [], 0, 0, 0, 226),
  (.iaload, 1, [], [], 0, 0, 0, 227),
  (.aload_n 0, 1, [], [], 0, 0, 0, 228),
  (.iload_n 3, 1, [], [], 3, 0, 0, 229),
  (.iconst 3, 1, [], [], 0, 3, 0, 230),
  (.iadd, 1, [], [], 0, 0, 0, 231),
  (.iaload, 1, [], [], 0, 0, 0, 232),
  (.aload_n 0, 1, [], [], 0, 0, 0, 233),
  (.iload_n 3, 1, [], [], 3, 0, 0, 234),
  (.iconst 4, 1, [], [], 0, 4, 0, 235),
  (.iadd, 1, [], [], 0, 0, 0, 236),
  (.iaload, 1, [], [], 0, 0, 0, 237),
  (.aload_n 0, 1, [], [], 0, 0, 0, 238),
  (.iload_n 3, 1, [], [], 3, 0, 0, 239),
  (.iconst 5, 1, [], [], 0, 5, 0, 240),
  (.iadd, 1, [], [], 0, 0, 0, 241),
  (.iaload, 1, [], [], 0, 0, 0, 242),
  (.invokevirtual 27, 3, [(9, 144)], [[4059, 4060, 4061, 2001]], 5, 0, 0, 243), mm_nop, mm_nop,
  (.aload_n 2, 1, [], [], 2, 0, 0, 246),
  (.aload_n 0, 1, [], [], 0, 0, 0, 247),
  (.iload_n 3, 1, [], [], 3, 0, 0, 248),
  (.iconst 1, 1, [], [], 0, 1, 0, 249),
  (.iadd, 1, [], [], 0, 0, 0, 250),
  (.iaload, 1, [], [], 0, 0, 0, 251),
  (.aload_n 0, 1, [], [], 0, 0, 0, 252),
  (.iload_n 3, 1, [], [], 3, 0, 0, 253),
  (.iconst 2, 1, [], [], 0, 2, 0, 254),
  (.iadd, 1, [], [], 0, 0, 0, 255),
  (.iaload, 1, [], [], 0, 0, 0, 256),
  (.aload_n 0, 1, [], [], 0, 0, 0, 257),
  (.iload_n 3, 1, [], [], 3, 0, 0, 258),
  (.iconst 3, 1, [], [], 0, 3, 0, 259),
  (.iadd, 1, [], [], 0, 0, 0, 260),
  (.iaload, 1, [], [], 0, 0, 0, 261),
  (.aload_n 0, 1, [], [], 0, 0, 0, 262),
  (.iload_n 3, 1, [], [], 3, 0, 0, 263),
  (.iconst 4, 1, [], [], 0, 4, 0, 264),
  (.iadd, 1, [], [], 0, 0, 0, 265),
  (.iaload, 1, [], [], 0, 0, 0, 266),
  (.aload_n 0, 1, [], [], 0, 0, 0, 267),
  (.iload_n 3, 1, [], [], 3, 0, 0, 268),
  (.iconst 5, 1, [], [], 0, 5, 0, 269),
  (.iadd, 1, [], [], 0, 0, 0, 270),
  (.iaload, 1, [], [], 0, 0, 0, 271),
  (.invokevirtual 31, 3, [(10, 189)], [[7115, 7116, 7117, 2015]], 5, 0, 0, 272), mm_nop, mm_nop,
  (.if_icmp .eq 374, 3, [(0, 649)], [], 0, 0, 0, 275), mm_nop, mm_nop,
  (.iconst 0, 1, [], [], 0, 0, 0, 278),
  (.ireturn, 1, [], [], 0, 0, 0, 279),
  (.aload_n 1, 1, [], [], 1, 0, 0, 280),
  (.aload_n 0, 1, [], [], 0, 0, 0, 281),
  (.iload_n 3, 1, [], [], 3, 0, 0, 282),
  (.iconst 1, 1, [], [], 0, 1, 0, 283),
  (.iadd, 1, [], [], 0, 0, 0, 284),
  (.iaload, 1, [], [], 0, 0, 0, 285),
  (.aload_n 0, 1, [], [], 0, 0, 0, 286),
  (.iload_n 3, 1, [], [], 3, 0, 0, 287),
  (.iconst 2, 1, [], [], 0, 2, 0, 288),
  (.iadd, 1, [], [], 0, 0, 0, 289),
  (.iaload, 1, [], [], 0, 0, 0, 290),
  (.aload_n 0, 1, [], [], 0, 0, 0, 291),
  (.iload_n 3, 1, [], [], 3, 0, 0, 292),
  (.iconst 3, 1, [], [], 0, 3, 0, 293),
  (.iadd, 1, [], [], 0, 0, 0, 294),
  (.iaload, 1, [], [], 0, 0, 0, 295),
  (.invokevirtual 32, 3, [(9, 147)], [[4141, 4142, 4143, 2001]], 3, 0, 0, 296), mm_nop, mm_nop,
  (.aload_n 2, 1, [], [], 2, 0, 0, 299),
  (.aload_n 0, 1, [], [], 0, 0, 0, 300),
  (.iload_n 3, 1, [], [], 3, 0, 0, 301),
  (.iconst 1, 1, [], [], 0, 1, 0, 302),
  (.iadd, 1, [], [], 0, 0, 0, 303),
  (.iaload, 1, [], [], 0, 0, 0, 304),
  (.aload_n 0, 1, [], [], 0, 0, 0, 305),
  (.iload_n 3, 1, [], [], 3, 0, 0, 306),
  (.iconst 2, 1, [], [], 0, 2, 0, 307),
  (.iadd, 1, [], [], 0, 0, 0, 308),
  (.iaload, 1, [], [], 0, 0, 0, 309),
  (.aload_n 0, 1, [], [], 0, 0, 0, 310),
  (.iload_n 3, 1, [], [], 3, 0, 0, 311),
  (.iconst 3, 1, [], [], 0, 3, 0, 312),
  (.iadd, 1, [], [], 0, 0, 0, 313),
  (.iaload, 1, [], [], 0, 0, 0, 314),
  (.invokevirtual 36, 3, [(10, 190)], [[7134, 7135, 7136, 2015]], 3, 0, 0, 315), mm_nop, mm_nop,
  (.if_icmp .eq 331, 3, [(0, 649)], [], 0, 0, 0, 318), mm_nop, mm_nop,
  (.iconst 0, 1, [], [], 0, 0, 0, 321),
  (.ireturn, 1, [], [], 0, 0, 0, 322),
  (.aload_n 1, 1, [], [], 1, 0, 0, 323),
  (.aload_n 0, 1, [], [], 0, 0, 0, 324),
  (.iload_n 3, 1, [], [], 3, 0, 0, 325),
  (.iconst 1, 1, [], [], 0, 1, 0, 326),
  (.iadd, 1, [], [], 0, 0, 0, 327),
  (.iaload, 1, [], [], 0, 0, 0, 328),
  (.aload_n 0, 1, [], [], 0, 0, 0, 329),
  (.iload_n 3, 1, [], [], 3, 0, 0, 330),
  (.iconst 2, 1, [], [], 0, 2, 0, 331),
  (.iadd, 1, [], [], 0, 0, 0, 332),
  (.iaload, 1, [], [], 0, 0, 0, 333),
  (.invokevirtual 37, 3, [(9, 148)], [[4154, 4155, 4156, 2001]], 2, 0, 0, 334), mm_nop, mm_nop,
  (.aload_n 2, 1, [], [], 2, 0, 0, 337),
  (.aload_n 0, 1, [], [], 0, 0, 0, 338),
  (.iload_n 3, 1, [], [], 3, 0, 0, 339),
  (.iconst 1, 1, [], [], 0, 1, 0, 340),
  (.iadd, 1, [], [], 0, 0, 0, 341),
  (.iaload, 1, [], [], 0, 0, 0, 342),
  (.aload_n 0, 1, [], [], 0, 0, 0, 343),
  (.iload_n 3, 1, [], [], 3, 0, 0, 344),
  (.iconst 2, 1, [], [], 0, 2, 0, 345),
  (.iadd, 1, [], [], 0, 0, 0, 346),
  (.iaload, 1, [], [], 0, 0, 0, 347),
  (.invokevirtual 40, 3, [(10, 191)], [[7142, 7143, 7144, 2015]], 2, 0, 0, 348), mm_nop, mm_nop,
  (.if_icmp .eq 298, 3, [(0, 649)], [], 0, 0, 0, 351), mm_nop, mm_nop,
  (.iconst 0, 1, [], [], 0, 0, 0, 354),
  (.ireturn, 1, [], [], 0, 0, 0, 355),
  (.aload_n 1, 1, [], [], 1, 0, 0, 356),
  (.aload_n 0, 1, [], [], 0, 0, 0, 357),
  (.iload_n 3, 1, [], [], 3, 0, 0, 358),
  (.iconst 1, 1, [], [], 0, 1, 0, 359),
  (.iadd, 1, [], [], 0, 0, 0, 360),
  (.iaload, 1, [], [], 0, 0, 0, 361),
  (.aload_n 0, 1, [], [], 0, 0, 0, 362),
  (.iload_n 3, 1, [], [], 3, 0, 0, 363),
  (.iconst 2, 1, [], [], 0, 2, 0, 364),
  (.iadd, 1, [], [], 0, 0, 0, 365),
  (.iaload, 1, [], [], 0, 0, 0, 366),
  (.invokevirtual 41, 3, [(9, 150)], [[4171, 4172, 4173, 2001]], 2, 0, 0, 367), mm_nop, mm_nop,
  (.aload_n 2, 1, [], [], 2, 0, 0, 370),
  (.aload_n 0, 1, [], [], 0, 0, 0, 371),
  (.iload_n 3, 1, [], [], 3, 0, 0, 372),
  (.iconst 1, 1, [], [], 0, 1, 0, 373),
  (.iadd, 1, [], [], 0, 0, 0, 374),
  (.iaload, 1, [], [], 0, 0, 0, 375),
  (.aload_n 0, 1, [], [], 0, 0, 0, 376),
  (.iload_n 3, 1, [], [], 3, 0, 0, 377),
  (.iconst 2, 1, [], [], 0, 2, 0, 378),
  (.iadd, 1, [], [], 0, 0, 0, 379),
  (.iaload, 1, [], [], 0, 0, 0, 380),
  (.invokevirtual 44, 3, [(10, 195)], [[7150, 7151, 7152, 2015]], 2, 0, 0, 381), mm_nop, mm_nop,
  (.if_icmp .eq 265, 3, [(0, 649)], [], 0, 0, 0, 384), mm_nop, mm_nop,
  (.iconst 0, 1, [], [], 0, 0, 0, 387),
  (.ireturn, 1, [], [], 0, 0, 0, 388),
  (.aload_n 1, 1, [], [], 1, 0, 0, 389),
  (.aload_n 0, 1, [], [], 0, 0, 0, 390),
  (.iload_n 3, 1, [], [], 3, 0, 0, 391),
  (.iconst 1, 1, [], [], 0, 1, 0, 392),
  (.iadd, 1, [], [], 0, 0, 0, 393),
  (.iaload, 1, [], [], 0, 0, 0, 394),
  (.invokevirtual 45, 3, [(9, 151)], [[4177, 4178, 4179, 2001]], 1, 0, 0, 395), mm_nop, mm_nop,
  (.aload_n 2, 1, [], [], 2, 0, 0, 398),
  (.aload_n 0, 1, [], [], 0, 0, 0, 399),
  (.iload_n 3, 1, [], [], 3, 0, 0, 400),
  (.iconst 1, 1, [], [], 0, 1, 0, 401),
  (.iadd, 1, [], [], 0, 0, 0, 402),
  (.iaload, 1, [], [], 0, 0, 0, 403),
  (.invokevirtual 48, 3, [(10, 197)], [[7182, 7183, 7184, 2015]], 1, 0, 0, 404), mm_nop, mm_nop,
  (.if_icmp .eq 242, 3, [(0, 649)], [], 0, 0, 0, 407), mm_nop, mm_nop,
  (.iconst 0, 1, [], [], 0, 0, 0, 410),
  (.ireturn, 1, [], [], 0, 0, 0, 411),
  (.aload_n 1, 1, [], [], 1, 0, 0, 412),
  (.aload_n 0, 1, [], [], 0, 0, 0, 413),
  (.iload_n 3, 1, [], [], 3, 0, 0, 414),
  (.iconst 1, 1, [], [], 0, 1, 0, 415),
  (.iadd, 1, [], [], 0, 0, 0, 416),
  (.iaload, 1, [], [], 0, 0, 0, 417),
  (.aload_n 0, 1, [], [], 0, 0, 0, 418),
  (.iload_n 3, 1, [], [], 3, 0, 0, 419),
  (.iconst 2, 1, [], [], 0, 2, 0, 420),
  (.iadd, 1, [], [], 0, 0, 0, 421),
  (.iaload, 1, [], [], 0, 0, 0, 422),
  (.invokevirtual 49, 3, [(9, 152)], [[4186, 4187, 4188, 2001]], 2, 0, 0, 423), mm_nop, mm_nop,
  (.aload_n 2, 1, [], [], 2, 0, 0, 426),
  (.aload_n 0, 1, [], [], 0, 0, 0, 427),
  (.iload_n 3, 1, [], [], 3, 0, 0, 428),
  (.iconst 1, 1, [], [], 0, 1, 0, 429),
  (.iadd, 1, [], [], 0, 0, 0, 430),
  (.iaload, 1, [], [], 0, 0, 0, 431),
  (.aload_n 0, 1, [], [], 0, 0, 0, 432),
  (.iload_n 3, 1, [], [], 3, 0, 0, 433),
  (.iconst 2, 1, [], [], 0, 2, 0, 434),
  (.iadd, 1, [], [], 0, 0, 0, 435),
  (.iaload, 1, [], [], 0, 0, 0, 436),
  (.invokevirtual 52, 3, [(10, 199)], [[7190, 7191, 7192, 2015]], 2, 0, 0, 437), mm_nop, mm_nop,
  (.if_icmp .eq 209, 3, [(0, 649)], [], 0, 0, 0, 440), mm_nop, mm_nop,
  (.iconst 0, 1, [], [], 0, 0, 0, 443),
  (.ireturn, 1, [], [], 0, 0, 0, 444),
  (.aload_n 1, 1, [], [], 1, 0, 0, 445),
  (.invokevirtual 53, 3, [(9, 153)], [[4191, 4192, 4193, 2001]], 0, 0, 0, 446), mm_nop, mm_nop,
  (.aload_n 2, 1, [], [], 2, 0, 0, 449),
  (.invokevirtual 57, 3, [(10, 202)], [[7198, 7199, 7200, 2015]], 0, 0, 0, 450), mm_nop, mm_nop,
  (.if_icmp .eq 196, 3, [(0, 649)], [], 0, 0, 0, 453), mm_nop, mm_nop,
  (.iconst 0, 1, [], [], 0, 0, 0, 456),
  (.ireturn, 1, [], [], 0, 0, 0, 457),
  (.aload_n 1, 1, [], [], 1, 0, 0, 458),
  (.invokevirtual 58, 3, [(9, 154)], [[4195, 4196, 4197, 2001]], 0, 0, 0, 459), mm_nop, mm_nop,
  (.aload_n 2, 1, [], [], 2, 0, 0, 462),
  (.invokevirtual 61, 3, [(10, 209)], [[7210, 7211, 7212, 2015]], 0, 0, 0, 463), mm_nop, mm_nop,
  (.if_icmp .eq 183, 3, [(0, 649)], [], 0, 0, 0, 466), mm_nop, mm_nop,
  (.iconst 0, 1, [], [], 0, 0, 0, 469),
  (.ireturn, 1, [], [], 0, 0, 0, 470),
  (.aload_n 1, 1, [], [], 1, 0, 0, 471),
  (.aload_n 0, 1, [], [], 0, 0, 0, 472),
  (.iload_n 3, 1, [], [], 3, 0, 0, 473),
  (.iconst 1, 1, [], [], 0, 1, 0, 474),
  (.iadd, 1, [], [], 0, 0, 0, 475),
  (.iaload, 1, [], [], 0, 0, 0, 476),
  (.aload_n 0, 1, [], [], 0, 0, 0, 477),
  (.iload_n 3, 1, [], [], 3, 0, 0, 478),
  (.iconst 2, 1, [], [], 0, 2, 0, 479),
  (.iadd, 1, [], [], 0, 0, 0, 480),
  (.iaload, 1, [], [], 0, 0, 0, 481),
  (.invokevirtual 62, 3, [(9, 155)], [[4199, 4200, 4201, 2001]], 2, 0, 0, 482), mm_nop, mm_nop,
  (.aload_n 2, 1, [], [], 2, 0, 0, 485),
  (.aload_n 0, 1, [], [], 0, 0, 0, 486),
  (.iload_n 3, 1, [], [], 3, 0, 0, 487),
  (.iconst 1, 1, [], [], 0, 1, 0, 488),
  (.iadd, 1, [], [], 0, 0, 0, 489),
  (.iaload, 1, [], [], 0, 0, 0, 490),
  (.aload_n 0, 1, [], [], 0, 0, 0, 491),
  (.iload_n 3, 1, [], [], 3, 0, 0, 492),
  (.iconst 2, 1, [], [], 0, 2, 0, 493),
  (.iadd, 1, [], [], 0, 0, 0, 494),
  (.iaload, 1, [], [], 0, 0, 0, 495),
  (.invokevirtual 65, 3, [(10, 210)], [[7239, 8000, 8001, 2015]], 2, 0, 0, 496), mm_nop, mm_nop,
  (.if_icmp .eq 150, 3, [(0, 649)], [], 0, 0, 0, 499), mm_nop, mm_nop,
  (.iconst 0, 1, [], [], 0, 0, 0, 502),
  (.ireturn, 1, [], [], 0, 0, 0, 503),
  (.aload_n 1, 1, [], [], 1, 0, 0, 504),
  (.aload_n 0, 1, [], [], 0, 0, 0, 505),
  (.iload_n 3, 1, [], [], 3, 0, 0, 506),
  (.iconst 1, 1, [], [], 0, 1, 0, 507),
  (.iadd, 1, [], [], 0, 0, 0, 508),
  (.iaload, 1, [], [], 0, 0, 0, 509),
  (.invokevirtual 66, 3, [(9, 156)], [[4208, 4209, 4210, 2001]], 1, 0, 0, 510), mm_nop, mm_nop,
  (.aload_n 2, 1, [], [], 2, 0, 0, 513),
  (.aload_n 0, 1, [], [], 0, 0, 0, 514),
  (.iload_n 3, 1, [], [], 3, 0, 0, 515),
  (.iconst 1, 1, [], [], 0, 1, 0, 516),
  (.iadd, 1, [], [], 0, 0, 0, 517),
  (.iaload, 1, [], [], 0, 0, 0, 518),
  (.invokevirtual 69, 3, [(10, 211)], [[8003, 8004, 8005, 2015]], 1, 0, 0, 519), mm_nop, mm_nop,
  (.if_icmp .eq 127, 3, [(0, 649)], [], 0, 0, 0, 522), mm_nop, mm_nop,
  (.iconst 0, 1, [], [], 0, 0, 0, 525),
  (.ireturn, 1, [], [], 0, 0, 0, 526),
  (.aload_n 1, 1, [], [], 1, 0, 0, 527),
  (.invokevirtual 70, 3, [(9, 157)], [[4216, 4217, 4218, 2001]], 0, 0, 0, 528), mm_nop, mm_nop,
  (.aload_n 2, 1, [], [], 2, 0, 0, 531),
  (.invokevirtual 73, 3, [(10, 212)], [[8007, 8008, 8009, 2015]], 0, 0, 0, 532), mm_nop, mm_nop,
  (.if_icmp .eq 114, 3, [(0, 649)], [], 0, 0, 0, 535), mm_nop, mm_nop,
  (.iconst 0, 1, [], [], 0, 0, 0, 538),
  (.ireturn, 1, [], [], 0, 0, 0, 539),
  (.aload_n 1, 1, [], [], 1, 0, 0, 540),
  (.invokevirtual 74, 3, [(9, 158)], [[4224, 4225, 4226, 2001]], 0, 0, 0, 541), mm_nop, mm_nop,
  (.aload_n 2, 1, [], [], 2, 0, 0, 544),
  (.invokevirtual 77, 3, [(10, 229)], [[8011, 8012, 8013, 2015]], 0, 0, 0, 545), mm_nop, mm_nop,
  (.if_icmp .eq 101, 3, [(0, 649)], [], 0, 0, 0, 548), mm_nop, mm_nop,
  (.iconst 0, 1, [], [], 0, 0, 0, 551),
  (.ireturn, 1, [], [], 0, 0, 0, 552),
  (.aload_n 1, 1, [], [], 1, 0, 0, 553),
  (.invokevirtual 78, 3, [(9, 159)], [[6037, 6038, 6039, 2001]], 0, 0, 0, 554), mm_nop, mm_nop,
  (.aload_n 2, 1, [], [], 2, 0, 0, 557),
  (.invokevirtual 81, 3, [(10, 230)], [[8079, 8080, 8081, 2015]], 0, 0, 0, 558), mm_nop, mm_nop,
  (.if_icmp .eq 88, 3, [(0, 649)], [], 0, 0, 0, 561), mm_nop, mm_nop,
  (.iconst 0, 1, [], [], 0, 0, 0, 564),
  (.ireturn, 1, [], [], 0, 0, 0, 565),
  (.aload_n 1, 1, [], [], 1, 0, 0, 566),
  (.aload_n 0, 1, [], [], 0, 0, 0, 567),
  (.iload_n 3, 1, [], [], 3, 0, 0, 568),
  (.iconst 1, 1, [], [], 0, 1, 0, 569),
  (.iadd, 1, [], [], 0, 0, 0, 570),
  (.iaload, 1, [], [], 0, 0, 0, 571),
  (.invokevirtual 82, 3, [(9, 160)], [[6041, 6042, 6043, 2001]], 1, 0, 0, 572), mm_nop, mm_nop,
  (.aload_n 2, 1, [], [], 2, 0, 0, 575),
  (.aload_n 0, 1, [], [], 0, 0, 0, 576),
  (.iload_n 3, 1, [], [], 3, 0, 0, 577),
  (.iconst 1, 1, [], [], 0, 1, 0, 578),
  (.iadd, 1, [], [], 0, 0, 0, 579),
  (.iaload, 1, [], [], 0, 0, 0, 580),
  (.invokevirtual 85, 3, [(10, 231)], [[8083, 8084, 8085, 2015]], 1, 0, 0, 581), mm_nop, mm_nop,
  (.if_icmp .eq 65, 3, [(0, 649)], [], 0, 0, 0, 584), mm_nop, mm_nop,
  (.iconst 0, 1, [], [], 0, 0, 0, 587),
  (.ireturn, 1, [], [], 0, 0, 0, 588),
  (.aload_n 1, 1, [], [], 1, 0, 0, 589),
  (.aload_n 0, 1, [], [], 0, 0, 0, 590),
  (.iload_n 3, 1, [], [], 3, 0, 0, 591),
  (.iconst 1, 1, [], [], 0, 1, 0, 592),
  (.iadd, 1, [], [], 0, 0, 0, 593),
  (.iaload, 1, [], [], 0, 0, 0, 594),
  (.invokevirtual 86, 3, [(9, 161)], [[6049, 6050, 6051, 2001]], 1, 0, 0, 595), mm_nop, mm_nop,
  (.aload_n 2, 1, [], [], 2, 0, 0, 598),
  (.aload_n 0, 1, [], [], 0, 0, 0, 599),
  (.iload_n 3, 1, [], [], 3, 0, 0, 600),
  (.iconst 1, 1, [], [], 0, 1, 0, 601),
  (.iadd, 1, [], [], 0, 0, 0, 602),
  (.iaload, 1, [], [], 0, 0, 0, 603),
  (.invokevirtual 89, 3, [(10, 232)], [[8087, 8088, 8089, 2015]], 1, 0, 0, 604), mm_nop, mm_nop,
  (.if_icmp .eq 42, 3, [(0, 649)], [], 0, 0, 0, 607), mm_nop, mm_nop,
  (.iconst 0, 1, [], [], 0, 0, 0, 610),
  (.ireturn, 1, [], [], 0, 0, 0, 611),
  (.aload_n 1, 1, [], [], 1, 0, 0, 612),
  (.aload_n 0, 1, [], [], 0, 0, 0, 613),
  (.iload_n 3, 1, [], [], 3, 0, 0, 614),
  (.iconst 1, 1, [], [], 0, 1, 0, 615),
  (.iadd, 1, [], [], 0, 0, 0, 616),
  (.iaload, 1, [], [], 0, 0, 0, 617),
  (.invokevirtual 90, 3, [(9, 162)], [[6057, 6058, 6059, 2001]], 1, 0, 0, 618), mm_nop, mm_nop,
  (.aload_n 2, 1, [], [], 2, 0, 0, 621),
  (.aload_n 0, 1, [], [], 0, 0, 0, 622),
  (.iload_n 3, 1, [], [], 3, 0, 0, 623),
  (.iconst 1, 1, [], [], 0, 1, 0, 624),
  (.iadd, 1, [], [], 0, 0, 0, 625),
  (.iaload, 1, [], [], 0, 0, 0, 626),
  (.invokevirtual 93, 3, [(10, 233)], [[8091, 8092, 8093, 2015]], 1, 0, 0, 627), mm_nop, mm_nop,
  (.if_icmp .eq 19, 3, [(0, 649)], [], 0, 0, 0, 630), mm_nop, mm_nop,
  (.iconst 0, 1, [], [], 0, 0, 0, 633),
  (.ireturn, 1, [], [], 0, 0, 0, 634),
  (.aload_n 1, 1, [], [], 1, 0, 0, 635),
  (.invokevirtual 94, 3, [(9, 163)], [[6070, 6071, 6072, 2001]], 0, 0, 0, 636), mm_nop, mm_nop,
  (.aload_n 2, 1, [], [], 2, 0, 0, 639),
  (.invokevirtual 98, 3, [(10, 235)], [[8095, 8096, 8097, 2015]], 0, 0, 0, 640), mm_nop, mm_nop,
  (.lcmp, 1, [], [], 0, 0, 0, 643),
  (.ifCond .eq 5, 3, [(0, 649)], [], 0, 0, 0, 644), mm_nop, mm_nop,
  (.iconst 0, 1, [], [], 0, 0, 0, 647),
  (.ireturn, 1, [], [], 0, 0, 0, 648),
  (.iinc 3 6, 3, [], [], 3, 6, 0, 649), mm_nop, mm_nop,
  (.goto (-634), 3, [(0, 18)], [], 0, 0, 0, 652), mm_nop, mm_nop,
  (.iconst 1, 1, [], [], 0, 1, 0, 655),
  (.ireturn, 1, [], [], 0, 0, 0, 656)]
def mm_ms : List mm_M := [mm_m0, mm_m1, mm_m2, mm_m3, mm_m4, mm_m5, mm_m6, mm_m7, mm_m8, mm_m9, mm_m10, mm_m11, mm_m12, mm_m13, mm_m14, mm_m15, mm_m16, mm_m17, mm_m18, mm_m19, mm_m20, mm_m21, mm_m22, mm_m23, mm_m24, mm_m25, mm_m26, mm_m27, mm_m28, mm_m29, mm_m30, mm_m31, mm_m32, mm_m33, mm_m34, mm_m35, mm_m36, mm_m37, mm_m38, mm_m39, mm_m40, mm_m41, mm_m42, mm_m43, mm_m44, mm_m45, mm_m46, mm_m47, mm_m48, mm_m49, mm_m50, mm_m51, mm_m52, mm_m53, mm_m54, mm_m55, mm_m56, mm_m57, mm_m58, mm_m59, mm_m60, mm_m61, mm_m62, mm_m63, mm_m64, mm_m65, mm_m66, mm_m67, mm_m68, mm_m69, mm_m70, mm_m71, mm_m72, mm_m73, mm_m74, mm_m75, mm_m76, mm_m77, mm_m78, mm_m79, mm_m80, mm_m81, mm_m82, mm_m83, mm_m84, mm_m85, mm_m86, mm_m87, mm_m88, mm_m89, mm_m90, mm_m91, mm_m92, mm_m93, mm_m94, mm_m95, mm_m96, mm_m97, mm_m98, mm_m99, mm_m100, mm_m101, mm_m102, mm_m103, mm_m104, mm_m105, mm_m106, mm_m107, mm_m108, mm_m109, mm_m110, mm_m111, mm_m112, mm_m113, mm_m114, mm_m115, mm_m116, mm_m117, mm_m118, mm_m119, mm_m120, mm_m121, mm_m122, mm_m123, mm_m124, mm_m125, mm_m126, mm_m127, mm_m128, mm_m129, mm_m130, mm_m131, mm_m132, mm_m133, mm_m134, mm_m135, mm_m136, mm_m137, mm_m138, mm_m139, mm_m140, mm_m141, mm_m142, mm_m143, mm_m144, mm_m145, mm_m146, mm_m147, mm_m148, mm_m149, mm_m150, mm_m151, mm_m152, mm_m153, mm_m154, mm_m155, mm_m156, mm_m157, mm_m158, mm_m159, mm_m160, mm_m161, mm_m162, mm_m163, mm_m164, mm_m165, mm_m166, mm_m167, mm_m168, mm_m169, mm_m170, mm_m171, mm_m172, mm_m173, mm_m174, mm_m175, mm_m176, mm_m177, mm_m178, mm_m179, mm_m180, mm_m181, mm_m182, mm_m183, mm_m184, mm_m185, mm_m186, mm_m187, mm_m188, mm_m189, mm_m190, mm_m191, mm_m192, mm_m193, mm_m194, mm_m195, mm_m196, mm_m197, mm_m198, mm_m199, mm_m200, mm_m201, mm_m202, mm_m203, mm_m204, mm_m205, mm_m206, mm_m207, mm_m208, mm_m209, mm_m210, mm_m211, mm_m212, mm_m213, mm_m214, mm_m215, mm_m216, mm_m217, mm_m218, mm_m219, mm_m220, mm_m221, mm_m222, mm_m223, mm_m224, mm_m225, mm_m226, mm_m227, mm_m228, mm_m229, mm_m230, mm_m231, mm_m232, mm_m233, mm_m234, mm_m235, mm_m236]
def mm_ips : List Nat := [2120, 3022, 2068, 2168, 2099, 2209, 2039, 2025, 2184, 2017, 6093]
def mm_cps : List (List Nat) := [[2140, 2142, 2144, 2146, 2148, 2150, 2152, 2154, 2156, 2158, 2160, 2162, 2164], [3033, 3034, 3035, 3036, 3037, 3038, 3039, 3040, 3041, 3042, 3043, 3044, 3029, 3031], [2081, 2083, 2085, 2087, 2089, 2091, 2093, 2095], [2176, 2178, 2180], [2110, 2112, 2114, 2116], [2236, 2238, 3000, 3002, 3004, 3006, 3008, 3010, 3012, 3014, 3016, 3018, 2234], [2051, 2053, 2055, 2057, 2059, 2061, 2063], [2032, 2034], [2195, 2197, 2199, 2201, 2203, 2205], [3239, 4001, 4003, 4005, 4007, 4009, 4011, 4013, 4015, 4017, 4019, 4021], [6165, 6167, 6169, 6171, 6173, 6175, 6177, 6179, 6181, 6183, 6185, 6187, 6189, 6191, 6193, 6195, 6197, 6199, 6201, 6203, 6205, 6207, 6209, 6211, 6213, 6215, 6217, 6219, 6221, 6223, 6225, 6227, 6229, 6231, 6233, 6235, 6237, 6239, 7001, 7003, 7005, 7007, 7009, 7011, 7013, 7015, 7017, 7019, 7021, 7023, 7025, 7027, 7029, 7031, 7033, 7035, 7037, 7039, 7041, 7043, 7045, 7047, 7049, 7051, 7053, 7055, 7057]]
end
section
/-! THE CLAIM OUT OF ONE WALK OF THE LAW'S BODY. Your part is whole_start (and what it stands on); all else here is the same for every law, but numbers. -/
def R_law : String := "TypeCopierLaw"
def lw_P (b : Addr) (xs : List Int32) (args : Array Value) (s : State) : Prop := args = #[.ref b] ∧ s.IntsAt b xs ∧ xs.length ≤ 3072 ∧ (Jvm.Cond.and given_1 narrow_1).before args s = true
def lw_Q (_ : Array Value) (s : State) (o : Outcome) (t : State) : Prop := o = .returned (some (.int 1)) ∧ Framed s o t [] 600000 7302250
def lw_Z (below : List Frame) (a : Array Value) (s : State) : State → Prop := fun t => ∃ o, t.status = .running ∧ Ended t below o ∧ lw_Q a s o t
/-- the law's own end, with 1 on the stack, nothing written that was there before, its room as the claim has it -/
theorem lw_ret {p : Program} {l : Launch} {e : Env} {s : State} {m : MethodId} {below : List Frame} {meth : Method} {c : Code} {b : Nat} (hx : p.tables.exec = Jvm.exec) (hb : c.code = code) (hr : meth.sig.returnType = ret) (hlocks : meth.locks = false) {pc : Nat} {H : Heap} {ls : Array Slot} (hdg : decode code pc = .ok (.ireturn, 1)) : W p l e room_1 s m #[Value.ref b] below meth c H [] 600000 7302250 (lw_Z below #[Value.ref b] s) (F0 m pc ls [.int 1]) := by
  intro T hT X
  obtain ⟨fs, hret, hrun, hended, hW, hframe⟩ := X.leave (v := some (.int 1)) (hlocks := hlocks) (fun h => by rw [hr] at h; cases h)
  have hmeth' : T.vm.method? m = some meth := X.method'
  refine ⟨T.setFrames fs, ?_, .returned (some (.int 1)), hrun, hended, rfl, ⟨_, rfl⟩, hW, hframe⟩
  jvm_step X.here [X.here.top, hx, hb, hdg, hmeth', hr, ret, narrow_b1]
  (try refine ⟨rfl, ?_⟩); (try refine ⟨rfl, ?_⟩)
  first | (intro acts; rw [hret _ acts rfl rfl rfl]) | rw [hret _ _ rfl rfl rfl]
  exact Steps.refl _
/-- what holds at the law's entry: the machine, the code, the tables' words (any of lw_tbl by 'hts w (by decide +kernel)'), the script of L ints xs at the cell b, what the Statement gives of the start (any of its parts by flat_of_before) -/
def lw_At (p : Program) (s : State) (m : MethodId) (meth : Method) (c : Code) (b L : Nat) (xs : Nat → Int32) : Prop :=
  p.tables.exec = Jvm.exec ∧ c.code = code ∧ meth.sig.returnType = ret ∧ c.maxLocals = 4 ∧ s.vm.findClass R_law = some m.cls ∧ (∀ w ∈ lw_tbl, w.before #[Value.ref b] s = true) ∧ va_X b L xs s s.heap ∧ b < s.heap.size ∧ meth.locks = false ∧ (Jvm.Cond.and given_1 narrow_1).before #[Value.ref b] s = true
/-! ===== the law's start, out of a run of the abstract machine ===== -/
def mm_rooms : List Int64 := [4, 24, 624, 390624, 152587890624]
def mm_wants : List Int32 := [1, 1, 0, 2, 2, 3, 2, 1, 1, 1, 2, 1, 1, 1, 4]
def mm_parts : List Int32 := [0, 0, 0, 2, 2, 3, 2, 1, 1, 0, 2, 1, 1, 1, 1]
def mm_tb (L : Nat) (xs : Nat → Int32) : mm_T := fun j => match j with
  | 1 => (5, .inr (fun i => mm_rooms.getD i 0))
  | 2 => (15, .inl (fun i => mm_wants.getD i 0))
  | 3 => (15, .inl (fun i => mm_parts.getD i 0))
  | _ => (L, .inl xs)
theorem mm_sti {args : Array Value} {s : State} {C n d : String} {A : Nat → Prop} (l : List Int32) (N : Nat) (hN : N < 2 ^ 31) (hq : ∀ w ∈ flatC narrow_1, w.before args s = true) (h1 : Cond.arrayOf (.static C n d) .int ∈ flatC narrow_1) (h2 : Cond.eq (.length (.static C n d)) (.int (Int32.ofNat N)) ∈ flatC narrow_1) (h3 : ∀ j, j < N → Cond.eq (.elem (.static C n d) (.int (Int32.ofNat j))) (.int (l.getD j 0)) ∈ flatC narrow_1) (hA : ∀ a : Nat, a < s.heap.size → ¬ A a) : ∃ t : Nat, (Term.static C n d).eval args s none [] s = some (.ref t) ∧ va_T .int t N (fun i => .int (l.getD i 0)) A s s.heap :=
  va_Tof hN (hq _ h1) (va_eqt (hq _ h2)) (fun j hj => va_eqt (hq _ (h3 j hj))) hA
theorem mm_stl {args : Array Value} {s : State} {C n d : String} {A : Nat → Prop} (l : List Int64) (N : Nat) (hN : N < 2 ^ 31) (hq : ∀ w ∈ flatC narrow_1, w.before args s = true) (h1 : Cond.arrayOf (.static C n d) .long ∈ flatC narrow_1) (h2 : Cond.eq (.length (.static C n d)) (.int (Int32.ofNat N)) ∈ flatC narrow_1) (h3 : ∀ j, j < N → Cond.eq (.elem (.static C n d) (.int (Int32.ofNat j))) (.long (l.getD j 0)) ∈ flatC narrow_1) (hA : ∀ a : Nat, a < s.heap.size → ¬ A a) : ∃ t : Nat, (Term.static C n d).eval args s none [] s = some (.ref t) ∧ va_T .long t N (fun i => .long (l.getD i 0)) A s s.heap :=
  va_Tof hN (hq _ h1) (va_eqt (hq _ h2)) (fun j hj => va_eqtl (hq _ (h3 j hj))) hA
theorem mm_known {s : State} {args : Array Value} (hts : ∀ w ∈ mm_GW, w.before args s = true) (hcw : ∀ (ci : Nat) (q : vw_C), mm_cl[ci]? = some q → ∀ w ∈ u_ws q.1 q.2.1 q.2.2, w ∈ mm_GW) (hin : ∀ (ci : Nat) (q : vw_C), mm_cl[ci]? = some q → Cond.instantiable q.1 q.2.2 ∈ mm_GW) : ∃ D : va_G, ∀ (k : Nat) (q : vw_C), mm_cl[k]? = some q → u_Kn s q.1 q.2.1 q.2.2 (D.1 k) (D.2 k) := by
  have h : ∀ k : Nat, ∃ (x : ClassId × (Nat → Nat)), ∀ q : vw_C, mm_cl[k]? = some q → u_Kn s q.1 q.2.1 q.2.2 x.1 x.2 := by
    intro k
    cases hq : mm_cl[k]? with
    | none => exact ⟨(0, fun _ => 0), fun q h => by cases h⟩
    | some q =>
      obtain ⟨c, iS, hK⟩ := u_known (C := q.1) (T := q.2.1) (N := q.2.2) hts (hcw k q hq) (hts _ (hin k q hq))
      exact ⟨(c, iS), fun q' h => by cases h; exact hK⟩
  exact ⟨(fun k => (Classical.choose (h k)).1, fun k => (Classical.choose (h k)).2), fun k q hq => Classical.choose_spec (h k) q hq⟩
def mm_ML : mm_M := (x, code, 4, ret, mm_kL, 1, 0, 0, 0)
set_option maxHeartbeats 4000000 in
theorem mm_start (d : Nat) (hd40 : d ≤ 40) (hmna : mm_mnaA) (hcw : ∀ (ci : Nat) (q : vw_C), mm_cl[ci]? = some q → ∀ w ∈ u_ws q.1 q.2.1 q.2.2, w ∈ mm_GW) (hin : ∀ (ci : Nat) (q : vw_C), mm_cl[ci]? = some q → Cond.instantiable q.1 q.2.2 ∈ mm_GW) (hM : ∀ (mi : Nat) (M' : mm_M), mm_ms[mi]? = some M' → mm_ckm mm_ms M' = true) (hLk : mm_cks mm_ms x code 4 0 mm_kL = true)
    {p : Program} {e : Env} {s : State} {m : MethodId} {below : List Frame} {meth : Method} {c : Code} (l : Launch) {b L : Nat} {xs : Nat → Int32} (C0 : lw_At p s m meth c b L xs) (hL : L ≤ 3072)
    (hW : mm_WP (mm_call mm_ms (mm_tb L xs) d) mm_ms (mm_tb L xs) mm_ML (600000, 7302250) (fun o _ => o = some (mm_I 1)) 0 [some (mm_S 0), none, none, none] [] ([], fun _ _ => 0, fun _ _ => 0)) : W p l e room_1 s m #[Value.ref b] below meth c s.heap [] 0 0 (lw_Z below #[Value.ref b] s) (entryFrame m ([Value.ref b] : List Value).toArray 4) := by
  obtain ⟨hx, hb, hr, hml, hown, hts0, hX, hbl, hlocks, hgv⟩ := C0
  have htsT := mm_tbl_ok hts0
  have hts : ∀ w ∈ mm_GW, w.before #[Value.ref b] s = true := fun w hw => htsT w (List.mem_filter.mp hw).1
  obtain ⟨D, hKn⟩ := mm_known hts hcw hin
  have hs := flat_of_before _ hgv
  have hA : ∀ a : Nat, a < s.heap.size → ¬ mm_A s.heap.size a := fun a h => Nat.not_le.mpr h
  have hqn : ∀ w ∈ flatC narrow_1, w.before #[Value.ref b] s = true := fun w hw => hs w (List.mem_append_right _ hw)
  obtain ⟨t1, ht1, hT1⟩ := mm_stl (C := "TypeCopier$Shape") (n := "ROOMS") (d := "[J") (A := mm_A s.heap.size) mm_rooms 5 (by decide) hqn (by decide +kernel) (by decide +kernel) (by decide +kernel) hA
  obtain ⟨t2, ht2, hT2⟩ := mm_sti (C := "TypeCopier$Nodes") (n := "WANTS") (d := "[I") (A := mm_A s.heap.size) mm_wants 15 (by decide) hqn (by decide +kernel) (by decide +kernel) (by decide +kernel) hA
  obtain ⟨t3, ht3, hT3⟩ := mm_sti (C := "TypeCopier$Nodes") (n := "PARTS") (d := "[I") (A := mm_A s.heap.size) mm_parts 15 (by decide) hqn (by decide +kernel) (by decide +kernel) (by decide +kernel) hA
  have hZ1 := va_Zof (A := mm_A s.heap.size) (hts0 (Cond.laysStatic "TypeCopier$Shape" "ROOMS" "[J") (by decide +kernel)) (hts0 (Cond.initialized "TypeCopier$Shape") (by decide +kernel)) ht1 hA
  have hZ2 := va_Zof (A := mm_A s.heap.size) (hts0 (Cond.laysStatic "TypeCopier$Nodes" "WANTS" "[I") (by decide +kernel)) (hts0 (Cond.initialized "TypeCopier$Nodes") (by decide +kernel)) ht2 hA
  have hZ3 := va_Zof (A := mm_A s.heap.size) (hts0 (Cond.laysStatic "TypeCopier$Nodes" "PARTS" "[I") (by decide +kernel)) (hts0 (Cond.initialized "TypeCopier$Nodes") (by decide +kernel)) ht3 hA
  have hT0 : va_T .int b L (fun i => .int (xs i)) (mm_A s.heap.size) s s.heap := by
    obtain ⟨scr, h1, h2, h3, h4, h5⟩ := hX
    exact ⟨scr, h1, h2, h3, by omega, by rw [h4], h5, hA b hbl⟩
  generalize hsad : (fun j => match j with | 1 => t1 | 2 => t2 | 3 => t3 | _ => b : Nat → Nat) = sad
  have hSx : mm_Sx (mm_tb L xs) sad s.heap.size s s.heap := by
    subst hsad
    refine ⟨fun j => ?_, fun j C n ds hj => ?_, fun q w hw => ?_⟩
    · match j with
      | 0 => exact hT0
      | 1 => exact hT1
      | 2 => exact hT2
      | 3 => exact hT3
      | j + 4 => exact hT0
    · match j, hj with
      | 0, hj => cases hj
      | 1, hj => cases hj; exact hZ1
      | 2, hj => cases hj; exact hZ2
      | 3, hj => cases hj; exact hZ3
      | j + 4, hj => cases hj
    · simp only [mm_az, Bool.and_eq_true, decide_eq_true_eq] at hw
      have h9 := htsT w (mm_g_in hw.1)
      have hz := hw.2
      unfold mm_nzk at hz
      split at hz
      · exact va_Nw.of rfl h9
      · exact va_Nw.of rfl h9
      · exact h9
      · cases hz
  have hK : va_K D mm_cl [] s := ⟨hKn, fun k q h => by simp at h⟩
  have hl := lv_entry ([.ref b]) (n := 4) (Nat.le_of_ble_eq_true rfl)
  rw [lg_entry_eq]
  generalize (lg_sl ([.ref b]) ++ List.replicate (4 - (lg_sl ([.ref b])).length) Slot.unset).toArray = la at hl ⊢
  have hsad0 : sad 0 = b := (congrFun hsad 0).symm
  have hcall := mm_met (l := l) (D := D) (B0 := s.heap.size) (sad := sad) (tb := mm_tb L xs) hmna hcw hM d
  have hh : ∀ (mi : Nat) (M' : mm_M), mm_ms[mi]? = some M' → mm_ckh M' = true := fun mi M' q => by
    have := hM mi M' q
    simp only [mm_ckm, Bool.and_eq_true] at this
    exact this.1
  have hres := hW (mm_Rel p l e room_1 s m #[Value.ref b] below meth c (lw_Z below #[Value.ref b] s) D s.heap.size sad 0 (fun _ => 0) (600000, 7302250) 4) (mm_step (M := mm_ML) (d := d) hx hb hml hown hts hcw (fun q => absurd q (by decide +kernel)) hSx (Nat.le_refl _) hcall hh (by show d + 1 ≤ 2048; omega) (by show 40 * (d + 1) ≤ 84000; omega) hLk (hmna _ _ _ _ _ _ _ _ _ _ _ _ _ _ _ _ _ _ _ _ (mm_tb L xs) hx hb hown hts hSx (Nat.le_refl _)) (fun pc o w ad H locs cells slots la ls hrt hQ O => by
    subst hQ
    obtain ⟨o1, o2, o3, o4, hH, hS, oL, o8, o9⟩ := O
    refine va_forget (fun q hq => hS.2.2 q hq) ?_
    have k1 : cells ≤ 600000 := by
      have : room_1.cells = 600000 := rfl
      omega
    have k2 : slots ≤ 7302250 := by
      have : room_1.slots = 7302250 := rfl
      omega
    refine W.widen k1 k2 ?_
    exact lw_ret hx hb hr hlocks hrt.1)) (fun _ => 0) s.heap [] 0 0 la ?_
  · exact hres
  · refine ⟨fun _ _ => rfl, Nat.le_refl _, Nat.zero_le _, Nat.zero_le _, ⟨fun _ => 0, [], hK, fun k q h => by simp [mm_ws] at h, ⟨fun i j q r h => by simp [mm_ws] at h, fun k q h => by simp [mm_ws] at h⟩, fun k c h => by simp at h⟩, va_S.rf, mm_lv_weak hl (fun q hq => ?_), ?_, ?_⟩
    · obtain ⟨v, h1, h2⟩ := mm_lv_mem.mp hq
      match hi : q.1, h1 with
      | 0, h1 =>
        have : v = mm_S 0 := by simpa using h1.symm
        subst this
        have : q = (0, Value.ref b) := Prod.ext hi (by rw [h2]; simp [mm_cv, hsad0])
        rw [this]
        simp [lv_args]
      | 1, h1 => simp at h1
      | 2, h1 => simp at h1
      | 3, h1 => simp at h1
      | k + 4, h1 => simp at h1
    · show 0 + (600000 - 0) ≤ 600000
      omega
    · show 0 + (7302250 - mm_sl []) ≤ 7302250
      omega
end
section
/-! ===== BEGIN new T[n][m]: the outer array a place, the inner ones among the pooled ===== -/
/-- f, but v at every address of l -/
def vr_up {α : Type} (f : Nat → α) (l : List Nat) (v : α) : Nat → α := fun a => if a ∈ l then v else f a
theorem vr_up_in {α : Type} {f : Nat → α} {l : List Nat} {v : α} {a : Nat} (h : a ∈ l) : vr_up f l v a = v := if_pos h
theorem vr_up_ne {α : Type} {f : Nat → α} {l : List Nat} {v : α} {a : Nat} (h : a ∉ l) : vr_up f l v a = f a := if_neg h
theorem vr_rows {L l : List Nat} {f : Nat → va_E} {e : va_E} (h : ∀ a, a ∈ l → a ∉ L) : va_pl L f ++ l.map (fun a => (a, e)) = va_pl (L ++ l) (vr_up f l e) := by
  unfold va_pl
  rw [List.map_append]
  congr 1
  · apply List.map_congr_left
    intro a ha
    rw [vr_up_ne (fun q => h a q ha)]
  · apply List.map_congr_left
    intro a ha
    rw [vr_up_in ha]
theorem vr_lay {X rows : va_W} {x : Nat × va_E} {pl : va_W} {D : va_G} {cl : List vw_C} {H : Heap} (hP : va_P D cl (((X ++ pl) ++ [x]) ++ rows) H) : va_P D cl ((X ++ [x]) ++ (pl ++ rows)) H := by
  rw [List.append_assoc (X ++ pl)] at hP
  have h := va_P.swap hP
  rw [← List.append_assoc X] at h
  have h2 := va_P.swap h
  rw [List.append_assoc (X ++ [x])] at h2
  exact h2
theorem vr_layD {X rows : va_W} {x : Nat × va_E} {pl : va_W} {A : Nat → Prop} (hD : va_D A (((X ++ pl) ++ [x]) ++ rows)) : va_D A ((X ++ [x]) ++ (pl ++ rows)) := by
  rw [List.append_assoc (X ++ pl)] at hD
  have h := va_D.swap hD
  rw [← List.append_assoc X] at h
  have h2 := va_D.swap h
  rw [List.append_assoc (X ++ [x])] at h2
  exact h2
theorem vr_outer (c : ClassId) (N h0 : Nat) : ∀ i : Nat, Jvm.Free.Multi.outerC c N h0 i = arrV c N (fun j => va_rf (if j < i then some (h0 + 1 + j) else none))
  | 0 => by
    show ({ cls := c, slots := Array.replicate N .null, vm := .none } : Cell) = _
    rw [arrV_new]
    refine congrArg (arrV c N) (funext fun j => ?_)
    simp [va_rf]
  | i + 1 => by
    show (Jvm.Free.Multi.outerC c N h0 i).setSlot i (.ref (h0 + 1 + i)) = _
    rw [vr_outer c N h0 i, arrV_store]
    refine congrArg (arrV c N) (funext fun j => ?_)
    by_cases e : j = i
    · subst e
      simp [updV, va_rf]
    · by_cases h : j < i
      · simp [updV, e, h, Nat.lt_succ_of_lt h]
      · simp [updV, e, h, show ¬ j < i + 1 by omega]
section VGM
variable {p : Program} {l : Launch} {e : Env} {R : Room} {s : State} {m : MethodId} {args : Array Value} {below : List Frame} {meth : Method} {c : Code} {H : Heap} {locs : List Loc} {cells slots : Nat} {Q : State → Prop}
variable {cc : ByteArray} {pc : Nat} {ls : Array Slot} {rest : List Value} {D : va_G} {cl : List vw_C} {A : Nat → Prop} {a : Nat} {tys : List (ClassId × FieldType)} {ws : va_W} {H0 : Heap}
theorem va_mna {X : va_W} {L : List Nat} {f : Nat → va_E} {cc : ByteArray} (hexec : p.tables.exec = Jvm.exec) (hb : c.code = cc) {own : String} {index : Nat} {ty : FieldType} {cy : ClassId} (hown : s.vm.findClass own = some m.cls) (hclink : (Cond.classLink own index ("[" ++ (FieldType.array ty).toString)).before args s = true) (hover : va_Nw (.arrayOver (.array ty)) s) (harr : (Cond.arrayClass ty).before args s = true) (hcy : s.vm.findClass (FieldType.array ty).toString = some cy)
    (hK : va_K D cl tys s) (hP : va_P D cl (X ++ va_pl L f) H) (hD : va_D A (X ++ va_pl L f)) (hS : va_S A H0 H locs) (hA : ∀ q, H0.size ≤ q → A q) {n k : Int32} {N' K' : Nat} {z : vp_A} (hn : ¬ n < 0) (hk : ¬ k < 0) (hN : n.toNatClampNeg = N') (hM : k.toNatClampNeg = K')
    (hb1 : N' * 4 ≤ 536870912) (hb2 : K' * componentBytes ty ≤ 536870912) (hb3 : K' ≤ 536870912) (hdf : fits ty (defaultValue ty) = true) (hdd : (defaultValue ty).isDefault = true) (hcells : cells + (1 + N') ≤ R.cells) (hslots : slots + (N' + N' * K') ≤ R.slots) (hz : ∀ c : ClassId, Jvm.Free.Multi.innerC c K' (defaultValue ty) = vp_cell c z) (hdg : decode cc pc = .ok (.multianewarray index 2, 4))
    (kk : ∀ (q : Nat) (r : Nat → Nat) (cA : ClassId) (H1 : Heap), (∀ i j : Nat, i < N' → j < N' → r i = r j → i = j) → (∀ i : Nat, i < N' → r i ∉ L) → va_K D cl (tys ++ [(cA, .array ty)]) s →
      va_P D cl ((X ++ [(q, .inl (cA, N', .inr (.inr (.inr (.inr (fun i => if i < N' then some (r i) else none))))))]) ++ va_pl (L ++ (List.range N').map r) (vr_up f ((List.range N').map r) (.inl (cy, z)))) H1 → va_D A ((X ++ [(q, .inl (cA, N', .inr (.inr (.inr (.inr (fun i => if i < N' then some (r i) else none))))))]) ++ va_pl (L ++ (List.range N').map r) (vr_up f ((List.range N').map r) (.inl (cy, z)))) → va_S A H0 H1 locs →
      W p l e R s m args below meth c H1 locs (cells + 1 + N') (slots + N' + N' * K') Q (F0 m (pc + 4) ls (.ref q :: rest))) : W p l e R s m args below meth c H locs cells slots Q (F0 m pc ls (.int k :: .int n :: rest)) := by
  subst hN
  subst hM
  intro T hT Xs
  obtain ⟨vm₁, cA, comp, -, fA, fC, hO, -, X', step⟩ := Xs.multianewarray2F hexec hown hclink (show (Cond.arrayOver (.array ty)).before args s = true from hover) harr (g := F0 m pc ls (.int k :: .int n :: rest)) rfl (by rw [hb]; exact hdg) rfl hn hk hb1 hb2 hb3 hdf hdd hcells hslots
  have ec : some cy = some comp := hcy.symm.trans fC
  cases ec
  generalize hF : Jvm.Free.Multi.fill (T.setVm vm₁) cA cy n.toNatClampNeg k.toNatClampNeg (defaultValue ty) n.toNatClampNeg = F at X' step
  have hTh : (T.setVm vm₁).heap = H := hT
  obtain ⟨f1, f2, -, -⟩ := Jvm.Free.Multi.fill_facts (T.setVm vm₁) cA cy n.toNatClampNeg k.toNatClampNeg (defaultValue ty) n.toNatClampNeg
  rw [hF, hTh] at f1 f2
  have hold : ∀ x : Nat, x < H.size → F.heap[x]? = H[x]? := fun x hx => by
    have := Jvm.Free.Multi.fill_old (T.setVm vm₁) cA cy n.toNatClampNeg k.toNatClampNeg (defaultValue ty) (a := x) (by rw [hTh]; exact hx) n.toNatClampNeg
    rw [hF, hTh] at this
    exact this
  have hrow : ∀ j : Nat, j < n.toNatClampNeg → F.heap[H.size + 1 + j]? = some (vp_cell cy z) := fun j hj => by
    have := Jvm.Free.Multi.fill_inner (T.setVm vm₁) cA cy n.toNatClampNeg k.toNatClampNeg (defaultValue ty) n.toNatClampNeg j hj
    rw [hF, hTh, hz] at this
    exact this
  have hout : Jvm.Free.Multi.outerC cA n.toNatClampNeg H.size n.toNatClampNeg = vp_cell cA (n.toNatClampNeg, .inr (.inr (.inr (.inr (fun i => if i < n.toNatClampNeg then some (H.size + 1 + i) else none))))) := by
    rw [vp_cell_q]
    exact vr_outer cA n.toNatClampNeg H.size n.toNatClampNeg
  rw [hout] at f2
  have hlt : ∀ a, a ∈ L → a < H.size := fun a ha => by
    obtain ⟨k9, hk9⟩ := va_pl_get (X := X) (f := f) ha
    exact (hP k9 _ hk9).lt
  have hnl : ∀ i : Nat, i < n.toNatClampNeg → H.size + 1 + i ∉ L := fun i _ h => by
    have := hlt _ h
    omega
  have hnm : ∀ a, a ∈ (List.range n.toNatClampNeg).map (fun i => H.size + 1 + i) → a ∉ L := fun a ha h => by
    obtain ⟨i, -, rfl⟩ := List.mem_map.mp ha
    have := hlt _ h
    omega
  have hP0 : va_P D cl (X ++ va_pl L f) F.heap := hP.kept (fun k9 x hx => hold x.1 ((hP k9 x hx).lt))
  have hP1 : va_P D cl ((X ++ va_pl L f) ++ [(H.size, .inl (cA, n.toNatClampNeg, .inr (.inr (.inr (.inr (fun i => if i < n.toNatClampNeg then some (H.size + 1 + i) else none))))))]) F.heap := hP0.app (fun k9 x hx => by
    have h0 : k9 < 1 := (List.getElem?_eq_some_iff.mp hx).1
    rw [show k9 = 0 by omega] at hx
    cases hx
    exact f2)
  have hP2 : va_P D cl (((X ++ va_pl L f) ++ [(H.size, .inl (cA, n.toNatClampNeg, .inr (.inr (.inr (.inr (fun i => if i < n.toNatClampNeg then some (H.size + 1 + i) else none))))))]) ++ ((List.range n.toNatClampNeg).map (fun i => H.size + 1 + i)).map (fun a => (a, .inl (cy, z)))) F.heap := hP1.app (fun k9 x hx => by
    obtain ⟨a, ha, rfl⟩ := List.mem_map.mp (List.mem_of_getElem? hx)
    obtain ⟨i, hi, rfl⟩ := List.mem_map.mp ha
    exact hrow i (List.mem_range.mp hi))
  have hD2 : va_D A (((X ++ va_pl L f) ++ [(H.size, .inl (cA, n.toNatClampNeg, .inr (.inr (.inr (.inr (fun i => if i < n.toNatClampNeg then some (H.size + 1 + i) else none))))))]) ++ ((List.range n.toNatClampNeg).map (fun i => H.size + 1 + i)).map (fun a => (a, .inl (cy, z)))) := by
    have hD1 := hD.push (e := .inl (cA, n.toNatClampNeg, .inr (.inr (.inr (.inr (fun i => if i < n.toNatClampNeg then some (H.size + 1 + i) else none)))))) hP rfl (hA _ hS.1)
    generalize hW1 : (X ++ va_pl L f) ++ [(H.size, .inl (cA, n.toNatClampNeg, .inr (.inr (.inr (.inr (fun i => if i < n.toNatClampNeg then some (H.size + 1 + i) else none))))))] = W1 at hD1 hP1 ⊢
    have hle : ∀ (k9 : Nat) (x : Nat × va_E), W1[k9]? = some x → x.1 ≤ H.size := fun k9 x hx => by
      rw [← hW1] at hx
      by_cases hl : k9 < (X ++ va_pl L f).length
      · rw [List.getElem?_append_left hl] at hx
        exact Nat.le_of_lt ((hP k9 x hx).lt)
      · rw [List.getElem?_append_right (by omega)] at hx
        have h0 : k9 - (X ++ va_pl L f).length < 1 := (List.getElem?_eq_some_iff.mp hx).1
        rw [show k9 - (X ++ va_pl L f).length = 0 by omega] at hx
        cases hx
        exact Nat.le_refl _
    have hr : ∀ (k9 : Nat) (x : Nat × va_E), (((List.range n.toNatClampNeg).map (fun i => H.size + 1 + i)).map (fun a => ((a, .inl (cy, z)) : Nat × va_E)))[k9]? = some x → x.1 = H.size + 1 + k9 := fun k9 x hx => by
      rw [List.getElem?_map, List.getElem?_map] at hx
      by_cases h9 : k9 < n.toNatClampNeg
      · rw [List.getElem?_range h9] at hx
        cases hx
        rfl
      · have hn0 : (List.range n.toNatClampNeg)[k9]? = none := List.getElem?_eq_none (by rw [List.length_range]; omega)
        rw [hn0] at hx
        cases hx
    refine ⟨fun i j x y hi hj hxy => ?_, fun k9 x hx => ?_⟩
    · by_cases h1 : i < W1.length <;> by_cases h2 : j < W1.length
      · rw [List.getElem?_append_left h1] at hi
        rw [List.getElem?_append_left h2] at hj
        exact hD1.1 i j x y hi hj hxy
      · rw [List.getElem?_append_left h1] at hi
        rw [List.getElem?_append_right (by omega)] at hj
        have := hle _ _ hi
        have := hr _ _ hj
        omega
      · rw [List.getElem?_append_right (by omega)] at hi
        rw [List.getElem?_append_left h2] at hj
        have := hle _ _ hj
        have := hr _ _ hi
        omega
      · rw [List.getElem?_append_right (by omega)] at hi hj
        have := hr _ _ hi
        have := hr _ _ hj
        omega
    · by_cases h1 : k9 < W1.length
      · rw [List.getElem?_append_left h1] at hx
        exact hD1.2 k9 x hx
      · rw [List.getElem?_append_right (by omega)] at hx
        have := hr _ _ hx
        exact hA _ (by have := hS.1; omega)
  have hAr : ArrOfT s cA (.array ty) := fun N9 z9 => by
    obtain ⟨-, k9, hk9, cm9, hkk9⟩ := (hO 0 0 0).1
    exact ⟨(fun q hq => by cases hq), k9, hk9, cm9, hkk9⟩
  have hK2 : va_K D cl (tys ++ [(cA, .array ty)]) s := ⟨hK.1, fun k9 x hx => by
    by_cases hl : k9 < tys.length
    · rw [List.getElem?_append_left hl] at hx
      exact hK.2 k9 x hx
    · rw [List.getElem?_append_right (by omega)] at hx
      have h0 : k9 - tys.length < 1 := (List.getElem?_eq_some_iff.mp hx).1
      rw [show k9 - tys.length = 0 by omega] at hx
      cases hx
      exact ⟨hAr, fA⟩⟩
  obtain ⟨t, a1, b1⟩ := kk H.size (fun i => H.size + 1 + i) cA F.heap (fun i j _ _ h => by have h9 : H.size + 1 + i = H.size + 1 + j := h; omega) hnl hK2 (by rw [← vr_rows hnm]; exact vr_lay hP2) (by rw [← vr_rows hnm]; exact vr_layD hD2) ⟨by rw [f1]; have := hS.1; omega, fun x h1 h2 => (hold x (Nat.lt_of_lt_of_le h1 hS.1)).trans (hS.2.1 x h1 h2), hS.2.2⟩ F rfl X'
  refine ⟨t, step t ?_, b1⟩
  have e : T.heap.size = H.size := by rw [hT]
  rw [e]
  exact a1
end VGM
/-! ===== END ===== -/
theorem mm_mna_ok : mm_mnaA := by
  intro p l e R s m args below meth c Qf D B0 sad n0 ad0 lim nL y bytes tb hx hb hown hts hSx hB
  intro pc idx t p0 p1 p2 a axr ad H locs cells slots la ls st w K hd h0 h1 h2 ht2 hg O hk
  have O' := O
  obtain ⟨o1, o2, o3, o4, hH, hS, oL, o8, o9⟩ := O
  obtain ⟨ca, tys, hK, hP, hD, hct⟩ := hH
  unfold mm_nmu at hg
  split at hg
  · rename_i x1 x2 t1 n b2 k r2 yy xx q0 e1
    cases e1
    obtain ⟨hxn, hyn, hn, hkk, hck, hrm, hKv⟩ := hg
    subst hxn
    subst hyn
    obtain ⟨c1, c2, c3⟩ := mm_chk_e hck
    have r1 := hrm.1
    have r2' := hrm.2
    have hn31 : a < 2 ^ 31 := by omega
    have hk31 : k < 2 ^ 31 := by omega
    have hcb : componentBytes (mm_ty t) ≤ 8 := by
      unfold mm_ty
      split <;> decide
    have hbytes : k * componentBytes (mm_ty t) ≤ 536870912 := by
      have := Nat.mul_le_mul (Nat.le_of_lt hkk) hcb
      omega
    generalize hw' : ((w.1 ++ .inr (.inr (t, a, w.1.length + 1)) :: List.replicate a (.inr (.inl (t, k))), mm_z w.2.1 w.1.length (1 + a), mm_z w.2.2 w.1.length (1 + a)) : mm_W) = w' at hKv
    have e1 : w'.1 = w.1 ++ .inr (.inr (t, a, w.1.length + 1)) :: List.replicate a (.inr (.inl (t, k))) := by rw [← hw']
    have e2 : w'.2.1 = mm_z w.2.1 w.1.length (1 + a) := by rw [← hw']
    have e3 : w'.2.2 = mm_z w.2.2 w.1.length (1 + a) := by rw [← hw']
    have hdf : fits (mm_ty t) (defaultValue (mm_ty t)) = true ∧ (defaultValue (mm_ty t)).isDefault = true := by
      unfold mm_ty
      split <;> decide
    obtain ⟨cy, ky, compy, hc1, hc2, hc3⟩ := Cond.arrayClass_spec (hts _ (mm_at_in h1))
    have hcy : s.vm.findClass (FieldType.array (mm_ty t)).toString = some cy := hc1
    have ha0 : ∃ a0 : vp_A, (∀ c : ClassId, Jvm.Free.Multi.innerC c k (defaultValue (mm_ty t)) = vp_cell c a0) ∧ ∀ (ad9 : Nat → Nat) (ca9 : Nat → ClassId) (j : Nat), w.1.length ≤ j → j < w.1.length + (1 + a) → mm_ce ad9 ca9 w' j (.inr (.inl (t, k))) = .inl (ca9 j, a0) := by
      have ht01 : t = 0 ∨ t = 1 := by omega
      rcases ht01 with rfl | rfl
      · refine ⟨(k, .inl (fun _ => 0)), fun cA => arrV_new cA k (.int 0), fun ad9 ca9 j j1 j2 => ?_⟩
        show Sum.inl (ca9 j, k, Sum.inl (w'.2.1 j)) = _
        rw [e2, mm_z_new j1 j2]
      · refine ⟨(k, .inr (.inl (fun _ => 0))), fun cA => arrV_new cA k (.long 0), fun ad9 ca9 j j1 j2 => ?_⟩
        show Sum.inl (ca9 j, k, Sum.inr (Sum.inl (w'.2.2 j))) = _
        rw [e3, mm_z_new j1 j2]
    obtain ⟨a0, ha0, hce⟩ := ha0
    refine va_mna (X := mm_ws ad ca w) (L := []) (f := fun _ => .inr (0, [])) (D := D) (z := a0) hx hb hown (hts _ (mm_at_in h0)) (hSx.2.2 p2 _ h2) (hts _ (mm_at_in h1)) hcy hK (by simpa [va_pl] using hP) (by simpa [va_pl] using hD) hS (mm_hb hB) (nI_pos hn31) (nI_pos hk31) (nI_clamp hn31) (nI_clamp hk31) (by omega) hbytes (by omega) hdf.1 hdf.2 (by omega) (by omega) ha0 hd (fun q r cA H1 hinj hnl hK1 hP1 hD1 hS1 => ?_)
    generalize had' : (fun j => if j = w.1.length then q else if w.1.length < j ∧ j < w.1.length + 1 + a then r (j - w.1.length - 1) else ad j) = ad'
    generalize hca' : (fun j => if j = w.1.length then cA else if w.1.length < j then cy else ca j) = ca'
    have g0 : ad' w.1.length = q := by rw [← had']; simp
    have g1 : ∀ i, i < a → ad' (w.1.length + 1 + i) = r i := fun i hi => by
      rw [← had']
      show (if w.1.length + 1 + i = w.1.length then q else if w.1.length < w.1.length + 1 + i ∧ w.1.length + 1 + i < w.1.length + 1 + a then r (w.1.length + 1 + i - w.1.length - 1) else ad (w.1.length + 1 + i)) = r i
      rw [if_neg (by omega), if_pos (by omega), show w.1.length + 1 + i - w.1.length - 1 = i by omega]
    have had : ∀ j, j < w.1.length ∨ w.1.length + (1 + a) ≤ j → ad' j = ad j := fun j hj => by
      rw [← had']
      show (if j = w.1.length then q else if w.1.length < j ∧ j < w.1.length + 1 + a then r (j - w.1.length - 1) else ad j) = ad j
      rw [if_neg (by omega), if_neg (by omega)]
    have hold : ∀ j, j < w.1.length → ad' j = ad j := fun j hj => had j (Or.inl hj)
    have k0 : ca' w.1.length = cA := by rw [← hca']; simp
    have k1 : ∀ i, ca' (w.1.length + 1 + i) = cy := fun i => by
      rw [← hca']
      show (if w.1.length + 1 + i = w.1.length then cA else if w.1.length < w.1.length + 1 + i then cy else ca (w.1.length + 1 + i)) = cy
      rw [if_neg (by omega), if_pos (by omega)]
    have hcold : ∀ j, j < w.1.length → ca' j = ca j := fun j hj => by
      rw [← hca']
      show (if j = w.1.length then cA else if w.1.length < j then cy else ca j) = ca j
      rw [if_neg (by omega), if_neg (by omega)]
    have hws : mm_ws ad' ca' w' = (mm_ws ad ca w ++ [(q, .inl (cA, a, .inr (.inr (.inr (.inr (fun i => if i < a then some (r i) else none))))))]) ++ va_pl ([] ++ (List.range a).map r) (vr_up (fun _ => .inr (0, [])) ((List.range a).map r) (.inl (cy, a0))) := by
      have hpl : va_pl ([] ++ (List.range a).map r) (vr_up (fun _ => .inr (0, [])) ((List.range a).map r) (.inl (cy, a0))) = (List.range a).map (fun i => (r i, .inl (cy, a0))) := by
        unfold va_pl
        rw [List.nil_append, List.map_map]
        apply List.map_congr_left
        intro i hi
        refine Prod.ext rfl ?_
        show vr_up (fun _ => Sum.inr (0, [])) ((List.range a).map r) (Sum.inl (cy, a0)) (r i) = _
        rw [vr_up_in (List.mem_map.mpr ⟨i, hi, rfl⟩)]
      rw [hpl, mm_ws_app e1 (ad := ad) (ca := ca), List.append_assoc]
      · congr 1
        rw [List.mapIdx_cons]
        show _ :: _ = _ :: _
        congr 1
        · rw [Nat.zero_add, g0]
          congr 1
          show Sum.inl (ca' w.1.length, a, Sum.inr (Sum.inr (Sum.inr (Sum.inr (fun i => if i < a then some (ad' (w.1.length + 1 + i)) else none))))) = _
          rw [k0]
          have hf : (fun i => if i < a then some (ad' (w.1.length + 1 + i)) else none) = (fun i => if i < a then some (r i) else none) := by
            funext i
            by_cases h : i < a
            · rw [if_pos h, if_pos h, g1 i h]
            · rw [if_neg h, if_neg h]
          rw [hf]
        · apply List.ext_getElem?
          intro i
          show (List.mapIdx _ (List.replicate a (Sum.inr (Sum.inl (t, k)))))[i]? = ((List.range a).map (fun i => (r i, Sum.inl (cy, a0))))[i]?
          rw [List.getElem?_mapIdx, List.getElem?_map, List.getElem?_replicate]
          by_cases hi : i < a
          · rw [if_pos hi, List.getElem?_range hi]
            have e9 : i + 1 + w.1.length = w.1.length + 1 + i := by omega
            show some (ad' (i + 1 + w.1.length), mm_ce ad' ca' w' (i + 1 + w.1.length) (.inr (.inl (t, k)))) = some (r i, .inl (cy, a0))
            rw [e9, g1 i hi, hce ad' ca' _ (by omega) (by omega), k1]
          · rw [if_neg hi, List.getElem?_eq_none (by rw [List.length_range]; omega)]
            rfl
      · intro j cj hj
        obtain ⟨j1, j2⟩ := mm_lo_at c3 hj
        exact Prod.ext (hold j j2) (mm_ce_old j1 hold (hcold j j2) ((congrFun e2 j).trans (mm_z_old j2)) ((congrFun e3 j).trans (mm_z_old j2)))
    have hK2 : va_K D mm_cl (tys ++ [(cA, .array (mm_ty t))] ++ [(cy, mm_ty t)]) s := hK1.app ⟨hK.1, fun j x hx => by
      have h0 : j < 1 := (List.getElem?_eq_some_iff.mp hx).1
      rw [show j = 0 by omega] at hx
      cases hx
      refine ⟨fun N z => ⟨(fun q hq => by cases hq), ky, hc2, compy, hc3⟩, ?_⟩
      have ht01 : t = 0 ∨ t = 1 := by omega
      rcases ht01 with rfl | rfl
      · exact hc1
      · exact hc1⟩
    have hres := hk (mm_R w.1.length) q0 w' ad' H1 (cells + (1 + a)) (slots + (a + a * k)) hKv (O'.al (by rw [e1]; simp; omega) (by
      rw [e1, mm_sl_app]
      congr 1
      simp [mm_sl, mm_c1, List.map_replicate]) hrm had ⟨ca', _, hK2, by rw [hws]; exact hP1, by rw [hws]; exact hD1, fun j cj hj => by
        rw [e1] at hj
        by_cases hl : j < w.1.length
        · rw [List.getElem?_append_left hl] at hj
          have h9 := hct j cj hj
          unfold mm_ct at h9 ⊢
          split
          · trivial
          · dsimp only at h9
            rw [hcold j hl]
            exact List.mem_append_left _ (List.mem_append_left _ h9)
          · dsimp only at h9
            rw [hcold j hl]
            exact List.mem_append_left _ (List.mem_append_left _ h9)
        · rw [List.getElem?_append_right (by omega)] at hj
          cases hz : j - w.1.length with
          | zero =>
            rw [hz] at hj
            cases hj
            show (ca' j, FieldType.array (mm_ty t)) ∈ _
            rw [show j = w.1.length by omega, k0]
            exact List.mem_append_left _ (List.mem_append_right _ List.mem_cons_self)
          | succ i =>
            rw [hz, List.getElem?_cons_succ, List.getElem?_replicate] at hj
            split at hj
            · cases hj
              show (ca' j, mm_ty t) ∈ _
              rw [show j = w.1.length + 1 + i by omega, k1]
              exact List.mem_append_right _ List.mem_cons_self
            · cases hj⟩ hS1 c1)
    rw [List.map_cons, mm_st_old c2 hold] at hres
    have hq : mm_cv ad' sad (mm_R w.1.length) = .ref q := by simp [mm_cv, g0]
    rw [hq] at hres
    have ec : cells + (1 + a) = cells + 1 + a := by omega
    have es : slots + (a + a * k) = slots + a + a * k := by omega
    rw [ec, es] at hres
    exact hres
  · exact hg.elim
end
section
/-! ===== the classes' words ===== -/
theorem mm_cw : ∀ (ci : Nat) (q : vw_C), mm_cl[ci]? = some q → ∀ w ∈ u_ws q.1 q.2.1 q.2.2, w ∈ mm_GW := mm_class_ok mm_cps (by decide +kernel)
theorem mm_inst : ∀ (ci : Nat) (q : vw_C), mm_cl[ci]? = some q → Cond.instantiable q.1 q.2.2 ∈ mm_GW := by
  have h : (List.range 11).all (fun ci => match mm_cl[ci]?, mm_ips[ci]? with
    | some q, some p => mm_at p (Cond.instantiable q.1 q.2.2)
    | _, _ => false) = true := by decide +kernel
  intro ci q hq
  have hlt : ci < 11 := (List.getElem?_eq_some_iff.mp hq).1
  have h1 := List.all_eq_true.mp h ci (List.mem_range.mpr hlt)
  rw [hq] at h1
  split at h1
  · rename_i q1 p1 e1 e2
    cases e1
    exact mm_at_in h1
  · cases h1
end
section
/-! ===== rules of the abstract machine ===== -/
def mm_mono (call : mm_F) : Prop := ∀ (mi : Nat) (As : List mm_V) (w : mm_W) (Q Q' : Option mm_V → mm_W → Prop), (∀ o w', Q o w' → Q' o w') → call mi As w Q → call mi As w Q'
section MMW
variable {call : mm_F} {ms : List mm_M} {tb : mm_T} {M : mm_M} {lim : Nat × Nat} {Q Q' : Option mm_V → mm_W → Prop} {K K' : mm_K}
theorem mm_oI_m {o : Option mm_V} {k k' : Int32 → Prop} (hk : ∀ x, k x → k' x) (h : mm_oI o k) : mm_oI o k' := by
  unfold mm_oI at h ⊢
  split at h
  · exact hk _ h
  · exact h.elim
theorem mm_oL_m {o : Option mm_V} {k k' : Int64 → Prop} (hk : ∀ x, k x → k' x) (h : mm_oL o k) : mm_oL o k' := by
  unfold mm_oL at h ⊢
  split at h
  · exact hk _ h
  · exact h.elim
theorem mm_oA_m {o : Option mm_V} {k k' : mm_V → Prop} (hk : ∀ x, k x → k' x) (h : mm_oA o k) : mm_oA o k' := by
  unfold mm_oA at h ⊢
  split at h
  · exact hk _ h
  · exact h.elim
theorem mm_1i_m {st : List mm_V} {k k' : Int32 → List mm_V → Prop} (hk : ∀ x r, k x r → k' x r) (h : mm_1i st k) : mm_1i st k' := by
  obtain ⟨x, r, rfl, h⟩ := mm_1i_e h
  exact hk x r h
theorem mm_1l_m {st : List mm_V} {k k' : Int64 → List mm_V → Prop} (hk : ∀ x r, k x r → k' x r) (h : mm_1l st k) : mm_1l st k' := by
  obtain ⟨x, r, rfl, h⟩ := mm_1l_e h
  exact hk x r h
theorem mm_1r_m {st : List mm_V} {k k' : Nat → List mm_V → Prop} (hk : ∀ x r, k x r → k' x r) (h : mm_1r st k) : mm_1r st k' := by
  obtain ⟨x, r, rfl, h⟩ := mm_1r_e h
  exact hk x r h
theorem mm_1c_m {st : List mm_V} {k k' : mm_V → List mm_V → Prop} (hk : ∀ x r, k x r → k' x r) (h : mm_1c st k) : mm_1c st k' := by
  unfold mm_1c at h ⊢
  split at h
  · exact hk _ _ h
  · exact hk _ _ h
  · exact h.elim
theorem mm_2i_m {st : List mm_V} {k k' : Int32 → Int32 → List mm_V → Prop} (hk : ∀ x y r, k x y r → k' x y r) (h : mm_2i st k) : mm_2i st k' := by
  obtain ⟨x, y, r, rfl, h⟩ := mm_2i_e h
  exact hk x y r h
theorem mm_2l_m {st : List mm_V} {k k' : Int64 → Int64 → List mm_V → Prop} (hk : ∀ x y r, k x y r → k' x y r) (h : mm_2l st k) : mm_2l st k' := by
  obtain ⟨x, y, r, rfl, h⟩ := mm_2l_e h
  exact hk x y r h
theorem mm_t1_m {ax : List (Nat × Nat)} {k k' : Nat → Prop} (hk : ∀ t, k t → k' t) (h : mm_t1 ax k) : mm_t1 ax k' := by
  obtain ⟨a, t, r, rfl, h⟩ := mm_t1_e h
  exact hk t h
theorem mm_if_m {c : Jvm.ClassFile.Cond} {x : Int32} {a b a' b' : Prop} (ha : a → a') (hb : b → b') (h : mm_if c x a b) : mm_if c x a' b' := by
  cases c <;> exact ⟨fun z => (by first | exact ha (h.1 z) | exact hb (h.1 z)), fun z => (by first | exact hb (h.2 z) | exact ha (h.2 z))⟩
theorem mm_ic_m {c : Jvm.ClassFile.Cond} {x y : Int32} {a b a' b' : Prop} (ha : a → a') (hb : b → b') (h : mm_ic c x y a b) : mm_ic c x y a' b' := by
  cases c <;> exact ⟨fun z => (by first | exact ha (h.1 z) | exact hb (h.1 z)), fun z => (by first | exact hb (h.2 z) | exact ha (h.2 z))⟩
theorem mm_sw_m {x : Int32} {k k' : Nat → Prop} (hk : ∀ t, k t → k' t) : ∀ {ts : List (Nat × Nat)}, mm_sw x k ts → mm_sw x k' ts
  | [], h => h
  | (_, _) :: _, h => ⟨fun z => hk _ (h.1 z), mm_sw_m hk h.2⟩
theorem mm_df_m {x : Int32} {P P' : Prop} (hk : P → P') : ∀ {ts : List (Nat × Nat)}, mm_df x P ts → mm_df x P' ts
  | [], h => hk h
  | (_, _) :: _, h => fun z => mm_df_m hk (h z)
theorem mm_cas_m {x : Int32} {k k' : Nat → Prop} {ax : List (Nat × Nat)} (hk : ∀ t, k t → k' t) (h : mm_cas x k ax) : mm_cas x k' ax := by
  obtain ⟨a, d, ts, rfl, h1, h2⟩ := mm_cas_e h
  exact ⟨mm_sw_m hk h1, mm_df_m (hk d) h2⟩
theorem mm_gf_m {w : mm_W} {ax : List (Nat × Nat)} {r : Nat} {k k' : mm_V → Prop} (hk : ∀ v, k v → k' v) (h : mm_gf w ax r k) : mm_gf w ax r k' := by
  unfold mm_gf at h ⊢
  repeat' split at h
  all_goals first | exact hk _ h | exact h.elim
theorem mm_pf_m {w : mm_W} {ax : List (Nat × Nat)} {g r : Nat} {v : mm_V} {k k' : mm_W → Prop} (hk : ∀ v, k v → k' v) (h : mm_pf w ax g r v k) : mm_pf w ax g r v k' := by
  unfold mm_pf at h ⊢
  repeat' split at h
  all_goals first | exact hk _ h | exact h.elim
theorem mm_ald_m {w : mm_W} {t r : Nat} {i : Int32} {k k' : Prop} (hk : k → k') (h : mm_ald w t r i k) : mm_ald w t r i k' := by
  unfold mm_ald at h ⊢
  split at h
  · split at h
    · exact ⟨h.1, hk h.2⟩
    · exact h.elim
  · exact h.elim
theorem mm_ald_i {w : mm_W} {t r n : Nat} {i : Int32} {k : Prop} (hr : w.1[r]? = some (.inr (.inl (t, n)))) (h : vp_in i n ∧ k) : mm_ald w t r i k := by
  unfold mm_ald
  rw [hr]
  have hb : Nat.beq t t = true := Nat.beq_refl t
  dsimp only
  rw [hb]
  exact h
theorem mm_ild_m {w : mm_W} {st : List mm_V} {k k' : Int32 → List mm_V → Prop} (hk : ∀ v r, k v r → k' v r) (h : mm_ild tb w st k) : mm_ild tb w st k' := by
  unfold mm_ild at h ⊢
  split at h
  · exact mm_ald_m (hk _ _) h
  · split at h
    · exact ⟨h.1, hk _ _ h.2⟩
    · exact h.elim
  · exact h.elim
theorem mm_lld_m {w : mm_W} {st : List mm_V} {k k' : Int64 → List mm_V → Prop} (hk : ∀ v r, k v r → k' v r) (h : mm_lld tb w st k) : mm_lld tb w st k' := by
  unfold mm_lld at h ⊢
  split at h
  · exact mm_ald_m (hk _ _) h
  · split at h
    · exact ⟨h.1, hk _ _ h.2⟩
    · exact h.elim
  · exact h.elim
theorem mm_bld_m {w : mm_W} {st : List mm_V} {k k' : Int32 → List mm_V → Prop} (hk : ∀ v r, k v r → k' v r) (h : mm_bld w st k) : mm_bld w st k' := by
  unfold mm_bld at h ⊢
  split at h
  · exact mm_ald_m (hk _ _) h
  · exact h.elim
theorem mm_qld_m {w : mm_W} {st : List mm_V} {k k' : Nat → List mm_V → Prop} (hk : ∀ v r, k v r → k' v r) (h : mm_qld w st k) : mm_qld w st k' := by
  unfold mm_qld at h ⊢
  split at h
  · split at h
    · exact ⟨h.1, hk _ _ h.2⟩
    · exact h.elim
  · exact h.elim
theorem mm_ist_m {w : mm_W} {t : Nat} {st : List mm_V} {k k' : mm_W → List mm_V → Prop} (hk : ∀ v r, k v r → k' v r) (h : mm_ist w t st k) : mm_ist w t st k' := by
  unfold mm_ist at h ⊢
  split at h
  · exact mm_ald_m (hk _ _) h
  · exact h.elim
theorem mm_lst_m {w : mm_W} {st : List mm_V} {k k' : mm_W → List mm_V → Prop} (hk : ∀ v r, k v r → k' v r) (h : mm_lst w st k) : mm_lst w st k' := by
  unfold mm_lst at h ⊢
  split at h
  · exact mm_ald_m (hk _ _) h
  · exact h.elim
theorem mm_len_m {w : mm_W} {st : List mm_V} {k k' : Int32 → List mm_V → Prop} (hk : ∀ v r, k v r → k' v r) (h : mm_len tb w st k) : mm_len tb w st k' := by
  unfold mm_len at h ⊢
  split at h
  · split at h
    · exact hk _ _ h
    · exact h.elim
  · exact hk _ _ h
  · exact h.elim
theorem mm_new_m {ax : List (Nat × Nat)} {ls : List (Option mm_V)} {st : List mm_V} {w : mm_W} {k k' : mm_V → mm_W → Prop} (hk : ∀ v r, k v r → k' v r) (h : mm_new lim ax ls st w k) : mm_new lim ax ls st w k' := by
  unfold mm_new at h ⊢
  split at h
  · exact ⟨h.1, h.2.1, hk _ _ h.2.2⟩
  · exact h.elim
theorem mm_nar_m {ax : List (Nat × Nat)} {ls : List (Option mm_V)} {st : List mm_V} {w : mm_W} {k k' : mm_V → List mm_V → mm_W → Prop} (hk : ∀ v r q, k v r q → k' v r q) (h : mm_nar lim ax ls st w k) : mm_nar lim ax ls st w k' := by
  unfold mm_nar at h ⊢
  split at h
  · exact ⟨h.1, h.2.1, h.2.2.1, h.2.2.2.1, hk _ _ _ h.2.2.2.2⟩
  · exact h.elim
theorem mm_nmu_m {ax : List (Nat × Nat)} {ls : List (Option mm_V)} {st : List mm_V} {w : mm_W} {k k' : mm_V → List mm_V → mm_W → Prop} (hk : ∀ v r q, k v r q → k' v r q) (h : mm_nmu lim ax ls st w k) : mm_nmu lim ax ls st w k' := by
  unfold mm_nmu at h ⊢
  split at h
  · exact ⟨h.1, h.2.1, h.2.2.1, h.2.2.2.1, h.2.2.2.2.1, h.2.2.2.2.2.1, hk _ _ _ h.2.2.2.2.2.2⟩
  · exact h.elim
theorem mm_inv_m (hc : mm_mono call) {mi : Nat} {ls : List (Option mm_V)} {As rest : List mm_V} {w : mm_W} {k k' : List mm_V → mm_W → Prop} (hk : ∀ v r, k v r → k' v r) (h : mm_inv call ms lim mi ls As rest w k) : mm_inv call ms lim mi ls As rest w k' := by
  unfold mm_inv at h ⊢
  split at h
  · split at h
    · exact hc _ _ _ _ _ (fun o w' z => ⟨z.1, hk _ _ z.2⟩) h
    · exact ⟨h.1, h.2.1, hc _ _ _ _ _ (fun o w' z => ⟨z.1, z.2.1, hk _ _ z.2.2⟩) h.2.2⟩
  · exact h.elim
theorem mm_b8_m {rest : List mm_V} {k k' : Prop} (hk : k → k') (h : mm_b8 rest k) : mm_b8 rest k' := by
  unfold mm_b8 at h ⊢
  split at h
  · exact hk h
  · exact h.elim
theorem mm_ivo_m (hc : mm_mono call) {mi g : Nat} {ls : List (Option mm_V)} {st : List mm_V} {w : mm_W} {k k' : List mm_V → mm_W → Prop} (hk : ∀ v r, k v r → k' v r) (h : mm_ivo call ms lim mi g ls st w k) : mm_ivo call ms lim mi g ls st w k' := by
  unfold mm_ivo at h ⊢
  split at h
  · exact mm_inv_m hc hk h
  · exact h.elim
theorem mm_ivs_m (hc : mm_mono call) {ax : List (Nat × Nat)} {g : Nat} {ls : List (Option mm_V)} {st : List mm_V} {w : mm_W} {k k' : List mm_V → mm_W → Prop} (hk : ∀ v r, k v r → k' v r) (h : mm_ivs call ms lim ax g ls st w k) : mm_ivs call ms lim ax g ls st w k' := by
  unfold mm_ivs at h ⊢
  split at h
  · exact mm_ivo_m hc hk h
  · exact mm_ivo_m hc hk h
  · exact mm_2i_m (fun x y r => mm_b8_m (hk _ _)) h
  · exact mm_2i_m (fun x y r => mm_b8_m (hk _ _)) h
  · exact mm_2l_m (fun x y r => mm_b8_m (hk _ _)) h
  · exact h.elim
theorem mm_ivv_m (hc : mm_mono call) {ax : List (Nat × Nat)} {g : Nat} {ls : List (Option mm_V)} {st : List mm_V} {w : mm_W} {k k' : List mm_V → mm_W → Prop} (hk : ∀ v r, k v r → k' v r) (h : mm_ivv call ms lim ax g ls st w k) : mm_ivv call ms lim ax g ls st w k' := by
  unfold mm_ivv at h ⊢
  split at h
  · split at h
    · split at h
      · exact mm_inv_m hc hk h
      · exact h.elim
    · exact h.elim
  · exact h.elim
theorem mm_ivi_m (hc : mm_mono call) {ax : List (Nat × Nat)} {g : Nat} {ls : List (Option mm_V)} {st : List mm_V} {w : mm_W} {k k' : List mm_V → mm_W → Prop} (hk : ∀ v r, k v r → k' v r) (h : mm_ivi call ms lim ax g ls st w k) : mm_ivi call ms lim ax g ls st w k' := by
  unfold mm_ivi at h ⊢
  split at h
  · exact mm_inv_m hc hk h
  · split at h
    · exact hk _ _ h
    · exact h.elim
  · exact h.elim
theorem mm_irt_m {r : Option FieldType} {st : List mm_V} {k k' : Int32 → Prop} (hk : ∀ x, k x → k' x) (h : mm_irt r st k) : mm_irt r st k' := by
  unfold mm_irt at h ⊢
  split at h
  · exact hk _ h
  · exact ⟨h.1, hk _ h.2⟩
  · exact h.elim
theorem mm_lrt_m {r : Option FieldType} {st : List mm_V} {k k' : Int64 → Prop} (hk : ∀ x, k x → k' x) (h : mm_lrt r st k) : mm_lrt r st k' := by
  unfold mm_lrt at h ⊢
  split at h
  · exact hk _ h
  · exact h.elim
theorem mm_vrt_m {r : Option FieldType} {st : List mm_V} {k k' : Prop} (hk : k → k') (h : mm_vrt r st k) : mm_vrt r st k' := by
  unfold mm_vrt at h ⊢
  split at h
  · exact hk h
  · exact h.elim
theorem mm_stp_m (hc : mm_mono call) (hQ : ∀ o w, Q o w → Q' o w) (hK : ∀ pc ls st w, K pc ls st w → K' pc ls st w) {pc : Nat} {ls : List (Option mm_V)} {st : List mm_V} {w : mm_W} (h : mm_stp call ms tb M lim Q K pc ls st w) : mm_stp call ms tb M lim Q' K' pc ls st w := by
  unfold mm_stp at h ⊢
  generalize (mm_Mc M).getD pc mm_nop = e0 at h ⊢
  obtain ⟨i, len, ax, ps, g, c1, c8, q0⟩ := e0
  dsimp only at h ⊢
  cases i with
  | iconst n => exact hK _ _ _ _ h
  | bipush n => exact hK _ _ _ _ h
  | sipush n => exact hK _ _ _ _ h
  | ldc n => exact hK _ _ _ _ h
  | lconst n => exact hK _ _ _ _ h
  | ldc2_w n => exact hK _ _ _ _ h
  | iload n => exact mm_oI_m (fun _ => hK _ _ _ _) h
  | iload_n n => exact mm_oI_m (fun _ => hK _ _ _ _) h
  | lload n => exact mm_oL_m (fun _ => hK _ _ _ _) h
  | lload_n n => exact mm_oL_m (fun _ => hK _ _ _ _) h
  | aload n => exact mm_oA_m (fun _ => hK _ _ _ _) h
  | aload_n n => exact mm_oA_m (fun _ => hK _ _ _ _) h
  | istore n => exact mm_1i_m (fun _ _ => hK _ _ _ _) h
  | istore_n n => exact mm_1i_m (fun _ _ => hK _ _ _ _) h
  | lstore n => exact mm_1l_m (fun _ _ => hK _ _ _ _) h
  | lstore_n n => exact mm_1l_m (fun _ _ => hK _ _ _ _) h
  | astore n => exact mm_1r_m (fun _ _ => hK _ _ _ _) h
  | astore_n n => exact mm_1r_m (fun _ _ => hK _ _ _ _) h
  | iinc a b => exact mm_oI_m (fun _ => hK _ _ _ _) h
  | iadd => exact mm_2i_m (fun _ _ _ => hK _ _ _ _) h
  | isub => exact mm_2i_m (fun _ _ _ => hK _ _ _ _) h
  | imul => exact mm_2i_m (fun _ _ _ => hK _ _ _ _) h
  | irem => exact mm_2i_m (fun _ _ _ z => ⟨z.1, hK _ _ _ _ z.2⟩) h
  | iand => exact mm_2i_m (fun _ _ _ => hK _ _ _ _) h
  | ior => exact mm_2i_m (fun _ _ _ => hK _ _ _ _) h
  | ixor => exact mm_2i_m (fun _ _ _ => hK _ _ _ _) h
  | ishl => exact mm_2i_m (fun _ _ _ => hK _ _ _ _) h
  | ishr => exact mm_2i_m (fun _ _ _ => hK _ _ _ _) h
  | ladd => exact mm_2l_m (fun _ _ _ => hK _ _ _ _) h
  | lsub => exact mm_2l_m (fun _ _ _ => hK _ _ _ _) h
  | lmul => exact mm_2l_m (fun _ _ _ => hK _ _ _ _) h
  | ldiv => exact mm_2l_m (fun _ _ _ z => ⟨z.1, hK _ _ _ _ z.2⟩) h
  | lrem => exact mm_2l_m (fun _ _ _ z => ⟨z.1, hK _ _ _ _ z.2⟩) h
  | lcmp => exact mm_2l_m (fun _ _ _ => hK _ _ _ _) h
  | i2l => exact mm_1i_m (fun _ _ => hK _ _ _ _) h
  | l2i => exact mm_1l_m (fun _ _ => hK _ _ _ _) h
  | dup => exact mm_1c_m (fun _ _ => hK _ _ _ _) h
  | pop => exact mm_1c_m (fun _ _ => hK _ _ _ _) h
  | dup_x1 => exact mm_1c_m (fun _ _ => mm_1c_m (fun _ _ => hK _ _ _ _)) h
  | dup2 => exact mm_1c_m (fun _ _ => mm_1c_m (fun _ _ => hK _ _ _ _)) h
  | goto o => exact mm_t1_m (fun _ => hK _ _ _ _) h
  | ifCond cd o => exact mm_t1_m (fun _ => mm_1i_m (fun _ _ => mm_if_m (hK _ _ _ _) (hK _ _ _ _))) h
  | if_icmp cd o => exact mm_t1_m (fun _ => mm_2i_m (fun _ _ _ => mm_ic_m (hK _ _ _ _) (hK _ _ _ _))) h
  | tableswitch a b c d => exact mm_1i_m (fun _ _ => mm_cas_m (fun _ => hK _ _ _ _)) h
  | lookupswitch a b => exact mm_1i_m (fun _ _ => mm_cas_m (fun _ => hK _ _ _ _)) h
  | getfield n => exact mm_1r_m (fun _ _ => mm_gf_m (fun _ => hK _ _ _ _)) h
  | putfield n =>
    dsimp only at h ⊢
    split at h
    · exact mm_pf_m (fun _ => hK _ _ _ _) h
    · exact h.elim
  | getstatic n => exact mm_t1_m (fun _ => hK _ _ _ _) h
  | iaload => exact mm_ild_m (fun _ _ => hK _ _ _ _) h
  | laload => exact mm_lld_m (fun _ _ => hK _ _ _ _) h
  | baload => exact mm_bld_m (fun _ _ => hK _ _ _ _) h
  | aaload => exact mm_qld_m (fun _ _ => hK _ _ _ _) h
  | iastore => exact mm_ist_m (fun _ _ => hK _ _ _ _) h
  | bastore => exact mm_ist_m (fun _ _ => hK _ _ _ _) h
  | lastore => exact mm_lst_m (fun _ _ => hK _ _ _ _) h
  | arraylength => exact mm_len_m (fun _ _ => hK _ _ _ _) h
  | new n => exact mm_new_m (fun _ _ => hK _ _ _ _) h
  | newarray a => exact mm_nar_m (fun _ _ _ => hK _ _ _ _) h
  | multianewarray a b => exact mm_nmu_m (fun _ _ _ => hK _ _ _ _) h
  | invokestatic n => exact mm_ivs_m hc (fun _ _ => hK _ _ _ _) h
  | invokevirtual n => exact mm_ivv_m hc (fun _ _ => hK _ _ _ _) h
  | invokespecial n => exact mm_ivi_m hc (fun _ _ => hK _ _ _ _) h
  | ireturn => exact mm_irt_m (fun _ => hQ _ _) h
  | lreturn => exact mm_lrt_m (fun _ => hQ _ _) h
  | return_ => exact mm_vrt_m (hQ _ _) h
  | _ => exact h.elim
theorem mm_WP_s (hc : mm_mono call) {pc : Nat} {ls : List (Option mm_V)} {st : List mm_V} {w : mm_W} (h : mm_stp call ms tb M lim Q (mm_WP call ms tb M lim Q) pc ls st w) : mm_WP call ms tb M lim Q pc ls st w :=
  fun R hR => hR _ _ _ _ (mm_stp_m hc (fun _ _ z => z) (fun _ _ _ _ z => z R hR) h)
theorem mm_WP_m (hc : mm_mono call) (hQ : ∀ o w, Q o w → Q' o w) {pc : Nat} {ls : List (Option mm_V)} {st : List mm_V} {w : mm_W} (h : mm_WP call ms tb M lim Q pc ls st w) : mm_WP call ms tb M lim Q' pc ls st w :=
  h _ (fun _ _ _ _ z => mm_WP_s hc (mm_stp_m hc hQ (fun _ _ _ _ y => y) z))
theorem mm_call_m : ∀ d : Nat, mm_mono (mm_call ms tb d)
  | 0 => fun _ _ _ _ _ _ h => h.elim
  | d + 1 => fun mi As w Q Q' hQ h => by
    unfold mm_call at h ⊢
    split at h
    · unfold mm_run at h ⊢
      split at h
      · exact mm_WP_m (mm_call_m d) hQ h
      · exact h.elim
    · exact h.elim
/-- more depth does no harm -/
theorem mm_stp_c {call' : mm_F} (hcc : ∀ mi As w Q, call mi As w Q → call' mi As w Q) {pc : Nat} {ls : List (Option mm_V)} {st : List mm_V} {w : mm_W} (h : mm_stp call ms tb M lim Q K pc ls st w) : mm_stp call' ms tb M lim Q K pc ls st w := by
  have hi : ∀ {mi : Nat} {ls : List (Option mm_V)} {As rest : List mm_V} {w : mm_W} {k : List mm_V → mm_W → Prop}, mm_inv call ms lim mi ls As rest w k → mm_inv call' ms lim mi ls As rest w k := by
    intro mi ls As rest w k h
    unfold mm_inv at h ⊢
    split at h
    · split at h
      · exact hcc _ _ _ _ h
      · exact ⟨h.1, h.2.1, hcc _ _ _ _ h.2.2⟩
    · exact h.elim
  unfold mm_stp at h ⊢
  generalize (mm_Mc M).getD pc mm_nop = e0 at h ⊢
  obtain ⟨i, len, ax, ps, g, c1, c8, q0⟩ := e0
  dsimp only at h ⊢
  cases i with
  | invokestatic n =>
    dsimp only at h ⊢
    unfold mm_ivs at h ⊢
    split at h
    · unfold mm_ivo at h ⊢
      split at h
      · exact hi h
      · exact h.elim
    · unfold mm_ivo at h ⊢
      split at h
      · exact hi h
      · exact h.elim
    · exact h
    · exact h
    · exact h
    · exact h.elim
  | invokevirtual n =>
    dsimp only at h ⊢
    unfold mm_ivv at h ⊢
    split at h
    · split at h
      · split at h
        · exact hi h
        · exact h.elim
      · exact h.elim
    · exact h.elim
  | invokespecial n =>
    dsimp only at h ⊢
    unfold mm_ivi at h ⊢
    split at h
    · exact hi h
    · exact h
    · exact h.elim
  | _ => exact h
theorem mm_call_d : ∀ (d k : Nat) (mi : Nat) (As : List mm_V) (w : mm_W) (Q : Option mm_V → mm_W → Prop), mm_call ms tb d mi As w Q → mm_call ms tb (d + k) mi As w Q
  | 0, _, _, _, _, _, h => h.elim
  | d + 1, k, mi, As, w, Q, h => by
    rw [show d + 1 + k = (d + k) + 1 by omega]
    unfold mm_call at h ⊢
    split at h
    · unfold mm_run at h ⊢
      split at h
      · refine h _ (fun pc ls st w z => mm_WP_s (mm_call_m (d + k)) (mm_stp_c (mm_call_d d k) z))
      · exact h.elim
    · exact h.elim
/-! many steps at once, up to places where one stops -/
def mm_mem (pc : Nat) : List Nat → Bool
  | [] => false
  | a :: r => match Nat.beq a pc with
    | true => true
    | false => mm_mem pc r
def mm_ex (call : mm_F) (ms : List mm_M) (tb : mm_T) (M : mm_M) (lim : Nat × Nat) (Q : Option mm_V → mm_W → Prop) (stops : List Nat) : Nat → mm_K
  | 0 => mm_WP call ms tb M lim Q
  | n + 1 => fun pc ls st w => match mm_mem pc stops with
    | true => mm_WP call ms tb M lim Q pc ls st w
    | false => mm_stp call ms tb M lim Q (mm_ex call ms tb M lim Q stops n) pc ls st w
theorem mm_ex_W (hc : mm_mono call) (stops : List Nat) : ∀ (n : Nat) (pc : Nat) (ls : List (Option mm_V)) (st : List mm_V) (w : mm_W), mm_ex call ms tb M lim Q stops n pc ls st w → mm_WP call ms tb M lim Q pc ls st w
  | 0, _, _, _, _, h => h
  | n + 1, pc, ls, st, w, h => by
    unfold mm_ex at h
    split at h
    · exact h
    · exact mm_WP_s hc (mm_stp_m hc (fun _ _ z => z) (mm_ex_W hc stops n) h)
theorem mm_go (stops : List Nat) (n : Nat) (hc : mm_mono call) {pc : Nat} {ls : List (Option mm_V)} {st : List mm_V} {w : mm_W} (h : mm_stp call ms tb M lim Q (mm_ex call ms tb M lim Q stops n) pc ls st w) : mm_WP call ms tb M lim Q pc ls st w :=
  mm_WP_s hc (mm_stp_m hc (fun _ _ z => z) (mm_ex_W hc stops n) h)
theorem mm_call_of {d mi : Nat} {As : List mm_V} {w : mm_W} (hM : ms[mi]? = some M) (hb : Nat.ble (mm_ar As).length (mm_Ml M) = true) (h : mm_WP (mm_call ms tb d) ms tb M (w.1.length + mm_Mk M, mm_sl w.1 + mm_Ms M) Q 0 (mm_ini (mm_Ml M) As) [] w) : mm_call ms tb (d + 1) mi As w Q := by
  unfold mm_call
  rw [hM]
  dsimp only
  unfold mm_run
  rw [hb]
  exact h
end MMW
end
section
/-! ===== the cells that stand once both objects are made ===== -/
def mm_LAY : List mm_C := [
  .inl (9, [some (some 1), some (some 3), some (some 9), some (some 17), some (some 31), some (some 160), some (some 162), some (some 164), some (some 170), none, none, none]),
  .inl (7, [some (some 2), none]),
  .inr (.inl (1, 200)),
  .inl (6, [some (some 4), some (some 5), some (some 6), some (some 7), some (some 8), none, none]),
  .inr (.inl (0, 200)),
  .inr (.inl (0, 200)),
  .inr (.inl (0, 800)),
  .inr (.inl (0, 200)),
  .inr (.inl (0, 200)),
  .inl (2, [some (some 10), some (some 11), some (some 12), some (some 13), some (some 14), some (some 15), some (some 16), none]),
  .inr (.inl (0, 12)),
  .inr (.inl (0, 12)),
  .inr (.inl (0, 12)),
  .inr (.inl (1, 12)),
  .inr (.inl (1, 12)),
  .inr (.inl (0, 12)),
  .inr (.inl (0, 12)),
  .inl (4, [some (some 1), some (some 3), some (some 9), some (some 18)]),
  .inr (.inr (1, 12, 19)),
  .inr (.inl (1, 200)),
  .inr (.inl (1, 200)),
  .inr (.inl (1, 200)),
  .inr (.inl (1, 200)),
  .inr (.inl (1, 200)),
  .inr (.inl (1, 200)),
  .inr (.inl (1, 200)),
  .inr (.inl (1, 200)),
  .inr (.inl (1, 200)),
  .inr (.inl (1, 200)),
  .inr (.inl (1, 200)),
  .inr (.inl (1, 200)),
  .inl (0, [some (some 1), some (some 3), some (some 9), some (some 17), some (some 32), some (some 33), some (some 34), some (some 35), some (some 36), some (some 37), some (some 38), some (some 99), none]),
  .inr (.inl (0, 60)),
  .inr (.inl (1, 60)),
  .inr (.inl (1, 60)),
  .inr (.inl (1, 60)),
  .inr (.inl (0, 60)),
  .inr (.inl (0, 60)),
  .inr (.inr (0, 60, 39)),
  .inr (.inl (0, 200)),
  .inr (.inl (0, 200)),
  .inr (.inl (0, 200)),
  .inr (.inl (0, 200)),
  .inr (.inl (0, 200)),
  .inr (.inl (0, 200)),
  .inr (.inl (0, 200)),
  .inr (.inl (0, 200)),
  .inr (.inl (0, 200)),
  .inr (.inl (0, 200)),
  .inr (.inl (0, 200)),
  .inr (.inl (0, 200)),
  .inr (.inl (0, 200)),
  .inr (.inl (0, 200)),
  .inr (.inl (0, 200)),
  .inr (.inl (0, 200)),
  .inr (.inl (0, 200)),
  .inr (.inl (0, 200)),
  .inr (.inl (0, 200)),
  .inr (.inl (0, 200)),
  .inr (.inl (0, 200)),
  .inr (.inl (0, 200)),
  .inr (.inl (0, 200)),
  .inr (.inl (0, 200)),
  .inr (.inl (0, 200)),
  .inr (.inl (0, 200)),
  .inr (.inl (0, 200)),
  .inr (.inl (0, 200)),
  .inr (.inl (0, 200)),
  .inr (.inl (0, 200)),
  .inr (.inl (0, 200)),
  .inr (.inl (0, 200)),
  .inr (.inl (0, 200)),
  .inr (.inl (0, 200)),
  .inr (.inl (0, 200)),
  .inr (.inl (0, 200)),
  .inr (.inl (0, 200)),
  .inr (.inl (0, 200)),
  .inr (.inl (0, 200)),
  .inr (.inl (0, 200)),
  .inr (.inl (0, 200)),
  .inr (.inl (0, 200)),
  .inr (.inl (0, 200)),
  .inr (.inl (0, 200)),
  .inr (.inl (0, 200)),
  .inr (.inl (0, 200)),
  .inr (.inl (0, 200)),
  .inr (.inl (0, 200)),
  .inr (.inl (0, 200)),
  .inr (.inl (0, 200)),
  .inr (.inl (0, 200)),
  .inr (.inl (0, 200)),
  .inr (.inl (0, 200)),
  .inr (.inl (0, 200)),
  .inr (.inl (0, 200)),
  .inr (.inl (0, 200)),
  .inr (.inl (0, 200)),
  .inr (.inl (0, 200)),
  .inr (.inl (0, 200)),
  .inr (.inl (0, 200)),
  .inr (.inr (0, 60, 100)),
  .inr (.inl (0, 200)),
  .inr (.inl (0, 200)),
  .inr (.inl (0, 200)),
  .inr (.inl (0, 200)),
  .inr (.inl (0, 200)),
  .inr (.inl (0, 200)),
  .inr (.inl (0, 200)),
  .inr (.inl (0, 200)),
  .inr (.inl (0, 200)),
  .inr (.inl (0, 200)),
  .inr (.inl (0, 200)),
  .inr (.inl (0, 200)),
  .inr (.inl (0, 200)),
  .inr (.inl (0, 200)),
  .inr (.inl (0, 200)),
  .inr (.inl (0, 200)),
  .inr (.inl (0, 200)),
  .inr (.inl (0, 200)),
  .inr (.inl (0, 200)),
  .inr (.inl (0, 200)),
  .inr (.inl (0, 200)),
  .inr (.inl (0, 200)),
  .inr (.inl (0, 200)),
  .inr (.inl (0, 200)),
  .inr (.inl (0, 200)),
  .inr (.inl (0, 200)),
  .inr (.inl (0, 200)),
  .inr (.inl (0, 200)),
  .inr (.inl (0, 200)),
  .inr (.inl (0, 200)),
  .inr (.inl (0, 200)),
  .inr (.inl (0, 200)),
  .inr (.inl (0, 200)),
  .inr (.inl (0, 200)),
  .inr (.inl (0, 200)),
  .inr (.inl (0, 200)),
  .inr (.inl (0, 200)),
  .inr (.inl (0, 200)),
  .inr (.inl (0, 200)),
  .inr (.inl (0, 200)),
  .inr (.inl (0, 200)),
  .inr (.inl (0, 200)),
  .inr (.inl (0, 200)),
  .inr (.inl (0, 200)),
  .inr (.inl (0, 200)),
  .inr (.inl (0, 200)),
  .inr (.inl (0, 200)),
  .inr (.inl (0, 200)),
  .inr (.inl (0, 200)),
  .inr (.inl (0, 200)),
  .inr (.inl (0, 200)),
  .inr (.inl (0, 200)),
  .inr (.inl (0, 200)),
  .inr (.inl (0, 200)),
  .inr (.inl (0, 200)),
  .inr (.inl (0, 200)),
  .inr (.inl (0, 200)),
  .inr (.inl (0, 200)),
  .inr (.inl (0, 200)),
  .inr (.inl (0, 200)),
  .inl (3, [some (some 161), none, none]),
  .inr (.inl (0, 16)),
  .inl (8, [some (some 163), none, none, none, none, none]),
  .inr (.inl (0, 100)),
  .inl (5, [some (some 3), some (some 160), some (some 162), some (some 165), some (some 166), some (some 167), some (some 168), some (some 169), none, none, none, none, some (some 9)]),
  .inr (.inl (0, 8192)),
  .inr (.inl (0, 600)),
  .inr (.inl (0, 600)),
  .inr (.inl (0, 30)),
  .inr (.inl (0, 30)),
  .inl (1, [some (some 3), some (some 160), some (some 162), some (some 171), some (some 172), some (some 173), some (some 174), some (some 175), none, none, none, none, some (some 9), some (some 31)]),
  .inr (.inl (0, 8192)),
  .inr (.inl (0, 600)),
  .inr (.inl (0, 600)),
  .inr (.inl (0, 30)),
  .inr (.inl (0, 30)),
  .inl (10, [none, none, some (some 177), some (some 178), some (some 179), some (some 180), some (some 181), some (some 182), some (some 183), some (some 184), some (some 185), some (some 186), some (some 187), none, some (some 188), some (some 189), some (some 190), some (some 191), some (some 192), some (some 193), none, some (some 194), some (some 195), some (some 196), some (some 197), some (some 198), some (some 199), some (some 200), some (some 201), some (some 202), some (some 203), none, some (some 204), some (some 205), some (some 206), some (some 207), none, some (some 208), some (some 209), some (some 210), some (some 211), none, none, none, some (some 212), some (some 213), none, none, none, none, none, none, some (some 214), some (some 215), some (some 216), some (some 217), some (some 218), some (some 219), some (some 220), some (some 221), some (some 222), some (some 223), none, some (some 224), none, some (some 225), none]),
  .inr (.inl (0, 8000)),
  .inr (.inl (0, 8000)),
  .inr (.inl (0, 8000)),
  .inr (.inl (0, 8000)),
  .inr (.inl (0, 8000)),
  .inr (.inl (0, 8000)),
  .inr (.inl (0, 8000)),
  .inr (.inl (0, 16384)),
  .inr (.inl (0, 64)),
  .inr (.inl (2, 64)),
  .inr (.inl (0, 64)),
  .inr (.inl (0, 200)),
  .inr (.inl (0, 200)),
  .inr (.inl (0, 200)),
  .inr (.inl (0, 200)),
  .inr (.inl (0, 200)),
  .inr (.inl (0, 200)),
  .inr (.inl (0, 12)),
  .inr (.inl (0, 12)),
  .inr (.inl (0, 12)),
  .inr (.inl (0, 12)),
  .inr (.inl (0, 200)),
  .inr (.inl (2, 200)),
  .inr (.inl (2, 144)),
  .inr (.inl (0, 2400)),
  .inr (.inl (0, 2400)),
  .inr (.inl (0, 2400)),
  .inr (.inl (0, 60)),
  .inr (.inl (0, 60)),
  .inr (.inl (0, 60)),
  .inr (.inl (0, 200)),
  .inr (.inl (0, 16)),
  .inr (.inl (0, 16)),
  .inr (.inl (2, 200)),
  .inr (.inl (0, 16)),
  .inr (.inl (0, 6000)),
  .inr (.inl (0, 6000)),
  .inr (.inl (0, 100)),
  .inr (.inl (0, 8)),
  .inr (.inl (0, 8)),
  .inr (.inl (0, 8)),
  .inr (.inl (0, 40)),
  .inr (.inl (0, 16)),
  .inr (.inl (0, 16)),
  .inr (.inl (2, 16)),
  .inr (.inl (0, 400)),
  .inr (.inl (0, 400)),
  .inr (.inl (0, 800)),
  .inr (.inl (0, 30))]
end
section
/-! test -/
theorem bk_X8_has_0 {call : mm_F} (hc : mm_mono call) {L : Nat} {xs : Nat → Int32} {lim : Nat × Nat} {Q : Option mm_V → mm_W → Prop} {mi : Nat → Nat → Int32} {ml : Nat → Nat → Int64} {x : Int32}
    (h0 : (x < 0) → mm_WP call mm_ms (mm_tb L xs) mm_m111 lim Q 23 [some (mm_R 1), some (mm_I x)] [] (mm_LAY, mi, ml)) (h1 : (¬ x < 0) → ((mi 1 1) ≤ x) → mm_WP call mm_ms (mm_tb L xs) mm_m111 lim Q 23 [some (mm_R 1), some (mm_I x)] [] (mm_LAY, mi, ml)) (h2 : (¬ x < 0) → (¬ (mi 1 1) ≤ x) → (200 ≤ x) → mm_WP call mm_ms (mm_tb L xs) mm_m111 lim Q 23 [some (mm_R 1), some (mm_I x)] [] (mm_LAY, mi, ml)) (h3 : (¬ x < 0) → (¬ (mi 1 1) ≤ x) → (¬ 200 ≤ x) → Q (some (mm_I 1)) (mm_LAY, mi, ml)) : mm_WP call mm_ms (mm_tb L xs) mm_m111 lim Q 0 [some (mm_R 1), some (mm_I x)] [] (mm_LAY, mi, ml) :=
  mm_go [23] 400 hc (show (x < 0 → mm_WP call mm_ms (mm_tb L xs) mm_m111 lim Q 23 [some (mm_R 1), some (mm_I x)] [] (mm_LAY, mi, ml)) ∧ (¬ x < 0 → ((mi 1 1) ≤ x → mm_WP call mm_ms (mm_tb L xs) mm_m111 lim Q 23 [some (mm_R 1), some (mm_I x)] [] (mm_LAY, mi, ml)) ∧ (¬ (mi 1 1) ≤ x → (200 ≤ x → mm_WP call mm_ms (mm_tb L xs) mm_m111 lim Q 23 [some (mm_R 1), some (mm_I x)] [] (mm_LAY, mi, ml)) ∧ (¬ 200 ≤ x → (1 = 0 ∨ 1 = 1) ∧ (Q (some (mm_I 1)) (mm_LAY, mi, ml))))) from ⟨fun c0 => h0 c0, fun c0 => ⟨fun c1 => h1 c0 c1, fun c1 => ⟨fun c2 => h2 c0 c1 c2, fun c2 => ⟨Or.inr rfl, h3 c0 c1 c2⟩⟩⟩⟩)
theorem bk_X7_add_0 {call : mm_F} (hc : mm_mono call) {L : Nat} {xs : Nat → Int32} {lim : Nat × Nat} {Q : Option mm_V → mm_W → Prop} {mi : Nat → Nat → Int32} {ml : Nat → Nat → Int64} {a b c d e : Int32}
    (h0 : ((mi 3 5) < 200) → ((((mi 3 5) * 4) + 3) < (nI 800)) → vp_in (mi 3 5) 200) (h1 : ((mi 3 5) < 200) → ((((mi 3 5) * 4) + 3) < (nI 800)) → call 100 [mm_R 3, mm_I a, mm_I b, mm_I c, mm_I d] (mm_LAY, (mm_u mi 4 ((mi 3 5).toNatClampNeg) a), ml) (fun o w9 => w9.1 = mm_LAY ∧ mm_WP call mm_ms (mm_tb L xs) mm_m102 lim Q 63 [some (mm_R 3), some (mm_I a), some (mm_I b), some (mm_I c), some (mm_I d), some (mm_I e), some (mm_I ((mi 3 5) * 4))] (o.toList ++ [mm_I (mi 3 5), mm_R 5]) w9)) (h2 : ((mi 3 5) < 200) → (¬ (((mi 3 5) * 4) + 3) < (nI 800)) → Q (some (mm_I (-4))) (mm_LAY, mi, ml)) (h3 : (¬ (mi 3 5) < 200) → Q (some (mm_I (-4))) (mm_LAY, mi, ml)) : mm_WP call mm_ms (mm_tb L xs) mm_m102 lim Q 0 [some (mm_R 3), some (mm_I a), some (mm_I b), some (mm_I c), some (mm_I d), some (mm_I e), none] [] (mm_LAY, mi, ml) :=
  mm_go [63] 400 hc (show ((mi 3 5) < 200 → ((((mi 3 5) * 4) + 3) < (nI 800) → vp_in (mi 3 5) 200 ∧ (call 100 [mm_R 3, mm_I a, mm_I b, mm_I c, mm_I d] (mm_LAY, (mm_u mi 4 ((mi 3 5).toNatClampNeg) a), ml) (fun o w9 => w9.1 = mm_LAY ∧ mm_WP call mm_ms (mm_tb L xs) mm_m102 lim Q 63 [some (mm_R 3), some (mm_I a), some (mm_I b), some (mm_I c), some (mm_I d), some (mm_I e), some (mm_I ((mi 3 5) * 4))] (o.toList ++ [mm_I (mi 3 5), mm_R 5]) w9))) ∧ (¬ (((mi 3 5) * 4) + 3) < (nI 800) → Q (some (mm_I (-4))) (mm_LAY, mi, ml))) ∧ (¬ (mi 3 5) < 200 → Q (some (mm_I (-4))) (mm_LAY, mi, ml)) from ⟨fun c0 => ⟨fun c1 => ⟨h0 c0 c1, h1 c0 c1⟩, fun c1 => h2 c0 c1⟩, fun c0 => h3 c0⟩)
theorem bk_X2_digestFrom_0 {call : mm_F} (hc : mm_mono call) {L : Nat} {xs : Nat → Int32} {lim : Nat × Nat} {Q : Option mm_V → mm_W → Prop} {mi : Nat → Nat → Int32} {ml : Nat → Nat → Int64} {h : Int64}
    (h0 : mm_WP call mm_ms (mm_tb L xs) mm_m33 lim Q 5 [some (mm_R 9), some (mm_L h), none, some (mm_L h), none, some (mm_I 0)] [] (mm_LAY, mi, ml)) : mm_WP call mm_ms (mm_tb L xs) mm_m33 lim Q 0 [some (mm_R 9), some (mm_L h), none, none, none, none] [] (mm_LAY, mi, ml) :=
  mm_go [5, 87] 400 hc (show mm_WP call mm_ms (mm_tb L xs) mm_m33 lim Q 5 [some (mm_R 9), some (mm_L h), none, some (mm_L h), none, some (mm_I 0)] [] (mm_LAY, mi, ml) from h0)
end
