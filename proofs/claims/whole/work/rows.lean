section
-- ===== PART A: goes FIRST, ahead of the names: the tables' words, and 'selects' of the private methods out of them =====
/-- a private method of a class that the tables say can be made, by its rows of tables_1 -/
def lw_okq (q : MethodName × Nat) : Prop := (q.1.cls ≠ "java/lang/invoke/MethodHandle" ∧ q.1.cls ≠ "java/lang/invoke/VarHandle") ∧ Cond.instantiable q.1.cls q.2 ∈ tables_1 ∧ Cond.privateMethod q.1 ∈ tables_1 ∧ Cond.instanceMethod q.1 ∈ tables_1
theorem lw_p0 : lw_okq (⟨"TypeCopier", "judgeAnew", "()V"⟩, 12) := ⟨⟨by decide +kernel, by decide +kernel⟩, List.mem_of_getElem? (i := 17) (by decide +kernel), List.mem_of_getElem? (i := 287) (by decide +kernel), List.mem_of_getElem? (i := 288) (by decide +kernel)⟩
theorem lw_p1 : lw_okq (⟨"TypeCopier$Judge", "allHaveBodies", "(I)Z"⟩, 4) := ⟨⟨by decide +kernel, by decide +kernel⟩, List.mem_of_getElem? (i := 99) (by decide +kernel), List.mem_of_getElem? (i := 308) (by decide +kernel), List.mem_of_getElem? (i := 309) (by decide +kernel)⟩
theorem lw_p2 : lw_okq (⟨"TypeCopier$Judge", "allAreRight", "(I)Z"⟩, 4) := ⟨⟨by decide +kernel, by decide +kernel⟩, List.mem_of_getElem? (i := 99) (by decide +kernel), List.mem_of_getElem? (i := 316) (by decide +kernel), List.mem_of_getElem? (i := 317) (by decide +kernel)⟩
theorem lw_p3 : lw_okq (⟨"TypeCopier$Judge", "allAreRegular", "(I)Z"⟩, 4) := ⟨⟨by decide +kernel, by decide +kernel⟩, List.mem_of_getElem? (i := 99) (by decide +kernel), List.mem_of_getElem? (i := 334) (by decide +kernel), List.mem_of_getElem? (i := 335) (by decide +kernel)⟩
theorem lw_p4 : lw_okq (⟨"TypeCopier$Nodes", "meet", "(II)V"⟩, 7) := ⟨⟨by decide +kernel, by decide +kernel⟩, List.mem_of_getElem? (i := 39) (by decide +kernel), List.mem_of_getElem? (i := 345) (by decide +kernel), List.mem_of_getElem? (i := 346) (by decide +kernel)⟩
theorem lw_p5 : lw_okq (⟨"TypeCopier$Judge", "isRegular", "(II)Z"⟩, 4) := ⟨⟨by decide +kernel, by decide +kernel⟩, List.mem_of_getElem? (i := 99) (by decide +kernel), List.mem_of_getElem? (i := 372) (by decide +kernel), List.mem_of_getElem? (i := 373) (by decide +kernel)⟩
theorem lw_p6 : lw_okq (⟨"TypeCopier$Copies", "findOrAdd", "(IJJ)I"⟩, 13) := ⟨⟨by decide +kernel, by decide +kernel⟩, List.mem_of_getElem? (i := 120) (by decide +kernel), List.mem_of_getElem? (i := 385) (by decide +kernel), List.mem_of_getElem? (i := 386) (by decide +kernel)⟩
theorem lw_p7 : lw_okq (⟨"TypeCopier$Copies", "makeOne", "(I)Z"⟩, 13) := ⟨⟨by decide +kernel, by decide +kernel⟩, List.mem_of_getElem? (i := 120) (by decide +kernel), List.mem_of_getElem? (i := 389) (by decide +kernel), List.mem_of_getElem? (i := 390) (by decide +kernel)⟩
theorem lw_p8 : lw_okq (⟨"TypeCopier$Copies", "has", "(I)Z"⟩, 13) := ⟨⟨by decide +kernel, by decide +kernel⟩, List.mem_of_getElem? (i := 120) (by decide +kernel), List.mem_of_getElem? (i := 393) (by decide +kernel), List.mem_of_getElem? (i := 394) (by decide +kernel)⟩
theorem lw_p9 : lw_okq (⟨"TypeCopier$Copies", "copyForCall", "(IJJ)I"⟩, 13) := ⟨⟨by decide +kernel, by decide +kernel⟩, List.mem_of_getElem? (i := 120) (by decide +kernel), List.mem_of_getElem? (i := 452) (by decide +kernel), List.mem_of_getElem? (i := 453) (by decide +kernel)⟩
theorem lw_p10 : lw_okq (⟨"TypeCopier", "wantedStands", "(IIIII)Z"⟩, 12) := ⟨⟨by decide +kernel, by decide +kernel⟩, List.mem_of_getElem? (i := 17) (by decide +kernel), List.mem_of_getElem? (i := 544) (by decide +kernel), List.mem_of_getElem? (i := 545) (by decide +kernel)⟩
theorem lw_p11 : lw_okq (⟨"TypeCopier", "callTypesStand", "(II)Z"⟩, 12) := ⟨⟨by decide +kernel, by decide +kernel⟩, List.mem_of_getElem? (i := 17) (by decide +kernel), List.mem_of_getElem? (i := 549) (by decide +kernel), List.mem_of_getElem? (i := 550) (by decide +kernel)⟩
theorem lw_p12 : lw_okq (⟨"TypeCopier$Nodes", "depthOf", "(I)I"⟩, 7) := ⟨⟨by decide +kernel, by decide +kernel⟩, List.mem_of_getElem? (i := 39) (by decide +kernel), List.mem_of_getElem? (i := 565) (by decide +kernel), List.mem_of_getElem? (i := 566) (by decide +kernel)⟩
theorem lw_p13 : lw_okq (⟨"TypeCopier$Judge", "findShape", "(II)J"⟩, 4) := ⟨⟨by decide +kernel, by decide +kernel⟩, List.mem_of_getElem? (i := 99) (by decide +kernel), List.mem_of_getElem? (i := 585) (by decide +kernel), List.mem_of_getElem? (i := 586) (by decide +kernel)⟩
theorem lw_p14 : lw_okq (⟨"TypeCopier$Judge", "partShape", "(III)J"⟩, 4) := ⟨⟨by decide +kernel, by decide +kernel⟩, List.mem_of_getElem? (i := 99) (by decide +kernel), List.mem_of_getElem? (i := 589) (by decide +kernel), List.mem_of_getElem? (i := 590) (by decide +kernel)⟩
theorem lw_p15 : lw_okq (⟨"TypeCopier$Judge", "nilShape", "(IJ)J"⟩, 4) := ⟨⟨by decide +kernel, by decide +kernel⟩, List.mem_of_getElem? (i := 99) (by decide +kernel), List.mem_of_getElem? (i := 600) (by decide +kernel), List.mem_of_getElem? (i := 601) (by decide +kernel)⟩
def lw_privs_1 : List (MethodName × Nat) := [(⟨"TypeCopier", "judgeAnew", "()V"⟩, 12), (⟨"TypeCopier$Judge", "allHaveBodies", "(I)Z"⟩, 4), (⟨"TypeCopier$Judge", "allAreRight", "(I)Z"⟩, 4), (⟨"TypeCopier$Judge", "allAreRegular", "(I)Z"⟩, 4), (⟨"TypeCopier$Nodes", "meet", "(II)V"⟩, 7), (⟨"TypeCopier$Judge", "isRegular", "(II)Z"⟩, 4), (⟨"TypeCopier$Copies", "findOrAdd", "(IJJ)I"⟩, 13), (⟨"TypeCopier$Copies", "makeOne", "(I)Z"⟩, 13), (⟨"TypeCopier$Copies", "has", "(I)Z"⟩, 13), (⟨"TypeCopier$Copies", "copyForCall", "(IJJ)I"⟩, 13), (⟨"TypeCopier", "wantedStands", "(IIIII)Z"⟩, 12), (⟨"TypeCopier", "callTypesStand", "(II)Z"⟩, 12), (⟨"TypeCopier$Nodes", "depthOf", "(I)I"⟩, 7), (⟨"TypeCopier$Judge", "findShape", "(II)J"⟩, 4), (⟨"TypeCopier$Judge", "partShape", "(III)J"⟩, 4), (⟨"TypeCopier$Judge", "nilShape", "(IJ)J"⟩, 4)]
theorem lw_r1 : ∀ q ∈ lw_privs_1, lw_okq q := List.forall_mem_cons.mpr ⟨lw_p0, List.forall_mem_cons.mpr ⟨lw_p1, List.forall_mem_cons.mpr ⟨lw_p2, List.forall_mem_cons.mpr ⟨lw_p3, List.forall_mem_cons.mpr ⟨lw_p4, List.forall_mem_cons.mpr ⟨lw_p5, List.forall_mem_cons.mpr ⟨lw_p6, List.forall_mem_cons.mpr ⟨lw_p7, List.forall_mem_cons.mpr ⟨lw_p8, List.forall_mem_cons.mpr ⟨lw_p9, List.forall_mem_cons.mpr ⟨lw_p10, List.forall_mem_cons.mpr ⟨lw_p11, List.forall_mem_cons.mpr ⟨lw_p12, List.forall_mem_cons.mpr ⟨lw_p13, List.forall_mem_cons.mpr ⟨lw_p14, List.forall_mem_cons.mpr ⟨lw_p15, fun _ h => absurd h List.not_mem_nil⟩⟩⟩⟩⟩⟩⟩⟩⟩⟩⟩⟩⟩⟩⟩⟩
theorem lw_p16 : lw_okq (⟨"TypeCopier$Judge", "callShape", "(IIJ)J"⟩, 4) := ⟨⟨by decide +kernel, by decide +kernel⟩, List.mem_of_getElem? (i := 99) (by decide +kernel), List.mem_of_getElem? (i := 609) (by decide +kernel), List.mem_of_getElem? (i := 610) (by decide +kernel)⟩
theorem lw_p17 : lw_okq (⟨"TypeCopier$Judge", "shapeOverList", "(IJ)J"⟩, 4) := ⟨⟨by decide +kernel, by decide +kernel⟩, List.mem_of_getElem? (i := 99) (by decide +kernel), List.mem_of_getElem? (i := 614) (by decide +kernel), List.mem_of_getElem? (i := 615) (by decide +kernel)⟩
theorem lw_p18 : lw_okq (⟨"TypeCopier$Judge", "setShape", "(IIJ)V"⟩, 4) := ⟨⟨by decide +kernel, by decide +kernel⟩, List.mem_of_getElem? (i := 99) (by decide +kernel), List.mem_of_getElem? (i := 618) (by decide +kernel), List.mem_of_getElem? (i := 619) (by decide +kernel)⟩
theorem lw_p19 : lw_okq (⟨"TypeCopierModel", "isType", "(I)Z"⟩, 67) := ⟨⟨by decide +kernel, by decide +kernel⟩, List.mem_of_getElem? (i := 1053) (by decide +kernel), List.mem_of_getElem? (i := 1266) (by decide +kernel), List.mem_of_getElem? (i := 1267) (by decide +kernel)⟩
theorem lw_p20 : lw_okq (⟨"TypeCopierModel", "numbers", "(III)I"⟩, 67) := ⟨⟨by decide +kernel, by decide +kernel⟩, List.mem_of_getElem? (i := 1053) (by decide +kernel), List.mem_of_getElem? (i := 1273) (by decide +kernel), List.mem_of_getElem? (i := 1274) (by decide +kernel)⟩
theorem lw_p21 : lw_okq (⟨"TypeCopierModel", "forgets", "()V"⟩, 67) := ⟨⟨by decide +kernel, by decide +kernel⟩, List.mem_of_getElem? (i := 1053) (by decide +kernel), List.mem_of_getElem? (i := 1277) (by decide +kernel), List.mem_of_getElem? (i := 1278) (by decide +kernel)⟩
theorem lw_p22 : lw_okq (⟨"TypeCopierModel", "notes", "(I)V"⟩, 67) := ⟨⟨by decide +kernel, by decide +kernel⟩, List.mem_of_getElem? (i := 1053) (by decide +kernel), List.mem_of_getElem? (i := 1281) (by decide +kernel), List.mem_of_getElem? (i := 1282) (by decide +kernel)⟩
theorem lw_p23 : lw_okq (⟨"TypeCopierModel", "known", "(III)I"⟩, 67) := ⟨⟨by decide +kernel, by decide +kernel⟩, List.mem_of_getElem? (i := 1053) (by decide +kernel), List.mem_of_getElem? (i := 1290) (by decide +kernel), List.mem_of_getElem? (i := 1291) (by decide +kernel)⟩
theorem lw_p24 : lw_okq (⟨"TypeCopierModel", "lays", "(IIII)V"⟩, 67) := ⟨⟨by decide +kernel, by decide +kernel⟩, List.mem_of_getElem? (i := 1053) (by decide +kernel), List.mem_of_getElem? (i := 1297) (by decide +kernel), List.mem_of_getElem? (i := 1298) (by decide +kernel)⟩
theorem lw_p25 : lw_okq (⟨"TypeCopierModel", "typeOf", "(II)I"⟩, 67) := ⟨⟨by decide +kernel, by decide +kernel⟩, List.mem_of_getElem? (i := 1053) (by decide +kernel), List.mem_of_getElem? (i := 1312) (by decide +kernel), List.mem_of_getElem? (i := 1313) (by decide +kernel)⟩
theorem lw_p26 : lw_okq (⟨"TypeCopierModel", "mayBe", "(IIIII)Z"⟩, 67) := ⟨⟨by decide +kernel, by decide +kernel⟩, List.mem_of_getElem? (i := 1053) (by decide +kernel), List.mem_of_getElem? (i := 1320) (by decide +kernel), List.mem_of_getElem? (i := 1321) (by decide +kernel)⟩
theorem lw_p27 : lw_okq (⟨"TypeCopierModel", "isNode", "(I)Z"⟩, 67) := ⟨⟨by decide +kernel, by decide +kernel⟩, List.mem_of_getElem? (i := 1053) (by decide +kernel), List.mem_of_getElem? (i := 1324) (by decide +kernel), List.mem_of_getElem? (i := 1325) (by decide +kernel)⟩
theorem lw_p28 : lw_okq (⟨"TypeCopierModel", "isTypeOrNone", "(I)Z"⟩, 67) := ⟨⟨by decide +kernel, by decide +kernel⟩, List.mem_of_getElem? (i := 1053) (by decide +kernel), List.mem_of_getElem? (i := 1328) (by decide +kernel), List.mem_of_getElem? (i := 1329) (by decide +kernel)⟩
theorem lw_p29 : lw_okq (⟨"TypeCopierModel", "isWithin", "(II)Z"⟩, 67) := ⟨⟨by decide +kernel, by decide +kernel⟩, List.mem_of_getElem? (i := 1053) (by decide +kernel), List.mem_of_getElem? (i := 1339) (by decide +kernel), List.mem_of_getElem? (i := 1340) (by decide +kernel)⟩
theorem lw_p30 : lw_okq (⟨"TypeCopierModel", "isFunction", "(I)Z"⟩, 67) := ⟨⟨by decide +kernel, by decide +kernel⟩, List.mem_of_getElem? (i := 1053) (by decide +kernel), List.mem_of_getElem? (i := 1347) (by decide +kernel), List.mem_of_getElem? (i := 1348) (by decide +kernel)⟩
theorem lw_p31 : lw_okq (⟨"TypeCopierModel", "goThrough", "(I)V"⟩, 67) := ⟨⟨by decide +kernel, by decide +kernel⟩, List.mem_of_getElem? (i := 1053) (by decide +kernel), List.mem_of_getElem? (i := 1355) (by decide +kernel), List.mem_of_getElem? (i := 1356) (by decide +kernel)⟩
def lw_privs_2 : List (MethodName × Nat) := [(⟨"TypeCopier$Judge", "callShape", "(IIJ)J"⟩, 4), (⟨"TypeCopier$Judge", "shapeOverList", "(IJ)J"⟩, 4), (⟨"TypeCopier$Judge", "setShape", "(IIJ)V"⟩, 4), (⟨"TypeCopierModel", "isType", "(I)Z"⟩, 67), (⟨"TypeCopierModel", "numbers", "(III)I"⟩, 67), (⟨"TypeCopierModel", "forgets", "()V"⟩, 67), (⟨"TypeCopierModel", "notes", "(I)V"⟩, 67), (⟨"TypeCopierModel", "known", "(III)I"⟩, 67), (⟨"TypeCopierModel", "lays", "(IIII)V"⟩, 67), (⟨"TypeCopierModel", "typeOf", "(II)I"⟩, 67), (⟨"TypeCopierModel", "mayBe", "(IIIII)Z"⟩, 67), (⟨"TypeCopierModel", "isNode", "(I)Z"⟩, 67), (⟨"TypeCopierModel", "isTypeOrNone", "(I)Z"⟩, 67), (⟨"TypeCopierModel", "isWithin", "(II)Z"⟩, 67), (⟨"TypeCopierModel", "isFunction", "(I)Z"⟩, 67), (⟨"TypeCopierModel", "goThrough", "(I)V"⟩, 67)]
theorem lw_r2 : ∀ q ∈ lw_privs_2, lw_okq q := List.forall_mem_cons.mpr ⟨lw_p16, List.forall_mem_cons.mpr ⟨lw_p17, List.forall_mem_cons.mpr ⟨lw_p18, List.forall_mem_cons.mpr ⟨lw_p19, List.forall_mem_cons.mpr ⟨lw_p20, List.forall_mem_cons.mpr ⟨lw_p21, List.forall_mem_cons.mpr ⟨lw_p22, List.forall_mem_cons.mpr ⟨lw_p23, List.forall_mem_cons.mpr ⟨lw_p24, List.forall_mem_cons.mpr ⟨lw_p25, List.forall_mem_cons.mpr ⟨lw_p26, List.forall_mem_cons.mpr ⟨lw_p27, List.forall_mem_cons.mpr ⟨lw_p28, List.forall_mem_cons.mpr ⟨lw_p29, List.forall_mem_cons.mpr ⟨lw_p30, List.forall_mem_cons.mpr ⟨lw_p31, fun _ h => absurd h List.not_mem_nil⟩⟩⟩⟩⟩⟩⟩⟩⟩⟩⟩⟩⟩⟩⟩⟩
theorem lw_p32 : lw_okq (⟨"TypeCopierModel", "partOf", "(II)I"⟩, 67) := ⟨⟨by decide +kernel, by decide +kernel⟩, List.mem_of_getElem? (i := 1053) (by decide +kernel), List.mem_of_getElem? (i := 1359) (by decide +kernel), List.mem_of_getElem? (i := 1360) (by decide +kernel)⟩
theorem lw_p33 : lw_okq (⟨"TypeCopierModel", "typeAs", "(IIIII)I"⟩, 67) := ⟨⟨by decide +kernel, by decide +kernel⟩, List.mem_of_getElem? (i := 1053) (by decide +kernel), List.mem_of_getElem? (i := 1363) (by decide +kernel), List.mem_of_getElem? (i := 1364) (by decide +kernel)⟩
theorem lw_p34 : lw_okq (⟨"TypeCopierModel", "made", "(III)I"⟩, 67) := ⟨⟨by decide +kernel, by decide +kernel⟩, List.mem_of_getElem? (i := 1053) (by decide +kernel), List.mem_of_getElem? (i := 1367) (by decide +kernel), List.mem_of_getElem? (i := 1368) (by decide +kernel)⟩
theorem lw_p35 : lw_okq (⟨"TypeCopierModel", "callType", "(II)I"⟩, 67) := ⟨⟨by decide +kernel, by decide +kernel⟩, List.mem_of_getElem? (i := 1053) (by decide +kernel), List.mem_of_getElem? (i := 1371) (by decide +kernel), List.mem_of_getElem? (i := 1372) (by decide +kernel)⟩
theorem lw_p36 : lw_okq (⟨"TypeCopierModel", "put", "(III)I"⟩, 67) := ⟨⟨by decide +kernel, by decide +kernel⟩, List.mem_of_getElem? (i := 1053) (by decide +kernel), List.mem_of_getElem? (i := 1375) (by decide +kernel), List.mem_of_getElem? (i := 1376) (by decide +kernel)⟩
theorem lw_p37 : lw_okq (⟨"TypeCopierModel", "named", "(IZ)I"⟩, 67) := ⟨⟨by decide +kernel, by decide +kernel⟩, List.mem_of_getElem? (i := 1053) (by decide +kernel), List.mem_of_getElem? (i := 1379) (by decide +kernel), List.mem_of_getElem? (i := 1380) (by decide +kernel)⟩
theorem lw_p38 : lw_okq (⟨"TypeCopierModel", "mark", "(I)V"⟩, 67) := ⟨⟨by decide +kernel, by decide +kernel⟩, List.mem_of_getElem? (i := 1053) (by decide +kernel), List.mem_of_getElem? (i := 1387) (by decide +kernel), List.mem_of_getElem? (i := 1388) (by decide +kernel)⟩
theorem lw_p39 : lw_okq (⟨"TypeCopierModel", "findReach", "()V"⟩, 67) := ⟨⟨by decide +kernel, by decide +kernel⟩, List.mem_of_getElem? (i := 1053) (by decide +kernel), List.mem_of_getElem? (i := 1395) (by decide +kernel), List.mem_of_getElem? (i := 1396) (by decide +kernel)⟩
theorem lw_p40 : lw_okq (⟨"TypeCopierModel", "isUsed", "(I)Z"⟩, 67) := ⟨⟨by decide +kernel, by decide +kernel⟩, List.mem_of_getElem? (i := 1053) (by decide +kernel), List.mem_of_getElem? (i := 1403) (by decide +kernel), List.mem_of_getElem? (i := 1404) (by decide +kernel)⟩
theorem lw_p41 : lw_okq (⟨"TypeCopierModel", "isRegular", "(I)Z"⟩, 67) := ⟨⟨by decide +kernel, by decide +kernel⟩, List.mem_of_getElem? (i := 1053) (by decide +kernel), List.mem_of_getElem? (i := 1407) (by decide +kernel), List.mem_of_getElem? (i := 1408) (by decide +kernel)⟩
theorem lw_p42 : lw_okq (⟨"TypeCopierModel", "findCopies", "()I"⟩, 67) := ⟨⟨by decide +kernel, by decide +kernel⟩, List.mem_of_getElem? (i := 1053) (by decide +kernel), List.mem_of_getElem? (i := 1415) (by decide +kernel), List.mem_of_getElem? (i := 1416) (by decide +kernel)⟩
theorem lw_p43 : lw_okq (⟨"TypeCopierModel", "copied", "(III)Z"⟩, 67) := ⟨⟨by decide +kernel, by decide +kernel⟩, List.mem_of_getElem? (i := 1053) (by decide +kernel), List.mem_of_getElem? (i := 1420) (by decide +kernel), List.mem_of_getElem? (i := 1421) (by decide +kernel)⟩
theorem lw_p44 : lw_okq (⟨"TypeCopierModel", "follows", "(I)Z"⟩, 67) := ⟨⟨by decide +kernel, by decide +kernel⟩, List.mem_of_getElem? (i := 1053) (by decide +kernel), List.mem_of_getElem? (i := 1424) (by decide +kernel), List.mem_of_getElem? (i := 1425) (by decide +kernel)⟩
theorem lw_p45 : lw_okq (⟨"TypeCopierModel", "isTooDeep", "(II)Z"⟩, 67) := ⟨⟨by decide +kernel, by decide +kernel⟩, List.mem_of_getElem? (i := 1053) (by decide +kernel), List.mem_of_getElem? (i := 1428) (by decide +kernel), List.mem_of_getElem? (i := 1429) (by decide +kernel)⟩
theorem lw_p46 : lw_okq (⟨"TypeCopierModel", "deepIn", "(IIII)I"⟩, 67) := ⟨⟨by decide +kernel, by decide +kernel⟩, List.mem_of_getElem? (i := 1053) (by decide +kernel), List.mem_of_getElem? (i := 1432) (by decide +kernel), List.mem_of_getElem? (i := 1433) (by decide +kernel)⟩
theorem lw_p47 : lw_okq (⟨"TypeCopierModel", "findOrder", "(I)V"⟩, 67) := ⟨⟨by decide +kernel, by decide +kernel⟩, List.mem_of_getElem? (i := 1053) (by decide +kernel), List.mem_of_getElem? (i := 1436) (by decide +kernel), List.mem_of_getElem? (i := 1437) (by decide +kernel)⟩
def lw_privs_3 : List (MethodName × Nat) := [(⟨"TypeCopierModel", "partOf", "(II)I"⟩, 67), (⟨"TypeCopierModel", "typeAs", "(IIIII)I"⟩, 67), (⟨"TypeCopierModel", "made", "(III)I"⟩, 67), (⟨"TypeCopierModel", "callType", "(II)I"⟩, 67), (⟨"TypeCopierModel", "put", "(III)I"⟩, 67), (⟨"TypeCopierModel", "named", "(IZ)I"⟩, 67), (⟨"TypeCopierModel", "mark", "(I)V"⟩, 67), (⟨"TypeCopierModel", "findReach", "()V"⟩, 67), (⟨"TypeCopierModel", "isUsed", "(I)Z"⟩, 67), (⟨"TypeCopierModel", "isRegular", "(I)Z"⟩, 67), (⟨"TypeCopierModel", "findCopies", "()I"⟩, 67), (⟨"TypeCopierModel", "copied", "(III)Z"⟩, 67), (⟨"TypeCopierModel", "follows", "(I)Z"⟩, 67), (⟨"TypeCopierModel", "isTooDeep", "(II)Z"⟩, 67), (⟨"TypeCopierModel", "deepIn", "(IIII)I"⟩, 67), (⟨"TypeCopierModel", "findOrder", "(I)V"⟩, 67)]
theorem lw_r3 : ∀ q ∈ lw_privs_3, lw_okq q := List.forall_mem_cons.mpr ⟨lw_p32, List.forall_mem_cons.mpr ⟨lw_p33, List.forall_mem_cons.mpr ⟨lw_p34, List.forall_mem_cons.mpr ⟨lw_p35, List.forall_mem_cons.mpr ⟨lw_p36, List.forall_mem_cons.mpr ⟨lw_p37, List.forall_mem_cons.mpr ⟨lw_p38, List.forall_mem_cons.mpr ⟨lw_p39, List.forall_mem_cons.mpr ⟨lw_p40, List.forall_mem_cons.mpr ⟨lw_p41, List.forall_mem_cons.mpr ⟨lw_p42, List.forall_mem_cons.mpr ⟨lw_p43, List.forall_mem_cons.mpr ⟨lw_p44, List.forall_mem_cons.mpr ⟨lw_p45, List.forall_mem_cons.mpr ⟨lw_p46, List.forall_mem_cons.mpr ⟨lw_p47, fun _ h => absurd h List.not_mem_nil⟩⟩⟩⟩⟩⟩⟩⟩⟩⟩⟩⟩⟩⟩⟩⟩
theorem lw_p48 : lw_okq (⟨"TypeCopierModel", "runs", "()I"⟩, 67) := ⟨⟨by decide +kernel, by decide +kernel⟩, List.mem_of_getElem? (i := 1053) (by decide +kernel), List.mem_of_getElem? (i := 1456) (by decide +kernel), List.mem_of_getElem? (i := 1457) (by decide +kernel)⟩
theorem lw_p49 : lw_okq (⟨"TypeCopierModel", "reads", "(I)I"⟩, 67) := ⟨⟨by decide +kernel, by decide +kernel⟩, List.mem_of_getElem? (i := 1053) (by decide +kernel), List.mem_of_getElem? (i := 1460) (by decide +kernel), List.mem_of_getElem? (i := 1461) (by decide +kernel)⟩
theorem lw_p50 : lw_okq (⟨"TypeCopierModel", "beginRead", "(II)V"⟩, 67) := ⟨⟨by decide +kernel, by decide +kernel⟩, List.mem_of_getElem? (i := 1053) (by decide +kernel), List.mem_of_getElem? (i := 1464) (by decide +kernel), List.mem_of_getElem? (i := 1465) (by decide +kernel)⟩
theorem lw_p51 : lw_okq (⟨"TypeCopierModel", "nextInput", "()I"⟩, 67) := ⟨⟨by decide +kernel, by decide +kernel⟩, List.mem_of_getElem? (i := 1053) (by decide +kernel), List.mem_of_getElem? (i := 1468) (by decide +kernel), List.mem_of_getElem? (i := 1469) (by decide +kernel)⟩
theorem lw_p52 : lw_okq (⟨"TypeCopierModel", "endRead", "(I)I"⟩, 67) := ⟨⟨by decide +kernel, by decide +kernel⟩, List.mem_of_getElem? (i := 1053) (by decide +kernel), List.mem_of_getElem? (i := 1472) (by decide +kernel), List.mem_of_getElem? (i := 1473) (by decide +kernel)⟩
theorem lw_p53 : lw_okq (⟨"TypeCopierModel", "cell", "(II)I"⟩, 67) := ⟨⟨by decide +kernel, by decide +kernel⟩, List.mem_of_getElem? (i := 1053) (by decide +kernel), List.mem_of_getElem? (i := 1476) (by decide +kernel), List.mem_of_getElem? (i := 1477) (by decide +kernel)⟩
theorem lw_p54 : lw_okq (⟨"TypeCopierModel", "calls", "(II)Z"⟩, 67) := ⟨⟨by decide +kernel, by decide +kernel⟩, List.mem_of_getElem? (i := 1053) (by decide +kernel), List.mem_of_getElem? (i := 1480) (by decide +kernel), List.mem_of_getElem? (i := 1481) (by decide +kernel)⟩
theorem lw_p55 : lw_okq (⟨"TypeCopierModel", "begin", "(I)V"⟩, 67) := ⟨⟨by decide +kernel, by decide +kernel⟩, List.mem_of_getElem? (i := 1053) (by decide +kernel), List.mem_of_getElem? (i := 1484) (by decide +kernel), List.mem_of_getElem? (i := 1485) (by decide +kernel)⟩
theorem lw_p56 : lw_okq (⟨"TypeCopierModel", "begins", "(I)I"⟩, 67) := ⟨⟨by decide +kernel, by decide +kernel⟩, List.mem_of_getElem? (i := 1053) (by decide +kernel), List.mem_of_getElem? (i := 1488) (by decide +kernel), List.mem_of_getElem? (i := 1489) (by decide +kernel)⟩
theorem lw_p57 : lw_okq (⟨"TypeCopierModel", "gives", "(I)V"⟩, 67) := ⟨⟨by decide +kernel, by decide +kernel⟩, List.mem_of_getElem? (i := 1053) (by decide +kernel), List.mem_of_getElem? (i := 1492) (by decide +kernel), List.mem_of_getElem? (i := 1493) (by decide +kernel)⟩
theorem lw_p58 : lw_okq (⟨"TypeCopierModel", "goesOn", "(I)I"⟩, 67) := ⟨⟨by decide +kernel, by decide +kernel⟩, List.mem_of_getElem? (i := 1053) (by decide +kernel), List.mem_of_getElem? (i := 1496) (by decide +kernel), List.mem_of_getElem? (i := 1497) (by decide +kernel)⟩
theorem lw_p59 : lw_okq (⟨"TypeCopierModel", "takes", "()I"⟩, 67) := ⟨⟨by decide +kernel, by decide +kernel⟩, List.mem_of_getElem? (i := 1053) (by decide +kernel), List.mem_of_getElem? (i := 1500) (by decide +kernel), List.mem_of_getElem? (i := 1501) (by decide +kernel)⟩
theorem lw_p60 : lw_okq (⟨"TypeCopierModel", "both", "(I)I"⟩, 67) := ⟨⟨by decide +kernel, by decide +kernel⟩, List.mem_of_getElem? (i := 1053) (by decide +kernel), List.mem_of_getElem? (i := 1504) (by decide +kernel), List.mem_of_getElem? (i := 1505) (by decide +kernel)⟩
theorem lw_p61 : lw_okq (⟨"TypeCopierModel", "tellsAll", "(II)V"⟩, 67) := ⟨⟨by decide +kernel, by decide +kernel⟩, List.mem_of_getElem? (i := 1053) (by decide +kernel), List.mem_of_getElem? (i := 1508) (by decide +kernel), List.mem_of_getElem? (i := 1509) (by decide +kernel)⟩
theorem lw_p62 : lw_okq (⟨"TypeCopierModel", "tells", "(I)V"⟩, 67) := ⟨⟨by decide +kernel, by decide +kernel⟩, List.mem_of_getElem? (i := 1053) (by decide +kernel), List.mem_of_getElem? (i := 1512) (by decide +kernel), List.mem_of_getElem? (i := 1513) (by decide +kernel)⟩
theorem lw_p63 : lw_okq (⟨"TypeCopierModel", "lengthOf", "(I)I"⟩, 67) := ⟨⟨by decide +kernel, by decide +kernel⟩, List.mem_of_getElem? (i := 1053) (by decide +kernel), List.mem_of_getElem? (i := 1516) (by decide +kernel), List.mem_of_getElem? (i := 1517) (by decide +kernel)⟩
def lw_privs_4 : List (MethodName × Nat) := [(⟨"TypeCopierModel", "runs", "()I"⟩, 67), (⟨"TypeCopierModel", "reads", "(I)I"⟩, 67), (⟨"TypeCopierModel", "beginRead", "(II)V"⟩, 67), (⟨"TypeCopierModel", "nextInput", "()I"⟩, 67), (⟨"TypeCopierModel", "endRead", "(I)I"⟩, 67), (⟨"TypeCopierModel", "cell", "(II)I"⟩, 67), (⟨"TypeCopierModel", "calls", "(II)Z"⟩, 67), (⟨"TypeCopierModel", "begin", "(I)V"⟩, 67), (⟨"TypeCopierModel", "begins", "(I)I"⟩, 67), (⟨"TypeCopierModel", "gives", "(I)V"⟩, 67), (⟨"TypeCopierModel", "goesOn", "(I)I"⟩, 67), (⟨"TypeCopierModel", "takes", "()I"⟩, 67), (⟨"TypeCopierModel", "both", "(I)I"⟩, 67), (⟨"TypeCopierModel", "tellsAll", "(II)V"⟩, 67), (⟨"TypeCopierModel", "tells", "(I)V"⟩, 67), (⟨"TypeCopierModel", "lengthOf", "(I)I"⟩, 67)]
theorem lw_r4 : ∀ q ∈ lw_privs_4, lw_okq q := List.forall_mem_cons.mpr ⟨lw_p48, List.forall_mem_cons.mpr ⟨lw_p49, List.forall_mem_cons.mpr ⟨lw_p50, List.forall_mem_cons.mpr ⟨lw_p51, List.forall_mem_cons.mpr ⟨lw_p52, List.forall_mem_cons.mpr ⟨lw_p53, List.forall_mem_cons.mpr ⟨lw_p54, List.forall_mem_cons.mpr ⟨lw_p55, List.forall_mem_cons.mpr ⟨lw_p56, List.forall_mem_cons.mpr ⟨lw_p57, List.forall_mem_cons.mpr ⟨lw_p58, List.forall_mem_cons.mpr ⟨lw_p59, List.forall_mem_cons.mpr ⟨lw_p60, List.forall_mem_cons.mpr ⟨lw_p61, List.forall_mem_cons.mpr ⟨lw_p62, List.forall_mem_cons.mpr ⟨lw_p63, fun _ h => absurd h List.not_mem_nil⟩⟩⟩⟩⟩⟩⟩⟩⟩⟩⟩⟩⟩⟩⟩⟩
theorem lw_p64 : lw_okq (⟨"TypeCopierModel", "mixedNode", "(JI)J"⟩, 67) := ⟨⟨by decide +kernel, by decide +kernel⟩, List.mem_of_getElem? (i := 1053) (by decide +kernel), List.mem_of_getElem? (i := 1542) (by decide +kernel), List.mem_of_getElem? (i := 1543) (by decide +kernel)⟩
def lw_privs_5 : List (MethodName × Nat) := [(⟨"TypeCopierModel", "mixedNode", "(JI)J"⟩, 67)]
theorem lw_r5 : ∀ q ∈ lw_privs_5, lw_okq q := List.forall_mem_cons.mpr ⟨lw_p64, fun _ h => absurd h List.not_mem_nil⟩
def lw_privs : List (MethodName × Nat) := lw_privs_1 ++ (lw_privs_2 ++ (lw_privs_3 ++ (lw_privs_4 ++ (lw_privs_5))))
def lw_tbl : List Cond := k2_sels lw_privs ++ tables_1
theorem lw_privs_ok : ∀ q ∈ lw_privs, lw_okq q := by
  show ∀ q ∈ lw_privs_1 ++ (lw_privs_2 ++ (lw_privs_3 ++ (lw_privs_4 ++ (lw_privs_5)))), lw_okq q
  exact List.forall_mem_append.mpr ⟨lw_r1, List.forall_mem_append.mpr ⟨lw_r2, List.forall_mem_append.mpr ⟨lw_r3, List.forall_mem_append.mpr ⟨lw_r4, lw_r5⟩⟩⟩⟩
end
section
/-! ===== BEGIN words of one list among another's, by their places ===== -/
theorem goodIn_r {big : List Cond} (ws : List Cond) (ps : List Nat) (hp : ws = ps.filterMap (fun i => big[i]?)) (h : ws.all goodWord = true) : GoodIn big ws := by
  intro w hw
  have h1 := List.all_eq_true.mp h w hw
  rw [hp] at hw
  obtain ⟨i, -, hi⟩ := List.mem_filterMap.mp hw
  have hm : w ∈ big := by first | exact List.mem_of_getElem? hi | exact List.getElem?_mem hi
  exact ⟨hm, good_of_word h1⟩
theorem goodIn_app {big a b : List Cond} (ha : GoodIn big a) (hb : GoodIn big b) : GoodIn big (a ++ b) := fun w h => (List.mem_append.mp h).elim (ha w) (hb w)
theorem goodIn_ca {big a b : List Cond} {c : Cond} (ha : GoodIn big (c :: a)) (hb : GoodIn big b) : GoodIn big (c :: (a ++ b)) := fun w h => (List.mem_cons.mp h).elim (fun e => ha w (List.mem_cons.mpr (Or.inl e))) (fun h => (List.mem_append.mp h).elim (fun h => ha w (List.mem_cons.mpr (Or.inr h))) (hb w))
theorem goodIn_sub {big ws : List Cond} (hm : ∀ w ∈ ws, w ∈ big) (h : ws.all goodWord = true) : GoodIn big ws := fun w hw => ⟨hm w hw, good_of_word (List.all_eq_true.mp h w hw)⟩
/-! ===== END ===== -/
/-! ===== BEGIN printed: names, fields, word lists, decode rows ===== -/
def RX0 : String := "TypeCopier$Copies"
def TX0 : u_T := fun k => match k with
  | 0 => ("TypeCopier$Copies", "numbered", "LTypeCopier$Numbered;", true)
  | 1 => ("TypeCopier$Copies", "nodes", "LTypeCopier$Nodes;", true)
  | 2 => ("TypeCopier$Copies", "functions", "LTypeCopier$Functions;", true)
  | 3 => ("TypeCopier$Copies", "judge", "LTypeCopier$Judge;", true)
  | 4 => ("TypeCopier$Copies", "copied", "[I", true)
  | 5 => ("TypeCopier$Copies", "forA", "[J", true)
  | 6 => ("TypeCopier$Copies", "forB", "[J", true)
  | 7 => ("TypeCopier$Copies", "arguments", "[J", true)
  | 8 => ("TypeCopier$Copies", "argumentWidths", "[I", true)
  | 9 => ("TypeCopier$Copies", "resultWidths", "[I", true)
  | 10 => ("TypeCopier$Copies", "widths", "[[I", true)
  | 11 => ("TypeCopier$Copies", "called", "[[I", true)
  | _ => ("TypeCopier$Copies", "size", "I", false)
def tyX0 : Nat → FieldType := fun k => match k with
  | 0 => .object "TypeCopier$Numbered"
  | 1 => .object "TypeCopier$Nodes"
  | 2 => .object "TypeCopier$Functions"
  | 3 => .object "TypeCopier$Judge"
  | 4 => .array .int
  | 5 => .array .long
  | 6 => .array .long
  | 7 => .array .long
  | 8 => .array .int
  | 9 => .array .int
  | 10 => .array (.array .int)
  | 11 => .array (.array .int)
  | _ => .int
abbrev wsX00 : List Cond := u_ws RX0 TX0 13
theorem nmX0 : ∀ a, a < 13 → ∀ b, b < 13 → a ≠ b → (TX0 a).2.1 ≠ (TX0 b).2.1 := by decide +kernel
theorem tyX0_ok : ∀ k, k < 13 → parseFieldDescriptor (TX0 k).2.2.1 = some (tyX0 k) := by decide +kernel
abbrev cX0_init : ByteArray := prog_2_method_1_code
def yX0_init : MethodName := ⟨RX0, "<init>", "(LTypeCopier$Numbered;LTypeCopier$Nodes;LTypeCopier$Functions;LTypeCopier$Judge;)V"⟩
abbrev cX0_makeAll : ByteArray := prog_2_method_2_code
def yX0_makeAll : MethodName := ⟨RX0, "makeAll", "()I"⟩
abbrev cX0_findOrAdd : ByteArray := prog_2_method_3_code
def yX0_findOrAdd : MethodName := ⟨RX0, "findOrAdd", "(IJJ)I"⟩
abbrev cX0_makeOne : ByteArray := prog_2_method_4_code
def yX0_makeOne : MethodName := ⟨RX0, "makeOne", "(I)Z"⟩
abbrev cX0_copyForCall : ByteArray := prog_2_method_5_code
def yX0_copyForCall : MethodName := ⟨RX0, "copyForCall", "(IJJ)I"⟩
abbrev cX0_has : ByteArray := prog_2_method_6_code
def yX0_has : MethodName := ⟨RX0, "has", "(I)Z"⟩
abbrev cX0_functionOf : ByteArray := prog_2_method_7_code
def yX0_functionOf : MethodName := ⟨RX0, "functionOf", "(I)I"⟩
abbrev cX0_argumentWidth : ByteArray := prog_2_method_8_code
def yX0_argumentWidth : MethodName := ⟨RX0, "argumentWidth", "(I)I"⟩
abbrev cX0_resultWidth : ByteArray := prog_2_method_9_code
def yX0_resultWidth : MethodName := ⟨RX0, "resultWidth", "(I)I"⟩
abbrev cX0_widthAt : ByteArray := prog_2_method_10_code
def yX0_widthAt : MethodName := ⟨RX0, "widthAt", "(II)I"⟩
abbrev cX0_calledAt : ByteArray := prog_2_method_11_code
def yX0_calledAt : MethodName := ⟨RX0, "calledAt", "(II)I"⟩
abbrev cX0_factOf : ByteArray := prog_2_method_12_code
def yX0_factOf : MethodName := ⟨RX0, "factOf", "(II)I"⟩
def RX1 : String := "TypeCopier$CopyMachine"
def TX1 : u_T := fun k => match k with
  | 0 => ("TypeCopier$Machine", "nodes", "LTypeCopier$Nodes;", true)
  | 1 => ("TypeCopier$Machine", "input", "LTypeCopier$Input;", true)
  | 2 => ("TypeCopier$Machine", "report", "LTypeCopier$Report;", true)
  | 3 => ("TypeCopier$Machine", "cells", "[I", true)
  | 4 => ("TypeCopier$Machine", "workedNode", "[I", true)
  | 5 => ("TypeCopier$Machine", "workedTurns", "[I", true)
  | 6 => ("TypeCopier$Machine", "openUnit", "[I", true)
  | 7 => ("TypeCopier$Machine", "openArgument", "[I", true)
  | 8 => ("TypeCopier$Machine", "top", "I", false)
  | 9 => ("TypeCopier$Machine", "heap", "I", false)
  | 10 => ("TypeCopier$Machine", "worked", "I", false)
  | 11 => ("TypeCopier$Machine", "open", "I", false)
  | 12 => ("TypeCopier$CopyMachine", "functions", "LTypeCopier$Functions;", true)
  | _ => ("TypeCopier$CopyMachine", "copyRows", "LTypeCopier$Copies;", true)
def tyX1 : Nat → FieldType := fun k => match k with
  | 0 => .object "TypeCopier$Nodes"
  | 1 => .object "TypeCopier$Input"
  | 2 => .object "TypeCopier$Report"
  | 3 => .array .int
  | 4 => .array .int
  | 5 => .array .int
  | 6 => .array .int
  | 7 => .array .int
  | 8 => .int
  | 9 => .int
  | 10 => .int
  | 11 => .int
  | 12 => .object "TypeCopier$Functions"
  | _ => .object "TypeCopier$Copies"
abbrev wsX10 : List Cond := u_ws RX1 TX1 14
theorem nmX1 : ∀ a, a < 14 → ∀ b, b < 14 → a ≠ b → (TX1 a).2.1 ≠ (TX1 b).2.1 := by decide +kernel
theorem tyX1_ok : ∀ k, k < 14 → parseFieldDescriptor (TX1 k).2.2.1 = some (tyX1 k) := by decide +kernel
abbrev cX1_init : ByteArray := prog_3_method_1_code
def yX1_init : MethodName := ⟨RX1, "<init>", "(LTypeCopier$Nodes;LTypeCopier$Input;LTypeCopier$Report;LTypeCopier$Functions;LTypeCopier$Copies;)V"⟩
abbrev cX1_bodyOf : ByteArray := prog_3_method_2_code
def yX1_bodyOf : MethodName := ⟨RX1, "bodyOf", "(I)I"⟩
abbrev cX1_calledAt : ByteArray := prog_3_method_3_code
def yX1_calledAt : MethodName := ⟨RX1, "calledAt", "(II)I"⟩
abbrev cX1_argumentWidth : ByteArray := prog_3_method_4_code
def yX1_argumentWidth : MethodName := ⟨RX1, "argumentWidth", "(I)I"⟩
abbrev cX1_resultWidth : ByteArray := prog_3_method_5_code
def yX1_resultWidth : MethodName := ⟨RX1, "resultWidth", "(I)I"⟩
abbrev cX1_nodeWidth : ByteArray := prog_3_method_6_code
def yX1_nodeWidth : MethodName := ⟨RX1, "nodeWidth", "(II)I"⟩
abbrev cX1_shapeWidth : ByteArray := prog_3_method_7_code
def yX1_shapeWidth : MethodName := ⟨RX1, "shapeWidth", "(J)I"⟩
abbrev cX1_join : ByteArray := prog_3_method_8_code
def yX1_join : MethodName := ⟨RX1, "join", "()V"⟩
abbrev cX1_takePart : ByteArray := prog_3_method_9_code
def yX1_takePart : MethodName := ⟨RX1, "takePart", "(IIZ)V"⟩
abbrev cX1_partAddress : ByteArray := prog_3_method_10_code
def yX1_partAddress : MethodName := ⟨RX1, "partAddress", "(JIZ)I"⟩
def RX2 : String := "TypeCopier$Functions"
def TX2 : u_T := fun k => match k with
  | 0 => ("TypeCopier$Functions", "letters", "[I", true)
  | 1 => ("TypeCopier$Functions", "arguments", "[I", true)
  | 2 => ("TypeCopier$Functions", "results", "[I", true)
  | 3 => ("TypeCopier$Functions", "argumentShapes", "[J", true)
  | 4 => ("TypeCopier$Functions", "resultShapes", "[J", true)
  | 5 => ("TypeCopier$Functions", "bodies", "[I", true)
  | 6 => ("TypeCopier$Functions", "uses", "[I", true)
  | _ => ("TypeCopier$Functions", "size", "I", false)
def tyX2 : Nat → FieldType := fun k => match k with
  | 0 => .array .int
  | 1 => .array .int
  | 2 => .array .int
  | 3 => .array .long
  | 4 => .array .long
  | 5 => .array .int
  | 6 => .array .int
  | _ => .int
abbrev wsX20 : List Cond := u_ws RX2 TX2 8
theorem nmX2 : ∀ a, a < 8 → ∀ b, b < 8 → a ≠ b → (TX2 a).2.1 ≠ (TX2 b).2.1 := by decide +kernel
theorem tyX2_ok : ∀ k, k < 8 → parseFieldDescriptor (TX2 k).2.2.1 = some (tyX2 k) := by decide +kernel
abbrev cX2_init : ByteArray := prog_4_method_1_code
def yX2_init : MethodName := ⟨RX2, "<init>", "()V"⟩
abbrev cX2_size : ByteArray := prog_4_method_2_code
def yX2_size : MethodName := ⟨RX2, "size", "()I"⟩
abbrev cX2_has : ByteArray := prog_4_method_3_code
def yX2_has : MethodName := ⟨RX2, "has", "(I)Z"⟩
abbrev cX2_lettersOf : ByteArray := prog_4_method_4_code
def yX2_lettersOf : MethodName := ⟨RX2, "lettersOf", "(I)I"⟩
abbrev cX2_argumentShape : ByteArray := prog_4_method_5_code
def yX2_argumentShape : MethodName := ⟨RX2, "argumentShape", "(I)J"⟩
abbrev cX2_resultShape : ByteArray := prog_4_method_6_code
def yX2_resultShape : MethodName := ⟨RX2, "resultShape", "(I)J"⟩
abbrev cX2_bodyOf : ByteArray := prog_4_method_7_code
def yX2_bodyOf : MethodName := ⟨RX2, "bodyOf", "(I)I"⟩
abbrev cX2_lettersAllow : ByteArray := prog_4_method_8_code
def yX2_lettersAllow : MethodName := ⟨RX2, "lettersAllow", "(IJ)Z"⟩
abbrev cX2_add : ByteArray := prog_4_method_9_code
def yX2_add : MethodName := ⟨RX2, "add", "(IIIJJ)I"⟩
abbrev cX2_giveBody : ByteArray := prog_4_method_10_code
def yX2_giveBody : MethodName := ⟨RX2, "giveBody", "(III)V"⟩
abbrev cX2_reachedBy : ByteArray := prog_4_method_11_code
def yX2_reachedBy : MethodName := ⟨RX2, "reachedBy", "(I)I"⟩
abbrev cX2_digestFrom : ByteArray := prog_4_method_12_code
def yX2_digestFrom : MethodName := ⟨RX2, "digestFrom", "(J)J"⟩
def RX3 : String := "TypeCopier$Input"
def TX3 : u_T := fun k => match k with
  | 0 => ("TypeCopier$Input", "row", "[I", true)
  | 1 => ("TypeCopier$Input", "size", "I", false)
  | _ => ("TypeCopier$Input", "taken", "I", false)
def tyX3 : Nat → FieldType := fun k => match k with
  | 0 => .array .int
  | 1 => .int
  | _ => .int
abbrev wsX30 : List Cond := u_ws RX3 TX3 3
theorem nmX3 : ∀ a, a < 3 → ∀ b, b < 3 → a ≠ b → (TX3 a).2.1 ≠ (TX3 b).2.1 := by decide +kernel
theorem tyX3_ok : ∀ k, k < 3 → parseFieldDescriptor (TX3 k).2.2.1 = some (tyX3 k) := by decide +kernel
abbrev cX3_init : ByteArray := prog_5_method_1_code
def yX3_init : MethodName := ⟨RX3, "<init>", "()V"⟩
abbrev cX3_size : ByteArray := prog_5_method_2_code
def yX3_size : MethodName := ⟨RX3, "size", "()I"⟩
abbrev cX3_add : ByteArray := prog_5_method_3_code
def yX3_add : MethodName := ⟨RX3, "add", "(I)I"⟩
abbrev cX3_clear : ByteArray := prog_5_method_4_code
def yX3_clear : MethodName := ⟨RX3, "clear", "()I"⟩
abbrev cX3_rewind : ByteArray := prog_5_method_5_code
def yX3_rewind : MethodName := ⟨RX3, "rewind", "()V"⟩
abbrev cX3_next : ByteArray := prog_5_method_6_code
def yX3_next : MethodName := ⟨RX3, "next", "()I"⟩
def RX4 : String := "TypeCopier$Judge"
def TX4 : u_T := fun k => match k with
  | 0 => ("TypeCopier$Judge", "numbered", "LTypeCopier$Numbered;", true)
  | 1 => ("TypeCopier$Judge", "nodes", "LTypeCopier$Nodes;", true)
  | 2 => ("TypeCopier$Judge", "functions", "LTypeCopier$Functions;", true)
  | _ => ("TypeCopier$Judge", "shapes", "[[J", true)
def tyX4 : Nat → FieldType := fun k => match k with
  | 0 => .object "TypeCopier$Numbered"
  | 1 => .object "TypeCopier$Nodes"
  | 2 => .object "TypeCopier$Functions"
  | _ => .array (.array .long)
abbrev wsX40 : List Cond := u_ws RX4 TX4 4
theorem nmX4 : ∀ a, a < 4 → ∀ b, b < 4 → a ≠ b → (TX4 a).2.1 ≠ (TX4 b).2.1 := by decide +kernel
theorem tyX4_ok : ∀ k, k < 4 → parseFieldDescriptor (TX4 k).2.2.1 = some (tyX4 k) := by decide +kernel
abbrev cX4_init : ByteArray := prog_6_method_1_code
def yX4_init : MethodName := ⟨RX4, "<init>", "(LTypeCopier$Numbered;LTypeCopier$Nodes;LTypeCopier$Functions;)V"⟩
abbrev cX4_fillNode : ByteArray := prog_6_method_2_code
def yX4_fillNode : MethodName := ⟨RX4, "fillNode", "(I)V"⟩
abbrev cX4_setShape : ByteArray := prog_6_method_3_code
def yX4_setShape : MethodName := ⟨RX4, "setShape", "(IIJ)V"⟩
abbrev cX4_shapeIn : ByteArray := prog_6_method_4_code
def yX4_shapeIn : MethodName := ⟨RX4, "shapeIn", "(II)J"⟩
abbrev cX4_partShape : ByteArray := prog_6_method_5_code
def yX4_partShape : MethodName := ⟨RX4, "partShape", "(III)J"⟩
abbrev cX4_findShape : ByteArray := prog_6_method_6_code
def yX4_findShape : MethodName := ⟨RX4, "findShape", "(II)J"⟩
abbrev cX4_shapeOverList : ByteArray := prog_6_method_7_code
def yX4_shapeOverList : MethodName := ⟨RX4, "shapeOverList", "(IJ)J"⟩
abbrev cX4_nilShape : ByteArray := prog_6_method_8_code
def yX4_nilShape : MethodName := ⟨RX4, "nilShape", "(IJ)J"⟩
abbrev cX4_callShape : ByteArray := prog_6_method_9_code
def yX4_callShape : MethodName := ⟨RX4, "callShape", "(IIJ)J"⟩
abbrev cX4_leastWrong : ByteArray := prog_6_method_10_code
def yX4_leastWrong : MethodName := ⟨RX4, "leastWrong", "(I)I"⟩
abbrev cX4_judgeProgram : ByteArray := prog_6_method_11_code
def yX4_judgeProgram : MethodName := ⟨RX4, "judgeProgram", "()I"⟩
abbrev cX4_allHaveBodies : ByteArray := prog_6_method_12_code
def yX4_allHaveBodies : MethodName := ⟨RX4, "allHaveBodies", "(I)Z"⟩
abbrev cX4_allAreRight : ByteArray := prog_6_method_13_code
def yX4_allAreRight : MethodName := ⟨RX4, "allAreRight", "(I)Z"⟩
abbrev cX4_allAreRegular : ByteArray := prog_6_method_14_code
def yX4_allAreRegular : MethodName := ⟨RX4, "allAreRegular", "(I)Z"⟩
abbrev cX4_isRegular : ByteArray := prog_6_method_15_code
def yX4_isRegular : MethodName := ⟨RX4, "isRegular", "(II)Z"⟩
def RX5 : String := "TypeCopier$LetterMachine"
def TX5 : u_T := fun k => match k with
  | 0 => ("TypeCopier$Machine", "nodes", "LTypeCopier$Nodes;", true)
  | 1 => ("TypeCopier$Machine", "input", "LTypeCopier$Input;", true)
  | 2 => ("TypeCopier$Machine", "report", "LTypeCopier$Report;", true)
  | 3 => ("TypeCopier$Machine", "cells", "[I", true)
  | 4 => ("TypeCopier$Machine", "workedNode", "[I", true)
  | 5 => ("TypeCopier$Machine", "workedTurns", "[I", true)
  | 6 => ("TypeCopier$Machine", "openUnit", "[I", true)
  | 7 => ("TypeCopier$Machine", "openArgument", "[I", true)
  | 8 => ("TypeCopier$Machine", "top", "I", false)
  | 9 => ("TypeCopier$Machine", "heap", "I", false)
  | 10 => ("TypeCopier$Machine", "worked", "I", false)
  | 11 => ("TypeCopier$Machine", "open", "I", false)
  | _ => ("TypeCopier$LetterMachine", "functions", "LTypeCopier$Functions;", true)
def tyX5 : Nat → FieldType := fun k => match k with
  | 0 => .object "TypeCopier$Nodes"
  | 1 => .object "TypeCopier$Input"
  | 2 => .object "TypeCopier$Report"
  | 3 => .array .int
  | 4 => .array .int
  | 5 => .array .int
  | 6 => .array .int
  | 7 => .array .int
  | 8 => .int
  | 9 => .int
  | 10 => .int
  | 11 => .int
  | _ => .object "TypeCopier$Functions"
abbrev wsX50 : List Cond := u_ws RX5 TX5 13
theorem nmX5 : ∀ a, a < 13 → ∀ b, b < 13 → a ≠ b → (TX5 a).2.1 ≠ (TX5 b).2.1 := by decide +kernel
theorem tyX5_ok : ∀ k, k < 13 → parseFieldDescriptor (TX5 k).2.2.1 = some (tyX5 k) := by decide +kernel
abbrev cX5_init : ByteArray := prog_7_method_1_code
def yX5_init : MethodName := ⟨RX5, "<init>", "(LTypeCopier$Nodes;LTypeCopier$Input;LTypeCopier$Report;LTypeCopier$Functions;)V"⟩
abbrev cX5_bodyOf : ByteArray := prog_7_method_2_code
def yX5_bodyOf : MethodName := ⟨RX5, "bodyOf", "(I)I"⟩
abbrev cX5_calledAt : ByteArray := prog_7_method_3_code
def yX5_calledAt : MethodName := ⟨RX5, "calledAt", "(II)I"⟩
abbrev cX5_argumentWidth : ByteArray := prog_7_method_4_code
def yX5_argumentWidth : MethodName := ⟨RX5, "argumentWidth", "(I)I"⟩
abbrev cX5_resultWidth : ByteArray := prog_7_method_5_code
def yX5_resultWidth : MethodName := ⟨RX5, "resultWidth", "(I)I"⟩
abbrev cX5_nodeWidth : ByteArray := prog_7_method_6_code
def yX5_nodeWidth : MethodName := ⟨RX5, "nodeWidth", "(II)I"⟩
abbrev cX5_shapeWidth : ByteArray := prog_7_method_7_code
def yX5_shapeWidth : MethodName := ⟨RX5, "shapeWidth", "(J)I"⟩
abbrev cX5_join : ByteArray := prog_7_method_8_code
def yX5_join : MethodName := ⟨RX5, "join", "()V"⟩
abbrev cX5_takePart : ByteArray := prog_7_method_9_code
def yX5_takePart : MethodName := ⟨RX5, "takePart", "(IIZ)V"⟩
abbrev cX5_partAddress : ByteArray := prog_7_method_10_code
def yX5_partAddress : MethodName := ⟨RX5, "partAddress", "(JIZ)I"⟩
def RX6 : String := "TypeCopier$Machine"
def TX6 : u_T := fun k => match k with
  | _ => ("", "", "", false)
def tyX6 : Nat → FieldType := fun k => match k with
  | _ => .int
abbrev wsX60 : List Cond := u_ws RX6 TX6 0
theorem nmX6 : ∀ a, a < 0 → ∀ b, b < 0 → a ≠ b → (TX6 a).2.1 ≠ (TX6 b).2.1 := by decide +kernel
theorem tyX6_ok : ∀ k, k < 0 → parseFieldDescriptor (TX6 k).2.2.1 = some (tyX6 k) := by decide +kernel
abbrev cX6_init : ByteArray := prog_8_method_1_code
def yX6_init : MethodName := ⟨RX6, "<init>", "(LTypeCopier$Nodes;LTypeCopier$Input;LTypeCopier$Report;)V"⟩
abbrev cX6_work : ByteArray := prog_8_method_11_code
def yX6_work : MethodName := ⟨RX6, "work", "(JJ)I"⟩
abbrev cX6_openFunction : ByteArray := prog_8_method_12_code
def yX6_openFunction : MethodName := ⟨RX6, "openFunction", "(I)V"⟩
abbrev cX6_beginNode : ByteArray := prog_8_method_13_code
def yX6_beginNode : MethodName := ⟨RX6, "beginNode", "(I)V"⟩
abbrev cX6_takeTurn : ByteArray := prog_8_method_14_code
def yX6_takeTurn : MethodName := ⟨RX6, "takeTurn", "()V"⟩
abbrev cX6_takeTurnOfIf : ByteArray := prog_8_method_15_code
def yX6_takeTurnOfIf : MethodName := ⟨RX6, "takeTurnOfIf", "(II)V"⟩
abbrev cX6_takeTurnOfCall : ByteArray := prog_8_method_16_code
def yX6_takeTurnOfCall : MethodName := ⟨RX6, "takeTurnOfCall", "(II)V"⟩
abbrev cX6_unit : ByteArray := prog_8_method_17_code
def yX6_unit : MethodName := ⟨RX6, "unit", "()I"⟩
abbrev cX6_closeFunction : ByteArray := prog_8_method_18_code
def yX6_closeFunction : MethodName := ⟨RX6, "closeFunction", "()V"⟩
abbrev cX6_finishNode : ByteArray := prog_8_method_19_code
def yX6_finishNode : MethodName := ⟨RX6, "finishNode", "(II)V"⟩
abbrev cX6_pushArgument : ByteArray := prog_8_method_20_code
def yX6_pushArgument : MethodName := ⟨RX6, "pushArgument", "()V"⟩
abbrev cX6_makeLink : ByteArray := prog_8_method_21_code
def yX6_makeLink : MethodName := ⟨RX6, "makeLink", "(I)V"⟩
abbrev cX6_takeHead : ByteArray := prog_8_method_22_code
def yX6_takeHead : MethodName := ⟨RX6, "takeHead", "(I)V"⟩
abbrev cX6_takeTail : ByteArray := prog_8_method_23_code
def yX6_takeTail : MethodName := ⟨RX6, "takeTail", "()V"⟩
abbrev cX6_storeLink : ByteArray := prog_8_method_24_code
def yX6_storeLink : MethodName := ⟨RX6, "storeLink", "(II)I"⟩
abbrev cX6_readValue : ByteArray := prog_8_method_25_code
def yX6_readValue : MethodName := ⟨RX6, "readValue", "(J)V"⟩
abbrev cX6_tellValue : ByteArray := prog_8_method_26_code
def yX6_tellValue : MethodName := ⟨RX6, "tellValue", "(JI)V"⟩
abbrev cX6_chainLength : ByteArray := prog_8_method_27_code
def yX6_chainLength : MethodName := ⟨RX6, "chainLength", "(I)I"⟩
abbrev cX6_cell : ByteArray := prog_8_method_28_code
def yX6_cell : MethodName := ⟨RX6, "cell", "(I)I"⟩
abbrev cX6_setCell : ByteArray := prog_8_method_29_code
def yX6_setCell : MethodName := ⟨RX6, "setCell", "(II)V"⟩
abbrev cX6_push : ByteArray := prog_8_method_30_code
def yX6_push : MethodName := ⟨RX6, "push", "(I)V"⟩
abbrev cX6_pop : ByteArray := prog_8_method_31_code
def yX6_pop : MethodName := ⟨RX6, "pop", "()I"⟩
abbrev cX6_pushFrom : ByteArray := prog_8_method_32_code
def yX6_pushFrom : MethodName := ⟨RX6, "pushFrom", "(II)V"⟩
abbrev cX6_keep : ByteArray := prog_8_method_33_code
def yX6_keep : MethodName := ⟨RX6, "keep", "(III)V"⟩
abbrev cX6_storeTwo : ByteArray := prog_8_method_34_code
def yX6_storeTwo : MethodName := ⟨RX6, "storeTwo", "(II)I"⟩
def RX7 : String := "TypeCopier$Nodes"
def TX7 : u_T := fun k => match k with
  | 0 => ("TypeCopier$Nodes", "kinds", "[I", true)
  | 1 => ("TypeCopier$Nodes", "depths", "[I", true)
  | 2 => ("TypeCopier$Nodes", "wanted", "[I", true)
  | 3 => ("TypeCopier$Nodes", "seen", "[I", true)
  | 4 => ("TypeCopier$Nodes", "met", "[I", true)
  | 5 => ("TypeCopier$Nodes", "size", "I", false)
  | _ => ("TypeCopier$Nodes", "metSize", "I", false)
def tyX7 : Nat → FieldType := fun k => match k with
  | 0 => .array .int
  | 1 => .array .int
  | 2 => .array .int
  | 3 => .array .int
  | 4 => .array .int
  | 5 => .int
  | _ => .int
abbrev wsX70 : List Cond := u_ws RX7 TX7 7
theorem nmX7 : ∀ a, a < 7 → ∀ b, b < 7 → a ≠ b → (TX7 a).2.1 ≠ (TX7 b).2.1 := by decide +kernel
theorem tyX7_ok : ∀ k, k < 7 → parseFieldDescriptor (TX7 k).2.2.1 = some (tyX7 k) := by decide +kernel
abbrev cX7_init : ByteArray := prog_9_method_1_code
def yX7_init : MethodName := ⟨RX7, "<init>", "()V"⟩
abbrev cX7_size : ByteArray := prog_9_method_2_code
def yX7_size : MethodName := ⟨RX7, "size", "()I"⟩
abbrev cX7_has : ByteArray := prog_9_method_3_code
def yX7_has : MethodName := ⟨RX7, "has", "(I)Z"⟩
abbrev cX7_isKind : ByteArray := prog_9_method_4_code
def yX7_isKind : MethodName := ⟨RX7, "isKind", "(I)Z"⟩
abbrev cX7_kindOf : ByteArray := prog_9_method_5_code
def yX7_kindOf : MethodName := ⟨RX7, "kindOf", "(I)I"⟩
abbrev cX7_wantsOf : ByteArray := prog_9_method_6_code
def yX7_wantsOf : MethodName := ⟨RX7, "wantsOf", "(I)I"⟩
abbrev cX7_partsOf : ByteArray := prog_9_method_7_code
def yX7_partsOf : MethodName := ⟨RX7, "partsOf", "(I)I"⟩
abbrev cX7_wantedAt : ByteArray := prog_9_method_8_code
def yX7_wantedAt : MethodName := ⟨RX7, "wantedAt", "(II)I"⟩
abbrev cX7_partOf : ByteArray := prog_9_method_9_code
def yX7_partOf : MethodName := ⟨RX7, "partOf", "(II)I"⟩
abbrev cX7_partsStand : ByteArray := prog_9_method_10_code
def yX7_partsStand : MethodName := ⟨RX7, "partsStand", "(IIII)Z"⟩
abbrev cX7_depthOver : ByteArray := prog_9_method_11_code
def yX7_depthOver : MethodName := ⟨RX7, "depthOver", "(IIII)I"⟩
abbrev cX7_depthOf : ByteArray := prog_9_method_12_code
def yX7_depthOf : MethodName := ⟨RX7, "depthOf", "(I)I"⟩
abbrev cX7_add : ByteArray := prog_9_method_13_code
def yX7_add : MethodName := ⟨RX7, "add", "(IIIII)I"⟩
abbrev cX7_meetUnder : ByteArray := prog_9_method_14_code
def yX7_meetUnder : MethodName := ⟨RX7, "meetUnder", "(I)V"⟩
abbrev cX7_meet : ByteArray := prog_9_method_15_code
def yX7_meet : MethodName := ⟨RX7, "meet", "(II)V"⟩
abbrev cX7_usesUnder : ByteArray := prog_9_method_16_code
def yX7_usesUnder : MethodName := ⟨RX7, "usesUnder", "(I)I"⟩
abbrev cX7_metSize : ByteArray := prog_9_method_17_code
def yX7_metSize : MethodName := ⟨RX7, "metSize", "()I"⟩
abbrev cX7_metAt : ByteArray := prog_9_method_18_code
def yX7_metAt : MethodName := ⟨RX7, "metAt", "(I)I"⟩
abbrev cX7_digestFrom : ByteArray := prog_9_method_19_code
def yX7_digestFrom : MethodName := ⟨RX7, "digestFrom", "(J)J"⟩
def RX8 : String := "TypeCopier$Numbered"
def TX8 : u_T := fun k => match k with
  | 0 => ("TypeCopier$Numbered", "shapes", "[J", true)
  | _ => ("TypeCopier$Numbered", "size", "I", false)
def tyX8 : Nat → FieldType := fun k => match k with
  | 0 => .array .long
  | _ => .int
abbrev wsX80 : List Cond := u_ws RX8 TX8 2
theorem nmX8 : ∀ a, a < 2 → ∀ b, b < 2 → a ≠ b → (TX8 a).2.1 ≠ (TX8 b).2.1 := by decide +kernel
theorem tyX8_ok : ∀ k, k < 2 → parseFieldDescriptor (TX8 k).2.2.1 = some (tyX8 k) := by decide +kernel
abbrev cX8_init : ByteArray := prog_10_method_1_code
def yX8_init : MethodName := ⟨RX8, "<init>", "()V"⟩
abbrev cX8_size : ByteArray := prog_10_method_2_code
def yX8_size : MethodName := ⟨RX8, "size", "()I"⟩
abbrev cX8_has : ByteArray := prog_10_method_3_code
def yX8_has : MethodName := ⟨RX8, "has", "(I)Z"⟩
abbrev cX8_shapeOf : ByteArray := prog_10_method_4_code
def yX8_shapeOf : MethodName := ⟨RX8, "shapeOf", "(I)J"⟩
abbrev cX8_tell : ByteArray := prog_10_method_5_code
def yX8_tell : MethodName := ⟨RX8, "tell", "(J)I"⟩
abbrev cX8_take : ByteArray := prog_10_method_6_code
def yX8_take : MethodName := ⟨RX8, "take", "(J)I"⟩
abbrev cX8_factOf : ByteArray := prog_10_method_7_code
def yX8_factOf : MethodName := ⟨RX8, "factOf", "(II)I"⟩
def RX9 : String := "TypeCopier$Report"
def TX9 : u_T := fun k => match k with
  | 0 => ("TypeCopier$Report", "row", "[I", true)
  | 1 => ("TypeCopier$Report", "size", "I", false)
  | 2 => ("TypeCopier$Report", "steps", "I", false)
  | 3 => ("TypeCopier$Report", "links", "I", false)
  | 4 => ("TypeCopier$Report", "mostOpen", "I", false)
  | _ => ("TypeCopier$Report", "outcome", "I", false)
def tyX9 : Nat → FieldType := fun k => match k with
  | 0 => .array .int
  | 1 => .int
  | 2 => .int
  | 3 => .int
  | 4 => .int
  | _ => .int
abbrev wsX90 : List Cond := u_ws RX9 TX9 6
theorem nmX9 : ∀ a, a < 6 → ∀ b, b < 6 → a ≠ b → (TX9 a).2.1 ≠ (TX9 b).2.1 := by decide +kernel
theorem tyX9_ok : ∀ k, k < 6 → parseFieldDescriptor (TX9 k).2.2.1 = some (tyX9 k) := by decide +kernel
abbrev cX9_init : ByteArray := prog_11_method_1_code
def yX9_init : MethodName := ⟨RX9, "<init>", "()V"⟩
abbrev cX9_begin : ByteArray := prog_11_method_2_code
def yX9_begin : MethodName := ⟨RX9, "begin", "()V"⟩
abbrev cX9_goesOn : ByteArray := prog_11_method_3_code
def yX9_goesOn : MethodName := ⟨RX9, "goesOn", "()Z"⟩
abbrev cX9_end : ByteArray := prog_11_method_4_code
def yX9_end : MethodName := ⟨RX9, "end", "(I)V"⟩
abbrev cX9_outcome : ByteArray := prog_11_method_5_code
def yX9_outcome : MethodName := ⟨RX9, "outcome", "()I"⟩
abbrev cX9_countStep : ByteArray := prog_11_method_6_code
def yX9_countStep : MethodName := ⟨RX9, "countStep", "()I"⟩
abbrev cX9_countLink : ByteArray := prog_11_method_7_code
def yX9_countLink : MethodName := ⟨RX9, "countLink", "()I"⟩
abbrev cX9_noteOpen : ByteArray := prog_11_method_8_code
def yX9_noteOpen : MethodName := ⟨RX9, "noteOpen", "(I)V"⟩
abbrev cX9_isFull : ByteArray := prog_11_method_9_code
def yX9_isFull : MethodName := ⟨RX9, "isFull", "()Z"⟩
abbrev cX9_add : ByteArray := prog_11_method_10_code
def yX9_add : MethodName := ⟨RX9, "add", "(I)V"⟩
abbrev cX9_entry : ByteArray := prog_11_method_11_code
def yX9_entry : MethodName := ⟨RX9, "entry", "(I)I"⟩
abbrev cX9_factOf : ByteArray := prog_11_method_12_code
def yX9_factOf : MethodName := ⟨RX9, "factOf", "(I)I"⟩
def RX10 : String := "TypeCopier$Shape"
def TX10 : u_T := fun k => match k with
  | _ => ("", "", "", false)
def tyX10 : Nat → FieldType := fun k => match k with
  | _ => .int
abbrev wsX100 : List Cond := u_ws RX10 TX10 0
theorem nmX10 : ∀ a, a < 0 → ∀ b, b < 0 → a ≠ b → (TX10 a).2.1 ≠ (TX10 b).2.1 := by decide +kernel
theorem tyX10_ok : ∀ k, k < 0 → parseFieldDescriptor (TX10 k).2.2.1 = some (tyX10 k) := by decide +kernel
abbrev cX10_depthOf : ByteArray := prog_12_method_2_code
def yX10_depthOf : MethodName := ⟨RX10, "depthOf", "(J)I"⟩
abbrev cX10_roomWith : ByteArray := prog_12_method_3_code
def yX10_roomWith : MethodName := ⟨RX10, "roomWith", "(J)J"⟩
abbrev cX10_roomBelow : ByteArray := prog_12_method_4_code
def yX10_roomBelow : MethodName := ⟨RX10, "roomBelow", "(J)J"⟩
abbrev cX10_listOf : ByteArray := prog_12_method_5_code
def yX10_listOf : MethodName := ⟨RX10, "listOf", "(J)J"⟩
abbrev cX10_pairOf : ByteArray := prog_12_method_6_code
def yX10_pairOf : MethodName := ⟨RX10, "pairOf", "(JJ)J"⟩
abbrev cX10_kindOf : ByteArray := prog_12_method_7_code
def yX10_kindOf : MethodName := ⟨RX10, "kindOf", "(J)I"⟩
abbrev cX10_firstOf : ByteArray := prog_12_method_8_code
def yX10_firstOf : MethodName := ⟨RX10, "firstOf", "(J)J"⟩
abbrev cX10_secondOf : ByteArray := prog_12_method_9_code
def yX10_secondOf : MethodName := ⟨RX10, "secondOf", "(J)J"⟩
abbrev cX10_withLetters : ByteArray := prog_12_method_10_code
def yX10_withLetters : MethodName := ⟨RX10, "withLetters", "(JJJ)J"⟩
abbrev cX10_lettersOf : ByteArray := prog_12_method_11_code
def yX10_lettersOf : MethodName := ⟨RX10, "lettersOf", "(J)I"⟩
abbrev cX10_widthOf : ByteArray := prog_12_method_12_code
def yX10_widthOf : MethodName := ⟨RX10, "widthOf", "(J)I"⟩
abbrev cX10_leavesOf : ByteArray := prog_12_method_13_code
def yX10_leavesOf : MethodName := ⟨RX10, "leavesOf", "(J)I"⟩
def RX11 : String := "TypeCopier"
def TX11 : u_T := fun k => match k with
  | 0 => ("TypeCopier", "numbered", "LTypeCopier$Numbered;", true)
  | 1 => ("TypeCopier", "nodes", "LTypeCopier$Nodes;", true)
  | 2 => ("TypeCopier", "functions", "LTypeCopier$Functions;", true)
  | 3 => ("TypeCopier", "typeJudge", "LTypeCopier$Judge;", true)
  | 4 => ("TypeCopier", "copyRows", "LTypeCopier$Copies;", true)
  | 5 => ("TypeCopier", "inputRow", "LTypeCopier$Input;", true)
  | 6 => ("TypeCopier", "report", "LTypeCopier$Report;", true)
  | 7 => ("TypeCopier", "letterMachine", "LTypeCopier$Machine;", true)
  | 8 => ("TypeCopier", "copyMachine", "LTypeCopier$Machine;", true)
  | 9 => ("TypeCopier", "verdict", "I", false)
  | 10 => ("TypeCopier", "copyCount", "I", false)
  | _ => ("TypeCopier", "runs", "I", false)
def tyX11 : Nat → FieldType := fun k => match k with
  | 0 => .object "TypeCopier$Numbered"
  | 1 => .object "TypeCopier$Nodes"
  | 2 => .object "TypeCopier$Functions"
  | 3 => .object "TypeCopier$Judge"
  | 4 => .object "TypeCopier$Copies"
  | 5 => .object "TypeCopier$Input"
  | 6 => .object "TypeCopier$Report"
  | 7 => .object "TypeCopier$Machine"
  | 8 => .object "TypeCopier$Machine"
  | 9 => .int
  | 10 => .int
  | _ => .int
abbrev wsX110 : List Cond := u_ws RX11 TX11 12
theorem nmX11 : ∀ a, a < 12 → ∀ b, b < 12 → a ≠ b → (TX11 a).2.1 ≠ (TX11 b).2.1 := by decide +kernel
theorem tyX11_ok : ∀ k, k < 12 → parseFieldDescriptor (TX11 k).2.2.1 = some (tyX11 k) := by decide +kernel
abbrev cX11_init : ByteArray := prog_1_method_1_code
def yX11_init : MethodName := ⟨RX11, "<init>", "()V"⟩
abbrev cX11_pair : ByteArray := prog_1_method_2_code
def yX11_pair : MethodName := ⟨RX11, "pair", "(II)I"⟩
abbrev cX11_list : ByteArray := prog_1_method_3_code
def yX11_list : MethodName := ⟨RX11, "list", "(I)I"⟩
abbrev cX11_type : ByteArray := prog_1_method_4_code
def yX11_type : MethodName := ⟨RX11, "type", "(II)I"⟩
abbrev cX11_node : ByteArray := prog_1_method_5_code
def yX11_node : MethodName := ⟨RX11, "node", "(IIIII)I"⟩
abbrev cX11_wantedStands : ByteArray := prog_1_method_6_code
def yX11_wantedStands : MethodName := ⟨RX11, "wantedStands", "(IIIII)Z"⟩
abbrev cX11_callTypesStand : ByteArray := prog_1_method_7_code
def yX11_callTypesStand : MethodName := ⟨RX11, "callTypesStand", "(II)Z"⟩
abbrev cX11_function : ByteArray := prog_1_method_8_code
def yX11_function : MethodName := ⟨RX11, "function", "(III)I"⟩
abbrev cX11_body : ByteArray := prog_1_method_9_code
def yX11_body : MethodName := ⟨RX11, "body", "(II)I"⟩
abbrev cX11_judgeAnew : ByteArray := prog_1_method_10_code
def yX11_judgeAnew : MethodName := ⟨RX11, "judgeAnew", "()V"⟩
abbrev cX11_typeIn : ByteArray := prog_1_method_11_code
def yX11_typeIn : MethodName := ⟨RX11, "typeIn", "(II)I"⟩
abbrev cX11_wrong : ByteArray := prog_1_method_12_code
def yX11_wrong : MethodName := ⟨RX11, "wrong", "(I)I"⟩
abbrev cX11_reaches : ByteArray := prog_1_method_13_code
def yX11_reaches : MethodName := ⟨RX11, "reaches", "(II)I"⟩
abbrev cX11_judge : ByteArray := prog_1_method_14_code
def yX11_judge : MethodName := ⟨RX11, "judge", "()I"⟩
abbrev cX11_copies : ByteArray := prog_1_method_15_code
def yX11_copies : MethodName := ⟨RX11, "copies", "()I"⟩
abbrev cX11_copy : ByteArray := prog_1_method_16_code
def yX11_copy : MethodName := ⟨RX11, "copy", "(II)I"⟩
abbrev cX11_input : ByteArray := prog_1_method_17_code
def yX11_input : MethodName := ⟨RX11, "input", "(I)I"⟩
abbrev cX11_empty : ByteArray := prog_1_method_18_code
def yX11_empty : MethodName := ⟨RX11, "empty", "()I"⟩
abbrev cX11_run : ByteArray := prog_1_method_19_code
def yX11_run : MethodName := ⟨RX11, "run", "()I"⟩
abbrev cX11_runCopies : ByteArray := prog_1_method_20_code
def yX11_runCopies : MethodName := ⟨RX11, "runCopies", "()I"⟩
abbrev cX11_result : ByteArray := prog_1_method_21_code
def yX11_result : MethodName := ⟨RX11, "result", "(I)I"⟩
abbrev cX11_told : ByteArray := prog_1_method_22_code
def yX11_told : MethodName := ⟨RX11, "told", "(I)I"⟩
abbrev cX11_count : ByteArray := prog_1_method_23_code
def yX11_count : MethodName := ⟨RX11, "count", "(I)I"⟩
abbrev cX11_digest : ByteArray := prog_1_method_24_code
def yX11_digest : MethodName := ⟨RX11, "digest", "()J"⟩
def RX12 : String := "TypeCopierModel"
def TX12 : u_T := fun k => match k with
  | 0 => ("TypeCopierModel", "numbered", "I", false)
  | 1 => ("TypeCopierModel", "types", "I", false)
  | 2 => ("TypeCopierModel", "sortOf", "[I", true)
  | 3 => ("TypeCopierModel", "partA", "[I", true)
  | 4 => ("TypeCopierModel", "partB", "[I", true)
  | 5 => ("TypeCopierModel", "deep", "[I", true)
  | 6 => ("TypeCopierModel", "deepA", "[I", true)
  | 7 => ("TypeCopierModel", "deepB", "[I", true)
  | 8 => ("TypeCopierModel", "widthOf", "[I", true)
  | 9 => ("TypeCopierModel", "table", "[I", true)
  | 10 => ("TypeCopierModel", "todo", "[I", true)
  | 11 => ("TypeCopierModel", "isBack", "[Z", true)
  | 12 => ("TypeCopierModel", "came", "[I", true)
  | 13 => ("TypeCopierModel", "nodes", "I", false)
  | 14 => ("TypeCopierModel", "kind", "[I", true)
  | 15 => ("TypeCopierModel", "wantA", "[I", true)
  | 16 => ("TypeCopierModel", "wantB", "[I", true)
  | 17 => ("TypeCopierModel", "wantC", "[I", true)
  | 18 => ("TypeCopierModel", "wantD", "[I", true)
  | 19 => ("TypeCopierModel", "nodeDeep", "[I", true)
  | 20 => ("TypeCopierModel", "functions", "I", false)
  | 21 => ("TypeCopierModel", "letters", "[I", true)
  | 22 => ("TypeCopierModel", "argument", "[I", true)
  | 23 => ("TypeCopierModel", "result", "[I", true)
  | 24 => ("TypeCopierModel", "body", "[I", true)
  | 25 => ("TypeCopierModel", "typ", "[I", true)
  | 26 => ("TypeCopierModel", "isIn", "[Z", true)
  | 27 => ("TypeCopierModel", "reach", "[Z", true)
  | 28 => ("TypeCopierModel", "nodeType", "[I", true)
  | 29 => ("TypeCopierModel", "nodeA", "[I", true)
  | 30 => ("TypeCopierModel", "nodeB", "[I", true)
  | 31 => ("TypeCopierModel", "copyMany", "I", false)
  | 32 => ("TypeCopierModel", "copyOf", "[I", true)
  | 33 => ("TypeCopierModel", "copyA", "[I", true)
  | 34 => ("TypeCopierModel", "copyB", "[I", true)
  | 35 => ("TypeCopierModel", "order", "[I", true)
  | 36 => ("TypeCopierModel", "ordered", "I", false)
  | 37 => ("TypeCopierModel", "path", "[I", true)
  | 38 => ("TypeCopierModel", "partAt", "[I", true)
  | 39 => ("TypeCopierModel", "isMet", "[Z", true)
  | 40 => ("TypeCopierModel", "input", "[I", true)
  | 41 => ("TypeCopierModel", "inputs", "I", false)
  | 42 => ("TypeCopierModel", "inputAt", "I", false)
  | 43 => ("TypeCopierModel", "heap", "I", false)
  | 44 => ("TypeCopierModel", "heapA", "[I", true)
  | 45 => ("TypeCopierModel", "heapB", "[I", true)
  | 46 => ("TypeCopierModel", "ran", "I", false)
  | 47 => ("TypeCopierModel", "outcome", "I", false)
  | 48 => ("TypeCopierModel", "steps", "I", false)
  | 49 => ("TypeCopierModel", "links", "I", false)
  | 50 => ("TypeCopierModel", "mostOpen", "I", false)
  | 51 => ("TypeCopierModel", "rowLong", "I", false)
  | 52 => ("TypeCopierModel", "row", "[I", true)
  | 53 => ("TypeCopierModel", "readType", "[I", true)
  | 54 => ("TypeCopierModel", "readMany", "[I", true)
  | 55 => ("TypeCopierModel", "readCame", "[I", true)
  | 56 => ("TypeCopierModel", "readValue", "[I", true)
  | 57 => ("TypeCopierModel", "tellType", "[I", true)
  | 58 => ("TypeCopierModel", "tellValue", "[I", true)
  | 59 => ("TypeCopierModel", "tellRest", "[Z", true)
  | 60 => ("TypeCopierModel", "workNode", "[I", true)
  | 61 => ("TypeCopierModel", "workState", "[I", true)
  | 62 => ("TypeCopierModel", "works", "I", false)
  | 63 => ("TypeCopierModel", "value", "[I", true)
  | 64 => ("TypeCopierModel", "valued", "I", false)
  | 65 => ("TypeCopierModel", "argumentOf", "[I", true)
  | _ => ("TypeCopierModel", "open", "I", false)
def tyX12 : Nat → FieldType := fun k => match k with
  | 0 => .int
  | 1 => .int
  | 2 => .array .int
  | 3 => .array .int
  | 4 => .array .int
  | 5 => .array .int
  | 6 => .array .int
  | 7 => .array .int
  | 8 => .array .int
  | 9 => .array .int
  | 10 => .array .int
  | 11 => .array .boolean
  | 12 => .array .int
  | 13 => .int
  | 14 => .array .int
  | 15 => .array .int
  | 16 => .array .int
  | 17 => .array .int
  | 18 => .array .int
  | 19 => .array .int
  | 20 => .int
  | 21 => .array .int
  | 22 => .array .int
  | 23 => .array .int
  | 24 => .array .int
  | 25 => .array .int
  | 26 => .array .boolean
  | 27 => .array .boolean
  | 28 => .array .int
  | 29 => .array .int
  | 30 => .array .int
  | 31 => .int
  | 32 => .array .int
  | 33 => .array .int
  | 34 => .array .int
  | 35 => .array .int
  | 36 => .int
  | 37 => .array .int
  | 38 => .array .int
  | 39 => .array .boolean
  | 40 => .array .int
  | 41 => .int
  | 42 => .int
  | 43 => .int
  | 44 => .array .int
  | 45 => .array .int
  | 46 => .int
  | 47 => .int
  | 48 => .int
  | 49 => .int
  | 50 => .int
  | 51 => .int
  | 52 => .array .int
  | 53 => .array .int
  | 54 => .array .int
  | 55 => .array .int
  | 56 => .array .int
  | 57 => .array .int
  | 58 => .array .int
  | 59 => .array .boolean
  | 60 => .array .int
  | 61 => .array .int
  | 62 => .int
  | 63 => .array .int
  | 64 => .int
  | 65 => .array .int
  | _ => .int
abbrev wsX120 : List Cond := u_ws RX12 TX12 67
theorem nmX12 : ∀ a, a < 67 → ∀ b, b < 67 → a ≠ b → (TX12 a).2.1 ≠ (TX12 b).2.1 := by decide +kernel
theorem tyX12_ok : ∀ k, k < 67 → parseFieldDescriptor (TX12 k).2.2.1 = some (tyX12 k) := by decide +kernel
abbrev cX12_in : ByteArray := prog_14_method_2_code
def yX12_in : MethodName := ⟨RX12, "in", "(III)Z"⟩
abbrev cX12_init : ByteArray := prog_14_method_3_code
def yX12_init : MethodName := ⟨RX12, "<init>", "()V"⟩
abbrev cX12_mixed : ByteArray := prog_14_method_4_code
def yX12_mixed : MethodName := ⟨RX12, "mixed", "(III)I"⟩
abbrev cX12_forgets : ByteArray := prog_14_method_5_code
def yX12_forgets : MethodName := ⟨RX12, "forgets", "()V"⟩
abbrev cX12_notes : ByteArray := prog_14_method_6_code
def yX12_notes : MethodName := ⟨RX12, "notes", "(I)V"⟩
abbrev cX12_known : ByteArray := prog_14_method_7_code
def yX12_known : MethodName := ⟨RX12, "known", "(III)I"⟩
abbrev cX12_most : ByteArray := prog_14_method_8_code
def yX12_most : MethodName := ⟨RX12, "most", "(II)I"⟩
abbrev cX12_under : ByteArray := prog_14_method_9_code
def yX12_under : MethodName := ⟨RX12, "under", "(I)I"⟩
abbrev cX12_lays : ByteArray := prog_14_method_10_code
def yX12_lays : MethodName := ⟨RX12, "lays", "(IIII)V"⟩
abbrev cX12_made : ByteArray := prog_14_method_11_code
def yX12_made : MethodName := ⟨RX12, "made", "(III)I"⟩
abbrev cX12_isType : ByteArray := prog_14_method_12_code
def yX12_isType : MethodName := ⟨RX12, "isType", "(I)Z"⟩
abbrev cX12_numbers : ByteArray := prog_14_method_13_code
def yX12_numbers : MethodName := ⟨RX12, "numbers", "(III)I"⟩
abbrev cX12_pair : ByteArray := prog_14_method_14_code
def yX12_pair : MethodName := ⟨RX12, "pair", "(II)I"⟩
abbrev cX12_list : ByteArray := prog_14_method_15_code
def yX12_list : MethodName := ⟨RX12, "list", "(I)I"⟩
abbrev cX12_typeOf : ByteArray := prog_14_method_16_code
def yX12_typeOf : MethodName := ⟨RX12, "typeOf", "(II)I"⟩
abbrev cX12_type : ByteArray := prog_14_method_17_code
def yX12_type : MethodName := ⟨RX12, "type", "(II)I"⟩
abbrev cX12_isWithin : ByteArray := prog_14_method_18_code
def yX12_isWithin : MethodName := ⟨RX12, "isWithin", "(II)Z"⟩
abbrev cX12_put : ByteArray := prog_14_method_19_code
def yX12_put : MethodName := ⟨RX12, "put", "(III)I"⟩
abbrev cX12_named : ByteArray := prog_14_method_20_code
def yX12_named : MethodName := ⟨RX12, "named", "(IZ)I"⟩
abbrev cX12_isNode : ByteArray := prog_14_method_21_code
def yX12_isNode : MethodName := ⟨RX12, "isNode", "(I)Z"⟩
abbrev cX12_isFunction : ByteArray := prog_14_method_22_code
def yX12_isFunction : MethodName := ⟨RX12, "isFunction", "(I)Z"⟩
abbrev cX12_partsOf : ByteArray := prog_14_method_23_code
def yX12_partsOf : MethodName := ⟨RX12, "partsOf", "(I)I"⟩
abbrev cX12_partOf : ByteArray := prog_14_method_24_code
def yX12_partOf : MethodName := ⟨RX12, "partOf", "(II)I"⟩
abbrev cX12_isTypeOrNone : ByteArray := prog_14_method_25_code
def yX12_isTypeOrNone : MethodName := ⟨RX12, "isTypeOrNone", "(I)Z"⟩
abbrev cX12_mayBe : ByteArray := prog_14_method_26_code
def yX12_mayBe : MethodName := ⟨RX12, "mayBe", "(IIIII)Z"⟩
abbrev cX12_node : ByteArray := prog_14_method_27_code
def yX12_node : MethodName := ⟨RX12, "node", "(IIIII)I"⟩
abbrev cX12_function : ByteArray := prog_14_method_28_code
def yX12_function : MethodName := ⟨RX12, "function", "(III)I"⟩
abbrev cX12_body : ByteArray := prog_14_method_29_code
def yX12_body : MethodName := ⟨RX12, "body", "(II)I"⟩
abbrev cX12_callType : ByteArray := prog_14_method_30_code
def yX12_callType : MethodName := ⟨RX12, "callType", "(II)I"⟩
abbrev cX12_typeAs : ByteArray := prog_14_method_31_code
def yX12_typeAs : MethodName := ⟨RX12, "typeAs", "(IIIII)I"⟩
abbrev cX12_goThrough : ByteArray := prog_14_method_32_code
def yX12_goThrough : MethodName := ⟨RX12, "goThrough", "(I)V"⟩
abbrev cX12_typeIn : ByteArray := prog_14_method_33_code
def yX12_typeIn : MethodName := ⟨RX12, "typeIn", "(II)I"⟩
abbrev cX12_mark : ByteArray := prog_14_method_34_code
def yX12_mark : MethodName := ⟨RX12, "mark", "(I)V"⟩
abbrev cX12_wrong : ByteArray := prog_14_method_35_code
def yX12_wrong : MethodName := ⟨RX12, "wrong", "(I)I"⟩
abbrev cX12_findReach : ByteArray := prog_14_method_36_code
def yX12_findReach : MethodName := ⟨RX12, "findReach", "()V"⟩
abbrev cX12_reaches : ByteArray := prog_14_method_37_code
def yX12_reaches : MethodName := ⟨RX12, "reaches", "(II)I"⟩
abbrev cX12_isUsed : ByteArray := prog_14_method_38_code
def yX12_isUsed : MethodName := ⟨RX12, "isUsed", "(I)Z"⟩
abbrev cX12_isRegular : ByteArray := prog_14_method_39_code
def yX12_isRegular : MethodName := ⟨RX12, "isRegular", "(I)Z"⟩
abbrev cX12_judge : ByteArray := prog_14_method_40_code
def yX12_judge : MethodName := ⟨RX12, "judge", "()I"⟩
abbrev cX12_findOrder : ByteArray := prog_14_method_41_code
def yX12_findOrder : MethodName := ⟨RX12, "findOrder", "(I)V"⟩
abbrev cX12_deepIn : ByteArray := prog_14_method_42_code
def yX12_deepIn : MethodName := ⟨RX12, "deepIn", "(IIII)I"⟩
abbrev cX12_isTooDeep : ByteArray := prog_14_method_43_code
def yX12_isTooDeep : MethodName := ⟨RX12, "isTooDeep", "(II)Z"⟩
abbrev cX12_copied : ByteArray := prog_14_method_44_code
def yX12_copied : MethodName := ⟨RX12, "copied", "(III)Z"⟩
abbrev cX12_follows : ByteArray := prog_14_method_45_code
def yX12_follows : MethodName := ⟨RX12, "follows", "(I)Z"⟩
abbrev cX12_findCopies : ByteArray := prog_14_method_46_code
def yX12_findCopies : MethodName := ⟨RX12, "findCopies", "()I"⟩
abbrev cX12_copies : ByteArray := prog_14_method_47_code
def yX12_copies : MethodName := ⟨RX12, "copies", "()I"⟩
abbrev cX12_copy : ByteArray := prog_14_method_48_code
def yX12_copy : MethodName := ⟨RX12, "copy", "(II)I"⟩
abbrev cX12_input : ByteArray := prog_14_method_49_code
def yX12_input : MethodName := ⟨RX12, "input", "(I)I"⟩
abbrev cX12_empty : ByteArray := prog_14_method_50_code
def yX12_empty : MethodName := ⟨RX12, "empty", "()I"⟩
abbrev cX12_cell : ByteArray := prog_14_method_51_code
def yX12_cell : MethodName := ⟨RX12, "cell", "(II)I"⟩
abbrev cX12_nextInput : ByteArray := prog_14_method_52_code
def yX12_nextInput : MethodName := ⟨RX12, "nextInput", "()I"⟩
abbrev cX12_beginRead : ByteArray := prog_14_method_53_code
def yX12_beginRead : MethodName := ⟨RX12, "beginRead", "(II)V"⟩
abbrev cX12_endRead : ByteArray := prog_14_method_54_code
def yX12_endRead : MethodName := ⟨RX12, "endRead", "(I)I"⟩
abbrev cX12_reads : ByteArray := prog_14_method_55_code
def yX12_reads : MethodName := ⟨RX12, "reads", "(I)I"⟩
abbrev cX12_tells : ByteArray := prog_14_method_56_code
def yX12_tells : MethodName := ⟨RX12, "tells", "(I)V"⟩
abbrev cX12_lengthOf : ByteArray := prog_14_method_57_code
def yX12_lengthOf : MethodName := ⟨RX12, "lengthOf", "(I)I"⟩
abbrev cX12_tellsAll : ByteArray := prog_14_method_58_code
def yX12_tellsAll : MethodName := ⟨RX12, "tellsAll", "(II)V"⟩
abbrev cX12_begin : ByteArray := prog_14_method_59_code
def yX12_begin : MethodName := ⟨RX12, "begin", "(I)V"⟩
abbrev cX12_gives : ByteArray := prog_14_method_60_code
def yX12_gives : MethodName := ⟨RX12, "gives", "(I)V"⟩
abbrev cX12_takes : ByteArray := prog_14_method_61_code
def yX12_takes : MethodName := ⟨RX12, "takes", "()I"⟩
abbrev cX12_calls : ByteArray := prog_14_method_62_code
def yX12_calls : MethodName := ⟨RX12, "calls", "(II)Z"⟩
abbrev cX12_begins : ByteArray := prog_14_method_63_code
def yX12_begins : MethodName := ⟨RX12, "begins", "(I)I"⟩
abbrev cX12_goesOn : ByteArray := prog_14_method_64_code
def yX12_goesOn : MethodName := ⟨RX12, "goesOn", "(I)I"⟩
abbrev cX12_both : ByteArray := prog_14_method_65_code
def yX12_both : MethodName := ⟨RX12, "both", "(I)I"⟩
abbrev cX12_runs : ByteArray := prog_14_method_66_code
def yX12_runs : MethodName := ⟨RX12, "runs", "()I"⟩
abbrev cX12_run : ByteArray := prog_14_method_67_code
def yX12_run : MethodName := ⟨RX12, "run", "()I"⟩
abbrev cX12_runCopies : ByteArray := prog_14_method_68_code
def yX12_runCopies : MethodName := ⟨RX12, "runCopies", "()I"⟩
abbrev cX12_result : ByteArray := prog_14_method_69_code
def yX12_result : MethodName := ⟨RX12, "result", "(I)I"⟩
abbrev cX12_told : ByteArray := prog_14_method_70_code
def yX12_told : MethodName := ⟨RX12, "told", "(I)I"⟩
abbrev cX12_count : ByteArray := prog_14_method_71_code
def yX12_count : MethodName := ⟨RX12, "count", "(I)I"⟩
abbrev cX12_mixedNode : ByteArray := prog_14_method_72_code
def yX12_mixedNode : MethodName := ⟨RX12, "mixedNode", "(JI)J"⟩
abbrev cX12_digest : ByteArray := prog_14_method_73_code
def yX12_digest : MethodName := ⟨RX12, "digest", "()J"⟩
def RJ9 : String := "java/lang/Math"
def TJ9 : u_T := fun k => match k with
  | _ => ("", "", "", false)
def tyJ9 : Nat → FieldType := fun k => match k with
  | _ => .int
abbrev wsJ90 : List Cond := u_ws RJ9 TJ9 0
theorem nmJ9 : ∀ a, a < 0 → ∀ b, b < 0 → a ≠ b → (TJ9 a).2.1 ≠ (TJ9 b).2.1 := by decide +kernel
theorem tyJ9_ok : ∀ k, k < 0 → parseFieldDescriptor (TJ9 k).2.2.1 = some (tyJ9 k) := by decide +kernel
abbrev cJ9_max_7cf53 : ByteArray := prog_15_method_65_code
def yJ9_max_7cf53 : MethodName := ⟨RJ9, "max", "(II)I"⟩
abbrev cJ9_max_f86c9 : ByteArray := prog_15_method_66_code
def yJ9_max_f86c9 : MethodName := ⟨RJ9, "max", "(JJ)J"⟩
abbrev cJ9_min_7cf53 : ByteArray := prog_15_method_69_code
def yJ9_min_7cf53 : MethodName := ⟨RJ9, "min", "(II)I"⟩
def RJ7 : String := "java/util/Arrays"
def TJ7 : u_T := fun k => match k with
  | _ => ("", "", "", false)
def tyJ7 : Nat → FieldType := fun k => match k with
  | _ => .int
abbrev wsJ70 : List Cond := u_ws RJ7 TJ7 0
theorem nmJ7 : ∀ a, a < 0 → ∀ b, b < 0 → a ≠ b → (TJ7 a).2.1 ≠ (TJ7 b).2.1 := by decide +kernel
theorem tyJ7_ok : ∀ k, k < 0 → parseFieldDescriptor (TJ7 k).2.2.1 = some (tyJ7 k) := by decide +kernel
abbrev cJ7_fill_53178 : ByteArray := prog_16_method_103_code
def yJ7_fill_53178 : MethodName := ⟨RJ7, "fill", "([II)V"⟩
def RL : String := "TypeCopierLaw"
abbrev cL_law : ByteArray := code
def yL_law : MethodName := ⟨RL, "law", "([I)Z"⟩
end
section
/-! ===== the abstract machine: values, cells, worlds ===== -/
abbrev mm_V : Type := Int32 ⊕ Int64 ⊕ Nat ⊕ Nat ⊕ Unit
abbrev mm_I (x : Int32) : mm_V := .inl x
abbrev mm_L (x : Int64) : mm_V := .inr (.inl x)
abbrev mm_R (k : Nat) : mm_V := .inr (.inr (.inl k))
abbrev mm_S (k : Nat) : mm_V := .inr (.inr (.inr (.inl k)))
abbrev mm_N : mm_V := .inr (.inr (.inr (.inr ())))
/-- a cell: an object (class, fields: none an int, some a reference), a row of numbers (tag, length), a row of rows (tag, length, first row) -/
abbrev mm_C : Type := (Nat × List (Option (Option Nat))) ⊕ (Nat × Nat) ⊕ (Nat × Nat × Nat)
abbrev mm_W : Type := List mm_C × (Nat → Nat → Int32) × (Nat → Nat → Int64)
/-- an entry of a code table: instruction, length, pairs, places of words, a number, an int, a long -/
abbrev mm_E : Type := Jvm.ClassFile.Instr × Nat × List (Nat × Nat) × List (List Nat) × Nat × Int32 × Int64
/-- a method: name, bytes, locals, what it returns, code, arguments (without this), cells and slots that it makes, the place of its word -/
abbrev mm_M : Type := MethodName × ByteArray × Nat × Option FieldType × List mm_E × Nat × Nat × Nat × Nat
abbrev mm_T : Type := Nat → Nat × ((Nat → Int32) ⊕ (Nat → Int64))
abbrev mm_My (M : mm_M) : MethodName := M.1
abbrev mm_Mb (M : mm_M) : ByteArray := M.2.1
abbrev mm_Ml (M : mm_M) : Nat := M.2.2.1
abbrev mm_Mr (M : mm_M) : Option FieldType := M.2.2.2.1
abbrev mm_Mc (M : mm_M) : List mm_E := M.2.2.2.2.1
abbrev mm_Mn (M : mm_M) : Nat := M.2.2.2.2.2.1
abbrev mm_Mk (M : mm_M) : Nat := M.2.2.2.2.2.2.1
abbrev mm_Ms (M : mm_M) : Nat := M.2.2.2.2.2.2.2.1
abbrev mm_Mp (M : mm_M) : Nat := M.2.2.2.2.2.2.2.2
def mm_nop : mm_E := (.nop, 0, [], [], 0, 0, 0)
def mm_u {α : Type} (f : Nat → Nat → α) (k i : Nat) (x : α) : Nat → Nat → α := fun a b => if a = k then (if b = i then x else f a b) else f a b
/-- zeros in n cells from lo on -/
def mm_z {α : Type} [OfNat α 0] (f : Nat → Nat → α) (lo n : Nat) : Nat → Nat → α := fun a b => if lo ≤ a ∧ a < lo + n then 0 else f a b
def mm_c1 : mm_C → Nat
  | .inl (_, fs) => fs.length
  | .inr (.inl (_, n)) => n
  | .inr (.inr (_, n, _)) => n
def mm_sl (l : List mm_C) : Nat := (l.map mm_c1).sum
def mm_cat : mm_V → Nat
  | .inr (.inl _) => 2
  | _ => 1
def mm_cs (l : List mm_V) : Nat := (l.map mm_cat).sum
/-- all references are to cells below n -/
def mm_lo (n : Nat) : mm_V → Bool
  | .inr (.inr (.inl k)) => Nat.blt k n
  | _ => true
def mm_loO (n : Nat) : Option mm_V → Bool
  | some v => mm_lo n v
  | none => true
def mm_loC (n : Nat) : mm_C → Bool
  | .inl (_, fs) => fs.all (fun o => match o with | some (some k) => Nat.blt k n | _ => true)
  | .inr (.inl _) => true
  | .inr (.inr (_, len, b)) => Nat.ble (b + len) n
def mm_chk (ls : List (Option mm_V)) (st : List mm_V) (l : List mm_C) : Bool := ls.all (mm_loO l.length) && st.all (mm_lo l.length) && l.all (mm_loC l.length)
/-! locals -/
def mm_kl (ls : List (Option mm_V)) : Nat → List (Option mm_V)
  | 0 => ls
  | j + 1 => match ls.getD j none with
    | some (.inr (.inl _)) => ls.set j none
    | _ => ls
def mm_s1 (ls : List (Option mm_V)) (g : Nat) (v : mm_V) : List (Option mm_V) := (mm_kl ls g).set g (some v)
def mm_s2 (ls : List (Option mm_V)) (g : Nat) (v : mm_V) : List (Option mm_V) := ((mm_kl ls g).set (g + 1) none).set g (some v)
def mm_ar : List mm_V → List (Option mm_V)
  | [] => []
  | .inr (.inl x) :: r => some (.inr (.inl x)) :: none :: mm_ar r
  | v :: r => some v :: mm_ar r
def mm_ini (nL : Nat) (As : List mm_V) : List (Option mm_V) := mm_ar As ++ List.replicate (nL - (mm_ar As).length) none
def mm_sp : Nat → List mm_V → List mm_V → Option (List mm_V × List mm_V)
  | 0, acc, r => some (acc, r)
  | _ + 1, _, [] => none
  | n + 1, acc, v :: r => mm_sp n (v :: acc) r
def mm_fi : List (Nat × Nat) → Nat → Option Nat
  | [], _ => none
  | (a, b) :: r, c => if a = c then some b else mm_fi r c
/-! ops: what an instruction does to the stack, and where it goes on -/
abbrev mm_K : Type := Nat → List (Option mm_V) → List mm_V → mm_W → Prop
abbrev mm_F : Type := Nat → List mm_V → mm_W → (Option mm_V → mm_W → Prop) → Prop
def mm_oI (o : Option mm_V) (k : Int32 → Prop) : Prop := match o with
  | some (.inl x) => k x
  | _ => False
def mm_oL (o : Option mm_V) (k : Int64 → Prop) : Prop := match o with
  | some (.inr (.inl x)) => k x
  | _ => False
def mm_oA (o : Option mm_V) (k : mm_V → Prop) : Prop := match o with
  | some (.inr (.inr v)) => k (.inr (.inr v))
  | _ => False
def mm_1i (st : List mm_V) (k : Int32 → List mm_V → Prop) : Prop := match st with
  | .inl x :: r => k x r
  | _ => False
def mm_1l (st : List mm_V) (k : Int64 → List mm_V → Prop) : Prop := match st with
  | .inr (.inl x) :: r => k x r
  | _ => False
def mm_1a (st : List mm_V) (k : mm_V → List mm_V → Prop) : Prop := match st with
  | .inr (.inr v) :: r => k (.inr (.inr v)) r
  | _ => False
def mm_1c (st : List mm_V) (k : mm_V → List mm_V → Prop) : Prop := match st with
  | .inl x :: r => k (.inl x) r
  | .inr (.inr v) :: r => k (.inr (.inr v)) r
  | _ => False
def mm_1r (st : List mm_V) (k : Nat → List mm_V → Prop) : Prop := match st with
  | .inr (.inr (.inl x)) :: r => k x r
  | _ => False
def mm_2i (st : List mm_V) (k : Int32 → Int32 → List mm_V → Prop) : Prop := match st with
  | .inl y :: .inl x :: r => k x y r
  | _ => False
def mm_2l (st : List mm_V) (k : Int64 → Int64 → List mm_V → Prop) : Prop := match st with
  | .inr (.inl y) :: .inr (.inl x) :: r => k x y r
  | _ => False
def mm_t1 (ax : List (Nat × Nat)) (k : Nat → Prop) : Prop := match ax with
  | (_, t) :: _ => k t
  | _ => False
def mm_if (c : Jvm.ClassFile.Cond) (x : Int32) (a b : Prop) : Prop := match c with
  | .eq => (x = 0 → a) ∧ (¬ x = 0 → b)
  | .ne => (¬ x = 0 → a) ∧ (x = 0 → b)
  | .lt => (x < 0 → a) ∧ (¬ x < 0 → b)
  | .ge => (0 ≤ x → a) ∧ (¬ 0 ≤ x → b)
  | .gt => (0 < x → a) ∧ (¬ 0 < x → b)
  | .le => (x ≤ 0 → a) ∧ (¬ x ≤ 0 → b)
def mm_ic (c : Jvm.ClassFile.Cond) (x y : Int32) (a b : Prop) : Prop := match c with
  | .eq => (x = y → a) ∧ (¬ x = y → b)
  | .ne => (¬ x = y → a) ∧ (x = y → b)
  | .lt => (x < y → a) ∧ (¬ x < y → b)
  | .ge => (y ≤ x → a) ∧ (¬ y ≤ x → b)
  | .gt => (y < x → a) ∧ (¬ y < x → b)
  | .le => (x ≤ y → a) ∧ (¬ x ≤ y → b)
def mm_sw (x : Int32) (k : Nat → Prop) : List (Nat × Nat) → Prop
  | [] => True
  | (a, t) :: r => (x = nI a → k t) ∧ mm_sw x k r
def mm_df (x : Int32) (P : Prop) : List (Nat × Nat) → Prop
  | [] => P
  | (a, _) :: r => ¬ x = nI a → mm_df x P r
def mm_cas (x : Int32) (k : Nat → Prop) (ax : List (Nat × Nat)) : Prop := match ax with
  | (_, d) :: ts => mm_sw x k ts ∧ mm_df x (k d) ts
  | _ => False
def mm_gf (w : mm_W) (ax : List (Nat × Nat)) (r : Nat) (k : mm_V → Prop) : Prop := match w.1[r]? with
  | some (.inl (ci, fs)) => (match mm_fi ax ci with
    | some j => (match fs[j]? with
      | some none => k (mm_I (w.2.1 r j))
      | some (some none) => k mm_N
      | some (some (some a)) => k (mm_R a)
      | none => False)
    | none => False)
  | _ => False
def mm_pf (w : mm_W) (ax : List (Nat × Nat)) (g r : Nat) (v : mm_V) (k : mm_W → Prop) : Prop := match w.1[r]? with
  | some (.inl (ci, fs)) => (match mm_fi ax ci with
    | some j => (match g, fs[j]?, v with
      | 0, some none, .inl x => k (w.1, mm_u w.2.1 r j x, w.2.2)
      | 1, some (some _), .inr (.inr (.inl a)) => k (w.1.set r (.inl (ci, fs.set j (some (some a)))), w.2.1, w.2.2)
      | _, _, _ => False)
    | none => False)
  | _ => False
/-- a row of numbers with a tag: own, or of the tables -/
def mm_ald (w : mm_W) (t r : Nat) (i : Int32) (k : Prop) : Prop := match w.1[r]? with
  | some (.inr (.inl (t', n))) => t' = t ∧ vp_in i n ∧ k
  | _ => False
def mm_ild (tb : mm_T) (w : mm_W) (st : List mm_V) (k : Int32 → List mm_V → Prop) : Prop := match st with
  | .inl i :: .inr (.inr (.inl r)) :: s => mm_ald w 0 r i (k (w.2.1 r i.toNatClampNeg) s)
  | .inl i :: .inr (.inr (.inr (.inl j))) :: s => (match tb j with
    | (n, .inl f) => vp_in i n ∧ k (f i.toNatClampNeg) s
    | _ => False)
  | _ => False
def mm_lld (tb : mm_T) (w : mm_W) (st : List mm_V) (k : Int64 → List mm_V → Prop) : Prop := match st with
  | .inl i :: .inr (.inr (.inl r)) :: s => mm_ald w 1 r i (k (w.2.2 r i.toNatClampNeg) s)
  | .inl i :: .inr (.inr (.inr (.inl j))) :: s => (match tb j with
    | (n, .inr f) => vp_in i n ∧ k (f i.toNatClampNeg) s
    | _ => False)
  | _ => False
def mm_bld (w : mm_W) (st : List mm_V) (k : Int32 → List mm_V → Prop) : Prop := match st with
  | .inl i :: .inr (.inr (.inl r)) :: s => mm_ald w 2 r i (k (w.2.1 r i.toNatClampNeg) s)
  | _ => False
def mm_qld (w : mm_W) (st : List mm_V) (k : Nat → List mm_V → Prop) : Prop := match st with
  | .inl i :: .inr (.inr (.inl r)) :: s => (match w.1[r]? with
    | some (.inr (.inr (_, n, b))) => vp_in i n ∧ k (b + i.toNatClampNeg) s
    | _ => False)
  | _ => False
def mm_ist (w : mm_W) (t : Nat) (st : List mm_V) (k : mm_W → List mm_V → Prop) : Prop := match st with
  | .inl x :: .inl i :: .inr (.inr (.inl r)) :: s => mm_ald w t r i (k (w.1, mm_u w.2.1 r i.toNatClampNeg (if t = 0 then x else vp_nar .boolean x), w.2.2) s)
  | _ => False
def mm_lst (w : mm_W) (st : List mm_V) (k : mm_W → List mm_V → Prop) : Prop := match st with
  | .inr (.inl x) :: .inl i :: .inr (.inr (.inl r)) :: s => mm_ald w 1 r i (k (w.1, w.2.1, mm_u w.2.2 r i.toNatClampNeg x) s)
  | _ => False
def mm_len (tb : mm_T) (w : mm_W) (st : List mm_V) (k : Int32 → List mm_V → Prop) : Prop := match st with
  | .inr (.inr (.inl r)) :: s => (match w.1[r]? with
    | some (.inr (.inl (_, n))) => k (nI n) s
    | _ => False)
  | .inr (.inr (.inr (.inl j))) :: s => k (nI (tb j).1) s
  | _ => False
/-- the fields of a new object -/
def mm_nf (tys : Nat → FieldType) (n : Nat) : List (Option (Option Nat)) := (List.range n).map (fun j => match tys j with | .int => none | _ => some none)
abbrev mm_cl : List vw_C := [(RX0, TX0, 13), (RX1, TX1, 14), (RX2, TX2, 8), (RX3, TX3, 3), (RX4, TX4, 4), (RX5, TX5, 13), (RX7, TX7, 7), (RX8, TX8, 2), (RX9, TX9, 6), (RX11, TX11, 12), (RX12, TX12, 67)]
def mm_tys : Nat → Nat → FieldType := fun ci => match ci with
  | 0 => tyX0
  | 1 => tyX1
  | 2 => tyX2
  | 3 => tyX3
  | 4 => tyX4
  | 5 => tyX5
  | 6 => tyX7
  | 7 => tyX8
  | 8 => tyX9
  | 9 => tyX11
  | _ => tyX12
def mm_cn : Nat → Nat := fun ci => match ci with
  | 0 => 13
  | 1 => 14
  | 2 => 8
  | 3 => 3
  | 4 => 4
  | 5 => 13
  | 6 => 7
  | 7 => 2
  | 8 => 6
  | 9 => 12
  | _ => 67
/-- room for a more cells of b more slots -/
def mm_rm (lim : Nat × Nat) (w : mm_W) (a b : Nat) : Prop := w.1.length + a ≤ lim.1 ∧ mm_sl w.1 + b ≤ lim.2
def mm_new (lim : Nat × Nat) (ax : List (Nat × Nat)) (ls : List (Option mm_V)) (st : List mm_V) (w : mm_W) (k : mm_V → mm_W → Prop) : Prop := match ax with
  | (_, ci) :: _ => mm_chk ls st w.1 = true ∧ mm_rm lim w 1 (mm_cn ci) ∧ k (mm_R w.1.length) (w.1 ++ [.inl (ci, mm_nf (mm_tys ci) (mm_cn ci))], mm_z w.2.1 w.1.length 1, mm_z w.2.2 w.1.length 1)
  | _ => False
def mm_nar (lim : Nat × Nat) (ax : List (Nat × Nat)) (ls : List (Option mm_V)) (st : List mm_V) (w : mm_W) (k : mm_V → List mm_V → mm_W → Prop) : Prop := match ax, st with
  | (t, n) :: _, .inl x :: r => x = nI n ∧ n < 536870912 / 8 ∧ mm_chk ls r w.1 = true ∧ mm_rm lim w 1 n ∧ k (mm_R w.1.length) r (w.1 ++ [.inr (.inl (t, n))], mm_z w.2.1 w.1.length 1, mm_z w.2.2 w.1.length 1)
  | _, _ => False
def mm_nmu (lim : Nat × Nat) (ax : List (Nat × Nat)) (ls : List (Option mm_V)) (st : List mm_V) (w : mm_W) (k : mm_V → List mm_V → mm_W → Prop) : Prop := match ax, st with
  | (t, n) :: (_, m) :: _, .inl y :: .inl x :: r => x = nI n ∧ y = nI m ∧ n < 536870912 / 8 ∧ m < 536870912 / 8 ∧ mm_chk ls r w.1 = true ∧ mm_rm lim w (1 + n) (n + n * m) ∧ k (mm_R w.1.length) r (w.1 ++ .inr (.inr (t, n, w.1.length + 1)) :: List.replicate n (.inr (.inl (t, m))), mm_z w.2.1 w.1.length (1 + n), mm_z w.2.2 w.1.length (1 + n))
  | _, _ => False
/-- a call of method mi: one that makes nothing leaves the cells as they are, of a kind -/
def mm_inv (call : mm_F) (ms : List mm_M) (lim : Nat × Nat) (mi : Nat) (ls : List (Option mm_V)) (As rest : List mm_V) (w : mm_W) (k : List mm_V → mm_W → Prop) : Prop := match Nat.ble (mm_cs rest) 8, ms[mi]? with
  | true, some M => (match mm_Mk M with
    | 0 => call mi As w (fun o w' => w'.1 = w.1 ∧ k (o.toList ++ rest) w')
    | n + 1 => mm_chk ls rest w.1 = true ∧ mm_rm lim w (n + 1) (mm_Ms M) ∧ call mi As w (fun o w' => w'.1.length = w.1.length + (n + 1) ∧ mm_sl w'.1 = mm_sl w.1 + mm_Ms M ∧ k (o.toList ++ rest) w'))
  | _, _ => False
def mm_ivs (call : mm_F) (ms : List mm_M) (lim : Nat × Nat) (ax : List (Nat × Nat)) (g : Nat) (ls : List (Option mm_V)) (st : List mm_V) (w : mm_W) (k : List mm_V → mm_W → Prop) : Prop := match ax, mm_sp g [] st with
  | (_, mi) :: _, some (As, rest) => mm_inv call ms lim mi ls As rest w k
  | _, _ => False
def mm_ivv (call : mm_F) (ms : List mm_M) (lim : Nat × Nat) (ax : List (Nat × Nat)) (g : Nat) (ls : List (Option mm_V)) (st : List mm_V) (w : mm_W) (k : List mm_V → mm_W → Prop) : Prop := match mm_sp g [] st with
  | some (As, .inr (.inr (.inl r)) :: rest) => (match w.1[r]? with
    | some (.inl (ci, _)) => (match mm_fi ax ci with
      | some mi => mm_inv call ms lim mi ls (mm_R r :: As) rest w k
      | none => False)
    | _ => False)
  | _ => False
def mm_ivi (call : mm_F) (ms : List mm_M) (lim : Nat × Nat) (ax : List (Nat × Nat)) (g : Nat) (ls : List (Option mm_V)) (st : List mm_V) (w : mm_W) (k : List mm_V → mm_W → Prop) : Prop := match ax, mm_sp g [] st with
  | (_, mi) :: _, some (As, .inr (.inr (.inl r)) :: rest) => mm_inv call ms lim mi ls (mm_R r :: As) rest w k
  | [], some (_, .inr (.inr (.inl _)) :: rest) => (match Nat.ble (mm_cs rest) 8 with
    | true => k rest w
    | false => False)
  | _, _ => False
def mm_irt (ret : Option FieldType) (st : List mm_V) (k : Int32 → Prop) : Prop := match ret, st with
  | some .int, [.inl x] => k x
  | some .boolean, [.inl x] => (x = 0 ∨ x = 1) ∧ k x
  | _, _ => False
def mm_lrt (ret : Option FieldType) (st : List mm_V) (k : Int64 → Prop) : Prop := match ret, st with
  | some .long, [.inr (.inl x)] => k x
  | _, _ => False
def mm_vrt (ret : Option FieldType) (st : List mm_V) (k : Prop) : Prop := match ret, st with
  | none, [] => k
  | _, _ => False
/-- one instruction -/
def mm_stp (call : mm_F) (ms : List mm_M) (tb : mm_T) (M : mm_M) (lim : Nat × Nat) (Q : Option mm_V → mm_W → Prop) (K : mm_K) (pc : Nat) (ls : List (Option mm_V)) (st : List mm_V) (w : mm_W) : Prop :=
  match (mm_Mc M).getD pc mm_nop with
  | (i, len, ax, _, g, c, c8) =>
    match i with
    | .iconst _ => K (pc + len) ls (mm_I c :: st) w
    | .bipush _ => K (pc + len) ls (mm_I c :: st) w
    | .sipush _ => K (pc + len) ls (mm_I c :: st) w
    | .ldc _ => K (pc + len) ls (mm_I c :: st) w
    | .lconst _ => K (pc + len) ls (mm_L c8 :: st) w
    | .ldc2_w _ => K (pc + len) ls (mm_L c8 :: st) w
    | .iload _ => mm_oI (ls.getD g none) (fun x => K (pc + len) ls (mm_I x :: st) w)
    | .iload_n _ => mm_oI (ls.getD g none) (fun x => K (pc + len) ls (mm_I x :: st) w)
    | .lload _ => mm_oL (ls.getD g none) (fun x => K (pc + len) ls (mm_L x :: st) w)
    | .lload_n _ => mm_oL (ls.getD g none) (fun x => K (pc + len) ls (mm_L x :: st) w)
    | .aload _ => mm_oA (ls.getD g none) (fun x => K (pc + len) ls (x :: st) w)
    | .aload_n _ => mm_oA (ls.getD g none) (fun x => K (pc + len) ls (x :: st) w)
    | .istore _ => mm_1i st (fun x r => K (pc + len) (mm_s1 ls g (mm_I x)) r w)
    | .istore_n _ => mm_1i st (fun x r => K (pc + len) (mm_s1 ls g (mm_I x)) r w)
    | .lstore _ => mm_1l st (fun x r => K (pc + len) (mm_s2 ls g (mm_L x)) r w)
    | .lstore_n _ => mm_1l st (fun x r => K (pc + len) (mm_s2 ls g (mm_L x)) r w)
    | .astore_n _ => mm_1r st (fun x r => K (pc + len) (mm_s1 ls g (mm_R x)) r w)
    | .astore _ => mm_1r st (fun x r => K (pc + len) (mm_s1 ls g (mm_R x)) r w)
    | .iinc _ _ => mm_oI (ls.getD g none) (fun x => K (pc + len) (mm_s1 ls g (mm_I (x + c))) st w)
    | .iadd => mm_2i st (fun x y r => K (pc + len) ls (mm_I (x + y) :: r) w)
    | .isub => mm_2i st (fun x y r => K (pc + len) ls (mm_I (x - y) :: r) w)
    | .imul => mm_2i st (fun x y r => K (pc + len) ls (mm_I (x * y) :: r) w)
    | .irem => mm_2i st (fun x y r => ¬ y = 0 ∧ K (pc + len) ls (mm_I (x - x / y * y) :: r) w)
    | .iand => mm_2i st (fun x y r => K (pc + len) ls (mm_I (x &&& y) :: r) w)
    | .ior => mm_2i st (fun x y r => K (pc + len) ls (mm_I (x ||| y) :: r) w)
    | .ixor => mm_2i st (fun x y r => K (pc + len) ls (mm_I (x ^^^ y) :: r) w)
    | .ishl => mm_2i st (fun x y r => K (pc + len) ls (mm_I (x <<< (y &&& 31)) :: r) w)
    | .ishr => mm_2i st (fun x y r => K (pc + len) ls (mm_I (x >>> (y &&& 31)) :: r) w)
    | .ladd => mm_2l st (fun x y r => K (pc + len) ls (mm_L (x + y) :: r) w)
    | .lsub => mm_2l st (fun x y r => K (pc + len) ls (mm_L (x - y) :: r) w)
    | .lmul => mm_2l st (fun x y r => K (pc + len) ls (mm_L (x * y) :: r) w)
    | .ldiv => mm_2l st (fun x y r => ¬ y = 0 ∧ K (pc + len) ls (mm_L (x / y) :: r) w)
    | .lrem => mm_2l st (fun x y r => ¬ y = 0 ∧ K (pc + len) ls (mm_L (x - x / y * y) :: r) w)
    | .lcmp => mm_2l st (fun x y r => K (pc + len) ls (mm_I (lg_cmp x y) :: r) w)
    | .i2l => mm_1i st (fun x r => K (pc + len) ls (mm_L x.toInt64 :: r) w)
    | .l2i => mm_1l st (fun x r => K (pc + len) ls (mm_I x.toInt32 :: r) w)
    | .dup => mm_1c st (fun v r => K (pc + len) ls (v :: v :: r) w)
    | .pop => mm_1c st (fun _ r => K (pc + len) ls r w)
    | .dup_x1 => mm_1c st (fun v r => mm_1c r (fun u q => K (pc + len) ls (v :: u :: v :: q) w))
    | .dup2 => mm_1c st (fun v r => mm_1c r (fun u q => K (pc + len) ls (v :: u :: v :: u :: q) w))
    | .goto _ => mm_t1 ax (fun t => K t ls st w)
    | .ifCond cd _ => mm_t1 ax (fun t => mm_1i st (fun x r => mm_if cd x (K t ls r w) (K (pc + len) ls r w)))
    | .if_icmp cd _ => mm_t1 ax (fun t => mm_2i st (fun x y r => mm_ic cd x y (K t ls r w) (K (pc + len) ls r w)))
    | .tableswitch _ _ _ _ => mm_1i st (fun x r => mm_cas x (fun t => K t ls r w) ax)
    | .lookupswitch _ _ => mm_1i st (fun x r => mm_cas x (fun t => K t ls r w) ax)
    | .getfield _ => mm_1r st (fun r q => mm_gf w ax r (fun v => K (pc + len) ls (v :: q) w))
    | .putfield _ => (match st with
      | v :: .inr (.inr (.inl r)) :: q => mm_pf w ax g r v (fun w' => K (pc + len) ls q w')
      | _ => False)
    | .getstatic _ => mm_t1 ax (fun j => K (pc + len) ls (mm_S j :: st) w)
    | .iaload => mm_ild tb w st (fun x r => K (pc + len) ls (mm_I x :: r) w)
    | .laload => mm_lld tb w st (fun x r => K (pc + len) ls (mm_L x :: r) w)
    | .baload => mm_bld w st (fun x r => K (pc + len) ls (mm_I x :: r) w)
    | .aaload => mm_qld w st (fun x r => K (pc + len) ls (mm_R x :: r) w)
    | .iastore => mm_ist w 0 st (fun w' r => K (pc + len) ls r w')
    | .bastore => mm_ist w 2 st (fun w' r => K (pc + len) ls r w')
    | .lastore => mm_lst w st (fun w' r => K (pc + len) ls r w')
    | .arraylength => mm_len tb w st (fun x r => K (pc + len) ls (mm_I x :: r) w)
    | .new _ => mm_new lim ax ls st w (fun v w' => K (pc + len) ls (v :: st) w')
    | .newarray _ => mm_nar lim ax ls st w (fun v r w' => K (pc + len) ls (v :: r) w')
    | .multianewarray _ _ => mm_nmu lim ax ls st w (fun v r w' => K (pc + len) ls (v :: r) w')
    | .invokestatic _ => mm_ivs call ms lim ax g ls st w (fun r w' => K (pc + len) ls r w')
    | .invokevirtual _ => mm_ivv call ms lim ax g ls st w (fun r w' => K (pc + len) ls r w')
    | .invokespecial _ => mm_ivi call ms lim ax g ls st w (fun r w' => K (pc + len) ls r w')
    | .ireturn => mm_irt (mm_Mr M) st (fun x => Q (some (mm_I x)) w)
    | .lreturn => mm_lrt (mm_Mr M) st (fun x => Q (some (mm_L x)) w)
    | .return_ => mm_vrt (mm_Mr M) st (Q none w)
    | _ => False
/-- from here the method ends with Q: the least such predicate -/
def mm_WP (call : mm_F) (ms : List mm_M) (tb : mm_T) (M : mm_M) (lim : Nat × Nat) (Q : Option mm_V → mm_W → Prop) (pc : Nat) (ls : List (Option mm_V)) (st : List mm_V) (w : mm_W) : Prop :=
  ∀ R : mm_K, (∀ pc ls st w, mm_stp call ms tb M lim Q R pc ls st w → R pc ls st w) → R pc ls st w
def mm_run (call : mm_F) (ms : List mm_M) (tb : mm_T) (M : mm_M) (As : List mm_V) (w : mm_W) (Q : Option mm_V → mm_W → Prop) : Prop :=
  match Nat.ble (mm_ar As).length (mm_Ml M) with
  | true => mm_WP call ms tb M (w.1.length + mm_Mk M, mm_sl w.1 + mm_Ms M) Q 0 (mm_ini (mm_Ml M) As) [] w
  | false => False
def mm_call (ms : List mm_M) (tb : mm_T) : Nat → mm_F
  | 0 => fun _ _ _ _ => False
  | d + 1 => fun mi As w Q => match ms[mi]? with
    | some M => mm_run (mm_call ms tb d) ms tb M As w Q
    | none => False
end
section
/-! ===== private methods of a class, chosen on objects of classes below it (list by program) ===== -/
def mm_pq : List (String × Nat × MethodName × Nat × Nat × Nat × Nat) := [
  ("TypeCopier$LetterMachine", 13, ⟨"TypeCopier$Machine", "readValue", "(J)V"⟩, 274, 790, 791, 1610),
  ("TypeCopier$CopyMachine", 14, ⟨"TypeCopier$Machine", "readValue", "(J)V"⟩, 327, 790, 791, 1610),
  ("TypeCopier$LetterMachine", 13, ⟨"TypeCopier$Machine", "setCell", "(II)V"⟩, 274, 805, 806, 1611),
  ("TypeCopier$CopyMachine", 14, ⟨"TypeCopier$Machine", "setCell", "(II)V"⟩, 327, 805, 806, 1611),
  ("TypeCopier$LetterMachine", 13, ⟨"TypeCopier$Machine", "storeLink", "(II)I"⟩, 274, 856, 857, 1612),
  ("TypeCopier$CopyMachine", 14, ⟨"TypeCopier$Machine", "storeLink", "(II)I"⟩, 327, 856, 857, 1612),
  ("TypeCopier$LetterMachine", 13, ⟨"TypeCopier$Machine", "openFunction", "(I)V"⟩, 274, 860, 861, 1613),
  ("TypeCopier$CopyMachine", 14, ⟨"TypeCopier$Machine", "openFunction", "(I)V"⟩, 327, 860, 861, 1613),
  ("TypeCopier$LetterMachine", 13, ⟨"TypeCopier$Machine", "beginNode", "(I)V"⟩, 274, 901, 902, 1614),
  ("TypeCopier$CopyMachine", 14, ⟨"TypeCopier$Machine", "beginNode", "(I)V"⟩, 327, 901, 902, 1614),
  ("TypeCopier$LetterMachine", 13, ⟨"TypeCopier$Machine", "takeTurn", "()V"⟩, 274, 914, 915, 1615),
  ("TypeCopier$CopyMachine", 14, ⟨"TypeCopier$Machine", "takeTurn", "()V"⟩, 327, 914, 915, 1615),
  ("TypeCopier$LetterMachine", 13, ⟨"TypeCopier$Machine", "takeTurnOfIf", "(II)V"⟩, 274, 919, 920, 1616),
  ("TypeCopier$CopyMachine", 14, ⟨"TypeCopier$Machine", "takeTurnOfIf", "(II)V"⟩, 327, 919, 920, 1616),
  ("TypeCopier$LetterMachine", 13, ⟨"TypeCopier$Machine", "takeTurnOfCall", "(II)V"⟩, 274, 925, 926, 1620),
  ("TypeCopier$CopyMachine", 14, ⟨"TypeCopier$Machine", "takeTurnOfCall", "(II)V"⟩, 327, 925, 926, 1620),
  ("TypeCopier$LetterMachine", 13, ⟨"TypeCopier$Machine", "unit", "()I"⟩, 274, 929, 930, 1621),
  ("TypeCopier$CopyMachine", 14, ⟨"TypeCopier$Machine", "unit", "()I"⟩, 327, 929, 930, 1621),
  ("TypeCopier$LetterMachine", 13, ⟨"TypeCopier$Machine", "closeFunction", "()V"⟩, 274, 947, 948, 1622),
  ("TypeCopier$CopyMachine", 14, ⟨"TypeCopier$Machine", "closeFunction", "()V"⟩, 327, 947, 948, 1622),
  ("TypeCopier$LetterMachine", 13, ⟨"TypeCopier$Machine", "finishNode", "(II)V"⟩, 274, 971, 972, 1623),
  ("TypeCopier$CopyMachine", 14, ⟨"TypeCopier$Machine", "finishNode", "(II)V"⟩, 327, 971, 972, 1623),
  ("TypeCopier$LetterMachine", 13, ⟨"TypeCopier$Machine", "pushArgument", "()V"⟩, 274, 976, 977, 1624),
  ("TypeCopier$CopyMachine", 14, ⟨"TypeCopier$Machine", "pushArgument", "()V"⟩, 327, 976, 977, 1624),
  ("TypeCopier$LetterMachine", 13, ⟨"TypeCopier$Machine", "pushFrom", "(II)V"⟩, 274, 980, 981, 1625),
  ("TypeCopier$CopyMachine", 14, ⟨"TypeCopier$Machine", "pushFrom", "(II)V"⟩, 327, 980, 981, 1625),
  ("TypeCopier$LetterMachine", 13, ⟨"TypeCopier$Machine", "makeLink", "(I)V"⟩, 274, 1010, 1011, 1626),
  ("TypeCopier$CopyMachine", 14, ⟨"TypeCopier$Machine", "makeLink", "(I)V"⟩, 327, 1010, 1011, 1626),
  ("TypeCopier$LetterMachine", 13, ⟨"TypeCopier$Machine", "takeHead", "(I)V"⟩, 274, 1025, 1026, 1627),
  ("TypeCopier$CopyMachine", 14, ⟨"TypeCopier$Machine", "takeHead", "(I)V"⟩, 327, 1025, 1026, 1627),
  ("TypeCopier$LetterMachine", 13, ⟨"TypeCopier$Machine", "takeTail", "()V"⟩, 274, 1029, 1030, 1628),
  ("TypeCopier$CopyMachine", 14, ⟨"TypeCopier$Machine", "takeTail", "()V"⟩, 327, 1029, 1030, 1628),
  ("TypeCopier$LetterMachine", 13, ⟨"TypeCopier$Machine", "tellValue", "(JI)V"⟩, 274, 1033, 1034, 1629),
  ("TypeCopier$CopyMachine", 14, ⟨"TypeCopier$Machine", "tellValue", "(JI)V"⟩, 327, 1033, 1034, 1629),
  ("TypeCopier$LetterMachine", 13, ⟨"TypeCopier$Machine", "chainLength", "(I)I"⟩, 274, 1047, 1048, 1630),
  ("TypeCopier$CopyMachine", 14, ⟨"TypeCopier$Machine", "chainLength", "(I)I"⟩, 327, 1047, 1048, 1630)]
def mm_psel : List Cond := mm_pq.map (fun q => Cond.selects q.1 q.2.2.1 q.2.2.1)
def mm_tbl : List Cond := mm_psel ++ lw_tbl
theorem mm_pq_ok : mm_pq.all (fun q => decide (q.2.2.1.cls ≠ "java/lang/invoke/MethodHandle") && decide (q.2.2.1.cls ≠ "java/lang/invoke/VarHandle") && decide (lw_tbl[q.2.2.2.1]? = some (Cond.instantiable q.1 q.2.1)) && decide (lw_tbl[q.2.2.2.2.1]? = some (Cond.privateMethod q.2.2.1)) && decide (lw_tbl[q.2.2.2.2.2.1]? = some (Cond.instanceMethod q.2.2.1)) && decide (lw_tbl[q.2.2.2.2.2.2]? = some (Cond.sameMethod q.2.2.1.cls q.2.2.1.cls q.2.2.1.name q.2.2.1.desc))) = true := by decide +kernel
theorem mm_selp {C : String} {y : MethodName} {s : State} {args : Array Value} {n : Nat} (hy : y.cls ≠ "java/lang/invoke/MethodHandle" ∧ y.cls ≠ "java/lang/invoke/VarHandle")
    (hins : (Cond.instantiable C n).before args s = true) (hpriv : (Cond.privateMethod y).before args s = true) (hinst : (Cond.instanceMethod y).before args s = true) (hsame : (Cond.sameMethod y.cls y.cls y.name y.desc).before args s = true) :
    (Cond.selects C y y).before args s = true := by
  obtain ⟨c, k, hc, hk, -⟩ := Cond.instantiable_spec hins
  obtain ⟨cn, ck, r1, hcn, hck, hni, hf, hn1⟩ := Cond.sameMethod_found hsame
  obtain ⟨mk, methM, hnamed, hmethM, -, -⟩ := Cond.instanceMethod_spec hinst
  have hfound : s.methodFound? y.cls y.name y.desc = some mk := State.methodFound?_of_named hnamed hy
  have hcls : mk.cls = cn := Option.some.inj ((findClass_of_methodNamed hnamed).symm.trans hcn)
  have hsel : selectMethod {} s.vm c mk = .method mk := selectMethod_private hmethM (Cond.privateMethod_at hpriv mk methM hnamed hmethM)
  simp only [Cond.before, Cond.holds, Cond.value, hc, hfound, hnamed, hsel, hcls, hck]
  simp; exact hni
theorem mm_tbl_ok {args : Array Value} {s : State} (hts : ∀ w ∈ lw_tbl, w.before args s = true) : ∀ w ∈ mm_tbl, w.before args s = true := by
  intro w hw
  rcases List.mem_append.mp hw with hw | hw
  · obtain ⟨q, hq, rfl⟩ := List.mem_map.mp hw
    have h := List.all_eq_true.mp mm_pq_ok q hq
    simp only [Bool.and_eq_true, decide_eq_true_eq] at h
    obtain ⟨⟨⟨⟨⟨h1, h2⟩, h3⟩, h4⟩, h5⟩, h6⟩ := h
    exact mm_selp ⟨h1, h2⟩ (hts _ (List.mem_of_getElem? h3)) (hts _ (List.mem_of_getElem? h4)) (hts _ (List.mem_of_getElem? h5)) (hts _ (List.mem_of_getElem? h6))
  · exact hts w hw
end
section
/-! ===== what a code table must keep to: a check that the kernel runs ===== -/
def mm_ty : Nat → FieldType
  | 0 => .int
  | 1 => .long
  | _ => .boolean
/-- static rows: 0 the script, then those of the classes -/
def mm_sn : Nat → Option (String × String × String)
  | 1 => some ("TypeCopier$Shape", "ROOMS", "[J")
  | 2 => some ("TypeCopier$Nodes", "WANTS", "[I")
  | 3 => some ("TypeCopier$Nodes", "PARTS", "[I")
  | _ => none
def mm_at (p : Nat) (w : Cond) : Bool := decide (mm_tbl[p]? = some w) && goodWord w
def mm_nzk : Cond → Bool
  | .methodLinkNest _ _ _ _ => true
  | .declares _ => true
  | .arrayOver (.array _) => true
  | _ => false
/-- words that don't ride in contracts: they are carried -/
def mm_az (p : Nat) (w : Cond) : Bool := decide (mm_tbl[p]? = some w) && mm_nzk w
def mm_ckt (pc : Nat) : Int → List Int → List (Nat × Nat) → Bool
  | _, [], [] => true
  | lo, o :: os, (a, t) :: ts => decide ((a : Int) = lo) && decide (a < 2 ^ 31) && decide ((pc : Int) + o = (t : Int)) && mm_ckt pc (lo + 1) os ts
  | _, _, _ => false
def mm_ckl (pc : Nat) : List (Int × Int) → List (Nat × Nat) → Bool
  | [], [] => true
  | (k, o) :: os, (a, t) :: ts => decide ((a : Int) = k) && decide (a < 2 ^ 31) && decide ((pc : Int) + o = (t : Int)) && mm_ckl pc os ts
  | _, _ => false
def mm_ckf (y : MethodName) (idx : Nat) (ps : List Nat) (q : Nat × Nat) : Bool := match mm_cl[q.1]? with
  | some (_, T, N) => decide (q.2 < N) && (match ps with
    | [p] => mm_at p (.fieldLink y.cls idx (T q.2).1 (T q.2).2.1 (T q.2).2.2.1)
    | [p, p2] => mm_at p (.fieldLink y.cls idx y.cls (T q.2).2.1 (T q.2).2.2.1) && mm_at p2 (.sameField y.cls (T q.2).1 (T q.2).2.1 (T q.2).2.2.1)
    | _ => false)
  | none => false
def mm_rfT : FieldType → Bool
  | .object _ => true
  | .array _ => true
  | _ => false
def mm_ckp (y : MethodName) (g : Nat) (q : Nat × Nat) : Bool := match mm_cl[q.1]? with
  | some (_, T, _) => (match g with
    | 0 => decide (mm_tys q.1 q.2 = .int)
    | 1 => mm_rfT (mm_tys q.1 q.2)
    | _ => false) && (!(T q.2).2.2.2 || (decide (y.name = "<init>") && decide ((T q.2).1 = y.cls)))
  | none => false
def mm_nMH (c : String) : Bool := decide (c ≠ "java/lang/invoke/MethodHandle") && decide (c ≠ "java/lang/invoke/VarHandle")
/-- a virtual call: the receiver's class, the method that it comes to -/
def mm_ckv (ms : List mm_M) (y : MethodName) (idx g : Nat) (q : Nat × Nat) (ps : List Nat) : Bool := match mm_cl[q.1]?, ms[q.2]? with
  | some (C, _, _), some M => decide (mm_Mn M = g) && (match ps with
    | [p0, p1, p2, p3] => decide ((mm_My M).cls = C) && mm_at p0 (.methodLink y.cls idx (mm_My M)) && mm_at p1 (.instanceMethod (mm_My M)) && mm_at p2 (.selects C (mm_My M) (mm_My M)) && mm_at p3 (.initialized C)
    | [p0, p1, p2, p3, p4] => (match mm_tbl[p0]?, mm_tbl[p1]? with
      | some (.methodLink _ _ x), some (.sameMethod _ o _ _) => mm_at p0 (.methodLink y.cls idx x) && mm_at p1 (.sameMethod x.cls o x.name x.desc) && mm_at p2 (.selects C x (mm_My M)) && mm_at p3 (.instanceMethod (mm_My M)) && mm_at p4 (.initialized (mm_My M).cls) && decide (mm_My M = ⟨o, x.name, x.desc⟩) && mm_nMH o
      | _, _ => false)
    | [p0, p1, p2, p3, p4, p5] => (match mm_tbl[p0]?, mm_tbl[p1]? with
      | some (.methodLink _ _ x), some (.sameMethod _ o _ _) => mm_at p0 (.methodLink y.cls idx x) && mm_at p1 (.sameMethod x.cls o x.name x.desc) && mm_at p2 (.selects C x (mm_My M)) && mm_at p3 (.instanceMethod (mm_My M)) && mm_at p4 (.initialized (mm_My M).cls) && mm_az p5 (.declares ⟨o, x.name, x.desc⟩) && decide ((mm_My M).desc = x.desc) && mm_nMH o
      | _, _ => false)
    | _ => false)
  | _, _ => false
def mm_ckvs (ms : List mm_M) (y : MethodName) (idx g : Nat) : List (Nat × Nat) → List (List Nat) → Bool
  | [], _ => true
  | q :: qs, p :: ps => mm_ckv ms y idx g q p && mm_ckvs ms y idx g qs ps
  | _, _ => false
def mm_ck1 (ms : List mm_M) (y : MethodName) (nL pc : Nat) (i : Jvm.ClassFile.Instr) (len : Nat) (ax : List (Nat × Nat)) (ps : List (List Nat)) (g : Nat) (c : Int32) (c8 : Int64) : Bool := match i with
  | .iconst n => decide (len = 1) && decide (Int32.ofInt n = c)
  | .bipush n => decide (len = 2) && decide ((Int8.ofInt n).toInt32 = c)
  | .sipush n => decide (len = 3) && decide ((Int16.ofInt n).toInt32 = c)
  | .ldc idx => decide (len = 2) && (match ps with | [[p]] => mm_at p (.constant y.cls idx c) | _ => false)
  | .lconst n => decide (len = 1) && decide (Int64.ofNat (n : Nat) = c8)
  | .ldc2_w idx => decide (len = 3) && (match ps with | [[p]] => mm_at p (.constantLong y.cls idx c8) | _ => false)
  | .iload k => decide (len = 2) && decide (k = g)
  | .iload_n k => decide (len = 1) && decide ((k : Nat) = g)
  | .lload k => decide (len = 2) && decide (k = g)
  | .lload_n k => decide (len = 1) && decide ((k : Nat) = g)
  | .aload k => decide (len = 2) && decide (k = g)
  | .aload_n k => decide (len = 1) && decide ((k : Nat) = g)
  | .istore k => decide (len = 2) && decide (k = g) && decide (g < nL)
  | .istore_n k => decide (len = 1) && decide ((k : Nat) = g) && decide (g < nL)
  | .lstore k => decide (len = 2) && decide (k = g) && decide (g + 1 < nL)
  | .lstore_n k => decide (len = 1) && decide ((k : Nat) = g) && decide (g + 1 < nL)
  | .astore k => decide (len = 2) && decide (k = g) && decide (g < nL)
  | .astore_n k => decide (len = 1) && decide ((k : Nat) = g) && decide (g < nL)
  | .iinc k n => decide (len = 3) && decide (k = g) && decide (g < nL) && decide (Int32.ofInt n = c)
  | .iadd | .isub | .imul | .irem | .iand | .ior | .ixor | .ishl | .ishr | .ladd | .lsub | .lmul | .ldiv | .lrem | .lcmp | .i2l | .l2i => decide (len = 1)
  | .dup | .pop | .dup_x1 | .dup2 | .iaload | .laload | .baload | .aaload | .iastore | .bastore | .lastore | .arraylength | .ireturn | .lreturn | .return_ => decide (len = 1)
  | .goto o => decide (len = 3) && (match ax with | (_, t) :: _ => decide ((pc : Int) + o = (t : Int)) | _ => false)
  | .ifCond _ o => decide (len = 3) && (match ax with | (_, t) :: _ => decide ((pc : Int) + o = (t : Int)) | _ => false)
  | .if_icmp _ o => decide (len = 3) && (match ax with | (_, t) :: _ => decide ((pc : Int) + o = (t : Int)) | _ => false)
  | .tableswitch d lo hi os => (match ax with | (_, t) :: ts => decide ((pc : Int) + d = (t : Int)) && mm_ckt pc lo os.toList ts && decide ((os.size : Int) = hi - lo + 1) | _ => false)
  | .lookupswitch d os => (match ax with | (_, t) :: ts => decide ((pc : Int) + d = (t : Int)) && mm_ckl pc os.toList ts && (os.toList.zip (os.toList.drop 1)).all (fun (a, next) => a.1 < next.1) | _ => false)
  | .getfield idx => decide (len = 3) && (match ps with | [p] => ax.all (mm_ckf y idx p) | _ => false)
  | .putfield idx => decide (len = 3) && (match ps with | [p] => ax.all (fun q => mm_ckf y idx p q && mm_ckp y g q) | _ => false)
  | .getstatic idx => decide (len = 3) && (match ax, ps with | (_, j) :: _, [[p]] => (match mm_sn j with | some (C, n, d) => mm_at p (.fieldLink y.cls idx C n d) | none => false) | _, _ => false)
  | .new idx => decide (len = 3) && (match ax, ps with | (_, ci) :: _, [[p0, p1, p2]] => (match mm_cl[ci]? with | some (C, _, N) => mm_at p0 (.classLink y.cls idx C) && mm_at p1 (.instantiable C N) && mm_at p2 (.initialized C) | none => false) | _, _ => false)
  | .newarray a => decide (len = 2) && (match ax, ps with | (t, _) :: _, [[p]] => mm_at p (.arrayClass (mm_ty t)) && decide (newarray.typeOf a = mm_ty t) | _, _ => false)
  | .multianewarray idx n => decide (len = 4) && decide (n = 2) && (match ax, ps with | (t, _) :: _, [[p0, p1, p2]] => mm_at p0 (.classLink y.cls idx ("[" ++ (FieldType.array (mm_ty t)).toString)) && mm_at p1 (.arrayClass (mm_ty t)) && mm_az p2 (.arrayOver (.array (mm_ty t))) && decide (t < 2) | _, _ => false)
  | .invokestatic idx => decide (len = 3) && (match ax, ps with
    | (k, mi) :: _, [[p0, p1, p2]] => (match ms[mi]? with
      | some M => decide (mm_Mn M = g) && mm_at p1 (.static (mm_My M)) && mm_at p2 (.initialized (mm_My M).cls) && (match k with
        | 0 => mm_at p0 (.methodLink y.cls idx (mm_My M))
        | _ => (match mm_tbl[p0]? with | some (.methodLinkNest _ _ _ h) => mm_az p0 (.methodLinkNest y.cls idx (mm_My M) h) | _ => false))
      | none => false)
    | _, _ => false)
  | .invokevirtual idx => decide (len = 3) && mm_ckvs ms y idx g ax ps
  | .invokespecial idx => decide (len = 3) && (match ax, ps with
    | [], [[p0, p1, p2]] => decide (g = 0) && mm_at p0 (.methodLink y.cls idx Lib.objectInit) && mm_at p1 (.instanceMethod Lib.objectInit) && mm_at p2 (.code Lib.objectInit ⟨#[0xb1]⟩ 1 none)
    | (k, mi) :: _, [[p0, p1, p2]] => (match ms[mi]? with
      | some M => decide (mm_Mn M = g) && decide ((mm_My M).name = "<init>") && decide (mm_Mr M = none) && mm_at p1 (.instanceMethod (mm_My M)) && mm_at p2 (.initialized (mm_My M).cls) && (match k with
        | 0 => mm_at p0 (.methodLink y.cls idx (mm_My M))
        | _ => (match mm_tbl[p0]? with | some (.methodLinkNest _ _ _ h) => mm_az p0 (.methodLinkNest y.cls idx (mm_My M) h) | _ => false))
      | none => false)
    | _, _ => false)
  | _ => false
def mm_ck (ms : List mm_M) (y : MethodName) (bytes : ByteArray) (nL pc : Nat) (e : mm_E) : Bool := match e with
  | (i, len, ax, ps, g, c, c8) => (match i with
    | .nop => true
    | _ => decide (decode bytes pc = .ok (i, len)) && mm_ck1 ms y nL pc i len ax ps g c c8)
def mm_cks (ms : List mm_M) (y : MethodName) (bytes : ByteArray) (nL : Nat) : Nat → List mm_E → Bool
  | _, [] => true
  | pc, e :: r => mm_ck ms y bytes nL pc e && mm_cks ms y bytes nL (pc + 1) r
theorem mm_cks_at {ms : List mm_M} {y : MethodName} {bytes : ByteArray} {nL : Nat} : ∀ (l : List mm_E) (p k : Nat), mm_cks ms y bytes nL p l = true → mm_ck ms y bytes nL (p + k) (l.getD k mm_nop) = true
  | [], p, k, _ => by simp [mm_ck, mm_nop]
  | e :: r, p, 0, h => by
    simp only [mm_cks, Bool.and_eq_true] at h
    simpa using h.1
  | e :: r, p, k + 1, h => by
    simp only [mm_cks, Bool.and_eq_true] at h
    have := mm_cks_at r (p + 1) k h.2
    rw [show p + (k + 1) = p + 1 + k by omega]
    simpa using this
/-- a method's head: its word, its arguments -/
def mm_ckh (M : mm_M) : Bool := plainName (mm_My M).cls && mm_nMH (mm_My M).cls && mm_at (mm_Mp M) (.code (mm_My M) (mm_Mb M) (mm_Ml M) (mm_Mr M)) && decide (mm_Ml M ≤ 20) && decide (mm_Mk M = 0 → mm_Ms M = 0) && decide ((parseMethodDescriptor (mm_My M).desc).map (fun d => d.parameters.length) = some (mm_Mn M))
def mm_ckm (ms : List mm_M) (M : mm_M) : Bool := mm_ckh M && mm_cks ms (mm_My M) (mm_Mb M) (mm_Ml M) 0 (mm_Mc M)
end
section
/-! ===== how the abstract machine's world lies in the heap ===== -/
def mm_GW : List Cond := mm_tbl.filter goodWord
theorem mm_at_in {p : Nat} {w : Cond} (h : mm_at p w = true) : w ∈ mm_GW := by
  simp only [mm_at, Bool.and_eq_true, decide_eq_true_eq] at h
  exact List.mem_filter.mpr ⟨List.mem_of_getElem? h.1, h.2⟩
theorem mm_GW_g : GoodIn mm_GW mm_GW := fun w h => ⟨h, good_of_word (List.mem_filter.mp h).2⟩
def mm_cv (ad sad : Nat → Nat) : mm_V → Value
  | .inl x => .int x
  | .inr (.inl x) => .long x
  | .inr (.inr (.inl k)) => .ref (ad k)
  | .inr (.inr (.inr (.inl k))) => .ref (sad k)
  | .inr (.inr (.inr (.inr _))) => .null
theorem mm_cv_cat (ad sad : Nat → Nat) (v : mm_V) : (mm_cv ad sad v).category = mm_cat v := by
  rcases v with x | x | x | x | x <;> rfl
theorem mm_cs_cat (ad sad : Nat → Nat) (l : List mm_V) : ((l.map (mm_cv ad sad)).map fun v => v.category).sum = mm_cs l := by
  simp only [List.map_map, mm_cs]
  congr 1
  apply List.map_congr_left
  intro v _
  exact mm_cv_cat ad sad v
/-! locals -/
def mm_lv (ad sad : Nat → Nat) (ls : List (Option mm_V)) : List (Nat × Value) := ls.zipIdx.filterMap (fun q => q.1.map (fun v => (q.2, mm_cv ad sad v)))
theorem mm_lv_mem {ad sad : Nat → Nat} {ls : List (Option mm_V)} {q : Nat × Value} : q ∈ mm_lv ad sad ls ↔ ∃ v, ls[q.1]? = some (some v) ∧ q.2 = mm_cv ad sad v := by
  unfold mm_lv
  rw [List.mem_filterMap]
  constructor
  · rintro ⟨⟨o, i⟩, h1, h2⟩
    rw [List.mem_zipIdx_iff_getElem?] at h1
    cases o with
    | none => cases h2
    | some v =>
      cases h2
      exact ⟨v, h1, rfl⟩
  · rintro ⟨v, h1, h2⟩
    refine ⟨(some v, q.1), ?_, ?_⟩
    · rw [List.mem_zipIdx_iff_getElem?]
      exact h1
    · show some (q.1, mm_cv ad sad v) = some q
      rw [← h2]
def mm_Lr (ad sad : Nat → Nat) (nL : Nat) (ls : List (Option mm_V)) (la : Array Slot) : Prop := lv_has la nL (mm_lv ad sad ls)
theorem mm_getD {ls : List (Option mm_V)} {g : Nat} {v : mm_V} (h : ls.getD g none = some v) : ls[g]? = some (some v) := by
  rw [List.getD_eq_getElem?_getD] at h
  cases hq : ls[g]? with
  | none => rw [hq] at h; cases h
  | some o => rw [hq] at h; exact congrArg some h
theorem mm_Lr_at {ad sad : Nat → Nat} {nL g : Nat} {ls : List (Option mm_V)} {la : Array Slot} {v : mm_V} (h : mm_Lr ad sad nL ls la) (hg : ls.getD g none = some v) : la[g]? = some (.val (mm_cv ad sad v)) :=
  h.2.2 (g, mm_cv ad sad v) (mm_lv_mem.mpr ⟨v, mm_getD hg, rfl⟩)
theorem mm_lv_weak {la : Array Slot} {n : Nat} {l l' : List (Nat × Value)} (h : lv_has la n l') (hs : ∀ q ∈ l, q ∈ l') : lv_has la n l := ⟨h.1, h.2.1, fun q hq => h.2.2 q (hs q hq)⟩
theorem mm_kl_at {ls : List (Option mm_V)} {g i : Nat} {u : mm_V} (h : (mm_kl ls g)[i]? = some (some u)) : ls[i]? = some (some u) ∧ ¬ (i + 1 = g ∧ mm_cat u = 2) := by
  cases g with
  | zero => exact ⟨h, fun q => by omega⟩
  | succ j =>
    simp only [mm_kl] at h
    split at h
    · rename_i x hx
      by_cases e : i = j
      · subst e
        rw [List.getElem?_set] at h
        simp only [if_true] at h
        split at h <;> simp at h
      · rw [List.getElem?_set_ne (fun q => e q.symm)] at h
        exact ⟨h, fun q => by omega⟩
    · rename_i hx
      refine ⟨h, fun q => ?_⟩
      obtain ⟨q1, q2⟩ := q
      have e : i = j := by omega
      subst e
      rcases u with x | x | x | x | x <;> simp [mm_cat] at q2
      exact hx x (by rw [List.getD_eq_getElem?_getD, h]; rfl)
theorem mm_s1_lv (ad sad : Nat → Nat) (ls : List (Option mm_V)) (g : Nat) (v : mm_V) : ∀ q ∈ mm_lv ad sad (mm_s1 ls g v), q ∈ (g, mm_cv ad sad v) :: (mm_lv ad sad ls).filter (fun q => !(q.1 == g) && !(q.1 + 1 == g && q.2.category == 2)) := by
  intro q hq
  obtain ⟨u, h1, h2⟩ := mm_lv_mem.mp hq
  by_cases e : q.1 = g
  · unfold mm_s1 at h1
    rw [e, List.getElem?_set] at h1
    simp only [if_true] at h1
    split at h1
    · have h3 : v = u := by simpa using h1
      rw [List.mem_cons]
      left
      apply Prod.ext
      · exact e
      · rw [h2, h3]
    · cases h1
  · unfold mm_s1 at h1
    rw [List.getElem?_set_ne (fun z => e z.symm)] at h1
    obtain ⟨h3, h4⟩ := mm_kl_at h1
    refine List.mem_cons_of_mem _ (List.mem_filter.mpr ⟨mm_lv_mem.mpr ⟨u, h3, h2⟩, ?_⟩)
    rw [h2, mm_cv_cat]
    simp only [Bool.and_eq_true, Bool.not_eq_true', Bool.and_eq_false_iff, beq_eq_false_iff_ne]
    refine ⟨e, ?_⟩
    by_cases e2 : q.1 + 1 = g
    · right
      exact fun z => h4 ⟨e2, z⟩
    · left
      exact e2
theorem mm_s2_lv (ad sad : Nat → Nat) (ls : List (Option mm_V)) (g : Nat) (v : mm_V) : ∀ q ∈ mm_lv ad sad (mm_s2 ls g v), q ∈ (g, mm_cv ad sad v) :: (mm_lv ad sad ls).filter (fun q => !(q.1 == g) && (!(q.1 == g + 1) && !(q.1 + 1 == g && q.2.category == 2))) := by
  intro q hq
  obtain ⟨u, h1, h2⟩ := mm_lv_mem.mp hq
  by_cases e : q.1 = g
  · unfold mm_s2 at h1
    rw [e, List.getElem?_set] at h1
    simp only [if_true] at h1
    split at h1
    · have h3 : v = u := by simpa using h1
      rw [List.mem_cons]
      left
      apply Prod.ext
      · exact e
      · rw [h2, h3]
    · cases h1
  · unfold mm_s2 at h1
    rw [List.getElem?_set_ne (fun z => e z.symm)] at h1
    have e1 : q.1 ≠ g + 1 := by
      intro z
      rw [z, List.getElem?_set] at h1
      simp only [if_true] at h1
      split at h1 <;> simp at h1
    rw [List.getElem?_set_ne (fun z => e1 z.symm)] at h1
    obtain ⟨h3, h4⟩ := mm_kl_at h1
    refine List.mem_cons_of_mem _ (List.mem_filter.mpr ⟨mm_lv_mem.mpr ⟨u, h3, h2⟩, ?_⟩)
    rw [h2, mm_cv_cat]
    simp only [Bool.and_eq_true, Bool.not_eq_true', Bool.and_eq_false_iff, beq_eq_false_iff_ne]
    refine ⟨e, e1, ?_⟩
    by_cases e2 : q.1 + 1 = g
    · right
      exact fun z => h4 ⟨e2, z⟩
    · left
      exact e2
theorem mm_ar_len (ad sad : Nat → Nat) : ∀ As : List mm_V, (mm_ar As).length = (lg_sl (As.map (mm_cv ad sad))).length
  | [] => rfl
  | .inl x :: r => by
    show (mm_ar r).length + 1 = _
    rw [mm_ar_len ad sad r]
    simp [lg_sl, mm_cv, Value.category]
  | .inr (.inl x) :: r => by
    show (mm_ar r).length + 1 + 1 = _
    rw [mm_ar_len ad sad r]
    simp [lg_sl, mm_cv, Value.category]
  | .inr (.inr v) :: r => by
    show (mm_ar r).length + 1 = _
    rw [mm_ar_len ad sad r]
    rcases v with x | x | x <;> simp [lg_sl, mm_cv, Value.category]
theorem mm_ar_in (ad sad : Nat → Nat) : ∀ (As : List mm_V) (n i : Nat) (v : mm_V), (mm_ar As)[i]? = some (some v) → (n + i, mm_cv ad sad v) ∈ lv_args n (As.map (mm_cv ad sad))
  | [], _, i, v, h => by simp [mm_ar] at h
  | .inl x :: r, n, 0, v, h => by
    have e : v = .inl x := by simpa [mm_ar] using h.symm
    subst e
    simp [lv_args, mm_cv]
  | .inl x :: r, n, i + 1, v, h => by
    have h1 : (mm_ar r)[i]? = some (some v) := by simpa [mm_ar] using h
    have := mm_ar_in ad sad r (n + 1) i v h1
    rw [show n + (i + 1) = n + 1 + i by omega]
    simp [lv_args, mm_cv, Value.category]
    exact Or.inr this
  | .inr (.inl x) :: r, n, 0, v, h => by
    have e : v = .inr (.inl x) := by simpa [mm_ar] using h.symm
    subst e
    simp [lv_args, mm_cv]
  | .inr (.inl x) :: r, n, 1, v, h => by simp [mm_ar] at h
  | .inr (.inl x) :: r, n, i + 2, v, h => by
    have h1 : (mm_ar r)[i]? = some (some v) := by simpa [mm_ar] using h
    have := mm_ar_in ad sad r (n + 2) i v h1
    rw [show n + (i + 2) = n + 2 + i by omega]
    simp [lv_args, mm_cv, Value.category]
    exact Or.inr this
  | .inr (.inr y) :: r, n, 0, v, h => by
    have e : v = .inr (.inr y) := by simpa [mm_ar] using h.symm
    subst e
    simp [lv_args]
  | .inr (.inr y) :: r, n, i + 1, v, h => by
    have h1 : (mm_ar r)[i]? = some (some v) := by simpa [mm_ar] using h
    have := mm_ar_in ad sad r (n + 1) i v h1
    rw [show n + (i + 1) = n + 1 + i by omega]
    have hc : (mm_cv ad sad (.inr (.inr y))).category ≠ 2 := by
      rw [mm_cv_cat]
      simp [mm_cat]
    simp [lv_args, hc]
    exact Or.inr this
theorem mm_ini_lv (ad sad : Nat → Nat) (As : List mm_V) (nL : Nat) : ∀ q ∈ mm_lv ad sad (mm_ini nL As), q ∈ lv_args 0 (As.map (mm_cv ad sad)) := by
  intro q hq
  obtain ⟨v, h1, h2⟩ := mm_lv_mem.mp hq
  unfold mm_ini at h1
  have hl : (mm_ar As)[q.1]? = some (some v) := by
    by_cases hi : q.1 < (mm_ar As).length
    · rwa [List.getElem?_append_left hi] at h1
    · rw [List.getElem?_append_right (by omega)] at h1
      have := List.eq_of_mem_replicate (List.mem_of_getElem? h1)
      cases this
  have := mm_ar_in ad sad As 0 q.1 v hl
  rw [Nat.zero_add, ← h2] at this
  exact this
theorem mm_sp_e : ∀ (n : Nat) (acc st As rest : List mm_V), mm_sp n acc st = some (As, rest) → ∃ l : List mm_V, st = l ++ rest ∧ As = l.reverse ++ acc ∧ l.length = n
  | 0, acc, st, As, rest, h => by
    simp only [mm_sp, Option.some.injEq, Prod.mk.injEq] at h
    exact ⟨[], h.2, h.1.symm, rfl⟩
  | n + 1, acc, [], As, rest, h => by simp [mm_sp] at h
  | n + 1, acc, v :: r, As, rest, h => by
    obtain ⟨l, h1, h2, h3⟩ := mm_sp_e n (v :: acc) r As rest h
    refine ⟨v :: l, by rw [h1]; rfl, by rw [h2]; simp, by simp [h3]⟩
theorem mm_sp_st {n : Nat} {st As rest : List mm_V} (h : mm_sp n [] st = some (As, rest)) : st = As.reverse ++ rest ∧ As.length = n := by
  obtain ⟨l, h1, h2, h3⟩ := mm_sp_e n [] st As rest h
  rw [List.append_nil] at h2
  exact ⟨by rw [h1, h2, List.reverse_reverse], by rw [h2, List.length_reverse, h3]⟩
/-! cells -/
def mm_fv (ad : Nat → Nat) (x : Int32) : Option (Option Nat) → Value
  | none => .int x
  | some none => .null
  | some (some k) => .ref (ad k)
def mm_ce (ad : Nat → Nat) (ca : Nat → ClassId) (w : mm_W) (k : Nat) : mm_C → va_E
  | .inl (ci, fs) => .inr (ci, fs.mapIdx (fun j o => mm_fv ad (w.2.1 k j) o))
  | .inr (.inl (1, n)) => .inl (ca k, n, .inr (.inl (w.2.2 k)))
  | .inr (.inl (_, n)) => .inl (ca k, n, .inl (w.2.1 k))
  | .inr (.inr (_, n, b)) => .inl (ca k, n, .inr (.inr (.inr (.inr (fun i => if i < n then some (ad (b + i)) else none)))))
def mm_ws (ad : Nat → Nat) (ca : Nat → ClassId) (w : mm_W) : va_W := w.1.mapIdx (fun k c => (ad k, mm_ce ad ca w k c))
theorem mm_ws_at {ad : Nat → Nat} {ca : Nat → ClassId} {w : mm_W} {k : Nat} {c : mm_C} (h : w.1[k]? = some c) : (mm_ws ad ca w)[k]? = some (ad k, mm_ce ad ca w k c) := by
  unfold mm_ws
  rw [List.getElem?_mapIdx, h]
  rfl
theorem mm_ws_set {ad : Nat → Nat} {ca : Nat → ClassId} {w w' : mm_W} {k : Nat} {c c' : mm_C} {x : va_E} (hk : w.1[k]? = some c) (hl : w'.1 = w.1.set k c') (hx : mm_ce ad ca w' k c' = x) (ho : ∀ (j : Nat) (cj : mm_C), j ≠ k → mm_ce ad ca w' j cj = mm_ce ad ca w j cj) : (mm_ws ad ca w).set k (ad k, x) = mm_ws ad ca w' := by
  apply List.ext_getElem?
  intro j
  have hlt := (List.getElem?_eq_some_iff.mp hk).1
  unfold mm_ws
  rw [List.getElem?_mapIdx, hl]
  by_cases e : j = k
  · subst e
    rw [List.getElem?_set_self (by rw [List.length_mapIdx]; exact hlt), List.getElem?_set_self hlt]
    simp [hx]
  · rw [List.getElem?_set_ne (fun z => e z.symm), List.getElem?_set_ne (fun z => e z.symm), List.getElem?_mapIdx]
    cases w.1[j]? with
    | none => rfl
    | some cj => simp [ho j cj e]
def mm_ct (ca : Nat → ClassId) (tys : List (ClassId × FieldType)) (k : Nat) : mm_C → Prop
  | .inl _ => True
  | .inr (.inl (t, _)) => (ca k, mm_ty t) ∈ tys
  | .inr (.inr (t, _, _)) => (ca k, .array (mm_ty t)) ∈ tys
def mm_H (D : va_G) (B0 : Nat) (ad : Nat → Nat) (w : mm_W) (s : State) (H : Heap) : Prop := ∃ (ca : Nat → ClassId) (tys : List (ClassId × FieldType)), va_K D mm_cl tys s ∧ va_P D mm_cl (mm_ws ad ca w) H ∧ va_D (fun q => B0 ≤ q) (mm_ws ad ca w) ∧ ∀ (k : Nat) (c : mm_C), w.1[k]? = some c → mm_ct ca tys k c
theorem mm_H.moved {D : va_G} {B0 : Nat} {ad : Nat → Nat} {w : mm_W} {s U : State} {H : Heap} (hvm : s.vm.Alike U.vm) (h : mm_H D B0 ad w s H) : mm_H D B0 ad w U H := by
  obtain ⟨ca, tys, h1, h2, h3, h4⟩ := h
  exact ⟨ca, tys, h1.moved hvm, h2, h3, h4⟩
/-! what nobody writes: static rows, words that are carried -/
def mm_Tb (tb : mm_T) (sad : Nat → Nat) (B0 : Nat) (U : State) (H : Heap) (j : Nat) : Prop := match tb j with
  | (n, .inl f) => va_T .int (sad j) n (fun i => .int (f i)) (fun q => B0 ≤ q) U H
  | (n, .inr f) => va_T .long (sad j) n (fun i => .long (f i)) (fun q => B0 ≤ q) U H
def mm_Sx (tb : mm_T) (sad : Nat → Nat) (B0 : Nat) (U : State) (H : Heap) : Prop := (∀ j, mm_Tb tb sad B0 U H j) ∧ (∀ (j : Nat) (C n d : String), mm_sn j = some (C, n, d) → va_Z C n d (.ref (sad j)) (fun q => B0 ≤ q) U H) ∧ ∀ (p : Nat) (w : Cond), mm_az p w = true → va_Nw w U
theorem mm_AOA_moved {t : FieldType} {u U : State} (hvm : u.vm.Alike U.vm) (h : va_Nw (.arrayOver (.array t)) u) : va_Nw (.arrayOver (.array t)) U := by
  obtain ⟨comp, c, k, h1, h2, h3, h4, h5⟩ := arrayOverA_spec h
  obtain ⟨k', hk', he⟩ := hvm.2.2 _ _ h3
  have hb : U.vm.bare = u.vm.bare := by first | exact hvm.bare_eq.symm | exact hvm.bare_eq
  have hi := (va_idx_bare U.vm comp).symm.trans ((congrArg (fun v : Vm => v.classes.findIdx? _) hb).trans ((va_idx_bare u.vm comp).trans h2))
  have hkind : k'.kind = .array comp (.array t) := by rw [he]; exact h4
  have f1 : U.vm.findClass (FieldType.array t).toString = some comp := by rw [hvm.findClass]; exact h1
  have f2 : U.vm.findClass ("[" ++ (FieldType.array t).toString) = some c := by rw [hvm.findClass]; exact h5
  unfold va_Nw Cond.before Cond.holds
  simp only [Cond.value]
  rw [f1, Option.bind_some]
  refine (congrArg (fun o : Option Nat => (o.bind (fun c => (U.vm.classes[c]?).map fun (k : Class) => match k.kind with | .array _ ty => decide (ty = FieldType.array t) && decide (U.vm.findClass ("[" ++ (FieldType.array t).toString) = some c) | _ => false) == some true)) hi).trans ?_
  simp [hk', hkind, f2]
theorem mm_nz_moved {w : Cond} {s U : State} (hW : s.WarmedH U.vm) (hw : mm_nzk w = true) (h : va_Nw w s) : va_Nw w U := by
  unfold mm_nzk at hw
  split at hw
  · exact va_Nw.warmM hW h
  · exact va_Nw.warmD hW h
  · exact mm_AOA_moved hW.alike h
  · cases hw
theorem mm_Sx.moved {tb : mm_T} {sad : Nat → Nat} {B0 : Nat} {s U : State} {H : Heap} {locs : List Loc} (h : mm_Sx tb sad B0 s s.heap) (hS : va_S (fun q => B0 ≤ q) s.heap H locs) (hU : U.heap = H) (hW : s.WarmedH U.vm) : mm_Sx tb sad B0 U U.heap := by
  obtain ⟨h1, h2, h3⟩ := h
  have hk : ∀ a : Nat, a < s.heap.size → ¬ B0 ≤ a → U.heap[a]? = s.heap[a]? := fun a ha hb => by rw [hU]; exact hS.2.1 a ha hb
  refine ⟨fun j => ?_, fun j C n d hj => ((h2 j C n d hj).moved hW.alike).kept hk, fun p w hw => ?_⟩
  · have := h1 j
    unfold mm_Tb at this ⊢
    split
    · rename_i n f e
      rw [e] at this
      exact (va_T.moved hW.alike this).kept hk
    · rename_i n f e
      rw [e] at this
      exact (va_T.moved hW.alike this).kept hk
  · have hz : mm_nzk w = true := by
      simp only [mm_az, Bool.and_eq_true] at hw
      exact hw.2
    exact mm_nz_moved hW hz (h3 p w hw)
end
section
/-! ===== what a step of the abstract machine says of the machine ===== -/
abbrev mm_A (B0 : Nat) : Nat → Prop := fun q => B0 ≤ q
def mm_Ok (D : va_G) (B0 : Nat) (sad : Nat → Nat) (n0 : Nat) (ad0 : Nat → Nat) (lim : Nat × Nat) (R : Room) (s : State) (nL : Nat) (ad : Nat → Nat) (H : Heap) (locs : List Loc) (cells slots : Nat) (la : Array Slot) (ls : List (Option mm_V)) (w : mm_W) : Prop :=
  (∀ k, k < n0 ∨ w.1.length ≤ k → ad k = ad0 k) ∧ n0 ≤ w.1.length ∧ w.1.length ≤ lim.1 ∧ mm_sl w.1 ≤ lim.2 ∧ mm_H D B0 ad w s H ∧ va_S (mm_A B0) s.heap H locs ∧ mm_Lr ad sad nL ls la ∧ cells + (lim.1 - w.1.length) ≤ R.cells ∧ slots + (lim.2 - mm_sl w.1) ≤ R.slots
section MMS
variable {p : Program} {l : Launch} {e : Env} {R : Room} {s : State} {m : MethodId} {args : Array Value} {below : List Frame} {meth : Method} {c : Code} {Qf : State → Prop}
variable {D : va_G} {B0 : Nat} {sad : Nat → Nat} {n0 : Nat} {ad0 : Nat → Nat} {lim : Nat × Nat} {M : mm_M} {ms : List mm_M} {tb : mm_T} {call : mm_F} {Q : Option mm_V → mm_W → Prop}
def mm_Rel (p : Program) (l : Launch) (e : Env) (R : Room) (s : State) (m : MethodId) (args : Array Value) (below : List Frame) (meth : Method) (c : Code) (Qf : State → Prop) (D : va_G) (B0 : Nat) (sad : Nat → Nat) (n0 : Nat) (ad0 : Nat → Nat) (lim : Nat × Nat) (nL : Nat) : mm_K := fun pc ls st w =>
  ∀ (ad : Nat → Nat) (H : Heap) (locs : List Loc) (cells slots : Nat) (la : Array Slot), mm_Ok D B0 sad n0 ad0 lim R s nL ad H locs cells slots la ls w → W p l e R s m args below meth c H locs cells slots Qf (F0 m pc la (st.map (mm_cv ad sad)))
/-- a return: what is asked of the frame around -/
def mm_rti (M : mm_M) (pc : Nat) (o : Option mm_V) : Prop := match o with
  | some (.inl x) => decode (mm_Mb M) pc = .ok (.ireturn, 1) ∧ (mm_Mr M = some .int ∨ (mm_Mr M = some .boolean ∧ (x = 0 ∨ x = 1)))
  | some (.inr (.inl _)) => decode (mm_Mb M) pc = .ok (.lreturn, 1) ∧ mm_Mr M = some .long
  | none => decode (mm_Mb M) pc = .ok (.return_, 1) ∧ mm_Mr M = none
  | _ => False
/-! elimination of the ops -/
theorem mm_oI_e {o : Option mm_V} {k : Int32 → Prop} (h : mm_oI o k) : ∃ x, o = some (.inl x) ∧ k x := by
  unfold mm_oI at h
  split at h
  · exact ⟨_, rfl, h⟩
  · exact h.elim
theorem mm_oL_e {o : Option mm_V} {k : Int64 → Prop} (h : mm_oL o k) : ∃ x, o = some (.inr (.inl x)) ∧ k x := by
  unfold mm_oL at h
  split at h
  · exact ⟨_, rfl, h⟩
  · exact h.elim
theorem mm_oA_e {o : Option mm_V} {k : mm_V → Prop} (h : mm_oA o k) : ∃ v, o = some (.inr (.inr v)) ∧ k (.inr (.inr v)) := by
  unfold mm_oA at h
  split at h
  · exact ⟨_, rfl, h⟩
  · exact h.elim
theorem mm_1i_e {st : List mm_V} {k : Int32 → List mm_V → Prop} (h : mm_1i st k) : ∃ x r, st = .inl x :: r ∧ k x r := by
  unfold mm_1i at h
  split at h
  · exact ⟨_, _, rfl, h⟩
  · exact h.elim
theorem mm_1l_e {st : List mm_V} {k : Int64 → List mm_V → Prop} (h : mm_1l st k) : ∃ x r, st = .inr (.inl x) :: r ∧ k x r := by
  unfold mm_1l at h
  split at h
  · exact ⟨_, _, rfl, h⟩
  · exact h.elim
theorem mm_1r_e {st : List mm_V} {k : Nat → List mm_V → Prop} (h : mm_1r st k) : ∃ x r, st = .inr (.inr (.inl x)) :: r ∧ k x r := by
  unfold mm_1r at h
  split at h
  · exact ⟨_, _, rfl, h⟩
  · exact h.elim
theorem mm_1c_e {st : List mm_V} {k : mm_V → List mm_V → Prop} (h : mm_1c st k) : ∃ v r, st = v :: r ∧ mm_cat v = 1 ∧ k v r := by
  unfold mm_1c at h
  split at h
  · exact ⟨_, _, rfl, rfl, h⟩
  · exact ⟨_, _, rfl, rfl, h⟩
  · exact h.elim
theorem mm_2i_e {st : List mm_V} {k : Int32 → Int32 → List mm_V → Prop} (h : mm_2i st k) : ∃ x y r, st = .inl y :: .inl x :: r ∧ k x y r := by
  unfold mm_2i at h
  split at h
  · exact ⟨_, _, _, rfl, h⟩
  · exact h.elim
theorem mm_2l_e {st : List mm_V} {k : Int64 → Int64 → List mm_V → Prop} (h : mm_2l st k) : ∃ x y r, st = .inr (.inl y) :: .inr (.inl x) :: r ∧ k x y r := by
  unfold mm_2l at h
  split at h
  · exact ⟨_, _, _, rfl, h⟩
  · exact h.elim
theorem mm_t1_e {ax : List (Nat × Nat)} {k : Nat → Prop} (h : mm_t1 ax k) : ∃ a t r, ax = (a, t) :: r ∧ k t := by
  unfold mm_t1 at h
  split at h
  · exact ⟨_, _, _, rfl, h⟩
  · exact h.elim
theorem mm_cas_e {x : Int32} {k : Nat → Prop} {ax : List (Nat × Nat)} (h : mm_cas x k ax) : ∃ a d ts, ax = (a, d) :: ts ∧ mm_sw x k ts ∧ mm_df x (k d) ts := by
  unfold mm_cas at h
  split at h
  · exact ⟨_, _, _, rfl, h⟩
  · exact h.elim
theorem mm_vcat {ad sad : Nat → Nat} {v : mm_V} (h : mm_cat v = 1) : (mm_cv ad sad v).category = 1 := by rw [mm_cv_cat, h]
/-- switches -/
theorem mm_sw_t {x : Int32} {k : Nat → Prop} {pc : Nat} : ∀ (os : List Int) (ts : List (Nat × Nat)) (lo : Int) (j : Nat) (o : Int), mm_ckt pc lo os ts = true → mm_sw x k ts → os[j]? = some o → x.toInt = lo + j → ∃ t : Nat, (pc : Int) + o = (t : Int) ∧ k t
  | [], ts, lo, j, o, _, _, ho, _ => by simp at ho
  | o1 :: os, [], lo, j, o, hc, _, _, _ => by simp [mm_ckt] at hc
  | o1 :: os, (a, t) :: ts, lo, 0, o, hc, hs, ho, hx => by
    simp only [mm_ckt, Bool.and_eq_true, decide_eq_true_eq] at hc
    obtain ⟨⟨⟨h1, h2⟩, h3⟩, -⟩ := hc
    have e : o1 = o := by simpa using ho
    subst e
    refine ⟨t, h3, hs.1 ?_⟩
    apply Int32.toInt_inj.mp
    rw [nI_toInt h2, hx, h1]
    simp
  | o1 :: os, (a, t) :: ts, lo, j + 1, o, hc, hs, ho, hx => by
    simp only [mm_ckt, Bool.and_eq_true] at hc
    refine mm_sw_t os ts (lo + 1) j o hc.2 hs.2 (by simpa using ho) ?_
    rw [hx]
    push_cast
    omega
theorem mm_df_t {x : Int32} {P : Prop} {pc : Nat} : ∀ (os : List Int) (ts : List (Nat × Nat)) (lo : Int), mm_ckt pc lo os ts = true → mm_df x P ts → (x.toInt < lo ∨ lo + os.length ≤ x.toInt) → P
  | [], [], lo, _, h, _ => h
  | [], _ :: _, lo, hc, _, _ => by simp [mm_ckt] at hc
  | _ :: _, [], lo, hc, _, _ => by simp [mm_ckt] at hc
  | o1 :: os, (a, t) :: ts, lo, hc, h, hx => by
    simp only [mm_ckt, Bool.and_eq_true, decide_eq_true_eq] at hc
    obtain ⟨⟨⟨h1, h2⟩, h3⟩, h4⟩ := hc
    refine mm_df_t os ts (lo + 1) h4 (h ?_) ?_
    · intro q
      rw [q, nI_toInt h2] at hx
      simp only [List.length_cons] at hx
      omega
    · simp only [List.length_cons] at hx
      rcases hx with hx | hx
      · left; omega
      · right; push_cast at hx; omega
theorem mm_lk {x : Int32} {k : Nat → Prop} {pc d : Nat} {dflt : Int} (hd : (pc : Int) + dflt = (d : Int)) : ∀ (os : List (Int × Int)) (ts : List (Nat × Nat)), mm_ckl pc os ts = true → mm_sw x k ts → mm_df x (k d) ts → ∃ t : Nat, (pc : Int) + Op.lookupswitch.offset os dflt x.toInt = (t : Int) ∧ k t
  | [], [], _, _, h => ⟨d, by simpa [Op.lookupswitch.offset] using hd, h⟩
  | [], _ :: _, hc, _, _ => by simp [mm_ckl] at hc
  | _ :: _, [], hc, _, _ => by simp [mm_ckl] at hc
  | (b, o) :: os, (a, t) :: ts, hc, hs, hf => by
    simp only [mm_ckl, Bool.and_eq_true, decide_eq_true_eq] at hc
    obtain ⟨⟨⟨h1, h2⟩, h3⟩, h4⟩ := hc
    rw [Op.lookupswitch.offset_cons]
    by_cases q : x = nI a
    · refine ⟨t, ?_, hs.1 q⟩
      rw [if_pos (by rw [q, nI_toInt h2, h1])]
      exact h3
    · rw [if_neg (fun z => q (Int32.toInt_inj.mp (by rw [nI_toInt h2, h1]; exact z.symm)))]
      exact mm_lk hd os ts h4 hs.2 (hf q)
/-! the classes -/
theorem mm_cls {ci : Nat} {q : vw_C} (h : mm_cl[ci]? = some q) : (∀ k, k < q.2.2 → parseFieldDescriptor (q.2.1 k).2.2.1 = some (mm_tys ci k)) ∧ (∀ a, a < q.2.2 → ∀ b, b < q.2.2 → a ≠ b → (q.2.1 a).2.1 ≠ (q.2.1 b).2.1) ∧ q.2.2 = mm_cn ci := by
  match ci, h with
  | 0, h => cases h; exact ⟨tyX0_ok, nmX0, rfl⟩
  | 1, h => cases h; exact ⟨tyX1_ok, nmX1, rfl⟩
  | 2, h => cases h; exact ⟨tyX2_ok, nmX2, rfl⟩
  | 3, h => cases h; exact ⟨tyX3_ok, nmX3, rfl⟩
  | 4, h => cases h; exact ⟨tyX4_ok, nmX4, rfl⟩
  | 5, h => cases h; exact ⟨tyX5_ok, nmX5, rfl⟩
  | 6, h => cases h; exact ⟨tyX7_ok, nmX7, rfl⟩
  | 7, h => cases h; exact ⟨tyX8_ok, nmX8, rfl⟩
  | 8, h => cases h; exact ⟨tyX9_ok, nmX9, rfl⟩
  | 9, h => cases h; exact ⟨tyX11_ok, nmX11, rfl⟩
  | 10, h => cases h; exact ⟨tyX12_ok, nmX12, rfl⟩
  | k + 11, h => simp [mm_cl] at h
/-! frames of the ops that leave the world -/
theorem mm_Ok.st1 {nL : Nat} {ad : Nat → Nat} {H : Heap} {locs : List Loc} {cells slots : Nat} {la la' : Array Slot} {ls ls' : List (Option mm_V)} {w : mm_W} (O : mm_Ok D B0 sad n0 ad0 lim R s nL ad H locs cells slots la ls w) (h : mm_Lr ad sad nL ls' la') : mm_Ok D B0 sad n0 ad0 lim R s nL ad H locs cells slots la' ls' w := by
  obtain ⟨h1, h2, h3, h4, h5, h6, h7, h8, h9⟩ := O
  exact ⟨h1, h2, h3, h4, h5, h6, h, h8, h9⟩
/-- a write in the world: cells stay as many -/
theorem mm_Ok.wr {nL : Nat} {ad : Nat → Nat} {H H1 : Heap} {locs locs1 : List Loc} {cells slots : Nat} {la : Array Slot} {ls : List (Option mm_V)} {w w' : mm_W} (O : mm_Ok D B0 sad n0 ad0 lim R s nL ad H locs cells slots la ls w) (hl : w'.1.length = w.1.length) (hs : mm_sl w'.1 = mm_sl w.1) (hH : mm_H D B0 ad w' s H1) (hS : va_S (mm_A B0) s.heap H1 locs1) : mm_Ok D B0 sad n0 ad0 lim R s nL ad H1 locs1 cells slots la ls w' := by
  obtain ⟨h1, h2, h3, h4, h5, h6, h7, h8, h9⟩ := O
  unfold mm_Ok
  rw [hl, hs]
  exact ⟨h1, h2, h3, h4, hH, hS, h7, h8, h9⟩
theorem mm_sl_set {l : List mm_C} {k : Nat} {c c' : mm_C} (h : l[k]? = some c) (hc : mm_c1 c' = mm_c1 c) : mm_sl (l.set k c') = mm_sl l := by
  unfold mm_sl
  congr 1
  rw [List.map_set, hc]
  apply List.ext_getElem?
  intro i
  by_cases e : i = k
  · subst e
    have hlt := (List.getElem?_eq_some_iff.mp h).1
    rw [List.getElem?_set_self (by rw [List.length_map]; exact hlt), List.getElem?_map, h]
    rfl
  · rw [List.getElem?_set_ne (fun z => e z.symm)]
theorem mm_u_ne {α : Type} {f : Nat → Nat → α} {k i j : Nat} {x : α} (h : j ≠ k) : mm_u f k i x j = f j := by
  funext b
  simp [mm_u, h]
theorem mm_u_eq {f : Nat → Nat → Int32} {k i : Nat} {x : Int32} : mm_u f k i x k = upd (f k) i x := by
  funext b
  simp [mm_u, upd]
theorem mm_u_eqL {f : Nat → Nat → Int64} {k i : Nat} {x : Int64} : mm_u f k i x k = vp_updL (f k) i x := by
  funext b
  simp [mm_u, vp_updL]
theorem mm_ct_same {ca : Nat → ClassId} {tys : List (ClassId × FieldType)} {l : List mm_C} {k : Nat} {c c' : mm_C} (hct : ∀ (k : Nat) (c : mm_C), l[k]? = some c → mm_ct ca tys k c) (hk : l[k]? = some c) (h : mm_ct ca tys k c → mm_ct ca tys k c') : ∀ (j : Nat) (cj : mm_C), (l.set k c')[j]? = some cj → mm_ct ca tys j cj := by
  intro j cj hj
  by_cases e : j = k
  · subst e
    rw [List.getElem?_set_self (List.getElem?_eq_some_iff.mp hk).1] at hj
    cases hj
    exact h (hct _ _ hk)
  · rw [List.getElem?_set_ne (fun z => e z.symm)] at hj
    exact hct j cj hj
end MMS
end
section
/-! ===== ops that read and write the world ===== -/
section MMM
variable {p : Program} {l : Launch} {e : Env} {R : Room} {s : State} {m : MethodId} {args : Array Value} {below : List Frame} {meth : Method} {c : Code} {Qf : State → Prop}
variable {D : va_G} {B0 : Nat} {sad : Nat → Nat} {n0 : Nat} {ad0 : Nat → Nat} {lim : Nat × Nat} {M : mm_M} {ms : List mm_M} {tb : mm_T} {call : mm_F} {Q : Option mm_V → mm_W → Prop}
variable {nL : Nat} {ad : Nat → Nat} {H : Heap} {locs : List Loc} {cells slots : Nat} {la : Array Slot} {ls : List (Option mm_V)} {w : mm_W}
theorem mm_hb (hB : B0 ≤ s.heap.size) : ∀ q, s.heap.size ≤ q → mm_A B0 q := fun _ h => Nat.le_trans hB h
theorem mm_fi_in : ∀ {ax : List (Nat × Nat)} {ci j : Nat}, mm_fi ax ci = some j → (ci, j) ∈ ax
  | [], _, _, h => by simp [mm_fi] at h
  | (a, b) :: r, ci, j, h => by
    unfold mm_fi at h
    split at h
    · rename_i q
      cases h
      rw [q]
      exact List.mem_cons_self
    · exact List.mem_cons_of_mem _ (mm_fi_in h)
theorem mm_get (hx : p.tables.exec = Jvm.exec) (hb : c.code = mm_Mb M) (hown : s.vm.findClass (mm_My M).cls = some m.cls) (hts : ∀ w ∈ mm_GW, w.before args s = true) (hcw : ∀ (ci : Nat) (q : vw_C), mm_cl[ci]? = some q → ∀ w ∈ u_ws q.1 q.2.1 q.2.2, w ∈ mm_GW)
    {pc idx r : Nat} {ax : List (Nat × Nat)} {ps : List Nat} {st : List mm_V} {K : mm_V → Prop} (hd : decode (mm_Mb M) pc = .ok (.getfield idx, 3)) (hck : ax.all (mm_ckf (mm_My M) idx ps) = true) (hg : mm_gf w ax r K) (hH : mm_H D B0 ad w s H)
    (hk : ∀ v, K v → W p l e R s m args below meth c H locs cells slots Qf (F0 m (pc + 3) la ((v :: st).map (mm_cv ad sad)))) : W p l e R s m args below meth c H locs cells slots Qf (F0 m pc la ((mm_R r :: st).map (mm_cv ad sad))) := by
  obtain ⟨ca, tys, hK, hP, hD, hct⟩ := hH
  unfold mm_gf at hg
  split at hg
  · rename_i ci fs hr
    split at hg
    · rename_i j hj
      have hq := List.all_eq_true.mp hck _ (mm_fi_in hj)
      unfold mm_ckf at hq
      split at hq
      · rename_i C T N hC
        simp only [Bool.and_eq_true, decide_eq_true_eq] at hq
        obtain ⟨hjN, hq⟩ := hq
        have hws := mm_ws_at (ad := ad) (ca := ca) hr
        have key : ∀ (v : mm_V) (o : Option (Option Nat)), fs[j]? = some o → mm_fv ad (w.2.1 r j) o = mm_cv ad sad v → K v → W p l e R s m args below meth c H locs cells slots Qf (F0 m pc la ((mm_R r :: st).map (mm_cv ad sad))) := by
          intro v o ho hv hKv
          have hkv := hk v hKv
          have hfv : (fs.mapIdx (fun j o => mm_fv ad (w.2.1 r j) o))[j]? = some (mm_cv ad sad v) := by
            rw [List.getElem?_mapIdx, ho]
            exact congrArg some hv
          split at hq
          · exact va_get (D := D) (C := C) (T := T) (N := N) (ref := (T j).1) hx hb hts (hcw ci _ hC) hown hK hP r hws hC j hjN (hts _ (mm_at_in hq)) (fun _ h => h) hfv hd hkv
          · simp only [Bool.and_eq_true] at hq
            exact va_get (D := D) (C := C) (T := T) (N := N) (ref := (mm_My M).cls) hx hb hts (hcw ci _ hC) hown hK hP r hws hC j hjN (hts _ (mm_at_in hq.1)) (fun x h => u_same (hts _ (mm_at_in hq.2)) x h) hfv hd hkv
          · cases hq
        split at hg
        · rename_i ho
          exact key _ _ ho rfl hg
        · rename_i ho
          exact key _ _ ho rfl hg
        · rename_i a ho
          exact key _ _ ho rfl hg
        · exact hg.elim
      · cases hq
    · exact hg.elim
  · exact hg.elim
theorem mm_fv_int {ty : FieldType} {v : Value} (hi : ty = .int) (x : Int32) (hv : v = .int x) : narrow ty v = v ∧ fits ty v = true := by
  subst hi
  subst hv
  exact ⟨rfl, rfl⟩
theorem mm_fv_ref {ty : FieldType} (hi : mm_rfT ty = true) (a : Nat) : narrow ty (.ref a) = .ref a ∧ fits ty (.ref a) = true := by
  cases ty <;> first | exact ⟨rfl, rfl⟩ | (simp [mm_rfT] at hi)
theorem mm_set_same {l : List mm_C} {r : Nat} {c : mm_C} (h : l[r]? = some c) : l = l.set r c := by
  apply List.ext_getElem?
  intro i
  by_cases e : i = r
  · subst e
    rw [List.getElem?_set_self (List.getElem?_eq_some_iff.mp h).1, h]
  · rw [List.getElem?_set_ne (fun z => e z.symm)]
theorem mm_ce_i {ca : Nat → ClassId} {w : mm_W} {k : Nat} {lx : List mm_C} {f : Nat → Nat → Int32} (h : f k = w.2.1 k) (ck : mm_C) : mm_ce ad ca (lx, f, w.2.2) k ck = mm_ce ad ca w k ck := by
  unfold mm_ce
  rw [show ((lx, f, w.2.2) : mm_W).2.1 k = w.2.1 k from h]
theorem mm_ce_l {ca : Nat → ClassId} {w : mm_W} {k : Nat} {lx : List mm_C} {f : Nat → Nat → Int64} (h : f k = w.2.2 k) (ck : mm_C) : mm_ce ad ca (lx, w.2.1, f) k ck = mm_ce ad ca w k ck := by
  unfold mm_ce
  rw [show ((lx, w.2.1, f) : mm_W).2.2 k = w.2.2 k from h]
theorem mm_ce_ne {ca : Nat → ClassId} {w' : mm_W} {k : Nat} (h1 : w'.2.1 k = w.2.1 k) (h2 : w'.2.2 k = w.2.2 k) (ck : mm_C) : mm_ce ad ca w' k ck = mm_ce ad ca w k ck := by
  unfold mm_ce
  rw [h1, h2]
theorem mm_map_u {fs : List (Option (Option Nat))} {f : Nat → Nat → Int32} {r j : Nat} {x : Int32} (ho : fs[j]? = some none) : fs.mapIdx (fun i o => mm_fv ad (mm_u f r j x r i) o) = (fs.mapIdx (fun i o => mm_fv ad (f r i) o)).set j (.int x) := by
  apply List.ext_getElem?
  intro i
  have hjl := (List.getElem?_eq_some_iff.mp ho).1
  by_cases e : i = j
  · subst e
    rw [List.getElem?_set_self (by rw [List.length_mapIdx]; exact hjl), List.getElem?_mapIdx, ho]
    simp [mm_fv, mm_u]
  · rw [List.getElem?_set_ne (fun z => e z.symm), List.getElem?_mapIdx, List.getElem?_mapIdx]
    simp [mm_u, e]
theorem mm_map_s {fs : List (Option (Option Nat))} {f : Nat → Int32} {j a : Nat} (hjl : j < fs.length) : (fs.set j (some (some a))).mapIdx (fun i o => mm_fv ad (f i) o) = (fs.mapIdx (fun i o => mm_fv ad (f i) o)).set j (.ref (ad a)) := by
  apply List.ext_getElem?
  intro i
  by_cases e : i = j
  · subst e
    rw [List.getElem?_set_self (by rw [List.length_mapIdx]; exact hjl), List.getElem?_mapIdx, List.getElem?_set_self hjl]
    rfl
  · rw [List.getElem?_set_ne (fun z => e z.symm), List.getElem?_mapIdx, List.getElem?_mapIdx, List.getElem?_set_ne (fun z => e z.symm)]
theorem mm_put (hx : p.tables.exec = Jvm.exec) (hb : c.code = mm_Mb M) (hown : s.vm.findClass (mm_My M).cls = some m.cls) (hts : ∀ w ∈ mm_GW, w.before args s = true) (hcw : ∀ (ci : Nat) (q : vw_C), mm_cl[ci]? = some q → ∀ w ∈ u_ws q.1 q.2.1 q.2.2, w ∈ mm_GW) (hinit : (mm_My M).name = "<init>" → meth.name = "<init>")
    {pc idx g r : Nat} {v : mm_V} {ax : List (Nat × Nat)} {ps : List Nat} {st : List mm_V} {K : mm_W → Prop} (hd : decode (mm_Mb M) pc = .ok (.putfield idx, 3)) (hck : ax.all (fun q => mm_ckf (mm_My M) idx ps q && mm_ckp (mm_My M) g q) = true) (hg : mm_pf w ax g r v K) (O : mm_Ok D B0 sad n0 ad0 lim R s nL ad H locs cells slots la ls w)
    (hk : ∀ w' H1 locs1, K w' → mm_Ok D B0 sad n0 ad0 lim R s nL ad H1 locs1 cells slots la ls w' → W p l e R s m args below meth c H1 locs1 cells slots Qf (F0 m (pc + 3) la (st.map (mm_cv ad sad)))) : W p l e R s m args below meth c H locs cells slots Qf (F0 m pc la ((v :: mm_R r :: st).map (mm_cv ad sad))) := by
  have O' := O
  obtain ⟨o1, o2, o3, o4, hH, hS, oL, o8, o9⟩ := O
  obtain ⟨ca, tys, hK, hP, hD, hct⟩ := hH
  unfold mm_pf at hg
  split at hg
  · rename_i ci fs hr
    split at hg
    · rename_i j hj
      have hq := List.all_eq_true.mp hck _ (mm_fi_in hj)
      rw [Bool.and_eq_true] at hq
      obtain ⟨hq, hq2⟩ := hq
      unfold mm_ckf at hq
      split at hq
      · rename_i C T N hC
        simp only [Bool.and_eq_true, decide_eq_true_eq] at hq
        obtain ⟨hjN, hq⟩ := hq
        obtain ⟨hty, hnm, -⟩ := mm_cls hC
        have hws := mm_ws_at (ad := ad) (ca := ca) hr
        have key : ∀ (w' : mm_W) (c' : mm_C), j < fs.length → w'.1 = w.1.set r c' → mm_c1 c' = fs.length → (mm_ct ca tys r (.inl (ci, fs)) → mm_ct ca tys r c') → mm_ce ad ca w' r c' = .inr (ci, (fs.mapIdx (fun j o => mm_fv ad (w.2.1 r j) o)).set j (mm_cv ad sad v)) → (∀ (k : Nat) (ck : mm_C), k ≠ r → mm_ce ad ca w' k ck = mm_ce ad ca w k ck) → narrow (mm_tys ci j) (mm_cv ad sad v) = mm_cv ad sad v ∧ fits (mm_tys ci j) (mm_cv ad sad v) = true → K w' → W p l e R s m args below meth c H locs cells slots Qf (F0 m pc la ((v :: mm_R r :: st).map (mm_cv ad sad))) := by
          intro w' c' hjl hw' hc1 hctc hce hne hnf hKw
          have hl : w'.1.length = w.1.length := by rw [hw', List.length_set]
          have hsl : mm_sl w'.1 = mm_sl w.1 := by rw [hw']; exact mm_sl_set hr (by rw [hc1]; rfl)
          have hgo : ∀ (H1 : Heap) (locs1 : List Loc), va_P D mm_cl ((mm_ws ad ca w).set r (ad r, .inr (ci, (fs.mapIdx (fun j o => mm_fv ad (w.2.1 r j) o)).set j (mm_cv ad sad v)))) H1 → va_D (mm_A B0) ((mm_ws ad ca w).set r (ad r, .inr (ci, (fs.mapIdx (fun j o => mm_fv ad (w.2.1 r j) o)).set j (mm_cv ad sad v)))) → va_S (mm_A B0) s.heap H1 locs1 → W p l e R s m args below meth c H1 locs1 cells slots Qf (F0 m (pc + 3) la (st.map (mm_cv ad sad))) := by
            intro H1 locs1 hP1 hD1 hS1
            rw [mm_ws_set hr hw' hce hne] at hP1 hD1
            exact hk w' H1 locs1 hKw (O'.wr hl hsl ⟨ca, tys, hK, hP1, hD1, by rw [hw']; exact mm_ct_same hct hr hctc⟩ hS1)
          have hlen : j < (fs.mapIdx (fun j o => mm_fv ad (w.2.1 r j) o)).length := by rw [List.length_mapIdx]; exact hjl
          have hfin : (T j).2.2.2 = true → (mm_My M).name = "<init>" ∧ (T j).1 = (mm_My M).cls := by
            intro hT
            unfold mm_ckp at hq2
            rw [hC] at hq2
            simp only [Bool.and_eq_true, hT, Bool.not_true, Bool.false_or, decide_eq_true_eq] at hq2
            exact hq2.2
          cases hT : (T j).2.2.2 with
          | false =>
            split at hq
            · exact va_put (D := D) (C := C) (T := T) (N := N) (ref := (T j).1) hx hb hts (hcw ci _ hC) (mm_tys ci) hty hnm hown hK hP hD hS r hws hC j hjN (hts _ (mm_at_in hq)) (fun _ h => h) hT (hty j hjN) hnf.1 hnf.2 hlen hd hgo
            · simp only [Bool.and_eq_true] at hq
              exact va_put (D := D) (C := C) (T := T) (N := N) (ref := (mm_My M).cls) hx hb hts (hcw ci _ hC) (mm_tys ci) hty hnm hown hK hP hD hS r hws hC j hjN (hts _ (mm_at_in hq.1)) (fun x h => u_same (hts _ (mm_at_in hq.2)) x h) hT (hty j hjN) hnf.1 hnf.2 hlen hd hgo
            · cases hq
          | true =>
            obtain ⟨f1, f2⟩ := hfin hT
            split at hq
            · exact va_putF (D := D) (C := C) (T := T) (N := N) (ref := (T j).1) hx hb hts (hcw ci _ hC) (mm_tys ci) hty hnm hown hK hP hD hS r hws hC j hjN (hts _ (mm_at_in hq)) (fun _ h => h) hT (hinit f1) f2 (hty j hjN) hnf.1 hnf.2 hlen hd hgo
            · simp only [Bool.and_eq_true] at hq
              exact va_putF (D := D) (C := C) (T := T) (N := N) (ref := (mm_My M).cls) hx hb hts (hcw ci _ hC) (mm_tys ci) hty hnm hown hK hP hD hS r hws hC j hjN (hts _ (mm_at_in hq.1)) (fun x h => u_same (hts _ (mm_at_in hq.2)) x h) hT (hinit f1) f2 (hty j hjN) hnf.1 hnf.2 hlen hd hgo
            · cases hq
        unfold mm_ckp at hq2
        rw [hC] at hq2
        simp only [Bool.and_eq_true] at hq2
        split at hg
        · rename_i x ho
          have hjl := (List.getElem?_eq_some_iff.mp ho).1
          simp only [decide_eq_true_eq] at hq2
          refine key _ (.inl (ci, fs)) hjl ?_ rfl (fun h => h) ?_ ?_ (mm_fv_int hq2.1 x rfl) hg
          · show w.1 = w.1.set r (.inl (ci, fs))
            exact mm_set_same hr
          · exact congrArg (fun z => Sum.inr (ci, z)) (mm_map_u ho)
          · exact fun k ck h => mm_ce_i (mm_u_ne h) ck
        · rename_i b a ho
          have hjl := (List.getElem?_eq_some_iff.mp ho).1
          refine key _ (.inl (ci, fs.set j (some (some a)))) hjl rfl (by simp [mm_c1]) (fun _ => trivial) ?_ ?_ (mm_fv_ref hq2.1 (ad a)) hg
          · exact congrArg (fun z => Sum.inr (ci, z)) (mm_map_s hjl)
          · exact fun k ck _ => mm_ce_i rfl ck
        · exact hg.elim
      · cases hq
    · exact hg.elim
  · exact hg.elim
/-! rows -/
theorem mm_ald_e {t r : Nat} {i : Int32} {k : Prop} (h : mm_ald w t r i k) : ∃ n, w.1[r]? = some (.inr (.inl (t, n))) ∧ vp_in i n ∧ k := by
  unfold mm_ald at h
  split at h
  · rename_i t' n hr
    obtain ⟨rfl, h2, h3⟩ := h
    exact ⟨n, hr, h2, h3⟩
  · exact h.elim
theorem mm_Tb_i {j n : Nat} {f : Nat → Int32} (h : mm_Tb tb sad B0 s H j) (e : tb j = (n, .inl f)) : va_T .int (sad j) n (fun i => .int (f i)) (mm_A B0) s H := by
  unfold mm_Tb at h
  rw [e] at h
  exact h
theorem mm_Tb_l {j n : Nat} {f : Nat → Int64} (h : mm_Tb tb sad B0 s H j) (e : tb j = (n, .inr f)) : va_T .long (sad j) n (fun i => .long (f i)) (mm_A B0) s H := by
  unfold mm_Tb at h
  rw [e] at h
  exact h
theorem mm_iald (hx : p.tables.exec = Jvm.exec) (hb : c.code = mm_Mb M) (hSx : mm_Sx tb sad B0 s s.heap) (hS : va_S (mm_A B0) s.heap H locs) {pc : Nat} {st : List mm_V} {K : Int32 → List mm_V → Prop} (hd : decode (mm_Mb M) pc = .ok (.iaload, 1)) (hg : mm_ild tb w st K) (hH : mm_H D B0 ad w s H)
    (hk : ∀ v q, K v q → W p l e R s m args below meth c H locs cells slots Qf (F0 m (pc + 1) la ((mm_I v :: q).map (mm_cv ad sad)))) : W p l e R s m args below meth c H locs cells slots Qf (F0 m pc la (st.map (mm_cv ad sad))) := by
  unfold mm_ild at hg
  split at hg
  · rename_i i r q
    obtain ⟨ca, tys, hK, hP, hD, hct⟩ := hH
    obtain ⟨n, hr, hin, hKv⟩ := mm_ald_e hg
    obtain ⟨t0, ht0⟩ := List.getElem?_of_mem (hct _ _ hr)
    exact va_iald (D := D) hx hb hK hP r t0 (mm_ws_at (ad := ad) (ca := ca) hr) ht0 hin hd (hk _ _ hKv)
  · rename_i i j q
    split at hg
    · rename_i n f e
      exact va_ti hx hb (mm_Tb_i (hSx.1 j) e) hS hg.1 rfl hd (hk _ _ hg.2)
    · exact hg.elim
  · exact hg.elim
theorem mm_lald (hx : p.tables.exec = Jvm.exec) (hb : c.code = mm_Mb M) (hSx : mm_Sx tb sad B0 s s.heap) (hS : va_S (mm_A B0) s.heap H locs) {pc : Nat} {st : List mm_V} {K : Int64 → List mm_V → Prop} (hd : decode (mm_Mb M) pc = .ok (.laload, 1)) (hg : mm_lld tb w st K) (hH : mm_H D B0 ad w s H)
    (hk : ∀ v q, K v q → W p l e R s m args below meth c H locs cells slots Qf (F0 m (pc + 1) la ((mm_L v :: q).map (mm_cv ad sad)))) : W p l e R s m args below meth c H locs cells slots Qf (F0 m pc la (st.map (mm_cv ad sad))) := by
  unfold mm_lld at hg
  split at hg
  · rename_i i r q
    obtain ⟨ca, tys, hK, hP, hD, hct⟩ := hH
    obtain ⟨n, hr, hin, hKv⟩ := mm_ald_e hg
    obtain ⟨t0, ht0⟩ := List.getElem?_of_mem (hct _ _ hr)
    exact va_lald (D := D) hx hb hK hP r t0 (mm_ws_at (ad := ad) (ca := ca) hr) ht0 hin hd (hk _ _ hKv)
  · rename_i i j q
    split at hg
    · rename_i n f e
      exact va_tl hx hb (mm_Tb_l (hSx.1 j) e) hS hg.1 rfl hd (hk _ _ hg.2)
    · exact hg.elim
  · exact hg.elim
theorem mm_zald (hx : p.tables.exec = Jvm.exec) (hb : c.code = mm_Mb M) {pc : Nat} {st : List mm_V} {K : Int32 → List mm_V → Prop} (hd : decode (mm_Mb M) pc = .ok (.baload, 1)) (hg : mm_bld w st K) (hH : mm_H D B0 ad w s H)
    (hk : ∀ v q, K v q → W p l e R s m args below meth c H locs cells slots Qf (F0 m (pc + 1) la ((mm_I v :: q).map (mm_cv ad sad)))) : W p l e R s m args below meth c H locs cells slots Qf (F0 m pc la (st.map (mm_cv ad sad))) := by
  unfold mm_bld at hg
  split at hg
  · rename_i i r q
    obtain ⟨ca, tys, hK, hP, hD, hct⟩ := hH
    obtain ⟨n, hr, hin, hKv⟩ := mm_ald_e hg
    obtain ⟨t0, ht0⟩ := List.getElem?_of_mem (hct _ _ hr)
    exact va_zald (D := D) hx hb hK hP r t0 (mm_ws_at (ad := ad) (ca := ca) hr) ht0 hin hd (hk _ _ hKv)
  · exact hg.elim
theorem mm_aald (hx : p.tables.exec = Jvm.exec) (hb : c.code = mm_Mb M) {pc : Nat} {st : List mm_V} {K : Nat → List mm_V → Prop} (hd : decode (mm_Mb M) pc = .ok (.aaload, 1)) (hg : mm_qld w st K) (hH : mm_H D B0 ad w s H)
    (hk : ∀ v q, K v q → W p l e R s m args below meth c H locs cells slots Qf (F0 m (pc + 1) la ((mm_R v :: q).map (mm_cv ad sad)))) : W p l e R s m args below meth c H locs cells slots Qf (F0 m pc la (st.map (mm_cv ad sad))) := by
  unfold mm_qld at hg
  split at hg
  · rename_i i r q
    split at hg
    · rename_i t n b hr
      obtain ⟨ca, tys, hK, hP, hD, hct⟩ := hH
      obtain ⟨hin, hKv⟩ := hg
      obtain ⟨t0, ht0⟩ := List.getElem?_of_mem (hct _ _ hr)
      have hlt : i.toNatClampNeg < n := Nat.not_le.mp fun q => hin (Or.inr q)
      have ha := mm_ws_at (ad := ad) (ca := ca) hr
      refine W.aald (v := .ref (ad (b + i.toNatClampNeg))) (ty := .array (mm_ty t)) hx hb (hP r _ ha) ((hK.2 t0 _ ht0).1 n (fun j => va_rf (if j < n then some (ad (b + j)) else none))) rfl (fun q => by cases q) (by show ¬ (i < 0 ∨ (arrV _ _ _).slots.size ≤ _); rw [arrV_size]; exact hin) (by show (arrV _ _ _).slots[_]? = _; rw [arrV_read _ _ hlt]; show some (va_rf (if i.toNatClampNeg < n then some (ad (b + i.toNatClampNeg)) else none)) = _; rw [if_pos hlt]; rfl) rfl rfl hd (hk _ _ hKv)
    · exact hg.elim
  · exact hg.elim
theorem mm_alen (hx : p.tables.exec = Jvm.exec) (hb : c.code = mm_Mb M) (hSx : mm_Sx tb sad B0 s s.heap) (hS : va_S (mm_A B0) s.heap H locs) {pc : Nat} {st : List mm_V} {K : Int32 → List mm_V → Prop} (hd : decode (mm_Mb M) pc = .ok (.arraylength, 1)) (hg : mm_len tb w st K) (hH : mm_H D B0 ad w s H)
    (hk : ∀ v q, K v q → W p l e R s m args below meth c H locs cells slots Qf (F0 m (pc + 1) la ((mm_I v :: q).map (mm_cv ad sad)))) : W p l e R s m args below meth c H locs cells slots Qf (F0 m pc la (st.map (mm_cv ad sad))) := by
  unfold mm_len at hg
  split at hg
  · rename_i r q
    split at hg
    · rename_i t n hr
      obtain ⟨ca, tys, hK, hP, hD, hct⟩ := hH
      obtain ⟨t0, ht0⟩ := List.getElem?_of_mem (hct _ _ hr)
      have ha := mm_ws_at (ad := ad) (ca := ca) hr
      unfold mm_ce at ha
      split at ha
      · rename_i e; cases e
      · rename_i e; cases e
        exact va_alen (D := D) hx hb hK hP r t0 ha ht0 rfl hd (hk _ _ hg)
      · rename_i e; cases e
        exact va_alen (D := D) hx hb hK hP r t0 ha ht0 rfl hd (hk _ _ hg)
      · rename_i e; cases e
    · exact hg.elim
  · rename_i j q
    cases e : tb j with
    | mk n f =>
      rw [e] at hg
      cases f with
      | inl f => exact va_tlen hx hb (mm_Tb_i (hSx.1 j) e) hS rfl hd (hk _ _ hg)
      | inr f => exact va_tlen hx hb (mm_Tb_l (hSx.1 j) e) hS rfl hd (hk _ _ hg)
  · exact hg.elim
/-- a row's place is written -/
theorem mm_awr {w' : mm_W} {r n t : Nat} {ca : Nat → ClassId} {tys : List (ClassId × FieldType)} {H1 : Heap} {locs1 : List Loc} {x : va_E} (O : mm_Ok D B0 sad n0 ad0 lim R s nL ad H locs cells slots la ls w) (hK : va_K D mm_cl tys s) (hct : ∀ (k : Nat) (c : mm_C), w.1[k]? = some c → mm_ct ca tys k c) (hr : w.1[r]? = some (.inr (.inl (t, n)))) (hl : w'.1 = w.1) (hx : mm_ce ad ca w' r (.inr (.inl (t, n))) = x) (hne : ∀ (k : Nat) (ck : mm_C), k ≠ r → mm_ce ad ca w' k ck = mm_ce ad ca w k ck) (hP : va_P D mm_cl ((mm_ws ad ca w).set r (ad r, x)) H1) (hD : va_D (mm_A B0) ((mm_ws ad ca w).set r (ad r, x))) (hS : va_S (mm_A B0) s.heap H1 locs1) : mm_Ok D B0 sad n0 ad0 lim R s nL ad H1 locs1 cells slots la ls w' := by
  rw [mm_ws_set (w' := w') hr (by rw [hl]; exact mm_set_same hr) hx hne] at hP hD
  exact O.wr (by rw [hl]) (by rw [hl]) ⟨ca, tys, hK, hP, hD, by rw [hl]; exact hct⟩ hS
theorem mm_iast (hx : p.tables.exec = Jvm.exec) (hb : c.code = mm_Mb M) {pc : Nat} {st : List mm_V} {K : mm_W → List mm_V → Prop} (hd : decode (mm_Mb M) pc = .ok (.iastore, 1)) (hg : mm_ist w 0 st K) (O : mm_Ok D B0 sad n0 ad0 lim R s nL ad H locs cells slots la ls w)
    (hk : ∀ w' q H1 locs1, K w' q → mm_Ok D B0 sad n0 ad0 lim R s nL ad H1 locs1 cells slots la ls w' → W p l e R s m args below meth c H1 locs1 cells slots Qf (F0 m (pc + 1) la (q.map (mm_cv ad sad)))) : W p l e R s m args below meth c H locs cells slots Qf (F0 m pc la (st.map (mm_cv ad sad))) := by
  have O' := O
  obtain ⟨o1, o2, o3, o4, hH, hS, oL, o8, o9⟩ := O
  obtain ⟨ca, tys, hK, hP, hD, hct⟩ := hH
  unfold mm_ist at hg
  split at hg
  · rename_i x i r q
    obtain ⟨n, hr, hin, hKv⟩ := mm_ald_e hg
    obtain ⟨t0, ht0⟩ := List.getElem?_of_mem (hct _ _ hr)
    refine va_iast (D := D) hx hb hK hP hD hS r t0 (mm_ws_at (ad := ad) (ca := ca) hr) ht0 hin hd (fun H1 locs1 hP1 hD1 hS1 => ?_)
    refine hk _ _ H1 locs1 hKv (mm_awr O' hK hct hr rfl ?_ (fun k ck h => mm_ce_i (mm_u_ne h) ck) hP1 hD1 hS1)
    show Sum.inl (ca r, n, Sum.inl (mm_u w.2.1 r i.toNatClampNeg x r)) = _
    rw [mm_u_eq]
  · exact hg.elim
theorem mm_zast (hx : p.tables.exec = Jvm.exec) (hb : c.code = mm_Mb M) {pc : Nat} {st : List mm_V} {K : mm_W → List mm_V → Prop} (hd : decode (mm_Mb M) pc = .ok (.bastore, 1)) (hg : mm_ist w 2 st K) (O : mm_Ok D B0 sad n0 ad0 lim R s nL ad H locs cells slots la ls w)
    (hk : ∀ w' q H1 locs1, K w' q → mm_Ok D B0 sad n0 ad0 lim R s nL ad H1 locs1 cells slots la ls w' → W p l e R s m args below meth c H1 locs1 cells slots Qf (F0 m (pc + 1) la (q.map (mm_cv ad sad)))) : W p l e R s m args below meth c H locs cells slots Qf (F0 m pc la (st.map (mm_cv ad sad))) := by
  have O' := O
  obtain ⟨o1, o2, o3, o4, hH, hS, oL, o8, o9⟩ := O
  obtain ⟨ca, tys, hK, hP, hD, hct⟩ := hH
  unfold mm_ist at hg
  split at hg
  · rename_i x i r q
    obtain ⟨n, hr, hin, hKv⟩ := mm_ald_e hg
    obtain ⟨t0, ht0⟩ := List.getElem?_of_mem (hct _ _ hr)
    refine va_zast (D := D) hx hb hK hP hD hS r t0 (mm_ws_at (ad := ad) (ca := ca) hr) ht0 hin hd (fun H1 locs1 hP1 hD1 hS1 => ?_)
    refine hk _ _ H1 locs1 hKv (mm_awr O' hK hct hr rfl ?_ (fun k ck h => mm_ce_i (mm_u_ne h) ck) hP1 hD1 hS1)
    show Sum.inl (ca r, n, Sum.inl (mm_u w.2.1 r i.toNatClampNeg (vp_nar .boolean x) r)) = _
    rw [mm_u_eq]
  · exact hg.elim
theorem mm_last (hx : p.tables.exec = Jvm.exec) (hb : c.code = mm_Mb M) {pc : Nat} {st : List mm_V} {K : mm_W → List mm_V → Prop} (hd : decode (mm_Mb M) pc = .ok (.lastore, 1)) (hg : mm_lst w st K) (O : mm_Ok D B0 sad n0 ad0 lim R s nL ad H locs cells slots la ls w)
    (hk : ∀ w' q H1 locs1, K w' q → mm_Ok D B0 sad n0 ad0 lim R s nL ad H1 locs1 cells slots la ls w' → W p l e R s m args below meth c H1 locs1 cells slots Qf (F0 m (pc + 1) la (q.map (mm_cv ad sad)))) : W p l e R s m args below meth c H locs cells slots Qf (F0 m pc la (st.map (mm_cv ad sad))) := by
  have O' := O
  obtain ⟨o1, o2, o3, o4, hH, hS, oL, o8, o9⟩ := O
  obtain ⟨ca, tys, hK, hP, hD, hct⟩ := hH
  unfold mm_lst at hg
  split at hg
  · rename_i x i r q
    obtain ⟨n, hr, hin, hKv⟩ := mm_ald_e hg
    obtain ⟨t0, ht0⟩ := List.getElem?_of_mem (hct _ _ hr)
    refine va_last (D := D) hx hb hK hP hD hS r t0 (mm_ws_at (ad := ad) (ca := ca) hr) ht0 hin hd (fun H1 locs1 hP1 hD1 hS1 => ?_)
    refine hk _ _ H1 locs1 hKv (mm_awr O' hK hct hr rfl ?_ (fun k ck h => mm_ce_l (mm_u_ne h) ck) hP1 hD1 hS1)
    show Sum.inl (ca r, n, Sum.inr (Sum.inl (mm_u w.2.2 r i.toNatClampNeg x r))) = _
    rw [mm_u_eqL]
  · exact hg.elim
end MMM
end
section
/-! ===== new cells ===== -/
theorem mm_ce_old {ad ad' : Nat → Nat} {ca ca' : Nat → ClassId} {w w' : mm_W} {n k : Nat} {c : mm_C} (hc : mm_loC n c = true) (had : ∀ j, j < n → ad' j = ad j) (hca : ca' k = ca k) (h1 : w'.2.1 k = w.2.1 k) (h2 : w'.2.2 k = w.2.2 k) : mm_ce ad' ca' w' k c = mm_ce ad ca w k c := by
  unfold mm_ce
  rw [h1, h2, hca]
  split
  · rename_i ci fs
    congr 2
    apply List.ext_getElem?
    intro j
    rw [List.getElem?_mapIdx, List.getElem?_mapIdx]
    cases ho : fs[j]? with
    | none => rfl
    | some o =>
      have hm := List.all_eq_true.mp (show fs.all _ = true from hc) o (List.mem_of_getElem? ho)
      rcases o with _ | _ | r
      · rfl
      · rfl
      · have hr : r < n := by simpa [Nat.blt_eq] using hm
        simp [mm_fv, had r hr]
  · rfl
  · rfl
  · rename_i t len b
    have hb : b + len ≤ n := by simpa [mm_loC, Nat.ble_eq] using hc
    have hf : (fun i => if i < len then some (ad' (b + i)) else none) = (fun i => if i < len then some (ad (b + i)) else none) := by
      funext i
      by_cases h : i < len
      · rw [if_pos h, if_pos h, had (b + i) (by omega)]
      · rw [if_neg h, if_neg h]
    rw [hf]
theorem mm_ws_app {ad ad' : Nat → Nat} {ca ca' : Nat → ClassId} {w w' : mm_W} {cs : List mm_C} (hl : w'.1 = w.1 ++ cs) (hold : ∀ (k : Nat) (c : mm_C), w.1[k]? = some c → (ad' k, mm_ce ad' ca' w' k c) = (ad k, mm_ce ad ca w k c)) : mm_ws ad' ca' w' = mm_ws ad ca w ++ cs.mapIdx (fun i c => (ad' (i + w.1.length), mm_ce ad' ca' w' (i + w.1.length) c)) := by
  unfold mm_ws
  rw [hl, List.mapIdx_append]
  congr 1
  apply List.ext_getElem?
  intro k
  rw [List.getElem?_mapIdx, List.getElem?_mapIdx]
  cases hk : w.1[k]? with
  | none => rfl
  | some c => exact congrArg some (hold k c hk)
theorem mm_cv_old {ad ad' sad : Nat → Nat} {n : Nat} {v : mm_V} (hv : mm_lo n v = true) (had : ∀ j, j < n → ad' j = ad j) : mm_cv ad' sad v = mm_cv ad sad v := by
  rcases v with x | x | x | x | x
  · rfl
  · rfl
  · have : x < n := by simpa [mm_lo, Nat.blt_eq] using hv
    simp [mm_cv, had x this]
  · rfl
  · rfl
theorem mm_st_old {ad ad' sad : Nat → Nat} {n : Nat} {st : List mm_V} (hv : st.all (mm_lo n) = true) (had : ∀ j, j < n → ad' j = ad j) : st.map (mm_cv ad' sad) = st.map (mm_cv ad sad) :=
  List.map_congr_left fun v hm => mm_cv_old (List.all_eq_true.mp hv v hm) had
theorem mm_Lr_old {ad ad' sad : Nat → Nat} {n nL : Nat} {ls : List (Option mm_V)} {la : Array Slot} (hv : ls.all (mm_loO n) = true) (had : ∀ j, j < n → ad' j = ad j) (h : mm_Lr ad sad nL ls la) : mm_Lr ad' sad nL ls la := by
  refine mm_lv_weak h fun q hq => ?_
  obtain ⟨v, h1, h2⟩ := mm_lv_mem.mp hq
  have := List.all_eq_true.mp hv _ (List.mem_of_getElem? h1)
  exact mm_lv_mem.mpr ⟨v, h1, by rw [h2]; exact mm_cv_old this had⟩
theorem mm_chk_e {ls : List (Option mm_V)} {st : List mm_V} {l : List mm_C} (h : mm_chk ls st l = true) : ls.all (mm_loO l.length) = true ∧ st.all (mm_lo l.length) = true ∧ l.all (mm_loC l.length) = true := by
  simp only [mm_chk, Bool.and_eq_true] at h
  exact ⟨h.1.1, h.1.2, h.2⟩
theorem mm_cls2 {ci : Nat} {q : vw_C} (h : mm_cl[ci]? = some q) : ∀ j, j < q.2.2 → mm_tys ci j = .int ∨ mm_rfT (mm_tys ci j) = true := by
  match ci, h with
  | 0, h => cases h; decide +kernel
  | 1, h => cases h; decide +kernel
  | 2, h => cases h; decide +kernel
  | 3, h => cases h; decide +kernel
  | 4, h => cases h; decide +kernel
  | 5, h => cases h; decide +kernel
  | 6, h => cases h; decide +kernel
  | 7, h => cases h; decide +kernel
  | 8, h => cases h; decide +kernel
  | 9, h => cases h; decide +kernel
  | 10, h => cases h; decide +kernel
  | k + 11, h => simp [mm_cl] at h
section MMN
variable {p : Program} {l : Launch} {e : Env} {R : Room} {s : State} {m : MethodId} {args : Array Value} {below : List Frame} {meth : Method} {c : Code} {Qf : State → Prop}
variable {D : va_G} {B0 : Nat} {sad : Nat → Nat} {n0 : Nat} {ad0 : Nat → Nat} {lim : Nat × Nat} {M : mm_M} {ms : List mm_M} {tb : mm_T} {call : mm_F} {Q : Option mm_V → mm_W → Prop}
variable {nL : Nat} {ad : Nat → Nat} {H : Heap} {locs : List Loc} {cells slots : Nat} {la : Array Slot} {ls : List (Option mm_V)} {w : mm_W}
theorem mm_Ok.al {ad' : Nat → Nat} {w' : mm_W} {H1 : Heap} {cnt sc : Nat} (O : mm_Ok D B0 sad n0 ad0 lim R s nL ad H locs cells slots la ls w) (hlen : w'.1.length = w.1.length + cnt) (hsl : mm_sl w'.1 = mm_sl w.1 + sc) (hrm : mm_rm lim w cnt sc) (had : ∀ k, k < w.1.length ∨ w.1.length + cnt ≤ k → ad' k = ad k) (hH : mm_H D B0 ad' w' s H1) (hS : va_S (mm_A B0) s.heap H1 locs) (hls : ls.all (mm_loO w.1.length) = true) : mm_Ok D B0 sad n0 ad0 lim R s nL ad' H1 locs (cells + cnt) (slots + sc) la ls w' := by
  obtain ⟨h1, h2, h3, h4, h5, h6, h7, h8, h9⟩ := O
  obtain ⟨r1, r2⟩ := hrm
  refine ⟨fun k hk => ?_, by omega, by omega, by omega, hH, hS, mm_Lr_old hls (fun j hj => had j (Or.inl hj)) h7, by omega, by omega⟩
  rw [hlen] at hk
  rw [had k (by omega), h1 k (by omega)]
theorem mm_sl_app (l cs : List mm_C) : mm_sl (l ++ cs) = mm_sl l + mm_sl cs := by simp [mm_sl]
theorem mm_z_old {α : Type} [OfNat α 0] {f : Nat → Nat → α} {lo n k : Nat} (h : k < lo) : mm_z f lo n k = f k := by
  funext b
  have : ¬ (lo ≤ k ∧ k < lo + n) := by omega
  simp [mm_z, this]
theorem mm_z_new {α : Type} [OfNat α 0] {f : Nat → Nat → α} {lo n k : Nat} (h : lo ≤ k) (h2 : k < lo + n) : mm_z f lo n k = fun _ => 0 := by
  funext b
  simp [mm_z, h, h2]
theorem mm_lo_at {w : mm_W} (h : w.1.all (mm_loC w.1.length) = true) {k : Nat} {c : mm_C} (hk : w.1[k]? = some c) : mm_loC w.1.length c = true ∧ k < w.1.length := ⟨List.all_eq_true.mp h c (List.mem_of_getElem? hk), (List.getElem?_eq_some_iff.mp hk).1⟩
theorem mm_newc (hx : p.tables.exec = Jvm.exec) (hb : c.code = mm_Mb M) (hown : s.vm.findClass (mm_My M).cls = some m.cls) (hts : ∀ w ∈ mm_GW, w.before args s = true) (hcw : ∀ (ci : Nat) (q : vw_C), mm_cl[ci]? = some q → ∀ w ∈ u_ws q.1 q.2.1 q.2.2, w ∈ mm_GW) (hB : B0 ≤ s.heap.size)
    {pc idx p0 p1 p2 a ci : Nat} {ax : List (Nat × Nat)} {st : List mm_V} {C : String} {T : u_T} {N : Nat} {K : mm_V → mm_W → Prop} (hd : decode (mm_Mb M) pc = .ok (.new idx, 3)) (hC : mm_cl[ci]? = some (C, T, N)) (h0 : mm_at p0 (.classLink (mm_My M).cls idx C) = true) (h1 : mm_at p1 (.instantiable C N) = true) (h2 : mm_at p2 (.initialized C) = true) (hg : mm_new lim ((a, ci) :: ax) ls st w K) (O : mm_Ok D B0 sad n0 ad0 lim R s nL ad H locs cells slots la ls w)
    (hk : ∀ v w' ad' H1 cells1 slots1, K v w' → mm_Ok D B0 sad n0 ad0 lim R s nL ad' H1 locs cells1 slots1 la ls w' → W p l e R s m args below meth c H1 locs cells1 slots1 Qf (F0 m (pc + 3) la ((v :: st).map (mm_cv ad' sad)))) : W p l e R s m args below meth c H locs cells slots Qf (F0 m pc la (st.map (mm_cv ad sad))) := by
  have O' := O
  obtain ⟨o1, o2, o3, o4, hH, hS, oL, o8, o9⟩ := O
  obtain ⟨ca, tys, hK, hP, hD, hct⟩ := hH
  obtain ⟨hty, -, hN⟩ := mm_cls hC
  dsimp only at hN hty
  unfold mm_new at hg
  obtain ⟨hck, hrm, hKv⟩ := hg
  obtain ⟨c1, c2, c3⟩ := mm_chk_e hck
  have hn := w.1.length
  have hfs : ∀ j, j < N → defaultValue (mm_tys ci j) = vp_V ((mm_nf (mm_tys ci) (mm_cn ci)).mapIdx (fun _ o => mm_fv ad 0 o)) j := by
    intro j hj
    have hj' : j < mm_cn ci := by rw [← hN]; exact hj
    unfold vp_V mm_nf
    rw [List.getD_eq_getElem?_getD, List.getElem?_mapIdx, List.getElem?_map, List.getElem?_range hj']
    show _ = mm_fv ad 0 (match mm_tys ci j with | .int => none | _ => some none)
    have hcase : mm_tys ci j = .int ∨ mm_rfT (mm_tys ci j) = true := mm_cls2 hC j hj
    rcases hcase with h | h
    · rw [h]; rfl
    · cases hq : mm_tys ci j <;> rw [hq] at h <;> first | rfl | (simp [mm_rfT] at h)
  have r1 := hrm.1
  have r2 := hrm.2
  refine va_new (D := D) (C := C) (T := T) (N := N) hx hb hts (hcw ci _ hC) (mm_tys ci) hty hown (hts _ (mm_at_in h0)) (hts _ (mm_at_in h1)) (hts _ (mm_at_in h2)) hK hP hD hS (mm_hb hB) hC hfs (by omega) (by rw [← hN] at r2; omega) hd (fun q H1 hP1 hD1 hS1 => ?_)
  have had : ∀ k, k < w.1.length ∨ w.1.length + 1 ≤ k → (fun k => if k = w.1.length then q else ad k) k = ad k := fun k hk => by
    show (if k = w.1.length then q else ad k) = ad k
    rw [if_neg (by omega)]
  have hold : ∀ j, j < w.1.length → (fun k => if k = w.1.length then q else ad k) j = ad j := fun j hj => had j (Or.inl hj)
  generalize hw' : ((w.1 ++ [.inl (ci, mm_nf (mm_tys ci) (mm_cn ci))], mm_z w.2.1 w.1.length 1, mm_z w.2.2 w.1.length 1) : mm_W) = w' at hKv
  have e1 : w'.1 = w.1 ++ [.inl (ci, mm_nf (mm_tys ci) (mm_cn ci))] := by rw [← hw']
  have e2 : w'.2.1 = mm_z w.2.1 w.1.length 1 := by rw [← hw']
  have e3 : w'.2.2 = mm_z w.2.2 w.1.length 1 := by rw [← hw']
  have hws : mm_ws (fun k => if k = w.1.length then q else ad k) ca w' = mm_ws ad ca w ++ [(q, .inr (ci, (mm_nf (mm_tys ci) (mm_cn ci)).mapIdx (fun _ o => mm_fv ad 0 o)))] := by
    rw [mm_ws_app e1 (ad := ad) (ca := ca)]
    · congr 1
      simp only [List.mapIdx_cons, List.mapIdx_nil, Nat.zero_add, if_true]
      unfold mm_ce
      rw [e2, mm_z_new (Nat.le_refl _) (by omega)]
      dsimp only
      congr 4
      apply List.ext_getElem?
      intro j
      rw [List.getElem?_mapIdx, List.getElem?_mapIdx]
      cases ho : (mm_nf (mm_tys ci) (mm_cn ci))[j]? with
      | none => rfl
      | some o =>
        have hm := List.mem_of_getElem? ho
        unfold mm_nf at hm
        obtain ⟨i, -, hi⟩ := List.mem_map.mp hm
        have : o = none ∨ o = some none := by
          rw [← hi]
          split
          · exact Or.inl rfl
          · exact Or.inr rfl
        rcases this with rfl | rfl <;> rfl
    · intro k ck hk
      obtain ⟨g1, g2⟩ := mm_lo_at c3 hk
      exact Prod.ext (hold k g2) (mm_ce_old g1 hold rfl (by rw [e2]; exact mm_z_old g2) (by rw [e3]; exact mm_z_old g2))
  have hres := hk (mm_R w.1.length) w' (fun k => if k = w.1.length then q else ad k) H1 (cells + 1) (slots + N) hKv (O'.al (by rw [e1]; simp) (by rw [e1, mm_sl_app]; simp [mm_sl, mm_c1, mm_nf, hN]) (by rw [← hN] at hrm; exact hrm) had ⟨ca, tys, hK, by rw [hws]; exact hP1, by rw [hws]; exact hD1, fun k ck hkc => by
    rw [e1] at hkc
    by_cases hl : k < w.1.length
    · rw [List.getElem?_append_left hl] at hkc
      exact hct k ck hkc
    · rw [List.getElem?_append_right (by omega)] at hkc
      have : ck = .inl (ci, mm_nf (mm_tys ci) (mm_cn ci)) := by
        have := List.mem_of_getElem? hkc
        simpa using this
      rw [this]
      trivial⟩ hS1 c1)
  rw [List.map_cons, mm_st_old c2 hold] at hres
  have hq : mm_cv (fun k => if k = w.1.length then q else ad k) sad (mm_R w.1.length) = .ref q := by simp [mm_cv]
  rw [hq] at hres
  exact hres
theorem mm_newar (hx : p.tables.exec = Jvm.exec) (hb : c.code = mm_Mb M) (hts : ∀ w ∈ mm_GW, w.before args s = true) (hB : B0 ≤ s.heap.size)
    {pc p0 t n : Nat} {a : Jvm.ClassFile.ArrayType} {ax : List (Nat × Nat)} {st : List mm_V} {K : mm_V → List mm_V → mm_W → Prop} (hd : decode (mm_Mb M) pc = .ok (.newarray a, 2)) (h0 : mm_at p0 (.arrayClass (mm_ty t)) = true) (hty : newarray.typeOf a = mm_ty t) (hg : mm_nar lim ((t, n) :: ax) ls st w K) (O : mm_Ok D B0 sad n0 ad0 lim R s nL ad H locs cells slots la ls w)
    (hk : ∀ v q w' ad' H1 cells1 slots1, K v q w' → mm_Ok D B0 sad n0 ad0 lim R s nL ad' H1 locs cells1 slots1 la ls w' → W p l e R s m args below meth c H1 locs cells1 slots1 Qf (F0 m (pc + 2) la ((v :: q).map (mm_cv ad' sad)))) : W p l e R s m args below meth c H locs cells slots Qf (F0 m pc la (st.map (mm_cv ad sad))) := by
  have O' := O
  obtain ⟨o1, o2, o3, o4, hH, hS, oL, o8, o9⟩ := O
  obtain ⟨ca, tys, hK, hP, hD, hct⟩ := hH
  unfold mm_nar at hg
  split at hg
  · rename_i x1 x2 t1 n1 r1 x r e1 
    cases e1
    obtain ⟨hxn, hn, hck, hrm, hKv⟩ := hg
    subst hxn
    obtain ⟨c1, c2, c3⟩ := mm_chk_e hck
    have r1 := hrm.1
    have r2 := hrm.2
    have hn31 : n < 2 ^ 31 := by omega
    have hcb : componentBytes (mm_ty t) ≤ 8 := by
      unfold mm_ty
      split <;> decide
    have hbytes : n * componentBytes (mm_ty t) ≤ 536870912 := by
      have := Nat.mul_le_mul (Nat.le_of_lt hn) hcb
      omega
    generalize hw' : ((w.1 ++ [.inr (.inl (t, n))], mm_z w.2.1 w.1.length 1, mm_z w.2.2 w.1.length 1) : mm_W) = w' at hKv
    have e1 : w'.1 = w.1 ++ [.inr (.inl (t, n))] := by rw [← hw']
    have e2 : w'.2.1 = mm_z w.2.1 w.1.length 1 := by rw [← hw']
    have e3 : w'.2.2 = mm_z w.2.2 w.1.length 1 := by rw [← hw']
    have ha0 : ∃ a0 : vp_A, (∀ cA : ClassId, vp_cell cA a0 = arrV cA n (fun _ => defaultValue (mm_ty t))) ∧ ∀ (ad9 : Nat → Nat) (ca9 : Nat → ClassId), mm_ce ad9 ca9 w' w.1.length (.inr (.inl (t, n))) = .inl (ca9 w.1.length, a0) := by
      by_cases ht : t = 1
      · subst ht
        exact ⟨(n, .inr (.inl (fun _ => 0))), fun cA => rfl, fun ad9 ca9 => by
          show Sum.inl (ca9 w.1.length, n, Sum.inr (Sum.inl (w'.2.2 w.1.length))) = _
          rw [e3, mm_z_new (Nat.le_refl _) (by omega)]⟩
      · refine ⟨(n, .inl (fun _ => 0)), fun cA => ?_, fun ad9 ca9 => ?_⟩
        · have hdv : defaultValue (mm_ty t) = .int 0 := by
            unfold mm_ty
            split
            · rfl
            · exact absurd rfl ht
            · rfl
          rw [hdv]
          rfl
        · have : mm_ce ad9 ca9 w' w.1.length (.inr (.inl (t, n))) = .inl (ca9 w.1.length, n, .inl (w'.2.1 w.1.length)) := by
            unfold mm_ce
            split
            · rename_i e; cases e
            · rename_i e; cases e; exact absurd rfl ht
            · rename_i e; cases e; rfl
            · rename_i e; cases e
          rw [this, e2, mm_z_new (Nat.le_refl _) (by omega)]
    obtain ⟨a0, ha0, hce⟩ := ha0
    refine va_newa (D := D) hx hb (atype := a) (by rw [hty]; exact hts _ (mm_at_in h0)) hty hK hP hD hS (mm_hb hB) ha0 (nI_pos hn31) (nI_clamp hn31) hbytes (by omega) (by omega) hd (fun q cA H1 hK1 hP1 hD1 hS1 => ?_)
    have had : ∀ k, k < w.1.length ∨ w.1.length + 1 ≤ k → (fun k => if k = w.1.length then q else ad k) k = ad k := fun k hk => by
      show (if k = w.1.length then q else ad k) = ad k
      rw [if_neg (by omega)]
    have hold : ∀ j, j < w.1.length → (fun k => if k = w.1.length then q else ad k) j = ad j := fun j hj => had j (Or.inl hj)
    have hcold : ∀ j, j < w.1.length → (fun k => if k = w.1.length then cA else ca k) j = ca j := fun j hj => by
      show (if j = w.1.length then cA else ca j) = ca j
      rw [if_neg (by omega)]
    have hws : mm_ws (fun k => if k = w.1.length then q else ad k) (fun k => if k = w.1.length then cA else ca k) w' = mm_ws ad ca w ++ [(q, .inl (cA, a0))] := by
      rw [mm_ws_app e1 (ad := ad) (ca := ca)]
      · congr 1
        simp only [List.mapIdx_cons, List.mapIdx_nil, Nat.zero_add, if_true]
        rw [hce]
        simp
      · intro k ck hk
        obtain ⟨g1, g2⟩ := mm_lo_at c3 hk
        exact Prod.ext (hold k g2) (mm_ce_old (ca := ca) (ca' := fun k => if k = w.1.length then cA else ca k) g1 hold (hcold k g2) ((congrFun e2 k).trans (mm_z_old g2)) ((congrFun e3 k).trans (mm_z_old g2)))
    have hres := hk (mm_R w.1.length) r w' (fun k => if k = w.1.length then q else ad k) H1 (cells + 1) (slots + n) hKv (O'.al (by rw [e1]; simp) (by rw [e1, mm_sl_app]; simp [mm_sl, mm_c1]) hrm had ⟨_, _, hK1, by rw [hws]; exact hP1, by rw [hws]; exact hD1, fun k ck hkc => by
      rw [e1] at hkc
      by_cases hl : k < w.1.length
      · rw [List.getElem?_append_left hl] at hkc
        have h9 := hct k ck hkc
        unfold mm_ct at h9 ⊢
        split
        · trivial
        · dsimp only at h9
          rw [hcold k hl]
          exact List.mem_append_left _ h9
        · dsimp only at h9
          rw [hcold k hl]
          exact List.mem_append_left _ h9
      · have hk0 : k = w.1.length := by
          have := (List.getElem?_eq_some_iff.mp hkc).1
          simp at this
          omega
        rw [List.getElem?_append_right (by omega), hk0, Nat.sub_self] at hkc
        cases hkc
        show ((if k = w.1.length then cA else ca k), mm_ty t) ∈ _
        rw [if_pos hk0]
        exact List.mem_append_right _ List.mem_cons_self⟩ hS1 c1)
    rw [List.map_cons, mm_st_old c2 hold] at hres
    have hq : mm_cv (fun k => if k = w.1.length then q else ad k) sad (mm_R w.1.length) = .ref q := by simp [mm_cv]
    rw [hq] at hres
    exact hres
  · exact hg.elim
end MMN
end
section
/-! ===== calls ===== -/
def mm_wd (M : mm_M) : List Cond := Cond.code (mm_My M) (mm_Mb M) (mm_Ml M) (mm_Mr M) :: mm_GW
def mm_rmd (d : Nat) (M : mm_M) : Room := { frames := d, cells := mm_Mk M, slots := mm_Ms M, locals := 40 * d }
def mm_Pc (D : va_G) (B0 : Nat) (sad : Nat → Nat) (tb : mm_T) (ad : Nat → Nat) (As : List mm_V) (w : mm_W) : Array Value → State → Prop := va_Pc (As.map (mm_cv ad sad)) (fun U => B0 ≤ U.heap.size ∧ mm_H D B0 ad w U U.heap ∧ mm_Sx tb sad B0 U U.heap)
def mm_Qc (D : va_G) (B0 : Nat) (sad : Nat → Nat) (ad : Nat → Nat) (w : mm_W) (Q : Option mm_V → mm_W → Prop) : Array Value → State → Outcome → State → Prop := fun _ st oc t =>
  (∃ (o : Option mm_V) (w' : mm_W) (ad' : Nat → Nat), oc = .returned (o.map (mm_cv ad' sad)) ∧ Q o w' ∧ (∀ k, k < w.1.length ∨ w'.1.length ≤ k → ad' k = ad k) ∧ mm_H D B0 ad' w' t t.heap) ∧ va_F (mm_A B0) st t
def mm_callOk (l : Launch) (D : va_G) (B0 : Nat) (sad : Nat → Nat) (tb : mm_T) (ms : List mm_M) (d : Nat) (call : mm_F) : Prop :=
  ∀ (mi : Nat) (M : mm_M), ms[mi]? = some M → ∀ (As : List mm_V) (w : mm_W) (Q : Option mm_V → mm_W → Prop), call mi As w Q → ∀ ad : Nat → Nat, Met l (mm_My M) (mm_wd M) (mm_rmd d M) (mm_Pc D B0 sad tb ad As w) (mm_Qc D B0 sad ad w Q) (mm_Mk M) (mm_Ms M) (mm_A B0)
theorem mm_Pc_blind (D : va_G) (B0 : Nat) (sad : Nat → Nat) (tb : mm_T) (ad : Nat → Nat) (As : List mm_V) (w : mm_W) : FrameBlind (mm_Pc D B0 sad tb ad As w) := by
  intro a U g mk h
  obtain ⟨h1, h2, h3, h4, h5, h6⟩ := h
  refine ⟨h1, h2, h3.moved (U := U.calling g mk a) (Vm.Alike.refl U.vm), fun j => ?_, fun j C n d hj => (h5 j C n d hj).moved (U := U.calling g mk a) (Vm.Alike.refl U.vm), fun p w hw => ?_⟩
  · have := h4 j
    unfold mm_Tb at this ⊢
    split
    · rename_i n f e
      rw [e] at this
      exact va_T.moved (U := U.calling g mk a) (Vm.Alike.refl U.vm) this
    · rename_i n f e
      rw [e] at this
      exact va_T.moved (U := U.calling g mk a) (Vm.Alike.refl U.vm) this
  · have hz : mm_nzk w = true := by
      simp only [mm_az, Bool.and_eq_true] at hw
      exact hw.2
    have h9 := h6 p w hw
    unfold mm_nzk at hz
    split at hz
    · exact va_Nw.same (u := U) (U := U.calling g mk a) rfl rfl h9
    · exact va_Nw.same (u := U) (U := U.calling g mk a) rfl rfl h9
    · exact mm_AOA_moved (u := U) (U := U.calling g mk a) (Vm.Alike.refl U.vm) h9
    · cases hz
section MMC
variable {p : Program} {l : Launch} {e : Env} {R : Room} {s : State} {m : MethodId} {args : Array Value} {below : List Frame} {meth : Method} {c : Code} {Qf : State → Prop}
variable {D : va_G} {B0 : Nat} {sad : Nat → Nat} {n0 : Nat} {ad0 : Nat → Nat} {lim : Nat × Nat} {M M' : mm_M} {ms : List mm_M} {tb : mm_T} {call : mm_F} {Q : Option mm_V → mm_W → Prop} {d : Nat}
variable {nL : Nat} {ad : Nat → Nat} {H : Heap} {locs : List Loc} {cells slots : Nat} {la : Array Slot} {ls : List (Option mm_V)} {w : mm_W}
theorem mm_after {mc msl pc : Nat} {st0 rest : List Value} {Qa : State → Outcome → State → Prop} (hr : va_Run p l e R s m args below meth c H locs cells slots mc msl (F0 m pc la st0) rest Qa (mm_A B0)) (hS : va_S (mm_A B0) s.heap H locs) (hF : ∀ st₀ t oc, Qa st₀ oc t → va_F (mm_A B0) st₀ t)
    (kk : ∀ (v : Option Value) (st₀ t : State) (H1 : Heap) (locs1 : List Loc), t.heap = H1 → s.vm.Alike t.vm → Qa st₀ (.returned v) t → va_S (mm_A B0) s.heap H1 locs1 → W p l e R s m args below meth c H1 locs1 (cells + mc) (slots + msl) Qf (F0 m (pc + 3) la (v.toList ++ rest))) : W p l e R s m args below meth c H locs cells slots Qf (F0 m pc la st0) := by
  intro T hT X
  obtain ⟨v, st₀, t, T', L, h0, X', hL, e1, e2, hq, st⟩ := hr T hT X
  obtain ⟨hz, hk⟩ := hF st₀ t _ hq
  rw [h0] at hz hk
  obtain ⟨t2, a1, b1⟩ := kk v st₀ t T'.heap (locs ++ L) e1.symm (by rw [← e2]; exact X'.warmed.alike) hq
    ⟨Nat.le_trans hS.1 (by rw [e1]; exact hz), fun q h1 h2 => by rw [e1, hk q (Nat.lt_of_lt_of_le h1 hS.1) h2]; exact hS.2.1 q h1 h2, fun q hq => by
      rcases List.mem_append.mp hq with h | h
      · exact hS.2.2 q h
      · exact hL q h⟩ T' rfl X'
  exact ⟨t2, st t2 a1, b1⟩
/-- what all kinds of calls share: 'run' says how the machine comes into the callee -/
theorem mm_invk (hml : c.maxLocals = nL) (hSx : mm_Sx tb sad B0 s s.heap) (hB : B0 ≤ s.heap.size) (hcall : mm_callOk l D B0 sad tb ms d call)
    {pc mi : Nat} {As rest : List mm_V} {st : List Value} {K : List mm_V → mm_W → Prop} (hg : mm_inv call ms lim mi ls As rest w K) (O : mm_Ok D B0 sad n0 ad0 lim R s nL ad H locs cells slots la ls w)
    (hM : ∀ M', ms[mi]? = some M' → mm_ckh M' = true)
    (run : ∀ (M' : mm_M) (Pc : Array Value → State → Prop) (Qc : Array Value → State → Outcome → State → Prop), ms[mi]? = some M' → Met l (mm_My M') (mm_wd M') (mm_rmd d M') Pc Qc (mm_Mk M') (mm_Ms M') (mm_A B0) → FrameBlind Pc → (∀ U : State, U.heap = H → s.WarmedH U.vm → Pc (As.map (mm_cv ad sad)).toArray U) → mm_cs rest ≤ 8 → cells + mm_Mk M' ≤ R.cells → slots + mm_Ms M' ≤ R.slots → va_Run p l e R s m args below meth c H locs cells slots (mm_Mk M') (mm_Ms M') (F0 m pc la st) (rest.map (mm_cv ad sad)) (Qc (As.map (mm_cv ad sad)).toArray) (mm_A B0))
    (hk : ∀ q w' ad' H1 locs1 cells1 slots1, K q w' → mm_Ok D B0 sad n0 ad0 lim R s nL ad' H1 locs1 cells1 slots1 la ls w' → W p l e R s m args below meth c H1 locs1 cells1 slots1 Qf (F0 m (pc + 3) la (q.map (mm_cv ad' sad)))) : W p l e R s m args below meth c H locs cells slots Qf (F0 m pc la st) := by
  have O' := O
  obtain ⟨o1, o2, o3, o4, hH, hS, oL, o8, o9⟩ := O
  have hPc : ∀ U : State, U.heap = H → s.WarmedH U.vm → mm_Pc D B0 sad tb ad As w (As.map (mm_cv ad sad)).toArray U := fun U hU hW =>
    ⟨rfl, by rw [hU]; exact Nat.le_trans hB hS.1, by rw [hU]; exact hH.moved hW.alike, hSx.moved hS hU hW⟩
  unfold mm_inv at hg
  split at hg
  · rename_i x1 x2 M1 hble hM1
    have h8 : mm_cs rest ≤ 8 := Nat.le_of_ble_eq_true hble
    have hs0 : mm_Mk M1 = 0 → mm_Ms M1 = 0 := by
      have := hM M1 hM1
      simp only [mm_ckh, Bool.and_eq_true, decide_eq_true_eq] at this
      exact this.1.2
    split at hg
    · rename_i hk0
      have hs0 := hs0 hk0
      have hm := hcall mi M1 hM1 As w _ hg ad
      refine mm_after (run M1 _ _ hM1 hm (mm_Pc_blind D B0 sad tb ad As w) hPc h8 (by omega) (by omega)) hS (fun st₀ t oc h => h.2) (fun v st₀ t H1 locs1 ht hvm hq hS1 => ?_)
      obtain ⟨⟨o, w', ad', hv, ⟨hww, hKq⟩, had, hH1⟩, -⟩ := hq
      cases hv
      have e : ad' = ad := funext fun k => had k (by rw [hww]; omega)
      subst e
      rw [ht] at hH1
      have hres := hk _ w' ad' H1 locs1 (cells + mm_Mk M1) (slots + mm_Ms M1) hKq (by
        refine ⟨by rw [hww]; exact o1, by rw [hww]; exact o2, by rw [hww]; exact o3, by rw [hww]; exact o4, hH1.moved hvm.symm, hS1, oL, ?_, ?_⟩
        · rw [hk0, hww]; exact o8
        · rw [hs0, hww]; exact o9)
      rw [List.map_append] at hres
      cases o <;> exact hres
    · rename_i n hk1
      obtain ⟨hck, hrm, hg⟩ := hg
      obtain ⟨c1, c2, c3⟩ := mm_chk_e hck
      obtain ⟨r1, r2⟩ := hrm
      have hm := hcall mi M1 hM1 As w _ hg ad
      refine mm_after (run M1 _ _ hM1 hm (mm_Pc_blind D B0 sad tb ad As w) hPc h8 (by omega) (by omega)) hS (fun st₀ t oc h => h.2) (fun v st₀ t H1 locs1 ht hvm hq hS1 => ?_)
      obtain ⟨⟨o, w', ad', hv, ⟨hww, hsl, hKq⟩, had, hH1⟩, -⟩ := hq
      cases hv
      rw [ht] at hH1
      have hold : ∀ j, j < w.1.length → ad' j = ad j := fun j hj => had j (Or.inl hj)
      have hres := hk _ w' ad' H1 locs1 (cells + mm_Mk M1) (slots + mm_Ms M1) hKq (by
        refine ⟨fun k hk => ?_, by omega, by omega, by omega, hH1.moved hvm.symm, hS1, mm_Lr_old c1 hold oL, by omega, by omega⟩
        rw [hww] at hk
        rw [had k (by omega), o1 k (by omega)])
      rw [List.map_append, mm_st_old c2 hold] at hres
      cases o <;> exact hres
  · exact hg.elim
end MMC
end
section
/-! ===== the three kinds of calls ===== -/
theorem mm_good {ws : List Cond} (h : ∀ w ∈ ws, w ∈ mm_GW) : GoodIn mm_GW ws := fun w hw => mm_GW_g w (h w hw)
theorem mm_wd_in {M : mm_M} (h : mm_ckh M = true) : ∀ w ∈ mm_wd M, w ∈ mm_GW := by
  intro w hw
  simp only [mm_ckh, Bool.and_eq_true] at h
  rcases List.mem_cons.mp hw with rfl | hw
  · exact mm_at_in h.1.1.1.2
  · exact hw
theorem mm_nMH_e {c : String} (h : mm_nMH c = true) : c ≠ "java/lang/invoke/MethodHandle" ∧ c ≠ "java/lang/invoke/VarHandle" := by
  simp only [mm_nMH, Bool.and_eq_true, decide_eq_true_eq] at h
  exact h
theorem mm_ckh_e {M : mm_M} (h : mm_ckh M = true) : plainName (mm_My M).cls = true ∧ ((mm_My M).cls ≠ "java/lang/invoke/MethodHandle" ∧ (mm_My M).cls ≠ "java/lang/invoke/VarHandle") ∧ mm_Ml M ≤ 20 ∧ (parseMethodDescriptor (mm_My M).desc).map (fun d => d.parameters.length) = some (mm_Mn M) := by
  simp only [mm_ckh, Bool.and_eq_true, decide_eq_true_eq] at h
  exact ⟨h.1.1.1.1.1, mm_nMH_e h.1.1.1.1.2, h.1.1.2, h.2⟩
section MMI
variable {p : Program} {l : Launch} {e : Env} {R : Room} {s : State} {m : MethodId} {args : Array Value} {below : List Frame} {meth : Method} {c : Code} {Qf : State → Prop}
variable {D : va_G} {B0 : Nat} {sad : Nat → Nat} {n0 : Nat} {ad0 : Nat → Nat} {lim : Nat × Nat} {M M' : mm_M} {ms : List mm_M} {tb : mm_T} {call : mm_F} {Q : Option mm_V → mm_W → Prop} {d : Nat}
variable {nL : Nat} {ad : Nat → Nat} {H : Heap} {locs : List Loc} {cells slots : Nat} {la : Array Slot} {ls : List (Option mm_V)} {w : mm_W}
theorem mm_room {pc : Nat} {rest : List mm_V} {st : List Value} (h : mm_cs rest ≤ 8) : 2 * (F0 m pc la st).monitorRoom + ((rest.map (mm_cv ad sad)).map fun v => v.category).sum ≤ 8 := lv_room (by rw [mm_cs_cat]; exact h)
theorem mm_ivs_s (hx : p.tables.exec = Jvm.exec) (hb : c.code = mm_Mb M) (hml : c.maxLocals = nL) (hown : s.vm.findClass (mm_My M).cls = some m.cls) (hts : ∀ w ∈ mm_GW, w.before args s = true) (hSx : mm_Sx tb sad B0 s s.heap) (hB : B0 ≤ s.heap.size) (hcall : mm_callOk l D B0 sad tb ms d call) (hM : ∀ (mi : Nat) (M' : mm_M), ms[mi]? = some M' → mm_ckh M' = true) (hfr : d + 1 ≤ R.frames) (hlo : 40 * (d + 1) ≤ R.locals)
    {pc idx g : Nat} {ax : List (Nat × Nat)} {ps : List (List Nat)} {st : List mm_V} {K : List mm_V → mm_W → Prop} (hd : decode (mm_Mb M) pc = .ok (.invokestatic idx, 3)) (hck : mm_ck1 ms (mm_My M) nL pc (.invokestatic idx) 3 ax ps g 0 0 = true) (hg : mm_ivs call ms lim ax g ls st w K) (O : mm_Ok D B0 sad n0 ad0 lim R s nL ad H locs cells slots la ls w)
    (hk : ∀ q w' ad' H1 locs1 cells1 slots1, K q w' → mm_Ok D B0 sad n0 ad0 lim R s nL ad' H1 locs1 cells1 slots1 la ls w' → W p l e R s m args below meth c H1 locs1 cells1 slots1 Qf (F0 m (pc + 3) la (q.map (mm_cv ad' sad)))) : W p l e R s m args below meth c H locs cells slots Qf (F0 m pc la (st.map (mm_cv ad sad))) := by
  unfold mm_ivs at hg
  split at hg
  · rename_i a mi axr x1 As rest hsp
    obtain ⟨hst, hlen⟩ := mm_sp_st hsp
    refine mm_invk hml hSx hB hcall hg O (hM _) (fun M1 Pc Qc hM1 hmet hbl hpc h8 hc1 hc2 => ?_) hk
    simp only [mm_ck1, Bool.and_eq_true] at hck
    obtain ⟨-, hck⟩ := hck
    split at hck
    · rename_i a2 mi2 axr2 p0 p1 p2 e1
      cases e1
      rw [hM1] at hck
      simp only [Bool.and_eq_true, decide_eq_true_eq] at hck
      obtain ⟨⟨⟨hn, w1⟩, w2⟩, w0⟩ := hck
      have hh := hM _ _ hM1
      obtain ⟨k1, k2, k3, k4⟩ := mm_ckh_e hh
      have hsk : st.map (mm_cv ad sad) = (As.map (mm_cv ad sad)).reverse ++ rest.map (mm_cv ad sad) := by rw [hst, List.map_append, List.map_reverse]
      have hR : d + 1 ≤ R.frames ∧ 8 + (mm_Ml M1 + 11) + 40 * d ≤ R.locals := ⟨hfr, by omega⟩
      split at w0
      · have hG : GoodIn mm_GW (va_wsS (mm_My M).cls idx (mm_My M1) (mm_wd M1)) := mm_good (by
          intro w hw
          unfold va_wsS at hw
          simp only [List.cons_append, List.nil_append, List.mem_cons] at hw
          rcases hw with rfl | rfl | rfl | hw
          · exact mm_at_in w0
          · exact mm_at_in w1
          · exact mm_at_in w2
          · exact mm_wd_in hh _ hw)
        exact va_runS (As := As.map (mm_cv ad sad)) (rest := rest.map (mm_cv ad sad)) ⟨hx, hb, hml, hown, hts⟩ hmet (va_cwS g hts hG rfl rfl rfl ⟨k2.1, k2.2, by rw [k4, hn]⟩ hR) ⟨hbl, hpc⟩ rfl (by rw [List.length_map, hlen]) O.2.2.2.2.2.2.1.1 hsk (mm_room h8) hd ⟨hc1, hc2⟩
      · split at w0
        · rename_i h hp0
          exact va_runSN (As := As.map (mm_cv ad sad)) (rest := rest.map (mm_cv ad sad)) ⟨hx, hb, hml, hown, hts⟩ hmet ⟨va_cnB g hts (mm_good (mm_wd_in hh)) rfl rfl rfl (hSx.2.2 p0 _ w0) (hts _ (mm_at_in w2)) ⟨k2.1, k2.2, by rw [k4, hn]⟩ hR, hts _ (mm_at_in w1), trivial⟩ ⟨hbl, hpc⟩ rfl (by rw [List.length_map, hlen]) O.2.2.2.2.2.2.1.1 hsk (mm_room h8) hd ⟨hc1, hc2⟩
        · cases w0
    · cases hck
  · exact hg.elim
theorem mm_ivi_s (hx : p.tables.exec = Jvm.exec) (hb : c.code = mm_Mb M) (hml : c.maxLocals = nL) (hown : s.vm.findClass (mm_My M).cls = some m.cls) (hts : ∀ w ∈ mm_GW, w.before args s = true) (hSx : mm_Sx tb sad B0 s s.heap) (hB : B0 ≤ s.heap.size) (hcall : mm_callOk l D B0 sad tb ms d call) (hM : ∀ (mi : Nat) (M' : mm_M), ms[mi]? = some M' → mm_ckh M' = true) (hfr : d + 1 ≤ R.frames) (hlo : 40 * (d + 1) ≤ R.locals)
    {pc idx g : Nat} {ax : List (Nat × Nat)} {ps : List (List Nat)} {st : List mm_V} {K : List mm_V → mm_W → Prop} (hd : decode (mm_Mb M) pc = .ok (.invokespecial idx, 3)) (hck : mm_ck1 ms (mm_My M) nL pc (.invokespecial idx) 3 ax ps g 0 0 = true) (hg : mm_ivi call ms lim ax g ls st w K) (O : mm_Ok D B0 sad n0 ad0 lim R s nL ad H locs cells slots la ls w)
    (hk : ∀ q w' ad' H1 locs1 cells1 slots1, K q w' → mm_Ok D B0 sad n0 ad0 lim R s nL ad' H1 locs1 cells1 slots1 la ls w' → W p l e R s m args below meth c H1 locs1 cells1 slots1 Qf (F0 m (pc + 3) la (q.map (mm_cv ad' sad)))) : W p l e R s m args below meth c H locs cells slots Qf (F0 m pc la (st.map (mm_cv ad sad))) := by
  unfold mm_ivi at hg
  split at hg
  · rename_i a mi axr x1 As r rest hsp
    obtain ⟨hst, hlen⟩ := mm_sp_st hsp
    refine mm_invk hml hSx hB hcall hg O (hM _) (fun M1 Pc Qc hM1 hmet hbl hpc h8 hc1 hc2 => ?_) hk
    simp only [mm_ck1, Bool.and_eq_true] at hck
    obtain ⟨-, hck⟩ := hck
    split at hck
    · rename_i e1
      cases e1
    · rename_i a2 mi2 axr2 p0 p1 p2 e1
      cases e1
      rw [hM1] at hck
      simp only [Bool.and_eq_true, decide_eq_true_eq] at hck
      obtain ⟨⟨⟨⟨⟨hn, hnm⟩, hrt⟩, w1⟩, w2⟩, w0⟩ := hck
      have hh := hM _ _ hM1
      obtain ⟨k1, k2, k3, k4⟩ := mm_ckh_e hh
      have hG : GoodIn mm_GW (mm_wd M1) := mm_good (mm_wd_in hh)
      have hw : mm_wd M1 = Cond.code (mm_My M1) (mm_Mb M1) (mm_Ml M1) none :: mm_GW := by rw [← hrt]; rfl
      have hstk : st.map (mm_cv ad sad) = (As.map (mm_cv ad sad)).reverse ++ Value.ref (ad r) :: rest.map (mm_cv ad sad) := by
        rw [hst, List.map_append, List.map_reverse]
        rfl
      have hR : d + 1 ≤ R.frames ∧ 8 + (mm_Ml M1 + 11) + 40 * d ≤ R.locals := ⟨hfr, by omega⟩
      split at w0
      · exact va_runI (As := As.map (mm_cv ad sad)) (b := ad r) (rest := rest.map (mm_cv ad sad)) ⟨hx, hb, hml, hown, hts⟩ hmet (cwI g hts hG hw rfl rfl (hts _ (mm_at_in w2)) (hts _ (mm_at_in w0)) (hts _ (mm_at_in w1)) hnm ⟨k2.1, k2.2, by rw [k4, hn]⟩ hR) ⟨hbl, hpc⟩ rfl (by rw [List.length_map, hlen]) O.2.2.2.2.2.2.1.1 hstk (mm_room h8) hd ⟨hc1, hc2⟩
      · split at w0
        · rename_i h hp0
          have hz := hSx.2.2 p0 _ w0
          exact va_runIN (As := As.map (mm_cv ad sad)) (b := ad r) (rest := rest.map (mm_cv ad sad)) ⟨hx, hb, hml, hown, hts⟩ hmet ⟨va_cnB g hts hG hw rfl rfl hz (hts _ (mm_at_in w2)) ⟨k2.1, k2.2, by rw [k4, hn]⟩ hR, hnm, hts _ (mm_at_in w1)⟩ ⟨hbl, hpc⟩ rfl (by rw [List.length_map, hlen]) O.2.2.2.2.2.2.1.1 hstk (mm_room h8) hd ⟨hc1, hc2⟩
        · cases w0
    · cases hck
  · rename_i x1 As r rest hsp
    obtain ⟨hst, hlen⟩ := mm_sp_st hsp
    split at hg
    · rename_i hble
      have h8 : mm_cs rest ≤ 8 := Nat.le_of_ble_eq_true hble
      simp only [mm_ck1, Bool.and_eq_true] at hck
      obtain ⟨-, hck⟩ := hck
      split at hck
      · rename_i p0 p1 p2 e1
        simp only [Bool.and_eq_true, decide_eq_true_eq] at hck
        obtain ⟨⟨⟨hg0, w0⟩, w1⟩, w2⟩ := hck
        have hAs : As = [] := List.length_eq_zero_iff.mp (by rw [hlen, hg0])
        have hst2 : st.map (mm_cv ad sad) = Value.ref (ad r) :: rest.map (mm_cv ad sad) := by
          rw [hst, hAs]
          rfl
        rw [hst2]
        have h12 := mm_room (m := m) (pc := pc) (la := la) (ad := ad) (sad := sad) (st := Value.ref (ad r) :: rest.map (mm_cv ad sad)) h8
        refine W.objInit hx hb hown (hts _ (mm_at_in w0)) (hts _ (mm_at_in w1)) (hts _ (mm_at_in w2)) rfl (by rw [hml]; exact O.2.2.2.2.2.2.1.1) rfl hd (by omega) (by omega) ?_
        exact hk rest w ad H locs cells slots hg O
      · rename_i e1
        cases e1
      · cases hck
    · exact hg.elim
  · exact hg.elim
theorem mm_ckvs_in {y : MethodName} {idx g : Nat} : ∀ {qs : List (Nat × Nat)} {ps : List (List Nat)} {q : Nat × Nat}, mm_ckvs ms y idx g qs ps = true → q ∈ qs → ∃ pl, mm_ckv ms y idx g q pl = true
  | [], _, _, _, hq => by cases hq
  | q :: qs, [], _, h, _ => by simp [mm_ckvs] at h
  | q :: qs, pl :: ps, q1, h, hq => by
    simp only [mm_ckvs, Bool.and_eq_true] at h
    rcases List.mem_cons.mp hq with rfl | hq
    · exact ⟨pl, h.1⟩
    · exact mm_ckvs_in h.2 hq
theorem mm_ivv_s (hx : p.tables.exec = Jvm.exec) (hb : c.code = mm_Mb M) (hml : c.maxLocals = nL) (hown : s.vm.findClass (mm_My M).cls = some m.cls) (hts : ∀ w ∈ mm_GW, w.before args s = true) (hSx : mm_Sx tb sad B0 s s.heap) (hB : B0 ≤ s.heap.size) (hcall : mm_callOk l D B0 sad tb ms d call) (hM : ∀ (mi : Nat) (M' : mm_M), ms[mi]? = some M' → mm_ckh M' = true) (hfr : d + 1 ≤ R.frames) (hlo : 40 * (d + 1) ≤ R.locals)
    {pc idx g : Nat} {ax : List (Nat × Nat)} {ps : List (List Nat)} {st : List mm_V} {K : List mm_V → mm_W → Prop} (hd : decode (mm_Mb M) pc = .ok (.invokevirtual idx, 3)) (hck : mm_ckvs ms (mm_My M) idx g ax ps = true) (hg : mm_ivv call ms lim ax g ls st w K) (O : mm_Ok D B0 sad n0 ad0 lim R s nL ad H locs cells slots la ls w)
    (hk : ∀ q w' ad' H1 locs1 cells1 slots1, K q w' → mm_Ok D B0 sad n0 ad0 lim R s nL ad' H1 locs1 cells1 slots1 la ls w' → W p l e R s m args below meth c H1 locs1 cells1 slots1 Qf (F0 m (pc + 3) la (q.map (mm_cv ad' sad)))) : W p l e R s m args below meth c H locs cells slots Qf (F0 m pc la (st.map (mm_cv ad sad))) := by
  unfold mm_ivv at hg
  split at hg
  · rename_i As r rest hsp
    obtain ⟨hst, hlen⟩ := mm_sp_st hsp
    split at hg
    · rename_i ci fs hr
      split at hg
      · rename_i mi hmi
        obtain ⟨pl, hq⟩ := mm_ckvs_in hck (mm_fi_in hmi)
        refine mm_invk hml hSx hB hcall hg O (hM _) (fun M1 Pc Qc hM1 hmet hbl hpc h8 hc1 hc2 => ?_) hk
        obtain ⟨ca, tys, hK, hP, hD, hct⟩ := O.2.2.2.2.1
        have hh := hM _ _ hM1
        obtain ⟨k1, k2, k3, k4⟩ := mm_ckh_e hh
        have hG : ∀ w ∈ mm_wd M1, w ∈ mm_GW := mm_wd_in hh
        have hstk : st.map (mm_cv ad sad) = (As.map (mm_cv ad sad)).reverse ++ Value.ref (ad r) :: rest.map (mm_cv ad sad) := by
          rw [hst, List.map_append, List.map_reverse]
          rfl
        have hR : d + 1 ≤ R.frames ∧ 8 + (mm_Ml M1 + 11) + 40 * d ≤ R.locals := ⟨hfr, by omega⟩
        have hsz : la.size = nL := O.2.2.2.2.2.2.1.1
        unfold mm_ckv at hq
        split at hq
        · rename_i C T N M2 hC hM2
          dsimp only at hC hM2
          have : M2 = M1 := Option.some.inj (hM2.symm.trans hM1)
          subst this
          have hrecv := va_recv hK hP hC (mm_ws_at (ad := ad) (ca := ca) hr)
          simp only [Bool.and_eq_true, decide_eq_true_eq] at hq
          obtain ⟨hn, hq⟩ := hq
          have h4 : (parseMethodDescriptor (mm_My M2).desc).map (fun d => d.parameters.length) = some g := by rw [k4, hn]
          split at hq
          · rename_i p0 p1 p2 p3
            simp only [Bool.and_eq_true, decide_eq_true_eq] at hq
            obtain ⟨⟨⟨⟨hyC, w0⟩, w1⟩, w2⟩, w3⟩ := hq
            have hGI : GoodIn mm_GW (wsV (mm_My M).cls idx C (mm_My M2) (mm_wd M2)) := mm_good (by
              intro w hw
              unfold wsV at hw
              simp only [List.cons_append, List.nil_append, List.mem_cons] at hw
              rcases hw with rfl | rfl | rfl | rfl | hw
              · exact mm_at_in w0
              · exact mm_at_in w1
              · exact mm_at_in w2
              · exact mm_at_in w3
              · exact hG _ hw)
            exact va_runV (As := As.map (mm_cv ad sad)) (b := ad r) (C := C) (rest := rest.map (mm_cv ad sad)) ⟨hx, hb, hml, hown, hts⟩ hmet (cwV g hts hGI rfl rfl rfl ⟨hyC, k2.1, k2.2, h4⟩ hR) ⟨hbl, hrecv, hpc⟩ rfl (by rw [List.length_map, hlen]) hsz hstk (mm_room h8) hd ⟨hc1, hc2⟩
          · rename_i p0 p1 p2 p3 p4
            split at hq
            · rename_i o1 o2 x o3 o o4 o5 e0 e1
              simp only [Bool.and_eq_true, decide_eq_true_eq] at hq
              obtain ⟨⟨⟨⟨⟨⟨w0, w1⟩, w2⟩, w3⟩, w4⟩, hy⟩, hnM⟩ := hq
              have hGI : GoodIn mm_GW (va_wsU (mm_My M).cls idx C o x (mm_My M2) (mm_wd M2)) := mm_good (by
                intro w hw
                unfold va_wsU at hw
                simp only [List.cons_append, List.nil_append, List.mem_cons] at hw
                rcases hw with rfl | rfl | rfl | rfl | rfl | hw
                · exact mm_at_in w0
                · exact mm_at_in w1
                · exact mm_at_in w2
                · exact mm_at_in w3
                · exact mm_at_in w4
                · exact hG _ hw)
              have hxd : x.desc = (mm_My M2).desc := by rw [hy]
              exact va_runU (As := As.map (mm_cv ad sad)) (b := ad r) (C := C) (owner := o) (rest := rest.map (mm_cv ad sad)) ⟨hx, hb, hml, hown, hts⟩ hmet (va_cwU g hts hGI rfl rfl rfl hy ⟨(mm_nMH_e hnM).1, (mm_nMH_e hnM).2, by rw [hxd]; exact h4⟩ hR) ⟨hbl, hrecv, hpc⟩ rfl (by rw [List.length_map, hlen]) hsz hstk (mm_room h8) hd ⟨hc1, hc2⟩
            · cases hq
          · rename_i p0 p1 p2 p3 p4 p5
            split at hq
            · rename_i o1 o2 x o3 o o4 o5 e0 e1
              simp only [Bool.and_eq_true, decide_eq_true_eq] at hq
              obtain ⟨⟨⟨⟨⟨⟨⟨w0, w1⟩, w2⟩, w3⟩, w4⟩, w5⟩, hy⟩, hnM⟩ := hq
              have hGI : GoodIn mm_GW (va_wsU (mm_My M).cls idx C o x (mm_My M2) (mm_wd M2)) := mm_good (by
                intro w hw
                unfold va_wsU at hw
                simp only [List.cons_append, List.nil_append, List.mem_cons] at hw
                rcases hw with rfl | rfl | rfl | rfl | rfl | hw
                · exact mm_at_in w0
                · exact mm_at_in w1
                · exact mm_at_in w2
                · exact mm_at_in w3
                · exact mm_at_in w4
                · exact hG _ hw)
              exact va_runU (As := As.map (mm_cv ad sad)) (b := ad r) (C := C) (owner := o) (rest := rest.map (mm_cv ad sad)) ⟨hx, hb, hml, hown, hts⟩ hmet (va_cwA g hts hGI rfl rfl rfl (hSx.2.2 p5 _ w5) ⟨(mm_nMH_e hnM).1, (mm_nMH_e hnM).2, by rw [← hy]; exact h4⟩ hR) ⟨hbl, hrecv, hpc⟩ rfl (by rw [List.length_map, hlen]) hsz hstk (mm_room h8) hd ⟨hc1, hc2⟩
            · cases hq
          · cases hq
        · cases hq
      · exact hg.elim
    · exact hg.elim
  · exact hg.elim
end MMI
end
section
/-! ===== a step of the abstract machine is a step of the machine ===== -/
/-- multianewarray, as the rest of the rows want it (shown further on) -/
def mm_mnaL (p : Program) (l : Launch) (e : Env) (R : Room) (s : State) (m : MethodId) (args : Array Value) (below : List Frame) (meth : Method) (c : Code) (Qf : State → Prop) (D : va_G) (B0 : Nat) (sad : Nat → Nat) (n0 : Nat) (ad0 : Nat → Nat) (lim : Nat × Nat) (nL : Nat) (y : MethodName) (bytes : ByteArray) : Prop :=
  ∀ (pc idx t p0 p1 p2 : Nat) (a : Nat) (axr : List (Nat × Nat)) (ad : Nat → Nat) (H : Heap) (locs : List Loc) (cells slots : Nat) (la : Array Slot) (ls : List (Option mm_V)) (st : List mm_V) (w : mm_W) (K : mm_V → List mm_V → mm_W → Prop), decode bytes pc = .ok (.multianewarray idx 2, 4) → mm_at p0 (.classLink y.cls idx ("[" ++ (FieldType.array (mm_ty t)).toString)) = true → mm_at p1 (.arrayClass (mm_ty t)) = true → mm_az p2 (.arrayOver (.array (mm_ty t))) = true → t < 2 → mm_nmu lim ((t, a) :: axr) ls st w K → mm_Ok D B0 sad n0 ad0 lim R s nL ad H locs cells slots la ls w →
    (∀ v q w' ad' H1 cells1 slots1, K v q w' → mm_Ok D B0 sad n0 ad0 lim R s nL ad' H1 locs cells1 slots1 la ls w' → W p l e R s m args below meth c H1 locs cells1 slots1 Qf (F0 m (pc + 4) la ((v :: q).map (mm_cv ad' sad)))) → W p l e R s m args below meth c H locs cells slots Qf (F0 m pc la (st.map (mm_cv ad sad)))
section MMT
variable {p : Program} {l : Launch} {e : Env} {R : Room} {s : State} {m : MethodId} {args : Array Value} {below : List Frame} {meth : Method} {c : Code} {Qf : State → Prop}
variable {D : va_G} {B0 : Nat} {sad : Nat → Nat} {n0 : Nat} {ad0 : Nat → Nat} {lim : Nat × Nat} {M : mm_M} {ms : List mm_M} {tb : mm_T} {call : mm_F} {Q : Option mm_V → mm_W → Prop} {d : Nat}
set_option maxHeartbeats 4000000 in
theorem mm_step (hx : p.tables.exec = Jvm.exec) (hb : c.code = mm_Mb M) (hml : c.maxLocals = mm_Ml M) (hown : s.vm.findClass (mm_My M).cls = some m.cls) (hts : ∀ w ∈ mm_GW, w.before args s = true) (hcw : ∀ (ci : Nat) (q : vw_C), mm_cl[ci]? = some q → ∀ w ∈ u_ws q.1 q.2.1 q.2.2, w ∈ mm_GW) (hinit : (mm_My M).name = "<init>" → meth.name = "<init>") (hSx : mm_Sx tb sad B0 s s.heap) (hB : B0 ≤ s.heap.size) (hcall : mm_callOk l D B0 sad tb ms d call) (hM : ∀ (mi : Nat) (M' : mm_M), ms[mi]? = some M' → mm_ckh M' = true) (hfr : d + 1 ≤ R.frames) (hlo : 40 * (d + 1) ≤ R.locals) (hck0 : mm_cks ms (mm_My M) (mm_Mb M) (mm_Ml M) 0 (mm_Mc M) = true)
    (hmna : mm_mnaL p l e R s m args below meth c Qf D B0 sad n0 ad0 lim (mm_Ml M) (mm_My M) (mm_Mb M))
    (hret : ∀ (pc : Nat) (o : Option mm_V) (w : mm_W) (ad : Nat → Nat) (H : Heap) (locs : List Loc) (cells slots : Nat) (la : Array Slot) (ls : List (Option mm_V)), mm_rti M pc o → Q o w → mm_Ok D B0 sad n0 ad0 lim R s (mm_Ml M) ad H locs cells slots la ls w → W p l e R s m args below meth c H locs cells slots Qf (F0 m pc la (o.toList.map (mm_cv ad sad))))
    (pc : Nat) (ls : List (Option mm_V)) (st : List mm_V) (w : mm_W) (h : mm_stp call ms tb M lim Q (mm_Rel p l e R s m args below meth c Qf D B0 sad n0 ad0 lim (mm_Ml M)) pc ls st w) : mm_Rel p l e R s m args below meth c Qf D B0 sad n0 ad0 lim (mm_Ml M) pc ls st w := by
  intro ad H locs cells slots la O
  have hck := mm_cks_at (mm_Mc M) 0 pc hck0
  rw [Nat.zero_add] at hck
  unfold mm_stp at h
  have hL := O.2.2.2.2.2.2.1
  have hH := O.2.2.2.2.1
  have hS := O.2.2.2.2.2.1
  generalize (mm_Mc M).getD pc mm_nop = e0 at h hck
  obtain ⟨i, len, ax, ps, g, c1, c8⟩ := e0
  dsimp only at h
  cases i with
  | iconst n =>
    simp only [mm_ck, mm_ck1, Bool.and_eq_true, decide_eq_true_eq] at hck
    obtain ⟨hd, rfl, hc⟩ := hck
    exact lv_iconst hx hb hd hc (h ad H locs cells slots la O)
  | bipush n =>
    simp only [mm_ck, mm_ck1, Bool.and_eq_true, decide_eq_true_eq] at hck
    obtain ⟨hd, rfl, hc⟩ := hck
    exact lv_bipush hx hb hd hc (h ad H locs cells slots la O)
  | sipush n =>
    simp only [mm_ck, mm_ck1, Bool.and_eq_true, decide_eq_true_eq] at hck
    obtain ⟨hd, rfl, hc⟩ := hck
    exact lv_sipush hx hb hd hc (h ad H locs cells slots la O)
  | ldc n =>
    simp only [mm_ck, mm_ck1, Bool.and_eq_true, decide_eq_true_eq] at hck
    obtain ⟨hd, rfl, hc⟩ := hck
    split at hc
    · exact lv_ldc hx hb hown (hts _ (mm_at_in hc)) hd (h ad H locs cells slots la O)
    · cases hc
  | lconst n =>
    simp only [mm_ck, mm_ck1, Bool.and_eq_true, decide_eq_true_eq] at hck
    obtain ⟨hd, rfl, hc⟩ := hck
    exact lv_lconst hx hb hd hc (h ad H locs cells slots la O)
  | ldc2_w n =>
    simp only [mm_ck, mm_ck1, Bool.and_eq_true, decide_eq_true_eq] at hck
    obtain ⟨hd, rfl, hc⟩ := hck
    split at hc
    · exact lv_ldc2 hx hb hown (hts _ (mm_at_in hc)) hd (h ad H locs cells slots la O)
    · cases hc
  | iload k =>
    simp only [mm_ck, mm_ck1, Bool.and_eq_true, decide_eq_true_eq] at hck
    obtain ⟨hd, rfl, rfl⟩ := hck
    obtain ⟨x, hv, hk⟩ := mm_oI_e h
    exact lv_iload hx hb hd (mm_Lr_at hL hv) (hk ad H locs cells slots la O)
  | iload_n k =>
    simp only [mm_ck, mm_ck1, Bool.and_eq_true, decide_eq_true_eq] at hck
    obtain ⟨hd, rfl, hg⟩ := hck
    obtain ⟨x, hv, hk⟩ := mm_oI_e h
    exact lv_iload_n hx hb hd hg (mm_Lr_at hL hv) (hk ad H locs cells slots la O)
  | lload k =>
    simp only [mm_ck, mm_ck1, Bool.and_eq_true, decide_eq_true_eq] at hck
    obtain ⟨hd, rfl, rfl⟩ := hck
    obtain ⟨x, hv, hk⟩ := mm_oL_e h
    exact lv_lload hx hb hd (mm_Lr_at hL hv) (hk ad H locs cells slots la O)
  | lload_n k =>
    simp only [mm_ck, mm_ck1, Bool.and_eq_true, decide_eq_true_eq] at hck
    obtain ⟨hd, rfl, hg⟩ := hck
    obtain ⟨x, hv, hk⟩ := mm_oL_e h
    exact lv_lload_n hx hb hd hg (mm_Lr_at hL hv) (hk ad H locs cells slots la O)
  | aload k =>
    simp only [mm_ck, mm_ck1, Bool.and_eq_true, decide_eq_true_eq] at hck
    obtain ⟨hd, rfl, rfl⟩ := hck
    obtain ⟨v, hv, hk⟩ := mm_oA_e h
    have hl := mm_Lr_at hL hv
    have hkk := hk ad H locs cells slots la O
    rcases v with x | x | x
    · exact lv_aload hx hb hd hl hkk
    · exact lv_aload hx hb hd hl hkk
    · exact lv_aloadN hx hb hd hl hkk
  | aload_n k =>
    simp only [mm_ck, mm_ck1, Bool.and_eq_true, decide_eq_true_eq] at hck
    obtain ⟨hd, rfl, hg⟩ := hck
    obtain ⟨v, hv, hk⟩ := mm_oA_e h
    have hl := mm_Lr_at hL hv
    have hkk := hk ad H locs cells slots la O
    rcases v with x | x | x
    · exact lv_aload_n hx hb hd hg hl hkk
    · exact lv_aload_n hx hb hd hg hl hkk
    · exact lv_aload_nN hx hb hd hg hl hkk
  | istore k =>
    simp only [mm_ck, mm_ck1, Bool.and_eq_true, decide_eq_true_eq] at hck
    obtain ⟨hd, ⟨rfl, rfl⟩, hn⟩ := hck
    obtain ⟨x, r, rfl, hk⟩ := mm_1i_e h
    exact lv_istore hx hb hd hL hn rfl (fun la' hl' => hk ad H locs cells slots la' (O.st1 (mm_lv_weak hl' (mm_s1_lv ad sad ls k (mm_I x)))))
  | istore_n k =>
    simp only [mm_ck, mm_ck1, Bool.and_eq_true, decide_eq_true_eq] at hck
    obtain ⟨hd, ⟨rfl, hg⟩, hn⟩ := hck
    obtain ⟨x, r, rfl, hk⟩ := mm_1i_e h
    exact lv_istore_n hx hb hd hg hL hn rfl (fun la' hl' => hk ad H locs cells slots la' (O.st1 (mm_lv_weak hl' (mm_s1_lv ad sad ls g (mm_I x)))))
  | lstore k =>
    simp only [mm_ck, mm_ck1, Bool.and_eq_true, decide_eq_true_eq] at hck
    obtain ⟨hd, ⟨rfl, rfl⟩, hn⟩ := hck
    obtain ⟨x, r, rfl, hk⟩ := mm_1l_e h
    exact lv_lstore hx hb hd hL hn rfl (fun la' hl' => hk ad H locs cells slots la' (O.st1 (mm_lv_weak hl' (mm_s2_lv ad sad ls k (mm_L x)))))
  | lstore_n k =>
    simp only [mm_ck, mm_ck1, Bool.and_eq_true, decide_eq_true_eq] at hck
    obtain ⟨hd, ⟨rfl, hg⟩, hn⟩ := hck
    obtain ⟨x, r, rfl, hk⟩ := mm_1l_e h
    exact lv_lstore_n hx hb hd hg hL hn rfl (fun la' hl' => hk ad H locs cells slots la' (O.st1 (mm_lv_weak hl' (mm_s2_lv ad sad ls g (mm_L x)))))
  | astore k =>
    simp only [mm_ck, mm_ck1, Bool.and_eq_true, decide_eq_true_eq] at hck
    obtain ⟨hd, ⟨rfl, rfl⟩, hn⟩ := hck
    obtain ⟨x, r, rfl, hk⟩ := mm_1r_e h
    exact lv_astore hx hb hd hL hn rfl (fun la' hl' => hk ad H locs cells slots la' (O.st1 (mm_lv_weak hl' (mm_s1_lv ad sad ls k (mm_R x)))))
  | astore_n k =>
    simp only [mm_ck, mm_ck1, Bool.and_eq_true, decide_eq_true_eq] at hck
    obtain ⟨hd, ⟨rfl, hg⟩, hn⟩ := hck
    obtain ⟨x, r, rfl, hk⟩ := mm_1r_e h
    exact lv_astore_n hx hb hd hg hL hn rfl (fun la' hl' => hk ad H locs cells slots la' (O.st1 (mm_lv_weak hl' (mm_s1_lv ad sad ls g (mm_R x)))))
  | iinc k n =>
    simp only [mm_ck, mm_ck1, Bool.and_eq_true, decide_eq_true_eq] at hck
    obtain ⟨hd, ⟨⟨rfl, rfl⟩, hn⟩, hc⟩ := hck
    obtain ⟨x, hv, hk⟩ := mm_oI_e h
    obtain ⟨k9, hk9⟩ := List.getElem?_of_mem (mm_lv_mem.mpr ⟨_, mm_getD hv, rfl⟩ : (k, Value.int x) ∈ mm_lv ad sad ls)
    exact lv_iinc (v := x + c1) hx hb hd hL hk9 (by rw [hc]) hn rfl (fun la' hl' => hk ad H locs cells slots la' (O.st1 (mm_lv_weak hl' (mm_s1_lv ad sad ls k (mm_I (x + c1))))))
  | iadd =>
    simp only [mm_ck, mm_ck1, Bool.and_eq_true, decide_eq_true_eq] at hck
    obtain ⟨hd, rfl⟩ := hck
    obtain ⟨x, y, r, rfl, hk⟩ := mm_2i_e h
    exact lv_iadd hx hb hd (hk ad H locs cells slots la O)
  | isub =>
    simp only [mm_ck, mm_ck1, Bool.and_eq_true, decide_eq_true_eq] at hck
    obtain ⟨hd, rfl⟩ := hck
    obtain ⟨x, y, r, rfl, hk⟩ := mm_2i_e h
    exact lv_isub hx hb hd (hk ad H locs cells slots la O)
  | imul =>
    simp only [mm_ck, mm_ck1, Bool.and_eq_true, decide_eq_true_eq] at hck
    obtain ⟨hd, rfl⟩ := hck
    obtain ⟨x, y, r, rfl, hk⟩ := mm_2i_e h
    exact lv_imul hx hb hd (hk ad H locs cells slots la O)
  | irem =>
    simp only [mm_ck, mm_ck1, Bool.and_eq_true, decide_eq_true_eq] at hck
    obtain ⟨hd, rfl⟩ := hck
    obtain ⟨x, y, r, rfl, hne, hk⟩ := mm_2i_e h
    exact lv_irem hx hb hd hne (hk ad H locs cells slots la O)
  | iand =>
    simp only [mm_ck, mm_ck1, Bool.and_eq_true, decide_eq_true_eq] at hck
    obtain ⟨hd, rfl⟩ := hck
    obtain ⟨x, y, r, rfl, hk⟩ := mm_2i_e h
    exact lv_iand hx hb hd (hk ad H locs cells slots la O)
  | ior =>
    simp only [mm_ck, mm_ck1, Bool.and_eq_true, decide_eq_true_eq] at hck
    obtain ⟨hd, rfl⟩ := hck
    obtain ⟨x, y, r, rfl, hk⟩ := mm_2i_e h
    exact lv_ior hx hb hd (hk ad H locs cells slots la O)
  | ixor =>
    simp only [mm_ck, mm_ck1, Bool.and_eq_true, decide_eq_true_eq] at hck
    obtain ⟨hd, rfl⟩ := hck
    obtain ⟨x, y, r, rfl, hk⟩ := mm_2i_e h
    exact lv_ixor hx hb hd (hk ad H locs cells slots la O)
  | ishl =>
    simp only [mm_ck, mm_ck1, Bool.and_eq_true, decide_eq_true_eq] at hck
    obtain ⟨hd, rfl⟩ := hck
    obtain ⟨x, y, r, rfl, hk⟩ := mm_2i_e h
    exact lv_ishl hx hb hd (hk ad H locs cells slots la O)
  | ishr =>
    simp only [mm_ck, mm_ck1, Bool.and_eq_true, decide_eq_true_eq] at hck
    obtain ⟨hd, rfl⟩ := hck
    obtain ⟨x, y, r, rfl, hk⟩ := mm_2i_e h
    exact lv_ishr hx hb hd (hk ad H locs cells slots la O)
  | ladd =>
    simp only [mm_ck, mm_ck1, Bool.and_eq_true, decide_eq_true_eq] at hck
    obtain ⟨hd, rfl⟩ := hck
    obtain ⟨x, y, r, rfl, hk⟩ := mm_2l_e h
    exact lv_ladd hx hb hd (hk ad H locs cells slots la O)
  | lsub =>
    simp only [mm_ck, mm_ck1, Bool.and_eq_true, decide_eq_true_eq] at hck
    obtain ⟨hd, rfl⟩ := hck
    obtain ⟨x, y, r, rfl, hk⟩ := mm_2l_e h
    exact lv_lsub hx hb hd (hk ad H locs cells slots la O)
  | lmul =>
    simp only [mm_ck, mm_ck1, Bool.and_eq_true, decide_eq_true_eq] at hck
    obtain ⟨hd, rfl⟩ := hck
    obtain ⟨x, y, r, rfl, hk⟩ := mm_2l_e h
    exact lv_lmul hx hb hd (hk ad H locs cells slots la O)
  | ldiv =>
    simp only [mm_ck, mm_ck1, Bool.and_eq_true, decide_eq_true_eq] at hck
    obtain ⟨hd, rfl⟩ := hck
    obtain ⟨x, y, r, rfl, hne, hk⟩ := mm_2l_e h
    exact lv_ldiv hx hb hd hne (hk ad H locs cells slots la O)
  | lrem =>
    simp only [mm_ck, mm_ck1, Bool.and_eq_true, decide_eq_true_eq] at hck
    obtain ⟨hd, rfl⟩ := hck
    obtain ⟨x, y, r, rfl, hne, hk⟩ := mm_2l_e h
    exact lv_lrem hx hb hd hne (hk ad H locs cells slots la O)
  | lcmp =>
    simp only [mm_ck, mm_ck1, Bool.and_eq_true, decide_eq_true_eq] at hck
    obtain ⟨hd, rfl⟩ := hck
    obtain ⟨x, y, r, rfl, hk⟩ := mm_2l_e h
    exact W.lcmp hx hb hd (hk ad H locs cells slots la O)
  | i2l =>
    simp only [mm_ck, mm_ck1, Bool.and_eq_true, decide_eq_true_eq] at hck
    obtain ⟨hd, rfl⟩ := hck
    obtain ⟨x, r, rfl, hk⟩ := mm_1i_e h
    exact lv_i2l hx hb hd rfl (hk ad H locs cells slots la O)
  | l2i =>
    simp only [mm_ck, mm_ck1, Bool.and_eq_true, decide_eq_true_eq] at hck
    obtain ⟨hd, rfl⟩ := hck
    obtain ⟨x, r, rfl, hk⟩ := mm_1l_e h
    exact lv_l2i hx hb hd rfl (hk ad H locs cells slots la O)
  | dup =>
    simp only [mm_ck, mm_ck1, Bool.and_eq_true, decide_eq_true_eq] at hck
    obtain ⟨hd, rfl⟩ := hck
    obtain ⟨v, r, rfl, hc, hk⟩ := mm_1c_e h
    exact lv_dup hx hb hd (mm_vcat hc) (hk ad H locs cells slots la O)
  | pop =>
    simp only [mm_ck, mm_ck1, Bool.and_eq_true, decide_eq_true_eq] at hck
    obtain ⟨hd, rfl⟩ := hck
    obtain ⟨v, r, rfl, hc, hk⟩ := mm_1c_e h
    exact lv_pop hx hb hd (mm_vcat hc) (hk ad H locs cells slots la O)
  | dup_x1 =>
    simp only [mm_ck, mm_ck1, Bool.and_eq_true, decide_eq_true_eq] at hck
    obtain ⟨hd, rfl⟩ := hck
    obtain ⟨v, r, rfl, hc, hk⟩ := mm_1c_e h
    obtain ⟨u, q, rfl, hc2, hk⟩ := mm_1c_e hk
    exact lv_dup_x1 hx hb hd (mm_vcat hc) (mm_vcat hc2) (hk ad H locs cells slots la O)
  | dup2 =>
    simp only [mm_ck, mm_ck1, Bool.and_eq_true, decide_eq_true_eq] at hck
    obtain ⟨hd, rfl⟩ := hck
    obtain ⟨v, r, rfl, hc, hk⟩ := mm_1c_e h
    obtain ⟨u, q, rfl, hc2, hk⟩ := mm_1c_e hk
    exact lv_dup2_11 hx hb hd (mm_vcat hc) (mm_vcat hc2) (hk ad H locs cells slots la O)
  | goto o =>
    simp only [mm_ck, mm_ck1, Bool.and_eq_true, decide_eq_true_eq] at hck
    obtain ⟨hd, rfl, hc⟩ := hck
    obtain ⟨a, t, r, rfl, hk⟩ := mm_t1_e h
    simp only [decide_eq_true_eq] at hc
    exact lv_goto hx hb hd hc (hk ad H locs cells slots la O)
  | ifCond cd o =>
    simp only [mm_ck, mm_ck1, Bool.and_eq_true, decide_eq_true_eq] at hck
    obtain ⟨hd, rfl, hc⟩ := hck
    obtain ⟨a, t, r, rfl, hk⟩ := mm_t1_e h
    obtain ⟨x, q, rfl, hk⟩ := mm_1i_e hk
    simp only [decide_eq_true_eq] at hc
    cases cd with
    | eq => exact lv_if_eq hx hb hd hc (fun z => hk.1 z ad H locs cells slots la O) (fun z => hk.2 z ad H locs cells slots la O)
    | ne => exact lv_if_ne hx hb hd hc (fun z => hk.1 z ad H locs cells slots la O) (fun z => hk.2 z ad H locs cells slots la O)
    | lt => exact lv_if_lt hx hb hd hc (fun z => hk.1 z ad H locs cells slots la O) (fun z => hk.2 z ad H locs cells slots la O)
    | ge => exact lv_if_ge hx hb hd hc (fun z => hk.1 z ad H locs cells slots la O) (fun z => hk.2 z ad H locs cells slots la O)
    | gt => exact lv_if_gt hx hb hd hc (fun z => hk.1 z ad H locs cells slots la O) (fun z => hk.2 z ad H locs cells slots la O)
    | le => exact lv_if_le hx hb hd hc (fun z => hk.1 z ad H locs cells slots la O) (fun z => hk.2 z ad H locs cells slots la O)
  | if_icmp cd o =>
    simp only [mm_ck, mm_ck1, Bool.and_eq_true, decide_eq_true_eq] at hck
    obtain ⟨hd, rfl, hc⟩ := hck
    obtain ⟨a, t, r, rfl, hk⟩ := mm_t1_e h
    obtain ⟨x, y, q, rfl, hk⟩ := mm_2i_e hk
    simp only [decide_eq_true_eq] at hc
    cases cd with
    | eq => exact lv_icmp_eq hx hb hd hc (fun z => hk.1 z ad H locs cells slots la O) (fun z => hk.2 z ad H locs cells slots la O)
    | ne => exact lv_icmp_ne hx hb hd hc (fun z => hk.1 z ad H locs cells slots la O) (fun z => hk.2 z ad H locs cells slots la O)
    | lt => exact lv_icmp_lt hx hb hd hc (fun z => hk.1 z ad H locs cells slots la O) (fun z => hk.2 z ad H locs cells slots la O)
    | ge => exact lv_icmp_ge hx hb hd hc (fun z => hk.1 z ad H locs cells slots la O) (fun z => hk.2 z ad H locs cells slots la O)
    | gt => exact lv_icmp_gt hx hb hd hc (fun z => hk.1 z ad H locs cells slots la O) (fun z => hk.2 z ad H locs cells slots la O)
    | le => exact lv_icmp_le hx hb hd hc (fun z => hk.1 z ad H locs cells slots la O) (fun z => hk.2 z ad H locs cells slots la O)
  | tableswitch df lo hi os =>
    simp only [mm_ck, mm_ck1, Bool.and_eq_true, decide_eq_true_eq] at hck
    obtain ⟨hd, hc⟩ := hck
    obtain ⟨x, q, rfl, hk⟩ := mm_1i_e h
    obtain ⟨a, t, ts, rfl, hs, hdf⟩ := mm_cas_e hk
    simp only [Bool.and_eq_true, decide_eq_true_eq] at hc
    obtain ⟨⟨hc1, hc2⟩, hc3⟩ := hc
    by_cases h1 : x.toInt < lo
    · exact lv_tableOut hx hb hd (Or.inl h1) hc1 (mm_df_t os.toList ts lo hc2 hdf (Or.inl h1) ad H locs cells slots la O)
    · by_cases h2 : hi < x.toInt
      · refine lv_tableOut hx hb hd (Or.inr h2) hc1 (mm_df_t os.toList ts lo hc2 hdf (Or.inr ?_) ad H locs cells slots la O)
        rw [Array.length_toList]
        omega
      · obtain ⟨j, hj⟩ : ∃ j : Nat, x.toInt = lo + j := ⟨(x.toInt - lo).toNat, by omega⟩
        have hjl : j < os.size := by omega
        have ho : os.toList[j]? = some os[j] := by rw [Array.getElem?_toList]; exact Array.getElem?_eq_getElem hjl
        obtain ⟨tg, ht, hkk⟩ := mm_sw_t os.toList ts lo j _ hc2 hs ho hj
        exact lv_tableIn hx hb hd h1 h2 (by rw [show (x.toInt - lo).toNat = j by omega]; exact Array.getElem?_eq_getElem hjl) ht (hkk ad H locs cells slots la O)
  | lookupswitch df os =>
    simp only [mm_ck, mm_ck1, Bool.and_eq_true, decide_eq_true_eq] at hck
    obtain ⟨hd, hc⟩ := hck
    obtain ⟨x, q, rfl, hk⟩ := mm_1i_e h
    obtain ⟨a, t, ts, rfl, hs, hdf⟩ := mm_cas_e hk
    simp only [Bool.and_eq_true, decide_eq_true_eq] at hc
    obtain ⟨⟨hc1, hc2⟩, hc3⟩ := hc
    obtain ⟨tg, ht, hkk⟩ := mm_lk hc1 os.toList ts hc2 hs hdf
    exact lv_lookup hx hb hd hc3 rfl ht (hkk ad H locs cells slots la O)
  | getfield idx =>
    simp only [mm_ck, mm_ck1, Bool.and_eq_true, decide_eq_true_eq] at hck
    obtain ⟨hd, rfl, hc⟩ := hck
    obtain ⟨r, q, rfl, hk⟩ := mm_1r_e h
    split at hc
    · exact mm_get (M := M) hx hb hown hts hcw hd hc hk hH (fun v hv => hv ad H locs cells slots la O)
    · cases hc
  | putfield idx =>
    simp only [mm_ck, mm_ck1, Bool.and_eq_true, decide_eq_true_eq] at hck
    obtain ⟨hd, rfl, hc⟩ := hck
    dsimp only at h
    split at h
    · split at hc
      · exact mm_put (M := M) hx hb hown hts hcw hinit hd hc h O (fun w' H1 locs1 hv O1 => hv ad H1 locs1 cells slots la O1)
      · cases hc
    · exact h.elim
  | getstatic idx =>
    simp only [mm_ck, mm_ck1, Bool.and_eq_true, decide_eq_true_eq] at hck
    obtain ⟨hd, rfl, hc⟩ := hck
    obtain ⟨a, j, r, rfl, hk⟩ := mm_t1_e h
    split at hc
    · rename_i a2 j2 ax2 p0 e1
      cases e1
      split at hc
      · rename_i C n ds hj
        exact va_gets hx hb (hSx.2.1 j C n ds hj) hS hown (hts _ (mm_at_in hc)) (fun _ z => z) hd (hk ad H locs cells slots la O)
      · cases hc
    · cases hc
  | iaload =>
    simp only [mm_ck, mm_ck1, Bool.and_eq_true, decide_eq_true_eq] at hck
    obtain ⟨hd, rfl⟩ := hck
    exact mm_iald (M := M) hx hb hSx hS hd h hH (fun v q hv => hv ad H locs cells slots la O)
  | laload =>
    simp only [mm_ck, mm_ck1, Bool.and_eq_true, decide_eq_true_eq] at hck
    obtain ⟨hd, rfl⟩ := hck
    exact mm_lald (M := M) hx hb hSx hS hd h hH (fun v q hv => hv ad H locs cells slots la O)
  | baload =>
    simp only [mm_ck, mm_ck1, Bool.and_eq_true, decide_eq_true_eq] at hck
    obtain ⟨hd, rfl⟩ := hck
    exact mm_zald (M := M) hx hb hd h hH (fun v q hv => hv ad H locs cells slots la O)
  | aaload =>
    simp only [mm_ck, mm_ck1, Bool.and_eq_true, decide_eq_true_eq] at hck
    obtain ⟨hd, rfl⟩ := hck
    exact mm_aald (M := M) hx hb hd h hH (fun v q hv => hv ad H locs cells slots la O)
  | arraylength =>
    simp only [mm_ck, mm_ck1, Bool.and_eq_true, decide_eq_true_eq] at hck
    obtain ⟨hd, rfl⟩ := hck
    exact mm_alen (M := M) hx hb hSx hS hd h hH (fun v q hv => hv ad H locs cells slots la O)
  | iastore =>
    simp only [mm_ck, mm_ck1, Bool.and_eq_true, decide_eq_true_eq] at hck
    obtain ⟨hd, rfl⟩ := hck
    exact mm_iast (M := M) hx hb hd h O (fun w' q H1 locs1 hv O1 => hv ad H1 locs1 cells slots la O1)
  | bastore =>
    simp only [mm_ck, mm_ck1, Bool.and_eq_true, decide_eq_true_eq] at hck
    obtain ⟨hd, rfl⟩ := hck
    exact mm_zast (M := M) hx hb hd h O (fun w' q H1 locs1 hv O1 => hv ad H1 locs1 cells slots la O1)
  | lastore =>
    simp only [mm_ck, mm_ck1, Bool.and_eq_true, decide_eq_true_eq] at hck
    obtain ⟨hd, rfl⟩ := hck
    exact mm_last (M := M) hx hb hd h O (fun w' q H1 locs1 hv O1 => hv ad H1 locs1 cells slots la O1)
  | new idx =>
    simp only [mm_ck, mm_ck1, Bool.and_eq_true, decide_eq_true_eq] at hck
    obtain ⟨hd, rfl, hc⟩ := hck
    split at hc
    · rename_i a ci axr p0 p1 p2
      split at hc
      · rename_i C T N hC
        simp only [Bool.and_eq_true] at hc
        exact mm_newc (M := M) hx hb hown hts hcw hB hd hC hc.1.1 hc.1.2 hc.2 h O (fun v w' ad' H1 cells1 slots1 hv O1 => hv ad' H1 locs cells1 slots1 la O1)
      · cases hc
    · cases hc
  | newarray a =>
    simp only [mm_ck, mm_ck1, Bool.and_eq_true, decide_eq_true_eq] at hck
    obtain ⟨hd, rfl, hc⟩ := hck
    split at hc
    · simp only [Bool.and_eq_true, decide_eq_true_eq] at hc
      exact mm_newar (M := M) hx hb hts hB hd hc.1 hc.2 h O (fun v q w' ad' H1 cells1 slots1 hv O1 => hv ad' H1 locs cells1 slots1 la O1)
    · cases hc
  | multianewarray idx n =>
    simp only [mm_ck, mm_ck1, Bool.and_eq_true, decide_eq_true_eq] at hck
    obtain ⟨hd, ⟨rfl, rfl⟩, hc⟩ := hck
    split at hc
    · simp only [Bool.and_eq_true, decide_eq_true_eq] at hc
      exact hmna pc idx _ _ _ _ _ _ ad H locs cells slots la ls st w _ hd hc.1.1.1 hc.1.1.2 hc.1.2 hc.2 h O (fun v q w' ad' H1 cells1 slots1 hv O1 => hv ad' H1 locs cells1 slots1 la O1)
    · cases hc
  | invokestatic idx =>
    have hck2 := hck
    simp only [mm_ck, Bool.and_eq_true, decide_eq_true_eq] at hck
    obtain ⟨hd, hc⟩ := hck
    have hlen : len = 3 := by
      simp only [mm_ck1, Bool.and_eq_true, decide_eq_true_eq] at hc
      exact hc.1
    subst hlen
    exact mm_ivs_s (M := M) hx hb hml hown hts hSx hB hcall hM hfr hlo hd hc h O (fun q w' ad' H1 locs1 cells1 slots1 hv O1 => hv ad' H1 locs1 cells1 slots1 la O1)
  | invokespecial idx =>
    simp only [mm_ck, Bool.and_eq_true, decide_eq_true_eq] at hck
    obtain ⟨hd, hc⟩ := hck
    have hlen : len = 3 := by
      simp only [mm_ck1, Bool.and_eq_true, decide_eq_true_eq] at hc
      exact hc.1
    subst hlen
    exact mm_ivi_s (M := M) hx hb hml hown hts hSx hB hcall hM hfr hlo hd hc h O (fun q w' ad' H1 locs1 cells1 slots1 hv O1 => hv ad' H1 locs1 cells1 slots1 la O1)
  | invokevirtual idx =>
    simp only [mm_ck, mm_ck1, Bool.and_eq_true, decide_eq_true_eq] at hck
    obtain ⟨hd, rfl, hc⟩ := hck
    exact mm_ivv_s (M := M) hx hb hml hown hts hSx hB hcall hM hfr hlo hd hc h O (fun q w' ad' H1 locs1 cells1 slots1 hv O1 => hv ad' H1 locs1 cells1 slots1 la O1)
  | ireturn =>
    simp only [mm_ck, mm_ck1, Bool.and_eq_true, decide_eq_true_eq] at hck
    obtain ⟨hd, rfl⟩ := hck
    dsimp only at h
    unfold mm_irt at h
    split at h
    · rename_i x hr
      exact hret pc (some (mm_I x)) w ad H locs cells slots la ls ⟨hd, Or.inl hr⟩ h O
    · rename_i x hr
      exact hret pc (some (mm_I x)) w ad H locs cells slots la ls ⟨hd, Or.inr ⟨hr, h.1⟩⟩ h.2 O
    · exact h.elim
  | lreturn =>
    simp only [mm_ck, mm_ck1, Bool.and_eq_true, decide_eq_true_eq] at hck
    obtain ⟨hd, rfl⟩ := hck
    dsimp only at h
    unfold mm_lrt at h
    split at h
    · rename_i x hr
      exact hret pc (some (mm_L x)) w ad H locs cells slots la ls ⟨hd, hr⟩ h O
    · exact h.elim
  | return_ =>
    simp only [mm_ck, mm_ck1, Bool.and_eq_true, decide_eq_true_eq] at hck
    obtain ⟨hd, rfl⟩ := hck
    dsimp only at h
    unfold mm_vrt at h
    split at h
    · rename_i hr
      exact hret pc none w ad H locs cells slots la ls ⟨hd, hr⟩ h O
    · exact h.elim
  | _ => exact h.elim
end MMT
end
section
/-! ===== a method that the abstract machine ends keeps its contract; the law's own walk ===== -/
theorem mm_class_ok (ps : List (List Nat)) (h : (List.range 11).all (fun ci => match mm_cl[ci]?, ps[ci]? with
  | some q, some p => decide (u_ws q.1 q.2.1 q.2.2 = p.filterMap (fun i => mm_tbl[i]?)) && (u_ws q.1 q.2.1 q.2.2).all goodWord
  | _, _ => false) = true) : ∀ (ci : Nat) (q : vw_C), mm_cl[ci]? = some q → ∀ w ∈ u_ws q.1 q.2.1 q.2.2, w ∈ mm_GW := by
  intro ci q hq w hw
  have hlt : ci < 11 := (List.getElem?_eq_some_iff.mp hq).1
  have h1 := List.all_eq_true.mp h ci (List.mem_range.mpr hlt)
  rw [hq] at h1
  split at h1
  · rename_i q1 p1 e1 e2
    cases e1
    simp only [Bool.and_eq_true, decide_eq_true_eq] at h1
    have hg := List.all_eq_true.mp h1.2 w hw
    have hm : w ∈ mm_tbl := by
      have h2 := hw
      rw [h1.1] at h2
      obtain ⟨i, -, hi⟩ := List.mem_filterMap.mp h2
      exact List.mem_of_getElem? hi
    exact List.mem_filter.mpr ⟨hm, hg⟩
  · cases h1
/-- multianewarray at any frame -/
def mm_mnaA : Prop := ∀ (p : Program) (l : Launch) (e : Env) (R : Room) (s : State) (m : MethodId) (args : Array Value) (below : List Frame) (meth : Method) (c : Code) (Qf : State → Prop) (D : va_G) (B0 : Nat) (sad : Nat → Nat) (n0 : Nat) (ad0 : Nat → Nat) (lim : Nat × Nat) (nL : Nat) (y : MethodName) (bytes : ByteArray) (tb : mm_T), p.tables.exec = Jvm.exec → c.code = bytes → s.vm.findClass y.cls = some m.cls → (∀ w ∈ mm_GW, w.before args s = true) → mm_Sx tb sad B0 s s.heap → B0 ≤ s.heap.size → mm_mnaL p l e R s m args below meth c Qf D B0 sad n0 ad0 lim nL y bytes
section MMR
variable {l : Launch} {D : va_G} {B0 : Nat} {sad : Nat → Nat} {ms : List mm_M} {tb : mm_T}
theorem mm_retOk {p : Program} {e : Env} {s : State} {m : MethodId} {args : Array Value} {below : List Frame} {meth : Method} {c : Code} {M : mm_M} {d n0 : Nat} {ad0 : Nat → Nat} {Q : Option mm_V → mm_W → Prop} {w0 : mm_W} (hx : p.tables.exec = Jvm.exec) (hb : c.code = mm_Mb M) (hr : meth.sig.returnType = mm_Mr M) (hlocks : meth.locks = false) (hn : n0 = w0.1.length)
    (pc : Nat) (o : Option mm_V) (w : mm_W) (ad : Nat → Nat) (H : Heap) (locs : List Loc) (cells slots : Nat) (la : Array Slot) (ls : List (Option mm_V)) (hrt : mm_rti M pc o) (hQ : Q o w) (O : mm_Ok D B0 sad n0 ad0 (w0.1.length + mm_Mk M, mm_sl w0.1 + mm_Ms M) (mm_rmd d M) s (mm_Ml M) ad H locs cells slots la ls w) :
    W p l e (mm_rmd d M) s m args below meth c H locs cells slots (MQ below (mm_Qc D B0 sad ad0 w0 Q) args s (mm_Mk M) (mm_Ms M) (mm_A B0)) (F0 m pc la (o.toList.map (mm_cv ad sad))) := by
  obtain ⟨h1, h2, h3, h4, h5, h6, h7, h8, h9⟩ := O
  have k1 : cells ≤ mm_Mk M := by
    have : (mm_rmd d M).cells = mm_Mk M := rfl
    omega
  have k2 : slots ≤ mm_Ms M := by
    have : (mm_rmd d M).slots = mm_Ms M := rfl
    omega
  refine W.widen k1 k2 ?_
  have key : ∀ t : State, t.heap = H → s.WarmedH t.vm → mm_Qc D B0 sad ad0 w0 Q args s (.returned (o.map (mm_cv ad sad))) t := fun t ht hW => ⟨⟨o, w, ad, rfl, hQ, by rw [← hn]; exact h1, by rw [ht]; exact h5.moved hW.alike⟩, h6.F ht⟩
  unfold mm_rti at hrt
  split at hrt
  · rename_i x
    obtain ⟨hd, hty | ⟨hty, hx01⟩⟩ := hrt
    · exact W.zret (ty := .int) hx hb (by rw [hr, hty]) rfl key h6.2.2 hd hlocks
    · refine W.zret (ty := .boolean) hx hb (by rw [hr, hty]) ?_ key h6.2.2 hd hlocks
      rcases hx01 with rfl | rfl <;> rfl
  · rename_i x
    obtain ⟨hd, hty⟩ := hrt
    exact W.lret hx hb (by rw [hr, hty]) key h6.2.2 hd hlocks
  · obtain ⟨hd, hty⟩ := hrt
    exact W.vret hx hb (by rw [hr, hty]) key h6.2.2 hd hlocks
  · exact hrt.elim
theorem mm_met (hmna : mm_mnaA) (hcw : ∀ (ci : Nat) (q : vw_C), mm_cl[ci]? = some q → ∀ w ∈ u_ws q.1 q.2.1 q.2.2, w ∈ mm_GW) (hM : ∀ (mi : Nat) (M' : mm_M), ms[mi]? = some M' → mm_ckm ms M' = true) : ∀ d : Nat, mm_callOk l D B0 sad tb ms d (mm_call ms tb d)
  | 0 => fun mi M hmi As w Q h => h.elim
  | d + 1 => by
    have ih := mm_met hmna hcw hM d
    intro mi M hmi As w Q h ad
    have hh : ∀ (mi : Nat) (M' : mm_M), ms[mi]? = some M' → mm_ckh M' = true := fun mi M' q => by
      have := hM mi M' q
      simp only [mm_ckm, Bool.and_eq_true] at this
      exact this.1
    have hck := hM mi M hmi
    simp only [mm_ckm, Bool.and_eq_true] at hck
    obtain ⟨k1, k2, k3, k4⟩ := mm_ckh_e (hh mi M hmi)
    unfold mm_call at h
    rw [hmi] at h
    dsimp only at h
    unfold mm_run at h
    split at h
    · rename_i hble
      have hlen : (mm_ar As).length ≤ mm_Ml M := Nat.le_of_ble_eq_true hble
      refine Met.ofW (cc := mm_Mb M) (maxL := mm_Ml M) (ret := mm_Mr M) k1 rfl ?_
      intro p e s m args below meth c s₁ B hml hv
      obtain ⟨rfl, hB, hH, hSx⟩ := hv
      have hx := B.exec
      have hts0 := atoms_spec (ws := mm_wd M) B.pre
      have hts : ∀ w ∈ mm_GW, w.before (As.map (mm_cv ad sad)).toArray s = true := fun w hw => hts0 w (List.mem_cons_of_mem _ hw)
      have hown : s.vm.findClass (mm_My M).cls = some m.cls := findClass_of_methodNamed B.named
      have hin : meth.name = (mm_My M).name := (name_of_methodNamed B.named B.method).1
      rw [lg_entry_eq]
      have hl := lv_entry (As.map (mm_cv ad sad)) (n := mm_Ml M) (by rw [← mm_ar_len ad sad As]; exact hlen)
      generalize (lg_sl (As.map (mm_cv ad sad)) ++ List.replicate (mm_Ml M - (lg_sl (As.map (mm_cv ad sad))).length) Slot.unset).toArray = la at hl ⊢
      refine h (mm_Rel p l e (mm_rmd (d + 1) M) s m (As.map (mm_cv ad sad)).toArray below meth c (MQ below (mm_Qc D B0 sad ad w Q) (As.map (mm_cv ad sad)).toArray s (mm_Mk M) (mm_Ms M) (mm_A B0)) D B0 sad w.1.length ad (w.1.length + mm_Mk M, mm_sl w.1 + mm_Ms M) (mm_Ml M)) ?_ ad s.heap [] 0 0 la ?_
      · exact mm_step hx B.bytes hml hown hts hcw (fun q => by rw [hin, q]) hSx hB ih hh (by show d + 1 ≤ d + 1; exact Nat.le_refl _) (by show 40 * (d + 1) ≤ 40 * (d + 1); exact Nat.le_refl _) hck.2 (hmna _ _ _ _ _ _ _ _ _ _ _ _ _ _ _ _ _ _ _ _ tb hx B.bytes hown hts hSx hB) (fun pc o w' ad' H locs cells slots la ls => mm_retOk hx B.bytes B.returns B.notSynchronized rfl pc o w' ad' H locs cells slots la ls)
      · refine ⟨fun _ _ => rfl, Nat.le_refl _, Nat.le_add_right _ _, Nat.le_add_right _ _, hH, va_S.rf, mm_lv_weak hl (mm_ini_lv ad sad As (mm_Ml M)), ?_, ?_⟩
        · show 0 + (w.1.length + mm_Mk M - w.1.length) ≤ mm_Mk M
          omega
        · show 0 + (mm_sl w.1 + mm_Ms M - mm_sl w.1) ≤ mm_Ms M
          omega
    · exact h.elim
end MMR
end
