/-! ===== code tables (by program) ===== -/
/-- TypeCopier$Copies.<init>.(LTypeCopier$Numbered;LTypeCopier$Nodes;LTypeCopier$Functions;LTypeCopier$Judge;)V -/
def mm_f0 : Nat → mm_E := fun pc => (bif Nat.ble 47 pc then
  (bif Nat.ble 78 pc then
  (bif Nat.ble 88 pc then
  (bif Nat.ble 93 pc then
  (bif Nat.ble 96 pc then
  (bif Nat.ble 99 pc then (.return_, 1, [], [], 0, 0, 0, 99) else (bif Nat.beq 96 pc then (.putfield 53, 3, [(0, 3)], [[2130]], 1, 0, 0, 96) else mm_nop)) else (bif Nat.ble 94 pc then
  (bif Nat.beq 94 pc then (.aload 4, 2, [], [], 4, 0, 0, 94) else mm_nop) else (.aload_n 0, 1, [], [], 0, 0, 0, 93))) else (bif Nat.ble 89 pc then
  (bif Nat.ble 90 pc then
  (bif Nat.beq 90 pc then (.putfield 49, 3, [(0, 2)], [[2129]], 1, 0, 0, 90) else mm_nop) else (.aload_n 3, 1, [], [], 3, 0, 0, 89)) else (.aload_n 0, 1, [], [], 0, 0, 0, 88))) else (bif Nat.ble 83 pc then
  (bif Nat.ble 84 pc then
  (bif Nat.ble 85 pc then
  (bif Nat.beq 85 pc then (.putfield 45, 3, [(0, 1)], [[2128]], 1, 0, 0, 85) else mm_nop) else (.aload_n 2, 1, [], [], 2, 0, 0, 84)) else (.aload_n 0, 1, [], [], 0, 0, 0, 83)) else (bif Nat.ble 79 pc then
  (bif Nat.ble 80 pc then
  (bif Nat.beq 80 pc then (.putfield 41, 3, [(0, 0)], [[2127]], 1, 0, 0, 80) else mm_nop) else (.aload_n 1, 1, [], [], 1, 0, 0, 79)) else (.aload_n 0, 1, [], [], 0, 0, 0, 78)))) else (bif Nat.ble 62 pc then
  (bif Nat.ble 68 pc then
  (bif Nat.ble 71 pc then
  (bif Nat.ble 75 pc then
  (bif Nat.beq 75 pc then (.putfield 38, 3, [(0, 11)], [[2138]], 1, 0, 0, 75) else mm_nop) else (bif Nat.beq 71 pc then (.multianewarray 33 2, 4, [(0, 60), (0, 200)], [[2125, 2066, 2126]], 0, 0, 0, 71) else mm_nop)) else (bif Nat.beq 68 pc then (.sipush 200, 3, [], [], 0, 200, 0, 68) else mm_nop)) else (bif Nat.ble 65 pc then
  (bif Nat.ble 66 pc then
  (bif Nat.beq 66 pc then (.bipush 60, 2, [], [], 0, 60, 0, 66) else mm_nop) else (.aload_n 0, 1, [], [], 0, 0, 0, 65)) else (bif Nat.beq 62 pc then (.putfield 35, 3, [(0, 10)], [[2137]], 1, 0, 0, 62) else mm_nop))) else (bif Nat.ble 53 pc then
  (bif Nat.ble 55 pc then
  (bif Nat.ble 58 pc then
  (bif Nat.beq 58 pc then (.multianewarray 33 2, 4, [(0, 60), (0, 200)], [[2125, 2066, 2126]], 0, 0, 0, 58) else mm_nop) else (bif Nat.beq 55 pc then (.sipush 200, 3, [], [], 0, 200, 0, 55) else mm_nop)) else (bif Nat.beq 53 pc then (.bipush 60, 2, [], [], 0, 60, 0, 53) else mm_nop)) else (bif Nat.ble 49 pc then
  (bif Nat.ble 52 pc then (.aload_n 0, 1, [], [], 0, 0, 0, 52) else (bif Nat.beq 49 pc then (.putfield 28, 3, [(0, 9)], [[2136]], 1, 0, 0, 49) else mm_nop)) else (bif Nat.beq 47 pc then (.newarray .int, 2, [(0, 60)], [[2066]], 0, 0, 0, 47) else mm_nop))))) else (bif Nat.ble 23 pc then
  (bif Nat.ble 36 pc then
  (bif Nat.ble 41 pc then
  (bif Nat.ble 44 pc then
  (bif Nat.ble 45 pc then
  (bif Nat.beq 45 pc then (.bipush 60, 2, [], [], 0, 60, 0, 45) else mm_nop) else (.aload_n 0, 1, [], [], 0, 0, 0, 44)) else (bif Nat.beq 41 pc then (.putfield 25, 3, [(0, 8)], [[2135]], 1, 0, 0, 41) else mm_nop)) else (bif Nat.ble 37 pc then
  (bif Nat.ble 39 pc then
  (bif Nat.beq 39 pc then (.newarray .int, 2, [(0, 60)], [[2066]], 0, 0, 0, 39) else mm_nop) else (bif Nat.beq 37 pc then (.bipush 60, 2, [], [], 0, 60, 0, 37) else mm_nop)) else (.aload_n 0, 1, [], [], 0, 0, 0, 36))) else (bif Nat.ble 29 pc then
  (bif Nat.ble 31 pc then
  (bif Nat.ble 33 pc then
  (bif Nat.beq 33 pc then (.putfield 22, 3, [(0, 7)], [[2134]], 1, 0, 0, 33) else mm_nop) else (bif Nat.beq 31 pc then (.newarray .long, 2, [(1, 60)], [[2037]], 0, 0, 0, 31) else mm_nop)) else (bif Nat.beq 29 pc then (.bipush 60, 2, [], [], 0, 60, 0, 29) else mm_nop)) else (bif Nat.ble 25 pc then
  (bif Nat.ble 28 pc then (.aload_n 0, 1, [], [], 0, 0, 0, 28) else (bif Nat.beq 25 pc then (.putfield 19, 3, [(0, 6)], [[2133]], 1, 0, 0, 25) else mm_nop)) else (bif Nat.beq 23 pc then (.newarray .long, 2, [(1, 60)], [[2037]], 0, 0, 0, 23) else mm_nop)))) else (bif Nat.ble 12 pc then
  (bif Nat.ble 17 pc then
  (bif Nat.ble 20 pc then
  (bif Nat.ble 21 pc then
  (bif Nat.beq 21 pc then (.bipush 60, 2, [], [], 0, 60, 0, 21) else mm_nop) else (.aload_n 0, 1, [], [], 0, 0, 0, 20)) else (bif Nat.beq 17 pc then (.putfield 15, 3, [(0, 5)], [[2132]], 1, 0, 0, 17) else mm_nop)) else (bif Nat.ble 13 pc then
  (bif Nat.ble 15 pc then
  (bif Nat.beq 15 pc then (.newarray .long, 2, [(1, 60)], [[2037]], 0, 0, 0, 15) else mm_nop) else (bif Nat.beq 13 pc then (.bipush 60, 2, [], [], 0, 60, 0, 13) else mm_nop)) else (.aload_n 0, 1, [], [], 0, 0, 0, 12))) else (bif Nat.ble 5 pc then
  (bif Nat.ble 7 pc then
  (bif Nat.ble 9 pc then
  (bif Nat.beq 9 pc then (.putfield 11, 3, [(0, 4)], [[2131]], 1, 0, 0, 9) else mm_nop) else (bif Nat.beq 7 pc then (.newarray .int, 2, [(0, 60)], [[2066]], 0, 0, 0, 7) else mm_nop)) else (bif Nat.beq 5 pc then (.bipush 60, 2, [], [], 0, 60, 0, 5) else mm_nop)) else (bif Nat.ble 1 pc then
  (bif Nat.ble 4 pc then (.aload_n 0, 1, [], [], 0, 0, 0, 4) else (bif Nat.beq 1 pc then (.invokespecial 3, 3, [], [[2124, 2022, 2023]], 0, 0, 0, 1) else mm_nop)) else (.aload_n 0, 1, [], [], 0, 0, 0, 0))))))
def mm_k0 : List mm_E := (List.range 100).map mm_f0
def mm_m0 : mm_M := (yX0_init, cX0_init, 5, none, mm_k0, 4, 128, 24480, 2123)
/-- TypeCopier$Copies.makeAll.()I -/
def mm_f1 : Nat → mm_E := fun pc => (bif Nat.ble 24 pc then
  (bif Nat.ble 38 pc then
  (bif Nat.ble 47 pc then
  (bif Nat.ble 51 pc then
  (bif Nat.ble 54 pc then (.ireturn, 1, [], [], 0, 0, 0, 54) else (bif Nat.beq 51 pc then (.getfield 57, 3, [(0, 12)], [[2139]], 0, 0, 0, 51) else mm_nop)) else (bif Nat.ble 50 pc then (.aload_n 0, 1, [], [], 0, 0, 0, 50) else (bif Nat.beq 47 pc then (.goto (-28), 3, [(0, 19)], [], 0, 0, 0, 47) else mm_nop))) else (bif Nat.ble 43 pc then
  (bif Nat.ble 44 pc then
  (bif Nat.beq 44 pc then (.iinc 1 1, 3, [], [], 1, 1, 0, 44) else mm_nop) else (.ireturn, 1, [], [], 0, 0, 0, 43)) else (bif Nat.ble 41 pc then
  (bif Nat.beq 41 pc then (.bipush (-4), 2, [], [], 0, (-4), 0, 41) else mm_nop) else (bif Nat.beq 38 pc then (.ifCond .ne 6, 3, [(0, 44)], [], 0, 0, 0, 38) else mm_nop)))) else (bif Nat.ble 30 pc then
  (bif Nat.ble 34 pc then
  (bif Nat.ble 35 pc then
  (bif Nat.beq 35 pc then (.invokevirtual 69, 3, [(0, 3)], [[3148, 3150, 1007, 2006]], 1, 0, 0, 35) else mm_nop) else (.iload_n 1, 1, [], [], 1, 0, 0, 34)) else (bif Nat.ble 33 pc then (.aload_n 0, 1, [], [], 0, 0, 0, 33) else (bif Nat.beq 30 pc then (.if_icmp .ge 20, 3, [(0, 50)], [], 0, 0, 0, 30) else mm_nop))) else (bif Nat.ble 27 pc then
  (bif Nat.ble 28 pc then
  (bif Nat.beq 28 pc then (.bipush 60, 2, [], [], 0, 60, 0, 28) else mm_nop) else (.iload_n 1, 1, [], [], 1, 0, 0, 27)) else (bif Nat.beq 24 pc then (.if_icmp .ge 26, 3, [(0, 50)], [], 0, 0, 0, 24) else mm_nop)))) else (bif Nat.ble 13 pc then
  (bif Nat.ble 18 pc then
  (bif Nat.ble 20 pc then
  (bif Nat.ble 21 pc then
  (bif Nat.beq 21 pc then (.getfield 57, 3, [(0, 12)], [[2139]], 0, 0, 0, 21) else mm_nop) else (.aload_n 0, 1, [], [], 0, 0, 0, 20)) else (bif Nat.ble 19 pc then (.iload_n 1, 1, [], [], 1, 0, 0, 19) else (.istore_n 1, 1, [], [], 1, 0, 0, 18))) else (bif Nat.ble 16 pc then
  (bif Nat.ble 17 pc then (.iconst 0, 1, [], [], 0, 0, 0, 17) else (.pop, 1, [], [], 0, 0, 0, 16)) else (bif Nat.beq 13 pc then (.invokevirtual 65, 3, [(0, 2)], [[3144, 3146, 1006, 2006]], 3, 0, 0, 13) else mm_nop))) else (bif Nat.ble 5 pc then
  (bif Nat.ble 7 pc then
  (bif Nat.ble 10 pc then
  (bif Nat.beq 10 pc then (.ldc2_w 63, 3, [], [[3143]], 0, 0, (-1), 10) else mm_nop) else (bif Nat.beq 7 pc then (.ldc2_w 63, 3, [], [[3143]], 0, 0, (-1), 7) else mm_nop)) else (bif Nat.ble 6 pc then (.iconst 0, 1, [], [], 0, 0, 0, 6) else (.aload_n 0, 1, [], [], 0, 0, 0, 5))) else (bif Nat.ble 1 pc then
  (bif Nat.ble 2 pc then
  (bif Nat.beq 2 pc then (.putfield 57, 3, [(0, 12)], [[2139]], 0, 0, 0, 2) else mm_nop) else (.iconst 0, 1, [], [], 0, 0, 0, 1)) else (.aload_n 0, 1, [], [], 0, 0, 0, 0)))))
def mm_k1 : List mm_E := (List.range 55).map mm_f1
def mm_m1 : mm_M := (yX0_makeAll, cX0_makeAll, 2, (some .int), mm_k1, 0, 0, 0, 3142)
/-- TypeCopier$Copies.findOrAdd.(IJJ)I -/
def mm_f2 : Nat → mm_E := fun pc => (bif Nat.ble 61 pc then
  (bif Nat.ble 91 pc then
  (bif Nat.ble 106 pc then
  (bif Nat.ble 112 pc then
  (bif Nat.ble 114 pc then
  (bif Nat.ble 115 pc then
  (bif Nat.ble 118 pc then (.ireturn, 1, [], [], 0, 0, 0, 118) else (bif Nat.beq 115 pc then (.putfield 57, 3, [(0, 12)], [[2139]], 0, 0, 0, 115) else mm_nop)) else (.iadd, 1, [], [], 0, 0, 0, 114)) else (bif Nat.ble 113 pc then (.iconst 1, 1, [], [], 0, 1, 0, 113) else (.dup_x1, 1, [], [], 0, 0, 0, 112))) else (bif Nat.ble 108 pc then
  (bif Nat.ble 109 pc then
  (bif Nat.beq 109 pc then (.getfield 57, 3, [(0, 12)], [[2139]], 0, 0, 0, 109) else mm_nop) else (.dup, 1, [], [], 0, 0, 0, 108)) else (bif Nat.ble 107 pc then (.aload_n 0, 1, [], [], 0, 0, 0, 107) else (.lastore, 1, [], [], 0, 0, 0, 106)))) else (bif Nat.ble 97 pc then
  (bif Nat.ble 101 pc then
  (bif Nat.ble 104 pc then
  (bif Nat.beq 104 pc then (.lload 4, 2, [], [], 4, 0, 0, 104) else mm_nop) else (bif Nat.beq 101 pc then (.getfield 57, 3, [(0, 12)], [[2139]], 0, 0, 0, 101) else mm_nop)) else (bif Nat.ble 100 pc then (.aload_n 0, 1, [], [], 0, 0, 0, 100) else (bif Nat.beq 97 pc then (.getfield 19, 3, [(0, 6)], [[2133]], 0, 0, 0, 97) else mm_nop))) else (bif Nat.ble 95 pc then
  (bif Nat.ble 96 pc then (.aload_n 0, 1, [], [], 0, 0, 0, 96) else (.lastore, 1, [], [], 0, 0, 0, 95)) else (bif Nat.ble 94 pc then (.lload_n 2, 1, [], [], 2, 0, 0, 94) else (bif Nat.beq 91 pc then (.getfield 57, 3, [(0, 12)], [[2139]], 0, 0, 0, 91) else mm_nop))))) else (bif Nat.ble 77 pc then
  (bif Nat.ble 85 pc then
  (bif Nat.ble 87 pc then
  (bif Nat.ble 90 pc then (.aload_n 0, 1, [], [], 0, 0, 0, 90) else (bif Nat.beq 87 pc then (.getfield 15, 3, [(0, 5)], [[2132]], 0, 0, 0, 87) else mm_nop)) else (bif Nat.ble 86 pc then (.aload_n 0, 1, [], [], 0, 0, 0, 86) else (.iastore, 1, [], [], 0, 0, 0, 85))) else (bif Nat.ble 81 pc then
  (bif Nat.ble 84 pc then (.iload_n 1, 1, [], [], 1, 0, 0, 84) else (bif Nat.beq 81 pc then (.getfield 57, 3, [(0, 12)], [[2139]], 0, 0, 0, 81) else mm_nop)) else (bif Nat.ble 80 pc then (.aload_n 0, 1, [], [], 0, 0, 0, 80) else (bif Nat.beq 77 pc then (.getfield 11, 3, [(0, 4)], [[2131]], 0, 0, 0, 77) else mm_nop)))) else (bif Nat.ble 70 pc then
  (bif Nat.ble 75 pc then
  (bif Nat.ble 76 pc then (.aload_n 0, 1, [], [], 0, 0, 0, 76) else (.ireturn, 1, [], [], 0, 0, 0, 75)) else (bif Nat.ble 73 pc then
  (bif Nat.beq 73 pc then (.bipush (-4), 2, [], [], 0, (-4), 0, 73) else mm_nop) else (bif Nat.beq 70 pc then (.if_icmp .lt 6, 3, [(0, 76)], [], 0, 0, 0, 70) else mm_nop))) else (bif Nat.ble 65 pc then
  (bif Nat.ble 68 pc then
  (bif Nat.beq 68 pc then (.bipush 60, 2, [], [], 0, 60, 0, 68) else mm_nop) else (bif Nat.beq 65 pc then (.getfield 57, 3, [(0, 12)], [[2139]], 0, 0, 0, 65) else mm_nop)) else (bif Nat.ble 64 pc then (.aload_n 0, 1, [], [], 0, 0, 0, 64) else (bif Nat.beq 61 pc then (.goto (-58), 3, [(0, 3)], [], 0, 0, 0, 61) else mm_nop)))))) else (bif Nat.ble 31 pc then
  (bif Nat.ble 46 pc then
  (bif Nat.ble 52 pc then
  (bif Nat.ble 57 pc then
  (bif Nat.ble 58 pc then
  (bif Nat.beq 58 pc then (.iinc 6 1, 3, [], [], 6, 1, 0, 58) else mm_nop) else (.ireturn, 1, [], [], 0, 0, 0, 57)) else (bif Nat.ble 55 pc then
  (bif Nat.beq 55 pc then (.iload 6, 2, [], [], 6, 0, 0, 55) else mm_nop) else (bif Nat.beq 52 pc then (.ifCond .ne 6, 3, [(0, 58)], [], 0, 0, 0, 52) else mm_nop))) else (bif Nat.ble 49 pc then
  (bif Nat.ble 51 pc then (.lcmp, 1, [], [], 0, 0, 0, 51) else (bif Nat.beq 49 pc then (.lload 4, 2, [], [], 4, 0, 0, 49) else mm_nop)) else (bif Nat.ble 48 pc then (.laload, 1, [], [], 0, 0, 0, 48) else (bif Nat.beq 46 pc then (.iload 6, 2, [], [], 6, 0, 0, 46) else mm_nop)))) else (bif Nat.ble 38 pc then
  (bif Nat.ble 42 pc then
  (bif Nat.ble 43 pc then
  (bif Nat.beq 43 pc then (.getfield 19, 3, [(0, 6)], [[2133]], 0, 0, 0, 43) else mm_nop) else (.aload_n 0, 1, [], [], 0, 0, 0, 42)) else (bif Nat.ble 39 pc then
  (bif Nat.beq 39 pc then (.ifCond .ne 19, 3, [(0, 58)], [], 0, 0, 0, 39) else mm_nop) else (.lcmp, 1, [], [], 0, 0, 0, 38))) else (bif Nat.ble 36 pc then
  (bif Nat.ble 37 pc then (.lload_n 2, 1, [], [], 2, 0, 0, 37) else (.laload, 1, [], [], 0, 0, 0, 36)) else (bif Nat.ble 34 pc then
  (bif Nat.beq 34 pc then (.iload 6, 2, [], [], 6, 0, 0, 34) else mm_nop) else (bif Nat.beq 31 pc then (.getfield 15, 3, [(0, 5)], [[2132]], 0, 0, 0, 31) else mm_nop))))) else (bif Nat.ble 16 pc then
  (bif Nat.ble 25 pc then
  (bif Nat.ble 27 pc then
  (bif Nat.ble 30 pc then (.aload_n 0, 1, [], [], 0, 0, 0, 30) else (bif Nat.beq 27 pc then (.if_icmp .ne 31, 3, [(0, 58)], [], 0, 0, 0, 27) else mm_nop)) else (bif Nat.ble 26 pc then (.iload_n 1, 1, [], [], 1, 0, 0, 26) else (.iaload, 1, [], [], 0, 0, 0, 25))) else (bif Nat.ble 20 pc then
  (bif Nat.ble 23 pc then
  (bif Nat.beq 23 pc then (.iload 6, 2, [], [], 6, 0, 0, 23) else mm_nop) else (bif Nat.beq 20 pc then (.getfield 11, 3, [(0, 4)], [[2131]], 0, 0, 0, 20) else mm_nop)) else (bif Nat.ble 19 pc then (.aload_n 0, 1, [], [], 0, 0, 0, 19) else (bif Nat.beq 16 pc then (.if_icmp .ge 48, 3, [(0, 64)], [], 0, 0, 0, 16) else mm_nop)))) else (bif Nat.ble 6 pc then
  (bif Nat.ble 12 pc then
  (bif Nat.ble 14 pc then
  (bif Nat.beq 14 pc then (.bipush 60, 2, [], [], 0, 60, 0, 14) else mm_nop) else (bif Nat.beq 12 pc then (.iload 6, 2, [], [], 6, 0, 0, 12) else mm_nop)) else (bif Nat.ble 9 pc then
  (bif Nat.beq 9 pc then (.if_icmp .ge 55, 3, [(0, 64)], [], 0, 0, 0, 9) else mm_nop) else (bif Nat.beq 6 pc then (.getfield 57, 3, [(0, 12)], [[2139]], 0, 0, 0, 6) else mm_nop))) else (bif Nat.ble 3 pc then
  (bif Nat.ble 5 pc then (.aload_n 0, 1, [], [], 0, 0, 0, 5) else (bif Nat.beq 3 pc then (.iload 6, 2, [], [], 6, 0, 0, 3) else mm_nop)) else (bif Nat.ble 1 pc then
  (bif Nat.beq 1 pc then (.istore 6, 2, [], [], 6, 0, 0, 1) else mm_nop) else (.iconst 0, 1, [], [], 0, 0, 0, 0)))))))
def mm_k2 : List mm_E := (List.range 119).map mm_f2
def mm_m2 : mm_M := (yX0_findOrAdd, cX0_findOrAdd, 7, (some .int), mm_k2, 3, 0, 0, 3147)
/-- TypeCopier$Copies.makeOne.(I)Z -/
def mm_f3 : Nat → mm_E := fun pc => (bif Nat.ble 133 pc then
  (bif Nat.ble 208 pc then
  (bif Nat.ble 248 pc then
  (bif Nat.ble 264 pc then
  (bif Nat.ble 273 pc then
  (bif Nat.ble 277 pc then
  (bif Nat.ble 280 pc then
  (bif Nat.ble 281 pc then (.ireturn, 1, [], [], 0, 0, 0, 281) else (.iconst 1, 1, [], [], 0, 1, 0, 280)) else (bif Nat.beq 277 pc then (.goto (-146), 3, [(0, 131)], [], 0, 0, 0, 277) else mm_nop)) else (bif Nat.ble 274 pc then
  (bif Nat.beq 274 pc then (.iinc 7 1, 3, [], [], 7, 1, 0, 274) else mm_nop) else (.iastore, 1, [], [], 0, 0, 0, 273))) else (bif Nat.ble 268 pc then
  (bif Nat.ble 269 pc then
  (bif Nat.ble 271 pc then
  (bif Nat.beq 271 pc then (.iload 11, 2, [], [], 11, 0, 0, 271) else mm_nop) else (bif Nat.beq 269 pc then (.iload 8, 2, [], [], 8, 0, 0, 269) else mm_nop)) else (.aaload, 1, [], [], 0, 0, 0, 268)) else (bif Nat.ble 267 pc then (.iload_n 1, 1, [], [], 1, 0, 0, 267) else (bif Nat.beq 264 pc then (.getfield 38, 3, [(0, 11)], [[2138]], 0, 0, 0, 264) else mm_nop)))) else (bif Nat.ble 255 pc then
  (bif Nat.ble 259 pc then
  (bif Nat.ble 262 pc then
  (bif Nat.ble 263 pc then (.aload_n 0, 1, [], [], 0, 0, 0, 263) else (.iastore, 1, [], [], 0, 0, 0, 262)) else (bif Nat.beq 259 pc then (.invokestatic 89, 3, [(0, 138)], [[3193, 3194, 2013]], 1, 0, 0, 259) else mm_nop)) else (bif Nat.ble 257 pc then
  (bif Nat.beq 257 pc then (.lload 9, 2, [], [], 9, 0, 0, 257) else mm_nop) else (bif Nat.beq 255 pc then (.iload 8, 2, [], [], 8, 0, 0, 255) else mm_nop))) else (bif Nat.ble 250 pc then
  (bif Nat.ble 253 pc then
  (bif Nat.ble 254 pc then (.aaload, 1, [], [], 0, 0, 0, 254) else (.iload_n 1, 1, [], [], 1, 0, 0, 253)) else (bif Nat.beq 250 pc then (.getfield 35, 3, [(0, 10)], [[2137]], 0, 0, 0, 250) else mm_nop)) else (bif Nat.ble 249 pc then (.aload_n 0, 1, [], [], 0, 0, 0, 249) else (.ireturn, 1, [], [], 0, 0, 0, 248))))) else (bif Nat.ble 225 pc then
  (bif Nat.ble 236 pc then
  (bif Nat.ble 241 pc then
  (bif Nat.ble 244 pc then
  (bif Nat.ble 247 pc then (.iconst 0, 1, [], [], 0, 0, 0, 247) else (bif Nat.beq 244 pc then (.ifCond .ne 5, 3, [(0, 249)], [], 0, 0, 0, 244) else mm_nop)) else (bif Nat.beq 241 pc then (.invokevirtual 120, 3, [(6, 92)], [[3226, 3084, 3085, 2003]], 1, 0, 0, 241) else mm_nop)) else (bif Nat.ble 239 pc then
  (bif Nat.beq 239 pc then (.iload 8, 2, [], [], 8, 0, 0, 239) else mm_nop) else (bif Nat.beq 236 pc then (.getfield 45, 3, [(0, 1)], [[2128]], 0, 0, 0, 236) else mm_nop))) else (bif Nat.ble 230 pc then
  (bif Nat.ble 232 pc then
  (bif Nat.ble 235 pc then (.aload_n 0, 1, [], [], 0, 0, 0, 235) else (bif Nat.beq 232 pc then (.if_icmp .eq 15, 3, [(0, 247)], [], 0, 0, 0, 232) else mm_nop)) else (bif Nat.beq 230 pc then (.bipush (-4), 2, [], [], 0, (-4), 0, 230) else mm_nop)) else (bif Nat.ble 228 pc then
  (bif Nat.beq 228 pc then (.iload 11, 2, [], [], 11, 0, 0, 228) else mm_nop) else (bif Nat.beq 225 pc then (.ifCond .eq 22, 3, [(0, 247)], [], 0, 0, 0, 225) else mm_nop)))) else (bif Nat.ble 216 pc then
  (bif Nat.ble 219 pc then
  (bif Nat.ble 221 pc then
  (bif Nat.ble 224 pc then (.lcmp, 1, [], [], 0, 0, 0, 224) else (bif Nat.beq 221 pc then (.ldc2_w 63, 3, [], [[3143]], 0, 0, (-1), 221) else mm_nop)) else (bif Nat.beq 219 pc then (.lload 9, 2, [], [], 9, 0, 0, 219) else mm_nop)) else (bif Nat.ble 217 pc then
  (bif Nat.beq 217 pc then (.istore 11, 2, [], [], 11, 0, 0, 217) else mm_nop) else (.iconst 0, 1, [], [], 0, 0, 0, 216))) else (bif Nat.ble 210 pc then
  (bif Nat.ble 213 pc then
  (bif Nat.beq 213 pc then (.goto 4, 3, [(0, 217)], [], 0, 0, 0, 213) else mm_nop) else (bif Nat.beq 210 pc then (.invokevirtual 117, 3, [(0, 4)], [[3211, 3213, 1009, 2006]], 3, 0, 0, 210) else mm_nop)) else (bif Nat.ble 209 pc then (.laload, 1, [], [], 0, 0, 0, 209) else (.iload_n 1, 1, [], [], 1, 0, 0, 208)))))) else (bif Nat.ble 171 pc then
  (bif Nat.ble 190 pc then
  (bif Nat.ble 199 pc then
  (bif Nat.ble 203 pc then
  (bif Nat.ble 204 pc then
  (bif Nat.ble 205 pc then
  (bif Nat.beq 205 pc then (.getfield 19, 3, [(0, 6)], [[2133]], 0, 0, 0, 205) else mm_nop) else (.aload_n 0, 1, [], [], 0, 0, 0, 204)) else (.laload, 1, [], [], 0, 0, 0, 203)) else (bif Nat.ble 202 pc then (.iload_n 1, 1, [], [], 1, 0, 0, 202) else (bif Nat.beq 199 pc then (.getfield 15, 3, [(0, 5)], [[2132]], 0, 0, 0, 199) else mm_nop))) else (bif Nat.ble 195 pc then
  (bif Nat.ble 196 pc then
  (bif Nat.ble 198 pc then (.aload_n 0, 1, [], [], 0, 0, 0, 198) else (bif Nat.beq 196 pc then (.iload 8, 2, [], [], 8, 0, 0, 196) else mm_nop)) else (.aload_n 0, 1, [], [], 0, 0, 0, 195)) else (bif Nat.ble 192 pc then
  (bif Nat.beq 192 pc then (.if_icmp .ne 24, 3, [(0, 216)], [], 0, 0, 0, 192) else mm_nop) else (bif Nat.beq 190 pc then (.bipush 14, 2, [], [], 0, 14, 0, 190) else mm_nop)))) else (bif Nat.ble 179 pc then
  (bif Nat.ble 182 pc then
  (bif Nat.ble 185 pc then
  (bif Nat.ble 187 pc then
  (bif Nat.beq 187 pc then (.invokevirtual 114, 3, [(6, 94)], [[3210, 3128, 3129, 2003]], 1, 0, 0, 187) else mm_nop) else (bif Nat.beq 185 pc then (.iload 8, 2, [], [], 8, 0, 0, 185) else mm_nop)) else (bif Nat.beq 182 pc then (.getfield 45, 3, [(0, 1)], [[2128]], 0, 0, 0, 182) else mm_nop)) else (bif Nat.ble 181 pc then (.aload_n 0, 1, [], [], 0, 0, 0, 181) else (bif Nat.beq 179 pc then (.lstore 9, 2, [], [], 9, 0, 0, 179) else mm_nop))) else (bif Nat.ble 175 pc then
  (bif Nat.ble 176 pc then
  (bif Nat.beq 176 pc then (.invokestatic 82, 3, [(1, 136)], [[3160, 3161, 2013]], 3, 0, 0, 176) else mm_nop) else (.laload, 1, [], [], 0, 0, 0, 175)) else (bif Nat.ble 174 pc then (.iload_n 1, 1, [], [], 1, 0, 0, 174) else (bif Nat.beq 171 pc then (.getfield 19, 3, [(0, 6)], [[2133]], 0, 0, 0, 171) else mm_nop))))) else (bif Nat.ble 154 pc then
  (bif Nat.ble 164 pc then
  (bif Nat.ble 168 pc then
  (bif Nat.ble 169 pc then
  (bif Nat.ble 170 pc then (.aload_n 0, 1, [], [], 0, 0, 0, 170) else (.laload, 1, [], [], 0, 0, 0, 169)) else (.iload_n 1, 1, [], [], 1, 0, 0, 168)) else (bif Nat.ble 165 pc then
  (bif Nat.beq 165 pc then (.getfield 15, 3, [(0, 5)], [[2132]], 0, 0, 0, 165) else mm_nop) else (.aload_n 0, 1, [], [], 0, 0, 0, 164))) else (bif Nat.ble 158 pc then
  (bif Nat.ble 159 pc then
  (bif Nat.ble 161 pc then
  (bif Nat.beq 161 pc then (.invokevirtual 108, 3, [(4, 43)], [[3209, 3080, 3081, 2005]], 2, 0, 0, 161) else mm_nop) else (bif Nat.beq 159 pc then (.iload 8, 2, [], [], 8, 0, 0, 159) else mm_nop)) else (.iload_n 2, 1, [], [], 2, 0, 0, 158)) else (bif Nat.ble 155 pc then
  (bif Nat.beq 155 pc then (.getfield 53, 3, [(0, 3)], [[2130]], 0, 0, 0, 155) else mm_nop) else (.aload_n 0, 1, [], [], 0, 0, 0, 154)))) else (bif Nat.ble 143 pc then
  (bif Nat.ble 147 pc then
  (bif Nat.ble 149 pc then
  (bif Nat.ble 152 pc then
  (bif Nat.beq 152 pc then (.istore 8, 2, [], [], 8, 0, 0, 152) else mm_nop) else (bif Nat.beq 149 pc then (.invokevirtual 105, 3, [(6, 107)], [[3208, 3124, 3125, 2003]], 1, 0, 0, 149) else mm_nop)) else (bif Nat.beq 147 pc then (.iload 7, 2, [], [], 7, 0, 0, 147) else mm_nop)) else (bif Nat.ble 144 pc then
  (bif Nat.beq 144 pc then (.getfield 45, 3, [(0, 1)], [[2128]], 0, 0, 0, 144) else mm_nop) else (.aload_n 0, 1, [], [], 0, 0, 0, 143))) else (bif Nat.ble 137 pc then
  (bif Nat.ble 140 pc then
  (bif Nat.beq 140 pc then (.if_icmp .ge 140, 3, [(0, 280)], [], 0, 0, 0, 140) else mm_nop) else (bif Nat.beq 137 pc then (.invokevirtual 101, 3, [(6, 106)], [[3207, 3120, 3121, 2003]], 0, 0, 0, 137) else mm_nop)) else (bif Nat.ble 134 pc then
  (bif Nat.beq 134 pc then (.getfield 45, 3, [(0, 1)], [[2128]], 0, 0, 0, 134) else mm_nop) else (.aload_n 0, 1, [], [], 0, 0, 0, 133))))))) else (bif Nat.ble 64 pc then
  (bif Nat.ble 97 pc then
  (bif Nat.ble 113 pc then
  (bif Nat.ble 122 pc then
  (bif Nat.ble 128 pc then
  (bif Nat.ble 129 pc then
  (bif Nat.ble 131 pc then
  (bif Nat.beq 131 pc then (.iload 7, 2, [], [], 7, 0, 0, 131) else mm_nop) else (bif Nat.beq 129 pc then (.istore 7, 2, [], [], 7, 0, 0, 129) else mm_nop)) else (.iconst 0, 1, [], [], 0, 0, 0, 128)) else (bif Nat.ble 125 pc then
  (bif Nat.beq 125 pc then (.invokevirtual 97, 3, [(6, 103)], [[3206, 3098, 3099, 2003]], 1, 0, 0, 125) else mm_nop) else (bif Nat.beq 122 pc then (.invokevirtual 93, 3, [(2, 28)], [[3205, 3072, 3073, 2004]], 1, 0, 0, 122) else mm_nop))) else (bif Nat.ble 117 pc then
  (bif Nat.ble 118 pc then
  (bif Nat.ble 121 pc then (.iload_n 2, 1, [], [], 2, 0, 0, 121) else (bif Nat.beq 118 pc then (.getfield 49, 3, [(0, 2)], [[2129]], 0, 0, 0, 118) else mm_nop)) else (.aload_n 0, 1, [], [], 0, 0, 0, 117)) else (bif Nat.ble 114 pc then
  (bif Nat.beq 114 pc then (.getfield 45, 3, [(0, 1)], [[2128]], 0, 0, 0, 114) else mm_nop) else (.aload_n 0, 1, [], [], 0, 0, 0, 113)))) else (bif Nat.ble 103 pc then
  (bif Nat.ble 107 pc then
  (bif Nat.ble 109 pc then
  (bif Nat.ble 112 pc then (.iastore, 1, [], [], 0, 0, 0, 112) else (bif Nat.beq 109 pc then (.invokestatic 89, 3, [(0, 138)], [[3193, 3194, 2013]], 1, 0, 0, 109) else mm_nop)) else (bif Nat.beq 107 pc then (.lload 5, 2, [], [], 5, 0, 0, 107) else mm_nop)) else (bif Nat.ble 106 pc then (.iload_n 1, 1, [], [], 1, 0, 0, 106) else (bif Nat.beq 103 pc then (.getfield 28, 3, [(0, 9)], [[2136]], 0, 0, 0, 103) else mm_nop))) else (bif Nat.ble 101 pc then
  (bif Nat.ble 102 pc then (.aload_n 0, 1, [], [], 0, 0, 0, 102) else (.iastore, 1, [], [], 0, 0, 0, 101)) else (bif Nat.ble 98 pc then
  (bif Nat.beq 98 pc then (.invokestatic 89, 3, [(0, 138)], [[3193, 3194, 2013]], 1, 0, 0, 98) else mm_nop) else (.lload_n 3, 1, [], [], 3, 0, 0, 97))))) else (bif Nat.ble 83 pc then
  (bif Nat.ble 90 pc then
  (bif Nat.ble 92 pc then
  (bif Nat.ble 93 pc then
  (bif Nat.ble 96 pc then (.iload_n 1, 1, [], [], 1, 0, 0, 96) else (bif Nat.beq 93 pc then (.getfield 25, 3, [(0, 8)], [[2135]], 0, 0, 0, 93) else mm_nop)) else (.aload_n 0, 1, [], [], 0, 0, 0, 92)) else (bif Nat.ble 91 pc then (.lastore, 1, [], [], 0, 0, 0, 91) else (.lload_n 3, 1, [], [], 3, 0, 0, 90))) else (bif Nat.ble 85 pc then
  (bif Nat.ble 86 pc then
  (bif Nat.ble 89 pc then (.iload_n 1, 1, [], [], 1, 0, 0, 89) else (bif Nat.beq 86 pc then (.getfield 22, 3, [(0, 7)], [[2134]], 0, 0, 0, 86) else mm_nop)) else (.aload_n 0, 1, [], [], 0, 0, 0, 85)) else (bif Nat.ble 84 pc then (.ireturn, 1, [], [], 0, 0, 0, 84) else (.iconst 0, 1, [], [], 0, 0, 0, 83)))) else (bif Nat.ble 71 pc then
  (bif Nat.ble 76 pc then
  (bif Nat.ble 79 pc then
  (bif Nat.ble 80 pc then
  (bif Nat.beq 80 pc then (.ifCond .ne 5, 3, [(0, 85)], [], 0, 0, 0, 80) else mm_nop) else (.lcmp, 1, [], [], 0, 0, 0, 79)) else (bif Nat.beq 76 pc then (.ldc2_w 63, 3, [], [[3143]], 0, 0, (-1), 76) else mm_nop)) else (bif Nat.ble 74 pc then
  (bif Nat.beq 74 pc then (.lload 5, 2, [], [], 5, 0, 0, 74) else mm_nop) else (bif Nat.beq 71 pc then (.ifCond .eq 12, 3, [(0, 83)], [], 0, 0, 0, 71) else mm_nop))) else (bif Nat.ble 67 pc then
  (bif Nat.ble 70 pc then (.lcmp, 1, [], [], 0, 0, 0, 70) else (bif Nat.beq 67 pc then (.ldc2_w 63, 3, [], [[3143]], 0, 0, (-1), 67) else mm_nop)) else (bif Nat.ble 66 pc then (.lload_n 3, 1, [], [], 3, 0, 0, 66) else (bif Nat.beq 64 pc then (.lstore 5, 2, [], [], 5, 0, 0, 64) else mm_nop)))))) else (bif Nat.ble 31 pc then
  (bif Nat.ble 46 pc then
  (bif Nat.ble 55 pc then
  (bif Nat.ble 59 pc then
  (bif Nat.ble 60 pc then
  (bif Nat.ble 61 pc then
  (bif Nat.beq 61 pc then (.invokestatic 82, 3, [(1, 136)], [[3160, 3161, 2013]], 3, 0, 0, 61) else mm_nop) else (.laload, 1, [], [], 0, 0, 0, 60)) else (.iload_n 1, 1, [], [], 1, 0, 0, 59)) else (bif Nat.ble 56 pc then
  (bif Nat.beq 56 pc then (.getfield 19, 3, [(0, 6)], [[2133]], 0, 0, 0, 56) else mm_nop) else (.aload_n 0, 1, [], [], 0, 0, 0, 55))) else (bif Nat.ble 50 pc then
  (bif Nat.ble 53 pc then
  (bif Nat.ble 54 pc then (.laload, 1, [], [], 0, 0, 0, 54) else (.iload_n 1, 1, [], [], 1, 0, 0, 53)) else (bif Nat.beq 50 pc then (.getfield 15, 3, [(0, 5)], [[2132]], 0, 0, 0, 50) else mm_nop)) else (bif Nat.ble 49 pc then (.aload_n 0, 1, [], [], 0, 0, 0, 49) else (bif Nat.beq 46 pc then (.invokevirtual 86, 3, [(2, 27)], [[3192, 3089, 3090, 2004]], 1, 0, 0, 46) else mm_nop)))) else (bif Nat.ble 37 pc then
  (bif Nat.ble 41 pc then
  (bif Nat.ble 42 pc then
  (bif Nat.ble 45 pc then (.iload_n 2, 1, [], [], 2, 0, 0, 45) else (bif Nat.beq 42 pc then (.getfield 49, 3, [(0, 2)], [[2129]], 0, 0, 0, 42) else mm_nop)) else (.aload_n 0, 1, [], [], 0, 0, 0, 41)) else (bif Nat.ble 40 pc then (.lstore_n 3, 1, [], [], 3, 0, 0, 40) else (bif Nat.beq 37 pc then (.invokestatic 82, 3, [(1, 136)], [[3160, 3161, 2013]], 3, 0, 0, 37) else mm_nop))) else (bif Nat.ble 35 pc then
  (bif Nat.ble 36 pc then (.laload, 1, [], [], 0, 0, 0, 36) else (.iload_n 1, 1, [], [], 1, 0, 0, 35)) else (bif Nat.ble 32 pc then
  (bif Nat.beq 32 pc then (.getfield 19, 3, [(0, 6)], [[2133]], 0, 0, 0, 32) else mm_nop) else (.aload_n 0, 1, [], [], 0, 0, 0, 31))))) else (bif Nat.ble 15 pc then
  (bif Nat.ble 22 pc then
  (bif Nat.ble 26 pc then
  (bif Nat.ble 29 pc then
  (bif Nat.ble 30 pc then (.laload, 1, [], [], 0, 0, 0, 30) else (.iload_n 1, 1, [], [], 1, 0, 0, 29)) else (bif Nat.beq 26 pc then (.getfield 15, 3, [(0, 5)], [[2132]], 0, 0, 0, 26) else mm_nop)) else (bif Nat.ble 25 pc then (.aload_n 0, 1, [], [], 0, 0, 0, 25) else (bif Nat.beq 22 pc then (.invokevirtual 76, 3, [(2, 26)], [[3156, 3157, 3158, 2004]], 1, 0, 0, 22) else mm_nop))) else (bif Nat.ble 17 pc then
  (bif Nat.ble 18 pc then
  (bif Nat.ble 21 pc then (.iload_n 2, 1, [], [], 2, 0, 0, 21) else (bif Nat.beq 18 pc then (.getfield 49, 3, [(0, 2)], [[2129]], 0, 0, 0, 18) else mm_nop)) else (.aload_n 0, 1, [], [], 0, 0, 0, 17)) else (bif Nat.ble 16 pc then (.istore_n 2, 1, [], [], 2, 0, 0, 16) else (.iaload, 1, [], [], 0, 0, 0, 15)))) else (bif Nat.ble 8 pc then
  (bif Nat.ble 10 pc then
  (bif Nat.ble 11 pc then
  (bif Nat.ble 14 pc then (.iload_n 1, 1, [], [], 1, 0, 0, 14) else (bif Nat.beq 11 pc then (.getfield 11, 3, [(0, 4)], [[2131]], 0, 0, 0, 11) else mm_nop)) else (.aload_n 0, 1, [], [], 0, 0, 0, 10)) else (bif Nat.ble 9 pc then (.ireturn, 1, [], [], 0, 0, 0, 9) else (.iconst 0, 1, [], [], 0, 0, 0, 8))) else (bif Nat.ble 2 pc then
  (bif Nat.ble 5 pc then
  (bif Nat.beq 5 pc then (.ifCond .ne 5, 3, [(0, 10)], [], 0, 0, 0, 5) else mm_nop) else (bif Nat.beq 2 pc then (.invokevirtual 73, 3, [(0, 5)], [[3152, 3154, 1008, 2006]], 1, 0, 0, 2) else mm_nop)) else (bif Nat.ble 1 pc then (.iload_n 1, 1, [], [], 1, 0, 0, 1) else (.aload_n 0, 1, [], [], 0, 0, 0, 0))))))))
def mm_k3 : List mm_E := (List.range 282).map mm_f3
def mm_m3 : mm_M := (yX0_makeOne, cX0_makeOne, 12, (some .boolean), mm_k3, 1, 0, 0, 3151)
/-- TypeCopier$Copies.copyForCall.(IJJ)I -/
def mm_f4 : Nat → mm_E := fun pc => (bif Nat.ble 55 pc then
  (bif Nat.ble 86 pc then
  (bif Nat.ble 101 pc then
  (bif Nat.ble 105 pc then
  (bif Nat.ble 109 pc then
  (bif Nat.ble 112 pc then (.ireturn, 1, [], [], 0, 0, 0, 112) else (bif Nat.beq 109 pc then (.invokevirtual 65, 3, [(0, 2)], [[3144, 3146, 1006, 2006]], 3, 0, 0, 109) else mm_nop)) else (bif Nat.ble 107 pc then
  (bif Nat.beq 107 pc then (.lload 10, 2, [], [], 10, 0, 0, 107) else mm_nop) else (bif Nat.beq 105 pc then (.lload 8, 2, [], [], 8, 0, 0, 105) else mm_nop))) else (bif Nat.ble 102 pc then
  (bif Nat.ble 103 pc then
  (bif Nat.beq 103 pc then (.iload 6, 2, [], [], 6, 0, 0, 103) else mm_nop) else (.aload_n 0, 1, [], [], 0, 0, 0, 102)) else (.ireturn, 1, [], [], 0, 0, 0, 101))) else (bif Nat.ble 92 pc then
  (bif Nat.ble 96 pc then
  (bif Nat.ble 99 pc then
  (bif Nat.beq 99 pc then (.bipush (-4), 2, [], [], 0, (-4), 0, 99) else mm_nop) else (bif Nat.beq 96 pc then (.ifCond .ne 6, 3, [(0, 102)], [], 0, 0, 0, 96) else mm_nop)) else (bif Nat.ble 95 pc then (.lcmp, 1, [], [], 0, 0, 0, 95) else (bif Nat.beq 92 pc then (.ldc2_w 63, 3, [], [[3143]], 0, 0, (-1), 92) else mm_nop))) else (bif Nat.ble 87 pc then
  (bif Nat.ble 90 pc then
  (bif Nat.beq 90 pc then (.lload 10, 2, [], [], 10, 0, 0, 90) else mm_nop) else (bif Nat.beq 87 pc then (.if_icmp .le 15, 3, [(0, 102)], [], 0, 0, 0, 87) else mm_nop)) else (.iconst 1, 1, [], [], 0, 1, 0, 86)))) else (bif Nat.ble 70 pc then
  (bif Nat.ble 77 pc then
  (bif Nat.ble 81 pc then
  (bif Nat.ble 84 pc then
  (bif Nat.beq 84 pc then (.iload 7, 2, [], [], 7, 0, 0, 84) else mm_nop) else (bif Nat.beq 81 pc then (.ifCond .eq 18, 3, [(0, 99)], [], 0, 0, 0, 81) else mm_nop)) else (bif Nat.ble 80 pc then (.lcmp, 1, [], [], 0, 0, 0, 80) else (bif Nat.beq 77 pc then (.ldc2_w 63, 3, [], [[3143]], 0, 0, (-1), 77) else mm_nop))) else (bif Nat.ble 72 pc then
  (bif Nat.ble 75 pc then
  (bif Nat.beq 75 pc then (.lload 8, 2, [], [], 8, 0, 0, 75) else mm_nop) else (bif Nat.beq 72 pc then (.ifCond .le 12, 3, [(0, 84)], [], 0, 0, 0, 72) else mm_nop)) else (bif Nat.beq 70 pc then (.iload 7, 2, [], [], 7, 0, 0, 70) else mm_nop))) else (bif Nat.ble 62 pc then
  (bif Nat.ble 65 pc then
  (bif Nat.ble 68 pc then
  (bif Nat.beq 68 pc then (.lstore 10, 2, [], [], 10, 0, 0, 68) else mm_nop) else (bif Nat.beq 65 pc then (.invokestatic 82, 3, [(1, 136)], [[3160, 3161, 2013]], 3, 0, 0, 65) else mm_nop)) else (bif Nat.ble 63 pc then
  (bif Nat.beq 63 pc then (.lload 4, 2, [], [], 4, 0, 0, 63) else mm_nop) else (.lload_n 2, 1, [], [], 2, 0, 0, 62))) else (bif Nat.ble 56 pc then
  (bif Nat.ble 59 pc then
  (bif Nat.beq 59 pc then (.invokevirtual 128, 3, [(7, 112)], [[3217, 3218, 3219, 2002]], 1, 0, 0, 59) else mm_nop) else (bif Nat.beq 56 pc then (.invokevirtual 121, 3, [(6, 97)], [[3215, 3136, 3137, 2003]], 2, 0, 0, 56) else mm_nop)) else (.iconst 3, 1, [], [], 0, 3, 0, 55))))) else (bif Nat.ble 27 pc then
  (bif Nat.ble 41 pc then
  (bif Nat.ble 47 pc then
  (bif Nat.ble 51 pc then
  (bif Nat.ble 54 pc then (.iload_n 1, 1, [], [], 1, 0, 0, 54) else (bif Nat.beq 51 pc then (.getfield 45, 3, [(0, 1)], [[2128]], 0, 0, 0, 51) else mm_nop)) else (bif Nat.ble 50 pc then (.aload_n 0, 1, [], [], 0, 0, 0, 50) else (bif Nat.beq 47 pc then (.getfield 41, 3, [(0, 0)], [[2127]], 0, 0, 0, 47) else mm_nop))) else (bif Nat.ble 44 pc then
  (bif Nat.ble 46 pc then (.aload_n 0, 1, [], [], 0, 0, 0, 46) else (bif Nat.beq 44 pc then (.lstore 8, 2, [], [], 8, 0, 0, 44) else mm_nop)) else (bif Nat.beq 41 pc then (.invokestatic 82, 3, [(1, 136)], [[3160, 3161, 2013]], 3, 0, 0, 41) else mm_nop))) else (bif Nat.ble 32 pc then
  (bif Nat.ble 38 pc then
  (bif Nat.ble 39 pc then
  (bif Nat.beq 39 pc then (.lload 4, 2, [], [], 4, 0, 0, 39) else mm_nop) else (.lload_n 2, 1, [], [], 2, 0, 0, 38)) else (bif Nat.ble 35 pc then
  (bif Nat.beq 35 pc then (.invokevirtual 128, 3, [(7, 112)], [[3217, 3218, 3219, 2002]], 1, 0, 0, 35) else mm_nop) else (bif Nat.beq 32 pc then (.invokevirtual 121, 3, [(6, 97)], [[3215, 3136, 3137, 2003]], 2, 0, 0, 32) else mm_nop))) else (bif Nat.ble 30 pc then
  (bif Nat.ble 31 pc then (.iconst 2, 1, [], [], 0, 2, 0, 31) else (.iload_n 1, 1, [], [], 1, 0, 0, 30)) else (bif Nat.beq 27 pc then (.getfield 45, 3, [(0, 1)], [[2128]], 0, 0, 0, 27) else mm_nop)))) else (bif Nat.ble 12 pc then
  (bif Nat.ble 20 pc then
  (bif Nat.ble 23 pc then
  (bif Nat.ble 26 pc then (.aload_n 0, 1, [], [], 0, 0, 0, 26) else (bif Nat.beq 23 pc then (.getfield 41, 3, [(0, 0)], [[2127]], 0, 0, 0, 23) else mm_nop)) else (bif Nat.ble 22 pc then (.aload_n 0, 1, [], [], 0, 0, 0, 22) else (bif Nat.beq 20 pc then (.istore 7, 2, [], [], 7, 0, 0, 20) else mm_nop))) else (bif Nat.ble 15 pc then
  (bif Nat.ble 17 pc then
  (bif Nat.beq 17 pc then (.invokevirtual 125, 3, [(2, 25)], [[3216, 3059, 3060, 2004]], 1, 0, 0, 17) else mm_nop) else (bif Nat.beq 15 pc then (.iload 6, 2, [], [], 6, 0, 0, 15) else mm_nop)) else (bif Nat.beq 12 pc then (.getfield 49, 3, [(0, 2)], [[2129]], 0, 0, 0, 12) else mm_nop))) else (bif Nat.ble 5 pc then
  (bif Nat.ble 9 pc then
  (bif Nat.ble 11 pc then (.aload_n 0, 1, [], [], 0, 0, 0, 11) else (bif Nat.beq 9 pc then (.istore 6, 2, [], [], 6, 0, 0, 9) else mm_nop)) else (bif Nat.ble 6 pc then
  (bif Nat.beq 6 pc then (.invokevirtual 121, 3, [(6, 97)], [[3215, 3136, 3137, 2003]], 2, 0, 0, 6) else mm_nop) else (.iconst 0, 1, [], [], 0, 0, 0, 5))) else (bif Nat.ble 1 pc then
  (bif Nat.ble 4 pc then (.iload_n 1, 1, [], [], 1, 0, 0, 4) else (bif Nat.beq 1 pc then (.getfield 45, 3, [(0, 1)], [[2128]], 0, 0, 0, 1) else mm_nop)) else (.aload_n 0, 1, [], [], 0, 0, 0, 0))))))
def mm_k4 : List mm_E := (List.range 113).map mm_f4
def mm_m4 : mm_M := (yX0_copyForCall, cX0_copyForCall, 12, (some .int), mm_k4, 3, 0, 0, 3214)
/-- TypeCopier$Copies.has.(I)Z -/
def mm_f5 : Nat → mm_E := fun pc => (bif Nat.ble 12 pc then
  (bif Nat.ble 18 pc then
  (bif Nat.ble 22 pc then
  (bif Nat.ble 23 pc then (.ireturn, 1, [], [], 0, 0, 0, 23) else (.iconst 0, 1, [], [], 0, 0, 0, 22)) else (bif Nat.ble 19 pc then
  (bif Nat.beq 19 pc then (.goto 4, 3, [(0, 23)], [], 0, 0, 0, 19) else mm_nop) else (.iconst 1, 1, [], [], 0, 1, 0, 18))) else (bif Nat.ble 13 pc then
  (bif Nat.ble 15 pc then
  (bif Nat.beq 15 pc then (.if_icmp .ge 7, 3, [(0, 22)], [], 0, 0, 0, 15) else mm_nop) else (bif Nat.beq 13 pc then (.bipush 60, 2, [], [], 0, 60, 0, 13) else mm_nop)) else (.iload_n 1, 1, [], [], 1, 0, 0, 12))) else (bif Nat.ble 5 pc then
  (bif Nat.ble 6 pc then
  (bif Nat.ble 9 pc then
  (bif Nat.beq 9 pc then (.if_icmp .ge 13, 3, [(0, 22)], [], 0, 0, 0, 9) else mm_nop) else (bif Nat.beq 6 pc then (.getfield 57, 3, [(0, 12)], [[2139]], 0, 0, 0, 6) else mm_nop)) else (.aload_n 0, 1, [], [], 0, 0, 0, 5)) else (bif Nat.ble 1 pc then
  (bif Nat.ble 4 pc then (.iload_n 1, 1, [], [], 1, 0, 0, 4) else (bif Nat.beq 1 pc then (.ifCond .lt 21, 3, [(0, 22)], [], 0, 0, 0, 1) else mm_nop)) else (.iload_n 1, 1, [], [], 1, 0, 0, 0))))
def mm_k5 : List mm_E := (List.range 24).map mm_f5
def mm_m5 : mm_M := (yX0_has, cX0_has, 2, (some .boolean), mm_k5, 1, 0, 0, 3155)
/-- TypeCopier$Copies.functionOf.(I)I -/
def mm_f6 : Nat → mm_E := fun pc => (bif Nat.ble 9 pc then
  (bif Nat.ble 14 pc then
  (bif Nat.ble 17 pc then
  (bif Nat.ble 18 pc then (.ireturn, 1, [], [], 0, 0, 0, 18) else (.iconst (-1), 1, [], [], 0, (-1), 0, 17)) else (bif Nat.beq 14 pc then (.goto 4, 3, [(0, 18)], [], 0, 0, 0, 14) else mm_nop)) else (bif Nat.ble 12 pc then
  (bif Nat.ble 13 pc then (.iaload, 1, [], [], 0, 0, 0, 13) else (.iload_n 1, 1, [], [], 1, 0, 0, 12)) else (bif Nat.beq 9 pc then (.getfield 11, 3, [(0, 4)], [[2131]], 0, 0, 0, 9) else mm_nop))) else (bif Nat.ble 2 pc then
  (bif Nat.ble 5 pc then
  (bif Nat.ble 8 pc then (.aload_n 0, 1, [], [], 0, 0, 0, 8) else (bif Nat.beq 5 pc then (.ifCond .eq 12, 3, [(0, 17)], [], 0, 0, 0, 5) else mm_nop)) else (bif Nat.beq 2 pc then (.invokevirtual 73, 3, [(0, 5)], [[3152, 3154, 1008, 2006]], 1, 0, 0, 2) else mm_nop)) else (bif Nat.ble 1 pc then (.iload_n 1, 1, [], [], 1, 0, 0, 1) else (.aload_n 0, 1, [], [], 0, 0, 0, 0))))
def mm_k6 : List mm_E := (List.range 19).map mm_f6
def mm_m6 : mm_M := (yX0_functionOf, cX0_functionOf, 2, (some .int), mm_k6, 1, 0, 0, 5109)
/-- TypeCopier$Copies.argumentWidth.(I)I -/
def mm_f7 : Nat → mm_E := fun pc => (bif Nat.ble 9 pc then
  (bif Nat.ble 14 pc then
  (bif Nat.ble 17 pc then
  (bif Nat.ble 18 pc then (.ireturn, 1, [], [], 0, 0, 0, 18) else (.iconst 0, 1, [], [], 0, 0, 0, 17)) else (bif Nat.beq 14 pc then (.goto 4, 3, [(0, 18)], [], 0, 0, 0, 14) else mm_nop)) else (bif Nat.ble 12 pc then
  (bif Nat.ble 13 pc then (.iaload, 1, [], [], 0, 0, 0, 13) else (.iload_n 1, 1, [], [], 1, 0, 0, 12)) else (bif Nat.beq 9 pc then (.getfield 25, 3, [(0, 8)], [[2135]], 0, 0, 0, 9) else mm_nop))) else (bif Nat.ble 2 pc then
  (bif Nat.ble 5 pc then
  (bif Nat.ble 8 pc then (.aload_n 0, 1, [], [], 0, 0, 0, 8) else (bif Nat.beq 5 pc then (.ifCond .eq 12, 3, [(0, 17)], [], 0, 0, 0, 5) else mm_nop)) else (bif Nat.beq 2 pc then (.invokevirtual 73, 3, [(0, 5)], [[3152, 3154, 1008, 2006]], 1, 0, 0, 2) else mm_nop)) else (bif Nat.ble 1 pc then (.iload_n 1, 1, [], [], 1, 0, 0, 1) else (.aload_n 0, 1, [], [], 0, 0, 0, 0))))
def mm_k7 : List mm_E := (List.range 19).map mm_f7
def mm_m7 : mm_M := (yX0_argumentWidth, cX0_argumentWidth, 2, (some .int), mm_k7, 1, 0, 0, 5091)
/-- TypeCopier$Copies.resultWidth.(I)I -/
def mm_f8 : Nat → mm_E := fun pc => (bif Nat.ble 9 pc then
  (bif Nat.ble 14 pc then
  (bif Nat.ble 17 pc then
  (bif Nat.ble 18 pc then (.ireturn, 1, [], [], 0, 0, 0, 18) else (.iconst 0, 1, [], [], 0, 0, 0, 17)) else (bif Nat.beq 14 pc then (.goto 4, 3, [(0, 18)], [], 0, 0, 0, 14) else mm_nop)) else (bif Nat.ble 12 pc then
  (bif Nat.ble 13 pc then (.iaload, 1, [], [], 0, 0, 0, 13) else (.iload_n 1, 1, [], [], 1, 0, 0, 12)) else (bif Nat.beq 9 pc then (.getfield 28, 3, [(0, 9)], [[2136]], 0, 0, 0, 9) else mm_nop))) else (bif Nat.ble 2 pc then
  (bif Nat.ble 5 pc then
  (bif Nat.ble 8 pc then (.aload_n 0, 1, [], [], 0, 0, 0, 8) else (bif Nat.beq 5 pc then (.ifCond .eq 12, 3, [(0, 17)], [], 0, 0, 0, 5) else mm_nop)) else (bif Nat.beq 2 pc then (.invokevirtual 73, 3, [(0, 5)], [[3152, 3154, 1008, 2006]], 1, 0, 0, 2) else mm_nop)) else (bif Nat.ble 1 pc then (.iload_n 1, 1, [], [], 1, 0, 0, 1) else (.aload_n 0, 1, [], [], 0, 0, 0, 0))))
def mm_k8 : List mm_E := (List.range 19).map mm_f8
def mm_m8 : mm_M := (yX0_resultWidth, cX0_resultWidth, 2, (some .int), mm_k8, 1, 0, 0, 5174)
/-- TypeCopier$Copies.widthAt.(II)I -/
def mm_f9 : Nat → mm_E := fun pc => (bif Nat.ble 19 pc then
  (bif Nat.ble 25 pc then
  (bif Nat.ble 27 pc then
  (bif Nat.ble 30 pc then
  (bif Nat.ble 31 pc then (.ireturn, 1, [], [], 0, 0, 0, 31) else (.iconst 0, 1, [], [], 0, 0, 0, 30)) else (bif Nat.beq 27 pc then (.goto 4, 3, [(0, 31)], [], 0, 0, 0, 27) else mm_nop)) else (bif Nat.ble 26 pc then (.iaload, 1, [], [], 0, 0, 0, 26) else (.iload_n 2, 1, [], [], 2, 0, 0, 25))) else (bif Nat.ble 23 pc then
  (bif Nat.ble 24 pc then (.aaload, 1, [], [], 0, 0, 0, 24) else (.iload_n 1, 1, [], [], 1, 0, 0, 23)) else (bif Nat.ble 20 pc then
  (bif Nat.beq 20 pc then (.getfield 35, 3, [(0, 10)], [[2137]], 0, 0, 0, 20) else mm_nop) else (.aload_n 0, 1, [], [], 0, 0, 0, 19)))) else (bif Nat.ble 8 pc then
  (bif Nat.ble 12 pc then
  (bif Nat.ble 13 pc then
  (bif Nat.ble 16 pc then
  (bif Nat.beq 16 pc then (.ifCond .eq 14, 3, [(0, 30)], [], 0, 0, 0, 16) else mm_nop) else (bif Nat.beq 13 pc then (.invokevirtual 120, 3, [(6, 92)], [[3226, 3084, 3085, 2003]], 1, 0, 0, 13) else mm_nop)) else (.iload_n 2, 1, [], [], 2, 0, 0, 12)) else (bif Nat.ble 9 pc then
  (bif Nat.beq 9 pc then (.getfield 45, 3, [(0, 1)], [[2128]], 0, 0, 0, 9) else mm_nop) else (.aload_n 0, 1, [], [], 0, 0, 0, 8))) else (bif Nat.ble 2 pc then
  (bif Nat.ble 5 pc then
  (bif Nat.beq 5 pc then (.ifCond .eq 25, 3, [(0, 30)], [], 0, 0, 0, 5) else mm_nop) else (bif Nat.beq 2 pc then (.invokevirtual 73, 3, [(0, 5)], [[3152, 3154, 1008, 2006]], 1, 0, 0, 2) else mm_nop)) else (bif Nat.ble 1 pc then (.iload_n 1, 1, [], [], 1, 0, 0, 1) else (.aload_n 0, 1, [], [], 0, 0, 0, 0)))))
def mm_k9 : List mm_E := (List.range 32).map mm_f9
def mm_m9 : mm_M := (yX0_widthAt, cX0_widthAt, 3, (some .int), mm_k9, 2, 0, 0, 5212)
/-- TypeCopier$Copies.calledAt.(II)I -/
def mm_f10 : Nat → mm_E := fun pc => (bif Nat.ble 19 pc then
  (bif Nat.ble 25 pc then
  (bif Nat.ble 27 pc then
  (bif Nat.ble 30 pc then
  (bif Nat.ble 31 pc then (.ireturn, 1, [], [], 0, 0, 0, 31) else (.iconst (-1), 1, [], [], 0, (-1), 0, 30)) else (bif Nat.beq 27 pc then (.goto 4, 3, [(0, 31)], [], 0, 0, 0, 27) else mm_nop)) else (bif Nat.ble 26 pc then (.iaload, 1, [], [], 0, 0, 0, 26) else (.iload_n 2, 1, [], [], 2, 0, 0, 25))) else (bif Nat.ble 23 pc then
  (bif Nat.ble 24 pc then (.aaload, 1, [], [], 0, 0, 0, 24) else (.iload_n 1, 1, [], [], 1, 0, 0, 23)) else (bif Nat.ble 20 pc then
  (bif Nat.beq 20 pc then (.getfield 38, 3, [(0, 11)], [[2138]], 0, 0, 0, 20) else mm_nop) else (.aload_n 0, 1, [], [], 0, 0, 0, 19)))) else (bif Nat.ble 8 pc then
  (bif Nat.ble 12 pc then
  (bif Nat.ble 13 pc then
  (bif Nat.ble 16 pc then
  (bif Nat.beq 16 pc then (.ifCond .eq 14, 3, [(0, 30)], [], 0, 0, 0, 16) else mm_nop) else (bif Nat.beq 13 pc then (.invokevirtual 120, 3, [(6, 92)], [[3226, 3084, 3085, 2003]], 1, 0, 0, 13) else mm_nop)) else (.iload_n 2, 1, [], [], 2, 0, 0, 12)) else (bif Nat.ble 9 pc then
  (bif Nat.beq 9 pc then (.getfield 45, 3, [(0, 1)], [[2128]], 0, 0, 0, 9) else mm_nop) else (.aload_n 0, 1, [], [], 0, 0, 0, 8))) else (bif Nat.ble 2 pc then
  (bif Nat.ble 5 pc then
  (bif Nat.beq 5 pc then (.ifCond .eq 25, 3, [(0, 30)], [], 0, 0, 0, 5) else mm_nop) else (bif Nat.beq 2 pc then (.invokevirtual 73, 3, [(0, 5)], [[3152, 3154, 1008, 2006]], 1, 0, 0, 2) else mm_nop)) else (bif Nat.ble 1 pc then (.iload_n 1, 1, [], [], 1, 0, 0, 1) else (.aload_n 0, 1, [], [], 0, 0, 0, 0)))))
def mm_k10 : List mm_E := (List.range 32).map mm_f10
def mm_m10 : mm_M := (yX0_calledAt, cX0_calledAt, 3, (some .int), mm_k10, 2, 0, 0, 5156)
/-- TypeCopier$Copies.factOf.(II)I -/
def mm_f11 : Nat → mm_E := fun pc => (bif Nat.ble 74 pc then
  (bif Nat.ble 94 pc then
  (bif Nat.ble 102 pc then
  (bif Nat.ble 107 pc then
  (bif Nat.ble 111 pc then
  (bif Nat.ble 113 pc then (.ireturn, 1, [], [], 0, 0, 0, 113) else (bif Nat.beq 111 pc then (.bipush (-2), 2, [], [], 0, (-2), 0, 111) else mm_nop)) else (bif Nat.ble 110 pc then (.ireturn, 1, [], [], 0, 0, 0, 110) else (bif Nat.beq 107 pc then (.invokevirtual 133, 3, [(7, 113)], [[4207, 4036, 4037, 2002]], 1, 0, 0, 107) else mm_nop))) else (bif Nat.ble 105 pc then
  (bif Nat.ble 106 pc then (.laload, 1, [], [], 0, 0, 0, 106) else (.iload_n 1, 1, [], [], 1, 0, 0, 105)) else (bif Nat.beq 102 pc then (.getfield 22, 3, [(0, 7)], [[2134]], 0, 0, 0, 102) else mm_nop))) else (bif Nat.ble 97 pc then
  (bif Nat.ble 98 pc then
  (bif Nat.ble 101 pc then (.aload_n 0, 1, [], [], 0, 0, 0, 101) else (bif Nat.beq 98 pc then (.getfield 41, 3, [(0, 0)], [[2127]], 0, 0, 0, 98) else mm_nop)) else (.aload_n 0, 1, [], [], 0, 0, 0, 97)) else (bif Nat.ble 95 pc then
  (bif Nat.ble 96 pc then (.ireturn, 1, [], [], 0, 0, 0, 96) else (.iaload, 1, [], [], 0, 0, 0, 95)) else (.iload_n 1, 1, [], [], 1, 0, 0, 94)))) else (bif Nat.ble 84 pc then
  (bif Nat.ble 89 pc then
  (bif Nat.ble 90 pc then
  (bif Nat.ble 91 pc then
  (bif Nat.beq 91 pc then (.getfield 28, 3, [(0, 9)], [[2136]], 0, 0, 0, 91) else mm_nop) else (.aload_n 0, 1, [], [], 0, 0, 0, 90)) else (.ireturn, 1, [], [], 0, 0, 0, 89)) else (bif Nat.ble 87 pc then
  (bif Nat.ble 88 pc then (.iaload, 1, [], [], 0, 0, 0, 88) else (.iload_n 1, 1, [], [], 1, 0, 0, 87)) else (bif Nat.beq 84 pc then (.getfield 25, 3, [(0, 8)], [[2135]], 0, 0, 0, 84) else mm_nop))) else (bif Nat.ble 79 pc then
  (bif Nat.ble 82 pc then
  (bif Nat.ble 83 pc then (.aload_n 0, 1, [], [], 0, 0, 0, 83) else (.ireturn, 1, [], [], 0, 0, 0, 82)) else (bif Nat.beq 79 pc then (.invokevirtual 133, 3, [(7, 113)], [[4207, 4036, 4037, 2002]], 1, 0, 0, 79) else mm_nop)) else (bif Nat.ble 77 pc then
  (bif Nat.ble 78 pc then (.laload, 1, [], [], 0, 0, 0, 78) else (.iload_n 1, 1, [], [], 1, 0, 0, 77)) else (bif Nat.beq 74 pc then (.getfield 19, 3, [(0, 6)], [[2133]], 0, 0, 0, 74) else mm_nop))))) else (bif Nat.ble 54 pc then
  (bif Nat.ble 64 pc then
  (bif Nat.ble 69 pc then
  (bif Nat.ble 70 pc then
  (bif Nat.ble 73 pc then (.aload_n 0, 1, [], [], 0, 0, 0, 73) else (bif Nat.beq 70 pc then (.getfield 41, 3, [(0, 0)], [[2127]], 0, 0, 0, 70) else mm_nop)) else (.aload_n 0, 1, [], [], 0, 0, 0, 69)) else (bif Nat.ble 65 pc then
  (bif Nat.ble 68 pc then (.ireturn, 1, [], [], 0, 0, 0, 68) else (bif Nat.beq 65 pc then (.invokevirtual 133, 3, [(7, 113)], [[4207, 4036, 4037, 2002]], 1, 0, 0, 65) else mm_nop)) else (.laload, 1, [], [], 0, 0, 0, 64))) else (bif Nat.ble 59 pc then
  (bif Nat.ble 60 pc then
  (bif Nat.ble 63 pc then (.iload_n 1, 1, [], [], 1, 0, 0, 63) else (bif Nat.beq 60 pc then (.getfield 15, 3, [(0, 5)], [[2132]], 0, 0, 0, 60) else mm_nop)) else (.aload_n 0, 1, [], [], 0, 0, 0, 59)) else (bif Nat.ble 55 pc then
  (bif Nat.ble 56 pc then
  (bif Nat.beq 56 pc then (.getfield 41, 3, [(0, 0)], [[2127]], 0, 0, 0, 56) else mm_nop) else (.aload_n 0, 1, [], [], 0, 0, 0, 55)) else (.ireturn, 1, [], [], 0, 0, 0, 54)))) else (bif Nat.ble 10 pc then
  (bif Nat.ble 49 pc then
  (bif Nat.ble 52 pc then
  (bif Nat.ble 53 pc then (.iaload, 1, [], [], 0, 0, 0, 53) else (.iload_n 1, 1, [], [], 1, 0, 0, 52)) else (bif Nat.beq 49 pc then (.getfield 11, 3, [(0, 4)], [[2131]], 0, 0, 0, 49) else mm_nop)) else (bif Nat.ble 11 pc then
  (bif Nat.ble 48 pc then (.aload_n 0, 1, [], [], 0, 0, 0, 48) else (bif Nat.beq 11 pc then (.tableswitch 100 0 5 #[37, 44, 58, 72, 79, 86], 37, [(0, 111), (0, 48), (1, 55), (2, 69), (3, 83), (4, 90), (5, 97)], [], 0, 0, 0, 11) else mm_nop)) else (.iload_n 2, 1, [], [], 2, 0, 0, 10))) else (bif Nat.ble 5 pc then
  (bif Nat.ble 8 pc then
  (bif Nat.ble 9 pc then (.ireturn, 1, [], [], 0, 0, 0, 9) else (.iconst (-1), 1, [], [], 0, (-1), 0, 8)) else (bif Nat.beq 5 pc then (.ifCond .ne 5, 3, [(0, 10)], [], 0, 0, 0, 5) else mm_nop)) else (bif Nat.ble 1 pc then
  (bif Nat.ble 2 pc then
  (bif Nat.beq 2 pc then (.invokevirtual 73, 3, [(0, 5)], [[3152, 3154, 1008, 2006]], 1, 0, 0, 2) else mm_nop) else (.iload_n 1, 1, [], [], 1, 0, 0, 1)) else (.aload_n 0, 1, [], [], 0, 0, 0, 0))))))
def mm_k11 : List mm_E := (List.range 114).map mm_f11
def mm_m11 : mm_M := (yX0_factOf, cX0_factOf, 3, (some .int), mm_k11, 2, 0, 0, 4206)
/-- TypeCopier$CopyMachine.<init>.(LTypeCopier$Nodes;LTypeCopier$Input;LTypeCopier$Report;LTypeCopier$Functions;LTypeCopier$Copies;)V -/
def mm_f12 : Nat → mm_E := fun pc => (bif Nat.ble 8 pc then
  (bif Nat.ble 14 pc then
  (bif Nat.ble 16 pc then
  (bif Nat.ble 19 pc then (.return_, 1, [], [], 0, 0, 0, 19) else (bif Nat.beq 16 pc then (.putfield 13, 3, [(1, 13)], [[3028]], 1, 0, 0, 16) else mm_nop)) else (bif Nat.beq 14 pc then (.aload 5, 2, [], [], 5, 0, 0, 14) else mm_nop)) else (bif Nat.ble 10 pc then
  (bif Nat.ble 13 pc then (.aload_n 0, 1, [], [], 0, 0, 0, 13) else (bif Nat.beq 10 pc then (.putfield 7, 3, [(1, 12)], [[3027]], 1, 0, 0, 10) else mm_nop)) else (bif Nat.beq 8 pc then (.aload 4, 2, [], [], 4, 0, 0, 8) else mm_nop))) else (bif Nat.ble 3 pc then
  (bif Nat.ble 4 pc then
  (bif Nat.ble 7 pc then (.aload_n 0, 1, [], [], 0, 0, 0, 7) else (bif Nat.beq 4 pc then (.invokespecial 1, 3, [(0, 65)], [[3026, 2214, 2009]], 3, 0, 0, 4) else mm_nop)) else (.aload_n 3, 1, [], [], 3, 0, 0, 3)) else (bif Nat.ble 1 pc then
  (bif Nat.ble 2 pc then (.aload_n 2, 1, [], [], 2, 0, 0, 2) else (.aload_n 1, 1, [], [], 1, 0, 0, 1)) else (.aload_n 0, 1, [], [], 0, 0, 0, 0))))
def mm_k12 : List mm_E := (List.range 20).map mm_f12
def mm_m12 : mm_M := (yX1_init, cX1_init, 6, none, mm_k12, 5, 5, 9452, 3025)
/-- TypeCopier$CopyMachine.bodyOf.(I)I -/
def mm_f13 : Nat → mm_E := fun pc => (bif Nat.ble 8 pc then
  (bif Nat.ble 12 pc then
  (bif Nat.ble 15 pc then (.ireturn, 1, [], [], 0, 0, 0, 15) else (bif Nat.beq 12 pc then (.invokevirtual 23, 3, [(2, 28)], [[5110, 3072, 3073, 2004]], 1, 0, 0, 12) else mm_nop)) else (bif Nat.ble 9 pc then
  (bif Nat.beq 9 pc then (.invokevirtual 17, 3, [(0, 6)], [[5106, 5107, 5108, 2006]], 1, 0, 0, 9) else mm_nop) else (.iload_n 1, 1, [], [], 1, 0, 0, 8))) else (bif Nat.ble 4 pc then
  (bif Nat.ble 5 pc then
  (bif Nat.beq 5 pc then (.getfield 13, 3, [(1, 13)], [[3028]], 0, 0, 0, 5) else mm_nop) else (.aload_n 0, 1, [], [], 0, 0, 0, 4)) else (bif Nat.ble 1 pc then
  (bif Nat.beq 1 pc then (.getfield 7, 3, [(1, 12)], [[3027]], 0, 0, 0, 1) else mm_nop) else (.aload_n 0, 1, [], [], 0, 0, 0, 0))))
def mm_k13 : List mm_E := (List.range 16).map mm_f13
def mm_m13 : mm_M := (yX1_bodyOf, cX1_bodyOf, 2, (some .int), mm_k13, 1, 0, 0, 5105)
/-- TypeCopier$CopyMachine.calledAt.(II)I -/
def mm_f14 : Nat → mm_E := fun pc => (bif Nat.ble 5 pc then
  (bif Nat.ble 6 pc then
  (bif Nat.ble 9 pc then (.ireturn, 1, [], [], 0, 0, 0, 9) else (bif Nat.beq 6 pc then (.invokevirtual 28, 3, [(0, 10)], [[5153, 5154, 5155, 2006]], 2, 0, 0, 6) else mm_nop)) else (.iload_n 2, 1, [], [], 2, 0, 0, 5)) else (bif Nat.ble 1 pc then
  (bif Nat.ble 4 pc then (.iload_n 1, 1, [], [], 1, 0, 0, 4) else (bif Nat.beq 1 pc then (.getfield 13, 3, [(1, 13)], [[3028]], 0, 0, 0, 1) else mm_nop)) else (.aload_n 0, 1, [], [], 0, 0, 0, 0)))
def mm_k14 : List mm_E := (List.range 10).map mm_f14
def mm_m14 : mm_M := (yX1_calledAt, cX1_calledAt, 3, (some .int), mm_k14, 2, 0, 0, 5152)
/-- TypeCopier$CopyMachine.argumentWidth.(I)I -/
def mm_f15 : Nat → mm_E := fun pc => (bif Nat.ble 4 pc then
  (bif Nat.ble 5 pc then
  (bif Nat.ble 8 pc then (.ireturn, 1, [], [], 0, 0, 0, 8) else (bif Nat.beq 5 pc then (.invokevirtual 32, 3, [(0, 7)], [[5088, 5089, 5090, 2006]], 1, 0, 0, 5) else mm_nop)) else (.iload_n 1, 1, [], [], 1, 0, 0, 4)) else (bif Nat.ble 1 pc then
  (bif Nat.beq 1 pc then (.getfield 13, 3, [(1, 13)], [[3028]], 0, 0, 0, 1) else mm_nop) else (.aload_n 0, 1, [], [], 0, 0, 0, 0)))
def mm_k15 : List mm_E := (List.range 9).map mm_f15
def mm_m15 : mm_M := (yX1_argumentWidth, cX1_argumentWidth, 2, (some .int), mm_k15, 1, 0, 0, 5087)
/-- TypeCopier$CopyMachine.resultWidth.(I)I -/
def mm_f16 : Nat → mm_E := fun pc => (bif Nat.ble 4 pc then
  (bif Nat.ble 5 pc then
  (bif Nat.ble 8 pc then (.ireturn, 1, [], [], 0, 0, 0, 8) else (bif Nat.beq 5 pc then (.invokevirtual 35, 3, [(0, 8)], [[5171, 5172, 5173, 2006]], 1, 0, 0, 5) else mm_nop)) else (.iload_n 1, 1, [], [], 1, 0, 0, 4)) else (bif Nat.ble 1 pc then
  (bif Nat.beq 1 pc then (.getfield 13, 3, [(1, 13)], [[3028]], 0, 0, 0, 1) else mm_nop) else (.aload_n 0, 1, [], [], 0, 0, 0, 0)))
def mm_k16 : List mm_E := (List.range 9).map mm_f16
def mm_m16 : mm_M := (yX1_resultWidth, cX1_resultWidth, 2, (some .int), mm_k16, 1, 0, 0, 5170)
/-- TypeCopier$CopyMachine.nodeWidth.(II)I -/
def mm_f17 : Nat → mm_E := fun pc => (bif Nat.ble 5 pc then
  (bif Nat.ble 6 pc then
  (bif Nat.ble 9 pc then (.ireturn, 1, [], [], 0, 0, 0, 9) else (bif Nat.beq 6 pc then (.invokevirtual 38, 3, [(0, 9)], [[5209, 5210, 5211, 2006]], 2, 0, 0, 6) else mm_nop)) else (.iload_n 2, 1, [], [], 2, 0, 0, 5)) else (bif Nat.ble 1 pc then
  (bif Nat.ble 4 pc then (.iload_n 1, 1, [], [], 1, 0, 0, 4) else (bif Nat.beq 1 pc then (.getfield 13, 3, [(1, 13)], [[3028]], 0, 0, 0, 1) else mm_nop)) else (.aload_n 0, 1, [], [], 0, 0, 0, 0)))
def mm_k17 : List mm_E := (List.range 10).map mm_f17
def mm_m17 : mm_M := (yX1_nodeWidth, cX1_nodeWidth, 3, (some .int), mm_k17, 2, 0, 0, 5208)
/-- TypeCopier$CopyMachine.shapeWidth.(J)I -/
def mm_f18 : Nat → mm_E := fun pc => (bif Nat.ble 1 pc then
  (bif Nat.ble 4 pc then (.ireturn, 1, [], [], 0, 0, 0, 4) else (bif Nat.beq 1 pc then (.invokestatic 41, 3, [(0, 138)], [[5066, 3194, 2013]], 1, 0, 0, 1) else mm_nop)) else (.lload_n 1, 1, [], [], 1, 0, 0, 0))
def mm_k18 : List mm_E := (List.range 5).map mm_f18
def mm_m18 : mm_M := (yX1_shapeWidth, cX1_shapeWidth, 3, (some .int), mm_k18, 1, 0, 0, 5065)
/-- TypeCopier$CopyMachine.join.()V -/
def mm_f19 : Nat → mm_E := fun pc => (.return_, 1, [], [], 0, 0, 0, 0)
def mm_k19 : List mm_E := (List.range 1).map mm_f19
def mm_m19 : mm_M := (yX1_join, cX1_join, 1, none, mm_k19, 0, 0, 0, 5030)
/-- TypeCopier$CopyMachine.takePart.(IIZ)V -/
def mm_f20 : Nat → mm_E := fun pc => (bif Nat.ble 22 pc then
  (bif Nat.ble 33 pc then
  (bif Nat.ble 39 pc then
  (bif Nat.ble 42 pc then
  (bif Nat.ble 45 pc then (.return_, 1, [], [], 0, 0, 0, 45) else (bif Nat.beq 42 pc then (.invokevirtual 59, 3, [(1, 88)], [[5213, 5214, 5216, 5179, 2009]], 3, 0, 0, 42) else mm_nop)) else (bif Nat.ble 40 pc then
  (bif Nat.beq 40 pc then (.iload 5, 2, [], [], 5, 0, 0, 40) else mm_nop) else (.iconst 0, 1, [], [], 0, 0, 0, 39))) else (bif Nat.ble 35 pc then
  (bif Nat.ble 36 pc then
  (bif Nat.beq 36 pc then (.goto 4, 3, [(0, 40)], [], 0, 0, 0, 36) else mm_nop) else (.isub, 1, [], [], 0, 0, 0, 35)) else (bif Nat.beq 33 pc then (.iload 5, 2, [], [], 5, 0, 0, 33) else mm_nop))) else (bif Nat.ble 27 pc then
  (bif Nat.ble 28 pc then
  (bif Nat.ble 31 pc then
  (bif Nat.beq 31 pc then (.iload 4, 2, [], [], 4, 0, 0, 31) else mm_nop) else (bif Nat.beq 28 pc then (.ifCond .eq 11, 3, [(0, 39)], [], 0, 0, 0, 28) else mm_nop)) else (.iload_n 3, 1, [], [], 3, 0, 0, 27)) else (bif Nat.ble 24 pc then
  (bif Nat.ble 25 pc then
  (bif Nat.beq 25 pc then (.iload 4, 2, [], [], 4, 0, 0, 25) else mm_nop) else (.aload_n 0, 1, [], [], 0, 0, 0, 24)) else (bif Nat.beq 22 pc then (.istore 5, 2, [], [], 5, 0, 0, 22) else mm_nop)))) else (bif Nat.ble 8 pc then
  (bif Nat.ble 16 pc then
  (bif Nat.ble 18 pc then
  (bif Nat.ble 19 pc then
  (bif Nat.beq 19 pc then (.invokevirtual 56, 3, [(1, 17)], [[5205, 5206, 5207, 2011]], 2, 0, 0, 19) else mm_nop) else (.iload_n 2, 1, [], [], 2, 0, 0, 18)) else (bif Nat.ble 17 pc then (.iload_n 1, 1, [], [], 1, 0, 0, 17) else (.aload_n 0, 1, [], [], 0, 0, 0, 16))) else (bif Nat.ble 11 pc then
  (bif Nat.ble 14 pc then
  (bif Nat.beq 14 pc then (.istore 4, 2, [], [], 4, 0, 0, 14) else mm_nop) else (bif Nat.beq 11 pc then (.invokevirtual 56, 3, [(1, 17)], [[5205, 5206, 5207, 2011]], 2, 0, 0, 11) else mm_nop)) else (bif Nat.beq 8 pc then (.invokevirtual 51, 3, [(6, 98)], [[5204, 3116, 3117, 2003]], 2, 0, 0, 8) else mm_nop))) else (bif Nat.ble 3 pc then
  (bif Nat.ble 6 pc then
  (bif Nat.ble 7 pc then (.iconst 0, 1, [], [], 0, 0, 0, 7) else (.iload_n 2, 1, [], [], 2, 0, 0, 6)) else (bif Nat.beq 3 pc then (.getfield 47, 3, [(1, 0)], [[2221, 2222]], 0, 0, 0, 3) else mm_nop)) else (bif Nat.ble 1 pc then
  (bif Nat.ble 2 pc then (.aload_n 0, 1, [], [], 0, 0, 0, 2) else (.iload_n 1, 1, [], [], 1, 0, 0, 1)) else (.aload_n 0, 1, [], [], 0, 0, 0, 0)))))
def mm_k20 : List mm_E := (List.range 46).map mm_f20
def mm_m20 : mm_M := (yX1_takePart, cX1_takePart, 6, none, mm_k20, 3, 0, 0, 5203)
/-- TypeCopier$CopyMachine.partAddress.(JIZ)I -/
def mm_f21 : Nat → mm_E := fun pc => (bif Nat.ble 10 pc then
  (bif Nat.ble 14 pc then
  (bif Nat.ble 17 pc then
  (bif Nat.ble 18 pc then (.ireturn, 1, [], [], 0, 0, 0, 18) else (.iload_n 3, 1, [], [], 3, 0, 0, 17)) else (bif Nat.beq 14 pc then (.goto 4, 3, [(0, 18)], [], 0, 0, 0, 14) else mm_nop)) else (bif Nat.ble 13 pc then (.iadd, 1, [], [], 0, 0, 0, 13) else (bif Nat.beq 10 pc then (.invokestatic 41, 3, [(0, 138)], [[5066, 3194, 2013]], 1, 0, 0, 10) else mm_nop))) else (bif Nat.ble 5 pc then
  (bif Nat.ble 6 pc then
  (bif Nat.ble 7 pc then
  (bif Nat.beq 7 pc then (.invokestatic 63, 3, [(0, 134)], [[6017, 3173, 2013]], 1, 0, 0, 7) else mm_nop) else (.lload_n 1, 1, [], [], 1, 0, 0, 6)) else (.iload_n 3, 1, [], [], 3, 0, 0, 5)) else (bif Nat.ble 2 pc then
  (bif Nat.beq 2 pc then (.ifCond .eq 15, 3, [(0, 17)], [], 0, 0, 0, 2) else mm_nop) else (bif Nat.beq 0 pc then (.iload 4, 2, [], [], 4, 0, 0, 0) else mm_nop))))
def mm_k21 : List mm_E := (List.range 19).map mm_f21
def mm_m21 : mm_M := (yX1_partAddress, cX1_partAddress, 5, (some .int), mm_k21, 3, 0, 0, 6016)
/-- TypeCopier$Functions.<init>.()V -/
def mm_f22 : Nat → mm_E := fun pc => (bif Nat.ble 29 pc then
  (bif Nat.ble 45 pc then
  (bif Nat.ble 53 pc then
  (bif Nat.ble 57 pc then
  (bif Nat.ble 60 pc then (.return_, 1, [], [], 0, 0, 0, 60) else (bif Nat.beq 57 pc then (.putfield 31, 3, [(2, 6)], [[2079]], 1, 0, 0, 57) else mm_nop)) else (bif Nat.ble 55 pc then
  (bif Nat.beq 55 pc then (.newarray .int, 2, [(0, 12)], [[2066]], 0, 0, 0, 55) else mm_nop) else (bif Nat.beq 53 pc then (.bipush 12, 2, [], [], 0, 12, 0, 53) else mm_nop))) else (bif Nat.ble 49 pc then
  (bif Nat.ble 52 pc then (.aload_n 0, 1, [], [], 0, 0, 0, 52) else (bif Nat.beq 49 pc then (.putfield 28, 3, [(2, 5)], [[2078]], 1, 0, 0, 49) else mm_nop)) else (bif Nat.ble 47 pc then
  (bif Nat.beq 47 pc then (.newarray .int, 2, [(0, 12)], [[2066]], 0, 0, 0, 47) else mm_nop) else (bif Nat.beq 45 pc then (.bipush 12, 2, [], [], 0, 12, 0, 45) else mm_nop)))) else (bif Nat.ble 37 pc then
  (bif Nat.ble 41 pc then
  (bif Nat.ble 44 pc then (.aload_n 0, 1, [], [], 0, 0, 0, 44) else (bif Nat.beq 41 pc then (.putfield 25, 3, [(2, 4)], [[2077]], 1, 0, 0, 41) else mm_nop)) else (bif Nat.ble 39 pc then
  (bif Nat.beq 39 pc then (.newarray .long, 2, [(1, 12)], [[2037]], 0, 0, 0, 39) else mm_nop) else (bif Nat.beq 37 pc then (.bipush 12, 2, [], [], 0, 12, 0, 37) else mm_nop))) else (bif Nat.ble 33 pc then
  (bif Nat.ble 36 pc then (.aload_n 0, 1, [], [], 0, 0, 0, 36) else (bif Nat.beq 33 pc then (.putfield 21, 3, [(2, 3)], [[2076]], 1, 0, 0, 33) else mm_nop)) else (bif Nat.ble 31 pc then
  (bif Nat.beq 31 pc then (.newarray .long, 2, [(1, 12)], [[2037]], 0, 0, 0, 31) else mm_nop) else (bif Nat.beq 29 pc then (.bipush 12, 2, [], [], 0, 12, 0, 29) else mm_nop))))) else (bif Nat.ble 13 pc then
  (bif Nat.ble 21 pc then
  (bif Nat.ble 25 pc then
  (bif Nat.ble 28 pc then (.aload_n 0, 1, [], [], 0, 0, 0, 28) else (bif Nat.beq 25 pc then (.putfield 18, 3, [(2, 2)], [[2075]], 1, 0, 0, 25) else mm_nop)) else (bif Nat.ble 23 pc then
  (bif Nat.beq 23 pc then (.newarray .int, 2, [(0, 12)], [[2066]], 0, 0, 0, 23) else mm_nop) else (bif Nat.beq 21 pc then (.bipush 12, 2, [], [], 0, 12, 0, 21) else mm_nop))) else (bif Nat.ble 17 pc then
  (bif Nat.ble 20 pc then (.aload_n 0, 1, [], [], 0, 0, 0, 20) else (bif Nat.beq 17 pc then (.putfield 15, 3, [(2, 1)], [[2074]], 1, 0, 0, 17) else mm_nop)) else (bif Nat.ble 15 pc then
  (bif Nat.beq 15 pc then (.newarray .int, 2, [(0, 12)], [[2066]], 0, 0, 0, 15) else mm_nop) else (bif Nat.beq 13 pc then (.bipush 12, 2, [], [], 0, 12, 0, 13) else mm_nop)))) else (bif Nat.ble 5 pc then
  (bif Nat.ble 9 pc then
  (bif Nat.ble 12 pc then (.aload_n 0, 1, [], [], 0, 0, 0, 12) else (bif Nat.beq 9 pc then (.putfield 11, 3, [(2, 0)], [[2073]], 1, 0, 0, 9) else mm_nop)) else (bif Nat.ble 7 pc then
  (bif Nat.beq 7 pc then (.newarray .int, 2, [(0, 12)], [[2066]], 0, 0, 0, 7) else mm_nop) else (bif Nat.beq 5 pc then (.bipush 12, 2, [], [], 0, 12, 0, 5) else mm_nop))) else (bif Nat.ble 1 pc then
  (bif Nat.ble 4 pc then (.aload_n 0, 1, [], [], 0, 0, 0, 4) else (bif Nat.beq 1 pc then (.invokespecial 3, 3, [], [[2072, 2022, 2023]], 0, 0, 0, 1) else mm_nop)) else (.aload_n 0, 1, [], [], 0, 0, 0, 0)))))
def mm_k22 : List mm_E := (List.range 61).map mm_f22
def mm_m22 : mm_M := (yX2_init, cX2_init, 1, none, mm_k22, 0, 7, 84, 2071)
/-- TypeCopier$Functions.size.()I -/
def mm_f23 : Nat → mm_E := fun pc => (bif Nat.ble 1 pc then
  (bif Nat.ble 4 pc then (.ireturn, 1, [], [], 0, 0, 0, 4) else (bif Nat.beq 1 pc then (.getfield 34, 3, [(2, 7)], [[2080]], 0, 0, 0, 1) else mm_nop)) else (.aload_n 0, 1, [], [], 0, 0, 0, 0))
def mm_k23 : List mm_E := (List.range 5).map mm_f23
def mm_m23 : mm_M := (yX2_size, cX2_size, 1, (some .int), mm_k23, 0, 0, 0, 4103)
/-- TypeCopier$Functions.has.(I)Z -/
def mm_f24 : Nat → mm_E := fun pc => (bif Nat.ble 12 pc then
  (bif Nat.ble 18 pc then
  (bif Nat.ble 22 pc then
  (bif Nat.ble 23 pc then (.ireturn, 1, [], [], 0, 0, 0, 23) else (.iconst 0, 1, [], [], 0, 0, 0, 22)) else (bif Nat.ble 19 pc then
  (bif Nat.beq 19 pc then (.goto 4, 3, [(0, 23)], [], 0, 0, 0, 19) else mm_nop) else (.iconst 1, 1, [], [], 0, 1, 0, 18))) else (bif Nat.ble 13 pc then
  (bif Nat.ble 15 pc then
  (bif Nat.beq 15 pc then (.if_icmp .ge 7, 3, [(0, 22)], [], 0, 0, 0, 15) else mm_nop) else (bif Nat.beq 13 pc then (.bipush 12, 2, [], [], 0, 12, 0, 13) else mm_nop)) else (.iload_n 1, 1, [], [], 1, 0, 0, 12))) else (bif Nat.ble 5 pc then
  (bif Nat.ble 6 pc then
  (bif Nat.ble 9 pc then
  (bif Nat.beq 9 pc then (.if_icmp .ge 13, 3, [(0, 22)], [], 0, 0, 0, 9) else mm_nop) else (bif Nat.beq 6 pc then (.getfield 34, 3, [(2, 7)], [[2080]], 0, 0, 0, 6) else mm_nop)) else (.aload_n 0, 1, [], [], 0, 0, 0, 5)) else (bif Nat.ble 1 pc then
  (bif Nat.ble 4 pc then (.iload_n 1, 1, [], [], 1, 0, 0, 4) else (bif Nat.beq 1 pc then (.ifCond .lt 21, 3, [(0, 22)], [], 0, 0, 0, 1) else mm_nop)) else (.iload_n 1, 1, [], [], 1, 0, 0, 0))))
def mm_k24 : List mm_E := (List.range 24).map mm_f24
def mm_m24 : mm_M := (yX2_has, cX2_has, 2, (some .boolean), mm_k24, 1, 0, 0, 3057)
/-- TypeCopier$Functions.lettersOf.(I)I -/
def mm_f25 : Nat → mm_E := fun pc => (bif Nat.ble 9 pc then
  (bif Nat.ble 14 pc then
  (bif Nat.ble 17 pc then
  (bif Nat.ble 18 pc then (.ireturn, 1, [], [], 0, 0, 0, 18) else (.iconst 0, 1, [], [], 0, 0, 0, 17)) else (bif Nat.beq 14 pc then (.goto 4, 3, [(0, 18)], [], 0, 0, 0, 14) else mm_nop)) else (bif Nat.ble 12 pc then
  (bif Nat.ble 13 pc then (.iaload, 1, [], [], 0, 0, 0, 13) else (.iload_n 1, 1, [], [], 1, 0, 0, 12)) else (bif Nat.beq 9 pc then (.getfield 11, 3, [(2, 0)], [[2073]], 0, 0, 0, 9) else mm_nop))) else (bif Nat.ble 2 pc then
  (bif Nat.ble 5 pc then
  (bif Nat.ble 8 pc then (.aload_n 0, 1, [], [], 0, 0, 0, 8) else (bif Nat.beq 5 pc then (.ifCond .eq 12, 3, [(0, 17)], [], 0, 0, 0, 5) else mm_nop)) else (bif Nat.beq 2 pc then (.invokevirtual 38, 3, [(2, 24)], [[3062, 3055, 3056, 2004]], 1, 0, 0, 2) else mm_nop)) else (bif Nat.ble 1 pc then (.iload_n 1, 1, [], [], 1, 0, 0, 1) else (.aload_n 0, 1, [], [], 0, 0, 0, 0))))
def mm_k25 : List mm_E := (List.range 19).map mm_f25
def mm_m25 : mm_M := (yX2_lettersOf, cX2_lettersOf, 2, (some .int), mm_k25, 1, 0, 0, 3061)
/-- TypeCopier$Functions.argumentShape.(I)J -/
def mm_f26 : Nat → mm_E := fun pc => (bif Nat.ble 9 pc then
  (bif Nat.ble 14 pc then
  (bif Nat.ble 17 pc then
  (bif Nat.ble 20 pc then (.lreturn, 1, [], [], 0, 0, 0, 20) else (bif Nat.beq 17 pc then (.ldc2_w 44, 3, [], [[3092]], 0, 0, (-1), 17) else mm_nop)) else (bif Nat.beq 14 pc then (.goto 6, 3, [(0, 20)], [], 0, 0, 0, 14) else mm_nop)) else (bif Nat.ble 12 pc then
  (bif Nat.ble 13 pc then (.laload, 1, [], [], 0, 0, 0, 13) else (.iload_n 1, 1, [], [], 1, 0, 0, 12)) else (bif Nat.beq 9 pc then (.getfield 21, 3, [(2, 3)], [[2076]], 0, 0, 0, 9) else mm_nop))) else (bif Nat.ble 2 pc then
  (bif Nat.ble 5 pc then
  (bif Nat.ble 8 pc then (.aload_n 0, 1, [], [], 0, 0, 0, 8) else (bif Nat.beq 5 pc then (.ifCond .eq 12, 3, [(0, 17)], [], 0, 0, 0, 5) else mm_nop)) else (bif Nat.beq 2 pc then (.invokevirtual 38, 3, [(2, 24)], [[3062, 3055, 3056, 2004]], 1, 0, 0, 2) else mm_nop)) else (bif Nat.ble 1 pc then (.iload_n 1, 1, [], [], 1, 0, 0, 1) else (.aload_n 0, 1, [], [], 0, 0, 0, 0))))
def mm_k26 : List mm_E := (List.range 21).map mm_f26
def mm_m26 : mm_M := (yX2_argumentShape, cX2_argumentShape, 2, (some .long), mm_k26, 1, 0, 0, 3159)
/-- TypeCopier$Functions.resultShape.(I)J -/
def mm_f27 : Nat → mm_E := fun pc => (bif Nat.ble 9 pc then
  (bif Nat.ble 14 pc then
  (bif Nat.ble 17 pc then
  (bif Nat.ble 20 pc then (.lreturn, 1, [], [], 0, 0, 0, 20) else (bif Nat.beq 17 pc then (.ldc2_w 44, 3, [], [[3092]], 0, 0, (-1), 17) else mm_nop)) else (bif Nat.beq 14 pc then (.goto 6, 3, [(0, 20)], [], 0, 0, 0, 14) else mm_nop)) else (bif Nat.ble 12 pc then
  (bif Nat.ble 13 pc then (.laload, 1, [], [], 0, 0, 0, 13) else (.iload_n 1, 1, [], [], 1, 0, 0, 12)) else (bif Nat.beq 9 pc then (.getfield 25, 3, [(2, 4)], [[2077]], 0, 0, 0, 9) else mm_nop))) else (bif Nat.ble 2 pc then
  (bif Nat.ble 5 pc then
  (bif Nat.ble 8 pc then (.aload_n 0, 1, [], [], 0, 0, 0, 8) else (bif Nat.beq 5 pc then (.ifCond .eq 12, 3, [(0, 17)], [], 0, 0, 0, 5) else mm_nop)) else (bif Nat.beq 2 pc then (.invokevirtual 38, 3, [(2, 24)], [[3062, 3055, 3056, 2004]], 1, 0, 0, 2) else mm_nop)) else (bif Nat.ble 1 pc then (.iload_n 1, 1, [], [], 1, 0, 0, 1) else (.aload_n 0, 1, [], [], 0, 0, 0, 0))))
def mm_k27 : List mm_E := (List.range 21).map mm_f27
def mm_m27 : mm_M := (yX2_resultShape, cX2_resultShape, 2, (some .long), mm_k27, 1, 0, 0, 3091)
/-- TypeCopier$Functions.bodyOf.(I)I -/
def mm_f28 : Nat → mm_E := fun pc => (bif Nat.ble 9 pc then
  (bif Nat.ble 14 pc then
  (bif Nat.ble 17 pc then
  (bif Nat.ble 18 pc then (.ireturn, 1, [], [], 0, 0, 0, 18) else (.iconst (-1), 1, [], [], 0, (-1), 0, 17)) else (bif Nat.beq 14 pc then (.goto 4, 3, [(0, 18)], [], 0, 0, 0, 14) else mm_nop)) else (bif Nat.ble 12 pc then
  (bif Nat.ble 13 pc then (.iaload, 1, [], [], 0, 0, 0, 13) else (.iload_n 1, 1, [], [], 1, 0, 0, 12)) else (bif Nat.beq 9 pc then (.getfield 28, 3, [(2, 5)], [[2078]], 0, 0, 0, 9) else mm_nop))) else (bif Nat.ble 2 pc then
  (bif Nat.ble 5 pc then
  (bif Nat.ble 8 pc then (.aload_n 0, 1, [], [], 0, 0, 0, 8) else (bif Nat.beq 5 pc then (.ifCond .eq 12, 3, [(0, 17)], [], 0, 0, 0, 5) else mm_nop)) else (bif Nat.beq 2 pc then (.invokevirtual 38, 3, [(2, 24)], [[3062, 3055, 3056, 2004]], 1, 0, 0, 2) else mm_nop)) else (bif Nat.ble 1 pc then (.iload_n 1, 1, [], [], 1, 0, 0, 1) else (.aload_n 0, 1, [], [], 0, 0, 0, 0))))
def mm_k28 : List mm_E := (List.range 19).map mm_f28
def mm_m28 : mm_M := (yX2_bodyOf, cX2_bodyOf, 2, (some .int), mm_k28, 1, 0, 0, 3074)
/-- TypeCopier$Functions.lettersAllow.(IJ)Z -/
def mm_f29 : Nat → mm_E := fun pc => (bif Nat.ble 15 pc then
  (bif Nat.ble 19 pc then
  (bif Nat.ble 23 pc then
  (bif Nat.ble 26 pc then
  (bif Nat.ble 27 pc then (.ireturn, 1, [], [], 0, 0, 0, 27) else (.iconst 0, 1, [], [], 0, 0, 0, 26)) else (bif Nat.beq 23 pc then (.goto 4, 3, [(0, 27)], [], 0, 0, 0, 23) else mm_nop)) else (bif Nat.ble 22 pc then (.iconst 1, 1, [], [], 0, 1, 0, 22) else (bif Nat.beq 19 pc then (.ifCond .ne 7, 3, [(0, 26)], [], 0, 0, 0, 19) else mm_nop))) else (bif Nat.ble 17 pc then
  (bif Nat.ble 18 pc then (.iand, 1, [], [], 0, 0, 0, 18) else (.ixor, 1, [], [], 0, 0, 0, 17)) else (bif Nat.ble 16 pc then (.iconst (-1), 1, [], [], 0, (-1), 0, 16) else (.iload_n 3, 1, [], [], 3, 0, 0, 15)))) else (bif Nat.ble 6 pc then
  (bif Nat.ble 10 pc then
  (bif Nat.ble 11 pc then
  (bif Nat.ble 12 pc then
  (bif Nat.beq 12 pc then (.invokestatic 46, 3, [(1, 137)], [[4126, 3200, 2013]], 1, 0, 0, 12) else mm_nop) else (.lload_n 1, 1, [], [], 1, 0, 0, 11)) else (.istore_n 3, 1, [], [], 3, 0, 0, 10)) else (bif Nat.ble 9 pc then (.iload_n 0, 1, [], [], 0, 0, 0, 9) else (bif Nat.beq 6 pc then (.goto 4, 3, [(0, 10)], [], 0, 0, 0, 6) else mm_nop))) else (bif Nat.ble 2 pc then
  (bif Nat.ble 5 pc then (.iconst 3, 1, [], [], 0, 3, 0, 5) else (bif Nat.beq 2 pc then (.if_icmp .ne 7, 3, [(0, 9)], [], 0, 0, 0, 2) else mm_nop)) else (bif Nat.ble 1 pc then (.iconst 2, 1, [], [], 0, 2, 0, 1) else (.iload_n 0, 1, [], [], 0, 0, 0, 0)))))
def mm_k29 : List mm_E := (List.range 28).map mm_f29
def mm_m29 : mm_M := (yX2_lettersAllow, cX2_lettersAllow, 4, (some .boolean), mm_k29, 2, 0, 0, 4125)
/-- TypeCopier$Functions.add.(IIIJJ)I -/
def mm_f30 : Nat → mm_E := fun pc => (bif Nat.ble 43 pc then
  (bif Nat.ble 65 pc then
  (bif Nat.ble 75 pc then
  (bif Nat.ble 80 pc then
  (bif Nat.ble 82 pc then
  (bif Nat.ble 85 pc then (.ireturn, 1, [], [], 0, 0, 0, 85) else (bif Nat.beq 82 pc then (.putfield 34, 3, [(2, 7)], [[2080]], 0, 0, 0, 82) else mm_nop)) else (bif Nat.ble 81 pc then (.iadd, 1, [], [], 0, 0, 0, 81) else (.iconst 1, 1, [], [], 0, 1, 0, 80))) else (bif Nat.ble 76 pc then
  (bif Nat.ble 79 pc then (.dup_x1, 1, [], [], 0, 0, 0, 79) else (bif Nat.beq 76 pc then (.getfield 34, 3, [(2, 7)], [[2080]], 0, 0, 0, 76) else mm_nop)) else (.dup, 1, [], [], 0, 0, 0, 75))) else (bif Nat.ble 72 pc then
  (bif Nat.ble 73 pc then
  (bif Nat.ble 74 pc then (.aload_n 0, 1, [], [], 0, 0, 0, 74) else (.iastore, 1, [], [], 0, 0, 0, 73)) else (.iconst (-1), 1, [], [], 0, (-1), 0, 72)) else (bif Nat.ble 68 pc then
  (bif Nat.ble 69 pc then
  (bif Nat.beq 69 pc then (.getfield 34, 3, [(2, 7)], [[2080]], 0, 0, 0, 69) else mm_nop) else (.aload_n 0, 1, [], [], 0, 0, 0, 68)) else (bif Nat.beq 65 pc then (.getfield 28, 3, [(2, 5)], [[2078]], 0, 0, 0, 65) else mm_nop)))) else (bif Nat.ble 54 pc then
  (bif Nat.ble 61 pc then
  (bif Nat.ble 63 pc then
  (bif Nat.ble 64 pc then (.aload_n 0, 1, [], [], 0, 0, 0, 64) else (.lastore, 1, [], [], 0, 0, 0, 63)) else (bif Nat.beq 61 pc then (.lload 6, 2, [], [], 6, 0, 0, 61) else mm_nop)) else (bif Nat.ble 57 pc then
  (bif Nat.ble 58 pc then
  (bif Nat.beq 58 pc then (.getfield 34, 3, [(2, 7)], [[2080]], 0, 0, 0, 58) else mm_nop) else (.aload_n 0, 1, [], [], 0, 0, 0, 57)) else (bif Nat.beq 54 pc then (.getfield 25, 3, [(2, 4)], [[2077]], 0, 0, 0, 54) else mm_nop))) else (bif Nat.ble 50 pc then
  (bif Nat.ble 52 pc then
  (bif Nat.ble 53 pc then (.aload_n 0, 1, [], [], 0, 0, 0, 53) else (.lastore, 1, [], [], 0, 0, 0, 52)) else (bif Nat.beq 50 pc then (.lload 4, 2, [], [], 4, 0, 0, 50) else mm_nop)) else (bif Nat.ble 46 pc then
  (bif Nat.ble 47 pc then
  (bif Nat.beq 47 pc then (.getfield 34, 3, [(2, 7)], [[2080]], 0, 0, 0, 47) else mm_nop) else (.aload_n 0, 1, [], [], 0, 0, 0, 46)) else (bif Nat.beq 43 pc then (.getfield 21, 3, [(2, 3)], [[2076]], 0, 0, 0, 43) else mm_nop))))) else (bif Nat.ble 22 pc then
  (bif Nat.ble 32 pc then
  (bif Nat.ble 37 pc then
  (bif Nat.ble 41 pc then
  (bif Nat.ble 42 pc then (.aload_n 0, 1, [], [], 0, 0, 0, 42) else (.iastore, 1, [], [], 0, 0, 0, 41)) else (bif Nat.ble 40 pc then (.iload_n 3, 1, [], [], 3, 0, 0, 40) else (bif Nat.beq 37 pc then (.getfield 34, 3, [(2, 7)], [[2080]], 0, 0, 0, 37) else mm_nop))) else (bif Nat.ble 33 pc then
  (bif Nat.ble 36 pc then (.aload_n 0, 1, [], [], 0, 0, 0, 36) else (bif Nat.beq 33 pc then (.getfield 18, 3, [(2, 2)], [[2075]], 0, 0, 0, 33) else mm_nop)) else (.aload_n 0, 1, [], [], 0, 0, 0, 32))) else (bif Nat.ble 27 pc then
  (bif Nat.ble 30 pc then
  (bif Nat.ble 31 pc then (.iastore, 1, [], [], 0, 0, 0, 31) else (.iload_n 2, 1, [], [], 2, 0, 0, 30)) else (bif Nat.beq 27 pc then (.getfield 34, 3, [(2, 7)], [[2080]], 0, 0, 0, 27) else mm_nop)) else (bif Nat.ble 23 pc then
  (bif Nat.ble 26 pc then (.aload_n 0, 1, [], [], 0, 0, 0, 26) else (bif Nat.beq 23 pc then (.getfield 15, 3, [(2, 1)], [[2074]], 0, 0, 0, 23) else mm_nop)) else (.aload_n 0, 1, [], [], 0, 0, 0, 22)))) else (bif Nat.ble 12 pc then
  (bif Nat.ble 17 pc then
  (bif Nat.ble 20 pc then
  (bif Nat.ble 21 pc then (.iastore, 1, [], [], 0, 0, 0, 21) else (.iload_n 1, 1, [], [], 1, 0, 0, 20)) else (bif Nat.beq 17 pc then (.getfield 34, 3, [(2, 7)], [[2080]], 0, 0, 0, 17) else mm_nop)) else (bif Nat.ble 13 pc then
  (bif Nat.ble 16 pc then (.aload_n 0, 1, [], [], 0, 0, 0, 16) else (bif Nat.beq 13 pc then (.getfield 11, 3, [(2, 0)], [[2073]], 0, 0, 0, 13) else mm_nop)) else (.aload_n 0, 1, [], [], 0, 0, 0, 12))) else (bif Nat.ble 6 pc then
  (bif Nat.ble 9 pc then
  (bif Nat.ble 11 pc then (.ireturn, 1, [], [], 0, 0, 0, 11) else (bif Nat.beq 9 pc then (.bipush (-4), 2, [], [], 0, (-4), 0, 9) else mm_nop)) else (bif Nat.beq 6 pc then (.if_icmp .lt 6, 3, [(0, 12)], [], 0, 0, 0, 6) else mm_nop)) else (bif Nat.ble 1 pc then
  (bif Nat.ble 4 pc then
  (bif Nat.beq 4 pc then (.bipush 12, 2, [], [], 0, 12, 0, 4) else mm_nop) else (bif Nat.beq 1 pc then (.getfield 34, 3, [(2, 7)], [[2080]], 0, 0, 0, 1) else mm_nop)) else (.aload_n 0, 1, [], [], 0, 0, 0, 0))))))
def mm_k30 : List mm_E := (List.range 86).map mm_f30
def mm_m30 : mm_M := (yX2_add, cX2_add, 8, (some .int), mm_k30, 5, 0, 0, 4149)
/-- TypeCopier$Functions.giveBody.(III)V -/
def mm_f31 : Nat → mm_E := fun pc => (bif Nat.ble 13 pc then
  (bif Nat.ble 19 pc then
  (bif Nat.ble 21 pc then
  (bif Nat.ble 22 pc then (.return_, 1, [], [], 0, 0, 0, 22) else (.iastore, 1, [], [], 0, 0, 0, 21)) else (bif Nat.ble 20 pc then (.iload_n 3, 1, [], [], 3, 0, 0, 20) else (.iload_n 1, 1, [], [], 1, 0, 0, 19))) else (bif Nat.ble 15 pc then
  (bif Nat.ble 16 pc then
  (bif Nat.beq 16 pc then (.getfield 31, 3, [(2, 6)], [[2079]], 0, 0, 0, 16) else mm_nop) else (.aload_n 0, 1, [], [], 0, 0, 0, 15)) else (bif Nat.ble 14 pc then (.iastore, 1, [], [], 0, 0, 0, 14) else (.iload_n 2, 1, [], [], 2, 0, 0, 13)))) else (bif Nat.ble 5 pc then
  (bif Nat.ble 9 pc then
  (bif Nat.ble 12 pc then (.iload_n 1, 1, [], [], 1, 0, 0, 12) else (bif Nat.beq 9 pc then (.getfield 28, 3, [(2, 5)], [[2078]], 0, 0, 0, 9) else mm_nop)) else (bif Nat.ble 8 pc then (.aload_n 0, 1, [], [], 0, 0, 0, 8) else (bif Nat.beq 5 pc then (.ifCond .eq 17, 3, [(0, 22)], [], 0, 0, 0, 5) else mm_nop))) else (bif Nat.ble 1 pc then
  (bif Nat.ble 2 pc then
  (bif Nat.beq 2 pc then (.invokevirtual 38, 3, [(2, 24)], [[3062, 3055, 3056, 2004]], 1, 0, 0, 2) else mm_nop) else (.iload_n 1, 1, [], [], 1, 0, 0, 1)) else (.aload_n 0, 1, [], [], 0, 0, 0, 0))))
def mm_k31 : List mm_E := (List.range 23).map mm_f31
def mm_m31 : mm_M := (yX2_giveBody, cX2_giveBody, 4, none, mm_k31, 3, 0, 0, 4170)
/-- TypeCopier$Functions.reachedBy.(I)I -/
def mm_f32 : Nat → mm_E := fun pc => (bif Nat.ble 34 pc then
  (bif Nat.ble 51 pc then
  (bif Nat.ble 59 pc then
  (bif Nat.ble 65 pc then
  (bif Nat.ble 68 pc then
  (bif Nat.ble 69 pc then (.ireturn, 1, [], [], 0, 0, 0, 69) else (.iload_n 2, 1, [], [], 2, 0, 0, 68)) else (bif Nat.beq 65 pc then (.goto (-44), 3, [(0, 21)], [], 0, 0, 0, 65) else mm_nop)) else (bif Nat.ble 62 pc then
  (bif Nat.beq 62 pc then (.iinc 3 1, 3, [], [], 3, 1, 0, 62) else mm_nop) else (bif Nat.beq 59 pc then (.goto (-29), 3, [(0, 30)], [], 0, 0, 0, 59) else mm_nop))) else (bif Nat.ble 54 pc then
  (bif Nat.ble 55 pc then
  (bif Nat.ble 56 pc then
  (bif Nat.beq 56 pc then (.iinc 4 1, 3, [], [], 4, 1, 0, 56) else mm_nop) else (.istore_n 2, 1, [], [], 2, 0, 0, 55)) else (.ior, 1, [], [], 0, 0, 0, 54)) else (bif Nat.ble 53 pc then (.iaload, 1, [], [], 0, 0, 0, 53) else (bif Nat.beq 51 pc then (.iload 4, 2, [], [], 4, 0, 0, 51) else mm_nop)))) else (bif Nat.ble 42 pc then
  (bif Nat.ble 46 pc then
  (bif Nat.ble 47 pc then
  (bif Nat.ble 48 pc then
  (bif Nat.beq 48 pc then (.getfield 31, 3, [(2, 6)], [[2079]], 0, 0, 0, 48) else mm_nop) else (.aload_n 0, 1, [], [], 0, 0, 0, 47)) else (.iload_n 2, 1, [], [], 2, 0, 0, 46)) else (bif Nat.ble 43 pc then
  (bif Nat.beq 43 pc then (.ifCond .eq 13, 3, [(0, 56)], [], 0, 0, 0, 43) else mm_nop) else (.iand, 1, [], [], 0, 0, 0, 42))) else (bif Nat.ble 38 pc then
  (bif Nat.ble 40 pc then
  (bif Nat.ble 41 pc then (.iconst 1, 1, [], [], 0, 1, 0, 41) else (.ishr, 1, [], [], 0, 0, 0, 40)) else (bif Nat.beq 38 pc then (.iload 4, 2, [], [], 4, 0, 0, 38) else mm_nop)) else (bif Nat.ble 37 pc then (.iload_n 2, 1, [], [], 2, 0, 0, 37) else (bif Nat.beq 34 pc then (.if_icmp .ge 28, 3, [(0, 62)], [], 0, 0, 0, 34) else mm_nop))))) else (bif Nat.ble 18 pc then
  (bif Nat.ble 24 pc then
  (bif Nat.ble 28 pc then
  (bif Nat.ble 30 pc then
  (bif Nat.ble 32 pc then
  (bif Nat.beq 32 pc then (.bipush 12, 2, [], [], 0, 12, 0, 32) else mm_nop) else (bif Nat.beq 30 pc then (.iload 4, 2, [], [], 4, 0, 0, 30) else mm_nop)) else (bif Nat.beq 28 pc then (.istore 4, 2, [], [], 4, 0, 0, 28) else mm_nop)) else (bif Nat.ble 27 pc then (.iconst 0, 1, [], [], 0, 0, 0, 27) else (bif Nat.beq 24 pc then (.if_icmp .ge 44, 3, [(0, 68)], [], 0, 0, 0, 24) else mm_nop))) else (bif Nat.ble 20 pc then
  (bif Nat.ble 21 pc then
  (bif Nat.ble 22 pc then
  (bif Nat.beq 22 pc then (.bipush 12, 2, [], [], 0, 12, 0, 22) else mm_nop) else (.iload_n 3, 1, [], [], 3, 0, 0, 21)) else (.istore_n 3, 1, [], [], 3, 0, 0, 20)) else (bif Nat.ble 19 pc then (.iconst 0, 1, [], [], 0, 0, 0, 19) else (.istore_n 2, 1, [], [], 2, 0, 0, 18)))) else (bif Nat.ble 9 pc then
  (bif Nat.ble 13 pc then
  (bif Nat.ble 14 pc then
  (bif Nat.ble 17 pc then (.iconst 0, 1, [], [], 0, 0, 0, 17) else (bif Nat.beq 14 pc then (.goto 4, 3, [(0, 18)], [], 0, 0, 0, 14) else mm_nop)) else (.iaload, 1, [], [], 0, 0, 0, 13)) else (bif Nat.ble 12 pc then (.iload_n 1, 1, [], [], 1, 0, 0, 12) else (bif Nat.beq 9 pc then (.getfield 31, 3, [(2, 6)], [[2079]], 0, 0, 0, 9) else mm_nop))) else (bif Nat.ble 2 pc then
  (bif Nat.ble 5 pc then
  (bif Nat.ble 8 pc then (.aload_n 0, 1, [], [], 0, 0, 0, 8) else (bif Nat.beq 5 pc then (.ifCond .eq 12, 3, [(0, 17)], [], 0, 0, 0, 5) else mm_nop)) else (bif Nat.beq 2 pc then (.invokevirtual 38, 3, [(2, 24)], [[3062, 3055, 3056, 2004]], 1, 0, 0, 2) else mm_nop)) else (bif Nat.ble 1 pc then (.iload_n 1, 1, [], [], 1, 0, 0, 1) else (.aload_n 0, 1, [], [], 0, 0, 0, 0))))))
def mm_k32 : List mm_E := (List.range 70).map mm_f32
def mm_m32 : mm_M := (yX2_reachedBy, cX2_reachedBy, 5, (some .int), mm_k32, 1, 0, 0, 3066)
/-- TypeCopier$Functions.digestFrom.(J)J -/
def mm_f33 : Nat → mm_E := fun pc => (bif Nat.ble 47 pc then
  (bif Nat.ble 66 pc then
  (bif Nat.ble 78 pc then
  (bif Nat.ble 81 pc then
  (bif Nat.ble 87 pc then
  (bif Nat.ble 88 pc then (.lreturn, 1, [], [], 0, 0, 0, 88) else (.lload_n 3, 1, [], [], 3, 0, 0, 87)) else (bif Nat.ble 84 pc then
  (bif Nat.beq 84 pc then (.goto (-79), 3, [(0, 5)], [], 0, 0, 0, 84) else mm_nop) else (bif Nat.beq 81 pc then (.iinc 5 1, 3, [], [], 5, 1, 0, 81) else mm_nop))) else (bif Nat.ble 79 pc then
  (bif Nat.ble 80 pc then (.lstore_n 3, 1, [], [], 3, 0, 0, 80) else (.ladd, 1, [], [], 0, 0, 0, 79)) else (.i2l, 1, [], [], 0, 0, 0, 78))) else (bif Nat.ble 71 pc then
  (bif Nat.ble 75 pc then
  (bif Nat.ble 77 pc then (.iaload, 1, [], [], 0, 0, 0, 77) else (bif Nat.beq 75 pc then (.iload 5, 2, [], [], 5, 0, 0, 75) else mm_nop)) else (bif Nat.ble 72 pc then
  (bif Nat.beq 72 pc then (.getfield 28, 3, [(2, 5)], [[2078]], 0, 0, 0, 72) else mm_nop) else (.aload_n 0, 1, [], [], 0, 0, 0, 71))) else (bif Nat.ble 69 pc then
  (bif Nat.ble 70 pc then (.lmul, 1, [], [], 0, 0, 0, 70) else (.lload_n 3, 1, [], [], 3, 0, 0, 69)) else (bif Nat.beq 66 pc then (.ldc2_w 50, 3, [], [[6091]], 0, 0, 31, 66) else mm_nop)))) else (bif Nat.ble 56 pc then
  (bif Nat.ble 62 pc then
  (bif Nat.ble 64 pc then
  (bif Nat.ble 65 pc then (.lstore_n 3, 1, [], [], 3, 0, 0, 65) else (.ladd, 1, [], [], 0, 0, 0, 64)) else (bif Nat.ble 63 pc then (.i2l, 1, [], [], 0, 0, 0, 63) else (.iaload, 1, [], [], 0, 0, 0, 62))) else (bif Nat.ble 57 pc then
  (bif Nat.ble 60 pc then
  (bif Nat.beq 60 pc then (.iload 5, 2, [], [], 5, 0, 0, 60) else mm_nop) else (bif Nat.beq 57 pc then (.getfield 18, 3, [(2, 2)], [[2075]], 0, 0, 0, 57) else mm_nop)) else (.aload_n 0, 1, [], [], 0, 0, 0, 56))) else (bif Nat.ble 50 pc then
  (bif Nat.ble 54 pc then
  (bif Nat.ble 55 pc then (.lmul, 1, [], [], 0, 0, 0, 55) else (.lload_n 3, 1, [], [], 3, 0, 0, 54)) else (bif Nat.ble 51 pc then
  (bif Nat.beq 51 pc then (.ldc2_w 50, 3, [], [[6091]], 0, 0, 31, 51) else mm_nop) else (.lstore_n 3, 1, [], [], 3, 0, 0, 50))) else (bif Nat.ble 48 pc then
  (bif Nat.ble 49 pc then (.ladd, 1, [], [], 0, 0, 0, 49) else (.i2l, 1, [], [], 0, 0, 0, 48)) else (.iaload, 1, [], [], 0, 0, 0, 47))))) else (bif Nat.ble 25 pc then
  (bif Nat.ble 35 pc then
  (bif Nat.ble 40 pc then
  (bif Nat.ble 42 pc then
  (bif Nat.ble 45 pc then
  (bif Nat.beq 45 pc then (.iload 5, 2, [], [], 5, 0, 0, 45) else mm_nop) else (bif Nat.beq 42 pc then (.getfield 15, 3, [(2, 1)], [[2074]], 0, 0, 0, 42) else mm_nop)) else (bif Nat.ble 41 pc then (.aload_n 0, 1, [], [], 0, 0, 0, 41) else (.lmul, 1, [], [], 0, 0, 0, 40))) else (bif Nat.ble 36 pc then
  (bif Nat.ble 39 pc then (.lload_n 3, 1, [], [], 3, 0, 0, 39) else (bif Nat.beq 36 pc then (.ldc2_w 50, 3, [], [[6091]], 0, 0, 31, 36) else mm_nop)) else (.lstore_n 3, 1, [], [], 3, 0, 0, 35))) else (bif Nat.ble 30 pc then
  (bif Nat.ble 33 pc then
  (bif Nat.ble 34 pc then (.ladd, 1, [], [], 0, 0, 0, 34) else (.i2l, 1, [], [], 0, 0, 0, 33)) else (bif Nat.ble 32 pc then (.iaload, 1, [], [], 0, 0, 0, 32) else (bif Nat.beq 30 pc then (.iload 5, 2, [], [], 5, 0, 0, 30) else mm_nop))) else (bif Nat.ble 26 pc then
  (bif Nat.ble 27 pc then
  (bif Nat.beq 27 pc then (.getfield 11, 3, [(2, 0)], [[2073]], 0, 0, 0, 27) else mm_nop) else (.aload_n 0, 1, [], [], 0, 0, 0, 26)) else (.lmul, 1, [], [], 0, 0, 0, 25)))) else (bif Nat.ble 8 pc then
  (bif Nat.ble 16 pc then
  (bif Nat.ble 21 pc then
  (bif Nat.ble 24 pc then (.lload_n 3, 1, [], [], 3, 0, 0, 24) else (bif Nat.beq 21 pc then (.ldc2_w 50, 3, [], [[6091]], 0, 0, 31, 21) else mm_nop)) else (bif Nat.ble 18 pc then
  (bif Nat.beq 18 pc then (.if_icmp .ge 69, 3, [(0, 87)], [], 0, 0, 0, 18) else mm_nop) else (bif Nat.beq 16 pc then (.bipush 12, 2, [], [], 0, 12, 0, 16) else mm_nop))) else (bif Nat.ble 11 pc then
  (bif Nat.ble 14 pc then
  (bif Nat.beq 14 pc then (.iload 5, 2, [], [], 5, 0, 0, 14) else mm_nop) else (bif Nat.beq 11 pc then (.if_icmp .ge 76, 3, [(0, 87)], [], 0, 0, 0, 11) else mm_nop)) else (bif Nat.beq 8 pc then (.getfield 34, 3, [(2, 7)], [[2080]], 0, 0, 0, 8) else mm_nop))) else (bif Nat.ble 3 pc then
  (bif Nat.ble 5 pc then
  (bif Nat.ble 7 pc then (.aload_n 0, 1, [], [], 0, 0, 0, 7) else (bif Nat.beq 5 pc then (.iload 5, 2, [], [], 5, 0, 0, 5) else mm_nop)) else (bif Nat.beq 3 pc then (.istore 5, 2, [], [], 5, 0, 0, 3) else mm_nop)) else (bif Nat.ble 1 pc then
  (bif Nat.ble 2 pc then (.iconst 0, 1, [], [], 0, 0, 0, 2) else (.lstore_n 3, 1, [], [], 3, 0, 0, 1)) else (.lload_n 1, 1, [], [], 1, 0, 0, 0))))))
def mm_k33 : List mm_E := (List.range 89).map mm_f33
def mm_m33 : mm_M := (yX2_digestFrom, cX2_digestFrom, 6, (some .long), mm_k33, 1, 0, 0, 6090)
/-- TypeCopier$Input.<init>.()V -/
def mm_f34 : Nat → mm_E := fun pc => (bif Nat.ble 5 pc then
  (bif Nat.ble 9 pc then
  (bif Nat.ble 12 pc then (.return_, 1, [], [], 0, 0, 0, 12) else (bif Nat.beq 9 pc then (.putfield 11, 3, [(3, 0)], [[2173]], 1, 0, 0, 9) else mm_nop)) else (bif Nat.ble 7 pc then
  (bif Nat.beq 7 pc then (.newarray .int, 2, [(0, 16)], [[2066]], 0, 0, 0, 7) else mm_nop) else (bif Nat.beq 5 pc then (.bipush 16, 2, [], [], 0, 16, 0, 5) else mm_nop))) else (bif Nat.ble 1 pc then
  (bif Nat.ble 4 pc then (.aload_n 0, 1, [], [], 0, 0, 0, 4) else (bif Nat.beq 1 pc then (.invokespecial 3, 3, [], [[2172, 2022, 2023]], 0, 0, 0, 1) else mm_nop)) else (.aload_n 0, 1, [], [], 0, 0, 0, 0)))
def mm_k34 : List mm_E := (List.range 13).map mm_f34
def mm_m34 : mm_M := (yX3_init, cX3_init, 1, none, mm_k34, 0, 1, 16, 2171)
/-- TypeCopier$Input.size.()I -/
def mm_f35 : Nat → mm_E := fun pc => (bif Nat.ble 1 pc then
  (bif Nat.ble 4 pc then (.ireturn, 1, [], [], 0, 0, 0, 4) else (bif Nat.beq 1 pc then (.getfield 15, 3, [(3, 1)], [[2174]], 0, 0, 0, 1) else mm_nop)) else (.aload_n 0, 1, [], [], 0, 0, 0, 0))
def mm_k35 : List mm_E := (List.range 5).map mm_f35
def mm_m35 : mm_M := (yX3_size, cX3_size, 1, (some .int), mm_k35, 0, 0, 0, 6069)
/-- TypeCopier$Input.add.(I)I -/
def mm_f36 : Nat → mm_E := fun pc => (bif Nat.ble 20 pc then
  (bif Nat.ble 27 pc then
  (bif Nat.ble 32 pc then
  (bif Nat.ble 33 pc then
  (bif Nat.ble 36 pc then (.ireturn, 1, [], [], 0, 0, 0, 36) else (bif Nat.beq 33 pc then (.getfield 15, 3, [(3, 1)], [[2174]], 0, 0, 0, 33) else mm_nop)) else (.aload_n 0, 1, [], [], 0, 0, 0, 32)) else (bif Nat.ble 28 pc then
  (bif Nat.ble 29 pc then
  (bif Nat.beq 29 pc then (.putfield 15, 3, [(3, 1)], [[2174]], 0, 0, 0, 29) else mm_nop) else (.iadd, 1, [], [], 0, 0, 0, 28)) else (.iconst 1, 1, [], [], 0, 1, 0, 27))) else (bif Nat.ble 22 pc then
  (bif Nat.ble 23 pc then
  (bif Nat.ble 24 pc then
  (bif Nat.beq 24 pc then (.getfield 15, 3, [(3, 1)], [[2174]], 0, 0, 0, 24) else mm_nop) else (.dup, 1, [], [], 0, 0, 0, 23)) else (.aload_n 0, 1, [], [], 0, 0, 0, 22)) else (bif Nat.ble 21 pc then (.iastore, 1, [], [], 0, 0, 0, 21) else (.iload_n 1, 1, [], [], 1, 0, 0, 20)))) else (bif Nat.ble 11 pc then
  (bif Nat.ble 13 pc then
  (bif Nat.ble 16 pc then
  (bif Nat.ble 17 pc then
  (bif Nat.beq 17 pc then (.getfield 15, 3, [(3, 1)], [[2174]], 0, 0, 0, 17) else mm_nop) else (.aload_n 0, 1, [], [], 0, 0, 0, 16)) else (bif Nat.beq 13 pc then (.getfield 11, 3, [(3, 0)], [[2173]], 0, 0, 0, 13) else mm_nop)) else (bif Nat.ble 12 pc then (.aload_n 0, 1, [], [], 0, 0, 0, 12) else (.ireturn, 1, [], [], 0, 0, 0, 11))) else (bif Nat.ble 4 pc then
  (bif Nat.ble 6 pc then
  (bif Nat.ble 9 pc then
  (bif Nat.beq 9 pc then (.bipush (-4), 2, [], [], 0, (-4), 0, 9) else mm_nop) else (bif Nat.beq 6 pc then (.if_icmp .lt 6, 3, [(0, 12)], [], 0, 0, 0, 6) else mm_nop)) else (bif Nat.beq 4 pc then (.bipush 16, 2, [], [], 0, 16, 0, 4) else mm_nop)) else (bif Nat.ble 1 pc then
  (bif Nat.beq 1 pc then (.getfield 15, 3, [(3, 1)], [[2174]], 0, 0, 0, 1) else mm_nop) else (.aload_n 0, 1, [], [], 0, 0, 0, 0)))))
def mm_k36 : List mm_E := (List.range 37).map mm_f36
def mm_m36 : mm_M := (yX3_add, cX3_add, 2, (some .int), mm_k36, 1, 0, 0, 4215)
/-- TypeCopier$Input.clear.()I -/
def mm_f37 : Nat → mm_E := fun pc => (bif Nat.ble 6 pc then
  (bif Nat.ble 10 pc then
  (bif Nat.ble 11 pc then (.ireturn, 1, [], [], 0, 0, 0, 11) else (.iload_n 1, 1, [], [], 1, 0, 0, 10)) else (bif Nat.ble 7 pc then
  (bif Nat.beq 7 pc then (.putfield 15, 3, [(3, 1)], [[2174]], 0, 0, 0, 7) else mm_nop) else (.iconst 0, 1, [], [], 0, 0, 0, 6))) else (bif Nat.ble 4 pc then
  (bif Nat.ble 5 pc then (.aload_n 0, 1, [], [], 0, 0, 0, 5) else (.istore_n 1, 1, [], [], 1, 0, 0, 4)) else (bif Nat.ble 1 pc then
  (bif Nat.beq 1 pc then (.getfield 15, 3, [(3, 1)], [[2174]], 0, 0, 0, 1) else mm_nop) else (.aload_n 0, 1, [], [], 0, 0, 0, 0))))
def mm_k37 : List mm_E := (List.range 12).map mm_f37
def mm_m37 : mm_M := (yX3_clear, cX3_clear, 2, (some .int), mm_k37, 0, 0, 0, 4223)
/-- TypeCopier$Input.rewind.()V -/
def mm_f38 : Nat → mm_E := fun pc => (bif Nat.ble 2 pc then
  (bif Nat.ble 5 pc then (.return_, 1, [], [], 0, 0, 0, 5) else (bif Nat.beq 2 pc then (.putfield 19, 3, [(3, 2)], [[2175]], 0, 0, 0, 2) else mm_nop)) else (bif Nat.ble 1 pc then (.iconst 0, 1, [], [], 0, 0, 0, 1) else (.aload_n 0, 1, [], [], 0, 0, 0, 0)))
def mm_k38 : List mm_E := (List.range 6).map mm_f38
def mm_m38 : mm_M := (yX3_rewind, cX3_rewind, 1, none, mm_k38, 0, 0, 0, 5003)
/-- TypeCopier$Input.next.()I -/
def mm_f39 : Nat → mm_E := fun pc => (bif Nat.ble 27 pc then
  (bif Nat.ble 35 pc then
  (bif Nat.ble 40 pc then
  (bif Nat.ble 44 pc then
  (bif Nat.ble 45 pc then (.ireturn, 1, [], [], 0, 0, 0, 45) else (.iaload, 1, [], [], 0, 0, 0, 44)) else (bif Nat.ble 41 pc then
  (bif Nat.beq 41 pc then (.putfield 19, 3, [(3, 2)], [[2175]], 0, 0, 0, 41) else mm_nop) else (.iadd, 1, [], [], 0, 0, 0, 40))) else (bif Nat.ble 38 pc then
  (bif Nat.ble 39 pc then (.iconst 1, 1, [], [], 0, 1, 0, 39) else (.dup_x1, 1, [], [], 0, 0, 0, 38)) else (bif Nat.beq 35 pc then (.getfield 19, 3, [(3, 2)], [[2175]], 0, 0, 0, 35) else mm_nop))) else (bif Nat.ble 30 pc then
  (bif Nat.ble 33 pc then
  (bif Nat.ble 34 pc then (.dup, 1, [], [], 0, 0, 0, 34) else (.aload_n 0, 1, [], [], 0, 0, 0, 33)) else (bif Nat.beq 30 pc then (.getfield 11, 3, [(3, 0)], [[2173]], 0, 0, 0, 30) else mm_nop)) else (bif Nat.ble 28 pc then
  (bif Nat.ble 29 pc then (.aload_n 0, 1, [], [], 0, 0, 0, 29) else (.ireturn, 1, [], [], 0, 0, 0, 28)) else (.iconst 0, 1, [], [], 0, 0, 0, 27)))) else (bif Nat.ble 12 pc then
  (bif Nat.ble 19 pc then
  (bif Nat.ble 22 pc then
  (bif Nat.ble 24 pc then
  (bif Nat.beq 24 pc then (.if_icmp .lt 5, 3, [(0, 29)], [], 0, 0, 0, 24) else mm_nop) else (bif Nat.beq 22 pc then (.bipush 16, 2, [], [], 0, 16, 0, 22) else mm_nop)) else (bif Nat.beq 19 pc then (.getfield 19, 3, [(3, 2)], [[2175]], 0, 0, 0, 19) else mm_nop)) else (bif Nat.ble 15 pc then
  (bif Nat.ble 18 pc then (.aload_n 0, 1, [], [], 0, 0, 0, 18) else (bif Nat.beq 15 pc then (.if_icmp .ge 12, 3, [(0, 27)], [], 0, 0, 0, 15) else mm_nop)) else (bif Nat.beq 12 pc then (.getfield 15, 3, [(3, 1)], [[2174]], 0, 0, 0, 12) else mm_nop))) else (bif Nat.ble 7 pc then
  (bif Nat.ble 8 pc then
  (bif Nat.ble 11 pc then (.aload_n 0, 1, [], [], 0, 0, 0, 11) else (bif Nat.beq 8 pc then (.getfield 19, 3, [(3, 2)], [[2175]], 0, 0, 0, 8) else mm_nop)) else (.aload_n 0, 1, [], [], 0, 0, 0, 7)) else (bif Nat.ble 1 pc then
  (bif Nat.ble 4 pc then
  (bif Nat.beq 4 pc then (.ifCond .lt 23, 3, [(0, 27)], [], 0, 0, 0, 4) else mm_nop) else (bif Nat.beq 1 pc then (.getfield 19, 3, [(3, 2)], [[2175]], 0, 0, 0, 1) else mm_nop)) else (.aload_n 0, 1, [], [], 0, 0, 0, 0)))))
def mm_k39 : List mm_E := (List.range 46).map mm_f39
def mm_m39 : mm_M := (yX3_next, cX3_next, 1, (some .int), mm_k39, 0, 0, 0, 5012)
/-- TypeCopier$Judge.<init>.(LTypeCopier$Numbered;LTypeCopier$Nodes;LTypeCopier$Functions;)V -/
def mm_f40 : Nat → mm_E := fun pc => (bif Nat.ble 18 pc then
  (bif Nat.ble 24 pc then
  (bif Nat.ble 28 pc then
  (bif Nat.ble 29 pc then
  (bif Nat.ble 32 pc then (.return_, 1, [], [], 0, 0, 0, 32) else (bif Nat.beq 29 pc then (.putfield 28, 3, [(4, 2)], [[2108]], 1, 0, 0, 29) else mm_nop)) else (.aload_n 3, 1, [], [], 3, 0, 0, 28)) else (bif Nat.ble 27 pc then (.aload_n 0, 1, [], [], 0, 0, 0, 27) else (bif Nat.beq 24 pc then (.putfield 24, 3, [(4, 1)], [[2107]], 1, 0, 0, 24) else mm_nop))) else (bif Nat.ble 22 pc then
  (bif Nat.ble 23 pc then (.aload_n 2, 1, [], [], 2, 0, 0, 23) else (.aload_n 0, 1, [], [], 0, 0, 0, 22)) else (bif Nat.ble 19 pc then
  (bif Nat.beq 19 pc then (.putfield 20, 3, [(4, 0)], [[2106]], 1, 0, 0, 19) else mm_nop) else (.aload_n 1, 1, [], [], 1, 0, 0, 18)))) else (bif Nat.ble 7 pc then
  (bif Nat.ble 14 pc then
  (bif Nat.ble 17 pc then (.aload_n 0, 1, [], [], 0, 0, 0, 17) else (bif Nat.beq 14 pc then (.putfield 15, 3, [(4, 3)], [[2109]], 1, 0, 0, 14) else mm_nop)) else (bif Nat.ble 10 pc then
  (bif Nat.beq 10 pc then (.multianewarray 13 2, 4, [(1, 12), (0, 200)], [[2104, 2037, 2105]], 0, 0, 0, 10) else mm_nop) else (bif Nat.beq 7 pc then (.sipush 200, 3, [], [], 0, 200, 0, 7) else mm_nop))) else (bif Nat.ble 4 pc then
  (bif Nat.ble 5 pc then
  (bif Nat.beq 5 pc then (.bipush 12, 2, [], [], 0, 12, 0, 5) else mm_nop) else (.aload_n 0, 1, [], [], 0, 0, 0, 4)) else (bif Nat.ble 1 pc then
  (bif Nat.beq 1 pc then (.invokespecial 3, 3, [], [[2103, 2022, 2023]], 0, 0, 0, 1) else mm_nop) else (.aload_n 0, 1, [], [], 0, 0, 0, 0)))))
def mm_k40 : List mm_E := (List.range 33).map mm_f40
def mm_m40 : mm_M := (yX4_init, cX4_init, 4, none, mm_k40, 3, 13, 2412, 2102)
/-- TypeCopier$Judge.fillNode.(I)V -/
def mm_f41 : Nat → mm_E := fun pc => (bif Nat.ble 15 pc then
  (bif Nat.ble 19 pc then
  (bif Nat.ble 25 pc then
  (bif Nat.ble 28 pc then
  (bif Nat.ble 31 pc then (.return_, 1, [], [], 0, 0, 0, 31) else (bif Nat.beq 28 pc then (.goto (-26), 3, [(0, 2)], [], 0, 0, 0, 28) else mm_nop)) else (bif Nat.beq 25 pc then (.iinc 2 1, 3, [], [], 2, 1, 0, 25) else mm_nop)) else (bif Nat.ble 22 pc then
  (bif Nat.beq 22 pc then (.invokevirtual 40, 3, [(4, 42)], [[4137, 4139, 1018, 2005]], 3, 0, 0, 22) else mm_nop) else (bif Nat.beq 19 pc then (.invokevirtual 36, 3, [(4, 45)], [[4104, 4106, 1013, 2005]], 2, 0, 0, 19) else mm_nop))) else (bif Nat.ble 17 pc then
  (bif Nat.ble 18 pc then (.iload_n 1, 1, [], [], 1, 0, 0, 18) else (.iload_n 2, 1, [], [], 2, 0, 0, 17)) else (bif Nat.ble 16 pc then (.aload_n 0, 1, [], [], 0, 0, 0, 16) else (.iload_n 1, 1, [], [], 1, 0, 0, 15)))) else (bif Nat.ble 4 pc then
  (bif Nat.ble 10 pc then
  (bif Nat.ble 13 pc then
  (bif Nat.ble 14 pc then (.iload_n 2, 1, [], [], 2, 0, 0, 14) else (.aload_n 0, 1, [], [], 0, 0, 0, 13)) else (bif Nat.beq 10 pc then (.if_icmp .ge 21, 3, [(0, 31)], [], 0, 0, 0, 10) else mm_nop)) else (bif Nat.ble 7 pc then
  (bif Nat.beq 7 pc then (.invokevirtual 32, 3, [(2, 23)], [[4100, 4101, 4102, 2004]], 0, 0, 0, 7) else mm_nop) else (bif Nat.beq 4 pc then (.getfield 28, 3, [(4, 2)], [[2108]], 0, 0, 0, 4) else mm_nop))) else (bif Nat.ble 2 pc then
  (bif Nat.ble 3 pc then (.aload_n 0, 1, [], [], 0, 0, 0, 3) else (.iload_n 2, 1, [], [], 2, 0, 0, 2)) else (bif Nat.ble 1 pc then (.istore_n 2, 1, [], [], 2, 0, 0, 1) else (.iconst 0, 1, [], [], 0, 0, 0, 0)))))
def mm_k41 : List mm_E := (List.range 32).map mm_f41
def mm_m41 : mm_M := (yX4_fillNode, cX4_fillNode, 3, none, mm_k41, 1, 0, 0, 4099)
/-- TypeCopier$Judge.setShape.(IIJ)V -/
def mm_f42 : Nat → mm_E := fun pc => (bif Nat.ble 18 pc then
  (bif Nat.ble 26 pc then
  (bif Nat.ble 28 pc then
  (bif Nat.ble 29 pc then
  (bif Nat.ble 30 pc then (.return_, 1, [], [], 0, 0, 0, 30) else (.lastore, 1, [], [], 0, 0, 0, 29)) else (.lload_n 3, 1, [], [], 3, 0, 0, 28)) else (bif Nat.ble 27 pc then (.iload_n 2, 1, [], [], 2, 0, 0, 27) else (.aaload, 1, [], [], 0, 0, 0, 26))) else (bif Nat.ble 22 pc then
  (bif Nat.ble 25 pc then (.iload_n 1, 1, [], [], 1, 0, 0, 25) else (bif Nat.beq 22 pc then (.getfield 15, 3, [(4, 3)], [[2109]], 0, 0, 0, 22) else mm_nop)) else (bif Nat.ble 21 pc then (.aload_n 0, 1, [], [], 0, 0, 0, 21) else (bif Nat.beq 18 pc then (.if_icmp .ge 12, 3, [(0, 30)], [], 0, 0, 0, 18) else mm_nop)))) else (bif Nat.ble 7 pc then
  (bif Nat.ble 11 pc then
  (bif Nat.ble 14 pc then
  (bif Nat.ble 15 pc then
  (bif Nat.beq 15 pc then (.sipush 200, 3, [], [], 0, 200, 0, 15) else mm_nop) else (.iload_n 2, 1, [], [], 2, 0, 0, 14)) else (bif Nat.beq 11 pc then (.ifCond .lt 19, 3, [(0, 30)], [], 0, 0, 0, 11) else mm_nop)) else (bif Nat.ble 10 pc then (.iload_n 2, 1, [], [], 2, 0, 0, 10) else (bif Nat.beq 7 pc then (.if_icmp .ge 23, 3, [(0, 30)], [], 0, 0, 0, 7) else mm_nop))) else (bif Nat.ble 4 pc then
  (bif Nat.ble 5 pc then
  (bif Nat.beq 5 pc then (.bipush 12, 2, [], [], 0, 12, 0, 5) else mm_nop) else (.iload_n 1, 1, [], [], 1, 0, 0, 4)) else (bif Nat.ble 1 pc then
  (bif Nat.beq 1 pc then (.ifCond .lt 29, 3, [(0, 30)], [], 0, 0, 0, 1) else mm_nop) else (.iload_n 1, 1, [], [], 1, 0, 0, 0)))))
def mm_k42 : List mm_E := (List.range 31).map mm_f42
def mm_m42 : mm_M := (yX4_setShape, cX4_setShape, 5, none, mm_k42, 3, 0, 0, 4140)
/-- TypeCopier$Judge.shapeIn.(II)J -/
def mm_f43 : Nat → mm_E := fun pc => (bif Nat.ble 19 pc then
  (bif Nat.ble 28 pc then
  (bif Nat.ble 30 pc then
  (bif Nat.ble 33 pc then
  (bif Nat.ble 36 pc then (.lreturn, 1, [], [], 0, 0, 0, 36) else (bif Nat.beq 33 pc then (.ldc2_w 51, 3, [], [[3087]], 0, 0, (-1), 33) else mm_nop)) else (bif Nat.beq 30 pc then (.goto 6, 3, [(0, 36)], [], 0, 0, 0, 30) else mm_nop)) else (bif Nat.ble 29 pc then (.laload, 1, [], [], 0, 0, 0, 29) else (.iload_n 2, 1, [], [], 2, 0, 0, 28))) else (bif Nat.ble 23 pc then
  (bif Nat.ble 26 pc then
  (bif Nat.ble 27 pc then (.aaload, 1, [], [], 0, 0, 0, 27) else (.iload_n 1, 1, [], [], 1, 0, 0, 26)) else (bif Nat.beq 23 pc then (.getfield 15, 3, [(4, 3)], [[2109]], 0, 0, 0, 23) else mm_nop)) else (bif Nat.ble 22 pc then (.aload_n 0, 1, [], [], 0, 0, 0, 22) else (bif Nat.beq 19 pc then (.ifCond .eq 14, 3, [(0, 33)], [], 0, 0, 0, 19) else mm_nop)))) else (bif Nat.ble 8 pc then
  (bif Nat.ble 12 pc then
  (bif Nat.ble 15 pc then
  (bif Nat.ble 16 pc then
  (bif Nat.beq 16 pc then (.invokevirtual 48, 3, [(6, 92)], [[3083, 3084, 3085, 2003]], 1, 0, 0, 16) else mm_nop) else (.iload_n 2, 1, [], [], 2, 0, 0, 15)) else (bif Nat.beq 12 pc then (.getfield 24, 3, [(4, 1)], [[2107]], 0, 0, 0, 12) else mm_nop)) else (bif Nat.ble 11 pc then (.aload_n 0, 1, [], [], 0, 0, 0, 11) else (bif Nat.beq 8 pc then (.ifCond .eq 25, 3, [(0, 33)], [], 0, 0, 0, 8) else mm_nop))) else (bif Nat.ble 4 pc then
  (bif Nat.ble 5 pc then
  (bif Nat.beq 5 pc then (.invokevirtual 44, 3, [(2, 24)], [[3054, 3055, 3056, 2004]], 1, 0, 0, 5) else mm_nop) else (.iload_n 1, 1, [], [], 1, 0, 0, 4)) else (bif Nat.ble 1 pc then
  (bif Nat.beq 1 pc then (.getfield 28, 3, [(4, 2)], [[2108]], 0, 0, 0, 1) else mm_nop) else (.aload_n 0, 1, [], [], 0, 0, 0, 0)))))
def mm_k43 : List mm_E := (List.range 37).map mm_f43
def mm_m43 : mm_M := (yX4_shapeIn, cX4_shapeIn, 3, (some .long), mm_k43, 2, 0, 0, 3082)
/-- TypeCopier$Judge.partShape.(III)J -/
def mm_f44 : Nat → mm_E := fun pc => (bif Nat.ble 6 pc then
  (bif Nat.ble 8 pc then
  (bif Nat.ble 11 pc then
  (bif Nat.ble 14 pc then (.lreturn, 1, [], [], 0, 0, 0, 14) else (bif Nat.beq 11 pc then (.invokevirtual 57, 3, [(4, 43)], [[3079, 3080, 3081, 2005]], 2, 0, 0, 11) else mm_nop)) else (bif Nat.beq 8 pc then (.invokevirtual 53, 3, [(6, 98)], [[4112, 3116, 3117, 2003]], 2, 0, 0, 8) else mm_nop)) else (bif Nat.ble 7 pc then (.iload_n 3, 1, [], [], 3, 0, 0, 7) else (.iload_n 2, 1, [], [], 2, 0, 0, 6))) else (bif Nat.ble 2 pc then
  (bif Nat.ble 3 pc then
  (bif Nat.beq 3 pc then (.getfield 24, 3, [(4, 1)], [[2107]], 0, 0, 0, 3) else mm_nop) else (.aload_n 0, 1, [], [], 0, 0, 0, 2)) else (bif Nat.ble 1 pc then (.iload_n 1, 1, [], [], 1, 0, 0, 1) else (.aload_n 0, 1, [], [], 0, 0, 0, 0))))
def mm_k44 : List mm_E := (List.range 15).map mm_f44
def mm_m44 : mm_M := (yX4_partShape, cX4_partShape, 4, (some .long), mm_k44, 3, 0, 0, 4111)
/-- TypeCopier$Judge.findShape.(II)J -/
def mm_f45 : Nat → mm_E := fun pc => (bif Nat.ble 171 pc then
  (bif Nat.ble 234 pc then
  (bif Nat.ble 265 pc then
  (bif Nat.ble 277 pc then
  (bif Nat.ble 283 pc then
  (bif Nat.ble 287 pc then
  (bif Nat.ble 290 pc then (.lreturn, 1, [], [], 0, 0, 0, 290) else (bif Nat.beq 287 pc then (.invokevirtual 105, 3, [(4, 46)], [[4133, 4135, 1017, 2005]], 2, 0, 0, 287) else mm_nop)) else (bif Nat.ble 286 pc then (.lload_n 3, 1, [], [], 3, 0, 0, 286) else (bif Nat.beq 283 pc then (.invokevirtual 64, 3, [(6, 94)], [[3127, 3128, 3129, 2003]], 1, 0, 0, 283) else mm_nop))) else (bif Nat.ble 279 pc then
  (bif Nat.ble 282 pc then (.iload_n 2, 1, [], [], 2, 0, 0, 282) else (bif Nat.beq 279 pc then (.getfield 24, 3, [(4, 1)], [[2107]], 0, 0, 0, 279) else mm_nop)) else (bif Nat.ble 278 pc then (.aload_n 0, 1, [], [], 0, 0, 0, 278) else (.aload_n 0, 1, [], [], 0, 0, 0, 277)))) else (bif Nat.ble 271 pc then
  (bif Nat.ble 273 pc then
  (bif Nat.ble 276 pc then (.lreturn, 1, [], [], 0, 0, 0, 276) else (bif Nat.beq 273 pc then (.invokevirtual 101, 3, [(4, 48)], [[4128, 4130, 1016, 2005]], 3, 0, 0, 273) else mm_nop)) else (bif Nat.ble 272 pc then (.lload_n 3, 1, [], [], 3, 0, 0, 272) else (.iload_n 2, 1, [], [], 2, 0, 0, 271))) else (bif Nat.ble 269 pc then
  (bif Nat.ble 270 pc then (.iload_n 1, 1, [], [], 1, 0, 0, 270) else (.aload_n 0, 1, [], [], 0, 0, 0, 269)) else (bif Nat.ble 268 pc then (.lreturn, 1, [], [], 0, 0, 0, 268) else (bif Nat.beq 265 pc then (.ldc2_w 51, 3, [], [[3087]], 0, 0, (-1), 265) else mm_nop))))) else (bif Nat.ble 249 pc then
  (bif Nat.ble 256 pc then
  (bif Nat.ble 260 pc then
  (bif Nat.ble 262 pc then
  (bif Nat.beq 262 pc then (.goto 6, 3, [(0, 268)], [], 0, 0, 0, 262) else mm_nop) else (bif Nat.beq 260 pc then (.lload 5, 2, [], [], 5, 0, 0, 260) else mm_nop)) else (bif Nat.ble 257 pc then
  (bif Nat.beq 257 pc then (.ifCond .ne 8, 3, [(0, 265)], [], 0, 0, 0, 257) else mm_nop) else (.lcmp, 1, [], [], 0, 0, 0, 256))) else (bif Nat.ble 252 pc then
  (bif Nat.ble 253 pc then
  (bif Nat.beq 253 pc then (.invokestatic 98, 3, [(0, 131)], [[4127, 3178, 2013]], 1, 0, 0, 253) else mm_nop) else (.lload_n 3, 1, [], [], 3, 0, 0, 252)) else (bif Nat.ble 250 pc then
  (bif Nat.beq 250 pc then (.lload 5, 2, [], [], 5, 0, 0, 250) else mm_nop) else (.lreturn, 1, [], [], 0, 0, 0, 249)))) else (bif Nat.ble 239 pc then
  (bif Nat.ble 243 pc then
  (bif Nat.ble 246 pc then
  (bif Nat.beq 246 pc then (.invokevirtual 94, 3, [(4, 47)], [[4119, 4121, 1015, 2005]], 2, 0, 0, 246) else mm_nop) else (bif Nat.beq 243 pc then (.invokevirtual 89, 3, [(7, 112)], [[4118, 3218, 3219, 2002]], 1, 0, 0, 243) else mm_nop)) else (bif Nat.ble 240 pc then
  (bif Nat.beq 240 pc then (.invokevirtual 86, 3, [(6, 97)], [[3135, 3136, 3137, 2003]], 2, 0, 0, 240) else mm_nop) else (.iconst 0, 1, [], [], 0, 0, 0, 239))) else (bif Nat.ble 235 pc then
  (bif Nat.ble 238 pc then (.iload_n 2, 1, [], [], 2, 0, 0, 238) else (bif Nat.beq 235 pc then (.getfield 24, 3, [(4, 1)], [[2107]], 0, 0, 0, 235) else mm_nop)) else (.aload_n 0, 1, [], [], 0, 0, 0, 234))))) else (bif Nat.ble 202 pc then
  (bif Nat.ble 218 pc then
  (bif Nat.ble 228 pc then
  (bif Nat.ble 230 pc then
  (bif Nat.ble 231 pc then
  (bif Nat.beq 231 pc then (.getfield 20, 3, [(4, 0)], [[2106]], 0, 0, 0, 231) else mm_nop) else (.aload_n 0, 1, [], [], 0, 0, 0, 230)) else (bif Nat.ble 229 pc then (.iload_n 1, 1, [], [], 1, 0, 0, 229) else (.aload_n 0, 1, [], [], 0, 0, 0, 228))) else (bif Nat.ble 224 pc then
  (bif Nat.ble 227 pc then (.lreturn, 1, [], [], 0, 0, 0, 227) else (bif Nat.beq 224 pc then (.ldc2_w 51, 3, [], [[3087]], 0, 0, (-1), 224) else mm_nop)) else (bif Nat.ble 221 pc then
  (bif Nat.beq 221 pc then (.goto 6, 3, [(0, 227)], [], 0, 0, 0, 221) else mm_nop) else (bif Nat.beq 218 pc then (.invokestatic 83, 3, [(0, 135)], [[4117, 3184, 2013]], 1, 0, 0, 218) else mm_nop)))) else (bif Nat.ble 210 pc then
  (bif Nat.ble 214 pc then
  (bif Nat.ble 217 pc then (.lload_n 3, 1, [], [], 3, 0, 0, 217) else (bif Nat.beq 214 pc then (.if_icmp .ne 10, 3, [(0, 224)], [], 0, 0, 0, 214) else mm_nop)) else (bif Nat.ble 213 pc then (.iconst 4, 1, [], [], 0, 4, 0, 213) else (bif Nat.beq 210 pc then (.invokestatic 76, 3, [(0, 133)], [[4115, 3164, 2013]], 1, 0, 0, 210) else mm_nop))) else (bif Nat.ble 208 pc then
  (bif Nat.ble 209 pc then (.lload_n 3, 1, [], [], 3, 0, 0, 209) else (.lreturn, 1, [], [], 0, 0, 0, 208)) else (bif Nat.ble 205 pc then
  (bif Nat.beq 205 pc then (.ldc2_w 51, 3, [], [[3087]], 0, 0, (-1), 205) else mm_nop) else (bif Nat.beq 202 pc then (.goto 6, 3, [(0, 208)], [], 0, 0, 0, 202) else mm_nop))))) else (bif Nat.ble 186 pc then
  (bif Nat.ble 194 pc then
  (bif Nat.ble 198 pc then
  (bif Nat.ble 199 pc then
  (bif Nat.beq 199 pc then (.invokestatic 79, 3, [(0, 134)], [[4116, 3173, 2013]], 1, 0, 0, 199) else mm_nop) else (.lload_n 3, 1, [], [], 3, 0, 0, 198)) else (bif Nat.ble 195 pc then
  (bif Nat.beq 195 pc then (.if_icmp .ne 10, 3, [(0, 205)], [], 0, 0, 0, 195) else mm_nop) else (.iconst 4, 1, [], [], 0, 4, 0, 194))) else (bif Nat.ble 190 pc then
  (bif Nat.ble 191 pc then
  (bif Nat.beq 191 pc then (.invokestatic 76, 3, [(0, 133)], [[4115, 3164, 2013]], 1, 0, 0, 191) else mm_nop) else (.lload_n 3, 1, [], [], 3, 0, 0, 190)) else (bif Nat.ble 189 pc then (.lreturn, 1, [], [], 0, 0, 0, 189) else (bif Nat.beq 186 pc then (.invokestatic 72, 3, [(0, 132)], [[4114, 3187, 2013]], 2, 0, 0, 186) else mm_nop)))) else (bif Nat.ble 179 pc then
  (bif Nat.ble 183 pc then
  (bif Nat.ble 184 pc then
  (bif Nat.beq 184 pc then (.lload 5, 2, [], [], 5, 0, 0, 184) else mm_nop) else (.lload_n 3, 1, [], [], 3, 0, 0, 183)) else (bif Nat.ble 182 pc then (.lreturn, 1, [], [], 0, 0, 0, 182) else (bif Nat.beq 179 pc then (.ldc2_w 51, 3, [], [[3087]], 0, 0, (-1), 179) else mm_nop))) else (bif Nat.ble 174 pc then
  (bif Nat.ble 176 pc then
  (bif Nat.beq 176 pc then (.goto 6, 3, [(0, 182)], [], 0, 0, 0, 176) else mm_nop) else (bif Nat.beq 174 pc then (.lload 5, 2, [], [], 5, 0, 0, 174) else mm_nop)) else (bif Nat.beq 171 pc then (.ifCond .ne 8, 3, [(0, 179)], [], 0, 0, 0, 171) else mm_nop)))))) else (bif Nat.ble 119 pc then
  (bif Nat.ble 144 pc then
  (bif Nat.ble 158 pc then
  (bif Nat.ble 165 pc then
  (bif Nat.ble 167 pc then
  (bif Nat.ble 170 pc then (.lcmp, 1, [], [], 0, 0, 0, 170) else (bif Nat.beq 167 pc then (.invokevirtual 60, 3, [(4, 44)], [[4108, 4110, 1014, 2005]], 3, 0, 0, 167) else mm_nop)) else (bif Nat.ble 166 pc then (.iconst 2, 1, [], [], 0, 2, 0, 166) else (.iload_n 2, 1, [], [], 2, 0, 0, 165))) else (bif Nat.ble 163 pc then
  (bif Nat.ble 164 pc then (.iload_n 1, 1, [], [], 1, 0, 0, 164) else (.aload_n 0, 1, [], [], 0, 0, 0, 163)) else (bif Nat.ble 161 pc then
  (bif Nat.beq 161 pc then (.lload 5, 2, [], [], 5, 0, 0, 161) else mm_nop) else (bif Nat.beq 158 pc then (.ifCond .ne 21, 3, [(0, 179)], [], 0, 0, 0, 158) else mm_nop)))) else (bif Nat.ble 154 pc then
  (bif Nat.ble 156 pc then
  (bif Nat.ble 157 pc then (.lcmp, 1, [], [], 0, 0, 0, 157) else (.lconst 1, 1, [], [], 0, 0, 1, 156)) else (bif Nat.ble 155 pc then (.lload_n 3, 1, [], [], 3, 0, 0, 155) else (.lreturn, 1, [], [], 0, 0, 0, 154))) else (bif Nat.ble 148 pc then
  (bif Nat.ble 151 pc then
  (bif Nat.beq 151 pc then (.ldc2_w 51, 3, [], [[3087]], 0, 0, (-1), 151) else mm_nop) else (bif Nat.beq 148 pc then (.goto 6, 3, [(0, 154)], [], 0, 0, 0, 148) else mm_nop)) else (bif Nat.ble 147 pc then (.lconst 1, 1, [], [], 0, 0, 1, 147) else (bif Nat.beq 144 pc then (.ifCond .ne 7, 3, [(0, 151)], [], 0, 0, 0, 144) else mm_nop))))) else (bif Nat.ble 133 pc then
  (bif Nat.ble 137 pc then
  (bif Nat.ble 142 pc then
  (bif Nat.ble 143 pc then (.lcmp, 1, [], [], 0, 0, 0, 143) else (.lconst 0, 1, [], [], 0, 0, 0, 142)) else (bif Nat.ble 140 pc then
  (bif Nat.beq 140 pc then (.lload 5, 2, [], [], 5, 0, 0, 140) else mm_nop) else (bif Nat.beq 137 pc then (.ifCond .ne 14, 3, [(0, 151)], [], 0, 0, 0, 137) else mm_nop))) else (bif Nat.ble 135 pc then
  (bif Nat.ble 136 pc then (.lcmp, 1, [], [], 0, 0, 0, 136) else (.lconst 0, 1, [], [], 0, 0, 0, 135)) else (bif Nat.ble 134 pc then (.lload_n 3, 1, [], [], 3, 0, 0, 134) else (.lreturn, 1, [], [], 0, 0, 0, 133)))) else (bif Nat.ble 123 pc then
  (bif Nat.ble 127 pc then
  (bif Nat.ble 130 pc then
  (bif Nat.beq 130 pc then (.ldc2_w 51, 3, [], [[3087]], 0, 0, (-1), 130) else mm_nop) else (bif Nat.beq 127 pc then (.goto 6, 3, [(0, 133)], [], 0, 0, 0, 127) else mm_nop)) else (bif Nat.ble 126 pc then (.lconst 0, 1, [], [], 0, 0, 0, 126) else (bif Nat.beq 123 pc then (.ifCond .ne 7, 3, [(0, 130)], [], 0, 0, 0, 123) else mm_nop))) else (bif Nat.ble 121 pc then
  (bif Nat.ble 122 pc then (.lcmp, 1, [], [], 0, 0, 0, 122) else (.lconst 0, 1, [], [], 0, 0, 0, 121)) else (bif Nat.beq 119 pc then (.lload 5, 2, [], [], 5, 0, 0, 119) else mm_nop))))) else (bif Nat.ble 22 pc then
  (bif Nat.ble 105 pc then
  (bif Nat.ble 113 pc then
  (bif Nat.ble 115 pc then
  (bif Nat.ble 116 pc then
  (bif Nat.beq 116 pc then (.ifCond .ne 14, 3, [(0, 130)], [], 0, 0, 0, 116) else mm_nop) else (.lcmp, 1, [], [], 0, 0, 0, 115)) else (bif Nat.ble 114 pc then (.lconst 0, 1, [], [], 0, 0, 0, 114) else (.lload_n 3, 1, [], [], 3, 0, 0, 113))) else (bif Nat.ble 109 pc then
  (bif Nat.ble 112 pc then (.lreturn, 1, [], [], 0, 0, 0, 112) else (bif Nat.beq 109 pc then (.invokevirtual 68, 3, [(2, 26)], [[4113, 3157, 3158, 2004]], 1, 0, 0, 109) else mm_nop)) else (bif Nat.ble 108 pc then (.iload_n 1, 1, [], [], 1, 0, 0, 108) else (bif Nat.beq 105 pc then (.getfield 28, 3, [(4, 2)], [[2108]], 0, 0, 0, 105) else mm_nop)))) else (bif Nat.ble 101 pc then
  (bif Nat.ble 103 pc then
  (bif Nat.ble 104 pc then (.aload_n 0, 1, [], [], 0, 0, 0, 104) else (.lreturn, 1, [], [], 0, 0, 0, 103)) else (bif Nat.ble 102 pc then (.lconst 1, 1, [], [], 0, 0, 1, 102) else (.lreturn, 1, [], [], 0, 0, 0, 101))) else (bif Nat.ble 25 pc then
  (bif Nat.ble 100 pc then (.lconst 0, 1, [], [], 0, 0, 0, 100) else (bif Nat.beq 25 pc then (.tableswitch 252 0 14 #[75, 77, 79, 88, 109, 130, 158, 165, 184, 203, 225, 252, 252, 252, 244], 75, [(0, 277), (0, 100), (1, 102), (2, 104), (3, 113), (4, 134), (5, 155), (6, 183), (7, 190), (8, 209), (9, 228), (10, 250), (11, 277), (12, 277), (13, 277), (14, 269)], [], 0, 0, 0, 25) else mm_nop)) else (bif Nat.beq 22 pc then (.invokevirtual 64, 3, [(6, 94)], [[3127, 3128, 3129, 2003]], 1, 0, 0, 22) else mm_nop)))) else (bif Nat.ble 9 pc then
  (bif Nat.ble 15 pc then
  (bif Nat.ble 18 pc then
  (bif Nat.ble 21 pc then (.iload_n 2, 1, [], [], 2, 0, 0, 21) else (bif Nat.beq 18 pc then (.getfield 24, 3, [(4, 1)], [[2107]], 0, 0, 0, 18) else mm_nop)) else (bif Nat.ble 17 pc then (.aload_n 0, 1, [], [], 0, 0, 0, 17) else (bif Nat.beq 15 pc then (.lstore 5, 2, [], [], 5, 0, 0, 15) else mm_nop))) else (bif Nat.ble 11 pc then
  (bif Nat.ble 12 pc then
  (bif Nat.beq 12 pc then (.invokevirtual 60, 3, [(4, 44)], [[4108, 4110, 1014, 2005]], 3, 0, 0, 12) else mm_nop) else (.iconst 1, 1, [], [], 0, 1, 0, 11)) else (bif Nat.ble 10 pc then (.iload_n 2, 1, [], [], 2, 0, 0, 10) else (.iload_n 1, 1, [], [], 1, 0, 0, 9)))) else (bif Nat.ble 3 pc then
  (bif Nat.ble 7 pc then
  (bif Nat.ble 8 pc then (.aload_n 0, 1, [], [], 0, 0, 0, 8) else (.lstore_n 3, 1, [], [], 3, 0, 0, 7)) else (bif Nat.ble 4 pc then
  (bif Nat.beq 4 pc then (.invokevirtual 60, 3, [(4, 44)], [[4108, 4110, 1014, 2005]], 3, 0, 0, 4) else mm_nop) else (.iconst 0, 1, [], [], 0, 0, 0, 3))) else (bif Nat.ble 1 pc then
  (bif Nat.ble 2 pc then (.iload_n 2, 1, [], [], 2, 0, 0, 2) else (.iload_n 1, 1, [], [], 1, 0, 0, 1)) else (.aload_n 0, 1, [], [], 0, 0, 0, 0)))))))
def mm_k45 : List mm_E := (List.range 291).map mm_f45
def mm_m45 : mm_M := (yX4_findShape, cX4_findShape, 7, (some .long), mm_k45, 2, 0, 0, 4107)
/-- TypeCopier$Judge.shapeOverList.(IJ)J -/
def mm_f46 : Nat → mm_E := fun pc => (bif Nat.ble 40 pc then
  (bif Nat.ble 46 pc then
  (bif Nat.ble 48 pc then
  (bif Nat.ble 49 pc then
  (bif Nat.ble 52 pc then (.lreturn, 1, [], [], 0, 0, 0, 52) else (bif Nat.beq 49 pc then (.ldc2_w 51, 3, [], [[3087]], 0, 0, (-1), 49) else mm_nop)) else (.lreturn, 1, [], [], 0, 0, 0, 48)) else (bif Nat.ble 47 pc then (.lload_n 2, 1, [], [], 2, 0, 0, 47) else (.lreturn, 1, [], [], 0, 0, 0, 46))) else (bif Nat.ble 42 pc then
  (bif Nat.ble 43 pc then
  (bif Nat.beq 43 pc then (.invokestatic 79, 3, [(0, 134)], [[4116, 3173, 2013]], 1, 0, 0, 43) else mm_nop) else (.lload_n 2, 1, [], [], 2, 0, 0, 42)) else (bif Nat.ble 41 pc then (.lreturn, 1, [], [], 0, 0, 0, 41) else (.lconst 1, 1, [], [], 0, 0, 1, 40)))) else (bif Nat.ble 8 pc then
  (bif Nat.ble 12 pc then
  (bif Nat.ble 13 pc then
  (bif Nat.beq 13 pc then (.tableswitch 36 11 13 #[27, 29, 34], 27, [(0, 49), (11, 40), (12, 42), (13, 47)], [], 0, 0, 0, 13) else mm_nop) else (.iload_n 1, 1, [], [], 1, 0, 0, 12)) else (bif Nat.ble 11 pc then (.lreturn, 1, [], [], 0, 0, 0, 11) else (bif Nat.beq 8 pc then (.ldc2_w 51, 3, [], [[3087]], 0, 0, (-1), 8) else mm_nop))) else (bif Nat.ble 4 pc then
  (bif Nat.ble 5 pc then
  (bif Nat.beq 5 pc then (.if_icmp .eq 7, 3, [(0, 12)], [], 0, 0, 0, 5) else mm_nop) else (.iconst 5, 1, [], [], 0, 5, 0, 4)) else (bif Nat.ble 1 pc then
  (bif Nat.beq 1 pc then (.invokestatic 76, 3, [(0, 133)], [[4115, 3164, 2013]], 1, 0, 0, 1) else mm_nop) else (.lload_n 2, 1, [], [], 2, 0, 0, 0)))))
def mm_k46 : List mm_E := (List.range 53).map mm_f46
def mm_m46 : mm_M := (yX4_shapeOverList, cX4_shapeOverList, 4, (some .long), mm_k46, 2, 0, 0, 4136)
/-- TypeCopier$Judge.nilShape.(IJ)J -/
def mm_f47 : Nat → mm_E := fun pc => (bif Nat.ble 12 pc then
  (bif Nat.ble 19 pc then
  (bif Nat.ble 22 pc then
  (bif Nat.ble 25 pc then (.lreturn, 1, [], [], 0, 0, 0, 25) else (bif Nat.beq 22 pc then (.ldc2_w 51, 3, [], [[3087]], 0, 0, (-1), 22) else mm_nop)) else (bif Nat.beq 19 pc then (.goto 6, 3, [(0, 25)], [], 0, 0, 0, 19) else mm_nop)) else (bif Nat.ble 15 pc then
  (bif Nat.ble 16 pc then
  (bif Nat.beq 16 pc then (.invokestatic 98, 3, [(0, 131)], [[4127, 3178, 2013]], 1, 0, 0, 16) else mm_nop) else (.lload_n 2, 1, [], [], 2, 0, 0, 15)) else (bif Nat.beq 12 pc then (.ifCond .eq 10, 3, [(0, 22)], [], 0, 0, 0, 12) else mm_nop))) else (bif Nat.ble 5 pc then
  (bif Nat.ble 8 pc then
  (bif Nat.ble 9 pc then
  (bif Nat.beq 9 pc then (.invokestatic 111, 3, [(0, 29)], [[4123, 4124, 2004]], 2, 0, 0, 9) else mm_nop) else (.lload_n 2, 1, [], [], 2, 0, 0, 8)) else (bif Nat.beq 5 pc then (.invokevirtual 108, 3, [(2, 25)], [[3058, 3059, 3060, 2004]], 1, 0, 0, 5) else mm_nop)) else (bif Nat.ble 1 pc then
  (bif Nat.ble 4 pc then (.iload_n 1, 1, [], [], 1, 0, 0, 4) else (bif Nat.beq 1 pc then (.getfield 28, 3, [(4, 2)], [[2108]], 0, 0, 0, 1) else mm_nop)) else (.aload_n 0, 1, [], [], 0, 0, 0, 0))))
def mm_k47 : List mm_E := (List.range 26).map mm_f47
def mm_m47 : mm_M := (yX4_nilShape, cX4_nilShape, 4, (some .long), mm_k47, 2, 0, 0, 4122)
/-- TypeCopier$Judge.callShape.(IIJ)J -/
def mm_f48 : Nat → mm_E := fun pc => (bif Nat.ble 92 pc then
  (bif Nat.ble 141 pc then
  (bif Nat.ble 165 pc then
  (bif Nat.ble 177 pc then
  (bif Nat.ble 184 pc then
  (bif Nat.ble 186 pc then
  (bif Nat.ble 189 pc then (.lreturn, 1, [], [], 0, 0, 0, 189) else (bif Nat.beq 186 pc then (.invokestatic 115, 3, [(1, 136)], [[4132, 3161, 2013]], 3, 0, 0, 186) else mm_nop)) else (bif Nat.beq 184 pc then (.lload 8, 2, [], [], 8, 0, 0, 184) else mm_nop)) else (bif Nat.ble 179 pc then
  (bif Nat.ble 182 pc then
  (bif Nat.beq 182 pc then (.lload 6, 2, [], [], 6, 0, 0, 182) else mm_nop) else (bif Nat.beq 179 pc then (.invokevirtual 119, 3, [(2, 27)], [[3088, 3089, 3090, 2004]], 1, 0, 0, 179) else mm_nop)) else (bif Nat.beq 177 pc then (.iload 5, 2, [], [], 5, 0, 0, 177) else mm_nop))) else (bif Nat.ble 172 pc then
  (bif Nat.ble 173 pc then
  (bif Nat.ble 174 pc then
  (bif Nat.beq 174 pc then (.getfield 28, 3, [(4, 2)], [[2108]], 0, 0, 0, 174) else mm_nop) else (.aload_n 0, 1, [], [], 0, 0, 0, 173)) else (.lreturn, 1, [], [], 0, 0, 0, 172)) else (bif Nat.ble 166 pc then
  (bif Nat.ble 169 pc then
  (bif Nat.beq 169 pc then (.ldc2_w 51, 3, [], [[3087]], 0, 0, (-1), 169) else mm_nop) else (bif Nat.beq 166 pc then (.ifCond .eq 7, 3, [(0, 173)], [], 0, 0, 0, 166) else mm_nop)) else (.lcmp, 1, [], [], 0, 0, 0, 165)))) else (bif Nat.ble 150 pc then
  (bif Nat.ble 158 pc then
  (bif Nat.ble 160 pc then
  (bif Nat.ble 162 pc then
  (bif Nat.beq 162 pc then (.invokestatic 115, 3, [(1, 136)], [[4132, 3161, 2013]], 3, 0, 0, 162) else mm_nop) else (bif Nat.beq 160 pc then (.lload 8, 2, [], [], 8, 0, 0, 160) else mm_nop)) else (bif Nat.beq 158 pc then (.lload 6, 2, [], [], 6, 0, 0, 158) else mm_nop)) else (bif Nat.ble 153 pc then
  (bif Nat.ble 155 pc then
  (bif Nat.beq 155 pc then (.invokevirtual 68, 3, [(2, 26)], [[4113, 3157, 3158, 2004]], 1, 0, 0, 155) else mm_nop) else (bif Nat.beq 153 pc then (.iload 5, 2, [], [], 5, 0, 0, 153) else mm_nop)) else (bif Nat.beq 150 pc then (.getfield 28, 3, [(4, 2)], [[2108]], 0, 0, 0, 150) else mm_nop))) else (bif Nat.ble 147 pc then
  (bif Nat.ble 148 pc then
  (bif Nat.ble 149 pc then (.aload_n 0, 1, [], [], 0, 0, 0, 149) else (.lload_n 3, 1, [], [], 3, 0, 0, 148)) else (.lreturn, 1, [], [], 0, 0, 0, 147)) else (bif Nat.ble 144 pc then
  (bif Nat.beq 144 pc then (.ldc2_w 51, 3, [], [[3087]], 0, 0, (-1), 144) else mm_nop) else (bif Nat.beq 141 pc then (.ifCond .ne 7, 3, [(0, 148)], [], 0, 0, 0, 141) else mm_nop))))) else (bif Nat.ble 115 pc then
  (bif Nat.ble 126 pc then
  (bif Nat.ble 134 pc then
  (bif Nat.ble 136 pc then
  (bif Nat.ble 138 pc then
  (bif Nat.beq 138 pc then (.invokestatic 111, 3, [(0, 29)], [[4123, 4124, 2004]], 2, 0, 0, 138) else mm_nop) else (bif Nat.beq 136 pc then (.lload 8, 2, [], [], 8, 0, 0, 136) else mm_nop)) else (bif Nat.beq 134 pc then (.iload 11, 2, [], [], 11, 0, 0, 134) else mm_nop)) else (bif Nat.ble 128 pc then
  (bif Nat.ble 131 pc then
  (bif Nat.beq 131 pc then (.ifCond .eq 13, 3, [(0, 144)], [], 0, 0, 0, 131) else mm_nop) else (bif Nat.beq 128 pc then (.invokestatic 111, 3, [(0, 29)], [[4123, 4124, 2004]], 2, 0, 0, 128) else mm_nop)) else (bif Nat.beq 126 pc then (.lload 6, 2, [], [], 6, 0, 0, 126) else mm_nop))) else (bif Nat.ble 119 pc then
  (bif Nat.ble 122 pc then
  (bif Nat.ble 124 pc then
  (bif Nat.beq 124 pc then (.iload 11, 2, [], [], 11, 0, 0, 124) else mm_nop) else (bif Nat.beq 122 pc then (.istore 11, 2, [], [], 11, 0, 0, 122) else mm_nop)) else (bif Nat.beq 119 pc then (.invokevirtual 108, 3, [(2, 25)], [[3058, 3059, 3060, 2004]], 1, 0, 0, 119) else mm_nop)) else (bif Nat.ble 118 pc then (.iload_n 1, 1, [], [], 1, 0, 0, 118) else (bif Nat.beq 115 pc then (.getfield 28, 3, [(4, 2)], [[2108]], 0, 0, 0, 115) else mm_nop)))) else (bif Nat.ble 103 pc then
  (bif Nat.ble 110 pc then
  (bif Nat.ble 113 pc then
  (bif Nat.ble 114 pc then (.aload_n 0, 1, [], [], 0, 0, 0, 114) else (.lreturn, 1, [], [], 0, 0, 0, 113)) else (bif Nat.beq 110 pc then (.ldc2_w 51, 3, [], [[3087]], 0, 0, (-1), 110) else mm_nop)) else (bif Nat.ble 106 pc then
  (bif Nat.ble 107 pc then
  (bif Nat.beq 107 pc then (.ifCond .ne 7, 3, [(0, 114)], [], 0, 0, 0, 107) else mm_nop) else (.lcmp, 1, [], [], 0, 0, 0, 106)) else (bif Nat.beq 103 pc then (.ldc2_w 51, 3, [], [[3087]], 0, 0, (-1), 103) else mm_nop))) else (bif Nat.ble 97 pc then
  (bif Nat.ble 99 pc then
  (bif Nat.ble 102 pc then (.lload_n 3, 1, [], [], 3, 0, 0, 102) else (bif Nat.beq 99 pc then (.if_icmp .ne 11, 3, [(0, 110)], [], 0, 0, 0, 99) else mm_nop)) else (bif Nat.beq 97 pc then (.iload 10, 2, [], [], 10, 0, 0, 97) else mm_nop)) else (bif Nat.ble 94 pc then
  (bif Nat.beq 94 pc then (.invokevirtual 108, 3, [(2, 25)], [[3058, 3059, 3060, 2004]], 1, 0, 0, 94) else mm_nop) else (bif Nat.beq 92 pc then (.iload 5, 2, [], [], 5, 0, 0, 92) else mm_nop)))))) else (bif Nat.ble 42 pc then
  (bif Nat.ble 66 pc then
  (bif Nat.ble 77 pc then
  (bif Nat.ble 85 pc then
  (bif Nat.ble 88 pc then
  (bif Nat.ble 89 pc then
  (bif Nat.beq 89 pc then (.getfield 28, 3, [(4, 2)], [[2108]], 0, 0, 0, 89) else mm_nop) else (.aload_n 0, 1, [], [], 0, 0, 0, 88)) else (bif Nat.beq 85 pc then (.ifCond .eq 25, 3, [(0, 110)], [], 0, 0, 0, 85) else mm_nop)) else (bif Nat.ble 80 pc then
  (bif Nat.ble 82 pc then
  (bif Nat.beq 82 pc then (.invokevirtual 44, 3, [(2, 24)], [[3054, 3055, 3056, 2004]], 1, 0, 0, 82) else mm_nop) else (bif Nat.beq 80 pc then (.iload 5, 2, [], [], 5, 0, 0, 80) else mm_nop)) else (bif Nat.beq 77 pc then (.getfield 28, 3, [(4, 2)], [[2108]], 0, 0, 0, 77) else mm_nop))) else (bif Nat.ble 73 pc then
  (bif Nat.ble 74 pc then
  (bif Nat.ble 76 pc then (.aload_n 0, 1, [], [], 0, 0, 0, 76) else (bif Nat.beq 74 pc then (.istore 10, 2, [], [], 10, 0, 0, 74) else mm_nop)) else (.iconst 2, 1, [], [], 0, 2, 0, 73)) else (bif Nat.ble 69 pc then
  (bif Nat.ble 70 pc then
  (bif Nat.beq 70 pc then (.goto 4, 3, [(0, 74)], [], 0, 0, 0, 70) else mm_nop) else (.iconst 1, 1, [], [], 0, 1, 0, 69)) else (bif Nat.beq 66 pc then (.ifCond .ne 7, 3, [(0, 73)], [], 0, 0, 0, 66) else mm_nop)))) else (bif Nat.ble 53 pc then
  (bif Nat.ble 60 pc then
  (bif Nat.ble 62 pc then
  (bif Nat.ble 65 pc then (.lcmp, 1, [], [], 0, 0, 0, 65) else (bif Nat.beq 62 pc then (.ldc2_w 51, 3, [], [[3087]], 0, 0, (-1), 62) else mm_nop)) else (bif Nat.beq 60 pc then (.lload 8, 2, [], [], 8, 0, 0, 60) else mm_nop)) else (bif Nat.ble 56 pc then
  (bif Nat.ble 57 pc then
  (bif Nat.beq 57 pc then (.goto 17, 3, [(0, 74)], [], 0, 0, 0, 57) else mm_nop) else (.iconst 0, 1, [], [], 0, 0, 0, 56)) else (bif Nat.beq 53 pc then (.ifCond .ne 7, 3, [(0, 60)], [], 0, 0, 0, 53) else mm_nop))) else (bif Nat.ble 47 pc then
  (bif Nat.ble 49 pc then
  (bif Nat.ble 52 pc then (.lcmp, 1, [], [], 0, 0, 0, 52) else (bif Nat.beq 49 pc then (.ldc2_w 51, 3, [], [[3087]], 0, 0, (-1), 49) else mm_nop)) else (bif Nat.beq 47 pc then (.lload 6, 2, [], [], 6, 0, 0, 47) else mm_nop)) else (bif Nat.ble 45 pc then
  (bif Nat.beq 45 pc then (.lstore 8, 2, [], [], 8, 0, 0, 45) else mm_nop) else (bif Nat.beq 42 pc then (.invokevirtual 89, 3, [(7, 112)], [[4118, 3218, 3219, 2002]], 1, 0, 0, 42) else mm_nop))))) else (bif Nat.ble 20 pc then
  (bif Nat.ble 30 pc then
  (bif Nat.ble 37 pc then
  (bif Nat.ble 38 pc then
  (bif Nat.ble 39 pc then
  (bif Nat.beq 39 pc then (.invokevirtual 86, 3, [(6, 97)], [[3135, 3136, 3137, 2003]], 2, 0, 0, 39) else mm_nop) else (.iconst 3, 1, [], [], 0, 3, 0, 38)) else (.iload_n 2, 1, [], [], 2, 0, 0, 37)) else (bif Nat.ble 33 pc then
  (bif Nat.ble 34 pc then
  (bif Nat.beq 34 pc then (.getfield 24, 3, [(4, 1)], [[2107]], 0, 0, 0, 34) else mm_nop) else (.aload_n 0, 1, [], [], 0, 0, 0, 33)) else (bif Nat.beq 30 pc then (.getfield 20, 3, [(4, 0)], [[2106]], 0, 0, 0, 30) else mm_nop))) else (bif Nat.ble 24 pc then
  (bif Nat.ble 27 pc then
  (bif Nat.ble 29 pc then (.aload_n 0, 1, [], [], 0, 0, 0, 29) else (bif Nat.beq 27 pc then (.lstore 6, 2, [], [], 6, 0, 0, 27) else mm_nop)) else (bif Nat.beq 24 pc then (.invokevirtual 89, 3, [(7, 112)], [[4118, 3218, 3219, 2002]], 1, 0, 0, 24) else mm_nop)) else (bif Nat.ble 21 pc then
  (bif Nat.beq 21 pc then (.invokevirtual 86, 3, [(6, 97)], [[3135, 3136, 3137, 2003]], 2, 0, 0, 21) else mm_nop) else (.iconst 2, 1, [], [], 0, 2, 0, 20)))) else (bif Nat.ble 9 pc then
  (bif Nat.ble 15 pc then
  (bif Nat.ble 16 pc then
  (bif Nat.ble 19 pc then (.iload_n 2, 1, [], [], 2, 0, 0, 19) else (bif Nat.beq 16 pc then (.getfield 24, 3, [(4, 1)], [[2107]], 0, 0, 0, 16) else mm_nop)) else (.aload_n 0, 1, [], [], 0, 0, 0, 15)) else (bif Nat.ble 11 pc then
  (bif Nat.ble 12 pc then
  (bif Nat.beq 12 pc then (.getfield 20, 3, [(4, 0)], [[2106]], 0, 0, 0, 12) else mm_nop) else (.aload_n 0, 1, [], [], 0, 0, 0, 11)) else (bif Nat.beq 9 pc then (.istore 5, 2, [], [], 5, 0, 0, 9) else mm_nop))) else (bif Nat.ble 4 pc then
  (bif Nat.ble 5 pc then
  (bif Nat.ble 6 pc then
  (bif Nat.beq 6 pc then (.invokevirtual 86, 3, [(6, 97)], [[3135, 3136, 3137, 2003]], 2, 0, 0, 6) else mm_nop) else (.iconst 0, 1, [], [], 0, 0, 0, 5)) else (.iload_n 2, 1, [], [], 2, 0, 0, 4)) else (bif Nat.ble 1 pc then
  (bif Nat.beq 1 pc then (.getfield 24, 3, [(4, 1)], [[2107]], 0, 0, 0, 1) else mm_nop) else (.aload_n 0, 1, [], [], 0, 0, 0, 0)))))))
def mm_k48 : List mm_E := (List.range 190).map mm_f48
def mm_m48 : mm_M := (yX4_callShape, cX4_callShape, 12, (some .long), mm_k48, 3, 0, 0, 4131)
/-- TypeCopier$Judge.leastWrong.(I)I -/
def mm_f49 : Nat → mm_E := fun pc => (bif Nat.ble 38 pc then
  (bif Nat.ble 56 pc then
  (bif Nat.ble 67 pc then
  (bif Nat.ble 71 pc then
  (bif Nat.ble 74 pc then
  (bif Nat.ble 75 pc then (.ireturn, 1, [], [], 0, 0, 0, 75) else (.iload_n 2, 1, [], [], 2, 0, 0, 74)) else (bif Nat.beq 71 pc then (.goto (-52), 3, [(0, 19)], [], 0, 0, 0, 71) else mm_nop)) else (bif Nat.ble 68 pc then
  (bif Nat.beq 68 pc then (.iinc 3 1, 3, [], [], 3, 1, 0, 68) else mm_nop) else (.istore_n 2, 1, [], [], 2, 0, 0, 67))) else (bif Nat.ble 61 pc then
  (bif Nat.ble 62 pc then
  (bif Nat.ble 65 pc then
  (bif Nat.beq 65 pc then (.iload 4, 2, [], [], 4, 0, 0, 65) else mm_nop) else (bif Nat.beq 62 pc then (.if_icmp .ge 6, 3, [(0, 68)], [], 0, 0, 0, 62) else mm_nop)) else (.iload_n 2, 1, [], [], 2, 0, 0, 61)) else (bif Nat.ble 59 pc then
  (bif Nat.beq 59 pc then (.iload 4, 2, [], [], 4, 0, 0, 59) else mm_nop) else (bif Nat.beq 56 pc then (.if_icmp .eq 9, 3, [(0, 65)], [], 0, 0, 0, 56) else mm_nop)))) else (bif Nat.ble 47 pc then
  (bif Nat.ble 51 pc then
  (bif Nat.ble 54 pc then
  (bif Nat.ble 55 pc then (.iconst (-1), 1, [], [], 0, (-1), 0, 55) else (.iload_n 2, 1, [], [], 2, 0, 0, 54)) else (bif Nat.beq 51 pc then (.ifCond .ne 17, 3, [(0, 68)], [], 0, 0, 0, 51) else mm_nop)) else (bif Nat.ble 50 pc then (.lcmp, 1, [], [], 0, 0, 0, 50) else (bif Nat.beq 47 pc then (.ldc2_w 51, 3, [], [[3087]], 0, 0, (-1), 47) else mm_nop))) else (bif Nat.ble 41 pc then
  (bif Nat.ble 42 pc then
  (bif Nat.ble 44 pc then
  (bif Nat.beq 44 pc then (.invokevirtual 57, 3, [(4, 43)], [[3079, 3080, 3081, 2005]], 2, 0, 0, 44) else mm_nop) else (bif Nat.beq 42 pc then (.iload 4, 2, [], [], 4, 0, 0, 42) else mm_nop)) else (.iload_n 1, 1, [], [], 1, 0, 0, 41)) else (bif Nat.ble 40 pc then (.aload_n 0, 1, [], [], 0, 0, 0, 40) else (bif Nat.beq 38 pc then (.istore 4, 2, [], [], 4, 0, 0, 38) else mm_nop))))) else (bif Nat.ble 18 pc then
  (bif Nat.ble 27 pc then
  (bif Nat.ble 31 pc then
  (bif Nat.ble 34 pc then
  (bif Nat.ble 35 pc then
  (bif Nat.beq 35 pc then (.invokevirtual 132, 3, [(6, 107)], [[3123, 3124, 3125, 2003]], 1, 0, 0, 35) else mm_nop) else (.iload_n 3, 1, [], [], 3, 0, 0, 34)) else (bif Nat.beq 31 pc then (.getfield 24, 3, [(4, 1)], [[2107]], 0, 0, 0, 31) else mm_nop)) else (bif Nat.ble 30 pc then (.aload_n 0, 1, [], [], 0, 0, 0, 30) else (bif Nat.beq 27 pc then (.if_icmp .ge 47, 3, [(0, 74)], [], 0, 0, 0, 27) else mm_nop))) else (bif Nat.ble 20 pc then
  (bif Nat.ble 21 pc then
  (bif Nat.ble 24 pc then
  (bif Nat.beq 24 pc then (.invokevirtual 129, 3, [(6, 106)], [[3119, 3120, 3121, 2003]], 0, 0, 0, 24) else mm_nop) else (bif Nat.beq 21 pc then (.getfield 24, 3, [(4, 1)], [[2107]], 0, 0, 0, 21) else mm_nop)) else (.aload_n 0, 1, [], [], 0, 0, 0, 20)) else (bif Nat.ble 19 pc then (.iload_n 3, 1, [], [], 3, 0, 0, 19) else (.istore_n 3, 1, [], [], 3, 0, 0, 18)))) else (bif Nat.ble 9 pc then
  (bif Nat.ble 15 pc then
  (bif Nat.ble 16 pc then
  (bif Nat.ble 17 pc then (.iconst 0, 1, [], [], 0, 0, 0, 17) else (.istore_n 2, 1, [], [], 2, 0, 0, 16)) else (.iconst (-1), 1, [], [], 0, (-1), 0, 15)) else (bif Nat.ble 12 pc then
  (bif Nat.beq 12 pc then (.invokevirtual 125, 3, [(6, 103)], [[3097, 3098, 3099, 2003]], 1, 0, 0, 12) else mm_nop) else (bif Nat.beq 9 pc then (.invokevirtual 122, 3, [(2, 28)], [[3071, 3072, 3073, 2004]], 1, 0, 0, 9) else mm_nop))) else (bif Nat.ble 4 pc then
  (bif Nat.ble 5 pc then
  (bif Nat.ble 8 pc then (.iload_n 1, 1, [], [], 1, 0, 0, 8) else (bif Nat.beq 5 pc then (.getfield 28, 3, [(4, 2)], [[2108]], 0, 0, 0, 5) else mm_nop)) else (.aload_n 0, 1, [], [], 0, 0, 0, 4)) else (bif Nat.ble 1 pc then
  (bif Nat.beq 1 pc then (.getfield 24, 3, [(4, 1)], [[2107]], 0, 0, 0, 1) else mm_nop) else (.aload_n 0, 1, [], [], 0, 0, 0, 0))))))
def mm_k49 : List mm_E := (List.range 76).map mm_f49
def mm_m49 : mm_M := (yX4_leastWrong, cX4_leastWrong, 5, (some .int), mm_k49, 1, 0, 0, 4185)
/-- TypeCopier$Judge.judgeProgram.()I -/
def mm_f50 : Nat → mm_E := fun pc => (bif Nat.ble 35 pc then
  (bif Nat.ble 53 pc then
  (bif Nat.ble 60 pc then
  (bif Nat.ble 64 pc then
  (bif Nat.ble 67 pc then
  (bif Nat.ble 68 pc then (.ireturn, 1, [], [], 0, 0, 0, 68) else (.iconst 4, 1, [], [], 0, 4, 0, 67)) else (bif Nat.beq 64 pc then (.goto 4, 3, [(0, 68)], [], 0, 0, 0, 64) else mm_nop)) else (bif Nat.ble 63 pc then (.iconst 0, 1, [], [], 0, 0, 0, 63) else (bif Nat.beq 60 pc then (.ifCond .eq 7, 3, [(0, 67)], [], 0, 0, 0, 60) else mm_nop))) else (bif Nat.ble 55 pc then
  (bif Nat.ble 56 pc then
  (bif Nat.ble 57 pc then
  (bif Nat.beq 57 pc then (.invokevirtual 144, 3, [(4, 53)], [[3093, 3095, 1003, 2005]], 1, 0, 0, 57) else mm_nop) else (.iload_n 1, 1, [], [], 1, 0, 0, 56)) else (.aload_n 0, 1, [], [], 0, 0, 0, 55)) else (bif Nat.ble 54 pc then (.ireturn, 1, [], [], 0, 0, 0, 54) else (.iconst 3, 1, [], [], 0, 3, 0, 53)))) else (bif Nat.ble 44 pc then
  (bif Nat.ble 46 pc then
  (bif Nat.ble 47 pc then
  (bif Nat.ble 50 pc then
  (bif Nat.beq 50 pc then (.ifCond .ne 5, 3, [(0, 55)], [], 0, 0, 0, 50) else mm_nop) else (bif Nat.beq 47 pc then (.invokevirtual 141, 3, [(4, 52)], [[3075, 3077, 1002, 2005]], 1, 0, 0, 47) else mm_nop)) else (.iload_n 1, 1, [], [], 1, 0, 0, 46)) else (bif Nat.ble 45 pc then (.aload_n 0, 1, [], [], 0, 0, 0, 45) else (.ireturn, 1, [], [], 0, 0, 0, 44))) else (bif Nat.ble 37 pc then
  (bif Nat.ble 40 pc then
  (bif Nat.ble 43 pc then (.iconst 2, 1, [], [], 0, 2, 0, 43) else (bif Nat.beq 40 pc then (.ifCond .ne 5, 3, [(0, 45)], [], 0, 0, 0, 40) else mm_nop)) else (bif Nat.beq 37 pc then (.invokevirtual 138, 3, [(4, 51)], [[3067, 3069, 1001, 2005]], 1, 0, 0, 37) else mm_nop)) else (bif Nat.ble 36 pc then (.iload_n 1, 1, [], [], 1, 0, 0, 36) else (.aload_n 0, 1, [], [], 0, 0, 0, 35))))) else (bif Nat.ble 19 pc then
  (bif Nat.ble 28 pc then
  (bif Nat.ble 32 pc then
  (bif Nat.ble 33 pc then
  (bif Nat.ble 34 pc then (.istore_n 1, 1, [], [], 1, 0, 0, 34) else (.ior, 1, [], [], 0, 0, 0, 33)) else (.iconst 1, 1, [], [], 0, 1, 0, 32)) else (bif Nat.ble 29 pc then
  (bif Nat.beq 29 pc then (.invokevirtual 135, 3, [(2, 32)], [[3063, 3064, 3065, 2004]], 1, 0, 0, 29) else mm_nop) else (.iconst 0, 1, [], [], 0, 0, 0, 28))) else (bif Nat.ble 23 pc then
  (bif Nat.ble 24 pc then
  (bif Nat.ble 25 pc then
  (bif Nat.beq 25 pc then (.getfield 28, 3, [(4, 2)], [[2108]], 0, 0, 0, 25) else mm_nop) else (.aload_n 0, 1, [], [], 0, 0, 0, 24)) else (.ireturn, 1, [], [], 0, 0, 0, 23)) else (bif Nat.ble 22 pc then (.iconst 1, 1, [], [], 0, 1, 0, 22) else (bif Nat.beq 19 pc then (.ifCond .eq 5, 3, [(0, 24)], [], 0, 0, 0, 19) else mm_nop)))) else (bif Nat.ble 8 pc then
  (bif Nat.ble 12 pc then
  (bif Nat.ble 15 pc then
  (bif Nat.ble 16 pc then
  (bif Nat.beq 16 pc then (.invokevirtual 108, 3, [(2, 25)], [[3058, 3059, 3060, 2004]], 1, 0, 0, 16) else mm_nop) else (.iconst 0, 1, [], [], 0, 0, 0, 15)) else (bif Nat.beq 12 pc then (.getfield 28, 3, [(4, 2)], [[2108]], 0, 0, 0, 12) else mm_nop)) else (bif Nat.ble 11 pc then (.aload_n 0, 1, [], [], 0, 0, 0, 11) else (bif Nat.beq 8 pc then (.ifCond .eq 14, 3, [(0, 22)], [], 0, 0, 0, 8) else mm_nop))) else (bif Nat.ble 4 pc then
  (bif Nat.ble 5 pc then
  (bif Nat.beq 5 pc then (.invokevirtual 44, 3, [(2, 24)], [[3054, 3055, 3056, 2004]], 1, 0, 0, 5) else mm_nop) else (.iconst 0, 1, [], [], 0, 0, 0, 4)) else (bif Nat.ble 1 pc then
  (bif Nat.beq 1 pc then (.getfield 28, 3, [(4, 2)], [[2108]], 0, 0, 0, 1) else mm_nop) else (.aload_n 0, 1, [], [], 0, 0, 0, 0))))))
def mm_k50 : List mm_E := (List.range 69).map mm_f50
def mm_m50 : mm_M := (yX4_judgeProgram, cX4_judgeProgram, 2, (some .int), mm_k50, 0, 0, 0, 3053)
/-- TypeCopier$Judge.allHaveBodies.(I)Z -/
def mm_f51 : Nat → mm_E := fun pc => (bif Nat.ble 16 pc then
  (bif Nat.ble 28 pc then
  (bif Nat.ble 33 pc then
  (bif Nat.ble 36 pc then
  (bif Nat.ble 37 pc then (.ireturn, 1, [], [], 0, 0, 0, 37) else (.iconst 1, 1, [], [], 0, 1, 0, 36)) else (bif Nat.beq 33 pc then (.goto (-31), 3, [(0, 2)], [], 0, 0, 0, 33) else mm_nop)) else (bif Nat.ble 29 pc then
  (bif Nat.ble 30 pc then
  (bif Nat.beq 30 pc then (.iinc 2 1, 3, [], [], 2, 1, 0, 30) else mm_nop) else (.ireturn, 1, [], [], 0, 0, 0, 29)) else (.iconst 0, 1, [], [], 0, 0, 0, 28))) else (bif Nat.ble 21 pc then
  (bif Nat.ble 24 pc then
  (bif Nat.ble 25 pc then
  (bif Nat.beq 25 pc then (.if_icmp .ne 5, 3, [(0, 30)], [], 0, 0, 0, 25) else mm_nop) else (.iconst (-1), 1, [], [], 0, (-1), 0, 24)) else (bif Nat.beq 21 pc then (.invokevirtual 122, 3, [(2, 28)], [[3071, 3072, 3073, 2004]], 1, 0, 0, 21) else mm_nop)) else (bif Nat.ble 17 pc then
  (bif Nat.ble 20 pc then (.iload_n 2, 1, [], [], 2, 0, 0, 20) else (bif Nat.beq 17 pc then (.getfield 28, 3, [(4, 2)], [[2108]], 0, 0, 0, 17) else mm_nop)) else (.aload_n 0, 1, [], [], 0, 0, 0, 16)))) else (bif Nat.ble 8 pc then
  (bif Nat.ble 11 pc then
  (bif Nat.ble 12 pc then
  (bif Nat.ble 13 pc then
  (bif Nat.beq 13 pc then (.ifCond .eq 17, 3, [(0, 30)], [], 0, 0, 0, 13) else mm_nop) else (.iand, 1, [], [], 0, 0, 0, 12)) else (.iconst 1, 1, [], [], 0, 1, 0, 11)) else (bif Nat.ble 9 pc then
  (bif Nat.ble 10 pc then (.ishr, 1, [], [], 0, 0, 0, 10) else (.iload_n 2, 1, [], [], 2, 0, 0, 9)) else (.iload_n 1, 1, [], [], 1, 0, 0, 8))) else (bif Nat.ble 2 pc then
  (bif Nat.ble 3 pc then
  (bif Nat.ble 5 pc then
  (bif Nat.beq 5 pc then (.if_icmp .ge 31, 3, [(0, 36)], [], 0, 0, 0, 5) else mm_nop) else (bif Nat.beq 3 pc then (.bipush 12, 2, [], [], 0, 12, 0, 3) else mm_nop)) else (.iload_n 2, 1, [], [], 2, 0, 0, 2)) else (bif Nat.ble 1 pc then (.istore_n 2, 1, [], [], 2, 0, 0, 1) else (.iconst 0, 1, [], [], 0, 0, 0, 0)))))
def mm_k51 : List mm_E := (List.range 38).map mm_f51
def mm_m51 : mm_M := (yX4_allHaveBodies, cX4_allHaveBodies, 3, (some .boolean), mm_k51, 1, 0, 0, 3070)
/-- TypeCopier$Judge.allAreRight.(I)Z -/
def mm_f52 : Nat → mm_E := fun pc => (bif Nat.ble 22 pc then
  (bif Nat.ble 37 pc then
  (bif Nat.ble 43 pc then
  (bif Nat.ble 49 pc then
  (bif Nat.ble 50 pc then (.ireturn, 1, [], [], 0, 0, 0, 50) else (.iconst 1, 1, [], [], 0, 1, 0, 49)) else (bif Nat.ble 46 pc then
  (bif Nat.beq 46 pc then (.goto (-44), 3, [(0, 2)], [], 0, 0, 0, 46) else mm_nop) else (bif Nat.beq 43 pc then (.iinc 2 1, 3, [], [], 2, 1, 0, 43) else mm_nop))) else (bif Nat.ble 41 pc then
  (bif Nat.ble 42 pc then (.ireturn, 1, [], [], 0, 0, 0, 42) else (.iconst 0, 1, [], [], 0, 0, 0, 41)) else (bif Nat.ble 38 pc then
  (bif Nat.beq 38 pc then (.ifCond .eq 5, 3, [(0, 43)], [], 0, 0, 0, 38) else mm_nop) else (.lcmp, 1, [], [], 0, 0, 0, 37)))) else (bif Nat.ble 29 pc then
  (bif Nat.ble 33 pc then
  (bif Nat.ble 34 pc then
  (bif Nat.beq 34 pc then (.invokevirtual 119, 3, [(2, 27)], [[3088, 3089, 3090, 2004]], 1, 0, 0, 34) else mm_nop) else (.iload_n 2, 1, [], [], 2, 0, 0, 33)) else (bif Nat.ble 30 pc then
  (bif Nat.beq 30 pc then (.getfield 28, 3, [(4, 2)], [[2108]], 0, 0, 0, 30) else mm_nop) else (.aload_n 0, 1, [], [], 0, 0, 0, 29))) else (bif Nat.ble 23 pc then
  (bif Nat.ble 26 pc then
  (bif Nat.beq 26 pc then (.invokevirtual 57, 3, [(4, 43)], [[3079, 3080, 3081, 2005]], 2, 0, 0, 26) else mm_nop) else (bif Nat.beq 23 pc then (.invokevirtual 122, 3, [(2, 28)], [[3071, 3072, 3073, 2004]], 1, 0, 0, 23) else mm_nop)) else (.iload_n 2, 1, [], [], 2, 0, 0, 22)))) else (bif Nat.ble 10 pc then
  (bif Nat.ble 16 pc then
  (bif Nat.ble 18 pc then
  (bif Nat.ble 19 pc then
  (bif Nat.beq 19 pc then (.getfield 28, 3, [(4, 2)], [[2108]], 0, 0, 0, 19) else mm_nop) else (.aload_n 0, 1, [], [], 0, 0, 0, 18)) else (bif Nat.ble 17 pc then (.iload_n 2, 1, [], [], 2, 0, 0, 17) else (.aload_n 0, 1, [], [], 0, 0, 0, 16))) else (bif Nat.ble 12 pc then
  (bif Nat.ble 13 pc then
  (bif Nat.beq 13 pc then (.ifCond .eq 30, 3, [(0, 43)], [], 0, 0, 0, 13) else mm_nop) else (.iand, 1, [], [], 0, 0, 0, 12)) else (bif Nat.ble 11 pc then (.iconst 1, 1, [], [], 0, 1, 0, 11) else (.ishr, 1, [], [], 0, 0, 0, 10)))) else (bif Nat.ble 3 pc then
  (bif Nat.ble 8 pc then
  (bif Nat.ble 9 pc then (.iload_n 2, 1, [], [], 2, 0, 0, 9) else (.iload_n 1, 1, [], [], 1, 0, 0, 8)) else (bif Nat.ble 5 pc then
  (bif Nat.beq 5 pc then (.if_icmp .ge 44, 3, [(0, 49)], [], 0, 0, 0, 5) else mm_nop) else (bif Nat.beq 3 pc then (.bipush 12, 2, [], [], 0, 12, 0, 3) else mm_nop))) else (bif Nat.ble 1 pc then
  (bif Nat.ble 2 pc then (.iload_n 2, 1, [], [], 2, 0, 0, 2) else (.istore_n 2, 1, [], [], 2, 0, 0, 1)) else (.iconst 0, 1, [], [], 0, 0, 0, 0)))))
def mm_k52 : List mm_E := (List.range 51).map mm_f52
def mm_m52 : mm_M := (yX4_allAreRight, cX4_allAreRight, 3, (some .boolean), mm_k52, 1, 0, 0, 3078)
/-- TypeCopier$Judge.allAreRegular.(I)Z -/
def mm_f53 : Nat → mm_E := fun pc => (bif Nat.ble 44 pc then
  (bif Nat.ble 71 pc then
  (bif Nat.ble 82 pc then
  (bif Nat.ble 89 pc then
  (bif Nat.ble 95 pc then
  (bif Nat.ble 96 pc then (.ireturn, 1, [], [], 0, 0, 0, 96) else (.iconst 1, 1, [], [], 0, 1, 0, 95)) else (bif Nat.ble 92 pc then
  (bif Nat.beq 92 pc then (.goto (-90), 3, [(0, 2)], [], 0, 0, 0, 92) else mm_nop) else (bif Nat.beq 89 pc then (.iinc 2 1, 3, [], [], 2, 1, 0, 89) else mm_nop))) else (bif Nat.ble 83 pc then
  (bif Nat.ble 86 pc then
  (bif Nat.beq 86 pc then (.goto (-50), 3, [(0, 36)], [], 0, 0, 0, 86) else mm_nop) else (bif Nat.beq 83 pc then (.iinc 3 1, 3, [], [], 3, 1, 0, 83) else mm_nop)) else (.ireturn, 1, [], [], 0, 0, 0, 82))) else (bif Nat.ble 75 pc then
  (bif Nat.ble 78 pc then
  (bif Nat.ble 81 pc then (.iconst 0, 1, [], [], 0, 0, 0, 81) else (bif Nat.beq 78 pc then (.ifCond .ne 5, 3, [(0, 83)], [], 0, 0, 0, 78) else mm_nop)) else (bif Nat.beq 75 pc then (.invokevirtual 147, 3, [(4, 54)], [[3131, 3133, 1005, 2005]], 2, 0, 0, 75) else mm_nop)) else (bif Nat.ble 72 pc then
  (bif Nat.ble 73 pc then
  (bif Nat.beq 73 pc then (.iload 4, 2, [], [], 4, 0, 0, 73) else mm_nop) else (.iload_n 2, 1, [], [], 2, 0, 0, 72)) else (.aload_n 0, 1, [], [], 0, 0, 0, 71)))) else (bif Nat.ble 57 pc then
  (bif Nat.ble 63 pc then
  (bif Nat.ble 66 pc then
  (bif Nat.ble 68 pc then
  (bif Nat.beq 68 pc then (.if_icmp .ne 15, 3, [(0, 83)], [], 0, 0, 0, 68) else mm_nop) else (bif Nat.beq 66 pc then (.bipush 14, 2, [], [], 0, 14, 0, 66) else mm_nop)) else (bif Nat.beq 63 pc then (.invokevirtual 64, 3, [(6, 94)], [[3127, 3128, 3129, 2003]], 1, 0, 0, 63) else mm_nop)) else (bif Nat.ble 58 pc then
  (bif Nat.ble 61 pc then
  (bif Nat.beq 61 pc then (.iload 4, 2, [], [], 4, 0, 0, 61) else mm_nop) else (bif Nat.beq 58 pc then (.getfield 24, 3, [(4, 1)], [[2107]], 0, 0, 0, 58) else mm_nop)) else (.aload_n 0, 1, [], [], 0, 0, 0, 57))) else (bif Nat.ble 51 pc then
  (bif Nat.ble 52 pc then
  (bif Nat.ble 55 pc then
  (bif Nat.beq 55 pc then (.istore 4, 2, [], [], 4, 0, 0, 55) else mm_nop) else (bif Nat.beq 52 pc then (.invokevirtual 132, 3, [(6, 107)], [[3123, 3124, 3125, 2003]], 1, 0, 0, 52) else mm_nop)) else (.iload_n 3, 1, [], [], 3, 0, 0, 51)) else (bif Nat.ble 47 pc then
  (bif Nat.ble 48 pc then
  (bif Nat.beq 48 pc then (.getfield 24, 3, [(4, 1)], [[2107]], 0, 0, 0, 48) else mm_nop) else (.aload_n 0, 1, [], [], 0, 0, 0, 47)) else (bif Nat.beq 44 pc then (.if_icmp .ge 45, 3, [(0, 89)], [], 0, 0, 0, 44) else mm_nop))))) else (bif Nat.ble 19 pc then
  (bif Nat.ble 31 pc then
  (bif Nat.ble 36 pc then
  (bif Nat.ble 38 pc then
  (bif Nat.ble 41 pc then
  (bif Nat.beq 41 pc then (.invokevirtual 129, 3, [(6, 106)], [[3119, 3120, 3121, 2003]], 0, 0, 0, 41) else mm_nop) else (bif Nat.beq 38 pc then (.getfield 24, 3, [(4, 1)], [[2107]], 0, 0, 0, 38) else mm_nop)) else (bif Nat.ble 37 pc then (.aload_n 0, 1, [], [], 0, 0, 0, 37) else (.iload_n 3, 1, [], [], 3, 0, 0, 36))) else (bif Nat.ble 34 pc then
  (bif Nat.ble 35 pc then (.istore_n 3, 1, [], [], 3, 0, 0, 35) else (.iconst 0, 1, [], [], 0, 0, 0, 34)) else (bif Nat.beq 31 pc then (.invokevirtual 125, 3, [(6, 103)], [[3097, 3098, 3099, 2003]], 1, 0, 0, 31) else mm_nop))) else (bif Nat.ble 24 pc then
  (bif Nat.ble 27 pc then
  (bif Nat.ble 28 pc then
  (bif Nat.beq 28 pc then (.invokevirtual 122, 3, [(2, 28)], [[3071, 3072, 3073, 2004]], 1, 0, 0, 28) else mm_nop) else (.iload_n 2, 1, [], [], 2, 0, 0, 27)) else (bif Nat.beq 24 pc then (.getfield 28, 3, [(4, 2)], [[2108]], 0, 0, 0, 24) else mm_nop)) else (bif Nat.ble 20 pc then
  (bif Nat.ble 23 pc then (.aload_n 0, 1, [], [], 0, 0, 0, 23) else (bif Nat.beq 20 pc then (.getfield 24, 3, [(4, 1)], [[2107]], 0, 0, 0, 20) else mm_nop)) else (.aload_n 0, 1, [], [], 0, 0, 0, 19)))) else (bif Nat.ble 9 pc then
  (bif Nat.ble 12 pc then
  (bif Nat.ble 13 pc then
  (bif Nat.ble 16 pc then
  (bif Nat.beq 16 pc then (.goto 73, 3, [(0, 89)], [], 0, 0, 0, 16) else mm_nop) else (bif Nat.beq 13 pc then (.ifCond .ne 6, 3, [(0, 19)], [], 0, 0, 0, 13) else mm_nop)) else (.iand, 1, [], [], 0, 0, 0, 12)) else (bif Nat.ble 10 pc then
  (bif Nat.ble 11 pc then (.iconst 1, 1, [], [], 0, 1, 0, 11) else (.ishr, 1, [], [], 0, 0, 0, 10)) else (.iload_n 2, 1, [], [], 2, 0, 0, 9))) else (bif Nat.ble 3 pc then
  (bif Nat.ble 5 pc then
  (bif Nat.ble 8 pc then (.iload_n 1, 1, [], [], 1, 0, 0, 8) else (bif Nat.beq 5 pc then (.if_icmp .ge 90, 3, [(0, 95)], [], 0, 0, 0, 5) else mm_nop)) else (bif Nat.beq 3 pc then (.bipush 12, 2, [], [], 0, 12, 0, 3) else mm_nop)) else (bif Nat.ble 1 pc then
  (bif Nat.ble 2 pc then (.iload_n 2, 1, [], [], 2, 0, 0, 2) else (.istore_n 2, 1, [], [], 2, 0, 0, 1)) else (.iconst 0, 1, [], [], 0, 0, 0, 0))))))
def mm_k53 : List mm_E := (List.range 97).map mm_f53
def mm_m53 : mm_M := (yX4_allAreRegular, cX4_allAreRegular, 5, (some .boolean), mm_k53, 1, 0, 0, 3096)
/-- TypeCopier$Judge.isRegular.(II)Z -/
def mm_f54 : Nat → mm_E := fun pc => (bif Nat.ble 57 pc then
  (bif Nat.ble 88 pc then
  (bif Nat.ble 104 pc then
  (bif Nat.ble 114 pc then
  (bif Nat.ble 118 pc then
  (bif Nat.ble 121 pc then
  (bif Nat.ble 122 pc then (.ireturn, 1, [], [], 0, 0, 0, 122) else (.iconst 0, 1, [], [], 0, 0, 0, 121)) else (bif Nat.beq 118 pc then (.goto 4, 3, [(0, 122)], [], 0, 0, 0, 118) else mm_nop)) else (bif Nat.ble 117 pc then (.iconst 1, 1, [], [], 0, 1, 0, 117) else (bif Nat.beq 114 pc then (.ifCond .eq 7, 3, [(0, 121)], [], 0, 0, 0, 114) else mm_nop))) else (bif Nat.ble 109 pc then
  (bif Nat.ble 112 pc then
  (bif Nat.beq 112 pc then (.iload 6, 2, [], [], 6, 0, 0, 112) else mm_nop) else (bif Nat.beq 109 pc then (.ifCond .eq 12, 3, [(0, 121)], [], 0, 0, 0, 109) else mm_nop)) else (bif Nat.ble 107 pc then
  (bif Nat.beq 107 pc then (.iload 5, 2, [], [], 5, 0, 0, 107) else mm_nop) else (bif Nat.beq 104 pc then (.if_icmp .gt 17, 3, [(0, 121)], [], 0, 0, 0, 104) else mm_nop)))) else (bif Nat.ble 96 pc then
  (bif Nat.ble 100 pc then
  (bif Nat.ble 101 pc then
  (bif Nat.beq 101 pc then (.invokevirtual 108, 3, [(2, 25)], [[3058, 3059, 3060, 2004]], 1, 0, 0, 101) else mm_nop) else (.iload_n 1, 1, [], [], 1, 0, 0, 100)) else (bif Nat.ble 97 pc then
  (bif Nat.beq 97 pc then (.getfield 28, 3, [(4, 2)], [[2108]], 0, 0, 0, 97) else mm_nop) else (.aload_n 0, 1, [], [], 0, 0, 0, 96))) else (bif Nat.ble 92 pc then
  (bif Nat.ble 94 pc then
  (bif Nat.beq 94 pc then (.iload 4, 2, [], [], 4, 0, 0, 94) else mm_nop) else (bif Nat.beq 92 pc then (.istore 6, 2, [], [], 6, 0, 0, 92) else mm_nop)) else (bif Nat.ble 91 pc then (.iconst 0, 1, [], [], 0, 0, 0, 91) else (bif Nat.beq 88 pc then (.goto 4, 3, [(0, 92)], [], 0, 0, 0, 88) else mm_nop))))) else (bif Nat.ble 71 pc then
  (bif Nat.ble 79 pc then
  (bif Nat.ble 83 pc then
  (bif Nat.ble 84 pc then
  (bif Nat.ble 87 pc then (.iconst 1, 1, [], [], 0, 1, 0, 87) else (bif Nat.beq 84 pc then (.if_icmp .ne 7, 3, [(0, 91)], [], 0, 0, 0, 84) else mm_nop)) else (.iconst 3, 1, [], [], 0, 3, 0, 83)) else (bif Nat.ble 80 pc then
  (bif Nat.beq 80 pc then (.invokevirtual 86, 3, [(6, 97)], [[3135, 3136, 3137, 2003]], 2, 0, 0, 80) else mm_nop) else (.iconst 3, 1, [], [], 0, 3, 0, 79))) else (bif Nat.ble 75 pc then
  (bif Nat.ble 78 pc then (.iload_n 2, 1, [], [], 2, 0, 0, 78) else (bif Nat.beq 75 pc then (.getfield 24, 3, [(4, 1)], [[2107]], 0, 0, 0, 75) else mm_nop)) else (bif Nat.ble 74 pc then (.aload_n 0, 1, [], [], 0, 0, 0, 74) else (bif Nat.beq 71 pc then (.if_icmp .lt 16, 3, [(0, 87)], [], 0, 0, 0, 71) else mm_nop)))) else (bif Nat.ble 65 pc then
  (bif Nat.ble 68 pc then
  (bif Nat.ble 70 pc then (.iconst 2, 1, [], [], 0, 2, 0, 70) else (bif Nat.beq 68 pc then (.iload 4, 2, [], [], 4, 0, 0, 68) else mm_nop)) else (bif Nat.ble 66 pc then
  (bif Nat.beq 66 pc then (.istore 5, 2, [], [], 5, 0, 0, 66) else mm_nop) else (.iconst 0, 1, [], [], 0, 0, 0, 65))) else (bif Nat.ble 61 pc then
  (bif Nat.ble 62 pc then
  (bif Nat.beq 62 pc then (.goto 4, 3, [(0, 66)], [], 0, 0, 0, 62) else mm_nop) else (.iconst 1, 1, [], [], 0, 1, 0, 61)) else (bif Nat.ble 58 pc then
  (bif Nat.beq 58 pc then (.if_icmp .ne 7, 3, [(0, 65)], [], 0, 0, 0, 58) else mm_nop) else (.iconst 2, 1, [], [], 0, 2, 0, 57)))))) else (bif Nat.ble 26 pc then
  (bif Nat.ble 40 pc then
  (bif Nat.ble 48 pc then
  (bif Nat.ble 52 pc then
  (bif Nat.ble 53 pc then
  (bif Nat.ble 54 pc then
  (bif Nat.beq 54 pc then (.invokevirtual 86, 3, [(6, 97)], [[3135, 3136, 3137, 2003]], 2, 0, 0, 54) else mm_nop) else (.iconst 2, 1, [], [], 0, 2, 0, 53)) else (.iload_n 2, 1, [], [], 2, 0, 0, 52)) else (bif Nat.ble 49 pc then
  (bif Nat.beq 49 pc then (.getfield 24, 3, [(4, 1)], [[2107]], 0, 0, 0, 49) else mm_nop) else (.aload_n 0, 1, [], [], 0, 0, 0, 48))) else (bif Nat.ble 44 pc then
  (bif Nat.ble 45 pc then
  (bif Nat.beq 45 pc then (.if_icmp .lt 16, 3, [(0, 61)], [], 0, 0, 0, 45) else mm_nop) else (.iconst 1, 1, [], [], 0, 1, 0, 44)) else (bif Nat.ble 42 pc then
  (bif Nat.beq 42 pc then (.iload 4, 2, [], [], 4, 0, 0, 42) else mm_nop) else (bif Nat.beq 40 pc then (.istore 4, 2, [], [], 4, 0, 0, 40) else mm_nop)))) else (bif Nat.ble 32 pc then
  (bif Nat.ble 36 pc then
  (bif Nat.ble 37 pc then
  (bif Nat.beq 37 pc then (.invokevirtual 108, 3, [(2, 25)], [[3058, 3059, 3060, 2004]], 1, 0, 0, 37) else mm_nop) else (.iload_n 3, 1, [], [], 3, 0, 0, 36)) else (bif Nat.ble 33 pc then
  (bif Nat.beq 33 pc then (.getfield 28, 3, [(4, 2)], [[2108]], 0, 0, 0, 33) else mm_nop) else (.aload_n 0, 1, [], [], 0, 0, 0, 32))) else (bif Nat.ble 30 pc then
  (bif Nat.ble 31 pc then (.ireturn, 1, [], [], 0, 0, 0, 31) else (.iconst 1, 1, [], [], 0, 1, 0, 30)) else (bif Nat.ble 27 pc then
  (bif Nat.beq 27 pc then (.ifCond .ne 5, 3, [(0, 32)], [], 0, 0, 0, 27) else mm_nop) else (.iand, 1, [], [], 0, 0, 0, 26))))) else (bif Nat.ble 12 pc then
  (bif Nat.ble 20 pc then
  (bif Nat.ble 24 pc then
  (bif Nat.ble 25 pc then (.iconst 1, 1, [], [], 0, 1, 0, 25) else (.ishr, 1, [], [], 0, 0, 0, 24)) else (bif Nat.ble 23 pc then (.iload_n 1, 1, [], [], 1, 0, 0, 23) else (bif Nat.beq 20 pc then (.invokevirtual 135, 3, [(2, 32)], [[3063, 3064, 3065, 2004]], 1, 0, 0, 20) else mm_nop))) else (bif Nat.ble 16 pc then
  (bif Nat.ble 19 pc then (.iload_n 3, 1, [], [], 3, 0, 0, 19) else (bif Nat.beq 16 pc then (.getfield 28, 3, [(4, 2)], [[2108]], 0, 0, 0, 16) else mm_nop)) else (bif Nat.ble 15 pc then (.aload_n 0, 1, [], [], 0, 0, 0, 15) else (bif Nat.beq 12 pc then (.if_icmp .eq 20, 3, [(0, 32)], [], 0, 0, 0, 12) else mm_nop)))) else (bif Nat.ble 6 pc then
  (bif Nat.ble 10 pc then
  (bif Nat.ble 11 pc then (.iload_n 1, 1, [], [], 1, 0, 0, 11) else (.iload_n 3, 1, [], [], 3, 0, 0, 10)) else (bif Nat.ble 9 pc then (.istore_n 3, 1, [], [], 3, 0, 0, 9) else (bif Nat.beq 6 pc then (.invokevirtual 86, 3, [(6, 97)], [[3135, 3136, 3137, 2003]], 2, 0, 0, 6) else mm_nop))) else (bif Nat.ble 4 pc then
  (bif Nat.ble 5 pc then (.iconst 0, 1, [], [], 0, 0, 0, 5) else (.iload_n 2, 1, [], [], 2, 0, 0, 4)) else (bif Nat.ble 1 pc then
  (bif Nat.beq 1 pc then (.getfield 24, 3, [(4, 1)], [[2107]], 0, 0, 0, 1) else mm_nop) else (.aload_n 0, 1, [], [], 0, 0, 0, 0)))))))
def mm_k54 : List mm_E := (List.range 123).map mm_f54
def mm_m54 : mm_M := (yX4_isRegular, cX4_isRegular, 7, (some .boolean), mm_k54, 2, 0, 0, 3134)
/-- TypeCopier$LetterMachine.<init>.(LTypeCopier$Nodes;LTypeCopier$Input;LTypeCopier$Report;LTypeCopier$Functions;)V -/
def mm_f55 : Nat → mm_E := fun pc => (bif Nat.ble 4 pc then
  (bif Nat.ble 8 pc then
  (bif Nat.ble 10 pc then
  (bif Nat.ble 13 pc then (.return_, 1, [], [], 0, 0, 0, 13) else (bif Nat.beq 10 pc then (.putfield 7, 3, [(5, 12)], [[2217]], 1, 0, 0, 10) else mm_nop)) else (bif Nat.beq 8 pc then (.aload 4, 2, [], [], 4, 0, 0, 8) else mm_nop)) else (bif Nat.ble 7 pc then (.aload_n 0, 1, [], [], 0, 0, 0, 7) else (bif Nat.beq 4 pc then (.invokespecial 1, 3, [(0, 65)], [[2213, 2214, 2009]], 3, 0, 0, 4) else mm_nop))) else (bif Nat.ble 2 pc then
  (bif Nat.ble 3 pc then (.aload_n 3, 1, [], [], 3, 0, 0, 3) else (.aload_n 2, 1, [], [], 2, 0, 0, 2)) else (bif Nat.ble 1 pc then (.aload_n 1, 1, [], [], 1, 0, 0, 1) else (.aload_n 0, 1, [], [], 0, 0, 0, 0))))
def mm_k55 : List mm_E := (List.range 14).map mm_f55
def mm_m55 : mm_M := (yX5_init, cX5_init, 5, none, mm_k55, 4, 5, 9452, 2212)
/-- TypeCopier$LetterMachine.bodyOf.(I)I -/
def mm_f56 : Nat → mm_E := fun pc => (bif Nat.ble 4 pc then
  (bif Nat.ble 5 pc then
  (bif Nat.ble 8 pc then (.ireturn, 1, [], [], 0, 0, 0, 8) else (bif Nat.beq 5 pc then (.invokevirtual 13, 3, [(2, 28)], [[5114, 3072, 3073, 2004]], 1, 0, 0, 5) else mm_nop)) else (.iload_n 1, 1, [], [], 1, 0, 0, 4)) else (bif Nat.ble 1 pc then
  (bif Nat.beq 1 pc then (.getfield 7, 3, [(5, 12)], [[2217]], 0, 0, 0, 1) else mm_nop) else (.aload_n 0, 1, [], [], 0, 0, 0, 0)))
def mm_k56 : List mm_E := (List.range 9).map mm_f56
def mm_m56 : mm_M := (yX5_bodyOf, cX5_bodyOf, 2, (some .int), mm_k56, 1, 0, 0, 5113)
/-- TypeCopier$LetterMachine.calledAt.(II)I -/
def mm_f57 : Nat → mm_E := fun pc => (bif Nat.ble 5 pc then
  (bif Nat.ble 6 pc then
  (bif Nat.ble 9 pc then (.ireturn, 1, [], [], 0, 0, 0, 9) else (bif Nat.beq 6 pc then (.invokevirtual 23, 3, [(6, 97)], [[5160, 3136, 3137, 2003]], 2, 0, 0, 6) else mm_nop)) else (.iconst 0, 1, [], [], 0, 0, 0, 5)) else (bif Nat.ble 1 pc then
  (bif Nat.ble 4 pc then (.iload_n 2, 1, [], [], 2, 0, 0, 4) else (bif Nat.beq 1 pc then (.getfield 19, 3, [(5, 0)], [[2219, 2220]], 0, 0, 0, 1) else mm_nop)) else (.aload_n 0, 1, [], [], 0, 0, 0, 0)))
def mm_k57 : List mm_E := (List.range 10).map mm_f57
def mm_m57 : mm_M := (yX5_calledAt, cX5_calledAt, 3, (some .int), mm_k57, 2, 0, 0, 5159)
/-- TypeCopier$LetterMachine.argumentWidth.(I)I -/
def mm_f58 : Nat → mm_E := fun pc => (bif Nat.ble 1 pc then (.ireturn, 1, [], [], 0, 0, 0, 1) else (.iconst 1, 1, [], [], 0, 1, 0, 0))
def mm_k58 : List mm_E := (List.range 2).map mm_f58
def mm_m58 : mm_M := (yX5_argumentWidth, cX5_argumentWidth, 2, (some .int), mm_k58, 1, 0, 0, 5094)
/-- TypeCopier$LetterMachine.resultWidth.(I)I -/
def mm_f59 : Nat → mm_E := fun pc => (bif Nat.ble 1 pc then (.ireturn, 1, [], [], 0, 0, 0, 1) else (.iconst 1, 1, [], [], 0, 1, 0, 0))
def mm_k59 : List mm_E := (List.range 2).map mm_f59
def mm_m59 : mm_M := (yX5_resultWidth, cX5_resultWidth, 2, (some .int), mm_k59, 1, 0, 0, 5177)
/-- TypeCopier$LetterMachine.nodeWidth.(II)I -/
def mm_f60 : Nat → mm_E := fun pc => (bif Nat.ble 1 pc then (.ireturn, 1, [], [], 0, 0, 0, 1) else (.iconst 1, 1, [], [], 0, 1, 0, 0))
def mm_k60 : List mm_E := (List.range 2).map mm_f60
def mm_m60 : mm_M := (yX5_nodeWidth, cX5_nodeWidth, 3, (some .int), mm_k60, 2, 0, 0, 5238)
/-- TypeCopier$LetterMachine.shapeWidth.(J)I -/
def mm_f61 : Nat → mm_E := fun pc => (bif Nat.ble 1 pc then (.ireturn, 1, [], [], 0, 0, 0, 1) else (.iconst 1, 1, [], [], 0, 1, 0, 0))
def mm_k61 : List mm_E := (List.range 2).map mm_f61
def mm_m61 : mm_M := (yX5_shapeWidth, cX5_shapeWidth, 3, (some .int), mm_k61, 1, 0, 0, 5069)
/-- TypeCopier$LetterMachine.join.()V -/
def mm_f62 : Nat → mm_E := fun pc => (bif Nat.ble 10 pc then
  (bif Nat.ble 13 pc then
  (bif Nat.ble 17 pc then
  (bif Nat.ble 20 pc then (.return_, 1, [], [], 0, 0, 0, 20) else (bif Nat.beq 17 pc then (.invokevirtual 36, 3, [(5, 85)], [[5052, 5053, 5055, 5014, 2009]], 1, 0, 0, 17) else mm_nop)) else (bif Nat.ble 14 pc then
  (bif Nat.beq 14 pc then (.invokevirtual 33, 3, [(5, 89)], [[5046, 5047, 5049, 5050, 2009]], 2, 0, 0, 14) else mm_nop) else (.iload_n 1, 1, [], [], 1, 0, 0, 13))) else (bif Nat.ble 11 pc then
  (bif Nat.ble 12 pc then (.iload_n 2, 1, [], [], 2, 0, 0, 12) else (.aload_n 0, 1, [], [], 0, 0, 0, 11)) else (.aload_n 0, 1, [], [], 0, 0, 0, 10))) else (bif Nat.ble 5 pc then
  (bif Nat.ble 6 pc then
  (bif Nat.ble 9 pc then (.istore_n 2, 1, [], [], 2, 0, 0, 9) else (bif Nat.beq 6 pc then (.invokevirtual 29, 3, [(5, 86)], [[5034, 5035, 5037, 5038, 2009]], 0, 0, 0, 6) else mm_nop)) else (.aload_n 0, 1, [], [], 0, 0, 0, 5)) else (bif Nat.ble 1 pc then
  (bif Nat.ble 4 pc then (.istore_n 1, 1, [], [], 1, 0, 0, 4) else (bif Nat.beq 1 pc then (.invokevirtual 29, 3, [(5, 86)], [[5034, 5035, 5037, 5038, 2009]], 0, 0, 0, 1) else mm_nop)) else (.aload_n 0, 1, [], [], 0, 0, 0, 0))))
def mm_k62 : List mm_E := (List.range 21).map mm_f62
def mm_m62 : mm_M := (yX5_join, cX5_join, 3, none, mm_k62, 0, 0, 0, 5033)
