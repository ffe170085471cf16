/-! ===== code tables (by program), further ===== -/
/-- TypeCopier$Report.<init>.()V -/
def mm_f116 : Nat → mm_E := fun pc => (bif Nat.ble 9 pc then
  (bif Nat.ble 13 pc then
  (bif Nat.ble 14 pc then
  (bif Nat.ble 17 pc then (.return_, 1, [], [], 0, 0, 0, 17) else (bif Nat.beq 14 pc then (.putfield 15, 3, [(8, 5)], [[2194]], 0, 0, 0, 14) else mm_nop)) else (.iconst (-1), 1, [], [], 0, (-1), 0, 13)) else (bif Nat.ble 12 pc then (.aload_n 0, 1, [], [], 0, 0, 0, 12) else (bif Nat.beq 9 pc then (.putfield 11, 3, [(8, 0)], [[2189]], 1, 0, 0, 9) else mm_nop))) else (bif Nat.ble 4 pc then
  (bif Nat.ble 5 pc then
  (bif Nat.ble 7 pc then
  (bif Nat.beq 7 pc then (.newarray .int, 2, [(0, 100)], [[2066]], 0, 0, 0, 7) else mm_nop) else (bif Nat.beq 5 pc then (.bipush 100, 2, [], [], 0, 100, 0, 5) else mm_nop)) else (.aload_n 0, 1, [], [], 0, 0, 0, 4)) else (bif Nat.ble 1 pc then
  (bif Nat.beq 1 pc then (.invokespecial 3, 3, [], [[2188, 2022, 2023]], 0, 0, 0, 1) else mm_nop) else (.aload_n 0, 1, [], [], 0, 0, 0, 0))))
def mm_k116 : List mm_E := (List.range 18).map mm_f116
def mm_m116 : mm_M := (yX9_init, cX9_init, 1, none, mm_k116, 0, 1, 100, 2187)
/-- TypeCopier$Report.begin.()V -/
def mm_f117 : Nat → mm_E := fun pc => (bif Nat.ble 12 pc then
  (bif Nat.ble 20 pc then
  (bif Nat.ble 22 pc then
  (bif Nat.ble 25 pc then (.return_, 1, [], [], 0, 0, 0, 25) else (bif Nat.beq 22 pc then (.putfield 15, 3, [(8, 5)], [[2194]], 0, 0, 0, 22) else mm_nop)) else (bif Nat.ble 21 pc then (.iconst 0, 1, [], [], 0, 0, 0, 21) else (.aload_n 0, 1, [], [], 0, 0, 0, 20))) else (bif Nat.ble 16 pc then
  (bif Nat.ble 17 pc then
  (bif Nat.beq 17 pc then (.putfield 28, 3, [(8, 4)], [[2193]], 0, 0, 0, 17) else mm_nop) else (.iconst 0, 1, [], [], 0, 0, 0, 16)) else (bif Nat.ble 15 pc then (.aload_n 0, 1, [], [], 0, 0, 0, 15) else (bif Nat.beq 12 pc then (.putfield 25, 3, [(8, 3)], [[2192]], 0, 0, 0, 12) else mm_nop)))) else (bif Nat.ble 6 pc then
  (bif Nat.ble 10 pc then
  (bif Nat.ble 11 pc then (.iconst 0, 1, [], [], 0, 0, 0, 11) else (.aload_n 0, 1, [], [], 0, 0, 0, 10)) else (bif Nat.ble 7 pc then
  (bif Nat.beq 7 pc then (.putfield 22, 3, [(8, 2)], [[2191]], 0, 0, 0, 7) else mm_nop) else (.iconst 0, 1, [], [], 0, 0, 0, 6))) else (bif Nat.ble 2 pc then
  (bif Nat.ble 5 pc then (.aload_n 0, 1, [], [], 0, 0, 0, 5) else (bif Nat.beq 2 pc then (.putfield 19, 3, [(8, 1)], [[2190]], 0, 0, 0, 2) else mm_nop)) else (bif Nat.ble 1 pc then (.iconst 0, 1, [], [], 0, 0, 0, 1) else (.aload_n 0, 1, [], [], 0, 0, 0, 0)))))
def mm_k117 : List mm_E := (List.range 26).map mm_f117
def mm_m117 : mm_M := (yX9_begin, cX9_begin, 1, none, mm_k117, 0, 0, 0, 4239)
/-- TypeCopier$Report.goesOn.()Z -/
def mm_f118 : Nat → mm_E := fun pc => (bif Nat.ble 7 pc then
  (bif Nat.ble 11 pc then
  (bif Nat.ble 12 pc then (.ireturn, 1, [], [], 0, 0, 0, 12) else (.iconst 0, 1, [], [], 0, 0, 0, 11)) else (bif Nat.ble 8 pc then
  (bif Nat.beq 8 pc then (.goto 4, 3, [(0, 12)], [], 0, 0, 0, 8) else mm_nop) else (.iconst 1, 1, [], [], 0, 1, 0, 7))) else (bif Nat.ble 1 pc then
  (bif Nat.ble 4 pc then
  (bif Nat.beq 4 pc then (.ifCond .ne 7, 3, [(0, 11)], [], 0, 0, 0, 4) else mm_nop) else (bif Nat.beq 1 pc then (.getfield 15, 3, [(8, 5)], [[2194]], 0, 0, 0, 1) else mm_nop)) else (.aload_n 0, 1, [], [], 0, 0, 0, 0)))
def mm_k118 : List mm_E := (List.range 13).map mm_f118
def mm_m118 : mm_M := (yX9_goesOn, cX9_goesOn, 1, (some .boolean), mm_k118, 0, 0, 0, 5127)
/-- TypeCopier$Report.end.(I)V -/
def mm_f119 : Nat → mm_E := fun pc => (bif Nat.ble 2 pc then
  (bif Nat.ble 5 pc then (.return_, 1, [], [], 0, 0, 0, 5) else (bif Nat.beq 2 pc then (.putfield 15, 3, [(8, 5)], [[2194]], 0, 0, 0, 2) else mm_nop)) else (bif Nat.ble 1 pc then (.iload_n 1, 1, [], [], 1, 0, 0, 1) else (.aload_n 0, 1, [], [], 0, 0, 0, 0)))
def mm_k119 : List mm_E := (List.range 6).map mm_f119
def mm_m119 : mm_M := (yX9_end, cX9_end, 2, none, mm_k119, 1, 0, 0, 5081)
/-- TypeCopier$Report.outcome.()I -/
def mm_f120 : Nat → mm_E := fun pc => (bif Nat.ble 1 pc then
  (bif Nat.ble 4 pc then (.ireturn, 1, [], [], 0, 0, 0, 4) else (bif Nat.beq 1 pc then (.getfield 15, 3, [(8, 5)], [[2194]], 0, 0, 0, 1) else mm_nop)) else (.aload_n 0, 1, [], [], 0, 0, 0, 0))
def mm_k120 : List mm_E := (List.range 5).map mm_f120
def mm_m120 : mm_M := (yX9_outcome, cX9_outcome, 1, (some .int), mm_k120, 0, 0, 0, 6036)
/-- TypeCopier$Report.countStep.()I -/
def mm_f121 : Nat → mm_E := fun pc => (bif Nat.ble 6 pc then
  (bif Nat.ble 10 pc then
  (bif Nat.ble 11 pc then
  (bif Nat.ble 14 pc then (.ireturn, 1, [], [], 0, 0, 0, 14) else (bif Nat.beq 11 pc then (.getfield 22, 3, [(8, 2)], [[2191]], 0, 0, 0, 11) else mm_nop)) else (.aload_n 0, 1, [], [], 0, 0, 0, 10)) else (bif Nat.ble 7 pc then
  (bif Nat.beq 7 pc then (.putfield 22, 3, [(8, 2)], [[2191]], 0, 0, 0, 7) else mm_nop) else (.iadd, 1, [], [], 0, 0, 0, 6))) else (bif Nat.ble 2 pc then
  (bif Nat.ble 5 pc then (.iconst 1, 1, [], [], 0, 1, 0, 5) else (bif Nat.beq 2 pc then (.getfield 22, 3, [(8, 2)], [[2191]], 0, 0, 0, 2) else mm_nop)) else (bif Nat.ble 1 pc then (.dup, 1, [], [], 0, 0, 0, 1) else (.aload_n 0, 1, [], [], 0, 0, 0, 0))))
def mm_k121 : List mm_E := (List.range 15).map mm_f121
def mm_m121 : mm_M := (yX9_countStep, cX9_countStep, 1, (some .int), mm_k121, 0, 0, 0, 5122)
/-- TypeCopier$Report.countLink.()I -/
def mm_f122 : Nat → mm_E := fun pc => (bif Nat.ble 6 pc then
  (bif Nat.ble 10 pc then
  (bif Nat.ble 11 pc then
  (bif Nat.ble 14 pc then (.ireturn, 1, [], [], 0, 0, 0, 14) else (bif Nat.beq 11 pc then (.getfield 25, 3, [(8, 3)], [[2192]], 0, 0, 0, 11) else mm_nop)) else (.aload_n 0, 1, [], [], 0, 0, 0, 10)) else (bif Nat.ble 7 pc then
  (bif Nat.beq 7 pc then (.putfield 25, 3, [(8, 3)], [[2192]], 0, 0, 0, 7) else mm_nop) else (.iadd, 1, [], [], 0, 0, 0, 6))) else (bif Nat.ble 2 pc then
  (bif Nat.ble 5 pc then (.iconst 1, 1, [], [], 0, 1, 0, 5) else (bif Nat.beq 2 pc then (.getfield 25, 3, [(8, 3)], [[2192]], 0, 0, 0, 2) else mm_nop)) else (bif Nat.ble 1 pc then (.dup, 1, [], [], 0, 0, 0, 1) else (.aload_n 0, 1, [], [], 0, 0, 0, 0))))
def mm_k122 : List mm_E := (List.range 15).map mm_f122
def mm_m122 : mm_M := (yX9_countLink, cX9_countLink, 1, (some .int), mm_k122, 0, 0, 0, 5231)
/-- TypeCopier$Report.noteOpen.(I)V -/
def mm_f123 : Nat → mm_E := fun pc => (bif Nat.ble 5 pc then
  (bif Nat.ble 9 pc then
  (bif Nat.ble 12 pc then (.return_, 1, [], [], 0, 0, 0, 12) else (bif Nat.beq 9 pc then (.putfield 28, 3, [(8, 4)], [[2193]], 0, 0, 0, 9) else mm_nop)) else (bif Nat.ble 6 pc then
  (bif Nat.beq 6 pc then (.invokestatic 31, 3, [(2, 0)], [[5099, 4089, 2014, 4090]], 2, 0, 0, 6) else mm_nop) else (.iload_n 1, 1, [], [], 1, 0, 0, 5))) else (bif Nat.ble 1 pc then
  (bif Nat.ble 2 pc then
  (bif Nat.beq 2 pc then (.getfield 28, 3, [(8, 4)], [[2193]], 0, 0, 0, 2) else mm_nop) else (.aload_n 0, 1, [], [], 0, 0, 0, 1)) else (.aload_n 0, 1, [], [], 0, 0, 0, 0)))
def mm_k123 : List mm_E := (List.range 13).map mm_f123
def mm_m123 : mm_M := (yX9_noteOpen, cX9_noteOpen, 2, none, mm_k123, 1, 0, 0, 5098)
/-- TypeCopier$Report.isFull.()Z -/
def mm_f124 : Nat → mm_E := fun pc => (bif Nat.ble 9 pc then
  (bif Nat.ble 13 pc then
  (bif Nat.ble 14 pc then (.ireturn, 1, [], [], 0, 0, 0, 14) else (.iconst 0, 1, [], [], 0, 0, 0, 13)) else (bif Nat.ble 10 pc then
  (bif Nat.beq 10 pc then (.goto 4, 3, [(0, 14)], [], 0, 0, 0, 10) else mm_nop) else (.iconst 1, 1, [], [], 0, 1, 0, 9))) else (bif Nat.ble 4 pc then
  (bif Nat.ble 6 pc then
  (bif Nat.beq 6 pc then (.if_icmp .lt 7, 3, [(0, 13)], [], 0, 0, 0, 6) else mm_nop) else (bif Nat.beq 4 pc then (.bipush 100, 2, [], [], 0, 100, 0, 4) else mm_nop)) else (bif Nat.ble 1 pc then
  (bif Nat.beq 1 pc then (.getfield 19, 3, [(8, 1)], [[2190]], 0, 0, 0, 1) else mm_nop) else (.aload_n 0, 1, [], [], 0, 0, 0, 0))))
def mm_k124 : List mm_E := (List.range 15).map mm_f124
def mm_m124 : mm_M := (yX9_isFull, cX9_isFull, 1, (some .boolean), mm_k124, 0, 0, 0, 6032)
/-- TypeCopier$Report.add.(I)V -/
def mm_f125 : Nat → mm_E := fun pc => (bif Nat.ble 20 pc then
  (bif Nat.ble 27 pc then
  (bif Nat.ble 31 pc then
  (bif Nat.ble 32 pc then
  (bif Nat.ble 33 pc then (.return_, 1, [], [], 0, 0, 0, 33) else (.iastore, 1, [], [], 0, 0, 0, 32)) else (.iload_n 1, 1, [], [], 1, 0, 0, 31)) else (bif Nat.ble 28 pc then
  (bif Nat.beq 28 pc then (.putfield 19, 3, [(8, 1)], [[2190]], 0, 0, 0, 28) else mm_nop) else (.iadd, 1, [], [], 0, 0, 0, 27))) else (bif Nat.ble 22 pc then
  (bif Nat.ble 25 pc then
  (bif Nat.ble 26 pc then (.iconst 1, 1, [], [], 0, 1, 0, 26) else (.dup_x1, 1, [], [], 0, 0, 0, 25)) else (bif Nat.beq 22 pc then (.getfield 19, 3, [(8, 1)], [[2190]], 0, 0, 0, 22) else mm_nop)) else (bif Nat.ble 21 pc then (.dup, 1, [], [], 0, 0, 0, 21) else (.aload_n 0, 1, [], [], 0, 0, 0, 20)))) else (bif Nat.ble 8 pc then
  (bif Nat.ble 13 pc then
  (bif Nat.ble 16 pc then
  (bif Nat.ble 17 pc then
  (bif Nat.beq 17 pc then (.getfield 11, 3, [(8, 0)], [[2189]], 0, 0, 0, 17) else mm_nop) else (.aload_n 0, 1, [], [], 0, 0, 0, 16)) else (bif Nat.beq 13 pc then (.if_icmp .ge 20, 3, [(0, 33)], [], 0, 0, 0, 13) else mm_nop)) else (bif Nat.ble 11 pc then
  (bif Nat.beq 11 pc then (.bipush 100, 2, [], [], 0, 100, 0, 11) else mm_nop) else (bif Nat.beq 8 pc then (.getfield 19, 3, [(8, 1)], [[2190]], 0, 0, 0, 8) else mm_nop))) else (bif Nat.ble 4 pc then
  (bif Nat.ble 7 pc then (.aload_n 0, 1, [], [], 0, 0, 0, 7) else (bif Nat.beq 4 pc then (.ifCond .lt 29, 3, [(0, 33)], [], 0, 0, 0, 4) else mm_nop)) else (bif Nat.ble 1 pc then
  (bif Nat.beq 1 pc then (.getfield 19, 3, [(8, 1)], [[2190]], 0, 0, 0, 1) else mm_nop) else (.aload_n 0, 1, [], [], 0, 0, 0, 0)))))
def mm_k125 : List mm_E := (List.range 34).map mm_f125
def mm_m125 : mm_M := (yX9_add, cX9_add, 2, none, mm_k125, 1, 0, 0, 6028)
/-- TypeCopier$Report.entry.(I)I -/
def mm_f126 : Nat → mm_E := fun pc => (bif Nat.ble 15 pc then
  (bif Nat.ble 23 pc then
  (bif Nat.ble 27 pc then
  (bif Nat.ble 28 pc then (.ireturn, 1, [], [], 0, 0, 0, 28) else (.iconst 0, 1, [], [], 0, 0, 0, 27)) else (bif Nat.ble 24 pc then
  (bif Nat.beq 24 pc then (.goto 4, 3, [(0, 28)], [], 0, 0, 0, 24) else mm_nop) else (.iaload, 1, [], [], 0, 0, 0, 23))) else (bif Nat.ble 19 pc then
  (bif Nat.ble 22 pc then (.iload_n 1, 1, [], [], 1, 0, 0, 22) else (bif Nat.beq 19 pc then (.getfield 11, 3, [(8, 0)], [[2189]], 0, 0, 0, 19) else mm_nop)) else (bif Nat.ble 18 pc then (.aload_n 0, 1, [], [], 0, 0, 0, 18) else (bif Nat.beq 15 pc then (.if_icmp .ge 12, 3, [(0, 27)], [], 0, 0, 0, 15) else mm_nop)))) else (bif Nat.ble 6 pc then
  (bif Nat.ble 12 pc then
  (bif Nat.ble 13 pc then
  (bif Nat.beq 13 pc then (.bipush 100, 2, [], [], 0, 100, 0, 13) else mm_nop) else (.iload_n 1, 1, [], [], 1, 0, 0, 12)) else (bif Nat.ble 9 pc then
  (bif Nat.beq 9 pc then (.if_icmp .ge 18, 3, [(0, 27)], [], 0, 0, 0, 9) else mm_nop) else (bif Nat.beq 6 pc then (.getfield 19, 3, [(8, 1)], [[2190]], 0, 0, 0, 6) else mm_nop))) else (bif Nat.ble 4 pc then
  (bif Nat.ble 5 pc then (.aload_n 0, 1, [], [], 0, 0, 0, 5) else (.iload_n 1, 1, [], [], 1, 0, 0, 4)) else (bif Nat.ble 1 pc then
  (bif Nat.beq 1 pc then (.ifCond .lt 26, 3, [(0, 27)], [], 0, 0, 0, 1) else mm_nop) else (.iload_n 1, 1, [], [], 1, 0, 0, 0)))))
def mm_k126 : List mm_E := (List.range 29).map mm_f126
def mm_m126 : mm_M := (yX9_entry, cX9_entry, 2, (some .int), mm_k126, 1, 0, 0, 6048)
/-- TypeCopier$Report.factOf.(I)I -/
def mm_f127 : Nat → mm_E := fun pc => (bif Nat.ble 47 pc then
  (bif Nat.ble 56 pc then
  (bif Nat.ble 60 pc then
  (bif Nat.ble 61 pc then
  (bif Nat.ble 63 pc then (.ireturn, 1, [], [], 0, 0, 0, 63) else (bif Nat.beq 61 pc then (.bipush (-2), 2, [], [], 0, (-2), 0, 61) else mm_nop)) else (.ireturn, 1, [], [], 0, 0, 0, 60)) else (bif Nat.ble 57 pc then
  (bif Nat.beq 57 pc then (.getfield 15, 3, [(8, 5)], [[2194]], 0, 0, 0, 57) else mm_nop) else (.aload_n 0, 1, [], [], 0, 0, 0, 56))) else (bif Nat.ble 51 pc then
  (bif Nat.ble 52 pc then
  (bif Nat.ble 55 pc then (.ireturn, 1, [], [], 0, 0, 0, 55) else (bif Nat.beq 52 pc then (.getfield 28, 3, [(8, 4)], [[2193]], 0, 0, 0, 52) else mm_nop)) else (.aload_n 0, 1, [], [], 0, 0, 0, 51)) else (bif Nat.ble 50 pc then (.ireturn, 1, [], [], 0, 0, 0, 50) else (bif Nat.beq 47 pc then (.getfield 25, 3, [(8, 3)], [[2192]], 0, 0, 0, 47) else mm_nop)))) else (bif Nat.ble 40 pc then
  (bif Nat.ble 42 pc then
  (bif Nat.ble 45 pc then
  (bif Nat.ble 46 pc then (.aload_n 0, 1, [], [], 0, 0, 0, 46) else (.ireturn, 1, [], [], 0, 0, 0, 45)) else (bif Nat.beq 42 pc then (.getfield 22, 3, [(8, 2)], [[2191]], 0, 0, 0, 42) else mm_nop)) else (bif Nat.ble 41 pc then (.aload_n 0, 1, [], [], 0, 0, 0, 41) else (.ireturn, 1, [], [], 0, 0, 0, 40))) else (bif Nat.ble 36 pc then
  (bif Nat.ble 37 pc then
  (bif Nat.beq 37 pc then (.getfield 19, 3, [(8, 1)], [[2190]], 0, 0, 0, 37) else mm_nop) else (.aload_n 0, 1, [], [], 0, 0, 0, 36)) else (bif Nat.ble 1 pc then
  (bif Nat.beq 1 pc then (.tableswitch 60 0 4 #[35, 40, 45, 50, 55], 35, [(0, 61), (0, 36), (1, 41), (2, 46), (3, 51), (4, 56)], [], 0, 0, 0, 1) else mm_nop) else (.iload_n 1, 1, [], [], 1, 0, 0, 0)))))
def mm_k127 : List mm_E := (List.range 64).map mm_f127
def mm_m127 : mm_M := (yX9_factOf, cX9_factOf, 2, (some .int), mm_k127, 1, 0, 0, 6056)
/-- TypeCopier$Shape.depthOf.(J)I -/
def mm_f128 : Nat → mm_E := fun pc => (bif Nat.ble 19 pc then
  (bif Nat.ble 27 pc then
  (bif Nat.ble 32 pc then
  (bif Nat.ble 38 pc then
  (bif Nat.ble 39 pc then (.ireturn, 1, [], [], 0, 0, 0, 39) else (.iconst 0, 1, [], [], 0, 0, 0, 38)) else (bif Nat.ble 35 pc then
  (bif Nat.beq 35 pc then (.goto (-25), 3, [(0, 10)], [], 0, 0, 0, 35) else mm_nop) else (bif Nat.beq 32 pc then (.iinc 2 1, 3, [], [], 2, 1, 0, 32) else mm_nop))) else (bif Nat.ble 30 pc then
  (bif Nat.ble 31 pc then (.ireturn, 1, [], [], 0, 0, 0, 31) else (.iload_n 2, 1, [], [], 2, 0, 0, 30)) else (bif Nat.beq 27 pc then (.ifCond .ge 5, 3, [(0, 32)], [], 0, 0, 0, 27) else mm_nop))) else (bif Nat.ble 24 pc then
  (bif Nat.ble 25 pc then
  (bif Nat.ble 26 pc then (.lcmp, 1, [], [], 0, 0, 0, 26) else (.laload, 1, [], [], 0, 0, 0, 25)) else (.isub, 1, [], [], 0, 0, 0, 24)) else (bif Nat.ble 22 pc then
  (bif Nat.ble 23 pc then (.iconst 1, 1, [], [], 0, 1, 0, 23) else (.iload_n 2, 1, [], [], 2, 0, 0, 22)) else (bif Nat.beq 19 pc then (.getstatic 9, 3, [(0, 1)], [[3170]], 0, 0, 0, 19) else mm_nop)))) else (bif Nat.ble 8 pc then
  (bif Nat.ble 11 pc then
  (bif Nat.ble 15 pc then
  (bif Nat.ble 18 pc then (.lload_n 0, 1, [], [], 0, 0, 0, 18) else (bif Nat.beq 15 pc then (.if_icmp .gt 23, 3, [(0, 38)], [], 0, 0, 0, 15) else mm_nop)) else (bif Nat.ble 14 pc then (.arraylength, 1, [], [], 0, 0, 0, 14) else (bif Nat.beq 11 pc then (.getstatic 9, 3, [(0, 1)], [[3170]], 0, 0, 0, 11) else mm_nop))) else (bif Nat.ble 9 pc then
  (bif Nat.ble 10 pc then (.iload_n 2, 1, [], [], 2, 0, 0, 10) else (.istore_n 2, 1, [], [], 2, 0, 0, 9)) else (.iconst 1, 1, [], [], 0, 1, 0, 8))) else (bif Nat.ble 3 pc then
  (bif Nat.ble 6 pc then
  (bif Nat.ble 7 pc then (.ireturn, 1, [], [], 0, 0, 0, 7) else (.iconst 0, 1, [], [], 0, 0, 0, 6)) else (bif Nat.beq 3 pc then (.ifCond .ge 5, 3, [(0, 8)], [], 0, 0, 0, 3) else mm_nop)) else (bif Nat.ble 1 pc then
  (bif Nat.ble 2 pc then (.lcmp, 1, [], [], 0, 0, 0, 2) else (.lconst 0, 1, [], [], 0, 0, 0, 1)) else (.lload_n 0, 1, [], [], 0, 0, 0, 0)))))
def mm_k128 : List mm_E := (List.range 40).map mm_f128
def mm_m128 : mm_M := (yX10_depthOf, cX10_depthOf, 3, (some .int), mm_k128, 1, 0, 0, 3198)
/-- TypeCopier$Shape.roomWith.(J)J -/
def mm_f129 : Nat → mm_E := fun pc => (bif Nat.ble 20 pc then
  (bif Nat.ble 33 pc then
  (bif Nat.ble 36 pc then
  (bif Nat.ble 42 pc then
  (bif Nat.ble 43 pc then (.lreturn, 1, [], [], 0, 0, 0, 43) else (.lconst 0, 1, [], [], 0, 0, 0, 42)) else (bif Nat.ble 39 pc then
  (bif Nat.beq 39 pc then (.goto (-29), 3, [(0, 10)], [], 0, 0, 0, 39) else mm_nop) else (bif Nat.beq 36 pc then (.iinc 2 1, 3, [], [], 2, 1, 0, 36) else mm_nop))) else (bif Nat.ble 34 pc then
  (bif Nat.ble 35 pc then (.lreturn, 1, [], [], 0, 0, 0, 35) else (.laload, 1, [], [], 0, 0, 0, 34)) else (.iload_n 2, 1, [], [], 2, 0, 0, 33))) else (bif Nat.ble 25 pc then
  (bif Nat.ble 27 pc then
  (bif Nat.ble 30 pc then
  (bif Nat.beq 30 pc then (.getstatic 9, 3, [(0, 1)], [[3170]], 0, 0, 0, 30) else mm_nop) else (bif Nat.beq 27 pc then (.ifCond .ge 9, 3, [(0, 36)], [], 0, 0, 0, 27) else mm_nop)) else (bif Nat.ble 26 pc then (.lcmp, 1, [], [], 0, 0, 0, 26) else (.laload, 1, [], [], 0, 0, 0, 25))) else (bif Nat.ble 21 pc then
  (bif Nat.ble 24 pc then (.iload_n 2, 1, [], [], 2, 0, 0, 24) else (bif Nat.beq 21 pc then (.getstatic 9, 3, [(0, 1)], [[3170]], 0, 0, 0, 21) else mm_nop)) else (.lload_n 0, 1, [], [], 0, 0, 0, 20)))) else (bif Nat.ble 9 pc then
  (bif Nat.ble 14 pc then
  (bif Nat.ble 16 pc then
  (bif Nat.ble 17 pc then
  (bif Nat.beq 17 pc then (.if_icmp .ge 25, 3, [(0, 42)], [], 0, 0, 0, 17) else mm_nop) else (.isub, 1, [], [], 0, 0, 0, 16)) else (bif Nat.ble 15 pc then (.iconst 1, 1, [], [], 0, 1, 0, 15) else (.arraylength, 1, [], [], 0, 0, 0, 14))) else (bif Nat.ble 10 pc then
  (bif Nat.ble 11 pc then
  (bif Nat.beq 11 pc then (.getstatic 9, 3, [(0, 1)], [[3170]], 0, 0, 0, 11) else mm_nop) else (.iload_n 2, 1, [], [], 2, 0, 0, 10)) else (.istore_n 2, 1, [], [], 2, 0, 0, 9))) else (bif Nat.ble 3 pc then
  (bif Nat.ble 7 pc then
  (bif Nat.ble 8 pc then (.iconst 0, 1, [], [], 0, 0, 0, 8) else (.lreturn, 1, [], [], 0, 0, 0, 7)) else (bif Nat.ble 6 pc then (.lconst 0, 1, [], [], 0, 0, 0, 6) else (bif Nat.beq 3 pc then (.ifCond .ge 5, 3, [(0, 8)], [], 0, 0, 0, 3) else mm_nop))) else (bif Nat.ble 1 pc then
  (bif Nat.ble 2 pc then (.lcmp, 1, [], [], 0, 0, 0, 2) else (.lconst 0, 1, [], [], 0, 0, 0, 1)) else (.lload_n 0, 1, [], [], 0, 0, 0, 0)))))
def mm_k129 : List mm_E := (List.range 44).map mm_f129
def mm_m129 : mm_M := (yX10_roomWith, cX10_roomWith, 3, (some .long), mm_k129, 1, 0, 0, 3182)
/-- TypeCopier$Shape.roomBelow.(J)J -/
def mm_f130 : Nat → mm_E := fun pc => (bif Nat.ble 20 pc then
  (bif Nat.ble 32 pc then
  (bif Nat.ble 37 pc then
  (bif Nat.ble 40 pc then
  (bif Nat.ble 41 pc then (.lreturn, 1, [], [], 0, 0, 0, 41) else (.lload_n 2, 1, [], [], 2, 0, 0, 40)) else (bif Nat.beq 37 pc then (.goto (-32), 3, [(0, 5)], [], 0, 0, 0, 37) else mm_nop)) else (bif Nat.ble 33 pc then
  (bif Nat.ble 34 pc then
  (bif Nat.beq 34 pc then (.iinc 4 1, 3, [], [], 4, 1, 0, 34) else mm_nop) else (.lstore_n 2, 1, [], [], 2, 0, 0, 33)) else (.laload, 1, [], [], 0, 0, 0, 32))) else (bif Nat.ble 24 pc then
  (bif Nat.ble 27 pc then
  (bif Nat.ble 30 pc then
  (bif Nat.beq 30 pc then (.iload 4, 2, [], [], 4, 0, 0, 30) else mm_nop) else (bif Nat.beq 27 pc then (.getstatic 9, 3, [(0, 1)], [[3170]], 0, 0, 0, 27) else mm_nop)) else (bif Nat.beq 24 pc then (.ifCond .lt 10, 3, [(0, 34)], [], 0, 0, 0, 24) else mm_nop)) else (bif Nat.ble 22 pc then
  (bif Nat.ble 23 pc then (.lcmp, 1, [], [], 0, 0, 0, 23) else (.laload, 1, [], [], 0, 0, 0, 22)) else (bif Nat.beq 20 pc then (.iload 4, 2, [], [], 4, 0, 0, 20) else mm_nop)))) else (bif Nat.ble 10 pc then
  (bif Nat.ble 13 pc then
  (bif Nat.ble 16 pc then
  (bif Nat.ble 17 pc then
  (bif Nat.beq 17 pc then (.getstatic 9, 3, [(0, 1)], [[3170]], 0, 0, 0, 17) else mm_nop) else (.lload_n 0, 1, [], [], 0, 0, 0, 16)) else (bif Nat.beq 13 pc then (.if_icmp .ge 27, 3, [(0, 40)], [], 0, 0, 0, 13) else mm_nop)) else (bif Nat.ble 11 pc then
  (bif Nat.ble 12 pc then (.isub, 1, [], [], 0, 0, 0, 12) else (.iconst 1, 1, [], [], 0, 1, 0, 11)) else (.arraylength, 1, [], [], 0, 0, 0, 10))) else (bif Nat.ble 3 pc then
  (bif Nat.ble 5 pc then
  (bif Nat.ble 7 pc then
  (bif Nat.beq 7 pc then (.getstatic 9, 3, [(0, 1)], [[3170]], 0, 0, 0, 7) else mm_nop) else (bif Nat.beq 5 pc then (.iload 4, 2, [], [], 4, 0, 0, 5) else mm_nop)) else (bif Nat.beq 3 pc then (.istore 4, 2, [], [], 4, 0, 0, 3) else mm_nop)) else (bif Nat.ble 1 pc then
  (bif Nat.ble 2 pc then (.iconst 0, 1, [], [], 0, 0, 0, 2) else (.lstore_n 2, 1, [], [], 2, 0, 0, 1)) else (.lconst 0, 1, [], [], 0, 0, 0, 0)))))
def mm_k130 : List mm_E := (List.range 42).map mm_f130
def mm_m130 : mm_M := (yX10_roomBelow, cX10_roomBelow, 5, (some .long), mm_k130, 1, 0, 0, 3169)
/-- TypeCopier$Shape.listOf.(J)J -/
def mm_f131 : Nat → mm_E := fun pc => (bif Nat.ble 8 pc then
  (bif Nat.ble 17 pc then
  (bif Nat.ble 19 pc then
  (bif Nat.ble 20 pc then (.lreturn, 1, [], [], 0, 0, 0, 20) else (.ladd, 1, [], [], 0, 0, 0, 19)) else (bif Nat.ble 18 pc then (.lload_n 0, 1, [], [], 0, 0, 0, 18) else (.lload_n 2, 1, [], [], 2, 0, 0, 17))) else (bif Nat.ble 11 pc then
  (bif Nat.ble 14 pc then
  (bif Nat.beq 14 pc then (.goto 6, 3, [(0, 20)], [], 0, 0, 0, 14) else mm_nop) else (bif Nat.beq 11 pc then (.ldc2_w 19, 3, [], [[3175]], 0, 0, (-1), 11) else mm_nop)) else (bif Nat.beq 8 pc then (.ifCond .ge 9, 3, [(0, 17)], [], 0, 0, 0, 8) else mm_nop))) else (bif Nat.ble 5 pc then
  (bif Nat.ble 6 pc then
  (bif Nat.ble 7 pc then (.lcmp, 1, [], [], 0, 0, 0, 7) else (.lconst 1, 1, [], [], 0, 0, 1, 6)) else (.lload_n 2, 1, [], [], 2, 0, 0, 5)) else (bif Nat.ble 1 pc then
  (bif Nat.ble 4 pc then (.lstore_n 2, 1, [], [], 2, 0, 0, 4) else (bif Nat.beq 1 pc then (.invokestatic 15, 3, [(0, 129)], [[3180, 3181, 2013]], 1, 0, 0, 1) else mm_nop)) else (.lload_n 0, 1, [], [], 0, 0, 0, 0))))
def mm_k131 : List mm_E := (List.range 21).map mm_f131
def mm_m131 : mm_M := (yX10_listOf, cX10_listOf, 4, (some .long), mm_k131, 1, 0, 0, 3179)
/-- TypeCopier$Shape.pairOf.(JJ)J -/
def mm_f132 : Nat → mm_E := fun pc => (bif Nat.ble 29 pc then
  (bif Nat.ble 42 pc then
  (bif Nat.ble 47 pc then
  (bif Nat.ble 49 pc then
  (bif Nat.ble 50 pc then (.lreturn, 1, [], [], 0, 0, 0, 50) else (.ladd, 1, [], [], 0, 0, 0, 49)) else (bif Nat.ble 48 pc then (.lload_n 2, 1, [], [], 2, 0, 0, 48) else (.ladd, 1, [], [], 0, 0, 0, 47))) else (bif Nat.ble 44 pc then
  (bif Nat.ble 46 pc then (.lmul, 1, [], [], 0, 0, 0, 46) else (bif Nat.beq 44 pc then (.lload 8, 2, [], [], 8, 0, 0, 44) else mm_nop)) else (bif Nat.ble 43 pc then (.ladd, 1, [], [], 0, 0, 0, 43) else (.lconst 1, 1, [], [], 0, 0, 1, 42)))) else (bif Nat.ble 34 pc then
  (bif Nat.ble 39 pc then
  (bif Nat.ble 41 pc then (.lload_n 0, 1, [], [], 0, 0, 0, 41) else (bif Nat.beq 39 pc then (.lload 8, 2, [], [], 8, 0, 0, 39) else mm_nop)) else (bif Nat.ble 37 pc then
  (bif Nat.beq 37 pc then (.lstore 8, 2, [], [], 8, 0, 0, 37) else mm_nop) else (bif Nat.beq 34 pc then (.invokestatic 21, 3, [(4, 0)], [[3189, 3190, 2014, 3191]], 2, 0, 0, 34) else mm_nop))) else (bif Nat.ble 30 pc then
  (bif Nat.ble 32 pc then
  (bif Nat.beq 32 pc then (.lload 6, 2, [], [], 6, 0, 0, 32) else mm_nop) else (bif Nat.beq 30 pc then (.lload 4, 2, [], [], 4, 0, 0, 30) else mm_nop)) else (.lreturn, 1, [], [], 0, 0, 0, 29)))) else (bif Nat.ble 14 pc then
  (bif Nat.ble 21 pc then
  (bif Nat.ble 23 pc then
  (bif Nat.ble 26 pc then
  (bif Nat.beq 26 pc then (.ldc2_w 19, 3, [], [[3175]], 0, 0, (-1), 26) else mm_nop) else (bif Nat.beq 23 pc then (.ifCond .ge 7, 3, [(0, 30)], [], 0, 0, 0, 23) else mm_nop)) else (bif Nat.ble 22 pc then (.lcmp, 1, [], [], 0, 0, 0, 22) else (.lconst 1, 1, [], [], 0, 0, 1, 21))) else (bif Nat.ble 16 pc then
  (bif Nat.ble 19 pc then
  (bif Nat.beq 19 pc then (.lload 6, 2, [], [], 6, 0, 0, 19) else mm_nop) else (bif Nat.beq 16 pc then (.ifCond .lt 10, 3, [(0, 26)], [], 0, 0, 0, 16) else mm_nop)) else (bif Nat.ble 15 pc then (.lcmp, 1, [], [], 0, 0, 0, 15) else (.lconst 1, 1, [], [], 0, 0, 1, 14)))) else (bif Nat.ble 6 pc then
  (bif Nat.ble 10 pc then
  (bif Nat.ble 12 pc then
  (bif Nat.beq 12 pc then (.lload 4, 2, [], [], 4, 0, 0, 12) else mm_nop) else (bif Nat.beq 10 pc then (.lstore 6, 2, [], [], 6, 0, 0, 10) else mm_nop)) else (bif Nat.ble 7 pc then
  (bif Nat.beq 7 pc then (.invokestatic 15, 3, [(0, 129)], [[3180, 3181, 2013]], 1, 0, 0, 7) else mm_nop) else (.lload_n 2, 1, [], [], 2, 0, 0, 6))) else (bif Nat.ble 1 pc then
  (bif Nat.ble 4 pc then
  (bif Nat.beq 4 pc then (.lstore 4, 2, [], [], 4, 0, 0, 4) else mm_nop) else (bif Nat.beq 1 pc then (.invokestatic 15, 3, [(0, 129)], [[3180, 3181, 2013]], 1, 0, 0, 1) else mm_nop)) else (.lload_n 0, 1, [], [], 0, 0, 0, 0)))))
def mm_k132 : List mm_E := (List.range 51).map mm_f132
def mm_m132 : mm_M := (yX10_pairOf, cX10_pairOf, 10, (some .long), mm_k132, 2, 0, 0, 3188)
/-- TypeCopier$Shape.kindOf.(J)I -/
def mm_f133 : Nat → mm_E := fun pc => (bif Nat.ble 19 pc then
  (bif Nat.ble 27 pc then
  (bif Nat.ble 32 pc then
  (bif Nat.ble 36 pc then
  (bif Nat.ble 37 pc then (.ireturn, 1, [], [], 0, 0, 0, 37) else (.iconst 4, 1, [], [], 0, 4, 0, 36)) else (bif Nat.ble 33 pc then
  (bif Nat.beq 33 pc then (.goto 4, 3, [(0, 37)], [], 0, 0, 0, 33) else mm_nop) else (.iconst 5, 1, [], [], 0, 5, 0, 32))) else (bif Nat.ble 28 pc then
  (bif Nat.ble 29 pc then
  (bif Nat.beq 29 pc then (.ifCond .ge 7, 3, [(0, 36)], [], 0, 0, 0, 29) else mm_nop) else (.lcmp, 1, [], [], 0, 0, 0, 28)) else (.lload_n 2, 1, [], [], 2, 0, 0, 27))) else (bif Nat.ble 24 pc then
  (bif Nat.ble 25 pc then
  (bif Nat.ble 26 pc then (.lsub, 1, [], [], 0, 0, 0, 26) else (.lload_n 2, 1, [], [], 2, 0, 0, 25)) else (.lload_n 0, 1, [], [], 0, 0, 0, 24)) else (bif Nat.ble 20 pc then
  (bif Nat.ble 23 pc then (.lstore_n 2, 1, [], [], 2, 0, 0, 23) else (bif Nat.beq 20 pc then (.invokestatic 29, 3, [(0, 130)], [[3167, 3168, 2013]], 1, 0, 0, 20) else mm_nop)) else (.lload_n 0, 1, [], [], 0, 0, 0, 19)))) else (bif Nat.ble 8 pc then
  (bif Nat.ble 13 pc then
  (bif Nat.ble 17 pc then
  (bif Nat.ble 18 pc then (.ireturn, 1, [], [], 0, 0, 0, 18) else (.l2i, 1, [], [], 0, 0, 0, 17)) else (bif Nat.ble 16 pc then (.lload_n 0, 1, [], [], 0, 0, 0, 16) else (bif Nat.beq 13 pc then (.ifCond .ge 6, 3, [(0, 19)], [], 0, 0, 0, 13) else mm_nop))) else (bif Nat.ble 9 pc then
  (bif Nat.ble 12 pc then (.lcmp, 1, [], [], 0, 0, 0, 12) else (bif Nat.beq 9 pc then (.ldc2_w 27, 3, [], [[3166]], 0, 0, 4, 9) else mm_nop)) else (.lload_n 0, 1, [], [], 0, 0, 0, 8))) else (bif Nat.ble 3 pc then
  (bif Nat.ble 6 pc then
  (bif Nat.ble 7 pc then (.ireturn, 1, [], [], 0, 0, 0, 7) else (.iconst (-1), 1, [], [], 0, (-1), 0, 6)) else (bif Nat.beq 3 pc then (.ifCond .ge 5, 3, [(0, 8)], [], 0, 0, 0, 3) else mm_nop)) else (bif Nat.ble 1 pc then
  (bif Nat.ble 2 pc then (.lcmp, 1, [], [], 0, 0, 0, 2) else (.lconst 0, 1, [], [], 0, 0, 0, 1)) else (.lload_n 0, 1, [], [], 0, 0, 0, 0)))))
def mm_k133 : List mm_E := (List.range 38).map mm_f133
def mm_m133 : mm_M := (yX10_kindOf, cX10_kindOf, 4, (some .int), mm_k133, 1, 0, 0, 3165)
/-- TypeCopier$Shape.firstOf.(J)J -/
def mm_f134 : Nat → mm_E := fun pc => (bif Nat.ble 18 pc then
  (bif Nat.ble 29 pc then
  (bif Nat.ble 35 pc then
  (bif Nat.ble 37 pc then
  (bif Nat.ble 38 pc then (.lreturn, 1, [], [], 0, 0, 0, 38) else (.lsub, 1, [], [], 0, 0, 0, 37)) else (bif Nat.ble 36 pc then (.lconst 1, 1, [], [], 0, 0, 1, 36) else (.ldiv, 1, [], [], 0, 0, 0, 35))) else (bif Nat.ble 32 pc then
  (bif Nat.ble 34 pc then (.lload_n 2, 1, [], [], 2, 0, 0, 34) else (bif Nat.beq 32 pc then (.lload 4, 2, [], [], 4, 0, 0, 32) else mm_nop)) else (bif Nat.beq 29 pc then (.goto 9, 3, [(0, 38)], [], 0, 0, 0, 29) else mm_nop))) else (bif Nat.ble 23 pc then
  (bif Nat.ble 24 pc then
  (bif Nat.ble 27 pc then
  (bif Nat.beq 27 pc then (.lload 4, 2, [], [], 4, 0, 0, 27) else mm_nop) else (bif Nat.beq 24 pc then (.ifCond .ge 8, 3, [(0, 32)], [], 0, 0, 0, 24) else mm_nop)) else (.lcmp, 1, [], [], 0, 0, 0, 23)) else (bif Nat.ble 20 pc then
  (bif Nat.ble 22 pc then (.lload_n 2, 1, [], [], 2, 0, 0, 22) else (bif Nat.beq 20 pc then (.lload 4, 2, [], [], 4, 0, 0, 20) else mm_nop)) else (bif Nat.beq 18 pc then (.lstore 4, 2, [], [], 4, 0, 0, 18) else mm_nop)))) else (bif Nat.ble 8 pc then
  (bif Nat.ble 15 pc then
  (bif Nat.ble 16 pc then
  (bif Nat.ble 17 pc then (.lsub, 1, [], [], 0, 0, 0, 17) else (.lload_n 2, 1, [], [], 2, 0, 0, 16)) else (.lload_n 0, 1, [], [], 0, 0, 0, 15)) else (bif Nat.ble 11 pc then
  (bif Nat.ble 14 pc then (.lreturn, 1, [], [], 0, 0, 0, 14) else (bif Nat.beq 11 pc then (.ldc2_w 19, 3, [], [[3175]], 0, 0, (-1), 11) else mm_nop)) else (bif Nat.beq 8 pc then (.ifCond .ge 7, 3, [(0, 15)], [], 0, 0, 0, 8) else mm_nop))) else (bif Nat.ble 5 pc then
  (bif Nat.ble 6 pc then
  (bif Nat.ble 7 pc then (.lcmp, 1, [], [], 0, 0, 0, 7) else (.lconst 1, 1, [], [], 0, 0, 1, 6)) else (.lload_n 2, 1, [], [], 2, 0, 0, 5)) else (bif Nat.ble 1 pc then
  (bif Nat.ble 4 pc then (.lstore_n 2, 1, [], [], 2, 0, 0, 4) else (bif Nat.beq 1 pc then (.invokestatic 29, 3, [(0, 130)], [[3167, 3168, 2013]], 1, 0, 0, 1) else mm_nop)) else (.lload_n 0, 1, [], [], 0, 0, 0, 0)))))
def mm_k134 : List mm_E := (List.range 39).map mm_f134
def mm_m134 : mm_M := (yX10_firstOf, cX10_firstOf, 6, (some .long), mm_k134, 1, 0, 0, 3174)
/-- TypeCopier$Shape.secondOf.(J)J -/
def mm_f135 : Nat → mm_E := fun pc => (bif Nat.ble 14 pc then
  (bif Nat.ble 23 pc then
  (bif Nat.ble 26 pc then
  (bif Nat.ble 27 pc then
  (bif Nat.ble 28 pc then (.lreturn, 1, [], [], 0, 0, 0, 28) else (.lrem, 1, [], [], 0, 0, 0, 27)) else (.lload_n 2, 1, [], [], 2, 0, 0, 26)) else (bif Nat.ble 24 pc then
  (bif Nat.ble 25 pc then (.lsub, 1, [], [], 0, 0, 0, 25) else (.lload_n 2, 1, [], [], 2, 0, 0, 24)) else (.lload_n 0, 1, [], [], 0, 0, 0, 23))) else (bif Nat.ble 16 pc then
  (bif Nat.ble 19 pc then
  (bif Nat.ble 22 pc then (.lreturn, 1, [], [], 0, 0, 0, 22) else (bif Nat.beq 19 pc then (.ldc2_w 19, 3, [], [[3175]], 0, 0, (-1), 19) else mm_nop)) else (bif Nat.beq 16 pc then (.ifCond .ge 7, 3, [(0, 23)], [], 0, 0, 0, 16) else mm_nop)) else (bif Nat.ble 15 pc then (.lcmp, 1, [], [], 0, 0, 0, 15) else (.lload_n 2, 1, [], [], 2, 0, 0, 14)))) else (bif Nat.ble 7 pc then
  (bif Nat.ble 11 pc then
  (bif Nat.ble 12 pc then
  (bif Nat.ble 13 pc then (.lsub, 1, [], [], 0, 0, 0, 13) else (.lload_n 2, 1, [], [], 2, 0, 0, 12)) else (.lload_n 0, 1, [], [], 0, 0, 0, 11)) else (bif Nat.ble 8 pc then
  (bif Nat.beq 8 pc then (.ifCond .lt 11, 3, [(0, 19)], [], 0, 0, 0, 8) else mm_nop) else (.lcmp, 1, [], [], 0, 0, 0, 7))) else (bif Nat.ble 4 pc then
  (bif Nat.ble 5 pc then
  (bif Nat.ble 6 pc then (.lconst 1, 1, [], [], 0, 0, 1, 6) else (.lload_n 2, 1, [], [], 2, 0, 0, 5)) else (.lstore_n 2, 1, [], [], 2, 0, 0, 4)) else (bif Nat.ble 1 pc then
  (bif Nat.beq 1 pc then (.invokestatic 29, 3, [(0, 130)], [[3167, 3168, 2013]], 1, 0, 0, 1) else mm_nop) else (.lload_n 0, 1, [], [], 0, 0, 0, 0)))))
def mm_k135 : List mm_E := (List.range 29).map mm_f135
def mm_m135 : mm_M := (yX10_secondOf, cX10_secondOf, 4, (some .long), mm_k135, 1, 0, 0, 3185)
/-- TypeCopier$Shape.withLetters.(JJJ)J -/
def mm_f136 : Nat → mm_E := fun pc => (bif Nat.ble 55 pc then
  (bif Nat.ble 69 pc then
  (bif Nat.ble 75 pc then
  (bif Nat.ble 79 pc then
  (bif Nat.ble 80 pc then (.lreturn, 1, [], [], 0, 0, 0, 80) else (.lload_n 0, 1, [], [], 0, 0, 0, 79)) else (bif Nat.ble 78 pc then (.lreturn, 1, [], [], 0, 0, 0, 78) else (bif Nat.beq 75 pc then (.invokestatic 49, 3, [(0, 132)], [[3186, 3187, 2013]], 2, 0, 0, 75) else mm_nop))) else (bif Nat.ble 70 pc then
  (bif Nat.ble 72 pc then
  (bif Nat.beq 72 pc then (.invokestatic 39, 3, [(0, 136)], [[3176, 3161, 2013]], 3, 0, 0, 72) else mm_nop) else (bif Nat.beq 70 pc then (.lload 4, 2, [], [], 4, 0, 0, 70) else mm_nop)) else (.lload_n 2, 1, [], [], 2, 0, 0, 69))) else (bif Nat.ble 60 pc then
  (bif Nat.ble 65 pc then
  (bif Nat.ble 66 pc then
  (bif Nat.beq 66 pc then (.invokestatic 46, 3, [(0, 135)], [[3183, 3184, 2013]], 1, 0, 0, 66) else mm_nop) else (.lload_n 0, 1, [], [], 0, 0, 0, 65)) else (bif Nat.ble 62 pc then
  (bif Nat.beq 62 pc then (.invokestatic 39, 3, [(0, 136)], [[3176, 3161, 2013]], 3, 0, 0, 62) else mm_nop) else (bif Nat.beq 60 pc then (.lload 4, 2, [], [], 4, 0, 0, 60) else mm_nop))) else (bif Nat.ble 56 pc then
  (bif Nat.ble 59 pc then (.lload_n 2, 1, [], [], 2, 0, 0, 59) else (bif Nat.beq 56 pc then (.invokestatic 36, 3, [(0, 134)], [[3172, 3173, 2013]], 1, 0, 0, 56) else mm_nop)) else (.lload_n 0, 1, [], [], 0, 0, 0, 55)))) else (bif Nat.ble 41 pc then
  (bif Nat.ble 46 pc then
  (bif Nat.ble 51 pc then
  (bif Nat.ble 54 pc then (.lreturn, 1, [], [], 0, 0, 0, 54) else (bif Nat.beq 51 pc then (.invokestatic 43, 3, [(0, 131)], [[3177, 3178, 2013]], 1, 0, 0, 51) else mm_nop)) else (bif Nat.ble 48 pc then
  (bif Nat.beq 48 pc then (.invokestatic 39, 3, [(0, 136)], [[3176, 3161, 2013]], 3, 0, 0, 48) else mm_nop) else (bif Nat.beq 46 pc then (.lload 4, 2, [], [], 4, 0, 0, 46) else mm_nop))) else (bif Nat.ble 42 pc then
  (bif Nat.ble 45 pc then (.lload_n 2, 1, [], [], 2, 0, 0, 45) else (bif Nat.beq 42 pc then (.invokestatic 36, 3, [(0, 134)], [[3172, 3173, 2013]], 1, 0, 0, 42) else mm_nop)) else (.lload_n 0, 1, [], [], 0, 0, 0, 41))) else (bif Nat.ble 36 pc then
  (bif Nat.ble 38 pc then
  (bif Nat.ble 40 pc then (.lreturn, 1, [], [], 0, 0, 0, 40) else (bif Nat.beq 38 pc then (.lload 4, 2, [], [], 4, 0, 0, 38) else mm_nop)) else (bif Nat.ble 37 pc then (.lreturn, 1, [], [], 0, 0, 0, 37) else (.lload_n 2, 1, [], [], 2, 0, 0, 36))) else (bif Nat.ble 1 pc then
  (bif Nat.ble 4 pc then
  (bif Nat.beq 4 pc then (.tableswitch 75 2 5 #[32, 34, 51, 37], 32, [(0, 79), (2, 36), (3, 38), (4, 55), (5, 41)], [], 0, 0, 0, 4) else mm_nop) else (bif Nat.beq 1 pc then (.invokestatic 32, 3, [(0, 133)], [[3163, 3164, 2013]], 1, 0, 0, 1) else mm_nop)) else (.lload_n 0, 1, [], [], 0, 0, 0, 0)))))
def mm_k136 : List mm_E := (List.range 81).map mm_f136
def mm_m136 : mm_M := (yX10_withLetters, cX10_withLetters, 6, (some .long), mm_k136, 3, 0, 0, 3162)
/-- TypeCopier$Shape.lettersOf.(J)I -/
def mm_f137 : Nat → mm_E := fun pc => (bif Nat.ble 47 pc then
  (bif Nat.ble 56 pc then
  (bif Nat.ble 63 pc then
  (bif Nat.ble 64 pc then
  (bif Nat.ble 65 pc then (.ireturn, 1, [], [], 0, 0, 0, 65) else (.iconst 0, 1, [], [], 0, 0, 0, 64)) else (.ireturn, 1, [], [], 0, 0, 0, 63)) else (bif Nat.ble 59 pc then
  (bif Nat.ble 62 pc then (.ior, 1, [], [], 0, 0, 0, 62) else (bif Nat.beq 59 pc then (.invokestatic 52, 3, [(0, 137)], [[3199, 3200, 2013]], 1, 0, 0, 59) else mm_nop)) else (bif Nat.beq 56 pc then (.invokestatic 46, 3, [(0, 135)], [[3183, 3184, 2013]], 1, 0, 0, 56) else mm_nop))) else (bif Nat.ble 49 pc then
  (bif Nat.ble 52 pc then
  (bif Nat.ble 55 pc then (.lload_n 0, 1, [], [], 0, 0, 0, 55) else (bif Nat.beq 52 pc then (.invokestatic 52, 3, [(0, 137)], [[3199, 3200, 2013]], 1, 0, 0, 52) else mm_nop)) else (bif Nat.beq 49 pc then (.invokestatic 36, 3, [(0, 134)], [[3172, 3173, 2013]], 1, 0, 0, 49) else mm_nop)) else (bif Nat.ble 48 pc then (.lload_n 0, 1, [], [], 0, 0, 0, 48) else (.ireturn, 1, [], [], 0, 0, 0, 47)))) else (bif Nat.ble 38 pc then
  (bif Nat.ble 40 pc then
  (bif Nat.ble 41 pc then
  (bif Nat.ble 44 pc then
  (bif Nat.beq 44 pc then (.invokestatic 52, 3, [(0, 137)], [[3199, 3200, 2013]], 1, 0, 0, 44) else mm_nop) else (bif Nat.beq 41 pc then (.invokestatic 36, 3, [(0, 134)], [[3172, 3173, 2013]], 1, 0, 0, 41) else mm_nop)) else (.lload_n 0, 1, [], [], 0, 0, 0, 40)) else (bif Nat.ble 39 pc then (.ireturn, 1, [], [], 0, 0, 0, 39) else (.iconst 2, 1, [], [], 0, 2, 0, 38))) else (bif Nat.ble 4 pc then
  (bif Nat.ble 36 pc then
  (bif Nat.ble 37 pc then (.ireturn, 1, [], [], 0, 0, 0, 37) else (.iconst 1, 1, [], [], 0, 1, 0, 36)) else (bif Nat.beq 4 pc then (.tableswitch 60 2 5 #[32, 34, 44, 36], 32, [(0, 64), (2, 36), (3, 38), (4, 48), (5, 40)], [], 0, 0, 0, 4) else mm_nop)) else (bif Nat.ble 1 pc then
  (bif Nat.beq 1 pc then (.invokestatic 32, 3, [(0, 133)], [[3163, 3164, 2013]], 1, 0, 0, 1) else mm_nop) else (.lload_n 0, 1, [], [], 0, 0, 0, 0)))))
def mm_k137 : List mm_E := (List.range 66).map mm_f137
def mm_m137 : mm_M := (yX10_lettersOf, cX10_lettersOf, 2, (some .int), mm_k137, 1, 0, 0, 3201)
/-- TypeCopier$Shape.widthOf.(J)I -/
def mm_f138 : Nat → mm_E := fun pc => (bif Nat.ble 12 pc then
  (bif Nat.ble 19 pc then
  (bif Nat.ble 20 pc then
  (bif Nat.ble 23 pc then (.ireturn, 1, [], [], 0, 0, 0, 23) else (bif Nat.beq 20 pc then (.invokestatic 58, 3, [(0, 139)], [[3202, 3203, 2013]], 1, 0, 0, 20) else mm_nop)) else (.lload_n 0, 1, [], [], 0, 0, 0, 19)) else (bif Nat.ble 15 pc then
  (bif Nat.ble 16 pc then
  (bif Nat.beq 16 pc then (.goto 7, 3, [(0, 23)], [], 0, 0, 0, 16) else mm_nop) else (.iconst (-1), 1, [], [], 0, (-1), 0, 15)) else (bif Nat.beq 12 pc then (.ifCond .eq 7, 3, [(0, 19)], [], 0, 0, 0, 12) else mm_nop))) else (bif Nat.ble 5 pc then
  (bif Nat.ble 8 pc then
  (bif Nat.ble 9 pc then
  (bif Nat.beq 9 pc then (.invokestatic 52, 3, [(0, 137)], [[3199, 3200, 2013]], 1, 0, 0, 9) else mm_nop) else (.lload_n 0, 1, [], [], 0, 0, 0, 8)) else (bif Nat.beq 5 pc then (.if_icmp .lt 10, 3, [(0, 15)], [], 0, 0, 0, 5) else mm_nop)) else (bif Nat.ble 1 pc then
  (bif Nat.ble 4 pc then (.iconst 1, 1, [], [], 0, 1, 0, 4) else (bif Nat.beq 1 pc then (.invokestatic 55, 3, [(0, 128)], [[3196, 3197, 2013]], 1, 0, 0, 1) else mm_nop)) else (.lload_n 0, 1, [], [], 0, 0, 0, 0))))
def mm_k138 : List mm_E := (List.range 24).map mm_f138
def mm_m138 : mm_M := (yX10_widthOf, cX10_widthOf, 2, (some .int), mm_k138, 1, 0, 0, 3195)
/-- TypeCopier$Shape.leavesOf.(J)I -/
def mm_f139 : Nat → mm_E := fun pc => (bif Nat.ble 15 pc then
  (bif Nat.ble 22 pc then
  (bif Nat.ble 26 pc then
  (bif Nat.ble 27 pc then (.ireturn, 1, [], [], 0, 0, 0, 27) else (.iconst 1, 1, [], [], 0, 1, 0, 26)) else (bif Nat.ble 23 pc then
  (bif Nat.beq 23 pc then (.goto 4, 3, [(0, 27)], [], 0, 0, 0, 23) else mm_nop) else (.iadd, 1, [], [], 0, 0, 0, 22))) else (bif Nat.ble 16 pc then
  (bif Nat.ble 19 pc then
  (bif Nat.beq 19 pc then (.invokestatic 58, 3, [(0, 139)], [[3202, 3203, 2013]], 1, 0, 0, 19) else mm_nop) else (bif Nat.beq 16 pc then (.invokestatic 46, 3, [(0, 135)], [[3183, 3184, 2013]], 1, 0, 0, 16) else mm_nop)) else (.lload_n 0, 1, [], [], 0, 0, 0, 15))) else (bif Nat.ble 5 pc then
  (bif Nat.ble 9 pc then
  (bif Nat.ble 12 pc then
  (bif Nat.beq 12 pc then (.invokestatic 58, 3, [(0, 139)], [[3202, 3203, 2013]], 1, 0, 0, 12) else mm_nop) else (bif Nat.beq 9 pc then (.invokestatic 36, 3, [(0, 134)], [[3172, 3173, 2013]], 1, 0, 0, 9) else mm_nop)) else (bif Nat.ble 8 pc then (.lload_n 0, 1, [], [], 0, 0, 0, 8) else (bif Nat.beq 5 pc then (.if_icmp .ne 21, 3, [(0, 26)], [], 0, 0, 0, 5) else mm_nop))) else (bif Nat.ble 1 pc then
  (bif Nat.ble 4 pc then (.iconst 4, 1, [], [], 0, 4, 0, 4) else (bif Nat.beq 1 pc then (.invokestatic 32, 3, [(0, 133)], [[3163, 3164, 2013]], 1, 0, 0, 1) else mm_nop)) else (.lload_n 0, 1, [], [], 0, 0, 0, 0))))
def mm_k139 : List mm_E := (List.range 28).map mm_f139
def mm_m139 : mm_M := (yX10_leavesOf, cX10_leavesOf, 2, (some .int), mm_k139, 1, 0, 0, 3204)
/-- TypeCopier.<init>.()V -/
def mm_f140 : Nat → mm_E := fun pc => (bif Nat.ble 87 pc then
  (bif Nat.ble 127 pc then
  (bif Nat.ble 149 pc then
  (bif Nat.ble 158 pc then
  (bif Nat.ble 167 pc then
  (bif Nat.ble 168 pc then
  (bif Nat.ble 171 pc then (.return_, 1, [], [], 0, 0, 0, 171) else (bif Nat.beq 168 pc then (.invokevirtual 79, 3, [(9, 149)], [[3046, 3048, 1000, 2001]], 0, 0, 0, 168) else mm_nop)) else (.aload_n 0, 1, [], [], 0, 0, 0, 167)) else (bif Nat.ble 161 pc then
  (bif Nat.ble 164 pc then
  (bif Nat.beq 164 pc then (.putfield 76, 3, [(9, 8)], [[3235]], 1, 0, 0, 164) else mm_nop) else (bif Nat.beq 161 pc then (.invokespecial 73, 3, [(0, 12)], [[3023, 3024, 2011]], 5, 0, 0, 161) else mm_nop)) else (bif Nat.beq 158 pc then (.getfield 44, 3, [(9, 4)], [[3231]], 0, 0, 0, 158) else mm_nop))) else (bif Nat.ble 153 pc then
  (bif Nat.ble 154 pc then
  (bif Nat.ble 157 pc then (.aload_n 0, 1, [], [], 0, 0, 0, 157) else (bif Nat.beq 154 pc then (.getfield 26, 3, [(9, 2)], [[3229]], 0, 0, 0, 154) else mm_nop)) else (.aload_n 0, 1, [], [], 0, 0, 0, 153)) else (bif Nat.ble 150 pc then
  (bif Nat.beq 150 pc then (.getfield 58, 3, [(9, 6)], [[3233]], 0, 0, 0, 150) else mm_nop) else (.aload_n 0, 1, [], [], 0, 0, 0, 149)))) else (bif Nat.ble 140 pc then
  (bif Nat.ble 142 pc then
  (bif Nat.ble 145 pc then
  (bif Nat.ble 146 pc then
  (bif Nat.beq 146 pc then (.getfield 51, 3, [(9, 5)], [[3232]], 0, 0, 0, 146) else mm_nop) else (.aload_n 0, 1, [], [], 0, 0, 0, 145)) else (bif Nat.beq 142 pc then (.getfield 19, 3, [(9, 1)], [[3228]], 0, 0, 0, 142) else mm_nop)) else (bif Nat.ble 141 pc then (.aload_n 0, 1, [], [], 0, 0, 0, 141) else (.dup, 1, [], [], 0, 0, 0, 140))) else (bif Nat.ble 133 pc then
  (bif Nat.ble 136 pc then
  (bif Nat.ble 137 pc then
  (bif Nat.beq 137 pc then (.new 71, 3, [(0, 1)], [[3021, 3022, 2011]], 0, 0, 0, 137) else mm_nop) else (.aload_n 0, 1, [], [], 0, 0, 0, 136)) else (bif Nat.beq 133 pc then (.putfield 67, 3, [(9, 7)], [[3234]], 1, 0, 0, 133) else mm_nop)) else (bif Nat.ble 130 pc then
  (bif Nat.beq 130 pc then (.invokespecial 64, 3, [(0, 55)], [[2210, 2211, 2010]], 4, 0, 0, 130) else mm_nop) else (bif Nat.beq 127 pc then (.getfield 26, 3, [(9, 2)], [[3229]], 0, 0, 0, 127) else mm_nop))))) else (bif Nat.ble 109 pc then
  (bif Nat.ble 118 pc then
  (bif Nat.ble 122 pc then
  (bif Nat.ble 123 pc then
  (bif Nat.ble 126 pc then (.aload_n 0, 1, [], [], 0, 0, 0, 126) else (bif Nat.beq 123 pc then (.getfield 58, 3, [(9, 6)], [[3233]], 0, 0, 0, 123) else mm_nop)) else (.aload_n 0, 1, [], [], 0, 0, 0, 122)) else (bif Nat.ble 119 pc then
  (bif Nat.beq 119 pc then (.getfield 51, 3, [(9, 5)], [[3232]], 0, 0, 0, 119) else mm_nop) else (.aload_n 0, 1, [], [], 0, 0, 0, 118))) else (bif Nat.ble 113 pc then
  (bif Nat.ble 114 pc then
  (bif Nat.ble 115 pc then
  (bif Nat.beq 115 pc then (.getfield 19, 3, [(9, 1)], [[3228]], 0, 0, 0, 115) else mm_nop) else (.aload_n 0, 1, [], [], 0, 0, 0, 114)) else (.dup, 1, [], [], 0, 0, 0, 113)) else (bif Nat.ble 110 pc then
  (bif Nat.beq 110 pc then (.new 62, 3, [(0, 5)], [[2208, 2209, 2010]], 0, 0, 0, 110) else mm_nop) else (.aload_n 0, 1, [], [], 0, 0, 0, 109)))) else (bif Nat.ble 98 pc then
  (bif Nat.ble 102 pc then
  (bif Nat.ble 103 pc then
  (bif Nat.ble 106 pc then
  (bif Nat.beq 106 pc then (.putfield 58, 3, [(9, 6)], [[3233]], 1, 0, 0, 106) else mm_nop) else (bif Nat.beq 103 pc then (.invokespecial 57, 3, [(1, 116)], [[2185, 2186, 2008]], 0, 0, 0, 103) else mm_nop)) else (.dup, 1, [], [], 0, 0, 0, 102)) else (bif Nat.ble 99 pc then
  (bif Nat.beq 99 pc then (.new 55, 3, [(0, 8)], [[2183, 2184, 2008]], 0, 0, 0, 99) else mm_nop) else (.aload_n 0, 1, [], [], 0, 0, 0, 98))) else (bif Nat.ble 91 pc then
  (bif Nat.ble 92 pc then
  (bif Nat.ble 95 pc then
  (bif Nat.beq 95 pc then (.putfield 51, 3, [(9, 5)], [[3232]], 1, 0, 0, 95) else mm_nop) else (bif Nat.beq 92 pc then (.invokespecial 50, 3, [(1, 34)], [[2169, 2170, 2007]], 0, 0, 0, 92) else mm_nop)) else (.dup, 1, [], [], 0, 0, 0, 91)) else (bif Nat.ble 88 pc then
  (bif Nat.beq 88 pc then (.new 48, 3, [(0, 3)], [[2167, 2168, 2007]], 0, 0, 0, 88) else mm_nop) else (.aload_n 0, 1, [], [], 0, 0, 0, 87)))))) else (bif Nat.ble 42 pc then
  (bif Nat.ble 64 pc then
  (bif Nat.ble 73 pc then
  (bif Nat.ble 78 pc then
  (bif Nat.ble 81 pc then
  (bif Nat.ble 84 pc then
  (bif Nat.beq 84 pc then (.putfield 44, 3, [(9, 4)], [[3231]], 1, 0, 0, 84) else mm_nop) else (bif Nat.beq 81 pc then (.invokespecial 41, 3, [(0, 0)], [[2121, 2122, 2006]], 4, 0, 0, 81) else mm_nop)) else (bif Nat.beq 78 pc then (.getfield 35, 3, [(9, 3)], [[3230]], 0, 0, 0, 78) else mm_nop)) else (bif Nat.ble 74 pc then
  (bif Nat.ble 77 pc then (.aload_n 0, 1, [], [], 0, 0, 0, 77) else (bif Nat.beq 74 pc then (.getfield 26, 3, [(9, 2)], [[3229]], 0, 0, 0, 74) else mm_nop)) else (.aload_n 0, 1, [], [], 0, 0, 0, 73))) else (bif Nat.ble 66 pc then
  (bif Nat.ble 69 pc then
  (bif Nat.ble 70 pc then
  (bif Nat.beq 70 pc then (.getfield 19, 3, [(9, 1)], [[3228]], 0, 0, 0, 70) else mm_nop) else (.aload_n 0, 1, [], [], 0, 0, 0, 69)) else (bif Nat.beq 66 pc then (.getfield 10, 3, [(9, 0)], [[3227]], 0, 0, 0, 66) else mm_nop)) else (bif Nat.ble 65 pc then (.aload_n 0, 1, [], [], 0, 0, 0, 65) else (.dup, 1, [], [], 0, 0, 0, 64)))) else (bif Nat.ble 51 pc then
  (bif Nat.ble 57 pc then
  (bif Nat.ble 60 pc then
  (bif Nat.ble 61 pc then
  (bif Nat.beq 61 pc then (.new 39, 3, [(0, 0)], [[2119, 2120, 2006]], 0, 0, 0, 61) else mm_nop) else (.aload_n 0, 1, [], [], 0, 0, 0, 60)) else (bif Nat.beq 57 pc then (.putfield 35, 3, [(9, 3)], [[3230]], 1, 0, 0, 57) else mm_nop)) else (bif Nat.ble 54 pc then
  (bif Nat.beq 54 pc then (.invokespecial 32, 3, [(0, 40)], [[2100, 2101, 2005]], 3, 0, 0, 54) else mm_nop) else (bif Nat.beq 51 pc then (.getfield 26, 3, [(9, 2)], [[3229]], 0, 0, 0, 51) else mm_nop))) else (bif Nat.ble 46 pc then
  (bif Nat.ble 47 pc then
  (bif Nat.ble 50 pc then (.aload_n 0, 1, [], [], 0, 0, 0, 50) else (bif Nat.beq 47 pc then (.getfield 19, 3, [(9, 1)], [[3228]], 0, 0, 0, 47) else mm_nop)) else (.aload_n 0, 1, [], [], 0, 0, 0, 46)) else (bif Nat.ble 43 pc then
  (bif Nat.beq 43 pc then (.getfield 10, 3, [(9, 0)], [[3227]], 0, 0, 0, 43) else mm_nop) else (.aload_n 0, 1, [], [], 0, 0, 0, 42))))) else (bif Nat.ble 20 pc then
  (bif Nat.ble 31 pc then
  (bif Nat.ble 37 pc then
  (bif Nat.ble 38 pc then
  (bif Nat.ble 41 pc then (.dup, 1, [], [], 0, 0, 0, 41) else (bif Nat.beq 38 pc then (.new 30, 3, [(0, 4)], [[2098, 2099, 2005]], 0, 0, 0, 38) else mm_nop)) else (.aload_n 0, 1, [], [], 0, 0, 0, 37)) else (bif Nat.ble 34 pc then
  (bif Nat.beq 34 pc then (.putfield 26, 3, [(9, 2)], [[3229]], 1, 0, 0, 34) else mm_nop) else (bif Nat.beq 31 pc then (.invokespecial 25, 3, [(1, 22)], [[2069, 2070, 2004]], 0, 0, 0, 31) else mm_nop))) else (bif Nat.ble 26 pc then
  (bif Nat.ble 27 pc then
  (bif Nat.ble 30 pc then (.dup, 1, [], [], 0, 0, 0, 30) else (bif Nat.beq 27 pc then (.new 23, 3, [(0, 2)], [[2067, 2068, 2004]], 0, 0, 0, 27) else mm_nop)) else (.aload_n 0, 1, [], [], 0, 0, 0, 26)) else (bif Nat.ble 23 pc then
  (bif Nat.beq 23 pc then (.putfield 19, 3, [(9, 1)], [[3228]], 1, 0, 0, 23) else mm_nop) else (bif Nat.beq 20 pc then (.invokespecial 18, 3, [(1, 90)], [[2040, 2041, 2003]], 0, 0, 0, 20) else mm_nop)))) else (bif Nat.ble 9 pc then
  (bif Nat.ble 15 pc then
  (bif Nat.ble 16 pc then
  (bif Nat.ble 19 pc then (.dup, 1, [], [], 0, 0, 0, 19) else (bif Nat.beq 16 pc then (.new 16, 3, [(0, 6)], [[2038, 2039, 2003]], 0, 0, 0, 16) else mm_nop)) else (.aload_n 0, 1, [], [], 0, 0, 0, 15)) else (bif Nat.ble 12 pc then
  (bif Nat.beq 12 pc then (.putfield 10, 3, [(9, 0)], [[3227]], 1, 0, 0, 12) else mm_nop) else (bif Nat.beq 9 pc then (.invokespecial 9, 3, [(0, 109)], [[2026, 2027, 2002]], 0, 0, 0, 9) else mm_nop))) else (bif Nat.ble 4 pc then
  (bif Nat.ble 5 pc then
  (bif Nat.ble 8 pc then (.dup, 1, [], [], 0, 0, 0, 8) else (bif Nat.beq 5 pc then (.new 7, 3, [(0, 7)], [[2024, 2025, 2002]], 0, 0, 0, 5) else mm_nop)) else (.aload_n 0, 1, [], [], 0, 0, 0, 4)) else (bif Nat.ble 1 pc then
  (bif Nat.beq 1 pc then (.invokespecial 1, 3, [], [[2021, 2022, 2023]], 0, 0, 0, 1) else mm_nop) else (.aload_n 0, 1, [], [], 0, 0, 0, 0)))))))
def mm_k140 : List mm_E := (List.range 172).map mm_f140
def mm_m140 : mm_M := (yX11_init, cX11_init, 1, none, mm_k140, 0, 175, 47866, 2020)
/-- TypeCopier.pair.(II)I -/
def mm_f141 : Nat → mm_E := fun pc => (bif Nat.ble 25 pc then
  (bif Nat.ble 37 pc then
  (bif Nat.ble 42 pc then
  (bif Nat.ble 48 pc then
  (bif Nat.ble 51 pc then (.ireturn, 1, [], [], 0, 0, 0, 51) else (bif Nat.beq 48 pc then (.invokevirtual 96, 3, [(7, 114)], [[4031, 4032, 4033, 2002]], 1, 0, 0, 48) else mm_nop)) else (bif Nat.ble 45 pc then
  (bif Nat.beq 45 pc then (.invokestatic 90, 3, [(0, 132)], [[4030, 3187, 2013]], 2, 0, 0, 45) else mm_nop) else (bif Nat.beq 42 pc then (.invokevirtual 86, 3, [(7, 112)], [[4029, 3218, 3219, 2002]], 1, 0, 0, 42) else mm_nop))) else (bif Nat.ble 38 pc then
  (bif Nat.ble 41 pc then (.iload_n 2, 1, [], [], 2, 0, 0, 41) else (bif Nat.beq 38 pc then (.getfield 10, 3, [(9, 0)], [[3227]], 0, 0, 0, 38) else mm_nop)) else (.aload_n 0, 1, [], [], 0, 0, 0, 37))) else (bif Nat.ble 30 pc then
  (bif Nat.ble 33 pc then
  (bif Nat.ble 34 pc then
  (bif Nat.beq 34 pc then (.invokevirtual 86, 3, [(7, 112)], [[4029, 3218, 3219, 2002]], 1, 0, 0, 34) else mm_nop) else (.iload_n 1, 1, [], [], 1, 0, 0, 33)) else (bif Nat.beq 30 pc then (.getfield 10, 3, [(9, 0)], [[3227]], 0, 0, 0, 30) else mm_nop)) else (bif Nat.ble 26 pc then
  (bif Nat.ble 29 pc then (.aload_n 0, 1, [], [], 0, 0, 0, 29) else (bif Nat.beq 26 pc then (.getfield 10, 3, [(9, 0)], [[3227]], 0, 0, 0, 26) else mm_nop)) else (.aload_n 0, 1, [], [], 0, 0, 0, 25)))) else (bif Nat.ble 12 pc then
  (bif Nat.ble 19 pc then
  (bif Nat.ble 22 pc then
  (bif Nat.ble 24 pc then (.ireturn, 1, [], [], 0, 0, 0, 24) else (bif Nat.beq 22 pc then (.bipush (-2), 2, [], [], 0, (-2), 0, 22) else mm_nop)) else (bif Nat.beq 19 pc then (.ifCond .ne 6, 3, [(0, 25)], [], 0, 0, 0, 19) else mm_nop)) else (bif Nat.ble 15 pc then
  (bif Nat.ble 16 pc then
  (bif Nat.beq 16 pc then (.invokevirtual 82, 3, [(7, 111)], [[4028, 3222, 3223, 2002]], 1, 0, 0, 16) else mm_nop) else (.iload_n 2, 1, [], [], 2, 0, 0, 15)) else (bif Nat.beq 12 pc then (.getfield 10, 3, [(9, 0)], [[3227]], 0, 0, 0, 12) else mm_nop))) else (bif Nat.ble 5 pc then
  (bif Nat.ble 8 pc then
  (bif Nat.ble 11 pc then (.aload_n 0, 1, [], [], 0, 0, 0, 11) else (bif Nat.beq 8 pc then (.ifCond .eq 14, 3, [(0, 22)], [], 0, 0, 0, 8) else mm_nop)) else (bif Nat.beq 5 pc then (.invokevirtual 82, 3, [(7, 111)], [[4028, 3222, 3223, 2002]], 1, 0, 0, 5) else mm_nop)) else (bif Nat.ble 1 pc then
  (bif Nat.ble 4 pc then (.iload_n 1, 1, [], [], 1, 0, 0, 4) else (bif Nat.beq 1 pc then (.getfield 10, 3, [(9, 0)], [[3227]], 0, 0, 0, 1) else mm_nop)) else (.aload_n 0, 1, [], [], 0, 0, 0, 0)))))
def mm_k141 : List mm_E := (List.range 52).map mm_f141
def mm_m141 : mm_M := (yX11_pair, cX11_pair, 3, (some .int), mm_k141, 2, 0, 0, 4027)
/-- TypeCopier.list.(I)I -/
def mm_f142 : Nat → mm_E := fun pc => (bif Nat.ble 15 pc then
  (bif Nat.ble 23 pc then
  (bif Nat.ble 29 pc then
  (bif Nat.ble 32 pc then (.ireturn, 1, [], [], 0, 0, 0, 32) else (bif Nat.beq 29 pc then (.invokevirtual 96, 3, [(7, 114)], [[4031, 4032, 4033, 2002]], 1, 0, 0, 29) else mm_nop)) else (bif Nat.ble 26 pc then
  (bif Nat.beq 26 pc then (.invokestatic 100, 3, [(0, 131)], [[4043, 3178, 2013]], 1, 0, 0, 26) else mm_nop) else (bif Nat.beq 23 pc then (.invokevirtual 86, 3, [(7, 112)], [[4029, 3218, 3219, 2002]], 1, 0, 0, 23) else mm_nop))) else (bif Nat.ble 19 pc then
  (bif Nat.ble 22 pc then (.iload_n 1, 1, [], [], 1, 0, 0, 22) else (bif Nat.beq 19 pc then (.getfield 10, 3, [(9, 0)], [[3227]], 0, 0, 0, 19) else mm_nop)) else (bif Nat.ble 18 pc then (.aload_n 0, 1, [], [], 0, 0, 0, 18) else (bif Nat.beq 15 pc then (.getfield 10, 3, [(9, 0)], [[3227]], 0, 0, 0, 15) else mm_nop)))) else (bif Nat.ble 8 pc then
  (bif Nat.ble 13 pc then
  (bif Nat.ble 14 pc then (.aload_n 0, 1, [], [], 0, 0, 0, 14) else (.ireturn, 1, [], [], 0, 0, 0, 13)) else (bif Nat.ble 11 pc then
  (bif Nat.beq 11 pc then (.bipush (-2), 2, [], [], 0, (-2), 0, 11) else mm_nop) else (bif Nat.beq 8 pc then (.ifCond .ne 6, 3, [(0, 14)], [], 0, 0, 0, 8) else mm_nop))) else (bif Nat.ble 4 pc then
  (bif Nat.ble 5 pc then
  (bif Nat.beq 5 pc then (.invokevirtual 82, 3, [(7, 111)], [[4028, 3222, 3223, 2002]], 1, 0, 0, 5) else mm_nop) else (.iload_n 1, 1, [], [], 1, 0, 0, 4)) else (bif Nat.ble 1 pc then
  (bif Nat.beq 1 pc then (.getfield 10, 3, [(9, 0)], [[3227]], 0, 0, 0, 1) else mm_nop) else (.aload_n 0, 1, [], [], 0, 0, 0, 0)))))
def mm_k142 : List mm_E := (List.range 33).map mm_f142
def mm_m142 : mm_M := (yX11_list, cX11_list, 2, (some .int), mm_k142, 1, 0, 0, 4042)
/-- TypeCopier.type.(II)I -/
def mm_f143 : Nat → mm_E := fun pc => (bif Nat.ble 13 pc then
  (bif Nat.ble 18 pc then
  (bif Nat.ble 20 pc then
  (bif Nat.ble 23 pc then (.ireturn, 1, [], [], 0, 0, 0, 23) else (bif Nat.beq 20 pc then (.invokevirtual 104, 3, [(7, 115)], [[4048, 4049, 4050, 2002]], 2, 0, 0, 20) else mm_nop)) else (bif Nat.ble 19 pc then (.iload_n 2, 1, [], [], 2, 0, 0, 19) else (.iload_n 1, 1, [], [], 1, 0, 0, 18))) else (bif Nat.ble 14 pc then
  (bif Nat.ble 15 pc then
  (bif Nat.beq 15 pc then (.getfield 10, 3, [(9, 0)], [[3227]], 0, 0, 0, 15) else mm_nop) else (.aload_n 0, 1, [], [], 0, 0, 0, 14)) else (.ireturn, 1, [], [], 0, 0, 0, 13))) else (bif Nat.ble 5 pc then
  (bif Nat.ble 8 pc then
  (bif Nat.ble 11 pc then
  (bif Nat.beq 11 pc then (.bipush (-2), 2, [], [], 0, (-2), 0, 11) else mm_nop) else (bif Nat.beq 8 pc then (.ifCond .ne 6, 3, [(0, 14)], [], 0, 0, 0, 8) else mm_nop)) else (bif Nat.beq 5 pc then (.invokevirtual 82, 3, [(7, 111)], [[4028, 3222, 3223, 2002]], 1, 0, 0, 5) else mm_nop)) else (bif Nat.ble 1 pc then
  (bif Nat.ble 4 pc then (.iload_n 1, 1, [], [], 1, 0, 0, 4) else (bif Nat.beq 1 pc then (.getfield 10, 3, [(9, 0)], [[3227]], 0, 0, 0, 1) else mm_nop)) else (.aload_n 0, 1, [], [], 0, 0, 0, 0))))
def mm_k143 : List mm_E := (List.range 24).map mm_f143
def mm_m143 : mm_M := (yX11_type, cX11_type, 3, (some .int), mm_k143, 2, 0, 0, 4047)
/-- TypeCopier.node.(IIIII)I -/
def mm_f144 : Nat → mm_E := fun pc => (bif Nat.ble 34 pc then
  (bif Nat.ble 51 pc then
  (bif Nat.ble 61 pc then
  (bif Nat.ble 66 pc then
  (bif Nat.ble 69 pc then
  (bif Nat.ble 71 pc then (.ireturn, 1, [], [], 0, 0, 0, 71) else (bif Nat.beq 69 pc then (.iload 6, 2, [], [], 6, 0, 0, 69) else mm_nop)) else (bif Nat.beq 66 pc then (.invokevirtual 120, 3, [(4, 41)], [[4096, 4097, 4098, 2005]], 1, 0, 0, 66) else mm_nop)) else (bif Nat.ble 64 pc then
  (bif Nat.beq 64 pc then (.iload 6, 2, [], [], 6, 0, 0, 64) else mm_nop) else (bif Nat.beq 61 pc then (.getfield 35, 3, [(9, 3)], [[3230]], 0, 0, 0, 61) else mm_nop))) else (bif Nat.ble 55 pc then
  (bif Nat.ble 57 pc then
  (bif Nat.ble 60 pc then (.aload_n 0, 1, [], [], 0, 0, 0, 60) else (bif Nat.beq 57 pc then (.if_icmp .eq 12, 3, [(0, 69)], [], 0, 0, 0, 57) else mm_nop)) else (bif Nat.beq 55 pc then (.bipush (-4), 2, [], [], 0, (-4), 0, 55) else mm_nop)) else (bif Nat.ble 53 pc then
  (bif Nat.beq 53 pc then (.iload 6, 2, [], [], 6, 0, 0, 53) else mm_nop) else (bif Nat.beq 51 pc then (.istore 6, 2, [], [], 6, 0, 0, 51) else mm_nop)))) else (bif Nat.ble 42 pc then
  (bif Nat.ble 44 pc then
  (bif Nat.ble 46 pc then
  (bif Nat.ble 48 pc then
  (bif Nat.beq 48 pc then (.invokevirtual 116, 3, [(6, 102)], [[4091, 4092, 4093, 2003]], 5, 0, 0, 48) else mm_nop) else (bif Nat.beq 46 pc then (.iload 5, 2, [], [], 5, 0, 0, 46) else mm_nop)) else (bif Nat.beq 44 pc then (.iload 4, 2, [], [], 4, 0, 0, 44) else mm_nop)) else (bif Nat.ble 43 pc then (.iload_n 3, 1, [], [], 3, 0, 0, 43) else (.iload_n 2, 1, [], [], 2, 0, 0, 42))) else (bif Nat.ble 37 pc then
  (bif Nat.ble 38 pc then
  (bif Nat.ble 41 pc then (.iload_n 1, 1, [], [], 1, 0, 0, 41) else (bif Nat.beq 38 pc then (.getfield 19, 3, [(9, 1)], [[3228]], 0, 0, 0, 38) else mm_nop)) else (.aload_n 0, 1, [], [], 0, 0, 0, 37)) else (bif Nat.ble 36 pc then (.ireturn, 1, [], [], 0, 0, 0, 36) else (bif Nat.beq 34 pc then (.bipush (-3), 2, [], [], 0, (-3), 0, 34) else mm_nop))))) else (bif Nat.ble 16 pc then
  (bif Nat.ble 23 pc then
  (bif Nat.ble 26 pc then
  (bif Nat.ble 29 pc then
  (bif Nat.ble 31 pc then
  (bif Nat.beq 31 pc then (.if_icmp .le 6, 3, [(0, 37)], [], 0, 0, 0, 31) else mm_nop) else (bif Nat.beq 29 pc then (.bipush 12, 2, [], [], 0, 12, 0, 29) else mm_nop)) else (bif Nat.beq 26 pc then (.invokevirtual 112, 3, [(6, 100)], [[4080, 4081, 4082, 2003]], 4, 0, 0, 26) else mm_nop)) else (bif Nat.ble 24 pc then
  (bif Nat.beq 24 pc then (.iload 4, 2, [], [], 4, 0, 0, 24) else mm_nop) else (.iload_n 3, 1, [], [], 3, 0, 0, 23))) else (bif Nat.ble 18 pc then
  (bif Nat.ble 21 pc then
  (bif Nat.ble 22 pc then (.iload_n 2, 1, [], [], 2, 0, 0, 22) else (.iload_n 1, 1, [], [], 1, 0, 0, 21)) else (bif Nat.beq 18 pc then (.getfield 19, 3, [(9, 1)], [[3228]], 0, 0, 0, 18) else mm_nop)) else (bif Nat.ble 17 pc then (.aload_n 0, 1, [], [], 0, 0, 0, 17) else (.ireturn, 1, [], [], 0, 0, 0, 16)))) else (bif Nat.ble 4 pc then
  (bif Nat.ble 8 pc then
  (bif Nat.ble 11 pc then
  (bif Nat.ble 14 pc then
  (bif Nat.beq 14 pc then (.bipush (-2), 2, [], [], 0, (-2), 0, 14) else mm_nop) else (bif Nat.beq 11 pc then (.ifCond .ne 6, 3, [(0, 17)], [], 0, 0, 0, 11) else mm_nop)) else (bif Nat.beq 8 pc then (.invokevirtual 108, 3, [(9, 145)], [[4063, 4065, 1010, 2001]], 5, 0, 0, 8) else mm_nop)) else (bif Nat.ble 6 pc then
  (bif Nat.beq 6 pc then (.iload 5, 2, [], [], 5, 0, 0, 6) else mm_nop) else (bif Nat.beq 4 pc then (.iload 4, 2, [], [], 4, 0, 0, 4) else mm_nop))) else (bif Nat.ble 2 pc then
  (bif Nat.ble 3 pc then (.iload_n 3, 1, [], [], 3, 0, 0, 3) else (.iload_n 2, 1, [], [], 2, 0, 0, 2)) else (bif Nat.ble 1 pc then (.iload_n 1, 1, [], [], 1, 0, 0, 1) else (.aload_n 0, 1, [], [], 0, 0, 0, 0))))))
def mm_k144 : List mm_E := (List.range 72).map mm_f144
def mm_m144 : mm_M := (yX11_node, cX11_node, 7, (some .int), mm_k144, 5, 0, 0, 4062)
/-- TypeCopier.wantedStands.(IIIII)Z -/
def mm_f145 : Nat → mm_E := fun pc => (bif Nat.ble 81 pc then
  (bif Nat.ble 106 pc then
  (bif Nat.ble 116 pc then
  (bif Nat.ble 124 pc then
  (bif Nat.ble 128 pc then
  (bif Nat.ble 129 pc then (.ireturn, 1, [], [], 0, 0, 0, 129) else (.iconst 0, 1, [], [], 0, 0, 0, 128)) else (bif Nat.ble 125 pc then
  (bif Nat.beq 125 pc then (.goto 4, 3, [(0, 129)], [], 0, 0, 0, 125) else mm_nop) else (.iconst 1, 1, [], [], 0, 1, 0, 124))) else (bif Nat.ble 118 pc then
  (bif Nat.ble 121 pc then
  (bif Nat.beq 121 pc then (.ifCond .eq 7, 3, [(0, 128)], [], 0, 0, 0, 121) else mm_nop) else (bif Nat.beq 118 pc then (.invokevirtual 132, 3, [(6, 99)], [[4076, 4077, 4078, 2003]], 4, 0, 0, 118) else mm_nop)) else (bif Nat.beq 116 pc then (.iload 4, 2, [], [], 4, 0, 0, 116) else mm_nop))) else (bif Nat.ble 113 pc then
  (bif Nat.ble 114 pc then
  (bif Nat.ble 115 pc then (.iload_n 3, 1, [], [], 3, 0, 0, 115) else (.iload_n 2, 1, [], [], 2, 0, 0, 114)) else (.iload_n 1, 1, [], [], 1, 0, 0, 113)) else (bif Nat.ble 109 pc then
  (bif Nat.ble 110 pc then
  (bif Nat.beq 110 pc then (.getfield 19, 3, [(9, 1)], [[3228]], 0, 0, 0, 110) else mm_nop) else (.aload_n 0, 1, [], [], 0, 0, 0, 109)) else (bif Nat.beq 106 pc then (.ifCond .eq 22, 3, [(0, 128)], [], 0, 0, 0, 106) else mm_nop)))) else (bif Nat.ble 93 pc then
  (bif Nat.ble 98 pc then
  (bif Nat.ble 102 pc then
  (bif Nat.ble 103 pc then
  (bif Nat.beq 103 pc then (.invokevirtual 129, 3, [(6, 93)], [[4072, 4073, 4074, 2003]], 1, 0, 0, 103) else mm_nop) else (.iload_n 1, 1, [], [], 1, 0, 0, 102)) else (bif Nat.ble 99 pc then
  (bif Nat.beq 99 pc then (.getfield 19, 3, [(9, 1)], [[3228]], 0, 0, 0, 99) else mm_nop) else (.aload_n 0, 1, [], [], 0, 0, 0, 98))) else (bif Nat.ble 96 pc then
  (bif Nat.ble 97 pc then (.ireturn, 1, [], [], 0, 0, 0, 97) else (.iconst 0, 1, [], [], 0, 0, 0, 96)) else (bif Nat.beq 93 pc then (.goto 4, 3, [(0, 97)], [], 0, 0, 0, 93) else mm_nop))) else (bif Nat.ble 86 pc then
  (bif Nat.ble 89 pc then
  (bif Nat.ble 92 pc then (.iconst 1, 1, [], [], 0, 1, 0, 92) else (bif Nat.beq 89 pc then (.ifCond .eq 7, 3, [(0, 96)], [], 0, 0, 0, 89) else mm_nop)) else (bif Nat.beq 86 pc then (.invokevirtual 125, 3, [(9, 146)], [[4068, 4070, 1011, 2001]], 2, 0, 0, 86) else mm_nop)) else (bif Nat.ble 82 pc then
  (bif Nat.ble 84 pc then
  (bif Nat.beq 84 pc then (.iload 5, 2, [], [], 5, 0, 0, 84) else mm_nop) else (bif Nat.beq 82 pc then (.iload 4, 2, [], [], 4, 0, 0, 82) else mm_nop)) else (.aload_n 0, 1, [], [], 0, 0, 0, 81))))) else (bif Nat.ble 55 pc then
  (bif Nat.ble 65 pc then
  (bif Nat.ble 71 pc then
  (bif Nat.ble 75 pc then
  (bif Nat.ble 78 pc then
  (bif Nat.beq 78 pc then (.ifCond .eq 18, 3, [(0, 96)], [], 0, 0, 0, 78) else mm_nop) else (bif Nat.beq 75 pc then (.invokevirtual 124, 3, [(6, 92)], [[4067, 3084, 3085, 2003]], 1, 0, 0, 75) else mm_nop)) else (bif Nat.ble 74 pc then (.iload_n 3, 1, [], [], 3, 0, 0, 74) else (bif Nat.beq 71 pc then (.getfield 19, 3, [(9, 1)], [[3228]], 0, 0, 0, 71) else mm_nop))) else (bif Nat.ble 67 pc then
  (bif Nat.ble 70 pc then (.aload_n 0, 1, [], [], 0, 0, 0, 70) else (bif Nat.beq 67 pc then (.if_icmp .ge 29, 3, [(0, 96)], [], 0, 0, 0, 67) else mm_nop)) else (bif Nat.beq 65 pc then (.bipush 12, 2, [], [], 0, 12, 0, 65) else mm_nop))) else (bif Nat.ble 60 pc then
  (bif Nat.ble 61 pc then
  (bif Nat.ble 64 pc then (.iload_n 2, 1, [], [], 2, 0, 0, 64) else (bif Nat.beq 61 pc then (.ifCond .lt 35, 3, [(0, 96)], [], 0, 0, 0, 61) else mm_nop)) else (.iload_n 2, 1, [], [], 2, 0, 0, 60)) else (bif Nat.ble 56 pc then
  (bif Nat.ble 59 pc then (.ireturn, 1, [], [], 0, 0, 0, 59) else (bif Nat.beq 56 pc then (.invokevirtual 82, 3, [(7, 111)], [[4028, 3222, 3223, 2002]], 1, 0, 0, 56) else mm_nop)) else (.iload_n 2, 1, [], [], 2, 0, 0, 55)))) else (bif Nat.ble 42 pc then
  (bif Nat.ble 49 pc then
  (bif Nat.ble 51 pc then
  (bif Nat.ble 52 pc then
  (bif Nat.beq 52 pc then (.getfield 10, 3, [(9, 0)], [[3227]], 0, 0, 0, 52) else mm_nop) else (.aload_n 0, 1, [], [], 0, 0, 0, 51)) else (bif Nat.ble 50 pc then (.ireturn, 1, [], [], 0, 0, 0, 50) else (.iconst 0, 1, [], [], 0, 0, 0, 49))) else (bif Nat.ble 45 pc then
  (bif Nat.ble 46 pc then
  (bif Nat.beq 46 pc then (.goto 4, 3, [(0, 50)], [], 0, 0, 0, 46) else mm_nop) else (.iconst 1, 1, [], [], 0, 1, 0, 45)) else (bif Nat.beq 42 pc then (.if_icmp .ne 7, 3, [(0, 49)], [], 0, 0, 0, 42) else mm_nop))) else (bif Nat.ble 37 pc then
  (bif Nat.ble 40 pc then
  (bif Nat.ble 41 pc then (.iconst 1, 1, [], [], 0, 1, 0, 41) else (.iload_n 2, 1, [], [], 2, 0, 0, 40)) else (bif Nat.beq 37 pc then (.ifCond .eq 8, 3, [(0, 45)], [], 0, 0, 0, 37) else mm_nop)) else (bif Nat.ble 1 pc then
  (bif Nat.ble 36 pc then (.iload_n 2, 1, [], [], 2, 0, 0, 36) else (bif Nat.beq 1 pc then (.lookupswitch 97 #[(1, 35), (9, 50), (14, 59)], 35, [(0, 98), (1, 36), (9, 51), (14, 60)], [], 0, 0, 0, 1) else mm_nop)) else (.iload_n 1, 1, [], [], 1, 0, 0, 0))))))
def mm_k145 : List mm_E := (List.range 130).map mm_f145
def mm_m145 : mm_M := (yX11_wantedStands, cX11_wantedStands, 6, (some .boolean), mm_k145, 5, 0, 0, 4066)
/-- TypeCopier.callTypesStand.(II)Z -/
def mm_f146 : Nat → mm_E := fun pc => (bif Nat.ble 21 pc then
  (bif Nat.ble 36 pc then
  (bif Nat.ble 43 pc then
  (bif Nat.ble 47 pc then
  (bif Nat.ble 48 pc then (.ireturn, 1, [], [], 0, 0, 0, 48) else (.iconst 0, 1, [], [], 0, 0, 0, 47)) else (bif Nat.ble 44 pc then
  (bif Nat.beq 44 pc then (.goto 4, 3, [(0, 48)], [], 0, 0, 0, 44) else mm_nop) else (.iconst 1, 1, [], [], 0, 1, 0, 43))) else (bif Nat.ble 37 pc then
  (bif Nat.ble 40 pc then
  (bif Nat.beq 40 pc then (.ifCond .eq 7, 3, [(0, 47)], [], 0, 0, 0, 40) else mm_nop) else (bif Nat.beq 37 pc then (.invokevirtual 82, 3, [(7, 111)], [[4028, 3222, 3223, 2002]], 1, 0, 0, 37) else mm_nop)) else (.iload_n 2, 1, [], [], 2, 0, 0, 36))) else (bif Nat.ble 28 pc then
  (bif Nat.ble 32 pc then
  (bif Nat.ble 33 pc then
  (bif Nat.beq 33 pc then (.getfield 10, 3, [(9, 0)], [[3227]], 0, 0, 0, 33) else mm_nop) else (.aload_n 0, 1, [], [], 0, 0, 0, 32)) else (bif Nat.ble 29 pc then
  (bif Nat.beq 29 pc then (.if_icmp .eq 14, 3, [(0, 43)], [], 0, 0, 0, 29) else mm_nop) else (.iconst (-1), 1, [], [], 0, (-1), 0, 28))) else (bif Nat.ble 24 pc then
  (bif Nat.ble 27 pc then (.iload_n 2, 1, [], [], 2, 0, 0, 27) else (bif Nat.beq 24 pc then (.ifCond .eq 23, 3, [(0, 47)], [], 0, 0, 0, 24) else mm_nop)) else (bif Nat.beq 21 pc then (.invokevirtual 82, 3, [(7, 111)], [[4028, 3222, 3223, 2002]], 1, 0, 0, 21) else mm_nop)))) else (bif Nat.ble 10 pc then
  (bif Nat.ble 15 pc then
  (bif Nat.ble 17 pc then
  (bif Nat.ble 20 pc then (.iload_n 1, 1, [], [], 1, 0, 0, 20) else (bif Nat.beq 17 pc then (.getfield 10, 3, [(9, 0)], [[3227]], 0, 0, 0, 17) else mm_nop)) else (bif Nat.ble 16 pc then (.aload_n 0, 1, [], [], 0, 0, 0, 16) else (.ireturn, 1, [], [], 0, 0, 0, 15))) else (bif Nat.ble 11 pc then
  (bif Nat.ble 14 pc then (.iconst 0, 1, [], [], 0, 0, 0, 14) else (bif Nat.beq 11 pc then (.goto 4, 3, [(0, 15)], [], 0, 0, 0, 11) else mm_nop)) else (.iconst 1, 1, [], [], 0, 1, 0, 10))) else (bif Nat.ble 5 pc then
  (bif Nat.ble 6 pc then
  (bif Nat.ble 7 pc then
  (bif Nat.beq 7 pc then (.if_icmp .ne 7, 3, [(0, 14)], [], 0, 0, 0, 7) else mm_nop) else (.iconst (-1), 1, [], [], 0, (-1), 0, 6)) else (.iload_n 2, 1, [], [], 2, 0, 0, 5)) else (bif Nat.ble 1 pc then
  (bif Nat.ble 2 pc then
  (bif Nat.beq 2 pc then (.if_icmp .ne 14, 3, [(0, 16)], [], 0, 0, 0, 2) else mm_nop) else (.iconst (-1), 1, [], [], 0, (-1), 0, 1)) else (.iload_n 1, 1, [], [], 1, 0, 0, 0)))))
def mm_k146 : List mm_E := (List.range 49).map mm_f146
def mm_m146 : mm_M := (yX11_callTypesStand, cX11_callTypesStand, 3, (some .boolean), mm_k146, 2, 0, 0, 4071)
/-- TypeCopier.function.(III)I -/
def mm_f147 : Nat → mm_E := fun pc => (bif Nat.ble 66 pc then
  (bif Nat.ble 98 pc then
  (bif Nat.ble 114 pc then
  (bif Nat.ble 125 pc then
  (bif Nat.ble 129 pc then
  (bif Nat.ble 132 pc then
  (bif Nat.ble 134 pc then (.ireturn, 1, [], [], 0, 0, 0, 134) else (bif Nat.beq 132 pc then (.iload 8, 2, [], [], 8, 0, 0, 132) else mm_nop)) else (bif Nat.beq 129 pc then (.invokevirtual 79, 3, [(9, 149)], [[3046, 3048, 1000, 2001]], 0, 0, 0, 129) else mm_nop)) else (bif Nat.ble 128 pc then (.aload_n 0, 1, [], [], 0, 0, 0, 128) else (bif Nat.beq 125 pc then (.goto (-24), 3, [(0, 101)], [], 0, 0, 0, 125) else mm_nop))) else (bif Nat.ble 119 pc then
  (bif Nat.ble 122 pc then
  (bif Nat.beq 122 pc then (.iinc 9 1, 3, [], [], 9, 1, 0, 122) else mm_nop) else (bif Nat.beq 119 pc then (.invokevirtual 120, 3, [(4, 41)], [[4096, 4097, 4098, 2005]], 1, 0, 0, 119) else mm_nop)) else (bif Nat.ble 117 pc then
  (bif Nat.beq 117 pc then (.iload 9, 2, [], [], 9, 0, 0, 117) else mm_nop) else (bif Nat.beq 114 pc then (.getfield 35, 3, [(9, 3)], [[3230]], 0, 0, 0, 114) else mm_nop)))) else (bif Nat.ble 104 pc then
  (bif Nat.ble 110 pc then
  (bif Nat.ble 113 pc then (.aload_n 0, 1, [], [], 0, 0, 0, 113) else (bif Nat.beq 110 pc then (.if_icmp .ge 18, 3, [(0, 128)], [], 0, 0, 0, 110) else mm_nop)) else (bif Nat.ble 107 pc then
  (bif Nat.beq 107 pc then (.invokevirtual 143, 3, [(6, 91)], [[4150, 4151, 4152, 2003]], 0, 0, 0, 107) else mm_nop) else (bif Nat.beq 104 pc then (.getfield 19, 3, [(9, 1)], [[3228]], 0, 0, 0, 104) else mm_nop))) else (bif Nat.ble 101 pc then
  (bif Nat.ble 103 pc then (.aload_n 0, 1, [], [], 0, 0, 0, 103) else (bif Nat.beq 101 pc then (.iload 9, 2, [], [], 9, 0, 0, 101) else mm_nop)) else (bif Nat.ble 99 pc then
  (bif Nat.beq 99 pc then (.istore 9, 2, [], [], 9, 0, 0, 99) else mm_nop) else (.iconst 0, 1, [], [], 0, 0, 0, 98))))) else (bif Nat.ble 81 pc then
  (bif Nat.ble 89 pc then
  (bif Nat.ble 93 pc then
  (bif Nat.ble 95 pc then
  (bif Nat.beq 95 pc then (.if_icmp .eq 37, 3, [(0, 132)], [], 0, 0, 0, 95) else mm_nop) else (bif Nat.beq 93 pc then (.bipush (-4), 2, [], [], 0, (-4), 0, 93) else mm_nop)) else (bif Nat.ble 91 pc then
  (bif Nat.beq 91 pc then (.iload 8, 2, [], [], 8, 0, 0, 91) else mm_nop) else (bif Nat.beq 89 pc then (.istore 8, 2, [], [], 8, 0, 0, 89) else mm_nop))) else (bif Nat.ble 84 pc then
  (bif Nat.ble 86 pc then
  (bif Nat.beq 86 pc then (.invokevirtual 140, 3, [(2, 30)], [[4146, 4147, 4148, 2004]], 5, 0, 0, 86) else mm_nop) else (bif Nat.beq 84 pc then (.lload 6, 2, [], [], 6, 0, 0, 84) else mm_nop)) else (bif Nat.ble 82 pc then
  (bif Nat.beq 82 pc then (.lload 4, 2, [], [], 4, 0, 0, 82) else mm_nop) else (.iload_n 3, 1, [], [], 3, 0, 0, 81)))) else (bif Nat.ble 75 pc then
  (bif Nat.ble 79 pc then
  (bif Nat.ble 80 pc then (.iload_n 2, 1, [], [], 2, 0, 0, 80) else (.iload_n 1, 1, [], [], 1, 0, 0, 79)) else (bif Nat.ble 76 pc then
  (bif Nat.beq 76 pc then (.getfield 26, 3, [(9, 2)], [[3229]], 0, 0, 0, 76) else mm_nop) else (.aload_n 0, 1, [], [], 0, 0, 0, 75))) else (bif Nat.ble 72 pc then
  (bif Nat.ble 74 pc then (.ireturn, 1, [], [], 0, 0, 0, 74) else (bif Nat.beq 72 pc then (.bipush (-2), 2, [], [], 0, (-2), 0, 72) else mm_nop)) else (bif Nat.ble 69 pc then
  (bif Nat.beq 69 pc then (.ifCond .ne 6, 3, [(0, 75)], [], 0, 0, 0, 69) else mm_nop) else (bif Nat.beq 66 pc then (.invokestatic 136, 3, [(0, 29)], [[4145, 4124, 2004]], 2, 0, 0, 66) else mm_nop)))))) else (bif Nat.ble 33 pc then
  (bif Nat.ble 48 pc then
  (bif Nat.ble 55 pc then
  (bif Nat.ble 60 pc then
  (bif Nat.ble 63 pc then
  (bif Nat.ble 64 pc then
  (bif Nat.beq 64 pc then (.lload 6, 2, [], [], 6, 0, 0, 64) else mm_nop) else (.iload_n 1, 1, [], [], 1, 0, 0, 63)) else (bif Nat.beq 60 pc then (.ifCond .eq 12, 3, [(0, 72)], [], 0, 0, 0, 60) else mm_nop)) else (bif Nat.ble 57 pc then
  (bif Nat.beq 57 pc then (.invokestatic 136, 3, [(0, 29)], [[4145, 4124, 2004]], 2, 0, 0, 57) else mm_nop) else (bif Nat.beq 55 pc then (.lload 4, 2, [], [], 4, 0, 0, 55) else mm_nop))) else (bif Nat.ble 52 pc then
  (bif Nat.ble 54 pc then (.iload_n 1, 1, [], [], 1, 0, 0, 54) else (bif Nat.beq 52 pc then (.lstore 6, 2, [], [], 6, 0, 0, 52) else mm_nop)) else (bif Nat.ble 49 pc then
  (bif Nat.beq 49 pc then (.invokevirtual 86, 3, [(7, 112)], [[4029, 3218, 3219, 2002]], 1, 0, 0, 49) else mm_nop) else (.iload_n 3, 1, [], [], 3, 0, 0, 48)))) else (bif Nat.ble 39 pc then
  (bif Nat.ble 44 pc then
  (bif Nat.ble 45 pc then
  (bif Nat.beq 45 pc then (.getfield 10, 3, [(9, 0)], [[3227]], 0, 0, 0, 45) else mm_nop) else (.aload_n 0, 1, [], [], 0, 0, 0, 44)) else (bif Nat.ble 42 pc then
  (bif Nat.beq 42 pc then (.lstore 4, 2, [], [], 4, 0, 0, 42) else mm_nop) else (bif Nat.beq 39 pc then (.invokevirtual 86, 3, [(7, 112)], [[4029, 3218, 3219, 2002]], 1, 0, 0, 39) else mm_nop))) else (bif Nat.ble 35 pc then
  (bif Nat.ble 38 pc then (.iload_n 2, 1, [], [], 2, 0, 0, 38) else (bif Nat.beq 35 pc then (.getfield 10, 3, [(9, 0)], [[3227]], 0, 0, 0, 35) else mm_nop)) else (bif Nat.ble 34 pc then (.aload_n 0, 1, [], [], 0, 0, 0, 34) else (.ireturn, 1, [], [], 0, 0, 0, 33))))) else (bif Nat.ble 14 pc then
  (bif Nat.ble 24 pc then
  (bif Nat.ble 28 pc then
  (bif Nat.ble 31 pc then
  (bif Nat.beq 31 pc then (.bipush (-2), 2, [], [], 0, (-2), 0, 31) else mm_nop) else (bif Nat.beq 28 pc then (.ifCond .ne 6, 3, [(0, 34)], [], 0, 0, 0, 28) else mm_nop)) else (bif Nat.ble 25 pc then
  (bif Nat.beq 25 pc then (.invokevirtual 82, 3, [(7, 111)], [[4028, 3222, 3223, 2002]], 1, 0, 0, 25) else mm_nop) else (.iload_n 3, 1, [], [], 3, 0, 0, 24))) else (bif Nat.ble 20 pc then
  (bif Nat.ble 21 pc then
  (bif Nat.beq 21 pc then (.getfield 10, 3, [(9, 0)], [[3227]], 0, 0, 0, 21) else mm_nop) else (.aload_n 0, 1, [], [], 0, 0, 0, 20)) else (bif Nat.ble 17 pc then
  (bif Nat.beq 17 pc then (.ifCond .eq 14, 3, [(0, 31)], [], 0, 0, 0, 17) else mm_nop) else (bif Nat.beq 14 pc then (.invokevirtual 82, 3, [(7, 111)], [[4028, 3222, 3223, 2002]], 1, 0, 0, 14) else mm_nop)))) else (bif Nat.ble 6 pc then
  (bif Nat.ble 10 pc then
  (bif Nat.ble 13 pc then (.iload_n 2, 1, [], [], 2, 0, 0, 13) else (bif Nat.beq 10 pc then (.getfield 10, 3, [(9, 0)], [[3227]], 0, 0, 0, 10) else mm_nop)) else (bif Nat.ble 9 pc then (.aload_n 0, 1, [], [], 0, 0, 0, 9) else (bif Nat.beq 6 pc then (.if_icmp .gt 25, 3, [(0, 31)], [], 0, 0, 0, 6) else mm_nop))) else (bif Nat.ble 4 pc then
  (bif Nat.ble 5 pc then (.iconst 2, 1, [], [], 0, 2, 0, 5) else (.iload_n 1, 1, [], [], 1, 0, 0, 4)) else (bif Nat.ble 1 pc then
  (bif Nat.beq 1 pc then (.ifCond .lt 30, 3, [(0, 31)], [], 0, 0, 0, 1) else mm_nop) else (.iload_n 1, 1, [], [], 1, 0, 0, 0)))))))
def mm_k147 : List mm_E := (List.range 135).map mm_f147
def mm_m147 : mm_M := (yX11_function, cX11_function, 10, (some .int), mm_k147, 3, 0, 0, 4144)
/-- TypeCopier.body.(II)I -/
def mm_f148 : Nat → mm_E := fun pc => (bif Nat.ble 25 pc then
  (bif Nat.ble 35 pc then
  (bif Nat.ble 42 pc then
  (bif Nat.ble 46 pc then
  (bif Nat.ble 47 pc then (.ireturn, 1, [], [], 0, 0, 0, 47) else (.iconst 1, 1, [], [], 0, 1, 0, 46)) else (bif Nat.ble 43 pc then
  (bif Nat.beq 43 pc then (.invokevirtual 79, 3, [(9, 149)], [[3046, 3048, 1000, 2001]], 0, 0, 0, 43) else mm_nop) else (.aload_n 0, 1, [], [], 0, 0, 0, 42))) else (bif Nat.ble 36 pc then
  (bif Nat.ble 39 pc then
  (bif Nat.beq 39 pc then (.invokevirtual 152, 3, [(2, 31)], [[4167, 4168, 4169, 2004]], 3, 0, 0, 39) else mm_nop) else (bif Nat.beq 36 pc then (.invokevirtual 148, 3, [(6, 105)], [[4159, 4160, 4161, 2003]], 1, 0, 0, 36) else mm_nop)) else (.iload_n 2, 1, [], [], 2, 0, 0, 35))) else (bif Nat.ble 30 pc then
  (bif Nat.ble 31 pc then
  (bif Nat.ble 32 pc then
  (bif Nat.beq 32 pc then (.getfield 19, 3, [(9, 1)], [[3228]], 0, 0, 0, 32) else mm_nop) else (.aload_n 0, 1, [], [], 0, 0, 0, 31)) else (.iload_n 2, 1, [], [], 2, 0, 0, 30)) else (bif Nat.ble 26 pc then
  (bif Nat.ble 29 pc then (.iload_n 1, 1, [], [], 1, 0, 0, 29) else (bif Nat.beq 26 pc then (.getfield 26, 3, [(9, 2)], [[3229]], 0, 0, 0, 26) else mm_nop)) else (.aload_n 0, 1, [], [], 0, 0, 0, 25)))) else (bif Nat.ble 12 pc then
  (bif Nat.ble 19 pc then
  (bif Nat.ble 22 pc then
  (bif Nat.ble 24 pc then (.ireturn, 1, [], [], 0, 0, 0, 24) else (bif Nat.beq 22 pc then (.bipush (-2), 2, [], [], 0, (-2), 0, 22) else mm_nop)) else (bif Nat.beq 19 pc then (.ifCond .ne 6, 3, [(0, 25)], [], 0, 0, 0, 19) else mm_nop)) else (bif Nat.ble 15 pc then
  (bif Nat.ble 16 pc then
  (bif Nat.beq 16 pc then (.invokevirtual 124, 3, [(6, 92)], [[4067, 3084, 3085, 2003]], 1, 0, 0, 16) else mm_nop) else (.iload_n 2, 1, [], [], 2, 0, 0, 15)) else (bif Nat.beq 12 pc then (.getfield 19, 3, [(9, 1)], [[3228]], 0, 0, 0, 12) else mm_nop))) else (bif Nat.ble 5 pc then
  (bif Nat.ble 8 pc then
  (bif Nat.ble 11 pc then (.aload_n 0, 1, [], [], 0, 0, 0, 11) else (bif Nat.beq 8 pc then (.ifCond .eq 14, 3, [(0, 22)], [], 0, 0, 0, 8) else mm_nop)) else (bif Nat.beq 5 pc then (.invokevirtual 147, 3, [(2, 24)], [[4158, 3055, 3056, 2004]], 1, 0, 0, 5) else mm_nop)) else (bif Nat.ble 1 pc then
  (bif Nat.ble 4 pc then (.iload_n 1, 1, [], [], 1, 0, 0, 4) else (bif Nat.beq 1 pc then (.getfield 26, 3, [(9, 2)], [[3229]], 0, 0, 0, 1) else mm_nop)) else (.aload_n 0, 1, [], [], 0, 0, 0, 0)))))
def mm_k148 : List mm_E := (List.range 48).map mm_f148
def mm_m148 : mm_M := (yX11_body, cX11_body, 3, (some .int), mm_k148, 2, 0, 0, 4157)
/-- TypeCopier.judgeAnew.()V -/
def mm_f149 : Nat → mm_E := fun pc => (bif Nat.ble 16 pc then
  (bif Nat.ble 26 pc then
  (bif Nat.ble 31 pc then
  (bif Nat.ble 34 pc then (.return_, 1, [], [], 0, 0, 0, 34) else (bif Nat.beq 31 pc then (.putfield 166, 3, [(9, 10)], [[3237]], 0, 0, 0, 31) else mm_nop)) else (bif Nat.ble 29 pc then
  (bif Nat.beq 29 pc then (.bipush (-3), 2, [], [], 0, (-3), 0, 29) else mm_nop) else (bif Nat.beq 26 pc then (.goto 5, 3, [(0, 31)], [], 0, 0, 0, 26) else mm_nop))) else (bif Nat.ble 20 pc then
  (bif Nat.ble 23 pc then
  (bif Nat.beq 23 pc then (.invokevirtual 163, 3, [(0, 1)], [[3139, 3140, 3141, 2006]], 0, 0, 0, 23) else mm_nop) else (bif Nat.beq 20 pc then (.getfield 44, 3, [(9, 4)], [[3231]], 0, 0, 0, 20) else mm_nop)) else (bif Nat.ble 19 pc then (.aload_n 0, 1, [], [], 0, 0, 0, 19) else (bif Nat.beq 16 pc then (.ifCond .ne 13, 3, [(0, 29)], [], 0, 0, 0, 16) else mm_nop)))) else (bif Nat.ble 8 pc then
  (bif Nat.ble 12 pc then
  (bif Nat.ble 13 pc then
  (bif Nat.beq 13 pc then (.getfield 159, 3, [(9, 9)], [[3236]], 0, 0, 0, 13) else mm_nop) else (.aload_n 0, 1, [], [], 0, 0, 0, 12)) else (bif Nat.ble 11 pc then (.aload_n 0, 1, [], [], 0, 0, 0, 11) else (bif Nat.beq 8 pc then (.putfield 159, 3, [(9, 9)], [[3236]], 0, 0, 0, 8) else mm_nop))) else (bif Nat.ble 2 pc then
  (bif Nat.ble 5 pc then
  (bif Nat.beq 5 pc then (.invokevirtual 156, 3, [(4, 50)], [[3050, 3051, 3052, 2005]], 0, 0, 0, 5) else mm_nop) else (bif Nat.beq 2 pc then (.getfield 35, 3, [(9, 3)], [[3230]], 0, 0, 0, 2) else mm_nop)) else (bif Nat.ble 1 pc then (.aload_n 0, 1, [], [], 0, 0, 0, 1) else (.aload_n 0, 1, [], [], 0, 0, 0, 0)))))
def mm_k149 : List mm_E := (List.range 35).map mm_f149
def mm_m149 : mm_M := (yX11_judgeAnew, cX11_judgeAnew, 1, none, mm_k149, 0, 0, 0, 3049)
/-- TypeCopier.typeIn.(II)I -/
def mm_f150 : Nat → mm_E := fun pc => (bif Nat.ble 22 pc then
  (bif Nat.ble 30 pc then
  (bif Nat.ble 35 pc then
  (bif Nat.ble 38 pc then
  (bif Nat.ble 41 pc then (.ireturn, 1, [], [], 0, 0, 0, 41) else (bif Nat.beq 38 pc then (.invokevirtual 173, 3, [(7, 113)], [[4176, 4036, 4037, 2002]], 1, 0, 0, 38) else mm_nop)) else (bif Nat.beq 35 pc then (.invokevirtual 169, 3, [(4, 43)], [[4175, 3080, 3081, 2005]], 2, 0, 0, 35) else mm_nop)) else (bif Nat.ble 33 pc then
  (bif Nat.ble 34 pc then (.iload_n 2, 1, [], [], 2, 0, 0, 34) else (.iload_n 1, 1, [], [], 1, 0, 0, 33)) else (bif Nat.beq 30 pc then (.getfield 35, 3, [(9, 3)], [[3230]], 0, 0, 0, 30) else mm_nop))) else (bif Nat.ble 25 pc then
  (bif Nat.ble 26 pc then
  (bif Nat.ble 29 pc then (.aload_n 0, 1, [], [], 0, 0, 0, 29) else (bif Nat.beq 26 pc then (.getfield 10, 3, [(9, 0)], [[3227]], 0, 0, 0, 26) else mm_nop)) else (.aload_n 0, 1, [], [], 0, 0, 0, 25)) else (bif Nat.ble 24 pc then (.ireturn, 1, [], [], 0, 0, 0, 24) else (bif Nat.beq 22 pc then (.bipush (-2), 2, [], [], 0, (-2), 0, 22) else mm_nop)))) else (bif Nat.ble 11 pc then
  (bif Nat.ble 15 pc then
  (bif Nat.ble 16 pc then
  (bif Nat.ble 19 pc then
  (bif Nat.beq 19 pc then (.ifCond .ne 6, 3, [(0, 25)], [], 0, 0, 0, 19) else mm_nop) else (bif Nat.beq 16 pc then (.invokevirtual 124, 3, [(6, 92)], [[4067, 3084, 3085, 2003]], 1, 0, 0, 16) else mm_nop)) else (.iload_n 2, 1, [], [], 2, 0, 0, 15)) else (bif Nat.ble 12 pc then
  (bif Nat.beq 12 pc then (.getfield 19, 3, [(9, 1)], [[3228]], 0, 0, 0, 12) else mm_nop) else (.aload_n 0, 1, [], [], 0, 0, 0, 11))) else (bif Nat.ble 4 pc then
  (bif Nat.ble 5 pc then
  (bif Nat.ble 8 pc then
  (bif Nat.beq 8 pc then (.ifCond .eq 14, 3, [(0, 22)], [], 0, 0, 0, 8) else mm_nop) else (bif Nat.beq 5 pc then (.invokevirtual 147, 3, [(2, 24)], [[4158, 3055, 3056, 2004]], 1, 0, 0, 5) else mm_nop)) else (.iload_n 1, 1, [], [], 1, 0, 0, 4)) else (bif Nat.ble 1 pc then
  (bif Nat.beq 1 pc then (.getfield 26, 3, [(9, 2)], [[3229]], 0, 0, 0, 1) else mm_nop) else (.aload_n 0, 1, [], [], 0, 0, 0, 0)))))
def mm_k150 : List mm_E := (List.range 42).map mm_f150
def mm_m150 : mm_M := (yX11_typeIn, cX11_typeIn, 3, (some .int), mm_k150, 2, 0, 0, 4174)
/-- TypeCopier.wrong.(I)I -/
def mm_f151 : Nat → mm_E := fun pc => (bif Nat.ble 19 pc then
  (bif Nat.ble 29 pc then
  (bif Nat.ble 33 pc then
  (bif Nat.ble 34 pc then
  (bif Nat.ble 37 pc then (.ireturn, 1, [], [], 0, 0, 0, 37) else (bif Nat.beq 34 pc then (.invokevirtual 179, 3, [(4, 49)], [[4182, 4183, 4184, 2005]], 1, 0, 0, 34) else mm_nop)) else (.iload_n 1, 1, [], [], 1, 0, 0, 33)) else (bif Nat.ble 30 pc then
  (bif Nat.beq 30 pc then (.getfield 35, 3, [(9, 3)], [[3230]], 0, 0, 0, 30) else mm_nop) else (.aload_n 0, 1, [], [], 0, 0, 0, 29))) else (bif Nat.ble 23 pc then
  (bif Nat.ble 26 pc then
  (bif Nat.ble 28 pc then (.ireturn, 1, [], [], 0, 0, 0, 28) else (bif Nat.beq 26 pc then (.bipush (-3), 2, [], [], 0, (-3), 0, 26) else mm_nop)) else (bif Nat.beq 23 pc then (.if_icmp .ne 6, 3, [(0, 29)], [], 0, 0, 0, 23) else mm_nop)) else (bif Nat.ble 22 pc then (.iconst (-1), 1, [], [], 0, (-1), 0, 22) else (bif Nat.beq 19 pc then (.invokevirtual 176, 3, [(2, 28)], [[4181, 3072, 3073, 2004]], 1, 0, 0, 19) else mm_nop)))) else (bif Nat.ble 11 pc then
  (bif Nat.ble 14 pc then
  (bif Nat.ble 15 pc then
  (bif Nat.ble 18 pc then (.iload_n 1, 1, [], [], 1, 0, 0, 18) else (bif Nat.beq 15 pc then (.getfield 26, 3, [(9, 2)], [[3229]], 0, 0, 0, 15) else mm_nop)) else (.aload_n 0, 1, [], [], 0, 0, 0, 14)) else (bif Nat.ble 13 pc then (.ireturn, 1, [], [], 0, 0, 0, 13) else (bif Nat.beq 11 pc then (.bipush (-2), 2, [], [], 0, (-2), 0, 11) else mm_nop))) else (bif Nat.ble 4 pc then
  (bif Nat.ble 5 pc then
  (bif Nat.ble 8 pc then
  (bif Nat.beq 8 pc then (.ifCond .ne 6, 3, [(0, 14)], [], 0, 0, 0, 8) else mm_nop) else (bif Nat.beq 5 pc then (.invokevirtual 147, 3, [(2, 24)], [[4158, 3055, 3056, 2004]], 1, 0, 0, 5) else mm_nop)) else (.iload_n 1, 1, [], [], 1, 0, 0, 4)) else (bif Nat.ble 1 pc then
  (bif Nat.beq 1 pc then (.getfield 26, 3, [(9, 2)], [[3229]], 0, 0, 0, 1) else mm_nop) else (.aload_n 0, 1, [], [], 0, 0, 0, 0)))))
def mm_k151 : List mm_E := (List.range 38).map mm_f151
def mm_m151 : mm_M := (yX11_wrong, cX11_wrong, 2, (some .int), mm_k151, 1, 0, 0, 4180)
/-- TypeCopier.reaches.(II)I -/
def mm_f152 : Nat → mm_E := fun pc => (bif Nat.ble 22 pc then
  (bif Nat.ble 30 pc then
  (bif Nat.ble 35 pc then
  (bif Nat.ble 36 pc then
  (bif Nat.ble 37 pc then (.ireturn, 1, [], [], 0, 0, 0, 37) else (.iand, 1, [], [], 0, 0, 0, 36)) else (.iconst 1, 1, [], [], 0, 1, 0, 35)) else (bif Nat.ble 33 pc then
  (bif Nat.ble 34 pc then (.ishr, 1, [], [], 0, 0, 0, 34) else (.iload_n 2, 1, [], [], 2, 0, 0, 33)) else (bif Nat.beq 30 pc then (.invokevirtual 182, 3, [(2, 32)], [[4190, 3064, 3065, 2004]], 1, 0, 0, 30) else mm_nop))) else (bif Nat.ble 25 pc then
  (bif Nat.ble 26 pc then
  (bif Nat.ble 29 pc then (.iload_n 1, 1, [], [], 1, 0, 0, 29) else (bif Nat.beq 26 pc then (.getfield 26, 3, [(9, 2)], [[3229]], 0, 0, 0, 26) else mm_nop)) else (.aload_n 0, 1, [], [], 0, 0, 0, 25)) else (bif Nat.ble 24 pc then (.ireturn, 1, [], [], 0, 0, 0, 24) else (bif Nat.beq 22 pc then (.bipush (-2), 2, [], [], 0, (-2), 0, 22) else mm_nop)))) else (bif Nat.ble 11 pc then
  (bif Nat.ble 15 pc then
  (bif Nat.ble 16 pc then
  (bif Nat.ble 19 pc then
  (bif Nat.beq 19 pc then (.ifCond .ne 6, 3, [(0, 25)], [], 0, 0, 0, 19) else mm_nop) else (bif Nat.beq 16 pc then (.invokevirtual 147, 3, [(2, 24)], [[4158, 3055, 3056, 2004]], 1, 0, 0, 16) else mm_nop)) else (.iload_n 2, 1, [], [], 2, 0, 0, 15)) else (bif Nat.ble 12 pc then
  (bif Nat.beq 12 pc then (.getfield 26, 3, [(9, 2)], [[3229]], 0, 0, 0, 12) else mm_nop) else (.aload_n 0, 1, [], [], 0, 0, 0, 11))) else (bif Nat.ble 4 pc then
  (bif Nat.ble 5 pc then
  (bif Nat.ble 8 pc then
  (bif Nat.beq 8 pc then (.ifCond .eq 14, 3, [(0, 22)], [], 0, 0, 0, 8) else mm_nop) else (bif Nat.beq 5 pc then (.invokevirtual 147, 3, [(2, 24)], [[4158, 3055, 3056, 2004]], 1, 0, 0, 5) else mm_nop)) else (.iload_n 1, 1, [], [], 1, 0, 0, 4)) else (bif Nat.ble 1 pc then
  (bif Nat.beq 1 pc then (.getfield 26, 3, [(9, 2)], [[3229]], 0, 0, 0, 1) else mm_nop) else (.aload_n 0, 1, [], [], 0, 0, 0, 0)))))
def mm_k152 : List mm_E := (List.range 38).map mm_f152
def mm_m152 : mm_M := (yX11_reaches, cX11_reaches, 3, (some .int), mm_k152, 2, 0, 0, 4189)
/-- TypeCopier.judge.()I -/
def mm_f153 : Nat → mm_E := fun pc => (bif Nat.ble 1 pc then
  (bif Nat.ble 4 pc then (.ireturn, 1, [], [], 0, 0, 0, 4) else (bif Nat.beq 1 pc then (.getfield 159, 3, [(9, 9)], [[3236]], 0, 0, 0, 1) else mm_nop)) else (.aload_n 0, 1, [], [], 0, 0, 0, 0))
def mm_k153 : List mm_E := (List.range 5).map mm_f153
def mm_m153 : mm_M := (yX11_judge, cX11_judge, 1, (some .int), mm_k153, 0, 0, 0, 4194)
/-- TypeCopier.copies.()I -/
def mm_f154 : Nat → mm_E := fun pc => (bif Nat.ble 1 pc then
  (bif Nat.ble 4 pc then (.ireturn, 1, [], [], 0, 0, 0, 4) else (bif Nat.beq 1 pc then (.getfield 166, 3, [(9, 10)], [[3237]], 0, 0, 0, 1) else mm_nop)) else (.aload_n 0, 1, [], [], 0, 0, 0, 0))
def mm_k154 : List mm_E := (List.range 5).map mm_f154
def mm_m154 : mm_M := (yX11_copies, cX11_copies, 1, (some .int), mm_k154, 0, 0, 0, 4198)
/-- TypeCopier.copy.(II)I -/
def mm_f155 : Nat → mm_E := fun pc => (bif Nat.ble 17 pc then
  (bif Nat.ble 26 pc then
  (bif Nat.ble 31 pc then
  (bif Nat.ble 32 pc then
  (bif Nat.ble 35 pc then (.ireturn, 1, [], [], 0, 0, 0, 35) else (bif Nat.beq 32 pc then (.invokevirtual 185, 3, [(0, 11)], [[4203, 4204, 4205, 2006]], 2, 0, 0, 32) else mm_nop)) else (.iload_n 2, 1, [], [], 2, 0, 0, 31)) else (bif Nat.ble 27 pc then
  (bif Nat.ble 30 pc then (.iload_n 1, 1, [], [], 1, 0, 0, 30) else (bif Nat.beq 27 pc then (.getfield 44, 3, [(9, 4)], [[3231]], 0, 0, 0, 27) else mm_nop)) else (.aload_n 0, 1, [], [], 0, 0, 0, 26))) else (bif Nat.ble 21 pc then
  (bif Nat.ble 24 pc then
  (bif Nat.ble 25 pc then (.ireturn, 1, [], [], 0, 0, 0, 25) else (.iconst (-1), 1, [], [], 0, (-1), 0, 24)) else (bif Nat.beq 21 pc then (.if_icmp .lt 5, 3, [(0, 26)], [], 0, 0, 0, 21) else mm_nop)) else (bif Nat.ble 18 pc then
  (bif Nat.beq 18 pc then (.getfield 166, 3, [(9, 10)], [[3237]], 0, 0, 0, 18) else mm_nop) else (.aload_n 0, 1, [], [], 0, 0, 0, 17)))) else (bif Nat.ble 9 pc then
  (bif Nat.ble 12 pc then
  (bif Nat.ble 13 pc then
  (bif Nat.ble 16 pc then (.iload_n 1, 1, [], [], 1, 0, 0, 16) else (bif Nat.beq 13 pc then (.ifCond .lt 11, 3, [(0, 24)], [], 0, 0, 0, 13) else mm_nop)) else (.iload_n 1, 1, [], [], 1, 0, 0, 12)) else (bif Nat.ble 11 pc then (.ireturn, 1, [], [], 0, 0, 0, 11) else (bif Nat.beq 9 pc then (.bipush (-2), 2, [], [], 0, (-2), 0, 9) else mm_nop))) else (bif Nat.ble 4 pc then
  (bif Nat.ble 5 pc then
  (bif Nat.ble 6 pc then
  (bif Nat.beq 6 pc then (.if_icmp .le 6, 3, [(0, 12)], [], 0, 0, 0, 6) else mm_nop) else (.iconst 5, 1, [], [], 0, 5, 0, 5)) else (.iload_n 2, 1, [], [], 2, 0, 0, 4)) else (bif Nat.ble 1 pc then
  (bif Nat.beq 1 pc then (.ifCond .lt 8, 3, [(0, 9)], [], 0, 0, 0, 1) else mm_nop) else (.iload_n 2, 1, [], [], 2, 0, 0, 0)))))
def mm_k155 : List mm_E := (List.range 36).map mm_f155
def mm_m155 : mm_M := (yX11_copy, cX11_copy, 3, (some .int), mm_k155, 2, 0, 0, 4202)
/-- TypeCopier.input.(I)I -/
def mm_f156 : Nat → mm_E := fun pc => (bif Nat.ble 4 pc then
  (bif Nat.ble 5 pc then
  (bif Nat.ble 8 pc then (.ireturn, 1, [], [], 0, 0, 0, 8) else (bif Nat.beq 5 pc then (.invokevirtual 186, 3, [(3, 36)], [[4212, 4213, 4214, 2007]], 1, 0, 0, 5) else mm_nop)) else (.iload_n 1, 1, [], [], 1, 0, 0, 4)) else (bif Nat.ble 1 pc then
  (bif Nat.beq 1 pc then (.getfield 51, 3, [(9, 5)], [[3232]], 0, 0, 0, 1) else mm_nop) else (.aload_n 0, 1, [], [], 0, 0, 0, 0)))
def mm_k156 : List mm_E := (List.range 9).map mm_f156
def mm_m156 : mm_M := (yX11_input, cX11_input, 2, (some .int), mm_k156, 1, 0, 0, 4211)
/-- TypeCopier.empty.()I -/
def mm_f157 : Nat → mm_E := fun pc => (bif Nat.ble 4 pc then
  (bif Nat.ble 7 pc then (.ireturn, 1, [], [], 0, 0, 0, 7) else (bif Nat.beq 4 pc then (.invokevirtual 188, 3, [(3, 37)], [[4220, 4221, 4222, 2007]], 0, 0, 0, 4) else mm_nop)) else (bif Nat.ble 1 pc then
  (bif Nat.beq 1 pc then (.getfield 51, 3, [(9, 5)], [[3232]], 0, 0, 0, 1) else mm_nop) else (.aload_n 0, 1, [], [], 0, 0, 0, 0)))
def mm_k157 : List mm_E := (List.range 8).map mm_f157
def mm_m157 : mm_M := (yX11_empty, cX11_empty, 1, (some .int), mm_k157, 0, 0, 0, 4219)
/-- TypeCopier.run.()I -/
def mm_f158 : Nat → mm_E := fun pc => (bif Nat.ble 28 pc then
  (bif Nat.ble 41 pc then
  (bif Nat.ble 49 pc then
  (bif Nat.ble 53 pc then
  (bif Nat.ble 56 pc then (.ireturn, 1, [], [], 0, 0, 0, 56) else (bif Nat.beq 53 pc then (.invokevirtual 200, 3, [(5, 66), (1, 66)], [[4230, 4232, 4234, 4231, 2009], [4230, 4232, 4233, 4231, 2009]], 2, 0, 0, 53) else mm_nop)) else (bif Nat.ble 50 pc then
  (bif Nat.beq 50 pc then (.invokevirtual 197, 3, [(2, 27)], [[4229, 3089, 3090, 2004]], 1, 0, 0, 50) else mm_nop) else (.iconst 0, 1, [], [], 0, 0, 0, 49))) else (bif Nat.ble 45 pc then
  (bif Nat.ble 46 pc then
  (bif Nat.beq 46 pc then (.getfield 26, 3, [(9, 2)], [[3229]], 0, 0, 0, 46) else mm_nop) else (.aload_n 0, 1, [], [], 0, 0, 0, 45)) else (bif Nat.ble 42 pc then
  (bif Nat.beq 42 pc then (.invokevirtual 194, 3, [(2, 26)], [[4228, 3157, 3158, 2004]], 1, 0, 0, 42) else mm_nop) else (.iconst 0, 1, [], [], 0, 0, 0, 41)))) else (bif Nat.ble 33 pc then
  (bif Nat.ble 37 pc then
  (bif Nat.ble 38 pc then
  (bif Nat.beq 38 pc then (.getfield 26, 3, [(9, 2)], [[3229]], 0, 0, 0, 38) else mm_nop) else (.aload_n 0, 1, [], [], 0, 0, 0, 37)) else (bif Nat.ble 34 pc then
  (bif Nat.beq 34 pc then (.getfield 67, 3, [(9, 7)], [[3234]], 0, 0, 0, 34) else mm_nop) else (.aload_n 0, 1, [], [], 0, 0, 0, 33))) else (bif Nat.ble 29 pc then
  (bif Nat.ble 30 pc then
  (bif Nat.beq 30 pc then (.putfield 191, 3, [(9, 11)], [[3238]], 0, 0, 0, 30) else mm_nop) else (.iadd, 1, [], [], 0, 0, 0, 29)) else (.iconst 1, 1, [], [], 0, 1, 0, 28)))) else (bif Nat.ble 14 pc then
  (bif Nat.ble 22 pc then
  (bif Nat.ble 24 pc then
  (bif Nat.ble 25 pc then
  (bif Nat.beq 25 pc then (.getfield 191, 3, [(9, 11)], [[3238]], 0, 0, 0, 25) else mm_nop) else (.dup, 1, [], [], 0, 0, 0, 24)) else (bif Nat.ble 23 pc then (.aload_n 0, 1, [], [], 0, 0, 0, 23) else (.ireturn, 1, [], [], 0, 0, 0, 22))) else (bif Nat.ble 17 pc then
  (bif Nat.ble 20 pc then
  (bif Nat.beq 20 pc then (.bipush (-4), 2, [], [], 0, (-4), 0, 20) else mm_nop) else (bif Nat.beq 17 pc then (.if_icmp .lt 6, 3, [(0, 23)], [], 0, 0, 0, 17) else mm_nop)) else (bif Nat.beq 14 pc then (.sipush 160, 3, [], [], 0, 160, 0, 14) else mm_nop))) else (bif Nat.ble 7 pc then
  (bif Nat.ble 10 pc then
  (bif Nat.ble 11 pc then
  (bif Nat.beq 11 pc then (.getfield 191, 3, [(9, 11)], [[3238]], 0, 0, 0, 11) else mm_nop) else (.aload_n 0, 1, [], [], 0, 0, 0, 10)) else (bif Nat.ble 9 pc then (.ireturn, 1, [], [], 0, 0, 0, 9) else (bif Nat.beq 7 pc then (.bipush (-3), 2, [], [], 0, (-3), 0, 7) else mm_nop))) else (bif Nat.ble 1 pc then
  (bif Nat.ble 4 pc then
  (bif Nat.beq 4 pc then (.ifCond .eq 6, 3, [(0, 10)], [], 0, 0, 0, 4) else mm_nop) else (bif Nat.beq 1 pc then (.getfield 159, 3, [(9, 9)], [[3236]], 0, 0, 0, 1) else mm_nop)) else (.aload_n 0, 1, [], [], 0, 0, 0, 0)))))
def mm_k158 : List mm_E := (List.range 57).map mm_f158
def mm_m158 : mm_M := (yX11_run, cX11_run, 1, (some .int), mm_k158, 0, 0, 0, 4227)
/-- TypeCopier.runCopies.()I -/
def mm_f159 : Nat → mm_E := fun pc => (bif Nat.ble 17 pc then
  (bif Nat.ble 25 pc then
  (bif Nat.ble 29 pc then
  (bif Nat.ble 32 pc then
  (bif Nat.ble 35 pc then (.ireturn, 1, [], [], 0, 0, 0, 35) else (bif Nat.beq 32 pc then (.invokevirtual 200, 3, [(5, 66), (1, 66)], [[4230, 4232, 4234, 4231, 2009], [4230, 4232, 4233, 4231, 2009]], 2, 0, 0, 32) else mm_nop)) else (bif Nat.beq 29 pc then (.invokevirtual 197, 3, [(2, 27)], [[4229, 3089, 3090, 2004]], 1, 0, 0, 29) else mm_nop)) else (bif Nat.ble 28 pc then (.iconst 0, 1, [], [], 0, 0, 0, 28) else (bif Nat.beq 25 pc then (.getfield 26, 3, [(9, 2)], [[3229]], 0, 0, 0, 25) else mm_nop))) else (bif Nat.ble 21 pc then
  (bif Nat.ble 24 pc then (.aload_n 0, 1, [], [], 0, 0, 0, 24) else (bif Nat.beq 21 pc then (.invokevirtual 194, 3, [(2, 26)], [[4228, 3157, 3158, 2004]], 1, 0, 0, 21) else mm_nop)) else (bif Nat.ble 20 pc then (.iconst 0, 1, [], [], 0, 0, 0, 20) else (bif Nat.beq 17 pc then (.getfield 26, 3, [(9, 2)], [[3229]], 0, 0, 0, 17) else mm_nop)))) else (bif Nat.ble 8 pc then
  (bif Nat.ble 12 pc then
  (bif Nat.ble 13 pc then
  (bif Nat.ble 16 pc then (.aload_n 0, 1, [], [], 0, 0, 0, 16) else (bif Nat.beq 13 pc then (.getfield 76, 3, [(9, 8)], [[3235]], 0, 0, 0, 13) else mm_nop)) else (.aload_n 0, 1, [], [], 0, 0, 0, 12)) else (bif Nat.ble 11 pc then (.ireturn, 1, [], [], 0, 0, 0, 11) else (bif Nat.beq 8 pc then (.getfield 166, 3, [(9, 10)], [[3237]], 0, 0, 0, 8) else mm_nop))) else (bif Nat.ble 4 pc then
  (bif Nat.ble 7 pc then (.aload_n 0, 1, [], [], 0, 0, 0, 7) else (bif Nat.beq 4 pc then (.ifCond .ge 8, 3, [(0, 12)], [], 0, 0, 0, 4) else mm_nop)) else (bif Nat.ble 1 pc then
  (bif Nat.beq 1 pc then (.getfield 166, 3, [(9, 10)], [[3237]], 0, 0, 0, 1) else mm_nop) else (.aload_n 0, 1, [], [], 0, 0, 0, 0)))))
def mm_k159 : List mm_E := (List.range 36).map mm_f159
def mm_m159 : mm_M := (yX11_runCopies, cX11_runCopies, 1, (some .int), mm_k159, 0, 0, 0, 6040)
/-- TypeCopier.result.(I)I -/
def mm_f160 : Nat → mm_E := fun pc => (bif Nat.ble 4 pc then
  (bif Nat.ble 5 pc then
  (bif Nat.ble 8 pc then (.ireturn, 1, [], [], 0, 0, 0, 8) else (bif Nat.beq 5 pc then (.invokevirtual 206, 3, [(8, 126)], [[6045, 6046, 6047, 2008]], 1, 0, 0, 5) else mm_nop)) else (.iload_n 1, 1, [], [], 1, 0, 0, 4)) else (bif Nat.ble 1 pc then
  (bif Nat.beq 1 pc then (.getfield 58, 3, [(9, 6)], [[3233]], 0, 0, 0, 1) else mm_nop) else (.aload_n 0, 1, [], [], 0, 0, 0, 0)))
def mm_k160 : List mm_E := (List.range 9).map mm_f160
def mm_m160 : mm_M := (yX11_result, cX11_result, 2, (some .int), mm_k160, 1, 0, 0, 6044)
/-- TypeCopier.told.(I)I -/
def mm_f161 : Nat → mm_E := fun pc => (bif Nat.ble 4 pc then
  (bif Nat.ble 5 pc then
  (bif Nat.ble 8 pc then (.ireturn, 1, [], [], 0, 0, 0, 8) else (bif Nat.beq 5 pc then (.invokevirtual 209, 3, [(8, 127)], [[6053, 6054, 6055, 2008]], 1, 0, 0, 5) else mm_nop)) else (.iload_n 1, 1, [], [], 1, 0, 0, 4)) else (bif Nat.ble 1 pc then
  (bif Nat.beq 1 pc then (.getfield 58, 3, [(9, 6)], [[3233]], 0, 0, 0, 1) else mm_nop) else (.aload_n 0, 1, [], [], 0, 0, 0, 0)))
def mm_k161 : List mm_E := (List.range 9).map mm_f161
def mm_m161 : mm_M := (yX11_told, cX11_told, 2, (some .int), mm_k161, 1, 0, 0, 6052)
/-- TypeCopier.count.(I)I -/
def mm_f162 : Nat → mm_E := fun pc => (bif Nat.ble 48 pc then
  (bif Nat.ble 57 pc then
  (bif Nat.ble 63 pc then
  (bif Nat.ble 64 pc then
  (bif Nat.ble 66 pc then (.ireturn, 1, [], [], 0, 0, 0, 66) else (bif Nat.beq 64 pc then (.bipush (-2), 2, [], [], 0, (-2), 0, 64) else mm_nop)) else (.ireturn, 1, [], [], 0, 0, 0, 63)) else (bif Nat.ble 60 pc then
  (bif Nat.beq 60 pc then (.invokevirtual 213, 3, [(3, 35)], [[6066, 6067, 6068, 2007]], 0, 0, 0, 60) else mm_nop) else (bif Nat.beq 57 pc then (.getfield 51, 3, [(9, 5)], [[3232]], 0, 0, 0, 57) else mm_nop))) else (bif Nat.ble 52 pc then
  (bif Nat.ble 55 pc then
  (bif Nat.ble 56 pc then (.aload_n 0, 1, [], [], 0, 0, 0, 56) else (.ireturn, 1, [], [], 0, 0, 0, 55)) else (bif Nat.beq 52 pc then (.invokevirtual 212, 3, [(2, 23)], [[6065, 4101, 4102, 2004]], 0, 0, 0, 52) else mm_nop)) else (bif Nat.ble 49 pc then
  (bif Nat.beq 49 pc then (.getfield 26, 3, [(9, 2)], [[3229]], 0, 0, 0, 49) else mm_nop) else (.aload_n 0, 1, [], [], 0, 0, 0, 48)))) else (bif Nat.ble 39 pc then
  (bif Nat.ble 41 pc then
  (bif Nat.ble 44 pc then
  (bif Nat.ble 47 pc then (.ireturn, 1, [], [], 0, 0, 0, 47) else (bif Nat.beq 44 pc then (.invokevirtual 143, 3, [(6, 91)], [[4150, 4151, 4152, 2003]], 0, 0, 0, 44) else mm_nop)) else (bif Nat.beq 41 pc then (.getfield 19, 3, [(9, 1)], [[3228]], 0, 0, 0, 41) else mm_nop)) else (bif Nat.ble 40 pc then (.aload_n 0, 1, [], [], 0, 0, 0, 40) else (.ireturn, 1, [], [], 0, 0, 0, 39))) else (bif Nat.ble 32 pc then
  (bif Nat.ble 33 pc then
  (bif Nat.ble 36 pc then
  (bif Nat.beq 36 pc then (.invokevirtual 211, 3, [(7, 110)], [[6061, 6062, 6063, 2002]], 0, 0, 0, 36) else mm_nop) else (bif Nat.beq 33 pc then (.getfield 10, 3, [(9, 0)], [[3227]], 0, 0, 0, 33) else mm_nop)) else (.aload_n 0, 1, [], [], 0, 0, 0, 32)) else (bif Nat.ble 1 pc then
  (bif Nat.beq 1 pc then (.tableswitch 63 0 3 #[31, 39, 47, 55], 31, [(0, 64), (0, 32), (1, 40), (2, 48), (3, 56)], [], 0, 0, 0, 1) else mm_nop) else (.iload_n 1, 1, [], [], 1, 0, 0, 0)))))
def mm_k162 : List mm_E := (List.range 67).map mm_f162
def mm_m162 : mm_M := (yX11_count, cX11_count, 2, (some .int), mm_k162, 1, 0, 0, 6060)
/-- TypeCopier.digest.()J -/
def mm_f163 : Nat → mm_E := fun pc => (bif Nat.ble 32 pc then
  (bif Nat.ble 50 pc then
  (bif Nat.ble 61 pc then
  (bif Nat.ble 65 pc then
  (bif Nat.ble 68 pc then
  (bif Nat.ble 71 pc then (.lreturn, 1, [], [], 0, 0, 0, 71) else (bif Nat.beq 68 pc then (.invokevirtual 221, 3, [(2, 33)], [[6087, 6088, 6089, 2004]], 1, 0, 0, 68) else mm_nop)) else (bif Nat.beq 65 pc then (.invokevirtual 218, 3, [(6, 108)], [[6076, 6077, 6078, 2003]], 1, 0, 0, 65) else mm_nop)) else (bif Nat.ble 64 pc then (.lload_n 1, 1, [], [], 1, 0, 0, 64) else (bif Nat.beq 61 pc then (.getfield 19, 3, [(9, 1)], [[3228]], 0, 0, 0, 61) else mm_nop))) else (bif Nat.ble 56 pc then
  (bif Nat.ble 57 pc then
  (bif Nat.ble 60 pc then (.aload_n 0, 1, [], [], 0, 0, 0, 60) else (bif Nat.beq 57 pc then (.getfield 26, 3, [(9, 2)], [[3229]], 0, 0, 0, 57) else mm_nop)) else (.aload_n 0, 1, [], [], 0, 0, 0, 56)) else (bif Nat.ble 53 pc then
  (bif Nat.beq 53 pc then (.goto (-47), 3, [(0, 6)], [], 0, 0, 0, 53) else mm_nop) else (bif Nat.beq 50 pc then (.iinc 3 1, 3, [], [], 3, 1, 0, 50) else mm_nop)))) else (bif Nat.ble 41 pc then
  (bif Nat.ble 43 pc then
  (bif Nat.ble 44 pc then
  (bif Nat.ble 47 pc then
  (bif Nat.beq 47 pc then (.goto (-27), 3, [(0, 20)], [], 0, 0, 0, 47) else mm_nop) else (bif Nat.beq 44 pc then (.iinc 4 1, 3, [], [], 4, 1, 0, 44) else mm_nop)) else (.lstore_n 1, 1, [], [], 1, 0, 0, 43)) else (bif Nat.ble 42 pc then (.ladd, 1, [], [], 0, 0, 0, 42) else (.i2l, 1, [], [], 0, 0, 0, 41))) else (bif Nat.ble 36 pc then
  (bif Nat.ble 38 pc then
  (bif Nat.beq 38 pc then (.invokevirtual 104, 3, [(7, 115)], [[4048, 4049, 4050, 2002]], 2, 0, 0, 38) else mm_nop) else (bif Nat.beq 36 pc then (.iload 4, 2, [], [], 4, 0, 0, 36) else mm_nop)) else (bif Nat.ble 35 pc then (.iload_n 3, 1, [], [], 3, 0, 0, 35) else (bif Nat.beq 32 pc then (.getfield 10, 3, [(9, 0)], [[3227]], 0, 0, 0, 32) else mm_nop))))) else (bif Nat.ble 17 pc then
  (bif Nat.ble 23 pc then
  (bif Nat.ble 29 pc then
  (bif Nat.ble 30 pc then
  (bif Nat.ble 31 pc then (.aload_n 0, 1, [], [], 0, 0, 0, 31) else (.lmul, 1, [], [], 0, 0, 0, 30)) else (.lload_n 1, 1, [], [], 1, 0, 0, 29)) else (bif Nat.ble 26 pc then
  (bif Nat.beq 26 pc then (.ldc2_w 216, 3, [], [[6075]], 0, 0, 31, 26) else mm_nop) else (bif Nat.beq 23 pc then (.if_icmp .gt 27, 3, [(0, 50)], [], 0, 0, 0, 23) else mm_nop))) else (bif Nat.ble 20 pc then
  (bif Nat.ble 22 pc then (.iconst 3, 1, [], [], 0, 3, 0, 22) else (bif Nat.beq 20 pc then (.iload 4, 2, [], [], 4, 0, 0, 20) else mm_nop)) else (bif Nat.ble 18 pc then
  (bif Nat.beq 18 pc then (.istore 4, 2, [], [], 4, 0, 0, 18) else mm_nop) else (.iconst 0, 1, [], [], 0, 0, 0, 17)))) else (bif Nat.ble 6 pc then
  (bif Nat.ble 8 pc then
  (bif Nat.ble 11 pc then
  (bif Nat.ble 14 pc then
  (bif Nat.beq 14 pc then (.if_icmp .ge 42, 3, [(0, 56)], [], 0, 0, 0, 14) else mm_nop) else (bif Nat.beq 11 pc then (.invokevirtual 211, 3, [(7, 110)], [[6061, 6062, 6063, 2002]], 0, 0, 0, 11) else mm_nop)) else (bif Nat.beq 8 pc then (.getfield 10, 3, [(9, 0)], [[3227]], 0, 0, 0, 8) else mm_nop)) else (bif Nat.ble 7 pc then (.aload_n 0, 1, [], [], 0, 0, 0, 7) else (.iload_n 3, 1, [], [], 3, 0, 0, 6))) else (bif Nat.ble 4 pc then
  (bif Nat.ble 5 pc then (.istore_n 3, 1, [], [], 3, 0, 0, 5) else (.iconst 0, 1, [], [], 0, 0, 0, 4)) else (bif Nat.ble 3 pc then (.lstore_n 1, 1, [], [], 1, 0, 0, 3) else (bif Nat.beq 0 pc then (.ldc2_w 214, 3, [], [[6074]], 0, 0, 61, 0) else mm_nop))))))
def mm_k163 : List mm_E := (List.range 72).map mm_f163
def mm_m163 : mm_M := (yX11_digest, cX11_digest, 5, (some .long), mm_k163, 0, 0, 0, 6073)
/-- TypeCopierModel.in.(III)Z -/
def mm_f164 : Nat → mm_E := fun pc => (bif Nat.ble 7 pc then
  (bif Nat.ble 11 pc then
  (bif Nat.ble 14 pc then
  (bif Nat.ble 15 pc then (.ireturn, 1, [], [], 0, 0, 0, 15) else (.iconst 0, 1, [], [], 0, 0, 0, 14)) else (bif Nat.beq 11 pc then (.goto 4, 3, [(0, 15)], [], 0, 0, 0, 11) else mm_nop)) else (bif Nat.ble 10 pc then (.iconst 1, 1, [], [], 0, 1, 0, 10) else (bif Nat.beq 7 pc then (.if_icmp .gt 7, 3, [(0, 14)], [], 0, 0, 0, 7) else mm_nop))) else (bif Nat.ble 2 pc then
  (bif Nat.ble 5 pc then
  (bif Nat.ble 6 pc then (.iload_n 2, 1, [], [], 2, 0, 0, 6) else (.iload_n 0, 1, [], [], 0, 0, 0, 5)) else (bif Nat.beq 2 pc then (.if_icmp .lt 12, 3, [(0, 14)], [], 0, 0, 0, 2) else mm_nop)) else (bif Nat.ble 1 pc then (.iload_n 1, 1, [], [], 1, 0, 0, 1) else (.iload_n 0, 1, [], [], 0, 0, 0, 0))))
def mm_k164 : List mm_E := (List.range 16).map mm_f164
def mm_m164 : mm_M := (yX12_in, cX12_in, 3, (some .boolean), mm_k164, 3, 0, 0, 7071)
/-- TypeCopierModel.<init>.()V -/
def mm_f165 : Nat → mm_E := fun pc => (bif Nat.ble 285 pc then
  (bif Nat.ble 420 pc then
  (bif Nat.ble 474 pc then
  (bif Nat.ble 501 pc then
  (bif Nat.ble 513 pc then
  (bif Nat.ble 521 pc then
  (bif Nat.ble 523 pc then
  (bif Nat.ble 526 pc then
  (bif Nat.ble 529 pc then (.return_, 1, [], [], 0, 0, 0, 529) else (bif Nat.beq 526 pc then (.goto (-84), 3, [(0, 442)], [], 0, 0, 0, 526) else mm_nop)) else (bif Nat.beq 523 pc then (.iinc 1 1, 3, [], [], 1, 1, 0, 523) else mm_nop)) else (bif Nat.ble 522 pc then (.iastore, 1, [], [], 0, 0, 0, 522) else (.iconst (-1), 1, [], [], 0, (-1), 0, 521))) else (bif Nat.ble 517 pc then
  (bif Nat.ble 518 pc then
  (bif Nat.beq 518 pc then (.goto 4, 3, [(0, 522)], [], 0, 0, 0, 518) else mm_nop) else (.iconst 1, 1, [], [], 0, 1, 0, 517)) else (bif Nat.ble 514 pc then
  (bif Nat.beq 514 pc then (.if_icmp .ge 7, 3, [(0, 521)], [], 0, 0, 0, 514) else mm_nop) else (.iconst 2, 1, [], [], 0, 2, 0, 513)))) else (bif Nat.ble 507 pc then
  (bif Nat.ble 511 pc then
  (bif Nat.ble 512 pc then (.iload_n 1, 1, [], [], 1, 0, 0, 512) else (.iload_n 1, 1, [], [], 1, 0, 0, 511)) else (bif Nat.ble 508 pc then
  (bif Nat.beq 508 pc then (.getfield 35, 3, [(10, 8)], [[6106]], 0, 0, 0, 508) else mm_nop) else (.aload_n 0, 1, [], [], 0, 0, 0, 507))) else (bif Nat.ble 505 pc then
  (bif Nat.ble 506 pc then (.iastore, 1, [], [], 0, 0, 0, 506) else (.iconst 0, 1, [], [], 0, 0, 0, 505)) else (bif Nat.ble 502 pc then
  (bif Nat.beq 502 pc then (.goto 4, 3, [(0, 506)], [], 0, 0, 0, 502) else mm_nop) else (.iconst 1, 1, [], [], 0, 1, 0, 501))))) else (bif Nat.ble 486 pc then
  (bif Nat.ble 492 pc then
  (bif Nat.ble 496 pc then
  (bif Nat.ble 497 pc then
  (bif Nat.ble 498 pc then
  (bif Nat.beq 498 pc then (.if_icmp .ne 7, 3, [(0, 505)], [], 0, 0, 0, 498) else mm_nop) else (.iconst 3, 1, [], [], 0, 3, 0, 497)) else (.iload_n 1, 1, [], [], 1, 0, 0, 496)) else (bif Nat.ble 495 pc then (.iload_n 1, 1, [], [], 1, 0, 0, 495) else (bif Nat.beq 492 pc then (.getfield 32, 3, [(10, 7)], [[6105]], 0, 0, 0, 492) else mm_nop))) else (bif Nat.ble 490 pc then
  (bif Nat.ble 491 pc then (.aload_n 0, 1, [], [], 0, 0, 0, 491) else (.iastore, 1, [], [], 0, 0, 0, 490)) else (bif Nat.ble 489 pc then (.iconst 0, 1, [], [], 0, 0, 0, 489) else (bif Nat.beq 486 pc then (.goto 4, 3, [(0, 490)], [], 0, 0, 0, 486) else mm_nop)))) else (bif Nat.ble 480 pc then
  (bif Nat.ble 482 pc then
  (bif Nat.ble 485 pc then (.iconst 1, 1, [], [], 0, 1, 0, 485) else (bif Nat.beq 482 pc then (.if_icmp .ne 7, 3, [(0, 489)], [], 0, 0, 0, 482) else mm_nop)) else (bif Nat.ble 481 pc then (.iconst 2, 1, [], [], 0, 2, 0, 481) else (.iload_n 1, 1, [], [], 1, 0, 0, 480))) else (bif Nat.ble 476 pc then
  (bif Nat.ble 479 pc then (.iload_n 1, 1, [], [], 1, 0, 0, 479) else (bif Nat.beq 476 pc then (.getfield 29, 3, [(10, 6)], [[6104]], 0, 0, 0, 476) else mm_nop)) else (bif Nat.ble 475 pc then (.aload_n 0, 1, [], [], 0, 0, 0, 475) else (.iastore, 1, [], [], 0, 0, 0, 474)))))) else (bif Nat.ble 451 pc then
  (bif Nat.ble 461 pc then
  (bif Nat.ble 467 pc then
  (bif Nat.ble 469 pc then
  (bif Nat.ble 472 pc then
  (bif Nat.ble 473 pc then (.iconst 1, 1, [], [], 0, 1, 0, 473) else (.iload_n 1, 1, [], [], 1, 0, 0, 472)) else (bif Nat.beq 469 pc then (.getfield 26, 3, [(10, 5)], [[6103]], 0, 0, 0, 469) else mm_nop)) else (bif Nat.ble 468 pc then (.aload_n 0, 1, [], [], 0, 0, 0, 468) else (.iastore, 1, [], [], 0, 0, 0, 467))) else (bif Nat.ble 465 pc then
  (bif Nat.ble 466 pc then (.iconst (-1), 1, [], [], 0, (-1), 0, 466) else (.iload_n 1, 1, [], [], 1, 0, 0, 465)) else (bif Nat.ble 462 pc then
  (bif Nat.beq 462 pc then (.getfield 23, 3, [(10, 4)], [[6102]], 0, 0, 0, 462) else mm_nop) else (.aload_n 0, 1, [], [], 0, 0, 0, 461)))) else (bif Nat.ble 455 pc then
  (bif Nat.ble 459 pc then
  (bif Nat.ble 460 pc then (.iastore, 1, [], [], 0, 0, 0, 460) else (.iconst (-1), 1, [], [], 0, (-1), 0, 459)) else (bif Nat.ble 458 pc then (.iload_n 1, 1, [], [], 1, 0, 0, 458) else (bif Nat.beq 455 pc then (.getfield 20, 3, [(10, 3)], [[6101]], 0, 0, 0, 455) else mm_nop))) else (bif Nat.ble 453 pc then
  (bif Nat.ble 454 pc then (.aload_n 0, 1, [], [], 0, 0, 0, 454) else (.iastore, 1, [], [], 0, 0, 0, 453)) else (bif Nat.ble 452 pc then (.iload_n 1, 1, [], [], 1, 0, 0, 452) else (.iload_n 1, 1, [], [], 1, 0, 0, 451))))) else (bif Nat.ble 437 pc then
  (bif Nat.ble 443 pc then
  (bif Nat.ble 447 pc then
  (bif Nat.ble 448 pc then
  (bif Nat.beq 448 pc then (.getfield 16, 3, [(10, 2)], [[6100]], 0, 0, 0, 448) else mm_nop) else (.aload_n 0, 1, [], [], 0, 0, 0, 447)) else (bif Nat.ble 444 pc then
  (bif Nat.beq 444 pc then (.if_icmp .ge 85, 3, [(0, 529)], [], 0, 0, 0, 444) else mm_nop) else (.iconst 4, 1, [], [], 0, 4, 0, 443))) else (bif Nat.ble 441 pc then
  (bif Nat.ble 442 pc then (.iload_n 1, 1, [], [], 1, 0, 0, 442) else (.istore_n 1, 1, [], [], 1, 0, 0, 441)) else (bif Nat.ble 440 pc then (.iconst 0, 1, [], [], 0, 0, 0, 440) else (bif Nat.beq 437 pc then (.putfield 165, 3, [(10, 65)], [[6163]], 1, 0, 0, 437) else mm_nop)))) else (bif Nat.ble 429 pc then
  (bif Nat.ble 433 pc then
  (bif Nat.ble 435 pc then
  (bif Nat.beq 435 pc then (.newarray .int, 2, [(0, 30)], [[2066]], 0, 0, 0, 435) else mm_nop) else (bif Nat.beq 433 pc then (.bipush 30, 2, [], [], 0, 30, 0, 433) else mm_nop)) else (bif Nat.ble 432 pc then (.aload_n 0, 1, [], [], 0, 0, 0, 432) else (bif Nat.beq 429 pc then (.putfield 162, 3, [(10, 63)], [[6161]], 1, 0, 0, 429) else mm_nop))) else (bif Nat.ble 424 pc then
  (bif Nat.ble 427 pc then
  (bif Nat.beq 427 pc then (.newarray .int, 2, [(0, 800)], [[2066]], 0, 0, 0, 427) else mm_nop) else (bif Nat.beq 424 pc then (.sipush 800, 3, [], [], 0, 800, 0, 424) else mm_nop)) else (bif Nat.ble 423 pc then (.aload_n 0, 1, [], [], 0, 0, 0, 423) else (bif Nat.beq 420 pc then (.putfield 159, 3, [(10, 61)], [[6159]], 1, 0, 0, 420) else mm_nop))))))) else (bif Nat.ble 352 pc then
  (bif Nat.ble 384 pc then
  (bif Nat.ble 400 pc then
  (bif Nat.ble 409 pc then
  (bif Nat.ble 414 pc then
  (bif Nat.ble 415 pc then
  (bif Nat.ble 418 pc then
  (bif Nat.beq 418 pc then (.newarray .int, 2, [(0, 400)], [[2066]], 0, 0, 0, 418) else mm_nop) else (bif Nat.beq 415 pc then (.sipush 400, 3, [], [], 0, 400, 0, 415) else mm_nop)) else (.aload_n 0, 1, [], [], 0, 0, 0, 414)) else (bif Nat.ble 411 pc then
  (bif Nat.beq 411 pc then (.putfield 156, 3, [(10, 60)], [[6158]], 1, 0, 0, 411) else mm_nop) else (bif Nat.beq 409 pc then (.newarray .int, 2, [(0, 400)], [[2066]], 0, 0, 0, 409) else mm_nop))) else (bif Nat.ble 405 pc then
  (bif Nat.ble 406 pc then
  (bif Nat.beq 406 pc then (.sipush 400, 3, [], [], 0, 400, 0, 406) else mm_nop) else (.aload_n 0, 1, [], [], 0, 0, 0, 405)) else (bif Nat.ble 402 pc then
  (bif Nat.beq 402 pc then (.putfield 153, 3, [(10, 59)], [[6157]], 1, 0, 0, 402) else mm_nop) else (bif Nat.beq 400 pc then (.newarray .boolean, 2, [(2, 16)], [[7060]], 0, 0, 0, 400) else mm_nop)))) else (bif Nat.ble 392 pc then
  (bif Nat.ble 397 pc then
  (bif Nat.ble 398 pc then
  (bif Nat.beq 398 pc then (.bipush 16, 2, [], [], 0, 16, 0, 398) else mm_nop) else (.aload_n 0, 1, [], [], 0, 0, 0, 397)) else (bif Nat.ble 394 pc then
  (bif Nat.beq 394 pc then (.putfield 150, 3, [(10, 58)], [[6156]], 1, 0, 0, 394) else mm_nop) else (bif Nat.beq 392 pc then (.newarray .int, 2, [(0, 16)], [[2066]], 0, 0, 0, 392) else mm_nop))) else (bif Nat.ble 389 pc then
  (bif Nat.ble 390 pc then
  (bif Nat.beq 390 pc then (.bipush 16, 2, [], [], 0, 16, 0, 390) else mm_nop) else (.aload_n 0, 1, [], [], 0, 0, 0, 389)) else (bif Nat.ble 386 pc then
  (bif Nat.beq 386 pc then (.putfield 147, 3, [(10, 57)], [[6155]], 1, 0, 0, 386) else mm_nop) else (bif Nat.beq 384 pc then (.newarray .int, 2, [(0, 16)], [[2066]], 0, 0, 0, 384) else mm_nop))))) else (bif Nat.ble 368 pc then
  (bif Nat.ble 376 pc then
  (bif Nat.ble 381 pc then
  (bif Nat.ble 382 pc then
  (bif Nat.beq 382 pc then (.bipush 16, 2, [], [], 0, 16, 0, 382) else mm_nop) else (.aload_n 0, 1, [], [], 0, 0, 0, 381)) else (bif Nat.ble 378 pc then
  (bif Nat.beq 378 pc then (.putfield 144, 3, [(10, 56)], [[6154]], 1, 0, 0, 378) else mm_nop) else (bif Nat.beq 376 pc then (.newarray .int, 2, [(0, 40)], [[2066]], 0, 0, 0, 376) else mm_nop))) else (bif Nat.ble 373 pc then
  (bif Nat.ble 374 pc then
  (bif Nat.beq 374 pc then (.bipush 40, 2, [], [], 0, 40, 0, 374) else mm_nop) else (.aload_n 0, 1, [], [], 0, 0, 0, 373)) else (bif Nat.ble 370 pc then
  (bif Nat.beq 370 pc then (.putfield 141, 3, [(10, 55)], [[6153]], 1, 0, 0, 370) else mm_nop) else (bif Nat.beq 368 pc then (.newarray .int, 2, [(0, 8)], [[2066]], 0, 0, 0, 368) else mm_nop)))) else (bif Nat.ble 360 pc then
  (bif Nat.ble 365 pc then
  (bif Nat.ble 366 pc then
  (bif Nat.beq 366 pc then (.bipush 8, 2, [], [], 0, 8, 0, 366) else mm_nop) else (.aload_n 0, 1, [], [], 0, 0, 0, 365)) else (bif Nat.ble 362 pc then
  (bif Nat.beq 362 pc then (.putfield 138, 3, [(10, 54)], [[6152]], 1, 0, 0, 362) else mm_nop) else (bif Nat.beq 360 pc then (.newarray .int, 2, [(0, 8)], [[2066]], 0, 0, 0, 360) else mm_nop))) else (bif Nat.ble 357 pc then
  (bif Nat.ble 358 pc then
  (bif Nat.beq 358 pc then (.bipush 8, 2, [], [], 0, 8, 0, 358) else mm_nop) else (.aload_n 0, 1, [], [], 0, 0, 0, 357)) else (bif Nat.ble 354 pc then
  (bif Nat.beq 354 pc then (.putfield 135, 3, [(10, 53)], [[6151]], 1, 0, 0, 354) else mm_nop) else (bif Nat.beq 352 pc then (.newarray .int, 2, [(0, 8)], [[2066]], 0, 0, 0, 352) else mm_nop)))))) else (bif Nat.ble 318 pc then
  (bif Nat.ble 336 pc then
  (bif Nat.ble 342 pc then
  (bif Nat.ble 346 pc then
  (bif Nat.ble 349 pc then
  (bif Nat.ble 350 pc then
  (bif Nat.beq 350 pc then (.bipush 8, 2, [], [], 0, 8, 0, 350) else mm_nop) else (.aload_n 0, 1, [], [], 0, 0, 0, 349)) else (bif Nat.beq 346 pc then (.putfield 132, 3, [(10, 52)], [[6150]], 1, 0, 0, 346) else mm_nop)) else (bif Nat.ble 344 pc then
  (bif Nat.beq 344 pc then (.newarray .int, 2, [(0, 100)], [[2066]], 0, 0, 0, 344) else mm_nop) else (bif Nat.beq 342 pc then (.bipush 100, 2, [], [], 0, 100, 0, 342) else mm_nop))) else (bif Nat.ble 338 pc then
  (bif Nat.ble 341 pc then (.aload_n 0, 1, [], [], 0, 0, 0, 341) else (bif Nat.beq 338 pc then (.putfield 129, 3, [(10, 47)], [[6145]], 0, 0, 0, 338) else mm_nop)) else (bif Nat.ble 337 pc then (.iconst (-1), 1, [], [], 0, (-1), 0, 337) else (.aload_n 0, 1, [], [], 0, 0, 0, 336)))) else (bif Nat.ble 327 pc then
  (bif Nat.ble 331 pc then
  (bif Nat.ble 333 pc then
  (bif Nat.beq 333 pc then (.putfield 126, 3, [(10, 45)], [[6143]], 1, 0, 0, 333) else mm_nop) else (bif Nat.beq 331 pc then (.newarray .int, 2, [(0, 6000)], [[2066]], 0, 0, 0, 331) else mm_nop)) else (bif Nat.ble 328 pc then
  (bif Nat.beq 328 pc then (.sipush 6000, 3, [], [], 0, 6000, 0, 328) else mm_nop) else (.aload_n 0, 1, [], [], 0, 0, 0, 327))) else (bif Nat.ble 322 pc then
  (bif Nat.ble 324 pc then
  (bif Nat.beq 324 pc then (.putfield 123, 3, [(10, 44)], [[6142]], 1, 0, 0, 324) else mm_nop) else (bif Nat.beq 322 pc then (.newarray .int, 2, [(0, 6000)], [[2066]], 0, 0, 0, 322) else mm_nop)) else (bif Nat.ble 319 pc then
  (bif Nat.beq 319 pc then (.sipush 6000, 3, [], [], 0, 6000, 0, 319) else mm_nop) else (.aload_n 0, 1, [], [], 0, 0, 0, 318))))) else (bif Nat.ble 301 pc then
  (bif Nat.ble 310 pc then
  (bif Nat.ble 313 pc then
  (bif Nat.ble 315 pc then
  (bif Nat.beq 315 pc then (.putfield 120, 3, [(10, 40)], [[6138]], 1, 0, 0, 315) else mm_nop) else (bif Nat.beq 313 pc then (.newarray .int, 2, [(0, 16)], [[2066]], 0, 0, 0, 313) else mm_nop)) else (bif Nat.ble 311 pc then
  (bif Nat.beq 311 pc then (.bipush 16, 2, [], [], 0, 16, 0, 311) else mm_nop) else (.aload_n 0, 1, [], [], 0, 0, 0, 310))) else (bif Nat.ble 305 pc then
  (bif Nat.ble 307 pc then
  (bif Nat.beq 307 pc then (.putfield 117, 3, [(10, 39)], [[6137]], 1, 0, 0, 307) else mm_nop) else (bif Nat.beq 305 pc then (.newarray .boolean, 2, [(2, 200)], [[7060]], 0, 0, 0, 305) else mm_nop)) else (bif Nat.ble 302 pc then
  (bif Nat.beq 302 pc then (.sipush 200, 3, [], [], 0, 200, 0, 302) else mm_nop) else (.aload_n 0, 1, [], [], 0, 0, 0, 301)))) else (bif Nat.ble 293 pc then
  (bif Nat.ble 296 pc then
  (bif Nat.ble 298 pc then
  (bif Nat.beq 298 pc then (.putfield 114, 3, [(10, 38)], [[6136]], 1, 0, 0, 298) else mm_nop) else (bif Nat.beq 296 pc then (.newarray .int, 2, [(0, 16)], [[2066]], 0, 0, 0, 296) else mm_nop)) else (bif Nat.ble 294 pc then
  (bif Nat.beq 294 pc then (.bipush 16, 2, [], [], 0, 16, 0, 294) else mm_nop) else (.aload_n 0, 1, [], [], 0, 0, 0, 293))) else (bif Nat.ble 288 pc then
  (bif Nat.ble 290 pc then
  (bif Nat.beq 290 pc then (.putfield 111, 3, [(10, 37)], [[6135]], 1, 0, 0, 290) else mm_nop) else (bif Nat.beq 288 pc then (.newarray .int, 2, [(0, 16)], [[2066]], 0, 0, 0, 288) else mm_nop)) else (bif Nat.ble 286 pc then
  (bif Nat.beq 286 pc then (.bipush 16, 2, [], [], 0, 16, 0, 286) else mm_nop) else (.aload_n 0, 1, [], [], 0, 0, 0, 285)))))))) else (bif Nat.ble 143 pc then
  (bif Nat.ble 213 pc then
  (bif Nat.ble 249 pc then
  (bif Nat.ble 265 pc then
  (bif Nat.ble 273 pc then
  (bif Nat.ble 277 pc then
  (bif Nat.ble 280 pc then
  (bif Nat.ble 282 pc then
  (bif Nat.beq 282 pc then (.putfield 108, 3, [(10, 35)], [[6133]], 1, 0, 0, 282) else mm_nop) else (bif Nat.beq 280 pc then (.newarray .int, 2, [(0, 200)], [[2066]], 0, 0, 0, 280) else mm_nop)) else (bif Nat.beq 277 pc then (.sipush 200, 3, [], [], 0, 200, 0, 277) else mm_nop)) else (bif Nat.ble 276 pc then (.aload_n 0, 1, [], [], 0, 0, 0, 276) else (bif Nat.beq 273 pc then (.putfield 105, 3, [(10, 34)], [[6132]], 1, 0, 0, 273) else mm_nop))) else (bif Nat.ble 269 pc then
  (bif Nat.ble 271 pc then
  (bif Nat.beq 271 pc then (.newarray .int, 2, [(0, 60)], [[2066]], 0, 0, 0, 271) else mm_nop) else (bif Nat.beq 269 pc then (.bipush 60, 2, [], [], 0, 60, 0, 269) else mm_nop)) else (bif Nat.ble 268 pc then (.aload_n 0, 1, [], [], 0, 0, 0, 268) else (bif Nat.beq 265 pc then (.putfield 102, 3, [(10, 33)], [[6131]], 1, 0, 0, 265) else mm_nop)))) else (bif Nat.ble 257 pc then
  (bif Nat.ble 261 pc then
  (bif Nat.ble 263 pc then
  (bif Nat.beq 263 pc then (.newarray .int, 2, [(0, 60)], [[2066]], 0, 0, 0, 263) else mm_nop) else (bif Nat.beq 261 pc then (.bipush 60, 2, [], [], 0, 60, 0, 261) else mm_nop)) else (bif Nat.ble 260 pc then (.aload_n 0, 1, [], [], 0, 0, 0, 260) else (bif Nat.beq 257 pc then (.putfield 99, 3, [(10, 32)], [[6130]], 1, 0, 0, 257) else mm_nop))) else (bif Nat.ble 253 pc then
  (bif Nat.ble 255 pc then
  (bif Nat.beq 255 pc then (.newarray .int, 2, [(0, 60)], [[2066]], 0, 0, 0, 255) else mm_nop) else (bif Nat.beq 253 pc then (.bipush 60, 2, [], [], 0, 60, 0, 253) else mm_nop)) else (bif Nat.ble 252 pc then (.aload_n 0, 1, [], [], 0, 0, 0, 252) else (bif Nat.beq 249 pc then (.putfield 96, 3, [(10, 30)], [[6128]], 1, 0, 0, 249) else mm_nop))))) else (bif Nat.ble 231 pc then
  (bif Nat.ble 240 pc then
  (bif Nat.ble 244 pc then
  (bif Nat.ble 247 pc then
  (bif Nat.beq 247 pc then (.newarray .int, 2, [(0, 2400)], [[2066]], 0, 0, 0, 247) else mm_nop) else (bif Nat.beq 244 pc then (.sipush 2400, 3, [], [], 0, 2400, 0, 244) else mm_nop)) else (bif Nat.ble 243 pc then (.aload_n 0, 1, [], [], 0, 0, 0, 243) else (bif Nat.beq 240 pc then (.putfield 93, 3, [(10, 29)], [[6127]], 1, 0, 0, 240) else mm_nop))) else (bif Nat.ble 235 pc then
  (bif Nat.ble 238 pc then
  (bif Nat.beq 238 pc then (.newarray .int, 2, [(0, 2400)], [[2066]], 0, 0, 0, 238) else mm_nop) else (bif Nat.beq 235 pc then (.sipush 2400, 3, [], [], 0, 2400, 0, 235) else mm_nop)) else (bif Nat.ble 234 pc then (.aload_n 0, 1, [], [], 0, 0, 0, 234) else (bif Nat.beq 231 pc then (.putfield 90, 3, [(10, 28)], [[6126]], 1, 0, 0, 231) else mm_nop)))) else (bif Nat.ble 222 pc then
  (bif Nat.ble 226 pc then
  (bif Nat.ble 229 pc then
  (bif Nat.beq 229 pc then (.newarray .int, 2, [(0, 2400)], [[2066]], 0, 0, 0, 229) else mm_nop) else (bif Nat.beq 226 pc then (.sipush 2400, 3, [], [], 0, 2400, 0, 226) else mm_nop)) else (bif Nat.ble 225 pc then (.aload_n 0, 1, [], [], 0, 0, 0, 225) else (bif Nat.beq 222 pc then (.putfield 87, 3, [(10, 27)], [[6125]], 1, 0, 0, 222) else mm_nop))) else (bif Nat.ble 217 pc then
  (bif Nat.ble 220 pc then
  (bif Nat.beq 220 pc then (.newarray .boolean, 2, [(2, 144)], [[7060]], 0, 0, 0, 220) else mm_nop) else (bif Nat.beq 217 pc then (.sipush 144, 3, [], [], 0, 144, 0, 217) else mm_nop)) else (bif Nat.ble 216 pc then (.aload_n 0, 1, [], [], 0, 0, 0, 216) else (bif Nat.beq 213 pc then (.putfield 84, 3, [(10, 26)], [[6124]], 1, 0, 0, 213) else mm_nop)))))) else (bif Nat.ble 177 pc then
  (bif Nat.ble 193 pc then
  (bif Nat.ble 202 pc then
  (bif Nat.ble 207 pc then
  (bif Nat.ble 208 pc then
  (bif Nat.ble 211 pc then
  (bif Nat.beq 211 pc then (.newarray .boolean, 2, [(2, 200)], [[7060]], 0, 0, 0, 211) else mm_nop) else (bif Nat.beq 208 pc then (.sipush 200, 3, [], [], 0, 200, 0, 208) else mm_nop)) else (.aload_n 0, 1, [], [], 0, 0, 0, 207)) else (bif Nat.ble 204 pc then
  (bif Nat.beq 204 pc then (.putfield 81, 3, [(10, 25)], [[6123]], 1, 0, 0, 204) else mm_nop) else (bif Nat.beq 202 pc then (.newarray .int, 2, [(0, 200)], [[2066]], 0, 0, 0, 202) else mm_nop))) else (bif Nat.ble 198 pc then
  (bif Nat.ble 199 pc then
  (bif Nat.beq 199 pc then (.sipush 200, 3, [], [], 0, 200, 0, 199) else mm_nop) else (.aload_n 0, 1, [], [], 0, 0, 0, 198)) else (bif Nat.ble 195 pc then
  (bif Nat.beq 195 pc then (.putfield 78, 3, [(10, 24)], [[6122]], 1, 0, 0, 195) else mm_nop) else (bif Nat.beq 193 pc then (.newarray .int, 2, [(0, 12)], [[2066]], 0, 0, 0, 193) else mm_nop)))) else (bif Nat.ble 185 pc then
  (bif Nat.ble 190 pc then
  (bif Nat.ble 191 pc then
  (bif Nat.beq 191 pc then (.bipush 12, 2, [], [], 0, 12, 0, 191) else mm_nop) else (.aload_n 0, 1, [], [], 0, 0, 0, 190)) else (bif Nat.ble 187 pc then
  (bif Nat.beq 187 pc then (.putfield 75, 3, [(10, 23)], [[6121]], 1, 0, 0, 187) else mm_nop) else (bif Nat.beq 185 pc then (.newarray .int, 2, [(0, 12)], [[2066]], 0, 0, 0, 185) else mm_nop))) else (bif Nat.ble 182 pc then
  (bif Nat.ble 183 pc then
  (bif Nat.beq 183 pc then (.bipush 12, 2, [], [], 0, 12, 0, 183) else mm_nop) else (.aload_n 0, 1, [], [], 0, 0, 0, 182)) else (bif Nat.ble 179 pc then
  (bif Nat.beq 179 pc then (.putfield 72, 3, [(10, 22)], [[6120]], 1, 0, 0, 179) else mm_nop) else (bif Nat.beq 177 pc then (.newarray .int, 2, [(0, 12)], [[2066]], 0, 0, 0, 177) else mm_nop))))) else (bif Nat.ble 161 pc then
  (bif Nat.ble 169 pc then
  (bif Nat.ble 174 pc then
  (bif Nat.ble 175 pc then
  (bif Nat.beq 175 pc then (.bipush 12, 2, [], [], 0, 12, 0, 175) else mm_nop) else (.aload_n 0, 1, [], [], 0, 0, 0, 174)) else (bif Nat.ble 171 pc then
  (bif Nat.beq 171 pc then (.putfield 69, 3, [(10, 21)], [[6119]], 1, 0, 0, 171) else mm_nop) else (bif Nat.beq 169 pc then (.newarray .int, 2, [(0, 12)], [[2066]], 0, 0, 0, 169) else mm_nop))) else (bif Nat.ble 166 pc then
  (bif Nat.ble 167 pc then
  (bif Nat.beq 167 pc then (.bipush 12, 2, [], [], 0, 12, 0, 167) else mm_nop) else (.aload_n 0, 1, [], [], 0, 0, 0, 166)) else (bif Nat.ble 163 pc then
  (bif Nat.beq 163 pc then (.putfield 66, 3, [(10, 19)], [[6117]], 1, 0, 0, 163) else mm_nop) else (bif Nat.beq 161 pc then (.newarray .int, 2, [(0, 200)], [[2066]], 0, 0, 0, 161) else mm_nop)))) else (bif Nat.ble 152 pc then
  (bif Nat.ble 157 pc then
  (bif Nat.ble 158 pc then
  (bif Nat.beq 158 pc then (.sipush 200, 3, [], [], 0, 200, 0, 158) else mm_nop) else (.aload_n 0, 1, [], [], 0, 0, 0, 157)) else (bif Nat.ble 154 pc then
  (bif Nat.beq 154 pc then (.putfield 63, 3, [(10, 18)], [[6116]], 1, 0, 0, 154) else mm_nop) else (bif Nat.beq 152 pc then (.newarray .int, 2, [(0, 200)], [[2066]], 0, 0, 0, 152) else mm_nop))) else (bif Nat.ble 148 pc then
  (bif Nat.ble 149 pc then
  (bif Nat.beq 149 pc then (.sipush 200, 3, [], [], 0, 200, 0, 149) else mm_nop) else (.aload_n 0, 1, [], [], 0, 0, 0, 148)) else (bif Nat.ble 145 pc then
  (bif Nat.beq 145 pc then (.putfield 60, 3, [(10, 17)], [[6115]], 1, 0, 0, 145) else mm_nop) else (bif Nat.beq 143 pc then (.newarray .int, 2, [(0, 200)], [[2066]], 0, 0, 0, 143) else mm_nop))))))) else (bif Nat.ble 71 pc then
  (bif Nat.ble 105 pc then
  (bif Nat.ble 122 pc then
  (bif Nat.ble 131 pc then
  (bif Nat.ble 136 pc then
  (bif Nat.ble 139 pc then
  (bif Nat.ble 140 pc then
  (bif Nat.beq 140 pc then (.sipush 200, 3, [], [], 0, 200, 0, 140) else mm_nop) else (.aload_n 0, 1, [], [], 0, 0, 0, 139)) else (bif Nat.beq 136 pc then (.putfield 57, 3, [(10, 16)], [[6114]], 1, 0, 0, 136) else mm_nop)) else (bif Nat.ble 134 pc then
  (bif Nat.beq 134 pc then (.newarray .int, 2, [(0, 200)], [[2066]], 0, 0, 0, 134) else mm_nop) else (bif Nat.beq 131 pc then (.sipush 200, 3, [], [], 0, 200, 0, 131) else mm_nop))) else (bif Nat.ble 127 pc then
  (bif Nat.ble 130 pc then (.aload_n 0, 1, [], [], 0, 0, 0, 130) else (bif Nat.beq 127 pc then (.putfield 54, 3, [(10, 15)], [[6113]], 1, 0, 0, 127) else mm_nop)) else (bif Nat.ble 125 pc then
  (bif Nat.beq 125 pc then (.newarray .int, 2, [(0, 200)], [[2066]], 0, 0, 0, 125) else mm_nop) else (bif Nat.beq 122 pc then (.sipush 200, 3, [], [], 0, 200, 0, 122) else mm_nop)))) else (bif Nat.ble 113 pc then
  (bif Nat.ble 118 pc then
  (bif Nat.ble 121 pc then (.aload_n 0, 1, [], [], 0, 0, 0, 121) else (bif Nat.beq 118 pc then (.putfield 51, 3, [(10, 14)], [[6112]], 1, 0, 0, 118) else mm_nop)) else (bif Nat.ble 116 pc then
  (bif Nat.beq 116 pc then (.newarray .int, 2, [(0, 200)], [[2066]], 0, 0, 0, 116) else mm_nop) else (bif Nat.beq 113 pc then (.sipush 200, 3, [], [], 0, 200, 0, 113) else mm_nop))) else (bif Nat.ble 109 pc then
  (bif Nat.ble 112 pc then (.aload_n 0, 1, [], [], 0, 0, 0, 112) else (bif Nat.beq 109 pc then (.putfield 48, 3, [(10, 12)], [[6110]], 1, 0, 0, 109) else mm_nop)) else (bif Nat.ble 107 pc then
  (bif Nat.beq 107 pc then (.newarray .int, 2, [(0, 64)], [[2066]], 0, 0, 0, 107) else mm_nop) else (bif Nat.beq 105 pc then (.bipush 64, 2, [], [], 0, 64, 0, 105) else mm_nop))))) else (bif Nat.ble 89 pc then
  (bif Nat.ble 97 pc then
  (bif Nat.ble 101 pc then
  (bif Nat.ble 104 pc then (.aload_n 0, 1, [], [], 0, 0, 0, 104) else (bif Nat.beq 101 pc then (.putfield 44, 3, [(10, 11)], [[6109]], 1, 0, 0, 101) else mm_nop)) else (bif Nat.ble 99 pc then
  (bif Nat.beq 99 pc then (.newarray .boolean, 2, [(2, 64)], [[7060]], 0, 0, 0, 99) else mm_nop) else (bif Nat.beq 97 pc then (.bipush 64, 2, [], [], 0, 64, 0, 97) else mm_nop))) else (bif Nat.ble 93 pc then
  (bif Nat.ble 96 pc then (.aload_n 0, 1, [], [], 0, 0, 0, 96) else (bif Nat.beq 93 pc then (.putfield 41, 3, [(10, 10)], [[6108]], 1, 0, 0, 93) else mm_nop)) else (bif Nat.ble 91 pc then
  (bif Nat.beq 91 pc then (.newarray .int, 2, [(0, 64)], [[2066]], 0, 0, 0, 91) else mm_nop) else (bif Nat.beq 89 pc then (.bipush 64, 2, [], [], 0, 64, 0, 89) else mm_nop)))) else (bif Nat.ble 80 pc then
  (bif Nat.ble 85 pc then
  (bif Nat.ble 88 pc then (.aload_n 0, 1, [], [], 0, 0, 0, 88) else (bif Nat.beq 85 pc then (.putfield 38, 3, [(10, 9)], [[6107]], 1, 0, 0, 85) else mm_nop)) else (bif Nat.ble 83 pc then
  (bif Nat.beq 83 pc then (.newarray .int, 2, [(0, 16384)], [[2066]], 0, 0, 0, 83) else mm_nop) else (bif Nat.beq 80 pc then (.sipush 16384, 3, [], [], 0, 16384, 0, 80) else mm_nop))) else (bif Nat.ble 76 pc then
  (bif Nat.ble 79 pc then (.aload_n 0, 1, [], [], 0, 0, 0, 79) else (bif Nat.beq 76 pc then (.putfield 35, 3, [(10, 8)], [[6106]], 1, 0, 0, 76) else mm_nop)) else (bif Nat.ble 74 pc then
  (bif Nat.beq 74 pc then (.newarray .int, 2, [(0, 8000)], [[2066]], 0, 0, 0, 74) else mm_nop) else (bif Nat.beq 71 pc then (.sipush 8000, 3, [], [], 0, 8000, 0, 71) else mm_nop)))))) else (bif Nat.ble 34 pc then
  (bif Nat.ble 52 pc then
  (bif Nat.ble 61 pc then
  (bif Nat.ble 65 pc then
  (bif Nat.ble 67 pc then
  (bif Nat.ble 70 pc then (.aload_n 0, 1, [], [], 0, 0, 0, 70) else (bif Nat.beq 67 pc then (.putfield 32, 3, [(10, 7)], [[6105]], 1, 0, 0, 67) else mm_nop)) else (bif Nat.beq 65 pc then (.newarray .int, 2, [(0, 8000)], [[2066]], 0, 0, 0, 65) else mm_nop)) else (bif Nat.ble 62 pc then
  (bif Nat.beq 62 pc then (.sipush 8000, 3, [], [], 0, 8000, 0, 62) else mm_nop) else (.aload_n 0, 1, [], [], 0, 0, 0, 61))) else (bif Nat.ble 56 pc then
  (bif Nat.ble 58 pc then
  (bif Nat.beq 58 pc then (.putfield 29, 3, [(10, 6)], [[6104]], 1, 0, 0, 58) else mm_nop) else (bif Nat.beq 56 pc then (.newarray .int, 2, [(0, 8000)], [[2066]], 0, 0, 0, 56) else mm_nop)) else (bif Nat.ble 53 pc then
  (bif Nat.beq 53 pc then (.sipush 8000, 3, [], [], 0, 8000, 0, 53) else mm_nop) else (.aload_n 0, 1, [], [], 0, 0, 0, 52)))) else (bif Nat.ble 43 pc then
  (bif Nat.ble 47 pc then
  (bif Nat.ble 49 pc then
  (bif Nat.beq 49 pc then (.putfield 26, 3, [(10, 5)], [[6103]], 1, 0, 0, 49) else mm_nop) else (bif Nat.beq 47 pc then (.newarray .int, 2, [(0, 8000)], [[2066]], 0, 0, 0, 47) else mm_nop)) else (bif Nat.ble 44 pc then
  (bif Nat.beq 44 pc then (.sipush 8000, 3, [], [], 0, 8000, 0, 44) else mm_nop) else (.aload_n 0, 1, [], [], 0, 0, 0, 43))) else (bif Nat.ble 38 pc then
  (bif Nat.ble 40 pc then
  (bif Nat.beq 40 pc then (.putfield 23, 3, [(10, 4)], [[6102]], 1, 0, 0, 40) else mm_nop) else (bif Nat.beq 38 pc then (.newarray .int, 2, [(0, 8000)], [[2066]], 0, 0, 0, 38) else mm_nop)) else (bif Nat.ble 35 pc then
  (bif Nat.beq 35 pc then (.sipush 8000, 3, [], [], 0, 8000, 0, 35) else mm_nop) else (.aload_n 0, 1, [], [], 0, 0, 0, 34))))) else (bif Nat.ble 16 pc then
  (bif Nat.ble 25 pc then
  (bif Nat.ble 29 pc then
  (bif Nat.ble 31 pc then
  (bif Nat.beq 31 pc then (.putfield 20, 3, [(10, 3)], [[6101]], 1, 0, 0, 31) else mm_nop) else (bif Nat.beq 29 pc then (.newarray .int, 2, [(0, 8000)], [[2066]], 0, 0, 0, 29) else mm_nop)) else (bif Nat.ble 26 pc then
  (bif Nat.beq 26 pc then (.sipush 8000, 3, [], [], 0, 8000, 0, 26) else mm_nop) else (.aload_n 0, 1, [], [], 0, 0, 0, 25))) else (bif Nat.ble 20 pc then
  (bif Nat.ble 22 pc then
  (bif Nat.beq 22 pc then (.putfield 16, 3, [(10, 2)], [[6100]], 1, 0, 0, 22) else mm_nop) else (bif Nat.beq 20 pc then (.newarray .int, 2, [(0, 8000)], [[2066]], 0, 0, 0, 20) else mm_nop)) else (bif Nat.ble 17 pc then
  (bif Nat.beq 17 pc then (.sipush 8000, 3, [], [], 0, 8000, 0, 17) else mm_nop) else (.aload_n 0, 1, [], [], 0, 0, 0, 16)))) else (bif Nat.ble 6 pc then
  (bif Nat.ble 10 pc then
  (bif Nat.ble 13 pc then
  (bif Nat.beq 13 pc then (.putfield 13, 3, [(10, 1)], [[6099]], 0, 0, 0, 13) else mm_nop) else (bif Nat.beq 10 pc then (.sipush 200, 3, [], [], 0, 200, 0, 10) else mm_nop)) else (bif Nat.ble 9 pc then (.aload_n 0, 1, [], [], 0, 0, 0, 9) else (bif Nat.beq 6 pc then (.putfield 7, 3, [(10, 0)], [[6098]], 0, 0, 0, 6) else mm_nop))) else (bif Nat.ble 4 pc then
  (bif Nat.ble 5 pc then (.iconst 4, 1, [], [], 0, 4, 0, 5) else (.aload_n 0, 1, [], [], 0, 0, 0, 4)) else (bif Nat.ble 1 pc then
  (bif Nat.beq 1 pc then (.invokespecial 1, 3, [], [[6097, 2022, 2023]], 0, 0, 0, 1) else mm_nop) else (.aload_n 0, 1, [], [], 0, 0, 0, 0)))))))))
def mm_k165 : List mm_E := (List.range 530).map mm_f165
def mm_m165 : mm_M := (yX12_init, cX12_init, 2, none, mm_k165, 0, 49, 96038, 6096)
/-- TypeCopierModel.mixed.(III)I -/
def mm_f166 : Nat → mm_E := fun pc => (bif Nat.ble 11 pc then
  (bif Nat.ble 17 pc then
  (bif Nat.ble 21 pc then
  (bif Nat.ble 22 pc then (.ireturn, 1, [], [], 0, 0, 0, 22) else (.irem, 1, [], [], 0, 0, 0, 21)) else (bif Nat.ble 18 pc then
  (bif Nat.beq 18 pc then (.sipush 16384, 3, [], [], 0, 16384, 0, 18) else mm_nop) else (.iand, 1, [], [], 0, 0, 0, 17))) else (bif Nat.ble 14 pc then
  (bif Nat.ble 15 pc then
  (bif Nat.beq 15 pc then (.ldc 169, 2, [], [[7088]], 0, 2147483647, 0, 15) else mm_nop) else (.iadd, 1, [], [], 0, 0, 0, 14)) else (bif Nat.ble 13 pc then (.imul, 1, [], [], 0, 0, 0, 13) else (bif Nat.beq 11 pc then (.ldc 168, 2, [], [[7087]], 0, 104729, 0, 11) else mm_nop)))) else (bif Nat.ble 5 pc then
  (bif Nat.ble 9 pc then
  (bif Nat.ble 10 pc then (.iload_n 2, 1, [], [], 2, 0, 0, 10) else (.iadd, 1, [], [], 0, 0, 0, 9)) else (bif Nat.ble 8 pc then (.imul, 1, [], [], 0, 0, 0, 8) else (bif Nat.beq 5 pc then (.sipush 7919, 3, [], [], 0, 7919, 0, 5) else mm_nop))) else (bif Nat.ble 3 pc then
  (bif Nat.ble 4 pc then (.iload_n 1, 1, [], [], 1, 0, 0, 4) else (.imul, 1, [], [], 0, 0, 0, 3)) else (bif Nat.ble 1 pc then
  (bif Nat.beq 1 pc then (.bipush 31, 2, [], [], 0, 31, 0, 1) else mm_nop) else (.iload_n 0, 1, [], [], 0, 0, 0, 0)))))
def mm_k166 : List mm_E := (List.range 23).map mm_f166
def mm_m166 : mm_M := (yX12_mixed, cX12_mixed, 3, (some .int), mm_k166, 3, 0, 0, 7086)
/-- TypeCopierModel.forgets.()V -/
def mm_f167 : Nat → mm_E := fun pc => (bif Nat.ble 23 pc then
  (bif Nat.ble 36 pc then
  (bif Nat.ble 41 pc then
  (bif Nat.ble 47 pc then
  (bif Nat.ble 50 pc then (.return_, 1, [], [], 0, 0, 0, 50) else (bif Nat.beq 47 pc then (.goto (-16), 3, [(0, 31)], [], 0, 0, 0, 47) else mm_nop)) else (bif Nat.ble 44 pc then
  (bif Nat.beq 44 pc then (.iinc 1 1, 3, [], [], 1, 1, 0, 44) else mm_nop) else (bif Nat.beq 41 pc then (.invokevirtual 170, 3, [(10, 168)], [[7080, 7082, 1022, 2015]], 1, 0, 0, 41) else mm_nop))) else (bif Nat.ble 39 pc then
  (bif Nat.ble 40 pc then (.iload_n 1, 1, [], [], 1, 0, 0, 40) else (.aload_n 0, 1, [], [], 0, 0, 0, 39)) else (bif Nat.beq 36 pc then (.if_icmp .ge 14, 3, [(0, 50)], [], 0, 0, 0, 36) else mm_nop))) else (bif Nat.ble 30 pc then
  (bif Nat.ble 32 pc then
  (bif Nat.ble 33 pc then
  (bif Nat.beq 33 pc then (.getfield 7, 3, [(10, 0)], [[6098]], 0, 0, 0, 33) else mm_nop) else (.aload_n 0, 1, [], [], 0, 0, 0, 32)) else (bif Nat.ble 31 pc then (.iload_n 1, 1, [], [], 1, 0, 0, 31) else (.istore_n 1, 1, [], [], 1, 0, 0, 30))) else (bif Nat.ble 26 pc then
  (bif Nat.ble 29 pc then (.iconst 0, 1, [], [], 0, 0, 0, 29) else (bif Nat.beq 26 pc then (.goto (-17), 3, [(0, 9)], [], 0, 0, 0, 26) else mm_nop)) else (bif Nat.beq 23 pc then (.iinc 1 1, 3, [], [], 1, 1, 0, 23) else mm_nop)))) else (bif Nat.ble 10 pc then
  (bif Nat.ble 17 pc then
  (bif Nat.ble 21 pc then
  (bif Nat.ble 22 pc then (.iastore, 1, [], [], 0, 0, 0, 22) else (.iconst 0, 1, [], [], 0, 0, 0, 21)) else (bif Nat.ble 20 pc then (.iload_n 1, 1, [], [], 1, 0, 0, 20) else (bif Nat.beq 17 pc then (.getfield 38, 3, [(10, 9)], [[6107]], 0, 0, 0, 17) else mm_nop))) else (bif Nat.ble 13 pc then
  (bif Nat.ble 16 pc then (.aload_n 0, 1, [], [], 0, 0, 0, 16) else (bif Nat.beq 13 pc then (.if_icmp .ge 16, 3, [(0, 29)], [], 0, 0, 0, 13) else mm_nop)) else (bif Nat.beq 10 pc then (.sipush 16384, 3, [], [], 0, 16384, 0, 10) else mm_nop))) else (bif Nat.ble 7 pc then
  (bif Nat.ble 8 pc then
  (bif Nat.ble 9 pc then (.iload_n 1, 1, [], [], 1, 0, 0, 9) else (.istore_n 1, 1, [], [], 1, 0, 0, 8)) else (.iconst 0, 1, [], [], 0, 0, 0, 7)) else (bif Nat.ble 1 pc then
  (bif Nat.ble 4 pc then
  (bif Nat.beq 4 pc then (.putfield 13, 3, [(10, 1)], [[6099]], 0, 0, 0, 4) else mm_nop) else (bif Nat.beq 1 pc then (.sipush 200, 3, [], [], 0, 200, 0, 1) else mm_nop)) else (.aload_n 0, 1, [], [], 0, 0, 0, 0)))))
def mm_k167 : List mm_E := (List.range 51).map mm_f167
def mm_m167 : mm_M := (yX12_forgets, cX12_forgets, 2, none, mm_k167, 0, 0, 0, 7079)
/-- TypeCopierModel.notes.(I)V -/
def mm_f168 : Nat → mm_E := fun pc => (bif Nat.ble 27 pc then
  (bif Nat.ble 39 pc then
  (bif Nat.ble 47 pc then
  (bif Nat.ble 49 pc then
  (bif Nat.ble 50 pc then
  (bif Nat.ble 51 pc then (.return_, 1, [], [], 0, 0, 0, 51) else (.iastore, 1, [], [], 0, 0, 0, 50)) else (.iadd, 1, [], [], 0, 0, 0, 49)) else (bif Nat.ble 48 pc then (.iconst 1, 1, [], [], 0, 1, 0, 48) else (.iload_n 1, 1, [], [], 1, 0, 0, 47))) else (bif Nat.ble 43 pc then
  (bif Nat.ble 46 pc then (.iload_n 2, 1, [], [], 2, 0, 0, 46) else (bif Nat.beq 43 pc then (.getfield 38, 3, [(10, 9)], [[6107]], 0, 0, 0, 43) else mm_nop)) else (bif Nat.ble 42 pc then (.aload_n 0, 1, [], [], 0, 0, 0, 42) else (bif Nat.beq 39 pc then (.goto (-17), 3, [(0, 22)], [], 0, 0, 0, 39) else mm_nop)))) else (bif Nat.ble 33 pc then
  (bif Nat.ble 37 pc then
  (bif Nat.ble 38 pc then (.istore_n 2, 1, [], [], 2, 0, 0, 38) else (.iand, 1, [], [], 0, 0, 0, 37)) else (bif Nat.ble 34 pc then
  (bif Nat.beq 34 pc then (.sipush 16383, 3, [], [], 0, 16383, 0, 34) else mm_nop) else (.iadd, 1, [], [], 0, 0, 0, 33))) else (bif Nat.ble 31 pc then
  (bif Nat.ble 32 pc then (.iconst 1, 1, [], [], 0, 1, 0, 32) else (.iload_n 2, 1, [], [], 2, 0, 0, 31)) else (bif Nat.ble 28 pc then
  (bif Nat.beq 28 pc then (.ifCond .eq 14, 3, [(0, 42)], [], 0, 0, 0, 28) else mm_nop) else (.iaload, 1, [], [], 0, 0, 0, 27))))) else (bif Nat.ble 12 pc then
  (bif Nat.ble 18 pc then
  (bif Nat.ble 22 pc then
  (bif Nat.ble 23 pc then
  (bif Nat.ble 26 pc then (.iload_n 2, 1, [], [], 2, 0, 0, 26) else (bif Nat.beq 23 pc then (.getfield 38, 3, [(10, 9)], [[6107]], 0, 0, 0, 23) else mm_nop)) else (.aload_n 0, 1, [], [], 0, 0, 0, 22)) else (bif Nat.ble 21 pc then (.istore_n 2, 1, [], [], 2, 0, 0, 21) else (bif Nat.beq 18 pc then (.invokestatic 174, 3, [(0, 166)], [[7084, 7085, 2015]], 3, 0, 0, 18) else mm_nop))) else (bif Nat.ble 16 pc then
  (bif Nat.ble 17 pc then (.iaload, 1, [], [], 0, 0, 0, 17) else (.iload_n 1, 1, [], [], 1, 0, 0, 16)) else (bif Nat.ble 13 pc then
  (bif Nat.beq 13 pc then (.getfield 23, 3, [(10, 4)], [[6102]], 0, 0, 0, 13) else mm_nop) else (.aload_n 0, 1, [], [], 0, 0, 0, 12)))) else (bif Nat.ble 6 pc then
  (bif Nat.ble 10 pc then
  (bif Nat.ble 11 pc then (.iaload, 1, [], [], 0, 0, 0, 11) else (.iload_n 1, 1, [], [], 1, 0, 0, 10)) else (bif Nat.ble 7 pc then
  (bif Nat.beq 7 pc then (.getfield 20, 3, [(10, 3)], [[6101]], 0, 0, 0, 7) else mm_nop) else (.aload_n 0, 1, [], [], 0, 0, 0, 6))) else (bif Nat.ble 4 pc then
  (bif Nat.ble 5 pc then (.iaload, 1, [], [], 0, 0, 0, 5) else (.iload_n 1, 1, [], [], 1, 0, 0, 4)) else (bif Nat.ble 1 pc then
  (bif Nat.beq 1 pc then (.getfield 16, 3, [(10, 2)], [[6100]], 0, 0, 0, 1) else mm_nop) else (.aload_n 0, 1, [], [], 0, 0, 0, 0))))))
def mm_k168 : List mm_E := (List.range 52).map mm_f168
def mm_m168 : mm_M := (yX12_notes, cX12_notes, 3, none, mm_k168, 1, 0, 0, 7083)
/-- TypeCopierModel.known.(III)I -/
def mm_f169 : Nat → mm_E := fun pc => (bif Nat.ble 40 pc then
  (bif Nat.ble 59 pc then
  (bif Nat.ble 69 pc then
  (bif Nat.ble 75 pc then
  (bif Nat.ble 78 pc then
  (bif Nat.ble 79 pc then (.ireturn, 1, [], [], 0, 0, 0, 79) else (.iconst (-1), 1, [], [], 0, (-1), 0, 78)) else (bif Nat.beq 75 pc then (.goto (-67), 3, [(0, 8)], [], 0, 0, 0, 75) else mm_nop)) else (bif Nat.ble 72 pc then
  (bif Nat.ble 73 pc then
  (bif Nat.beq 73 pc then (.istore 4, 2, [], [], 4, 0, 0, 73) else mm_nop) else (.iand, 1, [], [], 0, 0, 0, 72)) else (bif Nat.beq 69 pc then (.sipush 16383, 3, [], [], 0, 16383, 0, 69) else mm_nop))) else (bif Nat.ble 65 pc then
  (bif Nat.ble 67 pc then
  (bif Nat.ble 68 pc then (.iadd, 1, [], [], 0, 0, 0, 68) else (.iconst 1, 1, [], [], 0, 1, 0, 67)) else (bif Nat.beq 65 pc then (.iload 4, 2, [], [], 4, 0, 0, 65) else mm_nop)) else (bif Nat.ble 62 pc then
  (bif Nat.ble 64 pc then (.ireturn, 1, [], [], 0, 0, 0, 64) else (bif Nat.beq 62 pc then (.iload 5, 2, [], [], 5, 0, 0, 62) else mm_nop)) else (bif Nat.beq 59 pc then (.if_icmp .ne 6, 3, [(0, 65)], [], 0, 0, 0, 59) else mm_nop)))) else (bif Nat.ble 48 pc then
  (bif Nat.ble 55 pc then
  (bif Nat.ble 57 pc then
  (bif Nat.ble 58 pc then (.iload_n 3, 1, [], [], 3, 0, 0, 58) else (.iaload, 1, [], [], 0, 0, 0, 57)) else (bif Nat.beq 55 pc then (.iload 5, 2, [], [], 5, 0, 0, 55) else mm_nop)) else (bif Nat.ble 51 pc then
  (bif Nat.ble 52 pc then
  (bif Nat.beq 52 pc then (.getfield 23, 3, [(10, 4)], [[6102]], 0, 0, 0, 52) else mm_nop) else (.aload_n 0, 1, [], [], 0, 0, 0, 51)) else (bif Nat.beq 48 pc then (.if_icmp .ne 17, 3, [(0, 65)], [], 0, 0, 0, 48) else mm_nop))) else (bif Nat.ble 44 pc then
  (bif Nat.ble 46 pc then
  (bif Nat.ble 47 pc then (.iload_n 2, 1, [], [], 2, 0, 0, 47) else (.iaload, 1, [], [], 0, 0, 0, 46)) else (bif Nat.beq 44 pc then (.iload 5, 2, [], [], 5, 0, 0, 44) else mm_nop)) else (bif Nat.ble 41 pc then
  (bif Nat.beq 41 pc then (.getfield 20, 3, [(10, 3)], [[6101]], 0, 0, 0, 41) else mm_nop) else (.aload_n 0, 1, [], [], 0, 0, 0, 40))))) else (bif Nat.ble 19 pc then
  (bif Nat.ble 29 pc then
  (bif Nat.ble 35 pc then
  (bif Nat.ble 36 pc then
  (bif Nat.ble 37 pc then
  (bif Nat.beq 37 pc then (.if_icmp .ne 28, 3, [(0, 65)], [], 0, 0, 0, 37) else mm_nop) else (.iload_n 1, 1, [], [], 1, 0, 0, 36)) else (.iaload, 1, [], [], 0, 0, 0, 35)) else (bif Nat.ble 30 pc then
  (bif Nat.ble 33 pc then
  (bif Nat.beq 33 pc then (.iload 5, 2, [], [], 5, 0, 0, 33) else mm_nop) else (bif Nat.beq 30 pc then (.getfield 16, 3, [(10, 2)], [[6100]], 0, 0, 0, 30) else mm_nop)) else (.aload_n 0, 1, [], [], 0, 0, 0, 29))) else (bif Nat.ble 25 pc then
  (bif Nat.ble 26 pc then
  (bif Nat.ble 27 pc then
  (bif Nat.beq 27 pc then (.istore 5, 2, [], [], 5, 0, 0, 27) else mm_nop) else (.isub, 1, [], [], 0, 0, 0, 26)) else (.iconst 1, 1, [], [], 0, 1, 0, 25)) else (bif Nat.ble 22 pc then
  (bif Nat.ble 24 pc then (.iaload, 1, [], [], 0, 0, 0, 24) else (bif Nat.beq 22 pc then (.iload 4, 2, [], [], 4, 0, 0, 22) else mm_nop)) else (bif Nat.beq 19 pc then (.getfield 38, 3, [(10, 9)], [[6107]], 0, 0, 0, 19) else mm_nop)))) else (bif Nat.ble 8 pc then
  (bif Nat.ble 14 pc then
  (bif Nat.ble 15 pc then
  (bif Nat.ble 18 pc then (.aload_n 0, 1, [], [], 0, 0, 0, 18) else (bif Nat.beq 15 pc then (.ifCond .eq 63, 3, [(0, 78)], [], 0, 0, 0, 15) else mm_nop)) else (.iaload, 1, [], [], 0, 0, 0, 14)) else (bif Nat.ble 9 pc then
  (bif Nat.ble 12 pc then
  (bif Nat.beq 12 pc then (.iload 4, 2, [], [], 4, 0, 0, 12) else mm_nop) else (bif Nat.beq 9 pc then (.getfield 38, 3, [(10, 9)], [[6107]], 0, 0, 0, 9) else mm_nop)) else (.aload_n 0, 1, [], [], 0, 0, 0, 8))) else (bif Nat.ble 2 pc then
  (bif Nat.ble 3 pc then
  (bif Nat.ble 6 pc then
  (bif Nat.beq 6 pc then (.istore 4, 2, [], [], 4, 0, 0, 6) else mm_nop) else (bif Nat.beq 3 pc then (.invokestatic 174, 3, [(0, 166)], [[7084, 7085, 2015]], 3, 0, 0, 3) else mm_nop)) else (.iload_n 3, 1, [], [], 3, 0, 0, 2)) else (bif Nat.ble 1 pc then (.iload_n 2, 1, [], [], 2, 0, 0, 1) else (.iload_n 1, 1, [], [], 1, 0, 0, 0))))))
def mm_k169 : List mm_E := (List.range 80).map mm_f169
def mm_m169 : mm_M := (yX12_known, cX12_known, 6, (some .int), mm_k169, 3, 0, 0, 7092)
/-- TypeCopierModel.most.(II)I -/
def mm_f170 : Nat → mm_E := fun pc => (bif Nat.ble 5 pc then
  (bif Nat.ble 9 pc then
  (bif Nat.ble 10 pc then (.ireturn, 1, [], [], 0, 0, 0, 10) else (.iload_n 1, 1, [], [], 1, 0, 0, 9)) else (bif Nat.ble 6 pc then
  (bif Nat.beq 6 pc then (.goto 4, 3, [(0, 10)], [], 0, 0, 0, 6) else mm_nop) else (.iload_n 0, 1, [], [], 0, 0, 0, 5))) else (bif Nat.ble 1 pc then
  (bif Nat.ble 2 pc then
  (bif Nat.beq 2 pc then (.if_icmp .le 7, 3, [(0, 9)], [], 0, 0, 0, 2) else mm_nop) else (.iload_n 1, 1, [], [], 1, 0, 0, 1)) else (.iload_n 0, 1, [], [], 0, 0, 0, 0)))
def mm_k170 : List mm_E := (List.range 11).map mm_f170
def mm_m170 : mm_M := (yX12_most, cX12_most, 2, (some .int), mm_k170, 2, 0, 0, 7095)
/-- TypeCopierModel.under.(I)I -/
def mm_f171 : Nat → mm_E := fun pc => (bif Nat.ble 8 pc then
  (bif Nat.ble 10 pc then
  (bif Nat.ble 11 pc then (.ireturn, 1, [], [], 0, 0, 0, 11) else (.iadd, 1, [], [], 0, 0, 0, 10)) else (bif Nat.ble 9 pc then (.iconst 1, 1, [], [], 0, 1, 0, 9) else (.iload_n 0, 1, [], [], 0, 0, 0, 8))) else (bif Nat.ble 4 pc then
  (bif Nat.ble 5 pc then
  (bif Nat.beq 5 pc then (.goto 6, 3, [(0, 11)], [], 0, 0, 0, 5) else mm_nop) else (.iconst 0, 1, [], [], 0, 0, 0, 4)) else (bif Nat.ble 1 pc then
  (bif Nat.beq 1 pc then (.ifCond .ne 7, 3, [(0, 8)], [], 0, 0, 0, 1) else mm_nop) else (.iload_n 0, 1, [], [], 0, 0, 0, 0))))
def mm_k171 : List mm_E := (List.range 12).map mm_f171
def mm_m171 : mm_M := (yX12_under, cX12_under, 1, (some .int), mm_k171, 1, 0, 0, 7102)
/-- TypeCopierModel.lays.(IIII)V -/
def mm_f172 : Nat → mm_E := fun pc => (bif Nat.ble 106 pc then
  (bif Nat.ble 161 pc then
  (bif Nat.ble 192 pc then
  (bif Nat.ble 205 pc then
  (bif Nat.ble 211 pc then
  (bif Nat.ble 213 pc then
  (bif Nat.ble 216 pc then (.return_, 1, [], [], 0, 0, 0, 216) else (bif Nat.beq 213 pc then (.invokevirtual 170, 3, [(10, 168)], [[7080, 7082, 1022, 2015]], 1, 0, 0, 213) else mm_nop)) else (bif Nat.ble 212 pc then (.iload_n 1, 1, [], [], 1, 0, 0, 212) else (.aload_n 0, 1, [], [], 0, 0, 0, 211))) else (bif Nat.ble 209 pc then
  (bif Nat.ble 210 pc then (.iastore, 1, [], [], 0, 0, 0, 210) else (.iconst 1, 1, [], [], 0, 1, 0, 209)) else (bif Nat.ble 206 pc then
  (bif Nat.beq 206 pc then (.goto 4, 3, [(0, 210)], [], 0, 0, 0, 206) else mm_nop) else (.iadd, 1, [], [], 0, 0, 0, 205)))) else (bif Nat.ble 198 pc then
  (bif Nat.ble 202 pc then
  (bif Nat.ble 204 pc then (.iaload, 1, [], [], 0, 0, 0, 204) else (bif Nat.beq 202 pc then (.iload 4, 2, [], [], 4, 0, 0, 202) else mm_nop)) else (bif Nat.ble 199 pc then
  (bif Nat.beq 199 pc then (.getfield 35, 3, [(10, 8)], [[6106]], 0, 0, 0, 199) else mm_nop) else (.aload_n 0, 1, [], [], 0, 0, 0, 198))) else (bif Nat.ble 196 pc then
  (bif Nat.ble 197 pc then (.iaload, 1, [], [], 0, 0, 0, 197) else (.iload_n 3, 1, [], [], 3, 0, 0, 196)) else (bif Nat.ble 193 pc then
  (bif Nat.beq 193 pc then (.getfield 35, 3, [(10, 8)], [[6106]], 0, 0, 0, 193) else mm_nop) else (.aload_n 0, 1, [], [], 0, 0, 0, 192))))) else (bif Nat.ble 174 pc then
  (bif Nat.ble 183 pc then
  (bif Nat.ble 187 pc then
  (bif Nat.ble 189 pc then
  (bif Nat.beq 189 pc then (.ifCond .eq 20, 3, [(0, 209)], [], 0, 0, 0, 189) else mm_nop) else (bif Nat.beq 187 pc then (.iload 5, 2, [], [], 5, 0, 0, 187) else mm_nop)) else (bif Nat.ble 184 pc then
  (bif Nat.beq 184 pc then (.goto 26, 3, [(0, 210)], [], 0, 0, 0, 184) else mm_nop) else (.iconst (-1), 1, [], [], 0, (-1), 0, 183))) else (bif Nat.ble 178 pc then
  (bif Nat.ble 180 pc then
  (bif Nat.beq 180 pc then (.ifCond .eq 7, 3, [(0, 187)], [], 0, 0, 0, 180) else mm_nop) else (bif Nat.beq 178 pc then (.iload 6, 2, [], [], 6, 0, 0, 178) else mm_nop)) else (bif Nat.ble 177 pc then (.iload_n 1, 1, [], [], 1, 0, 0, 177) else (bif Nat.beq 174 pc then (.getfield 35, 3, [(10, 8)], [[6106]], 0, 0, 0, 174) else mm_nop)))) else (bif Nat.ble 167 pc then
  (bif Nat.ble 171 pc then
  (bif Nat.ble 173 pc then (.aload_n 0, 1, [], [], 0, 0, 0, 173) else (bif Nat.beq 171 pc then (.istore 6, 2, [], [], 6, 0, 0, 171) else mm_nop)) else (bif Nat.ble 170 pc then (.iconst 0, 1, [], [], 0, 0, 0, 170) else (bif Nat.beq 167 pc then (.goto 4, 3, [(0, 171)], [], 0, 0, 0, 167) else mm_nop))) else (bif Nat.ble 163 pc then
  (bif Nat.ble 166 pc then (.iconst 1, 1, [], [], 0, 1, 0, 166) else (bif Nat.beq 163 pc then (.ifCond .le 7, 3, [(0, 170)], [], 0, 0, 0, 163) else mm_nop)) else (bif Nat.ble 162 pc then (.iadd, 1, [], [], 0, 0, 0, 162) else (.iaload, 1, [], [], 0, 0, 0, 161)))))) else (bif Nat.ble 133 pc then
  (bif Nat.ble 149 pc then
  (bif Nat.ble 155 pc then
  (bif Nat.ble 157 pc then
  (bif Nat.ble 160 pc then (.iload_n 1, 1, [], [], 1, 0, 0, 160) else (bif Nat.beq 157 pc then (.getfield 32, 3, [(10, 7)], [[6105]], 0, 0, 0, 157) else mm_nop)) else (bif Nat.ble 156 pc then (.aload_n 0, 1, [], [], 0, 0, 0, 156) else (.iaload, 1, [], [], 0, 0, 0, 155))) else (bif Nat.ble 151 pc then
  (bif Nat.ble 154 pc then (.iload_n 1, 1, [], [], 1, 0, 0, 154) else (bif Nat.beq 151 pc then (.getfield 29, 3, [(10, 6)], [[6104]], 0, 0, 0, 151) else mm_nop)) else (bif Nat.ble 150 pc then (.aload_n 0, 1, [], [], 0, 0, 0, 150) else (.iastore, 1, [], [], 0, 0, 0, 149)))) else (bif Nat.ble 141 pc then
  (bif Nat.ble 145 pc then
  (bif Nat.ble 146 pc then
  (bif Nat.beq 146 pc then (.invokestatic 182, 3, [(0, 171)], [[7100, 7101, 2015]], 1, 0, 0, 146) else mm_nop) else (.iaload, 1, [], [], 0, 0, 0, 145)) else (bif Nat.ble 144 pc then (.iload_n 3, 1, [], [], 3, 0, 0, 144) else (bif Nat.beq 141 pc then (.getfield 32, 3, [(10, 7)], [[6105]], 0, 0, 0, 141) else mm_nop))) else (bif Nat.ble 137 pc then
  (bif Nat.ble 140 pc then (.aload_n 0, 1, [], [], 0, 0, 0, 140) else (bif Nat.beq 137 pc then (.goto 9, 3, [(0, 146)], [], 0, 0, 0, 137) else mm_nop)) else (bif Nat.ble 134 pc then
  (bif Nat.beq 134 pc then (.invokestatic 178, 3, [(0, 170)], [[7093, 7094, 2015]], 2, 0, 0, 134) else mm_nop) else (.iaload, 1, [], [], 0, 0, 0, 133))))) else (bif Nat.ble 118 pc then
  (bif Nat.ble 126 pc then
  (bif Nat.ble 128 pc then
  (bif Nat.ble 131 pc then
  (bif Nat.beq 131 pc then (.iload 4, 2, [], [], 4, 0, 0, 131) else mm_nop) else (bif Nat.beq 128 pc then (.getfield 32, 3, [(10, 7)], [[6105]], 0, 0, 0, 128) else mm_nop)) else (bif Nat.ble 127 pc then (.aload_n 0, 1, [], [], 0, 0, 0, 127) else (.iaload, 1, [], [], 0, 0, 0, 126))) else (bif Nat.ble 122 pc then
  (bif Nat.ble 125 pc then (.iload_n 3, 1, [], [], 3, 0, 0, 125) else (bif Nat.beq 122 pc then (.getfield 32, 3, [(10, 7)], [[6105]], 0, 0, 0, 122) else mm_nop)) else (bif Nat.ble 121 pc then (.aload_n 0, 1, [], [], 0, 0, 0, 121) else (bif Nat.beq 118 pc then (.ifCond .eq 22, 3, [(0, 140)], [], 0, 0, 0, 118) else mm_nop)))) else (bif Nat.ble 111 pc then
  (bif Nat.ble 115 pc then
  (bif Nat.ble 116 pc then
  (bif Nat.beq 116 pc then (.iload 5, 2, [], [], 5, 0, 0, 116) else mm_nop) else (.iload_n 1, 1, [], [], 1, 0, 0, 115)) else (bif Nat.ble 112 pc then
  (bif Nat.beq 112 pc then (.getfield 32, 3, [(10, 7)], [[6105]], 0, 0, 0, 112) else mm_nop) else (.aload_n 0, 1, [], [], 0, 0, 0, 111))) else (bif Nat.ble 107 pc then
  (bif Nat.ble 110 pc then (.iastore, 1, [], [], 0, 0, 0, 110) else (bif Nat.beq 107 pc then (.invokestatic 182, 3, [(0, 171)], [[7100, 7101, 2015]], 1, 0, 0, 107) else mm_nop)) else (.iaload, 1, [], [], 0, 0, 0, 106)))))) else (bif Nat.ble 50 pc then
  (bif Nat.ble 76 pc then
  (bif Nat.ble 89 pc then
  (bif Nat.ble 98 pc then
  (bif Nat.ble 102 pc then
  (bif Nat.ble 105 pc then (.iload_n 3, 1, [], [], 3, 0, 0, 105) else (bif Nat.beq 102 pc then (.getfield 29, 3, [(10, 6)], [[6104]], 0, 0, 0, 102) else mm_nop)) else (bif Nat.ble 101 pc then (.aload_n 0, 1, [], [], 0, 0, 0, 101) else (bif Nat.beq 98 pc then (.goto 9, 3, [(0, 107)], [], 0, 0, 0, 98) else mm_nop))) else (bif Nat.ble 94 pc then
  (bif Nat.ble 95 pc then
  (bif Nat.beq 95 pc then (.invokestatic 178, 3, [(0, 170)], [[7093, 7094, 2015]], 2, 0, 0, 95) else mm_nop) else (.iaload, 1, [], [], 0, 0, 0, 94)) else (bif Nat.ble 92 pc then
  (bif Nat.beq 92 pc then (.iload 4, 2, [], [], 4, 0, 0, 92) else mm_nop) else (bif Nat.beq 89 pc then (.getfield 29, 3, [(10, 6)], [[6104]], 0, 0, 0, 89) else mm_nop)))) else (bif Nat.ble 83 pc then
  (bif Nat.ble 87 pc then
  (bif Nat.ble 88 pc then (.aload_n 0, 1, [], [], 0, 0, 0, 88) else (.iaload, 1, [], [], 0, 0, 0, 87)) else (bif Nat.ble 86 pc then (.iload_n 3, 1, [], [], 3, 0, 0, 86) else (bif Nat.beq 83 pc then (.getfield 29, 3, [(10, 6)], [[6104]], 0, 0, 0, 83) else mm_nop))) else (bif Nat.ble 79 pc then
  (bif Nat.ble 82 pc then (.aload_n 0, 1, [], [], 0, 0, 0, 82) else (bif Nat.beq 79 pc then (.ifCond .eq 22, 3, [(0, 101)], [], 0, 0, 0, 79) else mm_nop)) else (bif Nat.ble 77 pc then
  (bif Nat.beq 77 pc then (.iload 5, 2, [], [], 5, 0, 0, 77) else mm_nop) else (.iload_n 1, 1, [], [], 1, 0, 0, 76))))) else (bif Nat.ble 64 pc then
  (bif Nat.ble 70 pc then
  (bif Nat.ble 72 pc then
  (bif Nat.ble 73 pc then
  (bif Nat.beq 73 pc then (.getfield 29, 3, [(10, 6)], [[6104]], 0, 0, 0, 73) else mm_nop) else (.aload_n 0, 1, [], [], 0, 0, 0, 72)) else (bif Nat.ble 71 pc then (.iastore, 1, [], [], 0, 0, 0, 71) else (.iadd, 1, [], [], 0, 0, 0, 70))) else (bif Nat.ble 68 pc then
  (bif Nat.ble 69 pc then (.iaload, 1, [], [], 0, 0, 0, 69) else (.iload_n 3, 1, [], [], 3, 0, 0, 68)) else (bif Nat.ble 65 pc then
  (bif Nat.beq 65 pc then (.getfield 26, 3, [(10, 5)], [[6103]], 0, 0, 0, 65) else mm_nop) else (.aload_n 0, 1, [], [], 0, 0, 0, 64)))) else (bif Nat.ble 55 pc then
  (bif Nat.ble 58 pc then
  (bif Nat.ble 61 pc then
  (bif Nat.beq 61 pc then (.goto 9, 3, [(0, 70)], [], 0, 0, 0, 61) else mm_nop) else (bif Nat.beq 58 pc then (.invokestatic 178, 3, [(0, 170)], [[7093, 7094, 2015]], 2, 0, 0, 58) else mm_nop)) else (bif Nat.ble 57 pc then (.iaload, 1, [], [], 0, 0, 0, 57) else (bif Nat.beq 55 pc then (.iload 4, 2, [], [], 4, 0, 0, 55) else mm_nop))) else (bif Nat.ble 51 pc then
  (bif Nat.ble 52 pc then
  (bif Nat.beq 52 pc then (.getfield 26, 3, [(10, 5)], [[6103]], 0, 0, 0, 52) else mm_nop) else (.aload_n 0, 1, [], [], 0, 0, 0, 51)) else (.iaload, 1, [], [], 0, 0, 0, 50))))) else (bif Nat.ble 22 pc then
  (bif Nat.ble 35 pc then
  (bif Nat.ble 42 pc then
  (bif Nat.ble 46 pc then
  (bif Nat.ble 49 pc then (.iload_n 3, 1, [], [], 3, 0, 0, 49) else (bif Nat.beq 46 pc then (.getfield 26, 3, [(10, 5)], [[6103]], 0, 0, 0, 46) else mm_nop)) else (bif Nat.ble 45 pc then (.aload_n 0, 1, [], [], 0, 0, 0, 45) else (bif Nat.beq 42 pc then (.ifCond .eq 22, 3, [(0, 64)], [], 0, 0, 0, 42) else mm_nop))) else (bif Nat.ble 39 pc then
  (bif Nat.ble 40 pc then
  (bif Nat.beq 40 pc then (.iload 5, 2, [], [], 5, 0, 0, 40) else mm_nop) else (.iconst 1, 1, [], [], 0, 1, 0, 39)) else (bif Nat.ble 38 pc then (.iload_n 1, 1, [], [], 1, 0, 0, 38) else (bif Nat.beq 35 pc then (.getfield 26, 3, [(10, 5)], [[6103]], 0, 0, 0, 35) else mm_nop)))) else (bif Nat.ble 28 pc then
  (bif Nat.ble 32 pc then
  (bif Nat.ble 34 pc then (.aload_n 0, 1, [], [], 0, 0, 0, 34) else (bif Nat.beq 32 pc then (.istore 5, 2, [], [], 5, 0, 0, 32) else mm_nop)) else (bif Nat.ble 31 pc then (.iconst 0, 1, [], [], 0, 0, 0, 31) else (bif Nat.beq 28 pc then (.goto 4, 3, [(0, 32)], [], 0, 0, 0, 28) else mm_nop))) else (bif Nat.ble 24 pc then
  (bif Nat.ble 27 pc then (.iconst 1, 1, [], [], 0, 1, 0, 27) else (bif Nat.beq 24 pc then (.if_icmp .ne 7, 3, [(0, 31)], [], 0, 0, 0, 24) else mm_nop)) else (bif Nat.ble 23 pc then (.iconst 4, 1, [], [], 0, 4, 0, 23) else (.iload_n 2, 1, [], [], 2, 0, 0, 22))))) else (bif Nat.ble 11 pc then
  (bif Nat.ble 15 pc then
  (bif Nat.ble 19 pc then
  (bif Nat.ble 21 pc then (.iastore, 1, [], [], 0, 0, 0, 21) else (bif Nat.beq 19 pc then (.iload 4, 2, [], [], 4, 0, 0, 19) else mm_nop)) else (bif Nat.ble 18 pc then (.iload_n 1, 1, [], [], 1, 0, 0, 18) else (bif Nat.beq 15 pc then (.getfield 23, 3, [(10, 4)], [[6102]], 0, 0, 0, 15) else mm_nop))) else (bif Nat.ble 13 pc then
  (bif Nat.ble 14 pc then (.aload_n 0, 1, [], [], 0, 0, 0, 14) else (.iastore, 1, [], [], 0, 0, 0, 13)) else (bif Nat.ble 12 pc then (.iload_n 3, 1, [], [], 3, 0, 0, 12) else (.iload_n 1, 1, [], [], 1, 0, 0, 11)))) else (bif Nat.ble 5 pc then
  (bif Nat.ble 7 pc then
  (bif Nat.ble 8 pc then
  (bif Nat.beq 8 pc then (.getfield 20, 3, [(10, 3)], [[6101]], 0, 0, 0, 8) else mm_nop) else (.aload_n 0, 1, [], [], 0, 0, 0, 7)) else (bif Nat.ble 6 pc then (.iastore, 1, [], [], 0, 0, 0, 6) else (.iload_n 2, 1, [], [], 2, 0, 0, 5))) else (bif Nat.ble 1 pc then
  (bif Nat.ble 4 pc then (.iload_n 1, 1, [], [], 1, 0, 0, 4) else (bif Nat.beq 1 pc then (.getfield 16, 3, [(10, 2)], [[6100]], 0, 0, 0, 1) else mm_nop)) else (.aload_n 0, 1, [], [], 0, 0, 0, 0)))))))
def mm_k172 : List mm_E := (List.range 217).map mm_f172
def mm_m172 : mm_M := (yX12_lays, cX12_lays, 7, none, mm_k172, 4, 0, 0, 7099)
