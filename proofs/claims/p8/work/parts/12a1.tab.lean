/-! ===== code tables (by program), further ===== -/
/-- TypeCopier$LetterMachine.takePart.(IIZ)V -/
def mm_f63 : Nat → mm_E := fun pc => (bif Nat.ble 12 pc then
  (bif Nat.ble 19 pc then
  (bif Nat.ble 24 pc then
  (bif Nat.ble 27 pc then (.return_, 1, [], [], 0, 0, 0, 27) else (bif Nat.beq 24 pc then (.invokevirtual 36, 3, [(5, 85)], [[5052, 5053, 5055, 5014, 2009]], 1, 0, 0, 24) else mm_nop)) else (bif Nat.ble 21 pc then
  (bif Nat.beq 21 pc then (.invokevirtual 40, 3, [(5, 83)], [[5220, 5221, 5223, 5041, 2009]], 1, 0, 0, 21) else mm_nop) else (bif Nat.beq 19 pc then (.iload 4, 2, [], [], 4, 0, 0, 19) else mm_nop))) else (bif Nat.ble 15 pc then
  (bif Nat.ble 16 pc then
  (bif Nat.beq 16 pc then (.goto 5, 3, [(0, 21)], [], 0, 0, 0, 16) else mm_nop) else (.iadd, 1, [], [], 0, 0, 0, 15)) else (bif Nat.ble 14 pc then (.iconst 1, 1, [], [], 0, 1, 0, 14) else (bif Nat.beq 12 pc then (.iload 4, 2, [], [], 4, 0, 0, 12) else mm_nop)))) else (bif Nat.ble 6 pc then
  (bif Nat.ble 8 pc then
  (bif Nat.ble 9 pc then
  (bif Nat.beq 9 pc then (.ifCond .eq 10, 3, [(0, 19)], [], 0, 0, 0, 9) else mm_nop) else (.iload_n 3, 1, [], [], 3, 0, 0, 8)) else (bif Nat.ble 7 pc then (.aload_n 0, 1, [], [], 0, 0, 0, 7) else (.aload_n 0, 1, [], [], 0, 0, 0, 6))) else (bif Nat.ble 1 pc then
  (bif Nat.ble 4 pc then
  (bif Nat.beq 4 pc then (.istore 4, 2, [], [], 4, 0, 0, 4) else mm_nop) else (bif Nat.beq 1 pc then (.invokevirtual 29, 3, [(5, 86)], [[5034, 5035, 5037, 5038, 2009]], 0, 0, 0, 1) else mm_nop)) else (.aload_n 0, 1, [], [], 0, 0, 0, 0))))
def mm_k63 : List mm_E := (List.range 28).map mm_f63
def mm_m63 : mm_M := (yX5_takePart, cX5_takePart, 5, none, mm_k63, 3, 0, 0, 5219)
/-- TypeCopier$LetterMachine.partAddress.(JIZ)I -/
def mm_f64 : Nat → mm_E := fun pc => (bif Nat.ble 11 pc then
  (bif Nat.ble 16 pc then
  (bif Nat.ble 17 pc then
  (bif Nat.ble 20 pc then (.ireturn, 1, [], [], 0, 0, 0, 20) else (bif Nat.beq 17 pc then (.invokevirtual 40, 3, [(5, 83)], [[5220, 5221, 5223, 5041, 2009]], 1, 0, 0, 17) else mm_nop)) else (.iload_n 3, 1, [], [], 3, 0, 0, 16)) else (bif Nat.ble 12 pc then
  (bif Nat.ble 15 pc then (.aload_n 0, 1, [], [], 0, 0, 0, 15) else (bif Nat.beq 12 pc then (.goto 8, 3, [(0, 20)], [], 0, 0, 0, 12) else mm_nop)) else (.iadd, 1, [], [], 0, 0, 0, 11))) else (bif Nat.ble 6 pc then
  (bif Nat.ble 7 pc then
  (bif Nat.ble 10 pc then (.iconst 1, 1, [], [], 0, 1, 0, 10) else (bif Nat.beq 7 pc then (.invokevirtual 40, 3, [(5, 83)], [[5220, 5221, 5223, 5041, 2009]], 1, 0, 0, 7) else mm_nop)) else (.iload_n 3, 1, [], [], 3, 0, 0, 6)) else (bif Nat.ble 2 pc then
  (bif Nat.ble 5 pc then (.aload_n 0, 1, [], [], 0, 0, 0, 5) else (bif Nat.beq 2 pc then (.ifCond .eq 13, 3, [(0, 15)], [], 0, 0, 0, 2) else mm_nop)) else (bif Nat.beq 0 pc then (.iload 4, 2, [], [], 4, 0, 0, 0) else mm_nop))))
def mm_k64 : List mm_E := (List.range 21).map mm_f64
def mm_m64 : mm_M := (yX5_partAddress, cX5_partAddress, 5, (some .int), mm_k64, 3, 0, 0, 6020)
/-- TypeCopier$Machine.<init>.(LTypeCopier$Nodes;LTypeCopier$Input;LTypeCopier$Report;)V -/
def mm_f65 : Nat → mm_E := fun pc => (bif Nat.ble 34 pc then
  (bif Nat.ble 49 pc then
  (bif Nat.ble 57 pc then
  (bif Nat.ble 59 pc then
  (bif Nat.ble 62 pc then (.return_, 1, [], [], 0, 0, 0, 62) else (bif Nat.beq 59 pc then (.putfield 35, 3, [(5, 2), (1, 2)], [[2224]], 1, 0, 0, 59) else mm_nop)) else (bif Nat.ble 58 pc then (.aload_n 3, 1, [], [], 3, 0, 0, 58) else (.aload_n 0, 1, [], [], 0, 0, 0, 57))) else (bif Nat.ble 53 pc then
  (bif Nat.ble 54 pc then
  (bif Nat.beq 54 pc then (.putfield 31, 3, [(5, 1), (1, 1)], [[2223]], 1, 0, 0, 54) else mm_nop) else (.aload_n 2, 1, [], [], 2, 0, 0, 53)) else (bif Nat.ble 52 pc then (.aload_n 0, 1, [], [], 0, 0, 0, 52) else (bif Nat.beq 49 pc then (.putfield 27, 3, [(5, 0), (1, 0)], [[2218]], 1, 0, 0, 49) else mm_nop)))) else (bif Nat.ble 42 pc then
  (bif Nat.ble 47 pc then
  (bif Nat.ble 48 pc then (.aload_n 1, 1, [], [], 1, 0, 0, 48) else (.aload_n 0, 1, [], [], 0, 0, 0, 47)) else (bif Nat.ble 44 pc then
  (bif Nat.beq 44 pc then (.putfield 24, 3, [(5, 7), (1, 7)], [[2229]], 1, 0, 0, 44) else mm_nop) else (bif Nat.beq 42 pc then (.newarray .int, 2, [(0, 30)], [[2066]], 0, 0, 0, 42) else mm_nop))) else (bif Nat.ble 39 pc then
  (bif Nat.ble 40 pc then
  (bif Nat.beq 40 pc then (.bipush 30, 2, [], [], 0, 30, 0, 40) else mm_nop) else (.aload_n 0, 1, [], [], 0, 0, 0, 39)) else (bif Nat.ble 36 pc then
  (bif Nat.beq 36 pc then (.putfield 21, 3, [(5, 6), (1, 6)], [[2228]], 1, 0, 0, 36) else mm_nop) else (bif Nat.beq 34 pc then (.newarray .int, 2, [(0, 30)], [[2066]], 0, 0, 0, 34) else mm_nop))))) else (bif Nat.ble 17 pc then
  (bif Nat.ble 26 pc then
  (bif Nat.ble 31 pc then
  (bif Nat.ble 32 pc then
  (bif Nat.beq 32 pc then (.bipush 30, 2, [], [], 0, 30, 0, 32) else mm_nop) else (.aload_n 0, 1, [], [], 0, 0, 0, 31)) else (bif Nat.ble 28 pc then
  (bif Nat.beq 28 pc then (.putfield 18, 3, [(5, 5), (1, 5)], [[2227]], 1, 0, 0, 28) else mm_nop) else (bif Nat.beq 26 pc then (.newarray .int, 2, [(0, 600)], [[2066]], 0, 0, 0, 26) else mm_nop))) else (bif Nat.ble 22 pc then
  (bif Nat.ble 23 pc then
  (bif Nat.beq 23 pc then (.sipush 600, 3, [], [], 0, 600, 0, 23) else mm_nop) else (.aload_n 0, 1, [], [], 0, 0, 0, 22)) else (bif Nat.ble 19 pc then
  (bif Nat.beq 19 pc then (.putfield 15, 3, [(5, 4), (1, 4)], [[2226]], 1, 0, 0, 19) else mm_nop) else (bif Nat.beq 17 pc then (.newarray .int, 2, [(0, 600)], [[2066]], 0, 0, 0, 17) else mm_nop)))) else (bif Nat.ble 8 pc then
  (bif Nat.ble 13 pc then
  (bif Nat.ble 14 pc then
  (bif Nat.beq 14 pc then (.sipush 600, 3, [], [], 0, 600, 0, 14) else mm_nop) else (.aload_n 0, 1, [], [], 0, 0, 0, 13)) else (bif Nat.ble 10 pc then
  (bif Nat.beq 10 pc then (.putfield 11, 3, [(5, 3), (1, 3)], [[2225]], 1, 0, 0, 10) else mm_nop) else (bif Nat.beq 8 pc then (.newarray .int, 2, [(0, 8192)], [[2066]], 0, 0, 0, 8) else mm_nop))) else (bif Nat.ble 4 pc then
  (bif Nat.ble 5 pc then
  (bif Nat.beq 5 pc then (.sipush 8192, 3, [], [], 0, 8192, 0, 5) else mm_nop) else (.aload_n 0, 1, [], [], 0, 0, 0, 4)) else (bif Nat.ble 1 pc then
  (bif Nat.beq 1 pc then (.invokespecial 3, 3, [], [[2216, 2022, 2023]], 0, 0, 0, 1) else mm_nop) else (.aload_n 0, 1, [], [], 0, 0, 0, 0))))))
def mm_k65 : List mm_E := (List.range 63).map mm_f65
def mm_m65 : mm_M := (yX6_init, cX6_init, 4, none, mm_k65, 3, 5, 9452, 2215)
/-- TypeCopier$Machine.work.(JJ)I -/
def mm_f66 : Nat → mm_E := fun pc => (bif Nat.ble 58 pc then
  (bif Nat.ble 93 pc then
  (bif Nat.ble 109 pc then
  (bif Nat.ble 117 pc then
  (bif Nat.ble 121 pc then
  (bif Nat.ble 124 pc then (.ireturn, 1, [], [], 0, 0, 0, 124) else (bif Nat.beq 121 pc then (.invokevirtual 93, 3, [(8, 120)], [[6033, 6034, 6035, 2008]], 0, 0, 0, 121) else mm_nop)) else (bif Nat.ble 118 pc then
  (bif Nat.beq 118 pc then (.getfield 35, 3, [(5, 2), (1, 2)], [[2224]], 0, 0, 0, 118) else mm_nop) else (.aload_n 0, 1, [], [], 0, 0, 0, 117))) else (bif Nat.ble 113 pc then
  (bif Nat.ble 114 pc then
  (bif Nat.beq 114 pc then (.invokevirtual 89, 3, [(5, 81), (1, 81)], [[6007, 8124, 32, 6009, 2009], [6007, 8124, 33, 6009, 2009]], 2, 0, 0, 114) else mm_nop) else (.isub, 1, [], [], 0, 0, 0, 113)) else (bif Nat.ble 110 pc then
  (bif Nat.beq 110 pc then (.invokevirtual 85, 3, [(5, 61), (1, 18)], [[5060, 5062, 5067, 5068, 2010, 5061], [5060, 5062, 5063, 5064, 2011, 5061]], 1, 0, 0, 110) else mm_nop) else (.lload_n 3, 1, [], [], 3, 0, 0, 109)))) else (bif Nat.ble 103 pc then
  (bif Nat.ble 105 pc then
  (bif Nat.ble 108 pc then (.aload_n 0, 1, [], [], 0, 0, 0, 108) else (bif Nat.beq 105 pc then (.getfield 39, 3, [(5, 8), (1, 8)], [[2230]], 0, 0, 0, 105) else mm_nop)) else (bif Nat.ble 104 pc then (.aload_n 0, 1, [], [], 0, 0, 0, 104) else (.lload_n 3, 1, [], [], 3, 0, 0, 103))) else (bif Nat.ble 99 pc then
  (bif Nat.ble 102 pc then (.aload_n 0, 1, [], [], 0, 0, 0, 102) else (bif Nat.beq 99 pc then (.ifCond .eq 18, 3, [(0, 117)], [], 0, 0, 0, 99) else mm_nop)) else (bif Nat.ble 96 pc then
  (bif Nat.beq 96 pc then (.invokevirtual 78, 3, [(8, 118)], [[5124, 5125, 5126, 2008]], 0, 0, 0, 96) else mm_nop) else (bif Nat.beq 93 pc then (.getfield 35, 3, [(5, 2), (1, 2)], [[2224]], 0, 0, 0, 93) else mm_nop))))) else (bif Nat.ble 73 pc then
  (bif Nat.ble 83 pc then
  (bif Nat.ble 89 pc then
  (bif Nat.ble 92 pc then (.aload_n 0, 1, [], [], 0, 0, 0, 92) else (bif Nat.beq 89 pc then (.goto (-31), 3, [(0, 58)], [], 0, 0, 0, 89) else mm_nop)) else (bif Nat.ble 86 pc then
  (bif Nat.beq 86 pc then (.iinc 5 1, 3, [], [], 5, 1, 0, 86) else mm_nop) else (bif Nat.beq 83 pc then (.invokevirtual 82, 3, [(5, 69), (1, 69)], [[5128, 8110, 10, 5130, 2009], [5128, 8110, 11, 5130, 2009]], 0, 0, 0, 83) else mm_nop))) else (bif Nat.ble 79 pc then
  (bif Nat.ble 82 pc then (.aload_n 0, 1, [], [], 0, 0, 0, 82) else (bif Nat.beq 79 pc then (.ifCond .eq 13, 3, [(0, 92)], [], 0, 0, 0, 79) else mm_nop)) else (bif Nat.ble 76 pc then
  (bif Nat.beq 76 pc then (.invokevirtual 78, 3, [(8, 118)], [[5124, 5125, 5126, 2008]], 0, 0, 0, 76) else mm_nop) else (bif Nat.beq 73 pc then (.getfield 35, 3, [(5, 2), (1, 2)], [[2224]], 0, 0, 0, 73) else mm_nop)))) else (bif Nat.ble 65 pc then
  (bif Nat.ble 69 pc then
  (bif Nat.ble 72 pc then (.aload_n 0, 1, [], [], 0, 0, 0, 72) else (bif Nat.beq 69 pc then (.ifCond .le 23, 3, [(0, 92)], [], 0, 0, 0, 69) else mm_nop)) else (bif Nat.ble 66 pc then
  (bif Nat.beq 66 pc then (.getfield 46, 3, [(5, 10), (1, 10)], [[2232]], 0, 0, 0, 66) else mm_nop) else (.aload_n 0, 1, [], [], 0, 0, 0, 65))) else (bif Nat.ble 60 pc then
  (bif Nat.ble 62 pc then
  (bif Nat.beq 62 pc then (.if_icmp .ge 30, 3, [(0, 92)], [], 0, 0, 0, 62) else mm_nop) else (bif Nat.beq 60 pc then (.ldc 77, 2, [], [[5123]], 0, 100000, 0, 60) else mm_nop)) else (bif Nat.beq 58 pc then (.iload 5, 2, [], [], 5, 0, 0, 58) else mm_nop))))) else (bif Nat.ble 29 pc then
  (bif Nat.ble 43 pc then
  (bif Nat.ble 49 pc then
  (bif Nat.ble 55 pc then
  (bif Nat.ble 56 pc then
  (bif Nat.beq 56 pc then (.istore 5, 2, [], [], 5, 0, 0, 56) else mm_nop) else (.iconst 0, 1, [], [], 0, 0, 0, 55)) else (bif Nat.ble 52 pc then
  (bif Nat.beq 52 pc then (.invokevirtual 74, 3, [(5, 68), (1, 68)], [[5115, 8109, 8, 5117, 2009], [5115, 8109, 9, 5117, 2009]], 1, 0, 0, 52) else mm_nop) else (bif Nat.beq 49 pc then (.invokevirtual 70, 3, [(5, 56), (1, 13)], [[5100, 5102, 5111, 5112, 2010, 5101], [5100, 5102, 5103, 5104, 2011, 5101]], 1, 0, 0, 49) else mm_nop))) else (bif Nat.ble 47 pc then
  (bif Nat.ble 48 pc then (.iconst 0, 1, [], [], 0, 0, 0, 48) else (.aload_n 0, 1, [], [], 0, 0, 0, 47)) else (bif Nat.ble 46 pc then (.aload_n 0, 1, [], [], 0, 0, 0, 46) else (bif Nat.beq 43 pc then (.invokevirtual 66, 3, [(5, 67), (1, 67)], [[5074, 8108, 6, 5076, 2009], [5074, 8108, 7, 5076, 2009]], 1, 0, 0, 43) else mm_nop)))) else (bif Nat.ble 37 pc then
  (bif Nat.ble 41 pc then
  (bif Nat.ble 42 pc then (.iconst 0, 1, [], [], 0, 0, 0, 42) else (.aload_n 0, 1, [], [], 0, 0, 0, 41)) else (bif Nat.ble 38 pc then
  (bif Nat.beq 38 pc then (.invokevirtual 62, 3, [(5, 80), (1, 80)], [[5004, 8105, 0, 5006, 2009], [5004, 8105, 1, 5006, 2009]], 1, 0, 0, 38) else mm_nop) else (.lload_n 1, 1, [], [], 1, 0, 0, 37))) else (bif Nat.ble 33 pc then
  (bif Nat.ble 36 pc then (.aload_n 0, 1, [], [], 0, 0, 0, 36) else (bif Nat.beq 33 pc then (.invokevirtual 57, 3, [(3, 38)], [[5000, 5001, 5002, 2007]], 0, 0, 0, 33) else mm_nop)) else (bif Nat.ble 30 pc then
  (bif Nat.beq 30 pc then (.getfield 31, 3, [(5, 1), (1, 1)], [[2223]], 0, 0, 0, 30) else mm_nop) else (.aload_n 0, 1, [], [], 0, 0, 0, 29))))) else (bif Nat.ble 13 pc then
  (bif Nat.ble 19 pc then
  (bif Nat.ble 23 pc then
  (bif Nat.ble 26 pc then
  (bif Nat.beq 26 pc then (.invokevirtual 52, 3, [(8, 117)], [[4236, 4237, 4238, 2008]], 0, 0, 0, 26) else mm_nop) else (bif Nat.beq 23 pc then (.getfield 35, 3, [(5, 2), (1, 2)], [[2224]], 0, 0, 0, 23) else mm_nop)) else (bif Nat.ble 22 pc then (.aload_n 0, 1, [], [], 0, 0, 0, 22) else (bif Nat.beq 19 pc then (.putfield 49, 3, [(5, 11), (1, 11)], [[2233]], 0, 0, 0, 19) else mm_nop))) else (bif Nat.ble 17 pc then
  (bif Nat.ble 18 pc then (.iconst 0, 1, [], [], 0, 0, 0, 18) else (.aload_n 0, 1, [], [], 0, 0, 0, 17)) else (bif Nat.ble 14 pc then
  (bif Nat.beq 14 pc then (.putfield 46, 3, [(5, 10), (1, 10)], [[2232]], 0, 0, 0, 14) else mm_nop) else (.iconst 0, 1, [], [], 0, 0, 0, 13)))) else (bif Nat.ble 5 pc then
  (bif Nat.ble 9 pc then
  (bif Nat.ble 12 pc then (.aload_n 0, 1, [], [], 0, 0, 0, 12) else (bif Nat.beq 9 pc then (.putfield 43, 3, [(5, 9), (1, 9)], [[2231]], 0, 0, 0, 9) else mm_nop)) else (bif Nat.ble 6 pc then
  (bif Nat.beq 6 pc then (.sipush 4096, 3, [], [], 0, 4096, 0, 6) else mm_nop) else (.aload_n 0, 1, [], [], 0, 0, 0, 5))) else (bif Nat.ble 1 pc then
  (bif Nat.ble 2 pc then
  (bif Nat.beq 2 pc then (.putfield 39, 3, [(5, 8), (1, 8)], [[2230]], 0, 0, 0, 2) else mm_nop) else (.iconst 0, 1, [], [], 0, 0, 0, 1)) else (.aload_n 0, 1, [], [], 0, 0, 0, 0))))))
def mm_k66 : List mm_E := (List.range 125).map mm_f66
def mm_m66 : mm_M := (yX6_work, cX6_work, 6, (some .int), mm_k66, 2, 0, 0, 4235)
/-- TypeCopier$Machine.openFunction.(I)V -/
def mm_f67 : Nat → mm_E := fun pc => (bif Nat.ble 39 pc then
  (bif Nat.ble 55 pc then
  (bif Nat.ble 64 pc then
  (bif Nat.ble 69 pc then
  (bif Nat.ble 72 pc then
  (bif Nat.ble 75 pc then (.return_, 1, [], [], 0, 0, 0, 75) else (bif Nat.beq 72 pc then (.invokevirtual 103, 3, [(8, 123)], [[5095, 5096, 5097, 2008]], 1, 0, 0, 72) else mm_nop)) else (bif Nat.beq 69 pc then (.getfield 49, 3, [(5, 11), (1, 11)], [[2233]], 0, 0, 0, 69) else mm_nop)) else (bif Nat.ble 65 pc then
  (bif Nat.ble 68 pc then (.aload_n 0, 1, [], [], 0, 0, 0, 68) else (bif Nat.beq 65 pc then (.getfield 35, 3, [(5, 2), (1, 2)], [[2224]], 0, 0, 0, 65) else mm_nop)) else (.aload_n 0, 1, [], [], 0, 0, 0, 64))) else (bif Nat.ble 59 pc then
  (bif Nat.ble 60 pc then
  (bif Nat.ble 61 pc then
  (bif Nat.beq 61 pc then (.putfield 49, 3, [(5, 11), (1, 11)], [[2233]], 0, 0, 0, 61) else mm_nop) else (.iadd, 1, [], [], 0, 0, 0, 60)) else (.iconst 1, 1, [], [], 0, 1, 0, 59)) else (bif Nat.ble 56 pc then
  (bif Nat.beq 56 pc then (.getfield 49, 3, [(5, 11), (1, 11)], [[2233]], 0, 0, 0, 56) else mm_nop) else (.dup, 1, [], [], 0, 0, 0, 55)))) else (bif Nat.ble 48 pc then
  (bif Nat.ble 52 pc then
  (bif Nat.ble 53 pc then
  (bif Nat.ble 54 pc then (.aload_n 0, 1, [], [], 0, 0, 0, 54) else (.iastore, 1, [], [], 0, 0, 0, 53)) else (.isub, 1, [], [], 0, 0, 0, 52)) else (bif Nat.ble 49 pc then
  (bif Nat.beq 49 pc then (.invokevirtual 100, 3, [(5, 58), (1, 15)], [[5082, 5084, 5092, 5093, 2010, 5083], [5082, 5084, 5085, 5086, 2011, 5083]], 1, 0, 0, 49) else mm_nop) else (.iload_n 1, 1, [], [], 1, 0, 0, 48))) else (bif Nat.ble 43 pc then
  (bif Nat.ble 44 pc then
  (bif Nat.ble 47 pc then (.aload_n 0, 1, [], [], 0, 0, 0, 47) else (bif Nat.beq 44 pc then (.getfield 39, 3, [(5, 8), (1, 8)], [[2230]], 0, 0, 0, 44) else mm_nop)) else (.aload_n 0, 1, [], [], 0, 0, 0, 43)) else (bif Nat.ble 40 pc then
  (bif Nat.beq 40 pc then (.getfield 49, 3, [(5, 11), (1, 11)], [[2233]], 0, 0, 0, 40) else mm_nop) else (.aload_n 0, 1, [], [], 0, 0, 0, 39))))) else (bif Nat.ble 21 pc then
  (bif Nat.ble 30 pc then
  (bif Nat.ble 34 pc then
  (bif Nat.ble 35 pc then
  (bif Nat.ble 36 pc then
  (bif Nat.beq 36 pc then (.getfield 24, 3, [(5, 7), (1, 7)], [[2229]], 0, 0, 0, 36) else mm_nop) else (.aload_n 0, 1, [], [], 0, 0, 0, 35)) else (.iastore, 1, [], [], 0, 0, 0, 34)) else (bif Nat.ble 33 pc then (.iload_n 1, 1, [], [], 1, 0, 0, 33) else (bif Nat.beq 30 pc then (.getfield 49, 3, [(5, 11), (1, 11)], [[2233]], 0, 0, 0, 30) else mm_nop))) else (bif Nat.ble 25 pc then
  (bif Nat.ble 26 pc then
  (bif Nat.ble 29 pc then (.aload_n 0, 1, [], [], 0, 0, 0, 29) else (bif Nat.beq 26 pc then (.getfield 21, 3, [(5, 6), (1, 6)], [[2228]], 0, 0, 0, 26) else mm_nop)) else (.aload_n 0, 1, [], [], 0, 0, 0, 25)) else (bif Nat.ble 24 pc then (.return_, 1, [], [], 0, 0, 0, 24) else (bif Nat.beq 21 pc then (.invokevirtual 97, 3, [(8, 119)], [[5078, 5079, 5080, 2008]], 1, 0, 0, 21) else mm_nop)))) else (bif Nat.ble 11 pc then
  (bif Nat.ble 16 pc then
  (bif Nat.ble 17 pc then
  (bif Nat.ble 20 pc then (.iconst 3, 1, [], [], 0, 3, 0, 20) else (bif Nat.beq 17 pc then (.getfield 35, 3, [(5, 2), (1, 2)], [[2224]], 0, 0, 0, 17) else mm_nop)) else (.aload_n 0, 1, [], [], 0, 0, 0, 16)) else (bif Nat.ble 13 pc then
  (bif Nat.beq 13 pc then (.if_icmp .lt 12, 3, [(0, 25)], [], 0, 0, 0, 13) else mm_nop) else (bif Nat.beq 11 pc then (.bipush 30, 2, [], [], 0, 30, 0, 11) else mm_nop))) else (bif Nat.ble 4 pc then
  (bif Nat.ble 7 pc then
  (bif Nat.ble 8 pc then
  (bif Nat.beq 8 pc then (.getfield 49, 3, [(5, 11), (1, 11)], [[2233]], 0, 0, 0, 8) else mm_nop) else (.aload_n 0, 1, [], [], 0, 0, 0, 7)) else (bif Nat.beq 4 pc then (.ifCond .lt 12, 3, [(0, 16)], [], 0, 0, 0, 4) else mm_nop)) else (bif Nat.ble 1 pc then
  (bif Nat.beq 1 pc then (.getfield 49, 3, [(5, 11), (1, 11)], [[2233]], 0, 0, 0, 1) else mm_nop) else (.aload_n 0, 1, [], [], 0, 0, 0, 0))))))
def mm_k67 : List mm_E := (List.range 76).map mm_f67
def mm_m67 : mm_M := (yX6_openFunction, cX6_openFunction, 2, none, mm_k67, 1, 0, 0, 5077)
/-- TypeCopier$Machine.beginNode.(I)V -/
def mm_f68 : Nat → mm_E := fun pc => (bif Nat.ble 40 pc then
  (bif Nat.ble 57 pc then
  (bif Nat.ble 61 pc then
  (bif Nat.ble 65 pc then
  (bif Nat.ble 66 pc then
  (bif Nat.ble 69 pc then (.return_, 1, [], [], 0, 0, 0, 69) else (bif Nat.beq 66 pc then (.putfield 46, 3, [(5, 10), (1, 10)], [[2232]], 0, 0, 0, 66) else mm_nop)) else (.iadd, 1, [], [], 0, 0, 0, 65)) else (bif Nat.ble 64 pc then (.iconst 1, 1, [], [], 0, 1, 0, 64) else (bif Nat.beq 61 pc then (.getfield 46, 3, [(5, 10), (1, 10)], [[2232]], 0, 0, 0, 61) else mm_nop))) else (bif Nat.ble 59 pc then
  (bif Nat.ble 60 pc then (.dup, 1, [], [], 0, 0, 0, 60) else (.aload_n 0, 1, [], [], 0, 0, 0, 59)) else (bif Nat.ble 58 pc then (.iastore, 1, [], [], 0, 0, 0, 58) else (.iconst 0, 1, [], [], 0, 0, 0, 57)))) else (bif Nat.ble 48 pc then
  (bif Nat.ble 50 pc then
  (bif Nat.ble 53 pc then
  (bif Nat.ble 54 pc then
  (bif Nat.beq 54 pc then (.getfield 46, 3, [(5, 10), (1, 10)], [[2232]], 0, 0, 0, 54) else mm_nop) else (.aload_n 0, 1, [], [], 0, 0, 0, 53)) else (bif Nat.beq 50 pc then (.getfield 18, 3, [(5, 5), (1, 5)], [[2227]], 0, 0, 0, 50) else mm_nop)) else (bif Nat.ble 49 pc then (.aload_n 0, 1, [], [], 0, 0, 0, 49) else (.iastore, 1, [], [], 0, 0, 0, 48))) else (bif Nat.ble 44 pc then
  (bif Nat.ble 47 pc then (.iload_n 1, 1, [], [], 1, 0, 0, 47) else (bif Nat.beq 44 pc then (.getfield 46, 3, [(5, 10), (1, 10)], [[2232]], 0, 0, 0, 44) else mm_nop)) else (bif Nat.ble 43 pc then (.aload_n 0, 1, [], [], 0, 0, 0, 43) else (bif Nat.beq 40 pc then (.getfield 15, 3, [(5, 4), (1, 4)], [[2226]], 0, 0, 0, 40) else mm_nop))))) else (bif Nat.ble 21 pc then
  (bif Nat.ble 31 pc then
  (bif Nat.ble 35 pc then
  (bif Nat.ble 38 pc then
  (bif Nat.ble 39 pc then (.aload_n 0, 1, [], [], 0, 0, 0, 39) else (.return_, 1, [], [], 0, 0, 0, 38)) else (bif Nat.beq 35 pc then (.invokevirtual 97, 3, [(8, 119)], [[5078, 5079, 5080, 2008]], 1, 0, 0, 35) else mm_nop)) else (bif Nat.ble 34 pc then (.iconst 2, 1, [], [], 0, 2, 0, 34) else (bif Nat.beq 31 pc then (.getfield 35, 3, [(5, 2), (1, 2)], [[2224]], 0, 0, 0, 31) else mm_nop))) else (bif Nat.ble 27 pc then
  (bif Nat.ble 30 pc then (.aload_n 0, 1, [], [], 0, 0, 0, 30) else (bif Nat.beq 27 pc then (.if_icmp .lt 12, 3, [(0, 39)], [], 0, 0, 0, 27) else mm_nop)) else (bif Nat.ble 24 pc then
  (bif Nat.beq 24 pc then (.sipush 600, 3, [], [], 0, 600, 0, 24) else mm_nop) else (bif Nat.beq 21 pc then (.getfield 46, 3, [(5, 10), (1, 10)], [[2232]], 0, 0, 0, 21) else mm_nop)))) else (bif Nat.ble 10 pc then
  (bif Nat.ble 14 pc then
  (bif Nat.ble 17 pc then
  (bif Nat.ble 20 pc then (.aload_n 0, 1, [], [], 0, 0, 0, 20) else (bif Nat.beq 17 pc then (.ifCond .lt 13, 3, [(0, 30)], [], 0, 0, 0, 17) else mm_nop)) else (bif Nat.beq 14 pc then (.getfield 46, 3, [(5, 10), (1, 10)], [[2232]], 0, 0, 0, 14) else mm_nop)) else (bif Nat.ble 13 pc then (.aload_n 0, 1, [], [], 0, 0, 0, 13) else (bif Nat.beq 10 pc then (.if_icmp .gt 20, 3, [(0, 30)], [], 0, 0, 0, 10) else mm_nop))) else (bif Nat.ble 4 pc then
  (bif Nat.ble 7 pc then
  (bif Nat.beq 7 pc then (.sipush 600, 3, [], [], 0, 600, 0, 7) else mm_nop) else (bif Nat.beq 4 pc then (.invokevirtual 106, 3, [(8, 121)], [[5119, 5120, 5121, 2008]], 0, 0, 0, 4) else mm_nop)) else (bif Nat.ble 1 pc then
  (bif Nat.beq 1 pc then (.getfield 35, 3, [(5, 2), (1, 2)], [[2224]], 0, 0, 0, 1) else mm_nop) else (.aload_n 0, 1, [], [], 0, 0, 0, 0))))))
def mm_k68 : List mm_E := (List.range 70).map mm_f68
def mm_m68 : mm_M := (yX6_beginNode, cX6_beginNode, 2, none, mm_k68, 1, 0, 0, 5118)
/-- TypeCopier$Machine.takeTurn.()V -/
def mm_f69 : Nat → mm_E := fun pc => (bif Nat.ble 59 pc then
  (bif Nat.ble 96 pc then
  (bif Nat.ble 113 pc then
  (bif Nat.ble 122 pc then
  (bif Nat.ble 124 pc then
  (bif Nat.ble 126 pc then
  (bif Nat.ble 129 pc then (.return_, 1, [], [], 0, 0, 0, 129) else (bif Nat.beq 126 pc then (.invokevirtual 128, 3, [(5, 74), (1, 74)], [[5185, 8118, 20, 5187, 2009], [5185, 8118, 21, 5187, 2009]], 2, 0, 0, 126) else mm_nop)) else (bif Nat.beq 124 pc then (.iload 4, 2, [], [], 4, 0, 0, 124) else mm_nop)) else (bif Nat.ble 123 pc then (.iload_n 2, 1, [], [], 2, 0, 0, 123) else (.aload_n 0, 1, [], [], 0, 0, 0, 122))) else (bif Nat.ble 117 pc then
  (bif Nat.ble 118 pc then
  (bif Nat.ble 119 pc then
  (bif Nat.beq 119 pc then (.putfield 46, 3, [(5, 10), (1, 10)], [[2232]], 0, 0, 0, 119) else mm_nop) else (.isub, 1, [], [], 0, 0, 0, 118)) else (.iconst 1, 1, [], [], 0, 1, 0, 117)) else (bif Nat.ble 114 pc then
  (bif Nat.beq 114 pc then (.getfield 46, 3, [(5, 10), (1, 10)], [[2232]], 0, 0, 0, 114) else mm_nop) else (.dup, 1, [], [], 0, 0, 0, 113)))) else (bif Nat.ble 102 pc then
  (bif Nat.ble 106 pc then
  (bif Nat.ble 109 pc then
  (bif Nat.ble 112 pc then (.aload_n 0, 1, [], [], 0, 0, 0, 112) else (bif Nat.beq 109 pc then (.goto 20, 3, [(0, 129)], [], 0, 0, 0, 109) else mm_nop)) else (bif Nat.beq 106 pc then (.invokevirtual 74, 3, [(5, 68), (1, 68)], [[5115, 8109, 8, 5117, 2009], [5115, 8109, 9, 5117, 2009]], 1, 0, 0, 106) else mm_nop)) else (bif Nat.ble 103 pc then
  (bif Nat.beq 103 pc then (.invokevirtual 124, 3, [(6, 98)], [[5137, 3116, 3117, 2003]], 2, 0, 0, 103) else mm_nop) else (.iload_n 3, 1, [], [], 3, 0, 0, 102))) else (bif Nat.ble 98 pc then
  (bif Nat.ble 101 pc then (.iload_n 2, 1, [], [], 2, 0, 0, 101) else (bif Nat.beq 98 pc then (.getfield 27, 3, [(5, 0), (1, 0)], [[2218]], 0, 0, 0, 98) else mm_nop)) else (bif Nat.ble 97 pc then (.aload_n 0, 1, [], [], 0, 0, 0, 97) else (.aload_n 0, 1, [], [], 0, 0, 0, 96))))) else (bif Nat.ble 76 pc then
  (bif Nat.ble 84 pc then
  (bif Nat.ble 88 pc then
  (bif Nat.ble 90 pc then
  (bif Nat.ble 93 pc then
  (bif Nat.beq 93 pc then (.if_icmp .ge 19, 3, [(0, 112)], [], 0, 0, 0, 93) else mm_nop) else (bif Nat.beq 90 pc then (.invokevirtual 121, 3, [(6, 96)], [[5184, 3110, 3111, 2003]], 1, 0, 0, 90) else mm_nop)) else (bif Nat.beq 88 pc then (.iload 4, 2, [], [], 4, 0, 0, 88) else mm_nop)) else (bif Nat.ble 85 pc then
  (bif Nat.beq 85 pc then (.getfield 27, 3, [(5, 0), (1, 0)], [[2218]], 0, 0, 0, 85) else mm_nop) else (.aload_n 0, 1, [], [], 0, 0, 0, 84))) else (bif Nat.ble 80 pc then
  (bif Nat.ble 83 pc then (.iload_n 3, 1, [], [], 3, 0, 0, 83) else (bif Nat.beq 80 pc then (.goto 49, 3, [(0, 129)], [], 0, 0, 0, 80) else mm_nop)) else (bif Nat.ble 77 pc then
  (bif Nat.beq 77 pc then (.invokevirtual 118, 3, [(5, 71), (1, 71)], [[5139, 8115, 14, 5141, 2009], [5139, 8115, 15, 5141, 2009]], 2, 0, 0, 77) else mm_nop) else (.iload_n 3, 1, [], [], 3, 0, 0, 76)))) else (bif Nat.ble 67 pc then
  (bif Nat.ble 71 pc then
  (bif Nat.ble 74 pc then
  (bif Nat.ble 75 pc then (.iload_n 2, 1, [], [], 2, 0, 0, 75) else (.aload_n 0, 1, [], [], 0, 0, 0, 74)) else (bif Nat.beq 71 pc then (.if_icmp .ne 12, 3, [(0, 83)], [], 0, 0, 0, 71) else mm_nop)) else (bif Nat.ble 69 pc then
  (bif Nat.beq 69 pc then (.bipush 14, 2, [], [], 0, 14, 0, 69) else mm_nop) else (bif Nat.beq 67 pc then (.iload 4, 2, [], [], 4, 0, 0, 67) else mm_nop))) else (bif Nat.ble 61 pc then
  (bif Nat.ble 64 pc then
  (bif Nat.beq 64 pc then (.goto 65, 3, [(0, 129)], [], 0, 0, 0, 64) else mm_nop) else (bif Nat.beq 61 pc then (.invokevirtual 114, 3, [(5, 70), (1, 70)], [[5133, 8111, 12, 5135, 2009], [5133, 8111, 13, 5135, 2009]], 2, 0, 0, 61) else mm_nop)) else (bif Nat.ble 60 pc then (.iload_n 3, 1, [], [], 3, 0, 0, 60) else (.iload_n 2, 1, [], [], 2, 0, 0, 59)))))) else (bif Nat.ble 30 pc then
  (bif Nat.ble 41 pc then
  (bif Nat.ble 50 pc then
  (bif Nat.ble 54 pc then
  (bif Nat.ble 55 pc then
  (bif Nat.ble 58 pc then (.aload_n 0, 1, [], [], 0, 0, 0, 58) else (bif Nat.beq 55 pc then (.if_icmp .ne 12, 3, [(0, 67)], [], 0, 0, 0, 55) else mm_nop)) else (.iconst 5, 1, [], [], 0, 5, 0, 54)) else (bif Nat.ble 52 pc then
  (bif Nat.beq 52 pc then (.iload 4, 2, [], [], 4, 0, 0, 52) else mm_nop) else (bif Nat.beq 50 pc then (.istore 4, 2, [], [], 4, 0, 0, 50) else mm_nop))) else (bif Nat.ble 43 pc then
  (bif Nat.ble 46 pc then
  (bif Nat.ble 47 pc then
  (bif Nat.beq 47 pc then (.invokevirtual 109, 3, [(6, 94)], [[5132, 3128, 3129, 2003]], 1, 0, 0, 47) else mm_nop) else (.iload_n 2, 1, [], [], 2, 0, 0, 46)) else (bif Nat.beq 43 pc then (.getfield 27, 3, [(5, 0), (1, 0)], [[2218]], 0, 0, 0, 43) else mm_nop)) else (bif Nat.ble 42 pc then (.aload_n 0, 1, [], [], 0, 0, 0, 42) else (.iastore, 1, [], [], 0, 0, 0, 41)))) else (bif Nat.ble 34 pc then
  (bif Nat.ble 38 pc then
  (bif Nat.ble 39 pc then
  (bif Nat.ble 40 pc then (.iadd, 1, [], [], 0, 0, 0, 40) else (.iconst 1, 1, [], [], 0, 1, 0, 39)) else (.iload_n 3, 1, [], [], 3, 0, 0, 38)) else (bif Nat.ble 37 pc then (.iload_n 1, 1, [], [], 1, 0, 0, 37) else (bif Nat.beq 34 pc then (.getfield 18, 3, [(5, 5), (1, 5)], [[2227]], 0, 0, 0, 34) else mm_nop))) else (bif Nat.ble 32 pc then
  (bif Nat.ble 33 pc then (.aload_n 0, 1, [], [], 0, 0, 0, 33) else (.istore_n 3, 1, [], [], 3, 0, 0, 32)) else (bif Nat.ble 31 pc then (.iaload, 1, [], [], 0, 0, 0, 31) else (.iload_n 1, 1, [], [], 1, 0, 0, 30))))) else (bif Nat.ble 15 pc then
  (bif Nat.ble 23 pc then
  (bif Nat.ble 25 pc then
  (bif Nat.ble 26 pc then
  (bif Nat.ble 27 pc then
  (bif Nat.beq 27 pc then (.getfield 18, 3, [(5, 5), (1, 5)], [[2227]], 0, 0, 0, 27) else mm_nop) else (.aload_n 0, 1, [], [], 0, 0, 0, 26)) else (.istore_n 2, 1, [], [], 2, 0, 0, 25)) else (bif Nat.ble 24 pc then (.iaload, 1, [], [], 0, 0, 0, 24) else (.iload_n 1, 1, [], [], 1, 0, 0, 23))) else (bif Nat.ble 19 pc then
  (bif Nat.ble 20 pc then
  (bif Nat.beq 20 pc then (.getfield 15, 3, [(5, 4), (1, 4)], [[2226]], 0, 0, 0, 20) else mm_nop) else (.aload_n 0, 1, [], [], 0, 0, 0, 19)) else (bif Nat.ble 18 pc then (.return_, 1, [], [], 0, 0, 0, 18) else (bif Nat.beq 15 pc then (.if_icmp .lt 4, 3, [(0, 19)], [], 0, 0, 0, 15) else mm_nop)))) else (bif Nat.ble 6 pc then
  (bif Nat.ble 8 pc then
  (bif Nat.ble 11 pc then
  (bif Nat.ble 12 pc then
  (bif Nat.beq 12 pc then (.sipush 600, 3, [], [], 0, 600, 0, 12) else mm_nop) else (.iload_n 1, 1, [], [], 1, 0, 0, 11)) else (bif Nat.beq 8 pc then (.ifCond .lt 10, 3, [(0, 18)], [], 0, 0, 0, 8) else mm_nop)) else (bif Nat.ble 7 pc then (.iload_n 1, 1, [], [], 1, 0, 0, 7) else (.istore_n 1, 1, [], [], 1, 0, 0, 6))) else (bif Nat.ble 4 pc then
  (bif Nat.ble 5 pc then (.isub, 1, [], [], 0, 0, 0, 5) else (.iconst 1, 1, [], [], 0, 1, 0, 4)) else (bif Nat.ble 1 pc then
  (bif Nat.beq 1 pc then (.getfield 46, 3, [(5, 10), (1, 10)], [[2232]], 0, 0, 0, 1) else mm_nop) else (.aload_n 0, 1, [], [], 0, 0, 0, 0)))))))
def mm_k69 : List mm_E := (List.range 130).map mm_f69
def mm_m69 : mm_M := (yX6_takeTurn, cX6_takeTurn, 5, none, mm_k69, 0, 0, 0, 5131)
/-- TypeCopier$Machine.takeTurnOfIf.(II)V -/
def mm_f70 : Nat → mm_E := fun pc => (bif Nat.ble 30 pc then
  (bif Nat.ble 46 pc then
  (bif Nat.ble 54 pc then
  (bif Nat.ble 58 pc then
  (bif Nat.ble 59 pc then
  (bif Nat.ble 62 pc then (.return_, 1, [], [], 0, 0, 0, 62) else (bif Nat.beq 59 pc then (.putfield 46, 3, [(5, 10), (1, 10)], [[2232]], 0, 0, 0, 59) else mm_nop)) else (.isub, 1, [], [], 0, 0, 0, 58)) else (bif Nat.ble 57 pc then (.iconst 1, 1, [], [], 0, 1, 0, 57) else (bif Nat.beq 54 pc then (.getfield 46, 3, [(5, 10), (1, 10)], [[2232]], 0, 0, 0, 54) else mm_nop))) else (bif Nat.ble 52 pc then
  (bif Nat.ble 53 pc then (.dup, 1, [], [], 0, 0, 0, 53) else (.aload_n 0, 1, [], [], 0, 0, 0, 52)) else (bif Nat.ble 49 pc then
  (bif Nat.beq 49 pc then (.goto 13, 3, [(0, 62)], [], 0, 0, 0, 49) else mm_nop) else (bif Nat.beq 46 pc then (.invokevirtual 74, 3, [(5, 68), (1, 68)], [[5115, 8109, 8, 5117, 2009], [5115, 8109, 9, 5117, 2009]], 1, 0, 0, 46) else mm_nop)))) else (bif Nat.ble 38 pc then
  (bif Nat.ble 42 pc then
  (bif Nat.ble 43 pc then
  (bif Nat.beq 43 pc then (.invokevirtual 124, 3, [(6, 98)], [[5137, 3116, 3117, 2003]], 2, 0, 0, 43) else mm_nop) else (.iconst 2, 1, [], [], 0, 2, 0, 42)) else (bif Nat.ble 39 pc then
  (bif Nat.beq 39 pc then (.goto 4, 3, [(0, 43)], [], 0, 0, 0, 39) else mm_nop) else (.iconst 1, 1, [], [], 0, 1, 0, 38))) else (bif Nat.ble 32 pc then
  (bif Nat.ble 35 pc then
  (bif Nat.beq 35 pc then (.ifCond .eq 7, 3, [(0, 42)], [], 0, 0, 0, 35) else mm_nop) else (bif Nat.beq 32 pc then (.invokevirtual 131, 3, [(5, 86), (1, 86)], [[5138, 8112, 8114, 5038, 2009], [5138, 8112, 8113, 5038, 2009]], 0, 0, 0, 32) else mm_nop)) else (bif Nat.ble 31 pc then (.aload_n 0, 1, [], [], 0, 0, 0, 31) else (.iload_n 1, 1, [], [], 1, 0, 0, 30))))) else (bif Nat.ble 14 pc then
  (bif Nat.ble 22 pc then
  (bif Nat.ble 26 pc then
  (bif Nat.ble 27 pc then
  (bif Nat.beq 27 pc then (.getfield 27, 3, [(5, 0), (1, 0)], [[2218]], 0, 0, 0, 27) else mm_nop) else (.aload_n 0, 1, [], [], 0, 0, 0, 26)) else (bif Nat.ble 25 pc then (.aload_n 0, 1, [], [], 0, 0, 0, 25) else (bif Nat.beq 22 pc then (.if_icmp .ne 30, 3, [(0, 52)], [], 0, 0, 0, 22) else mm_nop))) else (bif Nat.ble 20 pc then
  (bif Nat.ble 21 pc then (.iconst 1, 1, [], [], 0, 1, 0, 21) else (.iload_n 2, 1, [], [], 2, 0, 0, 20)) else (bif Nat.ble 17 pc then
  (bif Nat.beq 17 pc then (.goto 45, 3, [(0, 62)], [], 0, 0, 0, 17) else mm_nop) else (bif Nat.beq 14 pc then (.invokevirtual 74, 3, [(5, 68), (1, 68)], [[5115, 8109, 8, 5117, 2009], [5115, 8109, 9, 5117, 2009]], 1, 0, 0, 14) else mm_nop)))) else (bif Nat.ble 6 pc then
  (bif Nat.ble 10 pc then
  (bif Nat.ble 11 pc then
  (bif Nat.beq 11 pc then (.invokevirtual 124, 3, [(6, 98)], [[5137, 3116, 3117, 2003]], 2, 0, 0, 11) else mm_nop) else (.iconst 0, 1, [], [], 0, 0, 0, 10)) else (bif Nat.ble 9 pc then (.iload_n 1, 1, [], [], 1, 0, 0, 9) else (bif Nat.beq 6 pc then (.getfield 27, 3, [(5, 0), (1, 0)], [[2218]], 0, 0, 0, 6) else mm_nop))) else (bif Nat.ble 4 pc then
  (bif Nat.ble 5 pc then (.aload_n 0, 1, [], [], 0, 0, 0, 5) else (.aload_n 0, 1, [], [], 0, 0, 0, 4)) else (bif Nat.ble 1 pc then
  (bif Nat.beq 1 pc then (.ifCond .ne 19, 3, [(0, 20)], [], 0, 0, 0, 1) else mm_nop) else (.iload_n 2, 1, [], [], 2, 0, 0, 0))))))
def mm_k70 : List mm_E := (List.range 63).map mm_f70
def mm_m70 : mm_M := (yX6_takeTurnOfIf, cX6_takeTurnOfIf, 3, none, mm_k70, 2, 0, 0, 5136)
/-- TypeCopier$Machine.takeTurnOfCall.(II)V -/
def mm_f71 : Nat → mm_E := fun pc => (bif Nat.ble 38 pc then
  (bif Nat.ble 60 pc then
  (bif Nat.ble 69 pc then
  (bif Nat.ble 73 pc then
  (bif Nat.ble 74 pc then
  (bif Nat.ble 77 pc then (.return_, 1, [], [], 0, 0, 0, 77) else (bif Nat.beq 74 pc then (.putfield 46, 3, [(5, 10), (1, 10)], [[2232]], 0, 0, 0, 74) else mm_nop)) else (.isub, 1, [], [], 0, 0, 0, 73)) else (bif Nat.ble 72 pc then (.iconst 1, 1, [], [], 0, 1, 0, 72) else (bif Nat.beq 69 pc then (.getfield 46, 3, [(5, 10), (1, 10)], [[2232]], 0, 0, 0, 69) else mm_nop))) else (bif Nat.ble 64 pc then
  (bif Nat.ble 67 pc then
  (bif Nat.ble 68 pc then (.dup, 1, [], [], 0, 0, 0, 68) else (.aload_n 0, 1, [], [], 0, 0, 0, 67)) else (bif Nat.beq 64 pc then (.invokevirtual 140, 3, [(5, 73), (1, 73)], [[5161, 8117, 18, 5163, 2009], [5161, 8117, 19, 5163, 2009]], 0, 0, 0, 64) else mm_nop)) else (bif Nat.ble 63 pc then (.aload_n 0, 1, [], [], 0, 0, 0, 63) else (bif Nat.beq 60 pc then (.goto 17, 3, [(0, 77)], [], 0, 0, 0, 60) else mm_nop)))) else (bif Nat.ble 49 pc then
  (bif Nat.ble 51 pc then
  (bif Nat.ble 54 pc then
  (bif Nat.ble 57 pc then
  (bif Nat.beq 57 pc then (.invokevirtual 74, 3, [(5, 68), (1, 68)], [[5115, 8109, 8, 5117, 2009], [5115, 8109, 9, 5117, 2009]], 1, 0, 0, 57) else mm_nop) else (bif Nat.beq 54 pc then (.invokevirtual 70, 3, [(5, 56), (1, 13)], [[5100, 5102, 5111, 5112, 2010, 5101], [5100, 5102, 5103, 5104, 2011, 5101]], 1, 0, 0, 54) else mm_nop)) else (bif Nat.beq 51 pc then (.invokevirtual 134, 3, [(5, 72), (1, 72)], [[5143, 8116, 16, 5145, 2009], [5143, 8116, 17, 5145, 2009]], 0, 0, 0, 51) else mm_nop)) else (bif Nat.ble 50 pc then (.aload_n 0, 1, [], [], 0, 0, 0, 50) else (.aload_n 0, 1, [], [], 0, 0, 0, 49))) else (bif Nat.ble 42 pc then
  (bif Nat.ble 45 pc then
  (bif Nat.ble 48 pc then (.aload_n 0, 1, [], [], 0, 0, 0, 48) else (bif Nat.beq 45 pc then (.ifCond .eq 32, 3, [(0, 77)], [], 0, 0, 0, 45) else mm_nop)) else (bif Nat.beq 42 pc then (.invokevirtual 78, 3, [(8, 118)], [[5124, 5125, 5126, 2008]], 0, 0, 0, 42) else mm_nop)) else (bif Nat.ble 39 pc then
  (bif Nat.beq 39 pc then (.getfield 35, 3, [(5, 2), (1, 2)], [[2224]], 0, 0, 0, 39) else mm_nop) else (.aload_n 0, 1, [], [], 0, 0, 0, 38))))) else (bif Nat.ble 20 pc then
  (bif Nat.ble 27 pc then
  (bif Nat.ble 31 pc then
  (bif Nat.ble 32 pc then
  (bif Nat.ble 35 pc then
  (bif Nat.beq 35 pc then (.invokevirtual 66, 3, [(5, 67), (1, 67)], [[5074, 8108, 6, 5076, 2009], [5074, 8108, 7, 5076, 2009]], 1, 0, 0, 35) else mm_nop) else (bif Nat.beq 32 pc then (.invokevirtual 137, 3, [(5, 57), (1, 14)], [[5147, 5149, 5157, 5158, 2010, 5148], [5147, 5149, 5150, 5151, 2011, 5148]], 2, 0, 0, 32) else mm_nop)) else (.iload_n 1, 1, [], [], 1, 0, 0, 31)) else (bif Nat.ble 28 pc then
  (bif Nat.beq 28 pc then (.invokevirtual 134, 3, [(5, 72), (1, 72)], [[5143, 8116, 16, 5145, 2009], [5143, 8116, 17, 5145, 2009]], 0, 0, 0, 28) else mm_nop) else (.aload_n 0, 1, [], [], 0, 0, 0, 27))) else (bif Nat.ble 22 pc then
  (bif Nat.ble 25 pc then
  (bif Nat.ble 26 pc then (.aload_n 0, 1, [], [], 0, 0, 0, 26) else (.aload_n 0, 1, [], [], 0, 0, 0, 25)) else (bif Nat.beq 22 pc then (.if_icmp .ne 41, 3, [(0, 63)], [], 0, 0, 0, 22) else mm_nop)) else (bif Nat.ble 21 pc then (.iconst 1, 1, [], [], 0, 1, 0, 21) else (.iload_n 2, 1, [], [], 2, 0, 0, 20)))) else (bif Nat.ble 9 pc then
  (bif Nat.ble 11 pc then
  (bif Nat.ble 14 pc then
  (bif Nat.ble 17 pc then
  (bif Nat.beq 17 pc then (.goto 60, 3, [(0, 77)], [], 0, 0, 0, 17) else mm_nop) else (bif Nat.beq 14 pc then (.invokevirtual 74, 3, [(5, 68), (1, 68)], [[5115, 8109, 8, 5117, 2009], [5115, 8109, 9, 5117, 2009]], 1, 0, 0, 14) else mm_nop)) else (bif Nat.beq 11 pc then (.invokevirtual 124, 3, [(6, 98)], [[5137, 3116, 3117, 2003]], 2, 0, 0, 11) else mm_nop)) else (bif Nat.ble 10 pc then (.iconst 0, 1, [], [], 0, 0, 0, 10) else (.iload_n 1, 1, [], [], 1, 0, 0, 9))) else (bif Nat.ble 4 pc then
  (bif Nat.ble 5 pc then
  (bif Nat.ble 6 pc then
  (bif Nat.beq 6 pc then (.getfield 27, 3, [(5, 0), (1, 0)], [[2218]], 0, 0, 0, 6) else mm_nop) else (.aload_n 0, 1, [], [], 0, 0, 0, 5)) else (.aload_n 0, 1, [], [], 0, 0, 0, 4)) else (bif Nat.ble 1 pc then
  (bif Nat.beq 1 pc then (.ifCond .ne 19, 3, [(0, 20)], [], 0, 0, 0, 1) else mm_nop) else (.iload_n 2, 1, [], [], 2, 0, 0, 0))))))
def mm_k71 : List mm_E := (List.range 78).map mm_f71
def mm_m71 : mm_M := (yX6_takeTurnOfCall, cX6_takeTurnOfCall, 3, none, mm_k71, 2, 0, 0, 5142)
/-- TypeCopier$Machine.unit.()I -/
def mm_f72 : Nat → mm_E := fun pc => (bif Nat.ble 12 pc then
  (bif Nat.ble 21 pc then
  (bif Nat.ble 23 pc then
  (bif Nat.ble 26 pc then
  (bif Nat.ble 27 pc then (.ireturn, 1, [], [], 0, 0, 0, 27) else (.iconst (-1), 1, [], [], 0, (-1), 0, 26)) else (bif Nat.beq 23 pc then (.goto 4, 3, [(0, 27)], [], 0, 0, 0, 23) else mm_nop)) else (bif Nat.ble 22 pc then (.iaload, 1, [], [], 0, 0, 0, 22) else (.iload_n 1, 1, [], [], 1, 0, 0, 21))) else (bif Nat.ble 17 pc then
  (bif Nat.ble 18 pc then
  (bif Nat.beq 18 pc then (.getfield 21, 3, [(5, 6), (1, 6)], [[2228]], 0, 0, 0, 18) else mm_nop) else (.aload_n 0, 1, [], [], 0, 0, 0, 17)) else (bif Nat.ble 14 pc then
  (bif Nat.beq 14 pc then (.if_icmp .ge 12, 3, [(0, 26)], [], 0, 0, 0, 14) else mm_nop) else (bif Nat.beq 12 pc then (.bipush 30, 2, [], [], 0, 30, 0, 12) else mm_nop)))) else (bif Nat.ble 6 pc then
  (bif Nat.ble 8 pc then
  (bif Nat.ble 11 pc then (.iload_n 1, 1, [], [], 1, 0, 0, 11) else (bif Nat.beq 8 pc then (.ifCond .lt 18, 3, [(0, 26)], [], 0, 0, 0, 8) else mm_nop)) else (bif Nat.ble 7 pc then (.iload_n 1, 1, [], [], 1, 0, 0, 7) else (.istore_n 1, 1, [], [], 1, 0, 0, 6))) else (bif Nat.ble 4 pc then
  (bif Nat.ble 5 pc then (.isub, 1, [], [], 0, 0, 0, 5) else (.iconst 1, 1, [], [], 0, 1, 0, 4)) else (bif Nat.ble 1 pc then
  (bif Nat.beq 1 pc then (.getfield 49, 3, [(5, 11), (1, 11)], [[2233]], 0, 0, 0, 1) else mm_nop) else (.aload_n 0, 1, [], [], 0, 0, 0, 0)))))
def mm_k72 : List mm_E := (List.range 28).map mm_f72
def mm_m72 : mm_M := (yX6_unit, cX6_unit, 2, (some .int), mm_k72, 0, 0, 0, 5146)
/-- TypeCopier$Machine.closeFunction.()V -/
def mm_f73 : Nat → mm_E := fun pc => (bif Nat.ble 20 pc then
  (bif Nat.ble 28 pc then
  (bif Nat.ble 33 pc then
  (bif Nat.ble 34 pc then
  (bif Nat.ble 37 pc then (.return_, 1, [], [], 0, 0, 0, 37) else (bif Nat.beq 34 pc then (.putfield 49, 3, [(5, 11), (1, 11)], [[2233]], 0, 0, 0, 34) else mm_nop)) else (.isub, 1, [], [], 0, 0, 0, 33)) else (bif Nat.ble 29 pc then
  (bif Nat.ble 32 pc then (.iconst 1, 1, [], [], 0, 1, 0, 32) else (bif Nat.beq 29 pc then (.getfield 49, 3, [(5, 11), (1, 11)], [[2233]], 0, 0, 0, 29) else mm_nop)) else (.dup, 1, [], [], 0, 0, 0, 28))) else (bif Nat.ble 23 pc then
  (bif Nat.ble 24 pc then
  (bif Nat.ble 27 pc then (.aload_n 0, 1, [], [], 0, 0, 0, 27) else (bif Nat.beq 24 pc then (.invokevirtual 146, 3, [(5, 88), (1, 88)], [[5178, 5180, 5182, 5179, 2009], [5178, 5180, 5181, 5179, 2009]], 3, 0, 0, 24) else mm_nop)) else (.iload_n 2, 1, [], [], 2, 0, 0, 23)) else (bif Nat.ble 21 pc then
  (bif Nat.ble 22 pc then (.iload_n 1, 1, [], [], 1, 0, 0, 22) else (.iadd, 1, [], [], 0, 0, 0, 21)) else (.iload_n 2, 1, [], [], 2, 0, 0, 20)))) else (bif Nat.ble 10 pc then
  (bif Nat.ble 17 pc then
  (bif Nat.ble 18 pc then
  (bif Nat.ble 19 pc then (.iload_n 1, 1, [], [], 1, 0, 0, 19) else (.aload_n 0, 1, [], [], 0, 0, 0, 18)) else (.istore_n 2, 1, [], [], 2, 0, 0, 17)) else (bif Nat.ble 11 pc then
  (bif Nat.ble 14 pc then
  (bif Nat.beq 14 pc then (.invokevirtual 143, 3, [(5, 59), (1, 16)], [[5165, 5167, 5175, 5176, 2010, 5166], [5165, 5167, 5168, 5169, 2011, 5166]], 1, 0, 0, 14) else mm_nop) else (bif Nat.beq 11 pc then (.invokevirtual 134, 3, [(5, 72), (1, 72)], [[5143, 8116, 16, 5145, 2009], [5143, 8116, 17, 5145, 2009]], 0, 0, 0, 11) else mm_nop)) else (.aload_n 0, 1, [], [], 0, 0, 0, 10))) else (bif Nat.ble 5 pc then
  (bif Nat.ble 8 pc then
  (bif Nat.ble 9 pc then (.aload_n 0, 1, [], [], 0, 0, 0, 9) else (.istore_n 1, 1, [], [], 1, 0, 0, 8)) else (bif Nat.beq 5 pc then (.invokevirtual 100, 3, [(5, 58), (1, 15)], [[5082, 5084, 5092, 5093, 2010, 5083], [5082, 5084, 5085, 5086, 2011, 5083]], 1, 0, 0, 5) else mm_nop)) else (bif Nat.ble 1 pc then
  (bif Nat.ble 2 pc then
  (bif Nat.beq 2 pc then (.invokevirtual 134, 3, [(5, 72), (1, 72)], [[5143, 8116, 16, 5145, 2009], [5143, 8116, 17, 5145, 2009]], 0, 0, 0, 2) else mm_nop) else (.aload_n 0, 1, [], [], 0, 0, 0, 1)) else (.aload_n 0, 1, [], [], 0, 0, 0, 0)))))
def mm_k73 : List mm_E := (List.range 38).map mm_f73
def mm_m73 : mm_M := (yX6_closeFunction, cX6_closeFunction, 3, none, mm_k73, 0, 0, 0, 5164)
/-- TypeCopier$Machine.finishNode.(II)V -/
def mm_f74 : Nat → mm_E := fun pc => (bif Nat.ble 143 pc then
  (bif Nat.ble 177 pc then
  (bif Nat.ble 196 pc then
  (bif Nat.ble 207 pc then
  (bif Nat.ble 211 pc then
  (bif Nat.ble 214 pc then
  (bif Nat.ble 217 pc then (.return_, 1, [], [], 0, 0, 0, 217) else (bif Nat.beq 214 pc then (.goto 3, 3, [(0, 217)], [], 0, 0, 0, 214) else mm_nop)) else (bif Nat.beq 211 pc then (.invokevirtual 172, 3, [(5, 78), (1, 78)], [[6003, 8123, 30, 6005, 2009], [6003, 8123, 31, 6005, 2009]], 0, 0, 0, 211) else mm_nop)) else (bif Nat.ble 210 pc then (.aload_n 0, 1, [], [], 0, 0, 0, 210) else (bif Nat.beq 207 pc then (.goto 10, 3, [(0, 217)], [], 0, 0, 0, 207) else mm_nop))) else (bif Nat.ble 202 pc then
  (bif Nat.ble 203 pc then
  (bif Nat.ble 204 pc then
  (bif Nat.beq 204 pc then (.invokevirtual 169, 3, [(5, 77), (1, 77)], [[5239, 8122, 28, 6001, 2009], [5239, 8122, 29, 6001, 2009]], 1, 0, 0, 204) else mm_nop) else (.iload_n 1, 1, [], [], 1, 0, 0, 203)) else (.aload_n 0, 1, [], [], 0, 0, 0, 202)) else (bif Nat.ble 199 pc then
  (bif Nat.beq 199 pc then (.goto 18, 3, [(0, 217)], [], 0, 0, 0, 199) else mm_nop) else (bif Nat.beq 196 pc then (.invokevirtual 153, 3, [(5, 85), (1, 85)], [[5013, 5015, 5017, 5014, 2009], [5013, 5015, 5016, 5014, 2009]], 1, 0, 0, 196) else mm_nop)))) else (bif Nat.ble 185 pc then
  (bif Nat.ble 191 pc then
  (bif Nat.ble 192 pc then
  (bif Nat.ble 195 pc then (.iconst 0, 1, [], [], 0, 0, 0, 195) else (bif Nat.beq 192 pc then (.goto 4, 3, [(0, 196)], [], 0, 0, 0, 192) else mm_nop)) else (.iconst 1, 1, [], [], 0, 1, 0, 191)) else (bif Nat.ble 188 pc then
  (bif Nat.beq 188 pc then (.ifCond .ne 7, 3, [(0, 195)], [], 0, 0, 0, 188) else mm_nop) else (bif Nat.beq 185 pc then (.invokevirtual 131, 3, [(5, 86), (1, 86)], [[5138, 8112, 8114, 5038, 2009], [5138, 8112, 8113, 5038, 2009]], 0, 0, 0, 185) else mm_nop))) else (bif Nat.ble 183 pc then
  (bif Nat.ble 184 pc then (.aload_n 0, 1, [], [], 0, 0, 0, 184) else (.aload_n 0, 1, [], [], 0, 0, 0, 183)) else (bif Nat.ble 180 pc then
  (bif Nat.beq 180 pc then (.goto 37, 3, [(0, 217)], [], 0, 0, 0, 180) else mm_nop) else (bif Nat.beq 177 pc then (.invokevirtual 166, 3, [(5, 76), (1, 76)], [[5224, 8121, 26, 5226, 2009], [5224, 8121, 27, 5226, 2009]], 1, 0, 0, 177) else mm_nop))))) else (bif Nat.ble 160 pc then
  (bif Nat.ble 168 pc then
  (bif Nat.ble 172 pc then
  (bif Nat.ble 175 pc then
  (bif Nat.ble 176 pc then (.iload_n 1, 1, [], [], 1, 0, 0, 176) else (.aload_n 0, 1, [], [], 0, 0, 0, 175)) else (bif Nat.beq 172 pc then (.goto 45, 3, [(0, 217)], [], 0, 0, 0, 172) else mm_nop)) else (bif Nat.ble 169 pc then
  (bif Nat.beq 169 pc then (.invokevirtual 153, 3, [(5, 85), (1, 85)], [[5013, 5015, 5017, 5014, 2009], [5013, 5015, 5016, 5014, 2009]], 1, 0, 0, 169) else mm_nop) else (.iconst 0, 1, [], [], 0, 0, 0, 168))) else (bif Nat.ble 164 pc then
  (bif Nat.ble 167 pc then (.aload_n 0, 1, [], [], 0, 0, 0, 167) else (bif Nat.beq 164 pc then (.goto 53, 3, [(0, 217)], [], 0, 0, 0, 164) else mm_nop)) else (bif Nat.ble 161 pc then
  (bif Nat.beq 161 pc then (.invokevirtual 162, 3, [(5, 63), (1, 20)], [[5198, 5200, 5217, 5218, 2010, 5199], [5198, 5200, 5201, 5202, 2011, 5199]], 3, 0, 0, 161) else mm_nop) else (.iconst 1, 1, [], [], 0, 1, 0, 160)))) else (bif Nat.ble 151 pc then
  (bif Nat.ble 155 pc then
  (bif Nat.ble 156 pc then
  (bif Nat.ble 159 pc then (.iload_n 1, 1, [], [], 1, 0, 0, 159) else (bif Nat.beq 156 pc then (.invokevirtual 134, 3, [(5, 72), (1, 72)], [[5143, 8116, 16, 5145, 2009], [5143, 8116, 17, 5145, 2009]], 0, 0, 0, 156) else mm_nop)) else (.aload_n 0, 1, [], [], 0, 0, 0, 155)) else (bif Nat.ble 154 pc then (.aload_n 0, 1, [], [], 0, 0, 0, 154) else (bif Nat.beq 151 pc then (.goto 66, 3, [(0, 217)], [], 0, 0, 0, 151) else mm_nop))) else (bif Nat.ble 147 pc then
  (bif Nat.ble 148 pc then
  (bif Nat.beq 148 pc then (.invokevirtual 162, 3, [(5, 63), (1, 20)], [[5198, 5200, 5217, 5218, 2010, 5199], [5198, 5200, 5201, 5202, 2011, 5199]], 3, 0, 0, 148) else mm_nop) else (.iconst 0, 1, [], [], 0, 0, 0, 147)) else (bif Nat.ble 146 pc then (.iload_n 1, 1, [], [], 1, 0, 0, 146) else (bif Nat.beq 143 pc then (.invokevirtual 134, 3, [(5, 72), (1, 72)], [[5143, 8116, 16, 5145, 2009], [5143, 8116, 17, 5145, 2009]], 0, 0, 0, 143) else mm_nop)))))) else (bif Nat.ble 104 pc then
  (bif Nat.ble 123 pc then
  (bif Nat.ble 134 pc then
  (bif Nat.ble 138 pc then
  (bif Nat.ble 141 pc then
  (bif Nat.ble 142 pc then (.aload_n 0, 1, [], [], 0, 0, 0, 142) else (.aload_n 0, 1, [], [], 0, 0, 0, 141)) else (bif Nat.beq 138 pc then (.goto 79, 3, [(0, 217)], [], 0, 0, 0, 138) else mm_nop)) else (bif Nat.ble 135 pc then
  (bif Nat.beq 135 pc then (.invokevirtual 159, 3, [(5, 62), (1, 19)], [[5025, 5027, 5031, 5032, 2010, 5026], [5025, 5027, 5028, 5029, 2011, 5026]], 0, 0, 0, 135) else mm_nop) else (.aload_n 0, 1, [], [], 0, 0, 0, 134))) else (bif Nat.ble 127 pc then
  (bif Nat.ble 128 pc then
  (bif Nat.ble 131 pc then
  (bif Nat.beq 131 pc then (.goto 86, 3, [(0, 217)], [], 0, 0, 0, 131) else mm_nop) else (bif Nat.beq 128 pc then (.invokevirtual 153, 3, [(5, 85), (1, 85)], [[5013, 5015, 5017, 5014, 2009], [5013, 5015, 5016, 5014, 2009]], 1, 0, 0, 128) else mm_nop)) else (.iconst 0, 1, [], [], 0, 0, 0, 127)) else (bif Nat.ble 124 pc then
  (bif Nat.beq 124 pc then (.goto 4, 3, [(0, 128)], [], 0, 0, 0, 124) else mm_nop) else (.iconst 1, 1, [], [], 0, 1, 0, 123)))) else (bif Nat.ble 112 pc then
  (bif Nat.ble 116 pc then
  (bif Nat.ble 117 pc then
  (bif Nat.ble 120 pc then
  (bif Nat.beq 120 pc then (.if_icmp .le 7, 3, [(0, 127)], [], 0, 0, 0, 120) else mm_nop) else (bif Nat.beq 117 pc then (.invokevirtual 131, 3, [(5, 86), (1, 86)], [[5138, 8112, 8114, 5038, 2009], [5138, 8112, 8113, 5038, 2009]], 0, 0, 0, 117) else mm_nop)) else (.aload_n 0, 1, [], [], 0, 0, 0, 116)) else (bif Nat.ble 113 pc then
  (bif Nat.beq 113 pc then (.invokevirtual 131, 3, [(5, 86), (1, 86)], [[5138, 8112, 8114, 5038, 2009], [5138, 8112, 8113, 5038, 2009]], 0, 0, 0, 113) else mm_nop) else (.aload_n 0, 1, [], [], 0, 0, 0, 112))) else (bif Nat.ble 108 pc then
  (bif Nat.ble 111 pc then (.aload_n 0, 1, [], [], 0, 0, 0, 111) else (bif Nat.beq 108 pc then (.goto 109, 3, [(0, 217)], [], 0, 0, 0, 108) else mm_nop)) else (bif Nat.ble 105 pc then
  (bif Nat.beq 105 pc then (.invokevirtual 153, 3, [(5, 85), (1, 85)], [[5013, 5015, 5017, 5014, 2009], [5013, 5015, 5016, 5014, 2009]], 1, 0, 0, 105) else mm_nop) else (.iadd, 1, [], [], 0, 0, 0, 104))))) else (bif Nat.ble 85 pc then
  (bif Nat.ble 95 pc then
  (bif Nat.ble 97 pc then
  (bif Nat.ble 100 pc then
  (bif Nat.ble 101 pc then
  (bif Nat.beq 101 pc then (.invokevirtual 131, 3, [(5, 86), (1, 86)], [[5138, 8112, 8114, 5038, 2009], [5138, 8112, 8113, 5038, 2009]], 0, 0, 0, 101) else mm_nop) else (.aload_n 0, 1, [], [], 0, 0, 0, 100)) else (bif Nat.beq 97 pc then (.invokevirtual 131, 3, [(5, 86), (1, 86)], [[5138, 8112, 8114, 5038, 2009], [5138, 8112, 8113, 5038, 2009]], 0, 0, 0, 97) else mm_nop)) else (bif Nat.ble 96 pc then (.aload_n 0, 1, [], [], 0, 0, 0, 96) else (.aload_n 0, 1, [], [], 0, 0, 0, 95))) else (bif Nat.ble 89 pc then
  (bif Nat.ble 92 pc then
  (bif Nat.beq 92 pc then (.goto 125, 3, [(0, 217)], [], 0, 0, 0, 92) else mm_nop) else (bif Nat.beq 89 pc then (.invokevirtual 156, 3, [(5, 75), (1, 75)], [[5190, 8119, 22, 5192, 2009], [5190, 8119, 23, 5192, 2009]], 0, 0, 0, 89) else mm_nop)) else (bif Nat.ble 88 pc then (.aload_n 0, 1, [], [], 0, 0, 0, 88) else (bif Nat.beq 85 pc then (.goto 132, 3, [(0, 217)], [], 0, 0, 0, 85) else mm_nop)))) else (bif Nat.ble 74 pc then
  (bif Nat.ble 78 pc then
  (bif Nat.ble 79 pc then
  (bif Nat.ble 82 pc then
  (bif Nat.beq 82 pc then (.invokevirtual 153, 3, [(5, 85), (1, 85)], [[5013, 5015, 5017, 5014, 2009], [5013, 5015, 5016, 5014, 2009]], 1, 0, 0, 82) else mm_nop) else (bif Nat.beq 79 pc then (.invokevirtual 150, 3, [(6, 97)], [[5189, 3136, 3137, 2003]], 2, 0, 0, 79) else mm_nop)) else (.iconst 0, 1, [], [], 0, 0, 0, 78)) else (bif Nat.ble 77 pc then (.iload_n 1, 1, [], [], 1, 0, 0, 77) else (bif Nat.beq 74 pc then (.getfield 27, 3, [(5, 0), (1, 0)], [[2218]], 0, 0, 0, 74) else mm_nop))) else (bif Nat.ble 72 pc then
  (bif Nat.ble 73 pc then (.aload_n 0, 1, [], [], 0, 0, 0, 73) else (.aload_n 0, 1, [], [], 0, 0, 0, 72)) else (bif Nat.ble 1 pc then
  (bif Nat.beq 1 pc then (.tableswitch 216 0 13 #[71, 71, 87, 94, 110, 216, 133, 140, 153, 166, 174, 182, 201, 209], 71, [(0, 217), (0, 72), (1, 72), (2, 88), (3, 95), (4, 111), (5, 217), (6, 134), (7, 141), (8, 154), (9, 167), (10, 175), (11, 183), (12, 202), (13, 210)], [], 0, 0, 0, 1) else mm_nop) else (.iload_n 2, 1, [], [], 2, 0, 0, 0)))))))
def mm_k74 : List mm_E := (List.range 218).map mm_f74
def mm_m74 : mm_M := (yX6_finishNode, cX6_finishNode, 3, none, mm_k74, 2, 0, 0, 5188)
/-- TypeCopier$Machine.pushArgument.()V -/
def mm_f75 : Nat → mm_E := fun pc => (bif Nat.ble 18 pc then
  (bif Nat.ble 26 pc then
  (bif Nat.ble 31 pc then
  (bif Nat.ble 34 pc then
  (bif Nat.ble 37 pc then (.return_, 1, [], [], 0, 0, 0, 37) else (bif Nat.beq 34 pc then (.invokevirtual 175, 3, [(5, 87), (1, 87)], [[5194, 8120, 24, 5196, 2009], [5194, 8120, 25, 5196, 2009]], 2, 0, 0, 34) else mm_nop)) else (bif Nat.beq 31 pc then (.invokevirtual 100, 3, [(5, 58), (1, 15)], [[5082, 5084, 5092, 5093, 2010, 5083], [5082, 5084, 5085, 5086, 2011, 5083]], 1, 0, 0, 31) else mm_nop)) else (bif Nat.ble 29 pc then
  (bif Nat.ble 30 pc then (.iaload, 1, [], [], 0, 0, 0, 30) else (.iload_n 1, 1, [], [], 1, 0, 0, 29)) else (bif Nat.beq 26 pc then (.getfield 21, 3, [(5, 6), (1, 6)], [[2228]], 0, 0, 0, 26) else mm_nop))) else (bif Nat.ble 23 pc then
  (bif Nat.ble 24 pc then
  (bif Nat.ble 25 pc then (.aload_n 0, 1, [], [], 0, 0, 0, 25) else (.aload_n 0, 1, [], [], 0, 0, 0, 24)) else (.iaload, 1, [], [], 0, 0, 0, 23)) else (bif Nat.ble 19 pc then
  (bif Nat.ble 22 pc then (.iload_n 1, 1, [], [], 1, 0, 0, 22) else (bif Nat.beq 19 pc then (.getfield 24, 3, [(5, 7), (1, 7)], [[2229]], 0, 0, 0, 19) else mm_nop)) else (.aload_n 0, 1, [], [], 0, 0, 0, 18)))) else (bif Nat.ble 7 pc then
  (bif Nat.ble 12 pc then
  (bif Nat.ble 14 pc then
  (bif Nat.ble 17 pc then (.aload_n 0, 1, [], [], 0, 0, 0, 17) else (bif Nat.beq 14 pc then (.if_icmp .ge 23, 3, [(0, 37)], [], 0, 0, 0, 14) else mm_nop)) else (bif Nat.beq 12 pc then (.bipush 30, 2, [], [], 0, 30, 0, 12) else mm_nop)) else (bif Nat.ble 8 pc then
  (bif Nat.ble 11 pc then (.iload_n 1, 1, [], [], 1, 0, 0, 11) else (bif Nat.beq 8 pc then (.ifCond .lt 29, 3, [(0, 37)], [], 0, 0, 0, 8) else mm_nop)) else (.iload_n 1, 1, [], [], 1, 0, 0, 7))) else (bif Nat.ble 4 pc then
  (bif Nat.ble 5 pc then
  (bif Nat.ble 6 pc then (.istore_n 1, 1, [], [], 1, 0, 0, 6) else (.isub, 1, [], [], 0, 0, 0, 5)) else (.iconst 1, 1, [], [], 0, 1, 0, 4)) else (bif Nat.ble 1 pc then
  (bif Nat.beq 1 pc then (.getfield 49, 3, [(5, 11), (1, 11)], [[2233]], 0, 0, 0, 1) else mm_nop) else (.aload_n 0, 1, [], [], 0, 0, 0, 0)))))
def mm_k75 : List mm_E := (List.range 38).map mm_f75
def mm_m75 : mm_M := (yX6_pushArgument, cX6_pushArgument, 2, none, mm_k75, 0, 0, 0, 5193)
/-- TypeCopier$Machine.makeLink.(I)V -/
def mm_f76 : Nat → mm_E := fun pc => (bif Nat.ble 27 pc then
  (bif Nat.ble 38 pc then
  (bif Nat.ble 45 pc then
  (bif Nat.ble 49 pc then
  (bif Nat.ble 52 pc then (.return_, 1, [], [], 0, 0, 0, 52) else (bif Nat.beq 49 pc then (.invokevirtual 153, 3, [(5, 85), (1, 85)], [[5013, 5015, 5017, 5014, 2009], [5013, 5015, 5016, 5014, 2009]], 1, 0, 0, 49) else mm_nop)) else (bif Nat.ble 46 pc then
  (bif Nat.beq 46 pc then (.invokevirtual 184, 3, [(5, 79), (1, 79)], [[5070, 8107, 4, 5072, 2009], [5070, 8107, 5, 5072, 2009]], 2, 0, 0, 46) else mm_nop) else (.iload_n 2, 1, [], [], 2, 0, 0, 45))) else (bif Nat.ble 39 pc then
  (bif Nat.ble 42 pc then
  (bif Nat.beq 42 pc then (.invokevirtual 181, 3, [(5, 60), (1, 17)], [[5232, 5234, 5236, 5237, 2010, 5233], [5232, 5234, 5235, 5206, 2011, 5233]], 2, 0, 0, 42) else mm_nop) else (bif Nat.beq 39 pc then (.invokevirtual 124, 3, [(6, 98)], [[5137, 3116, 3117, 2003]], 2, 0, 0, 39) else mm_nop)) else (.iconst 0, 1, [], [], 0, 0, 0, 38))) else (bif Nat.ble 30 pc then
  (bif Nat.ble 34 pc then
  (bif Nat.ble 37 pc then (.iload_n 1, 1, [], [], 1, 0, 0, 37) else (bif Nat.beq 34 pc then (.getfield 27, 3, [(5, 0), (1, 0)], [[2218]], 0, 0, 0, 34) else mm_nop)) else (bif Nat.ble 33 pc then (.aload_n 0, 1, [], [], 0, 0, 0, 33) else (bif Nat.beq 30 pc then (.invokevirtual 134, 3, [(5, 72), (1, 72)], [[5143, 8116, 16, 5145, 2009], [5143, 8116, 17, 5145, 2009]], 0, 0, 0, 30) else mm_nop))) else (bif Nat.ble 28 pc then
  (bif Nat.ble 29 pc then (.aload_n 0, 1, [], [], 0, 0, 0, 29) else (.aload_n 0, 1, [], [], 0, 0, 0, 28)) else (.aload_n 0, 1, [], [], 0, 0, 0, 27)))) else (bif Nat.ble 16 pc then
  (bif Nat.ble 21 pc then
  (bif Nat.ble 25 pc then
  (bif Nat.ble 26 pc then (.aload_n 0, 1, [], [], 0, 0, 0, 26) else (.istore_n 2, 1, [], [], 2, 0, 0, 25)) else (bif Nat.ble 22 pc then
  (bif Nat.beq 22 pc then (.invokevirtual 131, 3, [(5, 86), (1, 86)], [[5138, 8112, 8114, 5038, 2009], [5138, 8112, 8113, 5038, 2009]], 0, 0, 0, 22) else mm_nop) else (.aload_n 0, 1, [], [], 0, 0, 0, 21))) else (bif Nat.ble 17 pc then
  (bif Nat.ble 20 pc then (.return_, 1, [], [], 0, 0, 0, 20) else (bif Nat.beq 17 pc then (.invokevirtual 97, 3, [(8, 119)], [[5078, 5079, 5080, 2008]], 1, 0, 0, 17) else mm_nop)) else (.iconst 4, 1, [], [], 0, 4, 0, 16))) else (bif Nat.ble 7 pc then
  (bif Nat.ble 12 pc then
  (bif Nat.ble 13 pc then
  (bif Nat.beq 13 pc then (.getfield 35, 3, [(5, 2), (1, 2)], [[2224]], 0, 0, 0, 13) else mm_nop) else (.aload_n 0, 1, [], [], 0, 0, 0, 12)) else (bif Nat.ble 9 pc then
  (bif Nat.beq 9 pc then (.if_icmp .le 12, 3, [(0, 21)], [], 0, 0, 0, 9) else mm_nop) else (bif Nat.beq 7 pc then (.bipush 100, 2, [], [], 0, 100, 0, 7) else mm_nop))) else (bif Nat.ble 1 pc then
  (bif Nat.ble 4 pc then
  (bif Nat.beq 4 pc then (.invokevirtual 178, 3, [(8, 122)], [[5228, 5229, 5230, 2008]], 0, 0, 0, 4) else mm_nop) else (bif Nat.beq 1 pc then (.getfield 35, 3, [(5, 2), (1, 2)], [[2224]], 0, 0, 0, 1) else mm_nop)) else (.aload_n 0, 1, [], [], 0, 0, 0, 0)))))
def mm_k76 : List mm_E := (List.range 53).map mm_f76
def mm_m76 : mm_M := (yX6_makeLink, cX6_makeLink, 3, none, mm_k76, 1, 0, 0, 5227)
/-- TypeCopier$Machine.takeHead.(I)V -/
def mm_f77 : Nat → mm_E := fun pc => (bif Nat.ble 18 pc then
  (bif Nat.ble 23 pc then
  (bif Nat.ble 28 pc then
  (bif Nat.ble 31 pc then
  (bif Nat.ble 34 pc then (.return_, 1, [], [], 0, 0, 0, 34) else (bif Nat.beq 31 pc then (.invokevirtual 175, 3, [(5, 87), (1, 87)], [[5194, 8120, 24, 5196, 2009], [5194, 8120, 25, 5196, 2009]], 2, 0, 0, 31) else mm_nop)) else (bif Nat.beq 28 pc then (.invokevirtual 181, 3, [(5, 60), (1, 17)], [[5232, 5234, 5236, 5237, 2010, 5233], [5232, 5234, 5235, 5206, 2011, 5233]], 2, 0, 0, 28) else mm_nop)) else (bif Nat.ble 24 pc then
  (bif Nat.ble 27 pc then (.iload_n 1, 1, [], [], 1, 0, 0, 27) else (bif Nat.beq 24 pc then (.invokevirtual 134, 3, [(5, 72), (1, 72)], [[5143, 8116, 16, 5145, 2009], [5143, 8116, 17, 5145, 2009]], 0, 0, 0, 24) else mm_nop)) else (.aload_n 0, 1, [], [], 0, 0, 0, 23))) else (bif Nat.ble 20 pc then
  (bif Nat.ble 21 pc then
  (bif Nat.ble 22 pc then (.aload_n 0, 1, [], [], 0, 0, 0, 22) else (.iadd, 1, [], [], 0, 0, 0, 21)) else (.iconst 1, 1, [], [], 0, 1, 0, 20)) else (bif Nat.ble 19 pc then (.iload_n 2, 1, [], [], 2, 0, 0, 19) else (.aload_n 0, 1, [], [], 0, 0, 0, 18)))) else (bif Nat.ble 9 pc then
  (bif Nat.ble 13 pc then
  (bif Nat.ble 14 pc then
  (bif Nat.ble 17 pc then (.return_, 1, [], [], 0, 0, 0, 17) else (bif Nat.beq 14 pc then (.invokevirtual 97, 3, [(8, 119)], [[5078, 5079, 5080, 2008]], 1, 0, 0, 14) else mm_nop)) else (.iconst 1, 1, [], [], 0, 1, 0, 13)) else (bif Nat.ble 10 pc then
  (bif Nat.beq 10 pc then (.getfield 35, 3, [(5, 2), (1, 2)], [[2224]], 0, 0, 0, 10) else mm_nop) else (.aload_n 0, 1, [], [], 0, 0, 0, 9))) else (bif Nat.ble 4 pc then
  (bif Nat.ble 5 pc then
  (bif Nat.ble 6 pc then
  (bif Nat.beq 6 pc then (.ifCond .ne 12, 3, [(0, 18)], [], 0, 0, 0, 6) else mm_nop) else (.iload_n 2, 1, [], [], 2, 0, 0, 5)) else (.istore_n 2, 1, [], [], 2, 0, 0, 4)) else (bif Nat.ble 1 pc then
  (bif Nat.beq 1 pc then (.invokevirtual 131, 3, [(5, 86), (1, 86)], [[5138, 8112, 8114, 5038, 2009], [5138, 8112, 8113, 5038, 2009]], 0, 0, 0, 1) else mm_nop) else (.aload_n 0, 1, [], [], 0, 0, 0, 0)))))
def mm_k77 : List mm_E := (List.range 35).map mm_f77
def mm_m77 : mm_M := (yX6_takeHead, cX6_takeHead, 3, none, mm_k77, 1, 0, 0, 6002)
/-- TypeCopier$Machine.takeTail.()V -/
def mm_f78 : Nat → mm_E := fun pc => (bif Nat.ble 14 pc then
  (bif Nat.ble 20 pc then
  (bif Nat.ble 24 pc then
  (bif Nat.ble 27 pc then (.return_, 1, [], [], 0, 0, 0, 27) else (bif Nat.beq 24 pc then (.invokevirtual 153, 3, [(5, 85), (1, 85)], [[5013, 5015, 5017, 5014, 2009], [5013, 5015, 5016, 5014, 2009]], 1, 0, 0, 24) else mm_nop)) else (bif Nat.ble 21 pc then
  (bif Nat.beq 21 pc then (.invokevirtual 187, 3, [(5, 83), (1, 83)], [[5040, 5042, 5044, 5041, 2009], [5040, 5042, 5043, 5041, 2009]], 1, 0, 0, 21) else mm_nop) else (.iload_n 1, 1, [], [], 1, 0, 0, 20))) else (bif Nat.ble 18 pc then
  (bif Nat.ble 19 pc then (.aload_n 0, 1, [], [], 0, 0, 0, 19) else (.aload_n 0, 1, [], [], 0, 0, 0, 18)) else (bif Nat.ble 17 pc then (.return_, 1, [], [], 0, 0, 0, 17) else (bif Nat.beq 14 pc then (.invokevirtual 97, 3, [(8, 119)], [[5078, 5079, 5080, 2008]], 1, 0, 0, 14) else mm_nop)))) else (bif Nat.ble 6 pc then
  (bif Nat.ble 10 pc then
  (bif Nat.ble 13 pc then (.iconst 1, 1, [], [], 0, 1, 0, 13) else (bif Nat.beq 10 pc then (.getfield 35, 3, [(5, 2), (1, 2)], [[2224]], 0, 0, 0, 10) else mm_nop)) else (bif Nat.ble 9 pc then (.aload_n 0, 1, [], [], 0, 0, 0, 9) else (bif Nat.beq 6 pc then (.ifCond .ne 12, 3, [(0, 18)], [], 0, 0, 0, 6) else mm_nop))) else (bif Nat.ble 4 pc then
  (bif Nat.ble 5 pc then (.iload_n 1, 1, [], [], 1, 0, 0, 5) else (.istore_n 1, 1, [], [], 1, 0, 0, 4)) else (bif Nat.ble 1 pc then
  (bif Nat.beq 1 pc then (.invokevirtual 131, 3, [(5, 86), (1, 86)], [[5138, 8112, 8114, 5038, 2009], [5138, 8112, 8113, 5038, 2009]], 0, 0, 0, 1) else mm_nop) else (.aload_n 0, 1, [], [], 0, 0, 0, 0)))))
def mm_k78 : List mm_E := (List.range 28).map mm_f78
def mm_m78 : mm_M := (yX6_takeTail, cX6_takeTail, 2, none, mm_k78, 0, 0, 0, 6006)
/-- TypeCopier$Machine.storeLink.(II)I -/
def mm_f79 : Nat → mm_E := fun pc => (bif Nat.ble 34 pc then
  (bif Nat.ble 49 pc then
  (bif Nat.ble 63 pc then
  (bif Nat.ble 68 pc then
  (bif Nat.ble 71 pc then
  (bif Nat.ble 72 pc then (.ireturn, 1, [], [], 0, 0, 0, 72) else (.iload_n 3, 1, [], [], 3, 0, 0, 71)) else (bif Nat.beq 68 pc then (.putfield 39, 3, [(5, 8), (1, 8)], [[2230]], 0, 0, 0, 68) else mm_nop)) else (bif Nat.ble 66 pc then
  (bif Nat.ble 67 pc then (.isub, 1, [], [], 0, 0, 0, 67) else (.iload_n 1, 1, [], [], 1, 0, 0, 66)) else (bif Nat.beq 63 pc then (.getfield 39, 3, [(5, 8), (1, 8)], [[2230]], 0, 0, 0, 63) else mm_nop))) else (bif Nat.ble 58 pc then
  (bif Nat.ble 61 pc then
  (bif Nat.ble 62 pc then (.dup, 1, [], [], 0, 0, 0, 62) else (.aload_n 0, 1, [], [], 0, 0, 0, 61)) else (bif Nat.beq 58 pc then (.goto (-32), 3, [(0, 26)], [], 0, 0, 0, 58) else mm_nop)) else (bif Nat.ble 52 pc then
  (bif Nat.ble 55 pc then
  (bif Nat.beq 55 pc then (.iinc 4 1, 3, [], [], 4, 1, 0, 55) else mm_nop) else (bif Nat.beq 52 pc then (.invokevirtual 190, 3, [(5, 84), (1, 84)], [[5019, 8106, 2, 5021, 2009], [5019, 8106, 3, 5021, 2009]], 2, 0, 0, 52) else mm_nop)) else (bif Nat.beq 49 pc then (.invokevirtual 187, 3, [(5, 83), (1, 83)], [[5040, 5042, 5044, 5041, 2009], [5040, 5042, 5043, 5041, 2009]], 1, 0, 0, 49) else mm_nop)))) else (bif Nat.ble 40 pc then
  (bif Nat.ble 45 pc then
  (bif Nat.ble 46 pc then
  (bif Nat.ble 48 pc then (.iadd, 1, [], [], 0, 0, 0, 48) else (bif Nat.beq 46 pc then (.iload 4, 2, [], [], 4, 0, 0, 46) else mm_nop)) else (.isub, 1, [], [], 0, 0, 0, 45)) else (bif Nat.ble 41 pc then
  (bif Nat.ble 44 pc then (.iload_n 1, 1, [], [], 1, 0, 0, 44) else (bif Nat.beq 41 pc then (.getfield 39, 3, [(5, 8), (1, 8)], [[2230]], 0, 0, 0, 41) else mm_nop)) else (.aload_n 0, 1, [], [], 0, 0, 0, 40))) else (bif Nat.ble 36 pc then
  (bif Nat.ble 38 pc then
  (bif Nat.ble 39 pc then (.aload_n 0, 1, [], [], 0, 0, 0, 39) else (.iadd, 1, [], [], 0, 0, 0, 38)) else (bif Nat.beq 36 pc then (.iload 4, 2, [], [], 4, 0, 0, 36) else mm_nop)) else (bif Nat.ble 35 pc then (.iadd, 1, [], [], 0, 0, 0, 35) else (.iconst 1, 1, [], [], 0, 1, 0, 34))))) else (bif Nat.ble 17 pc then
  (bif Nat.ble 24 pc then
  (bif Nat.ble 29 pc then
  (bif Nat.ble 32 pc then
  (bif Nat.ble 33 pc then (.iload_n 3, 1, [], [], 3, 0, 0, 33) else (.aload_n 0, 1, [], [], 0, 0, 0, 32)) else (bif Nat.beq 29 pc then (.if_icmp .ge 32, 3, [(0, 61)], [], 0, 0, 0, 29) else mm_nop)) else (bif Nat.ble 26 pc then
  (bif Nat.ble 28 pc then (.iload_n 1, 1, [], [], 1, 0, 0, 28) else (bif Nat.beq 26 pc then (.iload 4, 2, [], [], 4, 0, 0, 26) else mm_nop)) else (bif Nat.beq 24 pc then (.istore 4, 2, [], [], 4, 0, 0, 24) else mm_nop))) else (bif Nat.ble 19 pc then
  (bif Nat.ble 20 pc then
  (bif Nat.ble 23 pc then (.iconst 0, 1, [], [], 0, 0, 0, 23) else (bif Nat.beq 20 pc then (.invokevirtual 190, 3, [(5, 84), (1, 84)], [[5019, 8106, 2, 5021, 2009], [5019, 8106, 3, 5021, 2009]], 2, 0, 0, 20) else mm_nop)) else (.iload_n 2, 1, [], [], 2, 0, 0, 19)) else (bif Nat.ble 18 pc then (.iload_n 3, 1, [], [], 3, 0, 0, 18) else (.aload_n 0, 1, [], [], 0, 0, 0, 17)))) else (bif Nat.ble 7 pc then
  (bif Nat.ble 12 pc then
  (bif Nat.ble 13 pc then
  (bif Nat.ble 14 pc then
  (bif Nat.beq 14 pc then (.putfield 43, 3, [(5, 9), (1, 9)], [[2231]], 0, 0, 0, 14) else mm_nop) else (.iadd, 1, [], [], 0, 0, 0, 13)) else (.iadd, 1, [], [], 0, 0, 0, 12)) else (bif Nat.ble 10 pc then
  (bif Nat.ble 11 pc then (.iload_n 1, 1, [], [], 1, 0, 0, 11) else (.iconst 1, 1, [], [], 0, 1, 0, 10)) else (bif Nat.beq 7 pc then (.getfield 43, 3, [(5, 9), (1, 9)], [[2231]], 0, 0, 0, 7) else mm_nop))) else (bif Nat.ble 4 pc then
  (bif Nat.ble 5 pc then
  (bif Nat.ble 6 pc then (.dup, 1, [], [], 0, 0, 0, 6) else (.aload_n 0, 1, [], [], 0, 0, 0, 5)) else (.istore_n 3, 1, [], [], 3, 0, 0, 4)) else (bif Nat.ble 1 pc then
  (bif Nat.beq 1 pc then (.getfield 43, 3, [(5, 9), (1, 9)], [[2231]], 0, 0, 0, 1) else mm_nop) else (.aload_n 0, 1, [], [], 0, 0, 0, 0))))))
def mm_k79 : List mm_E := (List.range 73).map mm_f79
def mm_m79 : mm_M := (yX6_storeLink, cX6_storeLink, 5, (some .int), mm_k79, 2, 0, 0, 5073)
/-- TypeCopier$Machine.readValue.(J)V -/
def mm_f80 : Nat → mm_E := fun pc => (bif Nat.ble 111 pc then
  (bif Nat.ble 148 pc then
  (bif Nat.ble 171 pc then
  (bif Nat.ble 181 pc then
  (bif Nat.ble 185 pc then
  (bif Nat.ble 188 pc then
  (bif Nat.ble 191 pc then (.return_, 1, [], [], 0, 0, 0, 191) else (bif Nat.beq 188 pc then (.invokevirtual 153, 3, [(5, 85), (1, 85)], [[5013, 5015, 5017, 5014, 2009], [5013, 5015, 5016, 5014, 2009]], 1, 0, 0, 188) else mm_nop)) else (bif Nat.beq 185 pc then (.invokevirtual 197, 3, [(3, 39)], [[5009, 5010, 5011, 2007]], 0, 0, 0, 185) else mm_nop)) else (bif Nat.ble 182 pc then
  (bif Nat.beq 182 pc then (.getfield 31, 3, [(5, 1), (1, 1)], [[2223]], 0, 0, 0, 182) else mm_nop) else (.aload_n 0, 1, [], [], 0, 0, 0, 181))) else (bif Nat.ble 174 pc then
  (bif Nat.ble 177 pc then
  (bif Nat.ble 180 pc then (.aload_n 0, 1, [], [], 0, 0, 0, 180) else (bif Nat.beq 177 pc then (.goto 14, 3, [(0, 191)], [], 0, 0, 0, 177) else mm_nop)) else (bif Nat.beq 174 pc then (.invokevirtual 153, 3, [(5, 85), (1, 85)], [[5013, 5015, 5017, 5014, 2009], [5013, 5015, 5016, 5014, 2009]], 1, 0, 0, 174) else mm_nop)) else (bif Nat.ble 172 pc then
  (bif Nat.beq 172 pc then (.iload 6, 2, [], [], 6, 0, 0, 172) else mm_nop) else (.aload_n 0, 1, [], [], 0, 0, 0, 171)))) else (bif Nat.ble 158 pc then
  (bif Nat.ble 163 pc then
  (bif Nat.ble 165 pc then
  (bif Nat.ble 168 pc then
  (bif Nat.beq 168 pc then (.goto (-52), 3, [(0, 116)], [], 0, 0, 0, 168) else mm_nop) else (bif Nat.beq 165 pc then (.iinc 8 1, 3, [], [], 8, 1, 0, 165) else mm_nop)) else (bif Nat.beq 163 pc then (.istore 7, 2, [], [], 7, 0, 0, 163) else mm_nop)) else (bif Nat.ble 161 pc then
  (bif Nat.beq 161 pc then (.iload 9, 2, [], [], 9, 0, 0, 161) else mm_nop) else (bif Nat.beq 158 pc then (.invokevirtual 190, 3, [(5, 84), (1, 84)], [[5019, 8106, 2, 5021, 2009], [5019, 8106, 3, 5021, 2009]], 2, 0, 0, 158) else mm_nop))) else (bif Nat.ble 153 pc then
  (bif Nat.ble 154 pc then
  (bif Nat.ble 156 pc then
  (bif Nat.beq 156 pc then (.iload 9, 2, [], [], 9, 0, 0, 156) else mm_nop) else (bif Nat.beq 154 pc then (.iload 7, 2, [], [], 7, 0, 0, 154) else mm_nop)) else (.aload_n 0, 1, [], [], 0, 0, 0, 153)) else (bif Nat.ble 150 pc then
  (bif Nat.beq 150 pc then (.goto 11, 3, [(0, 161)], [], 0, 0, 0, 150) else mm_nop) else (bif Nat.beq 148 pc then (.istore 6, 2, [], [], 6, 0, 0, 148) else mm_nop))))) else (bif Nat.ble 128 pc then
  (bif Nat.ble 136 pc then
  (bif Nat.ble 141 pc then
  (bif Nat.ble 143 pc then
  (bif Nat.ble 146 pc then
  (bif Nat.beq 146 pc then (.iload 9, 2, [], [], 9, 0, 0, 146) else mm_nop) else (bif Nat.beq 143 pc then (.ifCond .ne 10, 3, [(0, 153)], [], 0, 0, 0, 143) else mm_nop)) else (bif Nat.beq 141 pc then (.iload 8, 2, [], [], 8, 0, 0, 141) else mm_nop)) else (bif Nat.ble 139 pc then
  (bif Nat.beq 139 pc then (.istore 9, 2, [], [], 9, 0, 0, 139) else mm_nop) else (bif Nat.beq 136 pc then (.invokevirtual 184, 3, [(5, 79), (1, 79)], [[5070, 8107, 4, 5072, 2009], [5070, 8107, 5, 5072, 2009]], 2, 0, 0, 136) else mm_nop))) else (bif Nat.ble 130 pc then
  (bif Nat.ble 132 pc then
  (bif Nat.ble 135 pc then (.iconst 0, 1, [], [], 0, 0, 0, 135) else (bif Nat.beq 132 pc then (.invokevirtual 85, 3, [(5, 61), (1, 18)], [[5060, 5062, 5067, 5068, 2010, 5061], [5060, 5062, 5063, 5064, 2011, 5061]], 1, 0, 0, 132) else mm_nop)) else (bif Nat.beq 130 pc then (.lload 4, 2, [], [], 4, 0, 0, 130) else mm_nop)) else (bif Nat.ble 129 pc then (.aload_n 0, 1, [], [], 0, 0, 0, 129) else (.aload_n 0, 1, [], [], 0, 0, 0, 128)))) else (bif Nat.ble 118 pc then
  (bif Nat.ble 122 pc then
  (bif Nat.ble 123 pc then
  (bif Nat.ble 125 pc then
  (bif Nat.beq 125 pc then (.invokevirtual 62, 3, [(5, 80), (1, 80)], [[5004, 8105, 0, 5006, 2009], [5004, 8105, 1, 5006, 2009]], 1, 0, 0, 125) else mm_nop) else (bif Nat.beq 123 pc then (.lload 4, 2, [], [], 4, 0, 0, 123) else mm_nop)) else (.aload_n 0, 1, [], [], 0, 0, 0, 122)) else (bif Nat.ble 119 pc then
  (bif Nat.beq 119 pc then (.if_icmp .ge 52, 3, [(0, 171)], [], 0, 0, 0, 119) else mm_nop) else (.iload_n 3, 1, [], [], 3, 0, 0, 118))) else (bif Nat.ble 114 pc then
  (bif Nat.ble 116 pc then
  (bif Nat.beq 116 pc then (.iload 8, 2, [], [], 8, 0, 0, 116) else mm_nop) else (bif Nat.beq 114 pc then (.istore 8, 2, [], [], 8, 0, 0, 114) else mm_nop)) else (bif Nat.ble 113 pc then (.iconst 0, 1, [], [], 0, 0, 0, 113) else (bif Nat.beq 111 pc then (.istore 7, 2, [], [], 7, 0, 0, 111) else mm_nop)))))) else (bif Nat.ble 72 pc then
  (bif Nat.ble 91 pc then
  (bif Nat.ble 102 pc then
  (bif Nat.ble 107 pc then
  (bif Nat.ble 108 pc then
  (bif Nat.ble 110 pc then (.iconst 0, 1, [], [], 0, 0, 0, 110) else (bif Nat.beq 108 pc then (.istore 6, 2, [], [], 6, 0, 0, 108) else mm_nop)) else (.iconst 0, 1, [], [], 0, 0, 0, 107)) else (bif Nat.ble 105 pc then
  (bif Nat.beq 105 pc then (.lstore 4, 2, [], [], 4, 0, 0, 105) else mm_nop) else (bif Nat.beq 102 pc then (.invokestatic 200, 3, [(0, 134)], [[5023, 3173, 2013]], 1, 0, 0, 102) else mm_nop))) else (bif Nat.ble 97 pc then
  (bif Nat.ble 100 pc then
  (bif Nat.ble 101 pc then (.lload_n 1, 1, [], [], 1, 0, 0, 101) else (.istore_n 3, 1, [], [], 3, 0, 0, 100)) else (bif Nat.beq 97 pc then (.invokestatic 212, 3, [(2, 0)], [[5059, 4089, 2014, 4090]], 2, 0, 0, 97) else mm_nop)) else (bif Nat.ble 94 pc then
  (bif Nat.beq 94 pc then (.invokestatic 207, 3, [(3, 0)], [[5056, 5057, 2014, 5058]], 2, 0, 0, 94) else mm_nop) else (bif Nat.beq 91 pc then (.invokevirtual 197, 3, [(3, 39)], [[5009, 5010, 5011, 2007]], 0, 0, 0, 91) else mm_nop)))) else (bif Nat.ble 82 pc then
  (bif Nat.ble 86 pc then
  (bif Nat.ble 87 pc then
  (bif Nat.ble 88 pc then
  (bif Nat.beq 88 pc then (.getfield 31, 3, [(5, 1), (1, 1)], [[2223]], 0, 0, 0, 88) else mm_nop) else (.aload_n 0, 1, [], [], 0, 0, 0, 87)) else (.iconst 4, 1, [], [], 0, 4, 0, 86)) else (bif Nat.ble 85 pc then (.iconst 0, 1, [], [], 0, 0, 0, 85) else (bif Nat.beq 82 pc then (.goto 109, 3, [(0, 191)], [], 0, 0, 0, 82) else mm_nop))) else (bif Nat.ble 78 pc then
  (bif Nat.ble 79 pc then
  (bif Nat.beq 79 pc then (.invokevirtual 159, 3, [(5, 62), (1, 19)], [[5025, 5027, 5031, 5032, 2010, 5026], [5025, 5027, 5028, 5029, 2011, 5026]], 0, 0, 0, 79) else mm_nop) else (.aload_n 0, 1, [], [], 0, 0, 0, 78)) else (bif Nat.ble 75 pc then
  (bif Nat.beq 75 pc then (.invokevirtual 62, 3, [(5, 80), (1, 80)], [[5004, 8105, 0, 5006, 2009], [5004, 8105, 1, 5006, 2009]], 1, 0, 0, 75) else mm_nop) else (bif Nat.beq 72 pc then (.invokestatic 204, 3, [(0, 135)], [[5024, 3184, 2013]], 1, 0, 0, 72) else mm_nop))))) else (bif Nat.ble 52 pc then
  (bif Nat.ble 63 pc then
  (bif Nat.ble 67 pc then
  (bif Nat.ble 70 pc then
  (bif Nat.ble 71 pc then (.lload_n 1, 1, [], [], 1, 0, 0, 71) else (.aload_n 0, 1, [], [], 0, 0, 0, 70)) else (bif Nat.beq 67 pc then (.invokevirtual 62, 3, [(5, 80), (1, 80)], [[5004, 8105, 0, 5006, 2009], [5004, 8105, 1, 5006, 2009]], 1, 0, 0, 67) else mm_nop)) else (bif Nat.ble 64 pc then
  (bif Nat.beq 64 pc then (.invokestatic 200, 3, [(0, 134)], [[5023, 3173, 2013]], 1, 0, 0, 64) else mm_nop) else (.lload_n 1, 1, [], [], 1, 0, 0, 63))) else (bif Nat.ble 56 pc then
  (bif Nat.ble 59 pc then
  (bif Nat.ble 62 pc then (.aload_n 0, 1, [], [], 0, 0, 0, 62) else (bif Nat.beq 59 pc then (.goto 132, 3, [(0, 191)], [], 0, 0, 0, 59) else mm_nop)) else (bif Nat.beq 56 pc then (.invokevirtual 153, 3, [(5, 85), (1, 85)], [[5013, 5015, 5017, 5014, 2009], [5013, 5015, 5016, 5014, 2009]], 1, 0, 0, 56) else mm_nop)) else (bif Nat.ble 55 pc then (.iconst 0, 1, [], [], 0, 0, 0, 55) else (bif Nat.beq 52 pc then (.goto 4, 3, [(0, 56)], [], 0, 0, 0, 52) else mm_nop)))) else (bif Nat.ble 41 pc then
  (bif Nat.ble 45 pc then
  (bif Nat.ble 48 pc then
  (bif Nat.ble 51 pc then (.iconst 1, 1, [], [], 0, 1, 0, 51) else (bif Nat.beq 48 pc then (.ifCond .eq 7, 3, [(0, 55)], [], 0, 0, 0, 48) else mm_nop)) else (bif Nat.beq 45 pc then (.invokevirtual 197, 3, [(3, 39)], [[5009, 5010, 5011, 2007]], 0, 0, 0, 45) else mm_nop)) else (bif Nat.ble 42 pc then
  (bif Nat.beq 42 pc then (.getfield 31, 3, [(5, 1), (1, 1)], [[2223]], 0, 0, 0, 42) else mm_nop) else (.aload_n 0, 1, [], [], 0, 0, 0, 41))) else (bif Nat.ble 4 pc then
  (bif Nat.ble 40 pc then (.aload_n 0, 1, [], [], 0, 0, 0, 40) else (bif Nat.beq 4 pc then (.tableswitch 176 1 5 #[36, 176, 176, 58, 81], 36, [(0, 180), (1, 40), (2, 180), (3, 180), (4, 62), (5, 85)], [], 0, 0, 0, 4) else mm_nop)) else (bif Nat.ble 1 pc then
  (bif Nat.beq 1 pc then (.invokestatic 193, 3, [(0, 133)], [[5008, 3164, 2013]], 1, 0, 0, 1) else mm_nop) else (.lload_n 1, 1, [], [], 1, 0, 0, 0)))))))
def mm_k80 : List mm_E := (List.range 192).map mm_f80
def mm_m80 : mm_M := (yX6_readValue, cX6_readValue, 10, none, mm_k80, 1, 0, 0, 5007)
/-- TypeCopier$Machine.tellValue.(JI)V -/
def mm_f81 : Nat → mm_E := fun pc => (bif Nat.ble 86 pc then
  (bif Nat.ble 120 pc then
  (bif Nat.ble 136 pc then
  (bif Nat.ble 146 pc then
  (bif Nat.ble 148 pc then
  (bif Nat.ble 151 pc then
  (bif Nat.ble 154 pc then (.return_, 1, [], [], 0, 0, 0, 154) else (bif Nat.beq 151 pc then (.invokevirtual 222, 3, [(8, 125)], [[6025, 6026, 6027, 2008]], 1, 0, 0, 151) else mm_nop)) else (bif Nat.beq 148 pc then (.invokevirtual 187, 3, [(5, 83), (1, 83)], [[5040, 5042, 5044, 5041, 2009], [5040, 5042, 5043, 5041, 2009]], 1, 0, 0, 148) else mm_nop)) else (bif Nat.ble 147 pc then (.iload_n 3, 1, [], [], 3, 0, 0, 147) else (.aload_n 0, 1, [], [], 0, 0, 0, 146))) else (bif Nat.ble 142 pc then
  (bif Nat.ble 143 pc then
  (bif Nat.beq 143 pc then (.getfield 35, 3, [(5, 2), (1, 2)], [[2224]], 0, 0, 0, 143) else mm_nop) else (.aload_n 0, 1, [], [], 0, 0, 0, 142)) else (bif Nat.ble 139 pc then
  (bif Nat.beq 139 pc then (.goto 15, 3, [(0, 154)], [], 0, 0, 0, 139) else mm_nop) else (bif Nat.beq 136 pc then (.goto (-40), 3, [(0, 96)], [], 0, 0, 0, 136) else mm_nop)))) else (bif Nat.ble 126 pc then
  (bif Nat.ble 131 pc then
  (bif Nat.ble 133 pc then
  (bif Nat.beq 133 pc then (.iinc 7 1, 3, [], [], 7, 1, 0, 133) else mm_nop) else (bif Nat.beq 131 pc then (.istore 6, 2, [], [], 6, 0, 0, 131) else mm_nop)) else (bif Nat.ble 128 pc then
  (bif Nat.beq 128 pc then (.invokevirtual 187, 3, [(5, 83), (1, 83)], [[5040, 5042, 5044, 5041, 2009], [5040, 5042, 5043, 5041, 2009]], 1, 0, 0, 128) else mm_nop) else (bif Nat.beq 126 pc then (.iload 6, 2, [], [], 6, 0, 0, 126) else mm_nop))) else (bif Nat.ble 122 pc then
  (bif Nat.ble 125 pc then (.aload_n 0, 1, [], [], 0, 0, 0, 125) else (bif Nat.beq 122 pc then (.invokevirtual 89, 3, [(5, 81), (1, 81)], [[6007, 8124, 32, 6009, 2009], [6007, 8124, 33, 6009, 2009]], 2, 0, 0, 122) else mm_nop)) else (bif Nat.ble 121 pc then (.iadd, 1, [], [], 0, 0, 0, 121) else (.iconst 1, 1, [], [], 0, 1, 0, 120))))) else (bif Nat.ble 103 pc then
  (bif Nat.ble 113 pc then
  (bif Nat.ble 115 pc then
  (bif Nat.ble 118 pc then
  (bif Nat.beq 118 pc then (.iload 6, 2, [], [], 6, 0, 0, 118) else mm_nop) else (bif Nat.beq 115 pc then (.invokestatic 200, 3, [(0, 134)], [[5023, 3173, 2013]], 1, 0, 0, 115) else mm_nop)) else (bif Nat.ble 114 pc then (.lload_n 1, 1, [], [], 1, 0, 0, 114) else (.aload_n 0, 1, [], [], 0, 0, 0, 113))) else (bif Nat.ble 107 pc then
  (bif Nat.ble 110 pc then
  (bif Nat.beq 110 pc then (.ifCond .ne 29, 3, [(0, 139)], [], 0, 0, 0, 110) else mm_nop) else (bif Nat.beq 107 pc then (.invokevirtual 225, 3, [(8, 124)], [[6029, 6030, 6031, 2008]], 0, 0, 0, 107) else mm_nop)) else (bif Nat.ble 104 pc then
  (bif Nat.beq 104 pc then (.getfield 35, 3, [(5, 2), (1, 2)], [[2224]], 0, 0, 0, 104) else mm_nop) else (.aload_n 0, 1, [], [], 0, 0, 0, 103)))) else (bif Nat.ble 94 pc then
  (bif Nat.ble 98 pc then
  (bif Nat.ble 100 pc then
  (bif Nat.beq 100 pc then (.if_icmp .ge 39, 3, [(0, 139)], [], 0, 0, 0, 100) else mm_nop) else (bif Nat.beq 98 pc then (.iload 5, 2, [], [], 5, 0, 0, 98) else mm_nop)) else (bif Nat.ble 96 pc then
  (bif Nat.beq 96 pc then (.iload 7, 2, [], [], 7, 0, 0, 96) else mm_nop) else (bif Nat.beq 94 pc then (.istore 7, 2, [], [], 7, 0, 0, 94) else mm_nop))) else (bif Nat.ble 91 pc then
  (bif Nat.ble 93 pc then (.iconst 0, 1, [], [], 0, 0, 0, 93) else (bif Nat.beq 91 pc then (.istore 6, 2, [], [], 6, 0, 0, 91) else mm_nop)) else (bif Nat.ble 89 pc then
  (bif Nat.beq 89 pc then (.iload 4, 2, [], [], 4, 0, 0, 89) else mm_nop) else (bif Nat.beq 86 pc then (.invokevirtual 222, 3, [(8, 125)], [[6025, 6026, 6027, 2008]], 1, 0, 0, 86) else mm_nop)))))) else (bif Nat.ble 53 pc then
  (bif Nat.ble 67 pc then
  (bif Nat.ble 75 pc then
  (bif Nat.ble 80 pc then
  (bif Nat.ble 81 pc then
  (bif Nat.ble 84 pc then
  (bif Nat.beq 84 pc then (.iload 5, 2, [], [], 5, 0, 0, 84) else mm_nop) else (bif Nat.beq 81 pc then (.getfield 35, 3, [(5, 2), (1, 2)], [[2224]], 0, 0, 0, 81) else mm_nop)) else (.aload_n 0, 1, [], [], 0, 0, 0, 80)) else (bif Nat.ble 78 pc then
  (bif Nat.beq 78 pc then (.istore 5, 2, [], [], 5, 0, 0, 78) else mm_nop) else (bif Nat.beq 75 pc then (.invokevirtual 219, 3, [(5, 82), (1, 82)], [[6021, 8125, 34, 6023, 2009], [6021, 8125, 35, 6023, 2009]], 1, 0, 0, 75) else mm_nop))) else (bif Nat.ble 72 pc then
  (bif Nat.ble 73 pc then
  (bif Nat.beq 73 pc then (.iload 4, 2, [], [], 4, 0, 0, 73) else mm_nop) else (.aload_n 0, 1, [], [], 0, 0, 0, 72)) else (bif Nat.ble 70 pc then
  (bif Nat.beq 70 pc then (.istore 4, 2, [], [], 4, 0, 0, 70) else mm_nop) else (bif Nat.beq 67 pc then (.invokevirtual 187, 3, [(5, 83), (1, 83)], [[5040, 5042, 5044, 5041, 2009], [5040, 5042, 5043, 5041, 2009]], 1, 0, 0, 67) else mm_nop)))) else (bif Nat.ble 59 pc then
  (bif Nat.ble 65 pc then
  (bif Nat.ble 66 pc then (.iload_n 3, 1, [], [], 3, 0, 0, 66) else (.aload_n 0, 1, [], [], 0, 0, 0, 65)) else (bif Nat.ble 62 pc then
  (bif Nat.beq 62 pc then (.goto 92, 3, [(0, 154)], [], 0, 0, 0, 62) else mm_nop) else (bif Nat.beq 59 pc then (.invokevirtual 89, 3, [(5, 81), (1, 81)], [[6007, 8124, 32, 6009, 2009], [6007, 8124, 33, 6009, 2009]], 2, 0, 0, 59) else mm_nop))) else (bif Nat.ble 55 pc then
  (bif Nat.ble 56 pc then
  (bif Nat.beq 56 pc then (.invokevirtual 215, 3, [(5, 64), (1, 21)], [[6011, 6013, 6018, 6019, 2010, 6012], [6011, 6013, 6014, 6015, 2011, 6012]], 3, 0, 0, 56) else mm_nop) else (.iconst 1, 1, [], [], 0, 1, 0, 55)) else (bif Nat.ble 54 pc then (.iload_n 3, 1, [], [], 3, 0, 0, 54) else (.lload_n 1, 1, [], [], 1, 0, 0, 53))))) else (bif Nat.ble 39 pc then
  (bif Nat.ble 47 pc then
  (bif Nat.ble 49 pc then
  (bif Nat.ble 52 pc then (.aload_n 0, 1, [], [], 0, 0, 0, 52) else (bif Nat.beq 49 pc then (.invokestatic 204, 3, [(0, 135)], [[5024, 3184, 2013]], 1, 0, 0, 49) else mm_nop)) else (bif Nat.ble 48 pc then (.lload_n 1, 1, [], [], 1, 0, 0, 48) else (.aload_n 0, 1, [], [], 0, 0, 0, 47))) else (bif Nat.ble 41 pc then
  (bif Nat.ble 44 pc then
  (bif Nat.beq 44 pc then (.invokevirtual 89, 3, [(5, 81), (1, 81)], [[6007, 8124, 32, 6009, 2009], [6007, 8124, 33, 6009, 2009]], 2, 0, 0, 44) else mm_nop) else (bif Nat.beq 41 pc then (.invokevirtual 215, 3, [(5, 64), (1, 21)], [[6011, 6013, 6018, 6019, 2010, 6012], [6011, 6013, 6014, 6015, 2011, 6012]], 3, 0, 0, 41) else mm_nop)) else (bif Nat.ble 40 pc then (.iconst 0, 1, [], [], 0, 0, 0, 40) else (.iload_n 3, 1, [], [], 3, 0, 0, 39)))) else (bif Nat.ble 33 pc then
  (bif Nat.ble 37 pc then
  (bif Nat.ble 38 pc then (.lload_n 1, 1, [], [], 1, 0, 0, 38) else (.aload_n 0, 1, [], [], 0, 0, 0, 37)) else (bif Nat.ble 34 pc then
  (bif Nat.beq 34 pc then (.invokestatic 200, 3, [(0, 134)], [[5023, 3173, 2013]], 1, 0, 0, 34) else mm_nop) else (.lload_n 1, 1, [], [], 1, 0, 0, 33))) else (bif Nat.ble 4 pc then
  (bif Nat.ble 32 pc then (.aload_n 0, 1, [], [], 0, 0, 0, 32) else (bif Nat.beq 4 pc then (.lookupswitch 138 #[(4, 28), (5, 61)], 28, [(0, 142), (4, 32), (5, 65)], [], 0, 0, 0, 4) else mm_nop)) else (bif Nat.ble 1 pc then
  (bif Nat.beq 1 pc then (.invokestatic 193, 3, [(0, 133)], [[5008, 3164, 2013]], 1, 0, 0, 1) else mm_nop) else (.lload_n 1, 1, [], [], 1, 0, 0, 0)))))))
def mm_k81 : List mm_E := (List.range 155).map mm_f81
def mm_m81 : mm_M := (yX6_tellValue, cX6_tellValue, 8, none, mm_k81, 2, 0, 0, 6010)
/-- TypeCopier$Machine.chainLength.(I)I -/
def mm_f82 : Nat → mm_E := fun pc => (bif Nat.ble 12 pc then
  (bif Nat.ble 20 pc then
  (bif Nat.ble 24 pc then
  (bif Nat.ble 27 pc then
  (bif Nat.ble 28 pc then (.ireturn, 1, [], [], 0, 0, 0, 28) else (.iload_n 2, 1, [], [], 2, 0, 0, 27)) else (bif Nat.beq 24 pc then (.goto (-20), 3, [(0, 4)], [], 0, 0, 0, 24) else mm_nop)) else (bif Nat.ble 23 pc then (.istore_n 3, 1, [], [], 3, 0, 0, 23) else (bif Nat.beq 20 pc then (.invokevirtual 187, 3, [(5, 83), (1, 83)], [[5040, 5042, 5044, 5041, 2009], [5040, 5042, 5043, 5041, 2009]], 1, 0, 0, 20) else mm_nop))) else (bif Nat.ble 18 pc then
  (bif Nat.ble 19 pc then (.iload_n 3, 1, [], [], 3, 0, 0, 19) else (.aload_n 0, 1, [], [], 0, 0, 0, 18)) else (bif Nat.ble 15 pc then
  (bif Nat.beq 15 pc then (.iinc 2 1, 3, [], [], 2, 1, 0, 15) else mm_nop) else (bif Nat.beq 12 pc then (.if_icmp .ge 15, 3, [(0, 27)], [], 0, 0, 0, 12) else mm_nop)))) else (bif Nat.ble 4 pc then
  (bif Nat.ble 8 pc then
  (bif Nat.ble 9 pc then
  (bif Nat.beq 9 pc then (.sipush 1000, 3, [], [], 0, 1000, 0, 9) else mm_nop) else (.iload_n 2, 1, [], [], 2, 0, 0, 8)) else (bif Nat.ble 5 pc then
  (bif Nat.beq 5 pc then (.ifCond .eq 22, 3, [(0, 27)], [], 0, 0, 0, 5) else mm_nop) else (.iload_n 3, 1, [], [], 3, 0, 0, 4))) else (bif Nat.ble 2 pc then
  (bif Nat.ble 3 pc then (.istore_n 3, 1, [], [], 3, 0, 0, 3) else (.iload_n 1, 1, [], [], 1, 0, 0, 2)) else (bif Nat.ble 1 pc then (.istore_n 2, 1, [], [], 2, 0, 0, 1) else (.iconst 0, 1, [], [], 0, 0, 0, 0)))))
def mm_k82 : List mm_E := (List.range 29).map mm_f82
def mm_m82 : mm_M := (yX6_chainLength, cX6_chainLength, 4, (some .int), mm_k82, 1, 0, 0, 6024)
/-- TypeCopier$Machine.cell.(I)I -/
def mm_f83 : Nat → mm_E := fun pc => (bif Nat.ble 12 pc then
  (bif Nat.ble 17 pc then
  (bif Nat.ble 20 pc then
  (bif Nat.ble 21 pc then (.ireturn, 1, [], [], 0, 0, 0, 21) else (.iconst 0, 1, [], [], 0, 0, 0, 20)) else (bif Nat.beq 17 pc then (.goto 4, 3, [(0, 21)], [], 0, 0, 0, 17) else mm_nop)) else (bif Nat.ble 15 pc then
  (bif Nat.ble 16 pc then (.iaload, 1, [], [], 0, 0, 0, 16) else (.iload_n 1, 1, [], [], 1, 0, 0, 15)) else (bif Nat.beq 12 pc then (.getfield 11, 3, [(5, 3), (1, 3)], [[2225]], 0, 0, 0, 12) else mm_nop))) else (bif Nat.ble 5 pc then
  (bif Nat.ble 8 pc then
  (bif Nat.ble 11 pc then (.aload_n 0, 1, [], [], 0, 0, 0, 11) else (bif Nat.beq 8 pc then (.if_icmp .ge 12, 3, [(0, 20)], [], 0, 0, 0, 8) else mm_nop)) else (bif Nat.beq 5 pc then (.sipush 8192, 3, [], [], 0, 8192, 0, 5) else mm_nop)) else (bif Nat.ble 1 pc then
  (bif Nat.ble 4 pc then (.iload_n 1, 1, [], [], 1, 0, 0, 4) else (bif Nat.beq 1 pc then (.ifCond .lt 19, 3, [(0, 20)], [], 0, 0, 0, 1) else mm_nop)) else (.iload_n 1, 1, [], [], 1, 0, 0, 0))))
def mm_k83 : List mm_E := (List.range 22).map mm_f83
def mm_m83 : mm_M := (yX6_cell, cX6_cell, 2, (some .int), mm_k83, 1, 0, 0, 5045)
/-- TypeCopier$Machine.setCell.(II)V -/
def mm_f84 : Nat → mm_E := fun pc => (bif Nat.ble 11 pc then
  (bif Nat.ble 16 pc then
  (bif Nat.ble 17 pc then
  (bif Nat.ble 18 pc then (.return_, 1, [], [], 0, 0, 0, 18) else (.iastore, 1, [], [], 0, 0, 0, 17)) else (.iload_n 2, 1, [], [], 2, 0, 0, 16)) else (bif Nat.ble 12 pc then
  (bif Nat.ble 15 pc then (.iload_n 1, 1, [], [], 1, 0, 0, 15) else (bif Nat.beq 12 pc then (.getfield 11, 3, [(5, 3), (1, 3)], [[2225]], 0, 0, 0, 12) else mm_nop)) else (.aload_n 0, 1, [], [], 0, 0, 0, 11))) else (bif Nat.ble 4 pc then
  (bif Nat.ble 5 pc then
  (bif Nat.ble 8 pc then
  (bif Nat.beq 8 pc then (.if_icmp .ge 10, 3, [(0, 18)], [], 0, 0, 0, 8) else mm_nop) else (bif Nat.beq 5 pc then (.sipush 8192, 3, [], [], 0, 8192, 0, 5) else mm_nop)) else (.iload_n 1, 1, [], [], 1, 0, 0, 4)) else (bif Nat.ble 1 pc then
  (bif Nat.beq 1 pc then (.ifCond .lt 17, 3, [(0, 18)], [], 0, 0, 0, 1) else mm_nop) else (.iload_n 1, 1, [], [], 1, 0, 0, 0))))
def mm_k84 : List mm_E := (List.range 19).map mm_f84
def mm_m84 : mm_M := (yX6_setCell, cX6_setCell, 3, none, mm_k84, 2, 0, 0, 5022)
/-- TypeCopier$Machine.push.(I)V -/
def mm_f85 : Nat → mm_E := fun pc => (bif Nat.ble 10 pc then
  (bif Nat.ble 15 pc then
  (bif Nat.ble 16 pc then
  (bif Nat.ble 19 pc then (.return_, 1, [], [], 0, 0, 0, 19) else (bif Nat.beq 16 pc then (.putfield 39, 3, [(5, 8), (1, 8)], [[2230]], 0, 0, 0, 16) else mm_nop)) else (.iadd, 1, [], [], 0, 0, 0, 15)) else (bif Nat.ble 11 pc then
  (bif Nat.ble 14 pc then (.iconst 1, 1, [], [], 0, 1, 0, 14) else (bif Nat.beq 11 pc then (.getfield 39, 3, [(5, 8), (1, 8)], [[2230]], 0, 0, 0, 11) else mm_nop)) else (.dup, 1, [], [], 0, 0, 0, 10))) else (bif Nat.ble 5 pc then
  (bif Nat.ble 6 pc then
  (bif Nat.ble 9 pc then (.aload_n 0, 1, [], [], 0, 0, 0, 9) else (bif Nat.beq 6 pc then (.invokevirtual 190, 3, [(5, 84), (1, 84)], [[5019, 8106, 2, 5021, 2009], [5019, 8106, 3, 5021, 2009]], 2, 0, 0, 6) else mm_nop)) else (.iload_n 1, 1, [], [], 1, 0, 0, 5)) else (bif Nat.ble 1 pc then
  (bif Nat.ble 2 pc then
  (bif Nat.beq 2 pc then (.getfield 39, 3, [(5, 8), (1, 8)], [[2230]], 0, 0, 0, 2) else mm_nop) else (.aload_n 0, 1, [], [], 0, 0, 0, 1)) else (.aload_n 0, 1, [], [], 0, 0, 0, 0))))
def mm_k85 : List mm_E := (List.range 20).map mm_f85
def mm_m85 : mm_M := (yX6_push, cX6_push, 2, none, mm_k85, 1, 0, 0, 5018)
/-- TypeCopier$Machine.pop.()I -/
def mm_f86 : Nat → mm_E := fun pc => (bif Nat.ble 7 pc then
  (bif Nat.ble 12 pc then
  (bif Nat.ble 15 pc then
  (bif Nat.ble 18 pc then (.ireturn, 1, [], [], 0, 0, 0, 18) else (bif Nat.beq 15 pc then (.invokevirtual 187, 3, [(5, 83), (1, 83)], [[5040, 5042, 5044, 5041, 2009], [5040, 5042, 5043, 5041, 2009]], 1, 0, 0, 15) else mm_nop)) else (bif Nat.beq 12 pc then (.getfield 39, 3, [(5, 8), (1, 8)], [[2230]], 0, 0, 0, 12) else mm_nop)) else (bif Nat.ble 10 pc then
  (bif Nat.ble 11 pc then (.aload_n 0, 1, [], [], 0, 0, 0, 11) else (.aload_n 0, 1, [], [], 0, 0, 0, 10)) else (bif Nat.beq 7 pc then (.putfield 39, 3, [(5, 8), (1, 8)], [[2230]], 0, 0, 0, 7) else mm_nop))) else (bif Nat.ble 2 pc then
  (bif Nat.ble 5 pc then
  (bif Nat.ble 6 pc then (.isub, 1, [], [], 0, 0, 0, 6) else (.iconst 1, 1, [], [], 0, 1, 0, 5)) else (bif Nat.beq 2 pc then (.getfield 39, 3, [(5, 8), (1, 8)], [[2230]], 0, 0, 0, 2) else mm_nop)) else (bif Nat.ble 1 pc then (.dup, 1, [], [], 0, 0, 0, 1) else (.aload_n 0, 1, [], [], 0, 0, 0, 0))))
def mm_k86 : List mm_E := (List.range 19).map mm_f86
def mm_m86 : mm_M := (yX6_pop, cX6_pop, 1, (some .int), mm_k86, 0, 0, 0, 5039)
/-- TypeCopier$Machine.pushFrom.(II)V -/
def mm_f87 : Nat → mm_E := fun pc => (bif Nat.ble 9 pc then
  (bif Nat.ble 15 pc then
  (bif Nat.ble 21 pc then
  (bif Nat.ble 24 pc then (.return_, 1, [], [], 0, 0, 0, 24) else (bif Nat.beq 21 pc then (.goto (-19), 3, [(0, 2)], [], 0, 0, 0, 21) else mm_nop)) else (bif Nat.ble 18 pc then
  (bif Nat.beq 18 pc then (.iinc 3 1, 3, [], [], 3, 1, 0, 18) else mm_nop) else (bif Nat.beq 15 pc then (.invokevirtual 153, 3, [(5, 85), (1, 85)], [[5013, 5015, 5017, 5014, 2009], [5013, 5015, 5016, 5014, 2009]], 1, 0, 0, 15) else mm_nop))) else (bif Nat.ble 11 pc then
  (bif Nat.ble 12 pc then
  (bif Nat.beq 12 pc then (.invokevirtual 187, 3, [(5, 83), (1, 83)], [[5040, 5042, 5044, 5041, 2009], [5040, 5042, 5043, 5041, 2009]], 1, 0, 0, 12) else mm_nop) else (.iadd, 1, [], [], 0, 0, 0, 11)) else (bif Nat.ble 10 pc then (.iload_n 3, 1, [], [], 3, 0, 0, 10) else (.iload_n 1, 1, [], [], 1, 0, 0, 9)))) else (bif Nat.ble 3 pc then
  (bif Nat.ble 7 pc then
  (bif Nat.ble 8 pc then (.aload_n 0, 1, [], [], 0, 0, 0, 8) else (.aload_n 0, 1, [], [], 0, 0, 0, 7)) else (bif Nat.ble 4 pc then
  (bif Nat.beq 4 pc then (.if_icmp .ge 20, 3, [(0, 24)], [], 0, 0, 0, 4) else mm_nop) else (.iload_n 2, 1, [], [], 2, 0, 0, 3))) else (bif Nat.ble 1 pc then
  (bif Nat.ble 2 pc then (.iload_n 3, 1, [], [], 3, 0, 0, 2) else (.istore_n 3, 1, [], [], 3, 0, 0, 1)) else (.iconst 0, 1, [], [], 0, 0, 0, 0))))
def mm_k87 : List mm_E := (List.range 25).map mm_f87
def mm_m87 : mm_M := (yX6_pushFrom, cX6_pushFrom, 4, none, mm_k87, 2, 0, 0, 5197)
/-- TypeCopier$Machine.keep.(III)V -/
def mm_f88 : Nat → mm_E := fun pc => (bif Nat.ble 24 pc then
  (bif Nat.ble 37 pc then
  (bif Nat.ble 46 pc then
  (bif Nat.ble 48 pc then
  (bif Nat.ble 51 pc then (.return_, 1, [], [], 0, 0, 0, 51) else (bif Nat.beq 48 pc then (.putfield 39, 3, [(5, 8), (1, 8)], [[2230]], 0, 0, 0, 48) else mm_nop)) else (bif Nat.ble 47 pc then (.iadd, 1, [], [], 0, 0, 0, 47) else (.iload_n 3, 1, [], [], 3, 0, 0, 46))) else (bif Nat.ble 43 pc then
  (bif Nat.ble 44 pc then
  (bif Nat.beq 44 pc then (.iload 4, 2, [], [], 4, 0, 0, 44) else mm_nop) else (.aload_n 0, 1, [], [], 0, 0, 0, 43)) else (bif Nat.ble 40 pc then
  (bif Nat.beq 40 pc then (.goto (-29), 3, [(0, 11)], [], 0, 0, 0, 40) else mm_nop) else (bif Nat.beq 37 pc then (.iinc 5 1, 3, [], [], 5, 1, 0, 37) else mm_nop)))) else (bif Nat.ble 28 pc then
  (bif Nat.ble 31 pc then
  (bif Nat.ble 34 pc then
  (bif Nat.beq 34 pc then (.invokevirtual 190, 3, [(5, 84), (1, 84)], [[5019, 8106, 2, 5021, 2009], [5019, 8106, 3, 5021, 2009]], 2, 0, 0, 34) else mm_nop) else (bif Nat.beq 31 pc then (.invokevirtual 187, 3, [(5, 83), (1, 83)], [[5040, 5042, 5044, 5041, 2009], [5040, 5042, 5043, 5041, 2009]], 1, 0, 0, 31) else mm_nop)) else (bif Nat.ble 30 pc then (.iadd, 1, [], [], 0, 0, 0, 30) else (bif Nat.beq 28 pc then (.iload 5, 2, [], [], 5, 0, 0, 28) else mm_nop))) else (bif Nat.ble 26 pc then
  (bif Nat.ble 27 pc then (.iadd, 1, [], [], 0, 0, 0, 27) else (.iload_n 2, 1, [], [], 2, 0, 0, 26)) else (bif Nat.beq 24 pc then (.iload 4, 2, [], [], 4, 0, 0, 24) else mm_nop)))) else (bif Nat.ble 11 pc then
  (bif Nat.ble 18 pc then
  (bif Nat.ble 22 pc then
  (bif Nat.ble 23 pc then (.aload_n 0, 1, [], [], 0, 0, 0, 23) else (.iadd, 1, [], [], 0, 0, 0, 22)) else (bif Nat.ble 20 pc then
  (bif Nat.beq 20 pc then (.iload 5, 2, [], [], 5, 0, 0, 20) else mm_nop) else (bif Nat.beq 18 pc then (.iload 4, 2, [], [], 4, 0, 0, 18) else mm_nop))) else (bif Nat.ble 14 pc then
  (bif Nat.ble 17 pc then (.aload_n 0, 1, [], [], 0, 0, 0, 17) else (bif Nat.beq 14 pc then (.if_icmp .ge 29, 3, [(0, 43)], [], 0, 0, 0, 14) else mm_nop)) else (bif Nat.ble 13 pc then (.iload_n 3, 1, [], [], 3, 0, 0, 13) else (bif Nat.beq 11 pc then (.iload 5, 2, [], [], 5, 0, 0, 11) else mm_nop)))) else (bif Nat.ble 5 pc then
  (bif Nat.ble 8 pc then
  (bif Nat.ble 9 pc then
  (bif Nat.beq 9 pc then (.istore 5, 2, [], [], 5, 0, 0, 9) else mm_nop) else (.iconst 0, 1, [], [], 0, 0, 0, 8)) else (bif Nat.ble 6 pc then
  (bif Nat.beq 6 pc then (.istore 4, 2, [], [], 4, 0, 0, 6) else mm_nop) else (.isub, 1, [], [], 0, 0, 0, 5))) else (bif Nat.ble 1 pc then
  (bif Nat.ble 4 pc then (.iload_n 1, 1, [], [], 1, 0, 0, 4) else (bif Nat.beq 1 pc then (.getfield 39, 3, [(5, 8), (1, 8)], [[2230]], 0, 0, 0, 1) else mm_nop)) else (.aload_n 0, 1, [], [], 0, 0, 0, 0)))))
def mm_k88 : List mm_E := (List.range 52).map mm_f88
def mm_m88 : mm_M := (yX6_keep, cX6_keep, 6, none, mm_k88, 3, 0, 0, 5183)
/-- TypeCopier$Machine.storeTwo.(II)I -/
def mm_f89 : Nat → mm_E := fun pc => (bif Nat.ble 16 pc then
  (bif Nat.ble 23 pc then
  (bif Nat.ble 26 pc then
  (bif Nat.ble 29 pc then
  (bif Nat.ble 30 pc then (.ireturn, 1, [], [], 0, 0, 0, 30) else (.iload_n 3, 1, [], [], 3, 0, 0, 29)) else (bif Nat.beq 26 pc then (.invokevirtual 190, 3, [(5, 84), (1, 84)], [[5019, 8106, 2, 5021, 2009], [5019, 8106, 3, 5021, 2009]], 2, 0, 0, 26) else mm_nop)) else (bif Nat.ble 24 pc then
  (bif Nat.ble 25 pc then (.iload_n 2, 1, [], [], 2, 0, 0, 25) else (.iadd, 1, [], [], 0, 0, 0, 24)) else (.iconst 1, 1, [], [], 0, 1, 0, 23))) else (bif Nat.ble 18 pc then
  (bif Nat.ble 21 pc then
  (bif Nat.ble 22 pc then (.iload_n 3, 1, [], [], 3, 0, 0, 22) else (.aload_n 0, 1, [], [], 0, 0, 0, 21)) else (bif Nat.beq 18 pc then (.invokevirtual 190, 3, [(5, 84), (1, 84)], [[5019, 8106, 2, 5021, 2009], [5019, 8106, 3, 5021, 2009]], 2, 0, 0, 18) else mm_nop)) else (bif Nat.ble 17 pc then (.iload_n 1, 1, [], [], 1, 0, 0, 17) else (.iload_n 3, 1, [], [], 3, 0, 0, 16)))) else (bif Nat.ble 7 pc then
  (bif Nat.ble 11 pc then
  (bif Nat.ble 12 pc then
  (bif Nat.ble 15 pc then (.aload_n 0, 1, [], [], 0, 0, 0, 15) else (bif Nat.beq 12 pc then (.putfield 43, 3, [(5, 9), (1, 9)], [[2231]], 0, 0, 0, 12) else mm_nop)) else (.iadd, 1, [], [], 0, 0, 0, 11)) else (bif Nat.ble 10 pc then (.iconst 2, 1, [], [], 0, 2, 0, 10) else (bif Nat.beq 7 pc then (.getfield 43, 3, [(5, 9), (1, 9)], [[2231]], 0, 0, 0, 7) else mm_nop))) else (bif Nat.ble 4 pc then
  (bif Nat.ble 5 pc then
  (bif Nat.ble 6 pc then (.dup, 1, [], [], 0, 0, 0, 6) else (.aload_n 0, 1, [], [], 0, 0, 0, 5)) else (.istore_n 3, 1, [], [], 3, 0, 0, 4)) else (bif Nat.ble 1 pc then
  (bif Nat.beq 1 pc then (.getfield 43, 3, [(5, 9), (1, 9)], [[2231]], 0, 0, 0, 1) else mm_nop) else (.aload_n 0, 1, [], [], 0, 0, 0, 0)))))
def mm_k89 : List mm_E := (List.range 31).map mm_f89
def mm_m89 : mm_M := (yX6_storeTwo, cX6_storeTwo, 4, (some .int), mm_k89, 2, 0, 0, 5051)
/-- TypeCopier$Nodes.<init>.()V -/
def mm_f90 : Nat → mm_E := fun pc => (bif Nat.ble 23 pc then
  (bif Nat.ble 37 pc then
  (bif Nat.ble 44 pc then
  (bif Nat.ble 46 pc then
  (bif Nat.ble 49 pc then (.return_, 1, [], [], 0, 0, 0, 49) else (bif Nat.beq 46 pc then (.putfield 24, 3, [(6, 4)], [[2048]], 1, 0, 0, 46) else mm_nop)) else (bif Nat.beq 44 pc then (.newarray .int, 2, [(0, 200)], [[2066]], 0, 0, 0, 44) else mm_nop)) else (bif Nat.ble 40 pc then
  (bif Nat.ble 41 pc then
  (bif Nat.beq 41 pc then (.sipush 200, 3, [], [], 0, 200, 0, 41) else mm_nop) else (.aload_n 0, 1, [], [], 0, 0, 0, 40)) else (bif Nat.beq 37 pc then (.putfield 21, 3, [(6, 3)], [[2047]], 1, 0, 0, 37) else mm_nop))) else (bif Nat.ble 31 pc then
  (bif Nat.ble 32 pc then
  (bif Nat.ble 35 pc then
  (bif Nat.beq 35 pc then (.newarray .int, 2, [(0, 200)], [[2066]], 0, 0, 0, 35) else mm_nop) else (bif Nat.beq 32 pc then (.sipush 200, 3, [], [], 0, 200, 0, 32) else mm_nop)) else (.aload_n 0, 1, [], [], 0, 0, 0, 31)) else (bif Nat.ble 26 pc then
  (bif Nat.ble 28 pc then
  (bif Nat.beq 28 pc then (.putfield 18, 3, [(6, 2)], [[2046]], 1, 0, 0, 28) else mm_nop) else (bif Nat.beq 26 pc then (.newarray .int, 2, [(0, 800)], [[2066]], 0, 0, 0, 26) else mm_nop)) else (bif Nat.beq 23 pc then (.sipush 800, 3, [], [], 0, 800, 0, 23) else mm_nop)))) else (bif Nat.ble 10 pc then
  (bif Nat.ble 17 pc then
  (bif Nat.ble 19 pc then
  (bif Nat.ble 22 pc then (.aload_n 0, 1, [], [], 0, 0, 0, 22) else (bif Nat.beq 19 pc then (.putfield 15, 3, [(6, 1)], [[2045]], 1, 0, 0, 19) else mm_nop)) else (bif Nat.beq 17 pc then (.newarray .int, 2, [(0, 200)], [[2066]], 0, 0, 0, 17) else mm_nop)) else (bif Nat.ble 13 pc then
  (bif Nat.ble 14 pc then
  (bif Nat.beq 14 pc then (.sipush 200, 3, [], [], 0, 200, 0, 14) else mm_nop) else (.aload_n 0, 1, [], [], 0, 0, 0, 13)) else (bif Nat.beq 10 pc then (.putfield 11, 3, [(6, 0)], [[2044]], 1, 0, 0, 10) else mm_nop))) else (bif Nat.ble 4 pc then
  (bif Nat.ble 5 pc then
  (bif Nat.ble 8 pc then
  (bif Nat.beq 8 pc then (.newarray .int, 2, [(0, 200)], [[2066]], 0, 0, 0, 8) else mm_nop) else (bif Nat.beq 5 pc then (.sipush 200, 3, [], [], 0, 200, 0, 5) else mm_nop)) else (.aload_n 0, 1, [], [], 0, 0, 0, 4)) else (bif Nat.ble 1 pc then
  (bif Nat.beq 1 pc then (.invokespecial 3, 3, [], [[2043, 2022, 2023]], 0, 0, 0, 1) else mm_nop) else (.aload_n 0, 1, [], [], 0, 0, 0, 0)))))
def mm_k90 : List mm_E := (List.range 50).map mm_f90
def mm_m90 : mm_M := (yX7_init, cX7_init, 1, none, mm_k90, 0, 5, 1600, 2042)
/-- TypeCopier$Nodes.size.()I -/
def mm_f91 : Nat → mm_E := fun pc => (bif Nat.ble 1 pc then
  (bif Nat.ble 4 pc then (.ireturn, 1, [], [], 0, 0, 0, 4) else (bif Nat.beq 1 pc then (.getfield 27, 3, [(6, 5)], [[2049]], 0, 0, 0, 1) else mm_nop)) else (.aload_n 0, 1, [], [], 0, 0, 0, 0))
def mm_k91 : List mm_E := (List.range 5).map mm_f91
def mm_m91 : mm_M := (yX7_size, cX7_size, 1, (some .int), mm_k91, 0, 0, 0, 4153)
/-- TypeCopier$Nodes.has.(I)Z -/
def mm_f92 : Nat → mm_E := fun pc => (bif Nat.ble 12 pc then
  (bif Nat.ble 19 pc then
  (bif Nat.ble 23 pc then
  (bif Nat.ble 24 pc then (.ireturn, 1, [], [], 0, 0, 0, 24) else (.iconst 0, 1, [], [], 0, 0, 0, 23)) else (bif Nat.ble 20 pc then
  (bif Nat.beq 20 pc then (.goto 4, 3, [(0, 24)], [], 0, 0, 0, 20) else mm_nop) else (.iconst 1, 1, [], [], 0, 1, 0, 19))) else (bif Nat.ble 13 pc then
  (bif Nat.ble 16 pc then
  (bif Nat.beq 16 pc then (.if_icmp .ge 7, 3, [(0, 23)], [], 0, 0, 0, 16) else mm_nop) else (bif Nat.beq 13 pc then (.sipush 200, 3, [], [], 0, 200, 0, 13) else mm_nop)) else (.iload_n 1, 1, [], [], 1, 0, 0, 12))) else (bif Nat.ble 5 pc then
  (bif Nat.ble 6 pc then
  (bif Nat.ble 9 pc then
  (bif Nat.beq 9 pc then (.if_icmp .ge 14, 3, [(0, 23)], [], 0, 0, 0, 9) else mm_nop) else (bif Nat.beq 6 pc then (.getfield 27, 3, [(6, 5)], [[2049]], 0, 0, 0, 6) else mm_nop)) else (.aload_n 0, 1, [], [], 0, 0, 0, 5)) else (bif Nat.ble 1 pc then
  (bif Nat.ble 4 pc then (.iload_n 1, 1, [], [], 1, 0, 0, 4) else (bif Nat.beq 1 pc then (.ifCond .lt 22, 3, [(0, 23)], [], 0, 0, 0, 1) else mm_nop)) else (.iload_n 1, 1, [], [], 1, 0, 0, 0))))
def mm_k92 : List mm_E := (List.range 25).map mm_f92
def mm_m92 : mm_M := (yX7_has, cX7_has, 2, (some .boolean), mm_k92, 1, 0, 0, 3086)
/-- TypeCopier$Nodes.isKind.(I)Z -/
def mm_f93 : Nat → mm_E := fun pc => (bif Nat.ble 7 pc then
  (bif Nat.ble 11 pc then
  (bif Nat.ble 14 pc then
  (bif Nat.ble 15 pc then (.ireturn, 1, [], [], 0, 0, 0, 15) else (.iconst 0, 1, [], [], 0, 0, 0, 14)) else (bif Nat.beq 11 pc then (.goto 4, 3, [(0, 15)], [], 0, 0, 0, 11) else mm_nop)) else (bif Nat.ble 10 pc then (.iconst 1, 1, [], [], 0, 1, 0, 10) else (bif Nat.beq 7 pc then (.if_icmp .gt 7, 3, [(0, 14)], [], 0, 0, 0, 7) else mm_nop))) else (bif Nat.ble 4 pc then
  (bif Nat.ble 5 pc then
  (bif Nat.beq 5 pc then (.bipush 14, 2, [], [], 0, 14, 0, 5) else mm_nop) else (.iload_n 1, 1, [], [], 1, 0, 0, 4)) else (bif Nat.ble 1 pc then
  (bif Nat.beq 1 pc then (.ifCond .lt 13, 3, [(0, 14)], [], 0, 0, 0, 1) else mm_nop) else (.iload_n 1, 1, [], [], 1, 0, 0, 0))))
def mm_k93 : List mm_E := (List.range 16).map mm_f93
def mm_m93 : mm_M := (yX7_isKind, cX7_isKind, 2, (some .boolean), mm_k93, 1, 0, 0, 4075)
/-- TypeCopier$Nodes.kindOf.(I)I -/
def mm_f94 : Nat → mm_E := fun pc => (bif Nat.ble 9 pc then
  (bif Nat.ble 14 pc then
  (bif Nat.ble 17 pc then
  (bif Nat.ble 18 pc then (.ireturn, 1, [], [], 0, 0, 0, 18) else (.iconst (-1), 1, [], [], 0, (-1), 0, 17)) else (bif Nat.beq 14 pc then (.goto 4, 3, [(0, 18)], [], 0, 0, 0, 14) else mm_nop)) else (bif Nat.ble 12 pc then
  (bif Nat.ble 13 pc then (.iaload, 1, [], [], 0, 0, 0, 13) else (.iload_n 1, 1, [], [], 1, 0, 0, 12)) else (bif Nat.beq 9 pc then (.getfield 11, 3, [(6, 0)], [[2044]], 0, 0, 0, 9) else mm_nop))) else (bif Nat.ble 2 pc then
  (bif Nat.ble 5 pc then
  (bif Nat.ble 8 pc then (.aload_n 0, 1, [], [], 0, 0, 0, 8) else (bif Nat.beq 5 pc then (.ifCond .eq 12, 3, [(0, 17)], [], 0, 0, 0, 5) else mm_nop)) else (bif Nat.beq 2 pc then (.invokevirtual 31, 3, [(6, 92)], [[3108, 3084, 3085, 2003]], 1, 0, 0, 2) else mm_nop)) else (bif Nat.ble 1 pc then (.iload_n 1, 1, [], [], 1, 0, 0, 1) else (.aload_n 0, 1, [], [], 0, 0, 0, 0))))
def mm_k94 : List mm_E := (List.range 19).map mm_f94
def mm_m94 : mm_M := (yX7_kindOf, cX7_kindOf, 2, (some .int), mm_k94, 1, 0, 0, 3130)
/-- TypeCopier$Nodes.wantsOf.(I)I -/
def mm_f95 : Nat → mm_E := fun pc => (bif Nat.ble 12 pc then
  (bif Nat.ble 17 pc then
  (bif Nat.ble 20 pc then
  (bif Nat.ble 21 pc then (.ireturn, 1, [], [], 0, 0, 0, 21) else (.iconst 0, 1, [], [], 0, 0, 0, 20)) else (bif Nat.beq 17 pc then (.goto 4, 3, [(0, 21)], [], 0, 0, 0, 17) else mm_nop)) else (bif Nat.ble 15 pc then
  (bif Nat.ble 16 pc then (.iaload, 1, [], [], 0, 0, 0, 16) else (.iload_n 1, 1, [], [], 1, 0, 0, 15)) else (bif Nat.beq 12 pc then (.getstatic 35, 3, [(0, 2)], [[6085]], 0, 0, 0, 12) else mm_nop))) else (bif Nat.ble 5 pc then
  (bif Nat.ble 8 pc then
  (bif Nat.ble 9 pc then
  (bif Nat.beq 9 pc then (.if_icmp .ge 11, 3, [(0, 20)], [], 0, 0, 0, 9) else mm_nop) else (.arraylength, 1, [], [], 0, 0, 0, 8)) else (bif Nat.beq 5 pc then (.getstatic 35, 3, [(0, 2)], [[6085]], 0, 0, 0, 5) else mm_nop)) else (bif Nat.ble 1 pc then
  (bif Nat.ble 4 pc then (.iload_n 1, 1, [], [], 1, 0, 0, 4) else (bif Nat.beq 1 pc then (.ifCond .lt 19, 3, [(0, 20)], [], 0, 0, 0, 1) else mm_nop)) else (.iload_n 1, 1, [], [], 1, 0, 0, 0))))
def mm_k95 : List mm_E := (List.range 22).map mm_f95
def mm_m95 : mm_M := (yX7_wantsOf, cX7_wantsOf, 2, (some .int), mm_k95, 1, 0, 0, 6084)
/-- TypeCopier$Nodes.partsOf.(I)I -/
def mm_f96 : Nat → mm_E := fun pc => (bif Nat.ble 12 pc then
  (bif Nat.ble 17 pc then
  (bif Nat.ble 20 pc then
  (bif Nat.ble 21 pc then (.ireturn, 1, [], [], 0, 0, 0, 21) else (.iconst 0, 1, [], [], 0, 0, 0, 20)) else (bif Nat.beq 17 pc then (.goto 4, 3, [(0, 21)], [], 0, 0, 0, 17) else mm_nop)) else (bif Nat.ble 15 pc then
  (bif Nat.ble 16 pc then (.iaload, 1, [], [], 0, 0, 0, 16) else (.iload_n 1, 1, [], [], 1, 0, 0, 15)) else (bif Nat.beq 12 pc then (.getstatic 38, 3, [(0, 3)], [[3113]], 0, 0, 0, 12) else mm_nop))) else (bif Nat.ble 5 pc then
  (bif Nat.ble 8 pc then
  (bif Nat.ble 9 pc then
  (bif Nat.beq 9 pc then (.if_icmp .ge 11, 3, [(0, 20)], [], 0, 0, 0, 9) else mm_nop) else (.arraylength, 1, [], [], 0, 0, 0, 8)) else (bif Nat.beq 5 pc then (.getstatic 38, 3, [(0, 3)], [[3113]], 0, 0, 0, 5) else mm_nop)) else (bif Nat.ble 1 pc then
  (bif Nat.ble 4 pc then (.iload_n 1, 1, [], [], 1, 0, 0, 4) else (bif Nat.beq 1 pc then (.ifCond .lt 19, 3, [(0, 20)], [], 0, 0, 0, 1) else mm_nop)) else (.iload_n 1, 1, [], [], 1, 0, 0, 0))))
def mm_k96 : List mm_E := (List.range 22).map mm_f96
def mm_m96 : mm_M := (yX7_partsOf, cX7_partsOf, 2, (some .int), mm_k96, 1, 0, 0, 3112)
/-- TypeCopier$Nodes.wantedAt.(II)I -/
def mm_f97 : Nat → mm_E := fun pc => (bif Nat.ble 18 pc then
  (bif Nat.ble 25 pc then
  (bif Nat.ble 27 pc then
  (bif Nat.ble 30 pc then
  (bif Nat.ble 31 pc then (.ireturn, 1, [], [], 0, 0, 0, 31) else (.iconst (-1), 1, [], [], 0, (-1), 0, 30)) else (bif Nat.beq 27 pc then (.goto 4, 3, [(0, 31)], [], 0, 0, 0, 27) else mm_nop)) else (bif Nat.ble 26 pc then (.iaload, 1, [], [], 0, 0, 0, 26) else (.iadd, 1, [], [], 0, 0, 0, 25))) else (bif Nat.ble 22 pc then
  (bif Nat.ble 23 pc then
  (bif Nat.ble 24 pc then (.iload_n 2, 1, [], [], 2, 0, 0, 24) else (.imul, 1, [], [], 0, 0, 0, 23)) else (.iconst 4, 1, [], [], 0, 4, 0, 22)) else (bif Nat.ble 21 pc then (.iload_n 1, 1, [], [], 1, 0, 0, 21) else (bif Nat.beq 18 pc then (.getfield 18, 3, [(6, 2)], [[2046]], 0, 0, 0, 18) else mm_nop)))) else (bif Nat.ble 9 pc then
  (bif Nat.ble 13 pc then
  (bif Nat.ble 14 pc then
  (bif Nat.ble 17 pc then (.aload_n 0, 1, [], [], 0, 0, 0, 17) else (bif Nat.beq 14 pc then (.if_icmp .ge 16, 3, [(0, 30)], [], 0, 0, 0, 14) else mm_nop)) else (.iconst 4, 1, [], [], 0, 4, 0, 13)) else (bif Nat.ble 12 pc then (.iload_n 2, 1, [], [], 2, 0, 0, 12) else (bif Nat.beq 9 pc then (.ifCond .lt 21, 3, [(0, 30)], [], 0, 0, 0, 9) else mm_nop))) else (bif Nat.ble 2 pc then
  (bif Nat.ble 5 pc then
  (bif Nat.ble 8 pc then (.iload_n 2, 1, [], [], 2, 0, 0, 8) else (bif Nat.beq 5 pc then (.ifCond .eq 25, 3, [(0, 30)], [], 0, 0, 0, 5) else mm_nop)) else (bif Nat.beq 2 pc then (.invokevirtual 31, 3, [(6, 92)], [[3108, 3084, 3085, 2003]], 1, 0, 0, 2) else mm_nop)) else (bif Nat.ble 1 pc then (.iload_n 1, 1, [], [], 1, 0, 0, 1) else (.aload_n 0, 1, [], [], 0, 0, 0, 0)))))
def mm_k97 : List mm_E := (List.range 32).map mm_f97
def mm_m97 : mm_M := (yX7_wantedAt, cX7_wantedAt, 3, (some .int), mm_k97, 2, 0, 0, 3138)
/-- TypeCopier$Nodes.partOf.(II)I -/
def mm_f98 : Nat → mm_E := fun pc => (bif Nat.ble 35 pc then
  (bif Nat.ble 54 pc then
  (bif Nat.ble 62 pc then
  (bif Nat.ble 67 pc then
  (bif Nat.ble 68 pc then
  (bif Nat.ble 69 pc then (.ireturn, 1, [], [], 0, 0, 0, 69) else (.iaload, 1, [], [], 0, 0, 0, 68)) else (.iadd, 1, [], [], 0, 0, 0, 67)) else (bif Nat.ble 63 pc then
  (bif Nat.ble 66 pc then (.iload_n 2, 1, [], [], 2, 0, 0, 66) else (bif Nat.beq 63 pc then (.goto 4, 3, [(0, 67)], [], 0, 0, 0, 63) else mm_nop)) else (.iconst 1, 1, [], [], 0, 1, 0, 62))) else (bif Nat.ble 56 pc then
  (bif Nat.ble 57 pc then
  (bif Nat.ble 59 pc then
  (bif Nat.beq 59 pc then (.if_icmp .ne 7, 3, [(0, 66)], [], 0, 0, 0, 59) else mm_nop) else (bif Nat.beq 57 pc then (.bipush 14, 2, [], [], 0, 14, 0, 57) else mm_nop)) else (.iload_n 3, 1, [], [], 3, 0, 0, 56)) else (bif Nat.ble 55 pc then (.imul, 1, [], [], 0, 0, 0, 55) else (.iconst 4, 1, [], [], 0, 4, 0, 54)))) else (bif Nat.ble 44 pc then
  (bif Nat.ble 49 pc then
  (bif Nat.ble 50 pc then
  (bif Nat.ble 53 pc then (.iload_n 1, 1, [], [], 1, 0, 0, 53) else (bif Nat.beq 50 pc then (.getfield 18, 3, [(6, 2)], [[2046]], 0, 0, 0, 50) else mm_nop)) else (.aload_n 0, 1, [], [], 0, 0, 0, 49)) else (bif Nat.ble 47 pc then
  (bif Nat.ble 48 pc then (.ireturn, 1, [], [], 0, 0, 0, 48) else (.iconst (-1), 1, [], [], 0, (-1), 0, 47)) else (bif Nat.beq 44 pc then (.if_icmp .lt 5, 3, [(0, 49)], [], 0, 0, 0, 44) else mm_nop))) else (bif Nat.ble 39 pc then
  (bif Nat.ble 42 pc then
  (bif Nat.ble 43 pc then (.iaload, 1, [], [], 0, 0, 0, 43) else (.iload_n 3, 1, [], [], 3, 0, 0, 42)) else (bif Nat.beq 39 pc then (.getstatic 38, 3, [(0, 3)], [[3113]], 0, 0, 0, 39) else mm_nop)) else (bif Nat.ble 38 pc then (.iload_n 2, 1, [], [], 2, 0, 0, 38) else (bif Nat.beq 35 pc then (.if_icmp .ge 12, 3, [(0, 47)], [], 0, 0, 0, 35) else mm_nop))))) else (bif Nat.ble 18 pc then
  (bif Nat.ble 25 pc then
  (bif Nat.ble 30 pc then
  (bif Nat.ble 31 pc then
  (bif Nat.ble 34 pc then (.arraylength, 1, [], [], 0, 0, 0, 34) else (bif Nat.beq 31 pc then (.getstatic 38, 3, [(0, 3)], [[3113]], 0, 0, 0, 31) else mm_nop)) else (.iload_n 3, 1, [], [], 3, 0, 0, 30)) else (bif Nat.ble 26 pc then
  (bif Nat.ble 27 pc then
  (bif Nat.beq 27 pc then (.ifCond .lt 20, 3, [(0, 47)], [], 0, 0, 0, 27) else mm_nop) else (.iload_n 3, 1, [], [], 3, 0, 0, 26)) else (.istore_n 3, 1, [], [], 3, 0, 0, 25))) else (bif Nat.ble 20 pc then
  (bif Nat.ble 23 pc then
  (bif Nat.ble 24 pc then (.iaload, 1, [], [], 0, 0, 0, 24) else (.iload_n 1, 1, [], [], 1, 0, 0, 23)) else (bif Nat.beq 20 pc then (.getfield 11, 3, [(6, 0)], [[2044]], 0, 0, 0, 20) else mm_nop)) else (bif Nat.ble 19 pc then (.aload_n 0, 1, [], [], 0, 0, 0, 19) else (.ireturn, 1, [], [], 0, 0, 0, 18)))) else (bif Nat.ble 9 pc then
  (bif Nat.ble 13 pc then
  (bif Nat.ble 14 pc then
  (bif Nat.ble 17 pc then (.iconst (-1), 1, [], [], 0, (-1), 0, 17) else (bif Nat.beq 14 pc then (.if_icmp .lt 5, 3, [(0, 19)], [], 0, 0, 0, 14) else mm_nop)) else (.iconst 4, 1, [], [], 0, 4, 0, 13)) else (bif Nat.ble 12 pc then (.iload_n 2, 1, [], [], 2, 0, 0, 12) else (bif Nat.beq 9 pc then (.ifCond .lt 8, 3, [(0, 17)], [], 0, 0, 0, 9) else mm_nop))) else (bif Nat.ble 2 pc then
  (bif Nat.ble 5 pc then
  (bif Nat.ble 8 pc then (.iload_n 2, 1, [], [], 2, 0, 0, 8) else (bif Nat.beq 5 pc then (.ifCond .eq 12, 3, [(0, 17)], [], 0, 0, 0, 5) else mm_nop)) else (bif Nat.beq 2 pc then (.invokevirtual 31, 3, [(6, 92)], [[3108, 3084, 3085, 2003]], 1, 0, 0, 2) else mm_nop)) else (bif Nat.ble 1 pc then (.iload_n 1, 1, [], [], 1, 0, 0, 1) else (.aload_n 0, 1, [], [], 0, 0, 0, 0))))))
def mm_k98 : List mm_E := (List.range 70).map mm_f98
def mm_m98 : mm_M := (yX7_partOf, cX7_partOf, 4, (some .int), mm_k98, 2, 0, 0, 3118)
/-- TypeCopier$Nodes.partsStand.(IIII)Z -/
def mm_f99 : Nat → mm_E := fun pc => (bif Nat.ble 27 pc then
  (bif Nat.ble 41 pc then
  (bif Nat.ble 50 pc then
  (bif Nat.ble 54 pc then
  (bif Nat.ble 55 pc then (.ireturn, 1, [], [], 0, 0, 0, 55) else (.iconst 0, 1, [], [], 0, 0, 0, 54)) else (bif Nat.ble 51 pc then
  (bif Nat.beq 51 pc then (.goto 4, 3, [(0, 55)], [], 0, 0, 0, 51) else mm_nop) else (.iconst 1, 1, [], [], 0, 1, 0, 50))) else (bif Nat.ble 44 pc then
  (bif Nat.ble 47 pc then
  (bif Nat.beq 47 pc then (.ifCond .eq 7, 3, [(0, 54)], [], 0, 0, 0, 47) else mm_nop) else (bif Nat.beq 44 pc then (.invokevirtual 31, 3, [(6, 92)], [[3108, 3084, 3085, 2003]], 1, 0, 0, 44) else mm_nop)) else (bif Nat.ble 42 pc then
  (bif Nat.beq 42 pc then (.iload 4, 2, [], [], 4, 0, 0, 42) else mm_nop) else (.aload_n 0, 1, [], [], 0, 0, 0, 41)))) else (bif Nat.ble 32 pc then
  (bif Nat.ble 37 pc then
  (bif Nat.ble 38 pc then
  (bif Nat.beq 38 pc then (.if_icmp .lt 12, 3, [(0, 50)], [], 0, 0, 0, 38) else mm_nop) else (.iconst 3, 1, [], [], 0, 3, 0, 37)) else (bif Nat.ble 35 pc then
  (bif Nat.beq 35 pc then (.iload 5, 2, [], [], 5, 0, 0, 35) else mm_nop) else (bif Nat.beq 32 pc then (.ifCond .eq 22, 3, [(0, 54)], [], 0, 0, 0, 32) else mm_nop))) else (bif Nat.ble 28 pc then
  (bif Nat.ble 29 pc then
  (bif Nat.beq 29 pc then (.invokevirtual 31, 3, [(6, 92)], [[3108, 3084, 3085, 2003]], 1, 0, 0, 29) else mm_nop) else (.iload_n 3, 1, [], [], 3, 0, 0, 28)) else (.aload_n 0, 1, [], [], 0, 0, 0, 27)))) else (bif Nat.ble 13 pc then
  (bif Nat.ble 18 pc then
  (bif Nat.ble 23 pc then
  (bif Nat.ble 24 pc then
  (bif Nat.beq 24 pc then (.if_icmp .lt 11, 3, [(0, 35)], [], 0, 0, 0, 24) else mm_nop) else (.iconst 2, 1, [], [], 0, 2, 0, 23)) else (bif Nat.ble 21 pc then
  (bif Nat.beq 21 pc then (.iload 5, 2, [], [], 5, 0, 0, 21) else mm_nop) else (bif Nat.beq 18 pc then (.ifCond .eq 36, 3, [(0, 54)], [], 0, 0, 0, 18) else mm_nop))) else (bif Nat.ble 14 pc then
  (bif Nat.ble 15 pc then
  (bif Nat.beq 15 pc then (.invokevirtual 31, 3, [(6, 92)], [[3108, 3084, 3085, 2003]], 1, 0, 0, 15) else mm_nop) else (.iload_n 2, 1, [], [], 2, 0, 0, 14)) else (.aload_n 0, 1, [], [], 0, 0, 0, 13))) else (bif Nat.ble 5 pc then
  (bif Nat.ble 9 pc then
  (bif Nat.ble 10 pc then
  (bif Nat.beq 10 pc then (.if_icmp .lt 11, 3, [(0, 21)], [], 0, 0, 0, 10) else mm_nop) else (.iconst 1, 1, [], [], 0, 1, 0, 9)) else (bif Nat.ble 7 pc then
  (bif Nat.beq 7 pc then (.iload 5, 2, [], [], 5, 0, 0, 7) else mm_nop) else (bif Nat.beq 5 pc then (.istore 5, 2, [], [], 5, 0, 0, 5) else mm_nop))) else (bif Nat.ble 1 pc then
  (bif Nat.ble 2 pc then
  (bif Nat.beq 2 pc then (.invokevirtual 41, 3, [(6, 96)], [[3109, 3110, 3111, 2003]], 1, 0, 0, 2) else mm_nop) else (.iload_n 1, 1, [], [], 1, 0, 0, 1)) else (.aload_n 0, 1, [], [], 0, 0, 0, 0)))))
def mm_k99 : List mm_E := (List.range 56).map mm_f99
def mm_m99 : mm_M := (yX7_partsStand, cX7_partsStand, 6, (some .boolean), mm_k99, 4, 0, 0, 4079)
/-- TypeCopier$Nodes.depthOver.(IIII)I -/
def mm_f100 : Nat → mm_E := fun pc => (bif Nat.ble 36 pc then
  (bif Nat.ble 57 pc then
  (bif Nat.ble 68 pc then
  (bif Nat.ble 74 pc then
  (bif Nat.ble 76 pc then
  (bif Nat.ble 77 pc then (.ireturn, 1, [], [], 0, 0, 0, 77) else (.iadd, 1, [], [], 0, 0, 0, 76)) else (bif Nat.beq 74 pc then (.iload 6, 2, [], [], 6, 0, 0, 74) else mm_nop)) else (bif Nat.ble 71 pc then
  (bif Nat.ble 73 pc then (.iconst 1, 1, [], [], 0, 1, 0, 73) else (bif Nat.beq 71 pc then (.istore 6, 2, [], [], 6, 0, 0, 71) else mm_nop)) else (bif Nat.beq 68 pc then (.invokestatic 48, 3, [(2, 0)], [[4088, 4089, 2014, 4090]], 2, 0, 0, 68) else mm_nop))) else (bif Nat.ble 62 pc then
  (bif Nat.ble 63 pc then
  (bif Nat.ble 65 pc then
  (bif Nat.beq 65 pc then (.invokevirtual 45, 3, [(6, 101)], [[4084, 4086, 1012, 2003]], 1, 0, 0, 65) else mm_nop) else (bif Nat.beq 63 pc then (.iload 4, 2, [], [], 4, 0, 0, 63) else mm_nop)) else (.aload_n 0, 1, [], [], 0, 0, 0, 62)) else (bif Nat.ble 60 pc then
  (bif Nat.beq 60 pc then (.iload 6, 2, [], [], 6, 0, 0, 60) else mm_nop) else (bif Nat.beq 57 pc then (.if_icmp .le 16, 3, [(0, 73)], [], 0, 0, 0, 57) else mm_nop)))) else (bif Nat.ble 45 pc then
  (bif Nat.ble 52 pc then
  (bif Nat.ble 54 pc then
  (bif Nat.ble 56 pc then (.iconst 2, 1, [], [], 0, 2, 0, 56) else (bif Nat.beq 54 pc then (.iload 5, 2, [], [], 5, 0, 0, 54) else mm_nop)) else (bif Nat.beq 52 pc then (.istore 6, 2, [], [], 6, 0, 0, 52) else mm_nop)) else (bif Nat.ble 46 pc then
  (bif Nat.ble 49 pc then
  (bif Nat.beq 49 pc then (.invokestatic 48, 3, [(2, 0)], [[4088, 4089, 2014, 4090]], 2, 0, 0, 49) else mm_nop) else (bif Nat.beq 46 pc then (.invokevirtual 45, 3, [(6, 101)], [[4084, 4086, 1012, 2003]], 1, 0, 0, 46) else mm_nop)) else (.iload_n 3, 1, [], [], 3, 0, 0, 45))) else (bif Nat.ble 39 pc then
  (bif Nat.ble 42 pc then
  (bif Nat.ble 44 pc then (.aload_n 0, 1, [], [], 0, 0, 0, 44) else (bif Nat.beq 42 pc then (.iload 6, 2, [], [], 6, 0, 0, 42) else mm_nop)) else (bif Nat.beq 39 pc then (.if_icmp .le 15, 3, [(0, 54)], [], 0, 0, 0, 39) else mm_nop)) else (bif Nat.ble 38 pc then (.iconst 1, 1, [], [], 0, 1, 0, 38) else (bif Nat.beq 36 pc then (.iload 5, 2, [], [], 5, 0, 0, 36) else mm_nop))))) else (bif Nat.ble 15 pc then
  (bif Nat.ble 24 pc then
  (bif Nat.ble 30 pc then
  (bif Nat.ble 31 pc then
  (bif Nat.ble 34 pc then
  (bif Nat.beq 34 pc then (.istore 6, 2, [], [], 6, 0, 0, 34) else mm_nop) else (bif Nat.beq 31 pc then (.invokevirtual 45, 3, [(6, 101)], [[4084, 4086, 1012, 2003]], 1, 0, 0, 31) else mm_nop)) else (.iload_n 2, 1, [], [], 2, 0, 0, 30)) else (bif Nat.ble 26 pc then
  (bif Nat.ble 29 pc then (.aload_n 0, 1, [], [], 0, 0, 0, 29) else (bif Nat.beq 26 pc then (.ifCond .le 10, 3, [(0, 36)], [], 0, 0, 0, 26) else mm_nop)) else (bif Nat.beq 24 pc then (.iload 5, 2, [], [], 5, 0, 0, 24) else mm_nop))) else (bif Nat.ble 19 pc then
  (bif Nat.ble 21 pc then
  (bif Nat.ble 22 pc then
  (bif Nat.beq 22 pc then (.istore 6, 2, [], [], 6, 0, 0, 22) else mm_nop) else (.iconst 0, 1, [], [], 0, 0, 0, 21)) else (bif Nat.beq 19 pc then (.istore 5, 2, [], [], 5, 0, 0, 19) else mm_nop)) else (bif Nat.ble 16 pc then
  (bif Nat.beq 16 pc then (.invokevirtual 41, 3, [(6, 96)], [[3109, 3110, 3111, 2003]], 1, 0, 0, 16) else mm_nop) else (.iload_n 1, 1, [], [], 1, 0, 0, 15)))) else (bif Nat.ble 8 pc then
  (bif Nat.ble 12 pc then
  (bif Nat.ble 13 pc then
  (bif Nat.ble 14 pc then (.aload_n 0, 1, [], [], 0, 0, 0, 14) else (.ireturn, 1, [], [], 0, 0, 0, 13)) else (.iadd, 1, [], [], 0, 0, 0, 12)) else (bif Nat.ble 9 pc then
  (bif Nat.beq 9 pc then (.invokevirtual 45, 3, [(6, 101)], [[4084, 4086, 1012, 2003]], 1, 0, 0, 9) else mm_nop) else (.iload_n 3, 1, [], [], 3, 0, 0, 8))) else (bif Nat.ble 3 pc then
  (bif Nat.ble 6 pc then
  (bif Nat.ble 7 pc then (.aload_n 0, 1, [], [], 0, 0, 0, 7) else (.iconst 1, 1, [], [], 0, 1, 0, 6)) else (bif Nat.beq 3 pc then (.if_icmp .ne 11, 3, [(0, 14)], [], 0, 0, 0, 3) else mm_nop)) else (bif Nat.ble 1 pc then
  (bif Nat.beq 1 pc then (.bipush 14, 2, [], [], 0, 14, 0, 1) else mm_nop) else (.iload_n 1, 1, [], [], 1, 0, 0, 0))))))
def mm_k100 : List mm_E := (List.range 78).map mm_f100
def mm_m100 : mm_M := (yX7_depthOver, cX7_depthOver, 7, (some .int), mm_k100, 4, 0, 0, 4083)
/-- TypeCopier$Nodes.depthOf.(I)I -/
def mm_f101 : Nat → mm_E := fun pc => (bif Nat.ble 9 pc then
  (bif Nat.ble 14 pc then
  (bif Nat.ble 17 pc then
  (bif Nat.ble 18 pc then (.ireturn, 1, [], [], 0, 0, 0, 18) else (.iconst 0, 1, [], [], 0, 0, 0, 17)) else (bif Nat.beq 14 pc then (.goto 4, 3, [(0, 18)], [], 0, 0, 0, 14) else mm_nop)) else (bif Nat.ble 12 pc then
  (bif Nat.ble 13 pc then (.iaload, 1, [], [], 0, 0, 0, 13) else (.iload_n 1, 1, [], [], 1, 0, 0, 12)) else (bif Nat.beq 9 pc then (.getfield 15, 3, [(6, 1)], [[2045]], 0, 0, 0, 9) else mm_nop))) else (bif Nat.ble 2 pc then
  (bif Nat.ble 5 pc then
  (bif Nat.ble 8 pc then (.aload_n 0, 1, [], [], 0, 0, 0, 8) else (bif Nat.beq 5 pc then (.ifCond .eq 12, 3, [(0, 17)], [], 0, 0, 0, 5) else mm_nop)) else (bif Nat.beq 2 pc then (.invokevirtual 31, 3, [(6, 92)], [[3108, 3084, 3085, 2003]], 1, 0, 0, 2) else mm_nop)) else (bif Nat.ble 1 pc then (.iload_n 1, 1, [], [], 1, 0, 0, 1) else (.aload_n 0, 1, [], [], 0, 0, 0, 0))))
def mm_k101 : List mm_E := (List.range 19).map mm_f101
def mm_m101 : mm_M := (yX7_depthOf, cX7_depthOf, 2, (some .int), mm_k101, 1, 0, 0, 4087)
/-- TypeCopier$Nodes.add.(IIIII)I -/
def mm_f102 : Nat → mm_E := fun pc => (bif Nat.ble 60 pc then
  (bif Nat.ble 89 pc then
  (bif Nat.ble 103 pc then
  (bif Nat.ble 109 pc then
  (bif Nat.ble 111 pc then
  (bif Nat.ble 112 pc then
  (bif Nat.ble 115 pc then (.ireturn, 1, [], [], 0, 0, 0, 115) else (bif Nat.beq 112 pc then (.putfield 27, 3, [(6, 5)], [[2049]], 0, 0, 0, 112) else mm_nop)) else (.iadd, 1, [], [], 0, 0, 0, 111)) else (bif Nat.ble 110 pc then (.iconst 1, 1, [], [], 0, 1, 0, 110) else (.dup_x1, 1, [], [], 0, 0, 0, 109))) else (bif Nat.ble 105 pc then
  (bif Nat.ble 106 pc then
  (bif Nat.beq 106 pc then (.getfield 27, 3, [(6, 5)], [[2049]], 0, 0, 0, 106) else mm_nop) else (.dup, 1, [], [], 0, 0, 0, 105)) else (bif Nat.ble 104 pc then (.aload_n 0, 1, [], [], 0, 0, 0, 104) else (.iastore, 1, [], [], 0, 0, 0, 103)))) else (bif Nat.ble 94 pc then
  (bif Nat.ble 99 pc then
  (bif Nat.ble 100 pc then
  (bif Nat.ble 101 pc then
  (bif Nat.beq 101 pc then (.iload 5, 2, [], [], 5, 0, 0, 101) else mm_nop) else (.iadd, 1, [], [], 0, 0, 0, 100)) else (.iconst 3, 1, [], [], 0, 3, 0, 99)) else (bif Nat.ble 97 pc then
  (bif Nat.beq 97 pc then (.iload 6, 2, [], [], 6, 0, 0, 97) else mm_nop) else (bif Nat.beq 94 pc then (.getfield 18, 3, [(6, 2)], [[2046]], 0, 0, 0, 94) else mm_nop))) else (bif Nat.ble 92 pc then
  (bif Nat.ble 93 pc then (.aload_n 0, 1, [], [], 0, 0, 0, 93) else (.iastore, 1, [], [], 0, 0, 0, 92)) else (bif Nat.ble 90 pc then
  (bif Nat.beq 90 pc then (.iload 4, 2, [], [], 4, 0, 0, 90) else mm_nop) else (.iadd, 1, [], [], 0, 0, 0, 89))))) else (bif Nat.ble 76 pc then
  (bif Nat.ble 81 pc then
  (bif Nat.ble 83 pc then
  (bif Nat.ble 86 pc then
  (bif Nat.ble 88 pc then (.iconst 2, 1, [], [], 0, 2, 0, 88) else (bif Nat.beq 86 pc then (.iload 6, 2, [], [], 6, 0, 0, 86) else mm_nop)) else (bif Nat.beq 83 pc then (.getfield 18, 3, [(6, 2)], [[2046]], 0, 0, 0, 83) else mm_nop)) else (bif Nat.ble 82 pc then (.aload_n 0, 1, [], [], 0, 0, 0, 82) else (.iastore, 1, [], [], 0, 0, 0, 81))) else (bif Nat.ble 79 pc then
  (bif Nat.ble 80 pc then (.iload_n 3, 1, [], [], 3, 0, 0, 80) else (.iadd, 1, [], [], 0, 0, 0, 79)) else (bif Nat.ble 78 pc then (.iconst 1, 1, [], [], 0, 1, 0, 78) else (bif Nat.beq 76 pc then (.iload 6, 2, [], [], 6, 0, 0, 76) else mm_nop)))) else (bif Nat.ble 68 pc then
  (bif Nat.ble 71 pc then
  (bif Nat.ble 72 pc then
  (bif Nat.ble 73 pc then
  (bif Nat.beq 73 pc then (.getfield 18, 3, [(6, 2)], [[2046]], 0, 0, 0, 73) else mm_nop) else (.aload_n 0, 1, [], [], 0, 0, 0, 72)) else (.iastore, 1, [], [], 0, 0, 0, 71)) else (bif Nat.ble 70 pc then (.iload_n 2, 1, [], [], 2, 0, 0, 70) else (bif Nat.beq 68 pc then (.iload 6, 2, [], [], 6, 0, 0, 68) else mm_nop))) else (bif Nat.ble 64 pc then
  (bif Nat.ble 65 pc then
  (bif Nat.beq 65 pc then (.getfield 18, 3, [(6, 2)], [[2046]], 0, 0, 0, 65) else mm_nop) else (.aload_n 0, 1, [], [], 0, 0, 0, 64)) else (bif Nat.ble 63 pc then (.iastore, 1, [], [], 0, 0, 0, 63) else (bif Nat.beq 60 pc then (.invokevirtual 54, 3, [(6, 100)], [[4095, 4081, 4082, 2003]], 4, 0, 0, 60) else mm_nop)))))) else (bif Nat.ble 30 pc then
  (bif Nat.ble 46 pc then
  (bif Nat.ble 54 pc then
  (bif Nat.ble 56 pc then
  (bif Nat.ble 57 pc then
  (bif Nat.ble 58 pc then
  (bif Nat.beq 58 pc then (.iload 4, 2, [], [], 4, 0, 0, 58) else mm_nop) else (.iload_n 3, 1, [], [], 3, 0, 0, 57)) else (.iload_n 2, 1, [], [], 2, 0, 0, 56)) else (bif Nat.ble 55 pc then (.iload_n 1, 1, [], [], 1, 0, 0, 55) else (.aload_n 0, 1, [], [], 0, 0, 0, 54))) else (bif Nat.ble 50 pc then
  (bif Nat.ble 51 pc then
  (bif Nat.beq 51 pc then (.getfield 27, 3, [(6, 5)], [[2049]], 0, 0, 0, 51) else mm_nop) else (.aload_n 0, 1, [], [], 0, 0, 0, 50)) else (bif Nat.ble 47 pc then
  (bif Nat.beq 47 pc then (.getfield 15, 3, [(6, 1)], [[2045]], 0, 0, 0, 47) else mm_nop) else (.aload_n 0, 1, [], [], 0, 0, 0, 46)))) else (bif Nat.ble 37 pc then
  (bif Nat.ble 41 pc then
  (bif Nat.ble 44 pc then
  (bif Nat.ble 45 pc then (.iastore, 1, [], [], 0, 0, 0, 45) else (.iload_n 1, 1, [], [], 1, 0, 0, 44)) else (bif Nat.beq 41 pc then (.getfield 27, 3, [(6, 5)], [[2049]], 0, 0, 0, 41) else mm_nop)) else (bif Nat.ble 40 pc then (.aload_n 0, 1, [], [], 0, 0, 0, 40) else (bif Nat.beq 37 pc then (.getfield 11, 3, [(6, 0)], [[2044]], 0, 0, 0, 37) else mm_nop))) else (bif Nat.ble 35 pc then
  (bif Nat.ble 36 pc then (.aload_n 0, 1, [], [], 0, 0, 0, 36) else (.ireturn, 1, [], [], 0, 0, 0, 35)) else (bif Nat.ble 33 pc then
  (bif Nat.beq 33 pc then (.bipush (-4), 2, [], [], 0, (-4), 0, 33) else mm_nop) else (bif Nat.beq 30 pc then (.if_icmp .lt 6, 3, [(0, 36)], [], 0, 0, 0, 30) else mm_nop))))) else (bif Nat.ble 17 pc then
  (bif Nat.ble 23 pc then
  (bif Nat.ble 25 pc then
  (bif Nat.ble 26 pc then
  (bif Nat.ble 29 pc then (.arraylength, 1, [], [], 0, 0, 0, 29) else (bif Nat.beq 26 pc then (.getfield 18, 3, [(6, 2)], [[2046]], 0, 0, 0, 26) else mm_nop)) else (.aload_n 0, 1, [], [], 0, 0, 0, 25)) else (bif Nat.ble 24 pc then (.iadd, 1, [], [], 0, 0, 0, 24) else (.iconst 3, 1, [], [], 0, 3, 0, 23))) else (bif Nat.ble 19 pc then
  (bif Nat.ble 21 pc then
  (bif Nat.beq 21 pc then (.iload 6, 2, [], [], 6, 0, 0, 21) else mm_nop) else (bif Nat.beq 19 pc then (.istore 6, 2, [], [], 6, 0, 0, 19) else mm_nop)) else (bif Nat.ble 18 pc then (.imul, 1, [], [], 0, 0, 0, 18) else (.iconst 4, 1, [], [], 0, 4, 0, 17)))) else (bif Nat.ble 10 pc then
  (bif Nat.ble 13 pc then
  (bif Nat.ble 14 pc then
  (bif Nat.beq 14 pc then (.getfield 27, 3, [(6, 5)], [[2049]], 0, 0, 0, 14) else mm_nop) else (.aload_n 0, 1, [], [], 0, 0, 0, 13)) else (bif Nat.ble 12 pc then (.ireturn, 1, [], [], 0, 0, 0, 12) else (bif Nat.beq 10 pc then (.bipush (-4), 2, [], [], 0, (-4), 0, 10) else mm_nop))) else (bif Nat.ble 4 pc then
  (bif Nat.ble 7 pc then
  (bif Nat.beq 7 pc then (.if_icmp .lt 6, 3, [(0, 13)], [], 0, 0, 0, 7) else mm_nop) else (bif Nat.beq 4 pc then (.sipush 200, 3, [], [], 0, 200, 0, 4) else mm_nop)) else (bif Nat.ble 1 pc then
  (bif Nat.beq 1 pc then (.getfield 27, 3, [(6, 5)], [[2049]], 0, 0, 0, 1) else mm_nop) else (.aload_n 0, 1, [], [], 0, 0, 0, 0)))))))
def mm_k102 : List mm_E := (List.range 116).map mm_f102
def mm_m102 : mm_M := (yX7_add, cX7_add, 7, (some .int), mm_k102, 5, 0, 0, 4094)
/-- TypeCopier$Nodes.meetUnder.(I)V -/
def mm_f103 : Nat → mm_E := fun pc => (bif Nat.ble 10 pc then
  (bif Nat.ble 15 pc then
  (bif Nat.ble 16 pc then
  (bif Nat.ble 19 pc then (.return_, 1, [], [], 0, 0, 0, 19) else (bif Nat.beq 16 pc then (.invokevirtual 67, 3, [(6, 104)], [[3104, 3106, 1004, 2003]], 2, 0, 0, 16) else mm_nop)) else (.iconst 1, 1, [], [], 0, 1, 0, 15)) else (bif Nat.ble 13 pc then
  (bif Nat.ble 14 pc then (.iload_n 1, 1, [], [], 1, 0, 0, 14) else (.aload_n 0, 1, [], [], 0, 0, 0, 13)) else (bif Nat.beq 10 pc then (.putfield 64, 3, [(6, 6)], [[2050]], 0, 0, 0, 10) else mm_nop))) else (bif Nat.ble 5 pc then
  (bif Nat.ble 8 pc then
  (bif Nat.ble 9 pc then (.iconst 0, 1, [], [], 0, 0, 0, 9) else (.aload_n 0, 1, [], [], 0, 0, 0, 8)) else (bif Nat.beq 5 pc then (.invokestatic 58, 3, [(0, 236)], [[3101, 3102, 2012]], 2, 0, 0, 5) else mm_nop)) else (bif Nat.ble 1 pc then
  (bif Nat.ble 4 pc then (.iconst 0, 1, [], [], 0, 0, 0, 4) else (bif Nat.beq 1 pc then (.getfield 21, 3, [(6, 3)], [[2047]], 0, 0, 0, 1) else mm_nop)) else (.aload_n 0, 1, [], [], 0, 0, 0, 0))))
def mm_k103 : List mm_E := (List.range 20).map mm_f103
def mm_m103 : mm_M := (yX7_meetUnder, cX7_meetUnder, 2, none, mm_k103, 1, 0, 0, 3100)
/-- TypeCopier$Nodes.meet.(II)V -/
def mm_f104 : Nat → mm_E := fun pc => (bif Nat.ble 47 pc then
  (bif Nat.ble 72 pc then
  (bif Nat.ble 87 pc then
  (bif Nat.ble 93 pc then
  (bif Nat.ble 97 pc then
  (bif Nat.ble 98 pc then (.return_, 1, [], [], 0, 0, 0, 98) else (.iastore, 1, [], [], 0, 0, 0, 97)) else (bif Nat.ble 96 pc then (.iload_n 1, 1, [], [], 1, 0, 0, 96) else (bif Nat.beq 93 pc then (.putfield 64, 3, [(6, 6)], [[2050]], 0, 0, 0, 93) else mm_nop))) else (bif Nat.ble 91 pc then
  (bif Nat.ble 92 pc then (.iadd, 1, [], [], 0, 0, 0, 92) else (.iconst 1, 1, [], [], 0, 1, 0, 91)) else (bif Nat.ble 90 pc then (.dup_x1, 1, [], [], 0, 0, 0, 90) else (bif Nat.beq 87 pc then (.getfield 64, 3, [(6, 6)], [[2050]], 0, 0, 0, 87) else mm_nop)))) else (bif Nat.ble 81 pc then
  (bif Nat.ble 85 pc then
  (bif Nat.ble 86 pc then (.dup, 1, [], [], 0, 0, 0, 86) else (.aload_n 0, 1, [], [], 0, 0, 0, 85)) else (bif Nat.ble 82 pc then
  (bif Nat.beq 82 pc then (.getfield 24, 3, [(6, 4)], [[2048]], 0, 0, 0, 82) else mm_nop) else (.aload_n 0, 1, [], [], 0, 0, 0, 81))) else (bif Nat.ble 75 pc then
  (bif Nat.ble 78 pc then
  (bif Nat.beq 78 pc then (.if_icmp .ge 20, 3, [(0, 98)], [], 0, 0, 0, 78) else mm_nop) else (bif Nat.beq 75 pc then (.sipush 200, 3, [], [], 0, 200, 0, 75) else mm_nop)) else (bif Nat.beq 72 pc then (.getfield 64, 3, [(6, 6)], [[2050]], 0, 0, 0, 72) else mm_nop)))) else (bif Nat.ble 59 pc then
  (bif Nat.ble 62 pc then
  (bif Nat.ble 68 pc then
  (bif Nat.ble 71 pc then (.aload_n 0, 1, [], [], 0, 0, 0, 71) else (bif Nat.beq 68 pc then (.goto (-23), 3, [(0, 45)], [], 0, 0, 0, 68) else mm_nop)) else (bif Nat.ble 65 pc then
  (bif Nat.beq 65 pc then (.iinc 4 1, 3, [], [], 4, 1, 0, 65) else mm_nop) else (bif Nat.beq 62 pc then (.invokevirtual 67, 3, [(6, 104)], [[3104, 3106, 1004, 2003]], 2, 0, 0, 62) else mm_nop))) else (bif Nat.ble 60 pc then
  (bif Nat.ble 61 pc then (.iadd, 1, [], [], 0, 0, 0, 61) else (.iconst 1, 1, [], [], 0, 1, 0, 60)) else (.iload_n 2, 1, [], [], 2, 0, 0, 59))) else (bif Nat.ble 52 pc then
  (bif Nat.ble 54 pc then
  (bif Nat.ble 56 pc then
  (bif Nat.beq 56 pc then (.invokevirtual 71, 3, [(6, 98)], [[3115, 3116, 3117, 2003]], 2, 0, 0, 56) else mm_nop) else (bif Nat.beq 54 pc then (.iload 4, 2, [], [], 4, 0, 0, 54) else mm_nop)) else (bif Nat.ble 53 pc then (.iload_n 1, 1, [], [], 1, 0, 0, 53) else (.aload_n 0, 1, [], [], 0, 0, 0, 52))) else (bif Nat.ble 48 pc then
  (bif Nat.ble 51 pc then (.aload_n 0, 1, [], [], 0, 0, 0, 51) else (bif Nat.beq 48 pc then (.if_icmp .ge 23, 3, [(0, 71)], [], 0, 0, 0, 48) else mm_nop)) else (.iload_n 3, 1, [], [], 3, 0, 0, 47))))) else (bif Nat.ble 25 pc then
  (bif Nat.ble 36 pc then
  (bif Nat.ble 41 pc then
  (bif Nat.ble 43 pc then
  (bif Nat.ble 45 pc then
  (bif Nat.beq 45 pc then (.iload 4, 2, [], [], 4, 0, 0, 45) else mm_nop) else (bif Nat.beq 43 pc then (.istore 4, 2, [], [], 4, 0, 0, 43) else mm_nop)) else (bif Nat.ble 42 pc then (.iconst 0, 1, [], [], 0, 0, 0, 42) else (.istore_n 3, 1, [], [], 3, 0, 0, 41))) else (bif Nat.ble 37 pc then
  (bif Nat.ble 38 pc then
  (bif Nat.beq 38 pc then (.invokevirtual 41, 3, [(6, 96)], [[3109, 3110, 3111, 2003]], 1, 0, 0, 38) else mm_nop) else (.iaload, 1, [], [], 0, 0, 0, 37)) else (.iload_n 1, 1, [], [], 1, 0, 0, 36))) else (bif Nat.ble 30 pc then
  (bif Nat.ble 32 pc then
  (bif Nat.ble 33 pc then
  (bif Nat.beq 33 pc then (.getfield 11, 3, [(6, 0)], [[2044]], 0, 0, 0, 33) else mm_nop) else (.aload_n 0, 1, [], [], 0, 0, 0, 32)) else (bif Nat.ble 31 pc then (.aload_n 0, 1, [], [], 0, 0, 0, 31) else (.iastore, 1, [], [], 0, 0, 0, 30))) else (bif Nat.ble 28 pc then
  (bif Nat.ble 29 pc then (.iconst 1, 1, [], [], 0, 1, 0, 29) else (.iload_n 1, 1, [], [], 1, 0, 0, 28)) else (bif Nat.beq 25 pc then (.getfield 21, 3, [(6, 3)], [[2047]], 0, 0, 0, 25) else mm_nop)))) else (bif Nat.ble 14 pc then
  (bif Nat.ble 19 pc then
  (bif Nat.ble 23 pc then
  (bif Nat.ble 24 pc then (.aload_n 0, 1, [], [], 0, 0, 0, 24) else (.return_, 1, [], [], 0, 0, 0, 23)) else (bif Nat.ble 20 pc then
  (bif Nat.beq 20 pc then (.ifCond .eq 4, 3, [(0, 24)], [], 0, 0, 0, 20) else mm_nop) else (.iaload, 1, [], [], 0, 0, 0, 19))) else (bif Nat.ble 15 pc then
  (bif Nat.ble 18 pc then (.iload_n 1, 1, [], [], 1, 0, 0, 18) else (bif Nat.beq 15 pc then (.getfield 21, 3, [(6, 3)], [[2047]], 0, 0, 0, 15) else mm_nop)) else (.aload_n 0, 1, [], [], 0, 0, 0, 14))) else (bif Nat.ble 5 pc then
  (bif Nat.ble 9 pc then
  (bif Nat.ble 11 pc then
  (bif Nat.beq 11 pc then (.if_icmp .gt 12, 3, [(0, 23)], [], 0, 0, 0, 11) else mm_nop) else (bif Nat.beq 9 pc then (.bipush 12, 2, [], [], 0, 12, 0, 9) else mm_nop)) else (bif Nat.ble 8 pc then (.iload_n 2, 1, [], [], 2, 0, 0, 8) else (bif Nat.beq 5 pc then (.ifCond .eq 18, 3, [(0, 23)], [], 0, 0, 0, 5) else mm_nop))) else (bif Nat.ble 1 pc then
  (bif Nat.ble 2 pc then
  (bif Nat.beq 2 pc then (.invokevirtual 31, 3, [(6, 92)], [[3108, 3084, 3085, 2003]], 1, 0, 0, 2) else mm_nop) else (.iload_n 1, 1, [], [], 1, 0, 0, 1)) else (.aload_n 0, 1, [], [], 0, 0, 0, 0))))))
def mm_k104 : List mm_E := (List.range 99).map mm_f104
def mm_m104 : mm_M := (yX7_meet, cX7_meet, 5, none, mm_k104, 2, 0, 0, 3107)
/-- TypeCopier$Nodes.usesUnder.(I)I -/
def mm_f105 : Nat → mm_E := fun pc => (bif Nat.ble 25 pc then
  (bif Nat.ble 40 pc then
  (bif Nat.ble 46 pc then
  (bif Nat.ble 50 pc then
  (bif Nat.ble 53 pc then
  (bif Nat.ble 54 pc then (.ireturn, 1, [], [], 0, 0, 0, 54) else (.iload_n 2, 1, [], [], 2, 0, 0, 53)) else (bif Nat.beq 50 pc then (.goto (-41), 3, [(0, 9)], [], 0, 0, 0, 50) else mm_nop)) else (bif Nat.ble 47 pc then
  (bif Nat.beq 47 pc then (.iinc 3 1, 3, [], [], 3, 1, 0, 47) else mm_nop) else (.istore_n 2, 1, [], [], 2, 0, 0, 46))) else (bif Nat.ble 44 pc then
  (bif Nat.ble 45 pc then (.ior, 1, [], [], 0, 0, 0, 45) else (.ishl, 1, [], [], 0, 0, 0, 44)) else (bif Nat.ble 41 pc then
  (bif Nat.beq 41 pc then (.invokevirtual 84, 3, [(6, 97)], [[4166, 3136, 3137, 2003]], 2, 0, 0, 41) else mm_nop) else (.iconst 0, 1, [], [], 0, 0, 0, 40)))) else (bif Nat.ble 35 pc then
  (bif Nat.ble 37 pc then
  (bif Nat.ble 38 pc then
  (bif Nat.beq 38 pc then (.iload 4, 2, [], [], 4, 0, 0, 38) else mm_nop) else (.aload_n 0, 1, [], [], 0, 0, 0, 37)) else (bif Nat.ble 36 pc then (.iconst 1, 1, [], [], 0, 1, 0, 36) else (.iload_n 2, 1, [], [], 2, 0, 0, 35))) else (bif Nat.ble 30 pc then
  (bif Nat.ble 32 pc then
  (bif Nat.beq 32 pc then (.if_icmp .ne 15, 3, [(0, 47)], [], 0, 0, 0, 32) else mm_nop) else (bif Nat.beq 30 pc then (.bipush 14, 2, [], [], 0, 14, 0, 30) else mm_nop)) else (bif Nat.ble 27 pc then
  (bif Nat.beq 27 pc then (.invokevirtual 81, 3, [(6, 94)], [[4165, 3128, 3129, 2003]], 1, 0, 0, 27) else mm_nop) else (bif Nat.beq 25 pc then (.iload 4, 2, [], [], 4, 0, 0, 25) else mm_nop))))) else (bif Nat.ble 10 pc then
  (bif Nat.ble 18 pc then
  (bif Nat.ble 22 pc then
  (bif Nat.ble 24 pc then (.aload_n 0, 1, [], [], 0, 0, 0, 24) else (bif Nat.beq 22 pc then (.istore 4, 2, [], [], 4, 0, 0, 22) else mm_nop)) else (bif Nat.ble 19 pc then
  (bif Nat.beq 19 pc then (.invokevirtual 78, 3, [(6, 107)], [[4164, 3124, 3125, 2003]], 1, 0, 0, 19) else mm_nop) else (.iload_n 3, 1, [], [], 3, 0, 0, 18))) else (bif Nat.ble 14 pc then
  (bif Nat.ble 17 pc then (.aload_n 0, 1, [], [], 0, 0, 0, 17) else (bif Nat.beq 14 pc then (.if_icmp .ge 39, 3, [(0, 53)], [], 0, 0, 0, 14) else mm_nop)) else (bif Nat.ble 11 pc then
  (bif Nat.beq 11 pc then (.getfield 64, 3, [(6, 6)], [[2050]], 0, 0, 0, 11) else mm_nop) else (.aload_n 0, 1, [], [], 0, 0, 0, 10)))) else (bif Nat.ble 6 pc then
  (bif Nat.ble 8 pc then
  (bif Nat.ble 9 pc then (.iload_n 3, 1, [], [], 3, 0, 0, 9) else (.istore_n 3, 1, [], [], 3, 0, 0, 8)) else (bif Nat.ble 7 pc then (.iconst 0, 1, [], [], 0, 0, 0, 7) else (.istore_n 2, 1, [], [], 2, 0, 0, 6))) else (bif Nat.ble 2 pc then
  (bif Nat.ble 5 pc then (.iconst 0, 1, [], [], 0, 0, 0, 5) else (bif Nat.beq 2 pc then (.invokevirtual 74, 3, [(6, 103)], [[4163, 3098, 3099, 2003]], 1, 0, 0, 2) else mm_nop)) else (bif Nat.ble 1 pc then (.iload_n 1, 1, [], [], 1, 0, 0, 1) else (.aload_n 0, 1, [], [], 0, 0, 0, 0))))))
def mm_k105 : List mm_E := (List.range 55).map mm_f105
def mm_m105 : mm_M := (yX7_usesUnder, cX7_usesUnder, 5, (some .int), mm_k105, 1, 0, 0, 4162)
/-- TypeCopier$Nodes.metSize.()I -/
def mm_f106 : Nat → mm_E := fun pc => (bif Nat.ble 1 pc then
  (bif Nat.ble 4 pc then (.ireturn, 1, [], [], 0, 0, 0, 4) else (bif Nat.beq 1 pc then (.getfield 64, 3, [(6, 6)], [[2050]], 0, 0, 0, 1) else mm_nop)) else (.aload_n 0, 1, [], [], 0, 0, 0, 0))
def mm_k106 : List mm_E := (List.range 5).map mm_f106
def mm_m106 : mm_M := (yX7_metSize, cX7_metSize, 1, (some .int), mm_k106, 0, 0, 0, 3122)
/-- TypeCopier$Nodes.metAt.(I)I -/
def mm_f107 : Nat → mm_E := fun pc => (bif Nat.ble 16 pc then
  (bif Nat.ble 24 pc then
  (bif Nat.ble 28 pc then
  (bif Nat.ble 29 pc then (.ireturn, 1, [], [], 0, 0, 0, 29) else (.iconst (-1), 1, [], [], 0, (-1), 0, 28)) else (bif Nat.ble 25 pc then
  (bif Nat.beq 25 pc then (.goto 4, 3, [(0, 29)], [], 0, 0, 0, 25) else mm_nop) else (.iaload, 1, [], [], 0, 0, 0, 24))) else (bif Nat.ble 20 pc then
  (bif Nat.ble 23 pc then (.iload_n 1, 1, [], [], 1, 0, 0, 23) else (bif Nat.beq 20 pc then (.getfield 24, 3, [(6, 4)], [[2048]], 0, 0, 0, 20) else mm_nop)) else (bif Nat.ble 19 pc then (.aload_n 0, 1, [], [], 0, 0, 0, 19) else (bif Nat.beq 16 pc then (.if_icmp .ge 12, 3, [(0, 28)], [], 0, 0, 0, 16) else mm_nop)))) else (bif Nat.ble 6 pc then
  (bif Nat.ble 12 pc then
  (bif Nat.ble 13 pc then
  (bif Nat.beq 13 pc then (.sipush 200, 3, [], [], 0, 200, 0, 13) else mm_nop) else (.iload_n 1, 1, [], [], 1, 0, 0, 12)) else (bif Nat.ble 9 pc then
  (bif Nat.beq 9 pc then (.if_icmp .ge 19, 3, [(0, 28)], [], 0, 0, 0, 9) else mm_nop) else (bif Nat.beq 6 pc then (.getfield 64, 3, [(6, 6)], [[2050]], 0, 0, 0, 6) else mm_nop))) else (bif Nat.ble 4 pc then
  (bif Nat.ble 5 pc then (.aload_n 0, 1, [], [], 0, 0, 0, 5) else (.iload_n 1, 1, [], [], 1, 0, 0, 4)) else (bif Nat.ble 1 pc then
  (bif Nat.beq 1 pc then (.ifCond .lt 27, 3, [(0, 28)], [], 0, 0, 0, 1) else mm_nop) else (.iload_n 1, 1, [], [], 1, 0, 0, 0)))))
def mm_k107 : List mm_E := (List.range 30).map mm_f107
def mm_m107 : mm_M := (yX7_metAt, cX7_metAt, 2, (some .int), mm_k107, 1, 0, 0, 3126)
/-- TypeCopier$Nodes.digestFrom.(J)J -/
def mm_f108 : Nat → mm_E := fun pc => (bif Nat.ble 38 pc then
  (bif Nat.ble 58 pc then
  (bif Nat.ble 66 pc then
  (bif Nat.ble 75 pc then
  (bif Nat.ble 78 pc then
  (bif Nat.ble 79 pc then (.lreturn, 1, [], [], 0, 0, 0, 79) else (.lload_n 3, 1, [], [], 3, 0, 0, 78)) else (bif Nat.beq 75 pc then (.goto (-70), 3, [(0, 5)], [], 0, 0, 0, 75) else mm_nop)) else (bif Nat.ble 69 pc then
  (bif Nat.ble 72 pc then
  (bif Nat.beq 72 pc then (.iinc 5 1, 3, [], [], 5, 1, 0, 72) else mm_nop) else (bif Nat.beq 69 pc then (.goto (-26), 3, [(0, 43)], [], 0, 0, 0, 69) else mm_nop)) else (bif Nat.beq 66 pc then (.iinc 8 1, 3, [], [], 8, 1, 0, 66) else mm_nop))) else (bif Nat.ble 63 pc then
  (bif Nat.ble 64 pc then
  (bif Nat.ble 65 pc then (.lstore_n 3, 1, [], [], 3, 0, 0, 65) else (.ladd, 1, [], [], 0, 0, 0, 64)) else (.i2l, 1, [], [], 0, 0, 0, 63)) else (bif Nat.ble 60 pc then
  (bif Nat.beq 60 pc then (.invokevirtual 84, 3, [(6, 97)], [[4166, 3136, 3137, 2003]], 2, 0, 0, 60) else mm_nop) else (bif Nat.beq 58 pc then (.iload 8, 2, [], [], 8, 0, 0, 58) else mm_nop)))) else (bif Nat.ble 47 pc then
  (bif Nat.ble 54 pc then
  (bif Nat.ble 55 pc then
  (bif Nat.ble 56 pc then
  (bif Nat.beq 56 pc then (.iload 5, 2, [], [], 5, 0, 0, 56) else mm_nop) else (.aload_n 0, 1, [], [], 0, 0, 0, 55)) else (.lmul, 1, [], [], 0, 0, 0, 54)) else (bif Nat.ble 50 pc then
  (bif Nat.ble 53 pc then (.lload_n 3, 1, [], [], 3, 0, 0, 53) else (bif Nat.beq 50 pc then (.ldc2_w 87, 3, [], [[6080]], 0, 0, 31, 50) else mm_nop)) else (bif Nat.beq 47 pc then (.if_icmp .ge 25, 3, [(0, 72)], [], 0, 0, 0, 47) else mm_nop))) else (bif Nat.ble 41 pc then
  (bif Nat.ble 43 pc then
  (bif Nat.ble 45 pc then
  (bif Nat.beq 45 pc then (.iload 7, 2, [], [], 7, 0, 0, 45) else mm_nop) else (bif Nat.beq 43 pc then (.iload 8, 2, [], [], 8, 0, 0, 43) else mm_nop)) else (bif Nat.beq 41 pc then (.istore 8, 2, [], [], 8, 0, 0, 41) else mm_nop)) else (bif Nat.ble 40 pc then (.iconst 0, 1, [], [], 0, 0, 0, 40) else (bif Nat.beq 38 pc then (.istore 7, 2, [], [], 7, 0, 0, 38) else mm_nop))))) else (bif Nat.ble 20 pc then
  (bif Nat.ble 29 pc then
  (bif Nat.ble 32 pc then
  (bif Nat.ble 33 pc then
  (bif Nat.ble 35 pc then
  (bif Nat.beq 35 pc then (.invokevirtual 89, 3, [(6, 95)], [[6081, 6082, 6083, 2003]], 1, 0, 0, 35) else mm_nop) else (bif Nat.beq 33 pc then (.iload 6, 2, [], [], 6, 0, 0, 33) else mm_nop)) else (.aload_n 0, 1, [], [], 0, 0, 0, 32)) else (bif Nat.ble 30 pc then
  (bif Nat.ble 31 pc then (.lstore_n 3, 1, [], [], 3, 0, 0, 31) else (.ladd, 1, [], [], 0, 0, 0, 30)) else (.i2l, 1, [], [], 0, 0, 0, 29))) else (bif Nat.ble 25 pc then
  (bif Nat.ble 26 pc then
  (bif Nat.ble 27 pc then
  (bif Nat.beq 27 pc then (.iload 6, 2, [], [], 6, 0, 0, 27) else mm_nop) else (.lmul, 1, [], [], 0, 0, 0, 26)) else (.lload_n 3, 1, [], [], 3, 0, 0, 25)) else (bif Nat.ble 22 pc then
  (bif Nat.beq 22 pc then (.ldc2_w 87, 3, [], [[6080]], 0, 0, 31, 22) else mm_nop) else (bif Nat.beq 20 pc then (.istore 6, 2, [], [], 6, 0, 0, 20) else mm_nop)))) else (bif Nat.ble 7 pc then
  (bif Nat.ble 14 pc then
  (bif Nat.ble 15 pc then
  (bif Nat.ble 17 pc then
  (bif Nat.beq 17 pc then (.invokevirtual 81, 3, [(6, 94)], [[4165, 3128, 3129, 2003]], 1, 0, 0, 17) else mm_nop) else (bif Nat.beq 15 pc then (.iload 5, 2, [], [], 5, 0, 0, 15) else mm_nop)) else (.aload_n 0, 1, [], [], 0, 0, 0, 14)) else (bif Nat.ble 8 pc then
  (bif Nat.ble 11 pc then
  (bif Nat.beq 11 pc then (.if_icmp .ge 67, 3, [(0, 78)], [], 0, 0, 0, 11) else mm_nop) else (bif Nat.beq 8 pc then (.getfield 27, 3, [(6, 5)], [[2049]], 0, 0, 0, 8) else mm_nop)) else (.aload_n 0, 1, [], [], 0, 0, 0, 7))) else (bif Nat.ble 2 pc then
  (bif Nat.ble 3 pc then
  (bif Nat.ble 5 pc then
  (bif Nat.beq 5 pc then (.iload 5, 2, [], [], 5, 0, 0, 5) else mm_nop) else (bif Nat.beq 3 pc then (.istore 5, 2, [], [], 5, 0, 0, 3) else mm_nop)) else (.iconst 0, 1, [], [], 0, 0, 0, 2)) else (bif Nat.ble 1 pc then (.lstore_n 3, 1, [], [], 3, 0, 0, 1) else (.lload_n 1, 1, [], [], 1, 0, 0, 0))))))
def mm_k108 : List mm_E := (List.range 80).map mm_f108
def mm_m108 : mm_M := (yX7_digestFrom, cX7_digestFrom, 9, (some .long), mm_k108, 1, 0, 0, 6079)
/-- TypeCopier$Numbered.<init>.()V -/
def mm_f109 : Nat → mm_E := fun pc => (bif Nat.ble 20 pc then
  (bif Nat.ble 28 pc then
  (bif Nat.ble 35 pc then
  (bif Nat.ble 36 pc then
  (bif Nat.ble 39 pc then (.return_, 1, [], [], 0, 0, 0, 39) else (bif Nat.beq 36 pc then (.putfield 15, 3, [(7, 1)], [[2031]], 0, 0, 0, 36) else mm_nop)) else (.iconst 4, 1, [], [], 0, 4, 0, 35)) else (bif Nat.ble 31 pc then
  (bif Nat.ble 34 pc then (.aload_n 0, 1, [], [], 0, 0, 0, 34) else (bif Nat.beq 31 pc then (.goto (-16), 3, [(0, 15)], [], 0, 0, 0, 31) else mm_nop)) else (bif Nat.beq 28 pc then (.iinc 1 1, 3, [], [], 1, 1, 0, 28) else mm_nop))) else (bif Nat.ble 25 pc then
  (bif Nat.ble 26 pc then
  (bif Nat.ble 27 pc then (.lastore, 1, [], [], 0, 0, 0, 27) else (.i2l, 1, [], [], 0, 0, 0, 26)) else (.iload_n 1, 1, [], [], 1, 0, 0, 25)) else (bif Nat.ble 21 pc then
  (bif Nat.ble 24 pc then (.iload_n 1, 1, [], [], 1, 0, 0, 24) else (bif Nat.beq 21 pc then (.getfield 11, 3, [(7, 0)], [[2030]], 0, 0, 0, 21) else mm_nop)) else (.aload_n 0, 1, [], [], 0, 0, 0, 20)))) else (bif Nat.ble 10 pc then
  (bif Nat.ble 15 pc then
  (bif Nat.ble 16 pc then
  (bif Nat.ble 17 pc then
  (bif Nat.beq 17 pc then (.if_icmp .ge 17, 3, [(0, 34)], [], 0, 0, 0, 17) else mm_nop) else (.iconst 4, 1, [], [], 0, 4, 0, 16)) else (.iload_n 1, 1, [], [], 1, 0, 0, 15)) else (bif Nat.ble 13 pc then
  (bif Nat.ble 14 pc then (.istore_n 1, 1, [], [], 1, 0, 0, 14) else (.iconst 0, 1, [], [], 0, 0, 0, 13)) else (bif Nat.beq 10 pc then (.putfield 11, 3, [(7, 0)], [[2030]], 1, 0, 0, 10) else mm_nop))) else (bif Nat.ble 4 pc then
  (bif Nat.ble 5 pc then
  (bif Nat.ble 8 pc then
  (bif Nat.beq 8 pc then (.newarray .long, 2, [(1, 200)], [[2037]], 0, 0, 0, 8) else mm_nop) else (bif Nat.beq 5 pc then (.sipush 200, 3, [], [], 0, 200, 0, 5) else mm_nop)) else (.aload_n 0, 1, [], [], 0, 0, 0, 4)) else (bif Nat.ble 1 pc then
  (bif Nat.beq 1 pc then (.invokespecial 3, 3, [], [[2029, 2022, 2023]], 0, 0, 0, 1) else mm_nop) else (.aload_n 0, 1, [], [], 0, 0, 0, 0)))))
def mm_k109 : List mm_E := (List.range 40).map mm_f109
def mm_m109 : mm_M := (yX8_init, cX8_init, 2, none, mm_k109, 0, 1, 200, 2028)
/-- TypeCopier$Numbered.size.()I -/
def mm_f110 : Nat → mm_E := fun pc => (bif Nat.ble 1 pc then
  (bif Nat.ble 4 pc then (.ireturn, 1, [], [], 0, 0, 0, 4) else (bif Nat.beq 1 pc then (.getfield 15, 3, [(7, 1)], [[2031]], 0, 0, 0, 1) else mm_nop)) else (.aload_n 0, 1, [], [], 0, 0, 0, 0))
def mm_k110 : List mm_E := (List.range 5).map mm_f110
def mm_m110 : mm_M := (yX8_size, cX8_size, 1, (some .int), mm_k110, 0, 0, 0, 6064)
/-- TypeCopier$Numbered.has.(I)Z -/
def mm_f111 : Nat → mm_E := fun pc => (bif Nat.ble 12 pc then
  (bif Nat.ble 19 pc then
  (bif Nat.ble 23 pc then
  (bif Nat.ble 24 pc then (.ireturn, 1, [], [], 0, 0, 0, 24) else (.iconst 0, 1, [], [], 0, 0, 0, 23)) else (bif Nat.ble 20 pc then
  (bif Nat.beq 20 pc then (.goto 4, 3, [(0, 24)], [], 0, 0, 0, 20) else mm_nop) else (.iconst 1, 1, [], [], 0, 1, 0, 19))) else (bif Nat.ble 13 pc then
  (bif Nat.ble 16 pc then
  (bif Nat.beq 16 pc then (.if_icmp .ge 7, 3, [(0, 23)], [], 0, 0, 0, 16) else mm_nop) else (bif Nat.beq 13 pc then (.sipush 200, 3, [], [], 0, 200, 0, 13) else mm_nop)) else (.iload_n 1, 1, [], [], 1, 0, 0, 12))) else (bif Nat.ble 5 pc then
  (bif Nat.ble 6 pc then
  (bif Nat.ble 9 pc then
  (bif Nat.beq 9 pc then (.if_icmp .ge 14, 3, [(0, 23)], [], 0, 0, 0, 9) else mm_nop) else (bif Nat.beq 6 pc then (.getfield 15, 3, [(7, 1)], [[2031]], 0, 0, 0, 6) else mm_nop)) else (.aload_n 0, 1, [], [], 0, 0, 0, 5)) else (bif Nat.ble 1 pc then
  (bif Nat.ble 4 pc then (.iload_n 1, 1, [], [], 1, 0, 0, 4) else (bif Nat.beq 1 pc then (.ifCond .lt 22, 3, [(0, 23)], [], 0, 0, 0, 1) else mm_nop)) else (.iload_n 1, 1, [], [], 1, 0, 0, 0))))
def mm_k111 : List mm_E := (List.range 25).map mm_f111
def mm_m111 : mm_M := (yX8_has, cX8_has, 2, (some .boolean), mm_k111, 1, 0, 0, 3224)
/-- TypeCopier$Numbered.shapeOf.(I)J -/
def mm_f112 : Nat → mm_E := fun pc => (bif Nat.ble 9 pc then
  (bif Nat.ble 14 pc then
  (bif Nat.ble 17 pc then
  (bif Nat.ble 20 pc then (.lreturn, 1, [], [], 0, 0, 0, 20) else (bif Nat.beq 17 pc then (.ldc2_w 25, 3, [], [[3225]], 0, 0, (-1), 17) else mm_nop)) else (bif Nat.beq 14 pc then (.goto 6, 3, [(0, 20)], [], 0, 0, 0, 14) else mm_nop)) else (bif Nat.ble 12 pc then
  (bif Nat.ble 13 pc then (.laload, 1, [], [], 0, 0, 0, 13) else (.iload_n 1, 1, [], [], 1, 0, 0, 12)) else (bif Nat.beq 9 pc then (.getfield 11, 3, [(7, 0)], [[2030]], 0, 0, 0, 9) else mm_nop))) else (bif Nat.ble 2 pc then
  (bif Nat.ble 5 pc then
  (bif Nat.ble 8 pc then (.aload_n 0, 1, [], [], 0, 0, 0, 8) else (bif Nat.beq 5 pc then (.ifCond .eq 12, 3, [(0, 17)], [], 0, 0, 0, 5) else mm_nop)) else (bif Nat.beq 2 pc then (.invokevirtual 19, 3, [(7, 111)], [[3221, 3222, 3223, 2002]], 1, 0, 0, 2) else mm_nop)) else (bif Nat.ble 1 pc then (.iload_n 1, 1, [], [], 1, 0, 0, 1) else (.aload_n 0, 1, [], [], 0, 0, 0, 0))))
def mm_k112 : List mm_E := (List.range 21).map mm_f112
def mm_m112 : mm_M := (yX8_shapeOf, cX8_shapeOf, 2, (some .long), mm_k112, 1, 0, 0, 3220)
/-- TypeCopier$Numbered.tell.(J)I -/
def mm_f113 : Nat → mm_E := fun pc => (bif Nat.ble 22 pc then
  (bif Nat.ble 33 pc then
  (bif Nat.ble 38 pc then
  (bif Nat.ble 44 pc then
  (bif Nat.ble 46 pc then (.ireturn, 1, [], [], 0, 0, 0, 46) else (bif Nat.beq 44 pc then (.bipush (-5), 2, [], [], 0, (-5), 0, 44) else mm_nop)) else (bif Nat.ble 41 pc then
  (bif Nat.beq 41 pc then (.goto (-31), 3, [(0, 10)], [], 0, 0, 0, 41) else mm_nop) else (bif Nat.beq 38 pc then (.iinc 3 1, 3, [], [], 3, 1, 0, 38) else mm_nop))) else (bif Nat.ble 36 pc then
  (bif Nat.ble 37 pc then (.ireturn, 1, [], [], 0, 0, 0, 37) else (.iload_n 3, 1, [], [], 3, 0, 0, 36)) else (bif Nat.beq 33 pc then (.ifCond .ne 5, 3, [(0, 38)], [], 0, 0, 0, 33) else mm_nop))) else (bif Nat.ble 29 pc then
  (bif Nat.ble 31 pc then
  (bif Nat.ble 32 pc then (.lcmp, 1, [], [], 0, 0, 0, 32) else (.lload_n 1, 1, [], [], 1, 0, 0, 31)) else (bif Nat.ble 30 pc then (.laload, 1, [], [], 0, 0, 0, 30) else (.iload_n 3, 1, [], [], 3, 0, 0, 29))) else (bif Nat.ble 25 pc then
  (bif Nat.ble 26 pc then
  (bif Nat.beq 26 pc then (.getfield 11, 3, [(7, 0)], [[2030]], 0, 0, 0, 26) else mm_nop) else (.aload_n 0, 1, [], [], 0, 0, 0, 25)) else (bif Nat.beq 22 pc then (.if_icmp .ge 22, 3, [(0, 44)], [], 0, 0, 0, 22) else mm_nop)))) else (bif Nat.ble 9 pc then
  (bif Nat.ble 12 pc then
  (bif Nat.ble 18 pc then
  (bif Nat.ble 19 pc then
  (bif Nat.beq 19 pc then (.sipush 200, 3, [], [], 0, 200, 0, 19) else mm_nop) else (.iload_n 3, 1, [], [], 3, 0, 0, 18)) else (bif Nat.ble 15 pc then
  (bif Nat.beq 15 pc then (.if_icmp .ge 29, 3, [(0, 44)], [], 0, 0, 0, 15) else mm_nop) else (bif Nat.beq 12 pc then (.getfield 15, 3, [(7, 1)], [[2031]], 0, 0, 0, 12) else mm_nop))) else (bif Nat.ble 10 pc then
  (bif Nat.ble 11 pc then (.aload_n 0, 1, [], [], 0, 0, 0, 11) else (.iload_n 3, 1, [], [], 3, 0, 0, 10)) else (.istore_n 3, 1, [], [], 3, 0, 0, 9))) else (bif Nat.ble 3 pc then
  (bif Nat.ble 7 pc then
  (bif Nat.ble 8 pc then (.iconst 0, 1, [], [], 0, 0, 0, 8) else (.ireturn, 1, [], [], 0, 0, 0, 7)) else (bif Nat.ble 6 pc then (.iconst (-1), 1, [], [], 0, (-1), 0, 6) else (bif Nat.beq 3 pc then (.ifCond .ge 5, 3, [(0, 8)], [], 0, 0, 0, 3) else mm_nop))) else (bif Nat.ble 1 pc then
  (bif Nat.ble 2 pc then (.lcmp, 1, [], [], 0, 0, 0, 2) else (.lconst 0, 1, [], [], 0, 0, 0, 1)) else (.lload_n 1, 1, [], [], 1, 0, 0, 0)))))
def mm_k113 : List mm_E := (List.range 47).map mm_f113
def mm_m113 : mm_M := (yX8_tell, cX8_tell, 4, (some .int), mm_k113, 1, 0, 0, 4038)
/-- TypeCopier$Numbered.take.(J)I -/
def mm_f114 : Nat → mm_E := fun pc => (bif Nat.ble 27 pc then
  (bif Nat.ble 45 pc then
  (bif Nat.ble 51 pc then
  (bif Nat.ble 53 pc then
  (bif Nat.ble 54 pc then
  (bif Nat.ble 57 pc then (.ireturn, 1, [], [], 0, 0, 0, 57) else (bif Nat.beq 54 pc then (.putfield 15, 3, [(7, 1)], [[2031]], 0, 0, 0, 54) else mm_nop)) else (.iadd, 1, [], [], 0, 0, 0, 53)) else (bif Nat.ble 52 pc then (.iconst 1, 1, [], [], 0, 1, 0, 52) else (.dup_x1, 1, [], [], 0, 0, 0, 51))) else (bif Nat.ble 47 pc then
  (bif Nat.ble 48 pc then
  (bif Nat.beq 48 pc then (.getfield 15, 3, [(7, 1)], [[2031]], 0, 0, 0, 48) else mm_nop) else (.dup, 1, [], [], 0, 0, 0, 47)) else (bif Nat.ble 46 pc then (.aload_n 0, 1, [], [], 0, 0, 0, 46) else (.lastore, 1, [], [], 0, 0, 0, 45)))) else (bif Nat.ble 36 pc then
  (bif Nat.ble 40 pc then
  (bif Nat.ble 41 pc then
  (bif Nat.ble 44 pc then (.lload_n 1, 1, [], [], 1, 0, 0, 44) else (bif Nat.beq 41 pc then (.getfield 15, 3, [(7, 1)], [[2031]], 0, 0, 0, 41) else mm_nop)) else (.aload_n 0, 1, [], [], 0, 0, 0, 40)) else (bif Nat.ble 37 pc then
  (bif Nat.beq 37 pc then (.getfield 11, 3, [(7, 0)], [[2030]], 0, 0, 0, 37) else mm_nop) else (.aload_n 0, 1, [], [], 0, 0, 0, 36))) else (bif Nat.ble 33 pc then
  (bif Nat.ble 35 pc then (.ireturn, 1, [], [], 0, 0, 0, 35) else (bif Nat.beq 33 pc then (.bipush (-4), 2, [], [], 0, (-4), 0, 33) else mm_nop)) else (bif Nat.ble 30 pc then
  (bif Nat.beq 30 pc then (.if_icmp .lt 6, 3, [(0, 36)], [], 0, 0, 0, 30) else mm_nop) else (bif Nat.beq 27 pc then (.sipush 200, 3, [], [], 0, 200, 0, 27) else mm_nop))))) else (bif Nat.ble 11 pc then
  (bif Nat.ble 18 pc then
  (bif Nat.ble 22 pc then
  (bif Nat.ble 23 pc then
  (bif Nat.ble 24 pc then
  (bif Nat.beq 24 pc then (.getfield 15, 3, [(7, 1)], [[2031]], 0, 0, 0, 24) else mm_nop) else (.aload_n 0, 1, [], [], 0, 0, 0, 23)) else (.ireturn, 1, [], [], 0, 0, 0, 22)) else (bif Nat.ble 21 pc then (.iload_n 3, 1, [], [], 3, 0, 0, 21) else (bif Nat.beq 18 pc then (.if_icmp .eq 5, 3, [(0, 23)], [], 0, 0, 0, 18) else mm_nop))) else (bif Nat.ble 15 pc then
  (bif Nat.ble 16 pc then
  (bif Nat.beq 16 pc then (.bipush (-5), 2, [], [], 0, (-5), 0, 16) else mm_nop) else (.iload_n 3, 1, [], [], 3, 0, 0, 15)) else (bif Nat.ble 14 pc then (.istore_n 3, 1, [], [], 3, 0, 0, 14) else (bif Nat.beq 11 pc then (.invokevirtual 27, 3, [(7, 113)], [[4035, 4036, 4037, 2002]], 1, 0, 0, 11) else mm_nop)))) else (bif Nat.ble 6 pc then
  (bif Nat.ble 9 pc then
  (bif Nat.ble 10 pc then (.lload_n 1, 1, [], [], 1, 0, 0, 10) else (.aload_n 0, 1, [], [], 0, 0, 0, 9)) else (bif Nat.ble 8 pc then (.ireturn, 1, [], [], 0, 0, 0, 8) else (bif Nat.beq 6 pc then (.bipush (-3), 2, [], [], 0, (-3), 0, 6) else mm_nop))) else (bif Nat.ble 2 pc then
  (bif Nat.ble 3 pc then
  (bif Nat.beq 3 pc then (.ifCond .ge 6, 3, [(0, 9)], [], 0, 0, 0, 3) else mm_nop) else (.lcmp, 1, [], [], 0, 0, 0, 2)) else (bif Nat.ble 1 pc then (.lconst 0, 1, [], [], 0, 0, 0, 1) else (.lload_n 1, 1, [], [], 1, 0, 0, 0))))))
def mm_k114 : List mm_E := (List.range 58).map mm_f114
def mm_m114 : mm_M := (yX8_take, cX8_take, 4, (some .int), mm_k114, 1, 0, 0, 4034)
/-- TypeCopier$Numbered.factOf.(II)I -/
def mm_f115 : Nat → mm_E := fun pc => (bif Nat.ble 59 pc then
  (bif Nat.ble 72 pc then
  (bif Nat.ble 78 pc then
  (bif Nat.ble 82 pc then
  (bif Nat.ble 84 pc then (.ireturn, 1, [], [], 0, 0, 0, 84) else (bif Nat.beq 82 pc then (.bipush (-2), 2, [], [], 0, (-2), 0, 82) else mm_nop)) else (bif Nat.ble 81 pc then (.ireturn, 1, [], [], 0, 0, 0, 81) else (bif Nat.beq 78 pc then (.invokestatic 51, 3, [(1, 137)], [[4058, 3200, 2013]], 1, 0, 0, 78) else mm_nop))) else (bif Nat.ble 76 pc then
  (bif Nat.ble 77 pc then (.lload_n 3, 1, [], [], 3, 0, 0, 77) else (.ireturn, 1, [], [], 0, 0, 0, 76)) else (bif Nat.ble 73 pc then
  (bif Nat.beq 73 pc then (.invokestatic 48, 3, [(0, 138)], [[4057, 3194, 2013]], 1, 0, 0, 73) else mm_nop) else (.lload_n 3, 1, [], [], 3, 0, 0, 72)))) else (bif Nat.ble 66 pc then
  (bif Nat.ble 68 pc then
  (bif Nat.ble 71 pc then (.ireturn, 1, [], [], 0, 0, 0, 71) else (bif Nat.beq 68 pc then (.invokestatic 45, 3, [(0, 128)], [[4056, 3197, 2013]], 1, 0, 0, 68) else mm_nop)) else (bif Nat.ble 67 pc then (.lload_n 3, 1, [], [], 3, 0, 0, 67) else (.ireturn, 1, [], [], 0, 0, 0, 66))) else (bif Nat.ble 60 pc then
  (bif Nat.ble 63 pc then
  (bif Nat.beq 63 pc then (.invokevirtual 27, 3, [(7, 113)], [[4035, 4036, 4037, 2002]], 1, 0, 0, 63) else mm_nop) else (bif Nat.beq 60 pc then (.invokestatic 42, 3, [(0, 135)], [[4055, 3184, 2013]], 1, 0, 0, 60) else mm_nop)) else (.lload_n 3, 1, [], [], 3, 0, 0, 59)))) else (bif Nat.ble 45 pc then
  (bif Nat.ble 51 pc then
  (bif Nat.ble 57 pc then
  (bif Nat.ble 58 pc then (.aload_n 0, 1, [], [], 0, 0, 0, 58) else (.ireturn, 1, [], [], 0, 0, 0, 57)) else (bif Nat.ble 54 pc then
  (bif Nat.beq 54 pc then (.invokevirtual 27, 3, [(7, 113)], [[4035, 4036, 4037, 2002]], 1, 0, 0, 54) else mm_nop) else (bif Nat.beq 51 pc then (.invokestatic 38, 3, [(0, 134)], [[4054, 3173, 2013]], 1, 0, 0, 51) else mm_nop))) else (bif Nat.ble 49 pc then
  (bif Nat.ble 50 pc then (.lload_n 3, 1, [], [], 3, 0, 0, 50) else (.aload_n 0, 1, [], [], 0, 0, 0, 49)) else (bif Nat.ble 48 pc then (.ireturn, 1, [], [], 0, 0, 0, 48) else (bif Nat.beq 45 pc then (.invokestatic 35, 3, [(0, 133)], [[4053, 3164, 2013]], 1, 0, 0, 45) else mm_nop)))) else (bif Nat.ble 5 pc then
  (bif Nat.ble 7 pc then
  (bif Nat.ble 44 pc then (.lload_n 3, 1, [], [], 3, 0, 0, 44) else (bif Nat.beq 7 pc then (.tableswitch 75 0 5 #[37, 42, 51, 60, 65, 70], 37, [(0, 82), (0, 44), (1, 49), (2, 58), (3, 67), (4, 72), (5, 77)], [], 0, 0, 0, 7) else mm_nop)) else (bif Nat.ble 6 pc then (.iload_n 2, 1, [], [], 2, 0, 0, 6) else (.lstore_n 3, 1, [], [], 3, 0, 0, 5))) else (bif Nat.ble 1 pc then
  (bif Nat.ble 2 pc then
  (bif Nat.beq 2 pc then (.invokevirtual 31, 3, [(7, 112)], [[4052, 3218, 3219, 2002]], 1, 0, 0, 2) else mm_nop) else (.iload_n 1, 1, [], [], 1, 0, 0, 1)) else (.aload_n 0, 1, [], [], 0, 0, 0, 0)))))
def mm_k115 : List mm_E := (List.range 85).map mm_f115
def mm_m115 : mm_M := (yX8_factOf, cX8_factOf, 5, (some .int), mm_k115, 2, 0, 0, 4051)
