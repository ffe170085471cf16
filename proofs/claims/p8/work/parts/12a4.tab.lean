/-! ===== code tables (by program), further ===== -/
/-- TypeCopierModel.deepIn.(IIII)I -/
def mm_f204 : Nat → mm_E := fun pc => (bif Nat.ble 33 pc then
  (bif Nat.ble 48 pc then
  (bif Nat.ble 56 pc then
  (bif Nat.ble 60 pc then
  (bif Nat.ble 63 pc then
  (bif Nat.ble 65 pc then (.ireturn, 1, [], [], 0, 0, 0, 65) else (bif Nat.beq 63 pc then (.iload 5, 2, [], [], 5, 0, 0, 63) else mm_nop)) else (bif Nat.beq 60 pc then (.goto 5, 3, [(0, 65)], [], 0, 0, 0, 60) else mm_nop)) else (bif Nat.ble 57 pc then
  (bif Nat.beq 57 pc then (.invokestatic 178, 3, [(0, 170)], [[7093, 7094, 2015]], 2, 0, 0, 57) else mm_nop) else (.iadd, 1, [], [], 0, 0, 0, 56))) else (bif Nat.ble 52 pc then
  (bif Nat.ble 54 pc then
  (bif Nat.ble 55 pc then (.iaload, 1, [], [], 0, 0, 0, 55) else (.iaload, 1, [], [], 0, 0, 0, 54)) else (bif Nat.beq 52 pc then (.iload 4, 2, [], [], 4, 0, 0, 52) else mm_nop)) else (bif Nat.ble 49 pc then
  (bif Nat.beq 49 pc then (.getfield 105, 3, [(10, 34)], [[6132]], 0, 0, 0, 49) else mm_nop) else (.aload_n 0, 1, [], [], 0, 0, 0, 48)))) else (bif Nat.ble 41 pc then
  (bif Nat.ble 43 pc then
  (bif Nat.ble 44 pc then
  (bif Nat.ble 45 pc then
  (bif Nat.beq 45 pc then (.getfield 26, 3, [(10, 5)], [[6103]], 0, 0, 0, 45) else mm_nop) else (.aload_n 0, 1, [], [], 0, 0, 0, 44)) else (.isub, 1, [], [], 0, 0, 0, 43)) else (bif Nat.ble 42 pc then (.iconst 1, 1, [], [], 0, 1, 0, 42) else (.iload_n 3, 1, [], [], 3, 0, 0, 41))) else (bif Nat.ble 36 pc then
  (bif Nat.ble 39 pc then
  (bif Nat.beq 39 pc then (.iload 5, 2, [], [], 5, 0, 0, 39) else mm_nop) else (bif Nat.beq 36 pc then (.ifCond .le 27, 3, [(0, 63)], [], 0, 0, 0, 36) else mm_nop)) else (bif Nat.ble 35 pc then (.iload_n 3, 1, [], [], 3, 0, 0, 35) else (bif Nat.beq 33 pc then (.istore 5, 2, [], [], 5, 0, 0, 33) else mm_nop))))) else (bif Nat.ble 13 pc then
  (bif Nat.ble 23 pc then
  (bif Nat.ble 25 pc then
  (bif Nat.ble 28 pc then
  (bif Nat.ble 31 pc then
  (bif Nat.beq 31 pc then (.iload 5, 2, [], [], 5, 0, 0, 31) else mm_nop) else (bif Nat.beq 28 pc then (.goto 5, 3, [(0, 33)], [], 0, 0, 0, 28) else mm_nop)) else (bif Nat.beq 25 pc then (.invokestatic 178, 3, [(0, 170)], [[7093, 7094, 2015]], 2, 0, 0, 25) else mm_nop)) else (bif Nat.ble 24 pc then (.iadd, 1, [], [], 0, 0, 0, 24) else (.iaload, 1, [], [], 0, 0, 0, 23))) else (bif Nat.ble 17 pc then
  (bif Nat.ble 20 pc then
  (bif Nat.ble 22 pc then (.iaload, 1, [], [], 0, 0, 0, 22) else (bif Nat.beq 20 pc then (.iload 4, 2, [], [], 4, 0, 0, 20) else mm_nop)) else (bif Nat.beq 17 pc then (.getfield 102, 3, [(10, 33)], [[6131]], 0, 0, 0, 17) else mm_nop)) else (bif Nat.ble 16 pc then (.aload_n 0, 1, [], [], 0, 0, 0, 16) else (bif Nat.beq 13 pc then (.getfield 26, 3, [(10, 5)], [[6103]], 0, 0, 0, 13) else mm_nop)))) else (bif Nat.ble 7 pc then
  (bif Nat.ble 10 pc then
  (bif Nat.ble 11 pc then
  (bif Nat.ble 12 pc then (.aload_n 0, 1, [], [], 0, 0, 0, 12) else (.isub, 1, [], [], 0, 0, 0, 11)) else (.iconst 1, 1, [], [], 0, 1, 0, 10)) else (bif Nat.ble 9 pc then (.iload_n 2, 1, [], [], 2, 0, 0, 9) else (bif Nat.beq 7 pc then (.iload 5, 2, [], [], 5, 0, 0, 7) else mm_nop))) else (bif Nat.ble 3 pc then
  (bif Nat.ble 4 pc then
  (bif Nat.beq 4 pc then (.ifCond .le 27, 3, [(0, 31)], [], 0, 0, 0, 4) else mm_nop) else (.iload_n 2, 1, [], [], 2, 0, 0, 3)) else (bif Nat.ble 1 pc then
  (bif Nat.beq 1 pc then (.istore 5, 2, [], [], 5, 0, 0, 1) else mm_nop) else (.iload_n 1, 1, [], [], 1, 0, 0, 0))))))
def mm_k204 : List mm_E := (List.range 66).map mm_f204
def mm_m204 : mm_M := (yX12_deepIn, cX12_deepIn, 6, (some .int), mm_k204, 4, 0, 0, 7234)
/-- TypeCopierModel.isTooDeep.(II)Z -/
def mm_f205 : Nat → mm_E := fun pc => (bif Nat.ble 14 pc then
  (bif Nat.ble 23 pc then
  (bif Nat.ble 28 pc then
  (bif Nat.ble 31 pc then
  (bif Nat.ble 32 pc then (.ireturn, 1, [], [], 0, 0, 0, 32) else (.iconst 0, 1, [], [], 0, 0, 0, 31)) else (bif Nat.beq 28 pc then (.goto 4, 3, [(0, 32)], [], 0, 0, 0, 28) else mm_nop)) else (bif Nat.ble 24 pc then
  (bif Nat.ble 27 pc then (.iconst 1, 1, [], [], 0, 1, 0, 27) else (bif Nat.beq 24 pc then (.if_icmp .le 7, 3, [(0, 31)], [], 0, 0, 0, 24) else mm_nop)) else (.iconst 5, 1, [], [], 0, 5, 0, 23))) else (bif Nat.ble 18 pc then
  (bif Nat.ble 19 pc then
  (bif Nat.ble 20 pc then
  (bif Nat.beq 20 pc then (.invokevirtual 274, 3, [(10, 204)], [[7231, 7233, 1046, 2015]], 4, 0, 0, 20) else mm_nop) else (.iload_n 2, 1, [], [], 2, 0, 0, 19)) else (.iaload, 1, [], [], 0, 0, 0, 18)) else (bif Nat.ble 17 pc then (.iload_n 1, 1, [], [], 1, 0, 0, 17) else (bif Nat.beq 14 pc then (.getfield 32, 3, [(10, 7)], [[6105]], 0, 0, 0, 14) else mm_nop)))) else (bif Nat.ble 7 pc then
  (bif Nat.ble 11 pc then
  (bif Nat.ble 12 pc then
  (bif Nat.ble 13 pc then (.aload_n 0, 1, [], [], 0, 0, 0, 13) else (.iaload, 1, [], [], 0, 0, 0, 12)) else (.iload_n 1, 1, [], [], 1, 0, 0, 11)) else (bif Nat.ble 8 pc then
  (bif Nat.beq 8 pc then (.getfield 29, 3, [(10, 6)], [[6104]], 0, 0, 0, 8) else mm_nop) else (.aload_n 0, 1, [], [], 0, 0, 0, 7))) else (bif Nat.ble 2 pc then
  (bif Nat.ble 5 pc then
  (bif Nat.ble 6 pc then (.iaload, 1, [], [], 0, 0, 0, 6) else (.iload_n 1, 1, [], [], 1, 0, 0, 5)) else (bif Nat.beq 2 pc then (.getfield 26, 3, [(10, 5)], [[6103]], 0, 0, 0, 2) else mm_nop)) else (bif Nat.ble 1 pc then (.aload_n 0, 1, [], [], 0, 0, 0, 1) else (.aload_n 0, 1, [], [], 0, 0, 0, 0)))))
def mm_k205 : List mm_E := (List.range 33).map mm_f205
def mm_m205 : mm_M := (yX12_isTooDeep, cX12_isTooDeep, 3, (some .boolean), mm_k205, 2, 0, 0, 7230)
/-- TypeCopierModel.copied.(III)Z -/
def mm_f206 : Nat → mm_E := fun pc => (bif Nat.ble 73 pc then
  (bif Nat.ble 104 pc then
  (bif Nat.ble 122 pc then
  (bif Nat.ble 129 pc then
  (bif Nat.ble 131 pc then
  (bif Nat.ble 134 pc then
  (bif Nat.ble 135 pc then (.ireturn, 1, [], [], 0, 0, 0, 135) else (.iconst 1, 1, [], [], 0, 1, 0, 134)) else (bif Nat.beq 131 pc then (.putfield 278, 3, [(10, 31)], [[6129]], 0, 0, 0, 131) else mm_nop)) else (bif Nat.ble 130 pc then (.iadd, 1, [], [], 0, 0, 0, 130) else (.iconst 1, 1, [], [], 0, 1, 0, 129))) else (bif Nat.ble 124 pc then
  (bif Nat.ble 125 pc then
  (bif Nat.ble 126 pc then
  (bif Nat.beq 126 pc then (.getfield 278, 3, [(10, 31)], [[6129]], 0, 0, 0, 126) else mm_nop) else (.dup, 1, [], [], 0, 0, 0, 125)) else (.aload_n 0, 1, [], [], 0, 0, 0, 124)) else (bif Nat.ble 123 pc then (.iastore, 1, [], [], 0, 0, 0, 123) else (.iload_n 3, 1, [], [], 3, 0, 0, 122)))) else (bif Nat.ble 113 pc then
  (bif Nat.ble 115 pc then
  (bif Nat.ble 118 pc then
  (bif Nat.ble 119 pc then
  (bif Nat.beq 119 pc then (.getfield 278, 3, [(10, 31)], [[6129]], 0, 0, 0, 119) else mm_nop) else (.aload_n 0, 1, [], [], 0, 0, 0, 118)) else (bif Nat.beq 115 pc then (.getfield 105, 3, [(10, 34)], [[6132]], 0, 0, 0, 115) else mm_nop)) else (bif Nat.ble 114 pc then (.aload_n 0, 1, [], [], 0, 0, 0, 114) else (.iastore, 1, [], [], 0, 0, 0, 113))) else (bif Nat.ble 108 pc then
  (bif Nat.ble 109 pc then
  (bif Nat.ble 112 pc then (.iload_n 2, 1, [], [], 2, 0, 0, 112) else (bif Nat.beq 109 pc then (.getfield 278, 3, [(10, 31)], [[6129]], 0, 0, 0, 109) else mm_nop)) else (.aload_n 0, 1, [], [], 0, 0, 0, 108)) else (bif Nat.ble 105 pc then
  (bif Nat.beq 105 pc then (.getfield 102, 3, [(10, 33)], [[6131]], 0, 0, 0, 105) else mm_nop) else (.aload_n 0, 1, [], [], 0, 0, 0, 104))))) else (bif Nat.ble 88 pc then
  (bif Nat.ble 95 pc then
  (bif Nat.ble 99 pc then
  (bif Nat.ble 102 pc then
  (bif Nat.ble 103 pc then (.iastore, 1, [], [], 0, 0, 0, 103) else (.iload_n 1, 1, [], [], 1, 0, 0, 102)) else (bif Nat.beq 99 pc then (.getfield 278, 3, [(10, 31)], [[6129]], 0, 0, 0, 99) else mm_nop)) else (bif Nat.ble 98 pc then (.aload_n 0, 1, [], [], 0, 0, 0, 98) else (bif Nat.beq 95 pc then (.getfield 99, 3, [(10, 32)], [[6130]], 0, 0, 0, 95) else mm_nop))) else (bif Nat.ble 92 pc then
  (bif Nat.ble 93 pc then
  (bif Nat.ble 94 pc then (.aload_n 0, 1, [], [], 0, 0, 0, 94) else (.ireturn, 1, [], [], 0, 0, 0, 93)) else (.iconst 0, 1, [], [], 0, 0, 0, 92)) else (bif Nat.ble 89 pc then
  (bif Nat.beq 89 pc then (.if_icmp .le 5, 3, [(0, 94)], [], 0, 0, 0, 89) else mm_nop) else (.iconst 5, 1, [], [], 0, 5, 0, 88)))) else (bif Nat.ble 79 pc then
  (bif Nat.ble 83 pc then
  (bif Nat.ble 86 pc then
  (bif Nat.ble 87 pc then (.iaload, 1, [], [], 0, 0, 0, 87) else (.iload_n 3, 1, [], [], 3, 0, 0, 86)) else (bif Nat.beq 83 pc then (.getfield 26, 3, [(10, 5)], [[6103]], 0, 0, 0, 83) else mm_nop)) else (bif Nat.ble 82 pc then (.aload_n 0, 1, [], [], 0, 0, 0, 82) else (bif Nat.beq 79 pc then (.if_icmp .eq 15, 3, [(0, 94)], [], 0, 0, 0, 79) else mm_nop))) else (bif Nat.ble 77 pc then
  (bif Nat.ble 78 pc then (.iconst (-1), 1, [], [], 0, (-1), 0, 78) else (.iload_n 3, 1, [], [], 3, 0, 0, 77)) else (bif Nat.ble 74 pc then
  (bif Nat.beq 74 pc then (.if_icmp .gt 18, 3, [(0, 92)], [], 0, 0, 0, 74) else mm_nop) else (.iconst 5, 1, [], [], 0, 5, 0, 73)))))) else (bif Nat.ble 35 pc then
  (bif Nat.ble 54 pc then
  (bif Nat.ble 64 pc then
  (bif Nat.ble 68 pc then
  (bif Nat.ble 71 pc then
  (bif Nat.ble 72 pc then (.iaload, 1, [], [], 0, 0, 0, 72) else (.iload_n 2, 1, [], [], 2, 0, 0, 71)) else (bif Nat.beq 68 pc then (.getfield 26, 3, [(10, 5)], [[6103]], 0, 0, 0, 68) else mm_nop)) else (bif Nat.ble 67 pc then (.aload_n 0, 1, [], [], 0, 0, 0, 67) else (bif Nat.beq 64 pc then (.if_icmp .eq 13, 3, [(0, 77)], [], 0, 0, 0, 64) else mm_nop))) else (bif Nat.ble 59 pc then
  (bif Nat.ble 62 pc then
  (bif Nat.ble 63 pc then (.iconst (-1), 1, [], [], 0, (-1), 0, 63) else (.iload_n 2, 1, [], [], 2, 0, 0, 62)) else (bif Nat.beq 59 pc then (.if_icmp .eq 33, 3, [(0, 92)], [], 0, 0, 0, 59) else mm_nop)) else (bif Nat.ble 57 pc then
  (bif Nat.beq 57 pc then (.bipush 60, 2, [], [], 0, 60, 0, 57) else mm_nop) else (bif Nat.beq 54 pc then (.getfield 278, 3, [(10, 31)], [[6129]], 0, 0, 0, 54) else mm_nop)))) else (bif Nat.ble 45 pc then
  (bif Nat.ble 47 pc then
  (bif Nat.ble 50 pc then
  (bif Nat.ble 53 pc then (.aload_n 0, 1, [], [], 0, 0, 0, 53) else (bif Nat.beq 50 pc then (.goto (-47), 3, [(0, 3)], [], 0, 0, 0, 50) else mm_nop)) else (bif Nat.beq 47 pc then (.iinc 4 1, 3, [], [], 4, 1, 0, 47) else mm_nop)) else (bif Nat.ble 46 pc then (.ireturn, 1, [], [], 0, 0, 0, 46) else (.iconst 1, 1, [], [], 0, 1, 0, 45))) else (bif Nat.ble 40 pc then
  (bif Nat.ble 41 pc then
  (bif Nat.ble 42 pc then
  (bif Nat.beq 42 pc then (.if_icmp .ne 5, 3, [(0, 47)], [], 0, 0, 0, 42) else mm_nop) else (.iload_n 3, 1, [], [], 3, 0, 0, 41)) else (.iaload, 1, [], [], 0, 0, 0, 40)) else (bif Nat.ble 38 pc then
  (bif Nat.beq 38 pc then (.iload 4, 2, [], [], 4, 0, 0, 38) else mm_nop) else (bif Nat.beq 35 pc then (.getfield 105, 3, [(10, 34)], [[6132]], 0, 0, 0, 35) else mm_nop))))) else (bif Nat.ble 18 pc then
  (bif Nat.ble 27 pc then
  (bif Nat.ble 30 pc then
  (bif Nat.ble 31 pc then
  (bif Nat.ble 34 pc then (.aload_n 0, 1, [], [], 0, 0, 0, 34) else (bif Nat.beq 31 pc then (.if_icmp .ne 16, 3, [(0, 47)], [], 0, 0, 0, 31) else mm_nop)) else (.iload_n 2, 1, [], [], 2, 0, 0, 30)) else (bif Nat.ble 29 pc then (.iaload, 1, [], [], 0, 0, 0, 29) else (bif Nat.beq 27 pc then (.iload 4, 2, [], [], 4, 0, 0, 27) else mm_nop))) else (bif Nat.ble 20 pc then
  (bif Nat.ble 23 pc then
  (bif Nat.ble 24 pc then
  (bif Nat.beq 24 pc then (.getfield 102, 3, [(10, 33)], [[6131]], 0, 0, 0, 24) else mm_nop) else (.aload_n 0, 1, [], [], 0, 0, 0, 23)) else (bif Nat.beq 20 pc then (.if_icmp .ne 27, 3, [(0, 47)], [], 0, 0, 0, 20) else mm_nop)) else (bif Nat.ble 19 pc then (.iload_n 1, 1, [], [], 1, 0, 0, 19) else (.iaload, 1, [], [], 0, 0, 0, 18)))) else (bif Nat.ble 6 pc then
  (bif Nat.ble 12 pc then
  (bif Nat.ble 13 pc then
  (bif Nat.ble 16 pc then
  (bif Nat.beq 16 pc then (.iload 4, 2, [], [], 4, 0, 0, 16) else mm_nop) else (bif Nat.beq 13 pc then (.getfield 99, 3, [(10, 32)], [[6130]], 0, 0, 0, 13) else mm_nop)) else (.aload_n 0, 1, [], [], 0, 0, 0, 12)) else (bif Nat.ble 9 pc then
  (bif Nat.beq 9 pc then (.if_icmp .ge 44, 3, [(0, 53)], [], 0, 0, 0, 9) else mm_nop) else (bif Nat.beq 6 pc then (.getfield 278, 3, [(10, 31)], [[6129]], 0, 0, 0, 6) else mm_nop))) else (bif Nat.ble 3 pc then
  (bif Nat.ble 5 pc then (.aload_n 0, 1, [], [], 0, 0, 0, 5) else (bif Nat.beq 3 pc then (.iload 4, 2, [], [], 4, 0, 0, 3) else mm_nop)) else (bif Nat.ble 1 pc then
  (bif Nat.beq 1 pc then (.istore 4, 2, [], [], 4, 0, 0, 1) else mm_nop) else (.iconst 0, 1, [], [], 0, 0, 0, 0)))))))
def mm_k206 : List mm_E := (List.range 136).map mm_f206
def mm_m206 : mm_M := (yX12_copied, cX12_copied, 5, (some .boolean), mm_k206, 3, 0, 0, 7222)
/-- TypeCopierModel.follows.(I)Z -/
def mm_f207 : Nat → mm_E := fun pc => (bif Nat.ble 106 pc then
  (bif Nat.ble 162 pc then
  (bif Nat.ble 189 pc then
  (bif Nat.ble 204 pc then
  (bif Nat.ble 213 pc then
  (bif Nat.ble 217 pc then
  (bif Nat.ble 220 pc then
  (bif Nat.ble 221 pc then (.ireturn, 1, [], [], 0, 0, 0, 221) else (.iconst 1, 1, [], [], 0, 1, 0, 220)) else (bif Nat.beq 217 pc then (.goto (-173), 3, [(0, 44)], [], 0, 0, 0, 217) else mm_nop)) else (bif Nat.ble 214 pc then
  (bif Nat.beq 214 pc then (.iinc 3 1, 3, [], [], 3, 1, 0, 214) else mm_nop) else (.ireturn, 1, [], [], 0, 0, 0, 213))) else (bif Nat.ble 209 pc then
  (bif Nat.ble 212 pc then (.iconst 0, 1, [], [], 0, 0, 0, 212) else (bif Nat.beq 209 pc then (.ifCond .ne 5, 3, [(0, 214)], [], 0, 0, 0, 209) else mm_nop)) else (bif Nat.ble 206 pc then
  (bif Nat.beq 206 pc then (.invokevirtual 287, 3, [(10, 206)], [[7219, 7221, 1043, 2015]], 3, 0, 0, 206) else mm_nop) else (bif Nat.beq 204 pc then (.iload 7, 2, [], [], 7, 0, 0, 204) else mm_nop)))) else (bif Nat.ble 196 pc then
  (bif Nat.ble 201 pc then
  (bif Nat.ble 202 pc then
  (bif Nat.beq 202 pc then (.iload 6, 2, [], [], 6, 0, 0, 202) else mm_nop) else (.iaload, 1, [], [], 0, 0, 0, 201)) else (bif Nat.ble 199 pc then
  (bif Nat.beq 199 pc then (.iload 4, 2, [], [], 4, 0, 0, 199) else mm_nop) else (bif Nat.beq 196 pc then (.getfield 54, 3, [(10, 15)], [[6113]], 0, 0, 0, 196) else mm_nop))) else (bif Nat.ble 194 pc then
  (bif Nat.ble 195 pc then (.aload_n 0, 1, [], [], 0, 0, 0, 195) else (.aload_n 0, 1, [], [], 0, 0, 0, 194)) else (bif Nat.ble 192 pc then
  (bif Nat.beq 192 pc then (.istore 7, 2, [], [], 7, 0, 0, 192) else mm_nop) else (bif Nat.beq 189 pc then (.invokevirtual 239, 3, [(10, 181)], [[7174, 7176, 1036, 2015]], 3, 0, 0, 189) else mm_nop))))) else (bif Nat.ble 177 pc then
  (bif Nat.ble 183 pc then
  (bif Nat.ble 187 pc then
  (bif Nat.ble 188 pc then (.iaload, 1, [], [], 0, 0, 0, 188) else (.iload_n 1, 1, [], [], 1, 0, 0, 187)) else (bif Nat.ble 184 pc then
  (bif Nat.beq 184 pc then (.getfield 105, 3, [(10, 34)], [[6132]], 0, 0, 0, 184) else mm_nop) else (.aload_n 0, 1, [], [], 0, 0, 0, 183))) else (bif Nat.ble 181 pc then
  (bif Nat.ble 182 pc then (.iaload, 1, [], [], 0, 0, 0, 182) else (.iload_n 1, 1, [], [], 1, 0, 0, 181)) else (bif Nat.ble 178 pc then
  (bif Nat.beq 178 pc then (.getfield 102, 3, [(10, 33)], [[6131]], 0, 0, 0, 178) else mm_nop) else (.aload_n 0, 1, [], [], 0, 0, 0, 177)))) else (bif Nat.ble 170 pc then
  (bif Nat.ble 174 pc then
  (bif Nat.ble 176 pc then (.iaload, 1, [], [], 0, 0, 0, 176) else (bif Nat.beq 174 pc then (.iload 4, 2, [], [], 4, 0, 0, 174) else mm_nop)) else (bif Nat.ble 171 pc then
  (bif Nat.beq 171 pc then (.getfield 63, 3, [(10, 18)], [[6116]], 0, 0, 0, 171) else mm_nop) else (.aload_n 0, 1, [], [], 0, 0, 0, 170))) else (bif Nat.ble 166 pc then
  (bif Nat.ble 169 pc then (.aload_n 0, 1, [], [], 0, 0, 0, 169) else (bif Nat.beq 166 pc then (.goto 26, 3, [(0, 192)], [], 0, 0, 0, 166) else mm_nop)) else (bif Nat.ble 165 pc then (.iconst (-1), 1, [], [], 0, (-1), 0, 165) else (bif Nat.beq 162 pc then (.if_icmp .ne 7, 3, [(0, 169)], [], 0, 0, 0, 162) else mm_nop)))))) else (bif Nat.ble 136 pc then
  (bif Nat.ble 148 pc then
  (bif Nat.ble 155 pc then
  (bif Nat.ble 160 pc then
  (bif Nat.ble 161 pc then (.iconst (-1), 1, [], [], 0, (-1), 0, 161) else (.iaload, 1, [], [], 0, 0, 0, 160)) else (bif Nat.ble 158 pc then
  (bif Nat.beq 158 pc then (.iload 4, 2, [], [], 4, 0, 0, 158) else mm_nop) else (bif Nat.beq 155 pc then (.getfield 63, 3, [(10, 18)], [[6116]], 0, 0, 0, 155) else mm_nop))) else (bif Nat.ble 152 pc then
  (bif Nat.ble 154 pc then (.aload_n 0, 1, [], [], 0, 0, 0, 154) else (bif Nat.beq 152 pc then (.istore 6, 2, [], [], 6, 0, 0, 152) else mm_nop)) else (bif Nat.ble 149 pc then
  (bif Nat.beq 149 pc then (.invokevirtual 239, 3, [(10, 181)], [[7174, 7176, 1036, 2015]], 3, 0, 0, 149) else mm_nop) else (.iaload, 1, [], [], 0, 0, 0, 148)))) else (bif Nat.ble 142 pc then
  (bif Nat.ble 144 pc then
  (bif Nat.ble 147 pc then (.iload_n 1, 1, [], [], 1, 0, 0, 147) else (bif Nat.beq 144 pc then (.getfield 105, 3, [(10, 34)], [[6132]], 0, 0, 0, 144) else mm_nop)) else (bif Nat.ble 143 pc then (.aload_n 0, 1, [], [], 0, 0, 0, 143) else (.iaload, 1, [], [], 0, 0, 0, 142))) else (bif Nat.ble 138 pc then
  (bif Nat.ble 141 pc then (.iload_n 1, 1, [], [], 1, 0, 0, 141) else (bif Nat.beq 138 pc then (.getfield 102, 3, [(10, 33)], [[6131]], 0, 0, 0, 138) else mm_nop)) else (bif Nat.ble 137 pc then (.aload_n 0, 1, [], [], 0, 0, 0, 137) else (.iaload, 1, [], [], 0, 0, 0, 136))))) else (bif Nat.ble 121 pc then
  (bif Nat.ble 129 pc then
  (bif Nat.ble 131 pc then
  (bif Nat.ble 134 pc then
  (bif Nat.beq 134 pc then (.iload 4, 2, [], [], 4, 0, 0, 134) else mm_nop) else (bif Nat.beq 131 pc then (.getfield 60, 3, [(10, 17)], [[6115]], 0, 0, 0, 131) else mm_nop)) else (bif Nat.ble 130 pc then (.aload_n 0, 1, [], [], 0, 0, 0, 130) else (.aload_n 0, 1, [], [], 0, 0, 0, 129))) else (bif Nat.ble 125 pc then
  (bif Nat.ble 126 pc then
  (bif Nat.beq 126 pc then (.goto 26, 3, [(0, 152)], [], 0, 0, 0, 126) else mm_nop) else (.iconst (-1), 1, [], [], 0, (-1), 0, 125)) else (bif Nat.ble 122 pc then
  (bif Nat.beq 122 pc then (.if_icmp .ne 7, 3, [(0, 129)], [], 0, 0, 0, 122) else mm_nop) else (.iconst (-1), 1, [], [], 0, (-1), 0, 121)))) else (bif Nat.ble 114 pc then
  (bif Nat.ble 118 pc then
  (bif Nat.ble 120 pc then (.iaload, 1, [], [], 0, 0, 0, 120) else (bif Nat.beq 118 pc then (.iload 4, 2, [], [], 4, 0, 0, 118) else mm_nop)) else (bif Nat.ble 115 pc then
  (bif Nat.beq 115 pc then (.getfield 60, 3, [(10, 17)], [[6115]], 0, 0, 0, 115) else mm_nop) else (.aload_n 0, 1, [], [], 0, 0, 0, 114))) else (bif Nat.ble 109 pc then
  (bif Nat.ble 111 pc then
  (bif Nat.beq 111 pc then (.if_icmp .ne 103, 3, [(0, 214)], [], 0, 0, 0, 111) else mm_nop) else (bif Nat.beq 109 pc then (.bipush 14, 2, [], [], 0, 14, 0, 109) else mm_nop)) else (bif Nat.ble 108 pc then (.iaload, 1, [], [], 0, 0, 0, 108) else (bif Nat.beq 106 pc then (.iload 4, 2, [], [], 4, 0, 0, 106) else mm_nop))))))) else (bif Nat.ble 52 pc then
  (bif Nat.ble 78 pc then
  (bif Nat.ble 92 pc then
  (bif Nat.ble 100 pc then
  (bif Nat.ble 102 pc then
  (bif Nat.ble 103 pc then
  (bif Nat.beq 103 pc then (.getfield 51, 3, [(10, 14)], [[6112]], 0, 0, 0, 103) else mm_nop) else (.aload_n 0, 1, [], [], 0, 0, 0, 102)) else (bif Nat.ble 101 pc then (.ireturn, 1, [], [], 0, 0, 0, 101) else (.iconst 0, 1, [], [], 0, 0, 0, 100))) else (bif Nat.ble 96 pc then
  (bif Nat.ble 97 pc then
  (bif Nat.beq 97 pc then (.if_icmp .le 5, 3, [(0, 102)], [], 0, 0, 0, 97) else mm_nop) else (.iconst 5, 1, [], [], 0, 5, 0, 96)) else (bif Nat.ble 93 pc then
  (bif Nat.beq 93 pc then (.invokevirtual 274, 3, [(10, 204)], [[7231, 7233, 1046, 2015]], 4, 0, 0, 93) else mm_nop) else (.iload_n 1, 1, [], [], 1, 0, 0, 92)))) else (bif Nat.ble 85 pc then
  (bif Nat.ble 89 pc then
  (bif Nat.ble 91 pc then (.iaload, 1, [], [], 0, 0, 0, 91) else (bif Nat.beq 89 pc then (.iload 5, 2, [], [], 5, 0, 0, 89) else mm_nop)) else (bif Nat.ble 86 pc then
  (bif Nat.beq 86 pc then (.getfield 96, 3, [(10, 30)], [[6128]], 0, 0, 0, 86) else mm_nop) else (.aload_n 0, 1, [], [], 0, 0, 0, 85))) else (bif Nat.ble 82 pc then
  (bif Nat.ble 84 pc then (.iaload, 1, [], [], 0, 0, 0, 84) else (bif Nat.beq 82 pc then (.iload 5, 2, [], [], 5, 0, 0, 82) else mm_nop)) else (bif Nat.ble 79 pc then
  (bif Nat.beq 79 pc then (.getfield 93, 3, [(10, 29)], [[6127]], 0, 0, 0, 79) else mm_nop) else (.aload_n 0, 1, [], [], 0, 0, 0, 78))))) else (bif Nat.ble 65 pc then
  (bif Nat.ble 71 pc then
  (bif Nat.ble 75 pc then
  (bif Nat.ble 77 pc then (.iaload, 1, [], [], 0, 0, 0, 77) else (bif Nat.beq 75 pc then (.iload 5, 2, [], [], 5, 0, 0, 75) else mm_nop)) else (bif Nat.ble 72 pc then
  (bif Nat.beq 72 pc then (.getfield 90, 3, [(10, 28)], [[6126]], 0, 0, 0, 72) else mm_nop) else (.aload_n 0, 1, [], [], 0, 0, 0, 71))) else (bif Nat.ble 68 pc then
  (bif Nat.ble 70 pc then (.aload_n 0, 1, [], [], 0, 0, 0, 70) else (bif Nat.beq 68 pc then (.istore 5, 2, [], [], 5, 0, 0, 68) else mm_nop)) else (bif Nat.ble 67 pc then (.iadd, 1, [], [], 0, 0, 0, 67) else (bif Nat.beq 65 pc then (.iload 4, 2, [], [], 4, 0, 0, 65) else mm_nop)))) else (bif Nat.ble 58 pc then
  (bif Nat.ble 63 pc then
  (bif Nat.ble 64 pc then (.imul, 1, [], [], 0, 0, 0, 64) else (.iload_n 2, 1, [], [], 2, 0, 0, 63)) else (bif Nat.ble 60 pc then
  (bif Nat.beq 60 pc then (.sipush 200, 3, [], [], 0, 200, 0, 60) else mm_nop) else (bif Nat.beq 58 pc then (.istore 4, 2, [], [], 4, 0, 0, 58) else mm_nop))) else (bif Nat.ble 56 pc then
  (bif Nat.ble 57 pc then (.iaload, 1, [], [], 0, 0, 0, 57) else (.iload_n 3, 1, [], [], 3, 0, 0, 56)) else (bif Nat.ble 53 pc then
  (bif Nat.beq 53 pc then (.getfield 108, 3, [(10, 35)], [[6133]], 0, 0, 0, 53) else mm_nop) else (.aload_n 0, 1, [], [], 0, 0, 0, 52)))))) else (bif Nat.ble 26 pc then
  (bif Nat.ble 38 pc then
  (bif Nat.ble 44 pc then
  (bif Nat.ble 46 pc then
  (bif Nat.ble 49 pc then
  (bif Nat.beq 49 pc then (.if_icmp .ge 171, 3, [(0, 220)], [], 0, 0, 0, 49) else mm_nop) else (bif Nat.beq 46 pc then (.getfield 271, 3, [(10, 36)], [[6134]], 0, 0, 0, 46) else mm_nop)) else (bif Nat.ble 45 pc then (.aload_n 0, 1, [], [], 0, 0, 0, 45) else (.iload_n 3, 1, [], [], 3, 0, 0, 44))) else (bif Nat.ble 42 pc then
  (bif Nat.ble 43 pc then (.istore_n 3, 1, [], [], 3, 0, 0, 43) else (.iconst 0, 1, [], [], 0, 0, 0, 42)) else (bif Nat.ble 39 pc then
  (bif Nat.beq 39 pc then (.invokevirtual 284, 3, [(10, 203)], [[7235, 7237, 1047, 2015]], 1, 0, 0, 39) else mm_nop) else (.iload_n 2, 1, [], [], 2, 0, 0, 38)))) else (bif Nat.ble 32 pc then
  (bif Nat.ble 36 pc then
  (bif Nat.ble 37 pc then (.aload_n 0, 1, [], [], 0, 0, 0, 37) else (.ireturn, 1, [], [], 0, 0, 0, 36)) else (bif Nat.ble 35 pc then (.iconst 0, 1, [], [], 0, 0, 0, 35) else (bif Nat.beq 32 pc then (.ifCond .eq 5, 3, [(0, 37)], [], 0, 0, 0, 32) else mm_nop))) else (bif Nat.ble 28 pc then
  (bif Nat.ble 29 pc then
  (bif Nat.beq 29 pc then (.invokevirtual 281, 3, [(10, 205)], [[7227, 7229, 1045, 2015]], 2, 0, 0, 29) else mm_nop) else (.iload_n 1, 1, [], [], 1, 0, 0, 28)) else (bif Nat.ble 27 pc then (.iaload, 1, [], [], 0, 0, 0, 27) else (.iload_n 2, 1, [], [], 2, 0, 0, 26))))) else (bif Nat.ble 12 pc then
  (bif Nat.ble 18 pc then
  (bif Nat.ble 22 pc then
  (bif Nat.ble 23 pc then
  (bif Nat.beq 23 pc then (.getfield 75, 3, [(10, 23)], [[6121]], 0, 0, 0, 23) else mm_nop) else (.aload_n 0, 1, [], [], 0, 0, 0, 22)) else (bif Nat.ble 21 pc then (.aload_n 0, 1, [], [], 0, 0, 0, 21) else (bif Nat.beq 18 pc then (.ifCond .ne 17, 3, [(0, 35)], [], 0, 0, 0, 18) else mm_nop))) else (bif Nat.ble 14 pc then
  (bif Nat.ble 15 pc then
  (bif Nat.beq 15 pc then (.invokevirtual 281, 3, [(10, 205)], [[7227, 7229, 1045, 2015]], 2, 0, 0, 15) else mm_nop) else (.iload_n 1, 1, [], [], 1, 0, 0, 14)) else (bif Nat.ble 13 pc then (.iaload, 1, [], [], 0, 0, 0, 13) else (.iload_n 2, 1, [], [], 2, 0, 0, 12)))) else (bif Nat.ble 6 pc then
  (bif Nat.ble 8 pc then
  (bif Nat.ble 9 pc then
  (bif Nat.beq 9 pc then (.getfield 72, 3, [(10, 22)], [[6120]], 0, 0, 0, 9) else mm_nop) else (.aload_n 0, 1, [], [], 0, 0, 0, 8)) else (bif Nat.ble 7 pc then (.aload_n 0, 1, [], [], 0, 0, 0, 7) else (.istore_n 2, 1, [], [], 2, 0, 0, 6))) else (bif Nat.ble 4 pc then
  (bif Nat.ble 5 pc then (.iaload, 1, [], [], 0, 0, 0, 5) else (.iload_n 1, 1, [], [], 1, 0, 0, 4)) else (bif Nat.ble 1 pc then
  (bif Nat.beq 1 pc then (.getfield 99, 3, [(10, 32)], [[6130]], 0, 0, 0, 1) else mm_nop) else (.aload_n 0, 1, [], [], 0, 0, 0, 0))))))))
def mm_k207 : List mm_E := (List.range 222).map mm_f207
def mm_m207 : mm_M := (yX12_follows, cX12_follows, 8, (some .boolean), mm_k207, 1, 0, 0, 7226)
/-- TypeCopierModel.findCopies.()I -/
def mm_f208 : Nat → mm_E := fun pc => (bif Nat.ble 93 pc then
  (bif Nat.ble 143 pc then
  (bif Nat.ble 163 pc then
  (bif Nat.ble 178 pc then
  (bif Nat.ble 184 pc then
  (bif Nat.ble 188 pc then
  (bif Nat.ble 191 pc then (.ireturn, 1, [], [], 0, 0, 0, 191) else (bif Nat.beq 188 pc then (.getfield 278, 3, [(10, 31)], [[6129]], 0, 0, 0, 188) else mm_nop)) else (bif Nat.ble 187 pc then (.aload_n 0, 1, [], [], 0, 0, 0, 187) else (bif Nat.beq 184 pc then (.goto (-22), 3, [(0, 162)], [], 0, 0, 0, 184) else mm_nop))) else (bif Nat.ble 180 pc then
  (bif Nat.ble 181 pc then
  (bif Nat.beq 181 pc then (.iinc 1 1, 3, [], [], 1, 1, 0, 181) else mm_nop) else (.ireturn, 1, [], [], 0, 0, 0, 180)) else (bif Nat.beq 178 pc then (.bipush (-4), 2, [], [], 0, (-4), 0, 178) else mm_nop))) else (bif Nat.ble 170 pc then
  (bif Nat.ble 172 pc then
  (bif Nat.ble 175 pc then
  (bif Nat.beq 175 pc then (.ifCond .ne 6, 3, [(0, 181)], [], 0, 0, 0, 175) else mm_nop) else (bif Nat.beq 172 pc then (.invokevirtual 294, 3, [(10, 207)], [[7223, 7225, 1044, 2015]], 1, 0, 0, 172) else mm_nop)) else (bif Nat.ble 171 pc then (.iload_n 1, 1, [], [], 1, 0, 0, 171) else (.aload_n 0, 1, [], [], 0, 0, 0, 170))) else (bif Nat.ble 164 pc then
  (bif Nat.ble 167 pc then
  (bif Nat.beq 167 pc then (.if_icmp .ge 20, 3, [(0, 187)], [], 0, 0, 0, 167) else mm_nop) else (bif Nat.beq 164 pc then (.getfield 278, 3, [(10, 31)], [[6129]], 0, 0, 0, 164) else mm_nop)) else (.aload_n 0, 1, [], [], 0, 0, 0, 163)))) else (bif Nat.ble 154 pc then
  (bif Nat.ble 159 pc then
  (bif Nat.ble 161 pc then
  (bif Nat.ble 162 pc then (.iload_n 1, 1, [], [], 1, 0, 0, 162) else (.istore_n 1, 1, [], [], 1, 0, 0, 161)) else (bif Nat.ble 160 pc then (.iconst 0, 1, [], [], 0, 0, 0, 160) else (.pop, 1, [], [], 0, 0, 0, 159))) else (bif Nat.ble 155 pc then
  (bif Nat.ble 156 pc then
  (bif Nat.beq 156 pc then (.invokevirtual 287, 3, [(10, 206)], [[7219, 7221, 1043, 2015]], 3, 0, 0, 156) else mm_nop) else (.iconst (-1), 1, [], [], 0, (-1), 0, 155)) else (.iconst (-1), 1, [], [], 0, (-1), 0, 154))) else (bif Nat.ble 148 pc then
  (bif Nat.ble 152 pc then
  (bif Nat.ble 153 pc then (.iconst 0, 1, [], [], 0, 0, 0, 153) else (.aload_n 0, 1, [], [], 0, 0, 0, 152)) else (bif Nat.ble 149 pc then
  (bif Nat.beq 149 pc then (.putfield 278, 3, [(10, 31)], [[6129]], 0, 0, 0, 149) else mm_nop) else (.iconst 0, 1, [], [], 0, 0, 0, 148))) else (bif Nat.ble 144 pc then
  (bif Nat.ble 147 pc then (.aload_n 0, 1, [], [], 0, 0, 0, 147) else (bif Nat.beq 144 pc then (.invokevirtual 197, 3, [(10, 167)], [[7076, 7078, 1021, 2015]], 0, 0, 0, 144) else mm_nop)) else (.aload_n 0, 1, [], [], 0, 0, 0, 143))))) else (bif Nat.ble 115 pc then
  (bif Nat.ble 128 pc then
  (bif Nat.ble 131 pc then
  (bif Nat.ble 137 pc then
  (bif Nat.ble 140 pc then
  (bif Nat.beq 140 pc then (.goto (-128), 3, [(0, 12)], [], 0, 0, 0, 140) else mm_nop) else (bif Nat.beq 137 pc then (.iinc 1 1, 3, [], [], 1, 1, 0, 137) else mm_nop)) else (bif Nat.ble 134 pc then
  (bif Nat.beq 134 pc then (.goto (-99), 3, [(0, 35)], [], 0, 0, 0, 134) else mm_nop) else (bif Nat.beq 131 pc then (.iinc 2 1, 3, [], [], 2, 1, 0, 131) else mm_nop))) else (bif Nat.ble 129 pc then
  (bif Nat.ble 130 pc then (.iastore, 1, [], [], 0, 0, 0, 130) else (.iaload, 1, [], [], 0, 0, 0, 129)) else (.iload_n 3, 1, [], [], 3, 0, 0, 128))) else (bif Nat.ble 120 pc then
  (bif Nat.ble 124 pc then
  (bif Nat.ble 125 pc then
  (bif Nat.beq 125 pc then (.getfield 32, 3, [(10, 7)], [[6105]], 0, 0, 0, 125) else mm_nop) else (.aload_n 0, 1, [], [], 0, 0, 0, 124)) else (bif Nat.ble 121 pc then
  (bif Nat.beq 121 pc then (.goto 9, 3, [(0, 130)], [], 0, 0, 0, 121) else mm_nop) else (.iconst 0, 1, [], [], 0, 0, 0, 120))) else (bif Nat.ble 116 pc then
  (bif Nat.ble 117 pc then
  (bif Nat.beq 117 pc then (.if_icmp .ne 7, 3, [(0, 124)], [], 0, 0, 0, 117) else mm_nop) else (.iconst (-1), 1, [], [], 0, (-1), 0, 116)) else (.iload_n 3, 1, [], [], 3, 0, 0, 115)))) else (bif Nat.ble 104 pc then
  (bif Nat.ble 111 pc then
  (bif Nat.ble 113 pc then
  (bif Nat.ble 114 pc then (.iadd, 1, [], [], 0, 0, 0, 114) else (.iload_n 2, 1, [], [], 2, 0, 0, 113)) else (bif Nat.ble 112 pc then (.imul, 1, [], [], 0, 0, 0, 112) else (.iload_n 1, 1, [], [], 1, 0, 0, 111))) else (bif Nat.ble 105 pc then
  (bif Nat.ble 108 pc then
  (bif Nat.beq 108 pc then (.sipush 200, 3, [], [], 0, 200, 0, 108) else mm_nop) else (bif Nat.beq 105 pc then (.getfield 96, 3, [(10, 30)], [[6128]], 0, 0, 0, 105) else mm_nop)) else (.aload_n 0, 1, [], [], 0, 0, 0, 104))) else (bif Nat.ble 98 pc then
  (bif Nat.ble 102 pc then
  (bif Nat.ble 103 pc then (.iastore, 1, [], [], 0, 0, 0, 103) else (.iaload, 1, [], [], 0, 0, 0, 102)) else (bif Nat.ble 101 pc then (.iload_n 3, 1, [], [], 3, 0, 0, 101) else (bif Nat.beq 98 pc then (.getfield 29, 3, [(10, 6)], [[6104]], 0, 0, 0, 98) else mm_nop))) else (bif Nat.ble 94 pc then
  (bif Nat.ble 97 pc then (.aload_n 0, 1, [], [], 0, 0, 0, 97) else (bif Nat.beq 94 pc then (.goto 9, 3, [(0, 103)], [], 0, 0, 0, 94) else mm_nop)) else (.iconst 0, 1, [], [], 0, 0, 0, 93)))))) else (bif Nat.ble 49 pc then
  (bif Nat.ble 71 pc then
  (bif Nat.ble 84 pc then
  (bif Nat.ble 87 pc then
  (bif Nat.ble 89 pc then
  (bif Nat.ble 90 pc then
  (bif Nat.beq 90 pc then (.if_icmp .ne 7, 3, [(0, 97)], [], 0, 0, 0, 90) else mm_nop) else (.iconst (-1), 1, [], [], 0, (-1), 0, 89)) else (bif Nat.ble 88 pc then (.iload_n 3, 1, [], [], 3, 0, 0, 88) else (.iadd, 1, [], [], 0, 0, 0, 87))) else (bif Nat.ble 85 pc then
  (bif Nat.ble 86 pc then (.iload_n 2, 1, [], [], 2, 0, 0, 86) else (.imul, 1, [], [], 0, 0, 0, 85)) else (.iload_n 1, 1, [], [], 1, 0, 0, 84))) else (bif Nat.ble 76 pc then
  (bif Nat.ble 78 pc then
  (bif Nat.ble 81 pc then
  (bif Nat.beq 81 pc then (.sipush 200, 3, [], [], 0, 200, 0, 81) else mm_nop) else (bif Nat.beq 78 pc then (.getfield 93, 3, [(10, 29)], [[6127]], 0, 0, 0, 78) else mm_nop)) else (bif Nat.ble 77 pc then (.aload_n 0, 1, [], [], 0, 0, 0, 77) else (.iastore, 1, [], [], 0, 0, 0, 76))) else (bif Nat.ble 74 pc then
  (bif Nat.ble 75 pc then (.iaload, 1, [], [], 0, 0, 0, 75) else (.iload_n 3, 1, [], [], 3, 0, 0, 74)) else (bif Nat.beq 71 pc then (.getfield 26, 3, [(10, 5)], [[6103]], 0, 0, 0, 71) else mm_nop)))) else (bif Nat.ble 60 pc then
  (bif Nat.ble 63 pc then
  (bif Nat.ble 67 pc then
  (bif Nat.ble 70 pc then (.aload_n 0, 1, [], [], 0, 0, 0, 70) else (bif Nat.beq 67 pc then (.goto 9, 3, [(0, 76)], [], 0, 0, 0, 67) else mm_nop)) else (bif Nat.ble 66 pc then (.iconst 0, 1, [], [], 0, 0, 0, 66) else (bif Nat.beq 63 pc then (.if_icmp .ne 7, 3, [(0, 70)], [], 0, 0, 0, 63) else mm_nop))) else (bif Nat.ble 61 pc then
  (bif Nat.ble 62 pc then (.iconst (-1), 1, [], [], 0, (-1), 0, 62) else (.iload_n 3, 1, [], [], 3, 0, 0, 61)) else (.iadd, 1, [], [], 0, 0, 0, 60))) else (bif Nat.ble 54 pc then
  (bif Nat.ble 58 pc then
  (bif Nat.ble 59 pc then (.iload_n 2, 1, [], [], 2, 0, 0, 59) else (.imul, 1, [], [], 0, 0, 0, 58)) else (bif Nat.ble 57 pc then (.iload_n 1, 1, [], [], 1, 0, 0, 57) else (bif Nat.beq 54 pc then (.sipush 200, 3, [], [], 0, 200, 0, 54) else mm_nop))) else (bif Nat.ble 50 pc then
  (bif Nat.ble 51 pc then
  (bif Nat.beq 51 pc then (.getfield 90, 3, [(10, 28)], [[6126]], 0, 0, 0, 51) else mm_nop) else (.aload_n 0, 1, [], [], 0, 0, 0, 50)) else (.istore_n 3, 1, [], [], 3, 0, 0, 49))))) else (bif Nat.ble 25 pc then
  (bif Nat.ble 36 pc then
  (bif Nat.ble 43 pc then
  (bif Nat.ble 47 pc then
  (bif Nat.ble 48 pc then (.iaload, 1, [], [], 0, 0, 0, 48) else (.iload_n 2, 1, [], [], 2, 0, 0, 47)) else (bif Nat.ble 44 pc then
  (bif Nat.beq 44 pc then (.getfield 81, 3, [(10, 25)], [[6123]], 0, 0, 0, 44) else mm_nop) else (.aload_n 0, 1, [], [], 0, 0, 0, 43))) else (bif Nat.ble 37 pc then
  (bif Nat.ble 40 pc then
  (bif Nat.beq 40 pc then (.if_icmp .ge 97, 3, [(0, 137)], [], 0, 0, 0, 40) else mm_nop) else (bif Nat.beq 37 pc then (.getfield 213, 3, [(10, 13)], [[6111]], 0, 0, 0, 37) else mm_nop)) else (.aload_n 0, 1, [], [], 0, 0, 0, 36))) else (bif Nat.ble 30 pc then
  (bif Nat.ble 34 pc then
  (bif Nat.ble 35 pc then (.iload_n 2, 1, [], [], 2, 0, 0, 35) else (.istore_n 2, 1, [], [], 2, 0, 0, 34)) else (bif Nat.ble 33 pc then (.iconst 0, 1, [], [], 0, 0, 0, 33) else (bif Nat.beq 30 pc then (.invokevirtual 252, 3, [(10, 194)], [[7154, 7156, 1031, 2015]], 1, 0, 0, 30) else mm_nop))) else (bif Nat.ble 28 pc then
  (bif Nat.ble 29 pc then (.iload_n 1, 1, [], [], 1, 0, 0, 29) else (.aload_n 0, 1, [], [], 0, 0, 0, 28)) else (bif Nat.beq 25 pc then (.ifCond .eq 112, 3, [(0, 137)], [], 0, 0, 0, 25) else mm_nop)))) else (bif Nat.ble 12 pc then
  (bif Nat.ble 17 pc then
  (bif Nat.ble 21 pc then
  (bif Nat.ble 22 pc then
  (bif Nat.beq 22 pc then (.invokevirtual 265, 3, [(10, 200)], [[7202, 7204, 1040, 2015]], 1, 0, 0, 22) else mm_nop) else (.iload_n 1, 1, [], [], 1, 0, 0, 21)) else (bif Nat.ble 20 pc then (.aload_n 0, 1, [], [], 0, 0, 0, 20) else (bif Nat.beq 17 pc then (.if_icmp .ge 126, 3, [(0, 143)], [], 0, 0, 0, 17) else mm_nop))) else (bif Nat.ble 13 pc then
  (bif Nat.ble 14 pc then
  (bif Nat.beq 14 pc then (.getfield 216, 3, [(10, 20)], [[6118]], 0, 0, 0, 14) else mm_nop) else (.aload_n 0, 1, [], [], 0, 0, 0, 13)) else (.iload_n 1, 1, [], [], 1, 0, 0, 12))) else (bif Nat.ble 7 pc then
  (bif Nat.ble 10 pc then
  (bif Nat.ble 11 pc then (.istore_n 1, 1, [], [], 1, 0, 0, 11) else (.iconst 0, 1, [], [], 0, 0, 0, 10)) else (bif Nat.ble 9 pc then (.ireturn, 1, [], [], 0, 0, 0, 9) else (bif Nat.beq 7 pc then (.bipush (-3), 2, [], [], 0, (-3), 0, 7) else mm_nop))) else (bif Nat.ble 1 pc then
  (bif Nat.ble 4 pc then
  (bif Nat.beq 4 pc then (.ifCond .eq 6, 3, [(0, 10)], [], 0, 0, 0, 4) else mm_nop) else (bif Nat.beq 1 pc then (.invokevirtual 290, 3, [(10, 202)], [[7218, 7199, 7200, 2015]], 0, 0, 0, 1) else mm_nop)) else (.aload_n 0, 1, [], [], 0, 0, 0, 0)))))))
def mm_k208 : List mm_E := (List.range 192).map mm_f208
def mm_m208 : mm_M := (yX12_findCopies, cX12_findCopies, 4, (some .int), mm_k208, 0, 0, 0, 7217)
/-- TypeCopierModel.copies.()I -/
def mm_f209 : Nat → mm_E := fun pc => (bif Nat.ble 1 pc then
  (bif Nat.ble 4 pc then (.ireturn, 1, [], [], 0, 0, 0, 4) else (bif Nat.beq 1 pc then (.invokevirtual 297, 3, [(10, 208)], [[7214, 7216, 1042, 2015]], 0, 0, 0, 1) else mm_nop)) else (.aload_n 0, 1, [], [], 0, 0, 0, 0))
def mm_k209 : List mm_E := (List.range 5).map mm_f209
def mm_m209 : mm_M := (yX12_copies, cX12_copies, 1, (some .int), mm_k209, 0, 0, 0, 7213)
/-- TypeCopierModel.copy.(II)I -/
def mm_f210 : Nat → mm_E := fun pc => (bif Nat.ble 122 pc then
  (bif Nat.ble 169 pc then
  (bif Nat.ble 189 pc then
  (bif Nat.ble 200 pc then
  (bif Nat.ble 206 pc then
  (bif Nat.ble 210 pc then
  (bif Nat.ble 213 pc then (.ireturn, 1, [], [], 0, 0, 0, 213) else (bif Nat.beq 210 pc then (.invokevirtual 255, 3, [(10, 182)], [[7178, 7180, 1037, 2015]], 2, 0, 0, 210) else mm_nop)) else (bif Nat.ble 209 pc then (.iconst 1, 1, [], [], 0, 1, 0, 209) else (bif Nat.beq 206 pc then (.invokevirtual 239, 3, [(10, 181)], [[7174, 7176, 1036, 2015]], 3, 0, 0, 206) else mm_nop))) else (bif Nat.ble 204 pc then
  (bif Nat.ble 205 pc then (.iaload, 1, [], [], 0, 0, 0, 205) else (.iload_n 1, 1, [], [], 1, 0, 0, 204)) else (bif Nat.ble 201 pc then
  (bif Nat.beq 201 pc then (.getfield 105, 3, [(10, 34)], [[6132]], 0, 0, 0, 201) else mm_nop) else (.aload_n 0, 1, [], [], 0, 0, 0, 200)))) else (bif Nat.ble 194 pc then
  (bif Nat.ble 198 pc then
  (bif Nat.ble 199 pc then (.iaload, 1, [], [], 0, 0, 0, 199) else (.iload_n 1, 1, [], [], 1, 0, 0, 198)) else (bif Nat.ble 195 pc then
  (bif Nat.beq 195 pc then (.getfield 102, 3, [(10, 33)], [[6131]], 0, 0, 0, 195) else mm_nop) else (.aload_n 0, 1, [], [], 0, 0, 0, 194))) else (bif Nat.ble 192 pc then
  (bif Nat.ble 193 pc then (.iaload, 1, [], [], 0, 0, 0, 193) else (.iload_n 3, 1, [], [], 3, 0, 0, 192)) else (bif Nat.beq 189 pc then (.getfield 72, 3, [(10, 22)], [[6120]], 0, 0, 0, 189) else mm_nop)))) else (bif Nat.ble 180 pc then
  (bif Nat.ble 185 pc then
  (bif Nat.ble 187 pc then
  (bif Nat.ble 188 pc then (.aload_n 0, 1, [], [], 0, 0, 0, 188) else (.aload_n 0, 1, [], [], 0, 0, 0, 187)) else (bif Nat.ble 186 pc then (.aload_n 0, 1, [], [], 0, 0, 0, 186) else (.ireturn, 1, [], [], 0, 0, 0, 185))) else (bif Nat.ble 181 pc then
  (bif Nat.ble 184 pc then (.iaload, 1, [], [], 0, 0, 0, 184) else (bif Nat.beq 181 pc then (.invokevirtual 239, 3, [(10, 181)], [[7174, 7176, 1036, 2015]], 3, 0, 0, 181) else mm_nop)) else (.iaload, 1, [], [], 0, 0, 0, 180))) else (bif Nat.ble 174 pc then
  (bif Nat.ble 176 pc then
  (bif Nat.ble 179 pc then (.iload_n 1, 1, [], [], 1, 0, 0, 179) else (bif Nat.beq 176 pc then (.getfield 105, 3, [(10, 34)], [[6132]], 0, 0, 0, 176) else mm_nop)) else (bif Nat.ble 175 pc then (.aload_n 0, 1, [], [], 0, 0, 0, 175) else (.iaload, 1, [], [], 0, 0, 0, 174))) else (bif Nat.ble 170 pc then
  (bif Nat.ble 173 pc then (.iload_n 1, 1, [], [], 1, 0, 0, 173) else (bif Nat.beq 170 pc then (.getfield 102, 3, [(10, 33)], [[6131]], 0, 0, 0, 170) else mm_nop)) else (.aload_n 0, 1, [], [], 0, 0, 0, 169))))) else (bif Nat.ble 146 pc then
  (bif Nat.ble 157 pc then
  (bif Nat.ble 163 pc then
  (bif Nat.ble 167 pc then
  (bif Nat.ble 168 pc then (.iaload, 1, [], [], 0, 0, 0, 168) else (.iload_n 3, 1, [], [], 3, 0, 0, 167)) else (bif Nat.ble 164 pc then
  (bif Nat.beq 164 pc then (.getfield 75, 3, [(10, 23)], [[6121]], 0, 0, 0, 164) else mm_nop) else (.aload_n 0, 1, [], [], 0, 0, 0, 163))) else (bif Nat.ble 159 pc then
  (bif Nat.ble 162 pc then (.aload_n 0, 1, [], [], 0, 0, 0, 162) else (bif Nat.beq 159 pc then (.getfield 35, 3, [(10, 8)], [[6106]], 0, 0, 0, 159) else mm_nop)) else (bif Nat.ble 158 pc then (.aload_n 0, 1, [], [], 0, 0, 0, 158) else (.ireturn, 1, [], [], 0, 0, 0, 157)))) else (bif Nat.ble 151 pc then
  (bif Nat.ble 153 pc then
  (bif Nat.ble 156 pc then (.iaload, 1, [], [], 0, 0, 0, 156) else (bif Nat.beq 153 pc then (.invokevirtual 239, 3, [(10, 181)], [[7174, 7176, 1036, 2015]], 3, 0, 0, 153) else mm_nop)) else (bif Nat.ble 152 pc then (.iaload, 1, [], [], 0, 0, 0, 152) else (.iload_n 1, 1, [], [], 1, 0, 0, 151))) else (bif Nat.ble 147 pc then
  (bif Nat.ble 148 pc then
  (bif Nat.beq 148 pc then (.getfield 105, 3, [(10, 34)], [[6132]], 0, 0, 0, 148) else mm_nop) else (.aload_n 0, 1, [], [], 0, 0, 0, 147)) else (.iaload, 1, [], [], 0, 0, 0, 146)))) else (bif Nat.ble 135 pc then
  (bif Nat.ble 140 pc then
  (bif Nat.ble 142 pc then
  (bif Nat.ble 145 pc then (.iload_n 1, 1, [], [], 1, 0, 0, 145) else (bif Nat.beq 142 pc then (.getfield 102, 3, [(10, 33)], [[6131]], 0, 0, 0, 142) else mm_nop)) else (bif Nat.ble 141 pc then (.aload_n 0, 1, [], [], 0, 0, 0, 141) else (.iaload, 1, [], [], 0, 0, 0, 140))) else (bif Nat.ble 136 pc then
  (bif Nat.ble 139 pc then (.iload_n 3, 1, [], [], 3, 0, 0, 139) else (bif Nat.beq 136 pc then (.getfield 72, 3, [(10, 22)], [[6120]], 0, 0, 0, 136) else mm_nop)) else (.aload_n 0, 1, [], [], 0, 0, 0, 135))) else (bif Nat.ble 129 pc then
  (bif Nat.ble 131 pc then
  (bif Nat.ble 134 pc then (.aload_n 0, 1, [], [], 0, 0, 0, 134) else (bif Nat.beq 131 pc then (.getfield 35, 3, [(10, 8)], [[6106]], 0, 0, 0, 131) else mm_nop)) else (bif Nat.ble 130 pc then (.aload_n 0, 1, [], [], 0, 0, 0, 130) else (.ireturn, 1, [], [], 0, 0, 0, 129))) else (bif Nat.ble 125 pc then
  (bif Nat.ble 126 pc then
  (bif Nat.beq 126 pc then (.invokevirtual 255, 3, [(10, 182)], [[7178, 7180, 1037, 2015]], 2, 0, 0, 126) else mm_nop) else (.iconst 0, 1, [], [], 0, 0, 0, 125)) else (bif Nat.beq 122 pc then (.goto 4, 3, [(0, 126)], [], 0, 0, 0, 122) else mm_nop)))))) else (bif Nat.ble 77 pc then
  (bif Nat.ble 99 pc then
  (bif Nat.ble 110 pc then
  (bif Nat.ble 116 pc then
  (bif Nat.ble 118 pc then
  (bif Nat.ble 121 pc then (.iconst 1, 1, [], [], 0, 1, 0, 121) else (bif Nat.beq 118 pc then (.if_icmp .eq 7, 3, [(0, 125)], [], 0, 0, 0, 118) else mm_nop)) else (bif Nat.ble 117 pc then (.iconst (-1), 1, [], [], 0, (-1), 0, 117) else (.iaload, 1, [], [], 0, 0, 0, 116))) else (bif Nat.ble 112 pc then
  (bif Nat.ble 115 pc then (.iload_n 1, 1, [], [], 1, 0, 0, 115) else (bif Nat.beq 112 pc then (.getfield 105, 3, [(10, 34)], [[6132]], 0, 0, 0, 112) else mm_nop)) else (bif Nat.ble 111 pc then (.aload_n 0, 1, [], [], 0, 0, 0, 111) else (.iaload, 1, [], [], 0, 0, 0, 110)))) else (bif Nat.ble 104 pc then
  (bif Nat.ble 106 pc then
  (bif Nat.ble 109 pc then (.iload_n 1, 1, [], [], 1, 0, 0, 109) else (bif Nat.beq 106 pc then (.getfield 105, 3, [(10, 34)], [[6132]], 0, 0, 0, 106) else mm_nop)) else (bif Nat.ble 105 pc then (.aload_n 0, 1, [], [], 0, 0, 0, 105) else (.aload_n 0, 1, [], [], 0, 0, 0, 104))) else (bif Nat.ble 100 pc then
  (bif Nat.ble 103 pc then (.ireturn, 1, [], [], 0, 0, 0, 103) else (bif Nat.beq 100 pc then (.invokevirtual 255, 3, [(10, 182)], [[7178, 7180, 1037, 2015]], 2, 0, 0, 100) else mm_nop)) else (.iconst 0, 1, [], [], 0, 0, 0, 99)))) else (bif Nat.ble 86 pc then
  (bif Nat.ble 91 pc then
  (bif Nat.ble 95 pc then
  (bif Nat.ble 96 pc then
  (bif Nat.beq 96 pc then (.goto 4, 3, [(0, 100)], [], 0, 0, 0, 96) else mm_nop) else (.iconst 1, 1, [], [], 0, 1, 0, 95)) else (bif Nat.ble 92 pc then
  (bif Nat.beq 92 pc then (.if_icmp .eq 7, 3, [(0, 99)], [], 0, 0, 0, 92) else mm_nop) else (.iconst (-1), 1, [], [], 0, (-1), 0, 91))) else (bif Nat.ble 89 pc then
  (bif Nat.ble 90 pc then (.iaload, 1, [], [], 0, 0, 0, 90) else (.iload_n 1, 1, [], [], 1, 0, 0, 89)) else (bif Nat.beq 86 pc then (.getfield 102, 3, [(10, 33)], [[6131]], 0, 0, 0, 86) else mm_nop))) else (bif Nat.ble 80 pc then
  (bif Nat.ble 84 pc then
  (bif Nat.ble 85 pc then (.aload_n 0, 1, [], [], 0, 0, 0, 85) else (.iaload, 1, [], [], 0, 0, 0, 84)) else (bif Nat.ble 83 pc then (.iload_n 1, 1, [], [], 1, 0, 0, 83) else (bif Nat.beq 80 pc then (.getfield 102, 3, [(10, 33)], [[6131]], 0, 0, 0, 80) else mm_nop))) else (bif Nat.ble 78 pc then
  (bif Nat.ble 79 pc then (.aload_n 0, 1, [], [], 0, 0, 0, 79) else (.aload_n 0, 1, [], [], 0, 0, 0, 78)) else (.ireturn, 1, [], [], 0, 0, 0, 77))))) else (bif Nat.ble 25 pc then
  (bif Nat.ble 36 pc then
  (bif Nat.ble 41 pc then
  (bif Nat.ble 43 pc then
  (bif Nat.ble 76 pc then (.iload_n 3, 1, [], [], 3, 0, 0, 76) else (bif Nat.beq 43 pc then (.tableswitch 143 0 4 #[33, 35, 61, 87, 115], 33, [(0, 186), (0, 76), (1, 78), (2, 104), (3, 130), (4, 158)], [], 0, 0, 0, 43) else mm_nop)) else (bif Nat.ble 42 pc then (.iload_n 2, 1, [], [], 2, 0, 0, 42) else (.istore_n 3, 1, [], [], 3, 0, 0, 41))) else (bif Nat.ble 39 pc then
  (bif Nat.ble 40 pc then (.iaload, 1, [], [], 0, 0, 0, 40) else (.iload_n 1, 1, [], [], 1, 0, 0, 39)) else (bif Nat.beq 36 pc then (.getfield 99, 3, [(10, 32)], [[6130]], 0, 0, 0, 36) else mm_nop))) else (bif Nat.ble 30 pc then
  (bif Nat.ble 34 pc then
  (bif Nat.ble 35 pc then (.aload_n 0, 1, [], [], 0, 0, 0, 35) else (.ireturn, 1, [], [], 0, 0, 0, 34)) else (bif Nat.ble 33 pc then (.iconst (-1), 1, [], [], 0, (-1), 0, 33) else (bif Nat.beq 30 pc then (.ifCond .ne 5, 3, [(0, 35)], [], 0, 0, 0, 30) else mm_nop))) else (bif Nat.ble 26 pc then
  (bif Nat.ble 27 pc then
  (bif Nat.beq 27 pc then (.invokestatic 193, 3, [(0, 164)], [[7069, 7070, 2015]], 3, 0, 0, 27) else mm_nop) else (.isub, 1, [], [], 0, 0, 0, 26)) else (.iconst 1, 1, [], [], 0, 1, 0, 25)))) else (bif Nat.ble 12 pc then
  (bif Nat.ble 19 pc then
  (bif Nat.ble 21 pc then
  (bif Nat.ble 22 pc then
  (bif Nat.beq 22 pc then (.getfield 278, 3, [(10, 31)], [[6129]], 0, 0, 0, 22) else mm_nop) else (.aload_n 0, 1, [], [], 0, 0, 0, 21)) else (bif Nat.ble 20 pc then (.iconst 0, 1, [], [], 0, 0, 0, 20) else (.iload_n 1, 1, [], [], 1, 0, 0, 19))) else (bif Nat.ble 13 pc then
  (bif Nat.ble 16 pc then
  (bif Nat.beq 16 pc then (.ifCond .lt 17, 3, [(0, 33)], [], 0, 0, 0, 16) else mm_nop) else (bif Nat.beq 13 pc then (.invokevirtual 297, 3, [(10, 208)], [[7214, 7216, 1042, 2015]], 0, 0, 0, 13) else mm_nop)) else (.aload_n 0, 1, [], [], 0, 0, 0, 12))) else (bif Nat.ble 3 pc then
  (bif Nat.ble 9 pc then
  (bif Nat.ble 11 pc then (.ireturn, 1, [], [], 0, 0, 0, 11) else (bif Nat.beq 9 pc then (.bipush (-2), 2, [], [], 0, (-2), 0, 9) else mm_nop)) else (bif Nat.ble 6 pc then
  (bif Nat.beq 6 pc then (.ifCond .ne 6, 3, [(0, 12)], [], 0, 0, 0, 6) else mm_nop) else (bif Nat.beq 3 pc then (.invokestatic 193, 3, [(0, 164)], [[7069, 7070, 2015]], 3, 0, 0, 3) else mm_nop))) else (bif Nat.ble 1 pc then
  (bif Nat.ble 2 pc then (.iconst 5, 1, [], [], 0, 5, 0, 2) else (.iconst 0, 1, [], [], 0, 0, 0, 1)) else (.iload_n 2, 1, [], [], 2, 0, 0, 0)))))))
def mm_k210 : List mm_E := (List.range 214).map mm_f210
def mm_m210 : mm_M := (yX12_copy, cX12_copy, 4, (some .int), mm_k210, 2, 0, 0, 8002)
/-- TypeCopierModel.input.(I)I -/
def mm_f211 : Nat → mm_E := fun pc => (bif Nat.ble 20 pc then
  (bif Nat.ble 27 pc then
  (bif Nat.ble 32 pc then
  (bif Nat.ble 33 pc then
  (bif Nat.ble 36 pc then (.ireturn, 1, [], [], 0, 0, 0, 36) else (bif Nat.beq 33 pc then (.getfield 300, 3, [(10, 41)], [[6139]], 0, 0, 0, 33) else mm_nop)) else (.aload_n 0, 1, [], [], 0, 0, 0, 32)) else (bif Nat.ble 28 pc then
  (bif Nat.ble 29 pc then
  (bif Nat.beq 29 pc then (.putfield 300, 3, [(10, 41)], [[6139]], 0, 0, 0, 29) else mm_nop) else (.iadd, 1, [], [], 0, 0, 0, 28)) else (.iconst 1, 1, [], [], 0, 1, 0, 27))) else (bif Nat.ble 22 pc then
  (bif Nat.ble 23 pc then
  (bif Nat.ble 24 pc then
  (bif Nat.beq 24 pc then (.getfield 300, 3, [(10, 41)], [[6139]], 0, 0, 0, 24) else mm_nop) else (.dup, 1, [], [], 0, 0, 0, 23)) else (.aload_n 0, 1, [], [], 0, 0, 0, 22)) else (bif Nat.ble 21 pc then (.iastore, 1, [], [], 0, 0, 0, 21) else (.iload_n 1, 1, [], [], 1, 0, 0, 20)))) else (bif Nat.ble 11 pc then
  (bif Nat.ble 13 pc then
  (bif Nat.ble 16 pc then
  (bif Nat.ble 17 pc then
  (bif Nat.beq 17 pc then (.getfield 300, 3, [(10, 41)], [[6139]], 0, 0, 0, 17) else mm_nop) else (.aload_n 0, 1, [], [], 0, 0, 0, 16)) else (bif Nat.beq 13 pc then (.getfield 120, 3, [(10, 40)], [[6138]], 0, 0, 0, 13) else mm_nop)) else (bif Nat.ble 12 pc then (.aload_n 0, 1, [], [], 0, 0, 0, 12) else (.ireturn, 1, [], [], 0, 0, 0, 11))) else (bif Nat.ble 4 pc then
  (bif Nat.ble 6 pc then
  (bif Nat.ble 9 pc then
  (bif Nat.beq 9 pc then (.bipush (-4), 2, [], [], 0, (-4), 0, 9) else mm_nop) else (bif Nat.beq 6 pc then (.if_icmp .ne 6, 3, [(0, 12)], [], 0, 0, 0, 6) else mm_nop)) else (bif Nat.beq 4 pc then (.bipush 16, 2, [], [], 0, 16, 0, 4) else mm_nop)) else (bif Nat.ble 1 pc then
  (bif Nat.beq 1 pc then (.getfield 300, 3, [(10, 41)], [[6139]], 0, 0, 0, 1) else mm_nop) else (.aload_n 0, 1, [], [], 0, 0, 0, 0)))))
def mm_k211 : List mm_E := (List.range 37).map mm_f211
def mm_m211 : mm_M := (yX12_input, cX12_input, 2, (some .int), mm_k211, 1, 0, 0, 8006)
/-- TypeCopierModel.empty.()I -/
def mm_f212 : Nat → mm_E := fun pc => (bif Nat.ble 6 pc then
  (bif Nat.ble 10 pc then
  (bif Nat.ble 11 pc then (.ireturn, 1, [], [], 0, 0, 0, 11) else (.iload_n 1, 1, [], [], 1, 0, 0, 10)) else (bif Nat.ble 7 pc then
  (bif Nat.beq 7 pc then (.putfield 300, 3, [(10, 41)], [[6139]], 0, 0, 0, 7) else mm_nop) else (.iconst 0, 1, [], [], 0, 0, 0, 6))) else (bif Nat.ble 4 pc then
  (bif Nat.ble 5 pc then (.aload_n 0, 1, [], [], 0, 0, 0, 5) else (.istore_n 1, 1, [], [], 1, 0, 0, 4)) else (bif Nat.ble 1 pc then
  (bif Nat.beq 1 pc then (.getfield 300, 3, [(10, 41)], [[6139]], 0, 0, 0, 1) else mm_nop) else (.aload_n 0, 1, [], [], 0, 0, 0, 0))))
def mm_k212 : List mm_E := (List.range 12).map mm_f212
def mm_m212 : mm_M := (yX12_empty, cX12_empty, 2, (some .int), mm_k212, 0, 0, 0, 8010)
/-- TypeCopierModel.cell.(II)I -/
def mm_f213 : Nat → mm_E := fun pc => (bif Nat.ble 19 pc then
  (bif Nat.ble 27 pc then
  (bif Nat.ble 34 pc then
  (bif Nat.ble 35 pc then
  (bif Nat.ble 36 pc then (.ireturn, 1, [], [], 0, 0, 0, 36) else (.isub, 1, [], [], 0, 0, 0, 35)) else (.iconst 1, 1, [], [], 0, 1, 0, 34)) else (bif Nat.ble 30 pc then
  (bif Nat.ble 31 pc then
  (bif Nat.beq 31 pc then (.getfield 303, 3, [(10, 43)], [[6141]], 0, 0, 0, 31) else mm_nop) else (.aload_n 0, 1, [], [], 0, 0, 0, 30)) else (bif Nat.beq 27 pc then (.putfield 303, 3, [(10, 43)], [[6141]], 0, 0, 0, 27) else mm_nop))) else (bif Nat.ble 22 pc then
  (bif Nat.ble 25 pc then
  (bif Nat.ble 26 pc then (.iadd, 1, [], [], 0, 0, 0, 26) else (.iconst 1, 1, [], [], 0, 1, 0, 25)) else (bif Nat.beq 22 pc then (.getfield 303, 3, [(10, 43)], [[6141]], 0, 0, 0, 22) else mm_nop)) else (bif Nat.ble 20 pc then
  (bif Nat.ble 21 pc then (.dup, 1, [], [], 0, 0, 0, 21) else (.aload_n 0, 1, [], [], 0, 0, 0, 20)) else (.iastore, 1, [], [], 0, 0, 0, 19)))) else (bif Nat.ble 9 pc then
  (bif Nat.ble 14 pc then
  (bif Nat.ble 15 pc then
  (bif Nat.ble 18 pc then (.iload_n 2, 1, [], [], 2, 0, 0, 18) else (bif Nat.beq 15 pc then (.getfield 303, 3, [(10, 43)], [[6141]], 0, 0, 0, 15) else mm_nop)) else (.aload_n 0, 1, [], [], 0, 0, 0, 14)) else (bif Nat.ble 10 pc then
  (bif Nat.ble 11 pc then
  (bif Nat.beq 11 pc then (.getfield 126, 3, [(10, 45)], [[6143]], 0, 0, 0, 11) else mm_nop) else (.aload_n 0, 1, [], [], 0, 0, 0, 10)) else (.iastore, 1, [], [], 0, 0, 0, 9))) else (bif Nat.ble 4 pc then
  (bif Nat.ble 5 pc then
  (bif Nat.ble 8 pc then (.iload_n 1, 1, [], [], 1, 0, 0, 8) else (bif Nat.beq 5 pc then (.getfield 303, 3, [(10, 43)], [[6141]], 0, 0, 0, 5) else mm_nop)) else (.aload_n 0, 1, [], [], 0, 0, 0, 4)) else (bif Nat.ble 1 pc then
  (bif Nat.beq 1 pc then (.getfield 123, 3, [(10, 44)], [[6142]], 0, 0, 0, 1) else mm_nop) else (.aload_n 0, 1, [], [], 0, 0, 0, 0)))))
def mm_k213 : List mm_E := (List.range 37).map mm_f213
def mm_m213 : mm_M := (yX12_cell, cX12_cell, 3, (some .int), mm_k213, 2, 0, 0, 8038)
/-- TypeCopierModel.nextInput.()I -/
def mm_f214 : Nat → mm_E := fun pc => (bif Nat.ble 20 pc then
  (bif Nat.ble 27 pc then
  (bif Nat.ble 32 pc then
  (bif Nat.ble 35 pc then
  (bif Nat.ble 36 pc then (.ireturn, 1, [], [], 0, 0, 0, 36) else (.iload_n 1, 1, [], [], 1, 0, 0, 35)) else (bif Nat.beq 32 pc then (.putfield 306, 3, [(10, 42)], [[6140]], 0, 0, 0, 32) else mm_nop)) else (bif Nat.ble 30 pc then
  (bif Nat.ble 31 pc then (.iadd, 1, [], [], 0, 0, 0, 31) else (.iconst 1, 1, [], [], 0, 1, 0, 30)) else (bif Nat.beq 27 pc then (.getfield 306, 3, [(10, 42)], [[6140]], 0, 0, 0, 27) else mm_nop))) else (bif Nat.ble 24 pc then
  (bif Nat.ble 25 pc then
  (bif Nat.ble 26 pc then (.dup, 1, [], [], 0, 0, 0, 26) else (.aload_n 0, 1, [], [], 0, 0, 0, 25)) else (.istore_n 1, 1, [], [], 1, 0, 0, 24)) else (bif Nat.ble 23 pc then (.iconst 0, 1, [], [], 0, 0, 0, 23) else (bif Nat.beq 20 pc then (.goto 4, 3, [(0, 24)], [], 0, 0, 0, 20) else mm_nop)))) else (bif Nat.ble 11 pc then
  (bif Nat.ble 15 pc then
  (bif Nat.ble 16 pc then
  (bif Nat.ble 19 pc then (.iaload, 1, [], [], 0, 0, 0, 19) else (bif Nat.beq 16 pc then (.getfield 306, 3, [(10, 42)], [[6140]], 0, 0, 0, 16) else mm_nop)) else (.aload_n 0, 1, [], [], 0, 0, 0, 15)) else (bif Nat.ble 12 pc then
  (bif Nat.beq 12 pc then (.getfield 120, 3, [(10, 40)], [[6138]], 0, 0, 0, 12) else mm_nop) else (.aload_n 0, 1, [], [], 0, 0, 0, 11))) else (bif Nat.ble 4 pc then
  (bif Nat.ble 5 pc then
  (bif Nat.ble 8 pc then
  (bif Nat.beq 8 pc then (.if_icmp .ge 15, 3, [(0, 23)], [], 0, 0, 0, 8) else mm_nop) else (bif Nat.beq 5 pc then (.getfield 300, 3, [(10, 41)], [[6139]], 0, 0, 0, 5) else mm_nop)) else (.aload_n 0, 1, [], [], 0, 0, 0, 4)) else (bif Nat.ble 1 pc then
  (bif Nat.beq 1 pc then (.getfield 306, 3, [(10, 42)], [[6140]], 0, 0, 0, 1) else mm_nop) else (.aload_n 0, 1, [], [], 0, 0, 0, 0)))))
def mm_k214 : List mm_E := (List.range 37).map mm_f214
def mm_m214 : mm_M := (yX12_nextInput, cX12_nextInput, 2, (some .int), mm_k214, 0, 0, 0, 8030)
/-- TypeCopierModel.beginRead.(II)V -/
def mm_f215 : Nat → mm_E := fun pc => (bif Nat.ble 34 pc then
  (bif Nat.ble 53 pc then
  (bif Nat.ble 62 pc then
  (bif Nat.ble 69 pc then
  (bif Nat.ble 70 pc then
  (bif Nat.ble 71 pc then (.return_, 1, [], [], 0, 0, 0, 71) else (.iastore, 1, [], [], 0, 0, 0, 70)) else (.iload_n 3, 1, [], [], 3, 0, 0, 69)) else (bif Nat.ble 65 pc then
  (bif Nat.ble 66 pc then
  (bif Nat.beq 66 pc then (.goto 4, 3, [(0, 70)], [], 0, 0, 0, 66) else mm_nop) else (.iconst 4, 1, [], [], 0, 4, 0, 65)) else (bif Nat.beq 62 pc then (.if_icmp .le 7, 3, [(0, 69)], [], 0, 0, 0, 62) else mm_nop))) else (bif Nat.ble 57 pc then
  (bif Nat.ble 60 pc then
  (bif Nat.ble 61 pc then (.iconst 4, 1, [], [], 0, 4, 0, 61) else (.iload_n 3, 1, [], [], 3, 0, 0, 60)) else (bif Nat.beq 57 pc then (.goto 13, 3, [(0, 70)], [], 0, 0, 0, 57) else mm_nop)) else (bif Nat.ble 56 pc then (.iconst 0, 1, [], [], 0, 0, 0, 56) else (bif Nat.beq 53 pc then (.ifCond .ge 7, 3, [(0, 60)], [], 0, 0, 0, 53) else mm_nop)))) else (bif Nat.ble 45 pc then
  (bif Nat.ble 48 pc then
  (bif Nat.ble 51 pc then
  (bif Nat.ble 52 pc then (.iload_n 3, 1, [], [], 3, 0, 0, 52) else (.iload_n 1, 1, [], [], 1, 0, 0, 51)) else (bif Nat.beq 48 pc then (.getfield 138, 3, [(10, 54)], [[6152]], 0, 0, 0, 48) else mm_nop)) else (bif Nat.ble 46 pc then
  (bif Nat.ble 47 pc then (.aload_n 0, 1, [], [], 0, 0, 0, 47) else (.istore_n 3, 1, [], [], 3, 0, 0, 46)) else (.iconst 0, 1, [], [], 0, 0, 0, 45))) else (bif Nat.ble 38 pc then
  (bif Nat.ble 39 pc then
  (bif Nat.ble 42 pc then
  (bif Nat.beq 42 pc then (.goto 4, 3, [(0, 46)], [], 0, 0, 0, 42) else mm_nop) else (bif Nat.beq 39 pc then (.invokevirtual 309, 3, [(10, 214)], [[8027, 8029, 1051, 2015]], 0, 0, 0, 39) else mm_nop)) else (.aload_n 0, 1, [], [], 0, 0, 0, 38)) else (bif Nat.ble 35 pc then
  (bif Nat.beq 35 pc then (.if_icmp .ne 10, 3, [(0, 45)], [], 0, 0, 0, 35) else mm_nop) else (.iconst 5, 1, [], [], 0, 5, 0, 34))))) else (bif Nat.ble 15 pc then
  (bif Nat.ble 24 pc then
  (bif Nat.ble 29 pc then
  (bif Nat.ble 32 pc then
  (bif Nat.ble 33 pc then (.iaload, 1, [], [], 0, 0, 0, 33) else (.iload_n 2, 1, [], [], 2, 0, 0, 32)) else (bif Nat.beq 29 pc then (.getfield 16, 3, [(10, 2)], [[6100]], 0, 0, 0, 29) else mm_nop)) else (bif Nat.ble 25 pc then
  (bif Nat.ble 28 pc then (.aload_n 0, 1, [], [], 0, 0, 0, 28) else (bif Nat.beq 25 pc then (.goto 21, 3, [(0, 46)], [], 0, 0, 0, 25) else mm_nop)) else (.iconst 2, 1, [], [], 0, 2, 0, 24))) else (bif Nat.ble 19 pc then
  (bif Nat.ble 20 pc then
  (bif Nat.ble 21 pc then
  (bif Nat.beq 21 pc then (.if_icmp .ne 7, 3, [(0, 28)], [], 0, 0, 0, 21) else mm_nop) else (.iconst 4, 1, [], [], 0, 4, 0, 20)) else (.iaload, 1, [], [], 0, 0, 0, 19)) else (bif Nat.ble 18 pc then (.iload_n 2, 1, [], [], 2, 0, 0, 18) else (bif Nat.beq 15 pc then (.getfield 16, 3, [(10, 2)], [[6100]], 0, 0, 0, 15) else mm_nop)))) else (bif Nat.ble 7 pc then
  (bif Nat.ble 12 pc then
  (bif Nat.ble 13 pc then
  (bif Nat.ble 14 pc then (.aload_n 0, 1, [], [], 0, 0, 0, 14) else (.iastore, 1, [], [], 0, 0, 0, 13)) else (.iconst 0, 1, [], [], 0, 0, 0, 12)) else (bif Nat.ble 8 pc then
  (bif Nat.ble 11 pc then (.iload_n 1, 1, [], [], 1, 0, 0, 11) else (bif Nat.beq 8 pc then (.getfield 141, 3, [(10, 55)], [[6153]], 0, 0, 0, 8) else mm_nop)) else (.aload_n 0, 1, [], [], 0, 0, 0, 7))) else (bif Nat.ble 4 pc then
  (bif Nat.ble 5 pc then
  (bif Nat.ble 6 pc then (.iastore, 1, [], [], 0, 0, 0, 6) else (.iload_n 2, 1, [], [], 2, 0, 0, 5)) else (.iload_n 1, 1, [], [], 1, 0, 0, 4)) else (bif Nat.ble 1 pc then
  (bif Nat.beq 1 pc then (.getfield 135, 3, [(10, 53)], [[6151]], 0, 0, 0, 1) else mm_nop) else (.aload_n 0, 1, [], [], 0, 0, 0, 0))))))
def mm_k215 : List mm_E := (List.range 72).map mm_f215
def mm_m215 : mm_M := (yX12_beginRead, cX12_beginRead, 4, none, mm_k215, 2, 0, 0, 8026)
/-- TypeCopierModel.endRead.(I)I -/
def mm_f216 : Nat → mm_E := fun pc => (bif Nat.ble 62 pc then
  (bif Nat.ble 87 pc then
  (bif Nat.ble 102 pc then
  (bif Nat.ble 110 pc then
  (bif Nat.ble 114 pc then
  (bif Nat.ble 117 pc then
  (bif Nat.ble 118 pc then (.ireturn, 1, [], [], 0, 0, 0, 118) else (.iload_n 3, 1, [], [], 3, 0, 0, 117)) else (bif Nat.beq 114 pc then (.goto (-25), 3, [(0, 89)], [], 0, 0, 0, 114) else mm_nop)) else (bif Nat.ble 111 pc then
  (bif Nat.beq 111 pc then (.iinc 4 (-1), 3, [], [], 4, (-1), 0, 111) else mm_nop) else (.istore_n 3, 1, [], [], 3, 0, 0, 110))) else (bif Nat.ble 105 pc then
  (bif Nat.ble 106 pc then
  (bif Nat.ble 107 pc then
  (bif Nat.beq 107 pc then (.invokevirtual 312, 3, [(10, 213)], [[8035, 8037, 1053, 2015]], 2, 0, 0, 107) else mm_nop) else (.iload_n 3, 1, [], [], 3, 0, 0, 106)) else (.iaload, 1, [], [], 0, 0, 0, 105)) else (bif Nat.ble 104 pc then (.iadd, 1, [], [], 0, 0, 0, 104) else (bif Nat.beq 102 pc then (.iload 4, 2, [], [], 4, 0, 0, 102) else mm_nop)))) else (bif Nat.ble 95 pc then
  (bif Nat.ble 99 pc then
  (bif Nat.ble 100 pc then
  (bif Nat.ble 101 pc then (.imul, 1, [], [], 0, 0, 0, 101) else (.iload_n 1, 1, [], [], 1, 0, 0, 100)) else (.iconst 5, 1, [], [], 0, 5, 0, 99)) else (bif Nat.ble 96 pc then
  (bif Nat.beq 96 pc then (.getfield 144, 3, [(10, 56)], [[6154]], 0, 0, 0, 96) else mm_nop) else (.aload_n 0, 1, [], [], 0, 0, 0, 95))) else (bif Nat.ble 91 pc then
  (bif Nat.ble 94 pc then (.aload_n 0, 1, [], [], 0, 0, 0, 94) else (bif Nat.beq 91 pc then (.ifCond .lt 26, 3, [(0, 117)], [], 0, 0, 0, 91) else mm_nop)) else (bif Nat.ble 89 pc then
  (bif Nat.beq 89 pc then (.iload 4, 2, [], [], 4, 0, 0, 89) else mm_nop) else (bif Nat.beq 87 pc then (.istore 4, 2, [], [], 4, 0, 0, 87) else mm_nop))))) else (bif Nat.ble 73 pc then
  (bif Nat.ble 80 pc then
  (bif Nat.ble 84 pc then
  (bif Nat.ble 85 pc then
  (bif Nat.ble 86 pc then (.isub, 1, [], [], 0, 0, 0, 86) else (.iconst 1, 1, [], [], 0, 1, 0, 85)) else (.iaload, 1, [], [], 0, 0, 0, 84)) else (bif Nat.ble 83 pc then (.iload_n 1, 1, [], [], 1, 0, 0, 83) else (bif Nat.beq 80 pc then (.getfield 138, 3, [(10, 54)], [[6152]], 0, 0, 0, 80) else mm_nop))) else (bif Nat.ble 77 pc then
  (bif Nat.ble 78 pc then
  (bif Nat.ble 79 pc then (.aload_n 0, 1, [], [], 0, 0, 0, 79) else (.istore_n 3, 1, [], [], 3, 0, 0, 78)) else (.iconst (-1), 1, [], [], 0, (-1), 0, 77)) else (bif Nat.ble 76 pc then (.ireturn, 1, [], [], 0, 0, 0, 76) else (bif Nat.beq 73 pc then (.invokevirtual 312, 3, [(10, 213)], [[8035, 8037, 1053, 2015]], 2, 0, 0, 73) else mm_nop)))) else (bif Nat.ble 68 pc then
  (bif Nat.ble 70 pc then
  (bif Nat.ble 71 pc then
  (bif Nat.ble 72 pc then (.iaload, 1, [], [], 0, 0, 0, 72) else (.iadd, 1, [], [], 0, 0, 0, 71)) else (.iconst 1, 1, [], [], 0, 1, 0, 70)) else (bif Nat.ble 69 pc then (.imul, 1, [], [], 0, 0, 0, 69) else (.iload_n 1, 1, [], [], 1, 0, 0, 68))) else (bif Nat.ble 64 pc then
  (bif Nat.ble 67 pc then (.iconst 5, 1, [], [], 0, 5, 0, 67) else (bif Nat.beq 64 pc then (.getfield 144, 3, [(10, 56)], [[6154]], 0, 0, 0, 64) else mm_nop)) else (bif Nat.ble 63 pc then (.aload_n 0, 1, [], [], 0, 0, 0, 63) else (.iaload, 1, [], [], 0, 0, 0, 62)))))) else (bif Nat.ble 31 pc then
  (bif Nat.ble 48 pc then
  (bif Nat.ble 55 pc then
  (bif Nat.ble 59 pc then
  (bif Nat.ble 60 pc then
  (bif Nat.ble 61 pc then (.imul, 1, [], [], 0, 0, 0, 61) else (.iload_n 1, 1, [], [], 1, 0, 0, 60)) else (.iconst 5, 1, [], [], 0, 5, 0, 59)) else (bif Nat.ble 56 pc then
  (bif Nat.beq 56 pc then (.getfield 144, 3, [(10, 56)], [[6154]], 0, 0, 0, 56) else mm_nop) else (.aload_n 0, 1, [], [], 0, 0, 0, 55))) else (bif Nat.ble 50 pc then
  (bif Nat.ble 51 pc then
  (bif Nat.ble 54 pc then (.aload_n 0, 1, [], [], 0, 0, 0, 54) else (bif Nat.beq 51 pc then (.if_icmp .ne 26, 3, [(0, 77)], [], 0, 0, 0, 51) else mm_nop)) else (.iconst 4, 1, [], [], 0, 4, 0, 50)) else (bif Nat.ble 49 pc then (.iaload, 1, [], [], 0, 0, 0, 49) else (.iload_n 2, 1, [], [], 2, 0, 0, 48)))) else (bif Nat.ble 39 pc then
  (bif Nat.ble 43 pc then
  (bif Nat.ble 44 pc then
  (bif Nat.ble 45 pc then
  (bif Nat.beq 45 pc then (.getfield 16, 3, [(10, 2)], [[6100]], 0, 0, 0, 45) else mm_nop) else (.aload_n 0, 1, [], [], 0, 0, 0, 44)) else (.ireturn, 1, [], [], 0, 0, 0, 43)) else (bif Nat.ble 42 pc then (.iconst 0, 1, [], [], 0, 0, 0, 42) else (bif Nat.beq 39 pc then (.goto 4, 3, [(0, 43)], [], 0, 0, 0, 39) else mm_nop))) else (bif Nat.ble 35 pc then
  (bif Nat.ble 38 pc then (.iconst 1, 1, [], [], 0, 1, 0, 38) else (bif Nat.beq 35 pc then (.ifCond .eq 7, 3, [(0, 42)], [], 0, 0, 0, 35) else mm_nop)) else (bif Nat.ble 32 pc then
  (bif Nat.beq 32 pc then (.invokevirtual 309, 3, [(10, 214)], [[8027, 8029, 1051, 2015]], 0, 0, 0, 32) else mm_nop) else (.aload_n 0, 1, [], [], 0, 0, 0, 31))))) else (bif Nat.ble 13 pc then
  (bif Nat.ble 22 pc then
  (bif Nat.ble 26 pc then
  (bif Nat.ble 27 pc then
  (bif Nat.ble 28 pc then
  (bif Nat.beq 28 pc then (.if_icmp .ne 16, 3, [(0, 44)], [], 0, 0, 0, 28) else mm_nop) else (.iconst 1, 1, [], [], 0, 1, 0, 27)) else (.iaload, 1, [], [], 0, 0, 0, 26)) else (bif Nat.ble 25 pc then (.iload_n 2, 1, [], [], 2, 0, 0, 25) else (bif Nat.beq 22 pc then (.getfield 16, 3, [(10, 2)], [[6100]], 0, 0, 0, 22) else mm_nop))) else (bif Nat.ble 17 pc then
  (bif Nat.ble 20 pc then
  (bif Nat.ble 21 pc then (.aload_n 0, 1, [], [], 0, 0, 0, 21) else (.ireturn, 1, [], [], 0, 0, 0, 20)) else (bif Nat.beq 17 pc then (.invokevirtual 309, 3, [(10, 214)], [[8027, 8029, 1051, 2015]], 0, 0, 0, 17) else mm_nop)) else (bif Nat.ble 16 pc then (.aload_n 0, 1, [], [], 0, 0, 0, 16) else (bif Nat.beq 13 pc then (.ifCond .ne 8, 3, [(0, 21)], [], 0, 0, 0, 13) else mm_nop)))) else (bif Nat.ble 6 pc then
  (bif Nat.ble 8 pc then
  (bif Nat.ble 11 pc then
  (bif Nat.ble 12 pc then (.iaload, 1, [], [], 0, 0, 0, 12) else (.iload_n 2, 1, [], [], 2, 0, 0, 11)) else (bif Nat.beq 8 pc then (.getfield 16, 3, [(10, 2)], [[6100]], 0, 0, 0, 8) else mm_nop)) else (bif Nat.ble 7 pc then (.aload_n 0, 1, [], [], 0, 0, 0, 7) else (.istore_n 2, 1, [], [], 2, 0, 0, 6))) else (bif Nat.ble 4 pc then
  (bif Nat.ble 5 pc then (.iaload, 1, [], [], 0, 0, 0, 5) else (.iload_n 1, 1, [], [], 1, 0, 0, 4)) else (bif Nat.ble 1 pc then
  (bif Nat.beq 1 pc then (.getfield 135, 3, [(10, 53)], [[6151]], 0, 0, 0, 1) else mm_nop) else (.aload_n 0, 1, [], [], 0, 0, 0, 0)))))))
def mm_k216 : List mm_E := (List.range 119).map mm_f216
def mm_m216 : mm_M := (yX12_endRead, cX12_endRead, 5, (some .int), mm_k216, 1, 0, 0, 8034)
/-- TypeCopierModel.reads.(I)I -/
def mm_f217 : Nat → mm_E := fun pc => (bif Nat.ble 69 pc then
  (bif Nat.ble 109 pc then
  (bif Nat.ble 124 pc then
  (bif Nat.ble 131 pc then
  (bif Nat.ble 134 pc then
  (bif Nat.ble 137 pc then
  (bif Nat.ble 138 pc then (.ireturn, 1, [], [], 0, 0, 0, 138) else (.iload_n 3, 1, [], [], 3, 0, 0, 137)) else (bif Nat.beq 134 pc then (.goto (-119), 3, [(0, 15)], [], 0, 0, 0, 134) else mm_nop)) else (bif Nat.ble 132 pc then
  (bif Nat.ble 133 pc then (.iastore, 1, [], [], 0, 0, 0, 133) else (.iadd, 1, [], [], 0, 0, 0, 132)) else (.iconst 1, 1, [], [], 0, 1, 0, 131))) else (bif Nat.ble 128 pc then
  (bif Nat.ble 129 pc then
  (bif Nat.ble 130 pc then (.iaload, 1, [], [], 0, 0, 0, 130) else (.dup2, 1, [], [], 0, 0, 0, 129)) else (.iload_n 2, 1, [], [], 2, 0, 0, 128)) else (bif Nat.ble 125 pc then
  (bif Nat.beq 125 pc then (.getfield 141, 3, [(10, 55)], [[6153]], 0, 0, 0, 125) else mm_nop) else (.aload_n 0, 1, [], [], 0, 0, 0, 124)))) else (bif Nat.ble 116 pc then
  (bif Nat.ble 121 pc then
  (bif Nat.ble 122 pc then
  (bif Nat.ble 123 pc then (.iastore, 1, [], [], 0, 0, 0, 123) else (.iload_n 3, 1, [], [], 3, 0, 0, 122)) else (.iadd, 1, [], [], 0, 0, 0, 121)) else (bif Nat.ble 119 pc then
  (bif Nat.ble 120 pc then (.iaload, 1, [], [], 0, 0, 0, 120) else (.iload_n 2, 1, [], [], 2, 0, 0, 119)) else (bif Nat.beq 116 pc then (.getfield 141, 3, [(10, 55)], [[6153]], 0, 0, 0, 116) else mm_nop))) else (bif Nat.ble 113 pc then
  (bif Nat.ble 114 pc then
  (bif Nat.ble 115 pc then (.aload_n 0, 1, [], [], 0, 0, 0, 115) else (.imul, 1, [], [], 0, 0, 0, 114)) else (.iload_n 2, 1, [], [], 2, 0, 0, 113)) else (bif Nat.ble 112 pc then (.iconst 5, 1, [], [], 0, 5, 0, 112) else (bif Nat.beq 109 pc then (.getfield 144, 3, [(10, 56)], [[6154]], 0, 0, 0, 109) else mm_nop))))) else (bif Nat.ble 87 pc then
  (bif Nat.ble 97 pc then
  (bif Nat.ble 104 pc then
  (bif Nat.ble 105 pc then
  (bif Nat.ble 108 pc then (.aload_n 0, 1, [], [], 0, 0, 0, 108) else (bif Nat.beq 105 pc then (.ifCond .lt (-90), 3, [(0, 15)], [], 0, 0, 0, 105) else mm_nop)) else (.iload_n 2, 1, [], [], 2, 0, 0, 104)) else (bif Nat.ble 100 pc then
  (bif Nat.ble 101 pc then
  (bif Nat.beq 101 pc then (.iinc 2 (-1), 3, [], [], 2, (-1), 0, 101) else mm_nop) else (.istore_n 3, 1, [], [], 3, 0, 0, 100)) else (bif Nat.beq 97 pc then (.invokevirtual 319, 3, [(10, 216)], [[8031, 8033, 1052, 2015]], 1, 0, 0, 97) else mm_nop))) else (bif Nat.ble 92 pc then
  (bif Nat.ble 95 pc then
  (bif Nat.ble 96 pc then (.iload_n 2, 1, [], [], 2, 0, 0, 96) else (.aload_n 0, 1, [], [], 0, 0, 0, 95)) else (bif Nat.beq 92 pc then (.goto (-77), 3, [(0, 15)], [], 0, 0, 0, 92) else mm_nop)) else (bif Nat.ble 89 pc then
  (bif Nat.beq 89 pc then (.invokevirtual 315, 3, [(10, 215)], [[8023, 8025, 1050, 2015]], 2, 0, 0, 89) else mm_nop) else (bif Nat.beq 87 pc then (.iload 5, 2, [], [], 5, 0, 0, 87) else mm_nop)))) else (bif Nat.ble 79 pc then
  (bif Nat.ble 82 pc then
  (bif Nat.ble 85 pc then
  (bif Nat.ble 86 pc then (.iload_n 2, 1, [], [], 2, 0, 0, 86) else (.aload_n 0, 1, [], [], 0, 0, 0, 85)) else (bif Nat.beq 82 pc then (.iinc 2 1, 3, [], [], 2, 1, 0, 82) else mm_nop)) else (bif Nat.ble 80 pc then
  (bif Nat.beq 80 pc then (.istore 5, 2, [], [], 5, 0, 0, 80) else mm_nop) else (.iaload, 1, [], [], 0, 0, 0, 79))) else (bif Nat.ble 73 pc then
  (bif Nat.ble 74 pc then
  (bif Nat.ble 77 pc then
  (bif Nat.beq 77 pc then (.iload 4, 2, [], [], 4, 0, 0, 77) else mm_nop) else (bif Nat.beq 74 pc then (.getfield 20, 3, [(10, 3)], [[6101]], 0, 0, 0, 74) else mm_nop)) else (.aload_n 0, 1, [], [], 0, 0, 0, 73)) else (bif Nat.ble 70 pc then
  (bif Nat.beq 70 pc then (.goto 10, 3, [(0, 80)], [], 0, 0, 0, 70) else mm_nop) else (.iaload, 1, [], [], 0, 0, 0, 69)))))) else (bif Nat.ble 31 pc then
  (bif Nat.ble 49 pc then
  (bif Nat.ble 58 pc then
  (bif Nat.ble 63 pc then
  (bif Nat.ble 64 pc then
  (bif Nat.ble 67 pc then
  (bif Nat.beq 67 pc then (.iload 4, 2, [], [], 4, 0, 0, 67) else mm_nop) else (bif Nat.beq 64 pc then (.getfield 23, 3, [(10, 4)], [[6102]], 0, 0, 0, 64) else mm_nop)) else (.aload_n 0, 1, [], [], 0, 0, 0, 63)) else (bif Nat.ble 59 pc then
  (bif Nat.ble 60 pc then
  (bif Nat.beq 60 pc then (.if_icmp .ne 13, 3, [(0, 73)], [], 0, 0, 0, 60) else mm_nop) else (.iconst 1, 1, [], [], 0, 1, 0, 59)) else (.iaload, 1, [], [], 0, 0, 0, 58))) else (bif Nat.ble 53 pc then
  (bif Nat.ble 54 pc then
  (bif Nat.ble 57 pc then (.iload_n 2, 1, [], [], 2, 0, 0, 57) else (bif Nat.beq 54 pc then (.getfield 141, 3, [(10, 55)], [[6153]], 0, 0, 0, 54) else mm_nop)) else (.aload_n 0, 1, [], [], 0, 0, 0, 53)) else (bif Nat.ble 50 pc then
  (bif Nat.beq 50 pc then (.if_icmp .ne 23, 3, [(0, 73)], [], 0, 0, 0, 50) else mm_nop) else (.iconst 4, 1, [], [], 0, 4, 0, 49)))) else (bif Nat.ble 40 pc then
  (bif Nat.ble 43 pc then
  (bif Nat.ble 46 pc then
  (bif Nat.ble 48 pc then (.iaload, 1, [], [], 0, 0, 0, 48) else (bif Nat.beq 46 pc then (.iload 4, 2, [], [], 4, 0, 0, 46) else mm_nop)) else (bif Nat.beq 43 pc then (.getfield 16, 3, [(10, 2)], [[6100]], 0, 0, 0, 43) else mm_nop)) else (bif Nat.ble 42 pc then (.aload_n 0, 1, [], [], 0, 0, 0, 42) else (bif Nat.beq 40 pc then (.istore 4, 2, [], [], 4, 0, 0, 40) else mm_nop))) else (bif Nat.ble 35 pc then
  (bif Nat.ble 38 pc then
  (bif Nat.ble 39 pc then (.iaload, 1, [], [], 0, 0, 0, 39) else (.iload_n 2, 1, [], [], 2, 0, 0, 38)) else (bif Nat.beq 35 pc then (.getfield 135, 3, [(10, 53)], [[6151]], 0, 0, 0, 35) else mm_nop)) else (bif Nat.ble 34 pc then (.aload_n 0, 1, [], [], 0, 0, 0, 34) else (bif Nat.beq 31 pc then (.if_icmp .ge 64, 3, [(0, 95)], [], 0, 0, 0, 31) else mm_nop))))) else (bif Nat.ble 12 pc then
  (bif Nat.ble 23 pc then
  (bif Nat.ble 26 pc then
  (bif Nat.ble 29 pc then
  (bif Nat.ble 30 pc then (.iaload, 1, [], [], 0, 0, 0, 30) else (.iload_n 2, 1, [], [], 2, 0, 0, 29)) else (bif Nat.beq 26 pc then (.getfield 138, 3, [(10, 54)], [[6152]], 0, 0, 0, 26) else mm_nop)) else (bif Nat.ble 24 pc then
  (bif Nat.ble 25 pc then (.aload_n 0, 1, [], [], 0, 0, 0, 25) else (.iaload, 1, [], [], 0, 0, 0, 24)) else (.iload_n 2, 1, [], [], 2, 0, 0, 23))) else (bif Nat.ble 16 pc then
  (bif Nat.ble 19 pc then
  (bif Nat.ble 20 pc then
  (bif Nat.beq 20 pc then (.getfield 141, 3, [(10, 55)], [[6153]], 0, 0, 0, 20) else mm_nop) else (.aload_n 0, 1, [], [], 0, 0, 0, 19)) else (bif Nat.beq 16 pc then (.ifCond .lt 121, 3, [(0, 137)], [], 0, 0, 0, 16) else mm_nop)) else (bif Nat.ble 15 pc then (.iload_n 2, 1, [], [], 2, 0, 0, 15) else (bif Nat.beq 12 pc then (.invokevirtual 315, 3, [(10, 215)], [[8023, 8025, 1050, 2015]], 2, 0, 0, 12) else mm_nop)))) else (bif Nat.ble 7 pc then
  (bif Nat.ble 9 pc then
  (bif Nat.ble 10 pc then
  (bif Nat.ble 11 pc then (.iload_n 1, 1, [], [], 1, 0, 0, 11) else (.iconst 0, 1, [], [], 0, 0, 0, 10)) else (.aload_n 0, 1, [], [], 0, 0, 0, 9)) else (bif Nat.ble 8 pc then (.istore_n 3, 1, [], [], 3, 0, 0, 8) else (.iconst 0, 1, [], [], 0, 0, 0, 7))) else (bif Nat.ble 2 pc then
  (bif Nat.ble 5 pc then
  (bif Nat.ble 6 pc then (.istore_n 2, 1, [], [], 2, 0, 0, 6) else (.iconst 0, 1, [], [], 0, 0, 0, 5)) else (bif Nat.beq 2 pc then (.putfield 306, 3, [(10, 42)], [[6140]], 0, 0, 0, 2) else mm_nop)) else (bif Nat.ble 1 pc then (.iconst 0, 1, [], [], 0, 0, 0, 1) else (.aload_n 0, 1, [], [], 0, 0, 0, 0)))))))
def mm_k217 : List mm_E := (List.range 139).map mm_f217
def mm_m217 : mm_M := (yX12_reads, cX12_reads, 6, (some .int), mm_k217, 1, 0, 0, 8022)
/-- TypeCopierModel.tells.(I)V -/
def mm_f218 : Nat → mm_E := fun pc => (bif Nat.ble 17 pc then
  (bif Nat.ble 21 pc then
  (bif Nat.ble 25 pc then
  (bif Nat.ble 26 pc then
  (bif Nat.ble 29 pc then (.return_, 1, [], [], 0, 0, 0, 29) else (bif Nat.beq 26 pc then (.putfield 322, 3, [(10, 51)], [[6149]], 0, 0, 0, 26) else mm_nop)) else (.iadd, 1, [], [], 0, 0, 0, 25)) else (bif Nat.ble 24 pc then (.iconst 1, 1, [], [], 0, 1, 0, 24) else (bif Nat.beq 21 pc then (.getfield 322, 3, [(10, 51)], [[6149]], 0, 0, 0, 21) else mm_nop))) else (bif Nat.ble 19 pc then
  (bif Nat.ble 20 pc then (.dup, 1, [], [], 0, 0, 0, 20) else (.aload_n 0, 1, [], [], 0, 0, 0, 19)) else (bif Nat.ble 18 pc then (.iastore, 1, [], [], 0, 0, 0, 18) else (.iload_n 1, 1, [], [], 1, 0, 0, 17)))) else (bif Nat.ble 9 pc then
  (bif Nat.ble 13 pc then
  (bif Nat.ble 14 pc then
  (bif Nat.beq 14 pc then (.getfield 322, 3, [(10, 51)], [[6149]], 0, 0, 0, 14) else mm_nop) else (.aload_n 0, 1, [], [], 0, 0, 0, 13)) else (bif Nat.ble 10 pc then
  (bif Nat.beq 10 pc then (.getfield 132, 3, [(10, 52)], [[6150]], 0, 0, 0, 10) else mm_nop) else (.aload_n 0, 1, [], [], 0, 0, 0, 9))) else (bif Nat.ble 4 pc then
  (bif Nat.ble 6 pc then
  (bif Nat.beq 6 pc then (.if_icmp .ge 23, 3, [(0, 29)], [], 0, 0, 0, 6) else mm_nop) else (bif Nat.beq 4 pc then (.bipush 100, 2, [], [], 0, 100, 0, 4) else mm_nop)) else (bif Nat.ble 1 pc then
  (bif Nat.beq 1 pc then (.getfield 322, 3, [(10, 51)], [[6149]], 0, 0, 0, 1) else mm_nop) else (.aload_n 0, 1, [], [], 0, 0, 0, 0)))))
def mm_k218 : List mm_E := (List.range 30).map mm_f218
def mm_m218 : mm_M := (yX12_tells, cX12_tells, 2, none, mm_k218, 1, 0, 0, 8074)
/-- TypeCopierModel.lengthOf.(I)I -/
def mm_f219 : Nat → mm_E := fun pc => (bif Nat.ble 12 pc then
  (bif Nat.ble 18 pc then
  (bif Nat.ble 22 pc then
  (bif Nat.ble 23 pc then (.ireturn, 1, [], [], 0, 0, 0, 23) else (.iload_n 2, 1, [], [], 2, 0, 0, 22)) else (bif Nat.ble 19 pc then
  (bif Nat.beq 19 pc then (.goto (-15), 3, [(0, 4)], [], 0, 0, 0, 19) else mm_nop) else (.istore_n 3, 1, [], [], 3, 0, 0, 18))) else (bif Nat.ble 16 pc then
  (bif Nat.ble 17 pc then (.iaload, 1, [], [], 0, 0, 0, 17) else (.iload_n 3, 1, [], [], 3, 0, 0, 16)) else (bif Nat.ble 13 pc then
  (bif Nat.beq 13 pc then (.getfield 126, 3, [(10, 45)], [[6143]], 0, 0, 0, 13) else mm_nop) else (.aload_n 0, 1, [], [], 0, 0, 0, 12)))) else (bif Nat.ble 4 pc then
  (bif Nat.ble 6 pc then
  (bif Nat.ble 9 pc then
  (bif Nat.beq 9 pc then (.iinc 2 1, 3, [], [], 2, 1, 0, 9) else mm_nop) else (bif Nat.beq 6 pc then (.if_icmp .eq 16, 3, [(0, 22)], [], 0, 0, 0, 6) else mm_nop)) else (bif Nat.ble 5 pc then (.iconst (-1), 1, [], [], 0, (-1), 0, 5) else (.iload_n 3, 1, [], [], 3, 0, 0, 4))) else (bif Nat.ble 2 pc then
  (bif Nat.ble 3 pc then (.istore_n 3, 1, [], [], 3, 0, 0, 3) else (.iload_n 1, 1, [], [], 1, 0, 0, 2)) else (bif Nat.ble 1 pc then (.istore_n 2, 1, [], [], 2, 0, 0, 1) else (.iconst 0, 1, [], [], 0, 0, 0, 0)))))
def mm_k219 : List mm_E := (List.range 24).map mm_f219
def mm_m219 : mm_M := (yX12_lengthOf, cX12_lengthOf, 4, (some .int), mm_k219, 1, 0, 0, 8078)
/-- TypeCopierModel.tellsAll.(II)V -/
def mm_f220 : Nat → mm_E := fun pc => (bif Nat.ble 124 pc then
  (bif Nat.ble 191 pc then
  (bif Nat.ble 223 pc then
  (bif Nat.ble 238 pc then
  (bif Nat.ble 245 pc then
  (bif Nat.ble 247 pc then
  (bif Nat.ble 250 pc then
  (bif Nat.ble 253 pc then (.return_, 1, [], [], 0, 0, 0, 253) else (bif Nat.beq 250 pc then (.goto (-222), 3, [(0, 28)], [], 0, 0, 0, 250) else mm_nop)) else (bif Nat.beq 247 pc then (.iinc 3 1, 3, [], [], 3, 1, 0, 247) else mm_nop)) else (bif Nat.ble 246 pc then (.bastore, 1, [], [], 0, 0, 0, 246) else (.iconst 0, 1, [], [], 0, 0, 0, 245))) else (bif Nat.ble 240 pc then
  (bif Nat.ble 241 pc then
  (bif Nat.ble 244 pc then (.iload_n 3, 1, [], [], 3, 0, 0, 244) else (bif Nat.beq 241 pc then (.getfield 153, 3, [(10, 59)], [[6157]], 0, 0, 0, 241) else mm_nop)) else (.aload_n 0, 1, [], [], 0, 0, 0, 240)) else (bif Nat.ble 239 pc then (.iastore, 1, [], [], 0, 0, 0, 239) else (.iaload, 1, [], [], 0, 0, 0, 238)))) else (bif Nat.ble 228 pc then
  (bif Nat.ble 232 pc then
  (bif Nat.ble 233 pc then
  (bif Nat.ble 236 pc then
  (bif Nat.beq 236 pc then (.iload 5, 2, [], [], 5, 0, 0, 236) else mm_nop) else (bif Nat.beq 233 pc then (.getfield 123, 3, [(10, 44)], [[6142]], 0, 0, 0, 233) else mm_nop)) else (.aload_n 0, 1, [], [], 0, 0, 0, 232)) else (bif Nat.ble 231 pc then (.iload_n 3, 1, [], [], 3, 0, 0, 231) else (bif Nat.beq 228 pc then (.getfield 150, 3, [(10, 58)], [[6156]], 0, 0, 0, 228) else mm_nop))) else (bif Nat.ble 226 pc then
  (bif Nat.ble 227 pc then (.aload_n 0, 1, [], [], 0, 0, 0, 227) else (.iastore, 1, [], [], 0, 0, 0, 226)) else (bif Nat.ble 225 pc then (.iaload, 1, [], [], 0, 0, 0, 225) else (bif Nat.beq 223 pc then (.iload 4, 2, [], [], 4, 0, 0, 223) else mm_nop))))) else (bif Nat.ble 205 pc then
  (bif Nat.ble 214 pc then
  (bif Nat.ble 218 pc then
  (bif Nat.ble 219 pc then
  (bif Nat.ble 220 pc then
  (bif Nat.beq 220 pc then (.getfield 20, 3, [(10, 3)], [[6101]], 0, 0, 0, 220) else mm_nop) else (.aload_n 0, 1, [], [], 0, 0, 0, 219)) else (.iload_n 3, 1, [], [], 3, 0, 0, 218)) else (bif Nat.ble 215 pc then
  (bif Nat.beq 215 pc then (.getfield 147, 3, [(10, 57)], [[6155]], 0, 0, 0, 215) else mm_nop) else (.aload_n 0, 1, [], [], 0, 0, 0, 214))) else (bif Nat.ble 209 pc then
  (bif Nat.ble 210 pc then
  (bif Nat.ble 211 pc then
  (bif Nat.beq 211 pc then (.iinc 3 1, 3, [], [], 3, 1, 0, 211) else mm_nop) else (.bastore, 1, [], [], 0, 0, 0, 210)) else (.iconst 1, 1, [], [], 0, 1, 0, 209)) else (bif Nat.ble 208 pc then (.iload_n 3, 1, [], [], 3, 0, 0, 208) else (bif Nat.beq 205 pc then (.getfield 153, 3, [(10, 59)], [[6157]], 0, 0, 0, 205) else mm_nop)))) else (bif Nat.ble 197 pc then
  (bif Nat.ble 202 pc then
  (bif Nat.ble 203 pc then
  (bif Nat.ble 204 pc then (.aload_n 0, 1, [], [], 0, 0, 0, 204) else (.iastore, 1, [], [], 0, 0, 0, 203)) else (.iaload, 1, [], [], 0, 0, 0, 202)) else (bif Nat.ble 200 pc then
  (bif Nat.beq 200 pc then (.iload 5, 2, [], [], 5, 0, 0, 200) else mm_nop) else (bif Nat.beq 197 pc then (.getfield 126, 3, [(10, 45)], [[6143]], 0, 0, 0, 197) else mm_nop))) else (bif Nat.ble 195 pc then
  (bif Nat.ble 196 pc then (.aload_n 0, 1, [], [], 0, 0, 0, 196) else (.iload_n 3, 1, [], [], 3, 0, 0, 195)) else (bif Nat.ble 192 pc then
  (bif Nat.beq 192 pc then (.getfield 150, 3, [(10, 58)], [[6156]], 0, 0, 0, 192) else mm_nop) else (.aload_n 0, 1, [], [], 0, 0, 0, 191)))))) else (bif Nat.ble 154 pc then
  (bif Nat.ble 171 pc then
  (bif Nat.ble 179 pc then
  (bif Nat.ble 185 pc then
  (bif Nat.ble 187 pc then
  (bif Nat.ble 188 pc then
  (bif Nat.beq 188 pc then (.if_icmp .eq 62, 3, [(0, 250)], [], 0, 0, 0, 188) else mm_nop) else (.iconst (-1), 1, [], [], 0, (-1), 0, 187)) else (bif Nat.beq 185 pc then (.iload 5, 2, [], [], 5, 0, 0, 185) else mm_nop)) else (bif Nat.ble 182 pc then
  (bif Nat.beq 182 pc then (.invokevirtual 325, 3, [(10, 218)], [[8071, 8073, 1062, 2015]], 1, 0, 0, 182) else mm_nop) else (bif Nat.beq 179 pc then (.invokevirtual 328, 3, [(10, 219)], [[8075, 8077, 1063, 2015]], 1, 0, 0, 179) else mm_nop))) else (bif Nat.ble 175 pc then
  (bif Nat.ble 176 pc then
  (bif Nat.ble 177 pc then
  (bif Nat.beq 177 pc then (.iload 5, 2, [], [], 5, 0, 0, 177) else mm_nop) else (.aload_n 0, 1, [], [], 0, 0, 0, 176)) else (.aload_n 0, 1, [], [], 0, 0, 0, 175)) else (bif Nat.ble 172 pc then
  (bif Nat.beq 172 pc then (.ifCond .ne 13, 3, [(0, 185)], [], 0, 0, 0, 172) else mm_nop) else (.baload, 1, [], [], 0, 0, 0, 171)))) else (bif Nat.ble 160 pc then
  (bif Nat.ble 166 pc then
  (bif Nat.ble 167 pc then
  (bif Nat.ble 170 pc then (.iload_n 3, 1, [], [], 3, 0, 0, 170) else (bif Nat.beq 167 pc then (.getfield 153, 3, [(10, 59)], [[6157]], 0, 0, 0, 167) else mm_nop)) else (.aload_n 0, 1, [], [], 0, 0, 0, 166)) else (bif Nat.ble 163 pc then
  (bif Nat.beq 163 pc then (.goto 87, 3, [(0, 250)], [], 0, 0, 0, 163) else mm_nop) else (bif Nat.beq 160 pc then (.iinc 3 1, 3, [], [], 3, 1, 0, 160) else mm_nop))) else (bif Nat.ble 158 pc then
  (bif Nat.ble 159 pc then (.bastore, 1, [], [], 0, 0, 0, 159) else (.iconst 0, 1, [], [], 0, 0, 0, 158)) else (bif Nat.ble 157 pc then (.iload_n 3, 1, [], [], 3, 0, 0, 157) else (bif Nat.beq 154 pc then (.getfield 153, 3, [(10, 59)], [[6157]], 0, 0, 0, 154) else mm_nop))))) else (bif Nat.ble 140 pc then
  (bif Nat.ble 146 pc then
  (bif Nat.ble 151 pc then
  (bif Nat.ble 152 pc then
  (bif Nat.ble 153 pc then (.aload_n 0, 1, [], [], 0, 0, 0, 153) else (.iastore, 1, [], [], 0, 0, 0, 152)) else (.iaload, 1, [], [], 0, 0, 0, 151)) else (bif Nat.ble 149 pc then
  (bif Nat.beq 149 pc then (.iload 5, 2, [], [], 5, 0, 0, 149) else mm_nop) else (bif Nat.beq 146 pc then (.getfield 123, 3, [(10, 44)], [[6142]], 0, 0, 0, 146) else mm_nop))) else (bif Nat.ble 144 pc then
  (bif Nat.ble 145 pc then (.aload_n 0, 1, [], [], 0, 0, 0, 145) else (.iload_n 3, 1, [], [], 3, 0, 0, 144)) else (bif Nat.ble 141 pc then
  (bif Nat.beq 141 pc then (.getfield 150, 3, [(10, 58)], [[6156]], 0, 0, 0, 141) else mm_nop) else (.aload_n 0, 1, [], [], 0, 0, 0, 140)))) else (bif Nat.ble 132 pc then
  (bif Nat.ble 136 pc then
  (bif Nat.ble 138 pc then
  (bif Nat.ble 139 pc then (.iastore, 1, [], [], 0, 0, 0, 139) else (.iaload, 1, [], [], 0, 0, 0, 138)) else (bif Nat.beq 136 pc then (.iload 4, 2, [], [], 4, 0, 0, 136) else mm_nop)) else (bif Nat.ble 133 pc then
  (bif Nat.beq 133 pc then (.getfield 20, 3, [(10, 3)], [[6101]], 0, 0, 0, 133) else mm_nop) else (.aload_n 0, 1, [], [], 0, 0, 0, 132))) else (bif Nat.ble 128 pc then
  (bif Nat.ble 131 pc then (.iload_n 3, 1, [], [], 3, 0, 0, 131) else (bif Nat.beq 128 pc then (.getfield 147, 3, [(10, 57)], [[6155]], 0, 0, 0, 128) else mm_nop)) else (bif Nat.ble 127 pc then (.aload_n 0, 1, [], [], 0, 0, 0, 127) else (bif Nat.beq 124 pc then (.iinc 3 1, 3, [], [], 3, 1, 0, 124) else mm_nop))))))) else (bif Nat.ble 60 pc then
  (bif Nat.ble 95 pc then
  (bif Nat.ble 109 pc then
  (bif Nat.ble 117 pc then
  (bif Nat.ble 121 pc then
  (bif Nat.ble 122 pc then
  (bif Nat.ble 123 pc then (.bastore, 1, [], [], 0, 0, 0, 123) else (.iconst 0, 1, [], [], 0, 0, 0, 122)) else (.iload_n 3, 1, [], [], 3, 0, 0, 121)) else (bif Nat.ble 118 pc then
  (bif Nat.beq 118 pc then (.getfield 153, 3, [(10, 59)], [[6157]], 0, 0, 0, 118) else mm_nop) else (.aload_n 0, 1, [], [], 0, 0, 0, 117))) else (bif Nat.ble 113 pc then
  (bif Nat.ble 115 pc then
  (bif Nat.ble 116 pc then (.iastore, 1, [], [], 0, 0, 0, 116) else (.iaload, 1, [], [], 0, 0, 0, 115)) else (bif Nat.beq 113 pc then (.iload 5, 2, [], [], 5, 0, 0, 113) else mm_nop)) else (bif Nat.ble 110 pc then
  (bif Nat.beq 110 pc then (.getfield 126, 3, [(10, 45)], [[6143]], 0, 0, 0, 110) else mm_nop) else (.aload_n 0, 1, [], [], 0, 0, 0, 109)))) else (bif Nat.ble 102 pc then
  (bif Nat.ble 104 pc then
  (bif Nat.ble 105 pc then
  (bif Nat.ble 108 pc then (.iload_n 3, 1, [], [], 3, 0, 0, 108) else (bif Nat.beq 105 pc then (.getfield 150, 3, [(10, 58)], [[6156]], 0, 0, 0, 105) else mm_nop)) else (.aload_n 0, 1, [], [], 0, 0, 0, 104)) else (bif Nat.ble 103 pc then (.iastore, 1, [], [], 0, 0, 0, 103) else (.iaload, 1, [], [], 0, 0, 0, 102))) else (bif Nat.ble 97 pc then
  (bif Nat.ble 100 pc then
  (bif Nat.beq 100 pc then (.iload 4, 2, [], [], 4, 0, 0, 100) else mm_nop) else (bif Nat.beq 97 pc then (.getfield 23, 3, [(10, 4)], [[6102]], 0, 0, 0, 97) else mm_nop)) else (bif Nat.ble 96 pc then (.aload_n 0, 1, [], [], 0, 0, 0, 96) else (.iload_n 3, 1, [], [], 3, 0, 0, 95))))) else (bif Nat.ble 77 pc then
  (bif Nat.ble 86 pc then
  (bif Nat.ble 88 pc then
  (bif Nat.ble 91 pc then
  (bif Nat.ble 92 pc then
  (bif Nat.beq 92 pc then (.getfield 147, 3, [(10, 57)], [[6155]], 0, 0, 0, 92) else mm_nop) else (.aload_n 0, 1, [], [], 0, 0, 0, 91)) else (bif Nat.beq 88 pc then (.if_icmp .ne 78, 3, [(0, 166)], [], 0, 0, 0, 88) else mm_nop)) else (bif Nat.ble 87 pc then (.iconst 4, 1, [], [], 0, 4, 0, 87) else (.iaload, 1, [], [], 0, 0, 0, 86))) else (bif Nat.ble 81 pc then
  (bif Nat.ble 84 pc then
  (bif Nat.beq 84 pc then (.iload 4, 2, [], [], 4, 0, 0, 84) else mm_nop) else (bif Nat.beq 81 pc then (.getfield 16, 3, [(10, 2)], [[6100]], 0, 0, 0, 81) else mm_nop)) else (bif Nat.ble 80 pc then (.aload_n 0, 1, [], [], 0, 0, 0, 80) else (bif Nat.beq 77 pc then (.goto 173, 3, [(0, 250)], [], 0, 0, 0, 77) else mm_nop)))) else (bif Nat.ble 67 pc then
  (bif Nat.ble 71 pc then
  (bif Nat.ble 72 pc then
  (bif Nat.ble 74 pc then
  (bif Nat.beq 74 pc then (.invokevirtual 325, 3, [(10, 218)], [[8071, 8073, 1062, 2015]], 1, 0, 0, 74) else mm_nop) else (bif Nat.beq 72 pc then (.iload 5, 2, [], [], 5, 0, 0, 72) else mm_nop)) else (.aload_n 0, 1, [], [], 0, 0, 0, 71)) else (bif Nat.ble 68 pc then
  (bif Nat.beq 68 pc then (.if_icmp .ge 12, 3, [(0, 80)], [], 0, 0, 0, 68) else mm_nop) else (.iconst 2, 1, [], [], 0, 2, 0, 67))) else (bif Nat.ble 64 pc then
  (bif Nat.ble 66 pc then (.iaload, 1, [], [], 0, 0, 0, 66) else (bif Nat.beq 64 pc then (.iload 4, 2, [], [], 4, 0, 0, 64) else mm_nop)) else (bif Nat.ble 61 pc then
  (bif Nat.beq 61 pc then (.getfield 16, 3, [(10, 2)], [[6100]], 0, 0, 0, 61) else mm_nop) else (.aload_n 0, 1, [], [], 0, 0, 0, 60)))))) else (bif Nat.ble 26 pc then
  (bif Nat.ble 44 pc then
  (bif Nat.ble 52 pc then
  (bif Nat.ble 56 pc then
  (bif Nat.ble 57 pc then
  (bif Nat.ble 58 pc then
  (bif Nat.beq 58 pc then (.istore 5, 2, [], [], 5, 0, 0, 58) else mm_nop) else (.iaload, 1, [], [], 0, 0, 0, 57)) else (.iload_n 3, 1, [], [], 3, 0, 0, 56)) else (bif Nat.ble 53 pc then
  (bif Nat.beq 53 pc then (.getfield 150, 3, [(10, 58)], [[6156]], 0, 0, 0, 53) else mm_nop) else (.aload_n 0, 1, [], [], 0, 0, 0, 52))) else (bif Nat.ble 48 pc then
  (bif Nat.ble 49 pc then
  (bif Nat.ble 50 pc then
  (bif Nat.beq 50 pc then (.istore 4, 2, [], [], 4, 0, 0, 50) else mm_nop) else (.iaload, 1, [], [], 0, 0, 0, 49)) else (.iload_n 3, 1, [], [], 3, 0, 0, 48)) else (bif Nat.ble 45 pc then
  (bif Nat.beq 45 pc then (.getfield 147, 3, [(10, 57)], [[6155]], 0, 0, 0, 45) else mm_nop) else (.aload_n 0, 1, [], [], 0, 0, 0, 44)))) else (bif Nat.ble 32 pc then
  (bif Nat.ble 36 pc then
  (bif Nat.ble 38 pc then
  (bif Nat.ble 41 pc then
  (bif Nat.beq 41 pc then (.iinc 3 (-1), 3, [], [], 3, (-1), 0, 41) else mm_nop) else (bif Nat.beq 38 pc then (.if_icmp .ge 215, 3, [(0, 253)], [], 0, 0, 0, 38) else mm_nop)) else (bif Nat.beq 36 pc then (.bipush 100, 2, [], [], 0, 100, 0, 36) else mm_nop)) else (bif Nat.ble 33 pc then
  (bif Nat.beq 33 pc then (.getfield 322, 3, [(10, 51)], [[6149]], 0, 0, 0, 33) else mm_nop) else (.aload_n 0, 1, [], [], 0, 0, 0, 32))) else (bif Nat.ble 28 pc then
  (bif Nat.ble 29 pc then
  (bif Nat.beq 29 pc then (.ifCond .le 224, 3, [(0, 253)], [], 0, 0, 0, 29) else mm_nop) else (.iload_n 3, 1, [], [], 3, 0, 0, 28)) else (bif Nat.ble 27 pc then (.bastore, 1, [], [], 0, 0, 0, 27) else (.iconst 0, 1, [], [], 0, 0, 0, 26))))) else (bif Nat.ble 13 pc then
  (bif Nat.ble 19 pc then
  (bif Nat.ble 21 pc then
  (bif Nat.ble 22 pc then
  (bif Nat.ble 25 pc then (.iconst 0, 1, [], [], 0, 0, 0, 25) else (bif Nat.beq 22 pc then (.getfield 153, 3, [(10, 59)], [[6157]], 0, 0, 0, 22) else mm_nop)) else (.aload_n 0, 1, [], [], 0, 0, 0, 21)) else (bif Nat.ble 20 pc then (.iastore, 1, [], [], 0, 0, 0, 20) else (.iload_n 2, 1, [], [], 2, 0, 0, 19))) else (bif Nat.ble 15 pc then
  (bif Nat.ble 18 pc then (.iconst 0, 1, [], [], 0, 0, 0, 18) else (bif Nat.beq 15 pc then (.getfield 150, 3, [(10, 58)], [[6156]], 0, 0, 0, 15) else mm_nop)) else (bif Nat.ble 14 pc then (.aload_n 0, 1, [], [], 0, 0, 0, 14) else (.iastore, 1, [], [], 0, 0, 0, 13)))) else (bif Nat.ble 6 pc then
  (bif Nat.ble 8 pc then
  (bif Nat.ble 11 pc then
  (bif Nat.ble 12 pc then (.iload_n 1, 1, [], [], 1, 0, 0, 12) else (.iconst 0, 1, [], [], 0, 0, 0, 11)) else (bif Nat.beq 8 pc then (.getfield 147, 3, [(10, 57)], [[6155]], 0, 0, 0, 8) else mm_nop)) else (bif Nat.ble 7 pc then (.aload_n 0, 1, [], [], 0, 0, 0, 7) else (.istore_n 3, 1, [], [], 3, 0, 0, 6))) else (bif Nat.ble 2 pc then
  (bif Nat.ble 5 pc then (.iconst 1, 1, [], [], 0, 1, 0, 5) else (bif Nat.beq 2 pc then (.putfield 322, 3, [(10, 51)], [[6149]], 0, 0, 0, 2) else mm_nop)) else (bif Nat.ble 1 pc then (.iconst 0, 1, [], [], 0, 0, 0, 1) else (.aload_n 0, 1, [], [], 0, 0, 0, 0))))))))
def mm_k220 : List mm_E := (List.range 254).map mm_f220
def mm_m220 : mm_M := (yX12_tellsAll, cX12_tellsAll, 6, none, mm_k220, 2, 0, 0, 8070)
/-- TypeCopierModel.begin.(I)V -/
def mm_f221 : Nat → mm_E := fun pc => (bif Nat.ble 15 pc then
  (bif Nat.ble 22 pc then
  (bif Nat.ble 26 pc then
  (bif Nat.ble 27 pc then
  (bif Nat.ble 30 pc then (.return_, 1, [], [], 0, 0, 0, 30) else (bif Nat.beq 27 pc then (.putfield 331, 3, [(10, 62)], [[6160]], 0, 0, 0, 27) else mm_nop)) else (.iadd, 1, [], [], 0, 0, 0, 26)) else (bif Nat.ble 25 pc then (.iconst 1, 1, [], [], 0, 1, 0, 25) else (bif Nat.beq 22 pc then (.getfield 331, 3, [(10, 62)], [[6160]], 0, 0, 0, 22) else mm_nop))) else (bif Nat.ble 19 pc then
  (bif Nat.ble 20 pc then
  (bif Nat.ble 21 pc then (.dup, 1, [], [], 0, 0, 0, 21) else (.aload_n 0, 1, [], [], 0, 0, 0, 20)) else (.iastore, 1, [], [], 0, 0, 0, 19)) else (bif Nat.ble 18 pc then (.iconst 0, 1, [], [], 0, 0, 0, 18) else (bif Nat.beq 15 pc then (.getfield 331, 3, [(10, 62)], [[6160]], 0, 0, 0, 15) else mm_nop)))) else (bif Nat.ble 8 pc then
  (bif Nat.ble 10 pc then
  (bif Nat.ble 11 pc then
  (bif Nat.ble 14 pc then (.aload_n 0, 1, [], [], 0, 0, 0, 14) else (bif Nat.beq 11 pc then (.getfield 159, 3, [(10, 61)], [[6159]], 0, 0, 0, 11) else mm_nop)) else (.aload_n 0, 1, [], [], 0, 0, 0, 10)) else (bif Nat.ble 9 pc then (.iastore, 1, [], [], 0, 0, 0, 9) else (.iload_n 1, 1, [], [], 1, 0, 0, 8))) else (bif Nat.ble 4 pc then
  (bif Nat.ble 5 pc then
  (bif Nat.beq 5 pc then (.getfield 331, 3, [(10, 62)], [[6160]], 0, 0, 0, 5) else mm_nop) else (.aload_n 0, 1, [], [], 0, 0, 0, 4)) else (bif Nat.ble 1 pc then
  (bif Nat.beq 1 pc then (.getfield 156, 3, [(10, 60)], [[6158]], 0, 0, 0, 1) else mm_nop) else (.aload_n 0, 1, [], [], 0, 0, 0, 0)))))
def mm_k221 : List mm_E := (List.range 31).map mm_f221
def mm_m221 : mm_M := (yX12_begin, cX12_begin, 2, none, mm_k221, 1, 0, 0, 8046)
/-- TypeCopierModel.gives.(I)V -/
def mm_f222 : Nat → mm_E := fun pc => (bif Nat.ble 15 pc then
  (bif Nat.ble 22 pc then
  (bif Nat.ble 26 pc then
  (bif Nat.ble 27 pc then
  (bif Nat.ble 30 pc then (.return_, 1, [], [], 0, 0, 0, 30) else (bif Nat.beq 27 pc then (.putfield 331, 3, [(10, 62)], [[6160]], 0, 0, 0, 27) else mm_nop)) else (.isub, 1, [], [], 0, 0, 0, 26)) else (bif Nat.ble 25 pc then (.iconst 1, 1, [], [], 0, 1, 0, 25) else (bif Nat.beq 22 pc then (.getfield 331, 3, [(10, 62)], [[6160]], 0, 0, 0, 22) else mm_nop))) else (bif Nat.ble 17 pc then
  (bif Nat.ble 20 pc then
  (bif Nat.ble 21 pc then (.dup, 1, [], [], 0, 0, 0, 21) else (.aload_n 0, 1, [], [], 0, 0, 0, 20)) else (bif Nat.beq 17 pc then (.putfield 334, 3, [(10, 64)], [[6162]], 0, 0, 0, 17) else mm_nop)) else (bif Nat.ble 16 pc then (.iadd, 1, [], [], 0, 0, 0, 16) else (.iconst 1, 1, [], [], 0, 1, 0, 15)))) else (bif Nat.ble 8 pc then
  (bif Nat.ble 10 pc then
  (bif Nat.ble 11 pc then
  (bif Nat.ble 12 pc then
  (bif Nat.beq 12 pc then (.getfield 334, 3, [(10, 64)], [[6162]], 0, 0, 0, 12) else mm_nop) else (.dup, 1, [], [], 0, 0, 0, 11)) else (.aload_n 0, 1, [], [], 0, 0, 0, 10)) else (bif Nat.ble 9 pc then (.iastore, 1, [], [], 0, 0, 0, 9) else (.iload_n 1, 1, [], [], 1, 0, 0, 8))) else (bif Nat.ble 4 pc then
  (bif Nat.ble 5 pc then
  (bif Nat.beq 5 pc then (.getfield 334, 3, [(10, 64)], [[6162]], 0, 0, 0, 5) else mm_nop) else (.aload_n 0, 1, [], [], 0, 0, 0, 4)) else (bif Nat.ble 1 pc then
  (bif Nat.beq 1 pc then (.getfield 162, 3, [(10, 63)], [[6161]], 0, 0, 0, 1) else mm_nop) else (.aload_n 0, 1, [], [], 0, 0, 0, 0)))))
def mm_k222 : List mm_E := (List.range 31).map mm_f222
def mm_m222 : mm_M := (yX12_gives, cX12_gives, 2, none, mm_k222, 1, 0, 0, 8054)
/-- TypeCopierModel.takes.()I -/
def mm_f223 : Nat → mm_E := fun pc => (bif Nat.ble 10 pc then
  (bif Nat.ble 15 pc then
  (bif Nat.ble 18 pc then
  (bif Nat.ble 19 pc then (.ireturn, 1, [], [], 0, 0, 0, 19) else (.iaload, 1, [], [], 0, 0, 0, 18)) else (bif Nat.beq 15 pc then (.getfield 334, 3, [(10, 64)], [[6162]], 0, 0, 0, 15) else mm_nop)) else (bif Nat.ble 11 pc then
  (bif Nat.ble 14 pc then (.aload_n 0, 1, [], [], 0, 0, 0, 14) else (bif Nat.beq 11 pc then (.getfield 162, 3, [(10, 63)], [[6161]], 0, 0, 0, 11) else mm_nop)) else (.aload_n 0, 1, [], [], 0, 0, 0, 10))) else (bif Nat.ble 5 pc then
  (bif Nat.ble 6 pc then
  (bif Nat.ble 7 pc then
  (bif Nat.beq 7 pc then (.putfield 334, 3, [(10, 64)], [[6162]], 0, 0, 0, 7) else mm_nop) else (.isub, 1, [], [], 0, 0, 0, 6)) else (.iconst 1, 1, [], [], 0, 1, 0, 5)) else (bif Nat.ble 1 pc then
  (bif Nat.ble 2 pc then
  (bif Nat.beq 2 pc then (.getfield 334, 3, [(10, 64)], [[6162]], 0, 0, 0, 2) else mm_nop) else (.dup, 1, [], [], 0, 0, 0, 1)) else (.aload_n 0, 1, [], [], 0, 0, 0, 0))))
def mm_k223 : List mm_E := (List.range 20).map mm_f223
def mm_m223 : mm_M := (yX12_takes, cX12_takes, 1, (some .int), mm_k223, 0, 0, 0, 8062)
/-- TypeCopierModel.calls.(II)Z -/
def mm_f224 : Nat → mm_E := fun pc => (bif Nat.ble 27 pc then
  (bif Nat.ble 43 pc then
  (bif Nat.ble 51 pc then
  (bif Nat.ble 53 pc then
  (bif Nat.ble 56 pc then
  (bif Nat.ble 57 pc then (.ireturn, 1, [], [], 0, 0, 0, 57) else (.iconst 1, 1, [], [], 0, 1, 0, 56)) else (bif Nat.beq 53 pc then (.invokevirtual 343, 3, [(10, 221)], [[8043, 8045, 1055, 2015]], 1, 0, 0, 53) else mm_nop)) else (bif Nat.ble 52 pc then (.iaload, 1, [], [], 0, 0, 0, 52) else (.iload_n 1, 1, [], [], 1, 0, 0, 51))) else (bif Nat.ble 47 pc then
  (bif Nat.ble 48 pc then
  (bif Nat.beq 48 pc then (.getfield 78, 3, [(10, 24)], [[6122]], 0, 0, 0, 48) else mm_nop) else (.aload_n 0, 1, [], [], 0, 0, 0, 47)) else (bif Nat.ble 46 pc then (.aload_n 0, 1, [], [], 0, 0, 0, 46) else (bif Nat.beq 43 pc then (.putfield 340, 3, [(10, 50)], [[6148]], 0, 0, 0, 43) else mm_nop)))) else (bif Nat.ble 33 pc then
  (bif Nat.ble 37 pc then
  (bif Nat.ble 40 pc then
  (bif Nat.beq 40 pc then (.invokestatic 178, 3, [(0, 170)], [[7093, 7094, 2015]], 2, 0, 0, 40) else mm_nop) else (bif Nat.beq 37 pc then (.getfield 340, 3, [(10, 50)], [[6148]], 0, 0, 0, 37) else mm_nop)) else (bif Nat.ble 36 pc then (.aload_n 0, 1, [], [], 0, 0, 0, 36) else (bif Nat.beq 33 pc then (.getfield 337, 3, [(10, 66)], [[6164]], 0, 0, 0, 33) else mm_nop))) else (bif Nat.ble 31 pc then
  (bif Nat.ble 32 pc then (.aload_n 0, 1, [], [], 0, 0, 0, 32) else (.aload_n 0, 1, [], [], 0, 0, 0, 31)) else (bif Nat.ble 28 pc then
  (bif Nat.beq 28 pc then (.putfield 337, 3, [(10, 66)], [[6164]], 0, 0, 0, 28) else mm_nop) else (.iadd, 1, [], [], 0, 0, 0, 27))))) else (bif Nat.ble 15 pc then
  (bif Nat.ble 21 pc then
  (bif Nat.ble 23 pc then
  (bif Nat.ble 26 pc then (.iconst 1, 1, [], [], 0, 1, 0, 26) else (bif Nat.beq 23 pc then (.getfield 337, 3, [(10, 66)], [[6164]], 0, 0, 0, 23) else mm_nop)) else (bif Nat.ble 22 pc then (.dup, 1, [], [], 0, 0, 0, 22) else (.aload_n 0, 1, [], [], 0, 0, 0, 21))) else (bif Nat.ble 19 pc then
  (bif Nat.ble 20 pc then (.iastore, 1, [], [], 0, 0, 0, 20) else (.iload_n 2, 1, [], [], 2, 0, 0, 19)) else (bif Nat.ble 16 pc then
  (bif Nat.beq 16 pc then (.getfield 337, 3, [(10, 66)], [[6164]], 0, 0, 0, 16) else mm_nop) else (.aload_n 0, 1, [], [], 0, 0, 0, 15)))) else (bif Nat.ble 9 pc then
  (bif Nat.ble 11 pc then
  (bif Nat.ble 12 pc then
  (bif Nat.beq 12 pc then (.getfield 165, 3, [(10, 65)], [[6163]], 0, 0, 0, 12) else mm_nop) else (.aload_n 0, 1, [], [], 0, 0, 0, 11)) else (bif Nat.ble 10 pc then (.ireturn, 1, [], [], 0, 0, 0, 10) else (.iconst 0, 1, [], [], 0, 0, 0, 9))) else (bif Nat.ble 4 pc then
  (bif Nat.ble 6 pc then
  (bif Nat.beq 6 pc then (.if_icmp .ne 5, 3, [(0, 11)], [], 0, 0, 0, 6) else mm_nop) else (bif Nat.beq 4 pc then (.bipush 30, 2, [], [], 0, 30, 0, 4) else mm_nop)) else (bif Nat.ble 1 pc then
  (bif Nat.beq 1 pc then (.getfield 337, 3, [(10, 66)], [[6164]], 0, 0, 0, 1) else mm_nop) else (.aload_n 0, 1, [], [], 0, 0, 0, 0))))))
def mm_k224 : List mm_E := (List.range 58).map mm_f224
def mm_m224 : mm_M := (yX12_calls, cX12_calls, 3, (some .boolean), mm_k224, 2, 0, 0, 8042)
/-- TypeCopierModel.begins.(I)I -/
def mm_f225 : Nat → mm_E := fun pc => (bif Nat.ble 102 pc then
  (bif Nat.ble 127 pc then
  (bif Nat.ble 136 pc then
  (bif Nat.ble 139 pc then
  (bif Nat.ble 145 pc then
  (bif Nat.ble 146 pc then (.ireturn, 1, [], [], 0, 0, 0, 146) else (.iconst 0, 1, [], [], 0, 0, 0, 145)) else (bif Nat.ble 142 pc then
  (bif Nat.beq 142 pc then (.invokevirtual 343, 3, [(10, 221)], [[8043, 8045, 1055, 2015]], 1, 0, 0, 142) else mm_nop) else (bif Nat.beq 139 pc then (.invokevirtual 245, 3, [(10, 186)], [[7158, 7160, 1032, 2015]], 2, 0, 0, 139) else mm_nop))) else (bif Nat.ble 137 pc then
  (bif Nat.ble 138 pc then (.iconst 0, 1, [], [], 0, 0, 0, 138) else (.iload_n 1, 1, [], [], 1, 0, 0, 137)) else (.aload_n 0, 1, [], [], 0, 0, 0, 136))) else (bif Nat.ble 132 pc then
  (bif Nat.ble 134 pc then
  (bif Nat.ble 135 pc then (.aload_n 0, 1, [], [], 0, 0, 0, 135) else (.iastore, 1, [], [], 0, 0, 0, 134)) else (bif Nat.ble 133 pc then (.iconst 1, 1, [], [], 0, 1, 0, 133) else (.isub, 1, [], [], 0, 0, 0, 132))) else (bif Nat.ble 128 pc then
  (bif Nat.ble 131 pc then (.iconst 1, 1, [], [], 0, 1, 0, 131) else (bif Nat.beq 128 pc then (.getfield 331, 3, [(10, 62)], [[6160]], 0, 0, 0, 128) else mm_nop)) else (.aload_n 0, 1, [], [], 0, 0, 0, 127)))) else (bif Nat.ble 112 pc then
  (bif Nat.ble 117 pc then
  (bif Nat.ble 123 pc then
  (bif Nat.ble 124 pc then
  (bif Nat.beq 124 pc then (.getfield 159, 3, [(10, 61)], [[6159]], 0, 0, 0, 124) else mm_nop) else (.aload_n 0, 1, [], [], 0, 0, 0, 123)) else (bif Nat.ble 120 pc then
  (bif Nat.beq 120 pc then (.goto 25, 3, [(0, 145)], [], 0, 0, 0, 120) else mm_nop) else (bif Nat.beq 117 pc then (.invokevirtual 349, 3, [(10, 222)], [[8051, 8053, 1057, 2015]], 1, 0, 0, 117) else mm_nop))) else (bif Nat.ble 115 pc then
  (bif Nat.ble 116 pc then (.iconst (-1), 1, [], [], 0, (-1), 0, 116) else (.aload_n 0, 1, [], [], 0, 0, 0, 115)) else (bif Nat.beq 112 pc then (.goto 33, 3, [(0, 145)], [], 0, 0, 0, 112) else mm_nop))) else (bif Nat.ble 107 pc then
  (bif Nat.ble 108 pc then
  (bif Nat.ble 109 pc then
  (bif Nat.beq 109 pc then (.invokevirtual 349, 3, [(10, 222)], [[8051, 8053, 1057, 2015]], 1, 0, 0, 109) else mm_nop) else (.iaload, 1, [], [], 0, 0, 0, 108)) else (.isub, 1, [], [], 0, 0, 0, 107)) else (bif Nat.ble 103 pc then
  (bif Nat.ble 106 pc then (.iconst 1, 1, [], [], 0, 1, 0, 106) else (bif Nat.beq 103 pc then (.getfield 337, 3, [(10, 66)], [[6164]], 0, 0, 0, 103) else mm_nop)) else (.aload_n 0, 1, [], [], 0, 0, 0, 102))))) else (bif Nat.ble 23 pc then
  (bif Nat.ble 89 pc then
  (bif Nat.ble 94 pc then
  (bif Nat.ble 98 pc then
  (bif Nat.ble 99 pc then
  (bif Nat.beq 99 pc then (.getfield 165, 3, [(10, 65)], [[6163]], 0, 0, 0, 99) else mm_nop) else (.aload_n 0, 1, [], [], 0, 0, 0, 98)) else (bif Nat.ble 97 pc then (.aload_n 0, 1, [], [], 0, 0, 0, 97) else (bif Nat.beq 94 pc then (.goto 51, 3, [(0, 145)], [], 0, 0, 0, 94) else mm_nop))) else (bif Nat.ble 90 pc then
  (bif Nat.ble 91 pc then
  (bif Nat.beq 91 pc then (.invokevirtual 349, 3, [(10, 222)], [[8051, 8053, 1057, 2015]], 1, 0, 0, 91) else mm_nop) else (.iaload, 1, [], [], 0, 0, 0, 90)) else (.iload_n 1, 1, [], [], 1, 0, 0, 89))) else (bif Nat.ble 28 pc then
  (bif Nat.ble 85 pc then
  (bif Nat.ble 86 pc then
  (bif Nat.beq 86 pc then (.getfield 54, 3, [(10, 15)], [[6113]], 0, 0, 0, 86) else mm_nop) else (.aload_n 0, 1, [], [], 0, 0, 0, 85)) else (bif Nat.ble 84 pc then (.aload_n 0, 1, [], [], 0, 0, 0, 84) else (bif Nat.beq 28 pc then (.tableswitch 95 0 9 #[56, 56, 69, 95, 95, 95, 95, 95, 95, 87], 56, [(0, 123), (0, 84), (1, 84), (2, 97), (3, 123), (4, 123), (5, 123), (6, 123), (7, 123), (8, 123), (9, 115)], [], 0, 0, 0, 28) else mm_nop))) else (bif Nat.ble 26 pc then
  (bif Nat.ble 27 pc then (.iaload, 1, [], [], 0, 0, 0, 27) else (.iload_n 1, 1, [], [], 1, 0, 0, 26)) else (bif Nat.beq 23 pc then (.getfield 51, 3, [(10, 14)], [[6112]], 0, 0, 0, 23) else mm_nop)))) else (bif Nat.ble 12 pc then
  (bif Nat.ble 17 pc then
  (bif Nat.ble 19 pc then
  (bif Nat.ble 22 pc then (.aload_n 0, 1, [], [], 0, 0, 0, 22) else (bif Nat.beq 19 pc then (.putfield 346, 3, [(10, 48)], [[6146]], 0, 0, 0, 19) else mm_nop)) else (bif Nat.ble 18 pc then (.iadd, 1, [], [], 0, 0, 0, 18) else (.iconst 1, 1, [], [], 0, 1, 0, 17))) else (bif Nat.ble 13 pc then
  (bif Nat.ble 14 pc then
  (bif Nat.beq 14 pc then (.getfield 346, 3, [(10, 48)], [[6146]], 0, 0, 0, 14) else mm_nop) else (.dup, 1, [], [], 0, 0, 0, 13)) else (.aload_n 0, 1, [], [], 0, 0, 0, 12))) else (bif Nat.ble 7 pc then
  (bif Nat.ble 10 pc then
  (bif Nat.ble 11 pc then (.ireturn, 1, [], [], 0, 0, 0, 11) else (.iconst 2, 1, [], [], 0, 2, 0, 10)) else (bif Nat.beq 7 pc then (.if_icmp .ne 5, 3, [(0, 12)], [], 0, 0, 0, 7) else mm_nop)) else (bif Nat.ble 1 pc then
  (bif Nat.ble 4 pc then
  (bif Nat.beq 4 pc then (.sipush 600, 3, [], [], 0, 600, 0, 4) else mm_nop) else (bif Nat.beq 1 pc then (.getfield 346, 3, [(10, 48)], [[6146]], 0, 0, 0, 1) else mm_nop)) else (.aload_n 0, 1, [], [], 0, 0, 0, 0))))))
def mm_k225 : List mm_E := (List.range 147).map mm_f225
def mm_m225 : mm_M := (yX12_begins, cX12_begins, 2, (some .int), mm_k225, 1, 0, 0, 8050)
/-- TypeCopierModel.goesOn.(I)I -/
def mm_f226 : Nat → mm_E := fun pc => (bif Nat.ble 144 pc then
  (bif Nat.ble 189 pc then
  (bif Nat.ble 216 pc then
  (bif Nat.ble 226 pc then
  (bif Nat.ble 234 pc then
  (bif Nat.ble 238 pc then
  (bif Nat.ble 239 pc then (.ireturn, 1, [], [], 0, 0, 0, 239) else (.iconst 3, 1, [], [], 0, 3, 0, 238)) else (bif Nat.ble 235 pc then
  (bif Nat.beq 235 pc then (.goto 4, 3, [(0, 239)], [], 0, 0, 0, 235) else mm_nop) else (.iconst 0, 1, [], [], 0, 0, 0, 234))) else (bif Nat.ble 228 pc then
  (bif Nat.ble 231 pc then
  (bif Nat.beq 231 pc then (.ifCond .eq 7, 3, [(0, 238)], [], 0, 0, 0, 231) else mm_nop) else (bif Nat.beq 228 pc then (.invokevirtual 355, 3, [(10, 224)], [[8039, 8041, 1054, 2015]], 2, 0, 0, 228) else mm_nop)) else (bif Nat.ble 227 pc then (.iload_n 3, 1, [], [], 3, 0, 0, 227) else (.iaload, 1, [], [], 0, 0, 0, 226)))) else (bif Nat.ble 220 pc then
  (bif Nat.ble 222 pc then
  (bif Nat.ble 225 pc then (.iload_n 1, 1, [], [], 1, 0, 0, 225) else (bif Nat.beq 222 pc then (.getfield 54, 3, [(10, 15)], [[6113]], 0, 0, 0, 222) else mm_nop)) else (bif Nat.ble 221 pc then (.aload_n 0, 1, [], [], 0, 0, 0, 221) else (.aload_n 0, 1, [], [], 0, 0, 0, 220))) else (bif Nat.ble 218 pc then
  (bif Nat.ble 219 pc then (.iastore, 1, [], [], 0, 0, 0, 219) else (.iconst 4, 1, [], [], 0, 4, 0, 218)) else (bif Nat.ble 217 pc then (.isub, 1, [], [], 0, 0, 0, 217) else (.iconst 1, 1, [], [], 0, 1, 0, 216))))) else (bif Nat.ble 202 pc then
  (bif Nat.ble 208 pc then
  (bif Nat.ble 212 pc then
  (bif Nat.ble 213 pc then
  (bif Nat.beq 213 pc then (.getfield 331, 3, [(10, 62)], [[6160]], 0, 0, 0, 213) else mm_nop) else (.aload_n 0, 1, [], [], 0, 0, 0, 212)) else (bif Nat.ble 209 pc then
  (bif Nat.beq 209 pc then (.getfield 159, 3, [(10, 61)], [[6159]], 0, 0, 0, 209) else mm_nop) else (.aload_n 0, 1, [], [], 0, 0, 0, 208))) else (bif Nat.ble 206 pc then
  (bif Nat.ble 207 pc then (.ireturn, 1, [], [], 0, 0, 0, 207) else (.iconst 0, 1, [], [], 0, 0, 0, 206)) else (bif Nat.ble 203 pc then
  (bif Nat.beq 203 pc then (.invokevirtual 349, 3, [(10, 222)], [[8051, 8053, 1057, 2015]], 1, 0, 0, 203) else mm_nop) else (.iaload, 1, [], [], 0, 0, 0, 202)))) else (bif Nat.ble 194 pc then
  (bif Nat.ble 198 pc then
  (bif Nat.ble 201 pc then (.iload_n 3, 1, [], [], 3, 0, 0, 201) else (bif Nat.beq 198 pc then (.getfield 126, 3, [(10, 45)], [[6143]], 0, 0, 0, 198) else mm_nop)) else (bif Nat.ble 197 pc then (.aload_n 0, 1, [], [], 0, 0, 0, 197) else (bif Nat.beq 194 pc then (.goto 9, 3, [(0, 203)], [], 0, 0, 0, 194) else mm_nop))) else (bif Nat.ble 192 pc then
  (bif Nat.ble 193 pc then (.iaload, 1, [], [], 0, 0, 0, 193) else (.iload_n 3, 1, [], [], 3, 0, 0, 192)) else (bif Nat.beq 189 pc then (.getfield 123, 3, [(10, 44)], [[6142]], 0, 0, 0, 189) else mm_nop))))) else (bif Nat.ble 165 pc then
  (bif Nat.ble 176 pc then
  (bif Nat.ble 182 pc then
  (bif Nat.ble 185 pc then
  (bif Nat.ble 188 pc then (.aload_n 0, 1, [], [], 0, 0, 0, 188) else (bif Nat.beq 185 pc then (.if_icmp .ne 12, 3, [(0, 197)], [], 0, 0, 0, 185) else mm_nop)) else (bif Nat.ble 183 pc then
  (bif Nat.beq 183 pc then (.bipush 12, 2, [], [], 0, 12, 0, 183) else mm_nop) else (.iload_n 2, 1, [], [], 2, 0, 0, 182))) else (bif Nat.ble 180 pc then
  (bif Nat.ble 181 pc then (.aload_n 0, 1, [], [], 0, 0, 0, 181) else (.ireturn, 1, [], [], 0, 0, 0, 180)) else (bif Nat.ble 179 pc then (.iconst 1, 1, [], [], 0, 1, 0, 179) else (bif Nat.beq 176 pc then (.if_icmp .ne 5, 3, [(0, 181)], [], 0, 0, 0, 176) else mm_nop)))) else (bif Nat.ble 172 pc then
  (bif Nat.ble 174 pc then
  (bif Nat.ble 175 pc then (.iconst (-1), 1, [], [], 0, (-1), 0, 175) else (.iload_n 3, 1, [], [], 3, 0, 0, 174)) else (bif Nat.ble 173 pc then (.ireturn, 1, [], [], 0, 0, 0, 173) else (.iconst 0, 1, [], [], 0, 0, 0, 172))) else (bif Nat.ble 168 pc then
  (bif Nat.ble 169 pc then
  (bif Nat.beq 169 pc then (.invokevirtual 349, 3, [(10, 222)], [[8051, 8053, 1057, 2015]], 1, 0, 0, 169) else mm_nop) else (.iconst 0, 1, [], [], 0, 0, 0, 168)) else (bif Nat.beq 165 pc then (.goto 4, 3, [(0, 169)], [], 0, 0, 0, 165) else mm_nop)))) else (bif Nat.ble 153 pc then
  (bif Nat.ble 159 pc then
  (bif Nat.ble 161 pc then
  (bif Nat.ble 164 pc then (.iconst 1, 1, [], [], 0, 1, 0, 164) else (bif Nat.beq 161 pc then (.if_icmp .ne 7, 3, [(0, 168)], [], 0, 0, 0, 161) else mm_nop)) else (bif Nat.ble 160 pc then (.iconst (-1), 1, [], [], 0, (-1), 0, 160) else (.iload_n 3, 1, [], [], 3, 0, 0, 159))) else (bif Nat.ble 157 pc then
  (bif Nat.ble 158 pc then (.aload_n 0, 1, [], [], 0, 0, 0, 158) else (.ireturn, 1, [], [], 0, 0, 0, 157)) else (bif Nat.ble 156 pc then (.iconst 0, 1, [], [], 0, 0, 0, 156) else (bif Nat.beq 153 pc then (.invokevirtual 349, 3, [(10, 222)], [[8051, 8053, 1057, 2015]], 1, 0, 0, 153) else mm_nop)))) else (bif Nat.ble 147 pc then
  (bif Nat.ble 151 pc then
  (bif Nat.ble 152 pc then (.iaload, 1, [], [], 0, 0, 0, 152) else (.iload_n 3, 1, [], [], 3, 0, 0, 151)) else (bif Nat.ble 148 pc then
  (bif Nat.beq 148 pc then (.getfield 126, 3, [(10, 45)], [[6143]], 0, 0, 0, 148) else mm_nop) else (.aload_n 0, 1, [], [], 0, 0, 0, 147))) else (bif Nat.ble 145 pc then
  (bif Nat.ble 146 pc then (.aload_n 0, 1, [], [], 0, 0, 0, 146) else (.ireturn, 1, [], [], 0, 0, 0, 145)) else (.iconst 0, 1, [], [], 0, 0, 0, 144)))))) else (bif Nat.ble 96 pc then
  (bif Nat.ble 119 pc then
  (bif Nat.ble 132 pc then
  (bif Nat.ble 136 pc then
  (bif Nat.ble 140 pc then
  (bif Nat.ble 141 pc then
  (bif Nat.beq 141 pc then (.invokevirtual 349, 3, [(10, 222)], [[8051, 8053, 1057, 2015]], 1, 0, 0, 141) else mm_nop) else (.iaload, 1, [], [], 0, 0, 0, 140)) else (bif Nat.ble 139 pc then (.iload_n 3, 1, [], [], 3, 0, 0, 139) else (bif Nat.beq 136 pc then (.getfield 123, 3, [(10, 44)], [[6142]], 0, 0, 0, 136) else mm_nop))) else (bif Nat.ble 134 pc then
  (bif Nat.ble 135 pc then (.aload_n 0, 1, [], [], 0, 0, 0, 135) else (.aload_n 0, 1, [], [], 0, 0, 0, 134)) else (bif Nat.ble 133 pc then (.ireturn, 1, [], [], 0, 0, 0, 133) else (.iconst 0, 1, [], [], 0, 0, 0, 132)))) else (bif Nat.ble 124 pc then
  (bif Nat.ble 128 pc then
  (bif Nat.ble 129 pc then
  (bif Nat.beq 129 pc then (.invokevirtual 343, 3, [(10, 221)], [[8043, 8045, 1055, 2015]], 1, 0, 0, 129) else mm_nop) else (.iaload, 1, [], [], 0, 0, 0, 128)) else (bif Nat.ble 127 pc then (.iload_n 1, 1, [], [], 1, 0, 0, 127) else (bif Nat.beq 124 pc then (.getfield 60, 3, [(10, 17)], [[6115]], 0, 0, 0, 124) else mm_nop))) else (bif Nat.ble 120 pc then
  (bif Nat.ble 123 pc then (.aload_n 0, 1, [], [], 0, 0, 0, 123) else (bif Nat.beq 120 pc then (.goto 9, 3, [(0, 129)], [], 0, 0, 0, 120) else mm_nop)) else (.iaload, 1, [], [], 0, 0, 0, 119)))) else (bif Nat.ble 107 pc then
  (bif Nat.ble 111 pc then
  (bif Nat.ble 115 pc then
  (bif Nat.ble 118 pc then (.iload_n 1, 1, [], [], 1, 0, 0, 118) else (bif Nat.beq 115 pc then (.getfield 57, 3, [(10, 16)], [[6114]], 0, 0, 0, 115) else mm_nop)) else (bif Nat.ble 114 pc then (.aload_n 0, 1, [], [], 0, 0, 0, 114) else (bif Nat.beq 111 pc then (.if_icmp .ne 12, 3, [(0, 123)], [], 0, 0, 0, 111) else mm_nop))) else (bif Nat.ble 109 pc then
  (bif Nat.ble 110 pc then (.iconst 1, 1, [], [], 0, 1, 0, 110) else (.iload_n 3, 1, [], [], 3, 0, 0, 109)) else (bif Nat.ble 108 pc then (.aload_n 0, 1, [], [], 0, 0, 0, 108) else (.iastore, 1, [], [], 0, 0, 0, 107)))) else (bif Nat.ble 101 pc then
  (bif Nat.ble 105 pc then
  (bif Nat.ble 106 pc then (.iconst 3, 1, [], [], 0, 3, 0, 106) else (.isub, 1, [], [], 0, 0, 0, 105)) else (bif Nat.ble 104 pc then (.iconst 1, 1, [], [], 0, 1, 0, 104) else (bif Nat.beq 101 pc then (.getfield 331, 3, [(10, 62)], [[6160]], 0, 0, 0, 101) else mm_nop))) else (bif Nat.ble 97 pc then
  (bif Nat.ble 100 pc then (.aload_n 0, 1, [], [], 0, 0, 0, 100) else (bif Nat.beq 97 pc then (.getfield 159, 3, [(10, 61)], [[6159]], 0, 0, 0, 97) else mm_nop)) else (.aload_n 0, 1, [], [], 0, 0, 0, 96))))) else (bif Nat.ble 25 pc then
  (bif Nat.ble 34 pc then
  (bif Nat.ble 40 pc then
  (bif Nat.ble 44 pc then
  (bif Nat.ble 45 pc then
  (bif Nat.beq 45 pc then (.tableswitch 163 5 13 #[51, 163, 89, 101, 163, 163, 113, 129, 129], 51, [(0, 208), (5, 96), (6, 208), (7, 134), (8, 146), (9, 208), (10, 208), (11, 158), (12, 174), (13, 174)], [], 0, 0, 0, 45) else mm_nop) else (.iload_n 2, 1, [], [], 2, 0, 0, 44)) else (bif Nat.ble 43 pc then (.istore_n 3, 1, [], [], 3, 0, 0, 43) else (bif Nat.beq 40 pc then (.invokevirtual 352, 3, [(10, 223)], [[8059, 8061, 1059, 2015]], 0, 0, 0, 40) else mm_nop))) else (bif Nat.ble 38 pc then
  (bif Nat.ble 39 pc then (.aload_n 0, 1, [], [], 0, 0, 0, 39) else (.ireturn, 1, [], [], 0, 0, 0, 38)) else (bif Nat.ble 37 pc then (.iconst 0, 1, [], [], 0, 0, 0, 37) else (bif Nat.beq 34 pc then (.invokevirtual 343, 3, [(10, 221)], [[8043, 8045, 1055, 2015]], 1, 0, 0, 34) else mm_nop)))) else (bif Nat.ble 28 pc then
  (bif Nat.ble 32 pc then
  (bif Nat.ble 33 pc then (.iaload, 1, [], [], 0, 0, 0, 33) else (.iload_n 1, 1, [], [], 1, 0, 0, 32)) else (bif Nat.ble 29 pc then
  (bif Nat.beq 29 pc then (.getfield 57, 3, [(10, 16)], [[6114]], 0, 0, 0, 29) else mm_nop) else (.aload_n 0, 1, [], [], 0, 0, 0, 28))) else (bif Nat.ble 26 pc then
  (bif Nat.ble 27 pc then (.aload_n 0, 1, [], [], 0, 0, 0, 27) else (.iastore, 1, [], [], 0, 0, 0, 26)) else (.iconst 2, 1, [], [], 0, 2, 0, 25)))) else (bif Nat.ble 11 pc then
  (bif Nat.ble 19 pc then
  (bif Nat.ble 23 pc then
  (bif Nat.ble 24 pc then (.isub, 1, [], [], 0, 0, 0, 24) else (.iconst 1, 1, [], [], 0, 1, 0, 23)) else (bif Nat.ble 20 pc then
  (bif Nat.beq 20 pc then (.getfield 331, 3, [(10, 62)], [[6160]], 0, 0, 0, 20) else mm_nop) else (.aload_n 0, 1, [], [], 0, 0, 0, 19))) else (bif Nat.ble 15 pc then
  (bif Nat.ble 16 pc then
  (bif Nat.beq 16 pc then (.getfield 159, 3, [(10, 61)], [[6159]], 0, 0, 0, 16) else mm_nop) else (.aload_n 0, 1, [], [], 0, 0, 0, 15)) else (bif Nat.ble 12 pc then
  (bif Nat.beq 12 pc then (.if_icmp .ne 27, 3, [(0, 39)], [], 0, 0, 0, 12) else mm_nop) else (.iconst 2, 1, [], [], 0, 2, 0, 11)))) else (bif Nat.ble 5 pc then
  (bif Nat.ble 7 pc then
  (bif Nat.ble 8 pc then
  (bif Nat.beq 8 pc then (.invokestatic 225, 3, [(0, 185)], [[7131, 7132, 2015]], 1, 0, 0, 8) else mm_nop) else (.iload_n 2, 1, [], [], 2, 0, 0, 7)) else (bif Nat.ble 6 pc then (.istore_n 2, 1, [], [], 2, 0, 0, 6) else (.iaload, 1, [], [], 0, 0, 0, 5))) else (bif Nat.ble 1 pc then
  (bif Nat.ble 4 pc then (.iload_n 1, 1, [], [], 1, 0, 0, 4) else (bif Nat.beq 1 pc then (.getfield 51, 3, [(10, 14)], [[6112]], 0, 0, 0, 1) else mm_nop)) else (.aload_n 0, 1, [], [], 0, 0, 0, 0)))))))
def mm_k226 : List mm_E := (List.range 240).map mm_f226
def mm_m226 : mm_M := (yX12_goesOn, cX12_goesOn, 4, (some .int), mm_k226, 1, 0, 0, 8058)
/-- TypeCopierModel.both.(I)I -/
def mm_f227 : Nat → mm_E := fun pc => (bif Nat.ble 73 pc then
  (bif Nat.ble 96 pc then
  (bif Nat.ble 107 pc then
  (bif Nat.ble 110 pc then
  (bif Nat.ble 116 pc then
  (bif Nat.ble 117 pc then (.ireturn, 1, [], [], 0, 0, 0, 117) else (.iconst 0, 1, [], [], 0, 0, 0, 116)) else (bif Nat.ble 113 pc then
  (bif Nat.beq 113 pc then (.invokevirtual 349, 3, [(10, 222)], [[8051, 8053, 1057, 2015]], 1, 0, 0, 113) else mm_nop) else (bif Nat.beq 110 pc then (.invokevirtual 312, 3, [(10, 213)], [[8035, 8037, 1053, 2015]], 2, 0, 0, 110) else mm_nop))) else (bif Nat.ble 108 pc then
  (bif Nat.ble 109 pc then (.iload_n 2, 1, [], [], 2, 0, 0, 109) else (.iload_n 3, 1, [], [], 3, 0, 0, 108)) else (.aload_n 0, 1, [], [], 0, 0, 0, 107))) else (bif Nat.ble 101 pc then
  (bif Nat.ble 103 pc then
  (bif Nat.ble 106 pc then (.aload_n 0, 1, [], [], 0, 0, 0, 106) else (bif Nat.beq 103 pc then (.putfield 358, 3, [(10, 49)], [[6147]], 0, 0, 0, 103) else mm_nop)) else (bif Nat.ble 102 pc then (.iadd, 1, [], [], 0, 0, 0, 102) else (.iconst 1, 1, [], [], 0, 1, 0, 101))) else (bif Nat.ble 97 pc then
  (bif Nat.ble 98 pc then
  (bif Nat.beq 98 pc then (.getfield 358, 3, [(10, 49)], [[6147]], 0, 0, 0, 98) else mm_nop) else (.dup, 1, [], [], 0, 0, 0, 97)) else (.aload_n 0, 1, [], [], 0, 0, 0, 96)))) else (bif Nat.ble 84 pc then
  (bif Nat.ble 89 pc then
  (bif Nat.ble 94 pc then
  (bif Nat.ble 95 pc then (.ireturn, 1, [], [], 0, 0, 0, 95) else (.iconst 4, 1, [], [], 0, 4, 0, 94)) else (bif Nat.ble 91 pc then
  (bif Nat.beq 91 pc then (.if_icmp .ne 5, 3, [(0, 96)], [], 0, 0, 0, 91) else mm_nop) else (bif Nat.beq 89 pc then (.bipush 100, 2, [], [], 0, 100, 0, 89) else mm_nop))) else (bif Nat.ble 85 pc then
  (bif Nat.ble 86 pc then
  (bif Nat.beq 86 pc then (.getfield 358, 3, [(10, 49)], [[6147]], 0, 0, 0, 86) else mm_nop) else (.aload_n 0, 1, [], [], 0, 0, 0, 85)) else (.ireturn, 1, [], [], 0, 0, 0, 84))) else (bif Nat.ble 76 pc then
  (bif Nat.ble 80 pc then
  (bif Nat.ble 83 pc then (.iconst 0, 1, [], [], 0, 0, 0, 83) else (bif Nat.beq 80 pc then (.invokevirtual 349, 3, [(10, 222)], [[8051, 8053, 1057, 2015]], 1, 0, 0, 80) else mm_nop)) else (bif Nat.ble 77 pc then
  (bif Nat.beq 77 pc then (.invokevirtual 312, 3, [(10, 213)], [[8035, 8037, 1053, 2015]], 2, 0, 0, 77) else mm_nop) else (.iload_n 2, 1, [], [], 2, 0, 0, 76))) else (bif Nat.ble 74 pc then
  (bif Nat.ble 75 pc then (.iload_n 3, 1, [], [], 3, 0, 0, 75) else (.aload_n 0, 1, [], [], 0, 0, 0, 74)) else (.aload_n 0, 1, [], [], 0, 0, 0, 73))))) else (bif Nat.ble 51 pc then
  (bif Nat.ble 60 pc then
  (bif Nat.ble 67 pc then
  (bif Nat.ble 71 pc then
  (bif Nat.ble 72 pc then (.ireturn, 1, [], [], 0, 0, 0, 72) else (.iconst 0, 1, [], [], 0, 0, 0, 71)) else (bif Nat.ble 68 pc then
  (bif Nat.beq 68 pc then (.invokevirtual 349, 3, [(10, 222)], [[8051, 8053, 1057, 2015]], 1, 0, 0, 68) else mm_nop) else (.iconst 0, 1, [], [], 0, 0, 0, 67))) else (bif Nat.ble 63 pc then
  (bif Nat.ble 64 pc then
  (bif Nat.beq 64 pc then (.goto 4, 3, [(0, 68)], [], 0, 0, 0, 64) else mm_nop) else (.iconst 1, 1, [], [], 0, 1, 0, 63)) else (bif Nat.beq 60 pc then (.if_icmp .ge 7, 3, [(0, 67)], [], 0, 0, 0, 60) else mm_nop))) else (bif Nat.ble 56 pc then
  (bif Nat.ble 58 pc then
  (bif Nat.ble 59 pc then (.iload_n 2, 1, [], [], 2, 0, 0, 59) else (.iload_n 3, 1, [], [], 3, 0, 0, 58)) else (bif Nat.ble 57 pc then (.aload_n 0, 1, [], [], 0, 0, 0, 57) else (.ireturn, 1, [], [], 0, 0, 0, 56))) else (bif Nat.ble 52 pc then
  (bif Nat.ble 55 pc then (.iconst 0, 1, [], [], 0, 0, 0, 55) else (bif Nat.beq 52 pc then (.invokevirtual 349, 3, [(10, 222)], [[8051, 8053, 1057, 2015]], 1, 0, 0, 52) else mm_nop)) else (.iadd, 1, [], [], 0, 0, 0, 51)))) else (bif Nat.ble 11 pc then
  (bif Nat.ble 16 pc then
  (bif Nat.ble 49 pc then
  (bif Nat.ble 50 pc then (.iload_n 2, 1, [], [], 2, 0, 0, 50) else (.iload_n 3, 1, [], [], 3, 0, 0, 49)) else (bif Nat.ble 48 pc then (.aload_n 0, 1, [], [], 0, 0, 0, 48) else (bif Nat.beq 16 pc then (.tableswitch 69 3 6 #[32, 41, 69, 57], 32, [(0, 85), (3, 48), (4, 57), (5, 85), (6, 73)], [], 0, 0, 0, 16) else mm_nop))) else (bif Nat.ble 14 pc then
  (bif Nat.ble 15 pc then (.iaload, 1, [], [], 0, 0, 0, 15) else (.iload_n 1, 1, [], [], 1, 0, 0, 14)) else (bif Nat.beq 11 pc then (.getfield 51, 3, [(10, 14)], [[6112]], 0, 0, 0, 11) else mm_nop))) else (bif Nat.ble 5 pc then
  (bif Nat.ble 9 pc then
  (bif Nat.ble 10 pc then (.aload_n 0, 1, [], [], 0, 0, 0, 10) else (.istore_n 3, 1, [], [], 3, 0, 0, 9)) else (bif Nat.ble 6 pc then
  (bif Nat.beq 6 pc then (.invokevirtual 352, 3, [(10, 223)], [[8059, 8061, 1059, 2015]], 0, 0, 0, 6) else mm_nop) else (.aload_n 0, 1, [], [], 0, 0, 0, 5))) else (bif Nat.ble 1 pc then
  (bif Nat.ble 4 pc then (.istore_n 2, 1, [], [], 2, 0, 0, 4) else (bif Nat.beq 1 pc then (.invokevirtual 352, 3, [(10, 223)], [[8059, 8061, 1059, 2015]], 0, 0, 0, 1) else mm_nop)) else (.aload_n 0, 1, [], [], 0, 0, 0, 0))))))
def mm_k227 : List mm_E := (List.range 118).map mm_f227
def mm_m227 : mm_M := (yX12_both, cX12_both, 4, (some .int), mm_k227, 1, 0, 0, 8066)
/-- TypeCopierModel.runs.()I -/
def mm_f228 : Nat → mm_E := fun pc => (bif Nat.ble 90 pc then
  (bif Nat.ble 166 pc then
  (bif Nat.ble 192 pc then
  (bif Nat.ble 203 pc then
  (bif Nat.ble 208 pc then
  (bif Nat.ble 212 pc then
  (bif Nat.ble 213 pc then (.ireturn, 1, [], [], 0, 0, 0, 213) else (.iload_n 1, 1, [], [], 1, 0, 0, 212)) else (bif Nat.ble 209 pc then
  (bif Nat.beq 209 pc then (.invokevirtual 373, 3, [(10, 220)], [[8067, 8069, 1061, 2015]], 2, 0, 0, 209) else mm_nop) else (.iaload, 1, [], [], 0, 0, 0, 208))) else (bif Nat.ble 204 pc then
  (bif Nat.ble 207 pc then (.iconst 0, 1, [], [], 0, 0, 0, 207) else (bif Nat.beq 204 pc then (.getfield 162, 3, [(10, 63)], [[6161]], 0, 0, 0, 204) else mm_nop)) else (.aload_n 0, 1, [], [], 0, 0, 0, 203))) else (bif Nat.ble 197 pc then
  (bif Nat.ble 201 pc then
  (bif Nat.ble 202 pc then (.iaload, 1, [], [], 0, 0, 0, 202) else (.iconst 0, 1, [], [], 0, 0, 0, 201)) else (bif Nat.ble 198 pc then
  (bif Nat.beq 198 pc then (.getfield 75, 3, [(10, 23)], [[6121]], 0, 0, 0, 198) else mm_nop) else (.aload_n 0, 1, [], [], 0, 0, 0, 197))) else (bif Nat.ble 193 pc then
  (bif Nat.ble 196 pc then (.aload_n 0, 1, [], [], 0, 0, 0, 196) else (bif Nat.beq 193 pc then (.ifCond .ne 19, 3, [(0, 212)], [], 0, 0, 0, 193) else mm_nop)) else (.iload_n 1, 1, [], [], 1, 0, 0, 192)))) else (bif Nat.ble 179 pc then
  (bif Nat.ble 184 pc then
  (bif Nat.ble 188 pc then
  (bif Nat.ble 189 pc then
  (bif Nat.beq 189 pc then (.putfield 129, 3, [(10, 47)], [[6145]], 0, 0, 0, 189) else mm_nop) else (.iload_n 1, 1, [], [], 1, 0, 0, 188)) else (bif Nat.ble 187 pc then (.aload_n 0, 1, [], [], 0, 0, 0, 187) else (bif Nat.beq 184 pc then (.goto (-126), 3, [(0, 58)], [], 0, 0, 0, 184) else mm_nop))) else (bif Nat.ble 180 pc then
  (bif Nat.ble 181 pc then
  (bif Nat.beq 181 pc then (.putfield 331, 3, [(10, 62)], [[6160]], 0, 0, 0, 181) else mm_nop) else (.isub, 1, [], [], 0, 0, 0, 180)) else (.iconst 1, 1, [], [], 0, 1, 0, 179))) else (bif Nat.ble 171 pc then
  (bif Nat.ble 175 pc then
  (bif Nat.ble 176 pc then
  (bif Nat.beq 176 pc then (.getfield 331, 3, [(10, 62)], [[6160]], 0, 0, 0, 176) else mm_nop) else (.dup, 1, [], [], 0, 0, 0, 175)) else (bif Nat.ble 174 pc then (.aload_n 0, 1, [], [], 0, 0, 0, 174) else (bif Nat.beq 171 pc then (.putfield 337, 3, [(10, 66)], [[6164]], 0, 0, 0, 171) else mm_nop))) else (bif Nat.ble 169 pc then
  (bif Nat.ble 170 pc then (.isub, 1, [], [], 0, 0, 0, 170) else (.iconst 1, 1, [], [], 0, 1, 0, 169)) else (bif Nat.beq 166 pc then (.getfield 337, 3, [(10, 66)], [[6164]], 0, 0, 0, 166) else mm_nop))))) else (bif Nat.ble 142 pc then
  (bif Nat.ble 153 pc then
  (bif Nat.ble 158 pc then
  (bif Nat.ble 164 pc then
  (bif Nat.ble 165 pc then (.dup, 1, [], [], 0, 0, 0, 165) else (.aload_n 0, 1, [], [], 0, 0, 0, 164)) else (bif Nat.ble 161 pc then
  (bif Nat.beq 161 pc then (.goto 23, 3, [(0, 184)], [], 0, 0, 0, 161) else mm_nop) else (bif Nat.beq 158 pc then (.putfield 331, 3, [(10, 62)], [[6160]], 0, 0, 0, 158) else mm_nop))) else (bif Nat.ble 156 pc then
  (bif Nat.ble 157 pc then (.isub, 1, [], [], 0, 0, 0, 157) else (.iconst 1, 1, [], [], 0, 1, 0, 156)) else (bif Nat.beq 153 pc then (.getfield 331, 3, [(10, 62)], [[6160]], 0, 0, 0, 153) else mm_nop))) else (bif Nat.ble 147 pc then
  (bif Nat.ble 151 pc then
  (bif Nat.ble 152 pc then (.dup, 1, [], [], 0, 0, 0, 152) else (.aload_n 0, 1, [], [], 0, 0, 0, 151)) else (bif Nat.ble 148 pc then
  (bif Nat.beq 148 pc then (.goto 36, 3, [(0, 184)], [], 0, 0, 0, 148) else mm_nop) else (.istore_n 1, 1, [], [], 1, 0, 0, 147))) else (bif Nat.ble 143 pc then
  (bif Nat.ble 144 pc then
  (bif Nat.beq 144 pc then (.invokevirtual 370, 3, [(10, 227)], [[8063, 8065, 1060, 2015]], 1, 0, 0, 144) else mm_nop) else (.iload_n 2, 1, [], [], 2, 0, 0, 143)) else (.aload_n 0, 1, [], [], 0, 0, 0, 142)))) else (bif Nat.ble 129 pc then
  (bif Nat.ble 134 pc then
  (bif Nat.ble 138 pc then
  (bif Nat.ble 139 pc then
  (bif Nat.beq 139 pc then (.goto 45, 3, [(0, 184)], [], 0, 0, 0, 139) else mm_nop) else (.istore_n 1, 1, [], [], 1, 0, 0, 138)) else (bif Nat.ble 135 pc then
  (bif Nat.beq 135 pc then (.invokevirtual 367, 3, [(10, 226)], [[8055, 8057, 1058, 2015]], 1, 0, 0, 135) else mm_nop) else (.iload_n 2, 1, [], [], 2, 0, 0, 134))) else (bif Nat.ble 130 pc then
  (bif Nat.ble 133 pc then (.aload_n 0, 1, [], [], 0, 0, 0, 133) else (bif Nat.beq 130 pc then (.goto 54, 3, [(0, 184)], [], 0, 0, 0, 130) else mm_nop)) else (.istore_n 1, 1, [], [], 1, 0, 0, 129))) else (bif Nat.ble 124 pc then
  (bif Nat.ble 125 pc then
  (bif Nat.ble 126 pc then
  (bif Nat.beq 126 pc then (.invokevirtual 364, 3, [(10, 225)], [[8047, 8049, 1056, 2015]], 1, 0, 0, 126) else mm_nop) else (.iload_n 2, 1, [], [], 2, 0, 0, 125)) else (.aload_n 0, 1, [], [], 0, 0, 0, 124)) else (bif Nat.ble 91 pc then
  (bif Nat.ble 92 pc then
  (bif Nat.beq 92 pc then (.tableswitch 72 0 3 #[32, 41, 50, 59], 32, [(0, 164), (0, 124), (1, 133), (2, 142), (3, 151)], [], 0, 0, 0, 92) else mm_nop) else (.iaload, 1, [], [], 0, 0, 0, 91)) else (.isub, 1, [], [], 0, 0, 0, 90)))))) else (bif Nat.ble 43 pc then
  (bif Nat.ble 66 pc then
  (bif Nat.ble 79 pc then
  (bif Nat.ble 82 pc then
  (bif Nat.ble 86 pc then
  (bif Nat.ble 89 pc then (.iconst 1, 1, [], [], 0, 1, 0, 89) else (bif Nat.beq 86 pc then (.getfield 331, 3, [(10, 62)], [[6160]], 0, 0, 0, 86) else mm_nop)) else (bif Nat.ble 85 pc then (.aload_n 0, 1, [], [], 0, 0, 0, 85) else (bif Nat.beq 82 pc then (.getfield 159, 3, [(10, 61)], [[6159]], 0, 0, 0, 82) else mm_nop))) else (bif Nat.ble 80 pc then
  (bif Nat.ble 81 pc then (.aload_n 0, 1, [], [], 0, 0, 0, 81) else (.istore_n 2, 1, [], [], 2, 0, 0, 80)) else (.iaload, 1, [], [], 0, 0, 0, 79))) else (bif Nat.ble 73 pc then
  (bif Nat.ble 77 pc then
  (bif Nat.ble 78 pc then (.isub, 1, [], [], 0, 0, 0, 78) else (.iconst 1, 1, [], [], 0, 1, 0, 77)) else (bif Nat.ble 74 pc then
  (bif Nat.beq 74 pc then (.getfield 331, 3, [(10, 62)], [[6160]], 0, 0, 0, 74) else mm_nop) else (.aload_n 0, 1, [], [], 0, 0, 0, 73))) else (bif Nat.ble 69 pc then
  (bif Nat.ble 70 pc then
  (bif Nat.beq 70 pc then (.getfield 156, 3, [(10, 60)], [[6158]], 0, 0, 0, 70) else mm_nop) else (.aload_n 0, 1, [], [], 0, 0, 0, 69)) else (bif Nat.beq 66 pc then (.ifCond .ne 121, 3, [(0, 187)], [], 0, 0, 0, 66) else mm_nop)))) else (bif Nat.ble 55 pc then
  (bif Nat.ble 58 pc then
  (bif Nat.ble 62 pc then
  (bif Nat.ble 65 pc then (.iload_n 1, 1, [], [], 1, 0, 0, 65) else (bif Nat.beq 62 pc then (.ifCond .le 125, 3, [(0, 187)], [], 0, 0, 0, 62) else mm_nop)) else (bif Nat.ble 59 pc then
  (bif Nat.beq 59 pc then (.getfield 331, 3, [(10, 62)], [[6160]], 0, 0, 0, 59) else mm_nop) else (.aload_n 0, 1, [], [], 0, 0, 0, 58))) else (bif Nat.ble 56 pc then
  (bif Nat.ble 57 pc then (.istore_n 1, 1, [], [], 1, 0, 0, 57) else (.iconst 0, 1, [], [], 0, 0, 0, 56)) else (.pop, 1, [], [], 0, 0, 0, 55))) else (bif Nat.ble 48 pc then
  (bif Nat.ble 49 pc then
  (bif Nat.ble 52 pc then
  (bif Nat.beq 52 pc then (.invokevirtual 355, 3, [(10, 224)], [[8039, 8041, 1054, 2015]], 2, 0, 0, 52) else mm_nop) else (bif Nat.beq 49 pc then (.invokevirtual 361, 3, [(10, 217)], [[8019, 8021, 1049, 2015]], 1, 0, 0, 49) else mm_nop)) else (.iaload, 1, [], [], 0, 0, 0, 48)) else (bif Nat.ble 44 pc then
  (bif Nat.ble 47 pc then (.iconst 0, 1, [], [], 0, 0, 0, 47) else (bif Nat.beq 44 pc then (.getfield 72, 3, [(10, 22)], [[6120]], 0, 0, 0, 44) else mm_nop)) else (.aload_n 0, 1, [], [], 0, 0, 0, 43))))) else (bif Nat.ble 21 pc then
  (bif Nat.ble 32 pc then
  (bif Nat.ble 37 pc then
  (bif Nat.ble 41 pc then
  (bif Nat.ble 42 pc then (.aload_n 0, 1, [], [], 0, 0, 0, 42) else (.iconst 0, 1, [], [], 0, 0, 0, 41)) else (bif Nat.ble 40 pc then (.aload_n 0, 1, [], [], 0, 0, 0, 40) else (bif Nat.beq 37 pc then (.putfield 322, 3, [(10, 51)], [[6149]], 0, 0, 0, 37) else mm_nop))) else (bif Nat.ble 35 pc then
  (bif Nat.ble 36 pc then (.iconst 0, 1, [], [], 0, 0, 0, 36) else (.aload_n 0, 1, [], [], 0, 0, 0, 35)) else (bif Nat.beq 32 pc then (.putfield 337, 3, [(10, 66)], [[6164]], 0, 0, 0, 32) else mm_nop))) else (bif Nat.ble 26 pc then
  (bif Nat.ble 30 pc then
  (bif Nat.ble 31 pc then (.iconst 0, 1, [], [], 0, 0, 0, 31) else (.aload_n 0, 1, [], [], 0, 0, 0, 30)) else (bif Nat.ble 27 pc then
  (bif Nat.beq 27 pc then (.putfield 334, 3, [(10, 64)], [[6162]], 0, 0, 0, 27) else mm_nop) else (.iconst 0, 1, [], [], 0, 0, 0, 26))) else (bif Nat.ble 22 pc then
  (bif Nat.ble 25 pc then (.aload_n 0, 1, [], [], 0, 0, 0, 25) else (bif Nat.beq 22 pc then (.putfield 331, 3, [(10, 62)], [[6160]], 0, 0, 0, 22) else mm_nop)) else (.iconst 0, 1, [], [], 0, 0, 0, 21)))) else (bif Nat.ble 10 pc then
  (bif Nat.ble 15 pc then
  (bif Nat.ble 17 pc then
  (bif Nat.ble 20 pc then (.aload_n 0, 1, [], [], 0, 0, 0, 20) else (bif Nat.beq 17 pc then (.putfield 340, 3, [(10, 50)], [[6148]], 0, 0, 0, 17) else mm_nop)) else (bif Nat.ble 16 pc then (.iconst 0, 1, [], [], 0, 0, 0, 16) else (.aload_n 0, 1, [], [], 0, 0, 0, 15))) else (bif Nat.ble 11 pc then
  (bif Nat.ble 12 pc then
  (bif Nat.beq 12 pc then (.putfield 358, 3, [(10, 49)], [[6147]], 0, 0, 0, 12) else mm_nop) else (.iconst 0, 1, [], [], 0, 0, 0, 11)) else (.aload_n 0, 1, [], [], 0, 0, 0, 10))) else (bif Nat.ble 5 pc then
  (bif Nat.ble 6 pc then
  (bif Nat.ble 7 pc then
  (bif Nat.beq 7 pc then (.putfield 346, 3, [(10, 48)], [[6146]], 0, 0, 0, 7) else mm_nop) else (.iconst 0, 1, [], [], 0, 0, 0, 6)) else (.aload_n 0, 1, [], [], 0, 0, 0, 5)) else (bif Nat.ble 1 pc then
  (bif Nat.ble 2 pc then
  (bif Nat.beq 2 pc then (.putfield 303, 3, [(10, 43)], [[6141]], 0, 0, 0, 2) else mm_nop) else (.iconst 0, 1, [], [], 0, 0, 0, 1)) else (.aload_n 0, 1, [], [], 0, 0, 0, 0)))))))
def mm_k228 : List mm_E := (List.range 214).map mm_f228
def mm_m228 : mm_M := (yX12_runs, cX12_runs, 3, (some .int), mm_k228, 0, 0, 0, 8018)
/-- TypeCopierModel.run.()I -/
def mm_f229 : Nat → mm_E := fun pc => (bif Nat.ble 22 pc then
  (bif Nat.ble 29 pc then
  (bif Nat.ble 33 pc then
  (bif Nat.ble 34 pc then
  (bif Nat.ble 37 pc then (.ireturn, 1, [], [], 0, 0, 0, 37) else (bif Nat.beq 34 pc then (.invokevirtual 379, 3, [(10, 228)], [[8015, 8017, 1048, 2015]], 0, 0, 0, 34) else mm_nop)) else (.aload_n 0, 1, [], [], 0, 0, 0, 33)) else (bif Nat.ble 30 pc then
  (bif Nat.beq 30 pc then (.putfield 376, 3, [(10, 46)], [[6144]], 0, 0, 0, 30) else mm_nop) else (.iadd, 1, [], [], 0, 0, 0, 29))) else (bif Nat.ble 24 pc then
  (bif Nat.ble 25 pc then
  (bif Nat.ble 28 pc then (.iconst 1, 1, [], [], 0, 1, 0, 28) else (bif Nat.beq 25 pc then (.getfield 376, 3, [(10, 46)], [[6144]], 0, 0, 0, 25) else mm_nop)) else (.dup, 1, [], [], 0, 0, 0, 24)) else (bif Nat.ble 23 pc then (.aload_n 0, 1, [], [], 0, 0, 0, 23) else (.ireturn, 1, [], [], 0, 0, 0, 22)))) else (bif Nat.ble 10 pc then
  (bif Nat.ble 14 pc then
  (bif Nat.ble 17 pc then
  (bif Nat.ble 20 pc then
  (bif Nat.beq 20 pc then (.bipush (-4), 2, [], [], 0, (-4), 0, 20) else mm_nop) else (bif Nat.beq 17 pc then (.if_icmp .ne 6, 3, [(0, 23)], [], 0, 0, 0, 17) else mm_nop)) else (bif Nat.beq 14 pc then (.sipush 160, 3, [], [], 0, 160, 0, 14) else mm_nop)) else (bif Nat.ble 11 pc then
  (bif Nat.beq 11 pc then (.getfield 376, 3, [(10, 46)], [[6144]], 0, 0, 0, 11) else mm_nop) else (.aload_n 0, 1, [], [], 0, 0, 0, 10))) else (bif Nat.ble 4 pc then
  (bif Nat.ble 7 pc then
  (bif Nat.ble 9 pc then (.ireturn, 1, [], [], 0, 0, 0, 9) else (bif Nat.beq 7 pc then (.bipush (-3), 2, [], [], 0, (-3), 0, 7) else mm_nop)) else (bif Nat.beq 4 pc then (.ifCond .eq 6, 3, [(0, 10)], [], 0, 0, 0, 4) else mm_nop)) else (bif Nat.ble 1 pc then
  (bif Nat.beq 1 pc then (.invokevirtual 290, 3, [(10, 202)], [[7218, 7199, 7200, 2015]], 0, 0, 0, 1) else mm_nop) else (.aload_n 0, 1, [], [], 0, 0, 0, 0)))))
def mm_k229 : List mm_E := (List.range 38).map mm_f229
def mm_m229 : mm_M := (yX12_run, cX12_run, 1, (some .int), mm_k229, 0, 0, 0, 8014)
/-- TypeCopierModel.runCopies.()I -/
def mm_f230 : Nat → mm_E := fun pc => (bif Nat.ble 9 pc then
  (bif Nat.ble 13 pc then
  (bif Nat.ble 14 pc then
  (bif Nat.ble 17 pc then (.ireturn, 1, [], [], 0, 0, 0, 17) else (bif Nat.beq 14 pc then (.invokevirtual 379, 3, [(10, 228)], [[8015, 8017, 1048, 2015]], 0, 0, 0, 14) else mm_nop)) else (.aload_n 0, 1, [], [], 0, 0, 0, 13)) else (bif Nat.ble 10 pc then
  (bif Nat.beq 10 pc then (.goto 7, 3, [(0, 17)], [], 0, 0, 0, 10) else mm_nop) else (.iload_n 1, 1, [], [], 1, 0, 0, 9))) else (bif Nat.ble 4 pc then
  (bif Nat.ble 5 pc then
  (bif Nat.ble 6 pc then
  (bif Nat.beq 6 pc then (.ifCond .ge 7, 3, [(0, 13)], [], 0, 0, 0, 6) else mm_nop) else (.iload_n 1, 1, [], [], 1, 0, 0, 5)) else (.istore_n 1, 1, [], [], 1, 0, 0, 4)) else (bif Nat.ble 1 pc then
  (bif Nat.beq 1 pc then (.invokevirtual 297, 3, [(10, 208)], [[7214, 7216, 1042, 2015]], 0, 0, 0, 1) else mm_nop) else (.aload_n 0, 1, [], [], 0, 0, 0, 0))))
def mm_k230 : List mm_E := (List.range 18).map mm_f230
def mm_m230 : mm_M := (yX12_runCopies, cX12_runCopies, 2, (some .int), mm_k230, 0, 0, 0, 8082)
/-- TypeCopierModel.result.(I)I -/
def mm_f231 : Nat → mm_E := fun pc => (bif Nat.ble 15 pc then
  (bif Nat.ble 25 pc then
  (bif Nat.ble 27 pc then
  (bif Nat.ble 30 pc then
  (bif Nat.ble 31 pc then (.ireturn, 1, [], [], 0, 0, 0, 31) else (.iconst 0, 1, [], [], 0, 0, 0, 30)) else (bif Nat.beq 27 pc then (.goto 4, 3, [(0, 31)], [], 0, 0, 0, 27) else mm_nop)) else (bif Nat.ble 26 pc then (.iaload, 1, [], [], 0, 0, 0, 26) else (.iload_n 1, 1, [], [], 1, 0, 0, 25))) else (bif Nat.ble 21 pc then
  (bif Nat.ble 22 pc then
  (bif Nat.beq 22 pc then (.getfield 132, 3, [(10, 52)], [[6150]], 0, 0, 0, 22) else mm_nop) else (.aload_n 0, 1, [], [], 0, 0, 0, 21)) else (bif Nat.ble 18 pc then
  (bif Nat.beq 18 pc then (.ifCond .eq 12, 3, [(0, 30)], [], 0, 0, 0, 18) else mm_nop) else (bif Nat.beq 15 pc then (.invokestatic 193, 3, [(0, 164)], [[7069, 7070, 2015]], 3, 0, 0, 15) else mm_nop)))) else (bif Nat.ble 8 pc then
  (bif Nat.ble 10 pc then
  (bif Nat.ble 13 pc then
  (bif Nat.ble 14 pc then (.isub, 1, [], [], 0, 0, 0, 14) else (.iconst 1, 1, [], [], 0, 1, 0, 13)) else (bif Nat.beq 10 pc then (.getfield 322, 3, [(10, 51)], [[6149]], 0, 0, 0, 10) else mm_nop)) else (bif Nat.ble 9 pc then (.aload_n 0, 1, [], [], 0, 0, 0, 9) else (.iconst 0, 1, [], [], 0, 0, 0, 8))) else (bif Nat.ble 4 pc then
  (bif Nat.ble 7 pc then (.iload_n 1, 1, [], [], 1, 0, 0, 7) else (bif Nat.beq 4 pc then (.ifCond .ne 26, 3, [(0, 30)], [], 0, 0, 0, 4) else mm_nop)) else (bif Nat.ble 1 pc then
  (bif Nat.beq 1 pc then (.getfield 129, 3, [(10, 47)], [[6145]], 0, 0, 0, 1) else mm_nop) else (.aload_n 0, 1, [], [], 0, 0, 0, 0)))))
def mm_k231 : List mm_E := (List.range 32).map mm_f231
def mm_m231 : mm_M := (yX12_result, cX12_result, 2, (some .int), mm_k231, 1, 0, 0, 8086)
/-- TypeCopierModel.told.(I)I -/
def mm_f232 : Nat → mm_E := fun pc => (bif Nat.ble 56 pc then
  (bif Nat.ble 66 pc then
  (bif Nat.ble 71 pc then
  (bif Nat.ble 72 pc then
  (bif Nat.ble 74 pc then (.ireturn, 1, [], [], 0, 0, 0, 74) else (bif Nat.beq 72 pc then (.bipush (-2), 2, [], [], 0, (-2), 0, 72) else mm_nop)) else (.ireturn, 1, [], [], 0, 0, 0, 71)) else (bif Nat.ble 67 pc then
  (bif Nat.ble 68 pc then
  (bif Nat.beq 68 pc then (.getfield 129, 3, [(10, 47)], [[6145]], 0, 0, 0, 68) else mm_nop) else (.aload_n 0, 1, [], [], 0, 0, 0, 67)) else (.ireturn, 1, [], [], 0, 0, 0, 66))) else (bif Nat.ble 61 pc then
  (bif Nat.ble 62 pc then
  (bif Nat.ble 63 pc then
  (bif Nat.beq 63 pc then (.getfield 340, 3, [(10, 50)], [[6148]], 0, 0, 0, 63) else mm_nop) else (.aload_n 0, 1, [], [], 0, 0, 0, 62)) else (.ireturn, 1, [], [], 0, 0, 0, 61)) else (bif Nat.ble 57 pc then
  (bif Nat.ble 58 pc then
  (bif Nat.beq 58 pc then (.getfield 358, 3, [(10, 49)], [[6147]], 0, 0, 0, 58) else mm_nop) else (.aload_n 0, 1, [], [], 0, 0, 0, 57)) else (.ireturn, 1, [], [], 0, 0, 0, 56)))) else (bif Nat.ble 44 pc then
  (bif Nat.ble 51 pc then
  (bif Nat.ble 52 pc then
  (bif Nat.ble 53 pc then
  (bif Nat.beq 53 pc then (.getfield 346, 3, [(10, 48)], [[6146]], 0, 0, 0, 53) else mm_nop) else (.aload_n 0, 1, [], [], 0, 0, 0, 52)) else (.ireturn, 1, [], [], 0, 0, 0, 51)) else (bif Nat.ble 47 pc then
  (bif Nat.ble 50 pc then (.iconst 0, 1, [], [], 0, 0, 0, 50) else (bif Nat.beq 47 pc then (.goto 4, 3, [(0, 51)], [], 0, 0, 0, 47) else mm_nop)) else (bif Nat.beq 44 pc then (.getfield 322, 3, [(10, 51)], [[6149]], 0, 0, 0, 44) else mm_nop))) else (bif Nat.ble 37 pc then
  (bif Nat.ble 40 pc then
  (bif Nat.ble 43 pc then (.aload_n 0, 1, [], [], 0, 0, 0, 43) else (bif Nat.beq 40 pc then (.ifCond .ne 10, 3, [(0, 50)], [], 0, 0, 0, 40) else mm_nop)) else (bif Nat.beq 37 pc then (.getfield 129, 3, [(10, 47)], [[6145]], 0, 0, 0, 37) else mm_nop)) else (bif Nat.ble 1 pc then
  (bif Nat.ble 36 pc then (.aload_n 0, 1, [], [], 0, 0, 0, 36) else (bif Nat.beq 1 pc then (.tableswitch 71 0 4 #[35, 51, 56, 61, 66], 35, [(0, 72), (0, 36), (1, 52), (2, 57), (3, 62), (4, 67)], [], 0, 0, 0, 1) else mm_nop)) else (.iload_n 1, 1, [], [], 1, 0, 0, 0)))))
def mm_k232 : List mm_E := (List.range 75).map mm_f232
def mm_m232 : mm_M := (yX12_told, cX12_told, 2, (some .int), mm_k232, 1, 0, 0, 8090)
/-- TypeCopierModel.count.(I)I -/
def mm_f233 : Nat → mm_E := fun pc => (bif Nat.ble 24 pc then
  (bif Nat.ble 36 pc then
  (bif Nat.ble 41 pc then
  (bif Nat.ble 47 pc then
  (bif Nat.ble 49 pc then (.ireturn, 1, [], [], 0, 0, 0, 49) else (bif Nat.beq 47 pc then (.bipush (-2), 2, [], [], 0, (-2), 0, 47) else mm_nop)) else (bif Nat.ble 44 pc then
  (bif Nat.beq 44 pc then (.goto 5, 3, [(0, 49)], [], 0, 0, 0, 44) else mm_nop) else (bif Nat.beq 41 pc then (.getfield 300, 3, [(10, 41)], [[6139]], 0, 0, 0, 41) else mm_nop))) else (bif Nat.ble 37 pc then
  (bif Nat.ble 40 pc then (.aload_n 0, 1, [], [], 0, 0, 0, 40) else (bif Nat.beq 37 pc then (.if_icmp .ne 10, 3, [(0, 47)], [], 0, 0, 0, 37) else mm_nop)) else (.iconst 3, 1, [], [], 0, 3, 0, 36))) else (bif Nat.ble 29 pc then
  (bif Nat.ble 32 pc then
  (bif Nat.ble 35 pc then (.iload_n 1, 1, [], [], 1, 0, 0, 35) else (bif Nat.beq 32 pc then (.goto 17, 3, [(0, 49)], [], 0, 0, 0, 32) else mm_nop)) else (bif Nat.beq 29 pc then (.getfield 216, 3, [(10, 20)], [[6118]], 0, 0, 0, 29) else mm_nop)) else (bif Nat.ble 25 pc then
  (bif Nat.ble 28 pc then (.aload_n 0, 1, [], [], 0, 0, 0, 28) else (bif Nat.beq 25 pc then (.if_icmp .ne 10, 3, [(0, 35)], [], 0, 0, 0, 25) else mm_nop)) else (.iconst 2, 1, [], [], 0, 2, 0, 24)))) else (bif Nat.ble 12 pc then
  (bif Nat.ble 17 pc then
  (bif Nat.ble 20 pc then
  (bif Nat.ble 23 pc then (.iload_n 1, 1, [], [], 1, 0, 0, 23) else (bif Nat.beq 20 pc then (.goto 29, 3, [(0, 49)], [], 0, 0, 0, 20) else mm_nop)) else (bif Nat.beq 17 pc then (.getfield 213, 3, [(10, 13)], [[6111]], 0, 0, 0, 17) else mm_nop)) else (bif Nat.ble 13 pc then
  (bif Nat.ble 16 pc then (.aload_n 0, 1, [], [], 0, 0, 0, 16) else (bif Nat.beq 13 pc then (.if_icmp .ne 10, 3, [(0, 23)], [], 0, 0, 0, 13) else mm_nop)) else (.iconst 1, 1, [], [], 0, 1, 0, 12))) else (bif Nat.ble 5 pc then
  (bif Nat.ble 8 pc then
  (bif Nat.ble 11 pc then (.iload_n 1, 1, [], [], 1, 0, 0, 11) else (bif Nat.beq 8 pc then (.goto 41, 3, [(0, 49)], [], 0, 0, 0, 8) else mm_nop)) else (bif Nat.beq 5 pc then (.getfield 7, 3, [(10, 0)], [[6098]], 0, 0, 0, 5) else mm_nop)) else (bif Nat.ble 1 pc then
  (bif Nat.ble 4 pc then (.aload_n 0, 1, [], [], 0, 0, 0, 4) else (bif Nat.beq 1 pc then (.ifCond .ne 10, 3, [(0, 11)], [], 0, 0, 0, 1) else mm_nop)) else (.iload_n 1, 1, [], [], 1, 0, 0, 0)))))
def mm_k233 : List mm_E := (List.range 50).map mm_f233
def mm_m233 : mm_M := (yX12_count, cX12_count, 2, (some .int), mm_k233, 1, 0, 0, 8094)
/-- TypeCopierModel.mixedNode.(JI)J -/
def mm_f234 : Nat → mm_E := fun pc => (bif Nat.ble 69 pc then
  (bif Nat.ble 106 pc then
  (bif Nat.ble 124 pc then
  (bif Nat.ble 131 pc then
  (bif Nat.ble 133 pc then
  (bif Nat.ble 136 pc then
  (bif Nat.ble 138 pc then (.lreturn, 1, [], [], 0, 0, 0, 138) else (bif Nat.beq 136 pc then (.lload 4, 2, [], [], 4, 0, 0, 136) else mm_nop)) else (bif Nat.beq 133 pc then (.goto 5, 3, [(0, 138)], [], 0, 0, 0, 133) else mm_nop)) else (bif Nat.ble 132 pc then (.ladd, 1, [], [], 0, 0, 0, 132) else (.i2l, 1, [], [], 0, 0, 0, 131))) else (bif Nat.ble 126 pc then
  (bif Nat.ble 129 pc then
  (bif Nat.ble 130 pc then (.iaload, 1, [], [], 0, 0, 0, 130) else (.iload_n 3, 1, [], [], 3, 0, 0, 129)) else (bif Nat.beq 126 pc then (.getfield 63, 3, [(10, 18)], [[6116]], 0, 0, 0, 126) else mm_nop)) else (bif Nat.ble 125 pc then (.aload_n 0, 1, [], [], 0, 0, 0, 125) else (.lmul, 1, [], [], 0, 0, 0, 124)))) else (bif Nat.ble 112 pc then
  (bif Nat.ble 116 pc then
  (bif Nat.ble 119 pc then
  (bif Nat.ble 122 pc then
  (bif Nat.beq 122 pc then (.lload 4, 2, [], [], 4, 0, 0, 122) else mm_nop) else (bif Nat.beq 119 pc then (.ldc2_w 382, 3, [], [[8100]], 0, 0, 31, 119) else mm_nop)) else (bif Nat.beq 116 pc then (.if_icmp .ne 20, 3, [(0, 136)], [], 0, 0, 0, 116) else mm_nop)) else (bif Nat.ble 114 pc then
  (bif Nat.beq 114 pc then (.bipush 14, 2, [], [], 0, 14, 0, 114) else mm_nop) else (bif Nat.beq 112 pc then (.iload 6, 2, [], [], 6, 0, 0, 112) else mm_nop))) else (bif Nat.ble 108 pc then
  (bif Nat.ble 109 pc then
  (bif Nat.ble 110 pc then
  (bif Nat.beq 110 pc then (.lstore 4, 2, [], [], 4, 0, 0, 110) else mm_nop) else (.ladd, 1, [], [], 0, 0, 0, 109)) else (.i2l, 1, [], [], 0, 0, 0, 108)) else (bif Nat.ble 107 pc then (.iaload, 1, [], [], 0, 0, 0, 107) else (.iload_n 3, 1, [], [], 3, 0, 0, 106))))) else (bif Nat.ble 84 pc then
  (bif Nat.ble 96 pc then
  (bif Nat.ble 101 pc then
  (bif Nat.ble 102 pc then
  (bif Nat.ble 103 pc then
  (bif Nat.beq 103 pc then (.getfield 60, 3, [(10, 17)], [[6115]], 0, 0, 0, 103) else mm_nop) else (.aload_n 0, 1, [], [], 0, 0, 0, 102)) else (.lmul, 1, [], [], 0, 0, 0, 101)) else (bif Nat.ble 99 pc then
  (bif Nat.beq 99 pc then (.lload 4, 2, [], [], 4, 0, 0, 99) else mm_nop) else (bif Nat.beq 96 pc then (.ldc2_w 382, 3, [], [[8100]], 0, 0, 31, 96) else mm_nop))) else (bif Nat.ble 89 pc then
  (bif Nat.ble 92 pc then
  (bif Nat.ble 93 pc then
  (bif Nat.beq 93 pc then (.if_icmp .le 19, 3, [(0, 112)], [], 0, 0, 0, 93) else mm_nop) else (.iconst 2, 1, [], [], 0, 2, 0, 92)) else (bif Nat.beq 89 pc then (.invokestatic 225, 3, [(0, 185)], [[7131, 7132, 2015]], 1, 0, 0, 89) else mm_nop)) else (bif Nat.ble 87 pc then
  (bif Nat.beq 87 pc then (.iload 6, 2, [], [], 6, 0, 0, 87) else mm_nop) else (bif Nat.beq 84 pc then (.if_icmp .eq 12, 3, [(0, 96)], [], 0, 0, 0, 84) else mm_nop)))) else (bif Nat.ble 76 pc then
  (bif Nat.ble 78 pc then
  (bif Nat.ble 80 pc then
  (bif Nat.ble 82 pc then
  (bif Nat.beq 82 pc then (.bipush 14, 2, [], [], 0, 14, 0, 82) else mm_nop) else (bif Nat.beq 80 pc then (.iload 6, 2, [], [], 6, 0, 0, 80) else mm_nop)) else (bif Nat.beq 78 pc then (.lstore 4, 2, [], [], 4, 0, 0, 78) else mm_nop)) else (bif Nat.ble 77 pc then (.ladd, 1, [], [], 0, 0, 0, 77) else (.i2l, 1, [], [], 0, 0, 0, 76))) else (bif Nat.ble 71 pc then
  (bif Nat.ble 74 pc then
  (bif Nat.ble 75 pc then (.iaload, 1, [], [], 0, 0, 0, 75) else (.iload_n 3, 1, [], [], 3, 0, 0, 74)) else (bif Nat.beq 71 pc then (.getfield 57, 3, [(10, 16)], [[6114]], 0, 0, 0, 71) else mm_nop)) else (bif Nat.ble 70 pc then (.aload_n 0, 1, [], [], 0, 0, 0, 70) else (.lmul, 1, [], [], 0, 0, 0, 69)))))) else (bif Nat.ble 31 pc then
  (bif Nat.ble 46 pc then
  (bif Nat.ble 57 pc then
  (bif Nat.ble 61 pc then
  (bif Nat.ble 64 pc then
  (bif Nat.ble 67 pc then
  (bif Nat.beq 67 pc then (.lload 4, 2, [], [], 4, 0, 0, 67) else mm_nop) else (bif Nat.beq 64 pc then (.ldc2_w 382, 3, [], [[8100]], 0, 0, 31, 64) else mm_nop)) else (bif Nat.beq 61 pc then (.if_icmp .le 19, 3, [(0, 80)], [], 0, 0, 0, 61) else mm_nop)) else (bif Nat.ble 60 pc then (.iconst 1, 1, [], [], 0, 1, 0, 60) else (bif Nat.beq 57 pc then (.invokestatic 225, 3, [(0, 185)], [[7131, 7132, 2015]], 1, 0, 0, 57) else mm_nop))) else (bif Nat.ble 50 pc then
  (bif Nat.ble 52 pc then
  (bif Nat.ble 55 pc then
  (bif Nat.beq 55 pc then (.iload 6, 2, [], [], 6, 0, 0, 55) else mm_nop) else (bif Nat.beq 52 pc then (.if_icmp .eq 12, 3, [(0, 64)], [], 0, 0, 0, 52) else mm_nop)) else (bif Nat.beq 50 pc then (.bipush 14, 2, [], [], 0, 14, 0, 50) else mm_nop)) else (bif Nat.ble 48 pc then
  (bif Nat.beq 48 pc then (.iload 6, 2, [], [], 6, 0, 0, 48) else mm_nop) else (bif Nat.beq 46 pc then (.lstore 4, 2, [], [], 4, 0, 0, 46) else mm_nop)))) else (bif Nat.ble 39 pc then
  (bif Nat.ble 43 pc then
  (bif Nat.ble 44 pc then
  (bif Nat.ble 45 pc then (.ladd, 1, [], [], 0, 0, 0, 45) else (.i2l, 1, [], [], 0, 0, 0, 44)) else (.iaload, 1, [], [], 0, 0, 0, 43)) else (bif Nat.ble 42 pc then (.iload_n 3, 1, [], [], 3, 0, 0, 42) else (bif Nat.beq 39 pc then (.getfield 54, 3, [(10, 15)], [[6113]], 0, 0, 0, 39) else mm_nop))) else (bif Nat.ble 35 pc then
  (bif Nat.ble 37 pc then
  (bif Nat.ble 38 pc then (.aload_n 0, 1, [], [], 0, 0, 0, 38) else (.lmul, 1, [], [], 0, 0, 0, 37)) else (bif Nat.beq 35 pc then (.lload 4, 2, [], [], 4, 0, 0, 35) else mm_nop)) else (bif Nat.ble 32 pc then
  (bif Nat.beq 32 pc then (.ldc2_w 382, 3, [], [[8100]], 0, 0, 31, 32) else mm_nop) else (.lreturn, 1, [], [], 0, 0, 0, 31))))) else (bif Nat.ble 13 pc then
  (bif Nat.ble 21 pc then
  (bif Nat.ble 25 pc then
  (bif Nat.ble 26 pc then
  (bif Nat.ble 29 pc then
  (bif Nat.beq 29 pc then (.lload 4, 2, [], [], 4, 0, 0, 29) else mm_nop) else (bif Nat.beq 26 pc then (.if_icmp .ne 6, 3, [(0, 32)], [], 0, 0, 0, 26) else mm_nop)) else (.iconst 2, 1, [], [], 0, 2, 0, 25)) else (bif Nat.ble 23 pc then
  (bif Nat.beq 23 pc then (.iload 6, 2, [], [], 6, 0, 0, 23) else mm_nop) else (bif Nat.beq 21 pc then (.istore 6, 2, [], [], 6, 0, 0, 21) else mm_nop))) else (bif Nat.ble 16 pc then
  (bif Nat.ble 19 pc then
  (bif Nat.ble 20 pc then (.iaload, 1, [], [], 0, 0, 0, 20) else (.iload_n 3, 1, [], [], 3, 0, 0, 19)) else (bif Nat.beq 16 pc then (.getfield 51, 3, [(10, 14)], [[6112]], 0, 0, 0, 16) else mm_nop)) else (bif Nat.ble 15 pc then (.aload_n 0, 1, [], [], 0, 0, 0, 15) else (bif Nat.beq 13 pc then (.lstore 4, 2, [], [], 4, 0, 0, 13) else mm_nop)))) else (bif Nat.ble 6 pc then
  (bif Nat.ble 10 pc then
  (bif Nat.ble 11 pc then
  (bif Nat.ble 12 pc then (.ladd, 1, [], [], 0, 0, 0, 12) else (.i2l, 1, [], [], 0, 0, 0, 11)) else (.iaload, 1, [], [], 0, 0, 0, 10)) else (bif Nat.ble 9 pc then (.iload_n 3, 1, [], [], 3, 0, 0, 9) else (bif Nat.beq 6 pc then (.getfield 51, 3, [(10, 14)], [[6112]], 0, 0, 0, 6) else mm_nop))) else (bif Nat.ble 4 pc then
  (bif Nat.ble 5 pc then (.aload_n 0, 1, [], [], 0, 0, 0, 5) else (.lmul, 1, [], [], 0, 0, 0, 4)) else (bif Nat.ble 3 pc then (.lload_n 1, 1, [], [], 1, 0, 0, 3) else (bif Nat.beq 0 pc then (.ldc2_w 382, 3, [], [[8100]], 0, 0, 31, 0) else mm_nop)))))))
def mm_k234 : List mm_E := (List.range 139).map mm_f234
def mm_m234 : mm_M := (yX12_mixedNode, cX12_mixedNode, 7, (some .long), mm_k234, 2, 0, 0, 8104)
/-- TypeCopierModel.digest.()J -/
def mm_f235 : Nat → mm_E := fun pc => (bif Nat.ble 75 pc then
  (bif Nat.ble 112 pc then
  (bif Nat.ble 124 pc then
  (bif Nat.ble 131 pc then
  (bif Nat.ble 136 pc then
  (bif Nat.ble 139 pc then
  (bif Nat.ble 140 pc then (.lreturn, 1, [], [], 0, 0, 0, 140) else (.lload_n 1, 1, [], [], 1, 0, 0, 139)) else (bif Nat.beq 136 pc then (.goto (-61), 3, [(0, 75)], [], 0, 0, 0, 136) else mm_nop)) else (bif Nat.ble 132 pc then
  (bif Nat.ble 133 pc then
  (bif Nat.beq 133 pc then (.iinc 3 1, 3, [], [], 3, 1, 0, 133) else mm_nop) else (.lstore_n 1, 1, [], [], 1, 0, 0, 132)) else (.ladd, 1, [], [], 0, 0, 0, 131))) else (bif Nat.ble 128 pc then
  (bif Nat.ble 129 pc then
  (bif Nat.ble 130 pc then (.i2l, 1, [], [], 0, 0, 0, 130) else (.iaload, 1, [], [], 0, 0, 0, 129)) else (.iload_n 3, 1, [], [], 3, 0, 0, 128)) else (bif Nat.ble 125 pc then
  (bif Nat.beq 125 pc then (.getfield 78, 3, [(10, 24)], [[6122]], 0, 0, 0, 125) else mm_nop) else (.aload_n 0, 1, [], [], 0, 0, 0, 124)))) else (bif Nat.ble 119 pc then
  (bif Nat.ble 121 pc then
  (bif Nat.ble 122 pc then
  (bif Nat.ble 123 pc then (.lmul, 1, [], [], 0, 0, 0, 123) else (.ladd, 1, [], [], 0, 0, 0, 122)) else (.i2l, 1, [], [], 0, 0, 0, 121)) else (bif Nat.ble 120 pc then (.iaload, 1, [], [], 0, 0, 0, 120) else (.iload_n 3, 1, [], [], 3, 0, 0, 119))) else (bif Nat.ble 114 pc then
  (bif Nat.ble 115 pc then
  (bif Nat.ble 116 pc then
  (bif Nat.beq 116 pc then (.getfield 75, 3, [(10, 23)], [[6121]], 0, 0, 0, 116) else mm_nop) else (.aload_n 0, 1, [], [], 0, 0, 0, 115)) else (.lmul, 1, [], [], 0, 0, 0, 114)) else (bif Nat.ble 113 pc then (.ladd, 1, [], [], 0, 0, 0, 113) else (.i2l, 1, [], [], 0, 0, 0, 112))))) else (bif Nat.ble 97 pc then
  (bif Nat.ble 104 pc then
  (bif Nat.ble 107 pc then
  (bif Nat.ble 110 pc then
  (bif Nat.ble 111 pc then (.iaload, 1, [], [], 0, 0, 0, 111) else (.iload_n 3, 1, [], [], 3, 0, 0, 110)) else (bif Nat.beq 107 pc then (.getfield 72, 3, [(10, 22)], [[6120]], 0, 0, 0, 107) else mm_nop)) else (bif Nat.ble 105 pc then
  (bif Nat.ble 106 pc then (.aload_n 0, 1, [], [], 0, 0, 0, 106) else (.lmul, 1, [], [], 0, 0, 0, 105)) else (.ladd, 1, [], [], 0, 0, 0, 104))) else (bif Nat.ble 101 pc then
  (bif Nat.ble 102 pc then
  (bif Nat.ble 103 pc then (.i2l, 1, [], [], 0, 0, 0, 103) else (.iaload, 1, [], [], 0, 0, 0, 102)) else (.iload_n 3, 1, [], [], 3, 0, 0, 101)) else (bif Nat.ble 98 pc then
  (bif Nat.beq 98 pc then (.getfield 69, 3, [(10, 21)], [[6119]], 0, 0, 0, 98) else mm_nop) else (.aload_n 0, 1, [], [], 0, 0, 0, 97)))) else (bif Nat.ble 86 pc then
  (bif Nat.ble 92 pc then
  (bif Nat.ble 95 pc then
  (bif Nat.ble 96 pc then (.lmul, 1, [], [], 0, 0, 0, 96) else (.lload_n 1, 1, [], [], 1, 0, 0, 95)) else (bif Nat.beq 92 pc then (.ldc2_w 382, 3, [], [[8100]], 0, 0, 31, 92) else mm_nop)) else (bif Nat.ble 89 pc then
  (bif Nat.beq 89 pc then (.ldc2_w 382, 3, [], [[8100]], 0, 0, 31, 89) else mm_nop) else (bif Nat.beq 86 pc then (.ldc2_w 382, 3, [], [[8100]], 0, 0, 31, 86) else mm_nop))) else (bif Nat.ble 77 pc then
  (bif Nat.ble 80 pc then
  (bif Nat.ble 83 pc then
  (bif Nat.beq 83 pc then (.ldc2_w 382, 3, [], [[8100]], 0, 0, 31, 83) else mm_nop) else (bif Nat.beq 80 pc then (.if_icmp .ge 59, 3, [(0, 139)], [], 0, 0, 0, 80) else mm_nop)) else (bif Nat.beq 77 pc then (.getfield 216, 3, [(10, 20)], [[6118]], 0, 0, 0, 77) else mm_nop)) else (bif Nat.ble 76 pc then (.aload_n 0, 1, [], [], 0, 0, 0, 76) else (.iload_n 3, 1, [], [], 3, 0, 0, 75)))))) else (bif Nat.ble 36 pc then
  (bif Nat.ble 54 pc then
  (bif Nat.ble 63 pc then
  (bif Nat.ble 70 pc then
  (bif Nat.ble 73 pc then
  (bif Nat.ble 74 pc then (.istore_n 3, 1, [], [], 3, 0, 0, 74) else (.iconst 0, 1, [], [], 0, 0, 0, 73)) else (bif Nat.beq 70 pc then (.goto (-18), 3, [(0, 52)], [], 0, 0, 0, 70) else mm_nop)) else (bif Nat.ble 66 pc then
  (bif Nat.ble 67 pc then
  (bif Nat.beq 67 pc then (.iinc 3 1, 3, [], [], 3, 1, 0, 67) else mm_nop) else (.lstore_n 1, 1, [], [], 1, 0, 0, 66)) else (bif Nat.beq 63 pc then (.invokevirtual 386, 3, [(10, 234)], [[8101, 8103, 1064, 2015]], 2, 0, 0, 63) else mm_nop))) else (bif Nat.ble 60 pc then
  (bif Nat.ble 61 pc then
  (bif Nat.ble 62 pc then (.iload_n 3, 1, [], [], 3, 0, 0, 62) else (.lload_n 1, 1, [], [], 1, 0, 0, 61)) else (.aload_n 0, 1, [], [], 0, 0, 0, 60)) else (bif Nat.ble 57 pc then
  (bif Nat.beq 57 pc then (.if_icmp .ge 16, 3, [(0, 73)], [], 0, 0, 0, 57) else mm_nop) else (bif Nat.beq 54 pc then (.getfield 213, 3, [(10, 13)], [[6111]], 0, 0, 0, 54) else mm_nop)))) else (bif Nat.ble 47 pc then
  (bif Nat.ble 51 pc then
  (bif Nat.ble 52 pc then
  (bif Nat.ble 53 pc then (.aload_n 0, 1, [], [], 0, 0, 0, 53) else (.iload_n 3, 1, [], [], 3, 0, 0, 52)) else (.istore_n 3, 1, [], [], 3, 0, 0, 51)) else (bif Nat.ble 50 pc then (.iconst 0, 1, [], [], 0, 0, 0, 50) else (bif Nat.beq 47 pc then (.goto (-41), 3, [(0, 6)], [], 0, 0, 0, 47) else mm_nop))) else (bif Nat.ble 38 pc then
  (bif Nat.ble 41 pc then
  (bif Nat.ble 44 pc then
  (bif Nat.beq 44 pc then (.iinc 3 1, 3, [], [], 3, 1, 0, 44) else mm_nop) else (bif Nat.beq 41 pc then (.goto (-24), 3, [(0, 17)], [], 0, 0, 0, 41) else mm_nop)) else (bif Nat.beq 38 pc then (.iinc 4 1, 3, [], [], 4, 1, 0, 38) else mm_nop)) else (bif Nat.ble 37 pc then (.lstore_n 1, 1, [], [], 1, 0, 0, 37) else (.ladd, 1, [], [], 0, 0, 0, 36))))) else (bif Nat.ble 17 pc then
  (bif Nat.ble 27 pc then
  (bif Nat.ble 30 pc then
  (bif Nat.ble 32 pc then
  (bif Nat.ble 35 pc then (.i2l, 1, [], [], 0, 0, 0, 35) else (bif Nat.beq 32 pc then (.invokevirtual 207, 3, [(10, 178)], [[7111, 7113, 1025, 2015]], 2, 0, 0, 32) else mm_nop)) else (bif Nat.beq 30 pc then (.iload 4, 2, [], [], 4, 0, 0, 30) else mm_nop)) else (bif Nat.ble 28 pc then
  (bif Nat.ble 29 pc then (.iload_n 3, 1, [], [], 3, 0, 0, 29) else (.aload_n 0, 1, [], [], 0, 0, 0, 28)) else (.lmul, 1, [], [], 0, 0, 0, 27))) else (bif Nat.ble 20 pc then
  (bif Nat.ble 23 pc then
  (bif Nat.ble 26 pc then (.lload_n 1, 1, [], [], 1, 0, 0, 26) else (bif Nat.beq 23 pc then (.ldc2_w 382, 3, [], [[8100]], 0, 0, 31, 23) else mm_nop)) else (bif Nat.beq 20 pc then (.if_icmp .ge 24, 3, [(0, 44)], [], 0, 0, 0, 20) else mm_nop)) else (bif Nat.ble 19 pc then (.iconst 4, 1, [], [], 0, 4, 0, 19) else (bif Nat.beq 17 pc then (.iload 4, 2, [], [], 4, 0, 0, 17) else mm_nop)))) else (bif Nat.ble 7 pc then
  (bif Nat.ble 11 pc then
  (bif Nat.ble 14 pc then
  (bif Nat.ble 15 pc then
  (bif Nat.beq 15 pc then (.istore 4, 2, [], [], 4, 0, 0, 15) else mm_nop) else (.iconst 0, 1, [], [], 0, 0, 0, 14)) else (bif Nat.beq 11 pc then (.if_icmp .ge 39, 3, [(0, 50)], [], 0, 0, 0, 11) else mm_nop)) else (bif Nat.ble 8 pc then
  (bif Nat.beq 8 pc then (.getfield 7, 3, [(10, 0)], [[6098]], 0, 0, 0, 8) else mm_nop) else (.aload_n 0, 1, [], [], 0, 0, 0, 7))) else (bif Nat.ble 4 pc then
  (bif Nat.ble 5 pc then
  (bif Nat.ble 6 pc then (.iload_n 3, 1, [], [], 3, 0, 0, 6) else (.istore_n 3, 1, [], [], 3, 0, 0, 5)) else (.iconst 0, 1, [], [], 0, 0, 0, 4)) else (bif Nat.ble 3 pc then (.lstore_n 1, 1, [], [], 1, 0, 0, 3) else (bif Nat.beq 0 pc then (.ldc2_w 384, 3, [], [[8099]], 0, 0, 61, 0) else mm_nop)))))))
def mm_k235 : List mm_E := (List.range 141).map mm_f235
def mm_m235 : mm_M := (yX12_digest, cX12_digest, 5, (some .long), mm_k235, 0, 0, 0, 8098)
/-- java/util/Arrays.fill.([II)V -/
def mm_f236 : Nat → mm_E := fun pc => (bif Nat.ble 7 pc then
  (bif Nat.ble 13 pc then
  (bif Nat.ble 17 pc then
  (bif Nat.ble 20 pc then (.return_, 1, [], [], 0, 0, 0, 20) else (bif Nat.beq 17 pc then (.goto (-12), 3, [(0, 5)], [], 0, 0, 0, 17) else mm_nop)) else (bif Nat.ble 14 pc then
  (bif Nat.beq 14 pc then (.iinc 2 1, 3, [], [], 2, 1, 0, 14) else mm_nop) else (.iastore, 1, [], [], 0, 0, 0, 13))) else (bif Nat.ble 11 pc then
  (bif Nat.ble 12 pc then (.iload_n 1, 1, [], [], 1, 0, 0, 12) else (.iload_n 2, 1, [], [], 2, 0, 0, 11)) else (bif Nat.ble 10 pc then (.aload_n 0, 1, [], [], 0, 0, 0, 10) else (bif Nat.beq 7 pc then (.if_icmp .ge 13, 3, [(0, 20)], [], 0, 0, 0, 7) else mm_nop)))) else (bif Nat.ble 3 pc then
  (bif Nat.ble 5 pc then
  (bif Nat.ble 6 pc then (.iload_n 3, 1, [], [], 3, 0, 0, 6) else (.iload_n 2, 1, [], [], 2, 0, 0, 5)) else (bif Nat.ble 4 pc then (.istore_n 3, 1, [], [], 3, 0, 0, 4) else (.arraylength, 1, [], [], 0, 0, 0, 3))) else (bif Nat.ble 1 pc then
  (bif Nat.ble 2 pc then (.aload_n 0, 1, [], [], 0, 0, 0, 2) else (.istore_n 2, 1, [], [], 2, 0, 0, 1)) else (.iconst 0, 1, [], [], 0, 0, 0, 0))))
def mm_k236 : List mm_E := (List.range 21).map mm_f236
def mm_m236 : mm_M := (yJ7_fill_53178, cJ7_fill_53178, 4, none, mm_k236, 2, 0, 0, 3103)
