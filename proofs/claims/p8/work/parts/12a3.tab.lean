/-! ===== code tables (by program), further ===== -/
/-- TypeCopierModel.made.(III)I -/
def mm_f173 : Nat → mm_E := fun pc => (bif Nat.ble 22 pc then
  (bif Nat.ble 32 pc then
  (bif Nat.ble 36 pc then
  (bif Nat.ble 40 pc then
  (bif Nat.ble 42 pc then (.ireturn, 1, [], [], 0, 0, 0, 42) else (bif Nat.beq 40 pc then (.iload 4, 2, [], [], 4, 0, 0, 40) else mm_nop)) else (bif Nat.ble 37 pc then
  (bif Nat.beq 37 pc then (.invokevirtual 189, 3, [(10, 172)], [[7096, 7098, 1024, 2015]], 4, 0, 0, 37) else mm_nop) else (.iload_n 3, 1, [], [], 3, 0, 0, 36))) else (bif Nat.ble 34 pc then
  (bif Nat.ble 35 pc then (.iload_n 2, 1, [], [], 2, 0, 0, 35) else (.iload_n 1, 1, [], [], 1, 0, 0, 34)) else (bif Nat.beq 32 pc then (.iload 4, 2, [], [], 4, 0, 0, 32) else mm_nop))) else (bif Nat.ble 27 pc then
  (bif Nat.ble 28 pc then
  (bif Nat.ble 31 pc then (.aload_n 0, 1, [], [], 0, 0, 0, 31) else (bif Nat.beq 28 pc then (.putfield 13, 3, [(10, 1)], [[6099]], 0, 0, 0, 28) else mm_nop)) else (.iadd, 1, [], [], 0, 0, 0, 27)) else (bif Nat.ble 23 pc then
  (bif Nat.ble 26 pc then (.iconst 1, 1, [], [], 0, 1, 0, 26) else (bif Nat.beq 23 pc then (.getfield 13, 3, [(10, 1)], [[6099]], 0, 0, 0, 23) else mm_nop)) else (.dup, 1, [], [], 0, 0, 0, 22)))) else (bif Nat.ble 9 pc then
  (bif Nat.ble 15 pc then
  (bif Nat.ble 19 pc then
  (bif Nat.ble 21 pc then (.aload_n 0, 1, [], [], 0, 0, 0, 21) else (bif Nat.beq 19 pc then (.istore 4, 2, [], [], 4, 0, 0, 19) else mm_nop)) else (bif Nat.ble 16 pc then
  (bif Nat.beq 16 pc then (.getfield 13, 3, [(10, 1)], [[6099]], 0, 0, 0, 16) else mm_nop) else (.aload_n 0, 1, [], [], 0, 0, 0, 15))) else (bif Nat.ble 11 pc then
  (bif Nat.ble 12 pc then
  (bif Nat.beq 12 pc then (.if_icmp .ne 28, 3, [(0, 40)], [], 0, 0, 0, 12) else mm_nop) else (.iconst (-1), 1, [], [], 0, (-1), 0, 11)) else (bif Nat.beq 9 pc then (.iload 4, 2, [], [], 4, 0, 0, 9) else mm_nop))) else (bif Nat.ble 3 pc then
  (bif Nat.ble 4 pc then
  (bif Nat.ble 7 pc then
  (bif Nat.beq 7 pc then (.istore 4, 2, [], [], 4, 0, 0, 7) else mm_nop) else (bif Nat.beq 4 pc then (.invokevirtual 186, 3, [(10, 169)], [[7089, 7091, 1023, 2015]], 3, 0, 0, 4) else mm_nop)) else (.iload_n 3, 1, [], [], 3, 0, 0, 3)) else (bif Nat.ble 1 pc then
  (bif Nat.ble 2 pc then (.iload_n 2, 1, [], [], 2, 0, 0, 2) else (.iload_n 1, 1, [], [], 1, 0, 0, 1)) else (.aload_n 0, 1, [], [], 0, 0, 0, 0)))))
def mm_k173 : List mm_E := (List.range 43).map mm_f173
def mm_m173 : mm_M := (yX12_made, cX12_made, 5, (some .int), mm_k173, 3, 0, 0, 7169)
/-- TypeCopierModel.isType.(I)Z -/
def mm_f174 : Nat → mm_E := fun pc => (bif Nat.ble 6 pc then
  (bif Nat.ble 8 pc then
  (bif Nat.ble 11 pc then (.ireturn, 1, [], [], 0, 0, 0, 11) else (bif Nat.beq 8 pc then (.invokestatic 193, 3, [(0, 164)], [[7069, 7070, 2015]], 3, 0, 0, 8) else mm_nop)) else (bif Nat.ble 7 pc then (.isub, 1, [], [], 0, 0, 0, 7) else (.iconst 1, 1, [], [], 0, 1, 0, 6))) else (bif Nat.ble 2 pc then
  (bif Nat.ble 3 pc then
  (bif Nat.beq 3 pc then (.getfield 7, 3, [(10, 0)], [[6098]], 0, 0, 0, 3) else mm_nop) else (.aload_n 0, 1, [], [], 0, 0, 0, 2)) else (bif Nat.ble 1 pc then (.iconst 0, 1, [], [], 0, 0, 0, 1) else (.iload_n 1, 1, [], [], 1, 0, 0, 0))))
def mm_k174 : List mm_E := (List.range 12).map mm_f174
def mm_m174 : mm_M := (yX12_isType, cX12_isType, 2, (some .boolean), mm_k174, 1, 0, 0, 7068)
/-- TypeCopierModel.numbers.(III)I -/
def mm_f175 : Nat → mm_E := fun pc => (bif Nat.ble 51 pc then
  (bif Nat.ble 78 pc then
  (bif Nat.ble 89 pc then
  (bif Nat.ble 95 pc then
  (bif Nat.ble 99 pc then
  (bif Nat.ble 100 pc then (.ireturn, 1, [], [], 0, 0, 0, 100) else (.isub, 1, [], [], 0, 0, 0, 99)) else (bif Nat.ble 98 pc then (.iconst 1, 1, [], [], 0, 1, 0, 98) else (bif Nat.beq 95 pc then (.getfield 7, 3, [(10, 0)], [[6098]], 0, 0, 0, 95) else mm_nop))) else (bif Nat.ble 91 pc then
  (bif Nat.ble 94 pc then (.aload_n 0, 1, [], [], 0, 0, 0, 94) else (bif Nat.beq 91 pc then (.putfield 7, 3, [(10, 0)], [[6098]], 0, 0, 0, 91) else mm_nop)) else (bif Nat.ble 90 pc then (.iadd, 1, [], [], 0, 0, 0, 90) else (.iconst 1, 1, [], [], 0, 1, 0, 89)))) else (bif Nat.ble 81 pc then
  (bif Nat.ble 85 pc then
  (bif Nat.ble 86 pc then
  (bif Nat.beq 86 pc then (.getfield 7, 3, [(10, 0)], [[6098]], 0, 0, 0, 86) else mm_nop) else (.dup, 1, [], [], 0, 0, 0, 85)) else (bif Nat.ble 84 pc then (.aload_n 0, 1, [], [], 0, 0, 0, 84) else (bif Nat.beq 81 pc then (.invokevirtual 189, 3, [(10, 172)], [[7096, 7098, 1024, 2015]], 4, 0, 0, 81) else mm_nop))) else (bif Nat.ble 79 pc then
  (bif Nat.ble 80 pc then (.iload_n 3, 1, [], [], 3, 0, 0, 80) else (.iload_n 2, 1, [], [], 2, 0, 0, 79)) else (.iload_n 1, 1, [], [], 1, 0, 0, 78)))) else (bif Nat.ble 61 pc then
  (bif Nat.ble 72 pc then
  (bif Nat.ble 74 pc then
  (bif Nat.ble 75 pc then
  (bif Nat.beq 75 pc then (.getfield 7, 3, [(10, 0)], [[6098]], 0, 0, 0, 75) else mm_nop) else (.aload_n 0, 1, [], [], 0, 0, 0, 74)) else (bif Nat.ble 73 pc then (.aload_n 0, 1, [], [], 0, 0, 0, 73) else (.ireturn, 1, [], [], 0, 0, 0, 72))) else (bif Nat.ble 67 pc then
  (bif Nat.ble 70 pc then
  (bif Nat.beq 70 pc then (.bipush (-4), 2, [], [], 0, (-4), 0, 70) else mm_nop) else (bif Nat.beq 67 pc then (.if_icmp .ne 6, 3, [(0, 73)], [], 0, 0, 0, 67) else mm_nop)) else (bif Nat.ble 64 pc then
  (bif Nat.beq 64 pc then (.sipush 200, 3, [], [], 0, 200, 0, 64) else mm_nop) else (bif Nat.beq 61 pc then (.getfield 7, 3, [(10, 0)], [[6098]], 0, 0, 0, 61) else mm_nop)))) else (bif Nat.ble 54 pc then
  (bif Nat.ble 59 pc then
  (bif Nat.ble 60 pc then (.aload_n 0, 1, [], [], 0, 0, 0, 60) else (.ireturn, 1, [], [], 0, 0, 0, 59)) else (bif Nat.ble 57 pc then
  (bif Nat.beq 57 pc then (.bipush (-3), 2, [], [], 0, (-3), 0, 57) else mm_nop) else (bif Nat.beq 54 pc then (.if_icmp .le 6, 3, [(0, 60)], [], 0, 0, 0, 54) else mm_nop))) else (bif Nat.ble 52 pc then
  (bif Nat.ble 53 pc then (.iconst 5, 1, [], [], 0, 5, 0, 53) else (.iadd, 1, [], [], 0, 0, 0, 52)) else (.iaload, 1, [], [], 0, 0, 0, 51))))) else (bif Nat.ble 24 pc then
  (bif Nat.ble 35 pc then
  (bif Nat.ble 43 pc then
  (bif Nat.ble 47 pc then
  (bif Nat.ble 50 pc then (.iload_n 2, 1, [], [], 2, 0, 0, 50) else (bif Nat.beq 47 pc then (.getfield 26, 3, [(10, 5)], [[6103]], 0, 0, 0, 47) else mm_nop)) else (bif Nat.ble 46 pc then (.aload_n 0, 1, [], [], 0, 0, 0, 46) else (bif Nat.beq 43 pc then (.goto 9, 3, [(0, 52)], [], 0, 0, 0, 43) else mm_nop))) else (bif Nat.ble 39 pc then
  (bif Nat.ble 40 pc then
  (bif Nat.beq 40 pc then (.invokestatic 178, 3, [(0, 170)], [[7093, 7094, 2015]], 2, 0, 0, 40) else mm_nop) else (.iaload, 1, [], [], 0, 0, 0, 39)) else (bif Nat.ble 38 pc then (.iload_n 3, 1, [], [], 3, 0, 0, 38) else (bif Nat.beq 35 pc then (.getfield 26, 3, [(10, 5)], [[6103]], 0, 0, 0, 35) else mm_nop)))) else (bif Nat.ble 29 pc then
  (bif Nat.ble 33 pc then
  (bif Nat.ble 34 pc then (.aload_n 0, 1, [], [], 0, 0, 0, 34) else (.iaload, 1, [], [], 0, 0, 0, 33)) else (bif Nat.ble 32 pc then (.iload_n 2, 1, [], [], 2, 0, 0, 32) else (bif Nat.beq 29 pc then (.getfield 26, 3, [(10, 5)], [[6103]], 0, 0, 0, 29) else mm_nop))) else (bif Nat.ble 25 pc then
  (bif Nat.ble 28 pc then (.aload_n 0, 1, [], [], 0, 0, 0, 28) else (bif Nat.beq 25 pc then (.if_icmp .ne 21, 3, [(0, 46)], [], 0, 0, 0, 25) else mm_nop)) else (.iconst 4, 1, [], [], 0, 4, 0, 24)))) else (bif Nat.ble 11 pc then
  (bif Nat.ble 19 pc then
  (bif Nat.ble 22 pc then
  (bif Nat.ble 23 pc then (.iload_n 1, 1, [], [], 1, 0, 0, 23) else (.iconst 1, 1, [], [], 0, 1, 0, 22)) else (bif Nat.ble 21 pc then (.ireturn, 1, [], [], 0, 0, 0, 21) else (bif Nat.beq 19 pc then (.iload 4, 2, [], [], 4, 0, 0, 19) else mm_nop))) else (bif Nat.ble 15 pc then
  (bif Nat.ble 16 pc then
  (bif Nat.beq 16 pc then (.if_icmp .eq 6, 3, [(0, 22)], [], 0, 0, 0, 16) else mm_nop) else (.iconst (-1), 1, [], [], 0, (-1), 0, 15)) else (bif Nat.ble 13 pc then
  (bif Nat.beq 13 pc then (.iload 4, 2, [], [], 4, 0, 0, 13) else mm_nop) else (bif Nat.beq 11 pc then (.istore 4, 2, [], [], 4, 0, 0, 11) else mm_nop)))) else (bif Nat.ble 5 pc then
  (bif Nat.ble 7 pc then
  (bif Nat.ble 8 pc then
  (bif Nat.beq 8 pc then (.invokevirtual 186, 3, [(10, 169)], [[7089, 7091, 1023, 2015]], 3, 0, 0, 8) else mm_nop) else (.iload_n 3, 1, [], [], 3, 0, 0, 7)) else (bif Nat.ble 6 pc then (.iload_n 2, 1, [], [], 2, 0, 0, 6) else (.iload_n 1, 1, [], [], 1, 0, 0, 5))) else (bif Nat.ble 1 pc then
  (bif Nat.ble 4 pc then (.aload_n 0, 1, [], [], 0, 0, 0, 4) else (bif Nat.beq 1 pc then (.invokevirtual 197, 3, [(10, 167)], [[7076, 7078, 1021, 2015]], 0, 0, 0, 1) else mm_nop)) else (.aload_n 0, 1, [], [], 0, 0, 0, 0))))))
def mm_k175 : List mm_E := (List.range 101).map mm_f175
def mm_m175 : mm_M := (yX12_numbers, cX12_numbers, 5, (some .int), mm_k175, 3, 0, 0, 7075)
/-- TypeCopierModel.pair.(II)I -/
def mm_f176 : Nat → mm_E := fun pc => (bif Nat.ble 16 pc then
  (bif Nat.ble 20 pc then
  (bif Nat.ble 26 pc then
  (bif Nat.ble 28 pc then (.ireturn, 1, [], [], 0, 0, 0, 28) else (bif Nat.beq 26 pc then (.bipush (-2), 2, [], [], 0, (-2), 0, 26) else mm_nop)) else (bif Nat.ble 23 pc then
  (bif Nat.beq 23 pc then (.goto 5, 3, [(0, 28)], [], 0, 0, 0, 23) else mm_nop) else (bif Nat.beq 20 pc then (.invokevirtual 204, 3, [(10, 175)], [[7072, 7074, 1020, 2015]], 3, 0, 0, 20) else mm_nop))) else (bif Nat.ble 18 pc then
  (bif Nat.ble 19 pc then (.iload_n 2, 1, [], [], 2, 0, 0, 19) else (.iload_n 1, 1, [], [], 1, 0, 0, 18)) else (bif Nat.ble 17 pc then (.iconst 4, 1, [], [], 0, 4, 0, 17) else (.aload_n 0, 1, [], [], 0, 0, 0, 16)))) else (bif Nat.ble 8 pc then
  (bif Nat.ble 10 pc then
  (bif Nat.ble 13 pc then
  (bif Nat.beq 13 pc then (.ifCond .eq 13, 3, [(0, 26)], [], 0, 0, 0, 13) else mm_nop) else (bif Nat.beq 10 pc then (.invokevirtual 200, 3, [(10, 174)], [[7065, 7067, 1019, 2015]], 1, 0, 0, 10) else mm_nop)) else (bif Nat.ble 9 pc then (.iload_n 2, 1, [], [], 2, 0, 0, 9) else (.aload_n 0, 1, [], [], 0, 0, 0, 8))) else (bif Nat.ble 2 pc then
  (bif Nat.ble 5 pc then
  (bif Nat.beq 5 pc then (.ifCond .eq 21, 3, [(0, 26)], [], 0, 0, 0, 5) else mm_nop) else (bif Nat.beq 2 pc then (.invokevirtual 200, 3, [(10, 174)], [[7065, 7067, 1019, 2015]], 1, 0, 0, 2) else mm_nop)) else (bif Nat.ble 1 pc then (.iload_n 1, 1, [], [], 1, 0, 0, 1) else (.aload_n 0, 1, [], [], 0, 0, 0, 0)))))
def mm_k176 : List mm_E := (List.range 29).map mm_f176
def mm_m176 : mm_M := (yX12_pair, cX12_pair, 3, (some .int), mm_k176, 2, 0, 0, 7064)
/-- TypeCopierModel.list.(I)I -/
def mm_f177 : Nat → mm_E := fun pc => (bif Nat.ble 10 pc then
  (bif Nat.ble 15 pc then
  (bif Nat.ble 18 pc then
  (bif Nat.ble 20 pc then (.ireturn, 1, [], [], 0, 0, 0, 20) else (bif Nat.beq 18 pc then (.bipush (-2), 2, [], [], 0, (-2), 0, 18) else mm_nop)) else (bif Nat.beq 15 pc then (.goto 5, 3, [(0, 20)], [], 0, 0, 0, 15) else mm_nop)) else (bif Nat.ble 11 pc then
  (bif Nat.ble 12 pc then
  (bif Nat.beq 12 pc then (.invokevirtual 204, 3, [(10, 175)], [[7072, 7074, 1020, 2015]], 3, 0, 0, 12) else mm_nop) else (.iconst (-1), 1, [], [], 0, (-1), 0, 11)) else (.iload_n 1, 1, [], [], 1, 0, 0, 10))) else (bif Nat.ble 5 pc then
  (bif Nat.ble 8 pc then
  (bif Nat.ble 9 pc then (.iconst 5, 1, [], [], 0, 5, 0, 9) else (.aload_n 0, 1, [], [], 0, 0, 0, 8)) else (bif Nat.beq 5 pc then (.ifCond .eq 13, 3, [(0, 18)], [], 0, 0, 0, 5) else mm_nop)) else (bif Nat.ble 1 pc then
  (bif Nat.ble 2 pc then
  (bif Nat.beq 2 pc then (.invokevirtual 200, 3, [(10, 174)], [[7065, 7067, 1019, 2015]], 1, 0, 0, 2) else mm_nop) else (.iload_n 1, 1, [], [], 1, 0, 0, 1)) else (.aload_n 0, 1, [], [], 0, 0, 0, 0))))
def mm_k177 : List mm_E := (List.range 21).map mm_f177
def mm_m177 : mm_M := (yX12_list, cX12_list, 2, (some .int), mm_k177, 1, 0, 0, 7106)
/-- TypeCopierModel.typeOf.(II)I -/
def mm_f178 : Nat → mm_E := fun pc => (bif Nat.ble 64 pc then
  (bif Nat.ble 81 pc then
  (bif Nat.ble 91 pc then
  (bif Nat.ble 98 pc then
  (bif Nat.ble 99 pc then
  (bif Nat.ble 100 pc then (.ireturn, 1, [], [], 0, 0, 0, 100) else (.iadd, 1, [], [], 0, 0, 0, 99)) else (.iconst 0, 1, [], [], 0, 0, 0, 98)) else (bif Nat.ble 94 pc then
  (bif Nat.ble 95 pc then
  (bif Nat.beq 95 pc then (.goto 4, 3, [(0, 99)], [], 0, 0, 0, 95) else mm_nop) else (.iconst 2, 1, [], [], 0, 2, 0, 94)) else (bif Nat.beq 91 pc then (.ifCond .le 7, 3, [(0, 98)], [], 0, 0, 0, 91) else mm_nop))) else (bif Nat.ble 86 pc then
  (bif Nat.ble 89 pc then
  (bif Nat.ble 90 pc then (.iaload, 1, [], [], 0, 0, 0, 90) else (.iload_n 1, 1, [], [], 1, 0, 0, 89)) else (bif Nat.beq 86 pc then (.getfield 32, 3, [(10, 7)], [[6105]], 0, 0, 0, 86) else mm_nop)) else (bif Nat.ble 84 pc then
  (bif Nat.ble 85 pc then (.aload_n 0, 1, [], [], 0, 0, 0, 85) else (.iconst 0, 1, [], [], 0, 0, 0, 84)) else (bif Nat.beq 81 pc then (.goto 4, 3, [(0, 85)], [], 0, 0, 0, 81) else mm_nop)))) else (bif Nat.ble 71 pc then
  (bif Nat.ble 76 pc then
  (bif Nat.ble 77 pc then
  (bif Nat.ble 80 pc then (.iconst 1, 1, [], [], 0, 1, 0, 80) else (bif Nat.beq 77 pc then (.ifCond .le 7, 3, [(0, 84)], [], 0, 0, 0, 77) else mm_nop)) else (.iaload, 1, [], [], 0, 0, 0, 76)) else (bif Nat.ble 72 pc then
  (bif Nat.ble 75 pc then (.iload_n 1, 1, [], [], 1, 0, 0, 75) else (bif Nat.beq 72 pc then (.getfield 29, 3, [(10, 6)], [[6104]], 0, 0, 0, 72) else mm_nop)) else (.aload_n 0, 1, [], [], 0, 0, 0, 71))) else (bif Nat.ble 68 pc then
  (bif Nat.ble 69 pc then
  (bif Nat.ble 70 pc then (.ireturn, 1, [], [], 0, 0, 0, 70) else (.iaload, 1, [], [], 0, 0, 0, 69)) else (.iload_n 1, 1, [], [], 1, 0, 0, 68)) else (bif Nat.ble 65 pc then
  (bif Nat.beq 65 pc then (.getfield 35, 3, [(10, 8)], [[6106]], 0, 0, 0, 65) else mm_nop) else (.aload_n 0, 1, [], [], 0, 0, 0, 64))))) else (bif Nat.ble 49 pc then
  (bif Nat.ble 56 pc then
  (bif Nat.ble 61 pc then
  (bif Nat.ble 62 pc then
  (bif Nat.ble 63 pc then (.ireturn, 1, [], [], 0, 0, 0, 63) else (.iaload, 1, [], [], 0, 0, 0, 62)) else (.iload_n 1, 1, [], [], 1, 0, 0, 61)) else (bif Nat.ble 57 pc then
  (bif Nat.ble 58 pc then
  (bif Nat.beq 58 pc then (.getfield 26, 3, [(10, 5)], [[6103]], 0, 0, 0, 58) else mm_nop) else (.aload_n 0, 1, [], [], 0, 0, 0, 57)) else (.ireturn, 1, [], [], 0, 0, 0, 56))) else (bif Nat.ble 51 pc then
  (bif Nat.ble 54 pc then
  (bif Nat.ble 55 pc then (.iaload, 1, [], [], 0, 0, 0, 55) else (.iload_n 1, 1, [], [], 1, 0, 0, 54)) else (bif Nat.beq 51 pc then (.getfield 23, 3, [(10, 4)], [[6102]], 0, 0, 0, 51) else mm_nop)) else (bif Nat.ble 50 pc then (.aload_n 0, 1, [], [], 0, 0, 0, 50) else (.ireturn, 1, [], [], 0, 0, 0, 49)))) else (bif Nat.ble 41 pc then
  (bif Nat.ble 44 pc then
  (bif Nat.ble 47 pc then
  (bif Nat.ble 48 pc then (.iaload, 1, [], [], 0, 0, 0, 48) else (.iload_n 1, 1, [], [], 1, 0, 0, 47)) else (bif Nat.beq 44 pc then (.getfield 20, 3, [(10, 3)], [[6101]], 0, 0, 0, 44) else mm_nop)) else (bif Nat.ble 42 pc then
  (bif Nat.ble 43 pc then (.aload_n 0, 1, [], [], 0, 0, 0, 43) else (.ireturn, 1, [], [], 0, 0, 0, 42)) else (.iaload, 1, [], [], 0, 0, 0, 41))) else (bif Nat.ble 36 pc then
  (bif Nat.ble 37 pc then
  (bif Nat.ble 40 pc then (.iload_n 1, 1, [], [], 1, 0, 0, 40) else (bif Nat.beq 37 pc then (.getfield 16, 3, [(10, 2)], [[6100]], 0, 0, 0, 37) else mm_nop)) else (.aload_n 0, 1, [], [], 0, 0, 0, 36)) else (bif Nat.ble 1 pc then
  (bif Nat.beq 1 pc then (.tableswitch 70 0 4 #[35, 42, 49, 56, 63], 35, [(0, 71), (0, 36), (1, 43), (2, 50), (3, 57), (4, 64)], [], 0, 0, 0, 1) else mm_nop) else (.iload_n 2, 1, [], [], 2, 0, 0, 0))))))
def mm_k178 : List mm_E := (List.range 101).map mm_f178
def mm_m178 : mm_M := (yX12_typeOf, cX12_typeOf, 3, (some .int), mm_k178, 2, 0, 0, 7114)
/-- TypeCopierModel.type.(II)I -/
def mm_f179 : Nat → mm_E := fun pc => (bif Nat.ble 14 pc then
  (bif Nat.ble 20 pc then
  (bif Nat.ble 26 pc then
  (bif Nat.ble 28 pc then (.ireturn, 1, [], [], 0, 0, 0, 28) else (bif Nat.beq 26 pc then (.bipush (-2), 2, [], [], 0, (-2), 0, 26) else mm_nop)) else (bif Nat.ble 23 pc then
  (bif Nat.beq 23 pc then (.goto 5, 3, [(0, 28)], [], 0, 0, 0, 23) else mm_nop) else (bif Nat.beq 20 pc then (.invokevirtual 207, 3, [(10, 178)], [[7111, 7113, 1025, 2015]], 2, 0, 0, 20) else mm_nop))) else (bif Nat.ble 18 pc then
  (bif Nat.ble 19 pc then (.iload_n 2, 1, [], [], 2, 0, 0, 19) else (.iload_n 1, 1, [], [], 1, 0, 0, 18)) else (bif Nat.ble 17 pc then (.aload_n 0, 1, [], [], 0, 0, 0, 17) else (bif Nat.beq 14 pc then (.ifCond .eq 12, 3, [(0, 26)], [], 0, 0, 0, 14) else mm_nop)))) else (bif Nat.ble 8 pc then
  (bif Nat.ble 10 pc then
  (bif Nat.ble 11 pc then
  (bif Nat.beq 11 pc then (.invokestatic 193, 3, [(0, 164)], [[7069, 7070, 2015]], 3, 0, 0, 11) else mm_nop) else (.iconst 5, 1, [], [], 0, 5, 0, 10)) else (bif Nat.ble 9 pc then (.iconst 0, 1, [], [], 0, 0, 0, 9) else (.iload_n 2, 1, [], [], 2, 0, 0, 8))) else (bif Nat.ble 2 pc then
  (bif Nat.ble 5 pc then
  (bif Nat.beq 5 pc then (.ifCond .eq 21, 3, [(0, 26)], [], 0, 0, 0, 5) else mm_nop) else (bif Nat.beq 2 pc then (.invokevirtual 200, 3, [(10, 174)], [[7065, 7067, 1019, 2015]], 1, 0, 0, 2) else mm_nop)) else (bif Nat.ble 1 pc then (.iload_n 1, 1, [], [], 1, 0, 0, 1) else (.aload_n 0, 1, [], [], 0, 0, 0, 0)))))
def mm_k179 : List mm_E := (List.range 29).map mm_f179
def mm_m179 : mm_M := (yX12_type, cX12_type, 3, (some .int), mm_k179, 2, 0, 0, 7110)
/-- TypeCopierModel.isWithin.(II)Z -/
def mm_f180 : Nat → mm_E := fun pc => (bif Nat.ble 17 pc then
  (bif Nat.ble 24 pc then
  (bif Nat.ble 28 pc then
  (bif Nat.ble 31 pc then
  (bif Nat.ble 32 pc then (.ireturn, 1, [], [], 0, 0, 0, 32) else (.iconst 0, 1, [], [], 0, 0, 0, 31)) else (bif Nat.beq 28 pc then (.goto 4, 3, [(0, 32)], [], 0, 0, 0, 28) else mm_nop)) else (bif Nat.ble 27 pc then (.iconst 1, 1, [], [], 0, 1, 0, 27) else (bif Nat.beq 24 pc then (.if_icmp .le 7, 3, [(0, 31)], [], 0, 0, 0, 24) else mm_nop))) else (bif Nat.ble 19 pc then
  (bif Nat.ble 22 pc then
  (bif Nat.ble 23 pc then (.iconst 1, 1, [], [], 0, 1, 0, 23) else (.iload_n 2, 1, [], [], 2, 0, 0, 22)) else (bif Nat.beq 19 pc then (.ifCond .eq 8, 3, [(0, 27)], [], 0, 0, 0, 19) else mm_nop)) else (bif Nat.ble 18 pc then (.iaload, 1, [], [], 0, 0, 0, 18) else (.iload_n 1, 1, [], [], 1, 0, 0, 17)))) else (bif Nat.ble 6 pc then
  (bif Nat.ble 10 pc then
  (bif Nat.ble 13 pc then
  (bif Nat.ble 14 pc then
  (bif Nat.beq 14 pc then (.getfield 32, 3, [(10, 7)], [[6105]], 0, 0, 0, 14) else mm_nop) else (.aload_n 0, 1, [], [], 0, 0, 0, 13)) else (bif Nat.beq 10 pc then (.ifCond .le 21, 3, [(0, 31)], [], 0, 0, 0, 10) else mm_nop)) else (bif Nat.ble 9 pc then (.iload_n 2, 1, [], [], 2, 0, 0, 9) else (bif Nat.beq 6 pc then (.ifCond .eq 7, 3, [(0, 13)], [], 0, 0, 0, 6) else mm_nop))) else (bif Nat.ble 4 pc then
  (bif Nat.ble 5 pc then (.iaload, 1, [], [], 0, 0, 0, 5) else (.iload_n 1, 1, [], [], 1, 0, 0, 4)) else (bif Nat.ble 1 pc then
  (bif Nat.beq 1 pc then (.getfield 29, 3, [(10, 6)], [[6104]], 0, 0, 0, 1) else mm_nop) else (.aload_n 0, 1, [], [], 0, 0, 0, 0)))))
def mm_k180 : List mm_E := (List.range 33).map mm_f180
def mm_m180 : mm_M := (yX12_isWithin, cX12_isWithin, 3, (some .boolean), mm_k180, 2, 0, 0, 7141)
/-- TypeCopierModel.put.(III)I -/
def mm_f181 : Nat → mm_E := fun pc => (bif Nat.ble 148 pc then
  (bif Nat.ble 221 pc then
  (bif Nat.ble 254 pc then
  (bif Nat.ble 270 pc then
  (bif Nat.ble 277 pc then
  (bif Nat.ble 284 pc then
  (bif Nat.ble 285 pc then
  (bif Nat.ble 286 pc then (.ireturn, 1, [], [], 0, 0, 0, 286) else (.iaload, 1, [], [], 0, 0, 0, 285)) else (.iconst 0, 1, [], [], 0, 0, 0, 284)) else (bif Nat.ble 280 pc then
  (bif Nat.ble 281 pc then
  (bif Nat.beq 281 pc then (.getfield 48, 3, [(10, 12)], [[6110]], 0, 0, 0, 281) else mm_nop) else (.aload_n 0, 1, [], [], 0, 0, 0, 280)) else (bif Nat.beq 277 pc then (.goto (-257), 3, [(0, 20)], [], 0, 0, 0, 277) else mm_nop))) else (bif Nat.ble 272 pc then
  (bif Nat.ble 273 pc then
  (bif Nat.ble 276 pc then (.iastore, 1, [], [], 0, 0, 0, 276) else (bif Nat.beq 273 pc then (.invokevirtual 210, 3, [(10, 173)], [[7166, 7168, 1034, 2015]], 3, 0, 0, 273) else mm_nop)) else (.iaload, 1, [], [], 0, 0, 0, 272)) else (bif Nat.ble 271 pc then (.isub, 1, [], [], 0, 0, 0, 271) else (.iconst 1, 1, [], [], 0, 1, 0, 270)))) else (bif Nat.ble 261 pc then
  (bif Nat.ble 264 pc then
  (bif Nat.ble 265 pc then
  (bif Nat.ble 268 pc then
  (bif Nat.beq 268 pc then (.iload 5, 2, [], [], 5, 0, 0, 268) else mm_nop) else (bif Nat.beq 265 pc then (.getfield 48, 3, [(10, 12)], [[6110]], 0, 0, 0, 265) else mm_nop)) else (.aload_n 0, 1, [], [], 0, 0, 0, 264)) else (bif Nat.ble 263 pc then (.iaload, 1, [], [], 0, 0, 0, 263) else (bif Nat.beq 261 pc then (.iload 5, 2, [], [], 5, 0, 0, 261) else mm_nop))) else (bif Nat.ble 256 pc then
  (bif Nat.ble 257 pc then
  (bif Nat.ble 258 pc then
  (bif Nat.beq 258 pc then (.getfield 48, 3, [(10, 12)], [[6110]], 0, 0, 0, 258) else mm_nop) else (.aload_n 0, 1, [], [], 0, 0, 0, 257)) else (.iconst 4, 1, [], [], 0, 4, 0, 256)) else (bif Nat.ble 255 pc then (.aload_n 0, 1, [], [], 0, 0, 0, 255) else (.isub, 1, [], [], 0, 0, 0, 254))))) else (bif Nat.ble 235 pc then
  (bif Nat.ble 244 pc then
  (bif Nat.ble 248 pc then
  (bif Nat.ble 251 pc then
  (bif Nat.ble 253 pc then (.iconst 1, 1, [], [], 0, 1, 0, 253) else (bif Nat.beq 251 pc then (.iload 5, 2, [], [], 5, 0, 0, 251) else mm_nop)) else (bif Nat.beq 248 pc then (.getfield 48, 3, [(10, 12)], [[6110]], 0, 0, 0, 248) else mm_nop)) else (bif Nat.ble 247 pc then (.aload_n 0, 1, [], [], 0, 0, 0, 247) else (bif Nat.beq 244 pc then (.iinc 5 (-1), 3, [], [], 5, (-1), 0, 244) else mm_nop))) else (bif Nat.ble 237 pc then
  (bif Nat.ble 240 pc then
  (bif Nat.ble 241 pc then
  (bif Nat.beq 241 pc then (.goto 36, 3, [(0, 277)], [], 0, 0, 0, 241) else mm_nop) else (.iastore, 1, [], [], 0, 0, 0, 240)) else (bif Nat.beq 237 pc then (.invokevirtual 210, 3, [(10, 173)], [[7166, 7168, 1034, 2015]], 3, 0, 0, 237) else mm_nop)) else (bif Nat.ble 236 pc then (.iconst (-1), 1, [], [], 0, (-1), 0, 236) else (.iaload, 1, [], [], 0, 0, 0, 235)))) else (bif Nat.ble 227 pc then
  (bif Nat.ble 231 pc then
  (bif Nat.ble 233 pc then
  (bif Nat.ble 234 pc then (.isub, 1, [], [], 0, 0, 0, 234) else (.iconst 1, 1, [], [], 0, 1, 0, 233)) else (bif Nat.beq 231 pc then (.iload 5, 2, [], [], 5, 0, 0, 231) else mm_nop)) else (bif Nat.ble 228 pc then
  (bif Nat.beq 228 pc then (.getfield 48, 3, [(10, 12)], [[6110]], 0, 0, 0, 228) else mm_nop) else (.aload_n 0, 1, [], [], 0, 0, 0, 227))) else (bif Nat.ble 224 pc then
  (bif Nat.ble 225 pc then
  (bif Nat.ble 226 pc then (.iconst 5, 1, [], [], 0, 5, 0, 226) else (.aload_n 0, 1, [], [], 0, 0, 0, 225)) else (.isub, 1, [], [], 0, 0, 0, 224)) else (bif Nat.ble 223 pc then (.iconst 1, 1, [], [], 0, 1, 0, 223) else (bif Nat.beq 221 pc then (.iload 5, 2, [], [], 5, 0, 0, 221) else mm_nop)))))) else (bif Nat.ble 184 pc then
  (bif Nat.ble 200 pc then
  (bif Nat.ble 212 pc then
  (bif Nat.ble 214 pc then
  (bif Nat.ble 217 pc then
  (bif Nat.ble 218 pc then
  (bif Nat.beq 218 pc then (.getfield 48, 3, [(10, 12)], [[6110]], 0, 0, 0, 218) else mm_nop) else (.aload_n 0, 1, [], [], 0, 0, 0, 217)) else (bif Nat.beq 214 pc then (.if_icmp .ne 30, 3, [(0, 244)], [], 0, 0, 0, 214) else mm_nop)) else (bif Nat.ble 213 pc then (.iconst 5, 1, [], [], 0, 5, 0, 213) else (.iaload, 1, [], [], 0, 0, 0, 212))) else (bif Nat.ble 206 pc then
  (bif Nat.ble 207 pc then
  (bif Nat.ble 210 pc then
  (bif Nat.beq 210 pc then (.iload 6, 2, [], [], 6, 0, 0, 210) else mm_nop) else (bif Nat.beq 207 pc then (.getfield 16, 3, [(10, 2)], [[6100]], 0, 0, 0, 207) else mm_nop)) else (.aload_n 0, 1, [], [], 0, 0, 0, 206)) else (bif Nat.ble 203 pc then
  (bif Nat.beq 203 pc then (.goto 74, 3, [(0, 277)], [], 0, 0, 0, 203) else mm_nop) else (bif Nat.beq 200 pc then (.iinc 4 1, 3, [], [], 4, 1, 0, 200) else mm_nop)))) else (bif Nat.ble 192 pc then
  (bif Nat.ble 196 pc then
  (bif Nat.ble 198 pc then
  (bif Nat.ble 199 pc then (.bastore, 1, [], [], 0, 0, 0, 199) else (.iconst 0, 1, [], [], 0, 0, 0, 198)) else (bif Nat.beq 196 pc then (.iload 4, 2, [], [], 4, 0, 0, 196) else mm_nop)) else (bif Nat.ble 193 pc then
  (bif Nat.beq 193 pc then (.getfield 44, 3, [(10, 11)], [[6109]], 0, 0, 0, 193) else mm_nop) else (.aload_n 0, 1, [], [], 0, 0, 0, 192))) else (bif Nat.ble 188 pc then
  (bif Nat.ble 190 pc then
  (bif Nat.ble 191 pc then (.iastore, 1, [], [], 0, 0, 0, 191) else (.iaload, 1, [], [], 0, 0, 0, 190)) else (bif Nat.beq 188 pc then (.iload 6, 2, [], [], 6, 0, 0, 188) else mm_nop)) else (bif Nat.ble 185 pc then
  (bif Nat.beq 185 pc then (.getfield 23, 3, [(10, 4)], [[6102]], 0, 0, 0, 185) else mm_nop) else (.aload_n 0, 1, [], [], 0, 0, 0, 184))))) else (bif Nat.ble 164 pc then
  (bif Nat.ble 174 pc then
  (bif Nat.ble 178 pc then
  (bif Nat.ble 179 pc then
  (bif Nat.ble 182 pc then
  (bif Nat.beq 182 pc then (.iload 4, 2, [], [], 4, 0, 0, 182) else mm_nop) else (bif Nat.beq 179 pc then (.getfield 41, 3, [(10, 10)], [[6108]], 0, 0, 0, 179) else mm_nop)) else (.aload_n 0, 1, [], [], 0, 0, 0, 178)) else (bif Nat.ble 175 pc then
  (bif Nat.beq 175 pc then (.if_icmp .ne 102, 3, [(0, 277)], [], 0, 0, 0, 175) else mm_nop) else (.iconst 4, 1, [], [], 0, 4, 0, 174))) else (bif Nat.ble 168 pc then
  (bif Nat.ble 171 pc then
  (bif Nat.ble 173 pc then (.iaload, 1, [], [], 0, 0, 0, 173) else (bif Nat.beq 171 pc then (.iload 6, 2, [], [], 6, 0, 0, 171) else mm_nop)) else (bif Nat.beq 168 pc then (.getfield 16, 3, [(10, 2)], [[6100]], 0, 0, 0, 168) else mm_nop)) else (bif Nat.ble 167 pc then (.aload_n 0, 1, [], [], 0, 0, 0, 167) else (bif Nat.beq 164 pc then (.iinc 4 1, 3, [], [], 4, 1, 0, 164) else mm_nop)))) else (bif Nat.ble 156 pc then
  (bif Nat.ble 160 pc then
  (bif Nat.ble 162 pc then
  (bif Nat.ble 163 pc then (.bastore, 1, [], [], 0, 0, 0, 163) else (.iconst 0, 1, [], [], 0, 0, 0, 162)) else (bif Nat.beq 160 pc then (.iload 4, 2, [], [], 4, 0, 0, 160) else mm_nop)) else (bif Nat.ble 157 pc then
  (bif Nat.beq 157 pc then (.getfield 44, 3, [(10, 11)], [[6109]], 0, 0, 0, 157) else mm_nop) else (.aload_n 0, 1, [], [], 0, 0, 0, 156))) else (bif Nat.ble 152 pc then
  (bif Nat.ble 154 pc then
  (bif Nat.ble 155 pc then (.iastore, 1, [], [], 0, 0, 0, 155) else (.iaload, 1, [], [], 0, 0, 0, 154)) else (bif Nat.beq 152 pc then (.iload 6, 2, [], [], 6, 0, 0, 152) else mm_nop)) else (bif Nat.ble 149 pc then
  (bif Nat.beq 149 pc then (.getfield 20, 3, [(10, 3)], [[6101]], 0, 0, 0, 149) else mm_nop) else (.aload_n 0, 1, [], [], 0, 0, 0, 148))))))) else (bif Nat.ble 71 pc then
  (bif Nat.ble 109 pc then
  (bif Nat.ble 128 pc then
  (bif Nat.ble 138 pc then
  (bif Nat.ble 142 pc then
  (bif Nat.ble 143 pc then
  (bif Nat.ble 146 pc then
  (bif Nat.beq 146 pc then (.iload 4, 2, [], [], 4, 0, 0, 146) else mm_nop) else (bif Nat.beq 143 pc then (.getfield 41, 3, [(10, 10)], [[6108]], 0, 0, 0, 143) else mm_nop)) else (.aload_n 0, 1, [], [], 0, 0, 0, 142)) else (bif Nat.ble 139 pc then
  (bif Nat.beq 139 pc then (.iinc 4 1, 3, [], [], 4, 1, 0, 139) else mm_nop) else (.bastore, 1, [], [], 0, 0, 0, 138))) else (bif Nat.ble 132 pc then
  (bif Nat.ble 135 pc then
  (bif Nat.ble 137 pc then (.iconst 1, 1, [], [], 0, 1, 0, 137) else (bif Nat.beq 135 pc then (.iload 4, 2, [], [], 4, 0, 0, 135) else mm_nop)) else (bif Nat.beq 132 pc then (.getfield 44, 3, [(10, 11)], [[6109]], 0, 0, 0, 132) else mm_nop)) else (bif Nat.ble 131 pc then (.aload_n 0, 1, [], [], 0, 0, 0, 131) else (bif Nat.beq 128 pc then (.ifCond .ne 78, 3, [(0, 206)], [], 0, 0, 0, 128) else mm_nop)))) else (bif Nat.ble 118 pc then
  (bif Nat.ble 122 pc then
  (bif Nat.ble 125 pc then
  (bif Nat.ble 127 pc then (.baload, 1, [], [], 0, 0, 0, 127) else (bif Nat.beq 125 pc then (.iload 4, 2, [], [], 4, 0, 0, 125) else mm_nop)) else (bif Nat.beq 122 pc then (.getfield 44, 3, [(10, 11)], [[6109]], 0, 0, 0, 122) else mm_nop)) else (bif Nat.ble 121 pc then (.aload_n 0, 1, [], [], 0, 0, 0, 121) else (bif Nat.beq 118 pc then (.goto 159, 3, [(0, 277)], [], 0, 0, 0, 118) else mm_nop))) else (bif Nat.ble 113 pc then
  (bif Nat.ble 114 pc then
  (bif Nat.ble 115 pc then
  (bif Nat.beq 115 pc then (.iinc 5 1, 3, [], [], 5, 1, 0, 115) else mm_nop) else (.iastore, 1, [], [], 0, 0, 0, 114)) else (.iload_n 3, 1, [], [], 3, 0, 0, 113)) else (bif Nat.ble 110 pc then
  (bif Nat.beq 110 pc then (.goto 4, 3, [(0, 114)], [], 0, 0, 0, 110) else mm_nop) else (.iload_n 2, 1, [], [], 2, 0, 0, 109))))) else (bif Nat.ble 89 pc then
  (bif Nat.ble 99 pc then
  (bif Nat.ble 104 pc then
  (bif Nat.ble 105 pc then
  (bif Nat.ble 106 pc then
  (bif Nat.beq 106 pc then (.if_icmp .ne 7, 3, [(0, 113)], [], 0, 0, 0, 106) else mm_nop) else (.iconst 2, 1, [], [], 0, 2, 0, 105)) else (.iaload, 1, [], [], 0, 0, 0, 104)) else (bif Nat.ble 102 pc then
  (bif Nat.beq 102 pc then (.iload 6, 2, [], [], 6, 0, 0, 102) else mm_nop) else (bif Nat.beq 99 pc then (.getfield 16, 3, [(10, 2)], [[6100]], 0, 0, 0, 99) else mm_nop))) else (bif Nat.ble 93 pc then
  (bif Nat.ble 96 pc then
  (bif Nat.ble 98 pc then (.aload_n 0, 1, [], [], 0, 0, 0, 98) else (bif Nat.beq 96 pc then (.iload 5, 2, [], [], 5, 0, 0, 96) else mm_nop)) else (bif Nat.beq 93 pc then (.getfield 48, 3, [(10, 12)], [[6110]], 0, 0, 0, 93) else mm_nop)) else (bif Nat.ble 92 pc then (.aload_n 0, 1, [], [], 0, 0, 0, 92) else (bif Nat.beq 89 pc then (.if_icmp .ne 32, 3, [(0, 121)], [], 0, 0, 0, 89) else mm_nop)))) else (bif Nat.ble 81 pc then
  (bif Nat.ble 85 pc then
  (bif Nat.ble 87 pc then
  (bif Nat.ble 88 pc then (.iconst 3, 1, [], [], 0, 3, 0, 88) else (.iaload, 1, [], [], 0, 0, 0, 87)) else (bif Nat.beq 85 pc then (.iload 6, 2, [], [], 6, 0, 0, 85) else mm_nop)) else (bif Nat.ble 82 pc then
  (bif Nat.beq 82 pc then (.getfield 16, 3, [(10, 2)], [[6100]], 0, 0, 0, 82) else mm_nop) else (.aload_n 0, 1, [], [], 0, 0, 0, 81))) else (bif Nat.ble 76 pc then
  (bif Nat.ble 77 pc then
  (bif Nat.ble 78 pc then
  (bif Nat.beq 78 pc then (.if_icmp .eq 14, 3, [(0, 92)], [], 0, 0, 0, 78) else mm_nop) else (.iconst 2, 1, [], [], 0, 2, 0, 77)) else (.iaload, 1, [], [], 0, 0, 0, 76)) else (bif Nat.ble 74 pc then
  (bif Nat.beq 74 pc then (.iload 6, 2, [], [], 6, 0, 0, 74) else mm_nop) else (bif Nat.beq 71 pc then (.getfield 16, 3, [(10, 2)], [[6100]], 0, 0, 0, 71) else mm_nop)))))) else (bif Nat.ble 34 pc then
  (bif Nat.ble 51 pc then
  (bif Nat.ble 61 pc then
  (bif Nat.ble 64 pc then
  (bif Nat.ble 67 pc then
  (bif Nat.ble 70 pc then (.aload_n 0, 1, [], [], 0, 0, 0, 70) else (bif Nat.beq 67 pc then (.goto 210, 3, [(0, 277)], [], 0, 0, 0, 67) else mm_nop)) else (bif Nat.beq 64 pc then (.iinc 5 1, 3, [], [], 5, 1, 0, 64) else mm_nop)) else (bif Nat.ble 63 pc then (.iastore, 1, [], [], 0, 0, 0, 63) else (bif Nat.beq 61 pc then (.iload 6, 2, [], [], 6, 0, 0, 61) else mm_nop))) else (bif Nat.ble 55 pc then
  (bif Nat.ble 56 pc then
  (bif Nat.ble 59 pc then
  (bif Nat.beq 59 pc then (.iload 5, 2, [], [], 5, 0, 0, 59) else mm_nop) else (bif Nat.beq 56 pc then (.getfield 48, 3, [(10, 12)], [[6110]], 0, 0, 0, 56) else mm_nop)) else (.aload_n 0, 1, [], [], 0, 0, 0, 55)) else (bif Nat.ble 52 pc then
  (bif Nat.beq 52 pc then (.ifCond .ne 18, 3, [(0, 70)], [], 0, 0, 0, 52) else mm_nop) else (.iadd, 1, [], [], 0, 0, 0, 51)))) else (bif Nat.ble 43 pc then
  (bif Nat.ble 45 pc then
  (bif Nat.ble 48 pc then
  (bif Nat.ble 50 pc then (.iaload, 1, [], [], 0, 0, 0, 50) else (bif Nat.beq 48 pc then (.iload 6, 2, [], [], 6, 0, 0, 48) else mm_nop)) else (bif Nat.beq 45 pc then (.getfield 32, 3, [(10, 7)], [[6105]], 0, 0, 0, 45) else mm_nop)) else (bif Nat.ble 44 pc then (.aload_n 0, 1, [], [], 0, 0, 0, 44) else (.iaload, 1, [], [], 0, 0, 0, 43))) else (bif Nat.ble 37 pc then
  (bif Nat.ble 38 pc then
  (bif Nat.ble 41 pc then
  (bif Nat.beq 41 pc then (.iload 6, 2, [], [], 6, 0, 0, 41) else mm_nop) else (bif Nat.beq 38 pc then (.getfield 29, 3, [(10, 6)], [[6104]], 0, 0, 0, 38) else mm_nop)) else (.aload_n 0, 1, [], [], 0, 0, 0, 37)) else (bif Nat.ble 35 pc then
  (bif Nat.beq 35 pc then (.istore 6, 2, [], [], 6, 0, 0, 35) else mm_nop) else (.iaload, 1, [], [], 0, 0, 0, 34))))) else (bif Nat.ble 14 pc then
  (bif Nat.ble 22 pc then
  (bif Nat.ble 28 pc then
  (bif Nat.ble 29 pc then
  (bif Nat.ble 32 pc then
  (bif Nat.beq 32 pc then (.iload 4, 2, [], [], 4, 0, 0, 32) else mm_nop) else (bif Nat.beq 29 pc then (.getfield 41, 3, [(10, 10)], [[6108]], 0, 0, 0, 29) else mm_nop)) else (.aload_n 0, 1, [], [], 0, 0, 0, 28)) else (bif Nat.ble 25 pc then
  (bif Nat.beq 25 pc then (.iinc 4 (-1), 3, [], [], 4, (-1), 0, 25) else mm_nop) else (bif Nat.beq 22 pc then (.ifCond .le 258, 3, [(0, 280)], [], 0, 0, 0, 22) else mm_nop))) else (bif Nat.ble 18 pc then
  (bif Nat.ble 19 pc then
  (bif Nat.ble 20 pc then
  (bif Nat.beq 20 pc then (.iload 4, 2, [], [], 4, 0, 0, 20) else mm_nop) else (.bastore, 1, [], [], 0, 0, 0, 19)) else (.iconst 0, 1, [], [], 0, 0, 0, 18)) else (bif Nat.ble 17 pc then (.iconst 0, 1, [], [], 0, 0, 0, 17) else (bif Nat.beq 14 pc then (.getfield 44, 3, [(10, 11)], [[6109]], 0, 0, 0, 14) else mm_nop)))) else (bif Nat.ble 7 pc then
  (bif Nat.ble 11 pc then
  (bif Nat.ble 12 pc then
  (bif Nat.ble 13 pc then (.aload_n 0, 1, [], [], 0, 0, 0, 13) else (.iastore, 1, [], [], 0, 0, 0, 12)) else (.iload_n 1, 1, [], [], 1, 0, 0, 11)) else (bif Nat.ble 10 pc then (.iconst 0, 1, [], [], 0, 0, 0, 10) else (bif Nat.beq 7 pc then (.getfield 41, 3, [(10, 10)], [[6108]], 0, 0, 0, 7) else mm_nop))) else (bif Nat.ble 3 pc then
  (bif Nat.ble 4 pc then
  (bif Nat.ble 6 pc then (.aload_n 0, 1, [], [], 0, 0, 0, 6) else (bif Nat.beq 4 pc then (.istore 5, 2, [], [], 5, 0, 0, 4) else mm_nop)) else (.iconst 0, 1, [], [], 0, 0, 0, 3)) else (bif Nat.ble 1 pc then
  (bif Nat.beq 1 pc then (.istore 4, 2, [], [], 4, 0, 0, 1) else mm_nop) else (.iconst 1, 1, [], [], 0, 1, 0, 0))))))))
def mm_k181 : List mm_E := (List.range 287).map mm_f181
def mm_m181 : mm_M := (yX12_put, cX12_put, 7, (some .int), mm_k181, 3, 0, 0, 7177)
/-- TypeCopierModel.named.(IZ)I -/
def mm_f182 : Nat → mm_E := fun pc => (bif Nat.ble 9 pc then
  (bif Nat.ble 16 pc then
  (bif Nat.ble 19 pc then
  (bif Nat.ble 21 pc then (.ireturn, 1, [], [], 0, 0, 0, 21) else (bif Nat.beq 19 pc then (.bipush (-5), 2, [], [], 0, (-5), 0, 19) else mm_nop)) else (bif Nat.beq 16 pc then (.goto 5, 3, [(0, 21)], [], 0, 0, 0, 16) else mm_nop)) else (bif Nat.ble 12 pc then
  (bif Nat.ble 15 pc then (.iload_n 1, 1, [], [], 1, 0, 0, 15) else (bif Nat.beq 12 pc then (.if_icmp .ge 7, 3, [(0, 19)], [], 0, 0, 0, 12) else mm_nop)) else (bif Nat.beq 9 pc then (.sipush 200, 3, [], [], 0, 200, 0, 9) else mm_nop))) else (bif Nat.ble 4 pc then
  (bif Nat.ble 5 pc then
  (bif Nat.ble 8 pc then (.iload_n 1, 1, [], [], 1, 0, 0, 8) else (bif Nat.beq 5 pc then (.goto 16, 3, [(0, 21)], [], 0, 0, 0, 5) else mm_nop)) else (.iconst (-1), 1, [], [], 0, (-1), 0, 4)) else (bif Nat.ble 1 pc then
  (bif Nat.beq 1 pc then (.ifCond .ne 7, 3, [(0, 8)], [], 0, 0, 0, 1) else mm_nop) else (.iload_n 2, 1, [], [], 2, 0, 0, 0))))
def mm_k182 : List mm_E := (List.range 22).map mm_f182
def mm_m182 : mm_M := (yX12_named, cX12_named, 3, (some .int), mm_k182, 2, 0, 0, 7181)
/-- TypeCopierModel.isNode.(I)Z -/
def mm_f183 : Nat → mm_E := fun pc => (bif Nat.ble 6 pc then
  (bif Nat.ble 8 pc then
  (bif Nat.ble 11 pc then (.ireturn, 1, [], [], 0, 0, 0, 11) else (bif Nat.beq 8 pc then (.invokestatic 193, 3, [(0, 164)], [[7069, 7070, 2015]], 3, 0, 0, 8) else mm_nop)) else (bif Nat.ble 7 pc then (.isub, 1, [], [], 0, 0, 0, 7) else (.iconst 1, 1, [], [], 0, 1, 0, 6))) else (bif Nat.ble 2 pc then
  (bif Nat.ble 3 pc then
  (bif Nat.beq 3 pc then (.getfield 213, 3, [(10, 13)], [[6111]], 0, 0, 0, 3) else mm_nop) else (.aload_n 0, 1, [], [], 0, 0, 0, 2)) else (bif Nat.ble 1 pc then (.iconst 0, 1, [], [], 0, 0, 0, 1) else (.iload_n 1, 1, [], [], 1, 0, 0, 0))))
def mm_k183 : List mm_E := (List.range 12).map mm_f183
def mm_m183 : mm_M := (yX12_isNode, cX12_isNode, 2, (some .boolean), mm_k183, 1, 0, 0, 7126)
/-- TypeCopierModel.isFunction.(I)Z -/
def mm_f184 : Nat → mm_E := fun pc => (bif Nat.ble 6 pc then
  (bif Nat.ble 8 pc then
  (bif Nat.ble 11 pc then (.ireturn, 1, [], [], 0, 0, 0, 11) else (bif Nat.beq 8 pc then (.invokestatic 193, 3, [(0, 164)], [[7069, 7070, 2015]], 3, 0, 0, 8) else mm_nop)) else (bif Nat.ble 7 pc then (.isub, 1, [], [], 0, 0, 0, 7) else (.iconst 1, 1, [], [], 0, 1, 0, 6))) else (bif Nat.ble 2 pc then
  (bif Nat.ble 3 pc then
  (bif Nat.beq 3 pc then (.getfield 216, 3, [(10, 20)], [[6118]], 0, 0, 0, 3) else mm_nop) else (.aload_n 0, 1, [], [], 0, 0, 0, 2)) else (bif Nat.ble 1 pc then (.iconst 0, 1, [], [], 0, 0, 0, 1) else (.iload_n 1, 1, [], [], 1, 0, 0, 0))))
def mm_k184 : List mm_E := (List.range 12).map mm_f184
def mm_m184 : mm_M := (yX12_isFunction, cX12_isFunction, 2, (some .boolean), mm_k184, 1, 0, 0, 7149)
/-- TypeCopierModel.partsOf.(I)I -/
def mm_f185 : Nat → mm_E := fun pc => (bif Nat.ble 25 pc then
  (bif Nat.ble 37 pc then
  (bif Nat.ble 46 pc then
  (bif Nat.ble 50 pc then
  (bif Nat.ble 51 pc then (.ireturn, 1, [], [], 0, 0, 0, 51) else (.iconst 1, 1, [], [], 0, 1, 0, 50)) else (bif Nat.ble 47 pc then
  (bif Nat.beq 47 pc then (.goto 4, 3, [(0, 51)], [], 0, 0, 0, 47) else mm_nop) else (.iconst 2, 1, [], [], 0, 2, 0, 46))) else (bif Nat.ble 41 pc then
  (bif Nat.ble 43 pc then
  (bif Nat.beq 43 pc then (.if_icmp .ne 7, 3, [(0, 50)], [], 0, 0, 0, 43) else mm_nop) else (bif Nat.beq 41 pc then (.bipush 10, 2, [], [], 0, 10, 0, 41) else mm_nop)) else (bif Nat.ble 40 pc then (.iload_n 0, 1, [], [], 0, 0, 0, 40) else (bif Nat.beq 37 pc then (.if_icmp .eq 9, 3, [(0, 46)], [], 0, 0, 0, 37) else mm_nop)))) else (bif Nat.ble 30 pc then
  (bif Nat.ble 34 pc then
  (bif Nat.ble 35 pc then
  (bif Nat.beq 35 pc then (.bipush 6, 2, [], [], 0, 6, 0, 35) else mm_nop) else (.iload_n 0, 1, [], [], 0, 0, 0, 34)) else (bif Nat.ble 31 pc then
  (bif Nat.beq 31 pc then (.if_icmp .eq 15, 3, [(0, 46)], [], 0, 0, 0, 31) else mm_nop) else (.iconst 4, 1, [], [], 0, 4, 0, 30))) else (bif Nat.ble 26 pc then
  (bif Nat.ble 29 pc then (.iload_n 0, 1, [], [], 0, 0, 0, 29) else (bif Nat.beq 26 pc then (.if_icmp .eq 20, 3, [(0, 46)], [], 0, 0, 0, 26) else mm_nop)) else (.iconst 3, 1, [], [], 0, 3, 0, 25)))) else (bif Nat.ble 12 pc then
  (bif Nat.ble 17 pc then
  (bif Nat.ble 21 pc then
  (bif Nat.ble 24 pc then (.iload_n 0, 1, [], [], 0, 0, 0, 24) else (bif Nat.beq 21 pc then (.goto 30, 3, [(0, 51)], [], 0, 0, 0, 21) else mm_nop)) else (bif Nat.ble 20 pc then (.iconst 3, 1, [], [], 0, 3, 0, 20) else (bif Nat.beq 17 pc then (.if_icmp .ne 7, 3, [(0, 24)], [], 0, 0, 0, 17) else mm_nop))) else (bif Nat.ble 15 pc then
  (bif Nat.ble 16 pc then (.iconst 5, 1, [], [], 0, 5, 0, 16) else (.iload_n 0, 1, [], [], 0, 0, 0, 15)) else (bif Nat.beq 12 pc then (.goto 39, 3, [(0, 51)], [], 0, 0, 0, 12) else mm_nop))) else (bif Nat.ble 5 pc then
  (bif Nat.ble 8 pc then
  (bif Nat.ble 11 pc then (.iconst 0, 1, [], [], 0, 0, 0, 11) else (bif Nat.beq 8 pc then (.if_icmp .ne 7, 3, [(0, 15)], [], 0, 0, 0, 8) else mm_nop)) else (bif Nat.ble 6 pc then
  (bif Nat.beq 6 pc then (.bipush 9, 2, [], [], 0, 9, 0, 6) else mm_nop) else (.iload_n 0, 1, [], [], 0, 0, 0, 5))) else (bif Nat.ble 1 pc then
  (bif Nat.ble 2 pc then
  (bif Nat.beq 2 pc then (.if_icmp .lt 9, 3, [(0, 11)], [], 0, 0, 0, 2) else mm_nop) else (.iconst 3, 1, [], [], 0, 3, 0, 1)) else (.iload_n 0, 1, [], [], 0, 0, 0, 0)))))
def mm_k185 : List mm_E := (List.range 52).map mm_f185
def mm_m185 : mm_M := (yX12_partsOf, cX12_partsOf, 1, (some .int), mm_k185, 1, 0, 0, 7133)
/-- TypeCopierModel.partOf.(II)I -/
def mm_f186 : Nat → mm_E := fun pc => (bif Nat.ble 28 pc then
  (bif Nat.ble 42 pc then
  (bif Nat.ble 48 pc then
  (bif Nat.ble 52 pc then
  (bif Nat.ble 53 pc then (.ireturn, 1, [], [], 0, 0, 0, 53) else (.iaload, 1, [], [], 0, 0, 0, 52)) else (bif Nat.ble 51 pc then (.iload_n 1, 1, [], [], 1, 0, 0, 51) else (bif Nat.beq 48 pc then (.getfield 60, 3, [(10, 17)], [[6115]], 0, 0, 0, 48) else mm_nop))) else (bif Nat.ble 44 pc then
  (bif Nat.ble 47 pc then (.aload_n 0, 1, [], [], 0, 0, 0, 47) else (bif Nat.beq 44 pc then (.goto 9, 3, [(0, 53)], [], 0, 0, 0, 44) else mm_nop)) else (bif Nat.ble 43 pc then (.iaload, 1, [], [], 0, 0, 0, 43) else (.iload_n 1, 1, [], [], 1, 0, 0, 42)))) else (bif Nat.ble 34 pc then
  (bif Nat.ble 38 pc then
  (bif Nat.ble 39 pc then
  (bif Nat.beq 39 pc then (.getfield 57, 3, [(10, 16)], [[6114]], 0, 0, 0, 39) else mm_nop) else (.aload_n 0, 1, [], [], 0, 0, 0, 38)) else (bif Nat.ble 35 pc then
  (bif Nat.beq 35 pc then (.if_icmp .ne 12, 3, [(0, 47)], [], 0, 0, 0, 35) else mm_nop) else (.iconst 1, 1, [], [], 0, 1, 0, 34))) else (bif Nat.ble 30 pc then
  (bif Nat.ble 33 pc then (.iload_n 2, 1, [], [], 2, 0, 0, 33) else (bif Nat.beq 30 pc then (.goto 23, 3, [(0, 53)], [], 0, 0, 0, 30) else mm_nop)) else (bif Nat.ble 29 pc then (.iaload, 1, [], [], 0, 0, 0, 29) else (.iload_n 1, 1, [], [], 1, 0, 0, 28))))) else (bif Nat.ble 12 pc then
  (bif Nat.ble 20 pc then
  (bif Nat.ble 24 pc then
  (bif Nat.ble 25 pc then
  (bif Nat.beq 25 pc then (.getfield 54, 3, [(10, 15)], [[6113]], 0, 0, 0, 25) else mm_nop) else (.aload_n 0, 1, [], [], 0, 0, 0, 24)) else (bif Nat.ble 21 pc then
  (bif Nat.beq 21 pc then (.ifCond .ne 12, 3, [(0, 33)], [], 0, 0, 0, 21) else mm_nop) else (.iload_n 2, 1, [], [], 2, 0, 0, 20))) else (bif Nat.ble 16 pc then
  (bif Nat.ble 17 pc then
  (bif Nat.beq 17 pc then (.goto 36, 3, [(0, 53)], [], 0, 0, 0, 17) else mm_nop) else (.iaload, 1, [], [], 0, 0, 0, 16)) else (bif Nat.ble 15 pc then (.iload_n 1, 1, [], [], 1, 0, 0, 15) else (bif Nat.beq 12 pc then (.getfield 57, 3, [(10, 16)], [[6114]], 0, 0, 0, 12) else mm_nop)))) else (bif Nat.ble 5 pc then
  (bif Nat.ble 8 pc then
  (bif Nat.ble 11 pc then (.aload_n 0, 1, [], [], 0, 0, 0, 11) else (bif Nat.beq 8 pc then (.if_icmp .ne 12, 3, [(0, 20)], [], 0, 0, 0, 8) else mm_nop)) else (bif Nat.ble 6 pc then
  (bif Nat.beq 6 pc then (.bipush 14, 2, [], [], 0, 14, 0, 6) else mm_nop) else (.iaload, 1, [], [], 0, 0, 0, 5))) else (bif Nat.ble 1 pc then
  (bif Nat.ble 4 pc then (.iload_n 1, 1, [], [], 1, 0, 0, 4) else (bif Nat.beq 1 pc then (.getfield 51, 3, [(10, 14)], [[6112]], 0, 0, 0, 1) else mm_nop)) else (.aload_n 0, 1, [], [], 0, 0, 0, 0)))))
def mm_k186 : List mm_E := (List.range 54).map mm_f186
def mm_m186 : mm_M := (yX12_partOf, cX12_partOf, 3, (some .int), mm_k186, 2, 0, 0, 7161)
/-- TypeCopierModel.isTypeOrNone.(I)Z -/
def mm_f187 : Nat → mm_E := fun pc => (bif Nat.ble 7 pc then
  (bif Nat.ble 14 pc then
  (bif Nat.ble 17 pc then
  (bif Nat.ble 18 pc then (.ireturn, 1, [], [], 0, 0, 0, 18) else (.iconst 0, 1, [], [], 0, 0, 0, 17)) else (bif Nat.beq 14 pc then (.goto 4, 3, [(0, 18)], [], 0, 0, 0, 14) else mm_nop)) else (bif Nat.ble 10 pc then
  (bif Nat.ble 13 pc then (.iconst 1, 1, [], [], 0, 1, 0, 13) else (bif Nat.beq 10 pc then (.ifCond .eq 7, 3, [(0, 17)], [], 0, 0, 0, 10) else mm_nop)) else (bif Nat.beq 7 pc then (.invokevirtual 200, 3, [(10, 174)], [[7065, 7067, 1019, 2015]], 1, 0, 0, 7) else mm_nop))) else (bif Nat.ble 2 pc then
  (bif Nat.ble 5 pc then
  (bif Nat.ble 6 pc then (.iload_n 1, 1, [], [], 1, 0, 0, 6) else (.aload_n 0, 1, [], [], 0, 0, 0, 5)) else (bif Nat.beq 2 pc then (.if_icmp .eq 11, 3, [(0, 13)], [], 0, 0, 0, 2) else mm_nop)) else (bif Nat.ble 1 pc then (.iconst (-1), 1, [], [], 0, (-1), 0, 1) else (.iload_n 1, 1, [], [], 1, 0, 0, 0))))
def mm_k187 : List mm_E := (List.range 19).map mm_f187
def mm_m187 : mm_M := (yX12_isTypeOrNone, cX12_isTypeOrNone, 2, (some .boolean), mm_k187, 1, 0, 0, 7130)
/-- TypeCopierModel.mayBe.(IIIII)Z -/
def mm_f188 : Nat → mm_E := fun pc => (bif Nat.ble 130 pc then
  (bif Nat.ble 161 pc then
  (bif Nat.ble 176 pc then
  (bif Nat.ble 185 pc then
  (bif Nat.ble 189 pc then
  (bif Nat.ble 192 pc then
  (bif Nat.ble 193 pc then (.ireturn, 1, [], [], 0, 0, 0, 193) else (.iconst 0, 1, [], [], 0, 0, 0, 192)) else (bif Nat.beq 189 pc then (.goto 4, 3, [(0, 193)], [], 0, 0, 0, 189) else mm_nop)) else (bif Nat.ble 188 pc then (.iconst 1, 1, [], [], 0, 1, 0, 188) else (bif Nat.beq 185 pc then (.ifCond .eq 7, 3, [(0, 192)], [], 0, 0, 0, 185) else mm_nop))) else (bif Nat.ble 180 pc then
  (bif Nat.ble 182 pc then
  (bif Nat.beq 182 pc then (.invokevirtual 219, 3, [(10, 183)], [[7123, 7125, 1027, 2015]], 1, 0, 0, 182) else mm_nop) else (bif Nat.beq 180 pc then (.iload 4, 2, [], [], 4, 0, 0, 180) else mm_nop)) else (bif Nat.ble 179 pc then (.aload_n 0, 1, [], [], 0, 0, 0, 179) else (bif Nat.beq 176 pc then (.if_icmp .lt 12, 3, [(0, 188)], [], 0, 0, 0, 176) else mm_nop)))) else (bif Nat.ble 167 pc then
  (bif Nat.ble 173 pc then
  (bif Nat.ble 175 pc then (.iconst 3, 1, [], [], 0, 3, 0, 175) else (bif Nat.beq 173 pc then (.iload 6, 2, [], [], 6, 0, 0, 173) else mm_nop)) else (bif Nat.ble 170 pc then
  (bif Nat.beq 170 pc then (.ifCond .eq 22, 3, [(0, 192)], [], 0, 0, 0, 170) else mm_nop) else (bif Nat.beq 167 pc then (.invokevirtual 219, 3, [(10, 183)], [[7123, 7125, 1027, 2015]], 1, 0, 0, 167) else mm_nop))) else (bif Nat.ble 165 pc then
  (bif Nat.ble 166 pc then (.iload_n 3, 1, [], [], 3, 0, 0, 166) else (.aload_n 0, 1, [], [], 0, 0, 0, 165)) else (bif Nat.ble 162 pc then
  (bif Nat.beq 162 pc then (.if_icmp .lt 11, 3, [(0, 173)], [], 0, 0, 0, 162) else mm_nop) else (.iconst 2, 1, [], [], 0, 2, 0, 161))))) else (bif Nat.ble 145 pc then
  (bif Nat.ble 152 pc then
  (bif Nat.ble 156 pc then
  (bif Nat.ble 159 pc then
  (bif Nat.beq 159 pc then (.iload 6, 2, [], [], 6, 0, 0, 159) else mm_nop) else (bif Nat.beq 156 pc then (.ifCond .eq 36, 3, [(0, 192)], [], 0, 0, 0, 156) else mm_nop)) else (bif Nat.ble 153 pc then
  (bif Nat.beq 153 pc then (.invokevirtual 219, 3, [(10, 183)], [[7123, 7125, 1027, 2015]], 1, 0, 0, 153) else mm_nop) else (.iload_n 2, 1, [], [], 2, 0, 0, 152))) else (bif Nat.ble 149 pc then
  (bif Nat.ble 151 pc then (.aload_n 0, 1, [], [], 0, 0, 0, 151) else (bif Nat.beq 149 pc then (.istore 6, 2, [], [], 6, 0, 0, 149) else mm_nop)) else (bif Nat.ble 146 pc then
  (bif Nat.beq 146 pc then (.invokestatic 225, 3, [(0, 185)], [[7131, 7132, 2015]], 1, 0, 0, 146) else mm_nop) else (.iload_n 1, 1, [], [], 1, 0, 0, 145)))) else (bif Nat.ble 139 pc then
  (bif Nat.ble 143 pc then
  (bif Nat.ble 144 pc then (.ireturn, 1, [], [], 0, 0, 0, 144) else (.iconst 0, 1, [], [], 0, 0, 0, 143)) else (bif Nat.ble 140 pc then
  (bif Nat.beq 140 pc then (.goto 4, 3, [(0, 144)], [], 0, 0, 0, 140) else mm_nop) else (.iconst 1, 1, [], [], 0, 1, 0, 139))) else (bif Nat.ble 135 pc then
  (bif Nat.ble 136 pc then
  (bif Nat.beq 136 pc then (.if_icmp .ne 7, 3, [(0, 143)], [], 0, 0, 0, 136) else mm_nop) else (.iconst (-1), 1, [], [], 0, (-1), 0, 135)) else (bif Nat.ble 133 pc then
  (bif Nat.beq 133 pc then (.iload 5, 2, [], [], 5, 0, 0, 133) else mm_nop) else (bif Nat.beq 130 pc then (.if_icmp .ne 9, 3, [(0, 139)], [], 0, 0, 0, 130) else mm_nop)))))) else (bif Nat.ble 95 pc then
  (bif Nat.ble 112 pc then
  (bif Nat.ble 121 pc then
  (bif Nat.ble 127 pc then
  (bif Nat.ble 129 pc then (.iconst (-1), 1, [], [], 0, (-1), 0, 129) else (bif Nat.beq 127 pc then (.iload 4, 2, [], [], 4, 0, 0, 127) else mm_nop)) else (bif Nat.ble 124 pc then
  (bif Nat.beq 124 pc then (.ifCond .eq 19, 3, [(0, 143)], [], 0, 0, 0, 124) else mm_nop) else (bif Nat.beq 121 pc then (.invokevirtual 222, 3, [(10, 187)], [[7127, 7129, 1028, 2015]], 1, 0, 0, 121) else mm_nop))) else (bif Nat.ble 118 pc then
  (bif Nat.ble 119 pc then
  (bif Nat.beq 119 pc then (.iload 5, 2, [], [], 5, 0, 0, 119) else mm_nop) else (.aload_n 0, 1, [], [], 0, 0, 0, 118)) else (bif Nat.ble 115 pc then
  (bif Nat.beq 115 pc then (.ifCond .eq 28, 3, [(0, 143)], [], 0, 0, 0, 115) else mm_nop) else (bif Nat.beq 112 pc then (.invokevirtual 222, 3, [(10, 187)], [[7127, 7129, 1028, 2015]], 1, 0, 0, 112) else mm_nop)))) else (bif Nat.ble 103 pc then
  (bif Nat.ble 109 pc then
  (bif Nat.ble 110 pc then
  (bif Nat.beq 110 pc then (.iload 4, 2, [], [], 4, 0, 0, 110) else mm_nop) else (.aload_n 0, 1, [], [], 0, 0, 0, 109)) else (bif Nat.ble 106 pc then
  (bif Nat.beq 106 pc then (.ifCond .eq 37, 3, [(0, 143)], [], 0, 0, 0, 106) else mm_nop) else (bif Nat.beq 103 pc then (.invokevirtual 219, 3, [(10, 183)], [[7123, 7125, 1027, 2015]], 1, 0, 0, 103) else mm_nop))) else (bif Nat.ble 101 pc then
  (bif Nat.ble 102 pc then (.iload_n 3, 1, [], [], 3, 0, 0, 102) else (.aload_n 0, 1, [], [], 0, 0, 0, 101)) else (bif Nat.ble 98 pc then
  (bif Nat.beq 98 pc then (.ifCond .eq 45, 3, [(0, 143)], [], 0, 0, 0, 98) else mm_nop) else (bif Nat.beq 95 pc then (.invokestatic 193, 3, [(0, 164)], [[7069, 7070, 2015]], 3, 0, 0, 95) else mm_nop))))) else (bif Nat.ble 84 pc then
  (bif Nat.ble 90 pc then
  (bif Nat.ble 92 pc then
  (bif Nat.ble 93 pc then
  (bif Nat.beq 93 pc then (.bipush 11, 2, [], [], 0, 11, 0, 93) else mm_nop) else (.iconst 0, 1, [], [], 0, 0, 0, 92)) else (bif Nat.ble 91 pc then (.iload_n 2, 1, [], [], 2, 0, 0, 91) else (.ireturn, 1, [], [], 0, 0, 0, 90))) else (bif Nat.ble 86 pc then
  (bif Nat.ble 87 pc then
  (bif Nat.beq 87 pc then (.invokevirtual 200, 3, [(10, 174)], [[7065, 7067, 1019, 2015]], 1, 0, 0, 87) else mm_nop) else (.iload_n 2, 1, [], [], 2, 0, 0, 86)) else (bif Nat.ble 85 pc then (.aload_n 0, 1, [], [], 0, 0, 0, 85) else (.ireturn, 1, [], [], 0, 0, 0, 84)))) else (bif Nat.ble 78 pc then
  (bif Nat.ble 80 pc then
  (bif Nat.ble 81 pc then
  (bif Nat.beq 81 pc then (.invokestatic 193, 3, [(0, 164)], [[7069, 7070, 2015]], 3, 0, 0, 81) else mm_nop) else (.iconst 1, 1, [], [], 0, 1, 0, 80)) else (bif Nat.ble 79 pc then (.iconst 0, 1, [], [], 0, 0, 0, 79) else (.iload_n 2, 1, [], [], 2, 0, 0, 78))) else (bif Nat.ble 76 pc then
  (bif Nat.ble 77 pc then (.ireturn, 1, [], [], 0, 0, 0, 77) else (.iconst 1, 1, [], [], 0, 1, 0, 76)) else (bif Nat.ble 1 pc then
  (bif Nat.beq 1 pc then (.tableswitch 144 0 14 #[75, 77, 75, 144, 144, 144, 144, 144, 144, 84, 144, 144, 144, 144, 90], 75, [(0, 145), (0, 76), (1, 78), (2, 76), (3, 145), (4, 145), (5, 145), (6, 145), (7, 145), (8, 145), (9, 85), (10, 145), (11, 145), (12, 145), (13, 145), (14, 91)], [], 0, 0, 0, 1) else mm_nop) else (.iload_n 1, 1, [], [], 1, 0, 0, 0)))))))
def mm_k188 : List mm_E := (List.range 194).map mm_f188
def mm_m188 : mm_M := (yX12_mayBe, cX12_mayBe, 7, (some .boolean), mm_k188, 5, 0, 0, 7122)
/-- TypeCopierModel.node.(IIIII)I -/
def mm_f189 : Nat → mm_E := fun pc => (bif Nat.ble 138 pc then
  (bif Nat.ble 208 pc then
  (bif Nat.ble 248 pc then
  (bif Nat.ble 262 pc then
  (bif Nat.ble 271 pc then
  (bif Nat.ble 275 pc then
  (bif Nat.ble 276 pc then
  (bif Nat.ble 277 pc then (.ireturn, 1, [], [], 0, 0, 0, 277) else (.isub, 1, [], [], 0, 0, 0, 276)) else (.iconst 1, 1, [], [], 0, 1, 0, 275)) else (bif Nat.ble 272 pc then
  (bif Nat.beq 272 pc then (.getfield 213, 3, [(10, 13)], [[6111]], 0, 0, 0, 272) else mm_nop) else (.aload_n 0, 1, [], [], 0, 0, 0, 271))) else (bif Nat.ble 266 pc then
  (bif Nat.ble 267 pc then
  (bif Nat.ble 268 pc then
  (bif Nat.beq 268 pc then (.putfield 213, 3, [(10, 13)], [[6111]], 0, 0, 0, 268) else mm_nop) else (.iadd, 1, [], [], 0, 0, 0, 267)) else (.iconst 1, 1, [], [], 0, 1, 0, 266)) else (bif Nat.ble 263 pc then
  (bif Nat.beq 263 pc then (.getfield 213, 3, [(10, 13)], [[6111]], 0, 0, 0, 263) else mm_nop) else (.dup, 1, [], [], 0, 0, 0, 262)))) else (bif Nat.ble 254 pc then
  (bif Nat.ble 258 pc then
  (bif Nat.ble 260 pc then
  (bif Nat.ble 261 pc then (.aload_n 0, 1, [], [], 0, 0, 0, 261) else (.iastore, 1, [], [], 0, 0, 0, 260)) else (bif Nat.beq 258 pc then (.iload 8, 2, [], [], 8, 0, 0, 258) else mm_nop)) else (bif Nat.ble 255 pc then
  (bif Nat.beq 255 pc then (.getfield 213, 3, [(10, 13)], [[6111]], 0, 0, 0, 255) else mm_nop) else (.aload_n 0, 1, [], [], 0, 0, 0, 254))) else (bif Nat.ble 250 pc then
  (bif Nat.ble 251 pc then
  (bif Nat.beq 251 pc then (.getfield 66, 3, [(10, 19)], [[6117]], 0, 0, 0, 251) else mm_nop) else (.aload_n 0, 1, [], [], 0, 0, 0, 250)) else (bif Nat.ble 249 pc then (.iastore, 1, [], [], 0, 0, 0, 249) else (.iconst 0, 1, [], [], 0, 0, 0, 248))))) else (bif Nat.ble 228 pc then
  (bif Nat.ble 235 pc then
  (bif Nat.ble 240 pc then
  (bif Nat.ble 243 pc then
  (bif Nat.ble 245 pc then
  (bif Nat.beq 245 pc then (.goto 4, 3, [(0, 249)], [], 0, 0, 0, 245) else mm_nop) else (bif Nat.beq 243 pc then (.iload 5, 2, [], [], 5, 0, 0, 243) else mm_nop)) else (bif Nat.beq 240 pc then (.ifCond .eq 8, 3, [(0, 248)], [], 0, 0, 0, 240) else mm_nop)) else (bif Nat.ble 238 pc then
  (bif Nat.beq 238 pc then (.iload 6, 2, [], [], 6, 0, 0, 238) else mm_nop) else (bif Nat.beq 235 pc then (.getfield 213, 3, [(10, 13)], [[6111]], 0, 0, 0, 235) else mm_nop))) else (bif Nat.ble 230 pc then
  (bif Nat.ble 231 pc then
  (bif Nat.ble 234 pc then (.aload_n 0, 1, [], [], 0, 0, 0, 234) else (bif Nat.beq 231 pc then (.getfield 63, 3, [(10, 18)], [[6116]], 0, 0, 0, 231) else mm_nop)) else (.aload_n 0, 1, [], [], 0, 0, 0, 230)) else (bif Nat.ble 229 pc then (.iastore, 1, [], [], 0, 0, 0, 229) else (.iconst 0, 1, [], [], 0, 0, 0, 228)))) else (bif Nat.ble 215 pc then
  (bif Nat.ble 220 pc then
  (bif Nat.ble 223 pc then
  (bif Nat.ble 225 pc then
  (bif Nat.beq 225 pc then (.goto 4, 3, [(0, 229)], [], 0, 0, 0, 225) else mm_nop) else (bif Nat.beq 223 pc then (.iload 4, 2, [], [], 4, 0, 0, 223) else mm_nop)) else (bif Nat.beq 220 pc then (.ifCond .eq 8, 3, [(0, 228)], [], 0, 0, 0, 220) else mm_nop)) else (bif Nat.ble 218 pc then
  (bif Nat.beq 218 pc then (.iload 6, 2, [], [], 6, 0, 0, 218) else mm_nop) else (bif Nat.beq 215 pc then (.if_icmp .gt 8, 3, [(0, 223)], [], 0, 0, 0, 215) else mm_nop))) else (bif Nat.ble 212 pc then
  (bif Nat.ble 214 pc then (.iconst 2, 1, [], [], 0, 2, 0, 214) else (bif Nat.beq 212 pc then (.iload 7, 2, [], [], 7, 0, 0, 212) else mm_nop)) else (bif Nat.ble 209 pc then
  (bif Nat.beq 209 pc then (.getfield 213, 3, [(10, 13)], [[6111]], 0, 0, 0, 209) else mm_nop) else (.aload_n 0, 1, [], [], 0, 0, 0, 208)))))) else (bif Nat.ble 173 pc then
  (bif Nat.ble 189 pc then
  (bif Nat.ble 199 pc then
  (bif Nat.ble 203 pc then
  (bif Nat.ble 204 pc then
  (bif Nat.ble 205 pc then
  (bif Nat.beq 205 pc then (.getfield 60, 3, [(10, 17)], [[6115]], 0, 0, 0, 205) else mm_nop) else (.aload_n 0, 1, [], [], 0, 0, 0, 204)) else (.iastore, 1, [], [], 0, 0, 0, 203)) else (bif Nat.ble 202 pc then (.iconst 0, 1, [], [], 0, 0, 0, 202) else (bif Nat.beq 199 pc then (.goto 4, 3, [(0, 203)], [], 0, 0, 0, 199) else mm_nop))) else (bif Nat.ble 193 pc then
  (bif Nat.ble 195 pc then
  (bif Nat.ble 198 pc then (.iload_n 3, 1, [], [], 3, 0, 0, 198) else (bif Nat.beq 195 pc then (.ifCond .eq 7, 3, [(0, 202)], [], 0, 0, 0, 195) else mm_nop)) else (bif Nat.beq 193 pc then (.iload 6, 2, [], [], 6, 0, 0, 193) else mm_nop)) else (bif Nat.ble 190 pc then
  (bif Nat.beq 190 pc then (.if_icmp .gt 8, 3, [(0, 198)], [], 0, 0, 0, 190) else mm_nop) else (.iconst 1, 1, [], [], 0, 1, 0, 189)))) else (bif Nat.ble 179 pc then
  (bif Nat.ble 183 pc then
  (bif Nat.ble 184 pc then
  (bif Nat.ble 187 pc then
  (bif Nat.beq 187 pc then (.iload 7, 2, [], [], 7, 0, 0, 187) else mm_nop) else (bif Nat.beq 184 pc then (.getfield 213, 3, [(10, 13)], [[6111]], 0, 0, 0, 184) else mm_nop)) else (.aload_n 0, 1, [], [], 0, 0, 0, 183)) else (bif Nat.ble 180 pc then
  (bif Nat.beq 180 pc then (.getfield 57, 3, [(10, 16)], [[6114]], 0, 0, 0, 180) else mm_nop) else (.aload_n 0, 1, [], [], 0, 0, 0, 179))) else (bif Nat.ble 177 pc then
  (bif Nat.ble 178 pc then (.iastore, 1, [], [], 0, 0, 0, 178) else (.iload_n 2, 1, [], [], 2, 0, 0, 177)) else (bif Nat.ble 174 pc then
  (bif Nat.beq 174 pc then (.goto 4, 3, [(0, 178)], [], 0, 0, 0, 174) else mm_nop) else (.iconst 0, 1, [], [], 0, 0, 0, 173))))) else (bif Nat.ble 158 pc then
  (bif Nat.ble 164 pc then
  (bif Nat.ble 168 pc then
  (bif Nat.ble 169 pc then
  (bif Nat.ble 170 pc then
  (bif Nat.beq 170 pc then (.if_icmp .ne 7, 3, [(0, 177)], [], 0, 0, 0, 170) else mm_nop) else (.iconst 2, 1, [], [], 0, 2, 0, 169)) else (.iload_n 1, 1, [], [], 1, 0, 0, 168)) else (bif Nat.ble 165 pc then
  (bif Nat.beq 165 pc then (.getfield 213, 3, [(10, 13)], [[6111]], 0, 0, 0, 165) else mm_nop) else (.aload_n 0, 1, [], [], 0, 0, 0, 164))) else (bif Nat.ble 160 pc then
  (bif Nat.ble 161 pc then
  (bif Nat.beq 161 pc then (.getfield 54, 3, [(10, 15)], [[6113]], 0, 0, 0, 161) else mm_nop) else (.aload_n 0, 1, [], [], 0, 0, 0, 160)) else (bif Nat.ble 159 pc then (.iastore, 1, [], [], 0, 0, 0, 159) else (.iload_n 1, 1, [], [], 1, 0, 0, 158)))) else (bif Nat.ble 149 pc then
  (bif Nat.ble 151 pc then
  (bif Nat.ble 154 pc then
  (bif Nat.ble 155 pc then
  (bif Nat.beq 155 pc then (.getfield 213, 3, [(10, 13)], [[6111]], 0, 0, 0, 155) else mm_nop) else (.aload_n 0, 1, [], [], 0, 0, 0, 154)) else (bif Nat.beq 151 pc then (.getfield 51, 3, [(10, 14)], [[6112]], 0, 0, 0, 151) else mm_nop)) else (bif Nat.ble 150 pc then (.aload_n 0, 1, [], [], 0, 0, 0, 150) else (.ireturn, 1, [], [], 0, 0, 0, 149))) else (bif Nat.ble 144 pc then
  (bif Nat.ble 147 pc then
  (bif Nat.beq 147 pc then (.bipush (-4), 2, [], [], 0, (-4), 0, 147) else mm_nop) else (bif Nat.beq 144 pc then (.if_icmp .ne 6, 3, [(0, 150)], [], 0, 0, 0, 144) else mm_nop)) else (bif Nat.ble 141 pc then
  (bif Nat.beq 141 pc then (.sipush 200, 3, [], [], 0, 200, 0, 141) else mm_nop) else (bif Nat.beq 138 pc then (.getfield 213, 3, [(10, 13)], [[6111]], 0, 0, 0, 138) else mm_nop))))))) else (bif Nat.ble 70 pc then
  (bif Nat.ble 102 pc then
  (bif Nat.ble 117 pc then
  (bif Nat.ble 129 pc then
  (bif Nat.ble 134 pc then
  (bif Nat.ble 136 pc then
  (bif Nat.ble 137 pc then (.aload_n 0, 1, [], [], 0, 0, 0, 137) else (.ireturn, 1, [], [], 0, 0, 0, 136)) else (bif Nat.beq 134 pc then (.bipush (-3), 2, [], [], 0, (-3), 0, 134) else mm_nop)) else (bif Nat.ble 131 pc then
  (bif Nat.beq 131 pc then (.if_icmp .le 6, 3, [(0, 137)], [], 0, 0, 0, 131) else mm_nop) else (bif Nat.beq 129 pc then (.bipush 12, 2, [], [], 0, 12, 0, 129) else mm_nop))) else (bif Nat.ble 123 pc then
  (bif Nat.ble 125 pc then
  (bif Nat.ble 127 pc then
  (bif Nat.beq 127 pc then (.iload 8, 2, [], [], 8, 0, 0, 127) else mm_nop) else (bif Nat.beq 125 pc then (.istore 8, 2, [], [], 8, 0, 0, 125) else mm_nop)) else (bif Nat.beq 123 pc then (.iload 8, 2, [], [], 8, 0, 0, 123) else mm_nop)) else (bif Nat.ble 120 pc then
  (bif Nat.beq 120 pc then (.goto 5, 3, [(0, 125)], [], 0, 0, 0, 120) else mm_nop) else (bif Nat.beq 117 pc then (.invokestatic 178, 3, [(0, 170)], [[7093, 7094, 2015]], 2, 0, 0, 117) else mm_nop)))) else (bif Nat.ble 109 pc then
  (bif Nat.ble 113 pc then
  (bif Nat.ble 115 pc then
  (bif Nat.ble 116 pc then (.iadd, 1, [], [], 0, 0, 0, 116) else (.iaload, 1, [], [], 0, 0, 0, 115)) else (bif Nat.beq 113 pc then (.iload 4, 2, [], [], 4, 0, 0, 113) else mm_nop)) else (bif Nat.ble 110 pc then
  (bif Nat.beq 110 pc then (.getfield 66, 3, [(10, 19)], [[6117]], 0, 0, 0, 110) else mm_nop) else (.aload_n 0, 1, [], [], 0, 0, 0, 109))) else (bif Nat.ble 106 pc then
  (bif Nat.ble 108 pc then (.iconst 1, 1, [], [], 0, 1, 0, 108) else (bif Nat.beq 106 pc then (.iload 8, 2, [], [], 8, 0, 0, 106) else mm_nop)) else (bif Nat.ble 103 pc then
  (bif Nat.beq 103 pc then (.if_icmp .le 20, 3, [(0, 123)], [], 0, 0, 0, 103) else mm_nop) else (.iconst 2, 1, [], [], 0, 2, 0, 102))))) else (bif Nat.ble 84 pc then
  (bif Nat.ble 90 pc then
  (bif Nat.ble 96 pc then
  (bif Nat.ble 98 pc then
  (bif Nat.ble 100 pc then
  (bif Nat.beq 100 pc then (.iload 7, 2, [], [], 7, 0, 0, 100) else mm_nop) else (bif Nat.beq 98 pc then (.istore 8, 2, [], [], 8, 0, 0, 98) else mm_nop)) else (bif Nat.beq 96 pc then (.iload 8, 2, [], [], 8, 0, 0, 96) else mm_nop)) else (bif Nat.ble 93 pc then
  (bif Nat.beq 93 pc then (.goto 5, 3, [(0, 98)], [], 0, 0, 0, 93) else mm_nop) else (bif Nat.beq 90 pc then (.invokestatic 178, 3, [(0, 170)], [[7093, 7094, 2015]], 2, 0, 0, 90) else mm_nop))) else (bif Nat.ble 88 pc then
  (bif Nat.ble 89 pc then (.iadd, 1, [], [], 0, 0, 0, 89) else (.iaload, 1, [], [], 0, 0, 0, 88)) else (bif Nat.ble 87 pc then (.iload_n 3, 1, [], [], 3, 0, 0, 87) else (bif Nat.beq 84 pc then (.getfield 66, 3, [(10, 19)], [[6117]], 0, 0, 0, 84) else mm_nop)))) else (bif Nat.ble 76 pc then
  (bif Nat.ble 80 pc then
  (bif Nat.ble 82 pc then
  (bif Nat.ble 83 pc then (.aload_n 0, 1, [], [], 0, 0, 0, 83) else (.iconst 1, 1, [], [], 0, 1, 0, 82)) else (bif Nat.beq 80 pc then (.iload 8, 2, [], [], 8, 0, 0, 80) else mm_nop)) else (bif Nat.ble 77 pc then
  (bif Nat.beq 77 pc then (.if_icmp .le 19, 3, [(0, 96)], [], 0, 0, 0, 77) else mm_nop) else (.iconst 1, 1, [], [], 0, 1, 0, 76))) else (bif Nat.ble 72 pc then
  (bif Nat.ble 74 pc then
  (bif Nat.beq 74 pc then (.iload 7, 2, [], [], 7, 0, 0, 74) else mm_nop) else (bif Nat.beq 72 pc then (.istore 8, 2, [], [], 8, 0, 0, 72) else mm_nop)) else (bif Nat.ble 71 pc then (.iadd, 1, [], [], 0, 0, 0, 71) else (.iaload, 1, [], [], 0, 0, 0, 70)))))) else (bif Nat.ble 33 pc then
  (bif Nat.ble 51 pc then
  (bif Nat.ble 60 pc then
  (bif Nat.ble 65 pc then
  (bif Nat.ble 66 pc then
  (bif Nat.ble 69 pc then (.iload_n 2, 1, [], [], 2, 0, 0, 69) else (bif Nat.beq 66 pc then (.goto 4, 3, [(0, 70)], [], 0, 0, 0, 66) else mm_nop)) else (.iload_n 3, 1, [], [], 3, 0, 0, 65)) else (bif Nat.ble 62 pc then
  (bif Nat.beq 62 pc then (.ifCond .eq 7, 3, [(0, 69)], [], 0, 0, 0, 62) else mm_nop) else (bif Nat.beq 60 pc then (.iload 6, 2, [], [], 6, 0, 0, 60) else mm_nop))) else (bif Nat.ble 55 pc then
  (bif Nat.ble 56 pc then
  (bif Nat.ble 57 pc then
  (bif Nat.beq 57 pc then (.getfield 66, 3, [(10, 19)], [[6117]], 0, 0, 0, 57) else mm_nop) else (.aload_n 0, 1, [], [], 0, 0, 0, 56)) else (.iconst 1, 1, [], [], 0, 1, 0, 55)) else (bif Nat.ble 52 pc then
  (bif Nat.beq 52 pc then (.goto 20, 3, [(0, 72)], [], 0, 0, 0, 52) else mm_nop) else (.iconst 1, 1, [], [], 0, 1, 0, 51)))) else (bif Nat.ble 40 pc then
  (bif Nat.ble 44 pc then
  (bif Nat.ble 46 pc then
  (bif Nat.ble 48 pc then
  (bif Nat.beq 48 pc then (.ifCond .ne 7, 3, [(0, 55)], [], 0, 0, 0, 48) else mm_nop) else (bif Nat.beq 46 pc then (.iload 7, 2, [], [], 7, 0, 0, 46) else mm_nop)) else (bif Nat.beq 44 pc then (.istore 7, 2, [], [], 7, 0, 0, 44) else mm_nop)) else (bif Nat.ble 41 pc then
  (bif Nat.beq 41 pc then (.invokestatic 225, 3, [(0, 185)], [[7131, 7132, 2015]], 1, 0, 0, 41) else mm_nop) else (.iload_n 1, 1, [], [], 1, 0, 0, 40))) else (bif Nat.ble 37 pc then
  (bif Nat.ble 38 pc then
  (bif Nat.beq 38 pc then (.istore 6, 2, [], [], 6, 0, 0, 38) else mm_nop) else (.iconst 0, 1, [], [], 0, 0, 0, 37)) else (bif Nat.ble 34 pc then
  (bif Nat.beq 34 pc then (.goto 4, 3, [(0, 38)], [], 0, 0, 0, 34) else mm_nop) else (.iconst 1, 1, [], [], 0, 1, 0, 33))))) else (bif Nat.ble 14 pc then
  (bif Nat.ble 24 pc then
  (bif Nat.ble 27 pc then
  (bif Nat.ble 28 pc then
  (bif Nat.ble 30 pc then
  (bif Nat.beq 30 pc then (.if_icmp .ne 7, 3, [(0, 37)], [], 0, 0, 0, 30) else mm_nop) else (bif Nat.beq 28 pc then (.bipush 14, 2, [], [], 0, 14, 0, 28) else mm_nop)) else (.iload_n 1, 1, [], [], 1, 0, 0, 27)) else (bif Nat.ble 26 pc then (.ireturn, 1, [], [], 0, 0, 0, 26) else (bif Nat.beq 24 pc then (.bipush (-2), 2, [], [], 0, (-2), 0, 24) else mm_nop))) else (bif Nat.ble 18 pc then
  (bif Nat.ble 21 pc then
  (bif Nat.beq 21 pc then (.ifCond .ne 6, 3, [(0, 27)], [], 0, 0, 0, 21) else mm_nop) else (bif Nat.beq 18 pc then (.invokevirtual 228, 3, [(10, 188)], [[7119, 7121, 1026, 2015]], 5, 0, 0, 18) else mm_nop)) else (bif Nat.ble 16 pc then
  (bif Nat.beq 16 pc then (.iload 5, 2, [], [], 5, 0, 0, 16) else mm_nop) else (bif Nat.beq 14 pc then (.iload 4, 2, [], [], 4, 0, 0, 14) else mm_nop)))) else (bif Nat.ble 7 pc then
  (bif Nat.ble 11 pc then
  (bif Nat.ble 12 pc then
  (bif Nat.ble 13 pc then (.iload_n 3, 1, [], [], 3, 0, 0, 13) else (.iload_n 2, 1, [], [], 2, 0, 0, 12)) else (.iload_n 1, 1, [], [], 1, 0, 0, 11)) else (bif Nat.ble 10 pc then (.aload_n 0, 1, [], [], 0, 0, 0, 10) else (bif Nat.beq 7 pc then (.ifCond .eq 17, 3, [(0, 24)], [], 0, 0, 0, 7) else mm_nop))) else (bif Nat.ble 2 pc then
  (bif Nat.ble 4 pc then
  (bif Nat.beq 4 pc then (.invokestatic 193, 3, [(0, 164)], [[7069, 7070, 2015]], 3, 0, 0, 4) else mm_nop) else (bif Nat.beq 2 pc then (.bipush 14, 2, [], [], 0, 14, 0, 2) else mm_nop)) else (bif Nat.ble 1 pc then (.iconst 0, 1, [], [], 0, 0, 0, 1) else (.iload_n 1, 1, [], [], 1, 0, 0, 0))))))))
def mm_k189 : List mm_E := (List.range 278).map mm_f189
def mm_m189 : mm_M := (yX12_node, cX12_node, 9, (some .int), mm_k189, 5, 0, 0, 7118)
/-- TypeCopierModel.function.(III)I -/
def mm_f190 : Nat → mm_E := fun pc => (bif Nat.ble 62 pc then
  (bif Nat.ble 88 pc then
  (bif Nat.ble 100 pc then
  (bif Nat.ble 108 pc then
  (bif Nat.ble 112 pc then
  (bif Nat.ble 113 pc then
  (bif Nat.ble 114 pc then (.ireturn, 1, [], [], 0, 0, 0, 114) else (.isub, 1, [], [], 0, 0, 0, 113)) else (.iconst 1, 1, [], [], 0, 1, 0, 112)) else (bif Nat.ble 109 pc then
  (bif Nat.beq 109 pc then (.getfield 216, 3, [(10, 20)], [[6118]], 0, 0, 0, 109) else mm_nop) else (.aload_n 0, 1, [], [], 0, 0, 0, 108))) else (bif Nat.ble 104 pc then
  (bif Nat.ble 105 pc then
  (bif Nat.beq 105 pc then (.putfield 216, 3, [(10, 20)], [[6118]], 0, 0, 0, 105) else mm_nop) else (.iadd, 1, [], [], 0, 0, 0, 104)) else (bif Nat.ble 103 pc then (.iconst 1, 1, [], [], 0, 1, 0, 103) else (bif Nat.beq 100 pc then (.getfield 216, 3, [(10, 20)], [[6118]], 0, 0, 0, 100) else mm_nop)))) else (bif Nat.ble 96 pc then
  (bif Nat.ble 98 pc then
  (bif Nat.ble 99 pc then (.dup, 1, [], [], 0, 0, 0, 99) else (.aload_n 0, 1, [], [], 0, 0, 0, 98)) else (bif Nat.ble 97 pc then (.iastore, 1, [], [], 0, 0, 0, 97) else (.iconst (-1), 1, [], [], 0, (-1), 0, 96))) else (bif Nat.ble 92 pc then
  (bif Nat.ble 93 pc then
  (bif Nat.beq 93 pc then (.getfield 216, 3, [(10, 20)], [[6118]], 0, 0, 0, 93) else mm_nop) else (.aload_n 0, 1, [], [], 0, 0, 0, 92)) else (bif Nat.ble 89 pc then
  (bif Nat.beq 89 pc then (.getfield 78, 3, [(10, 24)], [[6122]], 0, 0, 0, 89) else mm_nop) else (.aload_n 0, 1, [], [], 0, 0, 0, 88))))) else (bif Nat.ble 76 pc then
  (bif Nat.ble 82 pc then
  (bif Nat.ble 86 pc then
  (bif Nat.ble 87 pc then (.iastore, 1, [], [], 0, 0, 0, 87) else (.iload_n 3, 1, [], [], 3, 0, 0, 86)) else (bif Nat.ble 83 pc then
  (bif Nat.beq 83 pc then (.getfield 216, 3, [(10, 20)], [[6118]], 0, 0, 0, 83) else mm_nop) else (.aload_n 0, 1, [], [], 0, 0, 0, 82))) else (bif Nat.ble 78 pc then
  (bif Nat.ble 79 pc then
  (bif Nat.beq 79 pc then (.getfield 75, 3, [(10, 23)], [[6121]], 0, 0, 0, 79) else mm_nop) else (.aload_n 0, 1, [], [], 0, 0, 0, 78)) else (bif Nat.ble 77 pc then (.iastore, 1, [], [], 0, 0, 0, 77) else (.iload_n 2, 1, [], [], 2, 0, 0, 76)))) else (bif Nat.ble 68 pc then
  (bif Nat.ble 72 pc then
  (bif Nat.ble 73 pc then
  (bif Nat.beq 73 pc then (.getfield 216, 3, [(10, 20)], [[6118]], 0, 0, 0, 73) else mm_nop) else (.aload_n 0, 1, [], [], 0, 0, 0, 72)) else (bif Nat.ble 69 pc then
  (bif Nat.beq 69 pc then (.getfield 72, 3, [(10, 22)], [[6120]], 0, 0, 0, 69) else mm_nop) else (.aload_n 0, 1, [], [], 0, 0, 0, 68))) else (bif Nat.ble 66 pc then
  (bif Nat.ble 67 pc then (.iastore, 1, [], [], 0, 0, 0, 67) else (.iload_n 1, 1, [], [], 1, 0, 0, 66)) else (bif Nat.ble 63 pc then
  (bif Nat.beq 63 pc then (.getfield 216, 3, [(10, 20)], [[6118]], 0, 0, 0, 63) else mm_nop) else (.aload_n 0, 1, [], [], 0, 0, 0, 62)))))) else (bif Nat.ble 28 pc then
  (bif Nat.ble 45 pc then
  (bif Nat.ble 52 pc then
  (bif Nat.ble 57 pc then
  (bif Nat.ble 58 pc then
  (bif Nat.ble 59 pc then
  (bif Nat.beq 59 pc then (.getfield 69, 3, [(10, 21)], [[6119]], 0, 0, 0, 59) else mm_nop) else (.aload_n 0, 1, [], [], 0, 0, 0, 58)) else (.ireturn, 1, [], [], 0, 0, 0, 57)) else (bif Nat.ble 55 pc then
  (bif Nat.beq 55 pc then (.bipush (-4), 2, [], [], 0, (-4), 0, 55) else mm_nop) else (bif Nat.beq 52 pc then (.if_icmp .ne 6, 3, [(0, 58)], [], 0, 0, 0, 52) else mm_nop))) else (bif Nat.ble 47 pc then
  (bif Nat.ble 50 pc then
  (bif Nat.beq 50 pc then (.bipush 12, 2, [], [], 0, 12, 0, 50) else mm_nop) else (bif Nat.beq 47 pc then (.getfield 216, 3, [(10, 20)], [[6118]], 0, 0, 0, 47) else mm_nop)) else (bif Nat.ble 46 pc then (.aload_n 0, 1, [], [], 0, 0, 0, 46) else (.ireturn, 1, [], [], 0, 0, 0, 45)))) else (bif Nat.ble 36 pc then
  (bif Nat.ble 40 pc then
  (bif Nat.ble 43 pc then
  (bif Nat.beq 43 pc then (.bipush (-2), 2, [], [], 0, (-2), 0, 43) else mm_nop) else (bif Nat.beq 40 pc then (.ifCond .ne 6, 3, [(0, 46)], [], 0, 0, 0, 40) else mm_nop)) else (bif Nat.ble 37 pc then
  (bif Nat.beq 37 pc then (.invokevirtual 232, 3, [(10, 180)], [[7138, 7140, 1029, 2015]], 2, 0, 0, 37) else mm_nop) else (.iload_n 1, 1, [], [], 1, 0, 0, 36))) else (bif Nat.ble 34 pc then
  (bif Nat.ble 35 pc then (.iload_n 3, 1, [], [], 3, 0, 0, 35) else (.aload_n 0, 1, [], [], 0, 0, 0, 34)) else (bif Nat.ble 31 pc then
  (bif Nat.beq 31 pc then (.ifCond .eq 12, 3, [(0, 43)], [], 0, 0, 0, 31) else mm_nop) else (bif Nat.beq 28 pc then (.invokevirtual 232, 3, [(10, 180)], [[7138, 7140, 1029, 2015]], 2, 0, 0, 28) else mm_nop))))) else (bif Nat.ble 14 pc then
  (bif Nat.ble 22 pc then
  (bif Nat.ble 26 pc then
  (bif Nat.ble 27 pc then (.iload_n 1, 1, [], [], 1, 0, 0, 27) else (.iload_n 2, 1, [], [], 2, 0, 0, 26)) else (bif Nat.ble 25 pc then (.aload_n 0, 1, [], [], 0, 0, 0, 25) else (bif Nat.beq 22 pc then (.ifCond .eq 21, 3, [(0, 43)], [], 0, 0, 0, 22) else mm_nop))) else (bif Nat.ble 18 pc then
  (bif Nat.ble 19 pc then
  (bif Nat.beq 19 pc then (.invokevirtual 200, 3, [(10, 174)], [[7065, 7067, 1019, 2015]], 1, 0, 0, 19) else mm_nop) else (.iload_n 3, 1, [], [], 3, 0, 0, 18)) else (bif Nat.ble 17 pc then (.aload_n 0, 1, [], [], 0, 0, 0, 17) else (bif Nat.beq 14 pc then (.ifCond .eq 29, 3, [(0, 43)], [], 0, 0, 0, 14) else mm_nop)))) else (bif Nat.ble 6 pc then
  (bif Nat.ble 10 pc then
  (bif Nat.ble 11 pc then
  (bif Nat.beq 11 pc then (.invokevirtual 200, 3, [(10, 174)], [[7065, 7067, 1019, 2015]], 1, 0, 0, 11) else mm_nop) else (.iload_n 2, 1, [], [], 2, 0, 0, 10)) else (bif Nat.ble 9 pc then (.aload_n 0, 1, [], [], 0, 0, 0, 9) else (bif Nat.beq 6 pc then (.ifCond .eq 37, 3, [(0, 43)], [], 0, 0, 0, 6) else mm_nop))) else (bif Nat.ble 2 pc then
  (bif Nat.ble 3 pc then
  (bif Nat.beq 3 pc then (.invokestatic 193, 3, [(0, 164)], [[7069, 7070, 2015]], 3, 0, 0, 3) else mm_nop) else (.iconst 2, 1, [], [], 0, 2, 0, 2)) else (bif Nat.ble 1 pc then (.iconst 0, 1, [], [], 0, 0, 0, 1) else (.iload_n 1, 1, [], [], 1, 0, 0, 0)))))))
def mm_k190 : List mm_E := (List.range 115).map mm_f190
def mm_m190 : mm_M := (yX12_function, cX12_function, 4, (some .int), mm_k190, 3, 0, 0, 7137)
/-- TypeCopierModel.body.(II)I -/
def mm_f191 : Nat → mm_E := fun pc => (bif Nat.ble 16 pc then
  (bif Nat.ble 23 pc then
  (bif Nat.ble 25 pc then
  (bif Nat.ble 26 pc then
  (bif Nat.ble 27 pc then (.ireturn, 1, [], [], 0, 0, 0, 27) else (.iconst 1, 1, [], [], 0, 1, 0, 26)) else (.iastore, 1, [], [], 0, 0, 0, 25)) else (bif Nat.ble 24 pc then (.iload_n 2, 1, [], [], 2, 0, 0, 24) else (.iload_n 1, 1, [], [], 1, 0, 0, 23))) else (bif Nat.ble 19 pc then
  (bif Nat.ble 20 pc then
  (bif Nat.beq 20 pc then (.getfield 78, 3, [(10, 24)], [[6122]], 0, 0, 0, 20) else mm_nop) else (.aload_n 0, 1, [], [], 0, 0, 0, 19)) else (bif Nat.ble 18 pc then (.ireturn, 1, [], [], 0, 0, 0, 18) else (bif Nat.beq 16 pc then (.bipush (-2), 2, [], [], 0, (-2), 0, 16) else mm_nop)))) else (bif Nat.ble 8 pc then
  (bif Nat.ble 10 pc then
  (bif Nat.ble 13 pc then
  (bif Nat.beq 13 pc then (.ifCond .ne 6, 3, [(0, 19)], [], 0, 0, 0, 13) else mm_nop) else (bif Nat.beq 10 pc then (.invokevirtual 219, 3, [(10, 183)], [[7123, 7125, 1027, 2015]], 1, 0, 0, 10) else mm_nop)) else (bif Nat.ble 9 pc then (.iload_n 2, 1, [], [], 2, 0, 0, 9) else (.aload_n 0, 1, [], [], 0, 0, 0, 8))) else (bif Nat.ble 2 pc then
  (bif Nat.ble 5 pc then
  (bif Nat.beq 5 pc then (.ifCond .eq 11, 3, [(0, 16)], [], 0, 0, 0, 5) else mm_nop) else (bif Nat.beq 2 pc then (.invokevirtual 236, 3, [(10, 184)], [[7146, 7148, 1030, 2015]], 1, 0, 0, 2) else mm_nop)) else (bif Nat.ble 1 pc then (.iload_n 1, 1, [], [], 1, 0, 0, 1) else (.aload_n 0, 1, [], [], 0, 0, 0, 0)))))
def mm_k191 : List mm_E := (List.range 28).map mm_f191
def mm_m191 : mm_M := (yX12_body, cX12_body, 3, (some .int), mm_k191, 2, 0, 0, 7145)
/-- TypeCopierModel.callType.(II)I -/
def mm_f192 : Nat → mm_E := fun pc => (bif Nat.ble 77 pc then
  (bif Nat.ble 117 pc then
  (bif Nat.ble 136 pc then
  (bif Nat.ble 143 pc then
  (bif Nat.ble 147 pc then
  (bif Nat.ble 149 pc then
  (bif Nat.ble 152 pc then (.ireturn, 1, [], [], 0, 0, 0, 152) else (bif Nat.beq 149 pc then (.invokevirtual 239, 3, [(10, 181)], [[7174, 7176, 1036, 2015]], 3, 0, 0, 149) else mm_nop)) else (bif Nat.beq 147 pc then (.iload 5, 2, [], [], 5, 0, 0, 147) else mm_nop)) else (bif Nat.ble 144 pc then
  (bif Nat.ble 145 pc then
  (bif Nat.beq 145 pc then (.iload 4, 2, [], [], 4, 0, 0, 145) else mm_nop) else (.iaload, 1, [], [], 0, 0, 0, 144)) else (.iload_n 3, 1, [], [], 3, 0, 0, 143))) else (bif Nat.ble 138 pc then
  (bif Nat.ble 139 pc then
  (bif Nat.ble 140 pc then
  (bif Nat.beq 140 pc then (.getfield 75, 3, [(10, 23)], [[6121]], 0, 0, 0, 140) else mm_nop) else (.aload_n 0, 1, [], [], 0, 0, 0, 139)) else (.aload_n 0, 1, [], [], 0, 0, 0, 138)) else (bif Nat.ble 137 pc then (.ireturn, 1, [], [], 0, 0, 0, 137) else (.iconst (-1), 1, [], [], 0, (-1), 0, 136)))) else (bif Nat.ble 124 pc then
  (bif Nat.ble 128 pc then
  (bif Nat.ble 130 pc then
  (bif Nat.ble 133 pc then
  (bif Nat.beq 133 pc then (.if_icmp .eq 5, 3, [(0, 138)], [], 0, 0, 0, 133) else mm_nop) else (bif Nat.beq 130 pc then (.invokevirtual 239, 3, [(10, 181)], [[7174, 7176, 1036, 2015]], 3, 0, 0, 130) else mm_nop)) else (bif Nat.beq 128 pc then (.iload 5, 2, [], [], 5, 0, 0, 128) else mm_nop)) else (bif Nat.ble 125 pc then
  (bif Nat.ble 126 pc then
  (bif Nat.beq 126 pc then (.iload 4, 2, [], [], 4, 0, 0, 126) else mm_nop) else (.iaload, 1, [], [], 0, 0, 0, 125)) else (.iload_n 3, 1, [], [], 3, 0, 0, 124))) else (bif Nat.ble 119 pc then
  (bif Nat.ble 120 pc then
  (bif Nat.ble 121 pc then
  (bif Nat.beq 121 pc then (.getfield 72, 3, [(10, 22)], [[6120]], 0, 0, 0, 121) else mm_nop) else (.aload_n 0, 1, [], [], 0, 0, 0, 120)) else (.aload_n 0, 1, [], [], 0, 0, 0, 119)) else (bif Nat.ble 118 pc then (.iaload, 1, [], [], 0, 0, 0, 118) else (.iaload, 1, [], [], 0, 0, 0, 117))))) else (bif Nat.ble 98 pc then
  (bif Nat.ble 107 pc then
  (bif Nat.ble 112 pc then
  (bif Nat.ble 113 pc then
  (bif Nat.ble 116 pc then (.iload_n 2, 1, [], [], 2, 0, 0, 116) else (bif Nat.beq 113 pc then (.getfield 57, 3, [(10, 16)], [[6114]], 0, 0, 0, 113) else mm_nop)) else (.aload_n 0, 1, [], [], 0, 0, 0, 112)) else (bif Nat.ble 108 pc then
  (bif Nat.ble 109 pc then
  (bif Nat.beq 109 pc then (.getfield 81, 3, [(10, 25)], [[6123]], 0, 0, 0, 109) else mm_nop) else (.aload_n 0, 1, [], [], 0, 0, 0, 108)) else (.ireturn, 1, [], [], 0, 0, 0, 107))) else (bif Nat.ble 100 pc then
  (bif Nat.ble 103 pc then
  (bif Nat.ble 106 pc then (.iconst (-1), 1, [], [], 0, (-1), 0, 106) else (bif Nat.beq 103 pc then (.ifCond .ne 5, 3, [(0, 108)], [], 0, 0, 0, 103) else mm_nop)) else (bif Nat.beq 100 pc then (.invokevirtual 232, 3, [(10, 180)], [[7138, 7140, 1029, 2015]], 2, 0, 0, 100) else mm_nop)) else (bif Nat.ble 99 pc then (.iaload, 1, [], [], 0, 0, 0, 99) else (.iload_n 1, 1, [], [], 1, 0, 0, 98)))) else (bif Nat.ble 87 pc then
  (bif Nat.ble 92 pc then
  (bif Nat.ble 94 pc then
  (bif Nat.ble 95 pc then
  (bif Nat.beq 95 pc then (.getfield 69, 3, [(10, 21)], [[6119]], 0, 0, 0, 95) else mm_nop) else (.aload_n 0, 1, [], [], 0, 0, 0, 94)) else (bif Nat.beq 92 pc then (.iload 5, 2, [], [], 5, 0, 0, 92) else mm_nop)) else (bif Nat.ble 88 pc then
  (bif Nat.ble 91 pc then (.aload_n 0, 1, [], [], 0, 0, 0, 91) else (bif Nat.beq 88 pc then (.if_icmp .le 20, 3, [(0, 108)], [], 0, 0, 0, 88) else mm_nop)) else (.iconst 1, 1, [], [], 0, 1, 0, 87))) else (bif Nat.ble 79 pc then
  (bif Nat.ble 82 pc then
  (bif Nat.ble 85 pc then
  (bif Nat.beq 85 pc then (.iload 6, 2, [], [], 6, 0, 0, 85) else mm_nop) else (bif Nat.beq 82 pc then (.ifCond .eq 24, 3, [(0, 106)], [], 0, 0, 0, 82) else mm_nop)) else (bif Nat.beq 79 pc then (.invokevirtual 232, 3, [(10, 180)], [[7138, 7140, 1029, 2015]], 2, 0, 0, 79) else mm_nop)) else (bif Nat.ble 78 pc then (.iaload, 1, [], [], 0, 0, 0, 78) else (.iload_n 1, 1, [], [], 1, 0, 0, 77)))))) else (bif Nat.ble 35 pc then
  (bif Nat.ble 55 pc then
  (bif Nat.ble 65 pc then
  (bif Nat.ble 71 pc then
  (bif Nat.ble 73 pc then
  (bif Nat.ble 74 pc then
  (bif Nat.beq 74 pc then (.getfield 69, 3, [(10, 21)], [[6119]], 0, 0, 0, 74) else mm_nop) else (.aload_n 0, 1, [], [], 0, 0, 0, 73)) else (bif Nat.beq 71 pc then (.iload 4, 2, [], [], 4, 0, 0, 71) else mm_nop)) else (bif Nat.ble 67 pc then
  (bif Nat.ble 70 pc then (.aload_n 0, 1, [], [], 0, 0, 0, 70) else (bif Nat.beq 67 pc then (.ifCond .le 18, 3, [(0, 85)], [], 0, 0, 0, 67) else mm_nop)) else (bif Nat.beq 65 pc then (.iload 6, 2, [], [], 6, 0, 0, 65) else mm_nop))) else (bif Nat.ble 59 pc then
  (bif Nat.ble 60 pc then
  (bif Nat.ble 62 pc then
  (bif Nat.beq 62 pc then (.if_icmp .ne 44, 3, [(0, 106)], [], 0, 0, 0, 62) else mm_nop) else (bif Nat.beq 60 pc then (.iload 6, 2, [], [], 6, 0, 0, 60) else mm_nop)) else (.iaload, 1, [], [], 0, 0, 0, 59)) else (bif Nat.ble 58 pc then (.iload_n 3, 1, [], [], 3, 0, 0, 58) else (bif Nat.beq 55 pc then (.getfield 69, 3, [(10, 21)], [[6119]], 0, 0, 0, 55) else mm_nop)))) else (bif Nat.ble 44 pc then
  (bif Nat.ble 48 pc then
  (bif Nat.ble 51 pc then
  (bif Nat.ble 54 pc then (.aload_n 0, 1, [], [], 0, 0, 0, 54) else (bif Nat.beq 51 pc then (.ifCond .eq 55, 3, [(0, 106)], [], 0, 0, 0, 51) else mm_nop)) else (bif Nat.beq 48 pc then (.invokevirtual 236, 3, [(10, 184)], [[7146, 7148, 1030, 2015]], 1, 0, 0, 48) else mm_nop)) else (bif Nat.ble 46 pc then
  (bif Nat.ble 47 pc then (.iload_n 3, 1, [], [], 3, 0, 0, 47) else (.aload_n 0, 1, [], [], 0, 0, 0, 46)) else (bif Nat.beq 44 pc then (.istore 6, 2, [], [], 6, 0, 0, 44) else mm_nop))) else (bif Nat.ble 39 pc then
  (bif Nat.ble 40 pc then
  (bif Nat.ble 43 pc then (.iconst 2, 1, [], [], 0, 2, 0, 43) else (bif Nat.beq 40 pc then (.goto 4, 3, [(0, 44)], [], 0, 0, 0, 40) else mm_nop)) else (.iconst 1, 1, [], [], 0, 1, 0, 39)) else (bif Nat.ble 36 pc then
  (bif Nat.beq 36 pc then (.if_icmp .ne 7, 3, [(0, 43)], [], 0, 0, 0, 36) else mm_nop) else (.iconst (-1), 1, [], [], 0, (-1), 0, 35))))) else (bif Nat.ble 15 pc then
  (bif Nat.ble 23 pc then
  (bif Nat.ble 29 pc then
  (bif Nat.ble 30 pc then
  (bif Nat.ble 33 pc then
  (bif Nat.beq 33 pc then (.iload 5, 2, [], [], 5, 0, 0, 33) else mm_nop) else (bif Nat.beq 30 pc then (.goto 14, 3, [(0, 44)], [], 0, 0, 0, 30) else mm_nop)) else (.iconst 0, 1, [], [], 0, 0, 0, 29)) else (bif Nat.ble 25 pc then
  (bif Nat.ble 26 pc then
  (bif Nat.beq 26 pc then (.if_icmp .ne 7, 3, [(0, 33)], [], 0, 0, 0, 26) else mm_nop) else (.iconst (-1), 1, [], [], 0, (-1), 0, 25)) else (bif Nat.beq 23 pc then (.iload 4, 2, [], [], 4, 0, 0, 23) else mm_nop))) else (bif Nat.ble 19 pc then
  (bif Nat.ble 20 pc then
  (bif Nat.ble 21 pc then
  (bif Nat.beq 21 pc then (.istore 5, 2, [], [], 5, 0, 0, 21) else mm_nop) else (.iaload, 1, [], [], 0, 0, 0, 20)) else (.iload_n 2, 1, [], [], 2, 0, 0, 19)) else (bif Nat.ble 16 pc then
  (bif Nat.beq 16 pc then (.getfield 63, 3, [(10, 18)], [[6116]], 0, 0, 0, 16) else mm_nop) else (.aload_n 0, 1, [], [], 0, 0, 0, 15)))) else (bif Nat.ble 7 pc then
  (bif Nat.ble 11 pc then
  (bif Nat.ble 12 pc then
  (bif Nat.ble 13 pc then
  (bif Nat.beq 13 pc then (.istore 4, 2, [], [], 4, 0, 0, 13) else mm_nop) else (.iaload, 1, [], [], 0, 0, 0, 12)) else (.iload_n 2, 1, [], [], 2, 0, 0, 11)) else (bif Nat.ble 8 pc then
  (bif Nat.beq 8 pc then (.getfield 60, 3, [(10, 17)], [[6115]], 0, 0, 0, 8) else mm_nop) else (.aload_n 0, 1, [], [], 0, 0, 0, 7))) else (bif Nat.ble 4 pc then
  (bif Nat.ble 5 pc then
  (bif Nat.ble 6 pc then (.istore_n 3, 1, [], [], 3, 0, 0, 6) else (.iaload, 1, [], [], 0, 0, 0, 5)) else (.iload_n 2, 1, [], [], 2, 0, 0, 4)) else (bif Nat.ble 1 pc then
  (bif Nat.beq 1 pc then (.getfield 54, 3, [(10, 15)], [[6113]], 0, 0, 0, 1) else mm_nop) else (.aload_n 0, 1, [], [], 0, 0, 0, 0)))))))
def mm_k192 : List mm_E := (List.range 153).map mm_f192
def mm_m192 : mm_M := (yX12_callType, cX12_callType, 7, (some .int), mm_k192, 2, 0, 0, 7173)
/-- TypeCopierModel.typeAs.(IIIII)I -/
def mm_f193 : Nat → mm_E := fun pc => (bif Nat.ble 189 pc then
  (bif Nat.ble 253 pc then
  (bif Nat.ble 283 pc then
  (bif Nat.ble 296 pc then
  (bif Nat.ble 305 pc then
  (bif Nat.ble 307 pc then
  (bif Nat.ble 308 pc then
  (bif Nat.ble 311 pc then (.ireturn, 1, [], [], 0, 0, 0, 311) else (bif Nat.beq 308 pc then (.invokevirtual 242, 3, [(10, 192)], [[7170, 7172, 1035, 2015]], 2, 0, 0, 308) else mm_nop)) else (.iload_n 2, 1, [], [], 2, 0, 0, 307)) else (bif Nat.ble 306 pc then (.iload_n 1, 1, [], [], 1, 0, 0, 306) else (.aload_n 0, 1, [], [], 0, 0, 0, 305))) else (bif Nat.ble 300 pc then
  (bif Nat.ble 303 pc then
  (bif Nat.ble 304 pc then (.ireturn, 1, [], [], 0, 0, 0, 304) else (.iconst (-1), 1, [], [], 0, (-1), 0, 303)) else (bif Nat.beq 300 pc then (.goto 4, 3, [(0, 304)], [], 0, 0, 0, 300) else mm_nop)) else (bif Nat.ble 299 pc then (.iload_n 3, 1, [], [], 3, 0, 0, 299) else (bif Nat.beq 296 pc then (.if_icmp .ne 7, 3, [(0, 303)], [], 0, 0, 0, 296) else mm_nop)))) else (bif Nat.ble 289 pc then
  (bif Nat.ble 293 pc then
  (bif Nat.ble 294 pc then
  (bif Nat.ble 295 pc then (.iconst 5, 1, [], [], 0, 5, 0, 295) else (.iaload, 1, [], [], 0, 0, 0, 294)) else (.iload_n 3, 1, [], [], 3, 0, 0, 293)) else (bif Nat.ble 290 pc then
  (bif Nat.beq 290 pc then (.getfield 16, 3, [(10, 2)], [[6100]], 0, 0, 0, 290) else mm_nop) else (.aload_n 0, 1, [], [], 0, 0, 0, 289))) else (bif Nat.ble 287 pc then
  (bif Nat.ble 288 pc then (.ireturn, 1, [], [], 0, 0, 0, 288) else (.iconst (-1), 1, [], [], 0, (-1), 0, 287)) else (bif Nat.ble 284 pc then
  (bif Nat.beq 284 pc then (.goto 4, 3, [(0, 288)], [], 0, 0, 0, 284) else mm_nop) else (.iaload, 1, [], [], 0, 0, 0, 283))))) else (bif Nat.ble 268 pc then
  (bif Nat.ble 274 pc then
  (bif Nat.ble 278 pc then
  (bif Nat.ble 279 pc then
  (bif Nat.ble 282 pc then (.iload_n 3, 1, [], [], 3, 0, 0, 282) else (bif Nat.beq 279 pc then (.getfield 20, 3, [(10, 3)], [[6101]], 0, 0, 0, 279) else mm_nop)) else (.aload_n 0, 1, [], [], 0, 0, 0, 278)) else (bif Nat.ble 275 pc then
  (bif Nat.beq 275 pc then (.if_icmp .ne 12, 3, [(0, 287)], [], 0, 0, 0, 275) else mm_nop) else (.iconst 5, 1, [], [], 0, 5, 0, 274))) else (bif Nat.ble 272 pc then
  (bif Nat.ble 273 pc then (.iaload, 1, [], [], 0, 0, 0, 273) else (.iload_n 3, 1, [], [], 3, 0, 0, 272)) else (bif Nat.ble 269 pc then
  (bif Nat.beq 269 pc then (.getfield 16, 3, [(10, 2)], [[6100]], 0, 0, 0, 269) else mm_nop) else (.aload_n 0, 1, [], [], 0, 0, 0, 268)))) else (bif Nat.ble 259 pc then
  (bif Nat.ble 263 pc then
  (bif Nat.ble 266 pc then
  (bif Nat.ble 267 pc then (.ireturn, 1, [], [], 0, 0, 0, 267) else (.iconst (-1), 1, [], [], 0, (-1), 0, 266)) else (bif Nat.beq 263 pc then (.goto 4, 3, [(0, 267)], [], 0, 0, 0, 263) else mm_nop)) else (bif Nat.ble 262 pc then (.iconst 1, 1, [], [], 0, 1, 0, 262) else (bif Nat.beq 259 pc then (.if_icmp .ne 7, 3, [(0, 266)], [], 0, 0, 0, 259) else mm_nop))) else (bif Nat.ble 257 pc then
  (bif Nat.ble 258 pc then (.iconst 5, 1, [], [], 0, 5, 0, 258) else (.iaload, 1, [], [], 0, 0, 0, 257)) else (bif Nat.ble 256 pc then (.iload_n 3, 1, [], [], 3, 0, 0, 256) else (bif Nat.beq 253 pc then (.getfield 16, 3, [(10, 2)], [[6100]], 0, 0, 0, 253) else mm_nop)))))) else (bif Nat.ble 221 pc then
  (bif Nat.ble 235 pc then
  (bif Nat.ble 245 pc then
  (bif Nat.ble 250 pc then
  (bif Nat.ble 251 pc then
  (bif Nat.ble 252 pc then (.aload_n 0, 1, [], [], 0, 0, 0, 252) else (.ireturn, 1, [], [], 0, 0, 0, 251)) else (.iconst (-1), 1, [], [], 0, (-1), 0, 250)) else (bif Nat.ble 247 pc then
  (bif Nat.beq 247 pc then (.goto 4, 3, [(0, 251)], [], 0, 0, 0, 247) else mm_nop) else (bif Nat.beq 245 pc then (.iload 4, 2, [], [], 4, 0, 0, 245) else mm_nop))) else (bif Nat.ble 240 pc then
  (bif Nat.ble 241 pc then
  (bif Nat.ble 242 pc then
  (bif Nat.beq 242 pc then (.if_icmp .ne 8, 3, [(0, 250)], [], 0, 0, 0, 242) else mm_nop) else (.iload_n 3, 1, [], [], 3, 0, 0, 241)) else (.iaload, 1, [], [], 0, 0, 0, 240)) else (bif Nat.ble 238 pc then
  (bif Nat.beq 238 pc then (.iload 4, 2, [], [], 4, 0, 0, 238) else mm_nop) else (bif Nat.beq 235 pc then (.getfield 20, 3, [(10, 3)], [[6101]], 0, 0, 0, 235) else mm_nop)))) else (bif Nat.ble 227 pc then
  (bif Nat.ble 230 pc then
  (bif Nat.ble 231 pc then
  (bif Nat.ble 234 pc then (.aload_n 0, 1, [], [], 0, 0, 0, 234) else (bif Nat.beq 231 pc then (.if_icmp .ne 19, 3, [(0, 250)], [], 0, 0, 0, 231) else mm_nop)) else (.iconst 5, 1, [], [], 0, 5, 0, 230)) else (bif Nat.ble 229 pc then (.iaload, 1, [], [], 0, 0, 0, 229) else (bif Nat.beq 227 pc then (.iload 4, 2, [], [], 4, 0, 0, 227) else mm_nop))) else (bif Nat.ble 223 pc then
  (bif Nat.ble 224 pc then
  (bif Nat.beq 224 pc then (.getfield 16, 3, [(10, 2)], [[6100]], 0, 0, 0, 224) else mm_nop) else (.aload_n 0, 1, [], [], 0, 0, 0, 223)) else (bif Nat.ble 222 pc then (.ireturn, 1, [], [], 0, 0, 0, 222) else (.iconst (-1), 1, [], [], 0, (-1), 0, 221))))) else (bif Nat.ble 206 pc then
  (bif Nat.ble 212 pc then
  (bif Nat.ble 214 pc then
  (bif Nat.ble 215 pc then
  (bif Nat.ble 218 pc then
  (bif Nat.beq 218 pc then (.goto 4, 3, [(0, 222)], [], 0, 0, 0, 218) else mm_nop) else (bif Nat.beq 215 pc then (.invokevirtual 210, 3, [(10, 173)], [[7166, 7168, 1034, 2015]], 3, 0, 0, 215) else mm_nop)) else (.iconst (-1), 1, [], [], 0, (-1), 0, 214)) else (bif Nat.ble 213 pc then (.iaload, 1, [], [], 0, 0, 0, 213) else (.iload_n 2, 1, [], [], 2, 0, 0, 212))) else (bif Nat.ble 208 pc then
  (bif Nat.ble 209 pc then
  (bif Nat.beq 209 pc then (.getfield 54, 3, [(10, 15)], [[6113]], 0, 0, 0, 209) else mm_nop) else (.aload_n 0, 1, [], [], 0, 0, 0, 208)) else (bif Nat.ble 207 pc then (.iconst 5, 1, [], [], 0, 5, 0, 207) else (.aload_n 0, 1, [], [], 0, 0, 0, 206)))) else (bif Nat.ble 195 pc then
  (bif Nat.ble 199 pc then
  (bif Nat.ble 200 pc then
  (bif Nat.ble 203 pc then
  (bif Nat.beq 203 pc then (.ifCond .eq 18, 3, [(0, 221)], [], 0, 0, 0, 203) else mm_nop) else (bif Nat.beq 200 pc then (.invokevirtual 232, 3, [(10, 180)], [[7138, 7140, 1029, 2015]], 2, 0, 0, 200) else mm_nop)) else (.iaload, 1, [], [], 0, 0, 0, 199)) else (bif Nat.ble 198 pc then (.iload_n 1, 1, [], [], 1, 0, 0, 198) else (bif Nat.beq 195 pc then (.getfield 69, 3, [(10, 21)], [[6119]], 0, 0, 0, 195) else mm_nop))) else (bif Nat.ble 193 pc then
  (bif Nat.ble 194 pc then (.aload_n 0, 1, [], [], 0, 0, 0, 194) else (.iaload, 1, [], [], 0, 0, 0, 193)) else (bif Nat.ble 192 pc then (.iload_n 2, 1, [], [], 2, 0, 0, 192) else (bif Nat.beq 189 pc then (.getfield 54, 3, [(10, 15)], [[6113]], 0, 0, 0, 189) else mm_nop))))))) else (bif Nat.ble 131 pc then
  (bif Nat.ble 160 pc then
  (bif Nat.ble 173 pc then
  (bif Nat.ble 182 pc then
  (bif Nat.ble 186 pc then
  (bif Nat.ble 187 pc then
  (bif Nat.ble 188 pc then (.aload_n 0, 1, [], [], 0, 0, 0, 188) else (.aload_n 0, 1, [], [], 0, 0, 0, 187)) else (.ireturn, 1, [], [], 0, 0, 0, 186)) else (bif Nat.ble 185 pc then (.iconst (-1), 1, [], [], 0, (-1), 0, 185) else (bif Nat.beq 182 pc then (.goto 4, 3, [(0, 186)], [], 0, 0, 0, 182) else mm_nop))) else (bif Nat.ble 177 pc then
  (bif Nat.ble 180 pc then
  (bif Nat.ble 181 pc then (.iaload, 1, [], [], 0, 0, 0, 181) else (.iload_n 3, 1, [], [], 3, 0, 0, 180)) else (bif Nat.beq 177 pc then (.getfield 23, 3, [(10, 4)], [[6102]], 0, 0, 0, 177) else mm_nop)) else (bif Nat.ble 176 pc then (.aload_n 0, 1, [], [], 0, 0, 0, 176) else (bif Nat.beq 173 pc then (.if_icmp .ne 12, 3, [(0, 185)], [], 0, 0, 0, 173) else mm_nop)))) else (bif Nat.ble 166 pc then
  (bif Nat.ble 170 pc then
  (bif Nat.ble 171 pc then
  (bif Nat.ble 172 pc then (.iconst 4, 1, [], [], 0, 4, 0, 172) else (.iaload, 1, [], [], 0, 0, 0, 171)) else (.iload_n 3, 1, [], [], 3, 0, 0, 170)) else (bif Nat.ble 167 pc then
  (bif Nat.beq 167 pc then (.getfield 16, 3, [(10, 2)], [[6100]], 0, 0, 0, 167) else mm_nop) else (.aload_n 0, 1, [], [], 0, 0, 0, 166))) else (bif Nat.ble 164 pc then
  (bif Nat.ble 165 pc then (.ireturn, 1, [], [], 0, 0, 0, 165) else (.iconst (-1), 1, [], [], 0, (-1), 0, 164)) else (bif Nat.ble 161 pc then
  (bif Nat.beq 161 pc then (.goto 4, 3, [(0, 165)], [], 0, 0, 0, 161) else mm_nop) else (.iaload, 1, [], [], 0, 0, 0, 160))))) else (bif Nat.ble 145 pc then
  (bif Nat.ble 151 pc then
  (bif Nat.ble 155 pc then
  (bif Nat.ble 156 pc then
  (bif Nat.ble 159 pc then (.iload_n 3, 1, [], [], 3, 0, 0, 159) else (bif Nat.beq 156 pc then (.getfield 20, 3, [(10, 3)], [[6101]], 0, 0, 0, 156) else mm_nop)) else (.aload_n 0, 1, [], [], 0, 0, 0, 155)) else (bif Nat.ble 152 pc then
  (bif Nat.beq 152 pc then (.if_icmp .ne 12, 3, [(0, 164)], [], 0, 0, 0, 152) else mm_nop) else (.iconst 4, 1, [], [], 0, 4, 0, 151))) else (bif Nat.ble 149 pc then
  (bif Nat.ble 150 pc then (.iaload, 1, [], [], 0, 0, 0, 150) else (.iload_n 3, 1, [], [], 3, 0, 0, 149)) else (bif Nat.ble 146 pc then
  (bif Nat.beq 146 pc then (.getfield 16, 3, [(10, 2)], [[6100]], 0, 0, 0, 146) else mm_nop) else (.aload_n 0, 1, [], [], 0, 0, 0, 145)))) else (bif Nat.ble 137 pc then
  (bif Nat.ble 139 pc then
  (bif Nat.ble 141 pc then
  (bif Nat.ble 144 pc then (.ireturn, 1, [], [], 0, 0, 0, 144) else (bif Nat.beq 141 pc then (.invokevirtual 210, 3, [(10, 173)], [[7166, 7168, 1034, 2015]], 3, 0, 0, 141) else mm_nop)) else (bif Nat.beq 139 pc then (.iload 4, 2, [], [], 4, 0, 0, 139) else mm_nop)) else (bif Nat.ble 138 pc then (.iload_n 3, 1, [], [], 3, 0, 0, 138) else (.iconst 4, 1, [], [], 0, 4, 0, 137))) else (bif Nat.ble 135 pc then
  (bif Nat.ble 136 pc then (.aload_n 0, 1, [], [], 0, 0, 0, 136) else (.ireturn, 1, [], [], 0, 0, 0, 135)) else (bif Nat.ble 134 pc then (.iconst (-1), 1, [], [], 0, (-1), 0, 134) else (bif Nat.beq 131 pc then (.goto 4, 3, [(0, 135)], [], 0, 0, 0, 131) else mm_nop)))))) else (bif Nat.ble 96 pc then
  (bif Nat.ble 112 pc then
  (bif Nat.ble 119 pc then
  (bif Nat.ble 124 pc then
  (bif Nat.ble 126 pc then
  (bif Nat.ble 129 pc then
  (bif Nat.beq 129 pc then (.iload 4, 2, [], [], 4, 0, 0, 129) else mm_nop) else (bif Nat.beq 126 pc then (.if_icmp .ne 8, 3, [(0, 134)], [], 0, 0, 0, 126) else mm_nop)) else (bif Nat.beq 124 pc then (.iload 5, 2, [], [], 5, 0, 0, 124) else mm_nop)) else (bif Nat.ble 122 pc then
  (bif Nat.beq 122 pc then (.iload 4, 2, [], [], 4, 0, 0, 122) else mm_nop) else (bif Nat.beq 119 pc then (.if_icmp .ne 15, 3, [(0, 134)], [], 0, 0, 0, 119) else mm_nop))) else (bif Nat.ble 116 pc then
  (bif Nat.ble 117 pc then
  (bif Nat.ble 118 pc then (.iconst 1, 1, [], [], 0, 1, 0, 118) else (.iload_n 3, 1, [], [], 3, 0, 0, 117)) else (.ireturn, 1, [], [], 0, 0, 0, 116)) else (bif Nat.ble 115 pc then (.iconst (-1), 1, [], [], 0, (-1), 0, 115) else (bif Nat.beq 112 pc then (.goto 4, 3, [(0, 116)], [], 0, 0, 0, 112) else mm_nop)))) else (bif Nat.ble 102 pc then
  (bif Nat.ble 106 pc then
  (bif Nat.ble 108 pc then
  (bif Nat.ble 111 pc then (.iconst 1, 1, [], [], 0, 1, 0, 111) else (bif Nat.beq 108 pc then (.ifCond .ne 7, 3, [(0, 115)], [], 0, 0, 0, 108) else mm_nop)) else (bif Nat.beq 106 pc then (.iload 4, 2, [], [], 4, 0, 0, 106) else mm_nop)) else (bif Nat.ble 103 pc then
  (bif Nat.beq 103 pc then (.ifCond .ne 12, 3, [(0, 115)], [], 0, 0, 0, 103) else mm_nop) else (.iload_n 3, 1, [], [], 3, 0, 0, 102))) else (bif Nat.ble 100 pc then
  (bif Nat.ble 101 pc then (.ireturn, 1, [], [], 0, 0, 0, 101) else (.iconst (-1), 1, [], [], 0, (-1), 0, 100)) else (bif Nat.ble 97 pc then
  (bif Nat.beq 97 pc then (.goto 4, 3, [(0, 101)], [], 0, 0, 0, 97) else mm_nop) else (.iconst 0, 1, [], [], 0, 0, 0, 96))))) else (bif Nat.ble 80 pc then
  (bif Nat.ble 86 pc then
  (bif Nat.ble 88 pc then
  (bif Nat.ble 91 pc then
  (bif Nat.ble 93 pc then
  (bif Nat.beq 93 pc then (.ifCond .ne 7, 3, [(0, 100)], [], 0, 0, 0, 93) else mm_nop) else (bif Nat.beq 91 pc then (.iload 4, 2, [], [], 4, 0, 0, 91) else mm_nop)) else (bif Nat.beq 88 pc then (.ifCond .ne 12, 3, [(0, 100)], [], 0, 0, 0, 88) else mm_nop)) else (bif Nat.ble 87 pc then (.iload_n 3, 1, [], [], 3, 0, 0, 87) else (.ireturn, 1, [], [], 0, 0, 0, 86))) else (bif Nat.ble 84 pc then
  (bif Nat.ble 85 pc then (.iaload, 1, [], [], 0, 0, 0, 85) else (.iload_n 1, 1, [], [], 1, 0, 0, 84)) else (bif Nat.ble 81 pc then
  (bif Nat.beq 81 pc then (.getfield 72, 3, [(10, 22)], [[6120]], 0, 0, 0, 81) else mm_nop) else (.aload_n 0, 1, [], [], 0, 0, 0, 80)))) else (bif Nat.ble 6 pc then
  (bif Nat.ble 77 pc then
  (bif Nat.ble 78 pc then
  (bif Nat.ble 79 pc then (.ireturn, 1, [], [], 0, 0, 0, 79) else (.iconst 1, 1, [], [], 0, 1, 0, 78)) else (.ireturn, 1, [], [], 0, 0, 0, 77)) else (bif Nat.ble 76 pc then (.iconst 0, 1, [], [], 0, 0, 0, 76) else (bif Nat.beq 6 pc then (.tableswitch 299 0 13 #[70, 72, 74, 81, 96, 111, 130, 139, 160, 181, 217, 246, 262, 283], 70, [(0, 305), (0, 76), (1, 78), (2, 80), (3, 87), (4, 102), (5, 117), (6, 136), (7, 145), (8, 166), (9, 187), (10, 223), (11, 252), (12, 268), (13, 289)], [], 0, 0, 0, 6) else mm_nop))) else (bif Nat.ble 4 pc then
  (bif Nat.ble 5 pc then (.iaload, 1, [], [], 0, 0, 0, 5) else (.iload_n 2, 1, [], [], 2, 0, 0, 4)) else (bif Nat.ble 1 pc then
  (bif Nat.beq 1 pc then (.getfield 51, 3, [(10, 14)], [[6112]], 0, 0, 0, 1) else mm_nop) else (.aload_n 0, 1, [], [], 0, 0, 0, 0))))))))
def mm_k193 : List mm_E := (List.range 312).map mm_f193
def mm_m193 : mm_M := (yX12_typeAs, cX12_typeAs, 6, (some .int), mm_k193, 5, 0, 0, 7165)
/-- TypeCopierModel.goThrough.(I)V -/
def mm_f194 : Nat → mm_E := fun pc => (bif Nat.ble 97 pc then
  (bif Nat.ble 143 pc then
  (bif Nat.ble 167 pc then
  (bif Nat.ble 181 pc then
  (bif Nat.ble 187 pc then
  (bif Nat.ble 191 pc then
  (bif Nat.ble 194 pc then (.return_, 1, [], [], 0, 0, 0, 194) else (bif Nat.beq 191 pc then (.goto (-185), 3, [(0, 6)], [], 0, 0, 0, 191) else mm_nop)) else (bif Nat.ble 188 pc then
  (bif Nat.beq 188 pc then (.iinc 2 1, 3, [], [], 2, 1, 0, 188) else mm_nop) else (.iastore, 1, [], [], 0, 0, 0, 187))) else (bif Nat.ble 182 pc then
  (bif Nat.ble 185 pc then
  (bif Nat.beq 185 pc then (.iload 8, 2, [], [], 8, 0, 0, 185) else mm_nop) else (bif Nat.beq 182 pc then (.goto 5, 3, [(0, 187)], [], 0, 0, 0, 182) else mm_nop)) else (.iconst (-1), 1, [], [], 0, (-1), 0, 181))) else (bif Nat.ble 174 pc then
  (bif Nat.ble 177 pc then
  (bif Nat.ble 178 pc then
  (bif Nat.beq 178 pc then (.if_icmp .le 7, 3, [(0, 185)], [], 0, 0, 0, 178) else mm_nop) else (.iconst 5, 1, [], [], 0, 5, 0, 177)) else (bif Nat.ble 176 pc then (.iaload, 1, [], [], 0, 0, 0, 176) else (bif Nat.beq 174 pc then (.iload 8, 2, [], [], 8, 0, 0, 174) else mm_nop))) else (bif Nat.ble 170 pc then
  (bif Nat.ble 171 pc then
  (bif Nat.beq 171 pc then (.getfield 26, 3, [(10, 5)], [[6103]], 0, 0, 0, 171) else mm_nop) else (.aload_n 0, 1, [], [], 0, 0, 0, 170)) else (bif Nat.beq 167 pc then (.if_icmp .eq 18, 3, [(0, 185)], [], 0, 0, 0, 167) else mm_nop)))) else (bif Nat.ble 156 pc then
  (bif Nat.ble 160 pc then
  (bif Nat.ble 164 pc then
  (bif Nat.ble 166 pc then (.iconst (-1), 1, [], [], 0, (-1), 0, 166) else (bif Nat.beq 164 pc then (.iload 8, 2, [], [], 8, 0, 0, 164) else mm_nop)) else (bif Nat.ble 163 pc then (.iload_n 2, 1, [], [], 2, 0, 0, 163) else (bif Nat.beq 160 pc then (.getfield 81, 3, [(10, 25)], [[6123]], 0, 0, 0, 160) else mm_nop))) else (bif Nat.ble 157 pc then
  (bif Nat.ble 159 pc then (.aload_n 0, 1, [], [], 0, 0, 0, 159) else (bif Nat.beq 157 pc then (.istore 8, 2, [], [], 8, 0, 0, 157) else mm_nop)) else (.iconst (-1), 1, [], [], 0, (-1), 0, 156))) else (bif Nat.ble 148 pc then
  (bif Nat.ble 150 pc then
  (bif Nat.ble 153 pc then
  (bif Nat.beq 153 pc then (.goto 4, 3, [(0, 157)], [], 0, 0, 0, 153) else mm_nop) else (bif Nat.beq 150 pc then (.invokevirtual 248, 3, [(10, 193)], [[7162, 7164, 1033, 2015]], 5, 0, 0, 150) else mm_nop)) else (bif Nat.beq 148 pc then (.iload 7, 2, [], [], 7, 0, 0, 148) else mm_nop)) else (bif Nat.ble 144 pc then
  (bif Nat.ble 146 pc then
  (bif Nat.beq 146 pc then (.iload 6, 2, [], [], 6, 0, 0, 146) else mm_nop) else (bif Nat.beq 144 pc then (.iload 5, 2, [], [], 5, 0, 0, 144) else mm_nop)) else (.iload_n 2, 1, [], [], 2, 0, 0, 143))))) else (bif Nat.ble 120 pc then
  (bif Nat.ble 131 pc then
  (bif Nat.ble 137 pc then
  (bif Nat.ble 141 pc then
  (bif Nat.ble 142 pc then (.iload_n 1, 1, [], [], 1, 0, 0, 142) else (.aload_n 0, 1, [], [], 0, 0, 0, 141)) else (bif Nat.ble 138 pc then
  (bif Nat.beq 138 pc then (.ifCond .eq 18, 3, [(0, 156)], [], 0, 0, 0, 138) else mm_nop) else (.iload_n 3, 1, [], [], 3, 0, 0, 137))) else (bif Nat.ble 134 pc then
  (bif Nat.ble 135 pc then
  (bif Nat.beq 135 pc then (.istore 7, 2, [], [], 7, 0, 0, 135) else mm_nop) else (.iconst (-1), 1, [], [], 0, (-1), 0, 134)) else (bif Nat.beq 131 pc then (.goto 4, 3, [(0, 135)], [], 0, 0, 0, 131) else mm_nop))) else (bif Nat.ble 125 pc then
  (bif Nat.ble 127 pc then
  (bif Nat.ble 130 pc then (.iaload, 1, [], [], 0, 0, 0, 130) else (bif Nat.beq 127 pc then (.invokevirtual 245, 3, [(10, 186)], [[7158, 7160, 1032, 2015]], 2, 0, 0, 127) else mm_nop)) else (bif Nat.ble 126 pc then (.iconst 2, 1, [], [], 0, 2, 0, 126) else (.iload_n 2, 1, [], [], 2, 0, 0, 125))) else (bif Nat.ble 121 pc then
  (bif Nat.ble 124 pc then (.aload_n 0, 1, [], [], 0, 0, 0, 124) else (bif Nat.beq 121 pc then (.getfield 81, 3, [(10, 25)], [[6123]], 0, 0, 0, 121) else mm_nop)) else (.aload_n 0, 1, [], [], 0, 0, 0, 120)))) else (bif Nat.ble 107 pc then
  (bif Nat.ble 112 pc then
  (bif Nat.ble 116 pc then
  (bif Nat.ble 117 pc then
  (bif Nat.beq 117 pc then (.if_icmp .le 17, 3, [(0, 134)], [], 0, 0, 0, 117) else mm_nop) else (.iconst 2, 1, [], [], 0, 2, 0, 116)) else (bif Nat.ble 114 pc then
  (bif Nat.beq 114 pc then (.iload 4, 2, [], [], 4, 0, 0, 114) else mm_nop) else (bif Nat.beq 112 pc then (.istore 6, 2, [], [], 6, 0, 0, 112) else mm_nop))) else (bif Nat.ble 108 pc then
  (bif Nat.ble 111 pc then (.iconst (-1), 1, [], [], 0, (-1), 0, 111) else (bif Nat.beq 108 pc then (.goto 4, 3, [(0, 112)], [], 0, 0, 0, 108) else mm_nop)) else (.iaload, 1, [], [], 0, 0, 0, 107))) else (bif Nat.ble 102 pc then
  (bif Nat.ble 103 pc then
  (bif Nat.ble 104 pc then
  (bif Nat.beq 104 pc then (.invokevirtual 245, 3, [(10, 186)], [[7158, 7160, 1032, 2015]], 2, 0, 0, 104) else mm_nop) else (.iconst 1, 1, [], [], 0, 1, 0, 103)) else (.iload_n 2, 1, [], [], 2, 0, 0, 102)) else (bif Nat.ble 98 pc then
  (bif Nat.ble 101 pc then (.aload_n 0, 1, [], [], 0, 0, 0, 101) else (bif Nat.beq 98 pc then (.getfield 81, 3, [(10, 25)], [[6123]], 0, 0, 0, 98) else mm_nop)) else (.aload_n 0, 1, [], [], 0, 0, 0, 97)))))) else (bif Nat.ble 46 pc then
  (bif Nat.ble 71 pc then
  (bif Nat.ble 84 pc then
  (bif Nat.ble 89 pc then
  (bif Nat.ble 93 pc then
  (bif Nat.ble 94 pc then
  (bif Nat.beq 94 pc then (.if_icmp .le 17, 3, [(0, 111)], [], 0, 0, 0, 94) else mm_nop) else (.iconst 1, 1, [], [], 0, 1, 0, 93)) else (bif Nat.ble 91 pc then
  (bif Nat.beq 91 pc then (.iload 4, 2, [], [], 4, 0, 0, 91) else mm_nop) else (bif Nat.beq 89 pc then (.istore 5, 2, [], [], 5, 0, 0, 89) else mm_nop))) else (bif Nat.ble 85 pc then
  (bif Nat.ble 88 pc then (.iconst (-1), 1, [], [], 0, (-1), 0, 88) else (bif Nat.beq 85 pc then (.goto 4, 3, [(0, 89)], [], 0, 0, 0, 85) else mm_nop)) else (.iaload, 1, [], [], 0, 0, 0, 84))) else (bif Nat.ble 78 pc then
  (bif Nat.ble 80 pc then
  (bif Nat.ble 81 pc then
  (bif Nat.beq 81 pc then (.invokevirtual 245, 3, [(10, 186)], [[7158, 7160, 1032, 2015]], 2, 0, 0, 81) else mm_nop) else (.iconst 0, 1, [], [], 0, 0, 0, 80)) else (bif Nat.ble 79 pc then (.iload_n 2, 1, [], [], 2, 0, 0, 79) else (.aload_n 0, 1, [], [], 0, 0, 0, 78))) else (bif Nat.ble 74 pc then
  (bif Nat.ble 75 pc then
  (bif Nat.beq 75 pc then (.getfield 81, 3, [(10, 25)], [[6123]], 0, 0, 0, 75) else mm_nop) else (.aload_n 0, 1, [], [], 0, 0, 0, 74)) else (bif Nat.beq 71 pc then (.ifCond .le 17, 3, [(0, 88)], [], 0, 0, 0, 71) else mm_nop)))) else (bif Nat.ble 57 pc then
  (bif Nat.ble 62 pc then
  (bif Nat.ble 66 pc then
  (bif Nat.ble 69 pc then
  (bif Nat.beq 69 pc then (.iload 4, 2, [], [], 4, 0, 0, 69) else mm_nop) else (bif Nat.beq 66 pc then (.goto (-36), 3, [(0, 30)], [], 0, 0, 0, 66) else mm_nop)) else (bif Nat.ble 63 pc then
  (bif Nat.beq 63 pc then (.iinc 5 1, 3, [], [], 5, 1, 0, 63) else mm_nop) else (.istore_n 3, 1, [], [], 3, 0, 0, 62))) else (bif Nat.ble 58 pc then
  (bif Nat.ble 61 pc then (.iconst 0, 1, [], [], 0, 0, 0, 61) else (bif Nat.beq 58 pc then (.goto 4, 3, [(0, 62)], [], 0, 0, 0, 58) else mm_nop)) else (.iconst 1, 1, [], [], 0, 1, 0, 57))) else (bif Nat.ble 52 pc then
  (bif Nat.ble 53 pc then
  (bif Nat.ble 54 pc then
  (bif Nat.beq 54 pc then (.if_icmp .eq 7, 3, [(0, 61)], [], 0, 0, 0, 54) else mm_nop) else (.iconst (-1), 1, [], [], 0, (-1), 0, 53)) else (.iaload, 1, [], [], 0, 0, 0, 52)) else (bif Nat.ble 47 pc then
  (bif Nat.ble 49 pc then
  (bif Nat.beq 49 pc then (.invokevirtual 245, 3, [(10, 186)], [[7158, 7160, 1032, 2015]], 2, 0, 0, 49) else mm_nop) else (bif Nat.beq 47 pc then (.iload 5, 2, [], [], 5, 0, 0, 47) else mm_nop)) else (.iload_n 2, 1, [], [], 2, 0, 0, 46))))) else (bif Nat.ble 21 pc then
  (bif Nat.ble 32 pc then
  (bif Nat.ble 38 pc then
  (bif Nat.ble 42 pc then
  (bif Nat.ble 45 pc then (.aload_n 0, 1, [], [], 0, 0, 0, 45) else (bif Nat.beq 42 pc then (.getfield 81, 3, [(10, 25)], [[6123]], 0, 0, 0, 42) else mm_nop)) else (bif Nat.ble 41 pc then (.aload_n 0, 1, [], [], 0, 0, 0, 41) else (bif Nat.beq 38 pc then (.ifCond .eq 23, 3, [(0, 61)], [], 0, 0, 0, 38) else mm_nop))) else (bif Nat.ble 34 pc then
  (bif Nat.ble 37 pc then (.iload_n 3, 1, [], [], 3, 0, 0, 37) else (bif Nat.beq 34 pc then (.if_icmp .ge 35, 3, [(0, 69)], [], 0, 0, 0, 34) else mm_nop)) else (bif Nat.beq 32 pc then (.iload 4, 2, [], [], 4, 0, 0, 32) else mm_nop))) else (bif Nat.ble 27 pc then
  (bif Nat.ble 28 pc then
  (bif Nat.ble 30 pc then
  (bif Nat.beq 30 pc then (.iload 5, 2, [], [], 5, 0, 0, 30) else mm_nop) else (bif Nat.beq 28 pc then (.istore 5, 2, [], [], 5, 0, 0, 28) else mm_nop)) else (.iconst 0, 1, [], [], 0, 0, 0, 27)) else (bif Nat.ble 22 pc then
  (bif Nat.ble 25 pc then
  (bif Nat.beq 25 pc then (.istore 4, 2, [], [], 4, 0, 0, 25) else mm_nop) else (bif Nat.beq 22 pc then (.invokestatic 225, 3, [(0, 185)], [[7131, 7132, 2015]], 1, 0, 0, 22) else mm_nop)) else (.iaload, 1, [], [], 0, 0, 0, 21)))) else (bif Nat.ble 8 pc then
  (bif Nat.ble 15 pc then
  (bif Nat.ble 17 pc then
  (bif Nat.ble 20 pc then (.iload_n 2, 1, [], [], 2, 0, 0, 20) else (bif Nat.beq 17 pc then (.getfield 51, 3, [(10, 14)], [[6112]], 0, 0, 0, 17) else mm_nop)) else (bif Nat.ble 16 pc then (.aload_n 0, 1, [], [], 0, 0, 0, 16) else (.istore_n 3, 1, [], [], 3, 0, 0, 15))) else (bif Nat.ble 11 pc then
  (bif Nat.ble 14 pc then (.iconst 1, 1, [], [], 0, 1, 0, 14) else (bif Nat.beq 11 pc then (.if_icmp .ge 183, 3, [(0, 194)], [], 0, 0, 0, 11) else mm_nop)) else (bif Nat.beq 8 pc then (.getfield 213, 3, [(10, 13)], [[6111]], 0, 0, 0, 8) else mm_nop))) else (bif Nat.ble 5 pc then
  (bif Nat.ble 6 pc then
  (bif Nat.ble 7 pc then (.aload_n 0, 1, [], [], 0, 0, 0, 7) else (.iload_n 2, 1, [], [], 2, 0, 0, 6)) else (.istore_n 2, 1, [], [], 2, 0, 0, 5)) else (bif Nat.ble 1 pc then
  (bif Nat.ble 4 pc then (.iconst 0, 1, [], [], 0, 0, 0, 4) else (bif Nat.beq 1 pc then (.invokevirtual 197, 3, [(10, 167)], [[7076, 7078, 1021, 2015]], 0, 0, 0, 1) else mm_nop)) else (.aload_n 0, 1, [], [], 0, 0, 0, 0)))))))
def mm_k194 : List mm_E := (List.range 195).map mm_f194
def mm_m194 : mm_M := (yX12_goThrough, cX12_goThrough, 9, none, mm_k194, 1, 0, 0, 7157)
/-- TypeCopierModel.typeIn.(II)I -/
def mm_f195 : Nat → mm_E := fun pc => (bif Nat.ble 25 pc then
  (bif Nat.ble 36 pc then
  (bif Nat.ble 42 pc then
  (bif Nat.ble 46 pc then
  (bif Nat.ble 49 pc then (.ireturn, 1, [], [], 0, 0, 0, 49) else (bif Nat.beq 46 pc then (.invokevirtual 255, 3, [(10, 182)], [[7178, 7180, 1037, 2015]], 2, 0, 0, 46) else mm_nop)) else (bif Nat.ble 45 pc then (.iconst 0, 1, [], [], 0, 0, 0, 45) else (bif Nat.beq 42 pc then (.goto 4, 3, [(0, 46)], [], 0, 0, 0, 42) else mm_nop))) else (bif Nat.ble 38 pc then
  (bif Nat.ble 41 pc then (.iconst 1, 1, [], [], 0, 1, 0, 41) else (bif Nat.beq 38 pc then (.if_icmp .eq 7, 3, [(0, 45)], [], 0, 0, 0, 38) else mm_nop)) else (bif Nat.ble 37 pc then (.iconst (-1), 1, [], [], 0, (-1), 0, 37) else (.iaload, 1, [], [], 0, 0, 0, 36)))) else (bif Nat.ble 30 pc then
  (bif Nat.ble 32 pc then
  (bif Nat.ble 35 pc then (.iload_n 2, 1, [], [], 2, 0, 0, 35) else (bif Nat.beq 32 pc then (.getfield 81, 3, [(10, 25)], [[6123]], 0, 0, 0, 32) else mm_nop)) else (bif Nat.ble 31 pc then (.aload_n 0, 1, [], [], 0, 0, 0, 31) else (.iaload, 1, [], [], 0, 0, 0, 30))) else (bif Nat.ble 26 pc then
  (bif Nat.ble 29 pc then (.iload_n 2, 1, [], [], 2, 0, 0, 29) else (bif Nat.beq 26 pc then (.getfield 81, 3, [(10, 25)], [[6123]], 0, 0, 0, 26) else mm_nop)) else (.aload_n 0, 1, [], [], 0, 0, 0, 25)))) else (bif Nat.ble 13 pc then
  (bif Nat.ble 19 pc then
  (bif Nat.ble 21 pc then
  (bif Nat.ble 24 pc then (.aload_n 0, 1, [], [], 0, 0, 0, 24) else (bif Nat.beq 21 pc then (.invokevirtual 252, 3, [(10, 194)], [[7154, 7156, 1031, 2015]], 1, 0, 0, 21) else mm_nop)) else (bif Nat.ble 20 pc then (.iload_n 1, 1, [], [], 1, 0, 0, 20) else (.aload_n 0, 1, [], [], 0, 0, 0, 19))) else (bif Nat.ble 16 pc then
  (bif Nat.ble 18 pc then (.ireturn, 1, [], [], 0, 0, 0, 18) else (bif Nat.beq 16 pc then (.bipush (-2), 2, [], [], 0, (-2), 0, 16) else mm_nop)) else (bif Nat.beq 13 pc then (.ifCond .ne 6, 3, [(0, 19)], [], 0, 0, 0, 13) else mm_nop))) else (bif Nat.ble 5 pc then
  (bif Nat.ble 9 pc then
  (bif Nat.ble 10 pc then
  (bif Nat.beq 10 pc then (.invokevirtual 219, 3, [(10, 183)], [[7123, 7125, 1027, 2015]], 1, 0, 0, 10) else mm_nop) else (.iload_n 2, 1, [], [], 2, 0, 0, 9)) else (bif Nat.ble 8 pc then (.aload_n 0, 1, [], [], 0, 0, 0, 8) else (bif Nat.beq 5 pc then (.ifCond .eq 11, 3, [(0, 16)], [], 0, 0, 0, 5) else mm_nop))) else (bif Nat.ble 1 pc then
  (bif Nat.ble 2 pc then
  (bif Nat.beq 2 pc then (.invokevirtual 236, 3, [(10, 184)], [[7146, 7148, 1030, 2015]], 1, 0, 0, 2) else mm_nop) else (.iload_n 1, 1, [], [], 1, 0, 0, 1)) else (.aload_n 0, 1, [], [], 0, 0, 0, 0)))))
def mm_k195 : List mm_E := (List.range 50).map mm_f195
def mm_m195 : mm_M := (yX12_typeIn, cX12_typeIn, 3, (some .int), mm_k195, 2, 0, 0, 7153)
/-- TypeCopierModel.mark.(I)V -/
def mm_f196 : Nat → mm_E := fun pc => (bif Nat.ble 45 pc then
  (bif Nat.ble 69 pc then
  (bif Nat.ble 82 pc then
  (bif Nat.ble 87 pc then
  (bif Nat.ble 93 pc then
  (bif Nat.ble 96 pc then (.return_, 1, [], [], 0, 0, 0, 96) else (bif Nat.beq 93 pc then (.goto (-49), 3, [(0, 44)], [], 0, 0, 0, 93) else mm_nop)) else (bif Nat.ble 90 pc then
  (bif Nat.beq 90 pc then (.iinc 2 (-1), 3, [], [], 2, (-1), 0, 90) else mm_nop) else (bif Nat.beq 87 pc then (.goto (-37), 3, [(0, 50)], [], 0, 0, 0, 87) else mm_nop))) else (bif Nat.ble 83 pc then
  (bif Nat.ble 84 pc then
  (bif Nat.beq 84 pc then (.iinc 3 1, 3, [], [], 3, 1, 0, 84) else mm_nop) else (.bastore, 1, [], [], 0, 0, 0, 83)) else (.iconst 1, 1, [], [], 0, 1, 0, 82))) else (bif Nat.ble 76 pc then
  (bif Nat.ble 78 pc then
  (bif Nat.ble 79 pc then
  (bif Nat.beq 79 pc then (.invokevirtual 245, 3, [(10, 186)], [[7158, 7160, 1032, 2015]], 2, 0, 0, 79) else mm_nop) else (.iload_n 3, 1, [], [], 3, 0, 0, 78)) else (bif Nat.ble 77 pc then (.iload_n 2, 1, [], [], 2, 0, 0, 77) else (.aload_n 0, 1, [], [], 0, 0, 0, 76))) else (bif Nat.ble 72 pc then
  (bif Nat.ble 73 pc then
  (bif Nat.beq 73 pc then (.getfield 84, 3, [(10, 26)], [[6124]], 0, 0, 0, 73) else mm_nop) else (.aload_n 0, 1, [], [], 0, 0, 0, 72)) else (bif Nat.beq 69 pc then (.ifCond .eq 21, 3, [(0, 90)], [], 0, 0, 0, 69) else mm_nop)))) else (bif Nat.ble 56 pc then
  (bif Nat.ble 63 pc then
  (bif Nat.ble 67 pc then
  (bif Nat.ble 68 pc then (.baload, 1, [], [], 0, 0, 0, 68) else (.iload_n 2, 1, [], [], 2, 0, 0, 67)) else (bif Nat.ble 64 pc then
  (bif Nat.beq 64 pc then (.getfield 84, 3, [(10, 26)], [[6124]], 0, 0, 0, 64) else mm_nop) else (.aload_n 0, 1, [], [], 0, 0, 0, 63))) else (bif Nat.ble 57 pc then
  (bif Nat.ble 60 pc then
  (bif Nat.beq 60 pc then (.if_icmp .ge 30, 3, [(0, 90)], [], 0, 0, 0, 60) else mm_nop) else (bif Nat.beq 57 pc then (.invokestatic 225, 3, [(0, 185)], [[7131, 7132, 2015]], 1, 0, 0, 57) else mm_nop)) else (.iaload, 1, [], [], 0, 0, 0, 56))) else (bif Nat.ble 50 pc then
  (bif Nat.ble 52 pc then
  (bif Nat.ble 55 pc then (.iload_n 2, 1, [], [], 2, 0, 0, 55) else (bif Nat.beq 52 pc then (.getfield 51, 3, [(10, 14)], [[6112]], 0, 0, 0, 52) else mm_nop)) else (bif Nat.ble 51 pc then (.aload_n 0, 1, [], [], 0, 0, 0, 51) else (.iload_n 3, 1, [], [], 3, 0, 0, 50))) else (bif Nat.ble 48 pc then
  (bif Nat.ble 49 pc then (.istore_n 3, 1, [], [], 3, 0, 0, 49) else (.iconst 0, 1, [], [], 0, 0, 0, 48)) else (bif Nat.beq 45 pc then (.ifCond .lt 51, 3, [(0, 96)], [], 0, 0, 0, 45) else mm_nop))))) else (bif Nat.ble 21 pc then
  (bif Nat.ble 34 pc then
  (bif Nat.ble 41 pc then
  (bif Nat.ble 43 pc then
  (bif Nat.ble 44 pc then (.iload_n 2, 1, [], [], 2, 0, 0, 44) else (.istore_n 2, 1, [], [], 2, 0, 0, 43)) else (bif Nat.ble 42 pc then (.isub, 1, [], [], 0, 0, 0, 42) else (.iconst 1, 1, [], [], 0, 1, 0, 41))) else (bif Nat.ble 37 pc then
  (bif Nat.ble 38 pc then
  (bif Nat.beq 38 pc then (.getfield 213, 3, [(10, 13)], [[6111]], 0, 0, 0, 38) else mm_nop) else (.aload_n 0, 1, [], [], 0, 0, 0, 37)) else (bif Nat.beq 34 pc then (.goto (-32), 3, [(0, 2)], [], 0, 0, 0, 34) else mm_nop))) else (bif Nat.ble 26 pc then
  (bif Nat.ble 30 pc then
  (bif Nat.ble 31 pc then
  (bif Nat.beq 31 pc then (.iinc 2 1, 3, [], [], 2, 1, 0, 31) else mm_nop) else (.bastore, 1, [], [], 0, 0, 0, 30)) else (bif Nat.ble 29 pc then (.iconst 0, 1, [], [], 0, 0, 0, 29) else (bif Nat.beq 26 pc then (.goto 4, 3, [(0, 30)], [], 0, 0, 0, 26) else mm_nop))) else (bif Nat.ble 22 pc then
  (bif Nat.ble 25 pc then (.iconst 1, 1, [], [], 0, 1, 0, 25) else (bif Nat.beq 22 pc then (.if_icmp .ne 7, 3, [(0, 29)], [], 0, 0, 0, 22) else mm_nop)) else (.iaload, 1, [], [], 0, 0, 0, 21)))) else (bif Nat.ble 10 pc then
  (bif Nat.ble 15 pc then
  (bif Nat.ble 17 pc then
  (bif Nat.ble 20 pc then (.iload_n 1, 1, [], [], 1, 0, 0, 20) else (bif Nat.beq 17 pc then (.getfield 78, 3, [(10, 24)], [[6122]], 0, 0, 0, 17) else mm_nop)) else (bif Nat.ble 16 pc then (.aload_n 0, 1, [], [], 0, 0, 0, 16) else (.iload_n 2, 1, [], [], 2, 0, 0, 15))) else (bif Nat.ble 11 pc then
  (bif Nat.ble 14 pc then (.iload_n 2, 1, [], [], 2, 0, 0, 14) else (bif Nat.beq 11 pc then (.getfield 84, 3, [(10, 26)], [[6124]], 0, 0, 0, 11) else mm_nop)) else (.aload_n 0, 1, [], [], 0, 0, 0, 10))) else (bif Nat.ble 3 pc then
  (bif Nat.ble 4 pc then
  (bif Nat.ble 7 pc then
  (bif Nat.beq 7 pc then (.if_icmp .ge 30, 3, [(0, 37)], [], 0, 0, 0, 7) else mm_nop) else (bif Nat.beq 4 pc then (.getfield 213, 3, [(10, 13)], [[6111]], 0, 0, 0, 4) else mm_nop)) else (.aload_n 0, 1, [], [], 0, 0, 0, 3)) else (bif Nat.ble 1 pc then
  (bif Nat.ble 2 pc then (.iload_n 2, 1, [], [], 2, 0, 0, 2) else (.istore_n 2, 1, [], [], 2, 0, 0, 1)) else (.iconst 0, 1, [], [], 0, 0, 0, 0))))))
def mm_k196 : List mm_E := (List.range 97).map mm_f196
def mm_m196 : mm_M := (yX12_mark, cX12_mark, 4, none, mm_k196, 1, 0, 0, 7189)
/-- TypeCopierModel.wrong.(I)I -/
def mm_f197 : Nat → mm_E := fun pc => (bif Nat.ble 63 pc then
  (bif Nat.ble 96 pc then
  (bif Nat.ble 112 pc then
  (bif Nat.ble 123 pc then
  (bif Nat.ble 127 pc then
  (bif Nat.ble 130 pc then
  (bif Nat.ble 131 pc then (.ireturn, 1, [], [], 0, 0, 0, 131) else (.iconst (-1), 1, [], [], 0, (-1), 0, 130)) else (bif Nat.beq 127 pc then (.goto (-91), 3, [(0, 36)], [], 0, 0, 0, 127) else mm_nop)) else (bif Nat.ble 124 pc then
  (bif Nat.beq 124 pc then (.iinc 2 1, 3, [], [], 2, 1, 0, 124) else mm_nop) else (.ireturn, 1, [], [], 0, 0, 0, 123))) else (bif Nat.ble 118 pc then
  (bif Nat.ble 119 pc then
  (bif Nat.ble 122 pc then (.iload_n 2, 1, [], [], 2, 0, 0, 122) else (bif Nat.beq 119 pc then (.ifCond .eq 5, 3, [(0, 124)], [], 0, 0, 0, 119) else mm_nop)) else (.iload_n 3, 1, [], [], 3, 0, 0, 118)) else (bif Nat.ble 115 pc then
  (bif Nat.beq 115 pc then (.goto (-43), 3, [(0, 72)], [], 0, 0, 0, 115) else mm_nop) else (bif Nat.beq 112 pc then (.iinc 4 1, 3, [], [], 4, 1, 0, 112) else mm_nop)))) else (bif Nat.ble 103 pc then
  (bif Nat.ble 107 pc then
  (bif Nat.ble 110 pc then
  (bif Nat.ble 111 pc then (.istore_n 3, 1, [], [], 3, 0, 0, 111) else (.iconst 0, 1, [], [], 0, 0, 0, 110)) else (bif Nat.beq 107 pc then (.goto 4, 3, [(0, 111)], [], 0, 0, 0, 107) else mm_nop)) else (bif Nat.ble 106 pc then (.iconst 1, 1, [], [], 0, 1, 0, 106) else (bif Nat.beq 103 pc then (.if_icmp .eq 7, 3, [(0, 110)], [], 0, 0, 0, 103) else mm_nop))) else (bif Nat.ble 101 pc then
  (bif Nat.ble 102 pc then (.iconst (-1), 1, [], [], 0, (-1), 0, 102) else (.iaload, 1, [], [], 0, 0, 0, 101)) else (bif Nat.ble 98 pc then
  (bif Nat.beq 98 pc then (.invokevirtual 245, 3, [(10, 186)], [[7158, 7160, 1032, 2015]], 2, 0, 0, 98) else mm_nop) else (bif Nat.beq 96 pc then (.iload 4, 2, [], [], 4, 0, 0, 96) else mm_nop))))) else (bif Nat.ble 78 pc then
  (bif Nat.ble 87 pc then
  (bif Nat.ble 91 pc then
  (bif Nat.ble 94 pc then
  (bif Nat.ble 95 pc then (.iload_n 2, 1, [], [], 2, 0, 0, 95) else (.aload_n 0, 1, [], [], 0, 0, 0, 94)) else (bif Nat.beq 91 pc then (.getfield 81, 3, [(10, 25)], [[6123]], 0, 0, 0, 91) else mm_nop)) else (bif Nat.ble 90 pc then (.aload_n 0, 1, [], [], 0, 0, 0, 90) else (bif Nat.beq 87 pc then (.ifCond .eq 23, 3, [(0, 110)], [], 0, 0, 0, 87) else mm_nop))) else (bif Nat.ble 80 pc then
  (bif Nat.ble 83 pc then
  (bif Nat.ble 86 pc then (.iload_n 3, 1, [], [], 3, 0, 0, 86) else (bif Nat.beq 83 pc then (.if_icmp .ge 35, 3, [(0, 118)], [], 0, 0, 0, 83) else mm_nop)) else (bif Nat.beq 80 pc then (.invokestatic 225, 3, [(0, 185)], [[7131, 7132, 2015]], 1, 0, 0, 80) else mm_nop)) else (bif Nat.ble 79 pc then (.iaload, 1, [], [], 0, 0, 0, 79) else (.iload_n 2, 1, [], [], 2, 0, 0, 78)))) else (bif Nat.ble 69 pc then
  (bif Nat.ble 72 pc then
  (bif Nat.ble 74 pc then
  (bif Nat.ble 75 pc then
  (bif Nat.beq 75 pc then (.getfield 51, 3, [(10, 14)], [[6112]], 0, 0, 0, 75) else mm_nop) else (.aload_n 0, 1, [], [], 0, 0, 0, 74)) else (bif Nat.beq 72 pc then (.iload 4, 2, [], [], 4, 0, 0, 72) else mm_nop)) else (bif Nat.ble 70 pc then
  (bif Nat.beq 70 pc then (.istore 4, 2, [], [], 4, 0, 0, 70) else mm_nop) else (.iconst 0, 1, [], [], 0, 0, 0, 69))) else (bif Nat.ble 67 pc then
  (bif Nat.ble 68 pc then (.istore_n 3, 1, [], [], 3, 0, 0, 68) else (.iconst 0, 1, [], [], 0, 0, 0, 67)) else (bif Nat.ble 64 pc then
  (bif Nat.beq 64 pc then (.goto 4, 3, [(0, 68)], [], 0, 0, 0, 64) else mm_nop) else (.iconst 1, 1, [], [], 0, 1, 0, 63)))))) else (bif Nat.ble 30 pc then
  (bif Nat.ble 45 pc then
  (bif Nat.ble 54 pc then
  (bif Nat.ble 58 pc then
  (bif Nat.ble 59 pc then
  (bif Nat.ble 60 pc then
  (bif Nat.beq 60 pc then (.if_icmp .ne 7, 3, [(0, 67)], [], 0, 0, 0, 60) else mm_nop) else (.iconst (-1), 1, [], [], 0, (-1), 0, 59)) else (.iaload, 1, [], [], 0, 0, 0, 58)) else (bif Nat.ble 57 pc then (.iload_n 2, 1, [], [], 2, 0, 0, 57) else (bif Nat.beq 54 pc then (.getfield 81, 3, [(10, 25)], [[6123]], 0, 0, 0, 54) else mm_nop))) else (bif Nat.ble 49 pc then
  (bif Nat.ble 50 pc then
  (bif Nat.ble 53 pc then (.aload_n 0, 1, [], [], 0, 0, 0, 53) else (bif Nat.beq 50 pc then (.ifCond .eq 17, 3, [(0, 67)], [], 0, 0, 0, 50) else mm_nop)) else (.baload, 1, [], [], 0, 0, 0, 49)) else (bif Nat.ble 48 pc then (.iload_n 2, 1, [], [], 2, 0, 0, 48) else (bif Nat.beq 45 pc then (.getfield 84, 3, [(10, 26)], [[6124]], 0, 0, 0, 45) else mm_nop)))) else (bif Nat.ble 36 pc then
  (bif Nat.ble 38 pc then
  (bif Nat.ble 41 pc then
  (bif Nat.ble 44 pc then (.aload_n 0, 1, [], [], 0, 0, 0, 44) else (bif Nat.beq 41 pc then (.if_icmp .ge 89, 3, [(0, 130)], [], 0, 0, 0, 41) else mm_nop)) else (bif Nat.beq 38 pc then (.getfield 213, 3, [(10, 13)], [[6111]], 0, 0, 0, 38) else mm_nop)) else (bif Nat.ble 37 pc then (.aload_n 0, 1, [], [], 0, 0, 0, 37) else (.iload_n 2, 1, [], [], 2, 0, 0, 36))) else (bif Nat.ble 34 pc then
  (bif Nat.ble 35 pc then (.istore_n 2, 1, [], [], 2, 0, 0, 35) else (.iconst 0, 1, [], [], 0, 0, 0, 34)) else (bif Nat.ble 31 pc then
  (bif Nat.beq 31 pc then (.invokevirtual 259, 3, [(10, 196)], [[7186, 7188, 1038, 2015]], 1, 0, 0, 31) else mm_nop) else (.iload_n 1, 1, [], [], 1, 0, 0, 30))))) else (bif Nat.ble 16 pc then
  (bif Nat.ble 23 pc then
  (bif Nat.ble 25 pc then
  (bif Nat.ble 26 pc then
  (bif Nat.ble 29 pc then (.aload_n 0, 1, [], [], 0, 0, 0, 29) else (bif Nat.beq 26 pc then (.invokevirtual 252, 3, [(10, 194)], [[7154, 7156, 1031, 2015]], 1, 0, 0, 26) else mm_nop)) else (.iload_n 1, 1, [], [], 1, 0, 0, 25)) else (bif Nat.ble 24 pc then (.aload_n 0, 1, [], [], 0, 0, 0, 24) else (.ireturn, 1, [], [], 0, 0, 0, 23))) else (bif Nat.ble 18 pc then
  (bif Nat.ble 21 pc then
  (bif Nat.beq 21 pc then (.bipush (-3), 2, [], [], 0, (-3), 0, 21) else mm_nop) else (bif Nat.beq 18 pc then (.if_icmp .ne 6, 3, [(0, 24)], [], 0, 0, 0, 18) else mm_nop)) else (bif Nat.ble 17 pc then (.iconst (-1), 1, [], [], 0, (-1), 0, 17) else (.iaload, 1, [], [], 0, 0, 0, 16)))) else (bif Nat.ble 8 pc then
  (bif Nat.ble 11 pc then
  (bif Nat.ble 12 pc then
  (bif Nat.ble 15 pc then (.iload_n 1, 1, [], [], 1, 0, 0, 15) else (bif Nat.beq 12 pc then (.getfield 78, 3, [(10, 24)], [[6122]], 0, 0, 0, 12) else mm_nop)) else (.aload_n 0, 1, [], [], 0, 0, 0, 11)) else (bif Nat.ble 10 pc then (.ireturn, 1, [], [], 0, 0, 0, 10) else (bif Nat.beq 8 pc then (.bipush (-2), 2, [], [], 0, (-2), 0, 8) else mm_nop))) else (bif Nat.ble 2 pc then
  (bif Nat.ble 5 pc then
  (bif Nat.beq 5 pc then (.ifCond .ne 6, 3, [(0, 11)], [], 0, 0, 0, 5) else mm_nop) else (bif Nat.beq 2 pc then (.invokevirtual 236, 3, [(10, 184)], [[7146, 7148, 1030, 2015]], 1, 0, 0, 2) else mm_nop)) else (bif Nat.ble 1 pc then (.iload_n 1, 1, [], [], 1, 0, 0, 1) else (.aload_n 0, 1, [], [], 0, 0, 0, 0)))))))
def mm_k197 : List mm_E := (List.range 132).map mm_f197
def mm_m197 : mm_M := (yX12_wrong, cX12_wrong, 5, (some .int), mm_k197, 1, 0, 0, 7185)
/-- TypeCopierModel.findReach.()V -/
def mm_f198 : Nat → mm_E := fun pc => (bif Nat.ble 104 pc then
  (bif Nat.ble 159 pc then
  (bif Nat.ble 185 pc then
  (bif Nat.ble 197 pc then
  (bif Nat.ble 207 pc then
  (bif Nat.ble 213 pc then
  (bif Nat.ble 216 pc then (.return_, 1, [], [], 0, 0, 0, 216) else (bif Nat.beq 213 pc then (.goto (-95), 3, [(0, 118)], [], 0, 0, 0, 213) else mm_nop)) else (bif Nat.ble 210 pc then
  (bif Nat.beq 210 pc then (.iinc 1 1, 3, [], [], 1, 1, 0, 210) else mm_nop) else (bif Nat.beq 207 pc then (.goto (-81), 3, [(0, 126)], [], 0, 0, 0, 207) else mm_nop))) else (bif Nat.ble 201 pc then
  (bif Nat.ble 204 pc then
  (bif Nat.beq 204 pc then (.iinc 2 1, 3, [], [], 2, 1, 0, 204) else mm_nop) else (bif Nat.beq 201 pc then (.goto (-67), 3, [(0, 134)], [], 0, 0, 0, 201) else mm_nop)) else (bif Nat.ble 198 pc then
  (bif Nat.beq 198 pc then (.iinc 3 1, 3, [], [], 3, 1, 0, 198) else mm_nop) else (.bastore, 1, [], [], 0, 0, 0, 197)))) else (bif Nat.ble 189 pc then
  (bif Nat.ble 193 pc then
  (bif Nat.ble 196 pc then (.iconst 0, 1, [], [], 0, 0, 0, 196) else (bif Nat.beq 193 pc then (.goto 4, 3, [(0, 197)], [], 0, 0, 0, 193) else mm_nop)) else (bif Nat.ble 192 pc then (.iconst 1, 1, [], [], 0, 1, 0, 192) else (bif Nat.beq 189 pc then (.ifCond .eq 7, 3, [(0, 196)], [], 0, 0, 0, 189) else mm_nop))) else (bif Nat.ble 187 pc then
  (bif Nat.ble 188 pc then (.baload, 1, [], [], 0, 0, 0, 188) else (.iadd, 1, [], [], 0, 0, 0, 187)) else (bif Nat.ble 186 pc then (.iload_n 3, 1, [], [], 3, 0, 0, 186) else (.imul, 1, [], [], 0, 0, 0, 185))))) else (bif Nat.ble 172 pc then
  (bif Nat.ble 178 pc then
  (bif Nat.ble 182 pc then
  (bif Nat.ble 184 pc then (.iload_n 1, 1, [], [], 1, 0, 0, 184) else (bif Nat.beq 182 pc then (.bipush 12, 2, [], [], 0, 12, 0, 182) else mm_nop)) else (bif Nat.ble 179 pc then
  (bif Nat.beq 179 pc then (.getfield 87, 3, [(10, 27)], [[6125]], 0, 0, 0, 179) else mm_nop) else (.aload_n 0, 1, [], [], 0, 0, 0, 178))) else (bif Nat.ble 174 pc then
  (bif Nat.ble 175 pc then
  (bif Nat.beq 175 pc then (.ifCond .eq 21, 3, [(0, 196)], [], 0, 0, 0, 175) else mm_nop) else (.baload, 1, [], [], 0, 0, 0, 174)) else (bif Nat.ble 173 pc then (.iadd, 1, [], [], 0, 0, 0, 173) else (.iload_n 1, 1, [], [], 1, 0, 0, 172)))) else (bif Nat.ble 165 pc then
  (bif Nat.ble 170 pc then
  (bif Nat.ble 171 pc then (.imul, 1, [], [], 0, 0, 0, 171) else (.iload_n 2, 1, [], [], 2, 0, 0, 170)) else (bif Nat.ble 168 pc then
  (bif Nat.beq 168 pc then (.bipush 12, 2, [], [], 0, 12, 0, 168) else mm_nop) else (bif Nat.beq 165 pc then (.getfield 87, 3, [(10, 27)], [[6125]], 0, 0, 0, 165) else mm_nop))) else (bif Nat.ble 161 pc then
  (bif Nat.ble 164 pc then (.aload_n 0, 1, [], [], 0, 0, 0, 164) else (bif Nat.beq 161 pc then (.ifCond .ne 31, 3, [(0, 192)], [], 0, 0, 0, 161) else mm_nop)) else (bif Nat.ble 160 pc then (.baload, 1, [], [], 0, 0, 0, 160) else (.iadd, 1, [], [], 0, 0, 0, 159)))))) else (bif Nat.ble 134 pc then
  (bif Nat.ble 148 pc then
  (bif Nat.ble 154 pc then
  (bif Nat.ble 157 pc then
  (bif Nat.ble 158 pc then (.iload_n 3, 1, [], [], 3, 0, 0, 158) else (.imul, 1, [], [], 0, 0, 0, 157)) else (bif Nat.ble 156 pc then (.iload_n 2, 1, [], [], 2, 0, 0, 156) else (bif Nat.beq 154 pc then (.bipush 12, 2, [], [], 0, 12, 0, 154) else mm_nop))) else (bif Nat.ble 150 pc then
  (bif Nat.ble 151 pc then
  (bif Nat.beq 151 pc then (.getfield 87, 3, [(10, 27)], [[6125]], 0, 0, 0, 151) else mm_nop) else (.aload_n 0, 1, [], [], 0, 0, 0, 150)) else (bif Nat.ble 149 pc then (.iadd, 1, [], [], 0, 0, 0, 149) else (.iload_n 3, 1, [], [], 3, 0, 0, 148)))) else (bif Nat.ble 141 pc then
  (bif Nat.ble 146 pc then
  (bif Nat.ble 147 pc then (.imul, 1, [], [], 0, 0, 0, 147) else (.iload_n 2, 1, [], [], 2, 0, 0, 146)) else (bif Nat.ble 144 pc then
  (bif Nat.beq 144 pc then (.bipush 12, 2, [], [], 0, 12, 0, 144) else mm_nop) else (bif Nat.beq 141 pc then (.getfield 87, 3, [(10, 27)], [[6125]], 0, 0, 0, 141) else mm_nop))) else (bif Nat.ble 137 pc then
  (bif Nat.ble 140 pc then (.aload_n 0, 1, [], [], 0, 0, 0, 140) else (bif Nat.beq 137 pc then (.if_icmp .ge 67, 3, [(0, 204)], [], 0, 0, 0, 137) else mm_nop)) else (bif Nat.ble 135 pc then
  (bif Nat.beq 135 pc then (.bipush 12, 2, [], [], 0, 12, 0, 135) else mm_nop) else (.iload_n 3, 1, [], [], 3, 0, 0, 134))))) else (bif Nat.ble 121 pc then
  (bif Nat.ble 127 pc then
  (bif Nat.ble 132 pc then
  (bif Nat.ble 133 pc then (.istore_n 3, 1, [], [], 3, 0, 0, 133) else (.iconst 0, 1, [], [], 0, 0, 0, 132)) else (bif Nat.ble 129 pc then
  (bif Nat.beq 129 pc then (.if_icmp .ge 81, 3, [(0, 210)], [], 0, 0, 0, 129) else mm_nop) else (bif Nat.beq 127 pc then (.bipush 12, 2, [], [], 0, 12, 0, 127) else mm_nop))) else (bif Nat.ble 125 pc then
  (bif Nat.ble 126 pc then (.iload_n 2, 1, [], [], 2, 0, 0, 126) else (.istore_n 2, 1, [], [], 2, 0, 0, 125)) else (bif Nat.ble 124 pc then (.iconst 0, 1, [], [], 0, 0, 0, 124) else (bif Nat.beq 121 pc then (.if_icmp .ge 95, 3, [(0, 216)], [], 0, 0, 0, 121) else mm_nop)))) else (bif Nat.ble 116 pc then
  (bif Nat.ble 118 pc then
  (bif Nat.ble 119 pc then
  (bif Nat.beq 119 pc then (.bipush 12, 2, [], [], 0, 12, 0, 119) else mm_nop) else (.iload_n 1, 1, [], [], 1, 0, 0, 118)) else (bif Nat.ble 117 pc then (.istore_n 1, 1, [], [], 1, 0, 0, 117) else (.iconst 0, 1, [], [], 0, 0, 0, 116))) else (bif Nat.ble 110 pc then
  (bif Nat.ble 113 pc then
  (bif Nat.beq 113 pc then (.goto (-111), 3, [(0, 2)], [], 0, 0, 0, 113) else mm_nop) else (bif Nat.beq 110 pc then (.iinc 1 1, 3, [], [], 1, 1, 0, 110) else mm_nop)) else (bif Nat.ble 107 pc then
  (bif Nat.beq 107 pc then (.goto (-48), 3, [(0, 59)], [], 0, 0, 0, 107) else mm_nop) else (bif Nat.beq 104 pc then (.iinc 2 1, 3, [], [], 2, 1, 0, 104) else mm_nop))))))) else (bif Nat.ble 52 pc then
  (bif Nat.ble 80 pc then
  (bif Nat.ble 94 pc then
  (bif Nat.ble 100 pc then
  (bif Nat.ble 102 pc then
  (bif Nat.ble 103 pc then (.bastore, 1, [], [], 0, 0, 0, 103) else (.iconst 1, 1, [], [], 0, 1, 0, 102)) else (bif Nat.ble 101 pc then (.iadd, 1, [], [], 0, 0, 0, 101) else (.iaload, 1, [], [], 0, 0, 0, 100))) else (bif Nat.ble 96 pc then
  (bif Nat.ble 99 pc then (.iload_n 2, 1, [], [], 2, 0, 0, 99) else (bif Nat.beq 96 pc then (.getfield 54, 3, [(10, 15)], [[6113]], 0, 0, 0, 96) else mm_nop)) else (bif Nat.ble 95 pc then (.aload_n 0, 1, [], [], 0, 0, 0, 95) else (.imul, 1, [], [], 0, 0, 0, 94)))) else (bif Nat.ble 87 pc then
  (bif Nat.ble 91 pc then
  (bif Nat.ble 93 pc then (.iload_n 1, 1, [], [], 1, 0, 0, 93) else (bif Nat.beq 91 pc then (.bipush 12, 2, [], [], 0, 12, 0, 91) else mm_nop)) else (bif Nat.ble 88 pc then
  (bif Nat.beq 88 pc then (.getfield 87, 3, [(10, 27)], [[6125]], 0, 0, 0, 88) else mm_nop) else (.aload_n 0, 1, [], [], 0, 0, 0, 87))) else (bif Nat.ble 82 pc then
  (bif Nat.ble 84 pc then
  (bif Nat.beq 84 pc then (.if_icmp .ne 20, 3, [(0, 104)], [], 0, 0, 0, 84) else mm_nop) else (bif Nat.beq 82 pc then (.bipush 14, 2, [], [], 0, 14, 0, 82) else mm_nop)) else (bif Nat.ble 81 pc then (.iaload, 1, [], [], 0, 0, 0, 81) else (.iload_n 2, 1, [], [], 2, 0, 0, 80))))) else (bif Nat.ble 64 pc then
  (bif Nat.ble 72 pc then
  (bif Nat.ble 76 pc then
  (bif Nat.ble 77 pc then
  (bif Nat.beq 77 pc then (.getfield 51, 3, [(10, 14)], [[6112]], 0, 0, 0, 77) else mm_nop) else (.aload_n 0, 1, [], [], 0, 0, 0, 76)) else (bif Nat.ble 73 pc then
  (bif Nat.beq 73 pc then (.ifCond .eq 31, 3, [(0, 104)], [], 0, 0, 0, 73) else mm_nop) else (.baload, 1, [], [], 0, 0, 0, 72))) else (bif Nat.ble 68 pc then
  (bif Nat.ble 71 pc then (.iload_n 2, 1, [], [], 2, 0, 0, 71) else (bif Nat.beq 68 pc then (.getfield 84, 3, [(10, 26)], [[6124]], 0, 0, 0, 68) else mm_nop)) else (bif Nat.ble 67 pc then (.aload_n 0, 1, [], [], 0, 0, 0, 67) else (bif Nat.beq 64 pc then (.if_icmp .ge 46, 3, [(0, 110)], [], 0, 0, 0, 64) else mm_nop)))) else (bif Nat.ble 58 pc then
  (bif Nat.ble 60 pc then
  (bif Nat.ble 61 pc then
  (bif Nat.beq 61 pc then (.getfield 213, 3, [(10, 13)], [[6111]], 0, 0, 0, 61) else mm_nop) else (.aload_n 0, 1, [], [], 0, 0, 0, 60)) else (bif Nat.ble 59 pc then (.iload_n 2, 1, [], [], 2, 0, 0, 59) else (.istore_n 2, 1, [], [], 2, 0, 0, 58))) else (bif Nat.ble 54 pc then
  (bif Nat.ble 57 pc then (.iconst 0, 1, [], [], 0, 0, 0, 57) else (bif Nat.beq 54 pc then (.invokevirtual 259, 3, [(10, 196)], [[7186, 7188, 1038, 2015]], 1, 0, 0, 54) else mm_nop)) else (bif Nat.ble 53 pc then (.iload_n 1, 1, [], [], 1, 0, 0, 53) else (.aload_n 0, 1, [], [], 0, 0, 0, 52)))))) else (bif Nat.ble 24 pc then
  (bif Nat.ble 36 pc then
  (bif Nat.ble 46 pc then
  (bif Nat.ble 48 pc then
  (bif Nat.ble 49 pc then
  (bif Nat.beq 49 pc then (.if_icmp .eq 61, 3, [(0, 110)], [], 0, 0, 0, 49) else mm_nop) else (.iconst (-1), 1, [], [], 0, (-1), 0, 48)) else (bif Nat.ble 47 pc then (.iaload, 1, [], [], 0, 0, 0, 47) else (.iload_n 1, 1, [], [], 1, 0, 0, 46))) else (bif Nat.ble 42 pc then
  (bif Nat.ble 43 pc then
  (bif Nat.beq 43 pc then (.getfield 78, 3, [(10, 24)], [[6122]], 0, 0, 0, 43) else mm_nop) else (.aload_n 0, 1, [], [], 0, 0, 0, 42)) else (bif Nat.ble 39 pc then
  (bif Nat.beq 39 pc then (.ifCond .eq 71, 3, [(0, 110)], [], 0, 0, 0, 39) else mm_nop) else (bif Nat.beq 36 pc then (.invokevirtual 236, 3, [(10, 184)], [[7146, 7148, 1030, 2015]], 1, 0, 0, 36) else mm_nop)))) else (bif Nat.ble 28 pc then
  (bif Nat.ble 34 pc then
  (bif Nat.ble 35 pc then (.iload_n 1, 1, [], [], 1, 0, 0, 35) else (.aload_n 0, 1, [], [], 0, 0, 0, 34)) else (bif Nat.ble 31 pc then
  (bif Nat.beq 31 pc then (.goto (-21), 3, [(0, 10)], [], 0, 0, 0, 31) else mm_nop) else (bif Nat.beq 28 pc then (.iinc 2 1, 3, [], [], 2, 1, 0, 28) else mm_nop))) else (bif Nat.ble 26 pc then
  (bif Nat.ble 27 pc then (.bastore, 1, [], [], 0, 0, 0, 27) else (.iconst 0, 1, [], [], 0, 0, 0, 26)) else (bif Nat.ble 25 pc then (.iadd, 1, [], [], 0, 0, 0, 25) else (.iload_n 2, 1, [], [], 2, 0, 0, 24))))) else (bif Nat.ble 10 pc then
  (bif Nat.ble 17 pc then
  (bif Nat.ble 22 pc then
  (bif Nat.ble 23 pc then (.imul, 1, [], [], 0, 0, 0, 23) else (.iload_n 1, 1, [], [], 1, 0, 0, 22)) else (bif Nat.ble 20 pc then
  (bif Nat.beq 20 pc then (.bipush 12, 2, [], [], 0, 12, 0, 20) else mm_nop) else (bif Nat.beq 17 pc then (.getfield 87, 3, [(10, 27)], [[6125]], 0, 0, 0, 17) else mm_nop))) else (bif Nat.ble 13 pc then
  (bif Nat.ble 16 pc then (.aload_n 0, 1, [], [], 0, 0, 0, 16) else (bif Nat.beq 13 pc then (.if_icmp .ge 21, 3, [(0, 34)], [], 0, 0, 0, 13) else mm_nop)) else (bif Nat.ble 11 pc then
  (bif Nat.beq 11 pc then (.bipush 12, 2, [], [], 0, 12, 0, 11) else mm_nop) else (.iload_n 2, 1, [], [], 2, 0, 0, 10)))) else (bif Nat.ble 3 pc then
  (bif Nat.ble 8 pc then
  (bif Nat.ble 9 pc then (.istore_n 2, 1, [], [], 2, 0, 0, 9) else (.iconst 0, 1, [], [], 0, 0, 0, 8)) else (bif Nat.ble 5 pc then
  (bif Nat.beq 5 pc then (.if_icmp .ge 111, 3, [(0, 116)], [], 0, 0, 0, 5) else mm_nop) else (bif Nat.beq 3 pc then (.bipush 12, 2, [], [], 0, 12, 0, 3) else mm_nop))) else (bif Nat.ble 1 pc then
  (bif Nat.ble 2 pc then (.iload_n 1, 1, [], [], 1, 0, 0, 2) else (.istore_n 1, 1, [], [], 1, 0, 0, 1)) else (.iconst 0, 1, [], [], 0, 0, 0, 0)))))))
def mm_k198 : List mm_E := (List.range 217).map mm_f198
def mm_m198 : mm_M := (yX12_findReach, cX12_findReach, 4, none, mm_k198, 0, 0, 0, 7197)
/-- TypeCopierModel.reaches.(II)I -/
def mm_f199 : Nat → mm_E := fun pc => (bif Nat.ble 23 pc then
  (bif Nat.ble 32 pc then
  (bif Nat.ble 37 pc then
  (bif Nat.ble 41 pc then
  (bif Nat.ble 42 pc then (.ireturn, 1, [], [], 0, 0, 0, 42) else (.iconst 0, 1, [], [], 0, 0, 0, 41)) else (bif Nat.ble 38 pc then
  (bif Nat.beq 38 pc then (.goto 4, 3, [(0, 42)], [], 0, 0, 0, 38) else mm_nop) else (.iconst 1, 1, [], [], 0, 1, 0, 37))) else (bif Nat.ble 33 pc then
  (bif Nat.ble 34 pc then
  (bif Nat.beq 34 pc then (.ifCond .eq 7, 3, [(0, 41)], [], 0, 0, 0, 34) else mm_nop) else (.baload, 1, [], [], 0, 0, 0, 33)) else (.iadd, 1, [], [], 0, 0, 0, 32))) else (bif Nat.ble 29 pc then
  (bif Nat.ble 30 pc then
  (bif Nat.ble 31 pc then (.iload_n 2, 1, [], [], 2, 0, 0, 31) else (.imul, 1, [], [], 0, 0, 0, 30)) else (.iload_n 1, 1, [], [], 1, 0, 0, 29)) else (bif Nat.ble 24 pc then
  (bif Nat.ble 27 pc then
  (bif Nat.beq 27 pc then (.bipush 12, 2, [], [], 0, 12, 0, 27) else mm_nop) else (bif Nat.beq 24 pc then (.getfield 87, 3, [(10, 27)], [[6125]], 0, 0, 0, 24) else mm_nop)) else (.aload_n 0, 1, [], [], 0, 0, 0, 23)))) else (bif Nat.ble 10 pc then
  (bif Nat.ble 18 pc then
  (bif Nat.ble 19 pc then
  (bif Nat.ble 20 pc then
  (bif Nat.beq 20 pc then (.invokevirtual 262, 3, [(10, 198)], [[7194, 7196, 1039, 2015]], 0, 0, 0, 20) else mm_nop) else (.aload_n 0, 1, [], [], 0, 0, 0, 19)) else (.ireturn, 1, [], [], 0, 0, 0, 18)) else (bif Nat.ble 13 pc then
  (bif Nat.ble 16 pc then
  (bif Nat.beq 16 pc then (.bipush (-2), 2, [], [], 0, (-2), 0, 16) else mm_nop) else (bif Nat.beq 13 pc then (.ifCond .ne 6, 3, [(0, 19)], [], 0, 0, 0, 13) else mm_nop)) else (bif Nat.beq 10 pc then (.invokevirtual 236, 3, [(10, 184)], [[7146, 7148, 1030, 2015]], 1, 0, 0, 10) else mm_nop))) else (bif Nat.ble 5 pc then
  (bif Nat.ble 8 pc then
  (bif Nat.ble 9 pc then (.iload_n 2, 1, [], [], 2, 0, 0, 9) else (.aload_n 0, 1, [], [], 0, 0, 0, 8)) else (bif Nat.beq 5 pc then (.ifCond .eq 11, 3, [(0, 16)], [], 0, 0, 0, 5) else mm_nop)) else (bif Nat.ble 1 pc then
  (bif Nat.ble 2 pc then
  (bif Nat.beq 2 pc then (.invokevirtual 236, 3, [(10, 184)], [[7146, 7148, 1030, 2015]], 1, 0, 0, 2) else mm_nop) else (.iload_n 1, 1, [], [], 1, 0, 0, 1)) else (.aload_n 0, 1, [], [], 0, 0, 0, 0)))))
def mm_k199 : List mm_E := (List.range 43).map mm_f199
def mm_m199 : mm_M := (yX12_reaches, cX12_reaches, 3, (some .int), mm_k199, 2, 0, 0, 7193)
/-- TypeCopierModel.isUsed.(I)Z -/
def mm_f200 : Nat → mm_E := fun pc => (bif Nat.ble 9 pc then
  (bif Nat.ble 14 pc then
  (bif Nat.ble 17 pc then
  (bif Nat.ble 18 pc then (.ireturn, 1, [], [], 0, 0, 0, 18) else (.iconst 0, 1, [], [], 0, 0, 0, 17)) else (bif Nat.beq 14 pc then (.goto 4, 3, [(0, 18)], [], 0, 0, 0, 14) else mm_nop)) else (bif Nat.ble 10 pc then
  (bif Nat.ble 13 pc then (.iconst 1, 1, [], [], 0, 1, 0, 13) else (bif Nat.beq 10 pc then (.ifCond .eq 7, 3, [(0, 17)], [], 0, 0, 0, 10) else mm_nop)) else (.baload, 1, [], [], 0, 0, 0, 9))) else (bif Nat.ble 4 pc then
  (bif Nat.ble 5 pc then
  (bif Nat.ble 8 pc then (.iload_n 1, 1, [], [], 1, 0, 0, 8) else (bif Nat.beq 5 pc then (.getfield 87, 3, [(10, 27)], [[6125]], 0, 0, 0, 5) else mm_nop)) else (.aload_n 0, 1, [], [], 0, 0, 0, 4)) else (bif Nat.ble 1 pc then
  (bif Nat.beq 1 pc then (.ifCond .eq 12, 3, [(0, 13)], [], 0, 0, 0, 1) else mm_nop) else (.iload_n 1, 1, [], [], 1, 0, 0, 0))))
def mm_k200 : List mm_E := (List.range 19).map mm_f200
def mm_m200 : mm_M := (yX12_isUsed, cX12_isUsed, 2, (some .boolean), mm_k200, 1, 0, 0, 7205)
/-- TypeCopierModel.isRegular.(I)Z -/
def mm_f201 : Nat → mm_E := fun pc => (bif Nat.ble 66 pc then
  (bif Nat.ble 102 pc then
  (bif Nat.ble 118 pc then
  (bif Nat.ble 127 pc then
  (bif Nat.ble 132 pc then
  (bif Nat.ble 135 pc then
  (bif Nat.ble 136 pc then (.ireturn, 1, [], [], 0, 0, 0, 136) else (.iconst 1, 1, [], [], 0, 1, 0, 135)) else (bif Nat.beq 132 pc then (.goto (-125), 3, [(0, 7)], [], 0, 0, 0, 132) else mm_nop)) else (bif Nat.ble 128 pc then
  (bif Nat.ble 129 pc then
  (bif Nat.beq 129 pc then (.iinc 2 1, 3, [], [], 2, 1, 0, 129) else mm_nop) else (.ireturn, 1, [], [], 0, 0, 0, 128)) else (.iconst 0, 1, [], [], 0, 0, 0, 127))) else (bif Nat.ble 122 pc then
  (bif Nat.ble 123 pc then
  (bif Nat.ble 124 pc then
  (bif Nat.beq 124 pc then (.if_icmp .eq 5, 3, [(0, 129)], [], 0, 0, 0, 124) else mm_nop) else (.iconst 3, 1, [], [], 0, 3, 0, 123)) else (.iaload, 1, [], [], 0, 0, 0, 122)) else (bif Nat.ble 121 pc then (.iload_n 2, 1, [], [], 2, 0, 0, 121) else (bif Nat.beq 118 pc then (.getfield 63, 3, [(10, 18)], [[6116]], 0, 0, 0, 118) else mm_nop)))) else (bif Nat.ble 111 pc then
  (bif Nat.ble 113 pc then
  (bif Nat.ble 114 pc then
  (bif Nat.ble 117 pc then (.aload_n 0, 1, [], [], 0, 0, 0, 117) else (bif Nat.beq 114 pc then (.if_icmp .le 15, 3, [(0, 129)], [], 0, 0, 0, 114) else mm_nop)) else (.iconst 1, 1, [], [], 0, 1, 0, 113)) else (bif Nat.ble 112 pc then (.iaload, 1, [], [], 0, 0, 0, 112) else (.iload_n 3, 1, [], [], 3, 0, 0, 111))) else (bif Nat.ble 104 pc then
  (bif Nat.ble 107 pc then
  (bif Nat.ble 108 pc then
  (bif Nat.beq 108 pc then (.getfield 69, 3, [(10, 21)], [[6119]], 0, 0, 0, 108) else mm_nop) else (.aload_n 0, 1, [], [], 0, 0, 0, 107)) else (bif Nat.beq 104 pc then (.if_icmp .ne 23, 3, [(0, 127)], [], 0, 0, 0, 104) else mm_nop)) else (bif Nat.ble 103 pc then (.iconst 2, 1, [], [], 0, 2, 0, 103) else (.iaload, 1, [], [], 0, 0, 0, 102))))) else (bif Nat.ble 84 pc then
  (bif Nat.ble 93 pc then
  (bif Nat.ble 97 pc then
  (bif Nat.ble 98 pc then
  (bif Nat.ble 101 pc then (.iload_n 2, 1, [], [], 2, 0, 0, 101) else (bif Nat.beq 98 pc then (.getfield 60, 3, [(10, 17)], [[6115]], 0, 0, 0, 98) else mm_nop)) else (.aload_n 0, 1, [], [], 0, 0, 0, 97)) else (bif Nat.ble 94 pc then
  (bif Nat.beq 94 pc then (.ifCond .le 13, 3, [(0, 107)], [], 0, 0, 0, 94) else mm_nop) else (.iaload, 1, [], [], 0, 0, 0, 93))) else (bif Nat.ble 88 pc then
  (bif Nat.ble 89 pc then
  (bif Nat.ble 92 pc then (.iload_n 3, 1, [], [], 3, 0, 0, 92) else (bif Nat.beq 89 pc then (.getfield 69, 3, [(10, 21)], [[6119]], 0, 0, 0, 89) else mm_nop)) else (.aload_n 0, 1, [], [], 0, 0, 0, 88)) else (bif Nat.ble 85 pc then
  (bif Nat.beq 85 pc then (.if_icmp .gt 42, 3, [(0, 127)], [], 0, 0, 0, 85) else mm_nop) else (.iaload, 1, [], [], 0, 0, 0, 84)))) else (bif Nat.ble 77 pc then
  (bif Nat.ble 79 pc then
  (bif Nat.ble 80 pc then
  (bif Nat.ble 83 pc then (.iload_n 1, 1, [], [], 1, 0, 0, 83) else (bif Nat.beq 80 pc then (.getfield 69, 3, [(10, 21)], [[6119]], 0, 0, 0, 80) else mm_nop)) else (.aload_n 0, 1, [], [], 0, 0, 0, 79)) else (bif Nat.ble 78 pc then (.iaload, 1, [], [], 0, 0, 0, 78) else (.iload_n 3, 1, [], [], 3, 0, 0, 77))) else (bif Nat.ble 70 pc then
  (bif Nat.ble 73 pc then
  (bif Nat.ble 74 pc then
  (bif Nat.beq 74 pc then (.getfield 69, 3, [(10, 21)], [[6119]], 0, 0, 0, 74) else mm_nop) else (.aload_n 0, 1, [], [], 0, 0, 0, 73)) else (bif Nat.beq 70 pc then (.ifCond .eq 59, 3, [(0, 129)], [], 0, 0, 0, 70) else mm_nop)) else (bif Nat.ble 68 pc then
  (bif Nat.beq 68 pc then (.iload 4, 2, [], [], 4, 0, 0, 68) else mm_nop) else (bif Nat.beq 66 pc then (.istore 4, 2, [], [], 4, 0, 0, 66) else mm_nop)))))) else (bif Nat.ble 35 pc then
  (bif Nat.ble 51 pc then
  (bif Nat.ble 57 pc then
  (bif Nat.ble 61 pc then
  (bif Nat.ble 62 pc then
  (bif Nat.ble 65 pc then (.iconst 0, 1, [], [], 0, 0, 0, 65) else (bif Nat.beq 62 pc then (.goto 4, 3, [(0, 66)], [], 0, 0, 0, 62) else mm_nop)) else (.iconst 1, 1, [], [], 0, 1, 0, 61)) else (bif Nat.ble 58 pc then
  (bif Nat.beq 58 pc then (.ifCond .eq 7, 3, [(0, 65)], [], 0, 0, 0, 58) else mm_nop) else (.baload, 1, [], [], 0, 0, 0, 57))) else (bif Nat.ble 54 pc then
  (bif Nat.ble 55 pc then
  (bif Nat.ble 56 pc then (.iadd, 1, [], [], 0, 0, 0, 56) else (.iload_n 1, 1, [], [], 1, 0, 0, 55)) else (.imul, 1, [], [], 0, 0, 0, 54)) else (bif Nat.ble 53 pc then (.iload_n 3, 1, [], [], 3, 0, 0, 53) else (bif Nat.beq 51 pc then (.bipush 12, 2, [], [], 0, 12, 0, 51) else mm_nop)))) else (bif Nat.ble 42 pc then
  (bif Nat.ble 44 pc then
  (bif Nat.ble 47 pc then
  (bif Nat.ble 48 pc then
  (bif Nat.beq 48 pc then (.getfield 87, 3, [(10, 27)], [[6125]], 0, 0, 0, 48) else mm_nop) else (.aload_n 0, 1, [], [], 0, 0, 0, 47)) else (bif Nat.beq 44 pc then (.if_icmp .eq 17, 3, [(0, 61)], [], 0, 0, 0, 44) else mm_nop)) else (bif Nat.ble 43 pc then (.iload_n 1, 1, [], [], 1, 0, 0, 43) else (.iload_n 3, 1, [], [], 3, 0, 0, 42))) else (bif Nat.ble 39 pc then
  (bif Nat.ble 40 pc then
  (bif Nat.ble 41 pc then (.istore_n 3, 1, [], [], 3, 0, 0, 41) else (.iaload, 1, [], [], 0, 0, 0, 40)) else (.iload_n 2, 1, [], [], 2, 0, 0, 39)) else (bif Nat.ble 36 pc then
  (bif Nat.beq 36 pc then (.getfield 54, 3, [(10, 15)], [[6113]], 0, 0, 0, 36) else mm_nop) else (.aload_n 0, 1, [], [], 0, 0, 0, 35))))) else (bif Nat.ble 16 pc then
  (bif Nat.ble 25 pc then
  (bif Nat.ble 29 pc then
  (bif Nat.ble 30 pc then
  (bif Nat.ble 32 pc then
  (bif Nat.beq 32 pc then (.if_icmp .ne 97, 3, [(0, 129)], [], 0, 0, 0, 32) else mm_nop) else (bif Nat.beq 30 pc then (.bipush 14, 2, [], [], 0, 14, 0, 30) else mm_nop)) else (.iaload, 1, [], [], 0, 0, 0, 29)) else (bif Nat.ble 28 pc then (.iload_n 2, 1, [], [], 2, 0, 0, 28) else (bif Nat.beq 25 pc then (.getfield 51, 3, [(10, 14)], [[6112]], 0, 0, 0, 25) else mm_nop))) else (bif Nat.ble 20 pc then
  (bif Nat.ble 21 pc then
  (bif Nat.ble 24 pc then (.aload_n 0, 1, [], [], 0, 0, 0, 24) else (bif Nat.beq 21 pc then (.ifCond .eq 108, 3, [(0, 129)], [], 0, 0, 0, 21) else mm_nop)) else (.baload, 1, [], [], 0, 0, 0, 20)) else (bif Nat.ble 19 pc then (.iload_n 2, 1, [], [], 2, 0, 0, 19) else (bif Nat.beq 16 pc then (.getfield 84, 3, [(10, 26)], [[6124]], 0, 0, 0, 16) else mm_nop)))) else (bif Nat.ble 7 pc then
  (bif Nat.ble 9 pc then
  (bif Nat.ble 12 pc then
  (bif Nat.ble 15 pc then (.aload_n 0, 1, [], [], 0, 0, 0, 15) else (bif Nat.beq 12 pc then (.if_icmp .ge 123, 3, [(0, 135)], [], 0, 0, 0, 12) else mm_nop)) else (bif Nat.beq 9 pc then (.getfield 213, 3, [(10, 13)], [[6111]], 0, 0, 0, 9) else mm_nop)) else (bif Nat.ble 8 pc then (.aload_n 0, 1, [], [], 0, 0, 0, 8) else (.iload_n 2, 1, [], [], 2, 0, 0, 7))) else (bif Nat.ble 2 pc then
  (bif Nat.ble 5 pc then
  (bif Nat.ble 6 pc then (.istore_n 2, 1, [], [], 2, 0, 0, 6) else (.iconst 0, 1, [], [], 0, 0, 0, 5)) else (bif Nat.beq 2 pc then (.invokevirtual 259, 3, [(10, 196)], [[7186, 7188, 1038, 2015]], 1, 0, 0, 2) else mm_nop)) else (bif Nat.ble 1 pc then (.iload_n 1, 1, [], [], 1, 0, 0, 1) else (.aload_n 0, 1, [], [], 0, 0, 0, 0)))))))
def mm_k201 : List mm_E := (List.range 137).map mm_f201
def mm_m201 : mm_M := (yX12_isRegular, cX12_isRegular, 5, (some .boolean), mm_k201, 1, 0, 0, 7209)
/-- TypeCopierModel.judge.()I -/
def mm_f202 : Nat → mm_E := fun pc => (bif Nat.ble 75 pc then
  (bif Nat.ble 112 pc then
  (bif Nat.ble 130 pc then
  (bif Nat.ble 141 pc then
  (bif Nat.ble 146 pc then
  (bif Nat.ble 149 pc then
  (bif Nat.ble 150 pc then (.ireturn, 1, [], [], 0, 0, 0, 150) else (.iconst 0, 1, [], [], 0, 0, 0, 149)) else (bif Nat.beq 146 pc then (.goto (-29), 3, [(0, 117)], [], 0, 0, 0, 146) else mm_nop)) else (bif Nat.ble 142 pc then
  (bif Nat.ble 143 pc then
  (bif Nat.beq 143 pc then (.iinc 1 1, 3, [], [], 1, 1, 0, 143) else mm_nop) else (.ireturn, 1, [], [], 0, 0, 0, 142)) else (.iconst 4, 1, [], [], 0, 4, 0, 141))) else (bif Nat.ble 134 pc then
  (bif Nat.ble 135 pc then
  (bif Nat.ble 138 pc then
  (bif Nat.beq 138 pc then (.ifCond .ne 5, 3, [(0, 143)], [], 0, 0, 0, 138) else mm_nop) else (bif Nat.beq 135 pc then (.invokevirtual 268, 3, [(10, 201)], [[7206, 7208, 1041, 2015]], 1, 0, 0, 135) else mm_nop)) else (.iload_n 1, 1, [], [], 1, 0, 0, 134)) else (bif Nat.ble 133 pc then (.aload_n 0, 1, [], [], 0, 0, 0, 133) else (bif Nat.beq 130 pc then (.ifCond .eq 13, 3, [(0, 143)], [], 0, 0, 0, 130) else mm_nop)))) else (bif Nat.ble 119 pc then
  (bif Nat.ble 125 pc then
  (bif Nat.ble 126 pc then
  (bif Nat.ble 127 pc then
  (bif Nat.beq 127 pc then (.invokevirtual 265, 3, [(10, 200)], [[7202, 7204, 1040, 2015]], 1, 0, 0, 127) else mm_nop) else (.iload_n 1, 1, [], [], 1, 0, 0, 126)) else (.aload_n 0, 1, [], [], 0, 0, 0, 125)) else (bif Nat.ble 122 pc then
  (bif Nat.beq 122 pc then (.if_icmp .ge 27, 3, [(0, 149)], [], 0, 0, 0, 122) else mm_nop) else (bif Nat.beq 119 pc then (.getfield 216, 3, [(10, 20)], [[6118]], 0, 0, 0, 119) else mm_nop))) else (bif Nat.ble 116 pc then
  (bif Nat.ble 117 pc then
  (bif Nat.ble 118 pc then (.aload_n 0, 1, [], [], 0, 0, 0, 118) else (.iload_n 1, 1, [], [], 1, 0, 0, 117)) else (.istore_n 1, 1, [], [], 1, 0, 0, 116)) else (bif Nat.ble 115 pc then (.iconst 0, 1, [], [], 0, 0, 0, 115) else (bif Nat.beq 112 pc then (.goto (-46), 3, [(0, 66)], [], 0, 0, 0, 112) else mm_nop))))) else (bif Nat.ble 95 pc then
  (bif Nat.ble 102 pc then
  (bif Nat.ble 107 pc then
  (bif Nat.ble 108 pc then
  (bif Nat.ble 109 pc then
  (bif Nat.beq 109 pc then (.iinc 1 1, 3, [], [], 1, 1, 0, 109) else mm_nop) else (.ireturn, 1, [], [], 0, 0, 0, 108)) else (.iconst 3, 1, [], [], 0, 3, 0, 107)) else (bif Nat.ble 103 pc then
  (bif Nat.ble 104 pc then
  (bif Nat.beq 104 pc then (.if_icmp .eq 5, 3, [(0, 109)], [], 0, 0, 0, 104) else mm_nop) else (.iaload, 1, [], [], 0, 0, 0, 103)) else (.iload_n 1, 1, [], [], 1, 0, 0, 102))) else (bif Nat.ble 97 pc then
  (bif Nat.ble 98 pc then
  (bif Nat.ble 99 pc then
  (bif Nat.beq 99 pc then (.getfield 75, 3, [(10, 23)], [[6121]], 0, 0, 0, 99) else mm_nop) else (.aload_n 0, 1, [], [], 0, 0, 0, 98)) else (.iaload, 1, [], [], 0, 0, 0, 97)) else (bif Nat.ble 96 pc then (.iaload, 1, [], [], 0, 0, 0, 96) else (.iload_n 1, 1, [], [], 1, 0, 0, 95)))) else (bif Nat.ble 84 pc then
  (bif Nat.ble 88 pc then
  (bif Nat.ble 91 pc then
  (bif Nat.ble 92 pc then
  (bif Nat.beq 92 pc then (.getfield 78, 3, [(10, 24)], [[6122]], 0, 0, 0, 92) else mm_nop) else (.aload_n 0, 1, [], [], 0, 0, 0, 91)) else (bif Nat.beq 88 pc then (.getfield 81, 3, [(10, 25)], [[6123]], 0, 0, 0, 88) else mm_nop)) else (bif Nat.ble 87 pc then (.aload_n 0, 1, [], [], 0, 0, 0, 87) else (bif Nat.beq 84 pc then (.invokevirtual 252, 3, [(10, 194)], [[7154, 7156, 1031, 2015]], 1, 0, 0, 84) else mm_nop))) else (bif Nat.ble 79 pc then
  (bif Nat.ble 82 pc then
  (bif Nat.ble 83 pc then (.iload_n 1, 1, [], [], 1, 0, 0, 83) else (.aload_n 0, 1, [], [], 0, 0, 0, 82)) else (bif Nat.beq 79 pc then (.ifCond .eq 30, 3, [(0, 109)], [], 0, 0, 0, 79) else mm_nop)) else (bif Nat.ble 76 pc then
  (bif Nat.beq 76 pc then (.invokevirtual 265, 3, [(10, 200)], [[7202, 7204, 1040, 2015]], 1, 0, 0, 76) else mm_nop) else (.iload_n 1, 1, [], [], 1, 0, 0, 75)))))) else (bif Nat.ble 38 pc then
  (bif Nat.ble 56 pc then
  (bif Nat.ble 65 pc then
  (bif Nat.ble 68 pc then
  (bif Nat.ble 71 pc then
  (bif Nat.ble 74 pc then (.aload_n 0, 1, [], [], 0, 0, 0, 74) else (bif Nat.beq 71 pc then (.if_icmp .ge 44, 3, [(0, 115)], [], 0, 0, 0, 71) else mm_nop)) else (bif Nat.beq 68 pc then (.getfield 216, 3, [(10, 20)], [[6118]], 0, 0, 0, 68) else mm_nop)) else (bif Nat.ble 66 pc then
  (bif Nat.ble 67 pc then (.aload_n 0, 1, [], [], 0, 0, 0, 67) else (.iload_n 1, 1, [], [], 1, 0, 0, 66)) else (.istore_n 1, 1, [], [], 1, 0, 0, 65))) else (bif Nat.ble 58 pc then
  (bif Nat.ble 61 pc then
  (bif Nat.ble 64 pc then (.iconst 0, 1, [], [], 0, 0, 0, 64) else (bif Nat.beq 61 pc then (.goto (-37), 3, [(0, 24)], [], 0, 0, 0, 61) else mm_nop)) else (bif Nat.beq 58 pc then (.iinc 1 1, 3, [], [], 1, 1, 0, 58) else mm_nop)) else (bif Nat.ble 57 pc then (.ireturn, 1, [], [], 0, 0, 0, 57) else (.iconst 2, 1, [], [], 0, 2, 0, 56)))) else (bif Nat.ble 47 pc then
  (bif Nat.ble 51 pc then
  (bif Nat.ble 52 pc then
  (bif Nat.ble 53 pc then
  (bif Nat.beq 53 pc then (.if_icmp .ne 5, 3, [(0, 58)], [], 0, 0, 0, 53) else mm_nop) else (.iconst (-1), 1, [], [], 0, (-1), 0, 52)) else (.iaload, 1, [], [], 0, 0, 0, 51)) else (bif Nat.ble 50 pc then (.iload_n 1, 1, [], [], 1, 0, 0, 50) else (bif Nat.beq 47 pc then (.getfield 78, 3, [(10, 24)], [[6122]], 0, 0, 0, 47) else mm_nop))) else (bif Nat.ble 40 pc then
  (bif Nat.ble 43 pc then
  (bif Nat.ble 46 pc then (.aload_n 0, 1, [], [], 0, 0, 0, 46) else (bif Nat.beq 43 pc then (.ifCond .eq 13, 3, [(0, 56)], [], 0, 0, 0, 43) else mm_nop)) else (bif Nat.beq 40 pc then (.invokevirtual 236, 3, [(10, 184)], [[7146, 7148, 1030, 2015]], 1, 0, 0, 40) else mm_nop)) else (bif Nat.ble 39 pc then (.iload_n 1, 1, [], [], 1, 0, 0, 39) else (.aload_n 0, 1, [], [], 0, 0, 0, 38))))) else (bif Nat.ble 18 pc then
  (bif Nat.ble 25 pc then
  (bif Nat.ble 31 pc then
  (bif Nat.ble 32 pc then
  (bif Nat.ble 35 pc then
  (bif Nat.beq 35 pc then (.ifCond .eq 23, 3, [(0, 58)], [], 0, 0, 0, 35) else mm_nop) else (bif Nat.beq 32 pc then (.invokevirtual 265, 3, [(10, 200)], [[7202, 7204, 1040, 2015]], 1, 0, 0, 32) else mm_nop)) else (.iload_n 1, 1, [], [], 1, 0, 0, 31)) else (bif Nat.ble 27 pc then
  (bif Nat.ble 30 pc then (.aload_n 0, 1, [], [], 0, 0, 0, 30) else (bif Nat.beq 27 pc then (.if_icmp .ge 37, 3, [(0, 64)], [], 0, 0, 0, 27) else mm_nop)) else (bif Nat.beq 25 pc then (.bipush 12, 2, [], [], 0, 12, 0, 25) else mm_nop))) else (bif Nat.ble 22 pc then
  (bif Nat.ble 23 pc then
  (bif Nat.ble 24 pc then (.iload_n 1, 1, [], [], 1, 0, 0, 24) else (.istore_n 1, 1, [], [], 1, 0, 0, 23)) else (.iconst 0, 1, [], [], 0, 0, 0, 22)) else (bif Nat.ble 19 pc then
  (bif Nat.beq 19 pc then (.invokevirtual 262, 3, [(10, 198)], [[7194, 7196, 1039, 2015]], 0, 0, 0, 19) else mm_nop) else (.aload_n 0, 1, [], [], 0, 0, 0, 18)))) else (bif Nat.ble 11 pc then
  (bif Nat.ble 13 pc then
  (bif Nat.ble 16 pc then
  (bif Nat.ble 17 pc then (.ireturn, 1, [], [], 0, 0, 0, 17) else (.iconst 1, 1, [], [], 0, 1, 0, 16)) else (bif Nat.beq 13 pc then (.ifCond .le 5, 3, [(0, 18)], [], 0, 0, 0, 13) else mm_nop)) else (bif Nat.ble 12 pc then (.iaload, 1, [], [], 0, 0, 0, 12) else (.iconst 0, 1, [], [], 0, 0, 0, 11))) else (bif Nat.ble 4 pc then
  (bif Nat.ble 7 pc then
  (bif Nat.ble 8 pc then
  (bif Nat.beq 8 pc then (.getfield 69, 3, [(10, 21)], [[6119]], 0, 0, 0, 8) else mm_nop) else (.aload_n 0, 1, [], [], 0, 0, 0, 7)) else (bif Nat.beq 4 pc then (.ifCond .eq 12, 3, [(0, 16)], [], 0, 0, 0, 4) else mm_nop)) else (bif Nat.ble 1 pc then
  (bif Nat.beq 1 pc then (.getfield 216, 3, [(10, 20)], [[6118]], 0, 0, 0, 1) else mm_nop) else (.aload_n 0, 1, [], [], 0, 0, 0, 0)))))))
def mm_k202 : List mm_E := (List.range 151).map mm_f202
def mm_m202 : mm_M := (yX12_judge, cX12_judge, 2, (some .int), mm_k202, 0, 0, 0, 7201)
/-- TypeCopierModel.findOrder.(I)V -/
def mm_f203 : Nat → mm_E := fun pc => (bif Nat.ble 84 pc then
  (bif Nat.ble 130 pc then
  (bif Nat.ble 153 pc then
  (bif Nat.ble 164 pc then
  (bif Nat.ble 169 pc then
  (bif Nat.ble 175 pc then
  (bif Nat.ble 178 pc then (.return_, 1, [], [], 0, 0, 0, 178) else (bif Nat.beq 175 pc then (.goto (-114), 3, [(0, 61)], [], 0, 0, 0, 175) else mm_nop)) else (bif Nat.ble 172 pc then
  (bif Nat.beq 172 pc then (.iinc 2 (-1), 3, [], [], 2, (-1), 0, 172) else mm_nop) else (bif Nat.beq 169 pc then (.putfield 271, 3, [(10, 36)], [[6134]], 0, 0, 0, 169) else mm_nop))) else (bif Nat.ble 167 pc then
  (bif Nat.ble 168 pc then (.iadd, 1, [], [], 0, 0, 0, 168) else (.iconst 1, 1, [], [], 0, 1, 0, 167)) else (bif Nat.beq 164 pc then (.getfield 271, 3, [(10, 36)], [[6134]], 0, 0, 0, 164) else mm_nop))) else (bif Nat.ble 160 pc then
  (bif Nat.ble 162 pc then
  (bif Nat.ble 163 pc then (.dup, 1, [], [], 0, 0, 0, 163) else (.aload_n 0, 1, [], [], 0, 0, 0, 162)) else (bif Nat.ble 161 pc then (.iastore, 1, [], [], 0, 0, 0, 161) else (.iload_n 3, 1, [], [], 3, 0, 0, 160))) else (bif Nat.ble 156 pc then
  (bif Nat.ble 157 pc then
  (bif Nat.beq 157 pc then (.getfield 271, 3, [(10, 36)], [[6134]], 0, 0, 0, 157) else mm_nop) else (.aload_n 0, 1, [], [], 0, 0, 0, 156)) else (bif Nat.beq 153 pc then (.getfield 108, 3, [(10, 35)], [[6133]], 0, 0, 0, 153) else mm_nop)))) else (bif Nat.ble 142 pc then
  (bif Nat.ble 147 pc then
  (bif Nat.ble 149 pc then
  (bif Nat.ble 152 pc then (.aload_n 0, 1, [], [], 0, 0, 0, 152) else (bif Nat.beq 149 pc then (.goto 26, 3, [(0, 175)], [], 0, 0, 0, 149) else mm_nop)) else (bif Nat.ble 148 pc then (.iastore, 1, [], [], 0, 0, 0, 148) else (.iconst 0, 1, [], [], 0, 0, 0, 147))) else (bif Nat.ble 143 pc then
  (bif Nat.ble 146 pc then (.iload_n 2, 1, [], [], 2, 0, 0, 146) else (bif Nat.beq 143 pc then (.getfield 114, 3, [(10, 38)], [[6136]], 0, 0, 0, 143) else mm_nop)) else (.aload_n 0, 1, [], [], 0, 0, 0, 142))) else (bif Nat.ble 135 pc then
  (bif Nat.ble 139 pc then
  (bif Nat.ble 141 pc then (.iastore, 1, [], [], 0, 0, 0, 141) else (bif Nat.beq 139 pc then (.iload 4, 2, [], [], 4, 0, 0, 139) else mm_nop)) else (bif Nat.ble 138 pc then (.iload_n 2, 1, [], [], 2, 0, 0, 138) else (bif Nat.beq 135 pc then (.getfield 111, 3, [(10, 37)], [[6135]], 0, 0, 0, 135) else mm_nop))) else (bif Nat.ble 131 pc then
  (bif Nat.ble 134 pc then (.aload_n 0, 1, [], [], 0, 0, 0, 134) else (bif Nat.beq 131 pc then (.iinc 2 1, 3, [], [], 2, 1, 0, 131) else mm_nop)) else (.bastore, 1, [], [], 0, 0, 0, 130))))) else (bif Nat.ble 108 pc then
  (bif Nat.ble 117 pc then
  (bif Nat.ble 123 pc then
  (bif Nat.ble 127 pc then
  (bif Nat.ble 129 pc then (.iconst 1, 1, [], [], 0, 1, 0, 129) else (bif Nat.beq 127 pc then (.iload 4, 2, [], [], 4, 0, 0, 127) else mm_nop)) else (bif Nat.ble 124 pc then
  (bif Nat.beq 124 pc then (.getfield 117, 3, [(10, 39)], [[6137]], 0, 0, 0, 124) else mm_nop) else (.aload_n 0, 1, [], [], 0, 0, 0, 123))) else (bif Nat.ble 119 pc then
  (bif Nat.ble 120 pc then
  (bif Nat.beq 120 pc then (.ifCond .ne 29, 3, [(0, 149)], [], 0, 0, 0, 120) else mm_nop) else (.baload, 1, [], [], 0, 0, 0, 119)) else (bif Nat.beq 117 pc then (.iload 4, 2, [], [], 4, 0, 0, 117) else mm_nop))) else (bif Nat.ble 111 pc then
  (bif Nat.ble 113 pc then
  (bif Nat.ble 114 pc then
  (bif Nat.beq 114 pc then (.getfield 117, 3, [(10, 39)], [[6137]], 0, 0, 0, 114) else mm_nop) else (.aload_n 0, 1, [], [], 0, 0, 0, 113)) else (bif Nat.ble 112 pc then (.iastore, 1, [], [], 0, 0, 0, 112) else (.iadd, 1, [], [], 0, 0, 0, 111))) else (bif Nat.ble 109 pc then
  (bif Nat.ble 110 pc then (.iconst 1, 1, [], [], 0, 1, 0, 110) else (.iaload, 1, [], [], 0, 0, 0, 109)) else (.dup2, 1, [], [], 0, 0, 0, 108)))) else (bif Nat.ble 96 pc then
  (bif Nat.ble 101 pc then
  (bif Nat.ble 104 pc then
  (bif Nat.ble 107 pc then (.iload_n 2, 1, [], [], 2, 0, 0, 107) else (bif Nat.beq 104 pc then (.getfield 114, 3, [(10, 38)], [[6136]], 0, 0, 0, 104) else mm_nop)) else (bif Nat.ble 103 pc then (.aload_n 0, 1, [], [], 0, 0, 0, 103) else (bif Nat.beq 101 pc then (.istore 4, 2, [], [], 4, 0, 0, 101) else mm_nop))) else (bif Nat.ble 97 pc then
  (bif Nat.ble 98 pc then
  (bif Nat.beq 98 pc then (.invokevirtual 245, 3, [(10, 186)], [[7158, 7160, 1032, 2015]], 2, 0, 0, 98) else mm_nop) else (.iaload, 1, [], [], 0, 0, 0, 97)) else (.iload_n 2, 1, [], [], 2, 0, 0, 96))) else (bif Nat.ble 91 pc then
  (bif Nat.ble 92 pc then
  (bif Nat.ble 93 pc then
  (bif Nat.beq 93 pc then (.getfield 114, 3, [(10, 38)], [[6136]], 0, 0, 0, 93) else mm_nop) else (.aload_n 0, 1, [], [], 0, 0, 0, 92)) else (.iload_n 3, 1, [], [], 3, 0, 0, 91)) else (bif Nat.ble 87 pc then
  (bif Nat.ble 90 pc then (.aload_n 0, 1, [], [], 0, 0, 0, 90) else (bif Nat.beq 87 pc then (.if_icmp .ge 65, 3, [(0, 152)], [], 0, 0, 0, 87) else mm_nop)) else (bif Nat.beq 84 pc then (.invokestatic 225, 3, [(0, 185)], [[7131, 7132, 2015]], 1, 0, 0, 84) else mm_nop)))))) else (bif Nat.ble 43 pc then
  (bif Nat.ble 62 pc then
  (bif Nat.ble 73 pc then
  (bif Nat.ble 78 pc then
  (bif Nat.ble 82 pc then
  (bif Nat.ble 83 pc then (.iaload, 1, [], [], 0, 0, 0, 83) else (.iload_n 3, 1, [], [], 3, 0, 0, 82)) else (bif Nat.ble 79 pc then
  (bif Nat.beq 79 pc then (.getfield 51, 3, [(10, 14)], [[6112]], 0, 0, 0, 79) else mm_nop) else (.aload_n 0, 1, [], [], 0, 0, 0, 78))) else (bif Nat.ble 76 pc then
  (bif Nat.ble 77 pc then (.iaload, 1, [], [], 0, 0, 0, 77) else (.iload_n 2, 1, [], [], 2, 0, 0, 76)) else (bif Nat.beq 73 pc then (.getfield 114, 3, [(10, 38)], [[6136]], 0, 0, 0, 73) else mm_nop))) else (bif Nat.ble 69 pc then
  (bif Nat.ble 71 pc then
  (bif Nat.ble 72 pc then (.aload_n 0, 1, [], [], 0, 0, 0, 72) else (.istore_n 3, 1, [], [], 3, 0, 0, 71)) else (bif Nat.ble 70 pc then (.iaload, 1, [], [], 0, 0, 0, 70) else (.iload_n 2, 1, [], [], 2, 0, 0, 69))) else (bif Nat.ble 65 pc then
  (bif Nat.ble 66 pc then
  (bif Nat.beq 66 pc then (.getfield 111, 3, [(10, 37)], [[6135]], 0, 0, 0, 66) else mm_nop) else (.aload_n 0, 1, [], [], 0, 0, 0, 65)) else (bif Nat.beq 62 pc then (.ifCond .lt 116, 3, [(0, 178)], [], 0, 0, 0, 62) else mm_nop)))) else (bif Nat.ble 53 pc then
  (bif Nat.ble 58 pc then
  (bif Nat.ble 60 pc then
  (bif Nat.ble 61 pc then (.iload_n 2, 1, [], [], 2, 0, 0, 61) else (.bastore, 1, [], [], 0, 0, 0, 60)) else (bif Nat.ble 59 pc then (.iconst 1, 1, [], [], 0, 1, 0, 59) else (.iaload, 1, [], [], 0, 0, 0, 58))) else (bif Nat.ble 54 pc then
  (bif Nat.ble 57 pc then (.iload_n 1, 1, [], [], 1, 0, 0, 57) else (bif Nat.beq 54 pc then (.getfield 78, 3, [(10, 24)], [[6122]], 0, 0, 0, 54) else mm_nop)) else (.aload_n 0, 1, [], [], 0, 0, 0, 53))) else (bif Nat.ble 48 pc then
  (bif Nat.ble 49 pc then
  (bif Nat.ble 50 pc then
  (bif Nat.beq 50 pc then (.getfield 117, 3, [(10, 39)], [[6137]], 0, 0, 0, 50) else mm_nop) else (.aload_n 0, 1, [], [], 0, 0, 0, 49)) else (.iastore, 1, [], [], 0, 0, 0, 48)) else (bif Nat.ble 46 pc then
  (bif Nat.ble 47 pc then (.iconst 0, 1, [], [], 0, 0, 0, 47) else (.iconst 0, 1, [], [], 0, 0, 0, 46)) else (bif Nat.beq 43 pc then (.getfield 114, 3, [(10, 38)], [[6136]], 0, 0, 0, 43) else mm_nop))))) else (bif Nat.ble 21 pc then
  (bif Nat.ble 34 pc then
  (bif Nat.ble 39 pc then
  (bif Nat.ble 41 pc then
  (bif Nat.ble 42 pc then (.aload_n 0, 1, [], [], 0, 0, 0, 42) else (.iastore, 1, [], [], 0, 0, 0, 41)) else (bif Nat.ble 40 pc then (.iaload, 1, [], [], 0, 0, 0, 40) else (.iload_n 1, 1, [], [], 1, 0, 0, 39))) else (bif Nat.ble 35 pc then
  (bif Nat.ble 36 pc then
  (bif Nat.beq 36 pc then (.getfield 78, 3, [(10, 24)], [[6122]], 0, 0, 0, 36) else mm_nop) else (.aload_n 0, 1, [], [], 0, 0, 0, 35)) else (.iconst 0, 1, [], [], 0, 0, 0, 34))) else (bif Nat.ble 28 pc then
  (bif Nat.ble 30 pc then
  (bif Nat.ble 31 pc then
  (bif Nat.beq 31 pc then (.getfield 111, 3, [(10, 37)], [[6135]], 0, 0, 0, 31) else mm_nop) else (.aload_n 0, 1, [], [], 0, 0, 0, 30)) else (bif Nat.ble 29 pc then (.istore_n 2, 1, [], [], 2, 0, 0, 29) else (.iconst 0, 1, [], [], 0, 0, 0, 28))) else (bif Nat.ble 22 pc then
  (bif Nat.ble 25 pc then
  (bif Nat.beq 25 pc then (.goto (-18), 3, [(0, 7)], [], 0, 0, 0, 25) else mm_nop) else (bif Nat.beq 22 pc then (.iinc 2 1, 3, [], [], 2, 1, 0, 22) else mm_nop)) else (.bastore, 1, [], [], 0, 0, 0, 21)))) else (bif Nat.ble 8 pc then
  (bif Nat.ble 15 pc then
  (bif Nat.ble 19 pc then
  (bif Nat.ble 20 pc then (.iconst 0, 1, [], [], 0, 0, 0, 20) else (.iload_n 2, 1, [], [], 2, 0, 0, 19)) else (bif Nat.ble 16 pc then
  (bif Nat.beq 16 pc then (.getfield 117, 3, [(10, 39)], [[6137]], 0, 0, 0, 16) else mm_nop) else (.aload_n 0, 1, [], [], 0, 0, 0, 15))) else (bif Nat.ble 9 pc then
  (bif Nat.ble 12 pc then
  (bif Nat.beq 12 pc then (.if_icmp .ge 16, 3, [(0, 28)], [], 0, 0, 0, 12) else mm_nop) else (bif Nat.beq 9 pc then (.getfield 213, 3, [(10, 13)], [[6111]], 0, 0, 0, 9) else mm_nop)) else (.aload_n 0, 1, [], [], 0, 0, 0, 8))) else (bif Nat.ble 5 pc then
  (bif Nat.ble 6 pc then
  (bif Nat.ble 7 pc then (.iload_n 2, 1, [], [], 2, 0, 0, 7) else (.istore_n 2, 1, [], [], 2, 0, 0, 6)) else (.iconst 0, 1, [], [], 0, 0, 0, 5)) else (bif Nat.ble 1 pc then
  (bif Nat.ble 2 pc then
  (bif Nat.beq 2 pc then (.putfield 271, 3, [(10, 36)], [[6134]], 0, 0, 0, 2) else mm_nop) else (.iconst 0, 1, [], [], 0, 0, 0, 1)) else (.aload_n 0, 1, [], [], 0, 0, 0, 0)))))))
def mm_k203 : List mm_E := (List.range 179).map mm_f203
def mm_m203 : mm_M := (yX12_findOrder, cX12_findOrder, 5, none, mm_k203, 1, 0, 0, 7238)
