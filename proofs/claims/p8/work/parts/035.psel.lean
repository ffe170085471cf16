/-! ===== private methods of a class, chosen on objects of classes below it (list by program) ===== -/
def mm_pq : List (String × Nat × MethodName × Nat × Nat × Nat × Nat) := [
  ("TypeCopier$LetterMachine", 13, ⟨"TypeCopier$Machine", "readValue", "(J)V"⟩, 274, 790, 791, 1610),
  ("TypeCopier$CopyMachine", 14, ⟨"TypeCopier$Machine", "readValue", "(J)V"⟩, 327, 790, 791, 1610),
  ("TypeCopier$LetterMachine", 13, ⟨"TypeCopier$Machine", "setCell", "(II)V"⟩, 274, 805, 806, 1611),
  ("TypeCopier$CopyMachine", 14, ⟨"TypeCopier$Machine", "setCell", "(II)V"⟩, 327, 805, 806, 1611),
  ("TypeCopier$LetterMachine", 13, ⟨"TypeCopier$Machine", "storeLink", "(II)I"⟩, 274, 856, 857, 1612),
  ("TypeCopier$CopyMachine", 14, ⟨"TypeCopier$Machine", "storeLink", "(II)I"⟩, 327, 856, 857, 1612),
  ("TypeCopier$LetterMachine", 13, ⟨"TypeCopier$Machine", "openFunction", "(I)V"⟩, 274, 860, 861, 1613),
  ("TypeCopier$CopyMachine", 14, ⟨"TypeCopier$Machine", "openFunction", "(I)V"⟩, 327, 860, 861, 1613),
  ("TypeCopier$LetterMachine", 13, ⟨"TypeCopier$Machine", "beginNode", "(I)V"⟩, 274, 901, 902, 1614),
  ("TypeCopier$CopyMachine", 14, ⟨"TypeCopier$Machine", "beginNode", "(I)V"⟩, 327, 901, 902, 1614),
  ("TypeCopier$LetterMachine", 13, ⟨"TypeCopier$Machine", "takeTurn", "()V"⟩, 274, 914, 915, 1615),
  ("TypeCopier$CopyMachine", 14, ⟨"TypeCopier$Machine", "takeTurn", "()V"⟩, 327, 914, 915, 1615),
  ("TypeCopier$LetterMachine", 13, ⟨"TypeCopier$Machine", "takeTurnOfIf", "(II)V"⟩, 274, 919, 920, 1616),
  ("TypeCopier$CopyMachine", 14, ⟨"TypeCopier$Machine", "takeTurnOfIf", "(II)V"⟩, 327, 919, 920, 1616),
  ("TypeCopier$LetterMachine", 13, ⟨"TypeCopier$Machine", "takeTurnOfCall", "(II)V"⟩, 274, 925, 926, 1620),
  ("TypeCopier$CopyMachine", 14, ⟨"TypeCopier$Machine", "takeTurnOfCall", "(II)V"⟩, 327, 925, 926, 1620),
  ("TypeCopier$LetterMachine", 13, ⟨"TypeCopier$Machine", "unit", "()I"⟩, 274, 929, 930, 1621),
  ("TypeCopier$CopyMachine", 14, ⟨"TypeCopier$Machine", "unit", "()I"⟩, 327, 929, 930, 1621),
  ("TypeCopier$LetterMachine", 13, ⟨"TypeCopier$Machine", "closeFunction", "()V"⟩, 274, 947, 948, 1622),
  ("TypeCopier$CopyMachine", 14, ⟨"TypeCopier$Machine", "closeFunction", "()V"⟩, 327, 947, 948, 1622),
  ("TypeCopier$LetterMachine", 13, ⟨"TypeCopier$Machine", "finishNode", "(II)V"⟩, 274, 971, 972, 1623),
  ("TypeCopier$CopyMachine", 14, ⟨"TypeCopier$Machine", "finishNode", "(II)V"⟩, 327, 971, 972, 1623),
  ("TypeCopier$LetterMachine", 13, ⟨"TypeCopier$Machine", "pushArgument", "()V"⟩, 274, 976, 977, 1624),
  ("TypeCopier$CopyMachine", 14, ⟨"TypeCopier$Machine", "pushArgument", "()V"⟩, 327, 976, 977, 1624),
  ("TypeCopier$LetterMachine", 13, ⟨"TypeCopier$Machine", "pushFrom", "(II)V"⟩, 274, 980, 981, 1625),
  ("TypeCopier$CopyMachine", 14, ⟨"TypeCopier$Machine", "pushFrom", "(II)V"⟩, 327, 980, 981, 1625),
  ("TypeCopier$LetterMachine", 13, ⟨"TypeCopier$Machine", "makeLink", "(I)V"⟩, 274, 1010, 1011, 1626),
  ("TypeCopier$CopyMachine", 14, ⟨"TypeCopier$Machine", "makeLink", "(I)V"⟩, 327, 1010, 1011, 1626),
  ("TypeCopier$LetterMachine", 13, ⟨"TypeCopier$Machine", "takeHead", "(I)V"⟩, 274, 1025, 1026, 1627),
  ("TypeCopier$CopyMachine", 14, ⟨"TypeCopier$Machine", "takeHead", "(I)V"⟩, 327, 1025, 1026, 1627),
  ("TypeCopier$LetterMachine", 13, ⟨"TypeCopier$Machine", "takeTail", "()V"⟩, 274, 1029, 1030, 1628),
  ("TypeCopier$CopyMachine", 14, ⟨"TypeCopier$Machine", "takeTail", "()V"⟩, 327, 1029, 1030, 1628),
  ("TypeCopier$LetterMachine", 13, ⟨"TypeCopier$Machine", "tellValue", "(JI)V"⟩, 274, 1033, 1034, 1629),
  ("TypeCopier$CopyMachine", 14, ⟨"TypeCopier$Machine", "tellValue", "(JI)V"⟩, 327, 1033, 1034, 1629),
  ("TypeCopier$LetterMachine", 13, ⟨"TypeCopier$Machine", "chainLength", "(I)I"⟩, 274, 1047, 1048, 1630),
  ("TypeCopier$CopyMachine", 14, ⟨"TypeCopier$Machine", "chainLength", "(I)I"⟩, 327, 1047, 1048, 1630)]
def mm_psel : List Cond := mm_pq.map (fun q => Cond.selects q.1 q.2.2.1 q.2.2.1)
def mm_tbl : List Cond := mm_psel ++ lw_tbl
theorem mm_pq_ok : mm_pq.all (fun q => decide (q.2.2.1.cls ≠ "java/lang/invoke/MethodHandle") && decide (q.2.2.1.cls ≠ "java/lang/invoke/VarHandle") && decide (lw_tbl[q.2.2.2.1]? = some (Cond.instantiable q.1 q.2.1)) && decide (lw_tbl[q.2.2.2.2.1]? = some (Cond.privateMethod q.2.2.1)) && decide (lw_tbl[q.2.2.2.2.2.1]? = some (Cond.instanceMethod q.2.2.1)) && decide (lw_tbl[q.2.2.2.2.2.2]? = some (Cond.sameMethod q.2.2.1.cls q.2.2.1.cls q.2.2.1.name q.2.2.1.desc))) = true := by decide +kernel
theorem mm_selp {C : String} {y : MethodName} {s : State} {args : Array Value} {n : Nat} (hy : y.cls ≠ "java/lang/invoke/MethodHandle" ∧ y.cls ≠ "java/lang/invoke/VarHandle")
    (hins : (Cond.instantiable C n).before args s = true) (hpriv : (Cond.privateMethod y).before args s = true) (hinst : (Cond.instanceMethod y).before args s = true) (hsame : (Cond.sameMethod y.cls y.cls y.name y.desc).before args s = true) :
    (Cond.selects C y y).before args s = true := by
  obtain ⟨c, k, hc, hk, -⟩ := Cond.instantiable_spec hins
  obtain ⟨cn, ck, r1, hcn, hck, hni, hf, hn1⟩ := Cond.sameMethod_found hsame
  obtain ⟨mk, methM, hnamed, hmethM, -, -⟩ := Cond.instanceMethod_spec hinst
  have hfound : s.methodFound? y.cls y.name y.desc = some mk := State.methodFound?_of_named hnamed hy
  have hcls : mk.cls = cn := Option.some.inj ((findClass_of_methodNamed hnamed).symm.trans hcn)
  have hsel : selectMethod {} s.vm c mk = .method mk := selectMethod_private hmethM (Cond.privateMethod_at hpriv mk methM hnamed hmethM)
  simp only [Cond.before, Cond.holds, Cond.value, hc, hfound, hnamed, hsel, hcls, hck]
  simp; exact hni
theorem mm_tbl_ok {args : Array Value} {s : State} (hts : ∀ w ∈ lw_tbl, w.before args s = true) : ∀ w ∈ mm_tbl, w.before args s = true := by
  intro w hw
  rcases List.mem_append.mp hw with hw | hw
  · obtain ⟨q, hq, rfl⟩ := List.mem_map.mp hw
    have h := List.all_eq_true.mp mm_pq_ok q hq
    simp only [Bool.and_eq_true, decide_eq_true_eq] at h
    obtain ⟨⟨⟨⟨⟨h1, h2⟩, h3⟩, h4⟩, h5⟩, h6⟩ := h
    exact mm_selp ⟨h1, h2⟩ (hts _ (List.mem_of_getElem? h3)) (hts _ (List.mem_of_getElem? h4)) (hts _ (List.mem_of_getElem? h5)) (hts _ (List.mem_of_getElem? h6))
  · exact hts w hw
def mm_sec : Nat → List Cond
  | 0 => mm_psel
  | 1 => k2_sels lw_privs
  | 2 => tables_1_1
  | 3 => tables_1_2
  | 4 => tables_1_3
  | 5 => tables_1_4
  | 6 => tables_1_5
  | 7 => tables_1_6
  | 8 => tables_1_7
  | _ => []
def mm_g (p : Nat) : Option Cond := (mm_sec (p / 1000))[p % 1000]?
theorem mm_sec_in : ∀ (j : Nat) (w : Cond), w ∈ mm_sec j → w ∈ mm_tbl
  | 0, w, h => List.mem_append_left _ h
  | 1, w, h => List.mem_append_right _ (List.mem_append_left _ h)
  | 2, w, h => List.mem_append_right _ (List.mem_append_right _ (List.mem_append_left _ h))
  | 3, w, h => List.mem_append_right _ (List.mem_append_right _ (List.mem_append_right _ (List.mem_append_left _ h)))
  | 4, w, h => List.mem_append_right _ (List.mem_append_right _ (List.mem_append_right _ (List.mem_append_right _ (List.mem_append_left _ h))))
  | 5, w, h => List.mem_append_right _ (List.mem_append_right _ (List.mem_append_right _ (List.mem_append_right _ (List.mem_append_right _ (List.mem_append_left _ h)))))
  | 6, w, h => List.mem_append_right _ (List.mem_append_right _ (List.mem_append_right _ (List.mem_append_right _ (List.mem_append_right _ (List.mem_append_right _ (List.mem_append_left _ h))))))
  | 7, w, h => List.mem_append_right _ (List.mem_append_right _ (List.mem_append_right _ (List.mem_append_right _ (List.mem_append_right _ (List.mem_append_right _ (List.mem_append_right _ (List.mem_append_left _ h)))))))
  | 8, w, h => List.mem_append_right _ (List.mem_append_right _ (List.mem_append_right _ (List.mem_append_right _ (List.mem_append_right _ (List.mem_append_right _ (List.mem_append_right _ (List.mem_append_right _ (h))))))))
  | _ + 9, w, h => absurd h List.not_mem_nil
theorem mm_g_in {p : Nat} {w : Cond} (h : mm_g p = some w) : w ∈ mm_tbl := mm_sec_in _ w (List.mem_of_getElem? h)
