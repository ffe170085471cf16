/-! ===== what a code table must keep to: a check that the kernel runs ===== -/
def mm_ty : Nat → FieldType
  | 0 => .int
  | 1 => .long
  | _ => .boolean
/-- static rows: 0 the script, then those of the classes -/
def mm_sn : Nat → Option (String × String × String)
  | 1 => some ("TypeCopier$Shape", "ROOMS", "[J")
  | 2 => some ("TypeCopier$Nodes", "WANTS", "[I")
  | 3 => some ("TypeCopier$Nodes", "PARTS", "[I")
  | _ => none
def mm_at (p : Nat) (w : Cond) : Bool := decide (mm_g p = some w) && goodWord w
def mm_nzk : Cond → Bool
  | .methodLinkNest _ _ _ _ => true
  | .declares _ => true
  | .arrayOver (.array _) => true
  | _ => false
/-- words that don't ride in contracts: they are carried -/
def mm_az (p : Nat) (w : Cond) : Bool := decide (mm_g p = some w) && mm_nzk w
def mm_ckt (pc : Nat) : Int → List Int → List (Nat × Nat) → Bool
  | _, [], [] => true
  | lo, o :: os, (a, t) :: ts => decide ((a : Int) = lo) && decide (a < 2 ^ 31) && decide ((pc : Int) + o = (t : Int)) && mm_ckt pc (lo + 1) os ts
  | _, _, _ => false
def mm_ckl (pc : Nat) : List (Int × Int) → List (Nat × Nat) → Bool
  | [], [] => true
  | (k, o) :: os, (a, t) :: ts => decide ((a : Int) = k) && decide (a < 2 ^ 31) && decide ((pc : Int) + o = (t : Int)) && mm_ckl pc os ts
  | _, _ => false
def mm_ckf (y : MethodName) (idx : Nat) (ps : List Nat) (q : Nat × Nat) : Bool := match mm_cl[q.1]? with
  | some (_, T, N) => decide (q.2 < N) && (match ps with
    | [p] => mm_at p (.fieldLink y.cls idx (T q.2).1 (T q.2).2.1 (T q.2).2.2.1)
    | [p, p2] => mm_at p (.fieldLink y.cls idx y.cls (T q.2).2.1 (T q.2).2.2.1) && mm_at p2 (.sameField y.cls (T q.2).1 (T q.2).2.1 (T q.2).2.2.1)
    | _ => false)
  | none => false
def mm_rfT : FieldType → Bool
  | .object _ => true
  | .array _ => true
  | _ => false
def mm_ckp (y : MethodName) (g : Nat) (q : Nat × Nat) : Bool := match mm_cl[q.1]? with
  | some (_, T, _) => (match g with
    | 0 => decide (mm_tys q.1 q.2 = .int)
    | 1 => mm_rfT (mm_tys q.1 q.2)
    | _ => false) && (!(T q.2).2.2.2 || (decide (y.name = "<init>") && decide ((T q.2).1 = y.cls)))
  | none => false
def mm_nMH (c : String) : Bool := decide (c ≠ "java/lang/invoke/MethodHandle") && decide (c ≠ "java/lang/invoke/VarHandle")
/-- a virtual call: the receiver's class, the method that it comes to -/
def mm_ckv (ms : List mm_M) (y : MethodName) (idx g : Nat) (q : Nat × Nat) (ps : List Nat) : Bool := match mm_cl[q.1]?, ms[q.2]? with
  | some (C, _, _), some M => decide (mm_Mn M = g) && (match ps with
    | [p0, p1, p2, p3] => decide ((mm_My M).cls = C) && mm_at p0 (.methodLink y.cls idx (mm_My M)) && mm_at p1 (.instanceMethod (mm_My M)) && mm_at p2 (.selects C (mm_My M) (mm_My M)) && mm_at p3 (.initialized C)
    | [p0, p1, p2, p3, p4] => (match mm_g p0, mm_g p1 with
      | some (.methodLink _ _ x), some (.sameMethod _ o _ _) => mm_at p0 (.methodLink y.cls idx x) && mm_at p1 (.sameMethod x.cls o x.name x.desc) && mm_at p2 (.selects C x (mm_My M)) && mm_at p3 (.instanceMethod (mm_My M)) && mm_at p4 (.initialized (mm_My M).cls) && decide (mm_My M = ⟨o, x.name, x.desc⟩) && mm_nMH o
      | _, _ => false)
    | [p0, p1, p2, p3, p4, p5] => (match mm_g p0, mm_g p1 with
      | some (.methodLink _ _ x), some (.sameMethod _ o _ _) => mm_at p0 (.methodLink y.cls idx x) && mm_at p1 (.sameMethod x.cls o x.name x.desc) && mm_at p2 (.selects C x (mm_My M)) && mm_at p3 (.instanceMethod (mm_My M)) && mm_at p4 (.initialized (mm_My M).cls) && mm_az p5 (.declares ⟨o, x.name, x.desc⟩) && decide ((mm_My M).desc = x.desc) && mm_nMH o
      | _, _ => false)
    | _ => false)
  | _, _ => false
def mm_ckvs (ms : List mm_M) (y : MethodName) (idx g : Nat) : List (Nat × Nat) → List (List Nat) → Bool
  | [], _ => true
  | q :: qs, p :: ps => mm_ckv ms y idx g q p && mm_ckvs ms y idx g qs ps
  | _, _ => false
/-- a static call: the method mi, of a class that the link names, or of a nest mate -/
def mm_ckS0 (ms : List mm_M) (g mi p1 p2 : Nat) (lk : MethodName → Bool) : Bool := match ms[mi]? with
  | some M => decide (mm_Mn M = g) && mm_at p1 (.static (mm_My M)) && mm_at p2 (.initialized (mm_My M).cls) && lk (mm_My M)
  | none => false
def mm_ckS (ms : List mm_M) (y : MethodName) (idx g k mi : Nat) (ps : List (List Nat)) : Bool := match k with
  | 0 => (match ps with
    | [[p0, p1, p2]] => mm_ckS0 ms g mi p1 p2 (fun z => mm_at p0 (.methodLink y.cls idx z))
    | _ => false)
  | 1 => (match ps with
    | [[p0, p1, p2]] => mm_ckS0 ms g mi p1 p2 (fun z => match mm_g p0 with | some (.methodLinkNest _ _ _ h) => mm_az p0 (.methodLinkNest y.cls idx z h) | _ => false)
    | _ => false)
  | 2 => (match ps with
    | [[p0, p1, p2, p3]] => mm_at p0 (.methodLink y.cls idx Lib.Math.max.name) && mm_at p1 (.static Lib.Math.max.name) && mm_at p2 (.initialized "java/lang/Math") && mm_at p3 (.code Lib.Math.max.name Lib.Math.max.code 2 (some .int))
    | _ => false)
  | 3 => (match ps with
    | [[p0, p1, p2, p3]] => mm_at p0 (.methodLink y.cls idx Lib.Math.min.name) && mm_at p1 (.static Lib.Math.min.name) && mm_at p2 (.initialized "java/lang/Math") && mm_at p3 (.code Lib.Math.min.name Lib.Math.min.code 2 (some .int))
    | _ => false)
  | 4 => (match ps with
    | [[p0, p1, p2, p3]] => mm_at p0 (.methodLink y.cls idx Lib.MathLoose.max_long.x) && mm_at p1 (.static Lib.MathLoose.max_long.x) && mm_at p2 (.initialized "java/lang/Math") && mm_at p3 (.code Lib.MathLoose.max_long.x Lib.MathLoose.max_long.code 4 (some .long))
    | _ => false)
  | _ => false
def mm_ck1 (ms : List mm_M) (y : MethodName) (nL pc : Nat) (i : Jvm.ClassFile.Instr) (len : Nat) (ax : List (Nat × Nat)) (ps : List (List Nat)) (g : Nat) (c : Int32) (c8 : Int64) : Bool := match i with
  | .iconst n => decide (len = 1) && decide (Int32.ofInt n = c)
  | .bipush n => decide (len = 2) && decide ((Int8.ofInt n).toInt32 = c)
  | .sipush n => decide (len = 3) && decide ((Int16.ofInt n).toInt32 = c)
  | .ldc idx => decide (len = 2) && (match ps with | [[p]] => mm_at p (.constant y.cls idx c) | _ => false)
  | .lconst n => decide (len = 1) && decide (Int64.ofNat (n : Nat) = c8)
  | .ldc2_w idx => decide (len = 3) && (match ps with | [[p]] => mm_at p (.constantLong y.cls idx c8) | _ => false)
  | .iload k => decide (len = 2) && decide (k = g)
  | .iload_n k => decide (len = 1) && decide ((k : Nat) = g)
  | .lload k => decide (len = 2) && decide (k = g)
  | .lload_n k => decide (len = 1) && decide ((k : Nat) = g)
  | .aload k => decide (len = 2) && decide (k = g)
  | .aload_n k => decide (len = 1) && decide ((k : Nat) = g)
  | .istore k => decide (len = 2) && decide (k = g) && decide (g < nL)
  | .istore_n k => decide (len = 1) && decide ((k : Nat) = g) && decide (g < nL)
  | .lstore k => decide (len = 2) && decide (k = g) && decide (g + 1 < nL)
  | .lstore_n k => decide (len = 1) && decide ((k : Nat) = g) && decide (g + 1 < nL)
  | .astore k => decide (len = 2) && decide (k = g) && decide (g < nL)
  | .astore_n k => decide (len = 1) && decide ((k : Nat) = g) && decide (g < nL)
  | .iinc k n => decide (len = 3) && decide (k = g) && decide (g < nL) && decide (Int32.ofInt n = c)
  | .iadd | .isub | .imul | .irem | .iand | .ior | .ixor | .ishl | .ishr | .ladd | .lsub | .lmul | .ldiv | .lrem | .lcmp | .i2l | .l2i => decide (len = 1)
  | .dup | .pop | .pop2 | .dup_x1 | .dup2 | .iaload | .laload | .baload | .aaload | .iastore | .bastore | .lastore | .arraylength | .ireturn | .lreturn | .return_ => decide (len = 1)
  | .goto o => decide (len = 3) && (match ax with | (_, t) :: _ => decide ((pc : Int) + o = (t : Int)) | _ => false)
  | .ifCond _ o => decide (len = 3) && (match ax with | (_, t) :: _ => decide ((pc : Int) + o = (t : Int)) | _ => false)
  | .if_icmp _ o => decide (len = 3) && (match ax with | (_, t) :: _ => decide ((pc : Int) + o = (t : Int)) | _ => false)
  | .tableswitch d lo hi os => (match ax with | (_, t) :: ts => decide ((pc : Int) + d = (t : Int)) && mm_ckt pc lo os.toList ts && decide ((os.size : Int) = hi - lo + 1) | _ => false)
  | .lookupswitch d os => (match ax with | (_, t) :: ts => decide ((pc : Int) + d = (t : Int)) && mm_ckl pc os.toList ts && (os.toList.zip (os.toList.drop 1)).all (fun (a, next) => a.1 < next.1) | _ => false)
  | .getfield idx => decide (len = 3) && (match ps with | [p] => ax.all (mm_ckf y idx p) | _ => false)
  | .putfield idx => decide (len = 3) && (match ps with | [p] => ax.all (fun q => mm_ckf y idx p q && mm_ckp y g q) | _ => false)
  | .getstatic idx => decide (len = 3) && (match ax, ps with | (_, j) :: _, [[p]] => (match mm_sn j with | some (C, n, d) => mm_at p (.fieldLink y.cls idx C n d) | none => false) | _, _ => false)
  | .new idx => decide (len = 3) && (match ax, ps with | (_, ci) :: _, [[p0, p1, p2]] => (match mm_cl[ci]? with | some (C, _, N) => mm_at p0 (.classLink y.cls idx C) && mm_at p1 (.instantiable C N) && mm_at p2 (.initialized C) | none => false) | _, _ => false)
  | .newarray a => decide (len = 2) && (match ax, ps with | (t, _) :: _, [[p]] => mm_at p (.arrayClass (mm_ty t)) && decide (newarray.typeOf a = mm_ty t) | _, _ => false)
  | .multianewarray idx n => decide (len = 4) && decide (n = 2) && (match ax, ps with | (t, _) :: _, [[p0, p1, p2]] => mm_at p0 (.classLink y.cls idx ("[" ++ (FieldType.array (mm_ty t)).toString)) && mm_at p1 (.arrayClass (mm_ty t)) && mm_az p2 (.arrayOver (.array (mm_ty t))) && decide (t < 2) | _, _ => false)
  | .invokestatic idx => decide (len = 3) && (match ax with
    | (k, mi) :: _ => mm_ckS ms y idx g k mi ps
    | [] => false)
  | .invokevirtual idx => decide (len = 3) && mm_ckvs ms y idx g ax ps
  | .invokespecial idx => decide (len = 3) && (match ax, ps with
    | [], [[p0, p1, p2]] => decide (g = 0) && mm_at p0 (.methodLink y.cls idx Lib.objectInit) && mm_at p1 (.instanceMethod Lib.objectInit) && mm_at p2 (.code Lib.objectInit ⟨#[0xb1]⟩ 1 none)
    | (k, mi) :: _, [[p0, p1, p2]] => (match ms[mi]? with
      | some M => decide (mm_Mn M = g) && decide ((mm_My M).name = "<init>") && decide (mm_Mr M = none) && mm_at p1 (.instanceMethod (mm_My M)) && mm_at p2 (.initialized (mm_My M).cls) && (match k with
        | 0 => mm_at p0 (.methodLink y.cls idx (mm_My M))
        | _ => (match mm_g p0 with | some (.methodLinkNest _ _ _ h) => mm_az p0 (.methodLinkNest y.cls idx (mm_My M) h) | _ => false))
      | none => false)
    | _, _ => false)
  | _ => false
def mm_ck (ms : List mm_M) (y : MethodName) (bytes : ByteArray) (nL pc : Nat) (e : mm_E) : Bool := match e with
  | (i, len, ax, ps, g, c, c8, q) => (match i with
    | .nop => true
    | _ => decide (q = pc) && (decide (decode bytes q = .ok (i, len)) && mm_ck1 ms y nL q i len ax ps g c c8))
def mm_cks (ms : List mm_M) (y : MethodName) (bytes : ByteArray) (nL : Nat) : Nat → List mm_E → Bool
  | _, [] => true
  | pc, e :: r => mm_ck ms y bytes nL pc e && mm_cks ms y bytes nL (pc + 1) r
theorem mm_cks_at {ms : List mm_M} {y : MethodName} {bytes : ByteArray} {nL : Nat} : ∀ (l : List mm_E) (p k : Nat), mm_cks ms y bytes nL p l = true → mm_ck ms y bytes nL (p + k) (l.getD k mm_nop) = true
  | [], p, k, _ => by simp [mm_ck, mm_nop]
  | e :: r, p, 0, h => by
    simp only [mm_cks, Bool.and_eq_true] at h
    simpa using h.1
  | e :: r, p, k + 1, h => by
    simp only [mm_cks, Bool.and_eq_true] at h
    have := mm_cks_at r (p + 1) k h.2
    rw [show p + (k + 1) = p + 1 + k by omega]
    simpa using this
theorem mm_cks_ap {ms : List mm_M} {y : MethodName} {bytes : ByteArray} {nL : Nat} : ∀ (n p : Nat) (l : List mm_E), mm_cks ms y bytes nL p (l.take n) = true → mm_cks ms y bytes nL (p + n) (l.drop n) = true → mm_cks ms y bytes nL p l = true
  | 0, p, l, _, h => by simpa using h
  | n + 1, p, [], _, _ => rfl
  | n + 1, p, e :: r, h1, h2 => by
    simp only [List.take_succ_cons, mm_cks, Bool.and_eq_true] at h1
    simp only [mm_cks, Bool.and_eq_true]
    refine ⟨h1.1, mm_cks_ap n (p + 1) r h1.2 ?_⟩
    rw [List.drop_succ_cons] at h2
    rw [show p + 1 + n = p + (n + 1) by omega]
    exact h2
theorem mm_cks_seg {ms : List mm_M} {y : MethodName} {bytes : ByteArray} {nL : Nat} {l : List mm_E} (n p q : Nat) (hq : p + n = q) (h1 : mm_cks ms y bytes nL p ((l.drop p).take n) = true) (h2 : mm_cks ms y bytes nL q (l.drop q) = true) : mm_cks ms y bytes nL p (l.drop p) = true := by
  subst hq
  refine mm_cks_ap n p _ h1 ?_
  rw [List.drop_drop]
  exact h2
/-- a method's head: its word, its arguments -/
def mm_ckh (M : mm_M) : Bool := plainName (mm_My M).cls && mm_nMH (mm_My M).cls && mm_at (mm_Mp M) (.code (mm_My M) (mm_Mb M) (mm_Ml M) (mm_Mr M)) && decide (mm_Ml M ≤ 20) && decide (mm_Mk M = 0 → mm_Ms M = 0) && decide ((parseMethodDescriptor (mm_My M).desc).map (fun d => d.parameters.length) = some (mm_Mn M))
def mm_ckm (ms : List mm_M) (M : mm_M) : Bool := mm_ckh M && mm_cks ms (mm_My M) (mm_Mb M) (mm_Ml M) 0 (mm_Mc M)
theorem mm_ckm_of {ms : List mm_M} {M : mm_M} (h1 : mm_ckh M = true) (h2 : mm_cks ms (mm_My M) (mm_Mb M) (mm_Ml M) 0 ((mm_Mc M).drop 0) = true) : mm_ckm ms M = true := by
  rw [List.drop_zero] at h2
  simp only [mm_ckm, Bool.and_eq_true]
  exact ⟨h1, h2⟩
