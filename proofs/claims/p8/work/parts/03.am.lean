/-! ===== the abstract machine: values, cells, worlds ===== -/
abbrev mm_V : Type := Int32 ⊕ Int64 ⊕ Nat ⊕ Nat ⊕ Unit
abbrev mm_I (x : Int32) : mm_V := .inl x
abbrev mm_L (x : Int64) : mm_V := .inr (.inl x)
abbrev mm_R (k : Nat) : mm_V := .inr (.inr (.inl k))
abbrev mm_S (k : Nat) : mm_V := .inr (.inr (.inr (.inl k)))
abbrev mm_N : mm_V := .inr (.inr (.inr (.inr ())))
/-- a cell: an object (class, fields: none an int, some a reference), a row of numbers (tag, length), a row of rows (tag, length, first row) -/
abbrev mm_C : Type := (Nat × List (Option (Option Nat))) ⊕ (Nat × Nat) ⊕ (Nat × Nat × Nat)
abbrev mm_W : Type := List mm_C × (Nat → Nat → Int32) × (Nat → Nat → Int64)
/-- an entry of a code table: instruction, length, pairs, places of words, a number, an int, a long, its own place -/
abbrev mm_E : Type := Jvm.ClassFile.Instr × Nat × List (Nat × Nat) × List (List Nat) × Nat × Int32 × Int64 × Nat
/-- a method: name, bytes, locals, what it returns, code, arguments (without this), cells and slots that it makes, the place of its word -/
abbrev mm_M : Type := MethodName × ByteArray × Nat × Option FieldType × List mm_E × Nat × Nat × Nat × Nat
abbrev mm_T : Type := Nat → Nat × ((Nat → Int32) ⊕ (Nat → Int64))
abbrev mm_My (M : mm_M) : MethodName := M.1
abbrev mm_Mb (M : mm_M) : ByteArray := M.2.1
abbrev mm_Ml (M : mm_M) : Nat := M.2.2.1
abbrev mm_Mr (M : mm_M) : Option FieldType := M.2.2.2.1
abbrev mm_Mc (M : mm_M) : List mm_E := M.2.2.2.2.1
abbrev mm_Mn (M : mm_M) : Nat := M.2.2.2.2.2.1
abbrev mm_Mk (M : mm_M) : Nat := M.2.2.2.2.2.2.1
abbrev mm_Ms (M : mm_M) : Nat := M.2.2.2.2.2.2.2.1
abbrev mm_Mp (M : mm_M) : Nat := M.2.2.2.2.2.2.2.2
def mm_nop : mm_E := (.nop, 0, [], [], 0, 0, 0, 0)
def mm_u {α : Type} (f : Nat → Nat → α) (k i : Nat) (x : α) : Nat → Nat → α := fun a b => if a = k then (if b = i then x else f a b) else f a b
/-- zeros in n cells from lo on -/
def mm_z {α : Type} [OfNat α 0] (f : Nat → Nat → α) (lo n : Nat) : Nat → Nat → α := fun a b => if lo ≤ a ∧ a < lo + n then 0 else f a b
def mm_c1 : mm_C → Nat
  | .inl (_, fs) => fs.length
  | .inr (.inl (_, n)) => n
  | .inr (.inr (_, n, _)) => n
def mm_sl (l : List mm_C) : Nat := (l.map mm_c1).sum
def mm_cat : mm_V → Nat
  | .inr (.inl _) => 2
  | _ => 1
def mm_cs (l : List mm_V) : Nat := (l.map mm_cat).sum
/-- all references are to cells below n -/
def mm_lo (n : Nat) : mm_V → Bool
  | .inr (.inr (.inl k)) => Nat.blt k n
  | _ => true
def mm_loO (n : Nat) : Option mm_V → Bool
  | some v => mm_lo n v
  | none => true
def mm_loC (n : Nat) : mm_C → Bool
  | .inl (_, fs) => fs.all (fun o => match o with | some (some k) => Nat.blt k n | _ => true)
  | .inr (.inl _) => true
  | .inr (.inr (_, len, b)) => Nat.ble (b + len) n
def mm_chk (ls : List (Option mm_V)) (st : List mm_V) (l : List mm_C) : Bool := ls.all (mm_loO l.length) && st.all (mm_lo l.length) && l.all (mm_loC l.length)
/-! locals -/
def mm_kl (ls : List (Option mm_V)) : Nat → List (Option mm_V)
  | 0 => ls
  | j + 1 => match ls.getD j none with
    | some (.inr (.inl _)) => ls.set j none
    | _ => ls
def mm_s1 (ls : List (Option mm_V)) (g : Nat) (v : mm_V) : List (Option mm_V) := (mm_kl ls g).set g (some v)
def mm_s2 (ls : List (Option mm_V)) (g : Nat) (v : mm_V) : List (Option mm_V) := ((mm_kl ls g).set (g + 1) none).set g (some v)
def mm_ar : List mm_V → List (Option mm_V)
  | [] => []
  | .inr (.inl x) :: r => some (.inr (.inl x)) :: none :: mm_ar r
  | v :: r => some v :: mm_ar r
def mm_ini (nL : Nat) (As : List mm_V) : List (Option mm_V) := mm_ar As ++ List.replicate (nL - (mm_ar As).length) none
def mm_sp : Nat → List mm_V → List mm_V → Option (List mm_V × List mm_V)
  | 0, acc, r => some (acc, r)
  | _ + 1, _, [] => none
  | n + 1, acc, v :: r => mm_sp n (v :: acc) r
def mm_fi : List (Nat × Nat) → Nat → Option Nat
  | [], _ => none
  | (a, b) :: r, c => if a = c then some b else mm_fi r c
/-! ops: what an instruction does to the stack, and where it goes on -/
abbrev mm_K : Type := Nat → List (Option mm_V) → List mm_V → mm_W → Prop
abbrev mm_F : Type := Nat → List mm_V → mm_W → (Option mm_V → mm_W → Prop) → Prop
def mm_oI (o : Option mm_V) (k : Int32 → Prop) : Prop := match o with
  | some (.inl x) => k x
  | _ => False
def mm_oL (o : Option mm_V) (k : Int64 → Prop) : Prop := match o with
  | some (.inr (.inl x)) => k x
  | _ => False
def mm_oA (o : Option mm_V) (k : mm_V → Prop) : Prop := match o with
  | some (.inr (.inr v)) => k (.inr (.inr v))
  | _ => False
def mm_1i (st : List mm_V) (k : Int32 → List mm_V → Prop) : Prop := match st with
  | .inl x :: r => k x r
  | _ => False
def mm_1l (st : List mm_V) (k : Int64 → List mm_V → Prop) : Prop := match st with
  | .inr (.inl x) :: r => k x r
  | _ => False
def mm_1a (st : List mm_V) (k : mm_V → List mm_V → Prop) : Prop := match st with
  | .inr (.inr v) :: r => k (.inr (.inr v)) r
  | _ => False
def mm_1c (st : List mm_V) (k : mm_V → List mm_V → Prop) : Prop := match st with
  | .inl x :: r => k (.inl x) r
  | .inr (.inr v) :: r => k (.inr (.inr v)) r
  | _ => False
def mm_1r (st : List mm_V) (k : Nat → List mm_V → Prop) : Prop := match st with
  | .inr (.inr (.inl x)) :: r => k x r
  | _ => False
def mm_2i (st : List mm_V) (k : Int32 → Int32 → List mm_V → Prop) : Prop := match st with
  | .inl y :: .inl x :: r => k x y r
  | _ => False
def mm_2l (st : List mm_V) (k : Int64 → Int64 → List mm_V → Prop) : Prop := match st with
  | .inr (.inl y) :: .inr (.inl x) :: r => k x y r
  | _ => False
def mm_t1 (ax : List (Nat × Nat)) (k : Nat → Prop) : Prop := match ax with
  | (_, t) :: _ => k t
  | _ => False
def mm_if (c : Jvm.ClassFile.Cond) (x : Int32) (a b : Prop) : Prop := match c with
  | .eq => (x = 0 → a) ∧ (¬ x = 0 → b)
  | .ne => (¬ x = 0 → a) ∧ (x = 0 → b)
  | .lt => (x < 0 → a) ∧ (¬ x < 0 → b)
  | .ge => (0 ≤ x → a) ∧ (¬ 0 ≤ x → b)
  | .gt => (0 < x → a) ∧ (¬ 0 < x → b)
  | .le => (x ≤ 0 → a) ∧ (¬ x ≤ 0 → b)
def mm_ic (c : Jvm.ClassFile.Cond) (x y : Int32) (a b : Prop) : Prop := match c with
  | .eq => (x = y → a) ∧ (¬ x = y → b)
  | .ne => (¬ x = y → a) ∧ (x = y → b)
  | .lt => (x < y → a) ∧ (¬ x < y → b)
  | .ge => (y ≤ x → a) ∧ (¬ y ≤ x → b)
  | .gt => (y < x → a) ∧ (¬ y < x → b)
  | .le => (x ≤ y → a) ∧ (¬ x ≤ y → b)
def mm_sw (x : Int32) (k : Nat → Prop) : List (Nat × Nat) → Prop
  | [] => True
  | (a, t) :: r => (x = nI a → k t) ∧ mm_sw x k r
def mm_df (x : Int32) (P : Prop) : List (Nat × Nat) → Prop
  | [] => P
  | (a, _) :: r => ¬ x = nI a → mm_df x P r
def mm_cas (x : Int32) (k : Nat → Prop) (ax : List (Nat × Nat)) : Prop := match ax with
  | (_, d) :: ts => mm_sw x k ts ∧ mm_df x (k d) ts
  | _ => False
def mm_gf (w : mm_W) (ax : List (Nat × Nat)) (r : Nat) (k : mm_V → Prop) : Prop := match w.1[r]? with
  | some (.inl (ci, fs)) => (match mm_fi ax ci with
    | some j => (match fs[j]? with
      | some none => k (mm_I (w.2.1 r j))
      | some (some none) => k mm_N
      | some (some (some a)) => k (mm_R a)
      | none => False)
    | none => False)
  | _ => False
def mm_pf (w : mm_W) (ax : List (Nat × Nat)) (g r : Nat) (v : mm_V) (k : mm_W → Prop) : Prop := match w.1[r]? with
  | some (.inl (ci, fs)) => (match mm_fi ax ci with
    | some j => (match g, fs[j]?, v with
      | 0, some none, .inl x => (match w with | (l, mi, ml) => k (l, mm_u mi r j x, ml))
      | 1, some (some _), .inr (.inr (.inl a)) => (match w with | (l, mi, ml) => k (l.set r (.inl (ci, fs.set j (some (some a)))), mi, ml))
      | _, _, _ => False)
    | none => False)
  | _ => False
/-- a row of numbers with a tag: own, or of the tables -/
def mm_ald (w : mm_W) (t r : Nat) (i : Int32) (k : Prop) : Prop := match w.1[r]? with
  | some (.inr (.inl (t', n))) => (match Nat.beq t' t with
    | true => vp_in i n ∧ k
    | false => False)
  | _ => False
def mm_ild (tb : mm_T) (w : mm_W) (st : List mm_V) (k : Int32 → List mm_V → Prop) : Prop := match st with
  | .inl i :: .inr (.inr (.inl r)) :: s => mm_ald w 0 r i (k (w.2.1 r i.toNatClampNeg) s)
  | .inl i :: .inr (.inr (.inr (.inl j))) :: s => (match tb j with
    | (n, .inl f) => vp_in i n ∧ k (f i.toNatClampNeg) s
    | _ => False)
  | _ => False
def mm_lld (tb : mm_T) (w : mm_W) (st : List mm_V) (k : Int64 → List mm_V → Prop) : Prop := match st with
  | .inl i :: .inr (.inr (.inl r)) :: s => mm_ald w 1 r i (k (w.2.2 r i.toNatClampNeg) s)
  | .inl i :: .inr (.inr (.inr (.inl j))) :: s => (match tb j with
    | (n, .inr f) => vp_in i n ∧ k (f i.toNatClampNeg) s
    | _ => False)
  | _ => False
def mm_bld (w : mm_W) (st : List mm_V) (k : Int32 → List mm_V → Prop) : Prop := match st with
  | .inl i :: .inr (.inr (.inl r)) :: s => mm_ald w 2 r i (k (w.2.1 r i.toNatClampNeg) s)
  | _ => False
def mm_qld (w : mm_W) (st : List mm_V) (k : Nat → List mm_V → Prop) : Prop := match st with
  | .inl i :: .inr (.inr (.inl r)) :: s => (match w.1[r]? with
    | some (.inr (.inr (_, n, b))) => vp_in i n ∧ k (b + i.toNatClampNeg) s
    | _ => False)
  | _ => False
def mm_ist (w : mm_W) (t : Nat) (st : List mm_V) (k : mm_W → List mm_V → Prop) : Prop := match st with
  | .inl x :: .inl i :: .inr (.inr (.inl r)) :: s => mm_ald w t r i (match t, w with
    | 0, (l, mi, ml) => k (l, mm_u mi r i.toNatClampNeg x, ml) s
    | _, (l, mi, ml) => k (l, mm_u mi r i.toNatClampNeg (vp_nar .boolean x), ml) s)
  | _ => False
def mm_lst (w : mm_W) (st : List mm_V) (k : mm_W → List mm_V → Prop) : Prop := match st with
  | .inr (.inl x) :: .inl i :: .inr (.inr (.inl r)) :: s => mm_ald w 1 r i (match w with | (l, mi, ml) => k (l, mi, mm_u ml r i.toNatClampNeg x) s)
  | _ => False
def mm_len (tb : mm_T) (w : mm_W) (st : List mm_V) (k : Int32 → List mm_V → Prop) : Prop := match st with
  | .inr (.inr (.inl r)) :: s => (match w.1[r]? with
    | some (.inr (.inl (_, n))) => k (nI n) s
    | _ => False)
  | .inr (.inr (.inr (.inl j))) :: s => k (nI (tb j).1) s
  | _ => False
/-- the fields of a new object -/
def mm_nf (tys : Nat → FieldType) (n : Nat) : List (Option (Option Nat)) := (List.range n).map (fun j => match tys j with | .int => none | _ => some none)
abbrev mm_cl : List vw_C := [(RX0, TX0, 13), (RX1, TX1, 14), (RX2, TX2, 8), (RX3, TX3, 3), (RX4, TX4, 4), (RX5, TX5, 13), (RX7, TX7, 7), (RX8, TX8, 2), (RX9, TX9, 6), (RX11, TX11, 12), (RX12, TX12, 67)]
def mm_tys : Nat → Nat → FieldType := fun ci => match ci with
  | 0 => tyX0
  | 1 => tyX1
  | 2 => tyX2
  | 3 => tyX3
  | 4 => tyX4
  | 5 => tyX5
  | 6 => tyX7
  | 7 => tyX8
  | 8 => tyX9
  | 9 => tyX11
  | _ => tyX12
def mm_cn : Nat → Nat := fun ci => match ci with
  | 0 => 13
  | 1 => 14
  | 2 => 8
  | 3 => 3
  | 4 => 4
  | 5 => 13
  | 6 => 7
  | 7 => 2
  | 8 => 6
  | 9 => 12
  | _ => 67
/-- room for a more cells of b more slots -/
def mm_rm (lim : Nat × Nat) (w : mm_W) (a b : Nat) : Prop := w.1.length + a ≤ lim.1 ∧ mm_sl w.1 + b ≤ lim.2
def mm_new (lim : Nat × Nat) (ax : List (Nat × Nat)) (ls : List (Option mm_V)) (st : List mm_V) (w : mm_W) (k : mm_V → mm_W → Prop) : Prop := match ax with
  | (_, ci) :: _ => mm_chk ls st w.1 = true ∧ mm_rm lim w 1 (mm_cn ci) ∧ k (mm_R w.1.length) (w.1 ++ [.inl (ci, mm_nf (mm_tys ci) (mm_cn ci))], mm_z w.2.1 w.1.length 1, mm_z w.2.2 w.1.length 1)
  | _ => False
def mm_nar (lim : Nat × Nat) (ax : List (Nat × Nat)) (ls : List (Option mm_V)) (st : List mm_V) (w : mm_W) (k : mm_V → List mm_V → mm_W → Prop) : Prop := match ax, st with
  | (t, n) :: _, .inl x :: r => x = nI n ∧ n < 536870912 / 8 ∧ mm_chk ls r w.1 = true ∧ mm_rm lim w 1 n ∧ k (mm_R w.1.length) r (w.1 ++ [.inr (.inl (t, n))], mm_z w.2.1 w.1.length 1, mm_z w.2.2 w.1.length 1)
  | _, _ => False
def mm_nmu (lim : Nat × Nat) (ax : List (Nat × Nat)) (ls : List (Option mm_V)) (st : List mm_V) (w : mm_W) (k : mm_V → List mm_V → mm_W → Prop) : Prop := match ax, st with
  | (t, n) :: (_, m) :: _, .inl y :: .inl x :: r => x = nI n ∧ y = nI m ∧ n < 536870912 / 8 ∧ m < 536870912 / 8 ∧ mm_chk ls r w.1 = true ∧ mm_rm lim w (1 + n) (n + n * m) ∧ k (mm_R w.1.length) r (w.1 ++ .inr (.inr (t, n, w.1.length + 1)) :: List.replicate n (.inr (.inl (t, m))), mm_z w.2.1 w.1.length (1 + n), mm_z w.2.2 w.1.length (1 + n))
  | _, _ => False
/-- a call of method mi: one that makes nothing leaves the cells as they are, of a kind -/
def mm_inv (call : mm_F) (ms : List mm_M) (lim : Nat × Nat) (mi : Nat) (ls : List (Option mm_V)) (As rest : List mm_V) (w : mm_W) (k : List mm_V → mm_W → Prop) : Prop := match Nat.ble (mm_cs rest) 8, ms[mi]? with
  | true, some M => (match mm_Mk M with
    | 0 => call mi As w (fun o w' => w'.1 = w.1 ∧ k (o.toList ++ rest) w')
    | n + 1 => mm_chk ls rest w.1 = true ∧ mm_rm lim w (n + 1) (mm_Ms M) ∧ call mi As w (fun o w' => w'.1.length = w.1.length + (n + 1) ∧ mm_sl w'.1 = mm_sl w.1 + mm_Ms M ∧ k (o.toList ++ rest) w'))
  | _, _ => False
def mm_b8 (rest : List mm_V) (k : Prop) : Prop := match Nat.ble (mm_cs rest) 8 with
  | true => k
  | false => False
def mm_ivo (call : mm_F) (ms : List mm_M) (lim : Nat × Nat) (mi g : Nat) (ls : List (Option mm_V)) (st : List mm_V) (w : mm_W) (k : List mm_V → mm_W → Prop) : Prop := match mm_sp g [] st with
  | some (As, rest) => mm_inv call ms lim mi ls As rest w k
  | none => False
/-- 0: a method of ours, 1: of a nest mate, 2, 3, 4: Math's max, min of ints, max of longs -/
def mm_ivs (call : mm_F) (ms : List mm_M) (lim : Nat × Nat) (ax : List (Nat × Nat)) (g : Nat) (ls : List (Option mm_V)) (st : List mm_V) (w : mm_W) (k : List mm_V → mm_W → Prop) : Prop := match ax with
  | (0, mi) :: _ => mm_ivo call ms lim mi g ls st w k
  | (1, mi) :: _ => mm_ivo call ms lim mi g ls st w k
  | (2, _) :: _ => mm_2i st (fun x y r => mm_b8 r (k (mm_I (if x < y then y else x) :: r) w))
  | (3, _) :: _ => mm_2i st (fun x y r => mm_b8 r (k (mm_I (if y < x then y else x) :: r) w))
  | (4, _) :: _ => mm_2l st (fun x y r => mm_b8 r (k (mm_L (if y < x then x else y) :: r) w))
  | _ => False
def mm_ivv (call : mm_F) (ms : List mm_M) (lim : Nat × Nat) (ax : List (Nat × Nat)) (g : Nat) (ls : List (Option mm_V)) (st : List mm_V) (w : mm_W) (k : List mm_V → mm_W → Prop) : Prop := match mm_sp g [] st with
  | some (As, .inr (.inr (.inl r)) :: rest) => (match w.1[r]? with
    | some (.inl (ci, _)) => (match mm_fi ax ci with
      | some mi => mm_inv call ms lim mi ls (mm_R r :: As) rest w k
      | none => False)
    | _ => False)
  | _ => False
def mm_ivi (call : mm_F) (ms : List mm_M) (lim : Nat × Nat) (ax : List (Nat × Nat)) (g : Nat) (ls : List (Option mm_V)) (st : List mm_V) (w : mm_W) (k : List mm_V → mm_W → Prop) : Prop := match ax, mm_sp g [] st with
  | (_, mi) :: _, some (As, .inr (.inr (.inl r)) :: rest) => mm_inv call ms lim mi ls (mm_R r :: As) rest w k
  | [], some (_, .inr (.inr (.inl _)) :: rest) => (match Nat.ble (mm_cs rest) 8 with
    | true => k rest w
    | false => False)
  | _, _ => False
def mm_irt (ret : Option FieldType) (st : List mm_V) (k : Int32 → Prop) : Prop := match ret, st with
  | some .int, [.inl x] => k x
  | some .boolean, [.inl x] => (x = 0 ∨ x = 1) ∧ k x
  | _, _ => False
def mm_lrt (ret : Option FieldType) (st : List mm_V) (k : Int64 → Prop) : Prop := match ret, st with
  | some .long, [.inr (.inl x)] => k x
  | _, _ => False
def mm_vrt (ret : Option FieldType) (st : List mm_V) (k : Prop) : Prop := match ret, st with
  | none, [] => k
  | _, _ => False
/-- one instruction -/
def mm_stp (call : mm_F) (ms : List mm_M) (tb : mm_T) (M : mm_M) (lim : Nat × Nat) (Q : Option mm_V → mm_W → Prop) (K : mm_K) (pc : Nat) (ls : List (Option mm_V)) (st : List mm_V) (w : mm_W) : Prop :=
  match (mm_Mc M).getD pc mm_nop with
  | (i, len, ax, _, g, c, c8, _) =>
    match i with
    | .iconst _ => K (pc + len) ls (mm_I c :: st) w
    | .bipush _ => K (pc + len) ls (mm_I c :: st) w
    | .sipush _ => K (pc + len) ls (mm_I c :: st) w
    | .ldc _ => K (pc + len) ls (mm_I c :: st) w
    | .lconst _ => K (pc + len) ls (mm_L c8 :: st) w
    | .ldc2_w _ => K (pc + len) ls (mm_L c8 :: st) w
    | .iload _ => mm_oI (ls.getD g none) (fun x => K (pc + len) ls (mm_I x :: st) w)
    | .iload_n _ => mm_oI (ls.getD g none) (fun x => K (pc + len) ls (mm_I x :: st) w)
    | .lload _ => mm_oL (ls.getD g none) (fun x => K (pc + len) ls (mm_L x :: st) w)
    | .lload_n _ => mm_oL (ls.getD g none) (fun x => K (pc + len) ls (mm_L x :: st) w)
    | .aload _ => mm_oA (ls.getD g none) (fun x => K (pc + len) ls (x :: st) w)
    | .aload_n _ => mm_oA (ls.getD g none) (fun x => K (pc + len) ls (x :: st) w)
    | .istore _ => mm_1i st (fun x r => K (pc + len) (mm_s1 ls g (mm_I x)) r w)
    | .istore_n _ => mm_1i st (fun x r => K (pc + len) (mm_s1 ls g (mm_I x)) r w)
    | .lstore _ => mm_1l st (fun x r => K (pc + len) (mm_s2 ls g (mm_L x)) r w)
    | .lstore_n _ => mm_1l st (fun x r => K (pc + len) (mm_s2 ls g (mm_L x)) r w)
    | .astore_n _ => mm_1r st (fun x r => K (pc + len) (mm_s1 ls g (mm_R x)) r w)
    | .astore _ => mm_1r st (fun x r => K (pc + len) (mm_s1 ls g (mm_R x)) r w)
    | .iinc _ _ => mm_oI (ls.getD g none) (fun x => K (pc + len) (mm_s1 ls g (mm_I (x + c))) st w)
    | .iadd => mm_2i st (fun x y r => K (pc + len) ls (mm_I (x + y) :: r) w)
    | .isub => mm_2i st (fun x y r => K (pc + len) ls (mm_I (x - y) :: r) w)
    | .imul => mm_2i st (fun x y r => K (pc + len) ls (mm_I (x * y) :: r) w)
    | .irem => mm_2i st (fun x y r => ¬ y = 0 ∧ K (pc + len) ls (mm_I (x - x / y * y) :: r) w)
    | .iand => mm_2i st (fun x y r => K (pc + len) ls (mm_I (x &&& y) :: r) w)
    | .ior => mm_2i st (fun x y r => K (pc + len) ls (mm_I (x ||| y) :: r) w)
    | .ixor => mm_2i st (fun x y r => K (pc + len) ls (mm_I (x ^^^ y) :: r) w)
    | .ishl => mm_2i st (fun x y r => K (pc + len) ls (mm_I (x <<< (y &&& 31)) :: r) w)
    | .ishr => mm_2i st (fun x y r => K (pc + len) ls (mm_I (x >>> (y &&& 31)) :: r) w)
    | .ladd => mm_2l st (fun x y r => K (pc + len) ls (mm_L (x + y) :: r) w)
    | .lsub => mm_2l st (fun x y r => K (pc + len) ls (mm_L (x - y) :: r) w)
    | .lmul => mm_2l st (fun x y r => K (pc + len) ls (mm_L (x * y) :: r) w)
    | .ldiv => mm_2l st (fun x y r => ¬ y = 0 ∧ K (pc + len) ls (mm_L (x / y) :: r) w)
    | .lrem => mm_2l st (fun x y r => ¬ y = 0 ∧ K (pc + len) ls (mm_L (x - x / y * y) :: r) w)
    | .lcmp => mm_2l st (fun x y r => K (pc + len) ls (mm_I (lg_cmp x y) :: r) w)
    | .i2l => mm_1i st (fun x r => K (pc + len) ls (mm_L x.toInt64 :: r) w)
    | .l2i => mm_1l st (fun x r => K (pc + len) ls (mm_I x.toInt32 :: r) w)
    | .dup => mm_1c st (fun v r => K (pc + len) ls (v :: v :: r) w)
    | .pop => mm_1c st (fun _ r => K (pc + len) ls r w)
    | .pop2 => mm_1l st (fun _ r => K (pc + len) ls r w)
    | .dup_x1 => mm_1c st (fun v r => mm_1c r (fun u q => K (pc + len) ls (v :: u :: v :: q) w))
    | .dup2 => mm_1c st (fun v r => mm_1c r (fun u q => K (pc + len) ls (v :: u :: v :: u :: q) w))
    | .goto _ => mm_t1 ax (fun t => K t ls st w)
    | .ifCond cd _ => mm_t1 ax (fun t => mm_1i st (fun x r => mm_if cd x (K t ls r w) (K (pc + len) ls r w)))
    | .if_icmp cd _ => mm_t1 ax (fun t => mm_2i st (fun x y r => mm_ic cd x y (K t ls r w) (K (pc + len) ls r w)))
    | .tableswitch _ _ _ _ => mm_1i st (fun x r => mm_cas x (fun t => K t ls r w) ax)
    | .lookupswitch _ _ => mm_1i st (fun x r => mm_cas x (fun t => K t ls r w) ax)
    | .getfield _ => mm_1r st (fun r q => mm_gf w ax r (fun v => K (pc + len) ls (v :: q) w))
    | .putfield _ => (match st with
      | v :: .inr (.inr (.inl r)) :: q => mm_pf w ax g r v (fun w' => K (pc + len) ls q w')
      | _ => False)
    | .getstatic _ => mm_t1 ax (fun j => K (pc + len) ls (mm_S j :: st) w)
    | .iaload => mm_ild tb w st (fun x r => K (pc + len) ls (mm_I x :: r) w)
    | .laload => mm_lld tb w st (fun x r => K (pc + len) ls (mm_L x :: r) w)
    | .baload => mm_bld w st (fun x r => K (pc + len) ls (mm_I x :: r) w)
    | .aaload => mm_qld w st (fun x r => K (pc + len) ls (mm_R x :: r) w)
    | .iastore => mm_ist w 0 st (fun w' r => K (pc + len) ls r w')
    | .bastore => mm_ist w 2 st (fun w' r => K (pc + len) ls r w')
    | .lastore => mm_lst w st (fun w' r => K (pc + len) ls r w')
    | .arraylength => mm_len tb w st (fun x r => K (pc + len) ls (mm_I x :: r) w)
    | .new _ => mm_new lim ax ls st w (fun v w' => K (pc + len) ls (v :: st) w')
    | .newarray _ => mm_nar lim ax ls st w (fun v r w' => K (pc + len) ls (v :: r) w')
    | .multianewarray _ _ => mm_nmu lim ax ls st w (fun v r w' => K (pc + len) ls (v :: r) w')
    | .invokestatic _ => mm_ivs call ms lim ax g ls st w (fun r w' => K (pc + len) ls r w')
    | .invokevirtual _ => mm_ivv call ms lim ax g ls st w (fun r w' => K (pc + len) ls r w')
    | .invokespecial _ => mm_ivi call ms lim ax g ls st w (fun r w' => K (pc + len) ls r w')
    | .ireturn => mm_irt (mm_Mr M) st (fun x => Q (some (mm_I x)) w)
    | .lreturn => mm_lrt (mm_Mr M) st (fun x => Q (some (mm_L x)) w)
    | .return_ => mm_vrt (mm_Mr M) st (Q none w)
    | _ => False
/-- from here the method ends with Q: the least such predicate -/
def mm_WP (call : mm_F) (ms : List mm_M) (tb : mm_T) (M : mm_M) (lim : Nat × Nat) (Q : Option mm_V → mm_W → Prop) (pc : Nat) (ls : List (Option mm_V)) (st : List mm_V) (w : mm_W) : Prop :=
  ∀ R : mm_K, (∀ pc ls st w, mm_stp call ms tb M lim Q R pc ls st w → R pc ls st w) → R pc ls st w
def mm_run (call : mm_F) (ms : List mm_M) (tb : mm_T) (M : mm_M) (As : List mm_V) (w : mm_W) (Q : Option mm_V → mm_W → Prop) : Prop :=
  match Nat.ble (mm_ar As).length (mm_Ml M) with
  | true => mm_WP call ms tb M (w.1.length + mm_Mk M, mm_sl w.1 + mm_Ms M) Q 0 (mm_ini (mm_Ml M) As) [] w
  | false => False
def mm_call (ms : List mm_M) (tb : mm_T) : Nat → mm_F
  | 0 => fun _ _ _ _ => False
  | d + 1 => fun mi As w Q => match ms[mi]? with
    | some M => mm_run (mm_call ms tb d) ms tb M As w Q
    | none => False
