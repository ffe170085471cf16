/-! ===== a step of the evaluator ===== -/
abbrev mm_EC : Type := Bool → Nat → List mm_V → mm_X → Option mm_Z
section MMF
variable {ρ : Type}
noncomputable def mm_einv (call : mm_EC) (fl : Bool) (lim : Nat × Nat) (mi : Nat) (ls : List (Option mm_V)) (As rest : List mm_V) (X : mm_X) (k : List mm_V → mm_X → Option ρ) : Option ρ := match Nat.ble (mm_cs rest) 8, mm_eL[mi]? with
  | true, some (_, M, _) => (match mm_Mk M with
    | 0 => (match call false mi As X with
      | some (o, X') => k (o.toList ++ rest) X'
      | none => none)
    | n + 1 => (match fl, mm_chk ls rest X.1, mm_rmb lim X (n + 1) (mm_Ms M) with
      | true, true, true => (match call true mi As X with
        | some (o, X') => (match Nat.beq X'.1.length (X.1.length + (n + 1)), Nat.beq (mm_sl X'.1) (mm_sl X.1 + mm_Ms M) with
          | true, true => k (o.toList ++ rest) X'
          | _, _ => none)
        | none => none)
      | _, _, _ => none))
  | _, _ => none
noncomputable def mm_eivo (call : mm_EC) (fl : Bool) (lim : Nat × Nat) (mi g : Nat) (ls : List (Option mm_V)) (st : List mm_V) (X : mm_X) (k : List mm_V → mm_X → Option ρ) : Option ρ := match mm_sp g [] st with
  | some (As, rest) => mm_einv call fl lim mi ls As rest X k
  | none => none
noncomputable def mm_eivs (call : mm_EC) (fl : Bool) (lim : Nat × Nat) (ax : List (Nat × Nat)) (g : Nat) (ls : List (Option mm_V)) (st : List mm_V) (X : mm_X) (k : List mm_V → mm_X → Option ρ) : Option ρ := match ax with
  | (0, mi) :: _ => mm_eivo call fl lim mi g ls st X k
  | (1, mi) :: _ => mm_eivo call fl lim mi g ls st X k
  | (2, _) :: _ => mm_e2i st (fun x y r => mm_eb8 r (match mm_lb x y with | true => k (mm_I y :: r) X | false => k (mm_I x :: r) X))
  | (3, _) :: _ => mm_e2i st (fun x y r => mm_eb8 r (match mm_lb y x with | true => k (mm_I y :: r) X | false => k (mm_I x :: r) X))
  | (4, _) :: _ => mm_e2l st (fun x y r => mm_eb8 r (mm_fd (if y < x then x else y) (fun z => k (mm_L z :: r) X)))
  | _ => none
noncomputable def mm_eivv (call : mm_EC) (fl : Bool) (lim : Nat × Nat) (ax : List (Nat × Nat)) (g : Nat) (ls : List (Option mm_V)) (st : List mm_V) (X : mm_X) (k : List mm_V → mm_X → Option ρ) : Option ρ := match mm_sp g [] st with
  | some (As, .inr (.inr (.inl r)) :: rest) => (match X.1[r]? with
    | some (.inl (ci, _)) => (match mm_fi ax ci with
      | some mi => mm_einv call fl lim mi ls (mm_R r :: As) rest X k
      | none => none)
    | _ => none)
  | _ => none
noncomputable def mm_eivi (call : mm_EC) (fl : Bool) (lim : Nat × Nat) (ax : List (Nat × Nat)) (g : Nat) (ls : List (Option mm_V)) (st : List mm_V) (X : mm_X) (k : List mm_V → mm_X → Option ρ) : Option ρ := match ax, mm_sp g [] st with
  | (_, mi) :: _, some (As, .inr (.inr (.inl r)) :: rest) => mm_einv call fl lim mi ls (mm_R r :: As) rest X k
  | [], some (_, .inr (.inr (.inl _)) :: rest) => (match Nat.ble (mm_cs rest) 8 with
    | true => k rest X
    | false => none)
  | _, _ => none
noncomputable def mm_est (kz : Nat → Bool) (call : mm_EC) (f : Nat → mm_E) (n : Nat) (ret : Option FieldType) (lim : Nat × Nat) (fl : Bool) (q : Option mm_V → mm_X → Option ρ) (K : Nat → List (Option mm_V) → List mm_V → mm_X → Option ρ) (pc : Nat) (ls : List (Option mm_V)) (st : List mm_V) (X : mm_X) : Option ρ :=
  match Nat.ble n pc with
  | true => none
  | false => match f pc with
    | (i, len, ax, _, g, c, c8, _) => mm_fn (pc + len) (fun nx => match i with
      | .iconst _ => mm_fc c (fun x => K nx ls (mm_I x :: st) X)
      | .bipush _ => mm_fc c (fun x => K nx ls (mm_I x :: st) X)
      | .sipush _ => mm_fc c (fun x => K nx ls (mm_I x :: st) X)
      | .ldc _ => mm_fc c (fun x => K nx ls (mm_I x :: st) X)
      | .lconst _ => mm_fd c8 (fun x => K nx ls (mm_L x :: st) X)
      | .ldc2_w _ => mm_fd c8 (fun x => K nx ls (mm_L x :: st) X)
      | .iload _ => mm_eoI (ls.getD g none) (fun x => K nx ls (mm_I x :: st) X)
      | .iload_n _ => mm_eoI (ls.getD g none) (fun x => K nx ls (mm_I x :: st) X)
      | .lload _ => mm_eoL (ls.getD g none) (fun x => K nx ls (mm_L x :: st) X)
      | .lload_n _ => mm_eoL (ls.getD g none) (fun x => K nx ls (mm_L x :: st) X)
      | .aload _ => mm_eoA (ls.getD g none) (fun x => K nx ls (x :: st) X)
      | .aload_n _ => mm_eoA (ls.getD g none) (fun x => K nx ls (x :: st) X)
      | .istore _ => mm_e1i st (fun x r => mm_fl (mm_s1 ls g (mm_I x)) (fun ls' => K nx ls' r X))
      | .istore_n _ => mm_e1i st (fun x r => mm_fl (mm_s1 ls g (mm_I x)) (fun ls' => K nx ls' r X))
      | .lstore _ => mm_e1l st (fun x r => mm_fl (mm_s2 ls g (mm_L x)) (fun ls' => K nx ls' r X))
      | .lstore_n _ => mm_e1l st (fun x r => mm_fl (mm_s2 ls g (mm_L x)) (fun ls' => K nx ls' r X))
      | .astore_n _ => mm_e1r st (fun x r => mm_fl (mm_s1 ls g (mm_R x)) (fun ls' => K nx ls' r X))
      | .astore _ => mm_e1r st (fun x r => mm_fl (mm_s1 ls g (mm_R x)) (fun ls' => K nx ls' r X))
      | .iinc _ _ => mm_eoI (ls.getD g none) (fun x => mm_fc (x + c) (fun y => mm_fl (mm_s1 ls g (mm_I y)) (fun ls' => K nx ls' st X)))
      | .iadd => mm_e2i st (fun x y r => mm_fc (x + y) (fun z => K nx ls (mm_I z :: r) X))
      | .isub => mm_e2i st (fun x y r => mm_fc (x - y) (fun z => K nx ls (mm_I z :: r) X))
      | .imul => mm_e2i st (fun x y r => mm_fc (x * y) (fun z => K nx ls (mm_I z :: r) X))
      | .irem => mm_e2i st (fun x y r => match mm_qb y 0 with | true => none | false => mm_fc (x - x / y * y) (fun z => K nx ls (mm_I z :: r) X))
      | .iand => mm_e2i st (fun x y r => mm_fc (x &&& y) (fun z => K nx ls (mm_I z :: r) X))
      | .ior => mm_e2i st (fun x y r => mm_fc (x ||| y) (fun z => K nx ls (mm_I z :: r) X))
      | .ixor => mm_e2i st (fun x y r => mm_fc (x ^^^ y) (fun z => K nx ls (mm_I z :: r) X))
      | .ishl => mm_e2i st (fun x y r => mm_fc (x <<< (y &&& 31)) (fun z => K nx ls (mm_I z :: r) X))
      | .ishr => mm_e2i st (fun x y r => mm_fc (x >>> (y &&& 31)) (fun z => K nx ls (mm_I z :: r) X))
      | .ladd => mm_e2l st (fun x y r => mm_fd (x + y) (fun z => K nx ls (mm_L z :: r) X))
      | .lsub => mm_e2l st (fun x y r => mm_fd (x - y) (fun z => K nx ls (mm_L z :: r) X))
      | .lmul => mm_e2l st (fun x y r => mm_fd (x * y) (fun z => K nx ls (mm_L z :: r) X))
      | .lcmp => mm_e2l st (fun x y r => mm_fc (lg_cmp x y) (fun z => K nx ls (mm_I z :: r) X))
      | .i2l => mm_e1i st (fun x r => mm_fd x.toInt64 (fun z => K nx ls (mm_L z :: r) X))
      | .l2i => mm_e1l st (fun x r => mm_fc x.toInt32 (fun z => K nx ls (mm_I z :: r) X))
      | .dup => mm_e1c st (fun v r => K nx ls (v :: v :: r) X)
      | .pop => mm_e1c st (fun _ r => K nx ls r X)
      | .dup_x1 => mm_e1c st (fun v r => mm_e1c r (fun u q => K nx ls (v :: u :: v :: q) X))
      | .dup2 => mm_e1c st (fun v r => mm_e1c r (fun u q => K nx ls (v :: u :: v :: u :: q) X))
      | .goto _ => mm_et1 ax (fun t => K t ls st X)
      | .ifCond cd _ => mm_et1 ax (fun t => mm_e1i st (fun x r => mm_eif cd x (K t ls r X) (K nx ls r X)))
      | .if_icmp cd _ => mm_et1 ax (fun t => mm_e2i st (fun x y r => mm_eic cd x y (K t ls r X) (K nx ls r X)))
      | .tableswitch _ _ _ _ => mm_e1i st (fun x r => mm_ecas x (fun t => K t ls r X) ax)
      | .lookupswitch _ _ => mm_e1i st (fun x r => mm_ecas x (fun t => K t ls r X) ax)
      | .getfield _ => mm_e1r st (fun r q => mm_egf kz X ax r (fun v => K nx ls (v :: q) X))
      | .putfield _ => (match st with
        | v :: .inr (.inr (.inl r)) :: q => mm_epf fl X ax g r v (fun X' => K nx ls q X')
        | _ => none)
      | .getstatic _ => mm_et1 ax (fun j => K nx ls (mm_S j :: st) X)
      | .iaload => mm_eild kz X st (fun x r => K nx ls (mm_I x :: r) X)
      | .laload => mm_elld kz X st (fun x r => K nx ls (mm_L x :: r) X)
      | .baload => mm_ebld kz X st (fun x r => K nx ls (mm_I x :: r) X)
      | .aaload => mm_eqld X st (fun x r => K nx ls (mm_R x :: r) X)
      | .iastore => mm_eist X 0 st (fun X' r => K nx ls r X')
      | .bastore => mm_eist X 2 st (fun X' r => K nx ls r X')
      | .lastore => mm_elst X st (fun X' r => K nx ls r X')
      | .arraylength => mm_elen X st (fun x r => mm_fc x (fun z => K nx ls (mm_I z :: r) X))
      | .new _ => mm_enew fl lim ax ls st X (fun v X' => K nx ls (v :: st) X')
      | .newarray _ => mm_enar fl lim ax ls st X (fun v r X' => K nx ls (v :: r) X')
      | .multianewarray _ _ => mm_enmu fl lim ax ls st X (fun v r X' => K nx ls (v :: r) X')
      | .invokestatic _ => mm_eivs call fl lim ax g ls st X (fun r X' => K nx ls r X')
      | .invokevirtual _ => mm_eivv call fl lim ax g ls st X (fun r X' => K nx ls r X')
      | .invokespecial _ => mm_eivi call fl lim ax g ls st X (fun r X' => K nx ls r X')
      | .ireturn => mm_eirt ret st (fun x => q (some (mm_I x)) X)
      | .lreturn => mm_elrt ret st (fun x => q (some (mm_L x)) X)
      | .return_ => mm_evrt ret st (q none X)
      | _ => none)
end MMF
noncomputable def mm_evl (kz : Nat → Bool) (call : mm_EC) (f : Nat → mm_E) (n : Nat) (ret : Option FieldType) (lim : Nat × Nat) (fl : Bool) (k : Nat) : Nat → List (Option mm_V) → List mm_V → mm_X → Option mm_Z :=
  Nat.rec (motive := fun _ => Nat → List (Option mm_V) → List mm_V → mm_X → Option mm_Z) (fun _ _ _ _ => none) (fun _ ih pc ls st X => mm_est kz call f n ret lim fl (fun o X' => some (o, X')) ih pc ls st X) k
noncomputable def mm_evc (kz : Nat → Bool) (d : Nat) : mm_EC :=
  Nat.rec (motive := fun _ => mm_EC) (fun _ _ _ _ => none) (fun _ ih fl mi As X => match mm_eL[mi]? with
    | some (f, M, n) => (match Nat.ble (mm_ar As).length (mm_Ml M) with
      | true => mm_fl (mm_ini (mm_Ml M) As) (fun ls => mm_evl kz ih f n (mm_Mr M) (X.1.length + mm_Mk M, mm_sl X.1 + mm_Ms M) fl 100000 0 ls [] X)
      | false => none)
    | none => none) d
/-- up to a place of the method where one stops -/
noncomputable def mm_evp (kz : Nat → Bool) (call : mm_EC) (f : Nat → mm_E) (n : Nat) (ret : Option FieldType) (lim : Nat × Nat) (fl : Bool) (stop : Nat) (k : Nat) : Nat → List (Option mm_V) → List mm_V → mm_X → Option (List (Option mm_V) × List mm_V × mm_X) :=
  Nat.rec (motive := fun _ => Nat → List (Option mm_V) → List mm_V → mm_X → Option (List (Option mm_V) × List mm_V × mm_X)) (fun _ _ _ _ => none) (fun _ ih pc ls st X => match Nat.beq pc stop with
    | true => some (ls, st, X)
    | false => mm_est kz call f n ret lim fl (fun _ _ => none) ih pc ls st X) k
