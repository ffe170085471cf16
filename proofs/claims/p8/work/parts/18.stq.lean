/-! ===== the abstract machine over cells that stay as they are ===== -/
abbrev mm_P : Type := Nat → Nat → Int32
abbrev mm_G : Type := Nat → Nat → Int64
abbrev mm_KQ : Type := Nat → List (Option mm_V) → List mm_V → mm_P → mm_G → Prop
abbrev mm_QQ : Type := Option mm_V → mm_P → mm_G → Prop
def mm_gfq (mi : mm_P) (ax : List (Nat × Nat)) (r : Nat) (k : mm_V → Prop) : Prop := match mm_LF r with
  | some (.inl (ci, fs)) => (match mm_fi ax ci with
    | some j => (match fs[j]? with
      | some none => k (mm_I (mi r j))
      | some (some none) => k mm_N
      | some (some (some a)) => k (mm_R a)
      | none => False)
    | none => False)
  | _ => False
def mm_pfq (mi : mm_P) (ax : List (Nat × Nat)) (r : Nat) (v : mm_V) (k : mm_P → Prop) : Prop := match mm_LF r with
  | some (.inl (ci, fs)) => (match mm_fi ax ci with
    | some j => (match fs[j]?, v with
      | some none, .inl x => k (mm_u mi r j x)
      | _, _ => False)
    | none => False)
  | _ => False
def mm_alq (t r : Nat) (i : Int32) (k : Prop) : Prop := match mm_LF r with
  | some (.inr (.inl (t', n))) => (match Nat.beq t' t with
    | true => vp_in i n ∧ k
    | false => False)
  | _ => False
def mm_ilq (tb : mm_T) (mi : mm_P) (st : List mm_V) (k : Int32 → List mm_V → Prop) : Prop := match st with
  | .inl i :: .inr (.inr (.inl r)) :: s => mm_alq 0 r i (k (mi r i.toNatClampNeg) s)
  | .inl i :: .inr (.inr (.inr (.inl j))) :: s => (match tb j with
    | (n, .inl f) => vp_in i n ∧ k (f i.toNatClampNeg) s
    | _ => False)
  | _ => False
def mm_llq (tb : mm_T) (ml : mm_G) (st : List mm_V) (k : Int64 → List mm_V → Prop) : Prop := match st with
  | .inl i :: .inr (.inr (.inl r)) :: s => mm_alq 1 r i (k (ml r i.toNatClampNeg) s)
  | .inl i :: .inr (.inr (.inr (.inl j))) :: s => (match tb j with
    | (n, .inr f) => vp_in i n ∧ k (f i.toNatClampNeg) s
    | _ => False)
  | _ => False
def mm_blq (mi : mm_P) (st : List mm_V) (k : Int32 → List mm_V → Prop) : Prop := match st with
  | .inl i :: .inr (.inr (.inl r)) :: s => mm_alq 2 r i (k (mi r i.toNatClampNeg) s)
  | _ => False
def mm_qlq (st : List mm_V) (k : Nat → List mm_V → Prop) : Prop := match st with
  | .inl i :: .inr (.inr (.inl r)) :: s => (match mm_LF r with
    | some (.inr (.inr (_, n, b))) => vp_in i n ∧ k (b + i.toNatClampNeg) s
    | _ => False)
  | _ => False
def mm_isq (mi : mm_P) (t : Nat) (st : List mm_V) (k : mm_P → List mm_V → Prop) : Prop := match st with
  | .inl x :: .inl i :: .inr (.inr (.inl r)) :: s => mm_alq t r i (match t with
    | 0 => k (mm_u mi r i.toNatClampNeg x) s
    | _ => k (mm_u mi r i.toNatClampNeg (vp_nar .boolean x)) s)
  | _ => False
def mm_lsq (ml : mm_G) (st : List mm_V) (k : mm_G → List mm_V → Prop) : Prop := match st with
  | .inr (.inl x) :: .inl i :: .inr (.inr (.inl r)) :: s => mm_alq 1 r i (k (mm_u ml r i.toNatClampNeg x) s)
  | _ => False
def mm_leq (tb : mm_T) (st : List mm_V) (k : Int32 → List mm_V → Prop) : Prop := match st with
  | .inr (.inr (.inl r)) :: s => (match mm_LF r with
    | some (.inr (.inl (_, n))) => k (nI n) s
    | _ => False)
  | .inr (.inr (.inr (.inl j))) :: s => k (nI (tb j).1) s
  | _ => False
/-- a call of a method that makes nothing -/
def mm_cq (call : mm_F) (mi : Nat) (As : List mm_V) (m1 : mm_P) (m2 : mm_G) (Q : mm_QQ) : Prop := call mi As (mm_LAY, m1, m2) (fun o w' => w'.1 = mm_LAY ∧ Q o w'.2.1 w'.2.2)
def mm_ivq (call : mm_F) (mi : Nat) (As rest : List mm_V) (m1 : mm_P) (m2 : mm_G) (k : List mm_V → mm_P → mm_G → Prop) : Prop := match Nat.ble (mm_cs rest) 8, mm_nal mi with
  | true, true => mm_cq call mi As m1 m2 (fun o n1 n2 => k (o.toList ++ rest) n1 n2)
  | _, _ => False
def mm_ioq (call : mm_F) (mi g : Nat) (st : List mm_V) (m1 : mm_P) (m2 : mm_G) (k : List mm_V → mm_P → mm_G → Prop) : Prop := match mm_sp g [] st with
  | some (As, rest) => mm_ivq call mi As rest m1 m2 k
  | none => False
def mm_issq (call : mm_F) (ax : List (Nat × Nat)) (g : Nat) (st : List mm_V) (m1 : mm_P) (m2 : mm_G) (k : List mm_V → mm_P → mm_G → Prop) : Prop := match ax with
  | (0, mi) :: _ => mm_ioq call mi g st m1 m2 k
  | (1, mi) :: _ => mm_ioq call mi g st m1 m2 k
  | (2, _) :: _ => mm_2i st (fun x y r => mm_b8 r (k (mm_I (if x < y then y else x) :: r) m1 m2))
  | (3, _) :: _ => mm_2i st (fun x y r => mm_b8 r (k (mm_I (if y < x then y else x) :: r) m1 m2))
  | (4, _) :: _ => mm_2l st (fun x y r => mm_b8 r (k (mm_L (if y < x then x else y) :: r) m1 m2))
  | _ => False
def mm_isvq (call : mm_F) (ax : List (Nat × Nat)) (g : Nat) (st : List mm_V) (m1 : mm_P) (m2 : mm_G) (k : List mm_V → mm_P → mm_G → Prop) : Prop := match mm_sp g [] st with
  | some (As, .inr (.inr (.inl r)) :: rest) => (match mm_LF r with
    | some (.inl (ci, _)) => (match mm_fi ax ci with
      | some mi => mm_ivq call mi (mm_R r :: As) rest m1 m2 k
      | none => False)
    | _ => False)
  | _ => False
def mm_stq (call : mm_F) (tb : mm_T) (f : Nat → mm_E) (n : Nat) (ret : Option FieldType) (Q : mm_QQ) (K : mm_KQ) (pc : Nat) (ls : List (Option mm_V)) (st : List mm_V) (m1 : mm_P) (m2 : mm_G) : Prop :=
  match Nat.ble n pc with
  | true => False
  | false => match f pc with
    | (i, len, ax, _, g, c, c8, _) => match i with
      | .iconst _ => K (pc + len) ls (mm_I c :: st) m1 m2
      | .bipush _ => K (pc + len) ls (mm_I c :: st) m1 m2
      | .sipush _ => K (pc + len) ls (mm_I c :: st) m1 m2
      | .ldc _ => K (pc + len) ls (mm_I c :: st) m1 m2
      | .lconst _ => K (pc + len) ls (mm_L c8 :: st) m1 m2
      | .ldc2_w _ => K (pc + len) ls (mm_L c8 :: st) m1 m2
      | .iload _ => mm_oI (ls.getD g none) (fun x => K (pc + len) ls (mm_I x :: st) m1 m2)
      | .iload_n _ => mm_oI (ls.getD g none) (fun x => K (pc + len) ls (mm_I x :: st) m1 m2)
      | .lload _ => mm_oL (ls.getD g none) (fun x => K (pc + len) ls (mm_L x :: st) m1 m2)
      | .lload_n _ => mm_oL (ls.getD g none) (fun x => K (pc + len) ls (mm_L x :: st) m1 m2)
      | .aload _ => mm_oA (ls.getD g none) (fun x => K (pc + len) ls (x :: st) m1 m2)
      | .aload_n _ => mm_oA (ls.getD g none) (fun x => K (pc + len) ls (x :: st) m1 m2)
      | .istore _ => mm_1i st (fun x r => K (pc + len) (mm_s1 ls g (mm_I x)) r m1 m2)
      | .istore_n _ => mm_1i st (fun x r => K (pc + len) (mm_s1 ls g (mm_I x)) r m1 m2)
      | .lstore _ => mm_1l st (fun x r => K (pc + len) (mm_s2 ls g (mm_L x)) r m1 m2)
      | .lstore_n _ => mm_1l st (fun x r => K (pc + len) (mm_s2 ls g (mm_L x)) r m1 m2)
      | .astore_n _ => mm_1r st (fun x r => K (pc + len) (mm_s1 ls g (mm_R x)) r m1 m2)
      | .astore _ => mm_1r st (fun x r => K (pc + len) (mm_s1 ls g (mm_R x)) r m1 m2)
      | .iinc _ _ => mm_oI (ls.getD g none) (fun x => K (pc + len) (mm_s1 ls g (mm_I (x + c))) st m1 m2)
      | .iadd => mm_2i st (fun x y r => K (pc + len) ls (mm_I (x + y) :: r) m1 m2)
      | .isub => mm_2i st (fun x y r => K (pc + len) ls (mm_I (x - y) :: r) m1 m2)
      | .imul => mm_2i st (fun x y r => K (pc + len) ls (mm_I (x * y) :: r) m1 m2)
      | .irem => mm_2i st (fun x y r => ¬ y = 0 ∧ K (pc + len) ls (mm_I (x - x / y * y) :: r) m1 m2)
      | .iand => mm_2i st (fun x y r => K (pc + len) ls (mm_I (x &&& y) :: r) m1 m2)
      | .ior => mm_2i st (fun x y r => K (pc + len) ls (mm_I (x ||| y) :: r) m1 m2)
      | .ixor => mm_2i st (fun x y r => K (pc + len) ls (mm_I (x ^^^ y) :: r) m1 m2)
      | .ishl => mm_2i st (fun x y r => K (pc + len) ls (mm_I (x <<< (y &&& 31)) :: r) m1 m2)
      | .ishr => mm_2i st (fun x y r => K (pc + len) ls (mm_I (x >>> (y &&& 31)) :: r) m1 m2)
      | .ladd => mm_2l st (fun x y r => K (pc + len) ls (mm_L (x + y) :: r) m1 m2)
      | .lsub => mm_2l st (fun x y r => K (pc + len) ls (mm_L (x - y) :: r) m1 m2)
      | .lmul => mm_2l st (fun x y r => K (pc + len) ls (mm_L (x * y) :: r) m1 m2)
      | .ldiv => mm_2l st (fun x y r => ¬ y = 0 ∧ K (pc + len) ls (mm_L (x / y) :: r) m1 m2)
      | .lrem => mm_2l st (fun x y r => ¬ y = 0 ∧ K (pc + len) ls (mm_L (x - x / y * y) :: r) m1 m2)
      | .lcmp => mm_2l st (fun x y r => K (pc + len) ls (mm_I (lg_cmp x y) :: r) m1 m2)
      | .i2l => mm_1i st (fun x r => K (pc + len) ls (mm_L x.toInt64 :: r) m1 m2)
      | .l2i => mm_1l st (fun x r => K (pc + len) ls (mm_I x.toInt32 :: r) m1 m2)
      | .dup => mm_1c st (fun v r => K (pc + len) ls (v :: v :: r) m1 m2)
      | .pop => mm_1c st (fun _ r => K (pc + len) ls r m1 m2)
      | .pop2 => mm_1l st (fun _ r => K (pc + len) ls r m1 m2)
      | .dup_x1 => mm_1c st (fun v r => mm_1c r (fun u q => K (pc + len) ls (v :: u :: v :: q) m1 m2))
      | .dup2 => mm_1c st (fun v r => mm_1c r (fun u q => K (pc + len) ls (v :: u :: v :: u :: q) m1 m2))
      | .goto _ => mm_t1 ax (fun t => K t ls st m1 m2)
      | .ifCond cd _ => mm_t1 ax (fun t => mm_1i st (fun x r => mm_if cd x (K t ls r m1 m2) (K (pc + len) ls r m1 m2)))
      | .if_icmp cd _ => mm_t1 ax (fun t => mm_2i st (fun x y r => mm_ic cd x y (K t ls r m1 m2) (K (pc + len) ls r m1 m2)))
      | .tableswitch _ _ _ _ => mm_1i st (fun x r => mm_cas x (fun t => K t ls r m1 m2) ax)
      | .lookupswitch _ _ => mm_1i st (fun x r => mm_cas x (fun t => K t ls r m1 m2) ax)
      | .getfield _ => mm_1r st (fun r q => mm_gfq m1 ax r (fun v => K (pc + len) ls (v :: q) m1 m2))
      | .putfield _ => (match g, st with
        | 0, v :: .inr (.inr (.inl r)) :: q => mm_pfq m1 ax r v (fun n1 => K (pc + len) ls q n1 m2)
        | _, _ => False)
      | .getstatic _ => mm_t1 ax (fun j => K (pc + len) ls (mm_S j :: st) m1 m2)
      | .iaload => mm_ilq tb m1 st (fun x r => K (pc + len) ls (mm_I x :: r) m1 m2)
      | .laload => mm_llq tb m2 st (fun x r => K (pc + len) ls (mm_L x :: r) m1 m2)
      | .baload => mm_blq m1 st (fun x r => K (pc + len) ls (mm_I x :: r) m1 m2)
      | .aaload => mm_qlq st (fun x r => K (pc + len) ls (mm_R x :: r) m1 m2)
      | .iastore => mm_isq m1 0 st (fun n1 r => K (pc + len) ls r n1 m2)
      | .bastore => mm_isq m1 2 st (fun n1 r => K (pc + len) ls r n1 m2)
      | .lastore => mm_lsq m2 st (fun n2 r => K (pc + len) ls r m1 n2)
      | .arraylength => mm_leq tb st (fun x r => K (pc + len) ls (mm_I x :: r) m1 m2)
      | .invokestatic _ => mm_issq call ax g st m1 m2 (fun r n1 n2 => K (pc + len) ls r n1 n2)
      | .invokevirtual _ => mm_isvq call ax g st m1 m2 (fun r n1 n2 => K (pc + len) ls r n1 n2)
      | .ireturn => mm_irt ret st (fun x => Q (some (mm_I x)) m1 m2)
      | .lreturn => mm_lrt ret st (fun x => Q (some (mm_L x)) m1 m2)
      | .return_ => mm_vrt ret st (Q none m1 m2)
      | _ => False
section MMQ
variable {call : mm_F} {tb : mm_T} {M : mm_M} {lim : Nat × Nat} {f : Nat → mm_E} {n : Nat} {Q : mm_QQ} {K : mm_KQ} {K' : mm_K}
theorem mm_gfq_s {m1 : mm_P} {m2 : mm_G} {ax : List (Nat × Nat)} {r : Nat} {k k' : mm_V → Prop} (hk : ∀ v, k v → k' v) (h : mm_gfq m1 ax r k) : mm_gf (mm_LAY, m1, m2) ax r k' := by
  unfold mm_gfq at h
  unfold mm_gf
  rw [show ((mm_LAY, m1, m2) : mm_W).1[r]? = mm_LF r from mm_LF_at r]
  revert h
  cases mm_LF r with
  | none => exact fun h => h
  | some c =>
    rcases c with ⟨ci, fs⟩ | c
    · dsimp only
      cases mm_fi ax ci with
      | none => exact fun h => h
      | some j =>
        dsimp only
        cases fs[j]? with
        | none => exact fun h => h
        | some o => rcases o with _ | _ | a <;> exact hk _
    · exact fun h => h.elim
theorem mm_pfq_s {m1 : mm_P} {m2 : mm_G} {ax : List (Nat × Nat)} {r : Nat} {v : mm_V} {k : mm_P → Prop} {k' : mm_W → Prop} (hk : ∀ n1, k n1 → k' (mm_LAY, n1, m2)) (h : mm_pfq m1 ax r v k) : mm_pf (mm_LAY, m1, m2) ax 0 r v k' := by
  unfold mm_pfq at h
  unfold mm_pf
  rw [show ((mm_LAY, m1, m2) : mm_W).1[r]? = mm_LF r from mm_LF_at r]
  revert h
  cases mm_LF r with
  | none => exact fun h => h
  | some c =>
    rcases c with ⟨ci, fs⟩ | c
    · dsimp only
      cases mm_fi ax ci with
      | none => exact fun h => h
      | some j =>
        dsimp only
        cases fs[j]? with
        | none => exact fun h => h.elim
        | some o =>
          cases o with
          | none =>
            cases v with
            | inl x => exact hk _
            | inr x => exact fun h => h.elim
          | some o => exact fun h => by cases v <;> exact h.elim
    · exact fun h => h.elim
theorem mm_alq_s {m1 : mm_P} {m2 : mm_G} {t r : Nat} {i : Int32} {k k' : Prop} (hk : k → k') (h : mm_alq t r i k) : mm_ald (mm_LAY, m1, m2) t r i k' := by
  unfold mm_alq at h
  split at h
  · rename_i t' n hr
    split at h
    · rename_i hb
      have : t' = t := Nat.eq_of_beq_eq_true hb
      subst this
      exact mm_ald_i (show ((mm_LAY, m1, m2) : mm_W).1[r]? = _ from (mm_LF_at r).trans hr) ⟨h.1, hk h.2⟩
    · exact h.elim
  · exact h.elim
theorem mm_ivq_s {mi : Nat} {As rest : List mm_V} {m1 : mm_P} {m2 : mm_G} {ls : List (Option mm_V)} {k : List mm_V → mm_P → mm_G → Prop} {k' : List mm_V → mm_W → Prop} (hc : mm_mono call) (hk : ∀ q n1 n2, k q n1 n2 → k' q (mm_LAY, n1, n2)) (h : mm_ivq call mi As rest m1 m2 k) : mm_inv call mm_ms lim mi ls As rest (mm_LAY, m1, m2) k' := by
  unfold mm_ivq at h
  unfold mm_inv
  split at h
  · rename_i h1 h2
    rw [h1]
    obtain ⟨M1, hM1, hk0⟩ := mm_nal_e h2
    rw [hM1]
    dsimp only
    rw [hk0]
    refine hc _ _ _ _ _ (fun o w' z => ?_) h
    obtain ⟨l0, a0, b0⟩ := w'
    obtain ⟨z1, z2⟩ := z
    dsimp only at z1 z2
    subst z1
    exact ⟨rfl, hk _ _ _ z2⟩
  · exact h.elim
theorem mm_ioq_s {mi g : Nat} {st : List mm_V} {m1 : mm_P} {m2 : mm_G} {ls : List (Option mm_V)} {k : List mm_V → mm_P → mm_G → Prop} {k' : List mm_V → mm_W → Prop} (hc : mm_mono call) (hk : ∀ q n1 n2, k q n1 n2 → k' q (mm_LAY, n1, n2)) (h : mm_ioq call mi g st m1 m2 k) : mm_ivo call mm_ms lim mi g ls st (mm_LAY, m1, m2) k' := by
  unfold mm_ioq at h
  unfold mm_ivo
  split at h
  · rename_i As rest hsp
    rw [hsp]
    exact mm_ivq_s hc hk h
  · exact h.elim
theorem mm_stq_s (hf : mm_Mc M = (List.range n).map f) (hc : mm_mono call) (hK : ∀ pc ls st m1 m2, K pc ls st m1 m2 → K' pc ls st (mm_LAY, m1, m2)) {pc : Nat} {ls : List (Option mm_V)} {st : List mm_V} {m1 : mm_P} {m2 : mm_G} (h : mm_stq call tb f n (mm_Mr M) Q K pc ls st m1 m2) : mm_stp call mm_ms tb M lim (fun o w => w.1 = mm_LAY ∧ Q o w.2.1 w.2.2) K' pc ls st (mm_LAY, m1, m2) := by
  unfold mm_stq at h
  split at h
  · exact h.elim
  · rename_i hle
    have hlt : pc < n := by
      rcases Nat.lt_or_ge pc n with q | q
      · exact q
      · rw [Nat.ble_eq_true_of_le q] at hle
        cases hle
    have hget : (mm_Mc M).getD pc mm_nop = f pc := by
      rw [hf, List.getD_eq_getElem?_getD, List.getElem?_map, List.getElem?_range hlt]
      rfl
    unfold mm_stp
    rw [hget]
    generalize f pc = e0 at h
    obtain ⟨i, len, ax, ps, g, c1, c8, q0⟩ := e0
    dsimp only at h ⊢
    cases i with
    | iconst n => exact hK _ _ _ _ _ h
    | bipush n => exact hK _ _ _ _ _ h
    | sipush n => exact hK _ _ _ _ _ h
    | ldc n => exact hK _ _ _ _ _ h
    | lconst n => exact hK _ _ _ _ _ h
    | ldc2_w n => exact hK _ _ _ _ _ h
    | iload n => exact mm_oI_m (fun _ => hK _ _ _ _ _) h
    | iload_n n => exact mm_oI_m (fun _ => hK _ _ _ _ _) h
    | lload n => exact mm_oL_m (fun _ => hK _ _ _ _ _) h
    | lload_n n => exact mm_oL_m (fun _ => hK _ _ _ _ _) h
    | aload n => exact mm_oA_m (fun _ => hK _ _ _ _ _) h
    | aload_n n => exact mm_oA_m (fun _ => hK _ _ _ _ _) h
    | istore n => exact mm_1i_m (fun _ _ => hK _ _ _ _ _) h
    | istore_n n => exact mm_1i_m (fun _ _ => hK _ _ _ _ _) h
    | lstore n => exact mm_1l_m (fun _ _ => hK _ _ _ _ _) h
    | lstore_n n => exact mm_1l_m (fun _ _ => hK _ _ _ _ _) h
    | astore n => exact mm_1r_m (fun _ _ => hK _ _ _ _ _) h
    | astore_n n => exact mm_1r_m (fun _ _ => hK _ _ _ _ _) h
    | iinc a b => exact mm_oI_m (fun _ => hK _ _ _ _ _) h
    | iadd => exact mm_2i_m (fun _ _ _ => hK _ _ _ _ _) h
    | isub => exact mm_2i_m (fun _ _ _ => hK _ _ _ _ _) h
    | imul => exact mm_2i_m (fun _ _ _ => hK _ _ _ _ _) h
    | irem => exact mm_2i_m (fun _ _ _ z => ⟨z.1, hK _ _ _ _ _ z.2⟩) h
    | iand => exact mm_2i_m (fun _ _ _ => hK _ _ _ _ _) h
    | ior => exact mm_2i_m (fun _ _ _ => hK _ _ _ _ _) h
    | ixor => exact mm_2i_m (fun _ _ _ => hK _ _ _ _ _) h
    | ishl => exact mm_2i_m (fun _ _ _ => hK _ _ _ _ _) h
    | ishr => exact mm_2i_m (fun _ _ _ => hK _ _ _ _ _) h
    | ladd => exact mm_2l_m (fun _ _ _ => hK _ _ _ _ _) h
    | lsub => exact mm_2l_m (fun _ _ _ => hK _ _ _ _ _) h
    | lmul => exact mm_2l_m (fun _ _ _ => hK _ _ _ _ _) h
    | ldiv => exact mm_2l_m (fun _ _ _ z => ⟨z.1, hK _ _ _ _ _ z.2⟩) h
    | lrem => exact mm_2l_m (fun _ _ _ z => ⟨z.1, hK _ _ _ _ _ z.2⟩) h
    | lcmp => exact mm_2l_m (fun _ _ _ => hK _ _ _ _ _) h
    | i2l => exact mm_1i_m (fun _ _ => hK _ _ _ _ _) h
    | l2i => exact mm_1l_m (fun _ _ => hK _ _ _ _ _) h
    | dup => exact mm_1c_m (fun _ _ => hK _ _ _ _ _) h
    | pop => exact mm_1c_m (fun _ _ => hK _ _ _ _ _) h
    | pop2 => exact mm_1l_m (fun _ _ => hK _ _ _ _ _) h
    | dup_x1 => exact mm_1c_m (fun _ _ => mm_1c_m (fun _ _ => hK _ _ _ _ _)) h
    | dup2 => exact mm_1c_m (fun _ _ => mm_1c_m (fun _ _ => hK _ _ _ _ _)) h
    | goto o => exact mm_t1_m (fun _ => hK _ _ _ _ _) h
    | ifCond cd o => exact mm_t1_m (fun _ => mm_1i_m (fun _ _ => mm_if_m (hK _ _ _ _ _) (hK _ _ _ _ _))) h
    | if_icmp cd o => exact mm_t1_m (fun _ => mm_2i_m (fun _ _ _ => mm_ic_m (hK _ _ _ _ _) (hK _ _ _ _ _))) h
    | tableswitch a b c d => exact mm_1i_m (fun _ _ => mm_cas_m (fun _ => hK _ _ _ _ _)) h
    | lookupswitch a b => exact mm_1i_m (fun _ _ => mm_cas_m (fun _ => hK _ _ _ _ _)) h
    | getfield n => exact mm_1r_m (fun _ _ => mm_gfq_s (fun _ => hK _ _ _ _ _)) h
    | putfield n =>
      dsimp only at h ⊢
      split at h
      · exact mm_pfq_s (fun _ => hK _ _ _ _ _) h
      · exact h.elim
    | getstatic n => exact mm_t1_m (fun _ => hK _ _ _ _ _) h
    | iaload =>
      dsimp only at h ⊢
      unfold mm_ilq at h
      unfold mm_ild
      split at h
      · exact mm_alq_s (hK _ _ _ _ _) h
      · dsimp only
        split at h
        · rename_i heq
          rw [heq]
          exact ⟨h.1, hK _ _ _ _ _ h.2⟩
        · exact h.elim
      · exact h.elim
    | laload =>
      dsimp only at h ⊢
      unfold mm_llq at h
      unfold mm_lld
      split at h
      · exact mm_alq_s (hK _ _ _ _ _) h
      · dsimp only
        split at h
        · rename_i heq
          rw [heq]
          exact ⟨h.1, hK _ _ _ _ _ h.2⟩
        · exact h.elim
      · exact h.elim
    | baload =>
      dsimp only at h ⊢
      unfold mm_blq at h
      unfold mm_bld
      split at h
      · exact mm_alq_s (hK _ _ _ _ _) h
      · exact h.elim
    | aaload =>
      dsimp only at h ⊢
      unfold mm_qlq at h
      unfold mm_qld
      split at h
      · rename_i i1 r1 q1
        dsimp only
        rw [mm_LF_at r1]
        split at h
        · rename_i heq
          rw [heq]
          exact ⟨h.1, hK _ _ _ _ _ h.2⟩
        · exact h.elim
      · exact h.elim
    | iastore =>
      dsimp only at h ⊢
      unfold mm_isq at h
      unfold mm_ist
      split at h
      · exact mm_alq_s (hK _ _ _ _ _) h
      · exact h.elim
    | bastore =>
      dsimp only at h ⊢
      unfold mm_isq at h
      unfold mm_ist
      split at h
      · exact mm_alq_s (hK _ _ _ _ _) h
      · exact h.elim
    | lastore =>
      dsimp only at h ⊢
      unfold mm_lsq at h
      unfold mm_lst
      split at h
      · exact mm_alq_s (hK _ _ _ _ _) h
      · exact h.elim
    | arraylength =>
      dsimp only at h ⊢
      unfold mm_leq at h
      unfold mm_len
      split at h
      · rename_i r1 q1
        dsimp only
        rw [mm_LF_at r1]
        split at h
        · rename_i heq
          rw [heq]
          exact hK _ _ _ _ _ h
        · exact h.elim
      · exact hK _ _ _ _ _ h
      · exact h.elim
    | invokestatic n =>
      dsimp only at h ⊢
      unfold mm_issq at h
      unfold mm_ivs
      split at h
      · exact mm_ioq_s hc (fun _ _ _ => hK _ _ _ _ _) h
      · exact mm_ioq_s hc (fun _ _ _ => hK _ _ _ _ _) h
      · exact mm_2i_m (fun x y r => mm_b8_m (hK _ _ _ _ _)) h
      · exact mm_2i_m (fun x y r => mm_b8_m (hK _ _ _ _ _)) h
      · exact mm_2l_m (fun x y r => mm_b8_m (hK _ _ _ _ _)) h
      · exact h.elim
    | invokevirtual n =>
      dsimp only at h ⊢
      unfold mm_isvq at h
      unfold mm_ivv
      split at h
      · rename_i As1 r1 rest1 hsp
        rw [hsp]
        dsimp only
        rw [mm_LF_at r1]
        split at h
        · rename_i heq
          rw [heq]
          dsimp only
          split at h
          · rename_i hfi
            rw [hfi]
            exact mm_ivq_s hc (fun _ _ _ => hK _ _ _ _ _) h
          · exact h.elim
        · exact h.elim
      · exact h.elim
    | ireturn => exact mm_irt_m (fun _ z => ⟨rfl, z⟩) h
    | lreturn => exact mm_lrt_m (fun _ z => ⟨rfl, z⟩) h
    | return_ => exact mm_vrt_m (fun z => ⟨rfl, z⟩) h
    | _ => exact h.elim
/-- from here the method ends with Q, the cells as they were -/
def mm_WQ (call : mm_F) (tb : mm_T) (M : mm_M) (lim : Nat × Nat) (Q : mm_QQ) : mm_KQ := fun pc ls st m1 m2 => mm_WP call mm_ms tb M lim (fun o w => w.1 = mm_LAY ∧ Q o w.2.1 w.2.2) pc ls st (mm_LAY, m1, m2)
def mm_exq (call : mm_F) (tb : mm_T) (f : Nat → mm_E) (n : Nat) (ret : Option FieldType) (Q : mm_QQ) (W0 : mm_KQ) (stops : List Nat) : Nat → mm_KQ
  | 0 => W0
  | k + 1 => fun pc ls st m1 m2 => match mm_mem pc stops with
    | true => W0 pc ls st m1 m2
    | false => mm_stq call tb f n ret Q (mm_exq call tb f n ret Q W0 stops k) pc ls st m1 m2
theorem mm_exq_W (hf : mm_Mc M = (List.range n).map f) (hc : mm_mono call) (stops : List Nat) : ∀ (k : Nat) (pc : Nat) (ls : List (Option mm_V)) (st : List mm_V) (m1 : mm_P) (m2 : mm_G), mm_exq call tb f n (mm_Mr M) Q (mm_WQ call tb M lim Q) stops k pc ls st m1 m2 → mm_WQ call tb M lim Q pc ls st m1 m2
  | 0, _, _, _, _, _, h => h
  | k + 1, pc, ls, st, m1, m2, h => by
    unfold mm_exq at h
    split at h
    · exact h
    · exact mm_WP_s hc (mm_stq_s hf hc (mm_exq_W hf hc stops k) h)
theorem mm_goq (stops : List Nat) (k : Nat) (hf : mm_Mc M = (List.range n).map f) (hc : mm_mono call) {pc : Nat} {ls : List (Option mm_V)} {st : List mm_V} {m1 : mm_P} {m2 : mm_G} (h : mm_stq call tb f n (mm_Mr M) Q (mm_exq call tb f n (mm_Mr M) Q (mm_WQ call tb M lim Q) stops k) pc ls st m1 m2) : mm_WQ call tb M lim Q pc ls st m1 m2 :=
  mm_WP_s hc (mm_stq_s hf hc (mm_exq_W hf hc stops k) h)
end MMQ
