/-! ===== two things that a run comes to, it comes to together ===== -/
def mm_cj (call : mm_F) : Prop := ∀ (mi : Nat) (As : List mm_V) (w : mm_W) (Q Q' : Option mm_V → mm_W → Prop), call mi As w Q → call mi As w Q' → call mi As w (fun o w' => Q o w' ∧ Q' o w')
section MMJ
variable {call : mm_F} {ms : List mm_M} {tb : mm_T} {M : mm_M} {lim : Nat × Nat} {Q Q' : Option mm_V → mm_W → Prop} {K K' : mm_K}
theorem mm_oI_a {o : Option mm_V} {k k' : Int32 → Prop} (h : mm_oI o k) (h' : mm_oI o k') : mm_oI o (fun x => k x ∧ k' x) := by
  revert h h'
  unfold mm_oI
  repeat' split
  all_goals first
    | exact fun a => a.elim
    | exact fun a b => ⟨a, b⟩
    | exact fun a b => ⟨a.1, a.2, b.2⟩
theorem mm_oL_a {o : Option mm_V} {k k' : Int64 → Prop} (h : mm_oL o k) (h' : mm_oL o k') : mm_oL o (fun x => k x ∧ k' x) := by
  revert h h'
  unfold mm_oL
  repeat' split
  all_goals first
    | exact fun a => a.elim
    | exact fun a b => ⟨a, b⟩
    | exact fun a b => ⟨a.1, a.2, b.2⟩
theorem mm_oA_a {o : Option mm_V} {k k' : mm_V → Prop} (h : mm_oA o k) (h' : mm_oA o k') : mm_oA o (fun x => k x ∧ k' x) := by
  revert h h'
  unfold mm_oA
  repeat' split
  all_goals first
    | exact fun a => a.elim
    | exact fun a b => ⟨a, b⟩
    | exact fun a b => ⟨a.1, a.2, b.2⟩
theorem mm_1i_a {st : List mm_V} {k k' : Int32 → List mm_V → Prop} (h : mm_1i st k) (h' : mm_1i st k') : mm_1i st (fun x r => k x r ∧ k' x r) := by
  revert h h'
  unfold mm_1i
  repeat' split
  all_goals first
    | exact fun a => a.elim
    | exact fun a b => ⟨a, b⟩
    | exact fun a b => ⟨a.1, a.2, b.2⟩
theorem mm_1l_a {st : List mm_V} {k k' : Int64 → List mm_V → Prop} (h : mm_1l st k) (h' : mm_1l st k') : mm_1l st (fun x r => k x r ∧ k' x r) := by
  revert h h'
  unfold mm_1l
  repeat' split
  all_goals first
    | exact fun a => a.elim
    | exact fun a b => ⟨a, b⟩
    | exact fun a b => ⟨a.1, a.2, b.2⟩
theorem mm_1r_a {st : List mm_V} {k k' : Nat → List mm_V → Prop} (h : mm_1r st k) (h' : mm_1r st k') : mm_1r st (fun x r => k x r ∧ k' x r) := by
  revert h h'
  unfold mm_1r
  repeat' split
  all_goals first
    | exact fun a => a.elim
    | exact fun a b => ⟨a, b⟩
    | exact fun a b => ⟨a.1, a.2, b.2⟩
theorem mm_1c_a {st : List mm_V} {k k' : mm_V → List mm_V → Prop} (h : mm_1c st k) (h' : mm_1c st k') : mm_1c st (fun x r => k x r ∧ k' x r) := by
  revert h h'
  unfold mm_1c
  repeat' split
  all_goals first
    | exact fun a => a.elim
    | exact fun a b => ⟨a, b⟩
    | exact fun a b => ⟨a.1, a.2, b.2⟩
theorem mm_2i_a {st : List mm_V} {k k' : Int32 → Int32 → List mm_V → Prop} (h : mm_2i st k) (h' : mm_2i st k') : mm_2i st (fun x y r => k x y r ∧ k' x y r) := by
  revert h h'
  unfold mm_2i
  repeat' split
  all_goals first
    | exact fun a => a.elim
    | exact fun a b => ⟨a, b⟩
    | exact fun a b => ⟨a.1, a.2, b.2⟩
theorem mm_2l_a {st : List mm_V} {k k' : Int64 → Int64 → List mm_V → Prop} (h : mm_2l st k) (h' : mm_2l st k') : mm_2l st (fun x y r => k x y r ∧ k' x y r) := by
  revert h h'
  unfold mm_2l
  repeat' split
  all_goals first
    | exact fun a => a.elim
    | exact fun a b => ⟨a, b⟩
    | exact fun a b => ⟨a.1, a.2, b.2⟩
theorem mm_t1_a {ax : List (Nat × Nat)} {k k' : Nat → Prop} (h : mm_t1 ax k) (h' : mm_t1 ax k') : mm_t1 ax (fun t => k t ∧ k' t) := by
  revert h h'
  unfold mm_t1
  repeat' split
  all_goals first
    | exact fun a => a.elim
    | exact fun a b => ⟨a, b⟩
    | exact fun a b => ⟨a.1, a.2, b.2⟩
theorem mm_if_a {c : Jvm.ClassFile.Cond} {x : Int32} {a b a' b' : Prop} (h : mm_if c x a b) (h' : mm_if c x a' b') : mm_if c x (a ∧ a') (b ∧ b') := by
  cases c <;> exact ⟨fun z => ⟨h.1 z, h'.1 z⟩, fun z => ⟨h.2 z, h'.2 z⟩⟩
theorem mm_ic_a {c : Jvm.ClassFile.Cond} {x y : Int32} {a b a' b' : Prop} (h : mm_ic c x y a b) (h' : mm_ic c x y a' b') : mm_ic c x y (a ∧ a') (b ∧ b') := by
  cases c <;> exact ⟨fun z => ⟨h.1 z, h'.1 z⟩, fun z => ⟨h.2 z, h'.2 z⟩⟩
theorem mm_sw_a {x : Int32} {k k' : Nat → Prop} : ∀ {ts : List (Nat × Nat)}, mm_sw x k ts → mm_sw x k' ts → mm_sw x (fun t => k t ∧ k' t) ts
  | [], _, _ => trivial
  | (_, _) :: _, h, h' => ⟨fun z => ⟨h.1 z, h'.1 z⟩, mm_sw_a h.2 h'.2⟩
theorem mm_df_a {x : Int32} {P P' : Prop} : ∀ {ts : List (Nat × Nat)}, mm_df x P ts → mm_df x P' ts → mm_df x (P ∧ P') ts
  | [], h, h' => ⟨h, h'⟩
  | (_, _) :: _, h, h' => fun z => mm_df_a (h z) (h' z)
theorem mm_cas_a {x : Int32} {k k' : Nat → Prop} {ax : List (Nat × Nat)} (h : mm_cas x k ax) (h' : mm_cas x k' ax) : mm_cas x (fun t => k t ∧ k' t) ax := by
  obtain ⟨a, d, ts, rfl, h1, h2⟩ := mm_cas_e h
  exact ⟨mm_sw_a h1 h'.1, mm_df_a h2 h'.2⟩
theorem mm_gf_a {w : mm_W} {ax : List (Nat × Nat)} {r : Nat} {k k' : mm_V → Prop} (h : mm_gf w ax r k) (h' : mm_gf w ax r k') : mm_gf w ax r (fun v => k v ∧ k' v) := by
  revert h h'
  unfold mm_gf
  repeat' split
  all_goals first
    | exact fun a => a.elim
    | exact fun a b => ⟨a, b⟩
    | exact fun a b => ⟨a.1, a.2, b.2⟩
theorem mm_pf_a {w : mm_W} {ax : List (Nat × Nat)} {g r : Nat} {v : mm_V} {k k' : mm_W → Prop} (h : mm_pf w ax g r v k) (h' : mm_pf w ax g r v k') : mm_pf w ax g r v (fun u => k u ∧ k' u) := by
  obtain ⟨l0, mi0, ml0⟩ := w
  revert h h'
  unfold mm_pf
  repeat' split
  all_goals first
    | exact fun a => a.elim
    | exact fun a b => ⟨a, b⟩
    | exact fun a b => ⟨a.1, a.2, b.2⟩
theorem mm_ald_a {w : mm_W} {t r : Nat} {i : Int32} {k k' : Prop} (h : mm_ald w t r i k) (h' : mm_ald w t r i k') : mm_ald w t r i (k ∧ k') := by
  revert h h'
  unfold mm_ald
  repeat' split
  all_goals first
    | exact fun a => a.elim
    | exact fun a b => ⟨a.1, a.2, b.2⟩
theorem mm_ild_a {w : mm_W} {st : List mm_V} {k k' : Int32 → List mm_V → Prop} (h : mm_ild tb w st k) (h' : mm_ild tb w st k') : mm_ild tb w st (fun v r => k v r ∧ k' v r) := by
  revert h h'
  unfold mm_ild
  repeat' split
  all_goals first
    | exact fun a => a.elim
    | exact fun a b => mm_ald_a a b
    | exact fun a b => ⟨a.1, a.2, b.2⟩
    | exact fun a b => ⟨a, b⟩
theorem mm_lld_a {w : mm_W} {st : List mm_V} {k k' : Int64 → List mm_V → Prop} (h : mm_lld tb w st k) (h' : mm_lld tb w st k') : mm_lld tb w st (fun v r => k v r ∧ k' v r) := by
  revert h h'
  unfold mm_lld
  repeat' split
  all_goals first
    | exact fun a => a.elim
    | exact fun a b => mm_ald_a a b
    | exact fun a b => ⟨a.1, a.2, b.2⟩
    | exact fun a b => ⟨a, b⟩
theorem mm_bld_a {w : mm_W} {st : List mm_V} {k k' : Int32 → List mm_V → Prop} (h : mm_bld w st k) (h' : mm_bld w st k') : mm_bld w st (fun v r => k v r ∧ k' v r) := by
  revert h h'
  unfold mm_bld
  repeat' split
  all_goals first
    | exact fun a => a.elim
    | exact fun a b => mm_ald_a a b
    | exact fun a b => ⟨a.1, a.2, b.2⟩
    | exact fun a b => ⟨a, b⟩
theorem mm_qld_a {w : mm_W} {st : List mm_V} {k k' : Nat → List mm_V → Prop} (h : mm_qld w st k) (h' : mm_qld w st k') : mm_qld w st (fun v r => k v r ∧ k' v r) := by
  revert h h'
  unfold mm_qld
  repeat' split
  all_goals first
    | exact fun a => a.elim
    | exact fun a b => mm_ald_a a b
    | exact fun a b => ⟨a.1, a.2, b.2⟩
    | exact fun a b => ⟨a, b⟩
theorem mm_ist_a {w : mm_W} {t : Nat} {st : List mm_V} {k k' : mm_W → List mm_V → Prop} (h : mm_ist w t st k) (h' : mm_ist w t st k') : mm_ist w t st (fun v r => k v r ∧ k' v r) := by
  obtain ⟨l0, mi0, ml0⟩ := w
  revert h h'
  unfold mm_ist
  split
  · cases t with
    | zero => exact fun a b => mm_ald_a a b
    | succ t => exact fun a b => mm_ald_a a b
  · exact fun a => a.elim
theorem mm_lst_a {w : mm_W} {st : List mm_V} {k k' : mm_W → List mm_V → Prop} (h : mm_lst w st k) (h' : mm_lst w st k') : mm_lst w st (fun v r => k v r ∧ k' v r) := by
  obtain ⟨l0, mi0, ml0⟩ := w
  revert h h'
  unfold mm_lst
  repeat' split
  all_goals first
    | exact fun a => a.elim
    | exact fun a b => mm_ald_a a b
    | exact fun a b => ⟨a.1, a.2, b.2⟩
    | exact fun a b => ⟨a, b⟩
theorem mm_len_a {w : mm_W} {st : List mm_V} {k k' : Int32 → List mm_V → Prop} (h : mm_len tb w st k) (h' : mm_len tb w st k') : mm_len tb w st (fun v r => k v r ∧ k' v r) := by
  revert h h'
  unfold mm_len
  repeat' split
  all_goals first
    | exact fun a => a.elim
    | exact fun a b => mm_ald_a a b
    | exact fun a b => ⟨a.1, a.2, b.2⟩
    | exact fun a b => ⟨a, b⟩
theorem mm_new_a {ax : List (Nat × Nat)} {ls : List (Option mm_V)} {st : List mm_V} {w : mm_W} {k k' : mm_V → mm_W → Prop} (h : mm_new lim ax ls st w k) (h' : mm_new lim ax ls st w k') : mm_new lim ax ls st w (fun v r => k v r ∧ k' v r) := by
  revert h h'
  unfold mm_new
  split
  · exact fun a b => ⟨a.1, a.2.1, a.2.2, b.2.2⟩
  · exact fun a => a.elim
theorem mm_nar_a {ax : List (Nat × Nat)} {ls : List (Option mm_V)} {st : List mm_V} {w : mm_W} {k k' : mm_V → List mm_V → mm_W → Prop} (h : mm_nar lim ax ls st w k) (h' : mm_nar lim ax ls st w k') : mm_nar lim ax ls st w (fun v r q => k v r q ∧ k' v r q) := by
  revert h h'
  unfold mm_nar
  split
  · exact fun a b => ⟨a.1, a.2.1, a.2.2.1, a.2.2.2.1, a.2.2.2.2, b.2.2.2.2⟩
  · exact fun a => a.elim
theorem mm_nmu_a {ax : List (Nat × Nat)} {ls : List (Option mm_V)} {st : List mm_V} {w : mm_W} {k k' : mm_V → List mm_V → mm_W → Prop} (h : mm_nmu lim ax ls st w k) (h' : mm_nmu lim ax ls st w k') : mm_nmu lim ax ls st w (fun v r q => k v r q ∧ k' v r q) := by
  revert h h'
  unfold mm_nmu
  split
  · exact fun a b => ⟨a.1, a.2.1, a.2.2.1, a.2.2.2.1, a.2.2.2.2.1, a.2.2.2.2.2.1, a.2.2.2.2.2.2, b.2.2.2.2.2.2⟩
  · exact fun a => a.elim
theorem mm_inv_a (hm : mm_mono call) (hc : mm_cj call) {mi : Nat} {ls : List (Option mm_V)} {As rest : List mm_V} {w : mm_W} {k k' : List mm_V → mm_W → Prop} (h : mm_inv call ms lim mi ls As rest w k) (h' : mm_inv call ms lim mi ls As rest w k') : mm_inv call ms lim mi ls As rest w (fun v r => k v r ∧ k' v r) := by
  revert h h'
  unfold mm_inv
  split
  · split
    · exact fun a b => hm _ _ _ _ _ (fun o w' z => ⟨z.1.1, z.1.2, z.2.2⟩) (hc _ _ _ _ _ a b)
    · exact fun a b => ⟨a.1, a.2.1, hm _ _ _ _ _ (fun o w' z => ⟨z.1.1, z.1.2.1, z.1.2.2, z.2.2.2⟩) (hc _ _ _ _ _ a.2.2 b.2.2)⟩
  · exact fun a => a.elim
theorem mm_b8_a {rest : List mm_V} {k k' : Prop} (h : mm_b8 rest k) (h' : mm_b8 rest k') : mm_b8 rest (k ∧ k') := by
  revert h h'
  unfold mm_b8
  split
  · exact fun a b => ⟨a, b⟩
  · exact fun a => a.elim
theorem mm_ivo_a (hm : mm_mono call) (hc : mm_cj call) {mi g : Nat} {ls : List (Option mm_V)} {st : List mm_V} {w : mm_W} {k k' : List mm_V → mm_W → Prop} (h : mm_ivo call ms lim mi g ls st w k) (h' : mm_ivo call ms lim mi g ls st w k') : mm_ivo call ms lim mi g ls st w (fun v r => k v r ∧ k' v r) := by
  revert h h'
  unfold mm_ivo
  split
  · exact fun a b => mm_inv_a hm hc a b
  · exact fun a => a.elim
theorem mm_ivs_a (hm : mm_mono call) (hc : mm_cj call) {ax : List (Nat × Nat)} {g : Nat} {ls : List (Option mm_V)} {st : List mm_V} {w : mm_W} {k k' : List mm_V → mm_W → Prop} (h : mm_ivs call ms lim ax g ls st w k) (h' : mm_ivs call ms lim ax g ls st w k') : mm_ivs call ms lim ax g ls st w (fun v r => k v r ∧ k' v r) := by
  revert h h'
  unfold mm_ivs
  split
  · exact fun a b => mm_ivo_a hm hc a b
  · exact fun a b => mm_ivo_a hm hc a b
  · exact fun a b => mm_2i_m (fun x y r z => mm_b8_a z.1 z.2) (mm_2i_a a b)
  · exact fun a b => mm_2i_m (fun x y r z => mm_b8_a z.1 z.2) (mm_2i_a a b)
  · exact fun a b => mm_2l_m (fun x y r z => mm_b8_a z.1 z.2) (mm_2l_a a b)
  · exact fun a => a.elim
theorem mm_ivv_a (hm : mm_mono call) (hc : mm_cj call) {ax : List (Nat × Nat)} {g : Nat} {ls : List (Option mm_V)} {st : List mm_V} {w : mm_W} {k k' : List mm_V → mm_W → Prop} (h : mm_ivv call ms lim ax g ls st w k) (h' : mm_ivv call ms lim ax g ls st w k') : mm_ivv call ms lim ax g ls st w (fun v r => k v r ∧ k' v r) := by
  revert h h'
  unfold mm_ivv
  repeat' split
  all_goals first
    | exact fun a => a.elim
    | exact fun a b => mm_inv_a hm hc a b
theorem mm_ivi_a (hm : mm_mono call) (hc : mm_cj call) {ax : List (Nat × Nat)} {g : Nat} {ls : List (Option mm_V)} {st : List mm_V} {w : mm_W} {k k' : List mm_V → mm_W → Prop} (h : mm_ivi call ms lim ax g ls st w k) (h' : mm_ivi call ms lim ax g ls st w k') : mm_ivi call ms lim ax g ls st w (fun v r => k v r ∧ k' v r) := by
  revert h h'
  unfold mm_ivi
  repeat' split
  all_goals first
    | exact fun a => a.elim
    | exact fun a b => mm_inv_a hm hc a b
    | exact fun a b => ⟨a, b⟩
theorem mm_irt_a {r : Option FieldType} {st : List mm_V} {k k' : Int32 → Prop} (h : mm_irt r st k) (h' : mm_irt r st k') : mm_irt r st (fun x => k x ∧ k' x) := by
  revert h h'
  unfold mm_irt
  split
  · exact fun a b => ⟨a, b⟩
  · exact fun a b => ⟨a.1, a.2, b.2⟩
  · exact fun a => a.elim
theorem mm_lrt_a {r : Option FieldType} {st : List mm_V} {k k' : Int64 → Prop} (h : mm_lrt r st k) (h' : mm_lrt r st k') : mm_lrt r st (fun x => k x ∧ k' x) := by
  revert h h'
  unfold mm_lrt
  split
  · exact fun a b => ⟨a, b⟩
  · exact fun a => a.elim
theorem mm_vrt_a {r : Option FieldType} {st : List mm_V} {k k' : Prop} (h : mm_vrt r st k) (h' : mm_vrt r st k') : mm_vrt r st (k ∧ k') := by
  revert h h'
  unfold mm_vrt
  split
  · exact fun a b => ⟨a, b⟩
  · exact fun a => a.elim
theorem mm_stp_a (hm : mm_mono call) (hc : mm_cj call) {pc : Nat} {ls : List (Option mm_V)} {st : List mm_V} {w : mm_W} (h : mm_stp call ms tb M lim Q K pc ls st w) (h' : mm_stp call ms tb M lim Q' K' pc ls st w) : mm_stp call ms tb M lim (fun o w => Q o w ∧ Q' o w) (fun pc ls st w => K pc ls st w ∧ K' pc ls st w) pc ls st w := by
  unfold mm_stp at h h' ⊢
  generalize (mm_Mc M).getD pc mm_nop = e0 at h h' ⊢
  obtain ⟨i, len, ax, ps, g, c1, c8, q0⟩ := e0
  dsimp only at h h' ⊢
  cases i with
  | iconst n => exact ⟨h, h'⟩
  | bipush n => exact ⟨h, h'⟩
  | sipush n => exact ⟨h, h'⟩
  | ldc n => exact ⟨h, h'⟩
  | lconst n => exact ⟨h, h'⟩
  | ldc2_w n => exact ⟨h, h'⟩
  | iload n => exact mm_oI_a h h'
  | iload_n n => exact mm_oI_a h h'
  | lload n => exact mm_oL_a h h'
  | lload_n n => exact mm_oL_a h h'
  | aload n => exact mm_oA_a h h'
  | aload_n n => exact mm_oA_a h h'
  | istore n => exact mm_1i_a h h'
  | istore_n n => exact mm_1i_a h h'
  | lstore n => exact mm_1l_a h h'
  | lstore_n n => exact mm_1l_a h h'
  | astore n => exact mm_1r_a h h'
  | astore_n n => exact mm_1r_a h h'
  | iinc a b => exact mm_oI_a h h'
  | iadd => exact mm_2i_a h h'
  | isub => exact mm_2i_a h h'
  | imul => exact mm_2i_a h h'
  | iand => exact mm_2i_a h h'
  | ior => exact mm_2i_a h h'
  | ixor => exact mm_2i_a h h'
  | ishl => exact mm_2i_a h h'
  | ishr => exact mm_2i_a h h'
  | irem => exact mm_2i_m (fun _ _ _ z => ⟨z.1.1, z.1.2, z.2.2⟩) (mm_2i_a h h')
  | ladd => exact mm_2l_a h h'
  | lsub => exact mm_2l_a h h'
  | lmul => exact mm_2l_a h h'
  | lcmp => exact mm_2l_a h h'
  | ldiv => exact mm_2l_m (fun _ _ _ z => ⟨z.1.1, z.1.2, z.2.2⟩) (mm_2l_a h h')
  | lrem => exact mm_2l_m (fun _ _ _ z => ⟨z.1.1, z.1.2, z.2.2⟩) (mm_2l_a h h')
  | i2l => exact mm_1i_a h h'
  | l2i => exact mm_1l_a h h'
  | dup => exact mm_1c_a h h'
  | pop => exact mm_1c_a h h'
  | pop2 => exact mm_1l_a h h'
  | dup_x1 => exact mm_1c_m (fun _ _ z => mm_1c_a z.1 z.2) (mm_1c_a h h')
  | dup2 => exact mm_1c_m (fun _ _ z => mm_1c_a z.1 z.2) (mm_1c_a h h')
  | goto o => exact mm_t1_a h h'
  | ifCond cd o => exact mm_t1_m (fun _ z => mm_1i_m (fun _ _ y => mm_if_a y.1 y.2) (mm_1i_a z.1 z.2)) (mm_t1_a h h')
  | if_icmp cd o => exact mm_t1_m (fun _ z => mm_2i_m (fun _ _ _ y => mm_ic_a y.1 y.2) (mm_2i_a z.1 z.2)) (mm_t1_a h h')
  | tableswitch a b c d => exact mm_1i_m (fun _ _ z => mm_cas_a z.1 z.2) (mm_1i_a h h')
  | lookupswitch a b => exact mm_1i_m (fun _ _ z => mm_cas_a z.1 z.2) (mm_1i_a h h')
  | getfield n => exact mm_1r_m (fun _ _ z => mm_gf_a z.1 z.2) (mm_1r_a h h')
  | putfield n =>
    revert h h'
    dsimp only
    split
    · exact fun a b => mm_pf_a a b
    · exact fun a => a.elim
  | getstatic n => exact mm_t1_a h h'
  | iaload => exact mm_ild_a h h'
  | laload => exact mm_lld_a h h'
  | baload => exact mm_bld_a h h'
  | aaload => exact mm_qld_a h h'
  | iastore => exact mm_ist_a h h'
  | bastore => exact mm_ist_a h h'
  | lastore => exact mm_lst_a h h'
  | arraylength => exact mm_len_a h h'
  | new n => exact mm_new_a h h'
  | newarray a => exact mm_nar_a h h'
  | multianewarray a b => exact mm_nmu_a h h'
  | invokestatic n => exact mm_ivs_a hm hc h h'
  | invokevirtual n => exact mm_ivv_a hm hc h h'
  | invokespecial n => exact mm_ivi_a hm hc h h'
  | ireturn => exact mm_irt_a h h'
  | lreturn => exact mm_lrt_a h h'
  | return_ => exact mm_vrt_a h h'
  | _ => exact h.elim
/-- where a run ends well, its next step does -/
theorem mm_WP_e (hm : mm_mono call) {pc : Nat} {ls : List (Option mm_V)} {st : List mm_V} {w : mm_W} (h : mm_WP call ms tb M lim Q pc ls st w) : mm_stp call ms tb M lim Q (mm_WP call ms tb M lim Q) pc ls st w :=
  h (fun pc ls st w => mm_stp call ms tb M lim Q (mm_WP call ms tb M lim Q) pc ls st w) (fun _ _ _ _ z => mm_stp_m hm (fun _ _ y => y) (fun _ _ _ _ y => mm_WP_s hm y) z)
theorem mm_WP_a (hm : mm_mono call) (hc : mm_cj call) {pc : Nat} {ls : List (Option mm_V)} {st : List mm_V} {w : mm_W} (h : mm_WP call ms tb M lim Q pc ls st w) (h' : mm_WP call ms tb M lim Q' pc ls st w) : mm_WP call ms tb M lim (fun o w => Q o w ∧ Q' o w) pc ls st w :=
  h (fun pc ls st w => mm_WP call ms tb M lim Q' pc ls st w → mm_WP call ms tb M lim (fun o w => Q o w ∧ Q' o w) pc ls st w) (fun _ _ _ _ z y => mm_WP_s hm (mm_stp_m hm (fun _ _ u => u) (fun _ _ _ _ u => u.1 u.2) (mm_stp_a hm hc z (mm_WP_e hm y)))) h'
theorem mm_call_a : ∀ d : Nat, mm_cj (mm_call ms tb d)
  | 0 => fun _ _ _ _ _ h => h.elim
  | d + 1 => fun mi As w Q Q' h h' => by
    revert h h'
    unfold mm_call
    split
    · unfold mm_run
      split
      · exact fun a b => mm_WP_a (mm_call_m d) (mm_call_a d) a b
      · exact fun a => a.elim
    · exact fun a => a.elim
end MMJ
theorem mm_cq_a {L : Nat} {xs : Nat → Int32} {d mi : Nat} {As : List mm_V} {m1 : mm_P} {m2 : mm_G} {Q Q' : mm_QQ} (h : mm_cq (mm_call mm_ms (mm_tb L xs) d) mi As m1 m2 Q) (h' : mm_cq (mm_call mm_ms (mm_tb L xs) d) mi As m1 m2 Q') : mm_cq (mm_call mm_ms (mm_tb L xs) d) mi As m1 m2 (fun o n1 n2 => Q o n1 n2 ∧ Q' o n1 n2) :=
  mm_call_m d _ _ _ _ _ (fun _ _ z => ⟨z.1.1, z.1.2, z.2.2⟩) (mm_call_a d _ _ _ _ _ h h')
/-- a call of the class and one of the model: what else each leaves -/
theorem mm_up {L : Nat} {xs : Nat → Int32} {d c c' : Nat} {As As' : List mm_V} {m1 : mm_P} {m2 : mm_G} {C : Type} {f : C → mm_V} {P : C → C → mm_P → mm_G → Prop} {F G : mm_P → mm_G → Prop} (h : mm_cq (mm_call mm_ms (mm_tb L xs) d) c As m1 m2 (fun o n1 n2 => ∃ v, o = some (f v) ∧ mm_cq (mm_call mm_ms (mm_tb L xs) d) c' As' n1 n2 (fun o2 n3 n4 => ∃ v2, o2 = some (f v2) ∧ P v v2 n3 n4))) (hc : mm_cq (mm_call mm_ms (mm_tb L xs) d) c As m1 m2 (fun _ n1 n2 => F n1 n2)) (hm : ∀ n1 n2, F n1 n2 → mm_cq (mm_call mm_ms (mm_tb L xs) d) c' As' n1 n2 (fun _ n3 n4 => G n3 n4)) : mm_cq (mm_call mm_ms (mm_tb L xs) d) c As m1 m2 (fun o n1 n2 => ∃ v, o = some (f v) ∧ mm_cq (mm_call mm_ms (mm_tb L xs) d) c' As' n1 n2 (fun o2 n3 n4 => ∃ v2, o2 = some (f v2) ∧ P v v2 n3 n4 ∧ G n3 n4)) :=
  mm_cq_m (mm_call_m d) (mm_cq_a h hc) (fun o n1 n2 ⟨⟨v, v1, v2⟩, q⟩ => ⟨v, v1, mm_cq_m (mm_call_m d) (mm_cq_a v2 (hm n1 n2 q)) (fun o2 n3 n4 ⟨⟨u, u1, u2⟩, q2⟩ => ⟨u, u1, u2, q2⟩)⟩)
