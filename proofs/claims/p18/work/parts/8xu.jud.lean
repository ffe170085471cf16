/-! ===== what a run comes to whatever it answers, holds ===== -/
def mm_ck0 (call : mm_F) : Prop := ∀ (mi : Nat) (As : List mm_V) (w : mm_W) (P : Prop), call mi As w (fun _ _ => P) → P
section MMK
variable {call : mm_F} {ms : List mm_M} {tb : mm_T} {M : mm_M} {lim : Nat × Nat} {P : Prop}
theorem mm_oI_k {o : Option mm_V} (h : mm_oI o (fun _ => P)) : P := by
  revert h
  unfold mm_oI
  repeat' split
  all_goals first
    | exact fun a => a.elim
    | exact fun a => a
    | exact fun a => a.2
theorem mm_oL_k {o : Option mm_V} (h : mm_oL o (fun _ => P)) : P := by
  revert h
  unfold mm_oL
  repeat' split
  all_goals first
    | exact fun a => a.elim
    | exact fun a => a
    | exact fun a => a.2
theorem mm_oA_k {o : Option mm_V} (h : mm_oA o (fun _ => P)) : P := by
  revert h
  unfold mm_oA
  repeat' split
  all_goals first
    | exact fun a => a.elim
    | exact fun a => a
    | exact fun a => a.2
theorem mm_1i_k {st : List mm_V} (h : mm_1i st (fun _ _ => P)) : P := by
  revert h
  unfold mm_1i
  repeat' split
  all_goals first
    | exact fun a => a.elim
    | exact fun a => a
theorem mm_1l_k {st : List mm_V} (h : mm_1l st (fun _ _ => P)) : P := by
  revert h
  unfold mm_1l
  repeat' split
  all_goals first
    | exact fun a => a.elim
    | exact fun a => a
theorem mm_1r_k {st : List mm_V} (h : mm_1r st (fun _ _ => P)) : P := by
  revert h
  unfold mm_1r
  repeat' split
  all_goals first
    | exact fun a => a.elim
    | exact fun a => a
theorem mm_1c_k {st : List mm_V} (h : mm_1c st (fun _ _ => P)) : P := by
  revert h
  unfold mm_1c
  repeat' split
  all_goals first
    | exact fun a => a.elim
    | exact fun a => a
    | exact fun a => a.2
theorem mm_2i_k {st : List mm_V} (h : mm_2i st (fun _ _ _ => P)) : P := by
  revert h
  unfold mm_2i
  repeat' split
  all_goals first
    | exact fun a => a.elim
    | exact fun a => a
theorem mm_2l_k {st : List mm_V} (h : mm_2l st (fun _ _ _ => P)) : P := by
  revert h
  unfold mm_2l
  repeat' split
  all_goals first
    | exact fun a => a.elim
    | exact fun a => a
theorem mm_t1_k {ax : List (Nat × Nat)} (h : mm_t1 ax (fun _ => P)) : P := by
  revert h
  unfold mm_t1
  repeat' split
  all_goals first
    | exact fun a => a.elim
    | exact fun a => a
    | exact fun a => a.2
theorem mm_if_k {c : Jvm.ClassFile.Cond} {x : Int32} (h : mm_if c x P P) : P := by
  cases c <;> first
    | exact (Classical.em _).elim h.1 h.2
    | exact (Classical.em _).elim h.2 h.1
theorem mm_ic_k {c : Jvm.ClassFile.Cond} {x y : Int32} (h : mm_ic c x y P P) : P := by
  cases c <;> first
    | exact (Classical.em _).elim h.1 h.2
    | exact (Classical.em _).elim h.2 h.1
theorem mm_swd_k {x : Int32} : ∀ {ts : List (Nat × Nat)}, mm_sw x (fun _ => P) ts → mm_df x P ts → P
  | [], _, h => h
  | (a, _) :: _, h, h' => (Classical.em (x = nI a)).elim h.1 (fun z => mm_swd_k h.2 (h' z))
theorem mm_cas_k {x : Int32} {ax : List (Nat × Nat)} (h : mm_cas x (fun _ => P) ax) : P := by
  obtain ⟨a, d, ts, rfl, h1, h2⟩ := mm_cas_e h
  exact mm_swd_k h1 h2
theorem mm_gf_k {w : mm_W} {ax : List (Nat × Nat)} {r : Nat} (h : mm_gf w ax r (fun _ => P)) : P := by
  revert h
  unfold mm_gf
  repeat' split
  all_goals first
    | exact fun a => a.elim
    | exact fun a => a
    | exact fun a => a.2
theorem mm_pf_k {w : mm_W} {ax : List (Nat × Nat)} {g r : Nat} {v : mm_V} (h : mm_pf w ax g r v (fun _ => P)) : P := by
  obtain ⟨l0, mi0, ml0⟩ := w
  revert h
  unfold mm_pf
  repeat' split
  all_goals first
    | exact fun a => a.elim
    | exact fun a => a
    | exact fun a => a.2
theorem mm_ald_k {w : mm_W} {t r : Nat} {i : Int32} (h : mm_ald w t r i P) : P := by
  revert h
  unfold mm_ald
  repeat' split
  all_goals first
    | exact fun a => a.elim
    | exact fun a => a.2
theorem mm_ild_k {w : mm_W} {st : List mm_V} (h : mm_ild tb w st (fun _ _ => P)) : P := by
  revert h
  unfold mm_ild
  repeat' split
  all_goals first
    | exact fun a => a.elim
    | exact fun a => mm_ald_k a
    | exact fun a => a.2
    | exact fun a => a
theorem mm_lld_k {w : mm_W} {st : List mm_V} (h : mm_lld tb w st (fun _ _ => P)) : P := by
  revert h
  unfold mm_lld
  repeat' split
  all_goals first
    | exact fun a => a.elim
    | exact fun a => mm_ald_k a
    | exact fun a => a.2
    | exact fun a => a
theorem mm_bld_k {w : mm_W} {st : List mm_V} (h : mm_bld w st (fun _ _ => P)) : P := by
  revert h
  unfold mm_bld
  repeat' split
  all_goals first
    | exact fun a => a.elim
    | exact fun a => mm_ald_k a
    | exact fun a => a.2
    | exact fun a => a
theorem mm_qld_k {w : mm_W} {st : List mm_V} (h : mm_qld w st (fun _ _ => P)) : P := by
  revert h
  unfold mm_qld
  repeat' split
  all_goals first
    | exact fun a => a.elim
    | exact fun a => mm_ald_k a
    | exact fun a => a.2
    | exact fun a => a
theorem mm_ist_k {w : mm_W} {t : Nat} {st : List mm_V} (h : mm_ist w t st (fun _ _ => P)) : P := by
  obtain ⟨l0, mi0, ml0⟩ := w
  revert h
  unfold mm_ist
  split
  · cases t with
    | zero => exact fun a => mm_ald_k a
    | succ t => exact fun a => mm_ald_k a
  · exact fun a => a.elim
theorem mm_lst_k {w : mm_W} {st : List mm_V} (h : mm_lst w st (fun _ _ => P)) : P := by
  obtain ⟨l0, mi0, ml0⟩ := w
  revert h
  unfold mm_lst
  repeat' split
  all_goals first
    | exact fun a => a.elim
    | exact fun a => mm_ald_k a
    | exact fun a => a.2
    | exact fun a => a
theorem mm_len_k {w : mm_W} {st : List mm_V} (h : mm_len tb w st (fun _ _ => P)) : P := by
  revert h
  unfold mm_len
  repeat' split
  all_goals first
    | exact fun a => a.elim
    | exact fun a => mm_ald_k a
    | exact fun a => a.2
    | exact fun a => a
theorem mm_new_k {ax : List (Nat × Nat)} {ls : List (Option mm_V)} {st : List mm_V} {w : mm_W} (h : mm_new lim ax ls st w (fun _ _ => P)) : P := by
  revert h
  unfold mm_new
  split
  · exact fun a => a.2.2
  · exact fun a => a.elim
theorem mm_nar_k {ax : List (Nat × Nat)} {ls : List (Option mm_V)} {st : List mm_V} {w : mm_W} (h : mm_nar lim ax ls st w (fun _ _ _ => P)) : P := by
  revert h
  unfold mm_nar
  split
  · exact fun a => a.2.2.2.2
  · exact fun a => a.elim
theorem mm_nmu_k {ax : List (Nat × Nat)} {ls : List (Option mm_V)} {st : List mm_V} {w : mm_W} (h : mm_nmu lim ax ls st w (fun _ _ _ => P)) : P := by
  revert h
  unfold mm_nmu
  split
  · exact fun a => a.2.2.2.2.2.2
  · exact fun a => a.elim
theorem mm_inv_k (hm : mm_mono call) (hc : mm_ck0 call) {mi : Nat} {ls : List (Option mm_V)} {As rest : List mm_V} {w : mm_W} (h : mm_inv call ms lim mi ls As rest w (fun _ _ => P)) : P := by
  revert h
  unfold mm_inv
  split
  · split
    · exact fun a => hc _ _ _ _ (hm _ _ _ _ _ (fun o w' z => z.2) a)
    · exact fun a => hc _ _ _ _ (hm _ _ _ _ _ (fun o w' z => z.2.2) a.2.2)
  · exact fun a => a.elim
theorem mm_b8_k {rest : List mm_V} (h : mm_b8 rest P) : P := by
  revert h
  unfold mm_b8
  split
  · exact fun a => a
  · exact fun a => a.elim
theorem mm_ivo_k (hm : mm_mono call) (hc : mm_ck0 call) {mi g : Nat} {ls : List (Option mm_V)} {st : List mm_V} {w : mm_W} (h : mm_ivo call ms lim mi g ls st w (fun _ _ => P)) : P := by
  revert h
  unfold mm_ivo
  split
  · exact fun a => mm_inv_k hm hc a
  · exact fun a => a.elim
theorem mm_ivs_k (hm : mm_mono call) (hc : mm_ck0 call) {ax : List (Nat × Nat)} {g : Nat} {ls : List (Option mm_V)} {st : List mm_V} {w : mm_W} (h : mm_ivs call ms lim ax g ls st w (fun _ _ => P)) : P := by
  revert h
  unfold mm_ivs
  split
  · exact fun a => mm_ivo_k hm hc a
  · exact fun a => mm_ivo_k hm hc a
  · exact fun a => mm_2i_k (mm_2i_m (fun x y r z => mm_b8_k z) a)
  · exact fun a => mm_2i_k (mm_2i_m (fun x y r z => mm_b8_k z) a)
  · exact fun a => mm_2l_k (mm_2l_m (fun x y r z => mm_b8_k z) a)
  · exact fun a => a.elim
theorem mm_ivv_k (hm : mm_mono call) (hc : mm_ck0 call) {ax : List (Nat × Nat)} {g : Nat} {ls : List (Option mm_V)} {st : List mm_V} {w : mm_W} (h : mm_ivv call ms lim ax g ls st w (fun _ _ => P)) : P := by
  revert h
  unfold mm_ivv
  repeat' split
  all_goals first
    | exact fun a => a.elim
    | exact fun a => mm_inv_k hm hc a
theorem mm_ivi_k (hm : mm_mono call) (hc : mm_ck0 call) {ax : List (Nat × Nat)} {g : Nat} {ls : List (Option mm_V)} {st : List mm_V} {w : mm_W} (h : mm_ivi call ms lim ax g ls st w (fun _ _ => P)) : P := by
  revert h
  unfold mm_ivi
  repeat' split
  all_goals first
    | exact fun a => a.elim
    | exact fun a => mm_inv_k hm hc a
    | exact fun a => a
theorem mm_irt_k {r : Option FieldType} {st : List mm_V} (h : mm_irt r st (fun _ => P)) : P := by
  revert h
  unfold mm_irt
  split
  · exact fun a => a
  · exact fun a => a.2
  · exact fun a => a.elim
theorem mm_lrt_k {r : Option FieldType} {st : List mm_V} (h : mm_lrt r st (fun _ => P)) : P := by
  revert h
  unfold mm_lrt
  split
  · exact fun a => a
  · exact fun a => a.elim
theorem mm_vrt_k {r : Option FieldType} {st : List mm_V} (h : mm_vrt r st P) : P := by
  revert h
  unfold mm_vrt
  split
  · exact fun a => a
  · exact fun a => a.elim
theorem mm_stp_k (hm : mm_mono call) (hc : mm_ck0 call) {pc : Nat} {ls : List (Option mm_V)} {st : List mm_V} {w : mm_W} (h : mm_stp call ms tb M lim (fun _ _ => P) (fun _ _ _ _ => P) pc ls st w) : P := by
  unfold mm_stp at h
  generalize (mm_Mc M).getD pc mm_nop = e0 at h
  obtain ⟨i, len, ax, ps, g, c1, c8, q0⟩ := e0
  dsimp only at h
  cases i with
  | iconst n => exact h
  | bipush n => exact h
  | sipush n => exact h
  | ldc n => exact h
  | lconst n => exact h
  | ldc2_w n => exact h
  | iload n => exact mm_oI_k h
  | iload_n n => exact mm_oI_k h
  | lload n => exact mm_oL_k h
  | lload_n n => exact mm_oL_k h
  | aload n => exact mm_oA_k h
  | aload_n n => exact mm_oA_k h
  | istore n => exact mm_1i_k h
  | istore_n n => exact mm_1i_k h
  | lstore n => exact mm_1l_k h
  | lstore_n n => exact mm_1l_k h
  | astore n => exact mm_1r_k h
  | astore_n n => exact mm_1r_k h
  | iinc a b => exact mm_oI_k h
  | iadd => exact mm_2i_k h
  | isub => exact mm_2i_k h
  | imul => exact mm_2i_k h
  | iand => exact mm_2i_k h
  | ior => exact mm_2i_k h
  | ixor => exact mm_2i_k h
  | ishl => exact mm_2i_k h
  | ishr => exact mm_2i_k h
  | irem => exact mm_2i_k (mm_2i_m (fun _ _ _ z => z.2) h)
  | ladd => exact mm_2l_k h
  | lsub => exact mm_2l_k h
  | lmul => exact mm_2l_k h
  | lcmp => exact mm_2l_k h
  | ldiv => exact mm_2l_k (mm_2l_m (fun _ _ _ z => z.2) h)
  | lrem => exact mm_2l_k (mm_2l_m (fun _ _ _ z => z.2) h)
  | i2l => exact mm_1i_k h
  | l2i => exact mm_1l_k h
  | dup => exact mm_1c_k h
  | pop => exact mm_1c_k h
  | pop2 => exact mm_1l_k h
  | dup_x1 => exact mm_1c_k (mm_1c_m (fun _ _ z => mm_1c_k z) h)
  | dup2 => exact mm_1c_k (mm_1c_m (fun _ _ z => mm_1c_k z) h)
  | goto o => exact mm_t1_k h
  | ifCond cd o => exact mm_t1_k (mm_t1_m (fun _ z => mm_1i_k (mm_1i_m (fun _ _ y => mm_if_k y) z)) h)
  | if_icmp cd o => exact mm_t1_k (mm_t1_m (fun _ z => mm_2i_k (mm_2i_m (fun _ _ _ y => mm_ic_k y) z)) h)
  | tableswitch a b c d => exact mm_1i_k (mm_1i_m (fun _ _ z => mm_cas_k z) h)
  | lookupswitch a b => exact mm_1i_k (mm_1i_m (fun _ _ z => mm_cas_k z) h)
  | getfield n => exact mm_1r_k (mm_1r_m (fun _ _ z => mm_gf_k z) h)
  | putfield n =>
    revert h
    dsimp only
    split
    · exact fun a => mm_pf_k a
    · exact fun a => a.elim
  | getstatic n => exact mm_t1_k h
  | iaload => exact mm_ild_k h
  | laload => exact mm_lld_k h
  | baload => exact mm_bld_k h
  | aaload => exact mm_qld_k h
  | iastore => exact mm_ist_k h
  | bastore => exact mm_ist_k h
  | lastore => exact mm_lst_k h
  | arraylength => exact mm_len_k h
  | new n => exact mm_new_k h
  | newarray a => exact mm_nar_k h
  | multianewarray a b => exact mm_nmu_k h
  | invokestatic n => exact mm_ivs_k hm hc h
  | invokevirtual n => exact mm_ivv_k hm hc h
  | invokespecial n => exact mm_ivi_k hm hc h
  | ireturn => exact mm_irt_k h
  | lreturn => exact mm_lrt_k h
  | return_ => exact mm_vrt_k h
  | _ => exact h.elim
theorem mm_call_k : ∀ d : Nat, mm_ck0 (mm_call ms tb d)
  | 0 => fun _ _ _ _ h => h.elim
  | d + 1 => fun mi As w P h => by
    revert h
    unfold mm_call
    split
    · unfold mm_run
      split
      · exact fun a => a (fun _ _ _ _ => P) (fun _ _ _ _ z => mm_stp_k (mm_call_m d) (mm_call_k d) z)
      · exact fun a => a.elim
    · exact fun a => a.elim
end MMK
theorem mm_cq_k {L : Nat} {xs : Nat → Int32} {d mi : Nat} {As : List mm_V} {m1 : mm_P} {m2 : mm_G} {P : Prop} (h : mm_cq (mm_call mm_ms (mm_tb L xs) d) mi As m1 m2 (fun _ _ _ => P)) : P :=
  mm_call_k d _ _ _ _ (mm_call_m d _ _ _ _ _ (fun _ _ z => z.2) h)
/-- a right program: a world of the reference in which all that it uses is typed -/
theorem JO_ex {NB ND NF : Nat} {mi : mm_P} {ml : mm_G} (hCJ : CJ mi ml) (hI : IM mi NB ND NF) (hV : VP mi ml 0) : ∃ w, PR mi w ∧ JO NB ND NF w := by
  have g1 : mm_cq (mm_call mm_ms (mm_tb 0 (fun _ => 0)) (0 + 9)) 202 [mm_R 176] mi ml (fun o n1 n2 => ∃ v, o = some (mm_I v) ∧ VP mi ml v) := sx_mjudge hCJ (fun w v _ b => ⟨v, rfl, b⟩)
  have g2 : mm_cq (mm_call mm_ms (mm_tb 0 (fun _ => 0)) (0 + 9)) 202 [mm_R 176] mi ml (fun o n1 n2 => ∃ v, o = some (mm_I v) ∧ PR mi n1 ∧ (v = 0 → JO NB ND NF n1)) := sp_judge hI (fun w v a b => ⟨v, rfl, a, b⟩)
  refine mm_cq_k (mm_cq_m (mm_call_m _) (mm_cq_a g1 g2) (fun o n1 n2 ⟨⟨v, e2, a2⟩, ⟨v', e3, a3, a4⟩⟩ => ?_))
  subst e2
  have ev : v = v' := by
    injection e3 with e4
    injection e4
  subst ev
  exact ⟨n1, a3, a4 (VP_u a2 hV)⟩
