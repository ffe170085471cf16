/-! ===== rules of the abstract machine ===== -/
def mm_mono (call : mm_F) : Prop := ∀ (mi : Nat) (As : List mm_V) (w : mm_W) (Q Q' : Option mm_V → mm_W → Prop), (∀ o w', Q o w' → Q' o w') → call mi As w Q → call mi As w Q'
section MMW
variable {call : mm_F} {ms : List mm_M} {tb : mm_T} {M : mm_M} {lim : Nat × Nat} {Q Q' : Option mm_V → mm_W → Prop} {K K' : mm_K}
theorem mm_oI_m {o : Option mm_V} {k k' : Int32 → Prop} (hk : ∀ x, k x → k' x) (h : mm_oI o k) : mm_oI o k' := by
  unfold mm_oI at h ⊢
  split at h
  · exact hk _ h
  · exact h.elim
theorem mm_oL_m {o : Option mm_V} {k k' : Int64 → Prop} (hk : ∀ x, k x → k' x) (h : mm_oL o k) : mm_oL o k' := by
  unfold mm_oL at h ⊢
  split at h
  · exact hk _ h
  · exact h.elim
theorem mm_oA_m {o : Option mm_V} {k k' : mm_V → Prop} (hk : ∀ x, k x → k' x) (h : mm_oA o k) : mm_oA o k' := by
  unfold mm_oA at h ⊢
  split at h
  · exact hk _ h
  · exact h.elim
theorem mm_1i_m {st : List mm_V} {k k' : Int32 → List mm_V → Prop} (hk : ∀ x r, k x r → k' x r) (h : mm_1i st k) : mm_1i st k' := by
  obtain ⟨x, r, rfl, h⟩ := mm_1i_e h
  exact hk x r h
theorem mm_1l_m {st : List mm_V} {k k' : Int64 → List mm_V → Prop} (hk : ∀ x r, k x r → k' x r) (h : mm_1l st k) : mm_1l st k' := by
  obtain ⟨x, r, rfl, h⟩ := mm_1l_e h
  exact hk x r h
theorem mm_1r_m {st : List mm_V} {k k' : Nat → List mm_V → Prop} (hk : ∀ x r, k x r → k' x r) (h : mm_1r st k) : mm_1r st k' := by
  obtain ⟨x, r, rfl, h⟩ := mm_1r_e h
  exact hk x r h
theorem mm_1c_m {st : List mm_V} {k k' : mm_V → List mm_V → Prop} (hk : ∀ x r, k x r → k' x r) (h : mm_1c st k) : mm_1c st k' := by
  unfold mm_1c at h ⊢
  split at h
  · exact hk _ _ h
  · exact hk _ _ h
  · exact h.elim
theorem mm_2i_m {st : List mm_V} {k k' : Int32 → Int32 → List mm_V → Prop} (hk : ∀ x y r, k x y r → k' x y r) (h : mm_2i st k) : mm_2i st k' := by
  obtain ⟨x, y, r, rfl, h⟩ := mm_2i_e h
  exact hk x y r h
theorem mm_2l_m {st : List mm_V} {k k' : Int64 → Int64 → List mm_V → Prop} (hk : ∀ x y r, k x y r → k' x y r) (h : mm_2l st k) : mm_2l st k' := by
  obtain ⟨x, y, r, rfl, h⟩ := mm_2l_e h
  exact hk x y r h
theorem mm_t1_m {ax : List (Nat × Nat)} {k k' : Nat → Prop} (hk : ∀ t, k t → k' t) (h : mm_t1 ax k) : mm_t1 ax k' := by
  obtain ⟨a, t, r, rfl, h⟩ := mm_t1_e h
  exact hk t h
theorem mm_if_m {c : Jvm.ClassFile.Cond} {x : Int32} {a b a' b' : Prop} (ha : a → a') (hb : b → b') (h : mm_if c x a b) : mm_if c x a' b' := by
  cases c <;> exact ⟨fun z => (by first | exact ha (h.1 z) | exact hb (h.1 z)), fun z => (by first | exact hb (h.2 z) | exact ha (h.2 z))⟩
theorem mm_ic_m {c : Jvm.ClassFile.Cond} {x y : Int32} {a b a' b' : Prop} (ha : a → a') (hb : b → b') (h : mm_ic c x y a b) : mm_ic c x y a' b' := by
  cases c <;> exact ⟨fun z => (by first | exact ha (h.1 z) | exact hb (h.1 z)), fun z => (by first | exact hb (h.2 z) | exact ha (h.2 z))⟩
theorem mm_sw_m {x : Int32} {k k' : Nat → Prop} (hk : ∀ t, k t → k' t) : ∀ {ts : List (Nat × Nat)}, mm_sw x k ts → mm_sw x k' ts
  | [], h => h
  | (_, _) :: _, h => ⟨fun z => hk _ (h.1 z), mm_sw_m hk h.2⟩
theorem mm_df_m {x : Int32} {P P' : Prop} (hk : P → P') : ∀ {ts : List (Nat × Nat)}, mm_df x P ts → mm_df x P' ts
  | [], h => hk h
  | (_, _) :: _, h => fun z => mm_df_m hk (h z)
theorem mm_cas_m {x : Int32} {k k' : Nat → Prop} {ax : List (Nat × Nat)} (hk : ∀ t, k t → k' t) (h : mm_cas x k ax) : mm_cas x k' ax := by
  obtain ⟨a, d, ts, rfl, h1, h2⟩ := mm_cas_e h
  exact ⟨mm_sw_m hk h1, mm_df_m (hk d) h2⟩
theorem mm_gf_m {w : mm_W} {ax : List (Nat × Nat)} {r : Nat} {k k' : mm_V → Prop} (hk : ∀ v, k v → k' v) (h : mm_gf w ax r k) : mm_gf w ax r k' := by
  unfold mm_gf at h ⊢
  repeat' split at h
  all_goals first | exact hk _ h | exact h.elim
theorem mm_pf_m {w : mm_W} {ax : List (Nat × Nat)} {g r : Nat} {v : mm_V} {k k' : mm_W → Prop} (hk : ∀ v, k v → k' v) (h : mm_pf w ax g r v k) : mm_pf w ax g r v k' := by
  obtain ⟨l0, mi0, ml0⟩ := w
  unfold mm_pf at h ⊢
  repeat' split at h
  all_goals first | exact hk _ h | exact h.elim
theorem mm_ald_m {w : mm_W} {t r : Nat} {i : Int32} {k k' : Prop} (hk : k → k') (h : mm_ald w t r i k) : mm_ald w t r i k' := by
  unfold mm_ald at h ⊢
  split at h
  · split at h
    · exact ⟨h.1, hk h.2⟩
    · exact h.elim
  · exact h.elim
theorem mm_ald_i {w : mm_W} {t r n : Nat} {i : Int32} {k : Prop} (hr : w.1[r]? = some (.inr (.inl (t, n)))) (h : vp_in i n ∧ k) : mm_ald w t r i k := by
  unfold mm_ald
  rw [hr]
  have hb : Nat.beq t t = true := Nat.beq_refl t
  dsimp only
  rw [hb]
  exact h
theorem mm_ild_m {w : mm_W} {st : List mm_V} {k k' : Int32 → List mm_V → Prop} (hk : ∀ v r, k v r → k' v r) (h : mm_ild tb w st k) : mm_ild tb w st k' := by
  unfold mm_ild at h ⊢
  split at h
  · exact mm_ald_m (hk _ _) h
  · split at h
    · exact ⟨h.1, hk _ _ h.2⟩
    · exact h.elim
  · exact h.elim
theorem mm_lld_m {w : mm_W} {st : List mm_V} {k k' : Int64 → List mm_V → Prop} (hk : ∀ v r, k v r → k' v r) (h : mm_lld tb w st k) : mm_lld tb w st k' := by
  unfold mm_lld at h ⊢
  split at h
  · exact mm_ald_m (hk _ _) h
  · split at h
    · exact ⟨h.1, hk _ _ h.2⟩
    · exact h.elim
  · exact h.elim
theorem mm_bld_m {w : mm_W} {st : List mm_V} {k k' : Int32 → List mm_V → Prop} (hk : ∀ v r, k v r → k' v r) (h : mm_bld w st k) : mm_bld w st k' := by
  unfold mm_bld at h ⊢
  split at h
  · exact mm_ald_m (hk _ _) h
  · exact h.elim
theorem mm_qld_m {w : mm_W} {st : List mm_V} {k k' : Nat → List mm_V → Prop} (hk : ∀ v r, k v r → k' v r) (h : mm_qld w st k) : mm_qld w st k' := by
  unfold mm_qld at h ⊢
  split at h
  · split at h
    · exact ⟨h.1, hk _ _ h.2⟩
    · exact h.elim
  · exact h.elim
theorem mm_ist_m {w : mm_W} {t : Nat} {st : List mm_V} {k k' : mm_W → List mm_V → Prop} (hk : ∀ v r, k v r → k' v r) (h : mm_ist w t st k) : mm_ist w t st k' := by
  obtain ⟨l0, mi0, ml0⟩ := w
  unfold mm_ist at h ⊢
  split at h
  · cases t with
    | zero => exact mm_ald_m (hk _ _) h
    | succ t => exact mm_ald_m (hk _ _) h
  · exact h.elim
theorem mm_lst_m {w : mm_W} {st : List mm_V} {k k' : mm_W → List mm_V → Prop} (hk : ∀ v r, k v r → k' v r) (h : mm_lst w st k) : mm_lst w st k' := by
  obtain ⟨l0, mi0, ml0⟩ := w
  unfold mm_lst at h ⊢
  split at h
  · exact mm_ald_m (hk _ _) h
  · exact h.elim
theorem mm_len_m {w : mm_W} {st : List mm_V} {k k' : Int32 → List mm_V → Prop} (hk : ∀ v r, k v r → k' v r) (h : mm_len tb w st k) : mm_len tb w st k' := by
  unfold mm_len at h ⊢
  split at h
  · split at h
    · exact hk _ _ h
    · exact h.elim
  · exact hk _ _ h
  · exact h.elim
theorem mm_new_m {ax : List (Nat × Nat)} {ls : List (Option mm_V)} {st : List mm_V} {w : mm_W} {k k' : mm_V → mm_W → Prop} (hk : ∀ v r, k v r → k' v r) (h : mm_new lim ax ls st w k) : mm_new lim ax ls st w k' := by
  unfold mm_new at h ⊢
  split at h
  · exact ⟨h.1, h.2.1, hk _ _ h.2.2⟩
  · exact h.elim
theorem mm_nar_m {ax : List (Nat × Nat)} {ls : List (Option mm_V)} {st : List mm_V} {w : mm_W} {k k' : mm_V → List mm_V → mm_W → Prop} (hk : ∀ v r q, k v r q → k' v r q) (h : mm_nar lim ax ls st w k) : mm_nar lim ax ls st w k' := by
  unfold mm_nar at h ⊢
  split at h
  · exact ⟨h.1, h.2.1, h.2.2.1, h.2.2.2.1, hk _ _ _ h.2.2.2.2⟩
  · exact h.elim
theorem mm_nmu_m {ax : List (Nat × Nat)} {ls : List (Option mm_V)} {st : List mm_V} {w : mm_W} {k k' : mm_V → List mm_V → mm_W → Prop} (hk : ∀ v r q, k v r q → k' v r q) (h : mm_nmu lim ax ls st w k) : mm_nmu lim ax ls st w k' := by
  unfold mm_nmu at h ⊢
  split at h
  · exact ⟨h.1, h.2.1, h.2.2.1, h.2.2.2.1, h.2.2.2.2.1, h.2.2.2.2.2.1, hk _ _ _ h.2.2.2.2.2.2⟩
  · exact h.elim
theorem mm_inv_m (hc : mm_mono call) {mi : Nat} {ls : List (Option mm_V)} {As rest : List mm_V} {w : mm_W} {k k' : List mm_V → mm_W → Prop} (hk : ∀ v r, k v r → k' v r) (h : mm_inv call ms lim mi ls As rest w k) : mm_inv call ms lim mi ls As rest w k' := by
  unfold mm_inv at h ⊢
  split at h
  · split at h
    · exact hc _ _ _ _ _ (fun o w' z => ⟨z.1, hk _ _ z.2⟩) h
    · exact ⟨h.1, h.2.1, hc _ _ _ _ _ (fun o w' z => ⟨z.1, z.2.1, hk _ _ z.2.2⟩) h.2.2⟩
  · exact h.elim
theorem mm_b8_m {rest : List mm_V} {k k' : Prop} (hk : k → k') (h : mm_b8 rest k) : mm_b8 rest k' := by
  unfold mm_b8 at h ⊢
  split at h
  · exact hk h
  · exact h.elim
theorem mm_ivo_m (hc : mm_mono call) {mi g : Nat} {ls : List (Option mm_V)} {st : List mm_V} {w : mm_W} {k k' : List mm_V → mm_W → Prop} (hk : ∀ v r, k v r → k' v r) (h : mm_ivo call ms lim mi g ls st w k) : mm_ivo call ms lim mi g ls st w k' := by
  unfold mm_ivo at h ⊢
  split at h
  · exact mm_inv_m hc hk h
  · exact h.elim
theorem mm_ivs_m (hc : mm_mono call) {ax : List (Nat × Nat)} {g : Nat} {ls : List (Option mm_V)} {st : List mm_V} {w : mm_W} {k k' : List mm_V → mm_W → Prop} (hk : ∀ v r, k v r → k' v r) (h : mm_ivs call ms lim ax g ls st w k) : mm_ivs call ms lim ax g ls st w k' := by
  unfold mm_ivs at h ⊢
  split at h
  · exact mm_ivo_m hc hk h
  · exact mm_ivo_m hc hk h
  · exact mm_2i_m (fun x y r => mm_b8_m (hk _ _)) h
  · exact mm_2i_m (fun x y r => mm_b8_m (hk _ _)) h
  · exact mm_2l_m (fun x y r => mm_b8_m (hk _ _)) h
  · exact h.elim
theorem mm_ivv_m (hc : mm_mono call) {ax : List (Nat × Nat)} {g : Nat} {ls : List (Option mm_V)} {st : List mm_V} {w : mm_W} {k k' : List mm_V → mm_W → Prop} (hk : ∀ v r, k v r → k' v r) (h : mm_ivv call ms lim ax g ls st w k) : mm_ivv call ms lim ax g ls st w k' := by
  unfold mm_ivv at h ⊢
  split at h
  · split at h
    · split at h
      · exact mm_inv_m hc hk h
      · exact h.elim
    · exact h.elim
  · exact h.elim
theorem mm_ivi_m (hc : mm_mono call) {ax : List (Nat × Nat)} {g : Nat} {ls : List (Option mm_V)} {st : List mm_V} {w : mm_W} {k k' : List mm_V → mm_W → Prop} (hk : ∀ v r, k v r → k' v r) (h : mm_ivi call ms lim ax g ls st w k) : mm_ivi call ms lim ax g ls st w k' := by
  unfold mm_ivi at h ⊢
  split at h
  · exact mm_inv_m hc hk h
  · split at h
    · exact hk _ _ h
    · exact h.elim
  · exact h.elim
theorem mm_irt_m {r : Option FieldType} {st : List mm_V} {k k' : Int32 → Prop} (hk : ∀ x, k x → k' x) (h : mm_irt r st k) : mm_irt r st k' := by
  unfold mm_irt at h ⊢
  split at h
  · exact hk _ h
  · exact ⟨h.1, hk _ h.2⟩
  · exact h.elim
theorem mm_lrt_m {r : Option FieldType} {st : List mm_V} {k k' : Int64 → Prop} (hk : ∀ x, k x → k' x) (h : mm_lrt r st k) : mm_lrt r st k' := by
  unfold mm_lrt at h ⊢
  split at h
  · exact hk _ h
  · exact h.elim
theorem mm_vrt_m {r : Option FieldType} {st : List mm_V} {k k' : Prop} (hk : k → k') (h : mm_vrt r st k) : mm_vrt r st k' := by
  unfold mm_vrt at h ⊢
  split at h
  · exact hk h
  · exact h.elim
theorem mm_stp_m (hc : mm_mono call) (hQ : ∀ o w, Q o w → Q' o w) (hK : ∀ pc ls st w, K pc ls st w → K' pc ls st w) {pc : Nat} {ls : List (Option mm_V)} {st : List mm_V} {w : mm_W} (h : mm_stp call ms tb M lim Q K pc ls st w) : mm_stp call ms tb M lim Q' K' pc ls st w := by
  unfold mm_stp at h ⊢
  generalize (mm_Mc M).getD pc mm_nop = e0 at h ⊢
  obtain ⟨i, len, ax, ps, g, c1, c8, q0⟩ := e0
  dsimp only at h ⊢
  cases i with
  | iconst n => exact hK _ _ _ _ h
  | bipush n => exact hK _ _ _ _ h
  | sipush n => exact hK _ _ _ _ h
  | ldc n => exact hK _ _ _ _ h
  | lconst n => exact hK _ _ _ _ h
  | ldc2_w n => exact hK _ _ _ _ h
  | iload n => exact mm_oI_m (fun _ => hK _ _ _ _) h
  | iload_n n => exact mm_oI_m (fun _ => hK _ _ _ _) h
  | lload n => exact mm_oL_m (fun _ => hK _ _ _ _) h
  | lload_n n => exact mm_oL_m (fun _ => hK _ _ _ _) h
  | aload n => exact mm_oA_m (fun _ => hK _ _ _ _) h
  | aload_n n => exact mm_oA_m (fun _ => hK _ _ _ _) h
  | istore n => exact mm_1i_m (fun _ _ => hK _ _ _ _) h
  | istore_n n => exact mm_1i_m (fun _ _ => hK _ _ _ _) h
  | lstore n => exact mm_1l_m (fun _ _ => hK _ _ _ _) h
  | lstore_n n => exact mm_1l_m (fun _ _ => hK _ _ _ _) h
  | astore n => exact mm_1r_m (fun _ _ => hK _ _ _ _) h
  | astore_n n => exact mm_1r_m (fun _ _ => hK _ _ _ _) h
  | iinc a b => exact mm_oI_m (fun _ => hK _ _ _ _) h
  | iadd => exact mm_2i_m (fun _ _ _ => hK _ _ _ _) h
  | isub => exact mm_2i_m (fun _ _ _ => hK _ _ _ _) h
  | imul => exact mm_2i_m (fun _ _ _ => hK _ _ _ _) h
  | irem => exact mm_2i_m (fun _ _ _ z => ⟨z.1, hK _ _ _ _ z.2⟩) h
  | iand => exact mm_2i_m (fun _ _ _ => hK _ _ _ _) h
  | ior => exact mm_2i_m (fun _ _ _ => hK _ _ _ _) h
  | ixor => exact mm_2i_m (fun _ _ _ => hK _ _ _ _) h
  | ishl => exact mm_2i_m (fun _ _ _ => hK _ _ _ _) h
  | ishr => exact mm_2i_m (fun _ _ _ => hK _ _ _ _) h
  | ladd => exact mm_2l_m (fun _ _ _ => hK _ _ _ _) h
  | lsub => exact mm_2l_m (fun _ _ _ => hK _ _ _ _) h
  | lmul => exact mm_2l_m (fun _ _ _ => hK _ _ _ _) h
  | ldiv => exact mm_2l_m (fun _ _ _ z => ⟨z.1, hK _ _ _ _ z.2⟩) h
  | lrem => exact mm_2l_m (fun _ _ _ z => ⟨z.1, hK _ _ _ _ z.2⟩) h
  | lcmp => exact mm_2l_m (fun _ _ _ => hK _ _ _ _) h
  | i2l => exact mm_1i_m (fun _ _ => hK _ _ _ _) h
  | l2i => exact mm_1l_m (fun _ _ => hK _ _ _ _) h
  | dup => exact mm_1c_m (fun _ _ => hK _ _ _ _) h
  | pop => exact mm_1c_m (fun _ _ => hK _ _ _ _) h
  | pop2 => exact mm_1l_m (fun _ _ => hK _ _ _ _) h
  | dup_x1 => exact mm_1c_m (fun _ _ => mm_1c_m (fun _ _ => hK _ _ _ _)) h
  | dup2 => exact mm_1c_m (fun _ _ => mm_1c_m (fun _ _ => hK _ _ _ _)) h
  | goto o => exact mm_t1_m (fun _ => hK _ _ _ _) h
  | ifCond cd o => exact mm_t1_m (fun _ => mm_1i_m (fun _ _ => mm_if_m (hK _ _ _ _) (hK _ _ _ _))) h
  | if_icmp cd o => exact mm_t1_m (fun _ => mm_2i_m (fun _ _ _ => mm_ic_m (hK _ _ _ _) (hK _ _ _ _))) h
  | tableswitch a b c d => exact mm_1i_m (fun _ _ => mm_cas_m (fun _ => hK _ _ _ _)) h
  | lookupswitch a b => exact mm_1i_m (fun _ _ => mm_cas_m (fun _ => hK _ _ _ _)) h
  | getfield n => exact mm_1r_m (fun _ _ => mm_gf_m (fun _ => hK _ _ _ _)) h
  | putfield n =>
    dsimp only at h ⊢
    split at h
    · exact mm_pf_m (fun _ => hK _ _ _ _) h
    · exact h.elim
  | getstatic n => exact mm_t1_m (fun _ => hK _ _ _ _) h
  | iaload => exact mm_ild_m (fun _ _ => hK _ _ _ _) h
  | laload => exact mm_lld_m (fun _ _ => hK _ _ _ _) h
  | baload => exact mm_bld_m (fun _ _ => hK _ _ _ _) h
  | aaload => exact mm_qld_m (fun _ _ => hK _ _ _ _) h
  | iastore => exact mm_ist_m (fun _ _ => hK _ _ _ _) h
  | bastore => exact mm_ist_m (fun _ _ => hK _ _ _ _) h
  | lastore => exact mm_lst_m (fun _ _ => hK _ _ _ _) h
  | arraylength => exact mm_len_m (fun _ _ => hK _ _ _ _) h
  | new n => exact mm_new_m (fun _ _ => hK _ _ _ _) h
  | newarray a => exact mm_nar_m (fun _ _ _ => hK _ _ _ _) h
  | multianewarray a b => exact mm_nmu_m (fun _ _ _ => hK _ _ _ _) h
  | invokestatic n => exact mm_ivs_m hc (fun _ _ => hK _ _ _ _) h
  | invokevirtual n => exact mm_ivv_m hc (fun _ _ => hK _ _ _ _) h
  | invokespecial n => exact mm_ivi_m hc (fun _ _ => hK _ _ _ _) h
  | ireturn => exact mm_irt_m (fun _ => hQ _ _) h
  | lreturn => exact mm_lrt_m (fun _ => hQ _ _) h
  | return_ => exact mm_vrt_m (hQ _ _) h
  | _ => exact h.elim
theorem mm_WP_s (hc : mm_mono call) {pc : Nat} {ls : List (Option mm_V)} {st : List mm_V} {w : mm_W} (h : mm_stp call ms tb M lim Q (mm_WP call ms tb M lim Q) pc ls st w) : mm_WP call ms tb M lim Q pc ls st w :=
  fun R hR => hR _ _ _ _ (mm_stp_m hc (fun _ _ z => z) (fun _ _ _ _ z => z R hR) h)
theorem mm_WP_m (hc : mm_mono call) (hQ : ∀ o w, Q o w → Q' o w) {pc : Nat} {ls : List (Option mm_V)} {st : List mm_V} {w : mm_W} (h : mm_WP call ms tb M lim Q pc ls st w) : mm_WP call ms tb M lim Q' pc ls st w :=
  h _ (fun _ _ _ _ z => mm_WP_s hc (mm_stp_m hc hQ (fun _ _ _ _ y => y) z))
theorem mm_call_m : ∀ d : Nat, mm_mono (mm_call ms tb d)
  | 0 => fun _ _ _ _ _ _ h => h.elim
  | d + 1 => fun mi As w Q Q' hQ h => by
    unfold mm_call at h ⊢
    split at h
    · unfold mm_run at h ⊢
      split at h
      · exact mm_WP_m (mm_call_m d) hQ h
      · exact h.elim
    · exact h.elim
/-- more depth does no harm -/
theorem mm_stp_c {call' : mm_F} (hcc : ∀ mi As w Q, call mi As w Q → call' mi As w Q) {pc : Nat} {ls : List (Option mm_V)} {st : List mm_V} {w : mm_W} (h : mm_stp call ms tb M lim Q K pc ls st w) : mm_stp call' ms tb M lim Q K pc ls st w := by
  have hi : ∀ {mi : Nat} {ls : List (Option mm_V)} {As rest : List mm_V} {w : mm_W} {k : List mm_V → mm_W → Prop}, mm_inv call ms lim mi ls As rest w k → mm_inv call' ms lim mi ls As rest w k := by
    intro mi ls As rest w k h
    unfold mm_inv at h ⊢
    split at h
    · split at h
      · exact hcc _ _ _ _ h
      · exact ⟨h.1, h.2.1, hcc _ _ _ _ h.2.2⟩
    · exact h.elim
  unfold mm_stp at h ⊢
  generalize (mm_Mc M).getD pc mm_nop = e0 at h ⊢
  obtain ⟨i, len, ax, ps, g, c1, c8, q0⟩ := e0
  dsimp only at h ⊢
  cases i with
  | invokestatic n =>
    dsimp only at h ⊢
    unfold mm_ivs at h ⊢
    split at h
    · unfold mm_ivo at h ⊢
      split at h
      · exact hi h
      · exact h.elim
    · unfold mm_ivo at h ⊢
      split at h
      · exact hi h
      · exact h.elim
    · exact h
    · exact h
    · exact h
    · exact h.elim
  | invokevirtual n =>
    dsimp only at h ⊢
    unfold mm_ivv at h ⊢
    split at h
    · split at h
      · split at h
        · exact hi h
        · exact h.elim
      · exact h.elim
    · exact h.elim
  | invokespecial n =>
    dsimp only at h ⊢
    unfold mm_ivi at h ⊢
    split at h
    · exact hi h
    · exact h
    · exact h.elim
  | _ => exact h
theorem mm_call_d : ∀ (d k : Nat) (mi : Nat) (As : List mm_V) (w : mm_W) (Q : Option mm_V → mm_W → Prop), mm_call ms tb d mi As w Q → mm_call ms tb (d + k) mi As w Q
  | 0, _, _, _, _, _, h => h.elim
  | d + 1, k, mi, As, w, Q, h => by
    rw [show d + 1 + k = (d + k) + 1 by omega]
    unfold mm_call at h ⊢
    split at h
    · unfold mm_run at h ⊢
      split at h
      · refine h _ (fun pc ls st w z => mm_WP_s (mm_call_m (d + k)) (mm_stp_c (mm_call_d d k) z))
      · exact h.elim
    · exact h.elim
/-! many steps at once, up to places where one stops -/
def mm_mem (pc : Nat) : List Nat → Bool
  | [] => false
  | a :: r => match Nat.beq a pc with
    | true => true
    | false => mm_mem pc r
def mm_ex (call : mm_F) (ms : List mm_M) (tb : mm_T) (M : mm_M) (lim : Nat × Nat) (Q : Option mm_V → mm_W → Prop) (stops : List Nat) : Nat → mm_K
  | 0 => mm_WP call ms tb M lim Q
  | n + 1 => fun pc ls st w => match mm_mem pc stops with
    | true => mm_WP call ms tb M lim Q pc ls st w
    | false => mm_stp call ms tb M lim Q (mm_ex call ms tb M lim Q stops n) pc ls st w
theorem mm_ex_W (hc : mm_mono call) (stops : List Nat) : ∀ (n : Nat) (pc : Nat) (ls : List (Option mm_V)) (st : List mm_V) (w : mm_W), mm_ex call ms tb M lim Q stops n pc ls st w → mm_WP call ms tb M lim Q pc ls st w
  | 0, _, _, _, _, h => h
  | n + 1, pc, ls, st, w, h => by
    unfold mm_ex at h
    split at h
    · exact h
    · exact mm_WP_s hc (mm_stp_m hc (fun _ _ z => z) (mm_ex_W hc stops n) h)
theorem mm_go (stops : List Nat) (n : Nat) (hc : mm_mono call) {pc : Nat} {ls : List (Option mm_V)} {st : List mm_V} {w : mm_W} (h : mm_stp call ms tb M lim Q (mm_ex call ms tb M lim Q stops n) pc ls st w) : mm_WP call ms tb M lim Q pc ls st w :=
  mm_WP_s hc (mm_stp_m hc (fun _ _ z => z) (mm_ex_W hc stops n) h)
theorem mm_call_of {d mi : Nat} {As : List mm_V} {w : mm_W} (hM : ms[mi]? = some M) (hb : Nat.ble (mm_ar As).length (mm_Ml M) = true) (h : mm_WP (mm_call ms tb d) ms tb M (w.1.length + mm_Mk M, mm_sl w.1 + mm_Ms M) Q 0 (mm_ini (mm_Ml M) As) [] w) : mm_call ms tb (d + 1) mi As w Q := by
  unfold mm_call
  rw [hM]
  dsimp only
  unfold mm_run
  rw [hb]
  exact h
end MMW
