/-! ===== what the evaluator finds holds ===== -/
/-- what an instruction leaves: what is known is so, the cells where none are made -/
def mm_gd (kz : Nat → Bool) (B : mm_B) (fl : Bool) (X X' : mm_X) : Prop := mm_jv kz B X' ∧ (fl = false → X'.1 = X.1)
section MMS
variable {ρ : Type} {z : ρ} {kz : Nat → Bool} {B : mm_B}
theorem mm_eoI_s {o : Option mm_V} {k : Int32 → Option ρ} {k' : Int32 → Prop} (hk : ∀ x, k x = some z → k' x) (h : mm_eoI o k = some z) : mm_oI o k' := by
  unfold mm_eoI at h
  split at h
  · exact hk _ h
  · cases h
theorem mm_eoL_s {o : Option mm_V} {k : Int64 → Option ρ} {k' : Int64 → Prop} (hk : ∀ x, k x = some z → k' x) (h : mm_eoL o k = some z) : mm_oL o k' := by
  unfold mm_eoL at h
  split at h
  · exact hk _ h
  · cases h
theorem mm_eoA_s {o : Option mm_V} {k : mm_V → Option ρ} {k' : mm_V → Prop} (hk : ∀ x, k x = some z → k' x) (h : mm_eoA o k = some z) : mm_oA o k' := by
  unfold mm_eoA at h
  split at h
  · exact hk _ h
  · cases h
theorem mm_e1i_s {st : List mm_V} {k : Int32 → List mm_V → Option ρ} {k' : Int32 → List mm_V → Prop} (hk : ∀ x r, k x r = some z → k' x r) (h : mm_e1i st k = some z) : mm_1i st k' := by
  unfold mm_e1i at h
  split at h
  · exact hk _ _ h
  · cases h
theorem mm_e1l_s {st : List mm_V} {k : Int64 → List mm_V → Option ρ} {k' : Int64 → List mm_V → Prop} (hk : ∀ x r, k x r = some z → k' x r) (h : mm_e1l st k = some z) : mm_1l st k' := by
  unfold mm_e1l at h
  split at h
  · exact hk _ _ h
  · cases h
theorem mm_e1c_s {st : List mm_V} {k : mm_V → List mm_V → Option ρ} {k' : mm_V → List mm_V → Prop} (hk : ∀ x r, k x r = some z → k' x r) (h : mm_e1c st k = some z) : mm_1c st k' := by
  unfold mm_e1c at h
  split at h
  · exact hk _ _ h
  · exact hk _ _ h
  · cases h
theorem mm_e1r_s {st : List mm_V} {k : Nat → List mm_V → Option ρ} {k' : Nat → List mm_V → Prop} (hk : ∀ x r, k x r = some z → k' x r) (h : mm_e1r st k = some z) : mm_1r st k' := by
  unfold mm_e1r at h
  split at h
  · exact hk _ _ h
  · cases h
theorem mm_e2i_s {st : List mm_V} {k : Int32 → Int32 → List mm_V → Option ρ} {k' : Int32 → Int32 → List mm_V → Prop} (hk : ∀ x y r, k x y r = some z → k' x y r) (h : mm_e2i st k = some z) : mm_2i st k' := by
  unfold mm_e2i at h
  split at h
  · exact hk _ _ _ h
  · cases h
theorem mm_e2l_s {st : List mm_V} {k : Int64 → Int64 → List mm_V → Option ρ} {k' : Int64 → Int64 → List mm_V → Prop} (hk : ∀ x y r, k x y r = some z → k' x y r) (h : mm_e2l st k = some z) : mm_2l st k' := by
  unfold mm_e2l at h
  split at h
  · exact hk _ _ _ h
  · cases h
theorem mm_et1_s {ax : List (Nat × Nat)} {k : Nat → Option ρ} {k' : Nat → Prop} (hk : ∀ t, k t = some z → k' t) (h : mm_et1 ax k = some z) : mm_t1 ax k' := by
  unfold mm_et1 at h
  split at h
  · exact hk _ h
  · cases h
theorem mm_sel_e {b : Bool} {p q : Option ρ} (h : mm_sel b p q = some z) : (b = true ∧ p = some z) ∨ (b = false ∧ q = some z) := by
  cases b
  · exact .inr ⟨rfl, h⟩
  · exact .inl ⟨rfl, h⟩
theorem mm_eic_eq {x y : Int32} {a b : Option ρ} : mm_eic .eq x y a b = mm_sel (mm_qb x y) a b := by unfold mm_eic; rfl
theorem mm_eic_ne {x y : Int32} {a b : Option ρ} : mm_eic .ne x y a b = mm_sel (mm_qb x y) b a := by unfold mm_eic; rfl
theorem mm_eic_lt {x y : Int32} {a b : Option ρ} : mm_eic .lt x y a b = mm_sel (mm_lb x y) a b := by unfold mm_eic; rfl
theorem mm_eic_ge {x y : Int32} {a b : Option ρ} : mm_eic .ge x y a b = mm_sel (mm_lb x y) b a := by unfold mm_eic; rfl
theorem mm_eic_gt {x y : Int32} {a b : Option ρ} : mm_eic .gt x y a b = mm_sel (mm_lb y x) a b := by unfold mm_eic; rfl
theorem mm_eic_le {x y : Int32} {a b : Option ρ} : mm_eic .le x y a b = mm_sel (mm_lb y x) b a := by unfold mm_eic; rfl
theorem mm_eic_s {c : Jvm.ClassFile.Cond} {x y : Int32} {a b : Option ρ} {a' b' : Prop} (ha : a = some z → a') (hb : b = some z → b') (h : mm_eic c x y a b = some z) : mm_ic c x y a' b' := by
  cases c with
  | eq =>
    rw [mm_eic_eq] at h
    rcases mm_sel_e h with ⟨q, h⟩ | ⟨q, h⟩
    · exact ⟨fun _ => ha h, fun w => absurd (mm_qb_t q) w⟩
    · exact ⟨fun w => absurd w (mm_qb_f q), fun _ => hb h⟩
  | ne =>
    rw [mm_eic_ne] at h
    rcases mm_sel_e h with ⟨q, h⟩ | ⟨q, h⟩
    · exact ⟨fun w => absurd (mm_qb_t q) w, fun _ => hb h⟩
    · exact ⟨fun _ => ha h, fun w => absurd w (mm_qb_f q)⟩
  | lt =>
    rw [mm_eic_lt] at h
    rcases mm_sel_e h with ⟨q, h⟩ | ⟨q, h⟩
    · exact ⟨fun _ => ha h, fun w => absurd (mm_lb_t q) w⟩
    · exact ⟨fun w => absurd w (mm_lb_f q), fun _ => hb h⟩
  | ge =>
    rw [mm_eic_ge] at h
    rcases mm_sel_e h with ⟨q, h⟩ | ⟨q, h⟩
    · exact ⟨fun w => absurd w (mm_lb_n q), fun _ => hb h⟩
    · exact ⟨fun _ => ha h, fun w => absurd (mm_lb_g q) w⟩
  | gt =>
    rw [mm_eic_gt] at h
    rcases mm_sel_e h with ⟨q, h⟩ | ⟨q, h⟩
    · exact ⟨fun _ => ha h, fun w => absurd (mm_lb_t q) w⟩
    · exact ⟨fun w => absurd w (mm_lb_f q), fun _ => hb h⟩
  | le =>
    rw [mm_eic_le] at h
    rcases mm_sel_e h with ⟨q, h⟩ | ⟨q, h⟩
    · exact ⟨fun w => absurd w (mm_lb_n q), fun _ => hb h⟩
    · exact ⟨fun _ => ha h, fun w => absurd (mm_lb_g q) w⟩
theorem mm_eif_c {c : Jvm.ClassFile.Cond} {x : Int32} {a b : Option ρ} : mm_eif c x a b = mm_eic c x 0 a b := by cases c <;> rfl
theorem mm_if_c {c : Jvm.ClassFile.Cond} {x : Int32} {a b : Prop} : mm_if c x a b = mm_ic c x 0 a b := by cases c <;> rfl
theorem mm_eif_s {c : Jvm.ClassFile.Cond} {x : Int32} {a b : Option ρ} {a' b' : Prop} (ha : a = some z → a') (hb : b = some z → b') (h : mm_eif c x a b = some z) : mm_if c x a' b' := by
  rw [mm_eif_c] at h
  rw [mm_if_c]
  exact mm_eic_s ha hb h
theorem mm_esn_s {x : Int32} {k' : Nat → Prop} : ∀ {ts : List (Nat × Nat)}, mm_esn x ts = true → mm_sw x k' ts
  | [], _ => trivial
  | (a, t) :: r, h => by
    unfold mm_esn at h
    split at h
    · cases h
    · rename_i q
      exact ⟨fun w => absurd w (mm_qb_f q), mm_esn_s h⟩
theorem mm_df_x {x : Int32} {P : Prop} : ∀ {ts : List (Nat × Nat)} {a t : Nat}, (a, t) ∈ ts → x = nI a → mm_df x P ts
  | [], _, _, hm, _ => absurd hm List.not_mem_nil
  | (b, u) :: r, a, t, hm, hx => fun w => by
    rcases List.mem_cons.mp hm with h | h
    · exact absurd (by cases h; exact hx) w
    · exact mm_df_x h hx
theorem mm_esw_s {x : Int32} {k : Nat → Option ρ} {k' : Nat → Prop} {d : Nat} (hk : ∀ t, k t = some z → k' t) : ∀ {ts : List (Nat × Nat)}, mm_esw x k d ts = some z → mm_sw x k' ts ∧ mm_df x (k' d) ts
  | [], h => ⟨trivial, hk _ h⟩
  | (a, t) :: r, h => by
    unfold mm_esw at h
    split at h
    · rename_i q
      split at h
      · rename_i q2
        exact ⟨⟨fun _ => hk _ h, mm_esn_s q2⟩, mm_df_x (List.mem_cons_self) (mm_qb_t q)⟩
      · cases h
    · rename_i q
      obtain ⟨h1, h2⟩ := mm_esw_s hk h
      exact ⟨⟨fun w => absurd w (mm_qb_f q), h1⟩, fun _ => h2⟩
theorem mm_ecas_s {x : Int32} {k : Nat → Option ρ} {k' : Nat → Prop} {ax : List (Nat × Nat)} (hk : ∀ t, k t = some z → k' t) (h : mm_ecas x k ax = some z) : mm_cas x k' ax := by
  unfold mm_ecas at h
  split at h
  · exact mm_esw_s hk h
  · cases h
theorem mm_egf_s {X : mm_X} (hI : mm_jv kz B X) {ax : List (Nat × Nat)} {r : Nat} {k : mm_V → Option ρ} {k' : mm_V → Prop} (hk : ∀ v, k v = some z → k' v) (h : mm_egf kz X ax r k = some z) : mm_gf (mm_sem B X) ax r k' := by
  unfold mm_egf at h
  unfold mm_gf
  show (match X.1[r]? with | some (.inl (ci, fs)) => (match mm_fi ax ci with | some j => (match fs[j]? with | some none => k' (mm_I (mm_gb B.1 X.2.1 r j)) | some (some none) => k' mm_N | some (some (some a)) => k' (mm_R a) | none => False) | none => False) | _ => False)
  split at h
  · rename_i h1
    rw [h1]
    dsimp only
    split at h
    · rename_i h2
      split at h
      · rename_i h3
        split at h
        · rename_i h4
          rw [mm_fc_e] at h
          rw [h2]
          dsimp only
          rw [h3, mm_gx_s hI.1 h4]
          exact hk _ h
        · cases h
      · rename_i h3
        rw [h2]
        dsimp only
        rw [h3]
        exact hk _ h
      · rename_i h3
        rw [h2]
        dsimp only
        rw [h3]
        exact hk _ h
      · cases h
    · cases h
  · cases h
theorem mm_epf_s {fl : Bool} {X : mm_X} (hI : mm_jv kz B X) {ax : List (Nat × Nat)} {g r : Nat} {v : mm_V} {k : mm_X → Option ρ} {k' : mm_W → Prop} (hk : ∀ X', k X' = some z → mm_gd kz B fl X X' → k' (mm_sem B X')) (h : mm_epf fl X ax g r v k = some z) : mm_pf (mm_sem B X) ax g r v k' := by
  unfold mm_epf at h
  unfold mm_pf
  split at h
  · rename_i ci fs h1
    split at h
    · rename_i j h2
      split at h
      · rename_i x h3
        show (match X.1[r]? with | some (.inl (ci, fs)) => _ | _ => False)
        rw [h1]
        dsimp only
        rw [h2]
        dsimp only
        rw [h3]
        show k' (X.1, mm_u (mm_gb B.1 X.2.1) r j x, mm_gb B.2 X.2.2)
        rw [← mm_gb_u]
        exact hk _ h ⟨⟨mm_iv_u hI.1 _ _ _, hI.2⟩, fun _ => rfl⟩
      · rename_i o a h3
        split at h
        · rw [mm_fl_e, mm_fl_e] at h
          show (match X.1[r]? with | some (.inl (ci, fs)) => _ | _ => False)
          rw [h1]
          dsimp only
          rw [h2]
          dsimp only
          rw [h3]
          exact hk _ h ⟨hI, fun q => by cases q⟩
        · cases h
      · cases h
    · cases h
  · cases h
theorem mm_eal_s {X : mm_X} {t r : Nat} {i : Int32} {k : Nat → Option ρ} {P : Prop} (hk : k i.toNatClampNeg = some z → P) (h : mm_eal X t r i k = some z) : mm_ald (mm_sem B X) t r i P := by
  unfold mm_eal at h
  split at h
  · rename_i t' n h1
    split at h
    · rename_i h2 h3
      rw [mm_fn_e] at h
      obtain ⟨h4, h5⟩ := mm_inb_t h3
      have : t' = t := Nat.eq_of_beq_eq_true h2
      subst this
      exact mm_ald_i (w := mm_sem B X) h1 ⟨h4, hk (by rw [h5]; exact h)⟩
    · cases h
  · cases h
theorem mm_tbe_s {L : Nat} {xs : Nat → Int32} {j : Nat} {y : Nat × ((Nat → Int32) ⊕ (Nat → Int64))} (h : mm_tbe j = some y) : mm_tb L xs j = y := by
  unfold mm_tbe at h
  split at h
  · cases h; rfl
  · cases h; rfl
  · cases h; rfl
  · cases h
theorem mm_eild_s {L : Nat} {xs : Nat → Int32} {X : mm_X} (hI : mm_jv kz B X) {st : List mm_V} {k : Int32 → List mm_V → Option ρ} {k' : Int32 → List mm_V → Prop} (hk : ∀ x r, k x r = some z → k' x r) (h : mm_eild kz X st k = some z) : mm_ild (mm_tb L xs) (mm_sem B X) st k' := by
  unfold mm_eild at h
  unfold mm_ild
  split at h
  · refine mm_eal_s (fun q => ?_) h
    split at q
    · rename_i q2
      rw [mm_fc_e] at q
      have := hk _ _ q
      rw [← mm_gx_s hI.1 q2] at this
      exact this
    · cases q
  · split at h
    · rename_i h1
      split at h
      · rename_i h2
        obtain ⟨h4, h5⟩ := mm_inb_t h2
        dsimp only
        rw [mm_tbe_s h1]
        rw [mm_fc_e] at h
        exact ⟨h4, by rw [h5]; exact hk _ _ h⟩
      · cases h
    · cases h
  · cases h
theorem mm_elld_s {L : Nat} {xs : Nat → Int32} {X : mm_X} (hI : mm_jv kz B X) {st : List mm_V} {k : Int64 → List mm_V → Option ρ} {k' : Int64 → List mm_V → Prop} (hk : ∀ x r, k x r = some z → k' x r) (h : mm_elld kz X st k = some z) : mm_lld (mm_tb L xs) (mm_sem B X) st k' := by
  unfold mm_elld at h
  unfold mm_lld
  split at h
  · refine mm_eal_s (fun q => ?_) h
    split at q
    · rename_i q2
      rw [mm_fd_e] at q
      have := hk _ _ q
      rw [← mm_gx_s hI.2 q2] at this
      exact this
    · cases q
  · split at h
    · rename_i h1
      split at h
      · rename_i h2
        obtain ⟨h4, h5⟩ := mm_inb_t h2
        dsimp only
        rw [mm_tbe_s h1]
        rw [mm_fd_e] at h
        exact ⟨h4, by rw [h5]; exact hk _ _ h⟩
      · cases h
    · cases h
  · cases h
theorem mm_ebld_s {X : mm_X} (hI : mm_jv kz B X) {st : List mm_V} {k : Int32 → List mm_V → Option ρ} {k' : Int32 → List mm_V → Prop} (hk : ∀ x r, k x r = some z → k' x r) (h : mm_ebld kz X st k = some z) : mm_bld (mm_sem B X) st k' := by
  unfold mm_ebld at h
  unfold mm_bld
  split at h
  · refine mm_eal_s (fun q => ?_) h
    split at q
    · rename_i q2
      rw [mm_fc_e] at q
      have := hk _ _ q
      rw [← mm_gx_s hI.1 q2] at this
      exact this
    · cases q
  · cases h
theorem mm_eqld_s {X : mm_X} {st : List mm_V} {k : Nat → List mm_V → Option ρ} {k' : Nat → List mm_V → Prop} (hk : ∀ x r, k x r = some z → k' x r) (h : mm_eqld X st k = some z) : mm_qld (mm_sem B X) st k' := by
  unfold mm_eqld at h
  unfold mm_qld
  split at h
  · rename_i i r s
    split at h
    · rename_i t n b h1
      split at h
      · rename_i h2
        obtain ⟨h4, h5⟩ := mm_inb_t h2
        rw [mm_fn_e] at h
        show (match X.1[r]? with | some (.inr (.inr (_, n, b))) => vp_in i n ∧ k' (b + i.toNatClampNeg) s | _ => False)
        rw [h1]
        exact ⟨h4, by rw [h5]; exact hk _ _ h⟩
      · cases h
    · cases h
  · cases h
theorem mm_eist_s {fl : Bool} {X : mm_X} (hI : mm_jv kz B X) {t : Nat} {st : List mm_V} {k : mm_X → List mm_V → Option ρ} {k' : mm_W → List mm_V → Prop} (hk : ∀ X' r, k X' r = some z → mm_gd kz B fl X X' → k' (mm_sem B X') r) (h : mm_eist X t st k = some z) : mm_ist (mm_sem B X) t st k' := by
  unfold mm_eist at h
  unfold mm_ist
  split at h
  · rename_i x i r s
    dsimp only
    refine mm_eal_s (fun q => ?_) h
    cases t with
    | zero =>
      show k' (X.1, mm_u (mm_gb B.1 X.2.1) r i.toNatClampNeg x, mm_gb B.2 X.2.2) s
      rw [← mm_gb_u]
      exact hk _ _ q ⟨⟨mm_iv_u hI.1 _ _ _, hI.2⟩, fun _ => rfl⟩
    | succ t =>
      have q1 : mm_fc (vp_nar .boolean x) (fun y => k (X.1, (r, i.toNatClampNeg, y) :: X.2.1, X.2.2) s) = some z := q
      rw [mm_fc_e] at q1
      show k' (X.1, mm_u (mm_gb B.1 X.2.1) r i.toNatClampNeg (vp_nar .boolean x), mm_gb B.2 X.2.2) s
      rw [← mm_gb_u]
      exact hk _ _ q1 ⟨⟨mm_iv_u hI.1 _ _ _, hI.2⟩, fun _ => rfl⟩
  · cases h
theorem mm_elst_s {fl : Bool} {X : mm_X} (hI : mm_jv kz B X) {st : List mm_V} {k : mm_X → List mm_V → Option ρ} {k' : mm_W → List mm_V → Prop} (hk : ∀ X' r, k X' r = some z → mm_gd kz B fl X X' → k' (mm_sem B X') r) (h : mm_elst X st k = some z) : mm_lst (mm_sem B X) st k' := by
  unfold mm_elst at h
  unfold mm_lst
  split at h
  · rename_i x i r s
    dsimp only
    refine mm_eal_s (fun q => ?_) h
    show k' (X.1, mm_gb B.1 X.2.1, mm_u (mm_gb B.2 X.2.2) r i.toNatClampNeg x) s
    rw [← mm_gb_u]
    exact hk _ _ q ⟨⟨hI.1, mm_iv_u hI.2 _ _ _⟩, fun _ => rfl⟩
  · cases h
theorem mm_elen_s {L : Nat} {xs : Nat → Int32} {X : mm_X} {st : List mm_V} {k : Int32 → List mm_V → Option ρ} {k' : Int32 → List mm_V → Prop} (hk : ∀ x r, k x r = some z → k' x r) (h : mm_elen X st k = some z) : mm_len (mm_tb L xs) (mm_sem B X) st k' := by
  unfold mm_elen at h
  unfold mm_len
  split at h
  · rename_i r s
    split at h
    · rename_i h1
      show (match X.1[r]? with | some (.inr (.inl (_, n))) => k' (nI n) s | _ => False)
      rw [h1]
      exact hk _ _ h
    · cases h
  · split at h
    · rename_i h1
      dsimp only
      rw [mm_tbe_s h1]
      exact hk _ _ h
    · cases h
  · cases h
theorem mm_rmb_s {lim : Nat × Nat} {X : mm_X} {a b : Nat} (h : mm_rmb lim X a b = true) : mm_rm lim (mm_sem B X) a b := by
  unfold mm_rmb at h
  split at h
  · rename_i h1
    exact ⟨Nat.le_of_ble_eq_true h1, Nat.le_of_ble_eq_true h⟩
  · cases h
theorem mm_zzb_s {X : mm_X} (h : mm_zzb X = true) : mm_zb X.2.1 X.1.length = true ∧ mm_zb X.2.2 X.1.length = true := by
  unfold mm_zzb at h
  split at h
  · rename_i h1
    exact ⟨h1, h⟩
  · cases h
theorem mm_enew_s {fl : Bool} (hB : fl = true → B.1 = (fun _ _ => 0) ∧ B.2 = fun _ _ => 0) {lim : Nat × Nat} {ax : List (Nat × Nat)} {ls : List (Option mm_V)} {st : List mm_V} {X : mm_X} (hI : mm_jv kz B X) {k : mm_V → mm_X → Option ρ} {k' : mm_V → mm_W → Prop} (hk : ∀ v X', k v X' = some z → mm_gd kz B fl X X' → k' v (mm_sem B X')) (h : mm_enew fl lim ax ls st X k = some z) : mm_new lim ax ls st (mm_sem B X) k' := by
  unfold mm_enew at h
  unfold mm_new
  split at h
  · split at h
    · rename_i h1 h2 h3
      rw [mm_fn_e, mm_fl_e, mm_fl_e] at h
      obtain ⟨h4, h5⟩ := mm_zzb_s h3
      refine ⟨h1, mm_rmb_s h2, ?_⟩
      have := hk _ _ h ⟨hI, fun q => by cases q⟩
      show k' (mm_R X.1.length) (X.1 ++ _, mm_z (mm_gb B.1 X.2.1) X.1.length 1, mm_z (mm_gb B.2 X.2.2) X.1.length 1)
      rw [mm_gb_z (hB rfl).1 h4, mm_gb_z (hB rfl).2 h5]
      exact this
    · cases h
  · cases h
theorem mm_enar_s {fl : Bool} (hB : fl = true → B.1 = (fun _ _ => 0) ∧ B.2 = fun _ _ => 0) {lim : Nat × Nat} {ax : List (Nat × Nat)} {ls : List (Option mm_V)} {st : List mm_V} {X : mm_X} (hI : mm_jv kz B X) {k : mm_V → List mm_V → mm_X → Option ρ} {k' : mm_V → List mm_V → mm_W → Prop} (hk : ∀ v r X', k v r X' = some z → mm_gd kz B fl X X' → k' v r (mm_sem B X')) (h : mm_enar fl lim ax ls st X k = some z) : mm_nar lim ax ls st (mm_sem B X) k' := by
  unfold mm_enar at h
  unfold mm_nar
  split at h
  · split at h
    · rename_i h0 h6 h1 h2 h3
      rw [mm_fn_e, mm_fl_e] at h
      obtain ⟨h4, h5⟩ := mm_zzb_s h3
      refine ⟨mm_qb_t h0, Nat.le_of_ble_eq_true h6, h1, mm_rmb_s h2, ?_⟩
      have := hk _ _ _ h ⟨hI, fun q => by cases q⟩
      show k' (mm_R X.1.length) _ (X.1 ++ _, mm_z (mm_gb B.1 X.2.1) X.1.length 1, mm_z (mm_gb B.2 X.2.2) X.1.length 1)
      rw [mm_gb_z (hB rfl).1 h4, mm_gb_z (hB rfl).2 h5]
      exact this
    · cases h
  · cases h
theorem mm_enmu_s {fl : Bool} (hB : fl = true → B.1 = (fun _ _ => 0) ∧ B.2 = fun _ _ => 0) {lim : Nat × Nat} {ax : List (Nat × Nat)} {ls : List (Option mm_V)} {st : List mm_V} {X : mm_X} (hI : mm_jv kz B X) {k : mm_V → List mm_V → mm_X → Option ρ} {k' : mm_V → List mm_V → mm_W → Prop} (hk : ∀ v r X', k v r X' = some z → mm_gd kz B fl X X' → k' v r (mm_sem B X')) (h : mm_enmu fl lim ax ls st X k = some z) : mm_nmu lim ax ls st (mm_sem B X) k' := by
  unfold mm_enmu at h
  unfold mm_nmu
  split at h
  · rename_i t n q1 m q2 y x r
    split at h
    · rename_i h0 h7 h6 h8 h1 h2 h3
      rw [mm_fn_e, mm_fn_e, mm_fl_e] at h
      obtain ⟨h4, h5⟩ := mm_zzb_s h3
      refine ⟨mm_qb_t h0, mm_qb_t h7, Nat.le_of_ble_eq_true h6, Nat.le_of_ble_eq_true h8, h1, mm_rmb_s h2, ?_⟩
      have := hk _ _ _ h ⟨hI, fun q => by cases q⟩
      show k' (mm_R X.1.length) _ (X.1 ++ _, mm_z (mm_gb B.1 X.2.1) X.1.length (1 + n), mm_z (mm_gb B.2 X.2.2) X.1.length (1 + n))
      rw [mm_gb_z (hB rfl).1 h4, mm_gb_z (hB rfl).2 h5]
      exact this
    · cases h
  · cases h
theorem mm_eb8_s {rest : List mm_V} {k : Option ρ} {k' : Prop} (hk : k = some z → k') (h : mm_eb8 rest k = some z) : mm_b8 rest k' := by
  unfold mm_eb8 at h
  split at h
  · rename_i q
    unfold mm_b8
    rw [q]
    exact hk h
  · cases h
theorem mm_eirt_s {ret : Option FieldType} {st : List mm_V} {k : Int32 → Option ρ} {k' : Int32 → Prop} (hk : ∀ x, k x = some z → k' x) (h : mm_eirt ret st k = some z) : mm_irt ret st k' := by
  unfold mm_eirt at h
  unfold mm_irt
  split at h
  · exact hk _ h
  · rename_i x
    dsimp only
    cases h0 : mm_qb x 0 with
    | true =>
      rw [h0] at h
      exact ⟨.inl (mm_qb_t h0), hk _ h⟩
    | false =>
      cases h1 : mm_qb x 1 with
      | true =>
        rw [h0, h1] at h
        exact ⟨.inr (mm_qb_t h1), hk _ h⟩
      | false =>
        rw [h0, h1] at h
        cases h
  · cases h
theorem mm_elrt_s {ret : Option FieldType} {st : List mm_V} {k : Int64 → Option ρ} {k' : Int64 → Prop} (hk : ∀ x, k x = some z → k' x) (h : mm_elrt ret st k = some z) : mm_lrt ret st k' := by
  unfold mm_elrt at h
  unfold mm_lrt
  split at h
  · exact hk _ h
  · cases h
theorem mm_evrt_s {ret : Option FieldType} {st : List mm_V} {k : Option ρ} {k' : Prop} (hk : k = some z → k') (h : mm_evrt ret st k = some z) : mm_vrt ret st k' := by
  unfold mm_evrt at h
  unfold mm_vrt
  split at h
  · exact hk h
  · cases h
/-- what a call of the evaluator finds is so -/
def mm_ok (kz : Nat → Bool) (B : mm_B) (call : mm_EC) (callP : mm_F) : Prop := ∀ fl mi As X o X', (fl = true → B.1 = (fun _ _ => 0) ∧ B.2 = fun _ _ => 0) → mm_jv kz B X → call fl mi As X = some (o, X') → callP mi As (mm_sem B X) (fun o1 w1 => o1 = o ∧ w1 = mm_sem B X' ∧ mm_gd kz B fl X X')
variable {call : mm_EC} {callP : mm_F} {fl : Bool} {lim : Nat × Nat}
theorem mm_einv_s (hc : mm_mono callP) (hcall : mm_ok kz B call callP) (hB : fl = true → B.1 = (fun _ _ => 0) ∧ B.2 = fun _ _ => 0) {mi : Nat} {ls : List (Option mm_V)} {As rest : List mm_V} {X : mm_X} (hI : mm_jv kz B X) {k : List mm_V → mm_X → Option ρ} {k' : List mm_V → mm_W → Prop} (hk : ∀ r X', k r X' = some z → mm_gd kz B fl X X' → k' r (mm_sem B X')) (h : mm_einv call fl lim mi ls As rest X k = some z) : mm_inv callP mm_ms lim mi ls As rest (mm_sem B X) k' := by
  unfold mm_einv at h
  unfold mm_inv
  split at h
  · rename_i f M n h1 h2
    obtain ⟨h3, -⟩ := mm_eL_at h2
    rw [h1, h3]
    dsimp only
    split at h
    · rename_i h4
      rw [h4]
      dsimp only
      split at h
      · rename_i o X' h5
        refine hc _ _ _ _ _ (fun o1 w1 y => ?_) (hcall _ _ _ _ _ _ (fun q => by cases q) hI h5)
        obtain ⟨y1, y2, a2⟩ := y
        subst y1 y2
        exact ⟨a2.2 rfl, hk _ _ h ⟨a2.1, fun _ => a2.2 rfl⟩⟩
      · cases h
    · rename_i nn h4
      rw [h4]
      dsimp only
      split at h
      · rename_i h5 h6
        split at h
        · rename_i o X' h7
          split at h
          · rename_i h8 h9
            refine ⟨h5, mm_rmb_s h6, hc _ _ _ _ _ (fun o1 w1 y => ?_) (hcall _ _ _ _ _ _ (fun _ => hB rfl) hI h7)⟩
            obtain ⟨y1, y2, a2⟩ := y
            subst y1 y2
            exact ⟨Nat.eq_of_beq_eq_true h8, Nat.eq_of_beq_eq_true h9, hk _ _ h ⟨a2.1, fun q => by cases q⟩⟩
          · cases h
        · cases h
      · cases h
  · cases h
theorem mm_eivo_s (hc : mm_mono callP) (hcall : mm_ok kz B call callP) (hB : fl = true → B.1 = (fun _ _ => 0) ∧ B.2 = fun _ _ => 0) {mi g : Nat} {ls : List (Option mm_V)} {st : List mm_V} {X : mm_X} (hI : mm_jv kz B X) {k : List mm_V → mm_X → Option ρ} {k' : List mm_V → mm_W → Prop} (hk : ∀ r X', k r X' = some z → mm_gd kz B fl X X' → k' r (mm_sem B X')) (h : mm_eivo call fl lim mi g ls st X k = some z) : mm_ivo callP mm_ms lim mi g ls st (mm_sem B X) k' := by
  unfold mm_eivo at h
  unfold mm_ivo
  split at h
  · rename_i h1
    rw [h1]
    exact mm_einv_s hc hcall hB hI hk h
  · cases h
theorem mm_eivs_s (hc : mm_mono callP) (hcall : mm_ok kz B call callP) (hB : fl = true → B.1 = (fun _ _ => 0) ∧ B.2 = fun _ _ => 0) {ax : List (Nat × Nat)} {g : Nat} {ls : List (Option mm_V)} {st : List mm_V} {X : mm_X} (hI : mm_jv kz B X) {k : List mm_V → mm_X → Option ρ} {k' : List mm_V → mm_W → Prop} (hk : ∀ r X', k r X' = some z → mm_gd kz B fl X X' → k' r (mm_sem B X')) (h : mm_eivs call fl lim ax g ls st X k = some z) : mm_ivs callP mm_ms lim ax g ls st (mm_sem B X) k' := by
  unfold mm_eivs at h
  unfold mm_ivs
  split at h
  · exact mm_eivo_s hc hcall hB hI hk h
  · exact mm_eivo_s hc hcall hB hI hk h
  · refine mm_e2i_s (fun x y r q => mm_eb8_s (fun q2 => ?_) q) h
    split at q2
    · rename_i q3
      rw [if_pos (mm_lb_t q3)]
      exact hk _ _ q2 ⟨hI, fun _ => rfl⟩
    · rename_i q3
      rw [if_neg (mm_lb_f q3)]
      exact hk _ _ q2 ⟨hI, fun _ => rfl⟩
  · refine mm_e2i_s (fun x y r q => mm_eb8_s (fun q2 => ?_) q) h
    split at q2
    · rename_i q3
      rw [if_pos (mm_lb_t q3)]
      exact hk _ _ q2 ⟨hI, fun _ => rfl⟩
    · rename_i q3
      rw [if_neg (mm_lb_f q3)]
      exact hk _ _ q2 ⟨hI, fun _ => rfl⟩
  · refine mm_e2l_s (fun x y r q => mm_eb8_s (fun q2 => ?_) q) h
    rw [mm_fd_e] at q2
    exact hk _ _ q2 ⟨hI, fun _ => rfl⟩
  · cases h
theorem mm_eivv_s (hc : mm_mono callP) (hcall : mm_ok kz B call callP) (hB : fl = true → B.1 = (fun _ _ => 0) ∧ B.2 = fun _ _ => 0) {ax : List (Nat × Nat)} {g : Nat} {ls : List (Option mm_V)} {st : List mm_V} {X : mm_X} (hI : mm_jv kz B X) {k : List mm_V → mm_X → Option ρ} {k' : List mm_V → mm_W → Prop} (hk : ∀ r X', k r X' = some z → mm_gd kz B fl X X' → k' r (mm_sem B X')) (h : mm_eivv call fl lim ax g ls st X k = some z) : mm_ivv callP mm_ms lim ax g ls st (mm_sem B X) k' := by
  unfold mm_eivv at h
  unfold mm_ivv
  split at h
  · rename_i As r rest h1
    rw [h1]
    dsimp only
    split at h
    · rename_i ci fs h2
      show (match X.1[r]? with | some (.inl (ci, _)) => (match mm_fi ax ci with | some mi => mm_inv callP mm_ms lim mi ls (mm_R r :: As) rest (mm_sem B X) k' | none => False) | _ => False)
      rw [h2]
      dsimp only
      split at h
      · rename_i h3
        rw [h3]
        exact mm_einv_s hc hcall hB hI hk h
      · cases h
    · cases h
  · cases h
theorem mm_eivi_s (hc : mm_mono callP) (hcall : mm_ok kz B call callP) (hB : fl = true → B.1 = (fun _ _ => 0) ∧ B.2 = fun _ _ => 0) {ax : List (Nat × Nat)} {g : Nat} {ls : List (Option mm_V)} {st : List mm_V} {X : mm_X} (hI : mm_jv kz B X) {k : List mm_V → mm_X → Option ρ} {k' : List mm_V → mm_W → Prop} (hk : ∀ r X', k r X' = some z → mm_gd kz B fl X X' → k' r (mm_sem B X')) (h : mm_eivi call fl lim ax g ls st X k = some z) : mm_ivi callP mm_ms lim ax g ls st (mm_sem B X) k' := by
  unfold mm_eivi at h
  unfold mm_ivi
  split at h
  · rename_i h1
    rw [h1]
    exact mm_einv_s hc hcall hB hI hk h
  · rename_i h1
    rw [h1]
    dsimp only
    split at h
    · rename_i h2
      rw [h2]
      exact hk _ _ h ⟨hI, fun _ => rfl⟩
    · cases h
  · cases h
theorem mm_est_s {M : mm_M} {f : Nat → mm_E} {n : Nat} {L : Nat} {xs : Nat → Int32} {Q : Option mm_V → mm_W → Prop} {K' : mm_K} {q : Option mm_V → mm_X → Option ρ} {K : Nat → List (Option mm_V) → List mm_V → mm_X → Option ρ} {pc : Nat} {ls : List (Option mm_V)} {st : List mm_V} {X : mm_X} (hf : mm_Mc M = (List.range n).map f) (hc : mm_mono callP) (hcall : mm_ok kz B call callP) (hB : fl = true → B.1 = (fun _ _ => 0) ∧ B.2 = fun _ _ => 0) (hI : mm_jv kz B X)
    (hq : ∀ o X', q o X' = some z → mm_gd kz B fl X X' → Q o (mm_sem B X')) (hK : ∀ pc ls st X', K pc ls st X' = some z → mm_gd kz B fl X X' → K' pc ls st (mm_sem B X')) (h : mm_est kz call f n (mm_Mr M) lim fl q K pc ls st X = some z) : mm_stp callP mm_ms (mm_tb L xs) M lim Q K' pc ls st (mm_sem B X) := by
  have hK0 : ∀ pc ls st, K pc ls st X = some z → K' pc ls st (mm_sem B X) := fun _ _ _ w => hK _ _ _ _ w ⟨hI, fun _ => rfl⟩
  have hKc : ∀ pc ls st x, mm_fc x (fun y => K pc ls (mm_I y :: st) X) = some z → K' pc ls (mm_I x :: st) (mm_sem B X) := fun _ _ _ _ w => by rw [mm_fc_e] at w; exact hK0 _ _ _ w
  have hKd : ∀ pc ls st x, mm_fd x (fun y => K pc ls (mm_L y :: st) X) = some z → K' pc ls (mm_L x :: st) (mm_sem B X) := fun _ _ _ _ w => by rw [mm_fd_e] at w; exact hK0 _ _ _ w
  have hKl : ∀ pc ls st, mm_fl ls (fun ls' => K pc ls' st X) = some z → K' pc ls st (mm_sem B X) := fun _ _ _ w => by rw [mm_fl_e] at w; exact hK0 _ _ _ w
  unfold mm_est at h
  split at h
  · cases h
  · rename_i hle
    have hlt : pc < n := by
      rcases Nat.lt_or_ge pc n with q | q
      · exact q
      · rw [Nat.ble_eq_true_of_le q] at hle
        cases hle
    have hget : (mm_Mc M).getD pc mm_nop = f pc := by
      rw [hf, List.getD_eq_getElem?_getD, List.getElem?_map, List.getElem?_range hlt]
      rfl
    unfold mm_stp
    rw [hget]
    generalize f pc = e0 at h
    obtain ⟨i, len, ax, ps, g, c1, c8, q0⟩ := e0
    dsimp only at h ⊢
    rw [mm_fn_e] at h
    cases i with
    | iconst n => exact hKc _ _ _ _ h
    | bipush n => exact hKc _ _ _ _ h
    | sipush n => exact hKc _ _ _ _ h
    | ldc n => exact hKc _ _ _ _ h
    | lconst n => exact hKd _ _ _ _ h
    | ldc2_w n => exact hKd _ _ _ _ h
    | iload n => exact mm_eoI_s (fun _ => hK0 _ _ _) h
    | iload_n n => exact mm_eoI_s (fun _ => hK0 _ _ _) h
    | lload n => exact mm_eoL_s (fun _ => hK0 _ _ _) h
    | lload_n n => exact mm_eoL_s (fun _ => hK0 _ _ _) h
    | aload n => exact mm_eoA_s (fun _ => hK0 _ _ _) h
    | aload_n n => exact mm_eoA_s (fun _ => hK0 _ _ _) h
    | istore n => exact mm_e1i_s (fun _ _ => hKl _ _ _) h
    | istore_n n => exact mm_e1i_s (fun _ _ => hKl _ _ _) h
    | lstore n => exact mm_e1l_s (fun _ _ => hKl _ _ _) h
    | lstore_n n => exact mm_e1l_s (fun _ _ => hKl _ _ _) h
    | astore_n n => exact mm_e1r_s (fun _ _ => hKl _ _ _) h
    | astore n => exact mm_e1r_s (fun _ _ => hKl _ _ _) h
    | iinc a b => exact mm_eoI_s (fun x w => by rw [mm_fc_e] at w; exact hKl _ _ _ w) h
    | iadd => exact mm_e2i_s (fun _ _ _ => hKc _ _ _ _) h
    | isub => exact mm_e2i_s (fun _ _ _ => hKc _ _ _ _) h
    | imul => exact mm_e2i_s (fun _ _ _ => hKc _ _ _ _) h
    | irem =>
      refine mm_e2i_s (fun x y r w => ?_) h
      split at w
      · cases w
      · rename_i w2
        exact ⟨mm_qb_f w2, hKc _ _ _ _ w⟩
    | iand => exact mm_e2i_s (fun _ _ _ => hKc _ _ _ _) h
    | ior => exact mm_e2i_s (fun _ _ _ => hKc _ _ _ _) h
    | ixor => exact mm_e2i_s (fun _ _ _ => hKc _ _ _ _) h
    | ishl => exact mm_e2i_s (fun _ _ _ => hKc _ _ _ _) h
    | ishr => exact mm_e2i_s (fun _ _ _ => hKc _ _ _ _) h
    | ladd => exact mm_e2l_s (fun _ _ _ => hKd _ _ _ _) h
    | lsub => exact mm_e2l_s (fun _ _ _ => hKd _ _ _ _) h
    | lmul => exact mm_e2l_s (fun _ _ _ => hKd _ _ _ _) h
    | lcmp => exact mm_e2l_s (fun _ _ _ => hKc _ _ _ _) h
    | i2l => exact mm_e1i_s (fun _ _ => hKd _ _ _ _) h
    | l2i => exact mm_e1l_s (fun _ _ => hKc _ _ _ _) h
    | dup => exact mm_e1c_s (fun _ _ => hK0 _ _ _) h
    | pop => exact mm_e1c_s (fun _ _ => hK0 _ _ _) h
    | dup_x1 => exact mm_e1c_s (fun _ _ => mm_e1c_s (fun _ _ => hK0 _ _ _)) h
    | dup2 => exact mm_e1c_s (fun _ _ => mm_e1c_s (fun _ _ => hK0 _ _ _)) h
    | goto o => exact mm_et1_s (fun _ => hK0 _ _ _) h
    | ifCond cd o => exact mm_et1_s (fun _ => mm_e1i_s (fun _ _ => mm_eif_s (hK0 _ _ _) (hK0 _ _ _))) h
    | if_icmp cd o => exact mm_et1_s (fun _ => mm_e2i_s (fun _ _ _ => mm_eic_s (hK0 _ _ _) (hK0 _ _ _))) h
    | tableswitch a b c d => exact mm_e1i_s (fun _ _ => mm_ecas_s (fun _ => hK0 _ _ _)) h
    | lookupswitch a b => exact mm_e1i_s (fun _ _ => mm_ecas_s (fun _ => hK0 _ _ _)) h
    | getfield n => exact mm_e1r_s (fun _ _ => mm_egf_s hI (fun _ => hK0 _ _ _)) h
    | putfield n =>
      dsimp only at h ⊢
      split at h
      · exact mm_epf_s hI (fun _ => hK _ _ _ _) h
      · cases h
    | getstatic n => exact mm_et1_s (fun _ => hK0 _ _ _) h
    | iaload => exact mm_eild_s hI (fun _ _ => hK0 _ _ _) h
    | laload => exact mm_elld_s hI (fun _ _ => hK0 _ _ _) h
    | baload => exact mm_ebld_s hI (fun _ _ => hK0 _ _ _) h
    | aaload => exact mm_eqld_s (fun _ _ => hK0 _ _ _) h
    | iastore => exact mm_eist_s hI (fun _ _ => hK _ _ _ _) h
    | bastore => exact mm_eist_s hI (fun _ _ => hK _ _ _ _) h
    | lastore => exact mm_elst_s hI (fun _ _ => hK _ _ _ _) h
    | arraylength => exact mm_elen_s (fun _ _ => hKc _ _ _ _) h
    | new n => exact mm_enew_s hB hI (fun _ _ => hK _ _ _ _) h
    | newarray a => exact mm_enar_s hB hI (fun _ _ _ => hK _ _ _ _) h
    | multianewarray a b => exact mm_enmu_s hB hI (fun _ _ _ => hK _ _ _ _) h
    | invokestatic n => exact mm_eivs_s hc hcall hB hI (fun _ _ => hK _ _ _ _) h
    | invokevirtual n => exact mm_eivv_s hc hcall hB hI (fun _ _ => hK _ _ _ _) h
    | invokespecial n => exact mm_eivi_s hc hcall hB hI (fun _ _ => hK _ _ _ _) h
    | ireturn => exact mm_eirt_s (fun _ w => hq _ _ w ⟨hI, fun _ => rfl⟩) h
    | lreturn => exact mm_elrt_s (fun _ w => hq _ _ w ⟨hI, fun _ => rfl⟩) h
    | return_ => exact mm_evrt_s (fun w => hq _ _ w ⟨hI, fun _ => rfl⟩) h
    | _ => cases h
end MMS
theorem mm_evl_s {kz : Nat → Bool} {B : mm_B} {call : mm_EC} {callP : mm_F} {M : mm_M} {f : Nat → mm_E} {n : Nat} {L : Nat} {xs : Nat → Int32} {lim : Nat × Nat} {fl : Bool} (hf : mm_Mc M = (List.range n).map f) (hc : mm_mono callP) (hcall : mm_ok kz B call callP) (hB : fl = true → B.1 = (fun _ _ => 0) ∧ B.2 = fun _ _ => 0) {o : Option mm_V} {X' : mm_X} (X0 : mm_X) : ∀ (k pc : Nat) (ls : List (Option mm_V)) (st : List mm_V) (X : mm_X), mm_gd kz B fl X0 X → mm_evl kz call f n (mm_Mr M) lim fl k pc ls st X = some (o, X') → mm_WP callP mm_ms (mm_tb L xs) M lim (fun o1 w1 => o1 = o ∧ w1 = mm_sem B X' ∧ mm_gd kz B fl X0 X') pc ls st (mm_sem B X)
  | 0, _, _, _, _, _, h => by cases h
  | k + 1, pc, ls, st, X, hg, h => by
    have h0 : mm_est kz call f n (mm_Mr M) lim fl (fun o X' => some (o, X')) (mm_evl kz call f n (mm_Mr M) lim fl k) pc ls st X = some (o, X') := h
    refine mm_WP_s hc (mm_est_s hf hc hcall hB hg.1 (fun o1 X1 e g => ?_) (fun pc1 ls1 st1 X1 e g => mm_evl_s hf hc hcall hB X0 k pc1 ls1 st1 X1 ⟨g.1, fun q => (g.2 q).trans (hg.2 q)⟩ e) h0)
    cases e
    exact ⟨rfl, rfl, g.1, fun q => (g.2 q).trans (hg.2 q)⟩
theorem mm_evp_s {kz : Nat → Bool} {B : mm_B} {call : mm_EC} {callP : mm_F} {M : mm_M} {f : Nat → mm_E} {n : Nat} {L : Nat} {xs : Nat → Int32} {lim : Nat × Nat} {fl : Bool} {Q : Option mm_V → mm_W → Prop} (hf : mm_Mc M = (List.range n).map f) (hc : mm_mono callP) (hcall : mm_ok kz B call callP) (hB : fl = true → B.1 = (fun _ _ => 0) ∧ B.2 = fun _ _ => 0) {stop : Nat} {ls' : List (Option mm_V)} {st' : List mm_V} {X' : mm_X} (hW : mm_WP callP mm_ms (mm_tb L xs) M lim Q stop ls' st' (mm_sem B X')) : ∀ (k pc : Nat) (ls : List (Option mm_V)) (st : List mm_V) (X : mm_X), mm_jv kz B X → mm_evp kz call f n (mm_Mr M) lim fl stop k pc ls st X = some (ls', st', X') → mm_WP callP mm_ms (mm_tb L xs) M lim Q pc ls st (mm_sem B X)
  | 0, _, _, _, _, _, h => by cases h
  | k + 1, pc, ls, st, X, hg, h => by
    have h0 : (match Nat.beq pc stop with
      | true => some (ls, st, X)
      | false => mm_est kz call f n (mm_Mr M) lim fl (fun _ _ => none) (mm_evp kz call f n (mm_Mr M) lim fl stop k) pc ls st X) = some (ls', st', X') := h
    split at h0
    · rename_i q
      cases h0
      rw [Nat.eq_of_beq_eq_true q]
      exact hW
    · exact mm_WP_s hc (mm_est_s hf hc hcall hB hg (fun o1 X1 e g => by cases e) (fun pc1 ls1 st1 X1 e g => mm_evp_s hf hc hcall hB hW k pc1 ls1 st1 X1 g.1 e) h0)
theorem mm_evc_s {kz : Nat → Bool} {B : mm_B} {L : Nat} {xs : Nat → Int32} : ∀ d : Nat, mm_ok kz B (mm_evc kz d) (mm_call mm_ms (mm_tb L xs) d)
  | 0 => fun _ _ _ _ _ _ _ _ h => by cases h
  | d + 1 => fun fl mi As X o X' hB hI h => by
    have h0 : (match mm_eL[mi]? with
      | some (f, M, n) => (match Nat.ble (mm_ar As).length (mm_Ml M) with
        | true => mm_fl (mm_ini (mm_Ml M) As) (fun ls => mm_evl kz (mm_evc kz d) f n (mm_Mr M) (X.1.length + mm_Mk M, mm_sl X.1 + mm_Ms M) fl 100000 0 ls [] X)
        | false => none)
      | none => none) = some (o, X') := h
    split at h0
    · rename_i f M n h1
      obtain ⟨h2, h3⟩ := mm_eL_at h1
      split at h0
      · rename_i h4
        rw [mm_fl_e] at h0
        exact mm_call_of h2 h4 (mm_evl_s h3 (mm_call_m d) (mm_evc_s d) hB X 100000 0 _ [] X ⟨hI, fun _ => rfl⟩ h0)
      · cases h0
    · cases h0
